section SHEETS
variable {n : Int} {m : Sg}
theorem f219l_s (L : Nat) {mm : Sg} {s a v z : Int} (hs : 0 ≤ s ∧ s ≤ 3) (hz : 0 ≤ z ∧ z ≤ 40) (ha : a < 2147483648) (ha0 : 0 < v → 0 ≤ a) (hv : 0 ≤ v ∧ v ≤ 10) (hn : mm 120 1 = n) (h4 : 4 ≤ n) (h10 : n ≤ 10) (hz2 : mm 143 s = z) (hi : ∀ i, 0 ≤ i → i < z → mm 144 (40 * s + i) = m 45 (40 * s + i)) (hk : ∀ i, 0 ≤ i → i < n → 0 ≤ mm 121 (120 + i)) : ∃ q, lp (f219_b47 (GC L) RC 120 s a v) FU (0, 0, mm) = some q ∧ ∃ (k : Nat) (w : Int) (m1 : Sg), q = (w, m1) ∧ lend n s a v m z k w ∧ (∀ j, m1 121 (120 + j) = if (0 ≤ j ∧ j < (k : Int)) ∧ lok n s a m j = true then m 45 (40 * s + a + 2 * j) else mm 121 (120 + j)) ∧ (∀ j, m1 122 (120 + j) = if (0 ≤ j ∧ j < (k : Int)) ∧ lok n s a m j = true then m 45 (40 * s + a + 2 * j + 1) else mm 122 (120 + j)) ∧ ∀ x i, ¬ ((x = 121 ∨ x = 122) ∧ 120 ≤ i ∧ i < 130) → m1 x i = mm x i := by
  obtain ⟨N, hN⟩ : ∃ N : Nat, v = (N : Int) := ⟨v.toNat, by omega⟩
  refine lp_ex (f := f219_b47 (GC L) RC 120 s a v) (fun (k : Nat) st => ∃ m1, st = (lcn n s a m k, (k : Int), m1) ∧ (∀ j : Nat, j < k → ¬ lfl a z j) ∧ (∀ j, m1 121 (120 + j) = if (0 ≤ j ∧ j < (k : Int)) ∧ lok n s a m j = true then m 45 (40 * s + a + 2 * j) else mm 121 (120 + j)) ∧ (∀ j, m1 122 (120 + j) = if (0 ≤ j ∧ j < (k : Int)) ∧ lok n s a m j = true then m 45 (40 * s + a + 2 * j + 1) else mm 122 (120 + j)) ∧ ∀ x i, ¬ ((x = 121 ∨ x = 122) ∧ 120 ≤ i ∧ i < 130) → m1 x i = mm x i) N ?_ ?_ FU (by rw [FU_v]; omega) (0, 0, mm) ⟨mm, rfl, fun j q => by omega, fun j => by rw [if_neg (by omega)], fun j => by rw [if_neg (by omega)], fun _ _ _ => rfl⟩
  · rintro k st hk2 ⟨m1, rfl, i0, i1, i2, i3⟩
    have a0 : 0 ≤ a := ha0 (by omega)
    have e143 : m1 143 s = z := by rw [i3 143 s (by omega)]; exact hz2
    have e2 : g_mul 2 (k : Int) = 2 * k := by unfold g_mul; rw [w32_i (by omega) (by omega)]
    have es : g_sub (g_sub z (2 * (k : Int))) 2 = z - 2 * k - 2 := by
      unfold g_sub
      rw [w32_i (x := z - 2 * (k : Int)) (by omega) (by omega), w32_i (by omega) (by omega)]
    by_cases fl : lfl a z k
    · refine Or.inr ⟨(-12, m1), ?_, k, -12, m1, rfl, ⟨i0, by omega, Or.inr ⟨by omega, fl, rfl⟩⟩, i1, i2, i3⟩
      unfold f219_b47
      simp only [KG L, KR, KL L, if_true]
      unfold lfl at fl
      rw [if_pos (by omega), if_pos (by omega), e143, e2, es, if_pos (by omega), xr_some]
    · left
      have gd : 0 ≤ a ∧ a + 2 * (k : Int) + 2 ≤ z := Classical.not_not.mp fl
      have i0' : ∀ j : Nat, j < k + 1 → ¬ lfl a z j := fun j q => by
        by_cases y : j = k
        · rw [y]; exact fl
        · exact i0 j (by omega)
      have ei : g_add (g_add (g_mul 40 s) a) (2 * (k : Int)) = 40 * s + a + 2 * k := ix3_s hs (by omega) (by omega)
      have ei1 : g_add (40 * s + a + 2 * (k : Int)) 1 = 40 * s + a + 2 * k + 1 := by unfold g_add; rw [w32_i (by omega) (by omega)]
      have r1 : m1 144 (40 * s + a + 2 * k) = m 45 (40 * s + a + 2 * k) := by
        rw [i3 144 _ (by omega)]
        have q := hi (a + 2 * k) (by omega) (by omega)
        rw [show 40 * s + (a + 2 * (k : Int)) = 40 * s + a + 2 * k from by omega] at q
        exact q
      have r2 : m1 144 (40 * s + a + 2 * k + 1) = m 45 (40 * s + a + 2 * k + 1) := by
        rw [i3 144 _ (by omega)]
        have q := hi (a + 2 * k + 1) (by omega) (by omega)
        rw [show 40 * s + (a + 2 * (k : Int) + 1) = 40 * s + a + 2 * k + 1 from by omega] at q
        exact q
      have p47 := f147_l L (m := m1) (k := (k : Int)) (x := m 45 (40 * s + a + 2 * k)) (y := m 45 (40 * s + a + 2 * k + 1)) (n := n) (by rw [i3 120 1 (by omega)]; exact hn) h4 h10 (by omega)
      have cb := lcn_b n s a m k
      by_cases ok : lok n s a m k = true
      · have o := lok_t.1 ok
        have old : 0 ≤ m1 121 (120 + (k : Int)) := by rw [i1, if_neg (by omega)]; exact hk k (by omega) o.1
        refine ⟨(lcn n s a m k + 1, (k : Int) + 1, put (put m1 121 (120 + (k : Int)) (m 45 (40 * s + a + 2 * k))) 122 (120 + (k : Int)) (m 45 (40 * s + a + 2 * k + 1))), ?_, put (put m1 121 (120 + (k : Int)) (m 45 (40 * s + a + 2 * k))) 122 (120 + (k : Int)) (m 45 (40 * s + a + 2 * k + 1)), ?_, i0', fun j => ?_, fun j => ?_, fun x i d => ?_⟩
        · unfold f219_b47
          simp only [KG L, KR, KL L, if_true]
          rw [if_pos (by omega), if_pos (by omega), e143, e2, es, if_neg (by omega), ei, ei1, if_pos (by omega), if_pos (by omega), r1, r2, bnd (p47.1 o)]
          simp only
          rw [if_neg (by omega), w32_i (by omega) (by omega), w32_i (by omega) (by omega)]
        · rw [show lcn n s a m (k + 1) = lcn n s a m k + 1 from if_pos ok]; rfl
        · rw [put_ne (by decide), put_as]
          by_cases e : j = (k : Int)
          · rw [if_pos (by omega), e, if_pos ⟨by omega, ok⟩]
          · rw [if_neg (by omega), i1]
            by_cases y : (0 ≤ j ∧ j < (k : Int)) ∧ lok n s a m j = true
            · rw [if_pos y, if_pos ⟨by omega, y.2⟩]
            · rw [if_neg y, if_neg (fun q => y ⟨by omega, q.2⟩)]
        · rw [put_as]
          by_cases e : j = (k : Int)
          · rw [if_pos (by omega), e, if_pos ⟨by omega, ok⟩]
          · rw [if_neg (by omega), put_ne (by decide), i2]
            by_cases y : (0 ≤ j ∧ j < (k : Int)) ∧ lok n s a m j = true
            · rw [if_pos y, if_pos ⟨by omega, y.2⟩]
            · rw [if_neg y, if_neg (fun q => y ⟨by omega, q.2⟩)]
        · rw [show put (put m1 121 (120 + (k : Int)) (m 45 (40 * s + a + 2 * k))) 122 (120 + (k : Int)) (m 45 (40 * s + a + 2 * k + 1)) x i = m1 x i from by unfold put; rw [if_neg (by omega), if_neg (by omega)]]
          exact i3 x i d
      · have st : f219_b47 (GC L) RC 120 s a v (lcn n s a m k, (k : Int), m1) = some (Sum.inl (lcn n s a m k, (k : Int) + 1, m1)) := by
          unfold f219_b47
          simp only [KG L, KR, KL L, if_true]
          rw [if_pos (by omega), if_pos (by omega), e143, e2, es, if_neg (by omega), ei, ei1, if_pos (by omega), if_pos (by omega), r1, r2, bnd (p47.2 (fun q => ok (lok_t.2 q)))]
          simp only
          rw [if_pos (by omega), w32_i (by omega) (by omega)]
        refine ⟨_, st, m1, ?_, i0', fun j => ?_, fun j => ?_, i3⟩
        · rw [show lcn n s a m (k + 1) = lcn n s a m k from if_neg ok]; rfl
        · rw [i1]
          by_cases y : (0 ≤ j ∧ j < (k : Int)) ∧ lok n s a m j = true
          · rw [if_pos y, if_pos ⟨by omega, y.2⟩]
          · rw [if_neg y, if_neg (fun q => y ⟨⟨q.1.1, by
              by_cases e : j = (k : Int)
              · exact absurd (e ▸ q.2) ok
              · omega⟩, q.2⟩)]
        · rw [i2]
          by_cases y : (0 ≤ j ∧ j < (k : Int)) ∧ lok n s a m j = true
          · rw [if_pos y, if_pos ⟨by omega, y.2⟩]
          · rw [if_neg y, if_neg (fun q => y ⟨⟨q.1.1, by
              by_cases e : j = (k : Int)
              · exact absurd (e ▸ q.2) ok
              · omega⟩, q.2⟩)]
  · rintro st ⟨m1, rfl, i0, i1, i2, i3⟩
    refine ⟨(lcn n s a m N, m1), ?_, N, _, m1, rfl, ⟨i0, by omega, Or.inl ⟨hN.symm, rfl⟩⟩, i1, i2, i3⟩
    unfold f219_b47
    simp only
    rw [if_neg (by omega), xr_some]
theorem k32 (L : Nat) (h : Rel n m) (s k a v : Int) (ha : -2147483648 ≤ a ∧ a < 2147483648) : ∃ w m1 m2, f128 (GC L) RC 1 s k a v m = some (w, m1) ∧ m1 0 = m 0 ∧ f219 (GC L) RC 120 s k a v m1 = some (w, m2) ∧ m2 0 = m 0 ∧ Rel n m2 := by
  obtain ⟨hn, h4, h10, hN, hA, hn2, hN2, hal, hc⟩ := hand_s h
  by_cases c1 : 0 ≤ s ∧ s ≤ 3
  rotate_left
  · refine ⟨-2, m, m, ?_, rfl, ?_, rfl, h⟩
    · unfold f128; rw [bnd (f136_s.2 c1), if_pos rfl]
    · unfold f219; rw [bnd (f215_s.2 c1), if_pos rfl]
  by_cases c2 : 0 ≤ k ∧ k ≤ 2
  rotate_left
  · refine ⟨-2, m, m, ?_, rfl, ?_, rfl, h⟩
    · unfold f128; rw [bnd (f136_s.1 c1), if_neg (by exact n10), bnd (f137_s.2 c2), if_pos rfl]
    · unfold f219; rw [bnd (f215_s.1 c1), if_neg (by exact n10), bnd (f143_s.2 c2), if_pos rfl]
  by_cases c3 : 0 ≤ v ∧ v ≤ 10
  rotate_left
  · refine ⟨-2, m, m, ?_, rfl, ?_, rfl, h⟩
    · unfold f128; rw [bnd (f136_s.1 c1), if_neg (by exact n10), bnd (f137_s.1 c2), if_neg (by exact n10)]
      by_cases q : v < 0
      · rw [if_pos q]
      · rw [if_neg q, if_pos (by omega)]
    · unfold f219; rw [bnd (f215_s.1 c1), if_neg (by exact n10), bnd (f143_s.1 c2), if_neg (by exact n10), bnd (f143_s.2 c3), if_pos rfl]
  rcases sht_s h c1 with ⟨q1, q2⟩ | ⟨q1, q2, q3, q4, q5, q6, q7, q8, q9⟩
  · refine ⟨-11, m, m, ?_, rfl, ?_, rfl, h⟩
    · unfold f128 f128_27
      simp only [KG L, KR, if_true]
      rw [bnd (f136_s.1 c1), if_neg (by exact n10), bnd (f137_s.1 c2), if_neg (by exact n10), if_neg (by omega), if_neg (by omega), bnd (f48_s L c1), if_pos q1, if_neg (by exact n10), bnd (f48_s L c1), if_pos q1, if_neg (by exact n10)]
    · unfold f219 f219_30
      simp only [KG L, KR, KL L, if_true]
      rw [bnd (f215_s.1 c1), if_neg (by exact n10), bnd (f143_s.1 c2), if_neg (by exact n10), bnd (f143_s.1 c3), if_neg (by exact n10), if_pos (by omega), if_pos q2, if_pos (by omega), if_pos q2]
  have C : f128 (GC L) RC 1 s k a v m = (if m 47 s = k then lp (f128_b38 (GC L) RC 1 s a v) FU (0, 0, m) else some (-13, m)) := by
    unfold f128 f128_27
    simp only [KG L, KR, RAx L, if_true]
    rw [bnd (f136_s.1 c1), if_neg (by exact n10), bnd (f137_s.1 c2), if_neg (by exact n10), if_neg (by omega), if_neg (by omega), bnd (f48_s L c1), if_neg q2, if_pos rfl, ra_in c1.1 (by omega), bnd rfl, bnd (f48_s L c1), if_neg q2, if_pos rfl]
  have M : ∀ m1 : Sg, (∀ x, ¬ x = 56 → ¬ x = 58 → m1 x = m x) → f219 (GC L) RC 120 s k a v m1 = (if m 47 s = k then (if 0 < v then (if a < 0 then some (-12, m1) else lp (f219_b47 (GC L) RC 120 s a v) FU (0, 0, m1)) else lp (f219_b47 (GC L) RC 120 s a v) FU (0, 0, m1)) else some (-13, m1)) := by
    intro m1 e
    unfold f219 f219_30
    simp only [KG L, KR, KL L, if_true]
    rw [bnd (f215_s.1 c1), if_neg (by exact n10), bnd (f143_s.1 c2), if_neg (by exact n10), bnd (f143_s.1 c3), if_neg (by exact n10), if_pos (by omega), e 141 (by decide) (by decide), e 142 (by decide) (by decide), if_neg (by omega), if_pos (by omega), q5]
    by_cases z : m 47 s = k
    · rw [if_pos z, if_pos z, if_pos (by omega), if_neg (by omega)]
    · rw [if_neg z, if_neg z]
  by_cases c4 : m 47 s = k
  rotate_left
  · exact ⟨-13, m, m, by rw [C, if_neg c4], rfl, by rw [M m (fun _ _ _ => rfl), if_neg c4], rfl, h⟩
  rw [if_pos c4] at C
  obtain ⟨q, x1, j, w, m1, rfl, x3, x4, x5, x6⟩ := f128l_s L (m := m) (a := a) (v := v) c1 ⟨q7, q8⟩ ha c3 hn h10
  have M1 := M m1 x6
  rw [if_pos c4] at M1
  by_cases c5 : 0 < v ∧ a < 0
  · rw [if_pos c5.1, if_pos c5.2] at M1
    -- nothing was laid
    obtain ⟨b1, b2, b3⟩ := x3
    have j0 : j = 0 := by
      rcases Nat.eq_zero_or_pos j with z | z
      · exact z
      · have := b1 0 z
        unfold lfl at this
        omega
    have hw : w = -12 := by
      rcases b3 with b3 | b3
      · rw [j0] at b3; omega
      · exact b3.2.2
    have e1 : m1 = m := funext fun x => by
      by_cases d1 : x = 56
      · rw [d1]; exact funext fun i => by rw [x4, if_neg (by omega)]
      · by_cases d2 : x = 58
        · rw [d2]; exact funext fun i => by rw [x5, if_neg (by omega)]
        · exact x6 x d1 d2
    rw [e1] at M1 x1
    exact ⟨-12, m, m, by rw [C, x1, hw], rfl, M1, rfl, h⟩
  · have M2 : f219 (GC L) RC 120 s k a v m1 = lp (f219_b47 (GC L) RC 120 s a v) FU (0, 0, m1) := by
      rw [M1]
      by_cases z : 0 < v
      · rw [if_pos z, if_neg (fun q => c5 ⟨z, q⟩)]
      · rw [if_neg z]
    have R := h.2.1.1
    obtain ⟨q, y1, j', w', m2, rfl, y3, y4, y5, y6⟩ := f219l_s L (m := m) (mm := m1) (s := s) (a := a) (v := v) (z := m 49 s) (n := n) c1 ⟨q7, q8⟩ ha.2 (fun q => by omega) c3 (by rw [x6 120 (by decide) (by decide)]; exact hn2) h4 h10 (by rw [x6 143 (by decide) (by decide)]; exact q6) (fun i i0 i1 => by rw [x6 144 (by decide) (by decide)]; exact q9 i i0 i1) (fun i i0 i1 => by
      have r := R i i0 i1
      rw [x6 121 (by decide) (by decide)]; omega)
    obtain ⟨u1, u2⟩ := lend_u x3 y3
    subst u1
    subst u2
    have g56 : ∀ i, m2 56 i = m1 56 i := fun i => y6 56 i (by omega)
    have g58 : ∀ i, m2 58 i = m1 58 i := fun i => y6 58 i (by omega)
    obtain ⟨l1, l2⟩ := Rel_H (m' := m2) h ⟨fun i i0 i1 => by
      obtain ⟨r1, r2, r3, r4, r5, r6⟩ := R i i0 i1
      rw [y4, y5, g56, g58, x4, x5, x6 121 (by decide) (by decide), x6 122 (by decide) (by decide), r1, r2]
      by_cases z : (0 ≤ i ∧ i < (j : Int)) ∧ lok n s a m i = true
      · rw [if_pos z, if_pos z]
        have o := lok_t.1 z.2
        exact ⟨rfl, rfl, o.2.1.1, o.2.1.2, o.2.2.1, o.2.2.2⟩
      · rw [if_neg z, if_neg z]
        exact ⟨rfl, rfl, r3, r4, r5, r6⟩, by
      rw [y6 123 12 (by omega), y6 54 3 (by omega), x6 123 (by decide) (by decide), x6 54 (by decide) (by decide)]
      exact h.2.1.2⟩ (fun x i d1 d2 => by
      unfold sH at d2
      rw [y6 x i (by omega), x6 x (by omega) (by omega)])
    exact ⟨w, m1, m2, by rw [C, x1], x6 0 (by decide) (by decide), by rw [M2, y1], l1, l2⟩
end SHEETS
