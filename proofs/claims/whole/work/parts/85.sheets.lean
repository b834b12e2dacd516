/-! CASE 31: items moved -/
section SHEETS
variable {n : Int} {m : Sg}
theorem f53_s (L : Nat) {s a t b l : Int} (hs : 0 ≤ s ∧ s ≤ 3) (ht : 0 ≤ t ∧ t ≤ 3) (ha : 0 ≤ a ∧ 0 ≤ l ∧ a + l ≤ 40) (hb : 0 ≤ b ∧ b + l ≤ 40) : f53 (GC L) RC 43 s a t b l m = some (cpy m 45 (40 * s + a) 45 (40 * t + b) l) := by
  unfold f53 f54 f36
  simp only [KG L, KR, KL L, if_true]
  rw [bnd rfl, bnd rfl, (ix_s hs (by omega)).2, (ix_s ht (by omega)).2, if_neg (by omega), if_neg (by omega), if_neg (by omega)]
  unfold g_sub
  rw [w32_i (by omega) (by omega), if_neg (by omega), if_neg (by omega), if_pos (by omega), bnd rfl]
theorem ix3_s {s a i : Int} (hs : 0 ≤ s ∧ s ≤ 3) (ha : 0 ≤ a ∧ a ≤ 40) (hi : 0 ≤ i ∧ i ≤ 40) : g_add (g_add (g_mul 40 s) a) i = 40 * s + a + i := by
  unfold g_add g_mul
  rw [w32_i (x := 40 * s) (by omega) (by omega), w32_i (x := 40 * s + a) (by omega) (by omega), w32_i (by omega) (by omega)]
/-- the model's two loops move the items as one -/
theorem f218b_s (L : Nat) {s a t b l : Int} (hs : 0 ≤ s ∧ s ≤ 3) (ht : 0 ≤ t ∧ t ≤ 3) (ha : 0 ≤ a ∧ 0 ≤ l ∧ a + l ≤ 40) (hb : 0 ≤ b ∧ b + l ≤ 40) : ∃ m1, lp (f218_b57 (GC L) RC 120 s a t b l) FU (0, m) = some (l, m1) ∧ (∀ j, m1 144 j = if 40 * t + b ≤ j ∧ j < 40 * t + b + l then m 144 (40 * s + a + (j - (40 * t + b))) else m 144 j) ∧ ∀ x i, ¬ x = 144 → m1 x i = m x i := by
  obtain ⟨N, hN⟩ : ∃ N : Nat, l = (N : Int) := ⟨l.toNat, by omega⟩
  have el : g_sub l 1 = l - 1 := by unfold g_sub; rw [w32_i (by omega) (by omega)]
  by_cases c : s = t ∧ a < b
  · -- from the end
    have back : ∃ m1, lp (f218_b92 (GC L) RC 120 s a t b l) FU (l - 1, m) = some (l, m1) ∧ (∀ j, m1 144 j = if 40 * t + b ≤ j ∧ j < 40 * t + b + l then m 144 (40 * s + a + (j - (40 * t + b))) else m 144 j) ∧ ∀ x i, ¬ x = 144 → m1 x i = m x i := by
      obtain ⟨q, x1, m1, x2, x3, x4⟩ := lp_all (f := f218_b92 (GC L) RC 120 s a t b l) (Q := fun q => ∃ m1, q = (l, m1) ∧ (∀ j, m1 144 j = if 40 * t + b ≤ j ∧ j < 40 * t + b + l then m 144 (40 * s + a + (j - (40 * t + b))) else m 144 j) ∧ ∀ x i, ¬ x = 144 → m1 x i = m x i) (fun k st => ∃ m1, st = (l - 1 - (k : Int), m1) ∧ (∀ j, m1 144 j = if 40 * t + b + l - (k : Int) ≤ j ∧ j < 40 * t + b + l then m 144 (40 * s + a + (j - (40 * t + b))) else m 144 j) ∧ ∀ x i, ¬ x = 144 → m1 x i = m x i) N
        (by
          rintro k st hk ⟨m1, rfl, i1, i2⟩
          unfold f218_b92
          simp only [KG L, KR, KL L, if_true]
          rw [if_neg (by omega), if_pos c.1, if_pos c.2, ix3_s hs (by omega) (by omega), ix3_s ht (by omega) (by omega), if_pos (by omega), if_pos (by omega), w32_i (by omega) (by omega)]
          refine ⟨_, rfl, _, by rw [show l - 1 - (k : Int) + -1 = l - 1 - ((k + 1 : Nat) : Int) from by omega], fun j => ?_, fun x i d => ?_⟩
          · rw [put_as]
            by_cases e : j = 40 * t + b + (l - 1 - (k : Int))
            · rw [if_pos e, if_pos (by omega), i1, if_neg (by omega)]
              rw [show 40 * s + a + (l - 1 - (k : Int)) = 40 * s + a + (j - (40 * t + b)) from by omega]
            · rw [if_neg e, i1]
              by_cases z : 40 * t + b + l - (k : Int) ≤ j ∧ j < 40 * t + b + l
              · rw [if_pos z, if_pos (by omega)]
              · rw [if_neg z, if_neg (by omega)]
          · rw [put_ne d]; exact i2 x i d)
        (by
          rintro st ⟨m1, rfl, i1, i2⟩
          unfold f218_b92
          simp only
          rw [if_pos (by omega), xr_some]
          refine ⟨_, rfl, m1, rfl, fun j => ?_, i2⟩
          rw [i1]
          by_cases z : 40 * t + b ≤ j ∧ j < 40 * t + b + l
          · rw [if_pos z, if_pos (by omega)]
          · rw [if_neg z, if_neg (by omega)])
        (by rw [FU_v]; omega) (l - 1, m) ⟨m, by rw [show l - 1 - ((0 : Nat) : Int) = l - 1 from by omega], fun j => by rw [if_neg (by omega)], fun _ _ _ => rfl⟩
      exact ⟨m1, by rw [x1, x2], x3, x4⟩
    obtain ⟨m1, r1, r2, r3⟩ := back
    refine ⟨m1, ?_, r2, r3⟩
    rw [show FU = 3999 + 1 from rfl]
    refine lp_r ?_
    unfold f218_b57
    simp only
    rw [el, r1, xr_some]
    by_cases q : 0 < l
    · rw [if_pos q, if_pos c.1, if_pos c.2]
    · rw [if_neg q]
  · -- from the start
    obtain ⟨q, x1, m1, x2, x3, x4⟩ := lp_all (f := f218_b57 (GC L) RC 120 s a t b l) (Q := fun q => ∃ m1, q = (l, m1) ∧ (∀ j, m1 144 j = if 40 * t + b ≤ j ∧ j < 40 * t + b + l then m 144 (40 * s + a + (j - (40 * t + b))) else m 144 j) ∧ ∀ x i, ¬ x = 144 → m1 x i = m x i) (fun k st => ∃ m1, st = ((k : Int), m1) ∧ (∀ j, m1 144 j = if 40 * t + b ≤ j ∧ j < 40 * t + b + (k : Int) then m 144 (40 * s + a + (j - (40 * t + b))) else m 144 j) ∧ ∀ x i, ¬ x = 144 → m1 x i = m x i) N
      (by
        rintro k st hk ⟨m1, rfl, i1, i2⟩
        have e66 : f218_66 (GC L) RC 120 s a t b l (k : Int) m1 = some (Sum.inl ((k : Int) + 1, put m1 144 (40 * t + b + (k : Int)) (m1 144 (40 * s + a + (k : Int))))) := by
          unfold f218_66
          simp only [KG L, KR, KL L, if_true]
          rw [ix3_s hs (by omega) (by omega), ix3_s ht (by omega) (by omega), if_pos (by omega), if_pos (by omega), w32_i (by omega) (by omega)]
        refine ⟨((k : Int) + 1, put m1 144 (40 * t + b + (k : Int)) (m1 144 (40 * s + a + (k : Int)))), ?_, _, rfl, fun j => ?_, fun x i d => ?_⟩
        · unfold f218_b57
          simp only
          rw [if_pos (by omega), e66]
          by_cases z : s = t
          · rw [if_pos z, if_neg (by omega)]
          · rw [if_neg z]
        · rw [put_as]
          by_cases e : j = 40 * t + b + (k : Int)
          · rw [if_pos e, if_pos (by omega), i1, if_neg (by omega)]
            rw [show 40 * s + a + (k : Int) = 40 * s + a + (j - (40 * t + b)) from by omega]
          · rw [if_neg e, i1]
            by_cases z : 40 * t + b ≤ j ∧ j < 40 * t + b + (k : Int)
            · rw [if_pos z, if_pos (by omega)]
            · rw [if_neg z, if_neg (by omega)]
        · rw [put_ne d]; exact i2 x i d)
      (by
        rintro st ⟨m1, rfl, i1, i2⟩
        refine ⟨(l, m1), ?_, m1, rfl, fun j => ?_, i2⟩
        · unfold f218_b57
          simp only
          rw [if_neg (by omega), el, show FU = 3999 + 1 from rfl, lp_r (r := (l, m1)), xr_some]
          unfold f218_b92
          simp only
          by_cases q : l - 1 < 0
          · rw [if_pos q, xr_some]
          · rw [if_neg q]
            by_cases z : s = t
            · rw [if_pos z, if_neg (by omega), xr_some]
            · rw [if_neg z, xr_some]
        · rw [i1, ← hN])
      (by rw [FU_v]; omega) (0, m) ⟨m, rfl, fun j => by rw [if_neg (by omega)], fun _ _ _ => rfl⟩
    exact ⟨m1, by rw [x1, x2], x3, x4⟩
theorem k31 (L : Nat) (h : Rel n m) (s a t b l : Int) (hl : l < 2147483648) : ∃ w m1 m2, f127 (GC L) RC 1 s a t b l m = some (w, m1) ∧ m1 0 = m 0 ∧ f218 (GC L) RC 120 s a t b l m1 = some (w, m2) ∧ m2 0 = m 0 ∧ Rel n m2 := by
  by_cases c1 : 0 ≤ s ∧ s ≤ 3
  rotate_left
  · refine ⟨-2, m, m, ?_, rfl, ?_, rfl, h⟩
    · unfold f127; rw [bnd (f136_s.2 c1), if_pos rfl]
    · unfold f218; rw [bnd (f215_s.2 c1), if_pos rfl]
  by_cases c2 : 0 ≤ t ∧ t ≤ 3
  rotate_left
  · refine ⟨-2, m, m, ?_, rfl, ?_, rfl, h⟩
    · unfold f127; rw [bnd (f136_s.1 c1), if_neg (by exact n10), bnd (f136_s.2 c2), if_pos rfl]
    · unfold f218; rw [bnd (f215_s.1 c1), if_neg (by exact n10), bnd (f215_s.2 c2), if_pos rfl]
  rcases sht_s h c1 with ⟨q1, q2⟩ | ⟨q1, q2, q3, q4, q5, q6, q7, q8, q9⟩
  · refine ⟨-11, m, m, ?_, rfl, ?_, rfl, h⟩
    · unfold f127
      simp only [KG L, KR, if_true]
      rw [bnd (f136_s.1 c1), if_neg (by exact n10), bnd (f136_s.1 c2), if_neg (by exact n10), bnd (f48_s L c1), if_pos q1, if_neg (by exact n10)]
    · unfold f218
      simp only [KG L, KR, KL L, if_true]
      rw [bnd (f215_s.1 c1), if_neg (by exact n10), bnd (f215_s.1 c2), if_neg (by exact n10), if_pos (by omega), if_pos q2]
  rcases sht_s h c2 with ⟨p1, p2⟩ | ⟨p1, p2, p3, p4, p5, p6, p7, p8, p9⟩
  · refine ⟨-11, m, m, ?_, rfl, ?_, rfl, h⟩
    · unfold f127
      simp only [KG L, KR, if_true]
      rw [bnd (f136_s.1 c1), if_neg (by exact n10), bnd (f136_s.1 c2), if_neg (by exact n10), bnd (f48_s L c1), if_neg q2, if_pos rfl, bnd (f48_s L c2), if_pos p1, if_neg (by exact n10)]
    · unfold f218
      simp only [KG L, KR, KL L, if_true]
      rw [bnd (f215_s.1 c1), if_neg (by exact n10), bnd (f215_s.1 c2), if_neg (by exact n10), if_pos (by omega), if_neg (by omega), if_pos (by omega), if_pos p2]
  have C : f127 (GC L) RC 1 s a t b l m = (if m 47 s = m 47 t then Option.bind (f50 (GC L) RC 43 s a l m) fun q15 => if q15 = 0 then (some ((-12), m)) else (Option.bind (f50 (GC L) RC 43 t b l m) fun q17 => if q17 = 0 then (some ((-12), m)) else (Option.bind (f53 (GC L) RC 43 s a t b l m) fun q19 => some (l, q19))) else some (-13, m)) := by
    unfold f127
    simp only [KG L, KR, RAx L, if_true]
    rw [bnd (f136_s.1 c1), if_neg (by exact n10), bnd (f136_s.1 c2), if_neg (by exact n10), bnd (f48_s L c1), if_neg q2, if_pos rfl, bnd (f48_s L c2), if_neg p2, if_pos rfl, ra_in c1.1 (by omega), ra_in c2.1 (by omega), bnd rfl, bnd rfl]
  have M : ∀ m1 : Sg, (∀ x, ¬ x = 45 → m1 x = m x) → f218 (GC L) RC 120 s a t b l m1 = (if m 47 s = m 47 t then (if l < 0 then some (-12, m1) else if a < 0 then some (-12, m1) else if b < 0 then some (-12, m1) else if m 49 s - l < a then some (-12, m1) else if m 49 t - l < b then some (-12, m1) else lp (f218_b57 (GC L) RC 120 s a t b l) FU (0, m1)) else some (-13, m1)) := by
    intro m1 e
    unfold f218
    simp only [KG L, KR, KL L, if_true]
    rw [bnd (f215_s.1 c1), if_neg (by exact n10), bnd (f215_s.1 c2), if_neg (by exact n10), if_pos (by omega), e 141 (by decide), e 142 (by decide), e 143 (by decide), if_neg (by omega), if_pos (by omega), if_neg (by omega), if_pos (by omega), if_pos (by omega), q5, p5, q6, p6]
    by_cases z : m 47 s = m 47 t
    · rw [if_pos z, if_pos z]
      by_cases z1 : l < 0
      · rw [if_pos z1, if_pos z1]
      rw [if_neg z1, if_neg z1]
      by_cases z2 : a < 0
      · rw [if_pos z2, if_pos z2]
      rw [if_neg z2, if_neg z2]
      by_cases z3 : b < 0
      · rw [if_pos z3, if_pos z3]
      rw [if_neg z3, if_neg z3, if_pos (by omega)]
      unfold g_sub
      rw [w32_i (by omega) (by omega), w32_i (by omega) (by omega)]
      by_cases z4 : m 49 s - l < a
      · rw [if_pos z4, if_pos z4]
      rw [if_neg z4, if_neg z4, if_pos (by omega)]
    · rw [if_neg z, if_neg z]
  by_cases c3 : m 47 s = m 47 t
  rotate_left
  · exact ⟨-13, m, m, by rw [C, if_neg c3], rfl, by rw [M m (fun _ _ => rfl), if_neg c3], rfl, h⟩
  rw [if_pos c3] at C
  by_cases c4 : 0 ≤ a ∧ 0 ≤ l ∧ a + l ≤ m 49 s
  rotate_left
  · refine ⟨-12, m, m, ?_, rfl, ?_, rfl, h⟩
    · rw [C, bnd ((f50_s L c1 ⟨q7, q8⟩ hl).2 c4), if_pos rfl]
    · rw [M m (fun _ _ => rfl), if_pos c3]
      by_cases z1 : l < 0
      · rw [if_pos z1]
      rw [if_neg z1]
      by_cases z2 : a < 0
      · rw [if_pos z2]
      rw [if_neg z2]
      by_cases z3 : b < 0
      · rw [if_pos z3]
      rw [if_neg z3, if_pos (by omega)]
  by_cases c5 : 0 ≤ b ∧ 0 ≤ l ∧ b + l ≤ m 49 t
  rotate_left
  · refine ⟨-12, m, m, ?_, rfl, ?_, rfl, h⟩
    · rw [C, bnd ((f50_s L c1 ⟨q7, q8⟩ hl).1 c4), if_neg (by exact n10), bnd ((f50_s L c2 ⟨p7, p8⟩ hl).2 c5), if_pos rfl]
    · rw [M m (fun _ _ => rfl), if_pos c3, if_neg (by omega), if_neg (by omega)]
      by_cases z3 : b < 0
      · rw [if_pos z3]
      rw [if_neg z3, if_neg (by omega), if_pos (by omega)]
  have r1 := f53_s L (m := m) (s := s) (a := a) (t := t) (b := b) (l := l) c1 c2 (by omega) (by omega)
  generalize hp : cpy m 45 (40 * s + a) 45 (40 * t + b) l = m1 at r1
  have e1 : ∀ x, ¬ x = 45 → m1 x = m x := fun x d => funext fun i => by rw [← hp]; unfold cpy; rw [if_neg (fun q => d q.1)]
  have e45 : ∀ i, m1 45 i = if 40 * t + b ≤ i ∧ i < 40 * t + b + l then m 45 (40 * s + a + (i - (40 * t + b))) else m 45 i := fun i => by
    rw [← hp]; unfold cpy
    by_cases z : 40 * t + b ≤ i ∧ i < 40 * t + b + l
    · rw [if_pos ⟨rfl, z⟩, if_pos z]
    · rw [if_neg (fun q => z q.2), if_neg z]
  obtain ⟨m2, b1, b2, b3⟩ := f218b_s L (m := m1) (s := s) (a := a) (t := t) (b := b) (l := l) c1 c2 (by omega) (by omega)
  have g144 : ∀ j, m2 144 j = if 40 * t + b ≤ j ∧ j < 40 * t + b + l then m 144 (40 * s + a + (j - (40 * t + b))) else m 144 j := fun j => by rw [b2, e1 144 (by decide)]
  have gx : ∀ x i, ¬ x = 45 → ¬ x = 144 → m2 x i = m x i := fun x i d1 d2 => by rw [b3 x i d2, e1 x d1]
  obtain ⟨l1, l2⟩ := Rel_C (m' := m2) h (fun u u0 u4 => by
    have o := h.2.2.2.2.2.2.2.2.2 u u0 u4
    unfold R_c1 at o ⊢
    rw [gx 47 u (by decide) (by decide), gx 141 u (by decide) (by decide), gx 142 u (by decide) (by decide), gx 143 u (by decide) (by decide), gx 49 u (by decide) (by decide)]
    rcases o with o | ⟨o1, o2, o3, o4, o5, o6, o7, o8⟩
    · exact Or.inl o
    · refine Or.inr ⟨o1, o2, o3, o4, o5, o6, o7, fun i i0 i1 => ?_⟩
      rw [g144, b3 45 _ (by decide), e45]
      by_cases z : 40 * t + b ≤ 40 * u + i ∧ 40 * u + i < 40 * t + b + l
      · rw [if_pos z, if_pos z]
        have o9 := q9 (a + (40 * u + i - (40 * t + b))) (by omega) (by omega)
        rw [show 40 * s + (a + (40 * u + i - (40 * t + b))) = 40 * s + a + (40 * u + i - (40 * t + b)) from by omega] at o9
        exact o9
      · rw [if_neg z, if_neg z]; exact o8 i i0 i1) (fun x i d1 d2 => gx x i (fun q => d2 (by unfold sC; omega)) (fun q => d2 (by unfold sC; omega)))
  refine ⟨l, m1, m2, ?_, e1 0 (by decide), ?_, l1, l2⟩
  · rw [C, bnd ((f50_s L c1 ⟨q7, q8⟩ hl).1 c4), if_neg (by exact n10), bnd ((f50_s L c2 ⟨p7, p8⟩ hl).1 c5), if_neg (by exact n10), bnd r1]
  · rw [M m1 e1, if_pos c3, if_neg (by omega), if_neg (by omega), if_neg (by omega), if_neg (by omega), if_neg (by omega)]; exact b1
end SHEETS
