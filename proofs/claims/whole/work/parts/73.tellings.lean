/-! CASES 12, 14 .. 18: tellings -/
section CASES
variable {n : Int} {m : Sg}
theorem f65_s (L : Nat) {t : Int} : (0 ≤ t ∧ t < m 82 9 → f65 (GC L) RC 82 t m = some 1) ∧ (¬ (0 ≤ t ∧ t < m 82 9) → f65 (GC L) RC 82 t m = some 0) := by
  unfold f65
  constructor
  · intro c; rw [if_neg (by omega), if_pos (show gkb (GC L) 82 11 = true from rfl), if_pos c.2]
  · intro c
    by_cases q : t < 0
    · rw [if_pos q]
    · rw [if_neg q, if_pos (show gkb (GC L) 82 11 = true from rfl), if_neg (by omega)]
theorem f168_s (L : Nat) (h : Rel n m) {t : Int} : (0 ≤ t ∧ t < m 82 9 → f168 (GC L) RC 120 t m = some 1) ∧ (¬ (0 ≤ t ∧ t < m 82 9) → f168 (GC L) RC 120 t m = some 0) := by
  obtain ⟨h1, h2, h3, h4, h5⟩ := h.2.2.1
  unfold f168
  rw [if_pos (show gkb (GC L) 120 15 = true from rfl), h1]
  unfold g_sub
  rw [w32_i (by omega) (by omega)]
  constructor
  · intro c; rw [bnd (f143_s.1 (by omega)), if_pos (Or.inr rfl)]
  · intro c; rw [bnd (f143_s.2 (by omega)), if_pos (Or.inl rfl)]
theorem f133_s {G : Gg} {ρ : Rg} {y : Int} : (0 ≤ y ∧ y ≤ 999 → f133 G ρ y m = some 1) ∧ (¬ (0 ≤ y ∧ y ≤ 999) → f133 G ρ y m = some 0) := by
  unfold f133
  constructor
  · intro c; rw [if_neg (by omega), if_neg (by omega)]
  · intro c
    by_cases q : y < 0
    · rw [if_pos q]
    · rw [if_neg q, if_pos (by omega)]
theorem tel_a (h : Rel n m) {t : Int} (ht : 0 ≤ t ∧ t < m 82 9) : t < 12 ∧ (0 ≤ m 88 t ∧ m 88 t < 32) ∧ (∃ d, alw (m 88 t) d) ∧ m 123 t = m 88 t ∧ m 130 t = m 90 t ∧ (0 ≤ m 90 t ∧ m 90 t < 1024) ∧ m 128 t = m 92 t ∧ m 129 t = m 94 t ∧ (∀ i, 0 ≤ i → i < n → KX m t i = KM m t i ∧ NX m t i = NM m t i) ∧ (∀ i, 0 ≤ i → i < n → 0 ≤ KX m t i ∧ KX m t i ≤ 5 ∧ 0 ≤ NX m t i ∧ NX m t i ≤ 9) := by
  obtain ⟨h1, h2, h3, h4, h5⟩ := h.2.2.1
  obtain ⟨q1, q2, q3, q4, q5, q6⟩ := h4 t ht.1 ht.2
  exact ⟨by omega, by omega, alw_e q2.2.1 q2.2.2, q2.1, q3.1, q3.2, q4.1, q5, fun i a1 a2 => ⟨(q1 i a1 a2).1.symm, (q1 i a1 a2).2.1.symm⟩, fun i a1 a2 => (q1 i a1 a2).2.2⟩
theorem cXM (h : Rel n m) {t u : Int} (ht : 0 ≤ t ∧ t < m 82 9) (hu : 0 ≤ u ∧ u < m 82 9) : cX n m t u = cM n m t u ∧ cM n m u t = cM n m t u := by
  obtain ⟨a1, a2, a3, a4, a5, a6, a7, a8, a9, a10⟩ := tel_a h ht
  obtain ⟨b1, b2, b3, b4, b5, b6, b7, b8, b9, b10⟩ := tel_a h hu
  unfold cX cM
  rw [a4, a5, b4, b5]
  exact ⟨chg_c (fun i c1 c2 => ⟨(a9 i c1 c2).1, (a9 i c1 c2).2, (b9 i c1 c2).1, (b9 i c1 c2).2⟩), chg_s b2 a2⟩
theorem prXM (h : Rel n m) {t : Int} (ht : 0 ≤ t ∧ t < m 82 9) : prX n (m 82 9) m t = prM n (m 82 9) m t := by
  have a7 := (tel_a h ht).2.2.2.2.2.2.1
  unfold prX prM
  rw [pp_c (y := m 92) (y' := m 128) (c := cX n m t) (c' := fun k => cM n m k t) a7.symm (m 82 9).toNat (fun i c1 c2 => by
    have hi : 0 ≤ i ∧ i < m 82 9 := ⟨c1, by omega⟩
    have b7 := (tel_a h hi).2.2.2.2.2.2.1
    have e := cXM h ht hi
    exact ⟨b7.symm, e.1.trans e.2.symm⟩)]
theorem ha_X (h : Rel n m) : ∀ i, 0 ≤ i → i < m 82 9 → 0 ≤ m 88 i ∧ m 88 i < 32 := fun i a1 a2 => (tel_a h ⟨a1, a2⟩).2.1
theorem ha_M (h : Rel n m) : ∀ i, 0 ≤ i → i < m 82 9 → 0 ≤ m 123 i ∧ m 123 i < 32 := fun i a1 a2 => by
  have q := tel_a h ⟨a1, a2⟩
  rw [q.2.2.2.1]; exact q.2.1
theorem k12 (L : Nat) (h : Rel n m) (t y : Int) : ∃ w m1 m2, f108 (GC L) RC 1 t y m = some (w, m1) ∧ m1 0 = m 0 ∧ f173 (GC L) RC 120 t y m1 = some (w, m2) ∧ m2 0 = m 0 ∧ Rel n m2 := by
  have p65 := f65_s L (m := m) (t := t)
  have p168 := f168_s L h (t := t)
  by_cases c1 : 0 ≤ t ∧ t < m 82 9
  · have q := tel_a h c1
    by_cases c2 : 0 ≤ y ∧ y ≤ 999
    · have p168b : f168 (GC L) RC 120 t (put m 92 t y) = some 1 := by
        have := p168.1 c1
        unfold f168 at this ⊢
        rw [put_ne (by decide)]
        exact this
      obtain ⟨g1, g2, g3, g4, g5⟩ := h.2.2.1
      obtain ⟨l1, l2⟩ := Rel_T1 (m' := put (put m 92 t y) 128 t y) h (by
        have ew : ∀ u, WT n (put (put m 92 t y) 128 t y) u = WT n m u := fun u => by
          have pf : ∀ x, ¬ x = 92 → ¬ x = 128 → put (put m 92 t y) 128 t y x = m x := fun x z1 z2 => by rw [put_f z2, put_f z1]
          unfold WT KX NX
          rw [pf 84 (by decide) (by decide), pf 86 (by decide) (by decide), pf 88 (by decide) (by decide), pf 90 (by decide) (by decide)]
        refine ⟨?_, ?_, ?_, fun u u1 u2 => ?_, fun u u1 u2 => ?_⟩
        · rw [put_ne (by decide), put_ne (by decide), put_ne (by decide), put_ne (by decide)]; exact g1
        · rw [put_ne (by decide), put_ne (by decide)]; exact g2
        · rw [put_ne (by decide), put_ne (by decide)]; exact g3
        · rw [put_ne (by decide), put_ne (by decide)] at u2
          obtain ⟨r1, r2, r3, r4, r5, r6⟩ := g4 u u1 u2
          refine ⟨fun i a1 a2 => ?_, ?_, ?_, ?_, ?_, ?_⟩
          · rw [put_ne (by decide), put_ne (by decide), put_ne (by decide), put_ne (by decide), put_ne (by decide), put_ne (by decide), put_ne (by decide), put_ne (by decide)]
            exact r1 i a1 a2
          · rw [put_ne (by decide), put_ne (by decide), put_ne (by decide), put_ne (by decide)]; exact r2
          · rw [put_ne (by decide), put_ne (by decide), put_ne (by decide), put_ne (by decide)]; exact r3
          · rw [put_as, put_ne (by decide), put_ne (by decide), put_as]
            by_cases e : u = t
            · rw [if_pos e, if_pos e]; exact ⟨rfl, c2⟩
            · rw [if_neg e, if_neg e]; exact r4
          · rw [put_ne (by decide), put_ne (by decide), put_ne (by decide), put_ne (by decide)]; exact r5
          · rw [ew, put_ne (by decide), put_ne (by decide), put_ne (by decide), put_ne (by decide), put_ne (by decide), put_ne (by decide)]; exact r6
        · rw [put_ne (by decide), put_ne (by decide)] at u1 ⊢
          exact g5 u u1 u2) (fun x i d1 d2 => by
        unfold sT0 at d2
        unfold put
        rw [if_neg (by omega), if_neg (by omega)])
      refine ⟨m 92 t, put m 92 t y, _, ?_, by rw [put_f (by decide)], ?_, l1, l2⟩
      · unfold f108
        simp only [KG L, KR, RAx L, RPx L, if_true]
        rw [bnd (p65.1 c1), if_neg (by exact n10), bnd (f133_s.1 c2), if_neg (by exact n10)]
        simp only [Option.bind_some]
        rw [ra_in c1.1 (by omega), rp_in c1.1 (by omega)]
      · unfold f173
        simp only [KG L, KR, KL L, if_true]
        rw [bnd p168b, if_neg (by exact n10), bnd (f143_s.1 c2), if_neg (by exact n10), if_pos (by omega), put_ne (by decide), q.2.2.2.2.2.2.1]
    · refine ⟨-2, m, m, ?_, rfl, ?_, rfl, h⟩
      · unfold f108
        simp only [KG L, KR, if_true]
        rw [bnd (p65.1 c1), if_neg (by exact n10), bnd (f133_s.2 c2), if_pos rfl]
      · unfold f173
        rw [if_pos (show gkb (GC L) 120 15 = true from rfl), bnd (p168.1 c1), if_neg (by exact n10), bnd (f143_s.2 c2), if_pos rfl]
  · refine ⟨-2, m, m, ?_, rfl, ?_, rfl, h⟩
    · unfold f108
      simp only [KG L, KR, if_true]
      rw [bnd (p65.2 c1), if_pos rfl]
    · unfold f173
      rw [if_pos (show gkb (GC L) 120 15 = true from rfl), bnd (p168.2 c1), if_pos rfl]
theorem k14 (L : Nat) (h : Rel n m) (t u : Int) : ∃ w, f110 (GC L) RC 1 t u m = some w ∧ f177 (GC L) RC 120 t u m = some w := by
  obtain ⟨hn, h4, h10, hN, hA, hn2, hN2, ha, hc⟩ := hand_s h
  have h82 := h.1.2.2.2.2.2.2.1
  by_cases c1 : 0 ≤ t ∧ t < m 82 9
  · have q := tel_a h c1
    by_cases c2 : 0 ≤ u ∧ u < m 82 9
    · have r := tel_a h c2
      have e73 : f73 (GC L) RC 82 t u m = some (cX n m t u) := f73_s L h82 h4 h10 ⟨c1.1, q.1⟩ ⟨c2.1, r.1⟩ q.2.1 r.2.1
      have e176 : f176 (GC L) RC 120 t u m = some (cM n m t u) := f176_s L hn2 h4 h10 ⟨c1.1, q.1⟩ ⟨c2.1, r.1⟩ (ha_M h t c1.1 c1.2) (ha_M h u c2.1 c2.2)
      refine ⟨cX n m t u, ?_, ?_⟩
      · unfold f110
        simp only [KG L, KR, if_true]
        rw [bnd ((f65_s L).1 c1), if_neg (by exact n10), bnd ((f65_s L).1 c2), if_neg (by exact n10), bnd e73]
      · unfold f177
        rw [if_pos (show gkb (GC L) 120 15 = true from rfl), bnd ((f168_s L h).1 c1), if_neg (by exact n10), bnd ((f168_s L h).1 c2), if_neg (by exact n10), bnd e176, (cXM h c1 c2).1]
    · refine ⟨-2, ?_, ?_⟩
      · unfold f110
        simp only [KG L, KR, if_true]
        rw [bnd ((f65_s L).1 c1), if_neg (by exact n10), bnd ((f65_s L).2 c2), if_pos rfl]
      · unfold f177
        rw [if_pos (show gkb (GC L) 120 15 = true from rfl), bnd ((f168_s L h).1 c1), if_neg (by exact n10), bnd ((f168_s L h).2 c2), if_pos rfl]
  · refine ⟨-2, ?_, ?_⟩
    · unfold f110
      simp only [KG L, KR, if_true]
      rw [bnd ((f65_s L).2 c1), if_pos rfl]
    · unfold f177
      rw [if_pos (show gkb (GC L) 120 15 = true from rfl), bnd ((f168_s L h).2 c1), if_pos rfl]
theorem k15 (L : Nat) (h : Rel n m) (t : Int) : ∃ w, f111 (GC L) RC 1 t m = some w ∧ f179 (GC L) RC 120 t m = some w := by
  obtain ⟨hn, h4, h10, hN, hA, hn2, hN2, ha, hc⟩ := hand_s h
  obtain ⟨g1, g2, g3, g4, g5⟩ := h.2.2.1
  have h82 := h.1.2.2.2.2.2.2.1
  by_cases c1 : 0 ≤ t ∧ t < m 82 9
  · have e74 : f74 (GC L) RC 82 t m = some (prX n (m 82 9) m t) := f74_s L h82 h4 h10 rfl ⟨g2, g3⟩ (ha_X h) c1
    have e178 : f178 (GC L) RC 120 t m = some (prM n (m 82 9) m t) := f178_s L hn2 h4 h10 g1 ⟨g2, g3⟩ (ha_M h) c1
    refine ⟨prX n (m 82 9) m t, ?_, ?_⟩
    · unfold f111
      simp only [KG L, KR, if_true]
      rw [bnd ((f65_s L).1 c1), if_neg (by exact n10), bnd e74]
    · unfold f179
      rw [if_pos (show gkb (GC L) 120 15 = true from rfl), bnd ((f168_s L h).1 c1), if_neg (by exact n10), bnd e178, prXM h c1]
  · refine ⟨-2, ?_, ?_⟩
    · unfold f111
      simp only [KG L, KR, if_true]
      rw [bnd ((f65_s L).2 c1), if_pos rfl]
    · unfold f179
      rw [if_pos (show gkb (GC L) 120 15 = true from rfl), bnd ((f168_s L h).2 c1), if_pos rfl]
theorem k16 (L : Nat) (h : Rel n m) (v : Int) : ∃ w, f112 (GC L) RC 1 v m = some w ∧ f180 (GC L) RC 120 v m = some w := by
  obtain ⟨hn, h4, h10, hN, hA, hn2, hN2, ha, hc⟩ := hand_s h
  obtain ⟨g1, g2, g3, g4, g5⟩ := h.2.2.1
  have h82 := h.1.2.2.2.2.2.2.1
  have key : ∀ f : Int → Int, (0 ≤ v ∧ v ≤ 2) → (∀ t, 0 ≤ t → t < m 82 9 → f t = trM n (m 82 9) m v t) → f180 (GC L) RC 120 v m = some (sm f (m 82 9).toNat) := by
    intro f hv hf
    unfold f180
    rw [bnd (f143_s.1 hv), if_neg (by exact n10), f180_s L hn2 h4 h10 g1 ⟨g2, g3⟩ (ha_M h), sm_c (m 82 9).toNat (fun i a1 a2 => hf i a1 (by omega))]
  have pb := fun t => prM_b n (m 82 9) m t g2
  unfold f112
  simp only [KG L, KR, if_true]
  by_cases c0 : v = 0
  · rw [if_pos c0, f75_s L h82 h4 h10 rfl ⟨g2, g3⟩ (ha_X h)]
    refine ⟨_, rfl, key _ (by omega) (fun t t1 t2 => ?_)⟩
    unfold trM
    rw [prXM h ⟨t1, t2⟩]
    by_cases z : prM n (m 82 9) m t = -1
    · rw [if_pos z, if_pos z, if_neg (by omega)]
    · rw [if_neg z, if_neg z, if_pos c0, (cXM h ⟨t1, t2⟩ ((pb t).resolve_left z)).1]
  rw [if_neg c0]
  by_cases c1 : v = 1
  · rw [if_pos c1, f76_s L h82 h4 h10 rfl ⟨g2, g3⟩ (ha_X h)]
    refine ⟨_, rfl, key _ (by omega) (fun t t1 t2 => ?_)⟩
    unfold trM
    rw [prXM h ⟨t1, t2⟩]
    by_cases z : prM n (m 82 9) m t = -1
    · rw [if_pos z, if_pos z, if_neg (by omega)]
    · have e1 := (tel_a h ⟨t1, t2⟩).2.2.2.2.2.2.2.1
      have e2 := (tel_a h ((pb t).resolve_left z)).2.2.2.2.2.2.2.1
      rw [if_neg z, if_neg z, if_neg c0, if_pos c1, e1, e2]
      by_cases y : m 94 (prM n (m 82 9) m t) = m 94 t
      · rw [if_pos y, if_pos y.symm]
      · rw [if_neg y, if_neg (fun q => y q.symm)]
  rw [if_neg c1]
  by_cases c2 : v = 2
  · rw [if_pos c2, f77_s L h82 h4 h10 rfl ⟨g2, g3⟩ (ha_X h)]
    refine ⟨_, rfl, key _ (by omega) (fun t t1 t2 => ?_)⟩
    unfold trM
    rw [prXM h ⟨t1, t2⟩]
    by_cases z : prM n (m 82 9) m t = -1
    · rw [if_pos z, if_pos z, if_pos c2]
    · rw [if_neg z, if_neg z, if_neg c0, if_neg c1]
  rw [if_neg c2]
  refine ⟨-2, rfl, ?_⟩
  unfold f180
  rw [bnd (f143_s.2 (by omega)), if_pos rfl]
theorem k17 (L : Nat) (h : Rel n m) (t s : Int) : ∃ w m1, f113 (GC L) RC 1 t s m = some (w, m1) ∧ m1 0 = m 0 ∧ f181 (GC L) RC 120 t s m1 = some w ∧ Rel n m1 := by
  obtain ⟨hn, h4, h10, hN, hA, hn2, hN2, ha, hc⟩ := hand_s h
  obtain ⟨g1, g2, g3, g4, g5⟩ := h.2.2.1
  have h82 := h.1.2.2.2.2.2.2.1
  have p38 := f38_h L (s := s) hn
  by_cases c1 : 0 ≤ t ∧ t < m 82 9
  · have q := tel_a h c1
    by_cases c2 : 0 ≤ s ∧ s < n
    · by_cases c3 : gp (m 90 t) s
      · obtain ⟨m1, r1, r2⟩ := f78_s L h82 h4 h10 rfl ⟨g2, g3⟩ (ha_X h) c1 c2 (fun x x1 x2 => by have := (tel_a h ⟨x1, x2⟩).2.2.2.2.2.2.2.2.2 s c2.1 c2.2; unfold KX at this; omega)
        have Sm1 : Sm m m1 := fun x i c => r2 x i (fun q => c (sc_z98 q))
        obtain ⟨f1, f2⟩ := fin_s h Sm1
        have e9 : m1 82 9 = m 82 9 := r2 82 9 (by decide)
        have e90 : m1 90 = m 90 := FrH_f r2 (by decide)
        have e84 : m1 84 = m 84 := FrH_f r2 (by decide)
        obtain ⟨b1, b2, b3, b4, b5⟩ := f2.2.2.1
        rw [e9] at b1 b2 b3
        have c1' : 0 ≤ t ∧ t < m1 82 9 := by rw [e9]; exact c1
        have q1 := tel_a f2 c1'
        have hM1 := ha_M f2
        rw [e9] at hM1
        have e178 : f178 (GC L) RC 120 t m1 = some (prM n (m 82 9) m1 t) := f178_s L f2.1.2.2.2.2.2.2.2.1 h4 h10 b1 ⟨b2, b3⟩ hM1 c1
        have prx : ∀ x, 0 ≤ x → x < m 82 9 → prX n (m 82 9) m x = prM n (m 82 9) m1 x := fun x x1 x2 => by
          have := prXM f2 (t := x) ⟨x1, by rw [e9]; exact x2⟩
          rw [e9] at this
          rw [← this, prX_H r2]
        have spec := f181_s L (m := m1) (T := m 82 9) (t := t) f2.1.2.2.2.2.2.2.2.1 h4 h10 b1 ⟨b2, b3⟩ hM1 c2
        refine ⟨(stm (fun k => cnt (stK (prX n (m 82 9) m) (m 90) (fun x => m 84 (10 * x + s)) t s k) (m 82 9).toNat) 6).2, m1, ?_, f1, ?_, f2⟩
        · unfold f113
          simp only [KG L, KR, if_true]
          rw [bnd ((f65_s L).1 c1), if_neg (by exact n10), bnd (p38.1 c2), if_neg (by exact n10), bnd ((f67_s L h82 ⟨c1.1, q.1⟩ c2.1 c2.2).1 c3), if_neg (by exact n10), bnd r1]
        · unfold f181
          rw [if_pos (show gkb (GC L) 120 15 = true from rfl), bnd ((f168_s L f2).1 c1'), if_neg (by exact n10), bnd ((f146_s L f2.1.2.2.2.2.2.2.2.1 h4 h10).1 c2), if_neg (by exact n10), bnd ((f171_s L ⟨c1.1, q.1⟩).1 (show gp (m1 130 t) s by rw [q1.2.2.2.2.1, e90]; exact c3)), if_neg (by exact n10), bnd e178, spec]
          congr 2
          refine stm_c 6 (fun k k1 k2 => cnt_c _ (fun x x1 x2 => ?_))
          have hx : 0 ≤ x ∧ x < m 82 9 := ⟨x1, by omega⟩
          have t1 := tel_a f2 (t := x) (by rw [e9]; exact hx)
          have k1' := (t1.2.2.2.2.2.2.2.2.1 s c2.1 c2.2).1
          unfold KX KM at k1'
          unfold stK stB
          rw [prx t c1.1 c1.2, prx x hx.1 hx.2, t1.2.2.2.2.1, e90, ← e84]
          simp only [k1']
      · refine ⟨-3, m, ?_, rfl, ?_, h⟩
        · unfold f113
          simp only [KG L, KR, if_true]
          rw [bnd ((f65_s L).1 c1), if_neg (by exact n10), bnd (p38.1 c2), if_neg (by exact n10), bnd ((f67_s L h82 ⟨c1.1, q.1⟩ c2.1 c2.2).2 c3), if_pos rfl]
        · unfold f181
          rw [if_pos (show gkb (GC L) 120 15 = true from rfl), bnd ((f168_s L h).1 c1), if_neg (by exact n10), bnd ((f146_s L hn2 h4 h10).1 c2), if_neg (by exact n10), bnd ((f171_s L ⟨c1.1, q.1⟩).2 (show ¬ gp (m 130 t) s by rw [q.2.2.2.2.1]; exact c3)), if_pos rfl]
    · refine ⟨-2, m, ?_, rfl, ?_, h⟩
      · unfold f113
        simp only [KG L, KR, if_true]
        rw [bnd ((f65_s L).1 c1), if_neg (by exact n10), bnd (p38.2 c2), if_pos rfl]
      · unfold f181
        rw [if_pos (show gkb (GC L) 120 15 = true from rfl), bnd ((f168_s L h).1 c1), if_neg (by exact n10), bnd ((f146_s L hn2 h4 h10).2 c2), if_pos rfl]
  · refine ⟨-2, m, ?_, rfl, ?_, h⟩
    · unfold f113
      simp only [KG L, KR, if_true]
      rw [bnd ((f65_s L).2 c1), if_pos rfl]
    · unfold f181
      rw [if_pos (show gkb (GC L) 120 15 = true from rfl), bnd ((f168_s L h).2 c1), if_pos rfl]
end CASES
