/-! CASE 29: a sheet laid out -/
section SHEETS
variable {n : Int} {m : Sg}
theorem f49_s (L : Nat) {s k z : Int} (hs : 0 ≤ s ∧ s ≤ 3) : ∃ m1, f49 (GC L) RC 43 s k z m = some m1 ∧ m1 47 s = k ∧ m1 49 s = z ∧ (∀ i, 0 ≤ i → i < 40 → m1 45 (40 * s + i) = 0) ∧ ∀ x i, ¬ (x = 47 ∧ i = s) → ¬ (x = 49 ∧ i = s) → ¬ (x = 45 ∧ 40 * s ≤ i ∧ i < 40 * s + 40) → m1 x i = m x i := by
  unfold f49
  simp only [KG L, KR, RPx L, if_true]
  rw [rp_in hs.1 (by omega), bnd rfl, bnd rfl, rp_in hs.1 (by omega)]
  generalize hp : put (put m 47 s k) 49 s z = mp
  obtain ⟨q, x1, x2⟩ := lp_all (f := f49_b12 (GC L) RC 43 s) (Q := fun m1 => (∀ i, 0 ≤ i → i < 40 → m1 45 (40 * s + i) = 0) ∧ ∀ x i, ¬ (x = 45 ∧ 40 * s ≤ i ∧ i < 40 * s + 40) → m1 x i = mp x i) (fun j st => ∃ m1, st = ((j : Int), m1) ∧ (∀ i, 0 ≤ i → i < (j : Int) → m1 45 (40 * s + i) = 0) ∧ ∀ x i, ¬ (x = 45 ∧ 40 * s ≤ i ∧ i < 40 * s + 40) → m1 x i = mp x i) 40
    (by
      rintro j st hj ⟨m1, rfl, i1, i2⟩
      unfold f49_b12 f54
      simp only [KG L, KR, RPx L, if_true]
      rw [if_pos (by omega), bnd rfl, (ix_s hs (by omega)).2, rp_in (by omega) (by omega), bnd rfl, w32_i (by omega) (by omega)]
      refine ⟨_, rfl, _, rfl, fun i a b => ?_, fun x i d => ?_⟩
      · rw [put_as]
        by_cases e : 40 * s + i = 40 * s + (j : Int)
        · rw [if_pos e]
        · rw [if_neg e]; exact i1 i a (by omega)
      · rw [show put m1 45 (40 * s + (j : Int)) 0 x i = m1 x i from by unfold put; rw [if_neg (by omega)]]; exact i2 x i d)
    (by
      rintro st ⟨m1, rfl, i1, i2⟩
      unfold f49_b12
      simp only
      rw [if_neg (by omega), xr_some]
      exact ⟨m1, rfl, fun i a b => i1 i a (by omega), i2⟩)
    (by rw [FU_v]; omega) (0, mp) ⟨mp, rfl, fun i a b => absurd b (by show ¬ i < 0; omega), fun _ _ _ => rfl⟩
  refine ⟨q, x1, ?_, ?_, x2.1, fun x i d1 d2 d3 => ?_⟩
  · rw [x2.2 47 s (by omega), ← hp, put_ne (by decide), put_eq]
  · rw [x2.2 49 s (by omega), ← hp, put_eq]
  · rw [x2.2 x i d3, ← hp]; unfold put; rw [if_neg d2, if_neg d1]
theorem f216_s (L : Nat) {s k z : Int} (hs : 0 ≤ s ∧ s ≤ 3) (hk : k = -1 ∨ (0 ≤ k ∧ 0 ≤ z ∧ z ≤ 40)) : ∃ m1, f216_22 (GC L) RC 120 s k z m = some (1, m1) ∧ m1 141 s = (if k < 0 then 0 else 1) ∧ m1 142 s = k ∧ m1 143 s = z ∧ (0 ≤ k → ∀ i, 0 ≤ i → i < z → m1 144 (40 * s + i) = 0) ∧ ∀ x i, ¬ ((x = 141 ∨ x = 142 ∨ x = 143) ∧ i = s) → ¬ (x = 144 ∧ 40 * s ≤ i ∧ i < 40 * s + 40) → m1 x i = m x i := by
  have main : ∀ u : Int, (u = 0 ∨ u = 1) → ∃ m1, f216_30 (GC L) RC 120 s k z u s 141 m = some (1, m1) ∧ m1 141 s = u ∧ m1 142 s = k ∧ m1 143 s = z ∧ (0 ≤ k → ∀ i, 0 ≤ i → i < z → m1 144 (40 * s + i) = 0) ∧ ∀ x i, ¬ ((x = 141 ∨ x = 142 ∨ x = 143) ∧ i = s) → ¬ (x = 144 ∧ 40 * s ≤ i ∧ i < 40 * s + 40) → m1 x i = m x i := by
    intro u hu
    unfold f216_30 f216_35 f216_40
    simp only [KG L, KR, KL L, if_true]
    rw [if_pos (by omega), if_pos hu, if_pos (by omega), if_pos (by omega)]
    generalize hp : put (put (put m 141 s u) 142 s k) 143 s z = mp
    have p1 : mp 141 s = u := by rw [← hp, put_ne (by decide), put_ne (by decide), put_eq]
    have p2 : mp 142 s = k := by rw [← hp, put_ne (by decide), put_eq]
    have p3 : mp 143 s = z := by rw [← hp, put_eq]
    have pf : ∀ x i, ¬ ((x = 141 ∨ x = 142 ∨ x = 143) ∧ i = s) → mp x i = m x i := fun x i d => by rw [← hp]; unfold put; rw [if_neg (by omega), if_neg (by omega), if_neg (by omega)]
    by_cases c : k = -1
    · refine ⟨mp, ?_, p1, p2, p3, fun q => by omega, fun x i d _ => pf x i d⟩
      rw [show FU = 3999 + 1 from rfl]
      refine lp_r ?_
      unfold f216_b43
      simp only
      by_cases q : 0 < z
      · rw [if_pos q, if_pos (by omega), xr_some]
      · rw [if_neg q, xr_some]
    · obtain ⟨N, hN⟩ : ∃ N : Nat, z = (N : Int) := ⟨z.toNat, by omega⟩
      obtain ⟨q, x1, m1, x2, x3, x4⟩ := lp_all (f := f216_b43 (GC L) RC 120 s k z) (Q := fun q => ∃ m1, q = ((1 : Int), m1) ∧ (∀ i, 0 ≤ i → i < z → m1 144 (40 * s + i) = 0) ∧ ∀ x i, ¬ (x = 144 ∧ 40 * s ≤ i ∧ i < 40 * s + 40) → m1 x i = mp x i) (fun j st => ∃ m1, st = ((j : Int), m1) ∧ (∀ i, 0 ≤ i → i < (j : Int) → m1 144 (40 * s + i) = 0) ∧ ∀ x i, ¬ (x = 144 ∧ 40 * s ≤ i ∧ i < 40 * s + 40) → m1 x i = mp x i) N
        (by
          rintro j st hj ⟨m1, rfl, i1, i2⟩
          unfold f216_b43
          simp only [KG L, KR, KL L, if_true]
          rw [if_pos (by omega), if_neg (by omega), (ix_s hs (by omega)).1, if_pos (by omega), w32_i (by omega) (by omega)]
          refine ⟨_, rfl, _, rfl, fun i a b => ?_, fun x i d => ?_⟩
          · rw [put_as]
            by_cases e : 40 * s + i = 40 * s + (j : Int)
            · rw [if_pos e]
            · rw [if_neg e]; exact i1 i a (by omega)
          · rw [show put m1 144 (40 * s + (j : Int)) 0 x i = m1 x i from by unfold put; rw [if_neg (by omega)]]; exact i2 x i d)
        (by
          rintro st ⟨m1, rfl, i1, i2⟩
          unfold f216_b43
          simp only
          rw [if_neg (by omega), xr_some]
          exact ⟨_, rfl, m1, rfl, fun i a b => i1 i a (by omega), i2⟩)
        (by rw [FU_v]; omega) (0, mp) ⟨mp, rfl, fun i a b => absurd b (by show ¬ i < 0; omega), fun _ _ _ => rfl⟩
      refine ⟨m1, by rw [x1, x2], ?_, ?_, ?_, fun _ => x3, fun x i d1 d2 => ?_⟩
      · rw [x4 141 s (by omega), p1]
      · rw [x4 142 s (by omega), p2]
      · rw [x4 143 s (by omega), p3]
      · rw [x4 x i d2, pf x i d1]
  unfold f216_22
  simp only [KG L, KR, if_true]
  by_cases c : k < 0
  · rw [if_pos c, if_pos c]; exact main 0 (Or.inl rfl)
  · rw [if_neg c, if_neg c]; exact main 1 (Or.inr rfl)
theorem k29 (L : Nat) (h : Rel n m) (s k z : Int) : ∃ w m1 m2, f125 (GC L) RC 1 s k z m = some (w, m1) ∧ m1 0 = m 0 ∧ f216 (GC L) RC 120 s k z m1 = some (w, m2) ∧ m2 0 = m 0 ∧ Rel n m2 := by
  by_cases c1 : 0 ≤ s ∧ s ≤ 3
  rotate_left
  · refine ⟨-2, m, m, ?_, rfl, ?_, rfl, h⟩
    · unfold f125; rw [bnd (f136_s.2 c1), if_pos rfl]
    · unfold f216; rw [bnd (f215_s.2 c1), if_pos rfl]
  by_cases c2 : -1 ≤ k ∧ k ≤ 2
  rotate_left
  · refine ⟨-2, m, m, ?_, rfl, ?_, rfl, h⟩
    · unfold f125; rw [bnd (f136_s.1 c1), if_neg (by exact n10), if_neg (by omega), bnd (f137_s.2 (by omega)), if_pos rfl]
    · unfold f216; rw [bnd (f215_s.1 c1), if_neg (by exact n10), bnd (f143_s.2 c2), if_pos rfl]
  by_cases c3 : ¬ k = -1 ∧ 40 < z
  · refine ⟨-2, m, m, ?_, rfl, ?_, rfl, h⟩
    · unfold f125 f125_11; rw [bnd (f136_s.1 c1), if_neg (by exact n10), if_neg c3.1, bnd (f137_s.1 (by omega)), if_neg (by exact n10), if_neg c3.1, if_pos c3.2]
    · unfold f216; rw [bnd (f215_s.1 c1), if_neg (by exact n10), bnd (f143_s.1 c2), if_neg (by exact n10), if_neg (by omega), if_pos c3.2]
  by_cases c4 : ¬ k = -1 ∧ z < 0
  · refine ⟨-14, m, m, ?_, rfl, ?_, rfl, h⟩
    · unfold f125 f125_11 f125_19; rw [bnd (f136_s.1 c1), if_neg (by exact n10), if_neg c4.1, bnd (f137_s.1 (by omega)), if_neg (by exact n10), if_neg c4.1, if_neg (by omega), if_neg c4.1, if_pos c4.2]
    · unfold f216 f216_16; rw [bnd (f215_s.1 c1), if_neg (by exact n10), bnd (f143_s.1 c2), if_neg (by exact n10), if_neg (by omega), if_neg (by omega), if_neg (by omega), if_pos c4.2]
  -- it is laid out, or taken away
  have C : ∃ m1, f125 (GC L) RC 1 s k z m = some (1, m1) ∧ f49 (GC L) RC 43 s k (if k = -1 then 0 else z) m = some m1 := by
    obtain ⟨m1, r1, _⟩ := f49_s L (m := m) (k := k) (z := if k = -1 then 0 else z) c1
    refine ⟨m1, ?_, r1⟩
    have e36 : f125_36 (GC L) RC (if k = -1 then 0 else z) k s 43 m = some (1, m1) := by
      unfold f125_36
      simp only [KG L, if_true]
      rw [bnd r1]
    unfold f125 f125_11 f125_19 f125_26
    simp only [KG L, KR, if_true]
    rw [bnd (f136_s.1 c1), if_neg (by exact n10)]
    by_cases e : k = -1
    · rw [if_pos e] at e36
      rw [if_pos e, if_pos e, if_pos e, if_pos e]; exact e36
    · rw [if_neg e] at e36
      rw [if_neg e, bnd (f137_s.1 (by omega)), if_neg (by exact n10), if_neg e, if_neg (by omega), if_neg e, if_neg (by omega), if_neg e]; exact e36
  obtain ⟨m1, r1, r2⟩ := C
  obtain ⟨m1', a0, a1, a2, a3, a4⟩ := f49_s L (m := m) (k := k) (z := if k = -1 then 0 else z) c1
  rw [r2] at a0
  obtain rfl : m1 = m1' := Option.some.inj a0
  obtain ⟨m2, b1, b2, b3, b4, b5, b6⟩ := f216_s L (m := m1) (s := s) (k := k) (z := z) c1 (by omega)
  have ff : ∀ x i, ¬ scr x i → ¬ sC x i → m2 x i = m x i := fun x i d1 d2 => by
    unfold sC at d2
    rw [b6 x i (by omega) (by omega)]
    exact a4 x i (by omega) (by omega) (by omega)
  have g45 : ∀ i, m2 45 i = m1 45 i := fun i => b6 45 i (by omega) (by omega)
  have g47 : ∀ i, m2 47 i = m1 47 i := fun i => b6 47 i (by omega) (by omega)
  have g49 : ∀ i, m2 49 i = m1 49 i := fun i => b6 49 i (by omega) (by omega)
  obtain ⟨l1, l2⟩ := Rel_C (m' := m2) h (fun t t0 t4 => by
    unfold R_c1
    rw [g47, g49]
    by_cases e : t = s
    · subst e
      rw [a1, a2, b2, b3, b4]
      by_cases e1 : k = -1
      · exact Or.inl ⟨e1, if_pos (by omega)⟩
      · rw [if_neg e1, if_neg (by omega)]
        refine Or.inr ⟨rfl, by omega, by omega, rfl, rfl, by omega, by omega, fun i i0 i1 => ?_⟩
        rw [g45, a3 i i0 (by omega), b5 (by omega) i i0 i1]
    · have o := h.2.2.2.2.2.2.2.2.2 t t0 t4
      unfold R_c1 at o
      rw [a4 47 t (by omega) (by omega) (by omega), a4 49 t (by omega) (by omega) (by omega), b6 141 t (by omega) (by omega), b6 142 t (by omega) (by omega), b6 143 t (by omega) (by omega), a4 141 t (by omega) (by omega) (by omega), a4 142 t (by omega) (by omega) (by omega), a4 143 t (by omega) (by omega) (by omega)]
      rcases o with o | ⟨o1, o2, o3, o4, o5, o6, o7, o8⟩
      · exact Or.inl o
      · refine Or.inr ⟨o1, o2, o3, o4, o5, o6, o7, fun i i0 i1 => ?_⟩
        rw [g45, a4 45 _ (by omega) (by omega) (by omega), b6 144 _ (by omega) (by omega), a4 144 _ (by omega) (by omega) (by omega)]
        exact o8 i i0 i1) ff
  refine ⟨1, m1, m2, r1, funext fun i => a4 0 i (by omega) (by omega) (by omega), ?_, l1, l2⟩
  unfold f216 f216_16
  rw [bnd (f215_s.1 c1), if_neg (by exact n10), bnd (f143_s.1 c2), if_neg (by exact n10)]
  by_cases e : k < 0
  · rw [if_pos e, if_pos e]; exact b1
  · rw [if_neg e, if_neg (by omega), if_neg e, if_neg (by omega)]; exact b1
end SHEETS
