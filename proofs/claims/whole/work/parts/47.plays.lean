/-! COUNTING PLAYS, as the class does: a round, all rounds -/
theorem psk_s (n : Int) (K N : Int → Int) (a : Int) (w : Int → Int) (j : Nat) : psk n K N a w (j + 1) = if w (j : Int) = 0 then psk n K N a w j else psd n K N a (j : Int) (w (j : Int)) (psk n K N a w j) 5 := rfl
def FrQ (m0 m : Sg) : Prop := ∀ x i, ¬ x = 11 → ¬ x = 13 → ¬ (x = 9 ∧ (i = 2 ∨ i = 3)) → m x i = m0 x i
theorem f61c_s (L : Nat) {m0 m : Sg} {c r : Int} (hr : 0 ≤ r ∧ r < 100) (hF : FrQ m0 m) : ∃ m', lp (f61_b48 (GC L) RC 9 54 c r) FU (0, m) = some (Sum.inl (r + 1, m')) ∧ FrQ m0 m' ∧ (∀ i, 0 ≤ i → i < 20 → m' 11 i = m 13 i) ∧ m' 9 2 = m 9 2 ∧ m' 9 3 = m 9 3 := by
  obtain ⟨q, h1, m', h2, h3⟩ := lp_all (f := f61_b48 (GC L) RC 9 54 c r) (Q := fun q => ∃ m', q = Sum.inl (r + 1, m') ∧ FrQ m0 m' ∧ (∀ i, 0 ≤ i → i < 20 → m' 11 i = m 13 i) ∧ m' 9 2 = m 9 2 ∧ m' 9 3 = m 9 3) (fun j st => ∃ m', st = ((j : Int), m') ∧ FrQ m0 m' ∧ (∀ i : Int, 0 ≤ i → i < j → m' 11 i = m 13 i) ∧ m' 13 = m 13 ∧ m' 9 2 = m 9 2 ∧ m' 9 3 = m 9 3) 20
    (by
      rintro j st hj ⟨m', rfl, i1, i2, i3, i4, i5⟩
      unfold f61_b48
      simp only [KG L, KR, RAx L, RPx L, Option.bind_some, if_true]
      rw [if_pos (by omega), ra_in (by omega) (by omega), rp_in (by omega) (by omega), w32_i (by omega) (by omega), i3]
      refine ⟨_, rfl, _, rfl, fun x i c1 c2 c3 => by rw [put_ne c1]; exact i1 x i c1 c2 c3, fun i a1 a2 => ?_, by rw [put_f (by decide)]; exact i3, by rw [put_ne (by decide)]; exact i4, by rw [put_ne (by decide)]; exact i5⟩
      by_cases e : i = j
      · rw [e, put_eq]
      · rw [put_nj e]; exact i2 i a1 (by omega))
    (by
      rintro st ⟨m', rfl, i1, i2, i3, i4, i5⟩
      refine ⟨_, ?_, m', rfl, i1, i2, i4, i5⟩
      unfold f61_b48
      simp only
      rw [if_neg (by omega), xr_some, w32_i (by omega) (by omega)])
    (by rw [FU_v]; omega) (0, m) ⟨m, rfl, hF, fun i a1 a2 => absurd a2 (by show ¬ i < 0; omega), rfl, rfl, rfl⟩
  exact ⟨m', by rw [h1, h2], h3⟩
