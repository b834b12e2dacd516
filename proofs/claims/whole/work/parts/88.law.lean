/-! THE LAW'S LOOP -/
section LAW
variable {n : Int} {m : Sg}
theorem stp (L : Nat) (h : Rel n m) (hL : L ≤ 3073) {i : Int} (h1 : 1 ≤ i) (h2 : i + 6 ≤ (L : Int)) (hw : ∀ j, -2147483648 ≤ m 0 j ∧ m 0 j < 2147483648) : ∃ m', f236_b16 1 120 (i, GC L, RC, m) = some (Sum.inl (i + 6, GC L, RC, m')) ∧ m' 0 = m 0 ∧ Rel n m' := by
  have e1 : g_add i 1 = i + 1 := by unfold g_add; rw [w32_i (by omega) (by omega)]
  have b1 : 0 ≤ i + 1 ∧ i + 1 < (L : Int) := by omega
  have e2 : g_add i 2 = i + 2 := by unfold g_add; rw [w32_i (by omega) (by omega)]
  have b2 : 0 ≤ i + 2 ∧ i + 2 < (L : Int) := by omega
  have e3 : g_add i 3 = i + 3 := by unfold g_add; rw [w32_i (by omega) (by omega)]
  have b3 : 0 ≤ i + 3 ∧ i + 3 < (L : Int) := by omega
  have e4 : g_add i 4 = i + 4 := by unfold g_add; rw [w32_i (by omega) (by omega)]
  have b4 : 0 ≤ i + 4 ∧ i + 4 < (L : Int) := by omega
  have e5 : g_add i 5 = i + 5 := by unfold g_add; rw [w32_i (by omega) (by omega)]
  have b5 : 0 ≤ i + 5 ∧ i + 5 < (L : Int) := by omega
  have e6 : w32 (i + 6) = i + 6 := w32_i (by omega) (by omega)
  have eL : g_sub (L : Int) 6 = L - 6 := by unfold g_sub; rw [w32_i (by omega) (by omega)]
  have b0 : 0 ≤ i ∧ i < (L : Int) := by omega
  have g1 : gkb (GC L) 1 14 = true := (KG L).1
  have g2 : gkb (GC L) 120 15 = true := rfl
  unfold f236_b16
  dsimp only
  rw [KS L, eL, if_neg (show ¬ (L : Int) - 6 < i from by omega), if_pos b0, e1, e2, e3, e4, e5, e6]
  generalize g_and (m 0 i) 63 = c
  by_cases c0 : c = 0
  · obtain ⟨w, m1, m2, r1, r2, r3, r4, r5⟩ := k0 L h (m 0 (i + 1)) (m 0 (i + 2)) (m 0 (i + 3))
    rw [if_pos c0, if_pos b1, if_pos b2, if_pos b3, if_pos g1, bnd r1]
    try dsimp only
    rw [if_pos g2, r2, bnd r3]
    try dsimp only
    rw [if_pos rfl]
    exact ⟨m2, rfl, r4, r5⟩
  rw [if_neg c0]
  by_cases c1 : c = 1
  · obtain ⟨w, m1, m2, r1, r2, r3, r4, r5⟩ := k1 L h (m 0 (i + 1))
    rw [if_pos c1, if_pos b1, if_pos g1, bnd r1]
    try dsimp only
    rw [if_pos g2, r2, bnd r3]
    try dsimp only
    rw [if_pos rfl]
    exact ⟨m2, rfl, r4, r5⟩
  rw [if_neg c1]
  by_cases c2 : c = 2
  · obtain ⟨w, r1, r2⟩ := k2 L h (m 0 (i + 1)) (m 0 (i + 2))
    rw [if_pos c2, if_pos b1, if_pos b2, if_pos g1, bnd r1]
    try dsimp only
    rw [if_pos g2, bnd r2]
    try dsimp only
    rw [if_pos rfl]
    exact ⟨m, rfl, rfl, h⟩
  rw [if_neg c2]
  by_cases c3 : c = 3
  · obtain ⟨w, m1, m2, r1, r2, r3, r4, r5⟩ := k3 L h (m 0 (i + 1))
    rw [if_pos c3, if_pos b1, if_pos g1, bnd r1]
    try dsimp only
    rw [if_pos g2, r2, bnd r3]
    try dsimp only
    rw [if_pos rfl]
    exact ⟨m2, rfl, r4, r5⟩
  rw [if_neg c3]
  by_cases c4 : c = 4
  · obtain ⟨w, m1, m2, r1, r2, r3, r4, r5⟩ := k4 L h (m 0 (i + 1))
    rw [if_pos c4, if_pos b1, if_pos g1, bnd r1]
    try dsimp only
    rw [if_pos g2, r2, bnd r3]
    try dsimp only
    rw [if_pos rfl]
    exact ⟨m2, rfl, r4, r5⟩
  rw [if_neg c4]
  by_cases c5 : c = 5
  · obtain ⟨w, m1, m2, r1, r2, r3, r4, r5⟩ := k5 L h (m 0 (i + 1))
    rw [if_pos c5, if_pos b1, if_pos g1, bnd r1]
    try dsimp only
    rw [if_pos g2, r2, bnd r3]
    try dsimp only
    rw [if_pos rfl]
    exact ⟨m2, rfl, r4, r5⟩
  rw [if_neg c5]
  by_cases c6 : c = 6
  · obtain ⟨w, m1, m2, r1, r2, r3, r4, r5⟩ := k6 L h (m 0 (i + 1))
    rw [if_pos c6, if_pos b1, if_pos g1, bnd r1]
    try dsimp only
    rw [if_pos g2, r2, bnd r3]
    try dsimp only
    rw [if_pos rfl]
    exact ⟨m2, rfl, r4, r5⟩
  rw [if_neg c6]
  by_cases c7 : c = 7
  · obtain ⟨w, m1, m2, r1, r2, r3, r4, r5⟩ := k7 L h (m 0 (i + 1))
    rw [if_pos c7, if_pos b1, if_pos g1, bnd r1]
    try dsimp only
    rw [if_pos g2, r2, bnd r3]
    try dsimp only
    rw [if_pos rfl]
    exact ⟨m2, rfl, r4, r5⟩
  rw [if_neg c7]
  by_cases c8 : c = 8
  · obtain ⟨w, m1, m2, r1, r2, r3, r4, r5⟩ := k8 L h (m 0 (i + 1)) (m 0 (i + 2))
    rw [if_pos c8, if_pos b1, if_pos b2, if_pos g1, bnd r1]
    try dsimp only
    rw [if_pos g2, r2, bnd r3]
    try dsimp only
    rw [if_pos rfl]
    exact ⟨m2, rfl, r4, r5⟩
  rw [if_neg c8]
  by_cases c9 : c = 9
  · obtain ⟨w, m2, r1, r2, r3, r4⟩ := k9 L h (k_or (k_shl (m 0 (i + 1)) 32) (k_and (m 0 (i + 2)) 4294967295))
    rw [if_pos c9, if_pos b1, if_pos b2, if_pos g1, bnd r1]
    try dsimp only
    rw [if_pos g2, bnd r2]
    try dsimp only
    rw [if_pos rfl]
    exact ⟨m2, rfl, r3, r4⟩
  rw [if_neg c9]
  by_cases c10 : c = 10
  · obtain ⟨w, m1, m2, r1, r2, r3, r4, r5⟩ := k10 L h (m 0 (i + 1)) (m 0 (i + 2))
    rw [if_pos c10, if_pos b1, if_pos b2, if_pos g1, bnd r1]
    try dsimp only
    rw [if_pos g2, r2, bnd r3]
    try dsimp only
    rw [if_pos rfl]
    exact ⟨m2, rfl, r4, r5⟩
  rw [if_neg c10]
  by_cases c11 : c = 11
  · obtain ⟨w, m1, m2, r1, r2, r3, r4, r5⟩ := k11 L h (m 0 (i + 1)) (m 0 (i + 2))
    rw [if_pos c11, if_pos b1, if_pos b2, if_pos g1, bnd r1]
    try dsimp only
    rw [if_pos g2, r2, bnd r3]
    try dsimp only
    rw [if_pos rfl]
    exact ⟨m2, rfl, r4, r5⟩
  rw [if_neg c11]
  by_cases c12 : c = 12
  · obtain ⟨w, m1, m2, r1, r2, r3, r4, r5⟩ := k12 L h (m 0 (i + 1)) (m 0 (i + 2))
    rw [if_pos c12, if_pos b1, if_pos b2, if_pos g1, bnd r1]
    try dsimp only
    rw [if_pos g2, r2, bnd r3]
    try dsimp only
    rw [if_pos rfl]
    exact ⟨m2, rfl, r4, r5⟩
  rw [if_neg c12]
  by_cases c13 : c = 13
  · obtain ⟨w, m1, m2, r1, r2, r3, r4, r5⟩ := k13 L h (m 0 (i + 1))
    rw [if_pos c13, if_pos b1, if_pos g1, bnd r1]
    try dsimp only
    rw [if_pos g2, r2, bnd r3]
    try dsimp only
    rw [if_pos rfl]
    exact ⟨m2, rfl, r4, r5⟩
  rw [if_neg c13]
  by_cases c14 : c = 14
  · obtain ⟨w, r1, r2⟩ := k14 L h (m 0 (i + 1)) (m 0 (i + 2))
    rw [if_pos c14, if_pos b1, if_pos b2, if_pos g1, bnd r1]
    try dsimp only
    rw [if_pos g2, bnd r2]
    try dsimp only
    rw [if_pos rfl]
    exact ⟨m, rfl, rfl, h⟩
  rw [if_neg c14]
  by_cases c15 : c = 15
  · obtain ⟨w, r1, r2⟩ := k15 L h (m 0 (i + 1))
    rw [if_pos c15, if_pos b1, if_pos g1, bnd r1]
    try dsimp only
    rw [if_pos g2, bnd r2]
    try dsimp only
    rw [if_pos rfl]
    exact ⟨m, rfl, rfl, h⟩
  rw [if_neg c15]
  by_cases c16 : c = 16
  · obtain ⟨w, r1, r2⟩ := k16 L h (m 0 (i + 1))
    rw [if_pos c16, if_pos b1, if_pos g1, bnd r1]
    try dsimp only
    rw [if_pos g2, bnd r2]
    try dsimp only
    rw [if_pos rfl]
    exact ⟨m, rfl, rfl, h⟩
  rw [if_neg c16]
  by_cases c17 : c = 17
  · obtain ⟨w, m1, r1, r2, r3, r4⟩ := k17 L h (m 0 (i + 1)) (m 0 (i + 2))
    rw [if_pos c17, if_pos b1, if_pos b2, if_pos g1, bnd r1]
    try dsimp only
    rw [if_pos g2, r2, bnd r3]
    try dsimp only
    rw [if_pos rfl]
    exact ⟨m1, rfl, r2, r4⟩
  rw [if_neg c17]
  by_cases c18 : c = 18
  · obtain ⟨w, m1, m2, r1, r2, r3, r4, r5⟩ := k18 L h (m 0 (i + 1)) (m 0 (i + 2))
    rw [if_pos c18, if_pos b1, if_pos b2, if_pos g1, bnd r1]
    try dsimp only
    rw [if_pos g2, r2, bnd r3]
    try dsimp only
    rw [if_pos rfl]
    exact ⟨m2, rfl, r4, r5⟩
  rw [if_neg c18]
  by_cases c19 : c = 19
  · obtain ⟨w, m1, m2, r1, r2, r3, r4, r5⟩ := k19 L h (m 0 (i + 1)) (k_or (k_shl (m 0 (i + 2)) 32) (k_and (m 0 (i + 3)) 4294967295))
    rw [if_pos c19, if_pos b1, if_pos b2, if_pos b3, if_pos g1, bnd r1]
    try dsimp only
    rw [if_pos g2, r2, bnd r3]
    try dsimp only
    rw [if_pos rfl]
    exact ⟨m2, rfl, r4, r5⟩
  rw [if_neg c19]
  by_cases c20 : c = 20
  · obtain ⟨w, m1, m2, r1, r2, r3, r4, r5⟩ := k20 L h 
    rw [if_pos c20, if_pos g1, bnd r1]
    try dsimp only
    rw [if_pos g2, bnd r3]
    try dsimp only
    rw [if_pos rfl]
    exact ⟨m2, rfl, r4, r5⟩
  rw [if_neg c20]
  by_cases c21 : c = 21
  · obtain ⟨w, m1, m2, r1, r2, r3, r4, r5⟩ := k21 L h (m 0 (i + 1))
    rw [if_pos c21, if_pos b1, if_pos g1, bnd r1]
    try dsimp only
    rw [if_pos g2, r2, bnd r3]
    try dsimp only
    rw [if_pos rfl]
    exact ⟨m2, rfl, r4, r5⟩
  rw [if_neg c21]
  by_cases c22 : c = 22
  · obtain ⟨w, m1, m2, r1, r2, r3, r4, r5⟩ := k22 L h (m 0 (i + 1)) (m 0 (i + 2))
    rw [if_pos c22, if_pos b1, if_pos b2, if_pos g1, bnd r1]
    try dsimp only
    rw [if_pos g2, r2, bnd r3]
    try dsimp only
    rw [if_pos rfl]
    exact ⟨m2, rfl, r4, r5⟩
  rw [if_neg c22]
  by_cases c23 : c = 23
  · obtain ⟨w, m1, m2, r1, r2, r3, r4, r5⟩ := k23 L h (m 0 (i + 1)) (m 0 (i + 2))
    rw [if_pos c23, if_pos b1, if_pos b2, if_pos g1, bnd r1]
    try dsimp only
    rw [if_pos g2, r2, bnd r3]
    try dsimp only
    rw [if_pos rfl]
    exact ⟨m2, rfl, r4, r5⟩
  rw [if_neg c23]
  by_cases c24 : c = 24
  · obtain ⟨w, m1, m2, r1, r2, r3, r4, r5⟩ := k24 L h (m 0 (i + 1))
    rw [if_pos c24, if_pos b1, if_pos g1, bnd r1]
    try dsimp only
    rw [if_pos g2, r2, bnd r3]
    try dsimp only
    rw [if_pos rfl]
    exact ⟨m2, rfl, r4, r5⟩
  rw [if_neg c24]
  by_cases c25 : c = 25
  · obtain ⟨w, r1, r2⟩ := k25 L h (m 0 (i + 1))
    rw [if_pos c25, if_pos b1, if_pos g1, bnd r1]
    try dsimp only
    rw [if_pos g2, bnd r2]
    try dsimp only
    rw [if_pos rfl]
    exact ⟨m, rfl, rfl, h⟩
  rw [if_neg c25]
  by_cases c26 : c = 26
  · obtain ⟨w, m1, m2, r1, r2, r3, r4, r5⟩ := k26 L h (m 0 (i + 1)) (m 0 (i + 2)) (m 0 (i + 3)) (k_or (k_shl (m 0 (i + 4)) 32) (k_and (m 0 (i + 5)) 4294967295))
    rw [if_pos c26, if_pos b1, if_pos b2, if_pos b3, if_pos b4, if_pos b5, if_pos g1, bnd r1]
    try dsimp only
    rw [if_pos g2, r2, bnd r3]
    try dsimp only
    rw [if_pos rfl]
    exact ⟨m2, rfl, r4, r5⟩
  rw [if_neg c26]
  by_cases c27 : c = 27
  · obtain ⟨w, r1, r2⟩ := k27 L h (m 0 (i + 1))
    rw [if_pos c27, if_pos b1, if_pos g1, bnd r1]
    try dsimp only
    rw [if_pos g2, bnd r2]
    try dsimp only
    rw [if_pos rfl]
    exact ⟨m, rfl, rfl, h⟩
  rw [if_neg c27]
  by_cases c28 : c = 28
  · obtain ⟨w, r1, r2⟩ := k28 L h (m 0 (i + 1))
    rw [if_pos c28, if_pos b1, if_pos g1, bnd r1]
    try dsimp only
    rw [if_pos g2, bnd r2]
    try dsimp only
    rw [if_pos rfl]
    exact ⟨m, rfl, rfl, h⟩
  rw [if_neg c28]
  by_cases c29 : c = 29
  · obtain ⟨w, m1, m2, r1, r2, r3, r4, r5⟩ := k29 L h (m 0 (i + 1)) (m 0 (i + 2)) (m 0 (i + 3))
    rw [if_pos c29, if_pos b1, if_pos b2, if_pos b3, if_pos g1, bnd r1]
    try dsimp only
    rw [if_pos g2, r2, bnd r3]
    try dsimp only
    rw [if_pos rfl]
    exact ⟨m2, rfl, r4, r5⟩
  rw [if_neg c29]
  by_cases c30 : c = 30
  · obtain ⟨w, m1, m2, r1, r2, r3, r4, r5⟩ := k30 L h (m 0 (i + 1)) (m 0 (i + 2)) (m 0 (i + 3))
    rw [if_pos c30, if_pos b1, if_pos b2, if_pos b3, if_pos g1, bnd r1]
    try dsimp only
    rw [if_pos g2, r2, bnd r3]
    try dsimp only
    rw [if_pos rfl]
    exact ⟨m2, rfl, r4, r5⟩
  rw [if_neg c30]
  by_cases c31 : c = 31
  · obtain ⟨w, m1, m2, r1, r2, r3, r4, r5⟩ := k31 L h (m 0 (i + 1)) (m 0 (i + 2)) (m 0 (i + 3)) (m 0 (i + 4)) (m 0 (i + 5)) (hw (i + 5)).2
    rw [if_pos c31, if_pos b1, if_pos b2, if_pos b3, if_pos b4, if_pos b5, if_pos g1, bnd r1]
    try dsimp only
    rw [if_pos g2, r2, bnd r3]
    try dsimp only
    rw [if_pos rfl]
    exact ⟨m2, rfl, r4, r5⟩
  rw [if_neg c31]
  by_cases c32 : c = 32
  · obtain ⟨w, m1, m2, r1, r2, r3, r4, r5⟩ := k32 L h (m 0 (i + 1)) (m 0 (i + 2)) (m 0 (i + 3)) (m 0 (i + 4)) (hw (i + 3))
    rw [if_pos c32, if_pos b1, if_pos b2, if_pos b3, if_pos b4, if_pos g1, bnd r1]
    try dsimp only
    rw [if_pos g2, r2, bnd r3]
    try dsimp only
    rw [if_pos rfl]
    exact ⟨m2, rfl, r4, r5⟩
  rw [if_neg c32]
  by_cases c33 : c = 33
  · obtain ⟨w, r1, r2⟩ := k33 L h (m 0 (i + 1)) (m 0 (i + 2))
    rw [if_pos c33, if_pos b1, if_pos b2, if_pos g1, bnd r1]
    try dsimp only
    rw [if_pos g2, bnd r2]
    try dsimp only
    rw [if_pos rfl]
    exact ⟨m, rfl, rfl, h⟩
  rw [if_neg c33]
  exact ⟨m, rfl, rfl, h⟩
theorem law_l (L : Nat) (h : Rel n m) (hL : L ≤ 3073) (hw : ∀ j, -2147483648 ≤ m 0 j ∧ m 0 j < 2147483648) : ∃ q, lp (f236_b16 1 120) FU (1, GC L, RC, m) = some q ∧ ∃ m', q = (1, GC L, RC, m') := by
  have eL : g_sub (L : Int) 6 = L - 6 := by unfold g_sub; rw [w32_i (by omega) (by omega)]
  have stop : ∀ (i : Int) (m1 : Sg), (L : Int) - 6 < i → f236_b16 1 120 (i, GC L, RC, m1) = some (Sum.inr (1, GC L, RC, m1)) := fun i m1 c => by
    unfold f236_b16
    dsimp only
    rw [KS L, eL, if_pos c, xr_some]
  refine lp_ex (f := f236_b16 1 120) (fun (k : Nat) st => ∃ m1, st = (1 + 6 * (k : Int), GC L, RC, m1) ∧ m1 0 = m 0 ∧ Rel n m1) 600 ?_ ?_ FU (by rw [FU_v]; omega) (1, GC L, RC, m) ⟨m, rfl, rfl, h⟩
  · rintro k st hk ⟨m1, rfl, i1, i2⟩
    by_cases c : (L : Int) - 6 < 1 + 6 * (k : Int)
    · exact Or.inr ⟨_, stop _ m1 c, m1, rfl⟩
    · left
      obtain ⟨m2, r1, r2, r3⟩ := stp L i2 hL (i := 1 + 6 * (k : Int)) (by omega) (by omega) (fun j => by rw [i1]; exact hw j)
      exact ⟨_, r1, m2, by rw [show 1 + 6 * (k : Int) + 6 = 1 + 6 * ((k + 1 : Nat) : Int) from by omega], by rw [r2, i1], r3⟩
  · rintro st ⟨m1, rfl, i1, i2⟩
    exact ⟨_, stop _ m1 (by omega), m1, rfl⟩
end LAW
