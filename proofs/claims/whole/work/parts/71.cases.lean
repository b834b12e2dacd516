/-! CASE 7: mending -/
section CASES
variable {n : Int} {m : Sg}
theorem k7 (L : Nat) (h : Rel n m) (s : Int) : ∃ w m1 m2, f103 (GC L) RC 1 s m = some (w, m1) ∧ m1 0 = m 0 ∧ f164 (GC L) RC 120 s m1 = some (w, m2) ∧ m2 0 = m 0 ∧ Rel n m2 := by
  obtain ⟨hn, h4, h10, hN, hA, hn2, hN2, ha, hc⟩ := hand_s h
  obtain ⟨m1, r1, r2, r3, r4⟩ := f1_s L h4 h10 h.1.2.2.2.1 h.1.2.2.1 hN hA h.2.2.2.1
  obtain ⟨f1, f2⟩ := Rel_M h (Or.inr r4) (fun x i c1 c2 => r2 x i (fun q => c1 (sc_z67 q)) (fun q => c1 (sc_z69 q)) (fun q => c1 (sc_z71 q)) (fun q => c2 (Or.inr (Or.inr (Or.inl q)))) (fun q => c2 (Or.inr (Or.inr (Or.inr q)))) (fun q => c1 (sc_z79 q)) (fun q => c1 (sc_z81 q)) (fun q => c1 (sc_z2 (by omega))) (fun q => c2 (Or.inr (Or.inl q))) (fun q => c1 (sc_z2 (by omega))) (fun q => c2 (Or.inl q)))
  obtain ⟨a1, a2, a3, a4, a5, a6, a7, a8, a9⟩ := hand_s f2
  obtain ⟨m2, s1, s2, s3⟩ := f163_s L a6 h4 h10 (by rw [a8]; exact a5) a7
  have Sm2 : Sm m1 m2 := fun x i c => s2 x i (fun q => c (sc_z124 (by omega))) (fun q => c (sc_z124 (by omega))) (fun q => c (sc_z120 (by omega))) (fun q => c (sc_z121 (by omega))) (fun q => c (sc_z121 (by omega))) (fun q => c (sc_z123 q))
  obtain ⟨g1, g2⟩ := fin_s f2 Sm2
  have e56 : m1 56 = m 56 := funext fun i => r2 56 i (by decide) (by decide) (by decide) (by decide) (by decide) (by decide) (by decide) (by omega) (by omega) (by omega) (by decide)
  have e58 : m1 58 = m 58 := funext fun i => r2 58 i (by decide) (by decide) (by decide) (by decide) (by decide) (by decide) (by decide) (by omega) (by omega) (by omega) (by decide)
  have e54 : m1 54 3 = m 54 3 := r2 54 3 (by decide) (by decide) (by decide) (by decide) (by decide) (by decide) (by decide) (by omega) (by omega) (by omega) (by decide)
  rw [e56, e58] at a9
  have r3' := MOk_cg (show 0 < n by omega) a9 r3
  rw [a8, e54] at s3
  have hu := MOk_u r3' s3
  have nb : m1 64 4 = 0 ∨ m1 64 4 = 1 ∨ m1 64 4 = 2 ∨ m1 64 4 = -1 := by
    rcases r3 with q | q | q | q
    · exact Or.inl q.1
    · exact Or.inr (Or.inl q.2.1)
    · exact Or.inr (Or.inr (Or.inl q.2.2.1))
    · exact Or.inr (Or.inr (Or.inr q.2.2.2))
  unfold f103 f164
  simp only [KG L, KR, if_true]
  rw [bnd r1]
  have eg : g_sub (m1 64 4) 1 = m1 64 4 - 1 := by unfold g_sub; rw [w32_i (by omega) (by omega)]
  by_cases z1 : s = -1
  · rw [if_pos z1]
    exact ⟨m1 64 4, m1, m2, rfl, f1, by rw [bnd s1, if_pos z1, ← hu.1], g1.trans f1, g2⟩
  · rw [if_neg z1]
    by_cases c1 : 0 ≤ s ∧ s ≤ m1 64 4 - 1
    · rw [if_neg (by omega), if_pos (by omega)]
      by_cases z : s = 0
      · rw [if_pos z]
        exact ⟨m1 64 5, m1, m2, rfl, f1, by rw [bnd s1, if_neg z1, ← hu.1, eg, bnd (f143_s.1 c1), if_neg (by exact n10), if_pos z, hu.2.1 (by omega)], g1.trans f1, g2⟩
      · rw [if_neg z]
        exact ⟨m1 64 6, m1, m2, rfl, f1, by rw [bnd s1, if_neg z1, ← hu.1, eg, bnd (f143_s.1 c1), if_neg (by exact n10), if_neg z, hu.2.2 (by omega)], g1.trans f1, g2⟩
    · refine ⟨-1, m1, m2, ?_, f1, by rw [bnd s1, if_neg z1, ← hu.1, eg, bnd (f143_s.2 c1), if_pos rfl], g1.trans f1, g2⟩
      by_cases q : s < 0
      · rw [if_pos q]
      · rw [if_neg q, if_neg (by omega)]
end CASES
