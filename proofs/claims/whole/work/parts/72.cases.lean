/-! CASES 8, 9: plays -/
section CASES
variable {n : Int} {m : Sg}
theorem k8 (L : Nat) (h : Rel n m) (s v : Int) : ∃ w m1 m2, f104 (GC L) RC 1 s v m = some (w, m1) ∧ m1 0 = m 0 ∧ f165 (GC L) RC 120 s v m1 = some (w, m2) ∧ m2 0 = m 0 ∧ Rel n m2 := by
  obtain ⟨hn, h4, h10, hN, hA, hn2, hN2, ha, hc⟩ := hand_s h
  unfold f104 f165
  by_cases c1 : 0 ≤ s ∧ s ≤ 12
  · rw [if_neg (by omega), if_neg (by omega)]
    by_cases c2 : 0 ≤ v ∧ v ≤ 2
    · simp only [KG L, KR, if_true]
      rw [if_neg (by omega), if_neg (by omega)]
      obtain ⟨m1, r1, r2, r3, r4, r5⟩ := f61_s L hn h4 h10 hN c1
      have Sm1 : Sm m m1 := fun x i c => r2 x i (fun q => c (sc_z11 q)) (fun q => c (sc_z13 q)) (fun q => c (sc_z9 q))
      obtain ⟨f1, f2⟩ := fin_s h Sm1
      obtain ⟨a1, a2, a3, a4, a5, a6, a7, a8, a9⟩ := hand_s f2
      obtain ⟨e1, e2, e3⟩ := Sm_h Sm1
      rw [e1, e2] at a9
      rw [e3] at a8
      obtain ⟨m2, s1, s2⟩ := f165_s L (what := v) a6 h4 h10 a7 c1
      have Sm2 : Sm m1 m2 := fun x i c => s2 x i (fun q => c (sc_z124 (by omega))) (fun q => c (sc_z124 (by omega))) (fun q => c (sc_z120 (by omega)))
      obtain ⟨g1, g2⟩ := fin_s f2 Sm2
      rw [a8, ← psr_cg (by omega) a9] at s1
      obtain ⟨b1, b2⟩ := psr_l (a := m 54 3) (K := m 56) (N := m 58) (show 0 < n by omega) h10 (j := s.toNat) (by omega)
      have sb2 : sm (psr n (m 56) (m 58) (m 54 3) s.toNat).1 20 < 2147483648 := by
        have e : tot (psr n (m 56) (m 58) (m 54 3) s.toNat) = sm (psr n (m 56) (m 58) (m 54 3) s.toNat).1 20 + (psr n (m 56) (m 58) (m 54 3) s.toNat).2.1 + (psr n (m 56) (m 58) (m 54 3) s.toNat).2.2 := rfl
        have := b1.2.1
        have := b1.2.2
        omega
      rw [bnd r1]
      refine ⟨pla v (psr n (m 56) (m 58) (m 54 3) s.toNat), m1, m2, ?_, f1, by rw [bnd (f143_s.1 c1), if_neg (by exact n10), bnd (f143_s.1 c2), if_neg (by exact n10)]; exact s1, g1.trans f1, g2⟩
      unfold pla
      by_cases z2 : v = 2
      · rw [if_pos z2, bnd (f62_s L b1.1 r3 sb2), if_neg (by omega), if_neg (by omega)]
      · rw [if_neg z2]
        by_cases z0 : v = 0
        · rw [if_pos z0, if_pos z0, r4]
        · rw [if_neg z0, if_neg z0, if_pos (by omega), r5]
    · refine ⟨_, m, m, ?_, rfl, by rw [bnd (f143_s.1 c1), if_neg (by exact n10), bnd (f143_s.2 c2), if_pos rfl], rfl, h⟩
      by_cases q : v < 0
      · rw [if_pos q]
      · rw [if_neg q, if_pos (by omega)]
  · refine ⟨_, m, m, ?_, rfl, by rw [bnd (f143_s.2 c1), if_pos rfl], rfl, h⟩
    by_cases q : s < 0
    · rw [if_pos q]
    · rw [if_neg q, if_pos (by omega)]
theorem f132_s {G : Gg} {ρ : Rg} {v : Int} : (0 ≤ v ∧ v ≤ 999999999999999999 → f132 G ρ v m = some 1) ∧ (¬ (0 ≤ v ∧ v ≤ 999999999999999999) → f132 G ρ v m = some 0) := by
  unfold f132
  constructor
  · intro c; rw [if_neg (by omega), if_pos (by omega)]
  · intro c
    by_cases q : v < 0
    · rw [if_pos q]
    · rw [if_neg q, if_neg (by omega)]
theorem f166_s {G : Gg} {ρ : Rg} {v : Int} : (0 ≤ v ∧ v ≤ 999999999999999999 → f166 G ρ v m = some 1) ∧ (¬ (0 ≤ v ∧ v ≤ 999999999999999999) → f166 G ρ v m = some 0) := by
  unfold f166
  constructor
  · intro c; rw [bnd (f143_s.1 c), if_pos (Or.inr rfl)]
  · intro c; rw [bnd (f143_s.2 c), if_pos (Or.inl rfl)]
/-- a row played on the hand -/
theorem row_s (L : Nat) (h : Rel n m) {r : Int} (hr : 0 ≤ r ∧ r ≤ 999999999999999999) : f45 (GC L) RC 54 r m = some (led n (m 56) (m 58) (m 54 3) 18 0 0 (-1) r 0) ∧ ∃ m2, f167 (GC L) RC 120 r m = some (led n (m 56) (m 58) (m 54 3) 18 0 0 (-1) r 0, m2) ∧ Sm m m2 := by
  obtain ⟨hn, h4, h10, hN, hA, hn2, hN2, ha, hc⟩ := hand_s h
  refine ⟨?_, ?_⟩
  · unfold f45
    exact f45_s L hn h4 h10 hN 18 0 0 (-1) r 0 (by omega) (by omega) (by omega) (by omega) (Or.inl rfl) (Or.inl rfl) hr.1 (by omega) FU (by rw [FU_v]; omega)
  · obtain ⟨m2, s1, s2⟩ := f167_s L hn2 h4 h10 hN2 18 m 0 0 (-1) r 0 (fun _ _ _ => rfl) (by omega) (by omega) (by omega) (by omega) (Or.inl rfl) (Or.inl rfl) hr.1 (by omega) (by omega) FU (by rw [FU_v]; omega)
    rw [ha, ← led_cg (by omega) hc, if_pos rfl] at s1
    refine ⟨m2, ?_, fun x i c => s2 x i (fun q => c (sc_z120 (by omega)))⟩
    unfold f167
    rw [bnd (f166_s.1 hr), if_neg (by exact n10)]
    exact s1
theorem k9 (L : Nat) (h : Rel n m) (r : Int) : ∃ w m2, f105 (GC L) RC 1 r m = some w ∧ f167 (GC L) RC 120 r m = some (w, m2) ∧ m2 0 = m 0 ∧ Rel n m2 := by
  unfold f105
  simp only [KG L, KR, if_true]
  by_cases c : 0 ≤ r ∧ r ≤ 999999999999999999
  · obtain ⟨r1, m2, r2, r3⟩ := row_s L h c
    obtain ⟨g1, g2⟩ := fin_s h r3
    rw [bnd (f132_s.1 c), if_neg (by exact n10), bnd r1]
    exact ⟨_, m2, rfl, r2, g1, g2⟩
  · rw [bnd (f132_s.2 c), if_pos rfl]
    refine ⟨-2, m, rfl, ?_, rfl, h⟩
    unfold f167
    rw [bnd (f166_s.2 c), if_pos rfl]
end CASES
