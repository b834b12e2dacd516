/-! MENDING, as the class does it, with what it keeps -/
def FrF (m0 m : Sg) : Prop := ∀ x i, ¬ x = 67 → ¬ x = 69 → ¬ x = 71 → ¬ x = 74 → ¬ x = 76 → ¬ x = 79 → ¬ x = 81 → ¬ (x = 65 ∧ i = 3) → ¬ (x = 72 ∧ i = 3) → ¬ (x = 77 ∧ i = 3) → ¬ x = 64 → m x i = m0 x i
def MC (n : Int) (m : Sg) : Prop := MOk n (m 74) (m 76) (m 72 3) (m 64 4) (m 64 5) (m 64 6)
theorem f1_9_s (L : Nat) {m0 : Sg} {n : Int} (h4 : 4 ≤ n) (h10 : n ≤ 10) (hn : m0 77 0 = n) (hn2 : m0 72 0 = n) (hN : ∀ i, 0 ≤ i → i < n → 0 ≤ m0 58 i ∧ m0 58 i < 1000) (hA : ∃ d, alw (m0 54 3) d) : ∃ m', f1_9 (GC L) RC 64 54 m0 = some m' ∧ FrF m0 m' ∧ MOk n (m0 56) (m0 58) (m0 54 3) (m' 64 4) (m' 64 5) (m' 64 6) ∧ MC n m' := by
  obtain ⟨m1, a1, a2, a3, a4⟩ := f41_72 L (m0 := put m0 64 3 1)
  simp only [put_ne (show ¬ 56 = 64 by decide), put_ne (show ¬ 58 = 64 by decide), put_ne (show ¬ 54 = 64 by decide)] at a2 a3
  obtain ⟨m2, b1, b2, b3, b4⟩ := f41_77 L (m0 := m1)
  have m1o : ∀ x i, ¬ x = 64 → ¬ x = 74 → ¬ x = 76 → ¬ x = 72 → m1 x i = m0 x i := fun x i c1 c2 c3 c4 => by rw [a4 x i c2 c3 (fun q => c4 q.1), put_ne c1]
  have e56 : m1 56 = m0 56 := funext fun i => m1o 56 i (by decide) (by decide) (by decide) (by decide)
  have e58 : m1 58 = m0 58 := funext fun i => m1o 58 i (by decide) (by decide) (by decide) (by decide)
  have e54 : m1 54 3 = m0 54 3 := m1o 54 3 (by decide) (by decide) (by decide) (by decide)
  rw [e56, e58] at b2
  rw [e54] at b3
  -- the memory that is judged
  have k74 : ∀ i, 0 ≤ i → i < n → m2 74 i = m0 56 i := fun i c1 c2 => by rw [b4 74 i (by decide) (by decide) (by omega)]; exact (a2 i c1 (by omega)).1
  have k76 : ∀ i, 0 ≤ i → i < n → m2 76 i = m0 58 i := fun i c1 c2 => by rw [b4 76 i (by decide) (by decide) (by omega)]; exact (a2 i c1 (by omega)).2
  have k72 : m2 72 3 = m0 54 3 := by rw [b4 72 3 (by decide) (by decide) (by omega)]; exact a3
  have k720 : m2 72 0 = n := by rw [b4 72 0 (by decide) (by decide) (by omega), a4 72 0 (by decide) (by decide) (by omega), put_ne (by decide)]; exact hn2
  have k770 : m2 77 0 = n := by rw [b4 77 0 (by decide) (by decide) (by omega), m1o 77 0 (by decide) (by decide) (by decide) (by decide)]; exact hn
  have k79 : ∀ i, 0 ≤ i → i < n → m2 79 i = m0 56 i := fun i c1 c2 => (b2 i c1 (by omega)).1
  have k81 : ∀ i, 0 ≤ i → i < n → m2 81 i = m0 58 i := fun i c1 c2 => (b2 i c1 (by omega)).2
  have k2o : FrF m0 m2 := fun x i c1 c2 c3 c4 c5 c6 c7 c8 c9 c10 c11 => by
    rw [b4 x i c6 c7 c10, a4 x i c4 c5 c9, put_ne c11]
  generalize hmS : put m2 64 6 (-1) = mS
  have sS : ∀ x, ¬ x = 64 → mS x = m2 x := fun x hx => by rw [← hmS]; exact put_f hx
  have cg : ∀ i, 0 ≤ i → i < n → mS 79 i = m0 56 i ∧ mS 81 i = m0 58 i := fun i c1 c2 => by rw [sS 79 (by decide), sS 81 (by decide)]; exact ⟨k79 i c1 c2, k81 i c1 c2⟩
  have cgA : ∀ i, 0 ≤ i → i < n → m0 56 i = m2 74 i ∧ m0 58 i = m2 76 i := fun i c1 c2 => ⟨(k74 i c1 c2).symm, (k76 i c1 c2).symm⟩
  have hNS : ∀ i, 0 ≤ i → i < n → 0 ≤ mS 81 i ∧ mS 81 i < 1000 := fun i c1 c2 => by rw [(cg i c1 c2).2]; exact hN i c1 c2
  have a77 : mS 77 3 = m0 54 3 := by rw [sS 77 (by decide)]; exact b3
  obtain ⟨v, m3, t1, t2, t3, t4⟩ := jt_s L (m := mS) (n := n) (N := mS 81) (a := mS 77 3) (by rw [sS 77 (by decide)]; exact k770) h4 h10 hNS (by rw [a77]; exact hA)
  rw [a77, fine_cg (by omega) cg] at t2
  -- what the end makes of it
  have fin : ∀ m4 : Sg, FrN m3 m4 → MOk n (m0 56) (m0 58) (m0 54 3) (m4 64 4) (m4 64 5) (m4 64 6) → FrF m0 m4 ∧ MOk n (m0 56) (m0 58) (m0 54 3) (m4 64 4) (m4 64 5) (m4 64 6) ∧ MC n m4 := by
    intro m4 f1 f2
    have g : ∀ x, ¬ x = 67 ∧ ¬ x = 69 ∧ ¬ x = 71 ∧ ¬ x = 79 ∧ ¬ x = 65 ∧ ¬ x = 64 → m4 x = m2 x := fun x hx => by
      rw [FrN_f f1 hx, FrM_f t3 ⟨hx.1, hx.2.1, hx.2.2.1, hx.2.2.2.1, hx.2.2.2.2.1⟩, sS x hx.2.2.2.2.2]
    refine ⟨fun x i c1 c2 c3 c4 c5 c6 c7 c8 c9 c10 c11 => ?_, f2, ?_⟩
    · rw [f1 x i c1 c2 c3 c6 c8 (fun q => c11 q.1), t3 x i c1 c2 c3 c6 c8, sS x c11]
      exact k2o x i c1 c2 c3 c4 c5 c6 c7 c8 c9 c10 c11
    · unfold MC
      rw [g 74 (by omega), g 76 (by omega), g 72 (by omega), k72]
      exact MOk_cg (by omega) cgA f2
  unfold f1_9
  simp only [KG L, KR, if_true]
  rw [a1]
  simp only [Option.bind_some]
  rw [b1]
  simp only [Option.bind_some]
  rw [hmS, t1]
  simp only [Option.bind_some]
  by_cases cv : v = 0
  · rw [if_pos cv]
    refine ⟨_, rfl, fin _ (FrN_6 (fun _ _ _ _ _ _ _ _ => rfl) (by omega)) (Or.inl ⟨put_eq _ _ _ _, t2.mp cv⟩)⟩
  · rw [if_neg cv]
    have nf : ¬ fine n (m0 56) (m0 58) (m0 54 3) := fun q => cv (t2.mpr q)
    have g79 : ∀ i, 0 ≤ i → i < n → m3 79 i = m0 56 i := fun i c1 c2 => by rw [t4]; exact (cg i c1 c2).1
    have g81 : m3 81 = mS 81 := FrM_f t3 (x := 81) (by omega)
    have g77 : m3 77 = mS 77 := FrM_f t3 (x := 77) (by omega)
    have g74 : ∀ i, 0 ≤ i → i < n → m3 74 i = m0 56 i := fun i c1 c2 => by rw [FrM_f t3 (x := 74) (by omega), sS 74 (by decide)]; exact k74 i c1 c2
    have g720 : m3 72 0 = n := by rw [FrM_f t3 (x := 72) (by omega), sS 72 (by decide)]; exact k720
    have g770 : m3 77 0 = n := by rw [g77, sS 77 (by decide)]; exact k770
    have cgN : ∀ i, 0 ≤ i → i < n → m0 56 i = m0 56 i ∧ mS 81 i = m0 58 i := fun i c1 c2 => ⟨rfl, (cg i c1 c2).2⟩
    have cgN' : ∀ i, 0 ≤ i → i < n → m0 56 i = m0 56 i ∧ m0 58 i = mS 81 i := fun i c1 c2 => ⟨rfl, (cg i c1 c2).2.symm⟩
    obtain ⟨w, m4, u1, u2, u3⟩ := mf_s L (m0 := m3) (n := n) (b := 0) (K := m0 56) h4 h10 g770 g720 (by rw [g81]; exact hNS) (by rw [g77, a77]; exact hA) (by omega) (by omega) g79 g74
    rw [g81, g77, a77] at u3
    rw [u1]
    simp only [Option.bind_some, put_eq]
    have F5 : FrN m3 (put m4 64 5 w) := FrN_6 (FrN_M (fun _ _ _ _ _ _ _ _ => rfl) u2) (by omega)
    by_cases cw : w = -1
    · rw [if_pos cw]
      unfold f1_46
      simp only [KG L, if_true]
      rcases u3 with ⟨v1, v2, v3⟩ | ⟨v1, v2⟩
      · obtain ⟨m5, p1, p2, p3⟩ := pr_s L (m0 := m3) (m := put (put m4 64 5 w) 64 4 (-1)) (n := n) (a := m0 54 3) (K := m0 56) (N := mS 81) h4 h10 g770 g720 g81 hNS (by rw [g77, a77]) hA g74 (FrN_6 F5 (by omega)) ⟨put_eq _ _ _ _, fun i c1 c2 => by rw [put_ne (by decide), put_ne (by decide)]; exact v3 i c1 c2⟩
        refine ⟨m5, p1, fin m5 p2 ?_⟩
        refine MOk_cg (N := mS 81) (by omega) cgN ?_
        have nf' : ¬ fine n (m0 56) (mS 81) (m0 54 3) := fun q => nf ((fine_cg (by omega) cgN).mp q)
        rcases p3 with ⟨q1, q2⟩ | ⟨q1, q2, q3⟩
        · exact Or.inr (Or.inr (Or.inr ⟨nf', v2, q2, q1⟩))
        · exact Or.inr (Or.inr (Or.inl ⟨nf', v2, q1, q2, q3⟩))
      · exfalso
        obtain ⟨s2, k2, w1, w2, w3, w4, _⟩ := v1
        omega
    · rw [if_neg cw]
      unfold f1_46
      simp only [KG L, if_true]
      rcases u3 with ⟨v1, v2, v3⟩ | ⟨v1, v2⟩
      · exact absurd v1 cw
      · have F6 : FrN m3 (put (put m4 64 5 w) 64 4 1) := FrN_6 F5 (by omega)
        have e0 : lp (f1_b49 (GC L) RC 64) FU (0, put (put m4 64 5 w) 64 4 1) = some (put (put m4 64 5 w) 64 4 1) := by
          have e72 : put (put m4 64 5 w) 64 4 1 72 0 = n := by rw [FrN_f F6 (x := 72) (by omega)]; exact g720
          have : f1_b49 (GC L) RC 64 (0, put (put m4 64 5 w) 64 4 1) = some (Sum.inr (put (put m4 64 5 w) 64 4 1)) := by
            unfold f1_b49
            simp only [KG L, KR, if_true]
            rw [e72, if_pos (by omega), put_eq, if_neg (by decide), xr_some]
          rw [FU_v]
          unfold lp
          rw [this]
        rw [e0]
        refine ⟨_, rfl, fin _ F6 ?_⟩
        refine MOk_cg (N := mS 81) (by omega) cgN ?_
        have nf' : ¬ fine n (m0 56) (mS 81) (m0 54 3) := fun q => nf ((fine_cg (by omega) cgN).mp q)
        refine Or.inr (Or.inl ⟨nf', put_eq _ _ _ _, ?_, ?_⟩)
        · rw [put_nj (by decide), put_eq]; exact v1
        · rw [put_nj (by decide), put_eq]; exact v2
theorem f1_s (L : Nat) {m0 : Sg} {n : Int} (h4 : 4 ≤ n) (h10 : n ≤ 10) (hn : m0 77 0 = n) (hn2 : m0 72 0 = n) (hN : ∀ i, 0 ≤ i → i < n → 0 ≤ m0 58 i ∧ m0 58 i < 1000) (hA : ∃ d, alw (m0 54 3) d) (hC : m0 64 3 = 0 ∨ MC n m0) : ∃ m', f1 (GC L) RC 64 54 m0 = some m' ∧ FrF m0 m' ∧ MOk n (m0 56) (m0 58) (m0 54 3) (m' 64 4) (m' 64 5) (m' 64 6) ∧ MC n m' := by
  have base := f1_9_s L h4 h10 hn hn2 hN hA
  unfold f1
  simp only [KG L, KR, if_true]
  by_cases c : m0 64 3 = 0
  · rw [if_pos c]; exact base
  · rw [if_neg c]
    obtain ⟨v, h1, h2⟩ := f42_s L (m := m0)
    rw [h1]
    simp only [Option.bind_some]
    rcases h2 with h2 | ⟨h2, h3, h5⟩
    · rw [if_pos h2]; exact base
    · rw [if_neg (by omega)]
      have hC' : MC n m0 := by
        rcases hC with q | q
        · exact absurd q c
        · exact q
      refine ⟨m0, rfl, fun _ _ _ _ _ _ _ _ _ _ _ _ _ => rfl, ?_, hC'⟩
      have := hC'
      unfold MC at this
      rw [h3] at this
      exact MOk_cg (by omega) (fun i a1 a2 => h5 i a1 (by omega)) this
