/-! MENDING, as the model looks for it: two changes, and all of it -/
section SEARCH2
variable {m0 : Sg} {n a : Int} {K N : Int → Int}
theorem m85_s (L : Nat) {m : Sg} {s : Int} (hn : m0 120 1 = n) (h4 : 4 ≤ n) (h10 : n ≤ 10) (ha : m0 123 13 = a) (hA : ∃ d, alw a d) (hNN : NM m0 13 = N) (hN : ∀ i, 0 ≤ i → i < n → 0 ≤ N i ∧ N i < 1000) (hs : 0 ≤ s) (hsn : s < n) (hF : FrL m0 m) (hK : ∀ i, 0 ≤ i → i < n → m 121 (130 + i) = K i) (hC : NC n K N a s 0) : ∃ r, lp (f163_b85 (GC L) RC 120 130 s (K s)) FU (0, m) = some r ∧ ((∃ m', r = Sum.inl (s + 1, m') ∧ FrL m0 m' ∧ (∀ i, 0 ≤ i → i < n → m' 121 (130 + i) = K i) ∧ m' 120 8 = m 120 8 ∧ NC n K N a (s + 1) 0) ∨ (∃ m', r = Sum.inr m' ∧ FrL m0 m' ∧ m' 120 8 = m 120 8 ∧ ca2 n K N a (m' 120 9) (m' 120 10) ∧ ∀ v w, ca2 n K N a v w → m' 120 9 < v ∨ (m' 120 9 = v ∧ m' 120 10 ≤ w))) := by
  refine lp_ex (f := f163_b85 (GC L) RC 120 130 s (K s)) (fun k st => ∃ m', st = ((k : Int), m') ∧ FrL m0 m' ∧ (∀ i, 0 ≤ i → i < n → ¬ i = s → m' 121 (130 + i) = K i) ∧ m' 120 8 = m 120 8 ∧ NC n K N a s k) 4 ?_ ?_ FU (by rw [FU_v]; omega) (0, m) ⟨m, rfl, hF, fun i a1 a2 _ => hK i a1 a2, rfl, hC⟩
  · rintro k st hk ⟨m', rfl, j1, j2, j3, j4⟩
    unfold f163_b85
    simp only [KG L, KR, KL L, if_true, g130 (show 0 ≤ s ∧ s < 10 by omega)]
    rw [if_neg (by omega), w32_i (by omega) (by omega)]
    by_cases ck : (k : Int) = K s
    · left
      rw [if_pos ck]
      refine ⟨_, rfl, m', rfl, j1, j2, j3, fun s' k' w a1 a2 a3 a4 a5 a6 => ?_⟩
      by_cases e : s' = s ∧ k' = k
      · rw [e.1, e.2] at a5; exact absurd ck a5
      · exact j4 s' k' w a1 a2 a3 a4 a5 (by omega)
    · rw [if_neg ck, if_pos (by omega)]
      have e1 : g_add s 1 = s + 1 := by unfold g_add; rw [w32_i (by omega) (by omega)]
      rw [e1]
      obtain ⟨r, t1, t2⟩ := m103_s L (m0 := m0) (m := put m' 121 (130 + s) k) (K := upk K s k) (b := s + 1) (p := s) (q := (k : Int)) (x := K s) hn h4 h10 ha hA hNN hN (by omega) (by omega) (by omega) (by omega) (FrL_k j1 (by omega)) (fun i a1 a2 => by
        unfold upk
        by_cases e : i = s
        · rw [if_pos e, e, put_eq]
        · rw [if_neg e, put_nj (by omega)]; exact j2 i a1 a2 e)
      rw [t1]
      rcases t2 with ⟨m2, rfl, u1, u2, u3, u4⟩ | ⟨m2, rfl, u1, u2, u3, u4, u5⟩
      · left
        refine ⟨_, rfl, m2, rfl, u1, fun i a1 a2 a3 => ?_, ?_, fun s' k' w a1 a2 a3 a4 a5 a6 => ?_⟩
        · rw [u2 i a1 a2]; unfold upk; rw [if_neg a3]
        · rw [u3 8 (by omega) (by omega), put_ne (by decide)]; exact j3
        · by_cases e : s' = s ∧ k' = k
          · rw [e.1, e.2]; exact u4 w
          · exact j4 s' k' w a1 a2 a3 a4 a5 (by omega)
      · right
        refine ⟨_, rfl, Or.inr ⟨m2, rfl, u1, ?_, ?_, ?_⟩⟩
        · rw [u2, put_ne (by decide)]; exact j3
        · rw [u3]; exact ⟨s, k, rfl, hs, hsn, by omega, by omega, ck, u4⟩
        · rw [u3]
          rintro v' w' ⟨s', k', rfl, b2, b3, b4, b5, b6, b7⟩
          by_cases e : s' = s ∧ k' = k
          · right
            rw [e.1, e.2] at b7
            refine ⟨by omega, ?_⟩
            by_cases cw : w' < m2 120 10
            · exact absurd b7 (u5 w' cw)
            · omega
          · left
            by_cases lt : s' < s ∨ (s' = s ∧ k' < k)
            · exact absurd b7 (j4 s' k' w' b2 b3 b4 b5 b6 lt)
            · omega
  · rintro st ⟨m', rfl, j1, j2, j3, j4⟩
    unfold f163_b85
    simp only [KG L, KR, KL L, if_true, g130 (show 0 ≤ s ∧ s < 10 by omega)]
    rw [if_pos (by omega), if_pos (by omega), xr_some, w32_i (by omega) (by omega)]
    refine ⟨_, rfl, Or.inl ⟨_, rfl, FrL_k j1 (by omega), fun i a1 a2 => ?_, ?_, fun s' k' w a1 a2 a3 a4 a5 a6 => j4 s' k' w a1 a2 a3 a4 a5 (by omega)⟩⟩
    · by_cases e : i = s
      · rw [e, put_eq]
      · rw [put_nj (by omega)]; exact j2 i a1 a2 e
    · rw [put_ne (by decide)]; exact j3
theorem m72_s (L : Nat) {m : Sg} (hn : m0 120 1 = n) (h4 : 4 ≤ n) (h10 : n ≤ 10) (ha : m0 123 13 = a) (hA : ∃ d, alw a d) (hNN : NM m0 13 = N) (hN : ∀ i, 0 ≤ i → i < n → 0 ≤ N i ∧ N i < 1000) (hF : FrL m0 m) (hK : ∀ i, 0 ≤ i → i < n → m 121 (130 + i) = K i) : ∃ m', lp (f163_b72 (GC L) RC 120 130) FU (0, m) = some m' ∧ FrL m0 m' ∧ ((m' 120 8 = -1 ∧ ∀ v w, ¬ ca2 n K N a v w) ∨ (m' 120 8 = m 120 8 ∧ ca2 n K N a (m' 120 9) (m' 120 10) ∧ ∀ v w, ca2 n K N a v w → m' 120 9 < v ∨ (m' 120 9 = v ∧ m' 120 10 ≤ w))) := by
  refine lp_ex (f := f163_b72 (GC L) RC 120 130) (fun k st => ∃ m', st = ((k : Int), m') ∧ FrL m0 m' ∧ (∀ i, 0 ≤ i → i < n → m' 121 (130 + i) = K i) ∧ m' 120 8 = m 120 8 ∧ NC n K N a k 0) n.toNat ?_ ?_ FU (by rw [FU_v]; omega) (0, m) ⟨m, rfl, hF, hK, rfl, fun s' k' w a1 a2 a3 a4 a5 a6 => by
    have : ¬ s' < ((0 : Nat) : Int) := by show ¬ s' < 0; omega
    omega⟩
  · rintro k st hk ⟨m', rfl, j1, j2, j3, j4⟩
    unfold f163_b72
    simp only [KG L, KR, KL L, if_true, g130 (show 0 ≤ (k : Int) ∧ (k : Int) < 10 by omega)]
    rw [FrL_n j1 hn, if_pos (by omega), if_pos (by omega), j2 _ (by omega) (by omega)]
    obtain ⟨r, t1, t2⟩ := m85_s L (s := (k : Int)) hn h4 h10 ha hA hNN hN (by omega) (by omega) j1 j2 j4
    rw [t1]
    rcases t2 with ⟨m2, rfl, u1, u2, u3, u4⟩ | ⟨m2, rfl, u1, u2, u3, u4⟩
    · left
      exact ⟨_, rfl, m2, rfl, u1, u2, u3.trans j3, u4⟩
    · right
      exact ⟨_, rfl, u1, Or.inr ⟨u2.trans j3, u3, u4⟩⟩
  · rintro st ⟨m', rfl, j1, j2, j3, j4⟩
    unfold f163_b72
    simp only [KG L, if_true]
    rw [FrL_n j1 hn, if_neg (by omega), xr_some]
    refine ⟨_, rfl, FrL_o j1 (by omega), Or.inl ⟨put_eq _ _ _ _, ?_⟩⟩
    rintro v w ⟨s', k', rfl, b2, b3, b4, b5, b6, b7⟩
    exact j4 s' k' w b2 b3 b4 b5 b6 (by omega) b7
theorem m18_s (L : Nat) {m : Sg} (hn : m0 120 1 = n) (h4 : 4 ≤ n) (h10 : n ≤ 10) (ha : m0 123 13 = a) (hA : ∃ d, alw a d) (hNN : NM m0 13 = N) (hN : ∀ i, 0 ≤ i → i < n → 0 ≤ N i ∧ N i < 1000) (hF : FrL m0 m) (hK : ∀ i, 0 ≤ i → i < n → m 121 (130 + i) = K i) : ∃ m', lp (f163_b18 (GC L) RC 120 130) FU (0, m) = some m' ∧ FrL m0 m' ∧ ((m' 120 8 = m 120 8 ∧ ca1 n K N a 0 (m' 120 9) ∧ ∀ w, w < m' 120 9 → ¬ ca1 n K N a 0 w) ∨ ((∀ w, ¬ ca1 n K N a 0 w) ∧ m' 120 8 = 2 ∧ ca2 n K N a (m' 120 9) (m' 120 10) ∧ ∀ v w, ca2 n K N a v w → m' 120 9 < v ∨ (m' 120 9 = v ∧ m' 120 10 ≤ w)) ∨ ((∀ w, ¬ ca1 n K N a 0 w) ∧ (∀ v w, ¬ ca2 n K N a v w) ∧ m' 120 8 = -1)) := by
  refine lp_ex (f := f163_b18 (GC L) RC 120 130) (fun j st => ∃ m', st = ((j : Int), m') ∧ FrL m0 m' ∧ (∀ i, 0 ≤ i → i < n → m' 121 (130 + i) = K i) ∧ m' 120 8 = m 120 8 ∧ ∀ s k, 0 ≤ s → s < (j : Int) → 0 ≤ k → k < 4 → ¬ k = K s → ¬ fine n (upk K s k) N a) n.toNat ?_ ?_ FU (by rw [FU_v]; omega) (0, m) ⟨m, rfl, hF, hK, rfl, fun s k a1 a2 => absurd a2 (by show ¬ s < 0; omega)⟩
  · rintro j st hj ⟨m', rfl, i1, i2, i3, i4⟩
    unfold f163_b18
    simp only [KG L, KR, KL L, if_true, g130 (show 0 ≤ (j : Int) ∧ (j : Int) < 10 by omega)]
    rw [FrL_n i1 hn, if_pos (by omega), if_pos (by omega), i2 _ (by omega) (by omega)]
    obtain ⟨r, t1, t2⟩ := m31_s L (s := (j : Int)) hn h4 h10 ha hA hNN hN (by omega) (by omega) i1 i2
    rw [t1]
    rcases t2 with ⟨m2, rfl, u1, u2, u3, u4⟩ | ⟨k, m2, rfl, u1, u2, u3, u5, u6, u7, u8, u9⟩
    · left
      refine ⟨_, rfl, m2, rfl, u1, u2, (u3 8 (by omega) (by omega)).trans i3, fun s' k a1 a2 a3 a4 a5 => ?_⟩
      by_cases e : s' = (j : Int)
      · rw [e] at a5 ⊢; exact u4 k a3 a4 a5
      · exact i4 s' k a1 (by omega) a3 a4 a5
    · right
      refine ⟨_, rfl, u1, Or.inl ⟨u2.trans i3, ?_, ?_⟩⟩
      · rw [u3]; exact ⟨(j : Int), k, rfl, by omega, by omega, u5, u6, u7, u8⟩
      · rw [u3]
        rintro w hw ⟨s', k', rfl, a1, a2, a3, a4, a5, a6⟩
        by_cases e : s' = (j : Int)
        · rw [e] at a5 a6 hw; exact u9 k' a3 (by omega) a5 a6
        · exact i4 s' k' a1 (by omega) a3 a4 a5 a6
  · rintro st ⟨m', rfl, i1, i2, i3, i4⟩
    unfold f163_b18
    simp only [KG L, if_true]
    rw [FrL_n i1 hn, if_neg (by omega)]
    obtain ⟨m2, t1, t2, t3⟩ := m72_s L (K := K) (m := put m' 120 8 2) hn h4 h10 ha hA hNN hN (FrL_o i1 (by omega)) (fun i a1 a2 => by rw [put_ne (by decide)]; exact i2 i a1 a2)
    rw [t1, xr_some]
    have no1 : ∀ w, ¬ ca1 n K N a 0 w := by
      rintro w ⟨s', k', rfl, a1, a2, a3, a4, a5, a6⟩
      exact i4 s' k' a1 (by omega) a3 a4 a5 a6
    refine ⟨_, rfl, t2, Or.inr ?_⟩
    rcases t3 with ⟨q1, q2⟩ | ⟨q1, q2, q3⟩
    · exact Or.inr ⟨no1, q2, q1⟩
    · exact Or.inl ⟨no1, by rw [q1, put_eq], q2, q3⟩
end SEARCH2
def FrG (m0 m : Sg) : Prop := ∀ x i, ¬ x = 124 → ¬ x = 125 → ¬ (x = 120 ∧ (i = 5 ∨ (8 ≤ i ∧ i ≤ 10))) → ¬ (x = 121 ∧ 130 ≤ i) → ¬ (x = 122 ∧ 130 ≤ i) → ¬ (x = 123 ∧ i = 13) → m x i = m0 x i
theorem f163_s (L : Nat) {m0 : Sg} {n : Int} (hn : m0 120 1 = n) (h4 : 4 ≤ n) (h10 : n ≤ 10) (hA : ∃ d, alw (m0 123 12) d) (hN : ∀ i, 0 ≤ i → i < n → 0 ≤ NM m0 12 i ∧ NM m0 12 i < 1000) : ∃ m', f163 (GC L) RC 120 m0 = some m' ∧ FrG m0 m' ∧ MOk n (KM m0 12) (NM m0 12) (m0 123 12) (m' 120 8) (m' 120 9) (m' 120 10) := by
  obtain ⟨m1, a1, a2, a3, a4⟩ := f162_s L (m0 := m0) (p := 12) (q := 13) (by omega) (by omega) (by omega)
  have F1 : FrG m0 (put m1 120 8 0) := fun x i c1 c2 c3 c4 c5 c6 => by
    have : put m1 120 8 0 x i = m1 x i := by unfold put; rw [if_neg (by omega)]
    rw [this]; exact a4 x i (by omega) (by omega) (by omega)
  have cg : ∀ i, 0 ≤ i → i < n → KM (put m1 120 8 0) 13 i = KM m0 12 i ∧ NM (put m1 120 8 0) 13 i = NM m0 12 i := fun i c1 c2 => by
    unfold KM NM
    rw [put_ne (by decide), put_ne (by decide)]
    exact a2 i c1 (by omega)
  have n1 : put m1 120 8 0 120 1 = n := by rw [put_nj (by decide), a4 120 1 (by omega) (by omega) (by omega)]; exact hn
  have e13 : put m1 120 8 0 123 13 = m0 123 12 := by rw [put_ne (by decide)]; exact a3
  obtain ⟨v, m2, t1, t2, t3⟩ := f161_s L (m0 := put m1 120 8 0) n1 h4 h10 (by rw [e13]; exact hA) (fun i c1 c2 => by rw [(cg i c1 c2).2]; exact hN i c1 c2)
  rw [e13, fine_cg (by omega) cg] at t3
  have F2 : FrG m0 m2 := fun x i c1 c2 c3 c4 c5 c6 => by rw [t2 x i c1 c2 (fun q => c3 ⟨q.1, Or.inl q.2⟩)]; exact F1 x i c1 c2 c3 c4 c5 c6
  unfold f163
  simp only [KG L, if_true]
  rw [a1]
  simp only [Option.bind_some]
  rw [t1]
  simp only [Option.bind_some]
  rcases t3 with ⟨v0, nf⟩ | ⟨v1, yf⟩
  · rw [if_pos v0]
    have k2 : ∀ i, 0 ≤ i → i < n → m2 121 (130 + i) = KM m0 12 i := fun i c1 c2 => by
      rw [t2 121 _ (by decide) (by decide) (by omega)]; exact (cg i c1 c2).1
    have N2 : ∀ i, 0 ≤ i → i < n → NM m2 13 i = NM m0 12 i := fun i c1 c2 => by
      rw [FT_N t2 13]; exact (cg i c1 c2).2
    obtain ⟨m3, u1, u2, u3⟩ := m18_s L (m0 := m2) (m := put m2 120 8 1) (n := n) (a := m0 123 12) (K := KM m0 12) (N := NM m2 13) (FT_n t2 n1) h4 h10 ((FT_a t2 13).trans e13) hA rfl (fun i c1 c2 => by rw [N2 i c1 c2]; exact hN i c1 c2) (FrL_o (fun _ _ _ _ _ _ => rfl) (by omega)) (fun i c1 c2 => by rw [put_ne (by decide)]; exact k2 i c1 c2)
    rw [u1]
    refine ⟨m3, rfl, fun x i c1 c2 c3 c4 c5 c6 => by rw [u2 x i c1 c2 c3 c4]; exact F2 x i c1 c2 c3 c4 c5 c6, ?_⟩
    refine MOk_cg (K := KM m0 12) (N := NM m2 13) (by omega) (fun i c1 c2 => ⟨rfl, N2 i c1 c2⟩) ?_
    have nf' : ¬ fine n (KM m0 12) (NM m2 13) (m0 123 12) := fun q => nf ((fine_cg (by omega) (fun i c1 c2 => ⟨rfl, N2 i c1 c2⟩)).mp q)
    rcases u3 with ⟨q1, q2, q3⟩ | ⟨q1, q2, q3, q4⟩ | ⟨q1, q2, q3⟩
    · exact Or.inr (Or.inl ⟨nf', by rw [q1, put_eq], q2, q3⟩)
    · exact Or.inr (Or.inr (Or.inl ⟨nf', q1, q2, q3, q4⟩))
    · exact Or.inr (Or.inr (Or.inr ⟨nf', q1, q2, q3⟩))
  · rw [if_neg (by omega)]
    refine ⟨m2, rfl, F2, Or.inl ⟨?_, yf⟩⟩
    rw [t2 120 8 (by decide) (by decide) (by omega), put_eq]
