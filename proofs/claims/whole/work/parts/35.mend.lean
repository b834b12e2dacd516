/-! MENDING, as the model looks for it: one change -/
section SEARCH
variable {m0 : Sg} {n a : Int} {K N : Int → Int}
theorem g130 {s : Int} (h : 0 ≤ s ∧ s < 10) : g_add 130 s = 130 + s := by unfold g_add; rw [w32_i (by omega) (by omega)]
theorem g10 {s k : Int} (h : 0 ≤ s ∧ s < 10) (hk : 0 ≤ k ∧ k < 10) : g_add (g_mul 10 s) k = 10 * s + k := by unfold g_add g_mul; rw [w32_i (x := 10 * s) (by omega) (by omega), w32_i (by omega) (by omega)]
/-- the first search's kinds at one square -/
theorem m31_s (L : Nat) {m : Sg} {s : Int} (hn : m0 120 1 = n) (h4 : 4 ≤ n) (h10 : n ≤ 10) (ha : m0 123 13 = a) (hA : ∃ d, alw a d) (hNN : NM m0 13 = N) (hN : ∀ i, 0 ≤ i → i < n → 0 ≤ N i ∧ N i < 1000) (hs : 0 ≤ s) (hsn : s < n) (hF : FrL m0 m) (hK : ∀ i, 0 ≤ i → i < n → m 121 (130 + i) = K i) : ∃ r, lp (f163_b31 (GC L) RC 120 130 s (K s)) FU (0, m) = some r ∧ ((∃ m', r = Sum.inl (s + 1, m') ∧ FrL m0 m' ∧ (∀ i, 0 ≤ i → i < n → m' 121 (130 + i) = K i) ∧ (∀ i, 8 ≤ i → i ≤ 10 → m' 120 i = m 120 i) ∧ ∀ k, 0 ≤ k → k < 4 → ¬ k = K s → ¬ fine n (upk K s k) N a) ∨ (∃ k m', r = Sum.inr m' ∧ FrL m0 m' ∧ m' 120 8 = m 120 8 ∧ m' 120 9 = 10 * s + k ∧ 0 ≤ k ∧ k < 4 ∧ ¬ k = K s ∧ fine n (upk K s k) N a ∧ ∀ k', 0 ≤ k' → k' < k → ¬ k' = K s → ¬ fine n (upk K s k') N a)) := by
  refine lp_ex (f := f163_b31 (GC L) RC 120 130 s (K s)) (fun k st => ∃ m', st = ((k : Int), m') ∧ FrL m0 m' ∧ (∀ i, 0 ≤ i → i < n → ¬ i = s → m' 121 (130 + i) = K i) ∧ (∀ i, 8 ≤ i → i ≤ 10 → m' 120 i = m 120 i) ∧ ∀ k' : Int, 0 ≤ k' → k' < k → ¬ k' = K s → ¬ fine n (upk K s k') N a) 4 ?_ ?_ FU (by rw [FU_v]; omega) (0, m) ⟨m, rfl, hF, fun i a1 a2 _ => hK i a1 a2, fun _ _ _ => rfl, fun k' a1 a2 => absurd a2 (by show ¬ k' < 0; omega)⟩
  · rintro k st hk ⟨m', rfl, j1, j2, j3, j4⟩
    unfold f163_b31
    simp only [KG L, KR, KL L, if_true, g130 (show 0 ≤ s ∧ s < 10 by omega)]
    rw [if_neg (by omega), w32_i (by omega) (by omega)]
    by_cases ck : (k : Int) = K s
    · left
      rw [if_pos ck]
      exact ⟨_, rfl, m', rfl, j1, j2, j3, fun k' a1 a2 a3 => j4 k' a1 (by omega) a3⟩
    · rw [if_neg ck, if_pos (by omega)]
      obtain ⟨v, m2, t1, t2, t3, t4, t5⟩ := try_s L (k := k) hn h4 h10 ha hA hNN hN hs j1 j2
      rw [t1]
      simp only [Option.bind_some]
      rcases t4 with ⟨v0, nf⟩ | ⟨v1, yf⟩
      · left
        rw [if_pos v0]
        refine ⟨_, rfl, m2, rfl, t2, fun i a1 a2 a3 => ?_, fun i a1 a2 => (t5 i a1 a2).trans (j3 i a1 a2), fun k' a1 a2 a3 => ?_⟩
        · rw [t3 i a1 a2]; unfold upk; rw [if_neg a3]
        · by_cases e : k' = k
          · rw [e]; exact nf
          · exact j4 k' a1 (by omega) a3
      · right
        rw [if_neg (by omega), xr_some, xr_some, g10 (by omega) (by omega)]
        refine ⟨_, rfl, Or.inr ⟨k, _, rfl, FrL_o t2 (by omega), ?_, put_eq _ _ _ _, by omega, by omega, ck, yf, j4⟩⟩
        rw [put_nj (by decide), t5 8 (by omega) (by omega)]
        exact j3 8 (by omega) (by omega)
  · rintro st ⟨m', rfl, j1, j2, j3, j4⟩
    unfold f163_b31
    simp only [KG L, KR, KL L, if_true, g130 (show 0 ≤ s ∧ s < 10 by omega)]
    rw [if_pos (by omega), if_pos (by omega), xr_some, w32_i (by omega) (by omega)]
    refine ⟨_, rfl, Or.inl ⟨_, rfl, FrL_k j1 (by omega), fun i a1 a2 => ?_, fun i a1 a2 => ?_, fun k a1 a2 a3 => j4 k a1 (by omega) a3⟩⟩
    · by_cases e : i = s
      · rw [e, put_eq]
      · rw [put_nj (by omega)]; exact j2 i a1 a2 e
    · rw [put_ne (by decide)]; exact j3 i a1 a2
/-- the second search's kinds at the second square -/
theorem m116_s (L : Nat) {m : Sg} {s p q x : Int} (hn : m0 120 1 = n) (h4 : 4 ≤ n) (h10 : n ≤ 10) (ha : m0 123 13 = a) (hA : ∃ d, alw a d) (hNN : NM m0 13 = N) (hN : ∀ i, 0 ≤ i → i < n → 0 ≤ N i ∧ N i < 1000) (hs : 0 ≤ s) (hsn : s < n) (hp : 0 ≤ p ∧ p < 10) (hq : 0 ≤ q ∧ q < 4) (hF : FrL m0 m) (hK : ∀ i, 0 ≤ i → i < n → m 121 (130 + i) = K i) : ∃ r, lp (f163_b116 (GC L) RC 120 130 p x q s (K s)) FU (0, m) = some r ∧ ((∃ m', r = Sum.inl (s + 1, m') ∧ FrL m0 m' ∧ (∀ i, 0 ≤ i → i < n → m' 121 (130 + i) = K i) ∧ (∀ i, 8 ≤ i → i ≤ 10 → m' 120 i = m 120 i) ∧ ∀ k, 0 ≤ k → k < 4 → ¬ k = K s → ¬ fine n (upk K s k) N a) ∨ (∃ k m', r = Sum.inr (Sum.inr (Sum.inr m')) ∧ FrL m0 m' ∧ m' 120 8 = m 120 8 ∧ m' 120 9 = 10 * p + q ∧ m' 120 10 = 10 * s + k ∧ 0 ≤ k ∧ k < 4 ∧ ¬ k = K s ∧ fine n (upk K s k) N a ∧ ∀ k', 0 ≤ k' → k' < k → ¬ k' = K s → ¬ fine n (upk K s k') N a)) := by
  refine lp_ex (f := f163_b116 (GC L) RC 120 130 p x q s (K s)) (fun k st => ∃ m', st = ((k : Int), m') ∧ FrL m0 m' ∧ (∀ i, 0 ≤ i → i < n → ¬ i = s → m' 121 (130 + i) = K i) ∧ (∀ i, 8 ≤ i → i ≤ 10 → m' 120 i = m 120 i) ∧ ∀ k' : Int, 0 ≤ k' → k' < k → ¬ k' = K s → ¬ fine n (upk K s k') N a) 4 ?_ ?_ FU (by rw [FU_v]; omega) (0, m) ⟨m, rfl, hF, fun i a1 a2 _ => hK i a1 a2, fun _ _ _ => rfl, fun k' a1 a2 => absurd a2 (by show ¬ k' < 0; omega)⟩
  · rintro k st hk ⟨m', rfl, j1, j2, j3, j4⟩
    unfold f163_b116
    simp only [KG L, KR, KL L, if_true, g130 (show 0 ≤ s ∧ s < 10 by omega)]
    rw [if_neg (by omega), w32_i (by omega) (by omega)]
    by_cases ck : (k : Int) = K s
    · left
      rw [if_pos ck]
      exact ⟨_, rfl, m', rfl, j1, j2, j3, fun k' a1 a2 a3 => j4 k' a1 (by omega) a3⟩
    · rw [if_neg ck, if_pos (by omega)]
      obtain ⟨v, m2, t1, t2, t3, t4, t5⟩ := try_s L (k := k) hn h4 h10 ha hA hNN hN hs j1 j2
      rw [t1]
      simp only [Option.bind_some]
      rcases t4 with ⟨v0, nf⟩ | ⟨v1, yf⟩
      · left
        rw [if_pos v0]
        refine ⟨_, rfl, m2, rfl, t2, fun i a1 a2 a3 => ?_, fun i a1 a2 => (t5 i a1 a2).trans (j3 i a1 a2), fun k' a1 a2 a3 => ?_⟩
        · rw [t3 i a1 a2]; unfold upk; rw [if_neg a3]
        · by_cases e : k' = k
          · rw [e]; exact nf
          · exact j4 k' a1 (by omega) a3
      · right
        rw [if_neg (by omega), g10 (s := s) (by omega) (by omega), g10 (s := p) (by omega) (by omega)]
        unfold f163_146
        simp only [KG L, if_true]
        rw [xr_some, xr_some, xr_some, xr_some]
        refine ⟨_, rfl, Or.inr ⟨k, _, rfl, FrL_o (FrL_o t2 (by omega)) (by omega), ?_, ?_, put_eq _ _ _ _, by omega, by omega, ck, yf, j4⟩⟩
        · rw [put_nj (by decide), put_nj (by decide), t5 8 (by omega) (by omega)]
          exact j3 8 (by omega) (by omega)
        · rw [put_nj (by decide), put_eq]
  · rintro st ⟨m', rfl, j1, j2, j3, j4⟩
    unfold f163_b116
    simp only [KG L, KR, KL L, if_true, g130 (show 0 ≤ s ∧ s < 10 by omega)]
    rw [if_pos (by omega), if_pos (by omega), xr_some, w32_i (by omega) (by omega)]
    refine ⟨_, rfl, Or.inl ⟨_, rfl, FrL_k j1 (by omega), fun i a1 a2 => ?_, fun i a1 a2 => ?_, fun k a1 a2 a3 => j4 k a1 (by omega) a3⟩⟩
    · by_cases e : i = s
      · rw [e, put_eq]
      · rw [put_nj (by omega)]; exact j2 i a1 a2 e
    · rw [put_ne (by decide)]; exact j3 i a1 a2
/-- the second search: the second change -/
theorem m103_s (L : Nat) {m : Sg} {b p q x : Int} (hn : m0 120 1 = n) (h4 : 4 ≤ n) (h10 : n ≤ 10) (ha : m0 123 13 = a) (hA : ∃ d, alw a d) (hNN : NM m0 13 = N) (hN : ∀ i, 0 ≤ i → i < n → 0 ≤ N i ∧ N i < 1000) (hb : 0 ≤ b) (hbn : b ≤ n) (hp : 0 ≤ p ∧ p < 10) (hq : 0 ≤ q ∧ q < 4) (hF : FrL m0 m) (hK : ∀ i, 0 ≤ i → i < n → m 121 (130 + i) = K i) : ∃ r, lp (f163_b103 (GC L) RC 120 130 p x q) FU (b, m) = some r ∧ ((∃ m', r = Sum.inl (q + 1, m') ∧ FrL m0 m' ∧ (∀ i, 0 ≤ i → i < n → m' 121 (130 + i) = K i) ∧ (∀ i, 8 ≤ i → i ≤ 10 → m' 120 i = m 120 i) ∧ ∀ w, ¬ ca1 n K N a b w) ∨ (∃ m', r = Sum.inr (Sum.inr m') ∧ FrL m0 m' ∧ m' 120 8 = m 120 8 ∧ m' 120 9 = 10 * p + q ∧ ca1 n K N a b (m' 120 10) ∧ ∀ w, w < m' 120 10 → ¬ ca1 n K N a b w)) := by
  refine lp_ex (f := f163_b103 (GC L) RC 120 130 p x q) (fun j st => ∃ m', st = (b + (j : Int), m') ∧ FrL m0 m' ∧ (∀ i, 0 ≤ i → i < n → m' 121 (130 + i) = K i) ∧ (∀ i, 8 ≤ i → i ≤ 10 → m' 120 i = m 120 i) ∧ ∀ s k, b ≤ s → s < b + (j : Int) → 0 ≤ k → k < 4 → ¬ k = K s → ¬ fine n (upk K s k) N a) (n - b).toNat ?_ ?_ FU (by rw [FU_v]; omega) (b, m) ⟨m, by rw [show b + ((0 : Nat) : Int) = b by omega], hF, hK, fun _ _ _ => rfl, fun s k a1 a2 => by omega⟩
  · rintro j st hj ⟨m', rfl, i1, i2, i3, i4⟩
    unfold f163_b103
    simp only [KG L, KR, KL L, if_true, g130 (show 0 ≤ b + (j : Int) ∧ b + (j : Int) < 10 by omega)]
    rw [FrL_n i1 hn, if_pos (by omega), if_pos (by omega), i2 _ (by omega) (by omega)]
    obtain ⟨r, t1, t2⟩ := m116_s L (x := x) (p := p) (q := q) (s := b + (j : Int)) hn h4 h10 ha hA hNN hN (by omega) (by omega) hp hq i1 i2
    rw [t1]
    rcases t2 with ⟨m2, rfl, u1, u2, u3, u4⟩ | ⟨k, m2, rfl, u1, u2, u3, u4, u5, u6, u7, u8, u9⟩
    · left
      refine ⟨_, rfl, m2, by rw [show b + ((j + 1 : Nat) : Int) = b + (j : Int) + 1 by omega], u1, u2, fun i a1 a2 => (u3 i a1 a2).trans (i3 i a1 a2), fun s' k a1 a2 a3 a4 a5 => ?_⟩
      by_cases e : s' = b + (j : Int)
      · rw [e] at a5 ⊢; exact u4 k a3 a4 a5
      · exact i4 s' k a1 (by omega) a3 a4 a5
    · right
      refine ⟨_, rfl, Or.inr ⟨m2, rfl, u1, u2.trans (i3 8 (by omega) (by omega)), u3, ?_, ?_⟩⟩
      · rw [u4]; exact ⟨b + (j : Int), k, rfl, by omega, by omega, u5, u6, u7, u8⟩
      · rw [u4]
        rintro w hw ⟨s', k', rfl, a1, a2, a3, a4, a5, a6⟩
        by_cases e : s' = b + (j : Int)
        · rw [e] at a5 a6 hw; exact u9 k' a3 (by omega) a5 a6
        · exact i4 s' k' a1 (by omega) a3 a4 a5 a6
  · rintro st ⟨m', rfl, i1, i2, i3, i4⟩
    unfold f163_b103
    simp only [KG L, if_true]
    rw [FrL_n i1 hn, if_neg (by omega), xr_some, w32_i (by omega) (by omega)]
    refine ⟨_, rfl, Or.inl ⟨m', rfl, i1, i2, i3, ?_⟩⟩
    rintro w ⟨s', k', rfl, a1, a2, a3, a4, a5, a6⟩
    exact i4 s' k' a1 (by omega) a3 a4 a5 a6
end SEARCH
