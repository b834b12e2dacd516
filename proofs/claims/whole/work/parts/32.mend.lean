/-! MENDING, as the class looks for it: two changes, and all of it -/
def FrN (m0 m : Sg) : Prop := ∀ x i, ¬ x = 67 → ¬ x = 69 → ¬ x = 71 → ¬ x = 79 → ¬ (x = 65 ∧ i = 3) → ¬ (x = 64 ∧ 4 ≤ i) → m x i = m0 x i
theorem FrN_M {m0 m m' : Sg} (h : FrN m0 m) (h2 : FrM m m') : FrN m0 m' := fun x i c1 c2 c3 c4 c5 c6 => (h2 x i c1 c2 c3 c4 c5).trans (h x i c1 c2 c3 c4 c5 c6)
theorem FrN_7 {m0 m : Sg} {i v : Int} (h : FrN m0 m) : FrN m0 (put m 79 i v) := fun x j c1 c2 c3 c4 c5 c6 => by rw [put_ne c4]; exact h x j c1 c2 c3 c4 c5 c6
theorem FrN_6 {m0 m : Sg} {i v : Int} (h : FrN m0 m) (hi : 4 ≤ i) : FrN m0 (put m 64 i v) := fun x j c1 c2 c3 c4 c5 c6 => by
  by_cases e : x = 64 ∧ j = i
  · exact absurd ⟨e.1, by omega⟩ c6
  · have : put m 64 i v x j = m x j := by unfold put; rw [if_neg e]
    rw [this]; exact h x j c1 c2 c3 c4 c5 c6
theorem FrN_f {m0 m : Sg} (h : FrN m0 m) {x : Nat} (h1 : ¬ x = 67 ∧ ¬ x = 69 ∧ ¬ x = 71 ∧ ¬ x = 79 ∧ ¬ x = 65 ∧ ¬ x = 64) : m x = m0 x := funext fun i => h x i h1.1 h1.2.1 h1.2.2.1 h1.2.2.2.1 (fun q => h1.2.2.2.2.1 q.1) (fun q => h1.2.2.2.2.2 q.1)
/-- no pair up to a place -/
def NC (n : Int) (K N : Int → Int) (a s k : Int) : Prop := ∀ s' k' w, 0 ≤ s' → s' < n → 0 ≤ k' → k' < 4 → ¬ k' = K s' → (s' < s ∨ (s' = s ∧ k' < k)) → ¬ ca1 n (upk K s' k') N a (s' + 1) w
/-- a pair found, the first one -/
def PF (n : Int) (K N : Int → Int) (a : Int) (m : Sg) : Prop := m 64 4 = 2 ∧ ca2 n K N a (m 64 5) (m 64 6) ∧ ∀ v w, ca2 n K N a v w → m 64 5 < v ∨ (m 64 5 = v ∧ m 64 6 ≤ w)
theorem f1e_s (L : Nat) {m0 m : Sg} {n s : Int} {K : Int → Int} (hs : 0 ≤ s) (hsn : s < n) (h10 : n ≤ 10) (hK2 : m0 74 s = K s) (hF : FrN m0 m) : f1_104 (GC L) RC 64 s m = some (Sum.inl (s + 1, put m 79 s (K s))) := by
  have e74 : m 74 s = K s := by rw [FrN_f hF (x := 74) (by omega)]; exact hK2
  unfold f1_104
  simp only [KG L, KR, RAx L, RPx L, Option.bind_some, if_true]
  rw [ra_in hs (by omega), e74, rp_in hs (by omega), w32_i (by omega) (by omega)]
theorem prk_s (L : Nat) {m0 m : Sg} {n s a : Int} {K N : Int → Int} (h4 : 4 ≤ n) (h10 : n ≤ 10) (hn : m0 77 0 = n) (hn2 : m0 72 0 = n) (hNN : m0 81 = N) (hN : ∀ i, 0 ≤ i → i < n → 0 ≤ N i ∧ N i < 1000) (ha : m0 77 3 = a) (hA : ∃ d, alw a d) (hK2 : ∀ i, 0 ≤ i → i < n → m0 74 i = K i) (hs : 0 ≤ s) (hsn : s < n) (hF : FrN m0 m) (hnd : m 64 4 = -1) (hK : ∀ i, 0 ≤ i → i < n → m 79 i = K i) (hC : NC n K N a s 0) : ∃ m', lp (f1_b60 (GC L) RC 64 s) FU (0, m) = some (Sum.inl (s + 1, m')) ∧ FrN m0 m' ∧ ((m' 64 4 = -1 ∧ (∀ i, 0 ≤ i → i < n → m' 79 i = K i) ∧ NC n K N a (s + 1) 0) ∨ PF n K N a m') := by
  obtain ⟨r, h1, m', h2, h3, h5⟩ := lp_ex (f := f1_b60 (GC L) RC 64 s) (Q := fun r => ∃ m', r = Sum.inl (s + 1, m') ∧ FrN m0 m' ∧ ((m' 64 4 = -1 ∧ (∀ i, 0 ≤ i → i < n → m' 79 i = K i) ∧ NC n K N a (s + 1) 0) ∨ PF n K N a m')) (fun k st => ∃ m', st = ((k : Int), m') ∧ FrN m0 m' ∧ ((m' 64 4 = -1 ∧ (∀ i, 0 ≤ i → i < n → ¬ i = s → m' 79 i = K i) ∧ NC n K N a s k) ∨ PF n K N a m')) 4
    (by
      rintro k st hk ⟨m', rfl, j1, j2⟩
      unfold f1_b60
      simp only [KG L, KR, RAx L, RPx L, Option.bind_some, if_true]
      rw [if_pos (by omega)]
      rcases j2 with ⟨q1, q2, q3⟩ | q
      · left
        rw [if_pos q1]
        have e74 : m' 74 s = K s := by rw [FrN_f j1 (x := 74) (by omega)]; exact hK2 s hs hsn
        rw [ra_in hs (by omega), e74]
        by_cases ck : (k : Int) = K s
        · rw [if_pos ck, w32_i (by omega) (by omega)]
          refine ⟨_, rfl, m', rfl, j1, Or.inl ⟨q1, q2, fun s' k' w a1 a2 a3 a4 a5 a6 => ?_⟩⟩
          by_cases e : s' = s ∧ k' = k
          · rw [e.1, e.2] at a5; exact absurd ck a5
          · exact q3 s' k' w a1 a2 a3 a4 a5 (by omega)
        · rw [if_neg ck, rp_in hs (by omega)]
          have e10 : g_add (g_mul 10 s) (k : Int) = 10 * s + k := by unfold g_add g_mul; rw [w32_i (x := 10 * s) (by omega) (by omega), w32_i (by omega) (by omega)]
          have e1 : g_add s 1 = s + 1 := by unfold g_add; rw [w32_i (by omega) (by omega)]
          rw [e10, e1]
          have j4 : FrN m0 (put (put m' 79 s k) 64 5 (10 * s + k)) := FrN_6 (FrN_7 j1) (by omega)
          have g81 : put (put m' 79 s k) 64 5 (10 * s + k) 81 = N := by rw [FrN_f j4 (x := 81) (by omega)]; exact hNN
          have g77 : put (put m' 79 s k) 64 5 (10 * s + k) 77 = m0 77 := FrN_f j4 (x := 77) (by omega)
          have g74 : put (put m' 79 s k) 64 5 (10 * s + k) 74 = m0 74 := FrN_f j4 (x := 74) (by omega)
          have g72 : put (put m' 79 s k) 64 5 (10 * s + k) 72 = m0 72 := FrN_f j4 (x := 72) (by omega)
          have g79 : ∀ i, 0 ≤ i → i < n → put (put m' 79 s k) 64 5 (10 * s + k) 79 i = upk K s k i := by
            intro i a1 a2
            rw [put_ne (by decide)]
            unfold upk
            by_cases e : i = s
            · rw [if_pos e, e, put_eq]
            · rw [if_neg e, put_nj e]; exact q2 i a1 a2 e
          obtain ⟨v, m2, t1, t2, t3⟩ := mf_s L (m0 := put (put m' 79 s k) 64 5 (10 * s + k)) (n := n) (b := s + 1) (K := upk K s k) h4 h10 (by rw [g77]; exact hn) (by rw [g72]; exact hn2) (by rw [g81]; exact hN) (by rw [g77, ha]; exact hA) (by omega) (by omega) g79 (fun i a1 a2 => by
            rw [g74, hK2 i (by omega) a2]
            unfold upk
            rw [if_neg (by omega)])
          rw [g81, g77, ha] at t3
          rw [t1]
          simp only [Option.bind_some, put_eq]
          have j5 : FrN m0 (put m2 64 6 v) := FrN_6 (FrN_M j4 t2) (by omega)
          have e5 : m2 64 5 = 10 * s + k := by rw [t2 64 5 (by decide) (by decide) (by decide) (by decide) (by omega), put_eq]
          have e4 : m2 64 4 = -1 := by rw [t2 64 4 (by decide) (by decide) (by decide) (by decide) (by omega), put_nj (by decide), put_ne (by decide)]; exact q1
          rcases t3 with ⟨v1, v2, v3⟩ | ⟨v1, v2⟩
          · rw [if_pos v1, w32_i (by omega) (by omega)]
            refine ⟨_, rfl, _, rfl, j5, Or.inl ⟨by rw [put_nj (by decide)]; exact e4, fun i a1 a2 a3 => ?_, fun s' k' w a1 a2 a3 a4 a5 a6 => ?_⟩⟩
            · rw [put_ne (by decide), v3 i a1 a2]
              unfold upk
              rw [if_neg a3]
            · by_cases e : s' = s ∧ k' = k
              · rw [e.1, e.2]; exact v2 w
              · exact q3 s' k' w a1 a2 a3 a4 a5 (by omega)
          · have vp : ¬ v = -1 := by
              obtain ⟨s2, k2, w1, w2, w3, w4, _⟩ := v1
              omega
            rw [if_neg vp]
            unfold f1_101
            simp only [KG L, if_true]
            rw [w32_i (by omega) (by omega)]
            refine ⟨_, rfl, _, rfl, FrN_6 j5 (by omega), Or.inr ⟨put_eq _ _ _ _, ?_, ?_⟩⟩
            · rw [put_nj (by decide), put_nj (by decide), put_nj (by decide), put_eq, e5]
              exact ⟨s, k, rfl, hs, hsn, by omega, by omega, ck, v1⟩
            · rw [put_nj (by decide), put_nj (by decide), put_nj (by decide), put_eq, e5]
              rintro v' w' ⟨s', k', rfl, b2, b3, b4, b5, b6, b7⟩
              by_cases e : s' = s ∧ k' = k
              · right
                rw [e.1, e.2] at b7
                refine ⟨by omega, ?_⟩
                by_cases cw : w' < v
                · exact absurd b7 (v2 w' cw)
                · omega
              · left
                by_cases lt : s' < s ∨ (s' = s ∧ k' < k)
                · exact absurd b7 (q3 s' k' w' b2 b3 b4 b5 b6 lt)
                · omega
      · right
        rw [if_neg (by have := q.1; omega), f1e_s L hs hsn h10 (hK2 s hs hsn) j1, xr_some]
        refine ⟨_, rfl, _, rfl, FrN_7 j1, Or.inr ?_⟩
        unfold PF
        simp only [put_ne (show ¬ 64 = 79 by decide)]
        exact q)
    (by
      rintro st ⟨m', rfl, j1, j2⟩
      unfold f1_b60
      simp only
      rw [if_neg (by omega), f1e_s L hs hsn h10 (hK2 s hs hsn) j1, xr_some]
      refine ⟨_, rfl, _, rfl, FrN_7 j1, ?_⟩
      rcases j2 with ⟨q1, q2, q3⟩ | q
      · refine Or.inl ⟨by rw [put_ne (by decide)]; exact q1, fun i a1 a2 => ?_, fun s' k' w a1 a2 a3 a4 a5 a6 => q3 s' k' w a1 a2 a3 a4 a5 (by omega)⟩
        by_cases e : i = s
        · rw [e, put_eq]
        · rw [put_nj e]; exact q2 i a1 a2 e
      · right
        unfold PF
        simp only [put_ne (show ¬ 64 = 79 by decide)]
        exact q)
    FU (by rw [FU_v]; omega) (0, m) ⟨m, rfl, hF, Or.inl ⟨hnd, fun i a1 a2 _ => hK i a1 a2, hC⟩⟩
  exact ⟨m', by rw [h1, h2], h3, h5⟩
theorem pr_s (L : Nat) {m0 m : Sg} {n a : Int} {K N : Int → Int} (h4 : 4 ≤ n) (h10 : n ≤ 10) (hn : m0 77 0 = n) (hn2 : m0 72 0 = n) (hNN : m0 81 = N) (hN : ∀ i, 0 ≤ i → i < n → 0 ≤ N i ∧ N i < 1000) (ha : m0 77 3 = a) (hA : ∃ d, alw a d) (hK2 : ∀ i, 0 ≤ i → i < n → m0 74 i = K i) (hF : FrN m0 m) (hnd : (m 64 4 = -1 ∧ ∀ i, 0 ≤ i → i < n → m 79 i = K i)) : ∃ m', lp (f1_b49 (GC L) RC 64) FU (0, m) = some m' ∧ FrN m0 m' ∧ ((m' 64 4 = -1 ∧ ∀ v w, ¬ ca2 n K N a v w) ∨ PF n K N a m') := by
  obtain ⟨m', h1, h3, h5⟩ := lp_ex (f := f1_b49 (GC L) RC 64) (Q := fun m' => FrN m0 m' ∧ ((m' 64 4 = -1 ∧ ∀ v w, ¬ ca2 n K N a v w) ∨ PF n K N a m')) (fun k st => ∃ m', st = ((k : Int), m') ∧ FrN m0 m' ∧ ((m' 64 4 = -1 ∧ (∀ i, 0 ≤ i → i < n → m' 79 i = K i) ∧ NC n K N a k 0) ∨ PF n K N a m')) n.toNat
    (by
      rintro k st hk ⟨m', rfl, j1, j2⟩
      have e72 : m' 72 0 = n := by rw [FrN_f j1 (x := 72) (by omega)]; exact hn2
      unfold f1_b49
      simp only [KG L, KR, if_true]
      rw [e72, if_pos (by omega)]
      rcases j2 with ⟨q1, q2, q3⟩ | q
      · left
        rw [if_pos q1]
        obtain ⟨m2, t1, t2, t3⟩ := prk_s L h4 h10 hn hn2 hNN hN ha hA hK2 (s := k) (by omega) (by omega) j1 q1 q2 q3
        rw [t1]
        exact ⟨_, rfl, m2, rfl, t2, t3⟩
      · right
        rw [if_neg (by have := q.1; omega), xr_some]
        exact ⟨_, rfl, j1, Or.inr q⟩)
    (by
      rintro st ⟨m', rfl, j1, j2⟩
      have e72 : m' 72 0 = n := by rw [FrN_f j1 (x := 72) (by omega)]; exact hn2
      unfold f1_b49
      simp only [KG L, KR, if_true]
      rw [e72, if_neg (by omega), xr_some]
      refine ⟨_, rfl, j1, ?_⟩
      rcases j2 with ⟨q1, q2, q3⟩ | q
      · refine Or.inl ⟨q1, ?_⟩
        rintro v w ⟨s', k', rfl, b2, b3, b4, b5, b6, b7⟩
        exact q3 s' k' w b2 b3 b4 b5 b6 (by omega) b7
      · exact Or.inr q)
    FU (by rw [FU_v]; omega) (0, m) ⟨m, rfl, hF, Or.inl ⟨hnd.1, hnd.2, fun s' k' w a1 a2 a3 a4 a5 a6 => by
      have : ¬ s' < ((0 : Nat) : Int) := by show ¬ s' < 0; omega
      have : ¬ k' < 0 := by omega
      omega⟩⟩
  exact ⟨m', h1, h3, h5⟩
