/-! MENDING: what is looked for -/
section CG
variable {n a : Int} {K N K' N' : Int → Int}
theorem ou_cg (h0 : 0 < n) (h : ∀ i, 0 ≤ i → i < n → K i = K' i ∧ N i = N' i) (s d : Int) : ou n K N s d = ou n K' N' s d := by
  have b := emod_b (x := s + d) h0
  have q := h _ b.1 b.2
  unfold ou
  rw [q.1, q.2]
theorem la_cg (h0 : 0 < n) (h : ∀ i, 0 ≤ i → i < n → K i = K' i ∧ N i = N' i) (s d : Int) : la n K N s d = la n K' N' s d := by
  have b := emod_b (x := s + d) h0
  have q := h _ b.1 b.2
  unfold la
  rw [q.1, q.2]
theorem av_cg (h0 : 0 < n) (h : ∀ i, 0 ≤ i → i < n → K i = K' i ∧ N i = N' i) (F : Int → Int) : av n K N F = av n K' N' F := funext fun s => funext fun d => by
  unfold av
  rw [ou_cg h0 h, la_cg h0 h]
theorem TT_cg (h0 : 0 < n) (h : ∀ i, 0 ≤ i → i < n → K i = K' i ∧ N i = N' i) : ∀ k, TT n K N a k = TT n K' N' a k
  | 0 => rfl
  | k + 1 => by
    show nx n K N a (TT n K N a k) _ = nx n K' N' a (TT n K' N' a k) _
    rw [TT_cg h0 h k]
    unfold nx
    rw [av_cg h0 h]
end CG
/-- no square is endless -/
def fine (n : Int) (K N : Int → Int) (a : Int) : Prop := cz n (TT n K N a 10) = 0
theorem fine_cg {n a : Int} {K N K' N' : Int → Int} (h0 : 0 < n) (h : ∀ i, 0 ≤ i → i < n → K i = K' i ∧ N i = N' i) : fine n K N a ↔ fine n K' N' a := by
  unfold fine
  rw [TT_cg h0 h]
def upk (K : Int → Int) (s k : Int) : Int → Int := fun i => if i = s then k else K i
/-- a change that mends, from a square on -/
def ca1 (n : Int) (K N : Int → Int) (a b v : Int) : Prop := ∃ s k, v = 10 * s + k ∧ b ≤ s ∧ s < n ∧ 0 ≤ k ∧ k < 4 ∧ ¬ k = K s ∧ fine n (upk K s k) N a
theorem upk_cg {n : Int} {K K' : Int → Int} (h : ∀ i, 0 ≤ i → i < n → K i = K' i) (s k : Int) : ∀ i, 0 ≤ i → i < n → upk K s k i = upk K' s k i := by
  intro i h1 h2
  unfold upk
  rw [h i h1 h2]
/-- only the trial's rows -/
def FrM (m0 m : Sg) : Prop := ∀ x i, ¬ x = 67 → ¬ x = 69 → ¬ x = 71 → ¬ x = 79 → ¬ (x = 65 ∧ i = 3) → m x i = m0 x i
theorem FrM_r (m : Sg) : FrM m m := fun _ _ _ _ _ _ _ => rfl
theorem FrM_p {m0 m : Sg} {i v : Int} (h : FrM m0 m) : FrM m0 (put m 79 i v) := fun x j c1 c2 c3 c4 c5 => by rw [put_ne c4]; exact h x j c1 c2 c3 c4 c5
theorem FrM_f {m0 m : Sg} (h : FrM m0 m) {x : Nat} (h1 : ¬ x = 67 ∧ ¬ x = 69 ∧ ¬ x = 71 ∧ ¬ x = 79 ∧ ¬ x = 65) : m x = m0 x := funext fun i => h x i h1.1 h1.2.1 h1.2.2.1 h1.2.2.2.1 (fun q => h1.2.2.2.2 q.1)
/-- judging the trial -/
theorem jt_s (L : Nat) {m : Sg} {n : Int} {N : Int → Int} {a : Int} (hn : m 77 0 = n) (h4 : 4 ≤ n) (h10 : n ≤ 10) (hN : ∀ i, 0 ≤ i → i < n → 0 ≤ m 81 i ∧ m 81 i < 1000) (hA : ∃ d, alw (m 77 3) d) : ∃ v m', f87 (GC L) RC 65 77 m = some (v, m') ∧ (v = 0 ↔ fine n (m 79) (m 81) (m 77 3)) ∧ FrM m m' ∧ m' 79 = m 79 := by
  obtain ⟨m', h1, h2, h3⟩ := judge_65_77 L hn h4 h10 hN hA
  refine ⟨_, m', h1, Iff.rfl, fun x i c1 c2 c3 c4 c5 => h2.1 x i c1 c2 c3 c5, funext fun i => h2.1 79 i (by decide) (by decide) (by decide) (by omega)⟩
/-- the first change from a square on -/
theorem mf_s (L : Nat) {m0 : Sg} {n b : Int} {K : Int → Int} (h4 : 4 ≤ n) (h10 : n ≤ 10) (hn : m0 77 0 = n) (hn2 : m0 72 0 = n) (hN : ∀ i, 0 ≤ i → i < n → 0 ≤ m0 81 i ∧ m0 81 i < 1000) (hA : ∃ d, alw (m0 77 3) d) (hb : 0 ≤ b) (hbn : b ≤ n) (hK : ∀ i, 0 ≤ i → i < n → m0 79 i = K i) (hK2 : ∀ i, b ≤ i → i < n → m0 74 i = K i) : ∃ v m', f2 (GC L) RC 64 b m0 = some (v, m') ∧ FrM m0 m' ∧ ((v = -1 ∧ (∀ w, ¬ ca1 n K (m0 81) (m0 77 3) b w) ∧ ∀ i, 0 ≤ i → i < n → m' 79 i = K i) ∨ (ca1 n K (m0 81) (m0 77 3) b v ∧ ∀ w, w < v → ¬ ca1 n K (m0 81) (m0 77 3) b w)) := by
  generalize ha : m0 77 3 = a at *
  generalize hNN : m0 81 = N at *
  unfold f2
  obtain ⟨r, h1, h2, h3⟩ := lp_ex (f := f2_b2 (GC L) RC 64) (Q := fun r => FrM m0 r.2 ∧ ((r.1 = -1 ∧ (∀ w, ¬ ca1 n K N a b w) ∧ ∀ i, 0 ≤ i → i < n → r.2 79 i = K i) ∨ (ca1 n K N a b r.1 ∧ ∀ w, w < r.1 → ¬ ca1 n K N a b w))) (fun j st => ∃ m, st = (b + (j : Int), m) ∧ FrM m0 m ∧ (∀ i, 0 ≤ i → i < n → m 79 i = K i) ∧ ∀ s k, b ≤ s → s < b + (j : Int) → 0 ≤ k → k < 4 → ¬ k = K s → ¬ fine n (upk K s k) N a) (n - b).toNat
    (by
      rintro j st hj ⟨m, rfl, i1, i2, i3⟩
      have hs0 : 0 ≤ b + (j : Int) := by omega
      have hsn : b + (j : Int) < n := by omega
      generalize hs : b + (j : Int) = s at *
      have e72 : m 72 0 = n := by rw [FrM_f i1 (x := 72) (by omega)]; exact hn2
      unfold f2_b2
      simp only [KG L, KR, if_true]
      rw [e72, if_pos hsn]
      obtain ⟨r, h1, h2⟩ := lp_ex (f := f2_b9 (GC L) RC 64 s) (Q := fun r => (∃ m', r = Sum.inl (s + 1, m') ∧ FrM m0 m' ∧ (∀ i, 0 ≤ i → i < n → m' 79 i = K i) ∧ ∀ k, 0 ≤ k → k < 4 → ¬ k = K s → ¬ fine n (upk K s k) N a) ∨ (∃ k m', r = Sum.inr (10 * s + k, m') ∧ FrM m0 m' ∧ 0 ≤ k ∧ k < 4 ∧ ¬ k = K s ∧ fine n (upk K s k) N a ∧ ∀ k', 0 ≤ k' → k' < k → ¬ k' = K s → ¬ fine n (upk K s k') N a)) (fun k st => ∃ m', st = ((k : Int), m') ∧ FrM m0 m' ∧ (∀ i, 0 ≤ i → i < n → ¬ i = s → m' 79 i = K i) ∧ ∀ k' : Int, 0 ≤ k' → k' < k → ¬ k' = K s → ¬ fine n (upk K s k') N a) 4
        (by
          rintro k st hk ⟨m', rfl, j1, j2, j3⟩
          have e74 : m' 74 s = K s := by rw [FrM_f j1 (x := 74) (by omega)]; exact hK2 s (by omega) hsn
          unfold f2_b9
          simp only [KG L, KR, RAx L, RPx L, Option.bind_some, if_true]
          rw [if_pos (by omega), ra_in hs0 (by omega), e74]
          by_cases ck : (k : Int) = K s
          · left
            rw [if_pos ck, w32_i (by omega) (by omega)]
            refine ⟨_, rfl, m', rfl, j1, j2, fun k' a1 a2 a3 => ?_⟩
            exact j3 k' a1 (by omega) a3
          · rw [if_neg ck, rp_in hs0 (by omega)]
            have j4 := FrM_p (i := s) (v := (k : Int)) j1
            have eN : put m' 79 s k 81 = N := by rw [FrM_f j4 (x := 81) (by omega)]; exact hNN
            have ea : put m' 79 s k 77 3 = a := by rw [FrM_f j4 (x := 77) (by omega)]; exact ha
            obtain ⟨v, m2, t1, t2, t3, t4⟩ := jt_s L (m := put m' 79 s k) (n := n) (N := N) (a := a) (by rw [FrM_f j4 (x := 77) (by omega)]; exact hn) h4 h10 (by rw [eN]; exact hN) (by rw [ea]; exact hA)
            rw [eN, ea] at t2
            have t5 : fine n (put m' 79 s k 79) N a ↔ fine n (upk K s k) N a := fine_cg (by omega) (fun i a1 a2 => by
              refine ⟨?_, rfl⟩
              unfold upk
              by_cases e : i = s
              · rw [if_pos e, e, put_eq]
              · rw [if_neg e, put_nj e]; exact j2 i a1 a2 e)
            have t6 : FrM m0 m2 := fun x i c1 c2 c3 c4 c5 => (t3 x i c1 c2 c3 c4 c5).trans (j4 x i c1 c2 c3 c4 c5)
            rw [t1]
            simp only [Option.bind_some]
            by_cases cv : v = 0
            · right
              rw [if_pos cv, xr_some, xr_some]
              unfold g_add g_mul
              rw [w32_i (x := 10 * s) (by omega) (by omega), w32_i (by omega) (by omega)]
              exact ⟨_, rfl, Or.inr ⟨k, m2, rfl, t6, by omega, by omega, ck, t5.mp (t2.mp cv), j3⟩⟩
            · left
              rw [if_neg cv, w32_i (by omega) (by omega)]
              refine ⟨_, rfl, m2, rfl, t6, fun i a1 a2 a3 => ?_, fun k' a1 a2 a3 => ?_⟩
              · rw [t4, put_nj a3]; exact j2 i a1 a2 a3
              · by_cases e : k' = k
                · rw [e]; exact fun q => cv (t2.mpr (t5.mpr q))
                · exact j3 k' a1 (by omega) a3)
        (by
          rintro st ⟨m', rfl, j1, j2, j3⟩
          have e74 : m' 74 s = K s := by rw [FrM_f j1 (x := 74) (by omega)]; exact hK2 s (by omega) hsn
          unfold f2_b9
          simp only [KG L, KR, RAx L, RPx L, Option.bind_some, if_true]
          rw [if_neg (by omega), ra_in hs0 (by omega), e74, rp_in hs0 (by omega), w32_i (by omega) (by omega), xr_some]
          refine ⟨_, rfl, Or.inl ⟨_, rfl, FrM_p j1, fun i a1 a2 => ?_, fun k a1 a2 a3 => j3 k a1 (by omega) a3⟩⟩
          by_cases e : i = s
          · rw [e, put_eq]
          · rw [put_nj e]; exact j2 i a1 a2 e)
        FU (by rw [FU_v]; omega) (0, m) ⟨m, rfl, i1, fun i a1 a2 _ => i2 i a1 a2, fun k' a1 a2 => absurd a2 (by show ¬ k' < 0; omega)⟩
      rw [h1]
      rcases h2 with ⟨m', rfl, q1, q2, q3⟩ | ⟨k, m', rfl, q1, q2, q3, q4, q5, q6⟩
      · left
        refine ⟨_, rfl, m', by rw [show b + ((j + 1 : Nat) : Int) = s + 1 by omega], q1, q2, fun s' k a1 a2 a3 a4 a5 => ?_⟩
        by_cases e : s' = s
        · rw [e] at a5 ⊢; exact q3 k a3 a4 a5
        · exact i3 s' k a1 (by omega) a3 a4 a5
      · right
        refine ⟨_, rfl, q1, Or.inr ⟨⟨s, k, rfl, by omega, hsn, q2, q3, q4, q5⟩, ?_⟩⟩
        rintro w hw ⟨s', k', rfl, a1, a2, a3, a4, a5, a6⟩
        simp only at hw
        by_cases e : s' = s
        · rw [e] at a5 a6 hw; exact q6 k' a3 (by omega) a5 a6
        · exact i3 s' k' a1 (by omega) a3 a4 a5 a6)
    (by
      rintro st ⟨m, rfl, i1, i2, i3⟩
      have e72 : m 72 0 = n := by rw [FrM_f i1 (x := 72) (by omega)]; exact hn2
      unfold f2_b2
      simp only [KG L, KR, if_true]
      rw [e72, if_neg (by omega), xr_some]
      refine ⟨_, rfl, i1, Or.inl ⟨rfl, ?_, i2⟩⟩
      rintro w ⟨s', k', rfl, a1, a2, a3, a4, a5, a6⟩
      exact i3 s' k' a1 (by omega) a3 a4 a5 a6)
    FU (by rw [FU_v]; omega) (b, m0) ⟨m0, by rw [show b + ((0 : Nat) : Int) = b by omega], FrM_r m0, hK, fun s k a1 a2 => by omega⟩
  exact ⟨r.1, r.2, h1, h2, h3⟩
