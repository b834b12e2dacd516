/-! MENDING, as the class looks for it -/
theorem f41_72 (L : Nat) {m0 : Sg} : ∃ m', f41 (GC L) RC 72 54 m0 = some m' ∧ (∀ i, 0 ≤ i → i < 10 → m' 74 i = m0 56 i ∧ m' 76 i = m0 58 i) ∧ m' 72 3 = m0 54 3 ∧ ∀ x i, ¬ x = 74 → ¬ x = 76 → ¬ (x = 72 ∧ i = 3) → m' x i = m0 x i := by
  unfold f41
  obtain ⟨r, h1, h2, h3, h5⟩ := lp_all (f := f41_b2 (GC L) RC 72 54) (Q := fun m' => (∀ i, 0 ≤ i → i < 10 → m' 74 i = m0 56 i ∧ m' 76 i = m0 58 i) ∧ m' 72 3 = m0 54 3 ∧ ∀ x i, ¬ x = 74 → ¬ x = 76 → ¬ (x = 72 ∧ i = 3) → m' x i = m0 x i) (fun k st => ∃ m, st = ((k : Int), m) ∧ (∀ i : Int, 0 ≤ i → i < k → m 74 i = m0 56 i ∧ m 76 i = m0 58 i) ∧ ∀ x i, ¬ x = 74 → ¬ x = 76 → m x i = m0 x i) 10
    (by
      rintro k st hk ⟨m, rfl, i1, i2⟩
      unfold f41_b2
      simp only [KG L, KR, RAx L, Option.bind_some, if_true]
      rw [if_pos (by omega), ra_in (by omega) (by omega), ra_in (by omega) (by omega), f40_72]
      simp only [Option.bind_some]
      rw [rp_in (by omega) (by omega), rp_in (by omega) (by omega), w32_i (by omega) (by omega), i2 56 k (by decide) (by decide), i2 58 k (by decide) (by decide)]
      refine ⟨_, rfl, _, rfl, fun i a1 a2 => ?_, fun x i a1 a2 => ?_⟩
      · by_cases e : i = k
        · rw [e, put_ne (by decide), put_eq, put_eq]; exact ⟨rfl, rfl⟩
        · rw [put_nj e, put_nj e, put_nj e, put_nj e]; exact i1 i a1 (by omega)
      · rw [put_ne a2, put_ne a1]; exact i2 x i a1 a2)
    (by
      rintro st ⟨m, rfl, i1, i2⟩
      unfold f41_b2
      simp only [KG L, if_true]
      rw [if_neg (by omega), xr_some]
      refine ⟨_, rfl, fun i a1 a2 => ?_, ?_, fun x i a1 a2 a3 => ?_⟩
      · rw [put_ne (by decide), put_ne (by decide)]; exact i1 i a1 a2
      · rw [put_eq]; exact i2 54 3 (by decide) (by decide)
      · by_cases e : x = 72
        · subst e; rw [put_nj (fun q => a3 ⟨rfl, q⟩)]; exact i2 _ i a1 a2
        · rw [put_ne e]; exact i2 x i a1 a2)
    (by rw [FU_v]; omega) (0, m0) ⟨m0, rfl, fun i a1 a2 => absurd a2 (by show ¬ i < 0; omega), fun _ _ _ _ => rfl⟩
  exact ⟨r, h1, h2, h3, h5⟩
theorem f41_77 (L : Nat) {m0 : Sg} : ∃ m', f41 (GC L) RC 77 54 m0 = some m' ∧ (∀ i, 0 ≤ i → i < 10 → m' 79 i = m0 56 i ∧ m' 81 i = m0 58 i) ∧ m' 77 3 = m0 54 3 ∧ ∀ x i, ¬ x = 79 → ¬ x = 81 → ¬ (x = 77 ∧ i = 3) → m' x i = m0 x i := by
  unfold f41
  obtain ⟨r, h1, h2, h3, h5⟩ := lp_all (f := f41_b2 (GC L) RC 77 54) (Q := fun m' => (∀ i, 0 ≤ i → i < 10 → m' 79 i = m0 56 i ∧ m' 81 i = m0 58 i) ∧ m' 77 3 = m0 54 3 ∧ ∀ x i, ¬ x = 79 → ¬ x = 81 → ¬ (x = 77 ∧ i = 3) → m' x i = m0 x i) (fun k st => ∃ m, st = ((k : Int), m) ∧ (∀ i : Int, 0 ≤ i → i < k → m 79 i = m0 56 i ∧ m 81 i = m0 58 i) ∧ ∀ x i, ¬ x = 79 → ¬ x = 81 → m x i = m0 x i) 10
    (by
      rintro k st hk ⟨m, rfl, i1, i2⟩
      unfold f41_b2
      simp only [KG L, KR, RAx L, Option.bind_some, if_true]
      rw [if_pos (by omega), ra_in (by omega) (by omega), ra_in (by omega) (by omega), f40_77]
      simp only [Option.bind_some]
      rw [rp_in (by omega) (by omega), rp_in (by omega) (by omega), w32_i (by omega) (by omega), i2 56 k (by decide) (by decide), i2 58 k (by decide) (by decide)]
      refine ⟨_, rfl, _, rfl, fun i a1 a2 => ?_, fun x i a1 a2 => ?_⟩
      · by_cases e : i = k
        · rw [e, put_ne (by decide), put_eq, put_eq]; exact ⟨rfl, rfl⟩
        · rw [put_nj e, put_nj e, put_nj e, put_nj e]; exact i1 i a1 (by omega)
      · rw [put_ne a2, put_ne a1]; exact i2 x i a1 a2)
    (by
      rintro st ⟨m, rfl, i1, i2⟩
      unfold f41_b2
      simp only [KG L, if_true]
      rw [if_neg (by omega), xr_some]
      refine ⟨_, rfl, fun i a1 a2 => ?_, ?_, fun x i a1 a2 a3 => ?_⟩
      · rw [put_ne (by decide), put_ne (by decide)]; exact i1 i a1 a2
      · rw [put_eq]; exact i2 54 3 (by decide) (by decide)
      · by_cases e : x = 77
        · subst e; rw [put_nj (fun q => a3 ⟨rfl, q⟩)]; exact i2 _ i a1 a2
        · rw [put_ne e]; exact i2 x i a1 a2)
    (by rw [FU_v]; omega) (0, m0) ⟨m0, rfl, fun i a1 a2 => absurd a2 (by show ¬ i < 0; omega), fun _ _ _ _ => rfl⟩
  exact ⟨r, h1, h2, h3, h5⟩
theorem ga_1 {v : Int} (h : v = 0 ∨ v = 1) : g_and v 1 = v ∧ g_and v 0 = 0 := by
  rcases h with h | h <;> subst h <;> decide +kernel
theorem f42_s (L : Nat) {m : Sg} : ∃ v, f42 (GC L) RC 72 54 m = some v ∧ (v = 0 ∨ (v = 1 ∧ m 72 3 = m 54 3 ∧ ∀ i, 0 ≤ i → i < 10 → m 74 i = m 56 i ∧ m 76 i = m 58 i)) := by
  have key : ∀ v0 : Int, (v0 = 0 ∨ (v0 = 1 ∧ m 72 3 = m 54 3)) → ∃ v, lp (f42_b11 (GC L) RC 72 54 m) FU (v0, 0) = some v ∧ (v = 0 ∨ (v = 1 ∧ m 72 3 = m 54 3 ∧ ∀ i, 0 ≤ i → i < 10 → m 74 i = m 56 i ∧ m 76 i = m 58 i)) := by
    intro v0 hv
    exact lp_all (f := f42_b11 (GC L) RC 72 54 m) (Q := fun v => (v = 0 ∨ (v = 1 ∧ m 72 3 = m 54 3 ∧ ∀ i, 0 ≤ i → i < 10 → m 74 i = m 56 i ∧ m 76 i = m 58 i))) (fun k st => ∃ v, st = (v, (k : Int)) ∧ (v = 0 ∨ (v = 1 ∧ m 72 3 = m 54 3 ∧ ∀ i : Int, 0 ≤ i → i < k → m 74 i = m 56 i ∧ m 76 i = m 58 i))) 10
      (by
        rintro k st hk ⟨v, rfl, i1⟩
        have g := ga_1 (v := v) (by rcases i1 with q | q; exact Or.inl q; exact Or.inr q.1)
        unfold f42_b11
        simp only [KG L, KR, RAx L, Option.bind_some, if_true, g]
        rw [if_pos (by omega), ra_in (n := 10) (F := m 74) (by omega) (by omega), ra_in (n := 10) (F := m 56) (by omega) (by omega), ra_in (n := 10) (F := m 76) (by omega) (by omega), ra_in (n := 10) (F := m 58) (by omega) (by omega), w32_i (by omega) (by omega)]
        by_cases e1 : m 74 k = m 56 k
        · rw [if_pos e1]
          by_cases e2 : m 76 k = m 58 k
          · rw [if_pos e2]
            refine ⟨_, rfl, v, rfl, ?_⟩
            rcases i1 with q | ⟨q1, q2, q3⟩
            · exact Or.inl q
            · refine Or.inr ⟨q1, q2, fun i a1 a2 => ?_⟩
              by_cases e : i = k
              · rw [e]; exact ⟨e1, e2⟩
              · exact q3 i a1 (by omega)
          · rw [if_neg e2]; exact ⟨_, rfl, 0, rfl, Or.inl rfl⟩
        · rw [if_neg e1]; exact ⟨_, rfl, 0, rfl, Or.inl rfl⟩)
      (by
        rintro st ⟨v, rfl, i1⟩
        unfold f42_b11
        simp only
        rw [if_neg (by omega), if_pos (by rcases i1 with q | q; exact Or.inl q; exact Or.inr q.1), xr_some]
        exact ⟨_, rfl, i1⟩)
      (by rw [FU_v]; omega) (v0, 0) ⟨v0, rfl, by
        rcases hv with q | ⟨q1, q2⟩
        · exact Or.inl q
        · exact Or.inr ⟨q1, q2, fun i a1 a2 => absurd a2 (by show ¬ i < 0; omega)⟩⟩
  unfold f42
  simp only [KG L, if_true]
  by_cases e : m 72 3 = m 54 3
  · rw [if_pos e]; exact key 1 (Or.inr ⟨rfl, e⟩)
  · rw [if_neg e]; exact key 0 (Or.inl rfl)
def ca2 (n : Int) (K N : Int → Int) (a v w : Int) : Prop := ∃ s k, v = 10 * s + k ∧ 0 ≤ s ∧ s < n ∧ 0 ≤ k ∧ k < 4 ∧ ¬ k = K s ∧ ca1 n (upk K s k) N a (s + 1) w
/-- what mending answers -/
def MOk (n : Int) (K N : Int → Int) (a nd f g : Int) : Prop := (nd = 0 ∧ fine n K N a) ∨ (¬ fine n K N a ∧ nd = 1 ∧ ca1 n K N a 0 f ∧ ∀ w, w < f → ¬ ca1 n K N a 0 w) ∨ (¬ fine n K N a ∧ (∀ w, ¬ ca1 n K N a 0 w) ∧ nd = 2 ∧ ca2 n K N a f g ∧ ∀ v w, ca2 n K N a v w → f < v ∨ (f = v ∧ g ≤ w)) ∨ (¬ fine n K N a ∧ (∀ w, ¬ ca1 n K N a 0 w) ∧ (∀ v w, ¬ ca2 n K N a v w) ∧ nd = -1)
theorem MOk_u {n : Int} {K N : Int → Int} {a nd f g nd' f' g' : Int} (h : MOk n K N a nd f g) (h' : MOk n K N a nd' f' g') : nd = nd' ∧ (1 ≤ nd → f = f') ∧ (2 ≤ nd → g = g') := by
  rcases h with ⟨h1, h2⟩ | ⟨h1, h2, h3, h4⟩ | ⟨h1, h2, h3, h4, h5⟩ | ⟨h1, h2, h3, h4⟩ <;> rcases h' with ⟨k1, k2⟩ | ⟨k1, k2, k3, k4⟩ | ⟨k1, k2, k3, k4, k5⟩ | ⟨k1, k2, k3, k4⟩
  · exact ⟨by omega, by omega, by omega⟩
  · exact absurd h2 k1
  · exact absurd h2 k1
  · exact absurd h2 k1
  · exact absurd k2 h1
  · refine ⟨by omega, fun _ => ?_, by omega⟩
    by_cases c : f < f'
    · exact absurd h3 (k4 f c)
    · by_cases c2 : f' < f
      · exact absurd k3 (h4 f' c2)
      · omega
  · exact absurd h3 (k2 _)
  · exact absurd h3 (k2 _)
  · exact absurd k2 h1
  · exact absurd k3 (h2 _)
  · have a1 := h5 _ _ k4
    have a2 := k5 _ _ h4
    exact ⟨by omega, by omega, by omega⟩
  · exact absurd h4 (k3 _ _)
  · exact absurd k2 h1
  · exact absurd k3 (h2 _)
  · exact absurd k4 (h3 _ _)
  · exact ⟨by omega, by omega, by omega⟩
theorem ca1_cg {n : Int} {K N K' N' : Int → Int} {a b v : Int} (h0 : 0 < n) (hb : 0 ≤ b) (h : ∀ i, 0 ≤ i → i < n → K i = K' i ∧ N i = N' i) (q : ca1 n K N a b v) : ca1 n K' N' a b v := by
  obtain ⟨s, k, q1, q2, q3, q4, q5, q6, q7⟩ := q
  refine ⟨s, k, q1, q2, q3, q4, q5, by rw [← (h s (by omega) q3).1]; exact q6, (fine_cg h0 (fun i a1 a2 => ⟨upk_cg (fun i a1 a2 => (h i a1 a2).1) s k i a1 a2, (h i a1 a2).2⟩)).mp q7⟩
theorem ca2_cg {n : Int} {K N K' N' : Int → Int} {a v w : Int} (h0 : 0 < n) (h : ∀ i, 0 ≤ i → i < n → K i = K' i ∧ N i = N' i) (q : ca2 n K N a v w) : ca2 n K' N' a v w := by
  obtain ⟨s, k, q1, q2, q3, q4, q5, q6, q7⟩ := q
  exact ⟨s, k, q1, q2, q3, q4, q5, by rw [← (h s q2 q3).1]; exact q6, ca1_cg h0 (by omega) (fun i a1 a2 => ⟨upk_cg (fun i a1 a2 => (h i a1 a2).1) s k i a1 a2, (h i a1 a2).2⟩) q7⟩
theorem MOk_cg {n : Int} {K N K' N' : Int → Int} {a nd f g : Int} (h0 : 0 < n) (h : ∀ i, 0 ≤ i → i < n → K i = K' i ∧ N i = N' i) (q : MOk n K N a nd f g) : MOk n K' N' a nd f g := by
  have h' : ∀ i, 0 ≤ i → i < n → K' i = K i ∧ N' i = N i := fun i a1 a2 => ⟨(h i a1 a2).1.symm, (h i a1 a2).2.symm⟩
  have hf := fine_cg (a := a) h0 h
  rcases q with ⟨h1, h2⟩ | ⟨h1, h2, h3, h4⟩ | ⟨h1, h2, h3, h4, h5⟩ | ⟨h1, h2, h3, h4⟩
  · exact Or.inl ⟨h1, hf.mp h2⟩
  · exact Or.inr (Or.inl ⟨fun q => h1 (hf.mpr q), h2, ca1_cg h0 (by omega) h h3, fun w a1 a2 => h4 w a1 (ca1_cg h0 (by omega) h' a2)⟩)
  · exact Or.inr (Or.inr (Or.inl ⟨fun q => h1 (hf.mpr q), fun w a1 => h2 w (ca1_cg h0 (by omega) h' a1), h3, ca2_cg h0 h h4, fun v w a1 => h5 v w (ca2_cg h0 h' a1)⟩))
  · exact Or.inr (Or.inr (Or.inr ⟨fun q => h1 (hf.mpr q), fun w a1 => h2 w (ca1_cg h0 (by omega) h' a1), fun v w a1 => h3 v w (ca2_cg h0 h' a1), h4⟩))
