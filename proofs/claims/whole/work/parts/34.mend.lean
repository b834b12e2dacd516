/-! MENDING, as the model does it -/
theorem ch_2 {n : Int} {F : Int → Int} : ch n 2 F = cz n F := by
  unfold ch cz
  refine cnt_c _ (fun i _ _ => ?_)
  unfold hw
  rw [if_neg (by decide), if_neg (by decide)]
theorem f161_s (L : Nat) {m0 : Sg} {n : Int} (hn : m0 120 1 = n) (h4 : 4 ≤ n) (h10 : n ≤ 10) (hA : ∃ d, alw (m0 123 13) d) (hN : ∀ i, 0 ≤ i → i < n → 0 ≤ NM m0 13 i ∧ NM m0 13 i < 1000) : ∃ v m', f161 (GC L) RC 120 m0 = some (v, m') ∧ FT m0 m' ∧ ((v = 0 ∧ ¬ fine n (KM m0 13) (NM m0 13) (m0 123 13)) ∨ (v = 1 ∧ fine n (KM m0 13) (NM m0 13) (m0 123 13))) := by
  obtain ⟨m', h1, h2, h3⟩ := tell_s L (t := 13) hn h4 h10 (by omega) hA hN
  have e : f157 (GC L) RC 120 2 m' = some (cz n (TT n (KM m0 13) (NM m0 13) (m0 123 13) 10)) := by
    rw [f157_s L h4 h10 (FT_n h2 hn), ch_2, cz_c h3]
  unfold f161
  simp only [KG L, if_true]
  rw [h1]
  simp only [Option.bind_some]
  rw [e]
  simp only [Option.bind_some]
  by_cases c : cz n (TT n (KM m0 13) (NM m0 13) (m0 123 13) 10) = 0
  · rw [if_pos c]; exact ⟨1, m', rfl, h2, Or.inr ⟨rfl, c⟩⟩
  · rw [if_neg c]; exact ⟨0, m', rfl, h2, Or.inl ⟨rfl, c⟩⟩
/-- a set copied -/
theorem f162_s (L : Nat) {m0 : Sg} {p q : Int} (hp : 0 ≤ p ∧ p < 14) (hq : 0 ≤ q ∧ q < 14) (hpq : ¬ p = q) : ∃ m', f162 (GC L) RC 120 p q m0 = some m' ∧ (∀ i, 0 ≤ i → i < 10 → m' 121 (10 * q + i) = m0 121 (10 * p + i) ∧ m' 122 (10 * q + i) = m0 122 (10 * p + i)) ∧ m' 123 q = m0 123 p ∧ ∀ x i, ¬ (x = 121 ∧ 10 * q ≤ i ∧ i < 10 * q + 10) → ¬ (x = 122 ∧ 10 * q ≤ i ∧ i < 10 * q + 10) → ¬ (x = 123 ∧ i = q) → m' x i = m0 x i := by
  unfold f162
  obtain ⟨r, h1, h2, h3, h5⟩ := lp_all (f := f162_b2 (GC L) RC 120 p q) (Q := fun m' => (∀ i, 0 ≤ i → i < 10 → m' 121 (10 * q + i) = m0 121 (10 * p + i) ∧ m' 122 (10 * q + i) = m0 122 (10 * p + i)) ∧ m' 123 q = m0 123 p ∧ ∀ x i, ¬ (x = 121 ∧ 10 * q ≤ i ∧ i < 10 * q + 10) → ¬ (x = 122 ∧ 10 * q ≤ i ∧ i < 10 * q + 10) → ¬ (x = 123 ∧ i = q) → m' x i = m0 x i) (fun k st => ∃ m, st = ((k : Int), m) ∧ (∀ i : Int, 0 ≤ i → i < k → m 121 (10 * q + i) = m0 121 (10 * p + i) ∧ m 122 (10 * q + i) = m0 122 (10 * p + i)) ∧ ∀ x i, ¬ (x = 121 ∧ 10 * q ≤ i ∧ i < 10 * q + 10) → ¬ (x = 122 ∧ 10 * q ≤ i ∧ i < 10 * q + 10) → m x i = m0 x i) 10
    (by
      rintro k st hk ⟨m, rfl, i1, i2⟩
      have ep : g_add (g_mul 10 p) (k : Int) = 10 * p + k := by unfold g_add g_mul; rw [w32_i (x := 10 * p) (by omega) (by omega), w32_i (by omega) (by omega)]
      have eq : g_add (g_mul 10 q) (k : Int) = 10 * q + k := by unfold g_add g_mul; rw [w32_i (x := 10 * q) (by omega) (by omega), w32_i (by omega) (by omega)]
      unfold f162_b2 f162_36
      simp only [KG L, KR, KL L, if_true, ep, eq]
      rw [if_pos (by omega)]
      simp only [if_pos (show 0 ≤ 10 * p + (k : Int) ∧ 10 * p + (k : Int) < 140 by omega), if_pos (show 0 ≤ 10 * q + (k : Int) ∧ 10 * q + (k : Int) < 140 by omega)]
      rw [w32_i (by omega) (by omega), put_ne (m := m) (a := 121) (b := 122) (by decide), i2 121 (10 * p + k) (by omega) (by omega), i2 122 (10 * p + k) (by omega) (by omega)]
      refine ⟨_, rfl, _, rfl, fun i a1 a2 => ?_, fun x i a1 a2 => ?_⟩
      · by_cases e : i = k
        · rw [e, put_ne (by decide), put_eq, put_eq]; exact ⟨rfl, rfl⟩
        · rw [put_nj (by omega), put_nj (by omega), put_nj (by omega), put_nj (by omega)]; exact i1 i a1 (by omega)
      · have e1 : put (put m 121 (10 * q + k) (m0 121 (10 * p + k))) 122 (10 * q + k) (m0 122 (10 * p + k)) x i = m x i := by
          unfold put
          rw [if_neg (by omega), if_neg (by omega)]
        rw [e1]; exact i2 x i a1 a2)
    (by
      rintro st ⟨m, rfl, i1, i2⟩
      unfold f162_b2
      simp only [KG L, KR, KL L, if_true]
      rw [if_neg (by omega), if_pos (by omega), if_pos (by omega), xr_some]
      refine ⟨_, rfl, fun i a1 a2 => ?_, ?_, fun x i a1 a2 a3 => ?_⟩
      · rw [put_ne (by decide), put_ne (by decide)]; exact i1 i a1 a2
      · rw [put_eq]; exact i2 123 p (by omega) (by omega)
      · have e1 : put m 123 q (m 123 p) x i = m x i := by
          unfold put
          rw [if_neg (by omega)]
        rw [e1]; exact i2 x i a1 a2)
    (by rw [FU_v]; omega) (0, m0) ⟨m0, rfl, fun i a1 a2 => absurd a2 (by show ¬ i < 0; omega), fun _ _ _ _ => rfl⟩
  exact ⟨r, h1, h2, h3, h5⟩
/-- only the model's trial, and what it tells -/
def FrL (m0 m : Sg) : Prop := ∀ x i, ¬ x = 124 → ¬ x = 125 → ¬ (x = 120 ∧ (i = 5 ∨ (8 ≤ i ∧ i ≤ 10))) → ¬ (x = 121 ∧ 130 ≤ i) → m x i = m0 x i
theorem FrL_T {m0 m m' : Sg} (h : FrL m0 m) (h2 : FT m m') : FrL m0 m' := fun x i c1 c2 c3 c4 => (h2 x i c1 c2 (fun q => c3 ⟨q.1, Or.inl q.2⟩)).trans (h x i c1 c2 c3 c4)
theorem FrL_k {m0 m : Sg} {i v : Int} (h : FrL m0 m) (hi : 130 ≤ i) : FrL m0 (put m 121 i v) := fun x j c1 c2 c3 c4 => by
  have : put m 121 i v x j = m x j := by unfold put; rw [if_neg (by omega)]
  rw [this]; exact h x j c1 c2 c3 c4
theorem FrL_o {m0 m : Sg} {i v : Int} (h : FrL m0 m) (hi : 8 ≤ i ∧ i ≤ 10) : FrL m0 (put m 120 i v) := fun x j c1 c2 c3 c4 => by
  have : put m 120 i v x j = m x j := by unfold put; rw [if_neg (by omega)]
  rw [this]; exact h x j c1 c2 c3 c4
theorem FrL_n {m0 m : Sg} {n : Int} (h : FrL m0 m) (hn : m0 120 1 = n) : m 120 1 = n := by rw [h 120 1 (by decide) (by decide) (by omega) (by omega)]; exact hn
theorem FrL_N {m0 m : Sg} (h : FrL m0 m) (t : Int) : NM m t = NM m0 t := funext fun i => h 122 _ (by decide) (by decide) (by omega) (by omega)
theorem FrL_a {m0 m : Sg} (h : FrL m0 m) (t : Int) : m 123 t = m0 123 t := h 123 _ (by decide) (by decide) (by omega) (by omega)
/-- one try -/
theorem try_s (L : Nat) {m0 m : Sg} {n s k a : Int} {K N : Int → Int} (hn : m0 120 1 = n) (h4 : 4 ≤ n) (h10 : n ≤ 10) (ha : m0 123 13 = a) (hA : ∃ d, alw a d) (hNN : NM m0 13 = N) (hN : ∀ i, 0 ≤ i → i < n → 0 ≤ N i ∧ N i < 1000) (hs : 0 ≤ s) (hF : FrL m0 m) (hK : ∀ i, 0 ≤ i → i < n → ¬ i = s → m 121 (130 + i) = K i) : ∃ v m', f161 (GC L) RC 120 (put m 121 (130 + s) k) = some (v, m') ∧ FrL m0 m' ∧ (∀ i, 0 ≤ i → i < n → m' 121 (130 + i) = upk K s k i) ∧ ((v = 0 ∧ ¬ fine n (upk K s k) N a) ∨ (v = 1 ∧ fine n (upk K s k) N a)) ∧ (∀ i, 8 ≤ i → i ≤ 10 → m' 120 i = m 120 i) := by
  have j1 : FrL m0 (put m 121 (130 + s) k) := FrL_k hF (by omega)
  have eN : NM (put m 121 (130 + s) k) 13 = N := (FrL_N j1 13).trans hNN
  have ea : put m 121 (130 + s) k 123 13 = a := (FrL_a j1 13).trans ha
  have hk : ∀ i, 0 ≤ i → i < n → put m 121 (130 + s) k 121 (130 + i) = upk K s k i := by
    intro i a1 a2
    unfold upk
    by_cases e : i = s
    · rw [if_pos e, e, put_eq]
    · rw [if_neg e, put_nj (by omega)]; exact hK i a1 a2 e
  obtain ⟨v, m', h1, h2, h3⟩ := f161_s L (m0 := put m 121 (130 + s) k) (FrL_n j1 hn) h4 h10 (by rw [ea]; exact hA) (by rw [eN]; exact hN)
  rw [eN, ea, fine_cg (a := a) (K := KM (put m 121 (130 + s) k) 13) (N := N) (K' := upk K s k) (N' := N) (by omega) (fun i a1 a2 => ⟨hk i a1 a2, rfl⟩)] at h3
  refine ⟨v, m', h1, FrL_T j1 h2, fun i a1 a2 => ?_, h3, fun i a1 a2 => ?_⟩
  · rw [h2 121 _ (by decide) (by decide) (by omega)]; exact hk i a1 a2
  · rw [h2 120 i (by decide) (by decide) (by omega), put_ne (by decide)]
