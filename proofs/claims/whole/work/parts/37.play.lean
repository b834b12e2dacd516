/-! PLAYING A ROW -/
theorem lp_i {S R : Type} {f : S → Option (S ⊕ R)} {s s' : S} {k : Nat} (h : f s = some (Sum.inl s')) : lp f (k + 1) s = lp f k s' := by
  show (match f s with | none => none | some (.inl s') => lp f k s' | some (.inr r) => some r) = lp f k s'
  rw [h]
theorem lp_r {S R : Type} {f : S → Option (S ⊕ R)} {s : S} {r : R} {k : Nat} (h : f s = some (Sum.inr r)) : lp f (k + 1) s = some r := by
  show (match f s with | none => none | some (.inl s') => lp f k s' | some (.inr r) => some r) = some r
  rw [h]
/-- where a row leads: fuel, place, mover, winner, what is left, its number -/
def led (n : Int) (K N : Int → Int) (a : Int) : Nat → Int → Int → Int → Int → Int → Int
  | 0, p, mo, w, _, _ => if w = -1 then 10 * mo + p else 100 + w
  | f + 1, p, mo, w, r, i => if r % 10 = 0 then (if w = -1 then 10 * mo + p else 100 + w) else if w = -1 then (if alB a (r % 10) = true then led n K N a f (la n K N p (r % 10)) (if ou n K N p (r % 10) = 0 then 1 - mo else mo) (if ou n K N p (r % 10) = 2 then mo else if ou n K N p (r % 10) = 3 then 1 - mo else -1) (r / 10) (i + 1) else -100 - i) else -100 - i
theorem led_cg {n a : Int} {K N K' N' : Int → Int} (h0 : 0 < n) (h : ∀ i, 0 ≤ i → i < n → K i = K' i ∧ N i = N' i) : ∀ (f : Nat) (p mo w r i : Int), led n K N a f p mo w r i = led n K' N' a f p mo w r i
  | 0, _, _, _, _, _ => rfl
  | f + 1, p, mo, w, r, i => by
    unfold led
    rw [ou_cg h0 h, la_cg h0 h, led_cg h0 h f]
theorem led_b {n a : Int} {K N : Int → Int} (h0 : 0 < n) (h10 : n ≤ 10) : ∀ (f : Nat) (p mo w r i : Int), 0 ≤ p → p < n → (mo = 0 ∨ mo = 1) → (w = -1 ∨ w = 0 ∨ w = 1) → 0 ≤ i → (led n K N a f p mo w r i ≤ -100 ∨ (0 ≤ led n K N a f p mo w r i ∧ led n K N a f p mo w r i < 100) ∨ led n K N a f p mo w r i = 100 ∨ led n K N a f p mo w r i = 101)
  | 0, p, mo, w, r, i, h1, h2, h3, h4, h5 => by
    unfold led
    split <;> omega
  | f + 1, p, mo, w, r, i, h1, h2, h3, h4, h5 => by
    unfold led
    split
    · split <;> omega
    · split
      · split
        · have hl := la_b (K := K) (N := N) h0 p (r % 10)
          exact led_b h0 h10 f _ _ _ _ _ hl.1 hl.2 (by split <;> omega) (by split; omega; split <;> omega) (by omega)
        · omega
      · omega
theorem k_div_p {x : Int} (h : 0 ≤ x) (h2 : x < 1000000000000000000) : k_div x 10 = x / 10 := by
  unfold k_div w64
  rw [Int.tdiv_eq_ediv_of_nonneg h]
  omega
theorem f45_s (L : Nat) {m : Sg} {n : Int} (hn : m 54 0 = n) (h4 : 4 ≤ n) (h10 : n ≤ 10) (hN : ∀ i, 0 ≤ i → i < n → 0 ≤ m 58 i ∧ m 58 i < 1000) : ∀ (f : Nat) (p mo w r i : Int), f ≤ 18 → i = 18 - (f : Int) → 0 ≤ p → p < n → (mo = 0 ∨ mo = 1) → (w = -1 ∨ w = 0 ∨ w = 1) → 0 ≤ r → r < 1000000000000000000 → ∀ F, f < F → lp (f45_b10 (GC L) RC 54 m) F (p, mo, w, r, i) = some (led n (m 56) (m 58) (m 54 3) f p mo w r i) := by
  have fin : ∀ p mo w : Int, 0 ≤ p → p < n → (mo = 0 ∨ mo = 1) → (w = -1 ∨ w = 0 ∨ w = 1) → f45_71 (GC L) RC p mo w m = some (if w = -1 then 10 * mo + p else 100 + w) := by
    intro p mo w h1 h2 h3 h5
    unfold f45_71 g_add g_mul
    rw [w32_i (x := 10 * mo) (by omega) (by omega), w32_i (x := 10 * mo + p) (by omega) (by omega), w32_i (x := 100 + w) (by omega) (by omega)]
    split <;> rfl
  intro f
  induction f with
  | zero =>
    intro p mo w r i hf hi h1 h2 h3 h5 h6 h7 F hF
    obtain ⟨F, rfl⟩ : ∃ k, F = k + 1 := ⟨F - 1, by omega⟩
    refine lp_r ?_
    unfold f45_b10
    simp only
    rw [if_neg (by omega), fin p mo w h1 h2 h3 h5, xr_some]
    rfl
  | succ f ih =>
    intro p mo w r i hf hi h1 h2 h3 h5 h6 h7 F hF
    obtain ⟨F, rfl⟩ : ∃ k, F = k + 1 := ⟨F - 1, by omega⟩
    have er : w32 (r % 10) = r % 10 := by rw [w32_i (by omega) (by omega)]
    unfold led
    by_cases c0 : r % 10 = 0
    · rw [if_pos c0]
      refine lp_r ?_
      unfold f45_b10
      simp only
      rw [if_pos (by omega), k_rem_p h6, if_pos c0, fin p mo w h1 h2 h3 h5, xr_some]
    · rw [if_neg c0]
      have e100 : g_sub (-100) i = -100 - i := by unfold g_sub; rw [w32_i (by omega) (by omega)]
      by_cases cw : w = -1
      · rw [if_pos cw]
        by_cases ca : alw (m 54 3) (r % 10)
        · rw [if_pos (alB_t.mpr ca)]
          have hl := la_b (K := m 56) (N := m 58) (show 0 < n by omega) p (r % 10)
          have ho := ou_b (n := n) (K := m 56) (N := m 58) p (r % 10)
          have e1 : g_sub 1 mo = 1 - mo := by unfold g_sub; rw [w32_i (by omega) (by omega)]
          have e2 : w32 (i + 1) = i + 1 := w32_i (by omega) (by omega)
          have step : f45_b10 (GC L) RC 54 m (p, mo, w, r, i) = some (Sum.inl (la n (m 56) (m 58) p (r % 10), (if ou n (m 56) (m 58) p (r % 10) = 0 then 1 - mo else mo), (if ou n (m 56) (m 58) p (r % 10) = 2 then mo else if ou n (m 56) (m 58) p (r % 10) = 3 then 1 - mo else -1), r / 10, i + 1)) := by
            unfold f45_b10
            simp only [k_rem_p h6, er, k_div_p h6 h7, e1, e2]
            rw [if_pos (by omega), if_neg c0, if_pos cw]
            simp only [KG L, if_true]
            rw [(f39_54 L).1 ca]
            simp only [Option.bind_some]
            rw [if_neg (by decide), f43_54 L hn (by omega) h10 (by omega) (by omega), f44_54 L hn (by omega) h10 (by omega) (by omega) hN]
            simp only [Option.bind_some]
            generalize ou n (m 56) (m 58) p (r % 10) = u
            by_cases u2 : u = 2
            · rw [if_pos u2, if_pos u2, if_neg (by omega)]
            · rw [if_neg u2, if_neg u2]
              by_cases u3 : u = 3
              · rw [if_pos u3, if_pos u3, if_neg (by omega)]
              · rw [if_neg u3, if_neg u3]
                by_cases u0 : u = 0
                · rw [if_pos u0, if_pos u0, cw]
                · rw [if_neg u0, if_neg u0, cw]
          rw [lp_i step]
          exact ih _ _ _ _ _ (by omega) (by omega) hl.1 hl.2 (by split <;> omega) (by split; omega; split <;> omega) (by omega) (by omega) F (by omega)
        · rw [if_neg (fun q => ca (alB_t.mp q))]
          refine lp_r ?_
          unfold f45_b10
          simp only [k_rem_p h6, er]
          rw [if_pos (by omega), if_neg c0, if_pos cw]
          simp only [KG L, if_true]
          rw [(f39_54 L).2 ca]
          simp only [Option.bind_some, if_true]
          rw [xr_some, e100]
      · rw [if_neg cw]
        refine lp_r ?_
        unfold f45_b10
        simp only [k_rem_p h6]
        rw [if_pos (by omega), if_neg c0, if_neg cw, xr_some, e100]
theorem f167_s (L : Nat) {m0 : Sg} {n : Int} (hn : m0 120 1 = n) (h4 : 4 ≤ n) (h10 : n ≤ 10) (hN : ∀ i, 0 ≤ i → i < n → 0 ≤ NM m0 12 i ∧ NM m0 12 i < 1000) : ∀ (f : Nat) (m : Sg) (p mo w r i : Int), F5 m0 m → f ≤ 18 → i = 18 - (f : Int) → 0 ≤ p → p < n → (mo = 0 ∨ mo = 1) → (w = -1 ∨ w = 0 ∨ w = 1) → 0 ≤ r → r < 10 ^ f → r < 1000000000000000000 → ∀ F, f < F → ∃ m', lp (f167_b13 (GC L) RC 120) F (r, (if w = -1 then p else 100 + w), mo, i, m) = some (led n (KM m0 12) (NM m0 12) (m0 123 12) f p mo w r i, m') ∧ F5 m0 m' := by
  have fin : ∀ p mo w : Int, 0 ≤ p → p < n → (mo = 0 ∨ mo = 1) → (w = -1 ∨ w = 0 ∨ w = 1) → ∀ m : Sg, (if (if w = -1 then p else 100 + w) < 100 then some (g_add (g_mul 10 mo) (if w = -1 then p else 100 + w), m) else some ((if w = -1 then p else 100 + w), m)) = some ((if w = -1 then 10 * mo + p else 100 + w), m) := by
    intro p mo w h1 h2 h3 h5 m
    unfold g_add g_mul
    by_cases c : w = -1
    · rw [if_pos c, if_pos c, if_pos (by omega), w32_i (x := 10 * mo) (by omega) (by omega), w32_i (by omega) (by omega)]
    · rw [if_neg c, if_neg c, if_neg (by omega)]
  intro f
  induction f with
  | zero =>
    intro m p mo w r i hF5 hf hi h1 h2 h3 h5 h6 h7 h8 F hF
    obtain ⟨F, rfl⟩ : ∃ k, F = k + 1 := ⟨F - 1, by omega⟩
    have r0 : r = 0 := by have : (10 : Int) ^ 0 = 1 := rfl; omega
    refine ⟨m, lp_r ?_, hF5⟩
    unfold f167_b13
    simp only
    rw [r0, if_pos (by decide), fin p mo w h1 h2 h3 h5, xr_some]
    rfl
  | succ f ih =>
    intro m p mo w r i hF5 hf hi h1 h2 h3 h5 h6 h7 h8 F hF
    obtain ⟨F, rfl⟩ : ∃ k, F = k + 1 := ⟨F - 1, by omega⟩
    have er : w32 (r % 10) = r % 10 := by rw [w32_i (by omega) (by omega)]
    unfold led
    by_cases c0 : r % 10 = 0
    · rw [if_pos c0]
      refine ⟨m, lp_r ?_, hF5⟩
      unfold f167_b13
      simp only
      rw [k_rem_p h6, if_pos c0, fin p mo w h1 h2 h3 h5, xr_some]
    · rw [if_neg c0]
      have e100 : g_sub (-100) i = -100 - i := by unfold g_sub; rw [w32_i (by omega) (by omega)]
      by_cases cw : w = -1
      · simp only [if_pos cw]
        have ea : m 123 12 = m0 123 12 := hF5 123 12 (by omega)
        have en : m 120 1 = n := by rw [hF5 120 1 (by omega)]; exact hn
        by_cases ca : alw (m0 123 12) (r % 10)
        · rw [if_pos (alB_t.mpr ca)]
          have hl := la_b (K := KM m0 12) (N := NM m0 12) (show 0 < n by omega) p (r % 10)
          have ho := ou_b (n := n) (K := KM m0 12) (N := NM m0 12) p (r % 10)
          have e1 : g_sub 1 mo = 1 - mo := by unfold g_sub; rw [w32_i (by omega) (by omega)]
          have e1b : g_sub 101 mo = 101 - mo := by unfold g_sub; rw [w32_i (by omega) (by omega)]
          have e1c : g_add 100 mo = 100 + mo := by unfold g_add; rw [w32_i (by omega) (by omega)]
          have e2 : w32 (i + 1) = i + 1 := w32_i (by omega) (by omega)
          have step : f167_b13 (GC L) RC 120 (r, p, mo, i, m) = some (Sum.inl (r / 10, (if (if ou n (KM m0 12) (NM m0 12) p (r % 10) = 2 then mo else if ou n (KM m0 12) (NM m0 12) p (r % 10) = 3 then 1 - mo else -1) = -1 then la n (KM m0 12) (NM m0 12) p (r % 10) else 100 + (if ou n (KM m0 12) (NM m0 12) p (r % 10) = 2 then mo else if ou n (KM m0 12) (NM m0 12) p (r % 10) = 3 then 1 - mo else -1)), (if ou n (KM m0 12) (NM m0 12) p (r % 10) = 0 then 1 - mo else mo), i + 1, put m 120 5 (la n (KM m0 12) (NM m0 12) p (r % 10)))) := by
            unfold f167_b13 f167_62
            simp only [k_rem_p h6, er, k_div_p h6 h8, e1, e1b, e1c, e2]
            rw [if_neg c0, if_pos (by omega)]
            simp only [KG L, if_true]
            rw [(f150_s L (by omega)).1 (by rw [ea]; exact ca)]
            simp only [Option.bind_some]
            rw [if_neg (by decide), f151_s L en (by omega) h10 (by omega) (by omega) (by omega) (by rw [F5_N hF5]; exact hN)]
            simp only [Option.bind_some, put_eq]
            rw [F5_K hF5, F5_N hF5]
            generalize ou n (KM m0 12) (NM m0 12) p (r % 10) = u
            by_cases u2 : u = 2
            · rw [if_pos u2, if_neg (show ¬ u = 0 by omega), if_pos u2, if_neg (show ¬ u = 0 by omega), if_neg (by omega)]
            · rw [if_neg u2, if_neg u2]
              by_cases u3 : u = 3
              · rw [if_pos u3, if_neg (show ¬ u = 0 by omega), if_pos u3, if_neg (show ¬ u = 0 by omega), if_neg (by omega), show 100 + (1 - mo) = 101 - mo by omega]
              · rw [if_neg u3, if_neg u3, if_pos rfl]
                by_cases u0 : u = 0
                · rw [if_pos u0, if_pos u0]
                · rw [if_neg u0, if_neg u0]
          rw [lp_i step]
          have h10p : (10 : Int) ^ (f + 1) = 10 * 10 ^ f := by rw [Int.pow_succ]; omega
          exact ih _ _ _ _ _ _ (F5_p hF5) (by omega) (by omega) hl.1 hl.2 (by split <;> omega) (by split; omega; split <;> omega) (by omega) (by rw [h10p] at h7; omega) (by omega) F (by omega)
        · rw [if_neg (fun q => ca (alB_t.mp q))]
          refine ⟨m, lp_r ?_, hF5⟩
          unfold f167_b13
          simp only [k_rem_p h6, er]
          rw [if_neg c0, if_pos (by omega)]
          simp only [KG L, if_true]
          rw [(f150_s L (by omega)).2 (by rw [ea]; exact ca)]
          simp only [Option.bind_some, if_true]
          rw [xr_some, e100]
      · rw [if_neg cw, if_neg cw]
        refine ⟨m, lp_r ?_, hF5⟩
        unfold f167_b13
        simp only [k_rem_p h6]
        rw [if_neg c0, if_neg (by omega), xr_some, e100]
