/-! COUNTING PLAYS, as the class does: a state -/
theorem psd_s (n : Int) (K N : Int → Int) (a k v : Int) (S : PS) (j : Nat) : psd n K N a k v S (j + 1) = ps1 n K N a k v ((j : Int) + 1) (psd n K N a k v S j) := rfl
theorem f63_s (L : Nat) {m0 m : Sg} {n k v : Int} {S : PS} (hn : m0 54 0 = n) (h4 : 4 ≤ n) (h10 : n ≤ 10) (hN : ∀ i, 0 ≤ i → i < n → 0 ≤ m0 58 i ∧ m0 58 i < 1000) (hk : 0 ≤ k ∧ k < 20) (hv : m 11 k = v) (hv0 : 0 ≤ v) (hF : FrP m0 m) (hX : XP m S) (hS : nng S) (hb : tot S + 5 * v < 2147483648) : ∃ m', f63 (GC L) RC 9 54 k m = some m' ∧ FrP m0 m' ∧ XP m' (psd n (m0 56) (m0 58) (m0 54 3) k v S 5) := by
  unfold f63
  simp only [KG L, KR, RAx L, Option.bind_some, if_true]
  rw [ra_in hk.1 hk.2, hv, g_div_p hk.1, g_rem_p hk.1, w32_i (x := k / 10) (by omega) (by omega)]
  exact lp_all (f := f63_b15 (GC L) RC 9 54 v (k / 10) (k % 10)) (Q := fun m' => FrP m0 m' ∧ XP m' (psd n (m0 56) (m0 58) (m0 54 3) k v S 5)) (fun j st => ∃ m', st = ((j : Int) + 1, m') ∧ FrP m0 m' ∧ XP m' (psd n (m0 56) (m0 58) (m0 54 3) k v S j)) 5
    (by
      rintro j st hj ⟨m', rfl, i1, i2⟩
      obtain ⟨b1, b2, b3⟩ := psd_b (n := n) (a := m0 54 3) (K := m0 56) (N := m0 58) (k := k) (v := v) (S := S) (by omega) h10 hk hv0 hS j
      have b4 : (j : Int) * v ≤ 4 * v := Int.mul_le_mul_of_nonneg_right (by omega) hv0
      obtain ⟨m2, r1, r2, r3⟩ := f63a_s L hn h4 h10 hN hk hv0 i1 i2 b1 hj (by omega)
      exact ⟨_, r1, m2, by rw [show ((j + 1 : Nat) : Int) + 1 = (j : Int) + 2 by omega], r2, by rw [psd_s]; exact r3⟩)
    (by
      rintro st ⟨m', rfl, i1, i2⟩
      refine ⟨m', ?_, i1, i2⟩
      unfold f63_b15
      simp only
      rw [if_pos (by omega), xr_some])
    (by rw [FU_v]; omega) (1, m) ⟨m, rfl, hF, hX⟩
