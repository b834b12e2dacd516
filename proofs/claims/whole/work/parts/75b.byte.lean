/-! BYTES OF A LONG -/
theorem g255 (x : Int) : 0 ≤ g_and x 255 ∧ g_and x 255 < 256 := by
  unfold g_and
  have h : (Int32.ofInt x &&& Int32.ofInt 255).toInt = ((Int32.ofInt x).toBitVec &&& 255#32).toInt := rfl
  rw [h]
  generalize (Int32.ofInt x).toBitVec = v
  have hl : (v &&& 255#32).toNat ≤ 255 := by
    rw [BitVec.toNat_and]
    exact Nat.and_le_right
  rw [BitVec.toInt_eq_toNat_of_lt (by omega)]
  omega
/-- a byte of a long, as class and as model take it -/
def byt (v : Int) (k : Int) : Int := g_and (w32 (k_ushr v (g_mul 8 k))) 255
theorem byt_e (v : Int) : ∀ k : Nat, k < 8 → w32 (k_and (k_shr v (g_mul 8 k)) 255) = byt v k := by
  intro k hk
  sorry
