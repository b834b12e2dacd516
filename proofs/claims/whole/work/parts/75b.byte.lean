/-! BYTES OF A LONG -/
theorem g255 (x : Int) : 0 ≤ g_and x 255 ∧ g_and x 255 < 256 := by
  unfold g_and
  have h : (Int32.ofInt x &&& Int32.ofInt 255).toInt = ((Int32.ofInt x).toBitVec &&& 255#32).toInt := rfl
  rw [h]
  generalize (Int32.ofInt x).toBitVec = v
  have hl : (v &&& 255#32).toNat ≤ 255 := by
    rw [BitVec.toNat_and]
    exact Nat.and_le_right
  rw [BitVec.toInt_eq_toNat_of_lt (by omega)]
  omega
/-- a byte of a long, as class and as model take it -/
def byt (v : Int) (k : Int) : Int := g_and (w32 (k_ushr v (g_mul 8 k))) 255
theorem kand255 (x : Int) : k_and x 255 = x % 256 := by
  unfold k_and
  have h : (Int64.ofInt x &&& Int64.ofInt 255).toInt = (BitVec.ofInt 64 x &&& 255#64).toInt := rfl
  rw [h]
  have e : (BitVec.ofInt 64 x &&& 255#64).toNat = (x % 18446744073709551616).toNat % 256 := by
    rw [BitVec.toNat_and, BitVec.toNat_ofInt]
    exact Nat.and_two_pow_sub_one_eq_mod _ 8
  rw [BitVec.toInt_eq_toNat_of_lt (by omega), e]
  omega
theorem gand255 (x : Int) : g_and x 255 = x % 256 := by
  unfold g_and
  have h : (Int32.ofInt x &&& Int32.ofInt 255).toInt = (BitVec.ofInt 32 x &&& 255#32).toInt := rfl
  rw [h]
  have e : (BitVec.ofInt 32 x &&& 255#32).toNat = (x % 4294967296).toNat % 256 := by
    rw [BitVec.toNat_and, BitVec.toNat_ofInt]
    exact Nat.and_two_pow_sub_one_eq_mod _ 8
  rw [BitVec.toInt_eq_toNat_of_lt (by omega), e]
  omega
theorem kshr_n (v s : Int) (n : Nat) (h : (Int64.ofInt v >>> ((Int32.ofInt s).toInt64 &&& 63)).toInt = ((BitVec.ofInt 64 v).sshiftRight n).toInt) : k_shr v s = (BitVec.ofInt 64 v).toInt / 2 ^ n := by
  unfold k_shr
  rw [h, BitVec.toInt_sshiftRight, Int.shiftRight_eq_div_pow]
  rfl
theorem kush_n (v s : Int) (n : Nat) (h : ((Int64.ofInt v).toUInt64 >>> ((Int32.ofInt s).toInt64.toUInt64 &&& Int64.toUInt64 63)).toInt64.toInt = ((BitVec.ofInt 64 v) >>> n).toInt) : k_ushr v s = ((BitVec.ofInt 64 v) >>> n).toInt := by
  unfold k_ushr
  exact h
theorem byt_z (N d e a b : Int) (hd : 0 < d) (he : e * d = 18446744073709551616) (h256 : e % 256 = 0) (ha : a = N ∨ a = N - 18446744073709551616) (hb : b = N / d ∨ b = N / d - 18446744073709551616) : w32 (a / d % 256) = w32 b % 256 := by
  have hq : a / d = N / d ∨ a / d = N / d - e := by
    rcases ha with ha | ha
    · exact Or.inl (by rw [ha])
    · refine Or.inr ?_
      rw [ha, ← he, show N - e * d = N + (-e) * d from by rw [Int.neg_mul]; omega, Int.add_mul_ediv_right _ _ (by omega)]
      omega
  generalize a / d = q at hq
  generalize N / d = r at hq hb
  unfold w32
  omega
theorem byt_i (x : BitVec 64) : x.toInt = (x.toNat : Int) ∨ x.toInt = (x.toNat : Int) - 18446744073709551616 := by
  rw [BitVec.toInt_eq_toNat_cond]
  by_cases c : 2 * x.toNat < 2 ^ 64
  · rw [if_pos c]; exact Or.inl rfl
  · rw [if_neg c]; exact Or.inr rfl
theorem byt_n (v : Int) (s : Int) (n : Nat) (d e : Nat) (hd : 2 ^ n = d) (hd0 : 0 < d) (he : (e : Int) * (d : Int) = 18446744073709551616) (h256 : (e : Int) % 256 = 0) (h1 : (Int64.ofInt v >>> ((Int32.ofInt s).toInt64 &&& 63)).toInt = ((BitVec.ofInt 64 v).sshiftRight n).toInt) (h2 : ((Int64.ofInt v).toUInt64 >>> ((Int32.ofInt s).toInt64.toUInt64 &&& Int64.toUInt64 63)).toInt64.toInt = ((BitVec.ofInt 64 v) >>> n).toInt) : w32 (k_and (k_shr v s) 255) = g_and (w32 (k_ushr v s)) 255 := by
  rw [kshr_n v s n h1, kush_n v s n h2, kand255, gand255]
  have hdI : (2 : Int) ^ n = (d : Int) := by rw [← hd]; exact (Int.natCast_pow 2 n).symm
  rw [hdI]
  have b := byt_i ((BitVec.ofInt 64 v) >>> n)
  rw [BitVec.toNat_ushiftRight, Nat.shiftRight_eq_div_pow, hd, Int.natCast_ediv] at b
  exact byt_z _ _ e _ _ (by omega) he h256 (byt_i (BitVec.ofInt 64 v)) b
theorem byt_e (v : Int) : ∀ k : Nat, k < 8 → w32 (k_and (k_shr v (g_mul 8 k)) 255) = byt v k := by
  intro k hk
  unfold byt
  have cs : k = 0 ∨ k = 1 ∨ k = 2 ∨ k = 3 ∨ k = 4 ∨ k = 5 ∨ k = 6 ∨ k = 7 := by omega
  have eg : ∀ j : Nat, j < 8 → g_mul 8 (j : Int) = 8 * (j : Int) := fun j hj => by unfold g_mul; rw [w32_i (by omega) (by omega)]
  rw [eg k hk]
  rcases cs with rfl | rfl | rfl | rfl | rfl | rfl | rfl | rfl
  · exact byt_n v _ 0 1 18446744073709551616 rfl (by decide) (by decide +kernel) (by decide +kernel) rfl rfl
  · exact byt_n v _ 8 256 72057594037927936 rfl (by decide) (by decide +kernel) (by decide +kernel) rfl rfl
  · exact byt_n v _ 16 65536 281474976710656 rfl (by decide) (by decide +kernel) (by decide +kernel) rfl rfl
  · exact byt_n v _ 24 16777216 1099511627776 rfl (by decide) (by decide +kernel) (by decide +kernel) rfl rfl
  · exact byt_n v _ 32 4294967296 4294967296 rfl (by decide) (by decide +kernel) (by decide +kernel) rfl rfl
  · exact byt_n v _ 40 1099511627776 16777216 rfl (by decide) (by decide +kernel) (by decide +kernel) rfl rfl
  · exact byt_n v _ 48 281474976710656 65536 rfl (by decide) (by decide +kernel) (by decide +kernel) rfl rfl
  · exact byt_n v _ 56 72057594037927936 256 rfl (by decide) (by decide +kernel) (by decide +kernel) rfl rfl
