/-! BITS -/
def bc : Nat → Nat → Int
  | 0, _ => 0
  | f + 1, v => ((v % 2 : Nat) : Int) + bc f (v / 2)
def bcv (v : Int) : Int := bc 10 v.toNat
theorem f222_a : ∀ k : Fin 1024, f222 [] (fun _ _ => 0) (k.val : Int) (fun _ _ => 0) = some (bcv k.val) := by decide +kernel
theorem f222_s {G : Gg} {ρ : Rg} {m : Sg} {v : Int} (h1 : 0 ≤ v) (h2 : v < 1024) : f222 G ρ v m = some (bcv v) := by
  have := f222_a ⟨v.toNat, by omega⟩
  simp only at this
  rw [show ((v.toNat : Nat) : Int) = v by omega] at this
  exact this
theorem f169_a : ∀ k : Fin 1024, lp (f169_b4 [] (fun _ _ => 0) (fun _ _ => 0)) 12 (0, (k.val : Int)) = some (bcv k.val) := by decide +kernel
theorem lp_le {S R : Type} {f : S → Option (S ⊕ R)} {r : R} : ∀ (k j : Nat) (s : S), lp f k s = some r → lp f (k + j) s = some r
  | 0, _, _, h => by cases h
  | k + 1, j, s, h => by
    rw [show k + 1 + j = (k + j) + 1 by omega]
    unfold lp at h ⊢
    split at h
    · cases h
    · rename_i s' e
      exact lp_le k j s' h
    · exact h
theorem f169_s {G : Gg} {ρ : Rg} {m : Sg} {v : Int} (h1 : 0 ≤ v) (h2 : v < 1024) : f169 G ρ v m = some (bcv v) := by
  have := f169_a ⟨v.toNat, by omega⟩
  simp only at this
  rw [show ((v.toNat : Nat) : Int) = v by omega] at this
  have := lp_le 12 3988 _ this
  exact this
theorem xor_a : ∀ k j : Fin 32, 0 ≤ g_xor (k.val : Int) (j.val : Int) ∧ g_xor (k.val : Int) (j.val : Int) < 32 ∧ g_xor (k.val : Int) (j.val : Int) = g_xor (j.val : Int) (k.val : Int) := by decide +kernel
theorem xor_s {x y : Int} (h1 : 0 ≤ x ∧ x < 32) (h2 : 0 ≤ y ∧ y < 32) : 0 ≤ g_xor x y ∧ g_xor x y < 32 ∧ g_xor x y = g_xor y x := by
  have := xor_a ⟨x.toNat, by omega⟩ ⟨y.toNat, by omega⟩
  simp only at this
  rw [show ((x.toNat : Nat) : Int) = x by omega, show ((y.toNat : Nat) : Int) = y by omega] at this
  exact this
theorem or_a : ∀ (k : Fin 1024) (j : Fin 10), 0 ≤ g_or (k.val : Int) (g_shl 1 (j.val : Int)) ∧ g_or (k.val : Int) (g_shl 1 (j.val : Int)) < 1024 := by decide +kernel
theorem or_s {x s : Int} (h1 : 0 ≤ x ∧ x < 1024) (h2 : 0 ≤ s ∧ s < 10) : 0 ≤ g_or x (g_shl 1 s) ∧ g_or x (g_shl 1 s) < 1024 := by
  have := or_a ⟨x.toNat, by omega⟩ ⟨s.toNat, by omega⟩
  simp only at this
  rw [show ((x.toNat : Nat) : Int) = x by omega, show ((s.toNat : Nat) : Int) = s by omega] at this
  exact this
theorem bcv_b : ∀ k : Fin 1024, 0 ≤ bcv (k.val : Int) ∧ bcv (k.val : Int) ≤ 10 := by decide +kernel
theorem bcv_s {v : Int} (h1 : 0 ≤ v) (h2 : v < 1024) : 0 ≤ bcv v ∧ bcv v ≤ 10 := by
  have := bcv_b ⟨v.toNat, by omega⟩
  simp only at this
  rw [show ((v.toNat : Nat) : Int) = v by omega] at this
  exact this
/-- some step is always allowed -/
theorem alw_a : ∀ k : Fin 31, d15 (alB ((k.val : Int) + 1)) = true := by decide +kernel
theorem alw_e {a : Int} (h1 : 1 ≤ a) (h2 : a ≤ 31) : ∃ d, alw a d := by
  have := alw_a ⟨(a - 1).toNat, by omega⟩
  simp only at this
  rw [show (((a - 1).toNat : Nat) : Int) + 1 = a by omega] at this
  obtain ⟨d, _, _, h⟩ := d15_t.mp this
  exact ⟨d, alB_t.mp h⟩
