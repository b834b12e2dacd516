/-! COUNTING PLAYS, as the class does: one step of a state -/
def XP (m : Sg) (S : PS) : Prop := (∀ i, 0 ≤ i → i < 20 → m 13 i = S.1 i) ∧ m 9 2 = S.2.1 ∧ m 9 3 = S.2.2
def FrP (m0 m : Sg) : Prop := ∀ x i, ¬ x = 13 → ¬ (x = 9 ∧ (i = 2 ∨ i = 3)) → m x i = m0 x i
theorem FrP_r (m : Sg) : FrP m m := fun _ _ _ _ => rfl
theorem tot_3 {S : PS} (h : nng S) : S.2.1 ≤ tot S ∧ S.2.2 ≤ tot S ∧ ∀ i : Int, 0 ≤ i → i < 20 → S.1 i ≤ tot S := by
  have key : ∀ k : Nat, 0 ≤ sm S.1 k ∧ ∀ i : Int, 0 ≤ i → i < k → S.1 i ≤ sm S.1 k := by
    intro k
    induction k with
    | zero => exact ⟨Int.le_refl _, fun i a1 a2 => absurd a2 (by show ¬ i < 0; omega)⟩
    | succ k ih =>
      rw [sm_s]
      have hk := h.1 k
      refine ⟨by omega, fun i a1 a2 => ?_⟩
      by_cases e : i = k
      · subst e; omega
      · have := ih.2 i a1 (by omega); omega
  have k20 := key 20
  have h2 := h.2.1
  have h3 := h.2.2
  unfold tot
  exact ⟨by omega, by omega, fun i a1 a2 => by have := k20.2 i a1 a2; omega⟩
