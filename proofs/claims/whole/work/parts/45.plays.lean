/-! COUNTING PLAYS, as the class does: one step of a state -/
def XP (m : Sg) (S : PS) : Prop := (∀ i, 0 ≤ i → i < 20 → m 13 i = S.1 i) ∧ m 9 2 = S.2.1 ∧ m 9 3 = S.2.2
def FrP (m0 m : Sg) : Prop := ∀ x i, ¬ x = 13 → ¬ (x = 9 ∧ (i = 2 ∨ i = 3)) → m x i = m0 x i
theorem FrP_r (m : Sg) : FrP m m := fun _ _ _ _ => rfl
theorem tot_3 {S : PS} (h : nng S) : S.2.1 ≤ tot S ∧ S.2.2 ≤ tot S ∧ ∀ i : Int, 0 ≤ i → i < 20 → S.1 i ≤ tot S := by
  have key : ∀ k : Nat, 0 ≤ sm S.1 k ∧ ∀ i : Int, 0 ≤ i → i < k → S.1 i ≤ sm S.1 k := by
    intro k
    induction k with
    | zero => exact ⟨Int.le_refl _, fun i a1 a2 => absurd a2 (by show ¬ i < 0; omega)⟩
    | succ k ih =>
      rw [sm_s]
      have hk := h.1 k
      refine ⟨by omega, fun i a1 a2 => ?_⟩
      by_cases e : i = k
      · subst e; omega
      · have := ih.2 i a1 (by omega); omega
  have k20 := key 20
  have h2 := h.2.1
  have h3 := h.2.2
  unfold tot
  exact ⟨by omega, by omega, fun i a1 a2 => by have := k20.2 i a1 a2; omega⟩
theorem f63a_s (L : Nat) {m0 m : Sg} {n k v : Int} {S : PS} {j : Nat} (hn : m0 54 0 = n) (h4 : 4 ≤ n) (h10 : n ≤ 10) (hN : ∀ i, 0 ≤ i → i < n → 0 ≤ m0 58 i ∧ m0 58 i < 1000) (hk : 0 ≤ k ∧ k < 20) (hv : 0 ≤ v) (hF : FrP m0 m) (hX : XP m S) (hS : nng S) (hj : j < 5) (hb : tot S + v < 2147483648) : ∃ m', f63_b15 (GC L) RC 9 54 v (k / 10) (k % 10) ((j : Int) + 1, m) = some (Sum.inl ((j : Int) + 2, m')) ∧ FrP m0 m' ∧ XP m' (ps1 n (m0 56) (m0 58) (m0 54 3) k v ((j : Int) + 1) S) := by
  obtain ⟨x1, x2, x3⟩ := hX
  have t3 := tot_3 hS
  have e56 : m 56 = m0 56 := funext fun i => hF 56 i (by decide) (by omega)
  have e58 : m 58 = m0 58 := funext fun i => hF 58 i (by decide) (by omega)
  have en : m 54 0 = n := by rw [hF 54 0 (by decide) (by omega)]; exact hn
  have ea : m 54 3 = m0 54 3 := hF 54 3 (by decide) (by omega)
  have hl := la_b (K := m0 56) (N := m0 58) (show 0 < n by omega) (k % 10) ((j : Int) + 1)
  have ho := ou_b (n := n) (K := m0 56) (N := m0 58) (k % 10) ((j : Int) + 1)
  have P2 : ∀ w : Int, FrP m0 (put m 9 2 w) := fun w x i c1 c2 => by
    have : put m 9 2 w x i = m x i := by unfold put; rw [if_neg (by omega)]
    rw [this]; exact hF x i c1 c2
  have P3 : ∀ w : Int, FrP m0 (put m 9 3 w) := fun w x i c1 c2 => by
    have : put m 9 3 w x i = m x i := by unfold put; rw [if_neg (by omega)]
    rw [this]; exact hF x i c1 c2
  have s2 : S.2.1 + v < 2147483648 ∧ 0 ≤ S.2.1 := ⟨by omega, hS.2.1⟩
  have s3 : S.2.2 + v < 2147483648 ∧ 0 ≤ S.2.2 := ⟨by omega, hS.2.2⟩
  unfold f63_b15
  simp only [KG L, if_true]
  rw [if_neg (show ¬ 5 < (j : Int) + 1 by omega), w32_i (x := (j : Int) + 1 + 1) (by omega) (by omega), show (j : Int) + 1 + 1 = (j : Int) + 2 by omega]
  unfold ps1
  by_cases c : alw (m 54 3) ((j : Int) + 1)
  · rw [(f39_54 L).1 c, if_pos (alB_t.mpr (by rw [← ea]; exact c))]
    simp only [Option.bind_some]
    rw [if_neg (by decide), f43_54 L en (by omega) h10 (by omega) (by omega), e56, e58]
    simp only [Option.bind_some]
    generalize ou n (m0 56) (m0 58) (k % 10) ((j : Int) + 1) = u at ho ⊢
    have w2 : f63_45 (GC L) RC 9 54 v (k / 10) (k % 10) ((j : Int) + 1) 1 1 m = some (Sum.inl ((j : Int) + 2, put m 9 2 (S.2.1 + v))) ∧ f63_45 (GC L) RC 9 54 v (k / 10) (k % 10) ((j : Int) + 1) 0 0 m = some (Sum.inl ((j : Int) + 2, put m 9 2 (S.2.1 + v))) := by
      unfold f63_45 g_add
      simp only [KG L, if_true]
      rw [x2, w32_i (x := (j : Int) + 1 + 1) (by omega) (by omega), w32_i (x := S.2.1 + v) (by omega) (by omega), show (j : Int) + 1 + 1 = (j : Int) + 2 by omega]
      exact ⟨rfl, rfl⟩
    have w3 : f63_45 (GC L) RC 9 54 v (k / 10) (k % 10) ((j : Int) + 1) 0 1 m = some (Sum.inl ((j : Int) + 2, put m 9 3 (S.2.2 + v))) ∧ f63_45 (GC L) RC 9 54 v (k / 10) (k % 10) ((j : Int) + 1) 1 0 m = some (Sum.inl ((j : Int) + 2, put m 9 3 (S.2.2 + v))) := by
      unfold f63_45 g_add
      simp only [KG L, if_true]
      rw [x3, w32_i (x := (j : Int) + 1 + 1) (by omega) (by omega), w32_i (x := S.2.2 + v) (by omega) (by omega), show (j : Int) + 1 + 1 = (j : Int) + 2 by omega]
      exact ⟨rfl, rfl⟩
    have X2 : XP (put m 9 2 (S.2.1 + v)) (S.1, S.2.1 + v, S.2.2) := ⟨fun i a1 a2 => by rw [put_ne (by decide)]; exact x1 i a1 a2, put_eq _ _ _ _, by rw [put_nj (by decide)]; exact x3⟩
    have X3 : XP (put m 9 3 (S.2.2 + v)) (S.1, S.2.1, S.2.2 + v) := ⟨fun i a1 a2 => by rw [put_ne (by decide)]; exact x1 i a1 a2, by rw [put_nj (by decide)]; exact x2, put_eq _ _ _ _⟩
    by_cases u2 : u = 2
    · rw [if_pos u2, if_pos u2]
      unfold f63_34 f63_40
      rw [if_pos u2]
      by_cases k0 : k / 10 = 0
      · rw [if_pos k0, if_pos k0, w2.1]; exact ⟨_, rfl, P2 _, X2⟩
      · rw [if_neg k0, if_neg k0, w3.1]; exact ⟨_, rfl, P3 _, X3⟩
    · rw [if_neg u2, if_neg u2]
      by_cases u3 : u = 3
      · rw [if_pos u3, if_pos u3]
        unfold f63_34 f63_40
        rw [if_neg u2]
        by_cases k0 : k / 10 = 0
        · rw [if_pos k0, if_pos k0, w3.2]; exact ⟨_, rfl, P3 _, X3⟩
        · rw [if_neg k0, if_neg k0, w2.2]; exact ⟨_, rfl, P2 _, X2⟩
      · rw [if_neg u3, if_neg u3]
        have go : ∀ q : Int, (q = 0 ∨ q = 1) → ∃ m', f63_68 (GC L) RC 9 54 v (k / 10) (k % 10) ((j : Int) + 1) q m = some (Sum.inl ((j : Int) + 2, m')) ∧ FrP m0 m' ∧ XP m' (fun i => if i = 10 * q + la n (m0 56) (m0 58) (k % 10) ((j : Int) + 1) then S.1 i + v else S.1 i, S.2.1, S.2.2) := by
          intro q hq
          have e1 : ∀ z : Int, 0 ≤ z → z < 10 → g_add (g_mul q 10) z = 10 * q + z := fun z z1 z2 => by
            unfold g_add g_mul
            rw [w32_i (x := q * 10) (by omega) (by omega), w32_i (by omega) (by omega)]
            omega
          unfold f63_68
          simp only [KG L, KR, RAx L, RPx L, if_true]
          rw [f44_54 L en (by omega) h10 (by omega) (by omega) (by rw [e58]; exact hN), e56, e58]
          simp only [Option.bind_some]
          generalize la n (m0 56) (m0 58) (k % 10) ((j : Int) + 1) = l at hl ⊢
          have t1 := t3.2.2 (10 * q + l) (by omega) (by omega)
          have t2 := hS.1 (10 * q + l)
          rw [e1 l (by omega) (by omega), ra_in (by omega) (by omega), rp_in (by omega) (by omega), x1 _ (by omega) (by omega), w32_i (x := (j : Int) + 1 + 1) (by omega) (by omega), show (j : Int) + 1 + 1 = (j : Int) + 2 by omega]
          unfold g_add
          rw [w32_i (by omega) (by omega)]
          refine ⟨_, rfl, fun x i c1 c2 => by rw [put_ne c1]; exact hF x i c1 c2, fun i a1 a2 => ?_, by rw [put_ne (by decide)]; exact x2, by rw [put_ne (by decide)]; exact x3⟩
          simp only
          by_cases e : i = 10 * q + l
          · rw [if_pos e, e, put_eq]
          · rw [if_neg e, put_nj e]; exact x1 i a1 a2
        by_cases u1 : u = 1
        · rw [if_pos u1, if_pos u1]; exact go (k / 10) (by omega)
        · rw [if_neg u1, if_neg u1, show g_sub 1 (k / 10) = 1 - k / 10 from by unfold g_sub; rw [w32_i (by omega) (by omega)]]
          exact go (1 - k / 10) (by omega)
  · rw [(f39_54 L).2 c, if_neg (fun q => c (by rw [ea]; exact alB_t.mp q))]
    simp only [Option.bind_some, if_true]
    exact ⟨m, rfl, hF, x1, x2, x3⟩
