/-! COUNTING PLAYS: how many go on, as the class does; a step, as the model does -/
theorem sm_m {w : Int → Int} (hw : ∀ i, 0 ≤ w i) (k : Nat) : ∀ j : Nat, sm w k ≤ sm w (k + j)
  | 0 => Int.le_refl _
  | j + 1 => by
    have := sm_m hw k j
    have := hw ((k + j : Nat) : Int)
    rw [show k + (j + 1) = (k + j) + 1 from rfl, sm_s]
    omega
theorem sm_to {w : Int → Int} (hw : ∀ i, 0 ≤ w i) {k j : Nat} (h : k ≤ j) : 0 ≤ sm w k ∧ sm w k ≤ sm w j := by
  have a := sm_m hw 0 k
  have b := sm_m hw k (j - k)
  rw [show k + (j - k) = j by omega] at b
  rw [Nat.zero_add] at a
  have c : sm w 0 = 0 := rfl
  omega
theorem f62_s (L : Nat) {m : Sg} {w : Int → Int} (hw : ∀ i, 0 ≤ w i) (hm : ∀ i, 0 ≤ i → i < 20 → m 11 i = w i) (hb : sm w 20 < 2147483648) : f62 (GC L) RC 9 m = some (sm w 20) := by
  unfold f62
  refine lp_eq (fun k : Nat => (sm w k, (k : Int))) 20 (fun k hk => ?_) ?_ (by rw [FU_v]; omega)
  · have t := sm_to hw (show k ≤ 20 by omega)
    have t1 := sm_to hw (show k + 1 ≤ 20 by omega)
    rw [sm_s] at t1
    unfold f62_b4
    simp only [KG L, KR, RAx L, Option.bind_some, if_true]
    rw [if_pos (by omega), ra_in (by omega) (by omega), hm _ (by omega) (by omega), w32_i (x := (k : Int) + 1) (by omega) (by omega)]
    unfold g_add
    rw [w32_i (by omega) (by omega)]
    rfl
  · unfold f62_b4
    simp only
    rw [if_neg (by omega), xr_some]
def FrV (m0 m : Sg) : Prop := ∀ x i, ¬ x = 127 → ¬ (x = 120 ∧ (i = 5 ∨ i = 13 ∨ i = 14)) → m x i = m0 x i
theorem FrV_r (m : Sg) : FrV m m := fun _ _ _ _ => rfl
def XW (m : Sg) (S : PS) : Prop := (∀ i, 0 ≤ i → i < 20 → m 127 i = S.1 i) ∧ m 120 13 = S.2.1 ∧ m 120 14 = S.2.2
theorem FrV_o {m0 m : Sg} {i v : Int} (h : FrV m0 m) (hi : i = 5 ∨ i = 13 ∨ i = 14) : FrV m0 (put m 120 i v) := fun x j c1 c2 => by
  have : put m 120 i v x j = m x j := by unfold put; rw [if_neg (by omega)]
  rw [this]; exact h x j c1 c2
theorem FrV_w {m0 m : Sg} {i v : Int} (h : FrV m0 m) : FrV m0 (put m 127 i v) := fun x j c1 c2 => by rw [put_ne c1]; exact h x j c1 c2
theorem w64_i {x : Int} (h1 : 0 ≤ x) (h2 : x < 4294967296) : w64 x = x := by unfold w64; omega
theorem f165a_s (L : Nat) {m0 m : Sg} {n k v c1 c2 r : Int} {S : PS} {j : Nat} (hn : m0 120 1 = n) (h4 : 4 ≤ n) (h10 : n ≤ 10) (hN : ∀ i, 0 ≤ i → i < n → 0 ≤ NM m0 12 i ∧ NM m0 12 i < 1000) (hk : 0 ≤ k ∧ k < 20) (hv : m 126 k = v) (hv0 : 0 < v) (hF : FrV m0 m) (hX : XW m S) (hS : nng S) (hj : j < 5) (hb : tot S + v < 2147483648) : ∃ m', f165_b66 (GC L) RC 120 c1 c2 r k ((j : Int) + 1, m) = some (Sum.inl ((j : Int) + 2, m')) ∧ m' 126 = m 126 ∧ FrV m0 m' ∧ XW m' (ps1 n (KM m0 12) (NM m0 12) (m0 123 12) k v ((j : Int) + 1) S) := by
  have t3 := tot_3 hS
  have eK : KM m 12 = KM m0 12 := funext fun i => hF 121 _ (by decide) (by omega)
  have eN : NM m 12 = NM m0 12 := funext fun i => hF 122 _ (by decide) (by omega)
  have en : m 120 1 = n := by rw [hF 120 1 (by decide) (by omega)]; exact hn
  have ea : m 123 12 = m0 123 12 := hF 123 12 (by decide) (by omega)
  have hl := la_b (K := KM m0 12) (N := NM m0 12) (show 0 < n by omega) (k % 10) ((j : Int) + 1)
  have ho := ou_b (n := n) (K := KM m0 12) (N := NM m0 12) (k % 10) ((j : Int) + 1)
  have s2 : S.2.1 + v < 2147483648 ∧ 0 ≤ S.2.1 := ⟨by omega, hS.2.1⟩
  have s3 : S.2.2 + v < 2147483648 ∧ 0 ≤ S.2.2 := ⟨by omega, hS.2.2⟩
  unfold f165_b66
  simp only [KG L, KR, KL L, if_true]
  rw [if_neg (by omega), if_pos hk, hv, if_pos hv0, w32_i (x := (j : Int) + 1 + 1) (by omega) (by omega), show (j : Int) + 1 + 1 = (j : Int) + 2 by omega]
  unfold ps1
  by_cases c : alw (m 123 12) ((j : Int) + 1)
  · rw [(f150_s L (by omega)).1 c, if_pos (alB_t.mpr (by rw [← ea]; exact c))]
    simp only [Option.bind_some]
    rw [if_neg (by decide), g_rem_p hk.1, f151_s L en (by omega) h10 (by omega) (by omega) (by omega) (by rw [eN]; exact hN), eK, eN]
    simp only [Option.bind_some]
    rw [g_div_p hk.1, w32_i (x := k / 10) (by omega) (by omega)]
    generalize ou n (KM m0 12) (NM m0 12) (k % 10) ((j : Int) + 1) = u at ho ⊢
    generalize la n (KM m0 12) (NM m0 12) (k % 10) ((j : Int) + 1) = l at hl ⊢
    have F1 : FrV m0 (put m 120 5 l) := FrV_o hF (Or.inl rfl)
    have X1 : XW (put m 120 5 l) S := ⟨fun i a1 a2 => by rw [put_ne (by decide)]; exact hX.1 i a1 a2, by rw [put_nj (by decide)]; exact hX.2.1, by rw [put_nj (by decide)]; exact hX.2.2⟩
    have e5 : put m 120 5 l 120 5 = l := put_eq _ _ _ _
    have e6 : put m 120 5 l 126 = m 126 := put_f (by decide)
    generalize put m 120 5 l = m1 at F1 X1 e5 e6
    have ev : m1 126 k = v := by rw [e6]; exact hv
    have w156 : ∀ (m' : Sg) (u w : Int), u < 2 → f165_156 (GC L) RC 120 c1 c2 r k ((j : Int) + 1) u w m' = some (Sum.inl ((j : Int) + 2, m')) := by
      intro m' u w hu
      unfold f165_156
      rw [if_pos hu, w32_i (by omega) (by omega), show (j : Int) + 1 + 1 = (j : Int) + 2 by omega]
    have w142 : ∀ (m' : Sg) (u w : Int), u < 2 → f165_142 (GC L) RC 120 c1 c2 r k ((j : Int) + 1) u w m' = some (Sum.inl ((j : Int) + 2, m')) := by
      intro m' u w hu
      unfold f165_142
      rw [if_pos hu, w156 m' u w hu]
    have win : ∀ (u w : Int), 2 ≤ u → (w = 0 ∨ w = 1) → f165_142 (GC L) RC 120 c1 c2 r k ((j : Int) + 1) u w m1 = some (Sum.inl ((j : Int) + 2, if w = 0 then put m1 120 13 (S.2.1 + v) else put m1 120 14 (S.2.2 + v))) := by
      intro u w hu hw
      unfold f165_142 f165_156
      simp only [KG L, KR, KL L, if_true, if_neg (show ¬ u < 2 by omega), if_pos hk, ev, X1.2.1, X1.2.2]
      unfold k_add
      rw [w64_i (x := S.2.1 + v) (by omega) (by omega), w64_i (x := S.2.2 + v) (by omega) (by omega), w32_i (x := (j : Int) + 1 + 1) (by omega) (by omega), show (j : Int) + 1 + 1 = (j : Int) + 2 by omega]
      rcases hw with e | e
      · rw [if_pos e, if_neg (by omega), if_pos e]
      · rw [if_neg (by omega), if_pos e, if_neg (by omega)]
    have t1 : FrV m0 (put m1 120 13 (S.2.1 + v)) ∧ XW (put m1 120 13 (S.2.1 + v)) (S.1, S.2.1 + v, S.2.2) := ⟨FrV_o F1 (Or.inr (Or.inl rfl)), fun i a1 a2 => by rw [put_ne (by decide)]; exact X1.1 i a1 a2, put_eq _ _ _ _, by rw [put_nj (by decide)]; exact X1.2.2⟩
    have t2 : FrV m0 (put m1 120 14 (S.2.2 + v)) ∧ XW (put m1 120 14 (S.2.2 + v)) (S.1, S.2.1, S.2.2 + v) := ⟨FrV_o F1 (Or.inr (Or.inr rfl)), fun i a1 a2 => by rw [put_ne (by decide)]; exact X1.1 i a1 a2, by rw [put_nj (by decide)]; exact X1.2.1, put_eq _ _ _ _⟩
    have k01 : k / 10 = 0 ∨ k / 10 = 1 := by omega
    have es : g_sub 1 (k / 10) = 1 - k / 10 := by unfold g_sub; rw [w32_i (by omega) (by omega)]
    have e126 : ∀ (i x : Int), put m1 120 i x 126 = m 126 := fun i x => by rw [put_f (by decide)]; exact e6
    by_cases u2 : u = 2
    · rw [if_pos u2, if_pos u2]
      unfold f165_102 f165_123
      rw [if_neg (by omega), if_neg (by omega), win u _ (by omega) k01]
      rcases k01 with e | e
      · rw [if_pos e, if_pos e]; exact ⟨_, rfl, e126 _ _, t1.1, t1.2⟩
      · rw [if_neg (by omega), if_neg (by omega)]; exact ⟨_, rfl, e126 _ _, t2.1, t2.2⟩
    · rw [if_neg u2, if_neg u2]
      by_cases u3 : u = 3
      · rw [if_pos u3, es]
        unfold f165_102 f165_123
        rw [if_neg (by omega), if_neg (by omega), win u _ (by omega) (by omega)]
        rcases k01 with e | e
        · rw [if_pos e, if_neg (by omega)]; exact ⟨_, rfl, e126 _ _, t2.1, t2.2⟩
        · rw [if_pos (show 1 - k / 10 = 0 by omega), if_neg (show ¬ k / 10 = 0 by omega)]; exact ⟨_, rfl, e126 _ _, t1.1, t1.2⟩
      · rw [if_neg u3, es]
        have go : ∀ q : Int, (q = 0 ∨ q = 1) → g_add (g_mul 10 q) (m1 120 5) = 10 * q + l ∧ (0 ≤ 10 * q + l ∧ 10 * q + l < 20) ∧ k_add (m1 127 (10 * q + l)) (m1 126 k) = S.1 (10 * q + l) + v ∧ FrV m0 (put m1 127 (10 * q + l) (S.1 (10 * q + l) + v)) ∧ XW (put m1 127 (10 * q + l) (S.1 (10 * q + l) + v)) (fun i => if i = 10 * q + l then S.1 i + v else S.1 i, S.2.1, S.2.2) := by
          intro q hq
          have b1 := t3.2.2 (10 * q + l) (by omega) (by omega)
          have b2 := hS.1 (10 * q + l)
          refine ⟨?_, by omega, ?_, FrV_w F1, fun i a1 a2 => ?_, by rw [put_ne (by decide)]; exact X1.2.1, by rw [put_ne (by decide)]; exact X1.2.2⟩
          · rw [e5]
            unfold g_add g_mul
            rw [w32_i (x := 10 * q) (by omega) (by omega), w32_i (by omega) (by omega)]
          · rw [X1.1 _ (by omega) (by omega), ev]
            unfold k_add
            rw [w64_i (by omega) (by omega)]
          · simp only
            by_cases e : i = 10 * q + l
            · rw [if_pos e, e, put_eq]
            · rw [if_neg e, put_nj e]; exact X1.1 i a1 a2
        have e127 : ∀ (i x : Int), put m1 127 i x 126 = m 126 := fun i x => by rw [put_f (by decide)]; exact e6
        by_cases u1 : u = 1
        · obtain ⟨g1, g2, g3, g4, g5⟩ := go (k / 10) k01
          rw [if_pos u1]
          unfold f165_102 f165_123
          simp only [KG L, KR, KL L, if_true]
          rw [if_neg (by omega), if_pos u1, g1, if_pos g2, if_pos hk, g3, w142 _ _ _ (by omega)]
          exact ⟨_, rfl, e127 _ _, g4, g5⟩
        · obtain ⟨g1, g2, g3, g4, g5⟩ := go (1 - k / 10) (by omega)
          rw [if_neg u1]
          unfold f165_102 f165_123
          simp only [KG L, KR, KL L, if_true]
          rw [if_pos (by omega), es, g1, if_pos g2, if_pos hk, if_neg u1, g3, w142 _ _ _ (by omega)]
          exact ⟨_, rfl, e127 _ _, g4, g5⟩
  · rw [(f150_s L (by omega)).2 c, if_neg (fun q => c (by rw [ea]; exact alB_t.mp q))]
    simp only [Option.bind_some, if_true]
    exact ⟨m, rfl, rfl, hF, hX⟩
