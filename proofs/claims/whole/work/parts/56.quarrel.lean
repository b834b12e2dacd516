/-! QUARRELS, as the model looks for them -/
def FrQm (m0 m : Sg) : Prop := ∀ x i, ¬ x = 131 → ¬ x = 132 → ¬ x = 133 → ¬ x = 134 → ¬ (x = 120 ∧ (i = 5 ∨ i = 23)) → m x i = m0 x i
theorem FrQm_r (m : Sg) : FrQm m m := fun _ _ _ _ _ _ _ => rfl
theorem FrQm_p {m0 m : Sg} {x : Nat} {i v : Int} (h : FrQm m0 m) (hx : x = 131 ∨ x = 132 ∨ x = 133 ∨ x = 134 ∨ (x = 120 ∧ (i = 5 ∨ i = 23))) : FrQm m0 (put m x i v) := fun y j c1 c2 c3 c4 c5 => by
  have : put m x i v y j = m y j := by unfold put; rw [if_neg (by omega)]
  rw [this]; exact h y j c1 c2 c3 c4 c5
def QM (m : Sg) (S : QS) : Prop := m 120 23 = S.1 ∧ (∀ i, i < S.1 → m 131 i = (S.2 i).1 ∧ m 132 i = (S.2 i).2.1 ∧ m 133 i = (S.2 i).2.2.1) ∧ ∀ p, 0 ≤ p → p < 100 → (mq S p = true → m 134 p = 1) ∧ (¬ mq S p = true → m 134 p = 0)
theorem QM_5 {m : Sg} {S : QS} {v : Int} (h : QM m S) : QM (put m 120 5 v) S := ⟨by rw [put_nj (by decide)]; exact h.1, fun i hi => by rw [put_ne (by decide), put_ne (by decide), put_ne (by decide)]; exact h.2.1 i hi, fun p p1 p2 => by rw [put_ne (by decide)]; exact h.2.2 p p1 p2⟩
/-- a move where gaps are plain -/
theorem f182_s (L : Nat) {m : Sg} {n t s d : Int} (hn : m 120 1 = n) (h4 : 4 ≤ n) (h10 : n ≤ 10) (ht : 0 ≤ t ∧ t < 12) (hs : 0 ≤ s ∧ s < 1000) (hd : 0 ≤ d ∧ d < 10) (hN : ∀ i, 0 ≤ i → i < n → 0 ≤ NM m t i ∧ NM m t i < 1000) : f182 (GC L) RC 120 t s d m = some (ou n (pz (m 130 t) (KM m t)) (pz (m 130 t) (NM m t)) s d, put m 120 5 (la n (pz (m 130 t) (KM m t)) (pz (m 130 t) (NM m t)) s d)) := by
  have e : g_rem (g_add s d) n = (s + d) % n := by
    unfold g_add
    rw [w32_i (by omega) (by omega), g_rem_p (by omega)]
  unfold f182
  simp only [KG L, if_true]
  rw [hn, if_pos (by omega), e]
  by_cases c : gp (m 130 t) ((s + d) % n)
  · rw [(f171_s L ht).1 c]
    simp only [Option.bind_some]
    rw [if_neg (by decide)]
    unfold ou la
    rw [pz_g c]
    rfl
  · rw [(f171_s L ht).2 c]
    simp only [Option.bind_some, if_true]
    rw [f151_s L hn (by omega) h10 (by omega) hs hd hN]
    simp only [Option.bind_some]
    unfold ou la
    rw [pz_n c, pz_n c]
theorem f183_s (L : Nat) {m0 m : Sg} {n p b : Int} {S : QS} {k : Nat} (hF : FrQm m0 m) (hX : QM m S) (hW : WQ n S) (hk : k < S.1) (hp : 0 ≤ p ∧ p < 100) : ∃ m', f183 (GC L) RC 120 p b (k : Int) m = some m' ∧ FrQm m0 m' ∧ QM m' (qc S p b k) := by
  obtain ⟨x1, x2, x3⟩ := hX
  have h100 := WQ_100 hW
  have xp := x3 p hp.1 hp.2
  unfold f183
  simp only [KG L, KR, KL L, if_true]
  rw [if_pos hp]
  by_cases c : mq S p = true
  · rw [xp.1 c, if_neg (by decide), qc_n c]
    exact ⟨m, rfl, hF, x1, x2, x3⟩
  · have hc := WQ_lt hW hp c
    rw [xp.2 c, if_pos rfl]
    unfold f183_16 f183_22 f183_28 f183_34
    have e1 : ∀ m1 : Sg, m1 120 = m 120 → m1 120 23 = (S.1 : Int) := fun m1 h => by rw [h]; exact x1
    have z : ∀ (a : Nat) (i v : Int) (m1 : Sg), ¬ a = 120 → m1 120 = m 120 → put m1 a i v 120 = m 120 := fun a i v m1 h1 h2 => by rw [put_f (fun q => h1 q.symm)]; exact h2
    simp only [KG L, KR, KL L, if_true]
    rw [e1 _ (z 134 p 1 m (by decide) rfl)]
    rw [e1 _ (z 131 S.1 p _ (by decide) (z 134 p 1 m (by decide) rfl))]
    rw [e1 _ (z 132 S.1 b _ (by decide) (z 131 S.1 p _ (by decide) (z 134 p 1 m (by decide) rfl)))]
    rw [e1 _ (z 133 S.1 k _ (by decide) (z 132 S.1 b _ (by decide) (z 131 S.1 p _ (by decide) (z 134 p 1 m (by decide) rfl))))]
    rw [if_pos (by omega), if_pos (by omega), if_pos (by omega)]
    unfold g_add
    rw [w32_i (by omega) (by omega)]
    refine ⟨_, rfl, FrQm_p (FrQm_p (FrQm_p (FrQm_p (FrQm_p hF (by omega)) (by omega)) (by omega)) (by omega)) (by omega), ?_⟩
    have hmc := mq_c (b := b) (k := k) c
    rw [qc_p c] at hmc ⊢
    refine ⟨by rw [put_eq]; rfl, fun i hi => ?_, fun y y1 y2 => ⟨fun q => ?_, fun q => ?_⟩⟩
    · have hi' : i < S.1 + 1 := hi
      by_cases e : i = S.1
      · subst e
        simp only [if_true]
        refine ⟨?_, ?_, ?_⟩
        · rw [put_ne (by decide), put_ne (by decide), put_ne (by decide), put_eq]
        · rw [put_ne (by decide), put_ne (by decide), put_eq]
        · rw [put_ne (by decide), put_eq]
      · have hi2 : i < S.1 := by omega
        have ni : ¬ (i : Int) = (S.1 : Int) := by omega
        obtain ⟨y1, y2, y3⟩ := x2 i hi2
        simp only [if_neg e]
        refine ⟨?_, ?_, ?_⟩
        · rw [put_ne (by decide), put_ne (by decide), put_ne (by decide), put_nj ni, put_ne (by decide)]; exact y1
        · rw [put_ne (by decide), put_ne (by decide), put_nj ni, put_ne (by decide), put_ne (by decide)]; exact y2
        · rw [put_ne (by decide), put_nj ni, put_ne (by decide), put_ne (by decide), put_ne (by decide)]; exact y3
    · rw [put_ne (by decide), put_ne (by decide), put_ne (by decide), put_ne (by decide)]
      by_cases e : y = p
      · rw [e, put_eq]
      · rw [put_nj e]
        exact (x3 y y1 y2).1 (((hmc y).mp q).resolve_left e)
    · rw [put_ne (by decide), put_ne (by decide), put_ne (by decide), put_ne (by decide)]
      have e : ¬ y = p := fun q2 => q ((hmc y).mpr (Or.inl q2))
      rw [put_nj e]
      exact (x3 y y1 y2).2 (fun q2 => q ((hmc y).mpr (Or.inr q2)))
theorem f184_s (L : Nat) {m : Sg} {n step : Int} {S : QS} {k : Nat} (hX : QM m S) (hW : WQ n S) (hk : k < S.1) (hs : 0 ≤ step ∧ step ≤ 5) : f184 (GC L) RC 120 (k : Int) step m = some (rv S k step) := by
  have wk := hW.2.2.1 k hk
  have h100 := WQ_100 hW
  have key : ∀ (d : Nat) (i : Nat) (at_ : Nat) (r : Int), at_ < S.1 → (S.2 at_).2.2.2 = d → i < 18 → 0 ≤ r → r < 10 ^ (i + 1) → ∀ F, d < F → lp (f184_b7 (GC L) RC 120 m) F (r, (i : Int) + 1, (at_ : Int)) = some (if 18 < i + 1 + d then -2 else rwk S d at_ r) := by
    intro d
    induction d with
    | zero =>
      intro i at_ r h2 h3 hi h5 h6 F hF
      obtain ⟨F, rfl⟩ : ∃ x, F = x + 1 := ⟨F - 1, by omega⟩
      have z : at_ = 0 := by
        by_cases q : at_ = 0
        · exact q
        · have := ((hW.2.2.1 at_ h2).2.2.2.2.2.2.2.2 q).2
          omega
      refine lp_r ?_
      unfold f184_b7
      simp only
      rw [if_neg (by omega), xr_some, if_neg (by omega)]
      rfl
    | succ d ih =>
      intro i at_ r h2 h3 hi h5 h6 F hF
      obtain ⟨F, rfl⟩ : ∃ x, F = x + 1 := ⟨F - 1, by omega⟩
      have w := hW.2.2.1 at_ h2
      have x := hX.2.1 at_ h2
      have nz : ¬ at_ = 0 := fun q => by
        rw [q, hW.2.1] at h3
        simp at h3
      obtain ⟨u1, u2⟩ := w.2.2.2.2.2.2.2.2 nz
      have e : (10 : Int) ^ (i + 1 + 1) = 10 ^ (i + 1) * 10 := Int.pow_succ _ _
      by_cases c : i = 17
      · have st : f184_b7 (GC L) RC 120 m (r, (i : Int) + 1, (at_ : Int)) = some (Sum.inr (-2)) := by
          unfold f184_b7
          simp only [KG L, KR, KL L, if_true]
          rw [if_pos (by omega), if_pos (by omega), w32_i (by omega) (by omega), if_pos (by omega), xr_some]
        rw [lp_r st, if_pos (by omega)]
      · have pw : (10 : Int) ^ (i + 1) ≤ 100000000000000000 := by
          have : ∀ z : Fin 18, (10 : Int) ^ z.val ≤ 100000000000000000 := by decide +kernel
          exact this ⟨i + 1, by omega⟩
        have st : f184_b7 (GC L) RC 120 m (r, (i : Int) + 1, (at_ : Int)) = some (Sum.inl (10 * r + (S.2 at_).2.1, ((i + 1 : Nat) : Int) + 1, (((S.2 at_).2.2.1 : Nat) : Int))) := by
          unfold f184_b7
          simp only [KG L, KR, KL L, if_true]
          rw [if_pos (by omega), if_pos (by omega), w32_i (by omega) (by omega), if_neg (by omega), if_pos (by omega), x.2.1, x.2.2, show (i : Int) + 1 + 1 = ((i + 1 : Nat) : Int) + 1 by omega]
          unfold k_add k_mul
          have m1 : w64 (r * 10) = 10 * r := by unfold w64; omega
          rw [m1]
          have m2 : w64 (10 * r + (S.2 at_).2.1) = 10 * r + (S.2 at_).2.1 := by unfold w64; omega
          rw [m2]
        rw [lp_i st, ih (i + 1) _ _ w.2.2.2.2.1 (by omega) (by omega) (by omega) (by omega) F (by omega), rwk_s]
        by_cases c2 : 18 < i + 1 + (d + 1)
        · rw [if_pos c2, if_pos (by omega)]
        · rw [if_neg c2, if_neg (by omega)]
  unfold f184 rv
  have := key _ 0 k step hk rfl (by omega) hs.1 (by omega) FU (by rw [FU_v]; omega)
  rw [show (((0 : Nat) : Int) + 1) = 1 from rfl] at this
  rw [this]
  by_cases c : 18 < (S.2 k).2.2.2 + 1
  · rw [if_pos c, if_pos (by omega)]
  · rw [if_neg c, if_neg (by omega)]
/-- one step from a pair -/
theorem f185a_s (L : Nat) {m0 m : Sg} {n t u : Int} {S : QS} {k j : Nat} {A : Int → Bool} {O1 O2 L1 L2 : Int → Int → Int} (hn : m0 120 1 = n) (h4 : 4 ≤ n) (h10 : n ≤ 10) (ht : 0 ≤ t ∧ t < 12) (hu : 0 ≤ u ∧ u < 12) (hN : ∀ i, 0 ≤ i → i < n → 0 ≤ NM m0 t i ∧ NM m0 t i < 1000) (hN2 : ∀ i, 0 ≤ i → i < n → 0 ≤ NM m0 u i ∧ NM m0 u i < 1000) (hA : (fun d => alB (m0 123 t) d && alB (m0 123 u) d) = A) (hO1 : ou n (pz (m0 130 t) (KM m0 t)) (pz (m0 130 t) (NM m0 t)) = O1) (hO2 : ou n (pz (m0 130 u) (KM m0 u)) (pz (m0 130 u) (NM m0 u)) = O2) (hL1 : la n (pz (m0 130 t) (KM m0 t)) (pz (m0 130 t) (NM m0 t)) = L1) (hL2 : la n (pz (m0 130 u) (KM m0 u)) (pz (m0 130 u) (NM m0 u)) = L2) (hF : FrQm m0 m) (hX : QM m S) (hW : WQ n S) (hk : k < S.1) (hj : j < 5) (T : QS × Int) (hT : T = q1 A O1 O2 L1 L2 k ((j : Int) + 1) (S, 0)) : (T.2 = 0 ∧ ∃ m', f185_b38 (GC L) RC 120 t u (k : Int) ((j : Int) + 1, m) = some (Sum.inl ((j : Int) + 2, m')) ∧ FrQm m0 m' ∧ QM m' T.1) ∨ (T.2 = (j : Int) + 1 ∧ ∃ m', f185_b38 (GC L) RC 120 t u (k : Int) ((j : Int) + 1, m) = some (Sum.inr (Sum.inr (rv S k T.2, m'))) ∧ FrQm m0 m') := by
  have fr : ∀ x, ¬ x = 131 ∧ ¬ x = 132 ∧ ¬ x = 133 ∧ ¬ x = 134 ∧ ¬ x = 120 → m x = m0 x := fun x hx => funext fun i => hF x i hx.1 hx.2.1 hx.2.2.1 hx.2.2.2.1 (fun q => hx.2.2.2.2 q.1)
  have h100 := WQ_100 hW
  have e123 := fr 123 (by decide)
  have e130 := fr 130 (by decide)
  have eK : KM m = KM m0 := by unfold KM; rw [fr 121 (by decide)]
  have eN : NM m = NM m0 := by unfold NM; rw [fr 122 (by decide)]
  have en : m 120 1 = n := by rw [hF 120 1 (by decide) (by decide) (by decide) (by decide) (by omega)]; exact hn
  have wk := hW.2.2.1 k hk
  have xk := hX.2.1 k hk
  generalize hx : (S.2 k).1 / 10 = x at *
  generalize hy : (S.2 k).1 % 10 = y at *
  have l1 : 0 ≤ L1 x ((j : Int) + 1) ∧ L1 x ((j : Int) + 1) < n := by rw [← hL1]; exact la_b (by omega) _ _
  have l2 : 0 ≤ L2 y ((j : Int) + 1) ∧ L2 y ((j : Int) + 1) < n := by rw [← hL2]; exact la_b (by omega) _ _
  have ua : 0 ≤ O1 x ((j : Int) + 1) ∧ O1 x ((j : Int) + 1) ≤ 3 := by rw [← hO1]; exact ou_b _ _
  have q150 := f150_s L (m := m) (t := t) (d := (j : Int) + 1) (by omega)
  have p150 := f150_s L (m := m) (t := u) (d := (j : Int) + 1) (by omega)
  rw [e123] at q150 p150
  have q182 := f182_s L (m := m) (t := t) (s := x) (d := (j : Int) + 1) en h4 h10 ht (by omega) (by omega) (by rw [eN]; exact hN)
  rw [e130, eK, eN, hO1, hL1] at q182
  unfold q1 at hT
  simp only [if_true, hx, hy] at hT
  have nA : ∀ {d : Int}, ¬ (alw (m0 123 t) d ∧ alw (m0 123 u) d) → ¬ A d = true := fun h q => by
    rw [← hA, Bool.and_eq_true] at q
    exact h ⟨alB_t.mp q.1, alB_t.mp q.2⟩
  unfold f185_b38
  simp only [KG L, KR, KL L, if_true]
  rw [if_neg (by omega), w32_i (x := (j : Int) + 1 + 1) (by omega) (by omega), show (j : Int) + 1 + 1 = (j : Int) + 2 by omega]
  by_cases c1 : alw (m0 123 t) ((j : Int) + 1)
  · rw [q150.1 c1]
    simp only [Option.bind_some]
    rw [if_neg (by decide)]
    by_cases c2 : alw (m0 123 u) ((j : Int) + 1)
    · rw [p150.1 c2]
      simp only [Option.bind_some]
      rw [if_neg (by decide), if_pos (by omega), xk.1, g_div_p wk.1, hx, w32_i (x := x) (by omega) (by omega), q182]
      simp only [Option.bind_some]
      rw [put_ne (by decide), xk.1, g_rem_p wk.1, hy]
      generalize hv1 : L1 x ((j : Int) + 1) = v1 at *
      have F5a : FrQm m0 (put m 120 5 v1) := FrQm_p hF (by omega)
      have X5a : QM (put m 120 5 v1) S := QM_5 hX
      have e5 : put m 120 5 v1 120 5 = v1 := put_eq _ _ _ _
      generalize put m 120 5 v1 = m1 at *
      have fr1 : ∀ x, ¬ x = 131 ∧ ¬ x = 132 ∧ ¬ x = 133 ∧ ¬ x = 134 ∧ ¬ x = 120 → m1 x = m0 x := fun x hx => funext fun i => F5a x i hx.1 hx.2.1 hx.2.2.1 hx.2.2.2.1 (fun q => hx.2.2.2.2 q.1)
      have eK1 : KM m1 = KM m0 := by unfold KM; rw [fr1 121 (by decide)]
      have eN1 : NM m1 = NM m0 := by unfold NM; rw [fr1 122 (by decide)]
      have en1 : m1 120 1 = n := by rw [F5a 120 1 (by decide) (by decide) (by decide) (by decide) (by omega)]; exact hn
      have p182 := f182_s L (m := m1) (t := u) (s := y) (d := (j : Int) + 1) en1 h4 h10 hu (by omega) (by omega) (by rw [eN1]; exact hN2)
      rw [fr1 130 (by decide), eK1, eN1, hO2, hL2] at p182
      rw [p182]
      simp only [Option.bind_some]
      generalize hv2 : L2 y ((j : Int) + 1) = v2 at *
      have F5b : FrQm m0 (put m1 120 5 v2) := FrQm_p F5a (by omega)
      have X5b : QM (put m1 120 5 v2) S := QM_5 X5a
      have e5b : put m1 120 5 v2 120 5 = v2 := put_eq _ _ _ _
      generalize put m1 120 5 v2 = m2 at *
      rw [if_pos (by rw [← hA, Bool.and_eq_true]; exact ⟨alB_t.mpr c1, alB_t.mpr c2⟩)] at hT
      by_cases c3 : O1 x ((j : Int) + 1) = O2 y ((j : Int) + 1)
      · rw [if_pos c3] at hT
        rw [if_pos c3, e5]
        left
        have eg : g_add (g_mul 10 v1) v2 = 10 * v1 + v2 := by
          unfold g_add g_mul
          rw [w32_i (x := 10 * v1) (by omega) (by omega), w32_i (by omega) (by omega)]
        have go : T = (qc S (10 * v1 + v2) ((j : Int) + 1) k, 0) → T.2 = 0 ∧ ∃ m', f185_90 (GC L) RC 120 t u (k : Int) ((j : Int) + 1) v1 m2 = some (Sum.inl ((j : Int) + 2, m')) ∧ FrQm m0 m' ∧ QM m' T.1 := by
          intro hT
          obtain ⟨m', r1, r2, r3⟩ := f183_s L (p := 10 * v1 + v2) (b := (j : Int) + 1) F5b X5b hW hk (by omega)
          unfold f185_90
          simp only [KG L, if_true]
          rw [e5b, eg, r1, w32_i (x := (j : Int) + 1 + 1) (by omega) (by omega), show (j : Int) + 1 + 1 = (j : Int) + 2 by omega, hT]
          exact ⟨rfl, m', rfl, r2, r3⟩
        by_cases c4 : O1 x ((j : Int) + 1) = 2
        · rw [if_pos c4] at hT
          rw [if_neg (by omega), if_neg (by omega), hT]
          exact ⟨rfl, m2, rfl, F5b, X5b⟩
        · rw [if_neg c4] at hT
          by_cases c5 : O1 x ((j : Int) + 1) = 3
          · rw [if_pos c5] at hT
            rw [if_neg (by omega), if_neg (by omega), hT]
            exact ⟨rfl, m2, rfl, F5b, X5b⟩
          · rw [if_neg c5] at hT
            by_cases c6 : O1 x ((j : Int) + 1) = 0
            · rw [if_pos c6]; exact go hT
            · rw [if_neg c6, if_pos (by omega)]; exact go hT
      · rw [if_neg c3] at hT
        rw [if_neg c3, f184_s L X5b hW hk (by omega)]
        simp only [Option.bind_some]
        rw [xr_some, hT]
        exact Or.inr ⟨rfl, m2, rfl, F5b⟩
    · rw [p150.2 c2]
      simp only [Option.bind_some, if_true]
      rw [if_neg (nA (fun q => c2 q.2))] at hT
      rw [hT]
      exact Or.inl ⟨rfl, m, rfl, hF, hX⟩
  · rw [q150.2 c1]
    simp only [Option.bind_some, if_true]
    rw [if_neg (nA (fun q => c1 q.1))] at hT
    rw [hT]
    exact Or.inl ⟨rfl, m, rfl, hF, hX⟩
theorem q1_1 {A : Int → Bool} {O1 O2 L1 L2 : Int → Int → Int} {k : Nat} {d : Int} {S : QS} (h : ¬ (q1 A O1 O2 L1 L2 k d (S, 0)).2 = 0) : (q1 A O1 O2 L1 L2 k d (S, 0)).1 = S := by
  unfold q1 at h ⊢
  simp only [if_true] at h ⊢
  split
  · rename_i c1
    rw [if_pos c1] at h
    split
    · rename_i c2
      rw [if_pos c2] at h
      split
      · rfl
      · rename_i c3
        rw [if_neg c3] at h
        split
        · rfl
        · rename_i c4
          rw [if_neg c4] at h
          exact absurd rfl h
    · rfl
  · rfl
theorem rv_c {S S' : QS} {n : Int} (hW : WQ n S) {k : Nat} (hk : k < S.1) (hs : ∀ i, i < S.1 → S'.2 i = S.2 i) (step : Int) : rv S' k step = rv S k step := by
  have key : ∀ (d k : Nat) (r : Int), k < S.1 → rwk S' d k r = rwk S d k r := by
    intro d
    induction d with
    | zero => intro k r _; rfl
    | succ d ih =>
      intro k r hk
      rw [rwk_s, rwk_s, hs k hk]
      exact ih _ _ (hW.2.2.1 k hk).2.2.2.2.1
  unfold rv
  rw [hs k hk, key _ _ _ hk]
theorem f185_s (L : Nat) {m0 : Sg} {n t u : Int} (hn : m0 120 1 = n) (h4 : 4 ≤ n) (h10 : n ≤ 10) (ht : 0 ≤ t ∧ t < 12) (hu : 0 ≤ u ∧ u < 12) (hN : ∀ i, 0 ≤ i → i < n → 0 ≤ NM m0 t i ∧ NM m0 t i < 1000) (hN2 : ∀ i, 0 ≤ i → i < n → 0 ≤ NM m0 u i ∧ NM m0 u i < 1000) : ∃ m', lp (f185_b12 (GC L) RC 120 t u) FU (0, m0) = some (qan (fun d => alB (m0 123 t) d && alB (m0 123 u) d) (ou n (pz (m0 130 t) (KM m0 t)) (pz (m0 130 t) (NM m0 t))) (ou n (pz (m0 130 u) (KM m0 u)) (pz (m0 130 u) (NM m0 u))) (la n (pz (m0 130 t) (KM m0 t)) (pz (m0 130 t) (NM m0 t))) (la n (pz (m0 130 u) (KM m0 u)) (pz (m0 130 u) (NM m0 u))), m') ∧ FrQm m0 m' := by
  generalize hA : (fun d => alB (m0 123 t) d && alB (m0 123 u) d) = A
  generalize hO1 : ou n (pz (m0 130 t) (KM m0 t)) (pz (m0 130 t) (NM m0 t)) = O1
  generalize hO2 : ou n (pz (m0 130 u) (KM m0 u)) (pz (m0 130 u) (NM m0 u)) = O2
  generalize hL1 : la n (pz (m0 130 t) (KM m0 t)) (pz (m0 130 t) (NM m0 t)) = L1
  generalize hL2 : la n (pz (m0 130 u) (KM m0 u)) (pz (m0 130 u) (NM m0 u)) = L2
  have hL : ∀ s d, (0 ≤ L1 s d ∧ L1 s d < n) ∧ (0 ≤ L2 s d ∧ L2 s d < n) := fun s d => by
    rw [← hL1, ← hL2]; exact ⟨la_b (by omega) s d, la_b (by omega) s d⟩
  have b38 : ∀ (m : Sg) (k : Nat), FrQm m0 m → QM m (qo A O1 O2 L1 L2 k).1 → (qo A O1 O2 L1 L2 k).2 = none → k < (qo A O1 O2 L1 L2 k).1.1 → k < 100 → ∃ r, lp (f185_b38 (GC L) RC 120 t u (k : Int)) FU (1, m) = some r ∧ ((∃ m', r = Sum.inl ((k : Int) + 1, m') ∧ FrQm m0 m' ∧ QM m' (qo A O1 O2 L1 L2 (k + 1)).1 ∧ (qo A O1 O2 L1 L2 (k + 1)).2 = none) ∨ (∃ m', r = Sum.inr (qan A O1 O2 L1 L2, m') ∧ FrQm m0 m')) := by
    intro m k hF hX hz c hk
    have hW := qo_W (A := A) (O1 := O1) (O2 := O2) (L1 := L1) (L2 := L2) (n := n) (by omega) h10 hL k
    have en := qo_n hz c
    refine lp_ex (f := f185_b38 (GC L) RC 120 t u (k : Int)) (fun j st => ∃ m', st = ((j : Int) + 1, m') ∧ FrQm m0 m' ∧ QM m' (qj A O1 O2 L1 L2 k (qo A O1 O2 L1 L2 k).1 j).1 ∧ (qj A O1 O2 L1 L2 k (qo A O1 O2 L1 L2 k).1 j).2 = 0) 5
      (by
        rintro j st hj ⟨m', rfl, i1, i2, i3⟩
        obtain ⟨a1, a2, a3⟩ := qj_o (A := A) (O1 := O1) (O2 := O2) h10 hL hW c j (by omega)
        have eT : ((qj A O1 O2 L1 L2 k (qo A O1 O2 L1 L2 k).1 j).1, (0 : Int)) = qj A O1 O2 L1 L2 k (qo A O1 O2 L1 L2 k).1 j := by rw [← i3]
        have key := f185a_s L (j := j) hn h4 h10 ht hu hN hN2 hA hO1 hO2 hL1 hL2 i1 i2 a1 a2 hj (qj A O1 O2 L1 L2 k (qo A O1 O2 L1 L2 k).1 (j + 1)) (by rw [eT]; rfl)
        rcases key with ⟨t1, m2, t2, t3, t4⟩ | ⟨t1, m2, t2, t3⟩
        · left
          exact ⟨_, t2, m2, by rw [show ((j + 1 : Nat) : Int) + 1 = (j : Int) + 2 by omega], t3, t4, t1⟩
        · right
          have e5 := qj_f (A := A) (O1 := O1) (O2 := O2) (L1 := L1) (L2 := L2) (k := k) (S := (qo A O1 O2 L1 L2 k).1) (j := j + 1) (by rw [t1]; omega) (5 - (j + 1))
          rw [show j + 1 + (5 - (j + 1)) = 5 by omega] at e5
          have e1 : (qj A O1 O2 L1 L2 k (qo A O1 O2 L1 L2 k).1 (j + 1)).1 = (qj A O1 O2 L1 L2 k (qo A O1 O2 L1 L2 k).1 j).1 := by
            have : qj A O1 O2 L1 L2 k (qo A O1 O2 L1 L2 k).1 (j + 1) = q1 A O1 O2 L1 L2 k ((j : Int) + 1) ((qj A O1 O2 L1 L2 k (qo A O1 O2 L1 L2 k).1 j).1, 0) := by rw [eT]; rfl
            rw [this] at t1 ⊢
            exact q1_1 (by rw [t1]; omega)
          refine ⟨_, t2, Or.inr ⟨m2, ?_, t3⟩⟩
          rw [qan_f hk hz c (by rw [e5, t1]; omega), e5, e1])
      (by
        rintro st ⟨m', rfl, i1, i2, i3⟩
        rw [if_pos i3] at en
        refine ⟨_, ?_, Or.inl ⟨m', rfl, i1, by rw [en]; exact i2, by rw [en]⟩⟩
        unfold f185_b38
        simp only
        rw [if_pos (by omega), xr_some, w32_i (by omega) (by omega)])
      FU (by rw [FU_v]; omega) (1, m) ⟨m, rfl, hF, hX, rfl⟩
  have main : ∀ m : Sg, FrQm m0 m → QM m (1, fun _ => (0, 0, 0, 0)) → ∃ m', lp (f185_b32 (GC L) RC 120 t u) FU (0, m) = some (qan A O1 O2 L1 L2, m') ∧ FrQm m0 m' := by
    intro m hF hX
    obtain ⟨q, h1, m', h2, h3⟩ := lp_ex (f := f185_b32 (GC L) RC 120 t u) (Q := fun q => ∃ m', q = (qan A O1 O2 L1 L2, m') ∧ FrQm m0 m') (fun k st => ∃ m', st = ((k : Int), m') ∧ FrQm m0 m' ∧ QM m' (qo A O1 O2 L1 L2 k).1 ∧ (qo A O1 O2 L1 L2 k).2 = none) 100
      (by
        rintro k st hk ⟨m', rfl, i1, i2, i3⟩
        unfold f185_b32
        simp only [KG L, if_true]
        rw [i2.1]
        by_cases c : k < (qo A O1 O2 L1 L2 k).1.1
        · rw [if_pos (by omega)]
          obtain ⟨r, r1, r2⟩ := b38 m' k i1 i2 i3 c hk
          rw [r1]
          rcases r2 with ⟨m2, rfl, s1, s2, s3⟩ | ⟨m2, rfl, s1⟩
          · exact Or.inl ⟨_, rfl, m2, rfl, s1, s2, s3⟩
          · exact Or.inr ⟨_, rfl, m2, rfl, s1⟩
        · right
          rw [if_neg (by omega), xr_some]
          exact ⟨_, rfl, m', by rw [qan_n (by omega) i3 c], i1⟩)
      (by
        rintro st ⟨m', rfl, i1, i2, i3⟩
        have hW := qo_W (A := A) (O1 := O1) (O2 := O2) (L1 := L1) (L2 := L2) (n := n) (by omega) h10 hL 100
        have h100 := WQ_100 hW
        refine ⟨_, ?_, m', by rw [qan_n (by omega) i3 (by omega)], i1⟩
        unfold f185_b32
        simp only [KG L, if_true]
        rw [i2.1, if_neg (by omega), xr_some])
      FU (by rw [FU_v]; omega) (0, m) ⟨m, rfl, hF, hX, rfl⟩
    exact ⟨m', by rw [h1, h2], h3⟩
  obtain ⟨q, h1, m', h2, h3⟩ := lp_all (f := f185_b12 (GC L) RC 120 t u) (Q := fun q => ∃ m', q = (qan A O1 O2 L1 L2, m') ∧ FrQm m0 m') (fun j st => ∃ m', st = ((j : Int), m') ∧ FrQm m0 m' ∧ ∀ i : Int, 0 ≤ i → i < j → m' 134 i = 0) 100
    (by
      rintro j st hj ⟨m', rfl, i1, i2⟩
      unfold f185_b12
      simp only [KG L, KR, KL L, if_true]
      rw [if_pos (by omega), if_pos (by omega), w32_i (by omega) (by omega)]
      refine ⟨_, rfl, _, rfl, FrQm_p i1 (by omega), fun i a1 a2 => ?_⟩
      by_cases e : i = j
      · rw [e, put_eq]
      · rw [put_nj e]; exact i2 i a1 (by omega))
    (by
      rintro st ⟨m', rfl, i1, i2⟩
      have F1 : FrQm m0 (put m' 120 23 0) := FrQm_p i1 (by omega)
      have z : ∀ p : Int, 0 ≤ p → p < 100 → put m' 120 23 0 134 p = 0 := fun p p1 p2 => by rw [put_ne (by decide)]; exact i2 p p1 p2
      have e23 : put m' 120 23 0 120 23 = 0 := put_eq _ _ _ _
      generalize hm1 : put m' 120 23 0 = m1 at *
      have st : ∃ m2, f183 (GC L) RC 120 0 0 0 m1 = some m2 ∧ FrQm m0 m2 ∧ QM m2 (1, fun _ => (0, 0, 0, 0)) := by
        unfold f183
        simp only [KG L, KR, KL L, if_true]
        rw [if_pos (by omega), z 0 (by omega) (by omega), if_pos rfl]
        unfold f183_16 f183_22 f183_28 f183_34
        simp only [KG L, KR, KL L, if_true]
        have e1 : ∀ m2 : Sg, m2 120 = m1 120 → m2 120 23 = 0 := fun m2 h => by rw [h]; exact e23
        have zz : ∀ (a : Nat) (i v : Int) (m2 : Sg), ¬ a = 120 → m2 120 = m1 120 → put m2 a i v 120 = m1 120 := fun a i v m2 h1 h2 => by rw [put_f (fun q => h1 q.symm)]; exact h2
        rw [e1 _ (zz 134 0 1 m1 (by decide) rfl)]
        rw [e1 _ (zz 131 0 0 _ (by decide) (zz 134 0 1 m1 (by decide) rfl))]
        rw [e1 _ (zz 132 0 0 _ (by decide) (zz 131 0 0 _ (by decide) (zz 134 0 1 m1 (by decide) rfl)))]
        rw [e1 _ (zz 133 0 0 _ (by decide) (zz 132 0 0 _ (by decide) (zz 131 0 0 _ (by decide) (zz 134 0 1 m1 (by decide) rfl))))]
        rw [if_pos (by omega), if_pos (by omega), if_pos (by omega)]
        refine ⟨_, rfl, FrQm_p (FrQm_p (FrQm_p (FrQm_p (FrQm_p F1 (by omega)) (by omega)) (by omega)) (by omega)) (by omega), ?_, fun i hi => ?_, fun p p1 p2 => ?_⟩
        · exact put_eq _ _ _ _
        · have : i = 0 := by have h : i < 1 := hi; omega
          subst this
          refine ⟨?_, ?_, ?_⟩
          · show _ = (0 : Int)
            rw [put_ne (by decide), put_ne (by decide), put_ne (by decide)]; exact put_eq _ _ _ _
          · show _ = (0 : Int)
            rw [put_ne (by decide), put_ne (by decide)]; exact put_eq _ _ _ _
          · show _ = (0 : Int)
            rw [put_ne (by decide)]; exact put_eq _ _ _ _
        · have mz : mq (1, fun _ => (0, 0, 0, 0)) p = true ↔ p = 0 := by
            rw [mq_t]
            constructor
            · rintro ⟨i, _, q⟩; exact q.symm
            · intro q; exact ⟨0, by show 0 < 1; omega, q.symm⟩
          rw [put_ne (by decide), put_ne (by decide), put_ne (by decide), put_ne (by decide)]
          by_cases e : p = 0
          · rw [e, put_eq]; exact ⟨fun _ => rfl, fun q => absurd (mz.mpr e) (by rw [e]; exact q)⟩
          · rw [put_nj e]; exact ⟨fun q => absurd (mz.mp q) e, fun _ => z p p1 p2⟩
      obtain ⟨m2, s1, s2, s3⟩ := st
      obtain ⟨m3, r1, r2⟩ := main m2 s2 s3
      refine ⟨_, ?_, m3, rfl, r2⟩
      unfold f185_b12
      simp only [KG L, if_true]
      rw [if_neg (by omega), hm1, s1]
      simp only [Option.bind_some]
      rw [r1, xr_some])
    (by rw [FU_v]; omega) (0, m0) ⟨m0, rfl, FrQm_r m0, fun i a1 a2 => absurd a2 (by show ¬ i < 0; omega)⟩
  exact ⟨m', by rw [h1, h2], h3⟩
