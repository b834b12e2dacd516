/-! QUARRELS, as the class looks for them -/
def FrQc (m0 m : Sg) : Prop := ∀ x i, ¬ x = 101 → ¬ x = 103 → ¬ x = 105 → ¬ x = 107 → ¬ x = 109 → ¬ (x = 99 ∧ i = 7) → m x i = m0 x i
theorem FrQc_r (m : Sg) : FrQc m m := fun _ _ _ _ _ _ _ _ => rfl
theorem FrQc_p {m0 m : Sg} {x : Nat} {i v : Int} (h : FrQc m0 m) (hx : x = 101 ∨ x = 103 ∨ x = 105 ∨ x = 107 ∨ x = 109 ∨ (x = 99 ∧ i = 7)) : FrQc m0 (put m x i v) := fun y j c1 c2 c3 c4 c5 c6 => by
  have : put m x i v y j = m y j := by unfold put; rw [if_neg (by omega)]
  rw [this]; exact h y j c1 c2 c3 c4 c5 c6
def QX (m : Sg) (S : QS) : Prop := m 99 7 = S.1 ∧ (∀ i, i < S.1 → m 101 i = (S.2 i).1 ∧ m 105 (S.2 i).1 = (S.2 i).2.2.2 ∧ m 107 (S.2 i).1 = (S.2 (S.2 i).2.2.1).1 ∧ m 109 (S.2 i).1 = (S.2 i).2.1) ∧ ∀ p, 0 ≤ p → p < 100 → (mq S p = true → m 103 p = 1) ∧ (¬ mq S p = true → m 103 p = 0)
theorem WQ_lt {n p : Int} {S : QS} (hW : WQ n S) (hp : 0 ≤ p ∧ p < 100) (c : ¬ mq S p = true) : S.1 < 100 := by
  have a := cnt_lt (p := mq S) (q := fun _ => true) 100 (fun _ _ _ _ => rfl) ⟨p, hp.1, by omega, rfl, c⟩
  have b := cnt_b (fun _ : Int => true) 100
  have := hW.2.2.2
  omega
theorem f6_s (L : Nat) {m0 m : Sg} {n p b : Int} {S : QS} {k : Nat} (hF : FrQc m0 m) (hX : QX m S) (hW : WQ n S) (hk : k < S.1) (hp : 0 ≤ p ∧ p < 100) : ∃ m', f6 (GC L) RC 99 p (S.2 k).1 b m = some m' ∧ FrQc m0 m' ∧ QX m' (qc S p b k) := by
  obtain ⟨x1, x2, x3⟩ := hX
  have h100 := WQ_100 hW
  have wk := hW.2.2.1 k hk
  have xp := x3 p hp.1 hp.2
  unfold f6
  simp only [KG L, KR, RAx L, RPx L, Option.bind_some, if_true]
  rw [ra_in hp.1 hp.2]
  by_cases c : mq S p = true
  · rw [xp.1 c, if_neg (by decide), qc_n c]
    exact ⟨m, rfl, hF, x1, x2, x3⟩
  · have hc := WQ_lt hW hp c
    rw [xp.2 c, if_pos rfl]
    simp only [rp_in hp.1 hp.2]
    rw [ra_in wk.1 wk.2.1, put_ne (by decide), (x2 k hk).2.1]
    have e7 : ∀ v1 v2 v3 v4 : Int, put (put (put (put m 103 p v1) 105 p v2) 107 p v3) 109 p v4 99 7 = (S.1 : Int) := fun v1 v2 v3 v4 => by
      rw [put_ne (by decide), put_ne (by decide), put_ne (by decide), put_ne (by decide)]; exact x1
    unfold g_add
    rw [e7, rp_in (by omega) (by omega), put_ne (by decide), e7, w32_i (x := ((S.2 k).2.2.2 : Int) + 1) (by omega) (by omega), w32_i (by omega) (by omega)]
    refine ⟨_, rfl, FrQc_p (FrQc_p (FrQc_p (FrQc_p (FrQc_p (FrQc_p hF (by omega)) (by omega)) (by omega)) (by omega)) (by omega)) (by omega), ?_⟩
    have hmc := mq_c (b := b) (k := k) c
    rw [qc_p c] at hmc ⊢
    have np : ∀ i, i < S.1 → ¬ (S.2 i).1 = p := fun i hi q => c (mq_t.mpr ⟨i, hi, q⟩)
    refine ⟨by rw [put_eq]; rfl, fun i hi => ?_, fun y y1 y2 => ⟨fun q => ?_, fun q => ?_⟩⟩
    · have hi' : i < S.1 + 1 := hi
      by_cases e : i = S.1
      · subst e
        simp only [if_true]
        refine ⟨?_, ?_, ?_, ?_⟩
        · rw [put_ne (by decide), put_eq]
        · rw [put_ne (by decide), put_ne (by decide), put_ne (by decide), put_ne (by decide), put_eq]; rfl
        · rw [put_ne (by decide), put_ne (by decide), put_ne (by decide), put_eq, if_neg (by omega)]
        · rw [put_ne (by decide), put_ne (by decide), put_eq]
      · have hi2 : i < S.1 := by omega
        have w := hW.2.2.1 i hi2
        have np2 := np i hi2
        have ni : ¬ (i : Int) = (S.1 : Int) := by omega
        have nF : ¬ (S.2 i).2.2.1 = S.1 := by omega
        obtain ⟨y1, y2, y3, y4⟩ := x2 i hi2
        simp only [if_neg e, if_neg nF]
        refine ⟨?_, ?_, ?_, ?_⟩
        · rw [put_ne (by decide), put_nj ni, put_ne (by decide), put_ne (by decide), put_ne (by decide), put_ne (by decide)]; exact y1
        · rw [put_ne (by decide), put_ne (by decide), put_ne (by decide), put_ne (by decide), put_nj np2, put_ne (by decide)]; exact y2
        · rw [put_ne (by decide), put_ne (by decide), put_ne (by decide), put_nj np2, put_ne (by decide), put_ne (by decide)]; exact y3
        · rw [put_ne (by decide), put_ne (by decide), put_nj np2, put_ne (by decide), put_ne (by decide), put_ne (by decide)]; exact y4
    · rw [put_ne (by decide), put_ne (by decide), put_ne (by decide), put_ne (by decide), put_ne (by decide)]
      by_cases e : y = p
      · rw [e, put_eq]
      · rw [put_nj e]
        exact (x3 y y1 y2).1 (((hmc y).mp q).resolve_left e)
    · rw [put_ne (by decide), put_ne (by decide), put_ne (by decide), put_ne (by decide), put_ne (by decide)]
      have e : ¬ y = p := fun q2 => q ((hmc y).mpr (Or.inl q2))
      rw [put_nj e]
      exact (x3 y y1 y2).2 (fun q2 => q ((hmc y).mpr (Or.inr q2)))
/-- one step from a pair -/
theorem f5a_s (L : Nat) {m0 m : Sg} {n : Int} {S : QS} {k j : Nat} (hn : m0 110 0 = n) (hn2 : m0 115 0 = n) (h4 : 4 ≤ n) (h10 : n ≤ 10) (hN : ∀ i, 0 ≤ i → i < n → 0 ≤ m0 114 i ∧ m0 114 i < 1000) (hN2 : ∀ i, 0 ≤ i → i < n → 0 ≤ m0 119 i ∧ m0 119 i < 1000) (hF : FrQc m0 m) (hX : QX m S) (hW : WQ n S) (hk : k < S.1) (hj : j < 5) (T : QS × Int) (hT : T = q1 (fun d => alB (m0 110 3) d && alB (m0 115 3) d) (ou n (m0 112) (m0 114)) (ou n (m0 117) (m0 119)) (la n (m0 112) (m0 114)) (la n (m0 117) (m0 119)) k ((j : Int) + 1) (S, 0)) : (T.2 = 0 ∧ ∃ m', f5_b10 (GC L) RC 99 (S.2 k).1 ((S.2 k).1 / 10) ((S.2 k).1 % 10) ((j : Int) + 1, m) = some (Sum.inl ((j : Int) + 2, m')) ∧ FrQc m0 m' ∧ QX m' T.1) ∨ (T.2 = (j : Int) + 1 ∧ f5_b10 (GC L) RC 99 (S.2 k).1 ((S.2 k).1 / 10) ((S.2 k).1 % 10) ((j : Int) + 1, m) = some (Sum.inr (T.2, m)) ∧ T.1 = S) := by
  have fr : ∀ x, ¬ x = 101 ∧ ¬ x = 103 ∧ ¬ x = 105 ∧ ¬ x = 107 ∧ ¬ x = 109 ∧ ¬ x = 99 → m x = m0 x := fun x hx => funext fun i => hF x i hx.1 hx.2.1 hx.2.2.1 hx.2.2.2.1 hx.2.2.2.2.1 (fun q => hx.2.2.2.2.2 q.1)
  have e110 := fr 110 (by decide)
  have e112 := fr 112 (by decide)
  have e114 := fr 114 (by decide)
  have e115 := fr 115 (by decide)
  have e117 := fr 117 (by decide)
  have e119 := fr 119 (by decide)
  have wk := hW.2.2.1 k hk
  generalize hx : (S.2 k).1 / 10 = x at *
  generalize hy : (S.2 k).1 % 10 = y at *
  have l1 := la_b (K := m0 112) (N := m0 114) (show 0 < n by omega) x ((j : Int) + 1)
  have l2 := la_b (K := m0 117) (N := m0 119) (show 0 < n by omega) y ((j : Int) + 1)
  have ua := ou_b (n := n) (K := m0 112) (N := m0 114) x ((j : Int) + 1)
  have q39 := f39_110 L (m := m) (d := (j : Int) + 1)
  have p39 := f39_115 L (m := m) (d := (j : Int) + 1)
  have q43 := f43_110 L (m := m) (s := x) (d := (j : Int) + 1) (by rw [e110]; exact hn) (by omega) h10 (by omega) (by omega)
  have p43 := f43_115 L (m := m) (s := y) (d := (j : Int) + 1) (by rw [e115]; exact hn2) (by omega) h10 (by omega) (by omega)
  have q44 := f44_110 L (m := m) (s := x) (d := (j : Int) + 1) (by rw [e110]; exact hn) (by omega) h10 (by omega) (by omega) (by rw [e114]; exact hN)
  have p44 := f44_115 L (m := m) (s := y) (d := (j : Int) + 1) (by rw [e115]; exact hn2) (by omega) h10 (by omega) (by omega) (by rw [e119]; exact hN2)
  rw [e110] at q39
  rw [e115] at p39
  rw [e112, e114] at q43 q44
  rw [e117, e119] at p43 p44
  unfold q1 at hT
  simp only [if_true, hx, hy] at hT
  unfold f5_b10
  simp only [KG L, KR, if_true]
  rw [if_neg (by omega), w32_i (x := (j : Int) + 1 + 1) (by omega) (by omega), show (j : Int) + 1 + 1 = (j : Int) + 2 by omega]
  have nA : ∀ {d : Int}, ¬ (alw (m0 110 3) d ∧ alw (m0 115 3) d) → ¬ (alB (m0 110 3) d && alB (m0 115 3) d) = true := fun h q => by
    rw [Bool.and_eq_true] at q
    exact h ⟨alB_t.mp q.1, alB_t.mp q.2⟩
  by_cases c1 : alw (m0 110 3) ((j : Int) + 1)
  · rw [q39.1 c1]
    simp only [Option.bind_some]
    rw [if_neg (by decide)]
    by_cases c2 : alw (m0 115 3) ((j : Int) + 1)
    · rw [p39.1 c2]
      simp only [Option.bind_some]
      rw [if_neg (by decide), q43]
      simp only [Option.bind_some]
      rw [p43]
      simp only [Option.bind_some]
      rw [if_pos (by rw [Bool.and_eq_true]; exact ⟨alB_t.mpr c1, alB_t.mpr c2⟩)] at hT
      by_cases c3 : ou n (m0 112) (m0 114) x ((j : Int) + 1) = ou n (m0 117) (m0 119) y ((j : Int) + 1)
      · rw [if_pos c3] at hT
        rw [if_pos c3]
        left
        by_cases c4 : ou n (m0 112) (m0 114) x ((j : Int) + 1) = 2
        · rw [if_pos c4] at hT
          rw [if_pos c4, hT]
          exact ⟨rfl, m, rfl, hF, hX⟩
        · rw [if_neg c4] at hT
          rw [if_neg c4]
          by_cases c5 : ou n (m0 112) (m0 114) x ((j : Int) + 1) = 3
          · rw [if_pos c5] at hT
            rw [if_pos c5, hT]
            exact ⟨rfl, m, rfl, hF, hX⟩
          · rw [if_neg c5] at hT
            rw [if_neg c5, q44]
            simp only [Option.bind_some]
            rw [p44]
            simp only [Option.bind_some]
            generalize la n (m0 112) (m0 114) x ((j : Int) + 1) = u at *
            generalize la n (m0 117) (m0 119) y ((j : Int) + 1) = v at *
            have eg : g_add (g_mul u 10) v = 10 * u + v := by
              unfold g_add g_mul
              rw [w32_i (x := u * 10) (by omega) (by omega), w32_i (by omega) (by omega)]
              omega
            obtain ⟨m', r1, r2, r3⟩ := f6_s L (p := 10 * u + v) (b := (j : Int) + 1) hF hX hW hk (by omega)
            rw [eg, r1, hT]
            exact ⟨rfl, m', rfl, r2, r3⟩
      · rw [if_neg c3] at hT
        rw [if_neg c3, xr_some, hT]
        exact Or.inr ⟨rfl, rfl, rfl⟩
    · rw [p39.2 c2]
      simp only [Option.bind_some, if_true]
      rw [if_neg (nA (fun q => c2 q.2))] at hT
      rw [hT]
      exact Or.inl ⟨rfl, m, rfl, hF, hX⟩
  · rw [q39.2 c1]
    simp only [Option.bind_some, if_true]
    rw [if_neg (nA (fun q => c1 q.1))] at hT
    rw [hT]
    exact Or.inl ⟨rfl, m, rfl, hF, hX⟩
/-- all steps from a pair -/
theorem f5_s (L : Nat) {m0 m : Sg} {n : Int} {S : QS} {k : Nat} {A : Int → Bool} {O1 O2 L1 L2 : Int → Int → Int} (hn : m0 110 0 = n) (hn2 : m0 115 0 = n) (h4 : 4 ≤ n) (h10 : n ≤ 10) (hN : ∀ i, 0 ≤ i → i < n → 0 ≤ m0 114 i ∧ m0 114 i < 1000) (hN2 : ∀ i, 0 ≤ i → i < n → 0 ≤ m0 119 i ∧ m0 119 i < 1000) (hA : (fun d => alB (m0 110 3) d && alB (m0 115 3) d) = A) (hO1 : ou n (m0 112) (m0 114) = O1) (hO2 : ou n (m0 117) (m0 119) = O2) (hL1 : la n (m0 112) (m0 114) = L1) (hL2 : la n (m0 117) (m0 119) = L2) (hF : FrQc m0 m) (hX : QX m S) (hW : WQ n S) (hk : k < S.1) : ∃ m', f5 (GC L) RC 99 (S.2 k).1 m = some ((qj A O1 O2 L1 L2 k S 5).2, m') ∧ FrQc m0 m' ∧ QX m' (qj A O1 O2 L1 L2 k S 5).1 ∧ 0 ≤ (qj A O1 O2 L1 L2 k S 5).2 ∧ (qj A O1 O2 L1 L2 k S 5).2 ≤ 5 := by
  have hL : ∀ s d, (0 ≤ L1 s d ∧ L1 s d < n) ∧ (0 ≤ L2 s d ∧ L2 s d < n) := fun s d => by
    rw [← hL1, ← hL2]; exact ⟨la_b (by omega) s d, la_b (by omega) s d⟩
  have wk := hW.2.2.1 k hk
  unfold f5
  rw [g_div_p wk.1, g_rem_p wk.1, w32_i (x := (S.2 k).1 / 10) (by omega) (by omega)]
  obtain ⟨q, h1, m', h2, h3⟩ := lp_ex (f := f5_b10 (GC L) RC 99 (S.2 k).1 ((S.2 k).1 / 10) ((S.2 k).1 % 10)) (Q := fun q => ∃ m', q = ((qj A O1 O2 L1 L2 k S 5).2, m') ∧ FrQc m0 m' ∧ QX m' (qj A O1 O2 L1 L2 k S 5).1 ∧ 0 ≤ (qj A O1 O2 L1 L2 k S 5).2 ∧ (qj A O1 O2 L1 L2 k S 5).2 ≤ 5) (fun j st => ∃ m', st = ((j : Int) + 1, m') ∧ FrQc m0 m' ∧ QX m' (qj A O1 O2 L1 L2 k S j).1 ∧ (qj A O1 O2 L1 L2 k S j).2 = 0) 5
    (by
      rintro j st hj ⟨m', rfl, i1, i2, i3⟩
      obtain ⟨a1, a2, a3⟩ := qj_o (A := A) (O1 := O1) (O2 := O2) h10 hL hW hk j (by omega)
      have eT : ((qj A O1 O2 L1 L2 k S j).1, (0 : Int)) = qj A O1 O2 L1 L2 k S j := by rw [← i3]
      have key := f5a_s L (j := j) hn hn2 h4 h10 hN hN2 i1 i2 a1 a2 hj (qj A O1 O2 L1 L2 k S (j + 1)) (by rw [hA, hO1, hO2, hL1, hL2, eT]; rfl)
      rw [a3] at key
      rcases key with ⟨t1, m2, t2, t3, t4⟩ | ⟨t1, t2, t3⟩
      · left
        exact ⟨_, t2, m2, by rw [show ((j + 1 : Nat) : Int) + 1 = (j : Int) + 2 by omega], t3, t4, t1⟩
      · right
        have e5 := qj_f (A := A) (O1 := O1) (O2 := O2) (L1 := L1) (L2 := L2) (k := k) (S := S) (j := j + 1) (by rw [t1]; omega) (5 - (j + 1))
        rw [show j + 1 + (5 - (j + 1)) = 5 by omega] at e5
        refine ⟨_, t2, m', by rw [e5], i1, by rw [e5, t3]; exact i2, by rw [e5, t1]; omega, by rw [e5, t1]; omega⟩)
    (by
      rintro st ⟨m', rfl, i1, i2, i3⟩
      refine ⟨_, ?_, m', rfl, i1, i2, by rw [i3]; omega, by rw [i3]; omega⟩
      unfold f5_b10
      simp only
      rw [if_pos (by omega), xr_some, i3])
    FU (by rw [FU_v]; omega) (1, m) ⟨m, rfl, hF, hX, rfl⟩
  exact ⟨m', by rw [h1, h2], h3⟩
/-- how large a row that is told may be -/
theorem rwk_b {n : Int} {S : QS} (hW : WQ n S) : ∀ (d k : Nat) (r : Int) (j : Nat), k < S.1 → 0 ≤ r → r < 10 ^ j → 0 ≤ rwk S d k r ∧ rwk S d k r < 10 ^ (j + d)
  | 0, k, r, j, hk, h1, h2 => ⟨h1, h2⟩
  | d + 1, k, r, j, hk, h1, h2 => by
    have w := hW.2.2.1 k hk
    have e : (10 : Int) ^ (j + 1) = 10 ^ j * 10 := Int.pow_succ _ _
    have := rwk_b hW d (S.2 k).2.2.1 (10 * r + (S.2 k).2.1) (j + 1) w.2.2.2.2.1 (by omega) (by omega)
    rw [rwk_s, show j + (d + 1) = j + 1 + d by omega]
    exact this
theorem f7_s (L : Nat) {m : Sg} {n step : Int} {S : QS} {k : Nat} (hX : QX m S) (hW : WQ n S) (hk : k < S.1) (hs : 0 ≤ step ∧ step ≤ 5) : f7 (GC L) RC 99 (S.2 k).1 step m = some (rv S k step) := by
  have wk := hW.2.2.1 k hk
  have xk := hX.2.1 k hk
  have h100 := WQ_100 hW
  unfold f7
  simp only [KG L, KR, RAx L, Option.bind_some, if_true]
  rw [ra_in wk.1 wk.2.1, xk.2.1]
  unfold g_add rv
  rw [w32_i (by omega) (by omega)]
  by_cases c : 18 < (S.2 k).2.2.2 + 1
  · rw [if_pos c, if_pos (by omega)]
  · rw [if_neg c, if_neg (by omega)]
    have key : ∀ (d : Nat) (i : Nat) (at_ : Nat) (r : Int), i + d = (S.2 k).2.2.2 → at_ < S.1 → (S.2 at_).2.2.2 = d → 0 ≤ r → r < 10 ^ (i + 1) → ∀ F, d < F → lp (f7_b19 (GC L) RC 99 (S.2 k).2.2.2 m) F (r, (S.2 at_).1, (i : Int)) = some (rwk S d at_ r) := by
      intro d
      induction d with
      | zero =>
        intro i at_ r h1 h2 h3 h5 h6 F hF
        obtain ⟨F, rfl⟩ : ∃ x, F = x + 1 := ⟨F - 1, by omega⟩
        refine lp_r ?_
        unfold f7_b19
        simp only
        rw [if_neg (by omega), xr_some]
        rfl
      | succ d ih =>
        intro i at_ r h1 h2 h3 h5 h6 F hF
        obtain ⟨F, rfl⟩ : ∃ x, F = x + 1 := ⟨F - 1, by omega⟩
        have w := hW.2.2.1 at_ h2
        have x := hX.2.1 at_ h2
        have nz : ¬ at_ = 0 := fun q => by
          rw [q, hW.2.1] at h3
          simp at h3
        obtain ⟨u1, u2⟩ := w.2.2.2.2.2.2.2.2 nz
        have e : (10 : Int) ^ (i + 1 + 1) = 10 ^ (i + 1) * 10 := Int.pow_succ _ _
        have pw : (10 : Int) ^ (i + 1) ≤ 100000000000000000 := by
          have : ∀ z : Fin 18, (10 : Int) ^ z.val ≤ 100000000000000000 := by decide +kernel
          exact this ⟨i + 1, by omega⟩
        rw [lp_i (s' := (10 * r + (S.2 at_).2.1, (S.2 (S.2 at_).2.2.1).1, ((i + 1 : Nat) : Int)))]
        · rw [rwk_s]
          exact ih (i + 1) _ _ (by omega) w.2.2.2.2.1 (by omega) (by omega) (by omega) F (by omega)
        · unfold f7_b19
          simp only [KG L, KR, RAx L, Option.bind_some, if_true]
          rw [if_pos (by omega), ra_in w.1 w.2.1, ra_in w.1 w.2.1, x.2.2.1, x.2.2.2, w32_i (by omega) (by omega)]
          unfold k_add k_mul
          have m1 : w64 (10 * r) = 10 * r := by unfold w64; omega
          rw [m1]
          have m2 : w64 (10 * r + (S.2 at_).2.1) = 10 * r + (S.2 at_).2.1 := by unfold w64; omega
          rw [m2]
          rfl
    exact key _ 0 k step (by omega) hk rfl hs.1 (by omega) FU (by rw [FU_v]; omega)
theorem f4_s (L : Nat) {m0 : Sg} {n : Int} (hn : m0 110 0 = n) (hn2 : m0 115 0 = n) (h4 : 4 ≤ n) (h10 : n ≤ 10) (hN : ∀ i, 0 ≤ i → i < n → 0 ≤ m0 114 i ∧ m0 114 i < 1000) (hN2 : ∀ i, 0 ≤ i → i < n → 0 ≤ m0 119 i ∧ m0 119 i < 1000) : ∃ m', f4 (GC L) RC 99 m0 = some (qan (fun d => alB (m0 110 3) d && alB (m0 115 3) d) (ou n (m0 112) (m0 114)) (ou n (m0 117) (m0 119)) (la n (m0 112) (m0 114)) (la n (m0 117) (m0 119)), m') ∧ FrQc m0 m' := by
  generalize hA : (fun d => alB (m0 110 3) d && alB (m0 115 3) d) = A
  generalize hO1 : ou n (m0 112) (m0 114) = O1
  generalize hO2 : ou n (m0 117) (m0 119) = O2
  generalize hL1 : la n (m0 112) (m0 114) = L1
  generalize hL2 : la n (m0 117) (m0 119) = L2
  have hL : ∀ s d, (0 ≤ L1 s d ∧ L1 s d < n) ∧ (0 ≤ L2 s d ∧ L2 s d < n) := fun s d => by
    rw [← hL1, ← hL2]; exact ⟨la_b (by omega) s d, la_b (by omega) s d⟩
  unfold f4
  simp only [KG L, KR, RFx L, Option.bind_some, if_true]
  have start : ∃ m1, f6 (GC L) RC 99 0 0 0 (put (fil 100 103 m0 0) 99 7 0) = some m1 ∧ FrQc m0 (put m1 105 0 0) ∧ QX (put m1 105 0 0) (1, fun _ => (0, 0, 0, 0)) := by
    have e103 : ∀ p : Int, 0 ≤ p → p < 100 → put (fil 100 103 m0 0) 99 7 0 103 p = 0 := fun p p1 p2 => by
      rw [put_ne (by decide)]; unfold fil; rw [if_pos ⟨rfl, p1, p2⟩]
    have F0 : FrQc m0 (put (fil 100 103 m0 0) 99 7 0) := FrQc_p (fun x i c1 c2 c3 c4 c5 c6 => by unfold fil; rw [if_neg (fun q => c2 q.1)]) (by omega)
    have e7 : put (fil 100 103 m0 0) 99 7 0 99 7 = 0 := put_eq _ _ _ _
    generalize put (fil 100 103 m0 0) 99 7 0 = m1 at *
    unfold f6
    simp only [KG L, KR, RAx L, RPx L, Option.bind_some, if_true]
    rw [ra_in (n := 100) (F := m1 103) (p := 0) (by omega) (by omega), e103 0 (by omega) (by omega), if_pos rfl]
    simp only [rp_in (n := 100) (p := 0) (by omega : (0 : Int) ≤ 0) (by omega : (0 : Int) < 100)]
    generalize g_add (ra 100 (put m1 103 0 1 105) 0) 1 = w
    have f7 : put (put (put (put m1 103 0 1) 105 0 w) 107 0 0) 109 0 0 99 7 = 0 := by
      rw [put_ne (by decide), put_ne (by decide), put_ne (by decide), put_ne (by decide)]; exact e7
    rw [f7]
    simp only [rp_in (n := 100) (p := 0) (by omega : (0 : Int) ≤ 0) (by omega : (0 : Int) < 100)]
    rw [put_ne (m := put (put (put (put m1 103 0 1) 105 0 w) 107 0 0) 109 0 0) (by decide), f7]
    refine ⟨_, rfl, FrQc_p (FrQc_p (FrQc_p (FrQc_p (FrQc_p (FrQc_p (FrQc_p F0 (by omega)) (by omega)) (by omega)) (by omega)) (by omega)) (by omega)) (by omega), ?_, fun i hi => ?_, fun p p1 p2 => ?_⟩
    · rw [put_ne (by decide), put_eq]; rfl
    · have : i = 0 := by have h : i < 1 := hi; omega
      subst this
      refine ⟨?_, ?_, ?_, ?_⟩
      · rw [put_ne (by decide), put_ne (by decide)]; exact put_eq _ _ _ _
      · exact put_eq _ _ _ _
      · show _ = (0 : Int)
        rw [put_ne (by decide), put_ne (by decide), put_ne (by decide), put_ne (by decide)]; exact put_eq _ _ _ _
      · rw [put_ne (by decide), put_ne (by decide), put_ne (by decide)]; exact put_eq _ _ _ _
    · have mz : mq (1, fun _ => (0, 0, 0, 0)) p = true ↔ p = 0 := by
        rw [mq_t]
        constructor
        · rintro ⟨i, _, q⟩; exact q.symm
        · intro q; exact ⟨0, by show 0 < 1; omega, q.symm⟩
      rw [put_ne (by decide), put_ne (by decide), put_ne (by decide), put_ne (by decide), put_ne (by decide), put_ne (by decide)]
      by_cases e : p = 0
      · rw [e, put_eq]; exact ⟨fun _ => rfl, fun q => absurd (mz.mpr e) (by rw [e]; exact q)⟩
      · rw [put_nj e]; exact ⟨fun q => absurd (mz.mp q) e, fun _ => e103 p p1 p2⟩
  obtain ⟨m1, s1, s2, s3⟩ := start
  rw [s1]
  simp only [Option.bind_some, RPx L]
  rw [rp_in (by omega) (by omega)]
  obtain ⟨q, h1, m', h2, h3⟩ := lp_ex (f := f4_b19 (GC L) RC 99) (Q := fun q => ∃ m', q = (qan A O1 O2 L1 L2, m') ∧ FrQc m0 m') (fun k st => ∃ m', st = ((k : Int), m') ∧ FrQc m0 m' ∧ QX m' (qo A O1 O2 L1 L2 k).1 ∧ (qo A O1 O2 L1 L2 k).2 = none) 100
    (by
      rintro k st hk ⟨m', rfl, i1, i2, i3⟩
      have hW := qo_W (A := A) (O1 := O1) (O2 := O2) (L1 := L1) (L2 := L2) (n := n) (by omega) h10 hL k
      unfold f4_b19
      simp only [KG L, KR, RAx L, Option.bind_some, if_true]
      rw [i2.1]
      by_cases c : k < (qo A O1 O2 L1 L2 k).1.1
      · rw [if_pos (by omega), if_pos (by omega), ra_in (by omega) (by omega), (i2.2.1 k c).1]
        obtain ⟨m2, r1, r2, r3, r4, r5⟩ := f5_s L hn hn2 h4 h10 hN hN2 hA hO1 hO2 hL1 hL2 i1 i2 hW c
        rw [r1]
        simp only [Option.bind_some]
        have en := qo_n i3 c
        by_cases z : (qj A O1 O2 L1 L2 k (qo A O1 O2 L1 L2 k).1 5).2 = 0
        · left
          rw [if_pos z, w32_i (by omega) (by omega)]
          rw [if_pos z] at en
          exact ⟨_, rfl, m2, rfl, r2, by rw [en]; exact r3, by rw [en]⟩
        · right
          obtain ⟨o1, o2, o3⟩ := qj_o (A := A) (O1 := O1) (O2 := O2) h10 hL hW c 5 (Nat.le_refl _)
          rw [if_neg z, ← o3, f7_s L r3 o1 o2 ⟨r4, r5⟩]
          simp only [Option.bind_some]
          rw [xr_some]
          exact ⟨_, rfl, m2, by rw [qan_f hk i3 c z], r2⟩
      · right
        rw [if_neg (by omega), xr_some]
        exact ⟨_, rfl, m', by rw [qan_n (by omega) i3 c], i1⟩)
    (by
      rintro st ⟨m', rfl, i1, i2, i3⟩
      have hW := qo_W (A := A) (O1 := O1) (O2 := O2) (L1 := L1) (L2 := L2) (n := n) (by omega) h10 hL 100
      have h100 := WQ_100 hW
      refine ⟨_, ?_, m', by rw [qan_n (by omega) i3 (by omega)], i1⟩
      unfold f4_b19
      simp only [KG L, if_true]
      rw [i2.1, if_neg (by omega), xr_some])
    FU (by rw [FU_v]; omega) (0, put m1 105 0 0) ⟨_, rfl, s2, s3, rfl⟩
  exact ⟨m', by rw [h1, h2], h3⟩
