/-! CASE 20: a text taken from the tape -/
section TEXT
variable {n : Int} {m : Sg}
theorem tbt_g {m' : Sg} {t : Int} (h : m 136 t ≤ 160) (e : ∀ i, 0 ≤ i → i < 160 → m' 135 (160 * t + i) = m 135 (160 * t + i)) (e2 : m' 136 t = m 136 t) : tbt m' t = tbt m t := by
  unfold tbt
  rw [e2]
  refine funext fun i => ?_
  by_cases c : 0 ≤ i ∧ i < m 136 t
  · rw [if_pos c, if_pos c, e i c.1 (by omega)]
  · rw [if_neg c, if_neg c]
/-- the tape copied by the model -/
theorem f202_s (L : Nat) {X sz : Int} (hX : m 120 26 = X) (hX2 : 0 ≤ X ∧ X < 6) (hz : m 120 29 = sz) (h0 : 0 ≤ sz) (h1 : sz ≤ 160) : ∃ m1, lp (f202_b8 (GC L) RC 120) FU (0, m) = f202_36 (GC L) RC 120 0 120 (put m1 136 X sz) ∧ (∀ i, 0 ≤ i → i < sz → m1 135 (160 * X + i) = m 137 i) ∧ ∀ x i, ¬ (x = 135 ∧ 160 * X ≤ i ∧ i < 160 * X + 160) → m1 x i = m x i := by
  have key : ∀ (d : Nat) (k : Nat) (m1 : Sg), (k : Int) + d = sz → (∀ i, 0 ≤ i → i < (k : Int) → m1 135 (160 * X + i) = m 137 i) → (∀ x i, ¬ (x = 135 ∧ 160 * X ≤ i ∧ i < 160 * X + 160) → m1 x i = m x i) → ∀ F, d < F → ∃ m2, lp (f202_b8 (GC L) RC 120) F ((k : Int), m1) = f202_36 (GC L) RC 120 0 120 (put m2 136 X sz) ∧ (∀ i, 0 ≤ i → i < sz → m2 135 (160 * X + i) = m 137 i) ∧ ∀ x i, ¬ (x = 135 ∧ 160 * X ≤ i ∧ i < 160 * X + 160) → m2 x i = m x i := by
    intro d
    induction d with
    | zero =>
      intro k m1 hk i1 i2 F hF
      obtain ⟨F, rfl⟩ : ∃ x, F = x + 1 := ⟨F - 1, by omega⟩
      refine ⟨m1, ?_, fun i a1 a2 => i1 i a1 (by omega), i2⟩
      have st : f202_b8 (GC L) RC 120 ((k : Int), m1) = xr (f202_36 (GC L) RC 120 0 120 (put m1 136 X sz)) := by
        unfold f202_b8
        simp only [KG L, KR, KL L, if_true]
        rw [i2 120 29 (by omega), hz, if_neg (by omega), i2 120 26 (by omega), hX, if_pos hX2]
      unfold lp
      rw [st]
      cases f202_36 (GC L) RC 120 0 120 (put m1 136 X sz) with
      | none => rfl
      | some r => rfl
    | succ d ih =>
      intro k m1 hk i1 i2 F hF
      obtain ⟨F, rfl⟩ : ∃ x, F = x + 1 := ⟨F - 1, by omega⟩
      have ei : g_add (g_mul 160 X) (k : Int) = 160 * X + k := by
        unfold g_add g_mul
        rw [w32_i (x := 160 * X) (by omega) (by omega), w32_i (by omega) (by omega)]
      have st : f202_b8 (GC L) RC 120 ((k : Int), m1) = some (Sum.inl (((k + 1 : Nat) : Int), put m1 135 (160 * X + k) (m 137 k))) := by
        unfold f202_b8
        simp only [KG L, KR, KL L, if_true]
        rw [i2 120 29 (by omega), hz, if_pos (by omega), if_pos (by omega), i2 120 26 (by omega), hX, ei, if_pos (by omega), i2 137 k (by omega), w32_i (by omega) (by omega)]
        rfl
      rw [lp_i st]
      refine ih (k + 1) _ (by omega) (fun i a1 a2 => ?_) (fun x i c => ?_) F (by omega)
      · by_cases e : i = k
        · rw [e, put_eq]
        · rw [put_nj (by omega)]; exact i1 i a1 (by omega)
      · rw [show put m1 135 (160 * X + (k : Int)) (m 137 k) x i = m1 x i from by unfold put; rw [if_neg (by omega)]]
        exact i2 x i c
  have := key sz.toNat 0 m (by omega) (fun i a1 a2 => absurd a2 (by show ¬ i < 0; omega)) (fun _ _ _ => rfl) FU (by rw [FU_v]; omega)
  exact this
theorem k20 (L : Nat) (h : Rel n m) : ∃ w m1 m2, f116 (GC L) RC 1 m = some (w, m1) ∧ m1 0 = m 0 ∧ f202 (GC L) RC 120 m1 = some (w, m2) ∧ m2 0 = m 0 ∧ Rel n m2 := by
  obtain ⟨t1, t2, t3, t4⟩ := h.2.2.2.2.1
  obtain ⟨x1, x2, x3, x4, x5⟩ := h.2.2.2.2.2.1
  by_cases c6 : m 25 5 < 6
  · generalize hX : m 25 5 = X at *
    generalize hz : m 14 1 = sz at *
    generalize hb : (fun i => if 0 ≤ i ∧ i < sz then m 16 i else 0) = b
    have bv : ∀ i, 0 ≤ i → i < sz → b i = m 16 i := fun i a1 a2 => by rw [← hb]; exact if_pos ⟨a1, a2⟩
    have bn : ∀ i, ¬ (0 ≤ i ∧ i < sz) → b i = 0 := fun i c => by rw [← hb]; exact if_neg c
    have hTP : TP b sz m := ⟨hz, t2, t3, fun i a1 a2 => by rw [bv i a1 a2]; exact ⟨rfl, (t4 i a1 a2).2⟩⟩
    obtain ⟨v, m1, r1, r2, r3, r4⟩ := f12_s L hTP
    -- the model's part, over any memory that the class leaves
    have mod : ∀ mc : Sg, (∀ x i, ¬ scr x i → ¬ (x = 14 ∧ i = 1) → ¬ (x = 27 ∧ 160 * X ≤ i ∧ i < 160 * X + 160) → ¬ ((x = 29 ∨ x = 31) ∧ i = X) → ¬ (x = 25 ∧ i = 5) → mc x i = m x i) → ∃ w m3, f202 (GC L) RC 120 mc = some (w, m3) ∧ ((prd (TK b sz) (NV b sz)).1 = true → w = X ∧ m3 120 26 = X + 1) ∧ (¬ (prd (TK b sz) (NV b sz)).1 = true → w = g_sub (-100) (SP b sz (prd (TK b sz) (NV b sz)).2.1) ∧ m3 120 26 = X) ∧ ((prd (TK b sz) (NV b sz)).1 = true → (ppt (TK b sz) (NV b sz) 3 0 []).2.2.length ≤ (prd (TK b sz) (NV b sz)).2.2.length) ∧ m3 120 29 = 0 ∧ m3 136 X = sz ∧ (∀ i, 0 ≤ i → i < sz → m3 135 (160 * X + i) = b i) ∧ ∀ x i, ¬ (x = 135 ∧ 160 * X ≤ i ∧ i < 160 * X + 160) → ¬ (x = 136 ∧ i = X) → ¬ (x = 120 ∧ (i = 26 ∨ i = 29 ∨ (30 ≤ i ∧ i ≤ 38))) → m3 x i = mc x i := by
      intro mc hmc
      have e26 : mc 120 26 = X := by rw [hmc 120 26 (by unfold scr; omega) (by omega) (by omega) (by omega) (by omega)]; exact x1
      have e29 : mc 120 29 = sz := by rw [hmc 120 29 (by unfold scr; omega) (by omega) (by omega) (by omega) (by omega)]; exact t1
      obtain ⟨m4, s1, s2, s3⟩ := f202_s L (m := mc) e26 ⟨by omega, c6⟩ e29 t2 t3
      have q26 : put (put m4 136 X sz) 120 29 0 120 26 = X := by rw [put_nj (by decide), put_ne (by decide), s3 120 26 (by omega)]; exact e26
      have q136 : put (put m4 136 X sz) 120 29 0 136 X = sz := by rw [put_ne (by decide), put_eq]
      have q135 : ∀ i, 0 ≤ i → i < sz → put (put m4 136 X sz) 120 29 0 135 (160 * X + i) = b i := fun i a1 a2 => by
        rw [put_ne (by decide), put_ne (by decide), s2 i a1 a2, hmc 137 i (by unfold scr; omega) (by omega) (by omega) (by omega) (by omega), (t4 i a1 a2).1, bv i a1 a2]
      have q29 : put (put m4 136 X sz) 120 29 0 120 29 = 0 := put_eq _ _ _ _
      have fr : ∀ x i, ¬ (x = 135 ∧ 160 * X ≤ i ∧ i < 160 * X + 160) → ¬ (x = 136 ∧ i = X) → ¬ (x = 120 ∧ i = 29) → put (put m4 136 X sz) 120 29 0 x i = mc x i := fun x i d1 d2 d3 => by
        rw [show put (put m4 136 X sz) 120 29 0 x i = m4 x i from by unfold put; rw [if_neg (by omega), if_neg (by omega)]]
        exact s3 x i d1
      generalize hm5 : put (put m4 136 X sz) 120 29 0 = m5 at *
      obtain ⟨vv, m6, u1, u2, u3, u4⟩ := f201_s L (m0 := m5) (x := X) (which := 0) (sz := sz) (b := b) ⟨by omega, c6⟩ q136 t2 t3 (fun i a1 a2 => ⟨q135 i a1 a2, by rw [bv i a1 a2]; exact (t4 i a1 a2).2⟩)
      have e0 : f202 (GC L) RC 120 mc = Option.bind (f201 (GC L) RC 120 X 0 m5) fun q13 => if (q13.2 120 37) = 0 then (some ((g_sub ((put q13.2 120 26 (g_add (q13.2 120 26) 1)) 120 26) 1), (put q13.2 120 26 (g_add (q13.2 120 26) 1)))) else (some ((g_sub (-100) (q13.2 120 38)), q13.2)) := by
        unfold f202
        rw [if_pos (show gkb (GC L) 120 15 = true from rfl), e26, if_neg (by omega), s1]
        unfold f202_36
        simp only [KG L, if_true]
        rw [hm5, q26]
      have y26 : m6 120 26 = X := by rw [u2 120 26 (by omega)]; exact q26
      rw [e0, bnd u1]
      by_cases ok : (prd (TK b sz) (NV b sz)).1 = true
      · obtain ⟨z1, z2, z3⟩ := u3 ok
        refine ⟨X, put m6 120 26 (X + 1), ?_, fun _ => ⟨rfl, put_eq _ _ _ _⟩, fun q => absurd ok q, fun _ => z3, ?_, ?_, fun i a1 a2 => ?_, fun x i d1 d2 d3 => ?_⟩
        · simp only
          rw [if_pos z1, y26]
          unfold g_add g_sub
          rw [w32_i (x := X + 1) (by omega) (by omega), put_eq, w32_i (by omega) (by omega), show X + 1 - 1 = X by omega]
        · rw [put_nj (by decide), u2 120 29 (by omega)]; exact q29
        · rw [put_ne (by decide), u2 136 X (by omega)]; exact q136
        · rw [put_ne (by decide), u2 135 _ (by omega)]; exact q135 i a1 a2
        · rw [show put m6 120 26 (X + 1) x i = m6 x i from by unfold put; rw [if_neg (by omega)], u2 x i (by omega)]
          exact fr x i d1 d2 (by omega)
      · obtain ⟨z1, z2⟩ := u4 ok
        refine ⟨g_sub (-100) (SP b sz (prd (TK b sz) (NV b sz)).2.1), m6, ?_, fun q => absurd q ok, fun _ => ⟨rfl, y26⟩, fun q => absurd q ok, ?_, ?_, fun i a1 a2 => ?_, fun x i d1 d2 d3 => ?_⟩
        · simp only
          rw [if_neg (by omega), z2]
        · rw [u2 120 29 (by omega)]; exact q29
        · rw [u2 136 X (by omega)]; exact q136
        · rw [u2 135 _ (by omega)]; exact q135 i a1 a2
        · rw [u2 x i (by omega)]
          exact fr x i d1 d2 (by omega)
    -- what holds of the tape and the older texts at the end
    have rest : ∀ (mc m3 : Sg), (∀ x i, ¬ scr x i → ¬ (x = 14 ∧ i = 1) → ¬ (x = 27 ∧ 160 * X ≤ i ∧ i < 160 * X + 160) → ¬ ((x = 29 ∨ x = 31) ∧ i = X) → ¬ (x = 25 ∧ i = 5) → mc x i = m x i) → (∀ x i, ¬ (x = 135 ∧ 160 * X ≤ i ∧ i < 160 * X + 160) → ¬ (x = 136 ∧ i = X) → ¬ (x = 120 ∧ (i = 26 ∨ i = 29 ∨ (30 ≤ i ∧ i ≤ 38))) → m3 x i = mc x i) → (∀ x i, ¬ scr x i → ¬ sR x i → ¬ sX x i → m3 x i = m x i) ∧ (∀ t, 0 ≤ t → t < X → R_x1 m3 t) ∧ (m3 120 27 = m 120 27 ∧ m3 1 14 = m 1 14) := by
      intro mc m3 e1 e2
      have E : ∀ x i, ¬ scr x i → ¬ (x = 14 ∧ i = 1) → ¬ (x = 27 ∧ 160 * X ≤ i ∧ i < 160 * X + 160) → ¬ ((x = 29 ∨ x = 31) ∧ i = X) → ¬ (x = 25 ∧ i = 5) → ¬ (x = 135 ∧ 160 * X ≤ i ∧ i < 160 * X + 160) → ¬ (x = 136 ∧ i = X) → ¬ (x = 120 ∧ (i = 26 ∨ i = 29)) → m3 x i = m x i := fun x i d1 d2 d3 d4 d5 d6 d7 d8 => by
        have d9 : ¬ (x = 120 ∧ 30 ≤ i ∧ i ≤ 38) := fun q => d1 (sc_z120 (by omega))
        rw [e2 x i d6 d7 (by omega)]
        exact e1 x i d1 d2 d3 d4 d5
      refine ⟨fun x i d1 d2 d3 => E x i d1 (by unfold sR at d2; omega) (by unfold sX at d3; omega) (by unfold sX at d3; omega) (by unfold sX at d3; omega) (by unfold sX at d3; omega) (by unfold sX at d3; omega) (by unfold sX at d3; unfold sR at d2; omega), fun t a1 a2 => ?_, E 120 27 (by unfold scr; omega) (by omega) (by omega) (by omega) (by omega) (by omega) (by omega) (by omega), E 1 14 (by unfold scr; omega) (by omega) (by omega) (by omega) (by omega) (by omega) (by omega) (by omega)⟩
      have g := x5 t a1 a2
      have f135 : ∀ i, 0 ≤ i → i < 160 → m3 135 (160 * t + i) = m 135 (160 * t + i) := fun i i1 i2 => E 135 _ (by unfold scr; omega) (by omega) (by omega) (by omega) (by omega) (by omega) (by omega) (by omega)
      have f136 : m3 136 t = m 136 t := E 136 _ (by unfold scr; omega) (by omega) (by omega) (by omega) (by omega) (by omega) (by omega) (by omega)
      exact R_x1_g g (tbt_g g.1.2 f135 f136) f135 f136 (fun i i1 i2 => E 27 _ (by unfold scr; omega) (by omega) (by omega) (by omega) (by omega) (by omega) (by omega) (by omega)) (E 29 _ (by unfold scr; omega) (by omega) (by omega) (by omega) (by omega) (by omega) (by omega) (by omega)) (E 31 _ (by unfold scr; omega) (by omega) (by omega) (by omega) (by omega) (by omega) (by omega) (by omega))
    have D1 : ∀ x i, ¬ scr x i → ¬ (x = 14 ∧ i = 1) → put m1 14 1 0 x i = m x i := fun x i d1 d2 => by
      rw [show put m1 14 1 0 x i = m1 x i from by unfold put; rw [if_neg d2]]
      exact r2 x i (fun q => d1 (sc_z18 q)) (fun q => d1 (sc_z20 q)) (fun q => d1 (sc_z22 q)) (fun q => d1 (sc_z24 q)) (fun q => d1 (sc_z14 (by omega)))
    by_cases ok : (prd (TK b sz) (NV b sz)).1 = true
    · obtain ⟨v1, v2, v3, v4, v5⟩ := r3 ok
      obtain ⟨m2, k1, k2, k3, k4⟩ := f81_s L (m0 := put m1 14 1 0) (t := X) (cd := (prd (TK b sz) (NV b sz)).2.2) (tl := (ppt (TK b sz) (NV b sz) 3 0 []).2.2.length) (by rw [D1 25 5 (by unfold scr; omega) (by omega)]; exact hX) ⟨by omega, c6⟩ (by rw [put_nj (by decide)]; exact v2) (by rw [put_nj (by decide)]; exact v3) v5 (fun i hi => by rw [put_ne (by decide)]; exact v4 i hi)
      have D2 : ∀ x i, ¬ scr x i → ¬ (x = 14 ∧ i = 1) → ¬ (x = 27 ∧ 160 * X ≤ i ∧ i < 160 * X + 160) → ¬ ((x = 29 ∨ x = 31) ∧ i = X) → ¬ (x = 25 ∧ i = 5) → m2 x i = m x i := fun x i d1 d2 d3 d4 d5 => (k2 x i d3 d4 d5).trans (D1 x i d1 d2)
      obtain ⟨w, m3, w1, w2, w3, w4, w5, w6, w7, w8⟩ := mod m2 D2
      obtain ⟨z1, z2, z3⟩ := rest m2 m3 D2 w8
      obtain ⟨ww, w26⟩ := w2 ok
      have e25 : m3 25 5 = X + 1 := by rw [w8 25 5 (by omega) (by omega) (by omega)]; exact k3
      have e14 : m3 14 1 = 0 := by rw [w8 14 1 (by omega) (by omega) (by omega), k2 14 1 (by omega) (by omega) (by omega)]; exact put_eq _ _ _ _
      have etb : tbt m3 X = b := by
        unfold tbt
        rw [w6]
        refine funext fun i => ?_
        by_cases c : 0 ≤ i ∧ i < sz
        · rw [if_pos c]; exact w7 i c.1 c.2
        · rw [if_neg c, bn i c]
      obtain ⟨l1, l2⟩ := Rel_RX (m' := m3) h ⟨by rw [w5, e14], by rw [e14]; omega, by rw [e14]; omega, fun i a1 a2 => by rw [e14] at a2; omega⟩ ⟨by rw [w26, e25], by rw [e25]; omega, by rw [e25]; omega, by rw [z3.1, z3.2, e25]; exact ⟨x4.1, x4.2.1, by omega⟩, fun t a1 a2 => by
        rw [e25] at a2
        by_cases e : t = X
        · subst e
          unfold R_x1 tpr ttl
          rw [etb, w6]
          refine ⟨⟨t2, t3⟩, fun i i1 i2 => by rw [w7 i i1 i2, bv i i1 i2]; exact (t4 i i1 i2).2, ok, v5, ?_, ?_, fun i hi => ?_⟩
          · rw [w8 29 _ (by omega) (by omega) (by omega)]; exact k4.1
          · rw [w8 31 _ (by omega) (by omega) (by omega)]; exact k4.2.1
          · rw [w8 27 _ (by omega) (by omega) (by omega)]; exact k4.2.2 i hi
        · exact z2 t a1 (by omega)⟩ z1
      refine ⟨X, m2, m3, ?_, funext fun i => D2 0 i (by unfold scr; omega) (by omega) (by omega) (by omega) (by omega), by rw [w1, ww], l1, l2⟩
      unfold f116
      simp only [KG L, KR, if_true]
      rw [hX, if_pos c6, bnd r1]
      unfold f11
      simp only [KG L, if_true, Option.bind_some]
      rw [if_pos v1, bnd k1]
    · obtain ⟨v1, v2, v3⟩ := r4 ok
      have D2 : ∀ x i, ¬ scr x i → ¬ (x = 14 ∧ i = 1) → ¬ (x = 27 ∧ 160 * X ≤ i ∧ i < 160 * X + 160) → ¬ ((x = 29 ∨ x = 31) ∧ i = X) → ¬ (x = 25 ∧ i = 5) → put m1 14 1 0 x i = m x i := fun x i d1 d2 _ _ _ => D1 x i d1 d2
      obtain ⟨w, m3, w1, w2, w3, w4, w5, w6, w7, w8⟩ := mod _ D2
      obtain ⟨z1, z2, z3⟩ := rest _ m3 D2 w8
      obtain ⟨ww, w26⟩ := w3 ok
      have e25 : m3 25 5 = X := by rw [w8 25 5 (by omega) (by omega) (by omega), D1 25 5 (by unfold scr; omega) (by omega)]; exact hX
      have e14 : m3 14 1 = 0 := by rw [w8 14 1 (by omega) (by omega) (by omega)]; exact put_eq _ _ _ _
      obtain ⟨l1, l2⟩ := Rel_RX (m' := m3) h ⟨by rw [w5, e14], by rw [e14]; omega, by rw [e14]; omega, fun i a1 a2 => by rw [e14] at a2; omega⟩ ⟨by rw [w26, e25], by rw [e25]; omega, by rw [e25]; omega, by rw [z3.1, z3.2, e25]; exact x4, fun t a1 a2 => by
        rw [e25] at a2
        exact z2 t a1 a2⟩ z1
      refine ⟨g_sub (-100) v, put m1 14 1 0, m3, ?_, funext fun i => D1 0 i (by unfold scr; omega) (by omega), by rw [w1, ww, v1], l1, l2⟩
      unfold f116
      simp only [KG L, KR, if_true]
      rw [hX, if_pos c6, bnd r1]
      unfold f11
      simp only [KG L, if_true, Option.bind_some]
      rw [if_neg (by omega)]
  · refine ⟨-4, m, m, ?_, rfl, ?_, rfl, h⟩
    · unfold f116
      simp only [KG L, KR, if_true]
      rw [if_neg c6]
    · unfold f202
      rw [if_pos (show gkb (GC L) 120 15 = true from rfl), if_pos (by omega)]
end TEXT
