/-! CASES 10, 11: tellings made, gaps -/
section CASES
variable {n : Int} {m m' : Sg}
theorem pz_c {g i : Int} {F F' : Int → Int} (h : F i = F' i) : pz g F i = pz g F' i := by unfold pz; rw [h]
theorem WT_g {t : Int} (h0 : 0 < n) (e : ∀ i, 0 ≤ i → i < n → KX m' t i = KX m t i ∧ NX m' t i = NX m t i) (e1 : m' 90 t = m 90 t) (e2 : m' 88 t = m 88 t) : WT n m' t = WT n m t := by
  unfold WT
  rw [e1, e2]
  exact TT_cg h0 (fun i a1 a2 => ⟨pz_c (e i a1 a2).1, pz_c (e i a1 a2).2⟩) 10
theorem R_t1_g {t : Int} (h0 : 0 < n) (h : R_t1 n m t) (e84 : ∀ i, 0 ≤ i → i < n → m' 84 (10 * t + i) = m 84 (10 * t + i) ∧ m' 86 (10 * t + i) = m 86 (10 * t + i) ∧ m' 121 (10 * t + i) = m 121 (10 * t + i) ∧ m' 122 (10 * t + i) = m 122 (10 * t + i)) (e88 : m' 88 t = m 88 t) (e90 : m' 90 t = m 90 t) (e92 : m' 92 t = m 92 t) (e94 : m' 94 t = m 94 t) (e96 : ∀ j, 1 ≤ j → j ≤ 3 → m' 96 (6 * t + j) = m 96 (6 * t + j)) (e123 : m' 123 t = m 123 t) (e128 : m' 128 t = m 128 t) (e129 : m' 129 t = m 129 t) (e130 : m' 130 t = m 130 t) : R_t1 n m' t := by
  obtain ⟨r1, r2⟩ := h
  refine ⟨fun i a1 a2 => ?_, ?_⟩
  · obtain ⟨q1, q2, q3, q4⟩ := e84 i a1 a2
    rw [q1, q2, q3, q4]; exact r1 i a1 a2
  · rw [WT_g h0 (fun i a1 a2 => ⟨(e84 i a1 a2).1, (e84 i a1 a2).2.1⟩) e90 e88, e88, e90, e92, e94, e96 1 (by omega) (by omega), e96 2 (by omega) (by omega), e96 3 (by omega) (by omega), e123, e128, e129, e130]
    exact r2
theorem wgh_s (L : Nat) {t : Int} (h82 : m 82 0 = n) (h59 : m 59 0 = n) (h4 : 4 ≤ n) (h10 : n ≤ 10) (ht : 0 ≤ t ∧ t < 12) (hA : ∃ d, alw (m 88 t) d) (hN : ∀ i, 0 ≤ i → i < n → 0 ≤ m 86 (10 * t + i) ∧ m 86 (10 * t + i) ≤ 9) : ∃ m', f139 (GC L) RC 1 t m = some m' ∧ (m' 96 (6 * t + 1) = ch n 0 (WT n m t) ∧ m' 96 (6 * t + 2) = ch n 1 (WT n m t) ∧ m' 96 (6 * t + 3) = ch n 2 (WT n m t)) ∧ ∀ x i, ¬ scr x i → ¬ (x = 96 ∧ 6 * t + 1 ≤ i ∧ i ≤ 6 * t + 3) → m' x i = m x i := by
  obtain ⟨m1, r1, r2, r3, r4⟩ := f70_59 L h82 h4 h10 ht
  have e59 : m1 59 0 = n := by rw [r4 59 0 (by decide) (by decide) (by omega)]; exact h59
  obtain ⟨m2, s1, s2, s3⟩ := judge_2_59 L e59 h4 h10 (fun i a1 a2 => by
    rw [(r2 i a1 a2).2]
    have := hN i a1 a2
    by_cases c : gp (m 90 t) i
    · rw [pz_g c]; omega
    · rw [pz_n c]
      show 0 ≤ m 86 (10 * t + i) ∧ m 86 (10 * t + i) < 1000
      omega) (by rw [r3]; exact hA)
  have eW : TT n (m1 61) (m1 63) (m1 59 3) 10 = WT n m t := by
    rw [r3]
    exact TT_cg (by omega) (fun i a1 a2 => r2 i a1 a2) 10
  rw [eW] at s3
  have bd : ∀ i, 0 ≤ i → i < n → -100 ≤ m2 4 i ∧ m2 4 i ≤ 100 := fun i a1 a2 => by
    have := TT_b (n := n) (K := pz (m 90 t) (KX m t)) (N := pz (m 90 t) (NX m t)) (a := m 88 t) 10 i
    rw [s3 i a1 a2]
    unfold WT
    omega
  have ec : ∀ w, ch n w (m2 4) = ch n w (WT n m t) := fun w => ch_c (fun i a1 a2 => s3 i a1 a2)
  have ei : ∀ j, 1 ≤ j → j ≤ 3 → g_add (g_mul t 6) j = 6 * t + j := fun j j1 j2 => by
    unfold g_add g_mul
    rw [w32_i (x := t * 6) (by omega) (by omega), w32_i (by omega) (by omega)]
    omega
  have f89 : ∀ (mm : Sg) (w : Int), 0 ≤ w ∧ w ≤ 2 → mm 2 3 = n → mm 4 = m2 4 → f89 (GC L) RC 2 w mm = some (ch n w (WT n m t)) := fun mm w hw z1 z2 => by
    rw [f89_s L h4 h10 z1 hw (by rw [z2]; exact bd), z2, ec]
  have a0 := f89 m2 0 (by omega) s2.2.1 rfl
  have a1 := f89 (put m2 96 (6 * t + 1) (ch n 0 (WT n m t))) 1 (by omega) (by rw [put_ne (by decide)]; exact s2.2.1) (put_f (by decide))
  have a2 := f89 (put (put m2 96 (6 * t + 1) (ch n 0 (WT n m t))) 96 (6 * t + 2) (ch n 1 (WT n m t))) 2 (by omega) (by rw [put_ne (by decide), put_ne (by decide)]; exact s2.2.1) (by rw [put_f (by decide), put_f (by decide)])
  refine ⟨put (put (put m2 96 (6 * t + 1) (ch n 0 (WT n m t))) 96 (6 * t + 2) (ch n 1 (WT n m t))) 96 (6 * t + 3) (ch n 2 (WT n m t)), ?_, ⟨?_, ?_, ?_⟩, fun x i c1 c2 => ?_⟩
  · unfold f139 f71
    simp only [KG L, KR, RPx L, if_true]
    rw [bnd r1, bnd s1]
    simp only
    rw [bnd a0]
    simp only [Option.bind_some]
    rw [ei 1 (by omega) (by omega), rp_in (by omega) (by omega), bnd a1]
    try simp only [Option.bind_some]
    rw [ei 2 (by omega) (by omega), rp_in (by omega) (by omega), bnd a2]
    try simp only [Option.bind_some]
    rw [ei 3 (by omega) (by omega), rp_in (by omega) (by omega)]
  · rw [put_nj (by omega), put_nj (by omega), put_eq]
  · rw [put_nj (by omega), put_eq]
  · rw [put_eq]
  · have p3 : put (put (put m2 96 (6 * t + 1) (ch n 0 (WT n m t))) 96 (6 * t + 2) (ch n 1 (WT n m t))) 96 (6 * t + 3) (ch n 2 (WT n m t)) x i = m2 x i := by
      unfold put
      rw [if_neg (by omega), if_neg (by omega), if_neg (by omega)]
    rw [p3, s2.1 x i (fun q => c1 (sc_z4 q)) (fun q => c1 (sc_z6 q)) (fun q => c1 (sc_z8 q)) (fun q => c1 (sc_z2 (by omega)))]
    exact r4 x i (fun q => c1 (sc_z61 q)) (fun q => c1 (sc_z63 q)) (fun q => c1 (sc_z2 (by omega)))
/-- the class keeps a telling -/
theorem f66_s (L : Nat) (h : Rel n m) {y z : Int} (hT : m 82 9 < 12) : ∃ m1, f66 (GC L) RC 82 54 y z m = some (m 82 9, m1) ∧ (∀ i, 0 ≤ i → i < n → m1 84 (10 * m 82 9 + i) = m 56 i ∧ m1 86 (10 * m 82 9 + i) = m 58 i) ∧ m1 88 (m 82 9) = m 54 3 ∧ m1 92 (m 82 9) = y ∧ m1 94 (m 82 9) = z ∧ m1 82 9 = m 82 9 + 1 ∧ ∀ x i, ¬ ((x = 84 ∨ x = 86) ∧ 10 * m 82 9 ≤ i ∧ i < 10 * m 82 9 + 10) → ¬ ((x = 88 ∨ x = 92 ∨ x = 94) ∧ i = m 82 9) → ¬ (x = 82 ∧ i = 9) → m1 x i = m x i := by
  obtain ⟨hn, h4, h10, hN, hA, hn2, hN2, ha, hc⟩ := hand_s h
  obtain ⟨g1, g2, g3, g4, g5⟩ := h.2.2.1
  have h82 := h.1.2.2.2.2.2.2.1
  generalize hTT : m 82 9 = T at *
  unfold f66
  rw [if_pos (show gkb (GC L) 82 11 = true from rfl), hTT]
  obtain ⟨q, h1, m', h2, h3⟩ := lp_all (f := f66_b5 (GC L) RC 82 54 y z T) (Q := fun q => ∃ m1, q = (T, m1) ∧ (∀ i, 0 ≤ i → i < n → m1 84 (10 * T + i) = m 56 i ∧ m1 86 (10 * T + i) = m 58 i) ∧ m1 88 T = m 54 3 ∧ m1 92 T = y ∧ m1 94 T = z ∧ m1 82 9 = T + 1 ∧ ∀ x i, ¬ ((x = 84 ∨ x = 86) ∧ 10 * T ≤ i ∧ i < 10 * T + 10) → ¬ ((x = 88 ∨ x = 92 ∨ x = 94) ∧ i = T) → ¬ (x = 82 ∧ i = 9) → m1 x i = m x i) (fun k st => ∃ m1, st = ((k : Int), m1) ∧ (∀ i, 0 ≤ i → i < (k : Int) → m1 84 (10 * T + i) = m 56 i ∧ m1 86 (10 * T + i) = m 58 i) ∧ ∀ x i, ¬ ((x = 84 ∨ x = 86) ∧ 10 * T ≤ i ∧ i < 10 * T + 10) → m1 x i = m x i) n.toNat
    (by
      rintro k st hk ⟨m1, rfl, i1, i2⟩
      unfold f66_b5
      simp only [KG L, KR, RAx L, RPx L, Option.bind_some, if_true]
      rw [i2 82 0 (by omega), h82, if_pos (by omega), f79_s (by omega) (by omega)]
      simp only [Option.bind_some]
      rw [ra_in (by omega) (by omega), rp_in (by omega) (by omega), f79_s (by omega) (by omega)]
      simp only [Option.bind_some]
      rw [ra_in (by omega) (by omega), rp_in (by omega) (by omega), put_ne (by decide), i2 56 k (by omega), i2 58 k (by omega), w32_i (by omega) (by omega)]
      refine ⟨_, rfl, _, rfl, fun i b1 b2 => ?_, fun x i c => ?_⟩
      · rw [put_ne (by decide), put_as, put_as, put_ne (by decide)]
        by_cases e : i = k
        · rw [if_pos (by omega), if_pos (by omega), e]; exact ⟨rfl, rfl⟩
        · rw [if_neg (by omega), if_neg (by omega)]; exact i1 i b1 (by omega)
      · rw [show put (put m1 84 (10 * T + (k : Int)) (m 56 k)) 86 (10 * T + (k : Int)) (m 58 k) x i = m1 x i from by unfold put; rw [if_neg (by omega), if_neg (by omega)]]
        exact i2 x i c)
    (by
      rintro st ⟨m1, rfl, i1, i2⟩
      unfold f66_b5
      simp only [KG L, KR, RPx L, Option.bind_some, if_true]
      rw [i2 82 0 (by omega), h82, if_neg (by omega), rp_in (by omega) (by omega), rp_in (by omega) (by omega), rp_in (by omega) (by omega), put_ne (by decide), put_ne (by decide), put_ne (by decide), i2 54 3 (by omega), i2 82 9 (by omega), hTT, xr_some]
      unfold g_add
      rw [w32_i (by omega) (by omega)]
      refine ⟨_, rfl, _, rfl, fun i b1 b2 => ?_, ?_, ?_, ?_, put_eq _ _ _ _, fun x i c1 c2 c3 => ?_⟩
      · rw [put_ne (by decide), put_ne (by decide), put_ne (by decide), put_ne (by decide), put_ne (by decide), put_ne (by decide), put_ne (by decide), put_ne (by decide)]
        exact i1 i b1 (by omega)
      · rw [put_ne (by decide), put_ne (by decide), put_ne (by decide), put_eq]
      · rw [put_ne (by decide), put_ne (by decide), put_eq]
      · rw [put_ne (by decide), put_eq]
      · rw [show put (put (put (put m1 88 T (m 54 3)) 92 T y) 94 T z) 82 9 (T + 1) x i = m1 x i from by unfold put; rw [if_neg (by omega), if_neg (by omega), if_neg (by omega), if_neg (by omega)]]
        exact i2 x i c1)
    (by rw [FU_v]; omega) (0, m) ⟨m, rfl, fun i b1 b2 => absurd b2 (by show ¬ i < 0; omega), fun _ _ _ => rfl⟩
  exact ⟨m', by rw [h1, h2], h3⟩
/-- the model keeps a telling -/
theorem f170_s (L : Nat) {T y z : Int} (hT : m 120 15 = T) (h0 : 0 ≤ T) (h12 : T < 12) (hy : 0 ≤ y ∧ y ≤ 999) (hz : 0 ≤ z ∧ z ≤ 9) : ∃ m2, f170 (GC L) RC 120 y z m = some (T, m2) ∧ (∀ i, 0 ≤ i → i < 10 → m2 121 (10 * T + i) = m 121 (120 + i) ∧ m2 122 (10 * T + i) = m 122 (120 + i)) ∧ m2 123 T = m 123 12 ∧ m2 128 T = y ∧ m2 129 T = z ∧ m2 130 T = 0 ∧ m2 120 15 = T + 1 ∧ ∀ x i, ¬ ((x = 121 ∨ x = 122) ∧ 10 * T ≤ i ∧ i < 10 * T + 10) → ¬ ((x = 123 ∨ x = 128 ∨ x = 129 ∨ x = 130) ∧ i = T) → ¬ (x = 120 ∧ i = 15) → m2 x i = m x i := by
  obtain ⟨m1, r1, r2, r3, r4⟩ := f162_s L (m0 := m) (p := 12) (q := T) (by omega) (by omega) (by omega)
  have e15 : ∀ mm : Sg, mm 120 = m1 120 → mm 120 15 = T := fun mm hm => by rw [hm, r4 120 15 (by omega) (by omega) (by omega)]; exact hT
  have zz : ∀ (a : Nat) (i v : Int) (mm : Sg), ¬ a = 120 → mm 120 = m1 120 → put mm a i v 120 = m1 120 := fun a i v mm q1 q2 => by rw [put_f (fun q => q1 q.symm)]; exact q2
  refine ⟨put (put (put (put m1 128 T y) 129 T z) 130 T 0) 120 15 (T + 1), ?_, fun i a1 a2 => ?_, ?_, ?_, ?_, ?_, put_eq _ _ _ _, fun x i c1 c2 c3 => ?_⟩
  · unfold f170 f170_36 f170_42 f170_48
    simp only [KG L, KR, KL L, if_true]
    rw [bnd (f143_s.1 hy), if_neg (by exact n10), bnd (f143_s.1 hz), if_neg (by exact n10), hT, if_neg (by omega), bnd r1]
    rw [e15 m1 rfl, e15 _ (zz 128 T y m1 (by decide) rfl), e15 _ (zz 129 T z _ (by decide) (zz 128 T y m1 (by decide) rfl)), e15 _ (zz 130 T 0 _ (by decide) (zz 129 T z _ (by decide) (zz 128 T y m1 (by decide) rfl)))]
    rw [if_pos (by omega), if_pos (by omega), if_pos (by omega)]
    unfold g_add g_sub
    rw [w32_i (x := T + 1) (by omega) (by omega), put_eq, w32_i (by omega) (by omega), show T + 1 - 1 = T by omega]
  · rw [put_ne (by decide), put_ne (by decide), put_ne (by decide), put_ne (by decide), put_ne (by decide), put_ne (by decide), put_ne (by decide), put_ne (by decide)]
    have := r2 i a1 a2
    rw [show (10 : Int) * 12 + i = 120 + i by omega] at this
    exact this
  · rw [put_ne (by decide), put_ne (by decide), put_ne (by decide), put_ne (by decide)]; exact r3
  · rw [put_ne (by decide), put_ne (by decide), put_ne (by decide), put_eq]
  · rw [put_ne (by decide), put_ne (by decide), put_eq]
  · rw [put_ne (by decide), put_eq]
  · rw [show put (put (put (put m1 128 T y) 129 T z) 130 T 0) 120 15 (T + 1) x i = m1 x i from by unfold put; rw [if_neg (by omega), if_neg (by omega), if_neg (by omega), if_neg (by omega)]]
    exact r4 x i (by omega) (by omega) (by omega)
theorem k10 (L : Nat) (h : Rel n m) (y z : Int) : ∃ w m1 m2, f106 (GC L) RC 1 y z m = some (w, m1) ∧ m1 0 = m 0 ∧ f170 (GC L) RC 120 y z m1 = some (w, m2) ∧ m2 0 = m 0 ∧ Rel n m2 := by
  obtain ⟨hn, h4, h10, hN, hA, hn2, hN2, ha, hc⟩ := hand_s h
  obtain ⟨g1, g2, g3, g4, g5⟩ := h.2.2.1
  have h82 := h.1.2.2.2.2.2.2.1
  have h59 := h.1.2.1
  by_cases c1 : 0 ≤ y ∧ y ≤ 999
  · by_cases c2 : 0 ≤ z ∧ z ≤ 9
    · by_cases c3 : m 82 9 < 12
      · obtain ⟨m1, r1, r2, r3, r4, r5, r6, r7⟩ := f66_s L h (y := y) (z := z) c3
        generalize hTT : m 82 9 = T at *
        have hh := h.2.1.1
        obtain ⟨m2, s1, s2, s3⟩ := wgh_s L (m := m1) (t := T) (by rw [r7 82 0 (by omega) (by omega) (by omega)]; exact h82) (by rw [r7 59 0 (by omega) (by omega) (by omega)]; exact h59) h4 h10 ⟨g2, c3⟩ (by rw [r3]; exact hA) (fun i a1 a2 => by rw [(r2 i a1 a2).2]; have := hh i a1 a2; omega)
        have e15 : m2 120 15 = T := by rw [s3 120 15 (by unfold scr; omega) (by omega), r7 120 15 (by omega) (by omega) (by omega)]; exact g1
        obtain ⟨m3, u1, u2, u3, u4, u5, u6, u7, u8⟩ := f170_s L e15 g2 c3 c1 c2
        -- cells of the end by those of the start
        have A : ∀ x i, ¬ scr x i → ¬ (x = 96 ∧ 6 * T + 1 ≤ i ∧ i ≤ 6 * T + 3) → ¬ ((x = 84 ∨ x = 86) ∧ 10 * T ≤ i ∧ i < 10 * T + 10) → ¬ ((x = 88 ∨ x = 92 ∨ x = 94) ∧ i = T) → ¬ (x = 82 ∧ i = 9) → m2 x i = m x i := fun x i d1 d2 d3 d4 d5 => (s3 x i d1 d2).trans (r7 x i d3 d4 d5)
        have B : ∀ x i, ¬ scr x i → ¬ (x = 96 ∧ 6 * T + 1 ≤ i ∧ i ≤ 6 * T + 3) → ¬ ((x = 84 ∨ x = 86) ∧ 10 * T ≤ i ∧ i < 10 * T + 10) → ¬ ((x = 88 ∨ x = 92 ∨ x = 94) ∧ i = T) → ¬ (x = 82 ∧ i = 9) → ¬ ((x = 121 ∨ x = 122) ∧ 10 * T ≤ i ∧ i < 10 * T + 10) → ¬ ((x = 123 ∨ x = 128 ∨ x = 129 ∨ x = 130) ∧ i = T) → ¬ (x = 120 ∧ i = 15) → m3 x i = m x i := fun x i d1 d2 d3 d4 d5 d6 d7 d8 => (u8 x i d6 d7 d8).trans (A x i d1 d2 d3 d4 d5)
        have e9 : m3 82 9 = T + 1 := by rw [u8 82 9 (by omega) (by omega) (by omega), s3 82 9 (by unfold scr; omega) (by omega)]; exact r6
        have newK : ∀ i, 0 ≤ i → i < n → m3 84 (10 * T + i) = m 56 i ∧ m3 86 (10 * T + i) = m 58 i := fun i a1 a2 => by
          rw [u8 84 _ (by omega) (by omega) (by omega), u8 86 _ (by omega) (by omega) (by omega), s3 84 _ (by unfold scr; omega) (by omega), s3 86 _ (by unfold scr; omega) (by omega)]
          exact r2 i a1 a2
        have newM : ∀ i, 0 ≤ i → i < n → m3 121 (10 * T + i) = m 56 i ∧ m3 122 (10 * T + i) = m 58 i := fun i a1 a2 => by
          obtain ⟨q1, q2⟩ := u2 i a1 (by omega)
          obtain ⟨p1, p2, _⟩ := hh i a1 a2
          rw [q1, q2, A 121 _ (by unfold scr; omega) (by omega) (by omega) (by omega) (by omega), A 122 _ (by unfold scr; omega) (by omega) (by omega) (by omega) (by omega)]
          exact ⟨p1, p2⟩
        have n88 : m3 88 T = m 54 3 := by rw [u8 88 _ (by omega) (by omega) (by omega), s3 88 _ (by unfold scr; omega) (by omega)]; exact r3
        have n90 : m3 90 T = 0 := by rw [B 90 _ (by unfold scr; omega) (by omega) (by omega) (by omega) (by omega) (by omega) (by omega) (by omega)]; exact g5 T (by omega) c3
        have n90b : m1 90 T = 0 := by rw [r7 90 _ (by omega) (by omega) (by omega)]; exact g5 T (by omega) c3
        have eW : WT n m3 T = WT n m1 T := WT_g (by omega) (fun i a1 a2 => ⟨by show m3 84 _ = m1 84 _; rw [(newK i a1 a2).1, (r2 i a1 a2).1], by show m3 86 _ = m1 86 _; rw [(newK i a1 a2).2, (r2 i a1 a2).2]⟩) (by rw [n90, n90b]) (by rw [n88, r3])
        have w96 : ∀ j, 1 ≤ j → j ≤ 3 → m3 96 (6 * T + j) = m2 96 (6 * T + j) := fun j j1 j2 => u8 96 _ (by omega) (by omega) (by omega)
        have hT1 : R_t n m3 := by
          refine ⟨by rw [u7, e9], by rw [e9]; omega, by rw [e9]; omega, fun u v1 v2 => ?_, fun u v1 v2 => ?_⟩
          · rw [e9] at v2
            by_cases e : u = T
            · subst e
              refine ⟨fun i a1 a2 => ?_, ?_, ?_, ?_, ?_, ?_, ?_, ?_⟩
              · obtain ⟨p1, p2, p3⟩ := hh i a1 a2
                rw [(newK i a1 a2).1, (newK i a1 a2).2, (newM i a1 a2).1, (newM i a1 a2).2]
                exact ⟨rfl, rfl, p3⟩
              · rw [n88, u3, A 123 _ (by unfold scr; omega) (by omega) (by omega) (by omega) (by omega)]
                exact h.2.1.2
              · rw [n90, u6]; omega
              · rw [u4, u8 92 _ (by omega) (by omega) (by omega), s3 92 _ (by unfold scr; omega) (by omega), r4]; exact ⟨rfl, c1⟩
              · rw [u5, u8 94 _ (by omega) (by omega) (by omega), s3 94 _ (by unfold scr; omega) (by omega), r5]
              · rw [w96 1 (by omega) (by omega), eW]; exact s2.1
              · rw [w96 2 (by omega) (by omega), eW]; exact s2.2.1
              · rw [w96 3 (by omega) (by omega), eW]; exact s2.2.2
            · have hu : u < T := by omega
              exact R_t1_g (by omega) (g4 u v1 hu) (fun i a1 a2 => ⟨B 84 _ (by unfold scr; omega) (by omega) (by omega) (by omega) (by omega) (by omega) (by omega) (by omega), B 86 _ (by unfold scr; omega) (by omega) (by omega) (by omega) (by omega) (by omega) (by omega) (by omega), B 121 _ (by unfold scr; omega) (by omega) (by omega) (by omega) (by omega) (by omega) (by omega) (by omega), B 122 _ (by unfold scr; omega) (by omega) (by omega) (by omega) (by omega) (by omega) (by omega) (by omega)⟩) (B 88 _ (by unfold scr; omega) (by omega) (by omega) (by omega) (by omega) (by omega) (by omega) (by omega)) (B 90 _ (by unfold scr; omega) (by omega) (by omega) (by omega) (by omega) (by omega) (by omega) (by omega)) (B 92 _ (by unfold scr; omega) (by omega) (by omega) (by omega) (by omega) (by omega) (by omega) (by omega)) (B 94 _ (by unfold scr; omega) (by omega) (by omega) (by omega) (by omega) (by omega) (by omega) (by omega)) (fun j j1 j2 => B 96 _ (by unfold scr; omega) (by omega) (by omega) (by omega) (by omega) (by omega) (by omega) (by omega)) (B 123 _ (by unfold scr; omega) (by omega) (by omega) (by omega) (by omega) (by omega) (by omega) (by omega)) (B 128 _ (by unfold scr; omega) (by omega) (by omega) (by omega) (by omega) (by omega) (by omega) (by omega)) (B 129 _ (by unfold scr; omega) (by omega) (by omega) (by omega) (by omega) (by omega) (by omega) (by omega)) (B 130 _ (by unfold scr; omega) (by omega) (by omega) (by omega) (by omega) (by omega) (by omega) (by omega))
          · rw [e9] at v1
            rw [B 90 _ (by unfold scr; omega) (by omega) (by omega) (by omega) (by omega) (by omega) (by omega) (by omega)]
            exact g5 u (by omega) v2
        have hS1 : R_s m3 := fun s v1 v2 => by
          rw [e9, B 138 _ (by unfold scr; omega) (by omega) (by omega) (by omega) (by omega) (by omega) (by omega) (by omega), B 36 _ (by unfold scr; omega) (by omega) (by omega) (by omega) (by omega) (by omega) (by omega) (by omega)]
          have := h.2.2.2.2.2.2.1 s v1 v2
          rw [hTT] at this
          omega
        obtain ⟨l1, l2⟩ := Rel_T h hT1 hS1 (fun x i d1 d2 d3 => B x i d1 (by unfold sT at d2; omega) (by unfold sT at d2; omega) (by unfold sT at d2; omega) (by unfold sT at d2; omega) (by unfold sT at d2; omega) (by unfold sT at d2; omega) (by unfold sT at d2; omega))
        refine ⟨T, m2, m3, ?_, funext fun i => A 0 i (by unfold scr; omega) (by omega) (by omega) (by omega) (by omega), u1, l1, l2⟩
        unfold f106
        simp only [KG L, KR, if_true]
        rw [bnd (f133_s.1 c1), if_neg (by exact n10), if_neg (by omega), if_neg (by omega), hTT, if_pos c3, bnd r1, bnd s1]
      · refine ⟨-4, m, m, ?_, rfl, ?_, rfl, h⟩
        · unfold f106
          simp only [KG L, KR, if_true]
          rw [bnd (f133_s.1 c1), if_neg (by exact n10), if_neg (by omega), if_neg (by omega), if_neg c3]
        · unfold f170
          simp only [KG L, if_true]
          rw [bnd (f143_s.1 c1), if_neg (by exact n10), bnd (f143_s.1 c2), if_neg (by exact n10), if_pos (by omega)]
    · refine ⟨-2, m, m, ?_, rfl, ?_, rfl, h⟩
      · unfold f106
        rw [bnd (f133_s.1 c1), if_neg (by exact n10)]
        by_cases q : z < 0
        · rw [if_pos q]
        · rw [if_neg q, if_pos (by omega)]
      · unfold f170
        rw [bnd (f143_s.1 c1), if_neg (by exact n10), bnd (f143_s.2 c2), if_pos rfl]
  · refine ⟨-2, m, m, ?_, rfl, ?_, rfl, h⟩
    · unfold f106
      rw [bnd (f133_s.2 c1), if_pos rfl]
    · unfold f170
      rw [bnd (f143_s.2 c1), if_pos rfl]
end CASES
