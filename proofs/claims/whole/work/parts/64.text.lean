/-! TEXTS, as the class reads, keeps and reckons them -/
theorem FnX_25 (L : Nat) {m0 : Sg} {T V : Nat → Int} {N : Nat} (hT : CT T V N m0) : SX m0 N (FnX (GC L) RC 50 25 14 0) (pA T V 5 25) := (FnX_s L hT 5 (by omega)).2.2 50 (by omega)
theorem GdI_pt {T V : Nat → Int} {N : Nat} {key : Int} (hN : T N = 0) (hk : ¬ key = 0) : ∀ (n : Nat) (c : List Int), n ≤ N → n ≤ (ppt T V key n c).2.1 ∧ (ppt T V key n c).2.1 ≤ N ∧ (ppt T V key n c).2.2.length + n ≤ (ppt T V key n c).2.1 + c.length := by
  intro n c hn
  have hg := (GdI_A (T := T) (V := V) hN 5).2.2.2.2.2.2
  unfold ppt
  by_cases c1 : T n = key
  · rw [if_pos c1]
    have hn1 := tk_l hN hn (show ¬ T n = 0 by omega)
    obtain ⟨g1, g2, g3, g4⟩ := hg (n + 1) c (by omega)
    by_cases c2 : (pA T V 5 25 (n + 1) c).1 = true
    · rw [if_pos c2]
      by_cases c3 : T (pA T V 5 25 (n + 1) c).2.1 = 59
      · rw [if_pos c3]
        have := tk_l hN g2 (show ¬ T (pA T V 5 25 (n + 1) c).2.1 = 0 by omega)
        exact ⟨by show n ≤ (pA T V 5 25 (n + 1) c).2.1 + 1; omega, by show (pA T V 5 25 (n + 1) c).2.1 + 1 ≤ N; omega, by show (pA T V 5 25 (n + 1) c).2.2.length + n ≤ (pA T V 5 25 (n + 1) c).2.1 + 1 + c.length; omega⟩
      · rw [if_neg c3]
        exact ⟨by show n ≤ (pA T V 5 25 (n + 1) c).2.1; omega, g2, by show (pA T V 5 25 (n + 1) c).2.2.length + n ≤ (pA T V 5 25 (n + 1) c).2.1 + c.length; omega⟩
    · rw [if_neg c2]; exact ⟨by omega, g2, by omega⟩
  · rw [if_neg c1]; exact ⟨Nat.le_refl _, hn, by show c.length + n ≤ n + c.length; omega⟩
section PPT
variable {T V : Nat → Int} {key : Int} {n : Nat} {c : List Int}
theorem ppt_0 (h : ¬ T n = key) : ppt T V key n c = (false, n, c) := if_neg h
theorem ppt_f (h : T n = key) (h2 : ¬ (pA T V 5 25 (n + 1) c).1 = true) : ppt T V key n c = pA T V 5 25 (n + 1) c := by unfold ppt; rw [if_pos h, if_neg h2]
theorem ppt_c (h : T n = key) (h2 : (pA T V 5 25 (n + 1) c).1 = true) (h3 : ¬ T (pA T V 5 25 (n + 1) c).2.1 = 59) : ppt T V key n c = (false, (pA T V 5 25 (n + 1) c).2.1, (pA T V 5 25 (n + 1) c).2.2) := by unfold ppt; rw [if_pos h, if_pos h2, if_neg h3]
theorem ppt_y (h : T n = key) (h2 : (pA T V 5 25 (n + 1) c).1 = true) (h3 : T (pA T V 5 25 (n + 1) c).2.1 = 59) : ppt T V key n c = (true, (pA T V 5 25 (n + 1) c).2.1 + 1, (pA T V 5 25 (n + 1) c).2.2) := by unfold ppt; rw [if_pos h, if_pos h2, if_pos h3]
end PPT
theorem f24_s (L : Nat) {m0 : Sg} {T V : Nat → Int} {N : Nat} {key : Int} (hT : CT T V N m0) (hk : ¬ key = 0) : SX m0 N (f24 (GC L) RC 14 key) (ppt T V key) := by
  intro m n c h hn hl
  have hg := (GdI_A (T := T) (V := V) hT.2.1 5).2.2.2.2.2.2
  have p22 := f22_s L (t := key) hT h hn
  unfold f24
  rw [if_pos (show gkb (GC L) 14 5 = true from rfl)]
  by_cases c1 : T n = key
  · have hn1 := tk_l hT.2.1 hn (show ¬ T n = 0 by omega)
    obtain ⟨m1, r1, r2⟩ := p22.1 c1
    obtain ⟨m2, s1, s2⟩ := FnX_25 L hT m1 (n + 1) c r2 (by omega) (by omega)
    obtain ⟨g1, g2, g3, g4⟩ := hg (n + 1) c (by omega)
    rw [bnd r1, if_neg (by exact n10), bnd s1]
    by_cases c2 : (pA T V 5 25 (n + 1) c).1 = true
    · simp only [if_pos c2]
      rw [if_neg (by exact n10)]
      have p59 := f22_s L (t := 59) hT s2 g2
      by_cases c3 : T (pA T V 5 25 (n + 1) c).2.1 = 59
      · obtain ⟨m3, t1, t2⟩ := p59.1 c3
        rw [ppt_y c1 c2 c3, bnd t1, if_neg (by exact n10)]
        exact ⟨m3, rfl, t2⟩
      · rw [ppt_c c1 c2 c3, bnd (p59.2 c3), if_pos rfl]
        exact ⟨m2, rfl, s2⟩
    · rw [ppt_f c1 c2]
      simp only [if_neg c2]
      rw [if_pos trivial]
      exact ⟨m2, rfl, s2⟩
  · rw [ppt_0 c1, bnd (p22.2 c1), if_pos rfl]
    exact ⟨m, rfl, h⟩
/-- what reading a text leaves -/
def FrD (m0 m : Sg) : Prop := ∀ x i, ¬ x = 18 → ¬ x = 20 → ¬ x = 22 → ¬ x = 24 → ¬ (x = 14 ∧ (i = 5 ∨ i = 7 ∨ i = 8)) → m x i = m0 x i
section PRD
variable {T V : Nat → Int}
theorem prd_a (h : ¬ (ppt T V 3 0 []).1 = true) : prd T V = ppt T V 3 0 [] := if_neg h
theorem prd_b (h : (ppt T V 3 0 []).1 = true) (h2 : ¬ (ppt T V 4 (ppt T V 3 0 []).2.1 (ppt T V 3 0 []).2.2).1 = true) : prd T V = ppt T V 4 (ppt T V 3 0 []).2.1 (ppt T V 3 0 []).2.2 := by unfold prd; rw [if_pos h, if_neg h2]
theorem prd_c (h : (ppt T V 3 0 []).1 = true) (h2 : (ppt T V 4 (ppt T V 3 0 []).2.1 (ppt T V 3 0 []).2.2).1 = true) : prd T V = (decide (T (ppt T V 4 (ppt T V 3 0 []).2.1 (ppt T V 3 0 []).2.2).2.1 = 0), (ppt T V 4 (ppt T V 3 0 []).2.1 (ppt T V 3 0 []).2.2).2) := by unfold prd; rw [if_pos h, if_pos h2]
end PRD
theorem CP_r {m0 m : Sg} {n : Nat} {c : List Int} (h : CP m0 m n c) : CP m m n c := ⟨FrR_r m, h.2⟩
theorem f12_s (L : Nat) {b : Int → Int} {sz : Int} {m0 : Sg} (hT : TP b sz m0) : ∃ v m', f12 (GC L) RC 14 m0 = some (v, m') ∧ FrD m0 m' ∧ ((prd (TK b sz) (NV b sz)).1 = true → v = -1 ∧ m' 14 7 = (prd (TK b sz) (NV b sz)).2.2.length ∧ m' 14 8 = (ppt (TK b sz) (NV b sz) 3 0 []).2.2.length ∧ (∀ i : Nat, i < (prd (TK b sz) (NV b sz)).2.2.length → m' 24 i = (prd (TK b sz) (NV b sz)).2.2.getD i 0) ∧ (prd (TK b sz) (NV b sz)).2.2.length ≤ 160) ∧ (¬ (prd (TK b sz) (NV b sz)).1 = true → v = SP b sz (prd (TK b sz) (NV b sz)).2.1 ∧ 0 ≤ v ∧ v ≤ 160) := by
  obtain ⟨m1, r1, r2, N, r3, r4, r5, r6⟩ := f13_s L hT
  generalize hTT : TK b sz = T at *
  generalize hVV : NV b sz = V at *
  have hSb := SP_b (b := b) hT.2.1
  have t3 := hT.2.2.1
  have CT1 : ∀ m : Sg, (∀ x, x = 18 ∨ x = 20 → m x = m1 x) → CT T V N m := fun m h => ⟨r3, by rw [← hTT]; exact TK_e r4, fun j hj => by
    obtain ⟨q1, q2, q3⟩ := r6 j hj
    rw [h 18 (Or.inl rfl), h 20 (Or.inr rfl), ← hTT, ← hVV]
    exact ⟨q1, q3⟩⟩
  have pl : ∀ n : Nat, n ≤ N → m1 22 n = SP b sz n := fun n hn => (r6 n hn).2.1
  have hA : CT T V N (put (put m1 14 5 0) 14 7 0) := CT1 _ (fun x hx => by rcases hx with e | e <;> subst e <;> rw [put_f (by decide), put_f (by decide)])
  have hC : CP (put (put m1 14 5 0) 14 7 0) (put (put m1 14 5 0) 14 7 0) 0 [] := ⟨FrR_r _, by rw [put_nj (by decide), put_eq]; rfl, by rw [put_eq]; rfl, fun i hi => absurd hi (by simp)⟩
  have F1 : FrD m0 (put (put m1 14 5 0) 14 7 0) := fun x i c1 c2 c3 c4 c5 => by
    rw [show put (put m1 14 5 0) 14 7 0 x i = m1 x i from by unfold put; rw [if_neg (by omega), if_neg (by omega)]]
    exact r2 x i c1 c2 c3
  obtain ⟨m2, s1, s2⟩ := f24_s L (key := 3) hA (by decide) _ 0 [] hC (by omega) (by simp)
  have g3 := GdI_pt (T := T) (V := V) (key := 3) hA.2.1 (by decide) 0 [] (by omega)
  have F2 : FrD m0 (put m2 14 8 (m2 14 7)) := fun x i c1 c2 c3 c4 c5 => by
    rw [show put m2 14 8 (m2 14 7) x i = m2 x i from by unfold put; rw [if_neg (by omega)]]
    exact (s2.1 x i c4 (by omega)).trans (F1 x i c1 c2 c3 c4 c5)
  have hCb : CP (put m2 14 8 (m2 14 7)) (put m2 14 8 (m2 14 7)) (ppt T V 3 0 []).2.1 (ppt T V 3 0 []).2.2 := ⟨FrR_r _, by rw [put_nj (by decide)]; exact s2.2.1, by rw [put_nj (by decide)]; exact s2.2.2.1, fun i hi => by rw [put_ne (by decide)]; exact s2.2.2.2 i hi⟩
  have hB : CT T V N (put m2 14 8 (m2 14 7)) := ⟨r3, hA.2.1, fun j hj => by
    obtain ⟨q1, q2⟩ := hA.2.2 j hj
    refine ⟨?_, fun z => ?_⟩
    · rw [put_ne (by decide), s2.1 18 j (by decide) (by omega)]; exact q1
    · rw [put_ne (by decide), s2.1 20 j (by decide) (by omega)]; exact q2 z⟩
  have e22 : ∀ (n : Nat) (m : Sg), m 22 = m1 22 → m 14 5 = n → n ≤ N → f12_28 (GC L) RC 14 m = some (SP b sz n, m) := by
    intro n m h1 h2 h3
    unfold f12_28
    simp only [KG L, KR, RAx L, Option.bind_some, if_true]
    rw [h2, ra_in (by omega) (by omega), h1, pl n h3]
  have e22a : put m2 14 8 (m2 14 7) 22 = m1 22 := funext fun i => by rw [put_ne (by decide), s2.1 22 i (by decide) (by omega), put_ne (by decide), put_ne (by decide)]
  unfold f12
  rw [if_pos (show gkb (GC L) 14 5 = true from rfl), bnd r1]
  unfold f12_7
  simp only [KG L, if_true]
  rw [bnd s1]
  by_cases c1 : (ppt T V 3 0 []).1 = true
  · simp only [if_pos c1]
    rw [if_neg (by exact n10)]
    obtain ⟨m3, u1, u2⟩ := f24_s L (key := 4) hB (by decide) _ _ _ hCb g3.2.1 (by have := g3.2.2; simp at this; omega)
    have g4 := GdI_pt (T := T) (V := V) (key := 4) hA.2.1 (by decide) (ppt T V 3 0 []).2.1 (ppt T V 3 0 []).2.2 g3.2.1
    have F3 : FrD m0 m3 := fun x i c1 c2 c3 c4 c5 => (u2.1 x i c4 (by omega)).trans (F2 x i c1 c2 c3 c4 c5)
    have e22b : m3 22 = m1 22 := funext fun i => by rw [u2.1 22 i (by decide) (by omega), e22a]
    rw [bnd u1]
    by_cases c2 : (ppt T V 4 (ppt T V 3 0 []).2.1 (ppt T V 3 0 []).2.2).1 = true
    · simp only [if_pos c2]
      rw [if_neg (by exact n10), prd_c c1 c2]
      have p0 := f21_s L (t := 0) hB u2 g4.2.1
      by_cases c3 : T (ppt T V 4 (ppt T V 3 0 []).2.1 (ppt T V 3 0 []).2.2).2.1 = 0
      · rw [bnd (p0.1 c3), if_neg (by exact n10)]
        refine ⟨-1, m3, rfl, F3, fun _ => ⟨rfl, u2.2.2.1, ?_, u2.2.2.2, ?_⟩, fun q => absurd (decide_eq_true c3) q⟩
        · rw [u2.1 14 8 (by decide) (by omega), put_eq]; exact s2.2.2.1
        · have a1 := g3.2.2
          have a2 := g4.2.2
          have a3 := g4.2.1
          simp at a1
          show (ppt T V 4 (ppt T V 3 0 []).2.1 (ppt T V 3 0 []).2.2).2.2.length ≤ 160
          omega
      · rw [bnd (p0.2 c3), if_pos rfl, e22 _ m3 e22b u2.2.1 g4.2.1]
        have := hSb (ppt T V 4 (ppt T V 3 0 []).2.1 (ppt T V 3 0 []).2.2).2.1
        exact ⟨_, m3, rfl, F3, fun q => absurd (of_decide_eq_true q) c3, fun _ => ⟨rfl, by omega, by omega⟩⟩
    · simp only [if_neg c2]
      rw [if_pos trivial, prd_b c1 c2, e22 _ m3 e22b u2.2.1 g4.2.1]
      have := hSb (ppt T V 4 (ppt T V 3 0 []).2.1 (ppt T V 3 0 []).2.2).2.1
      exact ⟨_, m3, rfl, F3, fun q => absurd q c2, fun _ => ⟨rfl, by omega, by omega⟩⟩
  · simp only [if_neg c1]
    rw [if_pos trivial, prd_a c1, e22 _ _ e22a hCb.2.1 g3.2.1]
    have := hSb (ppt T V 3 0 []).2.1
    exact ⟨_, _, rfl, F2, fun q => absurd q c1, fun _ => ⟨rfl, by omega, by omega⟩⟩
/-- a text kept: its doings, how many of them are those of take -/
def XC (m : Sg) (t : Int) (cd : List Int) (tl : Nat) : Prop := m 29 t = cd.length ∧ m 31 t = tl ∧ ∀ i : Nat, i < cd.length → m 27 (160 * t + i) = cd.getD i 0
def FrK (m0 m : Sg) (t : Int) : Prop := ∀ x i, ¬ (x = 27 ∧ 160 * t ≤ i ∧ i < 160 * t + 160) → ¬ ((x = 29 ∨ x = 31) ∧ i = t) → ¬ (x = 25 ∧ i = 5) → m x i = m0 x i
theorem f81_s (L : Nat) {m0 : Sg} {t : Int} {cd : List Int} {tl : Nat} (ht : m0 25 5 = t) (ht2 : 0 ≤ t ∧ t < 6) (h7 : m0 14 7 = cd.length) (h8 : m0 14 8 = tl) (hl : cd.length ≤ 160) (hc : ∀ i : Nat, i < cd.length → m0 24 i = cd.getD i 0) : ∃ m', f81 (GC L) RC 25 14 m0 = some (t, m') ∧ FrK m0 m' t ∧ m' 25 5 = t + 1 ∧ XC m' t cd tl := by
  unfold f81
  rw [if_pos (show gkb (GC L) 25 12 = true from rfl), ht]
  obtain ⟨q, h1, m', h2, h3⟩ := lp_all (f := f81_b5 (GC L) RC 25 14 t) (Q := fun q => ∃ m', q = (t, m') ∧ FrK m0 m' t ∧ m' 25 5 = t + 1 ∧ XC m' t cd tl) (fun k st => ∃ m', st = ((k : Int), m') ∧ (∀ x i, ¬ (x = 27 ∧ 160 * t ≤ i ∧ i < 160 * t + 160) → m' x i = m0 x i) ∧ ∀ i : Nat, i < k → m' 27 (160 * t + i) = cd.getD i 0) cd.length
    (by
      rintro k st hk ⟨m', rfl, i1, i2⟩
      have ei : g_add (g_mul t 160) (k : Int) = 160 * t + k := by
        unfold g_add g_mul
        rw [w32_i (x := t * 160) (by omega) (by omega), w32_i (by omega) (by omega)]
        omega
      unfold f81_b5
      simp only [KG L, KR, RAx L, RPx L, Option.bind_some, if_true]
      rw [i1 14 7 (by omega), h7, if_pos (by omega), ei, ra_in (by omega) (by omega), i1 24 k (by omega), hc k hk, rp_in (by omega) (by omega), w32_i (by omega) (by omega)]
      refine ⟨_, rfl, _, rfl, fun x i c => ?_, fun i hi => ?_⟩
      · rw [show put m' 27 (160 * t + (k : Int)) (cd.getD k 0) x i = m' x i from by unfold put; rw [if_neg (by omega)]]
        exact i1 x i c
      · by_cases e : i = k
        · rw [e, put_eq]
        · rw [put_nj (by omega)]; exact i2 i (by omega))
    (by
      rintro st ⟨m', rfl, i1, i2⟩
      unfold f81_b5
      simp only [KG L, KR, RPx L, Option.bind_some, if_true]
      rw [i1 14 7 (by omega), h7, if_neg (by omega), rp_in ht2.1 ht2.2, rp_in ht2.1 ht2.2, put_ne (by decide), i1 14 8 (by omega), h8, put_ne (by decide), put_ne (by decide), i1 25 5 (by omega), ht, xr_some]
      unfold g_add
      rw [w32_i (by omega) (by omega)]
      refine ⟨_, rfl, _, rfl, fun x i c1 c2 c3 => ?_, put_eq _ _ _ _, ?_, ?_, fun i hi => ?_⟩
      · rw [show put (put (put m' 29 t (cd.length : Int)) 31 t (tl : Int)) 25 5 (t + 1) x i = m' x i from by unfold put; rw [if_neg (by omega), if_neg (by omega), if_neg (by omega)]]
        exact i1 x i c1
      · rw [put_ne (by decide), put_ne (by decide), put_eq]
      · rw [put_ne (by decide), put_eq]
      · rw [put_ne (by decide), put_ne (by decide), put_ne (by decide)]; exact i2 i hi)
    (by rw [FU_v]; omega) (0, m0) ⟨m0, rfl, fun _ _ _ => rfl, fun i hi => by omega⟩
  exact ⟨m', by rw [h1, h2], h3⟩
