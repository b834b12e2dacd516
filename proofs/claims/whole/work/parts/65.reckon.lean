/-! TEXTS RECKONED: the class's stack -/
def SK (st : List Int) (m : Sg) : Prop := m 25 4 = st.length ∧ ∀ j : Nat, j < st.length → m 33 j = st.getD (st.length - 1 - j) 0
def FrE (m0 m : Sg) : Prop := ∀ x i, ¬ x = 33 → ¬ (x = 25 ∧ i = 4) → m x i = m0 x i
theorem FrE_r (m : Sg) : FrE m m := fun _ _ _ _ => rfl
theorem FrE_t {m0 m m' : Sg} (h : FrE m0 m) (h2 : FrE m m') : FrE m0 m' := fun x i c1 c2 => (h2 x i c1 c2).trans (h x i c1 c2)
theorem f84_s (L : Nat) {m : Sg} {st : List Int} {v : Int} (h : SK st m) (hl : st.length < 160) : ∃ m', f84 (GC L) RC 25 v m = some m' ∧ FrE m m' ∧ SK (v :: st) m' := by
  unfold f84
  simp only [KG L, KR, RPx L, Option.bind_some, if_true]
  rw [h.1, rp_in (by omega) (by omega), put_ne (by decide), h.1]
  unfold g_add
  rw [w32_i (by omega) (by omega)]
  refine ⟨_, rfl, fun x i c1 c2 => ?_, by rw [put_eq, List.length_cons]; rfl, fun j hj => ?_⟩
  · unfold put; rw [if_neg (by omega), if_neg (by omega)]
  · rw [List.length_cons] at hj ⊢
    rw [put_ne (by decide)]
    by_cases e : j = st.length
    · rw [e, put_eq, show st.length + 1 - 1 - st.length = 0 by omega]
      rfl
    · rw [put_nj (by omega), h.2 j (by omega), show st.length + 1 - 1 - j = (st.length - 1 - j) + 1 by omega]
      rfl
theorem f85_s (L : Nat) {m : Sg} {st : List Int} (h : SK st m) (hl : st.length ≤ 160) : ∃ m', f85 (GC L) RC 25 m = some (st.headD 0, m') ∧ FrE m m' ∧ SK st.tail m' := by
  unfold f85
  simp only [KG L, KR, RAx L, Option.bind_some, if_true]
  rw [h.1]
  cases st with
  | nil =>
    rw [if_neg (by simp)]
    exact ⟨m, rfl, FrE_r m, h⟩
  | cons v st =>
    rw [List.length_cons] at hl
    have e : (((v :: st).length : Nat) : Int) = (st.length : Int) + 1 := by rw [List.length_cons]; rfl
    rw [e, if_pos (by omega)]
    unfold g_sub
    rw [w32_i (by omega) (by omega), put_eq, show (st.length : Int) + 1 - 1 = (st.length : Int) by omega, ra_in (by omega) (by omega), put_ne (by decide)]
    refine ⟨put m 25 4 (st.length : Int), ?_, fun x i c1 c2 => ?_, put_eq _ _ _ _, fun j hj => ?_⟩
    · have := h.2 st.length (by rw [List.length_cons]; omega)
      rw [this, List.length_cons, show st.length + 1 - 1 - st.length = 0 by omega]
      rfl
    · unfold put; rw [if_neg (by omega)]
    · have hj' : j < st.length := hj
      have := h.2 j (by rw [List.length_cons]; omega)
      rw [put_ne (by decide), this, List.length_cons, show st.length + 1 - 1 - j = (st.length - 1 - j) + 1 by omega]
      rfl
theorem f83_s (L : Nat) {m : Sg} {st : List Int} {d : Int} (h : SK st m) (hl : st.length < 160) : ∃ m', f83 (GC L) RC 25 d m = some m' ∧ FrE m m' ∧ SK (jn d (st.tail.headD 0) (st.headD 0) :: st.tail.tail) m' := by
  obtain ⟨m1, r1, r2, r3⟩ := f85_s L h (by omega)
  have l1 : st.tail.length ≤ st.length := by rw [List.length_tail]; omega
  obtain ⟨m2, s1, s2, s3⟩ := f85_s L r3 (by omega)
  have l2 : st.tail.tail.length ≤ st.length := by rw [List.length_tail]; omega
  have F2 := FrE_t r2 s2
  have ph := fun v : Int => f84_s L (v := v) s3 (by omega)
  have go : ∀ v : Int, jn d (st.tail.headD 0) (st.headD 0) = v → ∃ m', (Option.bind (f84 (GC L) RC 25 v m2) fun q => some q) = some m' ∧ FrE m m' ∧ SK (jn d (st.tail.headD 0) (st.headD 0) :: st.tail.tail) m' := by
    intro v hv
    obtain ⟨m3, t1, t2, t3⟩ := ph v
    rw [bnd t1, hv]
    exact ⟨m3, rfl, FrE_t F2 t2, t3⟩
  unfold f83
  rw [if_pos (show gkb (GC L) 25 12 = true from rfl), bnd r1, bnd s1]
  simp only
  generalize st.tail.headD 0 = l at *
  generalize st.headD 0 = r at *
  unfold f83_44 f83_35 f83_26 f83_16
  simp only [KG L, if_true]
  by_cases d17 : d = -17
  · rw [if_pos d17]; exact go _ (by rw [d17]; rfl)
  rw [if_neg d17]
  by_cases d16 : d = -16
  · rw [if_pos d16]; exact go _ (by rw [d16]; rfl)
  rw [if_neg d16]
  by_cases d15 : d = -15
  · have e : jn d l r = if l = r then 1 else 0 := by rw [d15]; rfl
    rw [if_pos d15]
    by_cases c : l = r
    · rw [if_pos c] at e
      rw [if_pos c]; exact go _ e
    · rw [if_neg c] at e
      rw [if_neg c]; exact go _ e
  rw [if_neg d15]
  by_cases d14 : d = -14
  · have e : jn d l r = if l < r then 1 else 0 := by rw [d14]; rfl
    rw [if_pos d14]
    by_cases c : l < r
    · rw [if_pos c] at e
      rw [if_pos c]; exact go _ e
    · rw [if_neg c] at e
      rw [if_neg c]; exact go _ e
  rw [if_neg d14]
  by_cases d12 : d = -12
  · have e : jn d l r = if l = 0 then 0 else if r = 0 then 0 else 1 := by rw [d12]; rfl
    rw [if_pos d12]
    by_cases c : l = 0
    · rw [if_pos c] at e
      rw [if_pos c]; exact go _ e
    · rw [if_neg c] at e
      rw [if_neg c]
      by_cases c2 : r = 0
      · rw [if_pos c2] at e
        rw [if_pos c2]; exact go _ e
      · rw [if_neg c2] at e
        rw [if_neg c2]; exact go _ e
  rw [if_neg d12]
  by_cases d11 : d = -11
  · have e : jn d l r = if l = 0 then (if r = 0 then 0 else 1) else 1 := by rw [d11]; rfl
    rw [if_pos d11]
    by_cases c : l = 0
    · rw [if_pos c] at e
      rw [if_pos c]
      by_cases c2 : r = 0
      · rw [if_pos c2] at e
        rw [if_pos c2]; exact go _ e
      · rw [if_neg c2] at e
        rw [if_neg c2]; exact go _ e
    · rw [if_neg c] at e
      rw [if_neg c]; exact go _ e
  rw [if_neg d11]
  exact go _ (by unfold jn; rw [if_neg d11, if_neg d12, if_neg d14, if_neg d15, if_neg d16, if_neg d17])
theorem tk_1 {cd : List Int} {k : Nat} (h : k < cd.length) : cd.take (k + 1) = cd.take k ++ [cd.getD k 0] := by
  rw [List.take_succ, List.getD_eq_getElem?_getD, List.getElem?_eq_getElem h]
  rfl
theorem ev1_l (fv : Int → Int) (st : List Int) (d : Int) : (ev1 fv st d).length ≤ st.length + 1 := by
  unfold ev1
  split
  · rw [List.length_cons]; omega
  · split
    · rw [List.length_cons]; omega
    · split
      · rw [List.length_cons, List.length_tail]; omega
      · split
        · rw [List.length_cons, List.length_tail]; omega
        · rw [List.length_cons, List.length_tail, List.length_tail]; omega
theorem f82a_s (L : Nat) {m0 : Sg} {t a : Int} {cd : List Int} {fv : Int → Int} (ht : 0 ≤ t ∧ t < 6) (ha : 0 ≤ a) (hl : a + cd.length ≤ 160) (hc : ∀ i : Nat, i < cd.length → m0 27 (160 * t + (a + i)) = cd.getD i 0) (hf : ∀ j, 0 ≤ j → j < 6 → m0 53 j = fv j) : ∃ m', f82_20 (GC L) RC 25 t 52 a (a + cd.length) m0 = some ((evl fv [] cd).headD 0, m') ∧ FrE m0 m' := by
  unfold f82_20
  rw [if_pos (show gkb (GC L) 25 12 = true from rfl)]
  obtain ⟨q, h1, m', h2, h3⟩ := lp_all (f := f82_b26 (GC L) RC 25 t 52 (a + cd.length)) (Q := fun q => ∃ m', q = ((evl fv [] cd).headD 0, m') ∧ FrE m0 m') (fun k st => ∃ m', st = (a + (k : Int), m') ∧ FrE m0 m' ∧ SK (evl fv [] (cd.take k)) m' ∧ (evl fv [] (cd.take k)).length ≤ k) cd.length
    (by
      rintro k st hk ⟨m', rfl, i1, i2, i3⟩
      have ei : g_add (g_mul t 160) (a + (k : Int)) = 160 * t + (a + k) := by
        unfold g_add g_mul
        rw [w32_i (x := t * 160) (by omega) (by omega), w32_i (by omega) (by omega)]
        omega
      have en : evl fv [] (cd.take (k + 1)) = ev1 fv (evl fv [] (cd.take k)) (cd.getD k 0) := by rw [tk_1 hk, evl_a, evl_1]
      have hlen := ev1_l fv (evl fv [] (cd.take k)) (cd.getD k 0)
      have fin : ∀ m2 : Sg, FrE m' m2 → SK (ev1 fv (evl fv [] (cd.take k)) (cd.getD k 0)) m2 → ∃ m3, ((a + ((k + 1 : Nat) : Int), m2) : Int × Sg) = (a + ((k + 1 : Nat) : Int), m3) ∧ FrE m0 m3 ∧ SK (evl fv [] (cd.take (k + 1))) m3 ∧ (evl fv [] (cd.take (k + 1))).length ≤ k + 1 := fun m2 q1 q2 => ⟨m2, rfl, FrE_t i1 q1, by rw [en]; exact q2, by rw [en]; omega⟩
      unfold f82_b26 f82_65
      simp only [KG L, KR, RAx L, Option.bind_some, if_true]
      rw [if_pos (by omega), ei, ra_in (by omega) (by omega), i1 27 _ (by decide) (by omega), hc k hk, w32_i (x := a + (k : Int) + 1) (by omega) (by omega), show a + (k : Int) + 1 = a + ((k + 1 : Nat) : Int) by omega]
      generalize cd.getD k 0 = d at *
      generalize evl fv [] (cd.take k) = S at *
      by_cases c0 : d < 0
      · rw [if_pos c0]
        by_cases c6 : d < -6
        · rw [if_pos c6]
          by_cases c13 : d = -13
          · have e : ev1 fv S d = (if S.headD 0 = 0 then 1 else 0) :: S.tail := by rw [c13]; rfl
            rw [e] at fin
            obtain ⟨m1, r1, r2, r3⟩ := f85_s L i2 (by omega)
            rw [if_pos c13, bnd r1]
            have l1 : S.tail.length ≤ S.length := by rw [List.length_tail]; omega
            by_cases z : S.headD 0 = 0
            · rw [if_pos z] at fin
              obtain ⟨m2, s1, s2, s3⟩ := f84_s L (v := 1) r3 (by omega)
              simp only [if_pos z]
              rw [bnd s1]
              exact ⟨_, rfl, fin m2 (FrE_t r2 s2) s3⟩
            · rw [if_neg z] at fin
              obtain ⟨m2, s1, s2, s3⟩ := f84_s L (v := 0) r3 (by omega)
              simp only [if_neg z]
              rw [bnd s1]
              exact ⟨_, rfl, fin m2 (FrE_t r2 s2) s3⟩
          · rw [if_neg c13]
            by_cases c19 : d = -19
            · have e : ev1 fv S d = g_neg (S.headD 0) :: S.tail := by rw [c19]; rfl
              rw [e] at fin
              obtain ⟨m1, r1, r2, r3⟩ := f85_s L i2 (by omega)
              have l1 : S.tail.length ≤ S.length := by rw [List.length_tail]; omega
              obtain ⟨m2, s1, s2, s3⟩ := f84_s L (v := g_neg (S.headD 0)) r3 (by omega)
              rw [if_pos c19, bnd r1]
              simp only
              rw [bnd s1]
              exact ⟨_, rfl, fin m2 (FrE_t r2 s2) s3⟩
            · have e : ev1 fv S d = jn d (S.tail.headD 0) (S.headD 0) :: S.tail.tail := by unfold ev1; rw [if_neg (by omega), if_neg (by omega), if_neg c13, if_neg c19]
              rw [e] at fin
              obtain ⟨m1, r1, r2, r3⟩ := f83_s L (d := d) i2 (by omega)
              rw [if_neg c19, bnd r1]
              exact ⟨_, rfl, fin m1 r2 r3⟩
        · have e : ev1 fv S d = fv (-1 - d) :: S := by unfold ev1; rw [if_neg (by omega), if_pos (by omega)]
          rw [e] at fin
          rw [if_neg c6]
          unfold g_sub
          rw [w32_i (x := -1 - d) (by omega) (by omega), ra_in (by omega) (by omega), i1 53 _ (by decide) (by omega), hf _ (by omega) (by omega)]
          obtain ⟨m2, s1, s2, s3⟩ := f84_s L (v := fv (-1 - d)) i2 (by omega)
          rw [bnd s1]
          exact ⟨_, rfl, fin m2 s2 s3⟩
      · have e : ev1 fv S d = d :: S := if_pos (by omega)
        rw [e] at fin
        obtain ⟨m2, s1, s2, s3⟩ := f84_s L (v := d) i2 (by omega)
        rw [if_neg c0, bnd s1]
        exact ⟨_, rfl, fin m2 s2 s3⟩)
    (by
      rintro st ⟨m', rfl, i1, i2, i3⟩
      rw [List.take_length] at i2 i3
      obtain ⟨m1, r1, r2, r3⟩ := f85_s L i2 (by omega)
      refine ⟨_, ?_, m1, rfl, FrE_t i1 r2⟩
      unfold f82_b26
      simp only [KG L, if_true]
      rw [if_neg (by omega), bnd r1, xr_some])
    (by rw [FU_v]; omega) (a, put m0 25 4 0) ⟨_, by rw [show ((0 : Nat) : Int) = 0 from rfl, Int.add_zero], fun x i c1 c2 => by unfold put; rw [if_neg c2], ⟨by rw [put_eq]; rfl, fun j hj => absurd hj (by show ¬ j < 0; omega)⟩, by show 0 ≤ 0; omega⟩
  exact ⟨m', by rw [h1, h2], h3⟩
/-- a part of a text -/
def prt (cd : List Int) (tl : Nat) (part : Int) : List Int := if part = 0 then cd.take tl else cd.drop tl
theorem f82_s (L : Nat) {m0 : Sg} {t part : Int} {cd : List Int} {tl : Nat} {fv : Int → Int} (ht : 0 ≤ t ∧ t < 6) (hl : cd.length ≤ 160) (htl : tl ≤ cd.length) (hX : XC m0 t cd tl) (hf : ∀ j, 0 ≤ j → j < 6 → m0 53 j = fv j) : ∃ m', f82 (GC L) RC 25 t part 52 m0 = some ((evl fv [] (prt cd tl part)).headD 0, m') ∧ FrE m0 m' := by
  unfold f82 f82_8
  simp only [KG L, KR, RAx L, Option.bind_some, if_true]
  rw [ra_in ht.1 ht.2, ra_in ht.1 ht.2, hX.1, hX.2.1]
  by_cases c : part = 0
  · have e : prt cd tl part = cd.take tl := if_pos c
    have ln : (cd.take tl).length = tl := by rw [List.length_take]; omega
    have key := f82a_s L (m0 := m0) (a := 0) (cd := cd.take tl) (fv := fv) ht (by omega) (by omega) (fun i hi => by
      rw [ln] at hi
      rw [show 160 * t + (0 + (i : Int)) = 160 * t + i by omega, hX.2.2 i (by omega), List.getD_eq_getElem?_getD, List.getD_eq_getElem?_getD, List.getElem?_take, if_pos hi]) hf
    rw [ln, Int.zero_add] at key
    rw [if_pos c, if_pos c, e]
    exact key
  · have e : prt cd tl part = cd.drop tl := if_neg c
    have ln : (cd.drop tl).length = cd.length - tl := List.length_drop
    have key := f82a_s L (m0 := m0) (a := (tl : Int)) (cd := cd.drop tl) (fv := fv) ht (by omega) (by rw [ln]; omega) (fun i hi => by
      rw [ln] at hi
      rw [show 160 * t + ((tl : Int) + (i : Int)) = 160 * t + ((tl + i : Nat) : Int) by omega, hX.2.2 (tl + i) (by omega), List.getD_eq_getElem?_getD, List.getD_eq_getElem?_getD, List.getElem?_drop]) hf
    rw [ln, show (tl : Int) + ((cd.length - tl : Nat) : Int) = (cd.length : Int) by omega] at key
    rw [if_neg c, if_neg c, e]
    exact key
