/-! WHAT A TEXT IS, as the class reads it -/
theorem n10 : ¬ (1 : Int) = 0 := by decide
theorem pch_0 {T : Nat → Int} {it : Nat → List Int → RS} {op : Int → Int} {f n : Nat} {c : List Int} (h : op (T n) = 0) : pch T it op (f + 1) n c = (true, n, c) := by unfold pch; rw [if_pos h]
theorem pch_y {T : Nat → Int} {it : Nat → List Int → RS} {op : Int → Int} {f n : Nat} {c : List Int} {v : Int} (h : op (T n) = v) (hv : ¬ v = 0) (h2 : (it (n + 1) c).1 = true) : pch T it op (f + 1) n c = pch T it op f (it (n + 1) c).2.1 ((it (n + 1) c).2.2 ++ [v]) := by subst h; show (if op (T n) = 0 then _ else _) = _; rw [if_neg hv, if_pos h2]
theorem pch_n {T : Nat → Int} {it : Nat → List Int → RS} {op : Int → Int} {f n : Nat} {c : List Int} {v : Int} (h : op (T n) = v) (hv : ¬ v = 0) (h2 : ¬ (it (n + 1) c).1 = true) : pch T it op (f + 1) n c = it (n + 1) c := by subst h; show (if op (T n) = 0 then _ else _) = _; rw [if_neg hv, if_neg h2]
theorem pit_y {T : Nat → Int} {it : Nat → List Int → RS} {op : Int → Int} {n : Nat} {c : List Int} (h : (it n c).1 = true) : pit T it op n c = pch T it op 160 (it n c).2.1 (it n c).2.2 := if_pos h
theorem pit_n {T : Nat → Int} {it : Nat → List Int → RS} {op : Int → Int} {n : Nat} {c : List Int} (h : ¬ (it n c).1 = true) : pit T it op n c = it n c := if_neg h
theorem pcm_n {T : Nat → Int} {su : Nat → List Int → RS} {n : Nat} {c : List Int} (h : ¬ (su n c).1 = true) : pcm T su n c = su n c := if_neg h
theorem pcm_o {T : Nat → Int} {su : Nat → List Int → RS} {n : Nat} {c : List Int} (h : (su n c).1 = true) (h2 : ¬ (T (su n c).2.1 = 60 ∨ T (su n c).2.1 = 61)) : pcm T su n c = su n c := by unfold pcm; rw [if_pos h, if_neg h2]
theorem pcm_y {T : Nat → Int} {su : Nat → List Int → RS} {n : Nat} {c : List Int} (h : (su n c).1 = true) (h2 : T (su n c).2.1 = 60 ∨ T (su n c).2.1 = 61) (h3 : (su ((su n c).2.1 + 1) (su n c).2.2).1 = true) : pcm T su n c = (true, (su ((su n c).2.1 + 1) (su n c).2.2).2.1, (su ((su n c).2.1 + 1) (su n c).2.2).2.2 ++ [if T (su n c).2.1 = 60 then -14 else -15]) := by unfold pcm; rw [if_pos h, if_pos h2, if_pos h3]
theorem pcm_f {T : Nat → Int} {su : Nat → List Int → RS} {n : Nat} {c : List Int} (h : (su n c).1 = true) (h2 : T (su n c).2.1 = 60 ∨ T (su n c).2.1 = 61) (h3 : ¬ (su ((su n c).2.1 + 1) (su n c).2.2).1 = true) : pcm T su n c = su ((su n c).2.1 + 1) (su n c).2.2 := by unfold pcm; rw [if_pos h, if_pos h2, if_neg h3]
theorem pno_o {T : Nat → Int} {k : Nat} {ng cm : Nat → List Int → RS} {n : Nat} {c : List Int} (h : ¬ T n = 7) : pno T k ng cm n c = cm n c := if_neg h
theorem pno_0 {T : Nat → Int} {k : Nat} {ng cm : Nat → List Int → RS} {n : Nat} {c : List Int} (h : T n = 7) (hk : k = 0) : pno T k ng cm n c = (false, n, c) := by unfold pno; rw [if_pos h, if_pos hk]
theorem pno_y {T : Nat → Int} {k : Nat} {ng cm : Nat → List Int → RS} {n : Nat} {c : List Int} (h : T n = 7) (hk : ¬ k = 0) (h2 : (ng (n + 1) c).1 = true) : pno T k ng cm n c = (true, (ng (n + 1) c).2.1, (ng (n + 1) c).2.2 ++ [-13]) := by unfold pno; rw [if_pos h, if_neg hk, if_pos h2]
theorem pno_f {T : Nat → Int} {k : Nat} {ng cm : Nat → List Int → RS} {n : Nat} {c : List Int} (h : T n = 7) (hk : ¬ k = 0) (h2 : ¬ (ng (n + 1) c).1 = true) : pno T k ng cm n c = ng (n + 1) c := by unfold pno; rw [if_pos h, if_neg hk, if_neg h2]
section PON
variable {T V : Nat → Int} {k : Nat} {r1 rE : Nat → List Int → RS} {n : Nat} {c : List Int}
theorem pon_f (h : 8 ≤ T n ∧ T n < 14) : pon T V k r1 rE n c = (true, n + 1, c ++ [-1 - (T n - 8)]) := if_pos h
theorem pon_v (h : T n = 2) : pon T V k r1 rE n c = (true, n + 1, c ++ [V n]) := by unfold pon; rw [if_neg (by omega), if_pos h]
theorem pon_0 (h : ¬ (8 ≤ T n ∧ T n < 14)) (h2 : ¬ T n = 2) (hk : k = 0) : pon T V k r1 rE n c = (false, n, c) := by unfold pon; rw [if_neg h, if_neg h2, if_pos hk]
theorem pon_my (h : T n = 45) (hk : ¬ k = 0) (h3 : (r1 (n + 1) c).1 = true) : pon T V k r1 rE n c = (true, (r1 (n + 1) c).2.1, (r1 (n + 1) c).2.2 ++ [-19]) := by unfold pon; rw [if_neg (by omega), if_neg (by omega), if_neg hk, if_pos h, if_pos h3]
theorem pon_mn (h : T n = 45) (hk : ¬ k = 0) (h3 : ¬ (r1 (n + 1) c).1 = true) : pon T V k r1 rE n c = r1 (n + 1) c := by unfold pon; rw [if_neg (by omega), if_neg (by omega), if_neg hk, if_pos h, if_neg h3]
theorem pon_py (h : T n = 40) (hk : ¬ k = 0) (h3 : (rE (n + 1) c).1 = true) (h4 : T (rE (n + 1) c).2.1 = 41) : pon T V k r1 rE n c = (true, (rE (n + 1) c).2.1 + 1, (rE (n + 1) c).2.2) := by unfold pon; rw [if_neg (by omega), if_neg (by omega), if_neg hk, if_neg (by omega), if_pos h, if_pos h3, if_pos h4]
theorem pon_pc (h : T n = 40) (hk : ¬ k = 0) (h3 : (rE (n + 1) c).1 = true) (h4 : ¬ T (rE (n + 1) c).2.1 = 41) : pon T V k r1 rE n c = (false, (rE (n + 1) c).2.1, (rE (n + 1) c).2.2) := by unfold pon; rw [if_neg (by omega), if_neg (by omega), if_neg hk, if_neg (by omega), if_pos h, if_pos h3, if_neg h4]
theorem pon_pn (h : T n = 40) (hk : ¬ k = 0) (h3 : ¬ (rE (n + 1) c).1 = true) : pon T V k r1 rE n c = rE (n + 1) c := by unfold pon; rw [if_neg (by omega), if_neg (by omega), if_neg hk, if_neg (by omega), if_pos h, if_neg h3]
theorem pon_e (h : ¬ (8 ≤ T n ∧ T n < 14)) (h2 : ¬ T n = 2) (hk : ¬ k = 0) (h4 : ¬ T n = 45) (h5 : ¬ T n = 40) : pon T V k r1 rE n c = (false, n, c) := by unfold pon; rw [if_neg h, if_neg h2, if_neg hk, if_neg h4, if_neg h5]
end PON
theorem gd_l {c : List Int} {v : Int} {i : Nat} (h : i < c.length) : (c ++ [v]).getD i 0 = c.getD i 0 := by
  rw [List.getD_eq_getElem?_getD, List.getD_eq_getElem?_getD, List.getElem?_append_left h]
theorem gd_r {c : List Int} {v : Int} : (c ++ [v]).getD c.length 0 = v := by
  rw [List.getD_eq_getElem?_getD, List.getElem?_append_right (Nat.le_refl _), Nat.sub_self]
  rfl
def FrR (m0 m : Sg) : Prop := ∀ x i, ¬ x = 24 → ¬ (x = 14 ∧ (i = 5 ∨ i = 7)) → m x i = m0 x i
theorem FrR_r (m : Sg) : FrR m m := fun _ _ _ _ => rfl
def CP (m0 m : Sg) (n : Nat) (c : List Int) : Prop := FrR m0 m ∧ m 14 5 = n ∧ m 14 7 = c.length ∧ ∀ i : Nat, i < c.length → m 24 i = c.getD i 0
/-- the tokens as they stand split -/
def CT (T V : Nat → Int) (N : Nat) (m : Sg) : Prop := N ≤ 160 ∧ T N = 0 ∧ ∀ j : Nat, j ≤ N → m 18 j = T j ∧ (T j = 2 → m 20 j = V j)
def SX (m0 : Sg) (N : Nat) (F : Sg → Option (Int × Sg)) (it : Nat → List Int → RS) : Prop := ∀ (m : Sg) (n : Nat) (c : List Int), CP m0 m n c → n ≤ N → c.length ≤ n → ∃ m', F m = some (if (it n c).1 = true then 1 else 0, m') ∧ CP m0 m' (it n c).2.1 (it n c).2.2
theorem CP_n {m0 m : Sg} {n : Nat} {c : List Int} (h : CP m0 m n c) (hn : n ≤ 160) : CP m0 (put m 14 5 (g_add (m 14 5) 1)) (n + 1) c := by
  obtain ⟨h1, h2, h3, h4⟩ := h
  refine ⟨fun x i c1 c2 => ?_, ?_, by rw [put_nj (by decide)]; exact h3, fun i hi => by rw [put_ne (by decide)]; exact h4 i hi⟩
  · have : put m 14 5 (g_add (m 14 5) 1) x i = m x i := by unfold put; rw [if_neg (by omega)]
    rw [this]; exact h1 x i c1 c2
  · rw [put_eq, h2]
    unfold g_add
    rw [w32_i (by omega) (by omega)]
    rfl
theorem f21_s (L : Nat) {m0 m : Sg} {T V : Nat → Int} {N n : Nat} {c : List Int} {t : Int} (hT : CT T V N m0) (h : CP m0 m n c) (hn : n ≤ N) : (T n = t → f21 (GC L) RC 14 t m = some 1) ∧ (¬ T n = t → f21 (GC L) RC 14 t m = some 0) := by
  have hN := hT.1
  unfold f21
  simp only [KG L, KR, RAx L, Option.bind_some, if_true]
  rw [h.2.1, ra_in (by omega) (by omega), h.1 18 n (by decide) (by omega), (hT.2.2 n hn).1]
  exact ⟨fun q => by rw [if_pos q], fun q => by rw [if_neg q]⟩
theorem f22_s (L : Nat) {m0 m : Sg} {T V : Nat → Int} {N n : Nat} {c : List Int} {t : Int} (hT : CT T V N m0) (h : CP m0 m n c) (hn : n ≤ N) : (T n = t → ∃ m', f22 (GC L) RC 14 t m = some (1, m') ∧ CP m0 m' (n + 1) c) ∧ (¬ T n = t → f22 (GC L) RC 14 t m = some (0, m)) := by
  have hN := hT.1
  unfold f22
  simp only [KG L, if_true]
  constructor
  · intro q
    rw [bnd ((f21_s L hT h hn).1 q), if_neg (by exact n10)]
    exact ⟨_, rfl, CP_n h (by omega)⟩
  · intro q
    rw [bnd ((f21_s L hT h hn).2 q), if_pos rfl]
theorem f23_s (L : Nat) {m0 m : Sg} {n : Nat} {c : List Int} {v : Int} (h : CP m0 m n c) (hc : c.length < 160) : ∃ m', f23 (GC L) RC 14 v m = some m' ∧ CP m0 m' n (c ++ [v]) := by
  obtain ⟨h1, h2, h3, h4⟩ := h
  unfold f23
  simp only [KG L, KR, RPx L, Option.bind_some, if_true]
  rw [h3, rp_in (by omega) (by omega), put_ne (by decide), h3]
  unfold g_add
  rw [w32_i (by omega) (by omega)]
  refine ⟨_, rfl, fun x i c1 c2 => ?_, ?_, ?_, fun i hi => ?_⟩
  · rw [show put (put m 24 (c.length : Int) v) 14 7 ((c.length : Int) + 1) x i = m x i from by unfold put; rw [if_neg (by omega), if_neg (by omega)]]
    exact h1 x i c1 c2
  · rw [put_nj (by decide), put_ne (by decide)]; exact h2
  · rw [put_eq, len1]; rfl
  · rw [len1] at hi
    rw [put_ne (by decide)]
    by_cases e : i = c.length
    · rw [e, put_eq, gd_r]
    · rw [put_nj (by omega), gd_l (by omega)]
      exact h4 i (by omega)
theorem c30_s (L : Nat) {m0 : Sg} {T V : Nat → Int} {N : Nat} {rc : Nat → Nat → Int → Sg → Option (Int × Sg)} {o : Int} {it : Nat → List Int → RS} (hT : CT T V N m0) (hg : GdI N it) (hi : SX m0 N (rc 31 14 o) it) : ∀ (f : Nat) (m : Sg) (n : Nat) (c : List Int), f ≤ 160 → CP m0 m n c → n ≤ N → c.length ≤ n → ∀ F, f < F → ∃ m', lp (f30_b8 (GC L) RC rc 14 o) F (160 - (f : Int), m) = some (if (pch T it opT f n c).1 = true then 1 else 0, m') ∧ CP m0 m' (pch T it opT f n c).2.1 (pch T it opT f n c).2.2
  | 0, m, n, c, hf, h, hn, hl, F, hF => by
    obtain ⟨F, rfl⟩ : ∃ x, F = x + 1 := ⟨F - 1, by omega⟩
    refine ⟨m, lp_r ?_, h⟩
    unfold f30_b8
    simp only
    rw [if_neg (by omega), xr_some]
    rfl
  | f + 1, m, n, c, hf, h, hn, hl, F, hF => by
    obtain ⟨F, rfl⟩ : ∃ x, F = x + 1 := ⟨F - 1, by omega⟩
    have hN := hT.1
    have p22 := f22_s L (t := 42) hT h hn
    by_cases c1 : T n = 42
    · have o1 : opT (T n) = -18 := if_pos c1
      have hn1 := tk_l hT.2.1 hn (show ¬ T n = 0 by omega)
      obtain ⟨m1, r1, r2⟩ := p22.1 c1
      obtain ⟨m2, s1, s2⟩ := hi m1 (n + 1) c r2 (by omega) (by omega)
      obtain ⟨g1, g2, g3, g4⟩ := hg (n + 1) c (by omega)
      by_cases c2 : (it (n + 1) c).1 = true
      · rw [if_pos c2] at s1
        rw [pch_y o1 (by decide) c2]
        obtain ⟨m3, t1, t2⟩ := f23_s L (v := -18) s2 (by omega)
        obtain ⟨m4, u1, u2⟩ := c30_s L hT hg hi f m3 _ _ (by omega) t2 g2 (by rw [len1]; omega) F (by omega)
        refine ⟨m4, ?_, u2⟩
        rw [← u1]
        refine lp_i ?_
        unfold f30_b8
        simp only [KG L, if_true]
        rw [if_pos (by omega), bnd r1, if_neg (by exact n10), bnd s1, if_neg (by exact n10), bnd t1, w32_i (by omega) (by omega), show 160 - ((f + 1 : Nat) : Int) + 1 = 160 - (f : Int) by omega]
      · rw [pch_n o1 (by decide) c2, if_neg c2]
        rw [if_neg c2] at s1
        refine ⟨m2, lp_r ?_, s2⟩
        unfold f30_b8
        simp only [KG L, if_true]
        rw [if_pos (by omega), bnd r1, if_neg (by exact n10), bnd s1, if_pos rfl, xr_some]
    · have o1 : opT (T n) = 0 := if_neg c1
      rw [pch_0 o1]
      refine ⟨m, lp_r ?_, h⟩
      unfold f30_b8
      simp only [KG L, if_true]
      rw [if_pos (by omega), bnd (p22.2 c1), if_pos rfl, xr_some]
theorem f30_s (L : Nat) {m0 : Sg} {T V : Nat → Int} {N : Nat} {rc : Nat → Nat → Int → Sg → Option (Int × Sg)} {o : Int} {it : Nat → List Int → RS} (hT : CT T V N m0) (hg : GdI N it) (hi : SX m0 N (rc 31 14 o) it) : SX m0 N (f30 (GC L) RC rc 14 o) (pit T it opT) := by
  intro m n c h hn hl
  obtain ⟨m2, s1, s2⟩ := hi m n c h hn hl
  obtain ⟨g1, g2, g3, g4⟩ := hg n c hn
  unfold f30
  rw [if_pos (show gkb (GC L) 14 5 = true from rfl), bnd s1]
  by_cases c2 : (it n c).1 = true
  · rw [pit_y c2]
    simp only [if_pos c2]
    rw [if_neg (by exact n10)]
    exact c30_s L hT hg hi 160 m2 _ _ (by omega) s2 g2 (by omega) FU (by rw [FU_v]; omega)
  · rw [pit_n c2]
    simp only [if_neg c2]
    rw [if_pos trivial]
    exact ⟨m2, rfl, s2⟩
theorem c26_s (L : Nat) {m0 : Sg} {T V : Nat → Int} {N : Nat} {rc : Nat → Nat → Int → Sg → Option (Int × Sg)} {o : Int} {it : Nat → List Int → RS} (hT : CT T V N m0) (hg : GdI N it) (hi : SX m0 N (rc 27 14 o) it) : ∀ (f : Nat) (m : Sg) (n : Nat) (c : List Int), f ≤ 160 → CP m0 m n c → n ≤ N → c.length ≤ n → ∀ F, f < F → ∃ m', lp (f26_b8 (GC L) RC rc 14 o) F (160 - (f : Int), m) = some (if (pch T it opA f n c).1 = true then 1 else 0, m') ∧ CP m0 m' (pch T it opA f n c).2.1 (pch T it opA f n c).2.2
  | 0, m, n, c, hf, h, hn, hl, F, hF => by
    obtain ⟨F, rfl⟩ : ∃ x, F = x + 1 := ⟨F - 1, by omega⟩
    refine ⟨m, lp_r ?_, h⟩
    unfold f26_b8
    simp only
    rw [if_neg (by omega), xr_some]
    rfl
  | f + 1, m, n, c, hf, h, hn, hl, F, hF => by
    obtain ⟨F, rfl⟩ : ∃ x, F = x + 1 := ⟨F - 1, by omega⟩
    have hN := hT.1
    have p22 := f22_s L (t := 6) hT h hn
    by_cases c1 : T n = 6
    · have o1 : opA (T n) = -12 := if_pos c1
      have hn1 := tk_l hT.2.1 hn (show ¬ T n = 0 by omega)
      obtain ⟨m1, r1, r2⟩ := p22.1 c1
      obtain ⟨m2, s1, s2⟩ := hi m1 (n + 1) c r2 (by omega) (by omega)
      obtain ⟨g1, g2, g3, g4⟩ := hg (n + 1) c (by omega)
      by_cases c2 : (it (n + 1) c).1 = true
      · rw [if_pos c2] at s1
        rw [pch_y o1 (by decide) c2]
        obtain ⟨m3, t1, t2⟩ := f23_s L (v := -12) s2 (by omega)
        obtain ⟨m4, u1, u2⟩ := c26_s L hT hg hi f m3 _ _ (by omega) t2 g2 (by rw [len1]; omega) F (by omega)
        refine ⟨m4, ?_, u2⟩
        rw [← u1]
        refine lp_i ?_
        unfold f26_b8
        simp only [KG L, if_true]
        rw [if_pos (by omega), bnd r1, if_neg (by exact n10), bnd s1, if_neg (by exact n10), bnd t1, w32_i (by omega) (by omega), show 160 - ((f + 1 : Nat) : Int) + 1 = 160 - (f : Int) by omega]
      · rw [pch_n o1 (by decide) c2, if_neg c2]
        rw [if_neg c2] at s1
        refine ⟨m2, lp_r ?_, s2⟩
        unfold f26_b8
        simp only [KG L, if_true]
        rw [if_pos (by omega), bnd r1, if_neg (by exact n10), bnd s1, if_pos rfl, xr_some]
    · have o1 : opA (T n) = 0 := if_neg c1
      rw [pch_0 o1]
      refine ⟨m, lp_r ?_, h⟩
      unfold f26_b8
      simp only [KG L, if_true]
      rw [if_pos (by omega), bnd (p22.2 c1), if_pos rfl, xr_some]
theorem f26_s (L : Nat) {m0 : Sg} {T V : Nat → Int} {N : Nat} {rc : Nat → Nat → Int → Sg → Option (Int × Sg)} {o : Int} {it : Nat → List Int → RS} (hT : CT T V N m0) (hg : GdI N it) (hi : SX m0 N (rc 27 14 o) it) : SX m0 N (f26 (GC L) RC rc 14 o) (pit T it opA) := by
  intro m n c h hn hl
  obtain ⟨m2, s1, s2⟩ := hi m n c h hn hl
  obtain ⟨g1, g2, g3, g4⟩ := hg n c hn
  unfold f26
  rw [if_pos (show gkb (GC L) 14 5 = true from rfl), bnd s1]
  by_cases c2 : (it n c).1 = true
  · rw [pit_y c2]
    simp only [if_pos c2]
    rw [if_neg (by exact n10)]
    exact c26_s L hT hg hi 160 m2 _ _ (by omega) s2 g2 (by omega) FU (by rw [FU_v]; omega)
  · rw [pit_n c2]
    simp only [if_neg c2]
    rw [if_pos trivial]
    exact ⟨m2, rfl, s2⟩
theorem c25_s (L : Nat) {m0 : Sg} {T V : Nat → Int} {N : Nat} {rc : Nat → Nat → Int → Sg → Option (Int × Sg)} {o : Int} {it : Nat → List Int → RS} (hT : CT T V N m0) (hg : GdI N it) (hi : SX m0 N (rc 26 14 o) it) : ∀ (f : Nat) (m : Sg) (n : Nat) (c : List Int), f ≤ 160 → CP m0 m n c → n ≤ N → c.length ≤ n → ∀ F, f < F → ∃ m', lp (f25_b8 (GC L) RC rc 14 o) F (160 - (f : Int), m) = some (if (pch T it opO f n c).1 = true then 1 else 0, m') ∧ CP m0 m' (pch T it opO f n c).2.1 (pch T it opO f n c).2.2
  | 0, m, n, c, hf, h, hn, hl, F, hF => by
    obtain ⟨F, rfl⟩ : ∃ x, F = x + 1 := ⟨F - 1, by omega⟩
    refine ⟨m, lp_r ?_, h⟩
    unfold f25_b8
    simp only
    rw [if_neg (by omega), xr_some]
    rfl
  | f + 1, m, n, c, hf, h, hn, hl, F, hF => by
    obtain ⟨F, rfl⟩ : ∃ x, F = x + 1 := ⟨F - 1, by omega⟩
    have hN := hT.1
    have p22 := f22_s L (t := 5) hT h hn
    by_cases c1 : T n = 5
    · have o1 : opO (T n) = -11 := if_pos c1
      have hn1 := tk_l hT.2.1 hn (show ¬ T n = 0 by omega)
      obtain ⟨m1, r1, r2⟩ := p22.1 c1
      obtain ⟨m2, s1, s2⟩ := hi m1 (n + 1) c r2 (by omega) (by omega)
      obtain ⟨g1, g2, g3, g4⟩ := hg (n + 1) c (by omega)
      by_cases c2 : (it (n + 1) c).1 = true
      · rw [if_pos c2] at s1
        rw [pch_y o1 (by decide) c2]
        obtain ⟨m3, t1, t2⟩ := f23_s L (v := -11) s2 (by omega)
        obtain ⟨m4, u1, u2⟩ := c25_s L hT hg hi f m3 _ _ (by omega) t2 g2 (by rw [len1]; omega) F (by omega)
        refine ⟨m4, ?_, u2⟩
        rw [← u1]
        refine lp_i ?_
        unfold f25_b8
        simp only [KG L, if_true]
        rw [if_pos (by omega), bnd r1, if_neg (by exact n10), bnd s1, if_neg (by exact n10), bnd t1, w32_i (by omega) (by omega), show 160 - ((f + 1 : Nat) : Int) + 1 = 160 - (f : Int) by omega]
      · rw [pch_n o1 (by decide) c2, if_neg c2]
        rw [if_neg c2] at s1
        refine ⟨m2, lp_r ?_, s2⟩
        unfold f25_b8
        simp only [KG L, if_true]
        rw [if_pos (by omega), bnd r1, if_neg (by exact n10), bnd s1, if_pos rfl, xr_some]
    · have o1 : opO (T n) = 0 := if_neg c1
      rw [pch_0 o1]
      refine ⟨m, lp_r ?_, h⟩
      unfold f25_b8
      simp only [KG L, if_true]
      rw [if_pos (by omega), bnd (p22.2 c1), if_pos rfl, xr_some]
theorem f25_s (L : Nat) {m0 : Sg} {T V : Nat → Int} {N : Nat} {rc : Nat → Nat → Int → Sg → Option (Int × Sg)} {o : Int} {it : Nat → List Int → RS} (hT : CT T V N m0) (hg : GdI N it) (hi : SX m0 N (rc 26 14 o) it) : SX m0 N (f25 (GC L) RC rc 14 o) (pit T it opO) := by
  intro m n c h hn hl
  obtain ⟨m2, s1, s2⟩ := hi m n c h hn hl
  obtain ⟨g1, g2, g3, g4⟩ := hg n c hn
  unfold f25
  rw [if_pos (show gkb (GC L) 14 5 = true from rfl), bnd s1]
  by_cases c2 : (it n c).1 = true
  · rw [pit_y c2]
    simp only [if_pos c2]
    rw [if_neg (by exact n10)]
    exact c25_s L hT hg hi 160 m2 _ _ (by omega) s2 g2 (by omega) FU (by rw [FU_v]; omega)
  · rw [pit_n c2]
    simp only [if_neg c2]
    rw [if_pos trivial]
    exact ⟨m2, rfl, s2⟩
theorem c29_s (L : Nat) {m0 : Sg} {T V : Nat → Int} {N : Nat} {rc : Nat → Nat → Int → Sg → Option (Int × Sg)} {o : Int} {it : Nat → List Int → RS} (hT : CT T V N m0) (hg : GdI N it) (hi : SX m0 N (rc 30 14 o) it) : ∀ (f : Nat) (m : Sg) (n : Nat) (c : List Int), f ≤ 160 → CP m0 m n c → n ≤ N → c.length ≤ n → ∀ F, f < F → ∃ m', lp (f29_b8 (GC L) RC rc 14 o) F (160 - (f : Int), m) = some (if (pch T it opS f n c).1 = true then 1 else 0, m') ∧ CP m0 m' (pch T it opS f n c).2.1 (pch T it opS f n c).2.2
  | 0, m, n, c, hf, h, hn, hl, F, hF => by
    obtain ⟨F, rfl⟩ : ∃ x, F = x + 1 := ⟨F - 1, by omega⟩
    refine ⟨m, lp_r ?_, h⟩
    unfold f29_b8
    simp only
    rw [if_neg (by omega), xr_some]
    rfl
  | f + 1, m, n, c, hf, h, hn, hl, F, hF => by
    obtain ⟨F, rfl⟩ : ∃ x, F = x + 1 := ⟨F - 1, by omega⟩
    have hN := hT.1
    have p43 := f21_s L (t := 43) hT h hn
    have p45 := f21_s L (t := 45) hT h hn
    by_cases c0 : T n = 43 ∨ T n = 45
    · have hn1 := tk_l hT.2.1 hn (show ¬ T n = 0 by omega)
      obtain ⟨m2, s1, s2⟩ := hi _ (n + 1) c (CP_n h (by omega)) (by omega) (by omega)
      obtain ⟨g1, g2, g3, g4⟩ := hg (n + 1) c (by omega)
      have main : ∀ v : Int, opS (T n) = v → ¬ v = 0 → f29_b8 (GC L) RC rc 14 o (160 - ((f + 1 : Nat) : Int), m) = f29_26 (GC L) RC rc 14 o (160 - ((f + 1 : Nat) : Int)) v m → ∃ m', lp (f29_b8 (GC L) RC rc 14 o) (F + 1) (160 - ((f + 1 : Nat) : Int), m) = some (if (pch T it opS (f + 1) n c).1 = true then 1 else 0, m') ∧ CP m0 m' (pch T it opS (f + 1) n c).2.1 (pch T it opS (f + 1) n c).2.2 := by
        intro v hv hv2 hb
        by_cases c2 : (it (n + 1) c).1 = true
        · rw [if_pos c2] at s1
          rw [pch_y hv hv2 c2]
          obtain ⟨m3, t1, t2⟩ := f23_s L (v := v) s2 (by omega)
          obtain ⟨m4, u1, u2⟩ := c29_s L hT hg hi f m3 _ _ (by omega) t2 g2 (by rw [len1]; omega) F (by omega)
          refine ⟨m4, ?_, u2⟩
          rw [← u1]
          refine lp_i ?_
          rw [hb]
          unfold f29_26
          simp only [KG L, if_true]
          rw [bnd s1, if_neg (by exact n10), bnd t1, w32_i (by omega) (by omega), show 160 - ((f + 1 : Nat) : Int) + 1 = 160 - (f : Int) by omega]
        · rw [pch_n hv hv2 c2, if_neg c2]
          rw [if_neg c2] at s1
          refine ⟨m2, lp_r ?_, s2⟩
          rw [hb]
          unfold f29_26
          simp only [KG L, if_true]
          rw [bnd s1, if_pos rfl, xr_some]
      by_cases c1 : T n = 43
      · have o1 : opS (T n) = -16 := if_pos c1
        refine main (-16) o1 (by decide) ?_
        unfold f29_b8 f29_19
        simp only [KG L, if_true]
        rw [if_pos (by omega), bnd (p43.1 c1), if_neg (by exact n10), bnd (p43.1 c1), if_neg (by exact n10)]
      · have o1 : opS (T n) = -17 := by unfold opS; rw [if_neg c1, if_pos (by omega)]
        refine main (-17) o1 (by decide) ?_
        unfold f29_b8 f29_19
        simp only [KG L, if_true]
        rw [if_pos (by omega), bnd (p43.2 c1), if_pos rfl, bnd (p45.1 (by omega)), if_neg (by exact n10), bnd (p43.2 c1), if_pos rfl]
    · have o1 : opS (T n) = 0 := by unfold opS; rw [if_neg (by omega), if_neg (by omega)]
      rw [pch_0 o1]
      refine ⟨m, lp_r ?_, h⟩
      unfold f29_b8
      simp only [KG L, if_true]
      rw [if_pos (by omega), bnd (p43.2 (by omega)), if_pos rfl, bnd (p45.2 (by omega)), if_pos rfl, xr_some]
theorem f29_s (L : Nat) {m0 : Sg} {T V : Nat → Int} {N : Nat} {rc : Nat → Nat → Int → Sg → Option (Int × Sg)} {o : Int} {it : Nat → List Int → RS} (hT : CT T V N m0) (hg : GdI N it) (hi : SX m0 N (rc 30 14 o) it) : SX m0 N (f29 (GC L) RC rc 14 o) (pit T it opS) := by
  intro m n c h hn hl
  obtain ⟨m2, s1, s2⟩ := hi m n c h hn hl
  obtain ⟨g1, g2, g3, g4⟩ := hg n c hn
  unfold f29
  rw [if_pos (show gkb (GC L) 14 5 = true from rfl), bnd s1]
  by_cases c2 : (it n c).1 = true
  · rw [pit_y c2]
    simp only [if_pos c2]
    rw [if_neg (by exact n10)]
    exact c29_s L hT hg hi 160 m2 _ _ (by omega) s2 g2 (by omega) FU (by rw [FU_v]; omega)
  · rw [pit_n c2]
    simp only [if_neg c2]
    rw [if_pos trivial]
    exact ⟨m2, rfl, s2⟩
theorem f28_s (L : Nat) {m0 : Sg} {T V : Nat → Int} {N : Nat} {rc : Nat → Nat → Int → Sg → Option (Int × Sg)} {o : Int} {it : Nat → List Int → RS} (hT : CT T V N m0) (hg : GdI N it) (hi : SX m0 N (rc 29 14 o) it) : SX m0 N (f28 (GC L) RC rc 14 o) (pcm T it) := by
  intro m n c h hn hl
  obtain ⟨m2, s1, s2⟩ := hi m n c h hn hl
  obtain ⟨g1, g2, g3, g4⟩ := hg n c hn
  have hN := hT.1
  unfold f28
  rw [if_pos (show gkb (GC L) 14 5 = true from rfl), bnd s1]
  by_cases c2 : (it n c).1 = true
  · simp only [if_pos c2]
    rw [if_neg (by exact n10)]
    have p60 := f21_s L (t := 60) hT s2 g2
    have p61 := f21_s L (t := 61) hT s2 g2
    by_cases c0 : T (it n c).2.1 = 60 ∨ T (it n c).2.1 = 61
    · have hn1 := tk_l hT.2.1 g2 (show ¬ T (it n c).2.1 = 0 by omega)
      have hlt := g4 c2
      obtain ⟨m3, t1, t2⟩ := hi _ ((it n c).2.1 + 1) (it n c).2.2 (CP_n s2 (by omega)) (by omega) (by omega)
      obtain ⟨k1, k2, k3, k4⟩ := hg ((it n c).2.1 + 1) (it n c).2.2 (by omega)
      have main : ∀ z v : Int, (if T (it n c).2.1 = 60 then -14 else -15) = v → (if z = 0 then -15 else -14) = v → ∃ m', f28_18 (GC L) RC rc 14 o z m2 = some (if (pcm T it n c).1 = true then 1 else 0, m') ∧ CP m0 m' (pcm T it n c).2.1 (pcm T it n c).2.2 := by
        intro z v hv2 hv
        unfold f28_18 f28_36
        simp only [KG L, if_true]
        by_cases c3 : (it ((it n c).2.1 + 1) (it n c).2.2).1 = true
        · rw [if_pos c3] at t1
          rw [pcm_y c2 c0 c3, hv2, bnd t1, if_neg (by exact n10)]
          obtain ⟨m4, u1, u2⟩ := f23_s L (v := v) t2 (by omega)
          refine ⟨m4, ?_, u2⟩
          by_cases cz : z = 0
          · rw [if_pos cz] at hv
            rw [if_pos cz, hv, bnd u1]; rfl
          · rw [if_neg cz] at hv
            rw [if_neg cz, hv, bnd u1]; rfl
        · rw [pcm_f c2 c0 c3, if_neg c3]
          rw [if_neg c3] at t1
          rw [bnd t1, if_pos rfl]
          exact ⟨m3, rfl, t2⟩
      by_cases c1 : T (it n c).2.1 = 60
      · rw [bnd (p60.1 c1), if_neg (by exact n10)]
        exact main 1 (-14) (if_pos c1) rfl
      · rw [bnd (p60.2 c1), if_pos rfl, bnd (p61.1 (by omega)), if_neg (by exact n10)]
        exact main 0 (-15) (if_neg c1) rfl
    · rw [pcm_o c2 c0, if_pos c2, bnd (p60.2 (by omega)), if_pos rfl, bnd (p61.2 (by omega)), if_pos rfl]
      exact ⟨m2, rfl, s2⟩
  · rw [pcm_n c2]
    simp only [if_neg c2]
    rw [if_pos trivial]
    exact ⟨m2, rfl, s2⟩
theorem f27_s (L : Nat) {m0 : Sg} {T V : Nat → Int} {N k : Nat} {rc : Nat → Nat → Int → Sg → Option (Int × Sg)} {ng cm : Nat → List Int → RS} (hT : CT T V N m0) (hk : k ≤ 5) (h1 : 0 < k → GdI N ng ∧ SX m0 N (rc 27 14 (5 - (k : Int) + 1)) ng) (h2 : SX m0 N (rc 28 14 (5 - (k : Int))) cm) : SX m0 N (f27 (GC L) RC rc 14 (5 - (k : Int))) (pno T k ng cm) := by
  intro m n c h hn hl
  have hN := hT.1
  have p7 := f21_s L (t := 7) hT h hn
  unfold f27
  rw [if_pos (show gkb (GC L) 14 5 = true from rfl)]
  by_cases c1 : T n = 7
  · rw [bnd (p7.1 c1), if_neg (by exact n10)]
    have hn1 := tk_l hT.2.1 hn (show ¬ T n = 0 by omega)
    by_cases c2 : k = 0
    · rw [pno_0 c1 c2, if_neg (by omega)]
      exact ⟨m, rfl, h⟩
    · rw [if_pos (by omega)]
      obtain ⟨hg, hi⟩ := h1 (by omega)
      obtain ⟨m3, t1, t2⟩ := hi _ (n + 1) c (CP_n h (by omega)) (by omega) (by omega)
      obtain ⟨k1, k2, k3, k4⟩ := hg (n + 1) c (by omega)
      have eo : g_add (5 - (k : Int)) 1 = 5 - (k : Int) + 1 := by unfold g_add; rw [w32_i (by omega) (by omega)]
      rw [eo]
      by_cases c3 : (ng (n + 1) c).1 = true
      · rw [if_pos c3] at t1
        rw [pno_y c1 c2 c3, bnd t1, if_neg (by exact n10)]
        obtain ⟨m4, u1, u2⟩ := f23_s L (v := -13) t2 (by omega)
        rw [bnd u1]
        exact ⟨m4, rfl, u2⟩
      · rw [pno_f c1 c2 c3, if_neg c3]
        rw [if_neg c3] at t1
        rw [bnd t1, if_pos rfl]
        exact ⟨m3, rfl, t2⟩
  · rw [pno_o c1, bnd (p7.2 c1), if_pos rfl]
    obtain ⟨m2, s1, s2⟩ := h2 m n c h hn hl
    rw [bnd s1]
    refine ⟨m2, ?_, s2⟩
    by_cases c3 : (cm n c).1 = true
    · simp only [if_pos c3]
      rw [if_pos (by decide)]
    · simp only [if_neg c3]
      rw [if_pos (by decide)]
theorem f31_s (L : Nat) {m0 : Sg} {T V : Nat → Int} {N k : Nat} {rc : Nat → Nat → Int → Sg → Option (Int × Sg)} {r1 rE : Nat → List Int → RS} (hT : CT T V N m0) (hk : k ≤ 5) (h1 : 0 < k → GdI N r1 ∧ SX m0 N (rc 31 14 (5 - (k : Int) + 1)) r1) (hE : 0 < k → GdI N rE ∧ SX m0 N (rc 25 14 (5 - (k : Int) + 1)) rE) : SX m0 N (f31 (GC L) RC rc 14 (5 - (k : Int))) (pon T V k r1 rE) := by
  intro m n c h hn hl
  have hN := hT.1
  have w35 : ∀ v : Int, c.length < 160 → n < 160 → ∃ m', f31_35 (GC L) RC rc 14 v 14 m = some (1, m') ∧ CP m0 m' (n + 1) (c ++ [v]) := by
    intro v hc hn2
    obtain ⟨m4, u1, u2⟩ := f23_s L (v := v) h hc
    unfold f31_35
    simp only [KG L, if_true]
    rw [bnd u1]
    exact ⟨_, rfl, CP_n u2 (by omega)⟩
  have eT : m 18 n = T n := by rw [h.1 18 n (by decide) (by omega)]; exact (hT.2.2 n hn).1
  unfold f31
  simp only [KG L, KR, RAx L, Option.bind_some, if_true]
  rw [h.2.1, ra_in (by omega) (by omega), eT]
  by_cases c1 : 8 ≤ T n ∧ T n < 14
  · have hn1 := tk_l hT.2.1 hn (show ¬ T n = 0 by omega)
    rw [pon_f c1, if_neg (by omega), if_pos c1.2]
    unfold f31_15 f31_21
    rw [if_neg (by exact n10), if_neg (by exact n10)]
    unfold g_sub
    rw [w32_i (x := T n - 8) (by omega) (by omega), w32_i (by omega) (by omega)]
    obtain ⟨m', r1, r2⟩ := w35 (-1 - (T n - 8)) (by omega) (by omega)
    rw [r1]
    exact ⟨m', rfl, r2⟩
  have e0 : (if T n < 8 then f31_15 (GC L) RC rc 14 (5 - (k : Int)) (T n) 0 m else (if T n < 14 then f31_15 (GC L) RC rc 14 (5 - (k : Int)) (T n) 1 m else f31_15 (GC L) RC rc 14 (5 - (k : Int)) (T n) 0 m)) = f31_15 (GC L) RC rc 14 (5 - (k : Int)) (T n) 0 m := by
    by_cases q : T n < 8
    · rw [if_pos q]
    · rw [if_neg q, if_neg (by omega)]
  rw [e0]
  unfold f31_15 f31_21
  rw [if_pos rfl]
  by_cases c2 : T n = 2
  · have hn1 := tk_l hT.2.1 hn (show ¬ T n = 0 by omega)
    simp only [KG L, KR, RAx L, Option.bind_some, if_true]
    rw [pon_v c2, if_pos c2, h.2.1, ra_in (by omega) (by omega), h.1 20 n (by decide) (by omega), (hT.2.2 n hn).2 c2]
    obtain ⟨m', r1, r2⟩ := w35 (V n) (by omega) (by omega)
    rw [r1]
    exact ⟨m', rfl, r2⟩
  rw [if_neg c2]
  by_cases c3 : k = 0
  · rw [pon_0 c1 c2 c3, if_neg (by omega)]
    exact ⟨m, rfl, h⟩
  rw [if_pos (by omega), if_pos (show gkb (GC L) 14 5 = true from rfl)]
  have eo : g_add (5 - (k : Int)) 1 = 5 - (k : Int) + 1 := by unfold g_add; rw [w32_i (by omega) (by omega)]
  rw [eo]
  have p45 := f22_s L (t := 45) hT h hn
  have p40 := f22_s L (t := 40) hT h hn
  by_cases c4 : T n = 45
  · have hn1 := tk_l hT.2.1 hn (show ¬ T n = 0 by omega)
    obtain ⟨m1, u1, u2⟩ := p45.1 c4
    obtain ⟨hg, hi⟩ := h1 (by omega)
    obtain ⟨m2, s1, s2⟩ := hi m1 (n + 1) c u2 (by omega) (by omega)
    obtain ⟨k1, k2, k3, k4⟩ := hg (n + 1) c (by omega)
    rw [bnd u1, if_neg (by exact n10)]
    by_cases c5 : (r1 (n + 1) c).1 = true
    · rw [if_pos c5] at s1
      rw [pon_my c4 c3 c5, bnd s1, if_neg (by exact n10)]
      obtain ⟨m4, t1, t2⟩ := f23_s L (v := -19) s2 (by omega)
      rw [bnd t1]
      exact ⟨m4, rfl, t2⟩
    · rw [pon_mn c4 c3 c5, if_neg c5]
      rw [if_neg c5] at s1
      rw [bnd s1, if_pos rfl]
      exact ⟨m2, rfl, s2⟩
  rw [bnd (p45.2 c4), if_pos rfl]
  by_cases c5 : T n = 40
  · have hn1 := tk_l hT.2.1 hn (show ¬ T n = 0 by omega)
    obtain ⟨m1, u1, u2⟩ := p40.1 c5
    obtain ⟨hg, hi⟩ := hE (by omega)
    obtain ⟨m2, s1, s2⟩ := hi m1 (n + 1) c u2 (by omega) (by omega)
    obtain ⟨k1, k2, k3, k4⟩ := hg (n + 1) c (by omega)
    rw [bnd u1, if_neg (by exact n10)]
    by_cases c6 : (rE (n + 1) c).1 = true
    · rw [if_pos c6] at s1
      rw [bnd s1, if_neg (by exact n10)]
      have p41 := f22_s L (t := 41) hT s2 k2
      by_cases c7 : T (rE (n + 1) c).2.1 = 41
      · rw [pon_py c5 c3 c6 c7]
        obtain ⟨m3, t1, t2⟩ := p41.1 c7
        rw [bnd t1, if_neg (by exact n10)]
        exact ⟨m3, rfl, t2⟩
      · rw [pon_pc c5 c3 c6 c7, bnd (p41.2 c7), if_pos rfl]
        exact ⟨m2, rfl, s2⟩
    · rw [pon_pn c5 c3 c6, if_neg c6]
      rw [if_neg c6] at s1
      rw [bnd s1, if_pos rfl]
      exact ⟨m2, rfl, s2⟩
  rw [pon_e c1 c2 c3 c4 c5, bnd (p40.2 c5), if_pos rfl]
  exact ⟨m, rfl, h⟩
/-- all of the grammar -/
theorem FnX_31 (G : Gg) (ρ : Rg) (n : Nat) : FnX G ρ (n + 1) 31 = f31 G ρ (FnX G ρ n) := by funext a o m; rfl
theorem FnX_27 (G : Gg) (ρ : Rg) (n : Nat) : FnX G ρ (n + 1) 27 = f27 G ρ (FnX G ρ n) := by funext a o m; rfl
theorem FnX_s (L : Nat) {m0 : Sg} {T V : Nat → Int} {N : Nat} (hT : CT T V N m0) : ∀ k : Nat, k ≤ 5 → (∀ F, 7 * k + 1 ≤ F → SX m0 N (FnX (GC L) RC F 31 14 (5 - (k : Int))) (pA T V k 31)) ∧ (∀ F, 7 * k + 5 ≤ F → SX m0 N (FnX (GC L) RC F 27 14 (5 - (k : Int))) (pA T V k 27)) ∧ (∀ F, 7 * k + 7 ≤ F → SX m0 N (FnX (GC L) RC F 25 14 (5 - (k : Int))) (pA T V k 25)) := by
  have step : ∀ k : Nat, k ≤ 5 → (0 < k → (∀ F, 7 * k ≤ F → (GdI N (pR T V k 31) ∧ SX m0 N (FnX (GC L) RC F 31 14 (5 - (k : Int) + 1)) (pR T V k 31)) ∧ (GdI N (pR T V k 27) ∧ SX m0 N (FnX (GC L) RC F 27 14 (5 - (k : Int) + 1)) (pR T V k 27)) ∧ (GdI N (pR T V k 25) ∧ SX m0 N (FnX (GC L) RC F 25 14 (5 - (k : Int) + 1)) (pR T V k 25)))) → (∀ F, 7 * k + 1 ≤ F → SX m0 N (FnX (GC L) RC F 31 14 (5 - (k : Int))) (pA T V k 31)) ∧ (∀ F, 7 * k + 5 ≤ F → SX m0 N (FnX (GC L) RC F 27 14 (5 - (k : Int))) (pA T V k 27)) ∧ (∀ F, 7 * k + 7 ≤ F → SX m0 N (FnX (GC L) RC F 25 14 (5 - (k : Int))) (pA T V k 25)) := by
    intro k hk h
    obtain ⟨g1, g2, g3, g4, g5, g6, g7⟩ := GdI_A (T := T) (V := V) hT.2.1 k
    have a31 : ∀ F, 7 * k + 1 ≤ F → SX m0 N (FnX (GC L) RC F 31 14 (5 - (k : Int))) (pA T V k 31) := by
      intro F hF
      obtain ⟨F, rfl⟩ : ∃ x, F = x + 1 := ⟨F - 1, by omega⟩
      rw [pA_31, FnX_31]
      exact f31_s L hT hk (fun q => ((h q) F (by omega)).1) (fun q => ((h q) F (by omega)).2.2)
    have a30 : ∀ F, 7 * k + 2 ≤ F → SX m0 N (FnX (GC L) RC F 30 14 (5 - (k : Int))) (pA T V k 30) := by
      intro F hF
      obtain ⟨F, rfl⟩ : ∃ x, F = x + 1 := ⟨F - 1, by omega⟩
      rw [pA_30]
      exact f30_s L hT g1 (a31 F (by omega))
    have a29 : ∀ F, 7 * k + 3 ≤ F → SX m0 N (FnX (GC L) RC F 29 14 (5 - (k : Int))) (pA T V k 29) := by
      intro F hF
      obtain ⟨F, rfl⟩ : ∃ x, F = x + 1 := ⟨F - 1, by omega⟩
      rw [pA_29]
      exact f29_s L hT g2 (a30 F (by omega))
    have a28 : ∀ F, 7 * k + 4 ≤ F → SX m0 N (FnX (GC L) RC F 28 14 (5 - (k : Int))) (pA T V k 28) := by
      intro F hF
      obtain ⟨F, rfl⟩ : ∃ x, F = x + 1 := ⟨F - 1, by omega⟩
      rw [pA_28]
      exact f28_s L hT g3 (a29 F (by omega))
    have a27 : ∀ F, 7 * k + 5 ≤ F → SX m0 N (FnX (GC L) RC F 27 14 (5 - (k : Int))) (pA T V k 27) := by
      intro F hF
      obtain ⟨F, rfl⟩ : ∃ x, F = x + 1 := ⟨F - 1, by omega⟩
      rw [pA_27, FnX_27]
      exact f27_s L hT hk (fun q => ((h q) F (by omega)).2.1) (a28 F (by omega))
    have a26 : ∀ F, 7 * k + 6 ≤ F → SX m0 N (FnX (GC L) RC F 26 14 (5 - (k : Int))) (pA T V k 26) := by
      intro F hF
      obtain ⟨F, rfl⟩ : ∃ x, F = x + 1 := ⟨F - 1, by omega⟩
      rw [pA_26]
      exact f26_s L hT g5 (a27 F (by omega))
    refine ⟨a31, a27, fun F hF => ?_⟩
    obtain ⟨F, rfl⟩ : ∃ x, F = x + 1 := ⟨F - 1, by omega⟩
    rw [pA_25]
    exact f25_s L hT g6 (a26 F (by omega))
  intro k
  induction k with
  | zero => intro _; exact step 0 (by omega) (fun q => by omega)
  | succ k ih =>
    intro hk
    obtain ⟨i1, i2, i3⟩ := ih (by omega)
    obtain ⟨g1, g2, g3, g4, g5, g6, g7⟩ := GdI_A (T := T) (V := V) hT.2.1 k
    refine step (k + 1) hk (fun _ F hF => ?_)
    rw [show 5 - ((k + 1 : Nat) : Int) + 1 = 5 - (k : Int) by omega]
    exact ⟨⟨g1, i1 F (by omega)⟩, ⟨g5, i2 F (by omega)⟩, ⟨g7, i3 F (by omega)⟩⟩
