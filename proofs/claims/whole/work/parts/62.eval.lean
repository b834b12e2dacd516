/-! WHAT A TEXT COMES TO; the model's reader: tokens tested -/
def jn (d l r : Int) : Int := if d = -11 then (if l = 0 then (if r = 0 then 0 else 1) else 1) else if d = -12 then (if l = 0 then 0 else if r = 0 then 0 else 1) else if d = -14 then (if l < r then 1 else 0) else if d = -15 then (if l = r then 1 else 0) else if d = -16 then g_add l r else if d = -17 then g_sub l r else g_mul l r
def ev1 (fv : Int → Int) (st : List Int) (d : Int) : List Int := if 0 ≤ d then d :: st else if -6 ≤ d then fv (-1 - d) :: st else if d = -13 then (if st.headD 0 = 0 then 1 else 0) :: st.tail else if d = -19 then g_neg (st.headD 0) :: st.tail else jn d (st.tail.headD 0) (st.headD 0) :: st.tail.tail
def evl (fv : Int → Int) (st : List Int) (cd : List Int) : List Int := cd.foldl (ev1 fv) st
theorem evl_a (fv : Int → Int) (st a c : List Int) : evl fv st (a ++ c) = evl fv (evl fv st a) c := List.foldl_append
theorem evl_1 (fv : Int → Int) (st : List Int) (d : Int) : evl fv st [d] = ev1 fv st d := rfl
theorem ev1_j {fv : Int → Int} {st : List Int} {d l r : Int} (h : d < -6) (h2 : ¬ d = -13) (h3 : ¬ d = -19) : ev1 fv (r :: l :: st) d = jn d l r :: st := by
  unfold ev1
  rw [if_neg (by omega), if_neg (by omega), if_neg h2, if_neg h3]
  rfl
theorem ev1_n {fv : Int → Int} {st : List Int} {r : Int} : ev1 fv (r :: st) (-13) = (if r = 0 then 1 else 0) :: st := rfl
theorem ev1_m {fv : Int → Int} {st : List Int} {r : Int} : ev1 fv (r :: st) (-19) = g_neg r :: st := rfl
theorem ev1_v {fv : Int → Int} {st : List Int} {d : Int} (h : 0 ≤ d) : ev1 fv st d = d :: st := if_pos h
theorem ev1_f {fv : Int → Int} {st : List Int} {d : Int} (h : 0 ≤ d) (h2 : d < 6) : ev1 fv st (-1 - d) = fv d :: st := by
  unfold ev1
  rw [if_neg (by omega), if_pos (by omega), show -1 - (-1 - d) = d by omega]
section MODEL
variable {b : Int → Int} {sz : Int} {m0 : Sg} {N : Nat}
/-- a text that is read, its last token -/
def MH (b : Int → Int) (sz : Int) (m0 : Sg) (N : Nat) : Prop := TX b sz m0 ∧ N ≤ 160 ∧ SP b sz N = sz ∧ ∀ j, j < N → SP b sz j < sz
def fvm (m0 : Sg) (j : Int) : Int := if 0 ≤ j then m0 120 (39 + j) else 0
def MP (b : Int → Int) (sz : Int) (m0 : Sg) (k : Nat) (m : Sg) (n : Nat) : Prop := FrX m0 m ∧ m 120 37 = 0 ∧ m 120 36 = 5 - (k : Int) ∧ MTp b sz (SP b sz n) m
def MR (b : Int → Int) (sz : Int) (m0 : Sg) (k : Nat) (r : RS) (c : List Int) (w : Int) (m' : Sg) : Prop := (r.1 = true → MP b sz m0 k m' r.2.1 ∧ ∃ cd, r.2.2 = c ++ cd ∧ ∀ st, evl (fvm m0) st cd = w :: st) ∧ (¬ r.1 = true → m' 120 37 = 1 ∧ m' 120 38 = SP b sz r.2.1)
def MX (b : Int → Int) (sz : Int) (m0 : Sg) (N k : Nat) (F : Sg → Option (Int × Sg)) (it : Nat → List Int → RS) : Prop := ∀ (m : Sg) (n : Nat) (c : List Int), MP b sz m0 k m n → n ≤ N → ∃ w m', F m = some (w, m') ∧ FrX m0 m' ∧ MR b sz m0 k (it n c) c w m'
theorem tko_r (p : Int) : 0 ≤ tko b sz p ∧ (tko b sz p ≤ 13 ∨ 40 ≤ tko b sz p) := by
  unfold tko
  split
  · split
    · have := wdc_r (b := b) p (ten b sz p); omega
    · split
      · split <;> omega
      · split
        · rename_i c
          have := of_decide_eq_true c
          omega
        · omega
  · omega
theorem MH_0 (h : MH b sz m0 N) : TK b sz N = 0 := TK_e h.2.2.1
theorem f190_s (L : Nat) {m : Sg} {k n j : Nat} (h : MP b sz m0 k m n) (hj : 1 ≤ j ∧ j ≤ 11) : (TK b sz n = (j : Int) + 2 → f190 (GC L) RC 120 (hsv j) m = some 1) ∧ (¬ TK b sz n = (j : Int) + 2 → f190 (GC L) RC 120 (hsv j) m = some 0) := by
  obtain ⟨h1, h2, h3, h4, h5, h6⟩ := h
  obtain ⟨q0, q1, q2, q3, q4⟩ := h5
  have tr := tko_r (b := b) (sz := sz) (SP b sz n)
  unfold f190 TK
  simp only [KG L, if_true]
  rw [h2, if_pos rfl]
  generalize tko b sz (SP b sz n) = t at *
  constructor
  · intro e
    have := q3 (by omega)
    rw [this.1, if_pos rfl, this.2, e, show ((j : Int) + 2 - 2).toNat = j by omega, if_pos rfl]
  · intro e
    by_cases c1 : m 120 32 = 1
    · rw [if_pos c1]
      by_cases c2 : m 120 34 = hsv j
      · exfalso
        by_cases t0 : t = 0
        · have := q0 t0; omega
        by_cases t1 : t = 1
        · rcases q1 t1 with q | ⟨_, q⟩
          · omega
          · exact q j hj.1 hj.2 c2
        by_cases t2 : t = 2
        · have := (q2 t2).1; omega
        by_cases t3 : t ≤ 13
        · have q := (q3 (by omega)).2
          rw [c2] at q
          have := hsv_d ⟨j, by omega⟩ ⟨(t - 2).toNat, by omega⟩ q
          have : j = (t - 2).toNat := congrArg Fin.val this
          omega
        · have := (q4 (by omega)).1; omega
      · rw [if_neg c2]
    · rw [if_neg c1]
theorem f191_s (L : Nat) {m : Sg} {k n : Nat} {s : Int} (h : MP b sz m0 k m n) (hs : 14 ≤ s) : (TK b sz n = s → f191 (GC L) RC 120 s m = some 1) ∧ (¬ TK b sz n = s → f191 (GC L) RC 120 s m = some 0) := by
  obtain ⟨h1, h2, h3, h4, h5, h6⟩ := h
  obtain ⟨q0, q1, q2, q3, q4⟩ := h5
  have tr := tko_r (b := b) (sz := sz) (SP b sz n)
  unfold f191 TK
  simp only [KG L, if_true]
  rw [h2, if_pos rfl]
  generalize tko b sz (SP b sz n) = t at *
  constructor
  · intro e
    have := q4 (by omega)
    rw [this.1, if_pos rfl, this.2, e, if_pos rfl]
  · intro e
    by_cases c1 : m 120 32 = 3
    · rw [if_pos c1]
      by_cases c2 : m 120 34 = s
      · exfalso
        by_cases t0 : t = 0
        · have := q0 t0; omega
        by_cases t1 : t = 1
        · rcases q1 t1 with q | ⟨q, _⟩ <;> omega
        by_cases t2 : t = 2
        · have := (q2 t2).1; omega
        by_cases t3 : t ≤ 13
        · have q := (q3 (by omega)).1
          omega
        · have := (q4 (by omega)).2; omega
      · rw [if_neg c2]
    · rw [if_neg c1]
theorem f190_b (L : Nat) {m : Sg} {w : Int} (h : m 120 37 = 1) : f190 (GC L) RC 120 w m = some 0 := by
  unfold f190
  simp only [KG L, if_true]
  rw [if_neg (by omega)]
theorem f191_b (L : Nat) {m : Sg} {w : Int} (h : m 120 37 = 1) : f191 (GC L) RC 120 w m = some 0 := by
  unfold f191
  simp only [KG L, if_true]
  rw [if_neg (by omega)]
theorem f189_b (L : Nat) {m : Sg} (h : m 120 37 = 1) : f189 (GC L) RC 120 m = some m := by
  unfold f189
  simp only [KG L, if_true]
  rw [if_neg (by omega)]
theorem f189_s (L : Nat) {m : Sg} {k n : Nat} (h : MP b sz m0 k m n) : ∃ m', f189 (GC L) RC 120 m = some m' ∧ FrX m0 m' ∧ m' 120 37 = 1 ∧ m' 120 38 = SP b sz n := by
  obtain ⟨h1, h2, h3, h4, h5, h6⟩ := h
  unfold f189 f189_9
  simp only [KG L, if_true]
  rw [if_pos h2, put_nj (by decide), h4]
  exact ⟨_, rfl, FrX_p (FrX_p h1 (by omega)) (by omega), by rw [put_nj (by decide), put_eq], put_eq _ _ _ _⟩
/-- the next token -/
theorem nxt_s (L : Nat) {m : Sg} {k n : Nat} (hH : MH b sz m0 N) (h : MP b sz m0 k m n) (hn : n ≤ N) (ht : 2 ≤ TK b sz n) : ∃ m', f188 (GC L) RC 120 m = some m' ∧ MP b sz m0 k m' (n + 1) ∧ n + 1 ≤ N := by
  obtain ⟨h1, h2, h3, h4, h5, h6⟩ := h
  have hlt : n < N := tk_l (MH_0 hH) hn (by omega)
  have hs := hH.2.2.2 n hlt
  have hb := SP_b (b := b) hH.1.2.1 n
  have tb := ten_b (b := b) hs
  obtain ⟨m', r1, r2, r3⟩ := f188_s L (FrX_T h1 hH.1) (by omega) tb.2 (h6 ht)
  have e36 : m' 120 36 = m 120 36 := r2 120 36 (by omega)
  have e37 : m' 120 37 = m 120 37 := r2 120 37 (by omega)
  refine ⟨m', r1, ⟨FrX_t h1 (FrN4_X r2), by rw [e37]; exact h2, by rw [e36]; exact h3, ?_⟩, hlt⟩
  rw [SP_s, if_pos hs]
  exact r3
/-- a ( , a not, a - is opened -/
theorem f192_s (L : Nat) {m : Sg} {k n : Nat} (hH : MH b sz m0 N) (h : MP b sz m0 k m n) (hn : n ≤ N) (ht : 2 ≤ TK b sz n) (hk : k ≤ 5) : (k = 0 → ∃ m', f192 (GC L) RC 120 m = some (0, m') ∧ FrX m0 m' ∧ m' 120 37 = 1 ∧ m' 120 38 = SP b sz n) ∧ (∀ k', k = k' + 1 → ∃ m', f192 (GC L) RC 120 m = some (1, m') ∧ MP b sz m0 k' m' (n + 1) ∧ n + 1 ≤ N) := by
  have h' := h
  obtain ⟨h1, h2, h3, h4, h5, h6⟩ := h
  unfold f192
  simp only [KG L, if_true]
  rw [h3]
  constructor
  · intro e
    obtain ⟨m', r1, r2⟩ := f189_s L h'
    rw [if_pos (by omega), bnd r1]
    exact ⟨m', rfl, r2⟩
  · intro k' e
    have hp : MP b sz m0 k' (put m 120 36 (5 - (k : Int) + 1)) n := by
      refine ⟨FrX_p h1 (by omega), by rw [put_nj (by decide)]; exact h2, by rw [put_eq]; omega, ?_, ?_, fun q => ?_⟩
      · rw [put_nj (by decide)]; exact h4
      · rw [put_nj (by decide), put_nj (by decide)]; exact h5
      · rw [put_nj (by decide)]; exact h6 q
    obtain ⟨m', r1, r2⟩ := nxt_s L hH hp hn ht
    unfold g_add
    rw [if_neg (by omega), w32_i (by omega) (by omega), bnd r1]
    exact ⟨m', rfl, r2⟩
/-- one that was open is closed -/
theorem cls_s {m : Sg} {k n : Nat} (h : MP b sz m0 k m n) (hk : k < 5) : MP b sz m0 (k + 1) (put m 120 36 (g_sub (m 120 36) 1)) n := by
  obtain ⟨h1, h2, h3, h4, h5, h6⟩ := h
  refine ⟨FrX_p h1 (by omega), by rw [put_nj (by decide)]; exact h2, ?_, ?_, ?_, fun q => ?_⟩
  · rw [put_eq, h3]; unfold g_sub; rw [w32_i (by omega) (by omega)]; omega
  · rw [put_nj (by decide)]; exact h4
  · rw [put_nj (by decide), put_nj (by decide)]; exact h5
  · rw [put_nj (by decide)]; exact h6 q
theorem MR_y {k : Nat} {r : RS} {c cd : List Int} {w : Int} {m' : Sg} {n' : Nat} (e : r = (true, n', c ++ cd)) (h : MP b sz m0 k m' n') (hv : ∀ st, evl (fvm m0) st cd = w :: st) : MR b sz m0 k r c w m' := by subst e; exact ⟨fun _ => ⟨h, cd, rfl, hv⟩, fun q => absurd rfl q⟩
theorem MR_n {k : Nat} {r : RS} {c d : List Int} {w : Int} {m' : Sg} {n' : Nat} (e : r = (false, n', d)) (h : m' 120 37 = 1 ∧ m' 120 38 = SP b sz n') : MR b sz m0 k r c w m' := by subst e; exact ⟨fun q => (by cases q), fun _ => h⟩
/-- a chain -/
theorem mch_s {T : Nat → Int} {k : Nat} {op : Int → Int} {it : Nat → List Int → RS} {g : Int × Sg → Option ((Int × Sg) ⊕ (Int × Sg))} (hH : MH b sz m0 N) (hT : T = TK b sz) (h0 : op 0 = 0) (hop : ∀ t, op t = 0 ∨ (op t < -6 ∧ ¬ op t = -13 ∧ ¬ op t = -19)) (hg : GdI N it) (gA : ∀ (m : Sg) (v : Int), m 120 37 = 1 → g (v, m) = some (Sum.inr (v, m))) (gB : ∀ (m : Sg) (n : Nat) (v : Int), MP b sz m0 k m n → n ≤ N → op (T n) = 0 → g (v, m) = some (Sum.inr (v, m))) (gC : ∀ (m : Sg) (n : Nat) (v : Int) (c : List Int), MP b sz m0 k m n → n ≤ N → ¬ op (T n) = 0 → ∃ w m', g (v, m) = some (Sum.inl (jn (op (T n)) v w, m')) ∧ FrX m0 m' ∧ MR b sz m0 k (it (n + 1) c) c w m') : ∀ (f : Nat) (m : Sg) (n : Nat) (v : Int) (c0 cd : List Int), N < f + n → MP b sz m0 k m n → n ≤ N → (∀ st, evl (fvm m0) st cd = v :: st) → ∀ F, f + 1 < F → ∃ w m', lp g F (v, m) = some (w, m') ∧ FrX m0 m' ∧ MR b sz m0 k (pch T it op f n (c0 ++ cd)) c0 w m'
  | 0, m, n, v, c0, cd, hf, h, hn, hv, F, hF => by omega
  | f + 1, m, n, v, c0, cd, hf, h, hn, hv, F, hF => by
    obtain ⟨F, rfl⟩ : ∃ x, F = x + 1 := ⟨F - 1, by omega⟩
    by_cases c1 : op (T n) = 0
    · exact ⟨v, m, lp_r (gB m n v h hn c1), h.1, MR_y (pch_0 c1) h hv⟩
    · have hlt : n < N := tk_l (T := T) (by rw [hT]; exact MH_0 hH) hn (fun q => c1 (by rw [q]; exact h0))
      obtain ⟨w, m1, r1, r2, r3⟩ := gC m n v (c0 ++ cd) h hn c1
      have ho := (hop (T n)).resolve_left c1
      by_cases c2 : (it (n + 1) (c0 ++ cd)).1 = true
      · obtain ⟨s1, cd1, s2, s3⟩ := r3.1 c2
        obtain ⟨k1, k2, k3, k4⟩ := hg (n + 1) (c0 ++ cd) hlt
        have ec : (it (n + 1) (c0 ++ cd)).2.2 ++ [op (T n)] = c0 ++ (cd ++ cd1 ++ [op (T n)]) := by rw [s2]; simp only [List.append_assoc]
        obtain ⟨w2, m2, u1, u2, u3⟩ := mch_s hH hT h0 hop hg gA gB gC f m1 (it (n + 1) (c0 ++ cd)).2.1 (jn (op (T n)) v w) c0 (cd ++ cd1 ++ [op (T n)]) (by omega) s1 k2 (fun st => by
          rw [evl_a, evl_a, hv, s3, evl_1, ev1_j ho.1 ho.2.1 ho.2.2]) F (by omega)
        refine ⟨w2, m2, by rw [lp_i r1]; exact u1, u2, ?_⟩
        rw [pch_y rfl c1 c2, ec]
        exact u3
      · obtain ⟨F, rfl⟩ : ∃ x, F = x + 1 := ⟨F - 1, by omega⟩
        have bad := r3.2 c2
        refine ⟨_, m1, by rw [lp_i r1]; exact lp_r (gA m1 _ bad.1), r2, ?_⟩
        rw [pch_n rfl c1 c2]
        exact ⟨fun q => absurd q c2, fun _ => bad⟩
theorem mit_s {T : Nat → Int} {k : Nat} {op : Int → Int} {it : Nat → List Int → RS} {g : Int × Sg → Option ((Int × Sg) ⊕ (Int × Sg))} {R F : Sg → Option (Int × Sg)} (hH : MH b sz m0 N) (hT : T = TK b sz) (h0 : op 0 = 0) (hop : ∀ t, op t = 0 ∨ (op t < -6 ∧ ¬ op t = -13 ∧ ¬ op t = -19)) (hg : GdI N it) (gA : ∀ (m : Sg) (v : Int), m 120 37 = 1 → g (v, m) = some (Sum.inr (v, m))) (gB : ∀ (m : Sg) (n : Nat) (v : Int), MP b sz m0 k m n → n ≤ N → op (T n) = 0 → g (v, m) = some (Sum.inr (v, m))) (gC : ∀ (m : Sg) (n : Nat) (v : Int) (c : List Int), MP b sz m0 k m n → n ≤ N → ¬ op (T n) = 0 → ∃ w m', g (v, m) = some (Sum.inl (jn (op (T n)) v w, m')) ∧ FrX m0 m' ∧ MR b sz m0 k (it (n + 1) c) c w m') (hR : MX b sz m0 N k R it) (hF : ∀ m, F m = Option.bind (R m) fun q => lp g FU (q.1, q.2)) : MX b sz m0 N k F (pit T it op) := by
  intro m n c h hn
  obtain ⟨w, m1, r1, r2, r3⟩ := hR m n c h hn
  rw [hF, bnd r1]
  have hN := hH.2.1
  by_cases c2 : (it n c).1 = true
  · obtain ⟨s1, cd1, s2, s3⟩ := r3.1 c2
    obtain ⟨k1, k2, k3, k4⟩ := hg n c hn
    have := k4 c2
    rw [pit_y c2, s2]
    exact mch_s hH hT h0 hop hg gA gB gC 160 m1 (it n c).2.1 w c cd1 (by omega) s1 k2 s3 FU (by rw [FU_v]; omega)
  · have bad := r3.2 c2
    rw [pit_n c2]
    refine ⟨w, m1, ?_, r2, r3⟩
    rw [FU_s]
    exact lp_r (gA m1 w bad.1)
end MODEL
