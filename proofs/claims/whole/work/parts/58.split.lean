/-! TOKENS, as the class splits the tape -/
theorem f19_s {G : Gg} {ρ : Rg} {m : Sg} {q : Int} : (ltr q = true → f19 G ρ q m = some 1) ∧ (¬ ltr q = true → f19 G ρ q m = some 0) := by
  rw [ltr_t]
  unfold f19
  constructor
  · intro h; rw [if_neg (by omega), if_neg (by omega)]
  · intro h
    by_cases c : q < 97
    · rw [if_pos c]
    · rw [if_neg c, if_pos (by omega)]
theorem f20_s {G : Gg} {ρ : Rg} {m : Sg} {q : Int} : (dgt q = true → f20 G ρ q m = some 1) ∧ (¬ dgt q = true → f20 G ρ q m = some 0) := by
  rw [dgt_t]
  unfold f20
  constructor
  · intro h; rw [if_neg (by omega), if_neg (by omega)]
  · intro h
    by_cases c : q < 48
    · rw [if_pos c]
    · rw [if_neg c, if_pos (by omega)]
theorem lp_rn {P : Int → Bool} {b : Int → Int} {sz : Int} {f : Int → Option (Int ⊕ Int)} (hf : ∀ q, 0 ≤ q → (q < sz ∧ P (b q) = true → f q = some (Sum.inl (q + 1))) ∧ (¬ (q < sz ∧ P (b q) = true) → f q = some (Sum.inr q))) : ∀ (g F : Nat) (q : Int), 0 ≤ q → sz - q ≤ g → g < F → lp f F q = some (rn P b sz g q)
  | 0, F, q, h0, h1, h2 => by
    obtain ⟨F, rfl⟩ : ∃ x, F = x + 1 := ⟨F - 1, by omega⟩
    exact lp_r ((hf q h0).2 (by omega))
  | g + 1, F, q, h0, h1, h2 => by
    obtain ⟨F, rfl⟩ : ∃ x, F = x + 1 := ⟨F - 1, by omega⟩
    by_cases c : q < sz ∧ P (b q) = true
    · rw [lp_i ((hf q h0).1 c), rn_y c]
      exact lp_rn hf g F (q + 1) (by omega) (by omega) (by omega)
    · rw [lp_r ((hf q h0).2 c), rn_n c]
/-- the tape -/
def TP (b : Int → Int) (sz : Int) (m : Sg) : Prop := m 14 1 = sz ∧ 0 ≤ sz ∧ sz ≤ 160 ∧ ∀ i, 0 ≤ i → i < sz → m 16 i = b i ∧ 0 ≤ b i ∧ b i < 256
theorem f14_s (L : Nat) {b : Int → Int} {sz p : Int} {m : Sg} (hT : TP b sz m) (h0 : 0 ≤ p) (hp : p < sz) : f14 (GC L) RC 14 p m = some (ten b sz p) := by
  obtain ⟨t1, t2, t3, t4⟩ := hT
  have rd : ∀ q, 0 ≤ q → q < sz → ra 160 (m 16) q = b q := fun q q1 q2 => by rw [ra_in q1 (by omega)]; exact (t4 q q1 q2).1
  unfold f14
  simp only [KG L, KR, RAx L, Option.bind_some, if_true]
  rw [rd p h0 hp]
  unfold g_add
  rw [w32_i (x := p + 1) (by omega) (by omega)]
  unfold ten
  by_cases c1 : ltr (b p) = true
  · have c2 : ¬ dgt (b p) = true := fun q => by rw [ltr_t] at c1; rw [dgt_t] at q; omega
    rw [if_pos c1, f19_s.1 c1]
    simp only [Option.bind_some]
    rw [f20_s.2 c2]
    simp only [Option.bind_some]
    refine lp_rn (fun q q0 => ⟨fun h => ?_, fun h => ?_⟩) 161 FU (p + 1) (by omega) (by omega) (by rw [FU_v]; omega)
    · unfold f14_b16
      simp only [KG L, KR, RAx L, Option.bind_some, if_true]
      rw [t1, if_pos h.1, if_neg (by decide), rd q q0 h.1, f19_s.1 h.2]
      simp only [Option.bind_some]
      rw [if_neg (by decide), w32_i (by omega) (by omega)]
    · unfold f14_b16
      simp only [KG L, KR, RAx L, Option.bind_some, if_true]
      rw [t1]
      by_cases c : q < sz
      · rw [if_pos c, if_neg (by decide), rd q q0 c, f19_s.2 (fun z => h ⟨c, z⟩)]
        simp only [Option.bind_some, if_true]
        unfold f14_28
        rw [if_pos rfl, xr_some]
      · rw [if_neg c, xr_some]
  · rw [if_neg c1, f19_s.2 c1]
    simp only [Option.bind_some]
    by_cases c2 : dgt (b p) = true
    · rw [if_pos c2, f20_s.1 c2]
      simp only [Option.bind_some]
      refine lp_rn (fun q q0 => ⟨fun h => ?_, fun h => ?_⟩) 161 FU (p + 1) (by omega) (by omega) (by rw [FU_v]; omega)
      · unfold f14_b16 f14_28
        simp only [KG L, KR, RAx L, Option.bind_some, if_true]
        rw [t1, if_pos h.1, if_neg (by decide), rd q q0 h.1, f20_s.1 h.2]
        simp only [Option.bind_some]
        rw [if_neg (by decide), w32_i (by omega) (by omega)]
      · unfold f14_b16 f14_28
        simp only [KG L, KR, RAx L, Option.bind_some, if_true]
        rw [t1]
        by_cases c : q < sz
        · rw [if_pos c, if_neg (by decide), rd q q0 c, f20_s.2 (fun z => h ⟨c, z⟩)]
          simp only [Option.bind_some, if_true]
          rw [xr_some]
        · rw [if_neg c, xr_some]
    · rw [if_neg c2, f20_s.2 c2]
      simp only [Option.bind_some]
      rw [FU_s]
      refine lp_r ?_
      unfold f14_b16 f14_28
      simp only [KG L, if_true]
      rw [t1, xr_some]
      split <;> rfl
theorem f228_a : ∀ k : Fin 12, f228 [] (fun _ _ => 0) ((k.val : Nat) : Int) (fun _ _ => 0) = some (slen k.val) := by decide +kernel
theorem f229_a : ∀ (k : Fin 12) (i : Fin 30), i.val < lenJS.getD k.val 0 → f229 [] (fun _ _ => 0) ((k.val : Nat) : Int) ((i.val : Nat) : Int) (fun _ _ => 0) = some (sbyt k.val i.val) := by decide +kernel
theorem len_a : ∀ k : Fin 12, slen k.val = ((lenJS.getD k.val 0 : Nat) : Int) ∧ lenJS.getD k.val 0 ≤ 29 := by decide +kernel
theorem f228_s {G : Gg} {ρ : Rg} {m : Sg} {k : Nat} (hk : k < 12) : f228 G ρ (k : Int) m = some (slen k) := f228_a ⟨k, hk⟩
theorem f229_s {G : Gg} {ρ : Rg} {m : Sg} {k i : Nat} (hk : k < 12) (hi : i < lenJS.getD k 0) : f229 G ρ (k : Int) (i : Int) m = some (sbyt k i) := f229_a ⟨k, hk⟩ ⟨i, by have := (len_a ⟨k, hk⟩).2; simp only at this; omega⟩ hi
theorem f18_s (L : Nat) {b : Int → Int} {sz p e : Int} {m : Sg} {k : Nat} (hk : k < 12) (hT : TP b sz m) (h0 : 0 ≤ p) (he : e ≤ sz) (hpe : p ≤ e) : (spl b k p e = true → f18 (GC L) RC 14 ((k : Nat) : Int) p e m = some 1) ∧ (¬ spl b k p e = true → f18 (GC L) RC 14 ((k : Nat) : Int) p e m = some 0) := by
  obtain ⟨t1, t2, t3, t4⟩ := hT
  have hl := len_a ⟨k, hk⟩
  simp only at hl
  have rd : ∀ i : Nat, (i : Int) < e - p → ra 160 (m 16) (g_add p i) = b (p + i) := fun i hi => by
    unfold g_add
    rw [w32_i (by omega) (by omega), ra_in (by omega) (by omega)]
    exact (t4 _ (by omega) (by omega)).1
  unfold f18
  rw [f228_s hk]
  simp only [Option.bind_some]
  unfold g_sub
  rw [w32_i (x := e - p) (by omega) (by omega)]
  by_cases c : e - p = slen k
  · rw [if_pos c]
    obtain ⟨r, h1, h2⟩ := lp_ex (f := f18_b10 (GC L) RC 14 (k : Int) p m) (Q := fun r => (r = 1 ∧ spl b k p e = true) ∨ (r = 0 ∧ ¬ spl b k p e = true)) (fun j st => st = (j : Int) ∧ ∀ i : Nat, i < j → b (p + i) = sbyt k i) (lenJS.getD k 0)
      (by
        rintro j st hj ⟨rfl, i1⟩
        unfold f18_b10
        rw [f228_s hk]
        simp only [KG L, KR, RAx L, Option.bind_some, if_true]
        rw [if_pos (by omega), rd j (by omega), f229_s hk hj]
        simp only [Option.bind_some]
        by_cases c2 : b (p + j) = sbyt k j
        · left
          rw [if_pos c2, w32_i (by omega) (by omega)]
          refine ⟨_, rfl, rfl, fun i hi => ?_⟩
          by_cases e1 : i = j
          · subst e1; exact c2
          · exact i1 i (by omega)
        · right
          rw [if_neg c2, xr_some]
          exact ⟨_, rfl, Or.inr ⟨rfl, fun q => c2 ((spl_t.mp q).2 j hj)⟩⟩)
      (by
        rintro st ⟨rfl, i1⟩
        unfold f18_b10
        rw [f228_s hk]
        simp only [Option.bind_some]
        rw [if_neg (by omega), xr_some]
        exact ⟨_, rfl, Or.inl ⟨rfl, spl_t.mpr ⟨c, i1⟩⟩⟩)
      FU (by rw [FU_v]; omega) 0 ⟨rfl, fun i hi => by omega⟩
    rw [h1]
    rcases h2 with ⟨rfl, q⟩ | ⟨rfl, q⟩
    · exact ⟨fun _ => rfl, fun z => absurd q z⟩
    · exact ⟨fun z => absurd z q, fun _ => rfl⟩
  · rw [if_neg c]
    exact ⟨fun q => absurd (spl_t.mp q).1 c, fun _ => rfl⟩
theorem f16_s (L : Nat) {b : Int → Int} {sz p e : Int} {m : Sg} (hT : TP b sz m) (h0 : 0 ≤ p) (he : e ≤ sz) (hpe : p ≤ e) : f16 (GC L) RC 14 p e m = some (wdc b p e) := by
  have key := fun (k : Nat) (hk : k < 12) => f18_s L (k := k) hk hT h0 he hpe
  have st : ∀ (k : Nat) (v : Int) (x : Option Int) (w : Int), k < 12 → x = some w → (Option.bind (f18 (GC L) RC 14 ((k : Nat) : Int) p e m) fun q => if q = 0 then x else some v) = some (if spl b k p e = true then v else w) := by
    intro k v x w hk hx
    by_cases c : spl b k p e = true
    · rw [(key k hk).1 c, if_pos c]; rfl
    · rw [(key k hk).2 c, if_neg c]; exact hx
  unfold f16 wdc
  rw [if_pos (show gkb (GC L) 14 5 = true from rfl)]
  exact st 1 3 _ _ (by omega) (st 2 4 _ _ (by omega) (st 3 5 _ _ (by omega) (st 4 6 _ _ (by omega) (st 5 7 _ _ (by omega) (st 6 8 _ _ (by omega) (st 7 9 _ _ (by omega) (st 8 10 _ _ (by omega) (st 9 11 _ _ (by omega) (st 10 12 _ _ (by omega) (st 11 13 _ _ (by omega) rfl))))))))))
theorem f15_s (L : Nat) {b : Int → Int} {sz p : Int} {m : Sg} (hT : TP b sz m) (h0 : 0 ≤ p) (hp : p < sz) : f15 (GC L) RC 14 p (ten b sz p) m = some (tko b sz p) := by
  have hT' := hT
  obtain ⟨t1, t2, t3, t4⟩ := hT
  have tb := ten_b (b := b) hp
  unfold f15 tko
  simp only [KG L, KR, RAx L, Option.bind_some, if_true]
  rw [ra_in h0 (by omega), (t4 p h0 hp).1, if_pos hp]
  by_cases c1 : ltr (b p) = true
  · rw [f19_s.1 c1, if_pos c1]
    simp only [Option.bind_some]
    rw [if_neg (by decide), f16_s L hT' h0 tb.2 (by omega)]
    rfl
  · rw [f19_s.2 c1, if_neg c1]
    simp only [Option.bind_some, if_true]
    by_cases c2 : dgt (b p) = true
    · rw [f20_s.1 c2, if_pos c2]
      simp only [Option.bind_some]
      unfold g_sub
      rw [if_neg (by decide), w32_i (by omega) (by omega)]
      by_cases c3 : ten b sz p - p ≤ 4
      · rw [if_pos c3, if_neg (by omega)]
      · rw [if_neg c3, if_pos (by omega)]
    · rw [f20_s.2 c2, if_neg c2]
      simp only [Option.bind_some, if_true]
      by_cases c3 : sgc (b p) = true
      · rw [if_pos c3]
        have := of_decide_eq_true c3
        split
        · rfl
        · split
          · rfl
          · split
            · rfl
            · split
              · rfl
              · split
                · rfl
                · split
                  · rfl
                  · split
                    · rfl
                    · split
                      · rfl
                      · omega
      · rw [if_neg c3]
        have nc := fun q => c3 (decide_eq_true q)
        rw [if_neg (fun q => nc (by omega)), if_neg (fun q => nc (by omega)), if_neg (fun q => nc (by omega)), if_neg (fun q => nc (by omega)), if_neg (fun q => nc (by omega)), if_neg (fun q => nc (by omega)), if_neg (fun q => nc (by omega)), if_neg (fun q => nc (by omega))]
theorem f17_s (L : Nat) {b : Int → Int} {sz p e : Int} {m : Sg} (hT : TP b sz m) (h0 : 0 ≤ p) (he : e ≤ sz) (hpe : p ≤ e) (h4 : e - p ≤ 4) (hd : ∀ i, p ≤ i → i < e → 48 ≤ b i ∧ b i ≤ 57) : f17 (GC L) RC 14 p e m = some (nm b p (e - p).toNat) := by
  obtain ⟨t1, t2, t3, t4⟩ := hT
  unfold f17
  have e0 : ((0 : Int), p) = (fun k : Nat => (nm b p k, p + (k : Int))) 0 := Prod.ext rfl (Int.add_zero p).symm
  rw [e0]
  refine lp_eq (fun k : Nat => (nm b p k, p + (k : Int))) (e - p).toNat (fun k hk => ?_) ?_ (by rw [FU_v]; omega)
  · have nb := nm_b (b := b) hd k (by omega)
    have dk := hd (p + k) (by omega) (by omega)
    have pw : (10 : Int) ^ k ≤ 1000 := by
      have : ∀ z : Fin 4, (10 : Int) ^ z.val ≤ 1000 := by decide +kernel
      exact this ⟨k, by omega⟩
    unfold f17_b4
    simp only [KG L, KR, RAx L, Option.bind_some, if_true]
    unfold g_sub g_add g_mul
    rw [if_pos (by omega), w32_i (x := p + 4) (by omega) (by omega), if_pos (by omega), ra_in (by omega) (by omega), (t4 _ (by omega) (by omega)).1, w32_i (x := 10 * nm b p k) (by omega) (by omega), w32_i (x := 10 * nm b p k + b (p + k)) (by omega) (by omega), w32_i (by omega) (by omega), w32_i (by omega) (by omega), show p + (k : Int) + 1 = p + ((k + 1 : Nat) : Int) by omega]
    rfl
  · unfold f17_b4
    simp only
    rw [if_neg (by omega), xr_some]
/-- what is read of the tape: only these rows -/
def FrT (m0 m : Sg) : Prop := ∀ x i, ¬ x = 18 → ¬ x = 20 → ¬ x = 22 → m x i = m0 x i
theorem FrT_r (m : Sg) : FrT m m := fun _ _ _ _ _ => rfl
theorem FrT_p {m0 m : Sg} {x : Nat} {i v : Int} (h : FrT m0 m) (hx : x = 18 ∨ x = 20 ∨ x = 22) : FrT m0 (put m x i v) := fun y j c1 c2 c3 => by
  have : put m x i v y j = m y j := by unfold put; rw [if_neg (by omega)]
  rw [this]; exact h y j c1 c2 c3
theorem FrT_T {m0 m : Sg} {b : Int → Int} {sz : Int} (h : FrT m0 m) (hT : TP b sz m0) : TP b sz m := ⟨by rw [h 14 1 (by decide) (by decide) (by decide)]; exact hT.1, hT.2.1, hT.2.2.1, fun i a1 a2 => by rw [h 16 i (by decide) (by decide) (by decide)]; exact hT.2.2.2 i a1 a2⟩
def CSj (b : Int → Int) (sz : Int) (m : Sg) (j : Nat) : Prop := m 18 j = TK b sz j ∧ m 22 j = SP b sz j ∧ (TK b sz j = 2 → m 20 j = NV b sz j)
theorem f13_s (L : Nat) {b : Int → Int} {sz : Int} {m0 : Sg} (hT : TP b sz m0) : ∃ m', f13 (GC L) RC 14 m0 = some m' ∧ FrT m0 m' ∧ ∃ c : Nat, c ≤ 160 ∧ SP b sz c = sz ∧ (∀ j, j < c → SP b sz j < sz) ∧ ∀ j, j ≤ c → CSj b sz m' j := by
  have t2 := hT.2.1
  have t3 := hT.2.2.1
  have fin : ∀ (j : Nat) (m : Sg), FrT m0 m → j ≤ 160 → SP b sz j = sz → (∀ i, i < j → SP b sz i < sz ∧ CSj b sz m i) → ∃ m', f13_62 (GC L) RC 14 (j : Int) m = some m' ∧ FrT m0 m' ∧ ∃ c : Nat, c ≤ 160 ∧ SP b sz c = sz ∧ (∀ j, j < c → SP b sz j < sz) ∧ ∀ j, j ≤ c → CSj b sz m' j := by
    intro j m hF hj hs hi
    have hT1 := FrT_T hF hT
    unfold f13_62
    simp only [KG L, KR, RPx L, Option.bind_some, if_true]
    rw [rp_in (by omega) (by omega), rp_in (by omega) (by omega), hT1.1]
    refine ⟨_, rfl, FrT_p (FrT_p hF (by omega)) (by omega), j, hj, hs, fun i h => (hi i h).1, fun i h => ?_⟩
    by_cases e : i = j
    · subst e
      have tk := TK_e hs
      refine ⟨by rw [put_eq, tk], by rw [put_ne (by decide), put_eq, hs], fun q => by rw [tk] at q; omega⟩
    · have ne : ¬ (i : Int) = (j : Int) := by omega
      obtain ⟨c1, c2, c3⟩ := (hi i (by omega)).2
      exact ⟨by rw [put_nj ne, put_ne (by decide)]; exact c1, by rw [put_ne (by decide), put_nj ne]; exact c2, fun q => by rw [put_ne (by decide), put_ne (by decide)]; exact c3 q⟩
  unfold f13
  refine lp_ex (f := f13_b6 (GC L) RC 14) (fun k st => ∃ (p : Int) (j : Nat) (m : Sg), st = (p, (j : Int), (k : Int), m) ∧ (k : Int) ≤ p ∧ p ≤ sz ∧ (j : Int) ≤ p ∧ nxp b sz p = SP b sz j ∧ FrT m0 m ∧ ∀ i, i < j → SP b sz i < sz ∧ CSj b sz m i) 160 ?_ ?_ FU (by rw [FU_v]; omega) (0, 0, 0, m0) ⟨0, 0, m0, rfl, by omega, t2, by omega, rfl, FrT_r m0, fun i h => by omega⟩
  · rintro k st hk ⟨p, j, m, rfl, i1, i2, i3, i4, i5, i6⟩
    have hT1 := FrT_T i5 hT
    unfold f13_b6
    simp only [KG L, KR, RAx L, RPx L, Option.bind_some, if_true]
    rw [if_pos (by omega), hT1.1]
    by_cases c : p < sz
    · rw [if_pos c, ra_in (by omega) (by omega), (hT1.2.2.2 p (by omega) c).1, w32_i (x := p + 1) (by omega) (by omega), w32_i (x := (k : Int) + 1) (by omega) (by omega), w32_i (x := (j : Int) + 1) (by omega) (by omega)]
      left
      by_cases cb : b p = 32 ∨ b p = 10
      · have := nxp_y (b := b) (by omega) t3 c cb
        by_cases c32 : b p = 32
        · rw [if_pos c32]
          exact ⟨_, rfl, p + 1, j, m, rfl, by omega, by omega, by omega, by rw [← this]; exact i4, i5, i6⟩
        · rw [if_neg c32, if_pos (by omega)]
          exact ⟨_, rfl, p + 1, j, m, rfl, by omega, by omega, by omega, by rw [← this]; exact i4, i5, i6⟩
      · rw [if_neg (fun q => cb (Or.inl q)), if_neg (fun q => cb (Or.inr q)), f14_s L hT1 (by omega) c]
        simp only [Option.bind_some]
        have ep : SP b sz j = p := by rw [← i4]; exact nxp_n (fun q => cb q.2)
        have tb := ten_b (b := b) c
        have F1 := FrT_p (x := 22) (i := (j : Int)) (v := p) i5 (by omega)
        rw [rp_in (by omega) (by omega), f15_s L (FrT_T F1 hT) (by omega) c]
        simp only [Option.bind_some]
        rw [rp_in (by omega) (by omega), ra_in (by omega) (by omega), put_eq]
        have F2 := FrT_p (x := 18) (i := (j : Int)) (v := tko b sz p) F1 (by omega)
        have eT : TK b sz j = tko b sz p := by unfold TK; rw [ep]
        have old : ∀ i, i < j → ∀ x : Sg, (x 18 i = m 18 i ∧ x 20 i = m 20 i ∧ x 22 i = m 22 i) → SP b sz i < sz ∧ CSj b sz x i := fun i hi x hx => by
          obtain ⟨q1, q2, q3, q4⟩ := i6 i hi
          exact ⟨q1, by rw [hx.1]; exact q2, by rw [hx.2.2]; exact q3, fun z => by rw [hx.2.1]; exact q4 z⟩
        by_cases c2 : tko b sz p = 2
        · rw [if_pos c2]
          have dg : dgt (b p) = true ∧ ten b sz p - p ≤ 4 := by
            unfold tko at c2
            rw [if_pos c] at c2
            split at c2
            · have := wdc_r (b := b) p (ten b sz p); omega
            · split at c2
              · rename_i d
                split at c2
                · rename_i d2; exact ⟨d, d2⟩
                · omega
              · split at c2
                · rename_i d
                  have := of_decide_eq_true d
                  omega
                · omega
          have nl : ¬ ltr (b p) = true := fun q => by have := dgt_t.mp dg.1; have := ltr_t.mp q; omega
          have hd : ∀ i, p ≤ i → i < ten b sz p → 48 ≤ b i ∧ b i ≤ 57 := fun i h1 h2 => by
            by_cases e : i = p
            · subst e; exact dgt_t.mp dg.1
            · unfold ten at h2
              rw [if_neg nl, if_pos dg.1] at h2
              exact dgt_t.mp (rn_i (P := dgt) (b := b) (sz := sz) 161 (p + 1) i (by omega) h2)
          rw [f17_s L (FrT_T F2 hT) (by omega) tb.2 (by omega) dg.2 hd]
          simp only [Option.bind_some]
          rw [rp_in (by omega) (by omega)]
          refine ⟨_, rfl, ten b sz p, j + 1, _, rfl, by omega, tb.2, by omega, ?_, FrT_p F2 (by omega), fun i hi => ?_⟩
          · rw [SP_s, ep, if_pos c]
          · by_cases e : i = j
            · subst e
              refine ⟨by rw [ep]; exact c, ?_, ?_, fun _ => ?_⟩
              · rw [put_ne (by decide), put_eq, eT]
              · rw [put_ne (by decide), put_ne (by decide), put_eq, ep]
              · rw [put_eq]; unfold NV; rw [ep]
            · have ne : ¬ (i : Int) = (j : Int) := by omega
              exact old i (by omega) _ ⟨by rw [put_ne (by decide), put_nj ne, put_ne (by decide)], by rw [put_nj ne, put_ne (by decide), put_ne (by decide)], by rw [put_ne (by decide), put_ne (by decide), put_nj ne]⟩
        · rw [if_neg c2]
          refine ⟨_, rfl, ten b sz p, j + 1, _, rfl, by omega, tb.2, by omega, ?_, F2, fun i hi => ?_⟩
          · rw [SP_s, ep, if_pos c]
          · by_cases e : i = j
            · subst e
              refine ⟨by rw [ep]; exact c, ?_, ?_, fun q => ?_⟩
              · rw [put_eq, eT]
              · rw [put_ne (by decide), put_eq, ep]
              · rw [eT] at q; exact absurd q c2
            · have ne : ¬ (i : Int) = (j : Int) := by omega
              exact old i (by omega) _ ⟨by rw [put_nj ne, put_ne (by decide)], by rw [put_ne (by decide), put_ne (by decide)], by rw [put_ne (by decide), put_nj ne]⟩
    · right
      have ep : p = sz := by omega
      have es : SP b sz j = sz := by rw [← i4, ep]; exact nxp_n (fun q => by omega)
      obtain ⟨m', r1, r2⟩ := fin j m i5 (by omega) es i6
      rw [if_neg c, r1, xr_some]
      exact ⟨m', rfl, r2⟩
  · rintro st ⟨p, j, m, rfl, i1, i2, i3, i4, i5, i6⟩
    have ep : p = sz := by omega
    have es : SP b sz j = sz := by rw [← i4, ep]; exact nxp_n (fun q => by omega)
    obtain ⟨m', r1, r2⟩ := fin j m i5 (by omega) es i6
    refine ⟨m', ?_, r2⟩
    unfold f13_b6
    simp only
    rw [if_neg (by omega), r1, xr_some]
