/-! COUNTING PLAYS, as the model does: a state, a round, all -/
theorem FU_s : FU = 3999 + 1 := rfl
theorem f165b_s (L : Nat) {m : Sg} {n k v c1 c2 r : Int} {S : PS} (hn : m 120 1 = n) (h4 : 4 ≤ n) (h10 : n ≤ 10) (hN : ∀ i, 0 ≤ i → i < n → 0 ≤ NM m 12 i ∧ NM m 12 i < 1000) (hk : 0 ≤ k ∧ k < 20) (hv : m 126 k = v) (hv0 : 0 ≤ v) (hX : XW m S) (hS : nng S) (hb : tot S + 5 * v < 2147483648) : ∃ m', lp (f165_b66 (GC L) RC 120 c1 c2 r k) FU (1, m) = some (Sum.inl (k + 1, m')) ∧ m' 126 = m 126 ∧ FrV m m' ∧ XW m' (if v = 0 then S else psd n (KM m 12) (NM m 12) (m 123 12) k v S 5) := by
  by_cases z : v = 0
  · refine ⟨m, ?_, rfl, FrV_r m, by rw [if_pos z]; exact hX⟩
    rw [FU_s]
    refine lp_r ?_
    unfold f165_b66
    simp only [KG L, KR, KL L, if_true]
    rw [if_neg (by omega), if_pos hk, hv, if_neg (by omega), xr_some, w32_i (by omega) (by omega)]
  · obtain ⟨q, h1, m', h2, h3⟩ := lp_all (f := f165_b66 (GC L) RC 120 c1 c2 r k) (Q := fun q => ∃ m', q = Sum.inl (k + 1, m') ∧ m' 126 = m 126 ∧ FrV m m' ∧ XW m' (psd n (KM m 12) (NM m 12) (m 123 12) k v S 5)) (fun j st => ∃ m', st = ((j : Int) + 1, m') ∧ m' 126 = m 126 ∧ FrV m m' ∧ XW m' (psd n (KM m 12) (NM m 12) (m 123 12) k v S j)) 5
      (by
        rintro j st hj ⟨m', rfl, i0, i1, i2⟩
        obtain ⟨b1, b2, b3⟩ := psd_b (n := n) (a := m 123 12) (K := KM m 12) (N := NM m 12) (k := k) (v := v) (S := S) (by omega) h10 hk hv0 hS j
        have b4 : (j : Int) * v ≤ 4 * v := Int.mul_le_mul_of_nonneg_right (by omega) hv0
        obtain ⟨m2, r1, r0, r2, r3⟩ := f165a_s L (v := v) (c1 := c1) (c2 := c2) (r := r) hn h4 h10 hN hk (by rw [i0]; exact hv) (by omega) i1 i2 b1 hj (by omega)
        exact ⟨_, r1, m2, by rw [show ((j + 1 : Nat) : Int) + 1 = (j : Int) + 2 by omega], r0.trans i0, r2, by rw [psd_s]; exact r3⟩)
      (by
        rintro st ⟨m', rfl, i0, i1, i2⟩
        refine ⟨_, ?_, m', rfl, i0, i1, i2⟩
        unfold f165_b66
        simp only
        rw [if_pos (by omega), xr_some, w32_i (by omega) (by omega)])
      (by rw [FU_v]; omega) (1, m) ⟨m, rfl, rfl, FrV_r m, hX⟩
    exact ⟨m', by rw [h1, h2], by rw [if_neg z]; exact h3⟩
def FrW (m0 m : Sg) : Prop := ∀ x i, ¬ x = 126 → ¬ x = 127 → ¬ (x = 120 ∧ (i = 5 ∨ i = 13 ∨ i = 14)) → m x i = m0 x i
theorem FrW_r (m : Sg) : FrW m m := fun _ _ _ _ _ => rfl
theorem FrW_V {m0 m m' : Sg} (h : FrW m0 m) (h2 : FrV m m') : FrW m0 m' := fun x i c1 c2 c3 => (h2 x i c2 c3).trans (h x i c1 c2 c3)
theorem FrW_6 {m0 m : Sg} {i v : Int} (h : FrW m0 m) : FrW m0 (put m 126 i v) := fun x j c1 c2 c3 => by rw [put_ne c1]; exact h x j c1 c2 c3
theorem FrW_7 {m0 m : Sg} {i v : Int} (h : FrW m0 m) : FrW m0 (put m 127 i v) := fun x j c1 c2 c3 => by rw [put_ne c2]; exact h x j c1 c2 c3
theorem FrW_o {m0 m : Sg} {i v : Int} (h : FrW m0 m) (hi : i = 13 ∨ i = 14) : FrW m0 (put m 120 i v) := fun x j c1 c2 c3 => by
  have : put m 120 i v x j = m x j := by unfold put; rw [if_neg (by omega)]
  rw [this]; exact h x j c1 c2 c3
theorem FrW_f {m0 m : Sg} (h : FrW m0 m) : m 120 1 = m0 120 1 ∧ KM m 12 = KM m0 12 ∧ NM m 12 = NM m0 12 ∧ m 123 12 = m0 123 12 := ⟨h 120 1 (by decide) (by decide) (by omega), funext fun i => h 121 _ (by decide) (by decide) (by omega), funext fun i => h 122 _ (by decide) (by decide) (by omega), h 123 12 (by decide) (by decide) (by omega)⟩
/-- the counts come over -/
theorem f165c_s (L : Nat) {m0 m : Sg} {c1 c2 r : Int} (hr : 0 ≤ r ∧ r < 100) (hF : FrW m0 m) : ∃ m', lp (f165_b177 (GC L) RC 120 c1 c2 r) FU (0, m) = some (Sum.inl (r + 1, m')) ∧ FrW m0 m' ∧ (∀ i, 0 ≤ i → i < 20 → m' 126 i = m 127 i) ∧ m' 120 13 = m 120 13 ∧ m' 120 14 = m 120 14 := by
  obtain ⟨q, h1, m', h2, h3⟩ := lp_all (f := f165_b177 (GC L) RC 120 c1 c2 r) (Q := fun q => ∃ m', q = Sum.inl (r + 1, m') ∧ FrW m0 m' ∧ (∀ i, 0 ≤ i → i < 20 → m' 126 i = m 127 i) ∧ m' 120 13 = m 120 13 ∧ m' 120 14 = m 120 14) (fun j st => ∃ m', st = ((j : Int), m') ∧ FrW m0 m' ∧ (∀ i : Int, 0 ≤ i → i < j → m' 126 i = m 127 i) ∧ m' 127 = m 127 ∧ m' 120 13 = m 120 13 ∧ m' 120 14 = m 120 14) 20
    (by
      rintro j st hj ⟨m', rfl, i1, i2, i3, i4, i5⟩
      unfold f165_b177
      simp only [KG L, KR, KL L, if_true]
      rw [if_pos (by omega), if_pos (by omega), if_pos (by omega), w32_i (by omega) (by omega), i3]
      refine ⟨_, rfl, _, rfl, fun x i c1 c2 c3 => by rw [put_ne c1]; exact i1 x i c1 c2 c3, fun i a1 a2 => ?_, by rw [put_f (by decide)]; exact i3, by rw [put_ne (by decide)]; exact i4, by rw [put_ne (by decide)]; exact i5⟩
      by_cases e : i = j
      · rw [e, put_eq]
      · rw [put_nj e]; exact i2 i a1 (by omega))
    (by
      rintro st ⟨m', rfl, i1, i2, i3, i4, i5⟩
      refine ⟨_, ?_, m', rfl, i1, i2, i4, i5⟩
      unfold f165_b177
      simp only
      rw [if_neg (by omega), xr_some, w32_i (by omega) (by omega)])
    (by rw [FU_v]; omega) (0, m) ⟨m, rfl, hF, fun i a1 a2 => absurd a2 (by show ¬ i < 0; omega), rfl, rfl, rfl⟩
  exact ⟨m', by rw [h1, h2], h3⟩
/-- a round -/
theorem f165d_s (L : Nat) {m0 m : Sg} {n c1 c2 r : Int} {w : Int → Int} (hn : m0 120 1 = n) (h4 : 4 ≤ n) (h10 : n ≤ 10) (hN : ∀ i, 0 ≤ i → i < n → 0 ≤ NM m0 12 i ∧ NM m0 12 i < 1000) (hr : 0 ≤ r ∧ r < 100) (hF : FrW m0 m) (hw : ∀ i, 0 ≤ w i) (hm : ∀ i, 0 ≤ i → i < 20 → m 126 i = w i) (hX : XW m ((fun _ => 0, 0, 0) : PS)) (hb : sm w 20 ≤ 300000000) : ∃ m', lp (f165_b61 (GC L) RC 120 c1 c2 r) FU (0, m) = some (Sum.inl (r + 1, m')) ∧ FrW m0 m' ∧ (∀ i, 0 ≤ i → i < 20 → m' 126 i = (psk n (KM m0 12) (NM m0 12) (m0 123 12) w 20).1 i) ∧ m' 120 13 = (psk n (KM m0 12) (NM m0 12) (m0 123 12) w 20).2.1 ∧ m' 120 14 = (psk n (KM m0 12) (NM m0 12) (m0 123 12) w 20).2.2 := by
  obtain ⟨q, h1, m', h2, h3⟩ := lp_all (f := f165_b61 (GC L) RC 120 c1 c2 r) (Q := fun q => ∃ m', q = Sum.inl (r + 1, m') ∧ FrW m0 m' ∧ (∀ i, 0 ≤ i → i < 20 → m' 126 i = (psk n (KM m0 12) (NM m0 12) (m0 123 12) w 20).1 i) ∧ m' 120 13 = (psk n (KM m0 12) (NM m0 12) (m0 123 12) w 20).2.1 ∧ m' 120 14 = (psk n (KM m0 12) (NM m0 12) (m0 123 12) w 20).2.2) (fun j st => ∃ m', st = ((j : Int), m') ∧ m' 126 = m 126 ∧ FrW m0 m' ∧ XW m' (psk n (KM m0 12) (NM m0 12) (m0 123 12) w j)) 20
    (by
      rintro j st hj ⟨m', rfl, i0, i1, i2⟩
      obtain ⟨g1, g2, g3, g4⟩ := FrW_f i1
      have e126 : m' 126 j = w j := by rw [i0]; exact hm j (by omega) (by omega)
      obtain ⟨b1, b2⟩ := psk_b (n := n) (a := m0 123 12) (K := KM m0 12) (N := NM m0 12) (w := w) (by omega) h10 hw j (by omega)
      have b3 := sm_to hw (show j + 1 ≤ 20 by omega)
      rw [sm_s] at b3
      obtain ⟨m2, r1, r0, r2, r3⟩ := f165b_s L (m := m') (k := (j : Int)) (c1 := c1) (c2 := c2) (r := r) (g1.trans hn) h4 h10 (by rw [g3]; exact hN) (by omega) e126 (hw _) i2 b1 (by omega)
      unfold f165_b61
      simp only
      rw [if_pos (by omega), r1]
      rw [g2, g3, g4] at r3
      exact ⟨_, rfl, m2, rfl, r0.trans i0, FrW_V i1 r2, by rw [psk_s]; exact r3⟩)
    (by
      rintro st ⟨m', rfl, i0, i1, i2, i3, i4⟩
      obtain ⟨m2, r1, r2, r3, r4, r5⟩ := f165c_s L (m0 := m0) (m := m') (c1 := c1) (c2 := c2) hr i1
      refine ⟨_, ?_, m2, rfl, r2, fun i a1 a2 => by rw [r3 i a1 a2]; exact i2 i a1 a2, r4.trans i3, r5.trans i4⟩
      unfold f165_b61
      simp only
      rw [if_neg (by omega), r1, xr_some])
    (by rw [FU_v]; omega) (0, m) ⟨m, rfl, rfl, hF, hX⟩
  exact ⟨m', by rw [h1, h2], h3⟩
/-- a round, the counts cleared first -/
theorem f165e_s (L : Nat) {m0 m : Sg} {n c1 c2 r : Int} {w : Int → Int} (hn : m0 120 1 = n) (h4 : 4 ≤ n) (h10 : n ≤ 10) (hN : ∀ i, 0 ≤ i → i < n → 0 ≤ NM m0 12 i ∧ NM m0 12 i < 1000) (hr : 0 ≤ r ∧ r < 100) (hF : FrW m0 m) (hw : ∀ i, 0 ≤ w i) (hm : ∀ i, 0 ≤ i → i < 20 → m 126 i = w i) (hX : m 120 13 = 0 ∧ m 120 14 = 0) (hb : sm w 20 ≤ 300000000) : ∃ m', lp (f165_b49 (GC L) RC 120 c1 c2 r) FU (0, m) = some (Sum.inl (r + 1, m')) ∧ FrW m0 m' ∧ (∀ i, 0 ≤ i → i < 20 → m' 126 i = (psk n (KM m0 12) (NM m0 12) (m0 123 12) w 20).1 i) ∧ m' 120 13 = (psk n (KM m0 12) (NM m0 12) (m0 123 12) w 20).2.1 ∧ m' 120 14 = (psk n (KM m0 12) (NM m0 12) (m0 123 12) w 20).2.2 := by
  obtain ⟨q, h1, m', h2, h3⟩ := lp_all (f := f165_b49 (GC L) RC 120 c1 c2 r) (Q := fun q => ∃ m', q = Sum.inl (r + 1, m') ∧ FrW m0 m' ∧ (∀ i, 0 ≤ i → i < 20 → m' 126 i = (psk n (KM m0 12) (NM m0 12) (m0 123 12) w 20).1 i) ∧ m' 120 13 = (psk n (KM m0 12) (NM m0 12) (m0 123 12) w 20).2.1 ∧ m' 120 14 = (psk n (KM m0 12) (NM m0 12) (m0 123 12) w 20).2.2) (fun j st => ∃ m', st = ((j : Int), m') ∧ FrW m0 m' ∧ m' 126 = m 126 ∧ (∀ i : Int, 0 ≤ i → i < j → m' 127 i = 0) ∧ m' 120 13 = 0 ∧ m' 120 14 = 0) 20
    (by
      rintro j st hj ⟨m', rfl, i1, i2, i3, i4, i5⟩
      unfold f165_b49
      simp only [KG L, KR, KL L, if_true]
      rw [if_pos (by omega), if_pos (by omega), w32_i (by omega) (by omega)]
      refine ⟨_, rfl, _, rfl, FrW_7 i1, by rw [put_f (by decide)]; exact i2, fun i a1 a2 => ?_, by rw [put_ne (by decide)]; exact i4, by rw [put_ne (by decide)]; exact i5⟩
      by_cases e : i = j
      · rw [e, put_eq]
      · rw [put_nj e]; exact i3 i a1 (by omega))
    (by
      rintro st ⟨m', rfl, i1, i2, i3, i4, i5⟩
      obtain ⟨m2, r1, r2⟩ := f165d_s L (m0 := m0) (m := m') (c1 := c1) (c2 := c2) (w := w) hn h4 h10 hN hr i1 hw (fun i a1 a2 => by rw [i2]; exact hm i a1 a2) ⟨i3, i4, i5⟩ hb
      refine ⟨_, ?_, m2, rfl, r2⟩
      unfold f165_b49
      simp only
      rw [if_neg (by omega), r1, xr_some])
    (by rw [FU_v]; omega) (0, m) ⟨m, rfl, hF, rfl, fun i a1 a2 => absurd a2 (by show ¬ i < 0; omega), hX.1, hX.2⟩
  exact ⟨m', by rw [h1, h2], h3⟩
/-- what is answered -/
def pla (what : Int) (S : PS) : Int := if what = 0 then S.2.1 else if what = 1 then S.2.2 else sm S.1 20
theorem f165f_s (L : Nat) {m : Sg} {what : Int} {S : PS} (hS : nng S) (hm : ∀ i, 0 ≤ i → i < 20 → m 126 i = S.1 i) (h13 : m 120 13 = S.2.1) (h14 : m 120 14 = S.2.2) (hb : sm S.1 20 < 2147483648) : lp (f165_b196 (GC L) RC 120 what m) FU (0, 0) = some (pla what S, m) := by
  refine lp_eq (fun k : Nat => (sm S.1 k, (k : Int))) 20 (fun k hk => ?_) ?_ (by rw [FU_v]; omega)
  · have t1 := sm_to hS.1 (show k + 1 ≤ 20 by omega)
    rw [sm_s] at t1
    unfold f165_b196
    simp only [KG L, KR, KL L, if_true]
    rw [if_pos (by omega), if_pos (by omega), hm _ (by omega) (by omega), w32_i (x := (k : Int) + 1) (by omega) (by omega)]
    unfold k_add
    rw [w64_i (by omega) (by omega)]
    rfl
  · unfold f165_b196
    simp only [KG L, if_true]
    rw [if_neg (by omega), h13, h14]
    unfold pla
    split
    · rfl
    · split <;> rfl
theorem f165_s (L : Nat) {m0 : Sg} {n c what : Int} (hn : m0 120 1 = n) (h4 : 4 ≤ n) (h10 : n ≤ 10) (hN : ∀ i, 0 ≤ i → i < n → 0 ≤ NM m0 12 i ∧ NM m0 12 i < 1000) (hc : 0 ≤ c ∧ c ≤ 12) : ∃ m', lp (f165_b16 (GC L) RC 120 c what) FU (0, m0) = some (pla what (psr n (KM m0 12) (NM m0 12) (m0 123 12) c.toNat), m') ∧ FrW m0 m' := by
  have main : ∀ m : Sg, FrW m0 m → (∀ i, 0 ≤ i → i < 20 → m 126 i = (psr n (KM m0 12) (NM m0 12) (m0 123 12) 0).1 i) → m 120 13 = 0 → m 120 14 = 0 → ∃ m', lp (f165_b38 (GC L) RC 120 c what) FU (0, m) = some (pla what (psr n (KM m0 12) (NM m0 12) (m0 123 12) c.toNat), m') ∧ FrW m0 m' := by
    intro m f0 f1 f2 f3
    obtain ⟨q, h1, m', h2, h3⟩ := lp_all (f := f165_b38 (GC L) RC 120 c what) (Q := fun q => ∃ m', q = (pla what (psr n (KM m0 12) (NM m0 12) (m0 123 12) c.toNat), m') ∧ FrW m0 m') (fun j st => ∃ m', st = ((j : Int), m') ∧ FrW m0 m' ∧ (∀ i, 0 ≤ i → i < 20 → m' 126 i = (psr n (KM m0 12) (NM m0 12) (m0 123 12) j).1 i) ∧ m' 120 13 = (psr n (KM m0 12) (NM m0 12) (m0 123 12) j).2.1 ∧ m' 120 14 = (psr n (KM m0 12) (NM m0 12) (m0 123 12) j).2.2) c.toNat
      (by
        rintro j st hj ⟨m', rfl, i1, i2, i3, i4⟩
        obtain ⟨b1, b2⟩ := psr_l (a := m0 123 12) (K := KM m0 12) (N := NM m0 12) (show 0 < n by omega) h10 (j := j) (by omega)
        have sb : sm (psr n (KM m0 12) (NM m0 12) (m0 123 12) j).1 20 ≤ 300000000 := by
          have e : tot (psr n (KM m0 12) (NM m0 12) (m0 123 12) j) = sm (psr n (KM m0 12) (NM m0 12) (m0 123 12) j).1 20 + (psr n (KM m0 12) (NM m0 12) (m0 123 12) j).2.1 + (psr n (KM m0 12) (NM m0 12) (m0 123 12) j).2.2 := rfl
          have := b1.2.1
          have := b1.2.2
          omega
        unfold f165_b38 f165_46
        simp only [KG L, if_true]
        rw [if_pos (by omega)]
        obtain ⟨m2, r1, r2, r3, r4, r5⟩ := f165e_s L (m0 := m0) (m := put (put m' 120 13 0) 120 14 0) (c1 := c) (c2 := what) (r := (j : Int)) (w := (psr n (KM m0 12) (NM m0 12) (m0 123 12) j).1) hn h4 h10 hN (by omega) (FrW_o (FrW_o i1 (Or.inl rfl)) (Or.inr rfl)) b1.1 (fun i a1 a2 => by rw [put_ne (by decide), put_ne (by decide)]; exact i2 i a1 a2) ⟨by rw [put_nj (by decide), put_eq], put_eq _ _ _ _⟩ sb
        exact ⟨_, r1, m2, rfl, r2, r3, r4, r5⟩)
      (by
        rintro st ⟨m', rfl, i1, i2, i3, i4⟩
        obtain ⟨b1, b2⟩ := psr_l (a := m0 123 12) (K := KM m0 12) (N := NM m0 12) (show 0 < n by omega) h10 (j := c.toNat) (by omega)
        have sb : sm (psr n (KM m0 12) (NM m0 12) (m0 123 12) c.toNat).1 20 < 2147483648 := by
          have e : tot (psr n (KM m0 12) (NM m0 12) (m0 123 12) c.toNat) = sm (psr n (KM m0 12) (NM m0 12) (m0 123 12) c.toNat).1 20 + (psr n (KM m0 12) (NM m0 12) (m0 123 12) c.toNat).2.1 + (psr n (KM m0 12) (NM m0 12) (m0 123 12) c.toNat).2.2 := rfl
          have := b1.2.1
          have := b1.2.2
          omega
        refine ⟨_, ?_, m', rfl, i1⟩
        unfold f165_b38
        simp only
        rw [if_neg (by omega), f165f_s L b1 i2 i3 i4 sb, xr_some])
      (by rw [FU_v]; omega) (0, m) ⟨m, rfl, f0, f1, f2, f3⟩
    exact ⟨m', by rw [h1, h2], h3⟩
  obtain ⟨q, h1, m', h2, h3⟩ := lp_all (f := f165_b16 (GC L) RC 120 c what) (Q := fun q => ∃ m', q = (pla what (psr n (KM m0 12) (NM m0 12) (m0 123 12) c.toNat), m') ∧ FrW m0 m') (fun j st => ∃ m', st = ((j : Int), m') ∧ FrW m0 m' ∧ (∀ i : Int, 0 ≤ i → i < j → m' 126 i = if i = 0 then 1 else 0)) 20
    (by
      rintro j st hj ⟨m', rfl, i1, i2⟩
      have w27 : ∀ w : Int, f165_27 (GC L) RC 120 c what (j : Int) w (j : Int) 126 m' = some (Sum.inl (((j + 1 : Nat) : Int), put m' 126 j w)) := by
        intro w
        unfold f165_27
        simp only [KG L, KL L, if_true]
        rw [if_pos (by omega), w32_i (by omega) (by omega)]
        rfl
      have nxt : ∀ w : Int, w = (if (j : Int) = 0 then 1 else 0) → ∀ i : Int, 0 ≤ i → i < ((j + 1 : Nat) : Int) → put m' 126 j w 126 i = if i = 0 then 1 else 0 := by
        intro w hw i a1 a2
        by_cases e : i = j
        · rw [e, put_eq, hw]
        · rw [put_nj e]; exact i2 i a1 (by omega)
      unfold f165_b16
      simp only [KG L, KR, if_true]
      rw [if_pos (by omega)]
      by_cases z : (j : Int) = 0
      · rw [if_pos z, w27 1]; exact ⟨_, rfl, _, rfl, FrW_6 i1, nxt 1 (if_pos z).symm⟩
      · rw [if_neg z, w27 0]; exact ⟨_, rfl, _, rfl, FrW_6 i1, nxt 0 (if_neg z).symm⟩)
    (by
      rintro st ⟨m', rfl, i1, i2⟩
      obtain ⟨m2, r1, r2⟩ := main (put (put m' 120 13 0) 120 14 0) (FrW_o (FrW_o i1 (Or.inl rfl)) (Or.inr rfl)) (fun i a1 a2 => by rw [put_ne (by decide), put_ne (by decide)]; exact i2 i a1 a2) (by rw [put_nj (by decide), put_eq]) (put_eq _ _ _ _)
      refine ⟨_, ?_, m2, rfl, r2⟩
      unfold f165_b16 f165_35
      simp only [KG L, if_true]
      rw [if_neg (by omega), r1, xr_some])
    (by rw [FU_v]; omega) (0, m0) ⟨m0, rfl, FrW_r m0, fun i a1 a2 => absurd a2 (by show ¬ i < 0; omega)⟩
  exact ⟨m', by rw [h1, h2], h3⟩
