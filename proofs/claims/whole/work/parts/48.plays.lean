/-! COUNTING PLAYS, as the class does: all of it -/
theorem psr_s (n : Int) (K N : Int → Int) (a : Int) (j : Nat) : psr n K N a (j + 1) = psk n K N a (psr n K N a j).1 20 := rfl
theorem pow5 : ∀ k : Fin 13, (5 : Int) ^ k.val ≤ 244140625 := by decide +kernel
theorem psr_l {n a : Int} {K N : Int → Int} (h0 : 0 < n) (h10 : n ≤ 10) {j : Nat} (hj : j ≤ 12) : nng (psr n K N a j) ∧ tot (psr n K N a j) ≤ 244140625 := by
  obtain ⟨b1, b2⟩ := psr_b (a := a) (K := K) (N := N) h0 h10 j
  have := pow5 ⟨j, by omega⟩
  exact ⟨b1, by simp only at this; omega⟩
theorem f61_s (L : Nat) {m0 : Sg} {n c : Int} (hn : m0 54 0 = n) (h4 : 4 ≤ n) (h10 : n ≤ 10) (hN : ∀ i, 0 ≤ i → i < n → 0 ≤ m0 58 i ∧ m0 58 i < 1000) (hc : 0 ≤ c ∧ c ≤ 12) : ∃ m', f61 (GC L) RC 9 54 c m0 = some m' ∧ FrQ m0 m' ∧ (∀ i, 0 ≤ i → i < 20 → m' 11 i = (psr n (m0 56) (m0 58) (m0 54 3) c.toNat).1 i) ∧ m' 9 2 = (psr n (m0 56) (m0 58) (m0 54 3) c.toNat).2.1 ∧ m' 9 3 = (psr n (m0 56) (m0 58) (m0 54 3) c.toNat).2.2 := by
  have frq : ∀ (m : Sg) (i v : Int), (i = 2 ∨ i = 3) → FrQ m0 m → FrQ m0 (put m 9 i v) := fun m i v hi h x j c1 c2 c3 => by
    have : put m 9 i v x j = m x j := by unfold put; rw [if_neg (by omega)]
    rw [this]; exact h x j c1 c2 c3
  have frf : ∀ (m : Sg) (b : Nat) (v : Int), (b = 11 ∨ b = 13) → FrQ m0 m → FrQ m0 (fil 20 b m v) := fun m b v hb h x j c1 c2 c3 => by
    have : fil 20 b m v x j = m x j := by unfold fil; rw [if_neg (by omega)]
    rw [this]; exact h x j c1 c2 c3
  have F0 : FrQ m0 (put (fil 20 11 m0 0) 11 0 1) := fun x j c1 c2 c3 => by
    rw [put_ne c1]; exact frf m0 11 0 (Or.inl rfl) (fun _ _ _ _ _ => rfl) x j c1 c2 c3
  unfold f61 f61_14
  simp only [KG L, KR, RFx L, RPx L, Option.bind_some, if_true]
  rw [rp_in (by omega) (by omega)]
  exact lp_all (f := f61_b17 (GC L) RC 9 54 c) (Q := fun m' => FrQ m0 m' ∧ (∀ i, 0 ≤ i → i < 20 → m' 11 i = (psr n (m0 56) (m0 58) (m0 54 3) c.toNat).1 i) ∧ m' 9 2 = (psr n (m0 56) (m0 58) (m0 54 3) c.toNat).2.1 ∧ m' 9 3 = (psr n (m0 56) (m0 58) (m0 54 3) c.toNat).2.2) (fun j st => ∃ m', st = ((j : Int), m') ∧ FrQ m0 m' ∧ (∀ i, 0 ≤ i → i < 20 → m' 11 i = (psr n (m0 56) (m0 58) (m0 54 3) j).1 i) ∧ m' 9 2 = (psr n (m0 56) (m0 58) (m0 54 3) j).2.1 ∧ m' 9 3 = (psr n (m0 56) (m0 58) (m0 54 3) j).2.2) c.toNat
    (by
      rintro j st hj ⟨m', rfl, i1, i2, i3, i4⟩
      obtain ⟨b1, b2⟩ := psr_l (a := m0 54 3) (K := m0 56) (N := m0 58) (show 0 < n by omega) h10 (j := j) (by omega)
      unfold f61_b17 f61_25
      simp only [KG L, KR, RFx L, Option.bind_some, if_true]
      rw [if_pos (by omega)]
      have sb : sm (psr n (m0 56) (m0 58) (m0 54 3) j).1 20 ≤ 300000000 := by
        have e : tot (psr n (m0 56) (m0 58) (m0 54 3) j) = sm (psr n (m0 56) (m0 58) (m0 54 3) j).1 20 + (psr n (m0 56) (m0 58) (m0 54 3) j).2.1 + (psr n (m0 56) (m0 58) (m0 54 3) j).2.2 := rfl
        have := b1.2.1
        have := b1.2.2
        omega
      obtain ⟨m2, r1, r2, r3, r4, r5⟩ := f61b_s L (m0 := m0) (m := fil 20 13 (put (put m' 9 2 0) 9 3 0) 0) (c := c) (r := (j : Int)) (w := (psr n (m0 56) (m0 58) (m0 54 3) j).1) hn h4 h10 hN (by omega) (frf _ 13 0 (Or.inr rfl) (frq _ 3 0 (Or.inr rfl) (frq _ 2 0 (Or.inl rfl) i1))) b1.1 (fun i a1 a2 => by
        unfold fil
        rw [if_neg (fun q => absurd q.1 (by decide)), put_ne (by decide), put_ne (by decide)]
        exact i2 i a1 a2) ⟨fun i a1 a2 => by unfold fil; rw [if_pos ⟨rfl, a1, a2⟩], by unfold fil; rw [if_neg (fun q => absurd q.1 (by decide)), put_nj (by decide), put_eq], by unfold fil; rw [if_neg (fun q => absurd q.1 (by decide)), put_eq]⟩ sb
      rw [r1]
      exact ⟨_, rfl, m2, rfl, r2, r3, r4, r5⟩)
    (by
      rintro st ⟨m', rfl, i1, i2, i3, i4⟩
      refine ⟨m', ?_, i1, i2, i3, i4⟩
      unfold f61_b17
      simp only
      rw [if_neg (by omega), xr_some])
    (by rw [FU_v]; omega) (0, put (put (put (fil 20 11 m0 0) 11 0 1) 9 2 0) 9 3 0) ⟨_, rfl, frq _ 3 0 (Or.inr rfl) (frq _ 2 0 (Or.inl rfl) F0), fun i a1 a2 => by
      rw [put_ne (by decide), put_ne (by decide)]
      show _ = if i = 0 then 1 else 0
      by_cases e : i = 0
      · rw [e, put_eq]; rfl
      · rw [if_neg e, put_nj e]; unfold fil; rw [if_pos ⟨rfl, a1, a2⟩], by rw [put_nj (by decide), put_eq]; rfl, by rw [put_eq]; rfl⟩
