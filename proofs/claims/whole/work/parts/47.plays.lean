/-! COUNTING PLAYS, as the class does: a round, all rounds -/
theorem psk_s (n : Int) (K N : Int → Int) (a : Int) (w : Int → Int) (j : Nat) : psk n K N a w (j + 1) = if w (j : Int) = 0 then psk n K N a w j else psd n K N a (j : Int) (w (j : Int)) (psk n K N a w j) 5 := rfl
def FrQ (m0 m : Sg) : Prop := ∀ x i, ¬ x = 11 → ¬ x = 13 → ¬ (x = 9 ∧ (i = 2 ∨ i = 3)) → m x i = m0 x i
theorem f61c_s (L : Nat) {m0 m : Sg} {c r : Int} (hr : 0 ≤ r ∧ r < 100) (hF : FrQ m0 m) : ∃ m', lp (f61_b48 (GC L) RC 9 54 c r) FU (0, m) = some (Sum.inl (r + 1, m')) ∧ FrQ m0 m' ∧ (∀ i, 0 ≤ i → i < 20 → m' 11 i = m 13 i) ∧ m' 9 2 = m 9 2 ∧ m' 9 3 = m 9 3 := by
  obtain ⟨q, h1, m', h2, h3⟩ := lp_all (f := f61_b48 (GC L) RC 9 54 c r) (Q := fun q => ∃ m', q = Sum.inl (r + 1, m') ∧ FrQ m0 m' ∧ (∀ i, 0 ≤ i → i < 20 → m' 11 i = m 13 i) ∧ m' 9 2 = m 9 2 ∧ m' 9 3 = m 9 3) (fun j st => ∃ m', st = ((j : Int), m') ∧ FrQ m0 m' ∧ (∀ i : Int, 0 ≤ i → i < j → m' 11 i = m 13 i) ∧ m' 13 = m 13 ∧ m' 9 2 = m 9 2 ∧ m' 9 3 = m 9 3) 20
    (by
      rintro j st hj ⟨m', rfl, i1, i2, i3, i4, i5⟩
      unfold f61_b48
      simp only [KG L, KR, RAx L, RPx L, Option.bind_some, if_true]
      rw [if_pos (by omega), ra_in (by omega) (by omega), rp_in (by omega) (by omega), w32_i (by omega) (by omega), i3]
      refine ⟨_, rfl, _, rfl, fun x i c1 c2 c3 => by rw [put_ne c1]; exact i1 x i c1 c2 c3, fun i a1 a2 => ?_, by rw [put_f (by decide)]; exact i3, by rw [put_ne (by decide)]; exact i4, by rw [put_ne (by decide)]; exact i5⟩
      by_cases e : i = j
      · rw [e, put_eq]
      · rw [put_nj e]; exact i2 i a1 (by omega))
    (by
      rintro st ⟨m', rfl, i1, i2, i3, i4, i5⟩
      refine ⟨_, ?_, m', rfl, i1, i2, i4, i5⟩
      unfold f61_b48
      simp only
      rw [if_neg (by omega), xr_some, w32_i (by omega) (by omega)])
    (by rw [FU_v]; omega) (0, m) ⟨m, rfl, hF, fun i a1 a2 => absurd a2 (by show ¬ i < 0; omega), rfl, rfl, rfl⟩
  exact ⟨m', by rw [h1, h2], h3⟩
theorem f61b_s (L : Nat) {m0 m : Sg} {n c r : Int} {w : Int → Int} (hn : m0 54 0 = n) (h4 : 4 ≤ n) (h10 : n ≤ 10) (hN : ∀ i, 0 ≤ i → i < n → 0 ≤ m0 58 i ∧ m0 58 i < 1000) (hr : 0 ≤ r ∧ r < 100) (hF : FrQ m0 m) (hw : ∀ i, 0 ≤ w i) (hm : ∀ i, 0 ≤ i → i < 20 → m 11 i = w i) (hX : XP m ((fun _ => 0, 0, 0) : PS)) (hb : sm w 20 ≤ 300000000) : ∃ m', lp (f61_b32 (GC L) RC 9 54 c r) FU (0, m) = some (Sum.inl (r + 1, m')) ∧ FrQ m0 m' ∧ (∀ i, 0 ≤ i → i < 20 → m' 11 i = (psk n (m0 56) (m0 58) (m0 54 3) w 20).1 i) ∧ m' 9 2 = (psk n (m0 56) (m0 58) (m0 54 3) w 20).2.1 ∧ m' 9 3 = (psk n (m0 56) (m0 58) (m0 54 3) w 20).2.2 := by
  have e56 : m 56 = m0 56 := funext fun i => hF 56 i (by decide) (by decide) (by omega)
  have e58 : m 58 = m0 58 := funext fun i => hF 58 i (by decide) (by decide) (by omega)
  have e0 : m 54 0 = n := by rw [hF 54 0 (by decide) (by decide) (by omega)]; exact hn
  have e3 : m 54 3 = m0 54 3 := hF 54 3 (by decide) (by decide) (by omega)
  have smb : ∀ k : Nat, k ≤ 20 → sm w k ≤ sm w 20 := by
    intro k hk
    have mono : ∀ j : Nat, sm w k ≤ sm w (k + j) := by
      intro j
      induction j with
      | zero => exact Int.le_refl _
      | succ j ih => rw [show k + (j + 1) = (k + j) + 1 by omega, sm_s]; have := hw ((k + j : Nat) : Int); omega
    have := mono (20 - k)
    rw [show k + (20 - k) = 20 by omega] at this
    exact this
  obtain ⟨q, h1, m', h2, h3⟩ := lp_all (f := f61_b32 (GC L) RC 9 54 c r) (Q := fun q => ∃ m', q = Sum.inl (r + 1, m') ∧ FrQ m0 m' ∧ (∀ i, 0 ≤ i → i < 20 → m' 11 i = (psk n (m0 56) (m0 58) (m0 54 3) w 20).1 i) ∧ m' 9 2 = (psk n (m0 56) (m0 58) (m0 54 3) w 20).2.1 ∧ m' 9 3 = (psk n (m0 56) (m0 58) (m0 54 3) w 20).2.2) (fun j st => ∃ m', st = ((j : Int), m') ∧ FrP m m' ∧ XP m' (psk n (m0 56) (m0 58) (m0 54 3) w j)) 20
    (by
      rintro j st hj ⟨m', rfl, i1, i2⟩
      have e11 : m' 11 j = w j := by rw [i1 11 j (by decide) (by omega)]; exact hm j (by omega) (by omega)
      unfold f61_b32
      simp only [KG L, KR, RAx L, Option.bind_some, if_true]
      rw [if_pos (by omega), ra_in (by omega) (by omega), e11, w32_i (by omega) (by omega), psk_s]
      by_cases z : w j = 0
      · rw [if_pos z, if_pos z]
        exact ⟨_, rfl, m', rfl, i1, i2⟩
      · rw [if_neg z, if_neg z]
        obtain ⟨b1, b2⟩ := psk_b (n := n) (a := m0 54 3) (K := m0 56) (N := m0 58) (w := w) (by omega) h10 hw j (by omega)
        have b3 := smb (j + 1) (by omega)
        rw [sm_s] at b3
        obtain ⟨m2, r1, r2, r3⟩ := f63_s L (m0 := m) (k := (j : Int)) e0 h4 h10 (by rw [e58]; exact hN) (by omega) e11 (hw _) i1 i2 b1 (by omega)
        rw [e56, e58, e3] at r3
        rw [r1]
        simp only [Option.bind_some]
        exact ⟨_, rfl, m2, rfl, r2, r3⟩)
    (by
      rintro st ⟨m', rfl, i1, i2, i3, i4⟩
      obtain ⟨m2, r1, r2, r3, r4, r5⟩ := f61c_s L (m0 := m0) (m := m') (c := c) hr (fun x i c1 c2 c3 => by rw [i1 x i c2 c3]; exact hF x i c1 c2 c3)
      refine ⟨_, ?_, m2, rfl, r2, fun i a1 a2 => by rw [r3 i a1 a2]; exact i2 i a1 a2, r4.trans i3, r5.trans i4⟩
      unfold f61_b32
      simp only
      rw [if_neg (by omega), r1, xr_some])
    (by rw [FU_v]; omega) (0, m) ⟨m, rfl, FrP_r m, hX⟩
  exact ⟨m', by rw [h1, h2], h3⟩
