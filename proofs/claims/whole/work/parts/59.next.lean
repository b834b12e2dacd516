/-! TOKENS, as the model reads them one by one -/
/-- the text that is read -/
def TX (b : Int → Int) (sz : Int) (m : Sg) : Prop := m 120 31 = sz ∧ 0 ≤ sz ∧ sz ≤ 160 ∧ 0 ≤ m 120 30 ∧ m 120 30 ≤ 800 ∧ ∀ i, 0 ≤ i → i < sz → m 135 (m 120 30 + i) = b i ∧ 0 ≤ b i ∧ b i < 256
theorem f187_s (L : Nat) {b : Int → Int} {sz p : Int} {m : Sg} (hT : TX b sz m) (h0 : 0 ≤ p) : (p < sz → f187 (GC L) RC 120 p m = some (b p)) ∧ (¬ p < sz → f187 (GC L) RC 120 p m = some (-1)) := by
  obtain ⟨t1, t2, t3, t4, t5, t6⟩ := hT
  unfold f187
  simp only [KG L, KR, KL L, if_true]
  rw [t1]
  constructor
  · intro h
    unfold g_add
    rw [if_pos h, w32_i (by omega) (by omega), if_pos (by omega), (t6 p h0 h).1]
  · intro h
    rw [if_neg h]
def FrX (m0 m : Sg) : Prop := ∀ x i, ¬ (x = 120 ∧ 32 ≤ i ∧ i ≤ 38) → m x i = m0 x i
theorem FrX_r (m : Sg) : FrX m m := fun _ _ _ => rfl
theorem FrX_t {m0 m m' : Sg} (h : FrX m0 m) (h2 : FrX m m') : FrX m0 m' := fun x i c => (h2 x i c).trans (h x i c)
theorem FrX_p {m0 m : Sg} {i v : Int} (h : FrX m0 m) (hi : 32 ≤ i ∧ i ≤ 38) : FrX m0 (put m 120 i v) := fun y j c => by
  have : put m 120 i v y j = m y j := by unfold put; rw [if_neg (by omega)]
  rw [this]; exact h y j c
theorem FrX_T {m0 m : Sg} {b : Int → Int} {sz : Int} (h : FrX m0 m) (hT : TX b sz m0) : TX b sz m := by
  obtain ⟨t1, t2, t3, t4, t5, t6⟩ := hT
  have e30 : m 120 30 = m0 120 30 := h 120 30 (by omega)
  exact ⟨by rw [h 120 31 (by omega)]; exact t1, t2, t3, by rw [e30]; exact t4, by rw [e30]; exact t5, fun i a1 a2 => by rw [e30, h 135 _ (by omega)]; exact t6 i a1 a2⟩
theorem f143_s {G : Gg} {ρ : Rg} {m : Sg} {v a c : Int} : (a ≤ v ∧ v ≤ c → f143 G ρ v a c m = some 1) ∧ (¬ (a ≤ v ∧ v ≤ c) → f143 G ρ v a c m = some 0) := by
  unfold f143
  constructor
  · intro h; rw [if_neg (by omega), if_neg (by omega)]
  · intro h
    by_cases q : v < a
    · rw [if_pos q]
    · rw [if_neg q, if_pos (by omega)]
/-- a word's number, letter by letter -/
def hsh (b : Int → Int) (p : Int) : Nat → Int
  | 0 => 0
  | k + 1 => if k < 8 then 27 * hsh b p k + b (p + k) - 96 else -1
theorem hsh_p {b : Int → Int} {p : Int} : ∀ k : Nat, k ≤ 8 → hsh b p k = ph (fun i => b (p + i) - 96) k
  | 0, _ => rfl
  | k + 1, h => by
    have s1 : hsh b p (k + 1) = if k < 8 then 27 * hsh b p k + b (p + k) - 96 else -1 := rfl
    have s2 : ph (fun i : Nat => b (p + i) - 96) (k + 1) = 27 * ph (fun i : Nat => b (p + i) - 96) k + (b (p + k) - 96) := rfl
    rw [s1, s2, if_pos (by omega), hsh_p k (by omega)]
    omega
theorem hsh_l {b : Int → Int} {p : Int} {k : Nat} (h : 8 < k) : hsh b p k = -1 := by
  cases k with
  | zero => omega
  | succ k => exact if_neg (by omega)
theorem hsh_b {b : Int → Int} {p : Int} : ∀ k : Nat, k ≤ 8 → (∀ i : Nat, i < k → 97 ≤ b (p + i) ∧ b (p + i) ≤ 122) → 0 ≤ hsh b p k ∧ hsh b p k < 27 ^ k
  | 0, _, _ => ⟨Int.le_refl _, by show (0 : Int) < 1; omega⟩
  | k + 1, h, hl => by
    have ih := hsh_b k (by omega) (fun i hi => hl i (by omega))
    have d := hl k (by omega)
    have s1 : hsh b p (k + 1) = if k < 8 then 27 * hsh b p k + b (p + k) - 96 else -1 := rfl
    have e2 : (27 : Int) ^ (k + 1) = 27 ^ k * 27 := Int.pow_succ _ _
    rw [s1, if_pos (by omega), e2]
    omega
/-- what the model's token says of the class's -/
def RT (k nv token worth : Int) : Prop := (k = 0 → token = 0) ∧ (k = 1 → token = 4 ∨ (token = 1 ∧ ∀ j : Nat, 1 ≤ j → j ≤ 11 → ¬ worth = hsv j)) ∧ (k = 2 → token = 2 ∧ worth = nv) ∧ (3 ≤ k ∧ k ≤ 13 → token = 1 ∧ worth = hsv (k - 2).toNat) ∧ (14 ≤ k → token = 3 ∧ worth = k)
/-- where reading stands behind a token -/
def MTp (b : Int → Int) (sz p : Int) (m : Sg) : Prop := m 120 33 = p ∧ RT (tko b sz p) (nm b p (ten b sz p - p).toNat) (m 120 32) (m 120 34) ∧ (2 ≤ tko b sz p → m 120 35 = ten b sz p)
/-- words -/
theorem wdc_n {b : Int → Int} {p : Int} {n : Nat} (hl : ∀ i : Nat, i < n → 97 ≤ b (p + i) ∧ b (p + i) ≤ 122) : RT (wdc b p (p + n)) 0 1 (hsh b p n) := by
  have key : ∀ k : Nat, 1 ≤ k ∧ k ≤ 11 → (spl b k p (p + n) = true ↔ hsh b p n = hsv k) := by
    intro k hk
    by_cases h8 : n ≤ 8
    · rw [hsh_p n h8]; exact spl_h hk hl
    · obtain ⟨a1, a2, a3, a4⟩ := hsv_a ⟨k, by omega⟩ hk.1
      simp only at a1 a2 a3 a4
      rw [hsh_l (by omega)]
      constructor
      · intro q
        have := (spl_t.mp q).1
        omega
      · intro q
        have pos : ∀ z : Fin 12, 1 ≤ z.val → 0 < hsv z.val := by decide +kernel
        have := pos ⟨k, by omega⟩ hk.1
        simp only at this
        omega
  have yes : ∀ (k : Nat) (v : Int), v = (k : Int) + 2 → 1 ≤ k ∧ k ≤ 11 → spl b k p (p + n) = true → RT v 0 1 (hsh b p n) := by
    intro k v hv hk hs
    refine ⟨fun q => by omega, fun q => by omega, fun q => by omega, fun _ => ⟨rfl, ?_⟩, fun q => by omega⟩
    rw [(key k hk).mp hs, hv, show ((k : Int) + 2 - 2).toNat = k by omega]
  have no : (∀ k : Nat, 1 ≤ k ∧ k ≤ 11 → ¬ spl b k p (p + n) = true) → RT 1 0 1 (hsh b p n) := fun h => ⟨fun q => by omega, fun _ => Or.inr ⟨rfl, fun j j1 j2 q => h j ⟨j1, j2⟩ ((key j ⟨j1, j2⟩).mpr q)⟩, fun q => by omega, fun q => by omega, fun q => by omega⟩
  unfold wdc
  by_cases c1 : spl b 1 p (p + n) = true
  · rw [if_pos c1]; exact yes 1 3 rfl (by omega) c1
  rw [if_neg c1]
  by_cases c2 : spl b 2 p (p + n) = true
  · rw [if_pos c2]; exact yes 2 4 rfl (by omega) c2
  rw [if_neg c2]
  by_cases c3 : spl b 3 p (p + n) = true
  · rw [if_pos c3]; exact yes 3 5 rfl (by omega) c3
  rw [if_neg c3]
  by_cases c4 : spl b 4 p (p + n) = true
  · rw [if_pos c4]; exact yes 4 6 rfl (by omega) c4
  rw [if_neg c4]
  by_cases c5 : spl b 5 p (p + n) = true
  · rw [if_pos c5]; exact yes 5 7 rfl (by omega) c5
  rw [if_neg c5]
  by_cases c6 : spl b 6 p (p + n) = true
  · rw [if_pos c6]; exact yes 6 8 rfl (by omega) c6
  rw [if_neg c6]
  by_cases c7 : spl b 7 p (p + n) = true
  · rw [if_pos c7]; exact yes 7 9 rfl (by omega) c7
  rw [if_neg c7]
  by_cases c8 : spl b 8 p (p + n) = true
  · rw [if_pos c8]; exact yes 8 10 rfl (by omega) c8
  rw [if_neg c8]
  by_cases c9 : spl b 9 p (p + n) = true
  · rw [if_pos c9]; exact yes 9 11 rfl (by omega) c9
  rw [if_neg c9]
  by_cases c10 : spl b 10 p (p + n) = true
  · rw [if_pos c10]; exact yes 10 12 rfl (by omega) c10
  rw [if_neg c10]
  by_cases c11 : spl b 11 p (p + n) = true
  · rw [if_pos c11]; exact yes 11 13 rfl (by omega) c11
  rw [if_neg c11]
  refine no (fun k hk => ?_)
  have : k = 1 ∨ k = 2 ∨ k = 3 ∨ k = 4 ∨ k = 5 ∨ k = 6 ∨ k = 7 ∨ k = 8 ∨ k = 9 ∨ k = 10 ∨ k = 11 := by omega
  rcases this with e | e | e | e | e | e | e | e | e | e | e <;> subst e <;> assumption
theorem pw27 : ∀ z : Fin 9, (27 : Int) ^ z.val ≤ 282429536481 := by decide +kernel
/-- only token, place, worth, here -/
def FrN4 (m0 m : Sg) : Prop := ∀ x i, ¬ (x = 120 ∧ 32 ≤ i ∧ i ≤ 35) → m x i = m0 x i
theorem FrN4_X {m0 m : Sg} (h : FrN4 m0 m) : FrX m0 m := fun x i c => h x i (by omega)
theorem FrN4_r (m : Sg) : FrN4 m m := fun _ _ _ => rfl
theorem FrN4_p {m0 m : Sg} {i v : Int} (h : FrN4 m0 m) (hi : 32 ≤ i ∧ i ≤ 35) : FrN4 m0 (put m 120 i v) := fun y j c => by
  have : put m 120 i v y j = m y j := by unfold put; rw [if_neg (by omega)]
  rw [this]; exact h y j c
/-- a word's letters -/
theorem f188w_s (L : Nat) {b : Int → Int} {sz p : Int} {m : Sg} (hT : TX b sz m) (h0 : 0 ≤ p) (hp : p < sz) (hl : ltr (b p) = true) (h35 : m 120 35 = p) (h33 : m 120 33 = p) : ∃ m', f188_49 (GC L) RC 120 1 120 m = some m' ∧ FrN4 m m' ∧ MTp b sz p m' := by
  have t2 := hT.2.1
  have t3 := hT.2.2.1
  have et : ten b sz p = rn ltr b sz 161 p := by unfold ten; rw [if_pos hl, rn_1 h0 t3 ⟨hp, hl⟩]
  have lets : ∀ i, p ≤ i → i < ten b sz p → 97 ≤ b i ∧ b i ≤ 122 := fun i h1 h2 => by
    rw [et] at h2; exact ltr_t.mp (rn_i 161 p i h1 h2)
  have stop : ¬ (ten b sz p < sz ∧ ltr (b (ten b sz p)) = true) := by rw [et]; exact rn_e 161 p (by omega)
  have tb := ten_b (b := b) hp
  generalize he : ten b sz p = e at *
  unfold f188_49 f188_52
  simp only [KG L, if_true]
  obtain ⟨r, h1, h2⟩ := lp_all (f := f188_b55 (GC L) RC 120) (Q := fun r => FrN4 m r ∧ r 120 32 = 1 ∧ r 120 33 = p ∧ r 120 34 = hsh b p (e - p).toNat ∧ r 120 35 = e) (fun k st => ∃ m', st = ((k : Int), m') ∧ FrN4 m m' ∧ m' 120 32 = 1 ∧ m' 120 33 = p ∧ m' 120 34 = hsh b p k ∧ m' 120 35 = p + k) (e - p).toNat
    (by
      rintro k st hk ⟨m', rfl, i1, i2, i3, i4, i5⟩
      have hT1 := FrX_T (FrN4_X i1) hT
      have lk := lets (p + k) (by omega) (by omega)
      unfold f188_b55
      simp only [KG L, if_true]
      rw [i5, (f187_s L hT1 (by omega)).1 (by omega)]
      simp only [Option.bind_some]
      rw [f143_s.1 lk]
      simp only [Option.bind_some]
      rw [if_neg (by decide), i4]
      have w82 : ∀ w : Int, f188_82 (GC L) RC 120 (k : Int) w 120 m' = some (Sum.inl (((k + 1 : Nat) : Int), put (put m' 120 34 w) 120 35 (p + ((k + 1 : Nat) : Int)))) := by
        intro w
        unfold f188_82 f188_89
        simp only [KG L, if_true]
        rw [put_nj (by decide), i5]
        unfold g_add
        rw [w32_i (by omega) (by omega), w32_i (by omega) (by omega), show p + (k : Int) + 1 = p + ((k + 1 : Nat) : Int) by omega]
        rfl
      have hs : hsh b p (k + 1) = if k < 8 then 27 * hsh b p k + b (p + k) - 96 else -1 := rfl
      have post : ∀ w : Int, w = hsh b p (k + 1) → ∃ s', f188_82 (GC L) RC 120 (k : Int) w 120 m' = some (Sum.inl s') ∧ ∃ m2, s' = (((k + 1 : Nat) : Int), m2) ∧ FrN4 m m2 ∧ m2 120 32 = 1 ∧ m2 120 33 = p ∧ m2 120 34 = hsh b p (k + 1) ∧ m2 120 35 = p + ((k + 1 : Nat) : Int) := by
        intro w hw
        rw [w82]
        exact ⟨_, rfl, _, rfl, FrN4_p (FrN4_p i1 (by omega)) (by omega), by rw [put_nj (by decide), put_nj (by decide)]; exact i2, by rw [put_nj (by decide), put_nj (by decide)]; exact i3, by rw [put_nj (by decide), put_eq]; exact hw, put_eq _ _ _ _⟩
      by_cases c8 : k < 8
      · rw [if_pos (show (k : Int) < 8 by omega)]
        have hb := hsh_b (b := b) (p := p) k (by omega) (fun i hi => lets (p + i) (by omega) (by omega))
        have pw := pw27 ⟨k, by omega⟩
        simp only at pw
        unfold k_sub k_add k_mul
        have m1 : w64 (27 * hsh b p k) = 27 * hsh b p k := by unfold w64; omega
        rw [m1]
        have m2 : w64 (27 * hsh b p k + b (p + k)) = 27 * hsh b p k + b (p + k) := by unfold w64; omega
        rw [m2]
        have m3 : w64 (27 * hsh b p k + b (p + k) - 96) = 27 * hsh b p k + b (p + k) - 96 := by unfold w64; omega
        rw [m3]
        exact post _ (by rw [hs, if_pos c8])
      · rw [if_neg (show ¬ (k : Int) < 8 by omega)]
        exact post _ (by rw [hs, if_neg c8]))
    (by
      rintro st ⟨m', rfl, i1, i2, i3, i4, i5⟩
      have hT1 := FrX_T (FrN4_X i1) hT
      have ee : p + ((e - p).toNat : Int) = e := by omega
      refine ⟨m', ?_, i1, i2, i3, i4, i5.trans ee⟩
      unfold f188_b55
      simp only [KG L, if_true]
      rw [i5, ee]
      by_cases c : e < sz
      · rw [(f187_s L hT1 (by omega)).1 c]
        simp only [Option.bind_some]
        rw [f143_s.2 (fun q => stop ⟨c, ltr_t.mpr q⟩)]
        simp only [Option.bind_some, if_true]
        rw [xr_some]
      · rw [(f187_s L hT1 (by omega)).2 c]
        simp only [Option.bind_some]
        rw [f143_s.2 (by omega)]
        simp only [Option.bind_some, if_true]
        rw [xr_some])
    (by rw [FU_v]; omega) (0, put (put m 120 32 1) 120 34 0) ⟨_, rfl, FrN4_p (FrN4_p (FrN4_r m) (by omega)) (by omega), by rw [put_nj (by decide), put_eq], by rw [put_nj (by decide), put_nj (by decide)]; exact h33, put_eq _ _ _ _, by rw [put_nj (by decide), put_nj (by decide), h35]; show p = p + 0; omega⟩
  refine ⟨r, h1, h2.1, h2.2.2.1, ?_, fun _ => by rw [he]; exact h2.2.2.2.2⟩
  have tk : tko b sz p = wdc b p e := by unfold tko; rw [if_pos hp, if_pos hl, he]
  have w := wdc_n (b := b) (p := p) (n := (e - p).toNat) (fun i hi => lets (p + i) (by omega) (by omega))
  rw [show p + ((e - p).toNat : Int) = e by omega] at w
  have w2 := wdc_r (b := b) p e
  rw [tk, h2.2.1, h2.2.2.2.1]
  exact ⟨w.1, w.2.1, fun q => absurd q w2.2.2, w.2.2.2.1, w.2.2.2.2⟩
/-- a number's digits -/
theorem f188n_s (L : Nat) {b : Int → Int} {sz p : Int} {m : Sg} (hT : TX b sz m) (h0 : 0 ≤ p) (hp : p < sz) (hl : ¬ ltr (b p) = true) (hd : dgt (b p) = true) (h35 : m 120 35 = p) (h33 : m 120 33 = p) : ∃ m', f188_100 (GC L) RC 120 2 120 m = some m' ∧ FrN4 m m' ∧ MTp b sz p m' := by
  have t2 := hT.2.1
  have t3 := hT.2.2.1
  have et : ten b sz p = rn dgt b sz 161 p := by unfold ten; rw [if_neg hl, if_pos hd, rn_1 h0 t3 ⟨hp, hd⟩]
  have digs : ∀ i, p ≤ i → i < ten b sz p → 48 ≤ b i ∧ b i ≤ 57 := fun i h1 h2 => by
    rw [et] at h2; exact dgt_t.mp (rn_i 161 p i h1 h2)
  have stop : ¬ (ten b sz p < sz ∧ dgt (b (ten b sz p)) = true) := by rw [et]; exact rn_e 161 p (by omega)
  have tb := ten_b (b := b) hp
  generalize he : ten b sz p = e at *
  unfold f188_100 f188_103
  simp only [KG L, if_true]
  obtain ⟨r, h1, h2⟩ := lp_all (f := f188_b106 (GC L) RC 120) (Q := fun r => FrN4 m r ∧ r 120 32 = (if e - p ≤ 4 then 2 else 4) ∧ r 120 33 = p ∧ (e - p ≤ 4 → r 120 34 = nm b p (e - p).toNat) ∧ r 120 35 = e) (fun k st => ∃ m', st = ((k : Int), m') ∧ FrN4 m m' ∧ m' 120 33 = p ∧ m' 120 34 = nm b p (if k ≤ 4 then k else 4) ∧ m' 120 35 = p + k) (e - p).toNat
    (by
      rintro k st hk ⟨m', rfl, i1, i3, i4, i5⟩
      have hT1 := FrX_T (FrN4_X i1) hT
      have lk := digs (p + k) (by omega) (by omega)
      unfold f188_b106
      simp only [KG L, if_true]
      rw [i5, (f187_s L hT1 (by omega)).1 (by omega)]
      simp only [Option.bind_some]
      rw [f143_s.1 lk]
      simp only [Option.bind_some]
      rw [if_neg (by decide), i4]
      have w134 : ∀ w : Int, w = nm b p (if k + 1 ≤ 4 then k + 1 else 4) → ∃ s', f188_134 (GC L) RC 120 (k : Int) w 120 m' = some (Sum.inl s') ∧ ∃ m2, s' = (((k + 1 : Nat) : Int), m2) ∧ FrN4 m m2 ∧ m2 120 33 = p ∧ m2 120 34 = nm b p (if k + 1 ≤ 4 then k + 1 else 4) ∧ m2 120 35 = p + ((k + 1 : Nat) : Int) := by
        intro w hw
        unfold f188_134 f188_141
        simp only [KG L, if_true]
        rw [put_nj (by decide), i5]
        unfold g_add
        rw [w32_i (by omega) (by omega), w32_i (by omega) (by omega), show p + (k : Int) + 1 = p + ((k + 1 : Nat) : Int) by omega]
        exact ⟨_, rfl, _, rfl, FrN4_p (FrN4_p i1 (by omega)) (by omega), by rw [put_nj (by decide), put_nj (by decide)]; exact i3, by rw [put_nj (by decide), put_eq]; exact hw, put_eq _ _ _ _⟩
      by_cases c4 : k < 4
      · rw [if_pos (show (k : Int) < 4 by omega), if_pos (show k ≤ 4 by omega)]
        have hb := nm_b (b := b) digs k (by omega)
        have pw : (10 : Int) ^ k ≤ 1000 := by
          have : ∀ z : Fin 4, (10 : Int) ^ z.val ≤ 1000 := by decide +kernel
          exact this ⟨k, by omega⟩
        unfold k_sub k_add k_mul
        have m1 : w64 (10 * nm b p k) = 10 * nm b p k := by unfold w64; omega
        rw [m1]
        have m2 : w64 (10 * nm b p k + b (p + k)) = 10 * nm b p k + b (p + k) := by unfold w64; omega
        rw [m2]
        have m3 : w64 (10 * nm b p k + b (p + k) - 48) = 10 * nm b p k + b (p + k) - 48 := by unfold w64; omega
        rw [m3]
        exact w134 _ (by rw [if_pos (by omega)]; rfl)
      · rw [if_neg (show ¬ (k : Int) < 4 by omega)]
        refine w134 _ ?_
        rw [if_neg (show ¬ k + 1 ≤ 4 by omega)]
        by_cases c5 : k ≤ 4
        · rw [if_pos c5, show k = 4 by omega]
        · rw [if_neg c5])
    (by
      rintro st ⟨m', rfl, i1, i3, i4, i5⟩
      have hT1 := FrX_T (FrN4_X i1) hT
      have ee : p + ((e - p).toNat : Int) = e := by omega
      have ext : f188_b106 (GC L) RC 120 (((e - p).toNat : Int), m') = xr (if 4 < ((e - p).toNat : Int) then (f188_150 (GC L) RC 4 120 m') else (f188_150 (GC L) RC 2 120 m')) := by
        unfold f188_b106
        simp only [KG L, if_true]
        rw [i5, ee]
        by_cases c : e < sz
        · rw [(f187_s L hT1 (by omega)).1 c]
          simp only [Option.bind_some]
          rw [f143_s.2 (fun q => stop ⟨c, dgt_t.mpr q⟩)]
          simp only [Option.bind_some, if_true]
        · rw [(f187_s L hT1 (by omega)).2 c]
          simp only [Option.bind_some]
          rw [f143_s.2 (by omega)]
          simp only [Option.bind_some, if_true]
      unfold f188_150 at ext
      simp only [KG L, if_true] at ext
      rw [ext]
      by_cases c4 : e - p ≤ 4
      · rw [if_neg (by omega), xr_some]
        refine ⟨_, rfl, FrN4_p i1 (by omega), by rw [put_eq, if_pos c4], by rw [put_nj (by decide)]; exact i3, fun _ => ?_, by rw [put_nj (by decide)]; exact i5.trans ee⟩
        rw [put_nj (by decide), i4, if_pos (by omega)]
      · rw [if_pos (by omega), xr_some]
        exact ⟨_, rfl, FrN4_p i1 (by omega), by rw [put_eq, if_neg c4], by rw [put_nj (by decide)]; exact i3, fun q => absurd q c4, by rw [put_nj (by decide)]; exact i5.trans ee⟩)
    (by rw [FU_v]; omega) (0, put (put m 120 32 2) 120 34 0) ⟨_, rfl, FrN4_p (FrN4_p (FrN4_r m) (by omega)) (by omega), by rw [put_nj (by decide), put_nj (by decide)]; exact h33, put_eq _ _ _ _, by rw [put_nj (by decide), put_nj (by decide), h35]; show p = p + 0; omega⟩
  refine ⟨r, h1, h2.1, h2.2.2.1, ?_, fun _ => by rw [he]; exact h2.2.2.2.2⟩
  have tk : tko b sz p = if e - p ≤ 4 then 2 else 1 := by unfold tko; rw [if_pos hp, if_neg hl, if_pos hd, he]
  rw [tk, h2.2.1, he]
  by_cases c4 : e - p ≤ 4
  · rw [if_pos c4, if_pos c4]
    exact ⟨fun q => by omega, fun q => by omega, fun _ => ⟨rfl, h2.2.2.2.1 c4⟩, fun q => by omega, fun q => by omega⟩
  · rw [if_neg c4, if_neg c4]
    exact ⟨fun q => by omega, fun _ => Or.inl rfl, fun q => by omega, fun q => by omega, fun q => by omega⟩
def EqI (x y : Int) : Prop := x = y
theorem bnd {α β : Type} {x : Option α} {a : α} {f : α → Option β} (h : x = some a) : Option.bind x f = f a := by rw [h]; rfl
/-- a token that begins here -/
theorem f188b_s (L : Nat) {b : Int → Int} {sz q : Int} {m0 m : Sg} (hT : TX b sz m0) (hF : FrN4 m0 m) (q0 : 0 ≤ q) (q1 : q ≤ sz) (q35 : m 120 35 = q) (nb : ¬ (q < sz ∧ (b q = 32 ∨ b q = 10))) : ∃ r, f188_b0 (GC L) RC 120 m = some (Sum.inr r) ∧ FrN4 m0 r ∧ MTp b sz q r := by
  have t2 := hT.2.1
  have t3 := hT.2.2.1
  have hT1 := FrX_T (FrN4_X hF) hT
  have hT2 := FrX_T (FrX_p (i := 33) (v := q) (FrX_r m) (by omega)) hT1
  have hT3 := FrX_T (FrX_p (i := 32) (v := 4) (FrX_r _) (by omega)) hT2
  have F3 : FrN4 m0 (put (put m 120 33 q) 120 32 4) := FrN4_p (FrN4_p hF (by omega)) (by omega)
  have e35 : put (put m 120 33 q) 120 32 4 120 35 = q := by rw [put_nj (by decide), put_nj (by decide)]; exact q35
  have e33 : put (put m 120 33 q) 120 32 4 120 33 = q := by rw [put_nj (by decide), put_eq]
  have e32 : put (put m 120 33 q) 120 32 4 120 32 = 4 := put_eq _ _ _ _
  have red : ∀ v : Int, (v = if q < sz then b q else -1) → f188_b0 (GC L) RC 120 m = xr (f188_30 (GC L) RC 120 v 4 120 (put m 120 33 q)) := by
    intro v hv
    have n1 : ¬ v = 32 ∧ ¬ v = 10 := by
      by_cases c : q < sz
      · rw [if_pos c] at hv
        exact ⟨fun z => nb ⟨c, Or.inl (by omega)⟩, fun z => nb ⟨c, Or.inr (by omega)⟩⟩
      · rw [if_neg c] at hv; omega
    have r1 : f187 (GC L) RC 120 q m = some v := by
      by_cases c : q < sz
      · rw [(f187_s L hT1 q0).1 c, hv, if_pos c]
      · rw [(f187_s L hT1 q0).2 c, hv, if_neg c]
    have r2 : f187 (GC L) RC 120 q (put m 120 33 q) = some v := by
      by_cases c : q < sz
      · rw [(f187_s L hT2 q0).1 c, hv, if_pos c]
      · rw [(f187_s L hT2 q0).2 c, hv, if_neg c]
    unfold f188_b0
    simp only [KG L, if_true]
    rw [q35, r1]
    simp only [Option.bind_some]
    rw [if_neg n1.1, if_neg n1.2, put_nj (by decide), q35, r2]
    simp only [Option.bind_some]
  generalize hm3 : put (put m 120 33 q) 120 32 4 = m3 at *
  by_cases c : q < sz
  · rw [red (b q) (by rw [if_pos c])]
    unfold f188_30
    simp only [KG L, if_true]
    rw [hm3, if_neg (by have := (hT1.2.2.2.2.2 q q0 c).2.1; omega)]
    by_cases cl : ltr (b q) = true
    · rw [f143_s.1 (ltr_t.mp cl)]
      simp only [Option.bind_some]
      rw [if_neg (by decide)]
      obtain ⟨m', r1, r2, r3⟩ := f188w_s L hT3 q0 c cl e35 e33
      rw [r1, xr_some]
      exact ⟨m', rfl, fun x i cx => (r2 x i cx).trans (F3 x i cx), r3⟩
    · rw [bnd (f143_s.2 (fun z => cl (ltr_t.mpr z))), if_pos rfl]
      by_cases cd : dgt (b q) = true
      · rw [f143_s.1 (dgt_t.mp cd)]
        simp only [Option.bind_some]
        rw [if_neg (by decide)]
        obtain ⟨m', r1, r2, r3⟩ := f188n_s L hT3 q0 c cl cd e35 e33
        rw [r1, xr_some]
        exact ⟨m', rfl, fun x i cx => (r2 x i cx).trans (F3 x i cx), r3⟩
      · rw [bnd (f143_s.2 (fun z => cd (dgt_t.mpr z))), if_pos rfl]
        have te : ten b sz q = q + 1 := by unfold ten; rw [if_neg cl, if_neg cd]
        have sg : sgc (b q) = true → ∃ r, xr (S := Sg) (f188_176 (GC L) RC 120 (b q) m3) = some (Sum.inr r) ∧ FrN4 m0 r ∧ MTp b sz q r := by
          intro hs
          have hsv := of_decide_eq_true hs
          have tk : tko b sz q = b q := by unfold tko; rw [if_pos c, if_neg cl, if_neg cd, if_pos hs]
          unfold f188_176 f188_182 f188_188
          simp only [KG L, if_true]
          unfold g_add
          rw [put_nj (show ¬ (35 : Int) = 34 by decide), put_nj (show ¬ (35 : Int) = 32 by decide), e35, w32_i (by omega) (by omega), xr_some]
          refine ⟨_, rfl, FrN4_p (FrN4_p (FrN4_p F3 (by omega)) (by omega)) (by omega), ?_, ?_, fun _ => ?_⟩
          · rw [put_nj (by decide), put_nj (by decide), put_nj (by decide)]; exact e33
          · rw [tk, put_nj (show ¬ (32 : Int) = 35 by decide), put_nj (show ¬ (32 : Int) = 34 by decide), put_eq, put_nj (show ¬ (34 : Int) = 35 by decide), put_eq]
            exact ⟨fun z => by omega, fun z => by omega, fun z => by omega, fun z => by omega, fun _ => ⟨rfl, rfl⟩⟩
          · rw [put_eq, te]
        by_cases cs : sgc (b q) = true
        · have hsv := of_decide_eq_true cs
          obtain ⟨r, s1, s2⟩ := sg cs
          refine ⟨r, ?_, s2⟩
          rw [← s1]
          split
          · rfl
          · split
            · rfl
            · split
              · rfl
              · split
                · rfl
                · split
                  · rfl
                  · split
                    · rfl
                    · split
                      · rfl
                      · split
                        · rfl
                        · omega
        · have nc := fun z => cs (decide_eq_true z)
          rw [if_neg (fun z => nc (by omega)), if_neg (fun z => nc (by omega)), if_neg (fun z => nc (by omega)), if_neg (fun z => nc (by omega)), if_neg (fun z => nc (by omega)), if_neg (fun z => nc (by omega)), if_neg (fun z => nc (by omega)), if_neg (fun z => nc (by omega)), xr_some]
          have tk : tko b sz q = 1 := by unfold tko; rw [if_pos c, if_neg cl, if_neg cd, if_neg cs]
          refine ⟨_, rfl, F3, e33, ?_, fun z => by omega⟩
          rw [tk, e32]
          exact ⟨fun z => by omega, fun _ => Or.inl rfl, fun z => by omega, fun z => by omega, fun z => by omega⟩
  · have eq : q = sz := by omega
    have tk : tko b sz q = 0 := tko_z.mpr c
    rw [red (-1) (by rw [if_neg c])]
    unfold f188_30 f188_35 f188_39
    simp only [KG L, if_true]
    rw [hm3, if_pos (by decide), put_nj (by decide), hT3.1, xr_some]
    refine ⟨_, rfl, FrN4_p (FrN4_p F3 (by omega)) (by omega), by rw [put_eq, eq], ?_, fun z => by omega⟩
    rw [tk, put_nj (show ¬ (32 : Int) = 33 by decide), put_eq]
    exact ⟨fun _ => rfl, fun z => by omega, fun z => by omega, fun z => by omega, fun z => by omega⟩
/-- the next token, from a place on -/
theorem f188_s (L : Nat) {b : Int → Int} {sz p : Int} {m0 : Sg} (hT : TX b sz m0) (h0 : 0 ≤ p) (hp : p ≤ sz) (h35 : m0 120 35 = p) : ∃ m', f188 (GC L) RC 120 m0 = some m' ∧ FrN4 m0 m' ∧ MTp b sz (nxp b sz p) m' := by
  have t2 := hT.2.1
  have t3 := hT.2.2.1
  unfold f188
  refine lp_ex (f := f188_b0 (GC L) RC 120) (fun k m => ∃ q : Int, p + k ≤ q ∧ q ≤ sz ∧ m 120 35 = q ∧ FrN4 m0 m ∧ EqI (nxp b sz q) (nxp b sz p)) (sz - p).toNat ?_ ?_ FU (by rw [FU_v]; omega) m0 ⟨p, by omega, hp, h35, FrN4_r m0, rfl⟩
  · rintro k m hk ⟨q, i1, i2, i3, i4, i5⟩
    by_cases c : q < sz ∧ (b q = 32 ∨ b q = 10)
    · left
      have hT1 := FrX_T (FrN4_X i4) hT
      have r12 : f188_12 (GC L) RC 120 m = some (Sum.inl (put m 120 35 (q + 1))) := by
        unfold f188_12
        simp only [KG L, if_true]
        unfold g_add
        rw [i3, w32_i (by omega) (by omega)]
      refine ⟨put m 120 35 (q + 1), ?_, q + 1, by omega, by omega, put_eq _ _ _ _, FrN4_p i4 (by omega), (nxp_y (by omega) t3 c.1 c.2).symm.trans i5⟩
      unfold f188_b0
      simp only [KG L, if_true]
      rw [i3, (f187_s L hT1 (by omega)).1 c.1]
      simp only [Option.bind_some]
      rw [r12]
      by_cases c32 : b q = 32
      · rw [if_pos c32]
      · rw [if_neg c32, if_pos (by omega)]
    · right
      obtain ⟨r, s1, s2, s3⟩ := f188b_s L hT i4 (by omega) i2 i3 c
      have i6 : q = nxp b sz p := (nxp_n c).symm.trans i5
      exact ⟨r, s1, s2, i6 ▸ s3⟩
  · rintro m ⟨q, i1, i2, i3, i4, i5⟩
    have c : ¬ (q < sz ∧ (b q = 32 ∨ b q = 10)) := by omega
    obtain ⟨r, s1, s2, s3⟩ := f188b_s L hT i4 (by omega) i2 i3 c
    have i6 : q = nxp b sz p := (nxp_n c).symm.trans i5
    exact ⟨r, s1, s2, i6 ▸ s3⟩
