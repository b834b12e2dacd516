/-! WHAT IS WON, AS THE CLASS RECKONS IT -/
theorem put_f {m : Sg} {a b : Nat} {i v : Int} (h : ¬ b = a) : put m a i v b = m b := funext fun _ => put_ne h
theorem f91_s {G : Gg} {ρ : Rg} {m : Sg} {s d : Int} (h1 : 0 ≤ s) (h2 : s < 1000) (h3 : 0 ≤ d) (h4 : d < 1000) : f91 G ρ s d m = some (5 * s + d - 1) := by
  unfold f91 g_sub g_add g_mul
  rw [w32_i (x := s * 5) (by omega) (by omega), w32_i (x := s * 5 + d) (by omega) (by omega), w32_i (by omega) (by omega)]
  congr 1
  omega
def oc (n : Int) (K N : Int → Int) (a s d : Int) : Int := if alB a d = true then ou n K N s d else 4
theorem oc_a {n : Int} {K N : Int → Int} {a s d : Int} (h : alw a d) : oc n K N a s d = ou n K N s d := if_pos (alB_t.mpr h)
theorem oc_n {n : Int} {K N : Int → Int} {a s d : Int} (h : ¬ alw a d) : oc n K N a s d = 4 := if_neg (fun q => h (alB_t.mp q))
def TI (m0 : Sg) (w o l : Nat) (n : Int) (K N : Int → Int) (a : Int) (m : Sg) (s d : Int) : Prop := (∀ x i, ¬ x = o → ¬ x = l → ¬ (x = w ∧ i = 3) → m x i = m0 x i) ∧ m w 3 = n ∧ ∀ s' d', 0 ≤ s' → s' < n → 1 ≤ d' → d' ≤ 5 → (s' < s ∨ (s' = s ∧ d' < d)) → m o (5 * s' + d' - 1) = oc n K N a s' d' ∧ m l (5 * s' + d' - 1) = la n K N s' d'
theorem TI_s {m0 : Sg} {w o l : Nat} {n : Int} {K N : Int → Int} {a : Int} {m : Sg} {s d : Int} (h : TI m0 w o l n K N a m s d) (h1 : ¬ w = o) (h2 : ¬ w = l) (h3 : ¬ o = l) (hd : 1 ≤ d) (hd5 : d ≤ 5) : TI m0 w o l n K N a (put (put m o (5 * s + d - 1) (oc n K N a s d)) l (5 * s + d - 1) (la n K N s d)) s (d + 1) := by
  obtain ⟨i1, i2, i3⟩ := h
  refine ⟨fun x i c1 c2 c3 => ?_, ?_, fun s' d' a1 a2 a3 a4 a5 => ?_⟩
  · rw [put_ne c2, put_ne c1]; exact i1 x i c1 c2 c3
  · rw [put_ne h2, put_ne h1]; exact i2
  · by_cases c : s' = s ∧ d' = d
    · obtain ⟨rfl, rfl⟩ := c
      rw [put_ne h3, put_eq, put_eq]
      exact ⟨rfl, rfl⟩
    · have := i3 s' d' a1 a2 a3 a4 (by omega)
      rw [put_ne h3, put_nj (a := o) (by omega), put_nj (a := l) (by omega), put_ne (fun q => h3 q.symm)]
      exact this
theorem TI_n {m0 : Sg} {w o l : Nat} {n : Int} {K N : Int → Int} {a : Int} {m : Sg} {s : Int} (h : TI m0 w o l n K N a m s 6) : TI m0 w o l n K N a m (s + 1) 1 := ⟨h.1, h.2.1, fun s' d' a1 a2 a3 a4 a5 => h.2.2 s' d' a1 a2 a3 a4 (by omega)⟩
/-- what a move is worth, by the rows -/
def vl (O Ld F : Int → Int) (mv s d : Int) : Int := if O (5 * s + d - 1) = 2 then 1 else if O (5 * s + d - 1) = 3 then -1 else if F (Ld (5 * s + d - 1)) = 0 then 0 else if (if F (Ld (5 * s + d - 1)) < 0 then -(F (Ld (5 * s + d - 1))) else F (Ld (5 * s + d - 1))) < mv then (if O (5 * s + d - 1) = 1 then (if 0 < F (Ld (5 * s + d - 1)) then F (Ld (5 * s + d - 1)) + 1 else F (Ld (5 * s + d - 1)) - 1) else -(if 0 < F (Ld (5 * s + d - 1)) then F (Ld (5 * s + d - 1)) + 1 else F (Ld (5 * s + d - 1)) - 1)) else 0
theorem tabi_2_54 (L : Nat) {m0 m : Sg} {n s d : Int} (hn : m0 54 0 = n) (h4 : 4 ≤ n) (h10 : n ≤ 10) (hN : ∀ i, 0 ≤ i → i < n → 0 ≤ m0 58 i ∧ m0 58 i < 1000) (hs : 0 ≤ s) (hs2 : s < n) (hd : 1 ≤ d) (hd5 : d ≤ 5) (hI : TI m0 2 6 8 n (m0 56) (m0 58) (m0 54 3) m s d) : ∃ m', f92_b12 (GC L) RC 2 54 s (d, m) = some (Sum.inl (d + 1, m')) ∧ TI m0 2 6 8 n (m0 56) (m0 58) (m0 54 3) m' s (d + 1) := by
  have eK : m 56 = m0 56 := funext fun i => hI.1 56 i (by decide) (by decide) (by omega)
  have eN : m 58 = m0 58 := funext fun i => hI.1 58 i (by decide) (by decide) (by omega)
  have e0 : m 54 0 = n := by rw [hI.1 54 0 (by decide) (by decide) (by omega)]; exact hn
  have e3 : m 54 3 = m0 54 3 := hI.1 54 3 (by decide) (by decide) (by omega)
  refine ⟨_, ?_, TI_s hI (by decide) (by decide) (by decide) hd hd5⟩
  have e30 : ∀ w0 : Int, f92_30 (GC L) RC 2 54 s d w0 (5 * s + d - 1) 5 m = some (Sum.inl (d + 1, put (put m 6 (5 * s + d - 1) w0) 8 (5 * s + d - 1) (la n (m0 56) (m0 58) s d))) := by
    intro w0
    unfold f92_30
    simp only [KG L, KR, RPx L, Option.bind_some, if_true]
    rw [f91_s (by omega) (by omega) (by omega) (by omega)]
    simp only [Option.bind_some]
    rw [rp_in (by omega) (by omega), f44_54 L (n := n) (by rw [put_ne (by decide)]; exact e0) (by omega) h10 (by omega) (by omega) (by rw [put_f (by decide), eN]; exact hN)]
    simp only [Option.bind_some]
    rw [rp_in (by omega) (by omega), put_f (by decide), put_f (by decide), eK, eN, w32_i (by omega) (by omega)]
  unfold f92_b12
  simp only
  rw [if_neg (show ¬ 5 < d by omega), f91_s (by omega) (by omega) (by omega) (by omega)]
  simp only [KG L, KR, Option.bind_some, if_true]
  by_cases c : alw (m 54 3) d
  · rw [(f39_54 L).1 c]
    simp only [Option.bind_some]
    rw [if_neg (by decide), f43_54 L e0 (by omega) h10 (by omega) (by omega)]
    simp only [Option.bind_some]
    rw [e30, eK, eN, oc_a (by rw [← e3]; exact c)]
  · rw [(f39_54 L).2 c]
    simp only [Option.bind_some, if_true]
    rw [e30, oc_n (by rw [← e3]; exact c)]
theorem tabs_2_54 (L : Nat) {m0 m : Sg} {n s : Int} (hn : m0 54 0 = n) (h4 : 4 ≤ n) (h10 : n ≤ 10) (hN : ∀ i, 0 ≤ i → i < n → 0 ≤ m0 58 i ∧ m0 58 i < 1000) (hs : 0 ≤ s) (hs2 : s < n) (hI : TI m0 2 6 8 n (m0 56) (m0 58) (m0 54 3) m s 1) : ∃ m', f92_b6 (GC L) RC 2 54 (s, m) = some (Sum.inl (s + 1, m')) ∧ TI m0 2 6 8 n (m0 56) (m0 58) (m0 54 3) m' (s + 1) 1 := by
  unfold f92_b6
  simp only [KG L, if_true]
  rw [hI.2.1, if_pos hs2]
  obtain ⟨q, h1, m', h2, h3⟩ := lp_all (f := f92_b12 (GC L) RC 2 54 s) (Q := fun q => ∃ m', q = Sum.inl (s + 1, m') ∧ TI m0 2 6 8 n (m0 56) (m0 58) (m0 54 3) m' (s + 1) 1) (fun k st => ∃ m', st = ((k : Int) + 1, m') ∧ TI m0 2 6 8 n (m0 56) (m0 58) (m0 54 3) m' s ((k : Int) + 1)) 5
    (by
      rintro k st hk ⟨m', rfl, hI'⟩
      obtain ⟨m2, h1, h2⟩ := tabi_2_54 L hn h4 h10 hN hs hs2 (by omega) (by omega) hI'
      exact ⟨_, h1, m2, rfl, h2⟩)
    (by
      rintro st ⟨m', rfl, hI'⟩
      refine ⟨_, ?_, m', rfl, TI_n hI'⟩
      unfold f92_b12
      simp only
      rw [if_pos (by omega), xr_some, w32_i (by omega) (by omega)])
    (by rw [FU_v]; omega) (1, m) ⟨m, rfl, (by rw [show ((0 : Nat) : Int) + 1 = 1 from rfl]; exact hI)⟩
  exact ⟨m', by rw [h1, h2], h3⟩
theorem tab_2_54 (L : Nat) {m0 : Sg} {n : Int} (hn : m0 54 0 = n) (h4 : 4 ≤ n) (h10 : n ≤ 10) (hN : ∀ i, 0 ≤ i → i < n → 0 ≤ m0 58 i ∧ m0 58 i < 1000) : ∃ m', f92 (GC L) RC 2 54 m0 = some m' ∧ TI m0 2 6 8 n (m0 56) (m0 58) (m0 54 3) m' n 1 := by
  unfold f92
  simp only [KG L, if_true]
  rw [hn]
  have hI0 : TI m0 2 6 8 n (m0 56) (m0 58) (m0 54 3) (put m0 2 3 n) 0 1 := ⟨fun x i c1 c2 c3 => by
    by_cases c : x = 2
    · exact c ▸ put_nj (fun q => c3 ⟨c, q⟩)
    · exact put_ne c, put_eq _ _ _ _, fun s' d' a1 a2 a3 a4 a5 => by omega⟩
  have hn2 : ((n.toNat : Nat) : Int) = n := Int.toNat_of_nonneg (by omega)
  obtain ⟨q, h1, h2⟩ := lp_all (f := f92_b6 (GC L) RC 2 54) (Q := fun q => TI m0 2 6 8 n (m0 56) (m0 58) (m0 54 3) q n 1) (fun k st => ∃ m', st = ((k : Int), m') ∧ TI m0 2 6 8 n (m0 56) (m0 58) (m0 54 3) m' (k : Int) 1) n.toNat
    (by
      rintro k st hk ⟨m', rfl, hI'⟩
      obtain ⟨m2, h1, h2⟩ := tabs_2_54 L hn h4 h10 hN (by omega) (by omega) hI'
      exact ⟨_, h1, m2, rfl, h2⟩)
    (by
      rintro st ⟨m', rfl, hI'⟩
      rw [hn2] at hI' ⊢
      refine ⟨m', ?_, hI'⟩
      unfold f92_b6
      simp only [KG L, if_true]
      rw [hI'.2.1, if_neg (by omega), xr_some])
    (by rw [FU_v]; omega) (0, put m0 2 3 n) ⟨_, rfl, hI0⟩
  exact ⟨q, h1, h2⟩
theorem tabi_2_59 (L : Nat) {m0 m : Sg} {n s d : Int} (hn : m0 59 0 = n) (h4 : 4 ≤ n) (h10 : n ≤ 10) (hN : ∀ i, 0 ≤ i → i < n → 0 ≤ m0 63 i ∧ m0 63 i < 1000) (hs : 0 ≤ s) (hs2 : s < n) (hd : 1 ≤ d) (hd5 : d ≤ 5) (hI : TI m0 2 6 8 n (m0 61) (m0 63) (m0 59 3) m s d) : ∃ m', f92_b12 (GC L) RC 2 59 s (d, m) = some (Sum.inl (d + 1, m')) ∧ TI m0 2 6 8 n (m0 61) (m0 63) (m0 59 3) m' s (d + 1) := by
  have eK : m 61 = m0 61 := funext fun i => hI.1 61 i (by decide) (by decide) (by omega)
  have eN : m 63 = m0 63 := funext fun i => hI.1 63 i (by decide) (by decide) (by omega)
  have e0 : m 59 0 = n := by rw [hI.1 59 0 (by decide) (by decide) (by omega)]; exact hn
  have e3 : m 59 3 = m0 59 3 := hI.1 59 3 (by decide) (by decide) (by omega)
  refine ⟨_, ?_, TI_s hI (by decide) (by decide) (by decide) hd hd5⟩
  have e30 : ∀ w0 : Int, f92_30 (GC L) RC 2 59 s d w0 (5 * s + d - 1) 5 m = some (Sum.inl (d + 1, put (put m 6 (5 * s + d - 1) w0) 8 (5 * s + d - 1) (la n (m0 61) (m0 63) s d))) := by
    intro w0
    unfold f92_30
    simp only [KG L, KR, RPx L, Option.bind_some, if_true]
    rw [f91_s (by omega) (by omega) (by omega) (by omega)]
    simp only [Option.bind_some]
    rw [rp_in (by omega) (by omega), f44_59 L (n := n) (by rw [put_ne (by decide)]; exact e0) (by omega) h10 (by omega) (by omega) (by rw [put_f (by decide), eN]; exact hN)]
    simp only [Option.bind_some]
    rw [rp_in (by omega) (by omega), put_f (by decide), put_f (by decide), eK, eN, w32_i (by omega) (by omega)]
  unfold f92_b12
  simp only
  rw [if_neg (show ¬ 5 < d by omega), f91_s (by omega) (by omega) (by omega) (by omega)]
  simp only [KG L, KR, Option.bind_some, if_true]
  by_cases c : alw (m 59 3) d
  · rw [(f39_59 L).1 c]
    simp only [Option.bind_some]
    rw [if_neg (by decide), f43_59 L e0 (by omega) h10 (by omega) (by omega)]
    simp only [Option.bind_some]
    rw [e30, eK, eN, oc_a (by rw [← e3]; exact c)]
  · rw [(f39_59 L).2 c]
    simp only [Option.bind_some, if_true]
    rw [e30, oc_n (by rw [← e3]; exact c)]
theorem tabs_2_59 (L : Nat) {m0 m : Sg} {n s : Int} (hn : m0 59 0 = n) (h4 : 4 ≤ n) (h10 : n ≤ 10) (hN : ∀ i, 0 ≤ i → i < n → 0 ≤ m0 63 i ∧ m0 63 i < 1000) (hs : 0 ≤ s) (hs2 : s < n) (hI : TI m0 2 6 8 n (m0 61) (m0 63) (m0 59 3) m s 1) : ∃ m', f92_b6 (GC L) RC 2 59 (s, m) = some (Sum.inl (s + 1, m')) ∧ TI m0 2 6 8 n (m0 61) (m0 63) (m0 59 3) m' (s + 1) 1 := by
  unfold f92_b6
  simp only [KG L, if_true]
  rw [hI.2.1, if_pos hs2]
  obtain ⟨q, h1, m', h2, h3⟩ := lp_all (f := f92_b12 (GC L) RC 2 59 s) (Q := fun q => ∃ m', q = Sum.inl (s + 1, m') ∧ TI m0 2 6 8 n (m0 61) (m0 63) (m0 59 3) m' (s + 1) 1) (fun k st => ∃ m', st = ((k : Int) + 1, m') ∧ TI m0 2 6 8 n (m0 61) (m0 63) (m0 59 3) m' s ((k : Int) + 1)) 5
    (by
      rintro k st hk ⟨m', rfl, hI'⟩
      obtain ⟨m2, h1, h2⟩ := tabi_2_59 L hn h4 h10 hN hs hs2 (by omega) (by omega) hI'
      exact ⟨_, h1, m2, rfl, h2⟩)
    (by
      rintro st ⟨m', rfl, hI'⟩
      refine ⟨_, ?_, m', rfl, TI_n hI'⟩
      unfold f92_b12
      simp only
      rw [if_pos (by omega), xr_some, w32_i (by omega) (by omega)])
    (by rw [FU_v]; omega) (1, m) ⟨m, rfl, (by rw [show ((0 : Nat) : Int) + 1 = 1 from rfl]; exact hI)⟩
  exact ⟨m', by rw [h1, h2], h3⟩
theorem tab_2_59 (L : Nat) {m0 : Sg} {n : Int} (hn : m0 59 0 = n) (h4 : 4 ≤ n) (h10 : n ≤ 10) (hN : ∀ i, 0 ≤ i → i < n → 0 ≤ m0 63 i ∧ m0 63 i < 1000) : ∃ m', f92 (GC L) RC 2 59 m0 = some m' ∧ TI m0 2 6 8 n (m0 61) (m0 63) (m0 59 3) m' n 1 := by
  unfold f92
  simp only [KG L, if_true]
  rw [hn]
  have hI0 : TI m0 2 6 8 n (m0 61) (m0 63) (m0 59 3) (put m0 2 3 n) 0 1 := ⟨fun x i c1 c2 c3 => by
    by_cases c : x = 2
    · exact c ▸ put_nj (fun q => c3 ⟨c, q⟩)
    · exact put_ne c, put_eq _ _ _ _, fun s' d' a1 a2 a3 a4 a5 => by omega⟩
  have hn2 : ((n.toNat : Nat) : Int) = n := Int.toNat_of_nonneg (by omega)
  obtain ⟨q, h1, h2⟩ := lp_all (f := f92_b6 (GC L) RC 2 59) (Q := fun q => TI m0 2 6 8 n (m0 61) (m0 63) (m0 59 3) q n 1) (fun k st => ∃ m', st = ((k : Int), m') ∧ TI m0 2 6 8 n (m0 61) (m0 63) (m0 59 3) m' (k : Int) 1) n.toNat
    (by
      rintro k st hk ⟨m', rfl, hI'⟩
      obtain ⟨m2, h1, h2⟩ := tabs_2_59 L hn h4 h10 hN (by omega) (by omega) hI'
      exact ⟨_, h1, m2, rfl, h2⟩)
    (by
      rintro st ⟨m', rfl, hI'⟩
      rw [hn2] at hI' ⊢
      refine ⟨m', ?_, hI'⟩
      unfold f92_b6
      simp only [KG L, if_true]
      rw [hI'.2.1, if_neg (by omega), xr_some])
    (by rw [FU_v]; omega) (0, put m0 2 3 n) ⟨_, rfl, hI0⟩
  exact ⟨q, h1, h2⟩
theorem tabi_65_77 (L : Nat) {m0 m : Sg} {n s d : Int} (hn : m0 77 0 = n) (h4 : 4 ≤ n) (h10 : n ≤ 10) (hN : ∀ i, 0 ≤ i → i < n → 0 ≤ m0 81 i ∧ m0 81 i < 1000) (hs : 0 ≤ s) (hs2 : s < n) (hd : 1 ≤ d) (hd5 : d ≤ 5) (hI : TI m0 65 69 71 n (m0 79) (m0 81) (m0 77 3) m s d) : ∃ m', f92_b12 (GC L) RC 65 77 s (d, m) = some (Sum.inl (d + 1, m')) ∧ TI m0 65 69 71 n (m0 79) (m0 81) (m0 77 3) m' s (d + 1) := by
  have eK : m 79 = m0 79 := funext fun i => hI.1 79 i (by decide) (by decide) (by omega)
  have eN : m 81 = m0 81 := funext fun i => hI.1 81 i (by decide) (by decide) (by omega)
  have e0 : m 77 0 = n := by rw [hI.1 77 0 (by decide) (by decide) (by omega)]; exact hn
  have e3 : m 77 3 = m0 77 3 := hI.1 77 3 (by decide) (by decide) (by omega)
  refine ⟨_, ?_, TI_s hI (by decide) (by decide) (by decide) hd hd5⟩
  have e30 : ∀ w0 : Int, f92_30 (GC L) RC 65 77 s d w0 (5 * s + d - 1) 68 m = some (Sum.inl (d + 1, put (put m 69 (5 * s + d - 1) w0) 71 (5 * s + d - 1) (la n (m0 79) (m0 81) s d))) := by
    intro w0
    unfold f92_30
    simp only [KG L, KR, RPx L, Option.bind_some, if_true]
    rw [f91_s (by omega) (by omega) (by omega) (by omega)]
    simp only [Option.bind_some]
    rw [rp_in (by omega) (by omega), f44_77 L (n := n) (by rw [put_ne (by decide)]; exact e0) (by omega) h10 (by omega) (by omega) (by rw [put_f (by decide), eN]; exact hN)]
    simp only [Option.bind_some]
    rw [rp_in (by omega) (by omega), put_f (by decide), put_f (by decide), eK, eN, w32_i (by omega) (by omega)]
  unfold f92_b12
  simp only
  rw [if_neg (show ¬ 5 < d by omega), f91_s (by omega) (by omega) (by omega) (by omega)]
  simp only [KG L, KR, Option.bind_some, if_true]
  by_cases c : alw (m 77 3) d
  · rw [(f39_77 L).1 c]
    simp only [Option.bind_some]
    rw [if_neg (by decide), f43_77 L e0 (by omega) h10 (by omega) (by omega)]
    simp only [Option.bind_some]
    rw [e30, eK, eN, oc_a (by rw [← e3]; exact c)]
  · rw [(f39_77 L).2 c]
    simp only [Option.bind_some, if_true]
    rw [e30, oc_n (by rw [← e3]; exact c)]
theorem tabs_65_77 (L : Nat) {m0 m : Sg} {n s : Int} (hn : m0 77 0 = n) (h4 : 4 ≤ n) (h10 : n ≤ 10) (hN : ∀ i, 0 ≤ i → i < n → 0 ≤ m0 81 i ∧ m0 81 i < 1000) (hs : 0 ≤ s) (hs2 : s < n) (hI : TI m0 65 69 71 n (m0 79) (m0 81) (m0 77 3) m s 1) : ∃ m', f92_b6 (GC L) RC 65 77 (s, m) = some (Sum.inl (s + 1, m')) ∧ TI m0 65 69 71 n (m0 79) (m0 81) (m0 77 3) m' (s + 1) 1 := by
  unfold f92_b6
  simp only [KG L, if_true]
  rw [hI.2.1, if_pos hs2]
  obtain ⟨q, h1, m', h2, h3⟩ := lp_all (f := f92_b12 (GC L) RC 65 77 s) (Q := fun q => ∃ m', q = Sum.inl (s + 1, m') ∧ TI m0 65 69 71 n (m0 79) (m0 81) (m0 77 3) m' (s + 1) 1) (fun k st => ∃ m', st = ((k : Int) + 1, m') ∧ TI m0 65 69 71 n (m0 79) (m0 81) (m0 77 3) m' s ((k : Int) + 1)) 5
    (by
      rintro k st hk ⟨m', rfl, hI'⟩
      obtain ⟨m2, h1, h2⟩ := tabi_65_77 L hn h4 h10 hN hs hs2 (by omega) (by omega) hI'
      exact ⟨_, h1, m2, rfl, h2⟩)
    (by
      rintro st ⟨m', rfl, hI'⟩
      refine ⟨_, ?_, m', rfl, TI_n hI'⟩
      unfold f92_b12
      simp only
      rw [if_pos (by omega), xr_some, w32_i (by omega) (by omega)])
    (by rw [FU_v]; omega) (1, m) ⟨m, rfl, (by rw [show ((0 : Nat) : Int) + 1 = 1 from rfl]; exact hI)⟩
  exact ⟨m', by rw [h1, h2], h3⟩
theorem tab_65_77 (L : Nat) {m0 : Sg} {n : Int} (hn : m0 77 0 = n) (h4 : 4 ≤ n) (h10 : n ≤ 10) (hN : ∀ i, 0 ≤ i → i < n → 0 ≤ m0 81 i ∧ m0 81 i < 1000) : ∃ m', f92 (GC L) RC 65 77 m0 = some m' ∧ TI m0 65 69 71 n (m0 79) (m0 81) (m0 77 3) m' n 1 := by
  unfold f92
  simp only [KG L, if_true]
  rw [hn]
  have hI0 : TI m0 65 69 71 n (m0 79) (m0 81) (m0 77 3) (put m0 65 3 n) 0 1 := ⟨fun x i c1 c2 c3 => by
    by_cases c : x = 65
    · exact c ▸ put_nj (fun q => c3 ⟨c, q⟩)
    · exact put_ne c, put_eq _ _ _ _, fun s' d' a1 a2 a3 a4 a5 => by omega⟩
  have hn2 : ((n.toNat : Nat) : Int) = n := Int.toNat_of_nonneg (by omega)
  obtain ⟨q, h1, h2⟩ := lp_all (f := f92_b6 (GC L) RC 65 77) (Q := fun q => TI m0 65 69 71 n (m0 79) (m0 81) (m0 77 3) q n 1) (fun k st => ∃ m', st = ((k : Int), m') ∧ TI m0 65 69 71 n (m0 79) (m0 81) (m0 77 3) m' (k : Int) 1) n.toNat
    (by
      rintro k st hk ⟨m', rfl, hI'⟩
      obtain ⟨m2, h1, h2⟩ := tabs_65_77 L hn h4 h10 hN (by omega) (by omega) hI'
      exact ⟨_, h1, m2, rfl, h2⟩)
    (by
      rintro st ⟨m', rfl, hI'⟩
      rw [hn2] at hI' ⊢
      refine ⟨m', ?_, hI'⟩
      unfold f92_b6
      simp only [KG L, if_true]
      rw [hI'.2.1, if_neg (by omega), xr_some])
    (by rw [FU_v]; omega) (0, put m0 65 3 n) ⟨_, rfl, hI0⟩
  exact ⟨q, h1, h2⟩
theorem f94_2 (L : Nat) {m : Sg} {mv s d : Int} (hs : 0 ≤ s) (hs2 : s < 10) (hd : 1 ≤ d) (hd5 : d ≤ 5) (hl : 0 ≤ m 8 (5 * s + d - 1) ∧ m 8 (5 * s + d - 1) < 10) (hF : ∀ i, 0 ≤ i → i < 10 → -100 ≤ m 4 i ∧ m 4 i ≤ 100) : f94 (GC L) RC 2 s d mv m = some (vl (m 6) (m 8) (m 4) mv s d) := by
  have hb := hF _ hl.1 hl.2
  unfold f94
  rw [f91_s (by omega) (by omega) (by omega) (by omega)]
  simp only [KG L, KR, RAx L, Option.bind_some, if_true]
  rw [ra_in (n := 50) (F := m 6) (by omega) (by omega), ra_in (n := 50) (F := m 8) (by omega) (by omega), ra_in hl.1 hl.2]
  unfold vl f225 f94_44 g_neg g_add g_sub
  generalize hv : m 4 (m 8 (5 * s + d - 1)) = v at hb ⊢
  generalize m 6 (5 * s + d - 1) = u
  split
  · rfl
  · split
    · rfl
    · split
      · rfl
      · by_cases c : v < 0
        · rw [if_pos c, if_pos c, w32_i (by omega) (by omega)]
          simp only [Option.bind_some]
          split
          · simp only [if_neg (show ¬ 0 < v by omega)]
            rw [w32_i (x := v - 1) (by omega) (by omega), w32_i (by omega) (by omega)]
            split <;> rfl
          · rfl
        · rw [if_neg c, if_neg c]
          simp only [Option.bind_some]
          split
          · simp only [if_pos (show 0 < v by omega)]
            rw [w32_i (x := v + 1) (by omega) (by omega), w32_i (by omega) (by omega)]
            split <;> rfl
          · rfl
theorem f94_65 (L : Nat) {m : Sg} {mv s d : Int} (hs : 0 ≤ s) (hs2 : s < 10) (hd : 1 ≤ d) (hd5 : d ≤ 5) (hl : 0 ≤ m 71 (5 * s + d - 1) ∧ m 71 (5 * s + d - 1) < 10) (hF : ∀ i, 0 ≤ i → i < 10 → -100 ≤ m 67 i ∧ m 67 i ≤ 100) : f94 (GC L) RC 65 s d mv m = some (vl (m 69) (m 71) (m 67) mv s d) := by
  have hb := hF _ hl.1 hl.2
  unfold f94
  rw [f91_s (by omega) (by omega) (by omega) (by omega)]
  simp only [KG L, KR, RAx L, Option.bind_some, if_true]
  rw [ra_in (n := 50) (F := m 69) (by omega) (by omega), ra_in (n := 50) (F := m 71) (by omega) (by omega), ra_in hl.1 hl.2]
  unfold vl f225 f94_44 g_neg g_add g_sub
  generalize hv : m 67 (m 71 (5 * s + d - 1)) = v at hb ⊢
  generalize m 69 (5 * s + d - 1) = u
  split
  · rfl
  · split
    · rfl
    · split
      · rfl
      · by_cases c : v < 0
        · rw [if_pos c, if_pos c, w32_i (by omega) (by omega)]
          simp only [Option.bind_some]
          split
          · simp only [if_neg (show ¬ 0 < v by omega)]
            rw [w32_i (x := v - 1) (by omega) (by omega), w32_i (by omega) (by omega)]
            split <;> rfl
          · rfl
        · rw [if_neg c, if_neg c]
          simp only [Option.bind_some]
          split
          · simp only [if_pos (show 0 < v by omega)]
            rw [w32_i (x := v + 1) (by omega) (by omega), w32_i (by omega) (by omega)]
            split <;> rfl
          · rfl
