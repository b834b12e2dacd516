/-! THE FIRST TEXT (printed by wip/whole/gen95.py) -/
def b29 : Int → Int := fun i => sbyt 0 i
def b32 : Int → Int := fun i => if 0 ≤ i ∧ i < 32 then ([116, 97, 107, 101, 32, 119, 111, 110, 32, 59, 32, 107, 101, 101, 112, 32, 101, 110, 100, 108, 101, 115, 115, 32, 60, 32, 51, 32, 59, 32, 32, 32] : List Int).getD i.toNat 0 else 0
def T1 : Nat → Int := fun j => ([3, 9, 59, 4, 11, 60, 2, 59] : List Int).getD j 0
def V1 : Nat → Int := fun j => ([73543, 7792, 11, 64894, 59786037, 12, 3, 11] : List Int).getD j (-48)
theorem b29_0 : SP b29 29 0 = 0 := by decide +kernel
theorem b29_1 : SP b29 29 1 = 5 := by
  rw [SP_s, b29_0]
  decide +kernel
theorem b29_2 : SP b29 29 2 = 9 := by
  rw [SP_s, b29_1]
  decide +kernel
theorem b29_3 : SP b29 29 3 = 11 := by
  rw [SP_s, b29_2]
  decide +kernel
theorem b29_4 : SP b29 29 4 = 16 := by
  rw [SP_s, b29_3]
  decide +kernel
theorem b29_5 : SP b29 29 5 = 24 := by
  rw [SP_s, b29_4]
  decide +kernel
theorem b29_6 : SP b29 29 6 = 26 := by
  rw [SP_s, b29_5]
  decide +kernel
theorem b29_7 : SP b29 29 7 = 28 := by
  rw [SP_s, b29_6]
  decide +kernel
theorem b29_8 : SP b29 29 8 = 29 := by
  rw [SP_s, b29_7]
  decide +kernel
theorem b29_z : ∀ j : Nat, SP b29 29 (j + 8) = 29
  | 0 => b29_8
  | j + 1 => by
    rw [show j + 1 + 8 = (j + 8) + 1 from rfl, SP_s, b29_z j]
    decide +kernel
theorem b29_T : TK b29 29 = T1 := by
  funext j
  by_cases c : j < 8
  · have cs : j = 0 ∨ j = 1 ∨ j = 2 ∨ j = 3 ∨ j = 4 ∨ j = 5 ∨ j = 6 ∨ j = 7 := by omega
    unfold TK
    rcases cs with rfl | rfl | rfl | rfl | rfl | rfl | rfl | rfl
    · rw [b29_0]; decide +kernel
    · rw [b29_1]; decide +kernel
    · rw [b29_2]; decide +kernel
    · rw [b29_3]; decide +kernel
    · rw [b29_4]; decide +kernel
    · rw [b29_5]; decide +kernel
    · rw [b29_6]; decide +kernel
    · rw [b29_7]; decide +kernel
  · unfold TK T1
    rw [show j = (j - 8) + 8 by omega, b29_z, List.getD_eq_getElem?_getD, List.getElem?_eq_none (by show 8 ≤ _; omega)]
    decide +kernel
theorem b29_V : NV b29 29 = V1 := by
  funext j
  by_cases c : j < 8
  · have cs : j = 0 ∨ j = 1 ∨ j = 2 ∨ j = 3 ∨ j = 4 ∨ j = 5 ∨ j = 6 ∨ j = 7 := by omega
    unfold NV
    rcases cs with rfl | rfl | rfl | rfl | rfl | rfl | rfl | rfl
    · rw [b29_0]; decide +kernel
    · rw [b29_1]; decide +kernel
    · rw [b29_2]; decide +kernel
    · rw [b29_3]; decide +kernel
    · rw [b29_4]; decide +kernel
    · rw [b29_5]; decide +kernel
    · rw [b29_6]; decide +kernel
    · rw [b29_7]; decide +kernel
  · unfold NV V1
    rw [show j = (j - 8) + 8 by omega, b29_z, List.getD_eq_getElem?_getD, List.getElem?_eq_none (by show 8 ≤ _; omega)]
    decide +kernel
theorem b32_0 : SP b32 32 0 = 0 := by decide +kernel
theorem b32_1 : SP b32 32 1 = 5 := by
  rw [SP_s, b32_0]
  decide +kernel
theorem b32_2 : SP b32 32 2 = 9 := by
  rw [SP_s, b32_1]
  decide +kernel
theorem b32_3 : SP b32 32 3 = 11 := by
  rw [SP_s, b32_2]
  decide +kernel
theorem b32_4 : SP b32 32 4 = 16 := by
  rw [SP_s, b32_3]
  decide +kernel
theorem b32_5 : SP b32 32 5 = 24 := by
  rw [SP_s, b32_4]
  decide +kernel
theorem b32_6 : SP b32 32 6 = 26 := by
  rw [SP_s, b32_5]
  decide +kernel
theorem b32_7 : SP b32 32 7 = 28 := by
  rw [SP_s, b32_6]
  decide +kernel
theorem b32_8 : SP b32 32 8 = 32 := by
  rw [SP_s, b32_7]
  decide +kernel
theorem b32_z : ∀ j : Nat, SP b32 32 (j + 8) = 32
  | 0 => b32_8
  | j + 1 => by
    rw [show j + 1 + 8 = (j + 8) + 1 from rfl, SP_s, b32_z j]
    decide +kernel
theorem b32_T : TK b32 32 = T1 := by
  funext j
  by_cases c : j < 8
  · have cs : j = 0 ∨ j = 1 ∨ j = 2 ∨ j = 3 ∨ j = 4 ∨ j = 5 ∨ j = 6 ∨ j = 7 := by omega
    unfold TK
    rcases cs with rfl | rfl | rfl | rfl | rfl | rfl | rfl | rfl
    · rw [b32_0]; decide +kernel
    · rw [b32_1]; decide +kernel
    · rw [b32_2]; decide +kernel
    · rw [b32_3]; decide +kernel
    · rw [b32_4]; decide +kernel
    · rw [b32_5]; decide +kernel
    · rw [b32_6]; decide +kernel
    · rw [b32_7]; decide +kernel
  · unfold TK T1
    rw [show j = (j - 8) + 8 by omega, b32_z, List.getD_eq_getElem?_getD, List.getElem?_eq_none (by show 8 ≤ _; omega)]
    decide +kernel
theorem b32_V : NV b32 32 = V1 := by
  funext j
  by_cases c : j < 8
  · have cs : j = 0 ∨ j = 1 ∨ j = 2 ∨ j = 3 ∨ j = 4 ∨ j = 5 ∨ j = 6 ∨ j = 7 := by omega
    unfold NV
    rcases cs with rfl | rfl | rfl | rfl | rfl | rfl | rfl | rfl
    · rw [b32_0]; decide +kernel
    · rw [b32_1]; decide +kernel
    · rw [b32_2]; decide +kernel
    · rw [b32_3]; decide +kernel
    · rw [b32_4]; decide +kernel
    · rw [b32_5]; decide +kernel
    · rw [b32_6]; decide +kernel
    · rw [b32_7]; decide +kernel
  · unfold NV V1
    rw [show j = (j - 8) + 8 by omega, b32_z, List.getD_eq_getElem?_getD, List.getElem?_eq_none (by show 8 ≤ _; omega)]
    decide +kernel
theorem pr1 : (prd T1 V1).1 = true := by decide +kernel
theorem pr1_l : (prd T1 V1).2.2.length ≤ 160 := by decide +kernel
theorem b29_r : ∀ k : Fin 29, 0 ≤ b29 (k.val : Int) ∧ b29 (k.val : Int) < 256 := by decide +kernel
theorem b32_r : ∀ k : Fin 32, 0 ≤ b32 (k.val : Int) ∧ b32 (k.val : Int) < 256 := by decide +kernel
theorem sl29 : slen ((0 : Nat) : Int) = 29 := by decide +kernel
section TAIL
variable {G : Gg} {ρ : Rg}
/-- the first text, spelled -/
theorem f9_s (h : AG G ρ) {m : Sg} (h0 : m 14 1 = 0) : ∃ m', f9 G ρ 14 ((0 : Nat) : Int) m = some m' ∧ (m' 14 1 = 29 ∧ (∀ i : Nat, i < 29 → m' 16 i = b29 i) ∧ ∀ x i, ¬ x = 16 → ¬ (x = 14 ∧ i = 1) → m' x i = m x i) := by
  have q := h
  unfold AG at q
  unfold f9
  refine lp_all (f := f9_b2 G ρ 14 ((0 : Nat) : Int)) (fun (k : Nat) st => ∃ m', st = ((k : Int), m') ∧ m' 14 1 = k ∧ (∀ i : Nat, i < k → m' 16 i = b29 i) ∧ ∀ x i, ¬ x = 16 → ¬ (x = 14 ∧ i = 1) → m' x i = m x i) 29 ?_ ?_ (by rw [FU_v]; decide) (0, m) ⟨m, rfl, h0, fun i hi => by omega, fun _ _ _ _ => rfl⟩
  · rintro k st hk ⟨m1, rfl, h1, h2, h3⟩
    have e34 : f34 G ρ 15 (k : Int) (b29 k) m1 = some (put m1 16 k (b29 k)) := by
      unfold f34
      rw [if_neg (by omega)]
      simp only [q, if_true]
      rw [if_pos (by omega), if_pos ⟨by omega, by omega⟩]
    have e10 : f10 G ρ 14 (b29 k) m1 = some (put (put m1 16 k (b29 k)) 14 1 (g_add (put m1 16 k (b29 k) 14 1) 1)) := by
      unfold f10
      simp only [q, if_true]
      rw [h1, if_pos (by omega), bnd e34]
    have e9 : f9_b2 G ρ 14 ((0 : Nat) : Int) ((k : Int), m1) = some (Sum.inl (w32 ((k : Int) + 1), put (put m1 16 k (b29 k)) 14 1 (g_add (put m1 16 k (b29 k) 14 1) 1))) := by
      unfold f9_b2
      dsimp only
      rw [f228_s (k := 0) (by decide), Option.bind_some, sl29, if_pos (by omega), f229_s (k := 0) (i := k) (by decide) (by show k < 29; exact hk), Option.bind_some, if_pos q.1]
      rw [show sbyt ((0 : Nat) : Int) (k : Int) = b29 k from rfl, bnd e10]
    refine ⟨_, e9, put (put m1 16 k (b29 k)) 14 1 (g_add (put m1 16 k (b29 k) 14 1) 1), ?_, ?_, ?_, ?_⟩
    · rw [w32_i (by omega) (by omega)]; rfl
    · rw [put_eq, put_ne (by decide), h1]
      unfold g_add
      rw [w32_i (by omega) (by omega)]; rfl
    · intro i hi
      rw [put_ne (by decide)]
      by_cases c : i = k
      · rw [c, put_eq]
      · rw [put_nj (by omega)]
        exact h2 i (by omega)
    · intro x i c1 c2
      rw [show put (put m1 16 k (b29 k)) 14 1 (g_add (put m1 16 k (b29 k) 14 1) 1) x i = put m1 16 k (b29 k) x i from if_neg c2, put_ne c1]
      exact h3 x i c1 c2
  · rintro st ⟨m1, rfl, h1, h2, h3⟩
    refine ⟨m1, ?_, h1, h2, h3⟩
    unfold f9_b2
    dsimp only
    rw [f228_s (k := 0) (by decide), Option.bind_some, sl29, if_neg (by omega), xr_some]
/-- what the constructor's end leaves -/
def FrXa (m m' : Sg) : Prop := ∀ x i, ¬ x = 16 → ¬ x = 18 → ¬ x = 20 → ¬ x = 22 → ¬ x = 24 → ¬ x = 27 → ¬ x = 29 → ¬ x = 31 → ¬ x = 51 → ¬ (x = 14 ∧ (i = 1 ∨ i = 5 ∨ i = 7 ∨ i = 8)) → ¬ (x = 25 ∧ i = 5) → m' x i = m x i
theorem tl95_s (L : Nat) (h : AG G ρ) {m : Sg} (r1 : ρ 1 11 = 50) (r2 : ρ 1 7 = 14) (r3 : ρ 1 8 = 25) (r4 : ρ 50 0 = 51) (k1 : gkb G 50 6 = true) (k2 : gkb G 51 0 = true) (l1 : gl G 51 = 4) (h0 : m 14 1 = 0) (h5 : m 25 5 = 0) : ∃ m', tl95 (G, ρ, m) = some (G, ρ, m') ∧ FrXa m m' ∧ m' 14 1 = 0 ∧ m' 25 5 = 1 ∧ (∀ i, 0 ≤ i → i < 4 → m' 51 i = 20) ∧ XC m' 0 (prd T1 V1).2.2 (ppt T1 V1 3 0 []).2.2.length := by
  have q := h
  unfold AG at q
  have f1 : ∀ x i, ¬ x = 51 → fil 4 51 m 20 x i = m x i := fun x i c => by rw [fil_f c]
  have e35 : f35 G ρ 50 20 m = some (fil 4 51 m 20) := f35_s (G := G) (ρ := ρ) (a := 50) (b := 51) (v := 20) (m := m) 4 k1 r4 k2 l1 (by decide)
  obtain ⟨m1, e9, a1, a2, a3⟩ := f9_s h (m := fil 4 51 m 20) (by rw [f1 _ _ (by decide)]; exact h0)
  have hT : TP b29 29 m1 := ⟨a1, by decide, by decide, fun i i1 i2 => by
    have e := a2 i.toNat (by omega)
    rw [show ((i.toNat : Nat) : Int) = i by omega] at e
    have b := b29_r ⟨i.toNat, by omega⟩
    simp only at b
    rw [show ((i.toNat : Nat) : Int) = i by omega] at b
    exact ⟨e, b⟩⟩
  obtain ⟨v, m2, e12, a4, a5, -⟩ := f12_s L hT
  rw [b29_T, b29_V] at a5
  obtain ⟨-, c2, c3, c4, c5⟩ := a5 pr1
  have e12' : f12 G ρ 14 m1 = some (v, m2) := by rw [agf_f12 h (AG_C L)]; exact e12
  have t25 : m2 25 5 = 0 := by rw [a4 25 5 (by decide) (by decide) (by decide) (by decide) (by omega), a3 25 5 (by decide) (by omega), f1 _ _ (by decide)]; exact h5
  obtain ⟨m3, e81, d1, d2, d3⟩ := f81_s L (t := 0) t25 (by decide) c2 c3 c5 c4
  have e81' : f81 G ρ 25 14 m2 = some (0, m3) := by rw [agf_f81 h (AG_C L)]; exact e81
  have e11 : f11 G ρ 14 m3 = some (put m3 14 1 0) := by unfold f11; rw [if_pos q.1]
  refine ⟨put m3 14 1 0, ?_, ?_, ?_, ?_, ?_, ?_⟩
  · unfold tl95
    dsimp only
    simp only [r1, r2, r3]
    rw [if_pos k1, bnd e35, if_pos q.1, bnd e9, bnd e12']
    dsimp only
    rw [if_pos (show gkb G 25 12 = true by simp only [q]), bnd e81']
    dsimp only
    rw [bnd e11]
  · intro x i z1 z2 z3 z4 z5 z6 z7 z8 z9 z10 z11
    rw [show put m3 14 1 0 x i = m3 x i from if_neg (by omega), d1 x i (by omega) (by omega) (by omega), a4 x i z2 z3 z4 z5 (by omega), a3 x i z1 (by omega), f1 x i z9]
  · exact put_eq _ _ _ _
  · rw [put_ne (by decide)]; exact d2
  · intro i i1 i2
    rw [put_ne (by decide), d1 51 i (by omega) (by omega) (by omega), a4 51 i (by decide) (by decide) (by decide) (by decide) (by omega), a3 51 i (by decide) (by omega)]
    unfold fil
    exact if_pos ⟨rfl, i1, i2⟩
  · unfold XC at d3 ⊢
    rw [put_f (by decide), put_f (by decide), put_f (by decide)]
    exact d3
end TAIL
