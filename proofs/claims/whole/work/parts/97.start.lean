/-! BOTH OBJECTS BUILT: the start of the law's loop -/
section START
variable {L : Nat}
def G2 (L : Nat) : Gg := [(99, L), (14, 15)]
def GL (L : Nat) : Gg := [(99, L), (14, 15), (13, 4), (6, 1), (0, 10), (6, 1), (0, 50), (6, 1), (0, 50), (10, 4), (6, 1), (0, 20), (6, 1), (0, 20), (5, 9), (6, 1), (0, 160), (6, 1), (0, 161), (6, 1), (0, 161), (6, 1), (0, 161), (6, 1), (0, 160), (12, 6), (6, 1), (0, 960), (6, 1), (0, 6), (6, 1), (0, 6), (6, 1), (0, 160), (9, 4), (6, 1), (0, 8), (6, 1), (0, 8), (6, 1), (0, 8), (6, 1), (0, 8), (8, 3), (6, 1), (0, 160), (6, 1), (0, 4), (6, 1), (0, 4), (6, 1), (0, 4), (6, 1), (0, 6), (7, 4), (6, 1), (0, 10), (6, 1), (0, 10), (7, 4), (6, 1), (0, 10), (6, 1), (0, 10), (3, 7), (13, 4), (6, 1), (0, 10), (6, 1), (0, 50), (6, 1), (0, 50), (7, 4), (6, 1), (0, 10), (6, 1), (0, 10), (7, 4), (6, 1), (0, 10), (6, 1), (0, 10), (11, 10), (6, 1), (0, 120), (6, 1), (0, 120), (6, 1), (0, 12), (6, 1), (0, 12), (6, 1), (0, 12), (6, 1), (0, 12), (6, 1), (0, 72), (6, 1), (0, 6), (4, 8), (6, 1), (0, 100), (6, 1), (0, 100), (6, 1), (0, 100), (6, 1), (0, 100), (6, 1), (0, 100), (7, 4), (6, 1), (0, 10), (6, 1), (0, 10), (7, 4), (6, 1), (0, 10), (6, 1), (0, 10)]
theorem GX_l (L : Nat) : GX (G2 L) = GL L := by
  unfold GX GX_13 GX_12 GX_11 GX_10 GX_9 GX_8 GX_7 GX_6 GX_5 GX_4 GX_3 GX_2 GX_1 G2 GL
  simp only [List.append_assoc, List.cons_append, List.nil_append]
theorem GX_e (L : Nat) : GM (GL L ++ [(15, 53)]) = GC L := by
  unfold GM GL GC
  simp only [List.append_assoc, List.cons_append, List.nil_append]
set_option maxRecDepth 100000 in
theorem RX_e : RM (zapR (RX (zapR (fun _ _ => 0) 1)) 120) = RC := rfl
set_option maxRecDepth 100000 in
theorem AG_X (L : Nat) : AG (GL L) (RX (zapR (fun _ _ => 0) 1)) := by
  unfold AG
  refine ⟨rfl, rfl, rfl, rfl, rfl, rfl, rfl, rfl, rfl, rfl, rfl, rfl, rfl, rfl, rfl, rfl, rfl, rfl, ?_, ?_, ?_, ?_, ?_, ?_, ?_, ?_, ?_, ?_, ?_, ?_, ?_, ?_, ?_, ?_, rfl, rfl, rfl, rfl, rfl, rfl, rfl, rfl⟩
  all_goals decide +kernel
/-- the cells that the class's constructor writes -/
def wX (x : Nat) : Prop := x = 1 ∨ x = 2 ∨ x = 9 ∨ x = 14 ∨ x = 25 ∨ x = 36 ∨ x = 47 ∨ x = 54 ∨ x = 59 ∨ x = 64 ∨ x = 65 ∨ x = 72 ∨ x = 77 ∨ x = 82 ∨ x = 99 ∨ x = 110 ∨ x = 115
/-- the cells that are written behind it -/
def wT (x : Nat) (i : Int) : Prop := x = 16 ∨ x = 18 ∨ x = 20 ∨ x = 22 ∨ x = 24 ∨ x = 27 ∨ x = 29 ∨ x = 31 ∨ x = 51 ∨ (x = 14 ∧ (i = 1 ∨ i = 5 ∨ i = 7 ∨ i = 8)) ∨ (x = 25 ∧ i = 5) ∨ x = 135 ∨ x = 136 ∨ x = 138 ∨ x = 140 ∨ (x = 120 ∧ (i = 1 ∨ i = 26)) ∨ (x = 123 ∧ i = 12)
theorem MXa_f {n : Int} {m : Sg} {x : Nat} (h : ¬ wX x) : MXa n m x = m x := by
  unfold wX at h
  unfold MXa MXa_13 MXa_12 MXa_11 MXa_10 MXa_9 MXa_8 MXa_7 MXa_6 MXa_5 MXa_4 MXa_3 MXa_2 MXa_1
  repeat (first | rw [put_f (by omega)] | rw [fil_f (by omega)])
theorem MXa_v (n : Int) (m : Sg) : MXa n m 54 0 = n ∧ MXa n m 59 0 = n ∧ MXa n m 72 0 = n ∧ MXa n m 77 0 = n ∧ MXa n m 110 0 = n ∧ MXa n m 115 0 = n ∧ MXa n m 82 0 = n ∧ MXa n m 54 3 = 1 ∧ MXa n m 82 9 = 0 ∧ MXa n m 64 3 = 0 ∧ MXa n m 14 1 = 0 ∧ MXa n m 25 5 = 0 ∧ MXa n m 1 13 = 0 ∧ MXa n m 1 14 = 0 := by
  unfold MXa MXa_13 MXa_12 MXa_11 MXa_10 MXa_9 MXa_8 MXa_7 MXa_6 MXa_5 MXa_4 MXa_3 MXa_2 MXa_1
  simp [put, fil]
theorem MXa_36 (n : Int) (m : Sg) {i : Int} (h : 0 ≤ i ∧ i < 8) : MXa n m 36 i = -1 := by
  unfold MXa MXa_13 MXa_12 MXa_11 MXa_10 MXa_9 MXa_8 MXa_7 MXa_6
  repeat (first | rw [put_ne (by decide)] | rw [fil_f (by decide)])
  exact if_pos ⟨rfl, h.1, h.2⟩
theorem MXa_47 (n : Int) (m : Sg) {i : Int} (h : 0 ≤ i ∧ i < 4) : MXa n m 47 i = -1 := by
  unfold MXa MXa_13 MXa_12 MXa_11 MXa_10 MXa_9 MXa_8 MXa_7
  repeat rw [put_ne (by decide)]
  exact if_pos ⟨rfl, h.1, h.2⟩
theorem f224_s {q : Int} (h : -2147483648 ≤ q ∧ q < 2147483648) (G : Gg) (r : Rg) (m : Sg) : f224 G r q 7 m = some (q % 7) := by
  have hs : g_xor q 7 < 0 ↔ q < 0 := by
    have e1 : g_xor q 7 = ((Int32.ofInt q).toBitVec ^^^ 7#32).toInt := rfl
    have e2 : (Int32.ofInt q).toBitVec.toInt = q := o32i h
    have m1 := BitVec.msb_eq_toInt (x := (Int32.ofInt q).toBitVec ^^^ 7#32)
    rw [BitVec.msb_xor, show (7#32).msb = false from rfl, Bool.xor_false, BitVec.msb_eq_toInt, e2, ← e1] at m1
    exact (decide_eq_decide.mp m1).symm
  unfold f224
  rw [if_pos (by decide)]
  by_cases c : 0 ≤ q
  · rw [if_neg (by rw [hs]; omega), g_rem_p c]
  · obtain ⟨a1, a2, a3, a4⟩ := rem_neg (x := q) (n := 7) (by decide) (by omega)
    have e : g_rem q 7 = q.tmod 7 := rfl
    rw [if_pos (by rw [hs]; omega), e]
    by_cases c0 : q.tmod 7 = 0
    · rw [if_pos c0, a2 (by omega)]
    · by_cases c2 : q.tmod 7 < 0
      · rw [if_neg c0, a1 c2]
        unfold g_add
        rw [w32_i (by omega) (by omega)]
      · have : q.tmod 7 = -((-q) % 7) := by
          rw [← Int.tmod_eq_emod_of_nonneg (by omega : 0 ≤ -q), Int.neg_tmod, Int.neg_neg]
        omega
/-- the start -/
theorem start_s (m0 : Sg) (hz : ∀ a, 1 ≤ a → m0 a = fun _ => 0) (h32 : ∀ i, -2147483648 ≤ m0 0 i ∧ m0 0 i < 2147483648) : ∃ n m, f236 ([(99, L)], fun _ _ => 0, m0) = lp (f236_b16 1 120) FU (1, GC L, RC, m) ∧ Rel n m ∧ m 0 = m0 0 := by
  obtain ⟨W, hW, w1, w2⟩ : ∃ W, (if (0 : Int) < L then m0 0 0 else 0) = W ∧ -2147483648 ≤ W ∧ W < 2147483648 := by
    refine ⟨_, rfl, ?_⟩
    split
    · exact h32 0
    · omega
  have f235e : ∀ (G : Gg) (r : Rg) (m : Sg), gl G 0 = L → m 0 = m0 0 → f235 G r 0 m = some W := by
    intro G r m e1 e2
    unfold f235
    rw [e1, e2, ← hW]
    by_cases c : (0 : Int) < L
    · rw [if_pos c, if_pos ⟨by omega, c⟩, if_pos c]
    · rw [if_neg c, if_neg c]
  have h7 : 0 ≤ W % 7 ∧ W % 7 < 7 := by omega
  obtain ⟨n, hn⟩ : ∃ n, n = 4 + W % 7 := ⟨_, rfl⟩
  have hz2 : Fz 2 m0 := fun a ha => hz a (by omega)
  have z1 : zap m0 1 = m0 := zap_z (N := 1) 1 hz (by decide)
  obtain ⟨c1, c2, c3⟩ := f95_c (G := G2 L) (r := zapR (fun _ _ => 0) 1) (m := m0) (q := W) (k := W % 7) (n := n) rfl rfl hz2 (f224_s ⟨w1, w2⟩) (by unfold g_add; rw [w32_i (by omega) (by omega), hn])
  rw [GX_l] at c1 c3
  obtain ⟨v1, v2, v3, v4, v5, v6, v7, v8, v9, v10, v11, v12, v13, v14⟩ := MXa_v n m0
  have k4 := AG_X L
  obtain ⟨m1, d1, d2, d3, d4, d5, d6⟩ := tl95_s (G := GL L) (ρ := RX (zapR (fun _ _ => 0) 1)) L k4 (m := MXa n m0) (by decide +kernel) (by decide +kernel) (by decide +kernel) (by decide +kernel) rfl rfl rfl v11 v12
  have hz3 : Fz 120 m1 := fun a ha => funext fun i => by
    rw [d2 a i (by omega) (by omega) (by omega) (by omega) (by omega) (by omega) (by omega) (by omega) (by omega) (by omega) (by omega), c2 a ha]
  have z2 : zap m1 120 = m1 := zap_z (N := 120) 120 hz3 (by decide)
  obtain ⟨m2, bE, b1, b2, b3, b4, b5, b6, b7, b9⟩ := f144_111_s L (m := m1) h7
  have e0 : MXa n m0 0 = m0 0 := MXa_f (by unfold wX; decide)
  have e01 : m1 0 = m0 0 := funext fun i => by rw [d2 0 i (by decide) (by decide) (by decide) (by decide) (by decide) (by decide) (by decide) (by decide) (by decide) (by omega) (by omega), e0]
  have b0 : m2 0 = m0 0 := funext fun i => by rw [b9 0 i (by decide) (by decide) (by decide) (by decide) (by omega) (by omega), e01]
  refine ⟨n, m2, ?_, ?_, b0⟩
  · have eL : ∀ X, gl (G2 L ++ X) 0 = L := fun X => rfl
    have len : (GL L ++ [(15, 53)]).length = 121 := by rw [List.length_append, c3]; rfl
    have m3 := f144_c (G := GL L ++ [(15, 53)]) (r := zapR (RX (zapR (fun _ _ => 0) 1)) 120) (m := m1) (q := W) len (gkb_e c3 rfl) hz3
    rw [GX_e, RX_e, bE] at m3
    unfold f236
    dsimp only
    rw [show ([(99, L)] : Gg) ++ [(14, 15)] = G2 L from rfl, show List.length ([(99, L)] : Gg) = 1 from rfl, z1, bnd (f235e (G2 L) _ m0 rfl rfl), if_pos (show ¬ (1 : Nat) = 0 by decide), c1, bnd d1]
    dsimp only
    rw [c3, z2, bnd (f235e (GL L ++ [(15, 53)]) _ m1 rfl e01), if_pos (show ¬ (120 : Nat) = 0 by decide), bnd m3]
  · have hU : ∀ x, ¬ wX x → 1 ≤ x → ∀ i, MXa n m0 x i = 0 := fun x c1 c2 i => by rw [MXa_f c1, hz x c2]
    have fr : ∀ x i, ¬ wT x i → m2 x i = MXa n m0 x i := fun x i c => by
      unfold wT at c
      rw [b9 x i (by omega) (by omega) (by omega) (by omega) (by omega) (by omega), d2 x i (by omega) (by omega) (by omega) (by omega) (by omega) (by omega) (by omega) (by omega) (by omega) (by omega) (by omega)]
    have zr : ∀ x i, ¬ wT x i → ¬ wX x → 1 ≤ x → m2 x i = 0 := fun x i c1 c2 c3 => by rw [fr x i c1, hU x c2 c3]
    have f1 : ∀ x i, ¬ x = 135 → ¬ x = 136 → ¬ x = 138 → ¬ x = 140 → ¬ x = 120 → ¬ x = 123 → m2 x i = m1 x i := fun x i c1 c2 c3 c4 c5 c6 => b9 x i c1 c2 c3 c4 (fun q => c5 q.1) (fun q => c6 q.1)
    have e82 : m2 82 9 = 0 := by rw [fr 82 9 (by unfold wT; decide), v9]
    have e54 : m2 54 3 = 1 := by rw [fr 54 3 (by unfold wT; decide), v8]
    have e14 : m2 14 1 = 0 := by rw [f1 14 1 (by decide) (by decide) (by decide) (by decide) (by decide) (by decide), d3]
    have e25 : m2 25 5 = 1 := by rw [f1 25 5 (by decide) (by decide) (by decide) (by decide) (by decide) (by decide), d4]
    have e114 : m2 1 14 = 0 := by rw [fr 1 14 (by unfold wT; decide), v14]
    have e113 : m2 1 13 = 0 := by rw [fr 1 13 (by unfold wT; decide), v13]
    have z56 : ∀ i, m2 56 i = 0 := fun i => zr 56 i (by unfold wT; omega) (by unfold wX; decide) (by decide)
    have z58 : ∀ i, m2 58 i = 0 := fun i => zr 58 i (by unfold wT; omega) (by unfold wX; decide) (by decide)
    have z90 : ∀ i, m2 90 i = 0 := fun i => zr 90 i (by unfold wT; omega) (by unfold wX; decide) (by decide)
    have z121 : ∀ i, m2 121 i = 0 := fun i => zr 121 i (by unfold wT; omega) (by unfold wX; decide) (by decide)
    have z122 : ∀ i, m2 122 i = 0 := fun i => zr 122 i (by unfold wT; omega) (by unfold wX; decide) (by decide)
    have z141 : ∀ i, m2 141 i = 0 := fun i => zr 141 i (by unfold wT; omega) (by unfold wX; decide) (by decide)
    have z15 : m2 120 15 = 0 := zr 120 15 (by unfold wT; decide) (by unfold wX; decide) (by decide)
    have z27 : m2 120 27 = 0 := zr 120 27 (by unfold wT; decide) (by unfold wX; decide) (by decide)
    have z29 : m2 120 29 = 0 := zr 120 29 (by unfold wT; decide) (by unfold wX; decide) (by decide)
    have z45 : m2 120 45 = 0 := zr 120 45 (by unfold wT; decide) (by unfold wX; decide) (by decide)
    have n4 : 4 ≤ n ∧ n ≤ 10 := by omega
    have tb : tbt m2 0 = b32 := funext fun i => by
      unfold tbt
      rw [b3]
      by_cases c : 0 ≤ i ∧ i < 32
      · rw [if_pos c, show 160 * (0 : Int) + i = i by omega]
        exact b5 i c.1 c.2
      · rw [if_neg c]
        exact (if_neg c).symm
    refine ⟨⟨?_, ?_, ?_, ?_, ?_, ?_, ?_, ?_, n4⟩, ⟨?_, ?_⟩, ⟨?_, ?_, ?_, ?_, ?_⟩, Or.inl ?_, ⟨?_, ?_, ?_, ?_⟩, ⟨?_, ?_, ?_, ⟨?_, ?_, ?_⟩, ?_⟩, ?_, ⟨?_, ?_⟩, ⟨?_, ?_, ?_⟩, ?_⟩
    · rw [fr 54 0 (by unfold wT; decide), v1]
    · rw [fr 59 0 (by unfold wT; decide), v2]
    · rw [fr 72 0 (by unfold wT; decide), v3]
    · rw [fr 77 0 (by unfold wT; decide), v4]
    · rw [fr 110 0 (by unfold wT; decide), v5]
    · rw [fr 115 0 (by unfold wT; decide), v6]
    · rw [fr 82 0 (by unfold wT; decide), v7]
    · rw [b1, hn]
    · intro i i1 i2
      rw [z121, z122, z56, z58]
      decide
    · rw [b4, e54]; decide
    · rw [z15, e82]
    · rw [e82]; decide
    · rw [e82]; decide
    · intro t t1 t2
      rw [e82] at t2
      omega
    · intro t t1 t2
      exact z90 t
    · rw [fr 64 3 (by unfold wT; decide), v10]
    · rw [z29, e14]
    · rw [e14]; decide
    · rw [e14]; decide
    · intro i i1 i2
      rw [e14] at i2
      omega
    · rw [b2, e25]
    · rw [e25]; decide
    · rw [e25]; decide
    · rw [z27, e114]
    · rw [e114]; decide
    · rw [e114, e25]; decide
    · intro t t1 t2
      rw [e25] at t2
      have t0 : t = 0 := by omega
      subst t0
      unfold R_x1 tpr ttl
      rw [tb, b3, b32_T, b32_V]
      refine ⟨by decide, fun i i1 i2 => ?_, pr1, pr1_l, ?_⟩
      · rw [show 160 * (0 : Int) + i = i by omega, b5 i i1 i2]
        have b := b32_r ⟨i.toNat, by omega⟩
        simp only at b
        rw [show ((i.toNat : Nat) : Int) = i by omega] at b
        exact b
      · unfold XC at d6 ⊢
        rw [f1 29 0 (by decide) (by decide) (by decide) (by decide) (by decide) (by decide), f1 31 0 (by decide) (by decide) (by decide) (by decide) (by decide) (by decide)]
        exact ⟨d6.1, d6.2.1, fun i hi => by rw [f1 27 _ (by decide) (by decide) (by decide) (by decide) (by decide) (by decide)]; exact d6.2.2 i hi⟩
    · intro s s1 s2
      rw [b6 s s1 s2, fr 36 s (by unfold wT; omega), MXa_36 n m0 ⟨s1, s2⟩, e82]
      decide
    · intro p p1 p2
      rw [b7 p p1 p2, f1 51 p (by decide) (by decide) (by decide) (by decide) (by decide) (by decide), d5 p p1 p2]
      decide
    · rw [f1 51 0 (by decide) (by decide) (by decide) (by decide) (by decide) (by decide), f1 51 1 (by decide) (by decide) (by decide) (by decide) (by decide) (by decide), f1 51 2 (by decide) (by decide) (by decide) (by decide) (by decide) (by decide), f1 51 3 (by decide) (by decide) (by decide) (by decide) (by decide) (by decide), d5 0 (by decide) (by decide), d5 1 (by decide) (by decide), d5 2 (by decide) (by decide), d5 3 (by decide) (by decide)]
      decide
    · rw [z45, e113]
    · rw [e113]; decide
    · rw [e113]; decide
    · intro s s1 s2
      exact Or.inl ⟨by rw [fr 47 s (by unfold wT; omega), MXa_47 n m0 ⟨s1, s2⟩], z141 s⟩
end START
