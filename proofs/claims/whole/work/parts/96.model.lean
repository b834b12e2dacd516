/-! THE MODEL'S OBJECT BUILT (printed by wip/whole/gen96.py) -/
theorem s144_5 {G : Gg} {r : Rg} {m : Sg} {q : Int} (hN : G.length = 122) (hg : gkb G 120 15 = true) (hz : Fz 120 m) : f144_5 120 q 121 120 (G, r, m) = f144_9 120 q 122 120 (G ++ [(0, 140)], zapR (putR r 120 2 121) 122, m) := by
  unfold f144_5
  dsimp only
  rw [if_pos hg, if_pos (show ¬ (121 : Nat) = 0 by decide), hN, zap_z 122 hz (by decide)]
  rfl
theorem s144_9 {G : Gg} {r : Rg} {m : Sg} {q : Int} (hN : G.length = 123) (hg : gkb G 120 15 = true) (hz : Fz 120 m) : f144_9 120 q 122 120 (G, r, m) = f144_13 120 q 123 120 (G ++ [(0, 14)], zapR (putR r 120 3 122) 123, m) := by
  unfold f144_9
  dsimp only
  rw [if_pos hg, if_pos (show ¬ (122 : Nat) = 0 by decide), hN, zap_z 123 hz (by decide)]
  rfl
theorem s144_13 {G : Gg} {r : Rg} {m : Sg} {q : Int} (hN : G.length = 124) (hg : gkb G 120 15 = true) (hz : Fz 120 m) : f144_13 120 q 123 120 (G, r, m) = f144_17 120 q 124 120 (G ++ [(0, 10)], zapR (putR r 120 4 123) 124, m) := by
  unfold f144_13
  dsimp only
  rw [if_pos hg, if_pos (show ¬ (123 : Nat) = 0 by decide), hN, zap_z 124 hz (by decide)]
  rfl
theorem s144_17 {G : Gg} {r : Rg} {m : Sg} {q : Int} (hN : G.length = 125) (hg : gkb G 120 15 = true) (hz : Fz 120 m) : f144_17 120 q 124 120 (G, r, m) = f144_21 120 q 125 120 (G ++ [(0, 10)], zapR (putR r 120 6 124) 125, m) := by
  unfold f144_17
  dsimp only
  rw [if_pos hg, if_pos (show ¬ (124 : Nat) = 0 by decide), hN, zap_z 125 hz (by decide)]
  rfl
theorem s144_21 {G : Gg} {r : Rg} {m : Sg} {q : Int} (hN : G.length = 126) (hg : gkb G 120 15 = true) (hz : Fz 120 m) : f144_21 120 q 125 120 (G, r, m) = f144_25 120 q 126 120 (G ++ [(2, 20)], zapR (putR r 120 7 125) 126, m) := by
  unfold f144_21
  dsimp only
  rw [if_pos hg, if_pos (show ¬ (125 : Nat) = 0 by decide), hN, zap_z 126 hz (by decide)]
  rfl
theorem s144_25 {G : Gg} {r : Rg} {m : Sg} {q : Int} (hN : G.length = 127) (hg : gkb G 120 15 = true) (hz : Fz 120 m) : f144_25 120 q 126 120 (G, r, m) = f144_29 120 q 127 120 (G ++ [(2, 20)], zapR (putR r 120 11 126) 127, m) := by
  unfold f144_25
  dsimp only
  rw [if_pos hg, if_pos (show ¬ (126 : Nat) = 0 by decide), hN, zap_z 127 hz (by decide)]
  rfl
theorem s144_29 {G : Gg} {r : Rg} {m : Sg} {q : Int} (hN : G.length = 128) (hg : gkb G 120 15 = true) (hz : Fz 120 m) : f144_29 120 q 127 120 (G, r, m) = f144_33 120 q 128 120 (G ++ [(0, 12)], zapR (putR r 120 12 127) 128, m) := by
  unfold f144_29
  dsimp only
  rw [if_pos hg, if_pos (show ¬ (127 : Nat) = 0 by decide), hN, zap_z 128 hz (by decide)]
  rfl
theorem s144_33 {G : Gg} {r : Rg} {m : Sg} {q : Int} (hN : G.length = 129) (hg : gkb G 120 15 = true) (hz : Fz 120 m) : f144_33 120 q 128 120 (G, r, m) = f144_37 120 q 129 120 (G ++ [(0, 12)], zapR (putR r 120 16 128) 129, m) := by
  unfold f144_33
  dsimp only
  rw [if_pos hg, if_pos (show ¬ (128 : Nat) = 0 by decide), hN, zap_z 129 hz (by decide)]
  rfl
theorem s144_37 {G : Gg} {r : Rg} {m : Sg} {q : Int} (hN : G.length = 130) (hg : gkb G 120 15 = true) (hz : Fz 120 m) : f144_37 120 q 129 120 (G, r, m) = f144_41 120 q 130 120 (G ++ [(0, 12)], zapR (putR r 120 17 129) 130, m) := by
  unfold f144_37
  dsimp only
  rw [if_pos hg, if_pos (show ¬ (129 : Nat) = 0 by decide), hN, zap_z 130 hz (by decide)]
  rfl
theorem s144_41 {G : Gg} {r : Rg} {m : Sg} {q : Int} (hN : G.length = 131) (hg : gkb G 120 15 = true) (hz : Fz 120 m) : f144_41 120 q 130 120 (G, r, m) = f144_45 120 q 131 120 (G ++ [(0, 100)], zapR (putR r 120 18 130) 131, m) := by
  unfold f144_41
  dsimp only
  rw [if_pos hg, if_pos (show ¬ (130 : Nat) = 0 by decide), hN, zap_z 131 hz (by decide)]
  rfl
theorem s144_45 {G : Gg} {r : Rg} {m : Sg} {q : Int} (hN : G.length = 132) (hg : gkb G 120 15 = true) (hz : Fz 120 m) : f144_45 120 q 131 120 (G, r, m) = f144_49 120 q 132 120 (G ++ [(0, 100)], zapR (putR r 120 19 131) 132, m) := by
  unfold f144_45
  dsimp only
  rw [if_pos hg, if_pos (show ¬ (131 : Nat) = 0 by decide), hN, zap_z 132 hz (by decide)]
  rfl
theorem s144_49 {G : Gg} {r : Rg} {m : Sg} {q : Int} (hN : G.length = 133) (hg : gkb G 120 15 = true) (hz : Fz 120 m) : f144_49 120 q 132 120 (G, r, m) = f144_53 120 q 133 120 (G ++ [(0, 100)], zapR (putR r 120 20 132) 133, m) := by
  unfold f144_49
  dsimp only
  rw [if_pos hg, if_pos (show ¬ (132 : Nat) = 0 by decide), hN, zap_z 133 hz (by decide)]
  rfl
theorem s144_53 {G : Gg} {r : Rg} {m : Sg} {q : Int} (hN : G.length = 134) (hg : gkb G 120 15 = true) (hz : Fz 120 m) : f144_53 120 q 133 120 (G, r, m) = f144_57 120 q 134 120 (G ++ [(1, 100)], zapR (putR r 120 21 133) 134, m) := by
  unfold f144_53
  dsimp only
  rw [if_pos hg, if_pos (show ¬ (133 : Nat) = 0 by decide), hN, zap_z 134 hz (by decide)]
  rfl
theorem s144_57 {G : Gg} {r : Rg} {m : Sg} {q : Int} (hN : G.length = 135) (hg : gkb G 120 15 = true) (hz : Fz 120 m) : f144_57 120 q 134 120 (G, r, m) = f144_61 120 q 135 120 (G ++ [(0, 960)], zapR (putR r 120 22 134) 135, m) := by
  unfold f144_57
  dsimp only
  rw [if_pos hg, if_pos (show ¬ (134 : Nat) = 0 by decide), hN, zap_z 135 hz (by decide)]
  rfl
theorem s144_61 {G : Gg} {r : Rg} {m : Sg} {q : Int} (hN : G.length = 136) (hg : gkb G 120 15 = true) (hz : Fz 120 m) : f144_61 120 q 135 120 (G, r, m) = f144_65 120 q 136 120 (G ++ [(0, 6)], zapR (putR r 120 24 135) 136, m) := by
  unfold f144_61
  dsimp only
  rw [if_pos hg, if_pos (show ¬ (135 : Nat) = 0 by decide), hN, zap_z 136 hz (by decide)]
  rfl
theorem s144_65 {G : Gg} {r : Rg} {m : Sg} {q : Int} (hN : G.length = 137) (hg : gkb G 120 15 = true) (hz : Fz 120 m) : f144_65 120 q 136 120 (G, r, m) = f144_69 120 q 137 120 (G ++ [(0, 160)], zapR (putR r 120 25 136) 137, m) := by
  unfold f144_65
  dsimp only
  rw [if_pos hg, if_pos (show ¬ (136 : Nat) = 0 by decide), hN, zap_z 137 hz (by decide)]
  rfl
theorem s144_69 {G : Gg} {r : Rg} {m : Sg} {q : Int} (hN : G.length = 138) (hg : gkb G 120 15 = true) (hz : Fz 120 m) : f144_69 120 q 137 120 (G, r, m) = f144_73 120 q 138 120 (G ++ [(0, 8)], zapR (putR r 120 28 137) 138, m) := by
  unfold f144_69
  dsimp only
  rw [if_pos hg, if_pos (show ¬ (137 : Nat) = 0 by decide), hN, zap_z 138 hz (by decide)]
  rfl
theorem s144_73 {G : Gg} {r : Rg} {m : Sg} {q : Int} (hN : G.length = 139) (hg : gkb G 120 15 = true) (hz : Fz 120 m) : f144_73 120 q 138 120 (G, r, m) = f144_77 120 q 139 120 (G ++ [(0, 8)], zapR (putR r 120 46 138) 139, m) := by
  unfold f144_73
  dsimp only
  rw [if_pos hg, if_pos (show ¬ (138 : Nat) = 0 by decide), hN, zap_z 139 hz (by decide)]
  rfl
theorem s144_77 {G : Gg} {r : Rg} {m : Sg} {q : Int} (hN : G.length = 140) (hg : gkb G 120 15 = true) (hz : Fz 120 m) : f144_77 120 q 139 120 (G, r, m) = f144_81 120 q 140 120 (G ++ [(0, 4)], zapR (putR r 120 47 139) 140, m) := by
  unfold f144_77
  dsimp only
  rw [if_pos hg, if_pos (show ¬ (139 : Nat) = 0 by decide), hN, zap_z 140 hz (by decide)]
  rfl
theorem s144_81 {G : Gg} {r : Rg} {m : Sg} {q : Int} (hN : G.length = 141) (hg : gkb G 120 15 = true) (hz : Fz 120 m) : f144_81 120 q 140 120 (G, r, m) = f144_85 120 q 141 120 (G ++ [(1, 4)], zapR (putR r 120 48 140) 141, m) := by
  unfold f144_81
  dsimp only
  rw [if_pos hg, if_pos (show ¬ (140 : Nat) = 0 by decide), hN, zap_z 141 hz (by decide)]
  rfl
theorem s144_85 {G : Gg} {r : Rg} {m : Sg} {q : Int} (hN : G.length = 142) (hg : gkb G 120 15 = true) (hz : Fz 120 m) : f144_85 120 q 141 120 (G, r, m) = f144_89 120 q 142 120 (G ++ [(0, 4)], zapR (putR r 120 49 141) 142, m) := by
  unfold f144_85
  dsimp only
  rw [if_pos hg, if_pos (show ¬ (141 : Nat) = 0 by decide), hN, zap_z 142 hz (by decide)]
  rfl
theorem s144_89 {G : Gg} {r : Rg} {m : Sg} {q : Int} (hN : G.length = 143) (hg : gkb G 120 15 = true) (hz : Fz 120 m) : f144_89 120 q 142 120 (G, r, m) = f144_93 120 q 143 120 (G ++ [(0, 4)], zapR (putR r 120 50 142) 143, m) := by
  unfold f144_89
  dsimp only
  rw [if_pos hg, if_pos (show ¬ (142 : Nat) = 0 by decide), hN, zap_z 143 hz (by decide)]
  rfl
theorem s144_93 {G : Gg} {r : Rg} {m : Sg} {q : Int} (hN : G.length = 144) (hg : gkb G 120 15 = true) (hz : Fz 120 m) : f144_93 120 q 143 120 (G, r, m) = f144_97 120 q 144 120 (G ++ [(0, 160)], zapR (putR r 120 51 143) 144, m) := by
  unfold f144_93
  dsimp only
  rw [if_pos hg, if_pos (show ¬ (143 : Nat) = 0 by decide), hN, zap_z 144 hz (by decide)]
  rfl
theorem mod7 (q : Int) {z : Type} (g : Int → z) : (if g_rem q 7 < 0 then g (g_add (g_rem q 7) 7) else g (g_rem q 7)) = g (q % 7) := by
  by_cases c : 0 ≤ q
  · rw [g_rem_p c, if_neg (by omega)]
  · obtain ⟨a1, a2, a3, a4⟩ := rem_neg (x := q) (n := 7) (by decide) (by omega)
    have e : g_rem q 7 = q.tmod 7 := rfl
    rw [e]
    by_cases c2 : q.tmod 7 < 0
    · rw [if_pos c2, a1 c2]
      unfold g_add
      rw [w32_i (by omega) (by omega)]
    · rw [if_neg c2, a2 c2]
def GM (G : Gg) : Gg := G ++ [(0, 140)] ++ [(0, 140)] ++ [(0, 14)] ++ [(0, 10)] ++ [(0, 10)] ++ [(2, 20)] ++ [(2, 20)] ++ [(0, 12)] ++ [(0, 12)] ++ [(0, 12)] ++ [(0, 100)] ++ [(0, 100)] ++ [(0, 100)] ++ [(1, 100)] ++ [(0, 960)] ++ [(0, 6)] ++ [(0, 160)] ++ [(0, 8)] ++ [(0, 8)] ++ [(0, 4)] ++ [(1, 4)] ++ [(0, 4)] ++ [(0, 4)] ++ [(0, 160)]
def RM_0 (r : Rg) : Rg := putR (zapR r 121) 120 2 121
def RM_1 (r : Rg) : Rg := putR (zapR r 122) 120 3 122
def RM_2 (r : Rg) : Rg := putR (zapR r 123) 120 4 123
def RM_3 (r : Rg) : Rg := putR (zapR r 124) 120 6 124
def RM_4 (r : Rg) : Rg := putR (zapR r 125) 120 7 125
def RM_5 (r : Rg) : Rg := putR (zapR r 126) 120 11 126
def RM_6 (r : Rg) : Rg := putR (zapR r 127) 120 12 127
def RM_7 (r : Rg) : Rg := putR (zapR r 128) 120 16 128
def RM_8 (r : Rg) : Rg := putR (zapR r 129) 120 17 129
def RM_9 (r : Rg) : Rg := putR (zapR r 130) 120 18 130
def RM_10 (r : Rg) : Rg := putR (zapR r 131) 120 19 131
def RM_11 (r : Rg) : Rg := putR (zapR r 132) 120 20 132
def RM_12 (r : Rg) : Rg := putR (zapR r 133) 120 21 133
def RM_13 (r : Rg) : Rg := putR (zapR r 134) 120 22 134
def RM_14 (r : Rg) : Rg := putR (zapR r 135) 120 24 135
def RM_15 (r : Rg) : Rg := putR (zapR r 136) 120 25 136
def RM_16 (r : Rg) : Rg := putR (zapR r 137) 120 28 137
def RM_17 (r : Rg) : Rg := putR (zapR r 138) 120 46 138
def RM_18 (r : Rg) : Rg := putR (zapR r 139) 120 47 139
def RM_19 (r : Rg) : Rg := putR (zapR r 140) 120 48 140
def RM_20 (r : Rg) : Rg := putR (zapR r 141) 120 49 141
def RM_21 (r : Rg) : Rg := putR (zapR r 142) 120 50 142
def RM_22 (r : Rg) : Rg := putR (zapR r 143) 120 51 143
def RM_23 (r : Rg) : Rg := putR (zapR r 144) 120 52 144
def RM (r : Rg) : Rg := RM_23 (RM_22 (RM_21 (RM_20 (RM_19 (RM_18 (RM_17 (RM_16 (RM_15 (RM_14 (RM_13 (RM_12 (RM_11 (RM_10 (RM_9 (RM_8 (RM_7 (RM_6 (RM_5 (RM_4 (RM_3 (RM_2 (RM_1 (RM_0 (r))))))))))))))))))))))))
theorem f144_c {G : Gg} {r : Rg} {m : Sg} {q : Int} (hN : G.length = 121) (hg : gkb G 120 15 = true) (hz : Fz 120 m) : f144 120 q (G, r, m) = f144_111 120 (q % 7) 4 120 (GM G, RM r, m) := by
  obtain ⟨G0, hG0⟩ : ∃ x, x = G ++ [(0, 140)] := ⟨_, rfl⟩
  have l0 : G0.length = 122 := by rw [hG0, List.length_append, hN]; rfl
  have g0 : gkb G0 120 15 = true := by rw [hG0]; exact gkb_a hg
  obtain ⟨G1, hG1⟩ : ∃ x, x = G0 ++ [(0, 140)] := ⟨_, rfl⟩
  have l1 : G1.length = 123 := by rw [hG1, List.length_append, l0]; rfl
  have g1 : gkb G1 120 15 = true := by rw [hG1]; exact gkb_a g0
  obtain ⟨G2, hG2⟩ : ∃ x, x = G1 ++ [(0, 14)] := ⟨_, rfl⟩
  have l2 : G2.length = 124 := by rw [hG2, List.length_append, l1]; rfl
  have g2 : gkb G2 120 15 = true := by rw [hG2]; exact gkb_a g1
  obtain ⟨G3, hG3⟩ : ∃ x, x = G2 ++ [(0, 10)] := ⟨_, rfl⟩
  have l3 : G3.length = 125 := by rw [hG3, List.length_append, l2]; rfl
  have g3 : gkb G3 120 15 = true := by rw [hG3]; exact gkb_a g2
  obtain ⟨G4, hG4⟩ : ∃ x, x = G3 ++ [(0, 10)] := ⟨_, rfl⟩
  have l4 : G4.length = 126 := by rw [hG4, List.length_append, l3]; rfl
  have g4 : gkb G4 120 15 = true := by rw [hG4]; exact gkb_a g3
  obtain ⟨G5, hG5⟩ : ∃ x, x = G4 ++ [(2, 20)] := ⟨_, rfl⟩
  have l5 : G5.length = 127 := by rw [hG5, List.length_append, l4]; rfl
  have g5 : gkb G5 120 15 = true := by rw [hG5]; exact gkb_a g4
  obtain ⟨G6, hG6⟩ : ∃ x, x = G5 ++ [(2, 20)] := ⟨_, rfl⟩
  have l6 : G6.length = 128 := by rw [hG6, List.length_append, l5]; rfl
  have g6 : gkb G6 120 15 = true := by rw [hG6]; exact gkb_a g5
  obtain ⟨G7, hG7⟩ : ∃ x, x = G6 ++ [(0, 12)] := ⟨_, rfl⟩
  have l7 : G7.length = 129 := by rw [hG7, List.length_append, l6]; rfl
  have g7 : gkb G7 120 15 = true := by rw [hG7]; exact gkb_a g6
  obtain ⟨G8, hG8⟩ : ∃ x, x = G7 ++ [(0, 12)] := ⟨_, rfl⟩
  have l8 : G8.length = 130 := by rw [hG8, List.length_append, l7]; rfl
  have g8 : gkb G8 120 15 = true := by rw [hG8]; exact gkb_a g7
  obtain ⟨G9, hG9⟩ : ∃ x, x = G8 ++ [(0, 12)] := ⟨_, rfl⟩
  have l9 : G9.length = 131 := by rw [hG9, List.length_append, l8]; rfl
  have g9 : gkb G9 120 15 = true := by rw [hG9]; exact gkb_a g8
  obtain ⟨G10, hG10⟩ : ∃ x, x = G9 ++ [(0, 100)] := ⟨_, rfl⟩
  have l10 : G10.length = 132 := by rw [hG10, List.length_append, l9]; rfl
  have g10 : gkb G10 120 15 = true := by rw [hG10]; exact gkb_a g9
  obtain ⟨G11, hG11⟩ : ∃ x, x = G10 ++ [(0, 100)] := ⟨_, rfl⟩
  have l11 : G11.length = 133 := by rw [hG11, List.length_append, l10]; rfl
  have g11 : gkb G11 120 15 = true := by rw [hG11]; exact gkb_a g10
  obtain ⟨G12, hG12⟩ : ∃ x, x = G11 ++ [(0, 100)] := ⟨_, rfl⟩
  have l12 : G12.length = 134 := by rw [hG12, List.length_append, l11]; rfl
  have g12 : gkb G12 120 15 = true := by rw [hG12]; exact gkb_a g11
  obtain ⟨G13, hG13⟩ : ∃ x, x = G12 ++ [(1, 100)] := ⟨_, rfl⟩
  have l13 : G13.length = 135 := by rw [hG13, List.length_append, l12]; rfl
  have g13 : gkb G13 120 15 = true := by rw [hG13]; exact gkb_a g12
  obtain ⟨G14, hG14⟩ : ∃ x, x = G13 ++ [(0, 960)] := ⟨_, rfl⟩
  have l14 : G14.length = 136 := by rw [hG14, List.length_append, l13]; rfl
  have g14 : gkb G14 120 15 = true := by rw [hG14]; exact gkb_a g13
  obtain ⟨G15, hG15⟩ : ∃ x, x = G14 ++ [(0, 6)] := ⟨_, rfl⟩
  have l15 : G15.length = 137 := by rw [hG15, List.length_append, l14]; rfl
  have g15 : gkb G15 120 15 = true := by rw [hG15]; exact gkb_a g14
  obtain ⟨G16, hG16⟩ : ∃ x, x = G15 ++ [(0, 160)] := ⟨_, rfl⟩
  have l16 : G16.length = 138 := by rw [hG16, List.length_append, l15]; rfl
  have g16 : gkb G16 120 15 = true := by rw [hG16]; exact gkb_a g15
  obtain ⟨G17, hG17⟩ : ∃ x, x = G16 ++ [(0, 8)] := ⟨_, rfl⟩
  have l17 : G17.length = 139 := by rw [hG17, List.length_append, l16]; rfl
  have g17 : gkb G17 120 15 = true := by rw [hG17]; exact gkb_a g16
  obtain ⟨G18, hG18⟩ : ∃ x, x = G17 ++ [(0, 8)] := ⟨_, rfl⟩
  have l18 : G18.length = 140 := by rw [hG18, List.length_append, l17]; rfl
  have g18 : gkb G18 120 15 = true := by rw [hG18]; exact gkb_a g17
  obtain ⟨G19, hG19⟩ : ∃ x, x = G18 ++ [(0, 4)] := ⟨_, rfl⟩
  have l19 : G19.length = 141 := by rw [hG19, List.length_append, l18]; rfl
  have g19 : gkb G19 120 15 = true := by rw [hG19]; exact gkb_a g18
  obtain ⟨G20, hG20⟩ : ∃ x, x = G19 ++ [(1, 4)] := ⟨_, rfl⟩
  have l20 : G20.length = 142 := by rw [hG20, List.length_append, l19]; rfl
  have g20 : gkb G20 120 15 = true := by rw [hG20]; exact gkb_a g19
  obtain ⟨G21, hG21⟩ : ∃ x, x = G20 ++ [(0, 4)] := ⟨_, rfl⟩
  have l21 : G21.length = 143 := by rw [hG21, List.length_append, l20]; rfl
  have g21 : gkb G21 120 15 = true := by rw [hG21]; exact gkb_a g20
  obtain ⟨G22, hG22⟩ : ∃ x, x = G21 ++ [(0, 4)] := ⟨_, rfl⟩
  have l22 : G22.length = 144 := by rw [hG22, List.length_append, l21]; rfl
  have g22 : gkb G22 120 15 = true := by rw [hG22]; exact gkb_a g21
  obtain ⟨G23, hG23⟩ : ∃ x, x = G22 ++ [(0, 160)] := ⟨_, rfl⟩
  have l23 : G23.length = 145 := by rw [hG23, List.length_append, l22]; rfl
  have g23 : gkb G23 120 15 = true := by rw [hG23]; exact gkb_a g22
  have eG : G23 = GM G := by rw [hG23, hG22, hG21, hG20, hG19, hG18, hG17, hG16, hG15, hG14, hG13, hG12, hG11, hG10, hG9, hG8, hG7, hG6, hG5, hG4, hG3, hG2, hG1, hG0]; rfl
  unfold f144
  dsimp only
  rw [if_pos (show ¬ (120 : Nat) = 0 by decide), hN, zap_z 121 hz (by decide), show Int.toNat 140 = 140 from rfl, ← hG0]
  rw [s144_5 l0 g0 hz, ← hG1]
  rw [s144_9 l1 g1 hz, ← hG2]
  rw [s144_13 l2 g2 hz, ← hG3]
  rw [s144_17 l3 g3 hz, ← hG4]
  rw [s144_21 l4 g4 hz, ← hG5]
  rw [s144_25 l5 g5 hz, ← hG6]
  rw [s144_29 l6 g6 hz, ← hG7]
  rw [s144_33 l7 g7 hz, ← hG8]
  rw [s144_37 l8 g8 hz, ← hG9]
  rw [s144_41 l9 g9 hz, ← hG10]
  rw [s144_45 l10 g10 hz, ← hG11]
  rw [s144_49 l11 g11 hz, ← hG12]
  rw [s144_53 l12 g12 hz, ← hG13]
  rw [s144_57 l13 g13 hz, ← hG14]
  rw [s144_61 l14 g14 hz, ← hG15]
  rw [s144_65 l15 g15 hz, ← hG16]
  rw [s144_69 l16 g16 hz, ← hG17]
  rw [s144_73 l17 g17 hz, ← hG18]
  rw [s144_77 l18 g18 hz, ← hG19]
  rw [s144_81 l19 g19 hz, ← hG20]
  rw [s144_85 l20 g20 hz, ← hG21]
  rw [s144_89 l21 g21 hz, ← hG22]
  rw [s144_93 l22 g22 hz, ← hG23]
  rw [eG] at g23 ⊢
  unfold f144_97
  dsimp only
  rw [if_pos g23, if_pos (show ¬ (144 : Nat) = 0 by decide)]
  exact mod7 q (fun z => f144_111 120 z 4 120 (GM G, RM r, m))
section MODEL
/-- eight bytes spelled -/
theorem f145_s (L : Nat) {o C : Int} {m : Sg} (ho : 0 ≤ o ∧ o ≤ 24) (hb : ∀ k : Fin 8, w32 (k_and (k_shr C (g_sub 56 (g_mul 8 (k.val : Int)))) 255) = b32 (o + (k.val : Int))) : ∃ m', f145 (GC L) RC 120 o C m = some m' ∧ ((∀ i, o ≤ i → i < o + 8 → m' 135 i = b32 i) ∧ ∀ x i, ¬ (x = 135 ∧ o ≤ i ∧ i < o + 8) → m' x i = m x i) := by
  unfold f145
  refine lp_all (f := f145_b2 (GC L) RC 120 o C) (fun (k : Nat) st => ∃ m', st = ((k : Int), m') ∧ (∀ i, o ≤ i → i < o + k → m' 135 i = b32 i) ∧ ∀ x i, ¬ (x = 135 ∧ o ≤ i ∧ i < o + 8) → m' x i = m x i) 8 ?_ ?_ (by rw [FU_v]; decide) (0, m) ⟨m, rfl, fun i i1 i2 => by omega, fun _ _ _ => rfl⟩
  · rintro k st hk ⟨m1, rfl, h1, h2⟩
    have e : f145_b2 (GC L) RC 120 o C ((k : Int), m1) = some (Sum.inl (((k + 1 : Nat) : Int), put m1 135 (o + k) (b32 (o + k)))) := by
      unfold f145_b2
      dsimp only
      have eo : g_add o (k : Int) = o + k := by unfold g_add; rw [w32_i (by omega) (by omega)]
      have ek : w32 ((k : Int) + 1) = ((k + 1 : Nat) : Int) := by rw [w32_i (by omega) (by omega)]; rfl
      have e24 : RC 120 24 = 135 := by simp only [KR]
      rw [if_pos (by omega), if_pos (show gkb (GC L) 120 15 = true from rfl), e24, if_pos (show gkb (GC L) 135 0 = true from rfl), eo, show gl (GC L) 135 = 960 from rfl, if_pos (by omega), ek, hb ⟨k, hk⟩]
    refine ⟨_, e, _, rfl, ?_, ?_⟩
    · intro i i1 i2
      by_cases c : i = o + k
      · rw [c, put_eq]
      · rw [put_nj c]
        exact h1 i i1 (by omega)
    · intro x i c
      rw [show put m1 135 (o + (k : Int)) (b32 (o + (k : Int))) x i = m1 x i from if_neg (by omega)]
      exact h2 x i c
  · rintro st ⟨m1, rfl, h1, h2⟩
    refine ⟨m1, ?_, fun i i1 i2 => h1 i i1 (by omega), h2⟩
    unfold f145_b2
    dsimp only
    rw [if_neg (by omega), xr_some]
/-- purses -/
theorem b156_s (L : Nat) (m : Sg) : ∃ q, lp (f144_b156 120) FU (0, (GC L, RC, m)) = some q ∧ ∃ m', q = (GC L, RC, m') ∧ (∀ i : Int, 0 ≤ i → i < 4 → m' 140 i = 20) ∧ ∀ x i, ¬ x = 140 → m' x i = m x i := by
  have e48 : RC 120 48 = 140 := by simp only [KR]
  refine lp_all (f := f144_b156 120) (fun (k : Nat) st => ∃ m', st = ((k : Int), (GC L, RC, m')) ∧ (∀ i : Int, 0 ≤ i → i < k → m' 140 i = 20) ∧ ∀ x i, ¬ x = 140 → m' x i = m x i) 4 ?_ ?_ (by rw [FU_v]; decide) (0, (GC L, RC, m)) ⟨m, rfl, fun i i1 i2 => by omega, fun _ _ _ => rfl⟩
  · rintro k st hk ⟨m1, rfl, h1, h2⟩
    have e : f144_b156 120 ((k : Int), (GC L, RC, m1)) = some (Sum.inl (((k + 1 : Nat) : Int), (GC L, RC, put m1 140 k 20))) := by
      unfold f144_b156
      dsimp only
      have ek : w32 ((k : Int) + 1) = ((k + 1 : Nat) : Int) := by rw [w32_i (by omega) (by omega)]; rfl
      rw [if_pos (by omega), if_pos (show gkb (GC L) 120 15 = true from rfl)]
      simp only [e48]
      rw [if_pos (show gkb (GC L) 140 0 = true from rfl), show gl (GC L) 140 = 4 from rfl, if_pos (by omega), ek]
    refine ⟨_, e, _, rfl, ?_, ?_⟩
    · intro i i1 i2
      by_cases c : i = k
      · rw [c, put_eq]
      · rw [put_nj c]
        exact h1 i i1 (by omega)
    · intro x i c
      rw [put_ne c]
      exact h2 x i c
  · rintro st ⟨m1, rfl, h1, h2⟩
    refine ⟨(GC L, RC, m1), ?_, m1, rfl, fun i i1 i2 => h1 i i1 (by omega), h2⟩
    unfold f144_b156
    dsimp only
    rw [if_neg (by omega), xr_some]
/-- streets, then purses -/
theorem b144_s (L : Nat) (m : Sg) : ∃ q, lp (f144_b144 120) FU (0, (GC L, RC, m)) = some q ∧ ∃ m', q = (GC L, RC, m') ∧ (∀ i : Int, 0 ≤ i → i < 8 → m' 138 i = -1) ∧ (∀ i : Int, 0 ≤ i → i < 4 → m' 140 i = 20) ∧ ∀ x i, ¬ x = 138 → ¬ x = 140 → m' x i = m x i := by
  have e46 : RC 120 46 = 138 := by simp only [KR]
  refine lp_all (f := f144_b144 120) (fun (k : Nat) st => ∃ m', st = ((k : Int), (GC L, RC, m')) ∧ (∀ i : Int, 0 ≤ i → i < k → m' 138 i = -1) ∧ ∀ x i, ¬ x = 138 → m' x i = m x i) 8 ?_ ?_ (by rw [FU_v]; decide) (0, (GC L, RC, m)) ⟨m, rfl, fun i i1 i2 => by omega, fun _ _ _ => rfl⟩
  · rintro k st hk ⟨m1, rfl, h1, h2⟩
    have e : f144_b144 120 ((k : Int), (GC L, RC, m1)) = some (Sum.inl (((k + 1 : Nat) : Int), (GC L, RC, put m1 138 k (-1)))) := by
      unfold f144_b144
      dsimp only
      have ek : w32 ((k : Int) + 1) = ((k + 1 : Nat) : Int) := by rw [w32_i (by omega) (by omega)]; rfl
      rw [if_pos (by omega), if_pos (show gkb (GC L) 120 15 = true from rfl)]
      simp only [e46]
      rw [if_pos (show gkb (GC L) 138 0 = true from rfl), show gl (GC L) 138 = 8 from rfl, if_pos (by omega), ek]
    refine ⟨_, e, _, rfl, ?_, ?_⟩
    · intro i i1 i2
      by_cases c : i = k
      · rw [c, put_eq]
      · rw [put_nj c]
        exact h1 i i1 (by omega)
    · intro x i c
      rw [put_ne c]
      exact h2 x i c
  · rintro st ⟨m1, rfl, h1, h2⟩
    obtain ⟨q, e, m2, rfl, p1, p2⟩ := b156_s L m1
    refine ⟨(GC L, RC, m2), ?_, m2, rfl, fun i i1 i2 => by rw [p2 138 i (by decide)]; exact h1 i i1 (by omega), p1, fun x i c1 c2 => by rw [p2 x i c2]; exact h2 x i c1⟩
    unfold f144_b144
    dsimp only
    rw [if_neg (by omega), e, xr_some]
theorem f144_111_s (L : Nat) {k : Int} {m : Sg} (hk : 0 ≤ k ∧ k < 7) : ∃ m', f144_111 120 k 4 120 (GC L, RC, m) = some (GC L, RC, m') ∧ m' 120 1 = 4 + k ∧ m' 120 26 = 1 ∧ m' 136 0 = 32 ∧ m' 123 12 = 1 ∧ (∀ i, 0 ≤ i → i < 32 → m' 135 i = b32 i) ∧ (∀ i : Int, 0 ≤ i → i < 8 → m' 138 i = -1) ∧ (∀ i : Int, 0 ≤ i → i < 4 → m' 140 i = 20) ∧ ∀ x i, ¬ x = 135 → ¬ x = 136 → ¬ x = 138 → ¬ x = 140 → ¬ (x = 120 ∧ (i = 1 ∨ i = 26)) → ¬ (x = 123 ∧ i = 12) → m' x i = m x i := by
  have g : gkb (GC L) 120 15 = true := rfl
  have e25 : RC 120 25 = 136 := by simp only [KR]
  have e4 : RC 120 4 = 123 := by simp only [KR]
  have ek : g_add 4 k = 4 + k := by unfold g_add; rw [w32_i (by omega) (by omega)]
  obtain ⟨m1, x1, y1, z1⟩ := f145_s L (o := 0) (C := 8386102063221141358) (m := put m 120 1 (4 + k)) (by decide) (by decide +kernel)
  obtain ⟨m2, x2, y2, z2⟩ := f145_s L (o := 8) (C := 2322485678474358816) (m := m1) (by decide) (by decide +kernel)
  obtain ⟨m3, x3, y3, z3⟩ := f145_s L (o := 16) (C := 7308889661990204192) (m := m2) (by decide) (by decide +kernel)
  obtain ⟨m4, x4, y4, z4⟩ := f145_s L (o := 24) (C := 4332519055054348320) (m := m3) (by decide) (by decide +kernel)
  obtain ⟨q, x5, m5, rfl, y5, z5, w5⟩ := b144_s L (put (put (put m4 136 0 32) 120 26 1) 123 12 1)
  have e14 : ∀ x i, ¬ x = 135 → ¬ (x = 120 ∧ i = 1) → m4 x i = m x i := fun x i c1 c2 => by
    rw [z4 x i (fun q => c1 q.1), z3 x i (fun q => c1 q.1), z2 x i (fun q => c1 q.1), z1 x i (fun q => c1 q.1)]
    exact if_neg c2
  refine ⟨m5, ?_, ?_, ?_, ?_, ?_, ?_, y5, z5, ?_⟩
  · unfold f144_111
    dsimp only
    rw [if_pos g, if_pos g, ek, bnd x1, bnd x2, bnd x3, bnd x4]
    simp only [e25]
    rw [if_pos (show gkb (GC L) 136 0 = true from rfl), if_pos (show (0 : Int) ≤ 0 ∧ 0 < gl (GC L) 136 from ⟨Int.le_refl _, by show (0 : Int) < 6; decide⟩)]
    unfold f144_136
    dsimp only
    rw [if_pos g, if_pos g, e4]
    unfold f144_141
    dsimp only
    rw [if_pos (show gkb (GC L) 123 0 = true from rfl), show gl (GC L) 123 = 14 from rfl, if_pos (by decide), x5]
  · rw [w5 120 1 (by decide) (by decide), put_ne (by decide), put_nj (by decide), put_ne (by decide), z4 120 1 (by decide), z3 120 1 (by decide), z2 120 1 (by decide), z1 120 1 (by decide), put_eq]
  · rw [w5 120 26 (by decide) (by decide), put_ne (by decide), put_eq]
  · rw [w5 136 0 (by decide) (by decide), put_ne (by decide), put_ne (by decide), put_eq]
  · rw [w5 123 12 (by decide) (by decide), put_eq]
  · intro i i1 i2
    rw [w5 135 i (by decide) (by decide), put_ne (by decide), put_ne (by decide), put_ne (by decide)]
    by_cases c4 : 24 ≤ i
    · exact y4 i c4 (by omega)
    rw [z4 135 i (by omega)]
    by_cases c3 : 16 ≤ i
    · exact y3 i c3 (by omega)
    rw [z3 135 i (by omega)]
    by_cases c2 : 8 ≤ i
    · exact y2 i c2 (by omega)
    rw [z2 135 i (by omega)]
    exact y1 i i1 (by omega)
  · intro x i c1 c2 c3 c4 c5 c6
    rw [w5 x i c3 c4, show put (put (put m4 136 0 32) 120 26 1) 123 12 1 x i = put (put m4 136 0 32) 120 26 1 x i from if_neg c6, show put (put m4 136 0 32) 120 26 1 x i = put m4 136 0 32 x i from if_neg (by omega), put_ne c2]
    exact e14 x i c1 (by omega)
end MODEL
