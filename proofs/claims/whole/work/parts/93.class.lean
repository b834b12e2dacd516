/-! THE CLASS'S OBJECT BUILT (printed by wip/whole/gen93.py) -/
/-- no words yet from cell N on -/
def Fz (N : Nat) (m : Sg) : Prop := ∀ a, N ≤ a → m a = fun _ => 0
theorem zap_z {N : Nat} {m : Sg} (a : Nat) (h : Fz N m) (ha : N ≤ a) : zap m a = m := by
  funext x i
  unfold zap
  by_cases c : x = a
  · rw [if_pos c, c, h a ha]
  · rw [if_neg c]
theorem nrM_z {N : Nat} {m : Sg} (a : Nat) (h : Fz N m) (ha : N ≤ a) : nrM m a = m := by
  unfold nrM
  rw [zap_z a h ha, zap_z (a + 1) h (by omega)]
theorem Fz_p {N : Nat} {m : Sg} (N' : Nat) {v : Nat} {i z : Int} (h : Fz N m) (h1 : N ≤ N') (h2 : v < N') : Fz N' (put m v i z) := by
  intro a ha
  rw [put_f (by omega)]
  exact h a (by omega)
theorem fil_f {m : Sg} {a b : Nat} {n z : Int} (h : ¬ a = b) : fil n b m z a = m a := funext fun i => by unfold fil; rw [if_neg (fun q => h q.1)]
theorem Fz_f {N : Nat} {m : Sg} (N' : Nat) {b : Nat} {n z : Int} (h : Fz N m) (h1 : N ≤ N') (h2 : b < N') : Fz N' (fil n b m z) := by
  intro a ha
  rw [fil_f (by omega)]
  exact h a (by omega)
theorem Fz_m {N : Nat} {m : Sg} (N' : Nat) (h : Fz N m) (h1 : N ≤ N') : Fz N' m := fun a ha => h a (by omega)
theorem ob {f : Option Mh} {a : Gg} {b : Rg} {c : Sg} (h : f = some (a, b, c)) : ∃ G1 r1 m1, f = some (G1, r1, m1) ∧ G1 = a ∧ r1 = b ∧ m1 = c := ⟨a, b, c, h, rfl, rfl, rfl⟩
/-- the constructor's end: marbles, the first text -/
def tl95 (h : Mh) : Option Mh := if gkb h.1 (h.2.1 1 11) 6 = true then Option.bind (f35 h.1 h.2.1 (h.2.1 1 11) 20 h.2.2) fun q44 => if gkb h.1 (h.2.1 1 7) 5 = true then Option.bind (f9 h.1 h.2.1 (h.2.1 1 7) ((0 : Nat) : Int) q44) fun q46 => Option.bind (f12 h.1 h.2.1 (h.2.1 1 7) q46) fun q47 => if gkb h.1 (h.2.1 1 8) 12 = true then Option.bind (f81 h.1 h.2.1 (h.2.1 1 8) (h.2.1 1 7) q47.2) fun q49 => Option.bind (f11 h.1 h.2.1 (h.2.1 1 7) q49.2) fun q50 => some (h.1, h.2.1, q50) else none else none else none
def GX_1 (G : Gg) : Gg := G ++ [(13, 4)] ++ [(6, 1), (0, 10), (6, 1), (0, 50), (6, 1), (0, 50)]
def GX_2 (G : Gg) : Gg := G ++ [(10, 4)] ++ [(6, 1), (0, 20), (6, 1), (0, 20)]
def GX_3 (G : Gg) : Gg := G ++ [(5, 9)] ++ [(6, 1), (0, 160)] ++ [(6, 1), (0, 161)] ++ [(6, 1), (0, 161)] ++ [(6, 1), (0, 161)] ++ [(6, 1), (0, 160)]
def GX_4 (G : Gg) : Gg := G ++ [(12, 6)] ++ [(6, 1), (0, 960), (6, 1), (0, 6), (6, 1), (0, 6), (6, 1), (0, 160)]
def GX_5 (G : Gg) : Gg := G ++ [(9, 4)] ++ [(6, 1), (0, 8)] ++ [(6, 1), (0, 8)] ++ [(6, 1), (0, 8)] ++ [(6, 1), (0, 8)]
def GX_6 (G : Gg) : Gg := G ++ [(8, 3)] ++ [(6, 1), (0, 160)] ++ [(6, 1), (0, 4)] ++ [(6, 1), (0, 4)]
def GX_7 (G : Gg) : Gg := G ++ [(6, 1), (0, 4)]
def GX_8 (G : Gg) : Gg := G ++ [(6, 1), (0, 6)]
def GX_9 (G : Gg) : Gg := G ++ [(7, 4)] ++ [(6, 1), (0, 10), (6, 1), (0, 10)]
def GX_10 (G : Gg) : Gg := G ++ [(7, 4)] ++ [(6, 1), (0, 10), (6, 1), (0, 10)]
def GX_11 (G : Gg) : Gg := G ++ [(3, 7)] ++ [(13, 4)] ++ [(6, 1), (0, 10), (6, 1), (0, 50), (6, 1), (0, 50)] ++ [(7, 4)] ++ [(6, 1), (0, 10), (6, 1), (0, 10)] ++ [(7, 4)] ++ [(6, 1), (0, 10), (6, 1), (0, 10)]
def GX_12 (G : Gg) : Gg := G ++ [(11, 10)] ++ [(6, 1), (0, 120), (6, 1), (0, 120), (6, 1), (0, 12), (6, 1), (0, 12), (6, 1), (0, 12), (6, 1), (0, 12), (6, 1), (0, 72), (6, 1), (0, 6)]
def GX_13 (G : Gg) : Gg := G ++ [(4, 8)] ++ [(6, 1), (0, 100)] ++ [(6, 1), (0, 100)] ++ [(6, 1), (0, 100)] ++ [(6, 1), (0, 100)] ++ [(6, 1), (0, 100)] ++ [(7, 4)] ++ [(6, 1), (0, 10), (6, 1), (0, 10)] ++ [(7, 4)] ++ [(6, 1), (0, 10), (6, 1), (0, 10)]
def MXa_1 (n : Int) (m : Sg) : Sg := put (m) 2 3 0
def MXa_2 (n : Int) (m : Sg) : Sg := put (put (m) 9 2 0) 9 3 0
def MXa_3 (n : Int) (m : Sg) : Sg := put (put (put (put (m) 14 1 0) 14 5 0) 14 7 0) 14 8 0
def MXa_4 (n : Int) (m : Sg) : Sg := put (put (m) 25 4 0) 25 5 0
def MXa_5 (n : Int) (m : Sg) : Sg := fil 8 36 (m) (-1)
def MXa_6 (n : Int) (m : Sg) : Sg := fil 4 47 (m) (-1)
def MXa_7 (n : Int) (m : Sg) : Sg := m
def MXa_8 (n : Int) (m : Sg) : Sg := m
def MXa_9 (n : Int) (m : Sg) : Sg := put (put (put (put (m) 1 13 0) 1 14 0) 54 3 1) 54 0 n
def MXa_10 (n : Int) (m : Sg) : Sg := put (put (m) 59 3 1) 59 0 n
def MXa_11 (n : Int) (m : Sg) : Sg := put (put (put (put (put (put (put (put (put (m) 65 3 0) 64 3 0) 64 4 (-1)) 64 5 (-1)) 64 6 (-1)) 72 3 1) 72 0 n) 77 3 1) 77 0 n
def MXa_12 (n : Int) (m : Sg) : Sg := put (put (m) 82 9 0) 82 0 n
def MXa_13 (n : Int) (m : Sg) : Sg := put (put (put (put (put (m) 99 7 0) 110 3 1) 110 0 n) 115 3 1) 115 0 n
def RX_1 (r : Rg) : Rg := putR (putR (nrR (putR (nrR (putR (nrR (zapR (r) 2) (3)) (2) 0 (3)) (3 + 2)) (2) 1 (3 + 2)) (3 + 4)) (2) 2 (3 + 4)) 1 1 2
def RX_2 (r : Rg) : Rg := putR (putR (nrR (putR (nrR (zapR (r) 9) (10)) (9) 0 (10)) (10 + 2)) (9) 1 (10 + 2)) 1 3 9
def RX_3 (r : Rg) : Rg := putR (putR (nrR (putR (nrR (putR (nrR (putR (nrR (putR (nrR (zapR (r) 14) (15)) (14) 0 (15)) (15 + 2)) (14) 2 (15 + 2)) (15 + 4)) (14) 3 (15 + 4)) (15 + 6)) (14) 4 (15 + 6)) (15 + 8)) (14) 6 (15 + 8)) 1 7 14
def RX_4 (r : Rg) : Rg := putR (putR (nrR (putR (nrR (putR (nrR (putR (nrR (zapR (r) 25) (26)) (25) 0 (26)) (26 + 2)) (25) 1 (26 + 2)) (26 + 4)) (25) 2 (26 + 4)) (26 + 6)) (25) 3 (26 + 6)) 1 8 25
def RX_5 (r : Rg) : Rg := putR (putR (nrR (putR (nrR (putR (nrR (putR (nrR (zapR (r) 34) (35)) (34) 0 (35)) (35 + 2)) (34) 1 (35 + 2)) (35 + 4)) (34) 2 (35 + 4)) (35 + 6)) (34) 3 (35 + 6)) 1 9 34
def RX_6 (r : Rg) : Rg := putR (putR (nrR (putR (nrR (putR (nrR (zapR (r) 43) (44)) (43) 0 (44)) (44 + 2)) (43) 1 (44 + 2)) (44 + 4)) (43) 2 (44 + 4)) 1 10 43
def RX_7 (r : Rg) : Rg := putR (nrR (r) 50) 1 11 50
def RX_8 (r : Rg) : Rg := putR (nrR (r) 52) 1 12 52
def RX_9 (r : Rg) : Rg := putR (putR (nrR (putR (nrR (zapR (r) 54) (55)) (54) 1 (55)) (55 + 2)) (54) 2 (55 + 2)) 1 0 54
def RX_10 (r : Rg) : Rg := putR (putR (nrR (putR (nrR (zapR (r) 59) (60)) (59) 1 (60)) (60 + 2)) (59) 2 (60 + 2)) 1 5 59
def RX_11 (r : Rg) : Rg := putR (putR (putR (nrR (putR (nrR (zapR (putR (putR (nrR (putR (nrR (zapR (putR (putR (nrR (putR (nrR (putR (nrR (zapR (zapR (r) 64) (65)) (65 + 1)) (65) 0 (65 + 1)) (65 + 1 + 2)) (65) 1 (65 + 1 + 2)) (65 + 1 + 4)) (65) 2 (65 + 1 + 4)) 64 2 (65)) (65 + 7)) (65 + 8)) (65 + 7) 1 (65 + 8)) (65 + 8 + 2)) (65 + 7) 2 (65 + 8 + 2)) 64 0 (65 + 7)) (65 + 12)) (65 + 13)) (65 + 12) 1 (65 + 13)) (65 + 13 + 2)) (65 + 12) 2 (65 + 13 + 2)) 64 1 (65 + 12)) 1 2 64
def RX_12 (r : Rg) : Rg := putR (putR (nrR (putR (nrR (putR (nrR (putR (nrR (putR (nrR (putR (nrR (putR (nrR (putR (nrR (zapR (r) 82) (83)) (82) 1 (83)) (83 + 2)) (82) 2 (83 + 2)) (83 + 4)) (82) 3 (83 + 4)) (83 + 6)) (82) 4 (83 + 6)) (83 + 8)) (82) 5 (83 + 8)) (83 + 10)) (82) 6 (83 + 10)) (83 + 12)) (82) 7 (83 + 12)) (83 + 14)) (82) 8 (83 + 14)) 1 4 82
def RX_13 (r : Rg) : Rg := putR (putR (putR (nrR (putR (nrR (zapR (putR (putR (nrR (putR (nrR (zapR (putR (nrR (putR (nrR (putR (nrR (putR (nrR (putR (nrR (zapR (r) 99) (100)) (99) 2 (100)) (100 + 2)) (99) 3 (100 + 2)) (100 + 4)) (99) 4 (100 + 4)) (100 + 6)) (99) 5 (100 + 6)) (100 + 8)) (99) 6 (100 + 8)) (100 + 10)) (100 + 11)) (100 + 10) 1 (100 + 11)) (100 + 11 + 2)) (100 + 10) 2 (100 + 11 + 2)) 99 0 (100 + 10)) (100 + 15)) (100 + 16)) (100 + 15) 1 (100 + 16)) (100 + 16 + 2)) (100 + 15) 2 (100 + 16 + 2)) 99 1 (100 + 15)) 1 6 99
def GX (G : Gg) : Gg := GX_13 (GX_12 (GX_11 (GX_10 (GX_9 (GX_8 (GX_7 (GX_6 (GX_5 (GX_4 (GX_3 (GX_2 (GX_1 (G)))))))))))))
def RX (r : Rg) : Rg := RX_13 (RX_12 (RX_11 (RX_10 (RX_9 (RX_8 (RX_7 (RX_6 (RX_5 (RX_4 (RX_3 (RX_2 (RX_1 (r)))))))))))))
def MXa (n : Int) (m : Sg) : Sg := MXa_13 n (MXa_12 n (MXa_11 n (MXa_10 n (MXa_9 n (MXa_8 n (MXa_7 n (MXa_6 n (MXa_5 n (MXa_4 n (MXa_3 n (MXa_2 n (MXa_1 n (m)))))))))))))
theorem f95_c {G : Gg} {r : Rg} {m : Sg} {q k n : Int} (hN : G.length = 2) (hg : gkb G 1 14 = true) (hz : Fz 2 m) (hk : ∀ G r m, f224 G r q 7 m = some k) (hn : g_add 4 k = n) : f95 1 q (G, r, m) = tl95 (GX G, RX r, MXa n m) ∧ Fz 120 (MXa n m) ∧ (GX G).length = 120 := by
  have p1 : (G ++ [(13, 4)]).length = 3 := by rw [List.length_append, hN]; rfl
  obtain ⟨G1, r1, m1, e1, hG1, hr1, hm1⟩ := ob (f86_s (G := G ++ [(13, 4)]) (r := zapR (r) 2) (m := zap (m) 2) (v := 2) (N := 3) p1 (by decide) (by decide) (gkb_e hN rfl))
  have l1 : G1.length = 9 := by rw [hG1, List.length_append, p1]; rfl
  have g1 : gkb G1 1 14 = true := by rw [hG1]; exact (gkb_a (gkb_a hg))
  rw [zap_z (2) hz (by decide), nrM_z (3) hz (by decide), nrM_z (3 + 2) hz (by decide), nrM_z (3 + 4) hz (by decide)] at hm1
  have hz1 : Fz 9 m1 := by rw [hm1]; exact Fz_m 9 (Fz_p 3 hz (by decide) (by decide)) (by decide)
  have p2 : (G1 ++ [(10, 4)]).length = 10 := by rw [List.length_append, l1]; rfl
  obtain ⟨G2, r2, m2, e2, hG2, hr2, hm2⟩ := ob (f60_s (G := G1 ++ [(10, 4)]) (r := zapR (putR r1 1 1 2) 9) (m := zap (m1) 9) (v := 9) (N := 10) p2 (by decide) (by decide) (gkb_e l1 rfl))
  have l2 : G2.length = 14 := by rw [hG2, List.length_append, p2]; rfl
  have g2 : gkb G2 1 14 = true := by rw [hG2]; exact (gkb_a (gkb_a g1))
  rw [zap_z (9) hz1 (by decide), nrM_z (10) hz1 (by decide), nrM_z (10 + 2) hz1 (by decide)] at hm2
  have hz2 : Fz 14 m2 := by rw [hm2]; exact Fz_m 14 (Fz_p 10 (Fz_p 10 hz1 (by decide) (by decide)) (by decide) (by decide)) (by decide)
  have p3 : (G2 ++ [(5, 9)]).length = 15 := by rw [List.length_append, l2]; rfl
  obtain ⟨G3, r3, m3, e3, hG3, hr3, hm3⟩ := ob (f8_s (G := G2 ++ [(5, 9)]) (r := zapR (putR r2 1 3 9) 14) (m := zap (m2) 14) (v := 14) (N := 15) p3 (by decide) (by decide) (gkb_e l2 rfl))
  have l3 : G3.length = 25 := by rw [hG3, List.length_append, List.length_append, List.length_append, List.length_append, List.length_append, p3]; rfl
  have g3 : gkb G3 1 14 = true := by rw [hG3]; exact (gkb_a (gkb_a (gkb_a (gkb_a (gkb_a (gkb_a g2))))))
  rw [zap_z (14) hz2 (by decide), nrM_z (15) hz2 (by decide), nrM_z (15 + 2) (Fz_p 15 hz2 (by decide) (by decide)) (by decide), nrM_z (15 + 4) (Fz_p 15 hz2 (by decide) (by decide)) (by decide), nrM_z (15 + 6) (Fz_p 15 hz2 (by decide) (by decide)) (by decide), nrM_z (15 + 8) (Fz_p 15 (Fz_p 15 hz2 (by decide) (by decide)) (by decide) (by decide)) (by decide)] at hm3
  have hz3 : Fz 25 m3 := by rw [hm3]; exact Fz_m 25 (Fz_p 15 (Fz_p 15 (Fz_p 15 (Fz_p 15 hz2 (by decide) (by decide)) (by decide) (by decide)) (by decide) (by decide)) (by decide) (by decide)) (by decide)
  have p4 : (G3 ++ [(12, 6)]).length = 26 := by rw [List.length_append, l3]; rfl
  obtain ⟨G4, r4, m4, e4, hG4, hr4, hm4⟩ := ob (f80_s (G := G3 ++ [(12, 6)]) (r := zapR (putR r3 1 7 14) 25) (m := zap (m3) 25) (v := 25) (N := 26) p4 (by decide) (by decide) (gkb_e l3 rfl))
  have l4 : G4.length = 34 := by rw [hG4, List.length_append, p4]; rfl
  have g4 : gkb G4 1 14 = true := by rw [hG4]; exact (gkb_a (gkb_a g3))
  rw [zap_z (25) hz3 (by decide), nrM_z (26) hz3 (by decide), nrM_z (26 + 2) hz3 (by decide), nrM_z (26 + 4) hz3 (by decide), nrM_z (26 + 6) hz3 (by decide)] at hm4
  have hz4 : Fz 34 m4 := by rw [hm4]; exact Fz_m 34 (Fz_p 26 (Fz_p 26 hz3 (by decide) (by decide)) (by decide) (by decide)) (by decide)
  have p5 : (G4 ++ [(9, 4)]).length = 35 := by rw [List.length_append, l4]; rfl
  obtain ⟨G5, r5, m5, e5, hG5, hr5, hm5⟩ := ob (f55_s (G := G4 ++ [(9, 4)]) (r := zapR (putR r4 1 8 25) 34) (m := zap (m4) 34) (v := 34) (N := 35) p5 (by decide) (by decide) (gkb_e l4 rfl))
  have l5 : G5.length = 43 := by rw [hG5, List.length_append, List.length_append, List.length_append, List.length_append, p5]; rfl
  have g5 : gkb G5 1 14 = true := by rw [hG5]; exact (gkb_a (gkb_a (gkb_a (gkb_a (gkb_a g4)))))
  rw [zap_z (34) hz4 (by decide), nrM_z (35) hz4 (by decide), nrM_z (35 + 2) hz4 (by decide), nrM_z (35 + 4) hz4 (by decide), nrM_z (35 + 6) hz4 (by decide)] at hm5
  have hz5 : Fz 43 m5 := by rw [hm5]; exact Fz_m 43 (Fz_f 37 hz4 (by decide) (by decide)) (by decide)
  have p6 : (G5 ++ [(8, 3)]).length = 44 := by rw [List.length_append, l5]; rfl
  obtain ⟨G6, r6, m6, e6, hG6, hr6, hm6⟩ := ob (f47_s (G := G5 ++ [(8, 3)]) (r := zapR (putR r5 1 9 34) 43) (m := zap (m5) 43) (v := 43) (N := 44) p6 (by decide) (by decide) (gkb_e l5 rfl))
  have l6 : G6.length = 50 := by rw [hG6, List.length_append, List.length_append, List.length_append, p6]; rfl
  have g6 : gkb G6 1 14 = true := by rw [hG6]; exact (gkb_a (gkb_a (gkb_a (gkb_a g5))))
  rw [zap_z (43) hz5 (by decide), nrM_z (44) hz5 (by decide), nrM_z (44 + 2) hz5 (by decide), nrM_z (44 + 4) hz5 (by decide)] at hm6
  have hz6 : Fz 50 m6 := by rw [hm6]; exact Fz_m 50 (Fz_f 48 hz5 (by decide) (by decide)) (by decide)
  obtain ⟨G7, r7, m7, e7, hG7, hr7, hm7⟩ := ob (row_n (G := G6) (r := putR r6 1 10 43) (m := m6) (N := 50) (k := 4) l6 (by decide) (by decide))
  have e7' : f32 50 4 (G6 ++ [(6, 1)], zapR (putR r6 1 10 43) 50, zap (m6) 50) = some (G7, r7, m7) := e7
  have l7 : G7.length = 52 := by rw [hG7, List.length_append, l6]; rfl
  have g7 : gkb G7 1 14 = true := by rw [hG7]; exact gkb_a g6
  rw [nrM_z (50) hz6 (by decide)] at hm7
  have hz7 : Fz 52 m7 := by rw [hm7]; exact Fz_m 52 hz6 (by decide)
  obtain ⟨G8, r8, m8, e8, hG8, hr8, hm8⟩ := ob (row_n (G := G7) (r := putR r7 1 11 50) (m := m7) (N := 52) (k := 6) l7 (by decide) (by decide))
  have e8' : f32 52 6 (G7 ++ [(6, 1)], zapR (putR r7 1 11 50) 52, zap (m7) 52) = some (G8, r8, m8) := e8
  have l8 : G8.length = 54 := by rw [hG8, List.length_append, l7]; rfl
  have g8 : gkb G8 1 14 = true := by rw [hG8]; exact gkb_a g7
  rw [nrM_z (52) hz7 (by decide)] at hm8
  have hz8 : Fz 54 m8 := by rw [hm8]; exact Fz_m 54 hz7 (by decide)
  have hz8b : Fz 54 (put (put m8 1 13 0) 1 14 0) := Fz_p 54 (Fz_p 54 hz8 (by decide) (by decide)) (by decide) (by decide)
  have p9 : (G8 ++ [(7, 4)]).length = 55 := by rw [List.length_append, l8]; rfl
  obtain ⟨G9, r9, m9, e9, hG9, hr9, hm9⟩ := ob (f37_s (G := G8 ++ [(7, 4)]) (r := zapR (putR r8 1 12 52) 54) (m := zap (put (put m8 1 13 0) 1 14 0) 54) (v := 54) (N := 55) (k := n) p9 (by decide) (by decide) (gkb_e l8 rfl))
  have l9 : G9.length = 59 := by rw [hG9, List.length_append, p9]; rfl
  have g9 : gkb G9 1 14 = true := by rw [hG9]; exact (gkb_a (gkb_a g8))
  rw [zap_z (54) hz8b (by decide), nrM_z (55) hz8b (by decide), nrM_z (55 + 2) hz8b (by decide)] at hm9
  have hz9 : Fz 59 m9 := by rw [hm9]; exact Fz_m 59 (Fz_p 55 (Fz_p 55 hz8b (by decide) (by decide)) (by decide) (by decide)) (by decide)
  have p10 : (G9 ++ [(7, 4)]).length = 60 := by rw [List.length_append, l9]; rfl
  obtain ⟨G10, r10, m10, e10, hG10, hr10, hm10⟩ := ob (f37_s (G := G9 ++ [(7, 4)]) (r := zapR (putR r9 1 0 54) 59) (m := zap (m9) 59) (v := 59) (N := 60) (k := n) p10 (by decide) (by decide) (gkb_e l9 rfl))
  have l10 : G10.length = 64 := by rw [hG10, List.length_append, p10]; rfl
  have g10 : gkb G10 1 14 = true := by rw [hG10]; exact (gkb_a (gkb_a g9))
  rw [zap_z (59) hz9 (by decide), nrM_z (60) hz9 (by decide), nrM_z (60 + 2) hz9 (by decide)] at hm10
  have hz10 : Fz 64 m10 := by rw [hm10]; exact Fz_m 64 (Fz_p 60 (Fz_p 60 hz9 (by decide) (by decide)) (by decide) (by decide)) (by decide)
  have p11 : (G10 ++ [(3, 7)]).length = 65 := by rw [List.length_append, l10]; rfl
  obtain ⟨G11, r11, m11, e11, hG11, hr11, hm11⟩ := ob (f0_s (G := G10 ++ [(3, 7)]) (r := zapR (putR r10 1 5 59) 64) (m := zap (m10) 64) (v := 64) (N := 65) (z := n) p11 (by decide) (by decide) (gkb_e l10 rfl))
  have l11 : G11.length = 82 := by rw [hG11, List.length_append, List.length_append, List.length_append, List.length_append, List.length_append, List.length_append, p11]; rfl
  have g11 : gkb G11 1 14 = true := by rw [hG11]; exact (gkb_a (gkb_a (gkb_a (gkb_a (gkb_a (gkb_a (gkb_a g10)))))))
  rw [zap_z (64) hz10 (by decide), zap_z (65) hz10 (by decide), nrM_z (65 + 1) hz10 (by decide), nrM_z (65 + 1 + 2) hz10 (by decide), nrM_z (65 + 1 + 4) hz10 (by decide), zap_z (65 + 7) (Fz_p 66 (Fz_p 66 (Fz_p 66 (Fz_p 66 (Fz_p 66 hz10 (by decide) (by decide)) (by decide) (by decide)) (by decide) (by decide)) (by decide) (by decide)) (by decide) (by decide)) (by decide), nrM_z (65 + 8) (Fz_p 66 (Fz_p 66 (Fz_p 66 (Fz_p 66 (Fz_p 66 hz10 (by decide) (by decide)) (by decide) (by decide)) (by decide) (by decide)) (by decide) (by decide)) (by decide) (by decide)) (by decide), nrM_z (65 + 8 + 2) (Fz_p 66 (Fz_p 66 (Fz_p 66 (Fz_p 66 (Fz_p 66 hz10 (by decide) (by decide)) (by decide) (by decide)) (by decide) (by decide)) (by decide) (by decide)) (by decide) (by decide)) (by decide), zap_z (65 + 12) (Fz_p 73 (Fz_p 73 (Fz_p 66 (Fz_p 66 (Fz_p 66 (Fz_p 66 (Fz_p 66 hz10 (by decide) (by decide)) (by decide) (by decide)) (by decide) (by decide)) (by decide) (by decide)) (by decide) (by decide)) (by decide) (by decide)) (by decide) (by decide)) (by decide), nrM_z (65 + 13) (Fz_p 73 (Fz_p 73 (Fz_p 66 (Fz_p 66 (Fz_p 66 (Fz_p 66 (Fz_p 66 hz10 (by decide) (by decide)) (by decide) (by decide)) (by decide) (by decide)) (by decide) (by decide)) (by decide) (by decide)) (by decide) (by decide)) (by decide) (by decide)) (by decide), nrM_z (65 + 13 + 2) (Fz_p 73 (Fz_p 73 (Fz_p 66 (Fz_p 66 (Fz_p 66 (Fz_p 66 (Fz_p 66 hz10 (by decide) (by decide)) (by decide) (by decide)) (by decide) (by decide)) (by decide) (by decide)) (by decide) (by decide)) (by decide) (by decide)) (by decide) (by decide)) (by decide)] at hm11
  have hz11 : Fz 82 m11 := by rw [hm11]; exact Fz_m 82 (Fz_p 78 (Fz_p 78 (Fz_p 73 (Fz_p 73 (Fz_p 66 (Fz_p 66 (Fz_p 66 (Fz_p 66 (Fz_p 66 hz10 (by decide) (by decide)) (by decide) (by decide)) (by decide) (by decide)) (by decide) (by decide)) (by decide) (by decide)) (by decide) (by decide)) (by decide) (by decide)) (by decide) (by decide)) (by decide) (by decide)) (by decide)
  have p12 : (G11 ++ [(11, 10)]).length = 83 := by rw [List.length_append, l11]; rfl
  obtain ⟨G12, r12, m12, e12, hG12, hr12, hm12⟩ := ob (f64_s (G := G11 ++ [(11, 10)]) (r := zapR (putR r11 1 2 64) 82) (m := zap (m11) 82) (v := 82) (N := 83) (z := n) p12 (by decide) (by decide) (gkb_e l11 rfl))
  have l12 : G12.length = 99 := by rw [hG12, List.length_append, p12]; rfl
  have g12 : gkb G12 1 14 = true := by rw [hG12]; exact (gkb_a (gkb_a g11))
  rw [zap_z (82) hz11 (by decide), nrM_z (83) hz11 (by decide), nrM_z (83 + 2) hz11 (by decide), nrM_z (83 + 4) hz11 (by decide), nrM_z (83 + 6) hz11 (by decide), nrM_z (83 + 8) hz11 (by decide), nrM_z (83 + 10) hz11 (by decide), nrM_z (83 + 12) hz11 (by decide), nrM_z (83 + 14) hz11 (by decide)] at hm12
  have hz12 : Fz 99 m12 := by rw [hm12]; exact Fz_m 99 (Fz_p 83 (Fz_p 83 hz11 (by decide) (by decide)) (by decide) (by decide)) (by decide)
  have p13 : (G12 ++ [(4, 8)]).length = 100 := by rw [List.length_append, l12]; rfl
  obtain ⟨G13, r13, m13, e13, hG13, hr13, hm13⟩ := ob (f3_s (G := G12 ++ [(4, 8)]) (r := zapR (putR r12 1 4 82) 99) (m := zap (m12) 99) (v := 99) (N := 100) (z := n) p13 (by decide) (by decide) (gkb_e l12 rfl))
  have l13 : G13.length = 120 := by rw [hG13, List.length_append, List.length_append, List.length_append, List.length_append, List.length_append, List.length_append, List.length_append, List.length_append, List.length_append, p13]; rfl
  have g13 : gkb G13 1 14 = true := by rw [hG13]; exact (gkb_a (gkb_a (gkb_a (gkb_a (gkb_a (gkb_a (gkb_a (gkb_a (gkb_a (gkb_a g12))))))))))
  rw [zap_z (99) hz12 (by decide), nrM_z (100) hz12 (by decide), nrM_z (100 + 2) hz12 (by decide), nrM_z (100 + 4) hz12 (by decide), nrM_z (100 + 6) hz12 (by decide), nrM_z (100 + 8) hz12 (by decide), zap_z (100 + 10) (Fz_p 100 hz12 (by decide) (by decide)) (by decide), nrM_z (100 + 11) (Fz_p 100 hz12 (by decide) (by decide)) (by decide), nrM_z (100 + 11 + 2) (Fz_p 100 hz12 (by decide) (by decide)) (by decide), zap_z (100 + 15) (Fz_p 111 (Fz_p 111 (Fz_p 100 hz12 (by decide) (by decide)) (by decide) (by decide)) (by decide) (by decide)) (by decide), nrM_z (100 + 16) (Fz_p 111 (Fz_p 111 (Fz_p 100 hz12 (by decide) (by decide)) (by decide) (by decide)) (by decide) (by decide)) (by decide), nrM_z (100 + 16 + 2) (Fz_p 111 (Fz_p 111 (Fz_p 100 hz12 (by decide) (by decide)) (by decide) (by decide)) (by decide) (by decide)) (by decide)] at hm13
  have hz13 : Fz 120 m13 := by rw [hm13]; exact Fz_m 120 (Fz_p 116 (Fz_p 116 (Fz_p 111 (Fz_p 111 (Fz_p 100 hz12 (by decide) (by decide)) (by decide) (by decide)) (by decide) (by decide)) (by decide) (by decide)) (by decide) (by decide)) (by decide)
  have eG : G13 = GX G := by rw [hG13, hG12, hG11, hG10, hG9, hG8, hG7, hG6, hG5, hG4, hG3, hG2, hG1]; rfl
  have eR : putR r13 1 6 99 = RX r := by rw [hr13, hr12, hr11, hr10, hr9, hr8, hr7, hr6, hr5, hr4, hr3, hr2, hr1]; rfl
  have eM : m13 = MXa n m := by rw [hm13, hm12, hm11, hm10, hm9, hm8, hm7, hm6, hm5, hm4, hm3, hm2, hm1]; rfl
  rw [← eM, ← eR, ← eG]
  refine ⟨?_, hz13, l13⟩
  unfold f95
  dsimp only
  rw [if_pos (show ¬ (1 : Nat) = 0 by decide), hN, if_pos (show ¬ (2 : Nat) = 0 by decide), bnd e1]
  try dsimp only
  rw [if_pos g1, l1, if_pos (show ¬ (9 : Nat) = 0 by decide), bnd e2]
  try dsimp only
  rw [if_pos g2, l2, if_pos (show ¬ (14 : Nat) = 0 by decide), bnd e3]
  try dsimp only
  rw [if_pos g3, l3, if_pos (show ¬ (25 : Nat) = 0 by decide), bnd e4]
  try dsimp only
  rw [if_pos g4, l4, if_pos (show ¬ (34 : Nat) = 0 by decide), bnd e5]
  try dsimp only
  rw [if_pos g5, l5, if_pos (show ¬ (43 : Nat) = 0 by decide), bnd e6]
  try dsimp only
  rw [if_pos g6, l6, if_pos (show ¬ (50 : Nat) = 0 by decide), bnd e7']
  try dsimp only
  rw [if_pos g7, l7, if_pos (show ¬ (52 : Nat) = 0 by decide), bnd e8']
  try dsimp only
  rw [if_pos g8]
  unfold f95_49
  try dsimp only
  rw [if_pos g8, bnd (hk _ _ _)]
  try dsimp only
  rw [hn]
  unfold f95_57
  try dsimp only
  rw [l8, if_pos (show ¬ (54 : Nat) = 0 by decide), bnd e9]
  try dsimp only
  rw [if_pos g9, l9, if_pos (show ¬ (59 : Nat) = 0 by decide), bnd e10]
  try dsimp only
  rw [if_pos g10, l10, if_pos (show ¬ (64 : Nat) = 0 by decide), bnd e11]
  try dsimp only
  rw [if_pos g11, l11, if_pos (show ¬ (82 : Nat) = 0 by decide), bnd e12]
  try dsimp only
  rw [if_pos g12, l12, if_pos (show ¬ (99 : Nat) = 0 by decide), bnd e13]
  try dsimp only
  rw [if_pos g13]
  rfl
