/-! THE RING, THE STREETS, THE SHEETS -/
theorem gkb_l {G : Gg} {a k : Nat} (h : gkb G a k = true) : a < G.length := by
  by_cases c : a < G.length
  · exact c
  · unfold gkb at h
    rw [List.getElem?_eq_none (by omega)] at h; simp at h
theorem gl_a {G X : Gg} {a : Nat} (h : a < G.length) : gl (G ++ X) a = gl G a := by
  unfold gl
  rw [List.getElem?_append_left h]
theorem gl_r {G : Gg} {N k : Nat} (hN : G.length = N) : gl (G ++ [(6, 1), (0, k)]) (N + 1) = (k : Int) := by
  unfold gl
  rw [List.getElem?_append_right (by omega), hN, show N + 1 - N = 1 from by omega]
  rfl
theorem gkb_r {G : Gg} {N k : Nat} (hN : G.length = N) : gkb (G ++ [(6, 1), (0, k)]) N 6 = true ∧ gkb (G ++ [(6, 1), (0, k)]) (N + 1) 0 = true := by
  unfold gkb
  rw [List.getElem?_append_right (by omega), List.getElem?_append_right (by omega), hN, Nat.sub_self, show N + 1 - N = 1 from by omega]
  exact ⟨rfl, rfl⟩
theorem f0_s {G : Gg} {r : Rg} {m : Sg} {v N : Nat} {z : Int} (hN : G.length = N) (hv : ¬ v = 0) (hN0 : ¬ N = 0) (hg : gkb G v 3 = true) : f0 v z (G, r, m) = some (G ++ [(13, 4)] ++ [(6, 1), (0, 10), (6, 1), (0, 50), (6, 1), (0, 50)] ++ [(7, 4)] ++ [(6, 1), (0, 10), (6, 1), (0, 10)] ++ [(7, 4)] ++ [(6, 1), (0, 10), (6, 1), (0, 10)], putR (putR (nrR (putR (nrR (zapR (putR (putR (nrR (putR (nrR (zapR (putR (putR (nrR (putR (nrR (putR (nrR (zapR (r) (N)) (N + 1)) (N) 0 (N + 1)) (N + 1 + 2)) (N) 1 (N + 1 + 2)) (N + 1 + 4)) (N) 2 (N + 1 + 4)) v 2 (N)) (N + 7)) (N + 8)) (N + 7) 1 (N + 8)) (N + 8 + 2)) (N + 7) 2 (N + 8 + 2)) v 0 (N + 7)) (N + 12)) (N + 13)) (N + 12) 1 (N + 13)) (N + 13 + 2)) (N + 12) 2 (N + 13 + 2)) v 1 (N + 12), put (put (nrM (nrM (zap (put (put (nrM (nrM (zap (put (put (put (put (put (nrM (nrM (nrM (zap (m) (N)) (N + 1)) (N + 1 + 2)) (N + 1 + 4)) (N) 3 0) v 3 0) v 4 (-1)) v 5 (-1)) v 6 (-1)) (N + 7)) (N + 8)) (N + 8 + 2)) (N + 7) 3 1) (N + 7) 0 z) (N + 12)) (N + 13)) (N + 13 + 2)) (N + 12) 3 1) (N + 12) 0 z) := by
  have p1 : (G ++ [(13, 4)]).length = N + 1 := by rw [List.length_append, hN]; rfl
  have h1 := f86_s (G := G ++ [(13, 4)]) (r := zapR (r) (N)) (m := zap (m) (N)) (v := N) (N := N + 1) p1 (by omega) (by omega) (gkb_e hN rfl)
  have l7 : (G ++ [(13, 4)] ++ [(6, 1), (0, 10), (6, 1), (0, 50), (6, 1), (0, 50)]).length = N + 7 := by rw [List.length_append, p1]; rfl
  have p2 : (G ++ [(13, 4)] ++ [(6, 1), (0, 10), (6, 1), (0, 50), (6, 1), (0, 50)] ++ [(7, 4)]).length = N + 8 := by rw [List.length_append, l7]; rfl
  have h2 := f37_s (G := G ++ [(13, 4)] ++ [(6, 1), (0, 10), (6, 1), (0, 50), (6, 1), (0, 50)] ++ [(7, 4)]) (r := zapR (putR (putR (nrR (putR (nrR (putR (nrR (zapR (r) (N)) (N + 1)) (N) 0 (N + 1)) (N + 1 + 2)) (N) 1 (N + 1 + 2)) (N + 1 + 4)) (N) 2 (N + 1 + 4)) v 2 (N)) (N + 7)) (m := zap (put (put (put (put (put (nrM (nrM (nrM (zap (m) (N)) (N + 1)) (N + 1 + 2)) (N + 1 + 4)) (N) 3 0) v 3 0) v 4 (-1)) v 5 (-1)) v 6 (-1)) (N + 7)) (v := N + 7) (N := N + 8) (k := z) p2 (by omega) (by omega) (gkb_e l7 rfl)
  have l12 : (G ++ [(13, 4)] ++ [(6, 1), (0, 10), (6, 1), (0, 50), (6, 1), (0, 50)] ++ [(7, 4)] ++ [(6, 1), (0, 10), (6, 1), (0, 10)]).length = N + 12 := by rw [List.length_append, p2]; rfl
  have p3 : (G ++ [(13, 4)] ++ [(6, 1), (0, 10), (6, 1), (0, 50), (6, 1), (0, 50)] ++ [(7, 4)] ++ [(6, 1), (0, 10), (6, 1), (0, 10)] ++ [(7, 4)]).length = N + 13 := by rw [List.length_append, l12]; rfl
  have h3 := f37_s (G := G ++ [(13, 4)] ++ [(6, 1), (0, 10), (6, 1), (0, 50), (6, 1), (0, 50)] ++ [(7, 4)] ++ [(6, 1), (0, 10), (6, 1), (0, 10)] ++ [(7, 4)]) (r := zapR (putR (putR (nrR (putR (nrR (zapR (putR (putR (nrR (putR (nrR (putR (nrR (zapR (r) (N)) (N + 1)) (N) 0 (N + 1)) (N + 1 + 2)) (N) 1 (N + 1 + 2)) (N + 1 + 4)) (N) 2 (N + 1 + 4)) v 2 (N)) (N + 7)) (N + 8)) (N + 7) 1 (N + 8)) (N + 8 + 2)) (N + 7) 2 (N + 8 + 2)) v 0 (N + 7)) (N + 12)) (m := zap (put (put (nrM (nrM (zap (put (put (put (put (put (nrM (nrM (nrM (zap (m) (N)) (N + 1)) (N + 1 + 2)) (N + 1 + 4)) (N) 3 0) v 3 0) v 4 (-1)) v 5 (-1)) v 6 (-1)) (N + 7)) (N + 8)) (N + 8 + 2)) (N + 7) 3 1) (N + 7) 0 z) (N + 12)) (v := N + 12) (N := N + 13) (k := z) p3 (by omega) (by omega) (gkb_e l12 rfl)
  have l17 : (G ++ [(13, 4)] ++ [(6, 1), (0, 10), (6, 1), (0, 50), (6, 1), (0, 50)] ++ [(7, 4)] ++ [(6, 1), (0, 10), (6, 1), (0, 10)] ++ [(7, 4)] ++ [(6, 1), (0, 10), (6, 1), (0, 10)]).length = N + 17 := by rw [List.length_append, p3]; rfl
  unfold f0 f0_12 f0_15 f0_18 f0_20
  dsimp only
  rw [if_pos hv, hN, if_pos (by omega), bnd h1]
  dsimp only
  rw [if_pos (gkb_a (gkb_a hg))]
  rw [if_pos (gkb_a (gkb_a hg))]
  rw [if_pos (gkb_a (gkb_a hg))]
  rw [if_pos (gkb_a (gkb_a hg))]
  rw [l7, if_pos (by omega), bnd h2]
  dsimp only
  rw [if_pos (gkb_a (gkb_a (gkb_a (gkb_a hg))))]
  rw [l12, if_pos (by omega), bnd h3]
  dsimp only
  rw [if_pos (gkb_a (gkb_a (gkb_a (gkb_a (gkb_a (gkb_a hg))))))]
  try rfl
theorem f55_s {G : Gg} {r : Rg} {m : Sg} {v N : Nat} (hN : G.length = N) (hv : ¬ v = 0) (hN0 : ¬ N = 0) (hg : gkb G v 9 = true) : f55 v (G, r, m) = some (G ++ [(6, 1), (0, 8)] ++ [(6, 1), (0, 8)] ++ [(6, 1), (0, 8)] ++ [(6, 1), (0, 8)], putR (nrR (putR (nrR (putR (nrR (putR (nrR (r) (N)) v 0 (N)) (N + 2)) v 1 (N + 2)) (N + 4)) v 2 (N + 4)) (N + 6)) v 3 (N + 6), fil 8 (N + 1) (nrM (nrM (nrM (nrM (m) (N)) (N + 2)) (N + 4)) (N + 6)) (-1)) := by
  have h1 := row_n (G := G) (r := r) (m := m) (N := N) (k := 8) hN (by omega) (by omega)
  have l2 : (G ++ [(6, 1), (0, 8)]).length = N + 2 := by rw [List.length_append, hN]; rfl
  have h2 := row_n (G := G ++ [(6, 1), (0, 8)]) (r := putR (nrR (r) (N)) v 0 (N)) (m := nrM (m) (N)) (N := N + 2) (k := 8) l2 (by omega) (by omega)
  have l4 : (G ++ [(6, 1), (0, 8)] ++ [(6, 1), (0, 8)]).length = N + 4 := by rw [List.length_append, l2]; rfl
  have h3 := row_n (G := G ++ [(6, 1), (0, 8)] ++ [(6, 1), (0, 8)]) (r := putR (nrR (putR (nrR (r) (N)) v 0 (N)) (N + 2)) v 1 (N + 2)) (m := nrM (nrM (m) (N)) (N + 2)) (N := N + 4) (k := 8) l4 (by omega) (by omega)
  have l6 : (G ++ [(6, 1), (0, 8)] ++ [(6, 1), (0, 8)] ++ [(6, 1), (0, 8)]).length = N + 6 := by rw [List.length_append, l4]; rfl
  have h4 := row_n (G := G ++ [(6, 1), (0, 8)] ++ [(6, 1), (0, 8)] ++ [(6, 1), (0, 8)]) (r := putR (nrR (putR (nrR (putR (nrR (r) (N)) v 0 (N)) (N + 2)) v 1 (N + 2)) (N + 4)) v 2 (N + 4)) (m := nrM (nrM (nrM (m) (N)) (N + 2)) (N + 4)) (N := N + 6) (k := 8) l6 (by omega) (by omega)
  have l8 : (G ++ [(6, 1), (0, 8)] ++ [(6, 1), (0, 8)] ++ [(6, 1), (0, 8)] ++ [(6, 1), (0, 8)]).length = N + 8 := by rw [List.length_append, l6]; rfl
  have hl := gkb_l hg
  rw [hN] at hl
  have ra : (putR (nrR (putR (nrR (putR (nrR (putR (nrR (r) (N)) v 0 (N)) (N + 2)) v 1 (N + 2)) (N + 4)) v 2 (N + 4)) (N + 6)) v 3 (N + 6)) v 0 = N := by
    simp only [nrR, putR, zapR]
    repeat (first | rw [if_pos (by omega)] | rw [if_neg (by omega)] | rw [if_pos ⟨trivial, trivial⟩] | rw [if_pos trivial])
  have rb : (putR (nrR (putR (nrR (putR (nrR (putR (nrR (r) (N)) v 0 (N)) (N + 2)) v 1 (N + 2)) (N + 4)) v 2 (N + 4)) (N + 6)) v 3 (N + 6)) (N) 0 = N + 1 := by
    simp only [nrR, putR, zapR]
    repeat (first | rw [if_pos (by omega)] | rw [if_neg (by omega)] | rw [if_pos ⟨trivial, trivial⟩] | rw [if_pos trivial])
  have k6 : gkb (G ++ [(6, 1), (0, 8)] ++ [(6, 1), (0, 8)] ++ [(6, 1), (0, 8)] ++ [(6, 1), (0, 8)]) (N) 6 = true := (gkb_a (gkb_a (gkb_a (gkb_r hN).1)))
  have k0 : gkb (G ++ [(6, 1), (0, 8)] ++ [(6, 1), (0, 8)] ++ [(6, 1), (0, 8)] ++ [(6, 1), (0, 8)]) (N + 1) 0 = true := (gkb_a (gkb_a (gkb_a (gkb_r hN).2)))
  have gz : gl (G ++ [(6, 1), (0, 8)] ++ [(6, 1), (0, 8)] ++ [(6, 1), (0, 8)] ++ [(6, 1), (0, 8)]) (N + 1) = ((8 : Nat) : Int) := by rw [gl_a (by rw [l6]; omega), gl_a (by rw [l4]; omega), gl_a (by rw [l2]; omega), gl_r hN]
  have e35 := f35_s (G := G ++ [(6, 1), (0, 8)] ++ [(6, 1), (0, 8)] ++ [(6, 1), (0, 8)] ++ [(6, 1), (0, 8)]) (ρ := putR (nrR (putR (nrR (putR (nrR (putR (nrR (r) (N)) v 0 (N)) (N + 2)) v 1 (N + 2)) (N + 4)) v 2 (N + 4)) (N + 6)) v 3 (N + 6)) (a := N) (b := N + 1) (v := -1) (m := nrM (nrM (nrM (nrM (m) (N)) (N + 2)) (N + 4)) (N + 6)) 8 k6 rb k0 gz (by omega)
  unfold f55
  dsimp only
  rw [if_pos hv, hN, if_pos (by omega), bnd (show f32 (N) 8 (G ++ [(6, 1)], zapR (r) (N), zap (m) (N)) = _ from h1)]
  dsimp only
  rw [if_pos (gkb_a hg)]
  rw [l2, if_pos (by omega), bnd (show f32 (N + 2) 8 (G ++ [(6, 1), (0, 8)] ++ [(6, 1)], zapR (putR (nrR (r) (N)) v 0 (N)) (N + 2), zap (nrM (m) (N)) (N + 2)) = _ from h2)]
  dsimp only
  rw [if_pos (gkb_a (gkb_a hg))]
  rw [l4, if_pos (by omega), bnd (show f32 (N + 4) 8 (G ++ [(6, 1), (0, 8)] ++ [(6, 1), (0, 8)] ++ [(6, 1)], zapR (putR (nrR (putR (nrR (r) (N)) v 0 (N)) (N + 2)) v 1 (N + 2)) (N + 4), zap (nrM (nrM (m) (N)) (N + 2)) (N + 4)) = _ from h3)]
  dsimp only
  rw [if_pos (gkb_a (gkb_a (gkb_a hg)))]
  rw [l6, if_pos (by omega), bnd (show f32 (N + 6) 8 (G ++ [(6, 1), (0, 8)] ++ [(6, 1), (0, 8)] ++ [(6, 1), (0, 8)] ++ [(6, 1)], zapR (putR (nrR (putR (nrR (putR (nrR (r) (N)) v 0 (N)) (N + 2)) v 1 (N + 2)) (N + 4)) v 2 (N + 4)) (N + 6), zap (nrM (nrM (nrM (m) (N)) (N + 2)) (N + 4)) (N + 6)) = _ from h4)]
  dsimp only
  rw [if_pos (gkb_a (gkb_a (gkb_a (gkb_a hg))))]
  rw [ra, if_pos k6, bnd e35]
  try rfl
theorem f47_s {G : Gg} {r : Rg} {m : Sg} {v N : Nat} (hN : G.length = N) (hv : ¬ v = 0) (hN0 : ¬ N = 0) (hg : gkb G v 8 = true) : f47 v (G, r, m) = some (G ++ [(6, 1), (0, 160)] ++ [(6, 1), (0, 4)] ++ [(6, 1), (0, 4)], putR (nrR (putR (nrR (putR (nrR (r) (N)) v 0 (N)) (N + 2)) v 1 (N + 2)) (N + 4)) v 2 (N + 4), fil 4 (N + 2 + 1) (nrM (nrM (nrM (m) (N)) (N + 2)) (N + 4)) (-1)) := by
  have h1 := row_n (G := G) (r := r) (m := m) (N := N) (k := 160) hN (by omega) (by omega)
  have l2 : (G ++ [(6, 1), (0, 160)]).length = N + 2 := by rw [List.length_append, hN]; rfl
  have h2 := row_n (G := G ++ [(6, 1), (0, 160)]) (r := putR (nrR (r) (N)) v 0 (N)) (m := nrM (m) (N)) (N := N + 2) (k := 4) l2 (by omega) (by omega)
  have l4 : (G ++ [(6, 1), (0, 160)] ++ [(6, 1), (0, 4)]).length = N + 4 := by rw [List.length_append, l2]; rfl
  have h3 := row_n (G := G ++ [(6, 1), (0, 160)] ++ [(6, 1), (0, 4)]) (r := putR (nrR (putR (nrR (r) (N)) v 0 (N)) (N + 2)) v 1 (N + 2)) (m := nrM (nrM (m) (N)) (N + 2)) (N := N + 4) (k := 4) l4 (by omega) (by omega)
  have l6 : (G ++ [(6, 1), (0, 160)] ++ [(6, 1), (0, 4)] ++ [(6, 1), (0, 4)]).length = N + 6 := by rw [List.length_append, l4]; rfl
  have hl := gkb_l hg
  rw [hN] at hl
  have ra : (putR (nrR (putR (nrR (putR (nrR (r) (N)) v 0 (N)) (N + 2)) v 1 (N + 2)) (N + 4)) v 2 (N + 4)) v 1 = N + 2 := by
    simp only [nrR, putR, zapR]
    repeat (first | rw [if_pos (by omega)] | rw [if_neg (by omega)] | rw [if_pos ⟨trivial, trivial⟩] | rw [if_pos trivial])
  have rb : (putR (nrR (putR (nrR (putR (nrR (r) (N)) v 0 (N)) (N + 2)) v 1 (N + 2)) (N + 4)) v 2 (N + 4)) (N + 2) 0 = N + 2 + 1 := by
    simp only [nrR, putR, zapR]
    repeat (first | rw [if_pos (by omega)] | rw [if_neg (by omega)] | rw [if_pos ⟨trivial, trivial⟩] | rw [if_pos trivial])
  have k6 : gkb (G ++ [(6, 1), (0, 160)] ++ [(6, 1), (0, 4)] ++ [(6, 1), (0, 4)]) (N + 2) 6 = true := (gkb_a (gkb_r l2).1)
  have k0 : gkb (G ++ [(6, 1), (0, 160)] ++ [(6, 1), (0, 4)] ++ [(6, 1), (0, 4)]) (N + 2 + 1) 0 = true := (gkb_a (gkb_r l2).2)
  have gz : gl (G ++ [(6, 1), (0, 160)] ++ [(6, 1), (0, 4)] ++ [(6, 1), (0, 4)]) (N + 2 + 1) = ((4 : Nat) : Int) := by rw [gl_a (by rw [l4]; omega), gl_r l2]
  have e35 := f35_s (G := G ++ [(6, 1), (0, 160)] ++ [(6, 1), (0, 4)] ++ [(6, 1), (0, 4)]) (ρ := putR (nrR (putR (nrR (putR (nrR (r) (N)) v 0 (N)) (N + 2)) v 1 (N + 2)) (N + 4)) v 2 (N + 4)) (a := N + 2) (b := N + 2 + 1) (v := -1) (m := nrM (nrM (nrM (m) (N)) (N + 2)) (N + 4)) 4 k6 rb k0 gz (by omega)
  unfold f47
  dsimp only
  rw [if_pos hv, hN, if_pos (by omega), bnd (show f32 (N) 160 (G ++ [(6, 1)], zapR (r) (N), zap (m) (N)) = _ from h1)]
  dsimp only
  rw [if_pos (gkb_a hg)]
  rw [l2, if_pos (by omega), bnd (show f32 (N + 2) 4 (G ++ [(6, 1), (0, 160)] ++ [(6, 1)], zapR (putR (nrR (r) (N)) v 0 (N)) (N + 2), zap (nrM (m) (N)) (N + 2)) = _ from h2)]
  dsimp only
  rw [if_pos (gkb_a (gkb_a hg))]
  rw [l4, if_pos (by omega), bnd (show f32 (N + 4) 4 (G ++ [(6, 1), (0, 160)] ++ [(6, 1), (0, 4)] ++ [(6, 1)], zapR (putR (nrR (putR (nrR (r) (N)) v 0 (N)) (N + 2)) v 1 (N + 2)) (N + 4), zap (nrM (nrM (m) (N)) (N + 2)) (N + 4)) = _ from h3)]
  dsimp only
  rw [if_pos (gkb_a (gkb_a (gkb_a hg)))]
  rw [ra, if_pos k6, bnd e35]
  try rfl
