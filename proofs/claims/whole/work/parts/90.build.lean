/-! CLASSES THAT ARE CHAINS OF ROWS -/
theorem f60_s {G : Gg} {r : Rg} {m : Sg} {v N : Nat} (hN : G.length = N) (hv : ¬ v = 0) (hN0 : ¬ N = 0) (hg : gkb G v 10 = true) : f60 v (G, r, m) = some (G ++ [(6, 1), (0, 20), (6, 1), (0, 20)], putR (nrR (putR (nrR r N) v 0 N) (N + 2)) v 1 (N + 2), put (put (nrM (nrM m N) (N + 2)) v 2 0) v 3 0) := by
  have h1 := row_n (G := G) (r := r) (m := m) (N := N) (k := 20) hN (by omega) (by omega)
  have l1 : (G ++ [(6, 1), (0, 20)]).length = N + 2 := by rw [List.length_append, hN]; rfl
  have h2 := row_n (G := G ++ [(6, 1), (0, 20)]) (r := putR (nrR r N) v 0 N) (m := nrM m N) (N := N + 2) (k := 20) l1 (by omega) (by omega)
  unfold f60 f60_19
  dsimp only
  rw [if_pos hv, hN, if_pos hN0, bnd (show f32 (N) 20 (G ++ [(6, 1)], zapR (r) (N), zap (m) (N)) = _ from h1)]
  dsimp only
  rw [if_pos (gkb_a hg), l1, if_pos (by omega), bnd (show f32 (N + 2) 20 (G ++ [(6, 1), (0, 20)] ++ [(6, 1)], zapR (putR (nrR r N) v 0 N) (N + 2), zap (nrM m N) (N + 2)) = _ from h2)]
  dsimp only
  rw [if_pos (gkb_a (gkb_a hg)), if_pos (gkb_a (gkb_a hg)), List.append_assoc]
  rfl
theorem f80_s {G : Gg} {r : Rg} {m : Sg} {v N : Nat} (hN : G.length = N) (hv : ¬ v = 0) (hN0 : ¬ N = 0) (hg : gkb G v 12 = true) : f80 v (G, r, m) = some (G ++ [(6, 1), (0, 960), (6, 1), (0, 6), (6, 1), (0, 6), (6, 1), (0, 160)], putR (nrR (putR (nrR (putR (nrR (putR (nrR r N) v 0 N) (N + 2)) v 1 (N + 2)) (N + 4)) v 2 (N + 4)) (N + 6)) v 3 (N + 6), put (put (nrM (nrM (nrM (nrM m N) (N + 2)) (N + 4)) (N + 6)) v 4 0) v 5 0) := by
  have h1 := row_n (G := G) (r := r) (m := m) (N := N) (k := 960) hN (by omega) (by omega)
  have l1 : (G ++ [(6, 1), (0, 960)]).length = N + 2 := by rw [List.length_append, hN]; rfl
  have h2 := row_n (G := G ++ [(6, 1), (0, 960)]) (r := putR (nrR r N) v 0 N) (m := nrM m N) (N := N + 2) (k := 6) l1 (by omega) (by omega)
  have l2 : (G ++ [(6, 1), (0, 960)] ++ [(6, 1), (0, 6)]).length = N + 4 := by rw [List.length_append, l1]; rfl
  have h3 := row_n (G := G ++ [(6, 1), (0, 960)] ++ [(6, 1), (0, 6)]) (r := putR (nrR (putR (nrR r N) v 0 N) (N + 2)) v 1 (N + 2)) (m := nrM (nrM m N) (N + 2)) (N := N + 4) (k := 6) l2 (by omega) (by omega)
  have l3 : (G ++ [(6, 1), (0, 960)] ++ [(6, 1), (0, 6)] ++ [(6, 1), (0, 6)]).length = N + 6 := by rw [List.length_append, l2]; rfl
  have h4 := row_n (G := G ++ [(6, 1), (0, 960)] ++ [(6, 1), (0, 6)] ++ [(6, 1), (0, 6)]) (r := putR (nrR (putR (nrR (putR (nrR r N) v 0 N) (N + 2)) v 1 (N + 2)) (N + 4)) v 2 (N + 4)) (m := nrM (nrM (nrM m N) (N + 2)) (N + 4)) (N := N + 6) (k := 160) l3 (by omega) (by omega)
  unfold f80 f80_31
  dsimp only
  rw [if_pos hv, hN, if_pos hN0, bnd (show f32 (N) 960 (G ++ [(6, 1)], zapR (r) (N), zap (m) (N)) = _ from h1)]
  dsimp only
  rw [if_pos (gkb_a hg), l1, if_pos (by omega), bnd (show f32 (N + 2) 6 (G ++ [(6, 1), (0, 960)] ++ [(6, 1)], zapR (putR (nrR r N) v 0 N) (N + 2), zap (nrM m N) (N + 2)) = _ from h2)]
  dsimp only
  rw [if_pos (gkb_a (gkb_a hg)), l2, if_pos (by omega), bnd (show f32 (N + 4) 6 (G ++ [(6, 1), (0, 960)] ++ [(6, 1), (0, 6)] ++ [(6, 1)], zapR (putR (nrR (putR (nrR r N) v 0 N) (N + 2)) v 1 (N + 2)) (N + 4), zap (nrM (nrM m N) (N + 2)) (N + 4)) = _ from h3)]
  dsimp only
  rw [if_pos (gkb_a (gkb_a (gkb_a hg))), l3, if_pos (by omega), bnd (show f32 (N + 6) 160 (G ++ [(6, 1), (0, 960)] ++ [(6, 1), (0, 6)] ++ [(6, 1), (0, 6)] ++ [(6, 1)], zapR (putR (nrR (putR (nrR (putR (nrR r N) v 0 N) (N + 2)) v 1 (N + 2)) (N + 4)) v 2 (N + 4)) (N + 6), zap (nrM (nrM (nrM m N) (N + 2)) (N + 4)) (N + 6)) = _ from h4)]
  dsimp only
  rw [if_pos (gkb_a (gkb_a (gkb_a (gkb_a hg)))), if_pos (gkb_a (gkb_a (gkb_a (gkb_a hg)))), List.append_assoc, List.append_assoc, List.append_assoc]
  rfl
theorem f64_s {G : Gg} {r : Rg} {m : Sg} {v N : Nat} {z : Int} (hN : G.length = N) (hv : ¬ v = 0) (hN0 : ¬ N = 0) (hg : gkb G v 11 = true) : f64 v z (G, r, m) = some (G ++ [(6, 1), (0, 120), (6, 1), (0, 120), (6, 1), (0, 12), (6, 1), (0, 12), (6, 1), (0, 12), (6, 1), (0, 12), (6, 1), (0, 72), (6, 1), (0, 6)], putR (nrR (putR (nrR (putR (nrR (putR (nrR (putR (nrR (putR (nrR (putR (nrR (putR (nrR r N) v 1 N) (N + 2)) v 2 (N + 2)) (N + 4)) v 3 (N + 4)) (N + 6)) v 4 (N + 6)) (N + 8)) v 5 (N + 8)) (N + 10)) v 6 (N + 10)) (N + 12)) v 7 (N + 12)) (N + 14)) v 8 (N + 14), put (put (nrM (nrM (nrM (nrM (nrM (nrM (nrM (nrM m N) (N + 2)) (N + 4)) (N + 6)) (N + 8)) (N + 10)) (N + 12)) (N + 14)) v 9 0) v 0 z) := by
  have h1 := row_n (G := G) (r := r) (m := m) (N := N) (k := 120) hN (by omega) (by omega)
  have l1 : (G ++ [(6, 1), (0, 120)]).length = N + 2 := by rw [List.length_append, hN]; rfl
  have h2 := row_n (G := G ++ [(6, 1), (0, 120)]) (r := putR (nrR r N) v 1 N) (m := nrM m N) (N := N + 2) (k := 120) l1 (by omega) (by omega)
  have l2 : (G ++ [(6, 1), (0, 120)] ++ [(6, 1), (0, 120)]).length = N + 4 := by rw [List.length_append, l1]; rfl
  have h3 := row_n (G := G ++ [(6, 1), (0, 120)] ++ [(6, 1), (0, 120)]) (r := putR (nrR (putR (nrR r N) v 1 N) (N + 2)) v 2 (N + 2)) (m := nrM (nrM m N) (N + 2)) (N := N + 4) (k := 12) l2 (by omega) (by omega)
  have l3 : (G ++ [(6, 1), (0, 120)] ++ [(6, 1), (0, 120)] ++ [(6, 1), (0, 12)]).length = N + 6 := by rw [List.length_append, l2]; rfl
  have h4 := row_n (G := G ++ [(6, 1), (0, 120)] ++ [(6, 1), (0, 120)] ++ [(6, 1), (0, 12)]) (r := putR (nrR (putR (nrR (putR (nrR r N) v 1 N) (N + 2)) v 2 (N + 2)) (N + 4)) v 3 (N + 4)) (m := nrM (nrM (nrM m N) (N + 2)) (N + 4)) (N := N + 6) (k := 12) l3 (by omega) (by omega)
  have l4 : (G ++ [(6, 1), (0, 120)] ++ [(6, 1), (0, 120)] ++ [(6, 1), (0, 12)] ++ [(6, 1), (0, 12)]).length = N + 8 := by rw [List.length_append, l3]; rfl
  have h5 := row_n (G := G ++ [(6, 1), (0, 120)] ++ [(6, 1), (0, 120)] ++ [(6, 1), (0, 12)] ++ [(6, 1), (0, 12)]) (r := putR (nrR (putR (nrR (putR (nrR (putR (nrR r N) v 1 N) (N + 2)) v 2 (N + 2)) (N + 4)) v 3 (N + 4)) (N + 6)) v 4 (N + 6)) (m := nrM (nrM (nrM (nrM m N) (N + 2)) (N + 4)) (N + 6)) (N := N + 8) (k := 12) l4 (by omega) (by omega)
  have l5 : (G ++ [(6, 1), (0, 120)] ++ [(6, 1), (0, 120)] ++ [(6, 1), (0, 12)] ++ [(6, 1), (0, 12)] ++ [(6, 1), (0, 12)]).length = N + 10 := by rw [List.length_append, l4]; rfl
  have h6 := row_n (G := G ++ [(6, 1), (0, 120)] ++ [(6, 1), (0, 120)] ++ [(6, 1), (0, 12)] ++ [(6, 1), (0, 12)] ++ [(6, 1), (0, 12)]) (r := putR (nrR (putR (nrR (putR (nrR (putR (nrR (putR (nrR r N) v 1 N) (N + 2)) v 2 (N + 2)) (N + 4)) v 3 (N + 4)) (N + 6)) v 4 (N + 6)) (N + 8)) v 5 (N + 8)) (m := nrM (nrM (nrM (nrM (nrM m N) (N + 2)) (N + 4)) (N + 6)) (N + 8)) (N := N + 10) (k := 12) l5 (by omega) (by omega)
  have l6 : (G ++ [(6, 1), (0, 120)] ++ [(6, 1), (0, 120)] ++ [(6, 1), (0, 12)] ++ [(6, 1), (0, 12)] ++ [(6, 1), (0, 12)] ++ [(6, 1), (0, 12)]).length = N + 12 := by rw [List.length_append, l5]; rfl
  have h7 := row_n (G := G ++ [(6, 1), (0, 120)] ++ [(6, 1), (0, 120)] ++ [(6, 1), (0, 12)] ++ [(6, 1), (0, 12)] ++ [(6, 1), (0, 12)] ++ [(6, 1), (0, 12)]) (r := putR (nrR (putR (nrR (putR (nrR (putR (nrR (putR (nrR (putR (nrR r N) v 1 N) (N + 2)) v 2 (N + 2)) (N + 4)) v 3 (N + 4)) (N + 6)) v 4 (N + 6)) (N + 8)) v 5 (N + 8)) (N + 10)) v 6 (N + 10)) (m := nrM (nrM (nrM (nrM (nrM (nrM m N) (N + 2)) (N + 4)) (N + 6)) (N + 8)) (N + 10)) (N := N + 12) (k := 72) l6 (by omega) (by omega)
  have l7 : (G ++ [(6, 1), (0, 120)] ++ [(6, 1), (0, 120)] ++ [(6, 1), (0, 12)] ++ [(6, 1), (0, 12)] ++ [(6, 1), (0, 12)] ++ [(6, 1), (0, 12)] ++ [(6, 1), (0, 72)]).length = N + 14 := by rw [List.length_append, l6]; rfl
  have h8 := row_n (G := G ++ [(6, 1), (0, 120)] ++ [(6, 1), (0, 120)] ++ [(6, 1), (0, 12)] ++ [(6, 1), (0, 12)] ++ [(6, 1), (0, 12)] ++ [(6, 1), (0, 12)] ++ [(6, 1), (0, 72)]) (r := putR (nrR (putR (nrR (putR (nrR (putR (nrR (putR (nrR (putR (nrR (putR (nrR r N) v 1 N) (N + 2)) v 2 (N + 2)) (N + 4)) v 3 (N + 4)) (N + 6)) v 4 (N + 6)) (N + 8)) v 5 (N + 8)) (N + 10)) v 6 (N + 10)) (N + 12)) v 7 (N + 12)) (m := nrM (nrM (nrM (nrM (nrM (nrM (nrM m N) (N + 2)) (N + 4)) (N + 6)) (N + 8)) (N + 10)) (N + 12)) (N := N + 14) (k := 6) l7 (by omega) (by omega)
  unfold f64 f64_55
  dsimp only
  rw [if_pos hv, hN, if_pos hN0, bnd (show f32 (N) 120 (G ++ [(6, 1)], zapR (r) (N), zap (m) (N)) = _ from h1)]
  dsimp only
  rw [if_pos (gkb_a hg), l1, if_pos (by omega), bnd (show f32 (N + 2) 120 (G ++ [(6, 1), (0, 120)] ++ [(6, 1)], zapR (putR (nrR r N) v 1 N) (N + 2), zap (nrM m N) (N + 2)) = _ from h2)]
  dsimp only
  rw [if_pos (gkb_a (gkb_a hg)), l2, if_pos (by omega), bnd (show f32 (N + 4) 12 (G ++ [(6, 1), (0, 120)] ++ [(6, 1), (0, 120)] ++ [(6, 1)], zapR (putR (nrR (putR (nrR r N) v 1 N) (N + 2)) v 2 (N + 2)) (N + 4), zap (nrM (nrM m N) (N + 2)) (N + 4)) = _ from h3)]
  dsimp only
  rw [if_pos (gkb_a (gkb_a (gkb_a hg))), l3, if_pos (by omega), bnd (show f32 (N + 6) 12 (G ++ [(6, 1), (0, 120)] ++ [(6, 1), (0, 120)] ++ [(6, 1), (0, 12)] ++ [(6, 1)], zapR (putR (nrR (putR (nrR (putR (nrR r N) v 1 N) (N + 2)) v 2 (N + 2)) (N + 4)) v 3 (N + 4)) (N + 6), zap (nrM (nrM (nrM m N) (N + 2)) (N + 4)) (N + 6)) = _ from h4)]
  dsimp only
  rw [if_pos (gkb_a (gkb_a (gkb_a (gkb_a hg)))), l4, if_pos (by omega), bnd (show f32 (N + 8) 12 (G ++ [(6, 1), (0, 120)] ++ [(6, 1), (0, 120)] ++ [(6, 1), (0, 12)] ++ [(6, 1), (0, 12)] ++ [(6, 1)], zapR (putR (nrR (putR (nrR (putR (nrR (putR (nrR r N) v 1 N) (N + 2)) v 2 (N + 2)) (N + 4)) v 3 (N + 4)) (N + 6)) v 4 (N + 6)) (N + 8), zap (nrM (nrM (nrM (nrM m N) (N + 2)) (N + 4)) (N + 6)) (N + 8)) = _ from h5)]
  dsimp only
  rw [if_pos (gkb_a (gkb_a (gkb_a (gkb_a (gkb_a hg))))), l5, if_pos (by omega), bnd (show f32 (N + 10) 12 (G ++ [(6, 1), (0, 120)] ++ [(6, 1), (0, 120)] ++ [(6, 1), (0, 12)] ++ [(6, 1), (0, 12)] ++ [(6, 1), (0, 12)] ++ [(6, 1)], zapR (putR (nrR (putR (nrR (putR (nrR (putR (nrR (putR (nrR r N) v 1 N) (N + 2)) v 2 (N + 2)) (N + 4)) v 3 (N + 4)) (N + 6)) v 4 (N + 6)) (N + 8)) v 5 (N + 8)) (N + 10), zap (nrM (nrM (nrM (nrM (nrM m N) (N + 2)) (N + 4)) (N + 6)) (N + 8)) (N + 10)) = _ from h6)]
  dsimp only
  rw [if_pos (gkb_a (gkb_a (gkb_a (gkb_a (gkb_a (gkb_a hg)))))), l6, if_pos (by omega), bnd (show f32 (N + 12) 72 (G ++ [(6, 1), (0, 120)] ++ [(6, 1), (0, 120)] ++ [(6, 1), (0, 12)] ++ [(6, 1), (0, 12)] ++ [(6, 1), (0, 12)] ++ [(6, 1), (0, 12)] ++ [(6, 1)], zapR (putR (nrR (putR (nrR (putR (nrR (putR (nrR (putR (nrR (putR (nrR r N) v 1 N) (N + 2)) v 2 (N + 2)) (N + 4)) v 3 (N + 4)) (N + 6)) v 4 (N + 6)) (N + 8)) v 5 (N + 8)) (N + 10)) v 6 (N + 10)) (N + 12), zap (nrM (nrM (nrM (nrM (nrM (nrM m N) (N + 2)) (N + 4)) (N + 6)) (N + 8)) (N + 10)) (N + 12)) = _ from h7)]
  dsimp only
  rw [if_pos (gkb_a (gkb_a (gkb_a (gkb_a (gkb_a (gkb_a (gkb_a hg))))))), l7, if_pos (by omega), bnd (show f32 (N + 14) 6 (G ++ [(6, 1), (0, 120)] ++ [(6, 1), (0, 120)] ++ [(6, 1), (0, 12)] ++ [(6, 1), (0, 12)] ++ [(6, 1), (0, 12)] ++ [(6, 1), (0, 12)] ++ [(6, 1), (0, 72)] ++ [(6, 1)], zapR (putR (nrR (putR (nrR (putR (nrR (putR (nrR (putR (nrR (putR (nrR (putR (nrR r N) v 1 N) (N + 2)) v 2 (N + 2)) (N + 4)) v 3 (N + 4)) (N + 6)) v 4 (N + 6)) (N + 8)) v 5 (N + 8)) (N + 10)) v 6 (N + 10)) (N + 12)) v 7 (N + 12)) (N + 14), zap (nrM (nrM (nrM (nrM (nrM (nrM (nrM m N) (N + 2)) (N + 4)) (N + 6)) (N + 8)) (N + 10)) (N + 12)) (N + 14)) = _ from h8)]
  dsimp only
  rw [if_pos (gkb_a (gkb_a (gkb_a (gkb_a (gkb_a (gkb_a (gkb_a (gkb_a hg)))))))), if_pos (gkb_a (gkb_a (gkb_a (gkb_a (gkb_a (gkb_a (gkb_a (gkb_a hg)))))))), List.append_assoc, List.append_assoc, List.append_assoc, List.append_assoc, List.append_assoc, List.append_assoc, List.append_assoc]
  rfl
