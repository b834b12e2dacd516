/-! MORE CLASSES -/
theorem f8_s {G : Gg} {r : Rg} {m : Sg} {v N : Nat} (hN : G.length = N) (hv : ¬ v = 0) (hN0 : ¬ N = 0) (hg : gkb G v 5 = true) : f8 v (G, r, m) = some (G ++ [(6, 1), (0, 160)] ++ [(6, 1), (0, 161)] ++ [(6, 1), (0, 161)] ++ [(6, 1), (0, 161)] ++ [(6, 1), (0, 160)], putR (nrR (putR (nrR (putR (nrR (putR (nrR (putR (nrR (r) (N)) v 0 (N)) (N + 2)) v 2 (N + 2)) (N + 4)) v 3 (N + 4)) (N + 6)) v 4 (N + 6)) (N + 8)) v 6 (N + 8), put (put (nrM (put (nrM (nrM (nrM (put (nrM (m) (N)) v 1 0) (N + 2)) (N + 4)) (N + 6)) v 5 0) (N + 8)) v 7 0) v 8 0) := by
  have h1 := row_n (G := G) (r := r) (m := m) (N := N) (k := 160) hN (by omega) (by omega)
  have l2 : (G ++ [(6, 1), (0, 160)]).length = N + 2 := by rw [List.length_append, hN]; rfl
  have h2 := row_n (G := G ++ [(6, 1), (0, 160)]) (r := putR (nrR (r) (N)) v 0 (N)) (m := put (nrM (m) (N)) v 1 0) (N := N + 2) (k := 161) l2 (by omega) (by omega)
  have l4 : (G ++ [(6, 1), (0, 160)] ++ [(6, 1), (0, 161)]).length = N + 4 := by rw [List.length_append, l2]; rfl
  have h3 := row_n (G := G ++ [(6, 1), (0, 160)] ++ [(6, 1), (0, 161)]) (r := putR (nrR (putR (nrR (r) (N)) v 0 (N)) (N + 2)) v 2 (N + 2)) (m := nrM (put (nrM (m) (N)) v 1 0) (N + 2)) (N := N + 4) (k := 161) l4 (by omega) (by omega)
  have l6 : (G ++ [(6, 1), (0, 160)] ++ [(6, 1), (0, 161)] ++ [(6, 1), (0, 161)]).length = N + 6 := by rw [List.length_append, l4]; rfl
  have h4 := row_n (G := G ++ [(6, 1), (0, 160)] ++ [(6, 1), (0, 161)] ++ [(6, 1), (0, 161)]) (r := putR (nrR (putR (nrR (putR (nrR (r) (N)) v 0 (N)) (N + 2)) v 2 (N + 2)) (N + 4)) v 3 (N + 4)) (m := nrM (nrM (put (nrM (m) (N)) v 1 0) (N + 2)) (N + 4)) (N := N + 6) (k := 161) l6 (by omega) (by omega)
  have l8 : (G ++ [(6, 1), (0, 160)] ++ [(6, 1), (0, 161)] ++ [(6, 1), (0, 161)] ++ [(6, 1), (0, 161)]).length = N + 8 := by rw [List.length_append, l6]; rfl
  have h5 := row_n (G := G ++ [(6, 1), (0, 160)] ++ [(6, 1), (0, 161)] ++ [(6, 1), (0, 161)] ++ [(6, 1), (0, 161)]) (r := putR (nrR (putR (nrR (putR (nrR (putR (nrR (r) (N)) v 0 (N)) (N + 2)) v 2 (N + 2)) (N + 4)) v 3 (N + 4)) (N + 6)) v 4 (N + 6)) (m := put (nrM (nrM (nrM (put (nrM (m) (N)) v 1 0) (N + 2)) (N + 4)) (N + 6)) v 5 0) (N := N + 8) (k := 160) l8 (by omega) (by omega)
  have l10 : (G ++ [(6, 1), (0, 160)] ++ [(6, 1), (0, 161)] ++ [(6, 1), (0, 161)] ++ [(6, 1), (0, 161)] ++ [(6, 1), (0, 160)]).length = N + 10 := by rw [List.length_append, l8]; rfl
  unfold f8 f8_12 f8_33 f8_43
  dsimp only
  rw [if_pos hv, hN, if_pos (by omega), bnd (show f32 (N) 160 (G ++ [(6, 1)], zapR (r) (N), zap (m) (N)) = _ from h1)]
  dsimp only
  rw [if_pos (gkb_a hg)]
  rw [l2, if_pos (by omega), bnd (show f32 (N + 2) 161 (G ++ [(6, 1), (0, 160)] ++ [(6, 1)], zapR (putR (nrR (r) (N)) v 0 (N)) (N + 2), zap (put (nrM (m) (N)) v 1 0) (N + 2)) = _ from h2)]
  dsimp only
  rw [if_pos (gkb_a (gkb_a hg))]
  rw [l4, if_pos (by omega), bnd (show f32 (N + 4) 161 (G ++ [(6, 1), (0, 160)] ++ [(6, 1), (0, 161)] ++ [(6, 1)], zapR (putR (nrR (putR (nrR (r) (N)) v 0 (N)) (N + 2)) v 2 (N + 2)) (N + 4), zap (nrM (put (nrM (m) (N)) v 1 0) (N + 2)) (N + 4)) = _ from h3)]
  dsimp only
  rw [if_pos (gkb_a (gkb_a (gkb_a hg)))]
  rw [l6, if_pos (by omega), bnd (show f32 (N + 6) 161 (G ++ [(6, 1), (0, 160)] ++ [(6, 1), (0, 161)] ++ [(6, 1), (0, 161)] ++ [(6, 1)], zapR (putR (nrR (putR (nrR (putR (nrR (r) (N)) v 0 (N)) (N + 2)) v 2 (N + 2)) (N + 4)) v 3 (N + 4)) (N + 6), zap (nrM (nrM (put (nrM (m) (N)) v 1 0) (N + 2)) (N + 4)) (N + 6)) = _ from h4)]
  dsimp only
  rw [if_pos (gkb_a (gkb_a (gkb_a (gkb_a hg))))]
  rw [l8, if_pos (by omega), bnd (show f32 (N + 8) 160 (G ++ [(6, 1), (0, 160)] ++ [(6, 1), (0, 161)] ++ [(6, 1), (0, 161)] ++ [(6, 1), (0, 161)] ++ [(6, 1)], zapR (putR (nrR (putR (nrR (putR (nrR (putR (nrR (r) (N)) v 0 (N)) (N + 2)) v 2 (N + 2)) (N + 4)) v 3 (N + 4)) (N + 6)) v 4 (N + 6)) (N + 8), zap (put (nrM (nrM (nrM (put (nrM (m) (N)) v 1 0) (N + 2)) (N + 4)) (N + 6)) v 5 0) (N + 8)) = _ from h5)]
  dsimp only
  rw [if_pos (gkb_a (gkb_a (gkb_a (gkb_a (gkb_a hg)))))]
  rw [if_pos (gkb_a (gkb_a (gkb_a (gkb_a (gkb_a hg))))), if_pos (gkb_a (gkb_a (gkb_a (gkb_a (gkb_a hg)))))]
  try rfl
theorem f3_s {G : Gg} {r : Rg} {m : Sg} {v N : Nat} {z : Int} (hN : G.length = N) (hv : ¬ v = 0) (hN0 : ¬ N = 0) (hg : gkb G v 4 = true) : f3 v z (G, r, m) = some (G ++ [(6, 1), (0, 100)] ++ [(6, 1), (0, 100)] ++ [(6, 1), (0, 100)] ++ [(6, 1), (0, 100)] ++ [(6, 1), (0, 100)] ++ [(7, 4)] ++ [(6, 1), (0, 10), (6, 1), (0, 10)] ++ [(7, 4)] ++ [(6, 1), (0, 10), (6, 1), (0, 10)], putR (putR (nrR (putR (nrR (zapR (putR (putR (nrR (putR (nrR (zapR (putR (nrR (putR (nrR (putR (nrR (putR (nrR (putR (nrR (r) (N)) v 2 (N)) (N + 2)) v 3 (N + 2)) (N + 4)) v 4 (N + 4)) (N + 6)) v 5 (N + 6)) (N + 8)) v 6 (N + 8)) (N + 10)) (N + 11)) (N + 10) 1 (N + 11)) (N + 11 + 2)) (N + 10) 2 (N + 11 + 2)) v 0 (N + 10)) (N + 15)) (N + 16)) (N + 15) 1 (N + 16)) (N + 16 + 2)) (N + 15) 2 (N + 16 + 2)) v 1 (N + 15), put (put (nrM (nrM (zap (put (put (nrM (nrM (zap (put (nrM (nrM (nrM (nrM (nrM (m) (N)) (N + 2)) (N + 4)) (N + 6)) (N + 8)) v 7 0) (N + 10)) (N + 11)) (N + 11 + 2)) (N + 10) 3 1) (N + 10) 0 z) (N + 15)) (N + 16)) (N + 16 + 2)) (N + 15) 3 1) (N + 15) 0 z) := by
  have h1 := row_n (G := G) (r := r) (m := m) (N := N) (k := 100) hN (by omega) (by omega)
  have l2 : (G ++ [(6, 1), (0, 100)]).length = N + 2 := by rw [List.length_append, hN]; rfl
  have h2 := row_n (G := G ++ [(6, 1), (0, 100)]) (r := putR (nrR (r) (N)) v 2 (N)) (m := nrM (m) (N)) (N := N + 2) (k := 100) l2 (by omega) (by omega)
  have l4 : (G ++ [(6, 1), (0, 100)] ++ [(6, 1), (0, 100)]).length = N + 4 := by rw [List.length_append, l2]; rfl
  have h3 := row_n (G := G ++ [(6, 1), (0, 100)] ++ [(6, 1), (0, 100)]) (r := putR (nrR (putR (nrR (r) (N)) v 2 (N)) (N + 2)) v 3 (N + 2)) (m := nrM (nrM (m) (N)) (N + 2)) (N := N + 4) (k := 100) l4 (by omega) (by omega)
  have l6 : (G ++ [(6, 1), (0, 100)] ++ [(6, 1), (0, 100)] ++ [(6, 1), (0, 100)]).length = N + 6 := by rw [List.length_append, l4]; rfl
  have h4 := row_n (G := G ++ [(6, 1), (0, 100)] ++ [(6, 1), (0, 100)] ++ [(6, 1), (0, 100)]) (r := putR (nrR (putR (nrR (putR (nrR (r) (N)) v 2 (N)) (N + 2)) v 3 (N + 2)) (N + 4)) v 4 (N + 4)) (m := nrM (nrM (nrM (m) (N)) (N + 2)) (N + 4)) (N := N + 6) (k := 100) l6 (by omega) (by omega)
  have l8 : (G ++ [(6, 1), (0, 100)] ++ [(6, 1), (0, 100)] ++ [(6, 1), (0, 100)] ++ [(6, 1), (0, 100)]).length = N + 8 := by rw [List.length_append, l6]; rfl
  have h5 := row_n (G := G ++ [(6, 1), (0, 100)] ++ [(6, 1), (0, 100)] ++ [(6, 1), (0, 100)] ++ [(6, 1), (0, 100)]) (r := putR (nrR (putR (nrR (putR (nrR (putR (nrR (r) (N)) v 2 (N)) (N + 2)) v 3 (N + 2)) (N + 4)) v 4 (N + 4)) (N + 6)) v 5 (N + 6)) (m := nrM (nrM (nrM (nrM (m) (N)) (N + 2)) (N + 4)) (N + 6)) (N := N + 8) (k := 100) l8 (by omega) (by omega)
  have l10 : (G ++ [(6, 1), (0, 100)] ++ [(6, 1), (0, 100)] ++ [(6, 1), (0, 100)] ++ [(6, 1), (0, 100)] ++ [(6, 1), (0, 100)]).length = N + 10 := by rw [List.length_append, l8]; rfl
  have p6 : (G ++ [(6, 1), (0, 100)] ++ [(6, 1), (0, 100)] ++ [(6, 1), (0, 100)] ++ [(6, 1), (0, 100)] ++ [(6, 1), (0, 100)] ++ [(7, 4)]).length = N + 11 := by rw [List.length_append, l10]; rfl
  have h6 := f37_s (G := G ++ [(6, 1), (0, 100)] ++ [(6, 1), (0, 100)] ++ [(6, 1), (0, 100)] ++ [(6, 1), (0, 100)] ++ [(6, 1), (0, 100)] ++ [(7, 4)]) (r := zapR (putR (nrR (putR (nrR (putR (nrR (putR (nrR (putR (nrR (r) (N)) v 2 (N)) (N + 2)) v 3 (N + 2)) (N + 4)) v 4 (N + 4)) (N + 6)) v 5 (N + 6)) (N + 8)) v 6 (N + 8)) (N + 10)) (m := zap (put (nrM (nrM (nrM (nrM (nrM (m) (N)) (N + 2)) (N + 4)) (N + 6)) (N + 8)) v 7 0) (N + 10)) (v := N + 10) (N := N + 11) (k := z) p6 (by omega) (by omega) (gkb_e l10 rfl)
  have l15 : (G ++ [(6, 1), (0, 100)] ++ [(6, 1), (0, 100)] ++ [(6, 1), (0, 100)] ++ [(6, 1), (0, 100)] ++ [(6, 1), (0, 100)] ++ [(7, 4)] ++ [(6, 1), (0, 10), (6, 1), (0, 10)]).length = N + 15 := by rw [List.length_append, p6]; rfl
  have p7 : (G ++ [(6, 1), (0, 100)] ++ [(6, 1), (0, 100)] ++ [(6, 1), (0, 100)] ++ [(6, 1), (0, 100)] ++ [(6, 1), (0, 100)] ++ [(7, 4)] ++ [(6, 1), (0, 10), (6, 1), (0, 10)] ++ [(7, 4)]).length = N + 16 := by rw [List.length_append, l15]; rfl
  have h7 := f37_s (G := G ++ [(6, 1), (0, 100)] ++ [(6, 1), (0, 100)] ++ [(6, 1), (0, 100)] ++ [(6, 1), (0, 100)] ++ [(6, 1), (0, 100)] ++ [(7, 4)] ++ [(6, 1), (0, 10), (6, 1), (0, 10)] ++ [(7, 4)]) (r := zapR (putR (putR (nrR (putR (nrR (zapR (putR (nrR (putR (nrR (putR (nrR (putR (nrR (putR (nrR (r) (N)) v 2 (N)) (N + 2)) v 3 (N + 2)) (N + 4)) v 4 (N + 4)) (N + 6)) v 5 (N + 6)) (N + 8)) v 6 (N + 8)) (N + 10)) (N + 11)) (N + 10) 1 (N + 11)) (N + 11 + 2)) (N + 10) 2 (N + 11 + 2)) v 0 (N + 10)) (N + 15)) (m := zap (put (put (nrM (nrM (zap (put (nrM (nrM (nrM (nrM (nrM (m) (N)) (N + 2)) (N + 4)) (N + 6)) (N + 8)) v 7 0) (N + 10)) (N + 11)) (N + 11 + 2)) (N + 10) 3 1) (N + 10) 0 z) (N + 15)) (v := N + 15) (N := N + 16) (k := z) p7 (by omega) (by omega) (gkb_e l15 rfl)
  have l20 : (G ++ [(6, 1), (0, 100)] ++ [(6, 1), (0, 100)] ++ [(6, 1), (0, 100)] ++ [(6, 1), (0, 100)] ++ [(6, 1), (0, 100)] ++ [(7, 4)] ++ [(6, 1), (0, 10), (6, 1), (0, 10)] ++ [(7, 4)] ++ [(6, 1), (0, 10), (6, 1), (0, 10)]).length = N + 20 := by rw [List.length_append, p7]; rfl
  unfold f3 f3_36
  dsimp only
  rw [if_pos hv, hN, if_pos (by omega), bnd (show f32 (N) 100 (G ++ [(6, 1)], zapR (r) (N), zap (m) (N)) = _ from h1)]
  dsimp only
  rw [if_pos (gkb_a hg)]
  rw [l2, if_pos (by omega), bnd (show f32 (N + 2) 100 (G ++ [(6, 1), (0, 100)] ++ [(6, 1)], zapR (putR (nrR (r) (N)) v 2 (N)) (N + 2), zap (nrM (m) (N)) (N + 2)) = _ from h2)]
  dsimp only
  rw [if_pos (gkb_a (gkb_a hg))]
  rw [l4, if_pos (by omega), bnd (show f32 (N + 4) 100 (G ++ [(6, 1), (0, 100)] ++ [(6, 1), (0, 100)] ++ [(6, 1)], zapR (putR (nrR (putR (nrR (r) (N)) v 2 (N)) (N + 2)) v 3 (N + 2)) (N + 4), zap (nrM (nrM (m) (N)) (N + 2)) (N + 4)) = _ from h3)]
  dsimp only
  rw [if_pos (gkb_a (gkb_a (gkb_a hg)))]
  rw [l6, if_pos (by omega), bnd (show f32 (N + 6) 100 (G ++ [(6, 1), (0, 100)] ++ [(6, 1), (0, 100)] ++ [(6, 1), (0, 100)] ++ [(6, 1)], zapR (putR (nrR (putR (nrR (putR (nrR (r) (N)) v 2 (N)) (N + 2)) v 3 (N + 2)) (N + 4)) v 4 (N + 4)) (N + 6), zap (nrM (nrM (nrM (m) (N)) (N + 2)) (N + 4)) (N + 6)) = _ from h4)]
  dsimp only
  rw [if_pos (gkb_a (gkb_a (gkb_a (gkb_a hg))))]
  rw [l8, if_pos (by omega), bnd (show f32 (N + 8) 100 (G ++ [(6, 1), (0, 100)] ++ [(6, 1), (0, 100)] ++ [(6, 1), (0, 100)] ++ [(6, 1), (0, 100)] ++ [(6, 1)], zapR (putR (nrR (putR (nrR (putR (nrR (putR (nrR (r) (N)) v 2 (N)) (N + 2)) v 3 (N + 2)) (N + 4)) v 4 (N + 4)) (N + 6)) v 5 (N + 6)) (N + 8), zap (nrM (nrM (nrM (nrM (m) (N)) (N + 2)) (N + 4)) (N + 6)) (N + 8)) = _ from h5)]
  dsimp only
  rw [if_pos (gkb_a (gkb_a (gkb_a (gkb_a (gkb_a hg)))))]
  rw [l10, if_pos (by omega), bnd h6]
  dsimp only
  rw [if_pos (gkb_a (gkb_a (gkb_a (gkb_a (gkb_a (gkb_a (gkb_a hg)))))))]
  rw [l15, if_pos (by omega), bnd h7]
  dsimp only
  rw [if_pos (gkb_a (gkb_a (gkb_a (gkb_a (gkb_a (gkb_a (gkb_a (gkb_a (gkb_a hg)))))))))]
  try rfl
