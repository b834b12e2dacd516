/-! THE OBJECTS BUILT: a row, and the small classes -/
theorem gkb_a {G X : Gg} {a k : Nat} (h : gkb G a k = true) : gkb (G ++ X) a k = true := by
  unfold gkb at h ⊢
  have hl : a < G.length := by
    by_cases c : a < G.length
    · exact c
    · rw [List.getElem?_eq_none (by omega)] at h; simp at h
  rw [List.getElem?_append_left hl]; exact h
theorem gkb_e {G : Gg} {N a k z : Nat} (hN : G.length = N) (h : a = k) : gkb (G ++ [(a, z)]) N k = true := by
  unfold gkb
  rw [← hN, List.getElem?_append_right (Nat.le_refl _), Nat.sub_self, h]
  exact beq_self_eq_true _
theorem f32_s {G : Gg} {r : Rg} {m : Sg} {v N : Nat} {k : Nat} (hN : G.length = N) (hv : ¬ v = 0) (hN0 : ¬ N = 0) (hk : k ≤ 100000) (hg : gkb G v 6 = true) : f32 v (k : Int) (G, r, m) = some (G ++ [(0, k)], putR (zapR r N) v 0 N, zap m N) := by
  have e : f226 G r (k : Int) 0 m = some (k : Int) := by unfold f226; rw [if_neg (by omega)]
  unfold f32 f32_7
  dsimp only
  rw [if_pos hv, bnd e, hN, if_pos (by omega), if_pos (gkb_a hg), if_pos hN0]
  rfl
/-- the references and the words when a row of its own stands at N -/
def nrR (r : Rg) (N : Nat) : Rg := putR (zapR (zapR r N) (N + 1)) N 0 (N + 1)
def nrM (m : Sg) (N : Nat) : Sg := zap (zap m N) (N + 1)
theorem row_n {G : Gg} {r : Rg} {m : Sg} {N k : Nat} (hN : G.length = N) (hN0 : ¬ N = 0) (hk : k ≤ 100000) : f32 N (k : Int) (G ++ [(6, 1)], zapR r N, zap m N) = some (G ++ [(6, 1), (0, k)], nrR r N, nrM m N) := by
  rw [f32_s (N := N + 1) (by rw [List.length_append, hN]; rfl) hN0 (by omega) hk (gkb_e hN rfl), List.append_assoc]
  rfl
/-- a class's heading: its rules (f37) -/
theorem f37_s {G : Gg} {r : Rg} {m : Sg} {v N : Nat} {k : Int} (hN : G.length = N) (hv : ¬ v = 0) (hN0 : ¬ N = 0) (hg : gkb G v 7 = true) : f37 v k (G, r, m) = some (G ++ [(6, 1), (0, 10), (6, 1), (0, 10)], putR (nrR (putR (nrR r N) v 1 N) (N + 2)) v 2 (N + 2), put (put (nrM (nrM m N) (N + 2)) v 3 1) v 0 k) := by
  have h1 := row_n (G := G) (r := r) (m := m) (k := 10) hN hN0 (by omega)
  have l1 : (G ++ [(6, 1), (0, 10)]).length = N + 2 := by rw [List.length_append, hN]; rfl
  have h2 := row_n (G := G ++ [(6, 1), (0, 10)]) (r := putR (nrR r N) v 1 N) (m := nrM m N) (N := N + 2) (k := 10) l1 (by omega) (by omega)
  unfold f37 f37_19
  dsimp only
  rw [if_pos hv, hN, if_pos hN0]
  rw [bnd (show f32 N 10 (G ++ [(6, 1)], zapR r N, zap m N) = _ from h1)]
  dsimp only
  rw [if_pos (gkb_a hg), l1, if_pos (by omega), bnd (show f32 (N + 2) 10 (G ++ [(6, 1), (0, 10)] ++ [(6, 1)], zapR (putR (nrR r N) v 1 N) (N + 2), zap (nrM m N) (N + 2)) = _ from h2)]
  dsimp only
  rw [if_pos (gkb_a (gkb_a hg)), if_pos (gkb_a (gkb_a hg)), List.append_assoc]
  rfl
/-- the mending reader (f86) -/
theorem f86_s {G : Gg} {r : Rg} {m : Sg} {v N : Nat} (hN : G.length = N) (hv : ¬ v = 0) (hN0 : ¬ N = 0) (hg : gkb G v 13 = true) : f86 v (G, r, m) = some (G ++ [(6, 1), (0, 10), (6, 1), (0, 50), (6, 1), (0, 50)], putR (nrR (putR (nrR (putR (nrR r N) v 0 N) (N + 2)) v 1 (N + 2)) (N + 4)) v 2 (N + 4), put (nrM (nrM (nrM m N) (N + 2)) (N + 4)) v 3 0) := by
  have h1 := row_n (G := G) (r := r) (m := m) (k := 10) hN hN0 (by omega)
  have l1 : (G ++ [(6, 1), (0, 10)]).length = N + 2 := by rw [List.length_append, hN]; rfl
  have h2 := row_n (G := G ++ [(6, 1), (0, 10)]) (r := putR (nrR r N) v 0 N) (m := nrM m N) (N := N + 2) (k := 50) l1 (by omega) (by omega)
  have l2 : (G ++ [(6, 1), (0, 10)] ++ [(6, 1), (0, 50)]).length = N + 4 := by rw [List.length_append, l1]; rfl
  have h3 := row_n (G := G ++ [(6, 1), (0, 10)] ++ [(6, 1), (0, 50)]) (r := putR (nrR (putR (nrR r N) v 0 N) (N + 2)) v 1 (N + 2)) (m := nrM (nrM m N) (N + 2)) (N := N + 4) (k := 50) l2 (by omega) (by omega)
  unfold f86
  dsimp only
  rw [if_pos hv, hN, if_pos hN0, bnd (show f32 N 10 (G ++ [(6, 1)], zapR r N, zap m N) = _ from h1)]
  dsimp only
  rw [if_pos (gkb_a hg), l1, if_pos (by omega), bnd (show f32 (N + 2) 50 (G ++ [(6, 1), (0, 10)] ++ [(6, 1)], zapR (putR (nrR r N) v 0 N) (N + 2), zap (nrM m N) (N + 2)) = _ from h2)]
  dsimp only
  rw [if_pos (gkb_a (gkb_a hg)), l2, if_pos (by omega), bnd (show f32 (N + 4) 50 (G ++ [(6, 1), (0, 10)] ++ [(6, 1), (0, 50)] ++ [(6, 1)], zapR (putR (nrR (putR (nrR r N) v 0 N) (N + 2)) v 1 (N + 2)) (N + 4), zap (nrM (nrM m N) (N + 2)) (N + 4)) = _ from h3)]
  dsimp only
  rw [if_pos (gkb_a (gkb_a (gkb_a hg))), List.append_assoc, List.append_assoc]
  rfl
