theorem tf226 {G : Gg} {ρ : Rg} {d : Nat} {v0 : Int} {v1 : Int} {m : Sg} {x : Int} (e : f226 G ρ v0 v1 m = some x) (hd : 0 ≤ d) : Ex d 226 0 [(0, v0), (0, v1)] [] (G, ρ, m) (some (0, x), (G, ρ, m)) := by
  unfold f226 at e
  have hm := mi_226
  generalize hk : (some (0, x), (G, ρ, m)) = rr
  replace hk : (Bpi G ρ m) x rr := hk.symm
  refine Ex_run 2 (i' := 2) (L' := [(0, v0), (0, v1)]) (st' := [(0, v1), (0, v0)]) (h' := (G, ρ, m)) hm rfl cjn ?_
  by_cases c1 : v0 < v1
  · replace e := it_p e c1
    refine Ex_if2t (c := 2) (tgt := 5) hm rfl (bt2 c1) ?_
    refine Ex_run 1 (i' := 6) (L' := [(0, v0), (0, v1)]) (st' := [(0, v1)]) (h' := (G, ρ, m)) hm rfl cjn ?_
    cases e
    cases hk
    exact Ex_ret (k := 1) hm rfl ⟨_, rfl, rfl⟩
  · replace e := it_n e c1
    refine Ex_if2f (c := 2) (tgt := 5) hm rfl (bf2 c1) ?_
    refine Ex_run 2 (i' := 6) (L' := [(0, v0), (0, v1)]) (st' := [(0, v0)]) (h' := (G, ρ, m)) hm rfl cjn ?_
    cases e
    cases hk
    exact Ex_ret (k := 1) hm rfl ⟨_, rfl, rfl⟩
theorem tf32_7 {d : Nat} {w0 : Nat} {w1 : Nat} {h : Mh} {x : Mh} (e : f32_7 w0 w1 h = some x) (hd : 1 ≤ d) (rr : Option MV × Mh) (hk : Hv x rr) (j0 : Nat) (j1 : Int) : Ex d 32 7 [(2, ((j0 : Nat) : Int)), (0, j1)] [(2, ((w0 : Nat) : Int)), (2, ((w1 : Nat) : Int))] h rr := by
  unfold f32_7 at e
  have hm := mi_32
  obtain ⟨g4, e⟩ := gd_s e
  obtain ⟨g5, e⟩ := gd_s e
  refine Ex_run 1 (i' := 8) (L' := [(2, ((j0 : Nat) : Int)), (0, j1)]) (st' := []) (h' := (h.1, (putR h.2.1 w1 0 w0), h.2.2)) hm rfl (cjc (gk_b g4) (cjc (nz_i g5) cjn)) ?_
  cases e
  cases hk
  exact Ex_ret (k := 0) hm rfl ⟨rfl, rfl⟩
theorem tf32 {d : Nat} {v0 : Nat} {v1 : Int} {h : Mh} {x : Mh} (e : f32 v0 v1 h = some x) (hd : 1 ≤ d) : Ex d 32 0 [(2, ((v0 : Nat) : Int)), (0, v1)] [] h (none, x) := by
  unfold f32 at e
  have hm := mi_32
  generalize hk : (none, x) = rr
  replace hk : Hv x rr := hk.symm
  refine Ex_run 1 (i' := 1) (L' := [(2, ((v0 : Nat) : Int)), (0, v1)]) (st' := [(2, ((v0 : Nat) : Int))]) (h' := (h.1, h.2.1, h.2.2)) hm rfl cjn ?_
  obtain ⟨g1, e⟩ := gd_s e
  refine Ex_prim (k := 1) (i' := 2) (L' := [(2, ((v0 : Nat) : Int)), (0, v1)]) (st' := []) (h' := (h.1, h.2.1, h.2.2)) hm rfl (by omega) rfl (cjc (nz_i g1) (cjc (Nat.le_of_ble_eq_true rfl) cjn)) ?_
  refine Ex_run 3 (i' := 5) (L' := [(2, ((v0 : Nat) : Int)), (0, v1)]) (st' := [(0, 0), (0, v1), (2, ((v0 : Nat) : Int))]) (h' := (h.1, h.2.1, h.2.2)) hm rfl cjn ?_
  obtain ⟨q2, h2, e⟩ := bn_s e
  refine Ex_callm (z := 226) (na := 2) (ck := 0) (as := [(0, v1), (0, 0)]) (rest := [(2, ((v0 : Nat) : Int))]) (E0 := [(0, v1), (0, 0)]) (v := some (0, q2)) (h1 := (h.1, h.2.1, h.2.2)) hm rfl (by omega) ⟨Nat.le_of_ble_eq_true rfl, Nat.le_of_ble_eq_true rfl⟩ (trivial) rfl rfl ml_226 rfl (Nat.le_of_ble_eq_true rfl) (tf226 h2 (by omega)) ?_
  show Ex d 32 6 [(2, ((v0 : Nat) : Int)), (0, v1)] [(0, q2), (2, ((v0 : Nat) : Int))] (h.1, h.2.1, h.2.2) rr
  obtain ⟨g3, e⟩ := gd_s e
  refine Ex_run 1 (i' := 7) (L' := [(2, ((v0 : Nat) : Int)), (0, v1)]) (st' := [(2, (((List.length h.1) : Nat) : Int)), (2, ((v0 : Nat) : Int))]) (h' := ((h.1 ++ [(0, Int.toNat q2)]), (zapR h.2.1 (List.length h.1)), (zap h.2.2 (List.length h.1)))) hm rfl (cjc g3 cjn) ?_
  exact tf32_7 e hd rr hk _ _
theorem tf37_19 {d : Nat} {w0 : Int} {w1 : Nat} {h : Mh} {x : Mh} (e : f37_19 w0 w1 h = some x) (hd : 2 ≤ d) (rr : Option MV × Mh) (hk : Hv x rr) (j0 : Nat) (j1 : Int) : Ex d 37 19 [(2, ((j0 : Nat) : Int)), (0, j1)] [(0, w0), (2, ((w1 : Nat) : Int))] h rr := by
  unfold f37_19 at e
  have hm := mi_37
  obtain ⟨g8, e⟩ := gd_s e
  refine Ex_run 1 (i' := 20) (L' := [(2, ((j0 : Nat) : Int)), (0, j1)]) (st' := []) (h' := (h.1, h.2.1, (put h.2.2 w1 0 w0))) hm rfl (cjc (gk_b g8) cjn) ?_
  cases e
  cases hk
  exact Ex_ret (k := 0) hm rfl ⟨rfl, rfl⟩
theorem tf37 {d : Nat} {v0 : Nat} {v1 : Int} {h : Mh} {x : Mh} (e : f37 v0 v1 h = some x) (hd : 2 ≤ d) : Ex d 37 0 [(2, ((v0 : Nat) : Int)), (0, v1)] [] h (none, x) := by
  unfold f37 at e
  have hm := mi_37
  generalize hk : (none, x) = rr
  replace hk : Hv x rr := hk.symm
  refine Ex_run 1 (i' := 1) (L' := [(2, ((v0 : Nat) : Int)), (0, v1)]) (st' := [(2, ((v0 : Nat) : Int))]) (h' := (h.1, h.2.1, h.2.2)) hm rfl cjn ?_
  obtain ⟨g1, e⟩ := gd_s e
  refine Ex_prim (k := 1) (i' := 2) (L' := [(2, ((v0 : Nat) : Int)), (0, v1)]) (st' := []) (h' := (h.1, h.2.1, h.2.2)) hm rfl (by omega) rfl (cjc (nz_i g1) (cjc (Nat.le_of_ble_eq_true rfl) cjn)) ?_
  refine Ex_run 4 (i' := 6) (L' := [(2, ((v0 : Nat) : Int)), (0, v1)]) (st' := [(0, 10), (2, (((List.length h.1) : Nat) : Int)), (2, (((List.length h.1) : Nat) : Int)), (2, ((v0 : Nat) : Int))]) (h' := ((h.1 ++ [(6, 1)]), (zapR h.2.1 (List.length h.1)), (zap h.2.2 (List.length h.1)))) hm rfl cjn ?_
  obtain ⟨g2, e⟩ := gd_s e
  obtain ⟨q3, h3, e⟩ := bn_s e
  refine Ex_callm (z := 32) (na := 2) (ck := 1) (as := [(2, (((List.length h.1) : Nat) : Int)), (0, 10)]) (rest := [(2, (((List.length h.1) : Nat) : Int)), (2, ((v0 : Nat) : Int))]) (E0 := [(2, (((List.length h.1) : Nat) : Int)), (0, 10)]) (v := none) (h1 := (q3.1, q3.2.1, q3.2.2)) hm rfl (by omega) ⟨Nat.le_of_ble_eq_true rfl, Nat.le_of_ble_eq_true rfl⟩ (⟨_, rfl, nz_i g2⟩) rfl rfl ml_32 rfl (Nat.le_of_ble_eq_true rfl) (tf32 h3 (by omega)) ?_
  show Ex d 37 7 [(2, ((v0 : Nat) : Int)), (0, v1)] [(2, (((List.length h.1) : Nat) : Int)), (2, ((v0 : Nat) : Int))] (q3.1, q3.2.1, q3.2.2) rr
  obtain ⟨g4, e⟩ := gd_s e
  refine Ex_run 5 (i' := 12) (L' := [(2, ((v0 : Nat) : Int)), (0, v1)]) (st' := [(0, 10), (2, (((List.length q3.1) : Nat) : Int)), (2, (((List.length q3.1) : Nat) : Int)), (2, ((v0 : Nat) : Int))]) (h' := ((q3.1 ++ [(6, 1)]), (zapR (putR q3.2.1 v0 1 (List.length h.1)) (List.length q3.1)), (zap q3.2.2 (List.length q3.1)))) hm rfl (cjc (gk_b g4) (cjc (nz_i g2) cjn)) ?_
  obtain ⟨g5, e⟩ := gd_s e
  obtain ⟨q6, h6, e⟩ := bn_s e
  refine Ex_callm (z := 32) (na := 2) (ck := 1) (as := [(2, (((List.length q3.1) : Nat) : Int)), (0, 10)]) (rest := [(2, (((List.length q3.1) : Nat) : Int)), (2, ((v0 : Nat) : Int))]) (E0 := [(2, (((List.length q3.1) : Nat) : Int)), (0, 10)]) (v := none) (h1 := (q6.1, q6.2.1, q6.2.2)) hm rfl (by omega) ⟨Nat.le_of_ble_eq_true rfl, Nat.le_of_ble_eq_true rfl⟩ (⟨_, rfl, nz_i g5⟩) rfl rfl ml_32 rfl (Nat.le_of_ble_eq_true rfl) (tf32 h6 (by omega)) ?_
  show Ex d 37 13 [(2, ((v0 : Nat) : Int)), (0, v1)] [(2, (((List.length q3.1) : Nat) : Int)), (2, ((v0 : Nat) : Int))] (q6.1, q6.2.1, q6.2.2) rr
  obtain ⟨g7, e⟩ := gd_s e
  refine Ex_run 6 (i' := 19) (L' := [(2, ((v0 : Nat) : Int)), (0, v1)]) (st' := [(0, v1), (2, ((v0 : Nat) : Int))]) (h' := (q6.1, (putR q6.2.1 v0 2 (List.length q3.1)), (put q6.2.2 v0 3 1))) hm rfl (cjc (gk_b g7) (cjc (nz_i g5) (cjc (gk_b g7) cjn))) ?_
  exact tf37_19 e hd rr hk _ _
theorem tf86 {d : Nat} {v0 : Nat} {h : Mh} {x : Mh} (e : f86 v0 h = some x) (hd : 2 ≤ d) : Ex d 86 0 [(2, ((v0 : Nat) : Int))] [] h (none, x) := by
  unfold f86 at e
  have hm := mi_86
  generalize hk : (none, x) = rr
  replace hk : Hv x rr := hk.symm
  refine Ex_run 1 (i' := 1) (L' := [(2, ((v0 : Nat) : Int))]) (st' := [(2, ((v0 : Nat) : Int))]) (h' := (h.1, h.2.1, h.2.2)) hm rfl cjn ?_
  obtain ⟨g1, e⟩ := gd_s e
  refine Ex_prim (k := 1) (i' := 2) (L' := [(2, ((v0 : Nat) : Int))]) (st' := []) (h' := (h.1, h.2.1, h.2.2)) hm rfl (by omega) rfl (cjc (nz_i g1) (cjc (Nat.le_of_ble_eq_true rfl) cjn)) ?_
  refine Ex_run 4 (i' := 6) (L' := [(2, ((v0 : Nat) : Int))]) (st' := [(0, 10), (2, (((List.length h.1) : Nat) : Int)), (2, (((List.length h.1) : Nat) : Int)), (2, ((v0 : Nat) : Int))]) (h' := ((h.1 ++ [(6, 1)]), (zapR h.2.1 (List.length h.1)), (zap h.2.2 (List.length h.1)))) hm rfl cjn ?_
  obtain ⟨g2, e⟩ := gd_s e
  obtain ⟨q3, h3, e⟩ := bn_s e
  refine Ex_callm (z := 32) (na := 2) (ck := 1) (as := [(2, (((List.length h.1) : Nat) : Int)), (0, 10)]) (rest := [(2, (((List.length h.1) : Nat) : Int)), (2, ((v0 : Nat) : Int))]) (E0 := [(2, (((List.length h.1) : Nat) : Int)), (0, 10)]) (v := none) (h1 := (q3.1, q3.2.1, q3.2.2)) hm rfl (by omega) ⟨Nat.le_of_ble_eq_true rfl, Nat.le_of_ble_eq_true rfl⟩ (⟨_, rfl, nz_i g2⟩) rfl rfl ml_32 rfl (Nat.le_of_ble_eq_true rfl) (tf32 h3 (by omega)) ?_
  show Ex d 86 7 [(2, ((v0 : Nat) : Int))] [(2, (((List.length h.1) : Nat) : Int)), (2, ((v0 : Nat) : Int))] (q3.1, q3.2.1, q3.2.2) rr
  obtain ⟨g4, e⟩ := gd_s e
  refine Ex_run 5 (i' := 12) (L' := [(2, ((v0 : Nat) : Int))]) (st' := [(0, 50), (2, (((List.length q3.1) : Nat) : Int)), (2, (((List.length q3.1) : Nat) : Int)), (2, ((v0 : Nat) : Int))]) (h' := ((q3.1 ++ [(6, 1)]), (zapR (putR q3.2.1 v0 0 (List.length h.1)) (List.length q3.1)), (zap q3.2.2 (List.length q3.1)))) hm rfl (cjc (gk_b g4) (cjc (nz_i g2) cjn)) ?_
  obtain ⟨g5, e⟩ := gd_s e
  obtain ⟨q6, h6, e⟩ := bn_s e
  refine Ex_callm (z := 32) (na := 2) (ck := 1) (as := [(2, (((List.length q3.1) : Nat) : Int)), (0, 50)]) (rest := [(2, (((List.length q3.1) : Nat) : Int)), (2, ((v0 : Nat) : Int))]) (E0 := [(2, (((List.length q3.1) : Nat) : Int)), (0, 50)]) (v := none) (h1 := (q6.1, q6.2.1, q6.2.2)) hm rfl (by omega) ⟨Nat.le_of_ble_eq_true rfl, Nat.le_of_ble_eq_true rfl⟩ (⟨_, rfl, nz_i g5⟩) rfl rfl ml_32 rfl (Nat.le_of_ble_eq_true rfl) (tf32 h6 (by omega)) ?_
  show Ex d 86 13 [(2, ((v0 : Nat) : Int))] [(2, (((List.length q3.1) : Nat) : Int)), (2, ((v0 : Nat) : Int))] (q6.1, q6.2.1, q6.2.2) rr
  obtain ⟨g7, e⟩ := gd_s e
  refine Ex_run 5 (i' := 18) (L' := [(2, ((v0 : Nat) : Int))]) (st' := [(0, 50), (2, (((List.length q6.1) : Nat) : Int)), (2, (((List.length q6.1) : Nat) : Int)), (2, ((v0 : Nat) : Int))]) (h' := ((q6.1 ++ [(6, 1)]), (zapR (putR q6.2.1 v0 1 (List.length q3.1)) (List.length q6.1)), (zap q6.2.2 (List.length q6.1)))) hm rfl (cjc (gk_b g7) (cjc (nz_i g5) cjn)) ?_
  obtain ⟨g8, e⟩ := gd_s e
  obtain ⟨q9, h9, e⟩ := bn_s e
  refine Ex_callm (z := 32) (na := 2) (ck := 1) (as := [(2, (((List.length q6.1) : Nat) : Int)), (0, 50)]) (rest := [(2, (((List.length q6.1) : Nat) : Int)), (2, ((v0 : Nat) : Int))]) (E0 := [(2, (((List.length q6.1) : Nat) : Int)), (0, 50)]) (v := none) (h1 := (q9.1, q9.2.1, q9.2.2)) hm rfl (by omega) ⟨Nat.le_of_ble_eq_true rfl, Nat.le_of_ble_eq_true rfl⟩ (⟨_, rfl, nz_i g8⟩) rfl rfl ml_32 rfl (Nat.le_of_ble_eq_true rfl) (tf32 h9 (by omega)) ?_
  show Ex d 86 19 [(2, ((v0 : Nat) : Int))] [(2, (((List.length q6.1) : Nat) : Int)), (2, ((v0 : Nat) : Int))] (q9.1, q9.2.1, q9.2.2) rr
  obtain ⟨g10, e⟩ := gd_s e
  refine Ex_run 4 (i' := 23) (L' := [(2, ((v0 : Nat) : Int))]) (st' := []) (h' := (q9.1, (putR q9.2.1 v0 2 (List.length q6.1)), (put q9.2.2 v0 3 0))) hm rfl (cjc (gk_b g10) (cjc (nz_i g8) (cjc (gk_b g10) cjn))) ?_
  cases e
  cases hk
  exact Ex_ret (k := 0) hm rfl ⟨rfl, rfl⟩
theorem tf0_20 {d : Nat} {v0 : Nat} {v1 : Int} {w0 : Nat} {h : Mh} {x : Mh} (e : f0_20 v0 v1 w0 h = some x) (hd : 3 ≤ d) (rr : Option MV × Mh) (hk : Hv x rr) : Ex d 0 20 [(2, ((v0 : Nat) : Int)), (0, v1)] [(2, ((w0 : Nat) : Int))] h rr := by
  unfold f0_20 at e
  have hm := mi_0
  refine Ex_run 3 (i' := 23) (L' := [(2, ((v0 : Nat) : Int)), (0, v1)]) (st' := [(0, v1), (2, (((List.length h.1) : Nat) : Int)), (2, (((List.length h.1) : Nat) : Int)), (2, ((w0 : Nat) : Int))]) (h' := ((h.1 ++ [(7, 4)]), (zapR h.2.1 (List.length h.1)), (zap h.2.2 (List.length h.1)))) hm rfl cjn ?_
  obtain ⟨g8, e⟩ := gd_s e
  obtain ⟨q9, h9, e⟩ := bn_s e
  refine Ex_callm (z := 37) (na := 2) (ck := 1) (as := [(2, (((List.length h.1) : Nat) : Int)), (0, v1)]) (rest := [(2, (((List.length h.1) : Nat) : Int)), (2, ((w0 : Nat) : Int))]) (E0 := [(2, (((List.length h.1) : Nat) : Int)), (0, v1)]) (v := none) (h1 := (q9.1, q9.2.1, q9.2.2)) hm rfl (by omega) ⟨Nat.le_of_ble_eq_true rfl, Nat.le_of_ble_eq_true rfl⟩ (⟨_, rfl, nz_i g8⟩) rfl rfl ml_37 rfl (Nat.le_of_ble_eq_true rfl) (tf37 h9 (by omega)) ?_
  show Ex d 0 24 [(2, ((v0 : Nat) : Int)), (0, v1)] [(2, (((List.length h.1) : Nat) : Int)), (2, ((w0 : Nat) : Int))] (q9.1, q9.2.1, q9.2.2) rr
  obtain ⟨g10, e⟩ := gd_s e
  refine Ex_run 5 (i' := 29) (L' := [(2, ((v0 : Nat) : Int)), (0, v1)]) (st' := [(0, v1), (2, (((List.length q9.1) : Nat) : Int)), (2, (((List.length q9.1) : Nat) : Int)), (2, ((v0 : Nat) : Int))]) (h' := ((q9.1 ++ [(7, 4)]), (zapR (putR q9.2.1 w0 0 (List.length h.1)) (List.length q9.1)), (zap q9.2.2 (List.length q9.1)))) hm rfl (cjc (gk_b g10) (cjc (nz_i g8) cjn)) ?_
  obtain ⟨g11, e⟩ := gd_s e
  obtain ⟨q12, h12, e⟩ := bn_s e
  refine Ex_callm (z := 37) (na := 2) (ck := 1) (as := [(2, (((List.length q9.1) : Nat) : Int)), (0, v1)]) (rest := [(2, (((List.length q9.1) : Nat) : Int)), (2, ((v0 : Nat) : Int))]) (E0 := [(2, (((List.length q9.1) : Nat) : Int)), (0, v1)]) (v := none) (h1 := (q12.1, q12.2.1, q12.2.2)) hm rfl (by omega) ⟨Nat.le_of_ble_eq_true rfl, Nat.le_of_ble_eq_true rfl⟩ (⟨_, rfl, nz_i g11⟩) rfl rfl ml_37 rfl (Nat.le_of_ble_eq_true rfl) (tf37 h12 (by omega)) ?_
  show Ex d 0 30 [(2, ((v0 : Nat) : Int)), (0, v1)] [(2, (((List.length q9.1) : Nat) : Int)), (2, ((v0 : Nat) : Int))] (q12.1, q12.2.1, q12.2.2) rr
  obtain ⟨g13, e⟩ := gd_s e
  refine Ex_run 1 (i' := 31) (L' := [(2, ((v0 : Nat) : Int)), (0, v1)]) (st' := []) (h' := (q12.1, (putR q12.2.1 v0 1 (List.length q9.1)), q12.2.2)) hm rfl (cjc (gk_b g13) (cjc (nz_i g11) cjn)) ?_
  cases e
  cases hk
  exact Ex_ret (k := 0) hm rfl ⟨rfl, rfl⟩
theorem tf0_18 {d : Nat} {v0 : Nat} {v1 : Int} {w0 : Int} {w1 : Nat} {h : Mh} {x : Mh} (e : f0_18 v0 v1 w0 w1 h = some x) (hd : 3 ≤ d) (rr : Option MV × Mh) (hk : Hv x rr) : Ex d 0 18 [(2, ((v0 : Nat) : Int)), (0, v1)] [(0, w0), (2, ((w1 : Nat) : Int))] h rr := by
  unfold f0_18 at e
  have hm := mi_0
  obtain ⟨g7, e⟩ := gd_s e
  refine Ex_run 2 (i' := 20) (L' := [(2, ((v0 : Nat) : Int)), (0, v1)]) (st' := [(2, ((v0 : Nat) : Int))]) (h' := (h.1, h.2.1, (put h.2.2 w1 6 w0))) hm rfl (cjc (gk_b g7) cjn) ?_
  exact tf0_20 e hd rr hk
theorem tf0_15 {d : Nat} {v0 : Nat} {v1 : Int} {w0 : Int} {w1 : Nat} {h : Mh} {x : Mh} (e : f0_15 v0 v1 w0 w1 h = some x) (hd : 3 ≤ d) (rr : Option MV × Mh) (hk : Hv x rr) : Ex d 0 15 [(2, ((v0 : Nat) : Int)), (0, v1)] [(0, w0), (2, ((w1 : Nat) : Int))] h rr := by
  unfold f0_15 at e
  have hm := mi_0
  obtain ⟨g6, e⟩ := gd_s e
  refine Ex_run 3 (i' := 18) (L' := [(2, ((v0 : Nat) : Int)), (0, v1)]) (st' := [(0, (-1)), (2, ((v0 : Nat) : Int))]) (h' := (h.1, h.2.1, (put h.2.2 w1 5 w0))) hm rfl (cjc (gk_b g6) cjn) ?_
  exact tf0_18 e hd rr hk
theorem tf0_12 {d : Nat} {v0 : Nat} {v1 : Int} {w0 : Int} {w1 : Nat} {h : Mh} {x : Mh} (e : f0_12 v0 v1 w0 w1 h = some x) (hd : 3 ≤ d) (rr : Option MV × Mh) (hk : Hv x rr) : Ex d 0 12 [(2, ((v0 : Nat) : Int)), (0, v1)] [(0, w0), (2, ((w1 : Nat) : Int))] h rr := by
  unfold f0_12 at e
  have hm := mi_0
  obtain ⟨g5, e⟩ := gd_s e
  refine Ex_run 3 (i' := 15) (L' := [(2, ((v0 : Nat) : Int)), (0, v1)]) (st' := [(0, (-1)), (2, ((v0 : Nat) : Int))]) (h' := (h.1, h.2.1, (put h.2.2 w1 4 w0))) hm rfl (cjc (gk_b g5) cjn) ?_
  exact tf0_15 e hd rr hk
theorem tf0 {d : Nat} {v0 : Nat} {v1 : Int} {h : Mh} {x : Mh} (e : f0 v0 v1 h = some x) (hd : 3 ≤ d) : Ex d 0 0 [(2, ((v0 : Nat) : Int)), (0, v1)] [] h (none, x) := by
  unfold f0 at e
  have hm := mi_0
  generalize hk : (none, x) = rr
  replace hk : Hv x rr := hk.symm
  refine Ex_run 1 (i' := 1) (L' := [(2, ((v0 : Nat) : Int)), (0, v1)]) (st' := [(2, ((v0 : Nat) : Int))]) (h' := (h.1, h.2.1, h.2.2)) hm rfl cjn ?_
  obtain ⟨g1, e⟩ := gd_s e
  refine Ex_prim (k := 1) (i' := 2) (L' := [(2, ((v0 : Nat) : Int)), (0, v1)]) (st' := []) (h' := (h.1, h.2.1, h.2.2)) hm rfl (by omega) rfl (cjc (nz_i g1) (cjc (Nat.le_of_ble_eq_true rfl) cjn)) ?_
  refine Ex_run 3 (i' := 5) (L' := [(2, ((v0 : Nat) : Int)), (0, v1)]) (st' := [(2, (((List.length h.1) : Nat) : Int)), (2, (((List.length h.1) : Nat) : Int)), (2, ((v0 : Nat) : Int))]) (h' := ((h.1 ++ [(13, 4)]), (zapR h.2.1 (List.length h.1)), (zap h.2.2 (List.length h.1)))) hm rfl cjn ?_
  obtain ⟨g2, e⟩ := gd_s e
  obtain ⟨q3, h3, e⟩ := bn_s e
  refine Ex_callm (z := 86) (na := 1) (ck := 1) (as := [(2, (((List.length h.1) : Nat) : Int))]) (rest := [(2, (((List.length h.1) : Nat) : Int)), (2, ((v0 : Nat) : Int))]) (E0 := [(2, (((List.length h.1) : Nat) : Int))]) (v := none) (h1 := (q3.1, q3.2.1, q3.2.2)) hm rfl (by omega) ⟨Nat.le_of_ble_eq_true rfl, Nat.le_of_ble_eq_true rfl⟩ (⟨_, rfl, nz_i g2⟩) rfl rfl ml_86 rfl (Nat.le_of_ble_eq_true rfl) (tf86 h3 (by omega)) ?_
  show Ex d 0 6 [(2, ((v0 : Nat) : Int)), (0, v1)] [(2, (((List.length h.1) : Nat) : Int)), (2, ((v0 : Nat) : Int))] (q3.1, q3.2.1, q3.2.2) rr
  obtain ⟨g4, e⟩ := gd_s e
  refine Ex_run 6 (i' := 12) (L' := [(2, ((v0 : Nat) : Int)), (0, v1)]) (st' := [(0, (-1)), (2, ((v0 : Nat) : Int))]) (h' := (q3.1, (putR q3.2.1 v0 2 (List.length h.1)), (put q3.2.2 v0 3 0))) hm rfl (cjc (gk_b g4) (cjc (nz_i g2) (cjc (gk_b g4) (cjc (by decide) cjn)))) ?_
  exact tf0_12 e hd rr hk
theorem tf33 {G : Gg} {ρ : Rg} {d : Nat} {v0 : Nat} {v1 : Int} {m : Sg} {x : Int} (e : f33 G ρ v0 v1 m = some x) (hd : 0 ≤ d) : Ex d 33 0 [(2, ((v0 : Nat) : Int)), (0, v1)] [] (G, ρ, m) (some (0, x), (G, ρ, m)) := by
  unfold f33 at e
  have hm := mi_33
  generalize hk : (some (0, x), (G, ρ, m)) = rr
  replace hk : (Bpi G ρ m) x rr := hk.symm
  refine Ex_run 1 (i' := 1) (L' := [(2, ((v0 : Nat) : Int)), (0, v1)]) (st' := [(0, v1)]) (h' := (G, ρ, m)) hm rfl cjn ?_
  by_cases c1 : v1 < 0
  · replace e := it_p e c1
    refine Ex_if1t (c := 2) (tgt := 12) hm rfl (bt2 c1) ?_
    refine Ex_run 1 (i' := 13) (L' := [(2, ((v0 : Nat) : Int)), (0, v1)]) (st' := [(0, 0)]) (h' := (G, ρ, m)) hm rfl cjn ?_
    cases e
    cases hk
    exact Ex_ret (k := 1) hm rfl ⟨_, rfl, rfl⟩
  · replace e := it_n e c1
    refine Ex_if1f (c := 2) (tgt := 12) hm rfl (bf2 c1) ?_
    obtain ⟨g2, e⟩ := gd_s e
    obtain ⟨g3, e⟩ := gd_s e
    refine Ex_run 4 (i' := 6) (L' := [(2, ((v0 : Nat) : Int)), (0, v1)]) (st' := [(0, (gl G (ρ v0 0))), (0, v1)]) (h' := (G, ρ, m)) hm rfl (cjc (gk_b g2) (cjc (gk_b g3) cjn)) ?_
    by_cases c4 : v1 < (gl G (ρ v0 0))
    · replace e := it_p e c4
      refine Ex_if2f (c := 3) (tgt := 12) hm rfl (bf3 c4) ?_
      obtain ⟨g5, e⟩ := gd_s e
      refine Ex_run 5 (i' := 13) (L' := [(2, ((v0 : Nat) : Int)), (0, v1)]) (st' := [(0, (m (ρ v0 0) v1))]) (h' := (G, ρ, m)) hm rfl (cjc (gk_b g2) (cjc (gk_b g3) (cjc g5 cjn))) ?_
      cases e
      cases hk
      exact Ex_ret (k := 1) hm rfl ⟨_, rfl, rfl⟩
    · replace e := it_n e c4
      refine Ex_if2t (c := 3) (tgt := 12) hm rfl (bt3 c4) ?_
      refine Ex_run 1 (i' := 13) (L' := [(2, ((v0 : Nat) : Int)), (0, v1)]) (st' := [(0, 0)]) (h' := (G, ρ, m)) hm rfl cjn ?_
      cases e
      cases hk
      exact Ex_ret (k := 1) hm rfl ⟨_, rfl, rfl⟩
theorem tf34 {G : Gg} {ρ : Rg} {d : Nat} {v0 : Nat} {v1 : Int} {v2 : Int} {m : Sg} {x : Sg} (e : f34 G ρ v0 v1 v2 m = some x) (hd : 0 ≤ d) : Ex d 34 0 [(2, ((v0 : Nat) : Int)), (0, v1), (0, v2)] [] (G, ρ, m) (none, (G, ρ, x)) := by
  unfold f34 at e
  have hm := mi_34
  generalize hk : (none, (G, ρ, x)) = rr
  replace hk : (Bv G ρ) x rr := hk.symm
  refine Ex_run 1 (i' := 1) (L' := [(2, ((v0 : Nat) : Int)), (0, v1), (0, v2)]) (st' := [(0, v1)]) (h' := (G, ρ, m)) hm rfl cjn ?_
  by_cases c1 : v1 < 0
  · replace e := it_p e c1
    refine Ex_if1t (c := 2) (tgt := 12) hm rfl (bt2 c1) ?_
    cases e
    cases hk
    exact Ex_ret (k := 0) hm rfl ⟨rfl, rfl⟩
  · replace e := it_n e c1
    refine Ex_if1f (c := 2) (tgt := 12) hm rfl (bf2 c1) ?_
    obtain ⟨g2, e⟩ := gd_s e
    obtain ⟨g3, e⟩ := gd_s e
    refine Ex_run 4 (i' := 6) (L' := [(2, ((v0 : Nat) : Int)), (0, v1), (0, v2)]) (st' := [(0, (gl G (ρ v0 0))), (0, v1)]) (h' := (G, ρ, m)) hm rfl (cjc (gk_b g2) (cjc (gk_b g3) cjn)) ?_
    by_cases c4 : v1 < (gl G (ρ v0 0))
    · replace e := it_p e c4
      refine Ex_if2f (c := 3) (tgt := 12) hm rfl (bf3 c4) ?_
      obtain ⟨g5, e⟩ := gd_s e
      refine Ex_run 5 (i' := 12) (L' := [(2, ((v0 : Nat) : Int)), (0, v1), (0, v2)]) (st' := []) (h' := (G, ρ, (put m (ρ v0 0) v1 v2))) hm rfl (cjc (gk_b g2) (cjc (gk_b g3) (cjc g5 cjn))) ?_
      cases e
      cases hk
      exact Ex_ret (k := 0) hm rfl ⟨rfl, rfl⟩
    · replace e := it_n e c4
      refine Ex_if2t (c := 3) (tgt := 12) hm rfl (bt3 c4) ?_
      cases e
      cases hk
      exact Ex_ret (k := 0) hm rfl ⟨rfl, rfl⟩
theorem tf35_b2 {G : Gg} {ρ : Rg} {d : Nat} {v0 : Nat} {v1 : Int} {s : Int × Sg} {x : (Int × Sg) ⊕ (Sg)} (e : f35_b2 G ρ v0 v1 s = some x) (hd : 0 ≤ d) (rr : Option MV × Mh) (hk : (DS (e35_2 G ρ d v0 v1) (Bv G ρ)) x rr) : e35_2 G ρ d v0 v1 s rr := by
  unfold f35_b2 at e
  have hm := mi_35
  show Ex d 35 2 [(2, ((v0 : Nat) : Int)), (0, v1), (0, s.1)] [] (G, ρ, s.2) rr
  obtain ⟨g1, e⟩ := gd_s e
  obtain ⟨g2, e⟩ := gd_s e
  refine Ex_run 4 (i' := 6) (L' := [(2, ((v0 : Nat) : Int)), (0, v1), (0, s.1)]) (st' := [(0, (gl G (ρ v0 0))), (0, s.1)]) (h' := (G, ρ, s.2)) hm rfl (cjc (gk_b g1) (cjc (gk_b g2) cjn)) ?_
  by_cases c3 : s.1 < (gl G (ρ v0 0))
  · replace e := it_p e c3
    refine Ex_if2f (c := 3) (tgt := 14) hm rfl (bf3 c3) ?_
    obtain ⟨g4, e⟩ := gd_s e
    refine Ex_run 7 (i' := 2) (L' := [(2, ((v0 : Nat) : Int)), (0, v1), (0, (w32 (s.1 + 1)))]) (st' := []) (h' := (G, ρ, (put s.2 (ρ v0 0) s.1 v1))) hm rfl (cjc (gk_b g1) (cjc (gk_b g2) (cjc g4 cjn))) ?_
    cases e
    exact hk
  · replace e := it_n e c3
    refine Ex_if2t (c := 3) (tgt := 14) hm rfl (bt3 c3) ?_
    obtain ⟨x, e, hx⟩ := xr_s e
    replace hk : (Bv G ρ) x rr := by rw [hx] at hk; exact hk
    cases e
    cases hk
    exact Ex_ret (k := 0) hm rfl ⟨rfl, rfl⟩
theorem tf35 {G : Gg} {ρ : Rg} {d : Nat} {v0 : Nat} {v1 : Int} {m : Sg} {x : Sg} (e : f35 G ρ v0 v1 m = some x) (hd : 0 ≤ d) : Ex d 35 0 [(2, ((v0 : Nat) : Int)), (0, v1), (9, 0)] [] (G, ρ, m) (none, (G, ρ, x)) := by
  unfold f35 at e
  have hm := mi_35
  generalize hk : (none, (G, ρ, x)) = rr
  replace hk : (Bv G ρ) x rr := hk.symm
  refine Ex_run 2 (i' := 2) (L' := [(2, ((v0 : Nat) : Int)), (0, v1), (0, 0)]) (st' := []) (h' := (G, ρ, m)) hm rfl (cjc (Nat.le_of_ble_eq_true rfl) cjn) ?_
  exact (Ex_lp (A := e35_2 G ρ d v0 v1 ) (B := (Bv G ρ)) (fun s x e rr hk => tf35_b2 e hd rr hk) FU _ _ e rr hk)
theorem tf39 {G : Gg} {ρ : Rg} {d : Nat} {v0 : Nat} {v1 : Int} {m : Sg} {x : Int} (e : f39 G ρ v0 v1 m = some x) (hd : 0 ≤ d) : Ex d 39 0 [(2, ((v0 : Nat) : Int)), (0, v1)] [] (G, ρ, m) (some (0, x), (G, ρ, m)) := by
  unfold f39 at e
  have hm := mi_39
  generalize hk : (some (0, x), (G, ρ, m)) = rr
  replace hk : (Bpi G ρ m) x rr := hk.symm
  refine Ex_run 2 (i' := 2) (L' := [(2, ((v0 : Nat) : Int)), (0, v1)]) (st' := [(0, 1), (0, v1)]) (h' := (G, ρ, m)) hm rfl cjn ?_
  by_cases c1 : v1 < 1
  · replace e := it_p e c1
    refine Ex_if2t (c := 2) (tgt := 18) hm rfl (bt2 c1) ?_
    refine Ex_run 1 (i' := 19) (L' := [(2, ((v0 : Nat) : Int)), (0, v1)]) (st' := [(0, 0)]) (h' := (G, ρ, m)) hm rfl cjn ?_
    cases e
    cases hk
    exact Ex_ret (k := 2) hm rfl ⟨_, rfl, by decide, rfl⟩
  · replace e := it_n e c1
    refine Ex_if2f (c := 2) (tgt := 18) hm rfl (bf2 c1) ?_
    refine Ex_run 2 (i' := 5) (L' := [(2, ((v0 : Nat) : Int)), (0, v1)]) (st' := [(0, 5), (0, v1)]) (h' := (G, ρ, m)) hm rfl cjn ?_
    by_cases c2 : 5 < v1
    · replace e := it_p e c2
      refine Ex_if2t (c := 4) (tgt := 18) hm rfl (bt4 c2) ?_
      refine Ex_run 1 (i' := 19) (L' := [(2, ((v0 : Nat) : Int)), (0, v1)]) (st' := [(0, 0)]) (h' := (G, ρ, m)) hm rfl cjn ?_
      cases e
      cases hk
      exact Ex_ret (k := 2) hm rfl ⟨_, rfl, by decide, rfl⟩
    · replace e := it_n e c2
      refine Ex_if2f (c := 4) (tgt := 18) hm rfl (bf4 c2) ?_
      obtain ⟨g3, e⟩ := gd_s e
      refine Ex_run 9 (i' := 15) (L' := [(2, ((v0 : Nat) : Int)), (0, v1)]) (st' := [(0, 1), (0, (g_and (g_shr (m v0 3) (g_sub v1 1)) 1))]) (h' := (G, ρ, m)) hm rfl (cjc (gk_b g3) cjn) ?_
      by_cases c4 : (g_and (g_shr (m v0 3) (g_sub v1 1)) 1) = 1
      · replace e := it_p e c4
        refine Ex_if2f (c := 1) (tgt := 18) hm rfl (bf1 c4) ?_
        refine Ex_run 2 (i' := 19) (L' := [(2, ((v0 : Nat) : Int)), (0, v1)]) (st' := [(0, 1)]) (h' := (G, ρ, m)) hm rfl cjn ?_
        cases e
        cases hk
        exact Ex_ret (k := 2) hm rfl ⟨_, rfl, by decide, rfl⟩
      · replace e := it_n e c4
        refine Ex_if2t (c := 1) (tgt := 18) hm rfl (bt1 c4) ?_
        refine Ex_run 1 (i' := 19) (L' := [(2, ((v0 : Nat) : Int)), (0, v1)]) (st' := [(0, 0)]) (h' := (G, ρ, m)) hm rfl cjn ?_
        cases e
        cases hk
        exact Ex_ret (k := 2) hm rfl ⟨_, rfl, by decide, rfl⟩
theorem tf46 {G : Gg} {ρ : Rg} {d : Nat} {v0 : Nat} {v1 : Int} {m : Sg} {x : Int} (e : f46 G ρ v0 v1 m = some x) (hd : 0 ≤ d) : Ex d 46 0 [(2, ((v0 : Nat) : Int)), (0, v1), (9, 0)] [] (G, ρ, m) (some (0, x), (G, ρ, m)) := by
  unfold f46 at e
  have hm := mi_46
  generalize hk : (some (0, x), (G, ρ, m)) = rr
  replace hk : (Bpi G ρ m) x rr := hk.symm
  obtain ⟨g1, e⟩ := gd_s e
  refine Ex_run 2 (i' := 2) (L' := [(2, ((v0 : Nat) : Int)), (0, v1), (9, 0)]) (st' := [(0, (m v0 0))]) (h' := (G, ρ, m)) hm rfl (cjc (gk_b g1) cjn) ?_
  by_cases c2 : 0 < (m v0 0)
  · replace e := it_p e c2
    refine Ex_if1t (c := 4) (tgt := 5) hm rfl (bt4 c2) ?_
    obtain ⟨g3, e⟩ := gd_s e
    refine Ex_run 6 (i' := 11) (L' := [(2, ((v0 : Nat) : Int)), (0, v1), (0, (g_rem v1 (m v0 0)))]) (st' := [(0, (g_rem v1 (m v0 0)))]) (h' := (G, ρ, m)) hm rfl (cjc (gk_b g1) (cjc g3 (cjc (Nat.le_of_ble_eq_true rfl) cjn))) ?_
    by_cases c4 : (g_rem v1 (m v0 0)) < 0
    · replace e := it_p e c4
      refine Ex_if1f (c := 3) (tgt := 17) hm rfl (bf3 c4) ?_
      refine Ex_run 5 (i' := 18) (L' := [(2, ((v0 : Nat) : Int)), (0, v1), (0, (g_rem v1 (m v0 0)))]) (st' := [(0, (g_add (g_rem v1 (m v0 0)) (m v0 0)))]) (h' := (G, ρ, m)) hm rfl (cjc (gk_b g1) cjn) ?_
      cases e
      cases hk
      exact Ex_ret (k := 1) hm rfl ⟨_, rfl, rfl⟩
    · replace e := it_n e c4
      refine Ex_if1t (c := 3) (tgt := 17) hm rfl (bt3 c4) ?_
      refine Ex_run 1 (i' := 18) (L' := [(2, ((v0 : Nat) : Int)), (0, v1), (0, (g_rem v1 (m v0 0)))]) (st' := [(0, (g_rem v1 (m v0 0)))]) (h' := (G, ρ, m)) hm rfl cjn ?_
      cases e
      cases hk
      exact Ex_ret (k := 1) hm rfl ⟨_, rfl, rfl⟩
  · replace e := it_n e c2
    refine Ex_if1f (c := 4) (tgt := 5) hm rfl (bf4 c2) ?_
    refine Ex_run 1 (i' := 4) (L' := [(2, ((v0 : Nat) : Int)), (0, v1), (9, 0)]) (st' := [(0, 0)]) (h' := (G, ρ, m)) hm rfl cjn ?_
    cases e
    cases hk
    exact Ex_ret (k := 1) hm rfl ⟨_, rfl, rfl⟩
theorem tf43 {G : Gg} {ρ : Rg} {d : Nat} {v0 : Nat} {v1 : Int} {v2 : Int} {m : Sg} {x : Int} (e : f43 G ρ v0 v1 v2 m = some x) (hd : 1 ≤ d) : Ex d 43 0 [(2, ((v0 : Nat) : Int)), (0, v1), (0, v2), (9, 0)] [] (G, ρ, m) (some (0, x), (G, ρ, m)) := by
  unfold f43 at e
  have hm := mi_43
  generalize hk : (some (0, x), (G, ρ, m)) = rr
  replace hk : (Bpi G ρ m) x rr := hk.symm
  refine Ex_run 4 (i' := 4) (L' := [(2, ((v0 : Nat) : Int)), (0, v1), (0, v2), (9, 0)]) (st' := [(0, (g_add v1 v2)), (2, ((v0 : Nat) : Int))]) (h' := (G, ρ, m)) hm rfl cjn ?_
  obtain ⟨g1, e⟩ := gd_s e
  obtain ⟨q2, h2, e⟩ := bn_s e
  refine Ex_callm (z := 46) (na := 2) (ck := 7) (as := [(2, ((v0 : Nat) : Int)), (0, (g_add v1 v2))]) (rest := []) (E0 := [(2, ((v0 : Nat) : Int)), (0, (g_add v1 v2)), (9, 0)]) (v := some (0, q2)) (h1 := (G, ρ, m)) hm rfl (by omega) ⟨Nat.le_of_ble_eq_true rfl, Nat.le_of_ble_eq_true rfl⟩ (rc2 rfl g1) rfl rfl ml_46 rfl (Nat.le_of_ble_eq_true rfl) (tf46 h2 (by omega)) ?_
  show Ex d 43 5 [(2, ((v0 : Nat) : Int)), (0, v1), (0, v2), (9, 0)] [(0, q2)] (G, ρ, m) rr
  refine Ex_run 4 (i' := 9) (L' := [(2, ((v0 : Nat) : Int)), (0, v1), (0, v2), (0, q2)]) (st' := [(0, q2), (2, (((ρ v0 1) : Nat) : Int))]) (h' := (G, ρ, m)) hm rfl (cjc (Nat.le_of_ble_eq_true rfl) (cjc (gk_b g1) cjn)) ?_
  obtain ⟨g3, e⟩ := gd_s e
  obtain ⟨q4, h4, e⟩ := bn_s e
  refine Ex_callm (z := 33) (na := 2) (ck := 6) (as := [(2, (((ρ v0 1) : Nat) : Int)), (0, q2)]) (rest := []) (E0 := [(2, (((ρ v0 1) : Nat) : Int)), (0, q2)]) (v := some (0, q4)) (h1 := (G, ρ, m)) hm rfl (by omega) ⟨Nat.le_of_ble_eq_true rfl, Nat.le_of_ble_eq_true rfl⟩ (rc2 rfl g3) rfl rfl ml_33 rfl (Nat.le_of_ble_eq_true rfl) (tf33 h4 (by omega)) ?_
  show Ex d 43 10 [(2, ((v0 : Nat) : Int)), (0, v1), (0, v2), (0, q2)] [(0, q4)] (G, ρ, m) rr
  by_cases c5 : q4 = 1
  · replace e := it_p e c5
    refine Ex_sw (lo := 1) (tg := [11, 13, 15, 11, 17]) (df := 27) hm rfl 0 rfl c5 ?_
    refine Ex_run 1 (i' := 12) (L' := [(2, ((v0 : Nat) : Int)), (0, v1), (0, v2), (0, q2)]) (st' := [(0, 1)]) (h' := (G, ρ, m)) hm rfl cjn ?_
    cases e
    cases hk
    exact Ex_ret (k := 1) hm rfl ⟨_, rfl, rfl⟩
  · replace e := it_n e c5
    by_cases c6 : q4 = 2
    · replace e := it_p e c6
      refine Ex_sw (lo := 1) (tg := [11, 13, 15, 11, 17]) (df := 27) hm rfl 1 rfl c6 ?_
      refine Ex_run 1 (i' := 14) (L' := [(2, ((v0 : Nat) : Int)), (0, v1), (0, v2), (0, q2)]) (st' := [(0, 3)]) (h' := (G, ρ, m)) hm rfl cjn ?_
      cases e
      cases hk
      exact Ex_ret (k := 1) hm rfl ⟨_, rfl, rfl⟩
    · replace e := it_n e c6
      by_cases c7 : q4 = 3
      · replace e := it_p e c7
        refine Ex_sw (lo := 1) (tg := [11, 13, 15, 11, 17]) (df := 27) hm rfl 2 rfl c7 ?_
        refine Ex_run 1 (i' := 16) (L' := [(2, ((v0 : Nat) : Int)), (0, v1), (0, v2), (0, q2)]) (st' := [(0, 2)]) (h' := (G, ρ, m)) hm rfl cjn ?_
        cases e
        cases hk
        exact Ex_ret (k := 1) hm rfl ⟨_, rfl, rfl⟩
      · replace e := it_n e c7
        by_cases c8 : q4 = 4
        · replace e := it_p e c8
          refine Ex_sw (lo := 1) (tg := [11, 13, 15, 11, 17]) (df := 27) hm rfl 3 rfl c8 ?_
          refine Ex_run 1 (i' := 12) (L' := [(2, ((v0 : Nat) : Int)), (0, v1), (0, v2), (0, q2)]) (st' := [(0, 1)]) (h' := (G, ρ, m)) hm rfl cjn ?_
          cases e
          cases hk
          exact Ex_ret (k := 1) hm rfl ⟨_, rfl, rfl⟩
        · replace e := it_n e c8
          by_cases c9 : q4 = 5
          · replace e := it_p e c9
            refine Ex_sw (lo := 1) (tg := [11, 13, 15, 11, 17]) (df := 27) hm rfl 4 rfl c9 ?_
            refine Ex_run 4 (i' := 21) (L' := [(2, ((v0 : Nat) : Int)), (0, v1), (0, v2), (0, q2)]) (st' := [(0, q2), (2, (((ρ v0 2) : Nat) : Int)), (0, v2)]) (h' := (G, ρ, m)) hm rfl (cjc (gk_b g1) cjn) ?_
            obtain ⟨g10, e⟩ := gd_s e
            obtain ⟨q11, h11, e⟩ := bn_s e
            refine Ex_callm (z := 33) (na := 2) (ck := 6) (as := [(2, (((ρ v0 2) : Nat) : Int)), (0, q2)]) (rest := [(0, v2)]) (E0 := [(2, (((ρ v0 2) : Nat) : Int)), (0, q2)]) (v := some (0, q11)) (h1 := (G, ρ, m)) hm rfl (by omega) ⟨Nat.le_of_ble_eq_true rfl, Nat.le_of_ble_eq_true rfl⟩ (rc2 rfl g10) rfl rfl ml_33 rfl (Nat.le_of_ble_eq_true rfl) (tf33 h11 (by omega)) ?_
            show Ex d 43 22 [(2, ((v0 : Nat) : Int)), (0, v1), (0, v2), (0, q2)] [(0, q11), (0, v2)] (G, ρ, m) rr
            by_cases c12 : q11 < v2
            · replace e := it_p e c12
              refine Ex_if2f (c := 5) (tgt := 25) hm rfl (bf5 c12) ?_
              refine Ex_run 2 (i' := 26) (L' := [(2, ((v0 : Nat) : Int)), (0, v1), (0, v2), (0, q2)]) (st' := [(0, 2)]) (h' := (G, ρ, m)) hm rfl cjn ?_
              cases e
              cases hk
              exact Ex_ret (k := 1) hm rfl ⟨_, rfl, rfl⟩
            · replace e := it_n e c12
              refine Ex_if2t (c := 5) (tgt := 25) hm rfl (bt5 c12) ?_
              refine Ex_run 1 (i' := 26) (L' := [(2, ((v0 : Nat) : Int)), (0, v1), (0, v2), (0, q2)]) (st' := [(0, 0)]) (h' := (G, ρ, m)) hm rfl cjn ?_
              cases e
              cases hk
              exact Ex_ret (k := 1) hm rfl ⟨_, rfl, rfl⟩
          · replace e := it_n e c9
            refine Ex_swd (lo := 1) (tg := [11, 13, 15, 11, 17]) (df := 27) hm rfl (swk_d ⟨Or.inr c5, Or.inr c6, Or.inr c7, Or.inr c8, Or.inr c9, trivial⟩) ?_
            refine Ex_run 1 (i' := 28) (L' := [(2, ((v0 : Nat) : Int)), (0, v1), (0, v2), (0, q2)]) (st' := [(0, 0)]) (h' := (G, ρ, m)) hm rfl cjn ?_
            cases e
            cases hk
            exact Ex_ret (k := 1) hm rfl ⟨_, rfl, rfl⟩
theorem tf44 {G : Gg} {ρ : Rg} {d : Nat} {v0 : Nat} {v1 : Int} {v2 : Int} {m : Sg} {x : Int} (e : f44 G ρ v0 v1 v2 m = some x) (hd : 1 ≤ d) : Ex d 44 0 [(2, ((v0 : Nat) : Int)), (0, v1), (0, v2), (9, 0)] [] (G, ρ, m) (some (0, x), (G, ρ, m)) := by
  unfold f44 at e
  have hm := mi_44
  generalize hk : (some (0, x), (G, ρ, m)) = rr
  replace hk : (Bpi G ρ m) x rr := hk.symm
  refine Ex_run 4 (i' := 4) (L' := [(2, ((v0 : Nat) : Int)), (0, v1), (0, v2), (9, 0)]) (st' := [(0, (g_add v1 v2)), (2, ((v0 : Nat) : Int))]) (h' := (G, ρ, m)) hm rfl cjn ?_
  obtain ⟨g1, e⟩ := gd_s e
  obtain ⟨q2, h2, e⟩ := bn_s e
  refine Ex_callm (z := 46) (na := 2) (ck := 7) (as := [(2, ((v0 : Nat) : Int)), (0, (g_add v1 v2))]) (rest := []) (E0 := [(2, ((v0 : Nat) : Int)), (0, (g_add v1 v2)), (9, 0)]) (v := some (0, q2)) (h1 := (G, ρ, m)) hm rfl (by omega) ⟨Nat.le_of_ble_eq_true rfl, Nat.le_of_ble_eq_true rfl⟩ (rc2 rfl g1) rfl rfl ml_46 rfl (Nat.le_of_ble_eq_true rfl) (tf46 h2 (by omega)) ?_
  show Ex d 44 5 [(2, ((v0 : Nat) : Int)), (0, v1), (0, v2), (9, 0)] [(0, q2)] (G, ρ, m) rr
  refine Ex_run 4 (i' := 9) (L' := [(2, ((v0 : Nat) : Int)), (0, v1), (0, v2), (0, q2)]) (st' := [(0, q2), (2, (((ρ v0 1) : Nat) : Int))]) (h' := (G, ρ, m)) hm rfl (cjc (Nat.le_of_ble_eq_true rfl) (cjc (gk_b g1) cjn)) ?_
  obtain ⟨g3, e⟩ := gd_s e
  obtain ⟨q4, h4, e⟩ := bn_s e
  refine Ex_callm (z := 33) (na := 2) (ck := 6) (as := [(2, (((ρ v0 1) : Nat) : Int)), (0, q2)]) (rest := []) (E0 := [(2, (((ρ v0 1) : Nat) : Int)), (0, q2)]) (v := some (0, q4)) (h1 := (G, ρ, m)) hm rfl (by omega) ⟨Nat.le_of_ble_eq_true rfl, Nat.le_of_ble_eq_true rfl⟩ (rc2 rfl g3) rfl rfl ml_33 rfl (Nat.le_of_ble_eq_true rfl) (tf33 h4 (by omega)) ?_
  show Ex d 44 10 [(2, ((v0 : Nat) : Int)), (0, v1), (0, v2), (0, q2)] [(0, q4)] (G, ρ, m) rr
  refine Ex_run 1 (i' := 11) (L' := [(2, ((v0 : Nat) : Int)), (0, v1), (0, v2), (0, q2)]) (st' := [(0, 4), (0, q4)]) (h' := (G, ρ, m)) hm rfl cjn ?_
  by_cases c5 : q4 = 4
  · replace e := it_p e c5
    refine Ex_if2f (c := 1) (tgt := 21) hm rfl (bf1 c5) ?_
    refine Ex_run 5 (i' := 17) (L' := [(2, ((v0 : Nat) : Int)), (0, v1), (0, v2), (0, q2)]) (st' := [(0, q2), (2, (((ρ v0 2) : Nat) : Int)), (0, q2), (2, ((v0 : Nat) : Int))]) (h' := (G, ρ, m)) hm rfl (cjc (gk_b g1) cjn) ?_
    obtain ⟨g6, e⟩ := gd_s e
    obtain ⟨q7, h7, e⟩ := bn_s e
    refine Ex_callm (z := 33) (na := 2) (ck := 6) (as := [(2, (((ρ v0 2) : Nat) : Int)), (0, q2)]) (rest := [(0, q2), (2, ((v0 : Nat) : Int))]) (E0 := [(2, (((ρ v0 2) : Nat) : Int)), (0, q2)]) (v := some (0, q7)) (h1 := (G, ρ, m)) hm rfl (by omega) ⟨Nat.le_of_ble_eq_true rfl, Nat.le_of_ble_eq_true rfl⟩ (rc2 rfl g6) rfl rfl ml_33 rfl (Nat.le_of_ble_eq_true rfl) (tf33 h7 (by omega)) ?_
    show Ex d 44 18 [(2, ((v0 : Nat) : Int)), (0, v1), (0, v2), (0, q2)] [(0, q7), (0, q2), (2, ((v0 : Nat) : Int))] (G, ρ, m) rr
    refine Ex_run 1 (i' := 19) (L' := [(2, ((v0 : Nat) : Int)), (0, v1), (0, v2), (0, q2)]) (st' := [(0, (g_sub q2 q7)), (2, ((v0 : Nat) : Int))]) (h' := (G, ρ, m)) hm rfl cjn ?_
    obtain ⟨q8, h8, e⟩ := bn_s e
    refine Ex_callm (z := 46) (na := 2) (ck := 7) (as := [(2, ((v0 : Nat) : Int)), (0, (g_sub q2 q7))]) (rest := []) (E0 := [(2, ((v0 : Nat) : Int)), (0, (g_sub q2 q7)), (9, 0)]) (v := some (0, q8)) (h1 := (G, ρ, m)) hm rfl (by omega) ⟨Nat.le_of_ble_eq_true rfl, Nat.le_of_ble_eq_true rfl⟩ (rc2 rfl g1) rfl rfl ml_46 rfl (Nat.le_of_ble_eq_true rfl) (tf46 h8 (by omega)) ?_
    show Ex d 44 20 [(2, ((v0 : Nat) : Int)), (0, v1), (0, v2), (0, q2)] [(0, q8)] (G, ρ, m) rr
    refine Ex_run 1 (i' := 22) (L' := [(2, ((v0 : Nat) : Int)), (0, v1), (0, v2), (0, q2)]) (st' := [(0, q8)]) (h' := (G, ρ, m)) hm rfl cjn ?_
    cases e
    cases hk
    exact Ex_ret (k := 1) hm rfl ⟨_, rfl, rfl⟩
  · replace e := it_n e c5
    refine Ex_if2t (c := 1) (tgt := 21) hm rfl (bt1 c5) ?_
    refine Ex_run 1 (i' := 22) (L' := [(2, ((v0 : Nat) : Int)), (0, v1), (0, v2), (0, q2)]) (st' := [(0, q2)]) (h' := (G, ρ, m)) hm rfl cjn ?_
    cases e
    cases hk
    exact Ex_ret (k := 1) hm rfl ⟨_, rfl, rfl⟩
theorem tf91 {G : Gg} {ρ : Rg} {d : Nat} {v0 : Int} {v1 : Int} {m : Sg} {x : Int} (e : f91 G ρ v0 v1 m = some x) (hd : 0 ≤ d) : Ex d 91 0 [(0, v0), (0, v1)] [] (G, ρ, m) (some (0, x), (G, ρ, m)) := by
  unfold f91 at e
  have hm := mi_91
  generalize hk : (some (0, x), (G, ρ, m)) = rr
  replace hk : (Bpi G ρ m) x rr := hk.symm
  refine Ex_run 7 (i' := 7) (L' := [(0, v0), (0, v1)]) (st' := [(0, (g_sub (g_add (g_mul v0 5) v1) 1))]) (h' := (G, ρ, m)) hm rfl cjn ?_
  cases e
  cases hk
  exact Ex_ret (k := 1) hm rfl ⟨_, rfl, rfl⟩
theorem tf92_30 {G : Gg} {ρ : Rg} {d : Nat} {v0 : Nat} {v1 : Nat} {v2 : Int} {v3 : Int} {w0 : Int} {w1 : Int} {w2 : Nat} {m : Sg} {x : (Int × Sg) ⊕ ((Int × Sg) ⊕ (Sg))} (e : f92_30 G ρ v0 v1 v2 v3 w0 w1 w2 m = some x) (hd : 2 ≤ d) (rr : Option MV × Mh) (hk : (DS (e92_12 G ρ d v0 v1 v2) (DS (e92_6 G ρ d v0 v1) (Bv G ρ))) x rr) : Ex d 92 30 [(2, ((v0 : Nat) : Int)), (2, ((v1 : Nat) : Int)), (0, v2), (0, v3)] [(0, w0), (0, w1), (2, ((w2 : Nat) : Int))] (G, ρ, m) rr := by
  unfold f92_30 at e
  have hm := mi_92
  obtain ⟨g11, e⟩ := gd_s e
  obtain ⟨q12, h12, e⟩ := bn_s e
  refine Ex_callm (z := 34) (na := 3) (ck := 6) (as := [(2, ((w2 : Nat) : Int)), (0, w1), (0, w0)]) (rest := []) (E0 := [(2, ((w2 : Nat) : Int)), (0, w1), (0, w0)]) (v := none) (h1 := (G, ρ, q12)) hm rfl (by omega) ⟨Nat.le_of_ble_eq_true rfl, Nat.le_of_ble_eq_true rfl⟩ (rc2 rfl g11) rfl rfl ml_34 rfl (Nat.le_of_ble_eq_true rfl) (tf34 h12 (by omega)) ?_
  show Ex d 92 31 [(2, ((v0 : Nat) : Int)), (2, ((v1 : Nat) : Int)), (0, v2), (0, v3)] [] (G, ρ, q12) rr
  obtain ⟨g13, e⟩ := gd_s e
  refine Ex_run 4 (i' := 35) (L' := [(2, ((v0 : Nat) : Int)), (2, ((v1 : Nat) : Int)), (0, v2), (0, v3)]) (st' := [(0, v3), (0, v2), (2, (((ρ v0 2) : Nat) : Int))]) (h' := (G, ρ, q12)) hm rfl (cjc (gk_b g13) cjn) ?_
  obtain ⟨q14, h14, e⟩ := bn_s e
  refine Ex_callm (z := 91) (na := 2) (ck := 0) (as := [(0, v2), (0, v3)]) (rest := [(2, (((ρ v0 2) : Nat) : Int))]) (E0 := [(0, v2), (0, v3)]) (v := some (0, q14)) (h1 := (G, ρ, q12)) hm rfl (by omega) ⟨Nat.le_of_ble_eq_true rfl, Nat.le_of_ble_eq_true rfl⟩ (trivial) rfl rfl ml_91 rfl (Nat.le_of_ble_eq_true rfl) (tf91 h14 (by omega)) ?_
  show Ex d 92 36 [(2, ((v0 : Nat) : Int)), (2, ((v1 : Nat) : Int)), (0, v2), (0, v3)] [(0, q14), (2, (((ρ v0 2) : Nat) : Int))] (G, ρ, q12) rr
  refine Ex_run 3 (i' := 39) (L' := [(2, ((v0 : Nat) : Int)), (2, ((v1 : Nat) : Int)), (0, v2), (0, v3)]) (st' := [(0, v3), (0, v2), (2, ((v1 : Nat) : Int)), (0, q14), (2, (((ρ v0 2) : Nat) : Int))]) (h' := (G, ρ, q12)) hm rfl cjn ?_
  obtain ⟨g15, e⟩ := gd_s e
  obtain ⟨q16, h16, e⟩ := bn_s e
  refine Ex_callm (z := 44) (na := 3) (ck := 7) (as := [(2, ((v1 : Nat) : Int)), (0, v2), (0, v3)]) (rest := [(0, q14), (2, (((ρ v0 2) : Nat) : Int))]) (E0 := [(2, ((v1 : Nat) : Int)), (0, v2), (0, v3), (9, 0)]) (v := some (0, q16)) (h1 := (G, ρ, q12)) hm rfl (by omega) ⟨Nat.le_of_ble_eq_true rfl, Nat.le_of_ble_eq_true rfl⟩ (rc2 rfl g15) rfl rfl ml_44 rfl (Nat.le_of_ble_eq_true rfl) (tf44 h16 (by omega)) ?_
  show Ex d 92 40 [(2, ((v0 : Nat) : Int)), (2, ((v1 : Nat) : Int)), (0, v2), (0, v3)] [(0, q16), (0, q14), (2, (((ρ v0 2) : Nat) : Int))] (G, ρ, q12) rr
  obtain ⟨g17, e⟩ := gd_s e
  obtain ⟨q18, h18, e⟩ := bn_s e
  refine Ex_callm (z := 34) (na := 3) (ck := 6) (as := [(2, (((ρ v0 2) : Nat) : Int)), (0, q14), (0, q16)]) (rest := []) (E0 := [(2, (((ρ v0 2) : Nat) : Int)), (0, q14), (0, q16)]) (v := none) (h1 := (G, ρ, q18)) hm rfl (by omega) ⟨Nat.le_of_ble_eq_true rfl, Nat.le_of_ble_eq_true rfl⟩ (rc2 rfl g17) rfl rfl ml_34 rfl (Nat.le_of_ble_eq_true rfl) (tf34 h18 (by omega)) ?_
  show Ex d 92 41 [(2, ((v0 : Nat) : Int)), (2, ((v1 : Nat) : Int)), (0, v2), (0, v3)] [] (G, ρ, q18) rr
  refine Ex_run 2 (i' := 12) (L' := [(2, ((v0 : Nat) : Int)), (2, ((v1 : Nat) : Int)), (0, v2), (0, (w32 (v3 + 1)))]) (st' := []) (h' := (G, ρ, q18)) hm rfl cjn ?_
  cases e
  exact hk
theorem tf92_b12 {G : Gg} {ρ : Rg} {d : Nat} {v0 : Nat} {v1 : Nat} {v2 : Int} {s : Int × Sg} {x : (Int × Sg) ⊕ ((Int × Sg) ⊕ (Sg))} (e : f92_b12 G ρ v0 v1 v2 s = some x) (hd : 2 ≤ d) (rr : Option MV × Mh) (hk : (DS (e92_12 G ρ d v0 v1 v2) (DS (e92_6 G ρ d v0 v1) (Bv G ρ))) x rr) : e92_12 G ρ d v0 v1 v2 s rr := by
  unfold f92_b12 at e
  have hm := mi_92
  show Ex d 92 12 [(2, ((v0 : Nat) : Int)), (2, ((v1 : Nat) : Int)), (0, v2), (0, s.1)] [] (G, ρ, s.2) rr
  refine Ex_run 2 (i' := 14) (L' := [(2, ((v0 : Nat) : Int)), (2, ((v1 : Nat) : Int)), (0, v2), (0, s.1)]) (st' := [(0, 5), (0, s.1)]) (h' := (G, ρ, s.2)) hm rfl cjn ?_
  by_cases c5 : 5 < s.1
  · replace e := it_p e c5
    refine Ex_if2t (c := 4) (tgt := 43) hm rfl (bt4 c5) ?_
    obtain ⟨x, e, hx⟩ := xr_s e
    replace hk : (DS (e92_6 G ρ d v0 v1) (Bv G ρ)) x rr := by rw [hx] at hk; exact hk
    refine Ex_run 2 (i' := 6) (L' := [(2, ((v0 : Nat) : Int)), (2, ((v1 : Nat) : Int)), (0, (w32 (v2 + 1))), (0, s.1)]) (st' := []) (h' := (G, ρ, s.2)) hm rfl cjn ?_
    cases e
    exact hk _
  · replace e := it_n e c5
    refine Ex_if2f (c := 4) (tgt := 43) hm rfl (bf4 c5) ?_
    obtain ⟨g6, e⟩ := gd_s e
    refine Ex_run 4 (i' := 19) (L' := [(2, ((v0 : Nat) : Int)), (2, ((v1 : Nat) : Int)), (0, v2), (0, s.1)]) (st' := [(0, s.1), (0, v2), (2, (((ρ v0 1) : Nat) : Int))]) (h' := (G, ρ, s.2)) hm rfl (cjc (gk_b g6) cjn) ?_
    obtain ⟨q7, h7, e⟩ := bn_s e
    refine Ex_callm (z := 91) (na := 2) (ck := 0) (as := [(0, v2), (0, s.1)]) (rest := [(2, (((ρ v0 1) : Nat) : Int))]) (E0 := [(0, v2), (0, s.1)]) (v := some (0, q7)) (h1 := (G, ρ, s.2)) hm rfl (by omega) ⟨Nat.le_of_ble_eq_true rfl, Nat.le_of_ble_eq_true rfl⟩ (trivial) rfl rfl ml_91 rfl (Nat.le_of_ble_eq_true rfl) (tf91 h7 (by omega)) ?_
    show Ex d 92 20 [(2, ((v0 : Nat) : Int)), (2, ((v1 : Nat) : Int)), (0, v2), (0, s.1)] [(0, q7), (2, (((ρ v0 1) : Nat) : Int))] (G, ρ, s.2) rr
    refine Ex_run 2 (i' := 22) (L' := [(2, ((v0 : Nat) : Int)), (2, ((v1 : Nat) : Int)), (0, v2), (0, s.1)]) (st' := [(0, s.1), (2, ((v1 : Nat) : Int)), (0, q7), (2, (((ρ v0 1) : Nat) : Int))]) (h' := (G, ρ, s.2)) hm rfl cjn ?_
    obtain ⟨g8, e⟩ := gd_s e
    obtain ⟨q9, h9, e⟩ := bn_s e
    refine Ex_callm (z := 39) (na := 2) (ck := 7) (as := [(2, ((v1 : Nat) : Int)), (0, s.1)]) (rest := [(0, q7), (2, (((ρ v0 1) : Nat) : Int))]) (E0 := [(2, ((v1 : Nat) : Int)), (0, s.1)]) (v := some (0, q9)) (h1 := (G, ρ, s.2)) hm rfl (by omega) ⟨Nat.le_of_ble_eq_true rfl, Nat.le_of_ble_eq_true rfl⟩ (rc2 rfl g8) rfl rfl ml_39 rfl (Nat.le_of_ble_eq_true rfl) (tf39 h9 (by omega)) ?_
    show Ex d 92 23 [(2, ((v0 : Nat) : Int)), (2, ((v1 : Nat) : Int)), (0, v2), (0, s.1)] [(0, q9), (0, q7), (2, (((ρ v0 1) : Nat) : Int))] (G, ρ, s.2) rr
    by_cases c10 : q9 = 0
    · replace e := it_p e c10
      refine Ex_if1t (c := 0) (tgt := 29) hm rfl (bt0 c10) ?_
      refine Ex_run 1 (i' := 30) (L' := [(2, ((v0 : Nat) : Int)), (2, ((v1 : Nat) : Int)), (0, v2), (0, s.1)]) (st' := [(0, 4), (0, q7), (2, (((ρ v0 1) : Nat) : Int))]) (h' := (G, ρ, s.2)) hm rfl cjn ?_
      exact tf92_30 e hd rr hk
    · replace e := it_n e c10
      refine Ex_if1f (c := 0) (tgt := 29) hm rfl (bf0 c10) ?_
      refine Ex_run 3 (i' := 27) (L' := [(2, ((v0 : Nat) : Int)), (2, ((v1 : Nat) : Int)), (0, v2), (0, s.1)]) (st' := [(0, s.1), (0, v2), (2, ((v1 : Nat) : Int)), (0, q7), (2, (((ρ v0 1) : Nat) : Int))]) (h' := (G, ρ, s.2)) hm rfl cjn ?_
      obtain ⟨q19, h19, e⟩ := bn_s e
      refine Ex_callm (z := 43) (na := 3) (ck := 7) (as := [(2, ((v1 : Nat) : Int)), (0, v2), (0, s.1)]) (rest := [(0, q7), (2, (((ρ v0 1) : Nat) : Int))]) (E0 := [(2, ((v1 : Nat) : Int)), (0, v2), (0, s.1), (9, 0)]) (v := some (0, q19)) (h1 := (G, ρ, s.2)) hm rfl (by omega) ⟨Nat.le_of_ble_eq_true rfl, Nat.le_of_ble_eq_true rfl⟩ (rc2 rfl g8) rfl rfl ml_43 rfl (Nat.le_of_ble_eq_true rfl) (tf43 h19 (by omega)) ?_
      show Ex d 92 28 [(2, ((v0 : Nat) : Int)), (2, ((v1 : Nat) : Int)), (0, v2), (0, s.1)] [(0, q19), (0, q7), (2, (((ρ v0 1) : Nat) : Int))] (G, ρ, s.2) rr
      refine Ex_run 1 (i' := 30) (L' := [(2, ((v0 : Nat) : Int)), (2, ((v1 : Nat) : Int)), (0, v2), (0, s.1)]) (st' := [(0, q19), (0, q7), (2, (((ρ v0 1) : Nat) : Int))]) (h' := (G, ρ, s.2)) hm rfl cjn ?_
      exact tf92_30 e hd rr hk
theorem tf92_b6 {G : Gg} {ρ : Rg} {d : Nat} {v0 : Nat} {v1 : Nat} {s : Int × Sg} {x : (Int × Sg) ⊕ (Sg)} (e : f92_b6 G ρ v0 v1 s = some x) (hd : 2 ≤ d) (rr : Option MV × Mh) (hk : (DS (e92_6 G ρ d v0 v1) (Bv G ρ)) x rr) : e92_6 G ρ d v0 v1 s rr := by
  unfold f92_b6 at e
  have hm := mi_92
  show ∀ (j3 : MV), Ex d 92 6 [(2, ((v0 : Nat) : Int)), (2, ((v1 : Nat) : Int)), (0, s.1), j3] [] (G, ρ, s.2) rr
  intro j3
  obtain ⟨g3, e⟩ := gd_s e
  refine Ex_run 3 (i' := 9) (L' := [(2, ((v0 : Nat) : Int)), (2, ((v1 : Nat) : Int)), (0, s.1), j3]) (st' := [(0, (s.2 v0 3)), (0, s.1)]) (h' := (G, ρ, s.2)) hm rfl (cjc (gk_b g3) cjn) ?_
  by_cases c4 : s.1 < (s.2 v0 3)
  · replace e := it_p e c4
    refine Ex_if2f (c := 3) (tgt := 45) hm rfl (bf3 c4) ?_
    refine Ex_run 2 (i' := 12) (L' := [(2, ((v0 : Nat) : Int)), (2, ((v1 : Nat) : Int)), (0, s.1), (0, 1)]) (st' := []) (h' := (G, ρ, s.2)) hm rfl (cjc (Nat.le_of_ble_eq_true rfl) cjn) ?_
    exact (Ex_lp (A := e92_12 G ρ d v0 v1 s.1 ) (B := (DS (e92_6 G ρ d v0 v1) (Bv G ρ))) (fun s x e rr hk => tf92_b12 e hd rr hk) FU _ _ e rr hk)
  · replace e := it_n e c4
    refine Ex_if2t (c := 3) (tgt := 45) hm rfl (bt3 c4) ?_
    obtain ⟨x, e, hx⟩ := xr_s e
    replace hk : (Bv G ρ) x rr := by rw [hx] at hk; exact hk
    cases e
    cases hk
    exact Ex_ret (k := 0) hm rfl ⟨rfl, rfl⟩
theorem tf92 {G : Gg} {ρ : Rg} {d : Nat} {v0 : Nat} {v1 : Nat} {m : Sg} {x : Sg} (e : f92 G ρ v0 v1 m = some x) (hd : 2 ≤ d) : Ex d 92 0 [(2, ((v0 : Nat) : Int)), (2, ((v1 : Nat) : Int)), (9, 0), (9, 0)] [] (G, ρ, m) (none, (G, ρ, x)) := by
  unfold f92 at e
  have hm := mi_92
  generalize hk : (none, (G, ρ, x)) = rr
  replace hk : (Bv G ρ) x rr := hk.symm
  obtain ⟨g1, e⟩ := gd_s e
  obtain ⟨g2, e⟩ := gd_s e
  refine Ex_run 6 (i' := 6) (L' := [(2, ((v0 : Nat) : Int)), (2, ((v1 : Nat) : Int)), (0, 0), (9, 0)]) (st' := []) (h' := (G, ρ, (put m v0 3 (m v1 0)))) hm rfl (cjc (gk_b g1) (cjc (gk_b g2) (cjc (Nat.le_of_ble_eq_true rfl) cjn))) ?_
  exact (Ex_lp (A := e92_6 G ρ d v0 v1 ) (B := (Bv G ρ)) (fun s x e rr hk => tf92_b6 e hd rr hk) FU _ _ e rr hk) _
theorem tf225 {G : Gg} {ρ : Rg} {d : Nat} {v0 : Int} {m : Sg} {x : Int} (e : f225 G ρ v0 m = some x) (hd : 0 ≤ d) : Ex d 225 0 [(0, v0)] [] (G, ρ, m) (some (0, x), (G, ρ, m)) := by
  unfold f225 at e
  have hm := mi_225
  generalize hk : (some (0, x), (G, ρ, m)) = rr
  replace hk : (Bpi G ρ m) x rr := hk.symm
  refine Ex_run 1 (i' := 1) (L' := [(0, v0)]) (st' := [(0, v0)]) (h' := (G, ρ, m)) hm rfl cjn ?_
  by_cases c1 : v0 < 0
  · replace e := it_p e c1
    refine Ex_if1f (c := 3) (tgt := 5) hm rfl (bf3 c1) ?_
    refine Ex_run 3 (i' := 6) (L' := [(0, v0)]) (st' := [(0, (g_neg v0))]) (h' := (G, ρ, m)) hm rfl cjn ?_
    cases e
    cases hk
    exact Ex_ret (k := 1) hm rfl ⟨_, rfl, rfl⟩
  · replace e := it_n e c1
    refine Ex_if1t (c := 3) (tgt := 5) hm rfl (bt3 c1) ?_
    refine Ex_run 1 (i' := 6) (L' := [(0, v0)]) (st' := [(0, v0)]) (h' := (G, ρ, m)) hm rfl cjn ?_
    cases e
    cases hk
    exact Ex_ret (k := 1) hm rfl ⟨_, rfl, rfl⟩
theorem tf94_44 {G : Gg} {ρ : Rg} {d : Nat} {v4 : Int} {w0 : Int} {m : Sg} {x : Int} (e : f94_44 G ρ v4 w0 m = some x) (hd : 1 ≤ d) (rr : Option MV × Mh) (hk : (Bpi G ρ m) x rr) (j0 : Nat) (j1 : Int) (j2 : Int) (j3 : Int) (j5 : Int) : Ex d 94 44 [(2, ((j0 : Nat) : Int)), (0, j1), (0, j2), (0, j3), (0, v4), (0, j5), (9, 0)] [(0, w0)] (G, ρ, m) rr := by
  unfold f94_44 at e
  have hm := mi_94
  refine Ex_run 3 (i' := 47) (L' := [(2, ((j0 : Nat) : Int)), (0, j1), (0, j2), (0, j3), (0, v4), (0, j5), (0, w0)]) (st' := [(0, 1), (0, v4)]) (h' := (G, ρ, m)) hm rfl (cjc (Nat.le_of_ble_eq_true rfl) cjn) ?_
  by_cases c16 : v4 = 1
  · replace e := it_p e c16
    refine Ex_if2f (c := 1) (tgt := 50) hm rfl (bf1 c16) ?_
    refine Ex_run 2 (i' := 52) (L' := [(2, ((j0 : Nat) : Int)), (0, j1), (0, j2), (0, j3), (0, v4), (0, j5), (0, w0)]) (st' := [(0, w0)]) (h' := (G, ρ, m)) hm rfl cjn ?_
    cases e
    cases hk
    exact Ex_ret (k := 1) hm rfl ⟨_, rfl, rfl⟩
  · replace e := it_n e c16
    refine Ex_if2t (c := 1) (tgt := 50) hm rfl (bt1 c16) ?_
    refine Ex_run 2 (i' := 52) (L' := [(2, ((j0 : Nat) : Int)), (0, j1), (0, j2), (0, j3), (0, v4), (0, j5), (0, w0)]) (st' := [(0, (g_neg w0))]) (h' := (G, ρ, m)) hm rfl cjn ?_
    cases e
    cases hk
    exact Ex_ret (k := 1) hm rfl ⟨_, rfl, rfl⟩
theorem tf94 {G : Gg} {ρ : Rg} {d : Nat} {v0 : Nat} {v1 : Int} {v2 : Int} {v3 : Int} {m : Sg} {x : Int} (e : f94 G ρ v0 v1 v2 v3 m = some x) (hd : 1 ≤ d) : Ex d 94 0 [(2, ((v0 : Nat) : Int)), (0, v1), (0, v2), (0, v3), (9, 0), (9, 0), (9, 0)] [] (G, ρ, m) (some (0, x), (G, ρ, m)) := by
  unfold f94 at e
  have hm := mi_94
  generalize hk : (some (0, x), (G, ρ, m)) = rr
  replace hk : (Bpi G ρ m) x rr := hk.symm
  obtain ⟨g1, e⟩ := gd_s e
  refine Ex_run 4 (i' := 4) (L' := [(2, ((v0 : Nat) : Int)), (0, v1), (0, v2), (0, v3), (9, 0), (9, 0), (9, 0)]) (st' := [(0, v2), (0, v1), (2, (((ρ v0 1) : Nat) : Int))]) (h' := (G, ρ, m)) hm rfl (cjc (gk_b g1) cjn) ?_
  obtain ⟨q2, h2, e⟩ := bn_s e
  refine Ex_callm (z := 91) (na := 2) (ck := 0) (as := [(0, v1), (0, v2)]) (rest := [(2, (((ρ v0 1) : Nat) : Int))]) (E0 := [(0, v1), (0, v2)]) (v := some (0, q2)) (h1 := (G, ρ, m)) hm rfl (by omega) ⟨Nat.le_of_ble_eq_true rfl, Nat.le_of_ble_eq_true rfl⟩ (trivial) rfl rfl ml_91 rfl (Nat.le_of_ble_eq_true rfl) (tf91 h2 (by omega)) ?_
  show Ex d 94 5 [(2, ((v0 : Nat) : Int)), (0, v1), (0, v2), (0, v3), (9, 0), (9, 0), (9, 0)] [(0, q2), (2, (((ρ v0 1) : Nat) : Int))] (G, ρ, m) rr
  obtain ⟨g3, e⟩ := gd_s e
  obtain ⟨q4, h4, e⟩ := bn_s e
  refine Ex_callm (z := 33) (na := 2) (ck := 6) (as := [(2, (((ρ v0 1) : Nat) : Int)), (0, q2)]) (rest := []) (E0 := [(2, (((ρ v0 1) : Nat) : Int)), (0, q2)]) (v := some (0, q4)) (h1 := (G, ρ, m)) hm rfl (by omega) ⟨Nat.le_of_ble_eq_true rfl, Nat.le_of_ble_eq_true rfl⟩ (rc2 rfl g3) rfl rfl ml_33 rfl (Nat.le_of_ble_eq_true rfl) (tf33 h4 (by omega)) ?_
  show Ex d 94 6 [(2, ((v0 : Nat) : Int)), (0, v1), (0, v2), (0, v3), (9, 0), (9, 0), (9, 0)] [(0, q4)] (G, ρ, m) rr
  refine Ex_run 3 (i' := 9) (L' := [(2, ((v0 : Nat) : Int)), (0, v1), (0, v2), (0, v3), (0, q4), (9, 0), (9, 0)]) (st' := [(0, 2), (0, q4)]) (h' := (G, ρ, m)) hm rfl (cjc (Nat.le_of_ble_eq_true rfl) cjn) ?_
  by_cases c5 : q4 = 2
  · replace e := it_p e c5
    refine Ex_if2f (c := 1) (tgt := 12) hm rfl (bf1 c5) ?_
    refine Ex_run 1 (i' := 11) (L' := [(2, ((v0 : Nat) : Int)), (0, v1), (0, v2), (0, v3), (0, q4), (9, 0), (9, 0)]) (st' := [(0, 1)]) (h' := (G, ρ, m)) hm rfl cjn ?_
    cases e
    cases hk
    exact Ex_ret (k := 1) hm rfl ⟨_, rfl, rfl⟩
  · replace e := it_n e c5
    refine Ex_if2t (c := 1) (tgt := 12) hm rfl (bt1 c5) ?_
    refine Ex_run 2 (i' := 14) (L' := [(2, ((v0 : Nat) : Int)), (0, v1), (0, v2), (0, v3), (0, q4), (9, 0), (9, 0)]) (st' := [(0, 3), (0, q4)]) (h' := (G, ρ, m)) hm rfl cjn ?_
    by_cases c6 : q4 = 3
    · replace e := it_p e c6
      refine Ex_if2f (c := 1) (tgt := 17) hm rfl (bf1 c6) ?_
      refine Ex_run 1 (i' := 16) (L' := [(2, ((v0 : Nat) : Int)), (0, v1), (0, v2), (0, v3), (0, q4), (9, 0), (9, 0)]) (st' := [(0, (-1))]) (h' := (G, ρ, m)) hm rfl cjn ?_
      cases e
      cases hk
      exact Ex_ret (k := 1) hm rfl ⟨_, rfl, rfl⟩
    · replace e := it_n e c6
      refine Ex_if2t (c := 1) (tgt := 17) hm rfl (bt1 c6) ?_
      refine Ex_run 6 (i' := 23) (L' := [(2, ((v0 : Nat) : Int)), (0, v1), (0, v2), (0, v3), (0, q4), (9, 0), (9, 0)]) (st' := [(0, v2), (0, v1), (2, (((ρ v0 2) : Nat) : Int)), (2, (((ρ v0 0) : Nat) : Int))]) (h' := (G, ρ, m)) hm rfl (cjc (gk_b g1) (cjc (gk_b g1) cjn)) ?_
      obtain ⟨q7, h7, e⟩ := bn_s e
      refine Ex_callm (z := 91) (na := 2) (ck := 0) (as := [(0, v1), (0, v2)]) (rest := [(2, (((ρ v0 2) : Nat) : Int)), (2, (((ρ v0 0) : Nat) : Int))]) (E0 := [(0, v1), (0, v2)]) (v := some (0, q7)) (h1 := (G, ρ, m)) hm rfl (by omega) ⟨Nat.le_of_ble_eq_true rfl, Nat.le_of_ble_eq_true rfl⟩ (trivial) rfl rfl ml_91 rfl (Nat.le_of_ble_eq_true rfl) (tf91 h7 (by omega)) ?_
      show Ex d 94 24 [(2, ((v0 : Nat) : Int)), (0, v1), (0, v2), (0, v3), (0, q4), (9, 0), (9, 0)] [(0, q7), (2, (((ρ v0 2) : Nat) : Int)), (2, (((ρ v0 0) : Nat) : Int))] (G, ρ, m) rr
      obtain ⟨g8, e⟩ := gd_s e
      obtain ⟨q9, h9, e⟩ := bn_s e
      refine Ex_callm (z := 33) (na := 2) (ck := 6) (as := [(2, (((ρ v0 2) : Nat) : Int)), (0, q7)]) (rest := [(2, (((ρ v0 0) : Nat) : Int))]) (E0 := [(2, (((ρ v0 2) : Nat) : Int)), (0, q7)]) (v := some (0, q9)) (h1 := (G, ρ, m)) hm rfl (by omega) ⟨Nat.le_of_ble_eq_true rfl, Nat.le_of_ble_eq_true rfl⟩ (rc2 rfl g8) rfl rfl ml_33 rfl (Nat.le_of_ble_eq_true rfl) (tf33 h9 (by omega)) ?_
      show Ex d 94 25 [(2, ((v0 : Nat) : Int)), (0, v1), (0, v2), (0, v3), (0, q4), (9, 0), (9, 0)] [(0, q9), (2, (((ρ v0 0) : Nat) : Int))] (G, ρ, m) rr
      obtain ⟨g10, e⟩ := gd_s e
      obtain ⟨q11, h11, e⟩ := bn_s e
      refine Ex_callm (z := 33) (na := 2) (ck := 6) (as := [(2, (((ρ v0 0) : Nat) : Int)), (0, q9)]) (rest := []) (E0 := [(2, (((ρ v0 0) : Nat) : Int)), (0, q9)]) (v := some (0, q11)) (h1 := (G, ρ, m)) hm rfl (by omega) ⟨Nat.le_of_ble_eq_true rfl, Nat.le_of_ble_eq_true rfl⟩ (rc2 rfl g10) rfl rfl ml_33 rfl (Nat.le_of_ble_eq_true rfl) (tf33 h11 (by omega)) ?_
      show Ex d 94 26 [(2, ((v0 : Nat) : Int)), (0, v1), (0, v2), (0, v3), (0, q4), (9, 0), (9, 0)] [(0, q11)] (G, ρ, m) rr
      refine Ex_run 2 (i' := 28) (L' := [(2, ((v0 : Nat) : Int)), (0, v1), (0, v2), (0, v3), (0, q4), (0, q11), (9, 0)]) (st' := [(0, q11)]) (h' := (G, ρ, m)) hm rfl (cjc (Nat.le_of_ble_eq_true rfl) cjn) ?_
      by_cases c12 : q11 = 0
      · replace e := it_p e c12
        refine Ex_if1t (c := 0) (tgt := 33) hm rfl (bt0 c12) ?_
        refine Ex_run 1 (i' := 34) (L' := [(2, ((v0 : Nat) : Int)), (0, v1), (0, v2), (0, v3), (0, q4), (0, q11), (9, 0)]) (st' := [(0, 0)]) (h' := (G, ρ, m)) hm rfl cjn ?_
        cases e
        cases hk
        exact Ex_ret (k := 1) hm rfl ⟨_, rfl, rfl⟩
      · replace e := it_n e c12
        refine Ex_if1f (c := 0) (tgt := 33) hm rfl (bf0 c12) ?_
        refine Ex_run 1 (i' := 30) (L' := [(2, ((v0 : Nat) : Int)), (0, v1), (0, v2), (0, v3), (0, q4), (0, q11), (9, 0)]) (st' := [(0, q11)]) (h' := (G, ρ, m)) hm rfl cjn ?_
        obtain ⟨q13, h13, e⟩ := bn_s e
        refine Ex_callm (z := 225) (na := 1) (ck := 0) (as := [(0, q11)]) (rest := []) (E0 := [(0, q11)]) (v := some (0, q13)) (h1 := (G, ρ, m)) hm rfl (by omega) ⟨Nat.le_of_ble_eq_true rfl, Nat.le_of_ble_eq_true rfl⟩ (trivial) rfl rfl ml_225 rfl (Nat.le_of_ble_eq_true rfl) (tf225 h13 (by omega)) ?_
        show Ex d 94 31 [(2, ((v0 : Nat) : Int)), (0, v1), (0, v2), (0, v3), (0, q4), (0, q11), (9, 0)] [(0, q13)] (G, ρ, m) rr
        refine Ex_run 1 (i' := 32) (L' := [(2, ((v0 : Nat) : Int)), (0, v1), (0, v2), (0, v3), (0, q4), (0, q11), (9, 0)]) (st' := [(0, v3), (0, q13)]) (h' := (G, ρ, m)) hm rfl cjn ?_
        by_cases c14 : q13 < v3
        · replace e := it_p e c14
          refine Ex_if2t (c := 2) (tgt := 35) hm rfl (bt2 c14) ?_
          refine Ex_run 1 (i' := 36) (L' := [(2, ((v0 : Nat) : Int)), (0, v1), (0, v2), (0, v3), (0, q4), (0, q11), (9, 0)]) (st' := [(0, q11)]) (h' := (G, ρ, m)) hm rfl cjn ?_
          by_cases c15 : 0 < q11
          · replace e := it_p e c15
            refine Ex_if1f (c := 5) (tgt := 41) hm rfl (bf5 c15) ?_
            refine Ex_run 4 (i' := 44) (L' := [(2, ((v0 : Nat) : Int)), (0, v1), (0, v2), (0, v3), (0, q4), (0, q11), (9, 0)]) (st' := [(0, (g_add q11 1))]) (h' := (G, ρ, m)) hm rfl cjn ?_
            exact tf94_44 e hd rr hk _ _ _ _ _
          · replace e := it_n e c15
            refine Ex_if1t (c := 5) (tgt := 41) hm rfl (bt5 c15) ?_
            refine Ex_run 3 (i' := 44) (L' := [(2, ((v0 : Nat) : Int)), (0, v1), (0, v2), (0, v3), (0, q4), (0, q11), (9, 0)]) (st' := [(0, (g_sub q11 1))]) (h' := (G, ρ, m)) hm rfl cjn ?_
            exact tf94_44 e hd rr hk _ _ _ _ _
        · replace e := it_n e c14
          refine Ex_if2f (c := 2) (tgt := 35) hm rfl (bf2 c14) ?_
          refine Ex_run 1 (i' := 34) (L' := [(2, ((v0 : Nat) : Int)), (0, v1), (0, v2), (0, v3), (0, q4), (0, q11), (9, 0)]) (st' := [(0, 0)]) (h' := (G, ρ, m)) hm rfl cjn ?_
          cases e
          cases hk
          exact Ex_ret (k := 1) hm rfl ⟨_, rfl, rfl⟩
theorem tf227 {G : Gg} {ρ : Rg} {d : Nat} {v0 : Int} {v1 : Int} {m : Sg} {x : Int} (e : f227 G ρ v0 v1 m = some x) (hd : 0 ≤ d) : Ex d 227 0 [(0, v0), (0, v1)] [] (G, ρ, m) (some (0, x), (G, ρ, m)) := by
  unfold f227 at e
  have hm := mi_227
  generalize hk : (some (0, x), (G, ρ, m)) = rr
  replace hk : (Bpi G ρ m) x rr := hk.symm
  refine Ex_run 2 (i' := 2) (L' := [(0, v0), (0, v1)]) (st' := [(0, v1), (0, v0)]) (h' := (G, ρ, m)) hm rfl cjn ?_
  by_cases c1 : v1 < v0
  · replace e := it_p e c1
    refine Ex_if2t (c := 4) (tgt := 5) hm rfl (bt4 c1) ?_
    refine Ex_run 1 (i' := 6) (L' := [(0, v0), (0, v1)]) (st' := [(0, v1)]) (h' := (G, ρ, m)) hm rfl cjn ?_
    cases e
    cases hk
    exact Ex_ret (k := 1) hm rfl ⟨_, rfl, rfl⟩
  · replace e := it_n e c1
    refine Ex_if2f (c := 4) (tgt := 5) hm rfl (bf4 c1) ?_
    refine Ex_run 2 (i' := 6) (L' := [(0, v0), (0, v1)]) (st' := [(0, v0)]) (h' := (G, ρ, m)) hm rfl cjn ?_
    cases e
    cases hk
    exact Ex_ret (k := 1) hm rfl ⟨_, rfl, rfl⟩
theorem tf93_b8 {G : Gg} {ρ : Rg} {d : Nat} {v0 : Nat} {v1 : Int} {v2 : Int} {m : Sg} {s : Int × Int × Int × Int} {x : (Int × Int × Int × Int) ⊕ (Int)} (e : f93_b8 G ρ v0 v1 v2 m s = some x) (hd : 2 ≤ d) (rr : Option MV × Mh) (hk : (DS (e93_8 G ρ d v0 v1 v2 m) (Bpi G ρ m)) x rr) : e93_8 G ρ d v0 v1 v2 m s rr := by
  unfold f93_b8 at e
  have hm := mi_93
  show ∀ (j7 : MV), Ex d 93 8 [(2, ((v0 : Nat) : Int)), (0, v1), (0, v2), (0, s.1), (0, s.2.1), (0, s.2.2.1), (0, s.2.2.2), j7] [] (G, ρ, m) rr
  intro j7
  refine Ex_run 2 (i' := 10) (L' := [(2, ((v0 : Nat) : Int)), (0, v1), (0, v2), (0, s.1), (0, s.2.1), (0, s.2.2.1), (0, s.2.2.2), j7]) (st' := [(0, 5), (0, s.2.2.2)]) (h' := (G, ρ, m)) hm rfl cjn ?_
  by_cases c1 : 5 < s.2.2.2
  · replace e := it_p e c1
    refine Ex_if2t (c := 4) (tgt := 47) hm rfl (bt4 c1) ?_
    obtain ⟨x, e, hx⟩ := xr_s e
    replace hk : (Bpi G ρ m) x rr := by rw [hx] at hk; exact hk
    refine Ex_run 1 (i' := 48) (L' := [(2, ((v0 : Nat) : Int)), (0, v1), (0, v2), (0, s.1), (0, s.2.1), (0, s.2.2.1), (0, s.2.2.2), j7]) (st' := [(0, s.1)]) (h' := (G, ρ, m)) hm rfl cjn ?_
    by_cases c2 : s.1 = 0
    · replace e := it_p e c2
      refine Ex_if1t (c := 0) (tgt := 51) hm rfl (bt0 c2) ?_
      refine Ex_run 1 (i' := 52) (L' := [(2, ((v0 : Nat) : Int)), (0, v1), (0, v2), (0, s.1), (0, s.2.1), (0, s.2.2.1), (0, s.2.2.2), j7]) (st' := [(0, s.2.2.1)]) (h' := (G, ρ, m)) hm rfl cjn ?_
      by_cases c3 : s.2.2.1 = 0
      · replace e := it_p e c3
        refine Ex_if1t (c := 0) (tgt := 55) hm rfl (bt0 c3) ?_
        refine Ex_run 1 (i' := 56) (L' := [(2, ((v0 : Nat) : Int)), (0, v1), (0, v2), (0, s.1), (0, s.2.1), (0, s.2.2.1), (0, s.2.2.2), j7]) (st' := [(0, s.2.1)]) (h' := (G, ρ, m)) hm rfl cjn ?_
        cases e
        cases hk
        exact Ex_ret (k := 1) hm rfl ⟨_, rfl, rfl⟩
      · replace e := it_n e c3
        refine Ex_if1f (c := 0) (tgt := 55) hm rfl (bf0 c3) ?_
        refine Ex_run 2 (i' := 56) (L' := [(2, ((v0 : Nat) : Int)), (0, v1), (0, v2), (0, s.1), (0, s.2.1), (0, s.2.2.1), (0, s.2.2.2), j7]) (st' := [(0, 0)]) (h' := (G, ρ, m)) hm rfl cjn ?_
        cases e
        cases hk
        exact Ex_ret (k := 1) hm rfl ⟨_, rfl, rfl⟩
    · replace e := it_n e c2
      refine Ex_if1f (c := 0) (tgt := 51) hm rfl (bf0 c2) ?_
      refine Ex_run 1 (i' := 50) (L' := [(2, ((v0 : Nat) : Int)), (0, v1), (0, v2), (0, s.1), (0, s.2.1), (0, s.2.2.1), (0, s.2.2.2), j7]) (st' := [(0, s.1)]) (h' := (G, ρ, m)) hm rfl cjn ?_
      cases e
      cases hk
      exact Ex_ret (k := 1) hm rfl ⟨_, rfl, rfl⟩
  · replace e := it_n e c1
    refine Ex_if2f (c := 4) (tgt := 47) hm rfl (bf4 c1) ?_
    obtain ⟨g4, e⟩ := gd_s e
    refine Ex_run 4 (i' := 15) (L' := [(2, ((v0 : Nat) : Int)), (0, v1), (0, v2), (0, s.1), (0, s.2.1), (0, s.2.2.1), (0, s.2.2.2), j7]) (st' := [(0, s.2.2.2), (0, v1), (2, (((ρ v0 1) : Nat) : Int))]) (h' := (G, ρ, m)) hm rfl (cjc (gk_b g4) cjn) ?_
    obtain ⟨q5, h5, e⟩ := bn_s e
    refine Ex_callm (z := 91) (na := 2) (ck := 0) (as := [(0, v1), (0, s.2.2.2)]) (rest := [(2, (((ρ v0 1) : Nat) : Int))]) (E0 := [(0, v1), (0, s.2.2.2)]) (v := some (0, q5)) (h1 := (G, ρ, m)) hm rfl (by omega) ⟨Nat.le_of_ble_eq_true rfl, Nat.le_of_ble_eq_true rfl⟩ (trivial) rfl rfl ml_91 rfl (Nat.le_of_ble_eq_true rfl) (tf91 h5 (by omega)) ?_
    show Ex d 93 16 [(2, ((v0 : Nat) : Int)), (0, v1), (0, v2), (0, s.1), (0, s.2.1), (0, s.2.2.1), (0, s.2.2.2), j7] [(0, q5), (2, (((ρ v0 1) : Nat) : Int))] (G, ρ, m) rr
    obtain ⟨g6, e⟩ := gd_s e
    obtain ⟨q7, h7, e⟩ := bn_s e
    refine Ex_callm (z := 33) (na := 2) (ck := 6) (as := [(2, (((ρ v0 1) : Nat) : Int)), (0, q5)]) (rest := []) (E0 := [(2, (((ρ v0 1) : Nat) : Int)), (0, q5)]) (v := some (0, q7)) (h1 := (G, ρ, m)) hm rfl (by omega) ⟨Nat.le_of_ble_eq_true rfl, Nat.le_of_ble_eq_true rfl⟩ (rc2 rfl g6) rfl rfl ml_33 rfl (Nat.le_of_ble_eq_true rfl) (tf33 h7 (by omega)) ?_
    show Ex d 93 17 [(2, ((v0 : Nat) : Int)), (0, v1), (0, v2), (0, s.1), (0, s.2.1), (0, s.2.2.1), (0, s.2.2.2), j7] [(0, q7)] (G, ρ, m) rr
    refine Ex_run 1 (i' := 18) (L' := [(2, ((v0 : Nat) : Int)), (0, v1), (0, v2), (0, s.1), (0, s.2.1), (0, s.2.2.1), (0, s.2.2.2), j7]) (st' := [(0, 4), (0, q7)]) (h' := (G, ρ, m)) hm rfl cjn ?_
    by_cases c8 : q7 = 4
    · replace e := it_p e c8
      refine Ex_if2f (c := 1) (tgt := 20) hm rfl (bf1 c8) ?_
      refine Ex_run 3 (i' := 8) (L' := [(2, ((v0 : Nat) : Int)), (0, v1), (0, v2), (0, s.1), (0, s.2.1), (0, s.2.2.1), (0, (w32 (s.2.2.2 + 1))), j7]) (st' := []) (h' := (G, ρ, m)) hm rfl cjn ?_
      cases e
      exact hk _
    · replace e := it_n e c8
      refine Ex_if2t (c := 1) (tgt := 20) hm rfl (bt1 c8) ?_
      refine Ex_run 4 (i' := 24) (L' := [(2, ((v0 : Nat) : Int)), (0, v1), (0, v2), (0, s.1), (0, s.2.1), (0, s.2.2.1), (0, s.2.2.2), j7]) (st' := [(0, v2), (0, s.2.2.2), (0, v1), (2, ((v0 : Nat) : Int))]) (h' := (G, ρ, m)) hm rfl cjn ?_
      obtain ⟨q9, h9, e⟩ := bn_s e
      refine Ex_callm (z := 94) (na := 4) (ck := 13) (as := [(2, ((v0 : Nat) : Int)), (0, v1), (0, s.2.2.2), (0, v2)]) (rest := []) (E0 := [(2, ((v0 : Nat) : Int)), (0, v1), (0, s.2.2.2), (0, v2), (9, 0), (9, 0), (9, 0)]) (v := some (0, q9)) (h1 := (G, ρ, m)) hm rfl (by omega) ⟨Nat.le_of_ble_eq_true rfl, Nat.le_of_ble_eq_true rfl⟩ (rc2 rfl g4) rfl rfl ml_94 rfl (Nat.le_of_ble_eq_true rfl) (tf94 h9 (by omega)) ?_
      show Ex d 93 25 [(2, ((v0 : Nat) : Int)), (0, v1), (0, v2), (0, s.1), (0, s.2.1), (0, s.2.2.1), (0, s.2.2.2), j7] [(0, q9)] (G, ρ, m) rr
      refine Ex_run 2 (i' := 27) (L' := [(2, ((v0 : Nat) : Int)), (0, v1), (0, v2), (0, s.1), (0, s.2.1), (0, s.2.2.1), (0, s.2.2.2), (0, q9)]) (st' := [(0, q9)]) (h' := (G, ρ, m)) hm rfl (cjc (Nat.le_of_ble_eq_true rfl) cjn) ?_
      by_cases c10 : q9 = 0
      · replace e := it_p e c10
        refine Ex_if1f (c := 1) (tgt := 31) hm rfl (bf1 c10) ?_
        refine Ex_run 5 (i' := 8) (L' := [(2, ((v0 : Nat) : Int)), (0, v1), (0, v2), (0, s.1), (0, s.2.1), (0, 1), (0, (w32 (s.2.2.2 + 1))), (0, q9)]) (st' := []) (h' := (G, ρ, m)) hm rfl (cjc (Nat.le_of_ble_eq_true rfl) cjn) ?_
        cases e
        exact hk _
      · replace e := it_n e c10
        refine Ex_if1t (c := 1) (tgt := 31) hm rfl (bt1 c10) ?_
        refine Ex_run 1 (i' := 32) (L' := [(2, ((v0 : Nat) : Int)), (0, v1), (0, v2), (0, s.1), (0, s.2.1), (0, s.2.2.1), (0, s.2.2.2), (0, q9)]) (st' := [(0, q9)]) (h' := (G, ρ, m)) hm rfl cjn ?_
        by_cases c11 : q9 < 0
        · replace e := it_p e c11
          refine Ex_if1f (c := 3) (tgt := 38) hm rfl (bf3 c11) ?_
          refine Ex_run 2 (i' := 35) (L' := [(2, ((v0 : Nat) : Int)), (0, v1), (0, v2), (0, s.1), (0, s.2.1), (0, s.2.2.1), (0, s.2.2.2), (0, q9)]) (st' := [(0, q9), (0, s.2.1)]) (h' := (G, ρ, m)) hm rfl cjn ?_
          obtain ⟨q12, h12, e⟩ := bn_s e
          refine Ex_callm (z := 227) (na := 2) (ck := 0) (as := [(0, s.2.1), (0, q9)]) (rest := []) (E0 := [(0, s.2.1), (0, q9)]) (v := some (0, q12)) (h1 := (G, ρ, m)) hm rfl (by omega) ⟨Nat.le_of_ble_eq_true rfl, Nat.le_of_ble_eq_true rfl⟩ (trivial) rfl rfl ml_227 rfl (Nat.le_of_ble_eq_true rfl) (tf227 h12 (by omega)) ?_
          show Ex d 93 36 [(2, ((v0 : Nat) : Int)), (0, v1), (0, v2), (0, s.1), (0, s.2.1), (0, s.2.2.1), (0, s.2.2.2), (0, q9)] [(0, q12)] (G, ρ, m) rr
          refine Ex_run 4 (i' := 8) (L' := [(2, ((v0 : Nat) : Int)), (0, v1), (0, v2), (0, s.1), (0, q12), (0, s.2.2.1), (0, (w32 (s.2.2.2 + 1))), (0, q9)]) (st' := []) (h' := (G, ρ, m)) hm rfl (cjc (Nat.le_of_ble_eq_true rfl) cjn) ?_
          cases e
          exact hk _
        · replace e := it_n e c11
          refine Ex_if1t (c := 3) (tgt := 38) hm rfl (bt3 c11) ?_
          refine Ex_run 1 (i' := 39) (L' := [(2, ((v0 : Nat) : Int)), (0, v1), (0, v2), (0, s.1), (0, s.2.1), (0, s.2.2.1), (0, s.2.2.2), (0, q9)]) (st' := [(0, s.1)]) (h' := (G, ρ, m)) hm rfl cjn ?_
          by_cases c13 : s.1 = 0
          · replace e := it_p e c13
            refine Ex_if1t (c := 0) (tgt := 43) hm rfl (bt0 c13) ?_
            refine Ex_run 4 (i' := 8) (L' := [(2, ((v0 : Nat) : Int)), (0, v1), (0, v2), (0, q9), (0, s.2.1), (0, s.2.2.1), (0, (w32 (s.2.2.2 + 1))), (0, q9)]) (st' := []) (h' := (G, ρ, m)) hm rfl (cjc (Nat.le_of_ble_eq_true rfl) cjn) ?_
            cases e
            exact hk _
          · replace e := it_n e c13
            refine Ex_if1f (c := 0) (tgt := 43) hm rfl (bf0 c13) ?_
            refine Ex_run 2 (i' := 42) (L' := [(2, ((v0 : Nat) : Int)), (0, v1), (0, v2), (0, s.1), (0, s.2.1), (0, s.2.2.1), (0, s.2.2.2), (0, q9)]) (st' := [(0, s.1), (0, q9)]) (h' := (G, ρ, m)) hm rfl cjn ?_
            by_cases c14 : q9 < s.1
            · replace e := it_p e c14
              refine Ex_if2f (c := 3) (tgt := 45) hm rfl (bf3 c14) ?_
              refine Ex_run 4 (i' := 8) (L' := [(2, ((v0 : Nat) : Int)), (0, v1), (0, v2), (0, q9), (0, s.2.1), (0, s.2.2.1), (0, (w32 (s.2.2.2 + 1))), (0, q9)]) (st' := []) (h' := (G, ρ, m)) hm rfl (cjc (Nat.le_of_ble_eq_true rfl) cjn) ?_
              cases e
              exact hk _
            · replace e := it_n e c14
              refine Ex_if2t (c := 3) (tgt := 45) hm rfl (bt3 c14) ?_
              refine Ex_run 2 (i' := 8) (L' := [(2, ((v0 : Nat) : Int)), (0, v1), (0, v2), (0, s.1), (0, s.2.1), (0, s.2.2.1), (0, (w32 (s.2.2.2 + 1))), (0, q9)]) (st' := []) (h' := (G, ρ, m)) hm rfl cjn ?_
              cases e
              exact hk _
theorem tf93 {G : Gg} {ρ : Rg} {d : Nat} {v0 : Nat} {v1 : Int} {v2 : Int} {m : Sg} {x : Int} (e : f93 G ρ v0 v1 v2 m = some x) (hd : 2 ≤ d) : Ex d 93 0 [(2, ((v0 : Nat) : Int)), (0, v1), (0, v2), (9, 0), (9, 0), (9, 0), (9, 0), (9, 0)] [] (G, ρ, m) (some (0, x), (G, ρ, m)) := by
  unfold f93 at e
  have hm := mi_93
  generalize hk : (some (0, x), (G, ρ, m)) = rr
  replace hk : (Bpi G ρ m) x rr := hk.symm
  refine Ex_run 8 (i' := 8) (L' := [(2, ((v0 : Nat) : Int)), (0, v1), (0, v2), (0, 0), (0, 0), (0, 0), (0, 1), (9, 0)]) (st' := []) (h' := (G, ρ, m)) hm rfl (cjc (Nat.le_of_ble_eq_true rfl) (cjc (Nat.le_of_ble_eq_true rfl) (cjc (Nat.le_of_ble_eq_true rfl) (cjc (Nat.le_of_ble_eq_true rfl) cjn)))) ?_
  exact (Ex_lp (A := e93_8 G ρ d v0 v1 v2 m ) (B := (Bpi G ρ m)) (fun s x e rr hk => tf93_b8 e hd rr hk) FU _ _ e rr hk) _
theorem tf87_39 {G : Gg} {ρ : Rg} {d : Nat} {v0 : Nat} {v2 : Int} {v3 : Int} {v4 : Int} {v5 : Int} {w0 : Int} {m : Sg} {x : (Int × Int × Int × Sg) ⊕ ((Int × Int × Int × Sg) ⊕ (Int × Sg))} (e : f87_39 G ρ v0 v2 v3 v4 v5 w0 m = some x) (hd : 3 ≤ d) (rr : Option MV × Mh) (hk : (DS (e87_24 G ρ d v0 v4) (DS (e87_14 G ρ d v0) (Bi G ρ))) x rr) (j1 : Nat) (j6 : MV) : Ex d 87 39 [(2, ((v0 : Nat) : Int)), (2, ((j1 : Nat) : Int)), (0, v2), (0, v3), (0, v4), (0, v5), j6] [(0, w0)] (G, ρ, m) rr := by
  unfold f87_39 at e
  have hm := mi_87
  refine Ex_run 2 (i' := 41) (L' := [(2, ((v0 : Nat) : Int)), (2, ((j1 : Nat) : Int)), (0, v2), (0, v3), (0, v4), (0, v5), (0, w0)]) (st' := [(0, w0)]) (h' := (G, ρ, m)) hm rfl (cjc (Nat.le_of_ble_eq_true rfl) cjn) ?_
  by_cases c14 : w0 = 0
  · replace e := it_p e c14
    refine Ex_if1f (c := 1) (tgt := 43) hm rfl (bf1 c14) ?_
    refine Ex_run 3 (i' := 24) (L' := [(2, ((v0 : Nat) : Int)), (2, ((j1 : Nat) : Int)), (0, v2), (0, v3), (0, v4), (0, (w32 (v5 + 1))), (0, w0)]) (st' := []) (h' := (G, ρ, m)) hm rfl cjn ?_
    cases e
    exact hk _ _
  · replace e := it_n e c14
    refine Ex_if1t (c := 1) (tgt := 43) hm rfl (bt1 c14) ?_
    obtain ⟨g15, e⟩ := gd_s e
    refine Ex_run 4 (i' := 47) (L' := [(2, ((v0 : Nat) : Int)), (2, ((j1 : Nat) : Int)), (0, v2), (0, v3), (0, v4), (0, v5), (0, w0)]) (st' := [(0, w0), (0, v5), (2, (((ρ v0 0) : Nat) : Int))]) (h' := (G, ρ, m)) hm rfl (cjc (gk_b g15) cjn) ?_
    obtain ⟨g16, e⟩ := gd_s e
    obtain ⟨q17, h17, e⟩ := bn_s e
    refine Ex_callm (z := 34) (na := 3) (ck := 6) (as := [(2, (((ρ v0 0) : Nat) : Int)), (0, v5), (0, w0)]) (rest := []) (E0 := [(2, (((ρ v0 0) : Nat) : Int)), (0, v5), (0, w0)]) (v := none) (h1 := (G, ρ, q17)) hm rfl (by omega) ⟨Nat.le_of_ble_eq_true rfl, Nat.le_of_ble_eq_true rfl⟩ (rc2 rfl g16) rfl rfl ml_34 rfl (Nat.le_of_ble_eq_true rfl) (tf34 h17 (by omega)) ?_
    show Ex d 87 48 [(2, ((v0 : Nat) : Int)), (2, ((j1 : Nat) : Int)), (0, v2), (0, v3), (0, v4), (0, v5), (0, w0)] [] (G, ρ, q17) rr
    refine Ex_run 5 (i' := 24) (L' := [(2, ((v0 : Nat) : Int)), (2, ((j1 : Nat) : Int)), (0, (w32 (v2 + (-1)))), (0, 1), (0, v4), (0, (w32 (v5 + 1))), (0, w0)]) (st' := []) (h' := (G, ρ, q17)) hm rfl (cjc (Nat.le_of_ble_eq_true rfl) cjn) ?_
    cases e
    exact hk _ _
theorem tf87_b24 {G : Gg} {ρ : Rg} {d : Nat} {v0 : Nat} {v4 : Int} {s : Int × Int × Int × Sg} {x : (Int × Int × Int × Sg) ⊕ ((Int × Int × Int × Sg) ⊕ (Int × Sg))} (e : f87_b24 G ρ v0 v4 s = some x) (hd : 3 ≤ d) (rr : Option MV × Mh) (hk : (DS (e87_24 G ρ d v0 v4) (DS (e87_14 G ρ d v0) (Bi G ρ))) x rr) : e87_24 G ρ d v0 v4 s rr := by
  unfold f87_b24 at e
  have hm := mi_87
  show ∀ (j1 : Nat) (j6 : MV), Ex d 87 24 [(2, ((v0 : Nat) : Int)), (2, ((j1 : Nat) : Int)), (0, s.1), (0, s.2.1), (0, v4), (0, s.2.2.1), j6] [] (G, ρ, s.2.2.2) rr
  intro j1 j6
  obtain ⟨g8, e⟩ := gd_s e
  refine Ex_run 3 (i' := 27) (L' := [(2, ((v0 : Nat) : Int)), (2, ((j1 : Nat) : Int)), (0, s.1), (0, s.2.1), (0, v4), (0, s.2.2.1), j6]) (st' := [(0, (s.2.2.2 v0 3)), (0, s.2.2.1)]) (h' := (G, ρ, s.2.2.2)) hm rfl (cjc (gk_b g8) cjn) ?_
  by_cases c9 : s.2.2.1 < (s.2.2.2 v0 3)
  · replace e := it_p e c9
    refine Ex_if2f (c := 3) (tgt := 53) hm rfl (bf3 c9) ?_
    refine Ex_run 3 (i' := 31) (L' := [(2, ((v0 : Nat) : Int)), (2, ((j1 : Nat) : Int)), (0, s.1), (0, s.2.1), (0, v4), (0, s.2.2.1), j6]) (st' := [(0, s.2.2.1), (2, (((ρ v0 0) : Nat) : Int))]) (h' := (G, ρ, s.2.2.2)) hm rfl (cjc (gk_b g8) cjn) ?_
    obtain ⟨g10, e⟩ := gd_s e
    obtain ⟨q11, h11, e⟩ := bn_s e
    refine Ex_callm (z := 33) (na := 2) (ck := 6) (as := [(2, (((ρ v0 0) : Nat) : Int)), (0, s.2.2.1)]) (rest := []) (E0 := [(2, (((ρ v0 0) : Nat) : Int)), (0, s.2.2.1)]) (v := some (0, q11)) (h1 := (G, ρ, s.2.2.2)) hm rfl (by omega) ⟨Nat.le_of_ble_eq_true rfl, Nat.le_of_ble_eq_true rfl⟩ (rc2 rfl g10) rfl rfl ml_33 rfl (Nat.le_of_ble_eq_true rfl) (tf33 h11 (by omega)) ?_
    show Ex d 87 32 [(2, ((v0 : Nat) : Int)), (2, ((j1 : Nat) : Int)), (0, s.1), (0, s.2.1), (0, v4), (0, s.2.2.1), j6] [(0, q11)] (G, ρ, s.2.2.2) rr
    by_cases c12 : q11 = 0
    · replace e := it_p e c12
      refine Ex_if1f (c := 1) (tgt := 38) hm rfl (bf1 c12) ?_
      refine Ex_run 3 (i' := 36) (L' := [(2, ((v0 : Nat) : Int)), (2, ((j1 : Nat) : Int)), (0, s.1), (0, s.2.1), (0, v4), (0, s.2.2.1), j6]) (st' := [(0, v4), (0, s.2.2.1), (2, ((v0 : Nat) : Int))]) (h' := (G, ρ, s.2.2.2)) hm rfl cjn ?_
      obtain ⟨q13, h13, e⟩ := bn_s e
      refine Ex_callm (z := 93) (na := 3) (ck := 13) (as := [(2, ((v0 : Nat) : Int)), (0, s.2.2.1), (0, v4)]) (rest := []) (E0 := [(2, ((v0 : Nat) : Int)), (0, s.2.2.1), (0, v4), (9, 0), (9, 0), (9, 0), (9, 0), (9, 0)]) (v := some (0, q13)) (h1 := (G, ρ, s.2.2.2)) hm rfl (by omega) ⟨Nat.le_of_ble_eq_true rfl, Nat.le_of_ble_eq_true rfl⟩ (rc2 rfl g8) rfl rfl ml_93 rfl (Nat.le_of_ble_eq_true rfl) (tf93 h13 (by omega)) ?_
      show Ex d 87 37 [(2, ((v0 : Nat) : Int)), (2, ((j1 : Nat) : Int)), (0, s.1), (0, s.2.1), (0, v4), (0, s.2.2.1), j6] [(0, q13)] (G, ρ, s.2.2.2) rr
      refine Ex_run 1 (i' := 39) (L' := [(2, ((v0 : Nat) : Int)), (2, ((j1 : Nat) : Int)), (0, s.1), (0, s.2.1), (0, v4), (0, s.2.2.1), j6]) (st' := [(0, q13)]) (h' := (G, ρ, s.2.2.2)) hm rfl cjn ?_
      exact tf87_39 e hd rr hk _ _
    · replace e := it_n e c12
      refine Ex_if1t (c := 1) (tgt := 38) hm rfl (bt1 c12) ?_
      refine Ex_run 1 (i' := 39) (L' := [(2, ((v0 : Nat) : Int)), (2, ((j1 : Nat) : Int)), (0, s.1), (0, s.2.1), (0, v4), (0, s.2.2.1), j6]) (st' := [(0, 0)]) (h' := (G, ρ, s.2.2.2)) hm rfl cjn ?_
      exact tf87_39 e hd rr hk _ _
  · replace e := it_n e c9
    refine Ex_if2t (c := 3) (tgt := 53) hm rfl (bt3 c9) ?_
    obtain ⟨x, e, hx⟩ := xr_s e
    replace hk : (DS (e87_14 G ρ d v0) (Bi G ρ)) x rr := by rw [hx] at hk; exact hk
    refine Ex_run 2 (i' := 14) (L' := [(2, ((v0 : Nat) : Int)), (2, ((j1 : Nat) : Int)), (0, s.1), (0, s.2.1), (0, (w32 (v4 + 1))), (0, s.2.2.1), j6]) (st' := []) (h' := (G, ρ, s.2.2.2)) hm rfl cjn ?_
    cases e
    exact hk _ _ _
theorem tf87_b14 {G : Gg} {ρ : Rg} {d : Nat} {v0 : Nat} {s : Int × Int × Int × Sg} {x : (Int × Int × Int × Sg) ⊕ (Int × Sg)} (e : f87_b14 G ρ v0 s = some x) (hd : 3 ≤ d) (rr : Option MV × Mh) (hk : (DS (e87_14 G ρ d v0) (Bi G ρ)) x rr) : e87_14 G ρ d v0 s rr := by
  unfold f87_b14 at e
  have hm := mi_87
  show ∀ (j1 : Nat) (j5 : MV) (j6 : MV), Ex d 87 14 [(2, ((v0 : Nat) : Int)), (2, ((j1 : Nat) : Int)), (0, s.1), (0, s.2.1), (0, s.2.2.1), j5, j6] [] (G, ρ, s.2.2.2) rr
  intro j1 j5 j6
  obtain ⟨g5, e⟩ := gd_s e
  refine Ex_run 3 (i' := 17) (L' := [(2, ((v0 : Nat) : Int)), (2, ((j1 : Nat) : Int)), (0, s.1), (0, s.2.1), (0, s.2.2.1), j5, j6]) (st' := [(0, (s.2.2.2 v0 3)), (0, s.2.2.1)]) (h' := (G, ρ, s.2.2.2)) hm rfl (cjc (gk_b g5) cjn) ?_
  by_cases c6 : (s.2.2.2 v0 3) < s.2.2.1
  · replace e := it_p e c6
    refine Ex_if2t (c := 4) (tgt := 55) hm rfl (bt4 c6) ?_
    obtain ⟨x, e, hx⟩ := xr_s e
    replace hk : (Bi G ρ) x rr := by rw [hx] at hk; exact hk
    refine Ex_run 1 (i' := 56) (L' := [(2, ((v0 : Nat) : Int)), (2, ((j1 : Nat) : Int)), (0, s.1), (0, s.2.1), (0, s.2.2.1), j5, j6]) (st' := [(0, s.1)]) (h' := (G, ρ, s.2.2.2)) hm rfl cjn ?_
    cases e
    cases hk
    exact Ex_ret (k := 1) hm rfl ⟨_, rfl, rfl⟩
  · replace e := it_n e c6
    refine Ex_if2f (c := 4) (tgt := 55) hm rfl (bf4 c6) ?_
    refine Ex_run 1 (i' := 19) (L' := [(2, ((v0 : Nat) : Int)), (2, ((j1 : Nat) : Int)), (0, s.1), (0, s.2.1), (0, s.2.2.1), j5, j6]) (st' := [(0, s.2.1)]) (h' := (G, ρ, s.2.2.2)) hm rfl cjn ?_
    by_cases c7 : s.2.1 = 0
    · replace e := it_p e c7
      refine Ex_if1t (c := 0) (tgt := 55) hm rfl (bt0 c7) ?_
      obtain ⟨x, e, hx⟩ := xr_s e
      replace hk : (Bi G ρ) x rr := by rw [hx] at hk; exact hk
      refine Ex_run 1 (i' := 56) (L' := [(2, ((v0 : Nat) : Int)), (2, ((j1 : Nat) : Int)), (0, s.1), (0, s.2.1), (0, s.2.2.1), j5, j6]) (st' := [(0, s.1)]) (h' := (G, ρ, s.2.2.2)) hm rfl cjn ?_
      cases e
      cases hk
      exact Ex_ret (k := 1) hm rfl ⟨_, rfl, rfl⟩
    · replace e := it_n e c7
      refine Ex_if1f (c := 0) (tgt := 55) hm rfl (bf0 c7) ?_
      refine Ex_run 4 (i' := 24) (L' := [(2, ((v0 : Nat) : Int)), (2, ((j1 : Nat) : Int)), (0, s.1), (0, 0), (0, s.2.2.1), (0, 0), j6]) (st' := []) (h' := (G, ρ, s.2.2.2)) hm rfl (cjc (Nat.le_of_ble_eq_true rfl) (cjc (Nat.le_of_ble_eq_true rfl) cjn)) ?_
      exact (Ex_lp (A := e87_24 G ρ d v0 s.2.2.1 ) (B := (DS (e87_14 G ρ d v0) (Bi G ρ))) (fun s x e rr hk => tf87_b24 e hd rr hk) FU _ _ e rr hk) _ _
theorem tf87 {G : Gg} {ρ : Rg} {d : Nat} {v0 : Nat} {v1 : Nat} {m : Sg} {x : Int × Sg} (e : f87 G ρ v0 v1 m = some x) (hd : 3 ≤ d) : Ex d 87 0 [(2, ((v0 : Nat) : Int)), (2, ((v1 : Nat) : Int)), (9, 0), (9, 0), (9, 0), (9, 0), (9, 0)] [] (G, ρ, m) (some (0, x.1), (G, ρ, x.2)) := by
  unfold f87 at e
  have hm := mi_87
  generalize hk : (some (0, x.1), (G, ρ, x.2)) = rr
  replace hk : (Bi G ρ) x rr := hk.symm
  refine Ex_run 2 (i' := 2) (L' := [(2, ((v0 : Nat) : Int)), (2, ((v1 : Nat) : Int)), (9, 0), (9, 0), (9, 0), (9, 0), (9, 0)]) (st' := [(2, ((v1 : Nat) : Int)), (2, ((v0 : Nat) : Int))]) (h' := (G, ρ, m)) hm rfl cjn ?_
  obtain ⟨g1, e⟩ := gd_s e
  obtain ⟨q2, h2, e⟩ := bn_s e
  refine Ex_callm (z := 92) (na := 2) (ck := 13) (as := [(2, ((v0 : Nat) : Int)), (2, ((v1 : Nat) : Int))]) (rest := []) (E0 := [(2, ((v0 : Nat) : Int)), (2, ((v1 : Nat) : Int)), (9, 0), (9, 0)]) (v := none) (h1 := (G, ρ, q2)) hm rfl (by omega) ⟨Nat.le_of_ble_eq_true rfl, Nat.le_of_ble_eq_true rfl⟩ (rc2 rfl g1) rfl rfl ml_92 rfl (Nat.le_of_ble_eq_true rfl) (tf92 h2 (by omega)) ?_
  show Ex d 87 3 [(2, ((v0 : Nat) : Int)), (2, ((v1 : Nat) : Int)), (9, 0), (9, 0), (9, 0), (9, 0), (9, 0)] [] (G, ρ, q2) rr
  refine Ex_run 3 (i' := 6) (L' := [(2, ((v0 : Nat) : Int)), (2, ((v1 : Nat) : Int)), (9, 0), (9, 0), (9, 0), (9, 0), (9, 0)]) (st' := [(0, 0), (2, (((ρ v0 0) : Nat) : Int))]) (h' := (G, ρ, q2)) hm rfl (cjc (gk_b g1) cjn) ?_
  obtain ⟨g3, e⟩ := gd_s e
  obtain ⟨q4, h4, e⟩ := bn_s e
  refine Ex_callm (z := 35) (na := 2) (ck := 6) (as := [(2, (((ρ v0 0) : Nat) : Int)), (0, 0)]) (rest := []) (E0 := [(2, (((ρ v0 0) : Nat) : Int)), (0, 0), (9, 0)]) (v := none) (h1 := (G, ρ, q4)) hm rfl (by omega) ⟨Nat.le_of_ble_eq_true rfl, Nat.le_of_ble_eq_true rfl⟩ (rc2 rfl g3) rfl rfl ml_35 rfl (Nat.le_of_ble_eq_true rfl) (tf35 h4 (by omega)) ?_
  show Ex d 87 7 [(2, ((v0 : Nat) : Int)), (2, ((v1 : Nat) : Int)), (9, 0), (9, 0), (9, 0), (9, 0), (9, 0)] [] (G, ρ, q4) rr
  refine Ex_run 7 (i' := 14) (L' := [(2, ((v0 : Nat) : Int)), (2, ((v1 : Nat) : Int)), (0, (q4 v0 3)), (0, 1), (0, 1), (9, 0), (9, 0)]) (st' := []) (h' := (G, ρ, q4)) hm rfl (cjc (gk_b g1) (cjc (Nat.le_of_ble_eq_true rfl) (cjc (Nat.le_of_ble_eq_true rfl) (cjc (Nat.le_of_ble_eq_true rfl) cjn)))) ?_
  exact (Ex_lp (A := e87_14 G ρ d v0 ) (B := (Bi G ρ)) (fun s x e rr hk => tf87_b14 e hd rr hk) FU _ _ e rr hk) _ _ _
theorem tf2_b9 {G : Gg} {ρ : Rg} {d : Nat} {v0 : Nat} {v2 : Int} {s : Int × Sg} {x : (Int × Sg) ⊕ ((Int × Sg) ⊕ (Int × Sg))} (e : f2_b9 G ρ v0 v2 s = some x) (hd : 4 ≤ d) (rr : Option MV × Mh) (hk : (DS (e2_9 G ρ d v0 v2) (DS (e2_2 G ρ d v0) (Bi G ρ))) x rr) : e2_9 G ρ d v0 v2 s rr := by
  unfold f2_b9 at e
  have hm := mi_2
  show ∀ (j1 : Int), Ex d 2 9 [(2, ((v0 : Nat) : Int)), (0, j1), (0, v2), (0, s.1)] [] (G, ρ, s.2) rr
  intro j1
  refine Ex_run 2 (i' := 11) (L' := [(2, ((v0 : Nat) : Int)), (0, j1), (0, v2), (0, s.1)]) (st' := [(0, 4), (0, s.1)]) (h' := (G, ρ, s.2)) hm rfl cjn ?_
  by_cases c4 : s.1 < 4
  · replace e := it_p e c4
    refine Ex_if2f (c := 3) (tgt := 40) hm rfl (bf3 c4) ?_
    obtain ⟨g5, e⟩ := gd_s e
    obtain ⟨g6, e⟩ := gd_s e
    refine Ex_run 5 (i' := 17) (L' := [(2, ((v0 : Nat) : Int)), (0, j1), (0, v2), (0, s.1)]) (st' := [(0, v2), (2, (((ρ (ρ v0 0) 1) : Nat) : Int)), (0, s.1)]) (h' := (G, ρ, s.2)) hm rfl (cjc (gk_b g5) (cjc (gk_b g6) cjn)) ?_
    obtain ⟨g7, e⟩ := gd_s e
    obtain ⟨q8, h8, e⟩ := bn_s e
    refine Ex_callm (z := 33) (na := 2) (ck := 6) (as := [(2, (((ρ (ρ v0 0) 1) : Nat) : Int)), (0, v2)]) (rest := [(0, s.1)]) (E0 := [(2, (((ρ (ρ v0 0) 1) : Nat) : Int)), (0, v2)]) (v := some (0, q8)) (h1 := (G, ρ, s.2)) hm rfl (by omega) ⟨Nat.le_of_ble_eq_true rfl, Nat.le_of_ble_eq_true rfl⟩ (rc2 rfl g7) rfl rfl ml_33 rfl (Nat.le_of_ble_eq_true rfl) (tf33 h8 (by omega)) ?_
    show Ex d 2 18 [(2, ((v0 : Nat) : Int)), (0, j1), (0, v2), (0, s.1)] [(0, q8), (0, s.1)] (G, ρ, s.2) rr
    by_cases c9 : s.1 = q8
    · replace e := it_p e c9
      refine Ex_if2f (c := 1) (tgt := 20) hm rfl (bf1 c9) ?_
      refine Ex_run 3 (i' := 9) (L' := [(2, ((v0 : Nat) : Int)), (0, j1), (0, v2), (0, (w32 (s.1 + 1)))]) (st' := []) (h' := (G, ρ, s.2)) hm rfl cjn ?_
      cases e
      exact hk _
    · replace e := it_n e c9
      refine Ex_if2t (c := 1) (tgt := 20) hm rfl (bt1 c9) ?_
      obtain ⟨g10, e⟩ := gd_s e
      refine Ex_run 5 (i' := 25) (L' := [(2, ((v0 : Nat) : Int)), (0, j1), (0, v2), (0, s.1)]) (st' := [(0, s.1), (0, v2), (2, (((ρ (ρ v0 1) 1) : Nat) : Int))]) (h' := (G, ρ, s.2)) hm rfl (cjc (gk_b g5) (cjc (gk_b g10) cjn)) ?_
      obtain ⟨g11, e⟩ := gd_s e
      obtain ⟨q12, h12, e⟩ := bn_s e
      refine Ex_callm (z := 34) (na := 3) (ck := 6) (as := [(2, (((ρ (ρ v0 1) 1) : Nat) : Int)), (0, v2), (0, s.1)]) (rest := []) (E0 := [(2, (((ρ (ρ v0 1) 1) : Nat) : Int)), (0, v2), (0, s.1)]) (v := none) (h1 := (G, ρ, q12)) hm rfl (by omega) ⟨Nat.le_of_ble_eq_true rfl, Nat.le_of_ble_eq_true rfl⟩ (rc2 rfl g11) rfl rfl ml_34 rfl (Nat.le_of_ble_eq_true rfl) (tf34 h12 (by omega)) ?_
      show Ex d 2 26 [(2, ((v0 : Nat) : Int)), (0, j1), (0, v2), (0, s.1)] [] (G, ρ, q12) rr
      refine Ex_run 4 (i' := 30) (L' := [(2, ((v0 : Nat) : Int)), (0, j1), (0, v2), (0, s.1)]) (st' := [(2, (((ρ v0 1) : Nat) : Int)), (2, (((ρ v0 2) : Nat) : Int))]) (h' := (G, ρ, q12)) hm rfl (cjc (gk_b g5) (cjc (gk_b g5) cjn)) ?_
      obtain ⟨g13, e⟩ := gd_s e
      obtain ⟨q14, h14, e⟩ := bn_s e
      refine Ex_callm (z := 87) (na := 2) (ck := 13) (as := [(2, (((ρ v0 2) : Nat) : Int)), (2, (((ρ v0 1) : Nat) : Int))]) (rest := []) (E0 := [(2, (((ρ v0 2) : Nat) : Int)), (2, (((ρ v0 1) : Nat) : Int)), (9, 0), (9, 0), (9, 0), (9, 0), (9, 0)]) (v := some (0, q14.1)) (h1 := (G, ρ, q14.2)) hm rfl (by omega) ⟨Nat.le_of_ble_eq_true rfl, Nat.le_of_ble_eq_true rfl⟩ (rc2 rfl g13) rfl rfl ml_87 rfl (Nat.le_of_ble_eq_true rfl) (tf87 h14 (by omega)) ?_
      show Ex d 2 31 [(2, ((v0 : Nat) : Int)), (0, j1), (0, v2), (0, s.1)] [(0, q14.1)] (G, ρ, q14.2) rr
      by_cases c15 : q14.1 = 0
      · replace e := it_p e c15
        refine Ex_if1f (c := 1) (tgt := 38) hm rfl (bf1 c15) ?_
        obtain ⟨x, e, hx⟩ := xr_s e
        replace hk : (DS (e2_2 G ρ d v0) (Bi G ρ)) x rr := by rw [hx] at hk; exact hk
        obtain ⟨x, e, hx⟩ := xr_s e
        replace hk : (Bi G ρ) x rr := by rw [hx] at hk; exact hk
        refine Ex_run 5 (i' := 37) (L' := [(2, ((v0 : Nat) : Int)), (0, j1), (0, v2), (0, s.1)]) (st' := [(0, (g_add (g_mul 10 v2) s.1))]) (h' := (G, ρ, q14.2)) hm rfl cjn ?_
        cases e
        cases hk
        exact Ex_ret (k := 1) hm rfl ⟨_, rfl, rfl⟩
      · replace e := it_n e c15
        refine Ex_if1t (c := 1) (tgt := 38) hm rfl (bt1 c15) ?_
        refine Ex_run 2 (i' := 9) (L' := [(2, ((v0 : Nat) : Int)), (0, j1), (0, v2), (0, (w32 (s.1 + 1)))]) (st' := []) (h' := (G, ρ, q14.2)) hm rfl cjn ?_
        cases e
        exact hk _
  · replace e := it_n e c4
    refine Ex_if2t (c := 3) (tgt := 40) hm rfl (bt3 c4) ?_
    obtain ⟨x, e, hx⟩ := xr_s e
    replace hk : (DS (e2_2 G ρ d v0) (Bi G ρ)) x rr := by rw [hx] at hk; exact hk
    obtain ⟨g16, e⟩ := gd_s e
    obtain ⟨g17, e⟩ := gd_s e
    obtain ⟨g18, e⟩ := gd_s e
    refine Ex_run 8 (i' := 48) (L' := [(2, ((v0 : Nat) : Int)), (0, j1), (0, v2), (0, s.1)]) (st' := [(0, v2), (2, (((ρ (ρ v0 0) 1) : Nat) : Int)), (0, v2), (2, (((ρ (ρ v0 1) 1) : Nat) : Int))]) (h' := (G, ρ, s.2)) hm rfl (cjc (gk_b g16) (cjc (gk_b g17) (cjc (gk_b g16) (cjc (gk_b g18) cjn)))) ?_
    obtain ⟨g19, e⟩ := gd_s e
    obtain ⟨q20, h20, e⟩ := bn_s e
    refine Ex_callm (z := 33) (na := 2) (ck := 6) (as := [(2, (((ρ (ρ v0 0) 1) : Nat) : Int)), (0, v2)]) (rest := [(0, v2), (2, (((ρ (ρ v0 1) 1) : Nat) : Int))]) (E0 := [(2, (((ρ (ρ v0 0) 1) : Nat) : Int)), (0, v2)]) (v := some (0, q20)) (h1 := (G, ρ, s.2)) hm rfl (by omega) ⟨Nat.le_of_ble_eq_true rfl, Nat.le_of_ble_eq_true rfl⟩ (rc2 rfl g19) rfl rfl ml_33 rfl (Nat.le_of_ble_eq_true rfl) (tf33 h20 (by omega)) ?_
    show Ex d 2 49 [(2, ((v0 : Nat) : Int)), (0, j1), (0, v2), (0, s.1)] [(0, q20), (0, v2), (2, (((ρ (ρ v0 1) 1) : Nat) : Int))] (G, ρ, s.2) rr
    obtain ⟨g21, e⟩ := gd_s e
    obtain ⟨q22, h22, e⟩ := bn_s e
    refine Ex_callm (z := 34) (na := 3) (ck := 6) (as := [(2, (((ρ (ρ v0 1) 1) : Nat) : Int)), (0, v2), (0, q20)]) (rest := []) (E0 := [(2, (((ρ (ρ v0 1) 1) : Nat) : Int)), (0, v2), (0, q20)]) (v := none) (h1 := (G, ρ, q22)) hm rfl (by omega) ⟨Nat.le_of_ble_eq_true rfl, Nat.le_of_ble_eq_true rfl⟩ (rc2 rfl g21) rfl rfl ml_34 rfl (Nat.le_of_ble_eq_true rfl) (tf34 h22 (by omega)) ?_
    show Ex d 2 50 [(2, ((v0 : Nat) : Int)), (0, j1), (0, v2), (0, s.1)] [] (G, ρ, q22) rr
    refine Ex_run 2 (i' := 2) (L' := [(2, ((v0 : Nat) : Int)), (0, j1), (0, (w32 (v2 + 1))), (0, s.1)]) (st' := []) (h' := (G, ρ, q22)) hm rfl cjn ?_
    cases e
    exact hk _ _
theorem tf2_b2 {G : Gg} {ρ : Rg} {d : Nat} {v0 : Nat} {s : Int × Sg} {x : (Int × Sg) ⊕ (Int × Sg)} (e : f2_b2 G ρ v0 s = some x) (hd : 4 ≤ d) (rr : Option MV × Mh) (hk : (DS (e2_2 G ρ d v0) (Bi G ρ)) x rr) : e2_2 G ρ d v0 s rr := by
  unfold f2_b2 at e
  have hm := mi_2
  show ∀ (j1 : Int) (j3 : MV), Ex d 2 2 [(2, ((v0 : Nat) : Int)), (0, j1), (0, s.1), j3] [] (G, ρ, s.2) rr
  intro j1 j3
  obtain ⟨g1, e⟩ := gd_s e
  obtain ⟨g2, e⟩ := gd_s e
  refine Ex_run 4 (i' := 6) (L' := [(2, ((v0 : Nat) : Int)), (0, j1), (0, s.1), j3]) (st' := [(0, (s.2 (ρ v0 0) 0)), (0, s.1)]) (h' := (G, ρ, s.2)) hm rfl (cjc (gk_b g1) (cjc (gk_b g2) cjn)) ?_
  by_cases c3 : s.1 < (s.2 (ρ v0 0) 0)
  · replace e := it_p e c3
    refine Ex_if2f (c := 3) (tgt := 52) hm rfl (bf3 c3) ?_
    refine Ex_run 2 (i' := 9) (L' := [(2, ((v0 : Nat) : Int)), (0, j1), (0, s.1), (0, 0)]) (st' := []) (h' := (G, ρ, s.2)) hm rfl (cjc (Nat.le_of_ble_eq_true rfl) cjn) ?_
    exact (Ex_lp (A := e2_9 G ρ d v0 s.1 ) (B := (DS (e2_2 G ρ d v0) (Bi G ρ))) (fun s x e rr hk => tf2_b9 e hd rr hk) FU _ _ e rr hk) _
  · replace e := it_n e c3
    refine Ex_if2t (c := 3) (tgt := 52) hm rfl (bt3 c3) ?_
    obtain ⟨x, e, hx⟩ := xr_s e
    replace hk : (Bi G ρ) x rr := by rw [hx] at hk; exact hk
    refine Ex_run 1 (i' := 53) (L' := [(2, ((v0 : Nat) : Int)), (0, j1), (0, s.1), j3]) (st' := [(0, (-1))]) (h' := (G, ρ, s.2)) hm rfl cjn ?_
    cases e
    cases hk
    exact Ex_ret (k := 1) hm rfl ⟨_, rfl, rfl⟩
theorem tf2 {G : Gg} {ρ : Rg} {d : Nat} {v0 : Nat} {v1 : Int} {m : Sg} {x : Int × Sg} (e : f2 G ρ v0 v1 m = some x) (hd : 4 ≤ d) : Ex d 2 0 [(2, ((v0 : Nat) : Int)), (0, v1), (9, 0), (9, 0)] [] (G, ρ, m) (some (0, x.1), (G, ρ, x.2)) := by
  unfold f2 at e
  have hm := mi_2
  generalize hk : (some (0, x.1), (G, ρ, x.2)) = rr
  replace hk : (Bi G ρ) x rr := hk.symm
  refine Ex_run 2 (i' := 2) (L' := [(2, ((v0 : Nat) : Int)), (0, v1), (0, v1), (9, 0)]) (st' := []) (h' := (G, ρ, m)) hm rfl (cjc (Nat.le_of_ble_eq_true rfl) cjn) ?_
  exact (Ex_lp (A := e2_2 G ρ d v0 ) (B := (Bi G ρ)) (fun s x e rr hk => tf2_b2 e hd rr hk) FU _ _ e rr hk) _ _
theorem tf40 {G : Gg} {ρ : Rg} {d : Nat} {v0 : Nat} {v1 : Int} {v2 : Int} {v3 : Int} {m : Sg} {x : Sg} (e : f40 G ρ v0 v1 v2 v3 m = some x) (hd : 1 ≤ d) : Ex d 40 0 [(2, ((v0 : Nat) : Int)), (0, v1), (0, v2), (0, v3)] [] (G, ρ, m) (none, (G, ρ, x)) := by
  unfold f40 at e
  have hm := mi_40
  generalize hk : (none, (G, ρ, x)) = rr
  replace hk : (Bv G ρ) x rr := hk.symm
  obtain ⟨g1, e⟩ := gd_s e
  refine Ex_run 4 (i' := 4) (L' := [(2, ((v0 : Nat) : Int)), (0, v1), (0, v2), (0, v3)]) (st' := [(0, v2), (0, v1), (2, (((ρ v0 1) : Nat) : Int))]) (h' := (G, ρ, m)) hm rfl (cjc (gk_b g1) cjn) ?_
  obtain ⟨g2, e⟩ := gd_s e
  obtain ⟨q3, h3, e⟩ := bn_s e
  refine Ex_callm (z := 34) (na := 3) (ck := 6) (as := [(2, (((ρ v0 1) : Nat) : Int)), (0, v1), (0, v2)]) (rest := []) (E0 := [(2, (((ρ v0 1) : Nat) : Int)), (0, v1), (0, v2)]) (v := none) (h1 := (G, ρ, q3)) hm rfl (by omega) ⟨Nat.le_of_ble_eq_true rfl, Nat.le_of_ble_eq_true rfl⟩ (rc2 rfl g2) rfl rfl ml_34 rfl (Nat.le_of_ble_eq_true rfl) (tf34 h3 (by omega)) ?_
  show Ex d 40 5 [(2, ((v0 : Nat) : Int)), (0, v1), (0, v2), (0, v3)] [] (G, ρ, q3) rr
  refine Ex_run 4 (i' := 9) (L' := [(2, ((v0 : Nat) : Int)), (0, v1), (0, v2), (0, v3)]) (st' := [(0, v3), (0, v1), (2, (((ρ v0 2) : Nat) : Int))]) (h' := (G, ρ, q3)) hm rfl (cjc (gk_b g1) cjn) ?_
  obtain ⟨g4, e⟩ := gd_s e
  obtain ⟨q5, h5, e⟩ := bn_s e
  refine Ex_callm (z := 34) (na := 3) (ck := 6) (as := [(2, (((ρ v0 2) : Nat) : Int)), (0, v1), (0, v3)]) (rest := []) (E0 := [(2, (((ρ v0 2) : Nat) : Int)), (0, v1), (0, v3)]) (v := none) (h1 := (G, ρ, q5)) hm rfl (by omega) ⟨Nat.le_of_ble_eq_true rfl, Nat.le_of_ble_eq_true rfl⟩ (rc2 rfl g4) rfl rfl ml_34 rfl (Nat.le_of_ble_eq_true rfl) (tf34 h5 (by omega)) ?_
  show Ex d 40 10 [(2, ((v0 : Nat) : Int)), (0, v1), (0, v2), (0, v3)] [] (G, ρ, q5) rr
  cases e
  cases hk
  exact Ex_ret (k := 0) hm rfl ⟨rfl, rfl⟩
theorem tf41_b2 {G : Gg} {ρ : Rg} {d : Nat} {v0 : Nat} {v1 : Nat} {s : Int × Sg} {x : (Int × Sg) ⊕ (Sg)} (e : f41_b2 G ρ v0 v1 s = some x) (hd : 2 ≤ d) (rr : Option MV × Mh) (hk : (DS (e41_2 G ρ d v0 v1) (Bv G ρ)) x rr) : e41_2 G ρ d v0 v1 s rr := by
  unfold f41_b2 at e
  have hm := mi_41
  show Ex d 41 2 [(2, ((v0 : Nat) : Int)), (2, ((v1 : Nat) : Int)), (0, s.1)] [] (G, ρ, s.2) rr
  refine Ex_run 2 (i' := 4) (L' := [(2, ((v0 : Nat) : Int)), (2, ((v1 : Nat) : Int)), (0, s.1)]) (st' := [(0, 10), (0, s.1)]) (h' := (G, ρ, s.2)) hm rfl cjn ?_
  by_cases c1 : s.1 < 10
  · replace e := it_p e c1
    refine Ex_if2f (c := 3) (tgt := 18) hm rfl (bf3 c1) ?_
    obtain ⟨g2, e⟩ := gd_s e
    refine Ex_run 5 (i' := 10) (L' := [(2, ((v0 : Nat) : Int)), (2, ((v1 : Nat) : Int)), (0, s.1)]) (st' := [(0, s.1), (2, (((ρ v1 1) : Nat) : Int)), (0, s.1), (2, ((v0 : Nat) : Int))]) (h' := (G, ρ, s.2)) hm rfl (cjc (gk_b g2) cjn) ?_
    obtain ⟨g3, e⟩ := gd_s e
    obtain ⟨q4, h4, e⟩ := bn_s e
    refine Ex_callm (z := 33) (na := 2) (ck := 6) (as := [(2, (((ρ v1 1) : Nat) : Int)), (0, s.1)]) (rest := [(0, s.1), (2, ((v0 : Nat) : Int))]) (E0 := [(2, (((ρ v1 1) : Nat) : Int)), (0, s.1)]) (v := some (0, q4)) (h1 := (G, ρ, s.2)) hm rfl (by omega) ⟨Nat.le_of_ble_eq_true rfl, Nat.le_of_ble_eq_true rfl⟩ (rc2 rfl g3) rfl rfl ml_33 rfl (Nat.le_of_ble_eq_true rfl) (tf33 h4 (by omega)) ?_
    show Ex d 41 11 [(2, ((v0 : Nat) : Int)), (2, ((v1 : Nat) : Int)), (0, s.1)] [(0, q4), (0, s.1), (2, ((v0 : Nat) : Int))] (G, ρ, s.2) rr
    refine Ex_run 3 (i' := 14) (L' := [(2, ((v0 : Nat) : Int)), (2, ((v1 : Nat) : Int)), (0, s.1)]) (st' := [(0, s.1), (2, (((ρ v1 2) : Nat) : Int)), (0, q4), (0, s.1), (2, ((v0 : Nat) : Int))]) (h' := (G, ρ, s.2)) hm rfl (cjc (gk_b g2) cjn) ?_
    obtain ⟨g5, e⟩ := gd_s e
    obtain ⟨q6, h6, e⟩ := bn_s e
    refine Ex_callm (z := 33) (na := 2) (ck := 6) (as := [(2, (((ρ v1 2) : Nat) : Int)), (0, s.1)]) (rest := [(0, q4), (0, s.1), (2, ((v0 : Nat) : Int))]) (E0 := [(2, (((ρ v1 2) : Nat) : Int)), (0, s.1)]) (v := some (0, q6)) (h1 := (G, ρ, s.2)) hm rfl (by omega) ⟨Nat.le_of_ble_eq_true rfl, Nat.le_of_ble_eq_true rfl⟩ (rc2 rfl g5) rfl rfl ml_33 rfl (Nat.le_of_ble_eq_true rfl) (tf33 h6 (by omega)) ?_
    show Ex d 41 15 [(2, ((v0 : Nat) : Int)), (2, ((v1 : Nat) : Int)), (0, s.1)] [(0, q6), (0, q4), (0, s.1), (2, ((v0 : Nat) : Int))] (G, ρ, s.2) rr
    obtain ⟨g7, e⟩ := gd_s e
    obtain ⟨q8, h8, e⟩ := bn_s e
    refine Ex_callm (z := 40) (na := 4) (ck := 7) (as := [(2, ((v0 : Nat) : Int)), (0, s.1), (0, q4), (0, q6)]) (rest := []) (E0 := [(2, ((v0 : Nat) : Int)), (0, s.1), (0, q4), (0, q6)]) (v := none) (h1 := (G, ρ, q8)) hm rfl (by omega) ⟨Nat.le_of_ble_eq_true rfl, Nat.le_of_ble_eq_true rfl⟩ (rc2 rfl g7) rfl rfl ml_40 rfl (Nat.le_of_ble_eq_true rfl) (tf40 h8 (by omega)) ?_
    show Ex d 41 16 [(2, ((v0 : Nat) : Int)), (2, ((v1 : Nat) : Int)), (0, s.1)] [] (G, ρ, q8) rr
    refine Ex_run 2 (i' := 2) (L' := [(2, ((v0 : Nat) : Int)), (2, ((v1 : Nat) : Int)), (0, (w32 (s.1 + 1)))]) (st' := []) (h' := (G, ρ, q8)) hm rfl cjn ?_
    cases e
    exact hk
  · replace e := it_n e c1
    refine Ex_if2t (c := 3) (tgt := 18) hm rfl (bt3 c1) ?_
    obtain ⟨x, e, hx⟩ := xr_s e
    replace hk : (Bv G ρ) x rr := by rw [hx] at hk; exact hk
    obtain ⟨g9, e⟩ := gd_s e
    obtain ⟨g10, e⟩ := gd_s e
    refine Ex_run 4 (i' := 22) (L' := [(2, ((v0 : Nat) : Int)), (2, ((v1 : Nat) : Int)), (0, s.1)]) (st' := []) (h' := (G, ρ, (put s.2 v0 3 (s.2 v1 3)))) hm rfl (cjc (gk_b g9) (cjc (gk_b g10) cjn)) ?_
    cases e
    cases hk
    exact Ex_ret (k := 0) hm rfl ⟨rfl, rfl⟩
theorem tf41 {G : Gg} {ρ : Rg} {d : Nat} {v0 : Nat} {v1 : Nat} {m : Sg} {x : Sg} (e : f41 G ρ v0 v1 m = some x) (hd : 2 ≤ d) : Ex d 41 0 [(2, ((v0 : Nat) : Int)), (2, ((v1 : Nat) : Int)), (9, 0)] [] (G, ρ, m) (none, (G, ρ, x)) := by
  unfold f41 at e
  have hm := mi_41
  generalize hk : (none, (G, ρ, x)) = rr
  replace hk : (Bv G ρ) x rr := hk.symm
  refine Ex_run 2 (i' := 2) (L' := [(2, ((v0 : Nat) : Int)), (2, ((v1 : Nat) : Int)), (0, 0)]) (st' := []) (h' := (G, ρ, m)) hm rfl (cjc (Nat.le_of_ble_eq_true rfl) cjn) ?_
  exact (Ex_lp (A := e41_2 G ρ d v0 v1 ) (B := (Bv G ρ)) (fun s x e rr hk => tf41_b2 e hd rr hk) FU _ _ e rr hk)
theorem tf42_b11 {G : Gg} {ρ : Rg} {d : Nat} {v0 : Nat} {v1 : Nat} {m : Sg} {s : Int × Int} {x : (Int × Int) ⊕ (Int)} (e : f42_b11 G ρ v0 v1 m s = some x) (hd : 1 ≤ d) (rr : Option MV × Mh) (hk : (DS (e42_11 G ρ d v0 v1 m) (Bpi G ρ m)) x rr) : e42_11 G ρ d v0 v1 m s rr := by
  unfold f42_b11 at e
  have hm := mi_42
  show Ex d 42 11 [(2, ((v0 : Nat) : Int)), (2, ((v1 : Nat) : Int)), (0, s.1), (0, s.2)] [] (G, ρ, m) rr
  refine Ex_run 2 (i' := 13) (L' := [(2, ((v0 : Nat) : Int)), (2, ((v1 : Nat) : Int)), (0, s.1), (0, s.2)]) (st' := [(0, 10), (0, s.2)]) (h' := (G, ρ, m)) hm rfl cjn ?_
  by_cases c4 : s.2 < 10
  · replace e := it_p e c4
    refine Ex_if2f (c := 3) (tgt := 40) hm rfl (bf3 c4) ?_
    obtain ⟨g5, e⟩ := gd_s e
    refine Ex_run 4 (i' := 18) (L' := [(2, ((v0 : Nat) : Int)), (2, ((v1 : Nat) : Int)), (0, s.1), (0, s.2)]) (st' := [(0, s.2), (2, (((ρ v0 1) : Nat) : Int)), (0, s.1)]) (h' := (G, ρ, m)) hm rfl (cjc (gk_b g5) cjn) ?_
    obtain ⟨g6, e⟩ := gd_s e
    obtain ⟨q7, h7, e⟩ := bn_s e
    refine Ex_callm (z := 33) (na := 2) (ck := 6) (as := [(2, (((ρ v0 1) : Nat) : Int)), (0, s.2)]) (rest := [(0, s.1)]) (E0 := [(2, (((ρ v0 1) : Nat) : Int)), (0, s.2)]) (v := some (0, q7)) (h1 := (G, ρ, m)) hm rfl (by omega) ⟨Nat.le_of_ble_eq_true rfl, Nat.le_of_ble_eq_true rfl⟩ (rc2 rfl g6) rfl rfl ml_33 rfl (Nat.le_of_ble_eq_true rfl) (tf33 h7 (by omega)) ?_
    show Ex d 42 19 [(2, ((v0 : Nat) : Int)), (2, ((v1 : Nat) : Int)), (0, s.1), (0, s.2)] [(0, q7), (0, s.1)] (G, ρ, m) rr
    obtain ⟨g8, e⟩ := gd_s e
    refine Ex_run 3 (i' := 22) (L' := [(2, ((v0 : Nat) : Int)), (2, ((v1 : Nat) : Int)), (0, s.1), (0, s.2)]) (st' := [(0, s.2), (2, (((ρ v1 1) : Nat) : Int)), (0, q7), (0, s.1)]) (h' := (G, ρ, m)) hm rfl (cjc (gk_b g8) cjn) ?_
    obtain ⟨g9, e⟩ := gd_s e
    obtain ⟨q10, h10, e⟩ := bn_s e
    refine Ex_callm (z := 33) (na := 2) (ck := 6) (as := [(2, (((ρ v1 1) : Nat) : Int)), (0, s.2)]) (rest := [(0, q7), (0, s.1)]) (E0 := [(2, (((ρ v1 1) : Nat) : Int)), (0, s.2)]) (v := some (0, q10)) (h1 := (G, ρ, m)) hm rfl (by omega) ⟨Nat.le_of_ble_eq_true rfl, Nat.le_of_ble_eq_true rfl⟩ (rc2 rfl g9) rfl rfl ml_33 rfl (Nat.le_of_ble_eq_true rfl) (tf33 h10 (by omega)) ?_
    show Ex d 42 23 [(2, ((v0 : Nat) : Int)), (2, ((v1 : Nat) : Int)), (0, s.1), (0, s.2)] [(0, q10), (0, q7), (0, s.1)] (G, ρ, m) rr
    by_cases c11 : q7 = q10
    · replace e := it_p e c11
      refine Ex_if2f (c := 1) (tgt := 35) hm rfl (bf1 c11) ?_
      refine Ex_run 3 (i' := 27) (L' := [(2, ((v0 : Nat) : Int)), (2, ((v1 : Nat) : Int)), (0, s.1), (0, s.2)]) (st' := [(0, s.2), (2, (((ρ v0 2) : Nat) : Int)), (0, s.1)]) (h' := (G, ρ, m)) hm rfl (cjc (gk_b g5) cjn) ?_
      obtain ⟨g12, e⟩ := gd_s e
      obtain ⟨q13, h13, e⟩ := bn_s e
      refine Ex_callm (z := 33) (na := 2) (ck := 6) (as := [(2, (((ρ v0 2) : Nat) : Int)), (0, s.2)]) (rest := [(0, s.1)]) (E0 := [(2, (((ρ v0 2) : Nat) : Int)), (0, s.2)]) (v := some (0, q13)) (h1 := (G, ρ, m)) hm rfl (by omega) ⟨Nat.le_of_ble_eq_true rfl, Nat.le_of_ble_eq_true rfl⟩ (rc2 rfl g12) rfl rfl ml_33 rfl (Nat.le_of_ble_eq_true rfl) (tf33 h13 (by omega)) ?_
      show Ex d 42 28 [(2, ((v0 : Nat) : Int)), (2, ((v1 : Nat) : Int)), (0, s.1), (0, s.2)] [(0, q13), (0, s.1)] (G, ρ, m) rr
      refine Ex_run 3 (i' := 31) (L' := [(2, ((v0 : Nat) : Int)), (2, ((v1 : Nat) : Int)), (0, s.1), (0, s.2)]) (st' := [(0, s.2), (2, (((ρ v1 2) : Nat) : Int)), (0, q13), (0, s.1)]) (h' := (G, ρ, m)) hm rfl (cjc (gk_b g8) cjn) ?_
      obtain ⟨g14, e⟩ := gd_s e
      obtain ⟨q15, h15, e⟩ := bn_s e
      refine Ex_callm (z := 33) (na := 2) (ck := 6) (as := [(2, (((ρ v1 2) : Nat) : Int)), (0, s.2)]) (rest := [(0, q13), (0, s.1)]) (E0 := [(2, (((ρ v1 2) : Nat) : Int)), (0, s.2)]) (v := some (0, q15)) (h1 := (G, ρ, m)) hm rfl (by omega) ⟨Nat.le_of_ble_eq_true rfl, Nat.le_of_ble_eq_true rfl⟩ (rc2 rfl g14) rfl rfl ml_33 rfl (Nat.le_of_ble_eq_true rfl) (tf33 h15 (by omega)) ?_
      show Ex d 42 32 [(2, ((v0 : Nat) : Int)), (2, ((v1 : Nat) : Int)), (0, s.1), (0, s.2)] [(0, q15), (0, q13), (0, s.1)] (G, ρ, m) rr
      by_cases c16 : q13 = q15
      · replace e := it_p e c16
        refine Ex_if2f (c := 1) (tgt := 35) hm rfl (bf1 c16) ?_
        refine Ex_run 6 (i' := 11) (L' := [(2, ((v0 : Nat) : Int)), (2, ((v1 : Nat) : Int)), (0, (g_and s.1 1)), (0, (w32 (s.2 + 1)))]) (st' := []) (h' := (G, ρ, m)) hm rfl (cjc (Nat.le_of_ble_eq_true rfl) cjn) ?_
        cases e
        exact hk
      · replace e := it_n e c16
        refine Ex_if2t (c := 1) (tgt := 35) hm rfl (bt1 c16) ?_
        refine Ex_run 5 (i' := 11) (L' := [(2, ((v0 : Nat) : Int)), (2, ((v1 : Nat) : Int)), (0, (g_and s.1 0)), (0, (w32 (s.2 + 1)))]) (st' := []) (h' := (G, ρ, m)) hm rfl (cjc (Nat.le_of_ble_eq_true rfl) cjn) ?_
        cases e
        exact hk
    · replace e := it_n e c11
      refine Ex_if2t (c := 1) (tgt := 35) hm rfl (bt1 c11) ?_
      refine Ex_run 5 (i' := 11) (L' := [(2, ((v0 : Nat) : Int)), (2, ((v1 : Nat) : Int)), (0, (g_and s.1 0)), (0, (w32 (s.2 + 1)))]) (st' := []) (h' := (G, ρ, m)) hm rfl (cjc (Nat.le_of_ble_eq_true rfl) cjn) ?_
      cases e
      exact hk
  · replace e := it_n e c4
    refine Ex_if2t (c := 3) (tgt := 40) hm rfl (bt3 c4) ?_
    obtain ⟨x, e, hx⟩ := xr_s e
    replace hk : (Bpi G ρ m) x rr := by rw [hx] at hk; exact hk
    refine Ex_run 1 (i' := 41) (L' := [(2, ((v0 : Nat) : Int)), (2, ((v1 : Nat) : Int)), (0, s.1), (0, s.2)]) (st' := [(0, s.1)]) (h' := (G, ρ, m)) hm rfl cjn ?_
    obtain ⟨g17, e⟩ := gd_s e
    cases e
    cases hk
    exact Ex_ret (k := 2) hm rfl ⟨_, rfl, g17, rfl⟩
theorem tf42 {G : Gg} {ρ : Rg} {d : Nat} {v0 : Nat} {v1 : Nat} {m : Sg} {x : Int} (e : f42 G ρ v0 v1 m = some x) (hd : 1 ≤ d) : Ex d 42 0 [(2, ((v0 : Nat) : Int)), (2, ((v1 : Nat) : Int)), (9, 0), (9, 0)] [] (G, ρ, m) (some (0, x), (G, ρ, m)) := by
  unfold f42 at e
  have hm := mi_42
  generalize hk : (some (0, x), (G, ρ, m)) = rr
  replace hk : (Bpi G ρ m) x rr := hk.symm
  obtain ⟨g1, e⟩ := gd_s e
  obtain ⟨g2, e⟩ := gd_s e
  refine Ex_run 4 (i' := 4) (L' := [(2, ((v0 : Nat) : Int)), (2, ((v1 : Nat) : Int)), (9, 0), (9, 0)]) (st' := [(0, (m v1 3)), (0, (m v0 3))]) (h' := (G, ρ, m)) hm rfl (cjc (gk_b g1) (cjc (gk_b g2) cjn)) ?_
  by_cases c3 : (m v0 3) = (m v1 3)
  · replace e := it_p e c3
    refine Ex_if2f (c := 1) (tgt := 7) hm rfl (bf1 c3) ?_
    refine Ex_run 5 (i' := 11) (L' := [(2, ((v0 : Nat) : Int)), (2, ((v1 : Nat) : Int)), (0, 1), (0, 0)]) (st' := []) (h' := (G, ρ, m)) hm rfl (cjc (Nat.le_of_ble_eq_true rfl) (cjc (Nat.le_of_ble_eq_true rfl) cjn)) ?_
    exact (Ex_lp (A := e42_11 G ρ d v0 v1 m ) (B := (Bpi G ρ m)) (fun s x e rr hk => tf42_b11 e hd rr hk) FU _ _ e rr hk)
  · replace e := it_n e c3
    refine Ex_if2t (c := 1) (tgt := 7) hm rfl (bt1 c3) ?_
    refine Ex_run 4 (i' := 11) (L' := [(2, ((v0 : Nat) : Int)), (2, ((v1 : Nat) : Int)), (0, 0), (0, 0)]) (st' := []) (h' := (G, ρ, m)) hm rfl (cjc (Nat.le_of_ble_eq_true rfl) (cjc (Nat.le_of_ble_eq_true rfl) cjn)) ?_
    exact (Ex_lp (A := e42_11 G ρ d v0 v1 m ) (B := (Bpi G ρ m)) (fun s x e rr hk => tf42_b11 e hd rr hk) FU _ _ e rr hk)
theorem tf1_101 {G : Gg} {ρ : Rg} {d : Nat} {v0 : Nat} {v2 : Int} {v3 : Int} {w0 : Int} {w1 : Nat} {m : Sg} {x : (Int × Sg) ⊕ ((Int × Sg) ⊕ (Sg))} (e : f1_101 G ρ v0 v2 v3 w0 w1 m = some x) (hd : 5 ≤ d) (rr : Option MV × Mh) (hk : (DS (e1_60 G ρ d v0 v2) (DS (e1_49 G ρ d v0) (Bv G ρ))) x rr) (j1 : Nat) : Ex d 1 101 [(2, ((v0 : Nat) : Int)), (2, ((j1 : Nat) : Int)), (0, v2), (0, v3)] [(0, w0), (2, ((w1 : Nat) : Int))] (G, ρ, m) rr := by
  unfold f1_101 at e
  have hm := mi_1
  obtain ⟨g30, e⟩ := gd_s e
  refine Ex_run 3 (i' := 60) (L' := [(2, ((v0 : Nat) : Int)), (2, ((j1 : Nat) : Int)), (0, v2), (0, (w32 (v3 + 1)))]) (st' := []) (h' := (G, ρ, (put m w1 4 w0))) hm rfl (cjc (gk_b g30) cjn) ?_
  cases e
  exact hk _
theorem tf1_104 {G : Gg} {ρ : Rg} {d : Nat} {v0 : Nat} {v2 : Int} {m : Sg} {x : (Int × Sg) ⊕ (Sg)} (e : f1_104 G ρ v0 v2 m = some x) (hd : 5 ≤ d) (rr : Option MV × Mh) (hk : (DS (e1_49 G ρ d v0) (Bv G ρ)) x rr) (j1 : Nat) (j3 : Int) : Ex d 1 104 [(2, ((v0 : Nat) : Int)), (2, ((j1 : Nat) : Int)), (0, v2), (0, j3)] [] (G, ρ, m) rr := by
  unfold f1_104 at e
  have hm := mi_1
  obtain ⟨g31, e⟩ := gd_s e
  obtain ⟨g32, e⟩ := gd_s e
  obtain ⟨g33, e⟩ := gd_s e
  refine Ex_run 8 (i' := 112) (L' := [(2, ((v0 : Nat) : Int)), (2, ((j1 : Nat) : Int)), (0, v2), (0, j3)]) (st' := [(0, v2), (2, (((ρ (ρ v0 0) 1) : Nat) : Int)), (0, v2), (2, (((ρ (ρ v0 1) 1) : Nat) : Int))]) (h' := (G, ρ, m)) hm rfl (cjc (gk_b g31) (cjc (gk_b g32) (cjc (gk_b g31) (cjc (gk_b g33) cjn)))) ?_
  obtain ⟨g34, e⟩ := gd_s e
  obtain ⟨q35, h35, e⟩ := bn_s e
  refine Ex_callm (z := 33) (na := 2) (ck := 6) (as := [(2, (((ρ (ρ v0 0) 1) : Nat) : Int)), (0, v2)]) (rest := [(0, v2), (2, (((ρ (ρ v0 1) 1) : Nat) : Int))]) (E0 := [(2, (((ρ (ρ v0 0) 1) : Nat) : Int)), (0, v2)]) (v := some (0, q35)) (h1 := (G, ρ, m)) hm rfl (by omega) ⟨Nat.le_of_ble_eq_true rfl, Nat.le_of_ble_eq_true rfl⟩ (rc2 rfl g34) rfl rfl ml_33 rfl (Nat.le_of_ble_eq_true rfl) (tf33 h35 (by omega)) ?_
  show Ex d 1 113 [(2, ((v0 : Nat) : Int)), (2, ((j1 : Nat) : Int)), (0, v2), (0, j3)] [(0, q35), (0, v2), (2, (((ρ (ρ v0 1) 1) : Nat) : Int))] (G, ρ, m) rr
  obtain ⟨g36, e⟩ := gd_s e
  obtain ⟨q37, h37, e⟩ := bn_s e
  refine Ex_callm (z := 34) (na := 3) (ck := 6) (as := [(2, (((ρ (ρ v0 1) 1) : Nat) : Int)), (0, v2), (0, q35)]) (rest := []) (E0 := [(2, (((ρ (ρ v0 1) 1) : Nat) : Int)), (0, v2), (0, q35)]) (v := none) (h1 := (G, ρ, q37)) hm rfl (by omega) ⟨Nat.le_of_ble_eq_true rfl, Nat.le_of_ble_eq_true rfl⟩ (rc2 rfl g36) rfl rfl ml_34 rfl (Nat.le_of_ble_eq_true rfl) (tf34 h37 (by omega)) ?_
  show Ex d 1 114 [(2, ((v0 : Nat) : Int)), (2, ((j1 : Nat) : Int)), (0, v2), (0, j3)] [] (G, ρ, q37) rr
  refine Ex_run 2 (i' := 49) (L' := [(2, ((v0 : Nat) : Int)), (2, ((j1 : Nat) : Int)), (0, (w32 (v2 + 1))), (0, j3)]) (st' := []) (h' := (G, ρ, q37)) hm rfl cjn ?_
  cases e
  exact hk _ _
theorem tf1_b60 {G : Gg} {ρ : Rg} {d : Nat} {v0 : Nat} {v2 : Int} {s : Int × Sg} {x : (Int × Sg) ⊕ ((Int × Sg) ⊕ (Sg))} (e : f1_b60 G ρ v0 v2 s = some x) (hd : 5 ≤ d) (rr : Option MV × Mh) (hk : (DS (e1_60 G ρ d v0 v2) (DS (e1_49 G ρ d v0) (Bv G ρ))) x rr) : e1_60 G ρ d v0 v2 s rr := by
  unfold f1_b60 at e
  have hm := mi_1
  show ∀ (j1 : Nat), Ex d 1 60 [(2, ((v0 : Nat) : Int)), (2, ((j1 : Nat) : Int)), (0, v2), (0, s.1)] [] (G, ρ, s.2) rr
  intro j1
  refine Ex_run 2 (i' := 62) (L' := [(2, ((v0 : Nat) : Int)), (2, ((j1 : Nat) : Int)), (0, v2), (0, s.1)]) (st' := [(0, 4), (0, s.1)]) (h' := (G, ρ, s.2)) hm rfl cjn ?_
  by_cases c18 : s.1 < 4
  · replace e := it_p e c18
    refine Ex_if2f (c := 3) (tgt := 104) hm rfl (bf3 c18) ?_
    obtain ⟨g19, e⟩ := gd_s e
    refine Ex_run 3 (i' := 66) (L' := [(2, ((v0 : Nat) : Int)), (2, ((j1 : Nat) : Int)), (0, v2), (0, s.1)]) (st' := [(0, (-1)), (0, (s.2 v0 4))]) (h' := (G, ρ, s.2)) hm rfl (cjc (gk_b g19) cjn) ?_
    by_cases c20 : (s.2 v0 4) = (-1)
    · replace e := it_p e c20
      refine Ex_if2f (c := 1) (tgt := 104) hm rfl (bf1 c20) ?_
      obtain ⟨g21, e⟩ := gd_s e
      refine Ex_run 5 (i' := 72) (L' := [(2, ((v0 : Nat) : Int)), (2, ((j1 : Nat) : Int)), (0, v2), (0, s.1)]) (st' := [(0, v2), (2, (((ρ (ρ v0 0) 1) : Nat) : Int)), (0, s.1)]) (h' := (G, ρ, s.2)) hm rfl (cjc (gk_b g19) (cjc (gk_b g21) cjn)) ?_
      obtain ⟨g22, e⟩ := gd_s e
      obtain ⟨q23, h23, e⟩ := bn_s e
      refine Ex_callm (z := 33) (na := 2) (ck := 6) (as := [(2, (((ρ (ρ v0 0) 1) : Nat) : Int)), (0, v2)]) (rest := [(0, s.1)]) (E0 := [(2, (((ρ (ρ v0 0) 1) : Nat) : Int)), (0, v2)]) (v := some (0, q23)) (h1 := (G, ρ, s.2)) hm rfl (by omega) ⟨Nat.le_of_ble_eq_true rfl, Nat.le_of_ble_eq_true rfl⟩ (rc2 rfl g22) rfl rfl ml_33 rfl (Nat.le_of_ble_eq_true rfl) (tf33 h23 (by omega)) ?_
      show Ex d 1 73 [(2, ((v0 : Nat) : Int)), (2, ((j1 : Nat) : Int)), (0, v2), (0, s.1)] [(0, q23), (0, s.1)] (G, ρ, s.2) rr
      by_cases c24 : s.1 = q23
      · replace e := it_p e c24
        refine Ex_if2f (c := 1) (tgt := 75) hm rfl (bf1 c24) ?_
        refine Ex_run 3 (i' := 60) (L' := [(2, ((v0 : Nat) : Int)), (2, ((j1 : Nat) : Int)), (0, v2), (0, (w32 (s.1 + 1)))]) (st' := []) (h' := (G, ρ, s.2)) hm rfl cjn ?_
        cases e
        exact hk _
      · replace e := it_n e c24
        refine Ex_if2t (c := 1) (tgt := 75) hm rfl (bt1 c24) ?_
        obtain ⟨g25, e⟩ := gd_s e
        refine Ex_run 5 (i' := 80) (L' := [(2, ((v0 : Nat) : Int)), (2, ((j1 : Nat) : Int)), (0, v2), (0, s.1)]) (st' := [(0, s.1), (0, v2), (2, (((ρ (ρ v0 1) 1) : Nat) : Int))]) (h' := (G, ρ, s.2)) hm rfl (cjc (gk_b g19) (cjc (gk_b g25) cjn)) ?_
        obtain ⟨g26, e⟩ := gd_s e
        obtain ⟨q27, h27, e⟩ := bn_s e
        refine Ex_callm (z := 34) (na := 3) (ck := 6) (as := [(2, (((ρ (ρ v0 1) 1) : Nat) : Int)), (0, v2), (0, s.1)]) (rest := []) (E0 := [(2, (((ρ (ρ v0 1) 1) : Nat) : Int)), (0, v2), (0, s.1)]) (v := none) (h1 := (G, ρ, q27)) hm rfl (by omega) ⟨Nat.le_of_ble_eq_true rfl, Nat.le_of_ble_eq_true rfl⟩ (rc2 rfl g26) rfl rfl ml_34 rfl (Nat.le_of_ble_eq_true rfl) (tf34 h27 (by omega)) ?_
        show Ex d 1 81 [(2, ((v0 : Nat) : Int)), (2, ((j1 : Nat) : Int)), (0, v2), (0, s.1)] [] (G, ρ, q27) rr
        refine Ex_run 12 (i' := 93) (L' := [(2, ((v0 : Nat) : Int)), (2, ((j1 : Nat) : Int)), (0, v2), (0, s.1)]) (st' := [(0, (g_add v2 1)), (2, ((v0 : Nat) : Int)), (2, ((v0 : Nat) : Int))]) (h' := (G, ρ, (put q27 v0 5 (g_add (g_mul 10 v2) s.1)))) hm rfl (cjc (gk_b g19) cjn) ?_
        obtain ⟨q28, h28, e⟩ := bn_s e
        refine Ex_callm (z := 2) (na := 2) (ck := 3) (as := [(2, ((v0 : Nat) : Int)), (0, (g_add v2 1))]) (rest := [(2, ((v0 : Nat) : Int))]) (E0 := [(2, ((v0 : Nat) : Int)), (0, (g_add v2 1)), (9, 0), (9, 0)]) (v := some (0, q28.1)) (h1 := (G, ρ, q28.2)) hm rfl (by omega) ⟨Nat.le_of_ble_eq_true rfl, Nat.le_of_ble_eq_true rfl⟩ (rc2 rfl g19) rfl rfl ml_2 rfl (Nat.le_of_ble_eq_true rfl) (tf2 h28 (by omega)) ?_
        show Ex d 1 94 [(2, ((v0 : Nat) : Int)), (2, ((j1 : Nat) : Int)), (0, v2), (0, s.1)] [(0, q28.1), (2, ((v0 : Nat) : Int))] (G, ρ, q28.2) rr
        refine Ex_run 4 (i' := 98) (L' := [(2, ((v0 : Nat) : Int)), (2, ((j1 : Nat) : Int)), (0, v2), (0, s.1)]) (st' := [(0, (-1)), (0, ((put q28.2 v0 6 q28.1) v0 6))]) (h' := (G, ρ, (put q28.2 v0 6 q28.1))) hm rfl (cjc (gk_b g19) (cjc (gk_b g19) cjn)) ?_
        by_cases c29 : ((put q28.2 v0 6 q28.1) v0 6) = (-1)
        · replace e := it_p e c29
          refine Ex_if2t (c := 0) (tgt := 102) hm rfl (bt0 c29) ?_
          refine Ex_run 2 (i' := 60) (L' := [(2, ((v0 : Nat) : Int)), (2, ((j1 : Nat) : Int)), (0, v2), (0, (w32 (s.1 + 1)))]) (st' := []) (h' := (G, ρ, (put q28.2 v0 6 q28.1))) hm rfl cjn ?_
          cases e
          exact hk _
        · replace e := it_n e c29
          refine Ex_if2f (c := 0) (tgt := 102) hm rfl (bf0 c29) ?_
          refine Ex_run 2 (i' := 101) (L' := [(2, ((v0 : Nat) : Int)), (2, ((j1 : Nat) : Int)), (0, v2), (0, s.1)]) (st' := [(0, 2), (2, ((v0 : Nat) : Int))]) (h' := (G, ρ, (put q28.2 v0 6 q28.1))) hm rfl cjn ?_
          exact tf1_101 e hd rr hk _
    · replace e := it_n e c20
      refine Ex_if2t (c := 1) (tgt := 104) hm rfl (bt1 c20) ?_
      obtain ⟨x, e, hx⟩ := xr_s e
      replace hk : (DS (e1_49 G ρ d v0) (Bv G ρ)) x rr := by rw [hx] at hk; exact hk
      exact tf1_104 e hd rr hk _ _
  · replace e := it_n e c18
    refine Ex_if2t (c := 3) (tgt := 104) hm rfl (bt3 c18) ?_
    obtain ⟨x, e, hx⟩ := xr_s e
    replace hk : (DS (e1_49 G ρ d v0) (Bv G ρ)) x rr := by rw [hx] at hk; exact hk
    exact tf1_104 e hd rr hk _ _
theorem tf1_b49 {G : Gg} {ρ : Rg} {d : Nat} {v0 : Nat} {s : Int × Sg} {x : (Int × Sg) ⊕ (Sg)} (e : f1_b49 G ρ v0 s = some x) (hd : 5 ≤ d) (rr : Option MV × Mh) (hk : (DS (e1_49 G ρ d v0) (Bv G ρ)) x rr) : e1_49 G ρ d v0 s rr := by
  unfold f1_b49 at e
  have hm := mi_1
  show ∀ (j1 : Nat) (j3 : MV), Ex d 1 49 [(2, ((v0 : Nat) : Int)), (2, ((j1 : Nat) : Int)), (0, s.1), j3] [] (G, ρ, s.2) rr
  intro j1 j3
  obtain ⟨g14, e⟩ := gd_s e
  obtain ⟨g15, e⟩ := gd_s e
  refine Ex_run 4 (i' := 53) (L' := [(2, ((v0 : Nat) : Int)), (2, ((j1 : Nat) : Int)), (0, s.1), j3]) (st' := [(0, (s.2 (ρ v0 0) 0)), (0, s.1)]) (h' := (G, ρ, s.2)) hm rfl (cjc (gk_b g14) (cjc (gk_b g15) cjn)) ?_
  by_cases c16 : s.1 < (s.2 (ρ v0 0) 0)
  · replace e := it_p e c16
    refine Ex_if2f (c := 3) (tgt := 116) hm rfl (bf3 c16) ?_
    refine Ex_run 3 (i' := 57) (L' := [(2, ((v0 : Nat) : Int)), (2, ((j1 : Nat) : Int)), (0, s.1), j3]) (st' := [(0, (-1)), (0, (s.2 v0 4))]) (h' := (G, ρ, s.2)) hm rfl (cjc (gk_b g14) cjn) ?_
    by_cases c17 : (s.2 v0 4) = (-1)
    · replace e := it_p e c17
      refine Ex_if2f (c := 1) (tgt := 116) hm rfl (bf1 c17) ?_
      refine Ex_run 2 (i' := 60) (L' := [(2, ((v0 : Nat) : Int)), (2, ((j1 : Nat) : Int)), (0, s.1), (0, 0)]) (st' := []) (h' := (G, ρ, s.2)) hm rfl (cjc (Nat.le_of_ble_eq_true rfl) cjn) ?_
      exact (Ex_lp (A := e1_60 G ρ d v0 s.1 ) (B := (DS (e1_49 G ρ d v0) (Bv G ρ))) (fun s x e rr hk => tf1_b60 e hd rr hk) FU _ _ e rr hk) _
    · replace e := it_n e c17
      refine Ex_if2t (c := 1) (tgt := 116) hm rfl (bt1 c17) ?_
      obtain ⟨x, e, hx⟩ := xr_s e
      replace hk : (Bv G ρ) x rr := by rw [hx] at hk; exact hk
      cases e
      cases hk
      exact Ex_ret (k := 0) hm rfl ⟨rfl, rfl⟩
  · replace e := it_n e c16
    refine Ex_if2t (c := 3) (tgt := 116) hm rfl (bt3 c16) ?_
    obtain ⟨x, e, hx⟩ := xr_s e
    replace hk : (Bv G ρ) x rr := by rw [hx] at hk; exact hk
    cases e
    cases hk
    exact Ex_ret (k := 0) hm rfl ⟨rfl, rfl⟩
theorem tf1_46 {G : Gg} {ρ : Rg} {d : Nat} {v0 : Nat} {w0 : Int} {w1 : Nat} {m : Sg} {x : Sg} (e : f1_46 G ρ v0 w0 w1 m = some x) (hd : 5 ≤ d) (rr : Option MV × Mh) (hk : (Bv G ρ) x rr) (j1 : Nat) : Ex d 1 46 [(2, ((v0 : Nat) : Int)), (2, ((j1 : Nat) : Int)), (9, 0), (9, 0)] [(0, w0), (2, ((w1 : Nat) : Int))] (G, ρ, m) rr := by
  unfold f1_46 at e
  have hm := mi_1
  obtain ⟨g13, e⟩ := gd_s e
  refine Ex_run 3 (i' := 49) (L' := [(2, ((v0 : Nat) : Int)), (2, ((j1 : Nat) : Int)), (0, 0), (9, 0)]) (st' := []) (h' := (G, ρ, (put m w1 4 w0))) hm rfl (cjc (gk_b g13) (cjc (Nat.le_of_ble_eq_true rfl) cjn)) ?_
  exact (Ex_lp (A := e1_49 G ρ d v0 ) (B := (Bv G ρ)) (fun s x e rr hk => tf1_b49 e hd rr hk) FU _ _ e rr hk) _ _
theorem tf1_9 {G : Gg} {ρ : Rg} {d : Nat} {v0 : Nat} {v1 : Nat} {m : Sg} {x : Sg} (e : f1_9 G ρ v0 v1 m = some x) (hd : 5 ≤ d) (rr : Option MV × Mh) (hk : (Bv G ρ) x rr) : Ex d 1 9 [(2, ((v0 : Nat) : Int)), (2, ((v1 : Nat) : Int)), (9, 0), (9, 0)] [] (G, ρ, m) rr := by
  unfold f1_9 at e
  have hm := mi_1
  obtain ⟨g3, e⟩ := gd_s e
  refine Ex_run 6 (i' := 15) (L' := [(2, ((v0 : Nat) : Int)), (2, ((v1 : Nat) : Int)), (9, 0), (9, 0)]) (st' := [(2, ((v1 : Nat) : Int)), (2, (((ρ v0 0) : Nat) : Int))]) (h' := (G, ρ, (put m v0 3 1))) hm rfl (cjc (gk_b g3) (cjc (by decide) (cjc (gk_b g3) cjn))) ?_
  obtain ⟨g4, e⟩ := gd_s e
  obtain ⟨q5, h5, e⟩ := bn_s e
  refine Ex_callm (z := 41) (na := 2) (ck := 7) (as := [(2, (((ρ v0 0) : Nat) : Int)), (2, ((v1 : Nat) : Int))]) (rest := []) (E0 := [(2, (((ρ v0 0) : Nat) : Int)), (2, ((v1 : Nat) : Int)), (9, 0)]) (v := none) (h1 := (G, ρ, q5)) hm rfl (by omega) ⟨Nat.le_of_ble_eq_true rfl, Nat.le_of_ble_eq_true rfl⟩ (rc2 rfl g4) rfl rfl ml_41 rfl (Nat.le_of_ble_eq_true rfl) (tf41 h5 (by omega)) ?_
  show Ex d 1 16 [(2, ((v0 : Nat) : Int)), (2, ((v1 : Nat) : Int)), (9, 0), (9, 0)] [] (G, ρ, q5) rr
  refine Ex_run 3 (i' := 19) (L' := [(2, ((v0 : Nat) : Int)), (2, ((v1 : Nat) : Int)), (9, 0), (9, 0)]) (st' := [(2, ((v1 : Nat) : Int)), (2, (((ρ v0 1) : Nat) : Int))]) (h' := (G, ρ, q5)) hm rfl (cjc (gk_b g3) cjn) ?_
  obtain ⟨g6, e⟩ := gd_s e
  obtain ⟨q7, h7, e⟩ := bn_s e
  refine Ex_callm (z := 41) (na := 2) (ck := 7) (as := [(2, (((ρ v0 1) : Nat) : Int)), (2, ((v1 : Nat) : Int))]) (rest := []) (E0 := [(2, (((ρ v0 1) : Nat) : Int)), (2, ((v1 : Nat) : Int)), (9, 0)]) (v := none) (h1 := (G, ρ, q7)) hm rfl (by omega) ⟨Nat.le_of_ble_eq_true rfl, Nat.le_of_ble_eq_true rfl⟩ (rc2 rfl g6) rfl rfl ml_41 rfl (Nat.le_of_ble_eq_true rfl) (tf41 h7 (by omega)) ?_
  show Ex d 1 20 [(2, ((v0 : Nat) : Int)), (2, ((v1 : Nat) : Int)), (9, 0), (9, 0)] [] (G, ρ, q7) rr
  refine Ex_run 7 (i' := 27) (L' := [(2, ((v0 : Nat) : Int)), (2, ((v1 : Nat) : Int)), (9, 0), (9, 0)]) (st' := [(2, (((ρ v0 1) : Nat) : Int)), (2, (((ρ v0 2) : Nat) : Int))]) (h' := (G, ρ, (put q7 v0 6 (-1)))) hm rfl (cjc (gk_b g3) (cjc (gk_b g3) (cjc (gk_b g3) cjn))) ?_
  obtain ⟨g8, e⟩ := gd_s e
  obtain ⟨q9, h9, e⟩ := bn_s e
  refine Ex_callm (z := 87) (na := 2) (ck := 13) (as := [(2, (((ρ v0 2) : Nat) : Int)), (2, (((ρ v0 1) : Nat) : Int))]) (rest := []) (E0 := [(2, (((ρ v0 2) : Nat) : Int)), (2, (((ρ v0 1) : Nat) : Int)), (9, 0), (9, 0), (9, 0), (9, 0), (9, 0)]) (v := some (0, q9.1)) (h1 := (G, ρ, q9.2)) hm rfl (by omega) ⟨Nat.le_of_ble_eq_true rfl, Nat.le_of_ble_eq_true rfl⟩ (rc2 rfl g8) rfl rfl ml_87 rfl (Nat.le_of_ble_eq_true rfl) (tf87 h9 (by omega)) ?_
  show Ex d 1 28 [(2, ((v0 : Nat) : Int)), (2, ((v1 : Nat) : Int)), (9, 0), (9, 0)] [(0, q9.1)] (G, ρ, q9.2) rr
  by_cases c10 : q9.1 = 0
  · replace e := it_p e c10
    refine Ex_if1f (c := 1) (tgt := 33) hm rfl (bf1 c10) ?_
    refine Ex_run 3 (i' := 32) (L' := [(2, ((v0 : Nat) : Int)), (2, ((v1 : Nat) : Int)), (9, 0), (9, 0)]) (st' := []) (h' := (G, ρ, (put q9.2 v0 4 0))) hm rfl (cjc (gk_b g3) cjn) ?_
    cases e
    cases hk
    exact Ex_ret (k := 0) hm rfl ⟨rfl, rfl⟩
  · replace e := it_n e c10
    refine Ex_if1t (c := 1) (tgt := 33) hm rfl (bt1 c10) ?_
    refine Ex_run 3 (i' := 36) (L' := [(2, ((v0 : Nat) : Int)), (2, ((v1 : Nat) : Int)), (9, 0), (9, 0)]) (st' := [(0, 0), (2, ((v0 : Nat) : Int)), (2, ((v0 : Nat) : Int))]) (h' := (G, ρ, q9.2)) hm rfl cjn ?_
    obtain ⟨q11, h11, e⟩ := bn_s e
    refine Ex_callm (z := 2) (na := 2) (ck := 3) (as := [(2, ((v0 : Nat) : Int)), (0, 0)]) (rest := [(2, ((v0 : Nat) : Int))]) (E0 := [(2, ((v0 : Nat) : Int)), (0, 0), (9, 0), (9, 0)]) (v := some (0, q11.1)) (h1 := (G, ρ, q11.2)) hm rfl (by omega) ⟨Nat.le_of_ble_eq_true rfl, Nat.le_of_ble_eq_true rfl⟩ (rc2 rfl g3) rfl rfl ml_2 rfl (Nat.le_of_ble_eq_true rfl) (tf2 h11 (by omega)) ?_
    show Ex d 1 37 [(2, ((v0 : Nat) : Int)), (2, ((v1 : Nat) : Int)), (9, 0), (9, 0)] [(0, q11.1), (2, ((v0 : Nat) : Int))] (G, ρ, q11.2) rr
    refine Ex_run 5 (i' := 42) (L' := [(2, ((v0 : Nat) : Int)), (2, ((v1 : Nat) : Int)), (9, 0), (9, 0)]) (st' := [(0, (-1)), (0, ((put q11.2 v0 5 q11.1) v0 5)), (2, ((v0 : Nat) : Int))]) (h' := (G, ρ, (put q11.2 v0 5 q11.1))) hm rfl (cjc (gk_b g3) (cjc (gk_b g3) cjn)) ?_
    by_cases c12 : ((put q11.2 v0 5 q11.1) v0 5) = (-1)
    · replace e := it_p e c12
      refine Ex_if2t (c := 0) (tgt := 45) hm rfl (bt0 c12) ?_
      refine Ex_run 1 (i' := 46) (L' := [(2, ((v0 : Nat) : Int)), (2, ((v1 : Nat) : Int)), (9, 0), (9, 0)]) (st' := [(0, (-1)), (2, ((v0 : Nat) : Int))]) (h' := (G, ρ, (put q11.2 v0 5 q11.1))) hm rfl cjn ?_
      exact tf1_46 e hd rr hk _
    · replace e := it_n e c12
      refine Ex_if2f (c := 0) (tgt := 45) hm rfl (bf0 c12) ?_
      refine Ex_run 2 (i' := 46) (L' := [(2, ((v0 : Nat) : Int)), (2, ((v1 : Nat) : Int)), (9, 0), (9, 0)]) (st' := [(0, 1), (2, ((v0 : Nat) : Int))]) (h' := (G, ρ, (put q11.2 v0 5 q11.1))) hm rfl cjn ?_
      exact tf1_46 e hd rr hk _
theorem tf1 {G : Gg} {ρ : Rg} {d : Nat} {v0 : Nat} {v1 : Nat} {m : Sg} {x : Sg} (e : f1 G ρ v0 v1 m = some x) (hd : 5 ≤ d) : Ex d 1 0 [(2, ((v0 : Nat) : Int)), (2, ((v1 : Nat) : Int)), (9, 0), (9, 0)] [] (G, ρ, m) (none, (G, ρ, x)) := by
  unfold f1 at e
  have hm := mi_1
  generalize hk : (none, (G, ρ, x)) = rr
  replace hk : (Bv G ρ) x rr := hk.symm
  obtain ⟨g1, e⟩ := gd_s e
  refine Ex_run 2 (i' := 2) (L' := [(2, ((v0 : Nat) : Int)), (2, ((v1 : Nat) : Int)), (9, 0), (9, 0)]) (st' := [(0, (m v0 3))]) (h' := (G, ρ, m)) hm rfl (cjc (gk_b g1) cjn) ?_
  by_cases c2 : (m v0 3) = 0
  · replace e := it_p e c2
    refine Ex_if1t (c := 0) (tgt := 9) hm rfl (bt0 c2) ?_
    exact tf1_9 e hd rr hk
  · replace e := it_n e c2
    refine Ex_if1f (c := 0) (tgt := 9) hm rfl (bf0 c2) ?_
    refine Ex_run 3 (i' := 6) (L' := [(2, ((v0 : Nat) : Int)), (2, ((v1 : Nat) : Int)), (9, 0), (9, 0)]) (st' := [(2, ((v1 : Nat) : Int)), (2, (((ρ v0 0) : Nat) : Int))]) (h' := (G, ρ, m)) hm rfl (cjc (gk_b g1) cjn) ?_
    obtain ⟨g38, e⟩ := gd_s e
    obtain ⟨q39, h39, e⟩ := bn_s e
    refine Ex_callm (z := 42) (na := 2) (ck := 7) (as := [(2, (((ρ v0 0) : Nat) : Int)), (2, ((v1 : Nat) : Int))]) (rest := []) (E0 := [(2, (((ρ v0 0) : Nat) : Int)), (2, ((v1 : Nat) : Int)), (9, 0), (9, 0)]) (v := some (0, q39)) (h1 := (G, ρ, m)) hm rfl (by omega) ⟨Nat.le_of_ble_eq_true rfl, Nat.le_of_ble_eq_true rfl⟩ (rc2 rfl g38) rfl rfl ml_42 rfl (Nat.le_of_ble_eq_true rfl) (tf42 h39 (by omega)) ?_
    show Ex d 1 7 [(2, ((v0 : Nat) : Int)), (2, ((v1 : Nat) : Int)), (9, 0), (9, 0)] [(0, q39)] (G, ρ, m) rr
    by_cases c40 : q39 = 0
    · replace e := it_p e c40
      refine Ex_if1t (c := 0) (tgt := 9) hm rfl (bt0 c40) ?_
      exact tf1_9 e hd rr hk
    · replace e := it_n e c40
      refine Ex_if1f (c := 0) (tgt := 9) hm rfl (bf0 c40) ?_
      cases e
      cases hk
      exact Ex_ret (k := 0) hm rfl ⟨rfl, rfl⟩
theorem tf3_36 {d : Nat} {v0 : Nat} {v1 : Int} {w0 : Nat} {h : Mh} {x : Mh} (e : f3_36 v0 v1 w0 h = some x) (hd : 3 ≤ d) (rr : Option MV × Mh) (hk : Hv x rr) : Ex d 3 36 [(2, ((v0 : Nat) : Int)), (0, v1)] [(2, ((w0 : Nat) : Int))] h rr := by
  unfold f3_36 at e
  have hm := mi_3
  refine Ex_run 3 (i' := 39) (L' := [(2, ((v0 : Nat) : Int)), (0, v1)]) (st' := [(0, v1), (2, (((List.length h.1) : Nat) : Int)), (2, (((List.length h.1) : Nat) : Int)), (2, ((w0 : Nat) : Int))]) (h' := ((h.1 ++ [(7, 4)]), (zapR h.2.1 (List.length h.1)), (zap h.2.2 (List.length h.1)))) hm rfl cjn ?_
  obtain ⟨g17, e⟩ := gd_s e
  obtain ⟨q18, h18, e⟩ := bn_s e
  refine Ex_callm (z := 37) (na := 2) (ck := 1) (as := [(2, (((List.length h.1) : Nat) : Int)), (0, v1)]) (rest := [(2, (((List.length h.1) : Nat) : Int)), (2, ((w0 : Nat) : Int))]) (E0 := [(2, (((List.length h.1) : Nat) : Int)), (0, v1)]) (v := none) (h1 := (q18.1, q18.2.1, q18.2.2)) hm rfl (by omega) ⟨Nat.le_of_ble_eq_true rfl, Nat.le_of_ble_eq_true rfl⟩ (⟨_, rfl, nz_i g17⟩) rfl rfl ml_37 rfl (Nat.le_of_ble_eq_true rfl) (tf37 h18 (by omega)) ?_
  show Ex d 3 40 [(2, ((v0 : Nat) : Int)), (0, v1)] [(2, (((List.length h.1) : Nat) : Int)), (2, ((w0 : Nat) : Int))] (q18.1, q18.2.1, q18.2.2) rr
  obtain ⟨g19, e⟩ := gd_s e
  refine Ex_run 5 (i' := 45) (L' := [(2, ((v0 : Nat) : Int)), (0, v1)]) (st' := [(0, v1), (2, (((List.length q18.1) : Nat) : Int)), (2, (((List.length q18.1) : Nat) : Int)), (2, ((v0 : Nat) : Int))]) (h' := ((q18.1 ++ [(7, 4)]), (zapR (putR q18.2.1 w0 0 (List.length h.1)) (List.length q18.1)), (zap q18.2.2 (List.length q18.1)))) hm rfl (cjc (gk_b g19) (cjc (nz_i g17) cjn)) ?_
  obtain ⟨g20, e⟩ := gd_s e
  obtain ⟨q21, h21, e⟩ := bn_s e
  refine Ex_callm (z := 37) (na := 2) (ck := 1) (as := [(2, (((List.length q18.1) : Nat) : Int)), (0, v1)]) (rest := [(2, (((List.length q18.1) : Nat) : Int)), (2, ((v0 : Nat) : Int))]) (E0 := [(2, (((List.length q18.1) : Nat) : Int)), (0, v1)]) (v := none) (h1 := (q21.1, q21.2.1, q21.2.2)) hm rfl (by omega) ⟨Nat.le_of_ble_eq_true rfl, Nat.le_of_ble_eq_true rfl⟩ (⟨_, rfl, nz_i g20⟩) rfl rfl ml_37 rfl (Nat.le_of_ble_eq_true rfl) (tf37 h21 (by omega)) ?_
  show Ex d 3 46 [(2, ((v0 : Nat) : Int)), (0, v1)] [(2, (((List.length q18.1) : Nat) : Int)), (2, ((v0 : Nat) : Int))] (q21.1, q21.2.1, q21.2.2) rr
  obtain ⟨g22, e⟩ := gd_s e
  refine Ex_run 1 (i' := 47) (L' := [(2, ((v0 : Nat) : Int)), (0, v1)]) (st' := []) (h' := (q21.1, (putR q21.2.1 v0 1 (List.length q18.1)), q21.2.2)) hm rfl (cjc (gk_b g22) (cjc (nz_i g20) cjn)) ?_
  cases e
  cases hk
  exact Ex_ret (k := 0) hm rfl ⟨rfl, rfl⟩
theorem tf3 {d : Nat} {v0 : Nat} {v1 : Int} {h : Mh} {x : Mh} (e : f3 v0 v1 h = some x) (hd : 3 ≤ d) : Ex d 3 0 [(2, ((v0 : Nat) : Int)), (0, v1)] [] h (none, x) := by
  unfold f3 at e
  have hm := mi_3
  generalize hk : (none, x) = rr
  replace hk : Hv x rr := hk.symm
  refine Ex_run 1 (i' := 1) (L' := [(2, ((v0 : Nat) : Int)), (0, v1)]) (st' := [(2, ((v0 : Nat) : Int))]) (h' := (h.1, h.2.1, h.2.2)) hm rfl cjn ?_
  obtain ⟨g1, e⟩ := gd_s e
  refine Ex_prim (k := 1) (i' := 2) (L' := [(2, ((v0 : Nat) : Int)), (0, v1)]) (st' := []) (h' := (h.1, h.2.1, h.2.2)) hm rfl (by omega) rfl (cjc (nz_i g1) (cjc (Nat.le_of_ble_eq_true rfl) cjn)) ?_
  refine Ex_run 4 (i' := 6) (L' := [(2, ((v0 : Nat) : Int)), (0, v1)]) (st' := [(0, 100), (2, (((List.length h.1) : Nat) : Int)), (2, (((List.length h.1) : Nat) : Int)), (2, ((v0 : Nat) : Int))]) (h' := ((h.1 ++ [(6, 1)]), (zapR h.2.1 (List.length h.1)), (zap h.2.2 (List.length h.1)))) hm rfl cjn ?_
  obtain ⟨g2, e⟩ := gd_s e
  obtain ⟨q3, h3, e⟩ := bn_s e
  refine Ex_callm (z := 32) (na := 2) (ck := 1) (as := [(2, (((List.length h.1) : Nat) : Int)), (0, 100)]) (rest := [(2, (((List.length h.1) : Nat) : Int)), (2, ((v0 : Nat) : Int))]) (E0 := [(2, (((List.length h.1) : Nat) : Int)), (0, 100)]) (v := none) (h1 := (q3.1, q3.2.1, q3.2.2)) hm rfl (by omega) ⟨Nat.le_of_ble_eq_true rfl, Nat.le_of_ble_eq_true rfl⟩ (⟨_, rfl, nz_i g2⟩) rfl rfl ml_32 rfl (Nat.le_of_ble_eq_true rfl) (tf32 h3 (by omega)) ?_
  show Ex d 3 7 [(2, ((v0 : Nat) : Int)), (0, v1)] [(2, (((List.length h.1) : Nat) : Int)), (2, ((v0 : Nat) : Int))] (q3.1, q3.2.1, q3.2.2) rr
  obtain ⟨g4, e⟩ := gd_s e
  refine Ex_run 5 (i' := 12) (L' := [(2, ((v0 : Nat) : Int)), (0, v1)]) (st' := [(0, 100), (2, (((List.length q3.1) : Nat) : Int)), (2, (((List.length q3.1) : Nat) : Int)), (2, ((v0 : Nat) : Int))]) (h' := ((q3.1 ++ [(6, 1)]), (zapR (putR q3.2.1 v0 2 (List.length h.1)) (List.length q3.1)), (zap q3.2.2 (List.length q3.1)))) hm rfl (cjc (gk_b g4) (cjc (nz_i g2) cjn)) ?_
  obtain ⟨g5, e⟩ := gd_s e
  obtain ⟨q6, h6, e⟩ := bn_s e
  refine Ex_callm (z := 32) (na := 2) (ck := 1) (as := [(2, (((List.length q3.1) : Nat) : Int)), (0, 100)]) (rest := [(2, (((List.length q3.1) : Nat) : Int)), (2, ((v0 : Nat) : Int))]) (E0 := [(2, (((List.length q3.1) : Nat) : Int)), (0, 100)]) (v := none) (h1 := (q6.1, q6.2.1, q6.2.2)) hm rfl (by omega) ⟨Nat.le_of_ble_eq_true rfl, Nat.le_of_ble_eq_true rfl⟩ (⟨_, rfl, nz_i g5⟩) rfl rfl ml_32 rfl (Nat.le_of_ble_eq_true rfl) (tf32 h6 (by omega)) ?_
  show Ex d 3 13 [(2, ((v0 : Nat) : Int)), (0, v1)] [(2, (((List.length q3.1) : Nat) : Int)), (2, ((v0 : Nat) : Int))] (q6.1, q6.2.1, q6.2.2) rr
  obtain ⟨g7, e⟩ := gd_s e
  refine Ex_run 5 (i' := 18) (L' := [(2, ((v0 : Nat) : Int)), (0, v1)]) (st' := [(0, 100), (2, (((List.length q6.1) : Nat) : Int)), (2, (((List.length q6.1) : Nat) : Int)), (2, ((v0 : Nat) : Int))]) (h' := ((q6.1 ++ [(6, 1)]), (zapR (putR q6.2.1 v0 3 (List.length q3.1)) (List.length q6.1)), (zap q6.2.2 (List.length q6.1)))) hm rfl (cjc (gk_b g7) (cjc (nz_i g5) cjn)) ?_
  obtain ⟨g8, e⟩ := gd_s e
  obtain ⟨q9, h9, e⟩ := bn_s e
  refine Ex_callm (z := 32) (na := 2) (ck := 1) (as := [(2, (((List.length q6.1) : Nat) : Int)), (0, 100)]) (rest := [(2, (((List.length q6.1) : Nat) : Int)), (2, ((v0 : Nat) : Int))]) (E0 := [(2, (((List.length q6.1) : Nat) : Int)), (0, 100)]) (v := none) (h1 := (q9.1, q9.2.1, q9.2.2)) hm rfl (by omega) ⟨Nat.le_of_ble_eq_true rfl, Nat.le_of_ble_eq_true rfl⟩ (⟨_, rfl, nz_i g8⟩) rfl rfl ml_32 rfl (Nat.le_of_ble_eq_true rfl) (tf32 h9 (by omega)) ?_
  show Ex d 3 19 [(2, ((v0 : Nat) : Int)), (0, v1)] [(2, (((List.length q6.1) : Nat) : Int)), (2, ((v0 : Nat) : Int))] (q9.1, q9.2.1, q9.2.2) rr
  obtain ⟨g10, e⟩ := gd_s e
  refine Ex_run 5 (i' := 24) (L' := [(2, ((v0 : Nat) : Int)), (0, v1)]) (st' := [(0, 100), (2, (((List.length q9.1) : Nat) : Int)), (2, (((List.length q9.1) : Nat) : Int)), (2, ((v0 : Nat) : Int))]) (h' := ((q9.1 ++ [(6, 1)]), (zapR (putR q9.2.1 v0 4 (List.length q6.1)) (List.length q9.1)), (zap q9.2.2 (List.length q9.1)))) hm rfl (cjc (gk_b g10) (cjc (nz_i g8) cjn)) ?_
  obtain ⟨g11, e⟩ := gd_s e
  obtain ⟨q12, h12, e⟩ := bn_s e
  refine Ex_callm (z := 32) (na := 2) (ck := 1) (as := [(2, (((List.length q9.1) : Nat) : Int)), (0, 100)]) (rest := [(2, (((List.length q9.1) : Nat) : Int)), (2, ((v0 : Nat) : Int))]) (E0 := [(2, (((List.length q9.1) : Nat) : Int)), (0, 100)]) (v := none) (h1 := (q12.1, q12.2.1, q12.2.2)) hm rfl (by omega) ⟨Nat.le_of_ble_eq_true rfl, Nat.le_of_ble_eq_true rfl⟩ (⟨_, rfl, nz_i g11⟩) rfl rfl ml_32 rfl (Nat.le_of_ble_eq_true rfl) (tf32 h12 (by omega)) ?_
  show Ex d 3 25 [(2, ((v0 : Nat) : Int)), (0, v1)] [(2, (((List.length q9.1) : Nat) : Int)), (2, ((v0 : Nat) : Int))] (q12.1, q12.2.1, q12.2.2) rr
  obtain ⟨g13, e⟩ := gd_s e
  refine Ex_run 5 (i' := 30) (L' := [(2, ((v0 : Nat) : Int)), (0, v1)]) (st' := [(0, 100), (2, (((List.length q12.1) : Nat) : Int)), (2, (((List.length q12.1) : Nat) : Int)), (2, ((v0 : Nat) : Int))]) (h' := ((q12.1 ++ [(6, 1)]), (zapR (putR q12.2.1 v0 5 (List.length q9.1)) (List.length q12.1)), (zap q12.2.2 (List.length q12.1)))) hm rfl (cjc (gk_b g13) (cjc (nz_i g11) cjn)) ?_
  obtain ⟨g14, e⟩ := gd_s e
  obtain ⟨q15, h15, e⟩ := bn_s e
  refine Ex_callm (z := 32) (na := 2) (ck := 1) (as := [(2, (((List.length q12.1) : Nat) : Int)), (0, 100)]) (rest := [(2, (((List.length q12.1) : Nat) : Int)), (2, ((v0 : Nat) : Int))]) (E0 := [(2, (((List.length q12.1) : Nat) : Int)), (0, 100)]) (v := none) (h1 := (q15.1, q15.2.1, q15.2.2)) hm rfl (by omega) ⟨Nat.le_of_ble_eq_true rfl, Nat.le_of_ble_eq_true rfl⟩ (⟨_, rfl, nz_i g14⟩) rfl rfl ml_32 rfl (Nat.le_of_ble_eq_true rfl) (tf32 h15 (by omega)) ?_
  show Ex d 3 31 [(2, ((v0 : Nat) : Int)), (0, v1)] [(2, (((List.length q12.1) : Nat) : Int)), (2, ((v0 : Nat) : Int))] (q15.1, q15.2.1, q15.2.2) rr
  obtain ⟨g16, e⟩ := gd_s e
  refine Ex_run 5 (i' := 36) (L' := [(2, ((v0 : Nat) : Int)), (0, v1)]) (st' := [(2, ((v0 : Nat) : Int))]) (h' := (q15.1, (putR q15.2.1 v0 6 (List.length q12.1)), (put q15.2.2 v0 7 0))) hm rfl (cjc (gk_b g16) (cjc (nz_i g14) (cjc (gk_b g16) cjn))) ?_
  exact tf3_36 e hd rr hk
theorem tf6 {G : Gg} {ρ : Rg} {d : Nat} {v0 : Nat} {v1 : Int} {v2 : Int} {v3 : Int} {m : Sg} {x : Sg} (e : f6 G ρ v0 v1 v2 v3 m = some x) (hd : 1 ≤ d) : Ex d 6 0 [(2, ((v0 : Nat) : Int)), (0, v1), (0, v2), (0, v3)] [] (G, ρ, m) (none, (G, ρ, x)) := by
  unfold f6 at e
  have hm := mi_6
  generalize hk : (none, (G, ρ, x)) = rr
  replace hk : (Bv G ρ) x rr := hk.symm
  obtain ⟨g1, e⟩ := gd_s e
  refine Ex_run 3 (i' := 3) (L' := [(2, ((v0 : Nat) : Int)), (0, v1), (0, v2), (0, v3)]) (st' := [(0, v1), (2, (((ρ v0 3) : Nat) : Int))]) (h' := (G, ρ, m)) hm rfl (cjc (gk_b g1) cjn) ?_
  obtain ⟨g2, e⟩ := gd_s e
  obtain ⟨q3, h3, e⟩ := bn_s e
  refine Ex_callm (z := 33) (na := 2) (ck := 6) (as := [(2, (((ρ v0 3) : Nat) : Int)), (0, v1)]) (rest := []) (E0 := [(2, (((ρ v0 3) : Nat) : Int)), (0, v1)]) (v := some (0, q3)) (h1 := (G, ρ, m)) hm rfl (by omega) ⟨Nat.le_of_ble_eq_true rfl, Nat.le_of_ble_eq_true rfl⟩ (rc2 rfl g2) rfl rfl ml_33 rfl (Nat.le_of_ble_eq_true rfl) (tf33 h3 (by omega)) ?_
  show Ex d 6 4 [(2, ((v0 : Nat) : Int)), (0, v1), (0, v2), (0, v3)] [(0, q3)] (G, ρ, m) rr
  by_cases c4 : q3 = 0
  · replace e := it_p e c4
    refine Ex_if1t (c := 0) (tgt := 6) hm rfl (bt0 c4) ?_
    refine Ex_run 4 (i' := 10) (L' := [(2, ((v0 : Nat) : Int)), (0, v1), (0, v2), (0, v3)]) (st' := [(0, 1), (0, v1), (2, (((ρ v0 3) : Nat) : Int))]) (h' := (G, ρ, m)) hm rfl (cjc (gk_b g1) cjn) ?_
    obtain ⟨q5, h5, e⟩ := bn_s e
    refine Ex_callm (z := 34) (na := 3) (ck := 6) (as := [(2, (((ρ v0 3) : Nat) : Int)), (0, v1), (0, 1)]) (rest := []) (E0 := [(2, (((ρ v0 3) : Nat) : Int)), (0, v1), (0, 1)]) (v := none) (h1 := (G, ρ, q5)) hm rfl (by omega) ⟨Nat.le_of_ble_eq_true rfl, Nat.le_of_ble_eq_true rfl⟩ (rc2 rfl g2) rfl rfl ml_34 rfl (Nat.le_of_ble_eq_true rfl) (tf34 h5 (by omega)) ?_
    show Ex d 6 11 [(2, ((v0 : Nat) : Int)), (0, v1), (0, v2), (0, v3)] [] (G, ρ, q5) rr
    refine Ex_run 6 (i' := 17) (L' := [(2, ((v0 : Nat) : Int)), (0, v1), (0, v2), (0, v3)]) (st' := [(0, v2), (2, (((ρ v0 4) : Nat) : Int)), (0, v1), (2, (((ρ v0 4) : Nat) : Int))]) (h' := (G, ρ, q5)) hm rfl (cjc (gk_b g1) (cjc (gk_b g1) cjn)) ?_
    obtain ⟨g6, e⟩ := gd_s e
    obtain ⟨q7, h7, e⟩ := bn_s e
    refine Ex_callm (z := 33) (na := 2) (ck := 6) (as := [(2, (((ρ v0 4) : Nat) : Int)), (0, v2)]) (rest := [(0, v1), (2, (((ρ v0 4) : Nat) : Int))]) (E0 := [(2, (((ρ v0 4) : Nat) : Int)), (0, v2)]) (v := some (0, q7)) (h1 := (G, ρ, q5)) hm rfl (by omega) ⟨Nat.le_of_ble_eq_true rfl, Nat.le_of_ble_eq_true rfl⟩ (rc2 rfl g6) rfl rfl ml_33 rfl (Nat.le_of_ble_eq_true rfl) (tf33 h7 (by omega)) ?_
    show Ex d 6 18 [(2, ((v0 : Nat) : Int)), (0, v1), (0, v2), (0, v3)] [(0, q7), (0, v1), (2, (((ρ v0 4) : Nat) : Int))] (G, ρ, q5) rr
    refine Ex_run 2 (i' := 20) (L' := [(2, ((v0 : Nat) : Int)), (0, v1), (0, v2), (0, v3)]) (st' := [(0, (g_add q7 1)), (0, v1), (2, (((ρ v0 4) : Nat) : Int))]) (h' := (G, ρ, q5)) hm rfl cjn ?_
    obtain ⟨q8, h8, e⟩ := bn_s e
    refine Ex_callm (z := 34) (na := 3) (ck := 6) (as := [(2, (((ρ v0 4) : Nat) : Int)), (0, v1), (0, (g_add q7 1))]) (rest := []) (E0 := [(2, (((ρ v0 4) : Nat) : Int)), (0, v1), (0, (g_add q7 1))]) (v := none) (h1 := (G, ρ, q8)) hm rfl (by omega) ⟨Nat.le_of_ble_eq_true rfl, Nat.le_of_ble_eq_true rfl⟩ (rc2 rfl g6) rfl rfl ml_34 rfl (Nat.le_of_ble_eq_true rfl) (tf34 h8 (by omega)) ?_
    show Ex d 6 21 [(2, ((v0 : Nat) : Int)), (0, v1), (0, v2), (0, v3)] [] (G, ρ, q8) rr
    refine Ex_run 4 (i' := 25) (L' := [(2, ((v0 : Nat) : Int)), (0, v1), (0, v2), (0, v3)]) (st' := [(0, v2), (0, v1), (2, (((ρ v0 5) : Nat) : Int))]) (h' := (G, ρ, q8)) hm rfl (cjc (gk_b g1) cjn) ?_
    obtain ⟨g9, e⟩ := gd_s e
    obtain ⟨q10, h10, e⟩ := bn_s e
    refine Ex_callm (z := 34) (na := 3) (ck := 6) (as := [(2, (((ρ v0 5) : Nat) : Int)), (0, v1), (0, v2)]) (rest := []) (E0 := [(2, (((ρ v0 5) : Nat) : Int)), (0, v1), (0, v2)]) (v := none) (h1 := (G, ρ, q10)) hm rfl (by omega) ⟨Nat.le_of_ble_eq_true rfl, Nat.le_of_ble_eq_true rfl⟩ (rc2 rfl g9) rfl rfl ml_34 rfl (Nat.le_of_ble_eq_true rfl) (tf34 h10 (by omega)) ?_
    show Ex d 6 26 [(2, ((v0 : Nat) : Int)), (0, v1), (0, v2), (0, v3)] [] (G, ρ, q10) rr
    refine Ex_run 4 (i' := 30) (L' := [(2, ((v0 : Nat) : Int)), (0, v1), (0, v2), (0, v3)]) (st' := [(0, v3), (0, v1), (2, (((ρ v0 6) : Nat) : Int))]) (h' := (G, ρ, q10)) hm rfl (cjc (gk_b g1) cjn) ?_
    obtain ⟨g11, e⟩ := gd_s e
    obtain ⟨q12, h12, e⟩ := bn_s e
    refine Ex_callm (z := 34) (na := 3) (ck := 6) (as := [(2, (((ρ v0 6) : Nat) : Int)), (0, v1), (0, v3)]) (rest := []) (E0 := [(2, (((ρ v0 6) : Nat) : Int)), (0, v1), (0, v3)]) (v := none) (h1 := (G, ρ, q12)) hm rfl (by omega) ⟨Nat.le_of_ble_eq_true rfl, Nat.le_of_ble_eq_true rfl⟩ (rc2 rfl g11) rfl rfl ml_34 rfl (Nat.le_of_ble_eq_true rfl) (tf34 h12 (by omega)) ?_
    show Ex d 6 31 [(2, ((v0 : Nat) : Int)), (0, v1), (0, v2), (0, v3)] [] (G, ρ, q12) rr
    refine Ex_run 5 (i' := 36) (L' := [(2, ((v0 : Nat) : Int)), (0, v1), (0, v2), (0, v3)]) (st' := [(0, v1), (0, (q12 v0 7)), (2, (((ρ v0 2) : Nat) : Int))]) (h' := (G, ρ, q12)) hm rfl (cjc (gk_b g1) (cjc (gk_b g1) cjn)) ?_
    obtain ⟨g13, e⟩ := gd_s e
    obtain ⟨q14, h14, e⟩ := bn_s e
    refine Ex_callm (z := 34) (na := 3) (ck := 6) (as := [(2, (((ρ v0 2) : Nat) : Int)), (0, (q12 v0 7)), (0, v1)]) (rest := []) (E0 := [(2, (((ρ v0 2) : Nat) : Int)), (0, (q12 v0 7)), (0, v1)]) (v := none) (h1 := (G, ρ, q14)) hm rfl (by omega) ⟨Nat.le_of_ble_eq_true rfl, Nat.le_of_ble_eq_true rfl⟩ (rc2 rfl g13) rfl rfl ml_34 rfl (Nat.le_of_ble_eq_true rfl) (tf34 h14 (by omega)) ?_
    show Ex d 6 37 [(2, ((v0 : Nat) : Int)), (0, v1), (0, v2), (0, v3)] [] (G, ρ, q14) rr
    refine Ex_run 6 (i' := 43) (L' := [(2, ((v0 : Nat) : Int)), (0, v1), (0, v2), (0, v3)]) (st' := []) (h' := (G, ρ, (put q14 v0 7 (g_add (q14 v0 7) 1)))) hm rfl (cjc (gk_b g1) (cjc (gk_b g1) cjn)) ?_
    cases e
    cases hk
    exact Ex_ret (k := 0) hm rfl ⟨rfl, rfl⟩
  · replace e := it_n e c4
    refine Ex_if1f (c := 0) (tgt := 6) hm rfl (bf0 c4) ?_
    cases e
    cases hk
    exact Ex_ret (k := 0) hm rfl ⟨rfl, rfl⟩
theorem tf5_b10 {G : Gg} {ρ : Rg} {d : Nat} {v0 : Nat} {v1 : Int} {v2 : Int} {v3 : Int} {s : Int × Sg} {x : (Int × Sg) ⊕ (Int × Sg)} (e : f5_b10 G ρ v0 v1 v2 v3 s = some x) (hd : 2 ≤ d) (rr : Option MV × Mh) (hk : (DS (e5_10 G ρ d v0 v1 v2 v3) (Bi G ρ)) x rr) : e5_10 G ρ d v0 v1 v2 v3 s rr := by
  unfold f5_b10 at e
  have hm := mi_5
  show ∀ (j5 : MV), Ex d 5 10 [(2, ((v0 : Nat) : Int)), (0, v1), (0, v2), (0, v3), (0, s.1), j5] [] (G, ρ, s.2) rr
  intro j5
  refine Ex_run 2 (i' := 12) (L' := [(2, ((v0 : Nat) : Int)), (0, v1), (0, v2), (0, v3), (0, s.1), j5]) (st' := [(0, 5), (0, s.1)]) (h' := (G, ρ, s.2)) hm rfl cjn ?_
  by_cases c1 : 5 < s.1
  · replace e := it_p e c1
    refine Ex_if2t (c := 4) (tgt := 65) hm rfl (bt4 c1) ?_
    obtain ⟨x, e, hx⟩ := xr_s e
    replace hk : (Bi G ρ) x rr := by rw [hx] at hk; exact hk
    refine Ex_run 1 (i' := 66) (L' := [(2, ((v0 : Nat) : Int)), (0, v1), (0, v2), (0, v3), (0, s.1), j5]) (st' := [(0, 0)]) (h' := (G, ρ, s.2)) hm rfl cjn ?_
    cases e
    cases hk
    exact Ex_ret (k := 1) hm rfl ⟨_, rfl, rfl⟩
  · replace e := it_n e c1
    refine Ex_if2f (c := 4) (tgt := 65) hm rfl (bf4 c1) ?_
    obtain ⟨g2, e⟩ := gd_s e
    refine Ex_run 3 (i' := 16) (L' := [(2, ((v0 : Nat) : Int)), (0, v1), (0, v2), (0, v3), (0, s.1), j5]) (st' := [(0, s.1), (2, (((ρ v0 0) : Nat) : Int))]) (h' := (G, ρ, s.2)) hm rfl (cjc (gk_b g2) cjn) ?_
    obtain ⟨g3, e⟩ := gd_s e
    obtain ⟨q4, h4, e⟩ := bn_s e
    refine Ex_callm (z := 39) (na := 2) (ck := 7) (as := [(2, (((ρ v0 0) : Nat) : Int)), (0, s.1)]) (rest := []) (E0 := [(2, (((ρ v0 0) : Nat) : Int)), (0, s.1)]) (v := some (0, q4)) (h1 := (G, ρ, s.2)) hm rfl (by omega) ⟨Nat.le_of_ble_eq_true rfl, Nat.le_of_ble_eq_true rfl⟩ (rc2 rfl g3) rfl rfl ml_39 rfl (Nat.le_of_ble_eq_true rfl) (tf39 h4 (by omega)) ?_
    show Ex d 5 17 [(2, ((v0 : Nat) : Int)), (0, v1), (0, v2), (0, v3), (0, s.1), j5] [(0, q4)] (G, ρ, s.2) rr
    by_cases c5 : q4 = 0
    · replace e := it_p e c5
      refine Ex_if1t (c := 0) (tgt := 63) hm rfl (bt0 c5) ?_
      refine Ex_run 2 (i' := 10) (L' := [(2, ((v0 : Nat) : Int)), (0, v1), (0, v2), (0, v3), (0, (w32 (s.1 + 1))), j5]) (st' := []) (h' := (G, ρ, s.2)) hm rfl cjn ?_
      cases e
      exact hk _
    · replace e := it_n e c5
      refine Ex_if1f (c := 0) (tgt := 63) hm rfl (bf0 c5) ?_
      refine Ex_run 3 (i' := 21) (L' := [(2, ((v0 : Nat) : Int)), (0, v1), (0, v2), (0, v3), (0, s.1), j5]) (st' := [(0, s.1), (2, (((ρ v0 1) : Nat) : Int))]) (h' := (G, ρ, s.2)) hm rfl (cjc (gk_b g2) cjn) ?_
      obtain ⟨g6, e⟩ := gd_s e
      obtain ⟨q7, h7, e⟩ := bn_s e
      refine Ex_callm (z := 39) (na := 2) (ck := 7) (as := [(2, (((ρ v0 1) : Nat) : Int)), (0, s.1)]) (rest := []) (E0 := [(2, (((ρ v0 1) : Nat) : Int)), (0, s.1)]) (v := some (0, q7)) (h1 := (G, ρ, s.2)) hm rfl (by omega) ⟨Nat.le_of_ble_eq_true rfl, Nat.le_of_ble_eq_true rfl⟩ (rc2 rfl g6) rfl rfl ml_39 rfl (Nat.le_of_ble_eq_true rfl) (tf39 h7 (by omega)) ?_
      show Ex d 5 22 [(2, ((v0 : Nat) : Int)), (0, v1), (0, v2), (0, v3), (0, s.1), j5] [(0, q7)] (G, ρ, s.2) rr
      by_cases c8 : q7 = 0
      · replace e := it_p e c8
        refine Ex_if1f (c := 1) (tgt := 24) hm rfl (bf1 c8) ?_
        refine Ex_run 3 (i' := 10) (L' := [(2, ((v0 : Nat) : Int)), (0, v1), (0, v2), (0, v3), (0, (w32 (s.1 + 1))), j5]) (st' := []) (h' := (G, ρ, s.2)) hm rfl cjn ?_
        cases e
        exact hk _
      · replace e := it_n e c8
        refine Ex_if1t (c := 1) (tgt := 24) hm rfl (bt1 c8) ?_
        refine Ex_run 4 (i' := 28) (L' := [(2, ((v0 : Nat) : Int)), (0, v1), (0, v2), (0, v3), (0, s.1), j5]) (st' := [(0, s.1), (0, v2), (2, (((ρ v0 0) : Nat) : Int))]) (h' := (G, ρ, s.2)) hm rfl (cjc (gk_b g2) cjn) ?_
        obtain ⟨q9, h9, e⟩ := bn_s e
        refine Ex_callm (z := 43) (na := 3) (ck := 7) (as := [(2, (((ρ v0 0) : Nat) : Int)), (0, v2), (0, s.1)]) (rest := []) (E0 := [(2, (((ρ v0 0) : Nat) : Int)), (0, v2), (0, s.1), (9, 0)]) (v := some (0, q9)) (h1 := (G, ρ, s.2)) hm rfl (by omega) ⟨Nat.le_of_ble_eq_true rfl, Nat.le_of_ble_eq_true rfl⟩ (rc2 rfl g3) rfl rfl ml_43 rfl (Nat.le_of_ble_eq_true rfl) (tf43 h9 (by omega)) ?_
        show Ex d 5 29 [(2, ((v0 : Nat) : Int)), (0, v1), (0, v2), (0, v3), (0, s.1), j5] [(0, q9)] (G, ρ, s.2) rr
        refine Ex_run 6 (i' := 35) (L' := [(2, ((v0 : Nat) : Int)), (0, v1), (0, v2), (0, v3), (0, s.1), (0, q9)]) (st' := [(0, s.1), (0, v3), (2, (((ρ v0 1) : Nat) : Int)), (0, q9)]) (h' := (G, ρ, s.2)) hm rfl (cjc (Nat.le_of_ble_eq_true rfl) (cjc (gk_b g2) cjn)) ?_
        obtain ⟨q10, h10, e⟩ := bn_s e
        refine Ex_callm (z := 43) (na := 3) (ck := 7) (as := [(2, (((ρ v0 1) : Nat) : Int)), (0, v3), (0, s.1)]) (rest := [(0, q9)]) (E0 := [(2, (((ρ v0 1) : Nat) : Int)), (0, v3), (0, s.1), (9, 0)]) (v := some (0, q10)) (h1 := (G, ρ, s.2)) hm rfl (by omega) ⟨Nat.le_of_ble_eq_true rfl, Nat.le_of_ble_eq_true rfl⟩ (rc2 rfl g6) rfl rfl ml_43 rfl (Nat.le_of_ble_eq_true rfl) (tf43 h10 (by omega)) ?_
        show Ex d 5 36 [(2, ((v0 : Nat) : Int)), (0, v1), (0, v2), (0, v3), (0, s.1), (0, q9)] [(0, q10), (0, q9)] (G, ρ, s.2) rr
        by_cases c11 : q9 = q10
        · replace e := it_p e c11
          refine Ex_if2t (c := 0) (tgt := 39) hm rfl (bt0 c11) ?_
          refine Ex_run 2 (i' := 41) (L' := [(2, ((v0 : Nat) : Int)), (0, v1), (0, v2), (0, v3), (0, s.1), (0, q9)]) (st' := [(0, 2), (0, q9)]) (h' := (G, ρ, s.2)) hm rfl cjn ?_
          by_cases c12 : q9 = 2
          · replace e := it_p e c12
            refine Ex_if2t (c := 0) (tgt := 63) hm rfl (bt0 c12) ?_
            refine Ex_run 2 (i' := 10) (L' := [(2, ((v0 : Nat) : Int)), (0, v1), (0, v2), (0, v3), (0, (w32 (s.1 + 1))), (0, q9)]) (st' := []) (h' := (G, ρ, s.2)) hm rfl cjn ?_
            cases e
            exact hk _
          · replace e := it_n e c12
            refine Ex_if2f (c := 0) (tgt := 63) hm rfl (bf0 c12) ?_
            refine Ex_run 2 (i' := 44) (L' := [(2, ((v0 : Nat) : Int)), (0, v1), (0, v2), (0, v3), (0, s.1), (0, q9)]) (st' := [(0, 3), (0, q9)]) (h' := (G, ρ, s.2)) hm rfl cjn ?_
            by_cases c13 : q9 = 3
            · replace e := it_p e c13
              refine Ex_if2f (c := 1) (tgt := 46) hm rfl (bf1 c13) ?_
              refine Ex_run 3 (i' := 10) (L' := [(2, ((v0 : Nat) : Int)), (0, v1), (0, v2), (0, v3), (0, (w32 (s.1 + 1))), (0, q9)]) (st' := []) (h' := (G, ρ, s.2)) hm rfl cjn ?_
              cases e
              exact hk _
            · replace e := it_n e c13
              refine Ex_if2t (c := 1) (tgt := 46) hm rfl (bt1 c13) ?_
              refine Ex_run 5 (i' := 51) (L' := [(2, ((v0 : Nat) : Int)), (0, v1), (0, v2), (0, v3), (0, s.1), (0, q9)]) (st' := [(0, s.1), (0, v2), (2, (((ρ v0 0) : Nat) : Int)), (2, ((v0 : Nat) : Int))]) (h' := (G, ρ, s.2)) hm rfl (cjc (gk_b g2) cjn) ?_
              obtain ⟨q14, h14, e⟩ := bn_s e
              refine Ex_callm (z := 44) (na := 3) (ck := 7) (as := [(2, (((ρ v0 0) : Nat) : Int)), (0, v2), (0, s.1)]) (rest := [(2, ((v0 : Nat) : Int))]) (E0 := [(2, (((ρ v0 0) : Nat) : Int)), (0, v2), (0, s.1), (9, 0)]) (v := some (0, q14)) (h1 := (G, ρ, s.2)) hm rfl (by omega) ⟨Nat.le_of_ble_eq_true rfl, Nat.le_of_ble_eq_true rfl⟩ (rc2 rfl g3) rfl rfl ml_44 rfl (Nat.le_of_ble_eq_true rfl) (tf44 h14 (by omega)) ?_
              show Ex d 5 52 [(2, ((v0 : Nat) : Int)), (0, v1), (0, v2), (0, v3), (0, s.1), (0, q9)] [(0, q14), (2, ((v0 : Nat) : Int))] (G, ρ, s.2) rr
              refine Ex_run 6 (i' := 58) (L' := [(2, ((v0 : Nat) : Int)), (0, v1), (0, v2), (0, v3), (0, s.1), (0, q9)]) (st' := [(0, s.1), (0, v3), (2, (((ρ v0 1) : Nat) : Int)), (0, (g_mul q14 10)), (2, ((v0 : Nat) : Int))]) (h' := (G, ρ, s.2)) hm rfl (cjc (gk_b g2) cjn) ?_
              obtain ⟨q15, h15, e⟩ := bn_s e
              refine Ex_callm (z := 44) (na := 3) (ck := 7) (as := [(2, (((ρ v0 1) : Nat) : Int)), (0, v3), (0, s.1)]) (rest := [(0, (g_mul q14 10)), (2, ((v0 : Nat) : Int))]) (E0 := [(2, (((ρ v0 1) : Nat) : Int)), (0, v3), (0, s.1), (9, 0)]) (v := some (0, q15)) (h1 := (G, ρ, s.2)) hm rfl (by omega) ⟨Nat.le_of_ble_eq_true rfl, Nat.le_of_ble_eq_true rfl⟩ (rc2 rfl g6) rfl rfl ml_44 rfl (Nat.le_of_ble_eq_true rfl) (tf44 h15 (by omega)) ?_
              show Ex d 5 59 [(2, ((v0 : Nat) : Int)), (0, v1), (0, v2), (0, v3), (0, s.1), (0, q9)] [(0, q15), (0, (g_mul q14 10)), (2, ((v0 : Nat) : Int))] (G, ρ, s.2) rr
              refine Ex_run 3 (i' := 62) (L' := [(2, ((v0 : Nat) : Int)), (0, v1), (0, v2), (0, v3), (0, s.1), (0, q9)]) (st' := [(0, s.1), (0, v1), (0, (g_add (g_mul q14 10) q15)), (2, ((v0 : Nat) : Int))]) (h' := (G, ρ, s.2)) hm rfl cjn ?_
              obtain ⟨q16, h16, e⟩ := bn_s e
              refine Ex_callm (z := 6) (na := 4) (ck := 4) (as := [(2, ((v0 : Nat) : Int)), (0, (g_add (g_mul q14 10) q15)), (0, v1), (0, s.1)]) (rest := []) (E0 := [(2, ((v0 : Nat) : Int)), (0, (g_add (g_mul q14 10) q15)), (0, v1), (0, s.1)]) (v := none) (h1 := (G, ρ, q16)) hm rfl (by omega) ⟨Nat.le_of_ble_eq_true rfl, Nat.le_of_ble_eq_true rfl⟩ (rc2 rfl g2) rfl rfl ml_6 rfl (Nat.le_of_ble_eq_true rfl) (tf6 h16 (by omega)) ?_
              show Ex d 5 63 [(2, ((v0 : Nat) : Int)), (0, v1), (0, v2), (0, v3), (0, s.1), (0, q9)] [] (G, ρ, q16) rr
              refine Ex_run 2 (i' := 10) (L' := [(2, ((v0 : Nat) : Int)), (0, v1), (0, v2), (0, v3), (0, (w32 (s.1 + 1))), (0, q9)]) (st' := []) (h' := (G, ρ, q16)) hm rfl cjn ?_
              cases e
              exact hk _
        · replace e := it_n e c11
          refine Ex_if2f (c := 0) (tgt := 39) hm rfl (bf0 c11) ?_
          obtain ⟨x, e, hx⟩ := xr_s e
          replace hk : (Bi G ρ) x rr := by rw [hx] at hk; exact hk
          refine Ex_run 1 (i' := 38) (L' := [(2, ((v0 : Nat) : Int)), (0, v1), (0, v2), (0, v3), (0, s.1), (0, q9)]) (st' := [(0, s.1)]) (h' := (G, ρ, s.2)) hm rfl cjn ?_
          cases e
          cases hk
          exact Ex_ret (k := 1) hm rfl ⟨_, rfl, rfl⟩
theorem tf5 {G : Gg} {ρ : Rg} {d : Nat} {v0 : Nat} {v1 : Int} {m : Sg} {x : Int × Sg} (e : f5 G ρ v0 v1 m = some x) (hd : 2 ≤ d) : Ex d 5 0 [(2, ((v0 : Nat) : Int)), (0, v1), (9, 0), (9, 0), (9, 0), (9, 0)] [] (G, ρ, m) (some (0, x.1), (G, ρ, x.2)) := by
  unfold f5 at e
  have hm := mi_5
  generalize hk : (some (0, x.1), (G, ρ, x.2)) = rr
  replace hk : (Bi G ρ) x rr := hk.symm
  refine Ex_run 10 (i' := 10) (L' := [(2, ((v0 : Nat) : Int)), (0, v1), (0, (g_div v1 10)), (0, (g_rem v1 10)), (0, 1), (9, 0)]) (st' := []) (h' := (G, ρ, m)) hm rfl (cjc (by decide) (cjc (Nat.le_of_ble_eq_true rfl) (cjc (by decide) (cjc (Nat.le_of_ble_eq_true rfl) (cjc (Nat.le_of_ble_eq_true rfl) cjn))))) ?_
  exact (Ex_lp (A := e5_10 G ρ d v0 v1 (g_div v1 10) (g_rem v1 10) ) (B := (Bi G ρ)) (fun s x e rr hk => tf5_b10 e hd rr hk) FU _ _ e rr hk) _
theorem tf7_b19 {G : Gg} {ρ : Rg} {d : Nat} {v0 : Nat} {v3 : Int} {m : Sg} {s : Int × Int × Int} {x : (Int × Int × Int) ⊕ (Int)} (e : f7_b19 G ρ v0 v3 m s = some x) (hd : 1 ≤ d) (rr : Option MV × Mh) (hk : (DS (e7_19 G ρ d v0 v3 m) (Bpl G ρ m)) x rr) : e7_19 G ρ d v0 v3 m s rr := by
  unfold f7_b19 at e
  have hm := mi_7
  show ∀ (j1 : Int) (j2 : Int), Ex d 7 19 [(2, ((v0 : Nat) : Int)), (0, j1), (0, j2), (0, v3), (1, s.1), (9, 0), (0, s.2.1), (0, s.2.2)] [] (G, ρ, m) rr
  intro j1 j2
  refine Ex_run 2 (i' := 21) (L' := [(2, ((v0 : Nat) : Int)), (0, j1), (0, j2), (0, v3), (1, s.1), (9, 0), (0, s.2.1), (0, s.2.2)]) (st' := [(0, v3), (0, s.2.2)]) (h' := (G, ρ, m)) hm rfl cjn ?_
  by_cases c5 : s.2.2 < v3
  · replace e := it_p e c5
    refine Ex_if2f (c := 3) (tgt := 39) hm rfl (bf3 c5) ?_
    obtain ⟨g6, e⟩ := gd_s e
    refine Ex_run 6 (i' := 28) (L' := [(2, ((v0 : Nat) : Int)), (0, j1), (0, j2), (0, v3), (1, s.1), (9, 0), (0, s.2.1), (0, s.2.2)]) (st' := [(0, s.2.1), (2, (((ρ v0 6) : Nat) : Int)), (1, (k_mul 10 s.1))]) (h' := (G, ρ, m)) hm rfl (cjc (gk_b g6) cjn) ?_
    obtain ⟨g7, e⟩ := gd_s e
    obtain ⟨q8, h8, e⟩ := bn_s e
    refine Ex_callm (z := 33) (na := 2) (ck := 6) (as := [(2, (((ρ v0 6) : Nat) : Int)), (0, s.2.1)]) (rest := [(1, (k_mul 10 s.1))]) (E0 := [(2, (((ρ v0 6) : Nat) : Int)), (0, s.2.1)]) (v := some (0, q8)) (h1 := (G, ρ, m)) hm rfl (by omega) ⟨Nat.le_of_ble_eq_true rfl, Nat.le_of_ble_eq_true rfl⟩ (rc2 rfl g7) rfl rfl ml_33 rfl (Nat.le_of_ble_eq_true rfl) (tf33 h8 (by omega)) ?_
    show Ex d 7 29 [(2, ((v0 : Nat) : Int)), (0, j1), (0, j2), (0, v3), (1, s.1), (9, 0), (0, s.2.1), (0, s.2.2)] [(0, q8), (1, (k_mul 10 s.1))] (G, ρ, m) rr
    refine Ex_run 6 (i' := 35) (L' := [(2, ((v0 : Nat) : Int)), (0, j1), (0, j2), (0, v3), (1, (k_add (k_mul 10 s.1) q8)), (9, 0), (0, s.2.1), (0, s.2.2)]) (st' := [(0, s.2.1), (2, (((ρ v0 5) : Nat) : Int))]) (h' := (G, ρ, m)) hm rfl (cjc (Nat.le_of_ble_eq_true rfl) (cjc (gk_b g6) cjn)) ?_
    obtain ⟨g9, e⟩ := gd_s e
    obtain ⟨q10, h10, e⟩ := bn_s e
    refine Ex_callm (z := 33) (na := 2) (ck := 6) (as := [(2, (((ρ v0 5) : Nat) : Int)), (0, s.2.1)]) (rest := []) (E0 := [(2, (((ρ v0 5) : Nat) : Int)), (0, s.2.1)]) (v := some (0, q10)) (h1 := (G, ρ, m)) hm rfl (by omega) ⟨Nat.le_of_ble_eq_true rfl, Nat.le_of_ble_eq_true rfl⟩ (rc2 rfl g9) rfl rfl ml_33 rfl (Nat.le_of_ble_eq_true rfl) (tf33 h10 (by omega)) ?_
    show Ex d 7 36 [(2, ((v0 : Nat) : Int)), (0, j1), (0, j2), (0, v3), (1, (k_add (k_mul 10 s.1) q8)), (9, 0), (0, s.2.1), (0, s.2.2)] [(0, q10)] (G, ρ, m) rr
    refine Ex_run 3 (i' := 19) (L' := [(2, ((v0 : Nat) : Int)), (0, j1), (0, j2), (0, v3), (1, (k_add (k_mul 10 s.1) q8)), (9, 0), (0, q10), (0, (w32 (s.2.2 + 1)))]) (st' := []) (h' := (G, ρ, m)) hm rfl (cjc (Nat.le_of_ble_eq_true rfl) cjn) ?_
    cases e
    exact hk _ _
  · replace e := it_n e c5
    refine Ex_if2t (c := 3) (tgt := 39) hm rfl (bt3 c5) ?_
    obtain ⟨x, e, hx⟩ := xr_s e
    replace hk : (Bpl G ρ m) x rr := by rw [hx] at hk; exact hk
    refine Ex_run 1 (i' := 40) (L' := [(2, ((v0 : Nat) : Int)), (0, j1), (0, j2), (0, v3), (1, s.1), (9, 0), (0, s.2.1), (0, s.2.2)]) (st' := [(1, s.1)]) (h' := (G, ρ, m)) hm rfl cjn ?_
    cases e
    cases hk
    exact Ex_ret (k := 3) hm rfl ⟨_, rfl, rfl⟩
theorem tf7 {G : Gg} {ρ : Rg} {d : Nat} {v0 : Nat} {v1 : Int} {v2 : Int} {m : Sg} {x : Int} (e : f7 G ρ v0 v1 v2 m = some x) (hd : 1 ≤ d) : Ex d 7 0 [(2, ((v0 : Nat) : Int)), (0, v1), (0, v2), (9, 0), (9, 0), (9, 0), (9, 0), (9, 0)] [] (G, ρ, m) (some (1, x), (G, ρ, m)) := by
  unfold f7 at e
  have hm := mi_7
  generalize hk : (some (1, x), (G, ρ, m)) = rr
  replace hk : (Bpl G ρ m) x rr := hk.symm
  obtain ⟨g1, e⟩ := gd_s e
  refine Ex_run 3 (i' := 3) (L' := [(2, ((v0 : Nat) : Int)), (0, v1), (0, v2), (9, 0), (9, 0), (9, 0), (9, 0), (9, 0)]) (st' := [(0, v1), (2, (((ρ v0 4) : Nat) : Int))]) (h' := (G, ρ, m)) hm rfl (cjc (gk_b g1) cjn) ?_
  obtain ⟨g2, e⟩ := gd_s e
  obtain ⟨q3, h3, e⟩ := bn_s e
  refine Ex_callm (z := 33) (na := 2) (ck := 6) (as := [(2, (((ρ v0 4) : Nat) : Int)), (0, v1)]) (rest := []) (E0 := [(2, (((ρ v0 4) : Nat) : Int)), (0, v1)]) (v := some (0, q3)) (h1 := (G, ρ, m)) hm rfl (by omega) ⟨Nat.le_of_ble_eq_true rfl, Nat.le_of_ble_eq_true rfl⟩ (rc2 rfl g2) rfl rfl ml_33 rfl (Nat.le_of_ble_eq_true rfl) (tf33 h3 (by omega)) ?_
  show Ex d 7 4 [(2, ((v0 : Nat) : Int)), (0, v1), (0, v2), (9, 0), (9, 0), (9, 0), (9, 0), (9, 0)] [(0, q3)] (G, ρ, m) rr
  refine Ex_run 5 (i' := 9) (L' := [(2, ((v0 : Nat) : Int)), (0, v1), (0, v2), (0, q3), (9, 0), (9, 0), (9, 0), (9, 0)]) (st' := [(0, 18), (0, (g_add q3 1))]) (h' := (G, ρ, m)) hm rfl (cjc (Nat.le_of_ble_eq_true rfl) cjn) ?_
  by_cases c4 : 18 < (g_add q3 1)
  · replace e := it_p e c4
    refine Ex_if2f (c := 5) (tgt := 12) hm rfl (bf5 c4) ?_
    refine Ex_run 1 (i' := 11) (L' := [(2, ((v0 : Nat) : Int)), (0, v1), (0, v2), (0, q3), (9, 0), (9, 0), (9, 0), (9, 0)]) (st' := [(1, (-2))]) (h' := (G, ρ, m)) hm rfl cjn ?_
    cases e
    cases hk
    exact Ex_ret (k := 3) hm rfl ⟨_, rfl, rfl⟩
  · replace e := it_n e c4
    refine Ex_if2t (c := 5) (tgt := 12) hm rfl (bt5 c4) ?_
    refine Ex_run 7 (i' := 19) (L' := [(2, ((v0 : Nat) : Int)), (0, v1), (0, v2), (0, q3), (1, v2), (9, 0), (0, v1), (0, 0)]) (st' := []) (h' := (G, ρ, m)) hm rfl (cjc (Nat.le_of_ble_eq_true rfl) (cjc (Nat.le_of_ble_eq_true rfl) (cjc (Nat.le_of_ble_eq_true rfl) cjn))) ?_
    exact (Ex_lp (A := e7_19 G ρ d v0 q3 m ) (B := (Bpl G ρ m)) (fun s x e rr hk => tf7_b19 e hd rr hk) FU _ _ e rr hk) _ _
theorem tf4_b19 {G : Gg} {ρ : Rg} {d : Nat} {v0 : Nat} {s : Int × Sg} {x : (Int × Sg) ⊕ (Int × Sg)} (e : f4_b19 G ρ v0 s = some x) (hd : 3 ≤ d) (rr : Option MV × Mh) (hk : (DS (e4_19 G ρ d v0) (Bl G ρ)) x rr) : e4_19 G ρ d v0 s rr := by
  unfold f4_b19 at e
  have hm := mi_4
  show ∀ (j2 : MV) (j3 : MV), Ex d 4 19 [(2, ((v0 : Nat) : Int)), (0, s.1), j2, j3] [] (G, ρ, s.2) rr
  intro j2 j3
  obtain ⟨g7, e⟩ := gd_s e
  refine Ex_run 3 (i' := 22) (L' := [(2, ((v0 : Nat) : Int)), (0, s.1), j2, j3]) (st' := [(0, (s.2 v0 7)), (0, s.1)]) (h' := (G, ρ, s.2)) hm rfl (cjc (gk_b g7) cjn) ?_
  by_cases c8 : s.1 < (s.2 v0 7)
  · replace e := it_p e c8
    refine Ex_if2f (c := 3) (tgt := 44) hm rfl (bf3 c8) ?_
    refine Ex_run 2 (i' := 25) (L' := [(2, ((v0 : Nat) : Int)), (0, s.1), j2, j3]) (st' := [(0, 100), (0, s.1)]) (h' := (G, ρ, s.2)) hm rfl cjn ?_
    by_cases c9 : s.1 < 100
    · replace e := it_p e c9
      refine Ex_if2f (c := 3) (tgt := 44) hm rfl (bf3 c9) ?_
      refine Ex_run 3 (i' := 29) (L' := [(2, ((v0 : Nat) : Int)), (0, s.1), j2, j3]) (st' := [(0, s.1), (2, (((ρ v0 2) : Nat) : Int))]) (h' := (G, ρ, s.2)) hm rfl (cjc (gk_b g7) cjn) ?_
      obtain ⟨g10, e⟩ := gd_s e
      obtain ⟨q11, h11, e⟩ := bn_s e
      refine Ex_callm (z := 33) (na := 2) (ck := 6) (as := [(2, (((ρ v0 2) : Nat) : Int)), (0, s.1)]) (rest := []) (E0 := [(2, (((ρ v0 2) : Nat) : Int)), (0, s.1)]) (v := some (0, q11)) (h1 := (G, ρ, s.2)) hm rfl (by omega) ⟨Nat.le_of_ble_eq_true rfl, Nat.le_of_ble_eq_true rfl⟩ (rc2 rfl g10) rfl rfl ml_33 rfl (Nat.le_of_ble_eq_true rfl) (tf33 h11 (by omega)) ?_
      show Ex d 4 30 [(2, ((v0 : Nat) : Int)), (0, s.1), j2, j3] [(0, q11)] (G, ρ, s.2) rr
      refine Ex_run 3 (i' := 33) (L' := [(2, ((v0 : Nat) : Int)), (0, s.1), (0, q11), j3]) (st' := [(0, q11), (2, ((v0 : Nat) : Int))]) (h' := (G, ρ, s.2)) hm rfl (cjc (Nat.le_of_ble_eq_true rfl) cjn) ?_
      obtain ⟨q12, h12, e⟩ := bn_s e
      refine Ex_callm (z := 5) (na := 2) (ck := 4) (as := [(2, ((v0 : Nat) : Int)), (0, q11)]) (rest := []) (E0 := [(2, ((v0 : Nat) : Int)), (0, q11), (9, 0), (9, 0), (9, 0), (9, 0)]) (v := some (0, q12.1)) (h1 := (G, ρ, q12.2)) hm rfl (by omega) ⟨Nat.le_of_ble_eq_true rfl, Nat.le_of_ble_eq_true rfl⟩ (rc2 rfl g7) rfl rfl ml_5 rfl (Nat.le_of_ble_eq_true rfl) (tf5 h12 (by omega)) ?_
      show Ex d 4 34 [(2, ((v0 : Nat) : Int)), (0, s.1), (0, q11), j3] [(0, q12.1)] (G, ρ, q12.2) rr
      refine Ex_run 2 (i' := 36) (L' := [(2, ((v0 : Nat) : Int)), (0, s.1), (0, q11), (0, q12.1)]) (st' := [(0, q12.1)]) (h' := (G, ρ, q12.2)) hm rfl (cjc (Nat.le_of_ble_eq_true rfl) cjn) ?_
      by_cases c13 : q12.1 = 0
      · replace e := it_p e c13
        refine Ex_if1t (c := 0) (tgt := 42) hm rfl (bt0 c13) ?_
        refine Ex_run 2 (i' := 19) (L' := [(2, ((v0 : Nat) : Int)), (0, (w32 (s.1 + 1))), (0, q11), (0, q12.1)]) (st' := []) (h' := (G, ρ, q12.2)) hm rfl cjn ?_
        cases e
        exact hk _ _
      · replace e := it_n e c13
        refine Ex_if1f (c := 0) (tgt := 42) hm rfl (bf0 c13) ?_
        obtain ⟨x, e, hx⟩ := xr_s e
        replace hk : (Bl G ρ) x rr := by rw [hx] at hk; exact hk
        refine Ex_run 3 (i' := 40) (L' := [(2, ((v0 : Nat) : Int)), (0, s.1), (0, q11), (0, q12.1)]) (st' := [(0, q12.1), (0, q11), (2, ((v0 : Nat) : Int))]) (h' := (G, ρ, q12.2)) hm rfl cjn ?_
        obtain ⟨q14, h14, e⟩ := bn_s e
        refine Ex_callm (z := 7) (na := 3) (ck := 4) (as := [(2, ((v0 : Nat) : Int)), (0, q11), (0, q12.1)]) (rest := []) (E0 := [(2, ((v0 : Nat) : Int)), (0, q11), (0, q12.1), (9, 0), (9, 0), (9, 0), (9, 0), (9, 0)]) (v := some (1, q14)) (h1 := (G, ρ, q12.2)) hm rfl (by omega) ⟨Nat.le_of_ble_eq_true rfl, Nat.le_of_ble_eq_true rfl⟩ (rc2 rfl g7) rfl rfl ml_7 rfl (Nat.le_of_ble_eq_true rfl) (tf7 h14 (by omega)) ?_
        show Ex d 4 41 [(2, ((v0 : Nat) : Int)), (0, s.1), (0, q11), (0, q12.1)] [(1, q14)] (G, ρ, q12.2) rr
        cases e
        cases hk
        exact Ex_ret (k := 3) hm rfl ⟨_, rfl, rfl⟩
    · replace e := it_n e c9
      refine Ex_if2t (c := 3) (tgt := 44) hm rfl (bt3 c9) ?_
      obtain ⟨x, e, hx⟩ := xr_s e
      replace hk : (Bl G ρ) x rr := by rw [hx] at hk; exact hk
      refine Ex_run 1 (i' := 45) (L' := [(2, ((v0 : Nat) : Int)), (0, s.1), j2, j3]) (st' := [(1, (-1))]) (h' := (G, ρ, s.2)) hm rfl cjn ?_
      cases e
      cases hk
      exact Ex_ret (k := 3) hm rfl ⟨_, rfl, rfl⟩
  · replace e := it_n e c8
    refine Ex_if2t (c := 3) (tgt := 44) hm rfl (bt3 c8) ?_
    obtain ⟨x, e, hx⟩ := xr_s e
    replace hk : (Bl G ρ) x rr := by rw [hx] at hk; exact hk
    refine Ex_run 1 (i' := 45) (L' := [(2, ((v0 : Nat) : Int)), (0, s.1), j2, j3]) (st' := [(1, (-1))]) (h' := (G, ρ, s.2)) hm rfl cjn ?_
    cases e
    cases hk
    exact Ex_ret (k := 3) hm rfl ⟨_, rfl, rfl⟩
theorem tf4 {G : Gg} {ρ : Rg} {d : Nat} {v0 : Nat} {m : Sg} {x : Int × Sg} (e : f4 G ρ v0 m = some x) (hd : 3 ≤ d) : Ex d 4 0 [(2, ((v0 : Nat) : Int)), (9, 0), (9, 0), (9, 0)] [] (G, ρ, m) (some (1, x.1), (G, ρ, x.2)) := by
  unfold f4 at e
  have hm := mi_4
  generalize hk : (some (1, x.1), (G, ρ, x.2)) = rr
  replace hk : (Bl G ρ) x rr := hk.symm
  obtain ⟨g1, e⟩ := gd_s e
  refine Ex_run 3 (i' := 3) (L' := [(2, ((v0 : Nat) : Int)), (9, 0), (9, 0), (9, 0)]) (st' := [(0, 0), (2, (((ρ v0 3) : Nat) : Int))]) (h' := (G, ρ, m)) hm rfl (cjc (gk_b g1) cjn) ?_
  obtain ⟨g2, e⟩ := gd_s e
  obtain ⟨q3, h3, e⟩ := bn_s e
  refine Ex_callm (z := 35) (na := 2) (ck := 6) (as := [(2, (((ρ v0 3) : Nat) : Int)), (0, 0)]) (rest := []) (E0 := [(2, (((ρ v0 3) : Nat) : Int)), (0, 0), (9, 0)]) (v := none) (h1 := (G, ρ, q3)) hm rfl (by omega) ⟨Nat.le_of_ble_eq_true rfl, Nat.le_of_ble_eq_true rfl⟩ (rc2 rfl g2) rfl rfl ml_35 rfl (Nat.le_of_ble_eq_true rfl) (tf35 h3 (by omega)) ?_
  show Ex d 4 4 [(2, ((v0 : Nat) : Int)), (9, 0), (9, 0), (9, 0)] [] (G, ρ, q3) rr
  refine Ex_run 7 (i' := 11) (L' := [(2, ((v0 : Nat) : Int)), (9, 0), (9, 0), (9, 0)]) (st' := [(0, 0), (0, 0), (0, 0), (2, ((v0 : Nat) : Int))]) (h' := (G, ρ, (put q3 v0 7 0))) hm rfl (cjc (gk_b g1) cjn) ?_
  obtain ⟨q4, h4, e⟩ := bn_s e
  refine Ex_callm (z := 6) (na := 4) (ck := 4) (as := [(2, ((v0 : Nat) : Int)), (0, 0), (0, 0), (0, 0)]) (rest := []) (E0 := [(2, ((v0 : Nat) : Int)), (0, 0), (0, 0), (0, 0)]) (v := none) (h1 := (G, ρ, q4)) hm rfl (by omega) ⟨Nat.le_of_ble_eq_true rfl, Nat.le_of_ble_eq_true rfl⟩ (rc2 rfl g1) rfl rfl ml_6 rfl (Nat.le_of_ble_eq_true rfl) (tf6 h4 (by omega)) ?_
  show Ex d 4 12 [(2, ((v0 : Nat) : Int)), (9, 0), (9, 0), (9, 0)] [] (G, ρ, q4) rr
  refine Ex_run 4 (i' := 16) (L' := [(2, ((v0 : Nat) : Int)), (9, 0), (9, 0), (9, 0)]) (st' := [(0, 0), (0, 0), (2, (((ρ v0 4) : Nat) : Int))]) (h' := (G, ρ, q4)) hm rfl (cjc (gk_b g1) cjn) ?_
  obtain ⟨g5, e⟩ := gd_s e
  obtain ⟨q6, h6, e⟩ := bn_s e
  refine Ex_callm (z := 34) (na := 3) (ck := 6) (as := [(2, (((ρ v0 4) : Nat) : Int)), (0, 0), (0, 0)]) (rest := []) (E0 := [(2, (((ρ v0 4) : Nat) : Int)), (0, 0), (0, 0)]) (v := none) (h1 := (G, ρ, q6)) hm rfl (by omega) ⟨Nat.le_of_ble_eq_true rfl, Nat.le_of_ble_eq_true rfl⟩ (rc2 rfl g5) rfl rfl ml_34 rfl (Nat.le_of_ble_eq_true rfl) (tf34 h6 (by omega)) ?_
  show Ex d 4 17 [(2, ((v0 : Nat) : Int)), (9, 0), (9, 0), (9, 0)] [] (G, ρ, q6) rr
  refine Ex_run 2 (i' := 19) (L' := [(2, ((v0 : Nat) : Int)), (0, 0), (9, 0), (9, 0)]) (st' := []) (h' := (G, ρ, q6)) hm rfl (cjc (Nat.le_of_ble_eq_true rfl) cjn) ?_
  exact (Ex_lp (A := e4_19 G ρ d v0 ) (B := (Bl G ρ)) (fun s x e rr hk => tf4_b19 e hd rr hk) FU _ _ e rr hk) _ _
theorem tf8_43 {d : Nat} {w0 : Int} {w1 : Nat} {h : Mh} {x : Mh} (e : f8_43 w0 w1 h = some x) (hd : 2 ≤ d) (rr : Option MV × Mh) (hk : Hv x rr) (j0 : Nat) : Ex d 8 43 [(2, ((j0 : Nat) : Int))] [(0, w0), (2, ((w1 : Nat) : Int))] h rr := by
  unfold f8_43 at e
  have hm := mi_8
  obtain ⟨g18, e⟩ := gd_s e
  refine Ex_run 1 (i' := 44) (L' := [(2, ((j0 : Nat) : Int))]) (st' := []) (h' := (h.1, h.2.1, (put h.2.2 w1 8 w0))) hm rfl (cjc (gk_b g18) cjn) ?_
  cases e
  cases hk
  exact Ex_ret (k := 0) hm rfl ⟨rfl, rfl⟩
theorem tf8_33 {d : Nat} {v0 : Nat} {w0 : Nat} {h : Mh} {x : Mh} (e : f8_33 v0 w0 h = some x) (hd : 2 ≤ d) (rr : Option MV × Mh) (hk : Hv x rr) : Ex d 8 33 [(2, ((v0 : Nat) : Int))] [(2, ((w0 : Nat) : Int))] h rr := by
  unfold f8_33 at e
  have hm := mi_8
  refine Ex_run 3 (i' := 36) (L' := [(2, ((v0 : Nat) : Int))]) (st' := [(0, 160), (2, (((List.length h.1) : Nat) : Int)), (2, (((List.length h.1) : Nat) : Int)), (2, ((w0 : Nat) : Int))]) (h' := ((h.1 ++ [(6, 1)]), (zapR h.2.1 (List.length h.1)), (zap h.2.2 (List.length h.1)))) hm rfl cjn ?_
  obtain ⟨g14, e⟩ := gd_s e
  obtain ⟨q15, h15, e⟩ := bn_s e
  refine Ex_callm (z := 32) (na := 2) (ck := 1) (as := [(2, (((List.length h.1) : Nat) : Int)), (0, 160)]) (rest := [(2, (((List.length h.1) : Nat) : Int)), (2, ((w0 : Nat) : Int))]) (E0 := [(2, (((List.length h.1) : Nat) : Int)), (0, 160)]) (v := none) (h1 := (q15.1, q15.2.1, q15.2.2)) hm rfl (by omega) ⟨Nat.le_of_ble_eq_true rfl, Nat.le_of_ble_eq_true rfl⟩ (⟨_, rfl, nz_i g14⟩) rfl rfl ml_32 rfl (Nat.le_of_ble_eq_true rfl) (tf32 h15 (by omega)) ?_
  show Ex d 8 37 [(2, ((v0 : Nat) : Int))] [(2, (((List.length h.1) : Nat) : Int)), (2, ((w0 : Nat) : Int))] (q15.1, q15.2.1, q15.2.2) rr
  obtain ⟨g16, e⟩ := gd_s e
  obtain ⟨g17, e⟩ := gd_s e
  refine Ex_run 6 (i' := 43) (L' := [(2, ((v0 : Nat) : Int))]) (st' := [(0, 0), (2, ((v0 : Nat) : Int))]) (h' := (q15.1, (putR q15.2.1 w0 6 (List.length h.1)), (put q15.2.2 v0 7 0))) hm rfl (cjc (gk_b g16) (cjc (nz_i g14) (cjc (gk_b g17) cjn))) ?_
  exact tf8_43 e hd rr hk _
theorem tf8_12 {d : Nat} {v0 : Nat} {w0 : Nat} {h : Mh} {x : Mh} (e : f8_12 v0 w0 h = some x) (hd : 2 ≤ d) (rr : Option MV × Mh) (hk : Hv x rr) : Ex d 8 12 [(2, ((v0 : Nat) : Int))] [(2, ((w0 : Nat) : Int))] h rr := by
  unfold f8_12 at e
  have hm := mi_8
  refine Ex_run 3 (i' := 15) (L' := [(2, ((v0 : Nat) : Int))]) (st' := [(0, 161), (2, (((List.length h.1) : Nat) : Int)), (2, (((List.length h.1) : Nat) : Int)), (2, ((w0 : Nat) : Int))]) (h' := ((h.1 ++ [(6, 1)]), (zapR h.2.1 (List.length h.1)), (zap h.2.2 (List.length h.1)))) hm rfl cjn ?_
  obtain ⟨g5, e⟩ := gd_s e
  obtain ⟨q6, h6, e⟩ := bn_s e
  refine Ex_callm (z := 32) (na := 2) (ck := 1) (as := [(2, (((List.length h.1) : Nat) : Int)), (0, 161)]) (rest := [(2, (((List.length h.1) : Nat) : Int)), (2, ((w0 : Nat) : Int))]) (E0 := [(2, (((List.length h.1) : Nat) : Int)), (0, 161)]) (v := none) (h1 := (q6.1, q6.2.1, q6.2.2)) hm rfl (by omega) ⟨Nat.le_of_ble_eq_true rfl, Nat.le_of_ble_eq_true rfl⟩ (⟨_, rfl, nz_i g5⟩) rfl rfl ml_32 rfl (Nat.le_of_ble_eq_true rfl) (tf32 h6 (by omega)) ?_
  show Ex d 8 16 [(2, ((v0 : Nat) : Int))] [(2, (((List.length h.1) : Nat) : Int)), (2, ((w0 : Nat) : Int))] (q6.1, q6.2.1, q6.2.2) rr
  obtain ⟨g7, e⟩ := gd_s e
  refine Ex_run 5 (i' := 21) (L' := [(2, ((v0 : Nat) : Int))]) (st' := [(0, 161), (2, (((List.length q6.1) : Nat) : Int)), (2, (((List.length q6.1) : Nat) : Int)), (2, ((v0 : Nat) : Int))]) (h' := ((q6.1 ++ [(6, 1)]), (zapR (putR q6.2.1 w0 2 (List.length h.1)) (List.length q6.1)), (zap q6.2.2 (List.length q6.1)))) hm rfl (cjc (gk_b g7) (cjc (nz_i g5) cjn)) ?_
  obtain ⟨g8, e⟩ := gd_s e
  obtain ⟨q9, h9, e⟩ := bn_s e
  refine Ex_callm (z := 32) (na := 2) (ck := 1) (as := [(2, (((List.length q6.1) : Nat) : Int)), (0, 161)]) (rest := [(2, (((List.length q6.1) : Nat) : Int)), (2, ((v0 : Nat) : Int))]) (E0 := [(2, (((List.length q6.1) : Nat) : Int)), (0, 161)]) (v := none) (h1 := (q9.1, q9.2.1, q9.2.2)) hm rfl (by omega) ⟨Nat.le_of_ble_eq_true rfl, Nat.le_of_ble_eq_true rfl⟩ (⟨_, rfl, nz_i g8⟩) rfl rfl ml_32 rfl (Nat.le_of_ble_eq_true rfl) (tf32 h9 (by omega)) ?_
  show Ex d 8 22 [(2, ((v0 : Nat) : Int))] [(2, (((List.length q6.1) : Nat) : Int)), (2, ((v0 : Nat) : Int))] (q9.1, q9.2.1, q9.2.2) rr
  obtain ⟨g10, e⟩ := gd_s e
  refine Ex_run 5 (i' := 27) (L' := [(2, ((v0 : Nat) : Int))]) (st' := [(0, 161), (2, (((List.length q9.1) : Nat) : Int)), (2, (((List.length q9.1) : Nat) : Int)), (2, ((v0 : Nat) : Int))]) (h' := ((q9.1 ++ [(6, 1)]), (zapR (putR q9.2.1 v0 3 (List.length q6.1)) (List.length q9.1)), (zap q9.2.2 (List.length q9.1)))) hm rfl (cjc (gk_b g10) (cjc (nz_i g8) cjn)) ?_
  obtain ⟨g11, e⟩ := gd_s e
  obtain ⟨q12, h12, e⟩ := bn_s e
  refine Ex_callm (z := 32) (na := 2) (ck := 1) (as := [(2, (((List.length q9.1) : Nat) : Int)), (0, 161)]) (rest := [(2, (((List.length q9.1) : Nat) : Int)), (2, ((v0 : Nat) : Int))]) (E0 := [(2, (((List.length q9.1) : Nat) : Int)), (0, 161)]) (v := none) (h1 := (q12.1, q12.2.1, q12.2.2)) hm rfl (by omega) ⟨Nat.le_of_ble_eq_true rfl, Nat.le_of_ble_eq_true rfl⟩ (⟨_, rfl, nz_i g11⟩) rfl rfl ml_32 rfl (Nat.le_of_ble_eq_true rfl) (tf32 h12 (by omega)) ?_
  show Ex d 8 28 [(2, ((v0 : Nat) : Int))] [(2, (((List.length q9.1) : Nat) : Int)), (2, ((v0 : Nat) : Int))] (q12.1, q12.2.1, q12.2.2) rr
  obtain ⟨g13, e⟩ := gd_s e
  refine Ex_run 5 (i' := 33) (L' := [(2, ((v0 : Nat) : Int))]) (st' := [(2, ((v0 : Nat) : Int))]) (h' := (q12.1, (putR q12.2.1 v0 4 (List.length q9.1)), (put q12.2.2 v0 5 0))) hm rfl (cjc (gk_b g13) (cjc (nz_i g11) (cjc (gk_b g13) cjn))) ?_
  exact tf8_33 e hd rr hk
theorem tf8 {d : Nat} {v0 : Nat} {h : Mh} {x : Mh} (e : f8 v0 h = some x) (hd : 2 ≤ d) : Ex d 8 0 [(2, ((v0 : Nat) : Int))] [] h (none, x) := by
  unfold f8 at e
  have hm := mi_8
  generalize hk : (none, x) = rr
  replace hk : Hv x rr := hk.symm
  refine Ex_run 1 (i' := 1) (L' := [(2, ((v0 : Nat) : Int))]) (st' := [(2, ((v0 : Nat) : Int))]) (h' := (h.1, h.2.1, h.2.2)) hm rfl cjn ?_
  obtain ⟨g1, e⟩ := gd_s e
  refine Ex_prim (k := 1) (i' := 2) (L' := [(2, ((v0 : Nat) : Int))]) (st' := []) (h' := (h.1, h.2.1, h.2.2)) hm rfl (by omega) rfl (cjc (nz_i g1) (cjc (Nat.le_of_ble_eq_true rfl) cjn)) ?_
  refine Ex_run 4 (i' := 6) (L' := [(2, ((v0 : Nat) : Int))]) (st' := [(0, 160), (2, (((List.length h.1) : Nat) : Int)), (2, (((List.length h.1) : Nat) : Int)), (2, ((v0 : Nat) : Int))]) (h' := ((h.1 ++ [(6, 1)]), (zapR h.2.1 (List.length h.1)), (zap h.2.2 (List.length h.1)))) hm rfl cjn ?_
  obtain ⟨g2, e⟩ := gd_s e
  obtain ⟨q3, h3, e⟩ := bn_s e
  refine Ex_callm (z := 32) (na := 2) (ck := 1) (as := [(2, (((List.length h.1) : Nat) : Int)), (0, 160)]) (rest := [(2, (((List.length h.1) : Nat) : Int)), (2, ((v0 : Nat) : Int))]) (E0 := [(2, (((List.length h.1) : Nat) : Int)), (0, 160)]) (v := none) (h1 := (q3.1, q3.2.1, q3.2.2)) hm rfl (by omega) ⟨Nat.le_of_ble_eq_true rfl, Nat.le_of_ble_eq_true rfl⟩ (⟨_, rfl, nz_i g2⟩) rfl rfl ml_32 rfl (Nat.le_of_ble_eq_true rfl) (tf32 h3 (by omega)) ?_
  show Ex d 8 7 [(2, ((v0 : Nat) : Int))] [(2, (((List.length h.1) : Nat) : Int)), (2, ((v0 : Nat) : Int))] (q3.1, q3.2.1, q3.2.2) rr
  obtain ⟨g4, e⟩ := gd_s e
  refine Ex_run 5 (i' := 12) (L' := [(2, ((v0 : Nat) : Int))]) (st' := [(2, ((v0 : Nat) : Int))]) (h' := (q3.1, (putR q3.2.1 v0 0 (List.length h.1)), (put q3.2.2 v0 1 0))) hm rfl (cjc (gk_b g4) (cjc (nz_i g2) (cjc (gk_b g4) cjn))) ?_
  exact tf8_12 e hd rr hk
theorem tf10 {G : Gg} {ρ : Rg} {d : Nat} {v0 : Nat} {v1 : Int} {m : Sg} {x : Sg} (e : f10 G ρ v0 v1 m = some x) (hd : 1 ≤ d) : Ex d 10 0 [(2, ((v0 : Nat) : Int)), (0, v1)] [] (G, ρ, m) (none, (G, ρ, x)) := by
  unfold f10 at e
  have hm := mi_10
  generalize hk : (none, (G, ρ, x)) = rr
  replace hk : (Bv G ρ) x rr := hk.symm
  obtain ⟨g1, e⟩ := gd_s e
  refine Ex_run 3 (i' := 3) (L' := [(2, ((v0 : Nat) : Int)), (0, v1)]) (st' := [(0, 160), (0, (m v0 1))]) (h' := (G, ρ, m)) hm rfl (cjc (gk_b g1) cjn) ?_
  by_cases c2 : (m v0 1) < 160
  · replace e := it_p e c2
    refine Ex_if2t (c := 2) (tgt := 5) hm rfl (bt2 c2) ?_
    refine Ex_run 5 (i' := 10) (L' := [(2, ((v0 : Nat) : Int)), (0, v1)]) (st' := [(0, v1), (0, (m v0 1)), (2, (((ρ v0 0) : Nat) : Int))]) (h' := (G, ρ, m)) hm rfl (cjc (gk_b g1) (cjc (gk_b g1) cjn)) ?_
    obtain ⟨g3, e⟩ := gd_s e
    obtain ⟨q4, h4, e⟩ := bn_s e
    refine Ex_callm (z := 34) (na := 3) (ck := 6) (as := [(2, (((ρ v0 0) : Nat) : Int)), (0, (m v0 1)), (0, v1)]) (rest := []) (E0 := [(2, (((ρ v0 0) : Nat) : Int)), (0, (m v0 1)), (0, v1)]) (v := none) (h1 := (G, ρ, q4)) hm rfl (by omega) ⟨Nat.le_of_ble_eq_true rfl, Nat.le_of_ble_eq_true rfl⟩ (rc2 rfl g3) rfl rfl ml_34 rfl (Nat.le_of_ble_eq_true rfl) (tf34 h4 (by omega)) ?_
    show Ex d 10 11 [(2, ((v0 : Nat) : Int)), (0, v1)] [] (G, ρ, q4) rr
    refine Ex_run 6 (i' := 17) (L' := [(2, ((v0 : Nat) : Int)), (0, v1)]) (st' := []) (h' := (G, ρ, (put q4 v0 1 (g_add (q4 v0 1) 1)))) hm rfl (cjc (gk_b g1) (cjc (gk_b g1) cjn)) ?_
    cases e
    cases hk
    exact Ex_ret (k := 0) hm rfl ⟨rfl, rfl⟩
  · replace e := it_n e c2
    refine Ex_if2f (c := 2) (tgt := 5) hm rfl (bf2 c2) ?_
    cases e
    cases hk
    exact Ex_ret (k := 0) hm rfl ⟨rfl, rfl⟩
theorem tf230 {G : Gg} {ρ : Rg} {d : Nat} {v0 : Int} {m : Sg} {x : Int} (e : f230 G ρ v0 m = some x) (hd : 0 ≤ d) : Ex d 230 0 [(3, v0)] [] (G, ρ, m) (some (0, x), (G, ρ, m)) := by
  unfold f230 at e
  have hm := mi_230
  generalize hk : (some (0, x), (G, ρ, m)) = rr
  replace hk : (Bpi G ρ m) x rr := hk.symm
  refine Ex_run 1 (i' := 1) (L' := [(3, v0)]) (st' := [(0, 1)]) (h' := (G, ρ, m)) hm rfl cjn ?_
  by_cases c1 : (1 : Int) = 0
  · replace e := it_p e c1
    refine Ex_if1t (c := 0) (tgt := 5) hm rfl (bt0 c1) ?_
    refine Ex_run 1 (i' := 6) (L' := [(3, v0)]) (st' := [(0, 1)]) (h' := (G, ρ, m)) hm rfl cjn ?_
    cases e
    cases hk
    exact Ex_ret (k := 4) hm rfl ⟨_, rfl, by decide, rfl⟩
  · replace e := it_n e c1
    refine Ex_if1f (c := 0) (tgt := 5) hm rfl (bf0 c1) ?_
    refine Ex_run 3 (i' := 6) (L' := [(3, v0)]) (st' := [(0, 0)]) (h' := (G, ρ, m)) hm rfl cjn ?_
    cases e
    cases hk
    exact Ex_ret (k := 4) hm rfl ⟨_, rfl, by decide, rfl⟩
theorem tf228 {G : Gg} {ρ : Rg} {d : Nat} {v0 : Int} {m : Sg} {x : Int} (e : f228 G ρ v0 m = some x) (hd : 1 ≤ d) : Ex d 228 0 [(3, v0)] [] (G, ρ, m) (some (0, x), (G, ρ, m)) := by
  unfold f228 at e
  have hm := mi_228
  generalize hk : (some (0, x), (G, ρ, m)) = rr
  replace hk : (Bpi G ρ m) x rr := hk.symm
  refine Ex_run 4 (i' := 4) (L' := [(3, v0)]) (st' := [(3, v0), (0, (slen v0))]) (h' := (G, ρ, m)) hm rfl cjn ?_
  obtain ⟨q1, h1, e⟩ := bn_s e
  refine Ex_callm (z := 230) (na := 1) (ck := 2) (as := [(3, v0)]) (rest := [(0, (slen v0))]) (E0 := [(3, v0)]) (v := some (0, q1)) (h1 := (G, ρ, m)) hm rfl (by omega) ⟨Nat.le_of_ble_eq_true rfl, Nat.le_of_ble_eq_true rfl⟩ (⟨_, rfl⟩) rfl rfl ml_230 rfl (Nat.le_of_ble_eq_true rfl) (tf230 h1 (by omega)) ?_
  show Ex d 228 5 [(3, v0)] [(0, q1), (0, (slen v0))] (G, ρ, m) rr
  refine Ex_run 1 (i' := 6) (L' := [(3, v0)]) (st' := [(0, (g_shr (slen v0) q1))]) (h' := (G, ρ, m)) hm rfl cjn ?_
  cases e
  cases hk
  exact Ex_ret (k := 1) hm rfl ⟨_, rfl, rfl⟩
theorem tf231 {G : Gg} {ρ : Rg} {d : Nat} {v0 : Int} {m : Sg} {x : Int} (e : f231 G ρ v0 m = some x) (hd : 0 ≤ d) : Ex d 231 0 [(3, v0)] [] (G, ρ, m) (some (0, x), (G, ρ, m)) := by
  unfold f231 at e
  have hm := mi_231
  generalize hk : (some (0, x), (G, ρ, m)) = rr
  replace hk : (Bpi G ρ m) x rr := hk.symm
  refine Ex_run 1 (i' := 1) (L' := [(3, v0)]) (st' := [(0, 1)]) (h' := (G, ρ, m)) hm rfl cjn ?_
  by_cases c1 : (1 : Int) = 0
  · replace e := it_p e c1
    refine Ex_if1t (c := 0) (tgt := 7) hm rfl (bt0 c1) ?_
    refine Ex_run 1 (i' := 8) (L' := [(3, v0)]) (st' := [(0, 0)]) (h' := (G, ρ, m)) hm rfl cjn ?_
    cases e
    cases hk
    exact Ex_ret (k := 2) hm rfl ⟨_, rfl, by decide, rfl⟩
  · replace e := it_n e c1
    refine Ex_if1f (c := 0) (tgt := 7) hm rfl (bf0 c1) ?_
    refine Ex_run 2 (i' := 4) (L' := [(3, v0)]) (st' := [(0, 0)]) (h' := (G, ρ, m)) hm rfl cjn ?_
    by_cases c2 : (0 : Int) = 0
    · replace e := it_p e c2
      refine Ex_if1f (c := 1) (tgt := 7) hm rfl (bf1 c2) ?_
      refine Ex_run 2 (i' := 8) (L' := [(3, v0)]) (st' := [(0, 1)]) (h' := (G, ρ, m)) hm rfl cjn ?_
      cases e
      cases hk
      exact Ex_ret (k := 2) hm rfl ⟨_, rfl, by decide, rfl⟩
    · replace e := it_n e c2
      refine Ex_if1t (c := 1) (tgt := 7) hm rfl (bt1 c2) ?_
      refine Ex_run 1 (i' := 8) (L' := [(3, v0)]) (st' := [(0, 0)]) (h' := (G, ρ, m)) hm rfl cjn ?_
      cases e
      cases hk
      exact Ex_ret (k := 2) hm rfl ⟨_, rfl, by decide, rfl⟩
theorem tf234 {G : Gg} {ρ : Rg} {d : Nat} {v0 : Int} {v1 : Int} {m : Sg} {x : Int} (e : f234 G ρ v0 v1 m = some x) (hd : 0 ≤ d) : Ex d 234 0 [(0, v0), (0, v1), (6, 0)] [] (G, ρ, m) (some (0, x), (G, ρ, m)) := by
  unfold f234 at e
  have hm := mi_234
  generalize hk : (some (0, x), (G, ρ, m)) = rr
  replace hk : (Bpi G ρ m) x rr := hk.symm
  refine Ex_run 1 (i' := 1) (L' := [(0, v0), (0, v1), (6, 0)]) (st' := [(0, v0)]) (h' := (G, ρ, m)) hm rfl cjn ?_
  by_cases c1 : v0 < 0
  · replace e := it_p e c1
    refine Ex_if1t (c := 2) (tgt := 5) hm rfl (bt2 c1) ?_
    refine Ex_run 3 (i' := 8) (L' := [(0, v0), (0, v1), (6, 0)]) (st' := [(0, v1), (0, v0), (6, 0)]) (h' := (G, ρ, m)) hm rfl cjn ?_
    cases e
  · replace e := it_n e c1
    refine Ex_if1f (c := 2) (tgt := 5) hm rfl (bf2 c1) ?_
    refine Ex_run 2 (i' := 4) (L' := [(0, v0), (0, v1), (6, 0)]) (st' := [(0, v1), (0, v0)]) (h' := (G, ρ, m)) hm rfl cjn ?_
    by_cases c2 : v0 < v1
    · replace e := it_p e c2
      refine Ex_if2t (c := 2) (tgt := 10) hm rfl (bt2 c2) ?_
      refine Ex_run 1 (i' := 11) (L' := [(0, v0), (0, v1), (6, 0)]) (st' := [(0, v0)]) (h' := (G, ρ, m)) hm rfl cjn ?_
      cases e
      cases hk
      exact Ex_ret (k := 1) hm rfl ⟨_, rfl, rfl⟩
    · replace e := it_n e c2
      refine Ex_if2f (c := 2) (tgt := 10) hm rfl (bf2 c2) ?_
      refine Ex_run 3 (i' := 8) (L' := [(0, v0), (0, v1), (6, 0)]) (st' := [(0, v1), (0, v0), (6, 0)]) (h' := (G, ρ, m)) hm rfl cjn ?_
      cases e
theorem tf232 {G : Gg} {ρ : Rg} {d : Nat} {v0 : Int} {v1 : Int} {m : Sg} {x : Unit} (e : f232 G ρ v0 v1 m = some x) (hd : 1 ≤ d) : Ex d 232 0 [(0, v0), (0, v1)] [] (G, ρ, m) (none, (G, ρ, m)) := by
  unfold f232 at e
  have hm := mi_232
  generalize hk : (none, (G, ρ, m)) = rr
  replace hk : (Bpv G ρ m) x rr := hk.symm
  refine Ex_run 3 (i' := 3) (L' := [(0, v0), (0, v1)]) (st' := [(6, 0), (0, v1), (0, v0)]) (h' := (G, ρ, m)) hm rfl cjn ?_
  obtain ⟨q1, h1, e⟩ := bn_s e
  refine Ex_callm (z := 234) (na := 3) (ck := 0) (as := [(0, v0), (0, v1), (6, 0)]) (rest := []) (E0 := [(0, v0), (0, v1), (6, 0)]) (v := some (0, q1)) (h1 := (G, ρ, m)) hm rfl (by omega) ⟨Nat.le_of_ble_eq_true rfl, Nat.le_of_ble_eq_true rfl⟩ (trivial) rfl rfl ml_234 rfl (Nat.le_of_ble_eq_true rfl) (tf234 h1 (by omega)) ?_
  show Ex d 232 4 [(0, v0), (0, v1)] [(0, q1)] (G, ρ, m) rr
  refine Ex_run 1 (i' := 5) (L' := [(0, v0), (0, v1)]) (st' := []) (h' := (G, ρ, m)) hm rfl cjn ?_
  cases e
  cases hk
  exact Ex_ret (k := 0) hm rfl ⟨rfl, rfl⟩
theorem tf233 {G : Gg} {ρ : Rg} {d : Nat} {v0 : Int} {v1 : Int} {m : Sg} {x : Int} (e : f233 G ρ v0 v1 m = some x) (hd : 2 ≤ d) : Ex d 233 0 [(5, v0), (0, v1)] [] (G, ρ, m) (some (0, x), (G, ρ, m)) := by
  unfold f233 at e
  have hm := mi_233
  generalize hk : (some (0, x), (G, ρ, m)) = rr
  replace hk : (Bpi G ρ m) x rr := hk.symm
  refine Ex_run 3 (i' := 3) (L' := [(5, v0), (0, v1)]) (st' := [(0, (slen v0)), (0, v1)]) (h' := (G, ρ, m)) hm rfl cjn ?_
  obtain ⟨q1, h1, e⟩ := bn_s e
  refine Ex_callm (z := 232) (na := 2) (ck := 0) (as := [(0, v1), (0, (slen v0))]) (rest := []) (E0 := [(0, v1), (0, (slen v0))]) (v := none) (h1 := (G, ρ, m)) hm rfl (by omega) ⟨Nat.le_of_ble_eq_true rfl, Nat.le_of_ble_eq_true rfl⟩ (trivial) rfl rfl ml_232 rfl (Nat.le_of_ble_eq_true rfl) (tf232 h1 (by omega)) ?_
  show Ex d 233 4 [(5, v0), (0, v1)] [] (G, ρ, m) rr
  obtain ⟨g2, e⟩ := gd_s e
  refine Ex_run 6 (i' := 10) (L' := [(5, v0), (0, v1)]) (st' := [(0, (g_c (g_and (sbyt v0 v1) 255)))]) (h' := (G, ρ, m)) hm rfl (cjc g2 cjn) ?_
  obtain ⟨g3, e⟩ := gd_s e
  cases e
  cases hk
  exact Ex_ret (k := 5) hm rfl ⟨_, rfl, g3, rfl⟩
theorem tf229 {G : Gg} {ρ : Rg} {d : Nat} {v0 : Int} {v1 : Int} {m : Sg} {x : Int} (e : f229 G ρ v0 v1 m = some x) (hd : 3 ≤ d) : Ex d 229 0 [(3, v0), (0, v1)] [] (G, ρ, m) (some (0, x), (G, ρ, m)) := by
  unfold f229 at e
  have hm := mi_229
  generalize hk : (some (0, x), (G, ρ, m)) = rr
  replace hk : (Bpi G ρ m) x rr := hk.symm
  refine Ex_run 1 (i' := 1) (L' := [(3, v0), (0, v1)]) (st' := [(3, v0)]) (h' := (G, ρ, m)) hm rfl cjn ?_
  obtain ⟨q1, h1, e⟩ := bn_s e
  refine Ex_callm (z := 231) (na := 1) (ck := 2) (as := [(3, v0)]) (rest := []) (E0 := [(3, v0)]) (v := some (0, q1)) (h1 := (G, ρ, m)) hm rfl (by omega) ⟨Nat.le_of_ble_eq_true rfl, Nat.le_of_ble_eq_true rfl⟩ (⟨_, rfl⟩) rfl rfl ml_231 rfl (Nat.le_of_ble_eq_true rfl) (tf231 h1 (by omega)) ?_
  show Ex d 229 2 [(3, v0), (0, v1)] [(0, q1)] (G, ρ, m) rr
  by_cases c2 : q1 = 0
  · replace e := it_p e c2
    refine Ex_if1t (c := 0) (tgt := 8) hm rfl (bt0 c2) ?_
    refine Ex_run 3 (i' := 11) (L' := [(3, v0), (0, v1)]) (st' := [(0, v1), (5, v0)]) (h' := (G, ρ, m)) hm rfl cjn ?_
    cases e
  · replace e := it_n e c2
    refine Ex_if1f (c := 0) (tgt := 8) hm rfl (bf0 c2) ?_
    refine Ex_run 3 (i' := 6) (L' := [(3, v0), (0, v1)]) (st' := [(0, v1), (5, v0)]) (h' := (G, ρ, m)) hm rfl cjn ?_
    obtain ⟨q3, h3, e⟩ := bn_s e
    refine Ex_callm (z := 233) (na := 2) (ck := 0) (as := [(5, v0), (0, v1)]) (rest := []) (E0 := [(5, v0), (0, v1)]) (v := some (0, q3)) (h1 := (G, ρ, m)) hm rfl (by omega) ⟨Nat.le_of_ble_eq_true rfl, Nat.le_of_ble_eq_true rfl⟩ (trivial) rfl rfl ml_233 rfl (Nat.le_of_ble_eq_true rfl) (tf233 h3 (by omega)) ?_
    show Ex d 229 7 [(3, v0), (0, v1)] [(0, q3)] (G, ρ, m) rr
    obtain ⟨g4, e⟩ := gd_s e
    cases e
    cases hk
    exact Ex_ret (k := 5) hm rfl ⟨_, rfl, g4, rfl⟩
theorem tf9_b2 {G : Gg} {ρ : Rg} {d : Nat} {v0 : Nat} {v1 : Int} {s : Int × Sg} {x : (Int × Sg) ⊕ (Sg)} (e : f9_b2 G ρ v0 v1 s = some x) (hd : 4 ≤ d) (rr : Option MV × Mh) (hk : (DS (e9_2 G ρ d v0 v1) (Bv G ρ)) x rr) : e9_2 G ρ d v0 v1 s rr := by
  unfold f9_b2 at e
  have hm := mi_9
  show Ex d 9 2 [(2, ((v0 : Nat) : Int)), (3, v1), (0, s.1)] [] (G, ρ, s.2) rr
  refine Ex_run 2 (i' := 4) (L' := [(2, ((v0 : Nat) : Int)), (3, v1), (0, s.1)]) (st' := [(3, v1), (0, s.1)]) (h' := (G, ρ, s.2)) hm rfl cjn ?_
  obtain ⟨q1, h1, e⟩ := bn_s e
  refine Ex_callm (z := 228) (na := 1) (ck := 2) (as := [(3, v1)]) (rest := [(0, s.1)]) (E0 := [(3, v1)]) (v := some (0, q1)) (h1 := (G, ρ, s.2)) hm rfl (by omega) ⟨Nat.le_of_ble_eq_true rfl, Nat.le_of_ble_eq_true rfl⟩ (⟨_, rfl⟩) rfl rfl ml_228 rfl (Nat.le_of_ble_eq_true rfl) (tf228 h1 (by omega)) ?_
  show Ex d 9 5 [(2, ((v0 : Nat) : Int)), (3, v1), (0, s.1)] [(0, q1), (0, s.1)] (G, ρ, s.2) rr
  by_cases c2 : s.1 < q1
  · replace e := it_p e c2
    refine Ex_if2f (c := 3) (tgt := 13) hm rfl (bf3 c2) ?_
    refine Ex_run 3 (i' := 9) (L' := [(2, ((v0 : Nat) : Int)), (3, v1), (0, s.1)]) (st' := [(0, s.1), (3, v1), (2, ((v0 : Nat) : Int))]) (h' := (G, ρ, s.2)) hm rfl cjn ?_
    obtain ⟨q3, h3, e⟩ := bn_s e
    refine Ex_callm (z := 229) (na := 2) (ck := 2) (as := [(3, v1), (0, s.1)]) (rest := [(2, ((v0 : Nat) : Int))]) (E0 := [(3, v1), (0, s.1)]) (v := some (0, q3)) (h1 := (G, ρ, s.2)) hm rfl (by omega) ⟨Nat.le_of_ble_eq_true rfl, Nat.le_of_ble_eq_true rfl⟩ (⟨_, rfl⟩) rfl rfl ml_229 rfl (Nat.le_of_ble_eq_true rfl) (tf229 h3 (by omega)) ?_
    show Ex d 9 10 [(2, ((v0 : Nat) : Int)), (3, v1), (0, s.1)] [(0, q3), (2, ((v0 : Nat) : Int))] (G, ρ, s.2) rr
    obtain ⟨g4, e⟩ := gd_s e
    obtain ⟨q5, h5, e⟩ := bn_s e
    refine Ex_callm (z := 10) (na := 2) (ck := 5) (as := [(2, ((v0 : Nat) : Int)), (0, q3)]) (rest := []) (E0 := [(2, ((v0 : Nat) : Int)), (0, q3)]) (v := none) (h1 := (G, ρ, q5)) hm rfl (by omega) ⟨Nat.le_of_ble_eq_true rfl, Nat.le_of_ble_eq_true rfl⟩ (rc2 rfl g4) rfl rfl ml_10 rfl (Nat.le_of_ble_eq_true rfl) (tf10 h5 (by omega)) ?_
    show Ex d 9 11 [(2, ((v0 : Nat) : Int)), (3, v1), (0, s.1)] [] (G, ρ, q5) rr
    refine Ex_run 2 (i' := 2) (L' := [(2, ((v0 : Nat) : Int)), (3, v1), (0, (w32 (s.1 + 1)))]) (st' := []) (h' := (G, ρ, q5)) hm rfl cjn ?_
    cases e
    exact hk
  · replace e := it_n e c2
    refine Ex_if2t (c := 3) (tgt := 13) hm rfl (bt3 c2) ?_
    obtain ⟨x, e, hx⟩ := xr_s e
    replace hk : (Bv G ρ) x rr := by rw [hx] at hk; exact hk
    cases e
    cases hk
    exact Ex_ret (k := 0) hm rfl ⟨rfl, rfl⟩
theorem tf9 {G : Gg} {ρ : Rg} {d : Nat} {v0 : Nat} {v1 : Int} {m : Sg} {x : Sg} (e : f9 G ρ v0 v1 m = some x) (hd : 4 ≤ d) : Ex d 9 0 [(2, ((v0 : Nat) : Int)), (3, v1), (9, 0)] [] (G, ρ, m) (none, (G, ρ, x)) := by
  unfold f9 at e
  have hm := mi_9
  generalize hk : (none, (G, ρ, x)) = rr
  replace hk : (Bv G ρ) x rr := hk.symm
  refine Ex_run 2 (i' := 2) (L' := [(2, ((v0 : Nat) : Int)), (3, v1), (0, 0)]) (st' := []) (h' := (G, ρ, m)) hm rfl (cjc (Nat.le_of_ble_eq_true rfl) cjn) ?_
  exact (Ex_lp (A := e9_2 G ρ d v0 v1 ) (B := (Bv G ρ)) (fun s x e rr hk => tf9_b2 e hd rr hk) FU _ _ e rr hk)
theorem tf11 {G : Gg} {ρ : Rg} {d : Nat} {v0 : Nat} {m : Sg} {x : Sg} (e : f11 G ρ v0 m = some x) (hd : 0 ≤ d) : Ex d 11 0 [(2, ((v0 : Nat) : Int))] [] (G, ρ, m) (none, (G, ρ, x)) := by
  unfold f11 at e
  have hm := mi_11
  generalize hk : (none, (G, ρ, x)) = rr
  replace hk : (Bv G ρ) x rr := hk.symm
  obtain ⟨g1, e⟩ := gd_s e
  refine Ex_run 3 (i' := 3) (L' := [(2, ((v0 : Nat) : Int))]) (st' := []) (h' := (G, ρ, (put m v0 1 0))) hm rfl (cjc (gk_b g1) cjn) ?_
  cases e
  cases hk
  exact Ex_ret (k := 0) hm rfl ⟨rfl, rfl⟩
theorem tf19 {G : Gg} {ρ : Rg} {d : Nat} {v0 : Int} {m : Sg} {x : Int} (e : f19 G ρ v0 m = some x) (hd : 0 ≤ d) : Ex d 19 0 [(0, v0)] [] (G, ρ, m) (some (0, x), (G, ρ, m)) := by
  unfold f19 at e
  have hm := mi_19
  generalize hk : (some (0, x), (G, ρ, m)) = rr
  replace hk : (Bpi G ρ m) x rr := hk.symm
  refine Ex_run 2 (i' := 2) (L' := [(0, v0)]) (st' := [(0, 97), (0, v0)]) (h' := (G, ρ, m)) hm rfl cjn ?_
  by_cases c1 : v0 < 97
  · replace e := it_p e c1
    refine Ex_if2t (c := 2) (tgt := 8) hm rfl (bt2 c1) ?_
    refine Ex_run 1 (i' := 9) (L' := [(0, v0)]) (st' := [(0, 0)]) (h' := (G, ρ, m)) hm rfl cjn ?_
    cases e
    cases hk
    exact Ex_ret (k := 2) hm rfl ⟨_, rfl, by decide, rfl⟩
  · replace e := it_n e c1
    refine Ex_if2f (c := 2) (tgt := 8) hm rfl (bf2 c1) ?_
    refine Ex_run 2 (i' := 5) (L' := [(0, v0)]) (st' := [(0, 122), (0, v0)]) (h' := (G, ρ, m)) hm rfl cjn ?_
    by_cases c2 : 122 < v0
    · replace e := it_p e c2
      refine Ex_if2t (c := 4) (tgt := 8) hm rfl (bt4 c2) ?_
      refine Ex_run 1 (i' := 9) (L' := [(0, v0)]) (st' := [(0, 0)]) (h' := (G, ρ, m)) hm rfl cjn ?_
      cases e
      cases hk
      exact Ex_ret (k := 2) hm rfl ⟨_, rfl, by decide, rfl⟩
    · replace e := it_n e c2
      refine Ex_if2f (c := 4) (tgt := 8) hm rfl (bf4 c2) ?_
      refine Ex_run 2 (i' := 9) (L' := [(0, v0)]) (st' := [(0, 1)]) (h' := (G, ρ, m)) hm rfl cjn ?_
      cases e
      cases hk
      exact Ex_ret (k := 2) hm rfl ⟨_, rfl, by decide, rfl⟩
theorem tf20 {G : Gg} {ρ : Rg} {d : Nat} {v0 : Int} {m : Sg} {x : Int} (e : f20 G ρ v0 m = some x) (hd : 0 ≤ d) : Ex d 20 0 [(0, v0)] [] (G, ρ, m) (some (0, x), (G, ρ, m)) := by
  unfold f20 at e
  have hm := mi_20
  generalize hk : (some (0, x), (G, ρ, m)) = rr
  replace hk : (Bpi G ρ m) x rr := hk.symm
  refine Ex_run 2 (i' := 2) (L' := [(0, v0)]) (st' := [(0, 48), (0, v0)]) (h' := (G, ρ, m)) hm rfl cjn ?_
  by_cases c1 : v0 < 48
  · replace e := it_p e c1
    refine Ex_if2t (c := 2) (tgt := 8) hm rfl (bt2 c1) ?_
    refine Ex_run 1 (i' := 9) (L' := [(0, v0)]) (st' := [(0, 0)]) (h' := (G, ρ, m)) hm rfl cjn ?_
    cases e
    cases hk
    exact Ex_ret (k := 2) hm rfl ⟨_, rfl, by decide, rfl⟩
  · replace e := it_n e c1
    refine Ex_if2f (c := 2) (tgt := 8) hm rfl (bf2 c1) ?_
    refine Ex_run 2 (i' := 5) (L' := [(0, v0)]) (st' := [(0, 57), (0, v0)]) (h' := (G, ρ, m)) hm rfl cjn ?_
    by_cases c2 : 57 < v0
    · replace e := it_p e c2
      refine Ex_if2t (c := 4) (tgt := 8) hm rfl (bt4 c2) ?_
      refine Ex_run 1 (i' := 9) (L' := [(0, v0)]) (st' := [(0, 0)]) (h' := (G, ρ, m)) hm rfl cjn ?_
      cases e
      cases hk
      exact Ex_ret (k := 2) hm rfl ⟨_, rfl, by decide, rfl⟩
    · replace e := it_n e c2
      refine Ex_if2f (c := 4) (tgt := 8) hm rfl (bf4 c2) ?_
      refine Ex_run 2 (i' := 9) (L' := [(0, v0)]) (st' := [(0, 1)]) (h' := (G, ρ, m)) hm rfl cjn ?_
      cases e
      cases hk
      exact Ex_ret (k := 2) hm rfl ⟨_, rfl, by decide, rfl⟩
theorem tf14_28 {G : Gg} {ρ : Rg} {d : Nat} {v0 : Nat} {v2 : Int} {v3 : Int} {v4 : Int} {m : Sg} {x : (Int) ⊕ (Int)} (e : f14_28 G ρ v0 v2 v3 v4 m = some x) (hd : 1 ≤ d) (rr : Option MV × Mh) (hk : (DS (e14_16 G ρ d v0 v3 v4 m) (Bpi G ρ m)) x rr) (j1 : Int) : Ex d 14 28 [(2, ((v0 : Nat) : Int)), (0, j1), (0, v2), (0, v3), (0, v4)] [] (G, ρ, m) rr := by
  unfold f14_28 at e
  have hm := mi_14
  refine Ex_run 1 (i' := 29) (L' := [(2, ((v0 : Nat) : Int)), (0, j1), (0, v2), (0, v3), (0, v4)]) (st' := [(0, v4)]) (h' := (G, ρ, m)) hm rfl cjn ?_
  by_cases c10 : v4 = 0
  · replace e := it_p e c10
    refine Ex_if1t (c := 0) (tgt := 38) hm rfl (bt0 c10) ?_
    obtain ⟨x, e, hx⟩ := xr_s e
    replace hk : (Bpi G ρ m) x rr := by rw [hx] at hk; exact hk
    refine Ex_run 1 (i' := 39) (L' := [(2, ((v0 : Nat) : Int)), (0, j1), (0, v2), (0, v3), (0, v4)]) (st' := [(0, v2)]) (h' := (G, ρ, m)) hm rfl cjn ?_
    cases e
    cases hk
    exact Ex_ret (k := 1) hm rfl ⟨_, rfl, rfl⟩
  · replace e := it_n e c10
    refine Ex_if1f (c := 0) (tgt := 38) hm rfl (bf0 c10) ?_
    obtain ⟨g11, e⟩ := gd_s e
    refine Ex_run 3 (i' := 33) (L' := [(2, ((v0 : Nat) : Int)), (0, j1), (0, v2), (0, v3), (0, v4)]) (st' := [(0, v2), (2, (((ρ v0 0) : Nat) : Int))]) (h' := (G, ρ, m)) hm rfl (cjc (gk_b g11) cjn) ?_
    obtain ⟨g12, e⟩ := gd_s e
    obtain ⟨q13, h13, e⟩ := bn_s e
    refine Ex_callm (z := 33) (na := 2) (ck := 6) (as := [(2, (((ρ v0 0) : Nat) : Int)), (0, v2)]) (rest := []) (E0 := [(2, (((ρ v0 0) : Nat) : Int)), (0, v2)]) (v := some (0, q13)) (h1 := (G, ρ, m)) hm rfl (by omega) ⟨Nat.le_of_ble_eq_true rfl, Nat.le_of_ble_eq_true rfl⟩ (rc2 rfl g12) rfl rfl ml_33 rfl (Nat.le_of_ble_eq_true rfl) (tf33 h13 (by omega)) ?_
    show Ex d 14 34 [(2, ((v0 : Nat) : Int)), (0, j1), (0, v2), (0, v3), (0, v4)] [(0, q13)] (G, ρ, m) rr
    obtain ⟨q14, h14, e⟩ := bn_s e
    refine Ex_callm (z := 20) (na := 1) (ck := 0) (as := [(0, q13)]) (rest := []) (E0 := [(0, q13)]) (v := some (0, q14)) (h1 := (G, ρ, m)) hm rfl (by omega) ⟨Nat.le_of_ble_eq_true rfl, Nat.le_of_ble_eq_true rfl⟩ (trivial) rfl rfl ml_20 rfl (Nat.le_of_ble_eq_true rfl) (tf20 h14 (by omega)) ?_
    show Ex d 14 35 [(2, ((v0 : Nat) : Int)), (0, j1), (0, v2), (0, v3), (0, v4)] [(0, q14)] (G, ρ, m) rr
    by_cases c15 : q14 = 0
    · replace e := it_p e c15
      refine Ex_if1t (c := 0) (tgt := 38) hm rfl (bt0 c15) ?_
      obtain ⟨x, e, hx⟩ := xr_s e
      replace hk : (Bpi G ρ m) x rr := by rw [hx] at hk; exact hk
      refine Ex_run 1 (i' := 39) (L' := [(2, ((v0 : Nat) : Int)), (0, j1), (0, v2), (0, v3), (0, v4)]) (st' := [(0, v2)]) (h' := (G, ρ, m)) hm rfl cjn ?_
      cases e
      cases hk
      exact Ex_ret (k := 1) hm rfl ⟨_, rfl, rfl⟩
    · replace e := it_n e c15
      refine Ex_if1f (c := 0) (tgt := 38) hm rfl (bf0 c15) ?_
      refine Ex_run 2 (i' := 16) (L' := [(2, ((v0 : Nat) : Int)), (0, j1), (0, (w32 (v2 + 1))), (0, v3), (0, v4)]) (st' := []) (h' := (G, ρ, m)) hm rfl cjn ?_
      cases e
      exact hk _
theorem tf14_b16 {G : Gg} {ρ : Rg} {d : Nat} {v0 : Nat} {v3 : Int} {v4 : Int} {m : Sg} {s : Int} {x : (Int) ⊕ (Int)} (e : f14_b16 G ρ v0 v3 v4 m s = some x) (hd : 1 ≤ d) (rr : Option MV × Mh) (hk : (DS (e14_16 G ρ d v0 v3 v4 m) (Bpi G ρ m)) x rr) : e14_16 G ρ d v0 v3 v4 m s rr := by
  unfold f14_b16 at e
  have hm := mi_14
  show ∀ (j1 : Int), Ex d 14 16 [(2, ((v0 : Nat) : Int)), (0, j1), (0, s), (0, v3), (0, v4)] [] (G, ρ, m) rr
  intro j1
  obtain ⟨g7, e⟩ := gd_s e
  refine Ex_run 3 (i' := 19) (L' := [(2, ((v0 : Nat) : Int)), (0, j1), (0, s), (0, v3), (0, v4)]) (st' := [(0, (m v0 1)), (0, s)]) (h' := (G, ρ, m)) hm rfl (cjc (gk_b g7) cjn) ?_
  by_cases c8 : s < (m v0 1)
  · replace e := it_p e c8
    refine Ex_if2f (c := 3) (tgt := 38) hm rfl (bf3 c8) ?_
    refine Ex_run 1 (i' := 21) (L' := [(2, ((v0 : Nat) : Int)), (0, j1), (0, s), (0, v3), (0, v4)]) (st' := [(0, v3)]) (h' := (G, ρ, m)) hm rfl cjn ?_
    by_cases c9 : v3 = 0
    · replace e := it_p e c9
      refine Ex_if1t (c := 0) (tgt := 28) hm rfl (bt0 c9) ?_
      exact tf14_28 e hd rr hk _
    · replace e := it_n e c9
      refine Ex_if1f (c := 0) (tgt := 28) hm rfl (bf0 c9) ?_
      refine Ex_run 3 (i' := 25) (L' := [(2, ((v0 : Nat) : Int)), (0, j1), (0, s), (0, v3), (0, v4)]) (st' := [(0, s), (2, (((ρ v0 0) : Nat) : Int))]) (h' := (G, ρ, m)) hm rfl (cjc (gk_b g7) cjn) ?_
      obtain ⟨g16, e⟩ := gd_s e
      obtain ⟨q17, h17, e⟩ := bn_s e
      refine Ex_callm (z := 33) (na := 2) (ck := 6) (as := [(2, (((ρ v0 0) : Nat) : Int)), (0, s)]) (rest := []) (E0 := [(2, (((ρ v0 0) : Nat) : Int)), (0, s)]) (v := some (0, q17)) (h1 := (G, ρ, m)) hm rfl (by omega) ⟨Nat.le_of_ble_eq_true rfl, Nat.le_of_ble_eq_true rfl⟩ (rc2 rfl g16) rfl rfl ml_33 rfl (Nat.le_of_ble_eq_true rfl) (tf33 h17 (by omega)) ?_
      show Ex d 14 26 [(2, ((v0 : Nat) : Int)), (0, j1), (0, s), (0, v3), (0, v4)] [(0, q17)] (G, ρ, m) rr
      obtain ⟨q18, h18, e⟩ := bn_s e
      refine Ex_callm (z := 19) (na := 1) (ck := 0) (as := [(0, q17)]) (rest := []) (E0 := [(0, q17)]) (v := some (0, q18)) (h1 := (G, ρ, m)) hm rfl (by omega) ⟨Nat.le_of_ble_eq_true rfl, Nat.le_of_ble_eq_true rfl⟩ (trivial) rfl rfl ml_19 rfl (Nat.le_of_ble_eq_true rfl) (tf19 h18 (by omega)) ?_
      show Ex d 14 27 [(2, ((v0 : Nat) : Int)), (0, j1), (0, s), (0, v3), (0, v4)] [(0, q18)] (G, ρ, m) rr
      by_cases c19 : q18 = 0
      · replace e := it_p e c19
        refine Ex_if1f (c := 1) (tgt := 36) hm rfl (bf1 c19) ?_
        exact tf14_28 e hd rr hk _
      · replace e := it_n e c19
        refine Ex_if1t (c := 1) (tgt := 36) hm rfl (bt1 c19) ?_
        refine Ex_run 2 (i' := 16) (L' := [(2, ((v0 : Nat) : Int)), (0, j1), (0, (w32 (s + 1))), (0, v3), (0, v4)]) (st' := []) (h' := (G, ρ, m)) hm rfl cjn ?_
        cases e
        exact hk _
  · replace e := it_n e c8
    refine Ex_if2t (c := 3) (tgt := 38) hm rfl (bt3 c8) ?_
    obtain ⟨x, e, hx⟩ := xr_s e
    replace hk : (Bpi G ρ m) x rr := by rw [hx] at hk; exact hk
    refine Ex_run 1 (i' := 39) (L' := [(2, ((v0 : Nat) : Int)), (0, j1), (0, s), (0, v3), (0, v4)]) (st' := [(0, s)]) (h' := (G, ρ, m)) hm rfl cjn ?_
    cases e
    cases hk
    exact Ex_ret (k := 1) hm rfl ⟨_, rfl, rfl⟩
theorem tf14 {G : Gg} {ρ : Rg} {d : Nat} {v0 : Nat} {v1 : Int} {m : Sg} {x : Int} (e : f14 G ρ v0 v1 m = some x) (hd : 1 ≤ d) : Ex d 14 0 [(2, ((v0 : Nat) : Int)), (0, v1), (9, 0), (9, 0), (9, 0)] [] (G, ρ, m) (some (0, x), (G, ρ, m)) := by
  unfold f14 at e
  have hm := mi_14
  generalize hk : (some (0, x), (G, ρ, m)) = rr
  replace hk : (Bpi G ρ m) x rr := hk.symm
  obtain ⟨g1, e⟩ := gd_s e
  refine Ex_run 7 (i' := 7) (L' := [(2, ((v0 : Nat) : Int)), (0, v1), (0, (g_add v1 1)), (9, 0), (9, 0)]) (st' := [(0, v1), (2, (((ρ v0 0) : Nat) : Int))]) (h' := (G, ρ, m)) hm rfl (cjc (Nat.le_of_ble_eq_true rfl) (cjc (gk_b g1) cjn)) ?_
  obtain ⟨g2, e⟩ := gd_s e
  obtain ⟨q3, h3, e⟩ := bn_s e
  refine Ex_callm (z := 33) (na := 2) (ck := 6) (as := [(2, (((ρ v0 0) : Nat) : Int)), (0, v1)]) (rest := []) (E0 := [(2, (((ρ v0 0) : Nat) : Int)), (0, v1)]) (v := some (0, q3)) (h1 := (G, ρ, m)) hm rfl (by omega) ⟨Nat.le_of_ble_eq_true rfl, Nat.le_of_ble_eq_true rfl⟩ (rc2 rfl g2) rfl rfl ml_33 rfl (Nat.le_of_ble_eq_true rfl) (tf33 h3 (by omega)) ?_
  show Ex d 14 8 [(2, ((v0 : Nat) : Int)), (0, v1), (0, (g_add v1 1)), (9, 0), (9, 0)] [(0, q3)] (G, ρ, m) rr
  obtain ⟨q4, h4, e⟩ := bn_s e
  refine Ex_callm (z := 19) (na := 1) (ck := 0) (as := [(0, q3)]) (rest := []) (E0 := [(0, q3)]) (v := some (0, q4)) (h1 := (G, ρ, m)) hm rfl (by omega) ⟨Nat.le_of_ble_eq_true rfl, Nat.le_of_ble_eq_true rfl⟩ (trivial) rfl rfl ml_19 rfl (Nat.le_of_ble_eq_true rfl) (tf19 h4 (by omega)) ?_
  show Ex d 14 9 [(2, ((v0 : Nat) : Int)), (0, v1), (0, (g_add v1 1)), (9, 0), (9, 0)] [(0, q4)] (G, ρ, m) rr
  refine Ex_run 4 (i' := 13) (L' := [(2, ((v0 : Nat) : Int)), (0, v1), (0, (g_add v1 1)), (0, q4), (9, 0)]) (st' := [(0, v1), (2, (((ρ v0 0) : Nat) : Int))]) (h' := (G, ρ, m)) hm rfl (cjc (Nat.le_of_ble_eq_true rfl) (cjc (gk_b g1) cjn)) ?_
  obtain ⟨q5, h5, e⟩ := bn_s e
  refine Ex_callm (z := 33) (na := 2) (ck := 6) (as := [(2, (((ρ v0 0) : Nat) : Int)), (0, v1)]) (rest := []) (E0 := [(2, (((ρ v0 0) : Nat) : Int)), (0, v1)]) (v := some (0, q5)) (h1 := (G, ρ, m)) hm rfl (by omega) ⟨Nat.le_of_ble_eq_true rfl, Nat.le_of_ble_eq_true rfl⟩ (rc2 rfl g2) rfl rfl ml_33 rfl (Nat.le_of_ble_eq_true rfl) (tf33 h5 (by omega)) ?_
  show Ex d 14 14 [(2, ((v0 : Nat) : Int)), (0, v1), (0, (g_add v1 1)), (0, q4), (9, 0)] [(0, q5)] (G, ρ, m) rr
  obtain ⟨q6, h6, e⟩ := bn_s e
  refine Ex_callm (z := 20) (na := 1) (ck := 0) (as := [(0, q5)]) (rest := []) (E0 := [(0, q5)]) (v := some (0, q6)) (h1 := (G, ρ, m)) hm rfl (by omega) ⟨Nat.le_of_ble_eq_true rfl, Nat.le_of_ble_eq_true rfl⟩ (trivial) rfl rfl ml_20 rfl (Nat.le_of_ble_eq_true rfl) (tf20 h6 (by omega)) ?_
  show Ex d 14 15 [(2, ((v0 : Nat) : Int)), (0, v1), (0, (g_add v1 1)), (0, q4), (9, 0)] [(0, q6)] (G, ρ, m) rr
  refine Ex_run 1 (i' := 16) (L' := [(2, ((v0 : Nat) : Int)), (0, v1), (0, (g_add v1 1)), (0, q4), (0, q6)]) (st' := []) (h' := (G, ρ, m)) hm rfl (cjc (Nat.le_of_ble_eq_true rfl) cjn) ?_
  exact (Ex_lp (A := e14_16 G ρ d v0 q4 q6 m ) (B := (Bpi G ρ m)) (fun s x e rr hk => tf14_b16 e hd rr hk) FU _ _ e rr hk) _
theorem tf18_b10 {G : Gg} {ρ : Rg} {d : Nat} {v0 : Nat} {v1 : Int} {v2 : Int} {m : Sg} {s : Int} {x : (Int) ⊕ (Int)} (e : f18_b10 G ρ v0 v1 v2 m s = some x) (hd : 4 ≤ d) (rr : Option MV × Mh) (hk : (DS (e18_10 G ρ d v0 v1 v2 m) (Bpi G ρ m)) x rr) : e18_10 G ρ d v0 v1 v2 m s rr := by
  unfold f18_b10 at e
  have hm := mi_18
  show ∀ (j3 : Int), Ex d 18 10 [(2, ((v0 : Nat) : Int)), (3, v1), (0, v2), (0, j3), (0, s)] [] (G, ρ, m) rr
  intro j3
  refine Ex_run 2 (i' := 12) (L' := [(2, ((v0 : Nat) : Int)), (3, v1), (0, v2), (0, j3), (0, s)]) (st' := [(3, v1), (0, s)]) (h' := (G, ρ, m)) hm rfl cjn ?_
  obtain ⟨q3, h3, e⟩ := bn_s e
  refine Ex_callm (z := 228) (na := 1) (ck := 2) (as := [(3, v1)]) (rest := [(0, s)]) (E0 := [(3, v1)]) (v := some (0, q3)) (h1 := (G, ρ, m)) hm rfl (by omega) ⟨Nat.le_of_ble_eq_true rfl, Nat.le_of_ble_eq_true rfl⟩ (⟨_, rfl⟩) rfl rfl ml_228 rfl (Nat.le_of_ble_eq_true rfl) (tf228 h3 (by omega)) ?_
  show Ex d 18 13 [(2, ((v0 : Nat) : Int)), (3, v1), (0, v2), (0, j3), (0, s)] [(0, q3), (0, s)] (G, ρ, m) rr
  by_cases c4 : s < q3
  · replace e := it_p e c4
    refine Ex_if2f (c := 3) (tgt := 28) hm rfl (bf3 c4) ?_
    obtain ⟨g5, e⟩ := gd_s e
    refine Ex_run 5 (i' := 19) (L' := [(2, ((v0 : Nat) : Int)), (3, v1), (0, v2), (0, j3), (0, s)]) (st' := [(0, (g_add v2 s)), (2, (((ρ v0 0) : Nat) : Int))]) (h' := (G, ρ, m)) hm rfl (cjc (gk_b g5) cjn) ?_
    obtain ⟨g6, e⟩ := gd_s e
    obtain ⟨q7, h7, e⟩ := bn_s e
    refine Ex_callm (z := 33) (na := 2) (ck := 6) (as := [(2, (((ρ v0 0) : Nat) : Int)), (0, (g_add v2 s))]) (rest := []) (E0 := [(2, (((ρ v0 0) : Nat) : Int)), (0, (g_add v2 s))]) (v := some (0, q7)) (h1 := (G, ρ, m)) hm rfl (by omega) ⟨Nat.le_of_ble_eq_true rfl, Nat.le_of_ble_eq_true rfl⟩ (rc2 rfl g6) rfl rfl ml_33 rfl (Nat.le_of_ble_eq_true rfl) (tf33 h7 (by omega)) ?_
    show Ex d 18 20 [(2, ((v0 : Nat) : Int)), (3, v1), (0, v2), (0, j3), (0, s)] [(0, q7)] (G, ρ, m) rr
    refine Ex_run 2 (i' := 22) (L' := [(2, ((v0 : Nat) : Int)), (3, v1), (0, v2), (0, j3), (0, s)]) (st' := [(0, s), (3, v1), (0, q7)]) (h' := (G, ρ, m)) hm rfl cjn ?_
    obtain ⟨q8, h8, e⟩ := bn_s e
    refine Ex_callm (z := 229) (na := 2) (ck := 2) (as := [(3, v1), (0, s)]) (rest := [(0, q7)]) (E0 := [(3, v1), (0, s)]) (v := some (0, q8)) (h1 := (G, ρ, m)) hm rfl (by omega) ⟨Nat.le_of_ble_eq_true rfl, Nat.le_of_ble_eq_true rfl⟩ (⟨_, rfl⟩) rfl rfl ml_229 rfl (Nat.le_of_ble_eq_true rfl) (tf229 h8 (by omega)) ?_
    show Ex d 18 23 [(2, ((v0 : Nat) : Int)), (3, v1), (0, v2), (0, j3), (0, s)] [(0, q8), (0, q7)] (G, ρ, m) rr
    by_cases c9 : q7 = q8
    · replace e := it_p e c9
      refine Ex_if2t (c := 0) (tgt := 26) hm rfl (bt0 c9) ?_
      refine Ex_run 2 (i' := 10) (L' := [(2, ((v0 : Nat) : Int)), (3, v1), (0, v2), (0, j3), (0, (w32 (s + 1)))]) (st' := []) (h' := (G, ρ, m)) hm rfl cjn ?_
      cases e
      exact hk _
    · replace e := it_n e c9
      refine Ex_if2f (c := 0) (tgt := 26) hm rfl (bf0 c9) ?_
      obtain ⟨x, e, hx⟩ := xr_s e
      replace hk : (Bpi G ρ m) x rr := by rw [hx] at hk; exact hk
      refine Ex_run 1 (i' := 25) (L' := [(2, ((v0 : Nat) : Int)), (3, v1), (0, v2), (0, j3), (0, s)]) (st' := [(0, 0)]) (h' := (G, ρ, m)) hm rfl cjn ?_
      cases e
      cases hk
      exact Ex_ret (k := 2) hm rfl ⟨_, rfl, by decide, rfl⟩
  · replace e := it_n e c4
    refine Ex_if2t (c := 3) (tgt := 28) hm rfl (bt3 c4) ?_
    obtain ⟨x, e, hx⟩ := xr_s e
    replace hk : (Bpi G ρ m) x rr := by rw [hx] at hk; exact hk
    refine Ex_run 1 (i' := 29) (L' := [(2, ((v0 : Nat) : Int)), (3, v1), (0, v2), (0, j3), (0, s)]) (st' := [(0, 1)]) (h' := (G, ρ, m)) hm rfl cjn ?_
    cases e
    cases hk
    exact Ex_ret (k := 2) hm rfl ⟨_, rfl, by decide, rfl⟩
theorem tf18 {G : Gg} {ρ : Rg} {d : Nat} {v0 : Nat} {v1 : Int} {v2 : Int} {v3 : Int} {m : Sg} {x : Int} (e : f18 G ρ v0 v1 v2 v3 m = some x) (hd : 4 ≤ d) : Ex d 18 0 [(2, ((v0 : Nat) : Int)), (3, v1), (0, v2), (0, v3), (9, 0)] [] (G, ρ, m) (some (0, x), (G, ρ, m)) := by
  unfold f18 at e
  have hm := mi_18
  generalize hk : (some (0, x), (G, ρ, m)) = rr
  replace hk : (Bpi G ρ m) x rr := hk.symm
  refine Ex_run 4 (i' := 4) (L' := [(2, ((v0 : Nat) : Int)), (3, v1), (0, v2), (0, v3), (9, 0)]) (st' := [(3, v1), (0, (g_sub v3 v2))]) (h' := (G, ρ, m)) hm rfl cjn ?_
  obtain ⟨q1, h1, e⟩ := bn_s e
  refine Ex_callm (z := 228) (na := 1) (ck := 2) (as := [(3, v1)]) (rest := [(0, (g_sub v3 v2))]) (E0 := [(3, v1)]) (v := some (0, q1)) (h1 := (G, ρ, m)) hm rfl (by omega) ⟨Nat.le_of_ble_eq_true rfl, Nat.le_of_ble_eq_true rfl⟩ (⟨_, rfl⟩) rfl rfl ml_228 rfl (Nat.le_of_ble_eq_true rfl) (tf228 h1 (by omega)) ?_
  show Ex d 18 5 [(2, ((v0 : Nat) : Int)), (3, v1), (0, v2), (0, v3), (9, 0)] [(0, q1), (0, (g_sub v3 v2))] (G, ρ, m) rr
  by_cases c2 : (g_sub v3 v2) = q1
  · replace e := it_p e c2
    refine Ex_if2t (c := 0) (tgt := 8) hm rfl (bt0 c2) ?_
    refine Ex_run 2 (i' := 10) (L' := [(2, ((v0 : Nat) : Int)), (3, v1), (0, v2), (0, v3), (0, 0)]) (st' := []) (h' := (G, ρ, m)) hm rfl (cjc (Nat.le_of_ble_eq_true rfl) cjn) ?_
    exact (Ex_lp (A := e18_10 G ρ d v0 v1 v2 m ) (B := (Bpi G ρ m)) (fun s x e rr hk => tf18_b10 e hd rr hk) FU _ _ e rr hk) _
  · replace e := it_n e c2
    refine Ex_if2f (c := 0) (tgt := 8) hm rfl (bf0 c2) ?_
    refine Ex_run 1 (i' := 7) (L' := [(2, ((v0 : Nat) : Int)), (3, v1), (0, v2), (0, v3), (9, 0)]) (st' := [(0, 0)]) (h' := (G, ρ, m)) hm rfl cjn ?_
    cases e
    cases hk
    exact Ex_ret (k := 2) hm rfl ⟨_, rfl, by decide, rfl⟩
theorem tf16 {G : Gg} {ρ : Rg} {d : Nat} {v0 : Nat} {v1 : Int} {v2 : Int} {m : Sg} {x : Int} (e : f16 G ρ v0 v1 v2 m = some x) (hd : 5 ≤ d) : Ex d 16 0 [(2, ((v0 : Nat) : Int)), (0, v1), (0, v2)] [] (G, ρ, m) (some (0, x), (G, ρ, m)) := by
  unfold f16 at e
  have hm := mi_16
  generalize hk : (some (0, x), (G, ρ, m)) = rr
  replace hk : (Bpi G ρ m) x rr := hk.symm
  refine Ex_run 4 (i' := 4) (L' := [(2, ((v0 : Nat) : Int)), (0, v1), (0, v2)]) (st' := [(0, v2), (0, v1), (3, ((1 : Nat) : Int)), (2, ((v0 : Nat) : Int))]) (h' := (G, ρ, m)) hm rfl cjn ?_
  obtain ⟨g1, e⟩ := gd_s e
  obtain ⟨q2, h2, e⟩ := bn_s e
  refine Ex_callm (z := 18) (na := 4) (ck := 5) (as := [(2, ((v0 : Nat) : Int)), (3, ((1 : Nat) : Int)), (0, v1), (0, v2)]) (rest := []) (E0 := [(2, ((v0 : Nat) : Int)), (3, ((1 : Nat) : Int)), (0, v1), (0, v2), (9, 0)]) (v := some (0, q2)) (h1 := (G, ρ, m)) hm rfl (by omega) ⟨Nat.le_of_ble_eq_true rfl, Nat.le_of_ble_eq_true rfl⟩ (rc2 rfl g1) rfl rfl ml_18 rfl (Nat.le_of_ble_eq_true rfl) (tf18 h2 (by omega)) ?_
  show Ex d 16 5 [(2, ((v0 : Nat) : Int)), (0, v1), (0, v2)] [(0, q2)] (G, ρ, m) rr
  by_cases c3 : q2 = 0
  · replace e := it_p e c3
    refine Ex_if1t (c := 0) (tgt := 8) hm rfl (bt0 c3) ?_
    refine Ex_run 4 (i' := 12) (L' := [(2, ((v0 : Nat) : Int)), (0, v1), (0, v2)]) (st' := [(0, v2), (0, v1), (3, ((2 : Nat) : Int)), (2, ((v0 : Nat) : Int))]) (h' := (G, ρ, m)) hm rfl cjn ?_
    obtain ⟨q4, h4, e⟩ := bn_s e
    refine Ex_callm (z := 18) (na := 4) (ck := 5) (as := [(2, ((v0 : Nat) : Int)), (3, ((2 : Nat) : Int)), (0, v1), (0, v2)]) (rest := []) (E0 := [(2, ((v0 : Nat) : Int)), (3, ((2 : Nat) : Int)), (0, v1), (0, v2), (9, 0)]) (v := some (0, q4)) (h1 := (G, ρ, m)) hm rfl (by omega) ⟨Nat.le_of_ble_eq_true rfl, Nat.le_of_ble_eq_true rfl⟩ (rc2 rfl g1) rfl rfl ml_18 rfl (Nat.le_of_ble_eq_true rfl) (tf18 h4 (by omega)) ?_
    show Ex d 16 13 [(2, ((v0 : Nat) : Int)), (0, v1), (0, v2)] [(0, q4)] (G, ρ, m) rr
    by_cases c5 : q4 = 0
    · replace e := it_p e c5
      refine Ex_if1t (c := 0) (tgt := 16) hm rfl (bt0 c5) ?_
      refine Ex_run 4 (i' := 20) (L' := [(2, ((v0 : Nat) : Int)), (0, v1), (0, v2)]) (st' := [(0, v2), (0, v1), (3, ((3 : Nat) : Int)), (2, ((v0 : Nat) : Int))]) (h' := (G, ρ, m)) hm rfl cjn ?_
      obtain ⟨q6, h6, e⟩ := bn_s e
      refine Ex_callm (z := 18) (na := 4) (ck := 5) (as := [(2, ((v0 : Nat) : Int)), (3, ((3 : Nat) : Int)), (0, v1), (0, v2)]) (rest := []) (E0 := [(2, ((v0 : Nat) : Int)), (3, ((3 : Nat) : Int)), (0, v1), (0, v2), (9, 0)]) (v := some (0, q6)) (h1 := (G, ρ, m)) hm rfl (by omega) ⟨Nat.le_of_ble_eq_true rfl, Nat.le_of_ble_eq_true rfl⟩ (rc2 rfl g1) rfl rfl ml_18 rfl (Nat.le_of_ble_eq_true rfl) (tf18 h6 (by omega)) ?_
      show Ex d 16 21 [(2, ((v0 : Nat) : Int)), (0, v1), (0, v2)] [(0, q6)] (G, ρ, m) rr
      by_cases c7 : q6 = 0
      · replace e := it_p e c7
        refine Ex_if1t (c := 0) (tgt := 24) hm rfl (bt0 c7) ?_
        refine Ex_run 4 (i' := 28) (L' := [(2, ((v0 : Nat) : Int)), (0, v1), (0, v2)]) (st' := [(0, v2), (0, v1), (3, ((4 : Nat) : Int)), (2, ((v0 : Nat) : Int))]) (h' := (G, ρ, m)) hm rfl cjn ?_
        obtain ⟨q8, h8, e⟩ := bn_s e
        refine Ex_callm (z := 18) (na := 4) (ck := 5) (as := [(2, ((v0 : Nat) : Int)), (3, ((4 : Nat) : Int)), (0, v1), (0, v2)]) (rest := []) (E0 := [(2, ((v0 : Nat) : Int)), (3, ((4 : Nat) : Int)), (0, v1), (0, v2), (9, 0)]) (v := some (0, q8)) (h1 := (G, ρ, m)) hm rfl (by omega) ⟨Nat.le_of_ble_eq_true rfl, Nat.le_of_ble_eq_true rfl⟩ (rc2 rfl g1) rfl rfl ml_18 rfl (Nat.le_of_ble_eq_true rfl) (tf18 h8 (by omega)) ?_
        show Ex d 16 29 [(2, ((v0 : Nat) : Int)), (0, v1), (0, v2)] [(0, q8)] (G, ρ, m) rr
        by_cases c9 : q8 = 0
        · replace e := it_p e c9
          refine Ex_if1t (c := 0) (tgt := 32) hm rfl (bt0 c9) ?_
          refine Ex_run 4 (i' := 36) (L' := [(2, ((v0 : Nat) : Int)), (0, v1), (0, v2)]) (st' := [(0, v2), (0, v1), (3, ((5 : Nat) : Int)), (2, ((v0 : Nat) : Int))]) (h' := (G, ρ, m)) hm rfl cjn ?_
          obtain ⟨q10, h10, e⟩ := bn_s e
          refine Ex_callm (z := 18) (na := 4) (ck := 5) (as := [(2, ((v0 : Nat) : Int)), (3, ((5 : Nat) : Int)), (0, v1), (0, v2)]) (rest := []) (E0 := [(2, ((v0 : Nat) : Int)), (3, ((5 : Nat) : Int)), (0, v1), (0, v2), (9, 0)]) (v := some (0, q10)) (h1 := (G, ρ, m)) hm rfl (by omega) ⟨Nat.le_of_ble_eq_true rfl, Nat.le_of_ble_eq_true rfl⟩ (rc2 rfl g1) rfl rfl ml_18 rfl (Nat.le_of_ble_eq_true rfl) (tf18 h10 (by omega)) ?_
          show Ex d 16 37 [(2, ((v0 : Nat) : Int)), (0, v1), (0, v2)] [(0, q10)] (G, ρ, m) rr
          by_cases c11 : q10 = 0
          · replace e := it_p e c11
            refine Ex_if1t (c := 0) (tgt := 40) hm rfl (bt0 c11) ?_
            refine Ex_run 4 (i' := 44) (L' := [(2, ((v0 : Nat) : Int)), (0, v1), (0, v2)]) (st' := [(0, v2), (0, v1), (3, ((6 : Nat) : Int)), (2, ((v0 : Nat) : Int))]) (h' := (G, ρ, m)) hm rfl cjn ?_
            obtain ⟨q12, h12, e⟩ := bn_s e
            refine Ex_callm (z := 18) (na := 4) (ck := 5) (as := [(2, ((v0 : Nat) : Int)), (3, ((6 : Nat) : Int)), (0, v1), (0, v2)]) (rest := []) (E0 := [(2, ((v0 : Nat) : Int)), (3, ((6 : Nat) : Int)), (0, v1), (0, v2), (9, 0)]) (v := some (0, q12)) (h1 := (G, ρ, m)) hm rfl (by omega) ⟨Nat.le_of_ble_eq_true rfl, Nat.le_of_ble_eq_true rfl⟩ (rc2 rfl g1) rfl rfl ml_18 rfl (Nat.le_of_ble_eq_true rfl) (tf18 h12 (by omega)) ?_
            show Ex d 16 45 [(2, ((v0 : Nat) : Int)), (0, v1), (0, v2)] [(0, q12)] (G, ρ, m) rr
            by_cases c13 : q12 = 0
            · replace e := it_p e c13
              refine Ex_if1t (c := 0) (tgt := 48) hm rfl (bt0 c13) ?_
              refine Ex_run 4 (i' := 52) (L' := [(2, ((v0 : Nat) : Int)), (0, v1), (0, v2)]) (st' := [(0, v2), (0, v1), (3, ((7 : Nat) : Int)), (2, ((v0 : Nat) : Int))]) (h' := (G, ρ, m)) hm rfl cjn ?_
              obtain ⟨q14, h14, e⟩ := bn_s e
              refine Ex_callm (z := 18) (na := 4) (ck := 5) (as := [(2, ((v0 : Nat) : Int)), (3, ((7 : Nat) : Int)), (0, v1), (0, v2)]) (rest := []) (E0 := [(2, ((v0 : Nat) : Int)), (3, ((7 : Nat) : Int)), (0, v1), (0, v2), (9, 0)]) (v := some (0, q14)) (h1 := (G, ρ, m)) hm rfl (by omega) ⟨Nat.le_of_ble_eq_true rfl, Nat.le_of_ble_eq_true rfl⟩ (rc2 rfl g1) rfl rfl ml_18 rfl (Nat.le_of_ble_eq_true rfl) (tf18 h14 (by omega)) ?_
              show Ex d 16 53 [(2, ((v0 : Nat) : Int)), (0, v1), (0, v2)] [(0, q14)] (G, ρ, m) rr
              by_cases c15 : q14 = 0
              · replace e := it_p e c15
                refine Ex_if1t (c := 0) (tgt := 56) hm rfl (bt0 c15) ?_
                refine Ex_run 4 (i' := 60) (L' := [(2, ((v0 : Nat) : Int)), (0, v1), (0, v2)]) (st' := [(0, v2), (0, v1), (3, ((8 : Nat) : Int)), (2, ((v0 : Nat) : Int))]) (h' := (G, ρ, m)) hm rfl cjn ?_
                obtain ⟨q16, h16, e⟩ := bn_s e
                refine Ex_callm (z := 18) (na := 4) (ck := 5) (as := [(2, ((v0 : Nat) : Int)), (3, ((8 : Nat) : Int)), (0, v1), (0, v2)]) (rest := []) (E0 := [(2, ((v0 : Nat) : Int)), (3, ((8 : Nat) : Int)), (0, v1), (0, v2), (9, 0)]) (v := some (0, q16)) (h1 := (G, ρ, m)) hm rfl (by omega) ⟨Nat.le_of_ble_eq_true rfl, Nat.le_of_ble_eq_true rfl⟩ (rc2 rfl g1) rfl rfl ml_18 rfl (Nat.le_of_ble_eq_true rfl) (tf18 h16 (by omega)) ?_
                show Ex d 16 61 [(2, ((v0 : Nat) : Int)), (0, v1), (0, v2)] [(0, q16)] (G, ρ, m) rr
                by_cases c17 : q16 = 0
                · replace e := it_p e c17
                  refine Ex_if1t (c := 0) (tgt := 64) hm rfl (bt0 c17) ?_
                  refine Ex_run 4 (i' := 68) (L' := [(2, ((v0 : Nat) : Int)), (0, v1), (0, v2)]) (st' := [(0, v2), (0, v1), (3, ((9 : Nat) : Int)), (2, ((v0 : Nat) : Int))]) (h' := (G, ρ, m)) hm rfl cjn ?_
                  obtain ⟨q18, h18, e⟩ := bn_s e
                  refine Ex_callm (z := 18) (na := 4) (ck := 5) (as := [(2, ((v0 : Nat) : Int)), (3, ((9 : Nat) : Int)), (0, v1), (0, v2)]) (rest := []) (E0 := [(2, ((v0 : Nat) : Int)), (3, ((9 : Nat) : Int)), (0, v1), (0, v2), (9, 0)]) (v := some (0, q18)) (h1 := (G, ρ, m)) hm rfl (by omega) ⟨Nat.le_of_ble_eq_true rfl, Nat.le_of_ble_eq_true rfl⟩ (rc2 rfl g1) rfl rfl ml_18 rfl (Nat.le_of_ble_eq_true rfl) (tf18 h18 (by omega)) ?_
                  show Ex d 16 69 [(2, ((v0 : Nat) : Int)), (0, v1), (0, v2)] [(0, q18)] (G, ρ, m) rr
                  by_cases c19 : q18 = 0
                  · replace e := it_p e c19
                    refine Ex_if1t (c := 0) (tgt := 72) hm rfl (bt0 c19) ?_
                    refine Ex_run 4 (i' := 76) (L' := [(2, ((v0 : Nat) : Int)), (0, v1), (0, v2)]) (st' := [(0, v2), (0, v1), (3, ((10 : Nat) : Int)), (2, ((v0 : Nat) : Int))]) (h' := (G, ρ, m)) hm rfl cjn ?_
                    obtain ⟨q20, h20, e⟩ := bn_s e
                    refine Ex_callm (z := 18) (na := 4) (ck := 5) (as := [(2, ((v0 : Nat) : Int)), (3, ((10 : Nat) : Int)), (0, v1), (0, v2)]) (rest := []) (E0 := [(2, ((v0 : Nat) : Int)), (3, ((10 : Nat) : Int)), (0, v1), (0, v2), (9, 0)]) (v := some (0, q20)) (h1 := (G, ρ, m)) hm rfl (by omega) ⟨Nat.le_of_ble_eq_true rfl, Nat.le_of_ble_eq_true rfl⟩ (rc2 rfl g1) rfl rfl ml_18 rfl (Nat.le_of_ble_eq_true rfl) (tf18 h20 (by omega)) ?_
                    show Ex d 16 77 [(2, ((v0 : Nat) : Int)), (0, v1), (0, v2)] [(0, q20)] (G, ρ, m) rr
                    by_cases c21 : q20 = 0
                    · replace e := it_p e c21
                      refine Ex_if1t (c := 0) (tgt := 80) hm rfl (bt0 c21) ?_
                      refine Ex_run 4 (i' := 84) (L' := [(2, ((v0 : Nat) : Int)), (0, v1), (0, v2)]) (st' := [(0, v2), (0, v1), (3, ((11 : Nat) : Int)), (2, ((v0 : Nat) : Int))]) (h' := (G, ρ, m)) hm rfl cjn ?_
                      obtain ⟨q22, h22, e⟩ := bn_s e
                      refine Ex_callm (z := 18) (na := 4) (ck := 5) (as := [(2, ((v0 : Nat) : Int)), (3, ((11 : Nat) : Int)), (0, v1), (0, v2)]) (rest := []) (E0 := [(2, ((v0 : Nat) : Int)), (3, ((11 : Nat) : Int)), (0, v1), (0, v2), (9, 0)]) (v := some (0, q22)) (h1 := (G, ρ, m)) hm rfl (by omega) ⟨Nat.le_of_ble_eq_true rfl, Nat.le_of_ble_eq_true rfl⟩ (rc2 rfl g1) rfl rfl ml_18 rfl (Nat.le_of_ble_eq_true rfl) (tf18 h22 (by omega)) ?_
                      show Ex d 16 85 [(2, ((v0 : Nat) : Int)), (0, v1), (0, v2)] [(0, q22)] (G, ρ, m) rr
                      by_cases c23 : q22 = 0
                      · replace e := it_p e c23
                        refine Ex_if1t (c := 0) (tgt := 88) hm rfl (bt0 c23) ?_
                        refine Ex_run 1 (i' := 89) (L' := [(2, ((v0 : Nat) : Int)), (0, v1), (0, v2)]) (st' := [(0, 1)]) (h' := (G, ρ, m)) hm rfl cjn ?_
                        cases e
                        cases hk
                        exact Ex_ret (k := 1) hm rfl ⟨_, rfl, rfl⟩
                      · replace e := it_n e c23
                        refine Ex_if1f (c := 0) (tgt := 88) hm rfl (bf0 c23) ?_
                        refine Ex_run 2 (i' := 89) (L' := [(2, ((v0 : Nat) : Int)), (0, v1), (0, v2)]) (st' := [(0, 13)]) (h' := (G, ρ, m)) hm rfl cjn ?_
                        cases e
                        cases hk
                        exact Ex_ret (k := 1) hm rfl ⟨_, rfl, rfl⟩
                    · replace e := it_n e c21
                      refine Ex_if1f (c := 0) (tgt := 80) hm rfl (bf0 c21) ?_
                      refine Ex_run 1 (i' := 79) (L' := [(2, ((v0 : Nat) : Int)), (0, v1), (0, v2)]) (st' := [(0, 12)]) (h' := (G, ρ, m)) hm rfl cjn ?_
                      cases e
                      cases hk
                      exact Ex_ret (k := 1) hm rfl ⟨_, rfl, rfl⟩
                  · replace e := it_n e c19
                    refine Ex_if1f (c := 0) (tgt := 72) hm rfl (bf0 c19) ?_
                    refine Ex_run 1 (i' := 71) (L' := [(2, ((v0 : Nat) : Int)), (0, v1), (0, v2)]) (st' := [(0, 11)]) (h' := (G, ρ, m)) hm rfl cjn ?_
                    cases e
                    cases hk
                    exact Ex_ret (k := 1) hm rfl ⟨_, rfl, rfl⟩
                · replace e := it_n e c17
                  refine Ex_if1f (c := 0) (tgt := 64) hm rfl (bf0 c17) ?_
                  refine Ex_run 1 (i' := 63) (L' := [(2, ((v0 : Nat) : Int)), (0, v1), (0, v2)]) (st' := [(0, 10)]) (h' := (G, ρ, m)) hm rfl cjn ?_
                  cases e
                  cases hk
                  exact Ex_ret (k := 1) hm rfl ⟨_, rfl, rfl⟩
              · replace e := it_n e c15
                refine Ex_if1f (c := 0) (tgt := 56) hm rfl (bf0 c15) ?_
                refine Ex_run 1 (i' := 55) (L' := [(2, ((v0 : Nat) : Int)), (0, v1), (0, v2)]) (st' := [(0, 9)]) (h' := (G, ρ, m)) hm rfl cjn ?_
                cases e
                cases hk
                exact Ex_ret (k := 1) hm rfl ⟨_, rfl, rfl⟩
            · replace e := it_n e c13
              refine Ex_if1f (c := 0) (tgt := 48) hm rfl (bf0 c13) ?_
              refine Ex_run 1 (i' := 47) (L' := [(2, ((v0 : Nat) : Int)), (0, v1), (0, v2)]) (st' := [(0, 8)]) (h' := (G, ρ, m)) hm rfl cjn ?_
              cases e
              cases hk
              exact Ex_ret (k := 1) hm rfl ⟨_, rfl, rfl⟩
          · replace e := it_n e c11
            refine Ex_if1f (c := 0) (tgt := 40) hm rfl (bf0 c11) ?_
            refine Ex_run 1 (i' := 39) (L' := [(2, ((v0 : Nat) : Int)), (0, v1), (0, v2)]) (st' := [(0, 7)]) (h' := (G, ρ, m)) hm rfl cjn ?_
            cases e
            cases hk
            exact Ex_ret (k := 1) hm rfl ⟨_, rfl, rfl⟩
        · replace e := it_n e c9
          refine Ex_if1f (c := 0) (tgt := 32) hm rfl (bf0 c9) ?_
          refine Ex_run 1 (i' := 31) (L' := [(2, ((v0 : Nat) : Int)), (0, v1), (0, v2)]) (st' := [(0, 6)]) (h' := (G, ρ, m)) hm rfl cjn ?_
          cases e
          cases hk
          exact Ex_ret (k := 1) hm rfl ⟨_, rfl, rfl⟩
      · replace e := it_n e c7
        refine Ex_if1f (c := 0) (tgt := 24) hm rfl (bf0 c7) ?_
        refine Ex_run 1 (i' := 23) (L' := [(2, ((v0 : Nat) : Int)), (0, v1), (0, v2)]) (st' := [(0, 5)]) (h' := (G, ρ, m)) hm rfl cjn ?_
        cases e
        cases hk
        exact Ex_ret (k := 1) hm rfl ⟨_, rfl, rfl⟩
    · replace e := it_n e c5
      refine Ex_if1f (c := 0) (tgt := 16) hm rfl (bf0 c5) ?_
      refine Ex_run 1 (i' := 15) (L' := [(2, ((v0 : Nat) : Int)), (0, v1), (0, v2)]) (st' := [(0, 4)]) (h' := (G, ρ, m)) hm rfl cjn ?_
      cases e
      cases hk
      exact Ex_ret (k := 1) hm rfl ⟨_, rfl, rfl⟩
  · replace e := it_n e c3
    refine Ex_if1f (c := 0) (tgt := 8) hm rfl (bf0 c3) ?_
    refine Ex_run 1 (i' := 7) (L' := [(2, ((v0 : Nat) : Int)), (0, v1), (0, v2)]) (st' := [(0, 3)]) (h' := (G, ρ, m)) hm rfl cjn ?_
    cases e
    cases hk
    exact Ex_ret (k := 1) hm rfl ⟨_, rfl, rfl⟩
theorem tf15 {G : Gg} {ρ : Rg} {d : Nat} {v0 : Nat} {v1 : Int} {v2 : Int} {m : Sg} {x : Int} (e : f15 G ρ v0 v1 v2 m = some x) (hd : 6 ≤ d) : Ex d 15 0 [(2, ((v0 : Nat) : Int)), (0, v1), (0, v2), (9, 0)] [] (G, ρ, m) (some (0, x), (G, ρ, m)) := by
  unfold f15 at e
  have hm := mi_15
  generalize hk : (some (0, x), (G, ρ, m)) = rr
  replace hk : (Bpi G ρ m) x rr := hk.symm
  obtain ⟨g1, e⟩ := gd_s e
  refine Ex_run 3 (i' := 3) (L' := [(2, ((v0 : Nat) : Int)), (0, v1), (0, v2), (9, 0)]) (st' := [(0, v1), (2, (((ρ v0 0) : Nat) : Int))]) (h' := (G, ρ, m)) hm rfl (cjc (gk_b g1) cjn) ?_
  obtain ⟨g2, e⟩ := gd_s e
  obtain ⟨q3, h3, e⟩ := bn_s e
  refine Ex_callm (z := 33) (na := 2) (ck := 6) (as := [(2, (((ρ v0 0) : Nat) : Int)), (0, v1)]) (rest := []) (E0 := [(2, (((ρ v0 0) : Nat) : Int)), (0, v1)]) (v := some (0, q3)) (h1 := (G, ρ, m)) hm rfl (by omega) ⟨Nat.le_of_ble_eq_true rfl, Nat.le_of_ble_eq_true rfl⟩ (rc2 rfl g2) rfl rfl ml_33 rfl (Nat.le_of_ble_eq_true rfl) (tf33 h3 (by omega)) ?_
  show Ex d 15 4 [(2, ((v0 : Nat) : Int)), (0, v1), (0, v2), (9, 0)] [(0, q3)] (G, ρ, m) rr
  refine Ex_run 2 (i' := 6) (L' := [(2, ((v0 : Nat) : Int)), (0, v1), (0, v2), (0, q3)]) (st' := [(0, q3)]) (h' := (G, ρ, m)) hm rfl (cjc (Nat.le_of_ble_eq_true rfl) cjn) ?_
  obtain ⟨q4, h4, e⟩ := bn_s e
  refine Ex_callm (z := 19) (na := 1) (ck := 0) (as := [(0, q3)]) (rest := []) (E0 := [(0, q3)]) (v := some (0, q4)) (h1 := (G, ρ, m)) hm rfl (by omega) ⟨Nat.le_of_ble_eq_true rfl, Nat.le_of_ble_eq_true rfl⟩ (trivial) rfl rfl ml_19 rfl (Nat.le_of_ble_eq_true rfl) (tf19 h4 (by omega)) ?_
  show Ex d 15 7 [(2, ((v0 : Nat) : Int)), (0, v1), (0, v2), (0, q3)] [(0, q4)] (G, ρ, m) rr
  by_cases c5 : q4 = 0
  · replace e := it_p e c5
    refine Ex_if1t (c := 0) (tgt := 13) hm rfl (bt0 c5) ?_
    refine Ex_run 1 (i' := 14) (L' := [(2, ((v0 : Nat) : Int)), (0, v1), (0, v2), (0, q3)]) (st' := [(0, q3)]) (h' := (G, ρ, m)) hm rfl cjn ?_
    obtain ⟨q6, h6, e⟩ := bn_s e
    refine Ex_callm (z := 20) (na := 1) (ck := 0) (as := [(0, q3)]) (rest := []) (E0 := [(0, q3)]) (v := some (0, q6)) (h1 := (G, ρ, m)) hm rfl (by omega) ⟨Nat.le_of_ble_eq_true rfl, Nat.le_of_ble_eq_true rfl⟩ (trivial) rfl rfl ml_20 rfl (Nat.le_of_ble_eq_true rfl) (tf20 h6 (by omega)) ?_
    show Ex d 15 15 [(2, ((v0 : Nat) : Int)), (0, v1), (0, v2), (0, q3)] [(0, q6)] (G, ρ, m) rr
    by_cases c7 : q6 = 0
    · replace e := it_p e c7
      refine Ex_if1t (c := 0) (tgt := 25) hm rfl (bt0 c7) ?_
      refine Ex_run 1 (i' := 26) (L' := [(2, ((v0 : Nat) : Int)), (0, v1), (0, v2), (0, q3)]) (st' := [(0, q3)]) (h' := (G, ρ, m)) hm rfl cjn ?_
      by_cases c8 : q3 = 40
      · replace e := it_p e c8
        refine Ex_sw (lo := 40) (tg := [27, 27, 27, 27, 29, 27, 29, 29, 29, 29, 29, 29, 29, 29, 29, 29, 29, 29, 29, 27, 27, 27]) (df := 29) hm rfl 0 rfl c8 ?_
        refine Ex_run 1 (i' := 28) (L' := [(2, ((v0 : Nat) : Int)), (0, v1), (0, v2), (0, q3)]) (st' := [(0, q3)]) (h' := (G, ρ, m)) hm rfl cjn ?_
        cases e
        cases hk
        exact Ex_ret (k := 1) hm rfl ⟨_, rfl, rfl⟩
      · replace e := it_n e c8
        by_cases c9 : q3 = 41
        · replace e := it_p e c9
          refine Ex_sw (lo := 40) (tg := [27, 27, 27, 27, 29, 27, 29, 29, 29, 29, 29, 29, 29, 29, 29, 29, 29, 29, 29, 27, 27, 27]) (df := 29) hm rfl 1 rfl c9 ?_
          refine Ex_run 1 (i' := 28) (L' := [(2, ((v0 : Nat) : Int)), (0, v1), (0, v2), (0, q3)]) (st' := [(0, q3)]) (h' := (G, ρ, m)) hm rfl cjn ?_
          cases e
          cases hk
          exact Ex_ret (k := 1) hm rfl ⟨_, rfl, rfl⟩
        · replace e := it_n e c9
          by_cases c10 : q3 = 42
          · replace e := it_p e c10
            refine Ex_sw (lo := 40) (tg := [27, 27, 27, 27, 29, 27, 29, 29, 29, 29, 29, 29, 29, 29, 29, 29, 29, 29, 29, 27, 27, 27]) (df := 29) hm rfl 2 rfl c10 ?_
            refine Ex_run 1 (i' := 28) (L' := [(2, ((v0 : Nat) : Int)), (0, v1), (0, v2), (0, q3)]) (st' := [(0, q3)]) (h' := (G, ρ, m)) hm rfl cjn ?_
            cases e
            cases hk
            exact Ex_ret (k := 1) hm rfl ⟨_, rfl, rfl⟩
          · replace e := it_n e c10
            by_cases c11 : q3 = 43
            · replace e := it_p e c11
              refine Ex_sw (lo := 40) (tg := [27, 27, 27, 27, 29, 27, 29, 29, 29, 29, 29, 29, 29, 29, 29, 29, 29, 29, 29, 27, 27, 27]) (df := 29) hm rfl 3 rfl c11 ?_
              refine Ex_run 1 (i' := 28) (L' := [(2, ((v0 : Nat) : Int)), (0, v1), (0, v2), (0, q3)]) (st' := [(0, q3)]) (h' := (G, ρ, m)) hm rfl cjn ?_
              cases e
              cases hk
              exact Ex_ret (k := 1) hm rfl ⟨_, rfl, rfl⟩
            · replace e := it_n e c11
              by_cases c12 : q3 = 45
              · replace e := it_p e c12
                refine Ex_sw (lo := 40) (tg := [27, 27, 27, 27, 29, 27, 29, 29, 29, 29, 29, 29, 29, 29, 29, 29, 29, 29, 29, 27, 27, 27]) (df := 29) hm rfl 5 rfl c12 ?_
                refine Ex_run 1 (i' := 28) (L' := [(2, ((v0 : Nat) : Int)), (0, v1), (0, v2), (0, q3)]) (st' := [(0, q3)]) (h' := (G, ρ, m)) hm rfl cjn ?_
                cases e
                cases hk
                exact Ex_ret (k := 1) hm rfl ⟨_, rfl, rfl⟩
              · replace e := it_n e c12
                by_cases c13 : q3 = 59
                · replace e := it_p e c13
                  refine Ex_sw (lo := 40) (tg := [27, 27, 27, 27, 29, 27, 29, 29, 29, 29, 29, 29, 29, 29, 29, 29, 29, 29, 29, 27, 27, 27]) (df := 29) hm rfl 19 rfl c13 ?_
                  refine Ex_run 1 (i' := 28) (L' := [(2, ((v0 : Nat) : Int)), (0, v1), (0, v2), (0, q3)]) (st' := [(0, q3)]) (h' := (G, ρ, m)) hm rfl cjn ?_
                  cases e
                  cases hk
                  exact Ex_ret (k := 1) hm rfl ⟨_, rfl, rfl⟩
                · replace e := it_n e c13
                  by_cases c14 : q3 = 60
                  · replace e := it_p e c14
                    refine Ex_sw (lo := 40) (tg := [27, 27, 27, 27, 29, 27, 29, 29, 29, 29, 29, 29, 29, 29, 29, 29, 29, 29, 29, 27, 27, 27]) (df := 29) hm rfl 20 rfl c14 ?_
                    refine Ex_run 1 (i' := 28) (L' := [(2, ((v0 : Nat) : Int)), (0, v1), (0, v2), (0, q3)]) (st' := [(0, q3)]) (h' := (G, ρ, m)) hm rfl cjn ?_
                    cases e
                    cases hk
                    exact Ex_ret (k := 1) hm rfl ⟨_, rfl, rfl⟩
                  · replace e := it_n e c14
                    by_cases c15 : q3 = 61
                    · replace e := it_p e c15
                      refine Ex_sw (lo := 40) (tg := [27, 27, 27, 27, 29, 27, 29, 29, 29, 29, 29, 29, 29, 29, 29, 29, 29, 29, 29, 27, 27, 27]) (df := 29) hm rfl 21 rfl c15 ?_
                      refine Ex_run 1 (i' := 28) (L' := [(2, ((v0 : Nat) : Int)), (0, v1), (0, v2), (0, q3)]) (st' := [(0, q3)]) (h' := (G, ρ, m)) hm rfl cjn ?_
                      cases e
                      cases hk
                      exact Ex_ret (k := 1) hm rfl ⟨_, rfl, rfl⟩
                    · replace e := it_n e c15
                      refine Ex_swd (lo := 40) (tg := [27, 27, 27, 27, 29, 27, 29, 29, 29, 29, 29, 29, 29, 29, 29, 29, 29, 29, 29, 27, 27, 27]) (df := 29) hm rfl (swk_d ⟨Or.inr c8, Or.inr c9, Or.inr c10, Or.inr c11, Or.inl rfl, Or.inr c12, Or.inl rfl, Or.inl rfl, Or.inl rfl, Or.inl rfl, Or.inl rfl, Or.inl rfl, Or.inl rfl, Or.inl rfl, Or.inl rfl, Or.inl rfl, Or.inl rfl, Or.inl rfl, Or.inl rfl, Or.inr c13, Or.inr c14, Or.inr c15, trivial⟩) ?_
                      refine Ex_run 1 (i' := 30) (L' := [(2, ((v0 : Nat) : Int)), (0, v1), (0, v2), (0, q3)]) (st' := [(0, 1)]) (h' := (G, ρ, m)) hm rfl cjn ?_
                      cases e
                      cases hk
                      exact Ex_ret (k := 1) hm rfl ⟨_, rfl, rfl⟩
    · replace e := it_n e c7
      refine Ex_if1f (c := 0) (tgt := 25) hm rfl (bf0 c7) ?_
      refine Ex_run 4 (i' := 20) (L' := [(2, ((v0 : Nat) : Int)), (0, v1), (0, v2), (0, q3)]) (st' := [(0, 4), (0, (g_sub v2 v1))]) (h' := (G, ρ, m)) hm rfl cjn ?_
      by_cases c16 : 4 < (g_sub v2 v1)
      · replace e := it_p e c16
        refine Ex_if2t (c := 4) (tgt := 23) hm rfl (bt4 c16) ?_
        refine Ex_run 1 (i' := 24) (L' := [(2, ((v0 : Nat) : Int)), (0, v1), (0, v2), (0, q3)]) (st' := [(0, 1)]) (h' := (G, ρ, m)) hm rfl cjn ?_
        cases e
        cases hk
        exact Ex_ret (k := 1) hm rfl ⟨_, rfl, rfl⟩
      · replace e := it_n e c16
        refine Ex_if2f (c := 4) (tgt := 23) hm rfl (bf4 c16) ?_
        refine Ex_run 2 (i' := 24) (L' := [(2, ((v0 : Nat) : Int)), (0, v1), (0, v2), (0, q3)]) (st' := [(0, 2)]) (h' := (G, ρ, m)) hm rfl cjn ?_
        cases e
        cases hk
        exact Ex_ret (k := 1) hm rfl ⟨_, rfl, rfl⟩
  · replace e := it_n e c5
    refine Ex_if1f (c := 0) (tgt := 13) hm rfl (bf0 c5) ?_
    refine Ex_run 3 (i' := 11) (L' := [(2, ((v0 : Nat) : Int)), (0, v1), (0, v2), (0, q3)]) (st' := [(0, v2), (0, v1), (2, ((v0 : Nat) : Int))]) (h' := (G, ρ, m)) hm rfl cjn ?_
    obtain ⟨q17, h17, e⟩ := bn_s e
    refine Ex_callm (z := 16) (na := 3) (ck := 5) (as := [(2, ((v0 : Nat) : Int)), (0, v1), (0, v2)]) (rest := []) (E0 := [(2, ((v0 : Nat) : Int)), (0, v1), (0, v2)]) (v := some (0, q17)) (h1 := (G, ρ, m)) hm rfl (by omega) ⟨Nat.le_of_ble_eq_true rfl, Nat.le_of_ble_eq_true rfl⟩ (rc2 rfl g1) rfl rfl ml_16 rfl (Nat.le_of_ble_eq_true rfl) (tf16 h17 (by omega)) ?_
    show Ex d 15 12 [(2, ((v0 : Nat) : Int)), (0, v1), (0, v2), (0, q3)] [(0, q17)] (G, ρ, m) rr
    cases e
    cases hk
    exact Ex_ret (k := 1) hm rfl ⟨_, rfl, rfl⟩
theorem tf17_b4 {G : Gg} {ρ : Rg} {d : Nat} {v0 : Nat} {v1 : Int} {v2 : Int} {m : Sg} {s : Int × Int} {x : (Int × Int) ⊕ (Int)} (e : f17_b4 G ρ v0 v1 v2 m s = some x) (hd : 1 ≤ d) (rr : Option MV × Mh) (hk : (DS (e17_4 G ρ d v0 v1 v2 m) (Bpi G ρ m)) x rr) : e17_4 G ρ d v0 v1 v2 m s rr := by
  unfold f17_b4 at e
  have hm := mi_17
  show Ex d 17 4 [(2, ((v0 : Nat) : Int)), (0, v1), (0, v2), (0, s.1), (0, s.2)] [] (G, ρ, m) rr
  refine Ex_run 2 (i' := 6) (L' := [(2, ((v0 : Nat) : Int)), (0, v1), (0, v2), (0, s.1), (0, s.2)]) (st' := [(0, v2), (0, s.2)]) (h' := (G, ρ, m)) hm rfl cjn ?_
  by_cases c1 : s.2 < v2
  · replace e := it_p e c1
    refine Ex_if2f (c := 3) (tgt := 25) hm rfl (bf3 c1) ?_
    refine Ex_run 4 (i' := 11) (L' := [(2, ((v0 : Nat) : Int)), (0, v1), (0, v2), (0, s.1), (0, s.2)]) (st' := [(0, (g_add v1 4)), (0, s.2)]) (h' := (G, ρ, m)) hm rfl cjn ?_
    by_cases c2 : s.2 < (g_add v1 4)
    · replace e := it_p e c2
      refine Ex_if2f (c := 3) (tgt := 25) hm rfl (bf3 c2) ?_
      obtain ⟨g3, e⟩ := gd_s e
      refine Ex_run 6 (i' := 18) (L' := [(2, ((v0 : Nat) : Int)), (0, v1), (0, v2), (0, s.1), (0, s.2)]) (st' := [(0, s.2), (2, (((ρ v0 0) : Nat) : Int)), (0, (g_mul 10 s.1))]) (h' := (G, ρ, m)) hm rfl (cjc (gk_b g3) cjn) ?_
      obtain ⟨g4, e⟩ := gd_s e
      obtain ⟨q5, h5, e⟩ := bn_s e
      refine Ex_callm (z := 33) (na := 2) (ck := 6) (as := [(2, (((ρ v0 0) : Nat) : Int)), (0, s.2)]) (rest := [(0, (g_mul 10 s.1))]) (E0 := [(2, (((ρ v0 0) : Nat) : Int)), (0, s.2)]) (v := some (0, q5)) (h1 := (G, ρ, m)) hm rfl (by omega) ⟨Nat.le_of_ble_eq_true rfl, Nat.le_of_ble_eq_true rfl⟩ (rc2 rfl g4) rfl rfl ml_33 rfl (Nat.le_of_ble_eq_true rfl) (tf33 h5 (by omega)) ?_
      show Ex d 17 19 [(2, ((v0 : Nat) : Int)), (0, v1), (0, v2), (0, s.1), (0, s.2)] [(0, q5), (0, (g_mul 10 s.1))] (G, ρ, m) rr
      refine Ex_run 6 (i' := 4) (L' := [(2, ((v0 : Nat) : Int)), (0, v1), (0, v2), (0, (g_sub (g_add (g_mul 10 s.1) q5) 48)), (0, (w32 (s.2 + 1)))]) (st' := []) (h' := (G, ρ, m)) hm rfl (cjc (Nat.le_of_ble_eq_true rfl) cjn) ?_
      cases e
      exact hk
    · replace e := it_n e c2
      refine Ex_if2t (c := 3) (tgt := 25) hm rfl (bt3 c2) ?_
      obtain ⟨x, e, hx⟩ := xr_s e
      replace hk : (Bpi G ρ m) x rr := by rw [hx] at hk; exact hk
      refine Ex_run 1 (i' := 26) (L' := [(2, ((v0 : Nat) : Int)), (0, v1), (0, v2), (0, s.1), (0, s.2)]) (st' := [(0, s.1)]) (h' := (G, ρ, m)) hm rfl cjn ?_
      cases e
      cases hk
      exact Ex_ret (k := 1) hm rfl ⟨_, rfl, rfl⟩
  · replace e := it_n e c1
    refine Ex_if2t (c := 3) (tgt := 25) hm rfl (bt3 c1) ?_
    obtain ⟨x, e, hx⟩ := xr_s e
    replace hk : (Bpi G ρ m) x rr := by rw [hx] at hk; exact hk
    refine Ex_run 1 (i' := 26) (L' := [(2, ((v0 : Nat) : Int)), (0, v1), (0, v2), (0, s.1), (0, s.2)]) (st' := [(0, s.1)]) (h' := (G, ρ, m)) hm rfl cjn ?_
    cases e
    cases hk
    exact Ex_ret (k := 1) hm rfl ⟨_, rfl, rfl⟩
theorem tf17 {G : Gg} {ρ : Rg} {d : Nat} {v0 : Nat} {v1 : Int} {v2 : Int} {m : Sg} {x : Int} (e : f17 G ρ v0 v1 v2 m = some x) (hd : 1 ≤ d) : Ex d 17 0 [(2, ((v0 : Nat) : Int)), (0, v1), (0, v2), (9, 0), (9, 0)] [] (G, ρ, m) (some (0, x), (G, ρ, m)) := by
  unfold f17 at e
  have hm := mi_17
  generalize hk : (some (0, x), (G, ρ, m)) = rr
  replace hk : (Bpi G ρ m) x rr := hk.symm
  refine Ex_run 4 (i' := 4) (L' := [(2, ((v0 : Nat) : Int)), (0, v1), (0, v2), (0, 0), (0, v1)]) (st' := []) (h' := (G, ρ, m)) hm rfl (cjc (Nat.le_of_ble_eq_true rfl) (cjc (Nat.le_of_ble_eq_true rfl) cjn)) ?_
  exact (Ex_lp (A := e17_4 G ρ d v0 v1 v2 m ) (B := (Bpi G ρ m)) (fun s x e rr hk => tf17_b4 e hd rr hk) FU _ _ e rr hk)
theorem tf13_62 {G : Gg} {ρ : Rg} {d : Nat} {v0 : Nat} {v2 : Int} {m : Sg} {x : Sg} (e : f13_62 G ρ v0 v2 m = some x) (hd : 7 ≤ d) (rr : Option MV × Mh) (hk : (Bv G ρ) x rr) (j1 : Int) (j3 : Int) (j4 : MV) (j5 : MV) : Ex d 13 62 [(2, ((v0 : Nat) : Int)), (0, j1), (0, v2), (0, j3), j4, j5] [] (G, ρ, m) rr := by
  unfold f13_62 at e
  have hm := mi_13
  obtain ⟨g19, e⟩ := gd_s e
  refine Ex_run 5 (i' := 67) (L' := [(2, ((v0 : Nat) : Int)), (0, j1), (0, v2), (0, j3), j4, j5]) (st' := [(0, (m v0 1)), (0, v2), (2, (((ρ v0 4) : Nat) : Int))]) (h' := (G, ρ, m)) hm rfl (cjc (gk_b g19) (cjc (gk_b g19) cjn)) ?_
  obtain ⟨g20, e⟩ := gd_s e
  obtain ⟨q21, h21, e⟩ := bn_s e
  refine Ex_callm (z := 34) (na := 3) (ck := 6) (as := [(2, (((ρ v0 4) : Nat) : Int)), (0, v2), (0, (m v0 1))]) (rest := []) (E0 := [(2, (((ρ v0 4) : Nat) : Int)), (0, v2), (0, (m v0 1))]) (v := none) (h1 := (G, ρ, q21)) hm rfl (by omega) ⟨Nat.le_of_ble_eq_true rfl, Nat.le_of_ble_eq_true rfl⟩ (rc2 rfl g20) rfl rfl ml_34 rfl (Nat.le_of_ble_eq_true rfl) (tf34 h21 (by omega)) ?_
  show Ex d 13 68 [(2, ((v0 : Nat) : Int)), (0, j1), (0, v2), (0, j3), j4, j5] [] (G, ρ, q21) rr
  refine Ex_run 4 (i' := 72) (L' := [(2, ((v0 : Nat) : Int)), (0, j1), (0, v2), (0, j3), j4, j5]) (st' := [(0, 0), (0, v2), (2, (((ρ v0 2) : Nat) : Int))]) (h' := (G, ρ, q21)) hm rfl (cjc (gk_b g19) cjn) ?_
  obtain ⟨g22, e⟩ := gd_s e
  obtain ⟨q23, h23, e⟩ := bn_s e
  refine Ex_callm (z := 34) (na := 3) (ck := 6) (as := [(2, (((ρ v0 2) : Nat) : Int)), (0, v2), (0, 0)]) (rest := []) (E0 := [(2, (((ρ v0 2) : Nat) : Int)), (0, v2), (0, 0)]) (v := none) (h1 := (G, ρ, q23)) hm rfl (by omega) ⟨Nat.le_of_ble_eq_true rfl, Nat.le_of_ble_eq_true rfl⟩ (rc2 rfl g22) rfl rfl ml_34 rfl (Nat.le_of_ble_eq_true rfl) (tf34 h23 (by omega)) ?_
  show Ex d 13 73 [(2, ((v0 : Nat) : Int)), (0, j1), (0, v2), (0, j3), j4, j5] [] (G, ρ, q23) rr
  cases e
  cases hk
  exact Ex_ret (k := 0) hm rfl ⟨rfl, rfl⟩
theorem tf13_b6 {G : Gg} {ρ : Rg} {d : Nat} {v0 : Nat} {s : Int × Int × Int × Sg} {x : (Int × Int × Int × Sg) ⊕ (Sg)} (e : f13_b6 G ρ v0 s = some x) (hd : 7 ≤ d) (rr : Option MV × Mh) (hk : (DS (e13_6 G ρ d v0) (Bv G ρ)) x rr) : e13_6 G ρ d v0 s rr := by
  unfold f13_b6 at e
  have hm := mi_13
  show ∀ (j4 : MV) (j5 : MV), Ex d 13 6 [(2, ((v0 : Nat) : Int)), (0, s.1), (0, s.2.1), (0, s.2.2.1), j4, j5] [] (G, ρ, s.2.2.2) rr
  intro j4 j5
  refine Ex_run 2 (i' := 8) (L' := [(2, ((v0 : Nat) : Int)), (0, s.1), (0, s.2.1), (0, s.2.2.1), j4, j5]) (st' := [(0, 160), (0, s.2.2.1)]) (h' := (G, ρ, s.2.2.2)) hm rfl cjn ?_
  by_cases c1 : s.2.2.1 < 160
  · replace e := it_p e c1
    refine Ex_if2f (c := 3) (tgt := 62) hm rfl (bf3 c1) ?_
    obtain ⟨g2, e⟩ := gd_s e
    refine Ex_run 3 (i' := 12) (L' := [(2, ((v0 : Nat) : Int)), (0, s.1), (0, s.2.1), (0, s.2.2.1), j4, j5]) (st' := [(0, (s.2.2.2 v0 1)), (0, s.1)]) (h' := (G, ρ, s.2.2.2)) hm rfl (cjc (gk_b g2) cjn) ?_
    by_cases c3 : s.1 < (s.2.2.2 v0 1)
    · replace e := it_p e c3
      refine Ex_if2f (c := 3) (tgt := 62) hm rfl (bf3 c3) ?_
      refine Ex_run 3 (i' := 16) (L' := [(2, ((v0 : Nat) : Int)), (0, s.1), (0, s.2.1), (0, s.2.2.1), j4, j5]) (st' := [(0, s.1), (2, (((ρ v0 0) : Nat) : Int))]) (h' := (G, ρ, s.2.2.2)) hm rfl (cjc (gk_b g2) cjn) ?_
      obtain ⟨g4, e⟩ := gd_s e
      obtain ⟨q5, h5, e⟩ := bn_s e
      refine Ex_callm (z := 33) (na := 2) (ck := 6) (as := [(2, (((ρ v0 0) : Nat) : Int)), (0, s.1)]) (rest := []) (E0 := [(2, (((ρ v0 0) : Nat) : Int)), (0, s.1)]) (v := some (0, q5)) (h1 := (G, ρ, s.2.2.2)) hm rfl (by omega) ⟨Nat.le_of_ble_eq_true rfl, Nat.le_of_ble_eq_true rfl⟩ (rc2 rfl g4) rfl rfl ml_33 rfl (Nat.le_of_ble_eq_true rfl) (tf33 h5 (by omega)) ?_
      show Ex d 13 17 [(2, ((v0 : Nat) : Int)), (0, s.1), (0, s.2.1), (0, s.2.2.1), j4, j5] [(0, q5)] (G, ρ, s.2.2.2) rr
      refine Ex_run 3 (i' := 20) (L' := [(2, ((v0 : Nat) : Int)), (0, s.1), (0, s.2.1), (0, s.2.2.1), (0, q5), j5]) (st' := [(0, 32), (0, q5)]) (h' := (G, ρ, s.2.2.2)) hm rfl (cjc (Nat.le_of_ble_eq_true rfl) cjn) ?_
      by_cases c6 : q5 = 32
      · replace e := it_p e c6
        refine Ex_if2t (c := 0) (tgt := 24) hm rfl (bt0 c6) ?_
        refine Ex_run 4 (i' := 6) (L' := [(2, ((v0 : Nat) : Int)), (0, (w32 (s.1 + 1))), (0, s.2.1), (0, (w32 (s.2.2.1 + 1))), (0, q5), j5]) (st' := []) (h' := (G, ρ, s.2.2.2)) hm rfl cjn ?_
        cases e
        exact hk _ _
      · replace e := it_n e c6
        refine Ex_if2f (c := 0) (tgt := 24) hm rfl (bf0 c6) ?_
        refine Ex_run 2 (i' := 23) (L' := [(2, ((v0 : Nat) : Int)), (0, s.1), (0, s.2.1), (0, s.2.2.1), (0, q5), j5]) (st' := [(0, 10), (0, q5)]) (h' := (G, ρ, s.2.2.2)) hm rfl cjn ?_
        by_cases c7 : q5 = 10
        · replace e := it_p e c7
          refine Ex_if2f (c := 1) (tgt := 26) hm rfl (bf1 c7) ?_
          refine Ex_run 4 (i' := 6) (L' := [(2, ((v0 : Nat) : Int)), (0, (w32 (s.1 + 1))), (0, s.2.1), (0, (w32 (s.2.2.1 + 1))), (0, q5), j5]) (st' := []) (h' := (G, ρ, s.2.2.2)) hm rfl cjn ?_
          cases e
          exact hk _ _
        · replace e := it_n e c7
          refine Ex_if2t (c := 1) (tgt := 26) hm rfl (bt1 c7) ?_
          refine Ex_run 2 (i' := 28) (L' := [(2, ((v0 : Nat) : Int)), (0, s.1), (0, s.2.1), (0, s.2.2.1), (0, q5), j5]) (st' := [(0, s.1), (2, ((v0 : Nat) : Int))]) (h' := (G, ρ, s.2.2.2)) hm rfl cjn ?_
          obtain ⟨q8, h8, e⟩ := bn_s e
          refine Ex_callm (z := 14) (na := 2) (ck := 5) (as := [(2, ((v0 : Nat) : Int)), (0, s.1)]) (rest := []) (E0 := [(2, ((v0 : Nat) : Int)), (0, s.1), (9, 0), (9, 0), (9, 0)]) (v := some (0, q8)) (h1 := (G, ρ, s.2.2.2)) hm rfl (by omega) ⟨Nat.le_of_ble_eq_true rfl, Nat.le_of_ble_eq_true rfl⟩ (rc2 rfl g2) rfl rfl ml_14 rfl (Nat.le_of_ble_eq_true rfl) (tf14 h8 (by omega)) ?_
          show Ex d 13 29 [(2, ((v0 : Nat) : Int)), (0, s.1), (0, s.2.1), (0, s.2.2.1), (0, q5), j5] [(0, q8)] (G, ρ, s.2.2.2) rr
          refine Ex_run 5 (i' := 34) (L' := [(2, ((v0 : Nat) : Int)), (0, s.1), (0, s.2.1), (0, s.2.2.1), (0, q5), (0, q8)]) (st' := [(0, s.1), (0, s.2.1), (2, (((ρ v0 4) : Nat) : Int))]) (h' := (G, ρ, s.2.2.2)) hm rfl (cjc (Nat.le_of_ble_eq_true rfl) (cjc (gk_b g2) cjn)) ?_
          obtain ⟨g9, e⟩ := gd_s e
          obtain ⟨q10, h10, e⟩ := bn_s e
          refine Ex_callm (z := 34) (na := 3) (ck := 6) (as := [(2, (((ρ v0 4) : Nat) : Int)), (0, s.2.1), (0, s.1)]) (rest := []) (E0 := [(2, (((ρ v0 4) : Nat) : Int)), (0, s.2.1), (0, s.1)]) (v := none) (h1 := (G, ρ, q10)) hm rfl (by omega) ⟨Nat.le_of_ble_eq_true rfl, Nat.le_of_ble_eq_true rfl⟩ (rc2 rfl g9) rfl rfl ml_34 rfl (Nat.le_of_ble_eq_true rfl) (tf34 h10 (by omega)) ?_
          show Ex d 13 35 [(2, ((v0 : Nat) : Int)), (0, s.1), (0, s.2.1), (0, s.2.2.1), (0, q5), (0, q8)] [] (G, ρ, q10) rr
          refine Ex_run 6 (i' := 41) (L' := [(2, ((v0 : Nat) : Int)), (0, s.1), (0, s.2.1), (0, s.2.2.1), (0, q5), (0, q8)]) (st' := [(0, q8), (0, s.1), (2, ((v0 : Nat) : Int)), (0, s.2.1), (2, (((ρ v0 2) : Nat) : Int))]) (h' := (G, ρ, q10)) hm rfl (cjc (gk_b g2) cjn) ?_
          obtain ⟨q11, h11, e⟩ := bn_s e
          refine Ex_callm (z := 15) (na := 3) (ck := 5) (as := [(2, ((v0 : Nat) : Int)), (0, s.1), (0, q8)]) (rest := [(0, s.2.1), (2, (((ρ v0 2) : Nat) : Int))]) (E0 := [(2, ((v0 : Nat) : Int)), (0, s.1), (0, q8), (9, 0)]) (v := some (0, q11)) (h1 := (G, ρ, q10)) hm rfl (by omega) ⟨Nat.le_of_ble_eq_true rfl, Nat.le_of_ble_eq_true rfl⟩ (rc2 rfl g2) rfl rfl ml_15 rfl (Nat.le_of_ble_eq_true rfl) (tf15 h11 (by omega)) ?_
          show Ex d 13 42 [(2, ((v0 : Nat) : Int)), (0, s.1), (0, s.2.1), (0, s.2.2.1), (0, q5), (0, q8)] [(0, q11), (0, s.2.1), (2, (((ρ v0 2) : Nat) : Int))] (G, ρ, q10) rr
          obtain ⟨g12, e⟩ := gd_s e
          obtain ⟨q13, h13, e⟩ := bn_s e
          refine Ex_callm (z := 34) (na := 3) (ck := 6) (as := [(2, (((ρ v0 2) : Nat) : Int)), (0, s.2.1), (0, q11)]) (rest := []) (E0 := [(2, (((ρ v0 2) : Nat) : Int)), (0, s.2.1), (0, q11)]) (v := none) (h1 := (G, ρ, q13)) hm rfl (by omega) ⟨Nat.le_of_ble_eq_true rfl, Nat.le_of_ble_eq_true rfl⟩ (rc2 rfl g12) rfl rfl ml_34 rfl (Nat.le_of_ble_eq_true rfl) (tf34 h13 (by omega)) ?_
          show Ex d 13 43 [(2, ((v0 : Nat) : Int)), (0, s.1), (0, s.2.1), (0, s.2.2.1), (0, q5), (0, q8)] [] (G, ρ, q13) rr
          refine Ex_run 3 (i' := 46) (L' := [(2, ((v0 : Nat) : Int)), (0, s.1), (0, s.2.1), (0, s.2.2.1), (0, q5), (0, q8)]) (st' := [(0, s.2.1), (2, (((ρ v0 2) : Nat) : Int))]) (h' := (G, ρ, q13)) hm rfl (cjc (gk_b g2) cjn) ?_
          obtain ⟨q14, h14, e⟩ := bn_s e
          refine Ex_callm (z := 33) (na := 2) (ck := 6) (as := [(2, (((ρ v0 2) : Nat) : Int)), (0, s.2.1)]) (rest := []) (E0 := [(2, (((ρ v0 2) : Nat) : Int)), (0, s.2.1)]) (v := some (0, q14)) (h1 := (G, ρ, q13)) hm rfl (by omega) ⟨Nat.le_of_ble_eq_true rfl, Nat.le_of_ble_eq_true rfl⟩ (rc2 rfl g12) rfl rfl ml_33 rfl (Nat.le_of_ble_eq_true rfl) (tf33 h14 (by omega)) ?_
          show Ex d 13 47 [(2, ((v0 : Nat) : Int)), (0, s.1), (0, s.2.1), (0, s.2.2.1), (0, q5), (0, q8)] [(0, q14)] (G, ρ, q13) rr
          refine Ex_run 1 (i' := 48) (L' := [(2, ((v0 : Nat) : Int)), (0, s.1), (0, s.2.1), (0, s.2.2.1), (0, q5), (0, q8)]) (st' := [(0, 2), (0, q14)]) (h' := (G, ρ, q13)) hm rfl cjn ?_
          by_cases c15 : q14 = 2
          · replace e := it_p e c15
            refine Ex_if2f (c := 1) (tgt := 57) hm rfl (bf1 c15) ?_
            refine Ex_run 6 (i' := 55) (L' := [(2, ((v0 : Nat) : Int)), (0, s.1), (0, s.2.1), (0, s.2.2.1), (0, q5), (0, q8)]) (st' := [(0, q8), (0, s.1), (2, ((v0 : Nat) : Int)), (0, s.2.1), (2, (((ρ v0 3) : Nat) : Int))]) (h' := (G, ρ, q13)) hm rfl (cjc (gk_b g2) cjn) ?_
            obtain ⟨q16, h16, e⟩ := bn_s e
            refine Ex_callm (z := 17) (na := 3) (ck := 5) (as := [(2, ((v0 : Nat) : Int)), (0, s.1), (0, q8)]) (rest := [(0, s.2.1), (2, (((ρ v0 3) : Nat) : Int))]) (E0 := [(2, ((v0 : Nat) : Int)), (0, s.1), (0, q8), (9, 0), (9, 0)]) (v := some (0, q16)) (h1 := (G, ρ, q13)) hm rfl (by omega) ⟨Nat.le_of_ble_eq_true rfl, Nat.le_of_ble_eq_true rfl⟩ (rc2 rfl g2) rfl rfl ml_17 rfl (Nat.le_of_ble_eq_true rfl) (tf17 h16 (by omega)) ?_
            show Ex d 13 56 [(2, ((v0 : Nat) : Int)), (0, s.1), (0, s.2.1), (0, s.2.2.1), (0, q5), (0, q8)] [(0, q16), (0, s.2.1), (2, (((ρ v0 3) : Nat) : Int))] (G, ρ, q13) rr
            obtain ⟨g17, e⟩ := gd_s e
            obtain ⟨q18, h18, e⟩ := bn_s e
            refine Ex_callm (z := 34) (na := 3) (ck := 6) (as := [(2, (((ρ v0 3) : Nat) : Int)), (0, s.2.1), (0, q16)]) (rest := []) (E0 := [(2, (((ρ v0 3) : Nat) : Int)), (0, s.2.1), (0, q16)]) (v := none) (h1 := (G, ρ, q18)) hm rfl (by omega) ⟨Nat.le_of_ble_eq_true rfl, Nat.le_of_ble_eq_true rfl⟩ (rc2 rfl g17) rfl rfl ml_34 rfl (Nat.le_of_ble_eq_true rfl) (tf34 h18 (by omega)) ?_
            show Ex d 13 57 [(2, ((v0 : Nat) : Int)), (0, s.1), (0, s.2.1), (0, s.2.2.1), (0, q5), (0, q8)] [] (G, ρ, q18) rr
            refine Ex_run 5 (i' := 6) (L' := [(2, ((v0 : Nat) : Int)), (0, q8), (0, (w32 (s.2.1 + 1))), (0, (w32 (s.2.2.1 + 1))), (0, q5), (0, q8)]) (st' := []) (h' := (G, ρ, q18)) hm rfl (cjc (Nat.le_of_ble_eq_true rfl) cjn) ?_
            cases e
            exact hk _ _
          · replace e := it_n e c15
            refine Ex_if2t (c := 1) (tgt := 57) hm rfl (bt1 c15) ?_
            refine Ex_run 5 (i' := 6) (L' := [(2, ((v0 : Nat) : Int)), (0, q8), (0, (w32 (s.2.1 + 1))), (0, (w32 (s.2.2.1 + 1))), (0, q5), (0, q8)]) (st' := []) (h' := (G, ρ, q13)) hm rfl (cjc (Nat.le_of_ble_eq_true rfl) cjn) ?_
            cases e
            exact hk _ _
    · replace e := it_n e c3
      refine Ex_if2t (c := 3) (tgt := 62) hm rfl (bt3 c3) ?_
      obtain ⟨x, e, hx⟩ := xr_s e
      replace hk : (Bv G ρ) x rr := by rw [hx] at hk; exact hk
      exact tf13_62 e hd rr hk _ _ _ _
  · replace e := it_n e c1
    refine Ex_if2t (c := 3) (tgt := 62) hm rfl (bt3 c1) ?_
    obtain ⟨x, e, hx⟩ := xr_s e
    replace hk : (Bv G ρ) x rr := by rw [hx] at hk; exact hk
    exact tf13_62 e hd rr hk _ _ _ _
theorem tf13 {G : Gg} {ρ : Rg} {d : Nat} {v0 : Nat} {m : Sg} {x : Sg} (e : f13 G ρ v0 m = some x) (hd : 7 ≤ d) : Ex d 13 0 [(2, ((v0 : Nat) : Int)), (9, 0), (9, 0), (9, 0), (9, 0), (9, 0)] [] (G, ρ, m) (none, (G, ρ, x)) := by
  unfold f13 at e
  have hm := mi_13
  generalize hk : (none, (G, ρ, x)) = rr
  replace hk : (Bv G ρ) x rr := hk.symm
  refine Ex_run 6 (i' := 6) (L' := [(2, ((v0 : Nat) : Int)), (0, 0), (0, 0), (0, 0), (9, 0), (9, 0)]) (st' := []) (h' := (G, ρ, m)) hm rfl (cjc (Nat.le_of_ble_eq_true rfl) (cjc (Nat.le_of_ble_eq_true rfl) (cjc (Nat.le_of_ble_eq_true rfl) cjn))) ?_
  exact (Ex_lp (A := e13_6 G ρ d v0 ) (B := (Bv G ρ)) (fun s x e rr hk => tf13_b6 e hd rr hk) FU _ _ e rr hk) _ _
theorem tf21 {G : Gg} {ρ : Rg} {d : Nat} {v0 : Nat} {v1 : Int} {m : Sg} {x : Int} (e : f21 G ρ v0 v1 m = some x) (hd : 1 ≤ d) : Ex d 21 0 [(2, ((v0 : Nat) : Int)), (0, v1)] [] (G, ρ, m) (some (0, x), (G, ρ, m)) := by
  unfold f21 at e
  have hm := mi_21
  generalize hk : (some (0, x), (G, ρ, m)) = rr
  replace hk : (Bpi G ρ m) x rr := hk.symm
  obtain ⟨g1, e⟩ := gd_s e
  refine Ex_run 4 (i' := 4) (L' := [(2, ((v0 : Nat) : Int)), (0, v1)]) (st' := [(0, (m v0 5)), (2, (((ρ v0 2) : Nat) : Int))]) (h' := (G, ρ, m)) hm rfl (cjc (gk_b g1) (cjc (gk_b g1) cjn)) ?_
  obtain ⟨g2, e⟩ := gd_s e
  obtain ⟨q3, h3, e⟩ := bn_s e
  refine Ex_callm (z := 33) (na := 2) (ck := 6) (as := [(2, (((ρ v0 2) : Nat) : Int)), (0, (m v0 5))]) (rest := []) (E0 := [(2, (((ρ v0 2) : Nat) : Int)), (0, (m v0 5))]) (v := some (0, q3)) (h1 := (G, ρ, m)) hm rfl (by omega) ⟨Nat.le_of_ble_eq_true rfl, Nat.le_of_ble_eq_true rfl⟩ (rc2 rfl g2) rfl rfl ml_33 rfl (Nat.le_of_ble_eq_true rfl) (tf33 h3 (by omega)) ?_
  show Ex d 21 5 [(2, ((v0 : Nat) : Int)), (0, v1)] [(0, q3)] (G, ρ, m) rr
  refine Ex_run 1 (i' := 6) (L' := [(2, ((v0 : Nat) : Int)), (0, v1)]) (st' := [(0, v1), (0, q3)]) (h' := (G, ρ, m)) hm rfl cjn ?_
  by_cases c4 : q3 = v1
  · replace e := it_p e c4
    refine Ex_if2f (c := 1) (tgt := 9) hm rfl (bf1 c4) ?_
    refine Ex_run 2 (i' := 10) (L' := [(2, ((v0 : Nat) : Int)), (0, v1)]) (st' := [(0, 1)]) (h' := (G, ρ, m)) hm rfl cjn ?_
    cases e
    cases hk
    exact Ex_ret (k := 2) hm rfl ⟨_, rfl, by decide, rfl⟩
  · replace e := it_n e c4
    refine Ex_if2t (c := 1) (tgt := 9) hm rfl (bt1 c4) ?_
    refine Ex_run 1 (i' := 10) (L' := [(2, ((v0 : Nat) : Int)), (0, v1)]) (st' := [(0, 0)]) (h' := (G, ρ, m)) hm rfl cjn ?_
    cases e
    cases hk
    exact Ex_ret (k := 2) hm rfl ⟨_, rfl, by decide, rfl⟩
theorem tf22 {G : Gg} {ρ : Rg} {d : Nat} {v0 : Nat} {v1 : Int} {m : Sg} {x : Int × Sg} (e : f22 G ρ v0 v1 m = some x) (hd : 2 ≤ d) : Ex d 22 0 [(2, ((v0 : Nat) : Int)), (0, v1)] [] (G, ρ, m) (some (0, x.1), (G, ρ, x.2)) := by
  unfold f22 at e
  have hm := mi_22
  generalize hk : (some (0, x.1), (G, ρ, x.2)) = rr
  replace hk : (Bi G ρ) x rr := hk.symm
  refine Ex_run 2 (i' := 2) (L' := [(2, ((v0 : Nat) : Int)), (0, v1)]) (st' := [(0, v1), (2, ((v0 : Nat) : Int))]) (h' := (G, ρ, m)) hm rfl cjn ?_
  obtain ⟨g1, e⟩ := gd_s e
  obtain ⟨q2, h2, e⟩ := bn_s e
  refine Ex_callm (z := 21) (na := 2) (ck := 5) (as := [(2, ((v0 : Nat) : Int)), (0, v1)]) (rest := []) (E0 := [(2, ((v0 : Nat) : Int)), (0, v1)]) (v := some (0, q2)) (h1 := (G, ρ, m)) hm rfl (by omega) ⟨Nat.le_of_ble_eq_true rfl, Nat.le_of_ble_eq_true rfl⟩ (rc2 rfl g1) rfl rfl ml_21 rfl (Nat.le_of_ble_eq_true rfl) (tf21 h2 (by omega)) ?_
  show Ex d 22 3 [(2, ((v0 : Nat) : Int)), (0, v1)] [(0, q2)] (G, ρ, m) rr
  by_cases c3 : q2 = 0
  · replace e := it_p e c3
    refine Ex_if1f (c := 1) (tgt := 6) hm rfl (bf1 c3) ?_
    refine Ex_run 1 (i' := 5) (L' := [(2, ((v0 : Nat) : Int)), (0, v1)]) (st' := [(0, 0)]) (h' := (G, ρ, m)) hm rfl cjn ?_
    cases e
    cases hk
    exact Ex_ret (k := 2) hm rfl ⟨_, rfl, by decide, rfl⟩
  · replace e := it_n e c3
    refine Ex_if1t (c := 1) (tgt := 6) hm rfl (bt1 c3) ?_
    refine Ex_run 7 (i' := 13) (L' := [(2, ((v0 : Nat) : Int)), (0, v1)]) (st' := [(0, 1)]) (h' := (G, ρ, (put m v0 5 (g_add (m v0 5) 1)))) hm rfl (cjc (gk_b g1) (cjc (gk_b g1) cjn)) ?_
    cases e
    cases hk
    exact Ex_ret (k := 2) hm rfl ⟨_, rfl, by decide, rfl⟩
theorem tf23 {G : Gg} {ρ : Rg} {d : Nat} {v0 : Nat} {v1 : Int} {m : Sg} {x : Sg} (e : f23 G ρ v0 v1 m = some x) (hd : 1 ≤ d) : Ex d 23 0 [(2, ((v0 : Nat) : Int)), (0, v1)] [] (G, ρ, m) (none, (G, ρ, x)) := by
  unfold f23 at e
  have hm := mi_23
  generalize hk : (none, (G, ρ, x)) = rr
  replace hk : (Bv G ρ) x rr := hk.symm
  obtain ⟨g1, e⟩ := gd_s e
  refine Ex_run 5 (i' := 5) (L' := [(2, ((v0 : Nat) : Int)), (0, v1)]) (st' := [(0, v1), (0, (m v0 7)), (2, (((ρ v0 6) : Nat) : Int))]) (h' := (G, ρ, m)) hm rfl (cjc (gk_b g1) (cjc (gk_b g1) cjn)) ?_
  obtain ⟨g2, e⟩ := gd_s e
  obtain ⟨q3, h3, e⟩ := bn_s e
  refine Ex_callm (z := 34) (na := 3) (ck := 6) (as := [(2, (((ρ v0 6) : Nat) : Int)), (0, (m v0 7)), (0, v1)]) (rest := []) (E0 := [(2, (((ρ v0 6) : Nat) : Int)), (0, (m v0 7)), (0, v1)]) (v := none) (h1 := (G, ρ, q3)) hm rfl (by omega) ⟨Nat.le_of_ble_eq_true rfl, Nat.le_of_ble_eq_true rfl⟩ (rc2 rfl g2) rfl rfl ml_34 rfl (Nat.le_of_ble_eq_true rfl) (tf34 h3 (by omega)) ?_
  show Ex d 23 6 [(2, ((v0 : Nat) : Int)), (0, v1)] [] (G, ρ, q3) rr
  refine Ex_run 6 (i' := 12) (L' := [(2, ((v0 : Nat) : Int)), (0, v1)]) (st' := []) (h' := (G, ρ, (put q3 v0 7 (g_add (q3 v0 7) 1)))) hm rfl (cjc (gk_b g1) (cjc (gk_b g1) cjn)) ?_
  cases e
  cases hk
  exact Ex_ret (k := 0) hm rfl ⟨rfl, rfl⟩
theorem tf31_35 {G : Gg} {ρ : Rg} {rc : Nat → Nat → Int → Sg → Option (Int × Sg)} {d : Nat} {v0 : Nat} {w0 : Int} {w1 : Nat} {m : Sg} {x : Int × Sg} (e : f31_35 G ρ rc v0 w0 w1 m = some x) (hd : 3 ≤ d) (hr : RHX G ρ rc d) (rr : Option MV × Mh) (hk : (Bi G ρ) x rr) (j1 : Int) (j2 : Int) (j3 : Int) : Ex d 31 35 [(2, ((v0 : Nat) : Int)), (0, j1), (0, j2), (0, j3)] [(0, w0), (2, ((w1 : Nat) : Int))] (G, ρ, m) rr := by
  unfold f31_35 at e
  have hm := mi_31
  obtain ⟨g11, e⟩ := gd_s e
  obtain ⟨q12, h12, e⟩ := bn_s e
  refine Ex_callm (z := 23) (na := 2) (ck := 5) (as := [(2, ((w1 : Nat) : Int)), (0, w0)]) (rest := []) (E0 := [(2, ((w1 : Nat) : Int)), (0, w0)]) (v := none) (h1 := (G, ρ, q12)) hm rfl (by omega) ⟨Nat.le_of_ble_eq_true rfl, Nat.le_of_ble_eq_true rfl⟩ (rc2 rfl g11) rfl rfl ml_23 rfl (Nat.le_of_ble_eq_true rfl) (tf23 h12 (by omega)) ?_
  show Ex d 31 36 [(2, ((v0 : Nat) : Int)), (0, j1), (0, j2), (0, j3)] [] (G, ρ, q12) rr
  obtain ⟨g13, e⟩ := gd_s e
  refine Ex_run 7 (i' := 43) (L' := [(2, ((v0 : Nat) : Int)), (0, j1), (0, j2), (0, j3)]) (st' := [(0, 1)]) (h' := (G, ρ, (put q12 v0 5 (g_add (q12 v0 5) 1)))) hm rfl (cjc (gk_b g13) (cjc (gk_b g13) cjn)) ?_
  cases e
  cases hk
  exact Ex_ret (k := 2) hm rfl ⟨_, rfl, by decide, rfl⟩
theorem tf31_21 {G : Gg} {ρ : Rg} {rc : Nat → Nat → Int → Sg → Option (Int × Sg)} {d : Nat} {v0 : Nat} {v2 : Int} {v3 : Int} {m : Sg} {x : Int × Sg} (e : f31_21 G ρ rc v0 v2 v3 m = some x) (hd : 3 ≤ d) (hr : RHX G ρ rc d) (rr : Option MV × Mh) (hk : (Bi G ρ) x rr) (j1 : Int) : Ex d 31 21 [(2, ((v0 : Nat) : Int)), (0, j1), (0, v2), (0, v3)] [] (G, ρ, m) rr := by
  unfold f31_21 at e
  have hm := mi_31
  refine Ex_run 2 (i' := 23) (L' := [(2, ((v0 : Nat) : Int)), (0, j1), (0, v2), (0, v3)]) (st' := [(0, v3), (2, ((v0 : Nat) : Int))]) (h' := (G, ρ, m)) hm rfl cjn ?_
  by_cases c7 : v3 = 0
  · replace e := it_p e c7
    refine Ex_if1t (c := 0) (tgt := 30) hm rfl (bt0 c7) ?_
    obtain ⟨g8, e⟩ := gd_s e
    refine Ex_run 4 (i' := 34) (L' := [(2, ((v0 : Nat) : Int)), (0, j1), (0, v2), (0, v3)]) (st' := [(0, (m v0 5)), (2, (((ρ v0 3) : Nat) : Int)), (2, ((v0 : Nat) : Int))]) (h' := (G, ρ, m)) hm rfl (cjc (gk_b g8) (cjc (gk_b g8) cjn)) ?_
    obtain ⟨g9, e⟩ := gd_s e
    obtain ⟨q10, h10, e⟩ := bn_s e
    refine Ex_callm (z := 33) (na := 2) (ck := 6) (as := [(2, (((ρ v0 3) : Nat) : Int)), (0, (m v0 5))]) (rest := [(2, ((v0 : Nat) : Int))]) (E0 := [(2, (((ρ v0 3) : Nat) : Int)), (0, (m v0 5))]) (v := some (0, q10)) (h1 := (G, ρ, m)) hm rfl (by omega) ⟨Nat.le_of_ble_eq_true rfl, Nat.le_of_ble_eq_true rfl⟩ (rc2 rfl g9) rfl rfl ml_33 rfl (Nat.le_of_ble_eq_true rfl) (tf33 h10 (by omega)) ?_
    show Ex d 31 35 [(2, ((v0 : Nat) : Int)), (0, j1), (0, v2), (0, v3)] [(0, q10), (2, ((v0 : Nat) : Int))] (G, ρ, m) rr
    exact tf31_35 e hd hr rr hk _ _ _
  · replace e := it_n e c7
    refine Ex_if1f (c := 0) (tgt := 30) hm rfl (bf0 c7) ?_
    refine Ex_run 6 (i' := 35) (L' := [(2, ((v0 : Nat) : Int)), (0, j1), (0, v2), (0, v3)]) (st' := [(0, (g_sub (-1) (g_sub v2 8))), (2, ((v0 : Nat) : Int))]) (h' := (G, ρ, m)) hm rfl cjn ?_
    exact tf31_35 e hd hr rr hk _ _ _
theorem tf31_15 {G : Gg} {ρ : Rg} {rc : Nat → Nat → Int → Sg → Option (Int × Sg)} {d : Nat} {v0 : Nat} {v1 : Int} {v2 : Int} {w0 : Int} {m : Sg} {x : Int × Sg} (e : f31_15 G ρ rc v0 v1 v2 w0 m = some x) (hd : 3 ≤ d) (hr : RHX G ρ rc d) (rr : Option MV × Mh) (hk : (Bi G ρ) x rr) : Ex d 31 15 [(2, ((v0 : Nat) : Int)), (0, v1), (0, v2), (9, 0)] [(0, w0)] (G, ρ, m) rr := by
  unfold f31_15 at e
  have hm := mi_31
  refine Ex_run 2 (i' := 17) (L' := [(2, ((v0 : Nat) : Int)), (0, v1), (0, v2), (0, w0)]) (st' := [(0, w0)]) (h' := (G, ρ, m)) hm rfl (cjc (Nat.le_of_ble_eq_true rfl) cjn) ?_
  by_cases c5 : w0 = 0
  · replace e := it_p e c5
    refine Ex_if1f (c := 1) (tgt := 21) hm rfl (bf1 c5) ?_
    refine Ex_run 2 (i' := 20) (L' := [(2, ((v0 : Nat) : Int)), (0, v1), (0, v2), (0, w0)]) (st' := [(0, 2), (0, v2)]) (h' := (G, ρ, m)) hm rfl cjn ?_
    by_cases c6 : v2 = 2
    · replace e := it_p e c6
      refine Ex_if2f (c := 1) (tgt := 44) hm rfl (bf1 c6) ?_
      exact tf31_21 e hd hr rr hk _
    · replace e := it_n e c6
      refine Ex_if2t (c := 1) (tgt := 44) hm rfl (bt1 c6) ?_
      refine Ex_run 2 (i' := 46) (L' := [(2, ((v0 : Nat) : Int)), (0, v1), (0, v2), (0, w0)]) (st' := [(0, 5), (0, v1)]) (h' := (G, ρ, m)) hm rfl cjn ?_
      by_cases c14 : v1 < 5
      · replace e := it_p e c14
        refine Ex_if2t (c := 2) (tgt := 49) hm rfl (bt2 c14) ?_
        refine Ex_run 2 (i' := 51) (L' := [(2, ((v0 : Nat) : Int)), (0, v1), (0, v2), (0, w0)]) (st' := [(0, 45), (2, ((v0 : Nat) : Int))]) (h' := (G, ρ, m)) hm rfl cjn ?_
        obtain ⟨g15, e⟩ := gd_s e
        obtain ⟨q16, h16, e⟩ := bn_s e
        refine Ex_callm (z := 22) (na := 2) (ck := 5) (as := [(2, ((v0 : Nat) : Int)), (0, 45)]) (rest := []) (E0 := [(2, ((v0 : Nat) : Int)), (0, 45)]) (v := some (0, q16.1)) (h1 := (G, ρ, q16.2)) hm rfl (by omega) ⟨Nat.le_of_ble_eq_true rfl, Nat.le_of_ble_eq_true rfl⟩ (rc2 rfl g15) rfl rfl ml_22 rfl (Nat.le_of_ble_eq_true rfl) (tf22 h16 (by omega)) ?_
        show Ex d 31 52 [(2, ((v0 : Nat) : Int)), (0, v1), (0, v2), (0, w0)] [(0, q16.1)] (G, ρ, q16.2) rr
        by_cases c17 : q16.1 = 0
        · replace e := it_p e c17
          refine Ex_if1f (c := 1) (tgt := 71) hm rfl (bf1 c17) ?_
          refine Ex_run 2 (i' := 55) (L' := [(2, ((v0 : Nat) : Int)), (0, v1), (0, v2), (0, w0)]) (st' := [(0, 40), (2, ((v0 : Nat) : Int))]) (h' := (G, ρ, q16.2)) hm rfl cjn ?_
          obtain ⟨q18, h18, e⟩ := bn_s e
          refine Ex_callm (z := 22) (na := 2) (ck := 5) (as := [(2, ((v0 : Nat) : Int)), (0, 40)]) (rest := []) (E0 := [(2, ((v0 : Nat) : Int)), (0, 40)]) (v := some (0, q18.1)) (h1 := (G, ρ, q18.2)) hm rfl (by omega) ⟨Nat.le_of_ble_eq_true rfl, Nat.le_of_ble_eq_true rfl⟩ (rc2 rfl g15) rfl rfl ml_22 rfl (Nat.le_of_ble_eq_true rfl) (tf22 h18 (by omega)) ?_
          show Ex d 31 56 [(2, ((v0 : Nat) : Int)), (0, v1), (0, v2), (0, w0)] [(0, q18.1)] (G, ρ, q18.2) rr
          by_cases c19 : q18.1 = 0
          · replace e := it_p e c19
            refine Ex_if1t (c := 0) (tgt := 69) hm rfl (bt0 c19) ?_
            refine Ex_run 1 (i' := 70) (L' := [(2, ((v0 : Nat) : Int)), (0, v1), (0, v2), (0, w0)]) (st' := [(0, 0)]) (h' := (G, ρ, q18.2)) hm rfl cjn ?_
            cases e
            cases hk
            exact Ex_ret (k := 2) hm rfl ⟨_, rfl, by decide, rfl⟩
          · replace e := it_n e c19
            refine Ex_if1f (c := 0) (tgt := 69) hm rfl (bf0 c19) ?_
            refine Ex_run 4 (i' := 61) (L' := [(2, ((v0 : Nat) : Int)), (0, v1), (0, v2), (0, w0)]) (st' := [(0, (g_add v1 1)), (2, ((v0 : Nat) : Int))]) (h' := (G, ρ, q18.2)) hm rfl cjn ?_
            obtain ⟨q20, h20, e⟩ := bn_s e
            refine Ex_callm (z := 25) (na := 2) (ck := 5) (as := [(2, ((v0 : Nat) : Int)), (0, (g_add v1 1))]) (rest := []) (E0 := [(2, ((v0 : Nat) : Int)), (0, (g_add v1 1)), (9, 0)]) (v := some (0, q20.1)) (h1 := (G, ρ, q20.2)) hm rfl (by omega) ⟨Nat.le_of_ble_eq_true rfl, Nat.le_of_ble_eq_true rfl⟩ (rc2 rfl g15) rfl rfl ml_25 rfl (Nat.le_of_ble_eq_true rfl) (hr _ _ _ _ _ h20) ?_
            show Ex d 31 62 [(2, ((v0 : Nat) : Int)), (0, v1), (0, v2), (0, w0)] [(0, q20.1)] (G, ρ, q20.2) rr
            by_cases c21 : q20.1 = 0
            · replace e := it_p e c21
              refine Ex_if1t (c := 0) (tgt := 69) hm rfl (bt0 c21) ?_
              refine Ex_run 1 (i' := 70) (L' := [(2, ((v0 : Nat) : Int)), (0, v1), (0, v2), (0, w0)]) (st' := [(0, 0)]) (h' := (G, ρ, q20.2)) hm rfl cjn ?_
              cases e
              cases hk
              exact Ex_ret (k := 2) hm rfl ⟨_, rfl, by decide, rfl⟩
            · replace e := it_n e c21
              refine Ex_if1f (c := 0) (tgt := 69) hm rfl (bf0 c21) ?_
              refine Ex_run 2 (i' := 65) (L' := [(2, ((v0 : Nat) : Int)), (0, v1), (0, v2), (0, w0)]) (st' := [(0, 41), (2, ((v0 : Nat) : Int))]) (h' := (G, ρ, q20.2)) hm rfl cjn ?_
              obtain ⟨q22, h22, e⟩ := bn_s e
              refine Ex_callm (z := 22) (na := 2) (ck := 5) (as := [(2, ((v0 : Nat) : Int)), (0, 41)]) (rest := []) (E0 := [(2, ((v0 : Nat) : Int)), (0, 41)]) (v := some (0, q22.1)) (h1 := (G, ρ, q22.2)) hm rfl (by omega) ⟨Nat.le_of_ble_eq_true rfl, Nat.le_of_ble_eq_true rfl⟩ (rc2 rfl g15) rfl rfl ml_22 rfl (Nat.le_of_ble_eq_true rfl) (tf22 h22 (by omega)) ?_
              show Ex d 31 66 [(2, ((v0 : Nat) : Int)), (0, v1), (0, v2), (0, w0)] [(0, q22.1)] (G, ρ, q22.2) rr
              by_cases c23 : q22.1 = 0
              · replace e := it_p e c23
                refine Ex_if1t (c := 0) (tgt := 69) hm rfl (bt0 c23) ?_
                refine Ex_run 1 (i' := 70) (L' := [(2, ((v0 : Nat) : Int)), (0, v1), (0, v2), (0, w0)]) (st' := [(0, 0)]) (h' := (G, ρ, q22.2)) hm rfl cjn ?_
                cases e
                cases hk
                exact Ex_ret (k := 2) hm rfl ⟨_, rfl, by decide, rfl⟩
              · replace e := it_n e c23
                refine Ex_if1f (c := 0) (tgt := 69) hm rfl (bf0 c23) ?_
                refine Ex_run 2 (i' := 70) (L' := [(2, ((v0 : Nat) : Int)), (0, v1), (0, v2), (0, w0)]) (st' := [(0, 1)]) (h' := (G, ρ, q22.2)) hm rfl cjn ?_
                cases e
                cases hk
                exact Ex_ret (k := 2) hm rfl ⟨_, rfl, by decide, rfl⟩
        · replace e := it_n e c17
          refine Ex_if1t (c := 1) (tgt := 71) hm rfl (bt1 c17) ?_
          refine Ex_run 4 (i' := 75) (L' := [(2, ((v0 : Nat) : Int)), (0, v1), (0, v2), (0, w0)]) (st' := [(0, (g_add v1 1)), (2, ((v0 : Nat) : Int))]) (h' := (G, ρ, q16.2)) hm rfl cjn ?_
          obtain ⟨q24, h24, e⟩ := bn_s e
          refine Ex_callm (z := 31) (na := 2) (ck := 5) (as := [(2, ((v0 : Nat) : Int)), (0, (g_add v1 1))]) (rest := []) (E0 := [(2, ((v0 : Nat) : Int)), (0, (g_add v1 1)), (9, 0), (9, 0)]) (v := some (0, q24.1)) (h1 := (G, ρ, q24.2)) hm rfl (by omega) ⟨Nat.le_of_ble_eq_true rfl, Nat.le_of_ble_eq_true rfl⟩ (rc2 rfl g15) rfl rfl ml_31 rfl (Nat.le_of_ble_eq_true rfl) (hr _ _ _ _ _ h24) ?_
          show Ex d 31 76 [(2, ((v0 : Nat) : Int)), (0, v1), (0, v2), (0, w0)] [(0, q24.1)] (G, ρ, q24.2) rr
          by_cases c25 : q24.1 = 0
          · replace e := it_p e c25
            refine Ex_if1f (c := 1) (tgt := 79) hm rfl (bf1 c25) ?_
            refine Ex_run 1 (i' := 78) (L' := [(2, ((v0 : Nat) : Int)), (0, v1), (0, v2), (0, w0)]) (st' := [(0, 0)]) (h' := (G, ρ, q24.2)) hm rfl cjn ?_
            cases e
            cases hk
            exact Ex_ret (k := 2) hm rfl ⟨_, rfl, by decide, rfl⟩
          · replace e := it_n e c25
            refine Ex_if1t (c := 1) (tgt := 79) hm rfl (bt1 c25) ?_
            refine Ex_run 2 (i' := 81) (L' := [(2, ((v0 : Nat) : Int)), (0, v1), (0, v2), (0, w0)]) (st' := [(0, (-19)), (2, ((v0 : Nat) : Int))]) (h' := (G, ρ, q24.2)) hm rfl cjn ?_
            obtain ⟨q26, h26, e⟩ := bn_s e
            refine Ex_callm (z := 23) (na := 2) (ck := 5) (as := [(2, ((v0 : Nat) : Int)), (0, (-19))]) (rest := []) (E0 := [(2, ((v0 : Nat) : Int)), (0, (-19))]) (v := none) (h1 := (G, ρ, q26)) hm rfl (by omega) ⟨Nat.le_of_ble_eq_true rfl, Nat.le_of_ble_eq_true rfl⟩ (rc2 rfl g15) rfl rfl ml_23 rfl (Nat.le_of_ble_eq_true rfl) (tf23 h26 (by omega)) ?_
            show Ex d 31 82 [(2, ((v0 : Nat) : Int)), (0, v1), (0, v2), (0, w0)] [] (G, ρ, q26) rr
            refine Ex_run 1 (i' := 83) (L' := [(2, ((v0 : Nat) : Int)), (0, v1), (0, v2), (0, w0)]) (st' := [(0, 1)]) (h' := (G, ρ, q26)) hm rfl cjn ?_
            cases e
            cases hk
            exact Ex_ret (k := 2) hm rfl ⟨_, rfl, by decide, rfl⟩
      · replace e := it_n e c14
        refine Ex_if2f (c := 2) (tgt := 49) hm rfl (bf2 c14) ?_
        refine Ex_run 1 (i' := 48) (L' := [(2, ((v0 : Nat) : Int)), (0, v1), (0, v2), (0, w0)]) (st' := [(0, 0)]) (h' := (G, ρ, m)) hm rfl cjn ?_
        cases e
        cases hk
        exact Ex_ret (k := 2) hm rfl ⟨_, rfl, by decide, rfl⟩
  · replace e := it_n e c5
    refine Ex_if1t (c := 1) (tgt := 21) hm rfl (bt1 c5) ?_
    exact tf31_21 e hd hr rr hk _
