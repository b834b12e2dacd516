theorem tf77 {G : Gg} {ρ : Rg} {d : Nat} {v0 : Nat} {m : Sg} {x : Int} (e : f77 G ρ v0 m = some x) (hd : 4 ≤ d) : Ex d 77 0 [(2, ((v0 : Nat) : Int)), (9, 0), (9, 0)] [] (G, ρ, m) (some (0, x), (G, ρ, m)) := by
  unfold f77 at e
  have hm := mi_77
  generalize hk : (some (0, x), (G, ρ, m)) = rr
  replace hk : (Bpi G ρ m) x rr := hk.symm
  refine Ex_run 4 (i' := 4) (L' := [(2, ((v0 : Nat) : Int)), (0, 0), (0, 0)]) (st' := []) (h' := (G, ρ, m)) hm rfl (cjc (Nat.le_of_ble_eq_true rfl) (cjc (Nat.le_of_ble_eq_true rfl) cjn)) ?_
  exact (Ex_lp (A := e77_4 G ρ d v0 m ) (B := (Bpi G ρ m)) (fun s x e rr hk => tf77_b4 e hd rr hk) FU _ _ e rr hk)
theorem tf78_22 {G : Gg} {ρ : Rg} {d : Nat} {v0 : Nat} {v1 : Int} {v2 : Int} {v3 : Int} {v4 : Int} {m : Sg} {x : (Int × Sg) ⊕ (Int × Sg)} (e : f78_22 G ρ v0 v1 v2 v3 v4 m = some x) (hd : 4 ≤ d) (rr : Option MV × Mh) (hk : (DS (e78_10 G ρ d v0 v1 v2 v3) (Bi G ρ)) x rr) (j5 : MV) : Ex d 78 22 [(2, ((v0 : Nat) : Int)), (0, v1), (0, v2), (0, v3), (0, v4), j5, (9, 0)] [] (G, ρ, m) rr := by
  unfold f78_22 at e
  have hm := mi_78
  refine Ex_run 3 (i' := 25) (L' := [(2, ((v0 : Nat) : Int)), (0, v1), (0, v2), (0, v3), (0, v4), j5, (9, 0)]) (st' := [(0, v2), (0, v4), (2, ((v0 : Nat) : Int))]) (h' := (G, ρ, m)) hm rfl cjn ?_
  obtain ⟨g8, e⟩ := gd_s e
  obtain ⟨q9, h9, e⟩ := bn_s e
  refine Ex_callm (z := 67) (na := 3) (ck := 11) (as := [(2, ((v0 : Nat) : Int)), (0, v4), (0, v2)]) (rest := []) (E0 := [(2, ((v0 : Nat) : Int)), (0, v4), (0, v2)]) (v := some (0, q9)) (h1 := (G, ρ, m)) hm rfl (by omega) ⟨Nat.le_of_ble_eq_true rfl, Nat.le_of_ble_eq_true rfl⟩ (rc2 rfl g8) rfl rfl ml_67 rfl (Nat.le_of_ble_eq_true rfl) (tf67 h9 (by omega)) ?_
  show Ex d 78 26 [(2, ((v0 : Nat) : Int)), (0, v1), (0, v2), (0, v3), (0, v4), j5, (9, 0)] [(0, q9)] (G, ρ, m) rr
  by_cases c10 : q9 = 0
  · replace e := it_p e c10
    refine Ex_if1t (c := 0) (tgt := 28) hm rfl (bt0 c10) ?_
    refine Ex_run 4 (i' := 32) (L' := [(2, ((v0 : Nat) : Int)), (0, v1), (0, v2), (0, v3), (0, v4), j5, (9, 0)]) (st' := [(0, v2), (0, v4), (2, (((ρ v0 1) : Nat) : Int))]) (h' := (G, ρ, m)) hm rfl (cjc (gk_b g8) cjn) ?_
    obtain ⟨q11, h11, e⟩ := bn_s e
    refine Ex_callm (z := 79) (na := 2) (ck := 0) (as := [(0, v4), (0, v2)]) (rest := [(2, (((ρ v0 1) : Nat) : Int))]) (E0 := [(0, v4), (0, v2)]) (v := some (0, q11)) (h1 := (G, ρ, m)) hm rfl (by omega) ⟨Nat.le_of_ble_eq_true rfl, Nat.le_of_ble_eq_true rfl⟩ (trivial) rfl rfl ml_79 rfl (Nat.le_of_ble_eq_true rfl) (tf79 h11 (by omega)) ?_
    show Ex d 78 33 [(2, ((v0 : Nat) : Int)), (0, v1), (0, v2), (0, v3), (0, v4), j5, (9, 0)] [(0, q11), (2, (((ρ v0 1) : Nat) : Int))] (G, ρ, m) rr
    obtain ⟨g12, e⟩ := gd_s e
    obtain ⟨q13, h13, e⟩ := bn_s e
    refine Ex_callm (z := 33) (na := 2) (ck := 6) (as := [(2, (((ρ v0 1) : Nat) : Int)), (0, q11)]) (rest := []) (E0 := [(2, (((ρ v0 1) : Nat) : Int)), (0, q11)]) (v := some (0, q13)) (h1 := (G, ρ, m)) hm rfl (by omega) ⟨Nat.le_of_ble_eq_true rfl, Nat.le_of_ble_eq_true rfl⟩ (rc2 rfl g12) rfl rfl ml_33 rfl (Nat.le_of_ble_eq_true rfl) (tf33 h13 (by omega)) ?_
    show Ex d 78 34 [(2, ((v0 : Nat) : Int)), (0, v1), (0, v2), (0, v3), (0, v4), j5, (9, 0)] [(0, q13)] (G, ρ, m) rr
    refine Ex_run 7 (i' := 41) (L' := [(2, ((v0 : Nat) : Int)), (0, v1), (0, v2), (0, v3), (0, v4), (0, q13), (9, 0)]) (st' := [(0, q13), (2, (((ρ v0 8) : Nat) : Int)), (0, q13), (2, (((ρ v0 8) : Nat) : Int))]) (h' := (G, ρ, m)) hm rfl (cjc (Nat.le_of_ble_eq_true rfl) (cjc (gk_b g8) (cjc (gk_b g8) cjn))) ?_
    obtain ⟨g14, e⟩ := gd_s e
    obtain ⟨q15, h15, e⟩ := bn_s e
    refine Ex_callm (z := 33) (na := 2) (ck := 6) (as := [(2, (((ρ v0 8) : Nat) : Int)), (0, q13)]) (rest := [(0, q13), (2, (((ρ v0 8) : Nat) : Int))]) (E0 := [(2, (((ρ v0 8) : Nat) : Int)), (0, q13)]) (v := some (0, q15)) (h1 := (G, ρ, m)) hm rfl (by omega) ⟨Nat.le_of_ble_eq_true rfl, Nat.le_of_ble_eq_true rfl⟩ (rc2 rfl g14) rfl rfl ml_33 rfl (Nat.le_of_ble_eq_true rfl) (tf33 h15 (by omega)) ?_
    show Ex d 78 42 [(2, ((v0 : Nat) : Int)), (0, v1), (0, v2), (0, v3), (0, v4), (0, q13), (9, 0)] [(0, q15), (0, q13), (2, (((ρ v0 8) : Nat) : Int))] (G, ρ, m) rr
    refine Ex_run 2 (i' := 44) (L' := [(2, ((v0 : Nat) : Int)), (0, v1), (0, v2), (0, v3), (0, v4), (0, q13), (9, 0)]) (st' := [(0, (g_add q15 1)), (0, q13), (2, (((ρ v0 8) : Nat) : Int))]) (h' := (G, ρ, m)) hm rfl cjn ?_
    obtain ⟨q16, h16, e⟩ := bn_s e
    refine Ex_callm (z := 34) (na := 3) (ck := 6) (as := [(2, (((ρ v0 8) : Nat) : Int)), (0, q13), (0, (g_add q15 1))]) (rest := []) (E0 := [(2, (((ρ v0 8) : Nat) : Int)), (0, q13), (0, (g_add q15 1))]) (v := none) (h1 := (G, ρ, q16)) hm rfl (by omega) ⟨Nat.le_of_ble_eq_true rfl, Nat.le_of_ble_eq_true rfl⟩ (rc2 rfl g14) rfl rfl ml_34 rfl (Nat.le_of_ble_eq_true rfl) (tf34 h16 (by omega)) ?_
    show Ex d 78 45 [(2, ((v0 : Nat) : Int)), (0, v1), (0, v2), (0, v3), (0, v4), (0, q13), (9, 0)] [] (G, ρ, q16) rr
    refine Ex_run 2 (i' := 10) (L' := [(2, ((v0 : Nat) : Int)), (0, v1), (0, v2), (0, v3), (0, (w32 (v4 + 1))), (0, q13), (9, 0)]) (st' := []) (h' := (G, ρ, q16)) hm rfl cjn ?_
    cases e
    exact hk _
  · replace e := it_n e c10
    refine Ex_if1f (c := 0) (tgt := 28) hm rfl (bf0 c10) ?_
    refine Ex_run 3 (i' := 10) (L' := [(2, ((v0 : Nat) : Int)), (0, v1), (0, v2), (0, v3), (0, (w32 (v4 + 1))), j5, (9, 0)]) (st' := []) (h' := (G, ρ, m)) hm rfl cjn ?_
    cases e
    exact hk _
theorem tf78_64 {G : Gg} {ρ : Rg} {d : Nat} {v0 : Nat} {v4 : Int} {v5 : Int} {v6 : Int} {m : Sg} {x : (Int × Int × Int) ⊕ (Int × Sg)} (e : f78_64 G ρ v0 v4 v5 v6 m = some x) (hd : 4 ≤ d) (rr : Option MV × Mh) (hk : (DS (e78_53 G ρ d v0 m) (Bi G ρ)) x rr) (j1 : Int) (j2 : Int) (j3 : Int) : Ex d 78 64 [(2, ((v0 : Nat) : Int)), (0, j1), (0, j2), (0, j3), (0, v4), (0, v5), (0, v6)] [] (G, ρ, m) rr := by
  unfold f78_64 at e
  have hm := mi_78
  obtain ⟨g24, e⟩ := gd_s e
  refine Ex_run 4 (i' := 68) (L' := [(2, ((v0 : Nat) : Int)), (0, j1), (0, j2), (0, j3), (0, v4), (0, v5), (0, v6)]) (st' := [(0, v6), (2, (((ρ v0 8) : Nat) : Int)), (0, v4)]) (h' := (G, ρ, m)) hm rfl (cjc (gk_b g24) cjn) ?_
  obtain ⟨g25, e⟩ := gd_s e
  obtain ⟨q26, h26, e⟩ := bn_s e
  refine Ex_callm (z := 33) (na := 2) (ck := 6) (as := [(2, (((ρ v0 8) : Nat) : Int)), (0, v6)]) (rest := [(0, v4)]) (E0 := [(2, (((ρ v0 8) : Nat) : Int)), (0, v6)]) (v := some (0, q26)) (h1 := (G, ρ, m)) hm rfl (by omega) ⟨Nat.le_of_ble_eq_true rfl, Nat.le_of_ble_eq_true rfl⟩ (rc2 rfl g25) rfl rfl ml_33 rfl (Nat.le_of_ble_eq_true rfl) (tf33 h26 (by omega)) ?_
  show Ex d 78 69 [(2, ((v0 : Nat) : Int)), (0, j1), (0, j2), (0, j3), (0, v4), (0, v5), (0, v6)] [(0, q26), (0, v4)] (G, ρ, m) rr
  obtain ⟨q27, h27, e⟩ := bn_s e
  refine Ex_callm (z := 226) (na := 2) (ck := 0) (as := [(0, v4), (0, q26)]) (rest := []) (E0 := [(0, v4), (0, q26)]) (v := some (0, q27)) (h1 := (G, ρ, m)) hm rfl (by omega) ⟨Nat.le_of_ble_eq_true rfl, Nat.le_of_ble_eq_true rfl⟩ (trivial) rfl rfl ml_226 rfl (Nat.le_of_ble_eq_true rfl) (tf226 h27 (by omega)) ?_
  show Ex d 78 70 [(2, ((v0 : Nat) : Int)), (0, j1), (0, j2), (0, j3), (0, v4), (0, v5), (0, v6)] [(0, q27)] (G, ρ, m) rr
  refine Ex_run 4 (i' := 74) (L' := [(2, ((v0 : Nat) : Int)), (0, j1), (0, j2), (0, j3), (0, q27), (0, v5), (0, v6)]) (st' := [(0, v6), (2, (((ρ v0 8) : Nat) : Int))]) (h' := (G, ρ, m)) hm rfl (cjc (Nat.le_of_ble_eq_true rfl) (cjc (gk_b g24) cjn)) ?_
  obtain ⟨q28, h28, e⟩ := bn_s e
  refine Ex_callm (z := 33) (na := 2) (ck := 6) (as := [(2, (((ρ v0 8) : Nat) : Int)), (0, v6)]) (rest := []) (E0 := [(2, (((ρ v0 8) : Nat) : Int)), (0, v6)]) (v := some (0, q28)) (h1 := (G, ρ, m)) hm rfl (by omega) ⟨Nat.le_of_ble_eq_true rfl, Nat.le_of_ble_eq_true rfl⟩ (rc2 rfl g25) rfl rfl ml_33 rfl (Nat.le_of_ble_eq_true rfl) (tf33 h28 (by omega)) ?_
  show Ex d 78 75 [(2, ((v0 : Nat) : Int)), (0, j1), (0, j2), (0, j3), (0, q27), (0, v5), (0, v6)] [(0, q28)] (G, ρ, m) rr
  refine Ex_run 1 (i' := 76) (L' := [(2, ((v0 : Nat) : Int)), (0, j1), (0, j2), (0, j3), (0, q27), (0, v5), (0, v6)]) (st' := [(0, q27), (0, q28)]) (h' := (G, ρ, m)) hm rfl cjn ?_
  by_cases c29 : q28 = q27
  · replace e := it_p e c29
    refine Ex_if2f (c := 1) (tgt := 83) hm rfl (bf1 c29) ?_
    refine Ex_run 8 (i' := 53) (L' := [(2, ((v0 : Nat) : Int)), (0, j1), (0, j2), (0, j3), (0, q27), (0, (g_or v5 (g_shl 1 v6))), (0, (w32 (v6 + 1)))]) (st' := []) (h' := (G, ρ, m)) hm rfl (cjc (Nat.le_of_ble_eq_true rfl) cjn) ?_
    cases e
    exact hk _ _ _
  · replace e := it_n e c29
    refine Ex_if2t (c := 1) (tgt := 83) hm rfl (bt1 c29) ?_
    refine Ex_run 2 (i' := 53) (L' := [(2, ((v0 : Nat) : Int)), (0, j1), (0, j2), (0, j3), (0, q27), (0, v5), (0, (w32 (v6 + 1)))]) (st' := []) (h' := (G, ρ, m)) hm rfl cjn ?_
    cases e
    exact hk _ _ _
theorem tf78_b53 {G : Gg} {ρ : Rg} {d : Nat} {v0 : Nat} {m : Sg} {s : Int × Int × Int} {x : (Int × Int × Int) ⊕ (Int × Sg)} (e : f78_b53 G ρ v0 m s = some x) (hd : 4 ≤ d) (rr : Option MV × Mh) (hk : (DS (e78_53 G ρ d v0 m) (Bi G ρ)) x rr) : e78_53 G ρ d v0 m s rr := by
  unfold f78_b53 at e
  have hm := mi_78
  show ∀ (j1 : Int) (j2 : Int) (j3 : Int), Ex d 78 53 [(2, ((v0 : Nat) : Int)), (0, j1), (0, j2), (0, j3), (0, s.1), (0, s.2.1), (0, s.2.2)] [] (G, ρ, m) rr
  intro j1 j2 j3
  refine Ex_run 2 (i' := 55) (L' := [(2, ((v0 : Nat) : Int)), (0, j1), (0, j2), (0, j3), (0, s.1), (0, s.2.1), (0, s.2.2)]) (st' := [(0, 6), (0, s.2.2)]) (h' := (G, ρ, m)) hm rfl cjn ?_
  by_cases c19 : s.2.2 < 6
  · replace e := it_p e c19
    refine Ex_if2f (c := 3) (tgt := 85) hm rfl (bf3 c19) ?_
    obtain ⟨g20, e⟩ := gd_s e
    refine Ex_run 3 (i' := 59) (L' := [(2, ((v0 : Nat) : Int)), (0, j1), (0, j2), (0, j3), (0, s.1), (0, s.2.1), (0, s.2.2)]) (st' := [(0, s.2.2), (2, (((ρ v0 8) : Nat) : Int))]) (h' := (G, ρ, m)) hm rfl (cjc (gk_b g20) cjn) ?_
    obtain ⟨g21, e⟩ := gd_s e
    obtain ⟨q22, h22, e⟩ := bn_s e
    refine Ex_callm (z := 33) (na := 2) (ck := 6) (as := [(2, (((ρ v0 8) : Nat) : Int)), (0, s.2.2)]) (rest := []) (E0 := [(2, (((ρ v0 8) : Nat) : Int)), (0, s.2.2)]) (v := some (0, q22)) (h1 := (G, ρ, m)) hm rfl (by omega) ⟨Nat.le_of_ble_eq_true rfl, Nat.le_of_ble_eq_true rfl⟩ (rc2 rfl g21) rfl rfl ml_33 rfl (Nat.le_of_ble_eq_true rfl) (tf33 h22 (by omega)) ?_
    show Ex d 78 60 [(2, ((v0 : Nat) : Int)), (0, j1), (0, j2), (0, j3), (0, s.1), (0, s.2.1), (0, s.2.2)] [(0, q22)] (G, ρ, m) rr
    refine Ex_run 1 (i' := 61) (L' := [(2, ((v0 : Nat) : Int)), (0, j1), (0, j2), (0, j3), (0, s.1), (0, s.2.1), (0, s.2.2)]) (st' := [(0, s.1), (0, q22)]) (h' := (G, ρ, m)) hm rfl cjn ?_
    by_cases c23 : s.1 < q22
    · replace e := it_p e c23
      refine Ex_if2f (c := 5) (tgt := 64) hm rfl (bf5 c23) ?_
      refine Ex_run 2 (i' := 64) (L' := [(2, ((v0 : Nat) : Int)), (0, j1), (0, j2), (0, j3), (0, s.1), (0, 0), (0, s.2.2)]) (st' := []) (h' := (G, ρ, m)) hm rfl (cjc (Nat.le_of_ble_eq_true rfl) cjn) ?_
      exact tf78_64 e hd rr hk _ _ _
    · replace e := it_n e c23
      refine Ex_if2t (c := 5) (tgt := 64) hm rfl (bt5 c23) ?_
      exact tf78_64 e hd rr hk _ _ _
  · replace e := it_n e c19
    refine Ex_if2t (c := 3) (tgt := 85) hm rfl (bt3 c19) ?_
    obtain ⟨x, e, hx⟩ := xr_s e
    replace hk : (Bi G ρ) x rr := by rw [hx] at hk; exact hk
    refine Ex_run 1 (i' := 86) (L' := [(2, ((v0 : Nat) : Int)), (0, j1), (0, j2), (0, j3), (0, s.1), (0, s.2.1), (0, s.2.2)]) (st' := [(0, s.2.1)]) (h' := (G, ρ, m)) hm rfl cjn ?_
    cases e
    cases hk
    exact Ex_ret (k := 1) hm rfl ⟨_, rfl, rfl⟩
theorem tf78_b10 {G : Gg} {ρ : Rg} {d : Nat} {v0 : Nat} {v1 : Int} {v2 : Int} {v3 : Int} {s : Int × Sg} {x : (Int × Sg) ⊕ (Int × Sg)} (e : f78_b10 G ρ v0 v1 v2 v3 s = some x) (hd : 4 ≤ d) (rr : Option MV × Mh) (hk : (DS (e78_10 G ρ d v0 v1 v2 v3) (Bi G ρ)) x rr) : e78_10 G ρ d v0 v1 v2 v3 s rr := by
  unfold f78_b10 at e
  have hm := mi_78
  show ∀ (j5 : MV), Ex d 78 10 [(2, ((v0 : Nat) : Int)), (0, v1), (0, v2), (0, v3), (0, s.1), j5, (9, 0)] [] (G, ρ, s.2) rr
  intro j5
  obtain ⟨g5, e⟩ := gd_s e
  refine Ex_run 3 (i' := 13) (L' := [(2, ((v0 : Nat) : Int)), (0, v1), (0, v2), (0, v3), (0, s.1), j5, (9, 0)]) (st' := [(0, (s.2 v0 9)), (0, s.1)]) (h' := (G, ρ, s.2)) hm rfl (cjc (gk_b g5) cjn) ?_
  by_cases c6 : s.1 < (s.2 v0 9)
  · replace e := it_p e c6
    refine Ex_if2f (c := 3) (tgt := 47) hm rfl (bf3 c6) ?_
    refine Ex_run 2 (i' := 16) (L' := [(2, ((v0 : Nat) : Int)), (0, v1), (0, v2), (0, v3), (0, s.1), j5, (9, 0)]) (st' := [(0, v3), (0, s.1)]) (h' := (G, ρ, s.2)) hm rfl cjn ?_
    by_cases c7 : s.1 = v3
    · replace e := it_p e c7
      refine Ex_if2t (c := 0) (tgt := 22) hm rfl (bt0 c7) ?_
      exact tf78_22 e hd rr hk _
    · replace e := it_n e c7
      refine Ex_if2f (c := 0) (tgt := 22) hm rfl (bf0 c7) ?_
      refine Ex_run 2 (i' := 19) (L' := [(2, ((v0 : Nat) : Int)), (0, v1), (0, v2), (0, v3), (0, s.1), j5, (9, 0)]) (st' := [(0, s.1), (2, ((v0 : Nat) : Int))]) (h' := (G, ρ, s.2)) hm rfl cjn ?_
      obtain ⟨q17, h17, e⟩ := bn_s e
      refine Ex_callm (z := 74) (na := 2) (ck := 11) (as := [(2, ((v0 : Nat) : Int)), (0, s.1)]) (rest := []) (E0 := [(2, ((v0 : Nat) : Int)), (0, s.1), (9, 0), (9, 0), (9, 0), (9, 0)]) (v := some (0, q17)) (h1 := (G, ρ, s.2)) hm rfl (by omega) ⟨Nat.le_of_ble_eq_true rfl, Nat.le_of_ble_eq_true rfl⟩ (rc2 rfl g5) rfl rfl ml_74 rfl (Nat.le_of_ble_eq_true rfl) (tf74 h17 (by omega)) ?_
      show Ex d 78 20 [(2, ((v0 : Nat) : Int)), (0, v1), (0, v2), (0, v3), (0, s.1), j5, (9, 0)] [(0, q17)] (G, ρ, s.2) rr
      refine Ex_run 1 (i' := 21) (L' := [(2, ((v0 : Nat) : Int)), (0, v1), (0, v2), (0, v3), (0, s.1), j5, (9, 0)]) (st' := [(0, v1), (0, q17)]) (h' := (G, ρ, s.2)) hm rfl cjn ?_
      by_cases c18 : q17 = v1
      · replace e := it_p e c18
        refine Ex_if2f (c := 1) (tgt := 45) hm rfl (bf1 c18) ?_
        exact tf78_22 e hd rr hk _
      · replace e := it_n e c18
        refine Ex_if2t (c := 1) (tgt := 45) hm rfl (bt1 c18) ?_
        refine Ex_run 2 (i' := 10) (L' := [(2, ((v0 : Nat) : Int)), (0, v1), (0, v2), (0, v3), (0, (w32 (s.1 + 1))), j5, (9, 0)]) (st' := []) (h' := (G, ρ, s.2)) hm rfl cjn ?_
        cases e
        exact hk _
  · replace e := it_n e c6
    refine Ex_if2t (c := 3) (tgt := 47) hm rfl (bt3 c6) ?_
    obtain ⟨x, e, hx⟩ := xr_s e
    replace hk : (Bi G ρ) x rr := by rw [hx] at hk; exact hk
    refine Ex_run 6 (i' := 53) (L' := [(2, ((v0 : Nat) : Int)), (0, v1), (0, v2), (0, v3), (0, 0), (0, 0), (0, 0)]) (st' := []) (h' := (G, ρ, s.2)) hm rfl (cjc (Nat.le_of_ble_eq_true rfl) (cjc (Nat.le_of_ble_eq_true rfl) (cjc (Nat.le_of_ble_eq_true rfl) cjn))) ?_
    exact (Ex_lp (A := e78_53 G ρ d v0 s.2 ) (B := (Bi G ρ)) (fun s x e rr hk => tf78_b53 e hd rr hk) FU _ _ e rr hk) _ _ _
theorem tf78 {G : Gg} {ρ : Rg} {d : Nat} {v0 : Nat} {v1 : Int} {v2 : Int} {m : Sg} {x : Int × Sg} (e : f78 G ρ v0 v1 v2 m = some x) (hd : 4 ≤ d) : Ex d 78 0 [(2, ((v0 : Nat) : Int)), (0, v1), (0, v2), (9, 0), (9, 0), (9, 0), (9, 0)] [] (G, ρ, m) (some (0, x.1), (G, ρ, x.2)) := by
  unfold f78 at e
  have hm := mi_78
  generalize hk : (some (0, x.1), (G, ρ, x.2)) = rr
  replace hk : (Bi G ρ) x rr := hk.symm
  refine Ex_run 2 (i' := 2) (L' := [(2, ((v0 : Nat) : Int)), (0, v1), (0, v2), (9, 0), (9, 0), (9, 0), (9, 0)]) (st' := [(0, v1), (2, ((v0 : Nat) : Int))]) (h' := (G, ρ, m)) hm rfl cjn ?_
  obtain ⟨g1, e⟩ := gd_s e
  obtain ⟨q2, h2, e⟩ := bn_s e
  refine Ex_callm (z := 74) (na := 2) (ck := 11) (as := [(2, ((v0 : Nat) : Int)), (0, v1)]) (rest := []) (E0 := [(2, ((v0 : Nat) : Int)), (0, v1), (9, 0), (9, 0), (9, 0), (9, 0)]) (v := some (0, q2)) (h1 := (G, ρ, m)) hm rfl (by omega) ⟨Nat.le_of_ble_eq_true rfl, Nat.le_of_ble_eq_true rfl⟩ (rc2 rfl g1) rfl rfl ml_74 rfl (Nat.le_of_ble_eq_true rfl) (tf74 h2 (by omega)) ?_
  show Ex d 78 3 [(2, ((v0 : Nat) : Int)), (0, v1), (0, v2), (9, 0), (9, 0), (9, 0), (9, 0)] [(0, q2)] (G, ρ, m) rr
  refine Ex_run 4 (i' := 7) (L' := [(2, ((v0 : Nat) : Int)), (0, v1), (0, v2), (0, q2), (9, 0), (9, 0), (9, 0)]) (st' := [(0, 0), (2, (((ρ v0 8) : Nat) : Int))]) (h' := (G, ρ, m)) hm rfl (cjc (Nat.le_of_ble_eq_true rfl) (cjc (gk_b g1) cjn)) ?_
  obtain ⟨g3, e⟩ := gd_s e
  obtain ⟨q4, h4, e⟩ := bn_s e
  refine Ex_callm (z := 35) (na := 2) (ck := 6) (as := [(2, (((ρ v0 8) : Nat) : Int)), (0, 0)]) (rest := []) (E0 := [(2, (((ρ v0 8) : Nat) : Int)), (0, 0), (9, 0)]) (v := none) (h1 := (G, ρ, q4)) hm rfl (by omega) ⟨Nat.le_of_ble_eq_true rfl, Nat.le_of_ble_eq_true rfl⟩ (rc2 rfl g3) rfl rfl ml_35 rfl (Nat.le_of_ble_eq_true rfl) (tf35 h4 (by omega)) ?_
  show Ex d 78 8 [(2, ((v0 : Nat) : Int)), (0, v1), (0, v2), (0, q2), (9, 0), (9, 0), (9, 0)] [] (G, ρ, q4) rr
  refine Ex_run 2 (i' := 10) (L' := [(2, ((v0 : Nat) : Int)), (0, v1), (0, v2), (0, q2), (0, 0), (9, 0), (9, 0)]) (st' := []) (h' := (G, ρ, q4)) hm rfl (cjc (Nat.le_of_ble_eq_true rfl) cjn) ?_
  exact (Ex_lp (A := e78_10 G ρ d v0 v1 v2 q2 ) (B := (Bi G ρ)) (fun s x e rr hk => tf78_b10 e hd rr hk) FU _ _ e rr hk) _
theorem tf80_31 {d : Nat} {w0 : Int} {w1 : Nat} {h : Mh} {x : Mh} (e : f80_31 w0 w1 h = some x) (hd : 2 ≤ d) (rr : Option MV × Mh) (hk : Hv x rr) (j0 : Nat) : Ex d 80 31 [(2, ((j0 : Nat) : Int))] [(0, w0), (2, ((w1 : Nat) : Int))] h rr := by
  unfold f80_31 at e
  have hm := mi_80
  obtain ⟨g14, e⟩ := gd_s e
  refine Ex_run 1 (i' := 32) (L' := [(2, ((j0 : Nat) : Int))]) (st' := []) (h' := (h.1, h.2.1, (put h.2.2 w1 5 w0))) hm rfl (cjc (gk_b g14) cjn) ?_
  cases e
  cases hk
  exact Ex_ret (k := 0) hm rfl ⟨rfl, rfl⟩
theorem tf80 {d : Nat} {v0 : Nat} {h : Mh} {x : Mh} (e : f80 v0 h = some x) (hd : 2 ≤ d) : Ex d 80 0 [(2, ((v0 : Nat) : Int))] [] h (none, x) := by
  unfold f80 at e
  have hm := mi_80
  generalize hk : (none, x) = rr
  replace hk : Hv x rr := hk.symm
  refine Ex_run 1 (i' := 1) (L' := [(2, ((v0 : Nat) : Int))]) (st' := [(2, ((v0 : Nat) : Int))]) (h' := (h.1, h.2.1, h.2.2)) hm rfl cjn ?_
  obtain ⟨g1, e⟩ := gd_s e
  refine Ex_prim (k := 1) (i' := 2) (L' := [(2, ((v0 : Nat) : Int))]) (st' := []) (h' := (h.1, h.2.1, h.2.2)) hm rfl (by omega) rfl (cjc (nz_i g1) (cjc (Nat.le_of_ble_eq_true rfl) cjn)) ?_
  refine Ex_run 4 (i' := 6) (L' := [(2, ((v0 : Nat) : Int))]) (st' := [(0, 960), (2, (((List.length h.1) : Nat) : Int)), (2, (((List.length h.1) : Nat) : Int)), (2, ((v0 : Nat) : Int))]) (h' := ((h.1 ++ [(6, 1)]), (zapR h.2.1 (List.length h.1)), (zap h.2.2 (List.length h.1)))) hm rfl cjn ?_
  obtain ⟨g2, e⟩ := gd_s e
  obtain ⟨q3, h3, e⟩ := bn_s e
  refine Ex_callm (z := 32) (na := 2) (ck := 1) (as := [(2, (((List.length h.1) : Nat) : Int)), (0, 960)]) (rest := [(2, (((List.length h.1) : Nat) : Int)), (2, ((v0 : Nat) : Int))]) (E0 := [(2, (((List.length h.1) : Nat) : Int)), (0, 960)]) (v := none) (h1 := (q3.1, q3.2.1, q3.2.2)) hm rfl (by omega) ⟨Nat.le_of_ble_eq_true rfl, Nat.le_of_ble_eq_true rfl⟩ (⟨_, rfl, nz_i g2⟩) rfl rfl ml_32 rfl (Nat.le_of_ble_eq_true rfl) (tf32 h3 (by omega)) ?_
  show Ex d 80 7 [(2, ((v0 : Nat) : Int))] [(2, (((List.length h.1) : Nat) : Int)), (2, ((v0 : Nat) : Int))] (q3.1, q3.2.1, q3.2.2) rr
  obtain ⟨g4, e⟩ := gd_s e
  refine Ex_run 5 (i' := 12) (L' := [(2, ((v0 : Nat) : Int))]) (st' := [(0, 6), (2, (((List.length q3.1) : Nat) : Int)), (2, (((List.length q3.1) : Nat) : Int)), (2, ((v0 : Nat) : Int))]) (h' := ((q3.1 ++ [(6, 1)]), (zapR (putR q3.2.1 v0 0 (List.length h.1)) (List.length q3.1)), (zap q3.2.2 (List.length q3.1)))) hm rfl (cjc (gk_b g4) (cjc (nz_i g2) cjn)) ?_
  obtain ⟨g5, e⟩ := gd_s e
  obtain ⟨q6, h6, e⟩ := bn_s e
  refine Ex_callm (z := 32) (na := 2) (ck := 1) (as := [(2, (((List.length q3.1) : Nat) : Int)), (0, 6)]) (rest := [(2, (((List.length q3.1) : Nat) : Int)), (2, ((v0 : Nat) : Int))]) (E0 := [(2, (((List.length q3.1) : Nat) : Int)), (0, 6)]) (v := none) (h1 := (q6.1, q6.2.1, q6.2.2)) hm rfl (by omega) ⟨Nat.le_of_ble_eq_true rfl, Nat.le_of_ble_eq_true rfl⟩ (⟨_, rfl, nz_i g5⟩) rfl rfl ml_32 rfl (Nat.le_of_ble_eq_true rfl) (tf32 h6 (by omega)) ?_
  show Ex d 80 13 [(2, ((v0 : Nat) : Int))] [(2, (((List.length q3.1) : Nat) : Int)), (2, ((v0 : Nat) : Int))] (q6.1, q6.2.1, q6.2.2) rr
  obtain ⟨g7, e⟩ := gd_s e
  refine Ex_run 5 (i' := 18) (L' := [(2, ((v0 : Nat) : Int))]) (st' := [(0, 6), (2, (((List.length q6.1) : Nat) : Int)), (2, (((List.length q6.1) : Nat) : Int)), (2, ((v0 : Nat) : Int))]) (h' := ((q6.1 ++ [(6, 1)]), (zapR (putR q6.2.1 v0 1 (List.length q3.1)) (List.length q6.1)), (zap q6.2.2 (List.length q6.1)))) hm rfl (cjc (gk_b g7) (cjc (nz_i g5) cjn)) ?_
  obtain ⟨g8, e⟩ := gd_s e
  obtain ⟨q9, h9, e⟩ := bn_s e
  refine Ex_callm (z := 32) (na := 2) (ck := 1) (as := [(2, (((List.length q6.1) : Nat) : Int)), (0, 6)]) (rest := [(2, (((List.length q6.1) : Nat) : Int)), (2, ((v0 : Nat) : Int))]) (E0 := [(2, (((List.length q6.1) : Nat) : Int)), (0, 6)]) (v := none) (h1 := (q9.1, q9.2.1, q9.2.2)) hm rfl (by omega) ⟨Nat.le_of_ble_eq_true rfl, Nat.le_of_ble_eq_true rfl⟩ (⟨_, rfl, nz_i g8⟩) rfl rfl ml_32 rfl (Nat.le_of_ble_eq_true rfl) (tf32 h9 (by omega)) ?_
  show Ex d 80 19 [(2, ((v0 : Nat) : Int))] [(2, (((List.length q6.1) : Nat) : Int)), (2, ((v0 : Nat) : Int))] (q9.1, q9.2.1, q9.2.2) rr
  obtain ⟨g10, e⟩ := gd_s e
  refine Ex_run 5 (i' := 24) (L' := [(2, ((v0 : Nat) : Int))]) (st' := [(0, 160), (2, (((List.length q9.1) : Nat) : Int)), (2, (((List.length q9.1) : Nat) : Int)), (2, ((v0 : Nat) : Int))]) (h' := ((q9.1 ++ [(6, 1)]), (zapR (putR q9.2.1 v0 2 (List.length q6.1)) (List.length q9.1)), (zap q9.2.2 (List.length q9.1)))) hm rfl (cjc (gk_b g10) (cjc (nz_i g8) cjn)) ?_
  obtain ⟨g11, e⟩ := gd_s e
  obtain ⟨q12, h12, e⟩ := bn_s e
  refine Ex_callm (z := 32) (na := 2) (ck := 1) (as := [(2, (((List.length q9.1) : Nat) : Int)), (0, 160)]) (rest := [(2, (((List.length q9.1) : Nat) : Int)), (2, ((v0 : Nat) : Int))]) (E0 := [(2, (((List.length q9.1) : Nat) : Int)), (0, 160)]) (v := none) (h1 := (q12.1, q12.2.1, q12.2.2)) hm rfl (by omega) ⟨Nat.le_of_ble_eq_true rfl, Nat.le_of_ble_eq_true rfl⟩ (⟨_, rfl, nz_i g11⟩) rfl rfl ml_32 rfl (Nat.le_of_ble_eq_true rfl) (tf32 h12 (by omega)) ?_
  show Ex d 80 25 [(2, ((v0 : Nat) : Int))] [(2, (((List.length q9.1) : Nat) : Int)), (2, ((v0 : Nat) : Int))] (q12.1, q12.2.1, q12.2.2) rr
  obtain ⟨g13, e⟩ := gd_s e
  refine Ex_run 6 (i' := 31) (L' := [(2, ((v0 : Nat) : Int))]) (st' := [(0, 0), (2, ((v0 : Nat) : Int))]) (h' := (q12.1, (putR q12.2.1 v0 3 (List.length q9.1)), (put q12.2.2 v0 4 0))) hm rfl (cjc (gk_b g13) (cjc (nz_i g11) (cjc (gk_b g13) cjn))) ?_
  exact tf80_31 e hd rr hk _
theorem tf81_b5 {G : Gg} {ρ : Rg} {d : Nat} {v0 : Nat} {v1 : Nat} {v2 : Int} {s : Int × Sg} {x : (Int × Sg) ⊕ (Int × Sg)} (e : f81_b5 G ρ v0 v1 v2 s = some x) (hd : 1 ≤ d) (rr : Option MV × Mh) (hk : (DS (e81_5 G ρ d v0 v1 v2) (Bi G ρ)) x rr) : e81_5 G ρ d v0 v1 v2 s rr := by
  unfold f81_b5 at e
  have hm := mi_81
  show Ex d 81 5 [(2, ((v0 : Nat) : Int)), (2, ((v1 : Nat) : Int)), (0, v2), (0, s.1)] [] (G, ρ, s.2) rr
  obtain ⟨g2, e⟩ := gd_s e
  refine Ex_run 3 (i' := 8) (L' := [(2, ((v0 : Nat) : Int)), (2, ((v1 : Nat) : Int)), (0, v2), (0, s.1)]) (st' := [(0, (s.2 v1 7)), (0, s.1)]) (h' := (G, ρ, s.2)) hm rfl (cjc (gk_b g2) cjn) ?_
  by_cases c3 : s.1 < (s.2 v1 7)
  · replace e := it_p e c3
    refine Ex_if2f (c := 3) (tgt := 23) hm rfl (bf3 c3) ?_
    obtain ⟨g4, e⟩ := gd_s e
    refine Ex_run 10 (i' := 19) (L' := [(2, ((v0 : Nat) : Int)), (2, ((v1 : Nat) : Int)), (0, v2), (0, s.1)]) (st' := [(0, s.1), (2, (((ρ v1 6) : Nat) : Int)), (0, (g_add (g_mul v2 160) s.1)), (2, (((ρ v0 0) : Nat) : Int))]) (h' := (G, ρ, s.2)) hm rfl (cjc (gk_b g4) (cjc (gk_b g2) cjn)) ?_
    obtain ⟨g5, e⟩ := gd_s e
    obtain ⟨q6, h6, e⟩ := bn_s e
    refine Ex_callm (z := 33) (na := 2) (ck := 6) (as := [(2, (((ρ v1 6) : Nat) : Int)), (0, s.1)]) (rest := [(0, (g_add (g_mul v2 160) s.1)), (2, (((ρ v0 0) : Nat) : Int))]) (E0 := [(2, (((ρ v1 6) : Nat) : Int)), (0, s.1)]) (v := some (0, q6)) (h1 := (G, ρ, s.2)) hm rfl (by omega) ⟨Nat.le_of_ble_eq_true rfl, Nat.le_of_ble_eq_true rfl⟩ (rc2 rfl g5) rfl rfl ml_33 rfl (Nat.le_of_ble_eq_true rfl) (tf33 h6 (by omega)) ?_
    show Ex d 81 20 [(2, ((v0 : Nat) : Int)), (2, ((v1 : Nat) : Int)), (0, v2), (0, s.1)] [(0, q6), (0, (g_add (g_mul v2 160) s.1)), (2, (((ρ v0 0) : Nat) : Int))] (G, ρ, s.2) rr
    obtain ⟨g7, e⟩ := gd_s e
    obtain ⟨q8, h8, e⟩ := bn_s e
    refine Ex_callm (z := 34) (na := 3) (ck := 6) (as := [(2, (((ρ v0 0) : Nat) : Int)), (0, (g_add (g_mul v2 160) s.1)), (0, q6)]) (rest := []) (E0 := [(2, (((ρ v0 0) : Nat) : Int)), (0, (g_add (g_mul v2 160) s.1)), (0, q6)]) (v := none) (h1 := (G, ρ, q8)) hm rfl (by omega) ⟨Nat.le_of_ble_eq_true rfl, Nat.le_of_ble_eq_true rfl⟩ (rc2 rfl g7) rfl rfl ml_34 rfl (Nat.le_of_ble_eq_true rfl) (tf34 h8 (by omega)) ?_
    show Ex d 81 21 [(2, ((v0 : Nat) : Int)), (2, ((v1 : Nat) : Int)), (0, v2), (0, s.1)] [] (G, ρ, q8) rr
    refine Ex_run 2 (i' := 5) (L' := [(2, ((v0 : Nat) : Int)), (2, ((v1 : Nat) : Int)), (0, v2), (0, (w32 (s.1 + 1)))]) (st' := []) (h' := (G, ρ, q8)) hm rfl cjn ?_
    cases e
    exact hk
  · replace e := it_n e c3
    refine Ex_if2t (c := 3) (tgt := 23) hm rfl (bt3 c3) ?_
    obtain ⟨x, e, hx⟩ := xr_s e
    replace hk : (Bi G ρ) x rr := by rw [hx] at hk; exact hk
    obtain ⟨g9, e⟩ := gd_s e
    refine Ex_run 5 (i' := 28) (L' := [(2, ((v0 : Nat) : Int)), (2, ((v1 : Nat) : Int)), (0, v2), (0, s.1)]) (st' := [(0, (s.2 v1 7)), (0, v2), (2, (((ρ v0 1) : Nat) : Int))]) (h' := (G, ρ, s.2)) hm rfl (cjc (gk_b g9) (cjc (gk_b g2) cjn)) ?_
    obtain ⟨g10, e⟩ := gd_s e
    obtain ⟨q11, h11, e⟩ := bn_s e
    refine Ex_callm (z := 34) (na := 3) (ck := 6) (as := [(2, (((ρ v0 1) : Nat) : Int)), (0, v2), (0, (s.2 v1 7))]) (rest := []) (E0 := [(2, (((ρ v0 1) : Nat) : Int)), (0, v2), (0, (s.2 v1 7))]) (v := none) (h1 := (G, ρ, q11)) hm rfl (by omega) ⟨Nat.le_of_ble_eq_true rfl, Nat.le_of_ble_eq_true rfl⟩ (rc2 rfl g10) rfl rfl ml_34 rfl (Nat.le_of_ble_eq_true rfl) (tf34 h11 (by omega)) ?_
    show Ex d 81 29 [(2, ((v0 : Nat) : Int)), (2, ((v1 : Nat) : Int)), (0, v2), (0, s.1)] [] (G, ρ, q11) rr
    refine Ex_run 5 (i' := 34) (L' := [(2, ((v0 : Nat) : Int)), (2, ((v1 : Nat) : Int)), (0, v2), (0, s.1)]) (st' := [(0, (q11 v1 8)), (0, v2), (2, (((ρ v0 2) : Nat) : Int))]) (h' := (G, ρ, q11)) hm rfl (cjc (gk_b g9) (cjc (gk_b g2) cjn)) ?_
    obtain ⟨g12, e⟩ := gd_s e
    obtain ⟨q13, h13, e⟩ := bn_s e
    refine Ex_callm (z := 34) (na := 3) (ck := 6) (as := [(2, (((ρ v0 2) : Nat) : Int)), (0, v2), (0, (q11 v1 8))]) (rest := []) (E0 := [(2, (((ρ v0 2) : Nat) : Int)), (0, v2), (0, (q11 v1 8))]) (v := none) (h1 := (G, ρ, q13)) hm rfl (by omega) ⟨Nat.le_of_ble_eq_true rfl, Nat.le_of_ble_eq_true rfl⟩ (rc2 rfl g12) rfl rfl ml_34 rfl (Nat.le_of_ble_eq_true rfl) (tf34 h13 (by omega)) ?_
    show Ex d 81 35 [(2, ((v0 : Nat) : Int)), (2, ((v1 : Nat) : Int)), (0, v2), (0, s.1)] [] (G, ρ, q13) rr
    refine Ex_run 7 (i' := 42) (L' := [(2, ((v0 : Nat) : Int)), (2, ((v1 : Nat) : Int)), (0, v2), (0, s.1)]) (st' := [(0, v2)]) (h' := (G, ρ, (put q13 v0 5 (g_add (q13 v0 5) 1)))) hm rfl (cjc (gk_b g9) (cjc (gk_b g9) cjn)) ?_
    cases e
    cases hk
    exact Ex_ret (k := 1) hm rfl ⟨_, rfl, rfl⟩
theorem tf81 {G : Gg} {ρ : Rg} {d : Nat} {v0 : Nat} {v1 : Nat} {m : Sg} {x : Int × Sg} (e : f81 G ρ v0 v1 m = some x) (hd : 1 ≤ d) : Ex d 81 0 [(2, ((v0 : Nat) : Int)), (2, ((v1 : Nat) : Int)), (9, 0), (9, 0)] [] (G, ρ, m) (some (0, x.1), (G, ρ, x.2)) := by
  unfold f81 at e
  have hm := mi_81
  generalize hk : (some (0, x.1), (G, ρ, x.2)) = rr
  replace hk : (Bi G ρ) x rr := hk.symm
  obtain ⟨g1, e⟩ := gd_s e
  refine Ex_run 5 (i' := 5) (L' := [(2, ((v0 : Nat) : Int)), (2, ((v1 : Nat) : Int)), (0, (m v0 5)), (0, 0)]) (st' := []) (h' := (G, ρ, m)) hm rfl (cjc (gk_b g1) (cjc (Nat.le_of_ble_eq_true rfl) (cjc (Nat.le_of_ble_eq_true rfl) cjn))) ?_
  exact (Ex_lp (A := e81_5 G ρ d v0 v1 (m v0 5) ) (B := (Bi G ρ)) (fun s x e rr hk => tf81_b5 e hd rr hk) FU _ _ e rr hk)
theorem tf84 {G : Gg} {ρ : Rg} {d : Nat} {v0 : Nat} {v1 : Int} {m : Sg} {x : Sg} (e : f84 G ρ v0 v1 m = some x) (hd : 1 ≤ d) : Ex d 84 0 [(2, ((v0 : Nat) : Int)), (0, v1)] [] (G, ρ, m) (none, (G, ρ, x)) := by
  unfold f84 at e
  have hm := mi_84
  generalize hk : (none, (G, ρ, x)) = rr
  replace hk : (Bv G ρ) x rr := hk.symm
  obtain ⟨g1, e⟩ := gd_s e
  refine Ex_run 5 (i' := 5) (L' := [(2, ((v0 : Nat) : Int)), (0, v1)]) (st' := [(0, v1), (0, (m v0 4)), (2, (((ρ v0 3) : Nat) : Int))]) (h' := (G, ρ, m)) hm rfl (cjc (gk_b g1) (cjc (gk_b g1) cjn)) ?_
  obtain ⟨g2, e⟩ := gd_s e
  obtain ⟨q3, h3, e⟩ := bn_s e
  refine Ex_callm (z := 34) (na := 3) (ck := 6) (as := [(2, (((ρ v0 3) : Nat) : Int)), (0, (m v0 4)), (0, v1)]) (rest := []) (E0 := [(2, (((ρ v0 3) : Nat) : Int)), (0, (m v0 4)), (0, v1)]) (v := none) (h1 := (G, ρ, q3)) hm rfl (by omega) ⟨Nat.le_of_ble_eq_true rfl, Nat.le_of_ble_eq_true rfl⟩ (rc2 rfl g2) rfl rfl ml_34 rfl (Nat.le_of_ble_eq_true rfl) (tf34 h3 (by omega)) ?_
  show Ex d 84 6 [(2, ((v0 : Nat) : Int)), (0, v1)] [] (G, ρ, q3) rr
  refine Ex_run 6 (i' := 12) (L' := [(2, ((v0 : Nat) : Int)), (0, v1)]) (st' := []) (h' := (G, ρ, (put q3 v0 4 (g_add (q3 v0 4) 1)))) hm rfl (cjc (gk_b g1) (cjc (gk_b g1) cjn)) ?_
  cases e
  cases hk
  exact Ex_ret (k := 0) hm rfl ⟨rfl, rfl⟩
theorem tf85 {G : Gg} {ρ : Rg} {d : Nat} {v0 : Nat} {m : Sg} {x : Int × Sg} (e : f85 G ρ v0 m = some x) (hd : 1 ≤ d) : Ex d 85 0 [(2, ((v0 : Nat) : Int))] [] (G, ρ, m) (some (0, x.1), (G, ρ, x.2)) := by
  unfold f85 at e
  have hm := mi_85
  generalize hk : (some (0, x.1), (G, ρ, x.2)) = rr
  replace hk : (Bi G ρ) x rr := hk.symm
  obtain ⟨g1, e⟩ := gd_s e
  refine Ex_run 2 (i' := 2) (L' := [(2, ((v0 : Nat) : Int))]) (st' := [(0, (m v0 4))]) (h' := (G, ρ, m)) hm rfl (cjc (gk_b g1) cjn) ?_
  by_cases c2 : 0 < (m v0 4)
  · replace e := it_p e c2
    refine Ex_if1t (c := 4) (tgt := 5) hm rfl (bt4 c2) ?_
    refine Ex_run 10 (i' := 15) (L' := [(2, ((v0 : Nat) : Int))]) (st' := [(0, ((put m v0 4 (g_sub (m v0 4) 1)) v0 4)), (2, (((ρ v0 3) : Nat) : Int))]) (h' := (G, ρ, (put m v0 4 (g_sub (m v0 4) 1)))) hm rfl (cjc (gk_b g1) (cjc (gk_b g1) (cjc (gk_b g1) (cjc (gk_b g1) cjn)))) ?_
    obtain ⟨g3, e⟩ := gd_s e
    obtain ⟨q4, h4, e⟩ := bn_s e
    refine Ex_callm (z := 33) (na := 2) (ck := 6) (as := [(2, (((ρ v0 3) : Nat) : Int)), (0, ((put m v0 4 (g_sub (m v0 4) 1)) v0 4))]) (rest := []) (E0 := [(2, (((ρ v0 3) : Nat) : Int)), (0, ((put m v0 4 (g_sub (m v0 4) 1)) v0 4))]) (v := some (0, q4)) (h1 := (G, ρ, (put m v0 4 (g_sub (m v0 4) 1)))) hm rfl (by omega) ⟨Nat.le_of_ble_eq_true rfl, Nat.le_of_ble_eq_true rfl⟩ (rc2 rfl g3) rfl rfl ml_33 rfl (Nat.le_of_ble_eq_true rfl) (tf33 h4 (by omega)) ?_
    show Ex d 85 16 [(2, ((v0 : Nat) : Int))] [(0, q4)] (G, ρ, (put m v0 4 (g_sub (m v0 4) 1))) rr
    cases e
    cases hk
    exact Ex_ret (k := 1) hm rfl ⟨_, rfl, rfl⟩
  · replace e := it_n e c2
    refine Ex_if1f (c := 4) (tgt := 5) hm rfl (bf4 c2) ?_
    refine Ex_run 1 (i' := 4) (L' := [(2, ((v0 : Nat) : Int))]) (st' := [(0, 0)]) (h' := (G, ρ, m)) hm rfl cjn ?_
    cases e
    cases hk
    exact Ex_ret (k := 1) hm rfl ⟨_, rfl, rfl⟩
theorem tf83_44 {G : Gg} {ρ : Rg} {d : Nat} {w0 : Int} {w1 : Nat} {m : Sg} {x : Sg} (e : f83_44 G ρ w0 w1 m = some x) (hd : 2 ≤ d) (rr : Option MV × Mh) (hk : (Bv G ρ) x rr) (j0 : Nat) (j1 : Int) (j2 : Int) (j3 : Int) : Ex d 83 44 [(2, ((j0 : Nat) : Int)), (0, j1), (0, j2), (0, j3)] [(0, w0), (2, ((w1 : Nat) : Int))] (G, ρ, m) rr := by
  unfold f83_44 at e
  have hm := mi_83
  obtain ⟨g10, e⟩ := gd_s e
  obtain ⟨q11, h11, e⟩ := bn_s e
  refine Ex_callm (z := 84) (na := 2) (ck := 12) (as := [(2, ((w1 : Nat) : Int)), (0, w0)]) (rest := []) (E0 := [(2, ((w1 : Nat) : Int)), (0, w0)]) (v := none) (h1 := (G, ρ, q11)) hm rfl (by omega) ⟨Nat.le_of_ble_eq_true rfl, Nat.le_of_ble_eq_true rfl⟩ (rc2 rfl g10) rfl rfl ml_84 rfl (Nat.le_of_ble_eq_true rfl) (tf84 h11 (by omega)) ?_
  show Ex d 83 45 [(2, ((j0 : Nat) : Int)), (0, j1), (0, j2), (0, j3)] [] (G, ρ, q11) rr
  refine Ex_run 1 (i' := 63) (L' := [(2, ((j0 : Nat) : Int)), (0, j1), (0, j2), (0, j3)]) (st' := []) (h' := (G, ρ, q11)) hm rfl cjn ?_
  cases e
  cases hk
  exact Ex_ret (k := 0) hm rfl ⟨rfl, rfl⟩
theorem tf83_35 {G : Gg} {ρ : Rg} {d : Nat} {w0 : Int} {w1 : Nat} {m : Sg} {x : Sg} (e : f83_35 G ρ w0 w1 m = some x) (hd : 2 ≤ d) (rr : Option MV × Mh) (hk : (Bv G ρ) x rr) (j0 : Nat) (j1 : Int) (j2 : Int) (j3 : Int) : Ex d 83 35 [(2, ((j0 : Nat) : Int)), (0, j1), (0, j2), (0, j3)] [(0, w0), (2, ((w1 : Nat) : Int))] (G, ρ, m) rr := by
  unfold f83_35 at e
  have hm := mi_83
  obtain ⟨g14, e⟩ := gd_s e
  obtain ⟨q15, h15, e⟩ := bn_s e
  refine Ex_callm (z := 84) (na := 2) (ck := 12) (as := [(2, ((w1 : Nat) : Int)), (0, w0)]) (rest := []) (E0 := [(2, ((w1 : Nat) : Int)), (0, w0)]) (v := none) (h1 := (G, ρ, q15)) hm rfl (by omega) ⟨Nat.le_of_ble_eq_true rfl, Nat.le_of_ble_eq_true rfl⟩ (rc2 rfl g14) rfl rfl ml_84 rfl (Nat.le_of_ble_eq_true rfl) (tf84 h15 (by omega)) ?_
  show Ex d 83 36 [(2, ((j0 : Nat) : Int)), (0, j1), (0, j2), (0, j3)] [] (G, ρ, q15) rr
  refine Ex_run 1 (i' := 63) (L' := [(2, ((j0 : Nat) : Int)), (0, j1), (0, j2), (0, j3)]) (st' := []) (h' := (G, ρ, q15)) hm rfl cjn ?_
  cases e
  cases hk
  exact Ex_ret (k := 0) hm rfl ⟨rfl, rfl⟩
theorem tf83_26 {G : Gg} {ρ : Rg} {d : Nat} {w0 : Int} {w1 : Nat} {m : Sg} {x : Sg} (e : f83_26 G ρ w0 w1 m = some x) (hd : 2 ≤ d) (rr : Option MV × Mh) (hk : (Bv G ρ) x rr) (j0 : Nat) (j1 : Int) (j2 : Int) (j3 : Int) : Ex d 83 26 [(2, ((j0 : Nat) : Int)), (0, j1), (0, j2), (0, j3)] [(0, w0), (2, ((w1 : Nat) : Int))] (G, ρ, m) rr := by
  unfold f83_26 at e
  have hm := mi_83
  obtain ⟨g18, e⟩ := gd_s e
  obtain ⟨q19, h19, e⟩ := bn_s e
  refine Ex_callm (z := 84) (na := 2) (ck := 12) (as := [(2, ((w1 : Nat) : Int)), (0, w0)]) (rest := []) (E0 := [(2, ((w1 : Nat) : Int)), (0, w0)]) (v := none) (h1 := (G, ρ, q19)) hm rfl (by omega) ⟨Nat.le_of_ble_eq_true rfl, Nat.le_of_ble_eq_true rfl⟩ (rc2 rfl g18) rfl rfl ml_84 rfl (Nat.le_of_ble_eq_true rfl) (tf84 h19 (by omega)) ?_
  show Ex d 83 27 [(2, ((j0 : Nat) : Int)), (0, j1), (0, j2), (0, j3)] [] (G, ρ, q19) rr
  refine Ex_run 1 (i' := 63) (L' := [(2, ((j0 : Nat) : Int)), (0, j1), (0, j2), (0, j3)]) (st' := []) (h' := (G, ρ, q19)) hm rfl cjn ?_
  cases e
  cases hk
  exact Ex_ret (k := 0) hm rfl ⟨rfl, rfl⟩
theorem tf83_16 {G : Gg} {ρ : Rg} {d : Nat} {w0 : Int} {w1 : Nat} {m : Sg} {x : Sg} (e : f83_16 G ρ w0 w1 m = some x) (hd : 2 ≤ d) (rr : Option MV × Mh) (hk : (Bv G ρ) x rr) (j0 : Nat) (j1 : Int) (j2 : Int) (j3 : Int) : Ex d 83 16 [(2, ((j0 : Nat) : Int)), (0, j1), (0, j2), (0, j3)] [(0, w0), (2, ((w1 : Nat) : Int))] (G, ρ, m) rr := by
  unfold f83_16 at e
  have hm := mi_83
  obtain ⟨g24, e⟩ := gd_s e
  obtain ⟨q25, h25, e⟩ := bn_s e
  refine Ex_callm (z := 84) (na := 2) (ck := 12) (as := [(2, ((w1 : Nat) : Int)), (0, w0)]) (rest := []) (E0 := [(2, ((w1 : Nat) : Int)), (0, w0)]) (v := none) (h1 := (G, ρ, q25)) hm rfl (by omega) ⟨Nat.le_of_ble_eq_true rfl, Nat.le_of_ble_eq_true rfl⟩ (rc2 rfl g24) rfl rfl ml_84 rfl (Nat.le_of_ble_eq_true rfl) (tf84 h25 (by omega)) ?_
  show Ex d 83 17 [(2, ((j0 : Nat) : Int)), (0, j1), (0, j2), (0, j3)] [] (G, ρ, q25) rr
  refine Ex_run 1 (i' := 63) (L' := [(2, ((j0 : Nat) : Int)), (0, j1), (0, j2), (0, j3)]) (st' := []) (h' := (G, ρ, q25)) hm rfl cjn ?_
  cases e
  cases hk
  exact Ex_ret (k := 0) hm rfl ⟨rfl, rfl⟩
theorem tf83 {G : Gg} {ρ : Rg} {d : Nat} {v0 : Nat} {v1 : Int} {m : Sg} {x : Sg} (e : f83 G ρ v0 v1 m = some x) (hd : 2 ≤ d) : Ex d 83 0 [(2, ((v0 : Nat) : Int)), (0, v1), (9, 0), (9, 0)] [] (G, ρ, m) (none, (G, ρ, x)) := by
  unfold f83 at e
  have hm := mi_83
  generalize hk : (none, (G, ρ, x)) = rr
  replace hk : (Bv G ρ) x rr := hk.symm
  refine Ex_run 1 (i' := 1) (L' := [(2, ((v0 : Nat) : Int)), (0, v1), (9, 0), (9, 0)]) (st' := [(2, ((v0 : Nat) : Int))]) (h' := (G, ρ, m)) hm rfl cjn ?_
  obtain ⟨g1, e⟩ := gd_s e
  obtain ⟨q2, h2, e⟩ := bn_s e
  refine Ex_callm (z := 85) (na := 1) (ck := 12) (as := [(2, ((v0 : Nat) : Int))]) (rest := []) (E0 := [(2, ((v0 : Nat) : Int))]) (v := some (0, q2.1)) (h1 := (G, ρ, q2.2)) hm rfl (by omega) ⟨Nat.le_of_ble_eq_true rfl, Nat.le_of_ble_eq_true rfl⟩ (rc2 rfl g1) rfl rfl ml_85 rfl (Nat.le_of_ble_eq_true rfl) (tf85 h2 (by omega)) ?_
  show Ex d 83 2 [(2, ((v0 : Nat) : Int)), (0, v1), (9, 0), (9, 0)] [(0, q2.1)] (G, ρ, q2.2) rr
  refine Ex_run 2 (i' := 4) (L' := [(2, ((v0 : Nat) : Int)), (0, v1), (0, q2.1), (9, 0)]) (st' := [(2, ((v0 : Nat) : Int))]) (h' := (G, ρ, q2.2)) hm rfl (cjc (Nat.le_of_ble_eq_true rfl) cjn) ?_
  obtain ⟨q3, h3, e⟩ := bn_s e
  refine Ex_callm (z := 85) (na := 1) (ck := 12) (as := [(2, ((v0 : Nat) : Int))]) (rest := []) (E0 := [(2, ((v0 : Nat) : Int))]) (v := some (0, q3.1)) (h1 := (G, ρ, q3.2)) hm rfl (by omega) ⟨Nat.le_of_ble_eq_true rfl, Nat.le_of_ble_eq_true rfl⟩ (rc2 rfl g1) rfl rfl ml_85 rfl (Nat.le_of_ble_eq_true rfl) (tf85 h3 (by omega)) ?_
  show Ex d 83 5 [(2, ((v0 : Nat) : Int)), (0, v1), (0, q2.1), (9, 0)] [(0, q3.1)] (G, ρ, q3.2) rr
  refine Ex_run 2 (i' := 7) (L' := [(2, ((v0 : Nat) : Int)), (0, v1), (0, q2.1), (0, q3.1)]) (st' := [(0, v1)]) (h' := (G, ρ, q3.2)) hm rfl (cjc (Nat.le_of_ble_eq_true rfl) cjn) ?_
  by_cases c4 : v1 = (-17)
  · replace e := it_p e c4
    refine Ex_sw (lo := (-17)) (tg := [52, 46, 37, 28, 58, 18, 8]) (df := 58) hm rfl 0 rfl c4 ?_
    refine Ex_run 4 (i' := 56) (L' := [(2, ((v0 : Nat) : Int)), (0, v1), (0, q2.1), (0, q3.1)]) (st' := [(0, (g_sub q3.1 q2.1)), (2, ((v0 : Nat) : Int))]) (h' := (G, ρ, q3.2)) hm rfl cjn ?_
    obtain ⟨q5, h5, e⟩ := bn_s e
    refine Ex_callm (z := 84) (na := 2) (ck := 12) (as := [(2, ((v0 : Nat) : Int)), (0, (g_sub q3.1 q2.1))]) (rest := []) (E0 := [(2, ((v0 : Nat) : Int)), (0, (g_sub q3.1 q2.1))]) (v := none) (h1 := (G, ρ, q5)) hm rfl (by omega) ⟨Nat.le_of_ble_eq_true rfl, Nat.le_of_ble_eq_true rfl⟩ (rc2 rfl g1) rfl rfl ml_84 rfl (Nat.le_of_ble_eq_true rfl) (tf84 h5 (by omega)) ?_
    show Ex d 83 57 [(2, ((v0 : Nat) : Int)), (0, v1), (0, q2.1), (0, q3.1)] [] (G, ρ, q5) rr
    refine Ex_run 1 (i' := 63) (L' := [(2, ((v0 : Nat) : Int)), (0, v1), (0, q2.1), (0, q3.1)]) (st' := []) (h' := (G, ρ, q5)) hm rfl cjn ?_
    cases e
    cases hk
    exact Ex_ret (k := 0) hm rfl ⟨rfl, rfl⟩
  · replace e := it_n e c4
    by_cases c6 : v1 = (-16)
    · replace e := it_p e c6
      refine Ex_sw (lo := (-17)) (tg := [52, 46, 37, 28, 58, 18, 8]) (df := 58) hm rfl 1 rfl c6 ?_
      refine Ex_run 4 (i' := 50) (L' := [(2, ((v0 : Nat) : Int)), (0, v1), (0, q2.1), (0, q3.1)]) (st' := [(0, (g_add q3.1 q2.1)), (2, ((v0 : Nat) : Int))]) (h' := (G, ρ, q3.2)) hm rfl cjn ?_
      obtain ⟨q7, h7, e⟩ := bn_s e
      refine Ex_callm (z := 84) (na := 2) (ck := 12) (as := [(2, ((v0 : Nat) : Int)), (0, (g_add q3.1 q2.1))]) (rest := []) (E0 := [(2, ((v0 : Nat) : Int)), (0, (g_add q3.1 q2.1))]) (v := none) (h1 := (G, ρ, q7)) hm rfl (by omega) ⟨Nat.le_of_ble_eq_true rfl, Nat.le_of_ble_eq_true rfl⟩ (rc2 rfl g1) rfl rfl ml_84 rfl (Nat.le_of_ble_eq_true rfl) (tf84 h7 (by omega)) ?_
      show Ex d 83 51 [(2, ((v0 : Nat) : Int)), (0, v1), (0, q2.1), (0, q3.1)] [] (G, ρ, q7) rr
      refine Ex_run 1 (i' := 63) (L' := [(2, ((v0 : Nat) : Int)), (0, v1), (0, q2.1), (0, q3.1)]) (st' := []) (h' := (G, ρ, q7)) hm rfl cjn ?_
      cases e
      cases hk
      exact Ex_ret (k := 0) hm rfl ⟨rfl, rfl⟩
    · replace e := it_n e c6
      by_cases c8 : v1 = (-15)
      · replace e := it_p e c8
        refine Ex_sw (lo := (-17)) (tg := [52, 46, 37, 28, 58, 18, 8]) (df := 58) hm rfl 2 rfl c8 ?_
        refine Ex_run 3 (i' := 40) (L' := [(2, ((v0 : Nat) : Int)), (0, v1), (0, q2.1), (0, q3.1)]) (st' := [(0, q2.1), (0, q3.1), (2, ((v0 : Nat) : Int))]) (h' := (G, ρ, q3.2)) hm rfl cjn ?_
        by_cases c9 : q3.1 = q2.1
        · replace e := it_p e c9
          refine Ex_if2f (c := 1) (tgt := 43) hm rfl (bf1 c9) ?_
          refine Ex_run 2 (i' := 44) (L' := [(2, ((v0 : Nat) : Int)), (0, v1), (0, q2.1), (0, q3.1)]) (st' := [(0, 1), (2, ((v0 : Nat) : Int))]) (h' := (G, ρ, q3.2)) hm rfl cjn ?_
          exact tf83_44 e hd rr hk _ _ _ _
        · replace e := it_n e c9
          refine Ex_if2t (c := 1) (tgt := 43) hm rfl (bt1 c9) ?_
          refine Ex_run 1 (i' := 44) (L' := [(2, ((v0 : Nat) : Int)), (0, v1), (0, q2.1), (0, q3.1)]) (st' := [(0, 0), (2, ((v0 : Nat) : Int))]) (h' := (G, ρ, q3.2)) hm rfl cjn ?_
          exact tf83_44 e hd rr hk _ _ _ _
      · replace e := it_n e c8
        by_cases c12 : v1 = (-14)
        · replace e := it_p e c12
          refine Ex_sw (lo := (-17)) (tg := [52, 46, 37, 28, 58, 18, 8]) (df := 58) hm rfl 3 rfl c12 ?_
          refine Ex_run 3 (i' := 31) (L' := [(2, ((v0 : Nat) : Int)), (0, v1), (0, q2.1), (0, q3.1)]) (st' := [(0, q2.1), (0, q3.1), (2, ((v0 : Nat) : Int))]) (h' := (G, ρ, q3.2)) hm rfl cjn ?_
          by_cases c13 : q3.1 < q2.1
          · replace e := it_p e c13
            refine Ex_if2f (c := 3) (tgt := 34) hm rfl (bf3 c13) ?_
            refine Ex_run 2 (i' := 35) (L' := [(2, ((v0 : Nat) : Int)), (0, v1), (0, q2.1), (0, q3.1)]) (st' := [(0, 1), (2, ((v0 : Nat) : Int))]) (h' := (G, ρ, q3.2)) hm rfl cjn ?_
            exact tf83_35 e hd rr hk _ _ _ _
          · replace e := it_n e c13
            refine Ex_if2t (c := 3) (tgt := 34) hm rfl (bt3 c13) ?_
            refine Ex_run 1 (i' := 35) (L' := [(2, ((v0 : Nat) : Int)), (0, v1), (0, q2.1), (0, q3.1)]) (st' := [(0, 0), (2, ((v0 : Nat) : Int))]) (h' := (G, ρ, q3.2)) hm rfl cjn ?_
            exact tf83_35 e hd rr hk _ _ _ _
        · replace e := it_n e c12
          by_cases c16 : v1 = (-12)
          · replace e := it_p e c16
            refine Ex_sw (lo := (-17)) (tg := [52, 46, 37, 28, 58, 18, 8]) (df := 58) hm rfl 5 rfl c16 ?_
            refine Ex_run 2 (i' := 20) (L' := [(2, ((v0 : Nat) : Int)), (0, v1), (0, q2.1), (0, q3.1)]) (st' := [(0, q3.1), (2, ((v0 : Nat) : Int))]) (h' := (G, ρ, q3.2)) hm rfl cjn ?_
            by_cases c17 : q3.1 = 0
            · replace e := it_p e c17
              refine Ex_if1t (c := 0) (tgt := 25) hm rfl (bt0 c17) ?_
              refine Ex_run 1 (i' := 26) (L' := [(2, ((v0 : Nat) : Int)), (0, v1), (0, q2.1), (0, q3.1)]) (st' := [(0, 0), (2, ((v0 : Nat) : Int))]) (h' := (G, ρ, q3.2)) hm rfl cjn ?_
              exact tf83_26 e hd rr hk _ _ _ _
            · replace e := it_n e c17
              refine Ex_if1f (c := 0) (tgt := 25) hm rfl (bf0 c17) ?_
              refine Ex_run 1 (i' := 22) (L' := [(2, ((v0 : Nat) : Int)), (0, v1), (0, q2.1), (0, q3.1)]) (st' := [(0, q2.1), (2, ((v0 : Nat) : Int))]) (h' := (G, ρ, q3.2)) hm rfl cjn ?_
              by_cases c20 : q2.1 = 0
              · replace e := it_p e c20
                refine Ex_if1t (c := 0) (tgt := 25) hm rfl (bt0 c20) ?_
                refine Ex_run 1 (i' := 26) (L' := [(2, ((v0 : Nat) : Int)), (0, v1), (0, q2.1), (0, q3.1)]) (st' := [(0, 0), (2, ((v0 : Nat) : Int))]) (h' := (G, ρ, q3.2)) hm rfl cjn ?_
                exact tf83_26 e hd rr hk _ _ _ _
              · replace e := it_n e c20
                refine Ex_if1f (c := 0) (tgt := 25) hm rfl (bf0 c20) ?_
                refine Ex_run 2 (i' := 26) (L' := [(2, ((v0 : Nat) : Int)), (0, v1), (0, q2.1), (0, q3.1)]) (st' := [(0, 1), (2, ((v0 : Nat) : Int))]) (h' := (G, ρ, q3.2)) hm rfl cjn ?_
                exact tf83_26 e hd rr hk _ _ _ _
          · replace e := it_n e c16
            by_cases c21 : v1 = (-11)
            · replace e := it_p e c21
              refine Ex_sw (lo := (-17)) (tg := [52, 46, 37, 28, 58, 18, 8]) (df := 58) hm rfl 6 rfl c21 ?_
              refine Ex_run 2 (i' := 10) (L' := [(2, ((v0 : Nat) : Int)), (0, v1), (0, q2.1), (0, q3.1)]) (st' := [(0, q3.1), (2, ((v0 : Nat) : Int))]) (h' := (G, ρ, q3.2)) hm rfl cjn ?_
              by_cases c22 : q3.1 = 0
              · replace e := it_p e c22
                refine Ex_if1f (c := 1) (tgt := 13) hm rfl (bf1 c22) ?_
                refine Ex_run 1 (i' := 12) (L' := [(2, ((v0 : Nat) : Int)), (0, v1), (0, q2.1), (0, q3.1)]) (st' := [(0, q2.1), (2, ((v0 : Nat) : Int))]) (h' := (G, ρ, q3.2)) hm rfl cjn ?_
                by_cases c23 : q2.1 = 0
                · replace e := it_p e c23
                  refine Ex_if1t (c := 0) (tgt := 15) hm rfl (bt0 c23) ?_
                  refine Ex_run 1 (i' := 16) (L' := [(2, ((v0 : Nat) : Int)), (0, v1), (0, q2.1), (0, q3.1)]) (st' := [(0, 0), (2, ((v0 : Nat) : Int))]) (h' := (G, ρ, q3.2)) hm rfl cjn ?_
                  exact tf83_16 e hd rr hk _ _ _ _
                · replace e := it_n e c23
                  refine Ex_if1f (c := 0) (tgt := 15) hm rfl (bf0 c23) ?_
                  refine Ex_run 2 (i' := 16) (L' := [(2, ((v0 : Nat) : Int)), (0, v1), (0, q2.1), (0, q3.1)]) (st' := [(0, 1), (2, ((v0 : Nat) : Int))]) (h' := (G, ρ, q3.2)) hm rfl cjn ?_
                  exact tf83_16 e hd rr hk _ _ _ _
              · replace e := it_n e c22
                refine Ex_if1t (c := 1) (tgt := 13) hm rfl (bt1 c22) ?_
                refine Ex_run 2 (i' := 16) (L' := [(2, ((v0 : Nat) : Int)), (0, v1), (0, q2.1), (0, q3.1)]) (st' := [(0, 1), (2, ((v0 : Nat) : Int))]) (h' := (G, ρ, q3.2)) hm rfl cjn ?_
                exact tf83_16 e hd rr hk _ _ _ _
            · replace e := it_n e c21
              refine Ex_swd (lo := (-17)) (tg := [52, 46, 37, 28, 58, 18, 8]) (df := 58) hm rfl (swk_d ⟨Or.inr c4, Or.inr c6, Or.inr c8, Or.inr c12, Or.inl rfl, Or.inr c16, Or.inr c21, trivial⟩) ?_
              refine Ex_run 4 (i' := 62) (L' := [(2, ((v0 : Nat) : Int)), (0, v1), (0, q2.1), (0, q3.1)]) (st' := [(0, (g_mul q3.1 q2.1)), (2, ((v0 : Nat) : Int))]) (h' := (G, ρ, q3.2)) hm rfl cjn ?_
              obtain ⟨q26, h26, e⟩ := bn_s e
              refine Ex_callm (z := 84) (na := 2) (ck := 12) (as := [(2, ((v0 : Nat) : Int)), (0, (g_mul q3.1 q2.1))]) (rest := []) (E0 := [(2, ((v0 : Nat) : Int)), (0, (g_mul q3.1 q2.1))]) (v := none) (h1 := (G, ρ, q26)) hm rfl (by omega) ⟨Nat.le_of_ble_eq_true rfl, Nat.le_of_ble_eq_true rfl⟩ (rc2 rfl g1) rfl rfl ml_84 rfl (Nat.le_of_ble_eq_true rfl) (tf84 h26 (by omega)) ?_
              show Ex d 83 63 [(2, ((v0 : Nat) : Int)), (0, v1), (0, q2.1), (0, q3.1)] [] (G, ρ, q26) rr
              cases e
              cases hk
              exact Ex_ret (k := 0) hm rfl ⟨rfl, rfl⟩
theorem tf82_65 {G : Gg} {ρ : Rg} {d : Nat} {v0 : Nat} {v1 : Int} {v3 : Nat} {v5 : Int} {v6 : Int} {w0 : Int} {w1 : Nat} {m : Sg} {x : (Int × Sg) ⊕ (Int × Sg)} (e : f82_65 G ρ v0 v1 v3 v5 v6 w0 w1 m = some x) (hd : 3 ≤ d) (rr : Option MV × Mh) (hk : (DS (e82_26 G ρ d v0 v1 v3 v5) (Bi G ρ)) x rr) (j2 : Int) (j4 : Int) (j7 : Int) : Ex d 82 65 [(2, ((v0 : Nat) : Int)), (0, v1), (0, j2), (2, ((v3 : Nat) : Int)), (0, j4), (0, v5), (0, v6), (0, j7)] [(0, w0), (2, ((w1 : Nat) : Int))] (G, ρ, m) rr := by
  unfold f82_65 at e
  have hm := mi_82
  obtain ⟨g16, e⟩ := gd_s e
  obtain ⟨q17, h17, e⟩ := bn_s e
  refine Ex_callm (z := 84) (na := 2) (ck := 12) (as := [(2, ((w1 : Nat) : Int)), (0, w0)]) (rest := []) (E0 := [(2, ((w1 : Nat) : Int)), (0, w0)]) (v := none) (h1 := (G, ρ, q17)) hm rfl (by omega) ⟨Nat.le_of_ble_eq_true rfl, Nat.le_of_ble_eq_true rfl⟩ (rc2 rfl g16) rfl rfl ml_84 rfl (Nat.le_of_ble_eq_true rfl) (tf84 h17 (by omega)) ?_
  show Ex d 82 66 [(2, ((v0 : Nat) : Int)), (0, v1), (0, j2), (2, ((v3 : Nat) : Int)), (0, j4), (0, v5), (0, v6), (0, j7)] [] (G, ρ, q17) rr
  refine Ex_run 3 (i' := 26) (L' := [(2, ((v0 : Nat) : Int)), (0, v1), (0, j2), (2, ((v3 : Nat) : Int)), (0, j4), (0, v5), (0, (w32 (v6 + 1))), (0, j7)]) (st' := []) (h' := (G, ρ, q17)) hm rfl cjn ?_
  cases e
  exact hk _ _ _
theorem tf82_b26 {G : Gg} {ρ : Rg} {d : Nat} {v0 : Nat} {v1 : Int} {v3 : Nat} {v5 : Int} {s : Int × Sg} {x : (Int × Sg) ⊕ (Int × Sg)} (e : f82_b26 G ρ v0 v1 v3 v5 s = some x) (hd : 3 ≤ d) (rr : Option MV × Mh) (hk : (DS (e82_26 G ρ d v0 v1 v3 v5) (Bi G ρ)) x rr) : e82_26 G ρ d v0 v1 v3 v5 s rr := by
  unfold f82_b26 at e
  have hm := mi_82
  show ∀ (j2 : Int) (j4 : Int) (j7 : MV), Ex d 82 26 [(2, ((v0 : Nat) : Int)), (0, v1), (0, j2), (2, ((v3 : Nat) : Int)), (0, j4), (0, v5), (0, s.1), j7] [] (G, ρ, s.2) rr
  intro j2 j4 j7
  refine Ex_run 2 (i' := 28) (L' := [(2, ((v0 : Nat) : Int)), (0, v1), (0, j2), (2, ((v3 : Nat) : Int)), (0, j4), (0, v5), (0, s.1), j7]) (st' := [(0, v5), (0, s.1)]) (h' := (G, ρ, s.2)) hm rfl cjn ?_
  by_cases c7 : s.1 < v5
  · replace e := it_p e c7
    refine Ex_if2f (c := 3) (tgt := 81) hm rfl (bf3 c7) ?_
    obtain ⟨g8, e⟩ := gd_s e
    refine Ex_run 7 (i' := 36) (L' := [(2, ((v0 : Nat) : Int)), (0, v1), (0, j2), (2, ((v3 : Nat) : Int)), (0, j4), (0, v5), (0, s.1), j7]) (st' := [(0, (g_add (g_mul v1 160) s.1)), (2, (((ρ v0 0) : Nat) : Int))]) (h' := (G, ρ, s.2)) hm rfl (cjc (gk_b g8) cjn) ?_
    obtain ⟨g9, e⟩ := gd_s e
    obtain ⟨q10, h10, e⟩ := bn_s e
    refine Ex_callm (z := 33) (na := 2) (ck := 6) (as := [(2, (((ρ v0 0) : Nat) : Int)), (0, (g_add (g_mul v1 160) s.1))]) (rest := []) (E0 := [(2, (((ρ v0 0) : Nat) : Int)), (0, (g_add (g_mul v1 160) s.1))]) (v := some (0, q10)) (h1 := (G, ρ, s.2)) hm rfl (by omega) ⟨Nat.le_of_ble_eq_true rfl, Nat.le_of_ble_eq_true rfl⟩ (rc2 rfl g9) rfl rfl ml_33 rfl (Nat.le_of_ble_eq_true rfl) (tf33 h10 (by omega)) ?_
    show Ex d 82 37 [(2, ((v0 : Nat) : Int)), (0, v1), (0, j2), (2, ((v3 : Nat) : Int)), (0, j4), (0, v5), (0, s.1), j7] [(0, q10)] (G, ρ, s.2) rr
    refine Ex_run 2 (i' := 39) (L' := [(2, ((v0 : Nat) : Int)), (0, v1), (0, j2), (2, ((v3 : Nat) : Int)), (0, j4), (0, v5), (0, s.1), (0, q10)]) (st' := [(0, q10)]) (h' := (G, ρ, s.2)) hm rfl (cjc (Nat.le_of_ble_eq_true rfl) cjn) ?_
    by_cases c11 : q10 < 0
    · replace e := it_p e c11
      refine Ex_if1t (c := 2) (tgt := 44) hm rfl (bt2 c11) ?_
      refine Ex_run 2 (i' := 46) (L' := [(2, ((v0 : Nat) : Int)), (0, v1), (0, j2), (2, ((v3 : Nat) : Int)), (0, j4), (0, v5), (0, s.1), (0, q10)]) (st' := [(0, (-6)), (0, q10)]) (h' := (G, ρ, s.2)) hm rfl cjn ?_
      by_cases c12 : q10 < (-6)
      · replace e := it_p e c12
        refine Ex_if2t (c := 2) (tgt := 55) hm rfl (bt2 c12) ?_
        refine Ex_run 2 (i' := 57) (L' := [(2, ((v0 : Nat) : Int)), (0, v1), (0, j2), (2, ((v3 : Nat) : Int)), (0, j4), (0, v5), (0, s.1), (0, q10)]) (st' := [(0, (-13)), (0, q10)]) (h' := (G, ρ, s.2)) hm rfl cjn ?_
        by_cases c13 : q10 = (-13)
        · replace e := it_p e c13
          refine Ex_if2f (c := 1) (tgt := 67) hm rfl (bf1 c13) ?_
          refine Ex_run 2 (i' := 60) (L' := [(2, ((v0 : Nat) : Int)), (0, v1), (0, j2), (2, ((v3 : Nat) : Int)), (0, j4), (0, v5), (0, s.1), (0, q10)]) (st' := [(2, ((v0 : Nat) : Int)), (2, ((v0 : Nat) : Int))]) (h' := (G, ρ, s.2)) hm rfl cjn ?_
          obtain ⟨q14, h14, e⟩ := bn_s e
          refine Ex_callm (z := 85) (na := 1) (ck := 12) (as := [(2, ((v0 : Nat) : Int))]) (rest := [(2, ((v0 : Nat) : Int))]) (E0 := [(2, ((v0 : Nat) : Int))]) (v := some (0, q14.1)) (h1 := (G, ρ, q14.2)) hm rfl (by omega) ⟨Nat.le_of_ble_eq_true rfl, Nat.le_of_ble_eq_true rfl⟩ (rc2 rfl g8) rfl rfl ml_85 rfl (Nat.le_of_ble_eq_true rfl) (tf85 h14 (by omega)) ?_
          show Ex d 82 61 [(2, ((v0 : Nat) : Int)), (0, v1), (0, j2), (2, ((v3 : Nat) : Int)), (0, j4), (0, v5), (0, s.1), (0, q10)] [(0, q14.1), (2, ((v0 : Nat) : Int))] (G, ρ, q14.2) rr
          by_cases c15 : q14.1 = 0
          · replace e := it_p e c15
            refine Ex_if1f (c := 1) (tgt := 64) hm rfl (bf1 c15) ?_
            refine Ex_run 2 (i' := 65) (L' := [(2, ((v0 : Nat) : Int)), (0, v1), (0, j2), (2, ((v3 : Nat) : Int)), (0, j4), (0, v5), (0, s.1), (0, q10)]) (st' := [(0, 1), (2, ((v0 : Nat) : Int))]) (h' := (G, ρ, q14.2)) hm rfl cjn ?_
            exact tf82_65 e hd rr hk _ _ _
          · replace e := it_n e c15
            refine Ex_if1t (c := 1) (tgt := 64) hm rfl (bt1 c15) ?_
            refine Ex_run 1 (i' := 65) (L' := [(2, ((v0 : Nat) : Int)), (0, v1), (0, j2), (2, ((v3 : Nat) : Int)), (0, j4), (0, v5), (0, s.1), (0, q10)]) (st' := [(0, 0), (2, ((v0 : Nat) : Int))]) (h' := (G, ρ, q14.2)) hm rfl cjn ?_
            exact tf82_65 e hd rr hk _ _ _
        · replace e := it_n e c13
          refine Ex_if2t (c := 1) (tgt := 67) hm rfl (bt1 c13) ?_
          refine Ex_run 2 (i' := 69) (L' := [(2, ((v0 : Nat) : Int)), (0, v1), (0, j2), (2, ((v3 : Nat) : Int)), (0, j4), (0, v5), (0, s.1), (0, q10)]) (st' := [(0, (-19)), (0, q10)]) (h' := (G, ρ, s.2)) hm rfl cjn ?_
          by_cases c18 : q10 = (-19)
          · replace e := it_p e c18
            refine Ex_if2f (c := 1) (tgt := 76) hm rfl (bf1 c18) ?_
            refine Ex_run 2 (i' := 72) (L' := [(2, ((v0 : Nat) : Int)), (0, v1), (0, j2), (2, ((v3 : Nat) : Int)), (0, j4), (0, v5), (0, s.1), (0, q10)]) (st' := [(2, ((v0 : Nat) : Int)), (2, ((v0 : Nat) : Int))]) (h' := (G, ρ, s.2)) hm rfl cjn ?_
            obtain ⟨q19, h19, e⟩ := bn_s e
            refine Ex_callm (z := 85) (na := 1) (ck := 12) (as := [(2, ((v0 : Nat) : Int))]) (rest := [(2, ((v0 : Nat) : Int))]) (E0 := [(2, ((v0 : Nat) : Int))]) (v := some (0, q19.1)) (h1 := (G, ρ, q19.2)) hm rfl (by omega) ⟨Nat.le_of_ble_eq_true rfl, Nat.le_of_ble_eq_true rfl⟩ (rc2 rfl g8) rfl rfl ml_85 rfl (Nat.le_of_ble_eq_true rfl) (tf85 h19 (by omega)) ?_
            show Ex d 82 73 [(2, ((v0 : Nat) : Int)), (0, v1), (0, j2), (2, ((v3 : Nat) : Int)), (0, j4), (0, v5), (0, s.1), (0, q10)] [(0, q19.1), (2, ((v0 : Nat) : Int))] (G, ρ, q19.2) rr
            refine Ex_run 1 (i' := 74) (L' := [(2, ((v0 : Nat) : Int)), (0, v1), (0, j2), (2, ((v3 : Nat) : Int)), (0, j4), (0, v5), (0, s.1), (0, q10)]) (st' := [(0, (g_neg q19.1)), (2, ((v0 : Nat) : Int))]) (h' := (G, ρ, q19.2)) hm rfl cjn ?_
            obtain ⟨q20, h20, e⟩ := bn_s e
            refine Ex_callm (z := 84) (na := 2) (ck := 12) (as := [(2, ((v0 : Nat) : Int)), (0, (g_neg q19.1))]) (rest := []) (E0 := [(2, ((v0 : Nat) : Int)), (0, (g_neg q19.1))]) (v := none) (h1 := (G, ρ, q20)) hm rfl (by omega) ⟨Nat.le_of_ble_eq_true rfl, Nat.le_of_ble_eq_true rfl⟩ (rc2 rfl g8) rfl rfl ml_84 rfl (Nat.le_of_ble_eq_true rfl) (tf84 h20 (by omega)) ?_
            show Ex d 82 75 [(2, ((v0 : Nat) : Int)), (0, v1), (0, j2), (2, ((v3 : Nat) : Int)), (0, j4), (0, v5), (0, s.1), (0, q10)] [] (G, ρ, q20) rr
            refine Ex_run 3 (i' := 26) (L' := [(2, ((v0 : Nat) : Int)), (0, v1), (0, j2), (2, ((v3 : Nat) : Int)), (0, j4), (0, v5), (0, (w32 (s.1 + 1))), (0, q10)]) (st' := []) (h' := (G, ρ, q20)) hm rfl cjn ?_
            cases e
            exact hk _ _ _
          · replace e := it_n e c18
            refine Ex_if2t (c := 1) (tgt := 76) hm rfl (bt1 c18) ?_
            refine Ex_run 2 (i' := 78) (L' := [(2, ((v0 : Nat) : Int)), (0, v1), (0, j2), (2, ((v3 : Nat) : Int)), (0, j4), (0, v5), (0, s.1), (0, q10)]) (st' := [(0, q10), (2, ((v0 : Nat) : Int))]) (h' := (G, ρ, s.2)) hm rfl cjn ?_
            obtain ⟨q21, h21, e⟩ := bn_s e
            refine Ex_callm (z := 83) (na := 2) (ck := 12) (as := [(2, ((v0 : Nat) : Int)), (0, q10)]) (rest := []) (E0 := [(2, ((v0 : Nat) : Int)), (0, q10), (9, 0), (9, 0)]) (v := none) (h1 := (G, ρ, q21)) hm rfl (by omega) ⟨Nat.le_of_ble_eq_true rfl, Nat.le_of_ble_eq_true rfl⟩ (rc2 rfl g8) rfl rfl ml_83 rfl (Nat.le_of_ble_eq_true rfl) (tf83 h21 (by omega)) ?_
            show Ex d 82 79 [(2, ((v0 : Nat) : Int)), (0, v1), (0, j2), (2, ((v3 : Nat) : Int)), (0, j4), (0, v5), (0, s.1), (0, q10)] [] (G, ρ, q21) rr
            refine Ex_run 2 (i' := 26) (L' := [(2, ((v0 : Nat) : Int)), (0, v1), (0, j2), (2, ((v3 : Nat) : Int)), (0, j4), (0, v5), (0, (w32 (s.1 + 1))), (0, q10)]) (st' := []) (h' := (G, ρ, q21)) hm rfl cjn ?_
            cases e
            exact hk _ _ _
      · replace e := it_n e c12
        refine Ex_if2f (c := 2) (tgt := 55) hm rfl (bf2 c12) ?_
        refine Ex_run 5 (i' := 52) (L' := [(2, ((v0 : Nat) : Int)), (0, v1), (0, j2), (2, ((v3 : Nat) : Int)), (0, j4), (0, v5), (0, s.1), (0, q10)]) (st' := [(0, (g_sub (-1) q10)), (2, ((v3 : Nat) : Int)), (2, ((v0 : Nat) : Int))]) (h' := (G, ρ, s.2)) hm rfl cjn ?_
        obtain ⟨g22, e⟩ := gd_s e
        obtain ⟨q23, h23, e⟩ := bn_s e
        refine Ex_callm (z := 33) (na := 2) (ck := 6) (as := [(2, ((v3 : Nat) : Int)), (0, (g_sub (-1) q10))]) (rest := [(2, ((v0 : Nat) : Int))]) (E0 := [(2, ((v3 : Nat) : Int)), (0, (g_sub (-1) q10))]) (v := some (0, q23)) (h1 := (G, ρ, s.2)) hm rfl (by omega) ⟨Nat.le_of_ble_eq_true rfl, Nat.le_of_ble_eq_true rfl⟩ (rc2 rfl g22) rfl rfl ml_33 rfl (Nat.le_of_ble_eq_true rfl) (tf33 h23 (by omega)) ?_
        show Ex d 82 53 [(2, ((v0 : Nat) : Int)), (0, v1), (0, j2), (2, ((v3 : Nat) : Int)), (0, j4), (0, v5), (0, s.1), (0, q10)] [(0, q23), (2, ((v0 : Nat) : Int))] (G, ρ, s.2) rr
        obtain ⟨q24, h24, e⟩ := bn_s e
        refine Ex_callm (z := 84) (na := 2) (ck := 12) (as := [(2, ((v0 : Nat) : Int)), (0, q23)]) (rest := []) (E0 := [(2, ((v0 : Nat) : Int)), (0, q23)]) (v := none) (h1 := (G, ρ, q24)) hm rfl (by omega) ⟨Nat.le_of_ble_eq_true rfl, Nat.le_of_ble_eq_true rfl⟩ (rc2 rfl g8) rfl rfl ml_84 rfl (Nat.le_of_ble_eq_true rfl) (tf84 h24 (by omega)) ?_
        show Ex d 82 54 [(2, ((v0 : Nat) : Int)), (0, v1), (0, j2), (2, ((v3 : Nat) : Int)), (0, j4), (0, v5), (0, s.1), (0, q10)] [] (G, ρ, q24) rr
        refine Ex_run 3 (i' := 26) (L' := [(2, ((v0 : Nat) : Int)), (0, v1), (0, j2), (2, ((v3 : Nat) : Int)), (0, j4), (0, v5), (0, (w32 (s.1 + 1))), (0, q10)]) (st' := []) (h' := (G, ρ, q24)) hm rfl cjn ?_
        cases e
        exact hk _ _ _
    · replace e := it_n e c11
      refine Ex_if1f (c := 2) (tgt := 44) hm rfl (bf2 c11) ?_
      refine Ex_run 2 (i' := 42) (L' := [(2, ((v0 : Nat) : Int)), (0, v1), (0, j2), (2, ((v3 : Nat) : Int)), (0, j4), (0, v5), (0, s.1), (0, q10)]) (st' := [(0, q10), (2, ((v0 : Nat) : Int))]) (h' := (G, ρ, s.2)) hm rfl cjn ?_
      obtain ⟨q25, h25, e⟩ := bn_s e
      refine Ex_callm (z := 84) (na := 2) (ck := 12) (as := [(2, ((v0 : Nat) : Int)), (0, q10)]) (rest := []) (E0 := [(2, ((v0 : Nat) : Int)), (0, q10)]) (v := none) (h1 := (G, ρ, q25)) hm rfl (by omega) ⟨Nat.le_of_ble_eq_true rfl, Nat.le_of_ble_eq_true rfl⟩ (rc2 rfl g8) rfl rfl ml_84 rfl (Nat.le_of_ble_eq_true rfl) (tf84 h25 (by omega)) ?_
      show Ex d 82 43 [(2, ((v0 : Nat) : Int)), (0, v1), (0, j2), (2, ((v3 : Nat) : Int)), (0, j4), (0, v5), (0, s.1), (0, q10)] [] (G, ρ, q25) rr
      refine Ex_run 3 (i' := 26) (L' := [(2, ((v0 : Nat) : Int)), (0, v1), (0, j2), (2, ((v3 : Nat) : Int)), (0, j4), (0, v5), (0, (w32 (s.1 + 1))), (0, q10)]) (st' := []) (h' := (G, ρ, q25)) hm rfl cjn ?_
      cases e
      exact hk _ _ _
  · replace e := it_n e c7
    refine Ex_if2t (c := 3) (tgt := 81) hm rfl (bt3 c7) ?_
    obtain ⟨x, e, hx⟩ := xr_s e
    replace hk : (Bi G ρ) x rr := by rw [hx] at hk; exact hk
    refine Ex_run 1 (i' := 82) (L' := [(2, ((v0 : Nat) : Int)), (0, v1), (0, j2), (2, ((v3 : Nat) : Int)), (0, j4), (0, v5), (0, s.1), j7]) (st' := [(2, ((v0 : Nat) : Int))]) (h' := (G, ρ, s.2)) hm rfl cjn ?_
    obtain ⟨g26, e⟩ := gd_s e
    obtain ⟨q27, h27, e⟩ := bn_s e
    refine Ex_callm (z := 85) (na := 1) (ck := 12) (as := [(2, ((v0 : Nat) : Int))]) (rest := []) (E0 := [(2, ((v0 : Nat) : Int))]) (v := some (0, q27.1)) (h1 := (G, ρ, q27.2)) hm rfl (by omega) ⟨Nat.le_of_ble_eq_true rfl, Nat.le_of_ble_eq_true rfl⟩ (rc2 rfl g26) rfl rfl ml_85 rfl (Nat.le_of_ble_eq_true rfl) (tf85 h27 (by omega)) ?_
    show Ex d 82 83 [(2, ((v0 : Nat) : Int)), (0, v1), (0, j2), (2, ((v3 : Nat) : Int)), (0, j4), (0, v5), (0, s.1), j7] [(0, q27.1)] (G, ρ, q27.2) rr
    cases e
    cases hk
    exact Ex_ret (k := 1) hm rfl ⟨_, rfl, rfl⟩
theorem tf82_20 {G : Gg} {ρ : Rg} {d : Nat} {v0 : Nat} {v1 : Int} {v3 : Nat} {v4 : Int} {w0 : Int} {m : Sg} {x : Int × Sg} (e : f82_20 G ρ v0 v1 v3 v4 w0 m = some x) (hd : 3 ≤ d) (rr : Option MV × Mh) (hk : (Bi G ρ) x rr) (j2 : Int) : Ex d 82 20 [(2, ((v0 : Nat) : Int)), (0, v1), (0, j2), (2, ((v3 : Nat) : Int)), (0, v4), (9, 0), (9, 0), (9, 0)] [(0, w0)] (G, ρ, m) rr := by
  unfold f82_20 at e
  have hm := mi_82
  obtain ⟨g6, e⟩ := gd_s e
  refine Ex_run 6 (i' := 26) (L' := [(2, ((v0 : Nat) : Int)), (0, v1), (0, j2), (2, ((v3 : Nat) : Int)), (0, v4), (0, w0), (0, v4), (9, 0)]) (st' := []) (h' := (G, ρ, (put m v0 4 0))) hm rfl (cjc (Nat.le_of_ble_eq_true rfl) (cjc (gk_b g6) (cjc (Nat.le_of_ble_eq_true rfl) cjn))) ?_
  exact (Ex_lp (A := e82_26 G ρ d v0 v1 v3 w0 ) (B := (Bi G ρ)) (fun s x e rr hk => tf82_b26 e hd rr hk) FU _ _ e rr hk) _ _ _
theorem tf82_8 {G : Gg} {ρ : Rg} {d : Nat} {v0 : Nat} {v1 : Int} {v2 : Int} {v3 : Nat} {w0 : Int} {m : Sg} {x : Int × Sg} (e : f82_8 G ρ v0 v1 v2 v3 w0 m = some x) (hd : 3 ≤ d) (rr : Option MV × Mh) (hk : (Bi G ρ) x rr) : Ex d 82 8 [(2, ((v0 : Nat) : Int)), (0, v1), (0, v2), (2, ((v3 : Nat) : Int)), (9, 0), (9, 0), (9, 0), (9, 0)] [(0, w0)] (G, ρ, m) rr := by
  unfold f82_8 at e
  have hm := mi_82
  refine Ex_run 2 (i' := 10) (L' := [(2, ((v0 : Nat) : Int)), (0, v1), (0, v2), (2, ((v3 : Nat) : Int)), (0, w0), (9, 0), (9, 0), (9, 0)]) (st' := [(0, v2)]) (h' := (G, ρ, m)) hm rfl (cjc (Nat.le_of_ble_eq_true rfl) cjn) ?_
  by_cases c2 : v2 = 0
  · replace e := it_p e c2
    refine Ex_if1f (c := 1) (tgt := 16) hm rfl (bf1 c2) ?_
    obtain ⟨g3, e⟩ := gd_s e
    refine Ex_run 3 (i' := 14) (L' := [(2, ((v0 : Nat) : Int)), (0, v1), (0, v2), (2, ((v3 : Nat) : Int)), (0, w0), (9, 0), (9, 0), (9, 0)]) (st' := [(0, v1), (2, (((ρ v0 2) : Nat) : Int))]) (h' := (G, ρ, m)) hm rfl (cjc (gk_b g3) cjn) ?_
    obtain ⟨g4, e⟩ := gd_s e
    obtain ⟨q5, h5, e⟩ := bn_s e
    refine Ex_callm (z := 33) (na := 2) (ck := 6) (as := [(2, (((ρ v0 2) : Nat) : Int)), (0, v1)]) (rest := []) (E0 := [(2, (((ρ v0 2) : Nat) : Int)), (0, v1)]) (v := some (0, q5)) (h1 := (G, ρ, m)) hm rfl (by omega) ⟨Nat.le_of_ble_eq_true rfl, Nat.le_of_ble_eq_true rfl⟩ (rc2 rfl g4) rfl rfl ml_33 rfl (Nat.le_of_ble_eq_true rfl) (tf33 h5 (by omega)) ?_
    show Ex d 82 15 [(2, ((v0 : Nat) : Int)), (0, v1), (0, v2), (2, ((v3 : Nat) : Int)), (0, w0), (9, 0), (9, 0), (9, 0)] [(0, q5)] (G, ρ, m) rr
    refine Ex_run 1 (i' := 20) (L' := [(2, ((v0 : Nat) : Int)), (0, v1), (0, v2), (2, ((v3 : Nat) : Int)), (0, w0), (9, 0), (9, 0), (9, 0)]) (st' := [(0, q5)]) (h' := (G, ρ, m)) hm rfl cjn ?_
    exact tf82_20 e hd rr hk _
  · replace e := it_n e c2
    refine Ex_if1t (c := 1) (tgt := 16) hm rfl (bt1 c2) ?_
    obtain ⟨g28, e⟩ := gd_s e
    refine Ex_run 3 (i' := 19) (L' := [(2, ((v0 : Nat) : Int)), (0, v1), (0, v2), (2, ((v3 : Nat) : Int)), (0, w0), (9, 0), (9, 0), (9, 0)]) (st' := [(0, v1), (2, (((ρ v0 1) : Nat) : Int))]) (h' := (G, ρ, m)) hm rfl (cjc (gk_b g28) cjn) ?_
    obtain ⟨g29, e⟩ := gd_s e
    obtain ⟨q30, h30, e⟩ := bn_s e
    refine Ex_callm (z := 33) (na := 2) (ck := 6) (as := [(2, (((ρ v0 1) : Nat) : Int)), (0, v1)]) (rest := []) (E0 := [(2, (((ρ v0 1) : Nat) : Int)), (0, v1)]) (v := some (0, q30)) (h1 := (G, ρ, m)) hm rfl (by omega) ⟨Nat.le_of_ble_eq_true rfl, Nat.le_of_ble_eq_true rfl⟩ (rc2 rfl g29) rfl rfl ml_33 rfl (Nat.le_of_ble_eq_true rfl) (tf33 h30 (by omega)) ?_
    show Ex d 82 20 [(2, ((v0 : Nat) : Int)), (0, v1), (0, v2), (2, ((v3 : Nat) : Int)), (0, w0), (9, 0), (9, 0), (9, 0)] [(0, q30)] (G, ρ, m) rr
    exact tf82_20 e hd rr hk _
theorem tf82 {G : Gg} {ρ : Rg} {d : Nat} {v0 : Nat} {v1 : Int} {v2 : Int} {v3 : Nat} {m : Sg} {x : Int × Sg} (e : f82 G ρ v0 v1 v2 v3 m = some x) (hd : 3 ≤ d) : Ex d 82 0 [(2, ((v0 : Nat) : Int)), (0, v1), (0, v2), (2, ((v3 : Nat) : Int)), (9, 0), (9, 0), (9, 0), (9, 0)] [] (G, ρ, m) (some (0, x.1), (G, ρ, x.2)) := by
  unfold f82 at e
  have hm := mi_82
  generalize hk : (some (0, x.1), (G, ρ, x.2)) = rr
  replace hk : (Bi G ρ) x rr := hk.symm
  refine Ex_run 1 (i' := 1) (L' := [(2, ((v0 : Nat) : Int)), (0, v1), (0, v2), (2, ((v3 : Nat) : Int)), (9, 0), (9, 0), (9, 0), (9, 0)]) (st' := [(0, v2)]) (h' := (G, ρ, m)) hm rfl cjn ?_
  by_cases c1 : v2 = 0
  · replace e := it_p e c1
    refine Ex_if1f (c := 1) (tgt := 4) hm rfl (bf1 c1) ?_
    refine Ex_run 2 (i' := 8) (L' := [(2, ((v0 : Nat) : Int)), (0, v1), (0, v2), (2, ((v3 : Nat) : Int)), (9, 0), (9, 0), (9, 0), (9, 0)]) (st' := [(0, 0)]) (h' := (G, ρ, m)) hm rfl cjn ?_
    exact tf82_8 e hd rr hk
  · replace e := it_n e c1
    refine Ex_if1t (c := 1) (tgt := 4) hm rfl (bt1 c1) ?_
    obtain ⟨g31, e⟩ := gd_s e
    refine Ex_run 3 (i' := 7) (L' := [(2, ((v0 : Nat) : Int)), (0, v1), (0, v2), (2, ((v3 : Nat) : Int)), (9, 0), (9, 0), (9, 0), (9, 0)]) (st' := [(0, v1), (2, (((ρ v0 2) : Nat) : Int))]) (h' := (G, ρ, m)) hm rfl (cjc (gk_b g31) cjn) ?_
    obtain ⟨g32, e⟩ := gd_s e
    obtain ⟨q33, h33, e⟩ := bn_s e
    refine Ex_callm (z := 33) (na := 2) (ck := 6) (as := [(2, (((ρ v0 2) : Nat) : Int)), (0, v1)]) (rest := []) (E0 := [(2, (((ρ v0 2) : Nat) : Int)), (0, v1)]) (v := some (0, q33)) (h1 := (G, ρ, m)) hm rfl (by omega) ⟨Nat.le_of_ble_eq_true rfl, Nat.le_of_ble_eq_true rfl⟩ (rc2 rfl g32) rfl rfl ml_33 rfl (Nat.le_of_ble_eq_true rfl) (tf33 h33 (by omega)) ?_
    show Ex d 82 8 [(2, ((v0 : Nat) : Int)), (0, v1), (0, v2), (2, ((v3 : Nat) : Int)), (9, 0), (9, 0), (9, 0), (9, 0)] [(0, q33)] (G, ρ, m) rr
    exact tf82_8 e hd rr hk
theorem tf88_16 {G : Gg} {ρ : Rg} {d : Nat} {v0 : Nat} {v1 : Int} {v2 : Int} {w0 : Int} {m : Sg} {x : (Int) ⊕ (Int)} (e : f88_16 G ρ v0 v1 v2 w0 m = some x) (hd : 2 ≤ d) (rr : Option MV × Mh) (hk : (DS (e88_2 G ρ d v0 v1 m) (Bpi G ρ m)) x rr) (j3 : MV) : Ex d 88 16 [(2, ((v0 : Nat) : Int)), (0, v1), (0, v2), j3] [(0, w0)] (G, ρ, m) rr := by
  unfold f88_16 at e
  have hm := mi_88
  refine Ex_run 2 (i' := 18) (L' := [(2, ((v0 : Nat) : Int)), (0, v1), (0, v2), (0, w0)]) (st' := [(0, w0)]) (h' := (G, ρ, m)) hm rfl (cjc (Nat.le_of_ble_eq_true rfl) cjn) ?_
  by_cases c7 : w0 = 0
  · replace e := it_p e c7
    refine Ex_if1t (c := 0) (tgt := 34) hm rfl (bt0 c7) ?_
    refine Ex_run 2 (i' := 2) (L' := [(2, ((v0 : Nat) : Int)), (0, v1), (0, (w32 (v2 + 1))), (0, w0)]) (st' := []) (h' := (G, ρ, m)) hm rfl cjn ?_
    cases e
    exact hk _
  · replace e := it_n e c7
    refine Ex_if1f (c := 0) (tgt := 34) hm rfl (bf0 c7) ?_
    obtain ⟨g8, e⟩ := gd_s e
    refine Ex_run 7 (i' := 26) (L' := [(2, ((v0 : Nat) : Int)), (0, v1), (0, v2), (0, w0)]) (st' := [(0, (g_add (m v0 3) 1)), (0, v2), (0, v1), (2, ((v0 : Nat) : Int))]) (h' := (G, ρ, m)) hm rfl (cjc (gk_b g8) cjn) ?_
    obtain ⟨q9, h9, e⟩ := bn_s e
    refine Ex_callm (z := 94) (na := 4) (ck := 13) (as := [(2, ((v0 : Nat) : Int)), (0, v1), (0, v2), (0, (g_add (m v0 3) 1))]) (rest := []) (E0 := [(2, ((v0 : Nat) : Int)), (0, v1), (0, v2), (0, (g_add (m v0 3) 1)), (9, 0), (9, 0), (9, 0)]) (v := some (0, q9)) (h1 := (G, ρ, m)) hm rfl (by omega) ⟨Nat.le_of_ble_eq_true rfl, Nat.le_of_ble_eq_true rfl⟩ (rc2 rfl g8) rfl rfl ml_94 rfl (Nat.le_of_ble_eq_true rfl) (tf94 h9 (by omega)) ?_
    show Ex d 88 27 [(2, ((v0 : Nat) : Int)), (0, v1), (0, v2), (0, w0)] [(0, q9)] (G, ρ, m) rr
    refine Ex_run 3 (i' := 30) (L' := [(2, ((v0 : Nat) : Int)), (0, v1), (0, v2), (0, w0)]) (st' := [(0, v1), (2, (((ρ v0 0) : Nat) : Int)), (0, q9)]) (h' := (G, ρ, m)) hm rfl (cjc (gk_b g8) cjn) ?_
    obtain ⟨g10, e⟩ := gd_s e
    obtain ⟨q11, h11, e⟩ := bn_s e
    refine Ex_callm (z := 33) (na := 2) (ck := 6) (as := [(2, (((ρ v0 0) : Nat) : Int)), (0, v1)]) (rest := [(0, q9)]) (E0 := [(2, (((ρ v0 0) : Nat) : Int)), (0, v1)]) (v := some (0, q11)) (h1 := (G, ρ, m)) hm rfl (by omega) ⟨Nat.le_of_ble_eq_true rfl, Nat.le_of_ble_eq_true rfl⟩ (rc2 rfl g10) rfl rfl ml_33 rfl (Nat.le_of_ble_eq_true rfl) (tf33 h11 (by omega)) ?_
    show Ex d 88 31 [(2, ((v0 : Nat) : Int)), (0, v1), (0, v2), (0, w0)] [(0, q11), (0, q9)] (G, ρ, m) rr
    by_cases c12 : q9 = q11
    · replace e := it_p e c12
      refine Ex_if2f (c := 1) (tgt := 34) hm rfl (bf1 c12) ?_
      obtain ⟨x, e, hx⟩ := xr_s e
      replace hk : (Bpi G ρ m) x rr := by rw [hx] at hk; exact hk
      refine Ex_run 1 (i' := 33) (L' := [(2, ((v0 : Nat) : Int)), (0, v1), (0, v2), (0, w0)]) (st' := [(0, v2)]) (h' := (G, ρ, m)) hm rfl cjn ?_
      cases e
      cases hk
      exact Ex_ret (k := 1) hm rfl ⟨_, rfl, rfl⟩
    · replace e := it_n e c12
      refine Ex_if2t (c := 1) (tgt := 34) hm rfl (bt1 c12) ?_
      refine Ex_run 2 (i' := 2) (L' := [(2, ((v0 : Nat) : Int)), (0, v1), (0, (w32 (v2 + 1))), (0, w0)]) (st' := []) (h' := (G, ρ, m)) hm rfl cjn ?_
      cases e
      exact hk _
theorem tf88_b2 {G : Gg} {ρ : Rg} {d : Nat} {v0 : Nat} {v1 : Int} {m : Sg} {s : Int} {x : (Int) ⊕ (Int)} (e : f88_b2 G ρ v0 v1 m s = some x) (hd : 2 ≤ d) (rr : Option MV × Mh) (hk : (DS (e88_2 G ρ d v0 v1 m) (Bpi G ρ m)) x rr) : e88_2 G ρ d v0 v1 m s rr := by
  unfold f88_b2 at e
  have hm := mi_88
  show ∀ (j3 : MV), Ex d 88 2 [(2, ((v0 : Nat) : Int)), (0, v1), (0, s), j3] [] (G, ρ, m) rr
  intro j3
  refine Ex_run 2 (i' := 4) (L' := [(2, ((v0 : Nat) : Int)), (0, v1), (0, s), j3]) (st' := [(0, 5), (0, s)]) (h' := (G, ρ, m)) hm rfl cjn ?_
  by_cases c1 : 5 < s
  · replace e := it_p e c1
    refine Ex_if2t (c := 4) (tgt := 36) hm rfl (bt4 c1) ?_
    obtain ⟨x, e, hx⟩ := xr_s e
    replace hk : (Bpi G ρ m) x rr := by rw [hx] at hk; exact hk
    refine Ex_run 1 (i' := 37) (L' := [(2, ((v0 : Nat) : Int)), (0, v1), (0, s), j3]) (st' := [(0, 0)]) (h' := (G, ρ, m)) hm rfl cjn ?_
    cases e
    cases hk
    exact Ex_ret (k := 1) hm rfl ⟨_, rfl, rfl⟩
  · replace e := it_n e c1
    refine Ex_if2f (c := 4) (tgt := 36) hm rfl (bf4 c1) ?_
    obtain ⟨g2, e⟩ := gd_s e
    refine Ex_run 4 (i' := 9) (L' := [(2, ((v0 : Nat) : Int)), (0, v1), (0, s), j3]) (st' := [(0, s), (0, v1), (2, (((ρ v0 1) : Nat) : Int))]) (h' := (G, ρ, m)) hm rfl (cjc (gk_b g2) cjn) ?_
    obtain ⟨q3, h3, e⟩ := bn_s e
    refine Ex_callm (z := 91) (na := 2) (ck := 0) (as := [(0, v1), (0, s)]) (rest := [(2, (((ρ v0 1) : Nat) : Int))]) (E0 := [(0, v1), (0, s)]) (v := some (0, q3)) (h1 := (G, ρ, m)) hm rfl (by omega) ⟨Nat.le_of_ble_eq_true rfl, Nat.le_of_ble_eq_true rfl⟩ (trivial) rfl rfl ml_91 rfl (Nat.le_of_ble_eq_true rfl) (tf91 h3 (by omega)) ?_
    show Ex d 88 10 [(2, ((v0 : Nat) : Int)), (0, v1), (0, s), j3] [(0, q3), (2, (((ρ v0 1) : Nat) : Int))] (G, ρ, m) rr
    obtain ⟨g4, e⟩ := gd_s e
    obtain ⟨q5, h5, e⟩ := bn_s e
    refine Ex_callm (z := 33) (na := 2) (ck := 6) (as := [(2, (((ρ v0 1) : Nat) : Int)), (0, q3)]) (rest := []) (E0 := [(2, (((ρ v0 1) : Nat) : Int)), (0, q3)]) (v := some (0, q5)) (h1 := (G, ρ, m)) hm rfl (by omega) ⟨Nat.le_of_ble_eq_true rfl, Nat.le_of_ble_eq_true rfl⟩ (rc2 rfl g4) rfl rfl ml_33 rfl (Nat.le_of_ble_eq_true rfl) (tf33 h5 (by omega)) ?_
    show Ex d 88 11 [(2, ((v0 : Nat) : Int)), (0, v1), (0, s), j3] [(0, q5)] (G, ρ, m) rr
    refine Ex_run 1 (i' := 12) (L' := [(2, ((v0 : Nat) : Int)), (0, v1), (0, s), j3]) (st' := [(0, 4), (0, q5)]) (h' := (G, ρ, m)) hm rfl cjn ?_
    by_cases c6 : q5 = 4
    · replace e := it_p e c6
      refine Ex_if2t (c := 0) (tgt := 15) hm rfl (bt0 c6) ?_
      refine Ex_run 1 (i' := 16) (L' := [(2, ((v0 : Nat) : Int)), (0, v1), (0, s), j3]) (st' := [(0, 0)]) (h' := (G, ρ, m)) hm rfl cjn ?_
      exact tf88_16 e hd rr hk _
    · replace e := it_n e c6
      refine Ex_if2f (c := 0) (tgt := 15) hm rfl (bf0 c6) ?_
      refine Ex_run 2 (i' := 16) (L' := [(2, ((v0 : Nat) : Int)), (0, v1), (0, s), j3]) (st' := [(0, 1)]) (h' := (G, ρ, m)) hm rfl cjn ?_
      exact tf88_16 e hd rr hk _
theorem tf88 {G : Gg} {ρ : Rg} {d : Nat} {v0 : Nat} {v1 : Int} {m : Sg} {x : Int} (e : f88 G ρ v0 v1 m = some x) (hd : 2 ≤ d) : Ex d 88 0 [(2, ((v0 : Nat) : Int)), (0, v1), (9, 0), (9, 0)] [] (G, ρ, m) (some (0, x), (G, ρ, m)) := by
  unfold f88 at e
  have hm := mi_88
  generalize hk : (some (0, x), (G, ρ, m)) = rr
  replace hk : (Bpi G ρ m) x rr := hk.symm
  refine Ex_run 2 (i' := 2) (L' := [(2, ((v0 : Nat) : Int)), (0, v1), (0, 1), (9, 0)]) (st' := []) (h' := (G, ρ, m)) hm rfl (cjc (Nat.le_of_ble_eq_true rfl) cjn) ?_
  exact (Ex_lp (A := e88_2 G ρ d v0 v1 m ) (B := (Bpi G ρ m)) (fun s x e rr hk => tf88_b2 e hd rr hk) FU _ _ e rr hk) _
theorem tf90_b23 {G : Gg} {ρ : Rg} {d : Nat} {v0 : Nat} {m : Sg} {s : Int × Int × Int} {x : (Int × Int × Int) ⊕ (Int)} (e : f90_b23 G ρ v0 m s = some x) (hd : 3 ≤ d) (rr : Option MV × Mh) (hk : (DS (e90_23 G ρ d v0 m) (Bpi G ρ m)) x rr) : e90_23 G ρ d v0 m s rr := by
  unfold f90_b23 at e
  have hm := mi_90
  show ∀ (j1 : Int), Ex d 90 23 [(2, ((v0 : Nat) : Int)), (0, j1), (0, s.1), (0, s.2.1), (0, s.2.2)] [] (G, ρ, m) rr
  intro j1
  obtain ⟨g7, e⟩ := gd_s e
  refine Ex_run 3 (i' := 26) (L' := [(2, ((v0 : Nat) : Int)), (0, j1), (0, s.1), (0, s.2.1), (0, s.2.2)]) (st' := [(0, (m v0 3)), (0, s.2.2)]) (h' := (G, ρ, m)) hm rfl (cjc (gk_b g7) cjn) ?_
  by_cases c8 : s.2.2 < (m v0 3)
  · replace e := it_p e c8
    refine Ex_if2f (c := 3) (tgt := 44) hm rfl (bf3 c8) ?_
    refine Ex_run 11 (i' := 38) (L' := [(2, ((v0 : Nat) : Int)), (0, j1), (0, s.1), (0, (g_or s.2.1 (g_shl 1 s.1))), (0, s.2.2)]) (st' := [(0, s.1), (2, ((v0 : Nat) : Int)), (0, s.1), (2, (((ρ v0 2) : Nat) : Int))]) (h' := (G, ρ, m)) hm rfl (cjc (Nat.le_of_ble_eq_true rfl) (cjc (gk_b g7) cjn)) ?_
    obtain ⟨q9, h9, e⟩ := bn_s e
    refine Ex_callm (z := 88) (na := 2) (ck := 13) (as := [(2, ((v0 : Nat) : Int)), (0, s.1)]) (rest := [(0, s.1), (2, (((ρ v0 2) : Nat) : Int))]) (E0 := [(2, ((v0 : Nat) : Int)), (0, s.1), (9, 0), (9, 0)]) (v := some (0, q9)) (h1 := (G, ρ, m)) hm rfl (by omega) ⟨Nat.le_of_ble_eq_true rfl, Nat.le_of_ble_eq_true rfl⟩ (rc2 rfl g7) rfl rfl ml_88 rfl (Nat.le_of_ble_eq_true rfl) (tf88 h9 (by omega)) ?_
    show Ex d 90 39 [(2, ((v0 : Nat) : Int)), (0, j1), (0, s.1), (0, (g_or s.2.1 (g_shl 1 s.1))), (0, s.2.2)] [(0, q9), (0, s.1), (2, (((ρ v0 2) : Nat) : Int))] (G, ρ, m) rr
    obtain ⟨q10, h10, e⟩ := bn_s e
    refine Ex_callm (z := 91) (na := 2) (ck := 0) (as := [(0, s.1), (0, q9)]) (rest := [(2, (((ρ v0 2) : Nat) : Int))]) (E0 := [(0, s.1), (0, q9)]) (v := some (0, q10)) (h1 := (G, ρ, m)) hm rfl (by omega) ⟨Nat.le_of_ble_eq_true rfl, Nat.le_of_ble_eq_true rfl⟩ (trivial) rfl rfl ml_91 rfl (Nat.le_of_ble_eq_true rfl) (tf91 h10 (by omega)) ?_
    show Ex d 90 40 [(2, ((v0 : Nat) : Int)), (0, j1), (0, s.1), (0, (g_or s.2.1 (g_shl 1 s.1))), (0, s.2.2)] [(0, q10), (2, (((ρ v0 2) : Nat) : Int))] (G, ρ, m) rr
    obtain ⟨g11, e⟩ := gd_s e
    obtain ⟨q12, h12, e⟩ := bn_s e
    refine Ex_callm (z := 33) (na := 2) (ck := 6) (as := [(2, (((ρ v0 2) : Nat) : Int)), (0, q10)]) (rest := []) (E0 := [(2, (((ρ v0 2) : Nat) : Int)), (0, q10)]) (v := some (0, q12)) (h1 := (G, ρ, m)) hm rfl (by omega) ⟨Nat.le_of_ble_eq_true rfl, Nat.le_of_ble_eq_true rfl⟩ (rc2 rfl g11) rfl rfl ml_33 rfl (Nat.le_of_ble_eq_true rfl) (tf33 h12 (by omega)) ?_
    show Ex d 90 41 [(2, ((v0 : Nat) : Int)), (0, j1), (0, s.1), (0, (g_or s.2.1 (g_shl 1 s.1))), (0, s.2.2)] [(0, q12)] (G, ρ, m) rr
    refine Ex_run 3 (i' := 23) (L' := [(2, ((v0 : Nat) : Int)), (0, j1), (0, q12), (0, (g_or s.2.1 (g_shl 1 s.1))), (0, (w32 (s.2.2 + 1)))]) (st' := []) (h' := (G, ρ, m)) hm rfl (cjc (Nat.le_of_ble_eq_true rfl) cjn) ?_
    cases e
    exact hk _
  · replace e := it_n e c8
    refine Ex_if2t (c := 3) (tgt := 44) hm rfl (bt3 c8) ?_
    obtain ⟨x, e, hx⟩ := xr_s e
    replace hk : (Bpi G ρ m) x rr := by rw [hx] at hk; exact hk
    refine Ex_run 1 (i' := 45) (L' := [(2, ((v0 : Nat) : Int)), (0, j1), (0, s.1), (0, s.2.1), (0, s.2.2)]) (st' := [(0, s.2.1)]) (h' := (G, ρ, m)) hm rfl cjn ?_
    cases e
    cases hk
    exact Ex_ret (k := 1) hm rfl ⟨_, rfl, rfl⟩
theorem tf90_b4 {G : Gg} {ρ : Rg} {d : Nat} {v0 : Nat} {m : Sg} {s : Int × Int} {x : (Int × Int) ⊕ (Int)} (e : f90_b4 G ρ v0 m s = some x) (hd : 3 ≤ d) (rr : Option MV × Mh) (hk : (DS (e90_4 G ρ d v0 m) (Bpi G ρ m)) x rr) : e90_4 G ρ d v0 m s rr := by
  unfold f90_b4 at e
  have hm := mi_90
  show ∀ (j1 : Int), Ex d 90 4 [(2, ((v0 : Nat) : Int)), (0, j1), (0, s.1), (0, s.2), (9, 0)] [] (G, ρ, m) rr
  intro j1
  obtain ⟨g1, e⟩ := gd_s e
  refine Ex_run 3 (i' := 7) (L' := [(2, ((v0 : Nat) : Int)), (0, j1), (0, s.1), (0, s.2), (9, 0)]) (st' := [(0, (m v0 3)), (0, s.2)]) (h' := (G, ρ, m)) hm rfl (cjc (gk_b g1) cjn) ?_
  by_cases c2 : s.2 < (m v0 3)
  · replace e := it_p e c2
    refine Ex_if2f (c := 3) (tgt := 19) hm rfl (bf3 c2) ?_
    refine Ex_run 5 (i' := 13) (L' := [(2, ((v0 : Nat) : Int)), (0, j1), (0, s.1), (0, s.2), (9, 0)]) (st' := [(0, s.1), (2, ((v0 : Nat) : Int)), (0, s.1), (2, (((ρ v0 2) : Nat) : Int))]) (h' := (G, ρ, m)) hm rfl (cjc (gk_b g1) cjn) ?_
    obtain ⟨q3, h3, e⟩ := bn_s e
    refine Ex_callm (z := 88) (na := 2) (ck := 13) (as := [(2, ((v0 : Nat) : Int)), (0, s.1)]) (rest := [(0, s.1), (2, (((ρ v0 2) : Nat) : Int))]) (E0 := [(2, ((v0 : Nat) : Int)), (0, s.1), (9, 0), (9, 0)]) (v := some (0, q3)) (h1 := (G, ρ, m)) hm rfl (by omega) ⟨Nat.le_of_ble_eq_true rfl, Nat.le_of_ble_eq_true rfl⟩ (rc2 rfl g1) rfl rfl ml_88 rfl (Nat.le_of_ble_eq_true rfl) (tf88 h3 (by omega)) ?_
    show Ex d 90 14 [(2, ((v0 : Nat) : Int)), (0, j1), (0, s.1), (0, s.2), (9, 0)] [(0, q3), (0, s.1), (2, (((ρ v0 2) : Nat) : Int))] (G, ρ, m) rr
    obtain ⟨q4, h4, e⟩ := bn_s e
    refine Ex_callm (z := 91) (na := 2) (ck := 0) (as := [(0, s.1), (0, q3)]) (rest := [(2, (((ρ v0 2) : Nat) : Int))]) (E0 := [(0, s.1), (0, q3)]) (v := some (0, q4)) (h1 := (G, ρ, m)) hm rfl (by omega) ⟨Nat.le_of_ble_eq_true rfl, Nat.le_of_ble_eq_true rfl⟩ (trivial) rfl rfl ml_91 rfl (Nat.le_of_ble_eq_true rfl) (tf91 h4 (by omega)) ?_
    show Ex d 90 15 [(2, ((v0 : Nat) : Int)), (0, j1), (0, s.1), (0, s.2), (9, 0)] [(0, q4), (2, (((ρ v0 2) : Nat) : Int))] (G, ρ, m) rr
    obtain ⟨g5, e⟩ := gd_s e
    obtain ⟨q6, h6, e⟩ := bn_s e
    refine Ex_callm (z := 33) (na := 2) (ck := 6) (as := [(2, (((ρ v0 2) : Nat) : Int)), (0, q4)]) (rest := []) (E0 := [(2, (((ρ v0 2) : Nat) : Int)), (0, q4)]) (v := some (0, q6)) (h1 := (G, ρ, m)) hm rfl (by omega) ⟨Nat.le_of_ble_eq_true rfl, Nat.le_of_ble_eq_true rfl⟩ (rc2 rfl g5) rfl rfl ml_33 rfl (Nat.le_of_ble_eq_true rfl) (tf33 h6 (by omega)) ?_
    show Ex d 90 16 [(2, ((v0 : Nat) : Int)), (0, j1), (0, s.1), (0, s.2), (9, 0)] [(0, q6)] (G, ρ, m) rr
    refine Ex_run 3 (i' := 4) (L' := [(2, ((v0 : Nat) : Int)), (0, j1), (0, q6), (0, (w32 (s.2 + 1))), (9, 0)]) (st' := []) (h' := (G, ρ, m)) hm rfl (cjc (Nat.le_of_ble_eq_true rfl) cjn) ?_
    cases e
    exact hk _
  · replace e := it_n e c2
    refine Ex_if2t (c := 3) (tgt := 19) hm rfl (bt3 c2) ?_
    obtain ⟨x, e, hx⟩ := xr_s e
    replace hk : (Bpi G ρ m) x rr := by rw [hx] at hk; exact hk
    refine Ex_run 4 (i' := 23) (L' := [(2, ((v0 : Nat) : Int)), (0, j1), (0, s.1), (0, 0), (0, 0)]) (st' := []) (h' := (G, ρ, m)) hm rfl (cjc (Nat.le_of_ble_eq_true rfl) (cjc (Nat.le_of_ble_eq_true rfl) cjn)) ?_
    exact (Ex_lp (A := e90_23 G ρ d v0 m ) (B := (Bpi G ρ m)) (fun s x e rr hk => tf90_b23 e hd rr hk) FU _ _ e rr hk) _
theorem tf90 {G : Gg} {ρ : Rg} {d : Nat} {v0 : Nat} {v1 : Int} {m : Sg} {x : Int} (e : f90 G ρ v0 v1 m = some x) (hd : 3 ≤ d) : Ex d 90 0 [(2, ((v0 : Nat) : Int)), (0, v1), (9, 0), (9, 0), (9, 0)] [] (G, ρ, m) (some (0, x), (G, ρ, m)) := by
  unfold f90 at e
  have hm := mi_90
  generalize hk : (some (0, x), (G, ρ, m)) = rr
  replace hk : (Bpi G ρ m) x rr := hk.symm
  refine Ex_run 4 (i' := 4) (L' := [(2, ((v0 : Nat) : Int)), (0, v1), (0, v1), (0, 0), (9, 0)]) (st' := []) (h' := (G, ρ, m)) hm rfl (cjc (Nat.le_of_ble_eq_true rfl) (cjc (Nat.le_of_ble_eq_true rfl) cjn)) ?_
  exact (Ex_lp (A := e90_4 G ρ d v0 m ) (B := (Bpi G ρ m)) (fun s x e rr hk => tf90_b4 e hd rr hk) FU _ _ e rr hk) _
theorem tf224 {G : Gg} {ρ : Rg} {d : Nat} {v0 : Int} {v1 : Int} {m : Sg} {x : Int} (e : f224 G ρ v0 v1 m = some x) (hd : 0 ≤ d) : Ex d 224 0 [(0, v0), (0, v1), (9, 0)] [] (G, ρ, m) (some (0, x), (G, ρ, m)) := by
  unfold f224 at e
  have hm := mi_224
  generalize hk : (some (0, x), (G, ρ, m)) = rr
  replace hk : (Bpi G ρ m) x rr := hk.symm
  obtain ⟨g1, e⟩ := gd_s e
  refine Ex_run 7 (i' := 7) (L' := [(0, v0), (0, v1), (0, (g_rem v0 v1))]) (st' := [(0, (g_xor v0 v1))]) (h' := (G, ρ, m)) hm rfl (cjc g1 (cjc (Nat.le_of_ble_eq_true rfl) cjn)) ?_
  by_cases c2 : (g_xor v0 v1) < 0
  · replace e := it_p e c2
    refine Ex_if1f (c := 3) (tgt := 14) hm rfl (bf3 c2) ?_
    refine Ex_run 1 (i' := 9) (L' := [(0, v0), (0, v1), (0, (g_rem v0 v1))]) (st' := [(0, (g_rem v0 v1))]) (h' := (G, ρ, m)) hm rfl cjn ?_
    by_cases c3 : (g_rem v0 v1) = 0
    · replace e := it_p e c3
      refine Ex_if1t (c := 0) (tgt := 14) hm rfl (bt0 c3) ?_
      refine Ex_run 1 (i' := 15) (L' := [(0, v0), (0, v1), (0, (g_rem v0 v1))]) (st' := [(0, (g_rem v0 v1))]) (h' := (G, ρ, m)) hm rfl cjn ?_
      cases e
      cases hk
      exact Ex_ret (k := 1) hm rfl ⟨_, rfl, rfl⟩
    · replace e := it_n e c3
      refine Ex_if1f (c := 0) (tgt := 14) hm rfl (bf0 c3) ?_
      refine Ex_run 3 (i' := 13) (L' := [(0, v0), (0, v1), (0, (g_rem v0 v1))]) (st' := [(0, (g_add (g_rem v0 v1) v1))]) (h' := (G, ρ, m)) hm rfl cjn ?_
      cases e
      cases hk
      exact Ex_ret (k := 1) hm rfl ⟨_, rfl, rfl⟩
  · replace e := it_n e c2
    refine Ex_if1t (c := 3) (tgt := 14) hm rfl (bt3 c2) ?_
    refine Ex_run 1 (i' := 15) (L' := [(0, v0), (0, v1), (0, (g_rem v0 v1))]) (st' := [(0, (g_rem v0 v1))]) (h' := (G, ρ, m)) hm rfl cjn ?_
    cases e
    cases hk
    exact Ex_ret (k := 1) hm rfl ⟨_, rfl, rfl⟩
theorem tf95_57 {d : Nat} {v0 : Nat} {v2 : Int} {w0 : Nat} {h : Mh} {x : Mh} (e : f95_57 v0 v2 w0 h = some x) (hd : 56 ≤ d) (rr : Option MV × Mh) (hk : Hv x rr) (j1 : Int) : Ex d 95 57 [(2, ((v0 : Nat) : Int)), (0, j1), (0, v2)] [(2, ((w0 : Nat) : Int))] h rr := by
  unfold f95_57 at e
  have hm := mi_95
  refine Ex_run 3 (i' := 60) (L' := [(2, ((v0 : Nat) : Int)), (0, j1), (0, v2)]) (st' := [(0, v2), (2, (((List.length h.1) : Nat) : Int)), (2, (((List.length h.1) : Nat) : Int)), (2, ((w0 : Nat) : Int))]) (h' := ((h.1 ++ [(7, 4)]), (zapR h.2.1 (List.length h.1)), (zap h.2.2 (List.length h.1)))) hm rfl cjn ?_
  obtain ⟨g28, e⟩ := gd_s e
  obtain ⟨q29, h29, e⟩ := bn_s e
  refine Ex_callm (z := 37) (na := 2) (ck := 1) (as := [(2, (((List.length h.1) : Nat) : Int)), (0, v2)]) (rest := [(2, (((List.length h.1) : Nat) : Int)), (2, ((w0 : Nat) : Int))]) (E0 := [(2, (((List.length h.1) : Nat) : Int)), (0, v2)]) (v := none) (h1 := (q29.1, q29.2.1, q29.2.2)) hm rfl (by omega) ⟨Nat.le_of_ble_eq_true rfl, Nat.le_of_ble_eq_true rfl⟩ (⟨_, rfl, nz_i g28⟩) rfl rfl ml_37 rfl (Nat.le_of_ble_eq_true rfl) (tf37 h29 (by omega)) ?_
  show Ex d 95 61 [(2, ((v0 : Nat) : Int)), (0, j1), (0, v2)] [(2, (((List.length h.1) : Nat) : Int)), (2, ((w0 : Nat) : Int))] (q29.1, q29.2.1, q29.2.2) rr
  obtain ⟨g30, e⟩ := gd_s e
  refine Ex_run 5 (i' := 66) (L' := [(2, ((v0 : Nat) : Int)), (0, j1), (0, v2)]) (st' := [(0, v2), (2, (((List.length q29.1) : Nat) : Int)), (2, (((List.length q29.1) : Nat) : Int)), (2, ((v0 : Nat) : Int))]) (h' := ((q29.1 ++ [(7, 4)]), (zapR (putR q29.2.1 w0 0 (List.length h.1)) (List.length q29.1)), (zap q29.2.2 (List.length q29.1)))) hm rfl (cjc (gk_b g30) (cjc (nz_i g28) cjn)) ?_
  obtain ⟨g31, e⟩ := gd_s e
  obtain ⟨q32, h32, e⟩ := bn_s e
  refine Ex_callm (z := 37) (na := 2) (ck := 1) (as := [(2, (((List.length q29.1) : Nat) : Int)), (0, v2)]) (rest := [(2, (((List.length q29.1) : Nat) : Int)), (2, ((v0 : Nat) : Int))]) (E0 := [(2, (((List.length q29.1) : Nat) : Int)), (0, v2)]) (v := none) (h1 := (q32.1, q32.2.1, q32.2.2)) hm rfl (by omega) ⟨Nat.le_of_ble_eq_true rfl, Nat.le_of_ble_eq_true rfl⟩ (⟨_, rfl, nz_i g31⟩) rfl rfl ml_37 rfl (Nat.le_of_ble_eq_true rfl) (tf37 h32 (by omega)) ?_
  show Ex d 95 67 [(2, ((v0 : Nat) : Int)), (0, j1), (0, v2)] [(2, (((List.length q29.1) : Nat) : Int)), (2, ((v0 : Nat) : Int))] (q32.1, q32.2.1, q32.2.2) rr
  obtain ⟨g33, e⟩ := gd_s e
  refine Ex_run 5 (i' := 72) (L' := [(2, ((v0 : Nat) : Int)), (0, j1), (0, v2)]) (st' := [(0, v2), (2, (((List.length q32.1) : Nat) : Int)), (2, (((List.length q32.1) : Nat) : Int)), (2, ((v0 : Nat) : Int))]) (h' := ((q32.1 ++ [(3, 7)]), (zapR (putR q32.2.1 v0 5 (List.length q29.1)) (List.length q32.1)), (zap q32.2.2 (List.length q32.1)))) hm rfl (cjc (gk_b g33) (cjc (nz_i g31) cjn)) ?_
  obtain ⟨g34, e⟩ := gd_s e
  obtain ⟨q35, h35, e⟩ := bn_s e
  refine Ex_callm (z := 0) (na := 2) (ck := 1) (as := [(2, (((List.length q32.1) : Nat) : Int)), (0, v2)]) (rest := [(2, (((List.length q32.1) : Nat) : Int)), (2, ((v0 : Nat) : Int))]) (E0 := [(2, (((List.length q32.1) : Nat) : Int)), (0, v2)]) (v := none) (h1 := (q35.1, q35.2.1, q35.2.2)) hm rfl (by omega) ⟨Nat.le_of_ble_eq_true rfl, Nat.le_of_ble_eq_true rfl⟩ (⟨_, rfl, nz_i g34⟩) rfl rfl ml_0 rfl (Nat.le_of_ble_eq_true rfl) (tf0 h35 (by omega)) ?_
  show Ex d 95 73 [(2, ((v0 : Nat) : Int)), (0, j1), (0, v2)] [(2, (((List.length q32.1) : Nat) : Int)), (2, ((v0 : Nat) : Int))] (q35.1, q35.2.1, q35.2.2) rr
  obtain ⟨g36, e⟩ := gd_s e
  refine Ex_run 5 (i' := 78) (L' := [(2, ((v0 : Nat) : Int)), (0, j1), (0, v2)]) (st' := [(0, v2), (2, (((List.length q35.1) : Nat) : Int)), (2, (((List.length q35.1) : Nat) : Int)), (2, ((v0 : Nat) : Int))]) (h' := ((q35.1 ++ [(11, 10)]), (zapR (putR q35.2.1 v0 2 (List.length q32.1)) (List.length q35.1)), (zap q35.2.2 (List.length q35.1)))) hm rfl (cjc (gk_b g36) (cjc (nz_i g34) cjn)) ?_
  obtain ⟨g37, e⟩ := gd_s e
  obtain ⟨q38, h38, e⟩ := bn_s e
  refine Ex_callm (z := 64) (na := 2) (ck := 1) (as := [(2, (((List.length q35.1) : Nat) : Int)), (0, v2)]) (rest := [(2, (((List.length q35.1) : Nat) : Int)), (2, ((v0 : Nat) : Int))]) (E0 := [(2, (((List.length q35.1) : Nat) : Int)), (0, v2)]) (v := none) (h1 := (q38.1, q38.2.1, q38.2.2)) hm rfl (by omega) ⟨Nat.le_of_ble_eq_true rfl, Nat.le_of_ble_eq_true rfl⟩ (⟨_, rfl, nz_i g37⟩) rfl rfl ml_64 rfl (Nat.le_of_ble_eq_true rfl) (tf64 h38 (by omega)) ?_
  show Ex d 95 79 [(2, ((v0 : Nat) : Int)), (0, j1), (0, v2)] [(2, (((List.length q35.1) : Nat) : Int)), (2, ((v0 : Nat) : Int))] (q38.1, q38.2.1, q38.2.2) rr
  obtain ⟨g39, e⟩ := gd_s e
  refine Ex_run 5 (i' := 84) (L' := [(2, ((v0 : Nat) : Int)), (0, j1), (0, v2)]) (st' := [(0, v2), (2, (((List.length q38.1) : Nat) : Int)), (2, (((List.length q38.1) : Nat) : Int)), (2, ((v0 : Nat) : Int))]) (h' := ((q38.1 ++ [(4, 8)]), (zapR (putR q38.2.1 v0 4 (List.length q35.1)) (List.length q38.1)), (zap q38.2.2 (List.length q38.1)))) hm rfl (cjc (gk_b g39) (cjc (nz_i g37) cjn)) ?_
  obtain ⟨g40, e⟩ := gd_s e
  obtain ⟨q41, h41, e⟩ := bn_s e
  refine Ex_callm (z := 3) (na := 2) (ck := 1) (as := [(2, (((List.length q38.1) : Nat) : Int)), (0, v2)]) (rest := [(2, (((List.length q38.1) : Nat) : Int)), (2, ((v0 : Nat) : Int))]) (E0 := [(2, (((List.length q38.1) : Nat) : Int)), (0, v2)]) (v := none) (h1 := (q41.1, q41.2.1, q41.2.2)) hm rfl (by omega) ⟨Nat.le_of_ble_eq_true rfl, Nat.le_of_ble_eq_true rfl⟩ (⟨_, rfl, nz_i g40⟩) rfl rfl ml_3 rfl (Nat.le_of_ble_eq_true rfl) (tf3 h41 (by omega)) ?_
  show Ex d 95 85 [(2, ((v0 : Nat) : Int)), (0, j1), (0, v2)] [(2, (((List.length q38.1) : Nat) : Int)), (2, ((v0 : Nat) : Int))] (q41.1, q41.2.1, q41.2.2) rr
  obtain ⟨g42, e⟩ := gd_s e
  refine Ex_run 4 (i' := 89) (L' := [(2, ((v0 : Nat) : Int)), (0, j1), (0, v2)]) (st' := [(0, 20), (2, ((((putR q41.2.1 v0 6 (List.length q38.1)) v0 11) : Nat) : Int))]) (h' := (q41.1, (putR q41.2.1 v0 6 (List.length q38.1)), q41.2.2)) hm rfl (cjc (gk_b g42) (cjc (nz_i g40) (cjc (gk_b g42) cjn))) ?_
  obtain ⟨g43, e⟩ := gd_s e
  obtain ⟨q44, h44, e⟩ := bn_s e
  refine Ex_callm (z := 35) (na := 2) (ck := 6) (as := [(2, ((((putR q41.2.1 v0 6 (List.length q38.1)) v0 11) : Nat) : Int)), (0, 20)]) (rest := []) (E0 := [(2, ((((putR q41.2.1 v0 6 (List.length q38.1)) v0 11) : Nat) : Int)), (0, 20), (9, 0)]) (v := none) (h1 := (q41.1, (putR q41.2.1 v0 6 (List.length q38.1)), q44)) hm rfl (by omega) ⟨Nat.le_of_ble_eq_true rfl, Nat.le_of_ble_eq_true rfl⟩ (rc2 rfl g43) rfl rfl ml_35 rfl (Nat.le_of_ble_eq_true rfl) (tf35 h44 (by omega)) ?_
  show Ex d 95 90 [(2, ((v0 : Nat) : Int)), (0, j1), (0, v2)] [] (q41.1, (putR q41.2.1 v0 6 (List.length q38.1)), q44) rr
  refine Ex_run 3 (i' := 93) (L' := [(2, ((v0 : Nat) : Int)), (0, j1), (0, v2)]) (st' := [(3, ((0 : Nat) : Int)), (2, ((((putR q41.2.1 v0 6 (List.length q38.1)) v0 7) : Nat) : Int))]) (h' := (q41.1, (putR q41.2.1 v0 6 (List.length q38.1)), q44)) hm rfl (cjc (gk_b g42) cjn) ?_
  obtain ⟨g45, e⟩ := gd_s e
  obtain ⟨q46, h46, e⟩ := bn_s e
  refine Ex_callm (z := 9) (na := 2) (ck := 5) (as := [(2, ((((putR q41.2.1 v0 6 (List.length q38.1)) v0 7) : Nat) : Int)), (3, ((0 : Nat) : Int))]) (rest := []) (E0 := [(2, ((((putR q41.2.1 v0 6 (List.length q38.1)) v0 7) : Nat) : Int)), (3, ((0 : Nat) : Int)), (9, 0)]) (v := none) (h1 := (q41.1, (putR q41.2.1 v0 6 (List.length q38.1)), q46)) hm rfl (by omega) ⟨Nat.le_of_ble_eq_true rfl, Nat.le_of_ble_eq_true rfl⟩ (rc2 rfl g45) rfl rfl ml_9 rfl (Nat.le_of_ble_eq_true rfl) (tf9 h46 (by omega)) ?_
  show Ex d 95 94 [(2, ((v0 : Nat) : Int)), (0, j1), (0, v2)] [] (q41.1, (putR q41.2.1 v0 6 (List.length q38.1)), q46) rr
  refine Ex_run 2 (i' := 96) (L' := [(2, ((v0 : Nat) : Int)), (0, j1), (0, v2)]) (st' := [(2, ((((putR q41.2.1 v0 6 (List.length q38.1)) v0 7) : Nat) : Int))]) (h' := (q41.1, (putR q41.2.1 v0 6 (List.length q38.1)), q46)) hm rfl (cjc (gk_b g42) cjn) ?_
  obtain ⟨q47, h47, e⟩ := bn_s e
  refine Ex_callm (z := 12) (na := 1) (ck := 5) (as := [(2, ((((putR q41.2.1 v0 6 (List.length q38.1)) v0 7) : Nat) : Int))]) (rest := []) (E0 := [(2, ((((putR q41.2.1 v0 6 (List.length q38.1)) v0 7) : Nat) : Int)), (9, 0)]) (v := some (0, q47.1)) (h1 := (q41.1, (putR q41.2.1 v0 6 (List.length q38.1)), q47.2)) hm rfl (by omega) ⟨Nat.le_of_ble_eq_true rfl, Nat.le_of_ble_eq_true rfl⟩ (rc2 rfl g45) rfl rfl ml_12 rfl (Nat.le_of_ble_eq_true rfl) (tf12 h47 (by omega)) ?_
  show Ex d 95 97 [(2, ((v0 : Nat) : Int)), (0, j1), (0, v2)] [(0, q47.1)] (q41.1, (putR q41.2.1 v0 6 (List.length q38.1)), q47.2) rr
  refine Ex_run 5 (i' := 102) (L' := [(2, ((v0 : Nat) : Int)), (0, j1), (0, v2)]) (st' := [(2, ((((putR q41.2.1 v0 6 (List.length q38.1)) v0 7) : Nat) : Int)), (2, ((((putR q41.2.1 v0 6 (List.length q38.1)) v0 8) : Nat) : Int))]) (h' := (q41.1, (putR q41.2.1 v0 6 (List.length q38.1)), q47.2)) hm rfl (cjc (gk_b g42) (cjc (gk_b g42) cjn)) ?_
  obtain ⟨g48, e⟩ := gd_s e
  obtain ⟨q49, h49, e⟩ := bn_s e
  refine Ex_callm (z := 81) (na := 2) (ck := 12) (as := [(2, ((((putR q41.2.1 v0 6 (List.length q38.1)) v0 8) : Nat) : Int)), (2, ((((putR q41.2.1 v0 6 (List.length q38.1)) v0 7) : Nat) : Int))]) (rest := []) (E0 := [(2, ((((putR q41.2.1 v0 6 (List.length q38.1)) v0 8) : Nat) : Int)), (2, ((((putR q41.2.1 v0 6 (List.length q38.1)) v0 7) : Nat) : Int)), (9, 0), (9, 0)]) (v := some (0, q49.1)) (h1 := (q41.1, (putR q41.2.1 v0 6 (List.length q38.1)), q49.2)) hm rfl (by omega) ⟨Nat.le_of_ble_eq_true rfl, Nat.le_of_ble_eq_true rfl⟩ (rc2 rfl g48) rfl rfl ml_81 rfl (Nat.le_of_ble_eq_true rfl) (tf81 h49 (by omega)) ?_
  show Ex d 95 103 [(2, ((v0 : Nat) : Int)), (0, j1), (0, v2)] [(0, q49.1)] (q41.1, (putR q41.2.1 v0 6 (List.length q38.1)), q49.2) rr
  refine Ex_run 3 (i' := 106) (L' := [(2, ((v0 : Nat) : Int)), (0, j1), (0, v2)]) (st' := [(2, ((((putR q41.2.1 v0 6 (List.length q38.1)) v0 7) : Nat) : Int))]) (h' := (q41.1, (putR q41.2.1 v0 6 (List.length q38.1)), q49.2)) hm rfl (cjc (gk_b g42) cjn) ?_
  obtain ⟨q50, h50, e⟩ := bn_s e
  refine Ex_callm (z := 11) (na := 1) (ck := 5) (as := [(2, ((((putR q41.2.1 v0 6 (List.length q38.1)) v0 7) : Nat) : Int))]) (rest := []) (E0 := [(2, ((((putR q41.2.1 v0 6 (List.length q38.1)) v0 7) : Nat) : Int))]) (v := none) (h1 := (q41.1, (putR q41.2.1 v0 6 (List.length q38.1)), q50)) hm rfl (by omega) ⟨Nat.le_of_ble_eq_true rfl, Nat.le_of_ble_eq_true rfl⟩ (rc2 rfl g45) rfl rfl ml_11 rfl (Nat.le_of_ble_eq_true rfl) (tf11 h50 (by omega)) ?_
  show Ex d 95 107 [(2, ((v0 : Nat) : Int)), (0, j1), (0, v2)] [] (q41.1, (putR q41.2.1 v0 6 (List.length q38.1)), q50) rr
  cases e
  cases hk
  exact Ex_ret (k := 0) hm rfl ⟨rfl, rfl⟩
theorem tf95_49 {d : Nat} {v0 : Nat} {v1 : Int} {w0 : Int} {w1 : Nat} {h : Mh} {x : Mh} (e : f95_49 v0 v1 w0 w1 h = some x) (hd : 56 ≤ d) (rr : Option MV × Mh) (hk : Hv x rr) : Ex d 95 49 [(2, ((v0 : Nat) : Int)), (0, v1), (9, 0)] [(0, w0), (2, ((w1 : Nat) : Int))] h rr := by
  unfold f95_49 at e
  have hm := mi_95
  obtain ⟨g26, e⟩ := gd_s e
  refine Ex_run 4 (i' := 53) (L' := [(2, ((v0 : Nat) : Int)), (0, v1), (9, 0)]) (st' := [(0, 7), (0, v1), (0, 4)]) (h' := (h.1, h.2.1, (put h.2.2 w1 14 w0))) hm rfl (cjc (gk_b g26) cjn) ?_
  obtain ⟨q27, h27, e⟩ := bn_s e
  refine Ex_callm (z := 224) (na := 2) (ck := 0) (as := [(0, v1), (0, 7)]) (rest := [(0, 4)]) (E0 := [(0, v1), (0, 7), (9, 0)]) (v := some (0, q27)) (h1 := (h.1, h.2.1, (put h.2.2 w1 14 w0))) hm rfl (by omega) ⟨Nat.le_of_ble_eq_true rfl, Nat.le_of_ble_eq_true rfl⟩ (trivial) rfl rfl ml_224 rfl (Nat.le_of_ble_eq_true rfl) (tf224 h27 (by omega)) ?_
  show Ex d 95 54 [(2, ((v0 : Nat) : Int)), (0, v1), (9, 0)] [(0, q27), (0, 4)] (h.1, h.2.1, (put h.2.2 w1 14 w0)) rr
  refine Ex_run 3 (i' := 57) (L' := [(2, ((v0 : Nat) : Int)), (0, v1), (0, (g_add 4 q27))]) (st' := [(2, ((v0 : Nat) : Int))]) (h' := (h.1, h.2.1, (put h.2.2 w1 14 w0))) hm rfl (cjc (Nat.le_of_ble_eq_true rfl) cjn) ?_
  exact tf95_57 e hd rr hk _
theorem tf95 {d : Nat} {v0 : Nat} {v1 : Int} {h : Mh} {x : Mh} (e : f95 v0 v1 h = some x) (hd : 56 ≤ d) : Ex d 95 0 [(2, ((v0 : Nat) : Int)), (0, v1), (9, 0)] [] h (none, x) := by
  unfold f95 at e
  have hm := mi_95
  generalize hk : (none, x) = rr
  replace hk : Hv x rr := hk.symm
  refine Ex_run 1 (i' := 1) (L' := [(2, ((v0 : Nat) : Int)), (0, v1), (9, 0)]) (st' := [(2, ((v0 : Nat) : Int))]) (h' := (h.1, h.2.1, h.2.2)) hm rfl cjn ?_
  obtain ⟨g1, e⟩ := gd_s e
  refine Ex_prim (k := 1) (i' := 2) (L' := [(2, ((v0 : Nat) : Int)), (0, v1), (9, 0)]) (st' := []) (h' := (h.1, h.2.1, h.2.2)) hm rfl (by omega) rfl (cjc (nz_i g1) (cjc (Nat.le_of_ble_eq_true rfl) cjn)) ?_
  refine Ex_run 3 (i' := 5) (L' := [(2, ((v0 : Nat) : Int)), (0, v1), (9, 0)]) (st' := [(2, (((List.length h.1) : Nat) : Int)), (2, (((List.length h.1) : Nat) : Int)), (2, ((v0 : Nat) : Int))]) (h' := ((h.1 ++ [(13, 4)]), (zapR h.2.1 (List.length h.1)), (zap h.2.2 (List.length h.1)))) hm rfl cjn ?_
  obtain ⟨g2, e⟩ := gd_s e
  obtain ⟨q3, h3, e⟩ := bn_s e
  refine Ex_callm (z := 86) (na := 1) (ck := 1) (as := [(2, (((List.length h.1) : Nat) : Int))]) (rest := [(2, (((List.length h.1) : Nat) : Int)), (2, ((v0 : Nat) : Int))]) (E0 := [(2, (((List.length h.1) : Nat) : Int))]) (v := none) (h1 := (q3.1, q3.2.1, q3.2.2)) hm rfl (by omega) ⟨Nat.le_of_ble_eq_true rfl, Nat.le_of_ble_eq_true rfl⟩ (⟨_, rfl, nz_i g2⟩) rfl rfl ml_86 rfl (Nat.le_of_ble_eq_true rfl) (tf86 h3 (by omega)) ?_
  show Ex d 95 6 [(2, ((v0 : Nat) : Int)), (0, v1), (9, 0)] [(2, (((List.length h.1) : Nat) : Int)), (2, ((v0 : Nat) : Int))] (q3.1, q3.2.1, q3.2.2) rr
  obtain ⟨g4, e⟩ := gd_s e
  refine Ex_run 4 (i' := 10) (L' := [(2, ((v0 : Nat) : Int)), (0, v1), (9, 0)]) (st' := [(2, (((List.length q3.1) : Nat) : Int)), (2, (((List.length q3.1) : Nat) : Int)), (2, ((v0 : Nat) : Int))]) (h' := ((q3.1 ++ [(10, 4)]), (zapR (putR q3.2.1 v0 1 (List.length h.1)) (List.length q3.1)), (zap q3.2.2 (List.length q3.1)))) hm rfl (cjc (gk_b g4) (cjc (nz_i g2) cjn)) ?_
  obtain ⟨g5, e⟩ := gd_s e
  obtain ⟨q6, h6, e⟩ := bn_s e
  refine Ex_callm (z := 60) (na := 1) (ck := 1) (as := [(2, (((List.length q3.1) : Nat) : Int))]) (rest := [(2, (((List.length q3.1) : Nat) : Int)), (2, ((v0 : Nat) : Int))]) (E0 := [(2, (((List.length q3.1) : Nat) : Int))]) (v := none) (h1 := (q6.1, q6.2.1, q6.2.2)) hm rfl (by omega) ⟨Nat.le_of_ble_eq_true rfl, Nat.le_of_ble_eq_true rfl⟩ (⟨_, rfl, nz_i g5⟩) rfl rfl ml_60 rfl (Nat.le_of_ble_eq_true rfl) (tf60 h6 (by omega)) ?_
  show Ex d 95 11 [(2, ((v0 : Nat) : Int)), (0, v1), (9, 0)] [(2, (((List.length q3.1) : Nat) : Int)), (2, ((v0 : Nat) : Int))] (q6.1, q6.2.1, q6.2.2) rr
  obtain ⟨g7, e⟩ := gd_s e
  refine Ex_run 4 (i' := 15) (L' := [(2, ((v0 : Nat) : Int)), (0, v1), (9, 0)]) (st' := [(2, (((List.length q6.1) : Nat) : Int)), (2, (((List.length q6.1) : Nat) : Int)), (2, ((v0 : Nat) : Int))]) (h' := ((q6.1 ++ [(5, 9)]), (zapR (putR q6.2.1 v0 3 (List.length q3.1)) (List.length q6.1)), (zap q6.2.2 (List.length q6.1)))) hm rfl (cjc (gk_b g7) (cjc (nz_i g5) cjn)) ?_
  obtain ⟨g8, e⟩ := gd_s e
  obtain ⟨q9, h9, e⟩ := bn_s e
  refine Ex_callm (z := 8) (na := 1) (ck := 1) (as := [(2, (((List.length q6.1) : Nat) : Int))]) (rest := [(2, (((List.length q6.1) : Nat) : Int)), (2, ((v0 : Nat) : Int))]) (E0 := [(2, (((List.length q6.1) : Nat) : Int))]) (v := none) (h1 := (q9.1, q9.2.1, q9.2.2)) hm rfl (by omega) ⟨Nat.le_of_ble_eq_true rfl, Nat.le_of_ble_eq_true rfl⟩ (⟨_, rfl, nz_i g8⟩) rfl rfl ml_8 rfl (Nat.le_of_ble_eq_true rfl) (tf8 h9 (by omega)) ?_
  show Ex d 95 16 [(2, ((v0 : Nat) : Int)), (0, v1), (9, 0)] [(2, (((List.length q6.1) : Nat) : Int)), (2, ((v0 : Nat) : Int))] (q9.1, q9.2.1, q9.2.2) rr
  obtain ⟨g10, e⟩ := gd_s e
  refine Ex_run 4 (i' := 20) (L' := [(2, ((v0 : Nat) : Int)), (0, v1), (9, 0)]) (st' := [(2, (((List.length q9.1) : Nat) : Int)), (2, (((List.length q9.1) : Nat) : Int)), (2, ((v0 : Nat) : Int))]) (h' := ((q9.1 ++ [(12, 6)]), (zapR (putR q9.2.1 v0 7 (List.length q6.1)) (List.length q9.1)), (zap q9.2.2 (List.length q9.1)))) hm rfl (cjc (gk_b g10) (cjc (nz_i g8) cjn)) ?_
  obtain ⟨g11, e⟩ := gd_s e
  obtain ⟨q12, h12, e⟩ := bn_s e
  refine Ex_callm (z := 80) (na := 1) (ck := 1) (as := [(2, (((List.length q9.1) : Nat) : Int))]) (rest := [(2, (((List.length q9.1) : Nat) : Int)), (2, ((v0 : Nat) : Int))]) (E0 := [(2, (((List.length q9.1) : Nat) : Int))]) (v := none) (h1 := (q12.1, q12.2.1, q12.2.2)) hm rfl (by omega) ⟨Nat.le_of_ble_eq_true rfl, Nat.le_of_ble_eq_true rfl⟩ (⟨_, rfl, nz_i g11⟩) rfl rfl ml_80 rfl (Nat.le_of_ble_eq_true rfl) (tf80 h12 (by omega)) ?_
  show Ex d 95 21 [(2, ((v0 : Nat) : Int)), (0, v1), (9, 0)] [(2, (((List.length q9.1) : Nat) : Int)), (2, ((v0 : Nat) : Int))] (q12.1, q12.2.1, q12.2.2) rr
  obtain ⟨g13, e⟩ := gd_s e
  refine Ex_run 4 (i' := 25) (L' := [(2, ((v0 : Nat) : Int)), (0, v1), (9, 0)]) (st' := [(2, (((List.length q12.1) : Nat) : Int)), (2, (((List.length q12.1) : Nat) : Int)), (2, ((v0 : Nat) : Int))]) (h' := ((q12.1 ++ [(9, 4)]), (zapR (putR q12.2.1 v0 8 (List.length q9.1)) (List.length q12.1)), (zap q12.2.2 (List.length q12.1)))) hm rfl (cjc (gk_b g13) (cjc (nz_i g11) cjn)) ?_
  obtain ⟨g14, e⟩ := gd_s e
  obtain ⟨q15, h15, e⟩ := bn_s e
  refine Ex_callm (z := 55) (na := 1) (ck := 1) (as := [(2, (((List.length q12.1) : Nat) : Int))]) (rest := [(2, (((List.length q12.1) : Nat) : Int)), (2, ((v0 : Nat) : Int))]) (E0 := [(2, (((List.length q12.1) : Nat) : Int))]) (v := none) (h1 := (q15.1, q15.2.1, q15.2.2)) hm rfl (by omega) ⟨Nat.le_of_ble_eq_true rfl, Nat.le_of_ble_eq_true rfl⟩ (⟨_, rfl, nz_i g14⟩) rfl rfl ml_55 rfl (Nat.le_of_ble_eq_true rfl) (tf55 h15 (by omega)) ?_
  show Ex d 95 26 [(2, ((v0 : Nat) : Int)), (0, v1), (9, 0)] [(2, (((List.length q12.1) : Nat) : Int)), (2, ((v0 : Nat) : Int))] (q15.1, q15.2.1, q15.2.2) rr
  obtain ⟨g16, e⟩ := gd_s e
  refine Ex_run 4 (i' := 30) (L' := [(2, ((v0 : Nat) : Int)), (0, v1), (9, 0)]) (st' := [(2, (((List.length q15.1) : Nat) : Int)), (2, (((List.length q15.1) : Nat) : Int)), (2, ((v0 : Nat) : Int))]) (h' := ((q15.1 ++ [(8, 3)]), (zapR (putR q15.2.1 v0 9 (List.length q12.1)) (List.length q15.1)), (zap q15.2.2 (List.length q15.1)))) hm rfl (cjc (gk_b g16) (cjc (nz_i g14) cjn)) ?_
  obtain ⟨g17, e⟩ := gd_s e
  obtain ⟨q18, h18, e⟩ := bn_s e
  refine Ex_callm (z := 47) (na := 1) (ck := 1) (as := [(2, (((List.length q15.1) : Nat) : Int))]) (rest := [(2, (((List.length q15.1) : Nat) : Int)), (2, ((v0 : Nat) : Int))]) (E0 := [(2, (((List.length q15.1) : Nat) : Int))]) (v := none) (h1 := (q18.1, q18.2.1, q18.2.2)) hm rfl (by omega) ⟨Nat.le_of_ble_eq_true rfl, Nat.le_of_ble_eq_true rfl⟩ (⟨_, rfl, nz_i g17⟩) rfl rfl ml_47 rfl (Nat.le_of_ble_eq_true rfl) (tf47 h18 (by omega)) ?_
  show Ex d 95 31 [(2, ((v0 : Nat) : Int)), (0, v1), (9, 0)] [(2, (((List.length q15.1) : Nat) : Int)), (2, ((v0 : Nat) : Int))] (q18.1, q18.2.1, q18.2.2) rr
  obtain ⟨g19, e⟩ := gd_s e
  refine Ex_run 5 (i' := 36) (L' := [(2, ((v0 : Nat) : Int)), (0, v1), (9, 0)]) (st' := [(0, 4), (2, (((List.length q18.1) : Nat) : Int)), (2, (((List.length q18.1) : Nat) : Int)), (2, ((v0 : Nat) : Int))]) (h' := ((q18.1 ++ [(6, 1)]), (zapR (putR q18.2.1 v0 10 (List.length q15.1)) (List.length q18.1)), (zap q18.2.2 (List.length q18.1)))) hm rfl (cjc (gk_b g19) (cjc (nz_i g17) cjn)) ?_
  obtain ⟨g20, e⟩ := gd_s e
  obtain ⟨q21, h21, e⟩ := bn_s e
  refine Ex_callm (z := 32) (na := 2) (ck := 1) (as := [(2, (((List.length q18.1) : Nat) : Int)), (0, 4)]) (rest := [(2, (((List.length q18.1) : Nat) : Int)), (2, ((v0 : Nat) : Int))]) (E0 := [(2, (((List.length q18.1) : Nat) : Int)), (0, 4)]) (v := none) (h1 := (q21.1, q21.2.1, q21.2.2)) hm rfl (by omega) ⟨Nat.le_of_ble_eq_true rfl, Nat.le_of_ble_eq_true rfl⟩ (⟨_, rfl, nz_i g20⟩) rfl rfl ml_32 rfl (Nat.le_of_ble_eq_true rfl) (tf32 h21 (by omega)) ?_
  show Ex d 95 37 [(2, ((v0 : Nat) : Int)), (0, v1), (9, 0)] [(2, (((List.length q18.1) : Nat) : Int)), (2, ((v0 : Nat) : Int))] (q21.1, q21.2.1, q21.2.2) rr
  obtain ⟨g22, e⟩ := gd_s e
  refine Ex_run 5 (i' := 42) (L' := [(2, ((v0 : Nat) : Int)), (0, v1), (9, 0)]) (st' := [(0, 6), (2, (((List.length q21.1) : Nat) : Int)), (2, (((List.length q21.1) : Nat) : Int)), (2, ((v0 : Nat) : Int))]) (h' := ((q21.1 ++ [(6, 1)]), (zapR (putR q21.2.1 v0 11 (List.length q18.1)) (List.length q21.1)), (zap q21.2.2 (List.length q21.1)))) hm rfl (cjc (gk_b g22) (cjc (nz_i g20) cjn)) ?_
  obtain ⟨g23, e⟩ := gd_s e
  obtain ⟨q24, h24, e⟩ := bn_s e
  refine Ex_callm (z := 32) (na := 2) (ck := 1) (as := [(2, (((List.length q21.1) : Nat) : Int)), (0, 6)]) (rest := [(2, (((List.length q21.1) : Nat) : Int)), (2, ((v0 : Nat) : Int))]) (E0 := [(2, (((List.length q21.1) : Nat) : Int)), (0, 6)]) (v := none) (h1 := (q24.1, q24.2.1, q24.2.2)) hm rfl (by omega) ⟨Nat.le_of_ble_eq_true rfl, Nat.le_of_ble_eq_true rfl⟩ (⟨_, rfl, nz_i g23⟩) rfl rfl ml_32 rfl (Nat.le_of_ble_eq_true rfl) (tf32 h24 (by omega)) ?_
  show Ex d 95 43 [(2, ((v0 : Nat) : Int)), (0, v1), (9, 0)] [(2, (((List.length q21.1) : Nat) : Int)), (2, ((v0 : Nat) : Int))] (q24.1, q24.2.1, q24.2.2) rr
  obtain ⟨g25, e⟩ := gd_s e
  refine Ex_run 6 (i' := 49) (L' := [(2, ((v0 : Nat) : Int)), (0, v1), (9, 0)]) (st' := [(0, 0), (2, ((v0 : Nat) : Int))]) (h' := (q24.1, (putR q24.2.1 v0 12 (List.length q21.1)), (put q24.2.2 v0 13 0))) hm rfl (cjc (gk_b g25) (cjc (nz_i g23) (cjc (gk_b g25) cjn))) ?_
  exact tf95_49 e hd rr hk
theorem tf130 {G : Gg} {ρ : Rg} {d : Nat} {v0 : Int} {m : Sg} {x : Int} (e : f130 G ρ v0 m = some x) (hd : 0 ≤ d) : Ex d 130 0 [(0, v0)] [] (G, ρ, m) (some (0, x), (G, ρ, m)) := by
  unfold f130 at e
  have hm := mi_130
  generalize hk : (some (0, x), (G, ρ, m)) = rr
  replace hk : (Bpi G ρ m) x rr := hk.symm
  refine Ex_run 1 (i' := 1) (L' := [(0, v0)]) (st' := [(0, v0)]) (h' := (G, ρ, m)) hm rfl cjn ?_
  by_cases c1 : v0 < 0
  · replace e := it_p e c1
    refine Ex_if1t (c := 2) (tgt := 7) hm rfl (bt2 c1) ?_
    refine Ex_run 1 (i' := 8) (L' := [(0, v0)]) (st' := [(0, 0)]) (h' := (G, ρ, m)) hm rfl cjn ?_
    cases e
    cases hk
    exact Ex_ret (k := 2) hm rfl ⟨_, rfl, by decide, rfl⟩
  · replace e := it_n e c1
    refine Ex_if1f (c := 2) (tgt := 7) hm rfl (bf2 c1) ?_
    refine Ex_run 2 (i' := 4) (L' := [(0, v0)]) (st' := [(0, 6), (0, v0)]) (h' := (G, ρ, m)) hm rfl cjn ?_
    by_cases c2 : v0 < 6
    · replace e := it_p e c2
      refine Ex_if2f (c := 3) (tgt := 7) hm rfl (bf3 c2) ?_
      refine Ex_run 2 (i' := 8) (L' := [(0, v0)]) (st' := [(0, 1)]) (h' := (G, ρ, m)) hm rfl cjn ?_
      cases e
      cases hk
      exact Ex_ret (k := 2) hm rfl ⟨_, rfl, by decide, rfl⟩
    · replace e := it_n e c2
      refine Ex_if2t (c := 3) (tgt := 7) hm rfl (bt3 c2) ?_
      refine Ex_run 1 (i' := 8) (L' := [(0, v0)]) (st' := [(0, 0)]) (h' := (G, ρ, m)) hm rfl cjn ?_
      cases e
      cases hk
      exact Ex_ret (k := 2) hm rfl ⟨_, rfl, by decide, rfl⟩
theorem tf131 {G : Gg} {ρ : Rg} {d : Nat} {v0 : Int} {m : Sg} {x : Int} (e : f131 G ρ v0 m = some x) (hd : 0 ≤ d) : Ex d 131 0 [(0, v0)] [] (G, ρ, m) (some (0, x), (G, ρ, m)) := by
  unfold f131 at e
  have hm := mi_131
  generalize hk : (some (0, x), (G, ρ, m)) = rr
  replace hk : (Bpi G ρ m) x rr := hk.symm
  refine Ex_run 1 (i' := 1) (L' := [(0, v0)]) (st' := [(0, v0)]) (h' := (G, ρ, m)) hm rfl cjn ?_
  by_cases c1 : v0 < 0
  · replace e := it_p e c1
    refine Ex_if1t (c := 2) (tgt := 7) hm rfl (bt2 c1) ?_
    refine Ex_run 1 (i' := 8) (L' := [(0, v0)]) (st' := [(0, 0)]) (h' := (G, ρ, m)) hm rfl cjn ?_
    cases e
    cases hk
    exact Ex_ret (k := 2) hm rfl ⟨_, rfl, by decide, rfl⟩
  · replace e := it_n e c1
    refine Ex_if1f (c := 2) (tgt := 7) hm rfl (bf2 c1) ?_
    refine Ex_run 2 (i' := 4) (L' := [(0, v0)]) (st' := [(0, 9), (0, v0)]) (h' := (G, ρ, m)) hm rfl cjn ?_
    by_cases c2 : 9 < v0
    · replace e := it_p e c2
      refine Ex_if2t (c := 4) (tgt := 7) hm rfl (bt4 c2) ?_
      refine Ex_run 1 (i' := 8) (L' := [(0, v0)]) (st' := [(0, 0)]) (h' := (G, ρ, m)) hm rfl cjn ?_
      cases e
      cases hk
      exact Ex_ret (k := 2) hm rfl ⟨_, rfl, by decide, rfl⟩
    · replace e := it_n e c2
      refine Ex_if2f (c := 4) (tgt := 7) hm rfl (bf4 c2) ?_
      refine Ex_run 2 (i' := 8) (L' := [(0, v0)]) (st' := [(0, 1)]) (h' := (G, ρ, m)) hm rfl cjn ?_
      cases e
      cases hk
      exact Ex_ret (k := 2) hm rfl ⟨_, rfl, by decide, rfl⟩
theorem tf96 {G : Gg} {ρ : Rg} {d : Nat} {v0 : Nat} {v1 : Int} {v2 : Int} {v3 : Int} {m : Sg} {x : Int × Sg} (e : f96 G ρ v0 v1 v2 v3 m = some x) (hd : 2 ≤ d) : Ex d 96 0 [(2, ((v0 : Nat) : Int)), (0, v1), (0, v2), (0, v3), (9, 0)] [] (G, ρ, m) (some (0, x.1), (G, ρ, x.2)) := by
  unfold f96 at e
  have hm := mi_96
  generalize hk : (some (0, x.1), (G, ρ, x.2)) = rr
  replace hk : (Bi G ρ) x rr := hk.symm
  obtain ⟨g1, e⟩ := gd_s e
  refine Ex_run 3 (i' := 3) (L' := [(2, ((v0 : Nat) : Int)), (0, v1), (0, v2), (0, v3), (9, 0)]) (st' := [(0, v1), (2, (((ρ v0 0) : Nat) : Int))]) (h' := (G, ρ, m)) hm rfl (cjc (gk_b g1) cjn) ?_
  obtain ⟨g2, e⟩ := gd_s e
  obtain ⟨q3, h3, e⟩ := bn_s e
  refine Ex_callm (z := 38) (na := 2) (ck := 7) (as := [(2, (((ρ v0 0) : Nat) : Int)), (0, v1)]) (rest := []) (E0 := [(2, (((ρ v0 0) : Nat) : Int)), (0, v1)]) (v := some (0, q3)) (h1 := (G, ρ, m)) hm rfl (by omega) ⟨Nat.le_of_ble_eq_true rfl, Nat.le_of_ble_eq_true rfl⟩ (rc2 rfl g2) rfl rfl ml_38 rfl (Nat.le_of_ble_eq_true rfl) (tf38 h3 (by omega)) ?_
  show Ex d 96 4 [(2, ((v0 : Nat) : Int)), (0, v1), (0, v2), (0, v3), (9, 0)] [(0, q3)] (G, ρ, m) rr
  by_cases c4 : q3 = 0
  · replace e := it_p e c4
    refine Ex_if1t (c := 0) (tgt := 11) hm rfl (bt0 c4) ?_
    refine Ex_run 1 (i' := 12) (L' := [(2, ((v0 : Nat) : Int)), (0, v1), (0, v2), (0, v3), (9, 0)]) (st' := [(0, (-2))]) (h' := (G, ρ, m)) hm rfl cjn ?_
    cases e
    cases hk
    exact Ex_ret (k := 1) hm rfl ⟨_, rfl, rfl⟩
  · replace e := it_n e c4
    refine Ex_if1f (c := 0) (tgt := 11) hm rfl (bf0 c4) ?_
    refine Ex_run 1 (i' := 6) (L' := [(2, ((v0 : Nat) : Int)), (0, v1), (0, v2), (0, v3), (9, 0)]) (st' := [(0, v2)]) (h' := (G, ρ, m)) hm rfl cjn ?_
    obtain ⟨q5, h5, e⟩ := bn_s e
    refine Ex_callm (z := 130) (na := 1) (ck := 0) (as := [(0, v2)]) (rest := []) (E0 := [(0, v2)]) (v := some (0, q5)) (h1 := (G, ρ, m)) hm rfl (by omega) ⟨Nat.le_of_ble_eq_true rfl, Nat.le_of_ble_eq_true rfl⟩ (trivial) rfl rfl ml_130 rfl (Nat.le_of_ble_eq_true rfl) (tf130 h5 (by omega)) ?_
    show Ex d 96 7 [(2, ((v0 : Nat) : Int)), (0, v1), (0, v2), (0, v3), (9, 0)] [(0, q5)] (G, ρ, m) rr
    by_cases c6 : q5 = 0
    · replace e := it_p e c6
      refine Ex_if1t (c := 0) (tgt := 11) hm rfl (bt0 c6) ?_
      refine Ex_run 1 (i' := 12) (L' := [(2, ((v0 : Nat) : Int)), (0, v1), (0, v2), (0, v3), (9, 0)]) (st' := [(0, (-2))]) (h' := (G, ρ, m)) hm rfl cjn ?_
      cases e
      cases hk
      exact Ex_ret (k := 1) hm rfl ⟨_, rfl, rfl⟩
    · replace e := it_n e c6
      refine Ex_if1f (c := 0) (tgt := 11) hm rfl (bf0 c6) ?_
      refine Ex_run 1 (i' := 9) (L' := [(2, ((v0 : Nat) : Int)), (0, v1), (0, v2), (0, v3), (9, 0)]) (st' := [(0, v3)]) (h' := (G, ρ, m)) hm rfl cjn ?_
      obtain ⟨q7, h7, e⟩ := bn_s e
      refine Ex_callm (z := 131) (na := 1) (ck := 0) (as := [(0, v3)]) (rest := []) (E0 := [(0, v3)]) (v := some (0, q7)) (h1 := (G, ρ, m)) hm rfl (by omega) ⟨Nat.le_of_ble_eq_true rfl, Nat.le_of_ble_eq_true rfl⟩ (trivial) rfl rfl ml_131 rfl (Nat.le_of_ble_eq_true rfl) (tf131 h7 (by omega)) ?_
      show Ex d 96 10 [(2, ((v0 : Nat) : Int)), (0, v1), (0, v2), (0, v3), (9, 0)] [(0, q7)] (G, ρ, m) rr
      by_cases c8 : q7 = 0
      · replace e := it_p e c8
        refine Ex_if1f (c := 1) (tgt := 13) hm rfl (bf1 c8) ?_
        refine Ex_run 1 (i' := 12) (L' := [(2, ((v0 : Nat) : Int)), (0, v1), (0, v2), (0, v3), (9, 0)]) (st' := [(0, (-2))]) (h' := (G, ρ, m)) hm rfl cjn ?_
        cases e
        cases hk
        exact Ex_ret (k := 1) hm rfl ⟨_, rfl, rfl⟩
      · replace e := it_n e c8
        refine Ex_if1t (c := 1) (tgt := 13) hm rfl (bt1 c8) ?_
        refine Ex_run 4 (i' := 17) (L' := [(2, ((v0 : Nat) : Int)), (0, v1), (0, v2), (0, v3), (9, 0)]) (st' := [(0, v1), (2, (((ρ (ρ v0 0) 1) : Nat) : Int))]) (h' := (G, ρ, m)) hm rfl (cjc (gk_b g1) (cjc (gk_b g2) cjn)) ?_
        obtain ⟨g9, e⟩ := gd_s e
        obtain ⟨q10, h10, e⟩ := bn_s e
        refine Ex_callm (z := 33) (na := 2) (ck := 6) (as := [(2, (((ρ (ρ v0 0) 1) : Nat) : Int)), (0, v1)]) (rest := []) (E0 := [(2, (((ρ (ρ v0 0) 1) : Nat) : Int)), (0, v1)]) (v := some (0, q10)) (h1 := (G, ρ, m)) hm rfl (by omega) ⟨Nat.le_of_ble_eq_true rfl, Nat.le_of_ble_eq_true rfl⟩ (rc2 rfl g9) rfl rfl ml_33 rfl (Nat.le_of_ble_eq_true rfl) (tf33 h10 (by omega)) ?_
        show Ex d 96 18 [(2, ((v0 : Nat) : Int)), (0, v1), (0, v2), (0, v3), (9, 0)] [(0, q10)] (G, ρ, m) rr
        refine Ex_run 6 (i' := 24) (L' := [(2, ((v0 : Nat) : Int)), (0, v1), (0, v2), (0, v3), (0, q10)]) (st' := [(0, v3), (0, v2), (0, v1), (2, (((ρ v0 0) : Nat) : Int))]) (h' := (G, ρ, m)) hm rfl (cjc (Nat.le_of_ble_eq_true rfl) (cjc (gk_b g1) cjn)) ?_
        obtain ⟨q11, h11, e⟩ := bn_s e
        refine Ex_callm (z := 40) (na := 4) (ck := 7) (as := [(2, (((ρ v0 0) : Nat) : Int)), (0, v1), (0, v2), (0, v3)]) (rest := []) (E0 := [(2, (((ρ v0 0) : Nat) : Int)), (0, v1), (0, v2), (0, v3)]) (v := none) (h1 := (G, ρ, q11)) hm rfl (by omega) ⟨Nat.le_of_ble_eq_true rfl, Nat.le_of_ble_eq_true rfl⟩ (rc2 rfl g2) rfl rfl ml_40 rfl (Nat.le_of_ble_eq_true rfl) (tf40 h11 (by omega)) ?_
        show Ex d 96 25 [(2, ((v0 : Nat) : Int)), (0, v1), (0, v2), (0, v3), (0, q10)] [] (G, ρ, q11) rr
        refine Ex_run 1 (i' := 26) (L' := [(2, ((v0 : Nat) : Int)), (0, v1), (0, v2), (0, v3), (0, q10)]) (st' := [(0, q10)]) (h' := (G, ρ, q11)) hm rfl cjn ?_
        cases e
        cases hk
        exact Ex_ret (k := 1) hm rfl ⟨_, rfl, rfl⟩
theorem tf97 {G : Gg} {ρ : Rg} {d : Nat} {v0 : Nat} {v1 : Int} {m : Sg} {x : Int × Sg} (e : f97 G ρ v0 v1 m = some x) (hd : 0 ≤ d) : Ex d 97 0 [(2, ((v0 : Nat) : Int)), (0, v1), (9, 0)] [] (G, ρ, m) (some (0, x.1), (G, ρ, x.2)) := by
  unfold f97 at e
  have hm := mi_97
  generalize hk : (some (0, x.1), (G, ρ, x.2)) = rr
  replace hk : (Bi G ρ) x rr := hk.symm
  refine Ex_run 2 (i' := 2) (L' := [(2, ((v0 : Nat) : Int)), (0, v1), (9, 0)]) (st' := [(0, 1), (0, v1)]) (h' := (G, ρ, m)) hm rfl cjn ?_
  by_cases c1 : v1 < 1
  · replace e := it_p e c1
    refine Ex_if2t (c := 2) (tgt := 6) hm rfl (bt2 c1) ?_
    refine Ex_run 1 (i' := 7) (L' := [(2, ((v0 : Nat) : Int)), (0, v1), (9, 0)]) (st' := [(0, (-2))]) (h' := (G, ρ, m)) hm rfl cjn ?_
    cases e
    cases hk
    exact Ex_ret (k := 1) hm rfl ⟨_, rfl, rfl⟩
  · replace e := it_n e c1
    refine Ex_if2f (c := 2) (tgt := 6) hm rfl (bf2 c1) ?_
    refine Ex_run 2 (i' := 5) (L' := [(2, ((v0 : Nat) : Int)), (0, v1), (9, 0)]) (st' := [(0, 31), (0, v1)]) (h' := (G, ρ, m)) hm rfl cjn ?_
    by_cases c2 : 31 < v1
    · replace e := it_p e c2
      refine Ex_if2f (c := 5) (tgt := 8) hm rfl (bf5 c2) ?_
      refine Ex_run 1 (i' := 7) (L' := [(2, ((v0 : Nat) : Int)), (0, v1), (9, 0)]) (st' := [(0, (-2))]) (h' := (G, ρ, m)) hm rfl cjn ?_
      cases e
      cases hk
      exact Ex_ret (k := 1) hm rfl ⟨_, rfl, rfl⟩
    · replace e := it_n e c2
      refine Ex_if2t (c := 5) (tgt := 8) hm rfl (bt5 c2) ?_
      obtain ⟨g3, e⟩ := gd_s e
      obtain ⟨g4, e⟩ := gd_s e
      refine Ex_run 9 (i' := 17) (L' := [(2, ((v0 : Nat) : Int)), (0, v1), (0, (m (ρ v0 0) 3))]) (st' := [(0, (m (ρ v0 0) 3))]) (h' := (G, ρ, (put m (ρ v0 0) 3 v1))) hm rfl (cjc (gk_b g3) (cjc (gk_b g4) (cjc (Nat.le_of_ble_eq_true rfl) (cjc (gk_b g3) (cjc (gk_b g4) cjn))))) ?_
      cases e
      cases hk
      exact Ex_ret (k := 1) hm rfl ⟨_, rfl, rfl⟩
theorem tf98 {G : Gg} {ρ : Rg} {d : Nat} {v0 : Nat} {v1 : Int} {v2 : Int} {m : Sg} {x : Int} (e : f98 G ρ v0 v1 v2 m = some x) (hd : 1 ≤ d) : Ex d 98 0 [(2, ((v0 : Nat) : Int)), (0, v1), (0, v2)] [] (G, ρ, m) (some (0, x), (G, ρ, m)) := by
  unfold f98 at e
  have hm := mi_98
  generalize hk : (some (0, x), (G, ρ, m)) = rr
  replace hk : (Bpi G ρ m) x rr := hk.symm
  obtain ⟨g1, e⟩ := gd_s e
  refine Ex_run 3 (i' := 3) (L' := [(2, ((v0 : Nat) : Int)), (0, v1), (0, v2)]) (st' := [(0, v1), (2, (((ρ v0 0) : Nat) : Int))]) (h' := (G, ρ, m)) hm rfl (cjc (gk_b g1) cjn) ?_
  obtain ⟨g2, e⟩ := gd_s e
  obtain ⟨q3, h3, e⟩ := bn_s e
  refine Ex_callm (z := 38) (na := 2) (ck := 7) (as := [(2, (((ρ v0 0) : Nat) : Int)), (0, v1)]) (rest := []) (E0 := [(2, (((ρ v0 0) : Nat) : Int)), (0, v1)]) (v := some (0, q3)) (h1 := (G, ρ, m)) hm rfl (by omega) ⟨Nat.le_of_ble_eq_true rfl, Nat.le_of_ble_eq_true rfl⟩ (rc2 rfl g2) rfl rfl ml_38 rfl (Nat.le_of_ble_eq_true rfl) (tf38 h3 (by omega)) ?_
  show Ex d 98 4 [(2, ((v0 : Nat) : Int)), (0, v1), (0, v2)] [(0, q3)] (G, ρ, m) rr
  by_cases c4 : q3 = 0
  · replace e := it_p e c4
    refine Ex_if1t (c := 0) (tgt := 10) hm rfl (bt0 c4) ?_
    refine Ex_run 1 (i' := 11) (L' := [(2, ((v0 : Nat) : Int)), (0, v1), (0, v2)]) (st' := [(0, (-2))]) (h' := (G, ρ, m)) hm rfl cjn ?_
    cases e
    cases hk
    exact Ex_ret (k := 1) hm rfl ⟨_, rfl, rfl⟩
  · replace e := it_n e c4
    refine Ex_if1f (c := 0) (tgt := 10) hm rfl (bf0 c4) ?_
    refine Ex_run 1 (i' := 6) (L' := [(2, ((v0 : Nat) : Int)), (0, v1), (0, v2)]) (st' := [(0, v2)]) (h' := (G, ρ, m)) hm rfl cjn ?_
    by_cases c5 : v2 < 0
    · replace e := it_p e c5
      refine Ex_if1t (c := 2) (tgt := 10) hm rfl (bt2 c5) ?_
      refine Ex_run 1 (i' := 11) (L' := [(2, ((v0 : Nat) : Int)), (0, v1), (0, v2)]) (st' := [(0, (-2))]) (h' := (G, ρ, m)) hm rfl cjn ?_
      cases e
      cases hk
      exact Ex_ret (k := 1) hm rfl ⟨_, rfl, rfl⟩
    · replace e := it_n e c5
      refine Ex_if1f (c := 2) (tgt := 10) hm rfl (bf2 c5) ?_
      refine Ex_run 2 (i' := 9) (L' := [(2, ((v0 : Nat) : Int)), (0, v1), (0, v2)]) (st' := [(0, 1), (0, v2)]) (h' := (G, ρ, m)) hm rfl cjn ?_
      by_cases c6 : 1 < v2
      · replace e := it_p e c6
        refine Ex_if2f (c := 5) (tgt := 12) hm rfl (bf5 c6) ?_
        refine Ex_run 1 (i' := 11) (L' := [(2, ((v0 : Nat) : Int)), (0, v1), (0, v2)]) (st' := [(0, (-2))]) (h' := (G, ρ, m)) hm rfl cjn ?_
        cases e
        cases hk
        exact Ex_ret (k := 1) hm rfl ⟨_, rfl, rfl⟩
      · replace e := it_n e c6
        refine Ex_if2t (c := 5) (tgt := 12) hm rfl (bt5 c6) ?_
        refine Ex_run 1 (i' := 13) (L' := [(2, ((v0 : Nat) : Int)), (0, v1), (0, v2)]) (st' := [(0, v2)]) (h' := (G, ρ, m)) hm rfl cjn ?_
        by_cases c7 : v2 = 0
        · replace e := it_p e c7
          refine Ex_if1f (c := 1) (tgt := 20) hm rfl (bf1 c7) ?_
          refine Ex_run 4 (i' := 18) (L' := [(2, ((v0 : Nat) : Int)), (0, v1), (0, v2)]) (st' := [(0, v1), (2, (((ρ (ρ v0 0) 1) : Nat) : Int))]) (h' := (G, ρ, m)) hm rfl (cjc (gk_b g1) (cjc (gk_b g2) cjn)) ?_
          obtain ⟨g8, e⟩ := gd_s e
          obtain ⟨q9, h9, e⟩ := bn_s e
          refine Ex_callm (z := 33) (na := 2) (ck := 6) (as := [(2, (((ρ (ρ v0 0) 1) : Nat) : Int)), (0, v1)]) (rest := []) (E0 := [(2, (((ρ (ρ v0 0) 1) : Nat) : Int)), (0, v1)]) (v := some (0, q9)) (h1 := (G, ρ, m)) hm rfl (by omega) ⟨Nat.le_of_ble_eq_true rfl, Nat.le_of_ble_eq_true rfl⟩ (rc2 rfl g8) rfl rfl ml_33 rfl (Nat.le_of_ble_eq_true rfl) (tf33 h9 (by omega)) ?_
          show Ex d 98 19 [(2, ((v0 : Nat) : Int)), (0, v1), (0, v2)] [(0, q9)] (G, ρ, m) rr
          refine Ex_run 1 (i' := 25) (L' := [(2, ((v0 : Nat) : Int)), (0, v1), (0, v2)]) (st' := [(0, q9)]) (h' := (G, ρ, m)) hm rfl cjn ?_
          cases e
          cases hk
          exact Ex_ret (k := 1) hm rfl ⟨_, rfl, rfl⟩
        · replace e := it_n e c7
          refine Ex_if1t (c := 1) (tgt := 20) hm rfl (bt1 c7) ?_
          refine Ex_run 4 (i' := 24) (L' := [(2, ((v0 : Nat) : Int)), (0, v1), (0, v2)]) (st' := [(0, v1), (2, (((ρ (ρ v0 0) 2) : Nat) : Int))]) (h' := (G, ρ, m)) hm rfl (cjc (gk_b g1) (cjc (gk_b g2) cjn)) ?_
          obtain ⟨g10, e⟩ := gd_s e
          obtain ⟨q11, h11, e⟩ := bn_s e
          refine Ex_callm (z := 33) (na := 2) (ck := 6) (as := [(2, (((ρ (ρ v0 0) 2) : Nat) : Int)), (0, v1)]) (rest := []) (E0 := [(2, (((ρ (ρ v0 0) 2) : Nat) : Int)), (0, v1)]) (v := some (0, q11)) (h1 := (G, ρ, m)) hm rfl (by omega) ⟨Nat.le_of_ble_eq_true rfl, Nat.le_of_ble_eq_true rfl⟩ (rc2 rfl g10) rfl rfl ml_33 rfl (Nat.le_of_ble_eq_true rfl) (tf33 h11 (by omega)) ?_
          show Ex d 98 25 [(2, ((v0 : Nat) : Int)), (0, v1), (0, v2)] [(0, q11)] (G, ρ, m) rr
          cases e
          cases hk
          exact Ex_ret (k := 1) hm rfl ⟨_, rfl, rfl⟩
theorem tf99 {G : Gg} {ρ : Rg} {d : Nat} {v0 : Nat} {v1 : Int} {m : Sg} {x : Int × Sg} (e : f99 G ρ v0 v1 m = some x) (hd : 4 ≤ d) : Ex d 99 0 [(2, ((v0 : Nat) : Int)), (0, v1), (9, 0)] [] (G, ρ, m) (some (0, x.1), (G, ρ, x.2)) := by
  unfold f99 at e
  have hm := mi_99
  generalize hk : (some (0, x.1), (G, ρ, x.2)) = rr
  replace hk : (Bi G ρ) x rr := hk.symm
  obtain ⟨g1, e⟩ := gd_s e
  refine Ex_run 3 (i' := 3) (L' := [(2, ((v0 : Nat) : Int)), (0, v1), (9, 0)]) (st' := [(0, v1), (2, (((ρ v0 0) : Nat) : Int))]) (h' := (G, ρ, m)) hm rfl (cjc (gk_b g1) cjn) ?_
  obtain ⟨g2, e⟩ := gd_s e
  obtain ⟨q3, h3, e⟩ := bn_s e
  refine Ex_callm (z := 38) (na := 2) (ck := 7) (as := [(2, (((ρ v0 0) : Nat) : Int)), (0, v1)]) (rest := []) (E0 := [(2, (((ρ v0 0) : Nat) : Int)), (0, v1)]) (v := some (0, q3)) (h1 := (G, ρ, m)) hm rfl (by omega) ⟨Nat.le_of_ble_eq_true rfl, Nat.le_of_ble_eq_true rfl⟩ (rc2 rfl g2) rfl rfl ml_38 rfl (Nat.le_of_ble_eq_true rfl) (tf38 h3 (by omega)) ?_
  show Ex d 99 4 [(2, ((v0 : Nat) : Int)), (0, v1), (9, 0)] [(0, q3)] (G, ρ, m) rr
  by_cases c4 : q3 = 0
  · replace e := it_p e c4
    refine Ex_if1f (c := 1) (tgt := 7) hm rfl (bf1 c4) ?_
    refine Ex_run 1 (i' := 6) (L' := [(2, ((v0 : Nat) : Int)), (0, v1), (9, 0)]) (st' := [(0, (-2))]) (h' := (G, ρ, m)) hm rfl cjn ?_
    cases e
    cases hk
    exact Ex_ret (k := 1) hm rfl ⟨_, rfl, rfl⟩
  · replace e := it_n e c4
    refine Ex_if1t (c := 1) (tgt := 7) hm rfl (bt1 c4) ?_
    refine Ex_run 4 (i' := 11) (L' := [(2, ((v0 : Nat) : Int)), (0, v1), (9, 0)]) (st' := [(2, (((ρ v0 0) : Nat) : Int)), (2, (((ρ v0 1) : Nat) : Int))]) (h' := (G, ρ, m)) hm rfl (cjc (gk_b g1) (cjc (gk_b g1) cjn)) ?_
    obtain ⟨g5, e⟩ := gd_s e
    obtain ⟨q6, h6, e⟩ := bn_s e
    refine Ex_callm (z := 87) (na := 2) (ck := 13) (as := [(2, (((ρ v0 1) : Nat) : Int)), (2, (((ρ v0 0) : Nat) : Int))]) (rest := []) (E0 := [(2, (((ρ v0 1) : Nat) : Int)), (2, (((ρ v0 0) : Nat) : Int)), (9, 0), (9, 0), (9, 0), (9, 0), (9, 0)]) (v := some (0, q6.1)) (h1 := (G, ρ, q6.2)) hm rfl (by omega) ⟨Nat.le_of_ble_eq_true rfl, Nat.le_of_ble_eq_true rfl⟩ (rc2 rfl g5) rfl rfl ml_87 rfl (Nat.le_of_ble_eq_true rfl) (tf87 h6 (by omega)) ?_
    show Ex d 99 12 [(2, ((v0 : Nat) : Int)), (0, v1), (9, 0)] [(0, q6.1)] (G, ρ, q6.2) rr
    refine Ex_run 5 (i' := 17) (L' := [(2, ((v0 : Nat) : Int)), (0, v1), (9, 0)]) (st' := [(0, v1), (2, (((ρ (ρ v0 1) 0) : Nat) : Int))]) (h' := (G, ρ, q6.2)) hm rfl (cjc (gk_b g1) (cjc (gk_b g5) cjn)) ?_
    obtain ⟨g7, e⟩ := gd_s e
    obtain ⟨q8, h8, e⟩ := bn_s e
    refine Ex_callm (z := 33) (na := 2) (ck := 6) (as := [(2, (((ρ (ρ v0 1) 0) : Nat) : Int)), (0, v1)]) (rest := []) (E0 := [(2, (((ρ (ρ v0 1) 0) : Nat) : Int)), (0, v1)]) (v := some (0, q8)) (h1 := (G, ρ, q6.2)) hm rfl (by omega) ⟨Nat.le_of_ble_eq_true rfl, Nat.le_of_ble_eq_true rfl⟩ (rc2 rfl g7) rfl rfl ml_33 rfl (Nat.le_of_ble_eq_true rfl) (tf33 h8 (by omega)) ?_
    show Ex d 99 18 [(2, ((v0 : Nat) : Int)), (0, v1), (9, 0)] [(0, q8)] (G, ρ, q6.2) rr
    refine Ex_run 2 (i' := 20) (L' := [(2, ((v0 : Nat) : Int)), (0, v1), (0, q8)]) (st' := [(0, q8)]) (h' := (G, ρ, q6.2)) hm rfl (cjc (Nat.le_of_ble_eq_true rfl) cjn) ?_
    by_cases c9 : q8 < 0
    · replace e := it_p e c9
      refine Ex_if1f (c := 3) (tgt := 25) hm rfl (bf3 c9) ?_
      refine Ex_run 4 (i' := 26) (L' := [(2, ((v0 : Nat) : Int)), (0, v1), (0, q8)]) (st' := [(0, (g_add (-100) q8))]) (h' := (G, ρ, q6.2)) hm rfl cjn ?_
      cases e
      cases hk
      exact Ex_ret (k := 1) hm rfl ⟨_, rfl, rfl⟩
    · replace e := it_n e c9
      refine Ex_if1t (c := 3) (tgt := 25) hm rfl (bt3 c9) ?_
      refine Ex_run 1 (i' := 26) (L' := [(2, ((v0 : Nat) : Int)), (0, v1), (0, q8)]) (st' := [(0, q8)]) (h' := (G, ρ, q6.2)) hm rfl cjn ?_
      cases e
      cases hk
      exact Ex_ret (k := 1) hm rfl ⟨_, rfl, rfl⟩
theorem tf100 {G : Gg} {ρ : Rg} {d : Nat} {v0 : Nat} {v1 : Int} {m : Sg} {x : Int × Sg} (e : f100 G ρ v0 v1 m = some x) (hd : 4 ≤ d) : Ex d 100 0 [(2, ((v0 : Nat) : Int)), (0, v1)] [] (G, ρ, m) (some (0, x.1), (G, ρ, x.2)) := by
  unfold f100 at e
  have hm := mi_100
  generalize hk : (some (0, x.1), (G, ρ, x.2)) = rr
  replace hk : (Bi G ρ) x rr := hk.symm
  obtain ⟨g1, e⟩ := gd_s e
  refine Ex_run 3 (i' := 3) (L' := [(2, ((v0 : Nat) : Int)), (0, v1)]) (st' := [(0, v1), (2, (((ρ v0 0) : Nat) : Int))]) (h' := (G, ρ, m)) hm rfl (cjc (gk_b g1) cjn) ?_
  obtain ⟨g2, e⟩ := gd_s e
  obtain ⟨q3, h3, e⟩ := bn_s e
  refine Ex_callm (z := 38) (na := 2) (ck := 7) (as := [(2, (((ρ v0 0) : Nat) : Int)), (0, v1)]) (rest := []) (E0 := [(2, (((ρ v0 0) : Nat) : Int)), (0, v1)]) (v := some (0, q3)) (h1 := (G, ρ, m)) hm rfl (by omega) ⟨Nat.le_of_ble_eq_true rfl, Nat.le_of_ble_eq_true rfl⟩ (rc2 rfl g2) rfl rfl ml_38 rfl (Nat.le_of_ble_eq_true rfl) (tf38 h3 (by omega)) ?_
  show Ex d 100 4 [(2, ((v0 : Nat) : Int)), (0, v1)] [(0, q3)] (G, ρ, m) rr
  by_cases c4 : q3 = 0
  · replace e := it_p e c4
    refine Ex_if1f (c := 1) (tgt := 7) hm rfl (bf1 c4) ?_
    refine Ex_run 1 (i' := 6) (L' := [(2, ((v0 : Nat) : Int)), (0, v1)]) (st' := [(0, (-2))]) (h' := (G, ρ, m)) hm rfl cjn ?_
    cases e
    cases hk
    exact Ex_ret (k := 1) hm rfl ⟨_, rfl, rfl⟩
  · replace e := it_n e c4
    refine Ex_if1t (c := 1) (tgt := 7) hm rfl (bt1 c4) ?_
    refine Ex_run 4 (i' := 11) (L' := [(2, ((v0 : Nat) : Int)), (0, v1)]) (st' := [(2, (((ρ v0 0) : Nat) : Int)), (2, (((ρ v0 1) : Nat) : Int))]) (h' := (G, ρ, m)) hm rfl (cjc (gk_b g1) (cjc (gk_b g1) cjn)) ?_
    obtain ⟨g5, e⟩ := gd_s e
    obtain ⟨q6, h6, e⟩ := bn_s e
    refine Ex_callm (z := 87) (na := 2) (ck := 13) (as := [(2, (((ρ v0 1) : Nat) : Int)), (2, (((ρ v0 0) : Nat) : Int))]) (rest := []) (E0 := [(2, (((ρ v0 1) : Nat) : Int)), (2, (((ρ v0 0) : Nat) : Int)), (9, 0), (9, 0), (9, 0), (9, 0), (9, 0)]) (v := some (0, q6.1)) (h1 := (G, ρ, q6.2)) hm rfl (by omega) ⟨Nat.le_of_ble_eq_true rfl, Nat.le_of_ble_eq_true rfl⟩ (rc2 rfl g5) rfl rfl ml_87 rfl (Nat.le_of_ble_eq_true rfl) (tf87 h6 (by omega)) ?_
    show Ex d 100 12 [(2, ((v0 : Nat) : Int)), (0, v1)] [(0, q6.1)] (G, ρ, q6.2) rr
    refine Ex_run 4 (i' := 16) (L' := [(2, ((v0 : Nat) : Int)), (0, v1)]) (st' := [(0, v1), (2, (((ρ v0 1) : Nat) : Int))]) (h' := (G, ρ, q6.2)) hm rfl (cjc (gk_b g1) cjn) ?_
    obtain ⟨q7, h7, e⟩ := bn_s e
    refine Ex_callm (z := 88) (na := 2) (ck := 13) (as := [(2, (((ρ v0 1) : Nat) : Int)), (0, v1)]) (rest := []) (E0 := [(2, (((ρ v0 1) : Nat) : Int)), (0, v1), (9, 0), (9, 0)]) (v := some (0, q7)) (h1 := (G, ρ, q6.2)) hm rfl (by omega) ⟨Nat.le_of_ble_eq_true rfl, Nat.le_of_ble_eq_true rfl⟩ (rc2 rfl g5) rfl rfl ml_88 rfl (Nat.le_of_ble_eq_true rfl) (tf88 h7 (by omega)) ?_
    show Ex d 100 17 [(2, ((v0 : Nat) : Int)), (0, v1)] [(0, q7)] (G, ρ, q6.2) rr
    cases e
    cases hk
    exact Ex_ret (k := 1) hm rfl ⟨_, rfl, rfl⟩
theorem tf101 {G : Gg} {ρ : Rg} {d : Nat} {v0 : Nat} {v1 : Int} {m : Sg} {x : Int × Sg} (e : f101 G ρ v0 v1 m = some x) (hd : 4 ≤ d) : Ex d 101 0 [(2, ((v0 : Nat) : Int)), (0, v1)] [] (G, ρ, m) (some (0, x.1), (G, ρ, x.2)) := by
  unfold f101 at e
  have hm := mi_101
  generalize hk : (some (0, x.1), (G, ρ, x.2)) = rr
  replace hk : (Bi G ρ) x rr := hk.symm
  refine Ex_run 1 (i' := 1) (L' := [(2, ((v0 : Nat) : Int)), (0, v1)]) (st' := [(0, v1)]) (h' := (G, ρ, m)) hm rfl cjn ?_
  by_cases c1 : v1 < 0
  · replace e := it_p e c1
    refine Ex_if1t (c := 2) (tgt := 5) hm rfl (bt2 c1) ?_
    refine Ex_run 1 (i' := 6) (L' := [(2, ((v0 : Nat) : Int)), (0, v1)]) (st' := [(0, (-2))]) (h' := (G, ρ, m)) hm rfl cjn ?_
    cases e
    cases hk
    exact Ex_ret (k := 1) hm rfl ⟨_, rfl, rfl⟩
  · replace e := it_n e c1
    refine Ex_if1f (c := 2) (tgt := 5) hm rfl (bf2 c1) ?_
    refine Ex_run 2 (i' := 4) (L' := [(2, ((v0 : Nat) : Int)), (0, v1)]) (st' := [(0, 2), (0, v1)]) (h' := (G, ρ, m)) hm rfl cjn ?_
    by_cases c2 : 2 < v1
    · replace e := it_p e c2
      refine Ex_if2f (c := 5) (tgt := 7) hm rfl (bf5 c2) ?_
      refine Ex_run 1 (i' := 6) (L' := [(2, ((v0 : Nat) : Int)), (0, v1)]) (st' := [(0, (-2))]) (h' := (G, ρ, m)) hm rfl cjn ?_
      cases e
      cases hk
      exact Ex_ret (k := 1) hm rfl ⟨_, rfl, rfl⟩
    · replace e := it_n e c2
      refine Ex_if2t (c := 5) (tgt := 7) hm rfl (bt5 c2) ?_
      obtain ⟨g3, e⟩ := gd_s e
      refine Ex_run 4 (i' := 11) (L' := [(2, ((v0 : Nat) : Int)), (0, v1)]) (st' := [(2, (((ρ v0 0) : Nat) : Int)), (2, (((ρ v0 1) : Nat) : Int))]) (h' := (G, ρ, m)) hm rfl (cjc (gk_b g3) (cjc (gk_b g3) cjn)) ?_
      obtain ⟨g4, e⟩ := gd_s e
      obtain ⟨q5, h5, e⟩ := bn_s e
      refine Ex_callm (z := 87) (na := 2) (ck := 13) (as := [(2, (((ρ v0 1) : Nat) : Int)), (2, (((ρ v0 0) : Nat) : Int))]) (rest := []) (E0 := [(2, (((ρ v0 1) : Nat) : Int)), (2, (((ρ v0 0) : Nat) : Int)), (9, 0), (9, 0), (9, 0), (9, 0), (9, 0)]) (v := some (0, q5.1)) (h1 := (G, ρ, q5.2)) hm rfl (by omega) ⟨Nat.le_of_ble_eq_true rfl, Nat.le_of_ble_eq_true rfl⟩ (rc2 rfl g4) rfl rfl ml_87 rfl (Nat.le_of_ble_eq_true rfl) (tf87 h5 (by omega)) ?_
      show Ex d 101 12 [(2, ((v0 : Nat) : Int)), (0, v1)] [(0, q5.1)] (G, ρ, q5.2) rr
      refine Ex_run 4 (i' := 16) (L' := [(2, ((v0 : Nat) : Int)), (0, v1)]) (st' := [(0, v1), (2, (((ρ v0 1) : Nat) : Int))]) (h' := (G, ρ, q5.2)) hm rfl (cjc (gk_b g3) cjn) ?_
      obtain ⟨q6, h6, e⟩ := bn_s e
      refine Ex_callm (z := 89) (na := 2) (ck := 13) (as := [(2, (((ρ v0 1) : Nat) : Int)), (0, v1)]) (rest := []) (E0 := [(2, (((ρ v0 1) : Nat) : Int)), (0, v1), (9, 0), (9, 0), (9, 0)]) (v := some (0, q6)) (h1 := (G, ρ, q5.2)) hm rfl (by omega) ⟨Nat.le_of_ble_eq_true rfl, Nat.le_of_ble_eq_true rfl⟩ (rc2 rfl g4) rfl rfl ml_89 rfl (Nat.le_of_ble_eq_true rfl) (tf89 h6 (by omega)) ?_
      show Ex d 101 17 [(2, ((v0 : Nat) : Int)), (0, v1)] [(0, q6)] (G, ρ, q5.2) rr
      cases e
      cases hk
      exact Ex_ret (k := 1) hm rfl ⟨_, rfl, rfl⟩
theorem tf102 {G : Gg} {ρ : Rg} {d : Nat} {v0 : Nat} {v1 : Int} {m : Sg} {x : Int × Sg} (e : f102 G ρ v0 v1 m = some x) (hd : 4 ≤ d) : Ex d 102 0 [(2, ((v0 : Nat) : Int)), (0, v1)] [] (G, ρ, m) (some (0, x.1), (G, ρ, x.2)) := by
  unfold f102 at e
  have hm := mi_102
  generalize hk : (some (0, x.1), (G, ρ, x.2)) = rr
  replace hk : (Bi G ρ) x rr := hk.symm
  obtain ⟨g1, e⟩ := gd_s e
  refine Ex_run 3 (i' := 3) (L' := [(2, ((v0 : Nat) : Int)), (0, v1)]) (st' := [(0, v1), (2, (((ρ v0 0) : Nat) : Int))]) (h' := (G, ρ, m)) hm rfl (cjc (gk_b g1) cjn) ?_
  obtain ⟨g2, e⟩ := gd_s e
  obtain ⟨q3, h3, e⟩ := bn_s e
  refine Ex_callm (z := 38) (na := 2) (ck := 7) (as := [(2, (((ρ v0 0) : Nat) : Int)), (0, v1)]) (rest := []) (E0 := [(2, (((ρ v0 0) : Nat) : Int)), (0, v1)]) (v := some (0, q3)) (h1 := (G, ρ, m)) hm rfl (by omega) ⟨Nat.le_of_ble_eq_true rfl, Nat.le_of_ble_eq_true rfl⟩ (rc2 rfl g2) rfl rfl ml_38 rfl (Nat.le_of_ble_eq_true rfl) (tf38 h3 (by omega)) ?_
  show Ex d 102 4 [(2, ((v0 : Nat) : Int)), (0, v1)] [(0, q3)] (G, ρ, m) rr
  by_cases c4 : q3 = 0
  · replace e := it_p e c4
    refine Ex_if1f (c := 1) (tgt := 7) hm rfl (bf1 c4) ?_
    refine Ex_run 1 (i' := 6) (L' := [(2, ((v0 : Nat) : Int)), (0, v1)]) (st' := [(0, (-2))]) (h' := (G, ρ, m)) hm rfl cjn ?_
    cases e
    cases hk
    exact Ex_ret (k := 1) hm rfl ⟨_, rfl, rfl⟩
  · replace e := it_n e c4
    refine Ex_if1t (c := 1) (tgt := 7) hm rfl (bt1 c4) ?_
    refine Ex_run 4 (i' := 11) (L' := [(2, ((v0 : Nat) : Int)), (0, v1)]) (st' := [(2, (((ρ v0 0) : Nat) : Int)), (2, (((ρ v0 1) : Nat) : Int))]) (h' := (G, ρ, m)) hm rfl (cjc (gk_b g1) (cjc (gk_b g1) cjn)) ?_
    obtain ⟨g5, e⟩ := gd_s e
    obtain ⟨q6, h6, e⟩ := bn_s e
    refine Ex_callm (z := 87) (na := 2) (ck := 13) (as := [(2, (((ρ v0 1) : Nat) : Int)), (2, (((ρ v0 0) : Nat) : Int))]) (rest := []) (E0 := [(2, (((ρ v0 1) : Nat) : Int)), (2, (((ρ v0 0) : Nat) : Int)), (9, 0), (9, 0), (9, 0), (9, 0), (9, 0)]) (v := some (0, q6.1)) (h1 := (G, ρ, q6.2)) hm rfl (by omega) ⟨Nat.le_of_ble_eq_true rfl, Nat.le_of_ble_eq_true rfl⟩ (rc2 rfl g5) rfl rfl ml_87 rfl (Nat.le_of_ble_eq_true rfl) (tf87 h6 (by omega)) ?_
    show Ex d 102 12 [(2, ((v0 : Nat) : Int)), (0, v1)] [(0, q6.1)] (G, ρ, q6.2) rr
    refine Ex_run 5 (i' := 17) (L' := [(2, ((v0 : Nat) : Int)), (0, v1)]) (st' := [(0, v1), (2, (((ρ (ρ v0 1) 0) : Nat) : Int))]) (h' := (G, ρ, q6.2)) hm rfl (cjc (gk_b g1) (cjc (gk_b g5) cjn)) ?_
    obtain ⟨g7, e⟩ := gd_s e
    obtain ⟨q8, h8, e⟩ := bn_s e
    refine Ex_callm (z := 33) (na := 2) (ck := 6) (as := [(2, (((ρ (ρ v0 1) 0) : Nat) : Int)), (0, v1)]) (rest := []) (E0 := [(2, (((ρ (ρ v0 1) 0) : Nat) : Int)), (0, v1)]) (v := some (0, q8)) (h1 := (G, ρ, q6.2)) hm rfl (by omega) ⟨Nat.le_of_ble_eq_true rfl, Nat.le_of_ble_eq_true rfl⟩ (rc2 rfl g7) rfl rfl ml_33 rfl (Nat.le_of_ble_eq_true rfl) (tf33 h8 (by omega)) ?_
    show Ex d 102 18 [(2, ((v0 : Nat) : Int)), (0, v1)] [(0, q8)] (G, ρ, q6.2) rr
    by_cases c9 : q8 = 0
    · replace e := it_p e c9
      refine Ex_if1f (c := 1) (tgt := 24) hm rfl (bf1 c9) ?_
      refine Ex_run 3 (i' := 22) (L' := [(2, ((v0 : Nat) : Int)), (0, v1)]) (st' := [(0, v1), (2, (((ρ v0 1) : Nat) : Int))]) (h' := (G, ρ, q6.2)) hm rfl (cjc (gk_b g1) cjn) ?_
      obtain ⟨q10, h10, e⟩ := bn_s e
      refine Ex_callm (z := 90) (na := 2) (ck := 13) (as := [(2, (((ρ v0 1) : Nat) : Int)), (0, v1)]) (rest := []) (E0 := [(2, (((ρ v0 1) : Nat) : Int)), (0, v1), (9, 0), (9, 0), (9, 0)]) (v := some (0, q10)) (h1 := (G, ρ, q6.2)) hm rfl (by omega) ⟨Nat.le_of_ble_eq_true rfl, Nat.le_of_ble_eq_true rfl⟩ (rc2 rfl g5) rfl rfl ml_90 rfl (Nat.le_of_ble_eq_true rfl) (tf90 h10 (by omega)) ?_
      show Ex d 102 23 [(2, ((v0 : Nat) : Int)), (0, v1)] [(0, q10)] (G, ρ, q6.2) rr
      refine Ex_run 1 (i' := 25) (L' := [(2, ((v0 : Nat) : Int)), (0, v1)]) (st' := [(0, q10)]) (h' := (G, ρ, q6.2)) hm rfl cjn ?_
      cases e
      cases hk
      exact Ex_ret (k := 1) hm rfl ⟨_, rfl, rfl⟩
    · replace e := it_n e c9
      refine Ex_if1t (c := 1) (tgt := 24) hm rfl (bt1 c9) ?_
      refine Ex_run 1 (i' := 25) (L' := [(2, ((v0 : Nat) : Int)), (0, v1)]) (st' := [(0, (-1))]) (h' := (G, ρ, q6.2)) hm rfl cjn ?_
      cases e
      cases hk
      exact Ex_ret (k := 1) hm rfl ⟨_, rfl, rfl⟩
theorem tf103 {G : Gg} {ρ : Rg} {d : Nat} {v0 : Nat} {v1 : Int} {m : Sg} {x : Int × Sg} (e : f103 G ρ v0 v1 m = some x) (hd : 6 ≤ d) : Ex d 103 0 [(2, ((v0 : Nat) : Int)), (0, v1)] [] (G, ρ, m) (some (0, x.1), (G, ρ, x.2)) := by
  unfold f103 at e
  have hm := mi_103
  generalize hk : (some (0, x.1), (G, ρ, x.2)) = rr
  replace hk : (Bi G ρ) x rr := hk.symm
  obtain ⟨g1, e⟩ := gd_s e
  refine Ex_run 4 (i' := 4) (L' := [(2, ((v0 : Nat) : Int)), (0, v1)]) (st' := [(2, (((ρ v0 0) : Nat) : Int)), (2, (((ρ v0 2) : Nat) : Int))]) (h' := (G, ρ, m)) hm rfl (cjc (gk_b g1) (cjc (gk_b g1) cjn)) ?_
  obtain ⟨g2, e⟩ := gd_s e
  obtain ⟨q3, h3, e⟩ := bn_s e
  refine Ex_callm (z := 1) (na := 2) (ck := 3) (as := [(2, (((ρ v0 2) : Nat) : Int)), (2, (((ρ v0 0) : Nat) : Int))]) (rest := []) (E0 := [(2, (((ρ v0 2) : Nat) : Int)), (2, (((ρ v0 0) : Nat) : Int)), (9, 0), (9, 0)]) (v := none) (h1 := (G, ρ, q3)) hm rfl (by omega) ⟨Nat.le_of_ble_eq_true rfl, Nat.le_of_ble_eq_true rfl⟩ (rc2 rfl g2) rfl rfl ml_1 rfl (Nat.le_of_ble_eq_true rfl) (tf1 h3 (by omega)) ?_
  show Ex d 103 5 [(2, ((v0 : Nat) : Int)), (0, v1)] [] (G, ρ, q3) rr
  refine Ex_run 2 (i' := 7) (L' := [(2, ((v0 : Nat) : Int)), (0, v1)]) (st' := [(0, (-1)), (0, v1)]) (h' := (G, ρ, q3)) hm rfl cjn ?_
  by_cases c4 : v1 = (-1)
  · replace e := it_p e c4
    refine Ex_if2f (c := 1) (tgt := 12) hm rfl (bf1 c4) ?_
    refine Ex_run 3 (i' := 11) (L' := [(2, ((v0 : Nat) : Int)), (0, v1)]) (st' := [(0, (q3 (ρ v0 2) 4))]) (h' := (G, ρ, q3)) hm rfl (cjc (gk_b g1) (cjc (gk_b g2) cjn)) ?_
    cases e
    cases hk
    exact Ex_ret (k := 1) hm rfl ⟨_, rfl, rfl⟩
  · replace e := it_n e c4
    refine Ex_if2t (c := 1) (tgt := 12) hm rfl (bt1 c4) ?_
    refine Ex_run 1 (i' := 13) (L' := [(2, ((v0 : Nat) : Int)), (0, v1)]) (st' := [(0, v1)]) (h' := (G, ρ, q3)) hm rfl cjn ?_
    by_cases c5 : v1 < 0
    · replace e := it_p e c5
      refine Ex_if1t (c := 2) (tgt := 19) hm rfl (bt2 c5) ?_
      refine Ex_run 1 (i' := 20) (L' := [(2, ((v0 : Nat) : Int)), (0, v1)]) (st' := [(0, (-1))]) (h' := (G, ρ, q3)) hm rfl cjn ?_
      cases e
      cases hk
      exact Ex_ret (k := 1) hm rfl ⟨_, rfl, rfl⟩
    · replace e := it_n e c5
      refine Ex_if1f (c := 2) (tgt := 19) hm rfl (bf2 c5) ?_
      refine Ex_run 4 (i' := 18) (L' := [(2, ((v0 : Nat) : Int)), (0, v1)]) (st' := [(0, (q3 (ρ v0 2) 4)), (0, v1)]) (h' := (G, ρ, q3)) hm rfl (cjc (gk_b g1) (cjc (gk_b g2) cjn)) ?_
      by_cases c6 : v1 < (q3 (ρ v0 2) 4)
      · replace e := it_p e c6
        refine Ex_if2t (c := 2) (tgt := 21) hm rfl (bt2 c6) ?_
        refine Ex_run 1 (i' := 22) (L' := [(2, ((v0 : Nat) : Int)), (0, v1)]) (st' := [(0, v1)]) (h' := (G, ρ, q3)) hm rfl cjn ?_
        by_cases c7 : v1 = 0
        · replace e := it_p e c7
          refine Ex_if1f (c := 1) (tgt := 27) hm rfl (bf1 c7) ?_
          refine Ex_run 4 (i' := 30) (L' := [(2, ((v0 : Nat) : Int)), (0, v1)]) (st' := [(0, (q3 (ρ v0 2) 5))]) (h' := (G, ρ, q3)) hm rfl (cjc (gk_b g1) (cjc (gk_b g2) cjn)) ?_
          cases e
          cases hk
          exact Ex_ret (k := 1) hm rfl ⟨_, rfl, rfl⟩
        · replace e := it_n e c7
          refine Ex_if1t (c := 1) (tgt := 27) hm rfl (bt1 c7) ?_
          refine Ex_run 3 (i' := 30) (L' := [(2, ((v0 : Nat) : Int)), (0, v1)]) (st' := [(0, (q3 (ρ v0 2) 6))]) (h' := (G, ρ, q3)) hm rfl (cjc (gk_b g1) (cjc (gk_b g2) cjn)) ?_
          cases e
          cases hk
          exact Ex_ret (k := 1) hm rfl ⟨_, rfl, rfl⟩
      · replace e := it_n e c6
        refine Ex_if2f (c := 2) (tgt := 21) hm rfl (bf2 c6) ?_
        refine Ex_run 1 (i' := 20) (L' := [(2, ((v0 : Nat) : Int)), (0, v1)]) (st' := [(0, (-1))]) (h' := (G, ρ, q3)) hm rfl cjn ?_
        cases e
        cases hk
        exact Ex_ret (k := 1) hm rfl ⟨_, rfl, rfl⟩
theorem tf104 {G : Gg} {ρ : Rg} {d : Nat} {v0 : Nat} {v1 : Int} {v2 : Int} {m : Sg} {x : Int × Sg} (e : f104 G ρ v0 v1 v2 m = some x) (hd : 4 ≤ d) : Ex d 104 0 [(2, ((v0 : Nat) : Int)), (0, v1), (0, v2)] [] (G, ρ, m) (some (1, x.1), (G, ρ, x.2)) := by
  unfold f104 at e
  have hm := mi_104
  generalize hk : (some (1, x.1), (G, ρ, x.2)) = rr
  replace hk : (Bl G ρ) x rr := hk.symm
  refine Ex_run 1 (i' := 1) (L' := [(2, ((v0 : Nat) : Int)), (0, v1), (0, v2)]) (st' := [(0, v1)]) (h' := (G, ρ, m)) hm rfl cjn ?_
  by_cases c1 : v1 < 0
  · replace e := it_p e c1
    refine Ex_if1t (c := 2) (tgt := 10) hm rfl (bt2 c1) ?_
    refine Ex_run 1 (i' := 11) (L' := [(2, ((v0 : Nat) : Int)), (0, v1), (0, v2)]) (st' := [(1, (-4611686018427387904))]) (h' := (G, ρ, m)) hm rfl cjn ?_
    cases e
    cases hk
    exact Ex_ret (k := 3) hm rfl ⟨_, rfl, rfl⟩
  · replace e := it_n e c1
    refine Ex_if1f (c := 2) (tgt := 10) hm rfl (bf2 c1) ?_
    refine Ex_run 2 (i' := 4) (L' := [(2, ((v0 : Nat) : Int)), (0, v1), (0, v2)]) (st' := [(0, 12), (0, v1)]) (h' := (G, ρ, m)) hm rfl cjn ?_
    by_cases c2 : 12 < v1
    · replace e := it_p e c2
      refine Ex_if2t (c := 4) (tgt := 10) hm rfl (bt4 c2) ?_
      refine Ex_run 1 (i' := 11) (L' := [(2, ((v0 : Nat) : Int)), (0, v1), (0, v2)]) (st' := [(1, (-4611686018427387904))]) (h' := (G, ρ, m)) hm rfl cjn ?_
      cases e
      cases hk
      exact Ex_ret (k := 3) hm rfl ⟨_, rfl, rfl⟩
    · replace e := it_n e c2
      refine Ex_if2f (c := 4) (tgt := 10) hm rfl (bf4 c2) ?_
      refine Ex_run 1 (i' := 6) (L' := [(2, ((v0 : Nat) : Int)), (0, v1), (0, v2)]) (st' := [(0, v2)]) (h' := (G, ρ, m)) hm rfl cjn ?_
      by_cases c3 : v2 < 0
      · replace e := it_p e c3
        refine Ex_if1t (c := 2) (tgt := 10) hm rfl (bt2 c3) ?_
        refine Ex_run 1 (i' := 11) (L' := [(2, ((v0 : Nat) : Int)), (0, v1), (0, v2)]) (st' := [(1, (-4611686018427387904))]) (h' := (G, ρ, m)) hm rfl cjn ?_
        cases e
        cases hk
        exact Ex_ret (k := 3) hm rfl ⟨_, rfl, rfl⟩
      · replace e := it_n e c3
        refine Ex_if1f (c := 2) (tgt := 10) hm rfl (bf2 c3) ?_
        refine Ex_run 2 (i' := 9) (L' := [(2, ((v0 : Nat) : Int)), (0, v1), (0, v2)]) (st' := [(0, 2), (0, v2)]) (h' := (G, ρ, m)) hm rfl cjn ?_
        by_cases c4 : 2 < v2
        · replace e := it_p e c4
          refine Ex_if2f (c := 5) (tgt := 12) hm rfl (bf5 c4) ?_
          refine Ex_run 1 (i' := 11) (L' := [(2, ((v0 : Nat) : Int)), (0, v1), (0, v2)]) (st' := [(1, (-4611686018427387904))]) (h' := (G, ρ, m)) hm rfl cjn ?_
          cases e
          cases hk
          exact Ex_ret (k := 3) hm rfl ⟨_, rfl, rfl⟩
        · replace e := it_n e c4
          refine Ex_if2t (c := 5) (tgt := 12) hm rfl (bt5 c4) ?_
          obtain ⟨g5, e⟩ := gd_s e
          refine Ex_run 5 (i' := 17) (L' := [(2, ((v0 : Nat) : Int)), (0, v1), (0, v2)]) (st' := [(0, v1), (2, (((ρ v0 0) : Nat) : Int)), (2, (((ρ v0 3) : Nat) : Int))]) (h' := (G, ρ, m)) hm rfl (cjc (gk_b g5) (cjc (gk_b g5) cjn)) ?_
          obtain ⟨g6, e⟩ := gd_s e
          obtain ⟨q7, h7, e⟩ := bn_s e
          refine Ex_callm (z := 61) (na := 3) (ck := 10) (as := [(2, (((ρ v0 3) : Nat) : Int)), (2, (((ρ v0 0) : Nat) : Int)), (0, v1)]) (rest := []) (E0 := [(2, (((ρ v0 3) : Nat) : Int)), (2, (((ρ v0 0) : Nat) : Int)), (0, v1), (9, 0), (9, 0)]) (v := none) (h1 := (G, ρ, q7)) hm rfl (by omega) ⟨Nat.le_of_ble_eq_true rfl, Nat.le_of_ble_eq_true rfl⟩ (rc2 rfl g6) rfl rfl ml_61 rfl (Nat.le_of_ble_eq_true rfl) (tf61 h7 (by omega)) ?_
          show Ex d 104 18 [(2, ((v0 : Nat) : Int)), (0, v1), (0, v2)] [] (G, ρ, q7) rr
          refine Ex_run 2 (i' := 20) (L' := [(2, ((v0 : Nat) : Int)), (0, v1), (0, v2)]) (st' := [(0, 2), (0, v2)]) (h' := (G, ρ, q7)) hm rfl cjn ?_
          by_cases c8 : v2 = 2
          · replace e := it_p e c8
            refine Ex_if2f (c := 1) (tgt := 26) hm rfl (bf1 c8) ?_
            refine Ex_run 2 (i' := 23) (L' := [(2, ((v0 : Nat) : Int)), (0, v1), (0, v2)]) (st' := [(2, (((ρ v0 3) : Nat) : Int))]) (h' := (G, ρ, q7)) hm rfl (cjc (gk_b g5) cjn) ?_
            obtain ⟨q9, h9, e⟩ := bn_s e
            refine Ex_callm (z := 62) (na := 1) (ck := 10) (as := [(2, (((ρ v0 3) : Nat) : Int))]) (rest := []) (E0 := [(2, (((ρ v0 3) : Nat) : Int)), (9, 0), (9, 0)]) (v := some (0, q9)) (h1 := (G, ρ, q7)) hm rfl (by omega) ⟨Nat.le_of_ble_eq_true rfl, Nat.le_of_ble_eq_true rfl⟩ (rc2 rfl g6) rfl rfl ml_62 rfl (Nat.le_of_ble_eq_true rfl) (tf62 h9 (by omega)) ?_
            show Ex d 104 24 [(2, ((v0 : Nat) : Int)), (0, v1), (0, v2)] [(0, q9)] (G, ρ, q7) rr
            refine Ex_run 1 (i' := 25) (L' := [(2, ((v0 : Nat) : Int)), (0, v1), (0, v2)]) (st' := [(1, q9)]) (h' := (G, ρ, q7)) hm rfl cjn ?_
            cases e
            cases hk
            exact Ex_ret (k := 3) hm rfl ⟨_, rfl, rfl⟩
          · replace e := it_n e c8
            refine Ex_if2t (c := 1) (tgt := 26) hm rfl (bt1 c8) ?_
            refine Ex_run 1 (i' := 27) (L' := [(2, ((v0 : Nat) : Int)), (0, v1), (0, v2)]) (st' := [(0, v2)]) (h' := (G, ρ, q7)) hm rfl cjn ?_
            by_cases c10 : v2 = 0
            · replace e := it_p e c10
              refine Ex_if1f (c := 1) (tgt := 33) hm rfl (bf1 c10) ?_
              refine Ex_run 5 (i' := 37) (L' := [(2, ((v0 : Nat) : Int)), (0, v1), (0, v2)]) (st' := [(1, (q7 (ρ v0 3) 2))]) (h' := (G, ρ, q7)) hm rfl (cjc (gk_b g5) (cjc (gk_b g6) cjn)) ?_
              cases e
              cases hk
              exact Ex_ret (k := 3) hm rfl ⟨_, rfl, rfl⟩
            · replace e := it_n e c10
              refine Ex_if1t (c := 1) (tgt := 33) hm rfl (bt1 c10) ?_
              refine Ex_run 4 (i' := 37) (L' := [(2, ((v0 : Nat) : Int)), (0, v1), (0, v2)]) (st' := [(1, (q7 (ρ v0 3) 3))]) (h' := (G, ρ, q7)) hm rfl (cjc (gk_b g5) (cjc (gk_b g6) cjn)) ?_
              cases e
              cases hk
              exact Ex_ret (k := 3) hm rfl ⟨_, rfl, rfl⟩
theorem tf132 {G : Gg} {ρ : Rg} {d : Nat} {v0 : Int} {m : Sg} {x : Int} (e : f132 G ρ v0 m = some x) (hd : 0 ≤ d) : Ex d 132 0 [(1, v0), (9, 0)] [] (G, ρ, m) (some (0, x), (G, ρ, m)) := by
  unfold f132 at e
  have hm := mi_132
  generalize hk : (some (0, x), (G, ρ, m)) = rr
  replace hk : (Bpi G ρ m) x rr := hk.symm
  refine Ex_run 3 (i' := 3) (L' := [(1, v0), (9, 0)]) (st' := [(0, (lcm3 v0 0))]) (h' := (G, ρ, m)) hm rfl cjn ?_
  by_cases c1 : v0 < 0
  · replace e := it_p e c1
    refine Ex_if1t (c := 2) (tgt := 10) hm rfl (cm_lc 2 _ _ (bt2 c1)) ?_
    refine Ex_run 1 (i' := 11) (L' := [(1, v0), (9, 0)]) (st' := [(0, 0)]) (h' := (G, ρ, m)) hm rfl cjn ?_
    cases e
    cases hk
    exact Ex_ret (k := 2) hm rfl ⟨_, rfl, by decide, rfl⟩
  · replace e := it_n e c1
    refine Ex_if1f (c := 2) (tgt := 10) hm rfl (cm_lc 2 _ _ (bf2 c1)) ?_
    refine Ex_run 3 (i' := 7) (L' := [(1, v0), (9, 0)]) (st' := [(0, (lcm3 v0 1000000000000000000))]) (h' := (G, ρ, m)) hm rfl cjn ?_
    by_cases c2 : v0 < 1000000000000000000
    · replace e := it_p e c2
      refine Ex_if1f (c := 3) (tgt := 10) hm rfl (cm_lc 3 _ _ (bf3 c2)) ?_
      refine Ex_run 2 (i' := 11) (L' := [(1, v0), (9, 0)]) (st' := [(0, 1)]) (h' := (G, ρ, m)) hm rfl cjn ?_
      cases e
      cases hk
      exact Ex_ret (k := 2) hm rfl ⟨_, rfl, by decide, rfl⟩
    · replace e := it_n e c2
      refine Ex_if1t (c := 3) (tgt := 10) hm rfl (cm_lc 3 _ _ (bt3 c2)) ?_
      refine Ex_run 1 (i' := 11) (L' := [(1, v0), (9, 0)]) (st' := [(0, 0)]) (h' := (G, ρ, m)) hm rfl cjn ?_
      cases e
      cases hk
      exact Ex_ret (k := 2) hm rfl ⟨_, rfl, by decide, rfl⟩
theorem tf105 {G : Gg} {ρ : Rg} {d : Nat} {v0 : Nat} {v1 : Int} {m : Sg} {x : Int} (e : f105 G ρ v0 v1 m = some x) (hd : 3 ≤ d) : Ex d 105 0 [(2, ((v0 : Nat) : Int)), (1, v1), (9, 0)] [] (G, ρ, m) (some (0, x), (G, ρ, m)) := by
  unfold f105 at e
  have hm := mi_105
  generalize hk : (some (0, x), (G, ρ, m)) = rr
  replace hk : (Bpi G ρ m) x rr := hk.symm
  refine Ex_run 1 (i' := 1) (L' := [(2, ((v0 : Nat) : Int)), (1, v1), (9, 0)]) (st' := [(1, v1)]) (h' := (G, ρ, m)) hm rfl cjn ?_
  obtain ⟨q1, h1, e⟩ := bn_s e
  refine Ex_callm (z := 132) (na := 1) (ck := 0) (as := [(1, v1)]) (rest := []) (E0 := [(1, v1), (9, 0)]) (v := some (0, q1)) (h1 := (G, ρ, m)) hm rfl (by omega) ⟨Nat.le_of_ble_eq_true rfl, Nat.le_of_ble_eq_true rfl⟩ (trivial) rfl rfl ml_132 rfl (Nat.le_of_ble_eq_true rfl) (tf132 h1 (by omega)) ?_
  show Ex d 105 2 [(2, ((v0 : Nat) : Int)), (1, v1), (9, 0)] [(0, q1)] (G, ρ, m) rr
  by_cases c2 : q1 = 0
  · replace e := it_p e c2
    refine Ex_if1t (c := 0) (tgt := 8) hm rfl (bt0 c2) ?_
    refine Ex_run 1 (i' := 9) (L' := [(2, ((v0 : Nat) : Int)), (1, v1), (9, 0)]) (st' := [(0, (-2))]) (h' := (G, ρ, m)) hm rfl cjn ?_
    cases e
    cases hk
    exact Ex_ret (k := 1) hm rfl ⟨_, rfl, rfl⟩
  · replace e := it_n e c2
    refine Ex_if1f (c := 0) (tgt := 8) hm rfl (bf0 c2) ?_
    obtain ⟨g3, e⟩ := gd_s e
    refine Ex_run 3 (i' := 6) (L' := [(2, ((v0 : Nat) : Int)), (1, v1), (9, 0)]) (st' := [(1, v1), (2, (((ρ v0 0) : Nat) : Int))]) (h' := (G, ρ, m)) hm rfl (cjc (gk_b g3) cjn) ?_
    obtain ⟨g4, e⟩ := gd_s e
    obtain ⟨q5, h5, e⟩ := bn_s e
    refine Ex_callm (z := 45) (na := 2) (ck := 7) (as := [(2, (((ρ v0 0) : Nat) : Int)), (1, v1)]) (rest := []) (E0 := [(2, (((ρ v0 0) : Nat) : Int)), (1, v1), (9, 0), (9, 0), (9, 0), (9, 0), (9, 0), (9, 0), (9, 0), (9, 0), (9, 0)]) (v := some (0, q5)) (h1 := (G, ρ, m)) hm rfl (by omega) ⟨Nat.le_of_ble_eq_true rfl, Nat.le_of_ble_eq_true rfl⟩ (rc2 rfl g4) rfl rfl ml_45 rfl (Nat.le_of_ble_eq_true rfl) (tf45 h5 (by omega)) ?_
    show Ex d 105 7 [(2, ((v0 : Nat) : Int)), (1, v1), (9, 0)] [(0, q5)] (G, ρ, m) rr
    refine Ex_run 1 (i' := 9) (L' := [(2, ((v0 : Nat) : Int)), (1, v1), (9, 0)]) (st' := [(0, q5)]) (h' := (G, ρ, m)) hm rfl cjn ?_
    cases e
    cases hk
    exact Ex_ret (k := 1) hm rfl ⟨_, rfl, rfl⟩
theorem tf133 {G : Gg} {ρ : Rg} {d : Nat} {v0 : Int} {m : Sg} {x : Int} (e : f133 G ρ v0 m = some x) (hd : 0 ≤ d) : Ex d 133 0 [(0, v0)] [] (G, ρ, m) (some (0, x), (G, ρ, m)) := by
  unfold f133 at e
  have hm := mi_133
  generalize hk : (some (0, x), (G, ρ, m)) = rr
  replace hk : (Bpi G ρ m) x rr := hk.symm
  refine Ex_run 1 (i' := 1) (L' := [(0, v0)]) (st' := [(0, v0)]) (h' := (G, ρ, m)) hm rfl cjn ?_
  by_cases c1 : v0 < 0
  · replace e := it_p e c1
    refine Ex_if1t (c := 2) (tgt := 7) hm rfl (bt2 c1) ?_
    refine Ex_run 1 (i' := 8) (L' := [(0, v0)]) (st' := [(0, 0)]) (h' := (G, ρ, m)) hm rfl cjn ?_
    cases e
    cases hk
    exact Ex_ret (k := 2) hm rfl ⟨_, rfl, by decide, rfl⟩
  · replace e := it_n e c1
    refine Ex_if1f (c := 2) (tgt := 7) hm rfl (bf2 c1) ?_
    refine Ex_run 2 (i' := 4) (L' := [(0, v0)]) (st' := [(0, 999), (0, v0)]) (h' := (G, ρ, m)) hm rfl cjn ?_
    by_cases c2 : 999 < v0
    · replace e := it_p e c2
      refine Ex_if2t (c := 4) (tgt := 7) hm rfl (bt4 c2) ?_
      refine Ex_run 1 (i' := 8) (L' := [(0, v0)]) (st' := [(0, 0)]) (h' := (G, ρ, m)) hm rfl cjn ?_
      cases e
      cases hk
      exact Ex_ret (k := 2) hm rfl ⟨_, rfl, by decide, rfl⟩
    · replace e := it_n e c2
      refine Ex_if2f (c := 4) (tgt := 7) hm rfl (bf4 c2) ?_
      refine Ex_run 2 (i' := 8) (L' := [(0, v0)]) (st' := [(0, 1)]) (h' := (G, ρ, m)) hm rfl cjn ?_
      cases e
      cases hk
      exact Ex_ret (k := 2) hm rfl ⟨_, rfl, by decide, rfl⟩
theorem tf139 {G : Gg} {ρ : Rg} {d : Nat} {v0 : Nat} {v1 : Int} {m : Sg} {x : Sg} (e : f139 G ρ v0 v1 m = some x) (hd : 4 ≤ d) : Ex d 139 0 [(2, ((v0 : Nat) : Int)), (0, v1)] [] (G, ρ, m) (none, (G, ρ, x)) := by
  unfold f139 at e
  have hm := mi_139
  generalize hk : (none, (G, ρ, x)) = rr
  replace hk : (Bv G ρ) x rr := hk.symm
  obtain ⟨g1, e⟩ := gd_s e
  refine Ex_run 5 (i' := 5) (L' := [(2, ((v0 : Nat) : Int)), (0, v1)]) (st' := [(2, (((ρ v0 5) : Nat) : Int)), (0, v1), (2, (((ρ v0 4) : Nat) : Int))]) (h' := (G, ρ, m)) hm rfl (cjc (gk_b g1) (cjc (gk_b g1) cjn)) ?_
  obtain ⟨g2, e⟩ := gd_s e
  obtain ⟨q3, h3, e⟩ := bn_s e
  refine Ex_callm (z := 70) (na := 3) (ck := 11) (as := [(2, (((ρ v0 4) : Nat) : Int)), (0, v1), (2, (((ρ v0 5) : Nat) : Int))]) (rest := []) (E0 := [(2, (((ρ v0 4) : Nat) : Int)), (0, v1), (2, (((ρ v0 5) : Nat) : Int)), (9, 0), (9, 0), (9, 0), (9, 0)]) (v := none) (h1 := (G, ρ, q3)) hm rfl (by omega) ⟨Nat.le_of_ble_eq_true rfl, Nat.le_of_ble_eq_true rfl⟩ (rc2 rfl g2) rfl rfl ml_70 rfl (Nat.le_of_ble_eq_true rfl) (tf70 h3 (by omega)) ?_
  show Ex d 139 6 [(2, ((v0 : Nat) : Int)), (0, v1)] [] (G, ρ, q3) rr
  refine Ex_run 4 (i' := 10) (L' := [(2, ((v0 : Nat) : Int)), (0, v1)]) (st' := [(2, (((ρ v0 5) : Nat) : Int)), (2, (((ρ v0 1) : Nat) : Int))]) (h' := (G, ρ, q3)) hm rfl (cjc (gk_b g1) (cjc (gk_b g1) cjn)) ?_
  obtain ⟨g4, e⟩ := gd_s e
  obtain ⟨q5, h5, e⟩ := bn_s e
  refine Ex_callm (z := 87) (na := 2) (ck := 13) (as := [(2, (((ρ v0 1) : Nat) : Int)), (2, (((ρ v0 5) : Nat) : Int))]) (rest := []) (E0 := [(2, (((ρ v0 1) : Nat) : Int)), (2, (((ρ v0 5) : Nat) : Int)), (9, 0), (9, 0), (9, 0), (9, 0), (9, 0)]) (v := some (0, q5.1)) (h1 := (G, ρ, q5.2)) hm rfl (by omega) ⟨Nat.le_of_ble_eq_true rfl, Nat.le_of_ble_eq_true rfl⟩ (rc2 rfl g4) rfl rfl ml_87 rfl (Nat.le_of_ble_eq_true rfl) (tf87 h5 (by omega)) ?_
  show Ex d 139 11 [(2, ((v0 : Nat) : Int)), (0, v1)] [(0, q5.1)] (G, ρ, q5.2) rr
  refine Ex_run 6 (i' := 17) (L' := [(2, ((v0 : Nat) : Int)), (0, v1)]) (st' := [(2, (((ρ v0 1) : Nat) : Int)), (0, v1), (2, (((ρ v0 4) : Nat) : Int))]) (h' := (G, ρ, q5.2)) hm rfl (cjc (gk_b g1) (cjc (gk_b g1) cjn)) ?_
  obtain ⟨q6, h6, e⟩ := bn_s e
  refine Ex_callm (z := 71) (na := 3) (ck := 11) (as := [(2, (((ρ v0 4) : Nat) : Int)), (0, v1), (2, (((ρ v0 1) : Nat) : Int))]) (rest := []) (E0 := [(2, (((ρ v0 4) : Nat) : Int)), (0, v1), (2, (((ρ v0 1) : Nat) : Int))]) (v := none) (h1 := (G, ρ, q6)) hm rfl (by omega) ⟨Nat.le_of_ble_eq_true rfl, Nat.le_of_ble_eq_true rfl⟩ (rc2 rfl g2) rfl rfl ml_71 rfl (Nat.le_of_ble_eq_true rfl) (tf71 h6 (by omega)) ?_
  show Ex d 139 18 [(2, ((v0 : Nat) : Int)), (0, v1)] [] (G, ρ, q6) rr
  cases e
  cases hk
  exact Ex_ret (k := 0) hm rfl ⟨rfl, rfl⟩
theorem tf106 {G : Gg} {ρ : Rg} {d : Nat} {v0 : Nat} {v1 : Int} {v2 : Int} {m : Sg} {x : Int × Sg} (e : f106 G ρ v0 v1 v2 m = some x) (hd : 5 ≤ d) : Ex d 106 0 [(2, ((v0 : Nat) : Int)), (0, v1), (0, v2), (9, 0)] [] (G, ρ, m) (some (0, x.1), (G, ρ, x.2)) := by
  unfold f106 at e
  have hm := mi_106
  generalize hk : (some (0, x.1), (G, ρ, x.2)) = rr
  replace hk : (Bi G ρ) x rr := hk.symm
  refine Ex_run 1 (i' := 1) (L' := [(2, ((v0 : Nat) : Int)), (0, v1), (0, v2), (9, 0)]) (st' := [(0, v1)]) (h' := (G, ρ, m)) hm rfl cjn ?_
  obtain ⟨q1, h1, e⟩ := bn_s e
  refine Ex_callm (z := 133) (na := 1) (ck := 0) (as := [(0, v1)]) (rest := []) (E0 := [(0, v1)]) (v := some (0, q1)) (h1 := (G, ρ, m)) hm rfl (by omega) ⟨Nat.le_of_ble_eq_true rfl, Nat.le_of_ble_eq_true rfl⟩ (trivial) rfl rfl ml_133 rfl (Nat.le_of_ble_eq_true rfl) (tf133 h1 (by omega)) ?_
  show Ex d 106 2 [(2, ((v0 : Nat) : Int)), (0, v1), (0, v2), (9, 0)] [(0, q1)] (G, ρ, m) rr
  by_cases c2 : q1 = 0
  · replace e := it_p e c2
    refine Ex_if1t (c := 0) (tgt := 8) hm rfl (bt0 c2) ?_
    refine Ex_run 1 (i' := 9) (L' := [(2, ((v0 : Nat) : Int)), (0, v1), (0, v2), (9, 0)]) (st' := [(0, (-2))]) (h' := (G, ρ, m)) hm rfl cjn ?_
    cases e
    cases hk
    exact Ex_ret (k := 1) hm rfl ⟨_, rfl, rfl⟩
  · replace e := it_n e c2
    refine Ex_if1f (c := 0) (tgt := 8) hm rfl (bf0 c2) ?_
    refine Ex_run 1 (i' := 4) (L' := [(2, ((v0 : Nat) : Int)), (0, v1), (0, v2), (9, 0)]) (st' := [(0, v2)]) (h' := (G, ρ, m)) hm rfl cjn ?_
    by_cases c3 : v2 < 0
    · replace e := it_p e c3
      refine Ex_if1t (c := 2) (tgt := 8) hm rfl (bt2 c3) ?_
      refine Ex_run 1 (i' := 9) (L' := [(2, ((v0 : Nat) : Int)), (0, v1), (0, v2), (9, 0)]) (st' := [(0, (-2))]) (h' := (G, ρ, m)) hm rfl cjn ?_
      cases e
      cases hk
      exact Ex_ret (k := 1) hm rfl ⟨_, rfl, rfl⟩
    · replace e := it_n e c3
      refine Ex_if1f (c := 2) (tgt := 8) hm rfl (bf2 c3) ?_
      refine Ex_run 2 (i' := 7) (L' := [(2, ((v0 : Nat) : Int)), (0, v1), (0, v2), (9, 0)]) (st' := [(0, 9), (0, v2)]) (h' := (G, ρ, m)) hm rfl cjn ?_
      by_cases c4 : 9 < v2
      · replace e := it_p e c4
        refine Ex_if2f (c := 5) (tgt := 10) hm rfl (bf5 c4) ?_
        refine Ex_run 1 (i' := 9) (L' := [(2, ((v0 : Nat) : Int)), (0, v1), (0, v2), (9, 0)]) (st' := [(0, (-2))]) (h' := (G, ρ, m)) hm rfl cjn ?_
        cases e
        cases hk
        exact Ex_ret (k := 1) hm rfl ⟨_, rfl, rfl⟩
      · replace e := it_n e c4
        refine Ex_if2t (c := 5) (tgt := 10) hm rfl (bt5 c4) ?_
        obtain ⟨g5, e⟩ := gd_s e
        obtain ⟨g6, e⟩ := gd_s e
        refine Ex_run 4 (i' := 14) (L' := [(2, ((v0 : Nat) : Int)), (0, v1), (0, v2), (9, 0)]) (st' := [(0, 12), (0, (m (ρ v0 4) 9))]) (h' := (G, ρ, m)) hm rfl (cjc (gk_b g5) (cjc (gk_b g6) cjn)) ?_
        by_cases c7 : (m (ρ v0 4) 9) < 12
        · replace e := it_p e c7
          refine Ex_if2t (c := 2) (tgt := 17) hm rfl (bt2 c7) ?_
          refine Ex_run 6 (i' := 23) (L' := [(2, ((v0 : Nat) : Int)), (0, v1), (0, v2), (9, 0)]) (st' := [(0, v2), (0, v1), (2, (((ρ v0 0) : Nat) : Int)), (2, (((ρ v0 4) : Nat) : Int))]) (h' := (G, ρ, m)) hm rfl (cjc (gk_b g5) (cjc (gk_b g5) cjn)) ?_
          obtain ⟨q8, h8, e⟩ := bn_s e
          refine Ex_callm (z := 66) (na := 4) (ck := 11) (as := [(2, (((ρ v0 4) : Nat) : Int)), (2, (((ρ v0 0) : Nat) : Int)), (0, v1), (0, v2)]) (rest := []) (E0 := [(2, (((ρ v0 4) : Nat) : Int)), (2, (((ρ v0 0) : Nat) : Int)), (0, v1), (0, v2), (9, 0), (9, 0)]) (v := some (0, q8.1)) (h1 := (G, ρ, q8.2)) hm rfl (by omega) ⟨Nat.le_of_ble_eq_true rfl, Nat.le_of_ble_eq_true rfl⟩ (rc2 rfl g6) rfl rfl ml_66 rfl (Nat.le_of_ble_eq_true rfl) (tf66 h8 (by omega)) ?_
          show Ex d 106 24 [(2, ((v0 : Nat) : Int)), (0, v1), (0, v2), (9, 0)] [(0, q8.1)] (G, ρ, q8.2) rr
          refine Ex_run 3 (i' := 27) (L' := [(2, ((v0 : Nat) : Int)), (0, v1), (0, v2), (0, q8.1)]) (st' := [(0, q8.1), (2, ((v0 : Nat) : Int))]) (h' := (G, ρ, q8.2)) hm rfl (cjc (Nat.le_of_ble_eq_true rfl) cjn) ?_
          obtain ⟨q9, h9, e⟩ := bn_s e
          refine Ex_callm (z := 139) (na := 2) (ck := 14) (as := [(2, ((v0 : Nat) : Int)), (0, q8.1)]) (rest := []) (E0 := [(2, ((v0 : Nat) : Int)), (0, q8.1)]) (v := none) (h1 := (G, ρ, q9)) hm rfl (by omega) ⟨Nat.le_of_ble_eq_true rfl, Nat.le_of_ble_eq_true rfl⟩ (rc2 rfl g5) rfl rfl ml_139 rfl (Nat.le_of_ble_eq_true rfl) (tf139 h9 (by omega)) ?_
          show Ex d 106 28 [(2, ((v0 : Nat) : Int)), (0, v1), (0, v2), (0, q8.1)] [] (G, ρ, q9) rr
          refine Ex_run 1 (i' := 29) (L' := [(2, ((v0 : Nat) : Int)), (0, v1), (0, v2), (0, q8.1)]) (st' := [(0, q8.1)]) (h' := (G, ρ, q9)) hm rfl cjn ?_
          cases e
          cases hk
          exact Ex_ret (k := 1) hm rfl ⟨_, rfl, rfl⟩
        · replace e := it_n e c7
          refine Ex_if2f (c := 2) (tgt := 17) hm rfl (bf2 c7) ?_
          refine Ex_run 1 (i' := 16) (L' := [(2, ((v0 : Nat) : Int)), (0, v1), (0, v2), (9, 0)]) (st' := [(0, (-4))]) (h' := (G, ρ, m)) hm rfl cjn ?_
          cases e
          cases hk
          exact Ex_ret (k := 1) hm rfl ⟨_, rfl, rfl⟩
theorem tf107 {G : Gg} {ρ : Rg} {d : Nat} {v0 : Nat} {v1 : Int} {v2 : Int} {m : Sg} {x : Int × Sg} (e : f107 G ρ v0 v1 v2 m = some x) (hd : 5 ≤ d) : Ex d 107 0 [(2, ((v0 : Nat) : Int)), (0, v1), (0, v2)] [] (G, ρ, m) (some (0, x.1), (G, ρ, x.2)) := by
  unfold f107 at e
  have hm := mi_107
  generalize hk : (some (0, x.1), (G, ρ, x.2)) = rr
  replace hk : (Bi G ρ) x rr := hk.symm
  obtain ⟨g1, e⟩ := gd_s e
  refine Ex_run 3 (i' := 3) (L' := [(2, ((v0 : Nat) : Int)), (0, v1), (0, v2)]) (st' := [(0, v1), (2, (((ρ v0 4) : Nat) : Int))]) (h' := (G, ρ, m)) hm rfl (cjc (gk_b g1) cjn) ?_
  obtain ⟨g2, e⟩ := gd_s e
  obtain ⟨q3, h3, e⟩ := bn_s e
  refine Ex_callm (z := 65) (na := 2) (ck := 11) (as := [(2, (((ρ v0 4) : Nat) : Int)), (0, v1)]) (rest := []) (E0 := [(2, (((ρ v0 4) : Nat) : Int)), (0, v1)]) (v := some (0, q3)) (h1 := (G, ρ, m)) hm rfl (by omega) ⟨Nat.le_of_ble_eq_true rfl, Nat.le_of_ble_eq_true rfl⟩ (rc2 rfl g2) rfl rfl ml_65 rfl (Nat.le_of_ble_eq_true rfl) (tf65 h3 (by omega)) ?_
  show Ex d 107 4 [(2, ((v0 : Nat) : Int)), (0, v1), (0, v2)] [(0, q3)] (G, ρ, m) rr
  by_cases c4 : q3 = 0
  · replace e := it_p e c4
    refine Ex_if1t (c := 0) (tgt := 10) hm rfl (bt0 c4) ?_
    refine Ex_run 1 (i' := 11) (L' := [(2, ((v0 : Nat) : Int)), (0, v1), (0, v2)]) (st' := [(0, (-2))]) (h' := (G, ρ, m)) hm rfl cjn ?_
    cases e
    cases hk
    exact Ex_ret (k := 1) hm rfl ⟨_, rfl, rfl⟩
  · replace e := it_n e c4
    refine Ex_if1f (c := 0) (tgt := 10) hm rfl (bf0 c4) ?_
    refine Ex_run 3 (i' := 8) (L' := [(2, ((v0 : Nat) : Int)), (0, v1), (0, v2)]) (st' := [(0, v2), (2, (((ρ v0 0) : Nat) : Int))]) (h' := (G, ρ, m)) hm rfl (cjc (gk_b g1) cjn) ?_
    obtain ⟨g5, e⟩ := gd_s e
    obtain ⟨q6, h6, e⟩ := bn_s e
    refine Ex_callm (z := 38) (na := 2) (ck := 7) (as := [(2, (((ρ v0 0) : Nat) : Int)), (0, v2)]) (rest := []) (E0 := [(2, (((ρ v0 0) : Nat) : Int)), (0, v2)]) (v := some (0, q6)) (h1 := (G, ρ, m)) hm rfl (by omega) ⟨Nat.le_of_ble_eq_true rfl, Nat.le_of_ble_eq_true rfl⟩ (rc2 rfl g5) rfl rfl ml_38 rfl (Nat.le_of_ble_eq_true rfl) (tf38 h6 (by omega)) ?_
    show Ex d 107 9 [(2, ((v0 : Nat) : Int)), (0, v1), (0, v2)] [(0, q6)] (G, ρ, m) rr
    by_cases c7 : q6 = 0
    · replace e := it_p e c7
      refine Ex_if1f (c := 1) (tgt := 12) hm rfl (bf1 c7) ?_
      refine Ex_run 1 (i' := 11) (L' := [(2, ((v0 : Nat) : Int)), (0, v1), (0, v2)]) (st' := [(0, (-2))]) (h' := (G, ρ, m)) hm rfl cjn ?_
      cases e
      cases hk
      exact Ex_ret (k := 1) hm rfl ⟨_, rfl, rfl⟩
    · replace e := it_n e c7
      refine Ex_if1t (c := 1) (tgt := 12) hm rfl (bt1 c7) ?_
      refine Ex_run 4 (i' := 16) (L' := [(2, ((v0 : Nat) : Int)), (0, v1), (0, v2)]) (st' := [(0, v2), (0, v1), (2, (((ρ v0 4) : Nat) : Int))]) (h' := (G, ρ, m)) hm rfl (cjc (gk_b g1) cjn) ?_
      obtain ⟨q8, h8, e⟩ := bn_s e
      refine Ex_callm (z := 67) (na := 3) (ck := 11) (as := [(2, (((ρ v0 4) : Nat) : Int)), (0, v1), (0, v2)]) (rest := []) (E0 := [(2, (((ρ v0 4) : Nat) : Int)), (0, v1), (0, v2)]) (v := some (0, q8)) (h1 := (G, ρ, m)) hm rfl (by omega) ⟨Nat.le_of_ble_eq_true rfl, Nat.le_of_ble_eq_true rfl⟩ (rc2 rfl g2) rfl rfl ml_67 rfl (Nat.le_of_ble_eq_true rfl) (tf67 h8 (by omega)) ?_
      show Ex d 107 17 [(2, ((v0 : Nat) : Int)), (0, v1), (0, v2)] [(0, q8)] (G, ρ, m) rr
      by_cases c9 : q8 = 0
      · replace e := it_p e c9
        refine Ex_if1t (c := 0) (tgt := 20) hm rfl (bt0 c9) ?_
        refine Ex_run 4 (i' := 24) (L' := [(2, ((v0 : Nat) : Int)), (0, v1), (0, v2)]) (st' := [(0, v2), (0, v1), (2, (((ρ v0 4) : Nat) : Int))]) (h' := (G, ρ, m)) hm rfl (cjc (gk_b g1) cjn) ?_
        obtain ⟨q10, h10, e⟩ := bn_s e
        refine Ex_callm (z := 68) (na := 3) (ck := 11) (as := [(2, (((ρ v0 4) : Nat) : Int)), (0, v1), (0, v2)]) (rest := []) (E0 := [(2, (((ρ v0 4) : Nat) : Int)), (0, v1), (0, v2)]) (v := none) (h1 := (G, ρ, q10)) hm rfl (by omega) ⟨Nat.le_of_ble_eq_true rfl, Nat.le_of_ble_eq_true rfl⟩ (rc2 rfl g2) rfl rfl ml_68 rfl (Nat.le_of_ble_eq_true rfl) (tf68 h10 (by omega)) ?_
        show Ex d 107 25 [(2, ((v0 : Nat) : Int)), (0, v1), (0, v2)] [] (G, ρ, q10) rr
        refine Ex_run 2 (i' := 27) (L' := [(2, ((v0 : Nat) : Int)), (0, v1), (0, v2)]) (st' := [(0, v1), (2, ((v0 : Nat) : Int))]) (h' := (G, ρ, q10)) hm rfl cjn ?_
        obtain ⟨q11, h11, e⟩ := bn_s e
        refine Ex_callm (z := 139) (na := 2) (ck := 14) (as := [(2, ((v0 : Nat) : Int)), (0, v1)]) (rest := []) (E0 := [(2, ((v0 : Nat) : Int)), (0, v1)]) (v := none) (h1 := (G, ρ, q11)) hm rfl (by omega) ⟨Nat.le_of_ble_eq_true rfl, Nat.le_of_ble_eq_true rfl⟩ (rc2 rfl g1) rfl rfl ml_139 rfl (Nat.le_of_ble_eq_true rfl) (tf139 h11 (by omega)) ?_
        show Ex d 107 28 [(2, ((v0 : Nat) : Int)), (0, v1), (0, v2)] [] (G, ρ, q11) rr
        refine Ex_run 3 (i' := 31) (L' := [(2, ((v0 : Nat) : Int)), (0, v1), (0, v2)]) (st' := [(0, v1), (2, (((ρ v0 4) : Nat) : Int))]) (h' := (G, ρ, q11)) hm rfl (cjc (gk_b g1) cjn) ?_
        obtain ⟨q12, h12, e⟩ := bn_s e
        refine Ex_callm (z := 69) (na := 2) (ck := 11) (as := [(2, (((ρ v0 4) : Nat) : Int)), (0, v1)]) (rest := []) (E0 := [(2, (((ρ v0 4) : Nat) : Int)), (0, v1)]) (v := some (0, q12)) (h1 := (G, ρ, q11)) hm rfl (by omega) ⟨Nat.le_of_ble_eq_true rfl, Nat.le_of_ble_eq_true rfl⟩ (rc2 rfl g2) rfl rfl ml_69 rfl (Nat.le_of_ble_eq_true rfl) (tf69 h12 (by omega)) ?_
        show Ex d 107 32 [(2, ((v0 : Nat) : Int)), (0, v1), (0, v2)] [(0, q12)] (G, ρ, q11) rr
        cases e
        cases hk
        exact Ex_ret (k := 1) hm rfl ⟨_, rfl, rfl⟩
      · replace e := it_n e c9
        refine Ex_if1f (c := 0) (tgt := 20) hm rfl (bf0 c9) ?_
        refine Ex_run 1 (i' := 19) (L' := [(2, ((v0 : Nat) : Int)), (0, v1), (0, v2)]) (st' := [(0, (-3))]) (h' := (G, ρ, m)) hm rfl cjn ?_
        cases e
        cases hk
        exact Ex_ret (k := 1) hm rfl ⟨_, rfl, rfl⟩
theorem tf108 {G : Gg} {ρ : Rg} {d : Nat} {v0 : Nat} {v1 : Int} {v2 : Int} {m : Sg} {x : Int × Sg} (e : f108 G ρ v0 v1 v2 m = some x) (hd : 1 ≤ d) : Ex d 108 0 [(2, ((v0 : Nat) : Int)), (0, v1), (0, v2), (9, 0)] [] (G, ρ, m) (some (0, x.1), (G, ρ, x.2)) := by
  unfold f108 at e
  have hm := mi_108
  generalize hk : (some (0, x.1), (G, ρ, x.2)) = rr
  replace hk : (Bi G ρ) x rr := hk.symm
  obtain ⟨g1, e⟩ := gd_s e
  refine Ex_run 3 (i' := 3) (L' := [(2, ((v0 : Nat) : Int)), (0, v1), (0, v2), (9, 0)]) (st' := [(0, v1), (2, (((ρ v0 4) : Nat) : Int))]) (h' := (G, ρ, m)) hm rfl (cjc (gk_b g1) cjn) ?_
  obtain ⟨g2, e⟩ := gd_s e
  obtain ⟨q3, h3, e⟩ := bn_s e
  refine Ex_callm (z := 65) (na := 2) (ck := 11) (as := [(2, (((ρ v0 4) : Nat) : Int)), (0, v1)]) (rest := []) (E0 := [(2, (((ρ v0 4) : Nat) : Int)), (0, v1)]) (v := some (0, q3)) (h1 := (G, ρ, m)) hm rfl (by omega) ⟨Nat.le_of_ble_eq_true rfl, Nat.le_of_ble_eq_true rfl⟩ (rc2 rfl g2) rfl rfl ml_65 rfl (Nat.le_of_ble_eq_true rfl) (tf65 h3 (by omega)) ?_
  show Ex d 108 4 [(2, ((v0 : Nat) : Int)), (0, v1), (0, v2), (9, 0)] [(0, q3)] (G, ρ, m) rr
  by_cases c4 : q3 = 0
  · replace e := it_p e c4
    refine Ex_if1t (c := 0) (tgt := 8) hm rfl (bt0 c4) ?_
    refine Ex_run 1 (i' := 9) (L' := [(2, ((v0 : Nat) : Int)), (0, v1), (0, v2), (9, 0)]) (st' := [(0, (-2))]) (h' := (G, ρ, m)) hm rfl cjn ?_
    cases e
    cases hk
    exact Ex_ret (k := 1) hm rfl ⟨_, rfl, rfl⟩
  · replace e := it_n e c4
    refine Ex_if1f (c := 0) (tgt := 8) hm rfl (bf0 c4) ?_
    refine Ex_run 1 (i' := 6) (L' := [(2, ((v0 : Nat) : Int)), (0, v1), (0, v2), (9, 0)]) (st' := [(0, v2)]) (h' := (G, ρ, m)) hm rfl cjn ?_
    obtain ⟨q5, h5, e⟩ := bn_s e
    refine Ex_callm (z := 133) (na := 1) (ck := 0) (as := [(0, v2)]) (rest := []) (E0 := [(0, v2)]) (v := some (0, q5)) (h1 := (G, ρ, m)) hm rfl (by omega) ⟨Nat.le_of_ble_eq_true rfl, Nat.le_of_ble_eq_true rfl⟩ (trivial) rfl rfl ml_133 rfl (Nat.le_of_ble_eq_true rfl) (tf133 h5 (by omega)) ?_
    show Ex d 108 7 [(2, ((v0 : Nat) : Int)), (0, v1), (0, v2), (9, 0)] [(0, q5)] (G, ρ, m) rr
    by_cases c6 : q5 = 0
    · replace e := it_p e c6
      refine Ex_if1f (c := 1) (tgt := 10) hm rfl (bf1 c6) ?_
      refine Ex_run 1 (i' := 9) (L' := [(2, ((v0 : Nat) : Int)), (0, v1), (0, v2), (9, 0)]) (st' := [(0, (-2))]) (h' := (G, ρ, m)) hm rfl cjn ?_
      cases e
      cases hk
      exact Ex_ret (k := 1) hm rfl ⟨_, rfl, rfl⟩
    · replace e := it_n e c6
      refine Ex_if1t (c := 1) (tgt := 10) hm rfl (bt1 c6) ?_
      refine Ex_run 4 (i' := 14) (L' := [(2, ((v0 : Nat) : Int)), (0, v1), (0, v2), (9, 0)]) (st' := [(0, v1), (2, (((ρ (ρ v0 4) 5) : Nat) : Int))]) (h' := (G, ρ, m)) hm rfl (cjc (gk_b g1) (cjc (gk_b g2) cjn)) ?_
      obtain ⟨g7, e⟩ := gd_s e
      obtain ⟨q8, h8, e⟩ := bn_s e
      refine Ex_callm (z := 33) (na := 2) (ck := 6) (as := [(2, (((ρ (ρ v0 4) 5) : Nat) : Int)), (0, v1)]) (rest := []) (E0 := [(2, (((ρ (ρ v0 4) 5) : Nat) : Int)), (0, v1)]) (v := some (0, q8)) (h1 := (G, ρ, m)) hm rfl (by omega) ⟨Nat.le_of_ble_eq_true rfl, Nat.le_of_ble_eq_true rfl⟩ (rc2 rfl g7) rfl rfl ml_33 rfl (Nat.le_of_ble_eq_true rfl) (tf33 h8 (by omega)) ?_
      show Ex d 108 15 [(2, ((v0 : Nat) : Int)), (0, v1), (0, v2), (9, 0)] [(0, q8)] (G, ρ, m) rr
      refine Ex_run 6 (i' := 21) (L' := [(2, ((v0 : Nat) : Int)), (0, v1), (0, v2), (0, q8)]) (st' := [(0, v2), (0, v1), (2, (((ρ (ρ v0 4) 5) : Nat) : Int))]) (h' := (G, ρ, m)) hm rfl (cjc (Nat.le_of_ble_eq_true rfl) (cjc (gk_b g1) (cjc (gk_b g2) cjn))) ?_
      obtain ⟨q9, h9, e⟩ := bn_s e
      refine Ex_callm (z := 34) (na := 3) (ck := 6) (as := [(2, (((ρ (ρ v0 4) 5) : Nat) : Int)), (0, v1), (0, v2)]) (rest := []) (E0 := [(2, (((ρ (ρ v0 4) 5) : Nat) : Int)), (0, v1), (0, v2)]) (v := none) (h1 := (G, ρ, q9)) hm rfl (by omega) ⟨Nat.le_of_ble_eq_true rfl, Nat.le_of_ble_eq_true rfl⟩ (rc2 rfl g7) rfl rfl ml_34 rfl (Nat.le_of_ble_eq_true rfl) (tf34 h9 (by omega)) ?_
      show Ex d 108 22 [(2, ((v0 : Nat) : Int)), (0, v1), (0, v2), (0, q8)] [] (G, ρ, q9) rr
      refine Ex_run 1 (i' := 23) (L' := [(2, ((v0 : Nat) : Int)), (0, v1), (0, v2), (0, q8)]) (st' := [(0, q8)]) (h' := (G, ρ, q9)) hm rfl cjn ?_
      cases e
      cases hk
      exact Ex_ret (k := 1) hm rfl ⟨_, rfl, rfl⟩
theorem tf109 {G : Gg} {ρ : Rg} {d : Nat} {v0 : Nat} {v1 : Int} {m : Sg} {x : Int × Sg} (e : f109 G ρ v0 v1 m = some x) (hd : 3 ≤ d) : Ex d 109 0 [(2, ((v0 : Nat) : Int)), (0, v1)] [] (G, ρ, m) (some (0, x.1), (G, ρ, x.2)) := by
  unfold f109 at e
  have hm := mi_109
  generalize hk : (some (0, x.1), (G, ρ, x.2)) = rr
  replace hk : (Bi G ρ) x rr := hk.symm
  obtain ⟨g1, e⟩ := gd_s e
  refine Ex_run 3 (i' := 3) (L' := [(2, ((v0 : Nat) : Int)), (0, v1)]) (st' := [(0, v1), (2, (((ρ v0 4) : Nat) : Int))]) (h' := (G, ρ, m)) hm rfl (cjc (gk_b g1) cjn) ?_
  obtain ⟨g2, e⟩ := gd_s e
  obtain ⟨q3, h3, e⟩ := bn_s e
  refine Ex_callm (z := 65) (na := 2) (ck := 11) (as := [(2, (((ρ v0 4) : Nat) : Int)), (0, v1)]) (rest := []) (E0 := [(2, (((ρ v0 4) : Nat) : Int)), (0, v1)]) (v := some (0, q3)) (h1 := (G, ρ, m)) hm rfl (by omega) ⟨Nat.le_of_ble_eq_true rfl, Nat.le_of_ble_eq_true rfl⟩ (rc2 rfl g2) rfl rfl ml_65 rfl (Nat.le_of_ble_eq_true rfl) (tf65 h3 (by omega)) ?_
  show Ex d 109 4 [(2, ((v0 : Nat) : Int)), (0, v1)] [(0, q3)] (G, ρ, m) rr
  by_cases c4 : q3 = 0
  · replace e := it_p e c4
    refine Ex_if1f (c := 1) (tgt := 7) hm rfl (bf1 c4) ?_
    refine Ex_run 1 (i' := 6) (L' := [(2, ((v0 : Nat) : Int)), (0, v1)]) (st' := [(0, (-2))]) (h' := (G, ρ, m)) hm rfl cjn ?_
    cases e
    cases hk
    exact Ex_ret (k := 1) hm rfl ⟨_, rfl, rfl⟩
  · replace e := it_n e c4
    refine Ex_if1t (c := 1) (tgt := 7) hm rfl (bt1 c4) ?_
    refine Ex_run 5 (i' := 12) (L' := [(2, ((v0 : Nat) : Int)), (0, v1)]) (st' := [(2, (((ρ v0 0) : Nat) : Int)), (0, v1), (2, (((ρ v0 4) : Nat) : Int))]) (h' := (G, ρ, m)) hm rfl (cjc (gk_b g1) (cjc (gk_b g1) cjn)) ?_
    obtain ⟨q5, h5, e⟩ := bn_s e
    refine Ex_callm (z := 70) (na := 3) (ck := 11) (as := [(2, (((ρ v0 4) : Nat) : Int)), (0, v1), (2, (((ρ v0 0) : Nat) : Int))]) (rest := []) (E0 := [(2, (((ρ v0 4) : Nat) : Int)), (0, v1), (2, (((ρ v0 0) : Nat) : Int)), (9, 0), (9, 0), (9, 0), (9, 0)]) (v := none) (h1 := (G, ρ, q5)) hm rfl (by omega) ⟨Nat.le_of_ble_eq_true rfl, Nat.le_of_ble_eq_true rfl⟩ (rc2 rfl g2) rfl rfl ml_70 rfl (Nat.le_of_ble_eq_true rfl) (tf70 h5 (by omega)) ?_
    show Ex d 109 13 [(2, ((v0 : Nat) : Int)), (0, v1)] [] (G, ρ, q5) rr
    refine Ex_run 3 (i' := 16) (L' := [(2, ((v0 : Nat) : Int)), (0, v1)]) (st' := [(0, v1), (2, (((ρ v0 4) : Nat) : Int))]) (h' := (G, ρ, q5)) hm rfl (cjc (gk_b g1) cjn) ?_
    obtain ⟨q6, h6, e⟩ := bn_s e
    refine Ex_callm (z := 69) (na := 2) (ck := 11) (as := [(2, (((ρ v0 4) : Nat) : Int)), (0, v1)]) (rest := []) (E0 := [(2, (((ρ v0 4) : Nat) : Int)), (0, v1)]) (v := some (0, q6)) (h1 := (G, ρ, q5)) hm rfl (by omega) ⟨Nat.le_of_ble_eq_true rfl, Nat.le_of_ble_eq_true rfl⟩ (rc2 rfl g2) rfl rfl ml_69 rfl (Nat.le_of_ble_eq_true rfl) (tf69 h6 (by omega)) ?_
    show Ex d 109 17 [(2, ((v0 : Nat) : Int)), (0, v1)] [(0, q6)] (G, ρ, q5) rr
    cases e
    cases hk
    exact Ex_ret (k := 1) hm rfl ⟨_, rfl, rfl⟩
theorem tf110 {G : Gg} {ρ : Rg} {d : Nat} {v0 : Nat} {v1 : Int} {v2 : Int} {m : Sg} {x : Int} (e : f110 G ρ v0 v1 v2 m = some x) (hd : 3 ≤ d) : Ex d 110 0 [(2, ((v0 : Nat) : Int)), (0, v1), (0, v2)] [] (G, ρ, m) (some (0, x), (G, ρ, m)) := by
  unfold f110 at e
  have hm := mi_110
  generalize hk : (some (0, x), (G, ρ, m)) = rr
  replace hk : (Bpi G ρ m) x rr := hk.symm
  obtain ⟨g1, e⟩ := gd_s e
  refine Ex_run 3 (i' := 3) (L' := [(2, ((v0 : Nat) : Int)), (0, v1), (0, v2)]) (st' := [(0, v1), (2, (((ρ v0 4) : Nat) : Int))]) (h' := (G, ρ, m)) hm rfl (cjc (gk_b g1) cjn) ?_
  obtain ⟨g2, e⟩ := gd_s e
  obtain ⟨q3, h3, e⟩ := bn_s e
  refine Ex_callm (z := 65) (na := 2) (ck := 11) (as := [(2, (((ρ v0 4) : Nat) : Int)), (0, v1)]) (rest := []) (E0 := [(2, (((ρ v0 4) : Nat) : Int)), (0, v1)]) (v := some (0, q3)) (h1 := (G, ρ, m)) hm rfl (by omega) ⟨Nat.le_of_ble_eq_true rfl, Nat.le_of_ble_eq_true rfl⟩ (rc2 rfl g2) rfl rfl ml_65 rfl (Nat.le_of_ble_eq_true rfl) (tf65 h3 (by omega)) ?_
  show Ex d 110 4 [(2, ((v0 : Nat) : Int)), (0, v1), (0, v2)] [(0, q3)] (G, ρ, m) rr
  by_cases c4 : q3 = 0
  · replace e := it_p e c4
    refine Ex_if1t (c := 0) (tgt := 10) hm rfl (bt0 c4) ?_
    refine Ex_run 1 (i' := 11) (L' := [(2, ((v0 : Nat) : Int)), (0, v1), (0, v2)]) (st' := [(0, (-2))]) (h' := (G, ρ, m)) hm rfl cjn ?_
    cases e
    cases hk
    exact Ex_ret (k := 1) hm rfl ⟨_, rfl, rfl⟩
  · replace e := it_n e c4
    refine Ex_if1f (c := 0) (tgt := 10) hm rfl (bf0 c4) ?_
    refine Ex_run 3 (i' := 8) (L' := [(2, ((v0 : Nat) : Int)), (0, v1), (0, v2)]) (st' := [(0, v2), (2, (((ρ v0 4) : Nat) : Int))]) (h' := (G, ρ, m)) hm rfl (cjc (gk_b g1) cjn) ?_
    obtain ⟨q5, h5, e⟩ := bn_s e
    refine Ex_callm (z := 65) (na := 2) (ck := 11) (as := [(2, (((ρ v0 4) : Nat) : Int)), (0, v2)]) (rest := []) (E0 := [(2, (((ρ v0 4) : Nat) : Int)), (0, v2)]) (v := some (0, q5)) (h1 := (G, ρ, m)) hm rfl (by omega) ⟨Nat.le_of_ble_eq_true rfl, Nat.le_of_ble_eq_true rfl⟩ (rc2 rfl g2) rfl rfl ml_65 rfl (Nat.le_of_ble_eq_true rfl) (tf65 h5 (by omega)) ?_
    show Ex d 110 9 [(2, ((v0 : Nat) : Int)), (0, v1), (0, v2)] [(0, q5)] (G, ρ, m) rr
    by_cases c6 : q5 = 0
    · replace e := it_p e c6
      refine Ex_if1f (c := 1) (tgt := 12) hm rfl (bf1 c6) ?_
      refine Ex_run 1 (i' := 11) (L' := [(2, ((v0 : Nat) : Int)), (0, v1), (0, v2)]) (st' := [(0, (-2))]) (h' := (G, ρ, m)) hm rfl cjn ?_
      cases e
      cases hk
      exact Ex_ret (k := 1) hm rfl ⟨_, rfl, rfl⟩
    · replace e := it_n e c6
      refine Ex_if1t (c := 1) (tgt := 12) hm rfl (bt1 c6) ?_
      refine Ex_run 4 (i' := 16) (L' := [(2, ((v0 : Nat) : Int)), (0, v1), (0, v2)]) (st' := [(0, v2), (0, v1), (2, (((ρ v0 4) : Nat) : Int))]) (h' := (G, ρ, m)) hm rfl (cjc (gk_b g1) cjn) ?_
      obtain ⟨q7, h7, e⟩ := bn_s e
      refine Ex_callm (z := 73) (na := 3) (ck := 11) (as := [(2, (((ρ v0 4) : Nat) : Int)), (0, v1), (0, v2)]) (rest := []) (E0 := [(2, (((ρ v0 4) : Nat) : Int)), (0, v1), (0, v2), (9, 0), (9, 0), (9, 0)]) (v := some (0, q7)) (h1 := (G, ρ, m)) hm rfl (by omega) ⟨Nat.le_of_ble_eq_true rfl, Nat.le_of_ble_eq_true rfl⟩ (rc2 rfl g2) rfl rfl ml_73 rfl (Nat.le_of_ble_eq_true rfl) (tf73 h7 (by omega)) ?_
      show Ex d 110 17 [(2, ((v0 : Nat) : Int)), (0, v1), (0, v2)] [(0, q7)] (G, ρ, m) rr
      cases e
      cases hk
      exact Ex_ret (k := 1) hm rfl ⟨_, rfl, rfl⟩
theorem tf111 {G : Gg} {ρ : Rg} {d : Nat} {v0 : Nat} {v1 : Int} {m : Sg} {x : Int} (e : f111 G ρ v0 v1 m = some x) (hd : 4 ≤ d) : Ex d 111 0 [(2, ((v0 : Nat) : Int)), (0, v1)] [] (G, ρ, m) (some (0, x), (G, ρ, m)) := by
  unfold f111 at e
  have hm := mi_111
  generalize hk : (some (0, x), (G, ρ, m)) = rr
  replace hk : (Bpi G ρ m) x rr := hk.symm
  obtain ⟨g1, e⟩ := gd_s e
  refine Ex_run 3 (i' := 3) (L' := [(2, ((v0 : Nat) : Int)), (0, v1)]) (st' := [(0, v1), (2, (((ρ v0 4) : Nat) : Int))]) (h' := (G, ρ, m)) hm rfl (cjc (gk_b g1) cjn) ?_
  obtain ⟨g2, e⟩ := gd_s e
  obtain ⟨q3, h3, e⟩ := bn_s e
  refine Ex_callm (z := 65) (na := 2) (ck := 11) (as := [(2, (((ρ v0 4) : Nat) : Int)), (0, v1)]) (rest := []) (E0 := [(2, (((ρ v0 4) : Nat) : Int)), (0, v1)]) (v := some (0, q3)) (h1 := (G, ρ, m)) hm rfl (by omega) ⟨Nat.le_of_ble_eq_true rfl, Nat.le_of_ble_eq_true rfl⟩ (rc2 rfl g2) rfl rfl ml_65 rfl (Nat.le_of_ble_eq_true rfl) (tf65 h3 (by omega)) ?_
  show Ex d 111 4 [(2, ((v0 : Nat) : Int)), (0, v1)] [(0, q3)] (G, ρ, m) rr
  by_cases c4 : q3 = 0
  · replace e := it_p e c4
    refine Ex_if1t (c := 0) (tgt := 10) hm rfl (bt0 c4) ?_
    refine Ex_run 1 (i' := 11) (L' := [(2, ((v0 : Nat) : Int)), (0, v1)]) (st' := [(0, (-2))]) (h' := (G, ρ, m)) hm rfl cjn ?_
    cases e
    cases hk
    exact Ex_ret (k := 1) hm rfl ⟨_, rfl, rfl⟩
  · replace e := it_n e c4
    refine Ex_if1f (c := 0) (tgt := 10) hm rfl (bf0 c4) ?_
    refine Ex_run 3 (i' := 8) (L' := [(2, ((v0 : Nat) : Int)), (0, v1)]) (st' := [(0, v1), (2, (((ρ v0 4) : Nat) : Int))]) (h' := (G, ρ, m)) hm rfl (cjc (gk_b g1) cjn) ?_
    obtain ⟨q5, h5, e⟩ := bn_s e
    refine Ex_callm (z := 74) (na := 2) (ck := 11) (as := [(2, (((ρ v0 4) : Nat) : Int)), (0, v1)]) (rest := []) (E0 := [(2, (((ρ v0 4) : Nat) : Int)), (0, v1), (9, 0), (9, 0), (9, 0), (9, 0)]) (v := some (0, q5)) (h1 := (G, ρ, m)) hm rfl (by omega) ⟨Nat.le_of_ble_eq_true rfl, Nat.le_of_ble_eq_true rfl⟩ (rc2 rfl g2) rfl rfl ml_74 rfl (Nat.le_of_ble_eq_true rfl) (tf74 h5 (by omega)) ?_
    show Ex d 111 9 [(2, ((v0 : Nat) : Int)), (0, v1)] [(0, q5)] (G, ρ, m) rr
    refine Ex_run 1 (i' := 11) (L' := [(2, ((v0 : Nat) : Int)), (0, v1)]) (st' := [(0, q5)]) (h' := (G, ρ, m)) hm rfl cjn ?_
    cases e
    cases hk
    exact Ex_ret (k := 1) hm rfl ⟨_, rfl, rfl⟩
theorem tf112 {G : Gg} {ρ : Rg} {d : Nat} {v0 : Nat} {v1 : Int} {m : Sg} {x : Int} (e : f112 G ρ v0 v1 m = some x) (hd : 5 ≤ d) : Ex d 112 0 [(2, ((v0 : Nat) : Int)), (0, v1)] [] (G, ρ, m) (some (0, x), (G, ρ, m)) := by
  unfold f112 at e
  have hm := mi_112
  generalize hk : (some (0, x), (G, ρ, m)) = rr
  replace hk : (Bpi G ρ m) x rr := hk.symm
  refine Ex_run 1 (i' := 1) (L' := [(2, ((v0 : Nat) : Int)), (0, v1)]) (st' := [(0, v1)]) (h' := (G, ρ, m)) hm rfl cjn ?_
  by_cases c1 : v1 = 0
  · replace e := it_p e c1
    refine Ex_if1f (c := 1) (tgt := 6) hm rfl (bf1 c1) ?_
    obtain ⟨g2, e⟩ := gd_s e
    refine Ex_run 2 (i' := 4) (L' := [(2, ((v0 : Nat) : Int)), (0, v1)]) (st' := [(2, (((ρ v0 4) : Nat) : Int))]) (h' := (G, ρ, m)) hm rfl (cjc (gk_b g2) cjn) ?_
    obtain ⟨g3, e⟩ := gd_s e
    obtain ⟨q4, h4, e⟩ := bn_s e
    refine Ex_callm (z := 75) (na := 1) (ck := 11) (as := [(2, (((ρ v0 4) : Nat) : Int))]) (rest := []) (E0 := [(2, (((ρ v0 4) : Nat) : Int)), (9, 0), (9, 0), (9, 0)]) (v := some (0, q4)) (h1 := (G, ρ, m)) hm rfl (by omega) ⟨Nat.le_of_ble_eq_true rfl, Nat.le_of_ble_eq_true rfl⟩ (rc2 rfl g3) rfl rfl ml_75 rfl (Nat.le_of_ble_eq_true rfl) (tf75 h4 (by omega)) ?_
    show Ex d 112 5 [(2, ((v0 : Nat) : Int)), (0, v1)] [(0, q4)] (G, ρ, m) rr
    cases e
    cases hk
    exact Ex_ret (k := 1) hm rfl ⟨_, rfl, rfl⟩
  · replace e := it_n e c1
    refine Ex_if1t (c := 1) (tgt := 6) hm rfl (bt1 c1) ?_
    refine Ex_run 2 (i' := 8) (L' := [(2, ((v0 : Nat) : Int)), (0, v1)]) (st' := [(0, 1), (0, v1)]) (h' := (G, ρ, m)) hm rfl cjn ?_
    by_cases c5 : v1 = 1
    · replace e := it_p e c5
      refine Ex_if2f (c := 1) (tgt := 13) hm rfl (bf1 c5) ?_
      obtain ⟨g6, e⟩ := gd_s e
      refine Ex_run 2 (i' := 11) (L' := [(2, ((v0 : Nat) : Int)), (0, v1)]) (st' := [(2, (((ρ v0 4) : Nat) : Int))]) (h' := (G, ρ, m)) hm rfl (cjc (gk_b g6) cjn) ?_
      obtain ⟨g7, e⟩ := gd_s e
      obtain ⟨q8, h8, e⟩ := bn_s e
      refine Ex_callm (z := 76) (na := 1) (ck := 11) (as := [(2, (((ρ v0 4) : Nat) : Int))]) (rest := []) (E0 := [(2, (((ρ v0 4) : Nat) : Int)), (9, 0), (9, 0), (9, 0)]) (v := some (0, q8)) (h1 := (G, ρ, m)) hm rfl (by omega) ⟨Nat.le_of_ble_eq_true rfl, Nat.le_of_ble_eq_true rfl⟩ (rc2 rfl g7) rfl rfl ml_76 rfl (Nat.le_of_ble_eq_true rfl) (tf76 h8 (by omega)) ?_
      show Ex d 112 12 [(2, ((v0 : Nat) : Int)), (0, v1)] [(0, q8)] (G, ρ, m) rr
      cases e
      cases hk
      exact Ex_ret (k := 1) hm rfl ⟨_, rfl, rfl⟩
    · replace e := it_n e c5
      refine Ex_if2t (c := 1) (tgt := 13) hm rfl (bt1 c5) ?_
      refine Ex_run 2 (i' := 15) (L' := [(2, ((v0 : Nat) : Int)), (0, v1)]) (st' := [(0, 2), (0, v1)]) (h' := (G, ρ, m)) hm rfl cjn ?_
      by_cases c9 : v1 = 2
      · replace e := it_p e c9
        refine Ex_if2f (c := 1) (tgt := 20) hm rfl (bf1 c9) ?_
        obtain ⟨g10, e⟩ := gd_s e
        refine Ex_run 2 (i' := 18) (L' := [(2, ((v0 : Nat) : Int)), (0, v1)]) (st' := [(2, (((ρ v0 4) : Nat) : Int))]) (h' := (G, ρ, m)) hm rfl (cjc (gk_b g10) cjn) ?_
        obtain ⟨g11, e⟩ := gd_s e
        obtain ⟨q12, h12, e⟩ := bn_s e
        refine Ex_callm (z := 77) (na := 1) (ck := 11) (as := [(2, (((ρ v0 4) : Nat) : Int))]) (rest := []) (E0 := [(2, (((ρ v0 4) : Nat) : Int)), (9, 0), (9, 0)]) (v := some (0, q12)) (h1 := (G, ρ, m)) hm rfl (by omega) ⟨Nat.le_of_ble_eq_true rfl, Nat.le_of_ble_eq_true rfl⟩ (rc2 rfl g11) rfl rfl ml_77 rfl (Nat.le_of_ble_eq_true rfl) (tf77 h12 (by omega)) ?_
        show Ex d 112 19 [(2, ((v0 : Nat) : Int)), (0, v1)] [(0, q12)] (G, ρ, m) rr
        refine Ex_run 1 (i' := 21) (L' := [(2, ((v0 : Nat) : Int)), (0, v1)]) (st' := [(0, q12)]) (h' := (G, ρ, m)) hm rfl cjn ?_
        cases e
        cases hk
        exact Ex_ret (k := 1) hm rfl ⟨_, rfl, rfl⟩
      · replace e := it_n e c9
        refine Ex_if2t (c := 1) (tgt := 20) hm rfl (bt1 c9) ?_
        refine Ex_run 1 (i' := 21) (L' := [(2, ((v0 : Nat) : Int)), (0, v1)]) (st' := [(0, (-2))]) (h' := (G, ρ, m)) hm rfl cjn ?_
        cases e
        cases hk
        exact Ex_ret (k := 1) hm rfl ⟨_, rfl, rfl⟩
theorem tf113 {G : Gg} {ρ : Rg} {d : Nat} {v0 : Nat} {v1 : Int} {v2 : Int} {m : Sg} {x : Int × Sg} (e : f113 G ρ v0 v1 v2 m = some x) (hd : 5 ≤ d) : Ex d 113 0 [(2, ((v0 : Nat) : Int)), (0, v1), (0, v2)] [] (G, ρ, m) (some (0, x.1), (G, ρ, x.2)) := by
  unfold f113 at e
  have hm := mi_113
  generalize hk : (some (0, x.1), (G, ρ, x.2)) = rr
  replace hk : (Bi G ρ) x rr := hk.symm
  obtain ⟨g1, e⟩ := gd_s e
  refine Ex_run 3 (i' := 3) (L' := [(2, ((v0 : Nat) : Int)), (0, v1), (0, v2)]) (st' := [(0, v1), (2, (((ρ v0 4) : Nat) : Int))]) (h' := (G, ρ, m)) hm rfl (cjc (gk_b g1) cjn) ?_
  obtain ⟨g2, e⟩ := gd_s e
  obtain ⟨q3, h3, e⟩ := bn_s e
  refine Ex_callm (z := 65) (na := 2) (ck := 11) (as := [(2, (((ρ v0 4) : Nat) : Int)), (0, v1)]) (rest := []) (E0 := [(2, (((ρ v0 4) : Nat) : Int)), (0, v1)]) (v := some (0, q3)) (h1 := (G, ρ, m)) hm rfl (by omega) ⟨Nat.le_of_ble_eq_true rfl, Nat.le_of_ble_eq_true rfl⟩ (rc2 rfl g2) rfl rfl ml_65 rfl (Nat.le_of_ble_eq_true rfl) (tf65 h3 (by omega)) ?_
  show Ex d 113 4 [(2, ((v0 : Nat) : Int)), (0, v1), (0, v2)] [(0, q3)] (G, ρ, m) rr
  by_cases c4 : q3 = 0
  · replace e := it_p e c4
    refine Ex_if1t (c := 0) (tgt := 10) hm rfl (bt0 c4) ?_
    refine Ex_run 1 (i' := 11) (L' := [(2, ((v0 : Nat) : Int)), (0, v1), (0, v2)]) (st' := [(0, (-2))]) (h' := (G, ρ, m)) hm rfl cjn ?_
    cases e
    cases hk
    exact Ex_ret (k := 1) hm rfl ⟨_, rfl, rfl⟩
  · replace e := it_n e c4
    refine Ex_if1f (c := 0) (tgt := 10) hm rfl (bf0 c4) ?_
    refine Ex_run 3 (i' := 8) (L' := [(2, ((v0 : Nat) : Int)), (0, v1), (0, v2)]) (st' := [(0, v2), (2, (((ρ v0 0) : Nat) : Int))]) (h' := (G, ρ, m)) hm rfl (cjc (gk_b g1) cjn) ?_
    obtain ⟨g5, e⟩ := gd_s e
    obtain ⟨q6, h6, e⟩ := bn_s e
    refine Ex_callm (z := 38) (na := 2) (ck := 7) (as := [(2, (((ρ v0 0) : Nat) : Int)), (0, v2)]) (rest := []) (E0 := [(2, (((ρ v0 0) : Nat) : Int)), (0, v2)]) (v := some (0, q6)) (h1 := (G, ρ, m)) hm rfl (by omega) ⟨Nat.le_of_ble_eq_true rfl, Nat.le_of_ble_eq_true rfl⟩ (rc2 rfl g5) rfl rfl ml_38 rfl (Nat.le_of_ble_eq_true rfl) (tf38 h6 (by omega)) ?_
    show Ex d 113 9 [(2, ((v0 : Nat) : Int)), (0, v1), (0, v2)] [(0, q6)] (G, ρ, m) rr
    by_cases c7 : q6 = 0
    · replace e := it_p e c7
      refine Ex_if1f (c := 1) (tgt := 12) hm rfl (bf1 c7) ?_
      refine Ex_run 1 (i' := 11) (L' := [(2, ((v0 : Nat) : Int)), (0, v1), (0, v2)]) (st' := [(0, (-2))]) (h' := (G, ρ, m)) hm rfl cjn ?_
      cases e
      cases hk
      exact Ex_ret (k := 1) hm rfl ⟨_, rfl, rfl⟩
    · replace e := it_n e c7
      refine Ex_if1t (c := 1) (tgt := 12) hm rfl (bt1 c7) ?_
      refine Ex_run 4 (i' := 16) (L' := [(2, ((v0 : Nat) : Int)), (0, v1), (0, v2)]) (st' := [(0, v2), (0, v1), (2, (((ρ v0 4) : Nat) : Int))]) (h' := (G, ρ, m)) hm rfl (cjc (gk_b g1) cjn) ?_
      obtain ⟨q8, h8, e⟩ := bn_s e
      refine Ex_callm (z := 67) (na := 3) (ck := 11) (as := [(2, (((ρ v0 4) : Nat) : Int)), (0, v1), (0, v2)]) (rest := []) (E0 := [(2, (((ρ v0 4) : Nat) : Int)), (0, v1), (0, v2)]) (v := some (0, q8)) (h1 := (G, ρ, m)) hm rfl (by omega) ⟨Nat.le_of_ble_eq_true rfl, Nat.le_of_ble_eq_true rfl⟩ (rc2 rfl g2) rfl rfl ml_67 rfl (Nat.le_of_ble_eq_true rfl) (tf67 h8 (by omega)) ?_
      show Ex d 113 17 [(2, ((v0 : Nat) : Int)), (0, v1), (0, v2)] [(0, q8)] (G, ρ, m) rr
      by_cases c9 : q8 = 0
      · replace e := it_p e c9
        refine Ex_if1f (c := 1) (tgt := 20) hm rfl (bf1 c9) ?_
        refine Ex_run 1 (i' := 19) (L' := [(2, ((v0 : Nat) : Int)), (0, v1), (0, v2)]) (st' := [(0, (-3))]) (h' := (G, ρ, m)) hm rfl cjn ?_
        cases e
        cases hk
        exact Ex_ret (k := 1) hm rfl ⟨_, rfl, rfl⟩
      · replace e := it_n e c9
        refine Ex_if1t (c := 1) (tgt := 20) hm rfl (bt1 c9) ?_
        refine Ex_run 4 (i' := 24) (L' := [(2, ((v0 : Nat) : Int)), (0, v1), (0, v2)]) (st' := [(0, v2), (0, v1), (2, (((ρ v0 4) : Nat) : Int))]) (h' := (G, ρ, m)) hm rfl (cjc (gk_b g1) cjn) ?_
        obtain ⟨q10, h10, e⟩ := bn_s e
        refine Ex_callm (z := 78) (na := 3) (ck := 11) (as := [(2, (((ρ v0 4) : Nat) : Int)), (0, v1), (0, v2)]) (rest := []) (E0 := [(2, (((ρ v0 4) : Nat) : Int)), (0, v1), (0, v2), (9, 0), (9, 0), (9, 0), (9, 0)]) (v := some (0, q10.1)) (h1 := (G, ρ, q10.2)) hm rfl (by omega) ⟨Nat.le_of_ble_eq_true rfl, Nat.le_of_ble_eq_true rfl⟩ (rc2 rfl g2) rfl rfl ml_78 rfl (Nat.le_of_ble_eq_true rfl) (tf78 h10 (by omega)) ?_
        show Ex d 113 25 [(2, ((v0 : Nat) : Int)), (0, v1), (0, v2)] [(0, q10.1)] (G, ρ, q10.2) rr
        cases e
        cases hk
        exact Ex_ret (k := 1) hm rfl ⟨_, rfl, rfl⟩
theorem tf114 {G : Gg} {ρ : Rg} {d : Nat} {v0 : Nat} {v1 : Int} {v2 : Int} {m : Sg} {x : Int × Sg} (e : f114 G ρ v0 v1 v2 m = some x) (hd : 4 ≤ d) : Ex d 114 0 [(2, ((v0 : Nat) : Int)), (0, v1), (0, v2)] [] (G, ρ, m) (some (1, x.1), (G, ρ, x.2)) := by
  unfold f114 at e
  have hm := mi_114
  generalize hk : (some (1, x.1), (G, ρ, x.2)) = rr
  replace hk : (Bl G ρ) x rr := hk.symm
  obtain ⟨g1, e⟩ := gd_s e
  refine Ex_run 3 (i' := 3) (L' := [(2, ((v0 : Nat) : Int)), (0, v1), (0, v2)]) (st' := [(0, v1), (2, (((ρ v0 4) : Nat) : Int))]) (h' := (G, ρ, m)) hm rfl (cjc (gk_b g1) cjn) ?_
  obtain ⟨g2, e⟩ := gd_s e
  obtain ⟨q3, h3, e⟩ := bn_s e
  refine Ex_callm (z := 65) (na := 2) (ck := 11) (as := [(2, (((ρ v0 4) : Nat) : Int)), (0, v1)]) (rest := []) (E0 := [(2, (((ρ v0 4) : Nat) : Int)), (0, v1)]) (v := some (0, q3)) (h1 := (G, ρ, m)) hm rfl (by omega) ⟨Nat.le_of_ble_eq_true rfl, Nat.le_of_ble_eq_true rfl⟩ (rc2 rfl g2) rfl rfl ml_65 rfl (Nat.le_of_ble_eq_true rfl) (tf65 h3 (by omega)) ?_
  show Ex d 114 4 [(2, ((v0 : Nat) : Int)), (0, v1), (0, v2)] [(0, q3)] (G, ρ, m) rr
  by_cases c4 : q3 = 0
  · replace e := it_p e c4
    refine Ex_if1t (c := 0) (tgt := 10) hm rfl (bt0 c4) ?_
    refine Ex_run 1 (i' := 11) (L' := [(2, ((v0 : Nat) : Int)), (0, v1), (0, v2)]) (st' := [(1, (-4611686018427387904))]) (h' := (G, ρ, m)) hm rfl cjn ?_
    cases e
    cases hk
    exact Ex_ret (k := 3) hm rfl ⟨_, rfl, rfl⟩
  · replace e := it_n e c4
    refine Ex_if1f (c := 0) (tgt := 10) hm rfl (bf0 c4) ?_
    refine Ex_run 3 (i' := 8) (L' := [(2, ((v0 : Nat) : Int)), (0, v1), (0, v2)]) (st' := [(0, v2), (2, (((ρ v0 4) : Nat) : Int))]) (h' := (G, ρ, m)) hm rfl (cjc (gk_b g1) cjn) ?_
    obtain ⟨q5, h5, e⟩ := bn_s e
    refine Ex_callm (z := 65) (na := 2) (ck := 11) (as := [(2, (((ρ v0 4) : Nat) : Int)), (0, v2)]) (rest := []) (E0 := [(2, (((ρ v0 4) : Nat) : Int)), (0, v2)]) (v := some (0, q5)) (h1 := (G, ρ, m)) hm rfl (by omega) ⟨Nat.le_of_ble_eq_true rfl, Nat.le_of_ble_eq_true rfl⟩ (rc2 rfl g2) rfl rfl ml_65 rfl (Nat.le_of_ble_eq_true rfl) (tf65 h5 (by omega)) ?_
    show Ex d 114 9 [(2, ((v0 : Nat) : Int)), (0, v1), (0, v2)] [(0, q5)] (G, ρ, m) rr
    by_cases c6 : q5 = 0
    · replace e := it_p e c6
      refine Ex_if1f (c := 1) (tgt := 12) hm rfl (bf1 c6) ?_
      refine Ex_run 1 (i' := 11) (L' := [(2, ((v0 : Nat) : Int)), (0, v1), (0, v2)]) (st' := [(1, (-4611686018427387904))]) (h' := (G, ρ, m)) hm rfl cjn ?_
      cases e
      cases hk
      exact Ex_ret (k := 3) hm rfl ⟨_, rfl, rfl⟩
    · replace e := it_n e c6
      refine Ex_if1t (c := 1) (tgt := 12) hm rfl (bt1 c6) ?_
      obtain ⟨g7, e⟩ := gd_s e
      refine Ex_run 6 (i' := 18) (L' := [(2, ((v0 : Nat) : Int)), (0, v1), (0, v2)]) (st' := [(2, (((ρ (ρ v0 6) 0) : Nat) : Int)), (0, v1), (2, (((ρ v0 4) : Nat) : Int))]) (h' := (G, ρ, m)) hm rfl (cjc (gk_b g1) (cjc (gk_b g1) (cjc (gk_b g7) cjn))) ?_
      obtain ⟨q8, h8, e⟩ := bn_s e
      refine Ex_callm (z := 70) (na := 3) (ck := 11) (as := [(2, (((ρ v0 4) : Nat) : Int)), (0, v1), (2, (((ρ (ρ v0 6) 0) : Nat) : Int))]) (rest := []) (E0 := [(2, (((ρ v0 4) : Nat) : Int)), (0, v1), (2, (((ρ (ρ v0 6) 0) : Nat) : Int)), (9, 0), (9, 0), (9, 0), (9, 0)]) (v := none) (h1 := (G, ρ, q8)) hm rfl (by omega) ⟨Nat.le_of_ble_eq_true rfl, Nat.le_of_ble_eq_true rfl⟩ (rc2 rfl g2) rfl rfl ml_70 rfl (Nat.le_of_ble_eq_true rfl) (tf70 h8 (by omega)) ?_
      show Ex d 114 19 [(2, ((v0 : Nat) : Int)), (0, v1), (0, v2)] [] (G, ρ, q8) rr
      refine Ex_run 6 (i' := 25) (L' := [(2, ((v0 : Nat) : Int)), (0, v1), (0, v2)]) (st' := [(2, (((ρ (ρ v0 6) 1) : Nat) : Int)), (0, v2), (2, (((ρ v0 4) : Nat) : Int))]) (h' := (G, ρ, q8)) hm rfl (cjc (gk_b g1) (cjc (gk_b g1) (cjc (gk_b g7) cjn))) ?_
      obtain ⟨q9, h9, e⟩ := bn_s e
      refine Ex_callm (z := 70) (na := 3) (ck := 11) (as := [(2, (((ρ v0 4) : Nat) : Int)), (0, v2), (2, (((ρ (ρ v0 6) 1) : Nat) : Int))]) (rest := []) (E0 := [(2, (((ρ v0 4) : Nat) : Int)), (0, v2), (2, (((ρ (ρ v0 6) 1) : Nat) : Int)), (9, 0), (9, 0), (9, 0), (9, 0)]) (v := none) (h1 := (G, ρ, q9)) hm rfl (by omega) ⟨Nat.le_of_ble_eq_true rfl, Nat.le_of_ble_eq_true rfl⟩ (rc2 rfl g2) rfl rfl ml_70 rfl (Nat.le_of_ble_eq_true rfl) (tf70 h9 (by omega)) ?_
      show Ex d 114 26 [(2, ((v0 : Nat) : Int)), (0, v1), (0, v2)] [] (G, ρ, q9) rr
      refine Ex_run 2 (i' := 28) (L' := [(2, ((v0 : Nat) : Int)), (0, v1), (0, v2)]) (st' := [(2, (((ρ v0 6) : Nat) : Int))]) (h' := (G, ρ, q9)) hm rfl (cjc (gk_b g1) cjn) ?_
      obtain ⟨q10, h10, e⟩ := bn_s e
      refine Ex_callm (z := 4) (na := 1) (ck := 4) (as := [(2, (((ρ v0 6) : Nat) : Int))]) (rest := []) (E0 := [(2, (((ρ v0 6) : Nat) : Int)), (9, 0), (9, 0), (9, 0)]) (v := some (1, q10.1)) (h1 := (G, ρ, q10.2)) hm rfl (by omega) ⟨Nat.le_of_ble_eq_true rfl, Nat.le_of_ble_eq_true rfl⟩ (rc2 rfl g7) rfl rfl ml_4 rfl (Nat.le_of_ble_eq_true rfl) (tf4 h10 (by omega)) ?_
      show Ex d 114 29 [(2, ((v0 : Nat) : Int)), (0, v1), (0, v2)] [(1, q10.1)] (G, ρ, q10.2) rr
      cases e
      cases hk
      exact Ex_ret (k := 3) hm rfl ⟨_, rfl, rfl⟩
theorem tf115_b19 {G : Gg} {ρ : Rg} {d : Nat} {v0 : Nat} {v1 : Int} {v2 : Int} {s : Int × Sg} {x : (Int × Sg) ⊕ (Int × Sg)} (e : f115_b19 G ρ v0 v1 v2 s = some x) (hd : 2 ≤ d) (rr : Option MV × Mh) (hk : (DS (e115_19 G ρ d v0 v1 v2) (Bi G ρ)) x rr) : e115_19 G ρ d v0 v1 v2 s rr := by
  unfold f115_b19 at e
  have hm := mi_115
  show Ex d 115 19 [(2, ((v0 : Nat) : Int)), (0, v1), (1, v2), (9, 0), (0, s.1)] [] (G, ρ, s.2) rr
  refine Ex_run 2 (i' := 21) (L' := [(2, ((v0 : Nat) : Int)), (0, v1), (1, v2), (9, 0), (0, s.1)]) (st' := [(0, v1), (0, s.1)]) (h' := (G, ρ, s.2)) hm rfl cjn ?_
  by_cases c6 : s.1 < v1
  · replace e := it_p e c6
    refine Ex_if2f (c := 3) (tgt := 35) hm rfl (bf3 c6) ?_
    obtain ⟨g7, e⟩ := gd_s e
    refine Ex_run 10 (i' := 32) (L' := [(2, ((v0 : Nat) : Int)), (0, v1), (1, v2), (9, 0), (0, s.1)]) (st' := [(0, (g_and (w32 (k_ushr v2 (g_mul 8 s.1))) 255)), (2, (((ρ v0 7) : Nat) : Int))]) (h' := (G, ρ, s.2)) hm rfl (cjc (gk_b g7) cjn) ?_
    obtain ⟨g8, e⟩ := gd_s e
    obtain ⟨q9, h9, e⟩ := bn_s e
    refine Ex_callm (z := 10) (na := 2) (ck := 5) (as := [(2, (((ρ v0 7) : Nat) : Int)), (0, (g_and (w32 (k_ushr v2 (g_mul 8 s.1))) 255))]) (rest := []) (E0 := [(2, (((ρ v0 7) : Nat) : Int)), (0, (g_and (w32 (k_ushr v2 (g_mul 8 s.1))) 255))]) (v := none) (h1 := (G, ρ, q9)) hm rfl (by omega) ⟨Nat.le_of_ble_eq_true rfl, Nat.le_of_ble_eq_true rfl⟩ (rc2 rfl g8) rfl rfl ml_10 rfl (Nat.le_of_ble_eq_true rfl) (tf10 h9 (by omega)) ?_
    show Ex d 115 33 [(2, ((v0 : Nat) : Int)), (0, v1), (1, v2), (9, 0), (0, s.1)] [] (G, ρ, q9) rr
    refine Ex_run 2 (i' := 19) (L' := [(2, ((v0 : Nat) : Int)), (0, v1), (1, v2), (9, 0), (0, (w32 (s.1 + 1)))]) (st' := []) (h' := (G, ρ, q9)) hm rfl cjn ?_
    cases e
    exact hk
  · replace e := it_n e c6
    refine Ex_if2t (c := 3) (tgt := 35) hm rfl (bt3 c6) ?_
    obtain ⟨x, e, hx⟩ := xr_s e
    replace hk : (Bi G ρ) x rr := by rw [hx] at hk; exact hk
    obtain ⟨g10, e⟩ := gd_s e
    obtain ⟨g11, e⟩ := gd_s e
    refine Ex_run 3 (i' := 38) (L' := [(2, ((v0 : Nat) : Int)), (0, v1), (1, v2), (9, 0), (0, s.1)]) (st' := [(0, (s.2 (ρ v0 7) 1))]) (h' := (G, ρ, s.2)) hm rfl (cjc (gk_b g10) (cjc (gk_b g11) cjn)) ?_
    cases e
    cases hk
    exact Ex_ret (k := 1) hm rfl ⟨_, rfl, rfl⟩
theorem tf115 {G : Gg} {ρ : Rg} {d : Nat} {v0 : Nat} {v1 : Int} {v2 : Int} {m : Sg} {x : Int × Sg} (e : f115 G ρ v0 v1 v2 m = some x) (hd : 2 ≤ d) : Ex d 115 0 [(2, ((v0 : Nat) : Int)), (0, v1), (1, v2), (9, 0), (9, 0)] [] (G, ρ, m) (some (0, x.1), (G, ρ, x.2)) := by
  unfold f115 at e
  have hm := mi_115
  generalize hk : (some (0, x.1), (G, ρ, x.2)) = rr
  replace hk : (Bi G ρ) x rr := hk.symm
  refine Ex_run 2 (i' := 2) (L' := [(2, ((v0 : Nat) : Int)), (0, v1), (1, v2), (9, 0), (9, 0)]) (st' := [(0, 1), (0, v1)]) (h' := (G, ρ, m)) hm rfl cjn ?_
  by_cases c1 : v1 < 1
  · replace e := it_p e c1
    refine Ex_if2t (c := 2) (tgt := 6) hm rfl (bt2 c1) ?_
    refine Ex_run 1 (i' := 7) (L' := [(2, ((v0 : Nat) : Int)), (0, v1), (1, v2), (9, 0), (9, 0)]) (st' := [(0, (-2))]) (h' := (G, ρ, m)) hm rfl cjn ?_
    cases e
    cases hk
    exact Ex_ret (k := 1) hm rfl ⟨_, rfl, rfl⟩
  · replace e := it_n e c1
    refine Ex_if2f (c := 2) (tgt := 6) hm rfl (bf2 c1) ?_
    refine Ex_run 2 (i' := 5) (L' := [(2, ((v0 : Nat) : Int)), (0, v1), (1, v2), (9, 0), (9, 0)]) (st' := [(0, 8), (0, v1)]) (h' := (G, ρ, m)) hm rfl cjn ?_
    by_cases c2 : 8 < v1
    · replace e := it_p e c2
      refine Ex_if2f (c := 5) (tgt := 8) hm rfl (bf5 c2) ?_
      refine Ex_run 1 (i' := 7) (L' := [(2, ((v0 : Nat) : Int)), (0, v1), (1, v2), (9, 0), (9, 0)]) (st' := [(0, (-2))]) (h' := (G, ρ, m)) hm rfl cjn ?_
      cases e
      cases hk
      exact Ex_ret (k := 1) hm rfl ⟨_, rfl, rfl⟩
    · replace e := it_n e c2
      refine Ex_if2t (c := 5) (tgt := 8) hm rfl (bt5 c2) ?_
      obtain ⟨g3, e⟩ := gd_s e
      obtain ⟨g4, e⟩ := gd_s e
      refine Ex_run 6 (i' := 14) (L' := [(2, ((v0 : Nat) : Int)), (0, v1), (1, v2), (9, 0), (9, 0)]) (st' := [(0, 160), (0, (g_add (m (ρ v0 7) 1) v1))]) (h' := (G, ρ, m)) hm rfl (cjc (gk_b g3) (cjc (gk_b g4) cjn)) ?_
      by_cases c5 : 160 < (g_add (m (ρ v0 7) 1) v1)
      · replace e := it_p e c5
        refine Ex_if2f (c := 5) (tgt := 17) hm rfl (bf5 c5) ?_
        refine Ex_run 1 (i' := 16) (L' := [(2, ((v0 : Nat) : Int)), (0, v1), (1, v2), (9, 0), (9, 0)]) (st' := [(0, (-4))]) (h' := (G, ρ, m)) hm rfl cjn ?_
        cases e
        cases hk
        exact Ex_ret (k := 1) hm rfl ⟨_, rfl, rfl⟩
      · replace e := it_n e c5
        refine Ex_if2t (c := 5) (tgt := 17) hm rfl (bt5 c5) ?_
        refine Ex_run 2 (i' := 19) (L' := [(2, ((v0 : Nat) : Int)), (0, v1), (1, v2), (9, 0), (0, 0)]) (st' := []) (h' := (G, ρ, m)) hm rfl (cjc (Nat.le_of_ble_eq_true rfl) cjn) ?_
        exact (Ex_lp (A := e115_19 G ρ d v0 v1 v2 ) (B := (Bi G ρ)) (fun s x e rr hk => tf115_b19 e hd rr hk) FU _ _ e rr hk)
theorem tf116 {G : Gg} {ρ : Rg} {d : Nat} {v0 : Nat} {m : Sg} {x : Int × Sg} (e : f116 G ρ v0 m = some x) (hd : 56 ≤ d) : Ex d 116 0 [(2, ((v0 : Nat) : Int)), (9, 0)] [] (G, ρ, m) (some (0, x.1), (G, ρ, x.2)) := by
  unfold f116 at e
  have hm := mi_116
  generalize hk : (some (0, x.1), (G, ρ, x.2)) = rr
  replace hk : (Bi G ρ) x rr := hk.symm
  obtain ⟨g1, e⟩ := gd_s e
  obtain ⟨g2, e⟩ := gd_s e
  refine Ex_run 4 (i' := 4) (L' := [(2, ((v0 : Nat) : Int)), (9, 0)]) (st' := [(0, 6), (0, (m (ρ v0 8) 5))]) (h' := (G, ρ, m)) hm rfl (cjc (gk_b g1) (cjc (gk_b g2) cjn)) ?_
  by_cases c3 : (m (ρ v0 8) 5) < 6
  · replace e := it_p e c3
    refine Ex_if2t (c := 2) (tgt := 7) hm rfl (bt2 c3) ?_
    refine Ex_run 2 (i' := 9) (L' := [(2, ((v0 : Nat) : Int)), (9, 0)]) (st' := [(2, (((ρ v0 7) : Nat) : Int))]) (h' := (G, ρ, m)) hm rfl (cjc (gk_b g1) cjn) ?_
    obtain ⟨g4, e⟩ := gd_s e
    obtain ⟨q5, h5, e⟩ := bn_s e
    refine Ex_callm (z := 12) (na := 1) (ck := 5) (as := [(2, (((ρ v0 7) : Nat) : Int))]) (rest := []) (E0 := [(2, (((ρ v0 7) : Nat) : Int)), (9, 0)]) (v := some (0, q5.1)) (h1 := (G, ρ, q5.2)) hm rfl (by omega) ⟨Nat.le_of_ble_eq_true rfl, Nat.le_of_ble_eq_true rfl⟩ (rc2 rfl g4) rfl rfl ml_12 rfl (Nat.le_of_ble_eq_true rfl) (tf12 h5 (by omega)) ?_
    show Ex d 116 10 [(2, ((v0 : Nat) : Int)), (9, 0)] [(0, q5.1)] (G, ρ, q5.2) rr
    refine Ex_run 3 (i' := 13) (L' := [(2, ((v0 : Nat) : Int)), (0, q5.1)]) (st' := [(2, (((ρ v0 7) : Nat) : Int))]) (h' := (G, ρ, q5.2)) hm rfl (cjc (Nat.le_of_ble_eq_true rfl) (cjc (gk_b g1) cjn)) ?_
    obtain ⟨q6, h6, e⟩ := bn_s e
    refine Ex_callm (z := 11) (na := 1) (ck := 5) (as := [(2, (((ρ v0 7) : Nat) : Int))]) (rest := []) (E0 := [(2, (((ρ v0 7) : Nat) : Int))]) (v := none) (h1 := (G, ρ, q6)) hm rfl (by omega) ⟨Nat.le_of_ble_eq_true rfl, Nat.le_of_ble_eq_true rfl⟩ (rc2 rfl g4) rfl rfl ml_11 rfl (Nat.le_of_ble_eq_true rfl) (tf11 h6 (by omega)) ?_
    show Ex d 116 14 [(2, ((v0 : Nat) : Int)), (0, q5.1)] [] (G, ρ, q6) rr
    refine Ex_run 2 (i' := 16) (L' := [(2, ((v0 : Nat) : Int)), (0, q5.1)]) (st' := [(0, (-1)), (0, q5.1)]) (h' := (G, ρ, q6)) hm rfl cjn ?_
    by_cases c7 : q5.1 = (-1)
    · replace e := it_p e c7
      refine Ex_if2f (c := 1) (tgt := 23) hm rfl (bf1 c7) ?_
      refine Ex_run 4 (i' := 21) (L' := [(2, ((v0 : Nat) : Int)), (0, q5.1)]) (st' := [(2, (((ρ v0 7) : Nat) : Int)), (2, (((ρ v0 8) : Nat) : Int))]) (h' := (G, ρ, q6)) hm rfl (cjc (gk_b g1) (cjc (gk_b g1) cjn)) ?_
      obtain ⟨q8, h8, e⟩ := bn_s e
      refine Ex_callm (z := 81) (na := 2) (ck := 12) (as := [(2, (((ρ v0 8) : Nat) : Int)), (2, (((ρ v0 7) : Nat) : Int))]) (rest := []) (E0 := [(2, (((ρ v0 8) : Nat) : Int)), (2, (((ρ v0 7) : Nat) : Int)), (9, 0), (9, 0)]) (v := some (0, q8.1)) (h1 := (G, ρ, q8.2)) hm rfl (by omega) ⟨Nat.le_of_ble_eq_true rfl, Nat.le_of_ble_eq_true rfl⟩ (rc2 rfl g2) rfl rfl ml_81 rfl (Nat.le_of_ble_eq_true rfl) (tf81 h8 (by omega)) ?_
      show Ex d 116 22 [(2, ((v0 : Nat) : Int)), (0, q5.1)] [(0, q8.1)] (G, ρ, q8.2) rr
      refine Ex_run 1 (i' := 26) (L' := [(2, ((v0 : Nat) : Int)), (0, q5.1)]) (st' := [(0, q8.1)]) (h' := (G, ρ, q8.2)) hm rfl cjn ?_
      cases e
      cases hk
      exact Ex_ret (k := 1) hm rfl ⟨_, rfl, rfl⟩
    · replace e := it_n e c7
      refine Ex_if2t (c := 1) (tgt := 23) hm rfl (bt1 c7) ?_
      refine Ex_run 3 (i' := 26) (L' := [(2, ((v0 : Nat) : Int)), (0, q5.1)]) (st' := [(0, (g_sub (-100) q5.1))]) (h' := (G, ρ, q6)) hm rfl cjn ?_
      cases e
      cases hk
      exact Ex_ret (k := 1) hm rfl ⟨_, rfl, rfl⟩
  · replace e := it_n e c3
    refine Ex_if2f (c := 2) (tgt := 7) hm rfl (bf2 c3) ?_
    refine Ex_run 1 (i' := 6) (L' := [(2, ((v0 : Nat) : Int)), (9, 0)]) (st' := [(0, (-4))]) (h' := (G, ρ, m)) hm rfl cjn ?_
    cases e
    cases hk
    exact Ex_ret (k := 1) hm rfl ⟨_, rfl, rfl⟩
theorem tf117 {G : Gg} {ρ : Rg} {d : Nat} {v0 : Nat} {v1 : Int} {m : Sg} {x : Int × Sg} (e : f117 G ρ v0 v1 m = some x) (hd : 0 ≤ d) : Ex d 117 0 [(2, ((v0 : Nat) : Int)), (0, v1), (9, 0)] [] (G, ρ, m) (some (0, x.1), (G, ρ, x.2)) := by
  unfold f117 at e
  have hm := mi_117
  generalize hk : (some (0, x.1), (G, ρ, x.2)) = rr
  replace hk : (Bi G ρ) x rr := hk.symm
  refine Ex_run 1 (i' := 1) (L' := [(2, ((v0 : Nat) : Int)), (0, v1), (9, 0)]) (st' := [(0, v1)]) (h' := (G, ρ, m)) hm rfl cjn ?_
  by_cases c1 : v1 < 0
  · replace e := it_p e c1
    refine Ex_if1t (c := 2) (tgt := 7) hm rfl (bt2 c1) ?_
    refine Ex_run 1 (i' := 8) (L' := [(2, ((v0 : Nat) : Int)), (0, v1), (9, 0)]) (st' := [(0, (-2))]) (h' := (G, ρ, m)) hm rfl cjn ?_
    cases e
    cases hk
    exact Ex_ret (k := 1) hm rfl ⟨_, rfl, rfl⟩
  · replace e := it_n e c1
    refine Ex_if1f (c := 2) (tgt := 7) hm rfl (bf2 c1) ?_
    obtain ⟨g2, e⟩ := gd_s e
    obtain ⟨g3, e⟩ := gd_s e
    refine Ex_run 4 (i' := 6) (L' := [(2, ((v0 : Nat) : Int)), (0, v1), (9, 0)]) (st' := [(0, (m (ρ v0 8) 5)), (0, v1)]) (h' := (G, ρ, m)) hm rfl (cjc (gk_b g2) (cjc (gk_b g3) cjn)) ?_
    by_cases c4 : v1 < (m (ρ v0 8) 5)
    · replace e := it_p e c4
      refine Ex_if2t (c := 2) (tgt := 9) hm rfl (bt2 c4) ?_
      refine Ex_run 7 (i' := 16) (L' := [(2, ((v0 : Nat) : Int)), (0, v1), (0, (m v0 14))]) (st' := [(0, (m v0 14))]) (h' := (G, ρ, (put m v0 14 v1))) hm rfl (cjc (gk_b g2) (cjc (Nat.le_of_ble_eq_true rfl) (cjc (gk_b g2) cjn))) ?_
      cases e
      cases hk
      exact Ex_ret (k := 1) hm rfl ⟨_, rfl, rfl⟩
    · replace e := it_n e c4
      refine Ex_if2f (c := 2) (tgt := 9) hm rfl (bf2 c4) ?_
      refine Ex_run 1 (i' := 8) (L' := [(2, ((v0 : Nat) : Int)), (0, v1), (9, 0)]) (st' := [(0, (-2))]) (h' := (G, ρ, m)) hm rfl cjn ?_
      cases e
      cases hk
      exact Ex_ret (k := 1) hm rfl ⟨_, rfl, rfl⟩
theorem tf140 {G : Gg} {ρ : Rg} {d : Nat} {v0 : Nat} {v1 : Int} {v2 : Int} {m : Sg} {x : Int × Sg} (e : f140 G ρ v0 v1 v2 m = some x) (hd : 4 ≤ d) : Ex d 140 0 [(2, ((v0 : Nat) : Int)), (0, v1), (0, v2)] [] (G, ρ, m) (some (0, x.1), (G, ρ, x.2)) := by
  unfold f140 at e
  have hm := mi_140
  generalize hk : (some (0, x.1), (G, ρ, x.2)) = rr
  replace hk : (Bi G ρ) x rr := hk.symm
  obtain ⟨g1, e⟩ := gd_s e
  refine Ex_run 5 (i' := 5) (L' := [(2, ((v0 : Nat) : Int)), (0, v1), (0, v2)]) (st' := [(2, (((ρ v0 12) : Nat) : Int)), (0, v1), (2, (((ρ v0 4) : Nat) : Int))]) (h' := (G, ρ, m)) hm rfl (cjc (gk_b g1) (cjc (gk_b g1) cjn)) ?_
  obtain ⟨g2, e⟩ := gd_s e
  obtain ⟨q3, h3, e⟩ := bn_s e
  refine Ex_callm (z := 72) (na := 3) (ck := 11) (as := [(2, (((ρ v0 4) : Nat) : Int)), (0, v1), (2, (((ρ v0 12) : Nat) : Int))]) (rest := []) (E0 := [(2, (((ρ v0 4) : Nat) : Int)), (0, v1), (2, (((ρ v0 12) : Nat) : Int))]) (v := none) (h1 := (G, ρ, q3)) hm rfl (by omega) ⟨Nat.le_of_ble_eq_true rfl, Nat.le_of_ble_eq_true rfl⟩ (rc2 rfl g2) rfl rfl ml_72 rfl (Nat.le_of_ble_eq_true rfl) (tf72 h3 (by omega)) ?_
  show Ex d 140 6 [(2, ((v0 : Nat) : Int)), (0, v1), (0, v2)] [] (G, ρ, q3) rr
  refine Ex_run 5 (i' := 11) (L' := [(2, ((v0 : Nat) : Int)), (0, v1), (0, v2)]) (st' := [(0, (q3 v0 13)), (0, 0), (2, (((ρ v0 12) : Nat) : Int))]) (h' := (G, ρ, q3)) hm rfl (cjc (gk_b g1) (cjc (gk_b g1) cjn)) ?_
  obtain ⟨g4, e⟩ := gd_s e
  obtain ⟨q5, h5, e⟩ := bn_s e
  refine Ex_callm (z := 34) (na := 3) (ck := 6) (as := [(2, (((ρ v0 12) : Nat) : Int)), (0, 0), (0, (q3 v0 13))]) (rest := []) (E0 := [(2, (((ρ v0 12) : Nat) : Int)), (0, 0), (0, (q3 v0 13))]) (v := none) (h1 := (G, ρ, q5)) hm rfl (by omega) ⟨Nat.le_of_ble_eq_true rfl, Nat.le_of_ble_eq_true rfl⟩ (rc2 rfl g4) rfl rfl ml_34 rfl (Nat.le_of_ble_eq_true rfl) (tf34 h5 (by omega)) ?_
  show Ex d 140 12 [(2, ((v0 : Nat) : Int)), (0, v1), (0, v2)] [] (G, ρ, q5) rr
  refine Ex_run 7 (i' := 19) (L' := [(2, ((v0 : Nat) : Int)), (0, v1), (0, v2)]) (st' := [(2, (((ρ v0 12) : Nat) : Int)), (0, v2), (0, (q5 v0 14)), (2, (((ρ v0 8) : Nat) : Int))]) (h' := (G, ρ, q5)) hm rfl (cjc (gk_b g1) (cjc (gk_b g1) (cjc (gk_b g1) cjn))) ?_
  obtain ⟨g6, e⟩ := gd_s e
  obtain ⟨q7, h7, e⟩ := bn_s e
  refine Ex_callm (z := 82) (na := 4) (ck := 12) (as := [(2, (((ρ v0 8) : Nat) : Int)), (0, (q5 v0 14)), (0, v2), (2, (((ρ v0 12) : Nat) : Int))]) (rest := []) (E0 := [(2, (((ρ v0 8) : Nat) : Int)), (0, (q5 v0 14)), (0, v2), (2, (((ρ v0 12) : Nat) : Int)), (9, 0), (9, 0), (9, 0), (9, 0)]) (v := some (0, q7.1)) (h1 := (G, ρ, q7.2)) hm rfl (by omega) ⟨Nat.le_of_ble_eq_true rfl, Nat.le_of_ble_eq_true rfl⟩ (rc2 rfl g6) rfl rfl ml_82 rfl (Nat.le_of_ble_eq_true rfl) (tf82 h7 (by omega)) ?_
  show Ex d 140 20 [(2, ((v0 : Nat) : Int)), (0, v1), (0, v2)] [(0, q7.1)] (G, ρ, q7.2) rr
  cases e
  cases hk
  exact Ex_ret (k := 1) hm rfl ⟨_, rfl, rfl⟩
theorem tf118 {G : Gg} {ρ : Rg} {d : Nat} {v0 : Nat} {v1 : Int} {v2 : Int} {m : Sg} {x : Int × Sg} (e : f118 G ρ v0 v1 v2 m = some x) (hd : 5 ≤ d) : Ex d 118 0 [(2, ((v0 : Nat) : Int)), (0, v1), (0, v2)] [] (G, ρ, m) (some (1, x.1), (G, ρ, x.2)) := by
  unfold f118 at e
  have hm := mi_118
  generalize hk : (some (1, x.1), (G, ρ, x.2)) = rr
  replace hk : (Bl G ρ) x rr := hk.symm
  obtain ⟨g1, e⟩ := gd_s e
  refine Ex_run 3 (i' := 3) (L' := [(2, ((v0 : Nat) : Int)), (0, v1), (0, v2)]) (st' := [(0, v1), (2, (((ρ v0 4) : Nat) : Int))]) (h' := (G, ρ, m)) hm rfl (cjc (gk_b g1) cjn) ?_
  obtain ⟨g2, e⟩ := gd_s e
  obtain ⟨q3, h3, e⟩ := bn_s e
  refine Ex_callm (z := 65) (na := 2) (ck := 11) (as := [(2, (((ρ v0 4) : Nat) : Int)), (0, v1)]) (rest := []) (E0 := [(2, (((ρ v0 4) : Nat) : Int)), (0, v1)]) (v := some (0, q3)) (h1 := (G, ρ, m)) hm rfl (by omega) ⟨Nat.le_of_ble_eq_true rfl, Nat.le_of_ble_eq_true rfl⟩ (rc2 rfl g2) rfl rfl ml_65 rfl (Nat.le_of_ble_eq_true rfl) (tf65 h3 (by omega)) ?_
  show Ex d 118 4 [(2, ((v0 : Nat) : Int)), (0, v1), (0, v2)] [(0, q3)] (G, ρ, m) rr
  by_cases c4 : q3 = 0
  · replace e := it_p e c4
    refine Ex_if1t (c := 0) (tgt := 10) hm rfl (bt0 c4) ?_
    refine Ex_run 1 (i' := 11) (L' := [(2, ((v0 : Nat) : Int)), (0, v1), (0, v2)]) (st' := [(1, (-4611686018427387904))]) (h' := (G, ρ, m)) hm rfl cjn ?_
    cases e
    cases hk
    exact Ex_ret (k := 3) hm rfl ⟨_, rfl, rfl⟩
  · replace e := it_n e c4
    refine Ex_if1f (c := 0) (tgt := 10) hm rfl (bf0 c4) ?_
    refine Ex_run 1 (i' := 6) (L' := [(2, ((v0 : Nat) : Int)), (0, v1), (0, v2)]) (st' := [(0, v2)]) (h' := (G, ρ, m)) hm rfl cjn ?_
    by_cases c5 : v2 < 0
    · replace e := it_p e c5
      refine Ex_if1t (c := 2) (tgt := 10) hm rfl (bt2 c5) ?_
      refine Ex_run 1 (i' := 11) (L' := [(2, ((v0 : Nat) : Int)), (0, v1), (0, v2)]) (st' := [(1, (-4611686018427387904))]) (h' := (G, ρ, m)) hm rfl cjn ?_
      cases e
      cases hk
      exact Ex_ret (k := 3) hm rfl ⟨_, rfl, rfl⟩
    · replace e := it_n e c5
      refine Ex_if1f (c := 2) (tgt := 10) hm rfl (bf2 c5) ?_
      refine Ex_run 2 (i' := 9) (L' := [(2, ((v0 : Nat) : Int)), (0, v1), (0, v2)]) (st' := [(0, 1), (0, v2)]) (h' := (G, ρ, m)) hm rfl cjn ?_
      by_cases c6 : 1 < v2
      · replace e := it_p e c6
        refine Ex_if2f (c := 5) (tgt := 12) hm rfl (bf5 c6) ?_
        refine Ex_run 1 (i' := 11) (L' := [(2, ((v0 : Nat) : Int)), (0, v1), (0, v2)]) (st' := [(1, (-4611686018427387904))]) (h' := (G, ρ, m)) hm rfl cjn ?_
        cases e
        cases hk
        exact Ex_ret (k := 3) hm rfl ⟨_, rfl, rfl⟩
      · replace e := it_n e c6
        refine Ex_if2t (c := 5) (tgt := 12) hm rfl (bt5 c6) ?_
        refine Ex_run 3 (i' := 15) (L' := [(2, ((v0 : Nat) : Int)), (0, v1), (0, v2)]) (st' := [(0, v2), (0, v1), (2, ((v0 : Nat) : Int))]) (h' := (G, ρ, m)) hm rfl cjn ?_
        obtain ⟨q7, h7, e⟩ := bn_s e
        refine Ex_callm (z := 140) (na := 3) (ck := 14) (as := [(2, ((v0 : Nat) : Int)), (0, v1), (0, v2)]) (rest := []) (E0 := [(2, ((v0 : Nat) : Int)), (0, v1), (0, v2)]) (v := some (0, q7.1)) (h1 := (G, ρ, q7.2)) hm rfl (by omega) ⟨Nat.le_of_ble_eq_true rfl, Nat.le_of_ble_eq_true rfl⟩ (rc2 rfl g1) rfl rfl ml_140 rfl (Nat.le_of_ble_eq_true rfl) (tf140 h7 (by omega)) ?_
        show Ex d 118 16 [(2, ((v0 : Nat) : Int)), (0, v1), (0, v2)] [(0, q7.1)] (G, ρ, q7.2) rr
        refine Ex_run 1 (i' := 17) (L' := [(2, ((v0 : Nat) : Int)), (0, v1), (0, v2)]) (st' := [(1, q7.1)]) (h' := (G, ρ, q7.2)) hm rfl cjn ?_
        cases e
        cases hk
        exact Ex_ret (k := 3) hm rfl ⟨_, rfl, rfl⟩
theorem tf134 {G : Gg} {ρ : Rg} {d : Nat} {v0 : Int} {m : Sg} {x : Int} (e : f134 G ρ v0 m = some x) (hd : 0 ≤ d) : Ex d 134 0 [(0, v0)] [] (G, ρ, m) (some (0, x), (G, ρ, m)) := by
  unfold f134 at e
  have hm := mi_134
  generalize hk : (some (0, x), (G, ρ, m)) = rr
  replace hk : (Bpi G ρ m) x rr := hk.symm
  refine Ex_run 1 (i' := 1) (L' := [(0, v0)]) (st' := [(0, v0)]) (h' := (G, ρ, m)) hm rfl cjn ?_
  by_cases c1 : v0 < 0
  · replace e := it_p e c1
    refine Ex_if1t (c := 2) (tgt := 7) hm rfl (bt2 c1) ?_
    refine Ex_run 1 (i' := 8) (L' := [(0, v0)]) (st' := [(0, 0)]) (h' := (G, ρ, m)) hm rfl cjn ?_
    cases e
    cases hk
    exact Ex_ret (k := 2) hm rfl ⟨_, rfl, by decide, rfl⟩
  · replace e := it_n e c1
    refine Ex_if1f (c := 2) (tgt := 7) hm rfl (bf2 c1) ?_
    refine Ex_run 2 (i' := 4) (L' := [(0, v0)]) (st' := [(0, 8), (0, v0)]) (h' := (G, ρ, m)) hm rfl cjn ?_
    by_cases c2 : v0 < 8
    · replace e := it_p e c2
      refine Ex_if2f (c := 3) (tgt := 7) hm rfl (bf3 c2) ?_
      refine Ex_run 2 (i' := 8) (L' := [(0, v0)]) (st' := [(0, 1)]) (h' := (G, ρ, m)) hm rfl cjn ?_
      cases e
      cases hk
      exact Ex_ret (k := 2) hm rfl ⟨_, rfl, by decide, rfl⟩
    · replace e := it_n e c2
      refine Ex_if2t (c := 3) (tgt := 7) hm rfl (bt3 c2) ?_
      refine Ex_run 1 (i' := 8) (L' := [(0, v0)]) (st' := [(0, 0)]) (h' := (G, ρ, m)) hm rfl cjn ?_
      cases e
      cases hk
      exact Ex_ret (k := 2) hm rfl ⟨_, rfl, by decide, rfl⟩
theorem tf119_13 {G : Gg} {ρ : Rg} {d : Nat} {v0 : Nat} {v1 : Int} {v2 : Int} {m : Sg} {x : Int × Sg} (e : f119_13 G ρ v0 v1 v2 m = some x) (hd : 1 ≤ d) (rr : Option MV × Mh) (hk : (Bi G ρ) x rr) : Ex d 119 13 [(2, ((v0 : Nat) : Int)), (0, v1), (0, v2), (9, 0)] [] (G, ρ, m) rr := by
  unfold f119_13 at e
  have hm := mi_119
  obtain ⟨g4, e⟩ := gd_s e
  obtain ⟨g5, e⟩ := gd_s e
  refine Ex_run 4 (i' := 17) (L' := [(2, ((v0 : Nat) : Int)), (0, v1), (0, v2), (9, 0)]) (st' := [(0, v1), (2, (((ρ (ρ v0 9) 0) : Nat) : Int))]) (h' := (G, ρ, m)) hm rfl (cjc (gk_b g4) (cjc (gk_b g5) cjn)) ?_
  obtain ⟨g6, e⟩ := gd_s e
  obtain ⟨q7, h7, e⟩ := bn_s e
  refine Ex_callm (z := 33) (na := 2) (ck := 6) (as := [(2, (((ρ (ρ v0 9) 0) : Nat) : Int)), (0, v1)]) (rest := []) (E0 := [(2, (((ρ (ρ v0 9) 0) : Nat) : Int)), (0, v1)]) (v := some (0, q7)) (h1 := (G, ρ, m)) hm rfl (by omega) ⟨Nat.le_of_ble_eq_true rfl, Nat.le_of_ble_eq_true rfl⟩ (rc2 rfl g6) rfl rfl ml_33 rfl (Nat.le_of_ble_eq_true rfl) (tf33 h7 (by omega)) ?_
  show Ex d 119 18 [(2, ((v0 : Nat) : Int)), (0, v1), (0, v2), (9, 0)] [(0, q7)] (G, ρ, m) rr
  refine Ex_run 6 (i' := 24) (L' := [(2, ((v0 : Nat) : Int)), (0, v1), (0, v2), (0, q7)]) (st' := [(0, v2), (0, v1), (2, (((ρ (ρ v0 9) 0) : Nat) : Int))]) (h' := (G, ρ, m)) hm rfl (cjc (Nat.le_of_ble_eq_true rfl) (cjc (gk_b g4) (cjc (gk_b g5) cjn))) ?_
  obtain ⟨q8, h8, e⟩ := bn_s e
  refine Ex_callm (z := 34) (na := 3) (ck := 6) (as := [(2, (((ρ (ρ v0 9) 0) : Nat) : Int)), (0, v1), (0, v2)]) (rest := []) (E0 := [(2, (((ρ (ρ v0 9) 0) : Nat) : Int)), (0, v1), (0, v2)]) (v := none) (h1 := (G, ρ, q8)) hm rfl (by omega) ⟨Nat.le_of_ble_eq_true rfl, Nat.le_of_ble_eq_true rfl⟩ (rc2 rfl g6) rfl rfl ml_34 rfl (Nat.le_of_ble_eq_true rfl) (tf34 h8 (by omega)) ?_
  show Ex d 119 25 [(2, ((v0 : Nat) : Int)), (0, v1), (0, v2), (0, q7)] [] (G, ρ, q8) rr
  refine Ex_run 1 (i' := 26) (L' := [(2, ((v0 : Nat) : Int)), (0, v1), (0, v2), (0, q7)]) (st' := [(0, q7)]) (h' := (G, ρ, q8)) hm rfl cjn ?_
  cases e
  cases hk
  exact Ex_ret (k := 1) hm rfl ⟨_, rfl, rfl⟩
theorem tf119 {G : Gg} {ρ : Rg} {d : Nat} {v0 : Nat} {v1 : Int} {v2 : Int} {m : Sg} {x : Int × Sg} (e : f119 G ρ v0 v1 v2 m = some x) (hd : 1 ≤ d) : Ex d 119 0 [(2, ((v0 : Nat) : Int)), (0, v1), (0, v2), (9, 0)] [] (G, ρ, m) (some (0, x.1), (G, ρ, x.2)) := by
  unfold f119 at e
  have hm := mi_119
  generalize hk : (some (0, x.1), (G, ρ, x.2)) = rr
  replace hk : (Bi G ρ) x rr := hk.symm
  refine Ex_run 1 (i' := 1) (L' := [(2, ((v0 : Nat) : Int)), (0, v1), (0, v2), (9, 0)]) (st' := [(0, v1)]) (h' := (G, ρ, m)) hm rfl cjn ?_
  obtain ⟨q1, h1, e⟩ := bn_s e
  refine Ex_callm (z := 134) (na := 1) (ck := 0) (as := [(0, v1)]) (rest := []) (E0 := [(0, v1)]) (v := some (0, q1)) (h1 := (G, ρ, m)) hm rfl (by omega) ⟨Nat.le_of_ble_eq_true rfl, Nat.le_of_ble_eq_true rfl⟩ (trivial) rfl rfl ml_134 rfl (Nat.le_of_ble_eq_true rfl) (tf134 h1 (by omega)) ?_
  show Ex d 119 2 [(2, ((v0 : Nat) : Int)), (0, v1), (0, v2), (9, 0)] [(0, q1)] (G, ρ, m) rr
  by_cases c2 : q1 = 0
  · replace e := it_p e c2
    refine Ex_if1t (c := 0) (tgt := 11) hm rfl (bt0 c2) ?_
    refine Ex_run 1 (i' := 12) (L' := [(2, ((v0 : Nat) : Int)), (0, v1), (0, v2), (9, 0)]) (st' := [(0, (-5))]) (h' := (G, ρ, m)) hm rfl cjn ?_
    cases e
    cases hk
    exact Ex_ret (k := 1) hm rfl ⟨_, rfl, rfl⟩
  · replace e := it_n e c2
    refine Ex_if1f (c := 0) (tgt := 11) hm rfl (bf0 c2) ?_
    refine Ex_run 2 (i' := 5) (L' := [(2, ((v0 : Nat) : Int)), (0, v1), (0, v2), (9, 0)]) (st' := [(0, (-1)), (0, v2)]) (h' := (G, ρ, m)) hm rfl cjn ?_
    by_cases c3 : v2 = (-1)
    · replace e := it_p e c3
      refine Ex_if2t (c := 0) (tgt := 13) hm rfl (bt0 c3) ?_
      exact tf119_13 e hd rr hk
    · replace e := it_n e c3
      refine Ex_if2f (c := 0) (tgt := 13) hm rfl (bf0 c3) ?_
      obtain ⟨g9, e⟩ := gd_s e
      refine Ex_run 3 (i' := 9) (L' := [(2, ((v0 : Nat) : Int)), (0, v1), (0, v2), (9, 0)]) (st' := [(0, v2), (2, (((ρ v0 4) : Nat) : Int))]) (h' := (G, ρ, m)) hm rfl (cjc (gk_b g9) cjn) ?_
      obtain ⟨g10, e⟩ := gd_s e
      obtain ⟨q11, h11, e⟩ := bn_s e
      refine Ex_callm (z := 65) (na := 2) (ck := 11) (as := [(2, (((ρ v0 4) : Nat) : Int)), (0, v2)]) (rest := []) (E0 := [(2, (((ρ v0 4) : Nat) : Int)), (0, v2)]) (v := some (0, q11)) (h1 := (G, ρ, m)) hm rfl (by omega) ⟨Nat.le_of_ble_eq_true rfl, Nat.le_of_ble_eq_true rfl⟩ (rc2 rfl g10) rfl rfl ml_65 rfl (Nat.le_of_ble_eq_true rfl) (tf65 h11 (by omega)) ?_
      show Ex d 119 10 [(2, ((v0 : Nat) : Int)), (0, v1), (0, v2), (9, 0)] [(0, q11)] (G, ρ, m) rr
      by_cases c12 : q11 = 0
      · replace e := it_p e c12
        refine Ex_if1f (c := 1) (tgt := 13) hm rfl (bf1 c12) ?_
        refine Ex_run 1 (i' := 12) (L' := [(2, ((v0 : Nat) : Int)), (0, v1), (0, v2), (9, 0)]) (st' := [(0, (-5))]) (h' := (G, ρ, m)) hm rfl cjn ?_
        cases e
        cases hk
        exact Ex_ret (k := 1) hm rfl ⟨_, rfl, rfl⟩
      · replace e := it_n e c12
        refine Ex_if1t (c := 1) (tgt := 13) hm rfl (bt1 c12) ?_
        exact tf119_13 e hd rr hk
theorem tf141_43 {G : Gg} {ρ : Rg} {d : Nat} {v0 : Nat} {v1 : Int} {w0 : Int} {w1 : Int} {w2 : Nat} {m : Sg} {x : (Int × Sg) ⊕ (Sg)} (e : f141_43 G ρ v0 v1 w0 w1 w2 m = some x) (hd : 5 ≤ d) (rr : Option MV × Mh) (hk : (DS (e141_2 G ρ d v0) (Bv G ρ)) x rr) (j2 : Int) (j3 : Int) : Ex d 141 43 [(2, ((v0 : Nat) : Int)), (0, v1), (0, j2), (0, j3)] [(0, w0), (0, w1), (2, ((w2 : Nat) : Int))] (G, ρ, m) rr := by
  unfold f141_43 at e
  have hm := mi_141
  obtain ⟨g15, e⟩ := gd_s e
  obtain ⟨q16, h16, e⟩ := bn_s e
  refine Ex_callm (z := 34) (na := 3) (ck := 6) (as := [(2, ((w2 : Nat) : Int)), (0, w1), (0, w0)]) (rest := []) (E0 := [(2, ((w2 : Nat) : Int)), (0, w1), (0, w0)]) (v := none) (h1 := (G, ρ, q16)) hm rfl (by omega) ⟨Nat.le_of_ble_eq_true rfl, Nat.le_of_ble_eq_true rfl⟩ (rc2 rfl g15) rfl rfl ml_34 rfl (Nat.le_of_ble_eq_true rfl) (tf34 h16 (by omega)) ?_
  show Ex d 141 44 [(2, ((v0 : Nat) : Int)), (0, v1), (0, j2), (0, j3)] [] (G, ρ, q16) rr
  refine Ex_run 2 (i' := 2) (L' := [(2, ((v0 : Nat) : Int)), (0, (w32 (v1 + 1))), (0, j2), (0, j3)]) (st' := []) (h' := (G, ρ, q16)) hm rfl cjn ?_
  cases e
  exact hk _ _
theorem tf141_30 {G : Gg} {ρ : Rg} {d : Nat} {v0 : Nat} {v1 : Int} {v2 : Int} {v3 : Int} {w0 : Int} {w1 : Int} {w2 : Nat} {m : Sg} {x : (Int × Sg) ⊕ (Sg)} (e : f141_30 G ρ v0 v1 v2 v3 w0 w1 w2 m = some x) (hd : 5 ≤ d) (rr : Option MV × Mh) (hk : (DS (e141_2 G ρ d v0) (Bv G ρ)) x rr) : Ex d 141 30 [(2, ((v0 : Nat) : Int)), (0, v1), (0, v2), (0, v3)] [(0, w0), (0, w1), (2, ((w2 : Nat) : Int))] (G, ρ, m) rr := by
  unfold f141_30 at e
  have hm := mi_141
  obtain ⟨g10, e⟩ := gd_s e
  obtain ⟨q11, h11, e⟩ := bn_s e
  refine Ex_callm (z := 34) (na := 3) (ck := 6) (as := [(2, ((w2 : Nat) : Int)), (0, w1), (0, w0)]) (rest := []) (E0 := [(2, ((w2 : Nat) : Int)), (0, w1), (0, w0)]) (v := none) (h1 := (G, ρ, q11)) hm rfl (by omega) ⟨Nat.le_of_ble_eq_true rfl, Nat.le_of_ble_eq_true rfl⟩ (rc2 rfl g10) rfl rfl ml_34 rfl (Nat.le_of_ble_eq_true rfl) (tf34 h11 (by omega)) ?_
  show Ex d 141 31 [(2, ((v0 : Nat) : Int)), (0, v1), (0, v2), (0, v3)] [] (G, ρ, q11) rr
  obtain ⟨g12, e⟩ := gd_s e
  obtain ⟨g13, e⟩ := gd_s e
  refine Ex_run 5 (i' := 36) (L' := [(2, ((v0 : Nat) : Int)), (0, v1), (0, v2), (0, v3)]) (st' := [(0, v3), (0, v1), (2, (((ρ (ρ v0 9) 2) : Nat) : Int))]) (h' := (G, ρ, q11)) hm rfl (cjc (gk_b g12) (cjc (gk_b g13) cjn)) ?_
  by_cases c14 : v3 = 0
  · replace e := it_p e c14
    refine Ex_if1t (c := 0) (tgt := 42) hm rfl (bt0 c14) ?_
    refine Ex_run 1 (i' := 43) (L' := [(2, ((v0 : Nat) : Int)), (0, v1), (0, v2), (0, v3)]) (st' := [(0, 1), (0, v1), (2, (((ρ (ρ v0 9) 2) : Nat) : Int))]) (h' := (G, ρ, q11)) hm rfl cjn ?_
    exact tf141_43 e hd rr hk _ _
  · replace e := it_n e c14
    refine Ex_if1f (c := 0) (tgt := 42) hm rfl (bf0 c14) ?_
    refine Ex_run 3 (i' := 40) (L' := [(2, ((v0 : Nat) : Int)), (0, v1), (0, v2), (0, v3)]) (st' := [(0, 1), (0, v2), (2, ((v0 : Nat) : Int)), (0, v1), (2, (((ρ (ρ v0 9) 2) : Nat) : Int))]) (h' := (G, ρ, q11)) hm rfl cjn ?_
    obtain ⟨q17, h17, e⟩ := bn_s e
    refine Ex_callm (z := 140) (na := 3) (ck := 14) (as := [(2, ((v0 : Nat) : Int)), (0, v2), (0, 1)]) (rest := [(0, v1), (2, (((ρ (ρ v0 9) 2) : Nat) : Int))]) (E0 := [(2, ((v0 : Nat) : Int)), (0, v2), (0, 1)]) (v := some (0, q17.1)) (h1 := (G, ρ, q17.2)) hm rfl (by omega) ⟨Nat.le_of_ble_eq_true rfl, Nat.le_of_ble_eq_true rfl⟩ (rc2 rfl g12) rfl rfl ml_140 rfl (Nat.le_of_ble_eq_true rfl) (tf140 h17 (by omega)) ?_
    show Ex d 141 41 [(2, ((v0 : Nat) : Int)), (0, v1), (0, v2), (0, v3)] [(0, q17.1), (0, v1), (2, (((ρ (ρ v0 9) 2) : Nat) : Int))] (G, ρ, q17.2) rr
    refine Ex_run 1 (i' := 43) (L' := [(2, ((v0 : Nat) : Int)), (0, v1), (0, v2), (0, v3)]) (st' := [(0, q17.1), (0, v1), (2, (((ρ (ρ v0 9) 2) : Nat) : Int))]) (h' := (G, ρ, q17.2)) hm rfl cjn ?_
    exact tf141_43 e hd rr hk _ _
theorem tf141_17 {G : Gg} {ρ : Rg} {d : Nat} {v0 : Nat} {v1 : Int} {v2 : Int} {w0 : Int} {m : Sg} {x : (Int × Sg) ⊕ (Sg)} (e : f141_17 G ρ v0 v1 v2 w0 m = some x) (hd : 5 ≤ d) (rr : Option MV × Mh) (hk : (DS (e141_2 G ρ d v0) (Bv G ρ)) x rr) (j3 : MV) : Ex d 141 17 [(2, ((v0 : Nat) : Int)), (0, v1), (0, v2), j3] [(0, w0)] (G, ρ, m) rr := by
  unfold f141_17 at e
  have hm := mi_141
  obtain ⟨g7, e⟩ := gd_s e
  obtain ⟨g8, e⟩ := gd_s e
  refine Ex_run 6 (i' := 23) (L' := [(2, ((v0 : Nat) : Int)), (0, v1), (0, v2), (0, w0)]) (st' := [(0, w0), (0, v1), (2, (((ρ (ρ v0 9) 1) : Nat) : Int))]) (h' := (G, ρ, m)) hm rfl (cjc (Nat.le_of_ble_eq_true rfl) (cjc (gk_b g7) (cjc (gk_b g8) cjn))) ?_
  by_cases c9 : w0 = 0
  · replace e := it_p e c9
    refine Ex_if1t (c := 0) (tgt := 29) hm rfl (bt0 c9) ?_
    refine Ex_run 1 (i' := 30) (L' := [(2, ((v0 : Nat) : Int)), (0, v1), (0, v2), (0, w0)]) (st' := [(0, (-1000000)), (0, v1), (2, (((ρ (ρ v0 9) 1) : Nat) : Int))]) (h' := (G, ρ, m)) hm rfl cjn ?_
    exact tf141_30 e hd rr hk
  · replace e := it_n e c9
    refine Ex_if1f (c := 0) (tgt := 29) hm rfl (bf0 c9) ?_
    refine Ex_run 3 (i' := 27) (L' := [(2, ((v0 : Nat) : Int)), (0, v1), (0, v2), (0, w0)]) (st' := [(0, 0), (0, v2), (2, ((v0 : Nat) : Int)), (0, v1), (2, (((ρ (ρ v0 9) 1) : Nat) : Int))]) (h' := (G, ρ, m)) hm rfl cjn ?_
    obtain ⟨q18, h18, e⟩ := bn_s e
    refine Ex_callm (z := 140) (na := 3) (ck := 14) (as := [(2, ((v0 : Nat) : Int)), (0, v2), (0, 0)]) (rest := [(0, v1), (2, (((ρ (ρ v0 9) 1) : Nat) : Int))]) (E0 := [(2, ((v0 : Nat) : Int)), (0, v2), (0, 0)]) (v := some (0, q18.1)) (h1 := (G, ρ, q18.2)) hm rfl (by omega) ⟨Nat.le_of_ble_eq_true rfl, Nat.le_of_ble_eq_true rfl⟩ (rc2 rfl g7) rfl rfl ml_140 rfl (Nat.le_of_ble_eq_true rfl) (tf140 h18 (by omega)) ?_
    show Ex d 141 28 [(2, ((v0 : Nat) : Int)), (0, v1), (0, v2), (0, w0)] [(0, q18.1), (0, v1), (2, (((ρ (ρ v0 9) 1) : Nat) : Int))] (G, ρ, q18.2) rr
    refine Ex_run 1 (i' := 30) (L' := [(2, ((v0 : Nat) : Int)), (0, v1), (0, v2), (0, w0)]) (st' := [(0, q18.1), (0, v1), (2, (((ρ (ρ v0 9) 1) : Nat) : Int))]) (h' := (G, ρ, q18.2)) hm rfl cjn ?_
    exact tf141_30 e hd rr hk
theorem tf141_b2 {G : Gg} {ρ : Rg} {d : Nat} {v0 : Nat} {s : Int × Sg} {x : (Int × Sg) ⊕ (Sg)} (e : f141_b2 G ρ v0 s = some x) (hd : 5 ≤ d) (rr : Option MV × Mh) (hk : (DS (e141_2 G ρ d v0) (Bv G ρ)) x rr) : e141_2 G ρ d v0 s rr := by
  unfold f141_b2 at e
  have hm := mi_141
  show ∀ (j2 : MV) (j3 : MV), Ex d 141 2 [(2, ((v0 : Nat) : Int)), (0, s.1), j2, j3] [] (G, ρ, s.2) rr
  intro j2 j3
  refine Ex_run 2 (i' := 4) (L' := [(2, ((v0 : Nat) : Int)), (0, s.1), j2, j3]) (st' := [(0, 8), (0, s.1)]) (h' := (G, ρ, s.2)) hm rfl cjn ?_
  by_cases c1 : s.1 < 8
  · replace e := it_p e c1
    refine Ex_if2f (c := 3) (tgt := 46) hm rfl (bf3 c1) ?_
    obtain ⟨g2, e⟩ := gd_s e
    obtain ⟨g3, e⟩ := gd_s e
    refine Ex_run 4 (i' := 9) (L' := [(2, ((v0 : Nat) : Int)), (0, s.1), j2, j3]) (st' := [(0, s.1), (2, (((ρ (ρ v0 9) 0) : Nat) : Int))]) (h' := (G, ρ, s.2)) hm rfl (cjc (gk_b g2) (cjc (gk_b g3) cjn)) ?_
    obtain ⟨g4, e⟩ := gd_s e
    obtain ⟨q5, h5, e⟩ := bn_s e
    refine Ex_callm (z := 33) (na := 2) (ck := 6) (as := [(2, (((ρ (ρ v0 9) 0) : Nat) : Int)), (0, s.1)]) (rest := []) (E0 := [(2, (((ρ (ρ v0 9) 0) : Nat) : Int)), (0, s.1)]) (v := some (0, q5)) (h1 := (G, ρ, s.2)) hm rfl (by omega) ⟨Nat.le_of_ble_eq_true rfl, Nat.le_of_ble_eq_true rfl⟩ (rc2 rfl g4) rfl rfl ml_33 rfl (Nat.le_of_ble_eq_true rfl) (tf33 h5 (by omega)) ?_
    show Ex d 141 10 [(2, ((v0 : Nat) : Int)), (0, s.1), j2, j3] [(0, q5)] (G, ρ, s.2) rr
    refine Ex_run 3 (i' := 13) (L' := [(2, ((v0 : Nat) : Int)), (0, s.1), (0, q5), j3]) (st' := [(0, (-1)), (0, q5)]) (h' := (G, ρ, s.2)) hm rfl (cjc (Nat.le_of_ble_eq_true rfl) cjn) ?_
    by_cases c6 : q5 = (-1)
    · replace e := it_p e c6
      refine Ex_if2t (c := 0) (tgt := 16) hm rfl (bt0 c6) ?_
      refine Ex_run 1 (i' := 17) (L' := [(2, ((v0 : Nat) : Int)), (0, s.1), (0, q5), j3]) (st' := [(0, 0)]) (h' := (G, ρ, s.2)) hm rfl cjn ?_
      exact tf141_17 e hd rr hk _
    · replace e := it_n e c6
      refine Ex_if2f (c := 0) (tgt := 16) hm rfl (bf0 c6) ?_
      refine Ex_run 2 (i' := 17) (L' := [(2, ((v0 : Nat) : Int)), (0, s.1), (0, q5), j3]) (st' := [(0, 1)]) (h' := (G, ρ, s.2)) hm rfl cjn ?_
      exact tf141_17 e hd rr hk _
  · replace e := it_n e c1
    refine Ex_if2t (c := 3) (tgt := 46) hm rfl (bt3 c1) ?_
    obtain ⟨x, e, hx⟩ := xr_s e
    replace hk : (Bv G ρ) x rr := by rw [hx] at hk; exact hk
    cases e
    cases hk
    exact Ex_ret (k := 0) hm rfl ⟨rfl, rfl⟩
theorem tf141 {G : Gg} {ρ : Rg} {d : Nat} {v0 : Nat} {m : Sg} {x : Sg} (e : f141 G ρ v0 m = some x) (hd : 5 ≤ d) : Ex d 141 0 [(2, ((v0 : Nat) : Int)), (9, 0), (9, 0), (9, 0)] [] (G, ρ, m) (none, (G, ρ, x)) := by
  unfold f141 at e
  have hm := mi_141
  generalize hk : (none, (G, ρ, x)) = rr
  replace hk : (Bv G ρ) x rr := hk.symm
  refine Ex_run 2 (i' := 2) (L' := [(2, ((v0 : Nat) : Int)), (0, 0), (9, 0), (9, 0)]) (st' := []) (h' := (G, ρ, m)) hm rfl (cjc (Nat.le_of_ble_eq_true rfl) cjn) ?_
  exact (Ex_lp (A := e141_2 G ρ d v0 ) (B := (Bv G ρ)) (fun s x e rr hk => tf141_b2 e hd rr hk) FU _ _ e rr hk) _ _
theorem tf120_b18 {G : Gg} {ρ : Rg} {d : Nat} {v0 : Nat} {v1 : Int} {s : Int × Sg} {x : (Int × Sg) ⊕ (Int × Sg)} (e : f120_b18 G ρ v0 v1 s = some x) (hd : 6 ≤ d) (rr : Option MV × Mh) (hk : (DS (e120_18 G ρ d v0 v1) (Bi G ρ)) x rr) : e120_18 G ρ d v0 v1 s rr := by
  unfold f120_b18 at e
  have hm := mi_120
  show Ex d 120 18 [(2, ((v0 : Nat) : Int)), (0, v1), (0, s.1)] [] (G, ρ, s.2) rr
  refine Ex_run 2 (i' := 20) (L' := [(2, ((v0 : Nat) : Int)), (0, v1), (0, s.1)]) (st' := [(0, v1), (0, s.1)]) (h' := (G, ρ, s.2)) hm rfl cjn ?_
  by_cases c5 : s.1 < v1
  · replace e := it_p e c5
    refine Ex_if2f (c := 3) (tgt := 34) hm rfl (bf3 c5) ?_
    obtain ⟨g6, e⟩ := gd_s e
    refine Ex_run 7 (i' := 28) (L' := [(2, ((v0 : Nat) : Int)), (0, v1), (0, s.1)]) (st' := [(2, ((v0 : Nat) : Int))]) (h' := (G, ρ, (put s.2 v0 13 (g_add (s.2 v0 13) 1)))) hm rfl (cjc (gk_b g6) (cjc (gk_b g6) cjn)) ?_
    obtain ⟨q7, h7, e⟩ := bn_s e
    refine Ex_callm (z := 141) (na := 1) (ck := 14) (as := [(2, ((v0 : Nat) : Int))]) (rest := []) (E0 := [(2, ((v0 : Nat) : Int)), (9, 0), (9, 0), (9, 0)]) (v := none) (h1 := (G, ρ, q7)) hm rfl (by omega) ⟨Nat.le_of_ble_eq_true rfl, Nat.le_of_ble_eq_true rfl⟩ (rc2 rfl g6) rfl rfl ml_141 rfl (Nat.le_of_ble_eq_true rfl) (tf141 h7 (by omega)) ?_
    show Ex d 120 29 [(2, ((v0 : Nat) : Int)), (0, v1), (0, s.1)] [] (G, ρ, q7) rr
    refine Ex_run 2 (i' := 31) (L' := [(2, ((v0 : Nat) : Int)), (0, v1), (0, s.1)]) (st' := [(2, (((ρ v0 9) : Nat) : Int))]) (h' := (G, ρ, q7)) hm rfl (cjc (gk_b g6) cjn) ?_
    obtain ⟨g8, e⟩ := gd_s e
    obtain ⟨q9, h9, e⟩ := bn_s e
    refine Ex_callm (z := 56) (na := 1) (ck := 9) (as := [(2, (((ρ v0 9) : Nat) : Int))]) (rest := []) (E0 := [(2, (((ρ v0 9) : Nat) : Int)), (9, 0)]) (v := none) (h1 := (G, ρ, q9)) hm rfl (by omega) ⟨Nat.le_of_ble_eq_true rfl, Nat.le_of_ble_eq_true rfl⟩ (rc2 rfl g8) rfl rfl ml_56 rfl (Nat.le_of_ble_eq_true rfl) (tf56 h9 (by omega)) ?_
    show Ex d 120 32 [(2, ((v0 : Nat) : Int)), (0, v1), (0, s.1)] [] (G, ρ, q9) rr
    refine Ex_run 2 (i' := 18) (L' := [(2, ((v0 : Nat) : Int)), (0, v1), (0, (w32 (s.1 + 1)))]) (st' := []) (h' := (G, ρ, q9)) hm rfl cjn ?_
    cases e
    exact hk
  · replace e := it_n e c5
    refine Ex_if2t (c := 3) (tgt := 34) hm rfl (bt3 c5) ?_
    obtain ⟨x, e, hx⟩ := xr_s e
    replace hk : (Bi G ρ) x rr := by rw [hx] at hk; exact hk
    obtain ⟨g10, e⟩ := gd_s e
    refine Ex_run 2 (i' := 36) (L' := [(2, ((v0 : Nat) : Int)), (0, v1), (0, s.1)]) (st' := [(0, (s.2 v0 13))]) (h' := (G, ρ, s.2)) hm rfl (cjc (gk_b g10) cjn) ?_
    cases e
    cases hk
    exact Ex_ret (k := 1) hm rfl ⟨_, rfl, rfl⟩
theorem tf120 {G : Gg} {ρ : Rg} {d : Nat} {v0 : Nat} {v1 : Int} {m : Sg} {x : Int × Sg} (e : f120 G ρ v0 v1 m = some x) (hd : 6 ≤ d) : Ex d 120 0 [(2, ((v0 : Nat) : Int)), (0, v1), (9, 0)] [] (G, ρ, m) (some (0, x.1), (G, ρ, x.2)) := by
  unfold f120 at e
  have hm := mi_120
  generalize hk : (some (0, x.1), (G, ρ, x.2)) = rr
  replace hk : (Bi G ρ) x rr := hk.symm
  refine Ex_run 2 (i' := 2) (L' := [(2, ((v0 : Nat) : Int)), (0, v1), (9, 0)]) (st' := [(0, 1), (0, v1)]) (h' := (G, ρ, m)) hm rfl cjn ?_
  by_cases c1 : v1 < 1
  · replace e := it_p e c1
    refine Ex_if2t (c := 2) (tgt := 6) hm rfl (bt2 c1) ?_
    refine Ex_run 1 (i' := 7) (L' := [(2, ((v0 : Nat) : Int)), (0, v1), (9, 0)]) (st' := [(0, (-2))]) (h' := (G, ρ, m)) hm rfl cjn ?_
    cases e
    cases hk
    exact Ex_ret (k := 1) hm rfl ⟨_, rfl, rfl⟩
  · replace e := it_n e c1
    refine Ex_if2f (c := 2) (tgt := 6) hm rfl (bf2 c1) ?_
    refine Ex_run 2 (i' := 5) (L' := [(2, ((v0 : Nat) : Int)), (0, v1), (9, 0)]) (st' := [(0, 30), (0, v1)]) (h' := (G, ρ, m)) hm rfl cjn ?_
    by_cases c2 : 30 < v1
    · replace e := it_p e c2
      refine Ex_if2f (c := 5) (tgt := 8) hm rfl (bf5 c2) ?_
      refine Ex_run 1 (i' := 7) (L' := [(2, ((v0 : Nat) : Int)), (0, v1), (9, 0)]) (st' := [(0, (-2))]) (h' := (G, ρ, m)) hm rfl cjn ?_
      cases e
      cases hk
      exact Ex_ret (k := 1) hm rfl ⟨_, rfl, rfl⟩
    · replace e := it_n e c2
      refine Ex_if2t (c := 5) (tgt := 8) hm rfl (bt5 c2) ?_
      obtain ⟨g3, e⟩ := gd_s e
      refine Ex_run 5 (i' := 13) (L' := [(2, ((v0 : Nat) : Int)), (0, v1), (9, 0)]) (st' := [(0, 999), (0, (g_add (m v0 13) v1))]) (h' := (G, ρ, m)) hm rfl (cjc (gk_b g3) cjn) ?_
      by_cases c4 : 999 < (g_add (m v0 13) v1)
      · replace e := it_p e c4
        refine Ex_if2f (c := 5) (tgt := 16) hm rfl (bf5 c4) ?_
        refine Ex_run 1 (i' := 15) (L' := [(2, ((v0 : Nat) : Int)), (0, v1), (9, 0)]) (st' := [(0, (-4))]) (h' := (G, ρ, m)) hm rfl cjn ?_
        cases e
        cases hk
        exact Ex_ret (k := 1) hm rfl ⟨_, rfl, rfl⟩
      · replace e := it_n e c4
        refine Ex_if2t (c := 5) (tgt := 16) hm rfl (bt5 c4) ?_
        refine Ex_run 2 (i' := 18) (L' := [(2, ((v0 : Nat) : Int)), (0, v1), (0, 0)]) (st' := []) (h' := (G, ρ, m)) hm rfl (cjc (Nat.le_of_ble_eq_true rfl) cjn) ?_
        exact (Ex_lp (A := e120_18 G ρ d v0 v1 ) (B := (Bi G ρ)) (fun s x e rr hk => tf120_b18 e hd rr hk) FU _ _ e rr hk)
theorem tf121 {G : Gg} {ρ : Rg} {d : Nat} {v0 : Nat} {v1 : Int} {m : Sg} {x : Int} (e : f121 G ρ v0 v1 m = some x) (hd : 1 ≤ d) : Ex d 121 0 [(2, ((v0 : Nat) : Int)), (0, v1)] [] (G, ρ, m) (some (0, x), (G, ρ, m)) := by
  unfold f121 at e
  have hm := mi_121
  generalize hk : (some (0, x), (G, ρ, m)) = rr
  replace hk : (Bpi G ρ m) x rr := hk.symm
  refine Ex_run 1 (i' := 1) (L' := [(2, ((v0 : Nat) : Int)), (0, v1)]) (st' := [(0, v1)]) (h' := (G, ρ, m)) hm rfl cjn ?_
  obtain ⟨q1, h1, e⟩ := bn_s e
  refine Ex_callm (z := 134) (na := 1) (ck := 0) (as := [(0, v1)]) (rest := []) (E0 := [(0, v1)]) (v := some (0, q1)) (h1 := (G, ρ, m)) hm rfl (by omega) ⟨Nat.le_of_ble_eq_true rfl, Nat.le_of_ble_eq_true rfl⟩ (trivial) rfl rfl ml_134 rfl (Nat.le_of_ble_eq_true rfl) (tf134 h1 (by omega)) ?_
  show Ex d 121 2 [(2, ((v0 : Nat) : Int)), (0, v1)] [(0, q1)] (G, ρ, m) rr
  by_cases c2 : q1 = 0
  · replace e := it_p e c2
    refine Ex_if1t (c := 0) (tgt := 9) hm rfl (bt0 c2) ?_
    refine Ex_run 1 (i' := 10) (L' := [(2, ((v0 : Nat) : Int)), (0, v1)]) (st' := [(0, (-2))]) (h' := (G, ρ, m)) hm rfl cjn ?_
    cases e
    cases hk
    exact Ex_ret (k := 1) hm rfl ⟨_, rfl, rfl⟩
  · replace e := it_n e c2
    refine Ex_if1f (c := 0) (tgt := 9) hm rfl (bf0 c2) ?_
    obtain ⟨g3, e⟩ := gd_s e
    obtain ⟨g4, e⟩ := gd_s e
    refine Ex_run 4 (i' := 7) (L' := [(2, ((v0 : Nat) : Int)), (0, v1)]) (st' := [(0, v1), (2, (((ρ (ρ v0 9) 0) : Nat) : Int))]) (h' := (G, ρ, m)) hm rfl (cjc (gk_b g3) (cjc (gk_b g4) cjn)) ?_
    obtain ⟨g5, e⟩ := gd_s e
    obtain ⟨q6, h6, e⟩ := bn_s e
    refine Ex_callm (z := 33) (na := 2) (ck := 6) (as := [(2, (((ρ (ρ v0 9) 0) : Nat) : Int)), (0, v1)]) (rest := []) (E0 := [(2, (((ρ (ρ v0 9) 0) : Nat) : Int)), (0, v1)]) (v := some (0, q6)) (h1 := (G, ρ, m)) hm rfl (by omega) ⟨Nat.le_of_ble_eq_true rfl, Nat.le_of_ble_eq_true rfl⟩ (rc2 rfl g5) rfl rfl ml_33 rfl (Nat.le_of_ble_eq_true rfl) (tf33 h6 (by omega)) ?_
    show Ex d 121 8 [(2, ((v0 : Nat) : Int)), (0, v1)] [(0, q6)] (G, ρ, m) rr
    refine Ex_run 1 (i' := 10) (L' := [(2, ((v0 : Nat) : Int)), (0, v1)]) (st' := [(0, q6)]) (h' := (G, ρ, m)) hm rfl cjn ?_
    cases e
    cases hk
    exact Ex_ret (k := 1) hm rfl ⟨_, rfl, rfl⟩
theorem tf135 {G : Gg} {ρ : Rg} {d : Nat} {v0 : Int} {m : Sg} {x : Int} (e : f135 G ρ v0 m = some x) (hd : 0 ≤ d) : Ex d 135 0 [(0, v0)] [] (G, ρ, m) (some (0, x), (G, ρ, m)) := by
  unfold f135 at e
  have hm := mi_135
  generalize hk : (some (0, x), (G, ρ, m)) = rr
  replace hk : (Bpi G ρ m) x rr := hk.symm
  refine Ex_run 1 (i' := 1) (L' := [(0, v0)]) (st' := [(0, v0)]) (h' := (G, ρ, m)) hm rfl cjn ?_
  by_cases c1 : v0 < 0
  · replace e := it_p e c1
    refine Ex_if1t (c := 2) (tgt := 7) hm rfl (bt2 c1) ?_
    refine Ex_run 1 (i' := 8) (L' := [(0, v0)]) (st' := [(0, 0)]) (h' := (G, ρ, m)) hm rfl cjn ?_
    cases e
    cases hk
    exact Ex_ret (k := 2) hm rfl ⟨_, rfl, by decide, rfl⟩
  · replace e := it_n e c1
    refine Ex_if1f (c := 2) (tgt := 7) hm rfl (bf2 c1) ?_
    refine Ex_run 2 (i' := 4) (L' := [(0, v0)]) (st' := [(0, 4), (0, v0)]) (h' := (G, ρ, m)) hm rfl cjn ?_
    by_cases c2 : v0 < 4
    · replace e := it_p e c2
      refine Ex_if2f (c := 3) (tgt := 7) hm rfl (bf3 c2) ?_
      refine Ex_run 2 (i' := 8) (L' := [(0, v0)]) (st' := [(0, 1)]) (h' := (G, ρ, m)) hm rfl cjn ?_
      cases e
      cases hk
      exact Ex_ret (k := 2) hm rfl ⟨_, rfl, by decide, rfl⟩
    · replace e := it_n e c2
      refine Ex_if2t (c := 3) (tgt := 7) hm rfl (bt3 c2) ?_
      refine Ex_run 1 (i' := 8) (L' := [(0, v0)]) (st' := [(0, 0)]) (h' := (G, ρ, m)) hm rfl cjn ?_
      cases e
      cases hk
      exact Ex_ret (k := 2) hm rfl ⟨_, rfl, by decide, rfl⟩
theorem tf142 {G : Gg} {ρ : Rg} {d : Nat} {v0 : Nat} {v1 : Int} {v2 : Int} {v3 : Int} {m : Sg} {x : Sg} (e : f142 G ρ v0 v1 v2 v3 m = some x) (hd : 1 ≤ d) : Ex d 142 0 [(2, ((v0 : Nat) : Int)), (0, v1), (0, v2), (0, v3), (9, 0)] [] (G, ρ, m) (none, (G, ρ, x)) := by
  unfold f142 at e
  have hm := mi_142
  generalize hk : (none, (G, ρ, x)) = rr
  replace hk : (Bv G ρ) x rr := hk.symm
  obtain ⟨g1, e⟩ := gd_s e
  refine Ex_run 4 (i' := 4) (L' := [(2, ((v0 : Nat) : Int)), (0, v1), (0, v2), (0, v3), (9, 0)]) (st' := [(0, v1), (2, (((ρ v0 11) : Nat) : Int)), (0, v3)]) (h' := (G, ρ, m)) hm rfl (cjc (gk_b g1) cjn) ?_
  obtain ⟨g2, e⟩ := gd_s e
  obtain ⟨q3, h3, e⟩ := bn_s e
  refine Ex_callm (z := 33) (na := 2) (ck := 6) (as := [(2, (((ρ v0 11) : Nat) : Int)), (0, v1)]) (rest := [(0, v3)]) (E0 := [(2, (((ρ v0 11) : Nat) : Int)), (0, v1)]) (v := some (0, q3)) (h1 := (G, ρ, m)) hm rfl (by omega) ⟨Nat.le_of_ble_eq_true rfl, Nat.le_of_ble_eq_true rfl⟩ (rc2 rfl g2) rfl rfl ml_33 rfl (Nat.le_of_ble_eq_true rfl) (tf33 h3 (by omega)) ?_
  show Ex d 142 5 [(2, ((v0 : Nat) : Int)), (0, v1), (0, v2), (0, v3), (9, 0)] [(0, q3), (0, v3)] (G, ρ, m) rr
  obtain ⟨q4, h4, e⟩ := bn_s e
  refine Ex_callm (z := 227) (na := 2) (ck := 0) (as := [(0, v3), (0, q3)]) (rest := []) (E0 := [(0, v3), (0, q3)]) (v := some (0, q4)) (h1 := (G, ρ, m)) hm rfl (by omega) ⟨Nat.le_of_ble_eq_true rfl, Nat.le_of_ble_eq_true rfl⟩ (trivial) rfl rfl ml_227 rfl (Nat.le_of_ble_eq_true rfl) (tf227 h4 (by omega)) ?_
  show Ex d 142 6 [(2, ((v0 : Nat) : Int)), (0, v1), (0, v2), (0, v3), (9, 0)] [(0, q4)] (G, ρ, m) rr
  refine Ex_run 7 (i' := 13) (L' := [(2, ((v0 : Nat) : Int)), (0, v1), (0, v2), (0, v3), (0, q4)]) (st' := [(0, v1), (2, (((ρ v0 11) : Nat) : Int)), (0, v1), (2, (((ρ v0 11) : Nat) : Int))]) (h' := (G, ρ, m)) hm rfl (cjc (Nat.le_of_ble_eq_true rfl) (cjc (gk_b g1) (cjc (gk_b g1) cjn))) ?_
  obtain ⟨q5, h5, e⟩ := bn_s e
  refine Ex_callm (z := 33) (na := 2) (ck := 6) (as := [(2, (((ρ v0 11) : Nat) : Int)), (0, v1)]) (rest := [(0, v1), (2, (((ρ v0 11) : Nat) : Int))]) (E0 := [(2, (((ρ v0 11) : Nat) : Int)), (0, v1)]) (v := some (0, q5)) (h1 := (G, ρ, m)) hm rfl (by omega) ⟨Nat.le_of_ble_eq_true rfl, Nat.le_of_ble_eq_true rfl⟩ (rc2 rfl g2) rfl rfl ml_33 rfl (Nat.le_of_ble_eq_true rfl) (tf33 h5 (by omega)) ?_
  show Ex d 142 14 [(2, ((v0 : Nat) : Int)), (0, v1), (0, v2), (0, v3), (0, q4)] [(0, q5), (0, v1), (2, (((ρ v0 11) : Nat) : Int))] (G, ρ, m) rr
  refine Ex_run 2 (i' := 16) (L' := [(2, ((v0 : Nat) : Int)), (0, v1), (0, v2), (0, v3), (0, q4)]) (st' := [(0, (g_sub q5 q4)), (0, v1), (2, (((ρ v0 11) : Nat) : Int))]) (h' := (G, ρ, m)) hm rfl cjn ?_
  obtain ⟨q6, h6, e⟩ := bn_s e
  refine Ex_callm (z := 34) (na := 3) (ck := 6) (as := [(2, (((ρ v0 11) : Nat) : Int)), (0, v1), (0, (g_sub q5 q4))]) (rest := []) (E0 := [(2, (((ρ v0 11) : Nat) : Int)), (0, v1), (0, (g_sub q5 q4))]) (v := none) (h1 := (G, ρ, q6)) hm rfl (by omega) ⟨Nat.le_of_ble_eq_true rfl, Nat.le_of_ble_eq_true rfl⟩ (rc2 rfl g2) rfl rfl ml_34 rfl (Nat.le_of_ble_eq_true rfl) (tf34 h6 (by omega)) ?_
  show Ex d 142 17 [(2, ((v0 : Nat) : Int)), (0, v1), (0, v2), (0, v3), (0, q4)] [] (G, ρ, q6) rr
  refine Ex_run 6 (i' := 23) (L' := [(2, ((v0 : Nat) : Int)), (0, v1), (0, v2), (0, v3), (0, q4)]) (st' := [(0, v2), (2, (((ρ v0 11) : Nat) : Int)), (0, v2), (2, (((ρ v0 11) : Nat) : Int))]) (h' := (G, ρ, q6)) hm rfl (cjc (gk_b g1) (cjc (gk_b g1) cjn)) ?_
  obtain ⟨q7, h7, e⟩ := bn_s e
  refine Ex_callm (z := 33) (na := 2) (ck := 6) (as := [(2, (((ρ v0 11) : Nat) : Int)), (0, v2)]) (rest := [(0, v2), (2, (((ρ v0 11) : Nat) : Int))]) (E0 := [(2, (((ρ v0 11) : Nat) : Int)), (0, v2)]) (v := some (0, q7)) (h1 := (G, ρ, q6)) hm rfl (by omega) ⟨Nat.le_of_ble_eq_true rfl, Nat.le_of_ble_eq_true rfl⟩ (rc2 rfl g2) rfl rfl ml_33 rfl (Nat.le_of_ble_eq_true rfl) (tf33 h7 (by omega)) ?_
  show Ex d 142 24 [(2, ((v0 : Nat) : Int)), (0, v1), (0, v2), (0, v3), (0, q4)] [(0, q7), (0, v2), (2, (((ρ v0 11) : Nat) : Int))] (G, ρ, q6) rr
  refine Ex_run 2 (i' := 26) (L' := [(2, ((v0 : Nat) : Int)), (0, v1), (0, v2), (0, v3), (0, q4)]) (st' := [(0, (g_add q7 q4)), (0, v2), (2, (((ρ v0 11) : Nat) : Int))]) (h' := (G, ρ, q6)) hm rfl cjn ?_
  obtain ⟨q8, h8, e⟩ := bn_s e
  refine Ex_callm (z := 34) (na := 3) (ck := 6) (as := [(2, (((ρ v0 11) : Nat) : Int)), (0, v2), (0, (g_add q7 q4))]) (rest := []) (E0 := [(2, (((ρ v0 11) : Nat) : Int)), (0, v2), (0, (g_add q7 q4))]) (v := none) (h1 := (G, ρ, q8)) hm rfl (by omega) ⟨Nat.le_of_ble_eq_true rfl, Nat.le_of_ble_eq_true rfl⟩ (rc2 rfl g2) rfl rfl ml_34 rfl (Nat.le_of_ble_eq_true rfl) (tf34 h8 (by omega)) ?_
  show Ex d 142 27 [(2, ((v0 : Nat) : Int)), (0, v1), (0, v2), (0, v3), (0, q4)] [] (G, ρ, q8) rr
  cases e
  cases hk
  exact Ex_ret (k := 0) hm rfl ⟨rfl, rfl⟩
theorem tf122_55 {G : Gg} {ρ : Rg} {d : Nat} {v7 : Int} {m : Sg} {x : Int × Sg} (e : f122_55 G ρ v7 m = some x) (hd : 3 ≤ d) (rr : Option MV × Mh) (hk : (Bi G ρ) x rr) (j0 : Nat) (j1 : Int) (j2 : Int) (j3 : Int) (j4 : Int) (j6 : Int) : Ex d 122 55 [(2, ((j0 : Nat) : Int)), (0, j1), (0, j2), (0, j3), (1, j4), (9, 0), (0, j6), (0, v7)] [] (G, ρ, m) rr := by
  unfold f122_55 at e
  have hm := mi_122
  refine Ex_run 1 (i' := 56) (L' := [(2, ((j0 : Nat) : Int)), (0, j1), (0, j2), (0, j3), (1, j4), (9, 0), (0, j6), (0, v7)]) (st' := [(0, v7)]) (h' := (G, ρ, m)) hm rfl cjn ?_
  by_cases c19 : v7 = 0
  · replace e := it_p e c19
    refine Ex_if1t (c := 0) (tgt := 59) hm rfl (bt0 c19) ?_
    refine Ex_run 1 (i' := 60) (L' := [(2, ((j0 : Nat) : Int)), (0, j1), (0, j2), (0, j3), (1, j4), (9, 0), (0, j6), (0, v7)]) (st' := [(0, 1)]) (h' := (G, ρ, m)) hm rfl cjn ?_
    cases e
    cases hk
    exact Ex_ret (k := 1) hm rfl ⟨_, rfl, rfl⟩
  · replace e := it_n e c19
    refine Ex_if1f (c := 0) (tgt := 59) hm rfl (bf0 c19) ?_
    refine Ex_run 2 (i' := 60) (L' := [(2, ((j0 : Nat) : Int)), (0, j1), (0, j2), (0, j3), (1, j4), (9, 0), (0, j6), (0, v7)]) (st' := [(0, 0)]) (h' := (G, ρ, m)) hm rfl cjn ?_
    cases e
    cases hk
    exact Ex_ret (k := 1) hm rfl ⟨_, rfl, rfl⟩
theorem tf122_41 {G : Gg} {ρ : Rg} {d : Nat} {v0 : Nat} {v1 : Int} {v2 : Int} {v3 : Int} {w0 : Int} {m : Sg} {x : Int × Sg} (e : f122_41 G ρ v0 v1 v2 v3 w0 m = some x) (hd : 3 ≤ d) (rr : Option MV × Mh) (hk : (Bi G ρ) x rr) (j4 : Int) (j6 : Int) : Ex d 122 41 [(2, ((v0 : Nat) : Int)), (0, v1), (0, v2), (0, v3), (1, j4), (9, 0), (0, j6), (9, 0)] [(0, w0)] (G, ρ, m) rr := by
  unfold f122_41 at e
  have hm := mi_122
  refine Ex_run 2 (i' := 43) (L' := [(2, ((v0 : Nat) : Int)), (0, v1), (0, v2), (0, v3), (1, j4), (9, 0), (0, j6), (0, w0)]) (st' := [(0, w0)]) (h' := (G, ρ, m)) hm rfl (cjc (Nat.le_of_ble_eq_true rfl) cjn) ?_
  by_cases c16 : w0 = 0
  · replace e := it_p e c16
    refine Ex_if1t (c := 0) (tgt := 50) hm rfl (bt0 c16) ?_
    refine Ex_run 4 (i' := 54) (L' := [(2, ((v0 : Nat) : Int)), (0, v1), (0, v2), (0, v3), (1, j4), (9, 0), (0, j6), (0, w0)]) (st' := [(0, v3), (0, v2), (0, v1), (2, ((v0 : Nat) : Int))]) (h' := (G, ρ, m)) hm rfl cjn ?_
    obtain ⟨g17, e⟩ := gd_s e
    obtain ⟨q18, h18, e⟩ := bn_s e
    refine Ex_callm (z := 142) (na := 4) (ck := 14) (as := [(2, ((v0 : Nat) : Int)), (0, v1), (0, v2), (0, v3)]) (rest := []) (E0 := [(2, ((v0 : Nat) : Int)), (0, v1), (0, v2), (0, v3), (9, 0)]) (v := none) (h1 := (G, ρ, q18)) hm rfl (by omega) ⟨Nat.le_of_ble_eq_true rfl, Nat.le_of_ble_eq_true rfl⟩ (rc2 rfl g17) rfl rfl ml_142 rfl (Nat.le_of_ble_eq_true rfl) (tf142 h18 (by omega)) ?_
    show Ex d 122 55 [(2, ((v0 : Nat) : Int)), (0, v1), (0, v2), (0, v3), (1, j4), (9, 0), (0, j6), (0, w0)] [] (G, ρ, q18) rr
    exact tf122_55 e hd rr hk _ _ _ _ _ _
  · replace e := it_n e c16
    refine Ex_if1f (c := 0) (tgt := 50) hm rfl (bf0 c16) ?_
    refine Ex_run 4 (i' := 48) (L' := [(2, ((v0 : Nat) : Int)), (0, v1), (0, v2), (0, v3), (1, j4), (9, 0), (0, j6), (0, w0)]) (st' := [(0, v3), (0, v1), (0, v2), (2, ((v0 : Nat) : Int))]) (h' := (G, ρ, m)) hm rfl cjn ?_
    obtain ⟨g20, e⟩ := gd_s e
    obtain ⟨q21, h21, e⟩ := bn_s e
    refine Ex_callm (z := 142) (na := 4) (ck := 14) (as := [(2, ((v0 : Nat) : Int)), (0, v2), (0, v1), (0, v3)]) (rest := []) (E0 := [(2, ((v0 : Nat) : Int)), (0, v2), (0, v1), (0, v3), (9, 0)]) (v := none) (h1 := (G, ρ, q21)) hm rfl (by omega) ⟨Nat.le_of_ble_eq_true rfl, Nat.le_of_ble_eq_true rfl⟩ (rc2 rfl g20) rfl rfl ml_142 rfl (Nat.le_of_ble_eq_true rfl) (tf142 h21 (by omega)) ?_
    show Ex d 122 49 [(2, ((v0 : Nat) : Int)), (0, v1), (0, v2), (0, v3), (1, j4), (9, 0), (0, j6), (0, w0)] [] (G, ρ, q21) rr
    refine Ex_run 1 (i' := 55) (L' := [(2, ((v0 : Nat) : Int)), (0, v1), (0, v2), (0, v3), (1, j4), (9, 0), (0, j6), (0, w0)]) (st' := []) (h' := (G, ρ, q21)) hm rfl cjn ?_
    exact tf122_55 e hd rr hk _ _ _ _ _ _
theorem tf122 {G : Gg} {ρ : Rg} {d : Nat} {v0 : Nat} {v1 : Int} {v2 : Int} {v3 : Int} {v4 : Int} {m : Sg} {x : Int × Sg} (e : f122 G ρ v0 v1 v2 v3 v4 m = some x) (hd : 3 ≤ d) : Ex d 122 0 [(2, ((v0 : Nat) : Int)), (0, v1), (0, v2), (0, v3), (1, v4), (9, 0), (9, 0), (9, 0)] [] (G, ρ, m) (some (0, x.1), (G, ρ, x.2)) := by
  unfold f122 at e
  have hm := mi_122
  generalize hk : (some (0, x.1), (G, ρ, x.2)) = rr
  replace hk : (Bi G ρ) x rr := hk.symm
  refine Ex_run 1 (i' := 1) (L' := [(2, ((v0 : Nat) : Int)), (0, v1), (0, v2), (0, v3), (1, v4), (9, 0), (9, 0), (9, 0)]) (st' := [(0, v1)]) (h' := (G, ρ, m)) hm rfl cjn ?_
  obtain ⟨q1, h1, e⟩ := bn_s e
  refine Ex_callm (z := 135) (na := 1) (ck := 0) (as := [(0, v1)]) (rest := []) (E0 := [(0, v1)]) (v := some (0, q1)) (h1 := (G, ρ, m)) hm rfl (by omega) ⟨Nat.le_of_ble_eq_true rfl, Nat.le_of_ble_eq_true rfl⟩ (trivial) rfl rfl ml_135 rfl (Nat.le_of_ble_eq_true rfl) (tf135 h1 (by omega)) ?_
  show Ex d 122 2 [(2, ((v0 : Nat) : Int)), (0, v1), (0, v2), (0, v3), (1, v4), (9, 0), (9, 0), (9, 0)] [(0, q1)] (G, ρ, m) rr
  by_cases c2 : q1 = 0
  · replace e := it_p e c2
    refine Ex_if1t (c := 0) (tgt := 9) hm rfl (bt0 c2) ?_
    refine Ex_run 1 (i' := 10) (L' := [(2, ((v0 : Nat) : Int)), (0, v1), (0, v2), (0, v3), (1, v4), (9, 0), (9, 0), (9, 0)]) (st' := [(0, (-2))]) (h' := (G, ρ, m)) hm rfl cjn ?_
    cases e
    cases hk
    exact Ex_ret (k := 1) hm rfl ⟨_, rfl, rfl⟩
  · replace e := it_n e c2
    refine Ex_if1f (c := 0) (tgt := 9) hm rfl (bf0 c2) ?_
    refine Ex_run 1 (i' := 4) (L' := [(2, ((v0 : Nat) : Int)), (0, v1), (0, v2), (0, v3), (1, v4), (9, 0), (9, 0), (9, 0)]) (st' := [(0, v2)]) (h' := (G, ρ, m)) hm rfl cjn ?_
    obtain ⟨q3, h3, e⟩ := bn_s e
    refine Ex_callm (z := 135) (na := 1) (ck := 0) (as := [(0, v2)]) (rest := []) (E0 := [(0, v2)]) (v := some (0, q3)) (h1 := (G, ρ, m)) hm rfl (by omega) ⟨Nat.le_of_ble_eq_true rfl, Nat.le_of_ble_eq_true rfl⟩ (trivial) rfl rfl ml_135 rfl (Nat.le_of_ble_eq_true rfl) (tf135 h3 (by omega)) ?_
    show Ex d 122 5 [(2, ((v0 : Nat) : Int)), (0, v1), (0, v2), (0, v3), (1, v4), (9, 0), (9, 0), (9, 0)] [(0, q3)] (G, ρ, m) rr
    by_cases c4 : q3 = 0
    · replace e := it_p e c4
      refine Ex_if1t (c := 0) (tgt := 9) hm rfl (bt0 c4) ?_
      refine Ex_run 1 (i' := 10) (L' := [(2, ((v0 : Nat) : Int)), (0, v1), (0, v2), (0, v3), (1, v4), (9, 0), (9, 0), (9, 0)]) (st' := [(0, (-2))]) (h' := (G, ρ, m)) hm rfl cjn ?_
      cases e
      cases hk
      exact Ex_ret (k := 1) hm rfl ⟨_, rfl, rfl⟩
    · replace e := it_n e c4
      refine Ex_if1f (c := 0) (tgt := 9) hm rfl (bf0 c4) ?_
      refine Ex_run 2 (i' := 8) (L' := [(2, ((v0 : Nat) : Int)), (0, v1), (0, v2), (0, v3), (1, v4), (9, 0), (9, 0), (9, 0)]) (st' := [(0, v2), (0, v1)]) (h' := (G, ρ, m)) hm rfl cjn ?_
      by_cases c5 : v1 = v2
      · replace e := it_p e c5
        refine Ex_if2f (c := 1) (tgt := 11) hm rfl (bf1 c5) ?_
        refine Ex_run 1 (i' := 10) (L' := [(2, ((v0 : Nat) : Int)), (0, v1), (0, v2), (0, v3), (1, v4), (9, 0), (9, 0), (9, 0)]) (st' := [(0, (-2))]) (h' := (G, ρ, m)) hm rfl cjn ?_
        cases e
        cases hk
        exact Ex_ret (k := 1) hm rfl ⟨_, rfl, rfl⟩
      · replace e := it_n e c5
        refine Ex_if2t (c := 1) (tgt := 11) hm rfl (bt1 c5) ?_
        refine Ex_run 1 (i' := 12) (L' := [(2, ((v0 : Nat) : Int)), (0, v1), (0, v2), (0, v3), (1, v4), (9, 0), (9, 0), (9, 0)]) (st' := [(0, v3)]) (h' := (G, ρ, m)) hm rfl cjn ?_
        by_cases c6 : v3 < 0
        · replace e := it_p e c6
          refine Ex_if1t (c := 2) (tgt := 19) hm rfl (bt2 c6) ?_
          refine Ex_run 1 (i' := 20) (L' := [(2, ((v0 : Nat) : Int)), (0, v1), (0, v2), (0, v3), (1, v4), (9, 0), (9, 0), (9, 0)]) (st' := [(0, (-2))]) (h' := (G, ρ, m)) hm rfl cjn ?_
          cases e
          cases hk
          exact Ex_ret (k := 1) hm rfl ⟨_, rfl, rfl⟩
        · replace e := it_n e c6
          refine Ex_if1f (c := 2) (tgt := 19) hm rfl (bf2 c6) ?_
          refine Ex_run 2 (i' := 15) (L' := [(2, ((v0 : Nat) : Int)), (0, v1), (0, v2), (0, v3), (1, v4), (9, 0), (9, 0), (9, 0)]) (st' := [(0, 9), (0, v3)]) (h' := (G, ρ, m)) hm rfl cjn ?_
          by_cases c7 : 9 < v3
          · replace e := it_p e c7
            refine Ex_if2t (c := 4) (tgt := 19) hm rfl (bt4 c7) ?_
            refine Ex_run 1 (i' := 20) (L' := [(2, ((v0 : Nat) : Int)), (0, v1), (0, v2), (0, v3), (1, v4), (9, 0), (9, 0), (9, 0)]) (st' := [(0, (-2))]) (h' := (G, ρ, m)) hm rfl cjn ?_
            cases e
            cases hk
            exact Ex_ret (k := 1) hm rfl ⟨_, rfl, rfl⟩
          · replace e := it_n e c7
            refine Ex_if2f (c := 4) (tgt := 19) hm rfl (bf4 c7) ?_
            refine Ex_run 1 (i' := 17) (L' := [(2, ((v0 : Nat) : Int)), (0, v1), (0, v2), (0, v3), (1, v4), (9, 0), (9, 0), (9, 0)]) (st' := [(1, v4)]) (h' := (G, ρ, m)) hm rfl cjn ?_
            obtain ⟨q8, h8, e⟩ := bn_s e
            refine Ex_callm (z := 132) (na := 1) (ck := 0) (as := [(1, v4)]) (rest := []) (E0 := [(1, v4), (9, 0)]) (v := some (0, q8)) (h1 := (G, ρ, m)) hm rfl (by omega) ⟨Nat.le_of_ble_eq_true rfl, Nat.le_of_ble_eq_true rfl⟩ (trivial) rfl rfl ml_132 rfl (Nat.le_of_ble_eq_true rfl) (tf132 h8 (by omega)) ?_
            show Ex d 122 18 [(2, ((v0 : Nat) : Int)), (0, v1), (0, v2), (0, v3), (1, v4), (9, 0), (9, 0), (9, 0)] [(0, q8)] (G, ρ, m) rr
            by_cases c9 : q8 = 0
            · replace e := it_p e c9
              refine Ex_if1f (c := 1) (tgt := 21) hm rfl (bf1 c9) ?_
              refine Ex_run 1 (i' := 20) (L' := [(2, ((v0 : Nat) : Int)), (0, v1), (0, v2), (0, v3), (1, v4), (9, 0), (9, 0), (9, 0)]) (st' := [(0, (-2))]) (h' := (G, ρ, m)) hm rfl cjn ?_
              cases e
              cases hk
              exact Ex_ret (k := 1) hm rfl ⟨_, rfl, rfl⟩
            · replace e := it_n e c9
              refine Ex_if1t (c := 1) (tgt := 21) hm rfl (bt1 c9) ?_
              obtain ⟨g10, e⟩ := gd_s e
              refine Ex_run 3 (i' := 24) (L' := [(2, ((v0 : Nat) : Int)), (0, v1), (0, v2), (0, v3), (1, v4), (9, 0), (9, 0), (9, 0)]) (st' := [(1, v4), (2, (((ρ v0 0) : Nat) : Int))]) (h' := (G, ρ, m)) hm rfl (cjc (gk_b g10) cjn) ?_
              obtain ⟨g11, e⟩ := gd_s e
              obtain ⟨q12, h12, e⟩ := bn_s e
              refine Ex_callm (z := 45) (na := 2) (ck := 7) (as := [(2, (((ρ v0 0) : Nat) : Int)), (1, v4)]) (rest := []) (E0 := [(2, (((ρ v0 0) : Nat) : Int)), (1, v4), (9, 0), (9, 0), (9, 0), (9, 0), (9, 0), (9, 0), (9, 0), (9, 0), (9, 0)]) (v := some (0, q12)) (h1 := (G, ρ, m)) hm rfl (by omega) ⟨Nat.le_of_ble_eq_true rfl, Nat.le_of_ble_eq_true rfl⟩ (rc2 rfl g11) rfl rfl ml_45 rfl (Nat.le_of_ble_eq_true rfl) (tf45 h12 (by omega)) ?_
              show Ex d 122 25 [(2, ((v0 : Nat) : Int)), (0, v1), (0, v2), (0, v3), (1, v4), (9, 0), (9, 0), (9, 0)] [(0, q12)] (G, ρ, m) rr
              refine Ex_run 2 (i' := 27) (L' := [(2, ((v0 : Nat) : Int)), (0, v1), (0, v2), (0, v3), (1, v4), (9, 0), (0, q12), (9, 0)]) (st' := [(0, q12)]) (h' := (G, ρ, m)) hm rfl (cjc (Nat.le_of_ble_eq_true rfl) cjn) ?_
              by_cases c13 : q12 < 0
              · replace e := it_p e c13
                refine Ex_if1f (c := 3) (tgt := 30) hm rfl (bf3 c13) ?_
                refine Ex_run 1 (i' := 29) (L' := [(2, ((v0 : Nat) : Int)), (0, v1), (0, v2), (0, v3), (1, v4), (9, 0), (0, q12), (9, 0)]) (st' := [(0, (-3))]) (h' := (G, ρ, m)) hm rfl cjn ?_
                cases e
                cases hk
                exact Ex_ret (k := 1) hm rfl ⟨_, rfl, rfl⟩
              · replace e := it_n e c13
                refine Ex_if1t (c := 3) (tgt := 30) hm rfl (bt3 c13) ?_
                refine Ex_run 2 (i' := 32) (L' := [(2, ((v0 : Nat) : Int)), (0, v1), (0, v2), (0, v3), (1, v4), (9, 0), (0, q12), (9, 0)]) (st' := [(0, 100), (0, q12)]) (h' := (G, ρ, m)) hm rfl cjn ?_
                by_cases c14 : q12 < 100
                · replace e := it_p e c14
                  refine Ex_if2f (c := 3) (tgt := 35) hm rfl (bf3 c14) ?_
                  refine Ex_run 1 (i' := 34) (L' := [(2, ((v0 : Nat) : Int)), (0, v1), (0, v2), (0, v3), (1, v4), (9, 0), (0, q12), (9, 0)]) (st' := [(0, 2)]) (h' := (G, ρ, m)) hm rfl cjn ?_
                  cases e
                  cases hk
                  exact Ex_ret (k := 1) hm rfl ⟨_, rfl, rfl⟩
                · replace e := it_n e c14
                  refine Ex_if2t (c := 3) (tgt := 35) hm rfl (bt3 c14) ?_
                  refine Ex_run 2 (i' := 37) (L' := [(2, ((v0 : Nat) : Int)), (0, v1), (0, v2), (0, v3), (1, v4), (9, 0), (0, q12), (9, 0)]) (st' := [(0, 100), (0, q12)]) (h' := (G, ρ, m)) hm rfl cjn ?_
                  by_cases c15 : q12 = 100
                  · replace e := it_p e c15
                    refine Ex_if2f (c := 1) (tgt := 40) hm rfl (bf1 c15) ?_
                    refine Ex_run 2 (i' := 41) (L' := [(2, ((v0 : Nat) : Int)), (0, v1), (0, v2), (0, v3), (1, v4), (9, 0), (0, q12), (9, 0)]) (st' := [(0, 1)]) (h' := (G, ρ, m)) hm rfl cjn ?_
                    exact tf122_41 e hd rr hk _ _
                  · replace e := it_n e c15
                    refine Ex_if2t (c := 1) (tgt := 40) hm rfl (bt1 c15) ?_
                    refine Ex_run 1 (i' := 41) (L' := [(2, ((v0 : Nat) : Int)), (0, v1), (0, v2), (0, v3), (1, v4), (9, 0), (0, q12), (9, 0)]) (st' := [(0, 0)]) (h' := (G, ρ, m)) hm rfl cjn ?_
                    exact tf122_41 e hd rr hk _ _
