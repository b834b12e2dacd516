theorem tf31 {G : Gg} {ρ : Rg} {rc : Nat → Nat → Int → Sg → Option (Int × Sg)} {d : Nat} {v0 : Nat} {v1 : Int} {m : Sg} {x : Int × Sg} (e : f31 G ρ rc v0 v1 m = some x) (hd : 3 ≤ d) (hr : RHX G ρ rc d) : Ex d 31 0 [(2, ((v0 : Nat) : Int)), (0, v1), (9, 0), (9, 0)] [] (G, ρ, m) (some (0, x.1), (G, ρ, x.2)) := by
  unfold f31 at e
  have hm := mi_31
  generalize hk : (some (0, x.1), (G, ρ, x.2)) = rr
  replace hk : (Bi G ρ) x rr := hk.symm
  obtain ⟨g1, e⟩ := gd_s e
  refine Ex_run 4 (i' := 4) (L' := [(2, ((v0 : Nat) : Int)), (0, v1), (9, 0), (9, 0)]) (st' := [(0, (m v0 5)), (2, (((ρ v0 2) : Nat) : Int))]) (h' := (G, ρ, m)) hm rfl (cjc (gk_b g1) (cjc (gk_b g1) cjn)) ?_
  obtain ⟨g2, e⟩ := gd_s e
  obtain ⟨q3, h3, e⟩ := bn_s e
  refine Ex_callm (z := 33) (na := 2) (ck := 6) (as := [(2, (((ρ v0 2) : Nat) : Int)), (0, (m v0 5))]) (rest := []) (E0 := [(2, (((ρ v0 2) : Nat) : Int)), (0, (m v0 5))]) (v := some (0, q3)) (h1 := (G, ρ, m)) hm rfl (by omega) ⟨Nat.le_of_ble_eq_true rfl, Nat.le_of_ble_eq_true rfl⟩ (rc2 rfl g2) rfl rfl ml_33 rfl (Nat.le_of_ble_eq_true rfl) (tf33 h3 (by omega)) ?_
  show Ex d 31 5 [(2, ((v0 : Nat) : Int)), (0, v1), (9, 0), (9, 0)] [(0, q3)] (G, ρ, m) rr
  refine Ex_run 3 (i' := 8) (L' := [(2, ((v0 : Nat) : Int)), (0, v1), (0, q3), (9, 0)]) (st' := [(0, 8), (0, q3)]) (h' := (G, ρ, m)) hm rfl (cjc (Nat.le_of_ble_eq_true rfl) cjn) ?_
  by_cases c4 : q3 < 8
  · replace e := it_p e c4
    refine Ex_if2t (c := 2) (tgt := 14) hm rfl (bt2 c4) ?_
    refine Ex_run 1 (i' := 15) (L' := [(2, ((v0 : Nat) : Int)), (0, v1), (0, q3), (9, 0)]) (st' := [(0, 0)]) (h' := (G, ρ, m)) hm rfl cjn ?_
    exact tf31_15 e hd hr rr hk
  · replace e := it_n e c4
    refine Ex_if2f (c := 2) (tgt := 14) hm rfl (bf2 c4) ?_
    refine Ex_run 2 (i' := 11) (L' := [(2, ((v0 : Nat) : Int)), (0, v1), (0, q3), (9, 0)]) (st' := [(0, 14), (0, q3)]) (h' := (G, ρ, m)) hm rfl cjn ?_
    by_cases c27 : q3 < 14
    · replace e := it_p e c27
      refine Ex_if2f (c := 3) (tgt := 14) hm rfl (bf3 c27) ?_
      refine Ex_run 2 (i' := 15) (L' := [(2, ((v0 : Nat) : Int)), (0, v1), (0, q3), (9, 0)]) (st' := [(0, 1)]) (h' := (G, ρ, m)) hm rfl cjn ?_
      exact tf31_15 e hd hr rr hk
    · replace e := it_n e c27
      refine Ex_if2t (c := 3) (tgt := 14) hm rfl (bt3 c27) ?_
      refine Ex_run 1 (i' := 15) (L' := [(2, ((v0 : Nat) : Int)), (0, v1), (0, q3), (9, 0)]) (st' := [(0, 0)]) (h' := (G, ρ, m)) hm rfl cjn ?_
      exact tf31_15 e hd hr rr hk
theorem tf30_b8 {G : Gg} {ρ : Rg} {rc : Nat → Nat → Int → Sg → Option (Int × Sg)} {d : Nat} {v0 : Nat} {v1 : Int} {s : Int × Sg} {x : (Int × Sg) ⊕ (Int × Sg)} (e : f30_b8 G ρ rc v0 v1 s = some x) (hd : 3 ≤ d) (hr : RHX G ρ rc d) (rr : Option MV × Mh) (hk : (DS (e30_8 G ρ d v0 v1) (Bi G ρ)) x rr) : e30_8 G ρ d v0 v1 s rr := by
  unfold f30_b8 at e
  have hm := mi_30
  show Ex d 30 8 [(2, ((v0 : Nat) : Int)), (0, v1), (0, s.1)] [] (G, ρ, s.2) rr
  refine Ex_run 2 (i' := 10) (L' := [(2, ((v0 : Nat) : Int)), (0, v1), (0, s.1)]) (st' := [(0, 160), (0, s.1)]) (h' := (G, ρ, s.2)) hm rfl cjn ?_
  by_cases c4 : s.1 < 160
  · replace e := it_p e c4
    refine Ex_if2f (c := 3) (tgt := 26) hm rfl (bf3 c4) ?_
    refine Ex_run 2 (i' := 13) (L' := [(2, ((v0 : Nat) : Int)), (0, v1), (0, s.1)]) (st' := [(0, 42), (2, ((v0 : Nat) : Int))]) (h' := (G, ρ, s.2)) hm rfl cjn ?_
    obtain ⟨g5, e⟩ := gd_s e
    obtain ⟨q6, h6, e⟩ := bn_s e
    refine Ex_callm (z := 22) (na := 2) (ck := 5) (as := [(2, ((v0 : Nat) : Int)), (0, 42)]) (rest := []) (E0 := [(2, ((v0 : Nat) : Int)), (0, 42)]) (v := some (0, q6.1)) (h1 := (G, ρ, q6.2)) hm rfl (by omega) ⟨Nat.le_of_ble_eq_true rfl, Nat.le_of_ble_eq_true rfl⟩ (rc2 rfl g5) rfl rfl ml_22 rfl (Nat.le_of_ble_eq_true rfl) (tf22 h6 (by omega)) ?_
    show Ex d 30 14 [(2, ((v0 : Nat) : Int)), (0, v1), (0, s.1)] [(0, q6.1)] (G, ρ, q6.2) rr
    by_cases c7 : q6.1 = 0
    · replace e := it_p e c7
      refine Ex_if1t (c := 0) (tgt := 26) hm rfl (bt0 c7) ?_
      obtain ⟨x, e, hx⟩ := xr_s e
      replace hk : (Bi G ρ) x rr := by rw [hx] at hk; exact hk
      refine Ex_run 1 (i' := 27) (L' := [(2, ((v0 : Nat) : Int)), (0, v1), (0, s.1)]) (st' := [(0, 1)]) (h' := (G, ρ, q6.2)) hm rfl cjn ?_
      cases e
      cases hk
      exact Ex_ret (k := 2) hm rfl ⟨_, rfl, by decide, rfl⟩
    · replace e := it_n e c7
      refine Ex_if1f (c := 0) (tgt := 26) hm rfl (bf0 c7) ?_
      refine Ex_run 2 (i' := 17) (L' := [(2, ((v0 : Nat) : Int)), (0, v1), (0, s.1)]) (st' := [(0, v1), (2, ((v0 : Nat) : Int))]) (h' := (G, ρ, q6.2)) hm rfl cjn ?_
      obtain ⟨q8, h8, e⟩ := bn_s e
      refine Ex_callm (z := 31) (na := 2) (ck := 5) (as := [(2, ((v0 : Nat) : Int)), (0, v1)]) (rest := []) (E0 := [(2, ((v0 : Nat) : Int)), (0, v1), (9, 0), (9, 0)]) (v := some (0, q8.1)) (h1 := (G, ρ, q8.2)) hm rfl (by omega) ⟨Nat.le_of_ble_eq_true rfl, Nat.le_of_ble_eq_true rfl⟩ (rc2 rfl g5) rfl rfl ml_31 rfl (Nat.le_of_ble_eq_true rfl) (hr _ _ _ _ _ h8) ?_
      show Ex d 30 18 [(2, ((v0 : Nat) : Int)), (0, v1), (0, s.1)] [(0, q8.1)] (G, ρ, q8.2) rr
      by_cases c9 : q8.1 = 0
      · replace e := it_p e c9
        refine Ex_if1f (c := 1) (tgt := 21) hm rfl (bf1 c9) ?_
        obtain ⟨x, e, hx⟩ := xr_s e
        replace hk : (Bi G ρ) x rr := by rw [hx] at hk; exact hk
        refine Ex_run 1 (i' := 20) (L' := [(2, ((v0 : Nat) : Int)), (0, v1), (0, s.1)]) (st' := [(0, 0)]) (h' := (G, ρ, q8.2)) hm rfl cjn ?_
        cases e
        cases hk
        exact Ex_ret (k := 2) hm rfl ⟨_, rfl, by decide, rfl⟩
      · replace e := it_n e c9
        refine Ex_if1t (c := 1) (tgt := 21) hm rfl (bt1 c9) ?_
        refine Ex_run 2 (i' := 23) (L' := [(2, ((v0 : Nat) : Int)), (0, v1), (0, s.1)]) (st' := [(0, (-18)), (2, ((v0 : Nat) : Int))]) (h' := (G, ρ, q8.2)) hm rfl cjn ?_
        obtain ⟨q10, h10, e⟩ := bn_s e
        refine Ex_callm (z := 23) (na := 2) (ck := 5) (as := [(2, ((v0 : Nat) : Int)), (0, (-18))]) (rest := []) (E0 := [(2, ((v0 : Nat) : Int)), (0, (-18))]) (v := none) (h1 := (G, ρ, q10)) hm rfl (by omega) ⟨Nat.le_of_ble_eq_true rfl, Nat.le_of_ble_eq_true rfl⟩ (rc2 rfl g5) rfl rfl ml_23 rfl (Nat.le_of_ble_eq_true rfl) (tf23 h10 (by omega)) ?_
        show Ex d 30 24 [(2, ((v0 : Nat) : Int)), (0, v1), (0, s.1)] [] (G, ρ, q10) rr
        refine Ex_run 2 (i' := 8) (L' := [(2, ((v0 : Nat) : Int)), (0, v1), (0, (w32 (s.1 + 1)))]) (st' := []) (h' := (G, ρ, q10)) hm rfl cjn ?_
        cases e
        exact hk
  · replace e := it_n e c4
    refine Ex_if2t (c := 3) (tgt := 26) hm rfl (bt3 c4) ?_
    obtain ⟨x, e, hx⟩ := xr_s e
    replace hk : (Bi G ρ) x rr := by rw [hx] at hk; exact hk
    refine Ex_run 1 (i' := 27) (L' := [(2, ((v0 : Nat) : Int)), (0, v1), (0, s.1)]) (st' := [(0, 1)]) (h' := (G, ρ, s.2)) hm rfl cjn ?_
    cases e
    cases hk
    exact Ex_ret (k := 2) hm rfl ⟨_, rfl, by decide, rfl⟩
theorem tf30 {G : Gg} {ρ : Rg} {rc : Nat → Nat → Int → Sg → Option (Int × Sg)} {d : Nat} {v0 : Nat} {v1 : Int} {m : Sg} {x : Int × Sg} (e : f30 G ρ rc v0 v1 m = some x) (hd : 3 ≤ d) (hr : RHX G ρ rc d) : Ex d 30 0 [(2, ((v0 : Nat) : Int)), (0, v1), (9, 0)] [] (G, ρ, m) (some (0, x.1), (G, ρ, x.2)) := by
  unfold f30 at e
  have hm := mi_30
  generalize hk : (some (0, x.1), (G, ρ, x.2)) = rr
  replace hk : (Bi G ρ) x rr := hk.symm
  refine Ex_run 2 (i' := 2) (L' := [(2, ((v0 : Nat) : Int)), (0, v1), (9, 0)]) (st' := [(0, v1), (2, ((v0 : Nat) : Int))]) (h' := (G, ρ, m)) hm rfl cjn ?_
  obtain ⟨g1, e⟩ := gd_s e
  obtain ⟨q2, h2, e⟩ := bn_s e
  refine Ex_callm (z := 31) (na := 2) (ck := 5) (as := [(2, ((v0 : Nat) : Int)), (0, v1)]) (rest := []) (E0 := [(2, ((v0 : Nat) : Int)), (0, v1), (9, 0), (9, 0)]) (v := some (0, q2.1)) (h1 := (G, ρ, q2.2)) hm rfl (by omega) ⟨Nat.le_of_ble_eq_true rfl, Nat.le_of_ble_eq_true rfl⟩ (rc2 rfl g1) rfl rfl ml_31 rfl (Nat.le_of_ble_eq_true rfl) (hr _ _ _ _ _ h2) ?_
  show Ex d 30 3 [(2, ((v0 : Nat) : Int)), (0, v1), (9, 0)] [(0, q2.1)] (G, ρ, q2.2) rr
  by_cases c3 : q2.1 = 0
  · replace e := it_p e c3
    refine Ex_if1f (c := 1) (tgt := 6) hm rfl (bf1 c3) ?_
    refine Ex_run 1 (i' := 5) (L' := [(2, ((v0 : Nat) : Int)), (0, v1), (9, 0)]) (st' := [(0, 0)]) (h' := (G, ρ, q2.2)) hm rfl cjn ?_
    cases e
    cases hk
    exact Ex_ret (k := 2) hm rfl ⟨_, rfl, by decide, rfl⟩
  · replace e := it_n e c3
    refine Ex_if1t (c := 1) (tgt := 6) hm rfl (bt1 c3) ?_
    refine Ex_run 2 (i' := 8) (L' := [(2, ((v0 : Nat) : Int)), (0, v1), (0, 0)]) (st' := []) (h' := (G, ρ, q2.2)) hm rfl (cjc (Nat.le_of_ble_eq_true rfl) cjn) ?_
    exact (Ex_lp (A := e30_8 G ρ d v0 v1 ) (B := (Bi G ρ)) (fun s x e rr hk => tf30_b8 e hd hr rr hk) FU _ _ e rr hk)
theorem tf29_26 {G : Gg} {ρ : Rg} {rc : Nat → Nat → Int → Sg → Option (Int × Sg)} {d : Nat} {v0 : Nat} {v1 : Int} {v2 : Int} {w0 : Int} {m : Sg} {x : (Int × Sg) ⊕ (Int × Sg)} (e : f29_26 G ρ rc v0 v1 v2 w0 m = some x) (hd : 3 ≤ d) (hr : RHX G ρ rc d) (rr : Option MV × Mh) (hk : (DS (e29_8 G ρ d v0 v1) (Bi G ρ)) x rr) (j3 : MV) : Ex d 29 26 [(2, ((v0 : Nat) : Int)), (0, v1), (0, v2), j3] [(0, w0)] (G, ρ, m) rr := by
  unfold f29_26 at e
  have hm := mi_29
  obtain ⟨g13, e⟩ := gd_s e
  refine Ex_run 9 (i' := 35) (L' := [(2, ((v0 : Nat) : Int)), (0, v1), (0, v2), (0, w0)]) (st' := [(0, v1), (2, ((v0 : Nat) : Int))]) (h' := (G, ρ, (put m v0 5 (g_add (m v0 5) 1)))) hm rfl (cjc (Nat.le_of_ble_eq_true rfl) (cjc (gk_b g13) (cjc (gk_b g13) cjn))) ?_
  obtain ⟨q14, h14, e⟩ := bn_s e
  refine Ex_callm (z := 30) (na := 2) (ck := 5) (as := [(2, ((v0 : Nat) : Int)), (0, v1)]) (rest := []) (E0 := [(2, ((v0 : Nat) : Int)), (0, v1), (9, 0)]) (v := some (0, q14.1)) (h1 := (G, ρ, q14.2)) hm rfl (by omega) ⟨Nat.le_of_ble_eq_true rfl, Nat.le_of_ble_eq_true rfl⟩ (rc2 rfl g13) rfl rfl ml_30 rfl (Nat.le_of_ble_eq_true rfl) (hr _ _ _ _ _ h14) ?_
  show Ex d 29 36 [(2, ((v0 : Nat) : Int)), (0, v1), (0, v2), (0, w0)] [(0, q14.1)] (G, ρ, q14.2) rr
  by_cases c15 : q14.1 = 0
  · replace e := it_p e c15
    refine Ex_if1f (c := 1) (tgt := 39) hm rfl (bf1 c15) ?_
    obtain ⟨x, e, hx⟩ := xr_s e
    replace hk : (Bi G ρ) x rr := by rw [hx] at hk; exact hk
    refine Ex_run 1 (i' := 38) (L' := [(2, ((v0 : Nat) : Int)), (0, v1), (0, v2), (0, w0)]) (st' := [(0, 0)]) (h' := (G, ρ, q14.2)) hm rfl cjn ?_
    cases e
    cases hk
    exact Ex_ret (k := 2) hm rfl ⟨_, rfl, by decide, rfl⟩
  · replace e := it_n e c15
    refine Ex_if1t (c := 1) (tgt := 39) hm rfl (bt1 c15) ?_
    refine Ex_run 2 (i' := 41) (L' := [(2, ((v0 : Nat) : Int)), (0, v1), (0, v2), (0, w0)]) (st' := [(0, w0), (2, ((v0 : Nat) : Int))]) (h' := (G, ρ, q14.2)) hm rfl cjn ?_
    obtain ⟨q16, h16, e⟩ := bn_s e
    refine Ex_callm (z := 23) (na := 2) (ck := 5) (as := [(2, ((v0 : Nat) : Int)), (0, w0)]) (rest := []) (E0 := [(2, ((v0 : Nat) : Int)), (0, w0)]) (v := none) (h1 := (G, ρ, q16)) hm rfl (by omega) ⟨Nat.le_of_ble_eq_true rfl, Nat.le_of_ble_eq_true rfl⟩ (rc2 rfl g13) rfl rfl ml_23 rfl (Nat.le_of_ble_eq_true rfl) (tf23 h16 (by omega)) ?_
    show Ex d 29 42 [(2, ((v0 : Nat) : Int)), (0, v1), (0, v2), (0, w0)] [] (G, ρ, q16) rr
    refine Ex_run 2 (i' := 8) (L' := [(2, ((v0 : Nat) : Int)), (0, v1), (0, (w32 (v2 + 1))), (0, w0)]) (st' := []) (h' := (G, ρ, q16)) hm rfl cjn ?_
    cases e
    exact hk _
theorem tf29_19 {G : Gg} {ρ : Rg} {rc : Nat → Nat → Int → Sg → Option (Int × Sg)} {d : Nat} {v0 : Nat} {v1 : Int} {v2 : Int} {m : Sg} {x : (Int × Sg) ⊕ (Int × Sg)} (e : f29_19 G ρ rc v0 v1 v2 m = some x) (hd : 3 ≤ d) (hr : RHX G ρ rc d) (rr : Option MV × Mh) (hk : (DS (e29_8 G ρ d v0 v1) (Bi G ρ)) x rr) (j3 : MV) : Ex d 29 19 [(2, ((v0 : Nat) : Int)), (0, v1), (0, v2), j3] [] (G, ρ, m) rr := by
  unfold f29_19 at e
  have hm := mi_29
  refine Ex_run 2 (i' := 21) (L' := [(2, ((v0 : Nat) : Int)), (0, v1), (0, v2), j3]) (st' := [(0, 43), (2, ((v0 : Nat) : Int))]) (h' := (G, ρ, m)) hm rfl cjn ?_
  obtain ⟨g10, e⟩ := gd_s e
  obtain ⟨q11, h11, e⟩ := bn_s e
  refine Ex_callm (z := 21) (na := 2) (ck := 5) (as := [(2, ((v0 : Nat) : Int)), (0, 43)]) (rest := []) (E0 := [(2, ((v0 : Nat) : Int)), (0, 43)]) (v := some (0, q11)) (h1 := (G, ρ, m)) hm rfl (by omega) ⟨Nat.le_of_ble_eq_true rfl, Nat.le_of_ble_eq_true rfl⟩ (rc2 rfl g10) rfl rfl ml_21 rfl (Nat.le_of_ble_eq_true rfl) (tf21 h11 (by omega)) ?_
  show Ex d 29 22 [(2, ((v0 : Nat) : Int)), (0, v1), (0, v2), j3] [(0, q11)] (G, ρ, m) rr
  by_cases c12 : q11 = 0
  · replace e := it_p e c12
    refine Ex_if1t (c := 0) (tgt := 25) hm rfl (bt0 c12) ?_
    refine Ex_run 1 (i' := 26) (L' := [(2, ((v0 : Nat) : Int)), (0, v1), (0, v2), j3]) (st' := [(0, (-17))]) (h' := (G, ρ, m)) hm rfl cjn ?_
    exact tf29_26 e hd hr rr hk _
  · replace e := it_n e c12
    refine Ex_if1f (c := 0) (tgt := 25) hm rfl (bf0 c12) ?_
    refine Ex_run 2 (i' := 26) (L' := [(2, ((v0 : Nat) : Int)), (0, v1), (0, v2), j3]) (st' := [(0, (-16))]) (h' := (G, ρ, m)) hm rfl cjn ?_
    exact tf29_26 e hd hr rr hk _
theorem tf29_b8 {G : Gg} {ρ : Rg} {rc : Nat → Nat → Int → Sg → Option (Int × Sg)} {d : Nat} {v0 : Nat} {v1 : Int} {s : Int × Sg} {x : (Int × Sg) ⊕ (Int × Sg)} (e : f29_b8 G ρ rc v0 v1 s = some x) (hd : 3 ≤ d) (hr : RHX G ρ rc d) (rr : Option MV × Mh) (hk : (DS (e29_8 G ρ d v0 v1) (Bi G ρ)) x rr) : e29_8 G ρ d v0 v1 s rr := by
  unfold f29_b8 at e
  have hm := mi_29
  show ∀ (j3 : MV), Ex d 29 8 [(2, ((v0 : Nat) : Int)), (0, v1), (0, s.1), j3] [] (G, ρ, s.2) rr
  intro j3
  refine Ex_run 2 (i' := 10) (L' := [(2, ((v0 : Nat) : Int)), (0, v1), (0, s.1), j3]) (st' := [(0, 160), (0, s.1)]) (h' := (G, ρ, s.2)) hm rfl cjn ?_
  by_cases c4 : s.1 < 160
  · replace e := it_p e c4
    refine Ex_if2f (c := 3) (tgt := 44) hm rfl (bf3 c4) ?_
    refine Ex_run 2 (i' := 13) (L' := [(2, ((v0 : Nat) : Int)), (0, v1), (0, s.1), j3]) (st' := [(0, 43), (2, ((v0 : Nat) : Int))]) (h' := (G, ρ, s.2)) hm rfl cjn ?_
    obtain ⟨g5, e⟩ := gd_s e
    obtain ⟨q6, h6, e⟩ := bn_s e
    refine Ex_callm (z := 21) (na := 2) (ck := 5) (as := [(2, ((v0 : Nat) : Int)), (0, 43)]) (rest := []) (E0 := [(2, ((v0 : Nat) : Int)), (0, 43)]) (v := some (0, q6)) (h1 := (G, ρ, s.2)) hm rfl (by omega) ⟨Nat.le_of_ble_eq_true rfl, Nat.le_of_ble_eq_true rfl⟩ (rc2 rfl g5) rfl rfl ml_21 rfl (Nat.le_of_ble_eq_true rfl) (tf21 h6 (by omega)) ?_
    show Ex d 29 14 [(2, ((v0 : Nat) : Int)), (0, v1), (0, s.1), j3] [(0, q6)] (G, ρ, s.2) rr
    by_cases c7 : q6 = 0
    · replace e := it_p e c7
      refine Ex_if1f (c := 1) (tgt := 19) hm rfl (bf1 c7) ?_
      refine Ex_run 2 (i' := 17) (L' := [(2, ((v0 : Nat) : Int)), (0, v1), (0, s.1), j3]) (st' := [(0, 45), (2, ((v0 : Nat) : Int))]) (h' := (G, ρ, s.2)) hm rfl cjn ?_
      obtain ⟨q8, h8, e⟩ := bn_s e
      refine Ex_callm (z := 21) (na := 2) (ck := 5) (as := [(2, ((v0 : Nat) : Int)), (0, 45)]) (rest := []) (E0 := [(2, ((v0 : Nat) : Int)), (0, 45)]) (v := some (0, q8)) (h1 := (G, ρ, s.2)) hm rfl (by omega) ⟨Nat.le_of_ble_eq_true rfl, Nat.le_of_ble_eq_true rfl⟩ (rc2 rfl g5) rfl rfl ml_21 rfl (Nat.le_of_ble_eq_true rfl) (tf21 h8 (by omega)) ?_
      show Ex d 29 18 [(2, ((v0 : Nat) : Int)), (0, v1), (0, s.1), j3] [(0, q8)] (G, ρ, s.2) rr
      by_cases c9 : q8 = 0
      · replace e := it_p e c9
        refine Ex_if1t (c := 0) (tgt := 44) hm rfl (bt0 c9) ?_
        obtain ⟨x, e, hx⟩ := xr_s e
        replace hk : (Bi G ρ) x rr := by rw [hx] at hk; exact hk
        refine Ex_run 1 (i' := 45) (L' := [(2, ((v0 : Nat) : Int)), (0, v1), (0, s.1), j3]) (st' := [(0, 1)]) (h' := (G, ρ, s.2)) hm rfl cjn ?_
        cases e
        cases hk
        exact Ex_ret (k := 2) hm rfl ⟨_, rfl, by decide, rfl⟩
      · replace e := it_n e c9
        refine Ex_if1f (c := 0) (tgt := 44) hm rfl (bf0 c9) ?_
        exact tf29_19 e hd hr rr hk _
    · replace e := it_n e c7
      refine Ex_if1t (c := 1) (tgt := 19) hm rfl (bt1 c7) ?_
      exact tf29_19 e hd hr rr hk _
  · replace e := it_n e c4
    refine Ex_if2t (c := 3) (tgt := 44) hm rfl (bt3 c4) ?_
    obtain ⟨x, e, hx⟩ := xr_s e
    replace hk : (Bi G ρ) x rr := by rw [hx] at hk; exact hk
    refine Ex_run 1 (i' := 45) (L' := [(2, ((v0 : Nat) : Int)), (0, v1), (0, s.1), j3]) (st' := [(0, 1)]) (h' := (G, ρ, s.2)) hm rfl cjn ?_
    cases e
    cases hk
    exact Ex_ret (k := 2) hm rfl ⟨_, rfl, by decide, rfl⟩
theorem tf29 {G : Gg} {ρ : Rg} {rc : Nat → Nat → Int → Sg → Option (Int × Sg)} {d : Nat} {v0 : Nat} {v1 : Int} {m : Sg} {x : Int × Sg} (e : f29 G ρ rc v0 v1 m = some x) (hd : 3 ≤ d) (hr : RHX G ρ rc d) : Ex d 29 0 [(2, ((v0 : Nat) : Int)), (0, v1), (9, 0), (9, 0)] [] (G, ρ, m) (some (0, x.1), (G, ρ, x.2)) := by
  unfold f29 at e
  have hm := mi_29
  generalize hk : (some (0, x.1), (G, ρ, x.2)) = rr
  replace hk : (Bi G ρ) x rr := hk.symm
  refine Ex_run 2 (i' := 2) (L' := [(2, ((v0 : Nat) : Int)), (0, v1), (9, 0), (9, 0)]) (st' := [(0, v1), (2, ((v0 : Nat) : Int))]) (h' := (G, ρ, m)) hm rfl cjn ?_
  obtain ⟨g1, e⟩ := gd_s e
  obtain ⟨q2, h2, e⟩ := bn_s e
  refine Ex_callm (z := 30) (na := 2) (ck := 5) (as := [(2, ((v0 : Nat) : Int)), (0, v1)]) (rest := []) (E0 := [(2, ((v0 : Nat) : Int)), (0, v1), (9, 0)]) (v := some (0, q2.1)) (h1 := (G, ρ, q2.2)) hm rfl (by omega) ⟨Nat.le_of_ble_eq_true rfl, Nat.le_of_ble_eq_true rfl⟩ (rc2 rfl g1) rfl rfl ml_30 rfl (Nat.le_of_ble_eq_true rfl) (hr _ _ _ _ _ h2) ?_
  show Ex d 29 3 [(2, ((v0 : Nat) : Int)), (0, v1), (9, 0), (9, 0)] [(0, q2.1)] (G, ρ, q2.2) rr
  by_cases c3 : q2.1 = 0
  · replace e := it_p e c3
    refine Ex_if1f (c := 1) (tgt := 6) hm rfl (bf1 c3) ?_
    refine Ex_run 1 (i' := 5) (L' := [(2, ((v0 : Nat) : Int)), (0, v1), (9, 0), (9, 0)]) (st' := [(0, 0)]) (h' := (G, ρ, q2.2)) hm rfl cjn ?_
    cases e
    cases hk
    exact Ex_ret (k := 2) hm rfl ⟨_, rfl, by decide, rfl⟩
  · replace e := it_n e c3
    refine Ex_if1t (c := 1) (tgt := 6) hm rfl (bt1 c3) ?_
    refine Ex_run 2 (i' := 8) (L' := [(2, ((v0 : Nat) : Int)), (0, v1), (0, 0), (9, 0)]) (st' := []) (h' := (G, ρ, q2.2)) hm rfl (cjc (Nat.le_of_ble_eq_true rfl) cjn) ?_
    exact (Ex_lp (A := e29_8 G ρ d v0 v1 ) (B := (Bi G ρ)) (fun s x e rr hk => tf29_b8 e hd hr rr hk) FU _ _ e rr hk) _
theorem tf28_36 {G : Gg} {ρ : Rg} {rc : Nat → Nat → Int → Sg → Option (Int × Sg)} {d : Nat} {w0 : Int} {w1 : Nat} {m : Sg} {x : Int × Sg} (e : f28_36 G ρ rc w0 w1 m = some x) (hd : 3 ≤ d) (hr : RHX G ρ rc d) (rr : Option MV × Mh) (hk : (Bi G ρ) x rr) (j0 : Nat) (j1 : Int) (j2 : Int) : Ex d 28 36 [(2, ((j0 : Nat) : Int)), (0, j1), (0, j2)] [(0, w0), (2, ((w1 : Nat) : Int))] (G, ρ, m) rr := by
  unfold f28_36 at e
  have hm := mi_28
  obtain ⟨g12, e⟩ := gd_s e
  obtain ⟨q13, h13, e⟩ := bn_s e
  refine Ex_callm (z := 23) (na := 2) (ck := 5) (as := [(2, ((w1 : Nat) : Int)), (0, w0)]) (rest := []) (E0 := [(2, ((w1 : Nat) : Int)), (0, w0)]) (v := none) (h1 := (G, ρ, q13)) hm rfl (by omega) ⟨Nat.le_of_ble_eq_true rfl, Nat.le_of_ble_eq_true rfl⟩ (rc2 rfl g12) rfl rfl ml_23 rfl (Nat.le_of_ble_eq_true rfl) (tf23 h13 (by omega)) ?_
  show Ex d 28 37 [(2, ((j0 : Nat) : Int)), (0, j1), (0, j2)] [] (G, ρ, q13) rr
  refine Ex_run 1 (i' := 38) (L' := [(2, ((j0 : Nat) : Int)), (0, j1), (0, j2)]) (st' := [(0, 1)]) (h' := (G, ρ, q13)) hm rfl cjn ?_
  cases e
  cases hk
  exact Ex_ret (k := 2) hm rfl ⟨_, rfl, by decide, rfl⟩
theorem tf28_18 {G : Gg} {ρ : Rg} {rc : Nat → Nat → Int → Sg → Option (Int × Sg)} {d : Nat} {v0 : Nat} {v1 : Int} {v2 : Int} {m : Sg} {x : Int × Sg} (e : f28_18 G ρ rc v0 v1 v2 m = some x) (hd : 3 ≤ d) (hr : RHX G ρ rc d) (rr : Option MV × Mh) (hk : (Bi G ρ) x rr) : Ex d 28 18 [(2, ((v0 : Nat) : Int)), (0, v1), (0, v2)] [] (G, ρ, m) rr := by
  unfold f28_18 at e
  have hm := mi_28
  obtain ⟨g8, e⟩ := gd_s e
  refine Ex_run 8 (i' := 26) (L' := [(2, ((v0 : Nat) : Int)), (0, v1), (0, v2)]) (st' := [(0, v1), (2, ((v0 : Nat) : Int))]) (h' := (G, ρ, (put m v0 5 (g_add (m v0 5) 1)))) hm rfl (cjc (gk_b g8) (cjc (gk_b g8) cjn)) ?_
  obtain ⟨q9, h9, e⟩ := bn_s e
  refine Ex_callm (z := 29) (na := 2) (ck := 5) (as := [(2, ((v0 : Nat) : Int)), (0, v1)]) (rest := []) (E0 := [(2, ((v0 : Nat) : Int)), (0, v1), (9, 0), (9, 0)]) (v := some (0, q9.1)) (h1 := (G, ρ, q9.2)) hm rfl (by omega) ⟨Nat.le_of_ble_eq_true rfl, Nat.le_of_ble_eq_true rfl⟩ (rc2 rfl g8) rfl rfl ml_29 rfl (Nat.le_of_ble_eq_true rfl) (hr _ _ _ _ _ h9) ?_
  show Ex d 28 27 [(2, ((v0 : Nat) : Int)), (0, v1), (0, v2)] [(0, q9.1)] (G, ρ, q9.2) rr
  by_cases c10 : q9.1 = 0
  · replace e := it_p e c10
    refine Ex_if1f (c := 1) (tgt := 30) hm rfl (bf1 c10) ?_
    refine Ex_run 1 (i' := 29) (L' := [(2, ((v0 : Nat) : Int)), (0, v1), (0, v2)]) (st' := [(0, 0)]) (h' := (G, ρ, q9.2)) hm rfl cjn ?_
    cases e
    cases hk
    exact Ex_ret (k := 2) hm rfl ⟨_, rfl, by decide, rfl⟩
  · replace e := it_n e c10
    refine Ex_if1t (c := 1) (tgt := 30) hm rfl (bt1 c10) ?_
    refine Ex_run 2 (i' := 32) (L' := [(2, ((v0 : Nat) : Int)), (0, v1), (0, v2)]) (st' := [(0, v2), (2, ((v0 : Nat) : Int))]) (h' := (G, ρ, q9.2)) hm rfl cjn ?_
    by_cases c11 : v2 = 0
    · replace e := it_p e c11
      refine Ex_if1t (c := 0) (tgt := 35) hm rfl (bt0 c11) ?_
      refine Ex_run 1 (i' := 36) (L' := [(2, ((v0 : Nat) : Int)), (0, v1), (0, v2)]) (st' := [(0, (-15)), (2, ((v0 : Nat) : Int))]) (h' := (G, ρ, q9.2)) hm rfl cjn ?_
      exact tf28_36 e hd hr rr hk _ _ _
    · replace e := it_n e c11
      refine Ex_if1f (c := 0) (tgt := 35) hm rfl (bf0 c11) ?_
      refine Ex_run 2 (i' := 36) (L' := [(2, ((v0 : Nat) : Int)), (0, v1), (0, v2)]) (st' := [(0, (-14)), (2, ((v0 : Nat) : Int))]) (h' := (G, ρ, q9.2)) hm rfl cjn ?_
      exact tf28_36 e hd hr rr hk _ _ _
theorem tf28 {G : Gg} {ρ : Rg} {rc : Nat → Nat → Int → Sg → Option (Int × Sg)} {d : Nat} {v0 : Nat} {v1 : Int} {m : Sg} {x : Int × Sg} (e : f28 G ρ rc v0 v1 m = some x) (hd : 3 ≤ d) (hr : RHX G ρ rc d) : Ex d 28 0 [(2, ((v0 : Nat) : Int)), (0, v1), (9, 0)] [] (G, ρ, m) (some (0, x.1), (G, ρ, x.2)) := by
  unfold f28 at e
  have hm := mi_28
  generalize hk : (some (0, x.1), (G, ρ, x.2)) = rr
  replace hk : (Bi G ρ) x rr := hk.symm
  refine Ex_run 2 (i' := 2) (L' := [(2, ((v0 : Nat) : Int)), (0, v1), (9, 0)]) (st' := [(0, v1), (2, ((v0 : Nat) : Int))]) (h' := (G, ρ, m)) hm rfl cjn ?_
  obtain ⟨g1, e⟩ := gd_s e
  obtain ⟨q2, h2, e⟩ := bn_s e
  refine Ex_callm (z := 29) (na := 2) (ck := 5) (as := [(2, ((v0 : Nat) : Int)), (0, v1)]) (rest := []) (E0 := [(2, ((v0 : Nat) : Int)), (0, v1), (9, 0), (9, 0)]) (v := some (0, q2.1)) (h1 := (G, ρ, q2.2)) hm rfl (by omega) ⟨Nat.le_of_ble_eq_true rfl, Nat.le_of_ble_eq_true rfl⟩ (rc2 rfl g1) rfl rfl ml_29 rfl (Nat.le_of_ble_eq_true rfl) (hr _ _ _ _ _ h2) ?_
  show Ex d 28 3 [(2, ((v0 : Nat) : Int)), (0, v1), (9, 0)] [(0, q2.1)] (G, ρ, q2.2) rr
  by_cases c3 : q2.1 = 0
  · replace e := it_p e c3
    refine Ex_if1f (c := 1) (tgt := 6) hm rfl (bf1 c3) ?_
    refine Ex_run 1 (i' := 5) (L' := [(2, ((v0 : Nat) : Int)), (0, v1), (9, 0)]) (st' := [(0, 0)]) (h' := (G, ρ, q2.2)) hm rfl cjn ?_
    cases e
    cases hk
    exact Ex_ret (k := 2) hm rfl ⟨_, rfl, by decide, rfl⟩
  · replace e := it_n e c3
    refine Ex_if1t (c := 1) (tgt := 6) hm rfl (bt1 c3) ?_
    refine Ex_run 2 (i' := 8) (L' := [(2, ((v0 : Nat) : Int)), (0, v1), (9, 0)]) (st' := [(0, 60), (2, ((v0 : Nat) : Int))]) (h' := (G, ρ, q2.2)) hm rfl cjn ?_
    obtain ⟨q4, h4, e⟩ := bn_s e
    refine Ex_callm (z := 21) (na := 2) (ck := 5) (as := [(2, ((v0 : Nat) : Int)), (0, 60)]) (rest := []) (E0 := [(2, ((v0 : Nat) : Int)), (0, 60)]) (v := some (0, q4)) (h1 := (G, ρ, q2.2)) hm rfl (by omega) ⟨Nat.le_of_ble_eq_true rfl, Nat.le_of_ble_eq_true rfl⟩ (rc2 rfl g1) rfl rfl ml_21 rfl (Nat.le_of_ble_eq_true rfl) (tf21 h4 (by omega)) ?_
    show Ex d 28 9 [(2, ((v0 : Nat) : Int)), (0, v1), (9, 0)] [(0, q4)] (G, ρ, q2.2) rr
    refine Ex_run 2 (i' := 11) (L' := [(2, ((v0 : Nat) : Int)), (0, v1), (0, q4)]) (st' := [(0, q4)]) (h' := (G, ρ, q2.2)) hm rfl (cjc (Nat.le_of_ble_eq_true rfl) cjn) ?_
    by_cases c5 : q4 = 0
    · replace e := it_p e c5
      refine Ex_if1f (c := 1) (tgt := 18) hm rfl (bf1 c5) ?_
      refine Ex_run 2 (i' := 14) (L' := [(2, ((v0 : Nat) : Int)), (0, v1), (0, q4)]) (st' := [(0, 61), (2, ((v0 : Nat) : Int))]) (h' := (G, ρ, q2.2)) hm rfl cjn ?_
      obtain ⟨q6, h6, e⟩ := bn_s e
      refine Ex_callm (z := 21) (na := 2) (ck := 5) (as := [(2, ((v0 : Nat) : Int)), (0, 61)]) (rest := []) (E0 := [(2, ((v0 : Nat) : Int)), (0, 61)]) (v := some (0, q6)) (h1 := (G, ρ, q2.2)) hm rfl (by omega) ⟨Nat.le_of_ble_eq_true rfl, Nat.le_of_ble_eq_true rfl⟩ (rc2 rfl g1) rfl rfl ml_21 rfl (Nat.le_of_ble_eq_true rfl) (tf21 h6 (by omega)) ?_
      show Ex d 28 15 [(2, ((v0 : Nat) : Int)), (0, v1), (0, q4)] [(0, q6)] (G, ρ, q2.2) rr
      by_cases c7 : q6 = 0
      · replace e := it_p e c7
        refine Ex_if1f (c := 1) (tgt := 18) hm rfl (bf1 c7) ?_
        refine Ex_run 1 (i' := 17) (L' := [(2, ((v0 : Nat) : Int)), (0, v1), (0, q4)]) (st' := [(0, 1)]) (h' := (G, ρ, q2.2)) hm rfl cjn ?_
        cases e
        cases hk
        exact Ex_ret (k := 2) hm rfl ⟨_, rfl, by decide, rfl⟩
      · replace e := it_n e c7
        refine Ex_if1t (c := 1) (tgt := 18) hm rfl (bt1 c7) ?_
        exact tf28_18 e hd hr rr hk
    · replace e := it_n e c5
      refine Ex_if1t (c := 1) (tgt := 18) hm rfl (bt1 c5) ?_
      exact tf28_18 e hd hr rr hk
theorem tf27 {G : Gg} {ρ : Rg} {rc : Nat → Nat → Int → Sg → Option (Int × Sg)} {d : Nat} {v0 : Nat} {v1 : Int} {m : Sg} {x : Int × Sg} (e : f27 G ρ rc v0 v1 m = some x) (hd : 3 ≤ d) (hr : RHX G ρ rc d) : Ex d 27 0 [(2, ((v0 : Nat) : Int)), (0, v1)] [] (G, ρ, m) (some (0, x.1), (G, ρ, x.2)) := by
  unfold f27 at e
  have hm := mi_27
  generalize hk : (some (0, x.1), (G, ρ, x.2)) = rr
  replace hk : (Bi G ρ) x rr := hk.symm
  refine Ex_run 2 (i' := 2) (L' := [(2, ((v0 : Nat) : Int)), (0, v1)]) (st' := [(0, 7), (2, ((v0 : Nat) : Int))]) (h' := (G, ρ, m)) hm rfl cjn ?_
  obtain ⟨g1, e⟩ := gd_s e
  obtain ⟨q2, h2, e⟩ := bn_s e
  refine Ex_callm (z := 21) (na := 2) (ck := 5) (as := [(2, ((v0 : Nat) : Int)), (0, 7)]) (rest := []) (E0 := [(2, ((v0 : Nat) : Int)), (0, 7)]) (v := some (0, q2)) (h1 := (G, ρ, m)) hm rfl (by omega) ⟨Nat.le_of_ble_eq_true rfl, Nat.le_of_ble_eq_true rfl⟩ (rc2 rfl g1) rfl rfl ml_21 rfl (Nat.le_of_ble_eq_true rfl) (tf21 h2 (by omega)) ?_
  show Ex d 27 3 [(2, ((v0 : Nat) : Int)), (0, v1)] [(0, q2)] (G, ρ, m) rr
  by_cases c3 : q2 = 0
  · replace e := it_p e c3
    refine Ex_if1f (c := 1) (tgt := 8) hm rfl (bf1 c3) ?_
    refine Ex_run 2 (i' := 6) (L' := [(2, ((v0 : Nat) : Int)), (0, v1)]) (st' := [(0, v1), (2, ((v0 : Nat) : Int))]) (h' := (G, ρ, m)) hm rfl cjn ?_
    obtain ⟨q4, h4, e⟩ := bn_s e
    refine Ex_callm (z := 28) (na := 2) (ck := 5) (as := [(2, ((v0 : Nat) : Int)), (0, v1)]) (rest := []) (E0 := [(2, ((v0 : Nat) : Int)), (0, v1), (9, 0)]) (v := some (0, q4.1)) (h1 := (G, ρ, q4.2)) hm rfl (by omega) ⟨Nat.le_of_ble_eq_true rfl, Nat.le_of_ble_eq_true rfl⟩ (rc2 rfl g1) rfl rfl ml_28 rfl (Nat.le_of_ble_eq_true rfl) (hr _ _ _ _ _ h4) ?_
    show Ex d 27 7 [(2, ((v0 : Nat) : Int)), (0, v1)] [(0, q4.1)] (G, ρ, q4.2) rr
    obtain ⟨g5, e⟩ := gd_s e
    cases e
    cases hk
    exact Ex_ret (k := 2) hm rfl ⟨_, rfl, g5, rfl⟩
  · replace e := it_n e c3
    refine Ex_if1t (c := 1) (tgt := 8) hm rfl (bt1 c3) ?_
    refine Ex_run 2 (i' := 10) (L' := [(2, ((v0 : Nat) : Int)), (0, v1)]) (st' := [(0, 5), (0, v1)]) (h' := (G, ρ, m)) hm rfl cjn ?_
    by_cases c6 : v1 < 5
    · replace e := it_p e c6
      refine Ex_if2t (c := 2) (tgt := 13) hm rfl (bt2 c6) ?_
      refine Ex_run 10 (i' := 23) (L' := [(2, ((v0 : Nat) : Int)), (0, v1)]) (st' := [(0, (g_add v1 1)), (2, ((v0 : Nat) : Int))]) (h' := (G, ρ, (put m v0 5 (g_add (m v0 5) 1)))) hm rfl (cjc (gk_b g1) (cjc (gk_b g1) cjn)) ?_
      obtain ⟨q7, h7, e⟩ := bn_s e
      refine Ex_callm (z := 27) (na := 2) (ck := 5) (as := [(2, ((v0 : Nat) : Int)), (0, (g_add v1 1))]) (rest := []) (E0 := [(2, ((v0 : Nat) : Int)), (0, (g_add v1 1))]) (v := some (0, q7.1)) (h1 := (G, ρ, q7.2)) hm rfl (by omega) ⟨Nat.le_of_ble_eq_true rfl, Nat.le_of_ble_eq_true rfl⟩ (rc2 rfl g1) rfl rfl ml_27 rfl (Nat.le_of_ble_eq_true rfl) (hr _ _ _ _ _ h7) ?_
      show Ex d 27 24 [(2, ((v0 : Nat) : Int)), (0, v1)] [(0, q7.1)] (G, ρ, q7.2) rr
      by_cases c8 : q7.1 = 0
      · replace e := it_p e c8
        refine Ex_if1f (c := 1) (tgt := 27) hm rfl (bf1 c8) ?_
        refine Ex_run 1 (i' := 26) (L' := [(2, ((v0 : Nat) : Int)), (0, v1)]) (st' := [(0, 0)]) (h' := (G, ρ, q7.2)) hm rfl cjn ?_
        cases e
        cases hk
        exact Ex_ret (k := 2) hm rfl ⟨_, rfl, by decide, rfl⟩
      · replace e := it_n e c8
        refine Ex_if1t (c := 1) (tgt := 27) hm rfl (bt1 c8) ?_
        refine Ex_run 2 (i' := 29) (L' := [(2, ((v0 : Nat) : Int)), (0, v1)]) (st' := [(0, (-13)), (2, ((v0 : Nat) : Int))]) (h' := (G, ρ, q7.2)) hm rfl cjn ?_
        obtain ⟨q9, h9, e⟩ := bn_s e
        refine Ex_callm (z := 23) (na := 2) (ck := 5) (as := [(2, ((v0 : Nat) : Int)), (0, (-13))]) (rest := []) (E0 := [(2, ((v0 : Nat) : Int)), (0, (-13))]) (v := none) (h1 := (G, ρ, q9)) hm rfl (by omega) ⟨Nat.le_of_ble_eq_true rfl, Nat.le_of_ble_eq_true rfl⟩ (rc2 rfl g1) rfl rfl ml_23 rfl (Nat.le_of_ble_eq_true rfl) (tf23 h9 (by omega)) ?_
        show Ex d 27 30 [(2, ((v0 : Nat) : Int)), (0, v1)] [] (G, ρ, q9) rr
        refine Ex_run 1 (i' := 31) (L' := [(2, ((v0 : Nat) : Int)), (0, v1)]) (st' := [(0, 1)]) (h' := (G, ρ, q9)) hm rfl cjn ?_
        cases e
        cases hk
        exact Ex_ret (k := 2) hm rfl ⟨_, rfl, by decide, rfl⟩
    · replace e := it_n e c6
      refine Ex_if2f (c := 2) (tgt := 13) hm rfl (bf2 c6) ?_
      refine Ex_run 1 (i' := 12) (L' := [(2, ((v0 : Nat) : Int)), (0, v1)]) (st' := [(0, 0)]) (h' := (G, ρ, m)) hm rfl cjn ?_
      cases e
      cases hk
      exact Ex_ret (k := 2) hm rfl ⟨_, rfl, by decide, rfl⟩
theorem tf26_b8 {G : Gg} {ρ : Rg} {rc : Nat → Nat → Int → Sg → Option (Int × Sg)} {d : Nat} {v0 : Nat} {v1 : Int} {s : Int × Sg} {x : (Int × Sg) ⊕ (Int × Sg)} (e : f26_b8 G ρ rc v0 v1 s = some x) (hd : 3 ≤ d) (hr : RHX G ρ rc d) (rr : Option MV × Mh) (hk : (DS (e26_8 G ρ d v0 v1) (Bi G ρ)) x rr) : e26_8 G ρ d v0 v1 s rr := by
  unfold f26_b8 at e
  have hm := mi_26
  show Ex d 26 8 [(2, ((v0 : Nat) : Int)), (0, v1), (0, s.1)] [] (G, ρ, s.2) rr
  refine Ex_run 2 (i' := 10) (L' := [(2, ((v0 : Nat) : Int)), (0, v1), (0, s.1)]) (st' := [(0, 160), (0, s.1)]) (h' := (G, ρ, s.2)) hm rfl cjn ?_
  by_cases c4 : s.1 < 160
  · replace e := it_p e c4
    refine Ex_if2f (c := 3) (tgt := 26) hm rfl (bf3 c4) ?_
    refine Ex_run 2 (i' := 13) (L' := [(2, ((v0 : Nat) : Int)), (0, v1), (0, s.1)]) (st' := [(0, 6), (2, ((v0 : Nat) : Int))]) (h' := (G, ρ, s.2)) hm rfl cjn ?_
    obtain ⟨g5, e⟩ := gd_s e
    obtain ⟨q6, h6, e⟩ := bn_s e
    refine Ex_callm (z := 22) (na := 2) (ck := 5) (as := [(2, ((v0 : Nat) : Int)), (0, 6)]) (rest := []) (E0 := [(2, ((v0 : Nat) : Int)), (0, 6)]) (v := some (0, q6.1)) (h1 := (G, ρ, q6.2)) hm rfl (by omega) ⟨Nat.le_of_ble_eq_true rfl, Nat.le_of_ble_eq_true rfl⟩ (rc2 rfl g5) rfl rfl ml_22 rfl (Nat.le_of_ble_eq_true rfl) (tf22 h6 (by omega)) ?_
    show Ex d 26 14 [(2, ((v0 : Nat) : Int)), (0, v1), (0, s.1)] [(0, q6.1)] (G, ρ, q6.2) rr
    by_cases c7 : q6.1 = 0
    · replace e := it_p e c7
      refine Ex_if1t (c := 0) (tgt := 26) hm rfl (bt0 c7) ?_
      obtain ⟨x, e, hx⟩ := xr_s e
      replace hk : (Bi G ρ) x rr := by rw [hx] at hk; exact hk
      refine Ex_run 1 (i' := 27) (L' := [(2, ((v0 : Nat) : Int)), (0, v1), (0, s.1)]) (st' := [(0, 1)]) (h' := (G, ρ, q6.2)) hm rfl cjn ?_
      cases e
      cases hk
      exact Ex_ret (k := 2) hm rfl ⟨_, rfl, by decide, rfl⟩
    · replace e := it_n e c7
      refine Ex_if1f (c := 0) (tgt := 26) hm rfl (bf0 c7) ?_
      refine Ex_run 2 (i' := 17) (L' := [(2, ((v0 : Nat) : Int)), (0, v1), (0, s.1)]) (st' := [(0, v1), (2, ((v0 : Nat) : Int))]) (h' := (G, ρ, q6.2)) hm rfl cjn ?_
      obtain ⟨q8, h8, e⟩ := bn_s e
      refine Ex_callm (z := 27) (na := 2) (ck := 5) (as := [(2, ((v0 : Nat) : Int)), (0, v1)]) (rest := []) (E0 := [(2, ((v0 : Nat) : Int)), (0, v1)]) (v := some (0, q8.1)) (h1 := (G, ρ, q8.2)) hm rfl (by omega) ⟨Nat.le_of_ble_eq_true rfl, Nat.le_of_ble_eq_true rfl⟩ (rc2 rfl g5) rfl rfl ml_27 rfl (Nat.le_of_ble_eq_true rfl) (hr _ _ _ _ _ h8) ?_
      show Ex d 26 18 [(2, ((v0 : Nat) : Int)), (0, v1), (0, s.1)] [(0, q8.1)] (G, ρ, q8.2) rr
      by_cases c9 : q8.1 = 0
      · replace e := it_p e c9
        refine Ex_if1f (c := 1) (tgt := 21) hm rfl (bf1 c9) ?_
        obtain ⟨x, e, hx⟩ := xr_s e
        replace hk : (Bi G ρ) x rr := by rw [hx] at hk; exact hk
        refine Ex_run 1 (i' := 20) (L' := [(2, ((v0 : Nat) : Int)), (0, v1), (0, s.1)]) (st' := [(0, 0)]) (h' := (G, ρ, q8.2)) hm rfl cjn ?_
        cases e
        cases hk
        exact Ex_ret (k := 2) hm rfl ⟨_, rfl, by decide, rfl⟩
      · replace e := it_n e c9
        refine Ex_if1t (c := 1) (tgt := 21) hm rfl (bt1 c9) ?_
        refine Ex_run 2 (i' := 23) (L' := [(2, ((v0 : Nat) : Int)), (0, v1), (0, s.1)]) (st' := [(0, (-12)), (2, ((v0 : Nat) : Int))]) (h' := (G, ρ, q8.2)) hm rfl cjn ?_
        obtain ⟨q10, h10, e⟩ := bn_s e
        refine Ex_callm (z := 23) (na := 2) (ck := 5) (as := [(2, ((v0 : Nat) : Int)), (0, (-12))]) (rest := []) (E0 := [(2, ((v0 : Nat) : Int)), (0, (-12))]) (v := none) (h1 := (G, ρ, q10)) hm rfl (by omega) ⟨Nat.le_of_ble_eq_true rfl, Nat.le_of_ble_eq_true rfl⟩ (rc2 rfl g5) rfl rfl ml_23 rfl (Nat.le_of_ble_eq_true rfl) (tf23 h10 (by omega)) ?_
        show Ex d 26 24 [(2, ((v0 : Nat) : Int)), (0, v1), (0, s.1)] [] (G, ρ, q10) rr
        refine Ex_run 2 (i' := 8) (L' := [(2, ((v0 : Nat) : Int)), (0, v1), (0, (w32 (s.1 + 1)))]) (st' := []) (h' := (G, ρ, q10)) hm rfl cjn ?_
        cases e
        exact hk
  · replace e := it_n e c4
    refine Ex_if2t (c := 3) (tgt := 26) hm rfl (bt3 c4) ?_
    obtain ⟨x, e, hx⟩ := xr_s e
    replace hk : (Bi G ρ) x rr := by rw [hx] at hk; exact hk
    refine Ex_run 1 (i' := 27) (L' := [(2, ((v0 : Nat) : Int)), (0, v1), (0, s.1)]) (st' := [(0, 1)]) (h' := (G, ρ, s.2)) hm rfl cjn ?_
    cases e
    cases hk
    exact Ex_ret (k := 2) hm rfl ⟨_, rfl, by decide, rfl⟩
theorem tf26 {G : Gg} {ρ : Rg} {rc : Nat → Nat → Int → Sg → Option (Int × Sg)} {d : Nat} {v0 : Nat} {v1 : Int} {m : Sg} {x : Int × Sg} (e : f26 G ρ rc v0 v1 m = some x) (hd : 3 ≤ d) (hr : RHX G ρ rc d) : Ex d 26 0 [(2, ((v0 : Nat) : Int)), (0, v1), (9, 0)] [] (G, ρ, m) (some (0, x.1), (G, ρ, x.2)) := by
  unfold f26 at e
  have hm := mi_26
  generalize hk : (some (0, x.1), (G, ρ, x.2)) = rr
  replace hk : (Bi G ρ) x rr := hk.symm
  refine Ex_run 2 (i' := 2) (L' := [(2, ((v0 : Nat) : Int)), (0, v1), (9, 0)]) (st' := [(0, v1), (2, ((v0 : Nat) : Int))]) (h' := (G, ρ, m)) hm rfl cjn ?_
  obtain ⟨g1, e⟩ := gd_s e
  obtain ⟨q2, h2, e⟩ := bn_s e
  refine Ex_callm (z := 27) (na := 2) (ck := 5) (as := [(2, ((v0 : Nat) : Int)), (0, v1)]) (rest := []) (E0 := [(2, ((v0 : Nat) : Int)), (0, v1)]) (v := some (0, q2.1)) (h1 := (G, ρ, q2.2)) hm rfl (by omega) ⟨Nat.le_of_ble_eq_true rfl, Nat.le_of_ble_eq_true rfl⟩ (rc2 rfl g1) rfl rfl ml_27 rfl (Nat.le_of_ble_eq_true rfl) (hr _ _ _ _ _ h2) ?_
  show Ex d 26 3 [(2, ((v0 : Nat) : Int)), (0, v1), (9, 0)] [(0, q2.1)] (G, ρ, q2.2) rr
  by_cases c3 : q2.1 = 0
  · replace e := it_p e c3
    refine Ex_if1f (c := 1) (tgt := 6) hm rfl (bf1 c3) ?_
    refine Ex_run 1 (i' := 5) (L' := [(2, ((v0 : Nat) : Int)), (0, v1), (9, 0)]) (st' := [(0, 0)]) (h' := (G, ρ, q2.2)) hm rfl cjn ?_
    cases e
    cases hk
    exact Ex_ret (k := 2) hm rfl ⟨_, rfl, by decide, rfl⟩
  · replace e := it_n e c3
    refine Ex_if1t (c := 1) (tgt := 6) hm rfl (bt1 c3) ?_
    refine Ex_run 2 (i' := 8) (L' := [(2, ((v0 : Nat) : Int)), (0, v1), (0, 0)]) (st' := []) (h' := (G, ρ, q2.2)) hm rfl (cjc (Nat.le_of_ble_eq_true rfl) cjn) ?_
    exact (Ex_lp (A := e26_8 G ρ d v0 v1 ) (B := (Bi G ρ)) (fun s x e rr hk => tf26_b8 e hd hr rr hk) FU _ _ e rr hk)
theorem tf25_b8 {G : Gg} {ρ : Rg} {rc : Nat → Nat → Int → Sg → Option (Int × Sg)} {d : Nat} {v0 : Nat} {v1 : Int} {s : Int × Sg} {x : (Int × Sg) ⊕ (Int × Sg)} (e : f25_b8 G ρ rc v0 v1 s = some x) (hd : 3 ≤ d) (hr : RHX G ρ rc d) (rr : Option MV × Mh) (hk : (DS (e25_8 G ρ d v0 v1) (Bi G ρ)) x rr) : e25_8 G ρ d v0 v1 s rr := by
  unfold f25_b8 at e
  have hm := mi_25
  show Ex d 25 8 [(2, ((v0 : Nat) : Int)), (0, v1), (0, s.1)] [] (G, ρ, s.2) rr
  refine Ex_run 2 (i' := 10) (L' := [(2, ((v0 : Nat) : Int)), (0, v1), (0, s.1)]) (st' := [(0, 160), (0, s.1)]) (h' := (G, ρ, s.2)) hm rfl cjn ?_
  by_cases c4 : s.1 < 160
  · replace e := it_p e c4
    refine Ex_if2f (c := 3) (tgt := 26) hm rfl (bf3 c4) ?_
    refine Ex_run 2 (i' := 13) (L' := [(2, ((v0 : Nat) : Int)), (0, v1), (0, s.1)]) (st' := [(0, 5), (2, ((v0 : Nat) : Int))]) (h' := (G, ρ, s.2)) hm rfl cjn ?_
    obtain ⟨g5, e⟩ := gd_s e
    obtain ⟨q6, h6, e⟩ := bn_s e
    refine Ex_callm (z := 22) (na := 2) (ck := 5) (as := [(2, ((v0 : Nat) : Int)), (0, 5)]) (rest := []) (E0 := [(2, ((v0 : Nat) : Int)), (0, 5)]) (v := some (0, q6.1)) (h1 := (G, ρ, q6.2)) hm rfl (by omega) ⟨Nat.le_of_ble_eq_true rfl, Nat.le_of_ble_eq_true rfl⟩ (rc2 rfl g5) rfl rfl ml_22 rfl (Nat.le_of_ble_eq_true rfl) (tf22 h6 (by omega)) ?_
    show Ex d 25 14 [(2, ((v0 : Nat) : Int)), (0, v1), (0, s.1)] [(0, q6.1)] (G, ρ, q6.2) rr
    by_cases c7 : q6.1 = 0
    · replace e := it_p e c7
      refine Ex_if1t (c := 0) (tgt := 26) hm rfl (bt0 c7) ?_
      obtain ⟨x, e, hx⟩ := xr_s e
      replace hk : (Bi G ρ) x rr := by rw [hx] at hk; exact hk
      refine Ex_run 1 (i' := 27) (L' := [(2, ((v0 : Nat) : Int)), (0, v1), (0, s.1)]) (st' := [(0, 1)]) (h' := (G, ρ, q6.2)) hm rfl cjn ?_
      cases e
      cases hk
      exact Ex_ret (k := 2) hm rfl ⟨_, rfl, by decide, rfl⟩
    · replace e := it_n e c7
      refine Ex_if1f (c := 0) (tgt := 26) hm rfl (bf0 c7) ?_
      refine Ex_run 2 (i' := 17) (L' := [(2, ((v0 : Nat) : Int)), (0, v1), (0, s.1)]) (st' := [(0, v1), (2, ((v0 : Nat) : Int))]) (h' := (G, ρ, q6.2)) hm rfl cjn ?_
      obtain ⟨q8, h8, e⟩ := bn_s e
      refine Ex_callm (z := 26) (na := 2) (ck := 5) (as := [(2, ((v0 : Nat) : Int)), (0, v1)]) (rest := []) (E0 := [(2, ((v0 : Nat) : Int)), (0, v1), (9, 0)]) (v := some (0, q8.1)) (h1 := (G, ρ, q8.2)) hm rfl (by omega) ⟨Nat.le_of_ble_eq_true rfl, Nat.le_of_ble_eq_true rfl⟩ (rc2 rfl g5) rfl rfl ml_26 rfl (Nat.le_of_ble_eq_true rfl) (hr _ _ _ _ _ h8) ?_
      show Ex d 25 18 [(2, ((v0 : Nat) : Int)), (0, v1), (0, s.1)] [(0, q8.1)] (G, ρ, q8.2) rr
      by_cases c9 : q8.1 = 0
      · replace e := it_p e c9
        refine Ex_if1f (c := 1) (tgt := 21) hm rfl (bf1 c9) ?_
        obtain ⟨x, e, hx⟩ := xr_s e
        replace hk : (Bi G ρ) x rr := by rw [hx] at hk; exact hk
        refine Ex_run 1 (i' := 20) (L' := [(2, ((v0 : Nat) : Int)), (0, v1), (0, s.1)]) (st' := [(0, 0)]) (h' := (G, ρ, q8.2)) hm rfl cjn ?_
        cases e
        cases hk
        exact Ex_ret (k := 2) hm rfl ⟨_, rfl, by decide, rfl⟩
      · replace e := it_n e c9
        refine Ex_if1t (c := 1) (tgt := 21) hm rfl (bt1 c9) ?_
        refine Ex_run 2 (i' := 23) (L' := [(2, ((v0 : Nat) : Int)), (0, v1), (0, s.1)]) (st' := [(0, (-11)), (2, ((v0 : Nat) : Int))]) (h' := (G, ρ, q8.2)) hm rfl cjn ?_
        obtain ⟨q10, h10, e⟩ := bn_s e
        refine Ex_callm (z := 23) (na := 2) (ck := 5) (as := [(2, ((v0 : Nat) : Int)), (0, (-11))]) (rest := []) (E0 := [(2, ((v0 : Nat) : Int)), (0, (-11))]) (v := none) (h1 := (G, ρ, q10)) hm rfl (by omega) ⟨Nat.le_of_ble_eq_true rfl, Nat.le_of_ble_eq_true rfl⟩ (rc2 rfl g5) rfl rfl ml_23 rfl (Nat.le_of_ble_eq_true rfl) (tf23 h10 (by omega)) ?_
        show Ex d 25 24 [(2, ((v0 : Nat) : Int)), (0, v1), (0, s.1)] [] (G, ρ, q10) rr
        refine Ex_run 2 (i' := 8) (L' := [(2, ((v0 : Nat) : Int)), (0, v1), (0, (w32 (s.1 + 1)))]) (st' := []) (h' := (G, ρ, q10)) hm rfl cjn ?_
        cases e
        exact hk
  · replace e := it_n e c4
    refine Ex_if2t (c := 3) (tgt := 26) hm rfl (bt3 c4) ?_
    obtain ⟨x, e, hx⟩ := xr_s e
    replace hk : (Bi G ρ) x rr := by rw [hx] at hk; exact hk
    refine Ex_run 1 (i' := 27) (L' := [(2, ((v0 : Nat) : Int)), (0, v1), (0, s.1)]) (st' := [(0, 1)]) (h' := (G, ρ, s.2)) hm rfl cjn ?_
    cases e
    cases hk
    exact Ex_ret (k := 2) hm rfl ⟨_, rfl, by decide, rfl⟩
theorem tf25 {G : Gg} {ρ : Rg} {rc : Nat → Nat → Int → Sg → Option (Int × Sg)} {d : Nat} {v0 : Nat} {v1 : Int} {m : Sg} {x : Int × Sg} (e : f25 G ρ rc v0 v1 m = some x) (hd : 3 ≤ d) (hr : RHX G ρ rc d) : Ex d 25 0 [(2, ((v0 : Nat) : Int)), (0, v1), (9, 0)] [] (G, ρ, m) (some (0, x.1), (G, ρ, x.2)) := by
  unfold f25 at e
  have hm := mi_25
  generalize hk : (some (0, x.1), (G, ρ, x.2)) = rr
  replace hk : (Bi G ρ) x rr := hk.symm
  refine Ex_run 2 (i' := 2) (L' := [(2, ((v0 : Nat) : Int)), (0, v1), (9, 0)]) (st' := [(0, v1), (2, ((v0 : Nat) : Int))]) (h' := (G, ρ, m)) hm rfl cjn ?_
  obtain ⟨g1, e⟩ := gd_s e
  obtain ⟨q2, h2, e⟩ := bn_s e
  refine Ex_callm (z := 26) (na := 2) (ck := 5) (as := [(2, ((v0 : Nat) : Int)), (0, v1)]) (rest := []) (E0 := [(2, ((v0 : Nat) : Int)), (0, v1), (9, 0)]) (v := some (0, q2.1)) (h1 := (G, ρ, q2.2)) hm rfl (by omega) ⟨Nat.le_of_ble_eq_true rfl, Nat.le_of_ble_eq_true rfl⟩ (rc2 rfl g1) rfl rfl ml_26 rfl (Nat.le_of_ble_eq_true rfl) (hr _ _ _ _ _ h2) ?_
  show Ex d 25 3 [(2, ((v0 : Nat) : Int)), (0, v1), (9, 0)] [(0, q2.1)] (G, ρ, q2.2) rr
  by_cases c3 : q2.1 = 0
  · replace e := it_p e c3
    refine Ex_if1f (c := 1) (tgt := 6) hm rfl (bf1 c3) ?_
    refine Ex_run 1 (i' := 5) (L' := [(2, ((v0 : Nat) : Int)), (0, v1), (9, 0)]) (st' := [(0, 0)]) (h' := (G, ρ, q2.2)) hm rfl cjn ?_
    cases e
    cases hk
    exact Ex_ret (k := 2) hm rfl ⟨_, rfl, by decide, rfl⟩
  · replace e := it_n e c3
    refine Ex_if1t (c := 1) (tgt := 6) hm rfl (bt1 c3) ?_
    refine Ex_run 2 (i' := 8) (L' := [(2, ((v0 : Nat) : Int)), (0, v1), (0, 0)]) (st' := []) (h' := (G, ρ, q2.2)) hm rfl (cjc (Nat.le_of_ble_eq_true rfl) cjn) ?_
    exact (Ex_lp (A := e25_8 G ρ d v0 v1 ) (B := (Bi G ρ)) (fun s x e rr hk => tf25_b8 e hd hr rr hk) FU _ _ e rr hk)
theorem FHX {G : Gg} {ρ : Rg} : ∀ (n d : Nat) (_ : n + 4 ≤ d + 1), RHX G ρ (FnX G ρ n) d := by
  intro n
  induction n with
  | zero => intro d _ z a o m r h; cases h
  | succ n ih =>
    intro d hd z a o m r h
    unfold FnX at h
    by_cases c25 : z = 25
    · subst c25
      exact tf25 (it_p h rfl) (by omega) (ih _ (by omega))
    replace h := it_n h c25
    by_cases c26 : z = 26
    · subst c26
      exact tf26 (it_p h rfl) (by omega) (ih _ (by omega))
    replace h := it_n h c26
    by_cases c27 : z = 27
    · subst c27
      exact tf27 (it_p h rfl) (by omega) (ih _ (by omega))
    replace h := it_n h c27
    by_cases c28 : z = 28
    · subst c28
      exact tf28 (it_p h rfl) (by omega) (ih _ (by omega))
    replace h := it_n h c28
    by_cases c29 : z = 29
    · subst c29
      exact tf29 (it_p h rfl) (by omega) (ih _ (by omega))
    replace h := it_n h c29
    by_cases c30 : z = 30
    · subst c30
      exact tf30 (it_p h rfl) (by omega) (ih _ (by omega))
    replace h := it_n h c30
    by_cases c31 : z = 31
    · subst c31
      exact tf31 (it_p h rfl) (by omega) (ih _ (by omega))
    replace h := it_n h c31
    cases h
theorem tf24 {G : Gg} {ρ : Rg} {d : Nat} {v0 : Nat} {v1 : Int} {m : Sg} {x : Int × Sg} (e : f24 G ρ v0 v1 m = some x) (hd : 54 ≤ d) : Ex d 24 0 [(2, ((v0 : Nat) : Int)), (0, v1)] [] (G, ρ, m) (some (0, x.1), (G, ρ, x.2)) := by
  unfold f24 at e
  have hm := mi_24
  generalize hk : (some (0, x.1), (G, ρ, x.2)) = rr
  replace hk : (Bi G ρ) x rr := hk.symm
  refine Ex_run 2 (i' := 2) (L' := [(2, ((v0 : Nat) : Int)), (0, v1)]) (st' := [(0, v1), (2, ((v0 : Nat) : Int))]) (h' := (G, ρ, m)) hm rfl cjn ?_
  obtain ⟨g1, e⟩ := gd_s e
  obtain ⟨q2, h2, e⟩ := bn_s e
  refine Ex_callm (z := 22) (na := 2) (ck := 5) (as := [(2, ((v0 : Nat) : Int)), (0, v1)]) (rest := []) (E0 := [(2, ((v0 : Nat) : Int)), (0, v1)]) (v := some (0, q2.1)) (h1 := (G, ρ, q2.2)) hm rfl (by omega) ⟨Nat.le_of_ble_eq_true rfl, Nat.le_of_ble_eq_true rfl⟩ (rc2 rfl g1) rfl rfl ml_22 rfl (Nat.le_of_ble_eq_true rfl) (tf22 h2 (by omega)) ?_
  show Ex d 24 3 [(2, ((v0 : Nat) : Int)), (0, v1)] [(0, q2.1)] (G, ρ, q2.2) rr
  by_cases c3 : q2.1 = 0
  · replace e := it_p e c3
    refine Ex_if1t (c := 0) (tgt := 14) hm rfl (bt0 c3) ?_
    refine Ex_run 1 (i' := 15) (L' := [(2, ((v0 : Nat) : Int)), (0, v1)]) (st' := [(0, 0)]) (h' := (G, ρ, q2.2)) hm rfl cjn ?_
    cases e
    cases hk
    exact Ex_ret (k := 2) hm rfl ⟨_, rfl, by decide, rfl⟩
  · replace e := it_n e c3
    refine Ex_if1f (c := 0) (tgt := 14) hm rfl (bf0 c3) ?_
    refine Ex_run 2 (i' := 6) (L' := [(2, ((v0 : Nat) : Int)), (0, v1)]) (st' := [(0, 0), (2, ((v0 : Nat) : Int))]) (h' := (G, ρ, q2.2)) hm rfl cjn ?_
    obtain ⟨q4, h4, e⟩ := bn_s e
    refine Ex_callm (z := 25) (na := 2) (ck := 5) (as := [(2, ((v0 : Nat) : Int)), (0, 0)]) (rest := []) (E0 := [(2, ((v0 : Nat) : Int)), (0, 0), (9, 0)]) (v := some (0, q4.1)) (h1 := (G, ρ, q4.2)) hm rfl (by omega) ⟨Nat.le_of_ble_eq_true rfl, Nat.le_of_ble_eq_true rfl⟩ (rc2 rfl g1) rfl rfl ml_25 rfl (Nat.le_of_ble_eq_true rfl) (FHX 50 _ (by omega) _ _ _ _ _ h4) ?_
    show Ex d 24 7 [(2, ((v0 : Nat) : Int)), (0, v1)] [(0, q4.1)] (G, ρ, q4.2) rr
    by_cases c5 : q4.1 = 0
    · replace e := it_p e c5
      refine Ex_if1t (c := 0) (tgt := 14) hm rfl (bt0 c5) ?_
      refine Ex_run 1 (i' := 15) (L' := [(2, ((v0 : Nat) : Int)), (0, v1)]) (st' := [(0, 0)]) (h' := (G, ρ, q4.2)) hm rfl cjn ?_
      cases e
      cases hk
      exact Ex_ret (k := 2) hm rfl ⟨_, rfl, by decide, rfl⟩
    · replace e := it_n e c5
      refine Ex_if1f (c := 0) (tgt := 14) hm rfl (bf0 c5) ?_
      refine Ex_run 2 (i' := 10) (L' := [(2, ((v0 : Nat) : Int)), (0, v1)]) (st' := [(0, 59), (2, ((v0 : Nat) : Int))]) (h' := (G, ρ, q4.2)) hm rfl cjn ?_
      obtain ⟨q6, h6, e⟩ := bn_s e
      refine Ex_callm (z := 22) (na := 2) (ck := 5) (as := [(2, ((v0 : Nat) : Int)), (0, 59)]) (rest := []) (E0 := [(2, ((v0 : Nat) : Int)), (0, 59)]) (v := some (0, q6.1)) (h1 := (G, ρ, q6.2)) hm rfl (by omega) ⟨Nat.le_of_ble_eq_true rfl, Nat.le_of_ble_eq_true rfl⟩ (rc2 rfl g1) rfl rfl ml_22 rfl (Nat.le_of_ble_eq_true rfl) (tf22 h6 (by omega)) ?_
      show Ex d 24 11 [(2, ((v0 : Nat) : Int)), (0, v1)] [(0, q6.1)] (G, ρ, q6.2) rr
      by_cases c7 : q6.1 = 0
      · replace e := it_p e c7
        refine Ex_if1t (c := 0) (tgt := 14) hm rfl (bt0 c7) ?_
        refine Ex_run 1 (i' := 15) (L' := [(2, ((v0 : Nat) : Int)), (0, v1)]) (st' := [(0, 0)]) (h' := (G, ρ, q6.2)) hm rfl cjn ?_
        cases e
        cases hk
        exact Ex_ret (k := 2) hm rfl ⟨_, rfl, by decide, rfl⟩
      · replace e := it_n e c7
        refine Ex_if1f (c := 0) (tgt := 14) hm rfl (bf0 c7) ?_
        refine Ex_run 2 (i' := 15) (L' := [(2, ((v0 : Nat) : Int)), (0, v1)]) (st' := [(0, 1)]) (h' := (G, ρ, q6.2)) hm rfl cjn ?_
        cases e
        cases hk
        exact Ex_ret (k := 2) hm rfl ⟨_, rfl, by decide, rfl⟩
theorem tf12_28 {G : Gg} {ρ : Rg} {d : Nat} {v0 : Nat} {m : Sg} {x : Int × Sg} (e : f12_28 G ρ v0 m = some x) (hd : 55 ≤ d) (rr : Option MV × Mh) (hk : (Bi G ρ) x rr) (j1 : Int) : Ex d 12 28 [(2, ((v0 : Nat) : Int)), (0, j1)] [] (G, ρ, m) rr := by
  unfold f12_28 at e
  have hm := mi_12
  obtain ⟨g7, e⟩ := gd_s e
  refine Ex_run 4 (i' := 32) (L' := [(2, ((v0 : Nat) : Int)), (0, j1)]) (st' := [(0, (m v0 5)), (2, (((ρ v0 4) : Nat) : Int))]) (h' := (G, ρ, m)) hm rfl (cjc (gk_b g7) (cjc (gk_b g7) cjn)) ?_
  obtain ⟨g8, e⟩ := gd_s e
  obtain ⟨q9, h9, e⟩ := bn_s e
  refine Ex_callm (z := 33) (na := 2) (ck := 6) (as := [(2, (((ρ v0 4) : Nat) : Int)), (0, (m v0 5))]) (rest := []) (E0 := [(2, (((ρ v0 4) : Nat) : Int)), (0, (m v0 5))]) (v := some (0, q9)) (h1 := (G, ρ, m)) hm rfl (by omega) ⟨Nat.le_of_ble_eq_true rfl, Nat.le_of_ble_eq_true rfl⟩ (rc2 rfl g8) rfl rfl ml_33 rfl (Nat.le_of_ble_eq_true rfl) (tf33 h9 (by omega)) ?_
  show Ex d 12 33 [(2, ((v0 : Nat) : Int)), (0, j1)] [(0, q9)] (G, ρ, m) rr
  cases e
  cases hk
  exact Ex_ret (k := 1) hm rfl ⟨_, rfl, rfl⟩
theorem tf12_7 {G : Gg} {ρ : Rg} {d : Nat} {v0 : Nat} {w0 : Int} {w1 : Nat} {m : Sg} {x : Int × Sg} (e : f12_7 G ρ v0 w0 w1 m = some x) (hd : 55 ≤ d) (rr : Option MV × Mh) (hk : (Bi G ρ) x rr) : Ex d 12 7 [(2, ((v0 : Nat) : Int)), (9, 0)] [(0, w0), (2, ((w1 : Nat) : Int))] (G, ρ, m) rr := by
  unfold f12_7 at e
  have hm := mi_12
  obtain ⟨g3, e⟩ := gd_s e
  refine Ex_run 3 (i' := 10) (L' := [(2, ((v0 : Nat) : Int)), (9, 0)]) (st' := [(0, 3), (2, ((v0 : Nat) : Int))]) (h' := (G, ρ, (put m w1 7 w0))) hm rfl (cjc (gk_b g3) cjn) ?_
  obtain ⟨g4, e⟩ := gd_s e
  obtain ⟨q5, h5, e⟩ := bn_s e
  refine Ex_callm (z := 24) (na := 2) (ck := 5) (as := [(2, ((v0 : Nat) : Int)), (0, 3)]) (rest := []) (E0 := [(2, ((v0 : Nat) : Int)), (0, 3)]) (v := some (0, q5.1)) (h1 := (G, ρ, q5.2)) hm rfl (by omega) ⟨Nat.le_of_ble_eq_true rfl, Nat.le_of_ble_eq_true rfl⟩ (rc2 rfl g4) rfl rfl ml_24 rfl (Nat.le_of_ble_eq_true rfl) (tf24 h5 (by omega)) ?_
  show Ex d 12 11 [(2, ((v0 : Nat) : Int)), (9, 0)] [(0, q5.1)] (G, ρ, q5.2) rr
  refine Ex_run 6 (i' := 17) (L' := [(2, ((v0 : Nat) : Int)), (0, q5.1)]) (st' := [(0, q5.1)]) (h' := (G, ρ, (put q5.2 v0 8 (q5.2 v0 7)))) hm rfl (cjc (Nat.le_of_ble_eq_true rfl) (cjc (gk_b g4) (cjc (gk_b g4) cjn))) ?_
  by_cases c6 : q5.1 = 0
  · replace e := it_p e c6
    refine Ex_if1t (c := 0) (tgt := 28) hm rfl (bt0 c6) ?_
    exact tf12_28 e hd rr hk _
  · replace e := it_n e c6
    refine Ex_if1f (c := 0) (tgt := 28) hm rfl (bf0 c6) ?_
    refine Ex_run 2 (i' := 20) (L' := [(2, ((v0 : Nat) : Int)), (0, q5.1)]) (st' := [(0, 4), (2, ((v0 : Nat) : Int))]) (h' := (G, ρ, (put q5.2 v0 8 (q5.2 v0 7)))) hm rfl cjn ?_
    obtain ⟨q10, h10, e⟩ := bn_s e
    refine Ex_callm (z := 24) (na := 2) (ck := 5) (as := [(2, ((v0 : Nat) : Int)), (0, 4)]) (rest := []) (E0 := [(2, ((v0 : Nat) : Int)), (0, 4)]) (v := some (0, q10.1)) (h1 := (G, ρ, q10.2)) hm rfl (by omega) ⟨Nat.le_of_ble_eq_true rfl, Nat.le_of_ble_eq_true rfl⟩ (rc2 rfl g4) rfl rfl ml_24 rfl (Nat.le_of_ble_eq_true rfl) (tf24 h10 (by omega)) ?_
    show Ex d 12 21 [(2, ((v0 : Nat) : Int)), (0, q5.1)] [(0, q10.1)] (G, ρ, q10.2) rr
    by_cases c11 : q10.1 = 0
    · replace e := it_p e c11
      refine Ex_if1t (c := 0) (tgt := 28) hm rfl (bt0 c11) ?_
      exact tf12_28 e hd rr hk _
    · replace e := it_n e c11
      refine Ex_if1f (c := 0) (tgt := 28) hm rfl (bf0 c11) ?_
      refine Ex_run 2 (i' := 24) (L' := [(2, ((v0 : Nat) : Int)), (0, q5.1)]) (st' := [(0, 0), (2, ((v0 : Nat) : Int))]) (h' := (G, ρ, q10.2)) hm rfl cjn ?_
      obtain ⟨q12, h12, e⟩ := bn_s e
      refine Ex_callm (z := 21) (na := 2) (ck := 5) (as := [(2, ((v0 : Nat) : Int)), (0, 0)]) (rest := []) (E0 := [(2, ((v0 : Nat) : Int)), (0, 0)]) (v := some (0, q12)) (h1 := (G, ρ, q10.2)) hm rfl (by omega) ⟨Nat.le_of_ble_eq_true rfl, Nat.le_of_ble_eq_true rfl⟩ (rc2 rfl g4) rfl rfl ml_21 rfl (Nat.le_of_ble_eq_true rfl) (tf21 h12 (by omega)) ?_
      show Ex d 12 25 [(2, ((v0 : Nat) : Int)), (0, q5.1)] [(0, q12)] (G, ρ, q10.2) rr
      by_cases c13 : q12 = 0
      · replace e := it_p e c13
        refine Ex_if1t (c := 0) (tgt := 28) hm rfl (bt0 c13) ?_
        exact tf12_28 e hd rr hk _
      · replace e := it_n e c13
        refine Ex_if1f (c := 0) (tgt := 28) hm rfl (bf0 c13) ?_
        refine Ex_run 2 (i' := 33) (L' := [(2, ((v0 : Nat) : Int)), (0, q5.1)]) (st' := [(0, (-1))]) (h' := (G, ρ, q10.2)) hm rfl cjn ?_
        cases e
        cases hk
        exact Ex_ret (k := 1) hm rfl ⟨_, rfl, rfl⟩
theorem tf12 {G : Gg} {ρ : Rg} {d : Nat} {v0 : Nat} {m : Sg} {x : Int × Sg} (e : f12 G ρ v0 m = some x) (hd : 55 ≤ d) : Ex d 12 0 [(2, ((v0 : Nat) : Int)), (9, 0)] [] (G, ρ, m) (some (0, x.1), (G, ρ, x.2)) := by
  unfold f12 at e
  have hm := mi_12
  generalize hk : (some (0, x.1), (G, ρ, x.2)) = rr
  replace hk : (Bi G ρ) x rr := hk.symm
  refine Ex_run 1 (i' := 1) (L' := [(2, ((v0 : Nat) : Int)), (9, 0)]) (st' := [(2, ((v0 : Nat) : Int))]) (h' := (G, ρ, m)) hm rfl cjn ?_
  obtain ⟨g1, e⟩ := gd_s e
  obtain ⟨q2, h2, e⟩ := bn_s e
  refine Ex_callm (z := 13) (na := 1) (ck := 5) (as := [(2, ((v0 : Nat) : Int))]) (rest := []) (E0 := [(2, ((v0 : Nat) : Int)), (9, 0), (9, 0), (9, 0), (9, 0), (9, 0)]) (v := none) (h1 := (G, ρ, q2)) hm rfl (by omega) ⟨Nat.le_of_ble_eq_true rfl, Nat.le_of_ble_eq_true rfl⟩ (rc2 rfl g1) rfl rfl ml_13 rfl (Nat.le_of_ble_eq_true rfl) (tf13 h2 (by omega)) ?_
  show Ex d 12 2 [(2, ((v0 : Nat) : Int)), (9, 0)] [] (G, ρ, q2) rr
  refine Ex_run 5 (i' := 7) (L' := [(2, ((v0 : Nat) : Int)), (9, 0)]) (st' := [(0, 0), (2, ((v0 : Nat) : Int))]) (h' := (G, ρ, (put q2 v0 5 0))) hm rfl (cjc (gk_b g1) cjn) ?_
  exact tf12_7 e hd rr hk
theorem tf36 {G : Gg} {ρ : Rg} {d : Nat} {v0 : Nat} {v1 : Int} {v2 : Int} {v3 : Int} {m : Sg} {x : Sg} (e : f36 G ρ v0 v1 v2 v3 m = some x) (hd : 1 ≤ d) : Ex d 36 0 [(2, ((v0 : Nat) : Int)), (0, v1), (0, v2), (0, v3)] [] (G, ρ, m) (none, (G, ρ, x)) := by
  unfold f36 at e
  have hm := mi_36
  generalize hk : (none, (G, ρ, x)) = rr
  replace hk : (Bv G ρ) x rr := hk.symm
  refine Ex_run 1 (i' := 1) (L' := [(2, ((v0 : Nat) : Int)), (0, v1), (0, v2), (0, v3)]) (st' := [(0, v1)]) (h' := (G, ρ, m)) hm rfl cjn ?_
  by_cases c1 : v1 < 0
  · replace e := it_p e c1
    refine Ex_if1t (c := 2) (tgt := 6) hm rfl (bt2 c1) ?_
    cases e
    cases hk
    exact Ex_ret (k := 0) hm rfl ⟨rfl, rfl⟩
  · replace e := it_n e c1
    refine Ex_if1f (c := 2) (tgt := 6) hm rfl (bf2 c1) ?_
    refine Ex_run 1 (i' := 3) (L' := [(2, ((v0 : Nat) : Int)), (0, v1), (0, v2), (0, v3)]) (st' := [(0, v2)]) (h' := (G, ρ, m)) hm rfl cjn ?_
    by_cases c2 : v2 < 0
    · replace e := it_p e c2
      refine Ex_if1t (c := 2) (tgt := 6) hm rfl (bt2 c2) ?_
      cases e
      cases hk
      exact Ex_ret (k := 0) hm rfl ⟨rfl, rfl⟩
    · replace e := it_n e c2
      refine Ex_if1f (c := 2) (tgt := 6) hm rfl (bf2 c2) ?_
      refine Ex_run 1 (i' := 5) (L' := [(2, ((v0 : Nat) : Int)), (0, v1), (0, v2), (0, v3)]) (st' := [(0, v3)]) (h' := (G, ρ, m)) hm rfl cjn ?_
      by_cases c3 : v3 < 0
      · replace e := it_p e c3
        refine Ex_if1f (c := 3) (tgt := 7) hm rfl (bf3 c3) ?_
        cases e
        cases hk
        exact Ex_ret (k := 0) hm rfl ⟨rfl, rfl⟩
      · replace e := it_n e c3
        refine Ex_if1t (c := 3) (tgt := 7) hm rfl (bt3 c3) ?_
        obtain ⟨g4, e⟩ := gd_s e
        obtain ⟨g5, e⟩ := gd_s e
        refine Ex_run 6 (i' := 13) (L' := [(2, ((v0 : Nat) : Int)), (0, v1), (0, v2), (0, v3)]) (st' := [(0, (g_sub (gl G (ρ v0 0)) v3)), (0, v1)]) (h' := (G, ρ, m)) hm rfl (cjc (gk_b g4) (cjc (gk_b g5) cjn)) ?_
        by_cases c6 : (g_sub (gl G (ρ v0 0)) v3) < v1
        · replace e := it_p e c6
          refine Ex_if2t (c := 4) (tgt := 21) hm rfl (bt4 c6) ?_
          cases e
          cases hk
          exact Ex_ret (k := 0) hm rfl ⟨rfl, rfl⟩
        · replace e := it_n e c6
          refine Ex_if2f (c := 4) (tgt := 21) hm rfl (bf4 c6) ?_
          refine Ex_run 6 (i' := 20) (L' := [(2, ((v0 : Nat) : Int)), (0, v1), (0, v2), (0, v3)]) (st' := [(0, (g_sub (gl G (ρ v0 0)) v3)), (0, v2)]) (h' := (G, ρ, m)) hm rfl (cjc (gk_b g4) (cjc (gk_b g5) cjn)) ?_
          by_cases c7 : (g_sub (gl G (ρ v0 0)) v3) < v2
          · replace e := it_p e c7
            refine Ex_if2f (c := 5) (tgt := 22) hm rfl (bf5 c7) ?_
            cases e
            cases hk
            exact Ex_ret (k := 0) hm rfl ⟨rfl, rfl⟩
          · replace e := it_n e c7
            refine Ex_if2t (c := 5) (tgt := 22) hm rfl (bt5 c7) ?_
            refine Ex_run 7 (i' := 29) (L' := [(2, ((v0 : Nat) : Int)), (0, v1), (0, v2), (0, v3)]) (st' := [(0, v3), (0, v2), (2, (((ρ v0 0) : Nat) : Int)), (0, v1), (2, (((ρ v0 0) : Nat) : Int))]) (h' := (G, ρ, m)) hm rfl (cjc (gk_b g4) (cjc (gk_b g4) cjn)) ?_
            obtain ⟨g8, e⟩ := gd_s e
            refine Ex_prim (k := 1) (i' := 30) (L' := [(2, ((v0 : Nat) : Int)), (0, v1), (0, v2), (0, v3)]) (st' := []) (h' := (G, ρ, (cpy m (ρ v0 0) v1 (ρ v0 0) v2 v3))) hm rfl (by omega) rfl (cjc (gk_b g5) (cjc (gk_b g5) (cjc g8 (cjc (Nat.le_of_ble_eq_true rfl) cjn)))) ?_
            cases e
            cases hk
            exact Ex_ret (k := 0) hm rfl ⟨rfl, rfl⟩
theorem tf38 {G : Gg} {ρ : Rg} {d : Nat} {v0 : Nat} {v1 : Int} {m : Sg} {x : Int} (e : f38 G ρ v0 v1 m = some x) (hd : 0 ≤ d) : Ex d 38 0 [(2, ((v0 : Nat) : Int)), (0, v1)] [] (G, ρ, m) (some (0, x), (G, ρ, m)) := by
  unfold f38 at e
  have hm := mi_38
  generalize hk : (some (0, x), (G, ρ, m)) = rr
  replace hk : (Bpi G ρ m) x rr := hk.symm
  refine Ex_run 1 (i' := 1) (L' := [(2, ((v0 : Nat) : Int)), (0, v1)]) (st' := [(0, v1)]) (h' := (G, ρ, m)) hm rfl cjn ?_
  by_cases c1 : v1 < 0
  · replace e := it_p e c1
    refine Ex_if1t (c := 2) (tgt := 8) hm rfl (bt2 c1) ?_
    refine Ex_run 1 (i' := 9) (L' := [(2, ((v0 : Nat) : Int)), (0, v1)]) (st' := [(0, 0)]) (h' := (G, ρ, m)) hm rfl cjn ?_
    cases e
    cases hk
    exact Ex_ret (k := 2) hm rfl ⟨_, rfl, by decide, rfl⟩
  · replace e := it_n e c1
    refine Ex_if1f (c := 2) (tgt := 8) hm rfl (bf2 c1) ?_
    obtain ⟨g2, e⟩ := gd_s e
    refine Ex_run 3 (i' := 5) (L' := [(2, ((v0 : Nat) : Int)), (0, v1)]) (st' := [(0, (m v0 0)), (0, v1)]) (h' := (G, ρ, m)) hm rfl (cjc (gk_b g2) cjn) ?_
    by_cases c3 : v1 < (m v0 0)
    · replace e := it_p e c3
      refine Ex_if2f (c := 3) (tgt := 8) hm rfl (bf3 c3) ?_
      refine Ex_run 2 (i' := 9) (L' := [(2, ((v0 : Nat) : Int)), (0, v1)]) (st' := [(0, 1)]) (h' := (G, ρ, m)) hm rfl cjn ?_
      cases e
      cases hk
      exact Ex_ret (k := 2) hm rfl ⟨_, rfl, by decide, rfl⟩
    · replace e := it_n e c3
      refine Ex_if2t (c := 3) (tgt := 8) hm rfl (bt3 c3) ?_
      refine Ex_run 1 (i' := 9) (L' := [(2, ((v0 : Nat) : Int)), (0, v1)]) (st' := [(0, 0)]) (h' := (G, ρ, m)) hm rfl cjn ?_
      cases e
      cases hk
      exact Ex_ret (k := 2) hm rfl ⟨_, rfl, by decide, rfl⟩
theorem tf45_71 {G : Gg} {ρ : Rg} {d : Nat} {v3 : Int} {v4 : Int} {v5 : Int} {m : Sg} {x : Int} (e : f45_71 G ρ v3 v4 v5 m = some x) (hd : 2 ≤ d) (rr : Option MV × Mh) (hk : (Bpi G ρ m) x rr) (j0 : Nat) (j1 : Int) (j6 : Int) (j8 : Int) (j9 : MV) (j10 : MV) : Ex d 45 71 [(2, ((j0 : Nat) : Int)), (1, j1), (9, 0), (0, v3), (0, v4), (0, v5), (1, j6), (9, 0), (0, j8), j9, j10] [] (G, ρ, m) rr := by
  unfold f45_71 at e
  have hm := mi_45
  refine Ex_run 2 (i' := 73) (L' := [(2, ((j0 : Nat) : Int)), (1, j1), (9, 0), (0, v3), (0, v4), (0, v5), (1, j6), (9, 0), (0, j8), j9, j10]) (st' := [(0, (-1)), (0, v5)]) (h' := (G, ρ, m)) hm rfl cjn ?_
  by_cases c3 : v5 = (-1)
  · replace e := it_p e c3
    refine Ex_if2f (c := 1) (tgt := 80) hm rfl (bf1 c3) ?_
    refine Ex_run 6 (i' := 83) (L' := [(2, ((j0 : Nat) : Int)), (1, j1), (9, 0), (0, v3), (0, v4), (0, v5), (1, j6), (9, 0), (0, j8), j9, j10]) (st' := [(0, (g_add (g_mul 10 v4) v3))]) (h' := (G, ρ, m)) hm rfl cjn ?_
    cases e
    cases hk
    exact Ex_ret (k := 1) hm rfl ⟨_, rfl, rfl⟩
  · replace e := it_n e c3
    refine Ex_if2t (c := 1) (tgt := 80) hm rfl (bt1 c3) ?_
    refine Ex_run 3 (i' := 83) (L' := [(2, ((j0 : Nat) : Int)), (1, j1), (9, 0), (0, v3), (0, v4), (0, v5), (1, j6), (9, 0), (0, j8), j9, j10]) (st' := [(0, (g_add 100 v5))]) (h' := (G, ρ, m)) hm rfl cjn ?_
    cases e
    cases hk
    exact Ex_ret (k := 1) hm rfl ⟨_, rfl, rfl⟩
theorem tf45_b10 {G : Gg} {ρ : Rg} {d : Nat} {v0 : Nat} {m : Sg} {s : Int × Int × Int × Int × Int} {x : (Int × Int × Int × Int × Int) ⊕ (Int)} (e : f45_b10 G ρ v0 m s = some x) (hd : 2 ≤ d) (rr : Option MV × Mh) (hk : (DS (e45_10 G ρ d v0 m) (Bpi G ρ m)) x rr) : e45_10 G ρ d v0 m s rr := by
  unfold f45_b10 at e
  have hm := mi_45
  show ∀ (j1 : Int) (j9 : MV) (j10 : MV), Ex d 45 10 [(2, ((v0 : Nat) : Int)), (1, j1), (9, 0), (0, s.1), (0, s.2.1), (0, s.2.2.1), (1, s.2.2.2.1), (9, 0), (0, s.2.2.2.2), j9, j10] [] (G, ρ, m) rr
  intro j1 j9 j10
  refine Ex_run 2 (i' := 12) (L' := [(2, ((v0 : Nat) : Int)), (1, j1), (9, 0), (0, s.1), (0, s.2.1), (0, s.2.2.1), (1, s.2.2.2.1), (9, 0), (0, s.2.2.2.2), j9, j10]) (st' := [(0, 18), (0, s.2.2.2.2)]) (h' := (G, ρ, m)) hm rfl cjn ?_
  by_cases c1 : s.2.2.2.2 < 18
  · replace e := it_p e c1
    refine Ex_if2f (c := 3) (tgt := 71) hm rfl (bf3 c1) ?_
    refine Ex_run 5 (i' := 18) (L' := [(2, ((v0 : Nat) : Int)), (1, j1), (9, 0), (0, s.1), (0, s.2.1), (0, s.2.2.1), (1, s.2.2.2.1), (9, 0), (0, s.2.2.2.2), j9, j10]) (st' := [(0, (lcm3 (k_rem s.2.2.2.1 10) 0))]) (h' := (G, ρ, m)) hm rfl (cjc (by decide) cjn) ?_
    by_cases c2 : (k_rem s.2.2.2.1 10) = 0
    · replace e := it_p e c2
      refine Ex_if1t (c := 0) (tgt := 71) hm rfl (cm_lc 0 _ _ (bt0 c2)) ?_
      obtain ⟨x, e, hx⟩ := xr_s e
      replace hk : (Bpi G ρ m) x rr := by rw [hx] at hk; exact hk
      exact tf45_71 e hd rr hk _ _ _ _ _ _
    · replace e := it_n e c2
      refine Ex_if1f (c := 0) (tgt := 71) hm rfl (cm_lc 0 _ _ (bf0 c2)) ?_
      refine Ex_run 11 (i' := 30) (L' := [(2, ((v0 : Nat) : Int)), (1, j1), (9, 0), (0, s.1), (0, s.2.1), (0, s.2.2.1), (1, (k_div s.2.2.2.1 10)), (9, 0), (0, s.2.2.2.2), (0, (w32 (k_rem s.2.2.2.1 10))), j10]) (st' := [(0, (-1)), (0, s.2.2.1)]) (h' := (G, ρ, m)) hm rfl (cjc (by decide) (cjc (Nat.le_of_ble_eq_true rfl) (cjc (by decide) (cjc (Nat.le_of_ble_eq_true rfl) cjn)))) ?_
      by_cases c4 : s.2.2.1 = (-1)
      · replace e := it_p e c4
        refine Ex_if2f (c := 1) (tgt := 35) hm rfl (bf1 c4) ?_
        refine Ex_run 2 (i' := 33) (L' := [(2, ((v0 : Nat) : Int)), (1, j1), (9, 0), (0, s.1), (0, s.2.1), (0, s.2.2.1), (1, (k_div s.2.2.2.1 10)), (9, 0), (0, s.2.2.2.2), (0, (w32 (k_rem s.2.2.2.1 10))), j10]) (st' := [(0, (w32 (k_rem s.2.2.2.1 10))), (2, ((v0 : Nat) : Int))]) (h' := (G, ρ, m)) hm rfl cjn ?_
        obtain ⟨g5, e⟩ := gd_s e
        obtain ⟨q6, h6, e⟩ := bn_s e
        refine Ex_callm (z := 39) (na := 2) (ck := 7) (as := [(2, ((v0 : Nat) : Int)), (0, (w32 (k_rem s.2.2.2.1 10)))]) (rest := []) (E0 := [(2, ((v0 : Nat) : Int)), (0, (w32 (k_rem s.2.2.2.1 10)))]) (v := some (0, q6)) (h1 := (G, ρ, m)) hm rfl (by omega) ⟨Nat.le_of_ble_eq_true rfl, Nat.le_of_ble_eq_true rfl⟩ (rc2 rfl g5) rfl rfl ml_39 rfl (Nat.le_of_ble_eq_true rfl) (tf39 h6 (by omega)) ?_
        show Ex d 45 34 [(2, ((v0 : Nat) : Int)), (1, j1), (9, 0), (0, s.1), (0, s.2.1), (0, s.2.2.1), (1, (k_div s.2.2.2.1 10)), (9, 0), (0, s.2.2.2.2), (0, (w32 (k_rem s.2.2.2.1 10))), j10] [(0, q6)] (G, ρ, m) rr
        by_cases c7 : q6 = 0
        · replace e := it_p e c7
          refine Ex_if1f (c := 1) (tgt := 39) hm rfl (bf1 c7) ?_
          obtain ⟨x, e, hx⟩ := xr_s e
          replace hk : (Bpi G ρ m) x rr := by rw [hx] at hk; exact hk
          refine Ex_run 3 (i' := 38) (L' := [(2, ((v0 : Nat) : Int)), (1, j1), (9, 0), (0, s.1), (0, s.2.1), (0, s.2.2.1), (1, (k_div s.2.2.2.1 10)), (9, 0), (0, s.2.2.2.2), (0, (w32 (k_rem s.2.2.2.1 10))), j10]) (st' := [(0, (g_sub (-100) s.2.2.2.2))]) (h' := (G, ρ, m)) hm rfl cjn ?_
          cases e
          cases hk
          exact Ex_ret (k := 1) hm rfl ⟨_, rfl, rfl⟩
        · replace e := it_n e c7
          refine Ex_if1t (c := 1) (tgt := 39) hm rfl (bt1 c7) ?_
          refine Ex_run 3 (i' := 42) (L' := [(2, ((v0 : Nat) : Int)), (1, j1), (9, 0), (0, s.1), (0, s.2.1), (0, s.2.2.1), (1, (k_div s.2.2.2.1 10)), (9, 0), (0, s.2.2.2.2), (0, (w32 (k_rem s.2.2.2.1 10))), j10]) (st' := [(0, (w32 (k_rem s.2.2.2.1 10))), (0, s.1), (2, ((v0 : Nat) : Int))]) (h' := (G, ρ, m)) hm rfl cjn ?_
          obtain ⟨q8, h8, e⟩ := bn_s e
          refine Ex_callm (z := 43) (na := 3) (ck := 7) (as := [(2, ((v0 : Nat) : Int)), (0, s.1), (0, (w32 (k_rem s.2.2.2.1 10)))]) (rest := []) (E0 := [(2, ((v0 : Nat) : Int)), (0, s.1), (0, (w32 (k_rem s.2.2.2.1 10))), (9, 0)]) (v := some (0, q8)) (h1 := (G, ρ, m)) hm rfl (by omega) ⟨Nat.le_of_ble_eq_true rfl, Nat.le_of_ble_eq_true rfl⟩ (rc2 rfl g5) rfl rfl ml_43 rfl (Nat.le_of_ble_eq_true rfl) (tf43 h8 (by omega)) ?_
          show Ex d 45 43 [(2, ((v0 : Nat) : Int)), (1, j1), (9, 0), (0, s.1), (0, s.2.1), (0, s.2.2.1), (1, (k_div s.2.2.2.1 10)), (9, 0), (0, s.2.2.2.2), (0, (w32 (k_rem s.2.2.2.1 10))), j10] [(0, q8)] (G, ρ, m) rr
          refine Ex_run 4 (i' := 47) (L' := [(2, ((v0 : Nat) : Int)), (1, j1), (9, 0), (0, s.1), (0, s.2.1), (0, s.2.2.1), (1, (k_div s.2.2.2.1 10)), (9, 0), (0, s.2.2.2.2), (0, (w32 (k_rem s.2.2.2.1 10))), (0, q8)]) (st' := [(0, (w32 (k_rem s.2.2.2.1 10))), (0, s.1), (2, ((v0 : Nat) : Int))]) (h' := (G, ρ, m)) hm rfl (cjc (Nat.le_of_ble_eq_true rfl) cjn) ?_
          obtain ⟨q9, h9, e⟩ := bn_s e
          refine Ex_callm (z := 44) (na := 3) (ck := 7) (as := [(2, ((v0 : Nat) : Int)), (0, s.1), (0, (w32 (k_rem s.2.2.2.1 10)))]) (rest := []) (E0 := [(2, ((v0 : Nat) : Int)), (0, s.1), (0, (w32 (k_rem s.2.2.2.1 10))), (9, 0)]) (v := some (0, q9)) (h1 := (G, ρ, m)) hm rfl (by omega) ⟨Nat.le_of_ble_eq_true rfl, Nat.le_of_ble_eq_true rfl⟩ (rc2 rfl g5) rfl rfl ml_44 rfl (Nat.le_of_ble_eq_true rfl) (tf44 h9 (by omega)) ?_
          show Ex d 45 48 [(2, ((v0 : Nat) : Int)), (1, j1), (9, 0), (0, s.1), (0, s.2.1), (0, s.2.2.1), (1, (k_div s.2.2.2.1 10)), (9, 0), (0, s.2.2.2.2), (0, (w32 (k_rem s.2.2.2.1 10))), (0, q8)] [(0, q9)] (G, ρ, m) rr
          refine Ex_run 3 (i' := 51) (L' := [(2, ((v0 : Nat) : Int)), (1, j1), (9, 0), (0, q9), (0, s.2.1), (0, s.2.2.1), (1, (k_div s.2.2.2.1 10)), (9, 0), (0, s.2.2.2.2), (0, (w32 (k_rem s.2.2.2.1 10))), (0, q8)]) (st' := [(0, 2), (0, q8)]) (h' := (G, ρ, m)) hm rfl (cjc (Nat.le_of_ble_eq_true rfl) cjn) ?_
          by_cases c10 : q8 = 2
          · replace e := it_p e c10
            refine Ex_if2f (c := 1) (tgt := 55) hm rfl (bf1 c10) ?_
            refine Ex_run 5 (i' := 10) (L' := [(2, ((v0 : Nat) : Int)), (1, j1), (9, 0), (0, q9), (0, s.2.1), (0, s.2.1), (1, (k_div s.2.2.2.1 10)), (9, 0), (0, (w32 (s.2.2.2.2 + 1))), (0, (w32 (k_rem s.2.2.2.1 10))), (0, q8)]) (st' := []) (h' := (G, ρ, m)) hm rfl (cjc (Nat.le_of_ble_eq_true rfl) cjn) ?_
            cases e
            exact hk _ _ _
          · replace e := it_n e c10
            refine Ex_if2t (c := 1) (tgt := 55) hm rfl (bt1 c10) ?_
            refine Ex_run 2 (i' := 57) (L' := [(2, ((v0 : Nat) : Int)), (1, j1), (9, 0), (0, q9), (0, s.2.1), (0, s.2.2.1), (1, (k_div s.2.2.2.1 10)), (9, 0), (0, s.2.2.2.2), (0, (w32 (k_rem s.2.2.2.1 10))), (0, q8)]) (st' := [(0, 3), (0, q8)]) (h' := (G, ρ, m)) hm rfl cjn ?_
            by_cases c11 : q8 = 3
            · replace e := it_p e c11
              refine Ex_if2f (c := 1) (tgt := 63) hm rfl (bf1 c11) ?_
              refine Ex_run 7 (i' := 10) (L' := [(2, ((v0 : Nat) : Int)), (1, j1), (9, 0), (0, q9), (0, s.2.1), (0, (g_sub 1 s.2.1)), (1, (k_div s.2.2.2.1 10)), (9, 0), (0, (w32 (s.2.2.2.2 + 1))), (0, (w32 (k_rem s.2.2.2.1 10))), (0, q8)]) (st' := []) (h' := (G, ρ, m)) hm rfl (cjc (Nat.le_of_ble_eq_true rfl) cjn) ?_
              cases e
              exact hk _ _ _
            · replace e := it_n e c11
              refine Ex_if2t (c := 1) (tgt := 63) hm rfl (bt1 c11) ?_
              refine Ex_run 1 (i' := 64) (L' := [(2, ((v0 : Nat) : Int)), (1, j1), (9, 0), (0, q9), (0, s.2.1), (0, s.2.2.1), (1, (k_div s.2.2.2.1 10)), (9, 0), (0, s.2.2.2.2), (0, (w32 (k_rem s.2.2.2.1 10))), (0, q8)]) (st' := [(0, q8)]) (h' := (G, ρ, m)) hm rfl cjn ?_
              by_cases c12 : q8 = 0
              · replace e := it_p e c12
                refine Ex_if1f (c := 1) (tgt := 69) hm rfl (bf1 c12) ?_
                refine Ex_run 6 (i' := 10) (L' := [(2, ((v0 : Nat) : Int)), (1, j1), (9, 0), (0, q9), (0, (g_sub 1 s.2.1)), (0, s.2.2.1), (1, (k_div s.2.2.2.1 10)), (9, 0), (0, (w32 (s.2.2.2.2 + 1))), (0, (w32 (k_rem s.2.2.2.1 10))), (0, q8)]) (st' := []) (h' := (G, ρ, m)) hm rfl (cjc (Nat.le_of_ble_eq_true rfl) cjn) ?_
                cases e
                exact hk _ _ _
              · replace e := it_n e c12
                refine Ex_if1t (c := 1) (tgt := 69) hm rfl (bt1 c12) ?_
                refine Ex_run 2 (i' := 10) (L' := [(2, ((v0 : Nat) : Int)), (1, j1), (9, 0), (0, q9), (0, s.2.1), (0, s.2.2.1), (1, (k_div s.2.2.2.1 10)), (9, 0), (0, (w32 (s.2.2.2.2 + 1))), (0, (w32 (k_rem s.2.2.2.1 10))), (0, q8)]) (st' := []) (h' := (G, ρ, m)) hm rfl cjn ?_
                cases e
                exact hk _ _ _
      · replace e := it_n e c4
        refine Ex_if2t (c := 1) (tgt := 35) hm rfl (bt1 c4) ?_
        obtain ⟨x, e, hx⟩ := xr_s e
        replace hk : (Bpi G ρ m) x rr := by rw [hx] at hk; exact hk
        refine Ex_run 3 (i' := 38) (L' := [(2, ((v0 : Nat) : Int)), (1, j1), (9, 0), (0, s.1), (0, s.2.1), (0, s.2.2.1), (1, (k_div s.2.2.2.1 10)), (9, 0), (0, s.2.2.2.2), (0, (w32 (k_rem s.2.2.2.1 10))), j10]) (st' := [(0, (g_sub (-100) s.2.2.2.2))]) (h' := (G, ρ, m)) hm rfl cjn ?_
        cases e
        cases hk
        exact Ex_ret (k := 1) hm rfl ⟨_, rfl, rfl⟩
  · replace e := it_n e c1
    refine Ex_if2t (c := 3) (tgt := 71) hm rfl (bt3 c1) ?_
    obtain ⟨x, e, hx⟩ := xr_s e
    replace hk : (Bpi G ρ m) x rr := by rw [hx] at hk; exact hk
    exact tf45_71 e hd rr hk _ _ _ _ _ _
theorem tf45 {G : Gg} {ρ : Rg} {d : Nat} {v0 : Nat} {v1 : Int} {m : Sg} {x : Int} (e : f45 G ρ v0 v1 m = some x) (hd : 2 ≤ d) : Ex d 45 0 [(2, ((v0 : Nat) : Int)), (1, v1), (9, 0), (9, 0), (9, 0), (9, 0), (9, 0), (9, 0), (9, 0), (9, 0), (9, 0)] [] (G, ρ, m) (some (0, x), (G, ρ, m)) := by
  unfold f45 at e
  have hm := mi_45
  generalize hk : (some (0, x), (G, ρ, m)) = rr
  replace hk : (Bpi G ρ m) x rr := hk.symm
  refine Ex_run 10 (i' := 10) (L' := [(2, ((v0 : Nat) : Int)), (1, v1), (9, 0), (0, 0), (0, 0), (0, (-1)), (1, v1), (9, 0), (0, 0), (9, 0), (9, 0)]) (st' := []) (h' := (G, ρ, m)) hm rfl (cjc (Nat.le_of_ble_eq_true rfl) (cjc (Nat.le_of_ble_eq_true rfl) (cjc (Nat.le_of_ble_eq_true rfl) (cjc (Nat.le_of_ble_eq_true rfl) (cjc (Nat.le_of_ble_eq_true rfl) cjn))))) ?_
  exact (Ex_lp (A := e45_10 G ρ d v0 m ) (B := (Bpi G ρ m)) (fun s x e rr hk => tf45_b10 e hd rr hk) FU _ _ e rr hk) _ _ _
theorem tf47 {d : Nat} {v0 : Nat} {h : Mh} {x : Mh} (e : f47 v0 h = some x) (hd : 2 ≤ d) : Ex d 47 0 [(2, ((v0 : Nat) : Int))] [] h (none, x) := by
  unfold f47 at e
  have hm := mi_47
  generalize hk : (none, x) = rr
  replace hk : Hv x rr := hk.symm
  refine Ex_run 1 (i' := 1) (L' := [(2, ((v0 : Nat) : Int))]) (st' := [(2, ((v0 : Nat) : Int))]) (h' := (h.1, h.2.1, h.2.2)) hm rfl cjn ?_
  obtain ⟨g1, e⟩ := gd_s e
  refine Ex_prim (k := 1) (i' := 2) (L' := [(2, ((v0 : Nat) : Int))]) (st' := []) (h' := (h.1, h.2.1, h.2.2)) hm rfl (by omega) rfl (cjc (nz_i g1) (cjc (Nat.le_of_ble_eq_true rfl) cjn)) ?_
  refine Ex_run 4 (i' := 6) (L' := [(2, ((v0 : Nat) : Int))]) (st' := [(0, 160), (2, (((List.length h.1) : Nat) : Int)), (2, (((List.length h.1) : Nat) : Int)), (2, ((v0 : Nat) : Int))]) (h' := ((h.1 ++ [(6, 1)]), (zapR h.2.1 (List.length h.1)), (zap h.2.2 (List.length h.1)))) hm rfl cjn ?_
  obtain ⟨g2, e⟩ := gd_s e
  obtain ⟨q3, h3, e⟩ := bn_s e
  refine Ex_callm (z := 32) (na := 2) (ck := 1) (as := [(2, (((List.length h.1) : Nat) : Int)), (0, 160)]) (rest := [(2, (((List.length h.1) : Nat) : Int)), (2, ((v0 : Nat) : Int))]) (E0 := [(2, (((List.length h.1) : Nat) : Int)), (0, 160)]) (v := none) (h1 := (q3.1, q3.2.1, q3.2.2)) hm rfl (by omega) ⟨Nat.le_of_ble_eq_true rfl, Nat.le_of_ble_eq_true rfl⟩ (⟨_, rfl, nz_i g2⟩) rfl rfl ml_32 rfl (Nat.le_of_ble_eq_true rfl) (tf32 h3 (by omega)) ?_
  show Ex d 47 7 [(2, ((v0 : Nat) : Int))] [(2, (((List.length h.1) : Nat) : Int)), (2, ((v0 : Nat) : Int))] (q3.1, q3.2.1, q3.2.2) rr
  obtain ⟨g4, e⟩ := gd_s e
  refine Ex_run 5 (i' := 12) (L' := [(2, ((v0 : Nat) : Int))]) (st' := [(0, 4), (2, (((List.length q3.1) : Nat) : Int)), (2, (((List.length q3.1) : Nat) : Int)), (2, ((v0 : Nat) : Int))]) (h' := ((q3.1 ++ [(6, 1)]), (zapR (putR q3.2.1 v0 0 (List.length h.1)) (List.length q3.1)), (zap q3.2.2 (List.length q3.1)))) hm rfl (cjc (gk_b g4) (cjc (nz_i g2) cjn)) ?_
  obtain ⟨g5, e⟩ := gd_s e
  obtain ⟨q6, h6, e⟩ := bn_s e
  refine Ex_callm (z := 32) (na := 2) (ck := 1) (as := [(2, (((List.length q3.1) : Nat) : Int)), (0, 4)]) (rest := [(2, (((List.length q3.1) : Nat) : Int)), (2, ((v0 : Nat) : Int))]) (E0 := [(2, (((List.length q3.1) : Nat) : Int)), (0, 4)]) (v := none) (h1 := (q6.1, q6.2.1, q6.2.2)) hm rfl (by omega) ⟨Nat.le_of_ble_eq_true rfl, Nat.le_of_ble_eq_true rfl⟩ (⟨_, rfl, nz_i g5⟩) rfl rfl ml_32 rfl (Nat.le_of_ble_eq_true rfl) (tf32 h6 (by omega)) ?_
  show Ex d 47 13 [(2, ((v0 : Nat) : Int))] [(2, (((List.length q3.1) : Nat) : Int)), (2, ((v0 : Nat) : Int))] (q6.1, q6.2.1, q6.2.2) rr
  obtain ⟨g7, e⟩ := gd_s e
  refine Ex_run 5 (i' := 18) (L' := [(2, ((v0 : Nat) : Int))]) (st' := [(0, 4), (2, (((List.length q6.1) : Nat) : Int)), (2, (((List.length q6.1) : Nat) : Int)), (2, ((v0 : Nat) : Int))]) (h' := ((q6.1 ++ [(6, 1)]), (zapR (putR q6.2.1 v0 1 (List.length q3.1)) (List.length q6.1)), (zap q6.2.2 (List.length q6.1)))) hm rfl (cjc (gk_b g7) (cjc (nz_i g5) cjn)) ?_
  obtain ⟨g8, e⟩ := gd_s e
  obtain ⟨q9, h9, e⟩ := bn_s e
  refine Ex_callm (z := 32) (na := 2) (ck := 1) (as := [(2, (((List.length q6.1) : Nat) : Int)), (0, 4)]) (rest := [(2, (((List.length q6.1) : Nat) : Int)), (2, ((v0 : Nat) : Int))]) (E0 := [(2, (((List.length q6.1) : Nat) : Int)), (0, 4)]) (v := none) (h1 := (q9.1, q9.2.1, q9.2.2)) hm rfl (by omega) ⟨Nat.le_of_ble_eq_true rfl, Nat.le_of_ble_eq_true rfl⟩ (⟨_, rfl, nz_i g8⟩) rfl rfl ml_32 rfl (Nat.le_of_ble_eq_true rfl) (tf32 h9 (by omega)) ?_
  show Ex d 47 19 [(2, ((v0 : Nat) : Int))] [(2, (((List.length q6.1) : Nat) : Int)), (2, ((v0 : Nat) : Int))] (q9.1, q9.2.1, q9.2.2) rr
  obtain ⟨g10, e⟩ := gd_s e
  refine Ex_run 4 (i' := 23) (L' := [(2, ((v0 : Nat) : Int))]) (st' := [(0, (-1)), (2, ((((putR q9.2.1 v0 2 (List.length q6.1)) v0 1) : Nat) : Int))]) (h' := (q9.1, (putR q9.2.1 v0 2 (List.length q6.1)), q9.2.2)) hm rfl (cjc (gk_b g10) (cjc (nz_i g8) (cjc (gk_b g10) cjn))) ?_
  obtain ⟨g11, e⟩ := gd_s e
  obtain ⟨q12, h12, e⟩ := bn_s e
  refine Ex_callm (z := 35) (na := 2) (ck := 6) (as := [(2, ((((putR q9.2.1 v0 2 (List.length q6.1)) v0 1) : Nat) : Int)), (0, (-1))]) (rest := []) (E0 := [(2, ((((putR q9.2.1 v0 2 (List.length q6.1)) v0 1) : Nat) : Int)), (0, (-1)), (9, 0)]) (v := none) (h1 := (q9.1, (putR q9.2.1 v0 2 (List.length q6.1)), q12)) hm rfl (by omega) ⟨Nat.le_of_ble_eq_true rfl, Nat.le_of_ble_eq_true rfl⟩ (rc2 rfl g11) rfl rfl ml_35 rfl (Nat.le_of_ble_eq_true rfl) (tf35 h12 (by omega)) ?_
  show Ex d 47 24 [(2, ((v0 : Nat) : Int))] [] (q9.1, (putR q9.2.1 v0 2 (List.length q6.1)), q12) rr
  cases e
  cases hk
  exact Ex_ret (k := 0) hm rfl ⟨rfl, rfl⟩
theorem tf48 {G : Gg} {ρ : Rg} {d : Nat} {v0 : Nat} {v1 : Int} {m : Sg} {x : Int} (e : f48 G ρ v0 v1 m = some x) (hd : 1 ≤ d) : Ex d 48 0 [(2, ((v0 : Nat) : Int)), (0, v1)] [] (G, ρ, m) (some (0, x), (G, ρ, m)) := by
  unfold f48 at e
  have hm := mi_48
  generalize hk : (some (0, x), (G, ρ, m)) = rr
  replace hk : (Bpi G ρ m) x rr := hk.symm
  obtain ⟨g1, e⟩ := gd_s e
  refine Ex_run 3 (i' := 3) (L' := [(2, ((v0 : Nat) : Int)), (0, v1)]) (st' := [(0, v1), (2, (((ρ v0 1) : Nat) : Int))]) (h' := (G, ρ, m)) hm rfl (cjc (gk_b g1) cjn) ?_
  obtain ⟨g2, e⟩ := gd_s e
  obtain ⟨q3, h3, e⟩ := bn_s e
  refine Ex_callm (z := 33) (na := 2) (ck := 6) (as := [(2, (((ρ v0 1) : Nat) : Int)), (0, v1)]) (rest := []) (E0 := [(2, (((ρ v0 1) : Nat) : Int)), (0, v1)]) (v := some (0, q3)) (h1 := (G, ρ, m)) hm rfl (by omega) ⟨Nat.le_of_ble_eq_true rfl, Nat.le_of_ble_eq_true rfl⟩ (rc2 rfl g2) rfl rfl ml_33 rfl (Nat.le_of_ble_eq_true rfl) (tf33 h3 (by omega)) ?_
  show Ex d 48 4 [(2, ((v0 : Nat) : Int)), (0, v1)] [(0, q3)] (G, ρ, m) rr
  refine Ex_run 1 (i' := 5) (L' := [(2, ((v0 : Nat) : Int)), (0, v1)]) (st' := [(0, (-1)), (0, q3)]) (h' := (G, ρ, m)) hm rfl cjn ?_
  by_cases c4 : q3 = (-1)
  · replace e := it_p e c4
    refine Ex_if2f (c := 1) (tgt := 8) hm rfl (bf1 c4) ?_
    refine Ex_run 2 (i' := 9) (L' := [(2, ((v0 : Nat) : Int)), (0, v1)]) (st' := [(0, 1)]) (h' := (G, ρ, m)) hm rfl cjn ?_
    cases e
    cases hk
    exact Ex_ret (k := 2) hm rfl ⟨_, rfl, by decide, rfl⟩
  · replace e := it_n e c4
    refine Ex_if2t (c := 1) (tgt := 8) hm rfl (bt1 c4) ?_
    refine Ex_run 1 (i' := 9) (L' := [(2, ((v0 : Nat) : Int)), (0, v1)]) (st' := [(0, 0)]) (h' := (G, ρ, m)) hm rfl cjn ?_
    cases e
    cases hk
    exact Ex_ret (k := 2) hm rfl ⟨_, rfl, by decide, rfl⟩
theorem tf54 {G : Gg} {ρ : Rg} {d : Nat} {v0 : Int} {v1 : Int} {m : Sg} {x : Int} (e : f54 G ρ v0 v1 m = some x) (hd : 0 ≤ d) : Ex d 54 0 [(0, v0), (0, v1)] [] (G, ρ, m) (some (0, x), (G, ρ, m)) := by
  unfold f54 at e
  have hm := mi_54
  generalize hk : (some (0, x), (G, ρ, m)) = rr
  replace hk : (Bpi G ρ m) x rr := hk.symm
  refine Ex_run 5 (i' := 5) (L' := [(0, v0), (0, v1)]) (st' := [(0, (g_add (g_mul v0 40) v1))]) (h' := (G, ρ, m)) hm rfl cjn ?_
  cases e
  cases hk
  exact Ex_ret (k := 1) hm rfl ⟨_, rfl, rfl⟩
theorem tf49_b12 {G : Gg} {ρ : Rg} {d : Nat} {v0 : Nat} {v1 : Int} {s : Int × Sg} {x : (Int × Sg) ⊕ (Sg)} (e : f49_b12 G ρ v0 v1 s = some x) (hd : 1 ≤ d) (rr : Option MV × Mh) (hk : (DS (e49_12 G ρ d v0 v1) (Bv G ρ)) x rr) : e49_12 G ρ d v0 v1 s rr := by
  unfold f49_b12 at e
  have hm := mi_49
  show ∀ (j2 : Int) (j3 : Int), Ex d 49 12 [(2, ((v0 : Nat) : Int)), (0, v1), (0, j2), (0, j3), (0, s.1)] [] (G, ρ, s.2) rr
  intro j2 j3
  refine Ex_run 2 (i' := 14) (L' := [(2, ((v0 : Nat) : Int)), (0, v1), (0, j2), (0, j3), (0, s.1)]) (st' := [(0, 40), (0, s.1)]) (h' := (G, ρ, s.2)) hm rfl cjn ?_
  by_cases c6 : s.1 < 40
  · replace e := it_p e c6
    refine Ex_if2f (c := 3) (tgt := 24) hm rfl (bf3 c6) ?_
    obtain ⟨g7, e⟩ := gd_s e
    refine Ex_run 4 (i' := 19) (L' := [(2, ((v0 : Nat) : Int)), (0, v1), (0, j2), (0, j3), (0, s.1)]) (st' := [(0, s.1), (0, v1), (2, (((ρ v0 0) : Nat) : Int))]) (h' := (G, ρ, s.2)) hm rfl (cjc (gk_b g7) cjn) ?_
    obtain ⟨q8, h8, e⟩ := bn_s e
    refine Ex_callm (z := 54) (na := 2) (ck := 0) (as := [(0, v1), (0, s.1)]) (rest := [(2, (((ρ v0 0) : Nat) : Int))]) (E0 := [(0, v1), (0, s.1)]) (v := some (0, q8)) (h1 := (G, ρ, s.2)) hm rfl (by omega) ⟨Nat.le_of_ble_eq_true rfl, Nat.le_of_ble_eq_true rfl⟩ (trivial) rfl rfl ml_54 rfl (Nat.le_of_ble_eq_true rfl) (tf54 h8 (by omega)) ?_
    show Ex d 49 20 [(2, ((v0 : Nat) : Int)), (0, v1), (0, j2), (0, j3), (0, s.1)] [(0, q8), (2, (((ρ v0 0) : Nat) : Int))] (G, ρ, s.2) rr
    refine Ex_run 1 (i' := 21) (L' := [(2, ((v0 : Nat) : Int)), (0, v1), (0, j2), (0, j3), (0, s.1)]) (st' := [(0, 0), (0, q8), (2, (((ρ v0 0) : Nat) : Int))]) (h' := (G, ρ, s.2)) hm rfl cjn ?_
    obtain ⟨g9, e⟩ := gd_s e
    obtain ⟨q10, h10, e⟩ := bn_s e
    refine Ex_callm (z := 34) (na := 3) (ck := 6) (as := [(2, (((ρ v0 0) : Nat) : Int)), (0, q8), (0, 0)]) (rest := []) (E0 := [(2, (((ρ v0 0) : Nat) : Int)), (0, q8), (0, 0)]) (v := none) (h1 := (G, ρ, q10)) hm rfl (by omega) ⟨Nat.le_of_ble_eq_true rfl, Nat.le_of_ble_eq_true rfl⟩ (rc2 rfl g9) rfl rfl ml_34 rfl (Nat.le_of_ble_eq_true rfl) (tf34 h10 (by omega)) ?_
    show Ex d 49 22 [(2, ((v0 : Nat) : Int)), (0, v1), (0, j2), (0, j3), (0, s.1)] [] (G, ρ, q10) rr
    refine Ex_run 2 (i' := 12) (L' := [(2, ((v0 : Nat) : Int)), (0, v1), (0, j2), (0, j3), (0, (w32 (s.1 + 1)))]) (st' := []) (h' := (G, ρ, q10)) hm rfl cjn ?_
    cases e
    exact hk _ _
  · replace e := it_n e c6
    refine Ex_if2t (c := 3) (tgt := 24) hm rfl (bt3 c6) ?_
    obtain ⟨x, e, hx⟩ := xr_s e
    replace hk : (Bv G ρ) x rr := by rw [hx] at hk; exact hk
    cases e
    cases hk
    exact Ex_ret (k := 0) hm rfl ⟨rfl, rfl⟩
theorem tf49 {G : Gg} {ρ : Rg} {d : Nat} {v0 : Nat} {v1 : Int} {v2 : Int} {v3 : Int} {m : Sg} {x : Sg} (e : f49 G ρ v0 v1 v2 v3 m = some x) (hd : 1 ≤ d) : Ex d 49 0 [(2, ((v0 : Nat) : Int)), (0, v1), (0, v2), (0, v3), (9, 0)] [] (G, ρ, m) (none, (G, ρ, x)) := by
  unfold f49 at e
  have hm := mi_49
  generalize hk : (none, (G, ρ, x)) = rr
  replace hk : (Bv G ρ) x rr := hk.symm
  obtain ⟨g1, e⟩ := gd_s e
  refine Ex_run 4 (i' := 4) (L' := [(2, ((v0 : Nat) : Int)), (0, v1), (0, v2), (0, v3), (9, 0)]) (st' := [(0, v2), (0, v1), (2, (((ρ v0 1) : Nat) : Int))]) (h' := (G, ρ, m)) hm rfl (cjc (gk_b g1) cjn) ?_
  obtain ⟨g2, e⟩ := gd_s e
  obtain ⟨q3, h3, e⟩ := bn_s e
  refine Ex_callm (z := 34) (na := 3) (ck := 6) (as := [(2, (((ρ v0 1) : Nat) : Int)), (0, v1), (0, v2)]) (rest := []) (E0 := [(2, (((ρ v0 1) : Nat) : Int)), (0, v1), (0, v2)]) (v := none) (h1 := (G, ρ, q3)) hm rfl (by omega) ⟨Nat.le_of_ble_eq_true rfl, Nat.le_of_ble_eq_true rfl⟩ (rc2 rfl g2) rfl rfl ml_34 rfl (Nat.le_of_ble_eq_true rfl) (tf34 h3 (by omega)) ?_
  show Ex d 49 5 [(2, ((v0 : Nat) : Int)), (0, v1), (0, v2), (0, v3), (9, 0)] [] (G, ρ, q3) rr
  refine Ex_run 4 (i' := 9) (L' := [(2, ((v0 : Nat) : Int)), (0, v1), (0, v2), (0, v3), (9, 0)]) (st' := [(0, v3), (0, v1), (2, (((ρ v0 2) : Nat) : Int))]) (h' := (G, ρ, q3)) hm rfl (cjc (gk_b g1) cjn) ?_
  obtain ⟨g4, e⟩ := gd_s e
  obtain ⟨q5, h5, e⟩ := bn_s e
  refine Ex_callm (z := 34) (na := 3) (ck := 6) (as := [(2, (((ρ v0 2) : Nat) : Int)), (0, v1), (0, v3)]) (rest := []) (E0 := [(2, (((ρ v0 2) : Nat) : Int)), (0, v1), (0, v3)]) (v := none) (h1 := (G, ρ, q5)) hm rfl (by omega) ⟨Nat.le_of_ble_eq_true rfl, Nat.le_of_ble_eq_true rfl⟩ (rc2 rfl g4) rfl rfl ml_34 rfl (Nat.le_of_ble_eq_true rfl) (tf34 h5 (by omega)) ?_
  show Ex d 49 10 [(2, ((v0 : Nat) : Int)), (0, v1), (0, v2), (0, v3), (9, 0)] [] (G, ρ, q5) rr
  refine Ex_run 2 (i' := 12) (L' := [(2, ((v0 : Nat) : Int)), (0, v1), (0, v2), (0, v3), (0, 0)]) (st' := []) (h' := (G, ρ, q5)) hm rfl (cjc (Nat.le_of_ble_eq_true rfl) cjn) ?_
  exact (Ex_lp (A := e49_12 G ρ d v0 v1 ) (B := (Bv G ρ)) (fun s x e rr hk => tf49_b12 e hd rr hk) FU _ _ e rr hk) _ _
theorem tf50 {G : Gg} {ρ : Rg} {d : Nat} {v0 : Nat} {v1 : Int} {v2 : Int} {v3 : Int} {m : Sg} {x : Int} (e : f50 G ρ v0 v1 v2 v3 m = some x) (hd : 1 ≤ d) : Ex d 50 0 [(2, ((v0 : Nat) : Int)), (0, v1), (0, v2), (0, v3)] [] (G, ρ, m) (some (0, x), (G, ρ, m)) := by
  unfold f50 at e
  have hm := mi_50
  generalize hk : (some (0, x), (G, ρ, m)) = rr
  replace hk : (Bpi G ρ m) x rr := hk.symm
  refine Ex_run 1 (i' := 1) (L' := [(2, ((v0 : Nat) : Int)), (0, v1), (0, v2), (0, v3)]) (st' := [(0, v2)]) (h' := (G, ρ, m)) hm rfl cjn ?_
  by_cases c1 : v2 < 0
  · replace e := it_p e c1
    refine Ex_if1t (c := 2) (tgt := 14) hm rfl (bt2 c1) ?_
    refine Ex_run 1 (i' := 15) (L' := [(2, ((v0 : Nat) : Int)), (0, v1), (0, v2), (0, v3)]) (st' := [(0, 0)]) (h' := (G, ρ, m)) hm rfl cjn ?_
    cases e
    cases hk
    exact Ex_ret (k := 2) hm rfl ⟨_, rfl, by decide, rfl⟩
  · replace e := it_n e c1
    refine Ex_if1f (c := 2) (tgt := 14) hm rfl (bf2 c1) ?_
    refine Ex_run 1 (i' := 3) (L' := [(2, ((v0 : Nat) : Int)), (0, v1), (0, v2), (0, v3)]) (st' := [(0, v3)]) (h' := (G, ρ, m)) hm rfl cjn ?_
    by_cases c2 : v3 < 0
    · replace e := it_p e c2
      refine Ex_if1t (c := 2) (tgt := 14) hm rfl (bt2 c2) ?_
      refine Ex_run 1 (i' := 15) (L' := [(2, ((v0 : Nat) : Int)), (0, v1), (0, v2), (0, v3)]) (st' := [(0, 0)]) (h' := (G, ρ, m)) hm rfl cjn ?_
      cases e
      cases hk
      exact Ex_ret (k := 2) hm rfl ⟨_, rfl, by decide, rfl⟩
    · replace e := it_n e c2
      refine Ex_if1f (c := 2) (tgt := 14) hm rfl (bf2 c2) ?_
      obtain ⟨g3, e⟩ := gd_s e
      refine Ex_run 4 (i' := 8) (L' := [(2, ((v0 : Nat) : Int)), (0, v1), (0, v2), (0, v3)]) (st' := [(0, v1), (2, (((ρ v0 2) : Nat) : Int)), (0, v2)]) (h' := (G, ρ, m)) hm rfl (cjc (gk_b g3) cjn) ?_
      obtain ⟨g4, e⟩ := gd_s e
      obtain ⟨q5, h5, e⟩ := bn_s e
      refine Ex_callm (z := 33) (na := 2) (ck := 6) (as := [(2, (((ρ v0 2) : Nat) : Int)), (0, v1)]) (rest := [(0, v2)]) (E0 := [(2, (((ρ v0 2) : Nat) : Int)), (0, v1)]) (v := some (0, q5)) (h1 := (G, ρ, m)) hm rfl (by omega) ⟨Nat.le_of_ble_eq_true rfl, Nat.le_of_ble_eq_true rfl⟩ (rc2 rfl g4) rfl rfl ml_33 rfl (Nat.le_of_ble_eq_true rfl) (tf33 h5 (by omega)) ?_
      show Ex d 50 9 [(2, ((v0 : Nat) : Int)), (0, v1), (0, v2), (0, v3)] [(0, q5), (0, v2)] (G, ρ, m) rr
      refine Ex_run 2 (i' := 11) (L' := [(2, ((v0 : Nat) : Int)), (0, v1), (0, v2), (0, v3)]) (st' := [(0, (g_sub q5 v3)), (0, v2)]) (h' := (G, ρ, m)) hm rfl cjn ?_
      by_cases c6 : (g_sub q5 v3) < v2
      · replace e := it_p e c6
        refine Ex_if2t (c := 4) (tgt := 14) hm rfl (bt4 c6) ?_
        refine Ex_run 1 (i' := 15) (L' := [(2, ((v0 : Nat) : Int)), (0, v1), (0, v2), (0, v3)]) (st' := [(0, 0)]) (h' := (G, ρ, m)) hm rfl cjn ?_
        cases e
        cases hk
        exact Ex_ret (k := 2) hm rfl ⟨_, rfl, by decide, rfl⟩
      · replace e := it_n e c6
        refine Ex_if2f (c := 4) (tgt := 14) hm rfl (bf4 c6) ?_
        refine Ex_run 2 (i' := 15) (L' := [(2, ((v0 : Nat) : Int)), (0, v1), (0, v2), (0, v3)]) (st' := [(0, 1)]) (h' := (G, ρ, m)) hm rfl cjn ?_
        cases e
        cases hk
        exact Ex_ret (k := 2) hm rfl ⟨_, rfl, by decide, rfl⟩
theorem tf51 {G : Gg} {ρ : Rg} {d : Nat} {v0 : Nat} {v1 : Int} {v2 : Int} {m : Sg} {x : Int} (e : f51 G ρ v0 v1 v2 m = some x) (hd : 1 ≤ d) : Ex d 51 0 [(2, ((v0 : Nat) : Int)), (0, v1), (0, v2)] [] (G, ρ, m) (some (0, x), (G, ρ, m)) := by
  unfold f51 at e
  have hm := mi_51
  generalize hk : (some (0, x), (G, ρ, m)) = rr
  replace hk : (Bpi G ρ m) x rr := hk.symm
  obtain ⟨g1, e⟩ := gd_s e
  refine Ex_run 4 (i' := 4) (L' := [(2, ((v0 : Nat) : Int)), (0, v1), (0, v2)]) (st' := [(0, v2), (0, v1), (2, (((ρ v0 0) : Nat) : Int))]) (h' := (G, ρ, m)) hm rfl (cjc (gk_b g1) cjn) ?_
  obtain ⟨q2, h2, e⟩ := bn_s e
  refine Ex_callm (z := 54) (na := 2) (ck := 0) (as := [(0, v1), (0, v2)]) (rest := [(2, (((ρ v0 0) : Nat) : Int))]) (E0 := [(0, v1), (0, v2)]) (v := some (0, q2)) (h1 := (G, ρ, m)) hm rfl (by omega) ⟨Nat.le_of_ble_eq_true rfl, Nat.le_of_ble_eq_true rfl⟩ (trivial) rfl rfl ml_54 rfl (Nat.le_of_ble_eq_true rfl) (tf54 h2 (by omega)) ?_
  show Ex d 51 5 [(2, ((v0 : Nat) : Int)), (0, v1), (0, v2)] [(0, q2), (2, (((ρ v0 0) : Nat) : Int))] (G, ρ, m) rr
  obtain ⟨g3, e⟩ := gd_s e
  obtain ⟨q4, h4, e⟩ := bn_s e
  refine Ex_callm (z := 33) (na := 2) (ck := 6) (as := [(2, (((ρ v0 0) : Nat) : Int)), (0, q2)]) (rest := []) (E0 := [(2, (((ρ v0 0) : Nat) : Int)), (0, q2)]) (v := some (0, q4)) (h1 := (G, ρ, m)) hm rfl (by omega) ⟨Nat.le_of_ble_eq_true rfl, Nat.le_of_ble_eq_true rfl⟩ (rc2 rfl g3) rfl rfl ml_33 rfl (Nat.le_of_ble_eq_true rfl) (tf33 h4 (by omega)) ?_
  show Ex d 51 6 [(2, ((v0 : Nat) : Int)), (0, v1), (0, v2)] [(0, q4)] (G, ρ, m) rr
  cases e
  cases hk
  exact Ex_ret (k := 1) hm rfl ⟨_, rfl, rfl⟩
theorem tf52_17 {G : Gg} {ρ : Rg} {d : Nat} {v0 : Nat} {v1 : Int} {v2 : Int} {w0 : Int} {m : Sg} {x : Sg} (e : f52_17 G ρ v0 v1 v2 w0 m = some x) (hd : 1 ≤ d) (rr : Option MV × Mh) (hk : (Bv G ρ) x rr) (j3 : Int) (j4 : Int) : Ex d 52 17 [(2, ((v0 : Nat) : Int)), (0, v1), (0, v2), (0, j3), (0, j4), (9, 0)] [(0, w0)] (G, ρ, m) rr := by
  unfold f52_17 at e
  have hm := mi_52
  obtain ⟨g5, e⟩ := gd_s e
  refine Ex_run 5 (i' := 22) (L' := [(2, ((v0 : Nat) : Int)), (0, v1), (0, v2), (0, j3), (0, j4), (0, w0)]) (st' := [(0, v2), (0, v1), (2, (((ρ v0 0) : Nat) : Int))]) (h' := (G, ρ, m)) hm rfl (cjc (Nat.le_of_ble_eq_true rfl) (cjc (gk_b g5) cjn)) ?_
  obtain ⟨q6, h6, e⟩ := bn_s e
  refine Ex_callm (z := 54) (na := 2) (ck := 0) (as := [(0, v1), (0, v2)]) (rest := [(2, (((ρ v0 0) : Nat) : Int))]) (E0 := [(0, v1), (0, v2)]) (v := some (0, q6)) (h1 := (G, ρ, m)) hm rfl (by omega) ⟨Nat.le_of_ble_eq_true rfl, Nat.le_of_ble_eq_true rfl⟩ (trivial) rfl rfl ml_54 rfl (Nat.le_of_ble_eq_true rfl) (tf54 h6 (by omega)) ?_
  show Ex d 52 23 [(2, ((v0 : Nat) : Int)), (0, v1), (0, v2), (0, j3), (0, j4), (0, w0)] [(0, q6), (2, (((ρ v0 0) : Nat) : Int))] (G, ρ, m) rr
  refine Ex_run 1 (i' := 24) (L' := [(2, ((v0 : Nat) : Int)), (0, v1), (0, v2), (0, j3), (0, j4), (0, w0)]) (st' := [(0, w0), (0, q6), (2, (((ρ v0 0) : Nat) : Int))]) (h' := (G, ρ, m)) hm rfl cjn ?_
  obtain ⟨g7, e⟩ := gd_s e
  obtain ⟨q8, h8, e⟩ := bn_s e
  refine Ex_callm (z := 34) (na := 3) (ck := 6) (as := [(2, (((ρ v0 0) : Nat) : Int)), (0, q6), (0, w0)]) (rest := []) (E0 := [(2, (((ρ v0 0) : Nat) : Int)), (0, q6), (0, w0)]) (v := none) (h1 := (G, ρ, q8)) hm rfl (by omega) ⟨Nat.le_of_ble_eq_true rfl, Nat.le_of_ble_eq_true rfl⟩ (rc2 rfl g7) rfl rfl ml_34 rfl (Nat.le_of_ble_eq_true rfl) (tf34 h8 (by omega)) ?_
  show Ex d 52 25 [(2, ((v0 : Nat) : Int)), (0, v1), (0, v2), (0, j3), (0, j4), (0, w0)] [] (G, ρ, q8) rr
  cases e
  cases hk
  exact Ex_ret (k := 0) hm rfl ⟨rfl, rfl⟩
theorem tf52 {G : Gg} {ρ : Rg} {d : Nat} {v0 : Nat} {v1 : Int} {v2 : Int} {v3 : Int} {m : Sg} {x : Sg} (e : f52 G ρ v0 v1 v2 v3 m = some x) (hd : 1 ≤ d) : Ex d 52 0 [(2, ((v0 : Nat) : Int)), (0, v1), (0, v2), (0, v3), (9, 0), (9, 0)] [] (G, ρ, m) (none, (G, ρ, x)) := by
  unfold f52 at e
  have hm := mi_52
  generalize hk : (none, (G, ρ, x)) = rr
  replace hk : (Bv G ρ) x rr := hk.symm
  obtain ⟨g1, e⟩ := gd_s e
  refine Ex_run 3 (i' := 3) (L' := [(2, ((v0 : Nat) : Int)), (0, v1), (0, v2), (0, v3), (9, 0), (9, 0)]) (st' := [(0, v1), (2, (((ρ v0 1) : Nat) : Int))]) (h' := (G, ρ, m)) hm rfl (cjc (gk_b g1) cjn) ?_
  obtain ⟨g2, e⟩ := gd_s e
  obtain ⟨q3, h3, e⟩ := bn_s e
  refine Ex_callm (z := 33) (na := 2) (ck := 6) (as := [(2, (((ρ v0 1) : Nat) : Int)), (0, v1)]) (rest := []) (E0 := [(2, (((ρ v0 1) : Nat) : Int)), (0, v1)]) (v := some (0, q3)) (h1 := (G, ρ, m)) hm rfl (by omega) ⟨Nat.le_of_ble_eq_true rfl, Nat.le_of_ble_eq_true rfl⟩ (rc2 rfl g2) rfl rfl ml_33 rfl (Nat.le_of_ble_eq_true rfl) (tf33 h3 (by omega)) ?_
  show Ex d 52 4 [(2, ((v0 : Nat) : Int)), (0, v1), (0, v2), (0, v3), (9, 0), (9, 0)] [(0, q3)] (G, ρ, m) rr
  refine Ex_run 2 (i' := 6) (L' := [(2, ((v0 : Nat) : Int)), (0, v1), (0, v2), (0, v3), (0, q3), (9, 0)]) (st' := [(0, q3)]) (h' := (G, ρ, m)) hm rfl (cjc (Nat.le_of_ble_eq_true rfl) cjn) ?_
  by_cases c4 : q3 = 0
  · replace e := it_p e c4
    refine Ex_if1f (c := 1) (tgt := 10) hm rfl (bf1 c4) ?_
    refine Ex_run 3 (i' := 17) (L' := [(2, ((v0 : Nat) : Int)), (0, v1), (0, v2), (0, v3), (0, q3), (9, 0)]) (st' := [(0, (g_b v3))]) (h' := (G, ρ, m)) hm rfl cjn ?_
    exact tf52_17 e hd rr hk _ _
  · replace e := it_n e c4
    refine Ex_if1t (c := 1) (tgt := 10) hm rfl (bt1 c4) ?_
    refine Ex_run 2 (i' := 12) (L' := [(2, ((v0 : Nat) : Int)), (0, v1), (0, v2), (0, v3), (0, q3), (9, 0)]) (st' := [(0, 1), (0, q3)]) (h' := (G, ρ, m)) hm rfl cjn ?_
    by_cases c9 : q3 = 1
    · replace e := it_p e c9
      refine Ex_if2f (c := 1) (tgt := 16) hm rfl (bf1 c9) ?_
      refine Ex_run 3 (i' := 17) (L' := [(2, ((v0 : Nat) : Int)), (0, v1), (0, v2), (0, v3), (0, q3), (9, 0)]) (st' := [(0, (g_s v3))]) (h' := (G, ρ, m)) hm rfl cjn ?_
      exact tf52_17 e hd rr hk _ _
    · replace e := it_n e c9
      refine Ex_if2t (c := 1) (tgt := 16) hm rfl (bt1 c9) ?_
      refine Ex_run 1 (i' := 17) (L' := [(2, ((v0 : Nat) : Int)), (0, v1), (0, v2), (0, v3), (0, q3), (9, 0)]) (st' := [(0, v3)]) (h' := (G, ρ, m)) hm rfl cjn ?_
      exact tf52_17 e hd rr hk _ _
theorem tf53 {G : Gg} {ρ : Rg} {d : Nat} {v0 : Nat} {v1 : Int} {v2 : Int} {v3 : Int} {v4 : Int} {v5 : Int} {m : Sg} {x : Sg} (e : f53 G ρ v0 v1 v2 v3 v4 v5 m = some x) (hd : 2 ≤ d) : Ex d 53 0 [(2, ((v0 : Nat) : Int)), (0, v1), (0, v2), (0, v3), (0, v4), (0, v5)] [] (G, ρ, m) (none, (G, ρ, x)) := by
  unfold f53 at e
  have hm := mi_53
  generalize hk : (none, (G, ρ, x)) = rr
  replace hk : (Bv G ρ) x rr := hk.symm
  obtain ⟨g1, e⟩ := gd_s e
  refine Ex_run 4 (i' := 4) (L' := [(2, ((v0 : Nat) : Int)), (0, v1), (0, v2), (0, v3), (0, v4), (0, v5)]) (st' := [(0, v2), (0, v1), (2, (((ρ v0 0) : Nat) : Int))]) (h' := (G, ρ, m)) hm rfl (cjc (gk_b g1) cjn) ?_
  obtain ⟨q2, h2, e⟩ := bn_s e
  refine Ex_callm (z := 54) (na := 2) (ck := 0) (as := [(0, v1), (0, v2)]) (rest := [(2, (((ρ v0 0) : Nat) : Int))]) (E0 := [(0, v1), (0, v2)]) (v := some (0, q2)) (h1 := (G, ρ, m)) hm rfl (by omega) ⟨Nat.le_of_ble_eq_true rfl, Nat.le_of_ble_eq_true rfl⟩ (trivial) rfl rfl ml_54 rfl (Nat.le_of_ble_eq_true rfl) (tf54 h2 (by omega)) ?_
  show Ex d 53 5 [(2, ((v0 : Nat) : Int)), (0, v1), (0, v2), (0, v3), (0, v4), (0, v5)] [(0, q2), (2, (((ρ v0 0) : Nat) : Int))] (G, ρ, m) rr
  refine Ex_run 2 (i' := 7) (L' := [(2, ((v0 : Nat) : Int)), (0, v1), (0, v2), (0, v3), (0, v4), (0, v5)]) (st' := [(0, v4), (0, v3), (0, q2), (2, (((ρ v0 0) : Nat) : Int))]) (h' := (G, ρ, m)) hm rfl cjn ?_
  obtain ⟨q3, h3, e⟩ := bn_s e
  refine Ex_callm (z := 54) (na := 2) (ck := 0) (as := [(0, v3), (0, v4)]) (rest := [(0, q2), (2, (((ρ v0 0) : Nat) : Int))]) (E0 := [(0, v3), (0, v4)]) (v := some (0, q3)) (h1 := (G, ρ, m)) hm rfl (by omega) ⟨Nat.le_of_ble_eq_true rfl, Nat.le_of_ble_eq_true rfl⟩ (trivial) rfl rfl ml_54 rfl (Nat.le_of_ble_eq_true rfl) (tf54 h3 (by omega)) ?_
  show Ex d 53 8 [(2, ((v0 : Nat) : Int)), (0, v1), (0, v2), (0, v3), (0, v4), (0, v5)] [(0, q3), (0, q2), (2, (((ρ v0 0) : Nat) : Int))] (G, ρ, m) rr
  refine Ex_run 1 (i' := 9) (L' := [(2, ((v0 : Nat) : Int)), (0, v1), (0, v2), (0, v3), (0, v4), (0, v5)]) (st' := [(0, v5), (0, q3), (0, q2), (2, (((ρ v0 0) : Nat) : Int))]) (h' := (G, ρ, m)) hm rfl cjn ?_
  obtain ⟨g4, e⟩ := gd_s e
  obtain ⟨q5, h5, e⟩ := bn_s e
  refine Ex_callm (z := 36) (na := 4) (ck := 6) (as := [(2, (((ρ v0 0) : Nat) : Int)), (0, q2), (0, q3), (0, v5)]) (rest := []) (E0 := [(2, (((ρ v0 0) : Nat) : Int)), (0, q2), (0, q3), (0, v5)]) (v := none) (h1 := (G, ρ, q5)) hm rfl (by omega) ⟨Nat.le_of_ble_eq_true rfl, Nat.le_of_ble_eq_true rfl⟩ (rc2 rfl g4) rfl rfl ml_36 rfl (Nat.le_of_ble_eq_true rfl) (tf36 h5 (by omega)) ?_
  show Ex d 53 10 [(2, ((v0 : Nat) : Int)), (0, v1), (0, v2), (0, v3), (0, v4), (0, v5)] [] (G, ρ, q5) rr
  cases e
  cases hk
  exact Ex_ret (k := 0) hm rfl ⟨rfl, rfl⟩
theorem tf55 {d : Nat} {v0 : Nat} {h : Mh} {x : Mh} (e : f55 v0 h = some x) (hd : 2 ≤ d) : Ex d 55 0 [(2, ((v0 : Nat) : Int))] [] h (none, x) := by
  unfold f55 at e
  have hm := mi_55
  generalize hk : (none, x) = rr
  replace hk : Hv x rr := hk.symm
  refine Ex_run 1 (i' := 1) (L' := [(2, ((v0 : Nat) : Int))]) (st' := [(2, ((v0 : Nat) : Int))]) (h' := (h.1, h.2.1, h.2.2)) hm rfl cjn ?_
  obtain ⟨g1, e⟩ := gd_s e
  refine Ex_prim (k := 1) (i' := 2) (L' := [(2, ((v0 : Nat) : Int))]) (st' := []) (h' := (h.1, h.2.1, h.2.2)) hm rfl (by omega) rfl (cjc (nz_i g1) (cjc (Nat.le_of_ble_eq_true rfl) cjn)) ?_
  refine Ex_run 4 (i' := 6) (L' := [(2, ((v0 : Nat) : Int))]) (st' := [(0, 8), (2, (((List.length h.1) : Nat) : Int)), (2, (((List.length h.1) : Nat) : Int)), (2, ((v0 : Nat) : Int))]) (h' := ((h.1 ++ [(6, 1)]), (zapR h.2.1 (List.length h.1)), (zap h.2.2 (List.length h.1)))) hm rfl cjn ?_
  obtain ⟨g2, e⟩ := gd_s e
  obtain ⟨q3, h3, e⟩ := bn_s e
  refine Ex_callm (z := 32) (na := 2) (ck := 1) (as := [(2, (((List.length h.1) : Nat) : Int)), (0, 8)]) (rest := [(2, (((List.length h.1) : Nat) : Int)), (2, ((v0 : Nat) : Int))]) (E0 := [(2, (((List.length h.1) : Nat) : Int)), (0, 8)]) (v := none) (h1 := (q3.1, q3.2.1, q3.2.2)) hm rfl (by omega) ⟨Nat.le_of_ble_eq_true rfl, Nat.le_of_ble_eq_true rfl⟩ (⟨_, rfl, nz_i g2⟩) rfl rfl ml_32 rfl (Nat.le_of_ble_eq_true rfl) (tf32 h3 (by omega)) ?_
  show Ex d 55 7 [(2, ((v0 : Nat) : Int))] [(2, (((List.length h.1) : Nat) : Int)), (2, ((v0 : Nat) : Int))] (q3.1, q3.2.1, q3.2.2) rr
  obtain ⟨g4, e⟩ := gd_s e
  refine Ex_run 5 (i' := 12) (L' := [(2, ((v0 : Nat) : Int))]) (st' := [(0, 8), (2, (((List.length q3.1) : Nat) : Int)), (2, (((List.length q3.1) : Nat) : Int)), (2, ((v0 : Nat) : Int))]) (h' := ((q3.1 ++ [(6, 1)]), (zapR (putR q3.2.1 v0 0 (List.length h.1)) (List.length q3.1)), (zap q3.2.2 (List.length q3.1)))) hm rfl (cjc (gk_b g4) (cjc (nz_i g2) cjn)) ?_
  obtain ⟨g5, e⟩ := gd_s e
  obtain ⟨q6, h6, e⟩ := bn_s e
  refine Ex_callm (z := 32) (na := 2) (ck := 1) (as := [(2, (((List.length q3.1) : Nat) : Int)), (0, 8)]) (rest := [(2, (((List.length q3.1) : Nat) : Int)), (2, ((v0 : Nat) : Int))]) (E0 := [(2, (((List.length q3.1) : Nat) : Int)), (0, 8)]) (v := none) (h1 := (q6.1, q6.2.1, q6.2.2)) hm rfl (by omega) ⟨Nat.le_of_ble_eq_true rfl, Nat.le_of_ble_eq_true rfl⟩ (⟨_, rfl, nz_i g5⟩) rfl rfl ml_32 rfl (Nat.le_of_ble_eq_true rfl) (tf32 h6 (by omega)) ?_
  show Ex d 55 13 [(2, ((v0 : Nat) : Int))] [(2, (((List.length q3.1) : Nat) : Int)), (2, ((v0 : Nat) : Int))] (q6.1, q6.2.1, q6.2.2) rr
  obtain ⟨g7, e⟩ := gd_s e
  refine Ex_run 5 (i' := 18) (L' := [(2, ((v0 : Nat) : Int))]) (st' := [(0, 8), (2, (((List.length q6.1) : Nat) : Int)), (2, (((List.length q6.1) : Nat) : Int)), (2, ((v0 : Nat) : Int))]) (h' := ((q6.1 ++ [(6, 1)]), (zapR (putR q6.2.1 v0 1 (List.length q3.1)) (List.length q6.1)), (zap q6.2.2 (List.length q6.1)))) hm rfl (cjc (gk_b g7) (cjc (nz_i g5) cjn)) ?_
  obtain ⟨g8, e⟩ := gd_s e
  obtain ⟨q9, h9, e⟩ := bn_s e
  refine Ex_callm (z := 32) (na := 2) (ck := 1) (as := [(2, (((List.length q6.1) : Nat) : Int)), (0, 8)]) (rest := [(2, (((List.length q6.1) : Nat) : Int)), (2, ((v0 : Nat) : Int))]) (E0 := [(2, (((List.length q6.1) : Nat) : Int)), (0, 8)]) (v := none) (h1 := (q9.1, q9.2.1, q9.2.2)) hm rfl (by omega) ⟨Nat.le_of_ble_eq_true rfl, Nat.le_of_ble_eq_true rfl⟩ (⟨_, rfl, nz_i g8⟩) rfl rfl ml_32 rfl (Nat.le_of_ble_eq_true rfl) (tf32 h9 (by omega)) ?_
  show Ex d 55 19 [(2, ((v0 : Nat) : Int))] [(2, (((List.length q6.1) : Nat) : Int)), (2, ((v0 : Nat) : Int))] (q9.1, q9.2.1, q9.2.2) rr
  obtain ⟨g10, e⟩ := gd_s e
  refine Ex_run 5 (i' := 24) (L' := [(2, ((v0 : Nat) : Int))]) (st' := [(0, 8), (2, (((List.length q9.1) : Nat) : Int)), (2, (((List.length q9.1) : Nat) : Int)), (2, ((v0 : Nat) : Int))]) (h' := ((q9.1 ++ [(6, 1)]), (zapR (putR q9.2.1 v0 2 (List.length q6.1)) (List.length q9.1)), (zap q9.2.2 (List.length q9.1)))) hm rfl (cjc (gk_b g10) (cjc (nz_i g8) cjn)) ?_
  obtain ⟨g11, e⟩ := gd_s e
  obtain ⟨q12, h12, e⟩ := bn_s e
  refine Ex_callm (z := 32) (na := 2) (ck := 1) (as := [(2, (((List.length q9.1) : Nat) : Int)), (0, 8)]) (rest := [(2, (((List.length q9.1) : Nat) : Int)), (2, ((v0 : Nat) : Int))]) (E0 := [(2, (((List.length q9.1) : Nat) : Int)), (0, 8)]) (v := none) (h1 := (q12.1, q12.2.1, q12.2.2)) hm rfl (by omega) ⟨Nat.le_of_ble_eq_true rfl, Nat.le_of_ble_eq_true rfl⟩ (⟨_, rfl, nz_i g11⟩) rfl rfl ml_32 rfl (Nat.le_of_ble_eq_true rfl) (tf32 h12 (by omega)) ?_
  show Ex d 55 25 [(2, ((v0 : Nat) : Int))] [(2, (((List.length q9.1) : Nat) : Int)), (2, ((v0 : Nat) : Int))] (q12.1, q12.2.1, q12.2.2) rr
  obtain ⟨g13, e⟩ := gd_s e
  refine Ex_run 4 (i' := 29) (L' := [(2, ((v0 : Nat) : Int))]) (st' := [(0, (-1)), (2, ((((putR q12.2.1 v0 3 (List.length q9.1)) v0 0) : Nat) : Int))]) (h' := (q12.1, (putR q12.2.1 v0 3 (List.length q9.1)), q12.2.2)) hm rfl (cjc (gk_b g13) (cjc (nz_i g11) (cjc (gk_b g13) cjn))) ?_
  obtain ⟨g14, e⟩ := gd_s e
  obtain ⟨q15, h15, e⟩ := bn_s e
  refine Ex_callm (z := 35) (na := 2) (ck := 6) (as := [(2, ((((putR q12.2.1 v0 3 (List.length q9.1)) v0 0) : Nat) : Int)), (0, (-1))]) (rest := []) (E0 := [(2, ((((putR q12.2.1 v0 3 (List.length q9.1)) v0 0) : Nat) : Int)), (0, (-1)), (9, 0)]) (v := none) (h1 := (q12.1, (putR q12.2.1 v0 3 (List.length q9.1)), q15)) hm rfl (by omega) ⟨Nat.le_of_ble_eq_true rfl, Nat.le_of_ble_eq_true rfl⟩ (rc2 rfl g14) rfl rfl ml_35 rfl (Nat.le_of_ble_eq_true rfl) (tf35 h15 (by omega)) ?_
  show Ex d 55 30 [(2, ((v0 : Nat) : Int))] [] (q12.1, (putR q12.2.1 v0 3 (List.length q9.1)), q15) rr
  cases e
  cases hk
  exact Ex_ret (k := 0) hm rfl ⟨rfl, rfl⟩
theorem tf59_18 {G : Gg} {ρ : Rg} {d : Nat} {v1 : Int} {v2 : Int} {w0 : Int} {m : Sg} {x : Int} (e : f59_18 G ρ v1 v2 w0 m = some x) (hd : 1 ≤ d) (rr : Option MV × Mh) (hk : (Bpi G ρ m) x rr) (j0 : Nat) : Ex d 59 18 [(2, ((j0 : Nat) : Int)), (0, v1), (0, v2), (9, 0)] [(0, w0)] (G, ρ, m) rr := by
  unfold f59_18 at e
  have hm := mi_59
  refine Ex_run 2 (i' := 20) (L' := [(2, ((j0 : Nat) : Int)), (0, v1), (0, v2), (0, w0)]) (st' := [(0, w0)]) (h' := (G, ρ, m)) hm rfl (cjc (Nat.le_of_ble_eq_true rfl) cjn) ?_
  by_cases c5 : w0 = 0
  · replace e := it_p e c5
    refine Ex_if1t (c := 0) (tgt := 23) hm rfl (bt0 c5) ?_
    refine Ex_run 1 (i' := 24) (L' := [(2, ((j0 : Nat) : Int)), (0, v1), (0, v2), (0, w0)]) (st' := [(0, v1)]) (h' := (G, ρ, m)) hm rfl cjn ?_
    cases e
    cases hk
    exact Ex_ret (k := 1) hm rfl ⟨_, rfl, rfl⟩
  · replace e := it_n e c5
    refine Ex_if1f (c := 0) (tgt := 23) hm rfl (bf0 c5) ?_
    refine Ex_run 2 (i' := 24) (L' := [(2, ((j0 : Nat) : Int)), (0, v1), (0, v2), (0, w0)]) (st' := [(0, v2)]) (h' := (G, ρ, m)) hm rfl cjn ?_
    cases e
    cases hk
    exact Ex_ret (k := 1) hm rfl ⟨_, rfl, rfl⟩
theorem tf59 {G : Gg} {ρ : Rg} {d : Nat} {v0 : Nat} {v1 : Int} {v2 : Int} {m : Sg} {x : Int} (e : f59 G ρ v0 v1 v2 m = some x) (hd : 1 ≤ d) : Ex d 59 0 [(2, ((v0 : Nat) : Int)), (0, v1), (0, v2), (9, 0)] [] (G, ρ, m) (some (0, x), (G, ρ, m)) := by
  unfold f59 at e
  have hm := mi_59
  generalize hk : (some (0, x), (G, ρ, m)) = rr
  replace hk : (Bpi G ρ m) x rr := hk.symm
  obtain ⟨g1, e⟩ := gd_s e
  refine Ex_run 3 (i' := 3) (L' := [(2, ((v0 : Nat) : Int)), (0, v1), (0, v2), (9, 0)]) (st' := [(0, v2), (2, (((ρ v0 0) : Nat) : Int))]) (h' := (G, ρ, m)) hm rfl (cjc (gk_b g1) cjn) ?_
  obtain ⟨g2, e⟩ := gd_s e
  obtain ⟨q3, h3, e⟩ := bn_s e
  refine Ex_callm (z := 33) (na := 2) (ck := 6) (as := [(2, (((ρ v0 0) : Nat) : Int)), (0, v2)]) (rest := []) (E0 := [(2, (((ρ v0 0) : Nat) : Int)), (0, v2)]) (v := some (0, q3)) (h1 := (G, ρ, m)) hm rfl (by omega) ⟨Nat.le_of_ble_eq_true rfl, Nat.le_of_ble_eq_true rfl⟩ (rc2 rfl g2) rfl rfl ml_33 rfl (Nat.le_of_ble_eq_true rfl) (tf33 h3 (by omega)) ?_
  show Ex d 59 4 [(2, ((v0 : Nat) : Int)), (0, v1), (0, v2), (9, 0)] [(0, q3)] (G, ρ, m) rr
  refine Ex_run 1 (i' := 5) (L' := [(2, ((v0 : Nat) : Int)), (0, v1), (0, v2), (9, 0)]) (st' := [(0, (-1)), (0, q3)]) (h' := (G, ρ, m)) hm rfl cjn ?_
  by_cases c4 : q3 = (-1)
  · replace e := it_p e c4
    refine Ex_if2t (c := 0) (tgt := 17) hm rfl (bt0 c4) ?_
    refine Ex_run 1 (i' := 18) (L' := [(2, ((v0 : Nat) : Int)), (0, v1), (0, v2), (9, 0)]) (st' := [(0, 0)]) (h' := (G, ρ, m)) hm rfl cjn ?_
    exact tf59_18 e hd rr hk _
  · replace e := it_n e c4
    refine Ex_if2f (c := 0) (tgt := 17) hm rfl (bf0 c4) ?_
    refine Ex_run 3 (i' := 9) (L' := [(2, ((v0 : Nat) : Int)), (0, v1), (0, v2), (9, 0)]) (st' := [(0, v2), (2, (((ρ v0 1) : Nat) : Int))]) (h' := (G, ρ, m)) hm rfl (cjc (gk_b g1) cjn) ?_
    obtain ⟨g6, e⟩ := gd_s e
    obtain ⟨q7, h7, e⟩ := bn_s e
    refine Ex_callm (z := 33) (na := 2) (ck := 6) (as := [(2, (((ρ v0 1) : Nat) : Int)), (0, v2)]) (rest := []) (E0 := [(2, (((ρ v0 1) : Nat) : Int)), (0, v2)]) (v := some (0, q7)) (h1 := (G, ρ, m)) hm rfl (by omega) ⟨Nat.le_of_ble_eq_true rfl, Nat.le_of_ble_eq_true rfl⟩ (rc2 rfl g6) rfl rfl ml_33 rfl (Nat.le_of_ble_eq_true rfl) (tf33 h7 (by omega)) ?_
    show Ex d 59 10 [(2, ((v0 : Nat) : Int)), (0, v1), (0, v2), (9, 0)] [(0, q7)] (G, ρ, m) rr
    refine Ex_run 3 (i' := 13) (L' := [(2, ((v0 : Nat) : Int)), (0, v1), (0, v2), (9, 0)]) (st' := [(0, v1), (2, (((ρ v0 1) : Nat) : Int)), (0, q7)]) (h' := (G, ρ, m)) hm rfl (cjc (gk_b g1) cjn) ?_
    obtain ⟨q8, h8, e⟩ := bn_s e
    refine Ex_callm (z := 33) (na := 2) (ck := 6) (as := [(2, (((ρ v0 1) : Nat) : Int)), (0, v1)]) (rest := [(0, q7)]) (E0 := [(2, (((ρ v0 1) : Nat) : Int)), (0, v1)]) (v := some (0, q8)) (h1 := (G, ρ, m)) hm rfl (by omega) ⟨Nat.le_of_ble_eq_true rfl, Nat.le_of_ble_eq_true rfl⟩ (rc2 rfl g6) rfl rfl ml_33 rfl (Nat.le_of_ble_eq_true rfl) (tf33 h8 (by omega)) ?_
    show Ex d 59 14 [(2, ((v0 : Nat) : Int)), (0, v1), (0, v2), (9, 0)] [(0, q8), (0, q7)] (G, ρ, m) rr
    by_cases c9 : q8 < q7
    · replace e := it_p e c9
      refine Ex_if2f (c := 5) (tgt := 17) hm rfl (bf5 c9) ?_
      refine Ex_run 2 (i' := 18) (L' := [(2, ((v0 : Nat) : Int)), (0, v1), (0, v2), (9, 0)]) (st' := [(0, 1)]) (h' := (G, ρ, m)) hm rfl cjn ?_
      exact tf59_18 e hd rr hk _
    · replace e := it_n e c9
      refine Ex_if2t (c := 5) (tgt := 17) hm rfl (bt5 c9) ?_
      refine Ex_run 1 (i' := 18) (L' := [(2, ((v0 : Nat) : Int)), (0, v1), (0, v2), (9, 0)]) (st' := [(0, 0)]) (h' := (G, ρ, m)) hm rfl cjn ?_
      exact tf59_18 e hd rr hk _
theorem tf58 {G : Gg} {ρ : Rg} {d : Nat} {v0 : Nat} {v1 : Int} {m : Sg} {x : Int} (e : f58 G ρ v0 v1 m = some x) (hd : 2 ≤ d) : Ex d 58 0 [(2, ((v0 : Nat) : Int)), (0, v1), (9, 0)] [] (G, ρ, m) (some (0, x), (G, ρ, m)) := by
  unfold f58 at e
  have hm := mi_58
  generalize hk : (some (0, x), (G, ρ, m)) = rr
  replace hk : (Bpi G ρ m) x rr := hk.symm
  obtain ⟨g1, e⟩ := gd_s e
  refine Ex_run 3 (i' := 3) (L' := [(2, ((v0 : Nat) : Int)), (0, v1), (9, 0)]) (st' := [(0, v1), (2, (((ρ v0 2) : Nat) : Int))]) (h' := (G, ρ, m)) hm rfl (cjc (gk_b g1) cjn) ?_
  obtain ⟨g2, e⟩ := gd_s e
  obtain ⟨q3, h3, e⟩ := bn_s e
  refine Ex_callm (z := 33) (na := 2) (ck := 6) (as := [(2, (((ρ v0 2) : Nat) : Int)), (0, v1)]) (rest := []) (E0 := [(2, (((ρ v0 2) : Nat) : Int)), (0, v1)]) (v := some (0, q3)) (h1 := (G, ρ, m)) hm rfl (by omega) ⟨Nat.le_of_ble_eq_true rfl, Nat.le_of_ble_eq_true rfl⟩ (rc2 rfl g2) rfl rfl ml_33 rfl (Nat.le_of_ble_eq_true rfl) (tf33 h3 (by omega)) ?_
  show Ex d 58 4 [(2, ((v0 : Nat) : Int)), (0, v1), (9, 0)] [(0, q3)] (G, ρ, m) rr
  by_cases c4 : q3 = 0
  · replace e := it_p e c4
    refine Ex_if1f (c := 1) (tgt := 7) hm rfl (bf1 c4) ?_
    refine Ex_run 1 (i' := 6) (L' := [(2, ((v0 : Nat) : Int)), (0, v1), (9, 0)]) (st' := [(0, (-1))]) (h' := (G, ρ, m)) hm rfl cjn ?_
    cases e
    cases hk
    exact Ex_ret (k := 1) hm rfl ⟨_, rfl, rfl⟩
  · replace e := it_n e c4
    refine Ex_if1t (c := 1) (tgt := 7) hm rfl (bt1 c4) ?_
    refine Ex_run 9 (i' := 16) (L' := [(2, ((v0 : Nat) : Int)), (0, v1), (9, 0)]) (st' := [(0, (g_rem (g_sub (g_add v1 8) 1) 8)), (0, v1), (2, ((v0 : Nat) : Int))]) (h' := (G, ρ, m)) hm rfl (cjc (by decide) cjn) ?_
    obtain ⟨q5, h5, e⟩ := bn_s e
    refine Ex_callm (z := 59) (na := 3) (ck := 9) (as := [(2, ((v0 : Nat) : Int)), (0, v1), (0, (g_rem (g_sub (g_add v1 8) 1) 8))]) (rest := []) (E0 := [(2, ((v0 : Nat) : Int)), (0, v1), (0, (g_rem (g_sub (g_add v1 8) 1) 8)), (9, 0)]) (v := some (0, q5)) (h1 := (G, ρ, m)) hm rfl (by omega) ⟨Nat.le_of_ble_eq_true rfl, Nat.le_of_ble_eq_true rfl⟩ (rc2 rfl g1) rfl rfl ml_59 rfl (Nat.le_of_ble_eq_true rfl) (tf59 h5 (by omega)) ?_
    show Ex d 58 17 [(2, ((v0 : Nat) : Int)), (0, v1), (9, 0)] [(0, q5)] (G, ρ, m) rr
    refine Ex_run 8 (i' := 25) (L' := [(2, ((v0 : Nat) : Int)), (0, v1), (0, q5)]) (st' := [(0, (g_rem (g_add v1 1) 8)), (0, q5), (2, ((v0 : Nat) : Int))]) (h' := (G, ρ, m)) hm rfl (cjc (Nat.le_of_ble_eq_true rfl) (cjc (by decide) cjn)) ?_
    obtain ⟨q6, h6, e⟩ := bn_s e
    refine Ex_callm (z := 59) (na := 3) (ck := 9) (as := [(2, ((v0 : Nat) : Int)), (0, q5), (0, (g_rem (g_add v1 1) 8))]) (rest := []) (E0 := [(2, ((v0 : Nat) : Int)), (0, q5), (0, (g_rem (g_add v1 1) 8)), (9, 0)]) (v := some (0, q6)) (h1 := (G, ρ, m)) hm rfl (by omega) ⟨Nat.le_of_ble_eq_true rfl, Nat.le_of_ble_eq_true rfl⟩ (rc2 rfl g1) rfl rfl ml_59 rfl (Nat.le_of_ble_eq_true rfl) (tf59 h6 (by omega)) ?_
    show Ex d 58 26 [(2, ((v0 : Nat) : Int)), (0, v1), (0, q5)] [(0, q6)] (G, ρ, m) rr
    refine Ex_run 4 (i' := 30) (L' := [(2, ((v0 : Nat) : Int)), (0, v1), (0, q6)]) (st' := [(0, q6), (2, (((ρ v0 0) : Nat) : Int))]) (h' := (G, ρ, m)) hm rfl (cjc (Nat.le_of_ble_eq_true rfl) (cjc (gk_b g1) cjn)) ?_
    obtain ⟨g7, e⟩ := gd_s e
    obtain ⟨q8, h8, e⟩ := bn_s e
    refine Ex_callm (z := 33) (na := 2) (ck := 6) (as := [(2, (((ρ v0 0) : Nat) : Int)), (0, q6)]) (rest := []) (E0 := [(2, (((ρ v0 0) : Nat) : Int)), (0, q6)]) (v := some (0, q8)) (h1 := (G, ρ, m)) hm rfl (by omega) ⟨Nat.le_of_ble_eq_true rfl, Nat.le_of_ble_eq_true rfl⟩ (rc2 rfl g7) rfl rfl ml_33 rfl (Nat.le_of_ble_eq_true rfl) (tf33 h8 (by omega)) ?_
    show Ex d 58 31 [(2, ((v0 : Nat) : Int)), (0, v1), (0, q6)] [(0, q8)] (G, ρ, m) rr
    cases e
    cases hk
    exact Ex_ret (k := 1) hm rfl ⟨_, rfl, rfl⟩
theorem tf56_b16 {G : Gg} {ρ : Rg} {d : Nat} {v0 : Nat} {s : Int × Sg} {x : (Int × Sg) ⊕ (Sg)} (e : f56_b16 G ρ v0 s = some x) (hd : 3 ≤ d) (rr : Option MV × Mh) (hk : (DS (e56_16 G ρ d v0) (Bv G ρ)) x rr) : e56_16 G ρ d v0 s rr := by
  unfold f56_b16 at e
  have hm := mi_56
  show Ex d 56 16 [(2, ((v0 : Nat) : Int)), (0, s.1)] [] (G, ρ, s.2) rr
  refine Ex_run 2 (i' := 18) (L' := [(2, ((v0 : Nat) : Int)), (0, s.1)]) (st' := [(0, 8), (0, s.1)]) (h' := (G, ρ, s.2)) hm rfl cjn ?_
  by_cases c6 : s.1 < 8
  · replace e := it_p e c6
    refine Ex_if2f (c := 3) (tgt := 29) hm rfl (bf3 c6) ?_
    obtain ⟨g7, e⟩ := gd_s e
    refine Ex_run 6 (i' := 25) (L' := [(2, ((v0 : Nat) : Int)), (0, s.1)]) (st' := [(0, s.1), (2, (((ρ v0 3) : Nat) : Int)), (0, s.1), (2, (((ρ v0 0) : Nat) : Int))]) (h' := (G, ρ, s.2)) hm rfl (cjc (gk_b g7) (cjc (gk_b g7) cjn)) ?_
    obtain ⟨g8, e⟩ := gd_s e
    obtain ⟨q9, h9, e⟩ := bn_s e
    refine Ex_callm (z := 33) (na := 2) (ck := 6) (as := [(2, (((ρ v0 3) : Nat) : Int)), (0, s.1)]) (rest := [(0, s.1), (2, (((ρ v0 0) : Nat) : Int))]) (E0 := [(2, (((ρ v0 3) : Nat) : Int)), (0, s.1)]) (v := some (0, q9)) (h1 := (G, ρ, s.2)) hm rfl (by omega) ⟨Nat.le_of_ble_eq_true rfl, Nat.le_of_ble_eq_true rfl⟩ (rc2 rfl g8) rfl rfl ml_33 rfl (Nat.le_of_ble_eq_true rfl) (tf33 h9 (by omega)) ?_
    show Ex d 56 26 [(2, ((v0 : Nat) : Int)), (0, s.1)] [(0, q9), (0, s.1), (2, (((ρ v0 0) : Nat) : Int))] (G, ρ, s.2) rr
    obtain ⟨g10, e⟩ := gd_s e
    obtain ⟨q11, h11, e⟩ := bn_s e
    refine Ex_callm (z := 34) (na := 3) (ck := 6) (as := [(2, (((ρ v0 0) : Nat) : Int)), (0, s.1), (0, q9)]) (rest := []) (E0 := [(2, (((ρ v0 0) : Nat) : Int)), (0, s.1), (0, q9)]) (v := none) (h1 := (G, ρ, q11)) hm rfl (by omega) ⟨Nat.le_of_ble_eq_true rfl, Nat.le_of_ble_eq_true rfl⟩ (rc2 rfl g10) rfl rfl ml_34 rfl (Nat.le_of_ble_eq_true rfl) (tf34 h11 (by omega)) ?_
    show Ex d 56 27 [(2, ((v0 : Nat) : Int)), (0, s.1)] [] (G, ρ, q11) rr
    refine Ex_run 2 (i' := 16) (L' := [(2, ((v0 : Nat) : Int)), (0, (w32 (s.1 + 1)))]) (st' := []) (h' := (G, ρ, q11)) hm rfl cjn ?_
    cases e
    exact hk
  · replace e := it_n e c6
    refine Ex_if2t (c := 3) (tgt := 29) hm rfl (bt3 c6) ?_
    obtain ⟨x, e, hx⟩ := xr_s e
    replace hk : (Bv G ρ) x rr := by rw [hx] at hk; exact hk
    cases e
    cases hk
    exact Ex_ret (k := 0) hm rfl ⟨rfl, rfl⟩
theorem tf56_b2 {G : Gg} {ρ : Rg} {d : Nat} {v0 : Nat} {s : Int × Sg} {x : (Int × Sg) ⊕ (Sg)} (e : f56_b2 G ρ v0 s = some x) (hd : 3 ≤ d) (rr : Option MV × Mh) (hk : (DS (e56_2 G ρ d v0) (Bv G ρ)) x rr) : e56_2 G ρ d v0 s rr := by
  unfold f56_b2 at e
  have hm := mi_56
  show Ex d 56 2 [(2, ((v0 : Nat) : Int)), (0, s.1)] [] (G, ρ, s.2) rr
  refine Ex_run 2 (i' := 4) (L' := [(2, ((v0 : Nat) : Int)), (0, s.1)]) (st' := [(0, 8), (0, s.1)]) (h' := (G, ρ, s.2)) hm rfl cjn ?_
  by_cases c1 : s.1 < 8
  · replace e := it_p e c1
    refine Ex_if2f (c := 3) (tgt := 14) hm rfl (bf3 c1) ?_
    obtain ⟨g2, e⟩ := gd_s e
    refine Ex_run 5 (i' := 10) (L' := [(2, ((v0 : Nat) : Int)), (0, s.1)]) (st' := [(0, s.1), (2, ((v0 : Nat) : Int)), (0, s.1), (2, (((ρ v0 3) : Nat) : Int))]) (h' := (G, ρ, s.2)) hm rfl (cjc (gk_b g2) cjn) ?_
    obtain ⟨q3, h3, e⟩ := bn_s e
    refine Ex_callm (z := 58) (na := 2) (ck := 9) (as := [(2, ((v0 : Nat) : Int)), (0, s.1)]) (rest := [(0, s.1), (2, (((ρ v0 3) : Nat) : Int))]) (E0 := [(2, ((v0 : Nat) : Int)), (0, s.1), (9, 0)]) (v := some (0, q3)) (h1 := (G, ρ, s.2)) hm rfl (by omega) ⟨Nat.le_of_ble_eq_true rfl, Nat.le_of_ble_eq_true rfl⟩ (rc2 rfl g2) rfl rfl ml_58 rfl (Nat.le_of_ble_eq_true rfl) (tf58 h3 (by omega)) ?_
    show Ex d 56 11 [(2, ((v0 : Nat) : Int)), (0, s.1)] [(0, q3), (0, s.1), (2, (((ρ v0 3) : Nat) : Int))] (G, ρ, s.2) rr
    obtain ⟨g4, e⟩ := gd_s e
    obtain ⟨q5, h5, e⟩ := bn_s e
    refine Ex_callm (z := 34) (na := 3) (ck := 6) (as := [(2, (((ρ v0 3) : Nat) : Int)), (0, s.1), (0, q3)]) (rest := []) (E0 := [(2, (((ρ v0 3) : Nat) : Int)), (0, s.1), (0, q3)]) (v := none) (h1 := (G, ρ, q5)) hm rfl (by omega) ⟨Nat.le_of_ble_eq_true rfl, Nat.le_of_ble_eq_true rfl⟩ (rc2 rfl g4) rfl rfl ml_34 rfl (Nat.le_of_ble_eq_true rfl) (tf34 h5 (by omega)) ?_
    show Ex d 56 12 [(2, ((v0 : Nat) : Int)), (0, s.1)] [] (G, ρ, q5) rr
    refine Ex_run 2 (i' := 2) (L' := [(2, ((v0 : Nat) : Int)), (0, (w32 (s.1 + 1)))]) (st' := []) (h' := (G, ρ, q5)) hm rfl cjn ?_
    cases e
    exact hk
  · replace e := it_n e c1
    refine Ex_if2t (c := 3) (tgt := 14) hm rfl (bt3 c1) ?_
    obtain ⟨x, e, hx⟩ := xr_s e
    replace hk : (Bv G ρ) x rr := by rw [hx] at hk; exact hk
    refine Ex_run 2 (i' := 16) (L' := [(2, ((v0 : Nat) : Int)), (0, 0)]) (st' := []) (h' := (G, ρ, s.2)) hm rfl (cjc (Nat.le_of_ble_eq_true rfl) cjn) ?_
    exact (Ex_lp (A := e56_16 G ρ d v0 ) (B := (Bv G ρ)) (fun s x e rr hk => tf56_b16 e hd rr hk) FU _ _ e rr hk)
theorem tf56 {G : Gg} {ρ : Rg} {d : Nat} {v0 : Nat} {m : Sg} {x : Sg} (e : f56 G ρ v0 m = some x) (hd : 3 ≤ d) : Ex d 56 0 [(2, ((v0 : Nat) : Int)), (9, 0)] [] (G, ρ, m) (none, (G, ρ, x)) := by
  unfold f56 at e
  have hm := mi_56
  generalize hk : (none, (G, ρ, x)) = rr
  replace hk : (Bv G ρ) x rr := hk.symm
  refine Ex_run 2 (i' := 2) (L' := [(2, ((v0 : Nat) : Int)), (0, 0)]) (st' := []) (h' := (G, ρ, m)) hm rfl (cjc (Nat.le_of_ble_eq_true rfl) cjn) ?_
  exact (Ex_lp (A := e56_2 G ρ d v0 ) (B := (Bv G ρ)) (fun s x e rr hk => tf56_b2 e hd rr hk) FU _ _ e rr hk)
theorem tf57_b4 {G : Gg} {ρ : Rg} {d : Nat} {v0 : Nat} {m : Sg} {s : Int × Int} {x : (Int × Int) ⊕ (Int)} (e : f57_b4 G ρ v0 m s = some x) (hd : 1 ≤ d) (rr : Option MV × Mh) (hk : (DS (e57_4 G ρ d v0 m) (Bpi G ρ m)) x rr) : e57_4 G ρ d v0 m s rr := by
  unfold f57_b4 at e
  have hm := mi_57
  show Ex d 57 4 [(2, ((v0 : Nat) : Int)), (0, s.1), (0, s.2)] [] (G, ρ, m) rr
  refine Ex_run 2 (i' := 6) (L' := [(2, ((v0 : Nat) : Int)), (0, s.1), (0, s.2)]) (st' := [(0, 8), (0, s.2)]) (h' := (G, ρ, m)) hm rfl cjn ?_
  by_cases c1 : s.2 < 8
  · replace e := it_p e c1
    refine Ex_if2f (c := 3) (tgt := 16) hm rfl (bf3 c1) ?_
    obtain ⟨g2, e⟩ := gd_s e
    refine Ex_run 3 (i' := 10) (L' := [(2, ((v0 : Nat) : Int)), (0, s.1), (0, s.2)]) (st' := [(0, s.2), (2, (((ρ v0 0) : Nat) : Int))]) (h' := (G, ρ, m)) hm rfl (cjc (gk_b g2) cjn) ?_
    obtain ⟨g3, e⟩ := gd_s e
    obtain ⟨q4, h4, e⟩ := bn_s e
    refine Ex_callm (z := 33) (na := 2) (ck := 6) (as := [(2, (((ρ v0 0) : Nat) : Int)), (0, s.2)]) (rest := []) (E0 := [(2, (((ρ v0 0) : Nat) : Int)), (0, s.2)]) (v := some (0, q4)) (h1 := (G, ρ, m)) hm rfl (by omega) ⟨Nat.le_of_ble_eq_true rfl, Nat.le_of_ble_eq_true rfl⟩ (rc2 rfl g3) rfl rfl ml_33 rfl (Nat.le_of_ble_eq_true rfl) (tf33 h4 (by omega)) ?_
    show Ex d 57 11 [(2, ((v0 : Nat) : Int)), (0, s.1), (0, s.2)] [(0, q4)] (G, ρ, m) rr
    refine Ex_run 1 (i' := 12) (L' := [(2, ((v0 : Nat) : Int)), (0, s.1), (0, s.2)]) (st' := [(0, (-1)), (0, q4)]) (h' := (G, ρ, m)) hm rfl cjn ?_
    by_cases c5 : q4 = (-1)
    · replace e := it_p e c5
      refine Ex_if2t (c := 0) (tgt := 14) hm rfl (bt0 c5) ?_
      refine Ex_run 2 (i' := 4) (L' := [(2, ((v0 : Nat) : Int)), (0, s.1), (0, (w32 (s.2 + 1)))]) (st' := []) (h' := (G, ρ, m)) hm rfl cjn ?_
      cases e
      exact hk
    · replace e := it_n e c5
      refine Ex_if2f (c := 0) (tgt := 14) hm rfl (bf0 c5) ?_
      refine Ex_run 3 (i' := 4) (L' := [(2, ((v0 : Nat) : Int)), (0, (w32 (s.1 + 1))), (0, (w32 (s.2 + 1)))]) (st' := []) (h' := (G, ρ, m)) hm rfl cjn ?_
      cases e
      exact hk
  · replace e := it_n e c1
    refine Ex_if2t (c := 3) (tgt := 16) hm rfl (bt3 c1) ?_
    obtain ⟨x, e, hx⟩ := xr_s e
    replace hk : (Bpi G ρ m) x rr := by rw [hx] at hk; exact hk
    refine Ex_run 1 (i' := 17) (L' := [(2, ((v0 : Nat) : Int)), (0, s.1), (0, s.2)]) (st' := [(0, s.1)]) (h' := (G, ρ, m)) hm rfl cjn ?_
    cases e
    cases hk
    exact Ex_ret (k := 1) hm rfl ⟨_, rfl, rfl⟩
theorem tf57 {G : Gg} {ρ : Rg} {d : Nat} {v0 : Nat} {m : Sg} {x : Int} (e : f57 G ρ v0 m = some x) (hd : 1 ≤ d) : Ex d 57 0 [(2, ((v0 : Nat) : Int)), (9, 0), (9, 0)] [] (G, ρ, m) (some (0, x), (G, ρ, m)) := by
  unfold f57 at e
  have hm := mi_57
  generalize hk : (some (0, x), (G, ρ, m)) = rr
  replace hk : (Bpi G ρ m) x rr := hk.symm
  refine Ex_run 4 (i' := 4) (L' := [(2, ((v0 : Nat) : Int)), (0, 0), (0, 0)]) (st' := []) (h' := (G, ρ, m)) hm rfl (cjc (Nat.le_of_ble_eq_true rfl) (cjc (Nat.le_of_ble_eq_true rfl) cjn)) ?_
  exact (Ex_lp (A := e57_4 G ρ d v0 m ) (B := (Bpi G ρ m)) (fun s x e rr hk => tf57_b4 e hd rr hk) FU _ _ e rr hk)
theorem tf60_19 {d : Nat} {w0 : Int} {w1 : Nat} {h : Mh} {x : Mh} (e : f60_19 w0 w1 h = some x) (hd : 2 ≤ d) (rr : Option MV × Mh) (hk : Hv x rr) (j0 : Nat) : Ex d 60 19 [(2, ((j0 : Nat) : Int))] [(0, w0), (2, ((w1 : Nat) : Int))] h rr := by
  unfold f60_19 at e
  have hm := mi_60
  obtain ⟨g8, e⟩ := gd_s e
  refine Ex_run 1 (i' := 20) (L' := [(2, ((j0 : Nat) : Int))]) (st' := []) (h' := (h.1, h.2.1, (put h.2.2 w1 3 w0))) hm rfl (cjc (gk_b g8) cjn) ?_
  cases e
  cases hk
  exact Ex_ret (k := 0) hm rfl ⟨rfl, rfl⟩
theorem tf60 {d : Nat} {v0 : Nat} {h : Mh} {x : Mh} (e : f60 v0 h = some x) (hd : 2 ≤ d) : Ex d 60 0 [(2, ((v0 : Nat) : Int))] [] h (none, x) := by
  unfold f60 at e
  have hm := mi_60
  generalize hk : (none, x) = rr
  replace hk : Hv x rr := hk.symm
  refine Ex_run 1 (i' := 1) (L' := [(2, ((v0 : Nat) : Int))]) (st' := [(2, ((v0 : Nat) : Int))]) (h' := (h.1, h.2.1, h.2.2)) hm rfl cjn ?_
  obtain ⟨g1, e⟩ := gd_s e
  refine Ex_prim (k := 1) (i' := 2) (L' := [(2, ((v0 : Nat) : Int))]) (st' := []) (h' := (h.1, h.2.1, h.2.2)) hm rfl (by omega) rfl (cjc (nz_i g1) (cjc (Nat.le_of_ble_eq_true rfl) cjn)) ?_
  refine Ex_run 4 (i' := 6) (L' := [(2, ((v0 : Nat) : Int))]) (st' := [(0, 20), (2, (((List.length h.1) : Nat) : Int)), (2, (((List.length h.1) : Nat) : Int)), (2, ((v0 : Nat) : Int))]) (h' := ((h.1 ++ [(6, 1)]), (zapR h.2.1 (List.length h.1)), (zap h.2.2 (List.length h.1)))) hm rfl cjn ?_
  obtain ⟨g2, e⟩ := gd_s e
  obtain ⟨q3, h3, e⟩ := bn_s e
  refine Ex_callm (z := 32) (na := 2) (ck := 1) (as := [(2, (((List.length h.1) : Nat) : Int)), (0, 20)]) (rest := [(2, (((List.length h.1) : Nat) : Int)), (2, ((v0 : Nat) : Int))]) (E0 := [(2, (((List.length h.1) : Nat) : Int)), (0, 20)]) (v := none) (h1 := (q3.1, q3.2.1, q3.2.2)) hm rfl (by omega) ⟨Nat.le_of_ble_eq_true rfl, Nat.le_of_ble_eq_true rfl⟩ (⟨_, rfl, nz_i g2⟩) rfl rfl ml_32 rfl (Nat.le_of_ble_eq_true rfl) (tf32 h3 (by omega)) ?_
  show Ex d 60 7 [(2, ((v0 : Nat) : Int))] [(2, (((List.length h.1) : Nat) : Int)), (2, ((v0 : Nat) : Int))] (q3.1, q3.2.1, q3.2.2) rr
  obtain ⟨g4, e⟩ := gd_s e
  refine Ex_run 5 (i' := 12) (L' := [(2, ((v0 : Nat) : Int))]) (st' := [(0, 20), (2, (((List.length q3.1) : Nat) : Int)), (2, (((List.length q3.1) : Nat) : Int)), (2, ((v0 : Nat) : Int))]) (h' := ((q3.1 ++ [(6, 1)]), (zapR (putR q3.2.1 v0 0 (List.length h.1)) (List.length q3.1)), (zap q3.2.2 (List.length q3.1)))) hm rfl (cjc (gk_b g4) (cjc (nz_i g2) cjn)) ?_
  obtain ⟨g5, e⟩ := gd_s e
  obtain ⟨q6, h6, e⟩ := bn_s e
  refine Ex_callm (z := 32) (na := 2) (ck := 1) (as := [(2, (((List.length q3.1) : Nat) : Int)), (0, 20)]) (rest := [(2, (((List.length q3.1) : Nat) : Int)), (2, ((v0 : Nat) : Int))]) (E0 := [(2, (((List.length q3.1) : Nat) : Int)), (0, 20)]) (v := none) (h1 := (q6.1, q6.2.1, q6.2.2)) hm rfl (by omega) ⟨Nat.le_of_ble_eq_true rfl, Nat.le_of_ble_eq_true rfl⟩ (⟨_, rfl, nz_i g5⟩) rfl rfl ml_32 rfl (Nat.le_of_ble_eq_true rfl) (tf32 h6 (by omega)) ?_
  show Ex d 60 13 [(2, ((v0 : Nat) : Int))] [(2, (((List.length q3.1) : Nat) : Int)), (2, ((v0 : Nat) : Int))] (q6.1, q6.2.1, q6.2.2) rr
  obtain ⟨g7, e⟩ := gd_s e
  refine Ex_run 6 (i' := 19) (L' := [(2, ((v0 : Nat) : Int))]) (st' := [(0, 0), (2, ((v0 : Nat) : Int))]) (h' := (q6.1, (putR q6.2.1 v0 1 (List.length q3.1)), (put q6.2.2 v0 2 0))) hm rfl (cjc (gk_b g7) (cjc (nz_i g5) (cjc (gk_b g7) cjn))) ?_
  exact tf60_19 e hd rr hk _
theorem tf63_45 {G : Gg} {ρ : Rg} {d : Nat} {v0 : Nat} {v1 : Nat} {v3 : Int} {v4 : Int} {v5 : Int} {v6 : Int} {w0 : Int} {w1 : Int} {m : Sg} {x : (Int × Sg) ⊕ (Sg)} (e : f63_45 G ρ v0 v1 v3 v4 v5 v6 w0 w1 m = some x) (hd : 2 ≤ d) (rr : Option MV × Mh) (hk : (DS (e63_15 G ρ d v0 v1 v3 v4 v5) (Bv G ρ)) x rr) (j2 : Int) (j7 : Int) (j8 : MV) (j9 : MV) : Ex d 63 45 [(2, ((v0 : Nat) : Int)), (2, ((v1 : Nat) : Int)), (0, j2), (0, v3), (0, v4), (0, v5), (0, v6), (0, j7), j8, j9] [(0, w0), (0, w1)] (G, ρ, m) rr := by
  unfold f63_45 at e
  have hm := mi_63
  by_cases c12 : w1 = w0
  · replace e := it_p e c12
    refine Ex_if2f (c := 1) (tgt := 53) hm rfl (bf1 c12) ?_
    obtain ⟨g13, e⟩ := gd_s e
    refine Ex_run 9 (i' := 15) (L' := [(2, ((v0 : Nat) : Int)), (2, ((v1 : Nat) : Int)), (0, j2), (0, v3), (0, v4), (0, v5), (0, (w32 (v6 + 1))), (0, j7), j8, j9]) (st' := []) (h' := (G, ρ, (put m v0 2 (g_add (m v0 2) v3)))) hm rfl (cjc (gk_b g13) (cjc (gk_b g13) cjn)) ?_
    cases e
    exact hk _ _ _ _
  · replace e := it_n e c12
    refine Ex_if2t (c := 1) (tgt := 53) hm rfl (bt1 c12) ?_
    obtain ⟨g14, e⟩ := gd_s e
    refine Ex_run 9 (i' := 15) (L' := [(2, ((v0 : Nat) : Int)), (2, ((v1 : Nat) : Int)), (0, j2), (0, v3), (0, v4), (0, v5), (0, (w32 (v6 + 1))), (0, j7), j8, j9]) (st' := []) (h' := (G, ρ, (put m v0 3 (g_add (m v0 3) v3)))) hm rfl (cjc (gk_b g14) (cjc (gk_b g14) cjn)) ?_
    cases e
    exact hk _ _ _ _
theorem tf63_40 {G : Gg} {ρ : Rg} {d : Nat} {v0 : Nat} {v1 : Nat} {v3 : Int} {v4 : Int} {v5 : Int} {v6 : Int} {w0 : Int} {m : Sg} {x : (Int × Sg) ⊕ (Sg)} (e : f63_40 G ρ v0 v1 v3 v4 v5 v6 w0 m = some x) (hd : 2 ≤ d) (rr : Option MV × Mh) (hk : (DS (e63_15 G ρ d v0 v1 v3 v4 v5) (Bv G ρ)) x rr) (j2 : Int) (j7 : Int) (j8 : MV) (j9 : MV) : Ex d 63 40 [(2, ((v0 : Nat) : Int)), (2, ((v1 : Nat) : Int)), (0, j2), (0, v3), (0, v4), (0, v5), (0, v6), (0, j7), j8, j9] [(0, w0)] (G, ρ, m) rr := by
  unfold f63_40 at e
  have hm := mi_63
  refine Ex_run 1 (i' := 41) (L' := [(2, ((v0 : Nat) : Int)), (2, ((v1 : Nat) : Int)), (0, j2), (0, v3), (0, v4), (0, v5), (0, v6), (0, j7), j8, j9]) (st' := [(0, v4), (0, w0)]) (h' := (G, ρ, m)) hm rfl cjn ?_
  by_cases c11 : v4 = 0
  · replace e := it_p e c11
    refine Ex_if1f (c := 1) (tgt := 44) hm rfl (bf1 c11) ?_
    refine Ex_run 2 (i' := 45) (L' := [(2, ((v0 : Nat) : Int)), (2, ((v1 : Nat) : Int)), (0, j2), (0, v3), (0, v4), (0, v5), (0, v6), (0, j7), j8, j9]) (st' := [(0, 1), (0, w0)]) (h' := (G, ρ, m)) hm rfl cjn ?_
    exact tf63_45 e hd rr hk _ _ _ _
  · replace e := it_n e c11
    refine Ex_if1t (c := 1) (tgt := 44) hm rfl (bt1 c11) ?_
    refine Ex_run 1 (i' := 45) (L' := [(2, ((v0 : Nat) : Int)), (2, ((v1 : Nat) : Int)), (0, j2), (0, v3), (0, v4), (0, v5), (0, v6), (0, j7), j8, j9]) (st' := [(0, 0), (0, w0)]) (h' := (G, ρ, m)) hm rfl cjn ?_
    exact tf63_45 e hd rr hk _ _ _ _
theorem tf63_34 {G : Gg} {ρ : Rg} {d : Nat} {v0 : Nat} {v1 : Nat} {v3 : Int} {v4 : Int} {v5 : Int} {v6 : Int} {v7 : Int} {m : Sg} {x : (Int × Sg) ⊕ (Sg)} (e : f63_34 G ρ v0 v1 v3 v4 v5 v6 v7 m = some x) (hd : 2 ≤ d) (rr : Option MV × Mh) (hk : (DS (e63_15 G ρ d v0 v1 v3 v4 v5) (Bv G ρ)) x rr) (j2 : Int) (j8 : MV) (j9 : MV) : Ex d 63 34 [(2, ((v0 : Nat) : Int)), (2, ((v1 : Nat) : Int)), (0, j2), (0, v3), (0, v4), (0, v5), (0, v6), (0, v7), j8, j9] [] (G, ρ, m) rr := by
  unfold f63_34 at e
  have hm := mi_63
  refine Ex_run 2 (i' := 36) (L' := [(2, ((v0 : Nat) : Int)), (2, ((v1 : Nat) : Int)), (0, j2), (0, v3), (0, v4), (0, v5), (0, v6), (0, v7), j8, j9]) (st' := [(0, 2), (0, v7)]) (h' := (G, ρ, m)) hm rfl cjn ?_
  by_cases c10 : v7 = 2
  · replace e := it_p e c10
    refine Ex_if2f (c := 1) (tgt := 39) hm rfl (bf1 c10) ?_
    refine Ex_run 2 (i' := 40) (L' := [(2, ((v0 : Nat) : Int)), (2, ((v1 : Nat) : Int)), (0, j2), (0, v3), (0, v4), (0, v5), (0, v6), (0, v7), j8, j9]) (st' := [(0, 1)]) (h' := (G, ρ, m)) hm rfl cjn ?_
    exact tf63_40 e hd rr hk _ _ _ _
  · replace e := it_n e c10
    refine Ex_if2t (c := 1) (tgt := 39) hm rfl (bt1 c10) ?_
    refine Ex_run 1 (i' := 40) (L' := [(2, ((v0 : Nat) : Int)), (2, ((v1 : Nat) : Int)), (0, j2), (0, v3), (0, v4), (0, v5), (0, v6), (0, v7), j8, j9]) (st' := [(0, 0)]) (h' := (G, ρ, m)) hm rfl cjn ?_
    exact tf63_40 e hd rr hk _ _ _ _
theorem tf63_68 {G : Gg} {ρ : Rg} {d : Nat} {v0 : Nat} {v1 : Nat} {v3 : Int} {v4 : Int} {v5 : Int} {v6 : Int} {w0 : Int} {m : Sg} {x : (Int × Sg) ⊕ (Sg)} (e : f63_68 G ρ v0 v1 v3 v4 v5 v6 w0 m = some x) (hd : 2 ≤ d) (rr : Option MV × Mh) (hk : (DS (e63_15 G ρ d v0 v1 v3 v4 v5) (Bv G ρ)) x rr) (j2 : Int) (j7 : Int) (j8 : MV) (j9 : MV) : Ex d 63 68 [(2, ((v0 : Nat) : Int)), (2, ((v1 : Nat) : Int)), (0, j2), (0, v3), (0, v4), (0, v5), (0, v6), (0, j7), j8, j9] [(0, w0)] (G, ρ, m) rr := by
  unfold f63_68 at e
  have hm := mi_63
  refine Ex_run 7 (i' := 75) (L' := [(2, ((v0 : Nat) : Int)), (2, ((v1 : Nat) : Int)), (0, j2), (0, v3), (0, v4), (0, v5), (0, v6), (0, j7), (0, w0), j9]) (st' := [(0, v6), (0, v5), (2, ((v1 : Nat) : Int)), (0, (g_mul w0 10))]) (h' := (G, ρ, m)) hm rfl (cjc (Nat.le_of_ble_eq_true rfl) cjn) ?_
  obtain ⟨g17, e⟩ := gd_s e
  obtain ⟨q18, h18, e⟩ := bn_s e
  refine Ex_callm (z := 44) (na := 3) (ck := 7) (as := [(2, ((v1 : Nat) : Int)), (0, v5), (0, v6)]) (rest := [(0, (g_mul w0 10))]) (E0 := [(2, ((v1 : Nat) : Int)), (0, v5), (0, v6), (9, 0)]) (v := some (0, q18)) (h1 := (G, ρ, m)) hm rfl (by omega) ⟨Nat.le_of_ble_eq_true rfl, Nat.le_of_ble_eq_true rfl⟩ (rc2 rfl g17) rfl rfl ml_44 rfl (Nat.le_of_ble_eq_true rfl) (tf44 h18 (by omega)) ?_
  show Ex d 63 76 [(2, ((v0 : Nat) : Int)), (2, ((v1 : Nat) : Int)), (0, j2), (0, v3), (0, v4), (0, v5), (0, v6), (0, j7), (0, w0), j9] [(0, q18), (0, (g_mul w0 10))] (G, ρ, m) rr
  obtain ⟨g19, e⟩ := gd_s e
  refine Ex_run 8 (i' := 84) (L' := [(2, ((v0 : Nat) : Int)), (2, ((v1 : Nat) : Int)), (0, j2), (0, v3), (0, v4), (0, v5), (0, v6), (0, j7), (0, w0), (0, (g_add (g_mul w0 10) q18))]) (st' := [(0, (g_add (g_mul w0 10) q18)), (2, (((ρ v0 1) : Nat) : Int)), (0, (g_add (g_mul w0 10) q18)), (2, (((ρ v0 1) : Nat) : Int))]) (h' := (G, ρ, m)) hm rfl (cjc (Nat.le_of_ble_eq_true rfl) (cjc (gk_b g19) (cjc (gk_b g19) cjn))) ?_
  obtain ⟨g20, e⟩ := gd_s e
  obtain ⟨q21, h21, e⟩ := bn_s e
  refine Ex_callm (z := 33) (na := 2) (ck := 6) (as := [(2, (((ρ v0 1) : Nat) : Int)), (0, (g_add (g_mul w0 10) q18))]) (rest := [(0, (g_add (g_mul w0 10) q18)), (2, (((ρ v0 1) : Nat) : Int))]) (E0 := [(2, (((ρ v0 1) : Nat) : Int)), (0, (g_add (g_mul w0 10) q18))]) (v := some (0, q21)) (h1 := (G, ρ, m)) hm rfl (by omega) ⟨Nat.le_of_ble_eq_true rfl, Nat.le_of_ble_eq_true rfl⟩ (rc2 rfl g20) rfl rfl ml_33 rfl (Nat.le_of_ble_eq_true rfl) (tf33 h21 (by omega)) ?_
  show Ex d 63 85 [(2, ((v0 : Nat) : Int)), (2, ((v1 : Nat) : Int)), (0, j2), (0, v3), (0, v4), (0, v5), (0, v6), (0, j7), (0, w0), (0, (g_add (g_mul w0 10) q18))] [(0, q21), (0, (g_add (g_mul w0 10) q18)), (2, (((ρ v0 1) : Nat) : Int))] (G, ρ, m) rr
  refine Ex_run 2 (i' := 87) (L' := [(2, ((v0 : Nat) : Int)), (2, ((v1 : Nat) : Int)), (0, j2), (0, v3), (0, v4), (0, v5), (0, v6), (0, j7), (0, w0), (0, (g_add (g_mul w0 10) q18))]) (st' := [(0, (g_add q21 v3)), (0, (g_add (g_mul w0 10) q18)), (2, (((ρ v0 1) : Nat) : Int))]) (h' := (G, ρ, m)) hm rfl cjn ?_
  obtain ⟨q22, h22, e⟩ := bn_s e
  refine Ex_callm (z := 34) (na := 3) (ck := 6) (as := [(2, (((ρ v0 1) : Nat) : Int)), (0, (g_add (g_mul w0 10) q18)), (0, (g_add q21 v3))]) (rest := []) (E0 := [(2, (((ρ v0 1) : Nat) : Int)), (0, (g_add (g_mul w0 10) q18)), (0, (g_add q21 v3))]) (v := none) (h1 := (G, ρ, q22)) hm rfl (by omega) ⟨Nat.le_of_ble_eq_true rfl, Nat.le_of_ble_eq_true rfl⟩ (rc2 rfl g20) rfl rfl ml_34 rfl (Nat.le_of_ble_eq_true rfl) (tf34 h22 (by omega)) ?_
  show Ex d 63 88 [(2, ((v0 : Nat) : Int)), (2, ((v1 : Nat) : Int)), (0, j2), (0, v3), (0, v4), (0, v5), (0, v6), (0, j7), (0, w0), (0, (g_add (g_mul w0 10) q18))] [] (G, ρ, q22) rr
  refine Ex_run 2 (i' := 15) (L' := [(2, ((v0 : Nat) : Int)), (2, ((v1 : Nat) : Int)), (0, j2), (0, v3), (0, v4), (0, v5), (0, (w32 (v6 + 1))), (0, j7), (0, w0), (0, (g_add (g_mul w0 10) q18))]) (st' := []) (h' := (G, ρ, q22)) hm rfl cjn ?_
  cases e
  exact hk _ _ _ _
theorem tf63_b15 {G : Gg} {ρ : Rg} {d : Nat} {v0 : Nat} {v1 : Nat} {v3 : Int} {v4 : Int} {v5 : Int} {s : Int × Sg} {x : (Int × Sg) ⊕ (Sg)} (e : f63_b15 G ρ v0 v1 v3 v4 v5 s = some x) (hd : 2 ≤ d) (rr : Option MV × Mh) (hk : (DS (e63_15 G ρ d v0 v1 v3 v4 v5) (Bv G ρ)) x rr) : e63_15 G ρ d v0 v1 v3 v4 v5 s rr := by
  unfold f63_b15 at e
  have hm := mi_63
  show ∀ (j2 : Int) (j7 : MV) (j8 : MV) (j9 : MV), Ex d 63 15 [(2, ((v0 : Nat) : Int)), (2, ((v1 : Nat) : Int)), (0, j2), (0, v3), (0, v4), (0, v5), (0, s.1), j7, j8, j9] [] (G, ρ, s.2) rr
  intro j2 j7 j8 j9
  refine Ex_run 2 (i' := 17) (L' := [(2, ((v0 : Nat) : Int)), (2, ((v1 : Nat) : Int)), (0, j2), (0, v3), (0, v4), (0, v5), (0, s.1), j7, j8, j9]) (st' := [(0, 5), (0, s.1)]) (h' := (G, ρ, s.2)) hm rfl cjn ?_
  by_cases c4 : 5 < s.1
  · replace e := it_p e c4
    refine Ex_if2t (c := 4) (tgt := 90) hm rfl (bt4 c4) ?_
    obtain ⟨x, e, hx⟩ := xr_s e
    replace hk : (Bv G ρ) x rr := by rw [hx] at hk; exact hk
    cases e
    cases hk
    exact Ex_ret (k := 0) hm rfl ⟨rfl, rfl⟩
  · replace e := it_n e c4
    refine Ex_if2f (c := 4) (tgt := 90) hm rfl (bf4 c4) ?_
    refine Ex_run 2 (i' := 20) (L' := [(2, ((v0 : Nat) : Int)), (2, ((v1 : Nat) : Int)), (0, j2), (0, v3), (0, v4), (0, v5), (0, s.1), j7, j8, j9]) (st' := [(0, s.1), (2, ((v1 : Nat) : Int))]) (h' := (G, ρ, s.2)) hm rfl cjn ?_
    obtain ⟨g5, e⟩ := gd_s e
    obtain ⟨q6, h6, e⟩ := bn_s e
    refine Ex_callm (z := 39) (na := 2) (ck := 7) (as := [(2, ((v1 : Nat) : Int)), (0, s.1)]) (rest := []) (E0 := [(2, ((v1 : Nat) : Int)), (0, s.1)]) (v := some (0, q6)) (h1 := (G, ρ, s.2)) hm rfl (by omega) ⟨Nat.le_of_ble_eq_true rfl, Nat.le_of_ble_eq_true rfl⟩ (rc2 rfl g5) rfl rfl ml_39 rfl (Nat.le_of_ble_eq_true rfl) (tf39 h6 (by omega)) ?_
    show Ex d 63 21 [(2, ((v0 : Nat) : Int)), (2, ((v1 : Nat) : Int)), (0, j2), (0, v3), (0, v4), (0, v5), (0, s.1), j7, j8, j9] [(0, q6)] (G, ρ, s.2) rr
    by_cases c7 : q6 = 0
    · replace e := it_p e c7
      refine Ex_if1f (c := 1) (tgt := 23) hm rfl (bf1 c7) ?_
      refine Ex_run 3 (i' := 15) (L' := [(2, ((v0 : Nat) : Int)), (2, ((v1 : Nat) : Int)), (0, j2), (0, v3), (0, v4), (0, v5), (0, (w32 (s.1 + 1))), j7, j8, j9]) (st' := []) (h' := (G, ρ, s.2)) hm rfl cjn ?_
      cases e
      exact hk _ _ _ _
    · replace e := it_n e c7
      refine Ex_if1t (c := 1) (tgt := 23) hm rfl (bt1 c7) ?_
      refine Ex_run 3 (i' := 26) (L' := [(2, ((v0 : Nat) : Int)), (2, ((v1 : Nat) : Int)), (0, j2), (0, v3), (0, v4), (0, v5), (0, s.1), j7, j8, j9]) (st' := [(0, s.1), (0, v5), (2, ((v1 : Nat) : Int))]) (h' := (G, ρ, s.2)) hm rfl cjn ?_
      obtain ⟨q8, h8, e⟩ := bn_s e
      refine Ex_callm (z := 43) (na := 3) (ck := 7) (as := [(2, ((v1 : Nat) : Int)), (0, v5), (0, s.1)]) (rest := []) (E0 := [(2, ((v1 : Nat) : Int)), (0, v5), (0, s.1), (9, 0)]) (v := some (0, q8)) (h1 := (G, ρ, s.2)) hm rfl (by omega) ⟨Nat.le_of_ble_eq_true rfl, Nat.le_of_ble_eq_true rfl⟩ (rc2 rfl g5) rfl rfl ml_43 rfl (Nat.le_of_ble_eq_true rfl) (tf43 h8 (by omega)) ?_
      show Ex d 63 27 [(2, ((v0 : Nat) : Int)), (2, ((v1 : Nat) : Int)), (0, j2), (0, v3), (0, v4), (0, v5), (0, s.1), j7, j8, j9] [(0, q8)] (G, ρ, s.2) rr
      refine Ex_run 3 (i' := 30) (L' := [(2, ((v0 : Nat) : Int)), (2, ((v1 : Nat) : Int)), (0, j2), (0, v3), (0, v4), (0, v5), (0, s.1), (0, q8), j8, j9]) (st' := [(0, 2), (0, q8)]) (h' := (G, ρ, s.2)) hm rfl (cjc (Nat.le_of_ble_eq_true rfl) cjn) ?_
      by_cases c9 : q8 = 2
      · replace e := it_p e c9
        refine Ex_if2t (c := 0) (tgt := 34) hm rfl (bt0 c9) ?_
        exact tf63_34 e hd rr hk _ _ _
      · replace e := it_n e c9
        refine Ex_if2f (c := 0) (tgt := 34) hm rfl (bf0 c9) ?_
        refine Ex_run 2 (i' := 33) (L' := [(2, ((v0 : Nat) : Int)), (2, ((v1 : Nat) : Int)), (0, j2), (0, v3), (0, v4), (0, v5), (0, s.1), (0, q8), j8, j9]) (st' := [(0, 3), (0, q8)]) (h' := (G, ρ, s.2)) hm rfl cjn ?_
        by_cases c15 : q8 = 3
        · replace e := it_p e c15
          refine Ex_if2f (c := 1) (tgt := 60) hm rfl (bf1 c15) ?_
          exact tf63_34 e hd rr hk _ _ _
        · replace e := it_n e c15
          refine Ex_if2t (c := 1) (tgt := 60) hm rfl (bt1 c15) ?_
          refine Ex_run 2 (i' := 62) (L' := [(2, ((v0 : Nat) : Int)), (2, ((v1 : Nat) : Int)), (0, j2), (0, v3), (0, v4), (0, v5), (0, s.1), (0, q8), j8, j9]) (st' := [(0, 1), (0, q8)]) (h' := (G, ρ, s.2)) hm rfl cjn ?_
          by_cases c16 : q8 = 1
          · replace e := it_p e c16
            refine Ex_if2f (c := 1) (tgt := 65) hm rfl (bf1 c16) ?_
            refine Ex_run 2 (i' := 68) (L' := [(2, ((v0 : Nat) : Int)), (2, ((v1 : Nat) : Int)), (0, j2), (0, v3), (0, v4), (0, v5), (0, s.1), (0, q8), j8, j9]) (st' := [(0, v4)]) (h' := (G, ρ, s.2)) hm rfl cjn ?_
            exact tf63_68 e hd rr hk _ _ _ _
          · replace e := it_n e c16
            refine Ex_if2t (c := 1) (tgt := 65) hm rfl (bt1 c16) ?_
            refine Ex_run 3 (i' := 68) (L' := [(2, ((v0 : Nat) : Int)), (2, ((v1 : Nat) : Int)), (0, j2), (0, v3), (0, v4), (0, v5), (0, s.1), (0, q8), j8, j9]) (st' := [(0, (g_sub 1 v4))]) (h' := (G, ρ, s.2)) hm rfl cjn ?_
            exact tf63_68 e hd rr hk _ _ _ _
theorem tf63 {G : Gg} {ρ : Rg} {d : Nat} {v0 : Nat} {v1 : Nat} {v2 : Int} {m : Sg} {x : Sg} (e : f63 G ρ v0 v1 v2 m = some x) (hd : 2 ≤ d) : Ex d 63 0 [(2, ((v0 : Nat) : Int)), (2, ((v1 : Nat) : Int)), (0, v2), (9, 0), (9, 0), (9, 0), (9, 0), (9, 0), (9, 0), (9, 0)] [] (G, ρ, m) (none, (G, ρ, x)) := by
  unfold f63 at e
  have hm := mi_63
  generalize hk : (none, (G, ρ, x)) = rr
  replace hk : (Bv G ρ) x rr := hk.symm
  obtain ⟨g1, e⟩ := gd_s e
  refine Ex_run 3 (i' := 3) (L' := [(2, ((v0 : Nat) : Int)), (2, ((v1 : Nat) : Int)), (0, v2), (9, 0), (9, 0), (9, 0), (9, 0), (9, 0), (9, 0), (9, 0)]) (st' := [(0, v2), (2, (((ρ v0 0) : Nat) : Int))]) (h' := (G, ρ, m)) hm rfl (cjc (gk_b g1) cjn) ?_
  obtain ⟨g2, e⟩ := gd_s e
  obtain ⟨q3, h3, e⟩ := bn_s e
  refine Ex_callm (z := 33) (na := 2) (ck := 6) (as := [(2, (((ρ v0 0) : Nat) : Int)), (0, v2)]) (rest := []) (E0 := [(2, (((ρ v0 0) : Nat) : Int)), (0, v2)]) (v := some (0, q3)) (h1 := (G, ρ, m)) hm rfl (by omega) ⟨Nat.le_of_ble_eq_true rfl, Nat.le_of_ble_eq_true rfl⟩ (rc2 rfl g2) rfl rfl ml_33 rfl (Nat.le_of_ble_eq_true rfl) (tf33 h3 (by omega)) ?_
  show Ex d 63 4 [(2, ((v0 : Nat) : Int)), (2, ((v1 : Nat) : Int)), (0, v2), (9, 0), (9, 0), (9, 0), (9, 0), (9, 0), (9, 0), (9, 0)] [(0, q3)] (G, ρ, m) rr
  refine Ex_run 11 (i' := 15) (L' := [(2, ((v0 : Nat) : Int)), (2, ((v1 : Nat) : Int)), (0, v2), (0, q3), (0, (g_div v2 10)), (0, (g_rem v2 10)), (0, 1), (9, 0), (9, 0), (9, 0)]) (st' := []) (h' := (G, ρ, m)) hm rfl (cjc (Nat.le_of_ble_eq_true rfl) (cjc (by decide) (cjc (Nat.le_of_ble_eq_true rfl) (cjc (by decide) (cjc (Nat.le_of_ble_eq_true rfl) (cjc (Nat.le_of_ble_eq_true rfl) cjn)))))) ?_
  exact (Ex_lp (A := e63_15 G ρ d v0 v1 q3 (g_div v2 10) (g_rem v2 10) ) (B := (Bv G ρ)) (fun s x e rr hk => tf63_b15 e hd rr hk) FU _ _ e rr hk) _ _ _ _
theorem tf61_b48 {G : Gg} {ρ : Rg} {d : Nat} {v0 : Nat} {v1 : Nat} {v2 : Int} {v3 : Int} {s : Int × Sg} {x : (Int × Sg) ⊕ ((Int × Sg) ⊕ (Sg))} (e : f61_b48 G ρ v0 v1 v2 v3 s = some x) (hd : 3 ≤ d) (rr : Option MV × Mh) (hk : (DS (e61_48 G ρ d v0 v1 v2 v3) (DS (e61_17 G ρ d v0 v1 v2) (Bv G ρ))) x rr) : e61_48 G ρ d v0 v1 v2 v3 s rr := by
  unfold f61_b48 at e
  have hm := mi_61
  show Ex d 61 48 [(2, ((v0 : Nat) : Int)), (2, ((v1 : Nat) : Int)), (0, v2), (0, v3), (0, s.1)] [] (G, ρ, s.2) rr
  refine Ex_run 2 (i' := 50) (L' := [(2, ((v0 : Nat) : Int)), (2, ((v1 : Nat) : Int)), (0, v2), (0, v3), (0, s.1)]) (st' := [(0, 20), (0, s.1)]) (h' := (G, ρ, s.2)) hm rfl cjn ?_
  by_cases c18 : s.1 < 20
  · replace e := it_p e c18
    refine Ex_if2f (c := 3) (tgt := 61) hm rfl (bf3 c18) ?_
    obtain ⟨g19, e⟩ := gd_s e
    refine Ex_run 6 (i' := 57) (L' := [(2, ((v0 : Nat) : Int)), (2, ((v1 : Nat) : Int)), (0, v2), (0, v3), (0, s.1)]) (st' := [(0, s.1), (2, (((ρ v0 1) : Nat) : Int)), (0, s.1), (2, (((ρ v0 0) : Nat) : Int))]) (h' := (G, ρ, s.2)) hm rfl (cjc (gk_b g19) (cjc (gk_b g19) cjn)) ?_
    obtain ⟨g20, e⟩ := gd_s e
    obtain ⟨q21, h21, e⟩ := bn_s e
    refine Ex_callm (z := 33) (na := 2) (ck := 6) (as := [(2, (((ρ v0 1) : Nat) : Int)), (0, s.1)]) (rest := [(0, s.1), (2, (((ρ v0 0) : Nat) : Int))]) (E0 := [(2, (((ρ v0 1) : Nat) : Int)), (0, s.1)]) (v := some (0, q21)) (h1 := (G, ρ, s.2)) hm rfl (by omega) ⟨Nat.le_of_ble_eq_true rfl, Nat.le_of_ble_eq_true rfl⟩ (rc2 rfl g20) rfl rfl ml_33 rfl (Nat.le_of_ble_eq_true rfl) (tf33 h21 (by omega)) ?_
    show Ex d 61 58 [(2, ((v0 : Nat) : Int)), (2, ((v1 : Nat) : Int)), (0, v2), (0, v3), (0, s.1)] [(0, q21), (0, s.1), (2, (((ρ v0 0) : Nat) : Int))] (G, ρ, s.2) rr
    obtain ⟨g22, e⟩ := gd_s e
    obtain ⟨q23, h23, e⟩ := bn_s e
    refine Ex_callm (z := 34) (na := 3) (ck := 6) (as := [(2, (((ρ v0 0) : Nat) : Int)), (0, s.1), (0, q21)]) (rest := []) (E0 := [(2, (((ρ v0 0) : Nat) : Int)), (0, s.1), (0, q21)]) (v := none) (h1 := (G, ρ, q23)) hm rfl (by omega) ⟨Nat.le_of_ble_eq_true rfl, Nat.le_of_ble_eq_true rfl⟩ (rc2 rfl g22) rfl rfl ml_34 rfl (Nat.le_of_ble_eq_true rfl) (tf34 h23 (by omega)) ?_
    show Ex d 61 59 [(2, ((v0 : Nat) : Int)), (2, ((v1 : Nat) : Int)), (0, v2), (0, v3), (0, s.1)] [] (G, ρ, q23) rr
    refine Ex_run 2 (i' := 48) (L' := [(2, ((v0 : Nat) : Int)), (2, ((v1 : Nat) : Int)), (0, v2), (0, v3), (0, (w32 (s.1 + 1)))]) (st' := []) (h' := (G, ρ, q23)) hm rfl cjn ?_
    cases e
    exact hk
  · replace e := it_n e c18
    refine Ex_if2t (c := 3) (tgt := 61) hm rfl (bt3 c18) ?_
    obtain ⟨x, e, hx⟩ := xr_s e
    replace hk : (DS (e61_17 G ρ d v0 v1 v2) (Bv G ρ)) x rr := by rw [hx] at hk; exact hk
    refine Ex_run 2 (i' := 17) (L' := [(2, ((v0 : Nat) : Int)), (2, ((v1 : Nat) : Int)), (0, v2), (0, (w32 (v3 + 1))), (0, s.1)]) (st' := []) (h' := (G, ρ, s.2)) hm rfl cjn ?_
    cases e
    exact hk _
theorem tf61_b32 {G : Gg} {ρ : Rg} {d : Nat} {v0 : Nat} {v1 : Nat} {v2 : Int} {v3 : Int} {s : Int × Sg} {x : (Int × Sg) ⊕ ((Int × Sg) ⊕ (Sg))} (e : f61_b32 G ρ v0 v1 v2 v3 s = some x) (hd : 3 ≤ d) (rr : Option MV × Mh) (hk : (DS (e61_32 G ρ d v0 v1 v2 v3) (DS (e61_17 G ρ d v0 v1 v2) (Bv G ρ))) x rr) : e61_32 G ρ d v0 v1 v2 v3 s rr := by
  unfold f61_b32 at e
  have hm := mi_61
  show Ex d 61 32 [(2, ((v0 : Nat) : Int)), (2, ((v1 : Nat) : Int)), (0, v2), (0, v3), (0, s.1)] [] (G, ρ, s.2) rr
  refine Ex_run 2 (i' := 34) (L' := [(2, ((v0 : Nat) : Int)), (2, ((v1 : Nat) : Int)), (0, v2), (0, v3), (0, s.1)]) (st' := [(0, 20), (0, s.1)]) (h' := (G, ρ, s.2)) hm rfl cjn ?_
  by_cases c12 : s.1 < 20
  · replace e := it_p e c12
    refine Ex_if2f (c := 3) (tgt := 46) hm rfl (bf3 c12) ?_
    obtain ⟨g13, e⟩ := gd_s e
    refine Ex_run 3 (i' := 38) (L' := [(2, ((v0 : Nat) : Int)), (2, ((v1 : Nat) : Int)), (0, v2), (0, v3), (0, s.1)]) (st' := [(0, s.1), (2, (((ρ v0 0) : Nat) : Int))]) (h' := (G, ρ, s.2)) hm rfl (cjc (gk_b g13) cjn) ?_
    obtain ⟨g14, e⟩ := gd_s e
    obtain ⟨q15, h15, e⟩ := bn_s e
    refine Ex_callm (z := 33) (na := 2) (ck := 6) (as := [(2, (((ρ v0 0) : Nat) : Int)), (0, s.1)]) (rest := []) (E0 := [(2, (((ρ v0 0) : Nat) : Int)), (0, s.1)]) (v := some (0, q15)) (h1 := (G, ρ, s.2)) hm rfl (by omega) ⟨Nat.le_of_ble_eq_true rfl, Nat.le_of_ble_eq_true rfl⟩ (rc2 rfl g14) rfl rfl ml_33 rfl (Nat.le_of_ble_eq_true rfl) (tf33 h15 (by omega)) ?_
    show Ex d 61 39 [(2, ((v0 : Nat) : Int)), (2, ((v1 : Nat) : Int)), (0, v2), (0, v3), (0, s.1)] [(0, q15)] (G, ρ, s.2) rr
    by_cases c16 : q15 = 0
    · replace e := it_p e c16
      refine Ex_if1t (c := 0) (tgt := 44) hm rfl (bt0 c16) ?_
      refine Ex_run 2 (i' := 32) (L' := [(2, ((v0 : Nat) : Int)), (2, ((v1 : Nat) : Int)), (0, v2), (0, v3), (0, (w32 (s.1 + 1)))]) (st' := []) (h' := (G, ρ, s.2)) hm rfl cjn ?_
      cases e
      exact hk
    · replace e := it_n e c16
      refine Ex_if1f (c := 0) (tgt := 44) hm rfl (bf0 c16) ?_
      refine Ex_run 3 (i' := 43) (L' := [(2, ((v0 : Nat) : Int)), (2, ((v1 : Nat) : Int)), (0, v2), (0, v3), (0, s.1)]) (st' := [(0, s.1), (2, ((v1 : Nat) : Int)), (2, ((v0 : Nat) : Int))]) (h' := (G, ρ, s.2)) hm rfl cjn ?_
      obtain ⟨q17, h17, e⟩ := bn_s e
      refine Ex_callm (z := 63) (na := 3) (ck := 10) (as := [(2, ((v0 : Nat) : Int)), (2, ((v1 : Nat) : Int)), (0, s.1)]) (rest := []) (E0 := [(2, ((v0 : Nat) : Int)), (2, ((v1 : Nat) : Int)), (0, s.1), (9, 0), (9, 0), (9, 0), (9, 0), (9, 0), (9, 0), (9, 0)]) (v := none) (h1 := (G, ρ, q17)) hm rfl (by omega) ⟨Nat.le_of_ble_eq_true rfl, Nat.le_of_ble_eq_true rfl⟩ (rc2 rfl g13) rfl rfl ml_63 rfl (Nat.le_of_ble_eq_true rfl) (tf63 h17 (by omega)) ?_
      show Ex d 61 44 [(2, ((v0 : Nat) : Int)), (2, ((v1 : Nat) : Int)), (0, v2), (0, v3), (0, s.1)] [] (G, ρ, q17) rr
      refine Ex_run 2 (i' := 32) (L' := [(2, ((v0 : Nat) : Int)), (2, ((v1 : Nat) : Int)), (0, v2), (0, v3), (0, (w32 (s.1 + 1)))]) (st' := []) (h' := (G, ρ, q17)) hm rfl cjn ?_
      cases e
      exact hk
  · replace e := it_n e c12
    refine Ex_if2t (c := 3) (tgt := 46) hm rfl (bt3 c12) ?_
    obtain ⟨x, e, hx⟩ := xr_s e
    replace hk : (DS (e61_17 G ρ d v0 v1 v2) (Bv G ρ)) x rr := by rw [hx] at hk; exact hk
    refine Ex_run 2 (i' := 48) (L' := [(2, ((v0 : Nat) : Int)), (2, ((v1 : Nat) : Int)), (0, v2), (0, v3), (0, 0)]) (st' := []) (h' := (G, ρ, s.2)) hm rfl (cjc (Nat.le_of_ble_eq_true rfl) cjn) ?_
    exact (Ex_lp (A := e61_48 G ρ d v0 v1 v2 v3 ) (B := (DS (e61_17 G ρ d v0 v1 v2) (Bv G ρ))) (fun s x e rr hk => tf61_b48 e hd rr hk) FU _ _ e rr hk)
theorem tf61_25 {G : Gg} {ρ : Rg} {d : Nat} {v0 : Nat} {v1 : Nat} {v2 : Int} {v3 : Int} {w0 : Int} {w1 : Nat} {m : Sg} {x : (Int × Sg) ⊕ (Sg)} (e : f61_25 G ρ v0 v1 v2 v3 w0 w1 m = some x) (hd : 3 ≤ d) (rr : Option MV × Mh) (hk : (DS (e61_17 G ρ d v0 v1 v2) (Bv G ρ)) x rr) (j4 : MV) : Ex d 61 25 [(2, ((v0 : Nat) : Int)), (2, ((v1 : Nat) : Int)), (0, v2), (0, v3), j4] [(0, w0), (2, ((w1 : Nat) : Int))] (G, ρ, m) rr := by
  unfold f61_25 at e
  have hm := mi_61
  obtain ⟨g8, e⟩ := gd_s e
  obtain ⟨g9, e⟩ := gd_s e
  refine Ex_run 4 (i' := 29) (L' := [(2, ((v0 : Nat) : Int)), (2, ((v1 : Nat) : Int)), (0, v2), (0, v3), j4]) (st' := [(0, 0), (2, (((ρ v0 1) : Nat) : Int))]) (h' := (G, ρ, (put m w1 3 w0))) hm rfl (cjc (gk_b g8) (cjc (gk_b g9) cjn)) ?_
  obtain ⟨g10, e⟩ := gd_s e
  obtain ⟨q11, h11, e⟩ := bn_s e
  refine Ex_callm (z := 35) (na := 2) (ck := 6) (as := [(2, (((ρ v0 1) : Nat) : Int)), (0, 0)]) (rest := []) (E0 := [(2, (((ρ v0 1) : Nat) : Int)), (0, 0), (9, 0)]) (v := none) (h1 := (G, ρ, q11)) hm rfl (by omega) ⟨Nat.le_of_ble_eq_true rfl, Nat.le_of_ble_eq_true rfl⟩ (rc2 rfl g10) rfl rfl ml_35 rfl (Nat.le_of_ble_eq_true rfl) (tf35 h11 (by omega)) ?_
  show Ex d 61 30 [(2, ((v0 : Nat) : Int)), (2, ((v1 : Nat) : Int)), (0, v2), (0, v3), j4] [] (G, ρ, q11) rr
  refine Ex_run 2 (i' := 32) (L' := [(2, ((v0 : Nat) : Int)), (2, ((v1 : Nat) : Int)), (0, v2), (0, v3), (0, 0)]) (st' := []) (h' := (G, ρ, q11)) hm rfl (cjc (Nat.le_of_ble_eq_true rfl) cjn) ?_
  exact (Ex_lp (A := e61_32 G ρ d v0 v1 v2 v3 ) (B := (DS (e61_17 G ρ d v0 v1 v2) (Bv G ρ))) (fun s x e rr hk => tf61_b32 e hd rr hk) FU _ _ e rr hk)
theorem tf61_b17 {G : Gg} {ρ : Rg} {d : Nat} {v0 : Nat} {v1 : Nat} {v2 : Int} {s : Int × Sg} {x : (Int × Sg) ⊕ (Sg)} (e : f61_b17 G ρ v0 v1 v2 s = some x) (hd : 3 ≤ d) (rr : Option MV × Mh) (hk : (DS (e61_17 G ρ d v0 v1 v2) (Bv G ρ)) x rr) : e61_17 G ρ d v0 v1 v2 s rr := by
  unfold f61_b17 at e
  have hm := mi_61
  show ∀ (j4 : MV), Ex d 61 17 [(2, ((v0 : Nat) : Int)), (2, ((v1 : Nat) : Int)), (0, v2), (0, s.1), j4] [] (G, ρ, s.2) rr
  intro j4
  refine Ex_run 2 (i' := 19) (L' := [(2, ((v0 : Nat) : Int)), (2, ((v1 : Nat) : Int)), (0, v2), (0, s.1), j4]) (st' := [(0, v2), (0, s.1)]) (h' := (G, ρ, s.2)) hm rfl cjn ?_
  by_cases c6 : s.1 < v2
  · replace e := it_p e c6
    refine Ex_if2f (c := 3) (tgt := 63) hm rfl (bf3 c6) ?_
    obtain ⟨g7, e⟩ := gd_s e
    refine Ex_run 5 (i' := 25) (L' := [(2, ((v0 : Nat) : Int)), (2, ((v1 : Nat) : Int)), (0, v2), (0, s.1), j4]) (st' := [(0, 0), (2, ((v0 : Nat) : Int))]) (h' := (G, ρ, (put s.2 v0 2 0))) hm rfl (cjc (gk_b g7) cjn) ?_
    exact tf61_25 e hd rr hk _
  · replace e := it_n e c6
    refine Ex_if2t (c := 3) (tgt := 63) hm rfl (bt3 c6) ?_
    obtain ⟨x, e, hx⟩ := xr_s e
    replace hk : (Bv G ρ) x rr := by rw [hx] at hk; exact hk
    cases e
    cases hk
    exact Ex_ret (k := 0) hm rfl ⟨rfl, rfl⟩
theorem tf61_14 {G : Gg} {ρ : Rg} {d : Nat} {v0 : Nat} {v1 : Nat} {v2 : Int} {w0 : Int} {w1 : Nat} {m : Sg} {x : Sg} (e : f61_14 G ρ v0 v1 v2 w0 w1 m = some x) (hd : 3 ≤ d) (rr : Option MV × Mh) (hk : (Bv G ρ) x rr) : Ex d 61 14 [(2, ((v0 : Nat) : Int)), (2, ((v1 : Nat) : Int)), (0, v2), (9, 0), (9, 0)] [(0, w0), (2, ((w1 : Nat) : Int))] (G, ρ, m) rr := by
  unfold f61_14 at e
  have hm := mi_61
  obtain ⟨g5, e⟩ := gd_s e
  refine Ex_run 3 (i' := 17) (L' := [(2, ((v0 : Nat) : Int)), (2, ((v1 : Nat) : Int)), (0, v2), (0, 0), (9, 0)]) (st' := []) (h' := (G, ρ, (put m w1 3 w0))) hm rfl (cjc (gk_b g5) (cjc (Nat.le_of_ble_eq_true rfl) cjn)) ?_
  exact (Ex_lp (A := e61_17 G ρ d v0 v1 v2 ) (B := (Bv G ρ)) (fun s x e rr hk => tf61_b17 e hd rr hk) FU _ _ e rr hk) _
theorem tf61 {G : Gg} {ρ : Rg} {d : Nat} {v0 : Nat} {v1 : Nat} {v2 : Int} {m : Sg} {x : Sg} (e : f61 G ρ v0 v1 v2 m = some x) (hd : 3 ≤ d) : Ex d 61 0 [(2, ((v0 : Nat) : Int)), (2, ((v1 : Nat) : Int)), (0, v2), (9, 0), (9, 0)] [] (G, ρ, m) (none, (G, ρ, x)) := by
  unfold f61 at e
  have hm := mi_61
  generalize hk : (none, (G, ρ, x)) = rr
  replace hk : (Bv G ρ) x rr := hk.symm
  obtain ⟨g1, e⟩ := gd_s e
  refine Ex_run 3 (i' := 3) (L' := [(2, ((v0 : Nat) : Int)), (2, ((v1 : Nat) : Int)), (0, v2), (9, 0), (9, 0)]) (st' := [(0, 0), (2, (((ρ v0 0) : Nat) : Int))]) (h' := (G, ρ, m)) hm rfl (cjc (gk_b g1) cjn) ?_
  obtain ⟨g2, e⟩ := gd_s e
  obtain ⟨q3, h3, e⟩ := bn_s e
  refine Ex_callm (z := 35) (na := 2) (ck := 6) (as := [(2, (((ρ v0 0) : Nat) : Int)), (0, 0)]) (rest := []) (E0 := [(2, (((ρ v0 0) : Nat) : Int)), (0, 0), (9, 0)]) (v := none) (h1 := (G, ρ, q3)) hm rfl (by omega) ⟨Nat.le_of_ble_eq_true rfl, Nat.le_of_ble_eq_true rfl⟩ (rc2 rfl g2) rfl rfl ml_35 rfl (Nat.le_of_ble_eq_true rfl) (tf35 h3 (by omega)) ?_
  show Ex d 61 4 [(2, ((v0 : Nat) : Int)), (2, ((v1 : Nat) : Int)), (0, v2), (9, 0), (9, 0)] [] (G, ρ, q3) rr
  refine Ex_run 4 (i' := 8) (L' := [(2, ((v0 : Nat) : Int)), (2, ((v1 : Nat) : Int)), (0, v2), (9, 0), (9, 0)]) (st' := [(0, 1), (0, 0), (2, (((ρ v0 0) : Nat) : Int))]) (h' := (G, ρ, q3)) hm rfl (cjc (gk_b g1) cjn) ?_
  obtain ⟨q4, h4, e⟩ := bn_s e
  refine Ex_callm (z := 34) (na := 3) (ck := 6) (as := [(2, (((ρ v0 0) : Nat) : Int)), (0, 0), (0, 1)]) (rest := []) (E0 := [(2, (((ρ v0 0) : Nat) : Int)), (0, 0), (0, 1)]) (v := none) (h1 := (G, ρ, q4)) hm rfl (by omega) ⟨Nat.le_of_ble_eq_true rfl, Nat.le_of_ble_eq_true rfl⟩ (rc2 rfl g2) rfl rfl ml_34 rfl (Nat.le_of_ble_eq_true rfl) (tf34 h4 (by omega)) ?_
  show Ex d 61 9 [(2, ((v0 : Nat) : Int)), (2, ((v1 : Nat) : Int)), (0, v2), (9, 0), (9, 0)] [] (G, ρ, q4) rr
  refine Ex_run 5 (i' := 14) (L' := [(2, ((v0 : Nat) : Int)), (2, ((v1 : Nat) : Int)), (0, v2), (9, 0), (9, 0)]) (st' := [(0, 0), (2, ((v0 : Nat) : Int))]) (h' := (G, ρ, (put q4 v0 2 0))) hm rfl (cjc (gk_b g1) cjn) ?_
  exact tf61_14 e hd rr hk
theorem tf62_b4 {G : Gg} {ρ : Rg} {d : Nat} {v0 : Nat} {m : Sg} {s : Int × Int} {x : (Int × Int) ⊕ (Int)} (e : f62_b4 G ρ v0 m s = some x) (hd : 1 ≤ d) (rr : Option MV × Mh) (hk : (DS (e62_4 G ρ d v0 m) (Bpi G ρ m)) x rr) : e62_4 G ρ d v0 m s rr := by
  unfold f62_b4 at e
  have hm := mi_62
  show Ex d 62 4 [(2, ((v0 : Nat) : Int)), (0, s.1), (0, s.2)] [] (G, ρ, m) rr
  refine Ex_run 2 (i' := 6) (L' := [(2, ((v0 : Nat) : Int)), (0, s.1), (0, s.2)]) (st' := [(0, 20), (0, s.2)]) (h' := (G, ρ, m)) hm rfl cjn ?_
  by_cases c1 : s.2 < 20
  · replace e := it_p e c1
    refine Ex_if2f (c := 3) (tgt := 16) hm rfl (bf3 c1) ?_
    obtain ⟨g2, e⟩ := gd_s e
    refine Ex_run 4 (i' := 11) (L' := [(2, ((v0 : Nat) : Int)), (0, s.1), (0, s.2)]) (st' := [(0, s.2), (2, (((ρ v0 0) : Nat) : Int)), (0, s.1)]) (h' := (G, ρ, m)) hm rfl (cjc (gk_b g2) cjn) ?_
    obtain ⟨g3, e⟩ := gd_s e
    obtain ⟨q4, h4, e⟩ := bn_s e
    refine Ex_callm (z := 33) (na := 2) (ck := 6) (as := [(2, (((ρ v0 0) : Nat) : Int)), (0, s.2)]) (rest := [(0, s.1)]) (E0 := [(2, (((ρ v0 0) : Nat) : Int)), (0, s.2)]) (v := some (0, q4)) (h1 := (G, ρ, m)) hm rfl (by omega) ⟨Nat.le_of_ble_eq_true rfl, Nat.le_of_ble_eq_true rfl⟩ (rc2 rfl g3) rfl rfl ml_33 rfl (Nat.le_of_ble_eq_true rfl) (tf33 h4 (by omega)) ?_
    show Ex d 62 12 [(2, ((v0 : Nat) : Int)), (0, s.1), (0, s.2)] [(0, q4), (0, s.1)] (G, ρ, m) rr
    refine Ex_run 4 (i' := 4) (L' := [(2, ((v0 : Nat) : Int)), (0, (g_add s.1 q4)), (0, (w32 (s.2 + 1)))]) (st' := []) (h' := (G, ρ, m)) hm rfl (cjc (Nat.le_of_ble_eq_true rfl) cjn) ?_
    cases e
    exact hk
  · replace e := it_n e c1
    refine Ex_if2t (c := 3) (tgt := 16) hm rfl (bt3 c1) ?_
    obtain ⟨x, e, hx⟩ := xr_s e
    replace hk : (Bpi G ρ m) x rr := by rw [hx] at hk; exact hk
    refine Ex_run 1 (i' := 17) (L' := [(2, ((v0 : Nat) : Int)), (0, s.1), (0, s.2)]) (st' := [(0, s.1)]) (h' := (G, ρ, m)) hm rfl cjn ?_
    cases e
    cases hk
    exact Ex_ret (k := 1) hm rfl ⟨_, rfl, rfl⟩
theorem tf62 {G : Gg} {ρ : Rg} {d : Nat} {v0 : Nat} {m : Sg} {x : Int} (e : f62 G ρ v0 m = some x) (hd : 1 ≤ d) : Ex d 62 0 [(2, ((v0 : Nat) : Int)), (9, 0), (9, 0)] [] (G, ρ, m) (some (0, x), (G, ρ, m)) := by
  unfold f62 at e
  have hm := mi_62
  generalize hk : (some (0, x), (G, ρ, m)) = rr
  replace hk : (Bpi G ρ m) x rr := hk.symm
  refine Ex_run 4 (i' := 4) (L' := [(2, ((v0 : Nat) : Int)), (0, 0), (0, 0)]) (st' := []) (h' := (G, ρ, m)) hm rfl (cjc (Nat.le_of_ble_eq_true rfl) (cjc (Nat.le_of_ble_eq_true rfl) cjn)) ?_
  exact (Ex_lp (A := e62_4 G ρ d v0 m ) (B := (Bpi G ρ m)) (fun s x e rr hk => tf62_b4 e hd rr hk) FU _ _ e rr hk)
theorem tf64_55 {d : Nat} {w0 : Int} {w1 : Nat} {h : Mh} {x : Mh} (e : f64_55 w0 w1 h = some x) (hd : 2 ≤ d) (rr : Option MV × Mh) (hk : Hv x rr) (j0 : Nat) (j1 : Int) : Ex d 64 55 [(2, ((j0 : Nat) : Int)), (0, j1)] [(0, w0), (2, ((w1 : Nat) : Int))] h rr := by
  unfold f64_55 at e
  have hm := mi_64
  obtain ⟨g26, e⟩ := gd_s e
  refine Ex_run 1 (i' := 56) (L' := [(2, ((j0 : Nat) : Int)), (0, j1)]) (st' := []) (h' := (h.1, h.2.1, (put h.2.2 w1 0 w0))) hm rfl (cjc (gk_b g26) cjn) ?_
  cases e
  cases hk
  exact Ex_ret (k := 0) hm rfl ⟨rfl, rfl⟩
theorem tf64 {d : Nat} {v0 : Nat} {v1 : Int} {h : Mh} {x : Mh} (e : f64 v0 v1 h = some x) (hd : 2 ≤ d) : Ex d 64 0 [(2, ((v0 : Nat) : Int)), (0, v1)] [] h (none, x) := by
  unfold f64 at e
  have hm := mi_64
  generalize hk : (none, x) = rr
  replace hk : Hv x rr := hk.symm
  refine Ex_run 1 (i' := 1) (L' := [(2, ((v0 : Nat) : Int)), (0, v1)]) (st' := [(2, ((v0 : Nat) : Int))]) (h' := (h.1, h.2.1, h.2.2)) hm rfl cjn ?_
  obtain ⟨g1, e⟩ := gd_s e
  refine Ex_prim (k := 1) (i' := 2) (L' := [(2, ((v0 : Nat) : Int)), (0, v1)]) (st' := []) (h' := (h.1, h.2.1, h.2.2)) hm rfl (by omega) rfl (cjc (nz_i g1) (cjc (Nat.le_of_ble_eq_true rfl) cjn)) ?_
  refine Ex_run 4 (i' := 6) (L' := [(2, ((v0 : Nat) : Int)), (0, v1)]) (st' := [(0, 120), (2, (((List.length h.1) : Nat) : Int)), (2, (((List.length h.1) : Nat) : Int)), (2, ((v0 : Nat) : Int))]) (h' := ((h.1 ++ [(6, 1)]), (zapR h.2.1 (List.length h.1)), (zap h.2.2 (List.length h.1)))) hm rfl cjn ?_
  obtain ⟨g2, e⟩ := gd_s e
  obtain ⟨q3, h3, e⟩ := bn_s e
  refine Ex_callm (z := 32) (na := 2) (ck := 1) (as := [(2, (((List.length h.1) : Nat) : Int)), (0, 120)]) (rest := [(2, (((List.length h.1) : Nat) : Int)), (2, ((v0 : Nat) : Int))]) (E0 := [(2, (((List.length h.1) : Nat) : Int)), (0, 120)]) (v := none) (h1 := (q3.1, q3.2.1, q3.2.2)) hm rfl (by omega) ⟨Nat.le_of_ble_eq_true rfl, Nat.le_of_ble_eq_true rfl⟩ (⟨_, rfl, nz_i g2⟩) rfl rfl ml_32 rfl (Nat.le_of_ble_eq_true rfl) (tf32 h3 (by omega)) ?_
  show Ex d 64 7 [(2, ((v0 : Nat) : Int)), (0, v1)] [(2, (((List.length h.1) : Nat) : Int)), (2, ((v0 : Nat) : Int))] (q3.1, q3.2.1, q3.2.2) rr
  obtain ⟨g4, e⟩ := gd_s e
  refine Ex_run 5 (i' := 12) (L' := [(2, ((v0 : Nat) : Int)), (0, v1)]) (st' := [(0, 120), (2, (((List.length q3.1) : Nat) : Int)), (2, (((List.length q3.1) : Nat) : Int)), (2, ((v0 : Nat) : Int))]) (h' := ((q3.1 ++ [(6, 1)]), (zapR (putR q3.2.1 v0 1 (List.length h.1)) (List.length q3.1)), (zap q3.2.2 (List.length q3.1)))) hm rfl (cjc (gk_b g4) (cjc (nz_i g2) cjn)) ?_
  obtain ⟨g5, e⟩ := gd_s e
  obtain ⟨q6, h6, e⟩ := bn_s e
  refine Ex_callm (z := 32) (na := 2) (ck := 1) (as := [(2, (((List.length q3.1) : Nat) : Int)), (0, 120)]) (rest := [(2, (((List.length q3.1) : Nat) : Int)), (2, ((v0 : Nat) : Int))]) (E0 := [(2, (((List.length q3.1) : Nat) : Int)), (0, 120)]) (v := none) (h1 := (q6.1, q6.2.1, q6.2.2)) hm rfl (by omega) ⟨Nat.le_of_ble_eq_true rfl, Nat.le_of_ble_eq_true rfl⟩ (⟨_, rfl, nz_i g5⟩) rfl rfl ml_32 rfl (Nat.le_of_ble_eq_true rfl) (tf32 h6 (by omega)) ?_
  show Ex d 64 13 [(2, ((v0 : Nat) : Int)), (0, v1)] [(2, (((List.length q3.1) : Nat) : Int)), (2, ((v0 : Nat) : Int))] (q6.1, q6.2.1, q6.2.2) rr
  obtain ⟨g7, e⟩ := gd_s e
  refine Ex_run 5 (i' := 18) (L' := [(2, ((v0 : Nat) : Int)), (0, v1)]) (st' := [(0, 12), (2, (((List.length q6.1) : Nat) : Int)), (2, (((List.length q6.1) : Nat) : Int)), (2, ((v0 : Nat) : Int))]) (h' := ((q6.1 ++ [(6, 1)]), (zapR (putR q6.2.1 v0 2 (List.length q3.1)) (List.length q6.1)), (zap q6.2.2 (List.length q6.1)))) hm rfl (cjc (gk_b g7) (cjc (nz_i g5) cjn)) ?_
  obtain ⟨g8, e⟩ := gd_s e
  obtain ⟨q9, h9, e⟩ := bn_s e
  refine Ex_callm (z := 32) (na := 2) (ck := 1) (as := [(2, (((List.length q6.1) : Nat) : Int)), (0, 12)]) (rest := [(2, (((List.length q6.1) : Nat) : Int)), (2, ((v0 : Nat) : Int))]) (E0 := [(2, (((List.length q6.1) : Nat) : Int)), (0, 12)]) (v := none) (h1 := (q9.1, q9.2.1, q9.2.2)) hm rfl (by omega) ⟨Nat.le_of_ble_eq_true rfl, Nat.le_of_ble_eq_true rfl⟩ (⟨_, rfl, nz_i g8⟩) rfl rfl ml_32 rfl (Nat.le_of_ble_eq_true rfl) (tf32 h9 (by omega)) ?_
  show Ex d 64 19 [(2, ((v0 : Nat) : Int)), (0, v1)] [(2, (((List.length q6.1) : Nat) : Int)), (2, ((v0 : Nat) : Int))] (q9.1, q9.2.1, q9.2.2) rr
  obtain ⟨g10, e⟩ := gd_s e
  refine Ex_run 5 (i' := 24) (L' := [(2, ((v0 : Nat) : Int)), (0, v1)]) (st' := [(0, 12), (2, (((List.length q9.1) : Nat) : Int)), (2, (((List.length q9.1) : Nat) : Int)), (2, ((v0 : Nat) : Int))]) (h' := ((q9.1 ++ [(6, 1)]), (zapR (putR q9.2.1 v0 3 (List.length q6.1)) (List.length q9.1)), (zap q9.2.2 (List.length q9.1)))) hm rfl (cjc (gk_b g10) (cjc (nz_i g8) cjn)) ?_
  obtain ⟨g11, e⟩ := gd_s e
  obtain ⟨q12, h12, e⟩ := bn_s e
  refine Ex_callm (z := 32) (na := 2) (ck := 1) (as := [(2, (((List.length q9.1) : Nat) : Int)), (0, 12)]) (rest := [(2, (((List.length q9.1) : Nat) : Int)), (2, ((v0 : Nat) : Int))]) (E0 := [(2, (((List.length q9.1) : Nat) : Int)), (0, 12)]) (v := none) (h1 := (q12.1, q12.2.1, q12.2.2)) hm rfl (by omega) ⟨Nat.le_of_ble_eq_true rfl, Nat.le_of_ble_eq_true rfl⟩ (⟨_, rfl, nz_i g11⟩) rfl rfl ml_32 rfl (Nat.le_of_ble_eq_true rfl) (tf32 h12 (by omega)) ?_
  show Ex d 64 25 [(2, ((v0 : Nat) : Int)), (0, v1)] [(2, (((List.length q9.1) : Nat) : Int)), (2, ((v0 : Nat) : Int))] (q12.1, q12.2.1, q12.2.2) rr
  obtain ⟨g13, e⟩ := gd_s e
  refine Ex_run 5 (i' := 30) (L' := [(2, ((v0 : Nat) : Int)), (0, v1)]) (st' := [(0, 12), (2, (((List.length q12.1) : Nat) : Int)), (2, (((List.length q12.1) : Nat) : Int)), (2, ((v0 : Nat) : Int))]) (h' := ((q12.1 ++ [(6, 1)]), (zapR (putR q12.2.1 v0 4 (List.length q9.1)) (List.length q12.1)), (zap q12.2.2 (List.length q12.1)))) hm rfl (cjc (gk_b g13) (cjc (nz_i g11) cjn)) ?_
  obtain ⟨g14, e⟩ := gd_s e
  obtain ⟨q15, h15, e⟩ := bn_s e
  refine Ex_callm (z := 32) (na := 2) (ck := 1) (as := [(2, (((List.length q12.1) : Nat) : Int)), (0, 12)]) (rest := [(2, (((List.length q12.1) : Nat) : Int)), (2, ((v0 : Nat) : Int))]) (E0 := [(2, (((List.length q12.1) : Nat) : Int)), (0, 12)]) (v := none) (h1 := (q15.1, q15.2.1, q15.2.2)) hm rfl (by omega) ⟨Nat.le_of_ble_eq_true rfl, Nat.le_of_ble_eq_true rfl⟩ (⟨_, rfl, nz_i g14⟩) rfl rfl ml_32 rfl (Nat.le_of_ble_eq_true rfl) (tf32 h15 (by omega)) ?_
  show Ex d 64 31 [(2, ((v0 : Nat) : Int)), (0, v1)] [(2, (((List.length q12.1) : Nat) : Int)), (2, ((v0 : Nat) : Int))] (q15.1, q15.2.1, q15.2.2) rr
  obtain ⟨g16, e⟩ := gd_s e
  refine Ex_run 5 (i' := 36) (L' := [(2, ((v0 : Nat) : Int)), (0, v1)]) (st' := [(0, 12), (2, (((List.length q15.1) : Nat) : Int)), (2, (((List.length q15.1) : Nat) : Int)), (2, ((v0 : Nat) : Int))]) (h' := ((q15.1 ++ [(6, 1)]), (zapR (putR q15.2.1 v0 5 (List.length q12.1)) (List.length q15.1)), (zap q15.2.2 (List.length q15.1)))) hm rfl (cjc (gk_b g16) (cjc (nz_i g14) cjn)) ?_
  obtain ⟨g17, e⟩ := gd_s e
  obtain ⟨q18, h18, e⟩ := bn_s e
  refine Ex_callm (z := 32) (na := 2) (ck := 1) (as := [(2, (((List.length q15.1) : Nat) : Int)), (0, 12)]) (rest := [(2, (((List.length q15.1) : Nat) : Int)), (2, ((v0 : Nat) : Int))]) (E0 := [(2, (((List.length q15.1) : Nat) : Int)), (0, 12)]) (v := none) (h1 := (q18.1, q18.2.1, q18.2.2)) hm rfl (by omega) ⟨Nat.le_of_ble_eq_true rfl, Nat.le_of_ble_eq_true rfl⟩ (⟨_, rfl, nz_i g17⟩) rfl rfl ml_32 rfl (Nat.le_of_ble_eq_true rfl) (tf32 h18 (by omega)) ?_
  show Ex d 64 37 [(2, ((v0 : Nat) : Int)), (0, v1)] [(2, (((List.length q15.1) : Nat) : Int)), (2, ((v0 : Nat) : Int))] (q18.1, q18.2.1, q18.2.2) rr
  obtain ⟨g19, e⟩ := gd_s e
  refine Ex_run 5 (i' := 42) (L' := [(2, ((v0 : Nat) : Int)), (0, v1)]) (st' := [(0, 72), (2, (((List.length q18.1) : Nat) : Int)), (2, (((List.length q18.1) : Nat) : Int)), (2, ((v0 : Nat) : Int))]) (h' := ((q18.1 ++ [(6, 1)]), (zapR (putR q18.2.1 v0 6 (List.length q15.1)) (List.length q18.1)), (zap q18.2.2 (List.length q18.1)))) hm rfl (cjc (gk_b g19) (cjc (nz_i g17) cjn)) ?_
  obtain ⟨g20, e⟩ := gd_s e
  obtain ⟨q21, h21, e⟩ := bn_s e
  refine Ex_callm (z := 32) (na := 2) (ck := 1) (as := [(2, (((List.length q18.1) : Nat) : Int)), (0, 72)]) (rest := [(2, (((List.length q18.1) : Nat) : Int)), (2, ((v0 : Nat) : Int))]) (E0 := [(2, (((List.length q18.1) : Nat) : Int)), (0, 72)]) (v := none) (h1 := (q21.1, q21.2.1, q21.2.2)) hm rfl (by omega) ⟨Nat.le_of_ble_eq_true rfl, Nat.le_of_ble_eq_true rfl⟩ (⟨_, rfl, nz_i g20⟩) rfl rfl ml_32 rfl (Nat.le_of_ble_eq_true rfl) (tf32 h21 (by omega)) ?_
  show Ex d 64 43 [(2, ((v0 : Nat) : Int)), (0, v1)] [(2, (((List.length q18.1) : Nat) : Int)), (2, ((v0 : Nat) : Int))] (q21.1, q21.2.1, q21.2.2) rr
  obtain ⟨g22, e⟩ := gd_s e
  refine Ex_run 5 (i' := 48) (L' := [(2, ((v0 : Nat) : Int)), (0, v1)]) (st' := [(0, 6), (2, (((List.length q21.1) : Nat) : Int)), (2, (((List.length q21.1) : Nat) : Int)), (2, ((v0 : Nat) : Int))]) (h' := ((q21.1 ++ [(6, 1)]), (zapR (putR q21.2.1 v0 7 (List.length q18.1)) (List.length q21.1)), (zap q21.2.2 (List.length q21.1)))) hm rfl (cjc (gk_b g22) (cjc (nz_i g20) cjn)) ?_
  obtain ⟨g23, e⟩ := gd_s e
  obtain ⟨q24, h24, e⟩ := bn_s e
  refine Ex_callm (z := 32) (na := 2) (ck := 1) (as := [(2, (((List.length q21.1) : Nat) : Int)), (0, 6)]) (rest := [(2, (((List.length q21.1) : Nat) : Int)), (2, ((v0 : Nat) : Int))]) (E0 := [(2, (((List.length q21.1) : Nat) : Int)), (0, 6)]) (v := none) (h1 := (q24.1, q24.2.1, q24.2.2)) hm rfl (by omega) ⟨Nat.le_of_ble_eq_true rfl, Nat.le_of_ble_eq_true rfl⟩ (⟨_, rfl, nz_i g23⟩) rfl rfl ml_32 rfl (Nat.le_of_ble_eq_true rfl) (tf32 h24 (by omega)) ?_
  show Ex d 64 49 [(2, ((v0 : Nat) : Int)), (0, v1)] [(2, (((List.length q21.1) : Nat) : Int)), (2, ((v0 : Nat) : Int))] (q24.1, q24.2.1, q24.2.2) rr
  obtain ⟨g25, e⟩ := gd_s e
  refine Ex_run 6 (i' := 55) (L' := [(2, ((v0 : Nat) : Int)), (0, v1)]) (st' := [(0, v1), (2, ((v0 : Nat) : Int))]) (h' := (q24.1, (putR q24.2.1 v0 8 (List.length q21.1)), (put q24.2.2 v0 9 0))) hm rfl (cjc (gk_b g25) (cjc (nz_i g23) (cjc (gk_b g25) cjn))) ?_
  exact tf64_55 e hd rr hk _ _
theorem tf65 {G : Gg} {ρ : Rg} {d : Nat} {v0 : Nat} {v1 : Int} {m : Sg} {x : Int} (e : f65 G ρ v0 v1 m = some x) (hd : 0 ≤ d) : Ex d 65 0 [(2, ((v0 : Nat) : Int)), (0, v1)] [] (G, ρ, m) (some (0, x), (G, ρ, m)) := by
  unfold f65 at e
  have hm := mi_65
  generalize hk : (some (0, x), (G, ρ, m)) = rr
  replace hk : (Bpi G ρ m) x rr := hk.symm
  refine Ex_run 1 (i' := 1) (L' := [(2, ((v0 : Nat) : Int)), (0, v1)]) (st' := [(0, v1)]) (h' := (G, ρ, m)) hm rfl cjn ?_
  by_cases c1 : v1 < 0
  · replace e := it_p e c1
    refine Ex_if1t (c := 2) (tgt := 8) hm rfl (bt2 c1) ?_
    refine Ex_run 1 (i' := 9) (L' := [(2, ((v0 : Nat) : Int)), (0, v1)]) (st' := [(0, 0)]) (h' := (G, ρ, m)) hm rfl cjn ?_
    cases e
    cases hk
    exact Ex_ret (k := 2) hm rfl ⟨_, rfl, by decide, rfl⟩
  · replace e := it_n e c1
    refine Ex_if1f (c := 2) (tgt := 8) hm rfl (bf2 c1) ?_
    obtain ⟨g2, e⟩ := gd_s e
    refine Ex_run 3 (i' := 5) (L' := [(2, ((v0 : Nat) : Int)), (0, v1)]) (st' := [(0, (m v0 9)), (0, v1)]) (h' := (G, ρ, m)) hm rfl (cjc (gk_b g2) cjn) ?_
    by_cases c3 : v1 < (m v0 9)
    · replace e := it_p e c3
      refine Ex_if2f (c := 3) (tgt := 8) hm rfl (bf3 c3) ?_
      refine Ex_run 2 (i' := 9) (L' := [(2, ((v0 : Nat) : Int)), (0, v1)]) (st' := [(0, 1)]) (h' := (G, ρ, m)) hm rfl cjn ?_
      cases e
      cases hk
      exact Ex_ret (k := 2) hm rfl ⟨_, rfl, by decide, rfl⟩
    · replace e := it_n e c3
      refine Ex_if2t (c := 3) (tgt := 8) hm rfl (bt3 c3) ?_
      refine Ex_run 1 (i' := 9) (L' := [(2, ((v0 : Nat) : Int)), (0, v1)]) (st' := [(0, 0)]) (h' := (G, ρ, m)) hm rfl cjn ?_
      cases e
      cases hk
      exact Ex_ret (k := 2) hm rfl ⟨_, rfl, by decide, rfl⟩
theorem tf79 {G : Gg} {ρ : Rg} {d : Nat} {v0 : Int} {v1 : Int} {m : Sg} {x : Int} (e : f79 G ρ v0 v1 m = some x) (hd : 0 ≤ d) : Ex d 79 0 [(0, v0), (0, v1)] [] (G, ρ, m) (some (0, x), (G, ρ, m)) := by
  unfold f79 at e
  have hm := mi_79
  generalize hk : (some (0, x), (G, ρ, m)) = rr
  replace hk : (Bpi G ρ m) x rr := hk.symm
  refine Ex_run 5 (i' := 5) (L' := [(0, v0), (0, v1)]) (st' := [(0, (g_add (g_mul v0 10) v1))]) (h' := (G, ρ, m)) hm rfl cjn ?_
  cases e
  cases hk
  exact Ex_ret (k := 1) hm rfl ⟨_, rfl, rfl⟩
theorem tf66_b5 {G : Gg} {ρ : Rg} {d : Nat} {v0 : Nat} {v1 : Nat} {v2 : Int} {v3 : Int} {v4 : Int} {s : Int × Sg} {x : (Int × Sg) ⊕ (Int × Sg)} (e : f66_b5 G ρ v0 v1 v2 v3 v4 s = some x) (hd : 1 ≤ d) (rr : Option MV × Mh) (hk : (DS (e66_5 G ρ d v0 v1 v2 v3 v4) (Bi G ρ)) x rr) : e66_5 G ρ d v0 v1 v2 v3 v4 s rr := by
  unfold f66_b5 at e
  have hm := mi_66
  show Ex d 66 5 [(2, ((v0 : Nat) : Int)), (2, ((v1 : Nat) : Int)), (0, v2), (0, v3), (0, v4), (0, s.1)] [] (G, ρ, s.2) rr
  obtain ⟨g2, e⟩ := gd_s e
  refine Ex_run 3 (i' := 8) (L' := [(2, ((v0 : Nat) : Int)), (2, ((v1 : Nat) : Int)), (0, v2), (0, v3), (0, v4), (0, s.1)]) (st' := [(0, (s.2 v0 0)), (0, s.1)]) (h' := (G, ρ, s.2)) hm rfl (cjc (gk_b g2) cjn) ?_
  by_cases c3 : s.1 < (s.2 v0 0)
  · replace e := it_p e c3
    refine Ex_if2f (c := 3) (tgt := 31) hm rfl (bf3 c3) ?_
    refine Ex_run 4 (i' := 13) (L' := [(2, ((v0 : Nat) : Int)), (2, ((v1 : Nat) : Int)), (0, v2), (0, v3), (0, v4), (0, s.1)]) (st' := [(0, s.1), (0, v4), (2, (((ρ v0 1) : Nat) : Int))]) (h' := (G, ρ, s.2)) hm rfl (cjc (gk_b g2) cjn) ?_
    obtain ⟨q4, h4, e⟩ := bn_s e
    refine Ex_callm (z := 79) (na := 2) (ck := 0) (as := [(0, v4), (0, s.1)]) (rest := [(2, (((ρ v0 1) : Nat) : Int))]) (E0 := [(0, v4), (0, s.1)]) (v := some (0, q4)) (h1 := (G, ρ, s.2)) hm rfl (by omega) ⟨Nat.le_of_ble_eq_true rfl, Nat.le_of_ble_eq_true rfl⟩ (trivial) rfl rfl ml_79 rfl (Nat.le_of_ble_eq_true rfl) (tf79 h4 (by omega)) ?_
    show Ex d 66 14 [(2, ((v0 : Nat) : Int)), (2, ((v1 : Nat) : Int)), (0, v2), (0, v3), (0, v4), (0, s.1)] [(0, q4), (2, (((ρ v0 1) : Nat) : Int))] (G, ρ, s.2) rr
    obtain ⟨g5, e⟩ := gd_s e
    refine Ex_run 3 (i' := 17) (L' := [(2, ((v0 : Nat) : Int)), (2, ((v1 : Nat) : Int)), (0, v2), (0, v3), (0, v4), (0, s.1)]) (st' := [(0, s.1), (2, (((ρ v1 1) : Nat) : Int)), (0, q4), (2, (((ρ v0 1) : Nat) : Int))]) (h' := (G, ρ, s.2)) hm rfl (cjc (gk_b g5) cjn) ?_
    obtain ⟨g6, e⟩ := gd_s e
    obtain ⟨q7, h7, e⟩ := bn_s e
    refine Ex_callm (z := 33) (na := 2) (ck := 6) (as := [(2, (((ρ v1 1) : Nat) : Int)), (0, s.1)]) (rest := [(0, q4), (2, (((ρ v0 1) : Nat) : Int))]) (E0 := [(2, (((ρ v1 1) : Nat) : Int)), (0, s.1)]) (v := some (0, q7)) (h1 := (G, ρ, s.2)) hm rfl (by omega) ⟨Nat.le_of_ble_eq_true rfl, Nat.le_of_ble_eq_true rfl⟩ (rc2 rfl g6) rfl rfl ml_33 rfl (Nat.le_of_ble_eq_true rfl) (tf33 h7 (by omega)) ?_
    show Ex d 66 18 [(2, ((v0 : Nat) : Int)), (2, ((v1 : Nat) : Int)), (0, v2), (0, v3), (0, v4), (0, s.1)] [(0, q7), (0, q4), (2, (((ρ v0 1) : Nat) : Int))] (G, ρ, s.2) rr
    obtain ⟨g8, e⟩ := gd_s e
    obtain ⟨q9, h9, e⟩ := bn_s e
    refine Ex_callm (z := 34) (na := 3) (ck := 6) (as := [(2, (((ρ v0 1) : Nat) : Int)), (0, q4), (0, q7)]) (rest := []) (E0 := [(2, (((ρ v0 1) : Nat) : Int)), (0, q4), (0, q7)]) (v := none) (h1 := (G, ρ, q9)) hm rfl (by omega) ⟨Nat.le_of_ble_eq_true rfl, Nat.le_of_ble_eq_true rfl⟩ (rc2 rfl g8) rfl rfl ml_34 rfl (Nat.le_of_ble_eq_true rfl) (tf34 h9 (by omega)) ?_
    show Ex d 66 19 [(2, ((v0 : Nat) : Int)), (2, ((v1 : Nat) : Int)), (0, v2), (0, v3), (0, v4), (0, s.1)] [] (G, ρ, q9) rr
    refine Ex_run 4 (i' := 23) (L' := [(2, ((v0 : Nat) : Int)), (2, ((v1 : Nat) : Int)), (0, v2), (0, v3), (0, v4), (0, s.1)]) (st' := [(0, s.1), (0, v4), (2, (((ρ v0 2) : Nat) : Int))]) (h' := (G, ρ, q9)) hm rfl (cjc (gk_b g2) cjn) ?_
    obtain ⟨q10, h10, e⟩ := bn_s e
    refine Ex_callm (z := 79) (na := 2) (ck := 0) (as := [(0, v4), (0, s.1)]) (rest := [(2, (((ρ v0 2) : Nat) : Int))]) (E0 := [(0, v4), (0, s.1)]) (v := some (0, q10)) (h1 := (G, ρ, q9)) hm rfl (by omega) ⟨Nat.le_of_ble_eq_true rfl, Nat.le_of_ble_eq_true rfl⟩ (trivial) rfl rfl ml_79 rfl (Nat.le_of_ble_eq_true rfl) (tf79 h10 (by omega)) ?_
    show Ex d 66 24 [(2, ((v0 : Nat) : Int)), (2, ((v1 : Nat) : Int)), (0, v2), (0, v3), (0, v4), (0, s.1)] [(0, q10), (2, (((ρ v0 2) : Nat) : Int))] (G, ρ, q9) rr
    refine Ex_run 3 (i' := 27) (L' := [(2, ((v0 : Nat) : Int)), (2, ((v1 : Nat) : Int)), (0, v2), (0, v3), (0, v4), (0, s.1)]) (st' := [(0, s.1), (2, (((ρ v1 2) : Nat) : Int)), (0, q10), (2, (((ρ v0 2) : Nat) : Int))]) (h' := (G, ρ, q9)) hm rfl (cjc (gk_b g5) cjn) ?_
    obtain ⟨g11, e⟩ := gd_s e
    obtain ⟨q12, h12, e⟩ := bn_s e
    refine Ex_callm (z := 33) (na := 2) (ck := 6) (as := [(2, (((ρ v1 2) : Nat) : Int)), (0, s.1)]) (rest := [(0, q10), (2, (((ρ v0 2) : Nat) : Int))]) (E0 := [(2, (((ρ v1 2) : Nat) : Int)), (0, s.1)]) (v := some (0, q12)) (h1 := (G, ρ, q9)) hm rfl (by omega) ⟨Nat.le_of_ble_eq_true rfl, Nat.le_of_ble_eq_true rfl⟩ (rc2 rfl g11) rfl rfl ml_33 rfl (Nat.le_of_ble_eq_true rfl) (tf33 h12 (by omega)) ?_
    show Ex d 66 28 [(2, ((v0 : Nat) : Int)), (2, ((v1 : Nat) : Int)), (0, v2), (0, v3), (0, v4), (0, s.1)] [(0, q12), (0, q10), (2, (((ρ v0 2) : Nat) : Int))] (G, ρ, q9) rr
    obtain ⟨g13, e⟩ := gd_s e
    obtain ⟨q14, h14, e⟩ := bn_s e
    refine Ex_callm (z := 34) (na := 3) (ck := 6) (as := [(2, (((ρ v0 2) : Nat) : Int)), (0, q10), (0, q12)]) (rest := []) (E0 := [(2, (((ρ v0 2) : Nat) : Int)), (0, q10), (0, q12)]) (v := none) (h1 := (G, ρ, q14)) hm rfl (by omega) ⟨Nat.le_of_ble_eq_true rfl, Nat.le_of_ble_eq_true rfl⟩ (rc2 rfl g13) rfl rfl ml_34 rfl (Nat.le_of_ble_eq_true rfl) (tf34 h14 (by omega)) ?_
    show Ex d 66 29 [(2, ((v0 : Nat) : Int)), (2, ((v1 : Nat) : Int)), (0, v2), (0, v3), (0, v4), (0, s.1)] [] (G, ρ, q14) rr
    refine Ex_run 2 (i' := 5) (L' := [(2, ((v0 : Nat) : Int)), (2, ((v1 : Nat) : Int)), (0, v2), (0, v3), (0, v4), (0, (w32 (s.1 + 1)))]) (st' := []) (h' := (G, ρ, q14)) hm rfl cjn ?_
    cases e
    exact hk
  · replace e := it_n e c3
    refine Ex_if2t (c := 3) (tgt := 31) hm rfl (bt3 c3) ?_
    obtain ⟨x, e, hx⟩ := xr_s e
    replace hk : (Bi G ρ) x rr := by rw [hx] at hk; exact hk
    obtain ⟨g15, e⟩ := gd_s e
    refine Ex_run 5 (i' := 36) (L' := [(2, ((v0 : Nat) : Int)), (2, ((v1 : Nat) : Int)), (0, v2), (0, v3), (0, v4), (0, s.1)]) (st' := [(0, (s.2 v1 3)), (0, v4), (2, (((ρ v0 3) : Nat) : Int))]) (h' := (G, ρ, s.2)) hm rfl (cjc (gk_b g2) (cjc (gk_b g15) cjn)) ?_
    obtain ⟨g16, e⟩ := gd_s e
    obtain ⟨q17, h17, e⟩ := bn_s e
    refine Ex_callm (z := 34) (na := 3) (ck := 6) (as := [(2, (((ρ v0 3) : Nat) : Int)), (0, v4), (0, (s.2 v1 3))]) (rest := []) (E0 := [(2, (((ρ v0 3) : Nat) : Int)), (0, v4), (0, (s.2 v1 3))]) (v := none) (h1 := (G, ρ, q17)) hm rfl (by omega) ⟨Nat.le_of_ble_eq_true rfl, Nat.le_of_ble_eq_true rfl⟩ (rc2 rfl g16) rfl rfl ml_34 rfl (Nat.le_of_ble_eq_true rfl) (tf34 h17 (by omega)) ?_
    show Ex d 66 37 [(2, ((v0 : Nat) : Int)), (2, ((v1 : Nat) : Int)), (0, v2), (0, v3), (0, v4), (0, s.1)] [] (G, ρ, q17) rr
    refine Ex_run 4 (i' := 41) (L' := [(2, ((v0 : Nat) : Int)), (2, ((v1 : Nat) : Int)), (0, v2), (0, v3), (0, v4), (0, s.1)]) (st' := [(0, v2), (0, v4), (2, (((ρ v0 5) : Nat) : Int))]) (h' := (G, ρ, q17)) hm rfl (cjc (gk_b g2) cjn) ?_
    obtain ⟨g18, e⟩ := gd_s e
    obtain ⟨q19, h19, e⟩ := bn_s e
    refine Ex_callm (z := 34) (na := 3) (ck := 6) (as := [(2, (((ρ v0 5) : Nat) : Int)), (0, v4), (0, v2)]) (rest := []) (E0 := [(2, (((ρ v0 5) : Nat) : Int)), (0, v4), (0, v2)]) (v := none) (h1 := (G, ρ, q19)) hm rfl (by omega) ⟨Nat.le_of_ble_eq_true rfl, Nat.le_of_ble_eq_true rfl⟩ (rc2 rfl g18) rfl rfl ml_34 rfl (Nat.le_of_ble_eq_true rfl) (tf34 h19 (by omega)) ?_
    show Ex d 66 42 [(2, ((v0 : Nat) : Int)), (2, ((v1 : Nat) : Int)), (0, v2), (0, v3), (0, v4), (0, s.1)] [] (G, ρ, q19) rr
    refine Ex_run 4 (i' := 46) (L' := [(2, ((v0 : Nat) : Int)), (2, ((v1 : Nat) : Int)), (0, v2), (0, v3), (0, v4), (0, s.1)]) (st' := [(0, v3), (0, v4), (2, (((ρ v0 6) : Nat) : Int))]) (h' := (G, ρ, q19)) hm rfl (cjc (gk_b g2) cjn) ?_
    obtain ⟨g20, e⟩ := gd_s e
    obtain ⟨q21, h21, e⟩ := bn_s e
    refine Ex_callm (z := 34) (na := 3) (ck := 6) (as := [(2, (((ρ v0 6) : Nat) : Int)), (0, v4), (0, v3)]) (rest := []) (E0 := [(2, (((ρ v0 6) : Nat) : Int)), (0, v4), (0, v3)]) (v := none) (h1 := (G, ρ, q21)) hm rfl (by omega) ⟨Nat.le_of_ble_eq_true rfl, Nat.le_of_ble_eq_true rfl⟩ (rc2 rfl g20) rfl rfl ml_34 rfl (Nat.le_of_ble_eq_true rfl) (tf34 h21 (by omega)) ?_
    show Ex d 66 47 [(2, ((v0 : Nat) : Int)), (2, ((v1 : Nat) : Int)), (0, v2), (0, v3), (0, v4), (0, s.1)] [] (G, ρ, q21) rr
    refine Ex_run 7 (i' := 54) (L' := [(2, ((v0 : Nat) : Int)), (2, ((v1 : Nat) : Int)), (0, v2), (0, v3), (0, v4), (0, s.1)]) (st' := [(0, v4)]) (h' := (G, ρ, (put q21 v0 9 (g_add (q21 v0 9) 1)))) hm rfl (cjc (gk_b g2) (cjc (gk_b g2) cjn)) ?_
    cases e
    cases hk
    exact Ex_ret (k := 1) hm rfl ⟨_, rfl, rfl⟩
theorem tf66 {G : Gg} {ρ : Rg} {d : Nat} {v0 : Nat} {v1 : Nat} {v2 : Int} {v3 : Int} {m : Sg} {x : Int × Sg} (e : f66 G ρ v0 v1 v2 v3 m = some x) (hd : 1 ≤ d) : Ex d 66 0 [(2, ((v0 : Nat) : Int)), (2, ((v1 : Nat) : Int)), (0, v2), (0, v3), (9, 0), (9, 0)] [] (G, ρ, m) (some (0, x.1), (G, ρ, x.2)) := by
  unfold f66 at e
  have hm := mi_66
  generalize hk : (some (0, x.1), (G, ρ, x.2)) = rr
  replace hk : (Bi G ρ) x rr := hk.symm
  obtain ⟨g1, e⟩ := gd_s e
  refine Ex_run 5 (i' := 5) (L' := [(2, ((v0 : Nat) : Int)), (2, ((v1 : Nat) : Int)), (0, v2), (0, v3), (0, (m v0 9)), (0, 0)]) (st' := []) (h' := (G, ρ, m)) hm rfl (cjc (gk_b g1) (cjc (Nat.le_of_ble_eq_true rfl) (cjc (Nat.le_of_ble_eq_true rfl) cjn))) ?_
  exact (Ex_lp (A := e66_5 G ρ d v0 v1 v2 v3 (m v0 9) ) (B := (Bi G ρ)) (fun s x e rr hk => tf66_b5 e hd rr hk) FU _ _ e rr hk)
theorem tf67 {G : Gg} {ρ : Rg} {d : Nat} {v0 : Nat} {v1 : Int} {v2 : Int} {m : Sg} {x : Int} (e : f67 G ρ v0 v1 v2 m = some x) (hd : 1 ≤ d) : Ex d 67 0 [(2, ((v0 : Nat) : Int)), (0, v1), (0, v2)] [] (G, ρ, m) (some (0, x), (G, ρ, m)) := by
  unfold f67 at e
  have hm := mi_67
  generalize hk : (some (0, x), (G, ρ, m)) = rr
  replace hk : (Bpi G ρ m) x rr := hk.symm
  refine Ex_run 1 (i' := 1) (L' := [(2, ((v0 : Nat) : Int)), (0, v1), (0, v2)]) (st' := [(0, v2)]) (h' := (G, ρ, m)) hm rfl cjn ?_
  by_cases c1 : v2 < 0
  · replace e := it_p e c1
    refine Ex_if1t (c := 2) (tgt := 18) hm rfl (bt2 c1) ?_
    refine Ex_run 1 (i' := 19) (L' := [(2, ((v0 : Nat) : Int)), (0, v1), (0, v2)]) (st' := [(0, 0)]) (h' := (G, ρ, m)) hm rfl cjn ?_
    cases e
    cases hk
    exact Ex_ret (k := 2) hm rfl ⟨_, rfl, by decide, rfl⟩
  · replace e := it_n e c1
    refine Ex_if1f (c := 2) (tgt := 18) hm rfl (bf2 c1) ?_
    obtain ⟨g2, e⟩ := gd_s e
    refine Ex_run 3 (i' := 5) (L' := [(2, ((v0 : Nat) : Int)), (0, v1), (0, v2)]) (st' := [(0, (m v0 0)), (0, v2)]) (h' := (G, ρ, m)) hm rfl (cjc (gk_b g2) cjn) ?_
    by_cases c3 : v2 < (m v0 0)
    · replace e := it_p e c3
      refine Ex_if2f (c := 3) (tgt := 18) hm rfl (bf3 c3) ?_
      refine Ex_run 3 (i' := 9) (L' := [(2, ((v0 : Nat) : Int)), (0, v1), (0, v2)]) (st' := [(0, v1), (2, (((ρ v0 4) : Nat) : Int))]) (h' := (G, ρ, m)) hm rfl (cjc (gk_b g2) cjn) ?_
      obtain ⟨g4, e⟩ := gd_s e
      obtain ⟨q5, h5, e⟩ := bn_s e
      refine Ex_callm (z := 33) (na := 2) (ck := 6) (as := [(2, (((ρ v0 4) : Nat) : Int)), (0, v1)]) (rest := []) (E0 := [(2, (((ρ v0 4) : Nat) : Int)), (0, v1)]) (v := some (0, q5)) (h1 := (G, ρ, m)) hm rfl (by omega) ⟨Nat.le_of_ble_eq_true rfl, Nat.le_of_ble_eq_true rfl⟩ (rc2 rfl g4) rfl rfl ml_33 rfl (Nat.le_of_ble_eq_true rfl) (tf33 h5 (by omega)) ?_
      show Ex d 67 10 [(2, ((v0 : Nat) : Int)), (0, v1), (0, v2)] [(0, q5)] (G, ρ, m) rr
      refine Ex_run 5 (i' := 15) (L' := [(2, ((v0 : Nat) : Int)), (0, v1), (0, v2)]) (st' := [(0, 1), (0, (g_and (g_shr q5 v2) 1))]) (h' := (G, ρ, m)) hm rfl cjn ?_
      by_cases c6 : (g_and (g_shr q5 v2) 1) = 1
      · replace e := it_p e c6
        refine Ex_if2f (c := 1) (tgt := 18) hm rfl (bf1 c6) ?_
        refine Ex_run 2 (i' := 19) (L' := [(2, ((v0 : Nat) : Int)), (0, v1), (0, v2)]) (st' := [(0, 1)]) (h' := (G, ρ, m)) hm rfl cjn ?_
        cases e
        cases hk
        exact Ex_ret (k := 2) hm rfl ⟨_, rfl, by decide, rfl⟩
      · replace e := it_n e c6
        refine Ex_if2t (c := 1) (tgt := 18) hm rfl (bt1 c6) ?_
        refine Ex_run 1 (i' := 19) (L' := [(2, ((v0 : Nat) : Int)), (0, v1), (0, v2)]) (st' := [(0, 0)]) (h' := (G, ρ, m)) hm rfl cjn ?_
        cases e
        cases hk
        exact Ex_ret (k := 2) hm rfl ⟨_, rfl, by decide, rfl⟩
    · replace e := it_n e c3
      refine Ex_if2t (c := 3) (tgt := 18) hm rfl (bt3 c3) ?_
      refine Ex_run 1 (i' := 19) (L' := [(2, ((v0 : Nat) : Int)), (0, v1), (0, v2)]) (st' := [(0, 0)]) (h' := (G, ρ, m)) hm rfl cjn ?_
      cases e
      cases hk
      exact Ex_ret (k := 2) hm rfl ⟨_, rfl, by decide, rfl⟩
theorem tf68 {G : Gg} {ρ : Rg} {d : Nat} {v0 : Nat} {v1 : Int} {v2 : Int} {m : Sg} {x : Sg} (e : f68 G ρ v0 v1 v2 m = some x) (hd : 1 ≤ d) : Ex d 68 0 [(2, ((v0 : Nat) : Int)), (0, v1), (0, v2)] [] (G, ρ, m) (none, (G, ρ, x)) := by
  unfold f68 at e
  have hm := mi_68
  generalize hk : (none, (G, ρ, x)) = rr
  replace hk : (Bv G ρ) x rr := hk.symm
  refine Ex_run 1 (i' := 1) (L' := [(2, ((v0 : Nat) : Int)), (0, v1), (0, v2)]) (st' := [(0, v2)]) (h' := (G, ρ, m)) hm rfl cjn ?_
  by_cases c1 : v2 < 0
  · replace e := it_p e c1
    refine Ex_if1t (c := 2) (tgt := 18) hm rfl (bt2 c1) ?_
    cases e
    cases hk
    exact Ex_ret (k := 0) hm rfl ⟨rfl, rfl⟩
  · replace e := it_n e c1
    refine Ex_if1f (c := 2) (tgt := 18) hm rfl (bf2 c1) ?_
    obtain ⟨g2, e⟩ := gd_s e
    refine Ex_run 3 (i' := 5) (L' := [(2, ((v0 : Nat) : Int)), (0, v1), (0, v2)]) (st' := [(0, (m v0 0)), (0, v2)]) (h' := (G, ρ, m)) hm rfl (cjc (gk_b g2) cjn) ?_
    by_cases c3 : v2 < (m v0 0)
    · replace e := it_p e c3
      refine Ex_if2f (c := 3) (tgt := 18) hm rfl (bf3 c3) ?_
      refine Ex_run 6 (i' := 12) (L' := [(2, ((v0 : Nat) : Int)), (0, v1), (0, v2)]) (st' := [(0, v1), (2, (((ρ v0 4) : Nat) : Int)), (0, v1), (2, (((ρ v0 4) : Nat) : Int))]) (h' := (G, ρ, m)) hm rfl (cjc (gk_b g2) (cjc (gk_b g2) cjn)) ?_
      obtain ⟨g4, e⟩ := gd_s e
      obtain ⟨q5, h5, e⟩ := bn_s e
      refine Ex_callm (z := 33) (na := 2) (ck := 6) (as := [(2, (((ρ v0 4) : Nat) : Int)), (0, v1)]) (rest := [(0, v1), (2, (((ρ v0 4) : Nat) : Int))]) (E0 := [(2, (((ρ v0 4) : Nat) : Int)), (0, v1)]) (v := some (0, q5)) (h1 := (G, ρ, m)) hm rfl (by omega) ⟨Nat.le_of_ble_eq_true rfl, Nat.le_of_ble_eq_true rfl⟩ (rc2 rfl g4) rfl rfl ml_33 rfl (Nat.le_of_ble_eq_true rfl) (tf33 h5 (by omega)) ?_
      show Ex d 68 13 [(2, ((v0 : Nat) : Int)), (0, v1), (0, v2)] [(0, q5), (0, v1), (2, (((ρ v0 4) : Nat) : Int))] (G, ρ, m) rr
      refine Ex_run 4 (i' := 17) (L' := [(2, ((v0 : Nat) : Int)), (0, v1), (0, v2)]) (st' := [(0, (g_or q5 (g_shl 1 v2))), (0, v1), (2, (((ρ v0 4) : Nat) : Int))]) (h' := (G, ρ, m)) hm rfl cjn ?_
      obtain ⟨q6, h6, e⟩ := bn_s e
      refine Ex_callm (z := 34) (na := 3) (ck := 6) (as := [(2, (((ρ v0 4) : Nat) : Int)), (0, v1), (0, (g_or q5 (g_shl 1 v2)))]) (rest := []) (E0 := [(2, (((ρ v0 4) : Nat) : Int)), (0, v1), (0, (g_or q5 (g_shl 1 v2)))]) (v := none) (h1 := (G, ρ, q6)) hm rfl (by omega) ⟨Nat.le_of_ble_eq_true rfl, Nat.le_of_ble_eq_true rfl⟩ (rc2 rfl g4) rfl rfl ml_34 rfl (Nat.le_of_ble_eq_true rfl) (tf34 h6 (by omega)) ?_
      show Ex d 68 18 [(2, ((v0 : Nat) : Int)), (0, v1), (0, v2)] [] (G, ρ, q6) rr
      cases e
      cases hk
      exact Ex_ret (k := 0) hm rfl ⟨rfl, rfl⟩
    · replace e := it_n e c3
      refine Ex_if2t (c := 3) (tgt := 18) hm rfl (bt3 c3) ?_
      cases e
      cases hk
      exact Ex_ret (k := 0) hm rfl ⟨rfl, rfl⟩
theorem tf222_38 {G : Gg} {ρ : Rg} {d : Nat} {v0 : Int} {m : Sg} {x : Int} (e : f222_38 G ρ v0 m = some x) (hd : 0 ≤ d) (rr : Option MV × Mh) (hk : (Bpi G ρ m) x rr) : Ex d 222 38 [(0, v0)] [] (G, ρ, m) rr := by
  unfold f222_38 at e
  have hm := mi_222
  refine Ex_run 3 (i' := 41) (L' := [(0, v0)]) (st' := [(0, (g_and v0 63))]) (h' := (G, ρ, m)) hm rfl cjn ?_
  cases e
  cases hk
  exact Ex_ret (k := 1) hm rfl ⟨_, rfl, rfl⟩
theorem tf222_32 {G : Gg} {ρ : Rg} {d : Nat} {v0 : Int} {m : Sg} {x : Int} (e : f222_32 G ρ v0 m = some x) (hd : 0 ≤ d) (rr : Option MV × Mh) (hk : (Bpi G ρ m) x rr) : Ex d 222 32 [(0, v0)] [] (G, ρ, m) rr := by
  unfold f222_32 at e
  have hm := mi_222
  refine Ex_run 6 (i' := 38) (L' := [(0, (g_add v0 (g_ushr v0 16)))]) (st' := []) (h' := (G, ρ, m)) hm rfl (cjc (Nat.le_of_ble_eq_true rfl) cjn) ?_
  exact tf222_38 e hd rr hk
theorem tf222_26 {G : Gg} {ρ : Rg} {d : Nat} {v0 : Int} {m : Sg} {x : Int} (e : f222_26 G ρ v0 m = some x) (hd : 0 ≤ d) (rr : Option MV × Mh) (hk : (Bpi G ρ m) x rr) : Ex d 222 26 [(0, v0)] [] (G, ρ, m) rr := by
  unfold f222_26 at e
  have hm := mi_222
  refine Ex_run 6 (i' := 32) (L' := [(0, (g_add v0 (g_ushr v0 8)))]) (st' := []) (h' := (G, ρ, m)) hm rfl (cjc (Nat.le_of_ble_eq_true rfl) cjn) ?_
  exact tf222_32 e hd rr hk
theorem tf222_18 {G : Gg} {ρ : Rg} {d : Nat} {v0 : Int} {m : Sg} {x : Int} (e : f222_18 G ρ v0 m = some x) (hd : 0 ≤ d) (rr : Option MV × Mh) (hk : (Bpi G ρ m) x rr) : Ex d 222 18 [(0, v0)] [] (G, ρ, m) rr := by
  unfold f222_18 at e
  have hm := mi_222
  refine Ex_run 8 (i' := 26) (L' := [(0, (g_and (g_add v0 (g_ushr v0 4)) 252645135))]) (st' := []) (h' := (G, ρ, m)) hm rfl (cjc (Nat.le_of_ble_eq_true rfl) cjn) ?_
  exact tf222_26 e hd rr hk
theorem tf222_8 {G : Gg} {ρ : Rg} {d : Nat} {v0 : Int} {m : Sg} {x : Int} (e : f222_8 G ρ v0 m = some x) (hd : 0 ≤ d) (rr : Option MV × Mh) (hk : (Bpi G ρ m) x rr) : Ex d 222 8 [(0, v0)] [] (G, ρ, m) rr := by
  unfold f222_8 at e
  have hm := mi_222
  refine Ex_run 10 (i' := 18) (L' := [(0, (g_add (g_and v0 858993459) (g_and (g_ushr v0 2) 858993459)))]) (st' := []) (h' := (G, ρ, m)) hm rfl (cjc (Nat.le_of_ble_eq_true rfl) cjn) ?_
  exact tf222_18 e hd rr hk
theorem tf222 {G : Gg} {ρ : Rg} {d : Nat} {v0 : Int} {m : Sg} {x : Int} (e : f222 G ρ v0 m = some x) (hd : 0 ≤ d) : Ex d 222 0 [(0, v0)] [] (G, ρ, m) (some (0, x), (G, ρ, m)) := by
  unfold f222 at e
  have hm := mi_222
  generalize hk : (some (0, x), (G, ρ, m)) = rr
  replace hk : (Bpi G ρ m) x rr := hk.symm
  refine Ex_run 8 (i' := 8) (L' := [(0, (g_sub v0 (g_and (g_ushr v0 1) 1431655765)))]) (st' := []) (h' := (G, ρ, m)) hm rfl (cjc (Nat.le_of_ble_eq_true rfl) cjn) ?_
  exact tf222_8 e hd rr hk
theorem tf69 {G : Gg} {ρ : Rg} {d : Nat} {v0 : Nat} {v1 : Int} {m : Sg} {x : Int} (e : f69 G ρ v0 v1 m = some x) (hd : 1 ≤ d) : Ex d 69 0 [(2, ((v0 : Nat) : Int)), (0, v1)] [] (G, ρ, m) (some (0, x), (G, ρ, m)) := by
  unfold f69 at e
  have hm := mi_69
  generalize hk : (some (0, x), (G, ρ, m)) = rr
  replace hk : (Bpi G ρ m) x rr := hk.symm
  obtain ⟨g1, e⟩ := gd_s e
  refine Ex_run 3 (i' := 3) (L' := [(2, ((v0 : Nat) : Int)), (0, v1)]) (st' := [(0, v1), (2, (((ρ v0 4) : Nat) : Int))]) (h' := (G, ρ, m)) hm rfl (cjc (gk_b g1) cjn) ?_
  obtain ⟨g2, e⟩ := gd_s e
  obtain ⟨q3, h3, e⟩ := bn_s e
  refine Ex_callm (z := 33) (na := 2) (ck := 6) (as := [(2, (((ρ v0 4) : Nat) : Int)), (0, v1)]) (rest := []) (E0 := [(2, (((ρ v0 4) : Nat) : Int)), (0, v1)]) (v := some (0, q3)) (h1 := (G, ρ, m)) hm rfl (by omega) ⟨Nat.le_of_ble_eq_true rfl, Nat.le_of_ble_eq_true rfl⟩ (rc2 rfl g2) rfl rfl ml_33 rfl (Nat.le_of_ble_eq_true rfl) (tf33 h3 (by omega)) ?_
  show Ex d 69 4 [(2, ((v0 : Nat) : Int)), (0, v1)] [(0, q3)] (G, ρ, m) rr
  obtain ⟨q4, h4, e⟩ := bn_s e
  refine Ex_callm (z := 222) (na := 1) (ck := 0) (as := [(0, q3)]) (rest := []) (E0 := [(0, q3)]) (v := some (0, q4)) (h1 := (G, ρ, m)) hm rfl (by omega) ⟨Nat.le_of_ble_eq_true rfl, Nat.le_of_ble_eq_true rfl⟩ (trivial) rfl rfl ml_222 rfl (Nat.le_of_ble_eq_true rfl) (tf222 h4 (by omega)) ?_
  show Ex d 69 5 [(2, ((v0 : Nat) : Int)), (0, v1)] [(0, q4)] (G, ρ, m) rr
  cases e
  cases hk
  exact Ex_ret (k := 1) hm rfl ⟨_, rfl, rfl⟩
theorem tf70_32 {G : Gg} {ρ : Rg} {d : Nat} {v0 : Nat} {v1 : Int} {v2 : Nat} {v3 : Int} {v5 : Int} {w0 : Int} {m : Sg} {x : (Int × Sg) ⊕ (Sg)} (e : f70_32 G ρ v0 v1 v2 v3 v5 w0 m = some x) (hd : 2 ≤ d) (rr : Option MV × Mh) (hk : (DS (e70_2 G ρ d v0 v1 v2) (Bv G ρ)) x rr) (j4 : Int) (j6 : MV) : Ex d 70 32 [(2, ((v0 : Nat) : Int)), (0, v1), (2, ((v2 : Nat) : Int)), (0, v3), (0, j4), (0, v5), j6] [(0, w0)] (G, ρ, m) rr := by
  unfold f70_32 at e
  have hm := mi_70
  refine Ex_run 5 (i' := 37) (L' := [(2, ((v0 : Nat) : Int)), (0, v1), (2, ((v2 : Nat) : Int)), (0, v3), (0, j4), (0, v5), (0, w0)]) (st' := [(0, w0), (0, v5), (0, v3), (2, ((v2 : Nat) : Int))]) (h' := (G, ρ, m)) hm rfl (cjc (Nat.le_of_ble_eq_true rfl) cjn) ?_
  obtain ⟨g13, e⟩ := gd_s e
  obtain ⟨q14, h14, e⟩ := bn_s e
  refine Ex_callm (z := 40) (na := 4) (ck := 7) (as := [(2, ((v2 : Nat) : Int)), (0, v3), (0, v5), (0, w0)]) (rest := []) (E0 := [(2, ((v2 : Nat) : Int)), (0, v3), (0, v5), (0, w0)]) (v := none) (h1 := (G, ρ, q14)) hm rfl (by omega) ⟨Nat.le_of_ble_eq_true rfl, Nat.le_of_ble_eq_true rfl⟩ (rc2 rfl g13) rfl rfl ml_40 rfl (Nat.le_of_ble_eq_true rfl) (tf40 h14 (by omega)) ?_
  show Ex d 70 38 [(2, ((v0 : Nat) : Int)), (0, v1), (2, ((v2 : Nat) : Int)), (0, v3), (0, j4), (0, v5), (0, w0)] [] (G, ρ, q14) rr
  refine Ex_run 2 (i' := 2) (L' := [(2, ((v0 : Nat) : Int)), (0, v1), (2, ((v2 : Nat) : Int)), (0, (w32 (v3 + 1))), (0, j4), (0, v5), (0, w0)]) (st' := []) (h' := (G, ρ, q14)) hm rfl cjn ?_
  cases e
  exact hk _ _ _
theorem tf70_21 {G : Gg} {ρ : Rg} {d : Nat} {v0 : Nat} {v1 : Int} {v2 : Nat} {v3 : Int} {v4 : Int} {w0 : Int} {m : Sg} {x : (Int × Sg) ⊕ (Sg)} (e : f70_21 G ρ v0 v1 v2 v3 v4 w0 m = some x) (hd : 2 ≤ d) (rr : Option MV × Mh) (hk : (DS (e70_2 G ρ d v0 v1 v2) (Bv G ρ)) x rr) (j5 : MV) (j6 : MV) : Ex d 70 21 [(2, ((v0 : Nat) : Int)), (0, v1), (2, ((v2 : Nat) : Int)), (0, v3), (0, v4), j5, j6] [(0, w0)] (G, ρ, m) rr := by
  unfold f70_21 at e
  have hm := mi_70
  refine Ex_run 2 (i' := 23) (L' := [(2, ((v0 : Nat) : Int)), (0, v1), (2, ((v2 : Nat) : Int)), (0, v3), (0, v4), (0, w0), j6]) (st' := [(0, v4)]) (h' := (G, ρ, m)) hm rfl (cjc (Nat.le_of_ble_eq_true rfl) cjn) ?_
  by_cases c8 : v4 = 0
  · replace e := it_p e c8
    refine Ex_if1t (c := 0) (tgt := 26) hm rfl (bt0 c8) ?_
    obtain ⟨g9, e⟩ := gd_s e
    refine Ex_run 4 (i' := 30) (L' := [(2, ((v0 : Nat) : Int)), (0, v1), (2, ((v2 : Nat) : Int)), (0, v3), (0, v4), (0, w0), j6]) (st' := [(0, v3), (0, v1), (2, (((ρ v0 2) : Nat) : Int))]) (h' := (G, ρ, m)) hm rfl (cjc (gk_b g9) cjn) ?_
    obtain ⟨q10, h10, e⟩ := bn_s e
    refine Ex_callm (z := 79) (na := 2) (ck := 0) (as := [(0, v1), (0, v3)]) (rest := [(2, (((ρ v0 2) : Nat) : Int))]) (E0 := [(0, v1), (0, v3)]) (v := some (0, q10)) (h1 := (G, ρ, m)) hm rfl (by omega) ⟨Nat.le_of_ble_eq_true rfl, Nat.le_of_ble_eq_true rfl⟩ (trivial) rfl rfl ml_79 rfl (Nat.le_of_ble_eq_true rfl) (tf79 h10 (by omega)) ?_
    show Ex d 70 31 [(2, ((v0 : Nat) : Int)), (0, v1), (2, ((v2 : Nat) : Int)), (0, v3), (0, v4), (0, w0), j6] [(0, q10), (2, (((ρ v0 2) : Nat) : Int))] (G, ρ, m) rr
    obtain ⟨g11, e⟩ := gd_s e
    obtain ⟨q12, h12, e⟩ := bn_s e
    refine Ex_callm (z := 33) (na := 2) (ck := 6) (as := [(2, (((ρ v0 2) : Nat) : Int)), (0, q10)]) (rest := []) (E0 := [(2, (((ρ v0 2) : Nat) : Int)), (0, q10)]) (v := some (0, q12)) (h1 := (G, ρ, m)) hm rfl (by omega) ⟨Nat.le_of_ble_eq_true rfl, Nat.le_of_ble_eq_true rfl⟩ (rc2 rfl g11) rfl rfl ml_33 rfl (Nat.le_of_ble_eq_true rfl) (tf33 h12 (by omega)) ?_
    show Ex d 70 32 [(2, ((v0 : Nat) : Int)), (0, v1), (2, ((v2 : Nat) : Int)), (0, v3), (0, v4), (0, w0), j6] [(0, q12)] (G, ρ, m) rr
    exact tf70_32 e hd rr hk _ _
  · replace e := it_n e c8
    refine Ex_if1f (c := 0) (tgt := 26) hm rfl (bf0 c8) ?_
    refine Ex_run 2 (i' := 32) (L' := [(2, ((v0 : Nat) : Int)), (0, v1), (2, ((v2 : Nat) : Int)), (0, v3), (0, v4), (0, w0), j6]) (st' := [(0, 0)]) (h' := (G, ρ, m)) hm rfl cjn ?_
    exact tf70_32 e hd rr hk _ _
theorem tf70_b2 {G : Gg} {ρ : Rg} {d : Nat} {v0 : Nat} {v1 : Int} {v2 : Nat} {s : Int × Sg} {x : (Int × Sg) ⊕ (Sg)} (e : f70_b2 G ρ v0 v1 v2 s = some x) (hd : 2 ≤ d) (rr : Option MV × Mh) (hk : (DS (e70_2 G ρ d v0 v1 v2) (Bv G ρ)) x rr) : e70_2 G ρ d v0 v1 v2 s rr := by
  unfold f70_b2 at e
  have hm := mi_70
  show ∀ (j4 : MV) (j5 : MV) (j6 : MV), Ex d 70 2 [(2, ((v0 : Nat) : Int)), (0, v1), (2, ((v2 : Nat) : Int)), (0, s.1), j4, j5, j6] [] (G, ρ, s.2) rr
  intro j4 j5 j6
  obtain ⟨g1, e⟩ := gd_s e
  refine Ex_run 3 (i' := 5) (L' := [(2, ((v0 : Nat) : Int)), (0, v1), (2, ((v2 : Nat) : Int)), (0, s.1), j4, j5, j6]) (st' := [(0, (s.2 v0 0)), (0, s.1)]) (h' := (G, ρ, s.2)) hm rfl (cjc (gk_b g1) cjn) ?_
  by_cases c2 : s.1 < (s.2 v0 0)
  · replace e := it_p e c2
    refine Ex_if2f (c := 3) (tgt := 40) hm rfl (bf3 c2) ?_
    refine Ex_run 3 (i' := 9) (L' := [(2, ((v0 : Nat) : Int)), (0, v1), (2, ((v2 : Nat) : Int)), (0, s.1), j4, j5, j6]) (st' := [(0, s.1), (0, v1), (2, ((v0 : Nat) : Int))]) (h' := (G, ρ, s.2)) hm rfl cjn ?_
    obtain ⟨q3, h3, e⟩ := bn_s e
    refine Ex_callm (z := 67) (na := 3) (ck := 11) (as := [(2, ((v0 : Nat) : Int)), (0, v1), (0, s.1)]) (rest := []) (E0 := [(2, ((v0 : Nat) : Int)), (0, v1), (0, s.1)]) (v := some (0, q3)) (h1 := (G, ρ, s.2)) hm rfl (by omega) ⟨Nat.le_of_ble_eq_true rfl, Nat.le_of_ble_eq_true rfl⟩ (rc2 rfl g1) rfl rfl ml_67 rfl (Nat.le_of_ble_eq_true rfl) (tf67 h3 (by omega)) ?_
    show Ex d 70 10 [(2, ((v0 : Nat) : Int)), (0, v1), (2, ((v2 : Nat) : Int)), (0, s.1), j4, j5, j6] [(0, q3)] (G, ρ, s.2) rr
    refine Ex_run 2 (i' := 12) (L' := [(2, ((v0 : Nat) : Int)), (0, v1), (2, ((v2 : Nat) : Int)), (0, s.1), (0, q3), j5, j6]) (st' := [(0, q3)]) (h' := (G, ρ, s.2)) hm rfl (cjc (Nat.le_of_ble_eq_true rfl) cjn) ?_
    by_cases c4 : q3 = 0
    · replace e := it_p e c4
      refine Ex_if1t (c := 0) (tgt := 15) hm rfl (bt0 c4) ?_
      refine Ex_run 4 (i' := 19) (L' := [(2, ((v0 : Nat) : Int)), (0, v1), (2, ((v2 : Nat) : Int)), (0, s.1), (0, q3), j5, j6]) (st' := [(0, s.1), (0, v1), (2, (((ρ v0 1) : Nat) : Int))]) (h' := (G, ρ, s.2)) hm rfl (cjc (gk_b g1) cjn) ?_
      obtain ⟨q5, h5, e⟩ := bn_s e
      refine Ex_callm (z := 79) (na := 2) (ck := 0) (as := [(0, v1), (0, s.1)]) (rest := [(2, (((ρ v0 1) : Nat) : Int))]) (E0 := [(0, v1), (0, s.1)]) (v := some (0, q5)) (h1 := (G, ρ, s.2)) hm rfl (by omega) ⟨Nat.le_of_ble_eq_true rfl, Nat.le_of_ble_eq_true rfl⟩ (trivial) rfl rfl ml_79 rfl (Nat.le_of_ble_eq_true rfl) (tf79 h5 (by omega)) ?_
      show Ex d 70 20 [(2, ((v0 : Nat) : Int)), (0, v1), (2, ((v2 : Nat) : Int)), (0, s.1), (0, q3), j5, j6] [(0, q5), (2, (((ρ v0 1) : Nat) : Int))] (G, ρ, s.2) rr
      obtain ⟨g6, e⟩ := gd_s e
      obtain ⟨q7, h7, e⟩ := bn_s e
      refine Ex_callm (z := 33) (na := 2) (ck := 6) (as := [(2, (((ρ v0 1) : Nat) : Int)), (0, q5)]) (rest := []) (E0 := [(2, (((ρ v0 1) : Nat) : Int)), (0, q5)]) (v := some (0, q7)) (h1 := (G, ρ, s.2)) hm rfl (by omega) ⟨Nat.le_of_ble_eq_true rfl, Nat.le_of_ble_eq_true rfl⟩ (rc2 rfl g6) rfl rfl ml_33 rfl (Nat.le_of_ble_eq_true rfl) (tf33 h7 (by omega)) ?_
      show Ex d 70 21 [(2, ((v0 : Nat) : Int)), (0, v1), (2, ((v2 : Nat) : Int)), (0, s.1), (0, q3), j5, j6] [(0, q7)] (G, ρ, s.2) rr
      exact tf70_21 e hd rr hk _ _
    · replace e := it_n e c4
      refine Ex_if1f (c := 0) (tgt := 15) hm rfl (bf0 c4) ?_
      refine Ex_run 2 (i' := 21) (L' := [(2, ((v0 : Nat) : Int)), (0, v1), (2, ((v2 : Nat) : Int)), (0, s.1), (0, q3), j5, j6]) (st' := [(0, 0)]) (h' := (G, ρ, s.2)) hm rfl cjn ?_
      exact tf70_21 e hd rr hk _ _
  · replace e := it_n e c2
    refine Ex_if2t (c := 3) (tgt := 40) hm rfl (bt3 c2) ?_
    obtain ⟨x, e, hx⟩ := xr_s e
    replace hk : (Bv G ρ) x rr := by rw [hx] at hk; exact hk
    refine Ex_run 4 (i' := 44) (L' := [(2, ((v0 : Nat) : Int)), (0, v1), (2, ((v2 : Nat) : Int)), (0, s.1), j4, j5, j6]) (st' := [(0, v1), (2, (((ρ v0 3) : Nat) : Int)), (2, ((v2 : Nat) : Int))]) (h' := (G, ρ, s.2)) hm rfl (cjc (gk_b g1) cjn) ?_
    obtain ⟨g15, e⟩ := gd_s e
    obtain ⟨q16, h16, e⟩ := bn_s e
    refine Ex_callm (z := 33) (na := 2) (ck := 6) (as := [(2, (((ρ v0 3) : Nat) : Int)), (0, v1)]) (rest := [(2, ((v2 : Nat) : Int))]) (E0 := [(2, (((ρ v0 3) : Nat) : Int)), (0, v1)]) (v := some (0, q16)) (h1 := (G, ρ, s.2)) hm rfl (by omega) ⟨Nat.le_of_ble_eq_true rfl, Nat.le_of_ble_eq_true rfl⟩ (rc2 rfl g15) rfl rfl ml_33 rfl (Nat.le_of_ble_eq_true rfl) (tf33 h16 (by omega)) ?_
    show Ex d 70 45 [(2, ((v0 : Nat) : Int)), (0, v1), (2, ((v2 : Nat) : Int)), (0, s.1), j4, j5, j6] [(0, q16), (2, ((v2 : Nat) : Int))] (G, ρ, s.2) rr
    obtain ⟨g17, e⟩ := gd_s e
    refine Ex_run 1 (i' := 46) (L' := [(2, ((v0 : Nat) : Int)), (0, v1), (2, ((v2 : Nat) : Int)), (0, s.1), j4, j5, j6]) (st' := []) (h' := (G, ρ, (put s.2 v2 3 q16))) hm rfl (cjc (gk_b g17) cjn) ?_
    cases e
    cases hk
    exact Ex_ret (k := 0) hm rfl ⟨rfl, rfl⟩
theorem tf70 {G : Gg} {ρ : Rg} {d : Nat} {v0 : Nat} {v1 : Int} {v2 : Nat} {m : Sg} {x : Sg} (e : f70 G ρ v0 v1 v2 m = some x) (hd : 2 ≤ d) : Ex d 70 0 [(2, ((v0 : Nat) : Int)), (0, v1), (2, ((v2 : Nat) : Int)), (9, 0), (9, 0), (9, 0), (9, 0)] [] (G, ρ, m) (none, (G, ρ, x)) := by
  unfold f70 at e
  have hm := mi_70
  generalize hk : (none, (G, ρ, x)) = rr
  replace hk : (Bv G ρ) x rr := hk.symm
  refine Ex_run 2 (i' := 2) (L' := [(2, ((v0 : Nat) : Int)), (0, v1), (2, ((v2 : Nat) : Int)), (0, 0), (9, 0), (9, 0), (9, 0)]) (st' := []) (h' := (G, ρ, m)) hm rfl (cjc (Nat.le_of_ble_eq_true rfl) cjn) ?_
  exact (Ex_lp (A := e70_2 G ρ d v0 v1 v2 ) (B := (Bv G ρ)) (fun s x e rr hk => tf70_b2 e hd rr hk) FU _ _ e rr hk) _ _ _
theorem tf223 {G : Gg} {ρ : Rg} {d : Nat} {v0 : Int} {m : Sg} {x : Int} (e : f223 G ρ v0 m = some x) (hd : 0 ≤ d) : Ex d 223 0 [(0, v0)] [] (G, ρ, m) (some (0, x), (G, ρ, m)) := by
  unfold f223 at e
  have hm := mi_223
  generalize hk : (some (0, x), (G, ρ, m)) = rr
  replace hk : (Bpi G ρ m) x rr := hk.symm
  refine Ex_run 8 (i' := 8) (L' := [(0, v0)]) (st' := [(0, (g_or (g_shr v0 31) (g_ushr (g_neg v0) 31)))]) (h' := (G, ρ, m)) hm rfl cjn ?_
  cases e
  cases hk
  exact Ex_ret (k := 1) hm rfl ⟨_, rfl, rfl⟩
theorem tf89_b15 {G : Gg} {ρ : Rg} {d : Nat} {v0 : Nat} {v2 : Int} {m : Sg} {s : Int × Int} {x : (Int × Int) ⊕ (Int)} (e : f89_b15 G ρ v0 v2 m s = some x) (hd : 1 ≤ d) (rr : Option MV × Mh) (hk : (DS (e89_15 G ρ d v0 v2 m) (Bpi G ρ m)) x rr) : e89_15 G ρ d v0 v2 m s rr := by
  unfold f89_b15 at e
  have hm := mi_89
  show ∀ (j1 : Int), Ex d 89 15 [(2, ((v0 : Nat) : Int)), (0, j1), (0, v2), (0, s.1), (0, s.2)] [] (G, ρ, m) rr
  intro j1
  obtain ⟨g2, e⟩ := gd_s e
  refine Ex_run 3 (i' := 18) (L' := [(2, ((v0 : Nat) : Int)), (0, j1), (0, v2), (0, s.1), (0, s.2)]) (st' := [(0, (m v0 3)), (0, s.2)]) (h' := (G, ρ, m)) hm rfl (cjc (gk_b g2) cjn) ?_
  by_cases c3 : s.2 < (m v0 3)
  · replace e := it_p e c3
    refine Ex_if2f (c := 3) (tgt := 29) hm rfl (bf3 c3) ?_
    refine Ex_run 3 (i' := 22) (L' := [(2, ((v0 : Nat) : Int)), (0, j1), (0, v2), (0, s.1), (0, s.2)]) (st' := [(0, s.2), (2, (((ρ v0 0) : Nat) : Int))]) (h' := (G, ρ, m)) hm rfl (cjc (gk_b g2) cjn) ?_
    obtain ⟨g4, e⟩ := gd_s e
    obtain ⟨q5, h5, e⟩ := bn_s e
    refine Ex_callm (z := 33) (na := 2) (ck := 6) (as := [(2, (((ρ v0 0) : Nat) : Int)), (0, s.2)]) (rest := []) (E0 := [(2, (((ρ v0 0) : Nat) : Int)), (0, s.2)]) (v := some (0, q5)) (h1 := (G, ρ, m)) hm rfl (by omega) ⟨Nat.le_of_ble_eq_true rfl, Nat.le_of_ble_eq_true rfl⟩ (rc2 rfl g4) rfl rfl ml_33 rfl (Nat.le_of_ble_eq_true rfl) (tf33 h5 (by omega)) ?_
    show Ex d 89 23 [(2, ((v0 : Nat) : Int)), (0, j1), (0, v2), (0, s.1), (0, s.2)] [(0, q5)] (G, ρ, m) rr
    obtain ⟨q6, h6, e⟩ := bn_s e
    refine Ex_callm (z := 223) (na := 1) (ck := 0) (as := [(0, q5)]) (rest := []) (E0 := [(0, q5)]) (v := some (0, q6)) (h1 := (G, ρ, m)) hm rfl (by omega) ⟨Nat.le_of_ble_eq_true rfl, Nat.le_of_ble_eq_true rfl⟩ (trivial) rfl rfl ml_223 rfl (Nat.le_of_ble_eq_true rfl) (tf223 h6 (by omega)) ?_
    show Ex d 89 24 [(2, ((v0 : Nat) : Int)), (0, j1), (0, v2), (0, s.1), (0, s.2)] [(0, q6)] (G, ρ, m) rr
    refine Ex_run 1 (i' := 25) (L' := [(2, ((v0 : Nat) : Int)), (0, j1), (0, v2), (0, s.1), (0, s.2)]) (st' := [(0, v2), (0, q6)]) (h' := (G, ρ, m)) hm rfl cjn ?_
    by_cases c7 : q6 = v2
    · replace e := it_p e c7
      refine Ex_if2f (c := 1) (tgt := 27) hm rfl (bf1 c7) ?_
      refine Ex_run 3 (i' := 15) (L' := [(2, ((v0 : Nat) : Int)), (0, j1), (0, v2), (0, (w32 (s.1 + 1))), (0, (w32 (s.2 + 1)))]) (st' := []) (h' := (G, ρ, m)) hm rfl cjn ?_
      cases e
      exact hk _
    · replace e := it_n e c7
      refine Ex_if2t (c := 1) (tgt := 27) hm rfl (bt1 c7) ?_
      refine Ex_run 2 (i' := 15) (L' := [(2, ((v0 : Nat) : Int)), (0, j1), (0, v2), (0, s.1), (0, (w32 (s.2 + 1)))]) (st' := []) (h' := (G, ρ, m)) hm rfl cjn ?_
      cases e
      exact hk _
  · replace e := it_n e c3
    refine Ex_if2t (c := 3) (tgt := 29) hm rfl (bt3 c3) ?_
    obtain ⟨x, e, hx⟩ := xr_s e
    replace hk : (Bpi G ρ m) x rr := by rw [hx] at hk; exact hk
    refine Ex_run 1 (i' := 30) (L' := [(2, ((v0 : Nat) : Int)), (0, j1), (0, v2), (0, s.1), (0, s.2)]) (st' := [(0, s.1)]) (h' := (G, ρ, m)) hm rfl cjn ?_
    cases e
    cases hk
    exact Ex_ret (k := 1) hm rfl ⟨_, rfl, rfl⟩
theorem tf89 {G : Gg} {ρ : Rg} {d : Nat} {v0 : Nat} {v1 : Int} {m : Sg} {x : Int} (e : f89 G ρ v0 v1 m = some x) (hd : 1 ≤ d) : Ex d 89 0 [(2, ((v0 : Nat) : Int)), (0, v1), (9, 0), (9, 0), (9, 0)] [] (G, ρ, m) (some (0, x), (G, ρ, m)) := by
  unfold f89 at e
  have hm := mi_89
  generalize hk : (some (0, x), (G, ρ, m)) = rr
  replace hk : (Bpi G ρ m) x rr := hk.symm
  refine Ex_run 1 (i' := 1) (L' := [(2, ((v0 : Nat) : Int)), (0, v1), (9, 0), (9, 0), (9, 0)]) (st' := [(0, v1)]) (h' := (G, ρ, m)) hm rfl cjn ?_
  by_cases c1 : v1 = 0
  · replace e := it_p e c1
    refine Ex_if1f (c := 1) (tgt := 4) hm rfl (bf1 c1) ?_
    refine Ex_run 7 (i' := 15) (L' := [(2, ((v0 : Nat) : Int)), (0, v1), (0, 1), (0, 0), (0, 0)]) (st' := []) (h' := (G, ρ, m)) hm rfl (cjc (Nat.le_of_ble_eq_true rfl) (cjc (Nat.le_of_ble_eq_true rfl) (cjc (Nat.le_of_ble_eq_true rfl) cjn))) ?_
    exact (Ex_lp (A := e89_15 G ρ d v0 1 m ) (B := (Bpi G ρ m)) (fun s x e rr hk => tf89_b15 e hd rr hk) FU _ _ e rr hk) _
  · replace e := it_n e c1
    refine Ex_if1t (c := 1) (tgt := 4) hm rfl (bt1 c1) ?_
    refine Ex_run 2 (i' := 6) (L' := [(2, ((v0 : Nat) : Int)), (0, v1), (9, 0), (9, 0), (9, 0)]) (st' := [(0, 1), (0, v1)]) (h' := (G, ρ, m)) hm rfl cjn ?_
    by_cases c8 : v1 = 1
    · replace e := it_p e c8
      refine Ex_if2f (c := 1) (tgt := 9) hm rfl (bf1 c8) ?_
      refine Ex_run 7 (i' := 15) (L' := [(2, ((v0 : Nat) : Int)), (0, v1), (0, (-1)), (0, 0), (0, 0)]) (st' := []) (h' := (G, ρ, m)) hm rfl (cjc (Nat.le_of_ble_eq_true rfl) (cjc (Nat.le_of_ble_eq_true rfl) (cjc (Nat.le_of_ble_eq_true rfl) cjn))) ?_
      exact (Ex_lp (A := e89_15 G ρ d v0 (-1) m ) (B := (Bpi G ρ m)) (fun s x e rr hk => tf89_b15 e hd rr hk) FU _ _ e rr hk) _
    · replace e := it_n e c8
      refine Ex_if2t (c := 1) (tgt := 9) hm rfl (bt1 c8) ?_
      refine Ex_run 6 (i' := 15) (L' := [(2, ((v0 : Nat) : Int)), (0, v1), (0, 0), (0, 0), (0, 0)]) (st' := []) (h' := (G, ρ, m)) hm rfl (cjc (Nat.le_of_ble_eq_true rfl) (cjc (Nat.le_of_ble_eq_true rfl) (cjc (Nat.le_of_ble_eq_true rfl) cjn))) ?_
      exact (Ex_lp (A := e89_15 G ρ d v0 0 m ) (B := (Bpi G ρ m)) (fun s x e rr hk => tf89_b15 e hd rr hk) FU _ _ e rr hk) _
theorem tf71 {G : Gg} {ρ : Rg} {d : Nat} {v0 : Nat} {v1 : Int} {v2 : Nat} {m : Sg} {x : Sg} (e : f71 G ρ v0 v1 v2 m = some x) (hd : 2 ≤ d) : Ex d 71 0 [(2, ((v0 : Nat) : Int)), (0, v1), (2, ((v2 : Nat) : Int))] [] (G, ρ, m) (none, (G, ρ, x)) := by
  unfold f71 at e
  have hm := mi_71
  generalize hk : (none, (G, ρ, x)) = rr
  replace hk : (Bv G ρ) x rr := hk.symm
  obtain ⟨g1, e⟩ := gd_s e
  refine Ex_run 9 (i' := 9) (L' := [(2, ((v0 : Nat) : Int)), (0, v1), (2, ((v2 : Nat) : Int))]) (st' := [(0, 0), (2, ((v2 : Nat) : Int)), (0, (g_add (g_mul v1 6) 1)), (2, (((ρ v0 7) : Nat) : Int))]) (h' := (G, ρ, m)) hm rfl (cjc (gk_b g1) cjn) ?_
  obtain ⟨g2, e⟩ := gd_s e
  obtain ⟨q3, h3, e⟩ := bn_s e
  refine Ex_callm (z := 89) (na := 2) (ck := 13) (as := [(2, ((v2 : Nat) : Int)), (0, 0)]) (rest := [(0, (g_add (g_mul v1 6) 1)), (2, (((ρ v0 7) : Nat) : Int))]) (E0 := [(2, ((v2 : Nat) : Int)), (0, 0), (9, 0), (9, 0), (9, 0)]) (v := some (0, q3)) (h1 := (G, ρ, m)) hm rfl (by omega) ⟨Nat.le_of_ble_eq_true rfl, Nat.le_of_ble_eq_true rfl⟩ (rc2 rfl g2) rfl rfl ml_89 rfl (Nat.le_of_ble_eq_true rfl) (tf89 h3 (by omega)) ?_
  show Ex d 71 10 [(2, ((v0 : Nat) : Int)), (0, v1), (2, ((v2 : Nat) : Int))] [(0, q3), (0, (g_add (g_mul v1 6) 1)), (2, (((ρ v0 7) : Nat) : Int))] (G, ρ, m) rr
  obtain ⟨g4, e⟩ := gd_s e
  obtain ⟨q5, h5, e⟩ := bn_s e
  refine Ex_callm (z := 34) (na := 3) (ck := 6) (as := [(2, (((ρ v0 7) : Nat) : Int)), (0, (g_add (g_mul v1 6) 1)), (0, q3)]) (rest := []) (E0 := [(2, (((ρ v0 7) : Nat) : Int)), (0, (g_add (g_mul v1 6) 1)), (0, q3)]) (v := none) (h1 := (G, ρ, q5)) hm rfl (by omega) ⟨Nat.le_of_ble_eq_true rfl, Nat.le_of_ble_eq_true rfl⟩ (rc2 rfl g4) rfl rfl ml_34 rfl (Nat.le_of_ble_eq_true rfl) (tf34 h5 (by omega)) ?_
  show Ex d 71 11 [(2, ((v0 : Nat) : Int)), (0, v1), (2, ((v2 : Nat) : Int))] [] (G, ρ, q5) rr
  refine Ex_run 9 (i' := 20) (L' := [(2, ((v0 : Nat) : Int)), (0, v1), (2, ((v2 : Nat) : Int))]) (st' := [(0, 1), (2, ((v2 : Nat) : Int)), (0, (g_add (g_mul v1 6) 2)), (2, (((ρ v0 7) : Nat) : Int))]) (h' := (G, ρ, q5)) hm rfl (cjc (gk_b g1) cjn) ?_
  obtain ⟨q6, h6, e⟩ := bn_s e
  refine Ex_callm (z := 89) (na := 2) (ck := 13) (as := [(2, ((v2 : Nat) : Int)), (0, 1)]) (rest := [(0, (g_add (g_mul v1 6) 2)), (2, (((ρ v0 7) : Nat) : Int))]) (E0 := [(2, ((v2 : Nat) : Int)), (0, 1), (9, 0), (9, 0), (9, 0)]) (v := some (0, q6)) (h1 := (G, ρ, q5)) hm rfl (by omega) ⟨Nat.le_of_ble_eq_true rfl, Nat.le_of_ble_eq_true rfl⟩ (rc2 rfl g2) rfl rfl ml_89 rfl (Nat.le_of_ble_eq_true rfl) (tf89 h6 (by omega)) ?_
  show Ex d 71 21 [(2, ((v0 : Nat) : Int)), (0, v1), (2, ((v2 : Nat) : Int))] [(0, q6), (0, (g_add (g_mul v1 6) 2)), (2, (((ρ v0 7) : Nat) : Int))] (G, ρ, q5) rr
  obtain ⟨q7, h7, e⟩ := bn_s e
  refine Ex_callm (z := 34) (na := 3) (ck := 6) (as := [(2, (((ρ v0 7) : Nat) : Int)), (0, (g_add (g_mul v1 6) 2)), (0, q6)]) (rest := []) (E0 := [(2, (((ρ v0 7) : Nat) : Int)), (0, (g_add (g_mul v1 6) 2)), (0, q6)]) (v := none) (h1 := (G, ρ, q7)) hm rfl (by omega) ⟨Nat.le_of_ble_eq_true rfl, Nat.le_of_ble_eq_true rfl⟩ (rc2 rfl g4) rfl rfl ml_34 rfl (Nat.le_of_ble_eq_true rfl) (tf34 h7 (by omega)) ?_
  show Ex d 71 22 [(2, ((v0 : Nat) : Int)), (0, v1), (2, ((v2 : Nat) : Int))] [] (G, ρ, q7) rr
  refine Ex_run 9 (i' := 31) (L' := [(2, ((v0 : Nat) : Int)), (0, v1), (2, ((v2 : Nat) : Int))]) (st' := [(0, 2), (2, ((v2 : Nat) : Int)), (0, (g_add (g_mul v1 6) 3)), (2, (((ρ v0 7) : Nat) : Int))]) (h' := (G, ρ, q7)) hm rfl (cjc (gk_b g1) cjn) ?_
  obtain ⟨q8, h8, e⟩ := bn_s e
  refine Ex_callm (z := 89) (na := 2) (ck := 13) (as := [(2, ((v2 : Nat) : Int)), (0, 2)]) (rest := [(0, (g_add (g_mul v1 6) 3)), (2, (((ρ v0 7) : Nat) : Int))]) (E0 := [(2, ((v2 : Nat) : Int)), (0, 2), (9, 0), (9, 0), (9, 0)]) (v := some (0, q8)) (h1 := (G, ρ, q7)) hm rfl (by omega) ⟨Nat.le_of_ble_eq_true rfl, Nat.le_of_ble_eq_true rfl⟩ (rc2 rfl g2) rfl rfl ml_89 rfl (Nat.le_of_ble_eq_true rfl) (tf89 h8 (by omega)) ?_
  show Ex d 71 32 [(2, ((v0 : Nat) : Int)), (0, v1), (2, ((v2 : Nat) : Int))] [(0, q8), (0, (g_add (g_mul v1 6) 3)), (2, (((ρ v0 7) : Nat) : Int))] (G, ρ, q7) rr
  obtain ⟨q9, h9, e⟩ := bn_s e
  refine Ex_callm (z := 34) (na := 3) (ck := 6) (as := [(2, (((ρ v0 7) : Nat) : Int)), (0, (g_add (g_mul v1 6) 3)), (0, q8)]) (rest := []) (E0 := [(2, (((ρ v0 7) : Nat) : Int)), (0, (g_add (g_mul v1 6) 3)), (0, q8)]) (v := none) (h1 := (G, ρ, q9)) hm rfl (by omega) ⟨Nat.le_of_ble_eq_true rfl, Nat.le_of_ble_eq_true rfl⟩ (rc2 rfl g4) rfl rfl ml_34 rfl (Nat.le_of_ble_eq_true rfl) (tf34 h9 (by omega)) ?_
  show Ex d 71 33 [(2, ((v0 : Nat) : Int)), (0, v1), (2, ((v2 : Nat) : Int))] [] (G, ρ, q9) rr
  cases e
  cases hk
  exact Ex_ret (k := 0) hm rfl ⟨rfl, rfl⟩
theorem tf72 {G : Gg} {ρ : Rg} {d : Nat} {v0 : Nat} {v1 : Int} {v2 : Nat} {m : Sg} {x : Sg} (e : f72 G ρ v0 v1 v2 m = some x) (hd : 1 ≤ d) : Ex d 72 0 [(2, ((v0 : Nat) : Int)), (0, v1), (2, ((v2 : Nat) : Int))] [] (G, ρ, m) (none, (G, ρ, x)) := by
  unfold f72 at e
  have hm := mi_72
  generalize hk : (none, (G, ρ, x)) = rr
  replace hk : (Bv G ρ) x rr := hk.symm
  obtain ⟨g1, e⟩ := gd_s e
  refine Ex_run 9 (i' := 9) (L' := [(2, ((v0 : Nat) : Int)), (0, v1), (2, ((v2 : Nat) : Int))]) (st' := [(0, (g_add (g_mul v1 6) 1)), (2, (((ρ v0 7) : Nat) : Int)), (0, 1), (2, ((v2 : Nat) : Int))]) (h' := (G, ρ, m)) hm rfl (cjc (gk_b g1) cjn) ?_
  obtain ⟨g2, e⟩ := gd_s e
  obtain ⟨q3, h3, e⟩ := bn_s e
  refine Ex_callm (z := 33) (na := 2) (ck := 6) (as := [(2, (((ρ v0 7) : Nat) : Int)), (0, (g_add (g_mul v1 6) 1))]) (rest := [(0, 1), (2, ((v2 : Nat) : Int))]) (E0 := [(2, (((ρ v0 7) : Nat) : Int)), (0, (g_add (g_mul v1 6) 1))]) (v := some (0, q3)) (h1 := (G, ρ, m)) hm rfl (by omega) ⟨Nat.le_of_ble_eq_true rfl, Nat.le_of_ble_eq_true rfl⟩ (rc2 rfl g2) rfl rfl ml_33 rfl (Nat.le_of_ble_eq_true rfl) (tf33 h3 (by omega)) ?_
  show Ex d 72 10 [(2, ((v0 : Nat) : Int)), (0, v1), (2, ((v2 : Nat) : Int))] [(0, q3), (0, 1), (2, ((v2 : Nat) : Int))] (G, ρ, m) rr
  obtain ⟨g4, e⟩ := gd_s e
  obtain ⟨q5, h5, e⟩ := bn_s e
  refine Ex_callm (z := 34) (na := 3) (ck := 6) (as := [(2, ((v2 : Nat) : Int)), (0, 1), (0, q3)]) (rest := []) (E0 := [(2, ((v2 : Nat) : Int)), (0, 1), (0, q3)]) (v := none) (h1 := (G, ρ, q5)) hm rfl (by omega) ⟨Nat.le_of_ble_eq_true rfl, Nat.le_of_ble_eq_true rfl⟩ (rc2 rfl g4) rfl rfl ml_34 rfl (Nat.le_of_ble_eq_true rfl) (tf34 h5 (by omega)) ?_
  show Ex d 72 11 [(2, ((v0 : Nat) : Int)), (0, v1), (2, ((v2 : Nat) : Int))] [] (G, ρ, q5) rr
  refine Ex_run 9 (i' := 20) (L' := [(2, ((v0 : Nat) : Int)), (0, v1), (2, ((v2 : Nat) : Int))]) (st' := [(0, (g_add (g_mul v1 6) 2)), (2, (((ρ v0 7) : Nat) : Int)), (0, 2), (2, ((v2 : Nat) : Int))]) (h' := (G, ρ, q5)) hm rfl (cjc (gk_b g1) cjn) ?_
  obtain ⟨q6, h6, e⟩ := bn_s e
  refine Ex_callm (z := 33) (na := 2) (ck := 6) (as := [(2, (((ρ v0 7) : Nat) : Int)), (0, (g_add (g_mul v1 6) 2))]) (rest := [(0, 2), (2, ((v2 : Nat) : Int))]) (E0 := [(2, (((ρ v0 7) : Nat) : Int)), (0, (g_add (g_mul v1 6) 2))]) (v := some (0, q6)) (h1 := (G, ρ, q5)) hm rfl (by omega) ⟨Nat.le_of_ble_eq_true rfl, Nat.le_of_ble_eq_true rfl⟩ (rc2 rfl g2) rfl rfl ml_33 rfl (Nat.le_of_ble_eq_true rfl) (tf33 h6 (by omega)) ?_
  show Ex d 72 21 [(2, ((v0 : Nat) : Int)), (0, v1), (2, ((v2 : Nat) : Int))] [(0, q6), (0, 2), (2, ((v2 : Nat) : Int))] (G, ρ, q5) rr
  obtain ⟨q7, h7, e⟩ := bn_s e
  refine Ex_callm (z := 34) (na := 3) (ck := 6) (as := [(2, ((v2 : Nat) : Int)), (0, 2), (0, q6)]) (rest := []) (E0 := [(2, ((v2 : Nat) : Int)), (0, 2), (0, q6)]) (v := none) (h1 := (G, ρ, q7)) hm rfl (by omega) ⟨Nat.le_of_ble_eq_true rfl, Nat.le_of_ble_eq_true rfl⟩ (rc2 rfl g4) rfl rfl ml_34 rfl (Nat.le_of_ble_eq_true rfl) (tf34 h7 (by omega)) ?_
  show Ex d 72 22 [(2, ((v0 : Nat) : Int)), (0, v1), (2, ((v2 : Nat) : Int))] [] (G, ρ, q7) rr
  refine Ex_run 9 (i' := 31) (L' := [(2, ((v0 : Nat) : Int)), (0, v1), (2, ((v2 : Nat) : Int))]) (st' := [(0, (g_add (g_mul v1 6) 3)), (2, (((ρ v0 7) : Nat) : Int)), (0, 3), (2, ((v2 : Nat) : Int))]) (h' := (G, ρ, q7)) hm rfl (cjc (gk_b g1) cjn) ?_
  obtain ⟨q8, h8, e⟩ := bn_s e
  refine Ex_callm (z := 33) (na := 2) (ck := 6) (as := [(2, (((ρ v0 7) : Nat) : Int)), (0, (g_add (g_mul v1 6) 3))]) (rest := [(0, 3), (2, ((v2 : Nat) : Int))]) (E0 := [(2, (((ρ v0 7) : Nat) : Int)), (0, (g_add (g_mul v1 6) 3))]) (v := some (0, q8)) (h1 := (G, ρ, q7)) hm rfl (by omega) ⟨Nat.le_of_ble_eq_true rfl, Nat.le_of_ble_eq_true rfl⟩ (rc2 rfl g2) rfl rfl ml_33 rfl (Nat.le_of_ble_eq_true rfl) (tf33 h8 (by omega)) ?_
  show Ex d 72 32 [(2, ((v0 : Nat) : Int)), (0, v1), (2, ((v2 : Nat) : Int))] [(0, q8), (0, 3), (2, ((v2 : Nat) : Int))] (G, ρ, q7) rr
  obtain ⟨q9, h9, e⟩ := bn_s e
  refine Ex_callm (z := 34) (na := 3) (ck := 6) (as := [(2, ((v2 : Nat) : Int)), (0, 3), (0, q8)]) (rest := []) (E0 := [(2, ((v2 : Nat) : Int)), (0, 3), (0, q8)]) (v := none) (h1 := (G, ρ, q9)) hm rfl (by omega) ⟨Nat.le_of_ble_eq_true rfl, Nat.le_of_ble_eq_true rfl⟩ (rc2 rfl g4) rfl rfl ml_34 rfl (Nat.le_of_ble_eq_true rfl) (tf34 h9 (by omega)) ?_
  show Ex d 72 33 [(2, ((v0 : Nat) : Int)), (0, v1), (2, ((v2 : Nat) : Int))] [] (G, ρ, q9) rr
  refine Ex_run 5 (i' := 38) (L' := [(2, ((v0 : Nat) : Int)), (0, v1), (2, ((v2 : Nat) : Int))]) (st' := [(0, v1), (2, (((ρ v0 3) : Nat) : Int)), (0, 4), (2, ((v2 : Nat) : Int))]) (h' := (G, ρ, q9)) hm rfl (cjc (gk_b g1) cjn) ?_
  obtain ⟨g10, e⟩ := gd_s e
  obtain ⟨q11, h11, e⟩ := bn_s e
  refine Ex_callm (z := 33) (na := 2) (ck := 6) (as := [(2, (((ρ v0 3) : Nat) : Int)), (0, v1)]) (rest := [(0, 4), (2, ((v2 : Nat) : Int))]) (E0 := [(2, (((ρ v0 3) : Nat) : Int)), (0, v1)]) (v := some (0, q11)) (h1 := (G, ρ, q9)) hm rfl (by omega) ⟨Nat.le_of_ble_eq_true rfl, Nat.le_of_ble_eq_true rfl⟩ (rc2 rfl g10) rfl rfl ml_33 rfl (Nat.le_of_ble_eq_true rfl) (tf33 h11 (by omega)) ?_
  show Ex d 72 39 [(2, ((v0 : Nat) : Int)), (0, v1), (2, ((v2 : Nat) : Int))] [(0, q11), (0, 4), (2, ((v2 : Nat) : Int))] (G, ρ, q9) rr
  obtain ⟨q12, h12, e⟩ := bn_s e
  refine Ex_callm (z := 222) (na := 1) (ck := 0) (as := [(0, q11)]) (rest := [(0, 4), (2, ((v2 : Nat) : Int))]) (E0 := [(0, q11)]) (v := some (0, q12)) (h1 := (G, ρ, q9)) hm rfl (by omega) ⟨Nat.le_of_ble_eq_true rfl, Nat.le_of_ble_eq_true rfl⟩ (trivial) rfl rfl ml_222 rfl (Nat.le_of_ble_eq_true rfl) (tf222 h12 (by omega)) ?_
  show Ex d 72 40 [(2, ((v0 : Nat) : Int)), (0, v1), (2, ((v2 : Nat) : Int))] [(0, q12), (0, 4), (2, ((v2 : Nat) : Int))] (G, ρ, q9) rr
  obtain ⟨q13, h13, e⟩ := bn_s e
  refine Ex_callm (z := 34) (na := 3) (ck := 6) (as := [(2, ((v2 : Nat) : Int)), (0, 4), (0, q12)]) (rest := []) (E0 := [(2, ((v2 : Nat) : Int)), (0, 4), (0, q12)]) (v := none) (h1 := (G, ρ, q13)) hm rfl (by omega) ⟨Nat.le_of_ble_eq_true rfl, Nat.le_of_ble_eq_true rfl⟩ (rc2 rfl g4) rfl rfl ml_34 rfl (Nat.le_of_ble_eq_true rfl) (tf34 h13 (by omega)) ?_
  show Ex d 72 41 [(2, ((v0 : Nat) : Int)), (0, v1), (2, ((v2 : Nat) : Int))] [] (G, ρ, q13) rr
  refine Ex_run 5 (i' := 46) (L' := [(2, ((v0 : Nat) : Int)), (0, v1), (2, ((v2 : Nat) : Int))]) (st' := [(0, v1), (2, (((ρ v0 5) : Nat) : Int)), (0, 5), (2, ((v2 : Nat) : Int))]) (h' := (G, ρ, q13)) hm rfl (cjc (gk_b g1) cjn) ?_
  obtain ⟨g14, e⟩ := gd_s e
  obtain ⟨q15, h15, e⟩ := bn_s e
  refine Ex_callm (z := 33) (na := 2) (ck := 6) (as := [(2, (((ρ v0 5) : Nat) : Int)), (0, v1)]) (rest := [(0, 5), (2, ((v2 : Nat) : Int))]) (E0 := [(2, (((ρ v0 5) : Nat) : Int)), (0, v1)]) (v := some (0, q15)) (h1 := (G, ρ, q13)) hm rfl (by omega) ⟨Nat.le_of_ble_eq_true rfl, Nat.le_of_ble_eq_true rfl⟩ (rc2 rfl g14) rfl rfl ml_33 rfl (Nat.le_of_ble_eq_true rfl) (tf33 h15 (by omega)) ?_
  show Ex d 72 47 [(2, ((v0 : Nat) : Int)), (0, v1), (2, ((v2 : Nat) : Int))] [(0, q15), (0, 5), (2, ((v2 : Nat) : Int))] (G, ρ, q13) rr
  obtain ⟨q16, h16, e⟩ := bn_s e
  refine Ex_callm (z := 34) (na := 3) (ck := 6) (as := [(2, ((v2 : Nat) : Int)), (0, 5), (0, q15)]) (rest := []) (E0 := [(2, ((v2 : Nat) : Int)), (0, 5), (0, q15)]) (v := none) (h1 := (G, ρ, q16)) hm rfl (by omega) ⟨Nat.le_of_ble_eq_true rfl, Nat.le_of_ble_eq_true rfl⟩ (rc2 rfl g4) rfl rfl ml_34 rfl (Nat.le_of_ble_eq_true rfl) (tf34 h16 (by omega)) ?_
  show Ex d 72 48 [(2, ((v0 : Nat) : Int)), (0, v1), (2, ((v2 : Nat) : Int))] [] (G, ρ, q16) rr
  cases e
  cases hk
  exact Ex_ret (k := 0) hm rfl ⟨rfl, rfl⟩
theorem tf73_57 {G : Gg} {ρ : Rg} {d : Nat} {v0 : Nat} {v1 : Int} {v2 : Int} {v3 : Int} {v4 : Int} {w0 : Int} {m : Sg} {x : (Int × Int) ⊕ (Int)} (e : f73_57 G ρ v0 v1 v2 v3 v4 w0 m = some x) (hd : 2 ≤ d) (rr : Option MV × Mh) (hk : (DS (e73_13 G ρ d v0 v1 v2 m) (Bpi G ρ m)) x rr) (j5 : MV) : Ex d 73 57 [(2, ((v0 : Nat) : Int)), (0, v1), (0, v2), (0, v3), (0, v4), j5] [(0, w0)] (G, ρ, m) rr := by
  unfold f73_57 at e
  have hm := mi_73
  refine Ex_run 2 (i' := 59) (L' := [(2, ((v0 : Nat) : Int)), (0, v1), (0, v2), (0, v3), (0, v4), (0, w0)]) (st' := [(0, w0)]) (h' := (G, ρ, m)) hm rfl (cjc (Nat.le_of_ble_eq_true rfl) cjn) ?_
  by_cases c24 : w0 = 0
  · replace e := it_p e c24
    refine Ex_if1f (c := 1) (tgt := 61) hm rfl (bf1 c24) ?_
    refine Ex_run 3 (i' := 13) (L' := [(2, ((v0 : Nat) : Int)), (0, v1), (0, v2), (0, (w32 (v3 + 1))), (0, (w32 (v4 + 1))), (0, w0)]) (st' := []) (h' := (G, ρ, m)) hm rfl cjn ?_
    cases e
    exact hk _
  · replace e := it_n e c24
    refine Ex_if1t (c := 1) (tgt := 61) hm rfl (bt1 c24) ?_
    refine Ex_run 2 (i' := 13) (L' := [(2, ((v0 : Nat) : Int)), (0, v1), (0, v2), (0, v3), (0, (w32 (v4 + 1))), (0, w0)]) (st' := []) (h' := (G, ρ, m)) hm rfl cjn ?_
    cases e
    exact hk _
theorem tf73_b13 {G : Gg} {ρ : Rg} {d : Nat} {v0 : Nat} {v1 : Int} {v2 : Int} {m : Sg} {s : Int × Int} {x : (Int × Int) ⊕ (Int)} (e : f73_b13 G ρ v0 v1 v2 m s = some x) (hd : 2 ≤ d) (rr : Option MV × Mh) (hk : (DS (e73_13 G ρ d v0 v1 v2 m) (Bpi G ρ m)) x rr) : e73_13 G ρ d v0 v1 v2 m s rr := by
  unfold f73_b13 at e
  have hm := mi_73
  show ∀ (j5 : MV), Ex d 73 13 [(2, ((v0 : Nat) : Int)), (0, v1), (0, v2), (0, s.1), (0, s.2), j5] [] (G, ρ, m) rr
  intro j5
  obtain ⟨g6, e⟩ := gd_s e
  refine Ex_run 3 (i' := 16) (L' := [(2, ((v0 : Nat) : Int)), (0, v1), (0, v2), (0, s.1), (0, s.2), j5]) (st' := [(0, (m v0 0)), (0, s.2)]) (h' := (G, ρ, m)) hm rfl (cjc (gk_b g6) cjn) ?_
  by_cases c7 : s.2 < (m v0 0)
  · replace e := it_p e c7
    refine Ex_if2f (c := 3) (tgt := 63) hm rfl (bf3 c7) ?_
    refine Ex_run 3 (i' := 20) (L' := [(2, ((v0 : Nat) : Int)), (0, v1), (0, v2), (0, s.1), (0, s.2), j5]) (st' := [(0, s.2), (0, v1), (2, ((v0 : Nat) : Int))]) (h' := (G, ρ, m)) hm rfl cjn ?_
    obtain ⟨q8, h8, e⟩ := bn_s e
    refine Ex_callm (z := 67) (na := 3) (ck := 11) (as := [(2, ((v0 : Nat) : Int)), (0, v1), (0, s.2)]) (rest := []) (E0 := [(2, ((v0 : Nat) : Int)), (0, v1), (0, s.2)]) (v := some (0, q8)) (h1 := (G, ρ, m)) hm rfl (by omega) ⟨Nat.le_of_ble_eq_true rfl, Nat.le_of_ble_eq_true rfl⟩ (rc2 rfl g6) rfl rfl ml_67 rfl (Nat.le_of_ble_eq_true rfl) (tf67 h8 (by omega)) ?_
    show Ex d 73 21 [(2, ((v0 : Nat) : Int)), (0, v1), (0, v2), (0, s.1), (0, s.2), j5] [(0, q8)] (G, ρ, m) rr
    by_cases c9 : q8 = 0
    · replace e := it_p e c9
      refine Ex_if1f (c := 1) (tgt := 61) hm rfl (bf1 c9) ?_
      refine Ex_run 3 (i' := 25) (L' := [(2, ((v0 : Nat) : Int)), (0, v1), (0, v2), (0, s.1), (0, s.2), j5]) (st' := [(0, s.2), (0, v2), (2, ((v0 : Nat) : Int))]) (h' := (G, ρ, m)) hm rfl cjn ?_
      obtain ⟨q10, h10, e⟩ := bn_s e
      refine Ex_callm (z := 67) (na := 3) (ck := 11) (as := [(2, ((v0 : Nat) : Int)), (0, v2), (0, s.2)]) (rest := []) (E0 := [(2, ((v0 : Nat) : Int)), (0, v2), (0, s.2)]) (v := some (0, q10)) (h1 := (G, ρ, m)) hm rfl (by omega) ⟨Nat.le_of_ble_eq_true rfl, Nat.le_of_ble_eq_true rfl⟩ (rc2 rfl g6) rfl rfl ml_67 rfl (Nat.le_of_ble_eq_true rfl) (tf67 h10 (by omega)) ?_
      show Ex d 73 26 [(2, ((v0 : Nat) : Int)), (0, v1), (0, v2), (0, s.1), (0, s.2), j5] [(0, q10)] (G, ρ, m) rr
      by_cases c11 : q10 = 0
      · replace e := it_p e c11
        refine Ex_if1t (c := 0) (tgt := 28) hm rfl (bt0 c11) ?_
        refine Ex_run 4 (i' := 32) (L' := [(2, ((v0 : Nat) : Int)), (0, v1), (0, v2), (0, s.1), (0, s.2), j5]) (st' := [(0, s.2), (0, v1), (2, (((ρ v0 1) : Nat) : Int))]) (h' := (G, ρ, m)) hm rfl (cjc (gk_b g6) cjn) ?_
        obtain ⟨q12, h12, e⟩ := bn_s e
        refine Ex_callm (z := 79) (na := 2) (ck := 0) (as := [(0, v1), (0, s.2)]) (rest := [(2, (((ρ v0 1) : Nat) : Int))]) (E0 := [(0, v1), (0, s.2)]) (v := some (0, q12)) (h1 := (G, ρ, m)) hm rfl (by omega) ⟨Nat.le_of_ble_eq_true rfl, Nat.le_of_ble_eq_true rfl⟩ (trivial) rfl rfl ml_79 rfl (Nat.le_of_ble_eq_true rfl) (tf79 h12 (by omega)) ?_
        show Ex d 73 33 [(2, ((v0 : Nat) : Int)), (0, v1), (0, v2), (0, s.1), (0, s.2), j5] [(0, q12), (2, (((ρ v0 1) : Nat) : Int))] (G, ρ, m) rr
        obtain ⟨g13, e⟩ := gd_s e
        obtain ⟨q14, h14, e⟩ := bn_s e
        refine Ex_callm (z := 33) (na := 2) (ck := 6) (as := [(2, (((ρ v0 1) : Nat) : Int)), (0, q12)]) (rest := []) (E0 := [(2, (((ρ v0 1) : Nat) : Int)), (0, q12)]) (v := some (0, q14)) (h1 := (G, ρ, m)) hm rfl (by omega) ⟨Nat.le_of_ble_eq_true rfl, Nat.le_of_ble_eq_true rfl⟩ (rc2 rfl g13) rfl rfl ml_33 rfl (Nat.le_of_ble_eq_true rfl) (tf33 h14 (by omega)) ?_
        show Ex d 73 34 [(2, ((v0 : Nat) : Int)), (0, v1), (0, v2), (0, s.1), (0, s.2), j5] [(0, q14)] (G, ρ, m) rr
        refine Ex_run 4 (i' := 38) (L' := [(2, ((v0 : Nat) : Int)), (0, v1), (0, v2), (0, s.1), (0, s.2), j5]) (st' := [(0, s.2), (0, v2), (2, (((ρ v0 1) : Nat) : Int)), (0, q14)]) (h' := (G, ρ, m)) hm rfl (cjc (gk_b g6) cjn) ?_
        obtain ⟨q15, h15, e⟩ := bn_s e
        refine Ex_callm (z := 79) (na := 2) (ck := 0) (as := [(0, v2), (0, s.2)]) (rest := [(2, (((ρ v0 1) : Nat) : Int)), (0, q14)]) (E0 := [(0, v2), (0, s.2)]) (v := some (0, q15)) (h1 := (G, ρ, m)) hm rfl (by omega) ⟨Nat.le_of_ble_eq_true rfl, Nat.le_of_ble_eq_true rfl⟩ (trivial) rfl rfl ml_79 rfl (Nat.le_of_ble_eq_true rfl) (tf79 h15 (by omega)) ?_
        show Ex d 73 39 [(2, ((v0 : Nat) : Int)), (0, v1), (0, v2), (0, s.1), (0, s.2), j5] [(0, q15), (2, (((ρ v0 1) : Nat) : Int)), (0, q14)] (G, ρ, m) rr
        obtain ⟨q16, h16, e⟩ := bn_s e
        refine Ex_callm (z := 33) (na := 2) (ck := 6) (as := [(2, (((ρ v0 1) : Nat) : Int)), (0, q15)]) (rest := [(0, q14)]) (E0 := [(2, (((ρ v0 1) : Nat) : Int)), (0, q15)]) (v := some (0, q16)) (h1 := (G, ρ, m)) hm rfl (by omega) ⟨Nat.le_of_ble_eq_true rfl, Nat.le_of_ble_eq_true rfl⟩ (rc2 rfl g13) rfl rfl ml_33 rfl (Nat.le_of_ble_eq_true rfl) (tf33 h16 (by omega)) ?_
        show Ex d 73 40 [(2, ((v0 : Nat) : Int)), (0, v1), (0, v2), (0, s.1), (0, s.2), j5] [(0, q16), (0, q14)] (G, ρ, m) rr
        by_cases c17 : q14 = q16
        · replace e := it_p e c17
          refine Ex_if2f (c := 1) (tgt := 56) hm rfl (bf1 c17) ?_
          refine Ex_run 4 (i' := 45) (L' := [(2, ((v0 : Nat) : Int)), (0, v1), (0, v2), (0, s.1), (0, s.2), j5]) (st' := [(0, s.2), (0, v1), (2, (((ρ v0 2) : Nat) : Int))]) (h' := (G, ρ, m)) hm rfl (cjc (gk_b g6) cjn) ?_
          obtain ⟨q18, h18, e⟩ := bn_s e
          refine Ex_callm (z := 79) (na := 2) (ck := 0) (as := [(0, v1), (0, s.2)]) (rest := [(2, (((ρ v0 2) : Nat) : Int))]) (E0 := [(0, v1), (0, s.2)]) (v := some (0, q18)) (h1 := (G, ρ, m)) hm rfl (by omega) ⟨Nat.le_of_ble_eq_true rfl, Nat.le_of_ble_eq_true rfl⟩ (trivial) rfl rfl ml_79 rfl (Nat.le_of_ble_eq_true rfl) (tf79 h18 (by omega)) ?_
          show Ex d 73 46 [(2, ((v0 : Nat) : Int)), (0, v1), (0, v2), (0, s.1), (0, s.2), j5] [(0, q18), (2, (((ρ v0 2) : Nat) : Int))] (G, ρ, m) rr
          obtain ⟨g19, e⟩ := gd_s e
          obtain ⟨q20, h20, e⟩ := bn_s e
          refine Ex_callm (z := 33) (na := 2) (ck := 6) (as := [(2, (((ρ v0 2) : Nat) : Int)), (0, q18)]) (rest := []) (E0 := [(2, (((ρ v0 2) : Nat) : Int)), (0, q18)]) (v := some (0, q20)) (h1 := (G, ρ, m)) hm rfl (by omega) ⟨Nat.le_of_ble_eq_true rfl, Nat.le_of_ble_eq_true rfl⟩ (rc2 rfl g19) rfl rfl ml_33 rfl (Nat.le_of_ble_eq_true rfl) (tf33 h20 (by omega)) ?_
          show Ex d 73 47 [(2, ((v0 : Nat) : Int)), (0, v1), (0, v2), (0, s.1), (0, s.2), j5] [(0, q20)] (G, ρ, m) rr
          refine Ex_run 4 (i' := 51) (L' := [(2, ((v0 : Nat) : Int)), (0, v1), (0, v2), (0, s.1), (0, s.2), j5]) (st' := [(0, s.2), (0, v2), (2, (((ρ v0 2) : Nat) : Int)), (0, q20)]) (h' := (G, ρ, m)) hm rfl (cjc (gk_b g6) cjn) ?_
          obtain ⟨q21, h21, e⟩ := bn_s e
          refine Ex_callm (z := 79) (na := 2) (ck := 0) (as := [(0, v2), (0, s.2)]) (rest := [(2, (((ρ v0 2) : Nat) : Int)), (0, q20)]) (E0 := [(0, v2), (0, s.2)]) (v := some (0, q21)) (h1 := (G, ρ, m)) hm rfl (by omega) ⟨Nat.le_of_ble_eq_true rfl, Nat.le_of_ble_eq_true rfl⟩ (trivial) rfl rfl ml_79 rfl (Nat.le_of_ble_eq_true rfl) (tf79 h21 (by omega)) ?_
          show Ex d 73 52 [(2, ((v0 : Nat) : Int)), (0, v1), (0, v2), (0, s.1), (0, s.2), j5] [(0, q21), (2, (((ρ v0 2) : Nat) : Int)), (0, q20)] (G, ρ, m) rr
          obtain ⟨q22, h22, e⟩ := bn_s e
          refine Ex_callm (z := 33) (na := 2) (ck := 6) (as := [(2, (((ρ v0 2) : Nat) : Int)), (0, q21)]) (rest := [(0, q20)]) (E0 := [(2, (((ρ v0 2) : Nat) : Int)), (0, q21)]) (v := some (0, q22)) (h1 := (G, ρ, m)) hm rfl (by omega) ⟨Nat.le_of_ble_eq_true rfl, Nat.le_of_ble_eq_true rfl⟩ (rc2 rfl g19) rfl rfl ml_33 rfl (Nat.le_of_ble_eq_true rfl) (tf33 h22 (by omega)) ?_
          show Ex d 73 53 [(2, ((v0 : Nat) : Int)), (0, v1), (0, v2), (0, s.1), (0, s.2), j5] [(0, q22), (0, q20)] (G, ρ, m) rr
          by_cases c23 : q20 = q22
          · replace e := it_p e c23
            refine Ex_if2f (c := 1) (tgt := 56) hm rfl (bf1 c23) ?_
            refine Ex_run 2 (i' := 57) (L' := [(2, ((v0 : Nat) : Int)), (0, v1), (0, v2), (0, s.1), (0, s.2), j5]) (st' := [(0, 1)]) (h' := (G, ρ, m)) hm rfl cjn ?_
            exact tf73_57 e hd rr hk _
          · replace e := it_n e c23
            refine Ex_if2t (c := 1) (tgt := 56) hm rfl (bt1 c23) ?_
            refine Ex_run 1 (i' := 57) (L' := [(2, ((v0 : Nat) : Int)), (0, v1), (0, v2), (0, s.1), (0, s.2), j5]) (st' := [(0, 0)]) (h' := (G, ρ, m)) hm rfl cjn ?_
            exact tf73_57 e hd rr hk _
        · replace e := it_n e c17
          refine Ex_if2t (c := 1) (tgt := 56) hm rfl (bt1 c17) ?_
          refine Ex_run 1 (i' := 57) (L' := [(2, ((v0 : Nat) : Int)), (0, v1), (0, v2), (0, s.1), (0, s.2), j5]) (st' := [(0, 0)]) (h' := (G, ρ, m)) hm rfl cjn ?_
          exact tf73_57 e hd rr hk _
      · replace e := it_n e c11
        refine Ex_if1f (c := 0) (tgt := 28) hm rfl (bf0 c11) ?_
        refine Ex_run 3 (i' := 13) (L' := [(2, ((v0 : Nat) : Int)), (0, v1), (0, v2), (0, s.1), (0, (w32 (s.2 + 1))), j5]) (st' := []) (h' := (G, ρ, m)) hm rfl cjn ?_
        cases e
        exact hk _
    · replace e := it_n e c9
      refine Ex_if1t (c := 1) (tgt := 61) hm rfl (bt1 c9) ?_
      refine Ex_run 2 (i' := 13) (L' := [(2, ((v0 : Nat) : Int)), (0, v1), (0, v2), (0, s.1), (0, (w32 (s.2 + 1))), j5]) (st' := []) (h' := (G, ρ, m)) hm rfl cjn ?_
      cases e
      exact hk _
  · replace e := it_n e c7
    refine Ex_if2t (c := 3) (tgt := 63) hm rfl (bt3 c7) ?_
    obtain ⟨x, e, hx⟩ := xr_s e
    replace hk : (Bpi G ρ m) x rr := by rw [hx] at hk; exact hk
    refine Ex_run 1 (i' := 64) (L' := [(2, ((v0 : Nat) : Int)), (0, v1), (0, v2), (0, s.1), (0, s.2), j5]) (st' := [(0, s.1)]) (h' := (G, ρ, m)) hm rfl cjn ?_
    cases e
    cases hk
    exact Ex_ret (k := 1) hm rfl ⟨_, rfl, rfl⟩
theorem tf73 {G : Gg} {ρ : Rg} {d : Nat} {v0 : Nat} {v1 : Int} {v2 : Int} {m : Sg} {x : Int} (e : f73 G ρ v0 v1 v2 m = some x) (hd : 2 ≤ d) : Ex d 73 0 [(2, ((v0 : Nat) : Int)), (0, v1), (0, v2), (9, 0), (9, 0), (9, 0)] [] (G, ρ, m) (some (0, x), (G, ρ, m)) := by
  unfold f73 at e
  have hm := mi_73
  generalize hk : (some (0, x), (G, ρ, m)) = rr
  replace hk : (Bpi G ρ m) x rr := hk.symm
  obtain ⟨g1, e⟩ := gd_s e
  refine Ex_run 3 (i' := 3) (L' := [(2, ((v0 : Nat) : Int)), (0, v1), (0, v2), (9, 0), (9, 0), (9, 0)]) (st' := [(0, v1), (2, (((ρ v0 3) : Nat) : Int))]) (h' := (G, ρ, m)) hm rfl (cjc (gk_b g1) cjn) ?_
  obtain ⟨g2, e⟩ := gd_s e
  obtain ⟨q3, h3, e⟩ := bn_s e
  refine Ex_callm (z := 33) (na := 2) (ck := 6) (as := [(2, (((ρ v0 3) : Nat) : Int)), (0, v1)]) (rest := []) (E0 := [(2, (((ρ v0 3) : Nat) : Int)), (0, v1)]) (v := some (0, q3)) (h1 := (G, ρ, m)) hm rfl (by omega) ⟨Nat.le_of_ble_eq_true rfl, Nat.le_of_ble_eq_true rfl⟩ (rc2 rfl g2) rfl rfl ml_33 rfl (Nat.le_of_ble_eq_true rfl) (tf33 h3 (by omega)) ?_
  show Ex d 73 4 [(2, ((v0 : Nat) : Int)), (0, v1), (0, v2), (9, 0), (9, 0), (9, 0)] [(0, q3)] (G, ρ, m) rr
  refine Ex_run 3 (i' := 7) (L' := [(2, ((v0 : Nat) : Int)), (0, v1), (0, v2), (9, 0), (9, 0), (9, 0)]) (st' := [(0, v2), (2, (((ρ v0 3) : Nat) : Int)), (0, q3)]) (h' := (G, ρ, m)) hm rfl (cjc (gk_b g1) cjn) ?_
  obtain ⟨q4, h4, e⟩ := bn_s e
  refine Ex_callm (z := 33) (na := 2) (ck := 6) (as := [(2, (((ρ v0 3) : Nat) : Int)), (0, v2)]) (rest := [(0, q3)]) (E0 := [(2, (((ρ v0 3) : Nat) : Int)), (0, v2)]) (v := some (0, q4)) (h1 := (G, ρ, m)) hm rfl (by omega) ⟨Nat.le_of_ble_eq_true rfl, Nat.le_of_ble_eq_true rfl⟩ (rc2 rfl g2) rfl rfl ml_33 rfl (Nat.le_of_ble_eq_true rfl) (tf33 h4 (by omega)) ?_
  show Ex d 73 8 [(2, ((v0 : Nat) : Int)), (0, v1), (0, v2), (9, 0), (9, 0), (9, 0)] [(0, q4), (0, q3)] (G, ρ, m) rr
  refine Ex_run 1 (i' := 9) (L' := [(2, ((v0 : Nat) : Int)), (0, v1), (0, v2), (9, 0), (9, 0), (9, 0)]) (st' := [(0, (g_xor q3 q4))]) (h' := (G, ρ, m)) hm rfl cjn ?_
  obtain ⟨q5, h5, e⟩ := bn_s e
  refine Ex_callm (z := 222) (na := 1) (ck := 0) (as := [(0, (g_xor q3 q4))]) (rest := []) (E0 := [(0, (g_xor q3 q4))]) (v := some (0, q5)) (h1 := (G, ρ, m)) hm rfl (by omega) ⟨Nat.le_of_ble_eq_true rfl, Nat.le_of_ble_eq_true rfl⟩ (trivial) rfl rfl ml_222 rfl (Nat.le_of_ble_eq_true rfl) (tf222 h5 (by omega)) ?_
  show Ex d 73 10 [(2, ((v0 : Nat) : Int)), (0, v1), (0, v2), (9, 0), (9, 0), (9, 0)] [(0, q5)] (G, ρ, m) rr
  refine Ex_run 3 (i' := 13) (L' := [(2, ((v0 : Nat) : Int)), (0, v1), (0, v2), (0, q5), (0, 0), (9, 0)]) (st' := []) (h' := (G, ρ, m)) hm rfl (cjc (Nat.le_of_ble_eq_true rfl) (cjc (Nat.le_of_ble_eq_true rfl) cjn)) ?_
  exact (Ex_lp (A := e73_13 G ρ d v0 v1 v2 m ) (B := (Bpi G ρ m)) (fun s x e rr hk => tf73_b13 e hd rr hk) FU _ _ e rr hk) _
theorem tf74_b6 {G : Gg} {ρ : Rg} {d : Nat} {v0 : Nat} {v1 : Int} {m : Sg} {s : Int × Int × Int} {x : (Int × Int × Int) ⊕ (Int)} (e : f74_b6 G ρ v0 v1 m s = some x) (hd : 3 ≤ d) (rr : Option MV × Mh) (hk : (DS (e74_6 G ρ d v0 v1 m) (Bpi G ρ m)) x rr) : e74_6 G ρ d v0 v1 m s rr := by
  unfold f74_b6 at e
  have hm := mi_74
  show ∀ (j5 : MV), Ex d 74 6 [(2, ((v0 : Nat) : Int)), (0, v1), (0, s.1), (0, s.2.1), (0, s.2.2), j5] [] (G, ρ, m) rr
  intro j5
  obtain ⟨g1, e⟩ := gd_s e
  refine Ex_run 3 (i' := 9) (L' := [(2, ((v0 : Nat) : Int)), (0, v1), (0, s.1), (0, s.2.1), (0, s.2.2), j5]) (st' := [(0, (m v0 9)), (0, s.2.2)]) (h' := (G, ρ, m)) hm rfl (cjc (gk_b g1) cjn) ?_
  by_cases c2 : s.2.2 < (m v0 9)
  · replace e := it_p e c2
    refine Ex_if2f (c := 3) (tgt := 38) hm rfl (bf3 c2) ?_
    refine Ex_run 3 (i' := 13) (L' := [(2, ((v0 : Nat) : Int)), (0, v1), (0, s.1), (0, s.2.1), (0, s.2.2), j5]) (st' := [(0, s.2.2), (2, (((ρ v0 5) : Nat) : Int))]) (h' := (G, ρ, m)) hm rfl (cjc (gk_b g1) cjn) ?_
    obtain ⟨g3, e⟩ := gd_s e
    obtain ⟨q4, h4, e⟩ := bn_s e
    refine Ex_callm (z := 33) (na := 2) (ck := 6) (as := [(2, (((ρ v0 5) : Nat) : Int)), (0, s.2.2)]) (rest := []) (E0 := [(2, (((ρ v0 5) : Nat) : Int)), (0, s.2.2)]) (v := some (0, q4)) (h1 := (G, ρ, m)) hm rfl (by omega) ⟨Nat.le_of_ble_eq_true rfl, Nat.le_of_ble_eq_true rfl⟩ (rc2 rfl g3) rfl rfl ml_33 rfl (Nat.le_of_ble_eq_true rfl) (tf33 h4 (by omega)) ?_
    show Ex d 74 14 [(2, ((v0 : Nat) : Int)), (0, v1), (0, s.1), (0, s.2.1), (0, s.2.2), j5] [(0, q4)] (G, ρ, m) rr
    refine Ex_run 3 (i' := 17) (L' := [(2, ((v0 : Nat) : Int)), (0, v1), (0, s.1), (0, s.2.1), (0, s.2.2), j5]) (st' := [(0, v1), (2, (((ρ v0 5) : Nat) : Int)), (0, q4)]) (h' := (G, ρ, m)) hm rfl (cjc (gk_b g1) cjn) ?_
    obtain ⟨q5, h5, e⟩ := bn_s e
    refine Ex_callm (z := 33) (na := 2) (ck := 6) (as := [(2, (((ρ v0 5) : Nat) : Int)), (0, v1)]) (rest := [(0, q4)]) (E0 := [(2, (((ρ v0 5) : Nat) : Int)), (0, v1)]) (v := some (0, q5)) (h1 := (G, ρ, m)) hm rfl (by omega) ⟨Nat.le_of_ble_eq_true rfl, Nat.le_of_ble_eq_true rfl⟩ (rc2 rfl g3) rfl rfl ml_33 rfl (Nat.le_of_ble_eq_true rfl) (tf33 h5 (by omega)) ?_
    show Ex d 74 18 [(2, ((v0 : Nat) : Int)), (0, v1), (0, s.1), (0, s.2.1), (0, s.2.2), j5] [(0, q5), (0, q4)] (G, ρ, m) rr
    by_cases c6 : q4 < q5
    · replace e := it_p e c6
      refine Ex_if2t (c := 2) (tgt := 20) hm rfl (bt2 c6) ?_
      refine Ex_run 3 (i' := 23) (L' := [(2, ((v0 : Nat) : Int)), (0, v1), (0, s.1), (0, s.2.1), (0, s.2.2), j5]) (st' := [(0, s.2.2), (0, v1), (2, ((v0 : Nat) : Int))]) (h' := (G, ρ, m)) hm rfl cjn ?_
      obtain ⟨q7, h7, e⟩ := bn_s e
      refine Ex_callm (z := 73) (na := 3) (ck := 11) (as := [(2, ((v0 : Nat) : Int)), (0, v1), (0, s.2.2)]) (rest := []) (E0 := [(2, ((v0 : Nat) : Int)), (0, v1), (0, s.2.2), (9, 0), (9, 0), (9, 0)]) (v := some (0, q7)) (h1 := (G, ρ, m)) hm rfl (by omega) ⟨Nat.le_of_ble_eq_true rfl, Nat.le_of_ble_eq_true rfl⟩ (rc2 rfl g1) rfl rfl ml_73 rfl (Nat.le_of_ble_eq_true rfl) (tf73 h7 (by omega)) ?_
      show Ex d 74 24 [(2, ((v0 : Nat) : Int)), (0, v1), (0, s.1), (0, s.2.1), (0, s.2.2), j5] [(0, q7)] (G, ρ, m) rr
      refine Ex_run 3 (i' := 27) (L' := [(2, ((v0 : Nat) : Int)), (0, v1), (0, s.1), (0, s.2.1), (0, s.2.2), (0, q7)]) (st' := [(0, (-1)), (0, s.1)]) (h' := (G, ρ, m)) hm rfl (cjc (Nat.le_of_ble_eq_true rfl) cjn) ?_
      by_cases c8 : s.1 = (-1)
      · replace e := it_p e c8
        refine Ex_if2t (c := 0) (tgt := 32) hm rfl (bt0 c8) ?_
        refine Ex_run 6 (i' := 6) (L' := [(2, ((v0 : Nat) : Int)), (0, v1), (0, s.2.2), (0, q7), (0, (w32 (s.2.2 + 1))), (0, q7)]) (st' := []) (h' := (G, ρ, m)) hm rfl (cjc (Nat.le_of_ble_eq_true rfl) (cjc (Nat.le_of_ble_eq_true rfl) cjn)) ?_
        cases e
        exact hk _
      · replace e := it_n e c8
        refine Ex_if2f (c := 0) (tgt := 32) hm rfl (bf0 c8) ?_
        refine Ex_run 2 (i' := 30) (L' := [(2, ((v0 : Nat) : Int)), (0, v1), (0, s.1), (0, s.2.1), (0, s.2.2), (0, q7)]) (st' := [(0, s.2.1), (0, q7)]) (h' := (G, ρ, m)) hm rfl cjn ?_
        by_cases c9 : q7 < s.2.1
        · replace e := it_p e c9
          refine Ex_if2t (c := 2) (tgt := 32) hm rfl (bt2 c9) ?_
          refine Ex_run 6 (i' := 6) (L' := [(2, ((v0 : Nat) : Int)), (0, v1), (0, s.2.2), (0, q7), (0, (w32 (s.2.2 + 1))), (0, q7)]) (st' := []) (h' := (G, ρ, m)) hm rfl (cjc (Nat.le_of_ble_eq_true rfl) (cjc (Nat.le_of_ble_eq_true rfl) cjn)) ?_
          cases e
          exact hk _
        · replace e := it_n e c9
          refine Ex_if2f (c := 2) (tgt := 32) hm rfl (bf2 c9) ?_
          refine Ex_run 3 (i' := 6) (L' := [(2, ((v0 : Nat) : Int)), (0, v1), (0, s.1), (0, s.2.1), (0, (w32 (s.2.2 + 1))), (0, q7)]) (st' := []) (h' := (G, ρ, m)) hm rfl cjn ?_
          cases e
          exact hk _
    · replace e := it_n e c6
      refine Ex_if2f (c := 2) (tgt := 20) hm rfl (bf2 c6) ?_
      refine Ex_run 3 (i' := 6) (L' := [(2, ((v0 : Nat) : Int)), (0, v1), (0, s.1), (0, s.2.1), (0, (w32 (s.2.2 + 1))), j5]) (st' := []) (h' := (G, ρ, m)) hm rfl cjn ?_
      cases e
      exact hk _
  · replace e := it_n e c2
    refine Ex_if2t (c := 3) (tgt := 38) hm rfl (bt3 c2) ?_
    obtain ⟨x, e, hx⟩ := xr_s e
    replace hk : (Bpi G ρ m) x rr := by rw [hx] at hk; exact hk
    refine Ex_run 1 (i' := 39) (L' := [(2, ((v0 : Nat) : Int)), (0, v1), (0, s.1), (0, s.2.1), (0, s.2.2), j5]) (st' := [(0, s.1)]) (h' := (G, ρ, m)) hm rfl cjn ?_
    cases e
    cases hk
    exact Ex_ret (k := 1) hm rfl ⟨_, rfl, rfl⟩
theorem tf74 {G : Gg} {ρ : Rg} {d : Nat} {v0 : Nat} {v1 : Int} {m : Sg} {x : Int} (e : f74 G ρ v0 v1 m = some x) (hd : 3 ≤ d) : Ex d 74 0 [(2, ((v0 : Nat) : Int)), (0, v1), (9, 0), (9, 0), (9, 0), (9, 0)] [] (G, ρ, m) (some (0, x), (G, ρ, m)) := by
  unfold f74 at e
  have hm := mi_74
  generalize hk : (some (0, x), (G, ρ, m)) = rr
  replace hk : (Bpi G ρ m) x rr := hk.symm
  refine Ex_run 6 (i' := 6) (L' := [(2, ((v0 : Nat) : Int)), (0, v1), (0, (-1)), (0, 0), (0, 0), (9, 0)]) (st' := []) (h' := (G, ρ, m)) hm rfl (cjc (Nat.le_of_ble_eq_true rfl) (cjc (Nat.le_of_ble_eq_true rfl) (cjc (Nat.le_of_ble_eq_true rfl) cjn))) ?_
  exact (Ex_lp (A := e74_6 G ρ d v0 v1 m ) (B := (Bpi G ρ m)) (fun s x e rr hk => tf74_b6 e hd rr hk) FU _ _ e rr hk) _
theorem tf75_b4 {G : Gg} {ρ : Rg} {d : Nat} {v0 : Nat} {m : Sg} {s : Int × Int} {x : (Int × Int) ⊕ (Int)} (e : f75_b4 G ρ v0 m s = some x) (hd : 4 ≤ d) (rr : Option MV × Mh) (hk : (DS (e75_4 G ρ d v0 m) (Bpi G ρ m)) x rr) : e75_4 G ρ d v0 m s rr := by
  unfold f75_b4 at e
  have hm := mi_75
  show ∀ (j3 : MV), Ex d 75 4 [(2, ((v0 : Nat) : Int)), (0, s.1), (0, s.2), j3] [] (G, ρ, m) rr
  intro j3
  obtain ⟨g1, e⟩ := gd_s e
  refine Ex_run 3 (i' := 7) (L' := [(2, ((v0 : Nat) : Int)), (0, s.1), (0, s.2), j3]) (st' := [(0, (m v0 9)), (0, s.2)]) (h' := (G, ρ, m)) hm rfl (cjc (gk_b g1) cjn) ?_
  by_cases c2 : s.2 < (m v0 9)
  · replace e := it_p e c2
    refine Ex_if2f (c := 3) (tgt := 24) hm rfl (bf3 c2) ?_
    refine Ex_run 2 (i' := 10) (L' := [(2, ((v0 : Nat) : Int)), (0, s.1), (0, s.2), j3]) (st' := [(0, s.2), (2, ((v0 : Nat) : Int))]) (h' := (G, ρ, m)) hm rfl cjn ?_
    obtain ⟨q3, h3, e⟩ := bn_s e
    refine Ex_callm (z := 74) (na := 2) (ck := 11) (as := [(2, ((v0 : Nat) : Int)), (0, s.2)]) (rest := []) (E0 := [(2, ((v0 : Nat) : Int)), (0, s.2), (9, 0), (9, 0), (9, 0), (9, 0)]) (v := some (0, q3)) (h1 := (G, ρ, m)) hm rfl (by omega) ⟨Nat.le_of_ble_eq_true rfl, Nat.le_of_ble_eq_true rfl⟩ (rc2 rfl g1) rfl rfl ml_74 rfl (Nat.le_of_ble_eq_true rfl) (tf74 h3 (by omega)) ?_
    show Ex d 75 11 [(2, ((v0 : Nat) : Int)), (0, s.1), (0, s.2), j3] [(0, q3)] (G, ρ, m) rr
    refine Ex_run 3 (i' := 14) (L' := [(2, ((v0 : Nat) : Int)), (0, s.1), (0, s.2), (0, q3)]) (st' := [(0, (-1)), (0, q3)]) (h' := (G, ρ, m)) hm rfl (cjc (Nat.le_of_ble_eq_true rfl) cjn) ?_
    by_cases c4 : q3 = (-1)
    · replace e := it_p e c4
      refine Ex_if2t (c := 0) (tgt := 22) hm rfl (bt0 c4) ?_
      refine Ex_run 2 (i' := 4) (L' := [(2, ((v0 : Nat) : Int)), (0, s.1), (0, (w32 (s.2 + 1))), (0, q3)]) (st' := []) (h' := (G, ρ, m)) hm rfl cjn ?_
      cases e
      exact hk _
    · replace e := it_n e c4
      refine Ex_if2f (c := 0) (tgt := 22) hm rfl (bf0 c4) ?_
      refine Ex_run 4 (i' := 19) (L' := [(2, ((v0 : Nat) : Int)), (0, s.1), (0, s.2), (0, q3)]) (st' := [(0, q3), (0, s.2), (2, ((v0 : Nat) : Int)), (0, s.1)]) (h' := (G, ρ, m)) hm rfl cjn ?_
      obtain ⟨q5, h5, e⟩ := bn_s e
      refine Ex_callm (z := 73) (na := 3) (ck := 11) (as := [(2, ((v0 : Nat) : Int)), (0, s.2), (0, q3)]) (rest := [(0, s.1)]) (E0 := [(2, ((v0 : Nat) : Int)), (0, s.2), (0, q3), (9, 0), (9, 0), (9, 0)]) (v := some (0, q5)) (h1 := (G, ρ, m)) hm rfl (by omega) ⟨Nat.le_of_ble_eq_true rfl, Nat.le_of_ble_eq_true rfl⟩ (rc2 rfl g1) rfl rfl ml_73 rfl (Nat.le_of_ble_eq_true rfl) (tf73 h5 (by omega)) ?_
      show Ex d 75 20 [(2, ((v0 : Nat) : Int)), (0, s.1), (0, s.2), (0, q3)] [(0, q5), (0, s.1)] (G, ρ, m) rr
      refine Ex_run 4 (i' := 4) (L' := [(2, ((v0 : Nat) : Int)), (0, (g_add s.1 q5)), (0, (w32 (s.2 + 1))), (0, q3)]) (st' := []) (h' := (G, ρ, m)) hm rfl (cjc (Nat.le_of_ble_eq_true rfl) cjn) ?_
      cases e
      exact hk _
  · replace e := it_n e c2
    refine Ex_if2t (c := 3) (tgt := 24) hm rfl (bt3 c2) ?_
    obtain ⟨x, e, hx⟩ := xr_s e
    replace hk : (Bpi G ρ m) x rr := by rw [hx] at hk; exact hk
    refine Ex_run 1 (i' := 25) (L' := [(2, ((v0 : Nat) : Int)), (0, s.1), (0, s.2), j3]) (st' := [(0, s.1)]) (h' := (G, ρ, m)) hm rfl cjn ?_
    cases e
    cases hk
    exact Ex_ret (k := 1) hm rfl ⟨_, rfl, rfl⟩
theorem tf75 {G : Gg} {ρ : Rg} {d : Nat} {v0 : Nat} {m : Sg} {x : Int} (e : f75 G ρ v0 m = some x) (hd : 4 ≤ d) : Ex d 75 0 [(2, ((v0 : Nat) : Int)), (9, 0), (9, 0), (9, 0)] [] (G, ρ, m) (some (0, x), (G, ρ, m)) := by
  unfold f75 at e
  have hm := mi_75
  generalize hk : (some (0, x), (G, ρ, m)) = rr
  replace hk : (Bpi G ρ m) x rr := hk.symm
  refine Ex_run 4 (i' := 4) (L' := [(2, ((v0 : Nat) : Int)), (0, 0), (0, 0), (9, 0)]) (st' := []) (h' := (G, ρ, m)) hm rfl (cjc (Nat.le_of_ble_eq_true rfl) (cjc (Nat.le_of_ble_eq_true rfl) cjn)) ?_
  exact (Ex_lp (A := e75_4 G ρ d v0 m ) (B := (Bpi G ρ m)) (fun s x e rr hk => tf75_b4 e hd rr hk) FU _ _ e rr hk) _
theorem tf76_b4 {G : Gg} {ρ : Rg} {d : Nat} {v0 : Nat} {m : Sg} {s : Int × Int} {x : (Int × Int) ⊕ (Int)} (e : f76_b4 G ρ v0 m s = some x) (hd : 4 ≤ d) (rr : Option MV × Mh) (hk : (DS (e76_4 G ρ d v0 m) (Bpi G ρ m)) x rr) : e76_4 G ρ d v0 m s rr := by
  unfold f76_b4 at e
  have hm := mi_76
  show ∀ (j3 : MV), Ex d 76 4 [(2, ((v0 : Nat) : Int)), (0, s.1), (0, s.2), j3] [] (G, ρ, m) rr
  intro j3
  obtain ⟨g1, e⟩ := gd_s e
  refine Ex_run 3 (i' := 7) (L' := [(2, ((v0 : Nat) : Int)), (0, s.1), (0, s.2), j3]) (st' := [(0, (m v0 9)), (0, s.2)]) (h' := (G, ρ, m)) hm rfl (cjc (gk_b g1) cjn) ?_
  by_cases c2 : s.2 < (m v0 9)
  · replace e := it_p e c2
    refine Ex_if2f (c := 3) (tgt := 27) hm rfl (bf3 c2) ?_
    refine Ex_run 2 (i' := 10) (L' := [(2, ((v0 : Nat) : Int)), (0, s.1), (0, s.2), j3]) (st' := [(0, s.2), (2, ((v0 : Nat) : Int))]) (h' := (G, ρ, m)) hm rfl cjn ?_
    obtain ⟨q3, h3, e⟩ := bn_s e
    refine Ex_callm (z := 74) (na := 2) (ck := 11) (as := [(2, ((v0 : Nat) : Int)), (0, s.2)]) (rest := []) (E0 := [(2, ((v0 : Nat) : Int)), (0, s.2), (9, 0), (9, 0), (9, 0), (9, 0)]) (v := some (0, q3)) (h1 := (G, ρ, m)) hm rfl (by omega) ⟨Nat.le_of_ble_eq_true rfl, Nat.le_of_ble_eq_true rfl⟩ (rc2 rfl g1) rfl rfl ml_74 rfl (Nat.le_of_ble_eq_true rfl) (tf74 h3 (by omega)) ?_
    show Ex d 76 11 [(2, ((v0 : Nat) : Int)), (0, s.1), (0, s.2), j3] [(0, q3)] (G, ρ, m) rr
    refine Ex_run 3 (i' := 14) (L' := [(2, ((v0 : Nat) : Int)), (0, s.1), (0, s.2), (0, q3)]) (st' := [(0, (-1)), (0, q3)]) (h' := (G, ρ, m)) hm rfl (cjc (Nat.le_of_ble_eq_true rfl) cjn) ?_
    by_cases c4 : q3 = (-1)
    · replace e := it_p e c4
      refine Ex_if2t (c := 0) (tgt := 25) hm rfl (bt0 c4) ?_
      refine Ex_run 2 (i' := 4) (L' := [(2, ((v0 : Nat) : Int)), (0, s.1), (0, (w32 (s.2 + 1))), (0, q3)]) (st' := []) (h' := (G, ρ, m)) hm rfl cjn ?_
      cases e
      exact hk _
    · replace e := it_n e c4
      refine Ex_if2f (c := 0) (tgt := 25) hm rfl (bf0 c4) ?_
      refine Ex_run 3 (i' := 18) (L' := [(2, ((v0 : Nat) : Int)), (0, s.1), (0, s.2), (0, q3)]) (st' := [(0, q3), (2, (((ρ v0 6) : Nat) : Int))]) (h' := (G, ρ, m)) hm rfl (cjc (gk_b g1) cjn) ?_
      obtain ⟨g5, e⟩ := gd_s e
      obtain ⟨q6, h6, e⟩ := bn_s e
      refine Ex_callm (z := 33) (na := 2) (ck := 6) (as := [(2, (((ρ v0 6) : Nat) : Int)), (0, q3)]) (rest := []) (E0 := [(2, (((ρ v0 6) : Nat) : Int)), (0, q3)]) (v := some (0, q6)) (h1 := (G, ρ, m)) hm rfl (by omega) ⟨Nat.le_of_ble_eq_true rfl, Nat.le_of_ble_eq_true rfl⟩ (rc2 rfl g5) rfl rfl ml_33 rfl (Nat.le_of_ble_eq_true rfl) (tf33 h6 (by omega)) ?_
      show Ex d 76 19 [(2, ((v0 : Nat) : Int)), (0, s.1), (0, s.2), (0, q3)] [(0, q6)] (G, ρ, m) rr
      refine Ex_run 3 (i' := 22) (L' := [(2, ((v0 : Nat) : Int)), (0, s.1), (0, s.2), (0, q3)]) (st' := [(0, s.2), (2, (((ρ v0 6) : Nat) : Int)), (0, q6)]) (h' := (G, ρ, m)) hm rfl (cjc (gk_b g1) cjn) ?_
      obtain ⟨q7, h7, e⟩ := bn_s e
      refine Ex_callm (z := 33) (na := 2) (ck := 6) (as := [(2, (((ρ v0 6) : Nat) : Int)), (0, s.2)]) (rest := [(0, q6)]) (E0 := [(2, (((ρ v0 6) : Nat) : Int)), (0, s.2)]) (v := some (0, q7)) (h1 := (G, ρ, m)) hm rfl (by omega) ⟨Nat.le_of_ble_eq_true rfl, Nat.le_of_ble_eq_true rfl⟩ (rc2 rfl g5) rfl rfl ml_33 rfl (Nat.le_of_ble_eq_true rfl) (tf33 h7 (by omega)) ?_
      show Ex d 76 23 [(2, ((v0 : Nat) : Int)), (0, s.1), (0, s.2), (0, q3)] [(0, q7), (0, q6)] (G, ρ, m) rr
      by_cases c8 : q6 = q7
      · replace e := it_p e c8
        refine Ex_if2t (c := 0) (tgt := 25) hm rfl (bt0 c8) ?_
        refine Ex_run 2 (i' := 4) (L' := [(2, ((v0 : Nat) : Int)), (0, s.1), (0, (w32 (s.2 + 1))), (0, q3)]) (st' := []) (h' := (G, ρ, m)) hm rfl cjn ?_
        cases e
        exact hk _
      · replace e := it_n e c8
        refine Ex_if2f (c := 0) (tgt := 25) hm rfl (bf0 c8) ?_
        refine Ex_run 3 (i' := 4) (L' := [(2, ((v0 : Nat) : Int)), (0, (w32 (s.1 + 1))), (0, (w32 (s.2 + 1))), (0, q3)]) (st' := []) (h' := (G, ρ, m)) hm rfl cjn ?_
        cases e
        exact hk _
  · replace e := it_n e c2
    refine Ex_if2t (c := 3) (tgt := 27) hm rfl (bt3 c2) ?_
    obtain ⟨x, e, hx⟩ := xr_s e
    replace hk : (Bpi G ρ m) x rr := by rw [hx] at hk; exact hk
    refine Ex_run 1 (i' := 28) (L' := [(2, ((v0 : Nat) : Int)), (0, s.1), (0, s.2), j3]) (st' := [(0, s.1)]) (h' := (G, ρ, m)) hm rfl cjn ?_
    cases e
    cases hk
    exact Ex_ret (k := 1) hm rfl ⟨_, rfl, rfl⟩
theorem tf76 {G : Gg} {ρ : Rg} {d : Nat} {v0 : Nat} {m : Sg} {x : Int} (e : f76 G ρ v0 m = some x) (hd : 4 ≤ d) : Ex d 76 0 [(2, ((v0 : Nat) : Int)), (9, 0), (9, 0), (9, 0)] [] (G, ρ, m) (some (0, x), (G, ρ, m)) := by
  unfold f76 at e
  have hm := mi_76
  generalize hk : (some (0, x), (G, ρ, m)) = rr
  replace hk : (Bpi G ρ m) x rr := hk.symm
  refine Ex_run 4 (i' := 4) (L' := [(2, ((v0 : Nat) : Int)), (0, 0), (0, 0), (9, 0)]) (st' := []) (h' := (G, ρ, m)) hm rfl (cjc (Nat.le_of_ble_eq_true rfl) (cjc (Nat.le_of_ble_eq_true rfl) cjn)) ?_
  exact (Ex_lp (A := e76_4 G ρ d v0 m ) (B := (Bpi G ρ m)) (fun s x e rr hk => tf76_b4 e hd rr hk) FU _ _ e rr hk) _
theorem tf77_b4 {G : Gg} {ρ : Rg} {d : Nat} {v0 : Nat} {m : Sg} {s : Int × Int} {x : (Int × Int) ⊕ (Int)} (e : f77_b4 G ρ v0 m s = some x) (hd : 4 ≤ d) (rr : Option MV × Mh) (hk : (DS (e77_4 G ρ d v0 m) (Bpi G ρ m)) x rr) : e77_4 G ρ d v0 m s rr := by
  unfold f77_b4 at e
  have hm := mi_77
  show Ex d 77 4 [(2, ((v0 : Nat) : Int)), (0, s.1), (0, s.2)] [] (G, ρ, m) rr
  obtain ⟨g1, e⟩ := gd_s e
  refine Ex_run 3 (i' := 7) (L' := [(2, ((v0 : Nat) : Int)), (0, s.1), (0, s.2)]) (st' := [(0, (m v0 9)), (0, s.2)]) (h' := (G, ρ, m)) hm rfl (cjc (gk_b g1) cjn) ?_
  by_cases c2 : s.2 < (m v0 9)
  · replace e := it_p e c2
    refine Ex_if2f (c := 3) (tgt := 16) hm rfl (bf3 c2) ?_
    refine Ex_run 2 (i' := 10) (L' := [(2, ((v0 : Nat) : Int)), (0, s.1), (0, s.2)]) (st' := [(0, s.2), (2, ((v0 : Nat) : Int))]) (h' := (G, ρ, m)) hm rfl cjn ?_
    obtain ⟨q3, h3, e⟩ := bn_s e
    refine Ex_callm (z := 74) (na := 2) (ck := 11) (as := [(2, ((v0 : Nat) : Int)), (0, s.2)]) (rest := []) (E0 := [(2, ((v0 : Nat) : Int)), (0, s.2), (9, 0), (9, 0), (9, 0), (9, 0)]) (v := some (0, q3)) (h1 := (G, ρ, m)) hm rfl (by omega) ⟨Nat.le_of_ble_eq_true rfl, Nat.le_of_ble_eq_true rfl⟩ (rc2 rfl g1) rfl rfl ml_74 rfl (Nat.le_of_ble_eq_true rfl) (tf74 h3 (by omega)) ?_
    show Ex d 77 11 [(2, ((v0 : Nat) : Int)), (0, s.1), (0, s.2)] [(0, q3)] (G, ρ, m) rr
    refine Ex_run 1 (i' := 12) (L' := [(2, ((v0 : Nat) : Int)), (0, s.1), (0, s.2)]) (st' := [(0, (-1)), (0, q3)]) (h' := (G, ρ, m)) hm rfl cjn ?_
    by_cases c4 : q3 = (-1)
    · replace e := it_p e c4
      refine Ex_if2f (c := 1) (tgt := 14) hm rfl (bf1 c4) ?_
      refine Ex_run 3 (i' := 4) (L' := [(2, ((v0 : Nat) : Int)), (0, (w32 (s.1 + 1))), (0, (w32 (s.2 + 1)))]) (st' := []) (h' := (G, ρ, m)) hm rfl cjn ?_
      cases e
      exact hk
    · replace e := it_n e c4
      refine Ex_if2t (c := 1) (tgt := 14) hm rfl (bt1 c4) ?_
      refine Ex_run 2 (i' := 4) (L' := [(2, ((v0 : Nat) : Int)), (0, s.1), (0, (w32 (s.2 + 1)))]) (st' := []) (h' := (G, ρ, m)) hm rfl cjn ?_
      cases e
      exact hk
  · replace e := it_n e c2
    refine Ex_if2t (c := 3) (tgt := 16) hm rfl (bt3 c2) ?_
    obtain ⟨x, e, hx⟩ := xr_s e
    replace hk : (Bpi G ρ m) x rr := by rw [hx] at hk; exact hk
    refine Ex_run 1 (i' := 17) (L' := [(2, ((v0 : Nat) : Int)), (0, s.1), (0, s.2)]) (st' := [(0, s.1)]) (h' := (G, ρ, m)) hm rfl cjn ?_
    cases e
    cases hk
    exact Ex_ret (k := 1) hm rfl ⟨_, rfl, rfl⟩
