theorem tf123 {G : Gg} {ρ : Rg} {d : Nat} {v0 : Nat} {v1 : Int} {m : Sg} {x : Int} (e : f123 G ρ v0 v1 m = some x) (hd : 1 ≤ d) : Ex d 123 0 [(2, ((v0 : Nat) : Int)), (0, v1)] [] (G, ρ, m) (some (0, x), (G, ρ, m)) := by
  unfold f123 at e
  have hm := mi_123
  generalize hk : (some (0, x), (G, ρ, m)) = rr
  replace hk : (Bpi G ρ m) x rr := hk.symm
  refine Ex_run 1 (i' := 1) (L' := [(2, ((v0 : Nat) : Int)), (0, v1)]) (st' := [(0, v1)]) (h' := (G, ρ, m)) hm rfl cjn ?_
  obtain ⟨q1, h1, e⟩ := bn_s e
  refine Ex_callm (z := 135) (na := 1) (ck := 0) (as := [(0, v1)]) (rest := []) (E0 := [(0, v1)]) (v := some (0, q1)) (h1 := (G, ρ, m)) hm rfl (by omega) ⟨Nat.le_of_ble_eq_true rfl, Nat.le_of_ble_eq_true rfl⟩ (trivial) rfl rfl ml_135 rfl (Nat.le_of_ble_eq_true rfl) (tf135 h1 (by omega)) ?_
  show Ex d 123 2 [(2, ((v0 : Nat) : Int)), (0, v1)] [(0, q1)] (G, ρ, m) rr
  by_cases c2 : q1 = 0
  · replace e := it_p e c2
    refine Ex_if1t (c := 0) (tgt := 8) hm rfl (bt0 c2) ?_
    refine Ex_run 1 (i' := 9) (L' := [(2, ((v0 : Nat) : Int)), (0, v1)]) (st' := [(0, (-2))]) (h' := (G, ρ, m)) hm rfl cjn ?_
    cases e
    cases hk
    exact Ex_ret (k := 1) hm rfl ⟨_, rfl, rfl⟩
  · replace e := it_n e c2
    refine Ex_if1f (c := 0) (tgt := 8) hm rfl (bf0 c2) ?_
    obtain ⟨g3, e⟩ := gd_s e
    refine Ex_run 3 (i' := 6) (L' := [(2, ((v0 : Nat) : Int)), (0, v1)]) (st' := [(0, v1), (2, (((ρ v0 11) : Nat) : Int))]) (h' := (G, ρ, m)) hm rfl (cjc (gk_b g3) cjn) ?_
    obtain ⟨g4, e⟩ := gd_s e
    obtain ⟨q5, h5, e⟩ := bn_s e
    refine Ex_callm (z := 33) (na := 2) (ck := 6) (as := [(2, (((ρ v0 11) : Nat) : Int)), (0, v1)]) (rest := []) (E0 := [(2, (((ρ v0 11) : Nat) : Int)), (0, v1)]) (v := some (0, q5)) (h1 := (G, ρ, m)) hm rfl (by omega) ⟨Nat.le_of_ble_eq_true rfl, Nat.le_of_ble_eq_true rfl⟩ (rc2 rfl g4) rfl rfl ml_33 rfl (Nat.le_of_ble_eq_true rfl) (tf33 h5 (by omega)) ?_
    show Ex d 123 7 [(2, ((v0 : Nat) : Int)), (0, v1)] [(0, q5)] (G, ρ, m) rr
    refine Ex_run 1 (i' := 9) (L' := [(2, ((v0 : Nat) : Int)), (0, v1)]) (st' := [(0, q5)]) (h' := (G, ρ, m)) hm rfl cjn ?_
    cases e
    cases hk
    exact Ex_ret (k := 1) hm rfl ⟨_, rfl, rfl⟩
theorem tf124 {G : Gg} {ρ : Rg} {d : Nat} {v0 : Nat} {v1 : Int} {m : Sg} {x : Int} (e : f124 G ρ v0 v1 m = some x) (hd : 2 ≤ d) : Ex d 124 0 [(2, ((v0 : Nat) : Int)), (0, v1)] [] (G, ρ, m) (some (0, x), (G, ρ, m)) := by
  unfold f124 at e
  have hm := mi_124
  generalize hk : (some (0, x), (G, ρ, m)) = rr
  replace hk : (Bpi G ρ m) x rr := hk.symm
  refine Ex_run 1 (i' := 1) (L' := [(2, ((v0 : Nat) : Int)), (0, v1)]) (st' := [(0, v1)]) (h' := (G, ρ, m)) hm rfl cjn ?_
  by_cases c1 : v1 = 0
  · replace e := it_p e c1
    refine Ex_sw (lo := 0) (tg := [2, 6, 10, 14, 18, 22, 25, 28]) (df := 32) hm rfl 0 rfl c1 ?_
    obtain ⟨g2, e⟩ := gd_s e
    obtain ⟨g3, e⟩ := gd_s e
    refine Ex_run 3 (i' := 5) (L' := [(2, ((v0 : Nat) : Int)), (0, v1)]) (st' := [(0, (m (ρ v0 0) 0))]) (h' := (G, ρ, m)) hm rfl (cjc (gk_b g2) (cjc (gk_b g3) cjn)) ?_
    cases e
    cases hk
    exact Ex_ret (k := 1) hm rfl ⟨_, rfl, rfl⟩
  · replace e := it_n e c1
    by_cases c4 : v1 = 1
    · replace e := it_p e c4
      refine Ex_sw (lo := 0) (tg := [2, 6, 10, 14, 18, 22, 25, 28]) (df := 32) hm rfl 1 rfl c4 ?_
      obtain ⟨g5, e⟩ := gd_s e
      obtain ⟨g6, e⟩ := gd_s e
      refine Ex_run 3 (i' := 9) (L' := [(2, ((v0 : Nat) : Int)), (0, v1)]) (st' := [(0, (m (ρ v0 0) 3))]) (h' := (G, ρ, m)) hm rfl (cjc (gk_b g5) (cjc (gk_b g6) cjn)) ?_
      cases e
      cases hk
      exact Ex_ret (k := 1) hm rfl ⟨_, rfl, rfl⟩
    · replace e := it_n e c4
      by_cases c7 : v1 = 2
      · replace e := it_p e c7
        refine Ex_sw (lo := 0) (tg := [2, 6, 10, 14, 18, 22, 25, 28]) (df := 32) hm rfl 2 rfl c7 ?_
        obtain ⟨g8, e⟩ := gd_s e
        obtain ⟨g9, e⟩ := gd_s e
        refine Ex_run 3 (i' := 13) (L' := [(2, ((v0 : Nat) : Int)), (0, v1)]) (st' := [(0, (m (ρ v0 4) 9))]) (h' := (G, ρ, m)) hm rfl (cjc (gk_b g8) (cjc (gk_b g9) cjn)) ?_
        cases e
        cases hk
        exact Ex_ret (k := 1) hm rfl ⟨_, rfl, rfl⟩
      · replace e := it_n e c7
        by_cases c10 : v1 = 3
        · replace e := it_p e c10
          refine Ex_sw (lo := 0) (tg := [2, 6, 10, 14, 18, 22, 25, 28]) (df := 32) hm rfl 3 rfl c10 ?_
          obtain ⟨g11, e⟩ := gd_s e
          obtain ⟨g12, e⟩ := gd_s e
          refine Ex_run 3 (i' := 17) (L' := [(2, ((v0 : Nat) : Int)), (0, v1)]) (st' := [(0, (m (ρ v0 8) 5))]) (h' := (G, ρ, m)) hm rfl (cjc (gk_b g11) (cjc (gk_b g12) cjn)) ?_
          cases e
          cases hk
          exact Ex_ret (k := 1) hm rfl ⟨_, rfl, rfl⟩
        · replace e := it_n e c10
          by_cases c13 : v1 = 4
          · replace e := it_p e c13
            refine Ex_sw (lo := 0) (tg := [2, 6, 10, 14, 18, 22, 25, 28]) (df := 32) hm rfl 4 rfl c13 ?_
            obtain ⟨g14, e⟩ := gd_s e
            obtain ⟨g15, e⟩ := gd_s e
            refine Ex_run 3 (i' := 21) (L' := [(2, ((v0 : Nat) : Int)), (0, v1)]) (st' := [(0, (m (ρ v0 7) 1))]) (h' := (G, ρ, m)) hm rfl (cjc (gk_b g14) (cjc (gk_b g15) cjn)) ?_
            cases e
            cases hk
            exact Ex_ret (k := 1) hm rfl ⟨_, rfl, rfl⟩
          · replace e := it_n e c13
            by_cases c16 : v1 = 5
            · replace e := it_p e c16
              refine Ex_sw (lo := 0) (tg := [2, 6, 10, 14, 18, 22, 25, 28]) (df := 32) hm rfl 5 rfl c16 ?_
              obtain ⟨g17, e⟩ := gd_s e
              refine Ex_run 2 (i' := 24) (L' := [(2, ((v0 : Nat) : Int)), (0, v1)]) (st' := [(0, (m v0 14))]) (h' := (G, ρ, m)) hm rfl (cjc (gk_b g17) cjn) ?_
              cases e
              cases hk
              exact Ex_ret (k := 1) hm rfl ⟨_, rfl, rfl⟩
            · replace e := it_n e c16
              by_cases c18 : v1 = 6
              · replace e := it_p e c18
                refine Ex_sw (lo := 0) (tg := [2, 6, 10, 14, 18, 22, 25, 28]) (df := 32) hm rfl 6 rfl c18 ?_
                obtain ⟨g19, e⟩ := gd_s e
                refine Ex_run 2 (i' := 27) (L' := [(2, ((v0 : Nat) : Int)), (0, v1)]) (st' := [(0, (m v0 13))]) (h' := (G, ρ, m)) hm rfl (cjc (gk_b g19) cjn) ?_
                cases e
                cases hk
                exact Ex_ret (k := 1) hm rfl ⟨_, rfl, rfl⟩
              · replace e := it_n e c18
                by_cases c20 : v1 = 7
                · replace e := it_p e c20
                  refine Ex_sw (lo := 0) (tg := [2, 6, 10, 14, 18, 22, 25, 28]) (df := 32) hm rfl 7 rfl c20 ?_
                  obtain ⟨g21, e⟩ := gd_s e
                  refine Ex_run 2 (i' := 30) (L' := [(2, ((v0 : Nat) : Int)), (0, v1)]) (st' := [(2, (((ρ v0 9) : Nat) : Int))]) (h' := (G, ρ, m)) hm rfl (cjc (gk_b g21) cjn) ?_
                  obtain ⟨g22, e⟩ := gd_s e
                  obtain ⟨q23, h23, e⟩ := bn_s e
                  refine Ex_callm (z := 57) (na := 1) (ck := 9) (as := [(2, (((ρ v0 9) : Nat) : Int))]) (rest := []) (E0 := [(2, (((ρ v0 9) : Nat) : Int)), (9, 0), (9, 0)]) (v := some (0, q23)) (h1 := (G, ρ, m)) hm rfl (by omega) ⟨Nat.le_of_ble_eq_true rfl, Nat.le_of_ble_eq_true rfl⟩ (rc2 rfl g22) rfl rfl ml_57 rfl (Nat.le_of_ble_eq_true rfl) (tf57 h23 (by omega)) ?_
                  show Ex d 124 31 [(2, ((v0 : Nat) : Int)), (0, v1)] [(0, q23)] (G, ρ, m) rr
                  cases e
                  cases hk
                  exact Ex_ret (k := 1) hm rfl ⟨_, rfl, rfl⟩
                · replace e := it_n e c20
                  refine Ex_swd (lo := 0) (tg := [2, 6, 10, 14, 18, 22, 25, 28]) (df := 32) hm rfl (swk_d ⟨Or.inr c1, Or.inr c4, Or.inr c7, Or.inr c10, Or.inr c13, Or.inr c16, Or.inr c18, Or.inr c20, trivial⟩) ?_
                  refine Ex_run 1 (i' := 33) (L' := [(2, ((v0 : Nat) : Int)), (0, v1)]) (st' := [(0, (-2))]) (h' := (G, ρ, m)) hm rfl cjn ?_
                  cases e
                  cases hk
                  exact Ex_ret (k := 1) hm rfl ⟨_, rfl, rfl⟩
theorem tf136 {G : Gg} {ρ : Rg} {d : Nat} {v0 : Int} {m : Sg} {x : Int} (e : f136 G ρ v0 m = some x) (hd : 0 ≤ d) : Ex d 136 0 [(0, v0)] [] (G, ρ, m) (some (0, x), (G, ρ, m)) := by
  unfold f136 at e
  have hm := mi_136
  generalize hk : (some (0, x), (G, ρ, m)) = rr
  replace hk : (Bpi G ρ m) x rr := hk.symm
  refine Ex_run 1 (i' := 1) (L' := [(0, v0)]) (st' := [(0, v0)]) (h' := (G, ρ, m)) hm rfl cjn ?_
  by_cases c1 : v0 < 0
  · replace e := it_p e c1
    refine Ex_if1t (c := 2) (tgt := 7) hm rfl (bt2 c1) ?_
    refine Ex_run 1 (i' := 8) (L' := [(0, v0)]) (st' := [(0, 0)]) (h' := (G, ρ, m)) hm rfl cjn ?_
    cases e
    cases hk
    exact Ex_ret (k := 2) hm rfl ⟨_, rfl, by decide, rfl⟩
  · replace e := it_n e c1
    refine Ex_if1f (c := 2) (tgt := 7) hm rfl (bf2 c1) ?_
    refine Ex_run 2 (i' := 4) (L' := [(0, v0)]) (st' := [(0, 4), (0, v0)]) (h' := (G, ρ, m)) hm rfl cjn ?_
    by_cases c2 : v0 < 4
    · replace e := it_p e c2
      refine Ex_if2f (c := 3) (tgt := 7) hm rfl (bf3 c2) ?_
      refine Ex_run 2 (i' := 8) (L' := [(0, v0)]) (st' := [(0, 1)]) (h' := (G, ρ, m)) hm rfl cjn ?_
      cases e
      cases hk
      exact Ex_ret (k := 2) hm rfl ⟨_, rfl, by decide, rfl⟩
    · replace e := it_n e c2
      refine Ex_if2t (c := 3) (tgt := 7) hm rfl (bt3 c2) ?_
      refine Ex_run 1 (i' := 8) (L' := [(0, v0)]) (st' := [(0, 0)]) (h' := (G, ρ, m)) hm rfl cjn ?_
      cases e
      cases hk
      exact Ex_ret (k := 2) hm rfl ⟨_, rfl, by decide, rfl⟩
theorem tf137 {G : Gg} {ρ : Rg} {d : Nat} {v0 : Int} {m : Sg} {x : Int} (e : f137 G ρ v0 m = some x) (hd : 0 ≤ d) : Ex d 137 0 [(0, v0)] [] (G, ρ, m) (some (0, x), (G, ρ, m)) := by
  unfold f137 at e
  have hm := mi_137
  generalize hk : (some (0, x), (G, ρ, m)) = rr
  replace hk : (Bpi G ρ m) x rr := hk.symm
  refine Ex_run 1 (i' := 1) (L' := [(0, v0)]) (st' := [(0, v0)]) (h' := (G, ρ, m)) hm rfl cjn ?_
  by_cases c1 : v0 < 0
  · replace e := it_p e c1
    refine Ex_if1t (c := 2) (tgt := 7) hm rfl (bt2 c1) ?_
    refine Ex_run 1 (i' := 8) (L' := [(0, v0)]) (st' := [(0, 0)]) (h' := (G, ρ, m)) hm rfl cjn ?_
    cases e
    cases hk
    exact Ex_ret (k := 2) hm rfl ⟨_, rfl, by decide, rfl⟩
  · replace e := it_n e c1
    refine Ex_if1f (c := 2) (tgt := 7) hm rfl (bf2 c1) ?_
    refine Ex_run 2 (i' := 4) (L' := [(0, v0)]) (st' := [(0, 2), (0, v0)]) (h' := (G, ρ, m)) hm rfl cjn ?_
    by_cases c2 : 2 < v0
    · replace e := it_p e c2
      refine Ex_if2t (c := 4) (tgt := 7) hm rfl (bt4 c2) ?_
      refine Ex_run 1 (i' := 8) (L' := [(0, v0)]) (st' := [(0, 0)]) (h' := (G, ρ, m)) hm rfl cjn ?_
      cases e
      cases hk
      exact Ex_ret (k := 2) hm rfl ⟨_, rfl, by decide, rfl⟩
    · replace e := it_n e c2
      refine Ex_if2f (c := 4) (tgt := 7) hm rfl (bf4 c2) ?_
      refine Ex_run 2 (i' := 8) (L' := [(0, v0)]) (st' := [(0, 1)]) (h' := (G, ρ, m)) hm rfl cjn ?_
      cases e
      cases hk
      exact Ex_ret (k := 2) hm rfl ⟨_, rfl, by decide, rfl⟩
theorem tf125_36 {G : Gg} {ρ : Rg} {d : Nat} {w0 : Int} {w1 : Int} {w2 : Int} {w3 : Nat} {m : Sg} {x : Int × Sg} (e : f125_36 G ρ w0 w1 w2 w3 m = some x) (hd : 2 ≤ d) (rr : Option MV × Mh) (hk : (Bi G ρ) x rr) (j0 : Nat) (j1 : Int) (j2 : Int) (j3 : Int) : Ex d 125 36 [(2, ((j0 : Nat) : Int)), (0, j1), (0, j2), (0, j3)] [(0, w0), (0, w1), (0, w2), (2, ((w3 : Nat) : Int))] (G, ρ, m) rr := by
  unfold f125_36 at e
  have hm := mi_125
  obtain ⟨g8, e⟩ := gd_s e
  obtain ⟨q9, h9, e⟩ := bn_s e
  refine Ex_callm (z := 49) (na := 4) (ck := 8) (as := [(2, ((w3 : Nat) : Int)), (0, w2), (0, w1), (0, w0)]) (rest := []) (E0 := [(2, ((w3 : Nat) : Int)), (0, w2), (0, w1), (0, w0), (9, 0)]) (v := none) (h1 := (G, ρ, q9)) hm rfl (by omega) ⟨Nat.le_of_ble_eq_true rfl, Nat.le_of_ble_eq_true rfl⟩ (rc2 rfl g8) rfl rfl ml_49 rfl (Nat.le_of_ble_eq_true rfl) (tf49 h9 (by omega)) ?_
  show Ex d 125 37 [(2, ((j0 : Nat) : Int)), (0, j1), (0, j2), (0, j3)] [] (G, ρ, q9) rr
  refine Ex_run 1 (i' := 38) (L' := [(2, ((j0 : Nat) : Int)), (0, j1), (0, j2), (0, j3)]) (st' := [(0, 1)]) (h' := (G, ρ, q9)) hm rfl cjn ?_
  cases e
  cases hk
  exact Ex_ret (k := 1) hm rfl ⟨_, rfl, rfl⟩
theorem tf125_26 {G : Gg} {ρ : Rg} {d : Nat} {v0 : Nat} {v1 : Int} {v2 : Int} {v3 : Int} {m : Sg} {x : Int × Sg} (e : f125_26 G ρ v0 v1 v2 v3 m = some x) (hd : 2 ≤ d) (rr : Option MV × Mh) (hk : (Bi G ρ) x rr) : Ex d 125 26 [(2, ((v0 : Nat) : Int)), (0, v1), (0, v2), (0, v3)] [] (G, ρ, m) rr := by
  unfold f125_26 at e
  have hm := mi_125
  obtain ⟨g6, e⟩ := gd_s e
  refine Ex_run 6 (i' := 32) (L' := [(2, ((v0 : Nat) : Int)), (0, v1), (0, v2), (0, v3)]) (st' := [(0, (-1)), (0, v2), (0, v2), (0, v1), (2, (((ρ v0 10) : Nat) : Int))]) (h' := (G, ρ, m)) hm rfl (cjc (gk_b g6) cjn) ?_
  by_cases c7 : v2 = (-1)
  · replace e := it_p e c7
    refine Ex_if2f (c := 1) (tgt := 35) hm rfl (bf1 c7) ?_
    refine Ex_run 2 (i' := 36) (L' := [(2, ((v0 : Nat) : Int)), (0, v1), (0, v2), (0, v3)]) (st' := [(0, 0), (0, v2), (0, v1), (2, (((ρ v0 10) : Nat) : Int))]) (h' := (G, ρ, m)) hm rfl cjn ?_
    exact tf125_36 e hd rr hk _ _ _ _
  · replace e := it_n e c7
    refine Ex_if2t (c := 1) (tgt := 35) hm rfl (bt1 c7) ?_
    refine Ex_run 1 (i' := 36) (L' := [(2, ((v0 : Nat) : Int)), (0, v1), (0, v2), (0, v3)]) (st' := [(0, v3), (0, v2), (0, v1), (2, (((ρ v0 10) : Nat) : Int))]) (h' := (G, ρ, m)) hm rfl cjn ?_
    exact tf125_36 e hd rr hk _ _ _ _
theorem tf125_19 {G : Gg} {ρ : Rg} {d : Nat} {v0 : Nat} {v1 : Int} {v2 : Int} {v3 : Int} {m : Sg} {x : Int × Sg} (e : f125_19 G ρ v0 v1 v2 v3 m = some x) (hd : 2 ≤ d) (rr : Option MV × Mh) (hk : (Bi G ρ) x rr) : Ex d 125 19 [(2, ((v0 : Nat) : Int)), (0, v1), (0, v2), (0, v3)] [] (G, ρ, m) rr := by
  unfold f125_19 at e
  have hm := mi_125
  refine Ex_run 2 (i' := 21) (L' := [(2, ((v0 : Nat) : Int)), (0, v1), (0, v2), (0, v3)]) (st' := [(0, (-1)), (0, v2)]) (h' := (G, ρ, m)) hm rfl cjn ?_
  by_cases c5 : v2 = (-1)
  · replace e := it_p e c5
    refine Ex_if2t (c := 0) (tgt := 26) hm rfl (bt0 c5) ?_
    exact tf125_26 e hd rr hk
  · replace e := it_n e c5
    refine Ex_if2f (c := 0) (tgt := 26) hm rfl (bf0 c5) ?_
    refine Ex_run 1 (i' := 23) (L' := [(2, ((v0 : Nat) : Int)), (0, v1), (0, v2), (0, v3)]) (st' := [(0, v3)]) (h' := (G, ρ, m)) hm rfl cjn ?_
    by_cases c10 : v3 < 0
    · replace e := it_p e c10
      refine Ex_if1f (c := 3) (tgt := 26) hm rfl (bf3 c10) ?_
      refine Ex_run 1 (i' := 25) (L' := [(2, ((v0 : Nat) : Int)), (0, v1), (0, v2), (0, v3)]) (st' := [(0, (-14))]) (h' := (G, ρ, m)) hm rfl cjn ?_
      cases e
      cases hk
      exact Ex_ret (k := 1) hm rfl ⟨_, rfl, rfl⟩
    · replace e := it_n e c10
      refine Ex_if1t (c := 3) (tgt := 26) hm rfl (bt3 c10) ?_
      exact tf125_26 e hd rr hk
theorem tf125_11 {G : Gg} {ρ : Rg} {d : Nat} {v0 : Nat} {v1 : Int} {v2 : Int} {v3 : Int} {m : Sg} {x : Int × Sg} (e : f125_11 G ρ v0 v1 v2 v3 m = some x) (hd : 2 ≤ d) (rr : Option MV × Mh) (hk : (Bi G ρ) x rr) : Ex d 125 11 [(2, ((v0 : Nat) : Int)), (0, v1), (0, v2), (0, v3)] [] (G, ρ, m) rr := by
  unfold f125_11 at e
  have hm := mi_125
  refine Ex_run 2 (i' := 13) (L' := [(2, ((v0 : Nat) : Int)), (0, v1), (0, v2), (0, v3)]) (st' := [(0, (-1)), (0, v2)]) (h' := (G, ρ, m)) hm rfl cjn ?_
  by_cases c4 : v2 = (-1)
  · replace e := it_p e c4
    refine Ex_if2t (c := 0) (tgt := 19) hm rfl (bt0 c4) ?_
    exact tf125_19 e hd rr hk
  · replace e := it_n e c4
    refine Ex_if2f (c := 0) (tgt := 19) hm rfl (bf0 c4) ?_
    refine Ex_run 2 (i' := 16) (L' := [(2, ((v0 : Nat) : Int)), (0, v1), (0, v2), (0, v3)]) (st' := [(0, 40), (0, v3)]) (h' := (G, ρ, m)) hm rfl cjn ?_
    by_cases c11 : 40 < v3
    · replace e := it_p e c11
      refine Ex_if2f (c := 5) (tgt := 19) hm rfl (bf5 c11) ?_
      refine Ex_run 1 (i' := 18) (L' := [(2, ((v0 : Nat) : Int)), (0, v1), (0, v2), (0, v3)]) (st' := [(0, (-2))]) (h' := (G, ρ, m)) hm rfl cjn ?_
      cases e
      cases hk
      exact Ex_ret (k := 1) hm rfl ⟨_, rfl, rfl⟩
    · replace e := it_n e c11
      refine Ex_if2t (c := 5) (tgt := 19) hm rfl (bt5 c11) ?_
      exact tf125_19 e hd rr hk
theorem tf125 {G : Gg} {ρ : Rg} {d : Nat} {v0 : Nat} {v1 : Int} {v2 : Int} {v3 : Int} {m : Sg} {x : Int × Sg} (e : f125 G ρ v0 v1 v2 v3 m = some x) (hd : 2 ≤ d) : Ex d 125 0 [(2, ((v0 : Nat) : Int)), (0, v1), (0, v2), (0, v3)] [] (G, ρ, m) (some (0, x.1), (G, ρ, x.2)) := by
  unfold f125 at e
  have hm := mi_125
  generalize hk : (some (0, x.1), (G, ρ, x.2)) = rr
  replace hk : (Bi G ρ) x rr := hk.symm
  refine Ex_run 1 (i' := 1) (L' := [(2, ((v0 : Nat) : Int)), (0, v1), (0, v2), (0, v3)]) (st' := [(0, v1)]) (h' := (G, ρ, m)) hm rfl cjn ?_
  obtain ⟨q1, h1, e⟩ := bn_s e
  refine Ex_callm (z := 136) (na := 1) (ck := 0) (as := [(0, v1)]) (rest := []) (E0 := [(0, v1)]) (v := some (0, q1)) (h1 := (G, ρ, m)) hm rfl (by omega) ⟨Nat.le_of_ble_eq_true rfl, Nat.le_of_ble_eq_true rfl⟩ (trivial) rfl rfl ml_136 rfl (Nat.le_of_ble_eq_true rfl) (tf136 h1 (by omega)) ?_
  show Ex d 125 2 [(2, ((v0 : Nat) : Int)), (0, v1), (0, v2), (0, v3)] [(0, q1)] (G, ρ, m) rr
  by_cases c2 : q1 = 0
  · replace e := it_p e c2
    refine Ex_if1t (c := 0) (tgt := 9) hm rfl (bt0 c2) ?_
    refine Ex_run 1 (i' := 10) (L' := [(2, ((v0 : Nat) : Int)), (0, v1), (0, v2), (0, v3)]) (st' := [(0, (-2))]) (h' := (G, ρ, m)) hm rfl cjn ?_
    cases e
    cases hk
    exact Ex_ret (k := 1) hm rfl ⟨_, rfl, rfl⟩
  · replace e := it_n e c2
    refine Ex_if1f (c := 0) (tgt := 9) hm rfl (bf0 c2) ?_
    refine Ex_run 2 (i' := 5) (L' := [(2, ((v0 : Nat) : Int)), (0, v1), (0, v2), (0, v3)]) (st' := [(0, (-1)), (0, v2)]) (h' := (G, ρ, m)) hm rfl cjn ?_
    by_cases c3 : v2 = (-1)
    · replace e := it_p e c3
      refine Ex_if2t (c := 0) (tgt := 11) hm rfl (bt0 c3) ?_
      exact tf125_11 e hd rr hk
    · replace e := it_n e c3
      refine Ex_if2f (c := 0) (tgt := 11) hm rfl (bf0 c3) ?_
      refine Ex_run 1 (i' := 7) (L' := [(2, ((v0 : Nat) : Int)), (0, v1), (0, v2), (0, v3)]) (st' := [(0, v2)]) (h' := (G, ρ, m)) hm rfl cjn ?_
      obtain ⟨q12, h12, e⟩ := bn_s e
      refine Ex_callm (z := 137) (na := 1) (ck := 0) (as := [(0, v2)]) (rest := []) (E0 := [(0, v2)]) (v := some (0, q12)) (h1 := (G, ρ, m)) hm rfl (by omega) ⟨Nat.le_of_ble_eq_true rfl, Nat.le_of_ble_eq_true rfl⟩ (trivial) rfl rfl ml_137 rfl (Nat.le_of_ble_eq_true rfl) (tf137 h12 (by omega)) ?_
      show Ex d 125 8 [(2, ((v0 : Nat) : Int)), (0, v1), (0, v2), (0, v3)] [(0, q12)] (G, ρ, m) rr
      by_cases c13 : q12 = 0
      · replace e := it_p e c13
        refine Ex_if1f (c := 1) (tgt := 11) hm rfl (bf1 c13) ?_
        refine Ex_run 1 (i' := 10) (L' := [(2, ((v0 : Nat) : Int)), (0, v1), (0, v2), (0, v3)]) (st' := [(0, (-2))]) (h' := (G, ρ, m)) hm rfl cjn ?_
        cases e
        cases hk
        exact Ex_ret (k := 1) hm rfl ⟨_, rfl, rfl⟩
      · replace e := it_n e c13
        refine Ex_if1t (c := 1) (tgt := 11) hm rfl (bt1 c13) ?_
        exact tf125_11 e hd rr hk
theorem tf126 {G : Gg} {ρ : Rg} {d : Nat} {v0 : Nat} {v1 : Int} {v2 : Int} {v3 : Int} {m : Sg} {x : Int × Sg} (e : f126 G ρ v0 v1 v2 v3 m = some x) (hd : 2 ≤ d) : Ex d 126 0 [(2, ((v0 : Nat) : Int)), (0, v1), (0, v2), (0, v3)] [] (G, ρ, m) (some (0, x.1), (G, ρ, x.2)) := by
  unfold f126 at e
  have hm := mi_126
  generalize hk : (some (0, x.1), (G, ρ, x.2)) = rr
  replace hk : (Bi G ρ) x rr := hk.symm
  refine Ex_run 1 (i' := 1) (L' := [(2, ((v0 : Nat) : Int)), (0, v1), (0, v2), (0, v3)]) (st' := [(0, v1)]) (h' := (G, ρ, m)) hm rfl cjn ?_
  obtain ⟨q1, h1, e⟩ := bn_s e
  refine Ex_callm (z := 136) (na := 1) (ck := 0) (as := [(0, v1)]) (rest := []) (E0 := [(0, v1)]) (v := some (0, q1)) (h1 := (G, ρ, m)) hm rfl (by omega) ⟨Nat.le_of_ble_eq_true rfl, Nat.le_of_ble_eq_true rfl⟩ (trivial) rfl rfl ml_136 rfl (Nat.le_of_ble_eq_true rfl) (tf136 h1 (by omega)) ?_
  show Ex d 126 2 [(2, ((v0 : Nat) : Int)), (0, v1), (0, v2), (0, v3)] [(0, q1)] (G, ρ, m) rr
  by_cases c2 : q1 = 0
  · replace e := it_p e c2
    refine Ex_if1f (c := 1) (tgt := 5) hm rfl (bf1 c2) ?_
    refine Ex_run 1 (i' := 4) (L' := [(2, ((v0 : Nat) : Int)), (0, v1), (0, v2), (0, v3)]) (st' := [(0, (-2))]) (h' := (G, ρ, m)) hm rfl cjn ?_
    cases e
    cases hk
    exact Ex_ret (k := 1) hm rfl ⟨_, rfl, rfl⟩
  · replace e := it_n e c2
    refine Ex_if1t (c := 1) (tgt := 5) hm rfl (bt1 c2) ?_
    obtain ⟨g3, e⟩ := gd_s e
    refine Ex_run 3 (i' := 8) (L' := [(2, ((v0 : Nat) : Int)), (0, v1), (0, v2), (0, v3)]) (st' := [(0, v1), (2, (((ρ v0 10) : Nat) : Int))]) (h' := (G, ρ, m)) hm rfl (cjc (gk_b g3) cjn) ?_
    obtain ⟨g4, e⟩ := gd_s e
    obtain ⟨q5, h5, e⟩ := bn_s e
    refine Ex_callm (z := 48) (na := 2) (ck := 8) (as := [(2, (((ρ v0 10) : Nat) : Int)), (0, v1)]) (rest := []) (E0 := [(2, (((ρ v0 10) : Nat) : Int)), (0, v1)]) (v := some (0, q5)) (h1 := (G, ρ, m)) hm rfl (by omega) ⟨Nat.le_of_ble_eq_true rfl, Nat.le_of_ble_eq_true rfl⟩ (rc2 rfl g4) rfl rfl ml_48 rfl (Nat.le_of_ble_eq_true rfl) (tf48 h5 (by omega)) ?_
    show Ex d 126 9 [(2, ((v0 : Nat) : Int)), (0, v1), (0, v2), (0, v3)] [(0, q5)] (G, ρ, m) rr
    by_cases c6 : q5 = 0
    · replace e := it_p e c6
      refine Ex_if1t (c := 0) (tgt := 12) hm rfl (bt0 c6) ?_
      refine Ex_run 5 (i' := 17) (L' := [(2, ((v0 : Nat) : Int)), (0, v1), (0, v2), (0, v3)]) (st' := [(0, 1), (0, v2), (0, v1), (2, (((ρ v0 10) : Nat) : Int))]) (h' := (G, ρ, m)) hm rfl (cjc (gk_b g3) cjn) ?_
      obtain ⟨q7, h7, e⟩ := bn_s e
      refine Ex_callm (z := 50) (na := 4) (ck := 8) (as := [(2, (((ρ v0 10) : Nat) : Int)), (0, v1), (0, v2), (0, 1)]) (rest := []) (E0 := [(2, (((ρ v0 10) : Nat) : Int)), (0, v1), (0, v2), (0, 1)]) (v := some (0, q7)) (h1 := (G, ρ, m)) hm rfl (by omega) ⟨Nat.le_of_ble_eq_true rfl, Nat.le_of_ble_eq_true rfl⟩ (rc2 rfl g4) rfl rfl ml_50 rfl (Nat.le_of_ble_eq_true rfl) (tf50 h7 (by omega)) ?_
      show Ex d 126 18 [(2, ((v0 : Nat) : Int)), (0, v1), (0, v2), (0, v3)] [(0, q7)] (G, ρ, m) rr
      by_cases c8 : q7 = 0
      · replace e := it_p e c8
        refine Ex_if1f (c := 1) (tgt := 21) hm rfl (bf1 c8) ?_
        refine Ex_run 1 (i' := 20) (L' := [(2, ((v0 : Nat) : Int)), (0, v1), (0, v2), (0, v3)]) (st' := [(0, (-12))]) (h' := (G, ρ, m)) hm rfl cjn ?_
        cases e
        cases hk
        exact Ex_ret (k := 1) hm rfl ⟨_, rfl, rfl⟩
      · replace e := it_n e c8
        refine Ex_if1t (c := 1) (tgt := 21) hm rfl (bt1 c8) ?_
        refine Ex_run 5 (i' := 26) (L' := [(2, ((v0 : Nat) : Int)), (0, v1), (0, v2), (0, v3)]) (st' := [(0, v3), (0, v2), (0, v1), (2, (((ρ v0 10) : Nat) : Int))]) (h' := (G, ρ, m)) hm rfl (cjc (gk_b g3) cjn) ?_
        obtain ⟨q9, h9, e⟩ := bn_s e
        refine Ex_callm (z := 52) (na := 4) (ck := 8) (as := [(2, (((ρ v0 10) : Nat) : Int)), (0, v1), (0, v2), (0, v3)]) (rest := []) (E0 := [(2, (((ρ v0 10) : Nat) : Int)), (0, v1), (0, v2), (0, v3), (9, 0), (9, 0)]) (v := none) (h1 := (G, ρ, q9)) hm rfl (by omega) ⟨Nat.le_of_ble_eq_true rfl, Nat.le_of_ble_eq_true rfl⟩ (rc2 rfl g4) rfl rfl ml_52 rfl (Nat.le_of_ble_eq_true rfl) (tf52 h9 (by omega)) ?_
        show Ex d 126 27 [(2, ((v0 : Nat) : Int)), (0, v1), (0, v2), (0, v3)] [] (G, ρ, q9) rr
        refine Ex_run 1 (i' := 28) (L' := [(2, ((v0 : Nat) : Int)), (0, v1), (0, v2), (0, v3)]) (st' := [(0, 1)]) (h' := (G, ρ, q9)) hm rfl cjn ?_
        cases e
        cases hk
        exact Ex_ret (k := 1) hm rfl ⟨_, rfl, rfl⟩
    · replace e := it_n e c6
      refine Ex_if1f (c := 0) (tgt := 12) hm rfl (bf0 c6) ?_
      refine Ex_run 1 (i' := 11) (L' := [(2, ((v0 : Nat) : Int)), (0, v1), (0, v2), (0, v3)]) (st' := [(0, (-11))]) (h' := (G, ρ, m)) hm rfl cjn ?_
      cases e
      cases hk
      exact Ex_ret (k := 1) hm rfl ⟨_, rfl, rfl⟩
theorem tf127 {G : Gg} {ρ : Rg} {d : Nat} {v0 : Nat} {v1 : Int} {v2 : Int} {v3 : Int} {v4 : Int} {v5 : Int} {m : Sg} {x : Int × Sg} (e : f127 G ρ v0 v1 v2 v3 v4 v5 m = some x) (hd : 3 ≤ d) : Ex d 127 0 [(2, ((v0 : Nat) : Int)), (0, v1), (0, v2), (0, v3), (0, v4), (0, v5)] [] (G, ρ, m) (some (0, x.1), (G, ρ, x.2)) := by
  unfold f127 at e
  have hm := mi_127
  generalize hk : (some (0, x.1), (G, ρ, x.2)) = rr
  replace hk : (Bi G ρ) x rr := hk.symm
  refine Ex_run 1 (i' := 1) (L' := [(2, ((v0 : Nat) : Int)), (0, v1), (0, v2), (0, v3), (0, v4), (0, v5)]) (st' := [(0, v1)]) (h' := (G, ρ, m)) hm rfl cjn ?_
  obtain ⟨q1, h1, e⟩ := bn_s e
  refine Ex_callm (z := 136) (na := 1) (ck := 0) (as := [(0, v1)]) (rest := []) (E0 := [(0, v1)]) (v := some (0, q1)) (h1 := (G, ρ, m)) hm rfl (by omega) ⟨Nat.le_of_ble_eq_true rfl, Nat.le_of_ble_eq_true rfl⟩ (trivial) rfl rfl ml_136 rfl (Nat.le_of_ble_eq_true rfl) (tf136 h1 (by omega)) ?_
  show Ex d 127 2 [(2, ((v0 : Nat) : Int)), (0, v1), (0, v2), (0, v3), (0, v4), (0, v5)] [(0, q1)] (G, ρ, m) rr
  by_cases c2 : q1 = 0
  · replace e := it_p e c2
    refine Ex_if1t (c := 0) (tgt := 6) hm rfl (bt0 c2) ?_
    refine Ex_run 1 (i' := 7) (L' := [(2, ((v0 : Nat) : Int)), (0, v1), (0, v2), (0, v3), (0, v4), (0, v5)]) (st' := [(0, (-2))]) (h' := (G, ρ, m)) hm rfl cjn ?_
    cases e
    cases hk
    exact Ex_ret (k := 1) hm rfl ⟨_, rfl, rfl⟩
  · replace e := it_n e c2
    refine Ex_if1f (c := 0) (tgt := 6) hm rfl (bf0 c2) ?_
    refine Ex_run 1 (i' := 4) (L' := [(2, ((v0 : Nat) : Int)), (0, v1), (0, v2), (0, v3), (0, v4), (0, v5)]) (st' := [(0, v3)]) (h' := (G, ρ, m)) hm rfl cjn ?_
    obtain ⟨q3, h3, e⟩ := bn_s e
    refine Ex_callm (z := 136) (na := 1) (ck := 0) (as := [(0, v3)]) (rest := []) (E0 := [(0, v3)]) (v := some (0, q3)) (h1 := (G, ρ, m)) hm rfl (by omega) ⟨Nat.le_of_ble_eq_true rfl, Nat.le_of_ble_eq_true rfl⟩ (trivial) rfl rfl ml_136 rfl (Nat.le_of_ble_eq_true rfl) (tf136 h3 (by omega)) ?_
    show Ex d 127 5 [(2, ((v0 : Nat) : Int)), (0, v1), (0, v2), (0, v3), (0, v4), (0, v5)] [(0, q3)] (G, ρ, m) rr
    by_cases c4 : q3 = 0
    · replace e := it_p e c4
      refine Ex_if1f (c := 1) (tgt := 8) hm rfl (bf1 c4) ?_
      refine Ex_run 1 (i' := 7) (L' := [(2, ((v0 : Nat) : Int)), (0, v1), (0, v2), (0, v3), (0, v4), (0, v5)]) (st' := [(0, (-2))]) (h' := (G, ρ, m)) hm rfl cjn ?_
      cases e
      cases hk
      exact Ex_ret (k := 1) hm rfl ⟨_, rfl, rfl⟩
    · replace e := it_n e c4
      refine Ex_if1t (c := 1) (tgt := 8) hm rfl (bt1 c4) ?_
      obtain ⟨g5, e⟩ := gd_s e
      refine Ex_run 3 (i' := 11) (L' := [(2, ((v0 : Nat) : Int)), (0, v1), (0, v2), (0, v3), (0, v4), (0, v5)]) (st' := [(0, v1), (2, (((ρ v0 10) : Nat) : Int))]) (h' := (G, ρ, m)) hm rfl (cjc (gk_b g5) cjn) ?_
      obtain ⟨g6, e⟩ := gd_s e
      obtain ⟨q7, h7, e⟩ := bn_s e
      refine Ex_callm (z := 48) (na := 2) (ck := 8) (as := [(2, (((ρ v0 10) : Nat) : Int)), (0, v1)]) (rest := []) (E0 := [(2, (((ρ v0 10) : Nat) : Int)), (0, v1)]) (v := some (0, q7)) (h1 := (G, ρ, m)) hm rfl (by omega) ⟨Nat.le_of_ble_eq_true rfl, Nat.le_of_ble_eq_true rfl⟩ (rc2 rfl g6) rfl rfl ml_48 rfl (Nat.le_of_ble_eq_true rfl) (tf48 h7 (by omega)) ?_
      show Ex d 127 12 [(2, ((v0 : Nat) : Int)), (0, v1), (0, v2), (0, v3), (0, v4), (0, v5)] [(0, q7)] (G, ρ, m) rr
      by_cases c8 : q7 = 0
      · replace e := it_p e c8
        refine Ex_if1f (c := 1) (tgt := 18) hm rfl (bf1 c8) ?_
        refine Ex_run 3 (i' := 16) (L' := [(2, ((v0 : Nat) : Int)), (0, v1), (0, v2), (0, v3), (0, v4), (0, v5)]) (st' := [(0, v3), (2, (((ρ v0 10) : Nat) : Int))]) (h' := (G, ρ, m)) hm rfl (cjc (gk_b g5) cjn) ?_
        obtain ⟨q9, h9, e⟩ := bn_s e
        refine Ex_callm (z := 48) (na := 2) (ck := 8) (as := [(2, (((ρ v0 10) : Nat) : Int)), (0, v3)]) (rest := []) (E0 := [(2, (((ρ v0 10) : Nat) : Int)), (0, v3)]) (v := some (0, q9)) (h1 := (G, ρ, m)) hm rfl (by omega) ⟨Nat.le_of_ble_eq_true rfl, Nat.le_of_ble_eq_true rfl⟩ (rc2 rfl g6) rfl rfl ml_48 rfl (Nat.le_of_ble_eq_true rfl) (tf48 h9 (by omega)) ?_
        show Ex d 127 17 [(2, ((v0 : Nat) : Int)), (0, v1), (0, v2), (0, v3), (0, v4), (0, v5)] [(0, q9)] (G, ρ, m) rr
        by_cases c10 : q9 = 0
        · replace e := it_p e c10
          refine Ex_if1t (c := 0) (tgt := 20) hm rfl (bt0 c10) ?_
          refine Ex_run 4 (i' := 24) (L' := [(2, ((v0 : Nat) : Int)), (0, v1), (0, v2), (0, v3), (0, v4), (0, v5)]) (st' := [(0, v1), (2, (((ρ (ρ v0 10) 1) : Nat) : Int))]) (h' := (G, ρ, m)) hm rfl (cjc (gk_b g5) (cjc (gk_b g6) cjn)) ?_
          obtain ⟨g11, e⟩ := gd_s e
          obtain ⟨q12, h12, e⟩ := bn_s e
          refine Ex_callm (z := 33) (na := 2) (ck := 6) (as := [(2, (((ρ (ρ v0 10) 1) : Nat) : Int)), (0, v1)]) (rest := []) (E0 := [(2, (((ρ (ρ v0 10) 1) : Nat) : Int)), (0, v1)]) (v := some (0, q12)) (h1 := (G, ρ, m)) hm rfl (by omega) ⟨Nat.le_of_ble_eq_true rfl, Nat.le_of_ble_eq_true rfl⟩ (rc2 rfl g11) rfl rfl ml_33 rfl (Nat.le_of_ble_eq_true rfl) (tf33 h12 (by omega)) ?_
          show Ex d 127 25 [(2, ((v0 : Nat) : Int)), (0, v1), (0, v2), (0, v3), (0, v4), (0, v5)] [(0, q12)] (G, ρ, m) rr
          refine Ex_run 4 (i' := 29) (L' := [(2, ((v0 : Nat) : Int)), (0, v1), (0, v2), (0, v3), (0, v4), (0, v5)]) (st' := [(0, v3), (2, (((ρ (ρ v0 10) 1) : Nat) : Int)), (0, q12)]) (h' := (G, ρ, m)) hm rfl (cjc (gk_b g5) (cjc (gk_b g6) cjn)) ?_
          obtain ⟨q13, h13, e⟩ := bn_s e
          refine Ex_callm (z := 33) (na := 2) (ck := 6) (as := [(2, (((ρ (ρ v0 10) 1) : Nat) : Int)), (0, v3)]) (rest := [(0, q12)]) (E0 := [(2, (((ρ (ρ v0 10) 1) : Nat) : Int)), (0, v3)]) (v := some (0, q13)) (h1 := (G, ρ, m)) hm rfl (by omega) ⟨Nat.le_of_ble_eq_true rfl, Nat.le_of_ble_eq_true rfl⟩ (rc2 rfl g11) rfl rfl ml_33 rfl (Nat.le_of_ble_eq_true rfl) (tf33 h13 (by omega)) ?_
          show Ex d 127 30 [(2, ((v0 : Nat) : Int)), (0, v1), (0, v2), (0, v3), (0, v4), (0, v5)] [(0, q13), (0, q12)] (G, ρ, m) rr
          by_cases c14 : q12 = q13
          · replace e := it_p e c14
            refine Ex_if2t (c := 0) (tgt := 33) hm rfl (bt0 c14) ?_
            refine Ex_run 5 (i' := 38) (L' := [(2, ((v0 : Nat) : Int)), (0, v1), (0, v2), (0, v3), (0, v4), (0, v5)]) (st' := [(0, v5), (0, v2), (0, v1), (2, (((ρ v0 10) : Nat) : Int))]) (h' := (G, ρ, m)) hm rfl (cjc (gk_b g5) cjn) ?_
            obtain ⟨q15, h15, e⟩ := bn_s e
            refine Ex_callm (z := 50) (na := 4) (ck := 8) (as := [(2, (((ρ v0 10) : Nat) : Int)), (0, v1), (0, v2), (0, v5)]) (rest := []) (E0 := [(2, (((ρ v0 10) : Nat) : Int)), (0, v1), (0, v2), (0, v5)]) (v := some (0, q15)) (h1 := (G, ρ, m)) hm rfl (by omega) ⟨Nat.le_of_ble_eq_true rfl, Nat.le_of_ble_eq_true rfl⟩ (rc2 rfl g6) rfl rfl ml_50 rfl (Nat.le_of_ble_eq_true rfl) (tf50 h15 (by omega)) ?_
            show Ex d 127 39 [(2, ((v0 : Nat) : Int)), (0, v1), (0, v2), (0, v3), (0, v4), (0, v5)] [(0, q15)] (G, ρ, m) rr
            by_cases c16 : q15 = 0
            · replace e := it_p e c16
              refine Ex_if1t (c := 0) (tgt := 47) hm rfl (bt0 c16) ?_
              refine Ex_run 1 (i' := 48) (L' := [(2, ((v0 : Nat) : Int)), (0, v1), (0, v2), (0, v3), (0, v4), (0, v5)]) (st' := [(0, (-12))]) (h' := (G, ρ, m)) hm rfl cjn ?_
              cases e
              cases hk
              exact Ex_ret (k := 1) hm rfl ⟨_, rfl, rfl⟩
            · replace e := it_n e c16
              refine Ex_if1f (c := 0) (tgt := 47) hm rfl (bf0 c16) ?_
              refine Ex_run 5 (i' := 45) (L' := [(2, ((v0 : Nat) : Int)), (0, v1), (0, v2), (0, v3), (0, v4), (0, v5)]) (st' := [(0, v5), (0, v4), (0, v3), (2, (((ρ v0 10) : Nat) : Int))]) (h' := (G, ρ, m)) hm rfl (cjc (gk_b g5) cjn) ?_
              obtain ⟨q17, h17, e⟩ := bn_s e
              refine Ex_callm (z := 50) (na := 4) (ck := 8) (as := [(2, (((ρ v0 10) : Nat) : Int)), (0, v3), (0, v4), (0, v5)]) (rest := []) (E0 := [(2, (((ρ v0 10) : Nat) : Int)), (0, v3), (0, v4), (0, v5)]) (v := some (0, q17)) (h1 := (G, ρ, m)) hm rfl (by omega) ⟨Nat.le_of_ble_eq_true rfl, Nat.le_of_ble_eq_true rfl⟩ (rc2 rfl g6) rfl rfl ml_50 rfl (Nat.le_of_ble_eq_true rfl) (tf50 h17 (by omega)) ?_
              show Ex d 127 46 [(2, ((v0 : Nat) : Int)), (0, v1), (0, v2), (0, v3), (0, v4), (0, v5)] [(0, q17)] (G, ρ, m) rr
              by_cases c18 : q17 = 0
              · replace e := it_p e c18
                refine Ex_if1f (c := 1) (tgt := 49) hm rfl (bf1 c18) ?_
                refine Ex_run 1 (i' := 48) (L' := [(2, ((v0 : Nat) : Int)), (0, v1), (0, v2), (0, v3), (0, v4), (0, v5)]) (st' := [(0, (-12))]) (h' := (G, ρ, m)) hm rfl cjn ?_
                cases e
                cases hk
                exact Ex_ret (k := 1) hm rfl ⟨_, rfl, rfl⟩
              · replace e := it_n e c18
                refine Ex_if1t (c := 1) (tgt := 49) hm rfl (bt1 c18) ?_
                refine Ex_run 7 (i' := 56) (L' := [(2, ((v0 : Nat) : Int)), (0, v1), (0, v2), (0, v3), (0, v4), (0, v5)]) (st' := [(0, v5), (0, v4), (0, v3), (0, v2), (0, v1), (2, (((ρ v0 10) : Nat) : Int))]) (h' := (G, ρ, m)) hm rfl (cjc (gk_b g5) cjn) ?_
                obtain ⟨q19, h19, e⟩ := bn_s e
                refine Ex_callm (z := 53) (na := 6) (ck := 8) (as := [(2, (((ρ v0 10) : Nat) : Int)), (0, v1), (0, v2), (0, v3), (0, v4), (0, v5)]) (rest := []) (E0 := [(2, (((ρ v0 10) : Nat) : Int)), (0, v1), (0, v2), (0, v3), (0, v4), (0, v5)]) (v := none) (h1 := (G, ρ, q19)) hm rfl (by omega) ⟨Nat.le_of_ble_eq_true rfl, Nat.le_of_ble_eq_true rfl⟩ (rc2 rfl g6) rfl rfl ml_53 rfl (Nat.le_of_ble_eq_true rfl) (tf53 h19 (by omega)) ?_
                show Ex d 127 57 [(2, ((v0 : Nat) : Int)), (0, v1), (0, v2), (0, v3), (0, v4), (0, v5)] [] (G, ρ, q19) rr
                refine Ex_run 1 (i' := 58) (L' := [(2, ((v0 : Nat) : Int)), (0, v1), (0, v2), (0, v3), (0, v4), (0, v5)]) (st' := [(0, v5)]) (h' := (G, ρ, q19)) hm rfl cjn ?_
                cases e
                cases hk
                exact Ex_ret (k := 1) hm rfl ⟨_, rfl, rfl⟩
          · replace e := it_n e c14
            refine Ex_if2f (c := 0) (tgt := 33) hm rfl (bf0 c14) ?_
            refine Ex_run 1 (i' := 32) (L' := [(2, ((v0 : Nat) : Int)), (0, v1), (0, v2), (0, v3), (0, v4), (0, v5)]) (st' := [(0, (-13))]) (h' := (G, ρ, m)) hm rfl cjn ?_
            cases e
            cases hk
            exact Ex_ret (k := 1) hm rfl ⟨_, rfl, rfl⟩
        · replace e := it_n e c10
          refine Ex_if1f (c := 0) (tgt := 20) hm rfl (bf0 c10) ?_
          refine Ex_run 1 (i' := 19) (L' := [(2, ((v0 : Nat) : Int)), (0, v1), (0, v2), (0, v3), (0, v4), (0, v5)]) (st' := [(0, (-11))]) (h' := (G, ρ, m)) hm rfl cjn ?_
          cases e
          cases hk
          exact Ex_ret (k := 1) hm rfl ⟨_, rfl, rfl⟩
      · replace e := it_n e c8
        refine Ex_if1t (c := 1) (tgt := 18) hm rfl (bt1 c8) ?_
        refine Ex_run 1 (i' := 19) (L' := [(2, ((v0 : Nat) : Int)), (0, v1), (0, v2), (0, v3), (0, v4), (0, v5)]) (st' := [(0, (-11))]) (h' := (G, ρ, m)) hm rfl cjn ?_
        cases e
        cases hk
        exact Ex_ret (k := 1) hm rfl ⟨_, rfl, rfl⟩
theorem tf128_b38 {G : Gg} {ρ : Rg} {d : Nat} {v0 : Nat} {v1 : Int} {v3 : Int} {v4 : Int} {s : Int × Int × Sg} {x : (Int × Int × Sg) ⊕ (Int × Sg)} (e : f128_b38 G ρ v0 v1 v3 v4 s = some x) (hd : 2 ≤ d) (rr : Option MV × Mh) (hk : (DS (e128_38 G ρ d v0 v1 v3 v4) (Bi G ρ)) x rr) : e128_38 G ρ d v0 v1 v3 v4 s rr := by
  unfold f128_b38 at e
  have hm := mi_128
  show ∀ (j2 : Int) (j7 : MV) (j8 : MV) (j9 : MV), Ex d 128 38 [(2, ((v0 : Nat) : Int)), (0, v1), (0, j2), (0, v3), (0, v4), (0, s.1), (0, s.2.1), j7, j8, j9] [] (G, ρ, s.2.2) rr
  intro j2 j7 j8 j9
  refine Ex_run 2 (i' := 40) (L' := [(2, ((v0 : Nat) : Int)), (0, v1), (0, j2), (0, v3), (0, v4), (0, s.1), (0, s.2.1), j7, j8, j9]) (st' := [(0, v4), (0, s.2.1)]) (h' := (G, ρ, s.2.2)) hm rfl cjn ?_
  by_cases c18 : s.2.1 < v4
  · replace e := it_p e c18
    refine Ex_if2f (c := 3) (tgt := 91) hm rfl (bf3 c18) ?_
    obtain ⟨g19, e⟩ := gd_s e
    refine Ex_run 11 (i' := 52) (L' := [(2, ((v0 : Nat) : Int)), (0, v1), (0, j2), (0, v3), (0, v4), (0, s.1), (0, s.2.1), (0, (g_add v3 (g_mul 2 s.2.1))), j8, j9]) (st' := [(0, 2), (0, (g_add v3 (g_mul 2 s.2.1))), (0, v1), (2, (((ρ v0 10) : Nat) : Int))]) (h' := (G, ρ, s.2.2)) hm rfl (cjc (Nat.le_of_ble_eq_true rfl) (cjc (gk_b g19) cjn)) ?_
    obtain ⟨g20, e⟩ := gd_s e
    obtain ⟨q21, h21, e⟩ := bn_s e
    refine Ex_callm (z := 50) (na := 4) (ck := 8) (as := [(2, (((ρ v0 10) : Nat) : Int)), (0, v1), (0, (g_add v3 (g_mul 2 s.2.1))), (0, 2)]) (rest := []) (E0 := [(2, (((ρ v0 10) : Nat) : Int)), (0, v1), (0, (g_add v3 (g_mul 2 s.2.1))), (0, 2)]) (v := some (0, q21)) (h1 := (G, ρ, s.2.2)) hm rfl (by omega) ⟨Nat.le_of_ble_eq_true rfl, Nat.le_of_ble_eq_true rfl⟩ (rc2 rfl g20) rfl rfl ml_50 rfl (Nat.le_of_ble_eq_true rfl) (tf50 h21 (by omega)) ?_
    show Ex d 128 53 [(2, ((v0 : Nat) : Int)), (0, v1), (0, j2), (0, v3), (0, v4), (0, s.1), (0, s.2.1), (0, (g_add v3 (g_mul 2 s.2.1))), j8, j9] [(0, q21)] (G, ρ, s.2.2) rr
    by_cases c22 : q21 = 0
    · replace e := it_p e c22
      refine Ex_if1f (c := 1) (tgt := 56) hm rfl (bf1 c22) ?_
      obtain ⟨x, e, hx⟩ := xr_s e
      replace hk : (Bi G ρ) x rr := by rw [hx] at hk; exact hk
      refine Ex_run 1 (i' := 55) (L' := [(2, ((v0 : Nat) : Int)), (0, v1), (0, j2), (0, v3), (0, v4), (0, s.1), (0, s.2.1), (0, (g_add v3 (g_mul 2 s.2.1))), j8, j9]) (st' := [(0, (-12))]) (h' := (G, ρ, s.2.2)) hm rfl cjn ?_
      cases e
      cases hk
      exact Ex_ret (k := 1) hm rfl ⟨_, rfl, rfl⟩
    · replace e := it_n e c22
      refine Ex_if1t (c := 1) (tgt := 56) hm rfl (bt1 c22) ?_
      refine Ex_run 4 (i' := 60) (L' := [(2, ((v0 : Nat) : Int)), (0, v1), (0, j2), (0, v3), (0, v4), (0, s.1), (0, s.2.1), (0, (g_add v3 (g_mul 2 s.2.1))), j8, j9]) (st' := [(0, (g_add v3 (g_mul 2 s.2.1))), (0, v1), (2, (((ρ v0 10) : Nat) : Int))]) (h' := (G, ρ, s.2.2)) hm rfl (cjc (gk_b g19) cjn) ?_
      obtain ⟨q23, h23, e⟩ := bn_s e
      refine Ex_callm (z := 51) (na := 3) (ck := 8) (as := [(2, (((ρ v0 10) : Nat) : Int)), (0, v1), (0, (g_add v3 (g_mul 2 s.2.1)))]) (rest := []) (E0 := [(2, (((ρ v0 10) : Nat) : Int)), (0, v1), (0, (g_add v3 (g_mul 2 s.2.1)))]) (v := some (0, q23)) (h1 := (G, ρ, s.2.2)) hm rfl (by omega) ⟨Nat.le_of_ble_eq_true rfl, Nat.le_of_ble_eq_true rfl⟩ (rc2 rfl g20) rfl rfl ml_51 rfl (Nat.le_of_ble_eq_true rfl) (tf51 h23 (by omega)) ?_
      show Ex d 128 61 [(2, ((v0 : Nat) : Int)), (0, v1), (0, j2), (0, v3), (0, v4), (0, s.1), (0, s.2.1), (0, (g_add v3 (g_mul 2 s.2.1))), j8, j9] [(0, q23)] (G, ρ, s.2.2) rr
      refine Ex_run 7 (i' := 68) (L' := [(2, ((v0 : Nat) : Int)), (0, v1), (0, j2), (0, v3), (0, v4), (0, s.1), (0, s.2.1), (0, (g_add v3 (g_mul 2 s.2.1))), (0, q23), j9]) (st' := [(0, (g_add (g_add v3 (g_mul 2 s.2.1)) 1)), (0, v1), (2, (((ρ v0 10) : Nat) : Int))]) (h' := (G, ρ, s.2.2)) hm rfl (cjc (Nat.le_of_ble_eq_true rfl) (cjc (gk_b g19) cjn)) ?_
      obtain ⟨q24, h24, e⟩ := bn_s e
      refine Ex_callm (z := 51) (na := 3) (ck := 8) (as := [(2, (((ρ v0 10) : Nat) : Int)), (0, v1), (0, (g_add (g_add v3 (g_mul 2 s.2.1)) 1))]) (rest := []) (E0 := [(2, (((ρ v0 10) : Nat) : Int)), (0, v1), (0, (g_add (g_add v3 (g_mul 2 s.2.1)) 1))]) (v := some (0, q24)) (h1 := (G, ρ, s.2.2)) hm rfl (by omega) ⟨Nat.le_of_ble_eq_true rfl, Nat.le_of_ble_eq_true rfl⟩ (rc2 rfl g20) rfl rfl ml_51 rfl (Nat.le_of_ble_eq_true rfl) (tf51 h24 (by omega)) ?_
      show Ex d 128 69 [(2, ((v0 : Nat) : Int)), (0, v1), (0, j2), (0, v3), (0, v4), (0, s.1), (0, s.2.1), (0, (g_add v3 (g_mul 2 s.2.1))), (0, q23), j9] [(0, q24)] (G, ρ, s.2.2) rr
      refine Ex_run 4 (i' := 73) (L' := [(2, ((v0 : Nat) : Int)), (0, v1), (0, j2), (0, v3), (0, v4), (0, s.1), (0, s.2.1), (0, (g_add v3 (g_mul 2 s.2.1))), (0, q23), (0, q24)]) (st' := [(0, s.2.1), (2, (((ρ v0 0) : Nat) : Int))]) (h' := (G, ρ, s.2.2)) hm rfl (cjc (Nat.le_of_ble_eq_true rfl) (cjc (gk_b g19) cjn)) ?_
      obtain ⟨g25, e⟩ := gd_s e
      obtain ⟨q26, h26, e⟩ := bn_s e
      refine Ex_callm (z := 38) (na := 2) (ck := 7) (as := [(2, (((ρ v0 0) : Nat) : Int)), (0, s.2.1)]) (rest := []) (E0 := [(2, (((ρ v0 0) : Nat) : Int)), (0, s.2.1)]) (v := some (0, q26)) (h1 := (G, ρ, s.2.2)) hm rfl (by omega) ⟨Nat.le_of_ble_eq_true rfl, Nat.le_of_ble_eq_true rfl⟩ (rc2 rfl g25) rfl rfl ml_38 rfl (Nat.le_of_ble_eq_true rfl) (tf38 h26 (by omega)) ?_
      show Ex d 128 74 [(2, ((v0 : Nat) : Int)), (0, v1), (0, j2), (0, v3), (0, v4), (0, s.1), (0, s.2.1), (0, (g_add v3 (g_mul 2 s.2.1))), (0, q23), (0, q24)] [(0, q26)] (G, ρ, s.2.2) rr
      by_cases c27 : q26 = 0
      · replace e := it_p e c27
        refine Ex_if1t (c := 0) (tgt := 89) hm rfl (bt0 c27) ?_
        refine Ex_run 2 (i' := 38) (L' := [(2, ((v0 : Nat) : Int)), (0, v1), (0, j2), (0, v3), (0, v4), (0, s.1), (0, (w32 (s.2.1 + 1))), (0, (g_add v3 (g_mul 2 s.2.1))), (0, q23), (0, q24)]) (st' := []) (h' := (G, ρ, s.2.2)) hm rfl cjn ?_
        cases e
        exact hk _ _ _ _
      · replace e := it_n e c27
        refine Ex_if1f (c := 0) (tgt := 89) hm rfl (bf0 c27) ?_
        refine Ex_run 1 (i' := 76) (L' := [(2, ((v0 : Nat) : Int)), (0, v1), (0, j2), (0, v3), (0, v4), (0, s.1), (0, s.2.1), (0, (g_add v3 (g_mul 2 s.2.1))), (0, q23), (0, q24)]) (st' := [(0, q23)]) (h' := (G, ρ, s.2.2)) hm rfl cjn ?_
        obtain ⟨q28, h28, e⟩ := bn_s e
        refine Ex_callm (z := 130) (na := 1) (ck := 0) (as := [(0, q23)]) (rest := []) (E0 := [(0, q23)]) (v := some (0, q28)) (h1 := (G, ρ, s.2.2)) hm rfl (by omega) ⟨Nat.le_of_ble_eq_true rfl, Nat.le_of_ble_eq_true rfl⟩ (trivial) rfl rfl ml_130 rfl (Nat.le_of_ble_eq_true rfl) (tf130 h28 (by omega)) ?_
        show Ex d 128 77 [(2, ((v0 : Nat) : Int)), (0, v1), (0, j2), (0, v3), (0, v4), (0, s.1), (0, s.2.1), (0, (g_add v3 (g_mul 2 s.2.1))), (0, q23), (0, q24)] [(0, q28)] (G, ρ, s.2.2) rr
        by_cases c29 : q28 = 0
        · replace e := it_p e c29
          refine Ex_if1t (c := 0) (tgt := 89) hm rfl (bt0 c29) ?_
          refine Ex_run 2 (i' := 38) (L' := [(2, ((v0 : Nat) : Int)), (0, v1), (0, j2), (0, v3), (0, v4), (0, s.1), (0, (w32 (s.2.1 + 1))), (0, (g_add v3 (g_mul 2 s.2.1))), (0, q23), (0, q24)]) (st' := []) (h' := (G, ρ, s.2.2)) hm rfl cjn ?_
          cases e
          exact hk _ _ _ _
        · replace e := it_n e c29
          refine Ex_if1f (c := 0) (tgt := 89) hm rfl (bf0 c29) ?_
          refine Ex_run 1 (i' := 79) (L' := [(2, ((v0 : Nat) : Int)), (0, v1), (0, j2), (0, v3), (0, v4), (0, s.1), (0, s.2.1), (0, (g_add v3 (g_mul 2 s.2.1))), (0, q23), (0, q24)]) (st' := [(0, q24)]) (h' := (G, ρ, s.2.2)) hm rfl cjn ?_
          obtain ⟨q30, h30, e⟩ := bn_s e
          refine Ex_callm (z := 131) (na := 1) (ck := 0) (as := [(0, q24)]) (rest := []) (E0 := [(0, q24)]) (v := some (0, q30)) (h1 := (G, ρ, s.2.2)) hm rfl (by omega) ⟨Nat.le_of_ble_eq_true rfl, Nat.le_of_ble_eq_true rfl⟩ (trivial) rfl rfl ml_131 rfl (Nat.le_of_ble_eq_true rfl) (tf131 h30 (by omega)) ?_
          show Ex d 128 80 [(2, ((v0 : Nat) : Int)), (0, v1), (0, j2), (0, v3), (0, v4), (0, s.1), (0, s.2.1), (0, (g_add v3 (g_mul 2 s.2.1))), (0, q23), (0, q24)] [(0, q30)] (G, ρ, s.2.2) rr
          by_cases c31 : q30 = 0
          · replace e := it_p e c31
            refine Ex_if1f (c := 1) (tgt := 82) hm rfl (bf1 c31) ?_
            refine Ex_run 3 (i' := 38) (L' := [(2, ((v0 : Nat) : Int)), (0, v1), (0, j2), (0, v3), (0, v4), (0, s.1), (0, (w32 (s.2.1 + 1))), (0, (g_add v3 (g_mul 2 s.2.1))), (0, q23), (0, q24)]) (st' := []) (h' := (G, ρ, s.2.2)) hm rfl cjn ?_
            cases e
            exact hk _ _ _ _
          · replace e := it_n e c31
            refine Ex_if1t (c := 1) (tgt := 82) hm rfl (bt1 c31) ?_
            refine Ex_run 5 (i' := 87) (L' := [(2, ((v0 : Nat) : Int)), (0, v1), (0, j2), (0, v3), (0, v4), (0, s.1), (0, s.2.1), (0, (g_add v3 (g_mul 2 s.2.1))), (0, q23), (0, q24)]) (st' := [(0, q24), (0, q23), (0, s.2.1), (2, (((ρ v0 0) : Nat) : Int))]) (h' := (G, ρ, s.2.2)) hm rfl (cjc (gk_b g19) cjn) ?_
            obtain ⟨q32, h32, e⟩ := bn_s e
            refine Ex_callm (z := 40) (na := 4) (ck := 7) (as := [(2, (((ρ v0 0) : Nat) : Int)), (0, s.2.1), (0, q23), (0, q24)]) (rest := []) (E0 := [(2, (((ρ v0 0) : Nat) : Int)), (0, s.2.1), (0, q23), (0, q24)]) (v := none) (h1 := (G, ρ, q32)) hm rfl (by omega) ⟨Nat.le_of_ble_eq_true rfl, Nat.le_of_ble_eq_true rfl⟩ (rc2 rfl g25) rfl rfl ml_40 rfl (Nat.le_of_ble_eq_true rfl) (tf40 h32 (by omega)) ?_
            show Ex d 128 88 [(2, ((v0 : Nat) : Int)), (0, v1), (0, j2), (0, v3), (0, v4), (0, s.1), (0, s.2.1), (0, (g_add v3 (g_mul 2 s.2.1))), (0, q23), (0, q24)] [] (G, ρ, q32) rr
            refine Ex_run 3 (i' := 38) (L' := [(2, ((v0 : Nat) : Int)), (0, v1), (0, j2), (0, v3), (0, v4), (0, (w32 (s.1 + 1))), (0, (w32 (s.2.1 + 1))), (0, (g_add v3 (g_mul 2 s.2.1))), (0, q23), (0, q24)]) (st' := []) (h' := (G, ρ, q32)) hm rfl cjn ?_
            cases e
            exact hk _ _ _ _
  · replace e := it_n e c18
    refine Ex_if2t (c := 3) (tgt := 91) hm rfl (bt3 c18) ?_
    obtain ⟨x, e, hx⟩ := xr_s e
    replace hk : (Bi G ρ) x rr := by rw [hx] at hk; exact hk
    refine Ex_run 1 (i' := 92) (L' := [(2, ((v0 : Nat) : Int)), (0, v1), (0, j2), (0, v3), (0, v4), (0, s.1), (0, s.2.1), j7, j8, j9]) (st' := [(0, s.1)]) (h' := (G, ρ, s.2.2)) hm rfl cjn ?_
    cases e
    cases hk
    exact Ex_ret (k := 1) hm rfl ⟨_, rfl, rfl⟩
theorem tf128_27 {G : Gg} {ρ : Rg} {d : Nat} {v0 : Nat} {v1 : Int} {v3 : Int} {v4 : Int} {m : Sg} {x : Int × Sg} (e : f128_27 G ρ v0 v1 v3 v4 m = some x) (hd : 2 ≤ d) (rr : Option MV × Mh) (hk : (Bi G ρ) x rr) (j2 : Int) : Ex d 128 27 [(2, ((v0 : Nat) : Int)), (0, v1), (0, j2), (0, v3), (0, v4), (9, 0), (9, 0), (9, 0), (9, 0), (9, 0)] [] (G, ρ, m) rr := by
  unfold f128_27 at e
  have hm := mi_128
  obtain ⟨g14, e⟩ := gd_s e
  refine Ex_run 3 (i' := 30) (L' := [(2, ((v0 : Nat) : Int)), (0, v1), (0, j2), (0, v3), (0, v4), (9, 0), (9, 0), (9, 0), (9, 0), (9, 0)]) (st' := [(0, v1), (2, (((ρ v0 10) : Nat) : Int))]) (h' := (G, ρ, m)) hm rfl (cjc (gk_b g14) cjn) ?_
  obtain ⟨g15, e⟩ := gd_s e
  obtain ⟨q16, h16, e⟩ := bn_s e
  refine Ex_callm (z := 48) (na := 2) (ck := 8) (as := [(2, (((ρ v0 10) : Nat) : Int)), (0, v1)]) (rest := []) (E0 := [(2, (((ρ v0 10) : Nat) : Int)), (0, v1)]) (v := some (0, q16)) (h1 := (G, ρ, m)) hm rfl (by omega) ⟨Nat.le_of_ble_eq_true rfl, Nat.le_of_ble_eq_true rfl⟩ (rc2 rfl g15) rfl rfl ml_48 rfl (Nat.le_of_ble_eq_true rfl) (tf48 h16 (by omega)) ?_
  show Ex d 128 31 [(2, ((v0 : Nat) : Int)), (0, v1), (0, j2), (0, v3), (0, v4), (9, 0), (9, 0), (9, 0), (9, 0), (9, 0)] [(0, q16)] (G, ρ, m) rr
  by_cases c17 : q16 = 0
  · replace e := it_p e c17
    refine Ex_if1t (c := 0) (tgt := 34) hm rfl (bt0 c17) ?_
    refine Ex_run 4 (i' := 38) (L' := [(2, ((v0 : Nat) : Int)), (0, v1), (0, j2), (0, v3), (0, v4), (0, 0), (0, 0), (9, 0), (9, 0), (9, 0)]) (st' := []) (h' := (G, ρ, m)) hm rfl (cjc (Nat.le_of_ble_eq_true rfl) (cjc (Nat.le_of_ble_eq_true rfl) cjn)) ?_
    exact (Ex_lp (A := e128_38 G ρ d v0 v1 v3 v4 ) (B := (Bi G ρ)) (fun s x e rr hk => tf128_b38 e hd rr hk) FU _ _ e rr hk) _ _ _ _
  · replace e := it_n e c17
    refine Ex_if1f (c := 0) (tgt := 34) hm rfl (bf0 c17) ?_
    refine Ex_run 1 (i' := 33) (L' := [(2, ((v0 : Nat) : Int)), (0, v1), (0, j2), (0, v3), (0, v4), (9, 0), (9, 0), (9, 0), (9, 0), (9, 0)]) (st' := [(0, (-11))]) (h' := (G, ρ, m)) hm rfl cjn ?_
    cases e
    cases hk
    exact Ex_ret (k := 1) hm rfl ⟨_, rfl, rfl⟩
theorem tf128 {G : Gg} {ρ : Rg} {d : Nat} {v0 : Nat} {v1 : Int} {v2 : Int} {v3 : Int} {v4 : Int} {m : Sg} {x : Int × Sg} (e : f128 G ρ v0 v1 v2 v3 v4 m = some x) (hd : 2 ≤ d) : Ex d 128 0 [(2, ((v0 : Nat) : Int)), (0, v1), (0, v2), (0, v3), (0, v4), (9, 0), (9, 0), (9, 0), (9, 0), (9, 0)] [] (G, ρ, m) (some (0, x.1), (G, ρ, x.2)) := by
  unfold f128 at e
  have hm := mi_128
  generalize hk : (some (0, x.1), (G, ρ, x.2)) = rr
  replace hk : (Bi G ρ) x rr := hk.symm
  refine Ex_run 1 (i' := 1) (L' := [(2, ((v0 : Nat) : Int)), (0, v1), (0, v2), (0, v3), (0, v4), (9, 0), (9, 0), (9, 0), (9, 0), (9, 0)]) (st' := [(0, v1)]) (h' := (G, ρ, m)) hm rfl cjn ?_
  obtain ⟨q1, h1, e⟩ := bn_s e
  refine Ex_callm (z := 136) (na := 1) (ck := 0) (as := [(0, v1)]) (rest := []) (E0 := [(0, v1)]) (v := some (0, q1)) (h1 := (G, ρ, m)) hm rfl (by omega) ⟨Nat.le_of_ble_eq_true rfl, Nat.le_of_ble_eq_true rfl⟩ (trivial) rfl rfl ml_136 rfl (Nat.le_of_ble_eq_true rfl) (tf136 h1 (by omega)) ?_
  show Ex d 128 2 [(2, ((v0 : Nat) : Int)), (0, v1), (0, v2), (0, v3), (0, v4), (9, 0), (9, 0), (9, 0), (9, 0), (9, 0)] [(0, q1)] (G, ρ, m) rr
  by_cases c2 : q1 = 0
  · replace e := it_p e c2
    refine Ex_if1t (c := 0) (tgt := 11) hm rfl (bt0 c2) ?_
    refine Ex_run 1 (i' := 12) (L' := [(2, ((v0 : Nat) : Int)), (0, v1), (0, v2), (0, v3), (0, v4), (9, 0), (9, 0), (9, 0), (9, 0), (9, 0)]) (st' := [(0, (-2))]) (h' := (G, ρ, m)) hm rfl cjn ?_
    cases e
    cases hk
    exact Ex_ret (k := 1) hm rfl ⟨_, rfl, rfl⟩
  · replace e := it_n e c2
    refine Ex_if1f (c := 0) (tgt := 11) hm rfl (bf0 c2) ?_
    refine Ex_run 1 (i' := 4) (L' := [(2, ((v0 : Nat) : Int)), (0, v1), (0, v2), (0, v3), (0, v4), (9, 0), (9, 0), (9, 0), (9, 0), (9, 0)]) (st' := [(0, v2)]) (h' := (G, ρ, m)) hm rfl cjn ?_
    obtain ⟨q3, h3, e⟩ := bn_s e
    refine Ex_callm (z := 137) (na := 1) (ck := 0) (as := [(0, v2)]) (rest := []) (E0 := [(0, v2)]) (v := some (0, q3)) (h1 := (G, ρ, m)) hm rfl (by omega) ⟨Nat.le_of_ble_eq_true rfl, Nat.le_of_ble_eq_true rfl⟩ (trivial) rfl rfl ml_137 rfl (Nat.le_of_ble_eq_true rfl) (tf137 h3 (by omega)) ?_
    show Ex d 128 5 [(2, ((v0 : Nat) : Int)), (0, v1), (0, v2), (0, v3), (0, v4), (9, 0), (9, 0), (9, 0), (9, 0), (9, 0)] [(0, q3)] (G, ρ, m) rr
    by_cases c4 : q3 = 0
    · replace e := it_p e c4
      refine Ex_if1t (c := 0) (tgt := 11) hm rfl (bt0 c4) ?_
      refine Ex_run 1 (i' := 12) (L' := [(2, ((v0 : Nat) : Int)), (0, v1), (0, v2), (0, v3), (0, v4), (9, 0), (9, 0), (9, 0), (9, 0), (9, 0)]) (st' := [(0, (-2))]) (h' := (G, ρ, m)) hm rfl cjn ?_
      cases e
      cases hk
      exact Ex_ret (k := 1) hm rfl ⟨_, rfl, rfl⟩
    · replace e := it_n e c4
      refine Ex_if1f (c := 0) (tgt := 11) hm rfl (bf0 c4) ?_
      refine Ex_run 1 (i' := 7) (L' := [(2, ((v0 : Nat) : Int)), (0, v1), (0, v2), (0, v3), (0, v4), (9, 0), (9, 0), (9, 0), (9, 0), (9, 0)]) (st' := [(0, v4)]) (h' := (G, ρ, m)) hm rfl cjn ?_
      by_cases c5 : v4 < 0
      · replace e := it_p e c5
        refine Ex_if1t (c := 2) (tgt := 11) hm rfl (bt2 c5) ?_
        refine Ex_run 1 (i' := 12) (L' := [(2, ((v0 : Nat) : Int)), (0, v1), (0, v2), (0, v3), (0, v4), (9, 0), (9, 0), (9, 0), (9, 0), (9, 0)]) (st' := [(0, (-2))]) (h' := (G, ρ, m)) hm rfl cjn ?_
        cases e
        cases hk
        exact Ex_ret (k := 1) hm rfl ⟨_, rfl, rfl⟩
      · replace e := it_n e c5
        refine Ex_if1f (c := 2) (tgt := 11) hm rfl (bf2 c5) ?_
        refine Ex_run 2 (i' := 10) (L' := [(2, ((v0 : Nat) : Int)), (0, v1), (0, v2), (0, v3), (0, v4), (9, 0), (9, 0), (9, 0), (9, 0), (9, 0)]) (st' := [(0, 10), (0, v4)]) (h' := (G, ρ, m)) hm rfl cjn ?_
        by_cases c6 : 10 < v4
        · replace e := it_p e c6
          refine Ex_if2f (c := 5) (tgt := 13) hm rfl (bf5 c6) ?_
          refine Ex_run 1 (i' := 12) (L' := [(2, ((v0 : Nat) : Int)), (0, v1), (0, v2), (0, v3), (0, v4), (9, 0), (9, 0), (9, 0), (9, 0), (9, 0)]) (st' := [(0, (-2))]) (h' := (G, ρ, m)) hm rfl cjn ?_
          cases e
          cases hk
          exact Ex_ret (k := 1) hm rfl ⟨_, rfl, rfl⟩
        · replace e := it_n e c6
          refine Ex_if2t (c := 5) (tgt := 13) hm rfl (bt5 c6) ?_
          obtain ⟨g7, e⟩ := gd_s e
          refine Ex_run 3 (i' := 16) (L' := [(2, ((v0 : Nat) : Int)), (0, v1), (0, v2), (0, v3), (0, v4), (9, 0), (9, 0), (9, 0), (9, 0), (9, 0)]) (st' := [(0, v1), (2, (((ρ v0 10) : Nat) : Int))]) (h' := (G, ρ, m)) hm rfl (cjc (gk_b g7) cjn) ?_
          obtain ⟨g8, e⟩ := gd_s e
          obtain ⟨q9, h9, e⟩ := bn_s e
          refine Ex_callm (z := 48) (na := 2) (ck := 8) (as := [(2, (((ρ v0 10) : Nat) : Int)), (0, v1)]) (rest := []) (E0 := [(2, (((ρ v0 10) : Nat) : Int)), (0, v1)]) (v := some (0, q9)) (h1 := (G, ρ, m)) hm rfl (by omega) ⟨Nat.le_of_ble_eq_true rfl, Nat.le_of_ble_eq_true rfl⟩ (rc2 rfl g8) rfl rfl ml_48 rfl (Nat.le_of_ble_eq_true rfl) (tf48 h9 (by omega)) ?_
          show Ex d 128 17 [(2, ((v0 : Nat) : Int)), (0, v1), (0, v2), (0, v3), (0, v4), (9, 0), (9, 0), (9, 0), (9, 0), (9, 0)] [(0, q9)] (G, ρ, m) rr
          by_cases c10 : q9 = 0
          · replace e := it_p e c10
            refine Ex_if1f (c := 1) (tgt := 27) hm rfl (bf1 c10) ?_
            refine Ex_run 4 (i' := 22) (L' := [(2, ((v0 : Nat) : Int)), (0, v1), (0, v2), (0, v3), (0, v4), (9, 0), (9, 0), (9, 0), (9, 0), (9, 0)]) (st' := [(0, v1), (2, (((ρ (ρ v0 10) 1) : Nat) : Int))]) (h' := (G, ρ, m)) hm rfl (cjc (gk_b g7) (cjc (gk_b g8) cjn)) ?_
            obtain ⟨g11, e⟩ := gd_s e
            obtain ⟨q12, h12, e⟩ := bn_s e
            refine Ex_callm (z := 33) (na := 2) (ck := 6) (as := [(2, (((ρ (ρ v0 10) 1) : Nat) : Int)), (0, v1)]) (rest := []) (E0 := [(2, (((ρ (ρ v0 10) 1) : Nat) : Int)), (0, v1)]) (v := some (0, q12)) (h1 := (G, ρ, m)) hm rfl (by omega) ⟨Nat.le_of_ble_eq_true rfl, Nat.le_of_ble_eq_true rfl⟩ (rc2 rfl g11) rfl rfl ml_33 rfl (Nat.le_of_ble_eq_true rfl) (tf33 h12 (by omega)) ?_
            show Ex d 128 23 [(2, ((v0 : Nat) : Int)), (0, v1), (0, v2), (0, v3), (0, v4), (9, 0), (9, 0), (9, 0), (9, 0), (9, 0)] [(0, q12)] (G, ρ, m) rr
            refine Ex_run 1 (i' := 24) (L' := [(2, ((v0 : Nat) : Int)), (0, v1), (0, v2), (0, v3), (0, v4), (9, 0), (9, 0), (9, 0), (9, 0), (9, 0)]) (st' := [(0, v2), (0, q12)]) (h' := (G, ρ, m)) hm rfl cjn ?_
            by_cases c13 : q12 = v2
            · replace e := it_p e c13
              refine Ex_if2t (c := 0) (tgt := 27) hm rfl (bt0 c13) ?_
              exact tf128_27 e hd rr hk _
            · replace e := it_n e c13
              refine Ex_if2f (c := 0) (tgt := 27) hm rfl (bf0 c13) ?_
              refine Ex_run 1 (i' := 26) (L' := [(2, ((v0 : Nat) : Int)), (0, v1), (0, v2), (0, v3), (0, v4), (9, 0), (9, 0), (9, 0), (9, 0), (9, 0)]) (st' := [(0, (-13))]) (h' := (G, ρ, m)) hm rfl cjn ?_
              cases e
              cases hk
              exact Ex_ret (k := 1) hm rfl ⟨_, rfl, rfl⟩
          · replace e := it_n e c10
            refine Ex_if1t (c := 1) (tgt := 27) hm rfl (bt1 c10) ?_
            exact tf128_27 e hd rr hk _
theorem tf138_13 {G : Gg} {ρ : Rg} {d : Nat} {v0 : Int} {v1 : Int} {m : Sg} {x : Int} (e : f138_13 G ρ v0 v1 m = some x) (hd : 0 ≤ d) (rr : Option MV × Mh) (hk : (Bpi G ρ m) x rr) : Ex d 138 13 [(0, v0), (0, v1)] [] (G, ρ, m) rr := by
  unfold f138_13 at e
  have hm := mi_138
  refine Ex_run 2 (i' := 15) (L' := [(0, v0), (0, v1)]) (st' := [(0, 5), (0, v0)]) (h' := (G, ρ, m)) hm rfl cjn ?_
  by_cases c5 : v0 = 5
  · replace e := it_p e c5
    refine Ex_if2f (c := 1) (tgt := 21) hm rfl (bf1 c5) ?_
    refine Ex_run 2 (i' := 18) (L' := [(0, v0), (0, v1)]) (st' := [(0, 3), (0, v1)]) (h' := (G, ρ, m)) hm rfl cjn ?_
    by_cases c6 : v1 = 3
    · replace e := it_p e c6
      refine Ex_if2f (c := 1) (tgt := 21) hm rfl (bf1 c6) ?_
      refine Ex_run 2 (i' := 22) (L' := [(0, v0), (0, v1)]) (st' := [(0, 1)]) (h' := (G, ρ, m)) hm rfl cjn ?_
      cases e
      cases hk
      exact Ex_ret (k := 2) hm rfl ⟨_, rfl, by decide, rfl⟩
    · replace e := it_n e c6
      refine Ex_if2t (c := 1) (tgt := 21) hm rfl (bt1 c6) ?_
      refine Ex_run 1 (i' := 22) (L' := [(0, v0), (0, v1)]) (st' := [(0, 0)]) (h' := (G, ρ, m)) hm rfl cjn ?_
      cases e
      cases hk
      exact Ex_ret (k := 2) hm rfl ⟨_, rfl, by decide, rfl⟩
  · replace e := it_n e c5
    refine Ex_if2t (c := 1) (tgt := 21) hm rfl (bt1 c5) ?_
    refine Ex_run 1 (i' := 22) (L' := [(0, v0), (0, v1)]) (st' := [(0, 0)]) (h' := (G, ρ, m)) hm rfl cjn ?_
    cases e
    cases hk
    exact Ex_ret (k := 2) hm rfl ⟨_, rfl, by decide, rfl⟩
theorem tf138 {G : Gg} {ρ : Rg} {d : Nat} {v0 : Int} {v1 : Int} {m : Sg} {x : Int} (e : f138 G ρ v0 v1 m = some x) (hd : 0 ≤ d) : Ex d 138 0 [(0, v0), (0, v1)] [] (G, ρ, m) (some (0, x), (G, ρ, m)) := by
  unfold f138 at e
  have hm := mi_138
  generalize hk : (some (0, x), (G, ρ, m)) = rr
  replace hk : (Bpi G ρ m) x rr := hk.symm
  refine Ex_run 2 (i' := 2) (L' := [(0, v0), (0, v1)]) (st' := [(0, v1), (0, v0)]) (h' := (G, ρ, m)) hm rfl cjn ?_
  by_cases c1 : v0 = v1
  · replace e := it_p e c1
    refine Ex_if2t (c := 0) (tgt := 5) hm rfl (bt0 c1) ?_
    refine Ex_run 1 (i' := 6) (L' := [(0, v0), (0, v1)]) (st' := [(0, 1)]) (h' := (G, ρ, m)) hm rfl cjn ?_
    cases e
    cases hk
    exact Ex_ret (k := 2) hm rfl ⟨_, rfl, by decide, rfl⟩
  · replace e := it_n e c1
    refine Ex_if2f (c := 0) (tgt := 5) hm rfl (bf0 c1) ?_
    refine Ex_run 1 (i' := 4) (L' := [(0, v0), (0, v1)]) (st' := [(0, v1)]) (h' := (G, ρ, m)) hm rfl cjn ?_
    by_cases c2 : v1 = 0
    · replace e := it_p e c2
      refine Ex_if1f (c := 1) (tgt := 7) hm rfl (bf1 c2) ?_
      refine Ex_run 1 (i' := 6) (L' := [(0, v0), (0, v1)]) (st' := [(0, 1)]) (h' := (G, ρ, m)) hm rfl cjn ?_
      cases e
      cases hk
      exact Ex_ret (k := 2) hm rfl ⟨_, rfl, by decide, rfl⟩
    · replace e := it_n e c2
      refine Ex_if1t (c := 1) (tgt := 7) hm rfl (bt1 c2) ?_
      refine Ex_run 2 (i' := 9) (L' := [(0, v0), (0, v1)]) (st' := [(0, 4), (0, v0)]) (h' := (G, ρ, m)) hm rfl cjn ?_
      by_cases c3 : v0 = 4
      · replace e := it_p e c3
        refine Ex_if2f (c := 1) (tgt := 13) hm rfl (bf1 c3) ?_
        refine Ex_run 2 (i' := 12) (L' := [(0, v0), (0, v1)]) (st' := [(0, 1), (0, v1)]) (h' := (G, ρ, m)) hm rfl cjn ?_
        by_cases c4 : v1 = 1
        · replace e := it_p e c4
          refine Ex_if2t (c := 0) (tgt := 19) hm rfl (bt0 c4) ?_
          refine Ex_run 2 (i' := 22) (L' := [(0, v0), (0, v1)]) (st' := [(0, 1)]) (h' := (G, ρ, m)) hm rfl cjn ?_
          cases e
          cases hk
          exact Ex_ret (k := 2) hm rfl ⟨_, rfl, by decide, rfl⟩
        · replace e := it_n e c4
          refine Ex_if2f (c := 0) (tgt := 19) hm rfl (bf0 c4) ?_
          exact tf138_13 e hd rr hk
      · replace e := it_n e c3
        refine Ex_if2t (c := 1) (tgt := 13) hm rfl (bt1 c3) ?_
        exact tf138_13 e hd rr hk
theorem tf129 {G : Gg} {ρ : Rg} {d : Nat} {v0 : Nat} {v1 : Int} {v2 : Int} {m : Sg} {x : Int} (e : f129 G ρ v0 v1 v2 m = some x) (hd : 1 ≤ d) : Ex d 129 0 [(2, ((v0 : Nat) : Int)), (0, v1), (0, v2)] [] (G, ρ, m) (some (0, x), (G, ρ, m)) := by
  unfold f129 at e
  have hm := mi_129
  generalize hk : (some (0, x), (G, ρ, m)) = rr
  replace hk : (Bpi G ρ m) x rr := hk.symm
  refine Ex_run 1 (i' := 1) (L' := [(2, ((v0 : Nat) : Int)), (0, v1), (0, v2)]) (st' := [(0, v2)]) (h' := (G, ρ, m)) hm rfl cjn ?_
  obtain ⟨q1, h1, e⟩ := bn_s e
  refine Ex_callm (z := 130) (na := 1) (ck := 0) (as := [(0, v2)]) (rest := []) (E0 := [(0, v2)]) (v := some (0, q1)) (h1 := (G, ρ, m)) hm rfl (by omega) ⟨Nat.le_of_ble_eq_true rfl, Nat.le_of_ble_eq_true rfl⟩ (trivial) rfl rfl ml_130 rfl (Nat.le_of_ble_eq_true rfl) (tf130 h1 (by omega)) ?_
  show Ex d 129 2 [(2, ((v0 : Nat) : Int)), (0, v1), (0, v2)] [(0, q1)] (G, ρ, m) rr
  by_cases c2 : q1 = 0
  · replace e := it_p e c2
    refine Ex_if1f (c := 1) (tgt := 5) hm rfl (bf1 c2) ?_
    refine Ex_run 1 (i' := 4) (L' := [(2, ((v0 : Nat) : Int)), (0, v1), (0, v2)]) (st' := [(0, (-2))]) (h' := (G, ρ, m)) hm rfl cjn ?_
    cases e
    cases hk
    exact Ex_ret (k := 1) hm rfl ⟨_, rfl, rfl⟩
  · replace e := it_n e c2
    refine Ex_if1t (c := 1) (tgt := 5) hm rfl (bt1 c2) ?_
    obtain ⟨g3, e⟩ := gd_s e
    refine Ex_run 3 (i' := 8) (L' := [(2, ((v0 : Nat) : Int)), (0, v1), (0, v2)]) (st' := [(0, v1), (2, (((ρ v0 0) : Nat) : Int))]) (h' := (G, ρ, m)) hm rfl (cjc (gk_b g3) cjn) ?_
    obtain ⟨g4, e⟩ := gd_s e
    obtain ⟨q5, h5, e⟩ := bn_s e
    refine Ex_callm (z := 38) (na := 2) (ck := 7) (as := [(2, (((ρ v0 0) : Nat) : Int)), (0, v1)]) (rest := []) (E0 := [(2, (((ρ v0 0) : Nat) : Int)), (0, v1)]) (v := some (0, q5)) (h1 := (G, ρ, m)) hm rfl (by omega) ⟨Nat.le_of_ble_eq_true rfl, Nat.le_of_ble_eq_true rfl⟩ (rc2 rfl g4) rfl rfl ml_38 rfl (Nat.le_of_ble_eq_true rfl) (tf38 h5 (by omega)) ?_
    show Ex d 129 9 [(2, ((v0 : Nat) : Int)), (0, v1), (0, v2)] [(0, q5)] (G, ρ, m) rr
    by_cases c6 : q5 = 0
    · replace e := it_p e c6
      refine Ex_if1f (c := 1) (tgt := 12) hm rfl (bf1 c6) ?_
      refine Ex_run 1 (i' := 11) (L' := [(2, ((v0 : Nat) : Int)), (0, v1), (0, v2)]) (st' := [(0, (-11))]) (h' := (G, ρ, m)) hm rfl cjn ?_
      cases e
      cases hk
      exact Ex_ret (k := 1) hm rfl ⟨_, rfl, rfl⟩
    · replace e := it_n e c6
      refine Ex_if1t (c := 1) (tgt := 12) hm rfl (bt1 c6) ?_
      refine Ex_run 4 (i' := 16) (L' := [(2, ((v0 : Nat) : Int)), (0, v1), (0, v2)]) (st' := [(0, v1), (2, (((ρ (ρ v0 0) 1) : Nat) : Int))]) (h' := (G, ρ, m)) hm rfl (cjc (gk_b g3) (cjc (gk_b g4) cjn)) ?_
      obtain ⟨g7, e⟩ := gd_s e
      obtain ⟨q8, h8, e⟩ := bn_s e
      refine Ex_callm (z := 33) (na := 2) (ck := 6) (as := [(2, (((ρ (ρ v0 0) 1) : Nat) : Int)), (0, v1)]) (rest := []) (E0 := [(2, (((ρ (ρ v0 0) 1) : Nat) : Int)), (0, v1)]) (v := some (0, q8)) (h1 := (G, ρ, m)) hm rfl (by omega) ⟨Nat.le_of_ble_eq_true rfl, Nat.le_of_ble_eq_true rfl⟩ (rc2 rfl g7) rfl rfl ml_33 rfl (Nat.le_of_ble_eq_true rfl) (tf33 h8 (by omega)) ?_
      show Ex d 129 17 [(2, ((v0 : Nat) : Int)), (0, v1), (0, v2)] [(0, q8)] (G, ρ, m) rr
      refine Ex_run 1 (i' := 18) (L' := [(2, ((v0 : Nat) : Int)), (0, v1), (0, v2)]) (st' := [(0, v2), (0, q8)]) (h' := (G, ρ, m)) hm rfl cjn ?_
      obtain ⟨q9, h9, e⟩ := bn_s e
      refine Ex_callm (z := 138) (na := 2) (ck := 0) (as := [(0, q8), (0, v2)]) (rest := []) (E0 := [(0, q8), (0, v2)]) (v := some (0, q9)) (h1 := (G, ρ, m)) hm rfl (by omega) ⟨Nat.le_of_ble_eq_true rfl, Nat.le_of_ble_eq_true rfl⟩ (trivial) rfl rfl ml_138 rfl (Nat.le_of_ble_eq_true rfl) (tf138 h9 (by omega)) ?_
      show Ex d 129 19 [(2, ((v0 : Nat) : Int)), (0, v1), (0, v2)] [(0, q9)] (G, ρ, m) rr
      by_cases c10 : q9 = 0
      · replace e := it_p e c10
        refine Ex_if1t (c := 0) (tgt := 26) hm rfl (bt0 c10) ?_
        refine Ex_run 1 (i' := 27) (L' := [(2, ((v0 : Nat) : Int)), (0, v1), (0, v2)]) (st' := [(0, (-13))]) (h' := (G, ρ, m)) hm rfl cjn ?_
        cases e
        cases hk
        exact Ex_ret (k := 1) hm rfl ⟨_, rfl, rfl⟩
      · replace e := it_n e c10
        refine Ex_if1f (c := 0) (tgt := 26) hm rfl (bf0 c10) ?_
        refine Ex_run 4 (i' := 24) (L' := [(2, ((v0 : Nat) : Int)), (0, v1), (0, v2)]) (st' := [(0, v1), (2, (((ρ (ρ v0 0) 2) : Nat) : Int))]) (h' := (G, ρ, m)) hm rfl (cjc (gk_b g3) (cjc (gk_b g4) cjn)) ?_
        obtain ⟨g11, e⟩ := gd_s e
        obtain ⟨q12, h12, e⟩ := bn_s e
        refine Ex_callm (z := 33) (na := 2) (ck := 6) (as := [(2, (((ρ (ρ v0 0) 2) : Nat) : Int)), (0, v1)]) (rest := []) (E0 := [(2, (((ρ (ρ v0 0) 2) : Nat) : Int)), (0, v1)]) (v := some (0, q12)) (h1 := (G, ρ, m)) hm rfl (by omega) ⟨Nat.le_of_ble_eq_true rfl, Nat.le_of_ble_eq_true rfl⟩ (rc2 rfl g11) rfl rfl ml_33 rfl (Nat.le_of_ble_eq_true rfl) (tf33 h12 (by omega)) ?_
        show Ex d 129 25 [(2, ((v0 : Nat) : Int)), (0, v1), (0, v2)] [(0, q12)] (G, ρ, m) rr
        refine Ex_run 1 (i' := 27) (L' := [(2, ((v0 : Nat) : Int)), (0, v1), (0, v2)]) (st' := [(0, q12)]) (h' := (G, ρ, m)) hm rfl cjn ?_
        cases e
        cases hk
        exact Ex_ret (k := 1) hm rfl ⟨_, rfl, rfl⟩
theorem tf143 {G : Gg} {ρ : Rg} {d : Nat} {v0 : Int} {v2 : Int} {v4 : Int} {m : Sg} {x : Int} (e : f143 G ρ v0 v2 v4 m = some x) (hd : 0 ≤ d) : Ex d 143 0 [(1, v0), (9, 0), (1, v2), (9, 0), (1, v4), (9, 0)] [] (G, ρ, m) (some (0, x), (G, ρ, m)) := by
  unfold f143 at e
  have hm := mi_143
  generalize hk : (some (0, x), (G, ρ, m)) = rr
  replace hk : (Bpi G ρ m) x rr := hk.symm
  refine Ex_run 3 (i' := 3) (L' := [(1, v0), (9, 0), (1, v2), (9, 0), (1, v4), (9, 0)]) (st' := [(0, (lcm3 v0 v2))]) (h' := (G, ρ, m)) hm rfl cjn ?_
  by_cases c1 : v0 < v2
  · replace e := it_p e c1
    refine Ex_if1t (c := 2) (tgt := 10) hm rfl (cm_lc 2 _ _ (bt2 c1)) ?_
    refine Ex_run 1 (i' := 11) (L' := [(1, v0), (9, 0), (1, v2), (9, 0), (1, v4), (9, 0)]) (st' := [(0, 0)]) (h' := (G, ρ, m)) hm rfl cjn ?_
    cases e
    cases hk
    exact Ex_ret (k := 2) hm rfl ⟨_, rfl, by decide, rfl⟩
  · replace e := it_n e c1
    refine Ex_if1f (c := 2) (tgt := 10) hm rfl (cm_lc 2 _ _ (bf2 c1)) ?_
    refine Ex_run 3 (i' := 7) (L' := [(1, v0), (9, 0), (1, v2), (9, 0), (1, v4), (9, 0)]) (st' := [(0, (lcm3 v0 v4))]) (h' := (G, ρ, m)) hm rfl cjn ?_
    by_cases c2 : v4 < v0
    · replace e := it_p e c2
      refine Ex_if1t (c := 4) (tgt := 10) hm rfl (cm_lc 4 _ _ (bt4 c2)) ?_
      refine Ex_run 1 (i' := 11) (L' := [(1, v0), (9, 0), (1, v2), (9, 0), (1, v4), (9, 0)]) (st' := [(0, 0)]) (h' := (G, ρ, m)) hm rfl cjn ?_
      cases e
      cases hk
      exact Ex_ret (k := 2) hm rfl ⟨_, rfl, by decide, rfl⟩
    · replace e := it_n e c2
      refine Ex_if1f (c := 4) (tgt := 10) hm rfl (cm_lc 4 _ _ (bf4 c2)) ?_
      refine Ex_run 2 (i' := 11) (L' := [(1, v0), (9, 0), (1, v2), (9, 0), (1, v4), (9, 0)]) (st' := [(0, 1)]) (h' := (G, ρ, m)) hm rfl cjn ?_
      cases e
      cases hk
      exact Ex_ret (k := 2) hm rfl ⟨_, rfl, by decide, rfl⟩
theorem tf145_b2 {G : Gg} {ρ : Rg} {d : Nat} {v0 : Nat} {v1 : Int} {v2 : Int} {s : Int × Sg} {x : (Int × Sg) ⊕ (Sg)} (e : f145_b2 G ρ v0 v1 v2 s = some x) (hd : 0 ≤ d) (rr : Option MV × Mh) (hk : (DS (e145_2 G ρ d v0 v1 v2) (Bv G ρ)) x rr) : e145_2 G ρ d v0 v1 v2 s rr := by
  unfold f145_b2 at e
  have hm := mi_145
  show Ex d 145 2 [(2, ((v0 : Nat) : Int)), (0, v1), (1, v2), (9, 0), (0, s.1)] [] (G, ρ, s.2) rr
  refine Ex_run 2 (i' := 4) (L' := [(2, ((v0 : Nat) : Int)), (0, v1), (1, v2), (9, 0), (0, s.1)]) (st' := [(0, 8), (0, s.1)]) (h' := (G, ρ, s.2)) hm rfl cjn ?_
  by_cases c1 : s.1 < 8
  · replace e := it_p e c1
    refine Ex_if2f (c := 3) (tgt := 23) hm rfl (bf3 c1) ?_
    obtain ⟨g2, e⟩ := gd_s e
    obtain ⟨g3, e⟩ := gd_s e
    obtain ⟨g4, e⟩ := gd_s e
    refine Ex_run 18 (i' := 2) (L' := [(2, ((v0 : Nat) : Int)), (0, v1), (1, v2), (9, 0), (0, (w32 (s.1 + 1)))]) (st' := []) (h' := (G, ρ, (put s.2 (ρ v0 24) (g_add v1 s.1) (w32 (k_and (k_shr v2 (g_sub 56 (g_mul 8 s.1))) 255))))) hm rfl (cjc (gk_b g2) (cjc (gk_b g3) (cjc g4 cjn))) ?_
    cases e
    exact hk
  · replace e := it_n e c1
    refine Ex_if2t (c := 3) (tgt := 23) hm rfl (bt3 c1) ?_
    obtain ⟨x, e, hx⟩ := xr_s e
    replace hk : (Bv G ρ) x rr := by rw [hx] at hk; exact hk
    cases e
    cases hk
    exact Ex_ret (k := 0) hm rfl ⟨rfl, rfl⟩
theorem tf145 {G : Gg} {ρ : Rg} {d : Nat} {v0 : Nat} {v1 : Int} {v2 : Int} {m : Sg} {x : Sg} (e : f145 G ρ v0 v1 v2 m = some x) (hd : 0 ≤ d) : Ex d 145 0 [(2, ((v0 : Nat) : Int)), (0, v1), (1, v2), (9, 0), (9, 0)] [] (G, ρ, m) (none, (G, ρ, x)) := by
  unfold f145 at e
  have hm := mi_145
  generalize hk : (none, (G, ρ, x)) = rr
  replace hk : (Bv G ρ) x rr := hk.symm
  refine Ex_run 2 (i' := 2) (L' := [(2, ((v0 : Nat) : Int)), (0, v1), (1, v2), (9, 0), (0, 0)]) (st' := []) (h' := (G, ρ, m)) hm rfl (cjc (Nat.le_of_ble_eq_true rfl) cjn) ?_
  exact (Ex_lp (A := e145_2 G ρ d v0 v1 v2 ) (B := (Bv G ρ)) (fun s x e rr hk => tf145_b2 e hd rr hk) FU _ _ e rr hk)
theorem tf144_b156 {d : Nat} {v0 : Nat} {s : Int × Mh} {x : (Int × Mh) ⊕ (Mh)} (e : f144_b156 v0 s = some x) (hd : 1 ≤ d) (rr : Option MV × Mh) (hk : (DS (e144_156 d v0) Hv) x rr) : e144_156 d v0 s rr := by
  unfold f144_b156 at e
  have hm := mi_144
  show ∀ (j1 : Int) (j2 : Int), Ex d 144 156 [(2, ((v0 : Nat) : Int)), (0, j1), (0, j2), (0, s.1)] [] (s.2.1, s.2.2.1, s.2.2.2) rr
  intro j1 j2
  refine Ex_run 2 (i' := 158) (L' := [(2, ((v0 : Nat) : Int)), (0, j1), (0, j2), (0, s.1)]) (st' := [(0, 4), (0, s.1)]) (h' := (s.2.1, s.2.2.1, s.2.2.2)) hm rfl cjn ?_
  by_cases c67 : s.1 < 4
  · replace e := it_p e c67
    refine Ex_if2f (c := 3) (tgt := 166) hm rfl (bf3 c67) ?_
    obtain ⟨g68, e⟩ := gd_s e
    obtain ⟨g69, e⟩ := gd_s e
    obtain ⟨g70, e⟩ := gd_s e
    refine Ex_run 7 (i' := 156) (L' := [(2, ((v0 : Nat) : Int)), (0, j1), (0, j2), (0, (w32 (s.1 + 1)))]) (st' := []) (h' := (s.2.1, s.2.2.1, (put s.2.2.2 (s.2.2.1 v0 48) s.1 20))) hm rfl (cjc (gk_b g68) (cjc (gk_b g69) (cjc g70 cjn))) ?_
    cases e
    exact hk _ _
  · replace e := it_n e c67
    refine Ex_if2t (c := 3) (tgt := 166) hm rfl (bt3 c67) ?_
    obtain ⟨x, e, hx⟩ := xr_s e
    replace hk : Hv x rr := by rw [hx] at hk; exact hk
    cases e
    cases hk
    exact Ex_ret (k := 0) hm rfl ⟨rfl, rfl⟩
theorem tf144_b144 {d : Nat} {v0 : Nat} {s : Int × Mh} {x : (Int × Mh) ⊕ (Mh)} (e : f144_b144 v0 s = some x) (hd : 1 ≤ d) (rr : Option MV × Mh) (hk : (DS (e144_144 d v0) Hv) x rr) : e144_144 d v0 s rr := by
  unfold f144_b144 at e
  have hm := mi_144
  show ∀ (j1 : Int) (j2 : Int), Ex d 144 144 [(2, ((v0 : Nat) : Int)), (0, j1), (0, j2), (0, s.1)] [] (s.2.1, s.2.2.1, s.2.2.2) rr
  intro j1 j2
  refine Ex_run 2 (i' := 146) (L' := [(2, ((v0 : Nat) : Int)), (0, j1), (0, j2), (0, s.1)]) (st' := [(0, 8), (0, s.1)]) (h' := (s.2.1, s.2.2.1, s.2.2.2)) hm rfl cjn ?_
  by_cases c63 : s.1 < 8
  · replace e := it_p e c63
    refine Ex_if2f (c := 3) (tgt := 154) hm rfl (bf3 c63) ?_
    obtain ⟨g64, e⟩ := gd_s e
    obtain ⟨g65, e⟩ := gd_s e
    obtain ⟨g66, e⟩ := gd_s e
    refine Ex_run 7 (i' := 144) (L' := [(2, ((v0 : Nat) : Int)), (0, j1), (0, j2), (0, (w32 (s.1 + 1)))]) (st' := []) (h' := (s.2.1, s.2.2.1, (put s.2.2.2 (s.2.2.1 v0 46) s.1 (-1)))) hm rfl (cjc (gk_b g64) (cjc (gk_b g65) (cjc g66 cjn))) ?_
    cases e
    exact hk _ _
  · replace e := it_n e c63
    refine Ex_if2t (c := 3) (tgt := 154) hm rfl (bt3 c63) ?_
    obtain ⟨x, e, hx⟩ := xr_s e
    replace hk : Hv x rr := by rw [hx] at hk; exact hk
    refine Ex_run 2 (i' := 156) (L' := [(2, ((v0 : Nat) : Int)), (0, j1), (0, j2), (0, 0)]) (st' := []) (h' := (s.2.1, s.2.2.1, s.2.2.2)) hm rfl (cjc (Nat.le_of_ble_eq_true rfl) cjn) ?_
    exact (Ex_lp (A := e144_156 d v0 ) (B := Hv) (fun s x e rr hk => tf144_b156 e hd rr hk) FU _ _ e rr hk) _ _
theorem tf144_141 {d : Nat} {v0 : Nat} {w0 : Int} {w1 : Int} {w2 : Nat} {h : Mh} {x : Mh} (e : f144_141 v0 w0 w1 w2 h = some x) (hd : 1 ≤ d) (rr : Option MV × Mh) (hk : Hv x rr) (j1 : Int) (j2 : Int) : Ex d 144 141 [(2, ((v0 : Nat) : Int)), (0, j1), (0, j2), (9, 0)] [(0, w0), (0, w1), (2, ((w2 : Nat) : Int))] h rr := by
  unfold f144_141 at e
  have hm := mi_144
  obtain ⟨g61, e⟩ := gd_s e
  obtain ⟨g62, e⟩ := gd_s e
  refine Ex_run 3 (i' := 144) (L' := [(2, ((v0 : Nat) : Int)), (0, j1), (0, j2), (0, 0)]) (st' := []) (h' := (h.1, h.2.1, (put h.2.2 w2 w1 w0))) hm rfl (cjc (gk_b g61) (cjc g62 (cjc (Nat.le_of_ble_eq_true rfl) cjn))) ?_
  exact (Ex_lp (A := e144_144 d v0 ) (B := Hv) (fun s x e rr hk => tf144_b144 e hd rr hk) FU _ _ e rr hk) _ _
theorem tf144_136 {d : Nat} {v0 : Nat} {w0 : Int} {w1 : Nat} {h : Mh} {x : Mh} (e : f144_136 v0 w0 w1 h = some x) (hd : 1 ≤ d) (rr : Option MV × Mh) (hk : Hv x rr) (j1 : Int) (j2 : Int) : Ex d 144 136 [(2, ((v0 : Nat) : Int)), (0, j1), (0, j2), (9, 0)] [(0, w0), (2, ((w1 : Nat) : Int))] h rr := by
  unfold f144_136 at e
  have hm := mi_144
  obtain ⟨g59, e⟩ := gd_s e
  obtain ⟨g60, e⟩ := gd_s e
  refine Ex_run 5 (i' := 141) (L' := [(2, ((v0 : Nat) : Int)), (0, j1), (0, j2), (9, 0)]) (st' := [(0, 1), (0, 12), (2, (((h.2.1 v0 4) : Nat) : Int))]) (h' := (h.1, h.2.1, (put h.2.2 w1 26 w0))) hm rfl (cjc (gk_b g59) (cjc (gk_b g60) cjn)) ?_
  exact tf144_141 e hd rr hk _ _
theorem tf144_111 {d : Nat} {v0 : Nat} {w0 : Int} {w1 : Int} {w2 : Nat} {h : Mh} {x : Mh} (e : f144_111 v0 w0 w1 w2 h = some x) (hd : 1 ≤ d) (rr : Option MV × Mh) (hk : Hv x rr) (j1 : Int) (j2 : Int) : Ex d 144 111 [(2, ((v0 : Nat) : Int)), (0, j1), (0, j2), (9, 0)] [(0, w0), (0, w1), (2, ((w2 : Nat) : Int))] h rr := by
  unfold f144_111 at e
  have hm := mi_144
  obtain ⟨g51, e⟩ := gd_s e
  refine Ex_run 5 (i' := 116) (L' := [(2, ((v0 : Nat) : Int)), (0, j1), (0, j2), (9, 0)]) (st' := [(1, 8386102063221141358), (0, 0), (2, ((v0 : Nat) : Int))]) (h' := (h.1, h.2.1, (put h.2.2 w2 1 (g_add w1 w0)))) hm rfl (cjc (gk_b g51) cjn) ?_
  obtain ⟨g52, e⟩ := gd_s e
  obtain ⟨q53, h53, e⟩ := bn_s e
  refine Ex_callm (z := 145) (na := 3) (ck := 15) (as := [(2, ((v0 : Nat) : Int)), (0, 0), (1, 8386102063221141358)]) (rest := []) (E0 := [(2, ((v0 : Nat) : Int)), (0, 0), (1, 8386102063221141358), (9, 0), (9, 0)]) (v := none) (h1 := (h.1, h.2.1, q53)) hm rfl (by omega) ⟨Nat.le_of_ble_eq_true rfl, Nat.le_of_ble_eq_true rfl⟩ (rc2 rfl g52) rfl rfl ml_145 rfl (Nat.le_of_ble_eq_true rfl) (tf145 h53 (by omega)) ?_
  show Ex d 144 117 [(2, ((v0 : Nat) : Int)), (0, j1), (0, j2), (9, 0)] [] (h.1, h.2.1, q53) rr
  refine Ex_run 3 (i' := 120) (L' := [(2, ((v0 : Nat) : Int)), (0, j1), (0, j2), (9, 0)]) (st' := [(1, 2322485678474358816), (0, 8), (2, ((v0 : Nat) : Int))]) (h' := (h.1, h.2.1, q53)) hm rfl cjn ?_
  obtain ⟨q54, h54, e⟩ := bn_s e
  refine Ex_callm (z := 145) (na := 3) (ck := 15) (as := [(2, ((v0 : Nat) : Int)), (0, 8), (1, 2322485678474358816)]) (rest := []) (E0 := [(2, ((v0 : Nat) : Int)), (0, 8), (1, 2322485678474358816), (9, 0), (9, 0)]) (v := none) (h1 := (h.1, h.2.1, q54)) hm rfl (by omega) ⟨Nat.le_of_ble_eq_true rfl, Nat.le_of_ble_eq_true rfl⟩ (rc2 rfl g52) rfl rfl ml_145 rfl (Nat.le_of_ble_eq_true rfl) (tf145 h54 (by omega)) ?_
  show Ex d 144 121 [(2, ((v0 : Nat) : Int)), (0, j1), (0, j2), (9, 0)] [] (h.1, h.2.1, q54) rr
  refine Ex_run 3 (i' := 124) (L' := [(2, ((v0 : Nat) : Int)), (0, j1), (0, j2), (9, 0)]) (st' := [(1, 7308889661990204192), (0, 16), (2, ((v0 : Nat) : Int))]) (h' := (h.1, h.2.1, q54)) hm rfl cjn ?_
  obtain ⟨q55, h55, e⟩ := bn_s e
  refine Ex_callm (z := 145) (na := 3) (ck := 15) (as := [(2, ((v0 : Nat) : Int)), (0, 16), (1, 7308889661990204192)]) (rest := []) (E0 := [(2, ((v0 : Nat) : Int)), (0, 16), (1, 7308889661990204192), (9, 0), (9, 0)]) (v := none) (h1 := (h.1, h.2.1, q55)) hm rfl (by omega) ⟨Nat.le_of_ble_eq_true rfl, Nat.le_of_ble_eq_true rfl⟩ (rc2 rfl g52) rfl rfl ml_145 rfl (Nat.le_of_ble_eq_true rfl) (tf145 h55 (by omega)) ?_
  show Ex d 144 125 [(2, ((v0 : Nat) : Int)), (0, j1), (0, j2), (9, 0)] [] (h.1, h.2.1, q55) rr
  refine Ex_run 3 (i' := 128) (L' := [(2, ((v0 : Nat) : Int)), (0, j1), (0, j2), (9, 0)]) (st' := [(1, 4332519055054348320), (0, 24), (2, ((v0 : Nat) : Int))]) (h' := (h.1, h.2.1, q55)) hm rfl cjn ?_
  obtain ⟨q56, h56, e⟩ := bn_s e
  refine Ex_callm (z := 145) (na := 3) (ck := 15) (as := [(2, ((v0 : Nat) : Int)), (0, 24), (1, 4332519055054348320)]) (rest := []) (E0 := [(2, ((v0 : Nat) : Int)), (0, 24), (1, 4332519055054348320), (9, 0), (9, 0)]) (v := none) (h1 := (h.1, h.2.1, q56)) hm rfl (by omega) ⟨Nat.le_of_ble_eq_true rfl, Nat.le_of_ble_eq_true rfl⟩ (rc2 rfl g52) rfl rfl ml_145 rfl (Nat.le_of_ble_eq_true rfl) (tf145 h56 (by omega)) ?_
  show Ex d 144 129 [(2, ((v0 : Nat) : Int)), (0, j1), (0, j2), (9, 0)] [] (h.1, h.2.1, q56) rr
  obtain ⟨g57, e⟩ := gd_s e
  obtain ⟨g58, e⟩ := gd_s e
  refine Ex_run 7 (i' := 136) (L' := [(2, ((v0 : Nat) : Int)), (0, j1), (0, j2), (9, 0)]) (st' := [(0, 1), (2, ((v0 : Nat) : Int))]) (h' := (h.1, h.2.1, (put q56 (h.2.1 v0 25) 0 32))) hm rfl (cjc (gk_b g52) (cjc (gk_b g57) (cjc g58 cjn))) ?_
  exact tf144_136 e hd rr hk _ _
theorem tf144_97 {d : Nat} {v0 : Nat} {v1 : Int} {w0 : Nat} {w1 : Nat} {h : Mh} {x : Mh} (e : f144_97 v0 v1 w0 w1 h = some x) (hd : 1 ≤ d) (rr : Option MV × Mh) (hk : Hv x rr) : Ex d 144 97 [(2, ((v0 : Nat) : Int)), (0, v1), (9, 0), (9, 0)] [(2, ((w0 : Nat) : Int)), (2, ((w1 : Nat) : Int))] h rr := by
  unfold f144_97 at e
  have hm := mi_144
  obtain ⟨g48, e⟩ := gd_s e
  obtain ⟨g49, e⟩ := gd_s e
  refine Ex_run 8 (i' := 105) (L' := [(2, ((v0 : Nat) : Int)), (0, v1), (0, (g_rem v1 7)), (9, 0)]) (st' := [(0, (g_rem v1 7)), (0, 4), (2, ((v0 : Nat) : Int))]) (h' := (h.1, (putR h.2.1 w1 52 w0), h.2.2)) hm rfl (cjc (gk_b g48) (cjc (nz_i g49) (cjc (by decide) (cjc (Nat.le_of_ble_eq_true rfl) cjn)))) ?_
  by_cases c50 : (g_rem v1 7) < 0
  · replace e := it_p e c50
    refine Ex_if1f (c := 3) (tgt := 110) hm rfl (bf3 c50) ?_
    refine Ex_run 4 (i' := 111) (L' := [(2, ((v0 : Nat) : Int)), (0, v1), (0, (g_rem v1 7)), (9, 0)]) (st' := [(0, (g_add (g_rem v1 7) 7)), (0, 4), (2, ((v0 : Nat) : Int))]) (h' := (h.1, (putR h.2.1 w1 52 w0), h.2.2)) hm rfl cjn ?_
    exact tf144_111 e hd rr hk _ _
  · replace e := it_n e c50
    refine Ex_if1t (c := 3) (tgt := 110) hm rfl (bt3 c50) ?_
    refine Ex_run 1 (i' := 111) (L' := [(2, ((v0 : Nat) : Int)), (0, v1), (0, (g_rem v1 7)), (9, 0)]) (st' := [(0, (g_rem v1 7)), (0, 4), (2, ((v0 : Nat) : Int))]) (h' := (h.1, (putR h.2.1 w1 52 w0), h.2.2)) hm rfl cjn ?_
    exact tf144_111 e hd rr hk _ _
theorem tf144_93 {d : Nat} {v0 : Nat} {v1 : Int} {w0 : Nat} {w1 : Nat} {h : Mh} {x : Mh} (e : f144_93 v0 v1 w0 w1 h = some x) (hd : 1 ≤ d) (rr : Option MV × Mh) (hk : Hv x rr) : Ex d 144 93 [(2, ((v0 : Nat) : Int)), (0, v1), (9, 0), (9, 0)] [(2, ((w0 : Nat) : Int)), (2, ((w1 : Nat) : Int))] h rr := by
  unfold f144_93 at e
  have hm := mi_144
  obtain ⟨g46, e⟩ := gd_s e
  obtain ⟨g47, e⟩ := gd_s e
  refine Ex_run 4 (i' := 97) (L' := [(2, ((v0 : Nat) : Int)), (0, v1), (9, 0), (9, 0)]) (st' := [(2, (((List.length h.1) : Nat) : Int)), (2, ((v0 : Nat) : Int))]) (h' := ((h.1 ++ [(0, Int.toNat 160)]), (zapR (putR h.2.1 w1 51 w0) (List.length h.1)), (zap h.2.2 (List.length h.1)))) hm rfl (cjc (gk_b g46) (cjc (nz_i g47) (cjc (by decide) cjn))) ?_
  exact tf144_97 e hd rr hk
theorem tf144_89 {d : Nat} {v0 : Nat} {v1 : Int} {w0 : Nat} {w1 : Nat} {h : Mh} {x : Mh} (e : f144_89 v0 v1 w0 w1 h = some x) (hd : 1 ≤ d) (rr : Option MV × Mh) (hk : Hv x rr) : Ex d 144 89 [(2, ((v0 : Nat) : Int)), (0, v1), (9, 0), (9, 0)] [(2, ((w0 : Nat) : Int)), (2, ((w1 : Nat) : Int))] h rr := by
  unfold f144_89 at e
  have hm := mi_144
  obtain ⟨g44, e⟩ := gd_s e
  obtain ⟨g45, e⟩ := gd_s e
  refine Ex_run 4 (i' := 93) (L' := [(2, ((v0 : Nat) : Int)), (0, v1), (9, 0), (9, 0)]) (st' := [(2, (((List.length h.1) : Nat) : Int)), (2, ((v0 : Nat) : Int))]) (h' := ((h.1 ++ [(0, Int.toNat 4)]), (zapR (putR h.2.1 w1 50 w0) (List.length h.1)), (zap h.2.2 (List.length h.1)))) hm rfl (cjc (gk_b g44) (cjc (nz_i g45) (cjc (by decide) cjn))) ?_
  exact tf144_93 e hd rr hk
theorem tf144_85 {d : Nat} {v0 : Nat} {v1 : Int} {w0 : Nat} {w1 : Nat} {h : Mh} {x : Mh} (e : f144_85 v0 v1 w0 w1 h = some x) (hd : 1 ≤ d) (rr : Option MV × Mh) (hk : Hv x rr) : Ex d 144 85 [(2, ((v0 : Nat) : Int)), (0, v1), (9, 0), (9, 0)] [(2, ((w0 : Nat) : Int)), (2, ((w1 : Nat) : Int))] h rr := by
  unfold f144_85 at e
  have hm := mi_144
  obtain ⟨g42, e⟩ := gd_s e
  obtain ⟨g43, e⟩ := gd_s e
  refine Ex_run 4 (i' := 89) (L' := [(2, ((v0 : Nat) : Int)), (0, v1), (9, 0), (9, 0)]) (st' := [(2, (((List.length h.1) : Nat) : Int)), (2, ((v0 : Nat) : Int))]) (h' := ((h.1 ++ [(0, Int.toNat 4)]), (zapR (putR h.2.1 w1 49 w0) (List.length h.1)), (zap h.2.2 (List.length h.1)))) hm rfl (cjc (gk_b g42) (cjc (nz_i g43) (cjc (by decide) cjn))) ?_
  exact tf144_89 e hd rr hk
theorem tf144_81 {d : Nat} {v0 : Nat} {v1 : Int} {w0 : Nat} {w1 : Nat} {h : Mh} {x : Mh} (e : f144_81 v0 v1 w0 w1 h = some x) (hd : 1 ≤ d) (rr : Option MV × Mh) (hk : Hv x rr) : Ex d 144 81 [(2, ((v0 : Nat) : Int)), (0, v1), (9, 0), (9, 0)] [(2, ((w0 : Nat) : Int)), (2, ((w1 : Nat) : Int))] h rr := by
  unfold f144_81 at e
  have hm := mi_144
  obtain ⟨g40, e⟩ := gd_s e
  obtain ⟨g41, e⟩ := gd_s e
  refine Ex_run 4 (i' := 85) (L' := [(2, ((v0 : Nat) : Int)), (0, v1), (9, 0), (9, 0)]) (st' := [(2, (((List.length h.1) : Nat) : Int)), (2, ((v0 : Nat) : Int))]) (h' := ((h.1 ++ [(1, Int.toNat 4)]), (zapR (putR h.2.1 w1 48 w0) (List.length h.1)), (zap h.2.2 (List.length h.1)))) hm rfl (cjc (gk_b g40) (cjc (nz_i g41) (cjc (by decide) cjn))) ?_
  exact tf144_85 e hd rr hk
theorem tf144_77 {d : Nat} {v0 : Nat} {v1 : Int} {w0 : Nat} {w1 : Nat} {h : Mh} {x : Mh} (e : f144_77 v0 v1 w0 w1 h = some x) (hd : 1 ≤ d) (rr : Option MV × Mh) (hk : Hv x rr) : Ex d 144 77 [(2, ((v0 : Nat) : Int)), (0, v1), (9, 0), (9, 0)] [(2, ((w0 : Nat) : Int)), (2, ((w1 : Nat) : Int))] h rr := by
  unfold f144_77 at e
  have hm := mi_144
  obtain ⟨g38, e⟩ := gd_s e
  obtain ⟨g39, e⟩ := gd_s e
  refine Ex_run 4 (i' := 81) (L' := [(2, ((v0 : Nat) : Int)), (0, v1), (9, 0), (9, 0)]) (st' := [(2, (((List.length h.1) : Nat) : Int)), (2, ((v0 : Nat) : Int))]) (h' := ((h.1 ++ [(0, Int.toNat 4)]), (zapR (putR h.2.1 w1 47 w0) (List.length h.1)), (zap h.2.2 (List.length h.1)))) hm rfl (cjc (gk_b g38) (cjc (nz_i g39) (cjc (by decide) cjn))) ?_
  exact tf144_81 e hd rr hk
theorem tf144_73 {d : Nat} {v0 : Nat} {v1 : Int} {w0 : Nat} {w1 : Nat} {h : Mh} {x : Mh} (e : f144_73 v0 v1 w0 w1 h = some x) (hd : 1 ≤ d) (rr : Option MV × Mh) (hk : Hv x rr) : Ex d 144 73 [(2, ((v0 : Nat) : Int)), (0, v1), (9, 0), (9, 0)] [(2, ((w0 : Nat) : Int)), (2, ((w1 : Nat) : Int))] h rr := by
  unfold f144_73 at e
  have hm := mi_144
  obtain ⟨g36, e⟩ := gd_s e
  obtain ⟨g37, e⟩ := gd_s e
  refine Ex_run 4 (i' := 77) (L' := [(2, ((v0 : Nat) : Int)), (0, v1), (9, 0), (9, 0)]) (st' := [(2, (((List.length h.1) : Nat) : Int)), (2, ((v0 : Nat) : Int))]) (h' := ((h.1 ++ [(0, Int.toNat 8)]), (zapR (putR h.2.1 w1 46 w0) (List.length h.1)), (zap h.2.2 (List.length h.1)))) hm rfl (cjc (gk_b g36) (cjc (nz_i g37) (cjc (by decide) cjn))) ?_
  exact tf144_77 e hd rr hk
theorem tf144_69 {d : Nat} {v0 : Nat} {v1 : Int} {w0 : Nat} {w1 : Nat} {h : Mh} {x : Mh} (e : f144_69 v0 v1 w0 w1 h = some x) (hd : 1 ≤ d) (rr : Option MV × Mh) (hk : Hv x rr) : Ex d 144 69 [(2, ((v0 : Nat) : Int)), (0, v1), (9, 0), (9, 0)] [(2, ((w0 : Nat) : Int)), (2, ((w1 : Nat) : Int))] h rr := by
  unfold f144_69 at e
  have hm := mi_144
  obtain ⟨g34, e⟩ := gd_s e
  obtain ⟨g35, e⟩ := gd_s e
  refine Ex_run 4 (i' := 73) (L' := [(2, ((v0 : Nat) : Int)), (0, v1), (9, 0), (9, 0)]) (st' := [(2, (((List.length h.1) : Nat) : Int)), (2, ((v0 : Nat) : Int))]) (h' := ((h.1 ++ [(0, Int.toNat 8)]), (zapR (putR h.2.1 w1 28 w0) (List.length h.1)), (zap h.2.2 (List.length h.1)))) hm rfl (cjc (gk_b g34) (cjc (nz_i g35) (cjc (by decide) cjn))) ?_
  exact tf144_73 e hd rr hk
theorem tf144_65 {d : Nat} {v0 : Nat} {v1 : Int} {w0 : Nat} {w1 : Nat} {h : Mh} {x : Mh} (e : f144_65 v0 v1 w0 w1 h = some x) (hd : 1 ≤ d) (rr : Option MV × Mh) (hk : Hv x rr) : Ex d 144 65 [(2, ((v0 : Nat) : Int)), (0, v1), (9, 0), (9, 0)] [(2, ((w0 : Nat) : Int)), (2, ((w1 : Nat) : Int))] h rr := by
  unfold f144_65 at e
  have hm := mi_144
  obtain ⟨g32, e⟩ := gd_s e
  obtain ⟨g33, e⟩ := gd_s e
  refine Ex_run 4 (i' := 69) (L' := [(2, ((v0 : Nat) : Int)), (0, v1), (9, 0), (9, 0)]) (st' := [(2, (((List.length h.1) : Nat) : Int)), (2, ((v0 : Nat) : Int))]) (h' := ((h.1 ++ [(0, Int.toNat 160)]), (zapR (putR h.2.1 w1 25 w0) (List.length h.1)), (zap h.2.2 (List.length h.1)))) hm rfl (cjc (gk_b g32) (cjc (nz_i g33) (cjc (by decide) cjn))) ?_
  exact tf144_69 e hd rr hk
theorem tf144_61 {d : Nat} {v0 : Nat} {v1 : Int} {w0 : Nat} {w1 : Nat} {h : Mh} {x : Mh} (e : f144_61 v0 v1 w0 w1 h = some x) (hd : 1 ≤ d) (rr : Option MV × Mh) (hk : Hv x rr) : Ex d 144 61 [(2, ((v0 : Nat) : Int)), (0, v1), (9, 0), (9, 0)] [(2, ((w0 : Nat) : Int)), (2, ((w1 : Nat) : Int))] h rr := by
  unfold f144_61 at e
  have hm := mi_144
  obtain ⟨g30, e⟩ := gd_s e
  obtain ⟨g31, e⟩ := gd_s e
  refine Ex_run 4 (i' := 65) (L' := [(2, ((v0 : Nat) : Int)), (0, v1), (9, 0), (9, 0)]) (st' := [(2, (((List.length h.1) : Nat) : Int)), (2, ((v0 : Nat) : Int))]) (h' := ((h.1 ++ [(0, Int.toNat 6)]), (zapR (putR h.2.1 w1 24 w0) (List.length h.1)), (zap h.2.2 (List.length h.1)))) hm rfl (cjc (gk_b g30) (cjc (nz_i g31) (cjc (by decide) cjn))) ?_
  exact tf144_65 e hd rr hk
theorem tf144_57 {d : Nat} {v0 : Nat} {v1 : Int} {w0 : Nat} {w1 : Nat} {h : Mh} {x : Mh} (e : f144_57 v0 v1 w0 w1 h = some x) (hd : 1 ≤ d) (rr : Option MV × Mh) (hk : Hv x rr) : Ex d 144 57 [(2, ((v0 : Nat) : Int)), (0, v1), (9, 0), (9, 0)] [(2, ((w0 : Nat) : Int)), (2, ((w1 : Nat) : Int))] h rr := by
  unfold f144_57 at e
  have hm := mi_144
  obtain ⟨g28, e⟩ := gd_s e
  obtain ⟨g29, e⟩ := gd_s e
  refine Ex_run 4 (i' := 61) (L' := [(2, ((v0 : Nat) : Int)), (0, v1), (9, 0), (9, 0)]) (st' := [(2, (((List.length h.1) : Nat) : Int)), (2, ((v0 : Nat) : Int))]) (h' := ((h.1 ++ [(0, Int.toNat 960)]), (zapR (putR h.2.1 w1 22 w0) (List.length h.1)), (zap h.2.2 (List.length h.1)))) hm rfl (cjc (gk_b g28) (cjc (nz_i g29) (cjc (by decide) cjn))) ?_
  exact tf144_61 e hd rr hk
theorem tf144_53 {d : Nat} {v0 : Nat} {v1 : Int} {w0 : Nat} {w1 : Nat} {h : Mh} {x : Mh} (e : f144_53 v0 v1 w0 w1 h = some x) (hd : 1 ≤ d) (rr : Option MV × Mh) (hk : Hv x rr) : Ex d 144 53 [(2, ((v0 : Nat) : Int)), (0, v1), (9, 0), (9, 0)] [(2, ((w0 : Nat) : Int)), (2, ((w1 : Nat) : Int))] h rr := by
  unfold f144_53 at e
  have hm := mi_144
  obtain ⟨g26, e⟩ := gd_s e
  obtain ⟨g27, e⟩ := gd_s e
  refine Ex_run 4 (i' := 57) (L' := [(2, ((v0 : Nat) : Int)), (0, v1), (9, 0), (9, 0)]) (st' := [(2, (((List.length h.1) : Nat) : Int)), (2, ((v0 : Nat) : Int))]) (h' := ((h.1 ++ [(1, Int.toNat 100)]), (zapR (putR h.2.1 w1 21 w0) (List.length h.1)), (zap h.2.2 (List.length h.1)))) hm rfl (cjc (gk_b g26) (cjc (nz_i g27) (cjc (by decide) cjn))) ?_
  exact tf144_57 e hd rr hk
theorem tf144_49 {d : Nat} {v0 : Nat} {v1 : Int} {w0 : Nat} {w1 : Nat} {h : Mh} {x : Mh} (e : f144_49 v0 v1 w0 w1 h = some x) (hd : 1 ≤ d) (rr : Option MV × Mh) (hk : Hv x rr) : Ex d 144 49 [(2, ((v0 : Nat) : Int)), (0, v1), (9, 0), (9, 0)] [(2, ((w0 : Nat) : Int)), (2, ((w1 : Nat) : Int))] h rr := by
  unfold f144_49 at e
  have hm := mi_144
  obtain ⟨g24, e⟩ := gd_s e
  obtain ⟨g25, e⟩ := gd_s e
  refine Ex_run 4 (i' := 53) (L' := [(2, ((v0 : Nat) : Int)), (0, v1), (9, 0), (9, 0)]) (st' := [(2, (((List.length h.1) : Nat) : Int)), (2, ((v0 : Nat) : Int))]) (h' := ((h.1 ++ [(0, Int.toNat 100)]), (zapR (putR h.2.1 w1 20 w0) (List.length h.1)), (zap h.2.2 (List.length h.1)))) hm rfl (cjc (gk_b g24) (cjc (nz_i g25) (cjc (by decide) cjn))) ?_
  exact tf144_53 e hd rr hk
theorem tf144_45 {d : Nat} {v0 : Nat} {v1 : Int} {w0 : Nat} {w1 : Nat} {h : Mh} {x : Mh} (e : f144_45 v0 v1 w0 w1 h = some x) (hd : 1 ≤ d) (rr : Option MV × Mh) (hk : Hv x rr) : Ex d 144 45 [(2, ((v0 : Nat) : Int)), (0, v1), (9, 0), (9, 0)] [(2, ((w0 : Nat) : Int)), (2, ((w1 : Nat) : Int))] h rr := by
  unfold f144_45 at e
  have hm := mi_144
  obtain ⟨g22, e⟩ := gd_s e
  obtain ⟨g23, e⟩ := gd_s e
  refine Ex_run 4 (i' := 49) (L' := [(2, ((v0 : Nat) : Int)), (0, v1), (9, 0), (9, 0)]) (st' := [(2, (((List.length h.1) : Nat) : Int)), (2, ((v0 : Nat) : Int))]) (h' := ((h.1 ++ [(0, Int.toNat 100)]), (zapR (putR h.2.1 w1 19 w0) (List.length h.1)), (zap h.2.2 (List.length h.1)))) hm rfl (cjc (gk_b g22) (cjc (nz_i g23) (cjc (by decide) cjn))) ?_
  exact tf144_49 e hd rr hk
theorem tf144_41 {d : Nat} {v0 : Nat} {v1 : Int} {w0 : Nat} {w1 : Nat} {h : Mh} {x : Mh} (e : f144_41 v0 v1 w0 w1 h = some x) (hd : 1 ≤ d) (rr : Option MV × Mh) (hk : Hv x rr) : Ex d 144 41 [(2, ((v0 : Nat) : Int)), (0, v1), (9, 0), (9, 0)] [(2, ((w0 : Nat) : Int)), (2, ((w1 : Nat) : Int))] h rr := by
  unfold f144_41 at e
  have hm := mi_144
  obtain ⟨g20, e⟩ := gd_s e
  obtain ⟨g21, e⟩ := gd_s e
  refine Ex_run 4 (i' := 45) (L' := [(2, ((v0 : Nat) : Int)), (0, v1), (9, 0), (9, 0)]) (st' := [(2, (((List.length h.1) : Nat) : Int)), (2, ((v0 : Nat) : Int))]) (h' := ((h.1 ++ [(0, Int.toNat 100)]), (zapR (putR h.2.1 w1 18 w0) (List.length h.1)), (zap h.2.2 (List.length h.1)))) hm rfl (cjc (gk_b g20) (cjc (nz_i g21) (cjc (by decide) cjn))) ?_
  exact tf144_45 e hd rr hk
theorem tf144_37 {d : Nat} {v0 : Nat} {v1 : Int} {w0 : Nat} {w1 : Nat} {h : Mh} {x : Mh} (e : f144_37 v0 v1 w0 w1 h = some x) (hd : 1 ≤ d) (rr : Option MV × Mh) (hk : Hv x rr) : Ex d 144 37 [(2, ((v0 : Nat) : Int)), (0, v1), (9, 0), (9, 0)] [(2, ((w0 : Nat) : Int)), (2, ((w1 : Nat) : Int))] h rr := by
  unfold f144_37 at e
  have hm := mi_144
  obtain ⟨g18, e⟩ := gd_s e
  obtain ⟨g19, e⟩ := gd_s e
  refine Ex_run 4 (i' := 41) (L' := [(2, ((v0 : Nat) : Int)), (0, v1), (9, 0), (9, 0)]) (st' := [(2, (((List.length h.1) : Nat) : Int)), (2, ((v0 : Nat) : Int))]) (h' := ((h.1 ++ [(0, Int.toNat 12)]), (zapR (putR h.2.1 w1 17 w0) (List.length h.1)), (zap h.2.2 (List.length h.1)))) hm rfl (cjc (gk_b g18) (cjc (nz_i g19) (cjc (by decide) cjn))) ?_
  exact tf144_41 e hd rr hk
theorem tf144_33 {d : Nat} {v0 : Nat} {v1 : Int} {w0 : Nat} {w1 : Nat} {h : Mh} {x : Mh} (e : f144_33 v0 v1 w0 w1 h = some x) (hd : 1 ≤ d) (rr : Option MV × Mh) (hk : Hv x rr) : Ex d 144 33 [(2, ((v0 : Nat) : Int)), (0, v1), (9, 0), (9, 0)] [(2, ((w0 : Nat) : Int)), (2, ((w1 : Nat) : Int))] h rr := by
  unfold f144_33 at e
  have hm := mi_144
  obtain ⟨g16, e⟩ := gd_s e
  obtain ⟨g17, e⟩ := gd_s e
  refine Ex_run 4 (i' := 37) (L' := [(2, ((v0 : Nat) : Int)), (0, v1), (9, 0), (9, 0)]) (st' := [(2, (((List.length h.1) : Nat) : Int)), (2, ((v0 : Nat) : Int))]) (h' := ((h.1 ++ [(0, Int.toNat 12)]), (zapR (putR h.2.1 w1 16 w0) (List.length h.1)), (zap h.2.2 (List.length h.1)))) hm rfl (cjc (gk_b g16) (cjc (nz_i g17) (cjc (by decide) cjn))) ?_
  exact tf144_37 e hd rr hk
theorem tf144_29 {d : Nat} {v0 : Nat} {v1 : Int} {w0 : Nat} {w1 : Nat} {h : Mh} {x : Mh} (e : f144_29 v0 v1 w0 w1 h = some x) (hd : 1 ≤ d) (rr : Option MV × Mh) (hk : Hv x rr) : Ex d 144 29 [(2, ((v0 : Nat) : Int)), (0, v1), (9, 0), (9, 0)] [(2, ((w0 : Nat) : Int)), (2, ((w1 : Nat) : Int))] h rr := by
  unfold f144_29 at e
  have hm := mi_144
  obtain ⟨g14, e⟩ := gd_s e
  obtain ⟨g15, e⟩ := gd_s e
  refine Ex_run 4 (i' := 33) (L' := [(2, ((v0 : Nat) : Int)), (0, v1), (9, 0), (9, 0)]) (st' := [(2, (((List.length h.1) : Nat) : Int)), (2, ((v0 : Nat) : Int))]) (h' := ((h.1 ++ [(0, Int.toNat 12)]), (zapR (putR h.2.1 w1 12 w0) (List.length h.1)), (zap h.2.2 (List.length h.1)))) hm rfl (cjc (gk_b g14) (cjc (nz_i g15) (cjc (by decide) cjn))) ?_
  exact tf144_33 e hd rr hk
theorem tf144_25 {d : Nat} {v0 : Nat} {v1 : Int} {w0 : Nat} {w1 : Nat} {h : Mh} {x : Mh} (e : f144_25 v0 v1 w0 w1 h = some x) (hd : 1 ≤ d) (rr : Option MV × Mh) (hk : Hv x rr) : Ex d 144 25 [(2, ((v0 : Nat) : Int)), (0, v1), (9, 0), (9, 0)] [(2, ((w0 : Nat) : Int)), (2, ((w1 : Nat) : Int))] h rr := by
  unfold f144_25 at e
  have hm := mi_144
  obtain ⟨g12, e⟩ := gd_s e
  obtain ⟨g13, e⟩ := gd_s e
  refine Ex_run 4 (i' := 29) (L' := [(2, ((v0 : Nat) : Int)), (0, v1), (9, 0), (9, 0)]) (st' := [(2, (((List.length h.1) : Nat) : Int)), (2, ((v0 : Nat) : Int))]) (h' := ((h.1 ++ [(2, Int.toNat 20)]), (zapR (putR h.2.1 w1 11 w0) (List.length h.1)), (zap h.2.2 (List.length h.1)))) hm rfl (cjc (gk_b g12) (cjc (nz_i g13) (cjc (by decide) cjn))) ?_
  exact tf144_29 e hd rr hk
theorem tf144_21 {d : Nat} {v0 : Nat} {v1 : Int} {w0 : Nat} {w1 : Nat} {h : Mh} {x : Mh} (e : f144_21 v0 v1 w0 w1 h = some x) (hd : 1 ≤ d) (rr : Option MV × Mh) (hk : Hv x rr) : Ex d 144 21 [(2, ((v0 : Nat) : Int)), (0, v1), (9, 0), (9, 0)] [(2, ((w0 : Nat) : Int)), (2, ((w1 : Nat) : Int))] h rr := by
  unfold f144_21 at e
  have hm := mi_144
  obtain ⟨g10, e⟩ := gd_s e
  obtain ⟨g11, e⟩ := gd_s e
  refine Ex_run 4 (i' := 25) (L' := [(2, ((v0 : Nat) : Int)), (0, v1), (9, 0), (9, 0)]) (st' := [(2, (((List.length h.1) : Nat) : Int)), (2, ((v0 : Nat) : Int))]) (h' := ((h.1 ++ [(2, Int.toNat 20)]), (zapR (putR h.2.1 w1 7 w0) (List.length h.1)), (zap h.2.2 (List.length h.1)))) hm rfl (cjc (gk_b g10) (cjc (nz_i g11) (cjc (by decide) cjn))) ?_
  exact tf144_25 e hd rr hk
theorem tf144_17 {d : Nat} {v0 : Nat} {v1 : Int} {w0 : Nat} {w1 : Nat} {h : Mh} {x : Mh} (e : f144_17 v0 v1 w0 w1 h = some x) (hd : 1 ≤ d) (rr : Option MV × Mh) (hk : Hv x rr) : Ex d 144 17 [(2, ((v0 : Nat) : Int)), (0, v1), (9, 0), (9, 0)] [(2, ((w0 : Nat) : Int)), (2, ((w1 : Nat) : Int))] h rr := by
  unfold f144_17 at e
  have hm := mi_144
  obtain ⟨g8, e⟩ := gd_s e
  obtain ⟨g9, e⟩ := gd_s e
  refine Ex_run 4 (i' := 21) (L' := [(2, ((v0 : Nat) : Int)), (0, v1), (9, 0), (9, 0)]) (st' := [(2, (((List.length h.1) : Nat) : Int)), (2, ((v0 : Nat) : Int))]) (h' := ((h.1 ++ [(0, Int.toNat 10)]), (zapR (putR h.2.1 w1 6 w0) (List.length h.1)), (zap h.2.2 (List.length h.1)))) hm rfl (cjc (gk_b g8) (cjc (nz_i g9) (cjc (by decide) cjn))) ?_
  exact tf144_21 e hd rr hk
theorem tf144_13 {d : Nat} {v0 : Nat} {v1 : Int} {w0 : Nat} {w1 : Nat} {h : Mh} {x : Mh} (e : f144_13 v0 v1 w0 w1 h = some x) (hd : 1 ≤ d) (rr : Option MV × Mh) (hk : Hv x rr) : Ex d 144 13 [(2, ((v0 : Nat) : Int)), (0, v1), (9, 0), (9, 0)] [(2, ((w0 : Nat) : Int)), (2, ((w1 : Nat) : Int))] h rr := by
  unfold f144_13 at e
  have hm := mi_144
  obtain ⟨g6, e⟩ := gd_s e
  obtain ⟨g7, e⟩ := gd_s e
  refine Ex_run 4 (i' := 17) (L' := [(2, ((v0 : Nat) : Int)), (0, v1), (9, 0), (9, 0)]) (st' := [(2, (((List.length h.1) : Nat) : Int)), (2, ((v0 : Nat) : Int))]) (h' := ((h.1 ++ [(0, Int.toNat 10)]), (zapR (putR h.2.1 w1 4 w0) (List.length h.1)), (zap h.2.2 (List.length h.1)))) hm rfl (cjc (gk_b g6) (cjc (nz_i g7) (cjc (by decide) cjn))) ?_
  exact tf144_17 e hd rr hk
theorem tf144_9 {d : Nat} {v0 : Nat} {v1 : Int} {w0 : Nat} {w1 : Nat} {h : Mh} {x : Mh} (e : f144_9 v0 v1 w0 w1 h = some x) (hd : 1 ≤ d) (rr : Option MV × Mh) (hk : Hv x rr) : Ex d 144 9 [(2, ((v0 : Nat) : Int)), (0, v1), (9, 0), (9, 0)] [(2, ((w0 : Nat) : Int)), (2, ((w1 : Nat) : Int))] h rr := by
  unfold f144_9 at e
  have hm := mi_144
  obtain ⟨g4, e⟩ := gd_s e
  obtain ⟨g5, e⟩ := gd_s e
  refine Ex_run 4 (i' := 13) (L' := [(2, ((v0 : Nat) : Int)), (0, v1), (9, 0), (9, 0)]) (st' := [(2, (((List.length h.1) : Nat) : Int)), (2, ((v0 : Nat) : Int))]) (h' := ((h.1 ++ [(0, Int.toNat 14)]), (zapR (putR h.2.1 w1 3 w0) (List.length h.1)), (zap h.2.2 (List.length h.1)))) hm rfl (cjc (gk_b g4) (cjc (nz_i g5) (cjc (by decide) cjn))) ?_
  exact tf144_13 e hd rr hk
theorem tf144_5 {d : Nat} {v0 : Nat} {v1 : Int} {w0 : Nat} {w1 : Nat} {h : Mh} {x : Mh} (e : f144_5 v0 v1 w0 w1 h = some x) (hd : 1 ≤ d) (rr : Option MV × Mh) (hk : Hv x rr) : Ex d 144 5 [(2, ((v0 : Nat) : Int)), (0, v1), (9, 0), (9, 0)] [(2, ((w0 : Nat) : Int)), (2, ((w1 : Nat) : Int))] h rr := by
  unfold f144_5 at e
  have hm := mi_144
  obtain ⟨g2, e⟩ := gd_s e
  obtain ⟨g3, e⟩ := gd_s e
  refine Ex_run 4 (i' := 9) (L' := [(2, ((v0 : Nat) : Int)), (0, v1), (9, 0), (9, 0)]) (st' := [(2, (((List.length h.1) : Nat) : Int)), (2, ((v0 : Nat) : Int))]) (h' := ((h.1 ++ [(0, Int.toNat 140)]), (zapR (putR h.2.1 w1 2 w0) (List.length h.1)), (zap h.2.2 (List.length h.1)))) hm rfl (cjc (gk_b g2) (cjc (nz_i g3) (cjc (by decide) cjn))) ?_
  exact tf144_9 e hd rr hk
theorem tf144 {d : Nat} {v0 : Nat} {v1 : Int} {h : Mh} {x : Mh} (e : f144 v0 v1 h = some x) (hd : 1 ≤ d) : Ex d 144 0 [(2, ((v0 : Nat) : Int)), (0, v1), (9, 0), (9, 0)] [] h (none, x) := by
  unfold f144 at e
  have hm := mi_144
  generalize hk : (none, x) = rr
  replace hk : Hv x rr := hk.symm
  refine Ex_run 1 (i' := 1) (L' := [(2, ((v0 : Nat) : Int)), (0, v1), (9, 0), (9, 0)]) (st' := [(2, ((v0 : Nat) : Int))]) (h' := (h.1, h.2.1, h.2.2)) hm rfl cjn ?_
  obtain ⟨g1, e⟩ := gd_s e
  refine Ex_prim (k := 1) (i' := 2) (L' := [(2, ((v0 : Nat) : Int)), (0, v1), (9, 0), (9, 0)]) (st' := []) (h' := (h.1, h.2.1, h.2.2)) hm rfl (by omega) rfl (cjc (nz_i g1) (cjc (Nat.le_of_ble_eq_true rfl) cjn)) ?_
  refine Ex_run 3 (i' := 5) (L' := [(2, ((v0 : Nat) : Int)), (0, v1), (9, 0), (9, 0)]) (st' := [(2, (((List.length h.1) : Nat) : Int)), (2, ((v0 : Nat) : Int))]) (h' := ((h.1 ++ [(0, Int.toNat 140)]), (zapR h.2.1 (List.length h.1)), (zap h.2.2 (List.length h.1)))) hm rfl (cjc (by decide) cjn) ?_
  exact tf144_5 e hd rr hk
theorem tf146 {G : Gg} {ρ : Rg} {d : Nat} {v0 : Nat} {v1 : Int} {m : Sg} {x : Int} (e : f146 G ρ v0 v1 m = some x) (hd : 1 ≤ d) : Ex d 146 0 [(2, ((v0 : Nat) : Int)), (0, v1)] [] (G, ρ, m) (some (0, x), (G, ρ, m)) := by
  unfold f146 at e
  have hm := mi_146
  generalize hk : (some (0, x), (G, ρ, m)) = rr
  replace hk : (Bpi G ρ m) x rr := hk.symm
  obtain ⟨g1, e⟩ := gd_s e
  refine Ex_run 8 (i' := 8) (L' := [(2, ((v0 : Nat) : Int)), (0, v1)]) (st' := [(1, (g_sub (m v0 1) 1)), (1, 0), (1, v1)]) (h' := (G, ρ, m)) hm rfl (cjc (gk_b g1) cjn) ?_
  obtain ⟨q2, h2, e⟩ := bn_s e
  refine Ex_callm (z := 143) (na := 3) (ck := 0) (as := [(1, v1), (1, 0), (1, (g_sub (m v0 1) 1))]) (rest := []) (E0 := [(1, v1), (9, 0), (1, 0), (9, 0), (1, (g_sub (m v0 1) 1)), (9, 0)]) (v := some (0, q2)) (h1 := (G, ρ, m)) hm rfl (by omega) ⟨Nat.le_of_ble_eq_true rfl, Nat.le_of_ble_eq_true rfl⟩ (trivial) rfl rfl ml_143 rfl (Nat.le_of_ble_eq_true rfl) (tf143 h2 (by omega)) ?_
  show Ex d 146 9 [(2, ((v0 : Nat) : Int)), (0, v1)] [(0, q2)] (G, ρ, m) rr
  obtain ⟨g3, e⟩ := gd_s e
  cases e
  cases hk
  exact Ex_ret (k := 2) hm rfl ⟨_, rfl, g3, rfl⟩
theorem tf147_38 {G : Gg} {ρ : Rg} {d : Nat} {v4 : Int} {w0 : Int} {w1 : Int} {w2 : Nat} {m : Sg} {x : Int × Sg} (e : f147_38 G ρ v4 w0 w1 w2 m = some x) (hd : 2 ≤ d) (rr : Option MV × Mh) (hk : (Bi G ρ) x rr) (j0 : Nat) (j1 : Int) (j2 : Int) (j3 : Int) : Ex d 147 38 [(2, ((j0 : Nat) : Int)), (0, j1), (0, j2), (0, j3), (0, v4)] [(0, w0), (0, w1), (2, ((w2 : Nat) : Int))] (G, ρ, m) rr := by
  unfold f147_38 at e
  have hm := mi_147
  obtain ⟨g10, e⟩ := gd_s e
  obtain ⟨g11, e⟩ := gd_s e
  refine Ex_run 2 (i' := 40) (L' := [(2, ((j0 : Nat) : Int)), (0, j1), (0, j2), (0, j3), (0, v4)]) (st' := [(0, v4)]) (h' := (G, ρ, (put m w2 w1 w0))) hm rfl (cjc (gk_b g10) (cjc g11 cjn)) ?_
  cases e
  cases hk
  exact Ex_ret (k := 1) hm rfl ⟨_, rfl, rfl⟩
theorem tf147 {G : Gg} {ρ : Rg} {d : Nat} {v0 : Nat} {v1 : Int} {v2 : Int} {v3 : Int} {m : Sg} {x : Int × Sg} (e : f147 G ρ v0 v1 v2 v3 m = some x) (hd : 2 ≤ d) : Ex d 147 0 [(2, ((v0 : Nat) : Int)), (0, v1), (0, v2), (0, v3), (9, 0)] [] (G, ρ, m) (some (0, x.1), (G, ρ, x.2)) := by
  unfold f147 at e
  have hm := mi_147
  generalize hk : (some (0, x.1), (G, ρ, x.2)) = rr
  replace hk : (Bi G ρ) x rr := hk.symm
  refine Ex_run 2 (i' := 2) (L' := [(2, ((v0 : Nat) : Int)), (0, v1), (0, v2), (0, v3), (9, 0)]) (st' := [(0, v1), (2, ((v0 : Nat) : Int))]) (h' := (G, ρ, m)) hm rfl cjn ?_
  obtain ⟨g1, e⟩ := gd_s e
  obtain ⟨q2, h2, e⟩ := bn_s e
  refine Ex_callm (z := 146) (na := 2) (ck := 15) (as := [(2, ((v0 : Nat) : Int)), (0, v1)]) (rest := []) (E0 := [(2, ((v0 : Nat) : Int)), (0, v1)]) (v := some (0, q2)) (h1 := (G, ρ, m)) hm rfl (by omega) ⟨Nat.le_of_ble_eq_true rfl, Nat.le_of_ble_eq_true rfl⟩ (rc2 rfl g1) rfl rfl ml_146 rfl (Nat.le_of_ble_eq_true rfl) (tf146 h2 (by omega)) ?_
  show Ex d 147 3 [(2, ((v0 : Nat) : Int)), (0, v1), (0, v2), (0, v3), (9, 0)] [(0, q2)] (G, ρ, m) rr
  by_cases c3 : q2 = 0
  · replace e := it_p e c3
    refine Ex_if1t (c := 0) (tgt := 16) hm rfl (bt0 c3) ?_
    refine Ex_run 1 (i' := 17) (L' := [(2, ((v0 : Nat) : Int)), (0, v1), (0, v2), (0, v3), (9, 0)]) (st' := [(0, (-2))]) (h' := (G, ρ, m)) hm rfl cjn ?_
    cases e
    cases hk
    exact Ex_ret (k := 1) hm rfl ⟨_, rfl, rfl⟩
  · replace e := it_n e c3
    refine Ex_if1f (c := 0) (tgt := 16) hm rfl (bf0 c3) ?_
    refine Ex_run 4 (i' := 8) (L' := [(2, ((v0 : Nat) : Int)), (0, v1), (0, v2), (0, v3), (9, 0)]) (st' := [(1, 5), (1, 0), (1, v2)]) (h' := (G, ρ, m)) hm rfl cjn ?_
    obtain ⟨q4, h4, e⟩ := bn_s e
    refine Ex_callm (z := 143) (na := 3) (ck := 0) (as := [(1, v2), (1, 0), (1, 5)]) (rest := []) (E0 := [(1, v2), (9, 0), (1, 0), (9, 0), (1, 5), (9, 0)]) (v := some (0, q4)) (h1 := (G, ρ, m)) hm rfl (by omega) ⟨Nat.le_of_ble_eq_true rfl, Nat.le_of_ble_eq_true rfl⟩ (trivial) rfl rfl ml_143 rfl (Nat.le_of_ble_eq_true rfl) (tf143 h4 (by omega)) ?_
    show Ex d 147 9 [(2, ((v0 : Nat) : Int)), (0, v1), (0, v2), (0, v3), (9, 0)] [(0, q4)] (G, ρ, m) rr
    by_cases c5 : q4 = 0
    · replace e := it_p e c5
      refine Ex_if1t (c := 0) (tgt := 16) hm rfl (bt0 c5) ?_
      refine Ex_run 1 (i' := 17) (L' := [(2, ((v0 : Nat) : Int)), (0, v1), (0, v2), (0, v3), (9, 0)]) (st' := [(0, (-2))]) (h' := (G, ρ, m)) hm rfl cjn ?_
      cases e
      cases hk
      exact Ex_ret (k := 1) hm rfl ⟨_, rfl, rfl⟩
    · replace e := it_n e c5
      refine Ex_if1f (c := 0) (tgt := 16) hm rfl (bf0 c5) ?_
      refine Ex_run 4 (i' := 14) (L' := [(2, ((v0 : Nat) : Int)), (0, v1), (0, v2), (0, v3), (9, 0)]) (st' := [(1, 9), (1, 0), (1, v3)]) (h' := (G, ρ, m)) hm rfl cjn ?_
      obtain ⟨q6, h6, e⟩ := bn_s e
      refine Ex_callm (z := 143) (na := 3) (ck := 0) (as := [(1, v3), (1, 0), (1, 9)]) (rest := []) (E0 := [(1, v3), (9, 0), (1, 0), (9, 0), (1, 9), (9, 0)]) (v := some (0, q6)) (h1 := (G, ρ, m)) hm rfl (by omega) ⟨Nat.le_of_ble_eq_true rfl, Nat.le_of_ble_eq_true rfl⟩ (trivial) rfl rfl ml_143 rfl (Nat.le_of_ble_eq_true rfl) (tf143 h6 (by omega)) ?_
      show Ex d 147 15 [(2, ((v0 : Nat) : Int)), (0, v1), (0, v2), (0, v3), (9, 0)] [(0, q6)] (G, ρ, m) rr
      by_cases c7 : q6 = 0
      · replace e := it_p e c7
        refine Ex_if1f (c := 1) (tgt := 18) hm rfl (bf1 c7) ?_
        refine Ex_run 1 (i' := 17) (L' := [(2, ((v0 : Nat) : Int)), (0, v1), (0, v2), (0, v3), (9, 0)]) (st' := [(0, (-2))]) (h' := (G, ρ, m)) hm rfl cjn ?_
        cases e
        cases hk
        exact Ex_ret (k := 1) hm rfl ⟨_, rfl, rfl⟩
      · replace e := it_n e c7
        refine Ex_if1t (c := 1) (tgt := 18) hm rfl (bt1 c7) ?_
        obtain ⟨g8, e⟩ := gd_s e
        obtain ⟨g9, e⟩ := gd_s e
        refine Ex_run 20 (i' := 38) (L' := [(2, ((v0 : Nat) : Int)), (0, v1), (0, v2), (0, v3), (0, (m (ρ v0 2) (g_add 120 v1)))]) (st' := [(0, v3), (0, (g_add 120 v1)), (2, (((ρ v0 3) : Nat) : Int))]) (h' := (G, ρ, (put m (ρ v0 2) (g_add 120 v1) v2))) hm rfl (cjc (gk_b g1) (cjc (gk_b g8) (cjc g9 (cjc (Nat.le_of_ble_eq_true rfl) (cjc (gk_b g1) (cjc (gk_b g8) (cjc g9 (cjc (gk_b g1) cjn)))))))) ?_
        exact tf147_38 e hd rr hk _ _ _ _
theorem tf148 {G : Gg} {ρ : Rg} {d : Nat} {v0 : Nat} {v1 : Int} {m : Sg} {x : Int × Sg} (e : f148 G ρ v0 v1 m = some x) (hd : 1 ≤ d) : Ex d 148 0 [(2, ((v0 : Nat) : Int)), (0, v1), (9, 0)] [] (G, ρ, m) (some (0, x.1), (G, ρ, x.2)) := by
  unfold f148 at e
  have hm := mi_148
  generalize hk : (some (0, x.1), (G, ρ, x.2)) = rr
  replace hk : (Bi G ρ) x rr := hk.symm
  refine Ex_run 4 (i' := 4) (L' := [(2, ((v0 : Nat) : Int)), (0, v1), (9, 0)]) (st' := [(1, 31), (1, 1), (1, v1)]) (h' := (G, ρ, m)) hm rfl cjn ?_
  obtain ⟨q1, h1, e⟩ := bn_s e
  refine Ex_callm (z := 143) (na := 3) (ck := 0) (as := [(1, v1), (1, 1), (1, 31)]) (rest := []) (E0 := [(1, v1), (9, 0), (1, 1), (9, 0), (1, 31), (9, 0)]) (v := some (0, q1)) (h1 := (G, ρ, m)) hm rfl (by omega) ⟨Nat.le_of_ble_eq_true rfl, Nat.le_of_ble_eq_true rfl⟩ (trivial) rfl rfl ml_143 rfl (Nat.le_of_ble_eq_true rfl) (tf143 h1 (by omega)) ?_
  show Ex d 148 5 [(2, ((v0 : Nat) : Int)), (0, v1), (9, 0)] [(0, q1)] (G, ρ, m) rr
  by_cases c2 : q1 = 0
  · replace e := it_p e c2
    refine Ex_if1f (c := 1) (tgt := 8) hm rfl (bf1 c2) ?_
    refine Ex_run 1 (i' := 7) (L' := [(2, ((v0 : Nat) : Int)), (0, v1), (9, 0)]) (st' := [(0, (-2))]) (h' := (G, ρ, m)) hm rfl cjn ?_
    cases e
    cases hk
    exact Ex_ret (k := 1) hm rfl ⟨_, rfl, rfl⟩
  · replace e := it_n e c2
    refine Ex_if1t (c := 1) (tgt := 8) hm rfl (bt1 c2) ?_
    obtain ⟨g3, e⟩ := gd_s e
    obtain ⟨g4, e⟩ := gd_s e
    obtain ⟨g5, e⟩ := gd_s e
    refine Ex_run 11 (i' := 19) (L' := [(2, ((v0 : Nat) : Int)), (0, v1), (0, (m (ρ v0 4) 12))]) (st' := [(0, (m (ρ v0 4) 12))]) (h' := (G, ρ, (put m (ρ v0 4) 12 v1))) hm rfl (cjc (gk_b g3) (cjc (gk_b g4) (cjc g5 (cjc (Nat.le_of_ble_eq_true rfl) (cjc (gk_b g3) (cjc (gk_b g4) (cjc g5 cjn))))))) ?_
    cases e
    cases hk
    exact Ex_ret (k := 1) hm rfl ⟨_, rfl, rfl⟩
theorem tf149 {G : Gg} {ρ : Rg} {d : Nat} {v0 : Nat} {v1 : Int} {v2 : Int} {m : Sg} {x : Int} (e : f149 G ρ v0 v1 v2 m = some x) (hd : 2 ≤ d) : Ex d 149 0 [(2, ((v0 : Nat) : Int)), (0, v1), (0, v2)] [] (G, ρ, m) (some (0, x), (G, ρ, m)) := by
  unfold f149 at e
  have hm := mi_149
  generalize hk : (some (0, x), (G, ρ, m)) = rr
  replace hk : (Bpi G ρ m) x rr := hk.symm
  refine Ex_run 2 (i' := 2) (L' := [(2, ((v0 : Nat) : Int)), (0, v1), (0, v2)]) (st' := [(0, v1), (2, ((v0 : Nat) : Int))]) (h' := (G, ρ, m)) hm rfl cjn ?_
  obtain ⟨g1, e⟩ := gd_s e
  obtain ⟨q2, h2, e⟩ := bn_s e
  refine Ex_callm (z := 146) (na := 2) (ck := 15) (as := [(2, ((v0 : Nat) : Int)), (0, v1)]) (rest := []) (E0 := [(2, ((v0 : Nat) : Int)), (0, v1)]) (v := some (0, q2)) (h1 := (G, ρ, m)) hm rfl (by omega) ⟨Nat.le_of_ble_eq_true rfl, Nat.le_of_ble_eq_true rfl⟩ (rc2 rfl g1) rfl rfl ml_146 rfl (Nat.le_of_ble_eq_true rfl) (tf146 h2 (by omega)) ?_
  show Ex d 149 3 [(2, ((v0 : Nat) : Int)), (0, v1), (0, v2)] [(0, q2)] (G, ρ, m) rr
  by_cases c3 : q2 = 0
  · replace e := it_p e c3
    refine Ex_if1t (c := 0) (tgt := 26) hm rfl (bt0 c3) ?_
    refine Ex_run 1 (i' := 27) (L' := [(2, ((v0 : Nat) : Int)), (0, v1), (0, v2)]) (st' := [(0, (-2))]) (h' := (G, ρ, m)) hm rfl cjn ?_
    cases e
    cases hk
    exact Ex_ret (k := 1) hm rfl ⟨_, rfl, rfl⟩
  · replace e := it_n e c3
    refine Ex_if1f (c := 0) (tgt := 26) hm rfl (bf0 c3) ?_
    refine Ex_run 4 (i' := 8) (L' := [(2, ((v0 : Nat) : Int)), (0, v1), (0, v2)]) (st' := [(1, 1), (1, 0), (1, v2)]) (h' := (G, ρ, m)) hm rfl cjn ?_
    obtain ⟨q4, h4, e⟩ := bn_s e
    refine Ex_callm (z := 143) (na := 3) (ck := 0) (as := [(1, v2), (1, 0), (1, 1)]) (rest := []) (E0 := [(1, v2), (9, 0), (1, 0), (9, 0), (1, 1), (9, 0)]) (v := some (0, q4)) (h1 := (G, ρ, m)) hm rfl (by omega) ⟨Nat.le_of_ble_eq_true rfl, Nat.le_of_ble_eq_true rfl⟩ (trivial) rfl rfl ml_143 rfl (Nat.le_of_ble_eq_true rfl) (tf143 h4 (by omega)) ?_
    show Ex d 149 9 [(2, ((v0 : Nat) : Int)), (0, v1), (0, v2)] [(0, q4)] (G, ρ, m) rr
    by_cases c5 : q4 = 0
    · replace e := it_p e c5
      refine Ex_if1t (c := 0) (tgt := 26) hm rfl (bt0 c5) ?_
      refine Ex_run 1 (i' := 27) (L' := [(2, ((v0 : Nat) : Int)), (0, v1), (0, v2)]) (st' := [(0, (-2))]) (h' := (G, ρ, m)) hm rfl cjn ?_
      cases e
      cases hk
      exact Ex_ret (k := 1) hm rfl ⟨_, rfl, rfl⟩
    · replace e := it_n e c5
      refine Ex_if1f (c := 0) (tgt := 26) hm rfl (bf0 c5) ?_
      refine Ex_run 1 (i' := 11) (L' := [(2, ((v0 : Nat) : Int)), (0, v1), (0, v2)]) (st' := [(0, v2)]) (h' := (G, ρ, m)) hm rfl cjn ?_
      by_cases c6 : v2 = 0
      · replace e := it_p e c6
        refine Ex_if1f (c := 1) (tgt := 19) hm rfl (bf1 c6) ?_
        obtain ⟨g7, e⟩ := gd_s e
        obtain ⟨g8, e⟩ := gd_s e
        refine Ex_run 7 (i' := 27) (L' := [(2, ((v0 : Nat) : Int)), (0, v1), (0, v2)]) (st' := [(0, (m (ρ v0 2) (g_add 120 v1)))]) (h' := (G, ρ, m)) hm rfl (cjc (gk_b g1) (cjc (gk_b g7) (cjc g8 cjn))) ?_
        cases e
        cases hk
        exact Ex_ret (k := 1) hm rfl ⟨_, rfl, rfl⟩
      · replace e := it_n e c6
        refine Ex_if1t (c := 1) (tgt := 19) hm rfl (bt1 c6) ?_
        obtain ⟨g9, e⟩ := gd_s e
        obtain ⟨g10, e⟩ := gd_s e
        refine Ex_run 7 (i' := 27) (L' := [(2, ((v0 : Nat) : Int)), (0, v1), (0, v2)]) (st' := [(0, (m (ρ v0 3) (g_add 120 v1)))]) (h' := (G, ρ, m)) hm rfl (cjc (gk_b g1) (cjc (gk_b g9) (cjc g10 cjn))) ?_
        cases e
        cases hk
        exact Ex_ret (k := 1) hm rfl ⟨_, rfl, rfl⟩
theorem tf150 {G : Gg} {ρ : Rg} {d : Nat} {v0 : Nat} {v1 : Int} {v2 : Int} {m : Sg} {x : Int} (e : f150 G ρ v0 v1 v2 m = some x) (hd : 1 ≤ d) : Ex d 150 0 [(2, ((v0 : Nat) : Int)), (0, v1), (0, v2)] [] (G, ρ, m) (some (0, x), (G, ρ, m)) := by
  unfold f150 at e
  have hm := mi_150
  generalize hk : (some (0, x), (G, ρ, m)) = rr
  replace hk : (Bpi G ρ m) x rr := hk.symm
  refine Ex_run 4 (i' := 4) (L' := [(2, ((v0 : Nat) : Int)), (0, v1), (0, v2)]) (st' := [(1, 5), (1, 1), (1, v2)]) (h' := (G, ρ, m)) hm rfl cjn ?_
  obtain ⟨q1, h1, e⟩ := bn_s e
  refine Ex_callm (z := 143) (na := 3) (ck := 0) (as := [(1, v2), (1, 1), (1, 5)]) (rest := []) (E0 := [(1, v2), (9, 0), (1, 1), (9, 0), (1, 5), (9, 0)]) (v := some (0, q1)) (h1 := (G, ρ, m)) hm rfl (by omega) ⟨Nat.le_of_ble_eq_true rfl, Nat.le_of_ble_eq_true rfl⟩ (trivial) rfl rfl ml_143 rfl (Nat.le_of_ble_eq_true rfl) (tf143 h1 (by omega)) ?_
  show Ex d 150 5 [(2, ((v0 : Nat) : Int)), (0, v1), (0, v2)] [(0, q1)] (G, ρ, m) rr
  by_cases c2 : q1 = 0
  · replace e := it_p e c2
    refine Ex_if1t (c := 0) (tgt := 20) hm rfl (bt0 c2) ?_
    refine Ex_run 1 (i' := 21) (L' := [(2, ((v0 : Nat) : Int)), (0, v1), (0, v2)]) (st' := [(0, 0)]) (h' := (G, ρ, m)) hm rfl cjn ?_
    cases e
    cases hk
    exact Ex_ret (k := 2) hm rfl ⟨_, rfl, by decide, rfl⟩
  · replace e := it_n e c2
    refine Ex_if1f (c := 0) (tgt := 20) hm rfl (bf0 c2) ?_
    obtain ⟨g3, e⟩ := gd_s e
    obtain ⟨g4, e⟩ := gd_s e
    obtain ⟨g5, e⟩ := gd_s e
    refine Ex_run 11 (i' := 17) (L' := [(2, ((v0 : Nat) : Int)), (0, v1), (0, v2)]) (st' := [(0, 1), (0, (g_and (g_shr (m (ρ v0 4) v1) (g_sub v2 1)) 1))]) (h' := (G, ρ, m)) hm rfl (cjc (gk_b g3) (cjc (gk_b g4) (cjc g5 cjn))) ?_
    by_cases c6 : (g_and (g_shr (m (ρ v0 4) v1) (g_sub v2 1)) 1) = 1
    · replace e := it_p e c6
      refine Ex_if2f (c := 1) (tgt := 20) hm rfl (bf1 c6) ?_
      refine Ex_run 2 (i' := 21) (L' := [(2, ((v0 : Nat) : Int)), (0, v1), (0, v2)]) (st' := [(0, 1)]) (h' := (G, ρ, m)) hm rfl cjn ?_
      cases e
      cases hk
      exact Ex_ret (k := 2) hm rfl ⟨_, rfl, by decide, rfl⟩
    · replace e := it_n e c6
      refine Ex_if2t (c := 1) (tgt := 20) hm rfl (bt1 c6) ?_
      refine Ex_run 1 (i' := 21) (L' := [(2, ((v0 : Nat) : Int)), (0, v1), (0, v2)]) (st' := [(0, 0)]) (h' := (G, ρ, m)) hm rfl cjn ?_
      cases e
      cases hk
      exact Ex_ret (k := 2) hm rfl ⟨_, rfl, by decide, rfl⟩
theorem tf151_49 {G : Gg} {ρ : Rg} {d : Nat} {w0 : Int} {w1 : Nat} {m : Sg} {x : Int × Sg} (e : f151_49 G ρ w0 w1 m = some x) (hd : 0 ≤ d) (rr : Option MV × Mh) (hk : (Bi G ρ) x rr) (j0 : Nat) (j1 : Int) (j2 : Int) (j3 : Int) (j4 : Int) (j5 : Int) (j6 : Int) : Ex d 151 49 [(2, ((j0 : Nat) : Int)), (0, j1), (0, j2), (0, j3), (0, j4), (0, j5), (0, j6)] [(0, w0), (2, ((w1 : Nat) : Int))] (G, ρ, m) rr := by
  unfold f151_49 at e
  have hm := mi_151
  obtain ⟨g12, e⟩ := gd_s e
  refine Ex_run 2 (i' := 51) (L' := [(2, ((j0 : Nat) : Int)), (0, j1), (0, j2), (0, j3), (0, j4), (0, j5), (0, j6)]) (st' := [(0, 1)]) (h' := (G, ρ, (put m w1 5 w0))) hm rfl (cjc (gk_b g12) cjn) ?_
  cases e
  cases hk
  exact Ex_ret (k := 1) hm rfl ⟨_, rfl, rfl⟩
theorem tf151 {G : Gg} {ρ : Rg} {d : Nat} {v0 : Nat} {v1 : Int} {v2 : Int} {v3 : Int} {m : Sg} {x : Int × Sg} (e : f151 G ρ v0 v1 v2 v3 m = some x) (hd : 0 ≤ d) : Ex d 151 0 [(2, ((v0 : Nat) : Int)), (0, v1), (0, v2), (0, v3), (9, 0), (9, 0), (9, 0)] [] (G, ρ, m) (some (0, x.1), (G, ρ, x.2)) := by
  unfold f151 at e
  have hm := mi_151
  generalize hk : (some (0, x.1), (G, ρ, x.2)) = rr
  replace hk : (Bi G ρ) x rr := hk.symm
  obtain ⟨g1, e⟩ := gd_s e
  obtain ⟨g2, e⟩ := gd_s e
  obtain ⟨g3, e⟩ := gd_s e
  obtain ⟨g4, e⟩ := gd_s e
  obtain ⟨g5, e⟩ := gd_s e
  obtain ⟨g6, e⟩ := gd_s e
  refine Ex_run 29 (i' := 29) (L' := [(2, ((v0 : Nat) : Int)), (0, v1), (0, v2), (0, v3), (0, (g_rem (g_add v2 v3) (m v0 1))), (0, (m (ρ v0 2) (g_add (g_mul 10 v1) (g_rem (g_add v2 v3) (m v0 1))))), (0, (m (ρ v0 3) (g_add (g_mul 10 v1) (g_rem (g_add v2 v3) (m v0 1)))))]) (st' := [(0, (m (ρ v0 2) (g_add (g_mul 10 v1) (g_rem (g_add v2 v3) (m v0 1)))))]) (h' := (G, ρ, (put m v0 5 (g_rem (g_add v2 v3) (m v0 1))))) hm rfl (cjc (gk_b g1) (cjc g2 (cjc (Nat.le_of_ble_eq_true rfl) (cjc (gk_b g1) (cjc (gk_b g3) (cjc g4 (cjc (Nat.le_of_ble_eq_true rfl) (cjc (gk_b g1) (cjc (gk_b g5) (cjc g6 (cjc (Nat.le_of_ble_eq_true rfl) (cjc (gk_b g1) cjn)))))))))))) ?_
  by_cases c7 : (m (ρ v0 2) (g_add (g_mul 10 v1) (g_rem (g_add v2 v3) (m v0 1)))) = 1
  · replace e := it_p e c7
    refine Ex_sw (lo := 1) (tg := [30, 32, 34, 36, 52]) (df := 59) hm rfl 0 rfl c7 ?_
    refine Ex_run 1 (i' := 31) (L' := [(2, ((v0 : Nat) : Int)), (0, v1), (0, v2), (0, v3), (0, (g_rem (g_add v2 v3) (m v0 1))), (0, (m (ρ v0 2) (g_add (g_mul 10 v1) (g_rem (g_add v2 v3) (m v0 1))))), (0, (m (ρ v0 3) (g_add (g_mul 10 v1) (g_rem (g_add v2 v3) (m v0 1)))))]) (st' := [(0, 1)]) (h' := (G, ρ, (put m v0 5 (g_rem (g_add v2 v3) (m v0 1))))) hm rfl cjn ?_
    cases e
    cases hk
    exact Ex_ret (k := 1) hm rfl ⟨_, rfl, rfl⟩
  · replace e := it_n e c7
    by_cases c8 : (m (ρ v0 2) (g_add (g_mul 10 v1) (g_rem (g_add v2 v3) (m v0 1)))) = 2
    · replace e := it_p e c8
      refine Ex_sw (lo := 1) (tg := [30, 32, 34, 36, 52]) (df := 59) hm rfl 1 rfl c8 ?_
      refine Ex_run 1 (i' := 33) (L' := [(2, ((v0 : Nat) : Int)), (0, v1), (0, v2), (0, v3), (0, (g_rem (g_add v2 v3) (m v0 1))), (0, (m (ρ v0 2) (g_add (g_mul 10 v1) (g_rem (g_add v2 v3) (m v0 1))))), (0, (m (ρ v0 3) (g_add (g_mul 10 v1) (g_rem (g_add v2 v3) (m v0 1)))))]) (st' := [(0, 3)]) (h' := (G, ρ, (put m v0 5 (g_rem (g_add v2 v3) (m v0 1))))) hm rfl cjn ?_
      cases e
      cases hk
      exact Ex_ret (k := 1) hm rfl ⟨_, rfl, rfl⟩
    · replace e := it_n e c8
      by_cases c9 : (m (ρ v0 2) (g_add (g_mul 10 v1) (g_rem (g_add v2 v3) (m v0 1)))) = 3
      · replace e := it_p e c9
        refine Ex_sw (lo := 1) (tg := [30, 32, 34, 36, 52]) (df := 59) hm rfl 2 rfl c9 ?_
        refine Ex_run 1 (i' := 35) (L' := [(2, ((v0 : Nat) : Int)), (0, v1), (0, v2), (0, v3), (0, (g_rem (g_add v2 v3) (m v0 1))), (0, (m (ρ v0 2) (g_add (g_mul 10 v1) (g_rem (g_add v2 v3) (m v0 1))))), (0, (m (ρ v0 3) (g_add (g_mul 10 v1) (g_rem (g_add v2 v3) (m v0 1)))))]) (st' := [(0, 2)]) (h' := (G, ρ, (put m v0 5 (g_rem (g_add v2 v3) (m v0 1))))) hm rfl cjn ?_
        cases e
        cases hk
        exact Ex_ret (k := 1) hm rfl ⟨_, rfl, rfl⟩
      · replace e := it_n e c9
        by_cases c10 : (m (ρ v0 2) (g_add (g_mul 10 v1) (g_rem (g_add v2 v3) (m v0 1)))) = 4
        · replace e := it_p e c10
          refine Ex_sw (lo := 1) (tg := [30, 32, 34, 36, 52]) (df := 59) hm rfl 3 rfl c10 ?_
          obtain ⟨g11, e⟩ := gd_s e
          refine Ex_run 13 (i' := 49) (L' := [(2, ((v0 : Nat) : Int)), (0, v1), (0, v2), (0, v3), (0, (g_rem (g_add v2 v3) (m v0 1))), (0, (m (ρ v0 2) (g_add (g_mul 10 v1) (g_rem (g_add v2 v3) (m v0 1))))), (0, (m (ρ v0 3) (g_add (g_mul 10 v1) (g_rem (g_add v2 v3) (m v0 1)))))]) (st' := [(0, (g_rem (g_add (g_sub (g_rem (g_add v2 v3) (m v0 1)) (g_rem (m (ρ v0 3) (g_add (g_mul 10 v1) (g_rem (g_add v2 v3) (m v0 1)))) ((put m v0 5 (g_rem (g_add v2 v3) (m v0 1))) v0 1))) ((put m v0 5 (g_rem (g_add v2 v3) (m v0 1))) v0 1)) ((put m v0 5 (g_rem (g_add v2 v3) (m v0 1))) v0 1))), (2, ((v0 : Nat) : Int))]) (h' := (G, ρ, (put m v0 5 (g_rem (g_add v2 v3) (m v0 1))))) hm rfl (cjc (gk_b g1) (cjc g11 (cjc (gk_b g1) (cjc (gk_b g1) (cjc g11 cjn))))) ?_
          exact tf151_49 e hd rr hk _ _ _ _ _ _ _
        · replace e := it_n e c10
          by_cases c13 : (m (ρ v0 2) (g_add (g_mul 10 v1) (g_rem (g_add v2 v3) (m v0 1)))) = 5
          · replace e := it_p e c13
            refine Ex_sw (lo := 1) (tg := [30, 32, 34, 36, 52]) (df := 59) hm rfl 4 rfl c13 ?_
            refine Ex_run 2 (i' := 54) (L' := [(2, ((v0 : Nat) : Int)), (0, v1), (0, v2), (0, v3), (0, (g_rem (g_add v2 v3) (m v0 1))), (0, (m (ρ v0 2) (g_add (g_mul 10 v1) (g_rem (g_add v2 v3) (m v0 1))))), (0, (m (ρ v0 3) (g_add (g_mul 10 v1) (g_rem (g_add v2 v3) (m v0 1)))))]) (st' := [(0, (m (ρ v0 3) (g_add (g_mul 10 v1) (g_rem (g_add v2 v3) (m v0 1))))), (0, v3)]) (h' := (G, ρ, (put m v0 5 (g_rem (g_add v2 v3) (m v0 1))))) hm rfl cjn ?_
            by_cases c14 : (m (ρ v0 3) (g_add (g_mul 10 v1) (g_rem (g_add v2 v3) (m v0 1)))) < v3
            · replace e := it_p e c14
              refine Ex_if2f (c := 5) (tgt := 57) hm rfl (bf5 c14) ?_
              refine Ex_run 2 (i' := 58) (L' := [(2, ((v0 : Nat) : Int)), (0, v1), (0, v2), (0, v3), (0, (g_rem (g_add v2 v3) (m v0 1))), (0, (m (ρ v0 2) (g_add (g_mul 10 v1) (g_rem (g_add v2 v3) (m v0 1))))), (0, (m (ρ v0 3) (g_add (g_mul 10 v1) (g_rem (g_add v2 v3) (m v0 1)))))]) (st' := [(0, 2)]) (h' := (G, ρ, (put m v0 5 (g_rem (g_add v2 v3) (m v0 1))))) hm rfl cjn ?_
              cases e
              cases hk
              exact Ex_ret (k := 1) hm rfl ⟨_, rfl, rfl⟩
            · replace e := it_n e c14
              refine Ex_if2t (c := 5) (tgt := 57) hm rfl (bt5 c14) ?_
              refine Ex_run 1 (i' := 58) (L' := [(2, ((v0 : Nat) : Int)), (0, v1), (0, v2), (0, v3), (0, (g_rem (g_add v2 v3) (m v0 1))), (0, (m (ρ v0 2) (g_add (g_mul 10 v1) (g_rem (g_add v2 v3) (m v0 1))))), (0, (m (ρ v0 3) (g_add (g_mul 10 v1) (g_rem (g_add v2 v3) (m v0 1)))))]) (st' := [(0, 0)]) (h' := (G, ρ, (put m v0 5 (g_rem (g_add v2 v3) (m v0 1))))) hm rfl cjn ?_
              cases e
              cases hk
              exact Ex_ret (k := 1) hm rfl ⟨_, rfl, rfl⟩
          · replace e := it_n e c13
            refine Ex_swd (lo := 1) (tg := [30, 32, 34, 36, 52]) (df := 59) hm rfl (swk_d ⟨Or.inr c7, Or.inr c8, Or.inr c9, Or.inr c10, Or.inr c13, trivial⟩) ?_
            refine Ex_run 1 (i' := 60) (L' := [(2, ((v0 : Nat) : Int)), (0, v1), (0, v2), (0, v3), (0, (g_rem (g_add v2 v3) (m v0 1))), (0, (m (ρ v0 2) (g_add (g_mul 10 v1) (g_rem (g_add v2 v3) (m v0 1))))), (0, (m (ρ v0 3) (g_add (g_mul 10 v1) (g_rem (g_add v2 v3) (m v0 1)))))]) (st' := [(0, 0)]) (h' := (G, ρ, (put m v0 5 (g_rem (g_add v2 v3) (m v0 1))))) hm rfl cjn ?_
            cases e
            cases hk
            exact Ex_ret (k := 1) hm rfl ⟨_, rfl, rfl⟩
theorem tf152_31 {G : Gg} {ρ : Rg} {d : Nat} {v5 : Int} {m : Sg} {x : Int × Sg} (e : f152_31 G ρ v5 m = some x) (hd : 1 ≤ d) (rr : Option MV × Mh) (hk : (Bi G ρ) x rr) (j0 : Nat) (j1 : Int) (j2 : Int) (j3 : Int) (j4 : Int) : Ex d 152 31 [(2, ((j0 : Nat) : Int)), (0, j1), (0, j2), (0, j3), (0, j4), (0, v5)] [] (G, ρ, m) rr := by
  unfold f152_31 at e
  have hm := mi_152
  refine Ex_run 1 (i' := 32) (L' := [(2, ((j0 : Nat) : Int)), (0, j1), (0, j2), (0, j3), (0, j4), (0, v5)]) (st' := [(0, v5)]) (h' := (G, ρ, m)) hm rfl cjn ?_
  by_cases c9 : 0 < v5
  · replace e := it_p e c9
    refine Ex_if1f (c := 5) (tgt := 37) hm rfl (bf5 c9) ?_
    refine Ex_run 4 (i' := 40) (L' := [(2, ((j0 : Nat) : Int)), (0, j1), (0, j2), (0, j3), (0, j4), (0, v5)]) (st' := [(0, (g_add v5 1))]) (h' := (G, ρ, m)) hm rfl cjn ?_
    cases e
    cases hk
    exact Ex_ret (k := 1) hm rfl ⟨_, rfl, rfl⟩
  · replace e := it_n e c9
    refine Ex_if1t (c := 5) (tgt := 37) hm rfl (bt5 c9) ?_
    refine Ex_run 3 (i' := 40) (L' := [(2, ((j0 : Nat) : Int)), (0, j1), (0, j2), (0, j3), (0, j4), (0, v5)]) (st' := [(0, (g_sub v5 1))]) (h' := (G, ρ, m)) hm rfl cjn ?_
    cases e
    cases hk
    exact Ex_ret (k := 1) hm rfl ⟨_, rfl, rfl⟩
theorem tf152 {G : Gg} {ρ : Rg} {d : Nat} {v0 : Nat} {v1 : Int} {v2 : Int} {v3 : Int} {m : Sg} {x : Int × Sg} (e : f152 G ρ v0 v1 v2 v3 m = some x) (hd : 1 ≤ d) : Ex d 152 0 [(2, ((v0 : Nat) : Int)), (0, v1), (0, v2), (0, v3), (9, 0), (9, 0)] [] (G, ρ, m) (some (0, x.1), (G, ρ, x.2)) := by
  unfold f152 at e
  have hm := mi_152
  generalize hk : (some (0, x.1), (G, ρ, x.2)) = rr
  replace hk : (Bi G ρ) x rr := hk.symm
  refine Ex_run 4 (i' := 4) (L' := [(2, ((v0 : Nat) : Int)), (0, v1), (0, v2), (0, v3), (9, 0), (9, 0)]) (st' := [(0, v3), (0, v2), (0, v1), (2, ((v0 : Nat) : Int))]) (h' := (G, ρ, m)) hm rfl cjn ?_
  obtain ⟨g1, e⟩ := gd_s e
  obtain ⟨q2, h2, e⟩ := bn_s e
  refine Ex_callm (z := 151) (na := 4) (ck := 15) (as := [(2, ((v0 : Nat) : Int)), (0, v1), (0, v2), (0, v3)]) (rest := []) (E0 := [(2, ((v0 : Nat) : Int)), (0, v1), (0, v2), (0, v3), (9, 0), (9, 0), (9, 0)]) (v := some (0, q2.1)) (h1 := (G, ρ, q2.2)) hm rfl (by omega) ⟨Nat.le_of_ble_eq_true rfl, Nat.le_of_ble_eq_true rfl⟩ (rc2 rfl g1) rfl rfl ml_151 rfl (Nat.le_of_ble_eq_true rfl) (tf151 h2 (by omega)) ?_
  show Ex d 152 5 [(2, ((v0 : Nat) : Int)), (0, v1), (0, v2), (0, v3), (9, 0), (9, 0)] [(0, q2.1)] (G, ρ, q2.2) rr
  refine Ex_run 3 (i' := 8) (L' := [(2, ((v0 : Nat) : Int)), (0, v1), (0, v2), (0, v3), (0, q2.1), (9, 0)]) (st' := [(0, 2), (0, q2.1)]) (h' := (G, ρ, q2.2)) hm rfl (cjc (Nat.le_of_ble_eq_true rfl) cjn) ?_
  by_cases c3 : q2.1 = 2
  · replace e := it_p e c3
    refine Ex_if2f (c := 1) (tgt := 11) hm rfl (bf1 c3) ?_
    refine Ex_run 1 (i' := 10) (L' := [(2, ((v0 : Nat) : Int)), (0, v1), (0, v2), (0, v3), (0, q2.1), (9, 0)]) (st' := [(0, 1)]) (h' := (G, ρ, q2.2)) hm rfl cjn ?_
    cases e
    cases hk
    exact Ex_ret (k := 1) hm rfl ⟨_, rfl, rfl⟩
  · replace e := it_n e c3
    refine Ex_if2t (c := 1) (tgt := 11) hm rfl (bt1 c3) ?_
    refine Ex_run 2 (i' := 13) (L' := [(2, ((v0 : Nat) : Int)), (0, v1), (0, v2), (0, v3), (0, q2.1), (9, 0)]) (st' := [(0, 3), (0, q2.1)]) (h' := (G, ρ, q2.2)) hm rfl cjn ?_
    by_cases c4 : q2.1 = 3
    · replace e := it_p e c4
      refine Ex_if2f (c := 1) (tgt := 16) hm rfl (bf1 c4) ?_
      refine Ex_run 1 (i' := 15) (L' := [(2, ((v0 : Nat) : Int)), (0, v1), (0, v2), (0, v3), (0, q2.1), (9, 0)]) (st' := [(0, (-1))]) (h' := (G, ρ, q2.2)) hm rfl cjn ?_
      cases e
      cases hk
      exact Ex_ret (k := 1) hm rfl ⟨_, rfl, rfl⟩
    · replace e := it_n e c4
      refine Ex_if2t (c := 1) (tgt := 16) hm rfl (bt1 c4) ?_
      obtain ⟨g5, e⟩ := gd_s e
      obtain ⟨g6, e⟩ := gd_s e
      refine Ex_run 7 (i' := 23) (L' := [(2, ((v0 : Nat) : Int)), (0, v1), (0, v2), (0, v3), (0, q2.1), (0, (q2.2 (ρ v0 6) (q2.2 v0 5)))]) (st' := [(0, (q2.2 (ρ v0 6) (q2.2 v0 5)))]) (h' := (G, ρ, q2.2)) hm rfl (cjc (gk_b g1) (cjc (gk_b g1) (cjc (gk_b g5) (cjc g6 (cjc (Nat.le_of_ble_eq_true rfl) cjn))))) ?_
      by_cases c7 : (q2.2 (ρ v0 6) (q2.2 v0 5)) = 0
      · replace e := it_p e c7
        refine Ex_if1f (c := 1) (tgt := 26) hm rfl (bf1 c7) ?_
        refine Ex_run 1 (i' := 25) (L' := [(2, ((v0 : Nat) : Int)), (0, v1), (0, v2), (0, v3), (0, q2.1), (0, (q2.2 (ρ v0 6) (q2.2 v0 5)))]) (st' := [(0, 0)]) (h' := (G, ρ, q2.2)) hm rfl cjn ?_
        cases e
        cases hk
        exact Ex_ret (k := 1) hm rfl ⟨_, rfl, rfl⟩
      · replace e := it_n e c7
        refine Ex_if1t (c := 1) (tgt := 26) hm rfl (bt1 c7) ?_
        refine Ex_run 1 (i' := 27) (L' := [(2, ((v0 : Nat) : Int)), (0, v1), (0, v2), (0, v3), (0, q2.1), (0, (q2.2 (ρ v0 6) (q2.2 v0 5)))]) (st' := [(0, q2.1)]) (h' := (G, ρ, q2.2)) hm rfl cjn ?_
        by_cases c8 : q2.1 = 0
        · replace e := it_p e c8
          refine Ex_if1f (c := 1) (tgt := 31) hm rfl (bf1 c8) ?_
          refine Ex_run 3 (i' := 31) (L' := [(2, ((v0 : Nat) : Int)), (0, v1), (0, v2), (0, v3), (0, q2.1), (0, (g_neg (q2.2 (ρ v0 6) (q2.2 v0 5))))]) (st' := []) (h' := (G, ρ, q2.2)) hm rfl (cjc (Nat.le_of_ble_eq_true rfl) cjn) ?_
          exact tf152_31 e hd rr hk _ _ _ _ _
        · replace e := it_n e c8
          refine Ex_if1t (c := 1) (tgt := 31) hm rfl (bt1 c8) ?_
          exact tf152_31 e hd rr hk _ _ _ _ _
theorem tf153_102 {G : Gg} {ρ : Rg} {d : Nat} {v0 : Nat} {v1 : Int} {v2 : Int} {v3 : Int} {v4 : Int} {w0 : Int} {w1 : Int} {w2 : Nat} {m : Sg} {x : (Int × Int × Sg) ⊕ ((Int × Int × Sg) ⊕ (Sg))} (e : f153_102 G ρ v0 v1 v2 v3 v4 w0 w1 w2 m = some x) (hd : 2 ≤ d) (rr : Option MV × Mh) (hk : (DS (e153_39 G ρ d v0 v1 v3) (DS (e153_17 G ρ d v0 v1) (Bv G ρ))) x rr) (j5 : Int) (j6 : Int) (j7 : Int) (j8 : MV) : Ex d 153 102 [(2, ((v0 : Nat) : Int)), (0, v1), (0, v2), (0, v3), (0, v4), (0, j5), (0, j6), (0, j7), j8] [(0, w0), (0, w1), (2, ((w2 : Nat) : Int))] (G, ρ, m) rr := by
  unfold f153_102 at e
  have hm := mi_153
  obtain ⟨g21, e⟩ := gd_s e
  obtain ⟨g22, e⟩ := gd_s e
  refine Ex_run 2 (i' := 104) (L' := [(2, ((v0 : Nat) : Int)), (0, v1), (0, v2), (0, v3), (0, v4), (0, j5), (0, j6), (0, j7), j8]) (st' := [(0, v2)]) (h' := (G, ρ, (put m w2 w1 w0))) hm rfl (cjc (gk_b g21) (cjc g22 cjn)) ?_
  by_cases c23 : v2 = 0
  · replace e := it_p e c23
    refine Ex_if1f (c := 1) (tgt := 110) hm rfl (bf1 c23) ?_
    obtain ⟨g24, e⟩ := gd_s e
    obtain ⟨g25, e⟩ := gd_s e
    obtain ⟨g26, e⟩ := gd_s e
    refine Ex_run 4 (i' := 109) (L' := [(2, ((v0 : Nat) : Int)), (0, v1), (0, v2), (0, v3), (0, v4), (0, j5), (0, j6), (0, j7), j8]) (st' := [(0, ((put m w2 w1 w0) (ρ v0 7) v4))]) (h' := (G, ρ, (put m w2 w1 w0))) hm rfl (cjc (gk_b g24) (cjc (gk_b g25) (cjc g26 cjn))) ?_
    by_cases c27 : ((put m w2 w1 w0) (ρ v0 7) v4) = 0
    · replace e := it_p e c27
      refine Ex_if1t (c := 0) (tgt := 112) hm rfl (bt0 c27) ?_
      refine Ex_run 4 (i' := 39) (L' := [(2, ((v0 : Nat) : Int)), (0, v1), (0, 0), (0, v3), (0, (w32 (v4 + 1))), (0, j5), (0, j6), (0, j7), j8]) (st' := []) (h' := (G, ρ, (put m w2 w1 w0))) hm rfl (cjc (Nat.le_of_ble_eq_true rfl) cjn) ?_
      cases e
      exact hk _ _ _ _
    · replace e := it_n e c27
      refine Ex_if1f (c := 0) (tgt := 112) hm rfl (bf0 c27) ?_
      refine Ex_run 5 (i' := 39) (L' := [(2, ((v0 : Nat) : Int)), (0, v1), (0, 1), (0, v3), (0, (w32 (v4 + 1))), (0, j5), (0, j6), (0, j7), j8]) (st' := []) (h' := (G, ρ, (put m w2 w1 w0))) hm rfl (cjc (Nat.le_of_ble_eq_true rfl) cjn) ?_
      cases e
      exact hk _ _ _ _
  · replace e := it_n e c23
    refine Ex_if1t (c := 1) (tgt := 110) hm rfl (bt1 c23) ?_
    refine Ex_run 5 (i' := 39) (L' := [(2, ((v0 : Nat) : Int)), (0, v1), (0, 1), (0, v3), (0, (w32 (v4 + 1))), (0, j5), (0, j6), (0, j7), j8]) (st' := []) (h' := (G, ρ, (put m w2 w1 w0))) hm rfl (cjc (Nat.le_of_ble_eq_true rfl) cjn) ?_
    cases e
    exact hk _ _ _ _
theorem tf153_78 {G : Gg} {ρ : Rg} {d : Nat} {v0 : Nat} {v1 : Int} {v2 : Int} {v3 : Int} {v4 : Int} {v6 : Int} {v7 : Int} {v8 : Int} {w0 : Int} {m : Sg} {x : (Int × Int × Int × Sg) ⊕ ((Int × Int × Sg) ⊕ ((Int × Int × Sg) ⊕ (Sg)))} (e : f153_78 G ρ v0 v1 v2 v3 v4 v6 v7 v8 w0 m = some x) (hd : 2 ≤ d) (rr : Option MV × Mh) (hk : (DS (e153_55 G ρ d v0 v1 v2 v3 v4) (DS (e153_39 G ρ d v0 v1 v3) (DS (e153_17 G ρ d v0 v1) (Bv G ρ)))) x rr) (j5 : Int) : Ex d 153 78 [(2, ((v0 : Nat) : Int)), (0, v1), (0, v2), (0, v3), (0, v4), (0, j5), (0, v6), (0, v7), (0, v8)] [(0, w0)] (G, ρ, m) rr := by
  unfold f153_78 at e
  have hm := mi_153
  refine Ex_run 2 (i' := 80) (L' := [(2, ((v0 : Nat) : Int)), (0, v1), (0, v2), (0, v3), (0, v4), (0, w0), (0, v6), (0, v7), (0, v8)]) (st' := [(0, v6)]) (h' := (G, ρ, m)) hm rfl (cjc (Nat.le_of_ble_eq_true rfl) cjn) ?_
  by_cases c34 : v6 = 0
  · replace e := it_p e c34
    refine Ex_if1t (c := 0) (tgt := 85) hm rfl (bt0 c34) ?_
    refine Ex_run 4 (i' := 55) (L' := [(2, ((v0 : Nat) : Int)), (0, v1), (0, v2), (0, v3), (0, v4), (0, w0), (0, 0), (0, (w32 (v7 + 1))), (0, v8)]) (st' := []) (h' := (G, ρ, m)) hm rfl (cjc (Nat.le_of_ble_eq_true rfl) cjn) ?_
    cases e
    exact hk _
  · replace e := it_n e c34
    refine Ex_if1f (c := 0) (tgt := 85) hm rfl (bf0 c34) ?_
    refine Ex_run 1 (i' := 82) (L' := [(2, ((v0 : Nat) : Int)), (0, v1), (0, v2), (0, v3), (0, v4), (0, w0), (0, v6), (0, v7), (0, v8)]) (st' := [(0, v8)]) (h' := (G, ρ, m)) hm rfl cjn ?_
    by_cases c35 : v8 < 0
    · replace e := it_p e c35
      refine Ex_if1f (c := 3) (tgt := 85) hm rfl (bf3 c35) ?_
      refine Ex_run 5 (i' := 55) (L' := [(2, ((v0 : Nat) : Int)), (0, v1), (0, v2), (0, v3), (0, v4), (0, w0), (0, 1), (0, (w32 (v7 + 1))), (0, v8)]) (st' := []) (h' := (G, ρ, m)) hm rfl (cjc (Nat.le_of_ble_eq_true rfl) cjn) ?_
      cases e
      exact hk _
    · replace e := it_n e c35
      refine Ex_if1t (c := 3) (tgt := 85) hm rfl (bt3 c35) ?_
      refine Ex_run 4 (i' := 55) (L' := [(2, ((v0 : Nat) : Int)), (0, v1), (0, v2), (0, v3), (0, v4), (0, w0), (0, 0), (0, (w32 (v7 + 1))), (0, v8)]) (st' := []) (h' := (G, ρ, m)) hm rfl (cjc (Nat.le_of_ble_eq_true rfl) cjn) ?_
      cases e
      exact hk _
theorem tf153_b55 {G : Gg} {ρ : Rg} {d : Nat} {v0 : Nat} {v1 : Int} {v2 : Int} {v3 : Int} {v4 : Int} {s : Int × Int × Int × Sg} {x : (Int × Int × Int × Sg) ⊕ ((Int × Int × Sg) ⊕ ((Int × Int × Sg) ⊕ (Sg)))} (e : f153_b55 G ρ v0 v1 v2 v3 v4 s = some x) (hd : 2 ≤ d) (rr : Option MV × Mh) (hk : (DS (e153_55 G ρ d v0 v1 v2 v3 v4) (DS (e153_39 G ρ d v0 v1 v3) (DS (e153_17 G ρ d v0 v1) (Bv G ρ)))) x rr) : e153_55 G ρ d v0 v1 v2 v3 v4 s rr := by
  unfold f153_b55 at e
  have hm := mi_153
  show ∀ (j8 : MV), Ex d 153 55 [(2, ((v0 : Nat) : Int)), (0, v1), (0, v2), (0, v3), (0, v4), (0, s.1), (0, s.2.1), (0, s.2.2.1), j8] [] (G, ρ, s.2.2.2) rr
  intro j8
  refine Ex_run 2 (i' := 57) (L' := [(2, ((v0 : Nat) : Int)), (0, v1), (0, v2), (0, v3), (0, v4), (0, s.1), (0, s.2.1), (0, s.2.2.1), j8]) (st' := [(0, 5), (0, s.2.2.1)]) (h' := (G, ρ, s.2.2.2)) hm rfl cjn ?_
  by_cases c17 : 5 < s.2.2.1
  · replace e := it_p e c17
    refine Ex_if2t (c := 4) (tgt := 89) hm rfl (bt4 c17) ?_
    obtain ⟨x, e, hx⟩ := xr_s e
    replace hk : (DS (e153_39 G ρ d v0 v1 v3) (DS (e153_17 G ρ d v0 v1) (Bv G ρ))) x rr := by rw [hx] at hk; exact hk
    obtain ⟨g18, e⟩ := gd_s e
    refine Ex_run 4 (i' := 93) (L' := [(2, ((v0 : Nat) : Int)), (0, v1), (0, v2), (0, v3), (0, v4), (0, s.1), (0, s.2.1), (0, s.2.2.1), j8]) (st' := [(0, s.1), (0, v4), (2, (((ρ v0 7) : Nat) : Int))]) (h' := (G, ρ, s.2.2.2)) hm rfl (cjc (gk_b g18) cjn) ?_
    by_cases c19 : s.1 = 0
    · replace e := it_p e c19
      refine Ex_if1t (c := 0) (tgt := 96) hm rfl (bt0 c19) ?_
      refine Ex_run 1 (i' := 97) (L' := [(2, ((v0 : Nat) : Int)), (0, v1), (0, v2), (0, v3), (0, v4), (0, s.1), (0, s.2.1), (0, s.2.2.1), j8]) (st' := [(0, s.2.1), (0, v4), (2, (((ρ v0 7) : Nat) : Int))]) (h' := (G, ρ, s.2.2.2)) hm rfl cjn ?_
      by_cases c20 : s.2.1 = 0
      · replace e := it_p e c20
        refine Ex_if1t (c := 0) (tgt := 101) hm rfl (bt0 c20) ?_
        refine Ex_run 1 (i' := 102) (L' := [(2, ((v0 : Nat) : Int)), (0, v1), (0, v2), (0, v3), (0, v4), (0, s.1), (0, s.2.1), (0, s.2.2.1), j8]) (st' := [(0, 0), (0, v4), (2, (((ρ v0 7) : Nat) : Int))]) (h' := (G, ρ, s.2.2.2)) hm rfl cjn ?_
        exact tf153_102 e hd rr hk _ _ _ _
      · replace e := it_n e c20
        refine Ex_if1f (c := 0) (tgt := 101) hm rfl (bf0 c20) ?_
        refine Ex_run 3 (i' := 102) (L' := [(2, ((v0 : Nat) : Int)), (0, v1), (0, v2), (0, v3), (0, v4), (0, s.1), (0, s.2.1), (0, s.2.2.1), j8]) (st' := [(0, (g_neg v3)), (0, v4), (2, (((ρ v0 7) : Nat) : Int))]) (h' := (G, ρ, s.2.2.2)) hm rfl cjn ?_
        exact tf153_102 e hd rr hk _ _ _ _
    · replace e := it_n e c19
      refine Ex_if1f (c := 0) (tgt := 96) hm rfl (bf0 c19) ?_
      refine Ex_run 2 (i' := 102) (L' := [(2, ((v0 : Nat) : Int)), (0, v1), (0, v2), (0, v3), (0, v4), (0, s.1), (0, s.2.1), (0, s.2.2.1), j8]) (st' := [(0, v3), (0, v4), (2, (((ρ v0 7) : Nat) : Int))]) (h' := (G, ρ, s.2.2.2)) hm rfl cjn ?_
      exact tf153_102 e hd rr hk _ _ _ _
  · replace e := it_n e c17
    refine Ex_if2f (c := 4) (tgt := 89) hm rfl (bf4 c17) ?_
    refine Ex_run 3 (i' := 61) (L' := [(2, ((v0 : Nat) : Int)), (0, v1), (0, v2), (0, v3), (0, v4), (0, s.1), (0, s.2.1), (0, s.2.2.1), j8]) (st' := [(0, s.2.2.1), (0, v1), (2, ((v0 : Nat) : Int))]) (h' := (G, ρ, s.2.2.2)) hm rfl cjn ?_
    obtain ⟨g28, e⟩ := gd_s e
    obtain ⟨q29, h29, e⟩ := bn_s e
    refine Ex_callm (z := 150) (na := 3) (ck := 15) (as := [(2, ((v0 : Nat) : Int)), (0, v1), (0, s.2.2.1)]) (rest := []) (E0 := [(2, ((v0 : Nat) : Int)), (0, v1), (0, s.2.2.1)]) (v := some (0, q29)) (h1 := (G, ρ, s.2.2.2)) hm rfl (by omega) ⟨Nat.le_of_ble_eq_true rfl, Nat.le_of_ble_eq_true rfl⟩ (rc2 rfl g28) rfl rfl ml_150 rfl (Nat.le_of_ble_eq_true rfl) (tf150 h29 (by omega)) ?_
    show Ex d 153 62 [(2, ((v0 : Nat) : Int)), (0, v1), (0, v2), (0, v3), (0, v4), (0, s.1), (0, s.2.1), (0, s.2.2.1), j8] [(0, q29)] (G, ρ, s.2.2.2) rr
    by_cases c30 : q29 = 0
    · replace e := it_p e c30
      refine Ex_if1f (c := 1) (tgt := 64) hm rfl (bf1 c30) ?_
      refine Ex_run 3 (i' := 55) (L' := [(2, ((v0 : Nat) : Int)), (0, v1), (0, v2), (0, v3), (0, v4), (0, s.1), (0, s.2.1), (0, (w32 (s.2.2.1 + 1))), j8]) (st' := []) (h' := (G, ρ, s.2.2.2)) hm rfl cjn ?_
      cases e
      exact hk _
    · replace e := it_n e c30
      refine Ex_if1t (c := 1) (tgt := 64) hm rfl (bt1 c30) ?_
      refine Ex_run 4 (i' := 68) (L' := [(2, ((v0 : Nat) : Int)), (0, v1), (0, v2), (0, v3), (0, v4), (0, s.1), (0, s.2.1), (0, s.2.2.1), j8]) (st' := [(0, s.2.2.1), (0, v4), (0, v1), (2, ((v0 : Nat) : Int))]) (h' := (G, ρ, s.2.2.2)) hm rfl cjn ?_
      obtain ⟨q31, h31, e⟩ := bn_s e
      refine Ex_callm (z := 152) (na := 4) (ck := 15) (as := [(2, ((v0 : Nat) : Int)), (0, v1), (0, v4), (0, s.2.2.1)]) (rest := []) (E0 := [(2, ((v0 : Nat) : Int)), (0, v1), (0, v4), (0, s.2.2.1), (9, 0), (9, 0)]) (v := some (0, q31.1)) (h1 := (G, ρ, q31.2)) hm rfl (by omega) ⟨Nat.le_of_ble_eq_true rfl, Nat.le_of_ble_eq_true rfl⟩ (rc2 rfl g28) rfl rfl ml_152 rfl (Nat.le_of_ble_eq_true rfl) (tf152 h31 (by omega)) ?_
      show Ex d 153 69 [(2, ((v0 : Nat) : Int)), (0, v1), (0, v2), (0, v3), (0, v4), (0, s.1), (0, s.2.1), (0, s.2.2.1), j8] [(0, q31.1)] (G, ρ, q31.2) rr
      refine Ex_run 2 (i' := 71) (L' := [(2, ((v0 : Nat) : Int)), (0, v1), (0, v2), (0, v3), (0, v4), (0, s.1), (0, s.2.1), (0, s.2.2.1), (0, q31.1)]) (st' := [(0, s.1)]) (h' := (G, ρ, q31.2)) hm rfl (cjc (Nat.le_of_ble_eq_true rfl) cjn) ?_
      by_cases c32 : s.1 = 0
      · replace e := it_p e c32
        refine Ex_if1f (c := 1) (tgt := 75) hm rfl (bf1 c32) ?_
        refine Ex_run 2 (i' := 74) (L' := [(2, ((v0 : Nat) : Int)), (0, v1), (0, v2), (0, v3), (0, v4), (0, s.1), (0, s.2.1), (0, s.2.2.1), (0, q31.1)]) (st' := [(0, v3), (0, q31.1)]) (h' := (G, ρ, q31.2)) hm rfl cjn ?_
        by_cases c33 : q31.1 = v3
        · replace e := it_p e c33
          refine Ex_if2f (c := 1) (tgt := 77) hm rfl (bf1 c33) ?_
          refine Ex_run 2 (i' := 78) (L' := [(2, ((v0 : Nat) : Int)), (0, v1), (0, v2), (0, v3), (0, v4), (0, s.1), (0, s.2.1), (0, s.2.2.1), (0, q31.1)]) (st' := [(0, 1)]) (h' := (G, ρ, q31.2)) hm rfl cjn ?_
          exact tf153_78 e hd rr hk _
        · replace e := it_n e c33
          refine Ex_if2t (c := 1) (tgt := 77) hm rfl (bt1 c33) ?_
          refine Ex_run 1 (i' := 78) (L' := [(2, ((v0 : Nat) : Int)), (0, v1), (0, v2), (0, v3), (0, v4), (0, s.1), (0, s.2.1), (0, s.2.2.1), (0, q31.1)]) (st' := [(0, 0)]) (h' := (G, ρ, q31.2)) hm rfl cjn ?_
          exact tf153_78 e hd rr hk _
      · replace e := it_n e c32
        refine Ex_if1t (c := 1) (tgt := 75) hm rfl (bt1 c32) ?_
        refine Ex_run 2 (i' := 78) (L' := [(2, ((v0 : Nat) : Int)), (0, v1), (0, v2), (0, v3), (0, v4), (0, s.1), (0, s.2.1), (0, s.2.2.1), (0, q31.1)]) (st' := [(0, 1)]) (h' := (G, ρ, q31.2)) hm rfl cjn ?_
        exact tf153_78 e hd rr hk _
theorem tf153_b118 {G : Gg} {ρ : Rg} {d : Nat} {v0 : Nat} {v1 : Int} {v2 : Int} {v3 : Int} {s : Int × Sg} {x : (Int × Sg) ⊕ ((Int × Int × Sg) ⊕ (Sg))} (e : f153_b118 G ρ v0 v1 v2 v3 s = some x) (hd : 2 ≤ d) (rr : Option MV × Mh) (hk : (DS (e153_118 G ρ d v0 v1 v2 v3) (DS (e153_17 G ρ d v0 v1) (Bv G ρ))) x rr) : e153_118 G ρ d v0 v1 v2 v3 s rr := by
  unfold f153_b118 at e
  have hm := mi_153
  show ∀ (j5 : MV) (j6 : MV) (j7 : MV) (j8 : MV), Ex d 153 118 [(2, ((v0 : Nat) : Int)), (0, v1), (0, v2), (0, v3), (0, s.1), j5, j6, j7, j8] [] (G, ρ, s.2) rr
  intro j5 j6 j7 j8
  obtain ⟨g36, e⟩ := gd_s e
  refine Ex_run 3 (i' := 121) (L' := [(2, ((v0 : Nat) : Int)), (0, v1), (0, v2), (0, v3), (0, s.1), j5, j6, j7, j8]) (st' := [(0, (s.2 v0 1)), (0, s.1)]) (h' := (G, ρ, s.2)) hm rfl (cjc (gk_b g36) cjn) ?_
  by_cases c37 : s.1 < (s.2 v0 1)
  · replace e := it_p e c37
    refine Ex_if2f (c := 3) (tgt := 132) hm rfl (bf3 c37) ?_
    obtain ⟨g38, e⟩ := gd_s e
    obtain ⟨g39, e⟩ := gd_s e
    obtain ⟨g40, e⟩ := gd_s e
    obtain ⟨g41, e⟩ := gd_s e
    refine Ex_run 10 (i' := 118) (L' := [(2, ((v0 : Nat) : Int)), (0, v1), (0, v2), (0, v3), (0, (w32 (s.1 + 1))), j5, j6, j7, j8]) (st' := []) (h' := (G, ρ, (put s.2 (ρ v0 6) s.1 (s.2 (ρ v0 7) s.1)))) hm rfl (cjc (gk_b g36) (cjc (gk_b g36) (cjc (gk_b g38) (cjc g39 (cjc (gk_b g40) (cjc g41 cjn)))))) ?_
    cases e
    exact hk _ _ _ _
  · replace e := it_n e c37
    refine Ex_if2t (c := 3) (tgt := 132) hm rfl (bt3 c37) ?_
    obtain ⟨x, e, hx⟩ := xr_s e
    replace hk : (DS (e153_17 G ρ d v0 v1) (Bv G ρ)) x rr := by rw [hx] at hk; exact hk
    refine Ex_run 2 (i' := 17) (L' := [(2, ((v0 : Nat) : Int)), (0, v1), (0, v2), (0, (w32 (v3 + 1))), (0, s.1), j5, j6, j7, j8]) (st' := []) (h' := (G, ρ, s.2)) hm rfl cjn ?_
    cases e
    exact hk _ _ _ _ _
theorem tf153_b39 {G : Gg} {ρ : Rg} {d : Nat} {v0 : Nat} {v1 : Int} {v3 : Int} {s : Int × Int × Sg} {x : (Int × Int × Sg) ⊕ ((Int × Int × Sg) ⊕ (Sg))} (e : f153_b39 G ρ v0 v1 v3 s = some x) (hd : 2 ≤ d) (rr : Option MV × Mh) (hk : (DS (e153_39 G ρ d v0 v1 v3) (DS (e153_17 G ρ d v0 v1) (Bv G ρ))) x rr) : e153_39 G ρ d v0 v1 v3 s rr := by
  unfold f153_b39 at e
  have hm := mi_153
  show ∀ (j5 : MV) (j6 : MV) (j7 : MV) (j8 : MV), Ex d 153 39 [(2, ((v0 : Nat) : Int)), (0, v1), (0, s.1), (0, v3), (0, s.2.1), j5, j6, j7, j8] [] (G, ρ, s.2.2) rr
  intro j5 j6 j7 j8
  obtain ⟨g12, e⟩ := gd_s e
  refine Ex_run 3 (i' := 42) (L' := [(2, ((v0 : Nat) : Int)), (0, v1), (0, s.1), (0, v3), (0, s.2.1), j5, j6, j7, j8]) (st' := [(0, (s.2.2 v0 1)), (0, s.2.1)]) (h' := (G, ρ, s.2.2)) hm rfl (cjc (gk_b g12) cjn) ?_
  by_cases c13 : s.2.1 < (s.2.2 v0 1)
  · replace e := it_p e c13
    refine Ex_if2f (c := 3) (tgt := 116) hm rfl (bf3 c13) ?_
    obtain ⟨g14, e⟩ := gd_s e
    obtain ⟨g15, e⟩ := gd_s e
    refine Ex_run 4 (i' := 47) (L' := [(2, ((v0 : Nat) : Int)), (0, v1), (0, s.1), (0, v3), (0, s.2.1), j5, j6, j7, j8]) (st' := [(0, (s.2.2 (ρ v0 6) s.2.1))]) (h' := (G, ρ, s.2.2)) hm rfl (cjc (gk_b g12) (cjc (gk_b g14) (cjc g15 cjn))) ?_
    by_cases c16 : (s.2.2 (ρ v0 6) s.2.1) = 0
    · replace e := it_p e c16
      refine Ex_if1t (c := 0) (tgt := 49) hm rfl (bt0 c16) ?_
      refine Ex_run 6 (i' := 55) (L' := [(2, ((v0 : Nat) : Int)), (0, v1), (0, s.1), (0, v3), (0, s.2.1), (0, 0), (0, 1), (0, 1), j8]) (st' := []) (h' := (G, ρ, s.2.2)) hm rfl (cjc (Nat.le_of_ble_eq_true rfl) (cjc (Nat.le_of_ble_eq_true rfl) (cjc (Nat.le_of_ble_eq_true rfl) cjn))) ?_
      exact (Ex_lp (A := e153_55 G ρ d v0 v1 s.1 v3 s.2.1 ) (B := (DS (e153_39 G ρ d v0 v1 v3) (DS (e153_17 G ρ d v0 v1) (Bv G ρ)))) (fun s x e rr hk => tf153_b55 e hd rr hk) FU _ _ e rr hk) _
    · replace e := it_n e c16
      refine Ex_if1f (c := 0) (tgt := 49) hm rfl (bf0 c16) ?_
      refine Ex_run 3 (i' := 39) (L' := [(2, ((v0 : Nat) : Int)), (0, v1), (0, s.1), (0, v3), (0, (w32 (s.2.1 + 1))), j5, j6, j7, j8]) (st' := []) (h' := (G, ρ, s.2.2)) hm rfl cjn ?_
      cases e
      exact hk _ _ _ _
  · replace e := it_n e c13
    refine Ex_if2t (c := 3) (tgt := 116) hm rfl (bt3 c13) ?_
    obtain ⟨x, e, hx⟩ := xr_s e
    replace hk : (DS (e153_17 G ρ d v0 v1) (Bv G ρ)) x rr := by rw [hx] at hk; exact hk
    refine Ex_run 2 (i' := 118) (L' := [(2, ((v0 : Nat) : Int)), (0, v1), (0, s.1), (0, v3), (0, 0), j5, j6, j7, j8]) (st' := []) (h' := (G, ρ, s.2.2)) hm rfl (cjc (Nat.le_of_ble_eq_true rfl) cjn) ?_
    exact (Ex_lp (A := e153_118 G ρ d v0 v1 s.1 v3 ) (B := (DS (e153_17 G ρ d v0 v1) (Bv G ρ))) (fun s x e rr hk => tf153_b118 e hd rr hk) FU _ _ e rr hk) _ _ _ _
theorem tf153_b23 {G : Gg} {ρ : Rg} {d : Nat} {v0 : Nat} {v1 : Int} {v2 : Int} {v3 : Int} {s : Int × Sg} {x : (Int × Sg) ⊕ ((Int × Int × Sg) ⊕ (Sg))} (e : f153_b23 G ρ v0 v1 v2 v3 s = some x) (hd : 2 ≤ d) (rr : Option MV × Mh) (hk : (DS (e153_23 G ρ d v0 v1 v2 v3) (DS (e153_17 G ρ d v0 v1) (Bv G ρ))) x rr) : e153_23 G ρ d v0 v1 v2 v3 s rr := by
  unfold f153_b23 at e
  have hm := mi_153
  show ∀ (j5 : MV) (j6 : MV) (j7 : MV) (j8 : MV), Ex d 153 23 [(2, ((v0 : Nat) : Int)), (0, v1), (0, v2), (0, v3), (0, s.1), j5, j6, j7, j8] [] (G, ρ, s.2) rr
  intro j5 j6 j7 j8
  obtain ⟨g6, e⟩ := gd_s e
  refine Ex_run 3 (i' := 26) (L' := [(2, ((v0 : Nat) : Int)), (0, v1), (0, v2), (0, v3), (0, s.1), j5, j6, j7, j8]) (st' := [(0, (s.2 v0 1)), (0, s.1)]) (h' := (G, ρ, s.2)) hm rfl (cjc (gk_b g6) cjn) ?_
  by_cases c7 : s.1 < (s.2 v0 1)
  · replace e := it_p e c7
    refine Ex_if2f (c := 3) (tgt := 37) hm rfl (bf3 c7) ?_
    obtain ⟨g8, e⟩ := gd_s e
    obtain ⟨g9, e⟩ := gd_s e
    obtain ⟨g10, e⟩ := gd_s e
    obtain ⟨g11, e⟩ := gd_s e
    refine Ex_run 10 (i' := 23) (L' := [(2, ((v0 : Nat) : Int)), (0, v1), (0, v2), (0, v3), (0, (w32 (s.1 + 1))), j5, j6, j7, j8]) (st' := []) (h' := (G, ρ, (put s.2 (ρ v0 7) s.1 (s.2 (ρ v0 6) s.1)))) hm rfl (cjc (gk_b g6) (cjc (gk_b g6) (cjc (gk_b g8) (cjc g9 (cjc (gk_b g10) (cjc g11 cjn)))))) ?_
    cases e
    exact hk _ _ _ _
  · replace e := it_n e c7
    refine Ex_if2t (c := 3) (tgt := 37) hm rfl (bt3 c7) ?_
    obtain ⟨x, e, hx⟩ := xr_s e
    replace hk : (DS (e153_17 G ρ d v0 v1) (Bv G ρ)) x rr := by rw [hx] at hk; exact hk
    refine Ex_run 2 (i' := 39) (L' := [(2, ((v0 : Nat) : Int)), (0, v1), (0, v2), (0, v3), (0, 0), j5, j6, j7, j8]) (st' := []) (h' := (G, ρ, s.2)) hm rfl (cjc (Nat.le_of_ble_eq_true rfl) cjn) ?_
    exact (Ex_lp (A := e153_39 G ρ d v0 v1 v3 ) (B := (DS (e153_17 G ρ d v0 v1) (Bv G ρ))) (fun s x e rr hk => tf153_b39 e hd rr hk) FU _ _ e rr hk) _ _ _ _
theorem tf153_b17 {G : Gg} {ρ : Rg} {d : Nat} {v0 : Nat} {v1 : Int} {s : Int × Int × Sg} {x : (Int × Int × Sg) ⊕ (Sg)} (e : f153_b17 G ρ v0 v1 s = some x) (hd : 2 ≤ d) (rr : Option MV × Mh) (hk : (DS (e153_17 G ρ d v0 v1) (Bv G ρ)) x rr) : e153_17 G ρ d v0 v1 s rr := by
  unfold f153_b17 at e
  have hm := mi_153
  show ∀ (j4 : MV) (j5 : MV) (j6 : MV) (j7 : MV) (j8 : MV), Ex d 153 17 [(2, ((v0 : Nat) : Int)), (0, v1), (0, s.1), (0, s.2.1), j4, j5, j6, j7, j8] [] (G, ρ, s.2.2) rr
  intro j4 j5 j6 j7 j8
  refine Ex_run 1 (i' := 18) (L' := [(2, ((v0 : Nat) : Int)), (0, v1), (0, s.1), (0, s.2.1), j4, j5, j6, j7, j8]) (st' := [(0, s.1)]) (h' := (G, ρ, s.2.2)) hm rfl cjn ?_
  by_cases c5 : s.1 = 0
  · replace e := it_p e c5
    refine Ex_if1t (c := 0) (tgt := 134) hm rfl (bt0 c5) ?_
    obtain ⟨x, e, hx⟩ := xr_s e
    replace hk : (Bv G ρ) x rr := by rw [hx] at hk; exact hk
    cases e
    cases hk
    exact Ex_ret (k := 0) hm rfl ⟨rfl, rfl⟩
  · replace e := it_n e c5
    refine Ex_if1f (c := 0) (tgt := 134) hm rfl (bf0 c5) ?_
    refine Ex_run 4 (i' := 23) (L' := [(2, ((v0 : Nat) : Int)), (0, v1), (0, 0), (0, s.2.1), (0, 0), j5, j6, j7, j8]) (st' := []) (h' := (G, ρ, s.2.2)) hm rfl (cjc (Nat.le_of_ble_eq_true rfl) (cjc (Nat.le_of_ble_eq_true rfl) cjn)) ?_
    exact (Ex_lp (A := e153_23 G ρ d v0 v1 0 s.2.1 ) (B := (DS (e153_17 G ρ d v0 v1) (Bv G ρ))) (fun s x e rr hk => tf153_b23 e hd rr hk) FU _ _ e rr hk) _ _ _ _
theorem tf153_b2 {G : Gg} {ρ : Rg} {d : Nat} {v0 : Nat} {v1 : Int} {s : Int × Sg} {x : (Int × Sg) ⊕ (Sg)} (e : f153_b2 G ρ v0 v1 s = some x) (hd : 2 ≤ d) (rr : Option MV × Mh) (hk : (DS (e153_2 G ρ d v0 v1) (Bv G ρ)) x rr) : e153_2 G ρ d v0 v1 s rr := by
  unfold f153_b2 at e
  have hm := mi_153
  show Ex d 153 2 [(2, ((v0 : Nat) : Int)), (0, v1), (0, s.1), (9, 0), (9, 0), (9, 0), (9, 0), (9, 0), (9, 0)] [] (G, ρ, s.2) rr
  obtain ⟨g1, e⟩ := gd_s e
  refine Ex_run 3 (i' := 5) (L' := [(2, ((v0 : Nat) : Int)), (0, v1), (0, s.1), (9, 0), (9, 0), (9, 0), (9, 0), (9, 0), (9, 0)]) (st' := [(0, (s.2 v0 1)), (0, s.1)]) (h' := (G, ρ, s.2)) hm rfl (cjc (gk_b g1) cjn) ?_
  by_cases c2 : s.1 < (s.2 v0 1)
  · replace e := it_p e c2
    refine Ex_if2f (c := 3) (tgt := 13) hm rfl (bf3 c2) ?_
    obtain ⟨g3, e⟩ := gd_s e
    obtain ⟨g4, e⟩ := gd_s e
    refine Ex_run 7 (i' := 2) (L' := [(2, ((v0 : Nat) : Int)), (0, v1), (0, (w32 (s.1 + 1))), (9, 0), (9, 0), (9, 0), (9, 0), (9, 0), (9, 0)]) (st' := []) (h' := (G, ρ, (put s.2 (ρ v0 6) s.1 0))) hm rfl (cjc (gk_b g1) (cjc (gk_b g3) (cjc g4 cjn))) ?_
    cases e
    exact hk
  · replace e := it_n e c2
    refine Ex_if2t (c := 3) (tgt := 13) hm rfl (bt3 c2) ?_
    obtain ⟨x, e, hx⟩ := xr_s e
    replace hk : (Bv G ρ) x rr := by rw [hx] at hk; exact hk
    refine Ex_run 4 (i' := 17) (L' := [(2, ((v0 : Nat) : Int)), (0, v1), (0, 1), (0, 1), (9, 0), (9, 0), (9, 0), (9, 0), (9, 0)]) (st' := []) (h' := (G, ρ, s.2)) hm rfl (cjc (Nat.le_of_ble_eq_true rfl) (cjc (Nat.le_of_ble_eq_true rfl) cjn)) ?_
    exact (Ex_lp (A := e153_17 G ρ d v0 v1 ) (B := (Bv G ρ)) (fun s x e rr hk => tf153_b17 e hd rr hk) FU _ _ e rr hk) _ _ _ _ _
theorem tf153 {G : Gg} {ρ : Rg} {d : Nat} {v0 : Nat} {v1 : Int} {m : Sg} {x : Sg} (e : f153 G ρ v0 v1 m = some x) (hd : 2 ≤ d) : Ex d 153 0 [(2, ((v0 : Nat) : Int)), (0, v1), (9, 0), (9, 0), (9, 0), (9, 0), (9, 0), (9, 0), (9, 0)] [] (G, ρ, m) (none, (G, ρ, x)) := by
  unfold f153 at e
  have hm := mi_153
  generalize hk : (none, (G, ρ, x)) = rr
  replace hk : (Bv G ρ) x rr := hk.symm
  refine Ex_run 2 (i' := 2) (L' := [(2, ((v0 : Nat) : Int)), (0, v1), (0, 0), (9, 0), (9, 0), (9, 0), (9, 0), (9, 0), (9, 0)]) (st' := []) (h' := (G, ρ, m)) hm rfl (cjc (Nat.le_of_ble_eq_true rfl) cjn) ?_
  exact (Ex_lp (A := e153_2 G ρ d v0 v1 ) (B := (Bv G ρ)) (fun s x e rr hk => tf153_b2 e hd rr hk) FU _ _ e rr hk)
theorem tf154 {G : Gg} {ρ : Rg} {d : Nat} {v0 : Nat} {v1 : Int} {m : Sg} {x : Int × Sg} (e : f154 G ρ v0 v1 m = some x) (hd : 3 ≤ d) : Ex d 154 0 [(2, ((v0 : Nat) : Int)), (0, v1)] [] (G, ρ, m) (some (0, x.1), (G, ρ, x.2)) := by
  unfold f154 at e
  have hm := mi_154
  generalize hk : (some (0, x.1), (G, ρ, x.2)) = rr
  replace hk : (Bi G ρ) x rr := hk.symm
  refine Ex_run 2 (i' := 2) (L' := [(2, ((v0 : Nat) : Int)), (0, v1)]) (st' := [(0, v1), (2, ((v0 : Nat) : Int))]) (h' := (G, ρ, m)) hm rfl cjn ?_
  obtain ⟨g1, e⟩ := gd_s e
  obtain ⟨q2, h2, e⟩ := bn_s e
  refine Ex_callm (z := 146) (na := 2) (ck := 15) (as := [(2, ((v0 : Nat) : Int)), (0, v1)]) (rest := []) (E0 := [(2, ((v0 : Nat) : Int)), (0, v1)]) (v := some (0, q2)) (h1 := (G, ρ, m)) hm rfl (by omega) ⟨Nat.le_of_ble_eq_true rfl, Nat.le_of_ble_eq_true rfl⟩ (rc2 rfl g1) rfl rfl ml_146 rfl (Nat.le_of_ble_eq_true rfl) (tf146 h2 (by omega)) ?_
  show Ex d 154 3 [(2, ((v0 : Nat) : Int)), (0, v1)] [(0, q2)] (G, ρ, m) rr
  by_cases c3 : q2 = 0
  · replace e := it_p e c3
    refine Ex_if1f (c := 1) (tgt := 6) hm rfl (bf1 c3) ?_
    refine Ex_run 1 (i' := 5) (L' := [(2, ((v0 : Nat) : Int)), (0, v1)]) (st' := [(0, (-2))]) (h' := (G, ρ, m)) hm rfl cjn ?_
    cases e
    cases hk
    exact Ex_ret (k := 1) hm rfl ⟨_, rfl, rfl⟩
  · replace e := it_n e c3
    refine Ex_if1t (c := 1) (tgt := 6) hm rfl (bt1 c3) ?_
    refine Ex_run 2 (i' := 8) (L' := [(2, ((v0 : Nat) : Int)), (0, v1)]) (st' := [(0, 12), (2, ((v0 : Nat) : Int))]) (h' := (G, ρ, m)) hm rfl cjn ?_
    obtain ⟨q4, h4, e⟩ := bn_s e
    refine Ex_callm (z := 153) (na := 2) (ck := 15) (as := [(2, ((v0 : Nat) : Int)), (0, 12)]) (rest := []) (E0 := [(2, ((v0 : Nat) : Int)), (0, 12), (9, 0), (9, 0), (9, 0), (9, 0), (9, 0), (9, 0), (9, 0)]) (v := none) (h1 := (G, ρ, q4)) hm rfl (by omega) ⟨Nat.le_of_ble_eq_true rfl, Nat.le_of_ble_eq_true rfl⟩ (rc2 rfl g1) rfl rfl ml_153 rfl (Nat.le_of_ble_eq_true rfl) (tf153 h4 (by omega)) ?_
    show Ex d 154 9 [(2, ((v0 : Nat) : Int)), (0, v1)] [] (G, ρ, q4) rr
    obtain ⟨g5, e⟩ := gd_s e
    obtain ⟨g6, e⟩ := gd_s e
    refine Ex_run 4 (i' := 13) (L' := [(2, ((v0 : Nat) : Int)), (0, v1)]) (st' := [(0, (q4 (ρ v0 6) v1))]) (h' := (G, ρ, q4)) hm rfl (cjc (gk_b g1) (cjc (gk_b g5) (cjc g6 cjn))) ?_
    by_cases c7 : (q4 (ρ v0 6) v1) < 0
    · replace e := it_p e c7
      refine Ex_if1f (c := 3) (tgt := 21) hm rfl (bf3 c7) ?_
      refine Ex_run 7 (i' := 25) (L' := [(2, ((v0 : Nat) : Int)), (0, v1)]) (st' := [(0, (g_add (-100) (q4 (ρ v0 6) v1)))]) (h' := (G, ρ, q4)) hm rfl (cjc (gk_b g1) (cjc (gk_b g5) (cjc g6 cjn))) ?_
      cases e
      cases hk
      exact Ex_ret (k := 1) hm rfl ⟨_, rfl, rfl⟩
    · replace e := it_n e c7
      refine Ex_if1t (c := 3) (tgt := 21) hm rfl (bt3 c7) ?_
      refine Ex_run 4 (i' := 25) (L' := [(2, ((v0 : Nat) : Int)), (0, v1)]) (st' := [(0, (q4 (ρ v0 6) v1))]) (h' := (G, ρ, q4)) hm rfl (cjc (gk_b g1) (cjc (gk_b g5) (cjc g6 cjn))) ?_
      cases e
      cases hk
      exact Ex_ret (k := 1) hm rfl ⟨_, rfl, rfl⟩
theorem tf155_b4 {G : Gg} {ρ : Rg} {d : Nat} {v0 : Nat} {v1 : Int} {v2 : Int} {s : Int × Int × Sg} {x : (Int × Int × Sg) ⊕ (Int × Sg)} (e : f155_b4 G ρ v0 v1 v2 s = some x) (hd : 2 ≤ d) (rr : Option MV × Mh) (hk : (DS (e155_4 G ρ d v0 v1 v2) (Bi G ρ)) x rr) : e155_4 G ρ d v0 v1 v2 s rr := by
  unfold f155_b4 at e
  have hm := mi_155
  show Ex d 155 4 [(2, ((v0 : Nat) : Int)), (0, v1), (0, v2), (0, s.1), (0, s.2.1)] [] (G, ρ, s.2.2) rr
  refine Ex_run 2 (i' := 6) (L' := [(2, ((v0 : Nat) : Int)), (0, v1), (0, v2), (0, s.1), (0, s.2.1)]) (st' := [(0, 5), (0, s.2.1)]) (h' := (G, ρ, s.2.2)) hm rfl cjn ?_
  by_cases c1 : 5 < s.2.1
  · replace e := it_p e c1
    refine Ex_if2t (c := 4) (tgt := 29) hm rfl (bt4 c1) ?_
    obtain ⟨x, e, hx⟩ := xr_s e
    replace hk : (Bi G ρ) x rr := by rw [hx] at hk; exact hk
    refine Ex_run 1 (i' := 30) (L' := [(2, ((v0 : Nat) : Int)), (0, v1), (0, v2), (0, s.1), (0, s.2.1)]) (st' := [(0, s.1)]) (h' := (G, ρ, s.2.2)) hm rfl cjn ?_
    cases e
    cases hk
    exact Ex_ret (k := 1) hm rfl ⟨_, rfl, rfl⟩
  · replace e := it_n e c1
    refine Ex_if2f (c := 4) (tgt := 29) hm rfl (bf4 c1) ?_
    refine Ex_run 2 (i' := 9) (L' := [(2, ((v0 : Nat) : Int)), (0, v1), (0, v2), (0, s.1), (0, s.2.1)]) (st' := [(0, (-1)), (0, s.1)]) (h' := (G, ρ, s.2.2)) hm rfl cjn ?_
    by_cases c2 : s.1 = (-1)
    · replace e := it_p e c2
      refine Ex_if2f (c := 1) (tgt := 29) hm rfl (bf1 c2) ?_
      refine Ex_run 3 (i' := 13) (L' := [(2, ((v0 : Nat) : Int)), (0, v1), (0, v2), (0, s.1), (0, s.2.1)]) (st' := [(0, s.2.1), (0, v1), (2, ((v0 : Nat) : Int))]) (h' := (G, ρ, s.2.2)) hm rfl cjn ?_
      obtain ⟨g3, e⟩ := gd_s e
      obtain ⟨q4, h4, e⟩ := bn_s e
      refine Ex_callm (z := 150) (na := 3) (ck := 15) (as := [(2, ((v0 : Nat) : Int)), (0, v1), (0, s.2.1)]) (rest := []) (E0 := [(2, ((v0 : Nat) : Int)), (0, v1), (0, s.2.1)]) (v := some (0, q4)) (h1 := (G, ρ, s.2.2)) hm rfl (by omega) ⟨Nat.le_of_ble_eq_true rfl, Nat.le_of_ble_eq_true rfl⟩ (rc2 rfl g3) rfl rfl ml_150 rfl (Nat.le_of_ble_eq_true rfl) (tf150 h4 (by omega)) ?_
      show Ex d 155 14 [(2, ((v0 : Nat) : Int)), (0, v1), (0, v2), (0, s.1), (0, s.2.1)] [(0, q4)] (G, ρ, s.2.2) rr
      by_cases c5 : q4 = 0
      · replace e := it_p e c5
        refine Ex_if1t (c := 0) (tgt := 27) hm rfl (bt0 c5) ?_
        refine Ex_run 2 (i' := 4) (L' := [(2, ((v0 : Nat) : Int)), (0, v1), (0, v2), (0, s.1), (0, (w32 (s.2.1 + 1)))]) (st' := []) (h' := (G, ρ, s.2.2)) hm rfl cjn ?_
        cases e
        exact hk
      · replace e := it_n e c5
        refine Ex_if1f (c := 0) (tgt := 27) hm rfl (bf0 c5) ?_
        refine Ex_run 4 (i' := 19) (L' := [(2, ((v0 : Nat) : Int)), (0, v1), (0, v2), (0, s.1), (0, s.2.1)]) (st' := [(0, s.2.1), (0, v2), (0, v1), (2, ((v0 : Nat) : Int))]) (h' := (G, ρ, s.2.2)) hm rfl cjn ?_
        obtain ⟨q6, h6, e⟩ := bn_s e
        refine Ex_callm (z := 152) (na := 4) (ck := 15) (as := [(2, ((v0 : Nat) : Int)), (0, v1), (0, v2), (0, s.2.1)]) (rest := []) (E0 := [(2, ((v0 : Nat) : Int)), (0, v1), (0, v2), (0, s.2.1), (9, 0), (9, 0)]) (v := some (0, q6.1)) (h1 := (G, ρ, q6.2)) hm rfl (by omega) ⟨Nat.le_of_ble_eq_true rfl, Nat.le_of_ble_eq_true rfl⟩ (rc2 rfl g3) rfl rfl ml_152 rfl (Nat.le_of_ble_eq_true rfl) (tf152 h6 (by omega)) ?_
        show Ex d 155 20 [(2, ((v0 : Nat) : Int)), (0, v1), (0, v2), (0, s.1), (0, s.2.1)] [(0, q6.1)] (G, ρ, q6.2) rr
        obtain ⟨g7, e⟩ := gd_s e
        obtain ⟨g8, e⟩ := gd_s e
        refine Ex_run 4 (i' := 24) (L' := [(2, ((v0 : Nat) : Int)), (0, v1), (0, v2), (0, s.1), (0, s.2.1)]) (st' := [(0, (q6.2 (ρ v0 6) v2)), (0, q6.1)]) (h' := (G, ρ, q6.2)) hm rfl (cjc (gk_b g3) (cjc (gk_b g7) (cjc g8 cjn))) ?_
        by_cases c9 : q6.1 = (q6.2 (ρ v0 6) v2)
        · replace e := it_p e c9
          refine Ex_if2f (c := 1) (tgt := 27) hm rfl (bf1 c9) ?_
          refine Ex_run 4 (i' := 4) (L' := [(2, ((v0 : Nat) : Int)), (0, v1), (0, v2), (0, s.2.1), (0, (w32 (s.2.1 + 1)))]) (st' := []) (h' := (G, ρ, q6.2)) hm rfl (cjc (Nat.le_of_ble_eq_true rfl) cjn) ?_
          cases e
          exact hk
        · replace e := it_n e c9
          refine Ex_if2t (c := 1) (tgt := 27) hm rfl (bt1 c9) ?_
          refine Ex_run 2 (i' := 4) (L' := [(2, ((v0 : Nat) : Int)), (0, v1), (0, v2), (0, s.1), (0, (w32 (s.2.1 + 1)))]) (st' := []) (h' := (G, ρ, q6.2)) hm rfl cjn ?_
          cases e
          exact hk
    · replace e := it_n e c2
      refine Ex_if2t (c := 1) (tgt := 29) hm rfl (bt1 c2) ?_
      obtain ⟨x, e, hx⟩ := xr_s e
      replace hk : (Bi G ρ) x rr := by rw [hx] at hk; exact hk
      refine Ex_run 1 (i' := 30) (L' := [(2, ((v0 : Nat) : Int)), (0, v1), (0, v2), (0, s.1), (0, s.2.1)]) (st' := [(0, s.1)]) (h' := (G, ρ, s.2.2)) hm rfl cjn ?_
      cases e
      cases hk
      exact Ex_ret (k := 1) hm rfl ⟨_, rfl, rfl⟩
theorem tf155 {G : Gg} {ρ : Rg} {d : Nat} {v0 : Nat} {v1 : Int} {v2 : Int} {m : Sg} {x : Int × Sg} (e : f155 G ρ v0 v1 v2 m = some x) (hd : 2 ≤ d) : Ex d 155 0 [(2, ((v0 : Nat) : Int)), (0, v1), (0, v2), (9, 0), (9, 0)] [] (G, ρ, m) (some (0, x.1), (G, ρ, x.2)) := by
  unfold f155 at e
  have hm := mi_155
  generalize hk : (some (0, x.1), (G, ρ, x.2)) = rr
  replace hk : (Bi G ρ) x rr := hk.symm
  refine Ex_run 4 (i' := 4) (L' := [(2, ((v0 : Nat) : Int)), (0, v1), (0, v2), (0, (-1)), (0, 1)]) (st' := []) (h' := (G, ρ, m)) hm rfl (cjc (Nat.le_of_ble_eq_true rfl) (cjc (Nat.le_of_ble_eq_true rfl) cjn)) ?_
  exact (Ex_lp (A := e155_4 G ρ d v0 v1 v2 ) (B := (Bi G ρ)) (fun s x e rr hk => tf155_b4 e hd rr hk) FU _ _ e rr hk)
theorem tf156 {G : Gg} {ρ : Rg} {d : Nat} {v0 : Nat} {v1 : Int} {m : Sg} {x : Int × Sg} (e : f156 G ρ v0 v1 m = some x) (hd : 3 ≤ d) : Ex d 156 0 [(2, ((v0 : Nat) : Int)), (0, v1)] [] (G, ρ, m) (some (0, x.1), (G, ρ, x.2)) := by
  unfold f156 at e
  have hm := mi_156
  generalize hk : (some (0, x.1), (G, ρ, x.2)) = rr
  replace hk : (Bi G ρ) x rr := hk.symm
  refine Ex_run 2 (i' := 2) (L' := [(2, ((v0 : Nat) : Int)), (0, v1)]) (st' := [(0, v1), (2, ((v0 : Nat) : Int))]) (h' := (G, ρ, m)) hm rfl cjn ?_
  obtain ⟨g1, e⟩ := gd_s e
  obtain ⟨q2, h2, e⟩ := bn_s e
  refine Ex_callm (z := 146) (na := 2) (ck := 15) (as := [(2, ((v0 : Nat) : Int)), (0, v1)]) (rest := []) (E0 := [(2, ((v0 : Nat) : Int)), (0, v1)]) (v := some (0, q2)) (h1 := (G, ρ, m)) hm rfl (by omega) ⟨Nat.le_of_ble_eq_true rfl, Nat.le_of_ble_eq_true rfl⟩ (rc2 rfl g1) rfl rfl ml_146 rfl (Nat.le_of_ble_eq_true rfl) (tf146 h2 (by omega)) ?_
  show Ex d 156 3 [(2, ((v0 : Nat) : Int)), (0, v1)] [(0, q2)] (G, ρ, m) rr
  by_cases c3 : q2 = 0
  · replace e := it_p e c3
    refine Ex_if1f (c := 1) (tgt := 6) hm rfl (bf1 c3) ?_
    refine Ex_run 1 (i' := 5) (L' := [(2, ((v0 : Nat) : Int)), (0, v1)]) (st' := [(0, (-2))]) (h' := (G, ρ, m)) hm rfl cjn ?_
    cases e
    cases hk
    exact Ex_ret (k := 1) hm rfl ⟨_, rfl, rfl⟩
  · replace e := it_n e c3
    refine Ex_if1t (c := 1) (tgt := 6) hm rfl (bt1 c3) ?_
    refine Ex_run 2 (i' := 8) (L' := [(2, ((v0 : Nat) : Int)), (0, v1)]) (st' := [(0, 12), (2, ((v0 : Nat) : Int))]) (h' := (G, ρ, m)) hm rfl cjn ?_
    obtain ⟨q4, h4, e⟩ := bn_s e
    refine Ex_callm (z := 153) (na := 2) (ck := 15) (as := [(2, ((v0 : Nat) : Int)), (0, 12)]) (rest := []) (E0 := [(2, ((v0 : Nat) : Int)), (0, 12), (9, 0), (9, 0), (9, 0), (9, 0), (9, 0), (9, 0), (9, 0)]) (v := none) (h1 := (G, ρ, q4)) hm rfl (by omega) ⟨Nat.le_of_ble_eq_true rfl, Nat.le_of_ble_eq_true rfl⟩ (rc2 rfl g1) rfl rfl ml_153 rfl (Nat.le_of_ble_eq_true rfl) (tf153 h4 (by omega)) ?_
    show Ex d 156 9 [(2, ((v0 : Nat) : Int)), (0, v1)] [] (G, ρ, q4) rr
    refine Ex_run 3 (i' := 12) (L' := [(2, ((v0 : Nat) : Int)), (0, v1)]) (st' := [(0, v1), (0, 12), (2, ((v0 : Nat) : Int))]) (h' := (G, ρ, q4)) hm rfl cjn ?_
    obtain ⟨q5, h5, e⟩ := bn_s e
    refine Ex_callm (z := 155) (na := 3) (ck := 15) (as := [(2, ((v0 : Nat) : Int)), (0, 12), (0, v1)]) (rest := []) (E0 := [(2, ((v0 : Nat) : Int)), (0, 12), (0, v1), (9, 0), (9, 0)]) (v := some (0, q5.1)) (h1 := (G, ρ, q5.2)) hm rfl (by omega) ⟨Nat.le_of_ble_eq_true rfl, Nat.le_of_ble_eq_true rfl⟩ (rc2 rfl g1) rfl rfl ml_155 rfl (Nat.le_of_ble_eq_true rfl) (tf155 h5 (by omega)) ?_
    show Ex d 156 13 [(2, ((v0 : Nat) : Int)), (0, v1)] [(0, q5.1)] (G, ρ, q5.2) rr
    cases e
    cases hk
    exact Ex_ret (k := 1) hm rfl ⟨_, rfl, rfl⟩
theorem tf157_b4 {G : Gg} {ρ : Rg} {d : Nat} {v0 : Nat} {v1 : Int} {m : Sg} {s : Int × Int} {x : (Int × Int) ⊕ (Int)} (e : f157_b4 G ρ v0 v1 m s = some x) (hd : 0 ≤ d) (rr : Option MV × Mh) (hk : (DS (e157_4 G ρ d v0 v1 m) (Bpi G ρ m)) x rr) : e157_4 G ρ d v0 v1 m s rr := by
  unfold f157_b4 at e
  have hm := mi_157
  show Ex d 157 4 [(2, ((v0 : Nat) : Int)), (0, v1), (0, s.1), (0, s.2)] [] (G, ρ, m) rr
  obtain ⟨g1, e⟩ := gd_s e
  refine Ex_run 3 (i' := 7) (L' := [(2, ((v0 : Nat) : Int)), (0, v1), (0, s.1), (0, s.2)]) (st' := [(0, (m v0 1)), (0, s.2)]) (h' := (G, ρ, m)) hm rfl (cjc (gk_b g1) cjn) ?_
  by_cases c2 : s.2 < (m v0 1)
  · replace e := it_p e c2
    refine Ex_if2f (c := 3) (tgt := 38) hm rfl (bf3 c2) ?_
    refine Ex_run 2 (i' := 10) (L' := [(2, ((v0 : Nat) : Int)), (0, v1), (0, s.1), (0, s.2)]) (st' := [(0, v1), (0, s.1)]) (h' := (G, ρ, m)) hm rfl cjn ?_
    by_cases c3 : v1 = 0
    · replace e := it_p e c3
      refine Ex_if1f (c := 1) (tgt := 17) hm rfl (bf1 c3) ?_
      obtain ⟨g4, e⟩ := gd_s e
      obtain ⟨g5, e⟩ := gd_s e
      refine Ex_run 4 (i' := 15) (L' := [(2, ((v0 : Nat) : Int)), (0, v1), (0, s.1), (0, s.2)]) (st' := [(0, (m (ρ v0 6) s.2)), (0, s.1)]) (h' := (G, ρ, m)) hm rfl (cjc (gk_b g1) (cjc (gk_b g4) (cjc g5 cjn))) ?_
      by_cases c6 : 0 < (m (ρ v0 6) s.2)
      · replace e := it_p e c6
        refine Ex_if1f (c := 5) (tgt := 33) hm rfl (bf5 c6) ?_
        refine Ex_run 7 (i' := 4) (L' := [(2, ((v0 : Nat) : Int)), (0, v1), (0, (g_add s.1 1)), (0, (w32 (s.2 + 1)))]) (st' := []) (h' := (G, ρ, m)) hm rfl (cjc (Nat.le_of_ble_eq_true rfl) cjn) ?_
        cases e
        exact hk
      · replace e := it_n e c6
        refine Ex_if1t (c := 5) (tgt := 33) hm rfl (bt5 c6) ?_
        refine Ex_run 5 (i' := 4) (L' := [(2, ((v0 : Nat) : Int)), (0, v1), (0, (g_add s.1 0)), (0, (w32 (s.2 + 1)))]) (st' := []) (h' := (G, ρ, m)) hm rfl (cjc (Nat.le_of_ble_eq_true rfl) cjn) ?_
        cases e
        exact hk
    · replace e := it_n e c3
      refine Ex_if1t (c := 1) (tgt := 17) hm rfl (bt1 c3) ?_
      refine Ex_run 2 (i' := 19) (L' := [(2, ((v0 : Nat) : Int)), (0, v1), (0, s.1), (0, s.2)]) (st' := [(0, 1), (0, v1), (0, s.1)]) (h' := (G, ρ, m)) hm rfl cjn ?_
      by_cases c7 : v1 = 1
      · replace e := it_p e c7
        refine Ex_if2f (c := 1) (tgt := 26) hm rfl (bf1 c7) ?_
        obtain ⟨g8, e⟩ := gd_s e
        obtain ⟨g9, e⟩ := gd_s e
        refine Ex_run 4 (i' := 24) (L' := [(2, ((v0 : Nat) : Int)), (0, v1), (0, s.1), (0, s.2)]) (st' := [(0, (m (ρ v0 6) s.2)), (0, s.1)]) (h' := (G, ρ, m)) hm rfl (cjc (gk_b g1) (cjc (gk_b g8) (cjc g9 cjn))) ?_
        by_cases c10 : (m (ρ v0 6) s.2) < 0
        · replace e := it_p e c10
          refine Ex_if1f (c := 3) (tgt := 33) hm rfl (bf3 c10) ?_
          refine Ex_run 7 (i' := 4) (L' := [(2, ((v0 : Nat) : Int)), (0, v1), (0, (g_add s.1 1)), (0, (w32 (s.2 + 1)))]) (st' := []) (h' := (G, ρ, m)) hm rfl (cjc (Nat.le_of_ble_eq_true rfl) cjn) ?_
          cases e
          exact hk
        · replace e := it_n e c10
          refine Ex_if1t (c := 3) (tgt := 33) hm rfl (bt3 c10) ?_
          refine Ex_run 5 (i' := 4) (L' := [(2, ((v0 : Nat) : Int)), (0, v1), (0, (g_add s.1 0)), (0, (w32 (s.2 + 1)))]) (st' := []) (h' := (G, ρ, m)) hm rfl (cjc (Nat.le_of_ble_eq_true rfl) cjn) ?_
          cases e
          exact hk
      · replace e := it_n e c7
        refine Ex_if2t (c := 1) (tgt := 26) hm rfl (bt1 c7) ?_
        obtain ⟨g11, e⟩ := gd_s e
        obtain ⟨g12, e⟩ := gd_s e
        refine Ex_run 4 (i' := 30) (L' := [(2, ((v0 : Nat) : Int)), (0, v1), (0, s.1), (0, s.2)]) (st' := [(0, (m (ρ v0 6) s.2)), (0, s.1)]) (h' := (G, ρ, m)) hm rfl (cjc (gk_b g1) (cjc (gk_b g11) (cjc g12 cjn))) ?_
        by_cases c13 : (m (ρ v0 6) s.2) = 0
        · replace e := it_p e c13
          refine Ex_if1f (c := 1) (tgt := 33) hm rfl (bf1 c13) ?_
          refine Ex_run 6 (i' := 4) (L' := [(2, ((v0 : Nat) : Int)), (0, v1), (0, (g_add s.1 1)), (0, (w32 (s.2 + 1)))]) (st' := []) (h' := (G, ρ, m)) hm rfl (cjc (Nat.le_of_ble_eq_true rfl) cjn) ?_
          cases e
          exact hk
        · replace e := it_n e c13
          refine Ex_if1t (c := 1) (tgt := 33) hm rfl (bt1 c13) ?_
          refine Ex_run 5 (i' := 4) (L' := [(2, ((v0 : Nat) : Int)), (0, v1), (0, (g_add s.1 0)), (0, (w32 (s.2 + 1)))]) (st' := []) (h' := (G, ρ, m)) hm rfl (cjc (Nat.le_of_ble_eq_true rfl) cjn) ?_
          cases e
          exact hk
  · replace e := it_n e c2
    refine Ex_if2t (c := 3) (tgt := 38) hm rfl (bt3 c2) ?_
    obtain ⟨x, e, hx⟩ := xr_s e
    replace hk : (Bpi G ρ m) x rr := by rw [hx] at hk; exact hk
    refine Ex_run 1 (i' := 39) (L' := [(2, ((v0 : Nat) : Int)), (0, v1), (0, s.1), (0, s.2)]) (st' := [(0, s.1)]) (h' := (G, ρ, m)) hm rfl cjn ?_
    cases e
    cases hk
    exact Ex_ret (k := 1) hm rfl ⟨_, rfl, rfl⟩
theorem tf157 {G : Gg} {ρ : Rg} {d : Nat} {v0 : Nat} {v1 : Int} {m : Sg} {x : Int} (e : f157 G ρ v0 v1 m = some x) (hd : 0 ≤ d) : Ex d 157 0 [(2, ((v0 : Nat) : Int)), (0, v1), (9, 0), (9, 0)] [] (G, ρ, m) (some (0, x), (G, ρ, m)) := by
  unfold f157 at e
  have hm := mi_157
  generalize hk : (some (0, x), (G, ρ, m)) = rr
  replace hk : (Bpi G ρ m) x rr := hk.symm
  refine Ex_run 4 (i' := 4) (L' := [(2, ((v0 : Nat) : Int)), (0, v1), (0, 0), (0, 0)]) (st' := []) (h' := (G, ρ, m)) hm rfl (cjc (Nat.le_of_ble_eq_true rfl) (cjc (Nat.le_of_ble_eq_true rfl) cjn)) ?_
  exact (Ex_lp (A := e157_4 G ρ d v0 v1 m ) (B := (Bpi G ρ m)) (fun s x e rr hk => tf157_b4 e hd rr hk) FU _ _ e rr hk)
theorem tf158 {G : Gg} {ρ : Rg} {d : Nat} {v0 : Nat} {v1 : Int} {m : Sg} {x : Int × Sg} (e : f158 G ρ v0 v1 m = some x) (hd : 3 ≤ d) : Ex d 158 0 [(2, ((v0 : Nat) : Int)), (0, v1)] [] (G, ρ, m) (some (0, x.1), (G, ρ, x.2)) := by
  unfold f158 at e
  have hm := mi_158
  generalize hk : (some (0, x.1), (G, ρ, x.2)) = rr
  replace hk : (Bi G ρ) x rr := hk.symm
  refine Ex_run 4 (i' := 4) (L' := [(2, ((v0 : Nat) : Int)), (0, v1)]) (st' := [(1, 2), (1, 0), (1, v1)]) (h' := (G, ρ, m)) hm rfl cjn ?_
  obtain ⟨q1, h1, e⟩ := bn_s e
  refine Ex_callm (z := 143) (na := 3) (ck := 0) (as := [(1, v1), (1, 0), (1, 2)]) (rest := []) (E0 := [(1, v1), (9, 0), (1, 0), (9, 0), (1, 2), (9, 0)]) (v := some (0, q1)) (h1 := (G, ρ, m)) hm rfl (by omega) ⟨Nat.le_of_ble_eq_true rfl, Nat.le_of_ble_eq_true rfl⟩ (trivial) rfl rfl ml_143 rfl (Nat.le_of_ble_eq_true rfl) (tf143 h1 (by omega)) ?_
  show Ex d 158 5 [(2, ((v0 : Nat) : Int)), (0, v1)] [(0, q1)] (G, ρ, m) rr
  by_cases c2 : q1 = 0
  · replace e := it_p e c2
    refine Ex_if1f (c := 1) (tgt := 8) hm rfl (bf1 c2) ?_
    refine Ex_run 1 (i' := 7) (L' := [(2, ((v0 : Nat) : Int)), (0, v1)]) (st' := [(0, (-2))]) (h' := (G, ρ, m)) hm rfl cjn ?_
    cases e
    cases hk
    exact Ex_ret (k := 1) hm rfl ⟨_, rfl, rfl⟩
  · replace e := it_n e c2
    refine Ex_if1t (c := 1) (tgt := 8) hm rfl (bt1 c2) ?_
    refine Ex_run 2 (i' := 10) (L' := [(2, ((v0 : Nat) : Int)), (0, v1)]) (st' := [(0, 12), (2, ((v0 : Nat) : Int))]) (h' := (G, ρ, m)) hm rfl cjn ?_
    obtain ⟨g3, e⟩ := gd_s e
    obtain ⟨q4, h4, e⟩ := bn_s e
    refine Ex_callm (z := 153) (na := 2) (ck := 15) (as := [(2, ((v0 : Nat) : Int)), (0, 12)]) (rest := []) (E0 := [(2, ((v0 : Nat) : Int)), (0, 12), (9, 0), (9, 0), (9, 0), (9, 0), (9, 0), (9, 0), (9, 0)]) (v := none) (h1 := (G, ρ, q4)) hm rfl (by omega) ⟨Nat.le_of_ble_eq_true rfl, Nat.le_of_ble_eq_true rfl⟩ (rc2 rfl g3) rfl rfl ml_153 rfl (Nat.le_of_ble_eq_true rfl) (tf153 h4 (by omega)) ?_
    show Ex d 158 11 [(2, ((v0 : Nat) : Int)), (0, v1)] [] (G, ρ, q4) rr
    refine Ex_run 2 (i' := 13) (L' := [(2, ((v0 : Nat) : Int)), (0, v1)]) (st' := [(0, v1), (2, ((v0 : Nat) : Int))]) (h' := (G, ρ, q4)) hm rfl cjn ?_
    obtain ⟨q5, h5, e⟩ := bn_s e
    refine Ex_callm (z := 157) (na := 2) (ck := 15) (as := [(2, ((v0 : Nat) : Int)), (0, v1)]) (rest := []) (E0 := [(2, ((v0 : Nat) : Int)), (0, v1), (9, 0), (9, 0)]) (v := some (0, q5)) (h1 := (G, ρ, q4)) hm rfl (by omega) ⟨Nat.le_of_ble_eq_true rfl, Nat.le_of_ble_eq_true rfl⟩ (rc2 rfl g3) rfl rfl ml_157 rfl (Nat.le_of_ble_eq_true rfl) (tf157 h5 (by omega)) ?_
    show Ex d 158 14 [(2, ((v0 : Nat) : Int)), (0, v1)] [(0, q5)] (G, ρ, q4) rr
    cases e
    cases hk
    exact Ex_ret (k := 1) hm rfl ⟨_, rfl, rfl⟩
theorem tf159 {G : Gg} {ρ : Rg} {d : Nat} {v0 : Nat} {v1 : Int} {m : Sg} {x : Int × Sg} (e : f159 G ρ v0 v1 m = some x) (hd : 3 ≤ d) : Ex d 159 0 [(2, ((v0 : Nat) : Int)), (0, v1), (9, 0)] [] (G, ρ, m) (some (0, x.1), (G, ρ, x.2)) := by
  unfold f159 at e
  have hm := mi_159
  generalize hk : (some (0, x.1), (G, ρ, x.2)) = rr
  replace hk : (Bi G ρ) x rr := hk.symm
  refine Ex_run 6 (i' := 6) (L' := [(2, ((v0 : Nat) : Int)), (0, v1), (9, 0)]) (st' := [(0, v1), (0, 12), (2, ((v0 : Nat) : Int)), (0, v1), (0, 12), (2, ((v0 : Nat) : Int))]) (h' := (G, ρ, m)) hm rfl cjn ?_
  obtain ⟨g1, e⟩ := gd_s e
  obtain ⟨q2, h2, e⟩ := bn_s e
  refine Ex_callm (z := 155) (na := 3) (ck := 15) (as := [(2, ((v0 : Nat) : Int)), (0, 12), (0, v1)]) (rest := [(0, v1), (0, 12), (2, ((v0 : Nat) : Int))]) (E0 := [(2, ((v0 : Nat) : Int)), (0, 12), (0, v1), (9, 0), (9, 0)]) (v := some (0, q2.1)) (h1 := (G, ρ, q2.2)) hm rfl (by omega) ⟨Nat.le_of_ble_eq_true rfl, Nat.le_of_ble_eq_true rfl⟩ (rc2 rfl g1) rfl rfl ml_155 rfl (Nat.le_of_ble_eq_true rfl) (tf155 h2 (by omega)) ?_
  show Ex d 159 7 [(2, ((v0 : Nat) : Int)), (0, v1), (9, 0)] [(0, q2.1), (0, v1), (0, 12), (2, ((v0 : Nat) : Int))] (G, ρ, q2.2) rr
  obtain ⟨q3, h3, e⟩ := bn_s e
  refine Ex_callm (z := 151) (na := 4) (ck := 15) (as := [(2, ((v0 : Nat) : Int)), (0, 12), (0, v1), (0, q2.1)]) (rest := []) (E0 := [(2, ((v0 : Nat) : Int)), (0, 12), (0, v1), (0, q2.1), (9, 0), (9, 0), (9, 0)]) (v := some (0, q3.1)) (h1 := (G, ρ, q3.2)) hm rfl (by omega) ⟨Nat.le_of_ble_eq_true rfl, Nat.le_of_ble_eq_true rfl⟩ (rc2 rfl g1) rfl rfl ml_151 rfl (Nat.le_of_ble_eq_true rfl) (tf151 h3 (by omega)) ?_
  show Ex d 159 8 [(2, ((v0 : Nat) : Int)), (0, v1), (9, 0)] [(0, q3.1)] (G, ρ, q3.2) rr
  refine Ex_run 3 (i' := 11) (L' := [(2, ((v0 : Nat) : Int)), (0, v1), (0, q3.1)]) (st' := [(0, (q3.2 v0 5))]) (h' := (G, ρ, q3.2)) hm rfl (cjc (Nat.le_of_ble_eq_true rfl) (cjc (gk_b g1) cjn)) ?_
  cases e
  cases hk
  exact Ex_ret (k := 1) hm rfl ⟨_, rfl, rfl⟩
theorem tf160_b32 {G : Gg} {ρ : Rg} {d : Nat} {v0 : Nat} {s : Int × Int × Sg} {x : (Int × Int × Sg) ⊕ (Int × Sg)} (e : f160_b32 G ρ v0 s = some x) (hd : 4 ≤ d) (rr : Option MV × Mh) (hk : (DS (e160_32 G ρ d v0) (Bi G ρ)) x rr) : e160_32 G ρ d v0 s rr := by
  unfold f160_b32 at e
  have hm := mi_160
  show ∀ (j1 : Int), Ex d 160 32 [(2, ((v0 : Nat) : Int)), (0, j1), (0, s.1), (0, s.2.1)] [] (G, ρ, s.2.2) rr
  intro j1
  refine Ex_run 5 (i' := 37) (L' := [(2, ((v0 : Nat) : Int)), (0, j1), (0, s.1), (0, s.2.1)]) (st' := [(0, (g_and (g_shr s.2.1 s.1) 1))]) (h' := (G, ρ, s.2.2)) hm rfl cjn ?_
  by_cases c11 : (g_and (g_shr s.2.1 s.1) 1) = 0
  · replace e := it_p e c11
    refine Ex_if1f (c := 1) (tgt := 49) hm rfl (bf1 c11) ?_
    refine Ex_run 8 (i' := 46) (L' := [(2, ((v0 : Nat) : Int)), (0, j1), (0, s.1), (0, (g_or s.2.1 (g_shl 1 s.1)))]) (st' := [(0, s.1), (2, ((v0 : Nat) : Int))]) (h' := (G, ρ, s.2.2)) hm rfl (cjc (Nat.le_of_ble_eq_true rfl) cjn) ?_
    obtain ⟨g12, e⟩ := gd_s e
    obtain ⟨q13, h13, e⟩ := bn_s e
    refine Ex_callm (z := 159) (na := 2) (ck := 15) (as := [(2, ((v0 : Nat) : Int)), (0, s.1)]) (rest := []) (E0 := [(2, ((v0 : Nat) : Int)), (0, s.1), (9, 0)]) (v := some (0, q13.1)) (h1 := (G, ρ, q13.2)) hm rfl (by omega) ⟨Nat.le_of_ble_eq_true rfl, Nat.le_of_ble_eq_true rfl⟩ (rc2 rfl g12) rfl rfl ml_159 rfl (Nat.le_of_ble_eq_true rfl) (tf159 h13 (by omega)) ?_
    show Ex d 160 47 [(2, ((v0 : Nat) : Int)), (0, j1), (0, s.1), (0, (g_or s.2.1 (g_shl 1 s.1)))] [(0, q13.1)] (G, ρ, q13.2) rr
    refine Ex_run 2 (i' := 32) (L' := [(2, ((v0 : Nat) : Int)), (0, j1), (0, q13.1), (0, (g_or s.2.1 (g_shl 1 s.1)))]) (st' := []) (h' := (G, ρ, q13.2)) hm rfl (cjc (Nat.le_of_ble_eq_true rfl) cjn) ?_
    cases e
    exact hk _
  · replace e := it_n e c11
    refine Ex_if1t (c := 1) (tgt := 49) hm rfl (bt1 c11) ?_
    obtain ⟨x, e, hx⟩ := xr_s e
    replace hk : (Bi G ρ) x rr := by rw [hx] at hk; exact hk
    refine Ex_run 1 (i' := 50) (L' := [(2, ((v0 : Nat) : Int)), (0, j1), (0, s.1), (0, s.2.1)]) (st' := [(0, s.2.1)]) (h' := (G, ρ, s.2.2)) hm rfl cjn ?_
    cases e
    cases hk
    exact Ex_ret (k := 1) hm rfl ⟨_, rfl, rfl⟩
theorem tf160_b20 {G : Gg} {ρ : Rg} {d : Nat} {v0 : Nat} {s : Int × Int × Sg} {x : (Int × Int × Sg) ⊕ (Int × Sg)} (e : f160_b20 G ρ v0 s = some x) (hd : 4 ≤ d) (rr : Option MV × Mh) (hk : (DS (e160_20 G ρ d v0) (Bi G ρ)) x rr) : e160_20 G ρ d v0 s rr := by
  unfold f160_b20 at e
  have hm := mi_160
  show ∀ (j1 : Int), Ex d 160 20 [(2, ((v0 : Nat) : Int)), (0, j1), (0, s.1), (0, s.2.1)] [] (G, ρ, s.2.2) rr
  intro j1
  obtain ⟨g8, e⟩ := gd_s e
  refine Ex_run 3 (i' := 23) (L' := [(2, ((v0 : Nat) : Int)), (0, j1), (0, s.1), (0, s.2.1)]) (st' := [(0, (s.2.2 v0 1)), (0, s.2.1)]) (h' := (G, ρ, s.2.2)) hm rfl (cjc (gk_b g8) cjn) ?_
  by_cases c9 : s.2.1 < (s.2.2 v0 1)
  · replace e := it_p e c9
    refine Ex_if2f (c := 3) (tgt := 30) hm rfl (bf3 c9) ?_
    refine Ex_run 2 (i' := 26) (L' := [(2, ((v0 : Nat) : Int)), (0, j1), (0, s.1), (0, s.2.1)]) (st' := [(0, s.1), (2, ((v0 : Nat) : Int))]) (h' := (G, ρ, s.2.2)) hm rfl cjn ?_
    obtain ⟨q10, h10, e⟩ := bn_s e
    refine Ex_callm (z := 159) (na := 2) (ck := 15) (as := [(2, ((v0 : Nat) : Int)), (0, s.1)]) (rest := []) (E0 := [(2, ((v0 : Nat) : Int)), (0, s.1), (9, 0)]) (v := some (0, q10.1)) (h1 := (G, ρ, q10.2)) hm rfl (by omega) ⟨Nat.le_of_ble_eq_true rfl, Nat.le_of_ble_eq_true rfl⟩ (rc2 rfl g8) rfl rfl ml_159 rfl (Nat.le_of_ble_eq_true rfl) (tf159 h10 (by omega)) ?_
    show Ex d 160 27 [(2, ((v0 : Nat) : Int)), (0, j1), (0, s.1), (0, s.2.1)] [(0, q10.1)] (G, ρ, q10.2) rr
    refine Ex_run 3 (i' := 20) (L' := [(2, ((v0 : Nat) : Int)), (0, j1), (0, q10.1), (0, (w32 (s.2.1 + 1)))]) (st' := []) (h' := (G, ρ, q10.2)) hm rfl (cjc (Nat.le_of_ble_eq_true rfl) cjn) ?_
    cases e
    exact hk _
  · replace e := it_n e c9
    refine Ex_if2t (c := 3) (tgt := 30) hm rfl (bt3 c9) ?_
    obtain ⟨x, e, hx⟩ := xr_s e
    replace hk : (Bi G ρ) x rr := by rw [hx] at hk; exact hk
    refine Ex_run 2 (i' := 32) (L' := [(2, ((v0 : Nat) : Int)), (0, j1), (0, s.1), (0, 0)]) (st' := []) (h' := (G, ρ, s.2.2)) hm rfl (cjc (Nat.le_of_ble_eq_true rfl) cjn) ?_
    exact (Ex_lp (A := e160_32 G ρ d v0 ) (B := (Bi G ρ)) (fun s x e rr hk => tf160_b32 e hd rr hk) FU _ _ e rr hk) _
theorem tf160 {G : Gg} {ρ : Rg} {d : Nat} {v0 : Nat} {v1 : Int} {m : Sg} {x : Int × Sg} (e : f160 G ρ v0 v1 m = some x) (hd : 4 ≤ d) : Ex d 160 0 [(2, ((v0 : Nat) : Int)), (0, v1), (9, 0), (9, 0)] [] (G, ρ, m) (some (0, x.1), (G, ρ, x.2)) := by
  unfold f160 at e
  have hm := mi_160
  generalize hk : (some (0, x.1), (G, ρ, x.2)) = rr
  replace hk : (Bi G ρ) x rr := hk.symm
  refine Ex_run 2 (i' := 2) (L' := [(2, ((v0 : Nat) : Int)), (0, v1), (9, 0), (9, 0)]) (st' := [(0, v1), (2, ((v0 : Nat) : Int))]) (h' := (G, ρ, m)) hm rfl cjn ?_
  obtain ⟨g1, e⟩ := gd_s e
  obtain ⟨q2, h2, e⟩ := bn_s e
  refine Ex_callm (z := 146) (na := 2) (ck := 15) (as := [(2, ((v0 : Nat) : Int)), (0, v1)]) (rest := []) (E0 := [(2, ((v0 : Nat) : Int)), (0, v1)]) (v := some (0, q2)) (h1 := (G, ρ, m)) hm rfl (by omega) ⟨Nat.le_of_ble_eq_true rfl, Nat.le_of_ble_eq_true rfl⟩ (rc2 rfl g1) rfl rfl ml_146 rfl (Nat.le_of_ble_eq_true rfl) (tf146 h2 (by omega)) ?_
  show Ex d 160 3 [(2, ((v0 : Nat) : Int)), (0, v1), (9, 0), (9, 0)] [(0, q2)] (G, ρ, m) rr
  by_cases c3 : q2 = 0
  · replace e := it_p e c3
    refine Ex_if1f (c := 1) (tgt := 6) hm rfl (bf1 c3) ?_
    refine Ex_run 1 (i' := 5) (L' := [(2, ((v0 : Nat) : Int)), (0, v1), (9, 0), (9, 0)]) (st' := [(0, (-2))]) (h' := (G, ρ, m)) hm rfl cjn ?_
    cases e
    cases hk
    exact Ex_ret (k := 1) hm rfl ⟨_, rfl, rfl⟩
  · replace e := it_n e c3
    refine Ex_if1t (c := 1) (tgt := 6) hm rfl (bt1 c3) ?_
    refine Ex_run 2 (i' := 8) (L' := [(2, ((v0 : Nat) : Int)), (0, v1), (9, 0), (9, 0)]) (st' := [(0, 12), (2, ((v0 : Nat) : Int))]) (h' := (G, ρ, m)) hm rfl cjn ?_
    obtain ⟨q4, h4, e⟩ := bn_s e
    refine Ex_callm (z := 153) (na := 2) (ck := 15) (as := [(2, ((v0 : Nat) : Int)), (0, 12)]) (rest := []) (E0 := [(2, ((v0 : Nat) : Int)), (0, 12), (9, 0), (9, 0), (9, 0), (9, 0), (9, 0), (9, 0), (9, 0)]) (v := none) (h1 := (G, ρ, q4)) hm rfl (by omega) ⟨Nat.le_of_ble_eq_true rfl, Nat.le_of_ble_eq_true rfl⟩ (rc2 rfl g1) rfl rfl ml_153 rfl (Nat.le_of_ble_eq_true rfl) (tf153 h4 (by omega)) ?_
    show Ex d 160 9 [(2, ((v0 : Nat) : Int)), (0, v1), (9, 0), (9, 0)] [] (G, ρ, q4) rr
    obtain ⟨g5, e⟩ := gd_s e
    obtain ⟨g6, e⟩ := gd_s e
    refine Ex_run 4 (i' := 13) (L' := [(2, ((v0 : Nat) : Int)), (0, v1), (9, 0), (9, 0)]) (st' := [(0, (q4 (ρ v0 6) v1))]) (h' := (G, ρ, q4)) hm rfl (cjc (gk_b g1) (cjc (gk_b g5) (cjc g6 cjn))) ?_
    by_cases c7 : (q4 (ρ v0 6) v1) = 0
    · replace e := it_p e c7
      refine Ex_if1t (c := 0) (tgt := 16) hm rfl (bt0 c7) ?_
      refine Ex_run 4 (i' := 20) (L' := [(2, ((v0 : Nat) : Int)), (0, v1), (0, v1), (0, 0)]) (st' := []) (h' := (G, ρ, q4)) hm rfl (cjc (Nat.le_of_ble_eq_true rfl) (cjc (Nat.le_of_ble_eq_true rfl) cjn)) ?_
      exact (Ex_lp (A := e160_20 G ρ d v0 ) (B := (Bi G ρ)) (fun s x e rr hk => tf160_b20 e hd rr hk) FU _ _ e rr hk) _
    · replace e := it_n e c7
      refine Ex_if1f (c := 0) (tgt := 16) hm rfl (bf0 c7) ?_
      refine Ex_run 1 (i' := 15) (L' := [(2, ((v0 : Nat) : Int)), (0, v1), (9, 0), (9, 0)]) (st' := [(0, (-1))]) (h' := (G, ρ, q4)) hm rfl cjn ?_
      cases e
      cases hk
      exact Ex_ret (k := 1) hm rfl ⟨_, rfl, rfl⟩
theorem tf161 {G : Gg} {ρ : Rg} {d : Nat} {v0 : Nat} {m : Sg} {x : Int × Sg} (e : f161 G ρ v0 m = some x) (hd : 3 ≤ d) : Ex d 161 0 [(2, ((v0 : Nat) : Int))] [] (G, ρ, m) (some (0, x.1), (G, ρ, x.2)) := by
  unfold f161 at e
  have hm := mi_161
  generalize hk : (some (0, x.1), (G, ρ, x.2)) = rr
  replace hk : (Bi G ρ) x rr := hk.symm
  refine Ex_run 2 (i' := 2) (L' := [(2, ((v0 : Nat) : Int))]) (st' := [(0, 13), (2, ((v0 : Nat) : Int))]) (h' := (G, ρ, m)) hm rfl cjn ?_
  obtain ⟨g1, e⟩ := gd_s e
  obtain ⟨q2, h2, e⟩ := bn_s e
  refine Ex_callm (z := 153) (na := 2) (ck := 15) (as := [(2, ((v0 : Nat) : Int)), (0, 13)]) (rest := []) (E0 := [(2, ((v0 : Nat) : Int)), (0, 13), (9, 0), (9, 0), (9, 0), (9, 0), (9, 0), (9, 0), (9, 0)]) (v := none) (h1 := (G, ρ, q2)) hm rfl (by omega) ⟨Nat.le_of_ble_eq_true rfl, Nat.le_of_ble_eq_true rfl⟩ (rc2 rfl g1) rfl rfl ml_153 rfl (Nat.le_of_ble_eq_true rfl) (tf153 h2 (by omega)) ?_
  show Ex d 161 3 [(2, ((v0 : Nat) : Int))] [] (G, ρ, q2) rr
  refine Ex_run 2 (i' := 5) (L' := [(2, ((v0 : Nat) : Int))]) (st' := [(0, 2), (2, ((v0 : Nat) : Int))]) (h' := (G, ρ, q2)) hm rfl cjn ?_
  obtain ⟨q3, h3, e⟩ := bn_s e
  refine Ex_callm (z := 157) (na := 2) (ck := 15) (as := [(2, ((v0 : Nat) : Int)), (0, 2)]) (rest := []) (E0 := [(2, ((v0 : Nat) : Int)), (0, 2), (9, 0), (9, 0)]) (v := some (0, q3)) (h1 := (G, ρ, q2)) hm rfl (by omega) ⟨Nat.le_of_ble_eq_true rfl, Nat.le_of_ble_eq_true rfl⟩ (rc2 rfl g1) rfl rfl ml_157 rfl (Nat.le_of_ble_eq_true rfl) (tf157 h3 (by omega)) ?_
  show Ex d 161 6 [(2, ((v0 : Nat) : Int))] [(0, q3)] (G, ρ, q2) rr
  by_cases c4 : q3 = 0
  · replace e := it_p e c4
    refine Ex_if1f (c := 1) (tgt := 9) hm rfl (bf1 c4) ?_
    refine Ex_run 2 (i' := 10) (L' := [(2, ((v0 : Nat) : Int))]) (st' := [(0, 1)]) (h' := (G, ρ, q2)) hm rfl cjn ?_
    cases e
    cases hk
    exact Ex_ret (k := 2) hm rfl ⟨_, rfl, by decide, rfl⟩
  · replace e := it_n e c4
    refine Ex_if1t (c := 1) (tgt := 9) hm rfl (bt1 c4) ?_
    refine Ex_run 1 (i' := 10) (L' := [(2, ((v0 : Nat) : Int))]) (st' := [(0, 0)]) (h' := (G, ρ, q2)) hm rfl cjn ?_
    cases e
    cases hk
    exact Ex_ret (k := 2) hm rfl ⟨_, rfl, by decide, rfl⟩
theorem tf162_36 {G : Gg} {ρ : Rg} {d : Nat} {v0 : Nat} {v1 : Int} {v2 : Int} {v3 : Int} {w0 : Int} {w1 : Int} {w2 : Nat} {m : Sg} {x : (Int × Sg) ⊕ (Sg)} (e : f162_36 G ρ v0 v1 v2 v3 w0 w1 w2 m = some x) (hd : 0 ≤ d) (rr : Option MV × Mh) (hk : (DS (e162_2 G ρ d v0 v1 v2) (Bv G ρ)) x rr) : Ex d 162 36 [(2, ((v0 : Nat) : Int)), (0, v1), (0, v2), (0, v3)] [(0, w0), (0, w1), (2, ((w2 : Nat) : Int))] (G, ρ, m) rr := by
  unfold f162_36 at e
  have hm := mi_162
  obtain ⟨g8, e⟩ := gd_s e
  obtain ⟨g9, e⟩ := gd_s e
  refine Ex_run 3 (i' := 2) (L' := [(2, ((v0 : Nat) : Int)), (0, v1), (0, v2), (0, (w32 (v3 + 1)))]) (st' := []) (h' := (G, ρ, (put m w2 w1 w0))) hm rfl (cjc (gk_b g8) (cjc g9 cjn)) ?_
  cases e
  exact hk
theorem tf162_b2 {G : Gg} {ρ : Rg} {d : Nat} {v0 : Nat} {v1 : Int} {v2 : Int} {s : Int × Sg} {x : (Int × Sg) ⊕ (Sg)} (e : f162_b2 G ρ v0 v1 v2 s = some x) (hd : 0 ≤ d) (rr : Option MV × Mh) (hk : (DS (e162_2 G ρ d v0 v1 v2) (Bv G ρ)) x rr) : e162_2 G ρ d v0 v1 v2 s rr := by
  unfold f162_b2 at e
  have hm := mi_162
  show Ex d 162 2 [(2, ((v0 : Nat) : Int)), (0, v1), (0, v2), (0, s.1)] [] (G, ρ, s.2) rr
  refine Ex_run 2 (i' := 4) (L' := [(2, ((v0 : Nat) : Int)), (0, v1), (0, v2), (0, s.1)]) (st' := [(0, 10), (0, s.1)]) (h' := (G, ρ, s.2)) hm rfl cjn ?_
  by_cases c1 : s.1 < 10
  · replace e := it_p e c1
    refine Ex_if2f (c := 3) (tgt := 39) hm rfl (bf3 c1) ?_
    obtain ⟨g2, e⟩ := gd_s e
    obtain ⟨g3, e⟩ := gd_s e
    obtain ⟨g4, e⟩ := gd_s e
    obtain ⟨g5, e⟩ := gd_s e
    obtain ⟨g6, e⟩ := gd_s e
    obtain ⟨g7, e⟩ := gd_s e
    refine Ex_run 31 (i' := 36) (L' := [(2, ((v0 : Nat) : Int)), (0, v1), (0, v2), (0, s.1)]) (st' := [(0, ((put s.2 (ρ v0 2) (g_add (g_mul 10 v2) s.1) (s.2 (ρ v0 2) (g_add (g_mul 10 v1) s.1))) (ρ v0 3) (g_add (g_mul 10 v1) s.1))), (0, (g_add (g_mul 10 v2) s.1)), (2, (((ρ v0 3) : Nat) : Int))]) (h' := (G, ρ, (put s.2 (ρ v0 2) (g_add (g_mul 10 v2) s.1) (s.2 (ρ v0 2) (g_add (g_mul 10 v1) s.1))))) hm rfl (cjc (gk_b g2) (cjc (gk_b g2) (cjc (gk_b g3) (cjc g4 (cjc (gk_b g3) (cjc g5 (cjc (gk_b g2) (cjc (gk_b g2) (cjc (gk_b g6) (cjc g7 cjn)))))))))) ?_
    exact tf162_36 e hd rr hk
  · replace e := it_n e c1
    refine Ex_if2t (c := 3) (tgt := 39) hm rfl (bt3 c1) ?_
    obtain ⟨x, e, hx⟩ := xr_s e
    replace hk : (Bv G ρ) x rr := by rw [hx] at hk; exact hk
    obtain ⟨g10, e⟩ := gd_s e
    obtain ⟨g11, e⟩ := gd_s e
    obtain ⟨g12, e⟩ := gd_s e
    obtain ⟨g13, e⟩ := gd_s e
    refine Ex_run 8 (i' := 47) (L' := [(2, ((v0 : Nat) : Int)), (0, v1), (0, v2), (0, s.1)]) (st' := []) (h' := (G, ρ, (put s.2 (ρ v0 4) v2 (s.2 (ρ v0 4) v1)))) hm rfl (cjc (gk_b g10) (cjc (gk_b g10) (cjc (gk_b g11) (cjc g12 (cjc (gk_b g11) (cjc g13 cjn)))))) ?_
    cases e
    cases hk
    exact Ex_ret (k := 0) hm rfl ⟨rfl, rfl⟩
theorem tf162 {G : Gg} {ρ : Rg} {d : Nat} {v0 : Nat} {v1 : Int} {v2 : Int} {m : Sg} {x : Sg} (e : f162 G ρ v0 v1 v2 m = some x) (hd : 0 ≤ d) : Ex d 162 0 [(2, ((v0 : Nat) : Int)), (0, v1), (0, v2), (9, 0)] [] (G, ρ, m) (none, (G, ρ, x)) := by
  unfold f162 at e
  have hm := mi_162
  generalize hk : (none, (G, ρ, x)) = rr
  replace hk : (Bv G ρ) x rr := hk.symm
  refine Ex_run 2 (i' := 2) (L' := [(2, ((v0 : Nat) : Int)), (0, v1), (0, v2), (0, 0)]) (st' := []) (h' := (G, ρ, m)) hm rfl (cjc (Nat.le_of_ble_eq_true rfl) cjn) ?_
  exact (Ex_lp (A := e162_2 G ρ d v0 v1 v2 ) (B := (Bv G ρ)) (fun s x e rr hk => tf162_b2 e hd rr hk) FU _ _ e rr hk)
theorem tf163_b31 {G : Gg} {ρ : Rg} {d : Nat} {v0 : Nat} {v1 : Int} {v2 : Int} {v3 : Int} {s : Int × Sg} {x : (Int × Sg) ⊕ ((Int × Sg) ⊕ (Sg))} (e : f163_b31 G ρ v0 v1 v2 v3 s = some x) (hd : 4 ≤ d) (rr : Option MV × Mh) (hk : (DS (e163_31 G ρ d v0 v1 v2 v3) (DS (e163_18 G ρ d v0 v1) (Bv G ρ))) x rr) : e163_31 G ρ d v0 v1 v2 v3 s rr := by
  unfold f163_b31 at e
  have hm := mi_163
  show Ex d 163 31 [(2, ((v0 : Nat) : Int)), (0, v1), (0, v2), (0, v3), (0, s.1), (9, 0), (9, 0), (9, 0)] [] (G, ρ, s.2) rr
  refine Ex_run 2 (i' := 33) (L' := [(2, ((v0 : Nat) : Int)), (0, v1), (0, v2), (0, v3), (0, s.1), (9, 0), (9, 0), (9, 0)]) (st' := [(0, 3), (0, s.1)]) (h' := (G, ρ, s.2)) hm rfl cjn ?_
  by_cases c9 : 3 < s.1
  · replace e := it_p e c9
    refine Ex_if2t (c := 4) (tgt := 58) hm rfl (bt4 c9) ?_
    obtain ⟨x, e, hx⟩ := xr_s e
    replace hk : (DS (e163_18 G ρ d v0 v1) (Bv G ρ)) x rr := by rw [hx] at hk; exact hk
    obtain ⟨g10, e⟩ := gd_s e
    obtain ⟨g11, e⟩ := gd_s e
    obtain ⟨g12, e⟩ := gd_s e
    refine Ex_run 9 (i' := 18) (L' := [(2, ((v0 : Nat) : Int)), (0, v1), (0, (w32 (v2 + 1))), (0, v3), (0, s.1), (9, 0), (9, 0), (9, 0)]) (st' := []) (h' := (G, ρ, (put s.2 (ρ v0 2) (g_add v1 v2) v3))) hm rfl (cjc (gk_b g10) (cjc (gk_b g11) (cjc g12 cjn))) ?_
    cases e
    exact hk _ _
  · replace e := it_n e c9
    refine Ex_if2f (c := 4) (tgt := 58) hm rfl (bf4 c9) ?_
    refine Ex_run 2 (i' := 36) (L' := [(2, ((v0 : Nat) : Int)), (0, v1), (0, v2), (0, v3), (0, s.1), (9, 0), (9, 0), (9, 0)]) (st' := [(0, v3), (0, s.1)]) (h' := (G, ρ, s.2)) hm rfl cjn ?_
    by_cases c13 : s.1 = v3
    · replace e := it_p e c13
      refine Ex_if2f (c := 1) (tgt := 38) hm rfl (bf1 c13) ?_
      refine Ex_run 3 (i' := 31) (L' := [(2, ((v0 : Nat) : Int)), (0, v1), (0, v2), (0, v3), (0, (w32 (s.1 + 1))), (9, 0), (9, 0), (9, 0)]) (st' := []) (h' := (G, ρ, s.2)) hm rfl cjn ?_
      cases e
      exact hk
    · replace e := it_n e c13
      refine Ex_if2t (c := 1) (tgt := 38) hm rfl (bt1 c13) ?_
      obtain ⟨g14, e⟩ := gd_s e
      obtain ⟨g15, e⟩ := gd_s e
      obtain ⟨g16, e⟩ := gd_s e
      refine Ex_run 8 (i' := 46) (L' := [(2, ((v0 : Nat) : Int)), (0, v1), (0, v2), (0, v3), (0, s.1), (9, 0), (9, 0), (9, 0)]) (st' := [(2, ((v0 : Nat) : Int))]) (h' := (G, ρ, (put s.2 (ρ v0 2) (g_add v1 v2) s.1))) hm rfl (cjc (gk_b g14) (cjc (gk_b g15) (cjc g16 cjn))) ?_
      obtain ⟨q17, h17, e⟩ := bn_s e
      refine Ex_callm (z := 161) (na := 1) (ck := 15) (as := [(2, ((v0 : Nat) : Int))]) (rest := []) (E0 := [(2, ((v0 : Nat) : Int))]) (v := some (0, q17.1)) (h1 := (G, ρ, q17.2)) hm rfl (by omega) ⟨Nat.le_of_ble_eq_true rfl, Nat.le_of_ble_eq_true rfl⟩ (rc2 rfl g14) rfl rfl ml_161 rfl (Nat.le_of_ble_eq_true rfl) (tf161 h17 (by omega)) ?_
      show Ex d 163 47 [(2, ((v0 : Nat) : Int)), (0, v1), (0, v2), (0, v3), (0, s.1), (9, 0), (9, 0), (9, 0)] [(0, q17.1)] (G, ρ, q17.2) rr
      by_cases c18 : q17.1 = 0
      · replace e := it_p e c18
        refine Ex_if1t (c := 0) (tgt := 56) hm rfl (bt0 c18) ?_
        refine Ex_run 2 (i' := 31) (L' := [(2, ((v0 : Nat) : Int)), (0, v1), (0, v2), (0, v3), (0, (w32 (s.1 + 1))), (9, 0), (9, 0), (9, 0)]) (st' := []) (h' := (G, ρ, q17.2)) hm rfl cjn ?_
        cases e
        exact hk
      · replace e := it_n e c18
        refine Ex_if1f (c := 0) (tgt := 56) hm rfl (bf0 c18) ?_
        obtain ⟨x, e, hx⟩ := xr_s e
        replace hk : (DS (e163_18 G ρ d v0 v1) (Bv G ρ)) x rr := by rw [hx] at hk; exact hk
        obtain ⟨x, e, hx⟩ := xr_s e
        replace hk : (Bv G ρ) x rr := by rw [hx] at hk; exact hk
        refine Ex_run 7 (i' := 55) (L' := [(2, ((v0 : Nat) : Int)), (0, v1), (0, v2), (0, v3), (0, s.1), (9, 0), (9, 0), (9, 0)]) (st' := []) (h' := (G, ρ, (put q17.2 v0 9 (g_add (g_mul 10 v2) s.1)))) hm rfl (cjc (gk_b g14) cjn) ?_
        cases e
        cases hk
        exact Ex_ret (k := 0) hm rfl ⟨rfl, rfl⟩
theorem tf163_146 {G : Gg} {ρ : Rg} {d : Nat} {w0 : Int} {w1 : Nat} {m : Sg} {x : Sg} (e : f163_146 G ρ w0 w1 m = some x) (hd : 4 ≤ d) (rr : Option MV × Mh) (hk : (Bv G ρ) x rr) (j0 : Nat) (j1 : Int) (j2 : Int) (j3 : Int) (j4 : Int) (j5 : Int) (j6 : Int) (j7 : Int) : Ex d 163 146 [(2, ((j0 : Nat) : Int)), (0, j1), (0, j2), (0, j3), (0, j4), (0, j5), (0, j6), (0, j7)] [(0, w0), (2, ((w1 : Nat) : Int))] (G, ρ, m) rr := by
  unfold f163_146 at e
  have hm := mi_163
  obtain ⟨g45, e⟩ := gd_s e
  refine Ex_run 1 (i' := 147) (L' := [(2, ((j0 : Nat) : Int)), (0, j1), (0, j2), (0, j3), (0, j4), (0, j5), (0, j6), (0, j7)]) (st' := []) (h' := (G, ρ, (put m w1 10 w0))) hm rfl (cjc (gk_b g45) cjn) ?_
  cases e
  cases hk
  exact Ex_ret (k := 0) hm rfl ⟨rfl, rfl⟩
theorem tf163_b116 {G : Gg} {ρ : Rg} {d : Nat} {v0 : Nat} {v1 : Int} {v2 : Int} {v3 : Int} {v4 : Int} {v5 : Int} {v6 : Int} {s : Int × Sg} {x : (Int × Sg) ⊕ ((Int × Sg) ⊕ ((Int × Sg) ⊕ ((Int × Sg) ⊕ (Sg))))} (e : f163_b116 G ρ v0 v1 v2 v3 v4 v5 v6 s = some x) (hd : 4 ≤ d) (rr : Option MV × Mh) (hk : (DS (e163_116 G ρ d v0 v1 v2 v3 v4 v5 v6) (DS (e163_103 G ρ d v0 v1 v2 v3 v4) (DS (e163_85 G ρ d v0 v1 v2 v3) (DS (e163_72 G ρ d v0 v1) (Bv G ρ))))) x rr) : e163_116 G ρ d v0 v1 v2 v3 v4 v5 v6 s rr := by
  unfold f163_b116 at e
  have hm := mi_163
  show Ex d 163 116 [(2, ((v0 : Nat) : Int)), (0, v1), (0, v2), (0, v3), (0, v4), (0, v5), (0, v6), (0, s.1)] [] (G, ρ, s.2) rr
  refine Ex_run 2 (i' := 118) (L' := [(2, ((v0 : Nat) : Int)), (0, v1), (0, v2), (0, v3), (0, v4), (0, v5), (0, v6), (0, s.1)]) (st' := [(0, 3), (0, s.1)]) (h' := (G, ρ, s.2)) hm rfl cjn ?_
  by_cases c35 : 3 < s.1
  · replace e := it_p e c35
    refine Ex_if2t (c := 4) (tgt := 150) hm rfl (bt4 c35) ?_
    obtain ⟨x, e, hx⟩ := xr_s e
    replace hk : (DS (e163_103 G ρ d v0 v1 v2 v3 v4) (DS (e163_85 G ρ d v0 v1 v2 v3) (DS (e163_72 G ρ d v0 v1) (Bv G ρ)))) x rr := by rw [hx] at hk; exact hk
    obtain ⟨g36, e⟩ := gd_s e
    obtain ⟨g37, e⟩ := gd_s e
    obtain ⟨g38, e⟩ := gd_s e
    refine Ex_run 9 (i' := 103) (L' := [(2, ((v0 : Nat) : Int)), (0, v1), (0, v2), (0, v3), (0, v4), (0, (w32 (v5 + 1))), (0, v6), (0, s.1)]) (st' := []) (h' := (G, ρ, (put s.2 (ρ v0 2) (g_add v1 v5) v6))) hm rfl (cjc (gk_b g36) (cjc (gk_b g37) (cjc g38 cjn))) ?_
    cases e
    exact hk _ _
  · replace e := it_n e c35
    refine Ex_if2f (c := 4) (tgt := 150) hm rfl (bf4 c35) ?_
    refine Ex_run 2 (i' := 121) (L' := [(2, ((v0 : Nat) : Int)), (0, v1), (0, v2), (0, v3), (0, v4), (0, v5), (0, v6), (0, s.1)]) (st' := [(0, v6), (0, s.1)]) (h' := (G, ρ, s.2)) hm rfl cjn ?_
    by_cases c39 : s.1 = v6
    · replace e := it_p e c39
      refine Ex_if2f (c := 1) (tgt := 123) hm rfl (bf1 c39) ?_
      refine Ex_run 3 (i' := 116) (L' := [(2, ((v0 : Nat) : Int)), (0, v1), (0, v2), (0, v3), (0, v4), (0, v5), (0, v6), (0, (w32 (s.1 + 1)))]) (st' := []) (h' := (G, ρ, s.2)) hm rfl cjn ?_
      cases e
      exact hk
    · replace e := it_n e c39
      refine Ex_if2t (c := 1) (tgt := 123) hm rfl (bt1 c39) ?_
      obtain ⟨g40, e⟩ := gd_s e
      obtain ⟨g41, e⟩ := gd_s e
      obtain ⟨g42, e⟩ := gd_s e
      refine Ex_run 8 (i' := 131) (L' := [(2, ((v0 : Nat) : Int)), (0, v1), (0, v2), (0, v3), (0, v4), (0, v5), (0, v6), (0, s.1)]) (st' := [(2, ((v0 : Nat) : Int))]) (h' := (G, ρ, (put s.2 (ρ v0 2) (g_add v1 v5) s.1))) hm rfl (cjc (gk_b g40) (cjc (gk_b g41) (cjc g42 cjn))) ?_
      obtain ⟨q43, h43, e⟩ := bn_s e
      refine Ex_callm (z := 161) (na := 1) (ck := 15) (as := [(2, ((v0 : Nat) : Int))]) (rest := []) (E0 := [(2, ((v0 : Nat) : Int))]) (v := some (0, q43.1)) (h1 := (G, ρ, q43.2)) hm rfl (by omega) ⟨Nat.le_of_ble_eq_true rfl, Nat.le_of_ble_eq_true rfl⟩ (rc2 rfl g40) rfl rfl ml_161 rfl (Nat.le_of_ble_eq_true rfl) (tf161 h43 (by omega)) ?_
      show Ex d 163 132 [(2, ((v0 : Nat) : Int)), (0, v1), (0, v2), (0, v3), (0, v4), (0, v5), (0, v6), (0, s.1)] [(0, q43.1)] (G, ρ, q43.2) rr
      by_cases c44 : q43.1 = 0
      · replace e := it_p e c44
        refine Ex_if1t (c := 0) (tgt := 148) hm rfl (bt0 c44) ?_
        refine Ex_run 2 (i' := 116) (L' := [(2, ((v0 : Nat) : Int)), (0, v1), (0, v2), (0, v3), (0, v4), (0, v5), (0, v6), (0, (w32 (s.1 + 1)))]) (st' := []) (h' := (G, ρ, q43.2)) hm rfl cjn ?_
        cases e
        exact hk
      · replace e := it_n e c44
        refine Ex_if1f (c := 0) (tgt := 148) hm rfl (bf0 c44) ?_
        obtain ⟨x, e, hx⟩ := xr_s e
        replace hk : (DS (e163_103 G ρ d v0 v1 v2 v3 v4) (DS (e163_85 G ρ d v0 v1 v2 v3) (DS (e163_72 G ρ d v0 v1) (Bv G ρ)))) x rr := by rw [hx] at hk; exact hk
        obtain ⟨x, e, hx⟩ := xr_s e
        replace hk : (DS (e163_85 G ρ d v0 v1 v2 v3) (DS (e163_72 G ρ d v0 v1) (Bv G ρ))) x rr := by rw [hx] at hk; exact hk
        obtain ⟨x, e, hx⟩ := xr_s e
        replace hk : (DS (e163_72 G ρ d v0 v1) (Bv G ρ)) x rr := by rw [hx] at hk; exact hk
        obtain ⟨x, e, hx⟩ := xr_s e
        replace hk : (Bv G ρ) x rr := by rw [hx] at hk; exact hk
        refine Ex_run 13 (i' := 146) (L' := [(2, ((v0 : Nat) : Int)), (0, v1), (0, v2), (0, v3), (0, v4), (0, v5), (0, v6), (0, s.1)]) (st' := [(0, (g_add (g_mul 10 v5) s.1)), (2, ((v0 : Nat) : Int))]) (h' := (G, ρ, (put q43.2 v0 9 (g_add (g_mul 10 v2) v4)))) hm rfl (cjc (gk_b g40) cjn) ?_
        exact tf163_146 e hd rr hk _ _ _ _ _ _ _ _
theorem tf163_b103 {G : Gg} {ρ : Rg} {d : Nat} {v0 : Nat} {v1 : Int} {v2 : Int} {v3 : Int} {v4 : Int} {s : Int × Sg} {x : (Int × Sg) ⊕ ((Int × Sg) ⊕ ((Int × Sg) ⊕ (Sg)))} (e : f163_b103 G ρ v0 v1 v2 v3 v4 s = some x) (hd : 4 ≤ d) (rr : Option MV × Mh) (hk : (DS (e163_103 G ρ d v0 v1 v2 v3 v4) (DS (e163_85 G ρ d v0 v1 v2 v3) (DS (e163_72 G ρ d v0 v1) (Bv G ρ)))) x rr) : e163_103 G ρ d v0 v1 v2 v3 v4 s rr := by
  unfold f163_b103 at e
  have hm := mi_163
  show ∀ (j6 : MV) (j7 : MV), Ex d 163 103 [(2, ((v0 : Nat) : Int)), (0, v1), (0, v2), (0, v3), (0, v4), (0, s.1), j6, j7] [] (G, ρ, s.2) rr
  intro j6 j7
  obtain ⟨g31, e⟩ := gd_s e
  refine Ex_run 3 (i' := 106) (L' := [(2, ((v0 : Nat) : Int)), (0, v1), (0, v2), (0, v3), (0, v4), (0, s.1), j6, j7]) (st' := [(0, (s.2 v0 1)), (0, s.1)]) (h' := (G, ρ, s.2)) hm rfl (cjc (gk_b g31) cjn) ?_
  by_cases c32 : s.1 < (s.2 v0 1)
  · replace e := it_p e c32
    refine Ex_if2f (c := 3) (tgt := 159) hm rfl (bf3 c32) ?_
    obtain ⟨g33, e⟩ := gd_s e
    obtain ⟨g34, e⟩ := gd_s e
    refine Ex_run 9 (i' := 116) (L' := [(2, ((v0 : Nat) : Int)), (0, v1), (0, v2), (0, v3), (0, v4), (0, s.1), (0, (s.2 (ρ v0 2) (g_add v1 s.1))), (0, 0)]) (st' := []) (h' := (G, ρ, s.2)) hm rfl (cjc (gk_b g31) (cjc (gk_b g33) (cjc g34 (cjc (Nat.le_of_ble_eq_true rfl) (cjc (Nat.le_of_ble_eq_true rfl) cjn))))) ?_
    exact (Ex_lp (A := e163_116 G ρ d v0 v1 v2 v3 v4 s.1 (s.2 (ρ v0 2) (g_add v1 s.1)) ) (B := (DS (e163_103 G ρ d v0 v1 v2 v3 v4) (DS (e163_85 G ρ d v0 v1 v2 v3) (DS (e163_72 G ρ d v0 v1) (Bv G ρ))))) (fun s x e rr hk => tf163_b116 e hd rr hk) FU _ _ e rr hk)
  · replace e := it_n e c32
    refine Ex_if2t (c := 3) (tgt := 159) hm rfl (bt3 c32) ?_
    obtain ⟨x, e, hx⟩ := xr_s e
    replace hk : (DS (e163_85 G ρ d v0 v1 v2 v3) (DS (e163_72 G ρ d v0 v1) (Bv G ρ))) x rr := by rw [hx] at hk; exact hk
    refine Ex_run 2 (i' := 85) (L' := [(2, ((v0 : Nat) : Int)), (0, v1), (0, v2), (0, v3), (0, (w32 (v4 + 1))), (0, s.1), j6, j7]) (st' := []) (h' := (G, ρ, s.2)) hm rfl cjn ?_
    cases e
    exact hk _ _ _
theorem tf163_b85 {G : Gg} {ρ : Rg} {d : Nat} {v0 : Nat} {v1 : Int} {v2 : Int} {v3 : Int} {s : Int × Sg} {x : (Int × Sg) ⊕ ((Int × Sg) ⊕ (Sg))} (e : f163_b85 G ρ v0 v1 v2 v3 s = some x) (hd : 4 ≤ d) (rr : Option MV × Mh) (hk : (DS (e163_85 G ρ d v0 v1 v2 v3) (DS (e163_72 G ρ d v0 v1) (Bv G ρ))) x rr) : e163_85 G ρ d v0 v1 v2 v3 s rr := by
  unfold f163_b85 at e
  have hm := mi_163
  show ∀ (j5 : MV) (j6 : MV) (j7 : MV), Ex d 163 85 [(2, ((v0 : Nat) : Int)), (0, v1), (0, v2), (0, v3), (0, s.1), j5, j6, j7] [] (G, ρ, s.2) rr
  intro j5 j6 j7
  refine Ex_run 2 (i' := 87) (L' := [(2, ((v0 : Nat) : Int)), (0, v1), (0, v2), (0, v3), (0, s.1), j5, j6, j7]) (st' := [(0, 3), (0, s.1)]) (h' := (G, ρ, s.2)) hm rfl cjn ?_
  by_cases c23 : 3 < s.1
  · replace e := it_p e c23
    refine Ex_if2t (c := 4) (tgt := 161) hm rfl (bt4 c23) ?_
    obtain ⟨x, e, hx⟩ := xr_s e
    replace hk : (DS (e163_72 G ρ d v0 v1) (Bv G ρ)) x rr := by rw [hx] at hk; exact hk
    obtain ⟨g24, e⟩ := gd_s e
    obtain ⟨g25, e⟩ := gd_s e
    obtain ⟨g26, e⟩ := gd_s e
    refine Ex_run 9 (i' := 72) (L' := [(2, ((v0 : Nat) : Int)), (0, v1), (0, (w32 (v2 + 1))), (0, v3), (0, s.1), j5, j6, j7]) (st' := []) (h' := (G, ρ, (put s.2 (ρ v0 2) (g_add v1 v2) v3))) hm rfl (cjc (gk_b g24) (cjc (gk_b g25) (cjc g26 cjn))) ?_
    cases e
    exact hk _ _ _ _ _
  · replace e := it_n e c23
    refine Ex_if2f (c := 4) (tgt := 161) hm rfl (bf4 c23) ?_
    refine Ex_run 2 (i' := 90) (L' := [(2, ((v0 : Nat) : Int)), (0, v1), (0, v2), (0, v3), (0, s.1), j5, j6, j7]) (st' := [(0, v3), (0, s.1)]) (h' := (G, ρ, s.2)) hm rfl cjn ?_
    by_cases c27 : s.1 = v3
    · replace e := it_p e c27
      refine Ex_if2f (c := 1) (tgt := 92) hm rfl (bf1 c27) ?_
      refine Ex_run 3 (i' := 85) (L' := [(2, ((v0 : Nat) : Int)), (0, v1), (0, v2), (0, v3), (0, (w32 (s.1 + 1))), j5, j6, j7]) (st' := []) (h' := (G, ρ, s.2)) hm rfl cjn ?_
      cases e
      exact hk _ _ _
    · replace e := it_n e c27
      refine Ex_if2t (c := 1) (tgt := 92) hm rfl (bt1 c27) ?_
      obtain ⟨g28, e⟩ := gd_s e
      obtain ⟨g29, e⟩ := gd_s e
      obtain ⟨g30, e⟩ := gd_s e
      refine Ex_run 11 (i' := 103) (L' := [(2, ((v0 : Nat) : Int)), (0, v1), (0, v2), (0, v3), (0, s.1), (0, (g_add v2 1)), j6, j7]) (st' := []) (h' := (G, ρ, (put s.2 (ρ v0 2) (g_add v1 v2) s.1))) hm rfl (cjc (gk_b g28) (cjc (gk_b g29) (cjc g30 (cjc (Nat.le_of_ble_eq_true rfl) cjn)))) ?_
      exact (Ex_lp (A := e163_103 G ρ d v0 v1 v2 v3 s.1 ) (B := (DS (e163_85 G ρ d v0 v1 v2 v3) (DS (e163_72 G ρ d v0 v1) (Bv G ρ)))) (fun s x e rr hk => tf163_b103 e hd rr hk) FU _ _ e rr hk) _ _
theorem tf163_b72 {G : Gg} {ρ : Rg} {d : Nat} {v0 : Nat} {v1 : Int} {s : Int × Sg} {x : (Int × Sg) ⊕ (Sg)} (e : f163_b72 G ρ v0 v1 s = some x) (hd : 4 ≤ d) (rr : Option MV × Mh) (hk : (DS (e163_72 G ρ d v0 v1) (Bv G ρ)) x rr) : e163_72 G ρ d v0 v1 s rr := by
  unfold f163_b72 at e
  have hm := mi_163
  show ∀ (j3 : MV) (j4 : MV) (j5 : MV) (j6 : MV) (j7 : MV), Ex d 163 72 [(2, ((v0 : Nat) : Int)), (0, v1), (0, s.1), j3, j4, j5, j6, j7] [] (G, ρ, s.2) rr
  intro j3 j4 j5 j6 j7
  obtain ⟨g19, e⟩ := gd_s e
  refine Ex_run 3 (i' := 75) (L' := [(2, ((v0 : Nat) : Int)), (0, v1), (0, s.1), j3, j4, j5, j6, j7]) (st' := [(0, (s.2 v0 1)), (0, s.1)]) (h' := (G, ρ, s.2)) hm rfl (cjc (gk_b g19) cjn) ?_
  by_cases c20 : s.1 < (s.2 v0 1)
  · replace e := it_p e c20
    refine Ex_if2f (c := 3) (tgt := 170) hm rfl (bf3 c20) ?_
    obtain ⟨g21, e⟩ := gd_s e
    obtain ⟨g22, e⟩ := gd_s e
    refine Ex_run 9 (i' := 85) (L' := [(2, ((v0 : Nat) : Int)), (0, v1), (0, s.1), (0, (s.2 (ρ v0 2) (g_add v1 s.1))), (0, 0), j5, j6, j7]) (st' := []) (h' := (G, ρ, s.2)) hm rfl (cjc (gk_b g19) (cjc (gk_b g21) (cjc g22 (cjc (Nat.le_of_ble_eq_true rfl) (cjc (Nat.le_of_ble_eq_true rfl) cjn))))) ?_
    exact (Ex_lp (A := e163_85 G ρ d v0 v1 s.1 (s.2 (ρ v0 2) (g_add v1 s.1)) ) (B := (DS (e163_72 G ρ d v0 v1) (Bv G ρ))) (fun s x e rr hk => tf163_b85 e hd rr hk) FU _ _ e rr hk) _ _ _
  · replace e := it_n e c20
    refine Ex_if2t (c := 3) (tgt := 170) hm rfl (bt3 c20) ?_
    obtain ⟨x, e, hx⟩ := xr_s e
    replace hk : (Bv G ρ) x rr := by rw [hx] at hk; exact hk
    refine Ex_run 3 (i' := 173) (L' := [(2, ((v0 : Nat) : Int)), (0, v1), (0, s.1), j3, j4, j5, j6, j7]) (st' := []) (h' := (G, ρ, (put s.2 v0 8 (-1)))) hm rfl (cjc (gk_b g19) cjn) ?_
    cases e
    cases hk
    exact Ex_ret (k := 0) hm rfl ⟨rfl, rfl⟩
theorem tf163_b18 {G : Gg} {ρ : Rg} {d : Nat} {v0 : Nat} {v1 : Int} {s : Int × Sg} {x : (Int × Sg) ⊕ (Sg)} (e : f163_b18 G ρ v0 v1 s = some x) (hd : 4 ≤ d) (rr : Option MV × Mh) (hk : (DS (e163_18 G ρ d v0 v1) (Bv G ρ)) x rr) : e163_18 G ρ d v0 v1 s rr := by
  unfold f163_b18 at e
  have hm := mi_163
  show ∀ (j3 : MV) (j4 : MV), Ex d 163 18 [(2, ((v0 : Nat) : Int)), (0, v1), (0, s.1), j3, j4, (9, 0), (9, 0), (9, 0)] [] (G, ρ, s.2) rr
  intro j3 j4
  obtain ⟨g5, e⟩ := gd_s e
  refine Ex_run 3 (i' := 21) (L' := [(2, ((v0 : Nat) : Int)), (0, v1), (0, s.1), j3, j4, (9, 0), (9, 0), (9, 0)]) (st' := [(0, (s.2 v0 1)), (0, s.1)]) (h' := (G, ρ, s.2)) hm rfl (cjc (gk_b g5) cjn) ?_
  by_cases c6 : s.1 < (s.2 v0 1)
  · replace e := it_p e c6
    refine Ex_if2f (c := 3) (tgt := 67) hm rfl (bf3 c6) ?_
    obtain ⟨g7, e⟩ := gd_s e
    obtain ⟨g8, e⟩ := gd_s e
    refine Ex_run 9 (i' := 31) (L' := [(2, ((v0 : Nat) : Int)), (0, v1), (0, s.1), (0, (s.2 (ρ v0 2) (g_add v1 s.1))), (0, 0), (9, 0), (9, 0), (9, 0)]) (st' := []) (h' := (G, ρ, s.2)) hm rfl (cjc (gk_b g5) (cjc (gk_b g7) (cjc g8 (cjc (Nat.le_of_ble_eq_true rfl) (cjc (Nat.le_of_ble_eq_true rfl) cjn))))) ?_
    exact (Ex_lp (A := e163_31 G ρ d v0 v1 s.1 (s.2 (ρ v0 2) (g_add v1 s.1)) ) (B := (DS (e163_18 G ρ d v0 v1) (Bv G ρ))) (fun s x e rr hk => tf163_b31 e hd rr hk) FU _ _ e rr hk)
  · replace e := it_n e c6
    refine Ex_if2t (c := 3) (tgt := 67) hm rfl (bt3 c6) ?_
    obtain ⟨x, e, hx⟩ := xr_s e
    replace hk : (Bv G ρ) x rr := by rw [hx] at hk; exact hk
    refine Ex_run 5 (i' := 72) (L' := [(2, ((v0 : Nat) : Int)), (0, v1), (0, 0), j3, j4, (9, 0), (9, 0), (9, 0)]) (st' := []) (h' := (G, ρ, (put s.2 v0 8 2))) hm rfl (cjc (gk_b g5) (cjc (Nat.le_of_ble_eq_true rfl) cjn)) ?_
    exact (Ex_lp (A := e163_72 G ρ d v0 v1 ) (B := (Bv G ρ)) (fun s x e rr hk => tf163_b72 e hd rr hk) FU _ _ e rr hk) _ _ _ _ _
theorem tf163 {G : Gg} {ρ : Rg} {d : Nat} {v0 : Nat} {m : Sg} {x : Sg} (e : f163 G ρ v0 m = some x) (hd : 4 ≤ d) : Ex d 163 0 [(2, ((v0 : Nat) : Int)), (9, 0), (9, 0), (9, 0), (9, 0), (9, 0), (9, 0), (9, 0)] [] (G, ρ, m) (none, (G, ρ, x)) := by
  unfold f163 at e
  have hm := mi_163
  generalize hk : (none, (G, ρ, x)) = rr
  replace hk : (Bv G ρ) x rr := hk.symm
  refine Ex_run 3 (i' := 3) (L' := [(2, ((v0 : Nat) : Int)), (9, 0), (9, 0), (9, 0), (9, 0), (9, 0), (9, 0), (9, 0)]) (st' := [(0, 13), (0, 12), (2, ((v0 : Nat) : Int))]) (h' := (G, ρ, m)) hm rfl cjn ?_
  obtain ⟨g1, e⟩ := gd_s e
  obtain ⟨q2, h2, e⟩ := bn_s e
  refine Ex_callm (z := 162) (na := 3) (ck := 15) (as := [(2, ((v0 : Nat) : Int)), (0, 12), (0, 13)]) (rest := []) (E0 := [(2, ((v0 : Nat) : Int)), (0, 12), (0, 13), (9, 0)]) (v := none) (h1 := (G, ρ, q2)) hm rfl (by omega) ⟨Nat.le_of_ble_eq_true rfl, Nat.le_of_ble_eq_true rfl⟩ (rc2 rfl g1) rfl rfl ml_162 rfl (Nat.le_of_ble_eq_true rfl) (tf162 h2 (by omega)) ?_
  show Ex d 163 4 [(2, ((v0 : Nat) : Int)), (9, 0), (9, 0), (9, 0), (9, 0), (9, 0), (9, 0), (9, 0)] [] (G, ρ, q2) rr
  refine Ex_run 4 (i' := 8) (L' := [(2, ((v0 : Nat) : Int)), (9, 0), (9, 0), (9, 0), (9, 0), (9, 0), (9, 0), (9, 0)]) (st' := [(2, ((v0 : Nat) : Int))]) (h' := (G, ρ, (put q2 v0 8 0))) hm rfl (cjc (gk_b g1) cjn) ?_
  obtain ⟨q3, h3, e⟩ := bn_s e
  refine Ex_callm (z := 161) (na := 1) (ck := 15) (as := [(2, ((v0 : Nat) : Int))]) (rest := []) (E0 := [(2, ((v0 : Nat) : Int))]) (v := some (0, q3.1)) (h1 := (G, ρ, q3.2)) hm rfl (by omega) ⟨Nat.le_of_ble_eq_true rfl, Nat.le_of_ble_eq_true rfl⟩ (rc2 rfl g1) rfl rfl ml_161 rfl (Nat.le_of_ble_eq_true rfl) (tf161 h3 (by omega)) ?_
  show Ex d 163 9 [(2, ((v0 : Nat) : Int)), (9, 0), (9, 0), (9, 0), (9, 0), (9, 0), (9, 0), (9, 0)] [(0, q3.1)] (G, ρ, q3.2) rr
  by_cases c4 : q3.1 = 0
  · replace e := it_p e c4
    refine Ex_if1t (c := 0) (tgt := 11) hm rfl (bt0 c4) ?_
    refine Ex_run 7 (i' := 18) (L' := [(2, ((v0 : Nat) : Int)), (0, 130), (0, 0), (9, 0), (9, 0), (9, 0), (9, 0), (9, 0)]) (st' := []) (h' := (G, ρ, (put q3.2 v0 8 1))) hm rfl (cjc (gk_b g1) (cjc (Nat.le_of_ble_eq_true rfl) (cjc (Nat.le_of_ble_eq_true rfl) cjn))) ?_
    exact (Ex_lp (A := e163_18 G ρ d v0 130 ) (B := (Bv G ρ)) (fun s x e rr hk => tf163_b18 e hd rr hk) FU _ _ e rr hk) _ _
  · replace e := it_n e c4
    refine Ex_if1f (c := 0) (tgt := 11) hm rfl (bf0 c4) ?_
    cases e
    cases hk
    exact Ex_ret (k := 0) hm rfl ⟨rfl, rfl⟩
theorem tf164 {G : Gg} {ρ : Rg} {d : Nat} {v0 : Nat} {v1 : Int} {m : Sg} {x : Int × Sg} (e : f164 G ρ v0 v1 m = some x) (hd : 5 ≤ d) : Ex d 164 0 [(2, ((v0 : Nat) : Int)), (0, v1)] [] (G, ρ, m) (some (0, x.1), (G, ρ, x.2)) := by
  unfold f164 at e
  have hm := mi_164
  generalize hk : (some (0, x.1), (G, ρ, x.2)) = rr
  replace hk : (Bi G ρ) x rr := hk.symm
  refine Ex_run 1 (i' := 1) (L' := [(2, ((v0 : Nat) : Int)), (0, v1)]) (st' := [(2, ((v0 : Nat) : Int))]) (h' := (G, ρ, m)) hm rfl cjn ?_
  obtain ⟨g1, e⟩ := gd_s e
  obtain ⟨q2, h2, e⟩ := bn_s e
  refine Ex_callm (z := 163) (na := 1) (ck := 15) (as := [(2, ((v0 : Nat) : Int))]) (rest := []) (E0 := [(2, ((v0 : Nat) : Int)), (9, 0), (9, 0), (9, 0), (9, 0), (9, 0), (9, 0), (9, 0)]) (v := none) (h1 := (G, ρ, q2)) hm rfl (by omega) ⟨Nat.le_of_ble_eq_true rfl, Nat.le_of_ble_eq_true rfl⟩ (rc2 rfl g1) rfl rfl ml_163 rfl (Nat.le_of_ble_eq_true rfl) (tf163 h2 (by omega)) ?_
  show Ex d 164 2 [(2, ((v0 : Nat) : Int)), (0, v1)] [] (G, ρ, q2) rr
  refine Ex_run 2 (i' := 4) (L' := [(2, ((v0 : Nat) : Int)), (0, v1)]) (st' := [(0, (-1)), (0, v1)]) (h' := (G, ρ, q2)) hm rfl cjn ?_
  by_cases c3 : v1 = (-1)
  · replace e := it_p e c3
    refine Ex_if2f (c := 1) (tgt := 8) hm rfl (bf1 c3) ?_
    refine Ex_run 2 (i' := 7) (L' := [(2, ((v0 : Nat) : Int)), (0, v1)]) (st' := [(0, (q2 v0 8))]) (h' := (G, ρ, q2)) hm rfl (cjc (gk_b g1) cjn) ?_
    cases e
    cases hk
    exact Ex_ret (k := 1) hm rfl ⟨_, rfl, rfl⟩
  · replace e := it_n e c3
    refine Ex_if2t (c := 1) (tgt := 8) hm rfl (bt1 c3) ?_
    refine Ex_run 8 (i' := 16) (L' := [(2, ((v0 : Nat) : Int)), (0, v1)]) (st' := [(1, (g_sub (q2 v0 8) 1)), (1, 0), (1, v1)]) (h' := (G, ρ, q2)) hm rfl (cjc (gk_b g1) cjn) ?_
    obtain ⟨q4, h4, e⟩ := bn_s e
    refine Ex_callm (z := 143) (na := 3) (ck := 0) (as := [(1, v1), (1, 0), (1, (g_sub (q2 v0 8) 1))]) (rest := []) (E0 := [(1, v1), (9, 0), (1, 0), (9, 0), (1, (g_sub (q2 v0 8) 1)), (9, 0)]) (v := some (0, q4)) (h1 := (G, ρ, q2)) hm rfl (by omega) ⟨Nat.le_of_ble_eq_true rfl, Nat.le_of_ble_eq_true rfl⟩ (trivial) rfl rfl ml_143 rfl (Nat.le_of_ble_eq_true rfl) (tf143 h4 (by omega)) ?_
    show Ex d 164 17 [(2, ((v0 : Nat) : Int)), (0, v1)] [(0, q4)] (G, ρ, q2) rr
    by_cases c5 : q4 = 0
    · replace e := it_p e c5
      refine Ex_if1f (c := 1) (tgt := 20) hm rfl (bf1 c5) ?_
      refine Ex_run 2 (i' := 27) (L' := [(2, ((v0 : Nat) : Int)), (0, v1)]) (st' := [(0, (-1))]) (h' := (G, ρ, q2)) hm rfl cjn ?_
      cases e
      cases hk
      exact Ex_ret (k := 1) hm rfl ⟨_, rfl, rfl⟩
    · replace e := it_n e c5
      refine Ex_if1t (c := 1) (tgt := 20) hm rfl (bt1 c5) ?_
      refine Ex_run 1 (i' := 21) (L' := [(2, ((v0 : Nat) : Int)), (0, v1)]) (st' := [(0, v1)]) (h' := (G, ρ, q2)) hm rfl cjn ?_
      by_cases c6 : v1 = 0
      · replace e := it_p e c6
        refine Ex_if1f (c := 1) (tgt := 25) hm rfl (bf1 c6) ?_
        refine Ex_run 3 (i' := 27) (L' := [(2, ((v0 : Nat) : Int)), (0, v1)]) (st' := [(0, (q2 v0 9))]) (h' := (G, ρ, q2)) hm rfl (cjc (gk_b g1) cjn) ?_
        cases e
        cases hk
        exact Ex_ret (k := 1) hm rfl ⟨_, rfl, rfl⟩
      · replace e := it_n e c6
        refine Ex_if1t (c := 1) (tgt := 25) hm rfl (bt1 c6) ?_
        refine Ex_run 2 (i' := 27) (L' := [(2, ((v0 : Nat) : Int)), (0, v1)]) (st' := [(0, (q2 v0 10))]) (h' := (G, ρ, q2)) hm rfl (cjc (gk_b g1) cjn) ?_
        cases e
        cases hk
        exact Ex_ret (k := 1) hm rfl ⟨_, rfl, rfl⟩
theorem tf165_27 {G : Gg} {ρ : Rg} {d : Nat} {v0 : Nat} {v1 : Int} {v2 : Int} {v3 : Int} {w0 : Int} {w1 : Int} {w2 : Nat} {m : Sg} {x : (Int × Sg) ⊕ (Int × Sg)} (e : f165_27 G ρ v0 v1 v2 v3 w0 w1 w2 m = some x) (hd : 2 ≤ d) (rr : Option MV × Mh) (hk : (DS (e165_16 G ρ d v0 v1 v2) (Bl G ρ)) x rr) : Ex d 165 27 [(2, ((v0 : Nat) : Int)), (0, v1), (0, v2), (0, v3), (9, 0), (9, 0), (9, 0), (9, 0), (9, 0)] [(1, w0), (0, w1), (2, ((w2 : Nat) : Int))] (G, ρ, m) rr := by
  unfold f165_27 at e
  have hm := mi_165
  obtain ⟨g8, e⟩ := gd_s e
  obtain ⟨g9, e⟩ := gd_s e
  refine Ex_run 3 (i' := 16) (L' := [(2, ((v0 : Nat) : Int)), (0, v1), (0, v2), (0, (w32 (v3 + 1))), (9, 0), (9, 0), (9, 0), (9, 0), (9, 0)]) (st' := []) (h' := (G, ρ, (put m w2 w1 w0))) hm rfl (cjc (gk_b g8) (cjc g9 cjn)) ?_
  cases e
  exact hk
theorem tf165_156 {G : Gg} {ρ : Rg} {d : Nat} {v0 : Nat} {v1 : Int} {v2 : Int} {v3 : Int} {v4 : Int} {v5 : Int} {v7 : Int} {v8 : Int} {m : Sg} {x : (Int × Sg) ⊕ ((Int × Sg) ⊕ ((Int × Sg) ⊕ (Int × Sg)))} (e : f165_156 G ρ v0 v1 v2 v3 v4 v5 v7 v8 m = some x) (hd : 2 ≤ d) (rr : Option MV × Mh) (hk : (DS (e165_66 G ρ d v0 v1 v2 v3 v4) (DS (e165_61 G ρ d v0 v1 v2 v3) (DS (e165_38 G ρ d v0 v1 v2) (Bl G ρ)))) x rr) (j6 : Int) : Ex d 165 156 [(2, ((v0 : Nat) : Int)), (0, v1), (0, v2), (0, v3), (0, v4), (0, v5), (0, j6), (0, v7), (0, v8)] [] (G, ρ, m) rr := by
  unfold f165_156 at e
  have hm := mi_165
  refine Ex_run 2 (i' := 158) (L' := [(2, ((v0 : Nat) : Int)), (0, v1), (0, v2), (0, v3), (0, v4), (0, v5), (0, j6), (0, v7), (0, v8)]) (st' := [(0, 2), (0, v7)]) (h' := (G, ρ, m)) hm rfl cjn ?_
  by_cases c42 : v7 < 2
  · replace e := it_p e c42
    refine Ex_if2t (c := 2) (tgt := 171) hm rfl (bt2 c42) ?_
    refine Ex_run 2 (i' := 66) (L' := [(2, ((v0 : Nat) : Int)), (0, v1), (0, v2), (0, v3), (0, v4), (0, (w32 (v5 + 1))), (0, j6), (0, v7), (0, v8)]) (st' := []) (h' := (G, ρ, m)) hm rfl cjn ?_
    cases e
    exact hk _ _ _
  · replace e := it_n e c42
    refine Ex_if2f (c := 2) (tgt := 171) hm rfl (bf2 c42) ?_
    refine Ex_run 2 (i' := 161) (L' := [(2, ((v0 : Nat) : Int)), (0, v1), (0, v2), (0, v3), (0, v4), (0, v5), (0, j6), (0, v7), (0, v8)]) (st' := [(0, 1), (0, v8)]) (h' := (G, ρ, m)) hm rfl cjn ?_
    by_cases c43 : v8 = 1
    · replace e := it_p e c43
      refine Ex_if2f (c := 1) (tgt := 171) hm rfl (bf1 c43) ?_
      obtain ⟨g44, e⟩ := gd_s e
      obtain ⟨g45, e⟩ := gd_s e
      obtain ⟨g46, e⟩ := gd_s e
      refine Ex_run 11 (i' := 66) (L' := [(2, ((v0 : Nat) : Int)), (0, v1), (0, v2), (0, v3), (0, v4), (0, (w32 (v5 + 1))), (0, j6), (0, v7), (0, v8)]) (st' := []) (h' := (G, ρ, (put m v0 14 (k_add (m v0 14) (m (ρ v0 11) v4))))) hm rfl (cjc (gk_b g44) (cjc (gk_b g44) (cjc (gk_b g45) (cjc g46 (cjc (gk_b g44) cjn))))) ?_
      cases e
      exact hk _ _ _
    · replace e := it_n e c43
      refine Ex_if2t (c := 1) (tgt := 171) hm rfl (bt1 c43) ?_
      refine Ex_run 2 (i' := 66) (L' := [(2, ((v0 : Nat) : Int)), (0, v1), (0, v2), (0, v3), (0, v4), (0, (w32 (v5 + 1))), (0, j6), (0, v7), (0, v8)]) (st' := []) (h' := (G, ρ, m)) hm rfl cjn ?_
      cases e
      exact hk _ _ _
theorem tf165_142 {G : Gg} {ρ : Rg} {d : Nat} {v0 : Nat} {v1 : Int} {v2 : Int} {v3 : Int} {v4 : Int} {v5 : Int} {v7 : Int} {v8 : Int} {m : Sg} {x : (Int × Sg) ⊕ ((Int × Sg) ⊕ ((Int × Sg) ⊕ (Int × Sg)))} (e : f165_142 G ρ v0 v1 v2 v3 v4 v5 v7 v8 m = some x) (hd : 2 ≤ d) (rr : Option MV × Mh) (hk : (DS (e165_66 G ρ d v0 v1 v2 v3 v4) (DS (e165_61 G ρ d v0 v1 v2 v3) (DS (e165_38 G ρ d v0 v1 v2) (Bl G ρ)))) x rr) (j6 : Int) : Ex d 165 142 [(2, ((v0 : Nat) : Int)), (0, v1), (0, v2), (0, v3), (0, v4), (0, v5), (0, j6), (0, v7), (0, v8)] [] (G, ρ, m) rr := by
  unfold f165_142 at e
  have hm := mi_165
  refine Ex_run 2 (i' := 144) (L' := [(2, ((v0 : Nat) : Int)), (0, v1), (0, v2), (0, v3), (0, v4), (0, v5), (0, j6), (0, v7), (0, v8)]) (st' := [(0, 2), (0, v7)]) (h' := (G, ρ, m)) hm rfl cjn ?_
  by_cases c41 : v7 < 2
  · replace e := it_p e c41
    refine Ex_if2t (c := 2) (tgt := 156) hm rfl (bt2 c41) ?_
    exact tf165_156 e hd rr hk _
  · replace e := it_n e c41
    refine Ex_if2f (c := 2) (tgt := 156) hm rfl (bf2 c41) ?_
    refine Ex_run 1 (i' := 146) (L' := [(2, ((v0 : Nat) : Int)), (0, v1), (0, v2), (0, v3), (0, v4), (0, v5), (0, j6), (0, v7), (0, v8)]) (st' := [(0, v8)]) (h' := (G, ρ, m)) hm rfl cjn ?_
    by_cases c47 : v8 = 0
    · replace e := it_p e c47
      refine Ex_if1f (c := 1) (tgt := 156) hm rfl (bf1 c47) ?_
      obtain ⟨g48, e⟩ := gd_s e
      obtain ⟨g49, e⟩ := gd_s e
      obtain ⟨g50, e⟩ := gd_s e
      refine Ex_run 9 (i' := 156) (L' := [(2, ((v0 : Nat) : Int)), (0, v1), (0, v2), (0, v3), (0, v4), (0, v5), (0, j6), (0, v7), (0, v8)]) (st' := []) (h' := (G, ρ, (put m v0 13 (k_add (m v0 13) (m (ρ v0 11) v4))))) hm rfl (cjc (gk_b g48) (cjc (gk_b g48) (cjc (gk_b g49) (cjc g50 (cjc (gk_b g48) cjn))))) ?_
      exact tf165_156 e hd rr hk _
    · replace e := it_n e c47
      refine Ex_if1t (c := 1) (tgt := 156) hm rfl (bt1 c47) ?_
      exact tf165_156 e hd rr hk _
theorem tf165_123 {G : Gg} {ρ : Rg} {d : Nat} {v0 : Nat} {v1 : Int} {v2 : Int} {v3 : Int} {v4 : Int} {v5 : Int} {v6 : Int} {v7 : Int} {v8 : Int} {m : Sg} {x : (Int × Sg) ⊕ ((Int × Sg) ⊕ ((Int × Sg) ⊕ (Int × Sg)))} (e : f165_123 G ρ v0 v1 v2 v3 v4 v5 v6 v7 v8 m = some x) (hd : 2 ≤ d) (rr : Option MV × Mh) (hk : (DS (e165_66 G ρ d v0 v1 v2 v3 v4) (DS (e165_61 G ρ d v0 v1 v2 v3) (DS (e165_38 G ρ d v0 v1 v2) (Bl G ρ)))) x rr) : Ex d 165 123 [(2, ((v0 : Nat) : Int)), (0, v1), (0, v2), (0, v3), (0, v4), (0, v5), (0, v6), (0, v7), (0, v8)] [] (G, ρ, m) rr := by
  unfold f165_123 at e
  have hm := mi_165
  refine Ex_run 2 (i' := 125) (L' := [(2, ((v0 : Nat) : Int)), (0, v1), (0, v2), (0, v3), (0, v4), (0, v5), (0, v6), (0, v7), (0, v8)]) (st' := [(0, 1), (0, v7)]) (h' := (G, ρ, m)) hm rfl cjn ?_
  by_cases c35 : v7 = 1
  · replace e := it_p e c35
    refine Ex_if2f (c := 1) (tgt := 142) hm rfl (bf1 c35) ?_
    obtain ⟨g36, e⟩ := gd_s e
    obtain ⟨g37, e⟩ := gd_s e
    obtain ⟨g38, e⟩ := gd_s e
    obtain ⟨g39, e⟩ := gd_s e
    obtain ⟨g40, e⟩ := gd_s e
    refine Ex_run 16 (i' := 142) (L' := [(2, ((v0 : Nat) : Int)), (0, v1), (0, v2), (0, v3), (0, v4), (0, v5), (0, v6), (0, v7), (0, v8)]) (st' := []) (h' := (G, ρ, (put m (ρ v0 12) (g_add (g_mul 10 v6) (m v0 5)) (k_add (m (ρ v0 12) (g_add (g_mul 10 v6) (m v0 5))) (m (ρ v0 11) v4))))) hm rfl (cjc (gk_b g36) (cjc (gk_b g36) (cjc (gk_b g37) (cjc g38 (cjc (gk_b g36) (cjc (gk_b g39) (cjc g40 (cjc (gk_b g37) (cjc g38 cjn))))))))) ?_
    exact tf165_142 e hd rr hk _
  · replace e := it_n e c35
    refine Ex_if2t (c := 1) (tgt := 142) hm rfl (bt1 c35) ?_
    exact tf165_142 e hd rr hk _
theorem tf165_102 {G : Gg} {ρ : Rg} {d : Nat} {v0 : Nat} {v1 : Int} {v2 : Int} {v3 : Int} {v4 : Int} {v5 : Int} {v6 : Int} {v7 : Int} {w0 : Int} {m : Sg} {x : (Int × Sg) ⊕ ((Int × Sg) ⊕ ((Int × Sg) ⊕ (Int × Sg)))} (e : f165_102 G ρ v0 v1 v2 v3 v4 v5 v6 v7 w0 m = some x) (hd : 2 ≤ d) (rr : Option MV × Mh) (hk : (DS (e165_66 G ρ d v0 v1 v2 v3 v4) (DS (e165_61 G ρ d v0 v1 v2 v3) (DS (e165_38 G ρ d v0 v1 v2) (Bl G ρ)))) x rr) (j8 : MV) : Ex d 165 102 [(2, ((v0 : Nat) : Int)), (0, v1), (0, v2), (0, v3), (0, v4), (0, v5), (0, v6), (0, v7), j8] [(0, w0)] (G, ρ, m) rr := by
  unfold f165_102 at e
  have hm := mi_165
  refine Ex_run 2 (i' := 104) (L' := [(2, ((v0 : Nat) : Int)), (0, v1), (0, v2), (0, v3), (0, v4), (0, v5), (0, v6), (0, v7), (0, w0)]) (st' := [(0, v7)]) (h' := (G, ρ, m)) hm rfl (cjc (Nat.le_of_ble_eq_true rfl) cjn) ?_
  by_cases c29 : v7 = 0
  · replace e := it_p e c29
    refine Ex_if1f (c := 1) (tgt := 123) hm rfl (bf1 c29) ?_
    obtain ⟨g30, e⟩ := gd_s e
    obtain ⟨g31, e⟩ := gd_s e
    obtain ⟨g32, e⟩ := gd_s e
    obtain ⟨g33, e⟩ := gd_s e
    obtain ⟨g34, e⟩ := gd_s e
    refine Ex_run 18 (i' := 123) (L' := [(2, ((v0 : Nat) : Int)), (0, v1), (0, v2), (0, v3), (0, v4), (0, v5), (0, v6), (0, v7), (0, w0)]) (st' := []) (h' := (G, ρ, (put m (ρ v0 12) (g_add (g_mul 10 (g_sub 1 v6)) (m v0 5)) (k_add (m (ρ v0 12) (g_add (g_mul 10 (g_sub 1 v6)) (m v0 5))) (m (ρ v0 11) v4))))) hm rfl (cjc (gk_b g30) (cjc (gk_b g30) (cjc (gk_b g31) (cjc g32 (cjc (gk_b g30) (cjc (gk_b g33) (cjc g34 (cjc (gk_b g31) (cjc g32 cjn))))))))) ?_
    exact tf165_123 e hd rr hk
  · replace e := it_n e c29
    refine Ex_if1t (c := 1) (tgt := 123) hm rfl (bt1 c29) ?_
    exact tf165_123 e hd rr hk
theorem tf165_b66 {G : Gg} {ρ : Rg} {d : Nat} {v0 : Nat} {v1 : Int} {v2 : Int} {v3 : Int} {v4 : Int} {s : Int × Sg} {x : (Int × Sg) ⊕ ((Int × Sg) ⊕ ((Int × Sg) ⊕ (Int × Sg)))} (e : f165_b66 G ρ v0 v1 v2 v3 v4 s = some x) (hd : 2 ≤ d) (rr : Option MV × Mh) (hk : (DS (e165_66 G ρ d v0 v1 v2 v3 v4) (DS (e165_61 G ρ d v0 v1 v2 v3) (DS (e165_38 G ρ d v0 v1 v2) (Bl G ρ)))) x rr) : e165_66 G ρ d v0 v1 v2 v3 v4 s rr := by
  unfold f165_b66 at e
  have hm := mi_165
  show ∀ (j6 : MV) (j7 : MV) (j8 : MV), Ex d 165 66 [(2, ((v0 : Nat) : Int)), (0, v1), (0, v2), (0, v3), (0, v4), (0, s.1), j6, j7, j8] [] (G, ρ, s.2) rr
  intro j6 j7 j8
  refine Ex_run 2 (i' := 68) (L' := [(2, ((v0 : Nat) : Int)), (0, v1), (0, v2), (0, v3), (0, v4), (0, s.1), j6, j7, j8]) (st' := [(0, 5), (0, s.1)]) (h' := (G, ρ, s.2)) hm rfl cjn ?_
  by_cases c20 : 5 < s.1
  · replace e := it_p e c20
    refine Ex_if2t (c := 4) (tgt := 173) hm rfl (bt4 c20) ?_
    obtain ⟨x, e, hx⟩ := xr_s e
    replace hk : (DS (e165_61 G ρ d v0 v1 v2 v3) (DS (e165_38 G ρ d v0 v1 v2) (Bl G ρ))) x rr := by rw [hx] at hk; exact hk
    refine Ex_run 2 (i' := 61) (L' := [(2, ((v0 : Nat) : Int)), (0, v1), (0, v2), (0, v3), (0, (w32 (v4 + 1))), (0, s.1), j6, j7, j8]) (st' := []) (h' := (G, ρ, s.2)) hm rfl cjn ?_
    cases e
    exact hk _ _ _ _
  · replace e := it_n e c20
    refine Ex_if2f (c := 4) (tgt := 173) hm rfl (bf4 c20) ?_
    obtain ⟨g21, e⟩ := gd_s e
    obtain ⟨g22, e⟩ := gd_s e
    obtain ⟨g23, e⟩ := gd_s e
    refine Ex_run 6 (i' := 75) (L' := [(2, ((v0 : Nat) : Int)), (0, v1), (0, v2), (0, v3), (0, v4), (0, s.1), j6, j7, j8]) (st' := [(0, (lcm3 (s.2 (ρ v0 11) v4) 0))]) (h' := (G, ρ, s.2)) hm rfl (cjc (gk_b g21) (cjc (gk_b g22) (cjc g23 cjn))) ?_
    by_cases c24 : 0 < (s.2 (ρ v0 11) v4)
    · replace e := it_p e c24
      refine Ex_if1f (c := 5) (tgt := 173) hm rfl (cm_lc 5 _ _ (bf5 c24)) ?_
      refine Ex_run 3 (i' := 79) (L' := [(2, ((v0 : Nat) : Int)), (0, v1), (0, v2), (0, v3), (0, v4), (0, s.1), j6, j7, j8]) (st' := [(0, s.1), (0, 12), (2, ((v0 : Nat) : Int))]) (h' := (G, ρ, s.2)) hm rfl cjn ?_
      obtain ⟨q25, h25, e⟩ := bn_s e
      refine Ex_callm (z := 150) (na := 3) (ck := 15) (as := [(2, ((v0 : Nat) : Int)), (0, 12), (0, s.1)]) (rest := []) (E0 := [(2, ((v0 : Nat) : Int)), (0, 12), (0, s.1)]) (v := some (0, q25)) (h1 := (G, ρ, s.2)) hm rfl (by omega) ⟨Nat.le_of_ble_eq_true rfl, Nat.le_of_ble_eq_true rfl⟩ (rc2 rfl g21) rfl rfl ml_150 rfl (Nat.le_of_ble_eq_true rfl) (tf150 h25 (by omega)) ?_
      show Ex d 165 80 [(2, ((v0 : Nat) : Int)), (0, v1), (0, v2), (0, v3), (0, v4), (0, s.1), j6, j7, j8] [(0, q25)] (G, ρ, s.2) rr
      by_cases c26 : q25 = 0
      · replace e := it_p e c26
        refine Ex_if1f (c := 1) (tgt := 82) hm rfl (bf1 c26) ?_
        refine Ex_run 3 (i' := 66) (L' := [(2, ((v0 : Nat) : Int)), (0, v1), (0, v2), (0, v3), (0, v4), (0, (w32 (s.1 + 1))), j6, j7, j8]) (st' := []) (h' := (G, ρ, s.2)) hm rfl cjn ?_
        cases e
        exact hk _ _ _
      · replace e := it_n e c26
        refine Ex_if1t (c := 1) (tgt := 82) hm rfl (bt1 c26) ?_
        refine Ex_run 10 (i' := 92) (L' := [(2, ((v0 : Nat) : Int)), (0, v1), (0, v2), (0, v3), (0, v4), (0, s.1), (0, (g_div v4 10)), j7, j8]) (st' := [(0, s.1), (0, (g_rem v4 10)), (0, 12), (2, ((v0 : Nat) : Int))]) (h' := (G, ρ, s.2)) hm rfl (cjc (by decide) (cjc (Nat.le_of_ble_eq_true rfl) (cjc (by decide) cjn))) ?_
        obtain ⟨q27, h27, e⟩ := bn_s e
        refine Ex_callm (z := 151) (na := 4) (ck := 15) (as := [(2, ((v0 : Nat) : Int)), (0, 12), (0, (g_rem v4 10)), (0, s.1)]) (rest := []) (E0 := [(2, ((v0 : Nat) : Int)), (0, 12), (0, (g_rem v4 10)), (0, s.1), (9, 0), (9, 0), (9, 0)]) (v := some (0, q27.1)) (h1 := (G, ρ, q27.2)) hm rfl (by omega) ⟨Nat.le_of_ble_eq_true rfl, Nat.le_of_ble_eq_true rfl⟩ (rc2 rfl g21) rfl rfl ml_151 rfl (Nat.le_of_ble_eq_true rfl) (tf151 h27 (by omega)) ?_
        show Ex d 165 93 [(2, ((v0 : Nat) : Int)), (0, v1), (0, v2), (0, v3), (0, v4), (0, s.1), (0, (g_div v4 10)), j7, j8] [(0, q27.1)] (G, ρ, q27.2) rr
        refine Ex_run 3 (i' := 96) (L' := [(2, ((v0 : Nat) : Int)), (0, v1), (0, v2), (0, v3), (0, v4), (0, s.1), (0, (g_div v4 10)), (0, q27.1), j8]) (st' := [(0, 2), (0, q27.1)]) (h' := (G, ρ, q27.2)) hm rfl (cjc (Nat.le_of_ble_eq_true rfl) cjn) ?_
        by_cases c28 : q27.1 = 2
        · replace e := it_p e c28
          refine Ex_if2f (c := 1) (tgt := 99) hm rfl (bf1 c28) ?_
          refine Ex_run 2 (i' := 102) (L' := [(2, ((v0 : Nat) : Int)), (0, v1), (0, v2), (0, v3), (0, v4), (0, s.1), (0, (g_div v4 10)), (0, q27.1), j8]) (st' := [(0, (g_div v4 10))]) (h' := (G, ρ, q27.2)) hm rfl cjn ?_
          exact tf165_102 e hd rr hk _
        · replace e := it_n e c28
          refine Ex_if2t (c := 1) (tgt := 99) hm rfl (bt1 c28) ?_
          refine Ex_run 3 (i' := 102) (L' := [(2, ((v0 : Nat) : Int)), (0, v1), (0, v2), (0, v3), (0, v4), (0, s.1), (0, (g_div v4 10)), (0, q27.1), j8]) (st' := [(0, (g_sub 1 (g_div v4 10)))]) (h' := (G, ρ, q27.2)) hm rfl cjn ?_
          exact tf165_102 e hd rr hk _
    · replace e := it_n e c24
      refine Ex_if1t (c := 5) (tgt := 173) hm rfl (cm_lc 5 _ _ (bt5 c24)) ?_
      obtain ⟨x, e, hx⟩ := xr_s e
      replace hk : (DS (e165_61 G ρ d v0 v1 v2 v3) (DS (e165_38 G ρ d v0 v1 v2) (Bl G ρ))) x rr := by rw [hx] at hk; exact hk
      refine Ex_run 2 (i' := 61) (L' := [(2, ((v0 : Nat) : Int)), (0, v1), (0, v2), (0, v3), (0, (w32 (v4 + 1))), (0, s.1), j6, j7, j8]) (st' := []) (h' := (G, ρ, s.2)) hm rfl cjn ?_
      cases e
      exact hk _ _ _ _
theorem tf165_b177 {G : Gg} {ρ : Rg} {d : Nat} {v0 : Nat} {v1 : Int} {v2 : Int} {v3 : Int} {s : Int × Sg} {x : (Int × Sg) ⊕ ((Int × Sg) ⊕ (Int × Sg))} (e : f165_b177 G ρ v0 v1 v2 v3 s = some x) (hd : 2 ≤ d) (rr : Option MV × Mh) (hk : (DS (e165_177 G ρ d v0 v1 v2 v3) (DS (e165_38 G ρ d v0 v1 v2) (Bl G ρ))) x rr) : e165_177 G ρ d v0 v1 v2 v3 s rr := by
  unfold f165_b177 at e
  have hm := mi_165
  show ∀ (j5 : MV) (j6 : MV) (j7 : MV) (j8 : MV), Ex d 165 177 [(2, ((v0 : Nat) : Int)), (0, v1), (0, v2), (0, v3), (0, s.1), j5, j6, j7, j8] [] (G, ρ, s.2) rr
  intro j5 j6 j7 j8
  refine Ex_run 2 (i' := 179) (L' := [(2, ((v0 : Nat) : Int)), (0, v1), (0, v2), (0, v3), (0, s.1), j5, j6, j7, j8]) (st' := [(0, 20), (0, s.1)]) (h' := (G, ρ, s.2)) hm rfl cjn ?_
  by_cases c51 : s.1 < 20
  · replace e := it_p e c51
    refine Ex_if2f (c := 3) (tgt := 190) hm rfl (bf3 c51) ?_
    obtain ⟨g52, e⟩ := gd_s e
    obtain ⟨g53, e⟩ := gd_s e
    obtain ⟨g54, e⟩ := gd_s e
    obtain ⟨g55, e⟩ := gd_s e
    obtain ⟨g56, e⟩ := gd_s e
    refine Ex_run 10 (i' := 177) (L' := [(2, ((v0 : Nat) : Int)), (0, v1), (0, v2), (0, v3), (0, (w32 (s.1 + 1))), j5, j6, j7, j8]) (st' := []) (h' := (G, ρ, (put s.2 (ρ v0 11) s.1 (s.2 (ρ v0 12) s.1)))) hm rfl (cjc (gk_b g52) (cjc (gk_b g52) (cjc (gk_b g53) (cjc g54 (cjc (gk_b g55) (cjc g56 cjn)))))) ?_
    cases e
    exact hk _ _ _ _
  · replace e := it_n e c51
    refine Ex_if2t (c := 3) (tgt := 190) hm rfl (bt3 c51) ?_
    obtain ⟨x, e, hx⟩ := xr_s e
    replace hk : (DS (e165_38 G ρ d v0 v1 v2) (Bl G ρ)) x rr := by rw [hx] at hk; exact hk
    refine Ex_run 2 (i' := 38) (L' := [(2, ((v0 : Nat) : Int)), (0, v1), (0, v2), (0, (w32 (v3 + 1))), (0, s.1), j5, j6, j7, j8]) (st' := []) (h' := (G, ρ, s.2)) hm rfl cjn ?_
    cases e
    exact hk _ _ _ _ _
theorem tf165_b61 {G : Gg} {ρ : Rg} {d : Nat} {v0 : Nat} {v1 : Int} {v2 : Int} {v3 : Int} {s : Int × Sg} {x : (Int × Sg) ⊕ ((Int × Sg) ⊕ (Int × Sg))} (e : f165_b61 G ρ v0 v1 v2 v3 s = some x) (hd : 2 ≤ d) (rr : Option MV × Mh) (hk : (DS (e165_61 G ρ d v0 v1 v2 v3) (DS (e165_38 G ρ d v0 v1 v2) (Bl G ρ))) x rr) : e165_61 G ρ d v0 v1 v2 v3 s rr := by
  unfold f165_b61 at e
  have hm := mi_165
  show ∀ (j5 : MV) (j6 : MV) (j7 : MV) (j8 : MV), Ex d 165 61 [(2, ((v0 : Nat) : Int)), (0, v1), (0, v2), (0, v3), (0, s.1), j5, j6, j7, j8] [] (G, ρ, s.2) rr
  intro j5 j6 j7 j8
  refine Ex_run 2 (i' := 63) (L' := [(2, ((v0 : Nat) : Int)), (0, v1), (0, v2), (0, v3), (0, s.1), j5, j6, j7, j8]) (st' := [(0, 20), (0, s.1)]) (h' := (G, ρ, s.2)) hm rfl cjn ?_
  by_cases c19 : s.1 < 20
  · replace e := it_p e c19
    refine Ex_if2f (c := 3) (tgt := 175) hm rfl (bf3 c19) ?_
    refine Ex_run 2 (i' := 66) (L' := [(2, ((v0 : Nat) : Int)), (0, v1), (0, v2), (0, v3), (0, s.1), (0, 1), j6, j7, j8]) (st' := []) (h' := (G, ρ, s.2)) hm rfl (cjc (Nat.le_of_ble_eq_true rfl) cjn) ?_
    exact (Ex_lp (A := e165_66 G ρ d v0 v1 v2 v3 s.1 ) (B := (DS (e165_61 G ρ d v0 v1 v2 v3) (DS (e165_38 G ρ d v0 v1 v2) (Bl G ρ)))) (fun s x e rr hk => tf165_b66 e hd rr hk) FU _ _ e rr hk) _ _ _
  · replace e := it_n e c19
    refine Ex_if2t (c := 3) (tgt := 175) hm rfl (bt3 c19) ?_
    obtain ⟨x, e, hx⟩ := xr_s e
    replace hk : (DS (e165_38 G ρ d v0 v1 v2) (Bl G ρ)) x rr := by rw [hx] at hk; exact hk
    refine Ex_run 2 (i' := 177) (L' := [(2, ((v0 : Nat) : Int)), (0, v1), (0, v2), (0, v3), (0, 0), j5, j6, j7, j8]) (st' := []) (h' := (G, ρ, s.2)) hm rfl (cjc (Nat.le_of_ble_eq_true rfl) cjn) ?_
    exact (Ex_lp (A := e165_177 G ρ d v0 v1 v2 v3 ) (B := (DS (e165_38 G ρ d v0 v1 v2) (Bl G ρ))) (fun s x e rr hk => tf165_b177 e hd rr hk) FU _ _ e rr hk) _ _ _ _
theorem tf165_b49 {G : Gg} {ρ : Rg} {d : Nat} {v0 : Nat} {v1 : Int} {v2 : Int} {v3 : Int} {s : Int × Sg} {x : (Int × Sg) ⊕ ((Int × Sg) ⊕ (Int × Sg))} (e : f165_b49 G ρ v0 v1 v2 v3 s = some x) (hd : 2 ≤ d) (rr : Option MV × Mh) (hk : (DS (e165_49 G ρ d v0 v1 v2 v3) (DS (e165_38 G ρ d v0 v1 v2) (Bl G ρ))) x rr) : e165_49 G ρ d v0 v1 v2 v3 s rr := by
  unfold f165_b49 at e
  have hm := mi_165
  show ∀ (j5 : MV) (j6 : MV) (j7 : MV) (j8 : MV), Ex d 165 49 [(2, ((v0 : Nat) : Int)), (0, v1), (0, v2), (0, v3), (0, s.1), j5, j6, j7, j8] [] (G, ρ, s.2) rr
  intro j5 j6 j7 j8
  refine Ex_run 2 (i' := 51) (L' := [(2, ((v0 : Nat) : Int)), (0, v1), (0, v2), (0, v3), (0, s.1), j5, j6, j7, j8]) (st' := [(0, 20), (0, s.1)]) (h' := (G, ρ, s.2)) hm rfl cjn ?_
  by_cases c15 : s.1 < 20
  · replace e := it_p e c15
    refine Ex_if2f (c := 3) (tgt := 59) hm rfl (bf3 c15) ?_
    obtain ⟨g16, e⟩ := gd_s e
    obtain ⟨g17, e⟩ := gd_s e
    obtain ⟨g18, e⟩ := gd_s e
    refine Ex_run 7 (i' := 49) (L' := [(2, ((v0 : Nat) : Int)), (0, v1), (0, v2), (0, v3), (0, (w32 (s.1 + 1))), j5, j6, j7, j8]) (st' := []) (h' := (G, ρ, (put s.2 (ρ v0 12) s.1 0))) hm rfl (cjc (gk_b g16) (cjc (gk_b g17) (cjc g18 cjn))) ?_
    cases e
    exact hk _ _ _ _
  · replace e := it_n e c15
    refine Ex_if2t (c := 3) (tgt := 59) hm rfl (bt3 c15) ?_
    obtain ⟨x, e, hx⟩ := xr_s e
    replace hk : (DS (e165_38 G ρ d v0 v1 v2) (Bl G ρ)) x rr := by rw [hx] at hk; exact hk
    refine Ex_run 2 (i' := 61) (L' := [(2, ((v0 : Nat) : Int)), (0, v1), (0, v2), (0, v3), (0, 0), j5, j6, j7, j8]) (st' := []) (h' := (G, ρ, s.2)) hm rfl (cjc (Nat.le_of_ble_eq_true rfl) cjn) ?_
    exact (Ex_lp (A := e165_61 G ρ d v0 v1 v2 v3 ) (B := (DS (e165_38 G ρ d v0 v1 v2) (Bl G ρ))) (fun s x e rr hk => tf165_b61 e hd rr hk) FU _ _ e rr hk) _ _ _ _
theorem tf165_46 {G : Gg} {ρ : Rg} {d : Nat} {v0 : Nat} {v1 : Int} {v2 : Int} {v3 : Int} {w0 : Int} {w1 : Nat} {m : Sg} {x : (Int × Sg) ⊕ (Int × Sg)} (e : f165_46 G ρ v0 v1 v2 v3 w0 w1 m = some x) (hd : 2 ≤ d) (rr : Option MV × Mh) (hk : (DS (e165_38 G ρ d v0 v1 v2) (Bl G ρ)) x rr) (j4 : MV) (j5 : MV) (j6 : MV) (j7 : MV) (j8 : MV) : Ex d 165 46 [(2, ((v0 : Nat) : Int)), (0, v1), (0, v2), (0, v3), j4, j5, j6, j7, j8] [(1, w0), (2, ((w1 : Nat) : Int))] (G, ρ, m) rr := by
  unfold f165_46 at e
  have hm := mi_165
  obtain ⟨g14, e⟩ := gd_s e
  refine Ex_run 3 (i' := 49) (L' := [(2, ((v0 : Nat) : Int)), (0, v1), (0, v2), (0, v3), (0, 0), j5, j6, j7, j8]) (st' := []) (h' := (G, ρ, (put m w1 14 w0))) hm rfl (cjc (gk_b g14) (cjc (Nat.le_of_ble_eq_true rfl) cjn)) ?_
  exact (Ex_lp (A := e165_49 G ρ d v0 v1 v2 v3 ) (B := (DS (e165_38 G ρ d v0 v1 v2) (Bl G ρ))) (fun s x e rr hk => tf165_b49 e hd rr hk) FU _ _ e rr hk) _ _ _ _
theorem tf165_b196 {G : Gg} {ρ : Rg} {d : Nat} {v0 : Nat} {v2 : Int} {m : Sg} {s : Int × Int} {x : (Int × Int) ⊕ (Int × Sg)} (e : f165_b196 G ρ v0 v2 m s = some x) (hd : 2 ≤ d) (rr : Option MV × Mh) (hk : (DS (e165_196 G ρ d v0 v2 m) (Bl G ρ)) x rr) : e165_196 G ρ d v0 v2 m s rr := by
  unfold f165_b196 at e
  have hm := mi_165
  show ∀ (j1 : Int) (j6 : MV) (j7 : MV) (j8 : MV), Ex d 165 196 [(2, ((v0 : Nat) : Int)), (0, j1), (0, v2), (1, s.1), (9, 0), (0, s.2), j6, j7, j8] [] (G, ρ, m) rr
  intro j1 j6 j7 j8
  refine Ex_run 2 (i' := 198) (L' := [(2, ((v0 : Nat) : Int)), (0, j1), (0, v2), (1, s.1), (9, 0), (0, s.2), j6, j7, j8]) (st' := [(0, 20), (0, s.2)]) (h' := (G, ρ, m)) hm rfl cjn ?_
  by_cases c57 : s.2 < 20
  · replace e := it_p e c57
    refine Ex_if2f (c := 3) (tgt := 208) hm rfl (bf3 c57) ?_
    obtain ⟨g58, e⟩ := gd_s e
    obtain ⟨g59, e⟩ := gd_s e
    obtain ⟨g60, e⟩ := gd_s e
    refine Ex_run 9 (i' := 196) (L' := [(2, ((v0 : Nat) : Int)), (0, j1), (0, v2), (1, (k_add s.1 (m (ρ v0 11) s.2))), (9, 0), (0, (w32 (s.2 + 1))), j6, j7, j8]) (st' := []) (h' := (G, ρ, m)) hm rfl (cjc (gk_b g58) (cjc (gk_b g59) (cjc g60 (cjc (Nat.le_of_ble_eq_true rfl) cjn)))) ?_
    cases e
    exact hk _ _ _ _
  · replace e := it_n e c57
    refine Ex_if2t (c := 3) (tgt := 208) hm rfl (bt3 c57) ?_
    obtain ⟨x, e, hx⟩ := xr_s e
    replace hk : (Bl G ρ) x rr := by rw [hx] at hk; exact hk
    refine Ex_run 1 (i' := 209) (L' := [(2, ((v0 : Nat) : Int)), (0, j1), (0, v2), (1, s.1), (9, 0), (0, s.2), j6, j7, j8]) (st' := [(0, v2)]) (h' := (G, ρ, m)) hm rfl cjn ?_
    by_cases c61 : v2 = 0
    · replace e := it_p e c61
      refine Ex_if1f (c := 1) (tgt := 213) hm rfl (bf1 c61) ?_
      obtain ⟨g62, e⟩ := gd_s e
      refine Ex_run 3 (i' := 220) (L' := [(2, ((v0 : Nat) : Int)), (0, j1), (0, v2), (1, s.1), (9, 0), (0, s.2), j6, j7, j8]) (st' := [(1, (m v0 13))]) (h' := (G, ρ, m)) hm rfl (cjc (gk_b g62) cjn) ?_
      cases e
      cases hk
      exact Ex_ret (k := 3) hm rfl ⟨_, rfl, rfl⟩
    · replace e := it_n e c61
      refine Ex_if1t (c := 1) (tgt := 213) hm rfl (bt1 c61) ?_
      refine Ex_run 2 (i' := 215) (L' := [(2, ((v0 : Nat) : Int)), (0, j1), (0, v2), (1, s.1), (9, 0), (0, s.2), j6, j7, j8]) (st' := [(0, 1), (0, v2)]) (h' := (G, ρ, m)) hm rfl cjn ?_
      by_cases c63 : v2 = 1
      · replace e := it_p e c63
        refine Ex_if2f (c := 1) (tgt := 219) hm rfl (bf1 c63) ?_
        obtain ⟨g64, e⟩ := gd_s e
        refine Ex_run 3 (i' := 220) (L' := [(2, ((v0 : Nat) : Int)), (0, j1), (0, v2), (1, s.1), (9, 0), (0, s.2), j6, j7, j8]) (st' := [(1, (m v0 14))]) (h' := (G, ρ, m)) hm rfl (cjc (gk_b g64) cjn) ?_
        cases e
        cases hk
        exact Ex_ret (k := 3) hm rfl ⟨_, rfl, rfl⟩
      · replace e := it_n e c63
        refine Ex_if2t (c := 1) (tgt := 219) hm rfl (bt1 c63) ?_
        refine Ex_run 1 (i' := 220) (L' := [(2, ((v0 : Nat) : Int)), (0, j1), (0, v2), (1, s.1), (9, 0), (0, s.2), j6, j7, j8]) (st' := [(1, s.1)]) (h' := (G, ρ, m)) hm rfl cjn ?_
        cases e
        cases hk
        exact Ex_ret (k := 3) hm rfl ⟨_, rfl, rfl⟩
theorem tf165_b38 {G : Gg} {ρ : Rg} {d : Nat} {v0 : Nat} {v1 : Int} {v2 : Int} {s : Int × Sg} {x : (Int × Sg) ⊕ (Int × Sg)} (e : f165_b38 G ρ v0 v1 v2 s = some x) (hd : 2 ≤ d) (rr : Option MV × Mh) (hk : (DS (e165_38 G ρ d v0 v1 v2) (Bl G ρ)) x rr) : e165_38 G ρ d v0 v1 v2 s rr := by
  unfold f165_b38 at e
  have hm := mi_165
  show ∀ (j4 : MV) (j5 : MV) (j6 : MV) (j7 : MV) (j8 : MV), Ex d 165 38 [(2, ((v0 : Nat) : Int)), (0, v1), (0, v2), (0, s.1), j4, j5, j6, j7, j8] [] (G, ρ, s.2) rr
  intro j4 j5 j6 j7 j8
  refine Ex_run 2 (i' := 40) (L' := [(2, ((v0 : Nat) : Int)), (0, v1), (0, v2), (0, s.1), j4, j5, j6, j7, j8]) (st' := [(0, v1), (0, s.1)]) (h' := (G, ρ, s.2)) hm rfl cjn ?_
  by_cases c12 : s.1 < v1
  · replace e := it_p e c12
    refine Ex_if2f (c := 3) (tgt := 192) hm rfl (bf3 c12) ?_
    obtain ⟨g13, e⟩ := gd_s e
    refine Ex_run 5 (i' := 46) (L' := [(2, ((v0 : Nat) : Int)), (0, v1), (0, v2), (0, s.1), j4, j5, j6, j7, j8]) (st' := [(1, 0), (2, ((v0 : Nat) : Int))]) (h' := (G, ρ, (put s.2 v0 13 0))) hm rfl (cjc (gk_b g13) cjn) ?_
    exact tf165_46 e hd rr hk _ _ _ _ _
  · replace e := it_n e c12
    refine Ex_if2t (c := 3) (tgt := 192) hm rfl (bt3 c12) ?_
    obtain ⟨x, e, hx⟩ := xr_s e
    replace hk : (Bl G ρ) x rr := by rw [hx] at hk; exact hk
    refine Ex_run 4 (i' := 196) (L' := [(2, ((v0 : Nat) : Int)), (0, v1), (0, v2), (1, 0), (9, 0), (0, 0), j6, j7, j8]) (st' := []) (h' := (G, ρ, s.2)) hm rfl (cjc (Nat.le_of_ble_eq_true rfl) (cjc (Nat.le_of_ble_eq_true rfl) cjn)) ?_
    exact (Ex_lp (A := e165_196 G ρ d v0 v2 s.2 ) (B := (Bl G ρ)) (fun s x e rr hk => tf165_b196 e hd rr hk) FU _ _ e rr hk) _ _ _ _
theorem tf165_35 {G : Gg} {ρ : Rg} {d : Nat} {v0 : Nat} {v1 : Int} {v2 : Int} {w0 : Int} {w1 : Nat} {m : Sg} {x : Int × Sg} (e : f165_35 G ρ v0 v1 v2 w0 w1 m = some x) (hd : 2 ≤ d) (rr : Option MV × Mh) (hk : (Bl G ρ) x rr) (j3 : Int) : Ex d 165 35 [(2, ((v0 : Nat) : Int)), (0, v1), (0, v2), (0, j3), (9, 0), (9, 0), (9, 0), (9, 0), (9, 0)] [(1, w0), (2, ((w1 : Nat) : Int))] (G, ρ, m) rr := by
  unfold f165_35 at e
  have hm := mi_165
  obtain ⟨g11, e⟩ := gd_s e
  refine Ex_run 3 (i' := 38) (L' := [(2, ((v0 : Nat) : Int)), (0, v1), (0, v2), (0, 0), (9, 0), (9, 0), (9, 0), (9, 0), (9, 0)]) (st' := []) (h' := (G, ρ, (put m w1 14 w0))) hm rfl (cjc (gk_b g11) (cjc (Nat.le_of_ble_eq_true rfl) cjn)) ?_
  exact (Ex_lp (A := e165_38 G ρ d v0 v1 v2 ) (B := (Bl G ρ)) (fun s x e rr hk => tf165_b38 e hd rr hk) FU _ _ e rr hk) _ _ _ _ _
theorem tf165_b16 {G : Gg} {ρ : Rg} {d : Nat} {v0 : Nat} {v1 : Int} {v2 : Int} {s : Int × Sg} {x : (Int × Sg) ⊕ (Int × Sg)} (e : f165_b16 G ρ v0 v1 v2 s = some x) (hd : 2 ≤ d) (rr : Option MV × Mh) (hk : (DS (e165_16 G ρ d v0 v1 v2) (Bl G ρ)) x rr) : e165_16 G ρ d v0 v1 v2 s rr := by
  unfold f165_b16 at e
  have hm := mi_165
  show Ex d 165 16 [(2, ((v0 : Nat) : Int)), (0, v1), (0, v2), (0, s.1), (9, 0), (9, 0), (9, 0), (9, 0), (9, 0)] [] (G, ρ, s.2) rr
  refine Ex_run 2 (i' := 18) (L' := [(2, ((v0 : Nat) : Int)), (0, v1), (0, v2), (0, s.1), (9, 0), (9, 0), (9, 0), (9, 0), (9, 0)]) (st' := [(0, 20), (0, s.1)]) (h' := (G, ρ, s.2)) hm rfl cjn ?_
  by_cases c5 : s.1 < 20
  · replace e := it_p e c5
    refine Ex_if2f (c := 3) (tgt := 30) hm rfl (bf3 c5) ?_
    obtain ⟨g6, e⟩ := gd_s e
    refine Ex_run 4 (i' := 23) (L' := [(2, ((v0 : Nat) : Int)), (0, v1), (0, v2), (0, s.1), (9, 0), (9, 0), (9, 0), (9, 0), (9, 0)]) (st' := [(0, s.1), (0, s.1), (2, (((ρ v0 11) : Nat) : Int))]) (h' := (G, ρ, s.2)) hm rfl (cjc (gk_b g6) cjn) ?_
    by_cases c7 : s.1 = 0
    · replace e := it_p e c7
      refine Ex_if1f (c := 1) (tgt := 26) hm rfl (bf1 c7) ?_
      refine Ex_run 2 (i' := 27) (L' := [(2, ((v0 : Nat) : Int)), (0, v1), (0, v2), (0, s.1), (9, 0), (9, 0), (9, 0), (9, 0), (9, 0)]) (st' := [(1, 1), (0, s.1), (2, (((ρ v0 11) : Nat) : Int))]) (h' := (G, ρ, s.2)) hm rfl cjn ?_
      exact tf165_27 e hd rr hk
    · replace e := it_n e c7
      refine Ex_if1t (c := 1) (tgt := 26) hm rfl (bt1 c7) ?_
      refine Ex_run 1 (i' := 27) (L' := [(2, ((v0 : Nat) : Int)), (0, v1), (0, v2), (0, s.1), (9, 0), (9, 0), (9, 0), (9, 0), (9, 0)]) (st' := [(1, 0), (0, s.1), (2, (((ρ v0 11) : Nat) : Int))]) (h' := (G, ρ, s.2)) hm rfl cjn ?_
      exact tf165_27 e hd rr hk
  · replace e := it_n e c5
    refine Ex_if2t (c := 3) (tgt := 30) hm rfl (bt3 c5) ?_
    obtain ⟨x, e, hx⟩ := xr_s e
    replace hk : (Bl G ρ) x rr := by rw [hx] at hk; exact hk
    obtain ⟨g10, e⟩ := gd_s e
    refine Ex_run 5 (i' := 35) (L' := [(2, ((v0 : Nat) : Int)), (0, v1), (0, v2), (0, s.1), (9, 0), (9, 0), (9, 0), (9, 0), (9, 0)]) (st' := [(1, 0), (2, ((v0 : Nat) : Int))]) (h' := (G, ρ, (put s.2 v0 13 0))) hm rfl (cjc (gk_b g10) cjn) ?_
    exact tf165_35 e hd rr hk _
theorem tf165 {G : Gg} {ρ : Rg} {d : Nat} {v0 : Nat} {v1 : Int} {v2 : Int} {m : Sg} {x : Int × Sg} (e : f165 G ρ v0 v1 v2 m = some x) (hd : 2 ≤ d) : Ex d 165 0 [(2, ((v0 : Nat) : Int)), (0, v1), (0, v2), (9, 0), (9, 0), (9, 0), (9, 0), (9, 0), (9, 0)] [] (G, ρ, m) (some (1, x.1), (G, ρ, x.2)) := by
  unfold f165 at e
  have hm := mi_165
  generalize hk : (some (1, x.1), (G, ρ, x.2)) = rr
  replace hk : (Bl G ρ) x rr := hk.symm
  refine Ex_run 4 (i' := 4) (L' := [(2, ((v0 : Nat) : Int)), (0, v1), (0, v2), (9, 0), (9, 0), (9, 0), (9, 0), (9, 0), (9, 0)]) (st' := [(1, 12), (1, 0), (1, v1)]) (h' := (G, ρ, m)) hm rfl cjn ?_
  obtain ⟨q1, h1, e⟩ := bn_s e
  refine Ex_callm (z := 143) (na := 3) (ck := 0) (as := [(1, v1), (1, 0), (1, 12)]) (rest := []) (E0 := [(1, v1), (9, 0), (1, 0), (9, 0), (1, 12), (9, 0)]) (v := some (0, q1)) (h1 := (G, ρ, m)) hm rfl (by omega) ⟨Nat.le_of_ble_eq_true rfl, Nat.le_of_ble_eq_true rfl⟩ (trivial) rfl rfl ml_143 rfl (Nat.le_of_ble_eq_true rfl) (tf143 h1 (by omega)) ?_
  show Ex d 165 5 [(2, ((v0 : Nat) : Int)), (0, v1), (0, v2), (9, 0), (9, 0), (9, 0), (9, 0), (9, 0), (9, 0)] [(0, q1)] (G, ρ, m) rr
  by_cases c2 : q1 = 0
  · replace e := it_p e c2
    refine Ex_if1t (c := 0) (tgt := 12) hm rfl (bt0 c2) ?_
    refine Ex_run 1 (i' := 13) (L' := [(2, ((v0 : Nat) : Int)), (0, v1), (0, v2), (9, 0), (9, 0), (9, 0), (9, 0), (9, 0), (9, 0)]) (st' := [(1, (-4611686018427387904))]) (h' := (G, ρ, m)) hm rfl cjn ?_
    cases e
    cases hk
    exact Ex_ret (k := 3) hm rfl ⟨_, rfl, rfl⟩
  · replace e := it_n e c2
    refine Ex_if1f (c := 0) (tgt := 12) hm rfl (bf0 c2) ?_
    refine Ex_run 4 (i' := 10) (L' := [(2, ((v0 : Nat) : Int)), (0, v1), (0, v2), (9, 0), (9, 0), (9, 0), (9, 0), (9, 0), (9, 0)]) (st' := [(1, 2), (1, 0), (1, v2)]) (h' := (G, ρ, m)) hm rfl cjn ?_
    obtain ⟨q3, h3, e⟩ := bn_s e
    refine Ex_callm (z := 143) (na := 3) (ck := 0) (as := [(1, v2), (1, 0), (1, 2)]) (rest := []) (E0 := [(1, v2), (9, 0), (1, 0), (9, 0), (1, 2), (9, 0)]) (v := some (0, q3)) (h1 := (G, ρ, m)) hm rfl (by omega) ⟨Nat.le_of_ble_eq_true rfl, Nat.le_of_ble_eq_true rfl⟩ (trivial) rfl rfl ml_143 rfl (Nat.le_of_ble_eq_true rfl) (tf143 h3 (by omega)) ?_
    show Ex d 165 11 [(2, ((v0 : Nat) : Int)), (0, v1), (0, v2), (9, 0), (9, 0), (9, 0), (9, 0), (9, 0), (9, 0)] [(0, q3)] (G, ρ, m) rr
    by_cases c4 : q3 = 0
    · replace e := it_p e c4
      refine Ex_if1f (c := 1) (tgt := 14) hm rfl (bf1 c4) ?_
      refine Ex_run 1 (i' := 13) (L' := [(2, ((v0 : Nat) : Int)), (0, v1), (0, v2), (9, 0), (9, 0), (9, 0), (9, 0), (9, 0), (9, 0)]) (st' := [(1, (-4611686018427387904))]) (h' := (G, ρ, m)) hm rfl cjn ?_
      cases e
      cases hk
      exact Ex_ret (k := 3) hm rfl ⟨_, rfl, rfl⟩
    · replace e := it_n e c4
      refine Ex_if1t (c := 1) (tgt := 14) hm rfl (bt1 c4) ?_
      refine Ex_run 2 (i' := 16) (L' := [(2, ((v0 : Nat) : Int)), (0, v1), (0, v2), (0, 0), (9, 0), (9, 0), (9, 0), (9, 0), (9, 0)]) (st' := []) (h' := (G, ρ, m)) hm rfl (cjc (Nat.le_of_ble_eq_true rfl) cjn) ?_
      exact (Ex_lp (A := e165_16 G ρ d v0 v1 v2 ) (B := (Bl G ρ)) (fun s x e rr hk => tf165_b16 e hd rr hk) FU _ _ e rr hk)
theorem tf166 {G : Gg} {ρ : Rg} {d : Nat} {v0 : Int} {m : Sg} {x : Int} (e : f166 G ρ v0 m = some x) (hd : 1 ≤ d) : Ex d 166 0 [(1, v0), (9, 0)] [] (G, ρ, m) (some (0, x), (G, ρ, m)) := by
  unfold f166 at e
  have hm := mi_166
  generalize hk : (some (0, x), (G, ρ, m)) = rr
  replace hk : (Bpi G ρ m) x rr := hk.symm
  refine Ex_run 3 (i' := 3) (L' := [(1, v0), (9, 0)]) (st' := [(1, 999999999999999999), (1, 0), (1, v0)]) (h' := (G, ρ, m)) hm rfl cjn ?_
  obtain ⟨q1, h1, e⟩ := bn_s e
  refine Ex_callm (z := 143) (na := 3) (ck := 0) (as := [(1, v0), (1, 0), (1, 999999999999999999)]) (rest := []) (E0 := [(1, v0), (9, 0), (1, 0), (9, 0), (1, 999999999999999999), (9, 0)]) (v := some (0, q1)) (h1 := (G, ρ, m)) hm rfl (by omega) ⟨Nat.le_of_ble_eq_true rfl, Nat.le_of_ble_eq_true rfl⟩ (trivial) rfl rfl ml_143 rfl (Nat.le_of_ble_eq_true rfl) (tf143 h1 (by omega)) ?_
  show Ex d 166 4 [(1, v0), (9, 0)] [(0, q1)] (G, ρ, m) rr
  obtain ⟨g2, e⟩ := gd_s e
  cases e
  cases hk
  exact Ex_ret (k := 2) hm rfl ⟨_, rfl, g2, rfl⟩
theorem tf167_62 {G : Gg} {ρ : Rg} {d : Nat} {v0 : Nat} {v3 : Int} {v6 : Int} {v7 : Int} {v9 : Int} {w0 : Int} {m : Sg} {x : (Int × Int × Int × Int × Sg) ⊕ (Int × Sg)} (e : f167_62 G ρ v0 v3 v6 v7 v9 w0 m = some x) (hd : 2 ≤ d) (rr : Option MV × Mh) (hk : (DS (e167_13 G ρ d v0) (Bi G ρ)) x rr) (j1 : Int) (j5 : Int) (j8 : Int) : Ex d 167 62 [(2, ((v0 : Nat) : Int)), (1, j1), (9, 0), (1, v3), (9, 0), (0, j5), (0, v6), (0, v7), (0, j8), (0, v9)] [(0, w0)] (G, ρ, m) rr := by
  unfold f167_62 at e
  have hm := mi_167
  refine Ex_run 2 (i' := 64) (L' := [(2, ((v0 : Nat) : Int)), (1, j1), (9, 0), (1, v3), (9, 0), (0, w0), (0, v6), (0, v7), (0, j8), (0, v9)]) (st' := [(0, v9)]) (h' := (G, ρ, m)) hm rfl (cjc (Nat.le_of_ble_eq_true rfl) cjn) ?_
  by_cases c11 : v9 = 0
  · replace e := it_p e c11
    refine Ex_if1f (c := 1) (tgt := 69) hm rfl (bf1 c11) ?_
    refine Ex_run 7 (i' := 13) (L' := [(2, ((v0 : Nat) : Int)), (1, j1), (9, 0), (1, v3), (9, 0), (0, w0), (0, (g_sub 1 v6)), (0, (w32 (v7 + 1))), (0, j8), (0, v9)]) (st' := []) (h' := (G, ρ, m)) hm rfl (cjc (Nat.le_of_ble_eq_true rfl) cjn) ?_
    cases e
    exact hk _ _ _
  · replace e := it_n e c11
    refine Ex_if1t (c := 1) (tgt := 69) hm rfl (bt1 c11) ?_
    refine Ex_run 4 (i' := 13) (L' := [(2, ((v0 : Nat) : Int)), (1, j1), (9, 0), (1, v3), (9, 0), (0, w0), (0, v6), (0, (w32 (v7 + 1))), (0, j8), (0, v9)]) (st' := []) (h' := (G, ρ, m)) hm rfl (cjc (Nat.le_of_ble_eq_true rfl) cjn) ?_
    cases e
    exact hk _ _ _
theorem tf167_b13 {G : Gg} {ρ : Rg} {d : Nat} {v0 : Nat} {s : Int × Int × Int × Int × Sg} {x : (Int × Int × Int × Int × Sg) ⊕ (Int × Sg)} (e : f167_b13 G ρ v0 s = some x) (hd : 2 ≤ d) (rr : Option MV × Mh) (hk : (DS (e167_13 G ρ d v0) (Bi G ρ)) x rr) : e167_13 G ρ d v0 s rr := by
  unfold f167_b13 at e
  have hm := mi_167
  show ∀ (j1 : Int) (j8 : MV) (j9 : MV), Ex d 167 13 [(2, ((v0 : Nat) : Int)), (1, j1), (9, 0), (1, s.1), (9, 0), (0, s.2.1), (0, s.2.2.1), (0, s.2.2.2.1), j8, j9] [] (G, ρ, s.2.2.2.2) rr
  intro j1 j8 j9
  refine Ex_run 5 (i' := 18) (L' := [(2, ((v0 : Nat) : Int)), (1, j1), (9, 0), (1, s.1), (9, 0), (0, s.2.1), (0, s.2.2.1), (0, s.2.2.2.1), j8, j9]) (st' := [(0, (lcm3 (k_rem s.1 10) 0))]) (h' := (G, ρ, s.2.2.2.2)) hm rfl (cjc (by decide) cjn) ?_
  by_cases c3 : (k_rem s.1 10) = 0
  · replace e := it_p e c3
    refine Ex_if1t (c := 0) (tgt := 73) hm rfl (cm_lc 0 _ _ (bt0 c3)) ?_
    obtain ⟨x, e, hx⟩ := xr_s e
    replace hk : (Bi G ρ) x rr := by rw [hx] at hk; exact hk
    refine Ex_run 2 (i' := 75) (L' := [(2, ((v0 : Nat) : Int)), (1, j1), (9, 0), (1, s.1), (9, 0), (0, s.2.1), (0, s.2.2.1), (0, s.2.2.2.1), j8, j9]) (st' := [(0, 100), (0, s.2.1)]) (h' := (G, ρ, s.2.2.2.2)) hm rfl cjn ?_
    by_cases c4 : s.2.1 < 100
    · replace e := it_p e c4
      refine Ex_if2t (c := 2) (tgt := 78) hm rfl (bt2 c4) ?_
      refine Ex_run 5 (i' := 83) (L' := [(2, ((v0 : Nat) : Int)), (1, j1), (9, 0), (1, s.1), (9, 0), (0, s.2.1), (0, s.2.2.1), (0, s.2.2.2.1), j8, j9]) (st' := [(0, (g_add (g_mul 10 s.2.2.1) s.2.1))]) (h' := (G, ρ, s.2.2.2.2)) hm rfl cjn ?_
      cases e
      cases hk
      exact Ex_ret (k := 1) hm rfl ⟨_, rfl, rfl⟩
    · replace e := it_n e c4
      refine Ex_if2f (c := 2) (tgt := 78) hm rfl (bf2 c4) ?_
      refine Ex_run 2 (i' := 83) (L' := [(2, ((v0 : Nat) : Int)), (1, j1), (9, 0), (1, s.1), (9, 0), (0, s.2.1), (0, s.2.2.1), (0, s.2.2.2.1), j8, j9]) (st' := [(0, s.2.1)]) (h' := (G, ρ, s.2.2.2.2)) hm rfl cjn ?_
      cases e
      cases hk
      exact Ex_ret (k := 1) hm rfl ⟨_, rfl, rfl⟩
  · replace e := it_n e c3
    refine Ex_if1f (c := 0) (tgt := 73) hm rfl (cm_lc 0 _ _ (bf0 c3)) ?_
    refine Ex_run 11 (i' := 30) (L' := [(2, ((v0 : Nat) : Int)), (1, j1), (9, 0), (1, (k_div s.1 10)), (9, 0), (0, s.2.1), (0, s.2.2.1), (0, s.2.2.2.1), (0, (w32 (k_rem s.1 10))), j9]) (st' := [(0, 100), (0, s.2.1)]) (h' := (G, ρ, s.2.2.2.2)) hm rfl (cjc (by decide) (cjc (Nat.le_of_ble_eq_true rfl) (cjc (by decide) (cjc (Nat.le_of_ble_eq_true rfl) cjn)))) ?_
    by_cases c5 : s.2.1 < 100
    · replace e := it_p e c5
      refine Ex_if2f (c := 3) (tgt := 36) hm rfl (bf3 c5) ?_
      refine Ex_run 3 (i' := 34) (L' := [(2, ((v0 : Nat) : Int)), (1, j1), (9, 0), (1, (k_div s.1 10)), (9, 0), (0, s.2.1), (0, s.2.2.1), (0, s.2.2.2.1), (0, (w32 (k_rem s.1 10))), j9]) (st' := [(0, (w32 (k_rem s.1 10))), (0, 12), (2, ((v0 : Nat) : Int))]) (h' := (G, ρ, s.2.2.2.2)) hm rfl cjn ?_
      obtain ⟨g6, e⟩ := gd_s e
      obtain ⟨q7, h7, e⟩ := bn_s e
      refine Ex_callm (z := 150) (na := 3) (ck := 15) (as := [(2, ((v0 : Nat) : Int)), (0, 12), (0, (w32 (k_rem s.1 10)))]) (rest := []) (E0 := [(2, ((v0 : Nat) : Int)), (0, 12), (0, (w32 (k_rem s.1 10)))]) (v := some (0, q7)) (h1 := (G, ρ, s.2.2.2.2)) hm rfl (by omega) ⟨Nat.le_of_ble_eq_true rfl, Nat.le_of_ble_eq_true rfl⟩ (rc2 rfl g6) rfl rfl ml_150 rfl (Nat.le_of_ble_eq_true rfl) (tf150 h7 (by omega)) ?_
      show Ex d 167 35 [(2, ((v0 : Nat) : Int)), (1, j1), (9, 0), (1, (k_div s.1 10)), (9, 0), (0, s.2.1), (0, s.2.2.1), (0, s.2.2.2.1), (0, (w32 (k_rem s.1 10))), j9] [(0, q7)] (G, ρ, s.2.2.2.2) rr
      by_cases c8 : q7 = 0
      · replace e := it_p e c8
        refine Ex_if1f (c := 1) (tgt := 40) hm rfl (bf1 c8) ?_
        obtain ⟨x, e, hx⟩ := xr_s e
        replace hk : (Bi G ρ) x rr := by rw [hx] at hk; exact hk
        refine Ex_run 3 (i' := 39) (L' := [(2, ((v0 : Nat) : Int)), (1, j1), (9, 0), (1, (k_div s.1 10)), (9, 0), (0, s.2.1), (0, s.2.2.1), (0, s.2.2.2.1), (0, (w32 (k_rem s.1 10))), j9]) (st' := [(0, (g_sub (-100) s.2.2.2.1))]) (h' := (G, ρ, s.2.2.2.2)) hm rfl cjn ?_
        cases e
        cases hk
        exact Ex_ret (k := 1) hm rfl ⟨_, rfl, rfl⟩
      · replace e := it_n e c8
        refine Ex_if1t (c := 1) (tgt := 40) hm rfl (bt1 c8) ?_
        refine Ex_run 4 (i' := 44) (L' := [(2, ((v0 : Nat) : Int)), (1, j1), (9, 0), (1, (k_div s.1 10)), (9, 0), (0, s.2.1), (0, s.2.2.1), (0, s.2.2.2.1), (0, (w32 (k_rem s.1 10))), j9]) (st' := [(0, (w32 (k_rem s.1 10))), (0, s.2.1), (0, 12), (2, ((v0 : Nat) : Int))]) (h' := (G, ρ, s.2.2.2.2)) hm rfl cjn ?_
        obtain ⟨q9, h9, e⟩ := bn_s e
        refine Ex_callm (z := 151) (na := 4) (ck := 15) (as := [(2, ((v0 : Nat) : Int)), (0, 12), (0, s.2.1), (0, (w32 (k_rem s.1 10)))]) (rest := []) (E0 := [(2, ((v0 : Nat) : Int)), (0, 12), (0, s.2.1), (0, (w32 (k_rem s.1 10))), (9, 0), (9, 0), (9, 0)]) (v := some (0, q9.1)) (h1 := (G, ρ, q9.2)) hm rfl (by omega) ⟨Nat.le_of_ble_eq_true rfl, Nat.le_of_ble_eq_true rfl⟩ (rc2 rfl g6) rfl rfl ml_151 rfl (Nat.le_of_ble_eq_true rfl) (tf151 h9 (by omega)) ?_
        show Ex d 167 45 [(2, ((v0 : Nat) : Int)), (1, j1), (9, 0), (1, (k_div s.1 10)), (9, 0), (0, s.2.1), (0, s.2.2.1), (0, s.2.2.2.1), (0, (w32 (k_rem s.1 10))), j9] [(0, q9.1)] (G, ρ, q9.2) rr
        refine Ex_run 3 (i' := 48) (L' := [(2, ((v0 : Nat) : Int)), (1, j1), (9, 0), (1, (k_div s.1 10)), (9, 0), (0, s.2.1), (0, s.2.2.1), (0, s.2.2.2.1), (0, (w32 (k_rem s.1 10))), (0, q9.1)]) (st' := [(0, 2), (0, q9.1)]) (h' := (G, ρ, q9.2)) hm rfl (cjc (Nat.le_of_ble_eq_true rfl) cjn) ?_
        by_cases c10 : q9.1 = 2
        · replace e := it_p e c10
          refine Ex_if2f (c := 1) (tgt := 53) hm rfl (bf1 c10) ?_
          refine Ex_run 4 (i' := 62) (L' := [(2, ((v0 : Nat) : Int)), (1, j1), (9, 0), (1, (k_div s.1 10)), (9, 0), (0, s.2.1), (0, s.2.2.1), (0, s.2.2.2.1), (0, (w32 (k_rem s.1 10))), (0, q9.1)]) (st' := [(0, (g_add 100 s.2.2.1))]) (h' := (G, ρ, q9.2)) hm rfl cjn ?_
          exact tf167_62 e hd rr hk _ _ _
        · replace e := it_n e c10
          refine Ex_if2t (c := 1) (tgt := 53) hm rfl (bt1 c10) ?_
          refine Ex_run 2 (i' := 55) (L' := [(2, ((v0 : Nat) : Int)), (1, j1), (9, 0), (1, (k_div s.1 10)), (9, 0), (0, s.2.1), (0, s.2.2.1), (0, s.2.2.2.1), (0, (w32 (k_rem s.1 10))), (0, q9.1)]) (st' := [(0, 3), (0, q9.1)]) (h' := (G, ρ, q9.2)) hm rfl cjn ?_
          by_cases c12 : q9.1 = 3
          · replace e := it_p e c12
            refine Ex_if2f (c := 1) (tgt := 60) hm rfl (bf1 c12) ?_
            refine Ex_run 4 (i' := 62) (L' := [(2, ((v0 : Nat) : Int)), (1, j1), (9, 0), (1, (k_div s.1 10)), (9, 0), (0, s.2.1), (0, s.2.2.1), (0, s.2.2.2.1), (0, (w32 (k_rem s.1 10))), (0, q9.1)]) (st' := [(0, (g_sub 101 s.2.2.1))]) (h' := (G, ρ, q9.2)) hm rfl cjn ?_
            exact tf167_62 e hd rr hk _ _ _
          · replace e := it_n e c12
            refine Ex_if2t (c := 1) (tgt := 60) hm rfl (bt1 c12) ?_
            refine Ex_run 2 (i' := 62) (L' := [(2, ((v0 : Nat) : Int)), (1, j1), (9, 0), (1, (k_div s.1 10)), (9, 0), (0, s.2.1), (0, s.2.2.1), (0, s.2.2.2.1), (0, (w32 (k_rem s.1 10))), (0, q9.1)]) (st' := [(0, (q9.2 v0 5))]) (h' := (G, ρ, q9.2)) hm rfl (cjc (gk_b g6) cjn) ?_
            exact tf167_62 e hd rr hk _ _ _
    · replace e := it_n e c5
      refine Ex_if2t (c := 3) (tgt := 36) hm rfl (bt3 c5) ?_
      obtain ⟨x, e, hx⟩ := xr_s e
      replace hk : (Bi G ρ) x rr := by rw [hx] at hk; exact hk
      refine Ex_run 3 (i' := 39) (L' := [(2, ((v0 : Nat) : Int)), (1, j1), (9, 0), (1, (k_div s.1 10)), (9, 0), (0, s.2.1), (0, s.2.2.1), (0, s.2.2.2.1), (0, (w32 (k_rem s.1 10))), j9]) (st' := [(0, (g_sub (-100) s.2.2.2.1))]) (h' := (G, ρ, s.2.2.2.2)) hm rfl cjn ?_
      cases e
      cases hk
      exact Ex_ret (k := 1) hm rfl ⟨_, rfl, rfl⟩
theorem tf167 {G : Gg} {ρ : Rg} {d : Nat} {v0 : Nat} {v1 : Int} {m : Sg} {x : Int × Sg} (e : f167 G ρ v0 v1 m = some x) (hd : 2 ≤ d) : Ex d 167 0 [(2, ((v0 : Nat) : Int)), (1, v1), (9, 0), (9, 0), (9, 0), (9, 0), (9, 0), (9, 0), (9, 0), (9, 0)] [] (G, ρ, m) (some (0, x.1), (G, ρ, x.2)) := by
  unfold f167 at e
  have hm := mi_167
  generalize hk : (some (0, x.1), (G, ρ, x.2)) = rr
  replace hk : (Bi G ρ) x rr := hk.symm
  refine Ex_run 1 (i' := 1) (L' := [(2, ((v0 : Nat) : Int)), (1, v1), (9, 0), (9, 0), (9, 0), (9, 0), (9, 0), (9, 0), (9, 0), (9, 0)]) (st' := [(1, v1)]) (h' := (G, ρ, m)) hm rfl cjn ?_
  obtain ⟨q1, h1, e⟩ := bn_s e
  refine Ex_callm (z := 166) (na := 1) (ck := 0) (as := [(1, v1)]) (rest := []) (E0 := [(1, v1), (9, 0)]) (v := some (0, q1)) (h1 := (G, ρ, m)) hm rfl (by omega) ⟨Nat.le_of_ble_eq_true rfl, Nat.le_of_ble_eq_true rfl⟩ (trivial) rfl rfl ml_166 rfl (Nat.le_of_ble_eq_true rfl) (tf166 h1 (by omega)) ?_
  show Ex d 167 2 [(2, ((v0 : Nat) : Int)), (1, v1), (9, 0), (9, 0), (9, 0), (9, 0), (9, 0), (9, 0), (9, 0), (9, 0)] [(0, q1)] (G, ρ, m) rr
  by_cases c2 : q1 = 0
  · replace e := it_p e c2
    refine Ex_if1f (c := 1) (tgt := 5) hm rfl (bf1 c2) ?_
    refine Ex_run 1 (i' := 4) (L' := [(2, ((v0 : Nat) : Int)), (1, v1), (9, 0), (9, 0), (9, 0), (9, 0), (9, 0), (9, 0), (9, 0), (9, 0)]) (st' := [(0, (-2))]) (h' := (G, ρ, m)) hm rfl cjn ?_
    cases e
    cases hk
    exact Ex_ret (k := 1) hm rfl ⟨_, rfl, rfl⟩
  · replace e := it_n e c2
    refine Ex_if1t (c := 1) (tgt := 5) hm rfl (bt1 c2) ?_
    refine Ex_run 8 (i' := 13) (L' := [(2, ((v0 : Nat) : Int)), (1, v1), (9, 0), (1, v1), (9, 0), (0, 0), (0, 0), (0, 0), (9, 0), (9, 0)]) (st' := []) (h' := (G, ρ, m)) hm rfl (cjc (Nat.le_of_ble_eq_true rfl) (cjc (Nat.le_of_ble_eq_true rfl) (cjc (Nat.le_of_ble_eq_true rfl) (cjc (Nat.le_of_ble_eq_true rfl) cjn)))) ?_
    exact (Ex_lp (A := e167_13 G ρ d v0 ) (B := (Bi G ρ)) (fun s x e rr hk => tf167_b13 e hd rr hk) FU _ _ e rr hk) _ _ _
theorem tf168 {G : Gg} {ρ : Rg} {d : Nat} {v0 : Nat} {v1 : Int} {m : Sg} {x : Int} (e : f168 G ρ v0 v1 m = some x) (hd : 1 ≤ d) : Ex d 168 0 [(2, ((v0 : Nat) : Int)), (0, v1)] [] (G, ρ, m) (some (0, x), (G, ρ, m)) := by
  unfold f168 at e
  have hm := mi_168
  generalize hk : (some (0, x), (G, ρ, m)) = rr
  replace hk : (Bpi G ρ m) x rr := hk.symm
  obtain ⟨g1, e⟩ := gd_s e
  refine Ex_run 8 (i' := 8) (L' := [(2, ((v0 : Nat) : Int)), (0, v1)]) (st' := [(1, (g_sub (m v0 15) 1)), (1, 0), (1, v1)]) (h' := (G, ρ, m)) hm rfl (cjc (gk_b g1) cjn) ?_
  obtain ⟨q2, h2, e⟩ := bn_s e
  refine Ex_callm (z := 143) (na := 3) (ck := 0) (as := [(1, v1), (1, 0), (1, (g_sub (m v0 15) 1))]) (rest := []) (E0 := [(1, v1), (9, 0), (1, 0), (9, 0), (1, (g_sub (m v0 15) 1)), (9, 0)]) (v := some (0, q2)) (h1 := (G, ρ, m)) hm rfl (by omega) ⟨Nat.le_of_ble_eq_true rfl, Nat.le_of_ble_eq_true rfl⟩ (trivial) rfl rfl ml_143 rfl (Nat.le_of_ble_eq_true rfl) (tf143 h2 (by omega)) ?_
  show Ex d 168 9 [(2, ((v0 : Nat) : Int)), (0, v1)] [(0, q2)] (G, ρ, m) rr
  obtain ⟨g3, e⟩ := gd_s e
  cases e
  cases hk
  exact Ex_ret (k := 2) hm rfl ⟨_, rfl, g3, rfl⟩
