theorem tf169_b4 {G : Gg} {ρ : Rg} {d : Nat} {m : Sg} {s : Int × Int} {x : (Int × Int) ⊕ (Int)} (e : f169_b4 G ρ m s = some x) (hd : 0 ≤ d) (rr : Option MV × Mh) (hk : (DS (e169_4 G ρ d m) (Bpi G ρ m)) x rr) : e169_4 G ρ d m s rr := by
  unfold f169_b4 at e
  have hm := mi_169
  show ∀ (j0 : Int), Ex d 169 4 [(0, j0), (0, s.1), (0, s.2)] [] (G, ρ, m) rr
  intro j0
  refine Ex_run 1 (i' := 5) (L' := [(0, j0), (0, s.1), (0, s.2)]) (st' := [(0, s.2)]) (h' := (G, ρ, m)) hm rfl cjn ?_
  by_cases c1 : s.2 = 0
  · replace e := it_p e c1
    refine Ex_if1t (c := 0) (tgt := 14) hm rfl (bt0 c1) ?_
    obtain ⟨x, e, hx⟩ := xr_s e
    replace hk : (Bpi G ρ m) x rr := by rw [hx] at hk; exact hk
    refine Ex_run 1 (i' := 15) (L' := [(0, j0), (0, s.1), (0, s.2)]) (st' := [(0, s.1)]) (h' := (G, ρ, m)) hm rfl cjn ?_
    cases e
    cases hk
    exact Ex_ret (k := 1) hm rfl ⟨_, rfl, rfl⟩
  · replace e := it_n e c1
    refine Ex_if1f (c := 0) (tgt := 14) hm rfl (bf0 c1) ?_
    refine Ex_run 8 (i' := 4) (L' := [(0, j0), (0, (w32 (s.1 + 1))), (0, (g_and s.2 (g_sub s.2 1)))]) (st' := []) (h' := (G, ρ, m)) hm rfl (cjc (Nat.le_of_ble_eq_true rfl) cjn) ?_
    cases e
    exact hk _
theorem tf169 {G : Gg} {ρ : Rg} {d : Nat} {v0 : Int} {m : Sg} {x : Int} (e : f169 G ρ v0 m = some x) (hd : 0 ≤ d) : Ex d 169 0 [(0, v0), (9, 0), (9, 0)] [] (G, ρ, m) (some (0, x), (G, ρ, m)) := by
  unfold f169 at e
  have hm := mi_169
  generalize hk : (some (0, x), (G, ρ, m)) = rr
  replace hk : (Bpi G ρ m) x rr := hk.symm
  refine Ex_run 4 (i' := 4) (L' := [(0, v0), (0, 0), (0, v0)]) (st' := []) (h' := (G, ρ, m)) hm rfl (cjc (Nat.le_of_ble_eq_true rfl) (cjc (Nat.le_of_ble_eq_true rfl) cjn)) ?_
  exact (Ex_lp (A := e169_4 G ρ d m ) (B := (Bpi G ρ m)) (fun s x e rr hk => tf169_b4 e hd rr hk) FU _ _ e rr hk) _
theorem tf170_48 {G : Gg} {ρ : Rg} {d : Nat} {v0 : Nat} {w0 : Int} {w1 : Nat} {m : Sg} {x : Int × Sg} (e : f170_48 G ρ v0 w0 w1 m = some x) (hd : 1 ≤ d) (rr : Option MV × Mh) (hk : (Bi G ρ) x rr) (j1 : Int) (j2 : Int) : Ex d 170 48 [(2, ((v0 : Nat) : Int)), (0, j1), (0, j2)] [(0, w0), (2, ((w1 : Nat) : Int))] (G, ρ, m) rr := by
  unfold f170_48 at e
  have hm := mi_170
  obtain ⟨g16, e⟩ := gd_s e
  obtain ⟨g17, e⟩ := gd_s e
  refine Ex_run 5 (i' := 53) (L' := [(2, ((v0 : Nat) : Int)), (0, j1), (0, j2)]) (st' := [(0, (g_sub ((put m w1 15 w0) v0 15) 1))]) (h' := (G, ρ, (put m w1 15 w0))) hm rfl (cjc (gk_b g16) (cjc (gk_b g17) cjn)) ?_
  cases e
  cases hk
  exact Ex_ret (k := 1) hm rfl ⟨_, rfl, rfl⟩
theorem tf170_42 {G : Gg} {ρ : Rg} {d : Nat} {v0 : Nat} {w0 : Int} {w1 : Int} {w2 : Nat} {m : Sg} {x : Int × Sg} (e : f170_42 G ρ v0 w0 w1 w2 m = some x) (hd : 1 ≤ d) (rr : Option MV × Mh) (hk : (Bi G ρ) x rr) (j1 : Int) (j2 : Int) : Ex d 170 42 [(2, ((v0 : Nat) : Int)), (0, j1), (0, j2)] [(0, w0), (0, w1), (2, ((w2 : Nat) : Int))] (G, ρ, m) rr := by
  unfold f170_42 at e
  have hm := mi_170
  obtain ⟨g13, e⟩ := gd_s e
  obtain ⟨g14, e⟩ := gd_s e
  obtain ⟨g15, e⟩ := gd_s e
  refine Ex_run 6 (i' := 48) (L' := [(2, ((v0 : Nat) : Int)), (0, j1), (0, j2)]) (st' := [(0, (g_add ((put m w2 w1 w0) v0 15) 1)), (2, ((v0 : Nat) : Int))]) (h' := (G, ρ, (put m w2 w1 w0))) hm rfl (cjc (gk_b g13) (cjc g14 (cjc (gk_b g15) cjn))) ?_
  exact tf170_48 e hd rr hk _ _
theorem tf170_36 {G : Gg} {ρ : Rg} {d : Nat} {v0 : Nat} {w0 : Int} {w1 : Int} {w2 : Nat} {m : Sg} {x : Int × Sg} (e : f170_36 G ρ v0 w0 w1 w2 m = some x) (hd : 1 ≤ d) (rr : Option MV × Mh) (hk : (Bi G ρ) x rr) (j1 : Int) (j2 : Int) : Ex d 170 36 [(2, ((v0 : Nat) : Int)), (0, j1), (0, j2)] [(0, w0), (0, w1), (2, ((w2 : Nat) : Int))] (G, ρ, m) rr := by
  unfold f170_36 at e
  have hm := mi_170
  obtain ⟨g10, e⟩ := gd_s e
  obtain ⟨g11, e⟩ := gd_s e
  obtain ⟨g12, e⟩ := gd_s e
  refine Ex_run 6 (i' := 42) (L' := [(2, ((v0 : Nat) : Int)), (0, j1), (0, j2)]) (st' := [(0, 0), (0, ((put m w2 w1 w0) v0 15)), (2, (((ρ v0 18) : Nat) : Int))]) (h' := (G, ρ, (put m w2 w1 w0))) hm rfl (cjc (gk_b g10) (cjc g11 (cjc (gk_b g12) (cjc (gk_b g12) cjn)))) ?_
  exact tf170_42 e hd rr hk _ _
theorem tf170 {G : Gg} {ρ : Rg} {d : Nat} {v0 : Nat} {v1 : Int} {v2 : Int} {m : Sg} {x : Int × Sg} (e : f170 G ρ v0 v1 v2 m = some x) (hd : 1 ≤ d) : Ex d 170 0 [(2, ((v0 : Nat) : Int)), (0, v1), (0, v2)] [] (G, ρ, m) (some (0, x.1), (G, ρ, x.2)) := by
  unfold f170 at e
  have hm := mi_170
  generalize hk : (some (0, x.1), (G, ρ, x.2)) = rr
  replace hk : (Bi G ρ) x rr := hk.symm
  refine Ex_run 4 (i' := 4) (L' := [(2, ((v0 : Nat) : Int)), (0, v1), (0, v2)]) (st' := [(1, 999), (1, 0), (1, v1)]) (h' := (G, ρ, m)) hm rfl cjn ?_
  obtain ⟨q1, h1, e⟩ := bn_s e
  refine Ex_callm (z := 143) (na := 3) (ck := 0) (as := [(1, v1), (1, 0), (1, 999)]) (rest := []) (E0 := [(1, v1), (9, 0), (1, 0), (9, 0), (1, 999), (9, 0)]) (v := some (0, q1)) (h1 := (G, ρ, m)) hm rfl (by omega) ⟨Nat.le_of_ble_eq_true rfl, Nat.le_of_ble_eq_true rfl⟩ (trivial) rfl rfl ml_143 rfl (Nat.le_of_ble_eq_true rfl) (tf143 h1 (by omega)) ?_
  show Ex d 170 5 [(2, ((v0 : Nat) : Int)), (0, v1), (0, v2)] [(0, q1)] (G, ρ, m) rr
  by_cases c2 : q1 = 0
  · replace e := it_p e c2
    refine Ex_if1t (c := 0) (tgt := 12) hm rfl (bt0 c2) ?_
    refine Ex_run 1 (i' := 13) (L' := [(2, ((v0 : Nat) : Int)), (0, v1), (0, v2)]) (st' := [(0, (-2))]) (h' := (G, ρ, m)) hm rfl cjn ?_
    cases e
    cases hk
    exact Ex_ret (k := 1) hm rfl ⟨_, rfl, rfl⟩
  · replace e := it_n e c2
    refine Ex_if1f (c := 0) (tgt := 12) hm rfl (bf0 c2) ?_
    refine Ex_run 4 (i' := 10) (L' := [(2, ((v0 : Nat) : Int)), (0, v1), (0, v2)]) (st' := [(1, 9), (1, 0), (1, v2)]) (h' := (G, ρ, m)) hm rfl cjn ?_
    obtain ⟨q3, h3, e⟩ := bn_s e
    refine Ex_callm (z := 143) (na := 3) (ck := 0) (as := [(1, v2), (1, 0), (1, 9)]) (rest := []) (E0 := [(1, v2), (9, 0), (1, 0), (9, 0), (1, 9), (9, 0)]) (v := some (0, q3)) (h1 := (G, ρ, m)) hm rfl (by omega) ⟨Nat.le_of_ble_eq_true rfl, Nat.le_of_ble_eq_true rfl⟩ (trivial) rfl rfl ml_143 rfl (Nat.le_of_ble_eq_true rfl) (tf143 h3 (by omega)) ?_
    show Ex d 170 11 [(2, ((v0 : Nat) : Int)), (0, v1), (0, v2)] [(0, q3)] (G, ρ, m) rr
    by_cases c4 : q3 = 0
    · replace e := it_p e c4
      refine Ex_if1f (c := 1) (tgt := 14) hm rfl (bf1 c4) ?_
      refine Ex_run 1 (i' := 13) (L' := [(2, ((v0 : Nat) : Int)), (0, v1), (0, v2)]) (st' := [(0, (-2))]) (h' := (G, ρ, m)) hm rfl cjn ?_
      cases e
      cases hk
      exact Ex_ret (k := 1) hm rfl ⟨_, rfl, rfl⟩
    · replace e := it_n e c4
      refine Ex_if1t (c := 1) (tgt := 14) hm rfl (bt1 c4) ?_
      obtain ⟨g5, e⟩ := gd_s e
      refine Ex_run 3 (i' := 17) (L' := [(2, ((v0 : Nat) : Int)), (0, v1), (0, v2)]) (st' := [(0, 12), (0, (m v0 15))]) (h' := (G, ρ, m)) hm rfl (cjc (gk_b g5) cjn) ?_
      by_cases c6 : (m v0 15) = 12
      · replace e := it_p e c6
        refine Ex_if2f (c := 1) (tgt := 20) hm rfl (bf1 c6) ?_
        refine Ex_run 1 (i' := 19) (L' := [(2, ((v0 : Nat) : Int)), (0, v1), (0, v2)]) (st' := [(0, (-4))]) (h' := (G, ρ, m)) hm rfl cjn ?_
        cases e
        cases hk
        exact Ex_ret (k := 1) hm rfl ⟨_, rfl, rfl⟩
      · replace e := it_n e c6
        refine Ex_if2t (c := 1) (tgt := 20) hm rfl (bt1 c6) ?_
        refine Ex_run 4 (i' := 24) (L' := [(2, ((v0 : Nat) : Int)), (0, v1), (0, v2)]) (st' := [(0, (m v0 15)), (0, 12), (2, ((v0 : Nat) : Int))]) (h' := (G, ρ, m)) hm rfl (cjc (gk_b g5) cjn) ?_
        obtain ⟨q7, h7, e⟩ := bn_s e
        refine Ex_callm (z := 162) (na := 3) (ck := 15) (as := [(2, ((v0 : Nat) : Int)), (0, 12), (0, (m v0 15))]) (rest := []) (E0 := [(2, ((v0 : Nat) : Int)), (0, 12), (0, (m v0 15)), (9, 0)]) (v := none) (h1 := (G, ρ, q7)) hm rfl (by omega) ⟨Nat.le_of_ble_eq_true rfl, Nat.le_of_ble_eq_true rfl⟩ (rc2 rfl g5) rfl rfl ml_162 rfl (Nat.le_of_ble_eq_true rfl) (tf162 h7 (by omega)) ?_
        show Ex d 170 25 [(2, ((v0 : Nat) : Int)), (0, v1), (0, v2)] [] (G, ρ, q7) rr
        obtain ⟨g8, e⟩ := gd_s e
        obtain ⟨g9, e⟩ := gd_s e
        refine Ex_run 11 (i' := 36) (L' := [(2, ((v0 : Nat) : Int)), (0, v1), (0, v2)]) (st' := [(0, v2), (0, ((put q7 (ρ v0 16) (q7 v0 15) v1) v0 15)), (2, (((ρ v0 17) : Nat) : Int))]) (h' := (G, ρ, (put q7 (ρ v0 16) (q7 v0 15) v1))) hm rfl (cjc (gk_b g5) (cjc (gk_b g5) (cjc (gk_b g8) (cjc g9 (cjc (gk_b g5) (cjc (gk_b g5) cjn)))))) ?_
        exact tf170_36 e hd rr hk _ _
theorem tf171 {G : Gg} {ρ : Rg} {d : Nat} {v0 : Nat} {v1 : Int} {v2 : Int} {m : Sg} {x : Int} (e : f171 G ρ v0 v1 v2 m = some x) (hd : 0 ≤ d) : Ex d 171 0 [(2, ((v0 : Nat) : Int)), (0, v1), (0, v2)] [] (G, ρ, m) (some (0, x), (G, ρ, m)) := by
  unfold f171 at e
  have hm := mi_171
  generalize hk : (some (0, x), (G, ρ, m)) = rr
  replace hk : (Bpi G ρ m) x rr := hk.symm
  obtain ⟨g1, e⟩ := gd_s e
  obtain ⟨g2, e⟩ := gd_s e
  obtain ⟨g3, e⟩ := gd_s e
  refine Ex_run 9 (i' := 9) (L' := [(2, ((v0 : Nat) : Int)), (0, v1), (0, v2)]) (st' := [(0, 1), (0, (g_and (g_shr (m (ρ v0 18) v1) v2) 1))]) (h' := (G, ρ, m)) hm rfl (cjc (gk_b g1) (cjc (gk_b g2) (cjc g3 cjn))) ?_
  by_cases c4 : (g_and (g_shr (m (ρ v0 18) v1) v2) 1) = 1
  · replace e := it_p e c4
    refine Ex_if2f (c := 1) (tgt := 12) hm rfl (bf1 c4) ?_
    refine Ex_run 2 (i' := 13) (L' := [(2, ((v0 : Nat) : Int)), (0, v1), (0, v2)]) (st' := [(0, 1)]) (h' := (G, ρ, m)) hm rfl cjn ?_
    cases e
    cases hk
    exact Ex_ret (k := 2) hm rfl ⟨_, rfl, by decide, rfl⟩
  · replace e := it_n e c4
    refine Ex_if2t (c := 1) (tgt := 12) hm rfl (bt1 c4) ?_
    refine Ex_run 1 (i' := 13) (L' := [(2, ((v0 : Nat) : Int)), (0, v1), (0, v2)]) (st' := [(0, 0)]) (h' := (G, ρ, m)) hm rfl cjn ?_
    cases e
    cases hk
    exact Ex_ret (k := 2) hm rfl ⟨_, rfl, by decide, rfl⟩
theorem tf172 {G : Gg} {ρ : Rg} {d : Nat} {v0 : Nat} {v1 : Int} {v2 : Int} {m : Sg} {x : Int × Sg} (e : f172 G ρ v0 v1 v2 m = some x) (hd : 2 ≤ d) : Ex d 172 0 [(2, ((v0 : Nat) : Int)), (0, v1), (0, v2)] [] (G, ρ, m) (some (0, x.1), (G, ρ, x.2)) := by
  unfold f172 at e
  have hm := mi_172
  generalize hk : (some (0, x.1), (G, ρ, x.2)) = rr
  replace hk : (Bi G ρ) x rr := hk.symm
  refine Ex_run 2 (i' := 2) (L' := [(2, ((v0 : Nat) : Int)), (0, v1), (0, v2)]) (st' := [(0, v1), (2, ((v0 : Nat) : Int))]) (h' := (G, ρ, m)) hm rfl cjn ?_
  obtain ⟨g1, e⟩ := gd_s e
  obtain ⟨q2, h2, e⟩ := bn_s e
  refine Ex_callm (z := 168) (na := 2) (ck := 15) (as := [(2, ((v0 : Nat) : Int)), (0, v1)]) (rest := []) (E0 := [(2, ((v0 : Nat) : Int)), (0, v1)]) (v := some (0, q2)) (h1 := (G, ρ, m)) hm rfl (by omega) ⟨Nat.le_of_ble_eq_true rfl, Nat.le_of_ble_eq_true rfl⟩ (rc2 rfl g1) rfl rfl ml_168 rfl (Nat.le_of_ble_eq_true rfl) (tf168 h2 (by omega)) ?_
  show Ex d 172 3 [(2, ((v0 : Nat) : Int)), (0, v1), (0, v2)] [(0, q2)] (G, ρ, m) rr
  by_cases c3 : q2 = 0
  · replace e := it_p e c3
    refine Ex_if1t (c := 0) (tgt := 8) hm rfl (bt0 c3) ?_
    refine Ex_run 1 (i' := 9) (L' := [(2, ((v0 : Nat) : Int)), (0, v1), (0, v2)]) (st' := [(0, (-2))]) (h' := (G, ρ, m)) hm rfl cjn ?_
    cases e
    cases hk
    exact Ex_ret (k := 1) hm rfl ⟨_, rfl, rfl⟩
  · replace e := it_n e c3
    refine Ex_if1f (c := 0) (tgt := 8) hm rfl (bf0 c3) ?_
    refine Ex_run 2 (i' := 6) (L' := [(2, ((v0 : Nat) : Int)), (0, v1), (0, v2)]) (st' := [(0, v2), (2, ((v0 : Nat) : Int))]) (h' := (G, ρ, m)) hm rfl cjn ?_
    obtain ⟨q4, h4, e⟩ := bn_s e
    refine Ex_callm (z := 146) (na := 2) (ck := 15) (as := [(2, ((v0 : Nat) : Int)), (0, v2)]) (rest := []) (E0 := [(2, ((v0 : Nat) : Int)), (0, v2)]) (v := some (0, q4)) (h1 := (G, ρ, m)) hm rfl (by omega) ⟨Nat.le_of_ble_eq_true rfl, Nat.le_of_ble_eq_true rfl⟩ (rc2 rfl g1) rfl rfl ml_146 rfl (Nat.le_of_ble_eq_true rfl) (tf146 h4 (by omega)) ?_
    show Ex d 172 7 [(2, ((v0 : Nat) : Int)), (0, v1), (0, v2)] [(0, q4)] (G, ρ, m) rr
    by_cases c5 : q4 = 0
    · replace e := it_p e c5
      refine Ex_if1f (c := 1) (tgt := 10) hm rfl (bf1 c5) ?_
      refine Ex_run 1 (i' := 9) (L' := [(2, ((v0 : Nat) : Int)), (0, v1), (0, v2)]) (st' := [(0, (-2))]) (h' := (G, ρ, m)) hm rfl cjn ?_
      cases e
      cases hk
      exact Ex_ret (k := 1) hm rfl ⟨_, rfl, rfl⟩
    · replace e := it_n e c5
      refine Ex_if1t (c := 1) (tgt := 10) hm rfl (bt1 c5) ?_
      refine Ex_run 3 (i' := 13) (L' := [(2, ((v0 : Nat) : Int)), (0, v1), (0, v2)]) (st' := [(0, v2), (0, v1), (2, ((v0 : Nat) : Int))]) (h' := (G, ρ, m)) hm rfl cjn ?_
      obtain ⟨q6, h6, e⟩ := bn_s e
      refine Ex_callm (z := 171) (na := 3) (ck := 15) (as := [(2, ((v0 : Nat) : Int)), (0, v1), (0, v2)]) (rest := []) (E0 := [(2, ((v0 : Nat) : Int)), (0, v1), (0, v2)]) (v := some (0, q6)) (h1 := (G, ρ, m)) hm rfl (by omega) ⟨Nat.le_of_ble_eq_true rfl, Nat.le_of_ble_eq_true rfl⟩ (rc2 rfl g1) rfl rfl ml_171 rfl (Nat.le_of_ble_eq_true rfl) (tf171 h6 (by omega)) ?_
      show Ex d 172 14 [(2, ((v0 : Nat) : Int)), (0, v1), (0, v2)] [(0, q6)] (G, ρ, m) rr
      by_cases c7 : q6 = 0
      · replace e := it_p e c7
        refine Ex_if1t (c := 0) (tgt := 17) hm rfl (bt0 c7) ?_
        obtain ⟨g8, e⟩ := gd_s e
        obtain ⟨g9, e⟩ := gd_s e
        refine Ex_run 14 (i' := 31) (L' := [(2, ((v0 : Nat) : Int)), (0, v1), (0, v2)]) (st' := [(0, ((put m (ρ v0 18) v1 (g_or (m (ρ v0 18) v1) (g_shl 1 v2))) (ρ v0 18) v1))]) (h' := (G, ρ, (put m (ρ v0 18) v1 (g_or (m (ρ v0 18) v1) (g_shl 1 v2))))) hm rfl (cjc (gk_b g1) (cjc (gk_b g8) (cjc g9 (cjc (gk_b g8) (cjc g9 (cjc (gk_b g1) (cjc (gk_b g8) (cjc g9 cjn)))))))) ?_
        obtain ⟨q10, h10, e⟩ := bn_s e
        refine Ex_callm (z := 169) (na := 1) (ck := 0) (as := [(0, ((put m (ρ v0 18) v1 (g_or (m (ρ v0 18) v1) (g_shl 1 v2))) (ρ v0 18) v1))]) (rest := []) (E0 := [(0, ((put m (ρ v0 18) v1 (g_or (m (ρ v0 18) v1) (g_shl 1 v2))) (ρ v0 18) v1)), (9, 0), (9, 0)]) (v := some (0, q10)) (h1 := (G, ρ, (put m (ρ v0 18) v1 (g_or (m (ρ v0 18) v1) (g_shl 1 v2))))) hm rfl (by omega) ⟨Nat.le_of_ble_eq_true rfl, Nat.le_of_ble_eq_true rfl⟩ (trivial) rfl rfl ml_169 rfl (Nat.le_of_ble_eq_true rfl) (tf169 h10 (by omega)) ?_
        show Ex d 172 32 [(2, ((v0 : Nat) : Int)), (0, v1), (0, v2)] [(0, q10)] (G, ρ, (put m (ρ v0 18) v1 (g_or (m (ρ v0 18) v1) (g_shl 1 v2)))) rr
        cases e
        cases hk
        exact Ex_ret (k := 1) hm rfl ⟨_, rfl, rfl⟩
      · replace e := it_n e c7
        refine Ex_if1f (c := 0) (tgt := 17) hm rfl (bf0 c7) ?_
        refine Ex_run 1 (i' := 16) (L' := [(2, ((v0 : Nat) : Int)), (0, v1), (0, v2)]) (st' := [(0, (-3))]) (h' := (G, ρ, m)) hm rfl cjn ?_
        cases e
        cases hk
        exact Ex_ret (k := 1) hm rfl ⟨_, rfl, rfl⟩
theorem tf173 {G : Gg} {ρ : Rg} {d : Nat} {v0 : Nat} {v1 : Int} {v2 : Int} {m : Sg} {x : Int × Sg} (e : f173 G ρ v0 v1 v2 m = some x) (hd : 2 ≤ d) : Ex d 173 0 [(2, ((v0 : Nat) : Int)), (0, v1), (0, v2), (9, 0)] [] (G, ρ, m) (some (0, x.1), (G, ρ, x.2)) := by
  unfold f173 at e
  have hm := mi_173
  generalize hk : (some (0, x.1), (G, ρ, x.2)) = rr
  replace hk : (Bi G ρ) x rr := hk.symm
  refine Ex_run 2 (i' := 2) (L' := [(2, ((v0 : Nat) : Int)), (0, v1), (0, v2), (9, 0)]) (st' := [(0, v1), (2, ((v0 : Nat) : Int))]) (h' := (G, ρ, m)) hm rfl cjn ?_
  obtain ⟨g1, e⟩ := gd_s e
  obtain ⟨q2, h2, e⟩ := bn_s e
  refine Ex_callm (z := 168) (na := 2) (ck := 15) (as := [(2, ((v0 : Nat) : Int)), (0, v1)]) (rest := []) (E0 := [(2, ((v0 : Nat) : Int)), (0, v1)]) (v := some (0, q2)) (h1 := (G, ρ, m)) hm rfl (by omega) ⟨Nat.le_of_ble_eq_true rfl, Nat.le_of_ble_eq_true rfl⟩ (rc2 rfl g1) rfl rfl ml_168 rfl (Nat.le_of_ble_eq_true rfl) (tf168 h2 (by omega)) ?_
  show Ex d 173 3 [(2, ((v0 : Nat) : Int)), (0, v1), (0, v2), (9, 0)] [(0, q2)] (G, ρ, m) rr
  by_cases c3 : q2 = 0
  · replace e := it_p e c3
    refine Ex_if1t (c := 0) (tgt := 10) hm rfl (bt0 c3) ?_
    refine Ex_run 1 (i' := 11) (L' := [(2, ((v0 : Nat) : Int)), (0, v1), (0, v2), (9, 0)]) (st' := [(0, (-2))]) (h' := (G, ρ, m)) hm rfl cjn ?_
    cases e
    cases hk
    exact Ex_ret (k := 1) hm rfl ⟨_, rfl, rfl⟩
  · replace e := it_n e c3
    refine Ex_if1f (c := 0) (tgt := 10) hm rfl (bf0 c3) ?_
    refine Ex_run 4 (i' := 8) (L' := [(2, ((v0 : Nat) : Int)), (0, v1), (0, v2), (9, 0)]) (st' := [(1, 999), (1, 0), (1, v2)]) (h' := (G, ρ, m)) hm rfl cjn ?_
    obtain ⟨q4, h4, e⟩ := bn_s e
    refine Ex_callm (z := 143) (na := 3) (ck := 0) (as := [(1, v2), (1, 0), (1, 999)]) (rest := []) (E0 := [(1, v2), (9, 0), (1, 0), (9, 0), (1, 999), (9, 0)]) (v := some (0, q4)) (h1 := (G, ρ, m)) hm rfl (by omega) ⟨Nat.le_of_ble_eq_true rfl, Nat.le_of_ble_eq_true rfl⟩ (trivial) rfl rfl ml_143 rfl (Nat.le_of_ble_eq_true rfl) (tf143 h4 (by omega)) ?_
    show Ex d 173 9 [(2, ((v0 : Nat) : Int)), (0, v1), (0, v2), (9, 0)] [(0, q4)] (G, ρ, m) rr
    by_cases c5 : q4 = 0
    · replace e := it_p e c5
      refine Ex_if1f (c := 1) (tgt := 12) hm rfl (bf1 c5) ?_
      refine Ex_run 1 (i' := 11) (L' := [(2, ((v0 : Nat) : Int)), (0, v1), (0, v2), (9, 0)]) (st' := [(0, (-2))]) (h' := (G, ρ, m)) hm rfl cjn ?_
      cases e
      cases hk
      exact Ex_ret (k := 1) hm rfl ⟨_, rfl, rfl⟩
    · replace e := it_n e c5
      refine Ex_if1t (c := 1) (tgt := 12) hm rfl (bt1 c5) ?_
      obtain ⟨g6, e⟩ := gd_s e
      obtain ⟨g7, e⟩ := gd_s e
      refine Ex_run 11 (i' := 23) (L' := [(2, ((v0 : Nat) : Int)), (0, v1), (0, v2), (0, (m (ρ v0 16) v1))]) (st' := [(0, (m (ρ v0 16) v1))]) (h' := (G, ρ, (put m (ρ v0 16) v1 v2))) hm rfl (cjc (gk_b g1) (cjc (gk_b g6) (cjc g7 (cjc (Nat.le_of_ble_eq_true rfl) (cjc (gk_b g1) (cjc (gk_b g6) (cjc g7 cjn))))))) ?_
      cases e
      cases hk
      exact Ex_ret (k := 1) hm rfl ⟨_, rfl, rfl⟩
theorem tf174_33 {G : Gg} {ρ : Rg} {d : Nat} {v0 : Nat} {v1 : Int} {v2 : Int} {v3 : Int} {w0 : Int} {w1 : Int} {w2 : Nat} {m : Sg} {x : (Int × Sg) ⊕ (Sg)} (e : f174_33 G ρ v0 v1 v2 v3 w0 w1 w2 m = some x) (hd : 1 ≤ d) (rr : Option MV × Mh) (hk : (DS (e174_6 G ρ d v0 v1 v2) (Bv G ρ)) x rr) : Ex d 174 33 [(2, ((v0 : Nat) : Int)), (0, v1), (0, v2), (0, v3)] [(0, w0), (0, w1), (2, ((w2 : Nat) : Int))] (G, ρ, m) rr := by
  unfold f174_33 at e
  have hm := mi_174
  obtain ⟨g9, e⟩ := gd_s e
  obtain ⟨g10, e⟩ := gd_s e
  refine Ex_run 3 (i' := 6) (L' := [(2, ((v0 : Nat) : Int)), (0, v1), (0, v2), (0, (w32 (v3 + 1)))]) (st' := []) (h' := (G, ρ, (put m w2 w1 w0))) hm rfl (cjc (gk_b g9) (cjc g10 cjn)) ?_
  cases e
  exact hk
theorem tf174_b6 {G : Gg} {ρ : Rg} {d : Nat} {v0 : Nat} {v1 : Int} {v2 : Int} {s : Int × Sg} {x : (Int × Sg) ⊕ (Sg)} (e : f174_b6 G ρ v0 v1 v2 s = some x) (hd : 1 ≤ d) (rr : Option MV × Mh) (hk : (DS (e174_6 G ρ d v0 v1 v2) (Bv G ρ)) x rr) : e174_6 G ρ d v0 v1 v2 s rr := by
  unfold f174_b6 at e
  have hm := mi_174
  show Ex d 174 6 [(2, ((v0 : Nat) : Int)), (0, v1), (0, v2), (0, s.1)] [] (G, ρ, s.2) rr
  obtain ⟨g3, e⟩ := gd_s e
  refine Ex_run 3 (i' := 9) (L' := [(2, ((v0 : Nat) : Int)), (0, v1), (0, v2), (0, s.1)]) (st' := [(0, (s.2 v0 1)), (0, s.1)]) (h' := (G, ρ, s.2)) hm rfl (cjc (gk_b g3) cjn) ?_
  by_cases c4 : s.1 < (s.2 v0 1)
  · replace e := it_p e c4
    refine Ex_if2f (c := 3) (tgt := 36) hm rfl (bf3 c4) ?_
    refine Ex_run 3 (i' := 13) (L' := [(2, ((v0 : Nat) : Int)), (0, v1), (0, v2), (0, s.1)]) (st' := [(0, s.1), (0, v1), (2, ((v0 : Nat) : Int))]) (h' := (G, ρ, s.2)) hm rfl cjn ?_
    obtain ⟨q5, h5, e⟩ := bn_s e
    refine Ex_callm (z := 171) (na := 3) (ck := 15) (as := [(2, ((v0 : Nat) : Int)), (0, v1), (0, s.1)]) (rest := []) (E0 := [(2, ((v0 : Nat) : Int)), (0, v1), (0, s.1)]) (v := some (0, q5)) (h1 := (G, ρ, s.2)) hm rfl (by omega) ⟨Nat.le_of_ble_eq_true rfl, Nat.le_of_ble_eq_true rfl⟩ (rc2 rfl g3) rfl rfl ml_171 rfl (Nat.le_of_ble_eq_true rfl) (tf171 h5 (by omega)) ?_
    show Ex d 174 14 [(2, ((v0 : Nat) : Int)), (0, v1), (0, v2), (0, s.1)] [(0, q5)] (G, ρ, s.2) rr
    by_cases c6 : q5 = 0
    · replace e := it_p e c6
      refine Ex_if1f (c := 1) (tgt := 16) hm rfl (bf1 c6) ?_
      refine Ex_run 3 (i' := 6) (L' := [(2, ((v0 : Nat) : Int)), (0, v1), (0, v2), (0, (w32 (s.1 + 1)))]) (st' := []) (h' := (G, ρ, s.2)) hm rfl cjn ?_
      cases e
      exact hk
    · replace e := it_n e c6
      refine Ex_if1t (c := 1) (tgt := 16) hm rfl (bt1 c6) ?_
      obtain ⟨g7, e⟩ := gd_s e
      obtain ⟨g8, e⟩ := gd_s e
      refine Ex_run 17 (i' := 33) (L' := [(2, ((v0 : Nat) : Int)), (0, v1), (0, v2), (0, s.1)]) (st' := [(0, 0), (0, (g_add (g_mul 10 v2) s.1)), (2, (((ρ v0 3) : Nat) : Int))]) (h' := (G, ρ, (put s.2 (ρ v0 2) (g_add (g_mul 10 v2) s.1) 0))) hm rfl (cjc (gk_b g3) (cjc (gk_b g7) (cjc g8 (cjc (gk_b g3) cjn)))) ?_
      exact tf174_33 e hd rr hk
  · replace e := it_n e c4
    refine Ex_if2t (c := 3) (tgt := 36) hm rfl (bt3 c4) ?_
    obtain ⟨x, e, hx⟩ := xr_s e
    replace hk : (Bv G ρ) x rr := by rw [hx] at hk; exact hk
    cases e
    cases hk
    exact Ex_ret (k := 0) hm rfl ⟨rfl, rfl⟩
theorem tf174 {G : Gg} {ρ : Rg} {d : Nat} {v0 : Nat} {v1 : Int} {v2 : Int} {m : Sg} {x : Sg} (e : f174 G ρ v0 v1 v2 m = some x) (hd : 1 ≤ d) : Ex d 174 0 [(2, ((v0 : Nat) : Int)), (0, v1), (0, v2), (9, 0)] [] (G, ρ, m) (none, (G, ρ, x)) := by
  unfold f174 at e
  have hm := mi_174
  generalize hk : (none, (G, ρ, x)) = rr
  replace hk : (Bv G ρ) x rr := hk.symm
  refine Ex_run 3 (i' := 3) (L' := [(2, ((v0 : Nat) : Int)), (0, v1), (0, v2), (9, 0)]) (st' := [(0, v2), (0, v1), (2, ((v0 : Nat) : Int))]) (h' := (G, ρ, m)) hm rfl cjn ?_
  obtain ⟨g1, e⟩ := gd_s e
  obtain ⟨q2, h2, e⟩ := bn_s e
  refine Ex_callm (z := 162) (na := 3) (ck := 15) (as := [(2, ((v0 : Nat) : Int)), (0, v1), (0, v2)]) (rest := []) (E0 := [(2, ((v0 : Nat) : Int)), (0, v1), (0, v2), (9, 0)]) (v := none) (h1 := (G, ρ, q2)) hm rfl (by omega) ⟨Nat.le_of_ble_eq_true rfl, Nat.le_of_ble_eq_true rfl⟩ (rc2 rfl g1) rfl rfl ml_162 rfl (Nat.le_of_ble_eq_true rfl) (tf162 h2 (by omega)) ?_
  show Ex d 174 4 [(2, ((v0 : Nat) : Int)), (0, v1), (0, v2), (9, 0)] [] (G, ρ, q2) rr
  refine Ex_run 2 (i' := 6) (L' := [(2, ((v0 : Nat) : Int)), (0, v1), (0, v2), (0, 0)]) (st' := []) (h' := (G, ρ, q2)) hm rfl (cjc (Nat.le_of_ble_eq_true rfl) cjn) ?_
  exact (Ex_lp (A := e174_6 G ρ d v0 v1 v2 ) (B := (Bv G ρ)) (fun s x e rr hk => tf174_b6 e hd rr hk) FU _ _ e rr hk)
theorem tf175 {G : Gg} {ρ : Rg} {d : Nat} {v0 : Nat} {v1 : Int} {m : Sg} {x : Int × Sg} (e : f175 G ρ v0 v1 m = some x) (hd : 2 ≤ d) : Ex d 175 0 [(2, ((v0 : Nat) : Int)), (0, v1)] [] (G, ρ, m) (some (0, x.1), (G, ρ, x.2)) := by
  unfold f175 at e
  have hm := mi_175
  generalize hk : (some (0, x.1), (G, ρ, x.2)) = rr
  replace hk : (Bi G ρ) x rr := hk.symm
  refine Ex_run 2 (i' := 2) (L' := [(2, ((v0 : Nat) : Int)), (0, v1)]) (st' := [(0, v1), (2, ((v0 : Nat) : Int))]) (h' := (G, ρ, m)) hm rfl cjn ?_
  obtain ⟨g1, e⟩ := gd_s e
  obtain ⟨q2, h2, e⟩ := bn_s e
  refine Ex_callm (z := 168) (na := 2) (ck := 15) (as := [(2, ((v0 : Nat) : Int)), (0, v1)]) (rest := []) (E0 := [(2, ((v0 : Nat) : Int)), (0, v1)]) (v := some (0, q2)) (h1 := (G, ρ, m)) hm rfl (by omega) ⟨Nat.le_of_ble_eq_true rfl, Nat.le_of_ble_eq_true rfl⟩ (rc2 rfl g1) rfl rfl ml_168 rfl (Nat.le_of_ble_eq_true rfl) (tf168 h2 (by omega)) ?_
  show Ex d 175 3 [(2, ((v0 : Nat) : Int)), (0, v1)] [(0, q2)] (G, ρ, m) rr
  by_cases c3 : q2 = 0
  · replace e := it_p e c3
    refine Ex_if1f (c := 1) (tgt := 6) hm rfl (bf1 c3) ?_
    refine Ex_run 1 (i' := 5) (L' := [(2, ((v0 : Nat) : Int)), (0, v1)]) (st' := [(0, (-2))]) (h' := (G, ρ, m)) hm rfl cjn ?_
    cases e
    cases hk
    exact Ex_ret (k := 1) hm rfl ⟨_, rfl, rfl⟩
  · replace e := it_n e c3
    refine Ex_if1t (c := 1) (tgt := 6) hm rfl (bt1 c3) ?_
    refine Ex_run 3 (i' := 9) (L' := [(2, ((v0 : Nat) : Int)), (0, v1)]) (st' := [(0, 12), (0, v1), (2, ((v0 : Nat) : Int))]) (h' := (G, ρ, m)) hm rfl cjn ?_
    obtain ⟨q4, h4, e⟩ := bn_s e
    refine Ex_callm (z := 174) (na := 3) (ck := 15) (as := [(2, ((v0 : Nat) : Int)), (0, v1), (0, 12)]) (rest := []) (E0 := [(2, ((v0 : Nat) : Int)), (0, v1), (0, 12), (9, 0)]) (v := none) (h1 := (G, ρ, q4)) hm rfl (by omega) ⟨Nat.le_of_ble_eq_true rfl, Nat.le_of_ble_eq_true rfl⟩ (rc2 rfl g1) rfl rfl ml_174 rfl (Nat.le_of_ble_eq_true rfl) (tf174 h4 (by omega)) ?_
    show Ex d 175 10 [(2, ((v0 : Nat) : Int)), (0, v1)] [] (G, ρ, q4) rr
    obtain ⟨g5, e⟩ := gd_s e
    obtain ⟨g6, e⟩ := gd_s e
    refine Ex_run 4 (i' := 14) (L' := [(2, ((v0 : Nat) : Int)), (0, v1)]) (st' := [(0, (q4 (ρ v0 18) v1))]) (h' := (G, ρ, q4)) hm rfl (cjc (gk_b g1) (cjc (gk_b g5) (cjc g6 cjn))) ?_
    obtain ⟨q7, h7, e⟩ := bn_s e
    refine Ex_callm (z := 169) (na := 1) (ck := 0) (as := [(0, (q4 (ρ v0 18) v1))]) (rest := []) (E0 := [(0, (q4 (ρ v0 18) v1)), (9, 0), (9, 0)]) (v := some (0, q7)) (h1 := (G, ρ, q4)) hm rfl (by omega) ⟨Nat.le_of_ble_eq_true rfl, Nat.le_of_ble_eq_true rfl⟩ (trivial) rfl rfl ml_169 rfl (Nat.le_of_ble_eq_true rfl) (tf169 h7 (by omega)) ?_
    show Ex d 175 15 [(2, ((v0 : Nat) : Int)), (0, v1)] [(0, q7)] (G, ρ, q4) rr
    cases e
    cases hk
    exact Ex_ret (k := 1) hm rfl ⟨_, rfl, rfl⟩
theorem tf176_54 {G : Gg} {ρ : Rg} {d : Nat} {v0 : Nat} {v1 : Int} {v2 : Int} {v3 : Int} {v4 : Int} {w0 : Int} {m : Sg} {x : (Int × Int) ⊕ (Int)} (e : f176_54 G ρ v0 v1 v2 v3 v4 w0 m = some x) (hd : 1 ≤ d) (rr : Option MV × Mh) (hk : (DS (e176_13 G ρ d v0 v1 v2 m) (Bpi G ρ m)) x rr) (j5 : MV) : Ex d 176 54 [(2, ((v0 : Nat) : Int)), (0, v1), (0, v2), (0, v3), (0, v4), j5] [(0, w0)] (G, ρ, m) rr := by
  unfold f176_54 at e
  have hm := mi_176
  refine Ex_run 3 (i' := 57) (L' := [(2, ((v0 : Nat) : Int)), (0, v1), (0, v2), (0, v3), (0, v4), (0, w0)]) (st' := [(0, w0), (0, v3)]) (h' := (G, ρ, m)) hm rfl (cjc (Nat.le_of_ble_eq_true rfl) cjn) ?_
  by_cases c16 : w0 = 0
  · replace e := it_p e c16
    refine Ex_if1t (c := 0) (tgt := 70) hm rfl (bt0 c16) ?_
    refine Ex_run 5 (i' := 13) (L' := [(2, ((v0 : Nat) : Int)), (0, v1), (0, v2), (0, (g_add v3 0)), (0, (w32 (v4 + 1))), (0, w0)]) (st' := []) (h' := (G, ρ, m)) hm rfl (cjc (Nat.le_of_ble_eq_true rfl) cjn) ?_
    cases e
    exact hk _
  · replace e := it_n e c16
    refine Ex_if1f (c := 0) (tgt := 70) hm rfl (bf0 c16) ?_
    refine Ex_run 3 (i' := 61) (L' := [(2, ((v0 : Nat) : Int)), (0, v1), (0, v2), (0, v3), (0, v4), (0, w0)]) (st' := [(0, v4), (0, v1), (2, ((v0 : Nat) : Int)), (0, v3)]) (h' := (G, ρ, m)) hm rfl cjn ?_
    obtain ⟨g17, e⟩ := gd_s e
    obtain ⟨q18, h18, e⟩ := bn_s e
    refine Ex_callm (z := 171) (na := 3) (ck := 15) (as := [(2, ((v0 : Nat) : Int)), (0, v1), (0, v4)]) (rest := [(0, v3)]) (E0 := [(2, ((v0 : Nat) : Int)), (0, v1), (0, v4)]) (v := some (0, q18)) (h1 := (G, ρ, m)) hm rfl (by omega) ⟨Nat.le_of_ble_eq_true rfl, Nat.le_of_ble_eq_true rfl⟩ (rc2 rfl g17) rfl rfl ml_171 rfl (Nat.le_of_ble_eq_true rfl) (tf171 h18 (by omega)) ?_
    show Ex d 176 62 [(2, ((v0 : Nat) : Int)), (0, v1), (0, v2), (0, v3), (0, v4), (0, w0)] [(0, q18), (0, v3)] (G, ρ, m) rr
    by_cases c19 : q18 = 0
    · replace e := it_p e c19
      refine Ex_if1f (c := 1) (tgt := 70) hm rfl (bf1 c19) ?_
      refine Ex_run 3 (i' := 66) (L' := [(2, ((v0 : Nat) : Int)), (0, v1), (0, v2), (0, v3), (0, v4), (0, w0)]) (st' := [(0, v4), (0, v2), (2, ((v0 : Nat) : Int)), (0, v3)]) (h' := (G, ρ, m)) hm rfl cjn ?_
      obtain ⟨q20, h20, e⟩ := bn_s e
      refine Ex_callm (z := 171) (na := 3) (ck := 15) (as := [(2, ((v0 : Nat) : Int)), (0, v2), (0, v4)]) (rest := [(0, v3)]) (E0 := [(2, ((v0 : Nat) : Int)), (0, v2), (0, v4)]) (v := some (0, q20)) (h1 := (G, ρ, m)) hm rfl (by omega) ⟨Nat.le_of_ble_eq_true rfl, Nat.le_of_ble_eq_true rfl⟩ (rc2 rfl g17) rfl rfl ml_171 rfl (Nat.le_of_ble_eq_true rfl) (tf171 h20 (by omega)) ?_
      show Ex d 176 67 [(2, ((v0 : Nat) : Int)), (0, v1), (0, v2), (0, v3), (0, v4), (0, w0)] [(0, q20), (0, v3)] (G, ρ, m) rr
      by_cases c21 : q20 = 0
      · replace e := it_p e c21
        refine Ex_if1f (c := 1) (tgt := 70) hm rfl (bf1 c21) ?_
        refine Ex_run 6 (i' := 13) (L' := [(2, ((v0 : Nat) : Int)), (0, v1), (0, v2), (0, (g_add v3 1)), (0, (w32 (v4 + 1))), (0, w0)]) (st' := []) (h' := (G, ρ, m)) hm rfl (cjc (Nat.le_of_ble_eq_true rfl) cjn) ?_
        cases e
        exact hk _
      · replace e := it_n e c21
        refine Ex_if1t (c := 1) (tgt := 70) hm rfl (bt1 c21) ?_
        refine Ex_run 5 (i' := 13) (L' := [(2, ((v0 : Nat) : Int)), (0, v1), (0, v2), (0, (g_add v3 0)), (0, (w32 (v4 + 1))), (0, w0)]) (st' := []) (h' := (G, ρ, m)) hm rfl (cjc (Nat.le_of_ble_eq_true rfl) cjn) ?_
        cases e
        exact hk _
    · replace e := it_n e c19
      refine Ex_if1t (c := 1) (tgt := 70) hm rfl (bt1 c19) ?_
      refine Ex_run 5 (i' := 13) (L' := [(2, ((v0 : Nat) : Int)), (0, v1), (0, v2), (0, (g_add v3 0)), (0, (w32 (v4 + 1))), (0, w0)]) (st' := []) (h' := (G, ρ, m)) hm rfl (cjc (Nat.le_of_ble_eq_true rfl) cjn) ?_
      cases e
      exact hk _
theorem tf176_b13 {G : Gg} {ρ : Rg} {d : Nat} {v0 : Nat} {v1 : Int} {v2 : Int} {m : Sg} {s : Int × Int} {x : (Int × Int) ⊕ (Int)} (e : f176_b13 G ρ v0 v1 v2 m s = some x) (hd : 1 ≤ d) (rr : Option MV × Mh) (hk : (DS (e176_13 G ρ d v0 v1 v2 m) (Bpi G ρ m)) x rr) : e176_13 G ρ d v0 v1 v2 m s rr := by
  unfold f176_b13 at e
  have hm := mi_176
  show ∀ (j5 : MV), Ex d 176 13 [(2, ((v0 : Nat) : Int)), (0, v1), (0, v2), (0, s.1), (0, s.2), j5] [] (G, ρ, m) rr
  intro j5
  obtain ⟨g6, e⟩ := gd_s e
  refine Ex_run 3 (i' := 16) (L' := [(2, ((v0 : Nat) : Int)), (0, v1), (0, v2), (0, s.1), (0, s.2), j5]) (st' := [(0, (m v0 1)), (0, s.2)]) (h' := (G, ρ, m)) hm rfl (cjc (gk_b g6) cjn) ?_
  by_cases c7 : s.2 < (m v0 1)
  · replace e := it_p e c7
    refine Ex_if2f (c := 3) (tgt := 75) hm rfl (bf3 c7) ?_
    obtain ⟨g8, e⟩ := gd_s e
    obtain ⟨g9, e⟩ := gd_s e
    obtain ⟨g10, e⟩ := gd_s e
    refine Ex_run 16 (i' := 33) (L' := [(2, ((v0 : Nat) : Int)), (0, v1), (0, v2), (0, s.1), (0, s.2), j5]) (st' := [(0, (m (ρ v0 2) (g_add (g_mul 10 v2) s.2))), (0, (m (ρ v0 2) (g_add (g_mul 10 v1) s.2)))]) (h' := (G, ρ, m)) hm rfl (cjc (gk_b g6) (cjc (gk_b g8) (cjc g9 (cjc (gk_b g6) (cjc (gk_b g8) (cjc g10 cjn)))))) ?_
    by_cases c11 : (m (ρ v0 2) (g_add (g_mul 10 v1) s.2)) = (m (ρ v0 2) (g_add (g_mul 10 v2) s.2))
    · replace e := it_p e c11
      refine Ex_if2f (c := 1) (tgt := 51) hm rfl (bf1 c11) ?_
      obtain ⟨g12, e⟩ := gd_s e
      obtain ⟨g13, e⟩ := gd_s e
      obtain ⟨g14, e⟩ := gd_s e
      refine Ex_run 16 (i' := 50) (L' := [(2, ((v0 : Nat) : Int)), (0, v1), (0, v2), (0, s.1), (0, s.2), j5]) (st' := [(0, (m (ρ v0 3) (g_add (g_mul 10 v2) s.2))), (0, (m (ρ v0 3) (g_add (g_mul 10 v1) s.2)))]) (h' := (G, ρ, m)) hm rfl (cjc (gk_b g6) (cjc (gk_b g12) (cjc g13 (cjc (gk_b g6) (cjc (gk_b g12) (cjc g14 cjn)))))) ?_
      by_cases c15 : (m (ρ v0 3) (g_add (g_mul 10 v1) s.2)) = (m (ρ v0 3) (g_add (g_mul 10 v2) s.2))
      · replace e := it_p e c15
        refine Ex_if2t (c := 0) (tgt := 53) hm rfl (bt0 c15) ?_
        refine Ex_run 1 (i' := 54) (L' := [(2, ((v0 : Nat) : Int)), (0, v1), (0, v2), (0, s.1), (0, s.2), j5]) (st' := [(0, 0)]) (h' := (G, ρ, m)) hm rfl cjn ?_
        exact tf176_54 e hd rr hk _
      · replace e := it_n e c15
        refine Ex_if2f (c := 0) (tgt := 53) hm rfl (bf0 c15) ?_
        refine Ex_run 2 (i' := 54) (L' := [(2, ((v0 : Nat) : Int)), (0, v1), (0, v2), (0, s.1), (0, s.2), j5]) (st' := [(0, 1)]) (h' := (G, ρ, m)) hm rfl cjn ?_
        exact tf176_54 e hd rr hk _
    · replace e := it_n e c11
      refine Ex_if2t (c := 1) (tgt := 51) hm rfl (bt1 c11) ?_
      refine Ex_run 2 (i' := 54) (L' := [(2, ((v0 : Nat) : Int)), (0, v1), (0, v2), (0, s.1), (0, s.2), j5]) (st' := [(0, 1)]) (h' := (G, ρ, m)) hm rfl cjn ?_
      exact tf176_54 e hd rr hk _
  · replace e := it_n e c7
    refine Ex_if2t (c := 3) (tgt := 75) hm rfl (bt3 c7) ?_
    obtain ⟨x, e, hx⟩ := xr_s e
    replace hk : (Bpi G ρ m) x rr := by rw [hx] at hk; exact hk
    refine Ex_run 1 (i' := 76) (L' := [(2, ((v0 : Nat) : Int)), (0, v1), (0, v2), (0, s.1), (0, s.2), j5]) (st' := [(0, s.1)]) (h' := (G, ρ, m)) hm rfl cjn ?_
    cases e
    cases hk
    exact Ex_ret (k := 1) hm rfl ⟨_, rfl, rfl⟩
theorem tf176 {G : Gg} {ρ : Rg} {d : Nat} {v0 : Nat} {v1 : Int} {v2 : Int} {m : Sg} {x : Int} (e : f176 G ρ v0 v1 v2 m = some x) (hd : 1 ≤ d) : Ex d 176 0 [(2, ((v0 : Nat) : Int)), (0, v1), (0, v2), (9, 0), (9, 0), (9, 0)] [] (G, ρ, m) (some (0, x), (G, ρ, m)) := by
  unfold f176 at e
  have hm := mi_176
  generalize hk : (some (0, x), (G, ρ, m)) = rr
  replace hk : (Bpi G ρ m) x rr := hk.symm
  obtain ⟨g1, e⟩ := gd_s e
  obtain ⟨g2, e⟩ := gd_s e
  obtain ⟨g3, e⟩ := gd_s e
  obtain ⟨g4, e⟩ := gd_s e
  refine Ex_run 9 (i' := 9) (L' := [(2, ((v0 : Nat) : Int)), (0, v1), (0, v2), (9, 0), (9, 0), (9, 0)]) (st' := [(0, (g_xor (m (ρ v0 4) v1) (m (ρ v0 4) v2)))]) (h' := (G, ρ, m)) hm rfl (cjc (gk_b g1) (cjc (gk_b g2) (cjc g3 (cjc (gk_b g1) (cjc (gk_b g2) (cjc g4 cjn)))))) ?_
  obtain ⟨q5, h5, e⟩ := bn_s e
  refine Ex_callm (z := 169) (na := 1) (ck := 0) (as := [(0, (g_xor (m (ρ v0 4) v1) (m (ρ v0 4) v2)))]) (rest := []) (E0 := [(0, (g_xor (m (ρ v0 4) v1) (m (ρ v0 4) v2))), (9, 0), (9, 0)]) (v := some (0, q5)) (h1 := (G, ρ, m)) hm rfl (by omega) ⟨Nat.le_of_ble_eq_true rfl, Nat.le_of_ble_eq_true rfl⟩ (trivial) rfl rfl ml_169 rfl (Nat.le_of_ble_eq_true rfl) (tf169 h5 (by omega)) ?_
  show Ex d 176 10 [(2, ((v0 : Nat) : Int)), (0, v1), (0, v2), (9, 0), (9, 0), (9, 0)] [(0, q5)] (G, ρ, m) rr
  refine Ex_run 3 (i' := 13) (L' := [(2, ((v0 : Nat) : Int)), (0, v1), (0, v2), (0, q5), (0, 0), (9, 0)]) (st' := []) (h' := (G, ρ, m)) hm rfl (cjc (Nat.le_of_ble_eq_true rfl) (cjc (Nat.le_of_ble_eq_true rfl) cjn)) ?_
  exact (Ex_lp (A := e176_13 G ρ d v0 v1 v2 m ) (B := (Bpi G ρ m)) (fun s x e rr hk => tf176_b13 e hd rr hk) FU _ _ e rr hk) _
theorem tf177 {G : Gg} {ρ : Rg} {d : Nat} {v0 : Nat} {v1 : Int} {v2 : Int} {m : Sg} {x : Int} (e : f177 G ρ v0 v1 v2 m = some x) (hd : 2 ≤ d) : Ex d 177 0 [(2, ((v0 : Nat) : Int)), (0, v1), (0, v2)] [] (G, ρ, m) (some (0, x), (G, ρ, m)) := by
  unfold f177 at e
  have hm := mi_177
  generalize hk : (some (0, x), (G, ρ, m)) = rr
  replace hk : (Bpi G ρ m) x rr := hk.symm
  refine Ex_run 2 (i' := 2) (L' := [(2, ((v0 : Nat) : Int)), (0, v1), (0, v2)]) (st' := [(0, v1), (2, ((v0 : Nat) : Int))]) (h' := (G, ρ, m)) hm rfl cjn ?_
  obtain ⟨g1, e⟩ := gd_s e
  obtain ⟨q2, h2, e⟩ := bn_s e
  refine Ex_callm (z := 168) (na := 2) (ck := 15) (as := [(2, ((v0 : Nat) : Int)), (0, v1)]) (rest := []) (E0 := [(2, ((v0 : Nat) : Int)), (0, v1)]) (v := some (0, q2)) (h1 := (G, ρ, m)) hm rfl (by omega) ⟨Nat.le_of_ble_eq_true rfl, Nat.le_of_ble_eq_true rfl⟩ (rc2 rfl g1) rfl rfl ml_168 rfl (Nat.le_of_ble_eq_true rfl) (tf168 h2 (by omega)) ?_
  show Ex d 177 3 [(2, ((v0 : Nat) : Int)), (0, v1), (0, v2)] [(0, q2)] (G, ρ, m) rr
  by_cases c3 : q2 = 0
  · replace e := it_p e c3
    refine Ex_if1t (c := 0) (tgt := 13) hm rfl (bt0 c3) ?_
    refine Ex_run 1 (i' := 14) (L' := [(2, ((v0 : Nat) : Int)), (0, v1), (0, v2)]) (st' := [(0, (-2))]) (h' := (G, ρ, m)) hm rfl cjn ?_
    cases e
    cases hk
    exact Ex_ret (k := 1) hm rfl ⟨_, rfl, rfl⟩
  · replace e := it_n e c3
    refine Ex_if1f (c := 0) (tgt := 13) hm rfl (bf0 c3) ?_
    refine Ex_run 2 (i' := 6) (L' := [(2, ((v0 : Nat) : Int)), (0, v1), (0, v2)]) (st' := [(0, v2), (2, ((v0 : Nat) : Int))]) (h' := (G, ρ, m)) hm rfl cjn ?_
    obtain ⟨q4, h4, e⟩ := bn_s e
    refine Ex_callm (z := 168) (na := 2) (ck := 15) (as := [(2, ((v0 : Nat) : Int)), (0, v2)]) (rest := []) (E0 := [(2, ((v0 : Nat) : Int)), (0, v2)]) (v := some (0, q4)) (h1 := (G, ρ, m)) hm rfl (by omega) ⟨Nat.le_of_ble_eq_true rfl, Nat.le_of_ble_eq_true rfl⟩ (rc2 rfl g1) rfl rfl ml_168 rfl (Nat.le_of_ble_eq_true rfl) (tf168 h4 (by omega)) ?_
    show Ex d 177 7 [(2, ((v0 : Nat) : Int)), (0, v1), (0, v2)] [(0, q4)] (G, ρ, m) rr
    by_cases c5 : q4 = 0
    · replace e := it_p e c5
      refine Ex_if1t (c := 0) (tgt := 13) hm rfl (bt0 c5) ?_
      refine Ex_run 1 (i' := 14) (L' := [(2, ((v0 : Nat) : Int)), (0, v1), (0, v2)]) (st' := [(0, (-2))]) (h' := (G, ρ, m)) hm rfl cjn ?_
      cases e
      cases hk
      exact Ex_ret (k := 1) hm rfl ⟨_, rfl, rfl⟩
    · replace e := it_n e c5
      refine Ex_if1f (c := 0) (tgt := 13) hm rfl (bf0 c5) ?_
      refine Ex_run 3 (i' := 11) (L' := [(2, ((v0 : Nat) : Int)), (0, v1), (0, v2)]) (st' := [(0, v2), (0, v1), (2, ((v0 : Nat) : Int))]) (h' := (G, ρ, m)) hm rfl cjn ?_
      obtain ⟨q6, h6, e⟩ := bn_s e
      refine Ex_callm (z := 176) (na := 3) (ck := 15) (as := [(2, ((v0 : Nat) : Int)), (0, v1), (0, v2)]) (rest := []) (E0 := [(2, ((v0 : Nat) : Int)), (0, v1), (0, v2), (9, 0), (9, 0), (9, 0)]) (v := some (0, q6)) (h1 := (G, ρ, m)) hm rfl (by omega) ⟨Nat.le_of_ble_eq_true rfl, Nat.le_of_ble_eq_true rfl⟩ (rc2 rfl g1) rfl rfl ml_176 rfl (Nat.le_of_ble_eq_true rfl) (tf176 h6 (by omega)) ?_
      show Ex d 177 12 [(2, ((v0 : Nat) : Int)), (0, v1), (0, v2)] [(0, q6)] (G, ρ, m) rr
      refine Ex_run 1 (i' := 14) (L' := [(2, ((v0 : Nat) : Int)), (0, v1), (0, v2)]) (st' := [(0, q6)]) (h' := (G, ρ, m)) hm rfl cjn ?_
      cases e
      cases hk
      exact Ex_ret (k := 1) hm rfl ⟨_, rfl, rfl⟩
theorem tf178_b4 {G : Gg} {ρ : Rg} {d : Nat} {v0 : Nat} {v1 : Int} {m : Sg} {s : Int × Int} {x : (Int × Int) ⊕ (Int)} (e : f178_b4 G ρ v0 v1 m s = some x) (hd : 2 ≤ d) (rr : Option MV × Mh) (hk : (DS (e178_4 G ρ d v0 v1 m) (Bpi G ρ m)) x rr) : e178_4 G ρ d v0 v1 m s rr := by
  unfold f178_b4 at e
  have hm := mi_178
  show Ex d 178 4 [(2, ((v0 : Nat) : Int)), (0, v1), (0, s.1), (0, s.2)] [] (G, ρ, m) rr
  obtain ⟨g1, e⟩ := gd_s e
  refine Ex_run 3 (i' := 7) (L' := [(2, ((v0 : Nat) : Int)), (0, v1), (0, s.1), (0, s.2)]) (st' := [(0, (m v0 15)), (0, s.2)]) (h' := (G, ρ, m)) hm rfl (cjc (gk_b g1) cjn) ?_
  by_cases c2 : s.2 < (m v0 15)
  · replace e := it_p e c2
    refine Ex_if2f (c := 3) (tgt := 33) hm rfl (bf3 c2) ?_
    obtain ⟨g3, e⟩ := gd_s e
    obtain ⟨g4, e⟩ := gd_s e
    obtain ⟨g5, e⟩ := gd_s e
    refine Ex_run 8 (i' := 16) (L' := [(2, ((v0 : Nat) : Int)), (0, v1), (0, s.1), (0, s.2)]) (st' := [(0, (m (ρ v0 16) v1)), (0, (m (ρ v0 16) s.2))]) (h' := (G, ρ, m)) hm rfl (cjc (gk_b g1) (cjc (gk_b g3) (cjc g4 (cjc (gk_b g1) (cjc (gk_b g3) (cjc g5 cjn)))))) ?_
    by_cases c6 : (m (ρ v0 16) s.2) < (m (ρ v0 16) v1)
    · replace e := it_p e c6
      refine Ex_if2f (c := 3) (tgt := 31) hm rfl (bf3 c6) ?_
      refine Ex_run 2 (i' := 19) (L' := [(2, ((v0 : Nat) : Int)), (0, v1), (0, s.1), (0, s.2)]) (st' := [(0, (-1)), (0, s.1)]) (h' := (G, ρ, m)) hm rfl cjn ?_
      by_cases c7 : s.1 = (-1)
      · replace e := it_p e c7
        refine Ex_if2t (c := 0) (tgt := 29) hm rfl (bt0 c7) ?_
        refine Ex_run 4 (i' := 4) (L' := [(2, ((v0 : Nat) : Int)), (0, v1), (0, s.2), (0, (w32 (s.2 + 1)))]) (st' := []) (h' := (G, ρ, m)) hm rfl (cjc (Nat.le_of_ble_eq_true rfl) cjn) ?_
        cases e
        exact hk
      · replace e := it_n e c7
        refine Ex_if2f (c := 0) (tgt := 29) hm rfl (bf0 c7) ?_
        refine Ex_run 3 (i' := 23) (L' := [(2, ((v0 : Nat) : Int)), (0, v1), (0, s.1), (0, s.2)]) (st' := [(0, v1), (0, s.2), (2, ((v0 : Nat) : Int))]) (h' := (G, ρ, m)) hm rfl cjn ?_
        obtain ⟨q8, h8, e⟩ := bn_s e
        refine Ex_callm (z := 176) (na := 3) (ck := 15) (as := [(2, ((v0 : Nat) : Int)), (0, s.2), (0, v1)]) (rest := []) (E0 := [(2, ((v0 : Nat) : Int)), (0, s.2), (0, v1), (9, 0), (9, 0), (9, 0)]) (v := some (0, q8)) (h1 := (G, ρ, m)) hm rfl (by omega) ⟨Nat.le_of_ble_eq_true rfl, Nat.le_of_ble_eq_true rfl⟩ (rc2 rfl g1) rfl rfl ml_176 rfl (Nat.le_of_ble_eq_true rfl) (tf176 h8 (by omega)) ?_
        show Ex d 178 24 [(2, ((v0 : Nat) : Int)), (0, v1), (0, s.1), (0, s.2)] [(0, q8)] (G, ρ, m) rr
        refine Ex_run 3 (i' := 27) (L' := [(2, ((v0 : Nat) : Int)), (0, v1), (0, s.1), (0, s.2)]) (st' := [(0, v1), (0, s.1), (2, ((v0 : Nat) : Int)), (0, q8)]) (h' := (G, ρ, m)) hm rfl cjn ?_
        obtain ⟨q9, h9, e⟩ := bn_s e
        refine Ex_callm (z := 176) (na := 3) (ck := 15) (as := [(2, ((v0 : Nat) : Int)), (0, s.1), (0, v1)]) (rest := [(0, q8)]) (E0 := [(2, ((v0 : Nat) : Int)), (0, s.1), (0, v1), (9, 0), (9, 0), (9, 0)]) (v := some (0, q9)) (h1 := (G, ρ, m)) hm rfl (by omega) ⟨Nat.le_of_ble_eq_true rfl, Nat.le_of_ble_eq_true rfl⟩ (rc2 rfl g1) rfl rfl ml_176 rfl (Nat.le_of_ble_eq_true rfl) (tf176 h9 (by omega)) ?_
        show Ex d 178 28 [(2, ((v0 : Nat) : Int)), (0, v1), (0, s.1), (0, s.2)] [(0, q9), (0, q8)] (G, ρ, m) rr
        by_cases c10 : q8 < q9
        · replace e := it_p e c10
          refine Ex_if2f (c := 3) (tgt := 31) hm rfl (bf3 c10) ?_
          refine Ex_run 4 (i' := 4) (L' := [(2, ((v0 : Nat) : Int)), (0, v1), (0, s.2), (0, (w32 (s.2 + 1)))]) (st' := []) (h' := (G, ρ, m)) hm rfl (cjc (Nat.le_of_ble_eq_true rfl) cjn) ?_
          cases e
          exact hk
        · replace e := it_n e c10
          refine Ex_if2t (c := 3) (tgt := 31) hm rfl (bt3 c10) ?_
          refine Ex_run 2 (i' := 4) (L' := [(2, ((v0 : Nat) : Int)), (0, v1), (0, s.1), (0, (w32 (s.2 + 1)))]) (st' := []) (h' := (G, ρ, m)) hm rfl cjn ?_
          cases e
          exact hk
    · replace e := it_n e c6
      refine Ex_if2t (c := 3) (tgt := 31) hm rfl (bt3 c6) ?_
      refine Ex_run 2 (i' := 4) (L' := [(2, ((v0 : Nat) : Int)), (0, v1), (0, s.1), (0, (w32 (s.2 + 1)))]) (st' := []) (h' := (G, ρ, m)) hm rfl cjn ?_
      cases e
      exact hk
  · replace e := it_n e c2
    refine Ex_if2t (c := 3) (tgt := 33) hm rfl (bt3 c2) ?_
    obtain ⟨x, e, hx⟩ := xr_s e
    replace hk : (Bpi G ρ m) x rr := by rw [hx] at hk; exact hk
    refine Ex_run 1 (i' := 34) (L' := [(2, ((v0 : Nat) : Int)), (0, v1), (0, s.1), (0, s.2)]) (st' := [(0, s.1)]) (h' := (G, ρ, m)) hm rfl cjn ?_
    cases e
    cases hk
    exact Ex_ret (k := 1) hm rfl ⟨_, rfl, rfl⟩
theorem tf178 {G : Gg} {ρ : Rg} {d : Nat} {v0 : Nat} {v1 : Int} {m : Sg} {x : Int} (e : f178 G ρ v0 v1 m = some x) (hd : 2 ≤ d) : Ex d 178 0 [(2, ((v0 : Nat) : Int)), (0, v1), (9, 0), (9, 0)] [] (G, ρ, m) (some (0, x), (G, ρ, m)) := by
  unfold f178 at e
  have hm := mi_178
  generalize hk : (some (0, x), (G, ρ, m)) = rr
  replace hk : (Bpi G ρ m) x rr := hk.symm
  refine Ex_run 4 (i' := 4) (L' := [(2, ((v0 : Nat) : Int)), (0, v1), (0, (-1)), (0, 0)]) (st' := []) (h' := (G, ρ, m)) hm rfl (cjc (Nat.le_of_ble_eq_true rfl) (cjc (Nat.le_of_ble_eq_true rfl) cjn)) ?_
  exact (Ex_lp (A := e178_4 G ρ d v0 v1 m ) (B := (Bpi G ρ m)) (fun s x e rr hk => tf178_b4 e hd rr hk) FU _ _ e rr hk)
theorem tf179 {G : Gg} {ρ : Rg} {d : Nat} {v0 : Nat} {v1 : Int} {m : Sg} {x : Int} (e : f179 G ρ v0 v1 m = some x) (hd : 3 ≤ d) : Ex d 179 0 [(2, ((v0 : Nat) : Int)), (0, v1)] [] (G, ρ, m) (some (0, x), (G, ρ, m)) := by
  unfold f179 at e
  have hm := mi_179
  generalize hk : (some (0, x), (G, ρ, m)) = rr
  replace hk : (Bpi G ρ m) x rr := hk.symm
  refine Ex_run 2 (i' := 2) (L' := [(2, ((v0 : Nat) : Int)), (0, v1)]) (st' := [(0, v1), (2, ((v0 : Nat) : Int))]) (h' := (G, ρ, m)) hm rfl cjn ?_
  obtain ⟨g1, e⟩ := gd_s e
  obtain ⟨q2, h2, e⟩ := bn_s e
  refine Ex_callm (z := 168) (na := 2) (ck := 15) (as := [(2, ((v0 : Nat) : Int)), (0, v1)]) (rest := []) (E0 := [(2, ((v0 : Nat) : Int)), (0, v1)]) (v := some (0, q2)) (h1 := (G, ρ, m)) hm rfl (by omega) ⟨Nat.le_of_ble_eq_true rfl, Nat.le_of_ble_eq_true rfl⟩ (rc2 rfl g1) rfl rfl ml_168 rfl (Nat.le_of_ble_eq_true rfl) (tf168 h2 (by omega)) ?_
  show Ex d 179 3 [(2, ((v0 : Nat) : Int)), (0, v1)] [(0, q2)] (G, ρ, m) rr
  by_cases c3 : q2 = 0
  · replace e := it_p e c3
    refine Ex_if1t (c := 0) (tgt := 8) hm rfl (bt0 c3) ?_
    refine Ex_run 1 (i' := 9) (L' := [(2, ((v0 : Nat) : Int)), (0, v1)]) (st' := [(0, (-2))]) (h' := (G, ρ, m)) hm rfl cjn ?_
    cases e
    cases hk
    exact Ex_ret (k := 1) hm rfl ⟨_, rfl, rfl⟩
  · replace e := it_n e c3
    refine Ex_if1f (c := 0) (tgt := 8) hm rfl (bf0 c3) ?_
    refine Ex_run 2 (i' := 6) (L' := [(2, ((v0 : Nat) : Int)), (0, v1)]) (st' := [(0, v1), (2, ((v0 : Nat) : Int))]) (h' := (G, ρ, m)) hm rfl cjn ?_
    obtain ⟨q4, h4, e⟩ := bn_s e
    refine Ex_callm (z := 178) (na := 2) (ck := 15) (as := [(2, ((v0 : Nat) : Int)), (0, v1)]) (rest := []) (E0 := [(2, ((v0 : Nat) : Int)), (0, v1), (9, 0), (9, 0)]) (v := some (0, q4)) (h1 := (G, ρ, m)) hm rfl (by omega) ⟨Nat.le_of_ble_eq_true rfl, Nat.le_of_ble_eq_true rfl⟩ (rc2 rfl g1) rfl rfl ml_178 rfl (Nat.le_of_ble_eq_true rfl) (tf178 h4 (by omega)) ?_
    show Ex d 179 7 [(2, ((v0 : Nat) : Int)), (0, v1)] [(0, q4)] (G, ρ, m) rr
    refine Ex_run 1 (i' := 9) (L' := [(2, ((v0 : Nat) : Int)), (0, v1)]) (st' := [(0, q4)]) (h' := (G, ρ, m)) hm rfl cjn ?_
    cases e
    cases hk
    exact Ex_ret (k := 1) hm rfl ⟨_, rfl, rfl⟩
theorem tf180_b12 {G : Gg} {ρ : Rg} {d : Nat} {v0 : Nat} {v1 : Int} {m : Sg} {s : Int × Int} {x : (Int × Int) ⊕ (Int)} (e : f180_b12 G ρ v0 v1 m s = some x) (hd : 3 ≤ d) (rr : Option MV × Mh) (hk : (DS (e180_12 G ρ d v0 v1 m) (Bpi G ρ m)) x rr) : e180_12 G ρ d v0 v1 m s rr := by
  unfold f180_b12 at e
  have hm := mi_180
  show ∀ (j4 : MV), Ex d 180 12 [(2, ((v0 : Nat) : Int)), (0, v1), (0, s.1), (0, s.2), j4] [] (G, ρ, m) rr
  intro j4
  obtain ⟨g3, e⟩ := gd_s e
  refine Ex_run 3 (i' := 15) (L' := [(2, ((v0 : Nat) : Int)), (0, v1), (0, s.1), (0, s.2), j4]) (st' := [(0, (m v0 15)), (0, s.2)]) (h' := (G, ρ, m)) hm rfl (cjc (gk_b g3) cjn) ?_
  by_cases c4 : s.2 < (m v0 15)
  · replace e := it_p e c4
    refine Ex_if2f (c := 3) (tgt := 60) hm rfl (bf3 c4) ?_
    refine Ex_run 2 (i' := 18) (L' := [(2, ((v0 : Nat) : Int)), (0, v1), (0, s.1), (0, s.2), j4]) (st' := [(0, s.2), (2, ((v0 : Nat) : Int))]) (h' := (G, ρ, m)) hm rfl cjn ?_
    obtain ⟨q5, h5, e⟩ := bn_s e
    refine Ex_callm (z := 178) (na := 2) (ck := 15) (as := [(2, ((v0 : Nat) : Int)), (0, s.2)]) (rest := []) (E0 := [(2, ((v0 : Nat) : Int)), (0, s.2), (9, 0), (9, 0)]) (v := some (0, q5)) (h1 := (G, ρ, m)) hm rfl (by omega) ⟨Nat.le_of_ble_eq_true rfl, Nat.le_of_ble_eq_true rfl⟩ (rc2 rfl g3) rfl rfl ml_178 rfl (Nat.le_of_ble_eq_true rfl) (tf178 h5 (by omega)) ?_
    show Ex d 180 19 [(2, ((v0 : Nat) : Int)), (0, v1), (0, s.1), (0, s.2), j4] [(0, q5)] (G, ρ, m) rr
    refine Ex_run 3 (i' := 22) (L' := [(2, ((v0 : Nat) : Int)), (0, v1), (0, s.1), (0, s.2), (0, q5)]) (st' := [(0, (-1)), (0, q5)]) (h' := (G, ρ, m)) hm rfl (cjc (Nat.le_of_ble_eq_true rfl) cjn) ?_
    by_cases c6 : q5 = (-1)
    · replace e := it_p e c6
      refine Ex_if2f (c := 1) (tgt := 33) hm rfl (bf1 c6) ?_
      refine Ex_run 3 (i' := 26) (L' := [(2, ((v0 : Nat) : Int)), (0, v1), (0, s.1), (0, s.2), (0, q5)]) (st' := [(0, 2), (0, v1), (0, s.1)]) (h' := (G, ρ, m)) hm rfl cjn ?_
      by_cases c7 : v1 = 2
      · replace e := it_p e c7
        refine Ex_if2f (c := 1) (tgt := 29) hm rfl (bf1 c7) ?_
        refine Ex_run 7 (i' := 12) (L' := [(2, ((v0 : Nat) : Int)), (0, v1), (0, (g_add s.1 1)), (0, (w32 (s.2 + 1))), (0, q5)]) (st' := []) (h' := (G, ρ, m)) hm rfl (cjc (Nat.le_of_ble_eq_true rfl) cjn) ?_
        cases e
        exact hk _
      · replace e := it_n e c7
        refine Ex_if2t (c := 1) (tgt := 29) hm rfl (bt1 c7) ?_
        refine Ex_run 6 (i' := 12) (L' := [(2, ((v0 : Nat) : Int)), (0, v1), (0, (g_add s.1 0)), (0, (w32 (s.2 + 1))), (0, q5)]) (st' := []) (h' := (G, ρ, m)) hm rfl (cjc (Nat.le_of_ble_eq_true rfl) cjn) ?_
        cases e
        exact hk _
    · replace e := it_n e c6
      refine Ex_if2t (c := 1) (tgt := 33) hm rfl (bt1 c6) ?_
      refine Ex_run 2 (i' := 35) (L' := [(2, ((v0 : Nat) : Int)), (0, v1), (0, s.1), (0, s.2), (0, q5)]) (st' := [(0, v1), (0, s.1)]) (h' := (G, ρ, m)) hm rfl cjn ?_
      by_cases c8 : v1 = 0
      · replace e := it_p e c8
        refine Ex_if1f (c := 1) (tgt := 41) hm rfl (bf1 c8) ?_
        refine Ex_run 3 (i' := 39) (L' := [(2, ((v0 : Nat) : Int)), (0, v1), (0, s.1), (0, s.2), (0, q5)]) (st' := [(0, q5), (0, s.2), (2, ((v0 : Nat) : Int)), (0, s.1)]) (h' := (G, ρ, m)) hm rfl cjn ?_
        obtain ⟨q9, h9, e⟩ := bn_s e
        refine Ex_callm (z := 176) (na := 3) (ck := 15) (as := [(2, ((v0 : Nat) : Int)), (0, s.2), (0, q5)]) (rest := [(0, s.1)]) (E0 := [(2, ((v0 : Nat) : Int)), (0, s.2), (0, q5), (9, 0), (9, 0), (9, 0)]) (v := some (0, q9)) (h1 := (G, ρ, m)) hm rfl (by omega) ⟨Nat.le_of_ble_eq_true rfl, Nat.le_of_ble_eq_true rfl⟩ (rc2 rfl g3) rfl rfl ml_176 rfl (Nat.le_of_ble_eq_true rfl) (tf176 h9 (by omega)) ?_
        show Ex d 180 40 [(2, ((v0 : Nat) : Int)), (0, v1), (0, s.1), (0, s.2), (0, q5)] [(0, q9), (0, s.1)] (G, ρ, m) rr
        refine Ex_run 5 (i' := 12) (L' := [(2, ((v0 : Nat) : Int)), (0, v1), (0, (g_add s.1 q9)), (0, (w32 (s.2 + 1))), (0, q5)]) (st' := []) (h' := (G, ρ, m)) hm rfl (cjc (Nat.le_of_ble_eq_true rfl) cjn) ?_
        cases e
        exact hk _
      · replace e := it_n e c8
        refine Ex_if1t (c := 1) (tgt := 41) hm rfl (bt1 c8) ?_
        refine Ex_run 2 (i' := 43) (L' := [(2, ((v0 : Nat) : Int)), (0, v1), (0, s.1), (0, s.2), (0, q5)]) (st' := [(0, 1), (0, v1), (0, s.1)]) (h' := (G, ρ, m)) hm rfl cjn ?_
        by_cases c10 : v1 = 1
        · replace e := it_p e c10
          refine Ex_if2f (c := 1) (tgt := 55) hm rfl (bf1 c10) ?_
          obtain ⟨g11, e⟩ := gd_s e
          obtain ⟨g12, e⟩ := gd_s e
          obtain ⟨g13, e⟩ := gd_s e
          refine Ex_run 8 (i' := 52) (L' := [(2, ((v0 : Nat) : Int)), (0, v1), (0, s.1), (0, s.2), (0, q5)]) (st' := [(0, (m (ρ v0 17) q5)), (0, (m (ρ v0 17) s.2)), (0, s.1)]) (h' := (G, ρ, m)) hm rfl (cjc (gk_b g3) (cjc (gk_b g11) (cjc g12 (cjc (gk_b g3) (cjc (gk_b g11) (cjc g13 cjn)))))) ?_
          by_cases c14 : (m (ρ v0 17) s.2) = (m (ρ v0 17) q5)
          · replace e := it_p e c14
            refine Ex_if2t (c := 0) (tgt := 55) hm rfl (bt0 c14) ?_
            refine Ex_run 5 (i' := 12) (L' := [(2, ((v0 : Nat) : Int)), (0, v1), (0, (g_add s.1 0)), (0, (w32 (s.2 + 1))), (0, q5)]) (st' := []) (h' := (G, ρ, m)) hm rfl (cjc (Nat.le_of_ble_eq_true rfl) cjn) ?_
            cases e
            exact hk _
          · replace e := it_n e c14
            refine Ex_if2f (c := 0) (tgt := 55) hm rfl (bf0 c14) ?_
            refine Ex_run 6 (i' := 12) (L' := [(2, ((v0 : Nat) : Int)), (0, v1), (0, (g_add s.1 1)), (0, (w32 (s.2 + 1))), (0, q5)]) (st' := []) (h' := (G, ρ, m)) hm rfl (cjc (Nat.le_of_ble_eq_true rfl) cjn) ?_
            cases e
            exact hk _
        · replace e := it_n e c10
          refine Ex_if2t (c := 1) (tgt := 55) hm rfl (bt1 c10) ?_
          refine Ex_run 5 (i' := 12) (L' := [(2, ((v0 : Nat) : Int)), (0, v1), (0, (g_add s.1 0)), (0, (w32 (s.2 + 1))), (0, q5)]) (st' := []) (h' := (G, ρ, m)) hm rfl (cjc (Nat.le_of_ble_eq_true rfl) cjn) ?_
          cases e
          exact hk _
  · replace e := it_n e c4
    refine Ex_if2t (c := 3) (tgt := 60) hm rfl (bt3 c4) ?_
    obtain ⟨x, e, hx⟩ := xr_s e
    replace hk : (Bpi G ρ m) x rr := by rw [hx] at hk; exact hk
    refine Ex_run 1 (i' := 61) (L' := [(2, ((v0 : Nat) : Int)), (0, v1), (0, s.1), (0, s.2), j4]) (st' := [(0, s.1)]) (h' := (G, ρ, m)) hm rfl cjn ?_
    cases e
    cases hk
    exact Ex_ret (k := 1) hm rfl ⟨_, rfl, rfl⟩
theorem tf180 {G : Gg} {ρ : Rg} {d : Nat} {v0 : Nat} {v1 : Int} {m : Sg} {x : Int} (e : f180 G ρ v0 v1 m = some x) (hd : 3 ≤ d) : Ex d 180 0 [(2, ((v0 : Nat) : Int)), (0, v1), (9, 0), (9, 0), (9, 0)] [] (G, ρ, m) (some (0, x), (G, ρ, m)) := by
  unfold f180 at e
  have hm := mi_180
  generalize hk : (some (0, x), (G, ρ, m)) = rr
  replace hk : (Bpi G ρ m) x rr := hk.symm
  refine Ex_run 4 (i' := 4) (L' := [(2, ((v0 : Nat) : Int)), (0, v1), (9, 0), (9, 0), (9, 0)]) (st' := [(1, 2), (1, 0), (1, v1)]) (h' := (G, ρ, m)) hm rfl cjn ?_
  obtain ⟨q1, h1, e⟩ := bn_s e
  refine Ex_callm (z := 143) (na := 3) (ck := 0) (as := [(1, v1), (1, 0), (1, 2)]) (rest := []) (E0 := [(1, v1), (9, 0), (1, 0), (9, 0), (1, 2), (9, 0)]) (v := some (0, q1)) (h1 := (G, ρ, m)) hm rfl (by omega) ⟨Nat.le_of_ble_eq_true rfl, Nat.le_of_ble_eq_true rfl⟩ (trivial) rfl rfl ml_143 rfl (Nat.le_of_ble_eq_true rfl) (tf143 h1 (by omega)) ?_
  show Ex d 180 5 [(2, ((v0 : Nat) : Int)), (0, v1), (9, 0), (9, 0), (9, 0)] [(0, q1)] (G, ρ, m) rr
  by_cases c2 : q1 = 0
  · replace e := it_p e c2
    refine Ex_if1f (c := 1) (tgt := 8) hm rfl (bf1 c2) ?_
    refine Ex_run 1 (i' := 7) (L' := [(2, ((v0 : Nat) : Int)), (0, v1), (9, 0), (9, 0), (9, 0)]) (st' := [(0, (-2))]) (h' := (G, ρ, m)) hm rfl cjn ?_
    cases e
    cases hk
    exact Ex_ret (k := 1) hm rfl ⟨_, rfl, rfl⟩
  · replace e := it_n e c2
    refine Ex_if1t (c := 1) (tgt := 8) hm rfl (bt1 c2) ?_
    refine Ex_run 4 (i' := 12) (L' := [(2, ((v0 : Nat) : Int)), (0, v1), (0, 0), (0, 0), (9, 0)]) (st' := []) (h' := (G, ρ, m)) hm rfl (cjc (Nat.le_of_ble_eq_true rfl) (cjc (Nat.le_of_ble_eq_true rfl) cjn)) ?_
    exact (Ex_lp (A := e180_12 G ρ d v0 v1 m ) (B := (Bpi G ρ m)) (fun s x e rr hk => tf180_b12 e hd rr hk) FU _ _ e rr hk) _
theorem tf181_49 {G : Gg} {ρ : Rg} {d : Nat} {v0 : Nat} {v1 : Int} {v2 : Int} {v3 : Int} {v4 : Int} {v5 : Int} {v6 : Int} {v7 : Int} {v8 : Int} {w0 : Int} {m : Sg} {x : (Int × Int) ⊕ ((Int × Int × Int) ⊕ (Int))} (e : f181_49 G ρ v0 v1 v2 v3 v4 v5 v6 v7 v8 w0 m = some x) (hd : 3 ≤ d) (rr : Option MV × Mh) (hk : (DS (e181_34 G ρ d v0 v1 v2 v3 v4 v5 v6 m) (DS (e181_27 G ρ d v0 v1 v2 v3 m) (Bpi G ρ m))) x rr) (j9 : MV) : Ex d 181 49 [(2, ((v0 : Nat) : Int)), (0, v1), (0, v2), (0, v3), (0, v4), (0, v5), (0, v6), (0, v7), (0, v8), j9] [(0, w0)] (G, ρ, m) rr := by
  unfold f181_49 at e
  have hm := mi_181
  refine Ex_run 3 (i' := 52) (L' := [(2, ((v0 : Nat) : Int)), (0, v1), (0, v2), (0, v3), (0, v4), (0, v5), (0, v6), (0, v7), (0, v8), (0, w0)]) (st' := [(0, w0), (0, v7)]) (h' := (G, ρ, m)) hm rfl (cjc (Nat.le_of_ble_eq_true rfl) cjn) ?_
  by_cases c13 : w0 = 0
  · replace e := it_p e c13
    refine Ex_if1t (c := 0) (tgt := 70) hm rfl (bt0 c13) ?_
    refine Ex_run 5 (i' := 34) (L' := [(2, ((v0 : Nat) : Int)), (0, v1), (0, v2), (0, v3), (0, v4), (0, v5), (0, v6), (0, (g_add v7 0)), (0, (w32 (v8 + 1))), (0, w0)]) (st' := []) (h' := (G, ρ, m)) hm rfl (cjc (Nat.le_of_ble_eq_true rfl) cjn) ?_
    cases e
    exact hk _
  · replace e := it_n e c13
    refine Ex_if1f (c := 0) (tgt := 70) hm rfl (bf0 c13) ?_
    refine Ex_run 3 (i' := 56) (L' := [(2, ((v0 : Nat) : Int)), (0, v1), (0, v2), (0, v3), (0, v4), (0, v5), (0, v6), (0, v7), (0, v8), (0, w0)]) (st' := [(0, v2), (0, v8), (2, ((v0 : Nat) : Int)), (0, v7)]) (h' := (G, ρ, m)) hm rfl cjn ?_
    obtain ⟨g14, e⟩ := gd_s e
    obtain ⟨q15, h15, e⟩ := bn_s e
    refine Ex_callm (z := 171) (na := 3) (ck := 15) (as := [(2, ((v0 : Nat) : Int)), (0, v8), (0, v2)]) (rest := [(0, v7)]) (E0 := [(2, ((v0 : Nat) : Int)), (0, v8), (0, v2)]) (v := some (0, q15)) (h1 := (G, ρ, m)) hm rfl (by omega) ⟨Nat.le_of_ble_eq_true rfl, Nat.le_of_ble_eq_true rfl⟩ (rc2 rfl g14) rfl rfl ml_171 rfl (Nat.le_of_ble_eq_true rfl) (tf171 h15 (by omega)) ?_
    show Ex d 181 57 [(2, ((v0 : Nat) : Int)), (0, v1), (0, v2), (0, v3), (0, v4), (0, v5), (0, v6), (0, v7), (0, v8), (0, w0)] [(0, q15), (0, v7)] (G, ρ, m) rr
    by_cases c16 : q15 = 0
    · replace e := it_p e c16
      refine Ex_if1f (c := 1) (tgt := 70) hm rfl (bf1 c16) ?_
      obtain ⟨g17, e⟩ := gd_s e
      obtain ⟨g18, e⟩ := gd_s e
      refine Ex_run 9 (i' := 67) (L' := [(2, ((v0 : Nat) : Int)), (0, v1), (0, v2), (0, v3), (0, v4), (0, v5), (0, v6), (0, v7), (0, v8), (0, w0)]) (st' := [(0, v6), (0, (m (ρ v0 2) (g_add (g_mul 10 v8) v2))), (0, v7)]) (h' := (G, ρ, m)) hm rfl (cjc (gk_b g14) (cjc (gk_b g17) (cjc g18 cjn))) ?_
      by_cases c19 : (m (ρ v0 2) (g_add (g_mul 10 v8) v2)) = v6
      · replace e := it_p e c19
        refine Ex_if2t (c := 0) (tgt := 70) hm rfl (bt0 c19) ?_
        refine Ex_run 5 (i' := 34) (L' := [(2, ((v0 : Nat) : Int)), (0, v1), (0, v2), (0, v3), (0, v4), (0, v5), (0, v6), (0, (g_add v7 0)), (0, (w32 (v8 + 1))), (0, w0)]) (st' := []) (h' := (G, ρ, m)) hm rfl (cjc (Nat.le_of_ble_eq_true rfl) cjn) ?_
        cases e
        exact hk _
      · replace e := it_n e c19
        refine Ex_if2f (c := 0) (tgt := 70) hm rfl (bf0 c19) ?_
        refine Ex_run 6 (i' := 34) (L' := [(2, ((v0 : Nat) : Int)), (0, v1), (0, v2), (0, v3), (0, v4), (0, v5), (0, v6), (0, (g_add v7 1)), (0, (w32 (v8 + 1))), (0, w0)]) (st' := []) (h' := (G, ρ, m)) hm rfl (cjc (Nat.le_of_ble_eq_true rfl) cjn) ?_
        cases e
        exact hk _
    · replace e := it_n e c16
      refine Ex_if1t (c := 1) (tgt := 70) hm rfl (bt1 c16) ?_
      refine Ex_run 5 (i' := 34) (L' := [(2, ((v0 : Nat) : Int)), (0, v1), (0, v2), (0, v3), (0, v4), (0, v5), (0, v6), (0, (g_add v7 0)), (0, (w32 (v8 + 1))), (0, w0)]) (st' := []) (h' := (G, ρ, m)) hm rfl (cjc (Nat.le_of_ble_eq_true rfl) cjn) ?_
      cases e
      exact hk _
theorem tf181_b34 {G : Gg} {ρ : Rg} {d : Nat} {v0 : Nat} {v1 : Int} {v2 : Int} {v3 : Int} {v4 : Int} {v5 : Int} {v6 : Int} {m : Sg} {s : Int × Int} {x : (Int × Int) ⊕ ((Int × Int × Int) ⊕ (Int))} (e : f181_b34 G ρ v0 v1 v2 v3 v4 v5 v6 m s = some x) (hd : 3 ≤ d) (rr : Option MV × Mh) (hk : (DS (e181_34 G ρ d v0 v1 v2 v3 v4 v5 v6 m) (DS (e181_27 G ρ d v0 v1 v2 v3 m) (Bpi G ρ m))) x rr) : e181_34 G ρ d v0 v1 v2 v3 v4 v5 v6 m s rr := by
  unfold f181_b34 at e
  have hm := mi_181
  show ∀ (j9 : MV), Ex d 181 34 [(2, ((v0 : Nat) : Int)), (0, v1), (0, v2), (0, v3), (0, v4), (0, v5), (0, v6), (0, s.1), (0, s.2), j9] [] (G, ρ, m) rr
  intro j9
  obtain ⟨g10, e⟩ := gd_s e
  refine Ex_run 3 (i' := 37) (L' := [(2, ((v0 : Nat) : Int)), (0, v1), (0, v2), (0, v3), (0, v4), (0, v5), (0, v6), (0, s.1), (0, s.2), j9]) (st' := [(0, (m v0 15)), (0, s.2)]) (h' := (G, ρ, m)) hm rfl (cjc (gk_b g10) cjn) ?_
  by_cases c11 : s.2 < (m v0 15)
  · replace e := it_p e c11
    refine Ex_if2f (c := 3) (tgt := 75) hm rfl (bf3 c11) ?_
    refine Ex_run 2 (i' := 40) (L' := [(2, ((v0 : Nat) : Int)), (0, v1), (0, v2), (0, v3), (0, v4), (0, v5), (0, v6), (0, s.1), (0, s.2), j9]) (st' := [(0, v3), (0, s.2)]) (h' := (G, ρ, m)) hm rfl cjn ?_
    by_cases c12 : s.2 = v3
    · replace e := it_p e c12
      refine Ex_if2t (c := 0) (tgt := 46) hm rfl (bt0 c12) ?_
      refine Ex_run 2 (i' := 49) (L' := [(2, ((v0 : Nat) : Int)), (0, v1), (0, v2), (0, v3), (0, v4), (0, v5), (0, v6), (0, s.1), (0, s.2), j9]) (st' := [(0, 1)]) (h' := (G, ρ, m)) hm rfl cjn ?_
      exact tf181_49 e hd rr hk _
    · replace e := it_n e c12
      refine Ex_if2f (c := 0) (tgt := 46) hm rfl (bf0 c12) ?_
      refine Ex_run 2 (i' := 43) (L' := [(2, ((v0 : Nat) : Int)), (0, v1), (0, v2), (0, v3), (0, v4), (0, v5), (0, v6), (0, s.1), (0, s.2), j9]) (st' := [(0, s.2), (2, ((v0 : Nat) : Int))]) (h' := (G, ρ, m)) hm rfl cjn ?_
      obtain ⟨q20, h20, e⟩ := bn_s e
      refine Ex_callm (z := 178) (na := 2) (ck := 15) (as := [(2, ((v0 : Nat) : Int)), (0, s.2)]) (rest := []) (E0 := [(2, ((v0 : Nat) : Int)), (0, s.2), (9, 0), (9, 0)]) (v := some (0, q20)) (h1 := (G, ρ, m)) hm rfl (by omega) ⟨Nat.le_of_ble_eq_true rfl, Nat.le_of_ble_eq_true rfl⟩ (rc2 rfl g10) rfl rfl ml_178 rfl (Nat.le_of_ble_eq_true rfl) (tf178 h20 (by omega)) ?_
      show Ex d 181 44 [(2, ((v0 : Nat) : Int)), (0, v1), (0, v2), (0, v3), (0, v4), (0, v5), (0, v6), (0, s.1), (0, s.2), j9] [(0, q20)] (G, ρ, m) rr
      refine Ex_run 1 (i' := 45) (L' := [(2, ((v0 : Nat) : Int)), (0, v1), (0, v2), (0, v3), (0, v4), (0, v5), (0, v6), (0, s.1), (0, s.2), j9]) (st' := [(0, v1), (0, q20)]) (h' := (G, ρ, m)) hm rfl cjn ?_
      by_cases c21 : q20 = v1
      · replace e := it_p e c21
        refine Ex_if2f (c := 1) (tgt := 48) hm rfl (bf1 c21) ?_
        refine Ex_run 2 (i' := 49) (L' := [(2, ((v0 : Nat) : Int)), (0, v1), (0, v2), (0, v3), (0, v4), (0, v5), (0, v6), (0, s.1), (0, s.2), j9]) (st' := [(0, 1)]) (h' := (G, ρ, m)) hm rfl cjn ?_
        exact tf181_49 e hd rr hk _
      · replace e := it_n e c21
        refine Ex_if2t (c := 1) (tgt := 48) hm rfl (bt1 c21) ?_
        refine Ex_run 1 (i' := 49) (L' := [(2, ((v0 : Nat) : Int)), (0, v1), (0, v2), (0, v3), (0, v4), (0, v5), (0, v6), (0, s.1), (0, s.2), j9]) (st' := [(0, 0)]) (h' := (G, ρ, m)) hm rfl cjn ?_
        exact tf181_49 e hd rr hk _
  · replace e := it_n e c11
    refine Ex_if2t (c := 3) (tgt := 75) hm rfl (bt3 c11) ?_
    obtain ⟨x, e, hx⟩ := xr_s e
    replace hk : (DS (e181_27 G ρ d v0 v1 v2 v3 m) (Bpi G ρ m)) x rr := by rw [hx] at hk; exact hk
    refine Ex_run 2 (i' := 77) (L' := [(2, ((v0 : Nat) : Int)), (0, v1), (0, v2), (0, v3), (0, v4), (0, v5), (0, v6), (0, s.1), (0, s.2), j9]) (st' := [(0, v4), (0, s.1)]) (h' := (G, ρ, m)) hm rfl cjn ?_
    by_cases c22 : v4 < s.1
    · replace e := it_p e c22
      refine Ex_if2f (c := 5) (tgt := 79) hm rfl (bf5 c22) ?_
      refine Ex_run 3 (i' := 27) (L' := [(2, ((v0 : Nat) : Int)), (0, v1), (0, v2), (0, v3), (0, v4), (0, v5), (0, (w32 (v6 + 1))), (0, s.1), (0, s.2), j9]) (st' := []) (h' := (G, ρ, m)) hm rfl cjn ?_
      cases e
      exact hk _ _ _
    · replace e := it_n e c22
      refine Ex_if2t (c := 5) (tgt := 79) hm rfl (bt5 c22) ?_
      refine Ex_run 2 (i' := 81) (L' := [(2, ((v0 : Nat) : Int)), (0, v1), (0, v2), (0, v3), (0, v4), (0, v5), (0, v6), (0, s.1), (0, s.2), j9]) (st' := [(0, v4), (0, s.1)]) (h' := (G, ρ, m)) hm rfl cjn ?_
      by_cases c23 : s.1 < v4
      · replace e := it_p e c23
        refine Ex_if2f (c := 3) (tgt := 86) hm rfl (bf3 c23) ?_
        refine Ex_run 9 (i' := 27) (L' := [(2, ((v0 : Nat) : Int)), (0, v1), (0, v2), (0, v3), (0, s.1), (0, (g_shl 1 v6)), (0, (w32 (v6 + 1))), (0, s.1), (0, s.2), j9]) (st' := []) (h' := (G, ρ, m)) hm rfl (cjc (Nat.le_of_ble_eq_true rfl) (cjc (Nat.le_of_ble_eq_true rfl) cjn)) ?_
        cases e
        exact hk _ _ _
      · replace e := it_n e c23
        refine Ex_if2t (c := 3) (tgt := 86) hm rfl (bt3 c23) ?_
        refine Ex_run 10 (i' := 27) (L' := [(2, ((v0 : Nat) : Int)), (0, v1), (0, v2), (0, v3), (0, s.1), (0, (g_or v5 (g_shl 1 v6))), (0, (w32 (v6 + 1))), (0, s.1), (0, s.2), j9]) (st' := []) (h' := (G, ρ, m)) hm rfl (cjc (Nat.le_of_ble_eq_true rfl) (cjc (Nat.le_of_ble_eq_true rfl) cjn)) ?_
        cases e
        exact hk _ _ _
theorem tf181_b27 {G : Gg} {ρ : Rg} {d : Nat} {v0 : Nat} {v1 : Int} {v2 : Int} {v3 : Int} {m : Sg} {s : Int × Int × Int} {x : (Int × Int × Int) ⊕ (Int)} (e : f181_b27 G ρ v0 v1 v2 v3 m s = some x) (hd : 3 ≤ d) (rr : Option MV × Mh) (hk : (DS (e181_27 G ρ d v0 v1 v2 v3 m) (Bpi G ρ m)) x rr) : e181_27 G ρ d v0 v1 v2 v3 m s rr := by
  unfold f181_b27 at e
  have hm := mi_181
  show ∀ (j7 : MV) (j8 : MV) (j9 : MV), Ex d 181 27 [(2, ((v0 : Nat) : Int)), (0, v1), (0, v2), (0, v3), (0, s.1), (0, s.2.1), (0, s.2.2), j7, j8, j9] [] (G, ρ, m) rr
  intro j7 j8 j9
  refine Ex_run 2 (i' := 29) (L' := [(2, ((v0 : Nat) : Int)), (0, v1), (0, v2), (0, v3), (0, s.1), (0, s.2.1), (0, s.2.2), j7, j8, j9]) (st' := [(0, 5), (0, s.2.2)]) (h' := (G, ρ, m)) hm rfl cjn ?_
  by_cases c9 : 5 < s.2.2
  · replace e := it_p e c9
    refine Ex_if2t (c := 4) (tgt := 96) hm rfl (bt4 c9) ?_
    obtain ⟨x, e, hx⟩ := xr_s e
    replace hk : (Bpi G ρ m) x rr := by rw [hx] at hk; exact hk
    refine Ex_run 1 (i' := 97) (L' := [(2, ((v0 : Nat) : Int)), (0, v1), (0, v2), (0, v3), (0, s.1), (0, s.2.1), (0, s.2.2), j7, j8, j9]) (st' := [(0, s.2.1)]) (h' := (G, ρ, m)) hm rfl cjn ?_
    cases e
    cases hk
    exact Ex_ret (k := 1) hm rfl ⟨_, rfl, rfl⟩
  · replace e := it_n e c9
    refine Ex_if2f (c := 4) (tgt := 96) hm rfl (bf4 c9) ?_
    refine Ex_run 4 (i' := 34) (L' := [(2, ((v0 : Nat) : Int)), (0, v1), (0, v2), (0, v3), (0, s.1), (0, s.2.1), (0, s.2.2), (0, 0), (0, 0), j9]) (st' := []) (h' := (G, ρ, m)) hm rfl (cjc (Nat.le_of_ble_eq_true rfl) (cjc (Nat.le_of_ble_eq_true rfl) cjn)) ?_
    exact (Ex_lp (A := e181_34 G ρ d v0 v1 v2 v3 s.1 s.2.1 s.2.2 m ) (B := (DS (e181_27 G ρ d v0 v1 v2 v3 m) (Bpi G ρ m))) (fun s x e rr hk => tf181_b34 e hd rr hk) FU _ _ e rr hk) _
theorem tf181 {G : Gg} {ρ : Rg} {d : Nat} {v0 : Nat} {v1 : Int} {v2 : Int} {m : Sg} {x : Int} (e : f181 G ρ v0 v1 v2 m = some x) (hd : 3 ≤ d) : Ex d 181 0 [(2, ((v0 : Nat) : Int)), (0, v1), (0, v2), (9, 0), (9, 0), (9, 0), (9, 0), (9, 0), (9, 0), (9, 0)] [] (G, ρ, m) (some (0, x), (G, ρ, m)) := by
  unfold f181 at e
  have hm := mi_181
  generalize hk : (some (0, x), (G, ρ, m)) = rr
  replace hk : (Bpi G ρ m) x rr := hk.symm
  refine Ex_run 2 (i' := 2) (L' := [(2, ((v0 : Nat) : Int)), (0, v1), (0, v2), (9, 0), (9, 0), (9, 0), (9, 0), (9, 0), (9, 0), (9, 0)]) (st' := [(0, v1), (2, ((v0 : Nat) : Int))]) (h' := (G, ρ, m)) hm rfl cjn ?_
  obtain ⟨g1, e⟩ := gd_s e
  obtain ⟨q2, h2, e⟩ := bn_s e
  refine Ex_callm (z := 168) (na := 2) (ck := 15) (as := [(2, ((v0 : Nat) : Int)), (0, v1)]) (rest := []) (E0 := [(2, ((v0 : Nat) : Int)), (0, v1)]) (v := some (0, q2)) (h1 := (G, ρ, m)) hm rfl (by omega) ⟨Nat.le_of_ble_eq_true rfl, Nat.le_of_ble_eq_true rfl⟩ (rc2 rfl g1) rfl rfl ml_168 rfl (Nat.le_of_ble_eq_true rfl) (tf168 h2 (by omega)) ?_
  show Ex d 181 3 [(2, ((v0 : Nat) : Int)), (0, v1), (0, v2), (9, 0), (9, 0), (9, 0), (9, 0), (9, 0), (9, 0), (9, 0)] [(0, q2)] (G, ρ, m) rr
  by_cases c3 : q2 = 0
  · replace e := it_p e c3
    refine Ex_if1t (c := 0) (tgt := 8) hm rfl (bt0 c3) ?_
    refine Ex_run 1 (i' := 9) (L' := [(2, ((v0 : Nat) : Int)), (0, v1), (0, v2), (9, 0), (9, 0), (9, 0), (9, 0), (9, 0), (9, 0), (9, 0)]) (st' := [(0, (-2))]) (h' := (G, ρ, m)) hm rfl cjn ?_
    cases e
    cases hk
    exact Ex_ret (k := 1) hm rfl ⟨_, rfl, rfl⟩
  · replace e := it_n e c3
    refine Ex_if1f (c := 0) (tgt := 8) hm rfl (bf0 c3) ?_
    refine Ex_run 2 (i' := 6) (L' := [(2, ((v0 : Nat) : Int)), (0, v1), (0, v2), (9, 0), (9, 0), (9, 0), (9, 0), (9, 0), (9, 0), (9, 0)]) (st' := [(0, v2), (2, ((v0 : Nat) : Int))]) (h' := (G, ρ, m)) hm rfl cjn ?_
    obtain ⟨q4, h4, e⟩ := bn_s e
    refine Ex_callm (z := 146) (na := 2) (ck := 15) (as := [(2, ((v0 : Nat) : Int)), (0, v2)]) (rest := []) (E0 := [(2, ((v0 : Nat) : Int)), (0, v2)]) (v := some (0, q4)) (h1 := (G, ρ, m)) hm rfl (by omega) ⟨Nat.le_of_ble_eq_true rfl, Nat.le_of_ble_eq_true rfl⟩ (rc2 rfl g1) rfl rfl ml_146 rfl (Nat.le_of_ble_eq_true rfl) (tf146 h4 (by omega)) ?_
    show Ex d 181 7 [(2, ((v0 : Nat) : Int)), (0, v1), (0, v2), (9, 0), (9, 0), (9, 0), (9, 0), (9, 0), (9, 0), (9, 0)] [(0, q4)] (G, ρ, m) rr
    by_cases c5 : q4 = 0
    · replace e := it_p e c5
      refine Ex_if1f (c := 1) (tgt := 10) hm rfl (bf1 c5) ?_
      refine Ex_run 1 (i' := 9) (L' := [(2, ((v0 : Nat) : Int)), (0, v1), (0, v2), (9, 0), (9, 0), (9, 0), (9, 0), (9, 0), (9, 0), (9, 0)]) (st' := [(0, (-2))]) (h' := (G, ρ, m)) hm rfl cjn ?_
      cases e
      cases hk
      exact Ex_ret (k := 1) hm rfl ⟨_, rfl, rfl⟩
    · replace e := it_n e c5
      refine Ex_if1t (c := 1) (tgt := 10) hm rfl (bt1 c5) ?_
      refine Ex_run 3 (i' := 13) (L' := [(2, ((v0 : Nat) : Int)), (0, v1), (0, v2), (9, 0), (9, 0), (9, 0), (9, 0), (9, 0), (9, 0), (9, 0)]) (st' := [(0, v2), (0, v1), (2, ((v0 : Nat) : Int))]) (h' := (G, ρ, m)) hm rfl cjn ?_
      obtain ⟨q6, h6, e⟩ := bn_s e
      refine Ex_callm (z := 171) (na := 3) (ck := 15) (as := [(2, ((v0 : Nat) : Int)), (0, v1), (0, v2)]) (rest := []) (E0 := [(2, ((v0 : Nat) : Int)), (0, v1), (0, v2)]) (v := some (0, q6)) (h1 := (G, ρ, m)) hm rfl (by omega) ⟨Nat.le_of_ble_eq_true rfl, Nat.le_of_ble_eq_true rfl⟩ (rc2 rfl g1) rfl rfl ml_171 rfl (Nat.le_of_ble_eq_true rfl) (tf171 h6 (by omega)) ?_
      show Ex d 181 14 [(2, ((v0 : Nat) : Int)), (0, v1), (0, v2), (9, 0), (9, 0), (9, 0), (9, 0), (9, 0), (9, 0), (9, 0)] [(0, q6)] (G, ρ, m) rr
      by_cases c7 : q6 = 0
      · replace e := it_p e c7
        refine Ex_if1f (c := 1) (tgt := 17) hm rfl (bf1 c7) ?_
        refine Ex_run 1 (i' := 16) (L' := [(2, ((v0 : Nat) : Int)), (0, v1), (0, v2), (9, 0), (9, 0), (9, 0), (9, 0), (9, 0), (9, 0), (9, 0)]) (st' := [(0, (-3))]) (h' := (G, ρ, m)) hm rfl cjn ?_
        cases e
        cases hk
        exact Ex_ret (k := 1) hm rfl ⟨_, rfl, rfl⟩
      · replace e := it_n e c7
        refine Ex_if1t (c := 1) (tgt := 17) hm rfl (bt1 c7) ?_
        refine Ex_run 2 (i' := 19) (L' := [(2, ((v0 : Nat) : Int)), (0, v1), (0, v2), (9, 0), (9, 0), (9, 0), (9, 0), (9, 0), (9, 0), (9, 0)]) (st' := [(0, v1), (2, ((v0 : Nat) : Int))]) (h' := (G, ρ, m)) hm rfl cjn ?_
        obtain ⟨q8, h8, e⟩ := bn_s e
        refine Ex_callm (z := 178) (na := 2) (ck := 15) (as := [(2, ((v0 : Nat) : Int)), (0, v1)]) (rest := []) (E0 := [(2, ((v0 : Nat) : Int)), (0, v1), (9, 0), (9, 0)]) (v := some (0, q8)) (h1 := (G, ρ, m)) hm rfl (by omega) ⟨Nat.le_of_ble_eq_true rfl, Nat.le_of_ble_eq_true rfl⟩ (rc2 rfl g1) rfl rfl ml_178 rfl (Nat.le_of_ble_eq_true rfl) (tf178 h8 (by omega)) ?_
        show Ex d 181 20 [(2, ((v0 : Nat) : Int)), (0, v1), (0, v2), (9, 0), (9, 0), (9, 0), (9, 0), (9, 0), (9, 0), (9, 0)] [(0, q8)] (G, ρ, m) rr
        refine Ex_run 7 (i' := 27) (L' := [(2, ((v0 : Nat) : Int)), (0, v1), (0, v2), (0, q8), (0, 13), (0, 0), (0, 0), (9, 0), (9, 0), (9, 0)]) (st' := []) (h' := (G, ρ, m)) hm rfl (cjc (Nat.le_of_ble_eq_true rfl) (cjc (Nat.le_of_ble_eq_true rfl) (cjc (Nat.le_of_ble_eq_true rfl) (cjc (Nat.le_of_ble_eq_true rfl) cjn)))) ?_
        exact (Ex_lp (A := e181_27 G ρ d v0 v1 v2 q8 m ) (B := (Bpi G ρ m)) (fun s x e rr hk => tf181_b27 e hd rr hk) FU _ _ e rr hk) _ _ _
theorem tf182 {G : Gg} {ρ : Rg} {d : Nat} {v0 : Nat} {v1 : Int} {v2 : Int} {v3 : Int} {m : Sg} {x : Int × Sg} (e : f182 G ρ v0 v1 v2 v3 m = some x) (hd : 1 ≤ d) : Ex d 182 0 [(2, ((v0 : Nat) : Int)), (0, v1), (0, v2), (0, v3), (9, 0)] [] (G, ρ, m) (some (0, x.1), (G, ρ, x.2)) := by
  unfold f182 at e
  have hm := mi_182
  generalize hk : (some (0, x.1), (G, ρ, x.2)) = rr
  replace hk : (Bi G ρ) x rr := hk.symm
  obtain ⟨g1, e⟩ := gd_s e
  obtain ⟨g2, e⟩ := gd_s e
  refine Ex_run 10 (i' := 10) (L' := [(2, ((v0 : Nat) : Int)), (0, v1), (0, v2), (0, v3), (0, (g_rem (g_add v2 v3) (m v0 1)))]) (st' := [(0, (g_rem (g_add v2 v3) (m v0 1))), (0, v1), (2, ((v0 : Nat) : Int))]) (h' := (G, ρ, m)) hm rfl (cjc (gk_b g1) (cjc g2 (cjc (Nat.le_of_ble_eq_true rfl) cjn))) ?_
  obtain ⟨q3, h3, e⟩ := bn_s e
  refine Ex_callm (z := 171) (na := 3) (ck := 15) (as := [(2, ((v0 : Nat) : Int)), (0, v1), (0, (g_rem (g_add v2 v3) (m v0 1)))]) (rest := []) (E0 := [(2, ((v0 : Nat) : Int)), (0, v1), (0, (g_rem (g_add v2 v3) (m v0 1)))]) (v := some (0, q3)) (h1 := (G, ρ, m)) hm rfl (by omega) ⟨Nat.le_of_ble_eq_true rfl, Nat.le_of_ble_eq_true rfl⟩ (rc2 rfl g1) rfl rfl ml_171 rfl (Nat.le_of_ble_eq_true rfl) (tf171 h3 (by omega)) ?_
  show Ex d 182 11 [(2, ((v0 : Nat) : Int)), (0, v1), (0, v2), (0, v3), (0, (g_rem (g_add v2 v3) (m v0 1)))] [(0, q3)] (G, ρ, m) rr
  by_cases c4 : q3 = 0
  · replace e := it_p e c4
    refine Ex_if1t (c := 0) (tgt := 17) hm rfl (bt0 c4) ?_
    refine Ex_run 4 (i' := 21) (L' := [(2, ((v0 : Nat) : Int)), (0, v1), (0, v2), (0, v3), (0, (g_rem (g_add v2 v3) (m v0 1)))]) (st' := [(0, v3), (0, v2), (0, v1), (2, ((v0 : Nat) : Int))]) (h' := (G, ρ, m)) hm rfl cjn ?_
    obtain ⟨q5, h5, e⟩ := bn_s e
    refine Ex_callm (z := 151) (na := 4) (ck := 15) (as := [(2, ((v0 : Nat) : Int)), (0, v1), (0, v2), (0, v3)]) (rest := []) (E0 := [(2, ((v0 : Nat) : Int)), (0, v1), (0, v2), (0, v3), (9, 0), (9, 0), (9, 0)]) (v := some (0, q5.1)) (h1 := (G, ρ, q5.2)) hm rfl (by omega) ⟨Nat.le_of_ble_eq_true rfl, Nat.le_of_ble_eq_true rfl⟩ (rc2 rfl g1) rfl rfl ml_151 rfl (Nat.le_of_ble_eq_true rfl) (tf151 h5 (by omega)) ?_
    show Ex d 182 22 [(2, ((v0 : Nat) : Int)), (0, v1), (0, v2), (0, v3), (0, (g_rem (g_add v2 v3) (m v0 1)))] [(0, q5.1)] (G, ρ, q5.2) rr
    cases e
    cases hk
    exact Ex_ret (k := 1) hm rfl ⟨_, rfl, rfl⟩
  · replace e := it_n e c4
    refine Ex_if1f (c := 0) (tgt := 17) hm rfl (bf0 c4) ?_
    refine Ex_run 4 (i' := 16) (L' := [(2, ((v0 : Nat) : Int)), (0, v1), (0, v2), (0, v3), (0, (g_rem (g_add v2 v3) (m v0 1)))]) (st' := [(0, 0)]) (h' := (G, ρ, (put m v0 5 (g_rem (g_add v2 v3) (m v0 1))))) hm rfl (cjc (gk_b g1) cjn) ?_
    cases e
    cases hk
    exact Ex_ret (k := 1) hm rfl ⟨_, rfl, rfl⟩
theorem tf183_34 {G : Gg} {ρ : Rg} {d : Nat} {w0 : Int} {w1 : Nat} {m : Sg} {x : Sg} (e : f183_34 G ρ w0 w1 m = some x) (hd : 0 ≤ d) (rr : Option MV × Mh) (hk : (Bv G ρ) x rr) (j0 : Nat) (j1 : Int) (j2 : Int) (j3 : Int) : Ex d 183 34 [(2, ((j0 : Nat) : Int)), (0, j1), (0, j2), (0, j3)] [(0, w0), (2, ((w1 : Nat) : Int))] (G, ρ, m) rr := by
  unfold f183_34 at e
  have hm := mi_183
  obtain ⟨g14, e⟩ := gd_s e
  refine Ex_run 1 (i' := 35) (L' := [(2, ((j0 : Nat) : Int)), (0, j1), (0, j2), (0, j3)]) (st' := []) (h' := (G, ρ, (put m w1 23 w0))) hm rfl (cjc (gk_b g14) cjn) ?_
  cases e
  cases hk
  exact Ex_ret (k := 0) hm rfl ⟨rfl, rfl⟩
theorem tf183_28 {G : Gg} {ρ : Rg} {d : Nat} {v0 : Nat} {w0 : Int} {w1 : Int} {w2 : Nat} {m : Sg} {x : Sg} (e : f183_28 G ρ v0 w0 w1 w2 m = some x) (hd : 0 ≤ d) (rr : Option MV × Mh) (hk : (Bv G ρ) x rr) (j1 : Int) (j2 : Int) (j3 : Int) : Ex d 183 28 [(2, ((v0 : Nat) : Int)), (0, j1), (0, j2), (0, j3)] [(0, w0), (0, w1), (2, ((w2 : Nat) : Int))] (G, ρ, m) rr := by
  unfold f183_28 at e
  have hm := mi_183
  obtain ⟨g11, e⟩ := gd_s e
  obtain ⟨g12, e⟩ := gd_s e
  obtain ⟨g13, e⟩ := gd_s e
  refine Ex_run 6 (i' := 34) (L' := [(2, ((v0 : Nat) : Int)), (0, j1), (0, j2), (0, j3)]) (st' := [(0, (g_add ((put m w2 w1 w0) v0 23) 1)), (2, ((v0 : Nat) : Int))]) (h' := (G, ρ, (put m w2 w1 w0))) hm rfl (cjc (gk_b g11) (cjc g12 (cjc (gk_b g13) cjn))) ?_
  exact tf183_34 e hd rr hk _ _ _ _
theorem tf183_22 {G : Gg} {ρ : Rg} {d : Nat} {v0 : Nat} {v3 : Int} {w0 : Int} {w1 : Int} {w2 : Nat} {m : Sg} {x : Sg} (e : f183_22 G ρ v0 v3 w0 w1 w2 m = some x) (hd : 0 ≤ d) (rr : Option MV × Mh) (hk : (Bv G ρ) x rr) (j1 : Int) (j2 : Int) : Ex d 183 22 [(2, ((v0 : Nat) : Int)), (0, j1), (0, j2), (0, v3)] [(0, w0), (0, w1), (2, ((w2 : Nat) : Int))] (G, ρ, m) rr := by
  unfold f183_22 at e
  have hm := mi_183
  obtain ⟨g8, e⟩ := gd_s e
  obtain ⟨g9, e⟩ := gd_s e
  obtain ⟨g10, e⟩ := gd_s e
  refine Ex_run 6 (i' := 28) (L' := [(2, ((v0 : Nat) : Int)), (0, j1), (0, j2), (0, v3)]) (st' := [(0, v3), (0, ((put m w2 w1 w0) v0 23)), (2, (((ρ v0 21) : Nat) : Int))]) (h' := (G, ρ, (put m w2 w1 w0))) hm rfl (cjc (gk_b g8) (cjc g9 (cjc (gk_b g10) (cjc (gk_b g10) cjn)))) ?_
  exact tf183_28 e hd rr hk _ _ _
theorem tf183_16 {G : Gg} {ρ : Rg} {d : Nat} {v0 : Nat} {v2 : Int} {v3 : Int} {w0 : Int} {w1 : Int} {w2 : Nat} {m : Sg} {x : Sg} (e : f183_16 G ρ v0 v2 v3 w0 w1 w2 m = some x) (hd : 0 ≤ d) (rr : Option MV × Mh) (hk : (Bv G ρ) x rr) (j1 : Int) : Ex d 183 16 [(2, ((v0 : Nat) : Int)), (0, j1), (0, v2), (0, v3)] [(0, w0), (0, w1), (2, ((w2 : Nat) : Int))] (G, ρ, m) rr := by
  unfold f183_16 at e
  have hm := mi_183
  obtain ⟨g5, e⟩ := gd_s e
  obtain ⟨g6, e⟩ := gd_s e
  obtain ⟨g7, e⟩ := gd_s e
  refine Ex_run 6 (i' := 22) (L' := [(2, ((v0 : Nat) : Int)), (0, j1), (0, v2), (0, v3)]) (st' := [(0, v2), (0, ((put m w2 w1 w0) v0 23)), (2, (((ρ v0 20) : Nat) : Int))]) (h' := (G, ρ, (put m w2 w1 w0))) hm rfl (cjc (gk_b g5) (cjc g6 (cjc (gk_b g7) (cjc (gk_b g7) cjn)))) ?_
  exact tf183_22 e hd rr hk _ _
theorem tf183 {G : Gg} {ρ : Rg} {d : Nat} {v0 : Nat} {v1 : Int} {v2 : Int} {v3 : Int} {m : Sg} {x : Sg} (e : f183 G ρ v0 v1 v2 v3 m = some x) (hd : 0 ≤ d) : Ex d 183 0 [(2, ((v0 : Nat) : Int)), (0, v1), (0, v2), (0, v3)] [] (G, ρ, m) (none, (G, ρ, x)) := by
  unfold f183 at e
  have hm := mi_183
  generalize hk : (none, (G, ρ, x)) = rr
  replace hk : (Bv G ρ) x rr := hk.symm
  obtain ⟨g1, e⟩ := gd_s e
  obtain ⟨g2, e⟩ := gd_s e
  obtain ⟨g3, e⟩ := gd_s e
  refine Ex_run 4 (i' := 4) (L' := [(2, ((v0 : Nat) : Int)), (0, v1), (0, v2), (0, v3)]) (st' := [(0, (m (ρ v0 22) v1))]) (h' := (G, ρ, m)) hm rfl (cjc (gk_b g1) (cjc (gk_b g2) (cjc g3 cjn))) ?_
  by_cases c4 : (m (ρ v0 22) v1) = 0
  · replace e := it_p e c4
    refine Ex_if1t (c := 0) (tgt := 6) hm rfl (bt0 c4) ?_
    refine Ex_run 10 (i' := 16) (L' := [(2, ((v0 : Nat) : Int)), (0, v1), (0, v2), (0, v3)]) (st' := [(0, v1), (0, ((put m (ρ v0 22) v1 1) v0 23)), (2, (((ρ v0 19) : Nat) : Int))]) (h' := (G, ρ, (put m (ρ v0 22) v1 1))) hm rfl (cjc (gk_b g1) (cjc (gk_b g2) (cjc g3 (cjc (by decide) (cjc (gk_b g1) (cjc (gk_b g1) cjn)))))) ?_
    exact tf183_16 e hd rr hk _
  · replace e := it_n e c4
    refine Ex_if1f (c := 0) (tgt := 6) hm rfl (bf0 c4) ?_
    cases e
    cases hk
    exact Ex_ret (k := 0) hm rfl ⟨rfl, rfl⟩
theorem tf184_b7 {G : Gg} {ρ : Rg} {d : Nat} {v0 : Nat} {m : Sg} {s : Int × Int × Int} {x : (Int × Int × Int) ⊕ (Int)} (e : f184_b7 G ρ v0 m s = some x) (hd : 0 ≤ d) (rr : Option MV × Mh) (hk : (DS (e184_7 G ρ d v0 m) (Bpl G ρ m)) x rr) : e184_7 G ρ d v0 m s rr := by
  unfold f184_b7 at e
  have hm := mi_184
  show ∀ (j1 : Int) (j2 : Int), Ex d 184 7 [(2, ((v0 : Nat) : Int)), (0, j1), (0, j2), (1, s.1), (9, 0), (0, s.2.1), (0, s.2.2)] [] (G, ρ, m) rr
  intro j1 j2
  refine Ex_run 1 (i' := 8) (L' := [(2, ((v0 : Nat) : Int)), (0, j1), (0, j2), (1, s.1), (9, 0), (0, s.2.1), (0, s.2.2)]) (st' := [(0, s.2.2)]) (h' := (G, ρ, m)) hm rfl cjn ?_
  by_cases c1 : 0 < s.2.2
  · replace e := it_p e c1
    refine Ex_if1f (c := 5) (tgt := 31) hm rfl (bf5 c1) ?_
    obtain ⟨g2, e⟩ := gd_s e
    obtain ⟨g3, e⟩ := gd_s e
    obtain ⟨g4, e⟩ := gd_s e
    refine Ex_run 13 (i' := 22) (L' := [(2, ((v0 : Nat) : Int)), (0, j1), (0, j2), (1, (k_add (k_mul s.1 10) (m (ρ v0 20) s.2.2))), (9, 0), (0, (w32 (s.2.1 + 1))), (0, s.2.2)]) (st' := [(0, 18), (0, (w32 (s.2.1 + 1)))]) (h' := (G, ρ, m)) hm rfl (cjc (gk_b g2) (cjc (gk_b g3) (cjc g4 (cjc (Nat.le_of_ble_eq_true rfl) cjn)))) ?_
    by_cases c5 : 18 < (w32 (s.2.1 + 1))
    · replace e := it_p e c5
      refine Ex_if2f (c := 5) (tgt := 25) hm rfl (bf5 c5) ?_
      obtain ⟨x, e, hx⟩ := xr_s e
      replace hk : (Bpl G ρ m) x rr := by rw [hx] at hk; exact hk
      refine Ex_run 1 (i' := 24) (L' := [(2, ((v0 : Nat) : Int)), (0, j1), (0, j2), (1, (k_add (k_mul s.1 10) (m (ρ v0 20) s.2.2))), (9, 0), (0, (w32 (s.2.1 + 1))), (0, s.2.2)]) (st' := [(1, (-2))]) (h' := (G, ρ, m)) hm rfl cjn ?_
      cases e
      cases hk
      exact Ex_ret (k := 3) hm rfl ⟨_, rfl, rfl⟩
    · replace e := it_n e c5
      refine Ex_if2t (c := 5) (tgt := 25) hm rfl (bt5 c5) ?_
      obtain ⟨g6, e⟩ := gd_s e
      obtain ⟨g7, e⟩ := gd_s e
      refine Ex_run 6 (i' := 7) (L' := [(2, ((v0 : Nat) : Int)), (0, j1), (0, j2), (1, (k_add (k_mul s.1 10) (m (ρ v0 20) s.2.2))), (9, 0), (0, (w32 (s.2.1 + 1))), (0, (m (ρ v0 21) s.2.2))]) (st' := []) (h' := (G, ρ, m)) hm rfl (cjc (gk_b g2) (cjc (gk_b g6) (cjc g7 (cjc (Nat.le_of_ble_eq_true rfl) cjn)))) ?_
      cases e
      exact hk _ _
  · replace e := it_n e c1
    refine Ex_if1t (c := 5) (tgt := 31) hm rfl (bt5 c1) ?_
    obtain ⟨x, e, hx⟩ := xr_s e
    replace hk : (Bpl G ρ m) x rr := by rw [hx] at hk; exact hk
    refine Ex_run 1 (i' := 32) (L' := [(2, ((v0 : Nat) : Int)), (0, j1), (0, j2), (1, s.1), (9, 0), (0, s.2.1), (0, s.2.2)]) (st' := [(1, s.1)]) (h' := (G, ρ, m)) hm rfl cjn ?_
    cases e
    cases hk
    exact Ex_ret (k := 3) hm rfl ⟨_, rfl, rfl⟩
theorem tf184 {G : Gg} {ρ : Rg} {d : Nat} {v0 : Nat} {v1 : Int} {v2 : Int} {m : Sg} {x : Int} (e : f184 G ρ v0 v1 v2 m = some x) (hd : 0 ≤ d) : Ex d 184 0 [(2, ((v0 : Nat) : Int)), (0, v1), (0, v2), (9, 0), (9, 0), (9, 0), (9, 0)] [] (G, ρ, m) (some (1, x), (G, ρ, m)) := by
  unfold f184 at e
  have hm := mi_184
  generalize hk : (some (1, x), (G, ρ, m)) = rr
  replace hk : (Bpl G ρ m) x rr := hk.symm
  refine Ex_run 7 (i' := 7) (L' := [(2, ((v0 : Nat) : Int)), (0, v1), (0, v2), (1, v2), (9, 0), (0, 1), (0, v1)]) (st' := []) (h' := (G, ρ, m)) hm rfl (cjc (Nat.le_of_ble_eq_true rfl) (cjc (Nat.le_of_ble_eq_true rfl) (cjc (Nat.le_of_ble_eq_true rfl) cjn))) ?_
  exact (Ex_lp (A := e184_7 G ρ d v0 m ) (B := (Bpl G ρ m)) (fun s x e rr hk => tf184_b7 e hd rr hk) FU _ _ e rr hk) _ _
theorem tf185_90 {G : Gg} {ρ : Rg} {d : Nat} {v0 : Nat} {v1 : Int} {v2 : Int} {v3 : Int} {v4 : Int} {v6 : Int} {m : Sg} {x : (Int × Sg) ⊕ ((Int × Sg) ⊕ (Int × Sg))} (e : f185_90 G ρ v0 v1 v2 v3 v4 v6 m = some x) (hd : 2 ≤ d) (rr : Option MV × Mh) (hk : (DS (e185_38 G ρ d v0 v1 v2 v3) (DS (e185_32 G ρ d v0 v1 v2) (Bl G ρ))) x rr) (j5 : Int) (j7 : Int) : Ex d 185 90 [(2, ((v0 : Nat) : Int)), (0, v1), (0, v2), (0, v3), (0, v4), (0, j5), (0, v6), (0, j7)] [] (G, ρ, m) rr := by
  unfold f185_90 at e
  have hm := mi_185
  obtain ⟨g26, e⟩ := gd_s e
  refine Ex_run 9 (i' := 99) (L' := [(2, ((v0 : Nat) : Int)), (0, v1), (0, v2), (0, v3), (0, v4), (0, j5), (0, v6), (0, j7)]) (st' := [(0, v3), (0, v4), (0, (g_add (g_mul 10 v6) (m v0 5))), (2, ((v0 : Nat) : Int))]) (h' := (G, ρ, m)) hm rfl (cjc (gk_b g26) cjn) ?_
  obtain ⟨q27, h27, e⟩ := bn_s e
  refine Ex_callm (z := 183) (na := 4) (ck := 15) (as := [(2, ((v0 : Nat) : Int)), (0, (g_add (g_mul 10 v6) (m v0 5))), (0, v4), (0, v3)]) (rest := []) (E0 := [(2, ((v0 : Nat) : Int)), (0, (g_add (g_mul 10 v6) (m v0 5))), (0, v4), (0, v3)]) (v := none) (h1 := (G, ρ, q27)) hm rfl (by omega) ⟨Nat.le_of_ble_eq_true rfl, Nat.le_of_ble_eq_true rfl⟩ (rc2 rfl g26) rfl rfl ml_183 rfl (Nat.le_of_ble_eq_true rfl) (tf183 h27 (by omega)) ?_
  show Ex d 185 100 [(2, ((v0 : Nat) : Int)), (0, v1), (0, v2), (0, v3), (0, v4), (0, j5), (0, v6), (0, j7)] [] (G, ρ, q27) rr
  refine Ex_run 2 (i' := 38) (L' := [(2, ((v0 : Nat) : Int)), (0, v1), (0, v2), (0, v3), (0, (w32 (v4 + 1))), (0, j5), (0, v6), (0, j7)]) (st' := []) (h' := (G, ρ, q27)) hm rfl cjn ?_
  cases e
  exact hk _ _ _
theorem tf185_b38 {G : Gg} {ρ : Rg} {d : Nat} {v0 : Nat} {v1 : Int} {v2 : Int} {v3 : Int} {s : Int × Sg} {x : (Int × Sg) ⊕ ((Int × Sg) ⊕ (Int × Sg))} (e : f185_b38 G ρ v0 v1 v2 v3 s = some x) (hd : 2 ≤ d) (rr : Option MV × Mh) (hk : (DS (e185_38 G ρ d v0 v1 v2 v3) (DS (e185_32 G ρ d v0 v1 v2) (Bl G ρ))) x rr) : e185_38 G ρ d v0 v1 v2 v3 s rr := by
  unfold f185_b38 at e
  have hm := mi_185
  show ∀ (j5 : MV) (j6 : MV) (j7 : MV), Ex d 185 38 [(2, ((v0 : Nat) : Int)), (0, v1), (0, v2), (0, v3), (0, s.1), j5, j6, j7] [] (G, ρ, s.2) rr
  intro j5 j6 j7
  refine Ex_run 2 (i' := 40) (L' := [(2, ((v0 : Nat) : Int)), (0, v1), (0, v2), (0, v3), (0, s.1), j5, j6, j7]) (st' := [(0, 5), (0, s.1)]) (h' := (G, ρ, s.2)) hm rfl cjn ?_
  by_cases c14 : 5 < s.1
  · replace e := it_p e c14
    refine Ex_if2t (c := 4) (tgt := 102) hm rfl (bt4 c14) ?_
    obtain ⟨x, e, hx⟩ := xr_s e
    replace hk : (DS (e185_32 G ρ d v0 v1 v2) (Bl G ρ)) x rr := by rw [hx] at hk; exact hk
    refine Ex_run 2 (i' := 32) (L' := [(2, ((v0 : Nat) : Int)), (0, v1), (0, v2), (0, (w32 (v3 + 1))), (0, s.1), j5, j6, j7]) (st' := []) (h' := (G, ρ, s.2)) hm rfl cjn ?_
    cases e
    exact hk _ _ _ _
  · replace e := it_n e c14
    refine Ex_if2f (c := 4) (tgt := 102) hm rfl (bf4 c14) ?_
    refine Ex_run 3 (i' := 44) (L' := [(2, ((v0 : Nat) : Int)), (0, v1), (0, v2), (0, v3), (0, s.1), j5, j6, j7]) (st' := [(0, s.1), (0, v1), (2, ((v0 : Nat) : Int))]) (h' := (G, ρ, s.2)) hm rfl cjn ?_
    obtain ⟨g15, e⟩ := gd_s e
    obtain ⟨q16, h16, e⟩ := bn_s e
    refine Ex_callm (z := 150) (na := 3) (ck := 15) (as := [(2, ((v0 : Nat) : Int)), (0, v1), (0, s.1)]) (rest := []) (E0 := [(2, ((v0 : Nat) : Int)), (0, v1), (0, s.1)]) (v := some (0, q16)) (h1 := (G, ρ, s.2)) hm rfl (by omega) ⟨Nat.le_of_ble_eq_true rfl, Nat.le_of_ble_eq_true rfl⟩ (rc2 rfl g15) rfl rfl ml_150 rfl (Nat.le_of_ble_eq_true rfl) (tf150 h16 (by omega)) ?_
    show Ex d 185 45 [(2, ((v0 : Nat) : Int)), (0, v1), (0, v2), (0, v3), (0, s.1), j5, j6, j7] [(0, q16)] (G, ρ, s.2) rr
    by_cases c17 : q16 = 0
    · replace e := it_p e c17
      refine Ex_if1t (c := 0) (tgt := 100) hm rfl (bt0 c17) ?_
      refine Ex_run 2 (i' := 38) (L' := [(2, ((v0 : Nat) : Int)), (0, v1), (0, v2), (0, v3), (0, (w32 (s.1 + 1))), j5, j6, j7]) (st' := []) (h' := (G, ρ, s.2)) hm rfl cjn ?_
      cases e
      exact hk _ _ _
    · replace e := it_n e c17
      refine Ex_if1f (c := 0) (tgt := 100) hm rfl (bf0 c17) ?_
      refine Ex_run 3 (i' := 49) (L' := [(2, ((v0 : Nat) : Int)), (0, v1), (0, v2), (0, v3), (0, s.1), j5, j6, j7]) (st' := [(0, s.1), (0, v2), (2, ((v0 : Nat) : Int))]) (h' := (G, ρ, s.2)) hm rfl cjn ?_
      obtain ⟨q18, h18, e⟩ := bn_s e
      refine Ex_callm (z := 150) (na := 3) (ck := 15) (as := [(2, ((v0 : Nat) : Int)), (0, v2), (0, s.1)]) (rest := []) (E0 := [(2, ((v0 : Nat) : Int)), (0, v2), (0, s.1)]) (v := some (0, q18)) (h1 := (G, ρ, s.2)) hm rfl (by omega) ⟨Nat.le_of_ble_eq_true rfl, Nat.le_of_ble_eq_true rfl⟩ (rc2 rfl g15) rfl rfl ml_150 rfl (Nat.le_of_ble_eq_true rfl) (tf150 h18 (by omega)) ?_
      show Ex d 185 50 [(2, ((v0 : Nat) : Int)), (0, v1), (0, v2), (0, v3), (0, s.1), j5, j6, j7] [(0, q18)] (G, ρ, s.2) rr
      by_cases c19 : q18 = 0
      · replace e := it_p e c19
        refine Ex_if1f (c := 1) (tgt := 52) hm rfl (bf1 c19) ?_
        refine Ex_run 3 (i' := 38) (L' := [(2, ((v0 : Nat) : Int)), (0, v1), (0, v2), (0, v3), (0, (w32 (s.1 + 1))), j5, j6, j7]) (st' := []) (h' := (G, ρ, s.2)) hm rfl cjn ?_
        cases e
        exact hk _ _ _
      · replace e := it_n e c19
        refine Ex_if1t (c := 1) (tgt := 52) hm rfl (bt1 c19) ?_
        obtain ⟨g20, e⟩ := gd_s e
        obtain ⟨g21, e⟩ := gd_s e
        refine Ex_run 9 (i' := 61) (L' := [(2, ((v0 : Nat) : Int)), (0, v1), (0, v2), (0, v3), (0, s.1), j5, j6, j7]) (st' := [(0, s.1), (0, (g_div (s.2 (ρ v0 19) v3) 10)), (0, v1), (2, ((v0 : Nat) : Int))]) (h' := (G, ρ, s.2)) hm rfl (cjc (gk_b g15) (cjc (gk_b g20) (cjc g21 (cjc (by decide) cjn)))) ?_
        obtain ⟨q22, h22, e⟩ := bn_s e
        refine Ex_callm (z := 182) (na := 4) (ck := 15) (as := [(2, ((v0 : Nat) : Int)), (0, v1), (0, (g_div (s.2 (ρ v0 19) v3) 10)), (0, s.1)]) (rest := []) (E0 := [(2, ((v0 : Nat) : Int)), (0, v1), (0, (g_div (s.2 (ρ v0 19) v3) 10)), (0, s.1), (9, 0)]) (v := some (0, q22.1)) (h1 := (G, ρ, q22.2)) hm rfl (by omega) ⟨Nat.le_of_ble_eq_true rfl, Nat.le_of_ble_eq_true rfl⟩ (rc2 rfl g15) rfl rfl ml_182 rfl (Nat.le_of_ble_eq_true rfl) (tf182 h22 (by omega)) ?_
        show Ex d 185 62 [(2, ((v0 : Nat) : Int)), (0, v1), (0, v2), (0, v3), (0, s.1), j5, j6, j7] [(0, q22.1)] (G, ρ, q22.2) rr
        refine Ex_run 13 (i' := 75) (L' := [(2, ((v0 : Nat) : Int)), (0, v1), (0, v2), (0, v3), (0, s.1), (0, q22.1), (0, (q22.2 v0 5)), j7]) (st' := [(0, s.1), (0, (g_rem (q22.2 (ρ v0 19) v3) 10)), (0, v2), (2, ((v0 : Nat) : Int))]) (h' := (G, ρ, q22.2)) hm rfl (cjc (Nat.le_of_ble_eq_true rfl) (cjc (gk_b g15) (cjc (Nat.le_of_ble_eq_true rfl) (cjc (gk_b g15) (cjc (gk_b g20) (cjc g21 (cjc (by decide) cjn))))))) ?_
        obtain ⟨q23, h23, e⟩ := bn_s e
        refine Ex_callm (z := 182) (na := 4) (ck := 15) (as := [(2, ((v0 : Nat) : Int)), (0, v2), (0, (g_rem (q22.2 (ρ v0 19) v3) 10)), (0, s.1)]) (rest := []) (E0 := [(2, ((v0 : Nat) : Int)), (0, v2), (0, (g_rem (q22.2 (ρ v0 19) v3) 10)), (0, s.1), (9, 0)]) (v := some (0, q23.1)) (h1 := (G, ρ, q23.2)) hm rfl (by omega) ⟨Nat.le_of_ble_eq_true rfl, Nat.le_of_ble_eq_true rfl⟩ (rc2 rfl g15) rfl rfl ml_182 rfl (Nat.le_of_ble_eq_true rfl) (tf182 h23 (by omega)) ?_
        show Ex d 185 76 [(2, ((v0 : Nat) : Int)), (0, v1), (0, v2), (0, v3), (0, s.1), (0, q22.1), (0, (q22.2 v0 5)), j7] [(0, q23.1)] (G, ρ, q23.2) rr
        refine Ex_run 3 (i' := 79) (L' := [(2, ((v0 : Nat) : Int)), (0, v1), (0, v2), (0, v3), (0, s.1), (0, q22.1), (0, (q22.2 v0 5)), (0, q23.1)]) (st' := [(0, q23.1), (0, q22.1)]) (h' := (G, ρ, q23.2)) hm rfl (cjc (Nat.le_of_ble_eq_true rfl) cjn) ?_
        by_cases c24 : q22.1 = q23.1
        · replace e := it_p e c24
          refine Ex_if2t (c := 0) (tgt := 85) hm rfl (bt0 c24) ?_
          refine Ex_run 1 (i' := 86) (L' := [(2, ((v0 : Nat) : Int)), (0, v1), (0, v2), (0, v3), (0, s.1), (0, q22.1), (0, (q22.2 v0 5)), (0, q23.1)]) (st' := [(0, q22.1)]) (h' := (G, ρ, q23.2)) hm rfl cjn ?_
          by_cases c25 : q22.1 = 0
          · replace e := it_p e c25
            refine Ex_if1t (c := 0) (tgt := 90) hm rfl (bt0 c25) ?_
            exact tf185_90 e hd rr hk _ _
          · replace e := it_n e c25
            refine Ex_if1f (c := 0) (tgt := 90) hm rfl (bf0 c25) ?_
            refine Ex_run 2 (i' := 89) (L' := [(2, ((v0 : Nat) : Int)), (0, v1), (0, v2), (0, v3), (0, s.1), (0, q22.1), (0, (q22.2 v0 5)), (0, q23.1)]) (st' := [(0, 1), (0, q22.1)]) (h' := (G, ρ, q23.2)) hm rfl cjn ?_
            by_cases c28 : q22.1 = 1
            · replace e := it_p e c28
              refine Ex_if2f (c := 1) (tgt := 100) hm rfl (bf1 c28) ?_
              exact tf185_90 e hd rr hk _ _
            · replace e := it_n e c28
              refine Ex_if2t (c := 1) (tgt := 100) hm rfl (bt1 c28) ?_
              refine Ex_run 2 (i' := 38) (L' := [(2, ((v0 : Nat) : Int)), (0, v1), (0, v2), (0, v3), (0, (w32 (s.1 + 1))), (0, q22.1), (0, (q22.2 v0 5)), (0, q23.1)]) (st' := []) (h' := (G, ρ, q23.2)) hm rfl cjn ?_
              cases e
              exact hk _ _ _
        · replace e := it_n e c24
          refine Ex_if2f (c := 0) (tgt := 85) hm rfl (bf0 c24) ?_
          obtain ⟨x, e, hx⟩ := xr_s e
          replace hk : (DS (e185_32 G ρ d v0 v1 v2) (Bl G ρ)) x rr := by rw [hx] at hk; exact hk
          obtain ⟨x, e, hx⟩ := xr_s e
          replace hk : (Bl G ρ) x rr := by rw [hx] at hk; exact hk
          refine Ex_run 3 (i' := 83) (L' := [(2, ((v0 : Nat) : Int)), (0, v1), (0, v2), (0, v3), (0, s.1), (0, q22.1), (0, (q22.2 v0 5)), (0, q23.1)]) (st' := [(0, s.1), (0, v3), (2, ((v0 : Nat) : Int))]) (h' := (G, ρ, q23.2)) hm rfl cjn ?_
          obtain ⟨q29, h29, e⟩ := bn_s e
          refine Ex_callm (z := 184) (na := 3) (ck := 15) (as := [(2, ((v0 : Nat) : Int)), (0, v3), (0, s.1)]) (rest := []) (E0 := [(2, ((v0 : Nat) : Int)), (0, v3), (0, s.1), (9, 0), (9, 0), (9, 0), (9, 0)]) (v := some (1, q29)) (h1 := (G, ρ, q23.2)) hm rfl (by omega) ⟨Nat.le_of_ble_eq_true rfl, Nat.le_of_ble_eq_true rfl⟩ (rc2 rfl g15) rfl rfl ml_184 rfl (Nat.le_of_ble_eq_true rfl) (tf184 h29 (by omega)) ?_
          show Ex d 185 84 [(2, ((v0 : Nat) : Int)), (0, v1), (0, v2), (0, v3), (0, s.1), (0, q22.1), (0, (q22.2 v0 5)), (0, q23.1)] [(1, q29)] (G, ρ, q23.2) rr
          cases e
          cases hk
          exact Ex_ret (k := 3) hm rfl ⟨_, rfl, rfl⟩
theorem tf185_b32 {G : Gg} {ρ : Rg} {d : Nat} {v0 : Nat} {v1 : Int} {v2 : Int} {s : Int × Sg} {x : (Int × Sg) ⊕ (Int × Sg)} (e : f185_b32 G ρ v0 v1 v2 s = some x) (hd : 2 ≤ d) (rr : Option MV × Mh) (hk : (DS (e185_32 G ρ d v0 v1 v2) (Bl G ρ)) x rr) : e185_32 G ρ d v0 v1 v2 s rr := by
  unfold f185_b32 at e
  have hm := mi_185
  show ∀ (j4 : MV) (j5 : MV) (j6 : MV) (j7 : MV), Ex d 185 32 [(2, ((v0 : Nat) : Int)), (0, v1), (0, v2), (0, s.1), j4, j5, j6, j7] [] (G, ρ, s.2) rr
  intro j4 j5 j6 j7
  obtain ⟨g12, e⟩ := gd_s e
  refine Ex_run 3 (i' := 35) (L' := [(2, ((v0 : Nat) : Int)), (0, v1), (0, v2), (0, s.1), j4, j5, j6, j7]) (st' := [(0, (s.2 v0 23)), (0, s.1)]) (h' := (G, ρ, s.2)) hm rfl (cjc (gk_b g12) cjn) ?_
  by_cases c13 : s.1 < (s.2 v0 23)
  · replace e := it_p e c13
    refine Ex_if2f (c := 3) (tgt := 104) hm rfl (bf3 c13) ?_
    refine Ex_run 2 (i' := 38) (L' := [(2, ((v0 : Nat) : Int)), (0, v1), (0, v2), (0, s.1), (0, 1), j5, j6, j7]) (st' := []) (h' := (G, ρ, s.2)) hm rfl (cjc (Nat.le_of_ble_eq_true rfl) cjn) ?_
    exact (Ex_lp (A := e185_38 G ρ d v0 v1 v2 s.1 ) (B := (DS (e185_32 G ρ d v0 v1 v2) (Bl G ρ))) (fun s x e rr hk => tf185_b38 e hd rr hk) FU _ _ e rr hk) _ _ _
  · replace e := it_n e c13
    refine Ex_if2t (c := 3) (tgt := 104) hm rfl (bt3 c13) ?_
    obtain ⟨x, e, hx⟩ := xr_s e
    replace hk : (Bl G ρ) x rr := by rw [hx] at hk; exact hk
    refine Ex_run 1 (i' := 105) (L' := [(2, ((v0 : Nat) : Int)), (0, v1), (0, v2), (0, s.1), j4, j5, j6, j7]) (st' := [(1, (-1))]) (h' := (G, ρ, s.2)) hm rfl cjn ?_
    cases e
    cases hk
    exact Ex_ret (k := 3) hm rfl ⟨_, rfl, rfl⟩
theorem tf185_b12 {G : Gg} {ρ : Rg} {d : Nat} {v0 : Nat} {v1 : Int} {v2 : Int} {s : Int × Sg} {x : (Int × Sg) ⊕ (Int × Sg)} (e : f185_b12 G ρ v0 v1 v2 s = some x) (hd : 2 ≤ d) (rr : Option MV × Mh) (hk : (DS (e185_12 G ρ d v0 v1 v2) (Bl G ρ)) x rr) : e185_12 G ρ d v0 v1 v2 s rr := by
  unfold f185_b12 at e
  have hm := mi_185
  show Ex d 185 12 [(2, ((v0 : Nat) : Int)), (0, v1), (0, v2), (0, s.1), (9, 0), (9, 0), (9, 0), (9, 0)] [] (G, ρ, s.2) rr
  refine Ex_run 2 (i' := 14) (L' := [(2, ((v0 : Nat) : Int)), (0, v1), (0, v2), (0, s.1), (9, 0), (9, 0), (9, 0), (9, 0)]) (st' := [(0, 100), (0, s.1)]) (h' := (G, ρ, s.2)) hm rfl cjn ?_
  by_cases c6 : s.1 < 100
  · replace e := it_p e c6
    refine Ex_if2f (c := 3) (tgt := 22) hm rfl (bf3 c6) ?_
    obtain ⟨g7, e⟩ := gd_s e
    obtain ⟨g8, e⟩ := gd_s e
    obtain ⟨g9, e⟩ := gd_s e
    refine Ex_run 7 (i' := 12) (L' := [(2, ((v0 : Nat) : Int)), (0, v1), (0, v2), (0, (w32 (s.1 + 1))), (9, 0), (9, 0), (9, 0), (9, 0)]) (st' := []) (h' := (G, ρ, (put s.2 (ρ v0 22) s.1 0))) hm rfl (cjc (gk_b g7) (cjc (gk_b g8) (cjc g9 (cjc (by decide) cjn)))) ?_
    cases e
    exact hk
  · replace e := it_n e c6
    refine Ex_if2t (c := 3) (tgt := 22) hm rfl (bt3 c6) ?_
    obtain ⟨x, e, hx⟩ := xr_s e
    replace hk : (Bl G ρ) x rr := by rw [hx] at hk; exact hk
    obtain ⟨g10, e⟩ := gd_s e
    refine Ex_run 7 (i' := 29) (L' := [(2, ((v0 : Nat) : Int)), (0, v1), (0, v2), (0, s.1), (9, 0), (9, 0), (9, 0), (9, 0)]) (st' := [(0, 0), (0, 0), (0, 0), (2, ((v0 : Nat) : Int))]) (h' := (G, ρ, (put s.2 v0 23 0))) hm rfl (cjc (gk_b g10) cjn) ?_
    obtain ⟨q11, h11, e⟩ := bn_s e
    refine Ex_callm (z := 183) (na := 4) (ck := 15) (as := [(2, ((v0 : Nat) : Int)), (0, 0), (0, 0), (0, 0)]) (rest := []) (E0 := [(2, ((v0 : Nat) : Int)), (0, 0), (0, 0), (0, 0)]) (v := none) (h1 := (G, ρ, q11)) hm rfl (by omega) ⟨Nat.le_of_ble_eq_true rfl, Nat.le_of_ble_eq_true rfl⟩ (rc2 rfl g10) rfl rfl ml_183 rfl (Nat.le_of_ble_eq_true rfl) (tf183 h11 (by omega)) ?_
    show Ex d 185 30 [(2, ((v0 : Nat) : Int)), (0, v1), (0, v2), (0, s.1), (9, 0), (9, 0), (9, 0), (9, 0)] [] (G, ρ, q11) rr
    refine Ex_run 2 (i' := 32) (L' := [(2, ((v0 : Nat) : Int)), (0, v1), (0, v2), (0, 0), (9, 0), (9, 0), (9, 0), (9, 0)]) (st' := []) (h' := (G, ρ, q11)) hm rfl (cjc (Nat.le_of_ble_eq_true rfl) cjn) ?_
    exact (Ex_lp (A := e185_32 G ρ d v0 v1 v2 ) (B := (Bl G ρ)) (fun s x e rr hk => tf185_b32 e hd rr hk) FU _ _ e rr hk) _ _ _ _
theorem tf185 {G : Gg} {ρ : Rg} {d : Nat} {v0 : Nat} {v1 : Int} {v2 : Int} {m : Sg} {x : Int × Sg} (e : f185 G ρ v0 v1 v2 m = some x) (hd : 2 ≤ d) : Ex d 185 0 [(2, ((v0 : Nat) : Int)), (0, v1), (0, v2), (9, 0), (9, 0), (9, 0), (9, 0), (9, 0)] [] (G, ρ, m) (some (1, x.1), (G, ρ, x.2)) := by
  unfold f185 at e
  have hm := mi_185
  generalize hk : (some (1, x.1), (G, ρ, x.2)) = rr
  replace hk : (Bl G ρ) x rr := hk.symm
  refine Ex_run 2 (i' := 2) (L' := [(2, ((v0 : Nat) : Int)), (0, v1), (0, v2), (9, 0), (9, 0), (9, 0), (9, 0), (9, 0)]) (st' := [(0, v1), (2, ((v0 : Nat) : Int))]) (h' := (G, ρ, m)) hm rfl cjn ?_
  obtain ⟨g1, e⟩ := gd_s e
  obtain ⟨q2, h2, e⟩ := bn_s e
  refine Ex_callm (z := 168) (na := 2) (ck := 15) (as := [(2, ((v0 : Nat) : Int)), (0, v1)]) (rest := []) (E0 := [(2, ((v0 : Nat) : Int)), (0, v1)]) (v := some (0, q2)) (h1 := (G, ρ, m)) hm rfl (by omega) ⟨Nat.le_of_ble_eq_true rfl, Nat.le_of_ble_eq_true rfl⟩ (rc2 rfl g1) rfl rfl ml_168 rfl (Nat.le_of_ble_eq_true rfl) (tf168 h2 (by omega)) ?_
  show Ex d 185 3 [(2, ((v0 : Nat) : Int)), (0, v1), (0, v2), (9, 0), (9, 0), (9, 0), (9, 0), (9, 0)] [(0, q2)] (G, ρ, m) rr
  by_cases c3 : q2 = 0
  · replace e := it_p e c3
    refine Ex_if1t (c := 0) (tgt := 8) hm rfl (bt0 c3) ?_
    refine Ex_run 1 (i' := 9) (L' := [(2, ((v0 : Nat) : Int)), (0, v1), (0, v2), (9, 0), (9, 0), (9, 0), (9, 0), (9, 0)]) (st' := [(1, (-4611686018427387904))]) (h' := (G, ρ, m)) hm rfl cjn ?_
    cases e
    cases hk
    exact Ex_ret (k := 3) hm rfl ⟨_, rfl, rfl⟩
  · replace e := it_n e c3
    refine Ex_if1f (c := 0) (tgt := 8) hm rfl (bf0 c3) ?_
    refine Ex_run 2 (i' := 6) (L' := [(2, ((v0 : Nat) : Int)), (0, v1), (0, v2), (9, 0), (9, 0), (9, 0), (9, 0), (9, 0)]) (st' := [(0, v2), (2, ((v0 : Nat) : Int))]) (h' := (G, ρ, m)) hm rfl cjn ?_
    obtain ⟨q4, h4, e⟩ := bn_s e
    refine Ex_callm (z := 168) (na := 2) (ck := 15) (as := [(2, ((v0 : Nat) : Int)), (0, v2)]) (rest := []) (E0 := [(2, ((v0 : Nat) : Int)), (0, v2)]) (v := some (0, q4)) (h1 := (G, ρ, m)) hm rfl (by omega) ⟨Nat.le_of_ble_eq_true rfl, Nat.le_of_ble_eq_true rfl⟩ (rc2 rfl g1) rfl rfl ml_168 rfl (Nat.le_of_ble_eq_true rfl) (tf168 h4 (by omega)) ?_
    show Ex d 185 7 [(2, ((v0 : Nat) : Int)), (0, v1), (0, v2), (9, 0), (9, 0), (9, 0), (9, 0), (9, 0)] [(0, q4)] (G, ρ, m) rr
    by_cases c5 : q4 = 0
    · replace e := it_p e c5
      refine Ex_if1f (c := 1) (tgt := 10) hm rfl (bf1 c5) ?_
      refine Ex_run 1 (i' := 9) (L' := [(2, ((v0 : Nat) : Int)), (0, v1), (0, v2), (9, 0), (9, 0), (9, 0), (9, 0), (9, 0)]) (st' := [(1, (-4611686018427387904))]) (h' := (G, ρ, m)) hm rfl cjn ?_
      cases e
      cases hk
      exact Ex_ret (k := 3) hm rfl ⟨_, rfl, rfl⟩
    · replace e := it_n e c5
      refine Ex_if1t (c := 1) (tgt := 10) hm rfl (bt1 c5) ?_
      refine Ex_run 2 (i' := 12) (L' := [(2, ((v0 : Nat) : Int)), (0, v1), (0, v2), (0, 0), (9, 0), (9, 0), (9, 0), (9, 0)]) (st' := []) (h' := (G, ρ, m)) hm rfl (cjc (Nat.le_of_ble_eq_true rfl) cjn) ?_
      exact (Ex_lp (A := e185_12 G ρ d v0 v1 v2 ) (B := (Bl G ρ)) (fun s x e rr hk => tf185_b12 e hd rr hk) FU _ _ e rr hk)
theorem tf186_39 {G : Gg} {ρ : Rg} {d : Nat} {v0 : Nat} {v1 : Int} {v2 : Int} {v4 : Int} {w0 : Int} {w1 : Nat} {m : Sg} {x : (Int × Sg) ⊕ (Int × Sg)} (e : f186_39 G ρ v0 v1 v2 v4 w0 w1 m = some x) (hd : 1 ≤ d) (rr : Option MV × Mh) (hk : (DS (e186_18 G ρ d v0 v1 v2) (Bi G ρ)) x rr) : Ex d 186 39 [(2, ((v0 : Nat) : Int)), (0, v1), (1, v2), (9, 0), (0, v4)] [(0, w0), (2, ((w1 : Nat) : Int))] (G, ρ, m) rr := by
  unfold f186_39 at e
  have hm := mi_186
  obtain ⟨g9, e⟩ := gd_s e
  refine Ex_run 3 (i' := 18) (L' := [(2, ((v0 : Nat) : Int)), (0, v1), (1, v2), (9, 0), (0, (w32 (v4 + 1)))]) (st' := []) (h' := (G, ρ, (put m w1 29 w0))) hm rfl (cjc (gk_b g9) cjn) ?_
  cases e
  exact hk
theorem tf186_b18 {G : Gg} {ρ : Rg} {d : Nat} {v0 : Nat} {v1 : Int} {v2 : Int} {s : Int × Sg} {x : (Int × Sg) ⊕ (Int × Sg)} (e : f186_b18 G ρ v0 v1 v2 s = some x) (hd : 1 ≤ d) (rr : Option MV × Mh) (hk : (DS (e186_18 G ρ d v0 v1 v2) (Bi G ρ)) x rr) : e186_18 G ρ d v0 v1 v2 s rr := by
  unfold f186_b18 at e
  have hm := mi_186
  show Ex d 186 18 [(2, ((v0 : Nat) : Int)), (0, v1), (1, v2), (9, 0), (0, s.1)] [] (G, ρ, s.2) rr
  refine Ex_run 2 (i' := 20) (L' := [(2, ((v0 : Nat) : Int)), (0, v1), (1, v2), (9, 0), (0, s.1)]) (st' := [(0, v1), (0, s.1)]) (h' := (G, ρ, s.2)) hm rfl cjn ?_
  by_cases c5 : s.1 < v1
  · replace e := it_p e c5
    refine Ex_if2f (c := 3) (tgt := 42) hm rfl (bf3 c5) ?_
    obtain ⟨g6, e⟩ := gd_s e
    obtain ⟨g7, e⟩ := gd_s e
    obtain ⟨g8, e⟩ := gd_s e
    refine Ex_run 18 (i' := 39) (L' := [(2, ((v0 : Nat) : Int)), (0, v1), (1, v2), (9, 0), (0, s.1)]) (st' := [(0, (g_add ((put s.2 (ρ v0 28) (s.2 v0 29) (w32 (k_and (k_shr v2 (g_mul 8 s.1)) 255))) v0 29) 1)), (2, ((v0 : Nat) : Int))]) (h' := (G, ρ, (put s.2 (ρ v0 28) (s.2 v0 29) (w32 (k_and (k_shr v2 (g_mul 8 s.1)) 255))))) hm rfl (cjc (gk_b g6) (cjc (gk_b g6) (cjc (gk_b g7) (cjc g8 (cjc (gk_b g6) cjn))))) ?_
    exact tf186_39 e hd rr hk
  · replace e := it_n e c5
    refine Ex_if2t (c := 3) (tgt := 42) hm rfl (bt3 c5) ?_
    obtain ⟨x, e, hx⟩ := xr_s e
    replace hk : (Bi G ρ) x rr := by rw [hx] at hk; exact hk
    obtain ⟨g10, e⟩ := gd_s e
    refine Ex_run 2 (i' := 44) (L' := [(2, ((v0 : Nat) : Int)), (0, v1), (1, v2), (9, 0), (0, s.1)]) (st' := [(0, (s.2 v0 29))]) (h' := (G, ρ, s.2)) hm rfl (cjc (gk_b g10) cjn) ?_
    cases e
    cases hk
    exact Ex_ret (k := 1) hm rfl ⟨_, rfl, rfl⟩
theorem tf186 {G : Gg} {ρ : Rg} {d : Nat} {v0 : Nat} {v1 : Int} {v2 : Int} {m : Sg} {x : Int × Sg} (e : f186 G ρ v0 v1 v2 m = some x) (hd : 1 ≤ d) : Ex d 186 0 [(2, ((v0 : Nat) : Int)), (0, v1), (1, v2), (9, 0), (9, 0)] [] (G, ρ, m) (some (0, x.1), (G, ρ, x.2)) := by
  unfold f186 at e
  have hm := mi_186
  generalize hk : (some (0, x.1), (G, ρ, x.2)) = rr
  replace hk : (Bi G ρ) x rr := hk.symm
  refine Ex_run 4 (i' := 4) (L' := [(2, ((v0 : Nat) : Int)), (0, v1), (1, v2), (9, 0), (9, 0)]) (st' := [(1, 8), (1, 1), (1, v1)]) (h' := (G, ρ, m)) hm rfl cjn ?_
  obtain ⟨q1, h1, e⟩ := bn_s e
  refine Ex_callm (z := 143) (na := 3) (ck := 0) (as := [(1, v1), (1, 1), (1, 8)]) (rest := []) (E0 := [(1, v1), (9, 0), (1, 1), (9, 0), (1, 8), (9, 0)]) (v := some (0, q1)) (h1 := (G, ρ, m)) hm rfl (by omega) ⟨Nat.le_of_ble_eq_true rfl, Nat.le_of_ble_eq_true rfl⟩ (trivial) rfl rfl ml_143 rfl (Nat.le_of_ble_eq_true rfl) (tf143 h1 (by omega)) ?_
  show Ex d 186 5 [(2, ((v0 : Nat) : Int)), (0, v1), (1, v2), (9, 0), (9, 0)] [(0, q1)] (G, ρ, m) rr
  by_cases c2 : q1 = 0
  · replace e := it_p e c2
    refine Ex_if1f (c := 1) (tgt := 8) hm rfl (bf1 c2) ?_
    refine Ex_run 1 (i' := 7) (L' := [(2, ((v0 : Nat) : Int)), (0, v1), (1, v2), (9, 0), (9, 0)]) (st' := [(0, (-2))]) (h' := (G, ρ, m)) hm rfl cjn ?_
    cases e
    cases hk
    exact Ex_ret (k := 1) hm rfl ⟨_, rfl, rfl⟩
  · replace e := it_n e c2
    refine Ex_if1t (c := 1) (tgt := 8) hm rfl (bt1 c2) ?_
    obtain ⟨g3, e⟩ := gd_s e
    refine Ex_run 5 (i' := 13) (L' := [(2, ((v0 : Nat) : Int)), (0, v1), (1, v2), (9, 0), (9, 0)]) (st' := [(0, 160), (0, (g_add (m v0 29) v1))]) (h' := (G, ρ, m)) hm rfl (cjc (gk_b g3) cjn) ?_
    by_cases c4 : 160 < (g_add (m v0 29) v1)
    · replace e := it_p e c4
      refine Ex_if2f (c := 5) (tgt := 16) hm rfl (bf5 c4) ?_
      refine Ex_run 1 (i' := 15) (L' := [(2, ((v0 : Nat) : Int)), (0, v1), (1, v2), (9, 0), (9, 0)]) (st' := [(0, (-4))]) (h' := (G, ρ, m)) hm rfl cjn ?_
      cases e
      cases hk
      exact Ex_ret (k := 1) hm rfl ⟨_, rfl, rfl⟩
    · replace e := it_n e c4
      refine Ex_if2t (c := 5) (tgt := 16) hm rfl (bt5 c4) ?_
      refine Ex_run 2 (i' := 18) (L' := [(2, ((v0 : Nat) : Int)), (0, v1), (1, v2), (9, 0), (0, 0)]) (st' := []) (h' := (G, ρ, m)) hm rfl (cjc (Nat.le_of_ble_eq_true rfl) cjn) ?_
      exact (Ex_lp (A := e186_18 G ρ d v0 v1 v2 ) (B := (Bi G ρ)) (fun s x e rr hk => tf186_b18 e hd rr hk) FU _ _ e rr hk)
theorem tf187 {G : Gg} {ρ : Rg} {d : Nat} {v0 : Nat} {v1 : Int} {m : Sg} {x : Int} (e : f187 G ρ v0 v1 m = some x) (hd : 0 ≤ d) : Ex d 187 0 [(2, ((v0 : Nat) : Int)), (0, v1)] [] (G, ρ, m) (some (0, x), (G, ρ, m)) := by
  unfold f187 at e
  have hm := mi_187
  generalize hk : (some (0, x), (G, ρ, m)) = rr
  replace hk : (Bpi G ρ m) x rr := hk.symm
  obtain ⟨g1, e⟩ := gd_s e
  refine Ex_run 3 (i' := 3) (L' := [(2, ((v0 : Nat) : Int)), (0, v1)]) (st' := [(0, (m v0 31)), (0, v1)]) (h' := (G, ρ, m)) hm rfl (cjc (gk_b g1) cjn) ?_
  by_cases c2 : v1 < (m v0 31)
  · replace e := it_p e c2
    refine Ex_if2f (c := 3) (tgt := 12) hm rfl (bf3 c2) ?_
    obtain ⟨g3, e⟩ := gd_s e
    obtain ⟨g4, e⟩ := gd_s e
    refine Ex_run 8 (i' := 13) (L' := [(2, ((v0 : Nat) : Int)), (0, v1)]) (st' := [(0, (m (ρ v0 24) (g_add (m v0 30) v1)))]) (h' := (G, ρ, m)) hm rfl (cjc (gk_b g1) (cjc (gk_b g1) (cjc (gk_b g3) (cjc g4 cjn)))) ?_
    cases e
    cases hk
    exact Ex_ret (k := 1) hm rfl ⟨_, rfl, rfl⟩
  · replace e := it_n e c2
    refine Ex_if2t (c := 3) (tgt := 12) hm rfl (bt3 c2) ?_
    refine Ex_run 1 (i' := 13) (L' := [(2, ((v0 : Nat) : Int)), (0, v1)]) (st' := [(0, (-1))]) (h' := (G, ρ, m)) hm rfl cjn ?_
    cases e
    cases hk
    exact Ex_ret (k := 1) hm rfl ⟨_, rfl, rfl⟩
theorem tf188_12 {G : Gg} {ρ : Rg} {d : Nat} {v0 : Nat} {m : Sg} {x : (Sg) ⊕ (Sg)} (e : f188_12 G ρ v0 m = some x) (hd : 1 ≤ d) (rr : Option MV × Mh) (hk : (DS (e188_0 G ρ d v0) (Bv G ρ)) x rr) : Ex d 188 12 [(2, ((v0 : Nat) : Int)), (9, 0), (9, 0)] [] (G, ρ, m) rr := by
  unfold f188_12 at e
  have hm := mi_188
  obtain ⟨g4, e⟩ := gd_s e
  refine Ex_run 7 (i' := 0) (L' := [(2, ((v0 : Nat) : Int)), (9, 0), (9, 0)]) (st' := []) (h' := (G, ρ, (put m v0 35 (g_add (m v0 35) 1)))) hm rfl (cjc (gk_b g4) (cjc (gk_b g4) cjn)) ?_
  cases e
  exact hk
theorem tf188_39 {G : Gg} {ρ : Rg} {d : Nat} {w0 : Int} {w1 : Nat} {m : Sg} {x : Sg} (e : f188_39 G ρ w0 w1 m = some x) (hd : 1 ≤ d) (rr : Option MV × Mh) (hk : (Bv G ρ) x rr) (j0 : Nat) (j1 : Int) : Ex d 188 39 [(2, ((j0 : Nat) : Int)), (0, j1), (9, 0)] [(0, w0), (2, ((w1 : Nat) : Int))] (G, ρ, m) rr := by
  unfold f188_39 at e
  have hm := mi_188
  obtain ⟨g12, e⟩ := gd_s e
  refine Ex_run 2 (i' := 189) (L' := [(2, ((j0 : Nat) : Int)), (0, j1), (9, 0)]) (st' := []) (h' := (G, ρ, (put m w1 33 w0))) hm rfl (cjc (gk_b g12) cjn) ?_
  cases e
  cases hk
  exact Ex_ret (k := 0) hm rfl ⟨rfl, rfl⟩
theorem tf188_35 {G : Gg} {ρ : Rg} {d : Nat} {v0 : Nat} {w0 : Int} {w1 : Nat} {m : Sg} {x : Sg} (e : f188_35 G ρ v0 w0 w1 m = some x) (hd : 1 ≤ d) (rr : Option MV × Mh) (hk : (Bv G ρ) x rr) (j1 : Int) : Ex d 188 35 [(2, ((v0 : Nat) : Int)), (0, j1), (9, 0)] [(0, w0), (2, ((w1 : Nat) : Int))] (G, ρ, m) rr := by
  unfold f188_35 at e
  have hm := mi_188
  obtain ⟨g10, e⟩ := gd_s e
  obtain ⟨g11, e⟩ := gd_s e
  refine Ex_run 4 (i' := 39) (L' := [(2, ((v0 : Nat) : Int)), (0, j1), (9, 0)]) (st' := [(0, ((put m w1 32 w0) v0 31)), (2, ((v0 : Nat) : Int))]) (h' := (G, ρ, (put m w1 32 w0))) hm rfl (cjc (gk_b g10) (cjc (gk_b g11) cjn)) ?_
  exact tf188_39 e hd rr hk _ _
theorem tf188_188 {G : Gg} {ρ : Rg} {d : Nat} {w0 : Int} {w1 : Nat} {m : Sg} {x : Sg} (e : f188_188 G ρ w0 w1 m = some x) (hd : 1 ≤ d) (rr : Option MV × Mh) (hk : (Bv G ρ) x rr) (j0 : Nat) (j1 : Int) : Ex d 188 188 [(2, ((j0 : Nat) : Int)), (0, j1), (9, 0)] [(0, w0), (2, ((w1 : Nat) : Int))] (G, ρ, m) rr := by
  unfold f188_188 at e
  have hm := mi_188
  obtain ⟨g21, e⟩ := gd_s e
  refine Ex_run 1 (i' := 189) (L' := [(2, ((j0 : Nat) : Int)), (0, j1), (9, 0)]) (st' := []) (h' := (G, ρ, (put m w1 35 w0))) hm rfl (cjc (gk_b g21) cjn) ?_
  cases e
  cases hk
  exact Ex_ret (k := 0) hm rfl ⟨rfl, rfl⟩
theorem tf188_182 {G : Gg} {ρ : Rg} {d : Nat} {v0 : Nat} {w0 : Int} {w1 : Nat} {m : Sg} {x : Sg} (e : f188_182 G ρ v0 w0 w1 m = some x) (hd : 1 ≤ d) (rr : Option MV × Mh) (hk : (Bv G ρ) x rr) (j1 : Int) : Ex d 188 182 [(2, ((v0 : Nat) : Int)), (0, j1), (9, 0)] [(1, w0), (2, ((w1 : Nat) : Int))] (G, ρ, m) rr := by
  unfold f188_182 at e
  have hm := mi_188
  obtain ⟨g19, e⟩ := gd_s e
  obtain ⟨g20, e⟩ := gd_s e
  refine Ex_run 6 (i' := 188) (L' := [(2, ((v0 : Nat) : Int)), (0, j1), (9, 0)]) (st' := [(0, (g_add ((put m w1 34 w0) v0 35) 1)), (2, ((v0 : Nat) : Int))]) (h' := (G, ρ, (put m w1 34 w0))) hm rfl (cjc (gk_b g19) (cjc (gk_b g20) cjn)) ?_
  exact tf188_188 e hd rr hk _ _
theorem tf188_176 {G : Gg} {ρ : Rg} {d : Nat} {v0 : Nat} {v1 : Int} {m : Sg} {x : Sg} (e : f188_176 G ρ v0 v1 m = some x) (hd : 1 ≤ d) (rr : Option MV × Mh) (hk : (Bv G ρ) x rr) : Ex d 188 176 [(2, ((v0 : Nat) : Int)), (0, v1), (9, 0)] [] (G, ρ, m) rr := by
  unfold f188_176 at e
  have hm := mi_188
  obtain ⟨g18, e⟩ := gd_s e
  refine Ex_run 6 (i' := 182) (L' := [(2, ((v0 : Nat) : Int)), (0, v1), (9, 0)]) (st' := [(1, v1), (2, ((v0 : Nat) : Int))]) (h' := (G, ρ, (put m v0 32 3))) hm rfl (cjc (gk_b g18) cjn) ?_
  exact tf188_182 e hd rr hk _
theorem tf188_150 {G : Gg} {ρ : Rg} {d : Nat} {w0 : Int} {w1 : Nat} {m : Sg} {x : Sg} (e : f188_150 G ρ w0 w1 m = some x) (hd : 1 ≤ d) (rr : Option MV × Mh) (hk : (Bv G ρ) x rr) (j0 : Nat) (j1 : Int) (j2 : Int) : Ex d 188 150 [(2, ((j0 : Nat) : Int)), (0, j1), (0, j2)] [(0, w0), (2, ((w1 : Nat) : Int))] (G, ρ, m) rr := by
  unfold f188_150 at e
  have hm := mi_188
  obtain ⟨g36, e⟩ := gd_s e
  refine Ex_run 2 (i' := 189) (L' := [(2, ((j0 : Nat) : Int)), (0, j1), (0, j2)]) (st' := []) (h' := (G, ρ, (put m w1 32 w0))) hm rfl (cjc (gk_b g36) cjn) ?_
  cases e
  cases hk
  exact Ex_ret (k := 0) hm rfl ⟨rfl, rfl⟩
theorem tf188_141 {G : Gg} {ρ : Rg} {d : Nat} {v0 : Nat} {v2 : Int} {w0 : Int} {w1 : Nat} {m : Sg} {x : (Int × Sg) ⊕ (Sg)} (e : f188_141 G ρ v0 v2 w0 w1 m = some x) (hd : 1 ≤ d) (rr : Option MV × Mh) (hk : (DS (e188_106 G ρ d v0) (Bv G ρ)) x rr) (j1 : Int) : Ex d 188 141 [(2, ((v0 : Nat) : Int)), (0, j1), (0, v2)] [(0, w0), (2, ((w1 : Nat) : Int))] (G, ρ, m) rr := by
  unfold f188_141 at e
  have hm := mi_188
  obtain ⟨g41, e⟩ := gd_s e
  refine Ex_run 2 (i' := 106) (L' := [(2, ((v0 : Nat) : Int)), (0, j1), (0, v2)]) (st' := []) (h' := (G, ρ, (put m w1 35 w0))) hm rfl (cjc (gk_b g41) cjn) ?_
  cases e
  exact hk _
theorem tf188_134 {G : Gg} {ρ : Rg} {d : Nat} {v0 : Nat} {v2 : Int} {w0 : Int} {w1 : Nat} {m : Sg} {x : (Int × Sg) ⊕ (Sg)} (e : f188_134 G ρ v0 v2 w0 w1 m = some x) (hd : 1 ≤ d) (rr : Option MV × Mh) (hk : (DS (e188_106 G ρ d v0) (Bv G ρ)) x rr) (j1 : Int) : Ex d 188 134 [(2, ((v0 : Nat) : Int)), (0, j1), (0, v2)] [(1, w0), (2, ((w1 : Nat) : Int))] (G, ρ, m) rr := by
  unfold f188_134 at e
  have hm := mi_188
  obtain ⟨g39, e⟩ := gd_s e
  obtain ⟨g40, e⟩ := gd_s e
  refine Ex_run 7 (i' := 141) (L' := [(2, ((v0 : Nat) : Int)), (0, j1), (0, (w32 (v2 + 1)))]) (st' := [(0, (g_add ((put m w1 34 w0) v0 35) 1)), (2, ((v0 : Nat) : Int))]) (h' := (G, ρ, (put m w1 34 w0))) hm rfl (cjc (gk_b g39) (cjc (gk_b g40) cjn)) ?_
  exact tf188_141 e hd rr hk _
theorem tf188_b106 {G : Gg} {ρ : Rg} {d : Nat} {v0 : Nat} {s : Int × Sg} {x : (Int × Sg) ⊕ (Sg)} (e : f188_b106 G ρ v0 s = some x) (hd : 1 ≤ d) (rr : Option MV × Mh) (hk : (DS (e188_106 G ρ d v0) (Bv G ρ)) x rr) : e188_106 G ρ d v0 s rr := by
  unfold f188_b106 at e
  have hm := mi_188
  show ∀ (j1 : Int), Ex d 188 106 [(2, ((v0 : Nat) : Int)), (0, j1), (0, s.1)] [] (G, ρ, s.2) rr
  intro j1
  obtain ⟨g31, e⟩ := gd_s e
  refine Ex_run 3 (i' := 109) (L' := [(2, ((v0 : Nat) : Int)), (0, j1), (0, s.1)]) (st' := [(0, (s.2 v0 35)), (2, ((v0 : Nat) : Int))]) (h' := (G, ρ, s.2)) hm rfl (cjc (gk_b g31) cjn) ?_
  obtain ⟨q32, h32, e⟩ := bn_s e
  refine Ex_callm (z := 187) (na := 2) (ck := 15) (as := [(2, ((v0 : Nat) : Int)), (0, (s.2 v0 35))]) (rest := []) (E0 := [(2, ((v0 : Nat) : Int)), (0, (s.2 v0 35))]) (v := some (0, q32)) (h1 := (G, ρ, s.2)) hm rfl (by omega) ⟨Nat.le_of_ble_eq_true rfl, Nat.le_of_ble_eq_true rfl⟩ (rc2 rfl g31) rfl rfl ml_187 rfl (Nat.le_of_ble_eq_true rfl) (tf187 h32 (by omega)) ?_
  show Ex d 188 110 [(2, ((v0 : Nat) : Int)), (0, j1), (0, s.1)] [(0, q32)] (G, ρ, s.2) rr
  refine Ex_run 3 (i' := 113) (L' := [(2, ((v0 : Nat) : Int)), (0, j1), (0, s.1)]) (st' := [(1, 57), (1, 48), (1, q32)]) (h' := (G, ρ, s.2)) hm rfl cjn ?_
  obtain ⟨q33, h33, e⟩ := bn_s e
  refine Ex_callm (z := 143) (na := 3) (ck := 0) (as := [(1, q32), (1, 48), (1, 57)]) (rest := []) (E0 := [(1, q32), (9, 0), (1, 48), (9, 0), (1, 57), (9, 0)]) (v := some (0, q33)) (h1 := (G, ρ, s.2)) hm rfl (by omega) ⟨Nat.le_of_ble_eq_true rfl, Nat.le_of_ble_eq_true rfl⟩ (trivial) rfl rfl ml_143 rfl (Nat.le_of_ble_eq_true rfl) (tf143 h33 (by omega)) ?_
  show Ex d 188 114 [(2, ((v0 : Nat) : Int)), (0, j1), (0, s.1)] [(0, q33)] (G, ρ, s.2) rr
  by_cases c34 : q33 = 0
  · replace e := it_p e c34
    refine Ex_if1t (c := 0) (tgt := 143) hm rfl (bt0 c34) ?_
    obtain ⟨x, e, hx⟩ := xr_s e
    replace hk : (Bv G ρ) x rr := by rw [hx] at hk; exact hk
    refine Ex_run 3 (i' := 146) (L' := [(2, ((v0 : Nat) : Int)), (0, j1), (0, s.1)]) (st' := [(0, 4), (0, s.1), (2, ((v0 : Nat) : Int))]) (h' := (G, ρ, s.2)) hm rfl cjn ?_
    by_cases c35 : 4 < s.1
    · replace e := it_p e c35
      refine Ex_if2f (c := 5) (tgt := 149) hm rfl (bf5 c35) ?_
      refine Ex_run 2 (i' := 150) (L' := [(2, ((v0 : Nat) : Int)), (0, j1), (0, s.1)]) (st' := [(0, 4), (2, ((v0 : Nat) : Int))]) (h' := (G, ρ, s.2)) hm rfl cjn ?_
      exact tf188_150 e hd rr hk _ _ _
    · replace e := it_n e c35
      refine Ex_if2t (c := 5) (tgt := 149) hm rfl (bt5 c35) ?_
      refine Ex_run 1 (i' := 150) (L' := [(2, ((v0 : Nat) : Int)), (0, j1), (0, s.1)]) (st' := [(0, 2), (2, ((v0 : Nat) : Int))]) (h' := (G, ρ, s.2)) hm rfl cjn ?_
      exact tf188_150 e hd rr hk _ _ _
  · replace e := it_n e c34
    refine Ex_if1f (c := 0) (tgt := 143) hm rfl (bf0 c34) ?_
    refine Ex_run 3 (i' := 118) (L' := [(2, ((v0 : Nat) : Int)), (0, j1), (0, s.1)]) (st' := [(0, 4), (0, s.1), (2, ((v0 : Nat) : Int))]) (h' := (G, ρ, s.2)) hm rfl cjn ?_
    by_cases c37 : s.1 < 4
    · replace e := it_p e c37
      refine Ex_if2f (c := 3) (tgt := 132) hm rfl (bf3 c37) ?_
      refine Ex_run 7 (i' := 126) (L' := [(2, ((v0 : Nat) : Int)), (0, j1), (0, s.1)]) (st' := [(0, (s.2 v0 35)), (2, ((v0 : Nat) : Int)), (1, (k_mul 10 (s.2 v0 34))), (2, ((v0 : Nat) : Int))]) (h' := (G, ρ, s.2)) hm rfl (cjc (gk_b g31) (cjc (gk_b g31) cjn)) ?_
      obtain ⟨q38, h38, e⟩ := bn_s e
      refine Ex_callm (z := 187) (na := 2) (ck := 15) (as := [(2, ((v0 : Nat) : Int)), (0, (s.2 v0 35))]) (rest := [(1, (k_mul 10 (s.2 v0 34))), (2, ((v0 : Nat) : Int))]) (E0 := [(2, ((v0 : Nat) : Int)), (0, (s.2 v0 35))]) (v := some (0, q38)) (h1 := (G, ρ, s.2)) hm rfl (by omega) ⟨Nat.le_of_ble_eq_true rfl, Nat.le_of_ble_eq_true rfl⟩ (rc2 rfl g31) rfl rfl ml_187 rfl (Nat.le_of_ble_eq_true rfl) (tf187 h38 (by omega)) ?_
      show Ex d 188 127 [(2, ((v0 : Nat) : Int)), (0, j1), (0, s.1)] [(0, q38), (1, (k_mul 10 (s.2 v0 34))), (2, ((v0 : Nat) : Int))] (G, ρ, s.2) rr
      refine Ex_run 5 (i' := 134) (L' := [(2, ((v0 : Nat) : Int)), (0, j1), (0, s.1)]) (st' := [(1, (k_sub (k_add (k_mul 10 (s.2 v0 34)) q38) 48)), (2, ((v0 : Nat) : Int))]) (h' := (G, ρ, s.2)) hm rfl cjn ?_
      exact tf188_134 e hd rr hk _
    · replace e := it_n e c37
      refine Ex_if2t (c := 3) (tgt := 132) hm rfl (bt3 c37) ?_
      refine Ex_run 2 (i' := 134) (L' := [(2, ((v0 : Nat) : Int)), (0, j1), (0, s.1)]) (st' := [(1, (s.2 v0 34)), (2, ((v0 : Nat) : Int))]) (h' := (G, ρ, s.2)) hm rfl (cjc (gk_b g31) cjn) ?_
      exact tf188_134 e hd rr hk _
theorem tf188_103 {G : Gg} {ρ : Rg} {d : Nat} {v0 : Nat} {w0 : Int} {w1 : Nat} {m : Sg} {x : Sg} (e : f188_103 G ρ v0 w0 w1 m = some x) (hd : 1 ≤ d) (rr : Option MV × Mh) (hk : (Bv G ρ) x rr) (j1 : Int) : Ex d 188 103 [(2, ((v0 : Nat) : Int)), (0, j1), (9, 0)] [(1, w0), (2, ((w1 : Nat) : Int))] (G, ρ, m) rr := by
  unfold f188_103 at e
  have hm := mi_188
  obtain ⟨g30, e⟩ := gd_s e
  refine Ex_run 3 (i' := 106) (L' := [(2, ((v0 : Nat) : Int)), (0, j1), (0, 0)]) (st' := []) (h' := (G, ρ, (put m w1 34 w0))) hm rfl (cjc (gk_b g30) (cjc (Nat.le_of_ble_eq_true rfl) cjn)) ?_
  exact (Ex_lp (A := e188_106 G ρ d v0 ) (B := (Bv G ρ)) (fun s x e rr hk => tf188_b106 e hd rr hk) FU _ _ e rr hk) _
theorem tf188_100 {G : Gg} {ρ : Rg} {d : Nat} {v0 : Nat} {w0 : Int} {w1 : Nat} {m : Sg} {x : Sg} (e : f188_100 G ρ v0 w0 w1 m = some x) (hd : 1 ≤ d) (rr : Option MV × Mh) (hk : (Bv G ρ) x rr) (j1 : Int) : Ex d 188 100 [(2, ((v0 : Nat) : Int)), (0, j1), (9, 0)] [(0, w0), (2, ((w1 : Nat) : Int))] (G, ρ, m) rr := by
  unfold f188_100 at e
  have hm := mi_188
  obtain ⟨g29, e⟩ := gd_s e
  refine Ex_run 3 (i' := 103) (L' := [(2, ((v0 : Nat) : Int)), (0, j1), (9, 0)]) (st' := [(1, 0), (2, ((v0 : Nat) : Int))]) (h' := (G, ρ, (put m w1 32 w0))) hm rfl (cjc (gk_b g29) cjn) ?_
  exact tf188_103 e hd rr hk _
theorem tf188_89 {G : Gg} {ρ : Rg} {d : Nat} {v0 : Nat} {v2 : Int} {w0 : Int} {w1 : Nat} {m : Sg} {x : (Int × Sg) ⊕ (Sg)} (e : f188_89 G ρ v0 v2 w0 w1 m = some x) (hd : 1 ≤ d) (rr : Option MV × Mh) (hk : (DS (e188_55 G ρ d v0) (Bv G ρ)) x rr) (j1 : Int) : Ex d 188 89 [(2, ((v0 : Nat) : Int)), (0, j1), (0, v2)] [(0, w0), (2, ((w1 : Nat) : Int))] (G, ρ, m) rr := by
  unfold f188_89 at e
  have hm := mi_188
  obtain ⟨g52, e⟩ := gd_s e
  refine Ex_run 2 (i' := 55) (L' := [(2, ((v0 : Nat) : Int)), (0, j1), (0, v2)]) (st' := []) (h' := (G, ρ, (put m w1 35 w0))) hm rfl (cjc (gk_b g52) cjn) ?_
  cases e
  exact hk _
theorem tf188_82 {G : Gg} {ρ : Rg} {d : Nat} {v0 : Nat} {v2 : Int} {w0 : Int} {w1 : Nat} {m : Sg} {x : (Int × Sg) ⊕ (Sg)} (e : f188_82 G ρ v0 v2 w0 w1 m = some x) (hd : 1 ≤ d) (rr : Option MV × Mh) (hk : (DS (e188_55 G ρ d v0) (Bv G ρ)) x rr) (j1 : Int) : Ex d 188 82 [(2, ((v0 : Nat) : Int)), (0, j1), (0, v2)] [(1, w0), (2, ((w1 : Nat) : Int))] (G, ρ, m) rr := by
  unfold f188_82 at e
  have hm := mi_188
  obtain ⟨g50, e⟩ := gd_s e
  obtain ⟨g51, e⟩ := gd_s e
  refine Ex_run 7 (i' := 89) (L' := [(2, ((v0 : Nat) : Int)), (0, j1), (0, (w32 (v2 + 1)))]) (st' := [(0, (g_add ((put m w1 34 w0) v0 35) 1)), (2, ((v0 : Nat) : Int))]) (h' := (G, ρ, (put m w1 34 w0))) hm rfl (cjc (gk_b g50) (cjc (gk_b g51) cjn)) ?_
  exact tf188_89 e hd rr hk _
theorem tf188_b55 {G : Gg} {ρ : Rg} {d : Nat} {v0 : Nat} {s : Int × Sg} {x : (Int × Sg) ⊕ (Sg)} (e : f188_b55 G ρ v0 s = some x) (hd : 1 ≤ d) (rr : Option MV × Mh) (hk : (DS (e188_55 G ρ d v0) (Bv G ρ)) x rr) : e188_55 G ρ d v0 s rr := by
  unfold f188_b55 at e
  have hm := mi_188
  show ∀ (j1 : Int), Ex d 188 55 [(2, ((v0 : Nat) : Int)), (0, j1), (0, s.1)] [] (G, ρ, s.2) rr
  intro j1
  obtain ⟨g44, e⟩ := gd_s e
  refine Ex_run 3 (i' := 58) (L' := [(2, ((v0 : Nat) : Int)), (0, j1), (0, s.1)]) (st' := [(0, (s.2 v0 35)), (2, ((v0 : Nat) : Int))]) (h' := (G, ρ, s.2)) hm rfl (cjc (gk_b g44) cjn) ?_
  obtain ⟨q45, h45, e⟩ := bn_s e
  refine Ex_callm (z := 187) (na := 2) (ck := 15) (as := [(2, ((v0 : Nat) : Int)), (0, (s.2 v0 35))]) (rest := []) (E0 := [(2, ((v0 : Nat) : Int)), (0, (s.2 v0 35))]) (v := some (0, q45)) (h1 := (G, ρ, s.2)) hm rfl (by omega) ⟨Nat.le_of_ble_eq_true rfl, Nat.le_of_ble_eq_true rfl⟩ (rc2 rfl g44) rfl rfl ml_187 rfl (Nat.le_of_ble_eq_true rfl) (tf187 h45 (by omega)) ?_
  show Ex d 188 59 [(2, ((v0 : Nat) : Int)), (0, j1), (0, s.1)] [(0, q45)] (G, ρ, s.2) rr
  refine Ex_run 3 (i' := 62) (L' := [(2, ((v0 : Nat) : Int)), (0, j1), (0, s.1)]) (st' := [(1, 122), (1, 97), (1, q45)]) (h' := (G, ρ, s.2)) hm rfl cjn ?_
  obtain ⟨q46, h46, e⟩ := bn_s e
  refine Ex_callm (z := 143) (na := 3) (ck := 0) (as := [(1, q45), (1, 97), (1, 122)]) (rest := []) (E0 := [(1, q45), (9, 0), (1, 97), (9, 0), (1, 122), (9, 0)]) (v := some (0, q46)) (h1 := (G, ρ, s.2)) hm rfl (by omega) ⟨Nat.le_of_ble_eq_true rfl, Nat.le_of_ble_eq_true rfl⟩ (trivial) rfl rfl ml_143 rfl (Nat.le_of_ble_eq_true rfl) (tf143 h46 (by omega)) ?_
  show Ex d 188 63 [(2, ((v0 : Nat) : Int)), (0, j1), (0, s.1)] [(0, q46)] (G, ρ, s.2) rr
  by_cases c47 : q46 = 0
  · replace e := it_p e c47
    refine Ex_if1t (c := 0) (tgt := 91) hm rfl (bt0 c47) ?_
    obtain ⟨x, e, hx⟩ := xr_s e
    replace hk : (Bv G ρ) x rr := by rw [hx] at hk; exact hk
    refine Ex_run 1 (i' := 189) (L' := [(2, ((v0 : Nat) : Int)), (0, j1), (0, s.1)]) (st' := []) (h' := (G, ρ, s.2)) hm rfl cjn ?_
    cases e
    cases hk
    exact Ex_ret (k := 0) hm rfl ⟨rfl, rfl⟩
  · replace e := it_n e c47
    refine Ex_if1f (c := 0) (tgt := 91) hm rfl (bf0 c47) ?_
    refine Ex_run 3 (i' := 67) (L' := [(2, ((v0 : Nat) : Int)), (0, j1), (0, s.1)]) (st' := [(0, 8), (0, s.1), (2, ((v0 : Nat) : Int))]) (h' := (G, ρ, s.2)) hm rfl cjn ?_
    by_cases c48 : s.1 < 8
    · replace e := it_p e c48
      refine Ex_if2f (c := 3) (tgt := 81) hm rfl (bf3 c48) ?_
      refine Ex_run 7 (i' := 75) (L' := [(2, ((v0 : Nat) : Int)), (0, j1), (0, s.1)]) (st' := [(0, (s.2 v0 35)), (2, ((v0 : Nat) : Int)), (1, (k_mul 27 (s.2 v0 34))), (2, ((v0 : Nat) : Int))]) (h' := (G, ρ, s.2)) hm rfl (cjc (gk_b g44) (cjc (gk_b g44) cjn)) ?_
      obtain ⟨q49, h49, e⟩ := bn_s e
      refine Ex_callm (z := 187) (na := 2) (ck := 15) (as := [(2, ((v0 : Nat) : Int)), (0, (s.2 v0 35))]) (rest := [(1, (k_mul 27 (s.2 v0 34))), (2, ((v0 : Nat) : Int))]) (E0 := [(2, ((v0 : Nat) : Int)), (0, (s.2 v0 35))]) (v := some (0, q49)) (h1 := (G, ρ, s.2)) hm rfl (by omega) ⟨Nat.le_of_ble_eq_true rfl, Nat.le_of_ble_eq_true rfl⟩ (rc2 rfl g44) rfl rfl ml_187 rfl (Nat.le_of_ble_eq_true rfl) (tf187 h49 (by omega)) ?_
      show Ex d 188 76 [(2, ((v0 : Nat) : Int)), (0, j1), (0, s.1)] [(0, q49), (1, (k_mul 27 (s.2 v0 34))), (2, ((v0 : Nat) : Int))] (G, ρ, s.2) rr
      refine Ex_run 5 (i' := 82) (L' := [(2, ((v0 : Nat) : Int)), (0, j1), (0, s.1)]) (st' := [(1, (k_sub (k_add (k_mul 27 (s.2 v0 34)) q49) 96)), (2, ((v0 : Nat) : Int))]) (h' := (G, ρ, s.2)) hm rfl cjn ?_
      exact tf188_82 e hd rr hk _
    · replace e := it_n e c48
      refine Ex_if2t (c := 3) (tgt := 81) hm rfl (bt3 c48) ?_
      refine Ex_run 1 (i' := 82) (L' := [(2, ((v0 : Nat) : Int)), (0, j1), (0, s.1)]) (st' := [(1, (-1)), (2, ((v0 : Nat) : Int))]) (h' := (G, ρ, s.2)) hm rfl cjn ?_
      exact tf188_82 e hd rr hk _
theorem tf188_52 {G : Gg} {ρ : Rg} {d : Nat} {v0 : Nat} {w0 : Int} {w1 : Nat} {m : Sg} {x : Sg} (e : f188_52 G ρ v0 w0 w1 m = some x) (hd : 1 ≤ d) (rr : Option MV × Mh) (hk : (Bv G ρ) x rr) (j1 : Int) : Ex d 188 52 [(2, ((v0 : Nat) : Int)), (0, j1), (9, 0)] [(1, w0), (2, ((w1 : Nat) : Int))] (G, ρ, m) rr := by
  unfold f188_52 at e
  have hm := mi_188
  obtain ⟨g43, e⟩ := gd_s e
  refine Ex_run 3 (i' := 55) (L' := [(2, ((v0 : Nat) : Int)), (0, j1), (0, 0)]) (st' := []) (h' := (G, ρ, (put m w1 34 w0))) hm rfl (cjc (gk_b g43) (cjc (Nat.le_of_ble_eq_true rfl) cjn)) ?_
  exact (Ex_lp (A := e188_55 G ρ d v0 ) (B := (Bv G ρ)) (fun s x e rr hk => tf188_b55 e hd rr hk) FU _ _ e rr hk) _
theorem tf188_49 {G : Gg} {ρ : Rg} {d : Nat} {v0 : Nat} {w0 : Int} {w1 : Nat} {m : Sg} {x : Sg} (e : f188_49 G ρ v0 w0 w1 m = some x) (hd : 1 ≤ d) (rr : Option MV × Mh) (hk : (Bv G ρ) x rr) (j1 : Int) : Ex d 188 49 [(2, ((v0 : Nat) : Int)), (0, j1), (9, 0)] [(0, w0), (2, ((w1 : Nat) : Int))] (G, ρ, m) rr := by
  unfold f188_49 at e
  have hm := mi_188
  obtain ⟨g42, e⟩ := gd_s e
  refine Ex_run 3 (i' := 52) (L' := [(2, ((v0 : Nat) : Int)), (0, j1), (9, 0)]) (st' := [(1, 0), (2, ((v0 : Nat) : Int))]) (h' := (G, ρ, (put m w1 32 w0))) hm rfl (cjc (gk_b g42) cjn) ?_
  exact tf188_52 e hd rr hk _
theorem tf188_30 {G : Gg} {ρ : Rg} {d : Nat} {v0 : Nat} {v1 : Int} {w0 : Int} {w1 : Nat} {m : Sg} {x : Sg} (e : f188_30 G ρ v0 v1 w0 w1 m = some x) (hd : 1 ≤ d) (rr : Option MV × Mh) (hk : (Bv G ρ) x rr) : Ex d 188 30 [(2, ((v0 : Nat) : Int)), (0, v1), (9, 0)] [(0, w0), (2, ((w1 : Nat) : Int))] (G, ρ, m) rr := by
  unfold f188_30 at e
  have hm := mi_188
  obtain ⟨g8, e⟩ := gd_s e
  refine Ex_run 2 (i' := 32) (L' := [(2, ((v0 : Nat) : Int)), (0, v1), (9, 0)]) (st' := [(0, v1)]) (h' := (G, ρ, (put m w1 32 w0))) hm rfl (cjc (gk_b g8) cjn) ?_
  by_cases c9 : v1 < 0
  · replace e := it_p e c9
    refine Ex_if1f (c := 3) (tgt := 41) hm rfl (bf3 c9) ?_
    refine Ex_run 2 (i' := 35) (L' := [(2, ((v0 : Nat) : Int)), (0, v1), (9, 0)]) (st' := [(0, 0), (2, ((v0 : Nat) : Int))]) (h' := (G, ρ, (put m w1 32 w0))) hm rfl cjn ?_
    exact tf188_35 e hd rr hk _
  · replace e := it_n e c9
    refine Ex_if1t (c := 3) (tgt := 41) hm rfl (bt3 c9) ?_
    refine Ex_run 4 (i' := 45) (L' := [(2, ((v0 : Nat) : Int)), (0, v1), (9, 0)]) (st' := [(1, 122), (1, 97), (1, v1)]) (h' := (G, ρ, (put m w1 32 w0))) hm rfl cjn ?_
    obtain ⟨q13, h13, e⟩ := bn_s e
    refine Ex_callm (z := 143) (na := 3) (ck := 0) (as := [(1, v1), (1, 97), (1, 122)]) (rest := []) (E0 := [(1, v1), (9, 0), (1, 97), (9, 0), (1, 122), (9, 0)]) (v := some (0, q13)) (h1 := (G, ρ, (put m w1 32 w0))) hm rfl (by omega) ⟨Nat.le_of_ble_eq_true rfl, Nat.le_of_ble_eq_true rfl⟩ (trivial) rfl rfl ml_143 rfl (Nat.le_of_ble_eq_true rfl) (tf143 h13 (by omega)) ?_
    show Ex d 188 46 [(2, ((v0 : Nat) : Int)), (0, v1), (9, 0)] [(0, q13)] (G, ρ, (put m w1 32 w0)) rr
    by_cases c14 : q13 = 0
    · replace e := it_p e c14
      refine Ex_if1t (c := 0) (tgt := 92) hm rfl (bt0 c14) ?_
      refine Ex_run 4 (i' := 96) (L' := [(2, ((v0 : Nat) : Int)), (0, v1), (9, 0)]) (st' := [(1, 57), (1, 48), (1, v1)]) (h' := (G, ρ, (put m w1 32 w0))) hm rfl cjn ?_
      obtain ⟨q15, h15, e⟩ := bn_s e
      refine Ex_callm (z := 143) (na := 3) (ck := 0) (as := [(1, v1), (1, 48), (1, 57)]) (rest := []) (E0 := [(1, v1), (9, 0), (1, 48), (9, 0), (1, 57), (9, 0)]) (v := some (0, q15)) (h1 := (G, ρ, (put m w1 32 w0))) hm rfl (by omega) ⟨Nat.le_of_ble_eq_true rfl, Nat.le_of_ble_eq_true rfl⟩ (trivial) rfl rfl ml_143 rfl (Nat.le_of_ble_eq_true rfl) (tf143 h15 (by omega)) ?_
      show Ex d 188 97 [(2, ((v0 : Nat) : Int)), (0, v1), (9, 0)] [(0, q15)] (G, ρ, (put m w1 32 w0)) rr
      by_cases c16 : q15 = 0
      · replace e := it_p e c16
        refine Ex_if1t (c := 0) (tgt := 152) hm rfl (bt0 c16) ?_
        refine Ex_run 2 (i' := 154) (L' := [(2, ((v0 : Nat) : Int)), (0, v1), (9, 0)]) (st' := [(0, 40), (0, v1)]) (h' := (G, ρ, (put m w1 32 w0))) hm rfl cjn ?_
        by_cases c17 : v1 = 40
        · replace e := it_p e c17
          refine Ex_if2t (c := 0) (tgt := 176) hm rfl (bt0 c17) ?_
          exact tf188_176 e hd rr hk
        · replace e := it_n e c17
          refine Ex_if2f (c := 0) (tgt := 176) hm rfl (bf0 c17) ?_
          refine Ex_run 2 (i' := 157) (L' := [(2, ((v0 : Nat) : Int)), (0, v1), (9, 0)]) (st' := [(0, 41), (0, v1)]) (h' := (G, ρ, (put m w1 32 w0))) hm rfl cjn ?_
          by_cases c22 : v1 = 41
          · replace e := it_p e c22
            refine Ex_if2t (c := 0) (tgt := 176) hm rfl (bt0 c22) ?_
            exact tf188_176 e hd rr hk
          · replace e := it_n e c22
            refine Ex_if2f (c := 0) (tgt := 176) hm rfl (bf0 c22) ?_
            refine Ex_run 2 (i' := 160) (L' := [(2, ((v0 : Nat) : Int)), (0, v1), (9, 0)]) (st' := [(0, 59), (0, v1)]) (h' := (G, ρ, (put m w1 32 w0))) hm rfl cjn ?_
            by_cases c23 : v1 = 59
            · replace e := it_p e c23
              refine Ex_if2t (c := 0) (tgt := 176) hm rfl (bt0 c23) ?_
              exact tf188_176 e hd rr hk
            · replace e := it_n e c23
              refine Ex_if2f (c := 0) (tgt := 176) hm rfl (bf0 c23) ?_
              refine Ex_run 2 (i' := 163) (L' := [(2, ((v0 : Nat) : Int)), (0, v1), (9, 0)]) (st' := [(0, 43), (0, v1)]) (h' := (G, ρ, (put m w1 32 w0))) hm rfl cjn ?_
              by_cases c24 : v1 = 43
              · replace e := it_p e c24
                refine Ex_if2t (c := 0) (tgt := 176) hm rfl (bt0 c24) ?_
                exact tf188_176 e hd rr hk
              · replace e := it_n e c24
                refine Ex_if2f (c := 0) (tgt := 176) hm rfl (bf0 c24) ?_
                refine Ex_run 2 (i' := 166) (L' := [(2, ((v0 : Nat) : Int)), (0, v1), (9, 0)]) (st' := [(0, 45), (0, v1)]) (h' := (G, ρ, (put m w1 32 w0))) hm rfl cjn ?_
                by_cases c25 : v1 = 45
                · replace e := it_p e c25
                  refine Ex_if2t (c := 0) (tgt := 176) hm rfl (bt0 c25) ?_
                  exact tf188_176 e hd rr hk
                · replace e := it_n e c25
                  refine Ex_if2f (c := 0) (tgt := 176) hm rfl (bf0 c25) ?_
                  refine Ex_run 2 (i' := 169) (L' := [(2, ((v0 : Nat) : Int)), (0, v1), (9, 0)]) (st' := [(0, 42), (0, v1)]) (h' := (G, ρ, (put m w1 32 w0))) hm rfl cjn ?_
                  by_cases c26 : v1 = 42
                  · replace e := it_p e c26
                    refine Ex_if2t (c := 0) (tgt := 176) hm rfl (bt0 c26) ?_
                    exact tf188_176 e hd rr hk
                  · replace e := it_n e c26
                    refine Ex_if2f (c := 0) (tgt := 176) hm rfl (bf0 c26) ?_
                    refine Ex_run 2 (i' := 172) (L' := [(2, ((v0 : Nat) : Int)), (0, v1), (9, 0)]) (st' := [(0, 60), (0, v1)]) (h' := (G, ρ, (put m w1 32 w0))) hm rfl cjn ?_
                    by_cases c27 : v1 = 60
                    · replace e := it_p e c27
                      refine Ex_if2t (c := 0) (tgt := 176) hm rfl (bt0 c27) ?_
                      exact tf188_176 e hd rr hk
                    · replace e := it_n e c27
                      refine Ex_if2f (c := 0) (tgt := 176) hm rfl (bf0 c27) ?_
                      refine Ex_run 2 (i' := 175) (L' := [(2, ((v0 : Nat) : Int)), (0, v1), (9, 0)]) (st' := [(0, 61), (0, v1)]) (h' := (G, ρ, (put m w1 32 w0))) hm rfl cjn ?_
                      by_cases c28 : v1 = 61
                      · replace e := it_p e c28
                        refine Ex_if2f (c := 1) (tgt := 189) hm rfl (bf1 c28) ?_
                        exact tf188_176 e hd rr hk
                      · replace e := it_n e c28
                        refine Ex_if2t (c := 1) (tgt := 189) hm rfl (bt1 c28) ?_
                        cases e
                        cases hk
                        exact Ex_ret (k := 0) hm rfl ⟨rfl, rfl⟩
      · replace e := it_n e c16
        refine Ex_if1f (c := 0) (tgt := 152) hm rfl (bf0 c16) ?_
        refine Ex_run 2 (i' := 100) (L' := [(2, ((v0 : Nat) : Int)), (0, v1), (9, 0)]) (st' := [(0, 2), (2, ((v0 : Nat) : Int))]) (h' := (G, ρ, (put m w1 32 w0))) hm rfl cjn ?_
        exact tf188_100 e hd rr hk _
    · replace e := it_n e c14
      refine Ex_if1f (c := 0) (tgt := 92) hm rfl (bf0 c14) ?_
      refine Ex_run 2 (i' := 49) (L' := [(2, ((v0 : Nat) : Int)), (0, v1), (9, 0)]) (st' := [(0, 1), (2, ((v0 : Nat) : Int))]) (h' := (G, ρ, (put m w1 32 w0))) hm rfl cjn ?_
      exact tf188_49 e hd rr hk _
theorem tf188_b0 {G : Gg} {ρ : Rg} {d : Nat} {v0 : Nat} {s : Sg} {x : (Sg) ⊕ (Sg)} (e : f188_b0 G ρ v0 s = some x) (hd : 1 ≤ d) (rr : Option MV × Mh) (hk : (DS (e188_0 G ρ d v0) (Bv G ρ)) x rr) : e188_0 G ρ d v0 s rr := by
  unfold f188_b0 at e
  have hm := mi_188
  show Ex d 188 0 [(2, ((v0 : Nat) : Int)), (9, 0), (9, 0)] [] (G, ρ, s) rr
  obtain ⟨g1, e⟩ := gd_s e
  refine Ex_run 3 (i' := 3) (L' := [(2, ((v0 : Nat) : Int)), (9, 0), (9, 0)]) (st' := [(0, (s v0 35)), (2, ((v0 : Nat) : Int))]) (h' := (G, ρ, s)) hm rfl (cjc (gk_b g1) cjn) ?_
  obtain ⟨q2, h2, e⟩ := bn_s e
  refine Ex_callm (z := 187) (na := 2) (ck := 15) (as := [(2, ((v0 : Nat) : Int)), (0, (s v0 35))]) (rest := []) (E0 := [(2, ((v0 : Nat) : Int)), (0, (s v0 35))]) (v := some (0, q2)) (h1 := (G, ρ, s)) hm rfl (by omega) ⟨Nat.le_of_ble_eq_true rfl, Nat.le_of_ble_eq_true rfl⟩ (rc2 rfl g1) rfl rfl ml_187 rfl (Nat.le_of_ble_eq_true rfl) (tf187 h2 (by omega)) ?_
  show Ex d 188 4 [(2, ((v0 : Nat) : Int)), (9, 0), (9, 0)] [(0, q2)] (G, ρ, s) rr
  refine Ex_run 1 (i' := 5) (L' := [(2, ((v0 : Nat) : Int)), (9, 0), (9, 0)]) (st' := [(0, 32), (0, q2)]) (h' := (G, ρ, s)) hm rfl cjn ?_
  by_cases c3 : q2 = 32
  · replace e := it_p e c3
    refine Ex_if2t (c := 0) (tgt := 12) hm rfl (bt0 c3) ?_
    exact tf188_12 e hd rr hk
  · replace e := it_n e c3
    refine Ex_if2f (c := 0) (tgt := 12) hm rfl (bf0 c3) ?_
    refine Ex_run 3 (i' := 9) (L' := [(2, ((v0 : Nat) : Int)), (9, 0), (9, 0)]) (st' := [(0, (s v0 35)), (2, ((v0 : Nat) : Int))]) (h' := (G, ρ, s)) hm rfl (cjc (gk_b g1) cjn) ?_
    obtain ⟨q5, h5, e⟩ := bn_s e
    refine Ex_callm (z := 187) (na := 2) (ck := 15) (as := [(2, ((v0 : Nat) : Int)), (0, (s v0 35))]) (rest := []) (E0 := [(2, ((v0 : Nat) : Int)), (0, (s v0 35))]) (v := some (0, q5)) (h1 := (G, ρ, s)) hm rfl (by omega) ⟨Nat.le_of_ble_eq_true rfl, Nat.le_of_ble_eq_true rfl⟩ (rc2 rfl g1) rfl rfl ml_187 rfl (Nat.le_of_ble_eq_true rfl) (tf187 h5 (by omega)) ?_
    show Ex d 188 10 [(2, ((v0 : Nat) : Int)), (9, 0), (9, 0)] [(0, q5)] (G, ρ, s) rr
    refine Ex_run 1 (i' := 11) (L' := [(2, ((v0 : Nat) : Int)), (9, 0), (9, 0)]) (st' := [(0, 10), (0, q5)]) (h' := (G, ρ, s)) hm rfl cjn ?_
    by_cases c6 : q5 = 10
    · replace e := it_p e c6
      refine Ex_if2f (c := 1) (tgt := 19) hm rfl (bf1 c6) ?_
      exact tf188_12 e hd rr hk
    · replace e := it_n e c6
      refine Ex_if2t (c := 1) (tgt := 19) hm rfl (bt1 c6) ?_
      obtain ⟨x, e, hx⟩ := xr_s e
      replace hk : (Bv G ρ) x rr := by rw [hx] at hk; exact hk
      refine Ex_run 7 (i' := 26) (L' := [(2, ((v0 : Nat) : Int)), (9, 0), (9, 0)]) (st' := [(0, ((put s v0 33 (s v0 35)) v0 35)), (2, ((v0 : Nat) : Int))]) (h' := (G, ρ, (put s v0 33 (s v0 35)))) hm rfl (cjc (gk_b g1) (cjc (gk_b g1) (cjc (gk_b g1) cjn))) ?_
      obtain ⟨q7, h7, e⟩ := bn_s e
      refine Ex_callm (z := 187) (na := 2) (ck := 15) (as := [(2, ((v0 : Nat) : Int)), (0, ((put s v0 33 (s v0 35)) v0 35))]) (rest := []) (E0 := [(2, ((v0 : Nat) : Int)), (0, ((put s v0 33 (s v0 35)) v0 35))]) (v := some (0, q7)) (h1 := (G, ρ, (put s v0 33 (s v0 35)))) hm rfl (by omega) ⟨Nat.le_of_ble_eq_true rfl, Nat.le_of_ble_eq_true rfl⟩ (rc2 rfl g1) rfl rfl ml_187 rfl (Nat.le_of_ble_eq_true rfl) (tf187 h7 (by omega)) ?_
      show Ex d 188 27 [(2, ((v0 : Nat) : Int)), (9, 0), (9, 0)] [(0, q7)] (G, ρ, (put s v0 33 (s v0 35))) rr
      refine Ex_run 3 (i' := 30) (L' := [(2, ((v0 : Nat) : Int)), (0, q7), (9, 0)]) (st' := [(0, 4), (2, ((v0 : Nat) : Int))]) (h' := (G, ρ, (put s v0 33 (s v0 35)))) hm rfl (cjc (Nat.le_of_ble_eq_true rfl) cjn) ?_
      exact tf188_30 e hd rr hk
theorem tf188 {G : Gg} {ρ : Rg} {d : Nat} {v0 : Nat} {m : Sg} {x : Sg} (e : f188 G ρ v0 m = some x) (hd : 1 ≤ d) : Ex d 188 0 [(2, ((v0 : Nat) : Int)), (9, 0), (9, 0)] [] (G, ρ, m) (none, (G, ρ, x)) := by
  unfold f188 at e
  have hm := mi_188
  generalize hk : (none, (G, ρ, x)) = rr
  replace hk : (Bv G ρ) x rr := hk.symm
  exact (Ex_lp (A := e188_0 G ρ d v0 ) (B := (Bv G ρ)) (fun s x e rr hk => tf188_b0 e hd rr hk) FU _ _ e rr hk)
theorem tf189_9 {G : Gg} {ρ : Rg} {d : Nat} {w0 : Int} {w1 : Nat} {m : Sg} {x : Sg} (e : f189_9 G ρ w0 w1 m = some x) (hd : 0 ≤ d) (rr : Option MV × Mh) (hk : (Bv G ρ) x rr) (j0 : Nat) : Ex d 189 9 [(2, ((j0 : Nat) : Int))] [(0, w0), (2, ((w1 : Nat) : Int))] (G, ρ, m) rr := by
  unfold f189_9 at e
  have hm := mi_189
  obtain ⟨g3, e⟩ := gd_s e
  refine Ex_run 1 (i' := 10) (L' := [(2, ((j0 : Nat) : Int))]) (st' := []) (h' := (G, ρ, (put m w1 38 w0))) hm rfl (cjc (gk_b g3) cjn) ?_
  cases e
  cases hk
  exact Ex_ret (k := 0) hm rfl ⟨rfl, rfl⟩
theorem tf189 {G : Gg} {ρ : Rg} {d : Nat} {v0 : Nat} {m : Sg} {x : Sg} (e : f189 G ρ v0 m = some x) (hd : 0 ≤ d) : Ex d 189 0 [(2, ((v0 : Nat) : Int))] [] (G, ρ, m) (none, (G, ρ, x)) := by
  unfold f189 at e
  have hm := mi_189
  generalize hk : (none, (G, ρ, x)) = rr
  replace hk : (Bv G ρ) x rr := hk.symm
  obtain ⟨g1, e⟩ := gd_s e
  refine Ex_run 2 (i' := 2) (L' := [(2, ((v0 : Nat) : Int))]) (st' := [(0, (m v0 37))]) (h' := (G, ρ, m)) hm rfl (cjc (gk_b g1) cjn) ?_
  by_cases c2 : (m v0 37) = 0
  · replace e := it_p e c2
    refine Ex_if1f (c := 1) (tgt := 10) hm rfl (bf1 c2) ?_
    refine Ex_run 6 (i' := 9) (L' := [(2, ((v0 : Nat) : Int))]) (st' := [(0, ((put m v0 37 1) v0 33)), (2, ((v0 : Nat) : Int))]) (h' := (G, ρ, (put m v0 37 1))) hm rfl (cjc (gk_b g1) (cjc (by decide) (cjc (gk_b g1) cjn))) ?_
    exact tf189_9 e hd rr hk _
  · replace e := it_n e c2
    refine Ex_if1t (c := 1) (tgt := 10) hm rfl (bt1 c2) ?_
    cases e
    cases hk
    exact Ex_ret (k := 0) hm rfl ⟨rfl, rfl⟩
theorem tf190 {G : Gg} {ρ : Rg} {d : Nat} {v0 : Nat} {v1 : Int} {m : Sg} {x : Int} (e : f190 G ρ v0 v1 m = some x) (hd : 0 ≤ d) : Ex d 190 0 [(2, ((v0 : Nat) : Int)), (1, v1), (9, 0)] [] (G, ρ, m) (some (0, x), (G, ρ, m)) := by
  unfold f190 at e
  have hm := mi_190
  generalize hk : (some (0, x), (G, ρ, m)) = rr
  replace hk : (Bpi G ρ m) x rr := hk.symm
  obtain ⟨g1, e⟩ := gd_s e
  refine Ex_run 2 (i' := 2) (L' := [(2, ((v0 : Nat) : Int)), (1, v1), (9, 0)]) (st' := [(0, (m v0 37))]) (h' := (G, ρ, m)) hm rfl (cjc (gk_b g1) cjn) ?_
  by_cases c2 : (m v0 37) = 0
  · replace e := it_p e c2
    refine Ex_if1f (c := 1) (tgt := 14) hm rfl (bf1 c2) ?_
    refine Ex_run 3 (i' := 6) (L' := [(2, ((v0 : Nat) : Int)), (1, v1), (9, 0)]) (st' := [(0, 1), (0, (m v0 32))]) (h' := (G, ρ, m)) hm rfl (cjc (gk_b g1) cjn) ?_
    by_cases c3 : (m v0 32) = 1
    · replace e := it_p e c3
      refine Ex_if2f (c := 1) (tgt := 14) hm rfl (bf1 c3) ?_
      refine Ex_run 4 (i' := 11) (L' := [(2, ((v0 : Nat) : Int)), (1, v1), (9, 0)]) (st' := [(0, (lcm3 (m v0 34) v1))]) (h' := (G, ρ, m)) hm rfl (cjc (gk_b g1) cjn) ?_
      by_cases c4 : (m v0 34) = v1
      · replace e := it_p e c4
        refine Ex_if1f (c := 1) (tgt := 14) hm rfl (cm_lc 1 _ _ (bf1 c4)) ?_
        refine Ex_run 2 (i' := 15) (L' := [(2, ((v0 : Nat) : Int)), (1, v1), (9, 0)]) (st' := [(0, 1)]) (h' := (G, ρ, m)) hm rfl cjn ?_
        cases e
        cases hk
        exact Ex_ret (k := 2) hm rfl ⟨_, rfl, by decide, rfl⟩
      · replace e := it_n e c4
        refine Ex_if1t (c := 1) (tgt := 14) hm rfl (cm_lc 1 _ _ (bt1 c4)) ?_
        refine Ex_run 1 (i' := 15) (L' := [(2, ((v0 : Nat) : Int)), (1, v1), (9, 0)]) (st' := [(0, 0)]) (h' := (G, ρ, m)) hm rfl cjn ?_
        cases e
        cases hk
        exact Ex_ret (k := 2) hm rfl ⟨_, rfl, by decide, rfl⟩
    · replace e := it_n e c3
      refine Ex_if2t (c := 1) (tgt := 14) hm rfl (bt1 c3) ?_
      refine Ex_run 1 (i' := 15) (L' := [(2, ((v0 : Nat) : Int)), (1, v1), (9, 0)]) (st' := [(0, 0)]) (h' := (G, ρ, m)) hm rfl cjn ?_
      cases e
      cases hk
      exact Ex_ret (k := 2) hm rfl ⟨_, rfl, by decide, rfl⟩
  · replace e := it_n e c2
    refine Ex_if1t (c := 1) (tgt := 14) hm rfl (bt1 c2) ?_
    refine Ex_run 1 (i' := 15) (L' := [(2, ((v0 : Nat) : Int)), (1, v1), (9, 0)]) (st' := [(0, 0)]) (h' := (G, ρ, m)) hm rfl cjn ?_
    cases e
    cases hk
    exact Ex_ret (k := 2) hm rfl ⟨_, rfl, by decide, rfl⟩
theorem tf191 {G : Gg} {ρ : Rg} {d : Nat} {v0 : Nat} {v1 : Int} {m : Sg} {x : Int} (e : f191 G ρ v0 v1 m = some x) (hd : 0 ≤ d) : Ex d 191 0 [(2, ((v0 : Nat) : Int)), (0, v1)] [] (G, ρ, m) (some (0, x), (G, ρ, m)) := by
  unfold f191 at e
  have hm := mi_191
  generalize hk : (some (0, x), (G, ρ, m)) = rr
  replace hk : (Bpi G ρ m) x rr := hk.symm
  obtain ⟨g1, e⟩ := gd_s e
  refine Ex_run 2 (i' := 2) (L' := [(2, ((v0 : Nat) : Int)), (0, v1)]) (st' := [(0, (m v0 37))]) (h' := (G, ρ, m)) hm rfl (cjc (gk_b g1) cjn) ?_
  by_cases c2 : (m v0 37) = 0
  · replace e := it_p e c2
    refine Ex_if1f (c := 1) (tgt := 15) hm rfl (bf1 c2) ?_
    refine Ex_run 3 (i' := 6) (L' := [(2, ((v0 : Nat) : Int)), (0, v1)]) (st' := [(0, 3), (0, (m v0 32))]) (h' := (G, ρ, m)) hm rfl (cjc (gk_b g1) cjn) ?_
    by_cases c3 : (m v0 32) = 3
    · replace e := it_p e c3
      refine Ex_if2f (c := 1) (tgt := 15) hm rfl (bf1 c3) ?_
      refine Ex_run 5 (i' := 12) (L' := [(2, ((v0 : Nat) : Int)), (0, v1)]) (st' := [(0, (lcm3 (m v0 34) v1))]) (h' := (G, ρ, m)) hm rfl (cjc (gk_b g1) cjn) ?_
      by_cases c4 : (m v0 34) = v1
      · replace e := it_p e c4
        refine Ex_if1f (c := 1) (tgt := 15) hm rfl (cm_lc 1 _ _ (bf1 c4)) ?_
        refine Ex_run 2 (i' := 16) (L' := [(2, ((v0 : Nat) : Int)), (0, v1)]) (st' := [(0, 1)]) (h' := (G, ρ, m)) hm rfl cjn ?_
        cases e
        cases hk
        exact Ex_ret (k := 2) hm rfl ⟨_, rfl, by decide, rfl⟩
      · replace e := it_n e c4
        refine Ex_if1t (c := 1) (tgt := 15) hm rfl (cm_lc 1 _ _ (bt1 c4)) ?_
        refine Ex_run 1 (i' := 16) (L' := [(2, ((v0 : Nat) : Int)), (0, v1)]) (st' := [(0, 0)]) (h' := (G, ρ, m)) hm rfl cjn ?_
        cases e
        cases hk
        exact Ex_ret (k := 2) hm rfl ⟨_, rfl, by decide, rfl⟩
    · replace e := it_n e c3
      refine Ex_if2t (c := 1) (tgt := 15) hm rfl (bt1 c3) ?_
      refine Ex_run 1 (i' := 16) (L' := [(2, ((v0 : Nat) : Int)), (0, v1)]) (st' := [(0, 0)]) (h' := (G, ρ, m)) hm rfl cjn ?_
      cases e
      cases hk
      exact Ex_ret (k := 2) hm rfl ⟨_, rfl, by decide, rfl⟩
  · replace e := it_n e c2
    refine Ex_if1t (c := 1) (tgt := 15) hm rfl (bt1 c2) ?_
    refine Ex_run 1 (i' := 16) (L' := [(2, ((v0 : Nat) : Int)), (0, v1)]) (st' := [(0, 0)]) (h' := (G, ρ, m)) hm rfl cjn ?_
    cases e
    cases hk
    exact Ex_ret (k := 2) hm rfl ⟨_, rfl, by decide, rfl⟩
theorem tf192 {G : Gg} {ρ : Rg} {d : Nat} {v0 : Nat} {m : Sg} {x : Int × Sg} (e : f192 G ρ v0 m = some x) (hd : 2 ≤ d) : Ex d 192 0 [(2, ((v0 : Nat) : Int))] [] (G, ρ, m) (some (0, x.1), (G, ρ, x.2)) := by
  unfold f192 at e
  have hm := mi_192
  generalize hk : (some (0, x.1), (G, ρ, x.2)) = rr
  replace hk : (Bi G ρ) x rr := hk.symm
  obtain ⟨g1, e⟩ := gd_s e
  refine Ex_run 3 (i' := 3) (L' := [(2, ((v0 : Nat) : Int))]) (st' := [(0, 5), (0, (m v0 36))]) (h' := (G, ρ, m)) hm rfl (cjc (gk_b g1) cjn) ?_
  by_cases c2 : (m v0 36) = 5
  · replace e := it_p e c2
    refine Ex_if2f (c := 1) (tgt := 8) hm rfl (bf1 c2) ?_
    refine Ex_run 1 (i' := 5) (L' := [(2, ((v0 : Nat) : Int))]) (st' := [(2, ((v0 : Nat) : Int))]) (h' := (G, ρ, m)) hm rfl cjn ?_
    obtain ⟨q3, h3, e⟩ := bn_s e
    refine Ex_callm (z := 189) (na := 1) (ck := 15) (as := [(2, ((v0 : Nat) : Int))]) (rest := []) (E0 := [(2, ((v0 : Nat) : Int))]) (v := none) (h1 := (G, ρ, q3)) hm rfl (by omega) ⟨Nat.le_of_ble_eq_true rfl, Nat.le_of_ble_eq_true rfl⟩ (rc2 rfl g1) rfl rfl ml_189 rfl (Nat.le_of_ble_eq_true rfl) (tf189 h3 (by omega)) ?_
    show Ex d 192 6 [(2, ((v0 : Nat) : Int))] [] (G, ρ, q3) rr
    refine Ex_run 1 (i' := 7) (L' := [(2, ((v0 : Nat) : Int))]) (st' := [(0, 0)]) (h' := (G, ρ, q3)) hm rfl cjn ?_
    cases e
    cases hk
    exact Ex_ret (k := 2) hm rfl ⟨_, rfl, by decide, rfl⟩
  · replace e := it_n e c2
    refine Ex_if2t (c := 1) (tgt := 8) hm rfl (bt1 c2) ?_
    refine Ex_run 7 (i' := 15) (L' := [(2, ((v0 : Nat) : Int))]) (st' := [(2, ((v0 : Nat) : Int))]) (h' := (G, ρ, (put m v0 36 (g_add (m v0 36) 1)))) hm rfl (cjc (gk_b g1) (cjc (gk_b g1) cjn)) ?_
    obtain ⟨q4, h4, e⟩ := bn_s e
    refine Ex_callm (z := 188) (na := 1) (ck := 15) (as := [(2, ((v0 : Nat) : Int))]) (rest := []) (E0 := [(2, ((v0 : Nat) : Int)), (9, 0), (9, 0)]) (v := none) (h1 := (G, ρ, q4)) hm rfl (by omega) ⟨Nat.le_of_ble_eq_true rfl, Nat.le_of_ble_eq_true rfl⟩ (rc2 rfl g1) rfl rfl ml_188 rfl (Nat.le_of_ble_eq_true rfl) (tf188 h4 (by omega)) ?_
    show Ex d 192 16 [(2, ((v0 : Nat) : Int))] [] (G, ρ, q4) rr
    refine Ex_run 1 (i' := 17) (L' := [(2, ((v0 : Nat) : Int))]) (st' := [(0, 1)]) (h' := (G, ρ, q4)) hm rfl cjn ?_
    cases e
    cases hk
    exact Ex_ret (k := 2) hm rfl ⟨_, rfl, by decide, rfl⟩
theorem tf193 {G : Gg} {ρ : Rg} {d : Nat} {v0 : Nat} {m : Sg} {x : Int × Sg} (e : f193 G ρ v0 m = some x) (hd : 1 ≤ d) : Ex d 193 0 [(2, ((v0 : Nat) : Int))] [] (G, ρ, m) (some (0, x.1), (G, ρ, x.2)) := by
  unfold f193 at e
  have hm := mi_193
  generalize hk : (some (0, x.1), (G, ρ, x.2)) = rr
  replace hk : (Bi G ρ) x rr := hk.symm
  refine Ex_run 2 (i' := 2) (L' := [(2, ((v0 : Nat) : Int))]) (st' := [(1, 495765), (2, ((v0 : Nat) : Int))]) (h' := (G, ρ, m)) hm rfl cjn ?_
  obtain ⟨g1, e⟩ := gd_s e
  obtain ⟨q2, h2, e⟩ := bn_s e
  refine Ex_callm (z := 190) (na := 2) (ck := 15) (as := [(2, ((v0 : Nat) : Int)), (1, 495765)]) (rest := []) (E0 := [(2, ((v0 : Nat) : Int)), (1, 495765), (9, 0)]) (v := some (0, q2)) (h1 := (G, ρ, m)) hm rfl (by omega) ⟨Nat.le_of_ble_eq_true rfl, Nat.le_of_ble_eq_true rfl⟩ (rc2 rfl g1) rfl rfl ml_190 rfl (Nat.le_of_ble_eq_true rfl) (tf190 h2 (by omega)) ?_
  show Ex d 193 3 [(2, ((v0 : Nat) : Int))] [(0, q2)] (G, ρ, m) rr
  by_cases c3 : q2 = 0
  · replace e := it_p e c3
    refine Ex_if1t (c := 0) (tgt := 7) hm rfl (bt0 c3) ?_
    refine Ex_run 2 (i' := 9) (L' := [(2, ((v0 : Nat) : Int))]) (st' := [(1, 17186), (2, ((v0 : Nat) : Int))]) (h' := (G, ρ, m)) hm rfl cjn ?_
    obtain ⟨q4, h4, e⟩ := bn_s e
    refine Ex_callm (z := 190) (na := 2) (ck := 15) (as := [(2, ((v0 : Nat) : Int)), (1, 17186)]) (rest := []) (E0 := [(2, ((v0 : Nat) : Int)), (1, 17186), (9, 0)]) (v := some (0, q4)) (h1 := (G, ρ, m)) hm rfl (by omega) ⟨Nat.le_of_ble_eq_true rfl, Nat.le_of_ble_eq_true rfl⟩ (rc2 rfl g1) rfl rfl ml_190 rfl (Nat.le_of_ble_eq_true rfl) (tf190 h4 (by omega)) ?_
    show Ex d 193 10 [(2, ((v0 : Nat) : Int))] [(0, q4)] (G, ρ, m) rr
    by_cases c5 : q4 = 0
    · replace e := it_p e c5
      refine Ex_if1t (c := 0) (tgt := 14) hm rfl (bt0 c5) ?_
      refine Ex_run 2 (i' := 16) (L' := [(2, ((v0 : Nat) : Int))]) (st' := [(1, 247664), (2, ((v0 : Nat) : Int))]) (h' := (G, ρ, m)) hm rfl cjn ?_
      obtain ⟨q6, h6, e⟩ := bn_s e
      refine Ex_callm (z := 190) (na := 2) (ck := 15) (as := [(2, ((v0 : Nat) : Int)), (1, 247664)]) (rest := []) (E0 := [(2, ((v0 : Nat) : Int)), (1, 247664), (9, 0)]) (v := some (0, q6)) (h1 := (G, ρ, m)) hm rfl (by omega) ⟨Nat.le_of_ble_eq_true rfl, Nat.le_of_ble_eq_true rfl⟩ (rc2 rfl g1) rfl rfl ml_190 rfl (Nat.le_of_ble_eq_true rfl) (tf190 h6 (by omega)) ?_
      show Ex d 193 17 [(2, ((v0 : Nat) : Int))] [(0, q6)] (G, ρ, m) rr
      by_cases c7 : q6 = 0
      · replace e := it_p e c7
        refine Ex_if1t (c := 0) (tgt := 21) hm rfl (bt0 c7) ?_
        refine Ex_run 2 (i' := 23) (L' := [(2, ((v0 : Nat) : Int))]) (st' := [(1, 2140353280), (2, ((v0 : Nat) : Int))]) (h' := (G, ρ, m)) hm rfl cjn ?_
        obtain ⟨q8, h8, e⟩ := bn_s e
        refine Ex_callm (z := 190) (na := 2) (ck := 15) (as := [(2, ((v0 : Nat) : Int)), (1, 2140353280)]) (rest := []) (E0 := [(2, ((v0 : Nat) : Int)), (1, 2140353280), (9, 0)]) (v := some (0, q8)) (h1 := (G, ρ, m)) hm rfl (by omega) ⟨Nat.le_of_ble_eq_true rfl, Nat.le_of_ble_eq_true rfl⟩ (rc2 rfl g1) rfl rfl ml_190 rfl (Nat.le_of_ble_eq_true rfl) (tf190 h8 (by omega)) ?_
        show Ex d 193 24 [(2, ((v0 : Nat) : Int))] [(0, q8)] (G, ρ, m) rr
        by_cases c9 : q8 = 0
        · replace e := it_p e c9
          refine Ex_if1t (c := 0) (tgt := 28) hm rfl (bt0 c9) ?_
          refine Ex_run 2 (i' := 30) (L' := [(2, ((v0 : Nat) : Int))]) (st' := [(1, 10495135), (2, ((v0 : Nat) : Int))]) (h' := (G, ρ, m)) hm rfl cjn ?_
          obtain ⟨q10, h10, e⟩ := bn_s e
          refine Ex_callm (z := 190) (na := 2) (ck := 15) (as := [(2, ((v0 : Nat) : Int)), (1, 10495135)]) (rest := []) (E0 := [(2, ((v0 : Nat) : Int)), (1, 10495135), (9, 0)]) (v := some (0, q10)) (h1 := (G, ρ, m)) hm rfl (by omega) ⟨Nat.le_of_ble_eq_true rfl, Nat.le_of_ble_eq_true rfl⟩ (rc2 rfl g1) rfl rfl ml_190 rfl (Nat.le_of_ble_eq_true rfl) (tf190 h10 (by omega)) ?_
          show Ex d 193 31 [(2, ((v0 : Nat) : Int))] [(0, q10)] (G, ρ, m) rr
          by_cases c11 : q10 = 0
          · replace e := it_p e c11
            refine Ex_if1t (c := 0) (tgt := 35) hm rfl (bt0 c11) ?_
            refine Ex_run 2 (i' := 37) (L' := [(2, ((v0 : Nat) : Int))]) (st' := [(1, 11570), (2, ((v0 : Nat) : Int))]) (h' := (G, ρ, m)) hm rfl cjn ?_
            obtain ⟨q12, h12, e⟩ := bn_s e
            refine Ex_callm (z := 190) (na := 2) (ck := 15) (as := [(2, ((v0 : Nat) : Int)), (1, 11570)]) (rest := []) (E0 := [(2, ((v0 : Nat) : Int)), (1, 11570), (9, 0)]) (v := some (0, q12)) (h1 := (G, ρ, m)) hm rfl (by omega) ⟨Nat.le_of_ble_eq_true rfl, Nat.le_of_ble_eq_true rfl⟩ (rc2 rfl g1) rfl rfl ml_190 rfl (Nat.le_of_ble_eq_true rfl) (tf190 h12 (by omega)) ?_
            show Ex d 193 38 [(2, ((v0 : Nat) : Int))] [(0, q12)] (G, ρ, m) rr
            by_cases c13 : q12 = 0
            · replace e := it_p e c13
              refine Ex_if1t (c := 0) (tgt := 42) hm rfl (bt0 c13) ?_
              refine Ex_run 1 (i' := 43) (L' := [(2, ((v0 : Nat) : Int))]) (st' := [(2, ((v0 : Nat) : Int))]) (h' := (G, ρ, m)) hm rfl cjn ?_
              obtain ⟨q14, h14, e⟩ := bn_s e
              refine Ex_callm (z := 189) (na := 1) (ck := 15) (as := [(2, ((v0 : Nat) : Int))]) (rest := []) (E0 := [(2, ((v0 : Nat) : Int))]) (v := none) (h1 := (G, ρ, q14)) hm rfl (by omega) ⟨Nat.le_of_ble_eq_true rfl, Nat.le_of_ble_eq_true rfl⟩ (rc2 rfl g1) rfl rfl ml_189 rfl (Nat.le_of_ble_eq_true rfl) (tf189 h14 (by omega)) ?_
              show Ex d 193 44 [(2, ((v0 : Nat) : Int))] [] (G, ρ, q14) rr
              refine Ex_run 1 (i' := 45) (L' := [(2, ((v0 : Nat) : Int))]) (st' := [(0, 0)]) (h' := (G, ρ, q14)) hm rfl cjn ?_
              cases e
              cases hk
              exact Ex_ret (k := 1) hm rfl ⟨_, rfl, rfl⟩
            · replace e := it_n e c13
              refine Ex_if1f (c := 0) (tgt := 42) hm rfl (bf0 c13) ?_
              refine Ex_run 2 (i' := 41) (L' := [(2, ((v0 : Nat) : Int))]) (st' := [(0, (m v0 44))]) (h' := (G, ρ, m)) hm rfl (cjc (gk_b g1) cjn) ?_
              cases e
              cases hk
              exact Ex_ret (k := 1) hm rfl ⟨_, rfl, rfl⟩
          · replace e := it_n e c11
            refine Ex_if1f (c := 0) (tgt := 35) hm rfl (bf0 c11) ?_
            refine Ex_run 2 (i' := 34) (L' := [(2, ((v0 : Nat) : Int))]) (st' := [(0, (m v0 43))]) (h' := (G, ρ, m)) hm rfl (cjc (gk_b g1) cjn) ?_
            cases e
            cases hk
            exact Ex_ret (k := 1) hm rfl ⟨_, rfl, rfl⟩
        · replace e := it_n e c9
          refine Ex_if1f (c := 0) (tgt := 28) hm rfl (bf0 c9) ?_
          refine Ex_run 2 (i' := 27) (L' := [(2, ((v0 : Nat) : Int))]) (st' := [(0, (m v0 42))]) (h' := (G, ρ, m)) hm rfl (cjc (gk_b g1) cjn) ?_
          cases e
          cases hk
          exact Ex_ret (k := 1) hm rfl ⟨_, rfl, rfl⟩
      · replace e := it_n e c7
        refine Ex_if1f (c := 0) (tgt := 21) hm rfl (bf0 c7) ?_
        refine Ex_run 2 (i' := 20) (L' := [(2, ((v0 : Nat) : Int))]) (st' := [(0, (m v0 41))]) (h' := (G, ρ, m)) hm rfl (cjc (gk_b g1) cjn) ?_
        cases e
        cases hk
        exact Ex_ret (k := 1) hm rfl ⟨_, rfl, rfl⟩
    · replace e := it_n e c5
      refine Ex_if1f (c := 0) (tgt := 14) hm rfl (bf0 c5) ?_
      refine Ex_run 2 (i' := 13) (L' := [(2, ((v0 : Nat) : Int))]) (st' := [(0, (m v0 40))]) (h' := (G, ρ, m)) hm rfl (cjc (gk_b g1) cjn) ?_
      cases e
      cases hk
      exact Ex_ret (k := 1) hm rfl ⟨_, rfl, rfl⟩
  · replace e := it_n e c3
    refine Ex_if1f (c := 0) (tgt := 7) hm rfl (bf0 c3) ?_
    refine Ex_run 2 (i' := 6) (L' := [(2, ((v0 : Nat) : Int))]) (st' := [(0, (m v0 39))]) (h' := (G, ρ, m)) hm rfl (cjc (gk_b g1) cjn) ?_
    cases e
    cases hk
    exact Ex_ret (k := 1) hm rfl ⟨_, rfl, rfl⟩
theorem tf195_b3 {G : Gg} {ρ : Rg} {rc : Nat → Nat → Sg → Option (Int × Sg)} {d : Nat} {v0 : Nat} {s : Int × Sg} {x : (Int × Sg) ⊕ (Int × Sg)} (e : f195_b3 G ρ rc v0 s = some x) (hd : 3 ≤ d) (hr : RHM G ρ rc d) (rr : Option MV × Mh) (hk : (DS (e195_3 G ρ d v0) (Bi G ρ)) x rr) : e195_3 G ρ d v0 s rr := by
  unfold f195_b3 at e
  have hm := mi_195
  show Ex d 195 3 [(2, ((v0 : Nat) : Int)), (0, s.1)] [] (G, ρ, s.2) rr
  refine Ex_run 2 (i' := 5) (L' := [(2, ((v0 : Nat) : Int)), (0, s.1)]) (st' := [(0, 42), (2, ((v0 : Nat) : Int))]) (h' := (G, ρ, s.2)) hm rfl cjn ?_
  obtain ⟨g3, e⟩ := gd_s e
  obtain ⟨q4, h4, e⟩ := bn_s e
  refine Ex_callm (z := 191) (na := 2) (ck := 15) (as := [(2, ((v0 : Nat) : Int)), (0, 42)]) (rest := []) (E0 := [(2, ((v0 : Nat) : Int)), (0, 42)]) (v := some (0, q4)) (h1 := (G, ρ, s.2)) hm rfl (by omega) ⟨Nat.le_of_ble_eq_true rfl, Nat.le_of_ble_eq_true rfl⟩ (rc2 rfl g3) rfl rfl ml_191 rfl (Nat.le_of_ble_eq_true rfl) (tf191 h4 (by omega)) ?_
  show Ex d 195 6 [(2, ((v0 : Nat) : Int)), (0, s.1)] [(0, q4)] (G, ρ, s.2) rr
  by_cases c5 : q4 = 0
  · replace e := it_p e c5
    refine Ex_if1t (c := 0) (tgt := 15) hm rfl (bt0 c5) ?_
    obtain ⟨x, e, hx⟩ := xr_s e
    replace hk : (Bi G ρ) x rr := by rw [hx] at hk; exact hk
    refine Ex_run 1 (i' := 16) (L' := [(2, ((v0 : Nat) : Int)), (0, s.1)]) (st' := [(0, s.1)]) (h' := (G, ρ, s.2)) hm rfl cjn ?_
    cases e
    cases hk
    exact Ex_ret (k := 1) hm rfl ⟨_, rfl, rfl⟩
  · replace e := it_n e c5
    refine Ex_if1f (c := 0) (tgt := 15) hm rfl (bf0 c5) ?_
    refine Ex_run 1 (i' := 8) (L' := [(2, ((v0 : Nat) : Int)), (0, s.1)]) (st' := [(2, ((v0 : Nat) : Int))]) (h' := (G, ρ, s.2)) hm rfl cjn ?_
    obtain ⟨q6, h6, e⟩ := bn_s e
    refine Ex_callm (z := 188) (na := 1) (ck := 15) (as := [(2, ((v0 : Nat) : Int))]) (rest := []) (E0 := [(2, ((v0 : Nat) : Int)), (9, 0), (9, 0)]) (v := none) (h1 := (G, ρ, q6)) hm rfl (by omega) ⟨Nat.le_of_ble_eq_true rfl, Nat.le_of_ble_eq_true rfl⟩ (rc2 rfl g3) rfl rfl ml_188 rfl (Nat.le_of_ble_eq_true rfl) (tf188 h6 (by omega)) ?_
    show Ex d 195 9 [(2, ((v0 : Nat) : Int)), (0, s.1)] [] (G, ρ, q6) rr
    refine Ex_run 2 (i' := 11) (L' := [(2, ((v0 : Nat) : Int)), (0, s.1)]) (st' := [(2, ((v0 : Nat) : Int)), (0, s.1)]) (h' := (G, ρ, q6)) hm rfl cjn ?_
    obtain ⟨q7, h7, e⟩ := bn_s e
    refine Ex_callm (z := 194) (na := 1) (ck := 15) (as := [(2, ((v0 : Nat) : Int))]) (rest := [(0, s.1)]) (E0 := [(2, ((v0 : Nat) : Int)), (9, 0)]) (v := some (0, q7.1)) (h1 := (G, ρ, q7.2)) hm rfl (by omega) ⟨Nat.le_of_ble_eq_true rfl, Nat.le_of_ble_eq_true rfl⟩ (rc2 rfl g3) rfl rfl ml_194 rfl (Nat.le_of_ble_eq_true rfl) (hr _ _ _ _ h7) ?_
    show Ex d 195 12 [(2, ((v0 : Nat) : Int)), (0, s.1)] [(0, q7.1), (0, s.1)] (G, ρ, q7.2) rr
    refine Ex_run 3 (i' := 3) (L' := [(2, ((v0 : Nat) : Int)), (0, (g_mul s.1 q7.1))]) (st' := []) (h' := (G, ρ, q7.2)) hm rfl (cjc (Nat.le_of_ble_eq_true rfl) cjn) ?_
    cases e
    exact hk
theorem tf195 {G : Gg} {ρ : Rg} {rc : Nat → Nat → Sg → Option (Int × Sg)} {d : Nat} {v0 : Nat} {m : Sg} {x : Int × Sg} (e : f195 G ρ rc v0 m = some x) (hd : 3 ≤ d) (hr : RHM G ρ rc d) : Ex d 195 0 [(2, ((v0 : Nat) : Int)), (9, 0)] [] (G, ρ, m) (some (0, x.1), (G, ρ, x.2)) := by
  unfold f195 at e
  have hm := mi_195
  generalize hk : (some (0, x.1), (G, ρ, x.2)) = rr
  replace hk : (Bi G ρ) x rr := hk.symm
  refine Ex_run 1 (i' := 1) (L' := [(2, ((v0 : Nat) : Int)), (9, 0)]) (st' := [(2, ((v0 : Nat) : Int))]) (h' := (G, ρ, m)) hm rfl cjn ?_
  obtain ⟨g1, e⟩ := gd_s e
  obtain ⟨q2, h2, e⟩ := bn_s e
  refine Ex_callm (z := 194) (na := 1) (ck := 15) (as := [(2, ((v0 : Nat) : Int))]) (rest := []) (E0 := [(2, ((v0 : Nat) : Int)), (9, 0)]) (v := some (0, q2.1)) (h1 := (G, ρ, q2.2)) hm rfl (by omega) ⟨Nat.le_of_ble_eq_true rfl, Nat.le_of_ble_eq_true rfl⟩ (rc2 rfl g1) rfl rfl ml_194 rfl (Nat.le_of_ble_eq_true rfl) (hr _ _ _ _ h2) ?_
  show Ex d 195 2 [(2, ((v0 : Nat) : Int)), (9, 0)] [(0, q2.1)] (G, ρ, q2.2) rr
  refine Ex_run 1 (i' := 3) (L' := [(2, ((v0 : Nat) : Int)), (0, q2.1)]) (st' := []) (h' := (G, ρ, q2.2)) hm rfl (cjc (Nat.le_of_ble_eq_true rfl) cjn) ?_
  exact (Ex_lp (A := e195_3 G ρ d v0 ) (B := (Bi G ρ)) (fun s x e rr hk => tf195_b3 e hd hr rr hk) FU _ _ e rr hk)
theorem tf196_19 {G : Gg} {ρ : Rg} {rc : Nat → Nat → Sg → Option (Int × Sg)} {d : Nat} {v0 : Nat} {v1 : Int} {w0 : Int} {m : Sg} {x : (Int × Sg) ⊕ (Int × Sg)} (e : f196_19 G ρ rc v0 v1 w0 m = some x) (hd : 3 ≤ d) (hr : RHM G ρ rc d) (rr : Option MV × Mh) (hk : (DS (e196_3 G ρ d v0) (Bi G ρ)) x rr) (j2 : MV) (j3 : MV) : Ex d 196 19 [(2, ((v0 : Nat) : Int)), (0, v1), j2, j3] [(0, w0)] (G, ρ, m) rr := by
  unfold f196_19 at e
  have hm := mi_196
  refine Ex_run 2 (i' := 21) (L' := [(2, ((v0 : Nat) : Int)), (0, v1), (0, w0), j3]) (st' := [(2, ((v0 : Nat) : Int))]) (h' := (G, ρ, m)) hm rfl (cjc (Nat.le_of_ble_eq_true rfl) cjn) ?_
  obtain ⟨g10, e⟩ := gd_s e
  obtain ⟨q11, h11, e⟩ := bn_s e
  refine Ex_callm (z := 188) (na := 1) (ck := 15) (as := [(2, ((v0 : Nat) : Int))]) (rest := []) (E0 := [(2, ((v0 : Nat) : Int)), (9, 0), (9, 0)]) (v := none) (h1 := (G, ρ, q11)) hm rfl (by omega) ⟨Nat.le_of_ble_eq_true rfl, Nat.le_of_ble_eq_true rfl⟩ (rc2 rfl g10) rfl rfl ml_188 rfl (Nat.le_of_ble_eq_true rfl) (tf188 h11 (by omega)) ?_
  show Ex d 196 22 [(2, ((v0 : Nat) : Int)), (0, v1), (0, w0), j3] [] (G, ρ, q11) rr
  refine Ex_run 1 (i' := 23) (L' := [(2, ((v0 : Nat) : Int)), (0, v1), (0, w0), j3]) (st' := [(2, ((v0 : Nat) : Int))]) (h' := (G, ρ, q11)) hm rfl cjn ?_
  obtain ⟨q12, h12, e⟩ := bn_s e
  refine Ex_callm (z := 195) (na := 1) (ck := 15) (as := [(2, ((v0 : Nat) : Int))]) (rest := []) (E0 := [(2, ((v0 : Nat) : Int)), (9, 0)]) (v := some (0, q12.1)) (h1 := (G, ρ, q12.2)) hm rfl (by omega) ⟨Nat.le_of_ble_eq_true rfl, Nat.le_of_ble_eq_true rfl⟩ (rc2 rfl g10) rfl rfl ml_195 rfl (Nat.le_of_ble_eq_true rfl) (hr _ _ _ _ h12) ?_
  show Ex d 196 24 [(2, ((v0 : Nat) : Int)), (0, v1), (0, w0), j3] [(0, q12.1)] (G, ρ, q12.2) rr
  refine Ex_run 2 (i' := 26) (L' := [(2, ((v0 : Nat) : Int)), (0, v1), (0, w0), (0, q12.1)]) (st' := [(0, w0)]) (h' := (G, ρ, q12.2)) hm rfl (cjc (Nat.le_of_ble_eq_true rfl) cjn) ?_
  by_cases c13 : w0 = 0
  · replace e := it_p e c13
    refine Ex_if1t (c := 0) (tgt := 31) hm rfl (bt0 c13) ?_
    refine Ex_run 5 (i' := 3) (L' := [(2, ((v0 : Nat) : Int)), (0, (g_sub v1 q12.1)), (0, w0), (0, q12.1)]) (st' := []) (h' := (G, ρ, q12.2)) hm rfl (cjc (Nat.le_of_ble_eq_true rfl) cjn) ?_
    cases e
    exact hk _ _
  · replace e := it_n e c13
    refine Ex_if1f (c := 0) (tgt := 31) hm rfl (bf0 c13) ?_
    refine Ex_run 6 (i' := 3) (L' := [(2, ((v0 : Nat) : Int)), (0, (g_add v1 q12.1)), (0, w0), (0, q12.1)]) (st' := []) (h' := (G, ρ, q12.2)) hm rfl (cjc (Nat.le_of_ble_eq_true rfl) cjn) ?_
    cases e
    exact hk _ _
theorem tf196_11 {G : Gg} {ρ : Rg} {rc : Nat → Nat → Sg → Option (Int × Sg)} {d : Nat} {v0 : Nat} {v1 : Int} {m : Sg} {x : (Int × Sg) ⊕ (Int × Sg)} (e : f196_11 G ρ rc v0 v1 m = some x) (hd : 3 ≤ d) (hr : RHM G ρ rc d) (rr : Option MV × Mh) (hk : (DS (e196_3 G ρ d v0) (Bi G ρ)) x rr) (j2 : MV) (j3 : MV) : Ex d 196 11 [(2, ((v0 : Nat) : Int)), (0, v1), j2, j3] [] (G, ρ, m) rr := by
  unfold f196_11 at e
  have hm := mi_196
  obtain ⟨g8, e⟩ := gd_s e
  refine Ex_run 4 (i' := 15) (L' := [(2, ((v0 : Nat) : Int)), (0, v1), j2, j3]) (st' := [(0, (lcm3 (m v0 34) 43))]) (h' := (G, ρ, m)) hm rfl (cjc (gk_b g8) cjn) ?_
  by_cases c9 : (m v0 34) = 43
  · replace e := it_p e c9
    refine Ex_if1f (c := 1) (tgt := 18) hm rfl (cm_lc 1 _ _ (bf1 c9)) ?_
    refine Ex_run 2 (i' := 19) (L' := [(2, ((v0 : Nat) : Int)), (0, v1), j2, j3]) (st' := [(0, 1)]) (h' := (G, ρ, m)) hm rfl cjn ?_
    exact tf196_19 e hd hr rr hk _ _
  · replace e := it_n e c9
    refine Ex_if1t (c := 1) (tgt := 18) hm rfl (cm_lc 1 _ _ (bt1 c9)) ?_
    refine Ex_run 1 (i' := 19) (L' := [(2, ((v0 : Nat) : Int)), (0, v1), j2, j3]) (st' := [(0, 0)]) (h' := (G, ρ, m)) hm rfl cjn ?_
    exact tf196_19 e hd hr rr hk _ _
theorem tf196_b3 {G : Gg} {ρ : Rg} {rc : Nat → Nat → Sg → Option (Int × Sg)} {d : Nat} {v0 : Nat} {s : Int × Sg} {x : (Int × Sg) ⊕ (Int × Sg)} (e : f196_b3 G ρ rc v0 s = some x) (hd : 3 ≤ d) (hr : RHM G ρ rc d) (rr : Option MV × Mh) (hk : (DS (e196_3 G ρ d v0) (Bi G ρ)) x rr) : e196_3 G ρ d v0 s rr := by
  unfold f196_b3 at e
  have hm := mi_196
  show ∀ (j2 : MV) (j3 : MV), Ex d 196 3 [(2, ((v0 : Nat) : Int)), (0, s.1), j2, j3] [] (G, ρ, s.2) rr
  intro j2 j3
  refine Ex_run 2 (i' := 5) (L' := [(2, ((v0 : Nat) : Int)), (0, s.1), j2, j3]) (st' := [(0, 43), (2, ((v0 : Nat) : Int))]) (h' := (G, ρ, s.2)) hm rfl cjn ?_
  obtain ⟨g3, e⟩ := gd_s e
  obtain ⟨q4, h4, e⟩ := bn_s e
  refine Ex_callm (z := 191) (na := 2) (ck := 15) (as := [(2, ((v0 : Nat) : Int)), (0, 43)]) (rest := []) (E0 := [(2, ((v0 : Nat) : Int)), (0, 43)]) (v := some (0, q4)) (h1 := (G, ρ, s.2)) hm rfl (by omega) ⟨Nat.le_of_ble_eq_true rfl, Nat.le_of_ble_eq_true rfl⟩ (rc2 rfl g3) rfl rfl ml_191 rfl (Nat.le_of_ble_eq_true rfl) (tf191 h4 (by omega)) ?_
  show Ex d 196 6 [(2, ((v0 : Nat) : Int)), (0, s.1), j2, j3] [(0, q4)] (G, ρ, s.2) rr
  by_cases c5 : q4 = 0
  · replace e := it_p e c5
    refine Ex_if1f (c := 1) (tgt := 11) hm rfl (bf1 c5) ?_
    refine Ex_run 2 (i' := 9) (L' := [(2, ((v0 : Nat) : Int)), (0, s.1), j2, j3]) (st' := [(0, 45), (2, ((v0 : Nat) : Int))]) (h' := (G, ρ, s.2)) hm rfl cjn ?_
    obtain ⟨q6, h6, e⟩ := bn_s e
    refine Ex_callm (z := 191) (na := 2) (ck := 15) (as := [(2, ((v0 : Nat) : Int)), (0, 45)]) (rest := []) (E0 := [(2, ((v0 : Nat) : Int)), (0, 45)]) (v := some (0, q6)) (h1 := (G, ρ, s.2)) hm rfl (by omega) ⟨Nat.le_of_ble_eq_true rfl, Nat.le_of_ble_eq_true rfl⟩ (rc2 rfl g3) rfl rfl ml_191 rfl (Nat.le_of_ble_eq_true rfl) (tf191 h6 (by omega)) ?_
    show Ex d 196 10 [(2, ((v0 : Nat) : Int)), (0, s.1), j2, j3] [(0, q6)] (G, ρ, s.2) rr
    by_cases c7 : q6 = 0
    · replace e := it_p e c7
      refine Ex_if1t (c := 0) (tgt := 36) hm rfl (bt0 c7) ?_
      obtain ⟨x, e, hx⟩ := xr_s e
      replace hk : (Bi G ρ) x rr := by rw [hx] at hk; exact hk
      refine Ex_run 1 (i' := 37) (L' := [(2, ((v0 : Nat) : Int)), (0, s.1), j2, j3]) (st' := [(0, s.1)]) (h' := (G, ρ, s.2)) hm rfl cjn ?_
      cases e
      cases hk
      exact Ex_ret (k := 1) hm rfl ⟨_, rfl, rfl⟩
    · replace e := it_n e c7
      refine Ex_if1f (c := 0) (tgt := 36) hm rfl (bf0 c7) ?_
      exact tf196_11 e hd hr rr hk _ _
  · replace e := it_n e c5
    refine Ex_if1t (c := 1) (tgt := 11) hm rfl (bt1 c5) ?_
    exact tf196_11 e hd hr rr hk _ _
theorem tf196 {G : Gg} {ρ : Rg} {rc : Nat → Nat → Sg → Option (Int × Sg)} {d : Nat} {v0 : Nat} {m : Sg} {x : Int × Sg} (e : f196 G ρ rc v0 m = some x) (hd : 3 ≤ d) (hr : RHM G ρ rc d) : Ex d 196 0 [(2, ((v0 : Nat) : Int)), (9, 0), (9, 0), (9, 0)] [] (G, ρ, m) (some (0, x.1), (G, ρ, x.2)) := by
  unfold f196 at e
  have hm := mi_196
  generalize hk : (some (0, x.1), (G, ρ, x.2)) = rr
  replace hk : (Bi G ρ) x rr := hk.symm
  refine Ex_run 1 (i' := 1) (L' := [(2, ((v0 : Nat) : Int)), (9, 0), (9, 0), (9, 0)]) (st' := [(2, ((v0 : Nat) : Int))]) (h' := (G, ρ, m)) hm rfl cjn ?_
  obtain ⟨g1, e⟩ := gd_s e
  obtain ⟨q2, h2, e⟩ := bn_s e
  refine Ex_callm (z := 195) (na := 1) (ck := 15) (as := [(2, ((v0 : Nat) : Int))]) (rest := []) (E0 := [(2, ((v0 : Nat) : Int)), (9, 0)]) (v := some (0, q2.1)) (h1 := (G, ρ, q2.2)) hm rfl (by omega) ⟨Nat.le_of_ble_eq_true rfl, Nat.le_of_ble_eq_true rfl⟩ (rc2 rfl g1) rfl rfl ml_195 rfl (Nat.le_of_ble_eq_true rfl) (hr _ _ _ _ h2) ?_
  show Ex d 196 2 [(2, ((v0 : Nat) : Int)), (9, 0), (9, 0), (9, 0)] [(0, q2.1)] (G, ρ, q2.2) rr
  refine Ex_run 1 (i' := 3) (L' := [(2, ((v0 : Nat) : Int)), (0, q2.1), (9, 0), (9, 0)]) (st' := []) (h' := (G, ρ, q2.2)) hm rfl (cjc (Nat.le_of_ble_eq_true rfl) cjn) ?_
  exact (Ex_lp (A := e196_3 G ρ d v0 ) (B := (Bi G ρ)) (fun s x e rr hk => tf196_b3 e hd hr rr hk) FU _ _ e rr hk) _ _
theorem tf197_45 {G : Gg} {ρ : Rg} {rc : Nat → Nat → Sg → Option (Int × Sg)} {d : Nat} {v0 : Nat} {v1 : Int} {w0 : Int} {m : Sg} {x : Int × Sg} (e : f197_45 G ρ rc v0 v1 w0 m = some x) (hd : 3 ≤ d) (hr : RHM G ρ rc d) (rr : Option MV × Mh) (hk : (Bi G ρ) x rr) : Ex d 197 45 [(2, ((v0 : Nat) : Int)), (0, v1), (9, 0), (9, 0)] [(0, w0)] (G, ρ, m) rr := by
  unfold f197_45 at e
  have hm := mi_197
  refine Ex_run 2 (i' := 47) (L' := [(2, ((v0 : Nat) : Int)), (0, v1), (0, w0), (9, 0)]) (st' := [(2, ((v0 : Nat) : Int))]) (h' := (G, ρ, m)) hm rfl (cjc (Nat.le_of_ble_eq_true rfl) cjn) ?_
  obtain ⟨g11, e⟩ := gd_s e
  obtain ⟨q12, h12, e⟩ := bn_s e
  refine Ex_callm (z := 188) (na := 1) (ck := 15) (as := [(2, ((v0 : Nat) : Int))]) (rest := []) (E0 := [(2, ((v0 : Nat) : Int)), (9, 0), (9, 0)]) (v := none) (h1 := (G, ρ, q12)) hm rfl (by omega) ⟨Nat.le_of_ble_eq_true rfl, Nat.le_of_ble_eq_true rfl⟩ (rc2 rfl g11) rfl rfl ml_188 rfl (Nat.le_of_ble_eq_true rfl) (tf188 h12 (by omega)) ?_
  show Ex d 197 48 [(2, ((v0 : Nat) : Int)), (0, v1), (0, w0), (9, 0)] [] (G, ρ, q12) rr
  refine Ex_run 1 (i' := 49) (L' := [(2, ((v0 : Nat) : Int)), (0, v1), (0, w0), (9, 0)]) (st' := [(2, ((v0 : Nat) : Int))]) (h' := (G, ρ, q12)) hm rfl cjn ?_
  obtain ⟨q13, h13, e⟩ := bn_s e
  refine Ex_callm (z := 196) (na := 1) (ck := 15) (as := [(2, ((v0 : Nat) : Int))]) (rest := []) (E0 := [(2, ((v0 : Nat) : Int)), (9, 0), (9, 0), (9, 0)]) (v := some (0, q13.1)) (h1 := (G, ρ, q13.2)) hm rfl (by omega) ⟨Nat.le_of_ble_eq_true rfl, Nat.le_of_ble_eq_true rfl⟩ (rc2 rfl g11) rfl rfl ml_196 rfl (Nat.le_of_ble_eq_true rfl) (hr _ _ _ _ h13) ?_
  show Ex d 197 50 [(2, ((v0 : Nat) : Int)), (0, v1), (0, w0), (9, 0)] [(0, q13.1)] (G, ρ, q13.2) rr
  refine Ex_run 2 (i' := 52) (L' := [(2, ((v0 : Nat) : Int)), (0, v1), (0, w0), (0, q13.1)]) (st' := [(0, w0)]) (h' := (G, ρ, q13.2)) hm rfl (cjc (Nat.le_of_ble_eq_true rfl) cjn) ?_
  by_cases c14 : w0 = 0
  · replace e := it_p e c14
    refine Ex_if1t (c := 0) (tgt := 57) hm rfl (bt0 c14) ?_
    refine Ex_run 2 (i' := 59) (L' := [(2, ((v0 : Nat) : Int)), (0, v1), (0, w0), (0, q13.1)]) (st' := [(0, q13.1), (0, v1)]) (h' := (G, ρ, q13.2)) hm rfl cjn ?_
    by_cases c15 : v1 = q13.1
    · replace e := it_p e c15
      refine Ex_if2f (c := 1) (tgt := 62) hm rfl (bf1 c15) ?_
      refine Ex_run 2 (i' := 63) (L' := [(2, ((v0 : Nat) : Int)), (0, v1), (0, w0), (0, q13.1)]) (st' := [(0, 1)]) (h' := (G, ρ, q13.2)) hm rfl cjn ?_
      cases e
      cases hk
      exact Ex_ret (k := 1) hm rfl ⟨_, rfl, rfl⟩
    · replace e := it_n e c15
      refine Ex_if2t (c := 1) (tgt := 62) hm rfl (bt1 c15) ?_
      refine Ex_run 1 (i' := 63) (L' := [(2, ((v0 : Nat) : Int)), (0, v1), (0, w0), (0, q13.1)]) (st' := [(0, 0)]) (h' := (G, ρ, q13.2)) hm rfl cjn ?_
      cases e
      cases hk
      exact Ex_ret (k := 1) hm rfl ⟨_, rfl, rfl⟩
  · replace e := it_n e c14
    refine Ex_if1f (c := 0) (tgt := 57) hm rfl (bf0 c14) ?_
    refine Ex_run 2 (i' := 55) (L' := [(2, ((v0 : Nat) : Int)), (0, v1), (0, w0), (0, q13.1)]) (st' := [(0, q13.1), (0, v1)]) (h' := (G, ρ, q13.2)) hm rfl cjn ?_
    by_cases c16 : v1 < q13.1
    · replace e := it_p e c16
      refine Ex_if2f (c := 3) (tgt := 62) hm rfl (bf3 c16) ?_
      refine Ex_run 3 (i' := 63) (L' := [(2, ((v0 : Nat) : Int)), (0, v1), (0, w0), (0, q13.1)]) (st' := [(0, 1)]) (h' := (G, ρ, q13.2)) hm rfl cjn ?_
      cases e
      cases hk
      exact Ex_ret (k := 1) hm rfl ⟨_, rfl, rfl⟩
    · replace e := it_n e c16
      refine Ex_if2t (c := 3) (tgt := 62) hm rfl (bt3 c16) ?_
      refine Ex_run 1 (i' := 63) (L' := [(2, ((v0 : Nat) : Int)), (0, v1), (0, w0), (0, q13.1)]) (st' := [(0, 0)]) (h' := (G, ρ, q13.2)) hm rfl cjn ?_
      cases e
      cases hk
      exact Ex_ret (k := 1) hm rfl ⟨_, rfl, rfl⟩
theorem tf197_37 {G : Gg} {ρ : Rg} {rc : Nat → Nat → Sg → Option (Int × Sg)} {d : Nat} {v0 : Nat} {v1 : Int} {m : Sg} {x : Int × Sg} (e : f197_37 G ρ rc v0 v1 m = some x) (hd : 3 ≤ d) (hr : RHM G ρ rc d) (rr : Option MV × Mh) (hk : (Bi G ρ) x rr) : Ex d 197 37 [(2, ((v0 : Nat) : Int)), (0, v1), (9, 0), (9, 0)] [] (G, ρ, m) rr := by
  unfold f197_37 at e
  have hm := mi_197
  obtain ⟨g9, e⟩ := gd_s e
  refine Ex_run 4 (i' := 41) (L' := [(2, ((v0 : Nat) : Int)), (0, v1), (9, 0), (9, 0)]) (st' := [(0, (lcm3 (m v0 34) 60))]) (h' := (G, ρ, m)) hm rfl (cjc (gk_b g9) cjn) ?_
  by_cases c10 : (m v0 34) = 60
  · replace e := it_p e c10
    refine Ex_if1f (c := 1) (tgt := 44) hm rfl (cm_lc 1 _ _ (bf1 c10)) ?_
    refine Ex_run 2 (i' := 45) (L' := [(2, ((v0 : Nat) : Int)), (0, v1), (9, 0), (9, 0)]) (st' := [(0, 1)]) (h' := (G, ρ, m)) hm rfl cjn ?_
    exact tf197_45 e hd hr rr hk
  · replace e := it_n e c10
    refine Ex_if1t (c := 1) (tgt := 44) hm rfl (cm_lc 1 _ _ (bt1 c10)) ?_
    refine Ex_run 1 (i' := 45) (L' := [(2, ((v0 : Nat) : Int)), (0, v1), (9, 0), (9, 0)]) (st' := [(0, 0)]) (h' := (G, ρ, m)) hm rfl cjn ?_
    exact tf197_45 e hd hr rr hk
theorem tf197 {G : Gg} {ρ : Rg} {rc : Nat → Nat → Sg → Option (Int × Sg)} {d : Nat} {v0 : Nat} {m : Sg} {x : Int × Sg} (e : f197 G ρ rc v0 m = some x) (hd : 3 ≤ d) (hr : RHM G ρ rc d) : Ex d 197 0 [(2, ((v0 : Nat) : Int)), (9, 0), (9, 0), (9, 0)] [] (G, ρ, m) (some (0, x.1), (G, ρ, x.2)) := by
  unfold f197 at e
  have hm := mi_197
  generalize hk : (some (0, x.1), (G, ρ, x.2)) = rr
  replace hk : (Bi G ρ) x rr := hk.symm
  refine Ex_run 2 (i' := 2) (L' := [(2, ((v0 : Nat) : Int)), (9, 0), (9, 0), (9, 0)]) (st' := [(1, 10631), (2, ((v0 : Nat) : Int))]) (h' := (G, ρ, m)) hm rfl cjn ?_
  obtain ⟨g1, e⟩ := gd_s e
  obtain ⟨q2, h2, e⟩ := bn_s e
  refine Ex_callm (z := 190) (na := 2) (ck := 15) (as := [(2, ((v0 : Nat) : Int)), (1, 10631)]) (rest := []) (E0 := [(2, ((v0 : Nat) : Int)), (1, 10631), (9, 0)]) (v := some (0, q2)) (h1 := (G, ρ, m)) hm rfl (by omega) ⟨Nat.le_of_ble_eq_true rfl, Nat.le_of_ble_eq_true rfl⟩ (rc2 rfl g1) rfl rfl ml_190 rfl (Nat.le_of_ble_eq_true rfl) (tf190 h2 (by omega)) ?_
  show Ex d 197 3 [(2, ((v0 : Nat) : Int)), (9, 0), (9, 0), (9, 0)] [(0, q2)] (G, ρ, m) rr
  by_cases c3 : q2 = 0
  · replace e := it_p e c3
    refine Ex_if1t (c := 0) (tgt := 24) hm rfl (bt0 c3) ?_
    refine Ex_run 1 (i' := 25) (L' := [(2, ((v0 : Nat) : Int)), (9, 0), (9, 0), (9, 0)]) (st' := [(2, ((v0 : Nat) : Int))]) (h' := (G, ρ, m)) hm rfl cjn ?_
    obtain ⟨q4, h4, e⟩ := bn_s e
    refine Ex_callm (z := 196) (na := 1) (ck := 15) (as := [(2, ((v0 : Nat) : Int))]) (rest := []) (E0 := [(2, ((v0 : Nat) : Int)), (9, 0), (9, 0), (9, 0)]) (v := some (0, q4.1)) (h1 := (G, ρ, q4.2)) hm rfl (by omega) ⟨Nat.le_of_ble_eq_true rfl, Nat.le_of_ble_eq_true rfl⟩ (rc2 rfl g1) rfl rfl ml_196 rfl (Nat.le_of_ble_eq_true rfl) (hr _ _ _ _ h4) ?_
    show Ex d 197 26 [(2, ((v0 : Nat) : Int)), (9, 0), (9, 0), (9, 0)] [(0, q4.1)] (G, ρ, q4.2) rr
    refine Ex_run 3 (i' := 29) (L' := [(2, ((v0 : Nat) : Int)), (0, q4.1), (9, 0), (9, 0)]) (st' := [(0, 60), (2, ((v0 : Nat) : Int))]) (h' := (G, ρ, q4.2)) hm rfl (cjc (Nat.le_of_ble_eq_true rfl) cjn) ?_
    obtain ⟨q5, h5, e⟩ := bn_s e
    refine Ex_callm (z := 191) (na := 2) (ck := 15) (as := [(2, ((v0 : Nat) : Int)), (0, 60)]) (rest := []) (E0 := [(2, ((v0 : Nat) : Int)), (0, 60)]) (v := some (0, q5)) (h1 := (G, ρ, q4.2)) hm rfl (by omega) ⟨Nat.le_of_ble_eq_true rfl, Nat.le_of_ble_eq_true rfl⟩ (rc2 rfl g1) rfl rfl ml_191 rfl (Nat.le_of_ble_eq_true rfl) (tf191 h5 (by omega)) ?_
    show Ex d 197 30 [(2, ((v0 : Nat) : Int)), (0, q4.1), (9, 0), (9, 0)] [(0, q5)] (G, ρ, q4.2) rr
    by_cases c6 : q5 = 0
    · replace e := it_p e c6
      refine Ex_if1f (c := 1) (tgt := 37) hm rfl (bf1 c6) ?_
      refine Ex_run 2 (i' := 33) (L' := [(2, ((v0 : Nat) : Int)), (0, q4.1), (9, 0), (9, 0)]) (st' := [(0, 61), (2, ((v0 : Nat) : Int))]) (h' := (G, ρ, q4.2)) hm rfl cjn ?_
      obtain ⟨q7, h7, e⟩ := bn_s e
      refine Ex_callm (z := 191) (na := 2) (ck := 15) (as := [(2, ((v0 : Nat) : Int)), (0, 61)]) (rest := []) (E0 := [(2, ((v0 : Nat) : Int)), (0, 61)]) (v := some (0, q7)) (h1 := (G, ρ, q4.2)) hm rfl (by omega) ⟨Nat.le_of_ble_eq_true rfl, Nat.le_of_ble_eq_true rfl⟩ (rc2 rfl g1) rfl rfl ml_191 rfl (Nat.le_of_ble_eq_true rfl) (tf191 h7 (by omega)) ?_
      show Ex d 197 34 [(2, ((v0 : Nat) : Int)), (0, q4.1), (9, 0), (9, 0)] [(0, q7)] (G, ρ, q4.2) rr
      by_cases c8 : q7 = 0
      · replace e := it_p e c8
        refine Ex_if1f (c := 1) (tgt := 37) hm rfl (bf1 c8) ?_
        refine Ex_run 1 (i' := 36) (L' := [(2, ((v0 : Nat) : Int)), (0, q4.1), (9, 0), (9, 0)]) (st' := [(0, q4.1)]) (h' := (G, ρ, q4.2)) hm rfl cjn ?_
        cases e
        cases hk
        exact Ex_ret (k := 1) hm rfl ⟨_, rfl, rfl⟩
      · replace e := it_n e c8
        refine Ex_if1t (c := 1) (tgt := 37) hm rfl (bt1 c8) ?_
        exact tf197_37 e hd hr rr hk
    · replace e := it_n e c6
      refine Ex_if1t (c := 1) (tgt := 37) hm rfl (bt1 c6) ?_
      exact tf197_37 e hd hr rr hk
  · replace e := it_n e c3
    refine Ex_if1f (c := 0) (tgt := 24) hm rfl (bf0 c3) ?_
    refine Ex_run 1 (i' := 5) (L' := [(2, ((v0 : Nat) : Int)), (9, 0), (9, 0), (9, 0)]) (st' := [(2, ((v0 : Nat) : Int))]) (h' := (G, ρ, m)) hm rfl cjn ?_
    obtain ⟨q17, h17, e⟩ := bn_s e
    refine Ex_callm (z := 192) (na := 1) (ck := 15) (as := [(2, ((v0 : Nat) : Int))]) (rest := []) (E0 := [(2, ((v0 : Nat) : Int))]) (v := some (0, q17.1)) (h1 := (G, ρ, q17.2)) hm rfl (by omega) ⟨Nat.le_of_ble_eq_true rfl, Nat.le_of_ble_eq_true rfl⟩ (rc2 rfl g1) rfl rfl ml_192 rfl (Nat.le_of_ble_eq_true rfl) (tf192 h17 (by omega)) ?_
    show Ex d 197 6 [(2, ((v0 : Nat) : Int)), (9, 0), (9, 0), (9, 0)] [(0, q17.1)] (G, ρ, q17.2) rr
    by_cases c18 : q17.1 = 0
    · replace e := it_p e c18
      refine Ex_if1f (c := 1) (tgt := 9) hm rfl (bf1 c18) ?_
      refine Ex_run 1 (i' := 8) (L' := [(2, ((v0 : Nat) : Int)), (9, 0), (9, 0), (9, 0)]) (st' := [(0, 0)]) (h' := (G, ρ, q17.2)) hm rfl cjn ?_
      cases e
      cases hk
      exact Ex_ret (k := 1) hm rfl ⟨_, rfl, rfl⟩
    · replace e := it_n e c18
      refine Ex_if1t (c := 1) (tgt := 9) hm rfl (bt1 c18) ?_
      refine Ex_run 1 (i' := 10) (L' := [(2, ((v0 : Nat) : Int)), (9, 0), (9, 0), (9, 0)]) (st' := [(2, ((v0 : Nat) : Int))]) (h' := (G, ρ, q17.2)) hm rfl cjn ?_
      obtain ⟨q19, h19, e⟩ := bn_s e
      refine Ex_callm (z := 197) (na := 1) (ck := 15) (as := [(2, ((v0 : Nat) : Int))]) (rest := []) (E0 := [(2, ((v0 : Nat) : Int)), (9, 0), (9, 0), (9, 0)]) (v := some (0, q19.1)) (h1 := (G, ρ, q19.2)) hm rfl (by omega) ⟨Nat.le_of_ble_eq_true rfl, Nat.le_of_ble_eq_true rfl⟩ (rc2 rfl g1) rfl rfl ml_197 rfl (Nat.le_of_ble_eq_true rfl) (hr _ _ _ _ h19) ?_
      show Ex d 197 11 [(2, ((v0 : Nat) : Int)), (9, 0), (9, 0), (9, 0)] [(0, q19.1)] (G, ρ, q19.2) rr
      refine Ex_run 8 (i' := 19) (L' := [(2, ((v0 : Nat) : Int)), (0, q19.1), (9, 0), (9, 0)]) (st' := [(0, q19.1)]) (h' := (G, ρ, (put q19.2 v0 36 (g_sub (q19.2 v0 36) 1)))) hm rfl (cjc (Nat.le_of_ble_eq_true rfl) (cjc (gk_b g1) (cjc (gk_b g1) cjn))) ?_
      by_cases c20 : q19.1 = 0
      · replace e := it_p e c20
        refine Ex_if1f (c := 1) (tgt := 22) hm rfl (bf1 c20) ?_
        refine Ex_run 2 (i' := 23) (L' := [(2, ((v0 : Nat) : Int)), (0, q19.1), (9, 0), (9, 0)]) (st' := [(0, 1)]) (h' := (G, ρ, (put q19.2 v0 36 (g_sub (q19.2 v0 36) 1)))) hm rfl cjn ?_
        cases e
        cases hk
        exact Ex_ret (k := 1) hm rfl ⟨_, rfl, rfl⟩
      · replace e := it_n e c20
        refine Ex_if1t (c := 1) (tgt := 22) hm rfl (bt1 c20) ?_
        refine Ex_run 1 (i' := 23) (L' := [(2, ((v0 : Nat) : Int)), (0, q19.1), (9, 0), (9, 0)]) (st' := [(0, 0)]) (h' := (G, ρ, (put q19.2 v0 36 (g_sub (q19.2 v0 36) 1)))) hm rfl cjn ?_
        cases e
        cases hk
        exact Ex_ret (k := 1) hm rfl ⟨_, rfl, rfl⟩
theorem tf198_b3 {G : Gg} {ρ : Rg} {rc : Nat → Nat → Sg → Option (Int × Sg)} {d : Nat} {v0 : Nat} {s : Int × Sg} {x : (Int × Sg) ⊕ (Int × Sg)} (e : f198_b3 G ρ rc v0 s = some x) (hd : 3 ≤ d) (hr : RHM G ρ rc d) (rr : Option MV × Mh) (hk : (DS (e198_3 G ρ d v0) (Bi G ρ)) x rr) : e198_3 G ρ d v0 s rr := by
  unfold f198_b3 at e
  have hm := mi_198
  show ∀ (j2 : MV), Ex d 198 3 [(2, ((v0 : Nat) : Int)), (0, s.1), j2] [] (G, ρ, s.2) rr
  intro j2
  refine Ex_run 2 (i' := 5) (L' := [(2, ((v0 : Nat) : Int)), (0, s.1), j2]) (st' := [(1, 1111), (2, ((v0 : Nat) : Int))]) (h' := (G, ρ, s.2)) hm rfl cjn ?_
  obtain ⟨g3, e⟩ := gd_s e
  obtain ⟨q4, h4, e⟩ := bn_s e
  refine Ex_callm (z := 190) (na := 2) (ck := 15) (as := [(2, ((v0 : Nat) : Int)), (1, 1111)]) (rest := []) (E0 := [(2, ((v0 : Nat) : Int)), (1, 1111), (9, 0)]) (v := some (0, q4)) (h1 := (G, ρ, s.2)) hm rfl (by omega) ⟨Nat.le_of_ble_eq_true rfl, Nat.le_of_ble_eq_true rfl⟩ (rc2 rfl g3) rfl rfl ml_190 rfl (Nat.le_of_ble_eq_true rfl) (tf190 h4 (by omega)) ?_
  show Ex d 198 6 [(2, ((v0 : Nat) : Int)), (0, s.1), j2] [(0, q4)] (G, ρ, s.2) rr
  by_cases c5 : q4 = 0
  · replace e := it_p e c5
    refine Ex_if1t (c := 0) (tgt := 21) hm rfl (bt0 c5) ?_
    obtain ⟨x, e, hx⟩ := xr_s e
    replace hk : (Bi G ρ) x rr := by rw [hx] at hk; exact hk
    refine Ex_run 1 (i' := 22) (L' := [(2, ((v0 : Nat) : Int)), (0, s.1), j2]) (st' := [(0, s.1)]) (h' := (G, ρ, s.2)) hm rfl cjn ?_
    cases e
    cases hk
    exact Ex_ret (k := 1) hm rfl ⟨_, rfl, rfl⟩
  · replace e := it_n e c5
    refine Ex_if1f (c := 0) (tgt := 21) hm rfl (bf0 c5) ?_
    refine Ex_run 1 (i' := 8) (L' := [(2, ((v0 : Nat) : Int)), (0, s.1), j2]) (st' := [(2, ((v0 : Nat) : Int))]) (h' := (G, ρ, s.2)) hm rfl cjn ?_
    obtain ⟨q6, h6, e⟩ := bn_s e
    refine Ex_callm (z := 188) (na := 1) (ck := 15) (as := [(2, ((v0 : Nat) : Int))]) (rest := []) (E0 := [(2, ((v0 : Nat) : Int)), (9, 0), (9, 0)]) (v := none) (h1 := (G, ρ, q6)) hm rfl (by omega) ⟨Nat.le_of_ble_eq_true rfl, Nat.le_of_ble_eq_true rfl⟩ (rc2 rfl g3) rfl rfl ml_188 rfl (Nat.le_of_ble_eq_true rfl) (tf188 h6 (by omega)) ?_
    show Ex d 198 9 [(2, ((v0 : Nat) : Int)), (0, s.1), j2] [] (G, ρ, q6) rr
    refine Ex_run 1 (i' := 10) (L' := [(2, ((v0 : Nat) : Int)), (0, s.1), j2]) (st' := [(2, ((v0 : Nat) : Int))]) (h' := (G, ρ, q6)) hm rfl cjn ?_
    obtain ⟨q7, h7, e⟩ := bn_s e
    refine Ex_callm (z := 197) (na := 1) (ck := 15) (as := [(2, ((v0 : Nat) : Int))]) (rest := []) (E0 := [(2, ((v0 : Nat) : Int)), (9, 0), (9, 0), (9, 0)]) (v := some (0, q7.1)) (h1 := (G, ρ, q7.2)) hm rfl (by omega) ⟨Nat.le_of_ble_eq_true rfl, Nat.le_of_ble_eq_true rfl⟩ (rc2 rfl g3) rfl rfl ml_197 rfl (Nat.le_of_ble_eq_true rfl) (hr _ _ _ _ h7) ?_
    show Ex d 198 11 [(2, ((v0 : Nat) : Int)), (0, s.1), j2] [(0, q7.1)] (G, ρ, q7.2) rr
    refine Ex_run 2 (i' := 13) (L' := [(2, ((v0 : Nat) : Int)), (0, s.1), (0, q7.1)]) (st' := [(0, s.1)]) (h' := (G, ρ, q7.2)) hm rfl (cjc (Nat.le_of_ble_eq_true rfl) cjn) ?_
    by_cases c8 : s.1 = 0
    · replace e := it_p e c8
      refine Ex_if1t (c := 0) (tgt := 18) hm rfl (bt0 c8) ?_
      refine Ex_run 3 (i' := 3) (L' := [(2, ((v0 : Nat) : Int)), (0, 0), (0, q7.1)]) (st' := []) (h' := (G, ρ, q7.2)) hm rfl (cjc (Nat.le_of_ble_eq_true rfl) cjn) ?_
      cases e
      exact hk _
    · replace e := it_n e c8
      refine Ex_if1f (c := 0) (tgt := 18) hm rfl (bf0 c8) ?_
      refine Ex_run 1 (i' := 15) (L' := [(2, ((v0 : Nat) : Int)), (0, s.1), (0, q7.1)]) (st' := [(0, q7.1)]) (h' := (G, ρ, q7.2)) hm rfl cjn ?_
      by_cases c9 : q7.1 = 0
      · replace e := it_p e c9
        refine Ex_if1t (c := 0) (tgt := 18) hm rfl (bt0 c9) ?_
        refine Ex_run 3 (i' := 3) (L' := [(2, ((v0 : Nat) : Int)), (0, 0), (0, q7.1)]) (st' := []) (h' := (G, ρ, q7.2)) hm rfl (cjc (Nat.le_of_ble_eq_true rfl) cjn) ?_
        cases e
        exact hk _
      · replace e := it_n e c9
        refine Ex_if1f (c := 0) (tgt := 18) hm rfl (bf0 c9) ?_
        refine Ex_run 4 (i' := 3) (L' := [(2, ((v0 : Nat) : Int)), (0, 1), (0, q7.1)]) (st' := []) (h' := (G, ρ, q7.2)) hm rfl (cjc (Nat.le_of_ble_eq_true rfl) cjn) ?_
        cases e
        exact hk _
theorem tf198 {G : Gg} {ρ : Rg} {rc : Nat → Nat → Sg → Option (Int × Sg)} {d : Nat} {v0 : Nat} {m : Sg} {x : Int × Sg} (e : f198 G ρ rc v0 m = some x) (hd : 3 ≤ d) (hr : RHM G ρ rc d) : Ex d 198 0 [(2, ((v0 : Nat) : Int)), (9, 0), (9, 0)] [] (G, ρ, m) (some (0, x.1), (G, ρ, x.2)) := by
  unfold f198 at e
  have hm := mi_198
  generalize hk : (some (0, x.1), (G, ρ, x.2)) = rr
  replace hk : (Bi G ρ) x rr := hk.symm
  refine Ex_run 1 (i' := 1) (L' := [(2, ((v0 : Nat) : Int)), (9, 0), (9, 0)]) (st' := [(2, ((v0 : Nat) : Int))]) (h' := (G, ρ, m)) hm rfl cjn ?_
  obtain ⟨g1, e⟩ := gd_s e
  obtain ⟨q2, h2, e⟩ := bn_s e
  refine Ex_callm (z := 197) (na := 1) (ck := 15) (as := [(2, ((v0 : Nat) : Int))]) (rest := []) (E0 := [(2, ((v0 : Nat) : Int)), (9, 0), (9, 0), (9, 0)]) (v := some (0, q2.1)) (h1 := (G, ρ, q2.2)) hm rfl (by omega) ⟨Nat.le_of_ble_eq_true rfl, Nat.le_of_ble_eq_true rfl⟩ (rc2 rfl g1) rfl rfl ml_197 rfl (Nat.le_of_ble_eq_true rfl) (hr _ _ _ _ h2) ?_
  show Ex d 198 2 [(2, ((v0 : Nat) : Int)), (9, 0), (9, 0)] [(0, q2.1)] (G, ρ, q2.2) rr
  refine Ex_run 1 (i' := 3) (L' := [(2, ((v0 : Nat) : Int)), (0, q2.1), (9, 0)]) (st' := []) (h' := (G, ρ, q2.2)) hm rfl (cjc (Nat.le_of_ble_eq_true rfl) cjn) ?_
  exact (Ex_lp (A := e198_3 G ρ d v0 ) (B := (Bi G ρ)) (fun s x e rr hk => tf198_b3 e hd hr rr hk) FU _ _ e rr hk) _
theorem tf199_b3 {G : Gg} {ρ : Rg} {rc : Nat → Nat → Sg → Option (Int × Sg)} {d : Nat} {v0 : Nat} {s : Int × Sg} {x : (Int × Sg) ⊕ (Int × Sg)} (e : f199_b3 G ρ rc v0 s = some x) (hd : 3 ≤ d) (hr : RHM G ρ rc d) (rr : Option MV × Mh) (hk : (DS (e199_3 G ρ d v0) (Bi G ρ)) x rr) : e199_3 G ρ d v0 s rr := by
  unfold f199_b3 at e
  have hm := mi_199
  show ∀ (j2 : MV), Ex d 199 3 [(2, ((v0 : Nat) : Int)), (0, s.1), j2] [] (G, ρ, s.2) rr
  intro j2
  refine Ex_run 2 (i' := 5) (L' := [(2, ((v0 : Nat) : Int)), (0, s.1), j2]) (st' := [(1, 423), (2, ((v0 : Nat) : Int))]) (h' := (G, ρ, s.2)) hm rfl cjn ?_
  obtain ⟨g3, e⟩ := gd_s e
  obtain ⟨q4, h4, e⟩ := bn_s e
  refine Ex_callm (z := 190) (na := 2) (ck := 15) (as := [(2, ((v0 : Nat) : Int)), (1, 423)]) (rest := []) (E0 := [(2, ((v0 : Nat) : Int)), (1, 423), (9, 0)]) (v := some (0, q4)) (h1 := (G, ρ, s.2)) hm rfl (by omega) ⟨Nat.le_of_ble_eq_true rfl, Nat.le_of_ble_eq_true rfl⟩ (rc2 rfl g3) rfl rfl ml_190 rfl (Nat.le_of_ble_eq_true rfl) (tf190 h4 (by omega)) ?_
  show Ex d 199 6 [(2, ((v0 : Nat) : Int)), (0, s.1), j2] [(0, q4)] (G, ρ, s.2) rr
  by_cases c5 : q4 = 0
  · replace e := it_p e c5
    refine Ex_if1t (c := 0) (tgt := 21) hm rfl (bt0 c5) ?_
    obtain ⟨x, e, hx⟩ := xr_s e
    replace hk : (Bi G ρ) x rr := by rw [hx] at hk; exact hk
    refine Ex_run 1 (i' := 22) (L' := [(2, ((v0 : Nat) : Int)), (0, s.1), j2]) (st' := [(0, s.1)]) (h' := (G, ρ, s.2)) hm rfl cjn ?_
    cases e
    cases hk
    exact Ex_ret (k := 1) hm rfl ⟨_, rfl, rfl⟩
  · replace e := it_n e c5
    refine Ex_if1f (c := 0) (tgt := 21) hm rfl (bf0 c5) ?_
    refine Ex_run 1 (i' := 8) (L' := [(2, ((v0 : Nat) : Int)), (0, s.1), j2]) (st' := [(2, ((v0 : Nat) : Int))]) (h' := (G, ρ, s.2)) hm rfl cjn ?_
    obtain ⟨q6, h6, e⟩ := bn_s e
    refine Ex_callm (z := 188) (na := 1) (ck := 15) (as := [(2, ((v0 : Nat) : Int))]) (rest := []) (E0 := [(2, ((v0 : Nat) : Int)), (9, 0), (9, 0)]) (v := none) (h1 := (G, ρ, q6)) hm rfl (by omega) ⟨Nat.le_of_ble_eq_true rfl, Nat.le_of_ble_eq_true rfl⟩ (rc2 rfl g3) rfl rfl ml_188 rfl (Nat.le_of_ble_eq_true rfl) (tf188 h6 (by omega)) ?_
    show Ex d 199 9 [(2, ((v0 : Nat) : Int)), (0, s.1), j2] [] (G, ρ, q6) rr
    refine Ex_run 1 (i' := 10) (L' := [(2, ((v0 : Nat) : Int)), (0, s.1), j2]) (st' := [(2, ((v0 : Nat) : Int))]) (h' := (G, ρ, q6)) hm rfl cjn ?_
    obtain ⟨q7, h7, e⟩ := bn_s e
    refine Ex_callm (z := 198) (na := 1) (ck := 15) (as := [(2, ((v0 : Nat) : Int))]) (rest := []) (E0 := [(2, ((v0 : Nat) : Int)), (9, 0), (9, 0)]) (v := some (0, q7.1)) (h1 := (G, ρ, q7.2)) hm rfl (by omega) ⟨Nat.le_of_ble_eq_true rfl, Nat.le_of_ble_eq_true rfl⟩ (rc2 rfl g3) rfl rfl ml_198 rfl (Nat.le_of_ble_eq_true rfl) (hr _ _ _ _ h7) ?_
    show Ex d 199 11 [(2, ((v0 : Nat) : Int)), (0, s.1), j2] [(0, q7.1)] (G, ρ, q7.2) rr
    refine Ex_run 2 (i' := 13) (L' := [(2, ((v0 : Nat) : Int)), (0, s.1), (0, q7.1)]) (st' := [(0, s.1)]) (h' := (G, ρ, q7.2)) hm rfl (cjc (Nat.le_of_ble_eq_true rfl) cjn) ?_
    by_cases c8 : s.1 = 0
    · replace e := it_p e c8
      refine Ex_if1f (c := 1) (tgt := 16) hm rfl (bf1 c8) ?_
      refine Ex_run 1 (i' := 15) (L' := [(2, ((v0 : Nat) : Int)), (0, s.1), (0, q7.1)]) (st' := [(0, q7.1)]) (h' := (G, ρ, q7.2)) hm rfl cjn ?_
      by_cases c9 : q7.1 = 0
      · replace e := it_p e c9
        refine Ex_if1t (c := 0) (tgt := 18) hm rfl (bt0 c9) ?_
        refine Ex_run 3 (i' := 3) (L' := [(2, ((v0 : Nat) : Int)), (0, 0), (0, q7.1)]) (st' := []) (h' := (G, ρ, q7.2)) hm rfl (cjc (Nat.le_of_ble_eq_true rfl) cjn) ?_
        cases e
        exact hk _
      · replace e := it_n e c9
        refine Ex_if1f (c := 0) (tgt := 18) hm rfl (bf0 c9) ?_
        refine Ex_run 4 (i' := 3) (L' := [(2, ((v0 : Nat) : Int)), (0, 1), (0, q7.1)]) (st' := []) (h' := (G, ρ, q7.2)) hm rfl (cjc (Nat.le_of_ble_eq_true rfl) cjn) ?_
        cases e
        exact hk _
    · replace e := it_n e c8
      refine Ex_if1t (c := 1) (tgt := 16) hm rfl (bt1 c8) ?_
      refine Ex_run 4 (i' := 3) (L' := [(2, ((v0 : Nat) : Int)), (0, 1), (0, q7.1)]) (st' := []) (h' := (G, ρ, q7.2)) hm rfl (cjc (Nat.le_of_ble_eq_true rfl) cjn) ?_
      cases e
      exact hk _
theorem tf199 {G : Gg} {ρ : Rg} {rc : Nat → Nat → Sg → Option (Int × Sg)} {d : Nat} {v0 : Nat} {m : Sg} {x : Int × Sg} (e : f199 G ρ rc v0 m = some x) (hd : 3 ≤ d) (hr : RHM G ρ rc d) : Ex d 199 0 [(2, ((v0 : Nat) : Int)), (9, 0), (9, 0)] [] (G, ρ, m) (some (0, x.1), (G, ρ, x.2)) := by
  unfold f199 at e
  have hm := mi_199
  generalize hk : (some (0, x.1), (G, ρ, x.2)) = rr
  replace hk : (Bi G ρ) x rr := hk.symm
  refine Ex_run 1 (i' := 1) (L' := [(2, ((v0 : Nat) : Int)), (9, 0), (9, 0)]) (st' := [(2, ((v0 : Nat) : Int))]) (h' := (G, ρ, m)) hm rfl cjn ?_
  obtain ⟨g1, e⟩ := gd_s e
  obtain ⟨q2, h2, e⟩ := bn_s e
  refine Ex_callm (z := 198) (na := 1) (ck := 15) (as := [(2, ((v0 : Nat) : Int))]) (rest := []) (E0 := [(2, ((v0 : Nat) : Int)), (9, 0), (9, 0)]) (v := some (0, q2.1)) (h1 := (G, ρ, q2.2)) hm rfl (by omega) ⟨Nat.le_of_ble_eq_true rfl, Nat.le_of_ble_eq_true rfl⟩ (rc2 rfl g1) rfl rfl ml_198 rfl (Nat.le_of_ble_eq_true rfl) (hr _ _ _ _ h2) ?_
  show Ex d 199 2 [(2, ((v0 : Nat) : Int)), (9, 0), (9, 0)] [(0, q2.1)] (G, ρ, q2.2) rr
  refine Ex_run 1 (i' := 3) (L' := [(2, ((v0 : Nat) : Int)), (0, q2.1), (9, 0)]) (st' := []) (h' := (G, ρ, q2.2)) hm rfl (cjc (Nat.le_of_ble_eq_true rfl) cjn) ?_
  exact (Ex_lp (A := e199_3 G ρ d v0 ) (B := (Bi G ρ)) (fun s x e rr hk => tf199_b3 e hd hr rr hk) FU _ _ e rr hk) _
theorem tf194_78 {G : Gg} {ρ : Rg} {rc : Nat → Nat → Sg → Option (Int × Sg)} {d : Nat} {v0 : Nat} {v1 : Int} {m : Sg} {x : Int × Sg} (e : f194_78 G ρ rc v0 v1 m = some x) (hd : 3 ≤ d) (hr : RHM G ρ rc d) (rr : Option MV × Mh) (hk : (Bi G ρ) x rr) : Ex d 194 78 [(2, ((v0 : Nat) : Int)), (0, v1)] [] (G, ρ, m) rr := by
  unfold f194_78 at e
  have hm := mi_194
  refine Ex_run 1 (i' := 79) (L' := [(2, ((v0 : Nat) : Int)), (0, v1)]) (st' := [(2, ((v0 : Nat) : Int))]) (h' := (G, ρ, m)) hm rfl cjn ?_
  obtain ⟨g15, e⟩ := gd_s e
  obtain ⟨q16, h16, e⟩ := bn_s e
  refine Ex_callm (z := 189) (na := 1) (ck := 15) (as := [(2, ((v0 : Nat) : Int))]) (rest := []) (E0 := [(2, ((v0 : Nat) : Int))]) (v := none) (h1 := (G, ρ, q16)) hm rfl (by omega) ⟨Nat.le_of_ble_eq_true rfl, Nat.le_of_ble_eq_true rfl⟩ (rc2 rfl g15) rfl rfl ml_189 rfl (Nat.le_of_ble_eq_true rfl) (tf189 h16 (by omega)) ?_
  show Ex d 194 80 [(2, ((v0 : Nat) : Int)), (0, v1)] [] (G, ρ, q16) rr
  refine Ex_run 1 (i' := 81) (L' := [(2, ((v0 : Nat) : Int)), (0, v1)]) (st' := [(0, v1)]) (h' := (G, ρ, q16)) hm rfl cjn ?_
  cases e
  cases hk
  exact Ex_ret (k := 1) hm rfl ⟨_, rfl, rfl⟩
theorem tf194_62 {G : Gg} {ρ : Rg} {rc : Nat → Nat → Sg → Option (Int × Sg)} {d : Nat} {v0 : Nat} {v1 : Int} {m : Sg} {x : Int × Sg} (e : f194_62 G ρ rc v0 v1 m = some x) (hd : 3 ≤ d) (hr : RHM G ρ rc d) (rr : Option MV × Mh) (hk : (Bi G ρ) x rr) : Ex d 194 62 [(2, ((v0 : Nat) : Int)), (0, v1)] [] (G, ρ, m) rr := by
  unfold f194_62 at e
  have hm := mi_194
  obtain ⟨g9, e⟩ := gd_s e
  refine Ex_run 2 (i' := 64) (L' := [(2, ((v0 : Nat) : Int)), (0, v1)]) (st' := [(0, (m v0 37))]) (h' := (G, ρ, m)) hm rfl (cjc (gk_b g9) cjn) ?_
  by_cases c10 : (m v0 37) = 0
  · replace e := it_p e c10
    refine Ex_if1f (c := 1) (tgt := 78) hm rfl (bf1 c10) ?_
    refine Ex_run 3 (i' := 68) (L' := [(2, ((v0 : Nat) : Int)), (0, v1)]) (st' := [(0, 1), (0, (m v0 32))]) (h' := (G, ρ, m)) hm rfl (cjc (gk_b g9) cjn) ?_
    by_cases c11 : (m v0 32) = 1
    · replace e := it_p e c11
      refine Ex_if2f (c := 1) (tgt := 78) hm rfl (bf1 c11) ?_
      refine Ex_run 1 (i' := 70) (L' := [(2, ((v0 : Nat) : Int)), (0, v1)]) (st' := [(2, ((v0 : Nat) : Int))]) (h' := (G, ρ, m)) hm rfl cjn ?_
      obtain ⟨q12, h12, e⟩ := bn_s e
      refine Ex_callm (z := 193) (na := 1) (ck := 15) (as := [(2, ((v0 : Nat) : Int))]) (rest := []) (E0 := [(2, ((v0 : Nat) : Int))]) (v := some (0, q12.1)) (h1 := (G, ρ, q12.2)) hm rfl (by omega) ⟨Nat.le_of_ble_eq_true rfl, Nat.le_of_ble_eq_true rfl⟩ (rc2 rfl g9) rfl rfl ml_193 rfl (Nat.le_of_ble_eq_true rfl) (tf193 h12 (by omega)) ?_
      show Ex d 194 71 [(2, ((v0 : Nat) : Int)), (0, v1)] [(0, q12.1)] (G, ρ, q12.2) rr
      refine Ex_run 3 (i' := 74) (L' := [(2, ((v0 : Nat) : Int)), (0, q12.1)]) (st' := [(0, (q12.2 v0 37))]) (h' := (G, ρ, q12.2)) hm rfl (cjc (Nat.le_of_ble_eq_true rfl) (cjc (gk_b g9) cjn)) ?_
      by_cases c13 : (q12.2 v0 37) = 0
      · replace e := it_p e c13
        refine Ex_if1f (c := 1) (tgt := 80) hm rfl (bf1 c13) ?_
        refine Ex_run 1 (i' := 76) (L' := [(2, ((v0 : Nat) : Int)), (0, q12.1)]) (st' := [(2, ((v0 : Nat) : Int))]) (h' := (G, ρ, q12.2)) hm rfl cjn ?_
        obtain ⟨q14, h14, e⟩ := bn_s e
        refine Ex_callm (z := 188) (na := 1) (ck := 15) (as := [(2, ((v0 : Nat) : Int))]) (rest := []) (E0 := [(2, ((v0 : Nat) : Int)), (9, 0), (9, 0)]) (v := none) (h1 := (G, ρ, q14)) hm rfl (by omega) ⟨Nat.le_of_ble_eq_true rfl, Nat.le_of_ble_eq_true rfl⟩ (rc2 rfl g9) rfl rfl ml_188 rfl (Nat.le_of_ble_eq_true rfl) (tf188 h14 (by omega)) ?_
        show Ex d 194 77 [(2, ((v0 : Nat) : Int)), (0, q12.1)] [] (G, ρ, q14) rr
        refine Ex_run 2 (i' := 81) (L' := [(2, ((v0 : Nat) : Int)), (0, q12.1)]) (st' := [(0, q12.1)]) (h' := (G, ρ, q14)) hm rfl cjn ?_
        cases e
        cases hk
        exact Ex_ret (k := 1) hm rfl ⟨_, rfl, rfl⟩
      · replace e := it_n e c13
        refine Ex_if1t (c := 1) (tgt := 80) hm rfl (bt1 c13) ?_
        refine Ex_run 1 (i' := 81) (L' := [(2, ((v0 : Nat) : Int)), (0, q12.1)]) (st' := [(0, q12.1)]) (h' := (G, ρ, q12.2)) hm rfl cjn ?_
        cases e
        cases hk
        exact Ex_ret (k := 1) hm rfl ⟨_, rfl, rfl⟩
    · replace e := it_n e c11
      refine Ex_if2t (c := 1) (tgt := 78) hm rfl (bt1 c11) ?_
      exact tf194_78 e hd hr rr hk
  · replace e := it_n e c10
    refine Ex_if1t (c := 1) (tgt := 78) hm rfl (bt1 c10) ?_
    exact tf194_78 e hd hr rr hk
theorem tf194_36 {G : Gg} {ρ : Rg} {rc : Nat → Nat → Sg → Option (Int × Sg)} {d : Nat} {v0 : Nat} {v1 : Int} {m : Sg} {x : Int × Sg} (e : f194_36 G ρ rc v0 v1 m = some x) (hd : 3 ≤ d) (hr : RHM G ρ rc d) (rr : Option MV × Mh) (hk : (Bi G ρ) x rr) : Ex d 194 36 [(2, ((v0 : Nat) : Int)), (0, v1)] [] (G, ρ, m) rr := by
  unfold f194_36 at e
  have hm := mi_194
  obtain ⟨g23, e⟩ := gd_s e
  refine Ex_run 8 (i' := 44) (L' := [(2, ((v0 : Nat) : Int)), (0, v1)]) (st' := [(0, ((put m v0 36 (g_sub (m v0 36) 1)) v0 37))]) (h' := (G, ρ, (put m v0 36 (g_sub (m v0 36) 1)))) hm rfl (cjc (gk_b g23) (cjc (gk_b g23) (cjc (gk_b g23) cjn))) ?_
  by_cases c24 : ((put m v0 36 (g_sub (m v0 36) 1)) v0 37) = 0
  · replace e := it_p e c24
    refine Ex_if1f (c := 1) (tgt := 80) hm rfl (bf1 c24) ?_
    refine Ex_run 1 (i' := 46) (L' := [(2, ((v0 : Nat) : Int)), (0, v1)]) (st' := [(2, ((v0 : Nat) : Int))]) (h' := (G, ρ, (put m v0 36 (g_sub (m v0 36) 1)))) hm rfl cjn ?_
    obtain ⟨q25, h25, e⟩ := bn_s e
    refine Ex_callm (z := 188) (na := 1) (ck := 15) (as := [(2, ((v0 : Nat) : Int))]) (rest := []) (E0 := [(2, ((v0 : Nat) : Int)), (9, 0), (9, 0)]) (v := none) (h1 := (G, ρ, q25)) hm rfl (by omega) ⟨Nat.le_of_ble_eq_true rfl, Nat.le_of_ble_eq_true rfl⟩ (rc2 rfl g23) rfl rfl ml_188 rfl (Nat.le_of_ble_eq_true rfl) (tf188 h25 (by omega)) ?_
    show Ex d 194 47 [(2, ((v0 : Nat) : Int)), (0, v1)] [] (G, ρ, q25) rr
    refine Ex_run 2 (i' := 81) (L' := [(2, ((v0 : Nat) : Int)), (0, v1)]) (st' := [(0, v1)]) (h' := (G, ρ, q25)) hm rfl cjn ?_
    cases e
    cases hk
    exact Ex_ret (k := 1) hm rfl ⟨_, rfl, rfl⟩
  · replace e := it_n e c24
    refine Ex_if1t (c := 1) (tgt := 80) hm rfl (bt1 c24) ?_
    refine Ex_run 1 (i' := 81) (L' := [(2, ((v0 : Nat) : Int)), (0, v1)]) (st' := [(0, v1)]) (h' := (G, ρ, (put m v0 36 (g_sub (m v0 36) 1)))) hm rfl cjn ?_
    cases e
    cases hk
    exact Ex_ret (k := 1) hm rfl ⟨_, rfl, rfl⟩
theorem tf194 {G : Gg} {ρ : Rg} {rc : Nat → Nat → Sg → Option (Int × Sg)} {d : Nat} {v0 : Nat} {m : Sg} {x : Int × Sg} (e : f194 G ρ rc v0 m = some x) (hd : 3 ≤ d) (hr : RHM G ρ rc d) : Ex d 194 0 [(2, ((v0 : Nat) : Int)), (9, 0)] [] (G, ρ, m) (some (0, x.1), (G, ρ, x.2)) := by
  unfold f194 at e
  have hm := mi_194
  generalize hk : (some (0, x.1), (G, ρ, x.2)) = rr
  replace hk : (Bi G ρ) x rr := hk.symm
  refine Ex_run 4 (i' := 4) (L' := [(2, ((v0 : Nat) : Int)), (0, 0)]) (st' := [(0, 45), (2, ((v0 : Nat) : Int))]) (h' := (G, ρ, m)) hm rfl (cjc (Nat.le_of_ble_eq_true rfl) cjn) ?_
  obtain ⟨g1, e⟩ := gd_s e
  obtain ⟨q2, h2, e⟩ := bn_s e
  refine Ex_callm (z := 191) (na := 2) (ck := 15) (as := [(2, ((v0 : Nat) : Int)), (0, 45)]) (rest := []) (E0 := [(2, ((v0 : Nat) : Int)), (0, 45)]) (v := some (0, q2)) (h1 := (G, ρ, m)) hm rfl (by omega) ⟨Nat.le_of_ble_eq_true rfl, Nat.le_of_ble_eq_true rfl⟩ (rc2 rfl g1) rfl rfl ml_191 rfl (Nat.le_of_ble_eq_true rfl) (tf191 h2 (by omega)) ?_
  show Ex d 194 5 [(2, ((v0 : Nat) : Int)), (0, 0)] [(0, q2)] (G, ρ, m) rr
  by_cases c3 : q2 = 0
  · replace e := it_p e c3
    refine Ex_if1t (c := 0) (tgt := 20) hm rfl (bt0 c3) ?_
    refine Ex_run 2 (i' := 22) (L' := [(2, ((v0 : Nat) : Int)), (0, 0)]) (st' := [(0, 40), (2, ((v0 : Nat) : Int))]) (h' := (G, ρ, m)) hm rfl cjn ?_
    obtain ⟨q4, h4, e⟩ := bn_s e
    refine Ex_callm (z := 191) (na := 2) (ck := 15) (as := [(2, ((v0 : Nat) : Int)), (0, 40)]) (rest := []) (E0 := [(2, ((v0 : Nat) : Int)), (0, 40)]) (v := some (0, q4)) (h1 := (G, ρ, m)) hm rfl (by omega) ⟨Nat.le_of_ble_eq_true rfl, Nat.le_of_ble_eq_true rfl⟩ (rc2 rfl g1) rfl rfl ml_191 rfl (Nat.le_of_ble_eq_true rfl) (tf191 h4 (by omega)) ?_
    show Ex d 194 23 [(2, ((v0 : Nat) : Int)), (0, 0)] [(0, q4)] (G, ρ, m) rr
    by_cases c5 : q4 = 0
    · replace e := it_p e c5
      refine Ex_if1t (c := 0) (tgt := 48) hm rfl (bt0 c5) ?_
      refine Ex_run 2 (i' := 50) (L' := [(2, ((v0 : Nat) : Int)), (0, 0)]) (st' := [(0, (m v0 37))]) (h' := (G, ρ, m)) hm rfl (cjc (gk_b g1) cjn) ?_
      by_cases c6 : (m v0 37) = 0
      · replace e := it_p e c6
        refine Ex_if1f (c := 1) (tgt := 62) hm rfl (bf1 c6) ?_
        refine Ex_run 3 (i' := 54) (L' := [(2, ((v0 : Nat) : Int)), (0, 0)]) (st' := [(0, 2), (0, (m v0 32))]) (h' := (G, ρ, m)) hm rfl (cjc (gk_b g1) cjn) ?_
        by_cases c7 : (m v0 32) = 2
        · replace e := it_p e c7
          refine Ex_if2f (c := 1) (tgt := 62) hm rfl (bf1 c7) ?_
          refine Ex_run 5 (i' := 60) (L' := [(2, ((v0 : Nat) : Int)), (0, (w32 (m v0 34)))]) (st' := [(2, ((v0 : Nat) : Int))]) (h' := (G, ρ, m)) hm rfl (cjc (gk_b g1) (cjc (Nat.le_of_ble_eq_true rfl) cjn)) ?_
          obtain ⟨q8, h8, e⟩ := bn_s e
          refine Ex_callm (z := 188) (na := 1) (ck := 15) (as := [(2, ((v0 : Nat) : Int))]) (rest := []) (E0 := [(2, ((v0 : Nat) : Int)), (9, 0), (9, 0)]) (v := none) (h1 := (G, ρ, q8)) hm rfl (by omega) ⟨Nat.le_of_ble_eq_true rfl, Nat.le_of_ble_eq_true rfl⟩ (rc2 rfl g1) rfl rfl ml_188 rfl (Nat.le_of_ble_eq_true rfl) (tf188 h8 (by omega)) ?_
          show Ex d 194 61 [(2, ((v0 : Nat) : Int)), (0, (w32 (m v0 34)))] [] (G, ρ, q8) rr
          refine Ex_run 2 (i' := 81) (L' := [(2, ((v0 : Nat) : Int)), (0, (w32 (m v0 34)))]) (st' := [(0, (w32 (m v0 34)))]) (h' := (G, ρ, q8)) hm rfl cjn ?_
          cases e
          cases hk
          exact Ex_ret (k := 1) hm rfl ⟨_, rfl, rfl⟩
        · replace e := it_n e c7
          refine Ex_if2t (c := 1) (tgt := 62) hm rfl (bt1 c7) ?_
          exact tf194_62 e hd hr rr hk
      · replace e := it_n e c6
        refine Ex_if1t (c := 1) (tgt := 62) hm rfl (bt1 c6) ?_
        exact tf194_62 e hd hr rr hk
    · replace e := it_n e c5
      refine Ex_if1f (c := 0) (tgt := 48) hm rfl (bf0 c5) ?_
      refine Ex_run 1 (i' := 25) (L' := [(2, ((v0 : Nat) : Int)), (0, 0)]) (st' := [(2, ((v0 : Nat) : Int))]) (h' := (G, ρ, m)) hm rfl cjn ?_
      obtain ⟨q17, h17, e⟩ := bn_s e
      refine Ex_callm (z := 192) (na := 1) (ck := 15) (as := [(2, ((v0 : Nat) : Int))]) (rest := []) (E0 := [(2, ((v0 : Nat) : Int))]) (v := some (0, q17.1)) (h1 := (G, ρ, q17.2)) hm rfl (by omega) ⟨Nat.le_of_ble_eq_true rfl, Nat.le_of_ble_eq_true rfl⟩ (rc2 rfl g1) rfl rfl ml_192 rfl (Nat.le_of_ble_eq_true rfl) (tf192 h17 (by omega)) ?_
      show Ex d 194 26 [(2, ((v0 : Nat) : Int)), (0, 0)] [(0, q17.1)] (G, ρ, q17.2) rr
      by_cases c18 : q17.1 = 0
      · replace e := it_p e c18
        refine Ex_if1t (c := 0) (tgt := 80) hm rfl (bt0 c18) ?_
        refine Ex_run 1 (i' := 81) (L' := [(2, ((v0 : Nat) : Int)), (0, 0)]) (st' := [(0, 0)]) (h' := (G, ρ, q17.2)) hm rfl cjn ?_
        cases e
        cases hk
        exact Ex_ret (k := 1) hm rfl ⟨_, rfl, rfl⟩
      · replace e := it_n e c18
        refine Ex_if1f (c := 0) (tgt := 80) hm rfl (bf0 c18) ?_
        refine Ex_run 1 (i' := 28) (L' := [(2, ((v0 : Nat) : Int)), (0, 0)]) (st' := [(2, ((v0 : Nat) : Int))]) (h' := (G, ρ, q17.2)) hm rfl cjn ?_
        obtain ⟨q19, h19, e⟩ := bn_s e
        refine Ex_callm (z := 199) (na := 1) (ck := 15) (as := [(2, ((v0 : Nat) : Int))]) (rest := []) (E0 := [(2, ((v0 : Nat) : Int)), (9, 0), (9, 0)]) (v := some (0, q19.1)) (h1 := (G, ρ, q19.2)) hm rfl (by omega) ⟨Nat.le_of_ble_eq_true rfl, Nat.le_of_ble_eq_true rfl⟩ (rc2 rfl g1) rfl rfl ml_199 rfl (Nat.le_of_ble_eq_true rfl) (hr _ _ _ _ h19) ?_
        show Ex d 194 29 [(2, ((v0 : Nat) : Int)), (0, 0)] [(0, q19.1)] (G, ρ, q19.2) rr
        refine Ex_run 3 (i' := 32) (L' := [(2, ((v0 : Nat) : Int)), (0, q19.1)]) (st' := [(0, 41), (2, ((v0 : Nat) : Int))]) (h' := (G, ρ, q19.2)) hm rfl (cjc (Nat.le_of_ble_eq_true rfl) cjn) ?_
        obtain ⟨q20, h20, e⟩ := bn_s e
        refine Ex_callm (z := 191) (na := 2) (ck := 15) (as := [(2, ((v0 : Nat) : Int)), (0, 41)]) (rest := []) (E0 := [(2, ((v0 : Nat) : Int)), (0, 41)]) (v := some (0, q20)) (h1 := (G, ρ, q19.2)) hm rfl (by omega) ⟨Nat.le_of_ble_eq_true rfl, Nat.le_of_ble_eq_true rfl⟩ (rc2 rfl g1) rfl rfl ml_191 rfl (Nat.le_of_ble_eq_true rfl) (tf191 h20 (by omega)) ?_
        show Ex d 194 33 [(2, ((v0 : Nat) : Int)), (0, q19.1)] [(0, q20)] (G, ρ, q19.2) rr
        by_cases c21 : q20 = 0
        · replace e := it_p e c21
          refine Ex_if1f (c := 1) (tgt := 36) hm rfl (bf1 c21) ?_
          refine Ex_run 1 (i' := 35) (L' := [(2, ((v0 : Nat) : Int)), (0, q19.1)]) (st' := [(2, ((v0 : Nat) : Int))]) (h' := (G, ρ, q19.2)) hm rfl cjn ?_
          obtain ⟨q22, h22, e⟩ := bn_s e
          refine Ex_callm (z := 189) (na := 1) (ck := 15) (as := [(2, ((v0 : Nat) : Int))]) (rest := []) (E0 := [(2, ((v0 : Nat) : Int))]) (v := none) (h1 := (G, ρ, q22)) hm rfl (by omega) ⟨Nat.le_of_ble_eq_true rfl, Nat.le_of_ble_eq_true rfl⟩ (rc2 rfl g1) rfl rfl ml_189 rfl (Nat.le_of_ble_eq_true rfl) (tf189 h22 (by omega)) ?_
          show Ex d 194 36 [(2, ((v0 : Nat) : Int)), (0, q19.1)] [] (G, ρ, q22) rr
          exact tf194_36 e hd hr rr hk
        · replace e := it_n e c21
          refine Ex_if1t (c := 1) (tgt := 36) hm rfl (bt1 c21) ?_
          exact tf194_36 e hd hr rr hk
  · replace e := it_n e c3
    refine Ex_if1f (c := 0) (tgt := 20) hm rfl (bf0 c3) ?_
    refine Ex_run 1 (i' := 7) (L' := [(2, ((v0 : Nat) : Int)), (0, 0)]) (st' := [(2, ((v0 : Nat) : Int))]) (h' := (G, ρ, m)) hm rfl cjn ?_
    obtain ⟨q26, h26, e⟩ := bn_s e
    refine Ex_callm (z := 192) (na := 1) (ck := 15) (as := [(2, ((v0 : Nat) : Int))]) (rest := []) (E0 := [(2, ((v0 : Nat) : Int))]) (v := some (0, q26.1)) (h1 := (G, ρ, q26.2)) hm rfl (by omega) ⟨Nat.le_of_ble_eq_true rfl, Nat.le_of_ble_eq_true rfl⟩ (rc2 rfl g1) rfl rfl ml_192 rfl (Nat.le_of_ble_eq_true rfl) (tf192 h26 (by omega)) ?_
    show Ex d 194 8 [(2, ((v0 : Nat) : Int)), (0, 0)] [(0, q26.1)] (G, ρ, q26.2) rr
    by_cases c27 : q26.1 = 0
    · replace e := it_p e c27
      refine Ex_if1t (c := 0) (tgt := 80) hm rfl (bt0 c27) ?_
      refine Ex_run 1 (i' := 81) (L' := [(2, ((v0 : Nat) : Int)), (0, 0)]) (st' := [(0, 0)]) (h' := (G, ρ, q26.2)) hm rfl cjn ?_
      cases e
      cases hk
      exact Ex_ret (k := 1) hm rfl ⟨_, rfl, rfl⟩
    · replace e := it_n e c27
      refine Ex_if1f (c := 0) (tgt := 80) hm rfl (bf0 c27) ?_
      refine Ex_run 1 (i' := 10) (L' := [(2, ((v0 : Nat) : Int)), (0, 0)]) (st' := [(2, ((v0 : Nat) : Int))]) (h' := (G, ρ, q26.2)) hm rfl cjn ?_
      obtain ⟨q28, h28, e⟩ := bn_s e
      refine Ex_callm (z := 194) (na := 1) (ck := 15) (as := [(2, ((v0 : Nat) : Int))]) (rest := []) (E0 := [(2, ((v0 : Nat) : Int)), (9, 0)]) (v := some (0, q28.1)) (h1 := (G, ρ, q28.2)) hm rfl (by omega) ⟨Nat.le_of_ble_eq_true rfl, Nat.le_of_ble_eq_true rfl⟩ (rc2 rfl g1) rfl rfl ml_194 rfl (Nat.le_of_ble_eq_true rfl) (hr _ _ _ _ h28) ?_
      show Ex d 194 11 [(2, ((v0 : Nat) : Int)), (0, 0)] [(0, q28.1)] (G, ρ, q28.2) rr
      refine Ex_run 10 (i' := 81) (L' := [(2, ((v0 : Nat) : Int)), (0, (g_neg q28.1))]) (st' := [(0, (g_neg q28.1))]) (h' := (G, ρ, (put q28.2 v0 36 (g_sub (q28.2 v0 36) 1)))) hm rfl (cjc (Nat.le_of_ble_eq_true rfl) (cjc (gk_b g1) (cjc (gk_b g1) cjn))) ?_
      cases e
      cases hk
      exact Ex_ret (k := 1) hm rfl ⟨_, rfl, rfl⟩
theorem FHM {G : Gg} {ρ : Rg} : ∀ (n d : Nat) (_ : n + 4 ≤ d + 1), RHM G ρ (FnM G ρ n) d := by
  intro n
  induction n with
  | zero => intro d _ z a m r h; cases h
  | succ n ih =>
    intro d hd z a m r h
    unfold FnM at h
    by_cases c194 : z = 194
    · subst c194
      exact tf194 (it_p h rfl) (by omega) (ih _ (by omega))
    replace h := it_n h c194
    by_cases c195 : z = 195
    · subst c195
      exact tf195 (it_p h rfl) (by omega) (ih _ (by omega))
    replace h := it_n h c195
    by_cases c196 : z = 196
    · subst c196
      exact tf196 (it_p h rfl) (by omega) (ih _ (by omega))
    replace h := it_n h c196
    by_cases c197 : z = 197
    · subst c197
      exact tf197 (it_p h rfl) (by omega) (ih _ (by omega))
    replace h := it_n h c197
    by_cases c198 : z = 198
    · subst c198
      exact tf198 (it_p h rfl) (by omega) (ih _ (by omega))
    replace h := it_n h c198
    by_cases c199 : z = 199
    · subst c199
      exact tf199 (it_p h rfl) (by omega) (ih _ (by omega))
    replace h := it_n h c199
    cases h
theorem tf200_25 {G : Gg} {ρ : Rg} {d : Nat} {v0 : Nat} {v3 : Int} {m : Sg} {x : Int × Sg} (e : f200_25 G ρ v0 v3 m = some x) (hd : 54 ≤ d) (rr : Option MV × Mh) (hk : (Bi G ρ) x rr) (j1 : Int) : Ex d 200 25 [(2, ((v0 : Nat) : Int)), (1, j1), (9, 0), (0, v3)] [] (G, ρ, m) rr := by
  unfold f200_25 at e
  have hm := mi_200
  obtain ⟨g15, e⟩ := gd_s e
  refine Ex_run 2 (i' := 27) (L' := [(2, ((v0 : Nat) : Int)), (1, j1), (9, 0), (0, v3)]) (st' := [(0, (m v0 37))]) (h' := (G, ρ, m)) hm rfl (cjc (gk_b g15) cjn) ?_
  by_cases c16 : (m v0 37) = 0
  · replace e := it_p e c16
    refine Ex_if1f (c := 1) (tgt := 30) hm rfl (bf1 c16) ?_
    refine Ex_run 1 (i' := 29) (L' := [(2, ((v0 : Nat) : Int)), (1, j1), (9, 0), (0, v3)]) (st' := [(2, ((v0 : Nat) : Int))]) (h' := (G, ρ, m)) hm rfl cjn ?_
    obtain ⟨q17, h17, e⟩ := bn_s e
    refine Ex_callm (z := 188) (na := 1) (ck := 15) (as := [(2, ((v0 : Nat) : Int))]) (rest := []) (E0 := [(2, ((v0 : Nat) : Int)), (9, 0), (9, 0)]) (v := none) (h1 := (G, ρ, q17)) hm rfl (by omega) ⟨Nat.le_of_ble_eq_true rfl, Nat.le_of_ble_eq_true rfl⟩ (rc2 rfl g15) rfl rfl ml_188 rfl (Nat.le_of_ble_eq_true rfl) (tf188 h17 (by omega)) ?_
    show Ex d 200 30 [(2, ((v0 : Nat) : Int)), (1, j1), (9, 0), (0, v3)] [] (G, ρ, q17) rr
    refine Ex_run 1 (i' := 31) (L' := [(2, ((v0 : Nat) : Int)), (1, j1), (9, 0), (0, v3)]) (st' := [(0, v3)]) (h' := (G, ρ, q17)) hm rfl cjn ?_
    cases e
    cases hk
    exact Ex_ret (k := 1) hm rfl ⟨_, rfl, rfl⟩
  · replace e := it_n e c16
    refine Ex_if1t (c := 1) (tgt := 30) hm rfl (bt1 c16) ?_
    refine Ex_run 1 (i' := 31) (L' := [(2, ((v0 : Nat) : Int)), (1, j1), (9, 0), (0, v3)]) (st' := [(0, v3)]) (h' := (G, ρ, m)) hm rfl cjn ?_
    cases e
    cases hk
    exact Ex_ret (k := 1) hm rfl ⟨_, rfl, rfl⟩
theorem tf200_18 {G : Gg} {ρ : Rg} {d : Nat} {v0 : Nat} {w0 : Int} {m : Sg} {x : Int × Sg} (e : f200_18 G ρ v0 w0 m = some x) (hd : 54 ≤ d) (rr : Option MV × Mh) (hk : (Bi G ρ) x rr) (j1 : Int) : Ex d 200 18 [(2, ((v0 : Nat) : Int)), (1, j1), (9, 0), (9, 0)] [(0, w0)] (G, ρ, m) rr := by
  unfold f200_18 at e
  have hm := mi_200
  refine Ex_run 3 (i' := 21) (L' := [(2, ((v0 : Nat) : Int)), (1, j1), (9, 0), (0, w0)]) (st' := [(0, 59), (2, ((v0 : Nat) : Int))]) (h' := (G, ρ, m)) hm rfl (cjc (Nat.le_of_ble_eq_true rfl) cjn) ?_
  obtain ⟨g11, e⟩ := gd_s e
  obtain ⟨q12, h12, e⟩ := bn_s e
  refine Ex_callm (z := 191) (na := 2) (ck := 15) (as := [(2, ((v0 : Nat) : Int)), (0, 59)]) (rest := []) (E0 := [(2, ((v0 : Nat) : Int)), (0, 59)]) (v := some (0, q12)) (h1 := (G, ρ, m)) hm rfl (by omega) ⟨Nat.le_of_ble_eq_true rfl, Nat.le_of_ble_eq_true rfl⟩ (rc2 rfl g11) rfl rfl ml_191 rfl (Nat.le_of_ble_eq_true rfl) (tf191 h12 (by omega)) ?_
  show Ex d 200 22 [(2, ((v0 : Nat) : Int)), (1, j1), (9, 0), (0, w0)] [(0, q12)] (G, ρ, m) rr
  by_cases c13 : q12 = 0
  · replace e := it_p e c13
    refine Ex_if1f (c := 1) (tgt := 25) hm rfl (bf1 c13) ?_
    refine Ex_run 1 (i' := 24) (L' := [(2, ((v0 : Nat) : Int)), (1, j1), (9, 0), (0, w0)]) (st' := [(2, ((v0 : Nat) : Int))]) (h' := (G, ρ, m)) hm rfl cjn ?_
    obtain ⟨q14, h14, e⟩ := bn_s e
    refine Ex_callm (z := 189) (na := 1) (ck := 15) (as := [(2, ((v0 : Nat) : Int))]) (rest := []) (E0 := [(2, ((v0 : Nat) : Int))]) (v := none) (h1 := (G, ρ, q14)) hm rfl (by omega) ⟨Nat.le_of_ble_eq_true rfl, Nat.le_of_ble_eq_true rfl⟩ (rc2 rfl g11) rfl rfl ml_189 rfl (Nat.le_of_ble_eq_true rfl) (tf189 h14 (by omega)) ?_
    show Ex d 200 25 [(2, ((v0 : Nat) : Int)), (1, j1), (9, 0), (0, w0)] [] (G, ρ, q14) rr
    exact tf200_25 e hd rr hk _
  · replace e := it_n e c13
    refine Ex_if1t (c := 1) (tgt := 25) hm rfl (bt1 c13) ?_
    exact tf200_25 e hd rr hk _
theorem tf200_11 {G : Gg} {ρ : Rg} {d : Nat} {v0 : Nat} {m : Sg} {x : Int × Sg} (e : f200_11 G ρ v0 m = some x) (hd : 54 ≤ d) (rr : Option MV × Mh) (hk : (Bi G ρ) x rr) (j1 : Int) : Ex d 200 11 [(2, ((v0 : Nat) : Int)), (1, j1), (9, 0), (9, 0)] [] (G, ρ, m) rr := by
  unfold f200_11 at e
  have hm := mi_200
  obtain ⟨g8, e⟩ := gd_s e
  refine Ex_run 2 (i' := 13) (L' := [(2, ((v0 : Nat) : Int)), (1, j1), (9, 0), (9, 0)]) (st' := [(0, (m v0 37))]) (h' := (G, ρ, m)) hm rfl (cjc (gk_b g8) cjn) ?_
  by_cases c9 : (m v0 37) = 0
  · replace e := it_p e c9
    refine Ex_if1t (c := 0) (tgt := 16) hm rfl (bt0 c9) ?_
    refine Ex_run 1 (i' := 17) (L' := [(2, ((v0 : Nat) : Int)), (1, j1), (9, 0), (9, 0)]) (st' := [(2, ((v0 : Nat) : Int))]) (h' := (G, ρ, m)) hm rfl cjn ?_
    obtain ⟨q10, h10, e⟩ := bn_s e
    refine Ex_callm (z := 199) (na := 1) (ck := 15) (as := [(2, ((v0 : Nat) : Int))]) (rest := []) (E0 := [(2, ((v0 : Nat) : Int)), (9, 0), (9, 0)]) (v := some (0, q10.1)) (h1 := (G, ρ, q10.2)) hm rfl (by omega) ⟨Nat.le_of_ble_eq_true rfl, Nat.le_of_ble_eq_true rfl⟩ (rc2 rfl g8) rfl rfl ml_199 rfl (Nat.le_of_ble_eq_true rfl) (FHM 50 _ (by omega) _ _ _ _ h10) ?_
    show Ex d 200 18 [(2, ((v0 : Nat) : Int)), (1, j1), (9, 0), (9, 0)] [(0, q10.1)] (G, ρ, q10.2) rr
    exact tf200_18 e hd rr hk _
  · replace e := it_n e c9
    refine Ex_if1f (c := 0) (tgt := 16) hm rfl (bf0 c9) ?_
    refine Ex_run 2 (i' := 18) (L' := [(2, ((v0 : Nat) : Int)), (1, j1), (9, 0), (9, 0)]) (st' := [(0, 0)]) (h' := (G, ρ, m)) hm rfl cjn ?_
    exact tf200_18 e hd rr hk _
theorem tf200_6 {G : Gg} {ρ : Rg} {d : Nat} {v0 : Nat} {m : Sg} {x : Int × Sg} (e : f200_6 G ρ v0 m = some x) (hd : 54 ≤ d) (rr : Option MV × Mh) (hk : (Bi G ρ) x rr) (j1 : Int) : Ex d 200 6 [(2, ((v0 : Nat) : Int)), (1, j1), (9, 0), (9, 0)] [] (G, ρ, m) rr := by
  unfold f200_6 at e
  have hm := mi_200
  obtain ⟨g5, e⟩ := gd_s e
  refine Ex_run 2 (i' := 8) (L' := [(2, ((v0 : Nat) : Int)), (1, j1), (9, 0), (9, 0)]) (st' := [(0, (m v0 37))]) (h' := (G, ρ, m)) hm rfl (cjc (gk_b g5) cjn) ?_
  by_cases c6 : (m v0 37) = 0
  · replace e := it_p e c6
    refine Ex_if1f (c := 1) (tgt := 11) hm rfl (bf1 c6) ?_
    refine Ex_run 1 (i' := 10) (L' := [(2, ((v0 : Nat) : Int)), (1, j1), (9, 0), (9, 0)]) (st' := [(2, ((v0 : Nat) : Int))]) (h' := (G, ρ, m)) hm rfl cjn ?_
    obtain ⟨q7, h7, e⟩ := bn_s e
    refine Ex_callm (z := 188) (na := 1) (ck := 15) (as := [(2, ((v0 : Nat) : Int))]) (rest := []) (E0 := [(2, ((v0 : Nat) : Int)), (9, 0), (9, 0)]) (v := none) (h1 := (G, ρ, q7)) hm rfl (by omega) ⟨Nat.le_of_ble_eq_true rfl, Nat.le_of_ble_eq_true rfl⟩ (rc2 rfl g5) rfl rfl ml_188 rfl (Nat.le_of_ble_eq_true rfl) (tf188 h7 (by omega)) ?_
    show Ex d 200 11 [(2, ((v0 : Nat) : Int)), (1, j1), (9, 0), (9, 0)] [] (G, ρ, q7) rr
    exact tf200_11 e hd rr hk _
  · replace e := it_n e c6
    refine Ex_if1t (c := 1) (tgt := 11) hm rfl (bt1 c6) ?_
    exact tf200_11 e hd rr hk _
theorem tf200 {G : Gg} {ρ : Rg} {d : Nat} {v0 : Nat} {v1 : Int} {m : Sg} {x : Int × Sg} (e : f200 G ρ v0 v1 m = some x) (hd : 54 ≤ d) : Ex d 200 0 [(2, ((v0 : Nat) : Int)), (1, v1), (9, 0), (9, 0)] [] (G, ρ, m) (some (0, x.1), (G, ρ, x.2)) := by
  unfold f200 at e
  have hm := mi_200
  generalize hk : (some (0, x.1), (G, ρ, x.2)) = rr
  replace hk : (Bi G ρ) x rr := hk.symm
  refine Ex_run 2 (i' := 2) (L' := [(2, ((v0 : Nat) : Int)), (1, v1), (9, 0), (9, 0)]) (st' := [(1, v1), (2, ((v0 : Nat) : Int))]) (h' := (G, ρ, m)) hm rfl cjn ?_
  obtain ⟨g1, e⟩ := gd_s e
  obtain ⟨q2, h2, e⟩ := bn_s e
  refine Ex_callm (z := 190) (na := 2) (ck := 15) (as := [(2, ((v0 : Nat) : Int)), (1, v1)]) (rest := []) (E0 := [(2, ((v0 : Nat) : Int)), (1, v1), (9, 0)]) (v := some (0, q2)) (h1 := (G, ρ, m)) hm rfl (by omega) ⟨Nat.le_of_ble_eq_true rfl, Nat.le_of_ble_eq_true rfl⟩ (rc2 rfl g1) rfl rfl ml_190 rfl (Nat.le_of_ble_eq_true rfl) (tf190 h2 (by omega)) ?_
  show Ex d 200 3 [(2, ((v0 : Nat) : Int)), (1, v1), (9, 0), (9, 0)] [(0, q2)] (G, ρ, m) rr
  by_cases c3 : q2 = 0
  · replace e := it_p e c3
    refine Ex_if1f (c := 1) (tgt := 6) hm rfl (bf1 c3) ?_
    refine Ex_run 1 (i' := 5) (L' := [(2, ((v0 : Nat) : Int)), (1, v1), (9, 0), (9, 0)]) (st' := [(2, ((v0 : Nat) : Int))]) (h' := (G, ρ, m)) hm rfl cjn ?_
    obtain ⟨q4, h4, e⟩ := bn_s e
    refine Ex_callm (z := 189) (na := 1) (ck := 15) (as := [(2, ((v0 : Nat) : Int))]) (rest := []) (E0 := [(2, ((v0 : Nat) : Int))]) (v := none) (h1 := (G, ρ, q4)) hm rfl (by omega) ⟨Nat.le_of_ble_eq_true rfl, Nat.le_of_ble_eq_true rfl⟩ (rc2 rfl g1) rfl rfl ml_189 rfl (Nat.le_of_ble_eq_true rfl) (tf189 h4 (by omega)) ?_
    show Ex d 200 6 [(2, ((v0 : Nat) : Int)), (1, v1), (9, 0), (9, 0)] [] (G, ρ, q4) rr
    exact tf200_6 e hd rr hk _
  · replace e := it_n e c3
    refine Ex_if1t (c := 1) (tgt := 6) hm rfl (bt1 c3) ?_
    exact tf200_6 e hd rr hk _
theorem tf201_43 {G : Gg} {ρ : Rg} {d : Nat} {v2 : Int} {v3 : Int} {v4 : Int} {m : Sg} {x : Int × Sg} (e : f201_43 G ρ v2 v3 v4 m = some x) (hd : 55 ≤ d) (rr : Option MV × Mh) (hk : (Bi G ρ) x rr) (j0 : Nat) (j1 : Int) : Ex d 201 43 [(2, ((j0 : Nat) : Int)), (0, j1), (0, v2), (0, v3), (0, v4)] [] (G, ρ, m) rr := by
  unfold f201_43 at e
  have hm := mi_201
  refine Ex_run 1 (i' := 44) (L' := [(2, ((j0 : Nat) : Int)), (0, j1), (0, v2), (0, v3), (0, v4)]) (st' := [(0, v2)]) (h' := (G, ρ, m)) hm rfl cjn ?_
  by_cases c17 : v2 = 0
  · replace e := it_p e c17
    refine Ex_if1f (c := 1) (tgt := 47) hm rfl (bf1 c17) ?_
    refine Ex_run 2 (i' := 48) (L' := [(2, ((j0 : Nat) : Int)), (0, j1), (0, v2), (0, v3), (0, v4)]) (st' := [(0, v3)]) (h' := (G, ρ, m)) hm rfl cjn ?_
    cases e
    cases hk
    exact Ex_ret (k := 1) hm rfl ⟨_, rfl, rfl⟩
  · replace e := it_n e c17
    refine Ex_if1t (c := 1) (tgt := 47) hm rfl (bt1 c17) ?_
    refine Ex_run 1 (i' := 48) (L' := [(2, ((j0 : Nat) : Int)), (0, j1), (0, v2), (0, v3), (0, v4)]) (st' := [(0, v4)]) (h' := (G, ρ, m)) hm rfl cjn ?_
    cases e
    cases hk
    exact Ex_ret (k := 1) hm rfl ⟨_, rfl, rfl⟩
theorem tf201_34 {G : Gg} {ρ : Rg} {d : Nat} {v0 : Nat} {v2 : Int} {v3 : Int} {w0 : Int} {m : Sg} {x : Int × Sg} (e : f201_34 G ρ v0 v2 v3 w0 m = some x) (hd : 55 ≤ d) (rr : Option MV × Mh) (hk : (Bi G ρ) x rr) (j1 : Int) : Ex d 201 34 [(2, ((v0 : Nat) : Int)), (0, j1), (0, v2), (0, v3), (9, 0)] [(0, w0)] (G, ρ, m) rr := by
  unfold f201_34 at e
  have hm := mi_201
  obtain ⟨g14, e⟩ := gd_s e
  refine Ex_run 3 (i' := 37) (L' := [(2, ((v0 : Nat) : Int)), (0, j1), (0, v2), (0, v3), (0, w0)]) (st' := [(0, (m v0 37))]) (h' := (G, ρ, m)) hm rfl (cjc (Nat.le_of_ble_eq_true rfl) (cjc (gk_b g14) cjn)) ?_
  by_cases c15 : (m v0 37) = 0
  · replace e := it_p e c15
    refine Ex_if1f (c := 1) (tgt := 43) hm rfl (bf1 c15) ?_
    refine Ex_run 2 (i' := 40) (L' := [(2, ((v0 : Nat) : Int)), (0, j1), (0, v2), (0, v3), (0, w0)]) (st' := [(0, (m v0 32))]) (h' := (G, ρ, m)) hm rfl (cjc (gk_b g14) cjn) ?_
    by_cases c16 : (m v0 32) = 0
    · replace e := it_p e c16
      refine Ex_if1t (c := 0) (tgt := 43) hm rfl (bt0 c16) ?_
      exact tf201_43 e hd rr hk _ _
    · replace e := it_n e c16
      refine Ex_if1f (c := 0) (tgt := 43) hm rfl (bf0 c16) ?_
      refine Ex_run 1 (i' := 42) (L' := [(2, ((v0 : Nat) : Int)), (0, j1), (0, v2), (0, v3), (0, w0)]) (st' := [(2, ((v0 : Nat) : Int))]) (h' := (G, ρ, m)) hm rfl cjn ?_
      obtain ⟨q18, h18, e⟩ := bn_s e
      refine Ex_callm (z := 189) (na := 1) (ck := 15) (as := [(2, ((v0 : Nat) : Int))]) (rest := []) (E0 := [(2, ((v0 : Nat) : Int))]) (v := none) (h1 := (G, ρ, q18)) hm rfl (by omega) ⟨Nat.le_of_ble_eq_true rfl, Nat.le_of_ble_eq_true rfl⟩ (rc2 rfl g14) rfl rfl ml_189 rfl (Nat.le_of_ble_eq_true rfl) (tf189 h18 (by omega)) ?_
      show Ex d 201 43 [(2, ((v0 : Nat) : Int)), (0, j1), (0, v2), (0, v3), (0, w0)] [] (G, ρ, q18) rr
      exact tf201_43 e hd rr hk _ _
  · replace e := it_n e c15
    refine Ex_if1t (c := 1) (tgt := 43) hm rfl (bt1 c15) ?_
    exact tf201_43 e hd rr hk _ _
theorem tf201_19 {G : Gg} {ρ : Rg} {d : Nat} {v0 : Nat} {v2 : Int} {w0 : Int} {w1 : Nat} {m : Sg} {x : Int × Sg} (e : f201_19 G ρ v0 v2 w0 w1 m = some x) (hd : 55 ≤ d) (rr : Option MV × Mh) (hk : (Bi G ρ) x rr) (j1 : Int) : Ex d 201 19 [(2, ((v0 : Nat) : Int)), (0, j1), (0, v2), (9, 0), (9, 0)] [(0, w0), (2, ((w1 : Nat) : Int))] (G, ρ, m) rr := by
  unfold f201_19 at e
  have hm := mi_201
  obtain ⟨g7, e⟩ := gd_s e
  obtain ⟨g8, e⟩ := gd_s e
  refine Ex_run 2 (i' := 21) (L' := [(2, ((v0 : Nat) : Int)), (0, j1), (0, v2), (9, 0), (9, 0)]) (st' := [(2, ((v0 : Nat) : Int))]) (h' := (G, ρ, (put m w1 37 w0))) hm rfl (cjc (gk_b g7) (cjc g8 cjn)) ?_
  obtain ⟨g9, e⟩ := gd_s e
  obtain ⟨q10, h10, e⟩ := bn_s e
  refine Ex_callm (z := 188) (na := 1) (ck := 15) (as := [(2, ((v0 : Nat) : Int))]) (rest := []) (E0 := [(2, ((v0 : Nat) : Int)), (9, 0), (9, 0)]) (v := none) (h1 := (G, ρ, q10)) hm rfl (by omega) ⟨Nat.le_of_ble_eq_true rfl, Nat.le_of_ble_eq_true rfl⟩ (rc2 rfl g9) rfl rfl ml_188 rfl (Nat.le_of_ble_eq_true rfl) (tf188 h10 (by omega)) ?_
  show Ex d 201 22 [(2, ((v0 : Nat) : Int)), (0, j1), (0, v2), (9, 0), (9, 0)] [] (G, ρ, q10) rr
  refine Ex_run 2 (i' := 24) (L' := [(2, ((v0 : Nat) : Int)), (0, j1), (0, v2), (9, 0), (9, 0)]) (st' := [(1, 394691), (2, ((v0 : Nat) : Int))]) (h' := (G, ρ, q10)) hm rfl cjn ?_
  obtain ⟨q11, h11, e⟩ := bn_s e
  refine Ex_callm (z := 200) (na := 2) (ck := 15) (as := [(2, ((v0 : Nat) : Int)), (1, 394691)]) (rest := []) (E0 := [(2, ((v0 : Nat) : Int)), (1, 394691), (9, 0), (9, 0)]) (v := some (0, q11.1)) (h1 := (G, ρ, q11.2)) hm rfl (by omega) ⟨Nat.le_of_ble_eq_true rfl, Nat.le_of_ble_eq_true rfl⟩ (rc2 rfl g9) rfl rfl ml_200 rfl (Nat.le_of_ble_eq_true rfl) (tf200 h11 (by omega)) ?_
  show Ex d 201 25 [(2, ((v0 : Nat) : Int)), (0, j1), (0, v2), (9, 0), (9, 0)] [(0, q11.1)] (G, ρ, q11.2) rr
  refine Ex_run 3 (i' := 28) (L' := [(2, ((v0 : Nat) : Int)), (0, j1), (0, v2), (0, q11.1), (9, 0)]) (st' := [(0, (q11.2 v0 37))]) (h' := (G, ρ, q11.2)) hm rfl (cjc (Nat.le_of_ble_eq_true rfl) (cjc (gk_b g9) cjn)) ?_
  by_cases c12 : (q11.2 v0 37) = 0
  · replace e := it_p e c12
    refine Ex_if1t (c := 0) (tgt := 31) hm rfl (bt0 c12) ?_
    refine Ex_run 2 (i' := 33) (L' := [(2, ((v0 : Nat) : Int)), (0, j1), (0, v2), (0, q11.1), (9, 0)]) (st' := [(1, 220309), (2, ((v0 : Nat) : Int))]) (h' := (G, ρ, q11.2)) hm rfl cjn ?_
    obtain ⟨q13, h13, e⟩ := bn_s e
    refine Ex_callm (z := 200) (na := 2) (ck := 15) (as := [(2, ((v0 : Nat) : Int)), (1, 220309)]) (rest := []) (E0 := [(2, ((v0 : Nat) : Int)), (1, 220309), (9, 0), (9, 0)]) (v := some (0, q13.1)) (h1 := (G, ρ, q13.2)) hm rfl (by omega) ⟨Nat.le_of_ble_eq_true rfl, Nat.le_of_ble_eq_true rfl⟩ (rc2 rfl g9) rfl rfl ml_200 rfl (Nat.le_of_ble_eq_true rfl) (tf200 h13 (by omega)) ?_
    show Ex d 201 34 [(2, ((v0 : Nat) : Int)), (0, j1), (0, v2), (0, q11.1), (9, 0)] [(0, q13.1)] (G, ρ, q13.2) rr
    exact tf201_34 e hd rr hk _
  · replace e := it_n e c12
    refine Ex_if1f (c := 0) (tgt := 31) hm rfl (bf0 c12) ?_
    refine Ex_run 2 (i' := 34) (L' := [(2, ((v0 : Nat) : Int)), (0, j1), (0, v2), (0, q11.1), (9, 0)]) (st' := [(0, 0)]) (h' := (G, ρ, q11.2)) hm rfl cjn ?_
    exact tf201_34 e hd rr hk _
theorem tf201_16 {G : Gg} {ρ : Rg} {d : Nat} {v0 : Nat} {v2 : Int} {w0 : Int} {w1 : Nat} {m : Sg} {x : Int × Sg} (e : f201_16 G ρ v0 v2 w0 w1 m = some x) (hd : 55 ≤ d) (rr : Option MV × Mh) (hk : (Bi G ρ) x rr) (j1 : Int) : Ex d 201 16 [(2, ((v0 : Nat) : Int)), (0, j1), (0, v2), (9, 0), (9, 0)] [(0, w0), (2, ((w1 : Nat) : Int))] (G, ρ, m) rr := by
  unfold f201_16 at e
  have hm := mi_201
  obtain ⟨g6, e⟩ := gd_s e
  refine Ex_run 3 (i' := 19) (L' := [(2, ((v0 : Nat) : Int)), (0, j1), (0, v2), (9, 0), (9, 0)]) (st' := [(0, 0), (2, ((v0 : Nat) : Int))]) (h' := (G, ρ, (put m w1 36 w0))) hm rfl (cjc (gk_b g6) cjn) ?_
  exact tf201_19 e hd rr hk _
theorem tf201_13 {G : Gg} {ρ : Rg} {d : Nat} {v0 : Nat} {v2 : Int} {w0 : Int} {w1 : Nat} {m : Sg} {x : Int × Sg} (e : f201_13 G ρ v0 v2 w0 w1 m = some x) (hd : 55 ≤ d) (rr : Option MV × Mh) (hk : (Bi G ρ) x rr) (j1 : Int) : Ex d 201 13 [(2, ((v0 : Nat) : Int)), (0, j1), (0, v2), (9, 0), (9, 0)] [(0, w0), (2, ((w1 : Nat) : Int))] (G, ρ, m) rr := by
  unfold f201_13 at e
  have hm := mi_201
  obtain ⟨g5, e⟩ := gd_s e
  refine Ex_run 3 (i' := 16) (L' := [(2, ((v0 : Nat) : Int)), (0, j1), (0, v2), (9, 0), (9, 0)]) (st' := [(0, 0), (2, ((v0 : Nat) : Int))]) (h' := (G, ρ, (put m w1 35 w0))) hm rfl (cjc (gk_b g5) cjn) ?_
  exact tf201_16 e hd rr hk _
theorem tf201_10 {G : Gg} {ρ : Rg} {d : Nat} {v0 : Nat} {v2 : Int} {w0 : Int} {w1 : Nat} {m : Sg} {x : Int × Sg} (e : f201_10 G ρ v0 v2 w0 w1 m = some x) (hd : 55 ≤ d) (rr : Option MV × Mh) (hk : (Bi G ρ) x rr) (j1 : Int) : Ex d 201 10 [(2, ((v0 : Nat) : Int)), (0, j1), (0, v2), (9, 0), (9, 0)] [(0, w0), (2, ((w1 : Nat) : Int))] (G, ρ, m) rr := by
  unfold f201_10 at e
  have hm := mi_201
  obtain ⟨g4, e⟩ := gd_s e
  refine Ex_run 3 (i' := 13) (L' := [(2, ((v0 : Nat) : Int)), (0, j1), (0, v2), (9, 0), (9, 0)]) (st' := [(0, 0), (2, ((v0 : Nat) : Int))]) (h' := (G, ρ, (put m w1 31 w0))) hm rfl (cjc (gk_b g4) cjn) ?_
  exact tf201_13 e hd rr hk _
theorem tf201 {G : Gg} {ρ : Rg} {d : Nat} {v0 : Nat} {v1 : Int} {v2 : Int} {m : Sg} {x : Int × Sg} (e : f201 G ρ v0 v1 v2 m = some x) (hd : 55 ≤ d) : Ex d 201 0 [(2, ((v0 : Nat) : Int)), (0, v1), (0, v2), (9, 0), (9, 0)] [] (G, ρ, m) (some (0, x.1), (G, ρ, x.2)) := by
  unfold f201 at e
  have hm := mi_201
  generalize hk : (some (0, x.1), (G, ρ, x.2)) = rr
  replace hk : (Bi G ρ) x rr := hk.symm
  obtain ⟨g1, e⟩ := gd_s e
  obtain ⟨g2, e⟩ := gd_s e
  obtain ⟨g3, e⟩ := gd_s e
  refine Ex_run 10 (i' := 10) (L' := [(2, ((v0 : Nat) : Int)), (0, v1), (0, v2), (9, 0), (9, 0)]) (st' := [(0, ((put m v0 30 (g_mul 160 v1)) (ρ v0 25) v1)), (2, ((v0 : Nat) : Int))]) (h' := (G, ρ, (put m v0 30 (g_mul 160 v1)))) hm rfl (cjc (gk_b g1) (cjc (gk_b g1) (cjc (gk_b g2) (cjc g3 cjn)))) ?_
  exact tf201_10 e hd rr hk _
theorem tf202_36 {G : Gg} {ρ : Rg} {d : Nat} {v0 : Nat} {w0 : Int} {w1 : Nat} {m : Sg} {x : Int × Sg} (e : f202_36 G ρ v0 w0 w1 m = some x) (hd : 56 ≤ d) (rr : Option MV × Mh) (hk : (Bi G ρ) x rr) (j1 : Int) : Ex d 202 36 [(2, ((v0 : Nat) : Int)), (0, j1)] [(0, w0), (2, ((w1 : Nat) : Int))] (G, ρ, m) rr := by
  unfold f202_36 at e
  have hm := mi_202
  obtain ⟨g11, e⟩ := gd_s e
  obtain ⟨g12, e⟩ := gd_s e
  refine Ex_run 5 (i' := 41) (L' := [(2, ((v0 : Nat) : Int)), (0, j1)]) (st' := [(0, 0), (0, ((put m w1 29 w0) v0 26)), (2, ((v0 : Nat) : Int))]) (h' := (G, ρ, (put m w1 29 w0))) hm rfl (cjc (gk_b g11) (cjc (gk_b g12) cjn)) ?_
  obtain ⟨q13, h13, e⟩ := bn_s e
  refine Ex_callm (z := 201) (na := 3) (ck := 15) (as := [(2, ((v0 : Nat) : Int)), (0, ((put m w1 29 w0) v0 26)), (0, 0)]) (rest := []) (E0 := [(2, ((v0 : Nat) : Int)), (0, ((put m w1 29 w0) v0 26)), (0, 0), (9, 0), (9, 0)]) (v := some (0, q13.1)) (h1 := (G, ρ, q13.2)) hm rfl (by omega) ⟨Nat.le_of_ble_eq_true rfl, Nat.le_of_ble_eq_true rfl⟩ (rc2 rfl g12) rfl rfl ml_201 rfl (Nat.le_of_ble_eq_true rfl) (tf201 h13 (by omega)) ?_
  show Ex d 202 42 [(2, ((v0 : Nat) : Int)), (0, j1)] [(0, q13.1)] (G, ρ, q13.2) rr
  refine Ex_run 3 (i' := 45) (L' := [(2, ((v0 : Nat) : Int)), (0, q13.1)]) (st' := [(0, (q13.2 v0 37))]) (h' := (G, ρ, q13.2)) hm rfl (cjc (Nat.le_of_ble_eq_true rfl) (cjc (gk_b g12) cjn)) ?_
  by_cases c14 : (q13.2 v0 37) = 0
  · replace e := it_p e c14
    refine Ex_if1t (c := 0) (tgt := 51) hm rfl (bt0 c14) ?_
    refine Ex_run 10 (i' := 61) (L' := [(2, ((v0 : Nat) : Int)), (0, q13.1)]) (st' := [(0, (g_sub ((put q13.2 v0 26 (g_add (q13.2 v0 26) 1)) v0 26) 1))]) (h' := (G, ρ, (put q13.2 v0 26 (g_add (q13.2 v0 26) 1)))) hm rfl (cjc (gk_b g12) (cjc (gk_b g12) (cjc (gk_b g12) cjn))) ?_
    cases e
    cases hk
    exact Ex_ret (k := 1) hm rfl ⟨_, rfl, rfl⟩
  · replace e := it_n e c14
    refine Ex_if1f (c := 0) (tgt := 51) hm rfl (bf0 c14) ?_
    refine Ex_run 4 (i' := 50) (L' := [(2, ((v0 : Nat) : Int)), (0, q13.1)]) (st' := [(0, (g_sub (-100) (q13.2 v0 38)))]) (h' := (G, ρ, q13.2)) hm rfl (cjc (gk_b g12) cjn) ?_
    cases e
    cases hk
    exact Ex_ret (k := 1) hm rfl ⟨_, rfl, rfl⟩
theorem tf202_b8 {G : Gg} {ρ : Rg} {d : Nat} {v0 : Nat} {s : Int × Sg} {x : (Int × Sg) ⊕ (Int × Sg)} (e : f202_b8 G ρ v0 s = some x) (hd : 56 ≤ d) (rr : Option MV × Mh) (hk : (DS (e202_8 G ρ d v0) (Bi G ρ)) x rr) : e202_8 G ρ d v0 s rr := by
  unfold f202_b8 at e
  have hm := mi_202
  show Ex d 202 8 [(2, ((v0 : Nat) : Int)), (0, s.1)] [] (G, ρ, s.2) rr
  obtain ⟨g3, e⟩ := gd_s e
  refine Ex_run 3 (i' := 11) (L' := [(2, ((v0 : Nat) : Int)), (0, s.1)]) (st' := [(0, (s.2 v0 29)), (0, s.1)]) (h' := (G, ρ, s.2)) hm rfl (cjc (gk_b g3) cjn) ?_
  by_cases c4 : s.1 < (s.2 v0 29)
  · replace e := it_p e c4
    refine Ex_if2f (c := 3) (tgt := 27) hm rfl (bf3 c4) ?_
    obtain ⟨g5, e⟩ := gd_s e
    obtain ⟨g6, e⟩ := gd_s e
    obtain ⟨g7, e⟩ := gd_s e
    obtain ⟨g8, e⟩ := gd_s e
    refine Ex_run 15 (i' := 8) (L' := [(2, ((v0 : Nat) : Int)), (0, (w32 (s.1 + 1)))]) (st' := []) (h' := (G, ρ, (put s.2 (ρ v0 24) (g_add (g_mul 160 (s.2 v0 26)) s.1) (s.2 (ρ v0 28) s.1)))) hm rfl (cjc (gk_b g3) (cjc (gk_b g3) (cjc (gk_b g3) (cjc (gk_b g5) (cjc g6 (cjc (gk_b g7) (cjc g8 cjn))))))) ?_
    cases e
    exact hk
  · replace e := it_n e c4
    refine Ex_if2t (c := 3) (tgt := 27) hm rfl (bt3 c4) ?_
    obtain ⟨x, e, hx⟩ := xr_s e
    replace hk : (Bi G ρ) x rr := by rw [hx] at hk; exact hk
    obtain ⟨g9, e⟩ := gd_s e
    obtain ⟨g10, e⟩ := gd_s e
    refine Ex_run 9 (i' := 36) (L' := [(2, ((v0 : Nat) : Int)), (0, s.1)]) (st' := [(0, 0), (2, ((v0 : Nat) : Int))]) (h' := (G, ρ, (put s.2 (ρ v0 25) (s.2 v0 26) (s.2 v0 29)))) hm rfl (cjc (gk_b g3) (cjc (gk_b g3) (cjc (gk_b g3) (cjc (gk_b g9) (cjc g10 cjn))))) ?_
    exact tf202_36 e hd rr hk _
theorem tf202 {G : Gg} {ρ : Rg} {d : Nat} {v0 : Nat} {m : Sg} {x : Int × Sg} (e : f202 G ρ v0 m = some x) (hd : 56 ≤ d) : Ex d 202 0 [(2, ((v0 : Nat) : Int)), (9, 0)] [] (G, ρ, m) (some (0, x.1), (G, ρ, x.2)) := by
  unfold f202 at e
  have hm := mi_202
  generalize hk : (some (0, x.1), (G, ρ, x.2)) = rr
  replace hk : (Bi G ρ) x rr := hk.symm
  obtain ⟨g1, e⟩ := gd_s e
  refine Ex_run 3 (i' := 3) (L' := [(2, ((v0 : Nat) : Int)), (9, 0)]) (st' := [(0, 6), (0, (m v0 26))]) (h' := (G, ρ, m)) hm rfl (cjc (gk_b g1) cjn) ?_
  by_cases c2 : (m v0 26) = 6
  · replace e := it_p e c2
    refine Ex_if2f (c := 1) (tgt := 6) hm rfl (bf1 c2) ?_
    refine Ex_run 1 (i' := 5) (L' := [(2, ((v0 : Nat) : Int)), (9, 0)]) (st' := [(0, (-4))]) (h' := (G, ρ, m)) hm rfl cjn ?_
    cases e
    cases hk
    exact Ex_ret (k := 1) hm rfl ⟨_, rfl, rfl⟩
  · replace e := it_n e c2
    refine Ex_if2t (c := 1) (tgt := 6) hm rfl (bt1 c2) ?_
    refine Ex_run 2 (i' := 8) (L' := [(2, ((v0 : Nat) : Int)), (0, 0)]) (st' := []) (h' := (G, ρ, m)) hm rfl (cjc (Nat.le_of_ble_eq_true rfl) cjn) ?_
    exact (Ex_lp (A := e202_8 G ρ d v0 ) (B := (Bi G ρ)) (fun s x e rr hk => tf202_b8 e hd rr hk) FU _ _ e rr hk)
theorem tf203 {G : Gg} {ρ : Rg} {d : Nat} {v0 : Nat} {v1 : Int} {m : Sg} {x : Int × Sg} (e : f203 G ρ v0 v1 m = some x) (hd : 1 ≤ d) : Ex d 203 0 [(2, ((v0 : Nat) : Int)), (0, v1), (9, 0)] [] (G, ρ, m) (some (0, x.1), (G, ρ, x.2)) := by
  unfold f203 at e
  have hm := mi_203
  generalize hk : (some (0, x.1), (G, ρ, x.2)) = rr
  replace hk : (Bi G ρ) x rr := hk.symm
  obtain ⟨g1, e⟩ := gd_s e
  refine Ex_run 8 (i' := 8) (L' := [(2, ((v0 : Nat) : Int)), (0, v1), (9, 0)]) (st' := [(1, (g_sub (m v0 26) 1)), (1, 0), (1, v1)]) (h' := (G, ρ, m)) hm rfl (cjc (gk_b g1) cjn) ?_
  obtain ⟨q2, h2, e⟩ := bn_s e
  refine Ex_callm (z := 143) (na := 3) (ck := 0) (as := [(1, v1), (1, 0), (1, (g_sub (m v0 26) 1))]) (rest := []) (E0 := [(1, v1), (9, 0), (1, 0), (9, 0), (1, (g_sub (m v0 26) 1)), (9, 0)]) (v := some (0, q2)) (h1 := (G, ρ, m)) hm rfl (by omega) ⟨Nat.le_of_ble_eq_true rfl, Nat.le_of_ble_eq_true rfl⟩ (trivial) rfl rfl ml_143 rfl (Nat.le_of_ble_eq_true rfl) (tf143 h2 (by omega)) ?_
  show Ex d 203 9 [(2, ((v0 : Nat) : Int)), (0, v1), (9, 0)] [(0, q2)] (G, ρ, m) rr
  by_cases c3 : q2 = 0
  · replace e := it_p e c3
    refine Ex_if1f (c := 1) (tgt := 12) hm rfl (bf1 c3) ?_
    refine Ex_run 1 (i' := 11) (L' := [(2, ((v0 : Nat) : Int)), (0, v1), (9, 0)]) (st' := [(0, (-2))]) (h' := (G, ρ, m)) hm rfl cjn ?_
    cases e
    cases hk
    exact Ex_ret (k := 1) hm rfl ⟨_, rfl, rfl⟩
  · replace e := it_n e c3
    refine Ex_if1t (c := 1) (tgt := 12) hm rfl (bt1 c3) ?_
    refine Ex_run 7 (i' := 19) (L' := [(2, ((v0 : Nat) : Int)), (0, v1), (0, (m v0 27))]) (st' := [(0, (m v0 27))]) (h' := (G, ρ, (put m v0 27 v1))) hm rfl (cjc (gk_b g1) (cjc (Nat.le_of_ble_eq_true rfl) (cjc (gk_b g1) cjn))) ?_
    cases e
    cases hk
    exact Ex_ret (k := 1) hm rfl ⟨_, rfl, rfl⟩
theorem tf204_37 {G : Gg} {ρ : Rg} {d : Nat} {v0 : Nat} {v3 : Int} {w0 : Int} {w1 : Nat} {m : Sg} {x : Int × Sg} (e : f204_37 G ρ v0 v3 w0 w1 m = some x) (hd : 56 ≤ d) (rr : Option MV × Mh) (hk : (Bi G ρ) x rr) (j1 : Int) (j2 : Int) : Ex d 204 37 [(2, ((v0 : Nat) : Int)), (0, j1), (0, j2), (0, v3)] [(0, w0), (2, ((w1 : Nat) : Int))] (G, ρ, m) rr := by
  unfold f204_37 at e
  have hm := mi_204
  obtain ⟨g20, e⟩ := gd_s e
  obtain ⟨g21, e⟩ := gd_s e
  refine Ex_run 5 (i' := 42) (L' := [(2, ((v0 : Nat) : Int)), (0, j1), (0, j2), (0, v3)]) (st' := [(0, v3), (0, ((put m w1 44 w0) v0 27)), (2, ((v0 : Nat) : Int))]) (h' := (G, ρ, (put m w1 44 w0))) hm rfl (cjc (gk_b g20) (cjc (gk_b g21) cjn)) ?_
  obtain ⟨q22, h22, e⟩ := bn_s e
  refine Ex_callm (z := 201) (na := 3) (ck := 15) (as := [(2, ((v0 : Nat) : Int)), (0, ((put m w1 44 w0) v0 27)), (0, v3)]) (rest := []) (E0 := [(2, ((v0 : Nat) : Int)), (0, ((put m w1 44 w0) v0 27)), (0, v3), (9, 0), (9, 0)]) (v := some (0, q22.1)) (h1 := (G, ρ, q22.2)) hm rfl (by omega) ⟨Nat.le_of_ble_eq_true rfl, Nat.le_of_ble_eq_true rfl⟩ (rc2 rfl g21) rfl rfl ml_201 rfl (Nat.le_of_ble_eq_true rfl) (tf201 h22 (by omega)) ?_
  show Ex d 204 43 [(2, ((v0 : Nat) : Int)), (0, j1), (0, j2), (0, v3)] [(0, q22.1)] (G, ρ, q22.2) rr
  cases e
  cases hk
  exact Ex_ret (k := 1) hm rfl ⟨_, rfl, rfl⟩
theorem tf204_31 {G : Gg} {ρ : Rg} {d : Nat} {v0 : Nat} {v1 : Int} {v3 : Int} {w0 : Int} {w1 : Nat} {m : Sg} {x : Int × Sg} (e : f204_31 G ρ v0 v1 v3 w0 w1 m = some x) (hd : 56 ≤ d) (rr : Option MV × Mh) (hk : (Bi G ρ) x rr) (j2 : Int) : Ex d 204 31 [(2, ((v0 : Nat) : Int)), (0, v1), (0, j2), (0, v3)] [(0, w0), (2, ((w1 : Nat) : Int))] (G, ρ, m) rr := by
  unfold f204_31 at e
  have hm := mi_204
  obtain ⟨g16, e⟩ := gd_s e
  obtain ⟨g17, e⟩ := gd_s e
  obtain ⟨g18, e⟩ := gd_s e
  obtain ⟨g19, e⟩ := gd_s e
  refine Ex_run 6 (i' := 37) (L' := [(2, ((v0 : Nat) : Int)), (0, v1), (0, j2), (0, v3)]) (st' := [(0, ((put m w1 43 w0) (ρ v0 16) v1)), (2, ((v0 : Nat) : Int))]) (h' := (G, ρ, (put m w1 43 w0))) hm rfl (cjc (gk_b g16) (cjc (gk_b g17) (cjc (gk_b g18) (cjc g19 cjn)))) ?_
  exact tf204_37 e hd rr hk _ _
theorem tf204_24 {G : Gg} {ρ : Rg} {d : Nat} {v0 : Nat} {v1 : Int} {v3 : Int} {w0 : Int} {w1 : Nat} {m : Sg} {x : Int × Sg} (e : f204_24 G ρ v0 v1 v3 w0 w1 m = some x) (hd : 56 ≤ d) (rr : Option MV × Mh) (hk : (Bi G ρ) x rr) (j2 : Int) : Ex d 204 24 [(2, ((v0 : Nat) : Int)), (0, v1), (0, j2), (0, v3)] [(0, w0), (2, ((w1 : Nat) : Int))] (G, ρ, m) rr := by
  unfold f204_24 at e
  have hm := mi_204
  obtain ⟨g11, e⟩ := gd_s e
  obtain ⟨g12, e⟩ := gd_s e
  obtain ⟨g13, e⟩ := gd_s e
  obtain ⟨g14, e⟩ := gd_s e
  refine Ex_run 6 (i' := 30) (L' := [(2, ((v0 : Nat) : Int)), (0, v1), (0, j2), (0, v3)]) (st' := [(0, ((put m w1 42 w0) (ρ v0 4) v1)), (2, ((v0 : Nat) : Int))]) (h' := (G, ρ, (put m w1 42 w0))) hm rfl (cjc (gk_b g11) (cjc (gk_b g12) (cjc (gk_b g13) (cjc g14 cjn)))) ?_
  obtain ⟨q15, h15, e⟩ := bn_s e
  refine Ex_callm (z := 169) (na := 1) (ck := 0) (as := [(0, ((put m w1 42 w0) (ρ v0 4) v1))]) (rest := [(2, ((v0 : Nat) : Int))]) (E0 := [(0, ((put m w1 42 w0) (ρ v0 4) v1)), (9, 0), (9, 0)]) (v := some (0, q15)) (h1 := (G, ρ, (put m w1 42 w0))) hm rfl (by omega) ⟨Nat.le_of_ble_eq_true rfl, Nat.le_of_ble_eq_true rfl⟩ (trivial) rfl rfl ml_169 rfl (Nat.le_of_ble_eq_true rfl) (tf169 h15 (by omega)) ?_
  show Ex d 204 31 [(2, ((v0 : Nat) : Int)), (0, v1), (0, j2), (0, v3)] [(0, q15), (2, ((v0 : Nat) : Int))] (G, ρ, (put m w1 42 w0)) rr
  exact tf204_31 e hd rr hk _
theorem tf204_19 {G : Gg} {ρ : Rg} {d : Nat} {v0 : Nat} {v1 : Int} {v3 : Int} {w0 : Int} {w1 : Nat} {m : Sg} {x : Int × Sg} (e : f204_19 G ρ v0 v1 v3 w0 w1 m = some x) (hd : 56 ≤ d) (rr : Option MV × Mh) (hk : (Bi G ρ) x rr) (j2 : Int) : Ex d 204 19 [(2, ((v0 : Nat) : Int)), (0, v1), (0, j2), (0, v3)] [(0, w0), (2, ((w1 : Nat) : Int))] (G, ρ, m) rr := by
  unfold f204_19 at e
  have hm := mi_204
  obtain ⟨g8, e⟩ := gd_s e
  refine Ex_run 4 (i' := 23) (L' := [(2, ((v0 : Nat) : Int)), (0, v1), (0, j2), (0, v3)]) (st' := [(0, 2), (2, ((v0 : Nat) : Int)), (2, ((v0 : Nat) : Int))]) (h' := (G, ρ, (put m w1 41 w0))) hm rfl (cjc (gk_b g8) cjn) ?_
  obtain ⟨g9, e⟩ := gd_s e
  obtain ⟨q10, h10, e⟩ := bn_s e
  refine Ex_callm (z := 157) (na := 2) (ck := 15) (as := [(2, ((v0 : Nat) : Int)), (0, 2)]) (rest := [(2, ((v0 : Nat) : Int))]) (E0 := [(2, ((v0 : Nat) : Int)), (0, 2), (9, 0), (9, 0)]) (v := some (0, q10)) (h1 := (G, ρ, (put m w1 41 w0))) hm rfl (by omega) ⟨Nat.le_of_ble_eq_true rfl, Nat.le_of_ble_eq_true rfl⟩ (rc2 rfl g9) rfl rfl ml_157 rfl (Nat.le_of_ble_eq_true rfl) (tf157 h10 (by omega)) ?_
  show Ex d 204 24 [(2, ((v0 : Nat) : Int)), (0, v1), (0, j2), (0, v3)] [(0, q10), (2, ((v0 : Nat) : Int))] (G, ρ, (put m w1 41 w0)) rr
  exact tf204_24 e hd rr hk _
theorem tf204_14 {G : Gg} {ρ : Rg} {d : Nat} {v0 : Nat} {v1 : Int} {v3 : Int} {w0 : Int} {w1 : Nat} {m : Sg} {x : Int × Sg} (e : f204_14 G ρ v0 v1 v3 w0 w1 m = some x) (hd : 56 ≤ d) (rr : Option MV × Mh) (hk : (Bi G ρ) x rr) (j2 : Int) : Ex d 204 14 [(2, ((v0 : Nat) : Int)), (0, v1), (0, j2), (0, v3)] [(0, w0), (2, ((w1 : Nat) : Int))] (G, ρ, m) rr := by
  unfold f204_14 at e
  have hm := mi_204
  obtain ⟨g5, e⟩ := gd_s e
  refine Ex_run 4 (i' := 18) (L' := [(2, ((v0 : Nat) : Int)), (0, v1), (0, j2), (0, v3)]) (st' := [(0, 1), (2, ((v0 : Nat) : Int)), (2, ((v0 : Nat) : Int))]) (h' := (G, ρ, (put m w1 40 w0))) hm rfl (cjc (gk_b g5) cjn) ?_
  obtain ⟨g6, e⟩ := gd_s e
  obtain ⟨q7, h7, e⟩ := bn_s e
  refine Ex_callm (z := 157) (na := 2) (ck := 15) (as := [(2, ((v0 : Nat) : Int)), (0, 1)]) (rest := [(2, ((v0 : Nat) : Int))]) (E0 := [(2, ((v0 : Nat) : Int)), (0, 1), (9, 0), (9, 0)]) (v := some (0, q7)) (h1 := (G, ρ, (put m w1 40 w0))) hm rfl (by omega) ⟨Nat.le_of_ble_eq_true rfl, Nat.le_of_ble_eq_true rfl⟩ (rc2 rfl g6) rfl rfl ml_157 rfl (Nat.le_of_ble_eq_true rfl) (tf157 h7 (by omega)) ?_
  show Ex d 204 19 [(2, ((v0 : Nat) : Int)), (0, v1), (0, j2), (0, v3)] [(0, q7), (2, ((v0 : Nat) : Int))] (G, ρ, (put m w1 40 w0)) rr
  exact tf204_19 e hd rr hk _
theorem tf204 {G : Gg} {ρ : Rg} {d : Nat} {v0 : Nat} {v1 : Int} {v2 : Int} {v3 : Int} {m : Sg} {x : Int × Sg} (e : f204 G ρ v0 v1 v2 v3 m = some x) (hd : 56 ≤ d) : Ex d 204 0 [(2, ((v0 : Nat) : Int)), (0, v1), (0, v2), (0, v3)] [] (G, ρ, m) (some (0, x.1), (G, ρ, x.2)) := by
  unfold f204 at e
  have hm := mi_204
  generalize hk : (some (0, x.1), (G, ρ, x.2)) = rr
  replace hk : (Bi G ρ) x rr := hk.symm
  refine Ex_run 3 (i' := 3) (L' := [(2, ((v0 : Nat) : Int)), (0, v1), (0, v2), (0, v3)]) (st' := [(0, 13), (0, v1), (2, ((v0 : Nat) : Int))]) (h' := (G, ρ, m)) hm rfl cjn ?_
  obtain ⟨g1, e⟩ := gd_s e
  obtain ⟨q2, h2, e⟩ := bn_s e
  refine Ex_callm (z := 174) (na := 3) (ck := 15) (as := [(2, ((v0 : Nat) : Int)), (0, v1), (0, 13)]) (rest := []) (E0 := [(2, ((v0 : Nat) : Int)), (0, v1), (0, 13), (9, 0)]) (v := none) (h1 := (G, ρ, q2)) hm rfl (by omega) ⟨Nat.le_of_ble_eq_true rfl, Nat.le_of_ble_eq_true rfl⟩ (rc2 rfl g1) rfl rfl ml_174 rfl (Nat.le_of_ble_eq_true rfl) (tf174 h2 (by omega)) ?_
  show Ex d 204 4 [(2, ((v0 : Nat) : Int)), (0, v1), (0, v2), (0, v3)] [] (G, ρ, q2) rr
  refine Ex_run 2 (i' := 6) (L' := [(2, ((v0 : Nat) : Int)), (0, v1), (0, v2), (0, v3)]) (st' := [(0, 13), (2, ((v0 : Nat) : Int))]) (h' := (G, ρ, q2)) hm rfl cjn ?_
  obtain ⟨q3, h3, e⟩ := bn_s e
  refine Ex_callm (z := 153) (na := 2) (ck := 15) (as := [(2, ((v0 : Nat) : Int)), (0, 13)]) (rest := []) (E0 := [(2, ((v0 : Nat) : Int)), (0, 13), (9, 0), (9, 0), (9, 0), (9, 0), (9, 0), (9, 0), (9, 0)]) (v := none) (h1 := (G, ρ, q3)) hm rfl (by omega) ⟨Nat.le_of_ble_eq_true rfl, Nat.le_of_ble_eq_true rfl⟩ (rc2 rfl g1) rfl rfl ml_153 rfl (Nat.le_of_ble_eq_true rfl) (tf153 h3 (by omega)) ?_
  show Ex d 204 7 [(2, ((v0 : Nat) : Int)), (0, v1), (0, v2), (0, v3)] [] (G, ρ, q3) rr
  refine Ex_run 6 (i' := 13) (L' := [(2, ((v0 : Nat) : Int)), (0, v1), (0, v2), (0, v3)]) (st' := [(0, 0), (2, ((v0 : Nat) : Int)), (2, ((v0 : Nat) : Int))]) (h' := (G, ρ, (put q3 v0 39 v2))) hm rfl (cjc (gk_b g1) cjn) ?_
  obtain ⟨q4, h4, e⟩ := bn_s e
  refine Ex_callm (z := 157) (na := 2) (ck := 15) (as := [(2, ((v0 : Nat) : Int)), (0, 0)]) (rest := [(2, ((v0 : Nat) : Int))]) (E0 := [(2, ((v0 : Nat) : Int)), (0, 0), (9, 0), (9, 0)]) (v := some (0, q4)) (h1 := (G, ρ, (put q3 v0 39 v2))) hm rfl (by omega) ⟨Nat.le_of_ble_eq_true rfl, Nat.le_of_ble_eq_true rfl⟩ (rc2 rfl g1) rfl rfl ml_157 rfl (Nat.le_of_ble_eq_true rfl) (tf157 h4 (by omega)) ?_
  show Ex d 204 14 [(2, ((v0 : Nat) : Int)), (0, v1), (0, v2), (0, v3)] [(0, q4), (2, ((v0 : Nat) : Int))] (G, ρ, (put q3 v0 39 v2)) rr
  exact tf204_14 e hd rr hk _
theorem tf205 {G : Gg} {ρ : Rg} {d : Nat} {v0 : Nat} {v1 : Int} {v2 : Int} {m : Sg} {x : Int × Sg} (e : f205 G ρ v0 v1 v2 m = some x) (hd : 57 ≤ d) : Ex d 205 0 [(2, ((v0 : Nat) : Int)), (0, v1), (0, v2)] [] (G, ρ, m) (some (1, x.1), (G, ρ, x.2)) := by
  unfold f205 at e
  have hm := mi_205
  generalize hk : (some (1, x.1), (G, ρ, x.2)) = rr
  replace hk : (Bl G ρ) x rr := hk.symm
  refine Ex_run 2 (i' := 2) (L' := [(2, ((v0 : Nat) : Int)), (0, v1), (0, v2)]) (st' := [(0, v1), (2, ((v0 : Nat) : Int))]) (h' := (G, ρ, m)) hm rfl cjn ?_
  obtain ⟨g1, e⟩ := gd_s e
  obtain ⟨q2, h2, e⟩ := bn_s e
  refine Ex_callm (z := 168) (na := 2) (ck := 15) (as := [(2, ((v0 : Nat) : Int)), (0, v1)]) (rest := []) (E0 := [(2, ((v0 : Nat) : Int)), (0, v1)]) (v := some (0, q2)) (h1 := (G, ρ, m)) hm rfl (by omega) ⟨Nat.le_of_ble_eq_true rfl, Nat.le_of_ble_eq_true rfl⟩ (rc2 rfl g1) rfl rfl ml_168 rfl (Nat.le_of_ble_eq_true rfl) (tf168 h2 (by omega)) ?_
  show Ex d 205 3 [(2, ((v0 : Nat) : Int)), (0, v1), (0, v2)] [(0, q2)] (G, ρ, m) rr
  by_cases c3 : q2 = 0
  · replace e := it_p e c3
    refine Ex_if1t (c := 0) (tgt := 18) hm rfl (bt0 c3) ?_
    refine Ex_run 1 (i' := 19) (L' := [(2, ((v0 : Nat) : Int)), (0, v1), (0, v2)]) (st' := [(1, (-4611686018427387904))]) (h' := (G, ρ, m)) hm rfl cjn ?_
    cases e
    cases hk
    exact Ex_ret (k := 3) hm rfl ⟨_, rfl, rfl⟩
  · replace e := it_n e c3
    refine Ex_if1f (c := 0) (tgt := 18) hm rfl (bf0 c3) ?_
    refine Ex_run 4 (i' := 8) (L' := [(2, ((v0 : Nat) : Int)), (0, v1), (0, v2)]) (st' := [(1, 1), (1, 0), (1, v2)]) (h' := (G, ρ, m)) hm rfl cjn ?_
    obtain ⟨q4, h4, e⟩ := bn_s e
    refine Ex_callm (z := 143) (na := 3) (ck := 0) (as := [(1, v2), (1, 0), (1, 1)]) (rest := []) (E0 := [(1, v2), (9, 0), (1, 0), (9, 0), (1, 1), (9, 0)]) (v := some (0, q4)) (h1 := (G, ρ, m)) hm rfl (by omega) ⟨Nat.le_of_ble_eq_true rfl, Nat.le_of_ble_eq_true rfl⟩ (trivial) rfl rfl ml_143 rfl (Nat.le_of_ble_eq_true rfl) (tf143 h4 (by omega)) ?_
    show Ex d 205 9 [(2, ((v0 : Nat) : Int)), (0, v1), (0, v2)] [(0, q4)] (G, ρ, m) rr
    by_cases c5 : q4 = 0
    · replace e := it_p e c5
      refine Ex_if1t (c := 0) (tgt := 18) hm rfl (bt0 c5) ?_
      refine Ex_run 1 (i' := 19) (L' := [(2, ((v0 : Nat) : Int)), (0, v1), (0, v2)]) (st' := [(1, (-4611686018427387904))]) (h' := (G, ρ, m)) hm rfl cjn ?_
      cases e
      cases hk
      exact Ex_ret (k := 3) hm rfl ⟨_, rfl, rfl⟩
    · replace e := it_n e c5
      refine Ex_if1f (c := 0) (tgt := 18) hm rfl (bf0 c5) ?_
      refine Ex_run 5 (i' := 15) (L' := [(2, ((v0 : Nat) : Int)), (0, v1), (0, v2)]) (st' := [(0, v2), (0, (m v0 45)), (0, v1), (2, ((v0 : Nat) : Int))]) (h' := (G, ρ, m)) hm rfl (cjc (gk_b g1) cjn) ?_
      obtain ⟨q6, h6, e⟩ := bn_s e
      refine Ex_callm (z := 204) (na := 4) (ck := 15) (as := [(2, ((v0 : Nat) : Int)), (0, v1), (0, (m v0 45)), (0, v2)]) (rest := []) (E0 := [(2, ((v0 : Nat) : Int)), (0, v1), (0, (m v0 45)), (0, v2)]) (v := some (0, q6.1)) (h1 := (G, ρ, q6.2)) hm rfl (by omega) ⟨Nat.le_of_ble_eq_true rfl, Nat.le_of_ble_eq_true rfl⟩ (rc2 rfl g1) rfl rfl ml_204 rfl (Nat.le_of_ble_eq_true rfl) (tf204 h6 (by omega)) ?_
      show Ex d 205 16 [(2, ((v0 : Nat) : Int)), (0, v1), (0, v2)] [(0, q6.1)] (G, ρ, q6.2) rr
      refine Ex_run 2 (i' := 19) (L' := [(2, ((v0 : Nat) : Int)), (0, v1), (0, v2)]) (st' := [(1, q6.1)]) (h' := (G, ρ, q6.2)) hm rfl cjn ?_
      cases e
      cases hk
      exact Ex_ret (k := 3) hm rfl ⟨_, rfl, rfl⟩
theorem tf206 {G : Gg} {ρ : Rg} {d : Nat} {v0 : Int} {m : Sg} {x : Int} (e : f206 G ρ v0 m = some x) (hd : 1 ≤ d) : Ex d 206 0 [(0, v0)] [] (G, ρ, m) (some (0, x), (G, ρ, m)) := by
  unfold f206 at e
  have hm := mi_206
  generalize hk : (some (0, x), (G, ρ, m)) = rr
  replace hk : (Bpi G ρ m) x rr := hk.symm
  refine Ex_run 4 (i' := 4) (L' := [(0, v0)]) (st' := [(1, 7), (1, 0), (1, v0)]) (h' := (G, ρ, m)) hm rfl cjn ?_
  obtain ⟨q1, h1, e⟩ := bn_s e
  refine Ex_callm (z := 143) (na := 3) (ck := 0) (as := [(1, v0), (1, 0), (1, 7)]) (rest := []) (E0 := [(1, v0), (9, 0), (1, 0), (9, 0), (1, 7), (9, 0)]) (v := some (0, q1)) (h1 := (G, ρ, m)) hm rfl (by omega) ⟨Nat.le_of_ble_eq_true rfl, Nat.le_of_ble_eq_true rfl⟩ (trivial) rfl rfl ml_143 rfl (Nat.le_of_ble_eq_true rfl) (tf143 h1 (by omega)) ?_
  show Ex d 206 5 [(0, v0)] [(0, q1)] (G, ρ, m) rr
  obtain ⟨g2, e⟩ := gd_s e
  cases e
  cases hk
  exact Ex_ret (k := 2) hm rfl ⟨_, rfl, g2, rfl⟩
theorem tf207_12 {G : Gg} {ρ : Rg} {d : Nat} {v0 : Nat} {v1 : Int} {v2 : Int} {m : Sg} {x : Int × Sg} (e : f207_12 G ρ v0 v1 v2 m = some x) (hd : 2 ≤ d) (rr : Option MV × Mh) (hk : (Bi G ρ) x rr) : Ex d 207 12 [(2, ((v0 : Nat) : Int)), (0, v1), (0, v2), (9, 0)] [] (G, ρ, m) rr := by
  unfold f207_12 at e
  have hm := mi_207
  obtain ⟨g4, e⟩ := gd_s e
  obtain ⟨g5, e⟩ := gd_s e
  obtain ⟨g6, e⟩ := gd_s e
  refine Ex_run 11 (i' := 23) (L' := [(2, ((v0 : Nat) : Int)), (0, v1), (0, v2), (0, (m (ρ v0 46) v1))]) (st' := [(0, (m (ρ v0 46) v1))]) (h' := (G, ρ, (put m (ρ v0 46) v1 v2))) hm rfl (cjc (gk_b g4) (cjc (gk_b g5) (cjc g6 (cjc (Nat.le_of_ble_eq_true rfl) (cjc (gk_b g4) (cjc (gk_b g5) (cjc g6 cjn))))))) ?_
  cases e
  cases hk
  exact Ex_ret (k := 1) hm rfl ⟨_, rfl, rfl⟩
theorem tf207 {G : Gg} {ρ : Rg} {d : Nat} {v0 : Nat} {v1 : Int} {v2 : Int} {m : Sg} {x : Int × Sg} (e : f207 G ρ v0 v1 v2 m = some x) (hd : 2 ≤ d) : Ex d 207 0 [(2, ((v0 : Nat) : Int)), (0, v1), (0, v2), (9, 0)] [] (G, ρ, m) (some (0, x.1), (G, ρ, x.2)) := by
  unfold f207 at e
  have hm := mi_207
  generalize hk : (some (0, x.1), (G, ρ, x.2)) = rr
  replace hk : (Bi G ρ) x rr := hk.symm
  refine Ex_run 1 (i' := 1) (L' := [(2, ((v0 : Nat) : Int)), (0, v1), (0, v2), (9, 0)]) (st' := [(0, v1)]) (h' := (G, ρ, m)) hm rfl cjn ?_
  obtain ⟨q1, h1, e⟩ := bn_s e
  refine Ex_callm (z := 206) (na := 1) (ck := 0) (as := [(0, v1)]) (rest := []) (E0 := [(0, v1)]) (v := some (0, q1)) (h1 := (G, ρ, m)) hm rfl (by omega) ⟨Nat.le_of_ble_eq_true rfl, Nat.le_of_ble_eq_true rfl⟩ (trivial) rfl rfl ml_206 rfl (Nat.le_of_ble_eq_true rfl) (tf206 h1 (by omega)) ?_
  show Ex d 207 2 [(2, ((v0 : Nat) : Int)), (0, v1), (0, v2), (9, 0)] [(0, q1)] (G, ρ, m) rr
  by_cases c2 : q1 = 0
  · replace e := it_p e c2
    refine Ex_if1t (c := 0) (tgt := 10) hm rfl (bt0 c2) ?_
    refine Ex_run 1 (i' := 11) (L' := [(2, ((v0 : Nat) : Int)), (0, v1), (0, v2), (9, 0)]) (st' := [(0, (-5))]) (h' := (G, ρ, m)) hm rfl cjn ?_
    cases e
    cases hk
    exact Ex_ret (k := 1) hm rfl ⟨_, rfl, rfl⟩
  · replace e := it_n e c2
    refine Ex_if1f (c := 0) (tgt := 10) hm rfl (bf0 c2) ?_
    refine Ex_run 2 (i' := 5) (L' := [(2, ((v0 : Nat) : Int)), (0, v1), (0, v2), (9, 0)]) (st' := [(0, (-1)), (0, v2)]) (h' := (G, ρ, m)) hm rfl cjn ?_
    by_cases c3 : v2 = (-1)
    · replace e := it_p e c3
      refine Ex_if2t (c := 0) (tgt := 12) hm rfl (bt0 c3) ?_
      exact tf207_12 e hd rr hk
    · replace e := it_n e c3
      refine Ex_if2f (c := 0) (tgt := 12) hm rfl (bf0 c3) ?_
      refine Ex_run 2 (i' := 8) (L' := [(2, ((v0 : Nat) : Int)), (0, v1), (0, v2), (9, 0)]) (st' := [(0, v2), (2, ((v0 : Nat) : Int))]) (h' := (G, ρ, m)) hm rfl cjn ?_
      obtain ⟨g7, e⟩ := gd_s e
      obtain ⟨q8, h8, e⟩ := bn_s e
      refine Ex_callm (z := 168) (na := 2) (ck := 15) (as := [(2, ((v0 : Nat) : Int)), (0, v2)]) (rest := []) (E0 := [(2, ((v0 : Nat) : Int)), (0, v2)]) (v := some (0, q8)) (h1 := (G, ρ, m)) hm rfl (by omega) ⟨Nat.le_of_ble_eq_true rfl, Nat.le_of_ble_eq_true rfl⟩ (rc2 rfl g7) rfl rfl ml_168 rfl (Nat.le_of_ble_eq_true rfl) (tf168 h8 (by omega)) ?_
      show Ex d 207 9 [(2, ((v0 : Nat) : Int)), (0, v1), (0, v2), (9, 0)] [(0, q8)] (G, ρ, m) rr
      by_cases c9 : q8 = 0
      · replace e := it_p e c9
        refine Ex_if1f (c := 1) (tgt := 12) hm rfl (bf1 c9) ?_
        refine Ex_run 1 (i' := 11) (L' := [(2, ((v0 : Nat) : Int)), (0, v1), (0, v2), (9, 0)]) (st' := [(0, (-5))]) (h' := (G, ρ, m)) hm rfl cjn ?_
        cases e
        cases hk
        exact Ex_ret (k := 1) hm rfl ⟨_, rfl, rfl⟩
      · replace e := it_n e c9
        refine Ex_if1t (c := 1) (tgt := 12) hm rfl (bt1 c9) ?_
        exact tf207_12 e hd rr hk
theorem tf208_44 {G : Gg} {ρ : Rg} {d : Nat} {v0 : Nat} {v1 : Int} {v3 : Int} {v4 : Int} {v5 : Int} {w0 : Int} {w1 : Int} {w2 : Nat} {m : Sg} {x : (Int × Int × Int × Sg) ⊕ (Int × Sg)} (e : f208_44 G ρ v0 v1 v3 v4 v5 w0 w1 w2 m = some x) (hd : 57 ≤ d) (rr : Option MV × Mh) (hk : (DS (e208_33 G ρ d v0 v1) (Bi G ρ)) x rr) (j2 : Int) (j6 : MV) (j7 : MV) : Ex d 208 44 [(2, ((v0 : Nat) : Int)), (0, v1), (0, j2), (0, v3), (0, v4), (0, v5), j6, j7] [(0, w0), (0, w1), (2, ((w2 : Nat) : Int))] (G, ρ, m) rr := by
  unfold f208_44 at e
  have hm := mi_208
  obtain ⟨g9, e⟩ := gd_s e
  obtain ⟨g10, e⟩ := gd_s e
  refine Ex_run 7 (i' := 51) (L' := [(2, ((v0 : Nat) : Int)), (0, v1), (0, j2), (0, v3), (0, v4), (0, v5), (0, (m w2 (g_rem (g_add w1 w0) 8))), j7]) (st' := [(0, (-1)), (0, (m w2 (g_rem (g_add w1 w0) 8)))]) (h' := (G, ρ, m)) hm rfl (cjc (by decide) (cjc (gk_b g9) (cjc g10 (cjc (Nat.le_of_ble_eq_true rfl) cjn)))) ?_
  by_cases c11 : (m w2 (g_rem (g_add w1 w0) 8)) = (-1)
  · replace e := it_p e c11
    refine Ex_if2f (c := 1) (tgt := 53) hm rfl (bf1 c11) ?_
    refine Ex_run 3 (i' := 33) (L' := [(2, ((v0 : Nat) : Int)), (0, v1), (0, j2), (0, v3), (0, v4), (0, (w32 (v5 + 1))), (0, (m w2 (g_rem (g_add w1 w0) 8))), j7]) (st' := []) (h' := (G, ρ, m)) hm rfl cjn ?_
    cases e
    exact hk _ _ _
  · replace e := it_n e c11
    refine Ex_if2t (c := 1) (tgt := 53) hm rfl (bt1 c11) ?_
    obtain ⟨g12, e⟩ := gd_s e
    refine Ex_run 5 (i' := 58) (L' := [(2, ((v0 : Nat) : Int)), (0, v1), (0, j2), (0, v3), (0, v4), (0, v5), (0, (m w2 (g_rem (g_add w1 w0) 8))), j7]) (st' := [(0, 0), (0, (m v0 45)), (0, (m w2 (g_rem (g_add w1 w0) 8))), (2, ((v0 : Nat) : Int))]) (h' := (G, ρ, m)) hm rfl (cjc (gk_b g12) cjn) ?_
    obtain ⟨q13, h13, e⟩ := bn_s e
    refine Ex_callm (z := 204) (na := 4) (ck := 15) (as := [(2, ((v0 : Nat) : Int)), (0, (m w2 (g_rem (g_add w1 w0) 8))), (0, (m v0 45)), (0, 0)]) (rest := []) (E0 := [(2, ((v0 : Nat) : Int)), (0, (m w2 (g_rem (g_add w1 w0) 8))), (0, (m v0 45)), (0, 0)]) (v := some (0, q13.1)) (h1 := (G, ρ, q13.2)) hm rfl (by omega) ⟨Nat.le_of_ble_eq_true rfl, Nat.le_of_ble_eq_true rfl⟩ (rc2 rfl g12) rfl rfl ml_204 rfl (Nat.le_of_ble_eq_true rfl) (tf204 h13 (by omega)) ?_
    show Ex d 208 59 [(2, ((v0 : Nat) : Int)), (0, v1), (0, j2), (0, v3), (0, v4), (0, v5), (0, (m w2 (g_rem (g_add w1 w0) 8))), j7] [(0, q13.1)] (G, ρ, q13.2) rr
    refine Ex_run 3 (i' := 62) (L' := [(2, ((v0 : Nat) : Int)), (0, v1), (0, j2), (0, v3), (0, v4), (0, v5), (0, (m w2 (g_rem (g_add w1 w0) 8))), (0, q13.1)]) (st' := [(0, v4), (0, q13.1)]) (h' := (G, ρ, q13.2)) hm rfl (cjc (Nat.le_of_ble_eq_true rfl) cjn) ?_
    by_cases c14 : v4 < q13.1
    · replace e := it_p e c14
      refine Ex_if2t (c := 4) (tgt := 64) hm rfl (bt4 c14) ?_
      refine Ex_run 6 (i' := 33) (L' := [(2, ((v0 : Nat) : Int)), (0, v1), (0, j2), (0, (m w2 (g_rem (g_add w1 w0) 8))), (0, q13.1), (0, (w32 (v5 + 1))), (0, (m w2 (g_rem (g_add w1 w0) 8))), (0, q13.1)]) (st' := []) (h' := (G, ρ, q13.2)) hm rfl (cjc (Nat.le_of_ble_eq_true rfl) (cjc (Nat.le_of_ble_eq_true rfl) cjn)) ?_
      cases e
      exact hk _ _ _
    · replace e := it_n e c14
      refine Ex_if2f (c := 4) (tgt := 64) hm rfl (bf4 c14) ?_
      refine Ex_run 3 (i' := 33) (L' := [(2, ((v0 : Nat) : Int)), (0, v1), (0, j2), (0, v3), (0, v4), (0, (w32 (v5 + 1))), (0, (m w2 (g_rem (g_add w1 w0) 8))), (0, q13.1)]) (st' := []) (h' := (G, ρ, q13.2)) hm rfl cjn ?_
      cases e
      exact hk _ _ _
theorem tf208_b33 {G : Gg} {ρ : Rg} {d : Nat} {v0 : Nat} {v1 : Int} {s : Int × Int × Int × Sg} {x : (Int × Int × Int × Sg) ⊕ (Int × Sg)} (e : f208_b33 G ρ v0 v1 s = some x) (hd : 57 ≤ d) (rr : Option MV × Mh) (hk : (DS (e208_33 G ρ d v0 v1) (Bi G ρ)) x rr) : e208_33 G ρ d v0 v1 s rr := by
  unfold f208_b33 at e
  have hm := mi_208
  show ∀ (j2 : Int) (j6 : MV) (j7 : MV), Ex d 208 33 [(2, ((v0 : Nat) : Int)), (0, v1), (0, j2), (0, s.1), (0, s.2.1), (0, s.2.2.1), j6, j7] [] (G, ρ, s.2.2.2) rr
  intro j2 j6 j7
  refine Ex_run 2 (i' := 35) (L' := [(2, ((v0 : Nat) : Int)), (0, v1), (0, j2), (0, s.1), (0, s.2.1), (0, s.2.2.1), j6, j7]) (st' := [(0, 2), (0, s.2.2.1)]) (h' := (G, ρ, s.2.2.2)) hm rfl cjn ?_
  by_cases c6 : s.2.2.1 < 2
  · replace e := it_p e c6
    refine Ex_if2f (c := 3) (tgt := 70) hm rfl (bf3 c6) ?_
    obtain ⟨g7, e⟩ := gd_s e
    refine Ex_run 4 (i' := 40) (L' := [(2, ((v0 : Nat) : Int)), (0, v1), (0, j2), (0, s.1), (0, s.2.1), (0, s.2.2.1), j6, j7]) (st' := [(0, s.2.2.1), (0, v1), (2, (((ρ v0 46) : Nat) : Int))]) (h' := (G, ρ, s.2.2.2)) hm rfl (cjc (gk_b g7) cjn) ?_
    by_cases c8 : s.2.2.1 = 0
    · replace e := it_p e c8
      refine Ex_if1f (c := 1) (tgt := 43) hm rfl (bf1 c8) ?_
      refine Ex_run 2 (i' := 44) (L' := [(2, ((v0 : Nat) : Int)), (0, v1), (0, j2), (0, s.1), (0, s.2.1), (0, s.2.2.1), j6, j7]) (st' := [(0, 7), (0, v1), (2, (((ρ v0 46) : Nat) : Int))]) (h' := (G, ρ, s.2.2.2)) hm rfl cjn ?_
      exact tf208_44 e hd rr hk _ _ _
    · replace e := it_n e c8
      refine Ex_if1t (c := 1) (tgt := 43) hm rfl (bt1 c8) ?_
      refine Ex_run 1 (i' := 44) (L' := [(2, ((v0 : Nat) : Int)), (0, v1), (0, j2), (0, s.1), (0, s.2.1), (0, s.2.2.1), j6, j7]) (st' := [(0, 1), (0, v1), (2, (((ρ v0 46) : Nat) : Int))]) (h' := (G, ρ, s.2.2.2)) hm rfl cjn ?_
      exact tf208_44 e hd rr hk _ _ _
  · replace e := it_n e c6
    refine Ex_if2t (c := 3) (tgt := 70) hm rfl (bt3 c6) ?_
    obtain ⟨x, e, hx⟩ := xr_s e
    replace hk : (Bi G ρ) x rr := by rw [hx] at hk; exact hk
    refine Ex_run 1 (i' := 71) (L' := [(2, ((v0 : Nat) : Int)), (0, v1), (0, j2), (0, s.1), (0, s.2.1), (0, s.2.2.1), j6, j7]) (st' := [(0, s.1)]) (h' := (G, ρ, s.2.2.2)) hm rfl cjn ?_
    cases e
    cases hk
    exact Ex_ret (k := 1) hm rfl ⟨_, rfl, rfl⟩
