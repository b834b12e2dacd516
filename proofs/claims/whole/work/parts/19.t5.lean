theorem tf208_17 {G : Gg} {ρ : Rg} {d : Nat} {v0 : Nat} {v1 : Int} {v2 : Int} {m : Sg} {x : Int × Sg} (e : f208_17 G ρ v0 v1 v2 m = some x) (hd : 57 ≤ d) (rr : Option MV × Mh) (hk : (Bi G ρ) x rr) : Ex d 208 17 [(2, ((v0 : Nat) : Int)), (0, v1), (0, v2), (9, 0), (9, 0), (9, 0), (9, 0), (9, 0)] [] (G, ρ, m) rr := by
  unfold f208_17 at e
  have hm := mi_208
  refine Ex_run 4 (i' := 21) (L' := [(2, ((v0 : Nat) : Int)), (0, v1), (0, v2), (0, v2), (9, 0), (9, 0), (9, 0), (9, 0)]) (st' := [(0, (-1)), (0, v2)]) (h' := (G, ρ, m)) hm rfl (cjc (Nat.le_of_ble_eq_true rfl) cjn) ?_
  by_cases c5 : v2 = (-1)
  · replace e := it_p e c5
    refine Ex_if2f (c := 1) (tgt := 24) hm rfl (bf1 c5) ?_
    refine Ex_run 5 (i' := 33) (L' := [(2, ((v0 : Nat) : Int)), (0, v1), (0, v2), (0, v2), (0, (-1000000)), (0, 0), (9, 0), (9, 0)]) (st' := []) (h' := (G, ρ, m)) hm rfl (cjc (Nat.le_of_ble_eq_true rfl) (cjc (Nat.le_of_ble_eq_true rfl) cjn)) ?_
    exact (Ex_lp (A := e208_33 G ρ d v0 v1 ) (B := (Bi G ρ)) (fun s x e rr hk => tf208_b33 e hd rr hk) FU _ _ e rr hk) _ _ _
  · replace e := it_n e c5
    refine Ex_if2t (c := 1) (tgt := 24) hm rfl (bt1 c5) ?_
    obtain ⟨g15, e⟩ := gd_s e
    refine Ex_run 5 (i' := 29) (L' := [(2, ((v0 : Nat) : Int)), (0, v1), (0, v2), (0, v2), (9, 0), (9, 0), (9, 0), (9, 0)]) (st' := [(0, 0), (0, (m v0 45)), (0, v2), (2, ((v0 : Nat) : Int))]) (h' := (G, ρ, m)) hm rfl (cjc (gk_b g15) cjn) ?_
    obtain ⟨q16, h16, e⟩ := bn_s e
    refine Ex_callm (z := 204) (na := 4) (ck := 15) (as := [(2, ((v0 : Nat) : Int)), (0, v2), (0, (m v0 45)), (0, 0)]) (rest := []) (E0 := [(2, ((v0 : Nat) : Int)), (0, v2), (0, (m v0 45)), (0, 0)]) (v := some (0, q16.1)) (h1 := (G, ρ, q16.2)) hm rfl (by omega) ⟨Nat.le_of_ble_eq_true rfl, Nat.le_of_ble_eq_true rfl⟩ (rc2 rfl g15) rfl rfl ml_204 rfl (Nat.le_of_ble_eq_true rfl) (tf204 h16 (by omega)) ?_
    show Ex d 208 30 [(2, ((v0 : Nat) : Int)), (0, v1), (0, v2), (0, v2), (9, 0), (9, 0), (9, 0), (9, 0)] [(0, q16.1)] (G, ρ, q16.2) rr
    refine Ex_run 3 (i' := 33) (L' := [(2, ((v0 : Nat) : Int)), (0, v1), (0, v2), (0, v2), (0, q16.1), (0, 0), (9, 0), (9, 0)]) (st' := []) (h' := (G, ρ, q16.2)) hm rfl (cjc (Nat.le_of_ble_eq_true rfl) (cjc (Nat.le_of_ble_eq_true rfl) cjn)) ?_
    exact (Ex_lp (A := e208_33 G ρ d v0 v1 ) (B := (Bi G ρ)) (fun s x e rr hk => tf208_b33 e hd rr hk) FU _ _ e rr hk) _ _ _
theorem tf208 {G : Gg} {ρ : Rg} {d : Nat} {v0 : Nat} {v1 : Int} {m : Sg} {x : Int × Sg} (e : f208 G ρ v0 v1 m = some x) (hd : 57 ≤ d) : Ex d 208 0 [(2, ((v0 : Nat) : Int)), (0, v1), (9, 0), (9, 0), (9, 0), (9, 0), (9, 0), (9, 0)] [] (G, ρ, m) (some (0, x.1), (G, ρ, x.2)) := by
  unfold f208 at e
  have hm := mi_208
  generalize hk : (some (0, x.1), (G, ρ, x.2)) = rr
  replace hk : (Bi G ρ) x rr := hk.symm
  obtain ⟨g1, e⟩ := gd_s e
  obtain ⟨g2, e⟩ := gd_s e
  obtain ⟨g3, e⟩ := gd_s e
  refine Ex_run 7 (i' := 7) (L' := [(2, ((v0 : Nat) : Int)), (0, v1), (0, (m (ρ v0 46) v1)), (9, 0), (9, 0), (9, 0), (9, 0), (9, 0)]) (st' := [(0, (-1)), (0, (m (ρ v0 46) v1))]) (h' := (G, ρ, m)) hm rfl (cjc (gk_b g1) (cjc (gk_b g2) (cjc g3 (cjc (Nat.le_of_ble_eq_true rfl) cjn)))) ?_
  by_cases c4 : (m (ρ v0 46) v1) = (-1)
  · replace e := it_p e c4
    refine Ex_if2t (c := 0) (tgt := 17) hm rfl (bt0 c4) ?_
    exact tf208_17 e hd rr hk
  · replace e := it_n e c4
    refine Ex_if2f (c := 0) (tgt := 17) hm rfl (bf0 c4) ?_
    refine Ex_run 5 (i' := 13) (L' := [(2, ((v0 : Nat) : Int)), (0, v1), (0, (m (ρ v0 46) v1)), (9, 0), (9, 0), (9, 0), (9, 0), (9, 0)]) (st' := [(0, 1), (0, (m v0 45)), (0, (m (ρ v0 46) v1)), (2, ((v0 : Nat) : Int))]) (h' := (G, ρ, m)) hm rfl (cjc (gk_b g1) cjn) ?_
    obtain ⟨q17, h17, e⟩ := bn_s e
    refine Ex_callm (z := 204) (na := 4) (ck := 15) (as := [(2, ((v0 : Nat) : Int)), (0, (m (ρ v0 46) v1)), (0, (m v0 45)), (0, 1)]) (rest := []) (E0 := [(2, ((v0 : Nat) : Int)), (0, (m (ρ v0 46) v1)), (0, (m v0 45)), (0, 1)]) (v := some (0, q17.1)) (h1 := (G, ρ, q17.2)) hm rfl (by omega) ⟨Nat.le_of_ble_eq_true rfl, Nat.le_of_ble_eq_true rfl⟩ (rc2 rfl g1) rfl rfl ml_204 rfl (Nat.le_of_ble_eq_true rfl) (tf204 h17 (by omega)) ?_
    show Ex d 208 14 [(2, ((v0 : Nat) : Int)), (0, v1), (0, (m (ρ v0 46) v1)), (9, 0), (9, 0), (9, 0), (9, 0), (9, 0)] [(0, q17.1)] (G, ρ, q17.2) rr
    by_cases c18 : q17.1 = 0
    · replace e := it_p e c18
      refine Ex_if1f (c := 1) (tgt := 17) hm rfl (bf1 c18) ?_
      refine Ex_run 1 (i' := 16) (L' := [(2, ((v0 : Nat) : Int)), (0, v1), (0, (m (ρ v0 46) v1)), (9, 0), (9, 0), (9, 0), (9, 0), (9, 0)]) (st' := [(0, (-1))]) (h' := (G, ρ, q17.2)) hm rfl cjn ?_
      cases e
      cases hk
      exact Ex_ret (k := 1) hm rfl ⟨_, rfl, rfl⟩
    · replace e := it_n e c18
      refine Ex_if1t (c := 1) (tgt := 17) hm rfl (bt1 c18) ?_
      exact tf208_17 e hd rr hk
theorem tf209_b43 {G : Gg} {ρ : Rg} {d : Nat} {v0 : Nat} {v1 : Int} {v2 : Int} {s : Int × Sg} {x : (Int × Sg) ⊕ ((Int × Sg) ⊕ (Int × Sg))} (e : f209_b43 G ρ v0 v1 v2 s = some x) (hd : 58 ≤ d) (rr : Option MV × Mh) (hk : (DS (e209_43 G ρ d v0 v1 v2) (DS (e209_18 G ρ d v0 v1) (Bi G ρ))) x rr) : e209_43 G ρ d v0 v1 v2 s rr := by
  unfold f209_b43 at e
  have hm := mi_209
  show Ex d 209 43 [(2, ((v0 : Nat) : Int)), (0, v1), (0, v2), (0, s.1)] [] (G, ρ, s.2) rr
  refine Ex_run 2 (i' := 45) (L' := [(2, ((v0 : Nat) : Int)), (0, v1), (0, v2), (0, s.1)]) (st' := [(0, 8), (0, s.1)]) (h' := (G, ρ, s.2)) hm rfl cjn ?_
  by_cases c12 : s.1 < 8
  · replace e := it_p e c12
    refine Ex_if2f (c := 3) (tgt := 56) hm rfl (bf3 c12) ?_
    obtain ⟨g13, e⟩ := gd_s e
    obtain ⟨g14, e⟩ := gd_s e
    obtain ⟨g15, e⟩ := gd_s e
    obtain ⟨g16, e⟩ := gd_s e
    obtain ⟨g17, e⟩ := gd_s e
    refine Ex_run 10 (i' := 43) (L' := [(2, ((v0 : Nat) : Int)), (0, v1), (0, v2), (0, (w32 (s.1 + 1)))]) (st' := []) (h' := (G, ρ, (put s.2 (ρ v0 46) s.1 (s.2 (ρ v0 47) s.1)))) hm rfl (cjc (gk_b g13) (cjc (gk_b g13) (cjc (gk_b g14) (cjc g15 (cjc (gk_b g16) (cjc g17 cjn)))))) ?_
    cases e
    exact hk
  · replace e := it_n e c12
    refine Ex_if2t (c := 3) (tgt := 56) hm rfl (bt3 c12) ?_
    obtain ⟨x, e, hx⟩ := xr_s e
    replace hk : (DS (e209_18 G ρ d v0 v1) (Bi G ρ)) x rr := by rw [hx] at hk; exact hk
    refine Ex_run 2 (i' := 18) (L' := [(2, ((v0 : Nat) : Int)), (0, v1), (0, (w32 (v2 + 1))), (0, s.1)]) (st' := []) (h' := (G, ρ, s.2)) hm rfl cjn ?_
    cases e
    exact hk _
theorem tf209_b29 {G : Gg} {ρ : Rg} {d : Nat} {v0 : Nat} {v1 : Int} {v2 : Int} {s : Int × Sg} {x : (Int × Sg) ⊕ ((Int × Sg) ⊕ (Int × Sg))} (e : f209_b29 G ρ v0 v1 v2 s = some x) (hd : 58 ≤ d) (rr : Option MV × Mh) (hk : (DS (e209_29 G ρ d v0 v1 v2) (DS (e209_18 G ρ d v0 v1) (Bi G ρ))) x rr) : e209_29 G ρ d v0 v1 v2 s rr := by
  unfold f209_b29 at e
  have hm := mi_209
  show Ex d 209 29 [(2, ((v0 : Nat) : Int)), (0, v1), (0, v2), (0, s.1)] [] (G, ρ, s.2) rr
  refine Ex_run 2 (i' := 31) (L' := [(2, ((v0 : Nat) : Int)), (0, v1), (0, v2), (0, s.1)]) (st' := [(0, 8), (0, s.1)]) (h' := (G, ρ, s.2)) hm rfl cjn ?_
  by_cases c7 : s.1 < 8
  · replace e := it_p e c7
    refine Ex_if2f (c := 3) (tgt := 41) hm rfl (bf3 c7) ?_
    obtain ⟨g8, e⟩ := gd_s e
    refine Ex_run 5 (i' := 37) (L' := [(2, ((v0 : Nat) : Int)), (0, v1), (0, v2), (0, s.1)]) (st' := [(0, s.1), (2, ((v0 : Nat) : Int)), (0, s.1), (2, (((ρ v0 47) : Nat) : Int))]) (h' := (G, ρ, s.2)) hm rfl (cjc (gk_b g8) cjn) ?_
    obtain ⟨q9, h9, e⟩ := bn_s e
    refine Ex_callm (z := 208) (na := 2) (ck := 15) (as := [(2, ((v0 : Nat) : Int)), (0, s.1)]) (rest := [(0, s.1), (2, (((ρ v0 47) : Nat) : Int))]) (E0 := [(2, ((v0 : Nat) : Int)), (0, s.1), (9, 0), (9, 0), (9, 0), (9, 0), (9, 0), (9, 0)]) (v := some (0, q9.1)) (h1 := (G, ρ, q9.2)) hm rfl (by omega) ⟨Nat.le_of_ble_eq_true rfl, Nat.le_of_ble_eq_true rfl⟩ (rc2 rfl g8) rfl rfl ml_208 rfl (Nat.le_of_ble_eq_true rfl) (tf208 h9 (by omega)) ?_
    show Ex d 209 38 [(2, ((v0 : Nat) : Int)), (0, v1), (0, v2), (0, s.1)] [(0, q9.1), (0, s.1), (2, (((ρ v0 47) : Nat) : Int))] (G, ρ, q9.2) rr
    obtain ⟨g10, e⟩ := gd_s e
    obtain ⟨g11, e⟩ := gd_s e
    refine Ex_run 3 (i' := 29) (L' := [(2, ((v0 : Nat) : Int)), (0, v1), (0, v2), (0, (w32 (s.1 + 1)))]) (st' := []) (h' := (G, ρ, (put q9.2 (ρ v0 47) s.1 q9.1))) hm rfl (cjc (gk_b g10) (cjc g11 cjn)) ?_
    cases e
    exact hk
  · replace e := it_n e c7
    refine Ex_if2t (c := 3) (tgt := 41) hm rfl (bt3 c7) ?_
    obtain ⟨x, e, hx⟩ := xr_s e
    replace hk : (DS (e209_18 G ρ d v0 v1) (Bi G ρ)) x rr := by rw [hx] at hk; exact hk
    refine Ex_run 2 (i' := 43) (L' := [(2, ((v0 : Nat) : Int)), (0, v1), (0, v2), (0, 0)]) (st' := []) (h' := (G, ρ, s.2)) hm rfl (cjc (Nat.le_of_ble_eq_true rfl) cjn) ?_
    exact (Ex_lp (A := e209_43 G ρ d v0 v1 v2 ) (B := (DS (e209_18 G ρ d v0 v1) (Bi G ρ))) (fun s x e rr hk => tf209_b43 e hd rr hk) FU _ _ e rr hk)
theorem tf209_b18 {G : Gg} {ρ : Rg} {d : Nat} {v0 : Nat} {v1 : Int} {s : Int × Sg} {x : (Int × Sg) ⊕ (Int × Sg)} (e : f209_b18 G ρ v0 v1 s = some x) (hd : 58 ≤ d) (rr : Option MV × Mh) (hk : (DS (e209_18 G ρ d v0 v1) (Bi G ρ)) x rr) : e209_18 G ρ d v0 v1 s rr := by
  unfold f209_b18 at e
  have hm := mi_209
  show ∀ (j3 : MV), Ex d 209 18 [(2, ((v0 : Nat) : Int)), (0, v1), (0, s.1), j3] [] (G, ρ, s.2) rr
  intro j3
  refine Ex_run 2 (i' := 20) (L' := [(2, ((v0 : Nat) : Int)), (0, v1), (0, s.1), j3]) (st' := [(0, v1), (0, s.1)]) (h' := (G, ρ, s.2)) hm rfl cjn ?_
  by_cases c5 : s.1 < v1
  · replace e := it_p e c5
    refine Ex_if2f (c := 3) (tgt := 58) hm rfl (bf3 c5) ?_
    obtain ⟨g6, e⟩ := gd_s e
    refine Ex_run 8 (i' := 29) (L' := [(2, ((v0 : Nat) : Int)), (0, v1), (0, s.1), (0, 0)]) (st' := []) (h' := (G, ρ, (put s.2 v0 45 (g_add (s.2 v0 45) 1)))) hm rfl (cjc (gk_b g6) (cjc (gk_b g6) (cjc (Nat.le_of_ble_eq_true rfl) cjn))) ?_
    exact (Ex_lp (A := e209_29 G ρ d v0 v1 s.1 ) (B := (DS (e209_18 G ρ d v0 v1) (Bi G ρ))) (fun s x e rr hk => tf209_b29 e hd rr hk) FU _ _ e rr hk)
  · replace e := it_n e c5
    refine Ex_if2t (c := 3) (tgt := 58) hm rfl (bt3 c5) ?_
    obtain ⟨x, e, hx⟩ := xr_s e
    replace hk : (Bi G ρ) x rr := by rw [hx] at hk; exact hk
    obtain ⟨g18, e⟩ := gd_s e
    refine Ex_run 2 (i' := 60) (L' := [(2, ((v0 : Nat) : Int)), (0, v1), (0, s.1), j3]) (st' := [(0, (s.2 v0 45))]) (h' := (G, ρ, s.2)) hm rfl (cjc (gk_b g18) cjn) ?_
    cases e
    cases hk
    exact Ex_ret (k := 1) hm rfl ⟨_, rfl, rfl⟩
theorem tf209 {G : Gg} {ρ : Rg} {d : Nat} {v0 : Nat} {v1 : Int} {m : Sg} {x : Int × Sg} (e : f209 G ρ v0 v1 m = some x) (hd : 58 ≤ d) : Ex d 209 0 [(2, ((v0 : Nat) : Int)), (0, v1), (9, 0), (9, 0)] [] (G, ρ, m) (some (0, x.1), (G, ρ, x.2)) := by
  unfold f209 at e
  have hm := mi_209
  generalize hk : (some (0, x.1), (G, ρ, x.2)) = rr
  replace hk : (Bi G ρ) x rr := hk.symm
  refine Ex_run 4 (i' := 4) (L' := [(2, ((v0 : Nat) : Int)), (0, v1), (9, 0), (9, 0)]) (st' := [(1, 30), (1, 1), (1, v1)]) (h' := (G, ρ, m)) hm rfl cjn ?_
  obtain ⟨q1, h1, e⟩ := bn_s e
  refine Ex_callm (z := 143) (na := 3) (ck := 0) (as := [(1, v1), (1, 1), (1, 30)]) (rest := []) (E0 := [(1, v1), (9, 0), (1, 1), (9, 0), (1, 30), (9, 0)]) (v := some (0, q1)) (h1 := (G, ρ, m)) hm rfl (by omega) ⟨Nat.le_of_ble_eq_true rfl, Nat.le_of_ble_eq_true rfl⟩ (trivial) rfl rfl ml_143 rfl (Nat.le_of_ble_eq_true rfl) (tf143 h1 (by omega)) ?_
  show Ex d 209 5 [(2, ((v0 : Nat) : Int)), (0, v1), (9, 0), (9, 0)] [(0, q1)] (G, ρ, m) rr
  by_cases c2 : q1 = 0
  · replace e := it_p e c2
    refine Ex_if1f (c := 1) (tgt := 8) hm rfl (bf1 c2) ?_
    refine Ex_run 1 (i' := 7) (L' := [(2, ((v0 : Nat) : Int)), (0, v1), (9, 0), (9, 0)]) (st' := [(0, (-2))]) (h' := (G, ρ, m)) hm rfl cjn ?_
    cases e
    cases hk
    exact Ex_ret (k := 1) hm rfl ⟨_, rfl, rfl⟩
  · replace e := it_n e c2
    refine Ex_if1t (c := 1) (tgt := 8) hm rfl (bt1 c2) ?_
    obtain ⟨g3, e⟩ := gd_s e
    refine Ex_run 5 (i' := 13) (L' := [(2, ((v0 : Nat) : Int)), (0, v1), (9, 0), (9, 0)]) (st' := [(0, 999), (0, (g_add (m v0 45) v1))]) (h' := (G, ρ, m)) hm rfl (cjc (gk_b g3) cjn) ?_
    by_cases c4 : 999 < (g_add (m v0 45) v1)
    · replace e := it_p e c4
      refine Ex_if2f (c := 5) (tgt := 16) hm rfl (bf5 c4) ?_
      refine Ex_run 1 (i' := 15) (L' := [(2, ((v0 : Nat) : Int)), (0, v1), (9, 0), (9, 0)]) (st' := [(0, (-4))]) (h' := (G, ρ, m)) hm rfl cjn ?_
      cases e
      cases hk
      exact Ex_ret (k := 1) hm rfl ⟨_, rfl, rfl⟩
    · replace e := it_n e c4
      refine Ex_if2t (c := 5) (tgt := 16) hm rfl (bt5 c4) ?_
      refine Ex_run 2 (i' := 18) (L' := [(2, ((v0 : Nat) : Int)), (0, v1), (0, 0), (9, 0)]) (st' := []) (h' := (G, ρ, m)) hm rfl (cjc (Nat.le_of_ble_eq_true rfl) cjn) ?_
      exact (Ex_lp (A := e209_18 G ρ d v0 v1 ) (B := (Bi G ρ)) (fun s x e rr hk => tf209_b18 e hd rr hk) FU _ _ e rr hk) _
theorem tf210 {G : Gg} {ρ : Rg} {d : Nat} {v0 : Nat} {v1 : Int} {m : Sg} {x : Int} (e : f210 G ρ v0 v1 m = some x) (hd : 2 ≤ d) : Ex d 210 0 [(2, ((v0 : Nat) : Int)), (0, v1)] [] (G, ρ, m) (some (0, x), (G, ρ, m)) := by
  unfold f210 at e
  have hm := mi_210
  generalize hk : (some (0, x), (G, ρ, m)) = rr
  replace hk : (Bpi G ρ m) x rr := hk.symm
  refine Ex_run 1 (i' := 1) (L' := [(2, ((v0 : Nat) : Int)), (0, v1)]) (st' := [(0, v1)]) (h' := (G, ρ, m)) hm rfl cjn ?_
  obtain ⟨q1, h1, e⟩ := bn_s e
  refine Ex_callm (z := 206) (na := 1) (ck := 0) (as := [(0, v1)]) (rest := []) (E0 := [(0, v1)]) (v := some (0, q1)) (h1 := (G, ρ, m)) hm rfl (by omega) ⟨Nat.le_of_ble_eq_true rfl, Nat.le_of_ble_eq_true rfl⟩ (trivial) rfl rfl ml_206 rfl (Nat.le_of_ble_eq_true rfl) (tf206 h1 (by omega)) ?_
  show Ex d 210 2 [(2, ((v0 : Nat) : Int)), (0, v1)] [(0, q1)] (G, ρ, m) rr
  by_cases c2 : q1 = 0
  · replace e := it_p e c2
    refine Ex_if1t (c := 0) (tgt := 8) hm rfl (bt0 c2) ?_
    refine Ex_run 1 (i' := 9) (L' := [(2, ((v0 : Nat) : Int)), (0, v1)]) (st' := [(0, (-2))]) (h' := (G, ρ, m)) hm rfl cjn ?_
    cases e
    cases hk
    exact Ex_ret (k := 1) hm rfl ⟨_, rfl, rfl⟩
  · replace e := it_n e c2
    refine Ex_if1f (c := 0) (tgt := 8) hm rfl (bf0 c2) ?_
    obtain ⟨g3, e⟩ := gd_s e
    obtain ⟨g4, e⟩ := gd_s e
    obtain ⟨g5, e⟩ := gd_s e
    refine Ex_run 5 (i' := 9) (L' := [(2, ((v0 : Nat) : Int)), (0, v1)]) (st' := [(0, (m (ρ v0 46) v1))]) (h' := (G, ρ, m)) hm rfl (cjc (gk_b g3) (cjc (gk_b g4) (cjc g5 cjn))) ?_
    cases e
    cases hk
    exact Ex_ret (k := 1) hm rfl ⟨_, rfl, rfl⟩
theorem tf211 {G : Gg} {ρ : Rg} {d : Nat} {v0 : Int} {m : Sg} {x : Int} (e : f211 G ρ v0 m = some x) (hd : 1 ≤ d) : Ex d 211 0 [(0, v0)] [] (G, ρ, m) (some (0, x), (G, ρ, m)) := by
  unfold f211 at e
  have hm := mi_211
  generalize hk : (some (0, x), (G, ρ, m)) = rr
  replace hk : (Bpi G ρ m) x rr := hk.symm
  refine Ex_run 4 (i' := 4) (L' := [(0, v0)]) (st' := [(1, 3), (1, 0), (1, v0)]) (h' := (G, ρ, m)) hm rfl cjn ?_
  obtain ⟨q1, h1, e⟩ := bn_s e
  refine Ex_callm (z := 143) (na := 3) (ck := 0) (as := [(1, v0), (1, 0), (1, 3)]) (rest := []) (E0 := [(1, v0), (9, 0), (1, 0), (9, 0), (1, 3), (9, 0)]) (v := some (0, q1)) (h1 := (G, ρ, m)) hm rfl (by omega) ⟨Nat.le_of_ble_eq_true rfl, Nat.le_of_ble_eq_true rfl⟩ (trivial) rfl rfl ml_143 rfl (Nat.le_of_ble_eq_true rfl) (tf143 h1 (by omega)) ?_
  show Ex d 211 5 [(0, v0)] [(0, q1)] (G, ρ, m) rr
  obtain ⟨g2, e⟩ := gd_s e
  cases e
  cases hk
  exact Ex_ret (k := 2) hm rfl ⟨_, rfl, g2, rfl⟩
theorem tf212_76 {G : Gg} {ρ : Rg} {d : Nat} {v6 : Int} {w0 : Int} {w1 : Int} {w2 : Nat} {m : Sg} {x : Int × Sg} (e : f212_76 G ρ v6 w0 w1 w2 m = some x) (hd : 3 ≤ d) (rr : Option MV × Mh) (hk : (Bi G ρ) x rr) (j0 : Nat) (j1 : Int) (j2 : Int) (j3 : Int) (j4 : Int) (j7 : Int) (j8 : Int) (j9 : Int) : Ex d 212 76 [(2, ((j0 : Nat) : Int)), (0, j1), (0, j2), (0, j3), (1, j4), (9, 0), (0, v6), (0, j7), (0, j8), (0, j9)] [(0, w0), (0, w1), (2, ((w2 : Nat) : Int))] (G, ρ, m) rr := by
  unfold f212_76 at e
  have hm := mi_212
  obtain ⟨g24, e⟩ := gd_s e
  obtain ⟨g25, e⟩ := gd_s e
  refine Ex_run 4 (i' := 80) (L' := [(2, ((j0 : Nat) : Int)), (0, j1), (0, j2), (0, j3), (1, j4), (9, 0), (0, v6), (0, j7), (0, j8), (0, j9)]) (st' := [(0, (g_sub v6 100))]) (h' := (G, ρ, (put m w2 w1 w0))) hm rfl (cjc (gk_b g24) (cjc g25 cjn)) ?_
  cases e
  cases hk
  exact Ex_ret (k := 1) hm rfl ⟨_, rfl, rfl⟩
theorem tf212_60 {G : Gg} {ρ : Rg} {d : Nat} {v0 : Nat} {v6 : Int} {v7 : Int} {v8 : Int} {w0 : Int} {m : Sg} {x : Int × Sg} (e : f212_60 G ρ v0 v6 v7 v8 w0 m = some x) (hd : 3 ≤ d) (rr : Option MV × Mh) (hk : (Bi G ρ) x rr) (j1 : Int) (j2 : Int) (j3 : Int) (j4 : Int) : Ex d 212 60 [(2, ((v0 : Nat) : Int)), (0, j1), (0, j2), (0, j3), (1, j4), (9, 0), (0, v6), (0, v7), (0, v8), (9, 0)] [(0, w0)] (G, ρ, m) rr := by
  unfold f212_60 at e
  have hm := mi_212
  obtain ⟨g20, e⟩ := gd_s e
  obtain ⟨g21, e⟩ := gd_s e
  obtain ⟨g22, e⟩ := gd_s e
  obtain ⟨g23, e⟩ := gd_s e
  refine Ex_run 16 (i' := 76) (L' := [(2, ((v0 : Nat) : Int)), (0, j1), (0, j2), (0, j3), (1, j4), (9, 0), (0, v6), (0, v7), (0, v8), (0, w0)]) (st' := [(0, (g_add ((put m (ρ v0 48) v8 (g_sub (m (ρ v0 48) v8) w0)) (ρ v0 48) v7) w0)), (0, v7), (2, (((ρ v0 48) : Nat) : Int))]) (h' := (G, ρ, (put m (ρ v0 48) v8 (g_sub (m (ρ v0 48) v8) w0)))) hm rfl (cjc (Nat.le_of_ble_eq_true rfl) (cjc (gk_b g20) (cjc (gk_b g21) (cjc g22 (cjc (gk_b g21) (cjc g22 (cjc (gk_b g20) (cjc (gk_b g21) (cjc g23 cjn))))))))) ?_
  exact tf212_76 e hd rr hk _ _ _ _ _ _ _ _
theorem tf212_47 {G : Gg} {ρ : Rg} {d : Nat} {v0 : Nat} {v3 : Int} {v6 : Int} {v7 : Int} {w0 : Int} {m : Sg} {x : Int × Sg} (e : f212_47 G ρ v0 v3 v6 v7 w0 m = some x) (hd : 3 ≤ d) (rr : Option MV × Mh) (hk : (Bi G ρ) x rr) (j1 : Int) (j2 : Int) (j4 : Int) : Ex d 212 47 [(2, ((v0 : Nat) : Int)), (0, j1), (0, j2), (0, v3), (1, j4), (9, 0), (0, v6), (0, v7), (9, 0), (9, 0)] [(0, w0)] (G, ρ, m) rr := by
  unfold f212_47 at e
  have hm := mi_212
  obtain ⟨g16, e⟩ := gd_s e
  obtain ⟨g17, e⟩ := gd_s e
  obtain ⟨g18, e⟩ := gd_s e
  refine Ex_run 6 (i' := 53) (L' := [(2, ((v0 : Nat) : Int)), (0, j1), (0, j2), (0, v3), (1, j4), (9, 0), (0, v6), (0, v7), (0, w0), (9, 0)]) (st' := [(0, (m (ρ v0 48) w0)), (0, v3)]) (h' := (G, ρ, m)) hm rfl (cjc (Nat.le_of_ble_eq_true rfl) (cjc (gk_b g16) (cjc (gk_b g17) (cjc g18 cjn)))) ?_
  by_cases c19 : v3 < (m (ρ v0 48) w0)
  · replace e := it_p e c19
    refine Ex_if2f (c := 3) (tgt := 56) hm rfl (bf3 c19) ?_
    refine Ex_run 2 (i' := 60) (L' := [(2, ((v0 : Nat) : Int)), (0, j1), (0, j2), (0, v3), (1, j4), (9, 0), (0, v6), (0, v7), (0, w0), (9, 0)]) (st' := [(0, v3)]) (h' := (G, ρ, m)) hm rfl cjn ?_
    exact tf212_60 e hd rr hk _ _ _ _
  · replace e := it_n e c19
    refine Ex_if2t (c := 3) (tgt := 56) hm rfl (bt3 c19) ?_
    refine Ex_run 4 (i' := 60) (L' := [(2, ((v0 : Nat) : Int)), (0, j1), (0, j2), (0, v3), (1, j4), (9, 0), (0, v6), (0, v7), (0, w0), (9, 0)]) (st' := [(0, (m (ρ v0 48) w0))]) (h' := (G, ρ, m)) hm rfl (cjc (gk_b g16) (cjc (gk_b g17) (cjc g18 cjn))) ?_
    exact tf212_60 e hd rr hk _ _ _ _
theorem tf212_40 {G : Gg} {ρ : Rg} {d : Nat} {v0 : Nat} {v1 : Int} {v2 : Int} {v3 : Int} {v6 : Int} {w0 : Int} {m : Sg} {x : Int × Sg} (e : f212_40 G ρ v0 v1 v2 v3 v6 w0 m = some x) (hd : 3 ≤ d) (rr : Option MV × Mh) (hk : (Bi G ρ) x rr) (j4 : Int) : Ex d 212 40 [(2, ((v0 : Nat) : Int)), (0, v1), (0, v2), (0, v3), (1, j4), (9, 0), (0, v6), (9, 0), (9, 0), (9, 0)] [(0, w0)] (G, ρ, m) rr := by
  unfold f212_40 at e
  have hm := mi_212
  refine Ex_run 3 (i' := 43) (L' := [(2, ((v0 : Nat) : Int)), (0, v1), (0, v2), (0, v3), (1, j4), (9, 0), (0, v6), (0, w0), (9, 0), (9, 0)]) (st' := [(0, 100), (0, v6)]) (h' := (G, ρ, m)) hm rfl (cjc (Nat.le_of_ble_eq_true rfl) cjn) ?_
  by_cases c15 : v6 = 100
  · replace e := it_p e c15
    refine Ex_if2f (c := 1) (tgt := 46) hm rfl (bf1 c15) ?_
    refine Ex_run 2 (i' := 47) (L' := [(2, ((v0 : Nat) : Int)), (0, v1), (0, v2), (0, v3), (1, j4), (9, 0), (0, v6), (0, w0), (9, 0), (9, 0)]) (st' := [(0, v2)]) (h' := (G, ρ, m)) hm rfl cjn ?_
    exact tf212_47 e hd rr hk _ _ _
  · replace e := it_n e c15
    refine Ex_if2t (c := 1) (tgt := 46) hm rfl (bt1 c15) ?_
    refine Ex_run 1 (i' := 47) (L' := [(2, ((v0 : Nat) : Int)), (0, v1), (0, v2), (0, v3), (1, j4), (9, 0), (0, v6), (0, w0), (9, 0), (9, 0)]) (st' := [(0, v1)]) (h' := (G, ρ, m)) hm rfl cjn ?_
    exact tf212_47 e hd rr hk _ _ _
theorem tf212 {G : Gg} {ρ : Rg} {d : Nat} {v0 : Nat} {v1 : Int} {v2 : Int} {v3 : Int} {v4 : Int} {m : Sg} {x : Int × Sg} (e : f212 G ρ v0 v1 v2 v3 v4 m = some x) (hd : 3 ≤ d) : Ex d 212 0 [(2, ((v0 : Nat) : Int)), (0, v1), (0, v2), (0, v3), (1, v4), (9, 0), (9, 0), (9, 0), (9, 0), (9, 0)] [] (G, ρ, m) (some (0, x.1), (G, ρ, x.2)) := by
  unfold f212 at e
  have hm := mi_212
  generalize hk : (some (0, x.1), (G, ρ, x.2)) = rr
  replace hk : (Bi G ρ) x rr := hk.symm
  refine Ex_run 1 (i' := 1) (L' := [(2, ((v0 : Nat) : Int)), (0, v1), (0, v2), (0, v3), (1, v4), (9, 0), (9, 0), (9, 0), (9, 0), (9, 0)]) (st' := [(0, v1)]) (h' := (G, ρ, m)) hm rfl cjn ?_
  obtain ⟨q1, h1, e⟩ := bn_s e
  refine Ex_callm (z := 211) (na := 1) (ck := 0) (as := [(0, v1)]) (rest := []) (E0 := [(0, v1)]) (v := some (0, q1)) (h1 := (G, ρ, m)) hm rfl (by omega) ⟨Nat.le_of_ble_eq_true rfl, Nat.le_of_ble_eq_true rfl⟩ (trivial) rfl rfl ml_211 rfl (Nat.le_of_ble_eq_true rfl) (tf211 h1 (by omega)) ?_
  show Ex d 212 2 [(2, ((v0 : Nat) : Int)), (0, v1), (0, v2), (0, v3), (1, v4), (9, 0), (9, 0), (9, 0), (9, 0), (9, 0)] [(0, q1)] (G, ρ, m) rr
  by_cases c2 : q1 = 0
  · replace e := it_p e c2
    refine Ex_if1t (c := 0) (tgt := 18) hm rfl (bt0 c2) ?_
    refine Ex_run 1 (i' := 19) (L' := [(2, ((v0 : Nat) : Int)), (0, v1), (0, v2), (0, v3), (1, v4), (9, 0), (9, 0), (9, 0), (9, 0), (9, 0)]) (st' := [(0, (-2))]) (h' := (G, ρ, m)) hm rfl cjn ?_
    cases e
    cases hk
    exact Ex_ret (k := 1) hm rfl ⟨_, rfl, rfl⟩
  · replace e := it_n e c2
    refine Ex_if1f (c := 0) (tgt := 18) hm rfl (bf0 c2) ?_
    refine Ex_run 1 (i' := 4) (L' := [(2, ((v0 : Nat) : Int)), (0, v1), (0, v2), (0, v3), (1, v4), (9, 0), (9, 0), (9, 0), (9, 0), (9, 0)]) (st' := [(0, v2)]) (h' := (G, ρ, m)) hm rfl cjn ?_
    obtain ⟨q3, h3, e⟩ := bn_s e
    refine Ex_callm (z := 211) (na := 1) (ck := 0) (as := [(0, v2)]) (rest := []) (E0 := [(0, v2)]) (v := some (0, q3)) (h1 := (G, ρ, m)) hm rfl (by omega) ⟨Nat.le_of_ble_eq_true rfl, Nat.le_of_ble_eq_true rfl⟩ (trivial) rfl rfl ml_211 rfl (Nat.le_of_ble_eq_true rfl) (tf211 h3 (by omega)) ?_
    show Ex d 212 5 [(2, ((v0 : Nat) : Int)), (0, v1), (0, v2), (0, v3), (1, v4), (9, 0), (9, 0), (9, 0), (9, 0), (9, 0)] [(0, q3)] (G, ρ, m) rr
    by_cases c4 : q3 = 0
    · replace e := it_p e c4
      refine Ex_if1t (c := 0) (tgt := 18) hm rfl (bt0 c4) ?_
      refine Ex_run 1 (i' := 19) (L' := [(2, ((v0 : Nat) : Int)), (0, v1), (0, v2), (0, v3), (1, v4), (9, 0), (9, 0), (9, 0), (9, 0), (9, 0)]) (st' := [(0, (-2))]) (h' := (G, ρ, m)) hm rfl cjn ?_
      cases e
      cases hk
      exact Ex_ret (k := 1) hm rfl ⟨_, rfl, rfl⟩
    · replace e := it_n e c4
      refine Ex_if1f (c := 0) (tgt := 18) hm rfl (bf0 c4) ?_
      refine Ex_run 2 (i' := 8) (L' := [(2, ((v0 : Nat) : Int)), (0, v1), (0, v2), (0, v3), (1, v4), (9, 0), (9, 0), (9, 0), (9, 0), (9, 0)]) (st' := [(0, v2), (0, v1)]) (h' := (G, ρ, m)) hm rfl cjn ?_
      by_cases c5 : v1 = v2
      · replace e := it_p e c5
        refine Ex_if2t (c := 0) (tgt := 18) hm rfl (bt0 c5) ?_
        refine Ex_run 1 (i' := 19) (L' := [(2, ((v0 : Nat) : Int)), (0, v1), (0, v2), (0, v3), (1, v4), (9, 0), (9, 0), (9, 0), (9, 0), (9, 0)]) (st' := [(0, (-2))]) (h' := (G, ρ, m)) hm rfl cjn ?_
        cases e
        cases hk
        exact Ex_ret (k := 1) hm rfl ⟨_, rfl, rfl⟩
      · replace e := it_n e c5
        refine Ex_if2f (c := 0) (tgt := 18) hm rfl (bf0 c5) ?_
        refine Ex_run 4 (i' := 13) (L' := [(2, ((v0 : Nat) : Int)), (0, v1), (0, v2), (0, v3), (1, v4), (9, 0), (9, 0), (9, 0), (9, 0), (9, 0)]) (st' := [(1, 9), (1, 0), (1, v3)]) (h' := (G, ρ, m)) hm rfl cjn ?_
        obtain ⟨q6, h6, e⟩ := bn_s e
        refine Ex_callm (z := 143) (na := 3) (ck := 0) (as := [(1, v3), (1, 0), (1, 9)]) (rest := []) (E0 := [(1, v3), (9, 0), (1, 0), (9, 0), (1, 9), (9, 0)]) (v := some (0, q6)) (h1 := (G, ρ, m)) hm rfl (by omega) ⟨Nat.le_of_ble_eq_true rfl, Nat.le_of_ble_eq_true rfl⟩ (trivial) rfl rfl ml_143 rfl (Nat.le_of_ble_eq_true rfl) (tf143 h6 (by omega)) ?_
        show Ex d 212 14 [(2, ((v0 : Nat) : Int)), (0, v1), (0, v2), (0, v3), (1, v4), (9, 0), (9, 0), (9, 0), (9, 0), (9, 0)] [(0, q6)] (G, ρ, m) rr
        by_cases c7 : q6 = 0
        · replace e := it_p e c7
          refine Ex_if1t (c := 0) (tgt := 18) hm rfl (bt0 c7) ?_
          refine Ex_run 1 (i' := 19) (L' := [(2, ((v0 : Nat) : Int)), (0, v1), (0, v2), (0, v3), (1, v4), (9, 0), (9, 0), (9, 0), (9, 0), (9, 0)]) (st' := [(0, (-2))]) (h' := (G, ρ, m)) hm rfl cjn ?_
          cases e
          cases hk
          exact Ex_ret (k := 1) hm rfl ⟨_, rfl, rfl⟩
        · replace e := it_n e c7
          refine Ex_if1f (c := 0) (tgt := 18) hm rfl (bf0 c7) ?_
          refine Ex_run 1 (i' := 16) (L' := [(2, ((v0 : Nat) : Int)), (0, v1), (0, v2), (0, v3), (1, v4), (9, 0), (9, 0), (9, 0), (9, 0), (9, 0)]) (st' := [(1, v4)]) (h' := (G, ρ, m)) hm rfl cjn ?_
          obtain ⟨q8, h8, e⟩ := bn_s e
          refine Ex_callm (z := 166) (na := 1) (ck := 0) (as := [(1, v4)]) (rest := []) (E0 := [(1, v4), (9, 0)]) (v := some (0, q8)) (h1 := (G, ρ, m)) hm rfl (by omega) ⟨Nat.le_of_ble_eq_true rfl, Nat.le_of_ble_eq_true rfl⟩ (trivial) rfl rfl ml_166 rfl (Nat.le_of_ble_eq_true rfl) (tf166 h8 (by omega)) ?_
          show Ex d 212 17 [(2, ((v0 : Nat) : Int)), (0, v1), (0, v2), (0, v3), (1, v4), (9, 0), (9, 0), (9, 0), (9, 0), (9, 0)] [(0, q8)] (G, ρ, m) rr
          by_cases c9 : q8 = 0
          · replace e := it_p e c9
            refine Ex_if1f (c := 1) (tgt := 20) hm rfl (bf1 c9) ?_
            refine Ex_run 1 (i' := 19) (L' := [(2, ((v0 : Nat) : Int)), (0, v1), (0, v2), (0, v3), (1, v4), (9, 0), (9, 0), (9, 0), (9, 0), (9, 0)]) (st' := [(0, (-2))]) (h' := (G, ρ, m)) hm rfl cjn ?_
            cases e
            cases hk
            exact Ex_ret (k := 1) hm rfl ⟨_, rfl, rfl⟩
          · replace e := it_n e c9
            refine Ex_if1t (c := 1) (tgt := 20) hm rfl (bt1 c9) ?_
            refine Ex_run 2 (i' := 22) (L' := [(2, ((v0 : Nat) : Int)), (0, v1), (0, v2), (0, v3), (1, v4), (9, 0), (9, 0), (9, 0), (9, 0), (9, 0)]) (st' := [(1, v4), (2, ((v0 : Nat) : Int))]) (h' := (G, ρ, m)) hm rfl cjn ?_
            obtain ⟨g10, e⟩ := gd_s e
            obtain ⟨q11, h11, e⟩ := bn_s e
            refine Ex_callm (z := 167) (na := 2) (ck := 15) (as := [(2, ((v0 : Nat) : Int)), (1, v4)]) (rest := []) (E0 := [(2, ((v0 : Nat) : Int)), (1, v4), (9, 0), (9, 0), (9, 0), (9, 0), (9, 0), (9, 0), (9, 0), (9, 0)]) (v := some (0, q11.1)) (h1 := (G, ρ, q11.2)) hm rfl (by omega) ⟨Nat.le_of_ble_eq_true rfl, Nat.le_of_ble_eq_true rfl⟩ (rc2 rfl g10) rfl rfl ml_167 rfl (Nat.le_of_ble_eq_true rfl) (tf167 h11 (by omega)) ?_
            show Ex d 212 23 [(2, ((v0 : Nat) : Int)), (0, v1), (0, v2), (0, v3), (1, v4), (9, 0), (9, 0), (9, 0), (9, 0), (9, 0)] [(0, q11.1)] (G, ρ, q11.2) rr
            refine Ex_run 3 (i' := 26) (L' := [(2, ((v0 : Nat) : Int)), (0, v1), (0, v2), (0, v3), (1, v4), (9, 0), (0, q11.1), (9, 0), (9, 0), (9, 0)]) (st' := [(0, (-100)), (0, q11.1)]) (h' := (G, ρ, q11.2)) hm rfl (cjc (Nat.le_of_ble_eq_true rfl) cjn) ?_
            by_cases c12 : (-100) < q11.1
            · replace e := it_p e c12
              refine Ex_if2t (c := 4) (tgt := 29) hm rfl (bt4 c12) ?_
              refine Ex_run 2 (i' := 31) (L' := [(2, ((v0 : Nat) : Int)), (0, v1), (0, v2), (0, v3), (1, v4), (9, 0), (0, q11.1), (9, 0), (9, 0), (9, 0)]) (st' := [(0, 100), (0, q11.1)]) (h' := (G, ρ, q11.2)) hm rfl cjn ?_
              by_cases c13 : q11.1 < 100
              · replace e := it_p e c13
                refine Ex_if2f (c := 3) (tgt := 34) hm rfl (bf3 c13) ?_
                refine Ex_run 1 (i' := 33) (L' := [(2, ((v0 : Nat) : Int)), (0, v1), (0, v2), (0, v3), (1, v4), (9, 0), (0, q11.1), (9, 0), (9, 0), (9, 0)]) (st' := [(0, 2)]) (h' := (G, ρ, q11.2)) hm rfl cjn ?_
                cases e
                cases hk
                exact Ex_ret (k := 1) hm rfl ⟨_, rfl, rfl⟩
              · replace e := it_n e c13
                refine Ex_if2t (c := 3) (tgt := 34) hm rfl (bt3 c13) ?_
                refine Ex_run 2 (i' := 36) (L' := [(2, ((v0 : Nat) : Int)), (0, v1), (0, v2), (0, v3), (1, v4), (9, 0), (0, q11.1), (9, 0), (9, 0), (9, 0)]) (st' := [(0, 100), (0, q11.1)]) (h' := (G, ρ, q11.2)) hm rfl cjn ?_
                by_cases c14 : q11.1 = 100
                · replace e := it_p e c14
                  refine Ex_if2f (c := 1) (tgt := 39) hm rfl (bf1 c14) ?_
                  refine Ex_run 2 (i' := 40) (L' := [(2, ((v0 : Nat) : Int)), (0, v1), (0, v2), (0, v3), (1, v4), (9, 0), (0, q11.1), (9, 0), (9, 0), (9, 0)]) (st' := [(0, v1)]) (h' := (G, ρ, q11.2)) hm rfl cjn ?_
                  exact tf212_40 e hd rr hk _
                · replace e := it_n e c14
                  refine Ex_if2t (c := 1) (tgt := 39) hm rfl (bt1 c14) ?_
                  refine Ex_run 1 (i' := 40) (L' := [(2, ((v0 : Nat) : Int)), (0, v1), (0, v2), (0, v3), (1, v4), (9, 0), (0, q11.1), (9, 0), (9, 0), (9, 0)]) (st' := [(0, v2)]) (h' := (G, ρ, q11.2)) hm rfl cjn ?_
                  exact tf212_40 e hd rr hk _
            · replace e := it_n e c12
              refine Ex_if2f (c := 4) (tgt := 29) hm rfl (bf4 c12) ?_
              refine Ex_run 1 (i' := 28) (L' := [(2, ((v0 : Nat) : Int)), (0, v1), (0, v2), (0, v3), (1, v4), (9, 0), (0, q11.1), (9, 0), (9, 0), (9, 0)]) (st' := [(0, (-3))]) (h' := (G, ρ, q11.2)) hm rfl cjn ?_
              cases e
              cases hk
              exact Ex_ret (k := 1) hm rfl ⟨_, rfl, rfl⟩
theorem tf213 {G : Gg} {ρ : Rg} {d : Nat} {v0 : Nat} {v1 : Int} {m : Sg} {x : Int} (e : f213 G ρ v0 v1 m = some x) (hd : 2 ≤ d) : Ex d 213 0 [(2, ((v0 : Nat) : Int)), (0, v1)] [] (G, ρ, m) (some (0, x), (G, ρ, m)) := by
  unfold f213 at e
  have hm := mi_213
  generalize hk : (some (0, x), (G, ρ, m)) = rr
  replace hk : (Bpi G ρ m) x rr := hk.symm
  refine Ex_run 1 (i' := 1) (L' := [(2, ((v0 : Nat) : Int)), (0, v1)]) (st' := [(0, v1)]) (h' := (G, ρ, m)) hm rfl cjn ?_
  obtain ⟨q1, h1, e⟩ := bn_s e
  refine Ex_callm (z := 211) (na := 1) (ck := 0) (as := [(0, v1)]) (rest := []) (E0 := [(0, v1)]) (v := some (0, q1)) (h1 := (G, ρ, m)) hm rfl (by omega) ⟨Nat.le_of_ble_eq_true rfl, Nat.le_of_ble_eq_true rfl⟩ (trivial) rfl rfl ml_211 rfl (Nat.le_of_ble_eq_true rfl) (tf211 h1 (by omega)) ?_
  show Ex d 213 2 [(2, ((v0 : Nat) : Int)), (0, v1)] [(0, q1)] (G, ρ, m) rr
  by_cases c2 : q1 = 0
  · replace e := it_p e c2
    refine Ex_if1t (c := 0) (tgt := 8) hm rfl (bt0 c2) ?_
    refine Ex_run 1 (i' := 9) (L' := [(2, ((v0 : Nat) : Int)), (0, v1)]) (st' := [(0, (-2))]) (h' := (G, ρ, m)) hm rfl cjn ?_
    cases e
    cases hk
    exact Ex_ret (k := 1) hm rfl ⟨_, rfl, rfl⟩
  · replace e := it_n e c2
    refine Ex_if1f (c := 0) (tgt := 8) hm rfl (bf0 c2) ?_
    obtain ⟨g3, e⟩ := gd_s e
    obtain ⟨g4, e⟩ := gd_s e
    obtain ⟨g5, e⟩ := gd_s e
    refine Ex_run 5 (i' := 9) (L' := [(2, ((v0 : Nat) : Int)), (0, v1)]) (st' := [(0, (m (ρ v0 48) v1))]) (h' := (G, ρ, m)) hm rfl (cjc (gk_b g3) (cjc (gk_b g4) (cjc g5 cjn))) ?_
    cases e
    cases hk
    exact Ex_ret (k := 1) hm rfl ⟨_, rfl, rfl⟩
theorem tf214_b29 {G : Gg} {ρ : Rg} {d : Nat} {v0 : Nat} {m : Sg} {s : Int × Int} {x : (Int × Int) ⊕ (Int)} (e : f214_b29 G ρ v0 m s = some x) (hd : 0 ≤ d) (rr : Option MV × Mh) (hk : (DS (e214_29 G ρ d v0 m) (Bpi G ρ m)) x rr) : e214_29 G ρ d v0 m s rr := by
  unfold f214_b29 at e
  have hm := mi_214
  show ∀ (j1 : Int), Ex d 214 29 [(2, ((v0 : Nat) : Int)), (0, j1), (0, s.1), (0, s.2)] [] (G, ρ, m) rr
  intro j1
  refine Ex_run 2 (i' := 31) (L' := [(2, ((v0 : Nat) : Int)), (0, j1), (0, s.1), (0, s.2)]) (st' := [(0, 8), (0, s.2)]) (h' := (G, ρ, m)) hm rfl cjn ?_
  by_cases c18 : s.2 < 8
  · replace e := it_p e c18
    refine Ex_if2f (c := 3) (tgt := 46) hm rfl (bf3 c18) ?_
    obtain ⟨g19, e⟩ := gd_s e
    obtain ⟨g20, e⟩ := gd_s e
    obtain ⟨g21, e⟩ := gd_s e
    refine Ex_run 6 (i' := 38) (L' := [(2, ((v0 : Nat) : Int)), (0, j1), (0, s.1), (0, s.2)]) (st' := [(0, (-1)), (0, (m (ρ v0 46) s.2)), (0, s.1)]) (h' := (G, ρ, m)) hm rfl (cjc (gk_b g19) (cjc (gk_b g20) (cjc g21 cjn))) ?_
    by_cases c22 : (m (ρ v0 46) s.2) = (-1)
    · replace e := it_p e c22
      refine Ex_if2t (c := 0) (tgt := 41) hm rfl (bt0 c22) ?_
      refine Ex_run 5 (i' := 29) (L' := [(2, ((v0 : Nat) : Int)), (0, j1), (0, (g_add s.1 0)), (0, (w32 (s.2 + 1)))]) (st' := []) (h' := (G, ρ, m)) hm rfl (cjc (Nat.le_of_ble_eq_true rfl) cjn) ?_
      cases e
      exact hk _
    · replace e := it_n e c22
      refine Ex_if2f (c := 0) (tgt := 41) hm rfl (bf0 c22) ?_
      refine Ex_run 6 (i' := 29) (L' := [(2, ((v0 : Nat) : Int)), (0, j1), (0, (g_add s.1 1)), (0, (w32 (s.2 + 1)))]) (st' := []) (h' := (G, ρ, m)) hm rfl (cjc (Nat.le_of_ble_eq_true rfl) cjn) ?_
      cases e
      exact hk _
  · replace e := it_n e c18
    refine Ex_if2t (c := 3) (tgt := 46) hm rfl (bt3 c18) ?_
    obtain ⟨x, e, hx⟩ := xr_s e
    replace hk : (Bpi G ρ m) x rr := by rw [hx] at hk; exact hk
    refine Ex_run 1 (i' := 47) (L' := [(2, ((v0 : Nat) : Int)), (0, j1), (0, s.1), (0, s.2)]) (st' := [(0, s.1)]) (h' := (G, ρ, m)) hm rfl cjn ?_
    cases e
    cases hk
    exact Ex_ret (k := 1) hm rfl ⟨_, rfl, rfl⟩
theorem tf214 {G : Gg} {ρ : Rg} {d : Nat} {v0 : Nat} {v1 : Int} {m : Sg} {x : Int} (e : f214 G ρ v0 v1 m = some x) (hd : 0 ≤ d) : Ex d 214 0 [(2, ((v0 : Nat) : Int)), (0, v1), (9, 0), (9, 0)] [] (G, ρ, m) (some (0, x), (G, ρ, m)) := by
  unfold f214 at e
  have hm := mi_214
  generalize hk : (some (0, x), (G, ρ, m)) = rr
  replace hk : (Bpi G ρ m) x rr := hk.symm
  refine Ex_run 1 (i' := 1) (L' := [(2, ((v0 : Nat) : Int)), (0, v1), (9, 0), (9, 0)]) (st' := [(0, v1)]) (h' := (G, ρ, m)) hm rfl cjn ?_
  by_cases c1 : v1 = 0
  · replace e := it_p e c1
    refine Ex_sw (lo := 0) (tg := [2, 5, 10, 13, 16, 19, 22, 25]) (df := 48) hm rfl 0 rfl c1 ?_
    obtain ⟨g2, e⟩ := gd_s e
    refine Ex_run 2 (i' := 4) (L' := [(2, ((v0 : Nat) : Int)), (0, v1), (9, 0), (9, 0)]) (st' := [(0, (m v0 1))]) (h' := (G, ρ, m)) hm rfl (cjc (gk_b g2) cjn) ?_
    cases e
    cases hk
    exact Ex_ret (k := 1) hm rfl ⟨_, rfl, rfl⟩
  · replace e := it_n e c1
    by_cases c3 : v1 = 1
    · replace e := it_p e c3
      refine Ex_sw (lo := 0) (tg := [2, 5, 10, 13, 16, 19, 22, 25]) (df := 48) hm rfl 1 rfl c3 ?_
      obtain ⟨g4, e⟩ := gd_s e
      obtain ⟨g5, e⟩ := gd_s e
      obtain ⟨g6, e⟩ := gd_s e
      refine Ex_run 4 (i' := 9) (L' := [(2, ((v0 : Nat) : Int)), (0, v1), (9, 0), (9, 0)]) (st' := [(0, (m (ρ v0 4) 12))]) (h' := (G, ρ, m)) hm rfl (cjc (gk_b g4) (cjc (gk_b g5) (cjc g6 cjn))) ?_
      cases e
      cases hk
      exact Ex_ret (k := 1) hm rfl ⟨_, rfl, rfl⟩
    · replace e := it_n e c3
      by_cases c7 : v1 = 2
      · replace e := it_p e c7
        refine Ex_sw (lo := 0) (tg := [2, 5, 10, 13, 16, 19, 22, 25]) (df := 48) hm rfl 2 rfl c7 ?_
        obtain ⟨g8, e⟩ := gd_s e
        refine Ex_run 2 (i' := 12) (L' := [(2, ((v0 : Nat) : Int)), (0, v1), (9, 0), (9, 0)]) (st' := [(0, (m v0 15))]) (h' := (G, ρ, m)) hm rfl (cjc (gk_b g8) cjn) ?_
        cases e
        cases hk
        exact Ex_ret (k := 1) hm rfl ⟨_, rfl, rfl⟩
      · replace e := it_n e c7
        by_cases c9 : v1 = 3
        · replace e := it_p e c9
          refine Ex_sw (lo := 0) (tg := [2, 5, 10, 13, 16, 19, 22, 25]) (df := 48) hm rfl 3 rfl c9 ?_
          obtain ⟨g10, e⟩ := gd_s e
          refine Ex_run 2 (i' := 15) (L' := [(2, ((v0 : Nat) : Int)), (0, v1), (9, 0), (9, 0)]) (st' := [(0, (m v0 26))]) (h' := (G, ρ, m)) hm rfl (cjc (gk_b g10) cjn) ?_
          cases e
          cases hk
          exact Ex_ret (k := 1) hm rfl ⟨_, rfl, rfl⟩
        · replace e := it_n e c9
          by_cases c11 : v1 = 4
          · replace e := it_p e c11
            refine Ex_sw (lo := 0) (tg := [2, 5, 10, 13, 16, 19, 22, 25]) (df := 48) hm rfl 4 rfl c11 ?_
            obtain ⟨g12, e⟩ := gd_s e
            refine Ex_run 2 (i' := 18) (L' := [(2, ((v0 : Nat) : Int)), (0, v1), (9, 0), (9, 0)]) (st' := [(0, (m v0 29))]) (h' := (G, ρ, m)) hm rfl (cjc (gk_b g12) cjn) ?_
            cases e
            cases hk
            exact Ex_ret (k := 1) hm rfl ⟨_, rfl, rfl⟩
          · replace e := it_n e c11
            by_cases c13 : v1 = 5
            · replace e := it_p e c13
              refine Ex_sw (lo := 0) (tg := [2, 5, 10, 13, 16, 19, 22, 25]) (df := 48) hm rfl 5 rfl c13 ?_
              obtain ⟨g14, e⟩ := gd_s e
              refine Ex_run 2 (i' := 21) (L' := [(2, ((v0 : Nat) : Int)), (0, v1), (9, 0), (9, 0)]) (st' := [(0, (m v0 27))]) (h' := (G, ρ, m)) hm rfl (cjc (gk_b g14) cjn) ?_
              cases e
              cases hk
              exact Ex_ret (k := 1) hm rfl ⟨_, rfl, rfl⟩
            · replace e := it_n e c13
              by_cases c15 : v1 = 6
              · replace e := it_p e c15
                refine Ex_sw (lo := 0) (tg := [2, 5, 10, 13, 16, 19, 22, 25]) (df := 48) hm rfl 6 rfl c15 ?_
                obtain ⟨g16, e⟩ := gd_s e
                refine Ex_run 2 (i' := 24) (L' := [(2, ((v0 : Nat) : Int)), (0, v1), (9, 0), (9, 0)]) (st' := [(0, (m v0 45))]) (h' := (G, ρ, m)) hm rfl (cjc (gk_b g16) cjn) ?_
                cases e
                cases hk
                exact Ex_ret (k := 1) hm rfl ⟨_, rfl, rfl⟩
              · replace e := it_n e c15
                by_cases c17 : v1 = 7
                · replace e := it_p e c17
                  refine Ex_sw (lo := 0) (tg := [2, 5, 10, 13, 16, 19, 22, 25]) (df := 48) hm rfl 7 rfl c17 ?_
                  refine Ex_run 4 (i' := 29) (L' := [(2, ((v0 : Nat) : Int)), (0, v1), (0, 0), (0, 0)]) (st' := []) (h' := (G, ρ, m)) hm rfl (cjc (Nat.le_of_ble_eq_true rfl) (cjc (Nat.le_of_ble_eq_true rfl) cjn)) ?_
                  exact (Ex_lp (A := e214_29 G ρ d v0 m ) (B := (Bpi G ρ m)) (fun s x e rr hk => tf214_b29 e hd rr hk) FU _ _ e rr hk) _
                · replace e := it_n e c17
                  refine Ex_swd (lo := 0) (tg := [2, 5, 10, 13, 16, 19, 22, 25]) (df := 48) hm rfl (swk_d ⟨Or.inr c1, Or.inr c3, Or.inr c7, Or.inr c9, Or.inr c11, Or.inr c13, Or.inr c15, Or.inr c17, trivial⟩) ?_
                  refine Ex_run 1 (i' := 49) (L' := [(2, ((v0 : Nat) : Int)), (0, v1), (9, 0), (9, 0)]) (st' := [(0, (-2))]) (h' := (G, ρ, m)) hm rfl cjn ?_
                  cases e
                  cases hk
                  exact Ex_ret (k := 1) hm rfl ⟨_, rfl, rfl⟩
theorem tf215 {G : Gg} {ρ : Rg} {d : Nat} {v0 : Int} {m : Sg} {x : Int} (e : f215 G ρ v0 m = some x) (hd : 1 ≤ d) : Ex d 215 0 [(0, v0)] [] (G, ρ, m) (some (0, x), (G, ρ, m)) := by
  unfold f215 at e
  have hm := mi_215
  generalize hk : (some (0, x), (G, ρ, m)) = rr
  replace hk : (Bpi G ρ m) x rr := hk.symm
  refine Ex_run 4 (i' := 4) (L' := [(0, v0)]) (st' := [(1, 3), (1, 0), (1, v0)]) (h' := (G, ρ, m)) hm rfl cjn ?_
  obtain ⟨q1, h1, e⟩ := bn_s e
  refine Ex_callm (z := 143) (na := 3) (ck := 0) (as := [(1, v0), (1, 0), (1, 3)]) (rest := []) (E0 := [(1, v0), (9, 0), (1, 0), (9, 0), (1, 3), (9, 0)]) (v := some (0, q1)) (h1 := (G, ρ, m)) hm rfl (by omega) ⟨Nat.le_of_ble_eq_true rfl, Nat.le_of_ble_eq_true rfl⟩ (trivial) rfl rfl ml_143 rfl (Nat.le_of_ble_eq_true rfl) (tf143 h1 (by omega)) ?_
  show Ex d 215 5 [(0, v0)] [(0, q1)] (G, ρ, m) rr
  obtain ⟨g2, e⟩ := gd_s e
  cases e
  cases hk
  exact Ex_ret (k := 2) hm rfl ⟨_, rfl, g2, rfl⟩
theorem tf216_b43 {G : Gg} {ρ : Rg} {d : Nat} {v0 : Nat} {v1 : Int} {v2 : Int} {v3 : Int} {s : Int × Sg} {x : (Int × Sg) ⊕ (Int × Sg)} (e : f216_b43 G ρ v0 v1 v2 v3 s = some x) (hd : 2 ≤ d) (rr : Option MV × Mh) (hk : (DS (e216_43 G ρ d v0 v1 v2 v3) (Bi G ρ)) x rr) : e216_43 G ρ d v0 v1 v2 v3 s rr := by
  unfold f216_b43 at e
  have hm := mi_216
  show Ex d 216 43 [(2, ((v0 : Nat) : Int)), (0, v1), (0, v2), (0, v3), (0, s.1)] [] (G, ρ, s.2) rr
  refine Ex_run 2 (i' := 45) (L' := [(2, ((v0 : Nat) : Int)), (0, v1), (0, v2), (0, v3), (0, s.1)]) (st' := [(0, v3), (0, s.1)]) (h' := (G, ρ, s.2)) hm rfl cjn ?_
  by_cases c18 : s.1 < v3
  · replace e := it_p e c18
    refine Ex_if2f (c := 3) (tgt := 59) hm rfl (bf3 c18) ?_
    refine Ex_run 1 (i' := 47) (L' := [(2, ((v0 : Nat) : Int)), (0, v1), (0, v2), (0, v3), (0, s.1)]) (st' := [(0, v2)]) (h' := (G, ρ, s.2)) hm rfl cjn ?_
    by_cases c19 : v2 < 0
    · replace e := it_p e c19
      refine Ex_if1t (c := 2) (tgt := 59) hm rfl (bt2 c19) ?_
      obtain ⟨x, e, hx⟩ := xr_s e
      replace hk : (Bi G ρ) x rr := by rw [hx] at hk; exact hk
      refine Ex_run 1 (i' := 60) (L' := [(2, ((v0 : Nat) : Int)), (0, v1), (0, v2), (0, v3), (0, s.1)]) (st' := [(0, 1)]) (h' := (G, ρ, s.2)) hm rfl cjn ?_
      cases e
      cases hk
      exact Ex_ret (k := 1) hm rfl ⟨_, rfl, rfl⟩
    · replace e := it_n e c19
      refine Ex_if1f (c := 2) (tgt := 59) hm rfl (bf2 c19) ?_
      obtain ⟨g20, e⟩ := gd_s e
      obtain ⟨g21, e⟩ := gd_s e
      obtain ⟨g22, e⟩ := gd_s e
      refine Ex_run 11 (i' := 43) (L' := [(2, ((v0 : Nat) : Int)), (0, v1), (0, v2), (0, v3), (0, (w32 (s.1 + 1)))]) (st' := []) (h' := (G, ρ, (put s.2 (ρ v0 52) (g_add (g_mul 40 v1) s.1) 0))) hm rfl (cjc (gk_b g20) (cjc (gk_b g21) (cjc g22 cjn))) ?_
      cases e
      exact hk
  · replace e := it_n e c18
    refine Ex_if2t (c := 3) (tgt := 59) hm rfl (bt3 c18) ?_
    obtain ⟨x, e, hx⟩ := xr_s e
    replace hk : (Bi G ρ) x rr := by rw [hx] at hk; exact hk
    refine Ex_run 1 (i' := 60) (L' := [(2, ((v0 : Nat) : Int)), (0, v1), (0, v2), (0, v3), (0, s.1)]) (st' := [(0, 1)]) (h' := (G, ρ, s.2)) hm rfl cjn ?_
    cases e
    cases hk
    exact Ex_ret (k := 1) hm rfl ⟨_, rfl, rfl⟩
theorem tf216_40 {G : Gg} {ρ : Rg} {d : Nat} {v0 : Nat} {v1 : Int} {v2 : Int} {v3 : Int} {w0 : Int} {w1 : Int} {w2 : Nat} {m : Sg} {x : Int × Sg} (e : f216_40 G ρ v0 v1 v2 v3 w0 w1 w2 m = some x) (hd : 2 ≤ d) (rr : Option MV × Mh) (hk : (Bi G ρ) x rr) : Ex d 216 40 [(2, ((v0 : Nat) : Int)), (0, v1), (0, v2), (0, v3), (9, 0)] [(0, w0), (0, w1), (2, ((w2 : Nat) : Int))] (G, ρ, m) rr := by
  unfold f216_40 at e
  have hm := mi_216
  obtain ⟨g16, e⟩ := gd_s e
  obtain ⟨g17, e⟩ := gd_s e
  refine Ex_run 3 (i' := 43) (L' := [(2, ((v0 : Nat) : Int)), (0, v1), (0, v2), (0, v3), (0, 0)]) (st' := []) (h' := (G, ρ, (put m w2 w1 w0))) hm rfl (cjc (gk_b g16) (cjc g17 (cjc (Nat.le_of_ble_eq_true rfl) cjn))) ?_
  exact (Ex_lp (A := e216_43 G ρ d v0 v1 v2 v3 ) (B := (Bi G ρ)) (fun s x e rr hk => tf216_b43 e hd rr hk) FU _ _ e rr hk)
theorem tf216_35 {G : Gg} {ρ : Rg} {d : Nat} {v0 : Nat} {v1 : Int} {v2 : Int} {v3 : Int} {w0 : Int} {w1 : Int} {w2 : Nat} {m : Sg} {x : Int × Sg} (e : f216_35 G ρ v0 v1 v2 v3 w0 w1 w2 m = some x) (hd : 2 ≤ d) (rr : Option MV × Mh) (hk : (Bi G ρ) x rr) : Ex d 216 35 [(2, ((v0 : Nat) : Int)), (0, v1), (0, v2), (0, v3), (9, 0)] [(0, w0), (0, w1), (2, ((w2 : Nat) : Int))] (G, ρ, m) rr := by
  unfold f216_35 at e
  have hm := mi_216
  obtain ⟨g13, e⟩ := gd_s e
  obtain ⟨g14, e⟩ := gd_s e
  obtain ⟨g15, e⟩ := gd_s e
  refine Ex_run 5 (i' := 40) (L' := [(2, ((v0 : Nat) : Int)), (0, v1), (0, v2), (0, v3), (9, 0)]) (st' := [(0, v3), (0, v1), (2, (((ρ v0 51) : Nat) : Int))]) (h' := (G, ρ, (put m w2 w1 w0))) hm rfl (cjc (gk_b g13) (cjc g14 (cjc (gk_b g15) cjn))) ?_
  exact tf216_40 e hd rr hk
theorem tf216_30 {G : Gg} {ρ : Rg} {d : Nat} {v0 : Nat} {v1 : Int} {v2 : Int} {v3 : Int} {w0 : Int} {w1 : Int} {w2 : Nat} {m : Sg} {x : Int × Sg} (e : f216_30 G ρ v0 v1 v2 v3 w0 w1 w2 m = some x) (hd : 2 ≤ d) (rr : Option MV × Mh) (hk : (Bi G ρ) x rr) : Ex d 216 30 [(2, ((v0 : Nat) : Int)), (0, v1), (0, v2), (0, v3), (9, 0)] [(0, w0), (0, w1), (2, ((w2 : Nat) : Int))] (G, ρ, m) rr := by
  unfold f216_30 at e
  have hm := mi_216
  obtain ⟨g9, e⟩ := gd_s e
  obtain ⟨g10, e⟩ := gd_s e
  obtain ⟨g11, e⟩ := gd_s e
  obtain ⟨g12, e⟩ := gd_s e
  refine Ex_run 5 (i' := 35) (L' := [(2, ((v0 : Nat) : Int)), (0, v1), (0, v2), (0, v3), (9, 0)]) (st' := [(0, v2), (0, v1), (2, (((ρ v0 50) : Nat) : Int))]) (h' := (G, ρ, (put m w2 w1 w0))) hm rfl (cjc (gk_b g9) (cjc g10 (cjc g11 (cjc (gk_b g12) cjn)))) ?_
  exact tf216_35 e hd rr hk
theorem tf216_22 {G : Gg} {ρ : Rg} {d : Nat} {v0 : Nat} {v1 : Int} {v2 : Int} {v3 : Int} {m : Sg} {x : Int × Sg} (e : f216_22 G ρ v0 v1 v2 v3 m = some x) (hd : 2 ≤ d) (rr : Option MV × Mh) (hk : (Bi G ρ) x rr) : Ex d 216 22 [(2, ((v0 : Nat) : Int)), (0, v1), (0, v2), (0, v3), (9, 0)] [] (G, ρ, m) rr := by
  unfold f216_22 at e
  have hm := mi_216
  obtain ⟨g7, e⟩ := gd_s e
  refine Ex_run 4 (i' := 26) (L' := [(2, ((v0 : Nat) : Int)), (0, v1), (0, v2), (0, v3), (9, 0)]) (st' := [(0, v2), (0, v1), (2, (((ρ v0 49) : Nat) : Int))]) (h' := (G, ρ, m)) hm rfl (cjc (gk_b g7) cjn) ?_
  by_cases c8 : v2 < 0
  · replace e := it_p e c8
    refine Ex_if1t (c := 2) (tgt := 29) hm rfl (bt2 c8) ?_
    refine Ex_run 1 (i' := 30) (L' := [(2, ((v0 : Nat) : Int)), (0, v1), (0, v2), (0, v3), (9, 0)]) (st' := [(0, 0), (0, v1), (2, (((ρ v0 49) : Nat) : Int))]) (h' := (G, ρ, m)) hm rfl cjn ?_
    exact tf216_30 e hd rr hk
  · replace e := it_n e c8
    refine Ex_if1f (c := 2) (tgt := 29) hm rfl (bf2 c8) ?_
    refine Ex_run 2 (i' := 30) (L' := [(2, ((v0 : Nat) : Int)), (0, v1), (0, v2), (0, v3), (9, 0)]) (st' := [(0, 1), (0, v1), (2, (((ρ v0 49) : Nat) : Int))]) (h' := (G, ρ, m)) hm rfl cjn ?_
    exact tf216_30 e hd rr hk
theorem tf216_16 {G : Gg} {ρ : Rg} {d : Nat} {v0 : Nat} {v1 : Int} {v2 : Int} {v3 : Int} {m : Sg} {x : Int × Sg} (e : f216_16 G ρ v0 v1 v2 v3 m = some x) (hd : 2 ≤ d) (rr : Option MV × Mh) (hk : (Bi G ρ) x rr) : Ex d 216 16 [(2, ((v0 : Nat) : Int)), (0, v1), (0, v2), (0, v3), (9, 0)] [] (G, ρ, m) rr := by
  unfold f216_16 at e
  have hm := mi_216
  refine Ex_run 1 (i' := 17) (L' := [(2, ((v0 : Nat) : Int)), (0, v1), (0, v2), (0, v3), (9, 0)]) (st' := [(0, v2)]) (h' := (G, ρ, m)) hm rfl cjn ?_
  by_cases c6 : v2 < 0
  · replace e := it_p e c6
    refine Ex_if1t (c := 2) (tgt := 22) hm rfl (bt2 c6) ?_
    exact tf216_22 e hd rr hk
  · replace e := it_n e c6
    refine Ex_if1f (c := 2) (tgt := 22) hm rfl (bf2 c6) ?_
    refine Ex_run 1 (i' := 19) (L' := [(2, ((v0 : Nat) : Int)), (0, v1), (0, v2), (0, v3), (9, 0)]) (st' := [(0, v3)]) (h' := (G, ρ, m)) hm rfl cjn ?_
    by_cases c23 : v3 < 0
    · replace e := it_p e c23
      refine Ex_if1f (c := 3) (tgt := 22) hm rfl (bf3 c23) ?_
      refine Ex_run 1 (i' := 21) (L' := [(2, ((v0 : Nat) : Int)), (0, v1), (0, v2), (0, v3), (9, 0)]) (st' := [(0, (-14))]) (h' := (G, ρ, m)) hm rfl cjn ?_
      cases e
      cases hk
      exact Ex_ret (k := 1) hm rfl ⟨_, rfl, rfl⟩
    · replace e := it_n e c23
      refine Ex_if1t (c := 3) (tgt := 22) hm rfl (bt3 c23) ?_
      exact tf216_22 e hd rr hk
theorem tf216 {G : Gg} {ρ : Rg} {d : Nat} {v0 : Nat} {v1 : Int} {v2 : Int} {v3 : Int} {m : Sg} {x : Int × Sg} (e : f216 G ρ v0 v1 v2 v3 m = some x) (hd : 2 ≤ d) : Ex d 216 0 [(2, ((v0 : Nat) : Int)), (0, v1), (0, v2), (0, v3), (9, 0)] [] (G, ρ, m) (some (0, x.1), (G, ρ, x.2)) := by
  unfold f216 at e
  have hm := mi_216
  generalize hk : (some (0, x.1), (G, ρ, x.2)) = rr
  replace hk : (Bi G ρ) x rr := hk.symm
  refine Ex_run 1 (i' := 1) (L' := [(2, ((v0 : Nat) : Int)), (0, v1), (0, v2), (0, v3), (9, 0)]) (st' := [(0, v1)]) (h' := (G, ρ, m)) hm rfl cjn ?_
  obtain ⟨q1, h1, e⟩ := bn_s e
  refine Ex_callm (z := 215) (na := 1) (ck := 0) (as := [(0, v1)]) (rest := []) (E0 := [(0, v1)]) (v := some (0, q1)) (h1 := (G, ρ, m)) hm rfl (by omega) ⟨Nat.le_of_ble_eq_true rfl, Nat.le_of_ble_eq_true rfl⟩ (trivial) rfl rfl ml_215 rfl (Nat.le_of_ble_eq_true rfl) (tf215 h1 (by omega)) ?_
  show Ex d 216 2 [(2, ((v0 : Nat) : Int)), (0, v1), (0, v2), (0, v3), (9, 0)] [(0, q1)] (G, ρ, m) rr
  by_cases c2 : q1 = 0
  · replace e := it_p e c2
    refine Ex_if1t (c := 0) (tgt := 14) hm rfl (bt0 c2) ?_
    refine Ex_run 1 (i' := 15) (L' := [(2, ((v0 : Nat) : Int)), (0, v1), (0, v2), (0, v3), (9, 0)]) (st' := [(0, (-2))]) (h' := (G, ρ, m)) hm rfl cjn ?_
    cases e
    cases hk
    exact Ex_ret (k := 1) hm rfl ⟨_, rfl, rfl⟩
  · replace e := it_n e c2
    refine Ex_if1f (c := 0) (tgt := 14) hm rfl (bf0 c2) ?_
    refine Ex_run 4 (i' := 7) (L' := [(2, ((v0 : Nat) : Int)), (0, v1), (0, v2), (0, v3), (9, 0)]) (st' := [(1, 2), (1, (-1)), (1, v2)]) (h' := (G, ρ, m)) hm rfl cjn ?_
    obtain ⟨q3, h3, e⟩ := bn_s e
    refine Ex_callm (z := 143) (na := 3) (ck := 0) (as := [(1, v2), (1, (-1)), (1, 2)]) (rest := []) (E0 := [(1, v2), (9, 0), (1, (-1)), (9, 0), (1, 2), (9, 0)]) (v := some (0, q3)) (h1 := (G, ρ, m)) hm rfl (by omega) ⟨Nat.le_of_ble_eq_true rfl, Nat.le_of_ble_eq_true rfl⟩ (trivial) rfl rfl ml_143 rfl (Nat.le_of_ble_eq_true rfl) (tf143 h3 (by omega)) ?_
    show Ex d 216 8 [(2, ((v0 : Nat) : Int)), (0, v1), (0, v2), (0, v3), (9, 0)] [(0, q3)] (G, ρ, m) rr
    by_cases c4 : q3 = 0
    · replace e := it_p e c4
      refine Ex_if1t (c := 0) (tgt := 14) hm rfl (bt0 c4) ?_
      refine Ex_run 1 (i' := 15) (L' := [(2, ((v0 : Nat) : Int)), (0, v1), (0, v2), (0, v3), (9, 0)]) (st' := [(0, (-2))]) (h' := (G, ρ, m)) hm rfl cjn ?_
      cases e
      cases hk
      exact Ex_ret (k := 1) hm rfl ⟨_, rfl, rfl⟩
    · replace e := it_n e c4
      refine Ex_if1f (c := 0) (tgt := 14) hm rfl (bf0 c4) ?_
      refine Ex_run 1 (i' := 10) (L' := [(2, ((v0 : Nat) : Int)), (0, v1), (0, v2), (0, v3), (9, 0)]) (st' := [(0, v2)]) (h' := (G, ρ, m)) hm rfl cjn ?_
      by_cases c5 : v2 < 0
      · replace e := it_p e c5
        refine Ex_if1t (c := 2) (tgt := 16) hm rfl (bt2 c5) ?_
        exact tf216_16 e hd rr hk
      · replace e := it_n e c5
        refine Ex_if1f (c := 2) (tgt := 16) hm rfl (bf2 c5) ?_
        refine Ex_run 2 (i' := 13) (L' := [(2, ((v0 : Nat) : Int)), (0, v1), (0, v2), (0, v3), (9, 0)]) (st' := [(0, 40), (0, v3)]) (h' := (G, ρ, m)) hm rfl cjn ?_
        by_cases c24 : 40 < v3
        · replace e := it_p e c24
          refine Ex_if2f (c := 5) (tgt := 16) hm rfl (bf5 c24) ?_
          refine Ex_run 1 (i' := 15) (L' := [(2, ((v0 : Nat) : Int)), (0, v1), (0, v2), (0, v3), (9, 0)]) (st' := [(0, (-2))]) (h' := (G, ρ, m)) hm rfl cjn ?_
          cases e
          cases hk
          exact Ex_ret (k := 1) hm rfl ⟨_, rfl, rfl⟩
        · replace e := it_n e c24
          refine Ex_if2t (c := 5) (tgt := 16) hm rfl (bt5 c24) ?_
          exact tf216_16 e hd rr hk
theorem tf217_51 {G : Gg} {ρ : Rg} {d : Nat} {w0 : Int} {w1 : Int} {w2 : Nat} {m : Sg} {x : Int × Sg} (e : f217_51 G ρ w0 w1 w2 m = some x) (hd : 2 ≤ d) (rr : Option MV × Mh) (hk : (Bi G ρ) x rr) (j0 : Nat) (j1 : Int) (j2 : Int) (j3 : Int) : Ex d 217 51 [(2, ((j0 : Nat) : Int)), (0, j1), (0, j2), (0, j3)] [(0, w0), (0, w1), (2, ((w2 : Nat) : Int))] (G, ρ, m) rr := by
  unfold f217_51 at e
  have hm := mi_217
  obtain ⟨g14, e⟩ := gd_s e
  obtain ⟨g15, e⟩ := gd_s e
  refine Ex_run 2 (i' := 53) (L' := [(2, ((j0 : Nat) : Int)), (0, j1), (0, j2), (0, j3)]) (st' := [(0, 1)]) (h' := (G, ρ, (put m w2 w1 w0))) hm rfl (cjc (gk_b g14) (cjc g15 cjn)) ?_
  cases e
  cases hk
  exact Ex_ret (k := 1) hm rfl ⟨_, rfl, rfl⟩
theorem tf217 {G : Gg} {ρ : Rg} {d : Nat} {v0 : Nat} {v1 : Int} {v2 : Int} {v3 : Int} {m : Sg} {x : Int × Sg} (e : f217 G ρ v0 v1 v2 v3 m = some x) (hd : 2 ≤ d) : Ex d 217 0 [(2, ((v0 : Nat) : Int)), (0, v1), (0, v2), (0, v3)] [] (G, ρ, m) (some (0, x.1), (G, ρ, x.2)) := by
  unfold f217 at e
  have hm := mi_217
  generalize hk : (some (0, x.1), (G, ρ, x.2)) = rr
  replace hk : (Bi G ρ) x rr := hk.symm
  refine Ex_run 1 (i' := 1) (L' := [(2, ((v0 : Nat) : Int)), (0, v1), (0, v2), (0, v3)]) (st' := [(0, v1)]) (h' := (G, ρ, m)) hm rfl cjn ?_
  obtain ⟨q1, h1, e⟩ := bn_s e
  refine Ex_callm (z := 215) (na := 1) (ck := 0) (as := [(0, v1)]) (rest := []) (E0 := [(0, v1)]) (v := some (0, q1)) (h1 := (G, ρ, m)) hm rfl (by omega) ⟨Nat.le_of_ble_eq_true rfl, Nat.le_of_ble_eq_true rfl⟩ (trivial) rfl rfl ml_215 rfl (Nat.le_of_ble_eq_true rfl) (tf215 h1 (by omega)) ?_
  show Ex d 217 2 [(2, ((v0 : Nat) : Int)), (0, v1), (0, v2), (0, v3)] [(0, q1)] (G, ρ, m) rr
  by_cases c2 : q1 = 0
  · replace e := it_p e c2
    refine Ex_if1f (c := 1) (tgt := 5) hm rfl (bf1 c2) ?_
    refine Ex_run 1 (i' := 4) (L' := [(2, ((v0 : Nat) : Int)), (0, v1), (0, v2), (0, v3)]) (st' := [(0, (-2))]) (h' := (G, ρ, m)) hm rfl cjn ?_
    cases e
    cases hk
    exact Ex_ret (k := 1) hm rfl ⟨_, rfl, rfl⟩
  · replace e := it_n e c2
    refine Ex_if1t (c := 1) (tgt := 5) hm rfl (bt1 c2) ?_
    obtain ⟨g3, e⟩ := gd_s e
    obtain ⟨g4, e⟩ := gd_s e
    obtain ⟨g5, e⟩ := gd_s e
    refine Ex_run 4 (i' := 9) (L' := [(2, ((v0 : Nat) : Int)), (0, v1), (0, v2), (0, v3)]) (st' := [(0, (m (ρ v0 49) v1))]) (h' := (G, ρ, m)) hm rfl (cjc (gk_b g3) (cjc (gk_b g4) (cjc g5 cjn))) ?_
    by_cases c6 : (m (ρ v0 49) v1) = 0
    · replace e := it_p e c6
      refine Ex_if1f (c := 1) (tgt := 12) hm rfl (bf1 c6) ?_
      refine Ex_run 1 (i' := 11) (L' := [(2, ((v0 : Nat) : Int)), (0, v1), (0, v2), (0, v3)]) (st' := [(0, (-11))]) (h' := (G, ρ, m)) hm rfl cjn ?_
      cases e
      cases hk
      exact Ex_ret (k := 1) hm rfl ⟨_, rfl, rfl⟩
    · replace e := it_n e c6
      refine Ex_if1t (c := 1) (tgt := 12) hm rfl (bt1 c6) ?_
      obtain ⟨g7, e⟩ := gd_s e
      obtain ⟨g8, e⟩ := gd_s e
      refine Ex_run 10 (i' := 22) (L' := [(2, ((v0 : Nat) : Int)), (0, v1), (0, v2), (0, v3)]) (st' := [(1, (g_sub (m (ρ v0 51) v1) 1)), (1, 0), (1, v2)]) (h' := (G, ρ, m)) hm rfl (cjc (gk_b g3) (cjc (gk_b g7) (cjc g8 cjn))) ?_
      obtain ⟨q9, h9, e⟩ := bn_s e
      refine Ex_callm (z := 143) (na := 3) (ck := 0) (as := [(1, v2), (1, 0), (1, (g_sub (m (ρ v0 51) v1) 1))]) (rest := []) (E0 := [(1, v2), (9, 0), (1, 0), (9, 0), (1, (g_sub (m (ρ v0 51) v1) 1)), (9, 0)]) (v := some (0, q9)) (h1 := (G, ρ, m)) hm rfl (by omega) ⟨Nat.le_of_ble_eq_true rfl, Nat.le_of_ble_eq_true rfl⟩ (trivial) rfl rfl ml_143 rfl (Nat.le_of_ble_eq_true rfl) (tf143 h9 (by omega)) ?_
      show Ex d 217 23 [(2, ((v0 : Nat) : Int)), (0, v1), (0, v2), (0, v3)] [(0, q9)] (G, ρ, m) rr
      by_cases c10 : q9 = 0
      · replace e := it_p e c10
        refine Ex_if1f (c := 1) (tgt := 26) hm rfl (bf1 c10) ?_
        refine Ex_run 1 (i' := 25) (L' := [(2, ((v0 : Nat) : Int)), (0, v1), (0, v2), (0, v3)]) (st' := [(0, (-12))]) (h' := (G, ρ, m)) hm rfl cjn ?_
        cases e
        cases hk
        exact Ex_ret (k := 1) hm rfl ⟨_, rfl, rfl⟩
      · replace e := it_n e c10
        refine Ex_if1t (c := 1) (tgt := 26) hm rfl (bt1 c10) ?_
        obtain ⟨g11, e⟩ := gd_s e
        obtain ⟨g12, e⟩ := gd_s e
        refine Ex_run 11 (i' := 37) (L' := [(2, ((v0 : Nat) : Int)), (0, v1), (0, v2), (0, v3)]) (st' := [(0, (m (ρ v0 50) v1)), (0, (g_add (g_mul 40 v1) v2)), (2, (((ρ v0 52) : Nat) : Int))]) (h' := (G, ρ, m)) hm rfl (cjc (gk_b g3) (cjc (gk_b g3) (cjc (gk_b g11) (cjc g12 cjn)))) ?_
        by_cases c13 : (m (ρ v0 50) v1) = 0
        · replace e := it_p e c13
          refine Ex_if1f (c := 1) (tgt := 41) hm rfl (bf1 c13) ?_
          refine Ex_run 3 (i' := 51) (L' := [(2, ((v0 : Nat) : Int)), (0, v1), (0, v2), (0, v3)]) (st' := [(0, (g_b v3)), (0, (g_add (g_mul 40 v1) v2)), (2, (((ρ v0 52) : Nat) : Int))]) (h' := (G, ρ, m)) hm rfl cjn ?_
          exact tf217_51 e hd rr hk _ _ _ _
        · replace e := it_n e c13
          refine Ex_if1t (c := 1) (tgt := 41) hm rfl (bt1 c13) ?_
          refine Ex_run 5 (i' := 46) (L' := [(2, ((v0 : Nat) : Int)), (0, v1), (0, v2), (0, v3)]) (st' := [(0, 1), (0, (m (ρ v0 50) v1)), (0, (g_add (g_mul 40 v1) v2)), (2, (((ρ v0 52) : Nat) : Int))]) (h' := (G, ρ, m)) hm rfl (cjc (gk_b g3) (cjc (gk_b g11) (cjc g12 cjn))) ?_
          by_cases c16 : (m (ρ v0 50) v1) = 1
          · replace e := it_p e c16
            refine Ex_if2f (c := 1) (tgt := 50) hm rfl (bf1 c16) ?_
            refine Ex_run 3 (i' := 51) (L' := [(2, ((v0 : Nat) : Int)), (0, v1), (0, v2), (0, v3)]) (st' := [(0, (g_s v3)), (0, (g_add (g_mul 40 v1) v2)), (2, (((ρ v0 52) : Nat) : Int))]) (h' := (G, ρ, m)) hm rfl cjn ?_
            exact tf217_51 e hd rr hk _ _ _ _
          · replace e := it_n e c16
            refine Ex_if2t (c := 1) (tgt := 50) hm rfl (bt1 c16) ?_
            refine Ex_run 1 (i' := 51) (L' := [(2, ((v0 : Nat) : Int)), (0, v1), (0, v2), (0, v3)]) (st' := [(0, v3), (0, (g_add (g_mul 40 v1) v2)), (2, (((ρ v0 52) : Nat) : Int))]) (h' := (G, ρ, m)) hm rfl cjn ?_
            exact tf217_51 e hd rr hk _ _ _ _
theorem tf218_b92 {G : Gg} {ρ : Rg} {d : Nat} {v0 : Nat} {v1 : Int} {v2 : Int} {v3 : Int} {v4 : Int} {v5 : Int} {s : Int × Sg} {x : (Int × Sg) ⊕ (Int × Sg)} (e : f218_b92 G ρ v0 v1 v2 v3 v4 v5 s = some x) (hd : 2 ≤ d) (rr : Option MV × Mh) (hk : (DS (e218_92 G ρ d v0 v1 v2 v3 v4 v5) (Bi G ρ)) x rr) : e218_92 G ρ d v0 v1 v2 v3 v4 v5 s rr := by
  unfold f218_b92 at e
  have hm := mi_218
  show Ex d 218 92 [(2, ((v0 : Nat) : Int)), (0, v1), (0, v2), (0, v3), (0, v4), (0, v5), (0, s.1)] [] (G, ρ, s.2) rr
  refine Ex_run 1 (i' := 93) (L' := [(2, ((v0 : Nat) : Int)), (0, v1), (0, v2), (0, v3), (0, v4), (0, v5), (0, s.1)]) (st' := [(0, s.1)]) (h' := (G, ρ, s.2)) hm rfl cjn ?_
  by_cases c26 : s.1 < 0
  · replace e := it_p e c26
    refine Ex_if1t (c := 2) (tgt := 122) hm rfl (bt2 c26) ?_
    obtain ⟨x, e, hx⟩ := xr_s e
    replace hk : (Bi G ρ) x rr := by rw [hx] at hk; exact hk
    refine Ex_run 1 (i' := 123) (L' := [(2, ((v0 : Nat) : Int)), (0, v1), (0, v2), (0, v3), (0, v4), (0, v5), (0, s.1)]) (st' := [(0, v5)]) (h' := (G, ρ, s.2)) hm rfl cjn ?_
    cases e
    cases hk
    exact Ex_ret (k := 1) hm rfl ⟨_, rfl, rfl⟩
  · replace e := it_n e c26
    refine Ex_if1f (c := 2) (tgt := 122) hm rfl (bf2 c26) ?_
    refine Ex_run 2 (i' := 96) (L' := [(2, ((v0 : Nat) : Int)), (0, v1), (0, v2), (0, v3), (0, v4), (0, v5), (0, s.1)]) (st' := [(0, v3), (0, v1)]) (h' := (G, ρ, s.2)) hm rfl cjn ?_
    by_cases c27 : v1 = v3
    · replace e := it_p e c27
      refine Ex_if2f (c := 1) (tgt := 122) hm rfl (bf1 c27) ?_
      refine Ex_run 2 (i' := 99) (L' := [(2, ((v0 : Nat) : Int)), (0, v1), (0, v2), (0, v3), (0, v4), (0, v5), (0, s.1)]) (st' := [(0, v4), (0, v2)]) (h' := (G, ρ, s.2)) hm rfl cjn ?_
      by_cases c28 : v2 < v4
      · replace e := it_p e c28
        refine Ex_if2f (c := 3) (tgt := 122) hm rfl (bf3 c28) ?_
        obtain ⟨g29, e⟩ := gd_s e
        obtain ⟨g30, e⟩ := gd_s e
        obtain ⟨g31, e⟩ := gd_s e
        obtain ⟨g32, e⟩ := gd_s e
        refine Ex_run 22 (i' := 92) (L' := [(2, ((v0 : Nat) : Int)), (0, v1), (0, v2), (0, v3), (0, v4), (0, v5), (0, (w32 (s.1 + (-1))))]) (st' := []) (h' := (G, ρ, (put s.2 (ρ v0 52) (g_add (g_add (g_mul 40 v3) v4) s.1) (s.2 (ρ v0 52) (g_add (g_add (g_mul 40 v1) v2) s.1))))) hm rfl (cjc (gk_b g29) (cjc (gk_b g29) (cjc (gk_b g30) (cjc g31 (cjc (gk_b g30) (cjc g32 cjn)))))) ?_
        cases e
        exact hk
      · replace e := it_n e c28
        refine Ex_if2t (c := 3) (tgt := 122) hm rfl (bt3 c28) ?_
        obtain ⟨x, e, hx⟩ := xr_s e
        replace hk : (Bi G ρ) x rr := by rw [hx] at hk; exact hk
        refine Ex_run 1 (i' := 123) (L' := [(2, ((v0 : Nat) : Int)), (0, v1), (0, v2), (0, v3), (0, v4), (0, v5), (0, s.1)]) (st' := [(0, v5)]) (h' := (G, ρ, s.2)) hm rfl cjn ?_
        cases e
        cases hk
        exact Ex_ret (k := 1) hm rfl ⟨_, rfl, rfl⟩
    · replace e := it_n e c27
      refine Ex_if2t (c := 1) (tgt := 122) hm rfl (bt1 c27) ?_
      obtain ⟨x, e, hx⟩ := xr_s e
      replace hk : (Bi G ρ) x rr := by rw [hx] at hk; exact hk
      refine Ex_run 1 (i' := 123) (L' := [(2, ((v0 : Nat) : Int)), (0, v1), (0, v2), (0, v3), (0, v4), (0, v5), (0, s.1)]) (st' := [(0, v5)]) (h' := (G, ρ, s.2)) hm rfl cjn ?_
      cases e
      cases hk
      exact Ex_ret (k := 1) hm rfl ⟨_, rfl, rfl⟩
theorem tf218_66 {G : Gg} {ρ : Rg} {d : Nat} {v0 : Nat} {v1 : Int} {v2 : Int} {v3 : Int} {v4 : Int} {v5 : Int} {v6 : Int} {m : Sg} {x : (Int × Sg) ⊕ (Int × Sg)} (e : f218_66 G ρ v0 v1 v2 v3 v4 v5 v6 m = some x) (hd : 2 ≤ d) (rr : Option MV × Mh) (hk : (DS (e218_57 G ρ d v0 v1 v2 v3 v4 v5) (Bi G ρ)) x rr) : Ex d 218 66 [(2, ((v0 : Nat) : Int)), (0, v1), (0, v2), (0, v3), (0, v4), (0, v5), (0, v6)] [] (G, ρ, m) rr := by
  unfold f218_66 at e
  have hm := mi_218
  obtain ⟨g33, e⟩ := gd_s e
  obtain ⟨g34, e⟩ := gd_s e
  obtain ⟨g35, e⟩ := gd_s e
  obtain ⟨g36, e⟩ := gd_s e
  refine Ex_run 22 (i' := 57) (L' := [(2, ((v0 : Nat) : Int)), (0, v1), (0, v2), (0, v3), (0, v4), (0, v5), (0, (w32 (v6 + 1)))]) (st' := []) (h' := (G, ρ, (put m (ρ v0 52) (g_add (g_add (g_mul 40 v3) v4) v6) (m (ρ v0 52) (g_add (g_add (g_mul 40 v1) v2) v6))))) hm rfl (cjc (gk_b g33) (cjc (gk_b g33) (cjc (gk_b g34) (cjc g35 (cjc (gk_b g34) (cjc g36 cjn)))))) ?_
  cases e
  exact hk
theorem tf218_b57 {G : Gg} {ρ : Rg} {d : Nat} {v0 : Nat} {v1 : Int} {v2 : Int} {v3 : Int} {v4 : Int} {v5 : Int} {s : Int × Sg} {x : (Int × Sg) ⊕ (Int × Sg)} (e : f218_b57 G ρ v0 v1 v2 v3 v4 v5 s = some x) (hd : 2 ≤ d) (rr : Option MV × Mh) (hk : (DS (e218_57 G ρ d v0 v1 v2 v3 v4 v5) (Bi G ρ)) x rr) : e218_57 G ρ d v0 v1 v2 v3 v4 v5 s rr := by
  unfold f218_b57 at e
  have hm := mi_218
  show Ex d 218 57 [(2, ((v0 : Nat) : Int)), (0, v1), (0, v2), (0, v3), (0, v4), (0, v5), (0, s.1)] [] (G, ρ, s.2) rr
  refine Ex_run 2 (i' := 59) (L' := [(2, ((v0 : Nat) : Int)), (0, v1), (0, v2), (0, v3), (0, v4), (0, v5), (0, s.1)]) (st' := [(0, v5), (0, s.1)]) (h' := (G, ρ, s.2)) hm rfl cjn ?_
  by_cases c23 : s.1 < v5
  · replace e := it_p e c23
    refine Ex_if2f (c := 3) (tgt := 88) hm rfl (bf3 c23) ?_
    refine Ex_run 2 (i' := 62) (L' := [(2, ((v0 : Nat) : Int)), (0, v1), (0, v2), (0, v3), (0, v4), (0, v5), (0, s.1)]) (st' := [(0, v3), (0, v1)]) (h' := (G, ρ, s.2)) hm rfl cjn ?_
    by_cases c24 : v1 = v3
    · replace e := it_p e c24
      refine Ex_if2f (c := 1) (tgt := 66) hm rfl (bf1 c24) ?_
      refine Ex_run 2 (i' := 65) (L' := [(2, ((v0 : Nat) : Int)), (0, v1), (0, v2), (0, v3), (0, v4), (0, v5), (0, s.1)]) (st' := [(0, v4), (0, v2)]) (h' := (G, ρ, s.2)) hm rfl cjn ?_
      by_cases c25 : v2 < v4
      · replace e := it_p e c25
        refine Ex_if2t (c := 2) (tgt := 88) hm rfl (bt2 c25) ?_
        obtain ⟨x, e, hx⟩ := xr_s e
        replace hk : (Bi G ρ) x rr := by rw [hx] at hk; exact hk
        refine Ex_run 4 (i' := 92) (L' := [(2, ((v0 : Nat) : Int)), (0, v1), (0, v2), (0, v3), (0, v4), (0, v5), (0, (g_sub v5 1))]) (st' := []) (h' := (G, ρ, s.2)) hm rfl (cjc (Nat.le_of_ble_eq_true rfl) cjn) ?_
        exact (Ex_lp (A := e218_92 G ρ d v0 v1 v2 v3 v4 v5 ) (B := (Bi G ρ)) (fun s x e rr hk => tf218_b92 e hd rr hk) FU _ _ e rr hk)
      · replace e := it_n e c25
        refine Ex_if2f (c := 2) (tgt := 88) hm rfl (bf2 c25) ?_
        exact tf218_66 e hd rr hk
    · replace e := it_n e c24
      refine Ex_if2t (c := 1) (tgt := 66) hm rfl (bt1 c24) ?_
      exact tf218_66 e hd rr hk
  · replace e := it_n e c23
    refine Ex_if2t (c := 3) (tgt := 88) hm rfl (bt3 c23) ?_
    obtain ⟨x, e, hx⟩ := xr_s e
    replace hk : (Bi G ρ) x rr := by rw [hx] at hk; exact hk
    refine Ex_run 4 (i' := 92) (L' := [(2, ((v0 : Nat) : Int)), (0, v1), (0, v2), (0, v3), (0, v4), (0, v5), (0, (g_sub v5 1))]) (st' := []) (h' := (G, ρ, s.2)) hm rfl (cjc (Nat.le_of_ble_eq_true rfl) cjn) ?_
    exact (Ex_lp (A := e218_92 G ρ d v0 v1 v2 v3 v4 v5 ) (B := (Bi G ρ)) (fun s x e rr hk => tf218_b92 e hd rr hk) FU _ _ e rr hk)
theorem tf218 {G : Gg} {ρ : Rg} {d : Nat} {v0 : Nat} {v1 : Int} {v2 : Int} {v3 : Int} {v4 : Int} {v5 : Int} {m : Sg} {x : Int × Sg} (e : f218 G ρ v0 v1 v2 v3 v4 v5 m = some x) (hd : 2 ≤ d) : Ex d 218 0 [(2, ((v0 : Nat) : Int)), (0, v1), (0, v2), (0, v3), (0, v4), (0, v5), (9, 0)] [] (G, ρ, m) (some (0, x.1), (G, ρ, x.2)) := by
  unfold f218 at e
  have hm := mi_218
  generalize hk : (some (0, x.1), (G, ρ, x.2)) = rr
  replace hk : (Bi G ρ) x rr := hk.symm
  refine Ex_run 1 (i' := 1) (L' := [(2, ((v0 : Nat) : Int)), (0, v1), (0, v2), (0, v3), (0, v4), (0, v5), (9, 0)]) (st' := [(0, v1)]) (h' := (G, ρ, m)) hm rfl cjn ?_
  obtain ⟨q1, h1, e⟩ := bn_s e
  refine Ex_callm (z := 215) (na := 1) (ck := 0) (as := [(0, v1)]) (rest := []) (E0 := [(0, v1)]) (v := some (0, q1)) (h1 := (G, ρ, m)) hm rfl (by omega) ⟨Nat.le_of_ble_eq_true rfl, Nat.le_of_ble_eq_true rfl⟩ (trivial) rfl rfl ml_215 rfl (Nat.le_of_ble_eq_true rfl) (tf215 h1 (by omega)) ?_
  show Ex d 218 2 [(2, ((v0 : Nat) : Int)), (0, v1), (0, v2), (0, v3), (0, v4), (0, v5), (9, 0)] [(0, q1)] (G, ρ, m) rr
  by_cases c2 : q1 = 0
  · replace e := it_p e c2
    refine Ex_if1t (c := 0) (tgt := 6) hm rfl (bt0 c2) ?_
    refine Ex_run 1 (i' := 7) (L' := [(2, ((v0 : Nat) : Int)), (0, v1), (0, v2), (0, v3), (0, v4), (0, v5), (9, 0)]) (st' := [(0, (-2))]) (h' := (G, ρ, m)) hm rfl cjn ?_
    cases e
    cases hk
    exact Ex_ret (k := 1) hm rfl ⟨_, rfl, rfl⟩
  · replace e := it_n e c2
    refine Ex_if1f (c := 0) (tgt := 6) hm rfl (bf0 c2) ?_
    refine Ex_run 1 (i' := 4) (L' := [(2, ((v0 : Nat) : Int)), (0, v1), (0, v2), (0, v3), (0, v4), (0, v5), (9, 0)]) (st' := [(0, v3)]) (h' := (G, ρ, m)) hm rfl cjn ?_
    obtain ⟨q3, h3, e⟩ := bn_s e
    refine Ex_callm (z := 215) (na := 1) (ck := 0) (as := [(0, v3)]) (rest := []) (E0 := [(0, v3)]) (v := some (0, q3)) (h1 := (G, ρ, m)) hm rfl (by omega) ⟨Nat.le_of_ble_eq_true rfl, Nat.le_of_ble_eq_true rfl⟩ (trivial) rfl rfl ml_215 rfl (Nat.le_of_ble_eq_true rfl) (tf215 h3 (by omega)) ?_
    show Ex d 218 5 [(2, ((v0 : Nat) : Int)), (0, v1), (0, v2), (0, v3), (0, v4), (0, v5), (9, 0)] [(0, q3)] (G, ρ, m) rr
    by_cases c4 : q3 = 0
    · replace e := it_p e c4
      refine Ex_if1f (c := 1) (tgt := 8) hm rfl (bf1 c4) ?_
      refine Ex_run 1 (i' := 7) (L' := [(2, ((v0 : Nat) : Int)), (0, v1), (0, v2), (0, v3), (0, v4), (0, v5), (9, 0)]) (st' := [(0, (-2))]) (h' := (G, ρ, m)) hm rfl cjn ?_
      cases e
      cases hk
      exact Ex_ret (k := 1) hm rfl ⟨_, rfl, rfl⟩
    · replace e := it_n e c4
      refine Ex_if1t (c := 1) (tgt := 8) hm rfl (bt1 c4) ?_
      obtain ⟨g5, e⟩ := gd_s e
      obtain ⟨g6, e⟩ := gd_s e
      obtain ⟨g7, e⟩ := gd_s e
      refine Ex_run 4 (i' := 12) (L' := [(2, ((v0 : Nat) : Int)), (0, v1), (0, v2), (0, v3), (0, v4), (0, v5), (9, 0)]) (st' := [(0, (m (ρ v0 49) v1))]) (h' := (G, ρ, m)) hm rfl (cjc (gk_b g5) (cjc (gk_b g6) (cjc g7 cjn))) ?_
      by_cases c8 : (m (ρ v0 49) v1) = 0
      · replace e := it_p e c8
        refine Ex_if1t (c := 0) (tgt := 18) hm rfl (bt0 c8) ?_
        refine Ex_run 1 (i' := 19) (L' := [(2, ((v0 : Nat) : Int)), (0, v1), (0, v2), (0, v3), (0, v4), (0, v5), (9, 0)]) (st' := [(0, (-11))]) (h' := (G, ρ, m)) hm rfl cjn ?_
        cases e
        cases hk
        exact Ex_ret (k := 1) hm rfl ⟨_, rfl, rfl⟩
      · replace e := it_n e c8
        refine Ex_if1f (c := 0) (tgt := 18) hm rfl (bf0 c8) ?_
        obtain ⟨g9, e⟩ := gd_s e
        refine Ex_run 4 (i' := 17) (L' := [(2, ((v0 : Nat) : Int)), (0, v1), (0, v2), (0, v3), (0, v4), (0, v5), (9, 0)]) (st' := [(0, (m (ρ v0 49) v3))]) (h' := (G, ρ, m)) hm rfl (cjc (gk_b g5) (cjc (gk_b g6) (cjc g9 cjn))) ?_
        by_cases c10 : (m (ρ v0 49) v3) = 0
        · replace e := it_p e c10
          refine Ex_if1f (c := 1) (tgt := 20) hm rfl (bf1 c10) ?_
          refine Ex_run 1 (i' := 19) (L' := [(2, ((v0 : Nat) : Int)), (0, v1), (0, v2), (0, v3), (0, v4), (0, v5), (9, 0)]) (st' := [(0, (-11))]) (h' := (G, ρ, m)) hm rfl cjn ?_
          cases e
          cases hk
          exact Ex_ret (k := 1) hm rfl ⟨_, rfl, rfl⟩
        · replace e := it_n e c10
          refine Ex_if1t (c := 1) (tgt := 20) hm rfl (bt1 c10) ?_
          obtain ⟨g11, e⟩ := gd_s e
          obtain ⟨g12, e⟩ := gd_s e
          obtain ⟨g13, e⟩ := gd_s e
          refine Ex_run 8 (i' := 28) (L' := [(2, ((v0 : Nat) : Int)), (0, v1), (0, v2), (0, v3), (0, v4), (0, v5), (9, 0)]) (st' := [(0, (m (ρ v0 50) v3)), (0, (m (ρ v0 50) v1))]) (h' := (G, ρ, m)) hm rfl (cjc (gk_b g5) (cjc (gk_b g11) (cjc g12 (cjc (gk_b g5) (cjc (gk_b g11) (cjc g13 cjn)))))) ?_
          by_cases c14 : (m (ρ v0 50) v1) = (m (ρ v0 50) v3)
          · replace e := it_p e c14
            refine Ex_if2t (c := 0) (tgt := 31) hm rfl (bt0 c14) ?_
            refine Ex_run 1 (i' := 32) (L' := [(2, ((v0 : Nat) : Int)), (0, v1), (0, v2), (0, v3), (0, v4), (0, v5), (9, 0)]) (st' := [(0, v5)]) (h' := (G, ρ, m)) hm rfl cjn ?_
            by_cases c15 : v5 < 0
            · replace e := it_p e c15
              refine Ex_if1t (c := 2) (tgt := 53) hm rfl (bt2 c15) ?_
              refine Ex_run 1 (i' := 54) (L' := [(2, ((v0 : Nat) : Int)), (0, v1), (0, v2), (0, v3), (0, v4), (0, v5), (9, 0)]) (st' := [(0, (-12))]) (h' := (G, ρ, m)) hm rfl cjn ?_
              cases e
              cases hk
              exact Ex_ret (k := 1) hm rfl ⟨_, rfl, rfl⟩
            · replace e := it_n e c15
              refine Ex_if1f (c := 2) (tgt := 53) hm rfl (bf2 c15) ?_
              refine Ex_run 1 (i' := 34) (L' := [(2, ((v0 : Nat) : Int)), (0, v1), (0, v2), (0, v3), (0, v4), (0, v5), (9, 0)]) (st' := [(0, v2)]) (h' := (G, ρ, m)) hm rfl cjn ?_
              by_cases c16 : v2 < 0
              · replace e := it_p e c16
                refine Ex_if1t (c := 2) (tgt := 53) hm rfl (bt2 c16) ?_
                refine Ex_run 1 (i' := 54) (L' := [(2, ((v0 : Nat) : Int)), (0, v1), (0, v2), (0, v3), (0, v4), (0, v5), (9, 0)]) (st' := [(0, (-12))]) (h' := (G, ρ, m)) hm rfl cjn ?_
                cases e
                cases hk
                exact Ex_ret (k := 1) hm rfl ⟨_, rfl, rfl⟩
              · replace e := it_n e c16
                refine Ex_if1f (c := 2) (tgt := 53) hm rfl (bf2 c16) ?_
                refine Ex_run 1 (i' := 36) (L' := [(2, ((v0 : Nat) : Int)), (0, v1), (0, v2), (0, v3), (0, v4), (0, v5), (9, 0)]) (st' := [(0, v4)]) (h' := (G, ρ, m)) hm rfl cjn ?_
                by_cases c17 : v4 < 0
                · replace e := it_p e c17
                  refine Ex_if1t (c := 2) (tgt := 53) hm rfl (bt2 c17) ?_
                  refine Ex_run 1 (i' := 54) (L' := [(2, ((v0 : Nat) : Int)), (0, v1), (0, v2), (0, v3), (0, v4), (0, v5), (9, 0)]) (st' := [(0, (-12))]) (h' := (G, ρ, m)) hm rfl cjn ?_
                  cases e
                  cases hk
                  exact Ex_ret (k := 1) hm rfl ⟨_, rfl, rfl⟩
                · replace e := it_n e c17
                  refine Ex_if1f (c := 2) (tgt := 53) hm rfl (bf2 c17) ?_
                  obtain ⟨g18, e⟩ := gd_s e
                  obtain ⟨g19, e⟩ := gd_s e
                  refine Ex_run 7 (i' := 44) (L' := [(2, ((v0 : Nat) : Int)), (0, v1), (0, v2), (0, v3), (0, v4), (0, v5), (9, 0)]) (st' := [(0, (g_sub (m (ρ v0 51) v1) v5)), (0, v2)]) (h' := (G, ρ, m)) hm rfl (cjc (gk_b g5) (cjc (gk_b g18) (cjc g19 cjn))) ?_
                  by_cases c20 : (g_sub (m (ρ v0 51) v1) v5) < v2
                  · replace e := it_p e c20
                    refine Ex_if2t (c := 4) (tgt := 53) hm rfl (bt4 c20) ?_
                    refine Ex_run 1 (i' := 54) (L' := [(2, ((v0 : Nat) : Int)), (0, v1), (0, v2), (0, v3), (0, v4), (0, v5), (9, 0)]) (st' := [(0, (-12))]) (h' := (G, ρ, m)) hm rfl cjn ?_
                    cases e
                    cases hk
                    exact Ex_ret (k := 1) hm rfl ⟨_, rfl, rfl⟩
                  · replace e := it_n e c20
                    refine Ex_if2f (c := 4) (tgt := 53) hm rfl (bf4 c20) ?_
                    obtain ⟨g21, e⟩ := gd_s e
                    refine Ex_run 7 (i' := 52) (L' := [(2, ((v0 : Nat) : Int)), (0, v1), (0, v2), (0, v3), (0, v4), (0, v5), (9, 0)]) (st' := [(0, (g_sub (m (ρ v0 51) v3) v5)), (0, v4)]) (h' := (G, ρ, m)) hm rfl (cjc (gk_b g5) (cjc (gk_b g18) (cjc g21 cjn))) ?_
                    by_cases c22 : (g_sub (m (ρ v0 51) v3) v5) < v4
                    · replace e := it_p e c22
                      refine Ex_if2f (c := 5) (tgt := 55) hm rfl (bf5 c22) ?_
                      refine Ex_run 1 (i' := 54) (L' := [(2, ((v0 : Nat) : Int)), (0, v1), (0, v2), (0, v3), (0, v4), (0, v5), (9, 0)]) (st' := [(0, (-12))]) (h' := (G, ρ, m)) hm rfl cjn ?_
                      cases e
                      cases hk
                      exact Ex_ret (k := 1) hm rfl ⟨_, rfl, rfl⟩
                    · replace e := it_n e c22
                      refine Ex_if2t (c := 5) (tgt := 55) hm rfl (bt5 c22) ?_
                      refine Ex_run 2 (i' := 57) (L' := [(2, ((v0 : Nat) : Int)), (0, v1), (0, v2), (0, v3), (0, v4), (0, v5), (0, 0)]) (st' := []) (h' := (G, ρ, m)) hm rfl (cjc (Nat.le_of_ble_eq_true rfl) cjn) ?_
                      exact (Ex_lp (A := e218_57 G ρ d v0 v1 v2 v3 v4 v5 ) (B := (Bi G ρ)) (fun s x e rr hk => tf218_b57 e hd rr hk) FU _ _ e rr hk)
          · replace e := it_n e c14
            refine Ex_if2f (c := 0) (tgt := 31) hm rfl (bf0 c14) ?_
            refine Ex_run 1 (i' := 30) (L' := [(2, ((v0 : Nat) : Int)), (0, v1), (0, v2), (0, v3), (0, v4), (0, v5), (9, 0)]) (st' := [(0, (-13))]) (h' := (G, ρ, m)) hm rfl cjn ?_
            cases e
            cases hk
            exact Ex_ret (k := 1) hm rfl ⟨_, rfl, rfl⟩
theorem tf219_b47 {G : Gg} {ρ : Rg} {d : Nat} {v0 : Nat} {v1 : Int} {v3 : Int} {v4 : Int} {s : Int × Int × Sg} {x : (Int × Int × Sg) ⊕ (Int × Sg)} (e : f219_b47 G ρ v0 v1 v3 v4 s = some x) (hd : 3 ≤ d) (rr : Option MV × Mh) (hk : (DS (e219_47 G ρ d v0 v1 v3 v4) (Bi G ρ)) x rr) : e219_47 G ρ d v0 v1 v3 v4 s rr := by
  unfold f219_b47 at e
  have hm := mi_219
  show ∀ (j2 : Int) (j7 : MV), Ex d 219 47 [(2, ((v0 : Nat) : Int)), (0, v1), (0, j2), (0, v3), (0, v4), (0, s.1), (0, s.2.1), j7] [] (G, ρ, s.2.2) rr
  intro j2 j7
  refine Ex_run 2 (i' := 49) (L' := [(2, ((v0 : Nat) : Int)), (0, v1), (0, j2), (0, v3), (0, v4), (0, s.1), (0, s.2.1), j7]) (st' := [(0, v4), (0, s.2.1)]) (h' := (G, ρ, s.2.2)) hm rfl cjn ?_
  by_cases c17 : s.2.1 < v4
  · replace e := it_p e c17
    refine Ex_if2f (c := 3) (tgt := 91) hm rfl (bf3 c17) ?_
    obtain ⟨g18, e⟩ := gd_s e
    obtain ⟨g19, e⟩ := gd_s e
    obtain ⟨g20, e⟩ := gd_s e
    refine Ex_run 11 (i' := 61) (L' := [(2, ((v0 : Nat) : Int)), (0, v1), (0, j2), (0, v3), (0, v4), (0, s.1), (0, s.2.1), j7]) (st' := [(0, (g_sub (g_sub (s.2.2 (ρ v0 51) v1) (g_mul 2 s.2.1)) 2)), (0, v3)]) (h' := (G, ρ, s.2.2)) hm rfl (cjc (gk_b g18) (cjc (gk_b g19) (cjc g20 cjn))) ?_
    by_cases c21 : (g_sub (g_sub (s.2.2 (ρ v0 51) v1) (g_mul 2 s.2.1)) 2) < v3
    · replace e := it_p e c21
      refine Ex_if2f (c := 5) (tgt := 64) hm rfl (bf5 c21) ?_
      obtain ⟨x, e, hx⟩ := xr_s e
      replace hk : (Bi G ρ) x rr := by rw [hx] at hk; exact hk
      refine Ex_run 1 (i' := 63) (L' := [(2, ((v0 : Nat) : Int)), (0, v1), (0, j2), (0, v3), (0, v4), (0, s.1), (0, s.2.1), j7]) (st' := [(0, (-12))]) (h' := (G, ρ, s.2.2)) hm rfl cjn ?_
      cases e
      cases hk
      exact Ex_ret (k := 1) hm rfl ⟨_, rfl, rfl⟩
    · replace e := it_n e c21
      refine Ex_if2t (c := 5) (tgt := 64) hm rfl (bt5 c21) ?_
      obtain ⟨g22, e⟩ := gd_s e
      obtain ⟨g23, e⟩ := gd_s e
      obtain ⟨g24, e⟩ := gd_s e
      refine Ex_run 22 (i' := 86) (L' := [(2, ((v0 : Nat) : Int)), (0, v1), (0, j2), (0, v3), (0, v4), (0, s.1), (0, s.2.1), (0, (g_add (g_add (g_mul 40 v1) v3) (g_mul 2 s.2.1)))]) (st' := [(0, (s.2.2 (ρ v0 52) (g_add (g_add (g_add (g_mul 40 v1) v3) (g_mul 2 s.2.1)) 1))), (0, (s.2.2 (ρ v0 52) (g_add (g_add (g_mul 40 v1) v3) (g_mul 2 s.2.1)))), (0, s.2.1), (2, ((v0 : Nat) : Int))]) (h' := (G, ρ, s.2.2)) hm rfl (cjc (Nat.le_of_ble_eq_true rfl) (cjc (gk_b g18) (cjc (gk_b g22) (cjc g23 (cjc (gk_b g18) (cjc (gk_b g22) (cjc g24 cjn))))))) ?_
      obtain ⟨q25, h25, e⟩ := bn_s e
      refine Ex_callm (z := 147) (na := 4) (ck := 15) (as := [(2, ((v0 : Nat) : Int)), (0, s.2.1), (0, (s.2.2 (ρ v0 52) (g_add (g_add (g_mul 40 v1) v3) (g_mul 2 s.2.1)))), (0, (s.2.2 (ρ v0 52) (g_add (g_add (g_add (g_mul 40 v1) v3) (g_mul 2 s.2.1)) 1)))]) (rest := []) (E0 := [(2, ((v0 : Nat) : Int)), (0, s.2.1), (0, (s.2.2 (ρ v0 52) (g_add (g_add (g_mul 40 v1) v3) (g_mul 2 s.2.1)))), (0, (s.2.2 (ρ v0 52) (g_add (g_add (g_add (g_mul 40 v1) v3) (g_mul 2 s.2.1)) 1))), (9, 0)]) (v := some (0, q25.1)) (h1 := (G, ρ, q25.2)) hm rfl (by omega) ⟨Nat.le_of_ble_eq_true rfl, Nat.le_of_ble_eq_true rfl⟩ (rc2 rfl g18) rfl rfl ml_147 rfl (Nat.le_of_ble_eq_true rfl) (tf147 h25 (by omega)) ?_
      show Ex d 219 87 [(2, ((v0 : Nat) : Int)), (0, v1), (0, j2), (0, v3), (0, v4), (0, s.1), (0, s.2.1), (0, (g_add (g_add (g_mul 40 v1) v3) (g_mul 2 s.2.1)))] [(0, q25.1)] (G, ρ, q25.2) rr
      by_cases c26 : q25.1 < 0
      · replace e := it_p e c26
        refine Ex_if1t (c := 2) (tgt := 89) hm rfl (bt2 c26) ?_
        refine Ex_run 2 (i' := 47) (L' := [(2, ((v0 : Nat) : Int)), (0, v1), (0, j2), (0, v3), (0, v4), (0, s.1), (0, (w32 (s.2.1 + 1))), (0, (g_add (g_add (g_mul 40 v1) v3) (g_mul 2 s.2.1)))]) (st' := []) (h' := (G, ρ, q25.2)) hm rfl cjn ?_
        cases e
        exact hk _ _
      · replace e := it_n e c26
        refine Ex_if1f (c := 2) (tgt := 89) hm rfl (bf2 c26) ?_
        refine Ex_run 3 (i' := 47) (L' := [(2, ((v0 : Nat) : Int)), (0, v1), (0, j2), (0, v3), (0, v4), (0, (w32 (s.1 + 1))), (0, (w32 (s.2.1 + 1))), (0, (g_add (g_add (g_mul 40 v1) v3) (g_mul 2 s.2.1)))]) (st' := []) (h' := (G, ρ, q25.2)) hm rfl cjn ?_
        cases e
        exact hk _ _
  · replace e := it_n e c17
    refine Ex_if2t (c := 3) (tgt := 91) hm rfl (bt3 c17) ?_
    obtain ⟨x, e, hx⟩ := xr_s e
    replace hk : (Bi G ρ) x rr := by rw [hx] at hk; exact hk
    refine Ex_run 1 (i' := 92) (L' := [(2, ((v0 : Nat) : Int)), (0, v1), (0, j2), (0, v3), (0, v4), (0, s.1), (0, s.2.1), j7]) (st' := [(0, s.1)]) (h' := (G, ρ, s.2.2)) hm rfl cjn ?_
    cases e
    cases hk
    exact Ex_ret (k := 1) hm rfl ⟨_, rfl, rfl⟩
theorem tf219_30 {G : Gg} {ρ : Rg} {d : Nat} {v0 : Nat} {v1 : Int} {v3 : Int} {v4 : Int} {m : Sg} {x : Int × Sg} (e : f219_30 G ρ v0 v1 v3 v4 m = some x) (hd : 3 ≤ d) (rr : Option MV × Mh) (hk : (Bi G ρ) x rr) (j2 : Int) : Ex d 219 30 [(2, ((v0 : Nat) : Int)), (0, v1), (0, j2), (0, v3), (0, v4), (9, 0), (9, 0), (9, 0)] [] (G, ρ, m) rr := by
  unfold f219_30 at e
  have hm := mi_219
  obtain ⟨g11, e⟩ := gd_s e
  obtain ⟨g12, e⟩ := gd_s e
  obtain ⟨g13, e⟩ := gd_s e
  refine Ex_run 4 (i' := 34) (L' := [(2, ((v0 : Nat) : Int)), (0, v1), (0, j2), (0, v3), (0, v4), (9, 0), (9, 0), (9, 0)]) (st' := [(0, (m (ρ v0 49) v1))]) (h' := (G, ρ, m)) hm rfl (cjc (gk_b g11) (cjc (gk_b g12) (cjc g13 cjn))) ?_
  by_cases c14 : (m (ρ v0 49) v1) = 0
  · replace e := it_p e c14
    refine Ex_if1f (c := 1) (tgt := 37) hm rfl (bf1 c14) ?_
    refine Ex_run 1 (i' := 36) (L' := [(2, ((v0 : Nat) : Int)), (0, v1), (0, j2), (0, v3), (0, v4), (9, 0), (9, 0), (9, 0)]) (st' := [(0, (-11))]) (h' := (G, ρ, m)) hm rfl cjn ?_
    cases e
    cases hk
    exact Ex_ret (k := 1) hm rfl ⟨_, rfl, rfl⟩
  · replace e := it_n e c14
    refine Ex_if1t (c := 1) (tgt := 37) hm rfl (bt1 c14) ?_
    refine Ex_run 1 (i' := 38) (L' := [(2, ((v0 : Nat) : Int)), (0, v1), (0, j2), (0, v3), (0, v4), (9, 0), (9, 0), (9, 0)]) (st' := [(0, v4)]) (h' := (G, ρ, m)) hm rfl cjn ?_
    by_cases c15 : 0 < v4
    · replace e := it_p e c15
      refine Ex_if1f (c := 5) (tgt := 43) hm rfl (bf5 c15) ?_
      refine Ex_run 1 (i' := 40) (L' := [(2, ((v0 : Nat) : Int)), (0, v1), (0, j2), (0, v3), (0, v4), (9, 0), (9, 0), (9, 0)]) (st' := [(0, v3)]) (h' := (G, ρ, m)) hm rfl cjn ?_
      by_cases c16 : v3 < 0
      · replace e := it_p e c16
        refine Ex_if1f (c := 3) (tgt := 43) hm rfl (bf3 c16) ?_
        refine Ex_run 1 (i' := 42) (L' := [(2, ((v0 : Nat) : Int)), (0, v1), (0, j2), (0, v3), (0, v4), (9, 0), (9, 0), (9, 0)]) (st' := [(0, (-12))]) (h' := (G, ρ, m)) hm rfl cjn ?_
        cases e
        cases hk
        exact Ex_ret (k := 1) hm rfl ⟨_, rfl, rfl⟩
      · replace e := it_n e c16
        refine Ex_if1t (c := 3) (tgt := 43) hm rfl (bt3 c16) ?_
        refine Ex_run 4 (i' := 47) (L' := [(2, ((v0 : Nat) : Int)), (0, v1), (0, j2), (0, v3), (0, v4), (0, 0), (0, 0), (9, 0)]) (st' := []) (h' := (G, ρ, m)) hm rfl (cjc (Nat.le_of_ble_eq_true rfl) (cjc (Nat.le_of_ble_eq_true rfl) cjn)) ?_
        exact (Ex_lp (A := e219_47 G ρ d v0 v1 v3 v4 ) (B := (Bi G ρ)) (fun s x e rr hk => tf219_b47 e hd rr hk) FU _ _ e rr hk) _ _
    · replace e := it_n e c15
      refine Ex_if1t (c := 5) (tgt := 43) hm rfl (bt5 c15) ?_
      refine Ex_run 4 (i' := 47) (L' := [(2, ((v0 : Nat) : Int)), (0, v1), (0, j2), (0, v3), (0, v4), (0, 0), (0, 0), (9, 0)]) (st' := []) (h' := (G, ρ, m)) hm rfl (cjc (Nat.le_of_ble_eq_true rfl) (cjc (Nat.le_of_ble_eq_true rfl) cjn)) ?_
      exact (Ex_lp (A := e219_47 G ρ d v0 v1 v3 v4 ) (B := (Bi G ρ)) (fun s x e rr hk => tf219_b47 e hd rr hk) FU _ _ e rr hk) _ _
theorem tf219 {G : Gg} {ρ : Rg} {d : Nat} {v0 : Nat} {v1 : Int} {v2 : Int} {v3 : Int} {v4 : Int} {m : Sg} {x : Int × Sg} (e : f219 G ρ v0 v1 v2 v3 v4 m = some x) (hd : 3 ≤ d) : Ex d 219 0 [(2, ((v0 : Nat) : Int)), (0, v1), (0, v2), (0, v3), (0, v4), (9, 0), (9, 0), (9, 0)] [] (G, ρ, m) (some (0, x.1), (G, ρ, x.2)) := by
  unfold f219 at e
  have hm := mi_219
  generalize hk : (some (0, x.1), (G, ρ, x.2)) = rr
  replace hk : (Bi G ρ) x rr := hk.symm
  refine Ex_run 1 (i' := 1) (L' := [(2, ((v0 : Nat) : Int)), (0, v1), (0, v2), (0, v3), (0, v4), (9, 0), (9, 0), (9, 0)]) (st' := [(0, v1)]) (h' := (G, ρ, m)) hm rfl cjn ?_
  obtain ⟨q1, h1, e⟩ := bn_s e
  refine Ex_callm (z := 215) (na := 1) (ck := 0) (as := [(0, v1)]) (rest := []) (E0 := [(0, v1)]) (v := some (0, q1)) (h1 := (G, ρ, m)) hm rfl (by omega) ⟨Nat.le_of_ble_eq_true rfl, Nat.le_of_ble_eq_true rfl⟩ (trivial) rfl rfl ml_215 rfl (Nat.le_of_ble_eq_true rfl) (tf215 h1 (by omega)) ?_
  show Ex d 219 2 [(2, ((v0 : Nat) : Int)), (0, v1), (0, v2), (0, v3), (0, v4), (9, 0), (9, 0), (9, 0)] [(0, q1)] (G, ρ, m) rr
  by_cases c2 : q1 = 0
  · replace e := it_p e c2
    refine Ex_if1t (c := 0) (tgt := 15) hm rfl (bt0 c2) ?_
    refine Ex_run 1 (i' := 16) (L' := [(2, ((v0 : Nat) : Int)), (0, v1), (0, v2), (0, v3), (0, v4), (9, 0), (9, 0), (9, 0)]) (st' := [(0, (-2))]) (h' := (G, ρ, m)) hm rfl cjn ?_
    cases e
    cases hk
    exact Ex_ret (k := 1) hm rfl ⟨_, rfl, rfl⟩
  · replace e := it_n e c2
    refine Ex_if1f (c := 0) (tgt := 15) hm rfl (bf0 c2) ?_
    refine Ex_run 4 (i' := 7) (L' := [(2, ((v0 : Nat) : Int)), (0, v1), (0, v2), (0, v3), (0, v4), (9, 0), (9, 0), (9, 0)]) (st' := [(1, 2), (1, 0), (1, v2)]) (h' := (G, ρ, m)) hm rfl cjn ?_
    obtain ⟨q3, h3, e⟩ := bn_s e
    refine Ex_callm (z := 143) (na := 3) (ck := 0) (as := [(1, v2), (1, 0), (1, 2)]) (rest := []) (E0 := [(1, v2), (9, 0), (1, 0), (9, 0), (1, 2), (9, 0)]) (v := some (0, q3)) (h1 := (G, ρ, m)) hm rfl (by omega) ⟨Nat.le_of_ble_eq_true rfl, Nat.le_of_ble_eq_true rfl⟩ (trivial) rfl rfl ml_143 rfl (Nat.le_of_ble_eq_true rfl) (tf143 h3 (by omega)) ?_
    show Ex d 219 8 [(2, ((v0 : Nat) : Int)), (0, v1), (0, v2), (0, v3), (0, v4), (9, 0), (9, 0), (9, 0)] [(0, q3)] (G, ρ, m) rr
    by_cases c4 : q3 = 0
    · replace e := it_p e c4
      refine Ex_if1t (c := 0) (tgt := 15) hm rfl (bt0 c4) ?_
      refine Ex_run 1 (i' := 16) (L' := [(2, ((v0 : Nat) : Int)), (0, v1), (0, v2), (0, v3), (0, v4), (9, 0), (9, 0), (9, 0)]) (st' := [(0, (-2))]) (h' := (G, ρ, m)) hm rfl cjn ?_
      cases e
      cases hk
      exact Ex_ret (k := 1) hm rfl ⟨_, rfl, rfl⟩
    · replace e := it_n e c4
      refine Ex_if1f (c := 0) (tgt := 15) hm rfl (bf0 c4) ?_
      refine Ex_run 4 (i' := 13) (L' := [(2, ((v0 : Nat) : Int)), (0, v1), (0, v2), (0, v3), (0, v4), (9, 0), (9, 0), (9, 0)]) (st' := [(1, 10), (1, 0), (1, v4)]) (h' := (G, ρ, m)) hm rfl cjn ?_
      obtain ⟨q5, h5, e⟩ := bn_s e
      refine Ex_callm (z := 143) (na := 3) (ck := 0) (as := [(1, v4), (1, 0), (1, 10)]) (rest := []) (E0 := [(1, v4), (9, 0), (1, 0), (9, 0), (1, 10), (9, 0)]) (v := some (0, q5)) (h1 := (G, ρ, m)) hm rfl (by omega) ⟨Nat.le_of_ble_eq_true rfl, Nat.le_of_ble_eq_true rfl⟩ (trivial) rfl rfl ml_143 rfl (Nat.le_of_ble_eq_true rfl) (tf143 h5 (by omega)) ?_
      show Ex d 219 14 [(2, ((v0 : Nat) : Int)), (0, v1), (0, v2), (0, v3), (0, v4), (9, 0), (9, 0), (9, 0)] [(0, q5)] (G, ρ, m) rr
      by_cases c6 : q5 = 0
      · replace e := it_p e c6
        refine Ex_if1f (c := 1) (tgt := 17) hm rfl (bf1 c6) ?_
        refine Ex_run 1 (i' := 16) (L' := [(2, ((v0 : Nat) : Int)), (0, v1), (0, v2), (0, v3), (0, v4), (9, 0), (9, 0), (9, 0)]) (st' := [(0, (-2))]) (h' := (G, ρ, m)) hm rfl cjn ?_
        cases e
        cases hk
        exact Ex_ret (k := 1) hm rfl ⟨_, rfl, rfl⟩
      · replace e := it_n e c6
        refine Ex_if1t (c := 1) (tgt := 17) hm rfl (bt1 c6) ?_
        obtain ⟨g7, e⟩ := gd_s e
        obtain ⟨g8, e⟩ := gd_s e
        obtain ⟨g9, e⟩ := gd_s e
        refine Ex_run 4 (i' := 21) (L' := [(2, ((v0 : Nat) : Int)), (0, v1), (0, v2), (0, v3), (0, v4), (9, 0), (9, 0), (9, 0)]) (st' := [(0, (m (ρ v0 49) v1))]) (h' := (G, ρ, m)) hm rfl (cjc (gk_b g7) (cjc (gk_b g8) (cjc g9 cjn))) ?_
        by_cases c10 : (m (ρ v0 49) v1) = 0
        · replace e := it_p e c10
          refine Ex_if1t (c := 0) (tgt := 30) hm rfl (bt0 c10) ?_
          exact tf219_30 e hd rr hk _
        · replace e := it_n e c10
          refine Ex_if1f (c := 0) (tgt := 30) hm rfl (bf0 c10) ?_
          obtain ⟨g27, e⟩ := gd_s e
          obtain ⟨g28, e⟩ := gd_s e
          refine Ex_run 5 (i' := 27) (L' := [(2, ((v0 : Nat) : Int)), (0, v1), (0, v2), (0, v3), (0, v4), (9, 0), (9, 0), (9, 0)]) (st' := [(0, v2), (0, (m (ρ v0 50) v1))]) (h' := (G, ρ, m)) hm rfl (cjc (gk_b g7) (cjc (gk_b g27) (cjc g28 cjn))) ?_
          by_cases c29 : (m (ρ v0 50) v1) = v2
          · replace e := it_p e c29
            refine Ex_if2t (c := 0) (tgt := 30) hm rfl (bt0 c29) ?_
            exact tf219_30 e hd rr hk _
          · replace e := it_n e c29
            refine Ex_if2f (c := 0) (tgt := 30) hm rfl (bf0 c29) ?_
            refine Ex_run 1 (i' := 29) (L' := [(2, ((v0 : Nat) : Int)), (0, v1), (0, v2), (0, v3), (0, v4), (9, 0), (9, 0), (9, 0)]) (st' := [(0, (-13))]) (h' := (G, ρ, m)) hm rfl cjn ?_
            cases e
            cases hk
            exact Ex_ret (k := 1) hm rfl ⟨_, rfl, rfl⟩
theorem tf220 {G : Gg} {ρ : Rg} {d : Nat} {v0 : Int} {m : Sg} {x : Int} (e : f220 G ρ v0 m = some x) (hd : 0 ≤ d) : Ex d 220 0 [(0, v0)] [] (G, ρ, m) (some (0, x), (G, ρ, m)) := by
  unfold f220 at e
  have hm := mi_220
  generalize hk : (some (0, x), (G, ρ, m)) = rr
  replace hk : (Bpi G ρ m) x rr := hk.symm
  refine Ex_run 1 (i' := 1) (L' := [(0, v0)]) (st' := [(0, v0)]) (h' := (G, ρ, m)) hm rfl cjn ?_
  by_cases c1 : v0 = 0
  · replace e := it_p e c1
    refine Ex_if1f (c := 1) (tgt := 4) hm rfl (bf1 c1) ?_
    refine Ex_run 2 (i' := 15) (L' := [(0, v0)]) (st' := [(0, (-1))]) (h' := (G, ρ, m)) hm rfl cjn ?_
    cases e
    cases hk
    exact Ex_ret (k := 1) hm rfl ⟨_, rfl, rfl⟩
  · replace e := it_n e c1
    refine Ex_if1t (c := 1) (tgt := 4) hm rfl (bt1 c1) ?_
    refine Ex_run 2 (i' := 6) (L' := [(0, v0)]) (st' := [(0, 4), (0, v0)]) (h' := (G, ρ, m)) hm rfl cjn ?_
    by_cases c2 : v0 = 4
    · replace e := it_p e c2
      refine Ex_if2f (c := 1) (tgt := 9) hm rfl (bf1 c2) ?_
      refine Ex_run 2 (i' := 15) (L' := [(0, v0)]) (st' := [(0, 1)]) (h' := (G, ρ, m)) hm rfl cjn ?_
      cases e
      cases hk
      exact Ex_ret (k := 1) hm rfl ⟨_, rfl, rfl⟩
    · replace e := it_n e c2
      refine Ex_if2t (c := 1) (tgt := 9) hm rfl (bt1 c2) ?_
      refine Ex_run 2 (i' := 11) (L' := [(0, v0)]) (st' := [(0, 5), (0, v0)]) (h' := (G, ρ, m)) hm rfl cjn ?_
      by_cases c3 : v0 = 5
      · replace e := it_p e c3
        refine Ex_if2f (c := 1) (tgt := 14) hm rfl (bf1 c3) ?_
        refine Ex_run 2 (i' := 15) (L' := [(0, v0)]) (st' := [(0, 3)]) (h' := (G, ρ, m)) hm rfl cjn ?_
        cases e
        cases hk
        exact Ex_ret (k := 1) hm rfl ⟨_, rfl, rfl⟩
      · replace e := it_n e c3
        refine Ex_if2t (c := 1) (tgt := 14) hm rfl (bt1 c3) ?_
        refine Ex_run 1 (i' := 15) (L' := [(0, v0)]) (st' := [(0, 0)]) (h' := (G, ρ, m)) hm rfl cjn ?_
        cases e
        cases hk
        exact Ex_ret (k := 1) hm rfl ⟨_, rfl, rfl⟩
theorem tf221_31 {G : Gg} {ρ : Rg} {d : Nat} {v0 : Nat} {v1 : Int} {v2 : Int} {v3 : Int} {m : Sg} {x : Int} (e : f221_31 G ρ v0 v1 v2 v3 m = some x) (hd : 2 ≤ d) (rr : Option MV × Mh) (hk : (Bpi G ρ m) x rr) : Ex d 221 31 [(2, ((v0 : Nat) : Int)), (0, v1), (0, v2), (0, v3)] [] (G, ρ, m) rr := by
  unfold f221_31 at e
  have hm := mi_221
  refine Ex_run 2 (i' := 33) (L' := [(2, ((v0 : Nat) : Int)), (0, v1), (0, v2), (0, v3)]) (st' := [(0, v2), (0, v3)]) (h' := (G, ρ, m)) hm rfl cjn ?_
  by_cases c9 : v3 = v2
  · replace e := it_p e c9
    refine Ex_if2f (c := 1) (tgt := 41) hm rfl (bf1 c9) ?_
    obtain ⟨g10, e⟩ := gd_s e
    obtain ⟨g11, e⟩ := gd_s e
    obtain ⟨g12, e⟩ := gd_s e
    refine Ex_run 7 (i' := 42) (L' := [(2, ((v0 : Nat) : Int)), (0, v1), (0, v2), (0, v3)]) (st' := [(0, (m (ρ v0 3) (g_add 120 v1)))]) (h' := (G, ρ, m)) hm rfl (cjc (gk_b g10) (cjc (gk_b g11) (cjc g12 cjn))) ?_
    cases e
    cases hk
    exact Ex_ret (k := 1) hm rfl ⟨_, rfl, rfl⟩
  · replace e := it_n e c9
    refine Ex_if2t (c := 1) (tgt := 41) hm rfl (bt1 c9) ?_
    refine Ex_run 1 (i' := 42) (L' := [(2, ((v0 : Nat) : Int)), (0, v1), (0, v2), (0, v3)]) (st' := [(0, (-13))]) (h' := (G, ρ, m)) hm rfl cjn ?_
    cases e
    cases hk
    exact Ex_ret (k := 1) hm rfl ⟨_, rfl, rfl⟩
theorem tf221_b21 {G : Gg} {ρ : Rg} {d : Nat} {v0 : Nat} {v1 : Int} {v2 : Int} {m : Sg} {s : Int} {x : (Int) ⊕ (Int)} (e : f221_b21 G ρ v0 v1 v2 m s = some x) (hd : 2 ≤ d) (rr : Option MV × Mh) (hk : (DS (e221_21 G ρ d v0 v1 v2 m) (Bpi G ρ m)) x rr) : e221_21 G ρ d v0 v1 v2 m s rr := by
  unfold f221_b21 at e
  have hm := mi_221
  show Ex d 221 21 [(2, ((v0 : Nat) : Int)), (0, v1), (0, v2), (0, s)] [] (G, ρ, m) rr
  refine Ex_run 2 (i' := 23) (L' := [(2, ((v0 : Nat) : Int)), (0, v1), (0, v2), (0, s)]) (st' := [(0, (-1)), (0, s)]) (h' := (G, ρ, m)) hm rfl cjn ?_
  by_cases c8 : s = (-1)
  · replace e := it_p e c8
    refine Ex_if2t (c := 0) (tgt := 31) hm rfl (bt0 c8) ?_
    obtain ⟨x, e, hx⟩ := xr_s e
    replace hk : (Bpi G ρ m) x rr := by rw [hx] at hk; exact hk
    exact tf221_31 e hd rr hk
  · replace e := it_n e c8
    refine Ex_if2f (c := 0) (tgt := 31) hm rfl (bf0 c8) ?_
    refine Ex_run 2 (i' := 26) (L' := [(2, ((v0 : Nat) : Int)), (0, v1), (0, v2), (0, s)]) (st' := [(0, v2), (0, s)]) (h' := (G, ρ, m)) hm rfl cjn ?_
    by_cases c13 : s = v2
    · replace e := it_p e c13
      refine Ex_if2t (c := 0) (tgt := 31) hm rfl (bt0 c13) ?_
      obtain ⟨x, e, hx⟩ := xr_s e
      replace hk : (Bpi G ρ m) x rr := by rw [hx] at hk; exact hk
      exact tf221_31 e hd rr hk
    · replace e := it_n e c13
      refine Ex_if2f (c := 0) (tgt := 31) hm rfl (bf0 c13) ?_
      refine Ex_run 1 (i' := 28) (L' := [(2, ((v0 : Nat) : Int)), (0, v1), (0, v2), (0, s)]) (st' := [(0, s)]) (h' := (G, ρ, m)) hm rfl cjn ?_
      obtain ⟨q14, h14, e⟩ := bn_s e
      refine Ex_callm (z := 220) (na := 1) (ck := 0) (as := [(0, s)]) (rest := []) (E0 := [(0, s)]) (v := some (0, q14)) (h1 := (G, ρ, m)) hm rfl (by omega) ⟨Nat.le_of_ble_eq_true rfl, Nat.le_of_ble_eq_true rfl⟩ (trivial) rfl rfl ml_220 rfl (Nat.le_of_ble_eq_true rfl) (tf220 h14 (by omega)) ?_
      show Ex d 221 29 [(2, ((v0 : Nat) : Int)), (0, v1), (0, v2), (0, s)] [(0, q14)] (G, ρ, m) rr
      refine Ex_run 2 (i' := 21) (L' := [(2, ((v0 : Nat) : Int)), (0, v1), (0, v2), (0, q14)]) (st' := []) (h' := (G, ρ, m)) hm rfl (cjc (Nat.le_of_ble_eq_true rfl) cjn) ?_
      cases e
      exact hk
theorem tf221 {G : Gg} {ρ : Rg} {d : Nat} {v0 : Nat} {v1 : Int} {v2 : Int} {m : Sg} {x : Int} (e : f221 G ρ v0 v1 v2 m = some x) (hd : 2 ≤ d) : Ex d 221 0 [(2, ((v0 : Nat) : Int)), (0, v1), (0, v2), (9, 0)] [] (G, ρ, m) (some (0, x), (G, ρ, m)) := by
  unfold f221 at e
  have hm := mi_221
  generalize hk : (some (0, x), (G, ρ, m)) = rr
  replace hk : (Bpi G ρ m) x rr := hk.symm
  refine Ex_run 4 (i' := 4) (L' := [(2, ((v0 : Nat) : Int)), (0, v1), (0, v2), (9, 0)]) (st' := [(1, 5), (1, 0), (1, v2)]) (h' := (G, ρ, m)) hm rfl cjn ?_
  obtain ⟨q1, h1, e⟩ := bn_s e
  refine Ex_callm (z := 143) (na := 3) (ck := 0) (as := [(1, v2), (1, 0), (1, 5)]) (rest := []) (E0 := [(1, v2), (9, 0), (1, 0), (9, 0), (1, 5), (9, 0)]) (v := some (0, q1)) (h1 := (G, ρ, m)) hm rfl (by omega) ⟨Nat.le_of_ble_eq_true rfl, Nat.le_of_ble_eq_true rfl⟩ (trivial) rfl rfl ml_143 rfl (Nat.le_of_ble_eq_true rfl) (tf143 h1 (by omega)) ?_
  show Ex d 221 5 [(2, ((v0 : Nat) : Int)), (0, v1), (0, v2), (9, 0)] [(0, q1)] (G, ρ, m) rr
  by_cases c2 : q1 = 0
  · replace e := it_p e c2
    refine Ex_if1f (c := 1) (tgt := 8) hm rfl (bf1 c2) ?_
    refine Ex_run 1 (i' := 7) (L' := [(2, ((v0 : Nat) : Int)), (0, v1), (0, v2), (9, 0)]) (st' := [(0, (-2))]) (h' := (G, ρ, m)) hm rfl cjn ?_
    cases e
    cases hk
    exact Ex_ret (k := 1) hm rfl ⟨_, rfl, rfl⟩
  · replace e := it_n e c2
    refine Ex_if1t (c := 1) (tgt := 8) hm rfl (bt1 c2) ?_
    refine Ex_run 2 (i' := 10) (L' := [(2, ((v0 : Nat) : Int)), (0, v1), (0, v2), (9, 0)]) (st' := [(0, v1), (2, ((v0 : Nat) : Int))]) (h' := (G, ρ, m)) hm rfl cjn ?_
    obtain ⟨g3, e⟩ := gd_s e
    obtain ⟨q4, h4, e⟩ := bn_s e
    refine Ex_callm (z := 146) (na := 2) (ck := 15) (as := [(2, ((v0 : Nat) : Int)), (0, v1)]) (rest := []) (E0 := [(2, ((v0 : Nat) : Int)), (0, v1)]) (v := some (0, q4)) (h1 := (G, ρ, m)) hm rfl (by omega) ⟨Nat.le_of_ble_eq_true rfl, Nat.le_of_ble_eq_true rfl⟩ (rc2 rfl g3) rfl rfl ml_146 rfl (Nat.le_of_ble_eq_true rfl) (tf146 h4 (by omega)) ?_
    show Ex d 221 11 [(2, ((v0 : Nat) : Int)), (0, v1), (0, v2), (9, 0)] [(0, q4)] (G, ρ, m) rr
    by_cases c5 : q4 = 0
    · replace e := it_p e c5
      refine Ex_if1f (c := 1) (tgt := 14) hm rfl (bf1 c5) ?_
      refine Ex_run 1 (i' := 13) (L' := [(2, ((v0 : Nat) : Int)), (0, v1), (0, v2), (9, 0)]) (st' := [(0, (-11))]) (h' := (G, ρ, m)) hm rfl cjn ?_
      cases e
      cases hk
      exact Ex_ret (k := 1) hm rfl ⟨_, rfl, rfl⟩
    · replace e := it_n e c5
      refine Ex_if1t (c := 1) (tgt := 14) hm rfl (bt1 c5) ?_
      obtain ⟨g6, e⟩ := gd_s e
      obtain ⟨g7, e⟩ := gd_s e
      refine Ex_run 7 (i' := 21) (L' := [(2, ((v0 : Nat) : Int)), (0, v1), (0, v2), (0, (m (ρ v0 2) (g_add 120 v1)))]) (st' := []) (h' := (G, ρ, m)) hm rfl (cjc (gk_b g3) (cjc (gk_b g6) (cjc g7 (cjc (Nat.le_of_ble_eq_true rfl) cjn)))) ?_
      exact (Ex_lp (A := e221_21 G ρ d v0 v1 v2 m ) (B := (Bpi G ρ m)) (fun s x e rr hk => tf221_b21 e hd rr hk) FU _ _ e rr hk)
theorem tf235 {G : Gg} {ρ : Rg} {d : Nat} {v1 : Int} {m : Sg} {x : Int} (e : f235 G ρ v1 m = some x) (hd : 0 ≤ d) : Ex d 235 0 [(4, 0), (0, v1)] [] (G, ρ, m) (some (0, x), (G, ρ, m)) := by
  unfold f235 at e
  have hm := mi_235
  generalize hk : (some (0, x), (G, ρ, m)) = rr
  replace hk : (Bpi G ρ m) x rr := hk.symm
  refine Ex_run 3 (i' := 3) (L' := [(4, 0), (0, v1)]) (st' := [(0, (gl G 0)), (0, v1)]) (h' := (G, ρ, m)) hm rfl cjn ?_
  by_cases c1 : v1 < (gl G 0)
  · replace e := it_p e c1
    refine Ex_if2f (c := 3) (tgt := 8) hm rfl (bf3 c1) ?_
    obtain ⟨g2, e⟩ := gd_s e
    refine Ex_run 4 (i' := 9) (L' := [(4, 0), (0, v1)]) (st' := [(0, (m 0 v1))]) (h' := (G, ρ, m)) hm rfl (cjc g2 cjn) ?_
    cases e
    cases hk
    exact Ex_ret (k := 1) hm rfl ⟨_, rfl, rfl⟩
  · replace e := it_n e c1
    refine Ex_if2t (c := 3) (tgt := 8) hm rfl (bt3 c1) ?_
    refine Ex_run 1 (i' := 9) (L' := [(4, 0), (0, v1)]) (st' := [(0, 0)]) (h' := (G, ρ, m)) hm rfl cjn ?_
    cases e
    cases hk
    exact Ex_ret (k := 1) hm rfl ⟨_, rfl, rfl⟩
set_option maxRecDepth 100000 in
theorem tf236_b16 {d : Nat} {v1 : Nat} {v2 : Nat} {s : Int × Mh} {x : (Int × Mh) ⊕ (Int × Mh)} (e : f236_b16 v1 v2 s = some x) (hd : 59 ≤ d) (rr : Option MV × Mh) (hk : (DS (e236_16 d v1 v2) Hi) x rr) : e236_16 d v1 v2 s rr := by
  unfold f236_b16 at e
  have hm := mi_236
  show Ex d 236 16 [(4, 0), (2, ((v1 : Nat) : Int)), (2, ((v2 : Nat) : Int)), (0, s.1)] [] (s.2.1, s.2.2.1, s.2.2.2) rr
  refine Ex_run 5 (i' := 21) (L' := [(4, 0), (2, ((v1 : Nat) : Int)), (2, ((v2 : Nat) : Int)), (0, s.1)]) (st' := [(0, (g_sub (gl s.2.1 0) 6)), (0, s.1)]) (h' := (s.2.1, s.2.2.1, s.2.2.2)) hm rfl cjn ?_
  by_cases c7 : (g_sub (gl s.2.1 0) 6) < s.1
  · replace e := it_p e c7
    refine Ex_if2t (c := 4) (tgt := 953) hm rfl (bt4 c7) ?_
    obtain ⟨x, e, hx⟩ := xr_s e
    replace hk : Hi x rr := by rw [hx] at hk; exact hk
    refine Ex_run 1 (i' := 954) (L' := [(4, 0), (2, ((v1 : Nat) : Int)), (2, ((v2 : Nat) : Int)), (0, s.1)]) (st' := [(0, 1)]) (h' := (s.2.1, s.2.2.1, s.2.2.2)) hm rfl cjn ?_
    cases e
    cases hk
    exact Ex_ret (k := 2) hm rfl ⟨_, rfl, by decide, rfl⟩
  · replace e := it_n e c7
    refine Ex_if2f (c := 4) (tgt := 953) hm rfl (bf4 c7) ?_
    obtain ⟨g8, e⟩ := gd_s e
    refine Ex_run 5 (i' := 27) (L' := [(4, 0), (2, ((v1 : Nat) : Int)), (2, ((v2 : Nat) : Int)), (0, s.1)]) (st' := [(0, (g_and (s.2.2.2 0 s.1) 63))]) (h' := (s.2.1, s.2.2.1, s.2.2.2)) hm rfl (cjc g8 cjn) ?_
    by_cases c9 : (g_and (s.2.2.2 0 s.1) 63) = 0
    · replace e := it_p e c9
      refine Ex_sw (lo := 0) (tg := [28, 65, 82, 109, 126, 143, 160, 177, 194, 222, 263, 290, 317, 344, 361, 388, 405, 422, 449, 477, 528, 535, 552, 580, 607, 624, 641, 712, 729, 746, 783, 820, 877, 924]) (df := 951) hm rfl 0 rfl c9 ?_
      obtain ⟨g10, e⟩ := gd_s e
      obtain ⟨g11, e⟩ := gd_s e
      obtain ⟨g12, e⟩ := gd_s e
      refine Ex_run 16 (i' := 44) (L' := [(4, 0), (2, ((v1 : Nat) : Int)), (2, ((v2 : Nat) : Int)), (0, s.1)]) (st' := [(0, (s.2.2.2 0 (g_add s.1 3))), (0, (s.2.2.2 0 (g_add s.1 2))), (0, (s.2.2.2 0 (g_add s.1 1))), (2, ((v1 : Nat) : Int))]) (h' := (s.2.1, s.2.2.1, s.2.2.2)) hm rfl (cjc g10 (cjc g11 (cjc g12 cjn))) ?_
      obtain ⟨g13, e⟩ := gd_s e
      obtain ⟨q14, h14, e⟩ := bn_s e
      refine Ex_callm (z := 96) (na := 4) (ck := 14) (as := [(2, ((v1 : Nat) : Int)), (0, (s.2.2.2 0 (g_add s.1 1))), (0, (s.2.2.2 0 (g_add s.1 2))), (0, (s.2.2.2 0 (g_add s.1 3)))]) (rest := []) (E0 := [(2, ((v1 : Nat) : Int)), (0, (s.2.2.2 0 (g_add s.1 1))), (0, (s.2.2.2 0 (g_add s.1 2))), (0, (s.2.2.2 0 (g_add s.1 3))), (9, 0)]) (v := some (0, q14.1)) (h1 := (s.2.1, s.2.2.1, q14.2)) hm rfl (by omega) ⟨Nat.le_of_ble_eq_true rfl, Nat.le_of_ble_eq_true rfl⟩ (rc2 rfl g13) rfl rfl ml_96 rfl (Nat.le_of_ble_eq_true rfl) (tf96 h14 (by omega)) ?_
      show Ex d 236 45 [(4, 0), (2, ((v1 : Nat) : Int)), (2, ((v2 : Nat) : Int)), (0, s.1)] [(0, q14.1)] (s.2.1, s.2.2.1, q14.2) rr
      refine Ex_run 16 (i' := 61) (L' := [(4, 0), (2, ((v1 : Nat) : Int)), (2, ((v2 : Nat) : Int)), (0, s.1)]) (st' := [(0, (q14.2 0 (g_add s.1 3))), (0, (q14.2 0 (g_add s.1 2))), (0, (q14.2 0 (g_add s.1 1))), (2, ((v2 : Nat) : Int)), (0, q14.1)]) (h' := (s.2.1, s.2.2.1, q14.2)) hm rfl (cjc g10 (cjc g11 (cjc g12 cjn))) ?_
      obtain ⟨g15, e⟩ := gd_s e
      obtain ⟨q16, h16, e⟩ := bn_s e
      refine Ex_callm (z := 147) (na := 4) (ck := 15) (as := [(2, ((v2 : Nat) : Int)), (0, (q14.2 0 (g_add s.1 1))), (0, (q14.2 0 (g_add s.1 2))), (0, (q14.2 0 (g_add s.1 3)))]) (rest := [(0, q14.1)]) (E0 := [(2, ((v2 : Nat) : Int)), (0, (q14.2 0 (g_add s.1 1))), (0, (q14.2 0 (g_add s.1 2))), (0, (q14.2 0 (g_add s.1 3))), (9, 0)]) (v := some (0, q16.1)) (h1 := (s.2.1, s.2.2.1, q16.2)) hm rfl (by omega) ⟨Nat.le_of_ble_eq_true rfl, Nat.le_of_ble_eq_true rfl⟩ (rc2 rfl g15) rfl rfl ml_147 rfl (Nat.le_of_ble_eq_true rfl) (tf147 h16 (by omega)) ?_
      show Ex d 236 62 [(4, 0), (2, ((v1 : Nat) : Int)), (2, ((v2 : Nat) : Int)), (0, s.1)] [(0, q16.1), (0, q14.1)] (s.2.1, s.2.2.1, q16.2) rr
      by_cases c17 : q14.1 = q16.1
      · replace e := it_p e c17
        refine Ex_if2t (c := 0) (tgt := 951) hm rfl (bt0 c17) ?_
        refine Ex_run 2 (i' := 16) (L' := [(4, 0), (2, ((v1 : Nat) : Int)), (2, ((v2 : Nat) : Int)), (0, (w32 (s.1 + 6)))]) (st' := []) (h' := (s.2.1, s.2.2.1, q16.2)) hm rfl cjn ?_
        cases e
        exact hk
      · replace e := it_n e c17
        refine Ex_if2f (c := 0) (tgt := 951) hm rfl (bf0 c17) ?_
        obtain ⟨x, e, hx⟩ := xr_s e
        replace hk : Hi x rr := by rw [hx] at hk; exact hk
        refine Ex_run 1 (i' := 64) (L' := [(4, 0), (2, ((v1 : Nat) : Int)), (2, ((v2 : Nat) : Int)), (0, s.1)]) (st' := [(0, 0)]) (h' := (s.2.1, s.2.2.1, q16.2)) hm rfl cjn ?_
        cases e
        cases hk
        exact Ex_ret (k := 2) hm rfl ⟨_, rfl, by decide, rfl⟩
    · replace e := it_n e c9
      by_cases c18 : (g_and (s.2.2.2 0 s.1) 63) = 1
      · replace e := it_p e c18
        refine Ex_sw (lo := 0) (tg := [28, 65, 82, 109, 126, 143, 160, 177, 194, 222, 263, 290, 317, 344, 361, 388, 405, 422, 449, 477, 528, 535, 552, 580, 607, 624, 641, 712, 729, 746, 783, 820, 877, 924]) (df := 951) hm rfl 1 rfl c18 ?_
        obtain ⟨g19, e⟩ := gd_s e
        refine Ex_run 6 (i' := 71) (L' := [(4, 0), (2, ((v1 : Nat) : Int)), (2, ((v2 : Nat) : Int)), (0, s.1)]) (st' := [(0, (s.2.2.2 0 (g_add s.1 1))), (2, ((v1 : Nat) : Int))]) (h' := (s.2.1, s.2.2.1, s.2.2.2)) hm rfl (cjc g19 cjn) ?_
        obtain ⟨g20, e⟩ := gd_s e
        obtain ⟨q21, h21, e⟩ := bn_s e
        refine Ex_callm (z := 97) (na := 2) (ck := 14) (as := [(2, ((v1 : Nat) : Int)), (0, (s.2.2.2 0 (g_add s.1 1)))]) (rest := []) (E0 := [(2, ((v1 : Nat) : Int)), (0, (s.2.2.2 0 (g_add s.1 1))), (9, 0)]) (v := some (0, q21.1)) (h1 := (s.2.1, s.2.2.1, q21.2)) hm rfl (by omega) ⟨Nat.le_of_ble_eq_true rfl, Nat.le_of_ble_eq_true rfl⟩ (rc2 rfl g20) rfl rfl ml_97 rfl (Nat.le_of_ble_eq_true rfl) (tf97 h21 (by omega)) ?_
        show Ex d 236 72 [(4, 0), (2, ((v1 : Nat) : Int)), (2, ((v2 : Nat) : Int)), (0, s.1)] [(0, q21.1)] (s.2.1, s.2.2.1, q21.2) rr
        refine Ex_run 6 (i' := 78) (L' := [(4, 0), (2, ((v1 : Nat) : Int)), (2, ((v2 : Nat) : Int)), (0, s.1)]) (st' := [(0, (q21.2 0 (g_add s.1 1))), (2, ((v2 : Nat) : Int)), (0, q21.1)]) (h' := (s.2.1, s.2.2.1, q21.2)) hm rfl (cjc g19 cjn) ?_
        obtain ⟨g22, e⟩ := gd_s e
        obtain ⟨q23, h23, e⟩ := bn_s e
        refine Ex_callm (z := 148) (na := 2) (ck := 15) (as := [(2, ((v2 : Nat) : Int)), (0, (q21.2 0 (g_add s.1 1)))]) (rest := [(0, q21.1)]) (E0 := [(2, ((v2 : Nat) : Int)), (0, (q21.2 0 (g_add s.1 1))), (9, 0)]) (v := some (0, q23.1)) (h1 := (s.2.1, s.2.2.1, q23.2)) hm rfl (by omega) ⟨Nat.le_of_ble_eq_true rfl, Nat.le_of_ble_eq_true rfl⟩ (rc2 rfl g22) rfl rfl ml_148 rfl (Nat.le_of_ble_eq_true rfl) (tf148 h23 (by omega)) ?_
        show Ex d 236 79 [(4, 0), (2, ((v1 : Nat) : Int)), (2, ((v2 : Nat) : Int)), (0, s.1)] [(0, q23.1), (0, q21.1)] (s.2.1, s.2.2.1, q23.2) rr
        by_cases c24 : q21.1 = q23.1
        · replace e := it_p e c24
          refine Ex_if2t (c := 0) (tgt := 951) hm rfl (bt0 c24) ?_
          refine Ex_run 2 (i' := 16) (L' := [(4, 0), (2, ((v1 : Nat) : Int)), (2, ((v2 : Nat) : Int)), (0, (w32 (s.1 + 6)))]) (st' := []) (h' := (s.2.1, s.2.2.1, q23.2)) hm rfl cjn ?_
          cases e
          exact hk
        · replace e := it_n e c24
          refine Ex_if2f (c := 0) (tgt := 951) hm rfl (bf0 c24) ?_
          obtain ⟨x, e, hx⟩ := xr_s e
          replace hk : Hi x rr := by rw [hx] at hk; exact hk
          refine Ex_run 1 (i' := 81) (L' := [(4, 0), (2, ((v1 : Nat) : Int)), (2, ((v2 : Nat) : Int)), (0, s.1)]) (st' := [(0, 0)]) (h' := (s.2.1, s.2.2.1, q23.2)) hm rfl cjn ?_
          cases e
          cases hk
          exact Ex_ret (k := 2) hm rfl ⟨_, rfl, by decide, rfl⟩
      · replace e := it_n e c18
        by_cases c25 : (g_and (s.2.2.2 0 s.1) 63) = 2
        · replace e := it_p e c25
          refine Ex_sw (lo := 0) (tg := [28, 65, 82, 109, 126, 143, 160, 177, 194, 222, 263, 290, 317, 344, 361, 388, 405, 422, 449, 477, 528, 535, 552, 580, 607, 624, 641, 712, 729, 746, 783, 820, 877, 924]) (df := 951) hm rfl 2 rfl c25 ?_
          obtain ⟨g26, e⟩ := gd_s e
          obtain ⟨g27, e⟩ := gd_s e
          refine Ex_run 11 (i' := 93) (L' := [(4, 0), (2, ((v1 : Nat) : Int)), (2, ((v2 : Nat) : Int)), (0, s.1)]) (st' := [(0, (s.2.2.2 0 (g_add s.1 2))), (0, (s.2.2.2 0 (g_add s.1 1))), (2, ((v1 : Nat) : Int))]) (h' := (s.2.1, s.2.2.1, s.2.2.2)) hm rfl (cjc g26 (cjc g27 cjn)) ?_
          obtain ⟨g28, e⟩ := gd_s e
          obtain ⟨q29, h29, e⟩ := bn_s e
          refine Ex_callm (z := 98) (na := 3) (ck := 14) (as := [(2, ((v1 : Nat) : Int)), (0, (s.2.2.2 0 (g_add s.1 1))), (0, (s.2.2.2 0 (g_add s.1 2)))]) (rest := []) (E0 := [(2, ((v1 : Nat) : Int)), (0, (s.2.2.2 0 (g_add s.1 1))), (0, (s.2.2.2 0 (g_add s.1 2)))]) (v := some (0, q29)) (h1 := (s.2.1, s.2.2.1, s.2.2.2)) hm rfl (by omega) ⟨Nat.le_of_ble_eq_true rfl, Nat.le_of_ble_eq_true rfl⟩ (rc2 rfl g28) rfl rfl ml_98 rfl (Nat.le_of_ble_eq_true rfl) (tf98 h29 (by omega)) ?_
          show Ex d 236 94 [(4, 0), (2, ((v1 : Nat) : Int)), (2, ((v2 : Nat) : Int)), (0, s.1)] [(0, q29)] (s.2.1, s.2.2.1, s.2.2.2) rr
          refine Ex_run 11 (i' := 105) (L' := [(4, 0), (2, ((v1 : Nat) : Int)), (2, ((v2 : Nat) : Int)), (0, s.1)]) (st' := [(0, (s.2.2.2 0 (g_add s.1 2))), (0, (s.2.2.2 0 (g_add s.1 1))), (2, ((v2 : Nat) : Int)), (0, q29)]) (h' := (s.2.1, s.2.2.1, s.2.2.2)) hm rfl (cjc g26 (cjc g27 cjn)) ?_
          obtain ⟨g30, e⟩ := gd_s e
          obtain ⟨q31, h31, e⟩ := bn_s e
          refine Ex_callm (z := 149) (na := 3) (ck := 15) (as := [(2, ((v2 : Nat) : Int)), (0, (s.2.2.2 0 (g_add s.1 1))), (0, (s.2.2.2 0 (g_add s.1 2)))]) (rest := [(0, q29)]) (E0 := [(2, ((v2 : Nat) : Int)), (0, (s.2.2.2 0 (g_add s.1 1))), (0, (s.2.2.2 0 (g_add s.1 2)))]) (v := some (0, q31)) (h1 := (s.2.1, s.2.2.1, s.2.2.2)) hm rfl (by omega) ⟨Nat.le_of_ble_eq_true rfl, Nat.le_of_ble_eq_true rfl⟩ (rc2 rfl g30) rfl rfl ml_149 rfl (Nat.le_of_ble_eq_true rfl) (tf149 h31 (by omega)) ?_
          show Ex d 236 106 [(4, 0), (2, ((v1 : Nat) : Int)), (2, ((v2 : Nat) : Int)), (0, s.1)] [(0, q31), (0, q29)] (s.2.1, s.2.2.1, s.2.2.2) rr
          by_cases c32 : q29 = q31
          · replace e := it_p e c32
            refine Ex_if2t (c := 0) (tgt := 951) hm rfl (bt0 c32) ?_
            refine Ex_run 2 (i' := 16) (L' := [(4, 0), (2, ((v1 : Nat) : Int)), (2, ((v2 : Nat) : Int)), (0, (w32 (s.1 + 6)))]) (st' := []) (h' := (s.2.1, s.2.2.1, s.2.2.2)) hm rfl cjn ?_
            cases e
            exact hk
          · replace e := it_n e c32
            refine Ex_if2f (c := 0) (tgt := 951) hm rfl (bf0 c32) ?_
            obtain ⟨x, e, hx⟩ := xr_s e
            replace hk : Hi x rr := by rw [hx] at hk; exact hk
            refine Ex_run 1 (i' := 108) (L' := [(4, 0), (2, ((v1 : Nat) : Int)), (2, ((v2 : Nat) : Int)), (0, s.1)]) (st' := [(0, 0)]) (h' := (s.2.1, s.2.2.1, s.2.2.2)) hm rfl cjn ?_
            cases e
            cases hk
            exact Ex_ret (k := 2) hm rfl ⟨_, rfl, by decide, rfl⟩
        · replace e := it_n e c25
          by_cases c33 : (g_and (s.2.2.2 0 s.1) 63) = 3
          · replace e := it_p e c33
            refine Ex_sw (lo := 0) (tg := [28, 65, 82, 109, 126, 143, 160, 177, 194, 222, 263, 290, 317, 344, 361, 388, 405, 422, 449, 477, 528, 535, 552, 580, 607, 624, 641, 712, 729, 746, 783, 820, 877, 924]) (df := 951) hm rfl 3 rfl c33 ?_
            obtain ⟨g34, e⟩ := gd_s e
            refine Ex_run 6 (i' := 115) (L' := [(4, 0), (2, ((v1 : Nat) : Int)), (2, ((v2 : Nat) : Int)), (0, s.1)]) (st' := [(0, (s.2.2.2 0 (g_add s.1 1))), (2, ((v1 : Nat) : Int))]) (h' := (s.2.1, s.2.2.1, s.2.2.2)) hm rfl (cjc g34 cjn) ?_
            obtain ⟨g35, e⟩ := gd_s e
            obtain ⟨q36, h36, e⟩ := bn_s e
            refine Ex_callm (z := 99) (na := 2) (ck := 14) (as := [(2, ((v1 : Nat) : Int)), (0, (s.2.2.2 0 (g_add s.1 1)))]) (rest := []) (E0 := [(2, ((v1 : Nat) : Int)), (0, (s.2.2.2 0 (g_add s.1 1))), (9, 0)]) (v := some (0, q36.1)) (h1 := (s.2.1, s.2.2.1, q36.2)) hm rfl (by omega) ⟨Nat.le_of_ble_eq_true rfl, Nat.le_of_ble_eq_true rfl⟩ (rc2 rfl g35) rfl rfl ml_99 rfl (Nat.le_of_ble_eq_true rfl) (tf99 h36 (by omega)) ?_
            show Ex d 236 116 [(4, 0), (2, ((v1 : Nat) : Int)), (2, ((v2 : Nat) : Int)), (0, s.1)] [(0, q36.1)] (s.2.1, s.2.2.1, q36.2) rr
            refine Ex_run 6 (i' := 122) (L' := [(4, 0), (2, ((v1 : Nat) : Int)), (2, ((v2 : Nat) : Int)), (0, s.1)]) (st' := [(0, (q36.2 0 (g_add s.1 1))), (2, ((v2 : Nat) : Int)), (0, q36.1)]) (h' := (s.2.1, s.2.2.1, q36.2)) hm rfl (cjc g34 cjn) ?_
            obtain ⟨g37, e⟩ := gd_s e
            obtain ⟨q38, h38, e⟩ := bn_s e
            refine Ex_callm (z := 154) (na := 2) (ck := 15) (as := [(2, ((v2 : Nat) : Int)), (0, (q36.2 0 (g_add s.1 1)))]) (rest := [(0, q36.1)]) (E0 := [(2, ((v2 : Nat) : Int)), (0, (q36.2 0 (g_add s.1 1)))]) (v := some (0, q38.1)) (h1 := (s.2.1, s.2.2.1, q38.2)) hm rfl (by omega) ⟨Nat.le_of_ble_eq_true rfl, Nat.le_of_ble_eq_true rfl⟩ (rc2 rfl g37) rfl rfl ml_154 rfl (Nat.le_of_ble_eq_true rfl) (tf154 h38 (by omega)) ?_
            show Ex d 236 123 [(4, 0), (2, ((v1 : Nat) : Int)), (2, ((v2 : Nat) : Int)), (0, s.1)] [(0, q38.1), (0, q36.1)] (s.2.1, s.2.2.1, q38.2) rr
            by_cases c39 : q36.1 = q38.1
            · replace e := it_p e c39
              refine Ex_if2t (c := 0) (tgt := 951) hm rfl (bt0 c39) ?_
              refine Ex_run 2 (i' := 16) (L' := [(4, 0), (2, ((v1 : Nat) : Int)), (2, ((v2 : Nat) : Int)), (0, (w32 (s.1 + 6)))]) (st' := []) (h' := (s.2.1, s.2.2.1, q38.2)) hm rfl cjn ?_
              cases e
              exact hk
            · replace e := it_n e c39
              refine Ex_if2f (c := 0) (tgt := 951) hm rfl (bf0 c39) ?_
              obtain ⟨x, e, hx⟩ := xr_s e
              replace hk : Hi x rr := by rw [hx] at hk; exact hk
              refine Ex_run 1 (i' := 125) (L' := [(4, 0), (2, ((v1 : Nat) : Int)), (2, ((v2 : Nat) : Int)), (0, s.1)]) (st' := [(0, 0)]) (h' := (s.2.1, s.2.2.1, q38.2)) hm rfl cjn ?_
              cases e
              cases hk
              exact Ex_ret (k := 2) hm rfl ⟨_, rfl, by decide, rfl⟩
          · replace e := it_n e c33
            by_cases c40 : (g_and (s.2.2.2 0 s.1) 63) = 4
            · replace e := it_p e c40
              refine Ex_sw (lo := 0) (tg := [28, 65, 82, 109, 126, 143, 160, 177, 194, 222, 263, 290, 317, 344, 361, 388, 405, 422, 449, 477, 528, 535, 552, 580, 607, 624, 641, 712, 729, 746, 783, 820, 877, 924]) (df := 951) hm rfl 4 rfl c40 ?_
              obtain ⟨g41, e⟩ := gd_s e
              refine Ex_run 6 (i' := 132) (L' := [(4, 0), (2, ((v1 : Nat) : Int)), (2, ((v2 : Nat) : Int)), (0, s.1)]) (st' := [(0, (s.2.2.2 0 (g_add s.1 1))), (2, ((v1 : Nat) : Int))]) (h' := (s.2.1, s.2.2.1, s.2.2.2)) hm rfl (cjc g41 cjn) ?_
              obtain ⟨g42, e⟩ := gd_s e
              obtain ⟨q43, h43, e⟩ := bn_s e
              refine Ex_callm (z := 100) (na := 2) (ck := 14) (as := [(2, ((v1 : Nat) : Int)), (0, (s.2.2.2 0 (g_add s.1 1)))]) (rest := []) (E0 := [(2, ((v1 : Nat) : Int)), (0, (s.2.2.2 0 (g_add s.1 1)))]) (v := some (0, q43.1)) (h1 := (s.2.1, s.2.2.1, q43.2)) hm rfl (by omega) ⟨Nat.le_of_ble_eq_true rfl, Nat.le_of_ble_eq_true rfl⟩ (rc2 rfl g42) rfl rfl ml_100 rfl (Nat.le_of_ble_eq_true rfl) (tf100 h43 (by omega)) ?_
              show Ex d 236 133 [(4, 0), (2, ((v1 : Nat) : Int)), (2, ((v2 : Nat) : Int)), (0, s.1)] [(0, q43.1)] (s.2.1, s.2.2.1, q43.2) rr
              refine Ex_run 6 (i' := 139) (L' := [(4, 0), (2, ((v1 : Nat) : Int)), (2, ((v2 : Nat) : Int)), (0, s.1)]) (st' := [(0, (q43.2 0 (g_add s.1 1))), (2, ((v2 : Nat) : Int)), (0, q43.1)]) (h' := (s.2.1, s.2.2.1, q43.2)) hm rfl (cjc g41 cjn) ?_
              obtain ⟨g44, e⟩ := gd_s e
              obtain ⟨q45, h45, e⟩ := bn_s e
              refine Ex_callm (z := 156) (na := 2) (ck := 15) (as := [(2, ((v2 : Nat) : Int)), (0, (q43.2 0 (g_add s.1 1)))]) (rest := [(0, q43.1)]) (E0 := [(2, ((v2 : Nat) : Int)), (0, (q43.2 0 (g_add s.1 1)))]) (v := some (0, q45.1)) (h1 := (s.2.1, s.2.2.1, q45.2)) hm rfl (by omega) ⟨Nat.le_of_ble_eq_true rfl, Nat.le_of_ble_eq_true rfl⟩ (rc2 rfl g44) rfl rfl ml_156 rfl (Nat.le_of_ble_eq_true rfl) (tf156 h45 (by omega)) ?_
              show Ex d 236 140 [(4, 0), (2, ((v1 : Nat) : Int)), (2, ((v2 : Nat) : Int)), (0, s.1)] [(0, q45.1), (0, q43.1)] (s.2.1, s.2.2.1, q45.2) rr
              by_cases c46 : q43.1 = q45.1
              · replace e := it_p e c46
                refine Ex_if2t (c := 0) (tgt := 951) hm rfl (bt0 c46) ?_
                refine Ex_run 2 (i' := 16) (L' := [(4, 0), (2, ((v1 : Nat) : Int)), (2, ((v2 : Nat) : Int)), (0, (w32 (s.1 + 6)))]) (st' := []) (h' := (s.2.1, s.2.2.1, q45.2)) hm rfl cjn ?_
                cases e
                exact hk
              · replace e := it_n e c46
                refine Ex_if2f (c := 0) (tgt := 951) hm rfl (bf0 c46) ?_
                obtain ⟨x, e, hx⟩ := xr_s e
                replace hk : Hi x rr := by rw [hx] at hk; exact hk
                refine Ex_run 1 (i' := 142) (L' := [(4, 0), (2, ((v1 : Nat) : Int)), (2, ((v2 : Nat) : Int)), (0, s.1)]) (st' := [(0, 0)]) (h' := (s.2.1, s.2.2.1, q45.2)) hm rfl cjn ?_
                cases e
                cases hk
                exact Ex_ret (k := 2) hm rfl ⟨_, rfl, by decide, rfl⟩
            · replace e := it_n e c40
              by_cases c47 : (g_and (s.2.2.2 0 s.1) 63) = 5
              · replace e := it_p e c47
                refine Ex_sw (lo := 0) (tg := [28, 65, 82, 109, 126, 143, 160, 177, 194, 222, 263, 290, 317, 344, 361, 388, 405, 422, 449, 477, 528, 535, 552, 580, 607, 624, 641, 712, 729, 746, 783, 820, 877, 924]) (df := 951) hm rfl 5 rfl c47 ?_
                obtain ⟨g48, e⟩ := gd_s e
                refine Ex_run 6 (i' := 149) (L' := [(4, 0), (2, ((v1 : Nat) : Int)), (2, ((v2 : Nat) : Int)), (0, s.1)]) (st' := [(0, (s.2.2.2 0 (g_add s.1 1))), (2, ((v1 : Nat) : Int))]) (h' := (s.2.1, s.2.2.1, s.2.2.2)) hm rfl (cjc g48 cjn) ?_
                obtain ⟨g49, e⟩ := gd_s e
                obtain ⟨q50, h50, e⟩ := bn_s e
                refine Ex_callm (z := 101) (na := 2) (ck := 14) (as := [(2, ((v1 : Nat) : Int)), (0, (s.2.2.2 0 (g_add s.1 1)))]) (rest := []) (E0 := [(2, ((v1 : Nat) : Int)), (0, (s.2.2.2 0 (g_add s.1 1)))]) (v := some (0, q50.1)) (h1 := (s.2.1, s.2.2.1, q50.2)) hm rfl (by omega) ⟨Nat.le_of_ble_eq_true rfl, Nat.le_of_ble_eq_true rfl⟩ (rc2 rfl g49) rfl rfl ml_101 rfl (Nat.le_of_ble_eq_true rfl) (tf101 h50 (by omega)) ?_
                show Ex d 236 150 [(4, 0), (2, ((v1 : Nat) : Int)), (2, ((v2 : Nat) : Int)), (0, s.1)] [(0, q50.1)] (s.2.1, s.2.2.1, q50.2) rr
                refine Ex_run 6 (i' := 156) (L' := [(4, 0), (2, ((v1 : Nat) : Int)), (2, ((v2 : Nat) : Int)), (0, s.1)]) (st' := [(0, (q50.2 0 (g_add s.1 1))), (2, ((v2 : Nat) : Int)), (0, q50.1)]) (h' := (s.2.1, s.2.2.1, q50.2)) hm rfl (cjc g48 cjn) ?_
                obtain ⟨g51, e⟩ := gd_s e
                obtain ⟨q52, h52, e⟩ := bn_s e
                refine Ex_callm (z := 158) (na := 2) (ck := 15) (as := [(2, ((v2 : Nat) : Int)), (0, (q50.2 0 (g_add s.1 1)))]) (rest := [(0, q50.1)]) (E0 := [(2, ((v2 : Nat) : Int)), (0, (q50.2 0 (g_add s.1 1)))]) (v := some (0, q52.1)) (h1 := (s.2.1, s.2.2.1, q52.2)) hm rfl (by omega) ⟨Nat.le_of_ble_eq_true rfl, Nat.le_of_ble_eq_true rfl⟩ (rc2 rfl g51) rfl rfl ml_158 rfl (Nat.le_of_ble_eq_true rfl) (tf158 h52 (by omega)) ?_
                show Ex d 236 157 [(4, 0), (2, ((v1 : Nat) : Int)), (2, ((v2 : Nat) : Int)), (0, s.1)] [(0, q52.1), (0, q50.1)] (s.2.1, s.2.2.1, q52.2) rr
                by_cases c53 : q50.1 = q52.1
                · replace e := it_p e c53
                  refine Ex_if2t (c := 0) (tgt := 951) hm rfl (bt0 c53) ?_
                  refine Ex_run 2 (i' := 16) (L' := [(4, 0), (2, ((v1 : Nat) : Int)), (2, ((v2 : Nat) : Int)), (0, (w32 (s.1 + 6)))]) (st' := []) (h' := (s.2.1, s.2.2.1, q52.2)) hm rfl cjn ?_
                  cases e
                  exact hk
                · replace e := it_n e c53
                  refine Ex_if2f (c := 0) (tgt := 951) hm rfl (bf0 c53) ?_
                  obtain ⟨x, e, hx⟩ := xr_s e
                  replace hk : Hi x rr := by rw [hx] at hk; exact hk
                  refine Ex_run 1 (i' := 159) (L' := [(4, 0), (2, ((v1 : Nat) : Int)), (2, ((v2 : Nat) : Int)), (0, s.1)]) (st' := [(0, 0)]) (h' := (s.2.1, s.2.2.1, q52.2)) hm rfl cjn ?_
                  cases e
                  cases hk
                  exact Ex_ret (k := 2) hm rfl ⟨_, rfl, by decide, rfl⟩
              · replace e := it_n e c47
                by_cases c54 : (g_and (s.2.2.2 0 s.1) 63) = 6
                · replace e := it_p e c54
                  refine Ex_sw (lo := 0) (tg := [28, 65, 82, 109, 126, 143, 160, 177, 194, 222, 263, 290, 317, 344, 361, 388, 405, 422, 449, 477, 528, 535, 552, 580, 607, 624, 641, 712, 729, 746, 783, 820, 877, 924]) (df := 951) hm rfl 6 rfl c54 ?_
                  obtain ⟨g55, e⟩ := gd_s e
                  refine Ex_run 6 (i' := 166) (L' := [(4, 0), (2, ((v1 : Nat) : Int)), (2, ((v2 : Nat) : Int)), (0, s.1)]) (st' := [(0, (s.2.2.2 0 (g_add s.1 1))), (2, ((v1 : Nat) : Int))]) (h' := (s.2.1, s.2.2.1, s.2.2.2)) hm rfl (cjc g55 cjn) ?_
                  obtain ⟨g56, e⟩ := gd_s e
                  obtain ⟨q57, h57, e⟩ := bn_s e
                  refine Ex_callm (z := 102) (na := 2) (ck := 14) (as := [(2, ((v1 : Nat) : Int)), (0, (s.2.2.2 0 (g_add s.1 1)))]) (rest := []) (E0 := [(2, ((v1 : Nat) : Int)), (0, (s.2.2.2 0 (g_add s.1 1)))]) (v := some (0, q57.1)) (h1 := (s.2.1, s.2.2.1, q57.2)) hm rfl (by omega) ⟨Nat.le_of_ble_eq_true rfl, Nat.le_of_ble_eq_true rfl⟩ (rc2 rfl g56) rfl rfl ml_102 rfl (Nat.le_of_ble_eq_true rfl) (tf102 h57 (by omega)) ?_
                  show Ex d 236 167 [(4, 0), (2, ((v1 : Nat) : Int)), (2, ((v2 : Nat) : Int)), (0, s.1)] [(0, q57.1)] (s.2.1, s.2.2.1, q57.2) rr
                  refine Ex_run 6 (i' := 173) (L' := [(4, 0), (2, ((v1 : Nat) : Int)), (2, ((v2 : Nat) : Int)), (0, s.1)]) (st' := [(0, (q57.2 0 (g_add s.1 1))), (2, ((v2 : Nat) : Int)), (0, q57.1)]) (h' := (s.2.1, s.2.2.1, q57.2)) hm rfl (cjc g55 cjn) ?_
                  obtain ⟨g58, e⟩ := gd_s e
                  obtain ⟨q59, h59, e⟩ := bn_s e
                  refine Ex_callm (z := 160) (na := 2) (ck := 15) (as := [(2, ((v2 : Nat) : Int)), (0, (q57.2 0 (g_add s.1 1)))]) (rest := [(0, q57.1)]) (E0 := [(2, ((v2 : Nat) : Int)), (0, (q57.2 0 (g_add s.1 1))), (9, 0), (9, 0)]) (v := some (0, q59.1)) (h1 := (s.2.1, s.2.2.1, q59.2)) hm rfl (by omega) ⟨Nat.le_of_ble_eq_true rfl, Nat.le_of_ble_eq_true rfl⟩ (rc2 rfl g58) rfl rfl ml_160 rfl (Nat.le_of_ble_eq_true rfl) (tf160 h59 (by omega)) ?_
                  show Ex d 236 174 [(4, 0), (2, ((v1 : Nat) : Int)), (2, ((v2 : Nat) : Int)), (0, s.1)] [(0, q59.1), (0, q57.1)] (s.2.1, s.2.2.1, q59.2) rr
                  by_cases c60 : q57.1 = q59.1
                  · replace e := it_p e c60
                    refine Ex_if2t (c := 0) (tgt := 951) hm rfl (bt0 c60) ?_
                    refine Ex_run 2 (i' := 16) (L' := [(4, 0), (2, ((v1 : Nat) : Int)), (2, ((v2 : Nat) : Int)), (0, (w32 (s.1 + 6)))]) (st' := []) (h' := (s.2.1, s.2.2.1, q59.2)) hm rfl cjn ?_
                    cases e
                    exact hk
                  · replace e := it_n e c60
                    refine Ex_if2f (c := 0) (tgt := 951) hm rfl (bf0 c60) ?_
                    obtain ⟨x, e, hx⟩ := xr_s e
                    replace hk : Hi x rr := by rw [hx] at hk; exact hk
                    refine Ex_run 1 (i' := 176) (L' := [(4, 0), (2, ((v1 : Nat) : Int)), (2, ((v2 : Nat) : Int)), (0, s.1)]) (st' := [(0, 0)]) (h' := (s.2.1, s.2.2.1, q59.2)) hm rfl cjn ?_
                    cases e
                    cases hk
                    exact Ex_ret (k := 2) hm rfl ⟨_, rfl, by decide, rfl⟩
                · replace e := it_n e c54
                  by_cases c61 : (g_and (s.2.2.2 0 s.1) 63) = 7
                  · replace e := it_p e c61
                    refine Ex_sw (lo := 0) (tg := [28, 65, 82, 109, 126, 143, 160, 177, 194, 222, 263, 290, 317, 344, 361, 388, 405, 422, 449, 477, 528, 535, 552, 580, 607, 624, 641, 712, 729, 746, 783, 820, 877, 924]) (df := 951) hm rfl 7 rfl c61 ?_
                    obtain ⟨g62, e⟩ := gd_s e
                    refine Ex_run 6 (i' := 183) (L' := [(4, 0), (2, ((v1 : Nat) : Int)), (2, ((v2 : Nat) : Int)), (0, s.1)]) (st' := [(0, (s.2.2.2 0 (g_add s.1 1))), (2, ((v1 : Nat) : Int))]) (h' := (s.2.1, s.2.2.1, s.2.2.2)) hm rfl (cjc g62 cjn) ?_
                    obtain ⟨g63, e⟩ := gd_s e
                    obtain ⟨q64, h64, e⟩ := bn_s e
                    refine Ex_callm (z := 103) (na := 2) (ck := 14) (as := [(2, ((v1 : Nat) : Int)), (0, (s.2.2.2 0 (g_add s.1 1)))]) (rest := []) (E0 := [(2, ((v1 : Nat) : Int)), (0, (s.2.2.2 0 (g_add s.1 1)))]) (v := some (0, q64.1)) (h1 := (s.2.1, s.2.2.1, q64.2)) hm rfl (by omega) ⟨Nat.le_of_ble_eq_true rfl, Nat.le_of_ble_eq_true rfl⟩ (rc2 rfl g63) rfl rfl ml_103 rfl (Nat.le_of_ble_eq_true rfl) (tf103 h64 (by omega)) ?_
                    show Ex d 236 184 [(4, 0), (2, ((v1 : Nat) : Int)), (2, ((v2 : Nat) : Int)), (0, s.1)] [(0, q64.1)] (s.2.1, s.2.2.1, q64.2) rr
                    refine Ex_run 6 (i' := 190) (L' := [(4, 0), (2, ((v1 : Nat) : Int)), (2, ((v2 : Nat) : Int)), (0, s.1)]) (st' := [(0, (q64.2 0 (g_add s.1 1))), (2, ((v2 : Nat) : Int)), (0, q64.1)]) (h' := (s.2.1, s.2.2.1, q64.2)) hm rfl (cjc g62 cjn) ?_
                    obtain ⟨g65, e⟩ := gd_s e
                    obtain ⟨q66, h66, e⟩ := bn_s e
                    refine Ex_callm (z := 164) (na := 2) (ck := 15) (as := [(2, ((v2 : Nat) : Int)), (0, (q64.2 0 (g_add s.1 1)))]) (rest := [(0, q64.1)]) (E0 := [(2, ((v2 : Nat) : Int)), (0, (q64.2 0 (g_add s.1 1)))]) (v := some (0, q66.1)) (h1 := (s.2.1, s.2.2.1, q66.2)) hm rfl (by omega) ⟨Nat.le_of_ble_eq_true rfl, Nat.le_of_ble_eq_true rfl⟩ (rc2 rfl g65) rfl rfl ml_164 rfl (Nat.le_of_ble_eq_true rfl) (tf164 h66 (by omega)) ?_
                    show Ex d 236 191 [(4, 0), (2, ((v1 : Nat) : Int)), (2, ((v2 : Nat) : Int)), (0, s.1)] [(0, q66.1), (0, q64.1)] (s.2.1, s.2.2.1, q66.2) rr
                    by_cases c67 : q64.1 = q66.1
                    · replace e := it_p e c67
                      refine Ex_if2t (c := 0) (tgt := 951) hm rfl (bt0 c67) ?_
                      refine Ex_run 2 (i' := 16) (L' := [(4, 0), (2, ((v1 : Nat) : Int)), (2, ((v2 : Nat) : Int)), (0, (w32 (s.1 + 6)))]) (st' := []) (h' := (s.2.1, s.2.2.1, q66.2)) hm rfl cjn ?_
                      cases e
                      exact hk
                    · replace e := it_n e c67
                      refine Ex_if2f (c := 0) (tgt := 951) hm rfl (bf0 c67) ?_
                      obtain ⟨x, e, hx⟩ := xr_s e
                      replace hk : Hi x rr := by rw [hx] at hk; exact hk
                      refine Ex_run 1 (i' := 193) (L' := [(4, 0), (2, ((v1 : Nat) : Int)), (2, ((v2 : Nat) : Int)), (0, s.1)]) (st' := [(0, 0)]) (h' := (s.2.1, s.2.2.1, q66.2)) hm rfl cjn ?_
                      cases e
                      cases hk
                      exact Ex_ret (k := 2) hm rfl ⟨_, rfl, by decide, rfl⟩
                  · replace e := it_n e c61
                    by_cases c68 : (g_and (s.2.2.2 0 s.1) 63) = 8
                    · replace e := it_p e c68
                      refine Ex_sw (lo := 0) (tg := [28, 65, 82, 109, 126, 143, 160, 177, 194, 222, 263, 290, 317, 344, 361, 388, 405, 422, 449, 477, 528, 535, 552, 580, 607, 624, 641, 712, 729, 746, 783, 820, 877, 924]) (df := 951) hm rfl 8 rfl c68 ?_
                      obtain ⟨g69, e⟩ := gd_s e
                      obtain ⟨g70, e⟩ := gd_s e
                      refine Ex_run 11 (i' := 205) (L' := [(4, 0), (2, ((v1 : Nat) : Int)), (2, ((v2 : Nat) : Int)), (0, s.1)]) (st' := [(0, (s.2.2.2 0 (g_add s.1 2))), (0, (s.2.2.2 0 (g_add s.1 1))), (2, ((v1 : Nat) : Int))]) (h' := (s.2.1, s.2.2.1, s.2.2.2)) hm rfl (cjc g69 (cjc g70 cjn)) ?_
                      obtain ⟨g71, e⟩ := gd_s e
                      obtain ⟨q72, h72, e⟩ := bn_s e
                      refine Ex_callm (z := 104) (na := 3) (ck := 14) (as := [(2, ((v1 : Nat) : Int)), (0, (s.2.2.2 0 (g_add s.1 1))), (0, (s.2.2.2 0 (g_add s.1 2)))]) (rest := []) (E0 := [(2, ((v1 : Nat) : Int)), (0, (s.2.2.2 0 (g_add s.1 1))), (0, (s.2.2.2 0 (g_add s.1 2)))]) (v := some (1, q72.1)) (h1 := (s.2.1, s.2.2.1, q72.2)) hm rfl (by omega) ⟨Nat.le_of_ble_eq_true rfl, Nat.le_of_ble_eq_true rfl⟩ (rc2 rfl g71) rfl rfl ml_104 rfl (Nat.le_of_ble_eq_true rfl) (tf104 h72 (by omega)) ?_
                      show Ex d 236 206 [(4, 0), (2, ((v1 : Nat) : Int)), (2, ((v2 : Nat) : Int)), (0, s.1)] [(1, q72.1)] (s.2.1, s.2.2.1, q72.2) rr
                      refine Ex_run 11 (i' := 217) (L' := [(4, 0), (2, ((v1 : Nat) : Int)), (2, ((v2 : Nat) : Int)), (0, s.1)]) (st' := [(0, (q72.2 0 (g_add s.1 2))), (0, (q72.2 0 (g_add s.1 1))), (2, ((v2 : Nat) : Int)), (1, q72.1)]) (h' := (s.2.1, s.2.2.1, q72.2)) hm rfl (cjc g69 (cjc g70 cjn)) ?_
                      obtain ⟨g73, e⟩ := gd_s e
                      obtain ⟨q74, h74, e⟩ := bn_s e
                      refine Ex_callm (z := 165) (na := 3) (ck := 15) (as := [(2, ((v2 : Nat) : Int)), (0, (q72.2 0 (g_add s.1 1))), (0, (q72.2 0 (g_add s.1 2)))]) (rest := [(1, q72.1)]) (E0 := [(2, ((v2 : Nat) : Int)), (0, (q72.2 0 (g_add s.1 1))), (0, (q72.2 0 (g_add s.1 2))), (9, 0), (9, 0), (9, 0), (9, 0), (9, 0), (9, 0)]) (v := some (1, q74.1)) (h1 := (s.2.1, s.2.2.1, q74.2)) hm rfl (by omega) ⟨Nat.le_of_ble_eq_true rfl, Nat.le_of_ble_eq_true rfl⟩ (rc2 rfl g73) rfl rfl ml_165 rfl (Nat.le_of_ble_eq_true rfl) (tf165 h74 (by omega)) ?_
                      show Ex d 236 218 [(4, 0), (2, ((v1 : Nat) : Int)), (2, ((v2 : Nat) : Int)), (0, s.1)] [(1, q74.1), (1, q72.1)] (s.2.1, s.2.2.1, q74.2) rr
                      refine Ex_run 1 (i' := 219) (L' := [(4, 0), (2, ((v1 : Nat) : Int)), (2, ((v2 : Nat) : Int)), (0, s.1)]) (st' := [(0, (lcm3 q72.1 q74.1))]) (h' := (s.2.1, s.2.2.1, q74.2)) hm rfl cjn ?_
                      by_cases c75 : q72.1 = q74.1
                      · replace e := it_p e c75
                        refine Ex_if1t (c := 0) (tgt := 951) hm rfl (cm_lc 0 _ _ (bt0 c75)) ?_
                        refine Ex_run 2 (i' := 16) (L' := [(4, 0), (2, ((v1 : Nat) : Int)), (2, ((v2 : Nat) : Int)), (0, (w32 (s.1 + 6)))]) (st' := []) (h' := (s.2.1, s.2.2.1, q74.2)) hm rfl cjn ?_
                        cases e
                        exact hk
                      · replace e := it_n e c75
                        refine Ex_if1f (c := 0) (tgt := 951) hm rfl (cm_lc 0 _ _ (bf0 c75)) ?_
                        obtain ⟨x, e, hx⟩ := xr_s e
                        replace hk : Hi x rr := by rw [hx] at hk; exact hk
                        refine Ex_run 1 (i' := 221) (L' := [(4, 0), (2, ((v1 : Nat) : Int)), (2, ((v2 : Nat) : Int)), (0, s.1)]) (st' := [(0, 0)]) (h' := (s.2.1, s.2.2.1, q74.2)) hm rfl cjn ?_
                        cases e
                        cases hk
                        exact Ex_ret (k := 2) hm rfl ⟨_, rfl, by decide, rfl⟩
                    · replace e := it_n e c68
                      by_cases c76 : (g_and (s.2.2.2 0 s.1) 63) = 9
                      · replace e := it_p e c76
                        refine Ex_sw (lo := 0) (tg := [28, 65, 82, 109, 126, 143, 160, 177, 194, 222, 263, 290, 317, 344, 361, 388, 405, 422, 449, 477, 528, 535, 552, 580, 607, 624, 641, 712, 729, 746, 783, 820, 877, 924]) (df := 951) hm rfl 9 rfl c76 ?_
                        obtain ⟨g77, e⟩ := gd_s e
                        obtain ⟨g78, e⟩ := gd_s e
                        refine Ex_run 18 (i' := 240) (L' := [(4, 0), (2, ((v1 : Nat) : Int)), (2, ((v2 : Nat) : Int)), (0, s.1)]) (st' := [(1, (k_or (k_shl (s.2.2.2 0 (g_add s.1 1)) 32) (k_and (s.2.2.2 0 (g_add s.1 2)) 4294967295))), (2, ((v1 : Nat) : Int))]) (h' := (s.2.1, s.2.2.1, s.2.2.2)) hm rfl (cjc g77 (cjc g78 cjn)) ?_
                        obtain ⟨g79, e⟩ := gd_s e
                        obtain ⟨q80, h80, e⟩ := bn_s e
                        refine Ex_callm (z := 105) (na := 2) (ck := 14) (as := [(2, ((v1 : Nat) : Int)), (1, (k_or (k_shl (s.2.2.2 0 (g_add s.1 1)) 32) (k_and (s.2.2.2 0 (g_add s.1 2)) 4294967295)))]) (rest := []) (E0 := [(2, ((v1 : Nat) : Int)), (1, (k_or (k_shl (s.2.2.2 0 (g_add s.1 1)) 32) (k_and (s.2.2.2 0 (g_add s.1 2)) 4294967295))), (9, 0)]) (v := some (0, q80)) (h1 := (s.2.1, s.2.2.1, s.2.2.2)) hm rfl (by omega) ⟨Nat.le_of_ble_eq_true rfl, Nat.le_of_ble_eq_true rfl⟩ (rc2 rfl g79) rfl rfl ml_105 rfl (Nat.le_of_ble_eq_true rfl) (tf105 h80 (by omega)) ?_
                        show Ex d 236 241 [(4, 0), (2, ((v1 : Nat) : Int)), (2, ((v2 : Nat) : Int)), (0, s.1)] [(0, q80)] (s.2.1, s.2.2.1, s.2.2.2) rr
                        refine Ex_run 18 (i' := 259) (L' := [(4, 0), (2, ((v1 : Nat) : Int)), (2, ((v2 : Nat) : Int)), (0, s.1)]) (st' := [(1, (k_or (k_shl (s.2.2.2 0 (g_add s.1 1)) 32) (k_and (s.2.2.2 0 (g_add s.1 2)) 4294967295))), (2, ((v2 : Nat) : Int)), (0, q80)]) (h' := (s.2.1, s.2.2.1, s.2.2.2)) hm rfl (cjc g77 (cjc g78 cjn)) ?_
                        obtain ⟨g81, e⟩ := gd_s e
                        obtain ⟨q82, h82, e⟩ := bn_s e
                        refine Ex_callm (z := 167) (na := 2) (ck := 15) (as := [(2, ((v2 : Nat) : Int)), (1, (k_or (k_shl (s.2.2.2 0 (g_add s.1 1)) 32) (k_and (s.2.2.2 0 (g_add s.1 2)) 4294967295)))]) (rest := [(0, q80)]) (E0 := [(2, ((v2 : Nat) : Int)), (1, (k_or (k_shl (s.2.2.2 0 (g_add s.1 1)) 32) (k_and (s.2.2.2 0 (g_add s.1 2)) 4294967295))), (9, 0), (9, 0), (9, 0), (9, 0), (9, 0), (9, 0), (9, 0), (9, 0)]) (v := some (0, q82.1)) (h1 := (s.2.1, s.2.2.1, q82.2)) hm rfl (by omega) ⟨Nat.le_of_ble_eq_true rfl, Nat.le_of_ble_eq_true rfl⟩ (rc2 rfl g81) rfl rfl ml_167 rfl (Nat.le_of_ble_eq_true rfl) (tf167 h82 (by omega)) ?_
                        show Ex d 236 260 [(4, 0), (2, ((v1 : Nat) : Int)), (2, ((v2 : Nat) : Int)), (0, s.1)] [(0, q82.1), (0, q80)] (s.2.1, s.2.2.1, q82.2) rr
                        by_cases c83 : q80 = q82.1
                        · replace e := it_p e c83
                          refine Ex_if2t (c := 0) (tgt := 951) hm rfl (bt0 c83) ?_
                          refine Ex_run 2 (i' := 16) (L' := [(4, 0), (2, ((v1 : Nat) : Int)), (2, ((v2 : Nat) : Int)), (0, (w32 (s.1 + 6)))]) (st' := []) (h' := (s.2.1, s.2.2.1, q82.2)) hm rfl cjn ?_
                          cases e
                          exact hk
                        · replace e := it_n e c83
                          refine Ex_if2f (c := 0) (tgt := 951) hm rfl (bf0 c83) ?_
                          obtain ⟨x, e, hx⟩ := xr_s e
                          replace hk : Hi x rr := by rw [hx] at hk; exact hk
                          refine Ex_run 1 (i' := 262) (L' := [(4, 0), (2, ((v1 : Nat) : Int)), (2, ((v2 : Nat) : Int)), (0, s.1)]) (st' := [(0, 0)]) (h' := (s.2.1, s.2.2.1, q82.2)) hm rfl cjn ?_
                          cases e
                          cases hk
                          exact Ex_ret (k := 2) hm rfl ⟨_, rfl, by decide, rfl⟩
                      · replace e := it_n e c76
                        by_cases c84 : (g_and (s.2.2.2 0 s.1) 63) = 10
                        · replace e := it_p e c84
                          refine Ex_sw (lo := 0) (tg := [28, 65, 82, 109, 126, 143, 160, 177, 194, 222, 263, 290, 317, 344, 361, 388, 405, 422, 449, 477, 528, 535, 552, 580, 607, 624, 641, 712, 729, 746, 783, 820, 877, 924]) (df := 951) hm rfl 10 rfl c84 ?_
                          obtain ⟨g85, e⟩ := gd_s e
                          obtain ⟨g86, e⟩ := gd_s e
                          refine Ex_run 11 (i' := 274) (L' := [(4, 0), (2, ((v1 : Nat) : Int)), (2, ((v2 : Nat) : Int)), (0, s.1)]) (st' := [(0, (s.2.2.2 0 (g_add s.1 2))), (0, (s.2.2.2 0 (g_add s.1 1))), (2, ((v1 : Nat) : Int))]) (h' := (s.2.1, s.2.2.1, s.2.2.2)) hm rfl (cjc g85 (cjc g86 cjn)) ?_
                          obtain ⟨g87, e⟩ := gd_s e
                          obtain ⟨q88, h88, e⟩ := bn_s e
                          refine Ex_callm (z := 106) (na := 3) (ck := 14) (as := [(2, ((v1 : Nat) : Int)), (0, (s.2.2.2 0 (g_add s.1 1))), (0, (s.2.2.2 0 (g_add s.1 2)))]) (rest := []) (E0 := [(2, ((v1 : Nat) : Int)), (0, (s.2.2.2 0 (g_add s.1 1))), (0, (s.2.2.2 0 (g_add s.1 2))), (9, 0)]) (v := some (0, q88.1)) (h1 := (s.2.1, s.2.2.1, q88.2)) hm rfl (by omega) ⟨Nat.le_of_ble_eq_true rfl, Nat.le_of_ble_eq_true rfl⟩ (rc2 rfl g87) rfl rfl ml_106 rfl (Nat.le_of_ble_eq_true rfl) (tf106 h88 (by omega)) ?_
                          show Ex d 236 275 [(4, 0), (2, ((v1 : Nat) : Int)), (2, ((v2 : Nat) : Int)), (0, s.1)] [(0, q88.1)] (s.2.1, s.2.2.1, q88.2) rr
                          refine Ex_run 11 (i' := 286) (L' := [(4, 0), (2, ((v1 : Nat) : Int)), (2, ((v2 : Nat) : Int)), (0, s.1)]) (st' := [(0, (q88.2 0 (g_add s.1 2))), (0, (q88.2 0 (g_add s.1 1))), (2, ((v2 : Nat) : Int)), (0, q88.1)]) (h' := (s.2.1, s.2.2.1, q88.2)) hm rfl (cjc g85 (cjc g86 cjn)) ?_
                          obtain ⟨g89, e⟩ := gd_s e
                          obtain ⟨q90, h90, e⟩ := bn_s e
                          refine Ex_callm (z := 170) (na := 3) (ck := 15) (as := [(2, ((v2 : Nat) : Int)), (0, (q88.2 0 (g_add s.1 1))), (0, (q88.2 0 (g_add s.1 2)))]) (rest := [(0, q88.1)]) (E0 := [(2, ((v2 : Nat) : Int)), (0, (q88.2 0 (g_add s.1 1))), (0, (q88.2 0 (g_add s.1 2)))]) (v := some (0, q90.1)) (h1 := (s.2.1, s.2.2.1, q90.2)) hm rfl (by omega) ⟨Nat.le_of_ble_eq_true rfl, Nat.le_of_ble_eq_true rfl⟩ (rc2 rfl g89) rfl rfl ml_170 rfl (Nat.le_of_ble_eq_true rfl) (tf170 h90 (by omega)) ?_
                          show Ex d 236 287 [(4, 0), (2, ((v1 : Nat) : Int)), (2, ((v2 : Nat) : Int)), (0, s.1)] [(0, q90.1), (0, q88.1)] (s.2.1, s.2.2.1, q90.2) rr
                          by_cases c91 : q88.1 = q90.1
                          · replace e := it_p e c91
                            refine Ex_if2t (c := 0) (tgt := 951) hm rfl (bt0 c91) ?_
                            refine Ex_run 2 (i' := 16) (L' := [(4, 0), (2, ((v1 : Nat) : Int)), (2, ((v2 : Nat) : Int)), (0, (w32 (s.1 + 6)))]) (st' := []) (h' := (s.2.1, s.2.2.1, q90.2)) hm rfl cjn ?_
                            cases e
                            exact hk
                          · replace e := it_n e c91
                            refine Ex_if2f (c := 0) (tgt := 951) hm rfl (bf0 c91) ?_
                            obtain ⟨x, e, hx⟩ := xr_s e
                            replace hk : Hi x rr := by rw [hx] at hk; exact hk
                            refine Ex_run 1 (i' := 289) (L' := [(4, 0), (2, ((v1 : Nat) : Int)), (2, ((v2 : Nat) : Int)), (0, s.1)]) (st' := [(0, 0)]) (h' := (s.2.1, s.2.2.1, q90.2)) hm rfl cjn ?_
                            cases e
                            cases hk
                            exact Ex_ret (k := 2) hm rfl ⟨_, rfl, by decide, rfl⟩
                        · replace e := it_n e c84
                          by_cases c92 : (g_and (s.2.2.2 0 s.1) 63) = 11
                          · replace e := it_p e c92
                            refine Ex_sw (lo := 0) (tg := [28, 65, 82, 109, 126, 143, 160, 177, 194, 222, 263, 290, 317, 344, 361, 388, 405, 422, 449, 477, 528, 535, 552, 580, 607, 624, 641, 712, 729, 746, 783, 820, 877, 924]) (df := 951) hm rfl 11 rfl c92 ?_
                            obtain ⟨g93, e⟩ := gd_s e
                            obtain ⟨g94, e⟩ := gd_s e
                            refine Ex_run 11 (i' := 301) (L' := [(4, 0), (2, ((v1 : Nat) : Int)), (2, ((v2 : Nat) : Int)), (0, s.1)]) (st' := [(0, (s.2.2.2 0 (g_add s.1 2))), (0, (s.2.2.2 0 (g_add s.1 1))), (2, ((v1 : Nat) : Int))]) (h' := (s.2.1, s.2.2.1, s.2.2.2)) hm rfl (cjc g93 (cjc g94 cjn)) ?_
                            obtain ⟨g95, e⟩ := gd_s e
                            obtain ⟨q96, h96, e⟩ := bn_s e
                            refine Ex_callm (z := 107) (na := 3) (ck := 14) (as := [(2, ((v1 : Nat) : Int)), (0, (s.2.2.2 0 (g_add s.1 1))), (0, (s.2.2.2 0 (g_add s.1 2)))]) (rest := []) (E0 := [(2, ((v1 : Nat) : Int)), (0, (s.2.2.2 0 (g_add s.1 1))), (0, (s.2.2.2 0 (g_add s.1 2)))]) (v := some (0, q96.1)) (h1 := (s.2.1, s.2.2.1, q96.2)) hm rfl (by omega) ⟨Nat.le_of_ble_eq_true rfl, Nat.le_of_ble_eq_true rfl⟩ (rc2 rfl g95) rfl rfl ml_107 rfl (Nat.le_of_ble_eq_true rfl) (tf107 h96 (by omega)) ?_
                            show Ex d 236 302 [(4, 0), (2, ((v1 : Nat) : Int)), (2, ((v2 : Nat) : Int)), (0, s.1)] [(0, q96.1)] (s.2.1, s.2.2.1, q96.2) rr
                            refine Ex_run 11 (i' := 313) (L' := [(4, 0), (2, ((v1 : Nat) : Int)), (2, ((v2 : Nat) : Int)), (0, s.1)]) (st' := [(0, (q96.2 0 (g_add s.1 2))), (0, (q96.2 0 (g_add s.1 1))), (2, ((v2 : Nat) : Int)), (0, q96.1)]) (h' := (s.2.1, s.2.2.1, q96.2)) hm rfl (cjc g93 (cjc g94 cjn)) ?_
                            obtain ⟨g97, e⟩ := gd_s e
                            obtain ⟨q98, h98, e⟩ := bn_s e
                            refine Ex_callm (z := 172) (na := 3) (ck := 15) (as := [(2, ((v2 : Nat) : Int)), (0, (q96.2 0 (g_add s.1 1))), (0, (q96.2 0 (g_add s.1 2)))]) (rest := [(0, q96.1)]) (E0 := [(2, ((v2 : Nat) : Int)), (0, (q96.2 0 (g_add s.1 1))), (0, (q96.2 0 (g_add s.1 2)))]) (v := some (0, q98.1)) (h1 := (s.2.1, s.2.2.1, q98.2)) hm rfl (by omega) ⟨Nat.le_of_ble_eq_true rfl, Nat.le_of_ble_eq_true rfl⟩ (rc2 rfl g97) rfl rfl ml_172 rfl (Nat.le_of_ble_eq_true rfl) (tf172 h98 (by omega)) ?_
                            show Ex d 236 314 [(4, 0), (2, ((v1 : Nat) : Int)), (2, ((v2 : Nat) : Int)), (0, s.1)] [(0, q98.1), (0, q96.1)] (s.2.1, s.2.2.1, q98.2) rr
                            by_cases c99 : q96.1 = q98.1
                            · replace e := it_p e c99
                              refine Ex_if2t (c := 0) (tgt := 951) hm rfl (bt0 c99) ?_
                              refine Ex_run 2 (i' := 16) (L' := [(4, 0), (2, ((v1 : Nat) : Int)), (2, ((v2 : Nat) : Int)), (0, (w32 (s.1 + 6)))]) (st' := []) (h' := (s.2.1, s.2.2.1, q98.2)) hm rfl cjn ?_
                              cases e
                              exact hk
                            · replace e := it_n e c99
                              refine Ex_if2f (c := 0) (tgt := 951) hm rfl (bf0 c99) ?_
                              obtain ⟨x, e, hx⟩ := xr_s e
                              replace hk : Hi x rr := by rw [hx] at hk; exact hk
                              refine Ex_run 1 (i' := 316) (L' := [(4, 0), (2, ((v1 : Nat) : Int)), (2, ((v2 : Nat) : Int)), (0, s.1)]) (st' := [(0, 0)]) (h' := (s.2.1, s.2.2.1, q98.2)) hm rfl cjn ?_
                              cases e
                              cases hk
                              exact Ex_ret (k := 2) hm rfl ⟨_, rfl, by decide, rfl⟩
                          · replace e := it_n e c92
                            by_cases c100 : (g_and (s.2.2.2 0 s.1) 63) = 12
                            · replace e := it_p e c100
                              refine Ex_sw (lo := 0) (tg := [28, 65, 82, 109, 126, 143, 160, 177, 194, 222, 263, 290, 317, 344, 361, 388, 405, 422, 449, 477, 528, 535, 552, 580, 607, 624, 641, 712, 729, 746, 783, 820, 877, 924]) (df := 951) hm rfl 12 rfl c100 ?_
                              obtain ⟨g101, e⟩ := gd_s e
                              obtain ⟨g102, e⟩ := gd_s e
                              refine Ex_run 11 (i' := 328) (L' := [(4, 0), (2, ((v1 : Nat) : Int)), (2, ((v2 : Nat) : Int)), (0, s.1)]) (st' := [(0, (s.2.2.2 0 (g_add s.1 2))), (0, (s.2.2.2 0 (g_add s.1 1))), (2, ((v1 : Nat) : Int))]) (h' := (s.2.1, s.2.2.1, s.2.2.2)) hm rfl (cjc g101 (cjc g102 cjn)) ?_
                              obtain ⟨g103, e⟩ := gd_s e
                              obtain ⟨q104, h104, e⟩ := bn_s e
                              refine Ex_callm (z := 108) (na := 3) (ck := 14) (as := [(2, ((v1 : Nat) : Int)), (0, (s.2.2.2 0 (g_add s.1 1))), (0, (s.2.2.2 0 (g_add s.1 2)))]) (rest := []) (E0 := [(2, ((v1 : Nat) : Int)), (0, (s.2.2.2 0 (g_add s.1 1))), (0, (s.2.2.2 0 (g_add s.1 2))), (9, 0)]) (v := some (0, q104.1)) (h1 := (s.2.1, s.2.2.1, q104.2)) hm rfl (by omega) ⟨Nat.le_of_ble_eq_true rfl, Nat.le_of_ble_eq_true rfl⟩ (rc2 rfl g103) rfl rfl ml_108 rfl (Nat.le_of_ble_eq_true rfl) (tf108 h104 (by omega)) ?_
                              show Ex d 236 329 [(4, 0), (2, ((v1 : Nat) : Int)), (2, ((v2 : Nat) : Int)), (0, s.1)] [(0, q104.1)] (s.2.1, s.2.2.1, q104.2) rr
                              refine Ex_run 11 (i' := 340) (L' := [(4, 0), (2, ((v1 : Nat) : Int)), (2, ((v2 : Nat) : Int)), (0, s.1)]) (st' := [(0, (q104.2 0 (g_add s.1 2))), (0, (q104.2 0 (g_add s.1 1))), (2, ((v2 : Nat) : Int)), (0, q104.1)]) (h' := (s.2.1, s.2.2.1, q104.2)) hm rfl (cjc g101 (cjc g102 cjn)) ?_
                              obtain ⟨g105, e⟩ := gd_s e
                              obtain ⟨q106, h106, e⟩ := bn_s e
                              refine Ex_callm (z := 173) (na := 3) (ck := 15) (as := [(2, ((v2 : Nat) : Int)), (0, (q104.2 0 (g_add s.1 1))), (0, (q104.2 0 (g_add s.1 2)))]) (rest := [(0, q104.1)]) (E0 := [(2, ((v2 : Nat) : Int)), (0, (q104.2 0 (g_add s.1 1))), (0, (q104.2 0 (g_add s.1 2))), (9, 0)]) (v := some (0, q106.1)) (h1 := (s.2.1, s.2.2.1, q106.2)) hm rfl (by omega) ⟨Nat.le_of_ble_eq_true rfl, Nat.le_of_ble_eq_true rfl⟩ (rc2 rfl g105) rfl rfl ml_173 rfl (Nat.le_of_ble_eq_true rfl) (tf173 h106 (by omega)) ?_
                              show Ex d 236 341 [(4, 0), (2, ((v1 : Nat) : Int)), (2, ((v2 : Nat) : Int)), (0, s.1)] [(0, q106.1), (0, q104.1)] (s.2.1, s.2.2.1, q106.2) rr
                              by_cases c107 : q104.1 = q106.1
                              · replace e := it_p e c107
                                refine Ex_if2t (c := 0) (tgt := 951) hm rfl (bt0 c107) ?_
                                refine Ex_run 2 (i' := 16) (L' := [(4, 0), (2, ((v1 : Nat) : Int)), (2, ((v2 : Nat) : Int)), (0, (w32 (s.1 + 6)))]) (st' := []) (h' := (s.2.1, s.2.2.1, q106.2)) hm rfl cjn ?_
                                cases e
                                exact hk
                              · replace e := it_n e c107
                                refine Ex_if2f (c := 0) (tgt := 951) hm rfl (bf0 c107) ?_
                                obtain ⟨x, e, hx⟩ := xr_s e
                                replace hk : Hi x rr := by rw [hx] at hk; exact hk
                                refine Ex_run 1 (i' := 343) (L' := [(4, 0), (2, ((v1 : Nat) : Int)), (2, ((v2 : Nat) : Int)), (0, s.1)]) (st' := [(0, 0)]) (h' := (s.2.1, s.2.2.1, q106.2)) hm rfl cjn ?_
                                cases e
                                cases hk
                                exact Ex_ret (k := 2) hm rfl ⟨_, rfl, by decide, rfl⟩
                            · replace e := it_n e c100
                              by_cases c108 : (g_and (s.2.2.2 0 s.1) 63) = 13
                              · replace e := it_p e c108
                                refine Ex_sw (lo := 0) (tg := [28, 65, 82, 109, 126, 143, 160, 177, 194, 222, 263, 290, 317, 344, 361, 388, 405, 422, 449, 477, 528, 535, 552, 580, 607, 624, 641, 712, 729, 746, 783, 820, 877, 924]) (df := 951) hm rfl 13 rfl c108 ?_
                                obtain ⟨g109, e⟩ := gd_s e
                                refine Ex_run 6 (i' := 350) (L' := [(4, 0), (2, ((v1 : Nat) : Int)), (2, ((v2 : Nat) : Int)), (0, s.1)]) (st' := [(0, (s.2.2.2 0 (g_add s.1 1))), (2, ((v1 : Nat) : Int))]) (h' := (s.2.1, s.2.2.1, s.2.2.2)) hm rfl (cjc g109 cjn) ?_
                                obtain ⟨g110, e⟩ := gd_s e
                                obtain ⟨q111, h111, e⟩ := bn_s e
                                refine Ex_callm (z := 109) (na := 2) (ck := 14) (as := [(2, ((v1 : Nat) : Int)), (0, (s.2.2.2 0 (g_add s.1 1)))]) (rest := []) (E0 := [(2, ((v1 : Nat) : Int)), (0, (s.2.2.2 0 (g_add s.1 1)))]) (v := some (0, q111.1)) (h1 := (s.2.1, s.2.2.1, q111.2)) hm rfl (by omega) ⟨Nat.le_of_ble_eq_true rfl, Nat.le_of_ble_eq_true rfl⟩ (rc2 rfl g110) rfl rfl ml_109 rfl (Nat.le_of_ble_eq_true rfl) (tf109 h111 (by omega)) ?_
                                show Ex d 236 351 [(4, 0), (2, ((v1 : Nat) : Int)), (2, ((v2 : Nat) : Int)), (0, s.1)] [(0, q111.1)] (s.2.1, s.2.2.1, q111.2) rr
                                refine Ex_run 6 (i' := 357) (L' := [(4, 0), (2, ((v1 : Nat) : Int)), (2, ((v2 : Nat) : Int)), (0, s.1)]) (st' := [(0, (q111.2 0 (g_add s.1 1))), (2, ((v2 : Nat) : Int)), (0, q111.1)]) (h' := (s.2.1, s.2.2.1, q111.2)) hm rfl (cjc g109 cjn) ?_
                                obtain ⟨g112, e⟩ := gd_s e
                                obtain ⟨q113, h113, e⟩ := bn_s e
                                refine Ex_callm (z := 175) (na := 2) (ck := 15) (as := [(2, ((v2 : Nat) : Int)), (0, (q111.2 0 (g_add s.1 1)))]) (rest := [(0, q111.1)]) (E0 := [(2, ((v2 : Nat) : Int)), (0, (q111.2 0 (g_add s.1 1)))]) (v := some (0, q113.1)) (h1 := (s.2.1, s.2.2.1, q113.2)) hm rfl (by omega) ⟨Nat.le_of_ble_eq_true rfl, Nat.le_of_ble_eq_true rfl⟩ (rc2 rfl g112) rfl rfl ml_175 rfl (Nat.le_of_ble_eq_true rfl) (tf175 h113 (by omega)) ?_
                                show Ex d 236 358 [(4, 0), (2, ((v1 : Nat) : Int)), (2, ((v2 : Nat) : Int)), (0, s.1)] [(0, q113.1), (0, q111.1)] (s.2.1, s.2.2.1, q113.2) rr
                                by_cases c114 : q111.1 = q113.1
                                · replace e := it_p e c114
                                  refine Ex_if2t (c := 0) (tgt := 951) hm rfl (bt0 c114) ?_
                                  refine Ex_run 2 (i' := 16) (L' := [(4, 0), (2, ((v1 : Nat) : Int)), (2, ((v2 : Nat) : Int)), (0, (w32 (s.1 + 6)))]) (st' := []) (h' := (s.2.1, s.2.2.1, q113.2)) hm rfl cjn ?_
                                  cases e
                                  exact hk
                                · replace e := it_n e c114
                                  refine Ex_if2f (c := 0) (tgt := 951) hm rfl (bf0 c114) ?_
                                  obtain ⟨x, e, hx⟩ := xr_s e
                                  replace hk : Hi x rr := by rw [hx] at hk; exact hk
                                  refine Ex_run 1 (i' := 360) (L' := [(4, 0), (2, ((v1 : Nat) : Int)), (2, ((v2 : Nat) : Int)), (0, s.1)]) (st' := [(0, 0)]) (h' := (s.2.1, s.2.2.1, q113.2)) hm rfl cjn ?_
                                  cases e
                                  cases hk
                                  exact Ex_ret (k := 2) hm rfl ⟨_, rfl, by decide, rfl⟩
                              · replace e := it_n e c108
                                by_cases c115 : (g_and (s.2.2.2 0 s.1) 63) = 14
                                · replace e := it_p e c115
                                  refine Ex_sw (lo := 0) (tg := [28, 65, 82, 109, 126, 143, 160, 177, 194, 222, 263, 290, 317, 344, 361, 388, 405, 422, 449, 477, 528, 535, 552, 580, 607, 624, 641, 712, 729, 746, 783, 820, 877, 924]) (df := 951) hm rfl 14 rfl c115 ?_
                                  obtain ⟨g116, e⟩ := gd_s e
                                  obtain ⟨g117, e⟩ := gd_s e
                                  refine Ex_run 11 (i' := 372) (L' := [(4, 0), (2, ((v1 : Nat) : Int)), (2, ((v2 : Nat) : Int)), (0, s.1)]) (st' := [(0, (s.2.2.2 0 (g_add s.1 2))), (0, (s.2.2.2 0 (g_add s.1 1))), (2, ((v1 : Nat) : Int))]) (h' := (s.2.1, s.2.2.1, s.2.2.2)) hm rfl (cjc g116 (cjc g117 cjn)) ?_
                                  obtain ⟨g118, e⟩ := gd_s e
                                  obtain ⟨q119, h119, e⟩ := bn_s e
                                  refine Ex_callm (z := 110) (na := 3) (ck := 14) (as := [(2, ((v1 : Nat) : Int)), (0, (s.2.2.2 0 (g_add s.1 1))), (0, (s.2.2.2 0 (g_add s.1 2)))]) (rest := []) (E0 := [(2, ((v1 : Nat) : Int)), (0, (s.2.2.2 0 (g_add s.1 1))), (0, (s.2.2.2 0 (g_add s.1 2)))]) (v := some (0, q119)) (h1 := (s.2.1, s.2.2.1, s.2.2.2)) hm rfl (by omega) ⟨Nat.le_of_ble_eq_true rfl, Nat.le_of_ble_eq_true rfl⟩ (rc2 rfl g118) rfl rfl ml_110 rfl (Nat.le_of_ble_eq_true rfl) (tf110 h119 (by omega)) ?_
                                  show Ex d 236 373 [(4, 0), (2, ((v1 : Nat) : Int)), (2, ((v2 : Nat) : Int)), (0, s.1)] [(0, q119)] (s.2.1, s.2.2.1, s.2.2.2) rr
                                  refine Ex_run 11 (i' := 384) (L' := [(4, 0), (2, ((v1 : Nat) : Int)), (2, ((v2 : Nat) : Int)), (0, s.1)]) (st' := [(0, (s.2.2.2 0 (g_add s.1 2))), (0, (s.2.2.2 0 (g_add s.1 1))), (2, ((v2 : Nat) : Int)), (0, q119)]) (h' := (s.2.1, s.2.2.1, s.2.2.2)) hm rfl (cjc g116 (cjc g117 cjn)) ?_
                                  obtain ⟨g120, e⟩ := gd_s e
                                  obtain ⟨q121, h121, e⟩ := bn_s e
                                  refine Ex_callm (z := 177) (na := 3) (ck := 15) (as := [(2, ((v2 : Nat) : Int)), (0, (s.2.2.2 0 (g_add s.1 1))), (0, (s.2.2.2 0 (g_add s.1 2)))]) (rest := [(0, q119)]) (E0 := [(2, ((v2 : Nat) : Int)), (0, (s.2.2.2 0 (g_add s.1 1))), (0, (s.2.2.2 0 (g_add s.1 2)))]) (v := some (0, q121)) (h1 := (s.2.1, s.2.2.1, s.2.2.2)) hm rfl (by omega) ⟨Nat.le_of_ble_eq_true rfl, Nat.le_of_ble_eq_true rfl⟩ (rc2 rfl g120) rfl rfl ml_177 rfl (Nat.le_of_ble_eq_true rfl) (tf177 h121 (by omega)) ?_
                                  show Ex d 236 385 [(4, 0), (2, ((v1 : Nat) : Int)), (2, ((v2 : Nat) : Int)), (0, s.1)] [(0, q121), (0, q119)] (s.2.1, s.2.2.1, s.2.2.2) rr
                                  by_cases c122 : q119 = q121
                                  · replace e := it_p e c122
                                    refine Ex_if2t (c := 0) (tgt := 951) hm rfl (bt0 c122) ?_
                                    refine Ex_run 2 (i' := 16) (L' := [(4, 0), (2, ((v1 : Nat) : Int)), (2, ((v2 : Nat) : Int)), (0, (w32 (s.1 + 6)))]) (st' := []) (h' := (s.2.1, s.2.2.1, s.2.2.2)) hm rfl cjn ?_
                                    cases e
                                    exact hk
                                  · replace e := it_n e c122
                                    refine Ex_if2f (c := 0) (tgt := 951) hm rfl (bf0 c122) ?_
                                    obtain ⟨x, e, hx⟩ := xr_s e
                                    replace hk : Hi x rr := by rw [hx] at hk; exact hk
                                    refine Ex_run 1 (i' := 387) (L' := [(4, 0), (2, ((v1 : Nat) : Int)), (2, ((v2 : Nat) : Int)), (0, s.1)]) (st' := [(0, 0)]) (h' := (s.2.1, s.2.2.1, s.2.2.2)) hm rfl cjn ?_
                                    cases e
                                    cases hk
                                    exact Ex_ret (k := 2) hm rfl ⟨_, rfl, by decide, rfl⟩
                                · replace e := it_n e c115
                                  by_cases c123 : (g_and (s.2.2.2 0 s.1) 63) = 15
                                  · replace e := it_p e c123
                                    refine Ex_sw (lo := 0) (tg := [28, 65, 82, 109, 126, 143, 160, 177, 194, 222, 263, 290, 317, 344, 361, 388, 405, 422, 449, 477, 528, 535, 552, 580, 607, 624, 641, 712, 729, 746, 783, 820, 877, 924]) (df := 951) hm rfl 15 rfl c123 ?_
                                    obtain ⟨g124, e⟩ := gd_s e
                                    refine Ex_run 6 (i' := 394) (L' := [(4, 0), (2, ((v1 : Nat) : Int)), (2, ((v2 : Nat) : Int)), (0, s.1)]) (st' := [(0, (s.2.2.2 0 (g_add s.1 1))), (2, ((v1 : Nat) : Int))]) (h' := (s.2.1, s.2.2.1, s.2.2.2)) hm rfl (cjc g124 cjn) ?_
                                    obtain ⟨g125, e⟩ := gd_s e
                                    obtain ⟨q126, h126, e⟩ := bn_s e
                                    refine Ex_callm (z := 111) (na := 2) (ck := 14) (as := [(2, ((v1 : Nat) : Int)), (0, (s.2.2.2 0 (g_add s.1 1)))]) (rest := []) (E0 := [(2, ((v1 : Nat) : Int)), (0, (s.2.2.2 0 (g_add s.1 1)))]) (v := some (0, q126)) (h1 := (s.2.1, s.2.2.1, s.2.2.2)) hm rfl (by omega) ⟨Nat.le_of_ble_eq_true rfl, Nat.le_of_ble_eq_true rfl⟩ (rc2 rfl g125) rfl rfl ml_111 rfl (Nat.le_of_ble_eq_true rfl) (tf111 h126 (by omega)) ?_
                                    show Ex d 236 395 [(4, 0), (2, ((v1 : Nat) : Int)), (2, ((v2 : Nat) : Int)), (0, s.1)] [(0, q126)] (s.2.1, s.2.2.1, s.2.2.2) rr
                                    refine Ex_run 6 (i' := 401) (L' := [(4, 0), (2, ((v1 : Nat) : Int)), (2, ((v2 : Nat) : Int)), (0, s.1)]) (st' := [(0, (s.2.2.2 0 (g_add s.1 1))), (2, ((v2 : Nat) : Int)), (0, q126)]) (h' := (s.2.1, s.2.2.1, s.2.2.2)) hm rfl (cjc g124 cjn) ?_
                                    obtain ⟨g127, e⟩ := gd_s e
                                    obtain ⟨q128, h128, e⟩ := bn_s e
                                    refine Ex_callm (z := 179) (na := 2) (ck := 15) (as := [(2, ((v2 : Nat) : Int)), (0, (s.2.2.2 0 (g_add s.1 1)))]) (rest := [(0, q126)]) (E0 := [(2, ((v2 : Nat) : Int)), (0, (s.2.2.2 0 (g_add s.1 1)))]) (v := some (0, q128)) (h1 := (s.2.1, s.2.2.1, s.2.2.2)) hm rfl (by omega) ⟨Nat.le_of_ble_eq_true rfl, Nat.le_of_ble_eq_true rfl⟩ (rc2 rfl g127) rfl rfl ml_179 rfl (Nat.le_of_ble_eq_true rfl) (tf179 h128 (by omega)) ?_
                                    show Ex d 236 402 [(4, 0), (2, ((v1 : Nat) : Int)), (2, ((v2 : Nat) : Int)), (0, s.1)] [(0, q128), (0, q126)] (s.2.1, s.2.2.1, s.2.2.2) rr
                                    by_cases c129 : q126 = q128
                                    · replace e := it_p e c129
                                      refine Ex_if2t (c := 0) (tgt := 951) hm rfl (bt0 c129) ?_
                                      refine Ex_run 2 (i' := 16) (L' := [(4, 0), (2, ((v1 : Nat) : Int)), (2, ((v2 : Nat) : Int)), (0, (w32 (s.1 + 6)))]) (st' := []) (h' := (s.2.1, s.2.2.1, s.2.2.2)) hm rfl cjn ?_
                                      cases e
                                      exact hk
                                    · replace e := it_n e c129
                                      refine Ex_if2f (c := 0) (tgt := 951) hm rfl (bf0 c129) ?_
                                      obtain ⟨x, e, hx⟩ := xr_s e
                                      replace hk : Hi x rr := by rw [hx] at hk; exact hk
                                      refine Ex_run 1 (i' := 404) (L' := [(4, 0), (2, ((v1 : Nat) : Int)), (2, ((v2 : Nat) : Int)), (0, s.1)]) (st' := [(0, 0)]) (h' := (s.2.1, s.2.2.1, s.2.2.2)) hm rfl cjn ?_
                                      cases e
                                      cases hk
                                      exact Ex_ret (k := 2) hm rfl ⟨_, rfl, by decide, rfl⟩
                                  · replace e := it_n e c123
                                    by_cases c130 : (g_and (s.2.2.2 0 s.1) 63) = 16
                                    · replace e := it_p e c130
                                      refine Ex_sw (lo := 0) (tg := [28, 65, 82, 109, 126, 143, 160, 177, 194, 222, 263, 290, 317, 344, 361, 388, 405, 422, 449, 477, 528, 535, 552, 580, 607, 624, 641, 712, 729, 746, 783, 820, 877, 924]) (df := 951) hm rfl 16 rfl c130 ?_
                                      obtain ⟨g131, e⟩ := gd_s e
                                      refine Ex_run 6 (i' := 411) (L' := [(4, 0), (2, ((v1 : Nat) : Int)), (2, ((v2 : Nat) : Int)), (0, s.1)]) (st' := [(0, (s.2.2.2 0 (g_add s.1 1))), (2, ((v1 : Nat) : Int))]) (h' := (s.2.1, s.2.2.1, s.2.2.2)) hm rfl (cjc g131 cjn) ?_
                                      obtain ⟨g132, e⟩ := gd_s e
                                      obtain ⟨q133, h133, e⟩ := bn_s e
                                      refine Ex_callm (z := 112) (na := 2) (ck := 14) (as := [(2, ((v1 : Nat) : Int)), (0, (s.2.2.2 0 (g_add s.1 1)))]) (rest := []) (E0 := [(2, ((v1 : Nat) : Int)), (0, (s.2.2.2 0 (g_add s.1 1)))]) (v := some (0, q133)) (h1 := (s.2.1, s.2.2.1, s.2.2.2)) hm rfl (by omega) ⟨Nat.le_of_ble_eq_true rfl, Nat.le_of_ble_eq_true rfl⟩ (rc2 rfl g132) rfl rfl ml_112 rfl (Nat.le_of_ble_eq_true rfl) (tf112 h133 (by omega)) ?_
                                      show Ex d 236 412 [(4, 0), (2, ((v1 : Nat) : Int)), (2, ((v2 : Nat) : Int)), (0, s.1)] [(0, q133)] (s.2.1, s.2.2.1, s.2.2.2) rr
                                      refine Ex_run 6 (i' := 418) (L' := [(4, 0), (2, ((v1 : Nat) : Int)), (2, ((v2 : Nat) : Int)), (0, s.1)]) (st' := [(0, (s.2.2.2 0 (g_add s.1 1))), (2, ((v2 : Nat) : Int)), (0, q133)]) (h' := (s.2.1, s.2.2.1, s.2.2.2)) hm rfl (cjc g131 cjn) ?_
                                      obtain ⟨g134, e⟩ := gd_s e
                                      obtain ⟨q135, h135, e⟩ := bn_s e
                                      refine Ex_callm (z := 180) (na := 2) (ck := 15) (as := [(2, ((v2 : Nat) : Int)), (0, (s.2.2.2 0 (g_add s.1 1)))]) (rest := [(0, q133)]) (E0 := [(2, ((v2 : Nat) : Int)), (0, (s.2.2.2 0 (g_add s.1 1))), (9, 0), (9, 0), (9, 0)]) (v := some (0, q135)) (h1 := (s.2.1, s.2.2.1, s.2.2.2)) hm rfl (by omega) ⟨Nat.le_of_ble_eq_true rfl, Nat.le_of_ble_eq_true rfl⟩ (rc2 rfl g134) rfl rfl ml_180 rfl (Nat.le_of_ble_eq_true rfl) (tf180 h135 (by omega)) ?_
                                      show Ex d 236 419 [(4, 0), (2, ((v1 : Nat) : Int)), (2, ((v2 : Nat) : Int)), (0, s.1)] [(0, q135), (0, q133)] (s.2.1, s.2.2.1, s.2.2.2) rr
                                      by_cases c136 : q133 = q135
                                      · replace e := it_p e c136
                                        refine Ex_if2t (c := 0) (tgt := 951) hm rfl (bt0 c136) ?_
                                        refine Ex_run 2 (i' := 16) (L' := [(4, 0), (2, ((v1 : Nat) : Int)), (2, ((v2 : Nat) : Int)), (0, (w32 (s.1 + 6)))]) (st' := []) (h' := (s.2.1, s.2.2.1, s.2.2.2)) hm rfl cjn ?_
                                        cases e
                                        exact hk
                                      · replace e := it_n e c136
                                        refine Ex_if2f (c := 0) (tgt := 951) hm rfl (bf0 c136) ?_
                                        obtain ⟨x, e, hx⟩ := xr_s e
                                        replace hk : Hi x rr := by rw [hx] at hk; exact hk
                                        refine Ex_run 1 (i' := 421) (L' := [(4, 0), (2, ((v1 : Nat) : Int)), (2, ((v2 : Nat) : Int)), (0, s.1)]) (st' := [(0, 0)]) (h' := (s.2.1, s.2.2.1, s.2.2.2)) hm rfl cjn ?_
                                        cases e
                                        cases hk
                                        exact Ex_ret (k := 2) hm rfl ⟨_, rfl, by decide, rfl⟩
                                    · replace e := it_n e c130
                                      by_cases c137 : (g_and (s.2.2.2 0 s.1) 63) = 17
                                      · replace e := it_p e c137
                                        refine Ex_sw (lo := 0) (tg := [28, 65, 82, 109, 126, 143, 160, 177, 194, 222, 263, 290, 317, 344, 361, 388, 405, 422, 449, 477, 528, 535, 552, 580, 607, 624, 641, 712, 729, 746, 783, 820, 877, 924]) (df := 951) hm rfl 17 rfl c137 ?_
                                        obtain ⟨g138, e⟩ := gd_s e
                                        obtain ⟨g139, e⟩ := gd_s e
                                        refine Ex_run 11 (i' := 433) (L' := [(4, 0), (2, ((v1 : Nat) : Int)), (2, ((v2 : Nat) : Int)), (0, s.1)]) (st' := [(0, (s.2.2.2 0 (g_add s.1 2))), (0, (s.2.2.2 0 (g_add s.1 1))), (2, ((v1 : Nat) : Int))]) (h' := (s.2.1, s.2.2.1, s.2.2.2)) hm rfl (cjc g138 (cjc g139 cjn)) ?_
                                        obtain ⟨g140, e⟩ := gd_s e
                                        obtain ⟨q141, h141, e⟩ := bn_s e
                                        refine Ex_callm (z := 113) (na := 3) (ck := 14) (as := [(2, ((v1 : Nat) : Int)), (0, (s.2.2.2 0 (g_add s.1 1))), (0, (s.2.2.2 0 (g_add s.1 2)))]) (rest := []) (E0 := [(2, ((v1 : Nat) : Int)), (0, (s.2.2.2 0 (g_add s.1 1))), (0, (s.2.2.2 0 (g_add s.1 2)))]) (v := some (0, q141.1)) (h1 := (s.2.1, s.2.2.1, q141.2)) hm rfl (by omega) ⟨Nat.le_of_ble_eq_true rfl, Nat.le_of_ble_eq_true rfl⟩ (rc2 rfl g140) rfl rfl ml_113 rfl (Nat.le_of_ble_eq_true rfl) (tf113 h141 (by omega)) ?_
                                        show Ex d 236 434 [(4, 0), (2, ((v1 : Nat) : Int)), (2, ((v2 : Nat) : Int)), (0, s.1)] [(0, q141.1)] (s.2.1, s.2.2.1, q141.2) rr
                                        refine Ex_run 11 (i' := 445) (L' := [(4, 0), (2, ((v1 : Nat) : Int)), (2, ((v2 : Nat) : Int)), (0, s.1)]) (st' := [(0, (q141.2 0 (g_add s.1 2))), (0, (q141.2 0 (g_add s.1 1))), (2, ((v2 : Nat) : Int)), (0, q141.1)]) (h' := (s.2.1, s.2.2.1, q141.2)) hm rfl (cjc g138 (cjc g139 cjn)) ?_
                                        obtain ⟨g142, e⟩ := gd_s e
                                        obtain ⟨q143, h143, e⟩ := bn_s e
                                        refine Ex_callm (z := 181) (na := 3) (ck := 15) (as := [(2, ((v2 : Nat) : Int)), (0, (q141.2 0 (g_add s.1 1))), (0, (q141.2 0 (g_add s.1 2)))]) (rest := [(0, q141.1)]) (E0 := [(2, ((v2 : Nat) : Int)), (0, (q141.2 0 (g_add s.1 1))), (0, (q141.2 0 (g_add s.1 2))), (9, 0), (9, 0), (9, 0), (9, 0), (9, 0), (9, 0), (9, 0)]) (v := some (0, q143)) (h1 := (s.2.1, s.2.2.1, q141.2)) hm rfl (by omega) ⟨Nat.le_of_ble_eq_true rfl, Nat.le_of_ble_eq_true rfl⟩ (rc2 rfl g142) rfl rfl ml_181 rfl (Nat.le_of_ble_eq_true rfl) (tf181 h143 (by omega)) ?_
                                        show Ex d 236 446 [(4, 0), (2, ((v1 : Nat) : Int)), (2, ((v2 : Nat) : Int)), (0, s.1)] [(0, q143), (0, q141.1)] (s.2.1, s.2.2.1, q141.2) rr
                                        by_cases c144 : q141.1 = q143
                                        · replace e := it_p e c144
                                          refine Ex_if2t (c := 0) (tgt := 951) hm rfl (bt0 c144) ?_
                                          refine Ex_run 2 (i' := 16) (L' := [(4, 0), (2, ((v1 : Nat) : Int)), (2, ((v2 : Nat) : Int)), (0, (w32 (s.1 + 6)))]) (st' := []) (h' := (s.2.1, s.2.2.1, q141.2)) hm rfl cjn ?_
                                          cases e
                                          exact hk
                                        · replace e := it_n e c144
                                          refine Ex_if2f (c := 0) (tgt := 951) hm rfl (bf0 c144) ?_
                                          obtain ⟨x, e, hx⟩ := xr_s e
                                          replace hk : Hi x rr := by rw [hx] at hk; exact hk
                                          refine Ex_run 1 (i' := 448) (L' := [(4, 0), (2, ((v1 : Nat) : Int)), (2, ((v2 : Nat) : Int)), (0, s.1)]) (st' := [(0, 0)]) (h' := (s.2.1, s.2.2.1, q141.2)) hm rfl cjn ?_
                                          cases e
                                          cases hk
                                          exact Ex_ret (k := 2) hm rfl ⟨_, rfl, by decide, rfl⟩
                                      · replace e := it_n e c137
                                        by_cases c145 : (g_and (s.2.2.2 0 s.1) 63) = 18
                                        · replace e := it_p e c145
                                          refine Ex_sw (lo := 0) (tg := [28, 65, 82, 109, 126, 143, 160, 177, 194, 222, 263, 290, 317, 344, 361, 388, 405, 422, 449, 477, 528, 535, 552, 580, 607, 624, 641, 712, 729, 746, 783, 820, 877, 924]) (df := 951) hm rfl 18 rfl c145 ?_
                                          obtain ⟨g146, e⟩ := gd_s e
                                          obtain ⟨g147, e⟩ := gd_s e
                                          refine Ex_run 11 (i' := 460) (L' := [(4, 0), (2, ((v1 : Nat) : Int)), (2, ((v2 : Nat) : Int)), (0, s.1)]) (st' := [(0, (s.2.2.2 0 (g_add s.1 2))), (0, (s.2.2.2 0 (g_add s.1 1))), (2, ((v1 : Nat) : Int))]) (h' := (s.2.1, s.2.2.1, s.2.2.2)) hm rfl (cjc g146 (cjc g147 cjn)) ?_
                                          obtain ⟨g148, e⟩ := gd_s e
                                          obtain ⟨q149, h149, e⟩ := bn_s e
                                          refine Ex_callm (z := 114) (na := 3) (ck := 14) (as := [(2, ((v1 : Nat) : Int)), (0, (s.2.2.2 0 (g_add s.1 1))), (0, (s.2.2.2 0 (g_add s.1 2)))]) (rest := []) (E0 := [(2, ((v1 : Nat) : Int)), (0, (s.2.2.2 0 (g_add s.1 1))), (0, (s.2.2.2 0 (g_add s.1 2)))]) (v := some (1, q149.1)) (h1 := (s.2.1, s.2.2.1, q149.2)) hm rfl (by omega) ⟨Nat.le_of_ble_eq_true rfl, Nat.le_of_ble_eq_true rfl⟩ (rc2 rfl g148) rfl rfl ml_114 rfl (Nat.le_of_ble_eq_true rfl) (tf114 h149 (by omega)) ?_
                                          show Ex d 236 461 [(4, 0), (2, ((v1 : Nat) : Int)), (2, ((v2 : Nat) : Int)), (0, s.1)] [(1, q149.1)] (s.2.1, s.2.2.1, q149.2) rr
                                          refine Ex_run 11 (i' := 472) (L' := [(4, 0), (2, ((v1 : Nat) : Int)), (2, ((v2 : Nat) : Int)), (0, s.1)]) (st' := [(0, (q149.2 0 (g_add s.1 2))), (0, (q149.2 0 (g_add s.1 1))), (2, ((v2 : Nat) : Int)), (1, q149.1)]) (h' := (s.2.1, s.2.2.1, q149.2)) hm rfl (cjc g146 (cjc g147 cjn)) ?_
                                          obtain ⟨g150, e⟩ := gd_s e
                                          obtain ⟨q151, h151, e⟩ := bn_s e
                                          refine Ex_callm (z := 185) (na := 3) (ck := 15) (as := [(2, ((v2 : Nat) : Int)), (0, (q149.2 0 (g_add s.1 1))), (0, (q149.2 0 (g_add s.1 2)))]) (rest := [(1, q149.1)]) (E0 := [(2, ((v2 : Nat) : Int)), (0, (q149.2 0 (g_add s.1 1))), (0, (q149.2 0 (g_add s.1 2))), (9, 0), (9, 0), (9, 0), (9, 0), (9, 0)]) (v := some (1, q151.1)) (h1 := (s.2.1, s.2.2.1, q151.2)) hm rfl (by omega) ⟨Nat.le_of_ble_eq_true rfl, Nat.le_of_ble_eq_true rfl⟩ (rc2 rfl g150) rfl rfl ml_185 rfl (Nat.le_of_ble_eq_true rfl) (tf185 h151 (by omega)) ?_
                                          show Ex d 236 473 [(4, 0), (2, ((v1 : Nat) : Int)), (2, ((v2 : Nat) : Int)), (0, s.1)] [(1, q151.1), (1, q149.1)] (s.2.1, s.2.2.1, q151.2) rr
                                          refine Ex_run 1 (i' := 474) (L' := [(4, 0), (2, ((v1 : Nat) : Int)), (2, ((v2 : Nat) : Int)), (0, s.1)]) (st' := [(0, (lcm3 q149.1 q151.1))]) (h' := (s.2.1, s.2.2.1, q151.2)) hm rfl cjn ?_
                                          by_cases c152 : q149.1 = q151.1
                                          · replace e := it_p e c152
                                            refine Ex_if1t (c := 0) (tgt := 951) hm rfl (cm_lc 0 _ _ (bt0 c152)) ?_
                                            refine Ex_run 2 (i' := 16) (L' := [(4, 0), (2, ((v1 : Nat) : Int)), (2, ((v2 : Nat) : Int)), (0, (w32 (s.1 + 6)))]) (st' := []) (h' := (s.2.1, s.2.2.1, q151.2)) hm rfl cjn ?_
                                            cases e
                                            exact hk
                                          · replace e := it_n e c152
                                            refine Ex_if1f (c := 0) (tgt := 951) hm rfl (cm_lc 0 _ _ (bf0 c152)) ?_
                                            obtain ⟨x, e, hx⟩ := xr_s e
                                            replace hk : Hi x rr := by rw [hx] at hk; exact hk
                                            refine Ex_run 1 (i' := 476) (L' := [(4, 0), (2, ((v1 : Nat) : Int)), (2, ((v2 : Nat) : Int)), (0, s.1)]) (st' := [(0, 0)]) (h' := (s.2.1, s.2.2.1, q151.2)) hm rfl cjn ?_
                                            cases e
                                            cases hk
                                            exact Ex_ret (k := 2) hm rfl ⟨_, rfl, by decide, rfl⟩
                                        · replace e := it_n e c145
                                          by_cases c153 : (g_and (s.2.2.2 0 s.1) 63) = 19
                                          · replace e := it_p e c153
                                            refine Ex_sw (lo := 0) (tg := [28, 65, 82, 109, 126, 143, 160, 177, 194, 222, 263, 290, 317, 344, 361, 388, 405, 422, 449, 477, 528, 535, 552, 580, 607, 624, 641, 712, 729, 746, 783, 820, 877, 924]) (df := 951) hm rfl 19 rfl c153 ?_
                                            obtain ⟨g154, e⟩ := gd_s e
                                            obtain ⟨g155, e⟩ := gd_s e
                                            obtain ⟨g156, e⟩ := gd_s e
                                            refine Ex_run 23 (i' := 500) (L' := [(4, 0), (2, ((v1 : Nat) : Int)), (2, ((v2 : Nat) : Int)), (0, s.1)]) (st' := [(1, (k_or (k_shl (s.2.2.2 0 (g_add s.1 2)) 32) (k_and (s.2.2.2 0 (g_add s.1 3)) 4294967295))), (0, (s.2.2.2 0 (g_add s.1 1))), (2, ((v1 : Nat) : Int))]) (h' := (s.2.1, s.2.2.1, s.2.2.2)) hm rfl (cjc g154 (cjc g155 (cjc g156 cjn))) ?_
                                            obtain ⟨g157, e⟩ := gd_s e
                                            obtain ⟨q158, h158, e⟩ := bn_s e
                                            refine Ex_callm (z := 115) (na := 3) (ck := 14) (as := [(2, ((v1 : Nat) : Int)), (0, (s.2.2.2 0 (g_add s.1 1))), (1, (k_or (k_shl (s.2.2.2 0 (g_add s.1 2)) 32) (k_and (s.2.2.2 0 (g_add s.1 3)) 4294967295)))]) (rest := []) (E0 := [(2, ((v1 : Nat) : Int)), (0, (s.2.2.2 0 (g_add s.1 1))), (1, (k_or (k_shl (s.2.2.2 0 (g_add s.1 2)) 32) (k_and (s.2.2.2 0 (g_add s.1 3)) 4294967295))), (9, 0), (9, 0)]) (v := some (0, q158.1)) (h1 := (s.2.1, s.2.2.1, q158.2)) hm rfl (by omega) ⟨Nat.le_of_ble_eq_true rfl, Nat.le_of_ble_eq_true rfl⟩ (rc2 rfl g157) rfl rfl ml_115 rfl (Nat.le_of_ble_eq_true rfl) (tf115 h158 (by omega)) ?_
                                            show Ex d 236 501 [(4, 0), (2, ((v1 : Nat) : Int)), (2, ((v2 : Nat) : Int)), (0, s.1)] [(0, q158.1)] (s.2.1, s.2.2.1, q158.2) rr
                                            refine Ex_run 23 (i' := 524) (L' := [(4, 0), (2, ((v1 : Nat) : Int)), (2, ((v2 : Nat) : Int)), (0, s.1)]) (st' := [(1, (k_or (k_shl (q158.2 0 (g_add s.1 2)) 32) (k_and (q158.2 0 (g_add s.1 3)) 4294967295))), (0, (q158.2 0 (g_add s.1 1))), (2, ((v2 : Nat) : Int)), (0, q158.1)]) (h' := (s.2.1, s.2.2.1, q158.2)) hm rfl (cjc g154 (cjc g155 (cjc g156 cjn))) ?_
                                            obtain ⟨g159, e⟩ := gd_s e
                                            obtain ⟨q160, h160, e⟩ := bn_s e
                                            refine Ex_callm (z := 186) (na := 3) (ck := 15) (as := [(2, ((v2 : Nat) : Int)), (0, (q158.2 0 (g_add s.1 1))), (1, (k_or (k_shl (q158.2 0 (g_add s.1 2)) 32) (k_and (q158.2 0 (g_add s.1 3)) 4294967295)))]) (rest := [(0, q158.1)]) (E0 := [(2, ((v2 : Nat) : Int)), (0, (q158.2 0 (g_add s.1 1))), (1, (k_or (k_shl (q158.2 0 (g_add s.1 2)) 32) (k_and (q158.2 0 (g_add s.1 3)) 4294967295))), (9, 0), (9, 0)]) (v := some (0, q160.1)) (h1 := (s.2.1, s.2.2.1, q160.2)) hm rfl (by omega) ⟨Nat.le_of_ble_eq_true rfl, Nat.le_of_ble_eq_true rfl⟩ (rc2 rfl g159) rfl rfl ml_186 rfl (Nat.le_of_ble_eq_true rfl) (tf186 h160 (by omega)) ?_
                                            show Ex d 236 525 [(4, 0), (2, ((v1 : Nat) : Int)), (2, ((v2 : Nat) : Int)), (0, s.1)] [(0, q160.1), (0, q158.1)] (s.2.1, s.2.2.1, q160.2) rr
                                            by_cases c161 : q158.1 = q160.1
                                            · replace e := it_p e c161
                                              refine Ex_if2t (c := 0) (tgt := 951) hm rfl (bt0 c161) ?_
                                              refine Ex_run 2 (i' := 16) (L' := [(4, 0), (2, ((v1 : Nat) : Int)), (2, ((v2 : Nat) : Int)), (0, (w32 (s.1 + 6)))]) (st' := []) (h' := (s.2.1, s.2.2.1, q160.2)) hm rfl cjn ?_
                                              cases e
                                              exact hk
                                            · replace e := it_n e c161
                                              refine Ex_if2f (c := 0) (tgt := 951) hm rfl (bf0 c161) ?_
                                              obtain ⟨x, e, hx⟩ := xr_s e
                                              replace hk : Hi x rr := by rw [hx] at hk; exact hk
                                              refine Ex_run 1 (i' := 527) (L' := [(4, 0), (2, ((v1 : Nat) : Int)), (2, ((v2 : Nat) : Int)), (0, s.1)]) (st' := [(0, 0)]) (h' := (s.2.1, s.2.2.1, q160.2)) hm rfl cjn ?_
                                              cases e
                                              cases hk
                                              exact Ex_ret (k := 2) hm rfl ⟨_, rfl, by decide, rfl⟩
                                          · replace e := it_n e c153
                                            by_cases c162 : (g_and (s.2.2.2 0 s.1) 63) = 20
                                            · replace e := it_p e c162
                                              refine Ex_sw (lo := 0) (tg := [28, 65, 82, 109, 126, 143, 160, 177, 194, 222, 263, 290, 317, 344, 361, 388, 405, 422, 449, 477, 528, 535, 552, 580, 607, 624, 641, 712, 729, 746, 783, 820, 877, 924]) (df := 951) hm rfl 20 rfl c162 ?_
                                              refine Ex_run 1 (i' := 529) (L' := [(4, 0), (2, ((v1 : Nat) : Int)), (2, ((v2 : Nat) : Int)), (0, s.1)]) (st' := [(2, ((v1 : Nat) : Int))]) (h' := (s.2.1, s.2.2.1, s.2.2.2)) hm rfl cjn ?_
                                              obtain ⟨g163, e⟩ := gd_s e
                                              obtain ⟨q164, h164, e⟩ := bn_s e
                                              refine Ex_callm (z := 116) (na := 1) (ck := 14) (as := [(2, ((v1 : Nat) : Int))]) (rest := []) (E0 := [(2, ((v1 : Nat) : Int)), (9, 0)]) (v := some (0, q164.1)) (h1 := (s.2.1, s.2.2.1, q164.2)) hm rfl (by omega) ⟨Nat.le_of_ble_eq_true rfl, Nat.le_of_ble_eq_true rfl⟩ (rc2 rfl g163) rfl rfl ml_116 rfl (Nat.le_of_ble_eq_true rfl) (tf116 h164 (by omega)) ?_
                                              show Ex d 236 530 [(4, 0), (2, ((v1 : Nat) : Int)), (2, ((v2 : Nat) : Int)), (0, s.1)] [(0, q164.1)] (s.2.1, s.2.2.1, q164.2) rr
                                              refine Ex_run 1 (i' := 531) (L' := [(4, 0), (2, ((v1 : Nat) : Int)), (2, ((v2 : Nat) : Int)), (0, s.1)]) (st' := [(2, ((v2 : Nat) : Int)), (0, q164.1)]) (h' := (s.2.1, s.2.2.1, q164.2)) hm rfl cjn ?_
                                              obtain ⟨g165, e⟩ := gd_s e
                                              obtain ⟨q166, h166, e⟩ := bn_s e
                                              refine Ex_callm (z := 202) (na := 1) (ck := 15) (as := [(2, ((v2 : Nat) : Int))]) (rest := [(0, q164.1)]) (E0 := [(2, ((v2 : Nat) : Int)), (9, 0)]) (v := some (0, q166.1)) (h1 := (s.2.1, s.2.2.1, q166.2)) hm rfl (by omega) ⟨Nat.le_of_ble_eq_true rfl, Nat.le_of_ble_eq_true rfl⟩ (rc2 rfl g165) rfl rfl ml_202 rfl (Nat.le_of_ble_eq_true rfl) (tf202 h166 (by omega)) ?_
                                              show Ex d 236 532 [(4, 0), (2, ((v1 : Nat) : Int)), (2, ((v2 : Nat) : Int)), (0, s.1)] [(0, q166.1), (0, q164.1)] (s.2.1, s.2.2.1, q166.2) rr
                                              by_cases c167 : q164.1 = q166.1
                                              · replace e := it_p e c167
                                                refine Ex_if2t (c := 0) (tgt := 951) hm rfl (bt0 c167) ?_
                                                refine Ex_run 2 (i' := 16) (L' := [(4, 0), (2, ((v1 : Nat) : Int)), (2, ((v2 : Nat) : Int)), (0, (w32 (s.1 + 6)))]) (st' := []) (h' := (s.2.1, s.2.2.1, q166.2)) hm rfl cjn ?_
                                                cases e
                                                exact hk
                                              · replace e := it_n e c167
                                                refine Ex_if2f (c := 0) (tgt := 951) hm rfl (bf0 c167) ?_
                                                obtain ⟨x, e, hx⟩ := xr_s e
                                                replace hk : Hi x rr := by rw [hx] at hk; exact hk
                                                refine Ex_run 1 (i' := 534) (L' := [(4, 0), (2, ((v1 : Nat) : Int)), (2, ((v2 : Nat) : Int)), (0, s.1)]) (st' := [(0, 0)]) (h' := (s.2.1, s.2.2.1, q166.2)) hm rfl cjn ?_
                                                cases e
                                                cases hk
                                                exact Ex_ret (k := 2) hm rfl ⟨_, rfl, by decide, rfl⟩
                                            · replace e := it_n e c162
                                              by_cases c168 : (g_and (s.2.2.2 0 s.1) 63) = 21
                                              · replace e := it_p e c168
                                                refine Ex_sw (lo := 0) (tg := [28, 65, 82, 109, 126, 143, 160, 177, 194, 222, 263, 290, 317, 344, 361, 388, 405, 422, 449, 477, 528, 535, 552, 580, 607, 624, 641, 712, 729, 746, 783, 820, 877, 924]) (df := 951) hm rfl 21 rfl c168 ?_
                                                obtain ⟨g169, e⟩ := gd_s e
                                                refine Ex_run 6 (i' := 541) (L' := [(4, 0), (2, ((v1 : Nat) : Int)), (2, ((v2 : Nat) : Int)), (0, s.1)]) (st' := [(0, (s.2.2.2 0 (g_add s.1 1))), (2, ((v1 : Nat) : Int))]) (h' := (s.2.1, s.2.2.1, s.2.2.2)) hm rfl (cjc g169 cjn) ?_
                                                obtain ⟨g170, e⟩ := gd_s e
                                                obtain ⟨q171, h171, e⟩ := bn_s e
                                                refine Ex_callm (z := 117) (na := 2) (ck := 14) (as := [(2, ((v1 : Nat) : Int)), (0, (s.2.2.2 0 (g_add s.1 1)))]) (rest := []) (E0 := [(2, ((v1 : Nat) : Int)), (0, (s.2.2.2 0 (g_add s.1 1))), (9, 0)]) (v := some (0, q171.1)) (h1 := (s.2.1, s.2.2.1, q171.2)) hm rfl (by omega) ⟨Nat.le_of_ble_eq_true rfl, Nat.le_of_ble_eq_true rfl⟩ (rc2 rfl g170) rfl rfl ml_117 rfl (Nat.le_of_ble_eq_true rfl) (tf117 h171 (by omega)) ?_
                                                show Ex d 236 542 [(4, 0), (2, ((v1 : Nat) : Int)), (2, ((v2 : Nat) : Int)), (0, s.1)] [(0, q171.1)] (s.2.1, s.2.2.1, q171.2) rr
                                                refine Ex_run 6 (i' := 548) (L' := [(4, 0), (2, ((v1 : Nat) : Int)), (2, ((v2 : Nat) : Int)), (0, s.1)]) (st' := [(0, (q171.2 0 (g_add s.1 1))), (2, ((v2 : Nat) : Int)), (0, q171.1)]) (h' := (s.2.1, s.2.2.1, q171.2)) hm rfl (cjc g169 cjn) ?_
                                                obtain ⟨g172, e⟩ := gd_s e
                                                obtain ⟨q173, h173, e⟩ := bn_s e
                                                refine Ex_callm (z := 203) (na := 2) (ck := 15) (as := [(2, ((v2 : Nat) : Int)), (0, (q171.2 0 (g_add s.1 1)))]) (rest := [(0, q171.1)]) (E0 := [(2, ((v2 : Nat) : Int)), (0, (q171.2 0 (g_add s.1 1))), (9, 0)]) (v := some (0, q173.1)) (h1 := (s.2.1, s.2.2.1, q173.2)) hm rfl (by omega) ⟨Nat.le_of_ble_eq_true rfl, Nat.le_of_ble_eq_true rfl⟩ (rc2 rfl g172) rfl rfl ml_203 rfl (Nat.le_of_ble_eq_true rfl) (tf203 h173 (by omega)) ?_
                                                show Ex d 236 549 [(4, 0), (2, ((v1 : Nat) : Int)), (2, ((v2 : Nat) : Int)), (0, s.1)] [(0, q173.1), (0, q171.1)] (s.2.1, s.2.2.1, q173.2) rr
                                                by_cases c174 : q171.1 = q173.1
                                                · replace e := it_p e c174
                                                  refine Ex_if2t (c := 0) (tgt := 951) hm rfl (bt0 c174) ?_
                                                  refine Ex_run 2 (i' := 16) (L' := [(4, 0), (2, ((v1 : Nat) : Int)), (2, ((v2 : Nat) : Int)), (0, (w32 (s.1 + 6)))]) (st' := []) (h' := (s.2.1, s.2.2.1, q173.2)) hm rfl cjn ?_
                                                  cases e
                                                  exact hk
                                                · replace e := it_n e c174
                                                  refine Ex_if2f (c := 0) (tgt := 951) hm rfl (bf0 c174) ?_
                                                  obtain ⟨x, e, hx⟩ := xr_s e
                                                  replace hk : Hi x rr := by rw [hx] at hk; exact hk
                                                  refine Ex_run 1 (i' := 551) (L' := [(4, 0), (2, ((v1 : Nat) : Int)), (2, ((v2 : Nat) : Int)), (0, s.1)]) (st' := [(0, 0)]) (h' := (s.2.1, s.2.2.1, q173.2)) hm rfl cjn ?_
                                                  cases e
                                                  cases hk
                                                  exact Ex_ret (k := 2) hm rfl ⟨_, rfl, by decide, rfl⟩
                                              · replace e := it_n e c168
                                                by_cases c175 : (g_and (s.2.2.2 0 s.1) 63) = 22
                                                · replace e := it_p e c175
                                                  refine Ex_sw (lo := 0) (tg := [28, 65, 82, 109, 126, 143, 160, 177, 194, 222, 263, 290, 317, 344, 361, 388, 405, 422, 449, 477, 528, 535, 552, 580, 607, 624, 641, 712, 729, 746, 783, 820, 877, 924]) (df := 951) hm rfl 22 rfl c175 ?_
                                                  obtain ⟨g176, e⟩ := gd_s e
                                                  obtain ⟨g177, e⟩ := gd_s e
                                                  refine Ex_run 11 (i' := 563) (L' := [(4, 0), (2, ((v1 : Nat) : Int)), (2, ((v2 : Nat) : Int)), (0, s.1)]) (st' := [(0, (s.2.2.2 0 (g_add s.1 2))), (0, (s.2.2.2 0 (g_add s.1 1))), (2, ((v1 : Nat) : Int))]) (h' := (s.2.1, s.2.2.1, s.2.2.2)) hm rfl (cjc g176 (cjc g177 cjn)) ?_
                                                  obtain ⟨g178, e⟩ := gd_s e
                                                  obtain ⟨q179, h179, e⟩ := bn_s e
                                                  refine Ex_callm (z := 118) (na := 3) (ck := 14) (as := [(2, ((v1 : Nat) : Int)), (0, (s.2.2.2 0 (g_add s.1 1))), (0, (s.2.2.2 0 (g_add s.1 2)))]) (rest := []) (E0 := [(2, ((v1 : Nat) : Int)), (0, (s.2.2.2 0 (g_add s.1 1))), (0, (s.2.2.2 0 (g_add s.1 2)))]) (v := some (1, q179.1)) (h1 := (s.2.1, s.2.2.1, q179.2)) hm rfl (by omega) ⟨Nat.le_of_ble_eq_true rfl, Nat.le_of_ble_eq_true rfl⟩ (rc2 rfl g178) rfl rfl ml_118 rfl (Nat.le_of_ble_eq_true rfl) (tf118 h179 (by omega)) ?_
                                                  show Ex d 236 564 [(4, 0), (2, ((v1 : Nat) : Int)), (2, ((v2 : Nat) : Int)), (0, s.1)] [(1, q179.1)] (s.2.1, s.2.2.1, q179.2) rr
                                                  refine Ex_run 11 (i' := 575) (L' := [(4, 0), (2, ((v1 : Nat) : Int)), (2, ((v2 : Nat) : Int)), (0, s.1)]) (st' := [(0, (q179.2 0 (g_add s.1 2))), (0, (q179.2 0 (g_add s.1 1))), (2, ((v2 : Nat) : Int)), (1, q179.1)]) (h' := (s.2.1, s.2.2.1, q179.2)) hm rfl (cjc g176 (cjc g177 cjn)) ?_
                                                  obtain ⟨g180, e⟩ := gd_s e
                                                  obtain ⟨q181, h181, e⟩ := bn_s e
                                                  refine Ex_callm (z := 205) (na := 3) (ck := 15) (as := [(2, ((v2 : Nat) : Int)), (0, (q179.2 0 (g_add s.1 1))), (0, (q179.2 0 (g_add s.1 2)))]) (rest := [(1, q179.1)]) (E0 := [(2, ((v2 : Nat) : Int)), (0, (q179.2 0 (g_add s.1 1))), (0, (q179.2 0 (g_add s.1 2)))]) (v := some (1, q181.1)) (h1 := (s.2.1, s.2.2.1, q181.2)) hm rfl (by omega) ⟨Nat.le_of_ble_eq_true rfl, Nat.le_of_ble_eq_true rfl⟩ (rc2 rfl g180) rfl rfl ml_205 rfl (Nat.le_of_ble_eq_true rfl) (tf205 h181 (by omega)) ?_
                                                  show Ex d 236 576 [(4, 0), (2, ((v1 : Nat) : Int)), (2, ((v2 : Nat) : Int)), (0, s.1)] [(1, q181.1), (1, q179.1)] (s.2.1, s.2.2.1, q181.2) rr
                                                  refine Ex_run 1 (i' := 577) (L' := [(4, 0), (2, ((v1 : Nat) : Int)), (2, ((v2 : Nat) : Int)), (0, s.1)]) (st' := [(0, (lcm3 q179.1 q181.1))]) (h' := (s.2.1, s.2.2.1, q181.2)) hm rfl cjn ?_
                                                  by_cases c182 : q179.1 = q181.1
                                                  · replace e := it_p e c182
                                                    refine Ex_if1t (c := 0) (tgt := 951) hm rfl (cm_lc 0 _ _ (bt0 c182)) ?_
                                                    refine Ex_run 2 (i' := 16) (L' := [(4, 0), (2, ((v1 : Nat) : Int)), (2, ((v2 : Nat) : Int)), (0, (w32 (s.1 + 6)))]) (st' := []) (h' := (s.2.1, s.2.2.1, q181.2)) hm rfl cjn ?_
                                                    cases e
                                                    exact hk
                                                  · replace e := it_n e c182
                                                    refine Ex_if1f (c := 0) (tgt := 951) hm rfl (cm_lc 0 _ _ (bf0 c182)) ?_
                                                    obtain ⟨x, e, hx⟩ := xr_s e
                                                    replace hk : Hi x rr := by rw [hx] at hk; exact hk
                                                    refine Ex_run 1 (i' := 579) (L' := [(4, 0), (2, ((v1 : Nat) : Int)), (2, ((v2 : Nat) : Int)), (0, s.1)]) (st' := [(0, 0)]) (h' := (s.2.1, s.2.2.1, q181.2)) hm rfl cjn ?_
                                                    cases e
                                                    cases hk
                                                    exact Ex_ret (k := 2) hm rfl ⟨_, rfl, by decide, rfl⟩
                                                · replace e := it_n e c175
                                                  by_cases c183 : (g_and (s.2.2.2 0 s.1) 63) = 23
                                                  · replace e := it_p e c183
                                                    refine Ex_sw (lo := 0) (tg := [28, 65, 82, 109, 126, 143, 160, 177, 194, 222, 263, 290, 317, 344, 361, 388, 405, 422, 449, 477, 528, 535, 552, 580, 607, 624, 641, 712, 729, 746, 783, 820, 877, 924]) (df := 951) hm rfl 23 rfl c183 ?_
                                                    obtain ⟨g184, e⟩ := gd_s e
                                                    obtain ⟨g185, e⟩ := gd_s e
                                                    refine Ex_run 11 (i' := 591) (L' := [(4, 0), (2, ((v1 : Nat) : Int)), (2, ((v2 : Nat) : Int)), (0, s.1)]) (st' := [(0, (s.2.2.2 0 (g_add s.1 2))), (0, (s.2.2.2 0 (g_add s.1 1))), (2, ((v1 : Nat) : Int))]) (h' := (s.2.1, s.2.2.1, s.2.2.2)) hm rfl (cjc g184 (cjc g185 cjn)) ?_
                                                    obtain ⟨g186, e⟩ := gd_s e
                                                    obtain ⟨q187, h187, e⟩ := bn_s e
                                                    refine Ex_callm (z := 119) (na := 3) (ck := 14) (as := [(2, ((v1 : Nat) : Int)), (0, (s.2.2.2 0 (g_add s.1 1))), (0, (s.2.2.2 0 (g_add s.1 2)))]) (rest := []) (E0 := [(2, ((v1 : Nat) : Int)), (0, (s.2.2.2 0 (g_add s.1 1))), (0, (s.2.2.2 0 (g_add s.1 2))), (9, 0)]) (v := some (0, q187.1)) (h1 := (s.2.1, s.2.2.1, q187.2)) hm rfl (by omega) ⟨Nat.le_of_ble_eq_true rfl, Nat.le_of_ble_eq_true rfl⟩ (rc2 rfl g186) rfl rfl ml_119 rfl (Nat.le_of_ble_eq_true rfl) (tf119 h187 (by omega)) ?_
                                                    show Ex d 236 592 [(4, 0), (2, ((v1 : Nat) : Int)), (2, ((v2 : Nat) : Int)), (0, s.1)] [(0, q187.1)] (s.2.1, s.2.2.1, q187.2) rr
                                                    refine Ex_run 11 (i' := 603) (L' := [(4, 0), (2, ((v1 : Nat) : Int)), (2, ((v2 : Nat) : Int)), (0, s.1)]) (st' := [(0, (q187.2 0 (g_add s.1 2))), (0, (q187.2 0 (g_add s.1 1))), (2, ((v2 : Nat) : Int)), (0, q187.1)]) (h' := (s.2.1, s.2.2.1, q187.2)) hm rfl (cjc g184 (cjc g185 cjn)) ?_
                                                    obtain ⟨g188, e⟩ := gd_s e
                                                    obtain ⟨q189, h189, e⟩ := bn_s e
                                                    refine Ex_callm (z := 207) (na := 3) (ck := 15) (as := [(2, ((v2 : Nat) : Int)), (0, (q187.2 0 (g_add s.1 1))), (0, (q187.2 0 (g_add s.1 2)))]) (rest := [(0, q187.1)]) (E0 := [(2, ((v2 : Nat) : Int)), (0, (q187.2 0 (g_add s.1 1))), (0, (q187.2 0 (g_add s.1 2))), (9, 0)]) (v := some (0, q189.1)) (h1 := (s.2.1, s.2.2.1, q189.2)) hm rfl (by omega) ⟨Nat.le_of_ble_eq_true rfl, Nat.le_of_ble_eq_true rfl⟩ (rc2 rfl g188) rfl rfl ml_207 rfl (Nat.le_of_ble_eq_true rfl) (tf207 h189 (by omega)) ?_
                                                    show Ex d 236 604 [(4, 0), (2, ((v1 : Nat) : Int)), (2, ((v2 : Nat) : Int)), (0, s.1)] [(0, q189.1), (0, q187.1)] (s.2.1, s.2.2.1, q189.2) rr
                                                    by_cases c190 : q187.1 = q189.1
                                                    · replace e := it_p e c190
                                                      refine Ex_if2t (c := 0) (tgt := 951) hm rfl (bt0 c190) ?_
                                                      refine Ex_run 2 (i' := 16) (L' := [(4, 0), (2, ((v1 : Nat) : Int)), (2, ((v2 : Nat) : Int)), (0, (w32 (s.1 + 6)))]) (st' := []) (h' := (s.2.1, s.2.2.1, q189.2)) hm rfl cjn ?_
                                                      cases e
                                                      exact hk
                                                    · replace e := it_n e c190
                                                      refine Ex_if2f (c := 0) (tgt := 951) hm rfl (bf0 c190) ?_
                                                      obtain ⟨x, e, hx⟩ := xr_s e
                                                      replace hk : Hi x rr := by rw [hx] at hk; exact hk
                                                      refine Ex_run 1 (i' := 606) (L' := [(4, 0), (2, ((v1 : Nat) : Int)), (2, ((v2 : Nat) : Int)), (0, s.1)]) (st' := [(0, 0)]) (h' := (s.2.1, s.2.2.1, q189.2)) hm rfl cjn ?_
                                                      cases e
                                                      cases hk
                                                      exact Ex_ret (k := 2) hm rfl ⟨_, rfl, by decide, rfl⟩
                                                  · replace e := it_n e c183
                                                    by_cases c191 : (g_and (s.2.2.2 0 s.1) 63) = 24
                                                    · replace e := it_p e c191
                                                      refine Ex_sw (lo := 0) (tg := [28, 65, 82, 109, 126, 143, 160, 177, 194, 222, 263, 290, 317, 344, 361, 388, 405, 422, 449, 477, 528, 535, 552, 580, 607, 624, 641, 712, 729, 746, 783, 820, 877, 924]) (df := 951) hm rfl 24 rfl c191 ?_
                                                      obtain ⟨g192, e⟩ := gd_s e
                                                      refine Ex_run 6 (i' := 613) (L' := [(4, 0), (2, ((v1 : Nat) : Int)), (2, ((v2 : Nat) : Int)), (0, s.1)]) (st' := [(0, (s.2.2.2 0 (g_add s.1 1))), (2, ((v1 : Nat) : Int))]) (h' := (s.2.1, s.2.2.1, s.2.2.2)) hm rfl (cjc g192 cjn) ?_
                                                      obtain ⟨g193, e⟩ := gd_s e
                                                      obtain ⟨q194, h194, e⟩ := bn_s e
                                                      refine Ex_callm (z := 120) (na := 2) (ck := 14) (as := [(2, ((v1 : Nat) : Int)), (0, (s.2.2.2 0 (g_add s.1 1)))]) (rest := []) (E0 := [(2, ((v1 : Nat) : Int)), (0, (s.2.2.2 0 (g_add s.1 1))), (9, 0)]) (v := some (0, q194.1)) (h1 := (s.2.1, s.2.2.1, q194.2)) hm rfl (by omega) ⟨Nat.le_of_ble_eq_true rfl, Nat.le_of_ble_eq_true rfl⟩ (rc2 rfl g193) rfl rfl ml_120 rfl (Nat.le_of_ble_eq_true rfl) (tf120 h194 (by omega)) ?_
                                                      show Ex d 236 614 [(4, 0), (2, ((v1 : Nat) : Int)), (2, ((v2 : Nat) : Int)), (0, s.1)] [(0, q194.1)] (s.2.1, s.2.2.1, q194.2) rr
                                                      refine Ex_run 6 (i' := 620) (L' := [(4, 0), (2, ((v1 : Nat) : Int)), (2, ((v2 : Nat) : Int)), (0, s.1)]) (st' := [(0, (q194.2 0 (g_add s.1 1))), (2, ((v2 : Nat) : Int)), (0, q194.1)]) (h' := (s.2.1, s.2.2.1, q194.2)) hm rfl (cjc g192 cjn) ?_
                                                      obtain ⟨g195, e⟩ := gd_s e
                                                      obtain ⟨q196, h196, e⟩ := bn_s e
                                                      refine Ex_callm (z := 209) (na := 2) (ck := 15) (as := [(2, ((v2 : Nat) : Int)), (0, (q194.2 0 (g_add s.1 1)))]) (rest := [(0, q194.1)]) (E0 := [(2, ((v2 : Nat) : Int)), (0, (q194.2 0 (g_add s.1 1))), (9, 0), (9, 0)]) (v := some (0, q196.1)) (h1 := (s.2.1, s.2.2.1, q196.2)) hm rfl (by omega) ⟨Nat.le_of_ble_eq_true rfl, Nat.le_of_ble_eq_true rfl⟩ (rc2 rfl g195) rfl rfl ml_209 rfl (Nat.le_of_ble_eq_true rfl) (tf209 h196 (by omega)) ?_
                                                      show Ex d 236 621 [(4, 0), (2, ((v1 : Nat) : Int)), (2, ((v2 : Nat) : Int)), (0, s.1)] [(0, q196.1), (0, q194.1)] (s.2.1, s.2.2.1, q196.2) rr
                                                      by_cases c197 : q194.1 = q196.1
                                                      · replace e := it_p e c197
                                                        refine Ex_if2t (c := 0) (tgt := 951) hm rfl (bt0 c197) ?_
                                                        refine Ex_run 2 (i' := 16) (L' := [(4, 0), (2, ((v1 : Nat) : Int)), (2, ((v2 : Nat) : Int)), (0, (w32 (s.1 + 6)))]) (st' := []) (h' := (s.2.1, s.2.2.1, q196.2)) hm rfl cjn ?_
                                                        cases e
                                                        exact hk
                                                      · replace e := it_n e c197
                                                        refine Ex_if2f (c := 0) (tgt := 951) hm rfl (bf0 c197) ?_
                                                        obtain ⟨x, e, hx⟩ := xr_s e
                                                        replace hk : Hi x rr := by rw [hx] at hk; exact hk
                                                        refine Ex_run 1 (i' := 623) (L' := [(4, 0), (2, ((v1 : Nat) : Int)), (2, ((v2 : Nat) : Int)), (0, s.1)]) (st' := [(0, 0)]) (h' := (s.2.1, s.2.2.1, q196.2)) hm rfl cjn ?_
                                                        cases e
                                                        cases hk
                                                        exact Ex_ret (k := 2) hm rfl ⟨_, rfl, by decide, rfl⟩
                                                    · replace e := it_n e c191
                                                      by_cases c198 : (g_and (s.2.2.2 0 s.1) 63) = 25
                                                      · replace e := it_p e c198
                                                        refine Ex_sw (lo := 0) (tg := [28, 65, 82, 109, 126, 143, 160, 177, 194, 222, 263, 290, 317, 344, 361, 388, 405, 422, 449, 477, 528, 535, 552, 580, 607, 624, 641, 712, 729, 746, 783, 820, 877, 924]) (df := 951) hm rfl 25 rfl c198 ?_
                                                        obtain ⟨g199, e⟩ := gd_s e
                                                        refine Ex_run 6 (i' := 630) (L' := [(4, 0), (2, ((v1 : Nat) : Int)), (2, ((v2 : Nat) : Int)), (0, s.1)]) (st' := [(0, (s.2.2.2 0 (g_add s.1 1))), (2, ((v1 : Nat) : Int))]) (h' := (s.2.1, s.2.2.1, s.2.2.2)) hm rfl (cjc g199 cjn) ?_
                                                        obtain ⟨g200, e⟩ := gd_s e
                                                        obtain ⟨q201, h201, e⟩ := bn_s e
                                                        refine Ex_callm (z := 121) (na := 2) (ck := 14) (as := [(2, ((v1 : Nat) : Int)), (0, (s.2.2.2 0 (g_add s.1 1)))]) (rest := []) (E0 := [(2, ((v1 : Nat) : Int)), (0, (s.2.2.2 0 (g_add s.1 1)))]) (v := some (0, q201)) (h1 := (s.2.1, s.2.2.1, s.2.2.2)) hm rfl (by omega) ⟨Nat.le_of_ble_eq_true rfl, Nat.le_of_ble_eq_true rfl⟩ (rc2 rfl g200) rfl rfl ml_121 rfl (Nat.le_of_ble_eq_true rfl) (tf121 h201 (by omega)) ?_
                                                        show Ex d 236 631 [(4, 0), (2, ((v1 : Nat) : Int)), (2, ((v2 : Nat) : Int)), (0, s.1)] [(0, q201)] (s.2.1, s.2.2.1, s.2.2.2) rr
                                                        refine Ex_run 6 (i' := 637) (L' := [(4, 0), (2, ((v1 : Nat) : Int)), (2, ((v2 : Nat) : Int)), (0, s.1)]) (st' := [(0, (s.2.2.2 0 (g_add s.1 1))), (2, ((v2 : Nat) : Int)), (0, q201)]) (h' := (s.2.1, s.2.2.1, s.2.2.2)) hm rfl (cjc g199 cjn) ?_
                                                        obtain ⟨g202, e⟩ := gd_s e
                                                        obtain ⟨q203, h203, e⟩ := bn_s e
                                                        refine Ex_callm (z := 210) (na := 2) (ck := 15) (as := [(2, ((v2 : Nat) : Int)), (0, (s.2.2.2 0 (g_add s.1 1)))]) (rest := [(0, q201)]) (E0 := [(2, ((v2 : Nat) : Int)), (0, (s.2.2.2 0 (g_add s.1 1)))]) (v := some (0, q203)) (h1 := (s.2.1, s.2.2.1, s.2.2.2)) hm rfl (by omega) ⟨Nat.le_of_ble_eq_true rfl, Nat.le_of_ble_eq_true rfl⟩ (rc2 rfl g202) rfl rfl ml_210 rfl (Nat.le_of_ble_eq_true rfl) (tf210 h203 (by omega)) ?_
                                                        show Ex d 236 638 [(4, 0), (2, ((v1 : Nat) : Int)), (2, ((v2 : Nat) : Int)), (0, s.1)] [(0, q203), (0, q201)] (s.2.1, s.2.2.1, s.2.2.2) rr
                                                        by_cases c204 : q201 = q203
                                                        · replace e := it_p e c204
                                                          refine Ex_if2t (c := 0) (tgt := 951) hm rfl (bt0 c204) ?_
                                                          refine Ex_run 2 (i' := 16) (L' := [(4, 0), (2, ((v1 : Nat) : Int)), (2, ((v2 : Nat) : Int)), (0, (w32 (s.1 + 6)))]) (st' := []) (h' := (s.2.1, s.2.2.1, s.2.2.2)) hm rfl cjn ?_
                                                          cases e
                                                          exact hk
                                                        · replace e := it_n e c204
                                                          refine Ex_if2f (c := 0) (tgt := 951) hm rfl (bf0 c204) ?_
                                                          obtain ⟨x, e, hx⟩ := xr_s e
                                                          replace hk : Hi x rr := by rw [hx] at hk; exact hk
                                                          refine Ex_run 1 (i' := 640) (L' := [(4, 0), (2, ((v1 : Nat) : Int)), (2, ((v2 : Nat) : Int)), (0, s.1)]) (st' := [(0, 0)]) (h' := (s.2.1, s.2.2.1, s.2.2.2)) hm rfl cjn ?_
                                                          cases e
                                                          cases hk
                                                          exact Ex_ret (k := 2) hm rfl ⟨_, rfl, by decide, rfl⟩
                                                      · replace e := it_n e c198
                                                        by_cases c205 : (g_and (s.2.2.2 0 s.1) 63) = 26
                                                        · replace e := it_p e c205
                                                          refine Ex_sw (lo := 0) (tg := [28, 65, 82, 109, 126, 143, 160, 177, 194, 222, 263, 290, 317, 344, 361, 388, 405, 422, 449, 477, 528, 535, 552, 580, 607, 624, 641, 712, 729, 746, 783, 820, 877, 924]) (df := 951) hm rfl 26 rfl c205 ?_
                                                          obtain ⟨g206, e⟩ := gd_s e
                                                          obtain ⟨g207, e⟩ := gd_s e
                                                          obtain ⟨g208, e⟩ := gd_s e
                                                          obtain ⟨g209, e⟩ := gd_s e
                                                          obtain ⟨g210, e⟩ := gd_s e
                                                          refine Ex_run 33 (i' := 674) (L' := [(4, 0), (2, ((v1 : Nat) : Int)), (2, ((v2 : Nat) : Int)), (0, s.1)]) (st' := [(1, (k_or (k_shl (s.2.2.2 0 (g_add s.1 4)) 32) (k_and (s.2.2.2 0 (g_add s.1 5)) 4294967295))), (0, (s.2.2.2 0 (g_add s.1 3))), (0, (s.2.2.2 0 (g_add s.1 2))), (0, (s.2.2.2 0 (g_add s.1 1))), (2, ((v1 : Nat) : Int))]) (h' := (s.2.1, s.2.2.1, s.2.2.2)) hm rfl (cjc g206 (cjc g207 (cjc g208 (cjc g209 (cjc g210 cjn))))) ?_
                                                          obtain ⟨g211, e⟩ := gd_s e
                                                          obtain ⟨q212, h212, e⟩ := bn_s e
                                                          refine Ex_callm (z := 122) (na := 5) (ck := 14) (as := [(2, ((v1 : Nat) : Int)), (0, (s.2.2.2 0 (g_add s.1 1))), (0, (s.2.2.2 0 (g_add s.1 2))), (0, (s.2.2.2 0 (g_add s.1 3))), (1, (k_or (k_shl (s.2.2.2 0 (g_add s.1 4)) 32) (k_and (s.2.2.2 0 (g_add s.1 5)) 4294967295)))]) (rest := []) (E0 := [(2, ((v1 : Nat) : Int)), (0, (s.2.2.2 0 (g_add s.1 1))), (0, (s.2.2.2 0 (g_add s.1 2))), (0, (s.2.2.2 0 (g_add s.1 3))), (1, (k_or (k_shl (s.2.2.2 0 (g_add s.1 4)) 32) (k_and (s.2.2.2 0 (g_add s.1 5)) 4294967295))), (9, 0), (9, 0), (9, 0)]) (v := some (0, q212.1)) (h1 := (s.2.1, s.2.2.1, q212.2)) hm rfl (by omega) ⟨Nat.le_of_ble_eq_true rfl, Nat.le_of_ble_eq_true rfl⟩ (rc2 rfl g211) rfl rfl ml_122 rfl (Nat.le_of_ble_eq_true rfl) (tf122 h212 (by omega)) ?_
                                                          show Ex d 236 675 [(4, 0), (2, ((v1 : Nat) : Int)), (2, ((v2 : Nat) : Int)), (0, s.1)] [(0, q212.1)] (s.2.1, s.2.2.1, q212.2) rr
                                                          refine Ex_run 33 (i' := 708) (L' := [(4, 0), (2, ((v1 : Nat) : Int)), (2, ((v2 : Nat) : Int)), (0, s.1)]) (st' := [(1, (k_or (k_shl (q212.2 0 (g_add s.1 4)) 32) (k_and (q212.2 0 (g_add s.1 5)) 4294967295))), (0, (q212.2 0 (g_add s.1 3))), (0, (q212.2 0 (g_add s.1 2))), (0, (q212.2 0 (g_add s.1 1))), (2, ((v2 : Nat) : Int)), (0, q212.1)]) (h' := (s.2.1, s.2.2.1, q212.2)) hm rfl (cjc g206 (cjc g207 (cjc g208 (cjc g209 (cjc g210 cjn))))) ?_
                                                          obtain ⟨g213, e⟩ := gd_s e
                                                          obtain ⟨q214, h214, e⟩ := bn_s e
                                                          refine Ex_callm (z := 212) (na := 5) (ck := 15) (as := [(2, ((v2 : Nat) : Int)), (0, (q212.2 0 (g_add s.1 1))), (0, (q212.2 0 (g_add s.1 2))), (0, (q212.2 0 (g_add s.1 3))), (1, (k_or (k_shl (q212.2 0 (g_add s.1 4)) 32) (k_and (q212.2 0 (g_add s.1 5)) 4294967295)))]) (rest := [(0, q212.1)]) (E0 := [(2, ((v2 : Nat) : Int)), (0, (q212.2 0 (g_add s.1 1))), (0, (q212.2 0 (g_add s.1 2))), (0, (q212.2 0 (g_add s.1 3))), (1, (k_or (k_shl (q212.2 0 (g_add s.1 4)) 32) (k_and (q212.2 0 (g_add s.1 5)) 4294967295))), (9, 0), (9, 0), (9, 0), (9, 0), (9, 0)]) (v := some (0, q214.1)) (h1 := (s.2.1, s.2.2.1, q214.2)) hm rfl (by omega) ⟨Nat.le_of_ble_eq_true rfl, Nat.le_of_ble_eq_true rfl⟩ (rc2 rfl g213) rfl rfl ml_212 rfl (Nat.le_of_ble_eq_true rfl) (tf212 h214 (by omega)) ?_
                                                          show Ex d 236 709 [(4, 0), (2, ((v1 : Nat) : Int)), (2, ((v2 : Nat) : Int)), (0, s.1)] [(0, q214.1), (0, q212.1)] (s.2.1, s.2.2.1, q214.2) rr
                                                          by_cases c215 : q212.1 = q214.1
                                                          · replace e := it_p e c215
                                                            refine Ex_if2t (c := 0) (tgt := 951) hm rfl (bt0 c215) ?_
                                                            refine Ex_run 2 (i' := 16) (L' := [(4, 0), (2, ((v1 : Nat) : Int)), (2, ((v2 : Nat) : Int)), (0, (w32 (s.1 + 6)))]) (st' := []) (h' := (s.2.1, s.2.2.1, q214.2)) hm rfl cjn ?_
                                                            cases e
                                                            exact hk
                                                          · replace e := it_n e c215
                                                            refine Ex_if2f (c := 0) (tgt := 951) hm rfl (bf0 c215) ?_
                                                            obtain ⟨x, e, hx⟩ := xr_s e
                                                            replace hk : Hi x rr := by rw [hx] at hk; exact hk
                                                            refine Ex_run 1 (i' := 711) (L' := [(4, 0), (2, ((v1 : Nat) : Int)), (2, ((v2 : Nat) : Int)), (0, s.1)]) (st' := [(0, 0)]) (h' := (s.2.1, s.2.2.1, q214.2)) hm rfl cjn ?_
                                                            cases e
                                                            cases hk
                                                            exact Ex_ret (k := 2) hm rfl ⟨_, rfl, by decide, rfl⟩
                                                        · replace e := it_n e c205
                                                          by_cases c216 : (g_and (s.2.2.2 0 s.1) 63) = 27
                                                          · replace e := it_p e c216
                                                            refine Ex_sw (lo := 0) (tg := [28, 65, 82, 109, 126, 143, 160, 177, 194, 222, 263, 290, 317, 344, 361, 388, 405, 422, 449, 477, 528, 535, 552, 580, 607, 624, 641, 712, 729, 746, 783, 820, 877, 924]) (df := 951) hm rfl 27 rfl c216 ?_
                                                            obtain ⟨g217, e⟩ := gd_s e
                                                            refine Ex_run 6 (i' := 718) (L' := [(4, 0), (2, ((v1 : Nat) : Int)), (2, ((v2 : Nat) : Int)), (0, s.1)]) (st' := [(0, (s.2.2.2 0 (g_add s.1 1))), (2, ((v1 : Nat) : Int))]) (h' := (s.2.1, s.2.2.1, s.2.2.2)) hm rfl (cjc g217 cjn) ?_
                                                            obtain ⟨g218, e⟩ := gd_s e
                                                            obtain ⟨q219, h219, e⟩ := bn_s e
                                                            refine Ex_callm (z := 123) (na := 2) (ck := 14) (as := [(2, ((v1 : Nat) : Int)), (0, (s.2.2.2 0 (g_add s.1 1)))]) (rest := []) (E0 := [(2, ((v1 : Nat) : Int)), (0, (s.2.2.2 0 (g_add s.1 1)))]) (v := some (0, q219)) (h1 := (s.2.1, s.2.2.1, s.2.2.2)) hm rfl (by omega) ⟨Nat.le_of_ble_eq_true rfl, Nat.le_of_ble_eq_true rfl⟩ (rc2 rfl g218) rfl rfl ml_123 rfl (Nat.le_of_ble_eq_true rfl) (tf123 h219 (by omega)) ?_
                                                            show Ex d 236 719 [(4, 0), (2, ((v1 : Nat) : Int)), (2, ((v2 : Nat) : Int)), (0, s.1)] [(0, q219)] (s.2.1, s.2.2.1, s.2.2.2) rr
                                                            refine Ex_run 6 (i' := 725) (L' := [(4, 0), (2, ((v1 : Nat) : Int)), (2, ((v2 : Nat) : Int)), (0, s.1)]) (st' := [(0, (s.2.2.2 0 (g_add s.1 1))), (2, ((v2 : Nat) : Int)), (0, q219)]) (h' := (s.2.1, s.2.2.1, s.2.2.2)) hm rfl (cjc g217 cjn) ?_
                                                            obtain ⟨g220, e⟩ := gd_s e
                                                            obtain ⟨q221, h221, e⟩ := bn_s e
                                                            refine Ex_callm (z := 213) (na := 2) (ck := 15) (as := [(2, ((v2 : Nat) : Int)), (0, (s.2.2.2 0 (g_add s.1 1)))]) (rest := [(0, q219)]) (E0 := [(2, ((v2 : Nat) : Int)), (0, (s.2.2.2 0 (g_add s.1 1)))]) (v := some (0, q221)) (h1 := (s.2.1, s.2.2.1, s.2.2.2)) hm rfl (by omega) ⟨Nat.le_of_ble_eq_true rfl, Nat.le_of_ble_eq_true rfl⟩ (rc2 rfl g220) rfl rfl ml_213 rfl (Nat.le_of_ble_eq_true rfl) (tf213 h221 (by omega)) ?_
                                                            show Ex d 236 726 [(4, 0), (2, ((v1 : Nat) : Int)), (2, ((v2 : Nat) : Int)), (0, s.1)] [(0, q221), (0, q219)] (s.2.1, s.2.2.1, s.2.2.2) rr
                                                            by_cases c222 : q219 = q221
                                                            · replace e := it_p e c222
                                                              refine Ex_if2t (c := 0) (tgt := 951) hm rfl (bt0 c222) ?_
                                                              refine Ex_run 2 (i' := 16) (L' := [(4, 0), (2, ((v1 : Nat) : Int)), (2, ((v2 : Nat) : Int)), (0, (w32 (s.1 + 6)))]) (st' := []) (h' := (s.2.1, s.2.2.1, s.2.2.2)) hm rfl cjn ?_
                                                              cases e
                                                              exact hk
                                                            · replace e := it_n e c222
                                                              refine Ex_if2f (c := 0) (tgt := 951) hm rfl (bf0 c222) ?_
                                                              obtain ⟨x, e, hx⟩ := xr_s e
                                                              replace hk : Hi x rr := by rw [hx] at hk; exact hk
                                                              refine Ex_run 1 (i' := 728) (L' := [(4, 0), (2, ((v1 : Nat) : Int)), (2, ((v2 : Nat) : Int)), (0, s.1)]) (st' := [(0, 0)]) (h' := (s.2.1, s.2.2.1, s.2.2.2)) hm rfl cjn ?_
                                                              cases e
                                                              cases hk
                                                              exact Ex_ret (k := 2) hm rfl ⟨_, rfl, by decide, rfl⟩
                                                          · replace e := it_n e c216
                                                            by_cases c223 : (g_and (s.2.2.2 0 s.1) 63) = 28
                                                            · replace e := it_p e c223
                                                              refine Ex_sw (lo := 0) (tg := [28, 65, 82, 109, 126, 143, 160, 177, 194, 222, 263, 290, 317, 344, 361, 388, 405, 422, 449, 477, 528, 535, 552, 580, 607, 624, 641, 712, 729, 746, 783, 820, 877, 924]) (df := 951) hm rfl 28 rfl c223 ?_
                                                              obtain ⟨g224, e⟩ := gd_s e
                                                              refine Ex_run 6 (i' := 735) (L' := [(4, 0), (2, ((v1 : Nat) : Int)), (2, ((v2 : Nat) : Int)), (0, s.1)]) (st' := [(0, (s.2.2.2 0 (g_add s.1 1))), (2, ((v1 : Nat) : Int))]) (h' := (s.2.1, s.2.2.1, s.2.2.2)) hm rfl (cjc g224 cjn) ?_
                                                              obtain ⟨g225, e⟩ := gd_s e
                                                              obtain ⟨q226, h226, e⟩ := bn_s e
                                                              refine Ex_callm (z := 124) (na := 2) (ck := 14) (as := [(2, ((v1 : Nat) : Int)), (0, (s.2.2.2 0 (g_add s.1 1)))]) (rest := []) (E0 := [(2, ((v1 : Nat) : Int)), (0, (s.2.2.2 0 (g_add s.1 1)))]) (v := some (0, q226)) (h1 := (s.2.1, s.2.2.1, s.2.2.2)) hm rfl (by omega) ⟨Nat.le_of_ble_eq_true rfl, Nat.le_of_ble_eq_true rfl⟩ (rc2 rfl g225) rfl rfl ml_124 rfl (Nat.le_of_ble_eq_true rfl) (tf124 h226 (by omega)) ?_
                                                              show Ex d 236 736 [(4, 0), (2, ((v1 : Nat) : Int)), (2, ((v2 : Nat) : Int)), (0, s.1)] [(0, q226)] (s.2.1, s.2.2.1, s.2.2.2) rr
                                                              refine Ex_run 6 (i' := 742) (L' := [(4, 0), (2, ((v1 : Nat) : Int)), (2, ((v2 : Nat) : Int)), (0, s.1)]) (st' := [(0, (s.2.2.2 0 (g_add s.1 1))), (2, ((v2 : Nat) : Int)), (0, q226)]) (h' := (s.2.1, s.2.2.1, s.2.2.2)) hm rfl (cjc g224 cjn) ?_
                                                              obtain ⟨g227, e⟩ := gd_s e
                                                              obtain ⟨q228, h228, e⟩ := bn_s e
                                                              refine Ex_callm (z := 214) (na := 2) (ck := 15) (as := [(2, ((v2 : Nat) : Int)), (0, (s.2.2.2 0 (g_add s.1 1)))]) (rest := [(0, q226)]) (E0 := [(2, ((v2 : Nat) : Int)), (0, (s.2.2.2 0 (g_add s.1 1))), (9, 0), (9, 0)]) (v := some (0, q228)) (h1 := (s.2.1, s.2.2.1, s.2.2.2)) hm rfl (by omega) ⟨Nat.le_of_ble_eq_true rfl, Nat.le_of_ble_eq_true rfl⟩ (rc2 rfl g227) rfl rfl ml_214 rfl (Nat.le_of_ble_eq_true rfl) (tf214 h228 (by omega)) ?_
                                                              show Ex d 236 743 [(4, 0), (2, ((v1 : Nat) : Int)), (2, ((v2 : Nat) : Int)), (0, s.1)] [(0, q228), (0, q226)] (s.2.1, s.2.2.1, s.2.2.2) rr
                                                              by_cases c229 : q226 = q228
                                                              · replace e := it_p e c229
                                                                refine Ex_if2t (c := 0) (tgt := 951) hm rfl (bt0 c229) ?_
                                                                refine Ex_run 2 (i' := 16) (L' := [(4, 0), (2, ((v1 : Nat) : Int)), (2, ((v2 : Nat) : Int)), (0, (w32 (s.1 + 6)))]) (st' := []) (h' := (s.2.1, s.2.2.1, s.2.2.2)) hm rfl cjn ?_
                                                                cases e
                                                                exact hk
                                                              · replace e := it_n e c229
                                                                refine Ex_if2f (c := 0) (tgt := 951) hm rfl (bf0 c229) ?_
                                                                obtain ⟨x, e, hx⟩ := xr_s e
                                                                replace hk : Hi x rr := by rw [hx] at hk; exact hk
                                                                refine Ex_run 1 (i' := 745) (L' := [(4, 0), (2, ((v1 : Nat) : Int)), (2, ((v2 : Nat) : Int)), (0, s.1)]) (st' := [(0, 0)]) (h' := (s.2.1, s.2.2.1, s.2.2.2)) hm rfl cjn ?_
                                                                cases e
                                                                cases hk
                                                                exact Ex_ret (k := 2) hm rfl ⟨_, rfl, by decide, rfl⟩
                                                            · replace e := it_n e c223
                                                              by_cases c230 : (g_and (s.2.2.2 0 s.1) 63) = 29
                                                              · replace e := it_p e c230
                                                                refine Ex_sw (lo := 0) (tg := [28, 65, 82, 109, 126, 143, 160, 177, 194, 222, 263, 290, 317, 344, 361, 388, 405, 422, 449, 477, 528, 535, 552, 580, 607, 624, 641, 712, 729, 746, 783, 820, 877, 924]) (df := 951) hm rfl 29 rfl c230 ?_
                                                                obtain ⟨g231, e⟩ := gd_s e
                                                                obtain ⟨g232, e⟩ := gd_s e
                                                                obtain ⟨g233, e⟩ := gd_s e
                                                                refine Ex_run 16 (i' := 762) (L' := [(4, 0), (2, ((v1 : Nat) : Int)), (2, ((v2 : Nat) : Int)), (0, s.1)]) (st' := [(0, (s.2.2.2 0 (g_add s.1 3))), (0, (s.2.2.2 0 (g_add s.1 2))), (0, (s.2.2.2 0 (g_add s.1 1))), (2, ((v1 : Nat) : Int))]) (h' := (s.2.1, s.2.2.1, s.2.2.2)) hm rfl (cjc g231 (cjc g232 (cjc g233 cjn))) ?_
                                                                obtain ⟨g234, e⟩ := gd_s e
                                                                obtain ⟨q235, h235, e⟩ := bn_s e
                                                                refine Ex_callm (z := 125) (na := 4) (ck := 14) (as := [(2, ((v1 : Nat) : Int)), (0, (s.2.2.2 0 (g_add s.1 1))), (0, (s.2.2.2 0 (g_add s.1 2))), (0, (s.2.2.2 0 (g_add s.1 3)))]) (rest := []) (E0 := [(2, ((v1 : Nat) : Int)), (0, (s.2.2.2 0 (g_add s.1 1))), (0, (s.2.2.2 0 (g_add s.1 2))), (0, (s.2.2.2 0 (g_add s.1 3)))]) (v := some (0, q235.1)) (h1 := (s.2.1, s.2.2.1, q235.2)) hm rfl (by omega) ⟨Nat.le_of_ble_eq_true rfl, Nat.le_of_ble_eq_true rfl⟩ (rc2 rfl g234) rfl rfl ml_125 rfl (Nat.le_of_ble_eq_true rfl) (tf125 h235 (by omega)) ?_
                                                                show Ex d 236 763 [(4, 0), (2, ((v1 : Nat) : Int)), (2, ((v2 : Nat) : Int)), (0, s.1)] [(0, q235.1)] (s.2.1, s.2.2.1, q235.2) rr
                                                                refine Ex_run 16 (i' := 779) (L' := [(4, 0), (2, ((v1 : Nat) : Int)), (2, ((v2 : Nat) : Int)), (0, s.1)]) (st' := [(0, (q235.2 0 (g_add s.1 3))), (0, (q235.2 0 (g_add s.1 2))), (0, (q235.2 0 (g_add s.1 1))), (2, ((v2 : Nat) : Int)), (0, q235.1)]) (h' := (s.2.1, s.2.2.1, q235.2)) hm rfl (cjc g231 (cjc g232 (cjc g233 cjn))) ?_
                                                                obtain ⟨g236, e⟩ := gd_s e
                                                                obtain ⟨q237, h237, e⟩ := bn_s e
                                                                refine Ex_callm (z := 216) (na := 4) (ck := 15) (as := [(2, ((v2 : Nat) : Int)), (0, (q235.2 0 (g_add s.1 1))), (0, (q235.2 0 (g_add s.1 2))), (0, (q235.2 0 (g_add s.1 3)))]) (rest := [(0, q235.1)]) (E0 := [(2, ((v2 : Nat) : Int)), (0, (q235.2 0 (g_add s.1 1))), (0, (q235.2 0 (g_add s.1 2))), (0, (q235.2 0 (g_add s.1 3))), (9, 0)]) (v := some (0, q237.1)) (h1 := (s.2.1, s.2.2.1, q237.2)) hm rfl (by omega) ⟨Nat.le_of_ble_eq_true rfl, Nat.le_of_ble_eq_true rfl⟩ (rc2 rfl g236) rfl rfl ml_216 rfl (Nat.le_of_ble_eq_true rfl) (tf216 h237 (by omega)) ?_
                                                                show Ex d 236 780 [(4, 0), (2, ((v1 : Nat) : Int)), (2, ((v2 : Nat) : Int)), (0, s.1)] [(0, q237.1), (0, q235.1)] (s.2.1, s.2.2.1, q237.2) rr
                                                                by_cases c238 : q235.1 = q237.1
                                                                · replace e := it_p e c238
                                                                  refine Ex_if2t (c := 0) (tgt := 951) hm rfl (bt0 c238) ?_
                                                                  refine Ex_run 2 (i' := 16) (L' := [(4, 0), (2, ((v1 : Nat) : Int)), (2, ((v2 : Nat) : Int)), (0, (w32 (s.1 + 6)))]) (st' := []) (h' := (s.2.1, s.2.2.1, q237.2)) hm rfl cjn ?_
                                                                  cases e
                                                                  exact hk
                                                                · replace e := it_n e c238
                                                                  refine Ex_if2f (c := 0) (tgt := 951) hm rfl (bf0 c238) ?_
                                                                  obtain ⟨x, e, hx⟩ := xr_s e
                                                                  replace hk : Hi x rr := by rw [hx] at hk; exact hk
                                                                  refine Ex_run 1 (i' := 782) (L' := [(4, 0), (2, ((v1 : Nat) : Int)), (2, ((v2 : Nat) : Int)), (0, s.1)]) (st' := [(0, 0)]) (h' := (s.2.1, s.2.2.1, q237.2)) hm rfl cjn ?_
                                                                  cases e
                                                                  cases hk
                                                                  exact Ex_ret (k := 2) hm rfl ⟨_, rfl, by decide, rfl⟩
                                                              · replace e := it_n e c230
                                                                by_cases c239 : (g_and (s.2.2.2 0 s.1) 63) = 30
                                                                · replace e := it_p e c239
                                                                  refine Ex_sw (lo := 0) (tg := [28, 65, 82, 109, 126, 143, 160, 177, 194, 222, 263, 290, 317, 344, 361, 388, 405, 422, 449, 477, 528, 535, 552, 580, 607, 624, 641, 712, 729, 746, 783, 820, 877, 924]) (df := 951) hm rfl 30 rfl c239 ?_
                                                                  obtain ⟨g240, e⟩ := gd_s e
                                                                  obtain ⟨g241, e⟩ := gd_s e
                                                                  obtain ⟨g242, e⟩ := gd_s e
                                                                  refine Ex_run 16 (i' := 799) (L' := [(4, 0), (2, ((v1 : Nat) : Int)), (2, ((v2 : Nat) : Int)), (0, s.1)]) (st' := [(0, (s.2.2.2 0 (g_add s.1 3))), (0, (s.2.2.2 0 (g_add s.1 2))), (0, (s.2.2.2 0 (g_add s.1 1))), (2, ((v1 : Nat) : Int))]) (h' := (s.2.1, s.2.2.1, s.2.2.2)) hm rfl (cjc g240 (cjc g241 (cjc g242 cjn))) ?_
                                                                  obtain ⟨g243, e⟩ := gd_s e
                                                                  obtain ⟨q244, h244, e⟩ := bn_s e
                                                                  refine Ex_callm (z := 126) (na := 4) (ck := 14) (as := [(2, ((v1 : Nat) : Int)), (0, (s.2.2.2 0 (g_add s.1 1))), (0, (s.2.2.2 0 (g_add s.1 2))), (0, (s.2.2.2 0 (g_add s.1 3)))]) (rest := []) (E0 := [(2, ((v1 : Nat) : Int)), (0, (s.2.2.2 0 (g_add s.1 1))), (0, (s.2.2.2 0 (g_add s.1 2))), (0, (s.2.2.2 0 (g_add s.1 3)))]) (v := some (0, q244.1)) (h1 := (s.2.1, s.2.2.1, q244.2)) hm rfl (by omega) ⟨Nat.le_of_ble_eq_true rfl, Nat.le_of_ble_eq_true rfl⟩ (rc2 rfl g243) rfl rfl ml_126 rfl (Nat.le_of_ble_eq_true rfl) (tf126 h244 (by omega)) ?_
                                                                  show Ex d 236 800 [(4, 0), (2, ((v1 : Nat) : Int)), (2, ((v2 : Nat) : Int)), (0, s.1)] [(0, q244.1)] (s.2.1, s.2.2.1, q244.2) rr
                                                                  refine Ex_run 16 (i' := 816) (L' := [(4, 0), (2, ((v1 : Nat) : Int)), (2, ((v2 : Nat) : Int)), (0, s.1)]) (st' := [(0, (q244.2 0 (g_add s.1 3))), (0, (q244.2 0 (g_add s.1 2))), (0, (q244.2 0 (g_add s.1 1))), (2, ((v2 : Nat) : Int)), (0, q244.1)]) (h' := (s.2.1, s.2.2.1, q244.2)) hm rfl (cjc g240 (cjc g241 (cjc g242 cjn))) ?_
                                                                  obtain ⟨g245, e⟩ := gd_s e
                                                                  obtain ⟨q246, h246, e⟩ := bn_s e
                                                                  refine Ex_callm (z := 217) (na := 4) (ck := 15) (as := [(2, ((v2 : Nat) : Int)), (0, (q244.2 0 (g_add s.1 1))), (0, (q244.2 0 (g_add s.1 2))), (0, (q244.2 0 (g_add s.1 3)))]) (rest := [(0, q244.1)]) (E0 := [(2, ((v2 : Nat) : Int)), (0, (q244.2 0 (g_add s.1 1))), (0, (q244.2 0 (g_add s.1 2))), (0, (q244.2 0 (g_add s.1 3)))]) (v := some (0, q246.1)) (h1 := (s.2.1, s.2.2.1, q246.2)) hm rfl (by omega) ⟨Nat.le_of_ble_eq_true rfl, Nat.le_of_ble_eq_true rfl⟩ (rc2 rfl g245) rfl rfl ml_217 rfl (Nat.le_of_ble_eq_true rfl) (tf217 h246 (by omega)) ?_
                                                                  show Ex d 236 817 [(4, 0), (2, ((v1 : Nat) : Int)), (2, ((v2 : Nat) : Int)), (0, s.1)] [(0, q246.1), (0, q244.1)] (s.2.1, s.2.2.1, q246.2) rr
                                                                  by_cases c247 : q244.1 = q246.1
                                                                  · replace e := it_p e c247
                                                                    refine Ex_if2t (c := 0) (tgt := 951) hm rfl (bt0 c247) ?_
                                                                    refine Ex_run 2 (i' := 16) (L' := [(4, 0), (2, ((v1 : Nat) : Int)), (2, ((v2 : Nat) : Int)), (0, (w32 (s.1 + 6)))]) (st' := []) (h' := (s.2.1, s.2.2.1, q246.2)) hm rfl cjn ?_
                                                                    cases e
                                                                    exact hk
                                                                  · replace e := it_n e c247
                                                                    refine Ex_if2f (c := 0) (tgt := 951) hm rfl (bf0 c247) ?_
                                                                    obtain ⟨x, e, hx⟩ := xr_s e
                                                                    replace hk : Hi x rr := by rw [hx] at hk; exact hk
                                                                    refine Ex_run 1 (i' := 819) (L' := [(4, 0), (2, ((v1 : Nat) : Int)), (2, ((v2 : Nat) : Int)), (0, s.1)]) (st' := [(0, 0)]) (h' := (s.2.1, s.2.2.1, q246.2)) hm rfl cjn ?_
                                                                    cases e
                                                                    cases hk
                                                                    exact Ex_ret (k := 2) hm rfl ⟨_, rfl, by decide, rfl⟩
                                                                · replace e := it_n e c239
                                                                  by_cases c248 : (g_and (s.2.2.2 0 s.1) 63) = 31
                                                                  · replace e := it_p e c248
                                                                    refine Ex_sw (lo := 0) (tg := [28, 65, 82, 109, 126, 143, 160, 177, 194, 222, 263, 290, 317, 344, 361, 388, 405, 422, 449, 477, 528, 535, 552, 580, 607, 624, 641, 712, 729, 746, 783, 820, 877, 924]) (df := 951) hm rfl 31 rfl c248 ?_
                                                                    obtain ⟨g249, e⟩ := gd_s e
                                                                    obtain ⟨g250, e⟩ := gd_s e
                                                                    obtain ⟨g251, e⟩ := gd_s e
                                                                    obtain ⟨g252, e⟩ := gd_s e
                                                                    obtain ⟨g253, e⟩ := gd_s e
                                                                    refine Ex_run 26 (i' := 846) (L' := [(4, 0), (2, ((v1 : Nat) : Int)), (2, ((v2 : Nat) : Int)), (0, s.1)]) (st' := [(0, (s.2.2.2 0 (g_add s.1 5))), (0, (s.2.2.2 0 (g_add s.1 4))), (0, (s.2.2.2 0 (g_add s.1 3))), (0, (s.2.2.2 0 (g_add s.1 2))), (0, (s.2.2.2 0 (g_add s.1 1))), (2, ((v1 : Nat) : Int))]) (h' := (s.2.1, s.2.2.1, s.2.2.2)) hm rfl (cjc g249 (cjc g250 (cjc g251 (cjc g252 (cjc g253 cjn))))) ?_
                                                                    obtain ⟨g254, e⟩ := gd_s e
                                                                    obtain ⟨q255, h255, e⟩ := bn_s e
                                                                    refine Ex_callm (z := 127) (na := 6) (ck := 14) (as := [(2, ((v1 : Nat) : Int)), (0, (s.2.2.2 0 (g_add s.1 1))), (0, (s.2.2.2 0 (g_add s.1 2))), (0, (s.2.2.2 0 (g_add s.1 3))), (0, (s.2.2.2 0 (g_add s.1 4))), (0, (s.2.2.2 0 (g_add s.1 5)))]) (rest := []) (E0 := [(2, ((v1 : Nat) : Int)), (0, (s.2.2.2 0 (g_add s.1 1))), (0, (s.2.2.2 0 (g_add s.1 2))), (0, (s.2.2.2 0 (g_add s.1 3))), (0, (s.2.2.2 0 (g_add s.1 4))), (0, (s.2.2.2 0 (g_add s.1 5)))]) (v := some (0, q255.1)) (h1 := (s.2.1, s.2.2.1, q255.2)) hm rfl (by omega) ⟨Nat.le_of_ble_eq_true rfl, Nat.le_of_ble_eq_true rfl⟩ (rc2 rfl g254) rfl rfl ml_127 rfl (Nat.le_of_ble_eq_true rfl) (tf127 h255 (by omega)) ?_
                                                                    show Ex d 236 847 [(4, 0), (2, ((v1 : Nat) : Int)), (2, ((v2 : Nat) : Int)), (0, s.1)] [(0, q255.1)] (s.2.1, s.2.2.1, q255.2) rr
                                                                    refine Ex_run 26 (i' := 873) (L' := [(4, 0), (2, ((v1 : Nat) : Int)), (2, ((v2 : Nat) : Int)), (0, s.1)]) (st' := [(0, (q255.2 0 (g_add s.1 5))), (0, (q255.2 0 (g_add s.1 4))), (0, (q255.2 0 (g_add s.1 3))), (0, (q255.2 0 (g_add s.1 2))), (0, (q255.2 0 (g_add s.1 1))), (2, ((v2 : Nat) : Int)), (0, q255.1)]) (h' := (s.2.1, s.2.2.1, q255.2)) hm rfl (cjc g249 (cjc g250 (cjc g251 (cjc g252 (cjc g253 cjn))))) ?_
                                                                    obtain ⟨g256, e⟩ := gd_s e
                                                                    obtain ⟨q257, h257, e⟩ := bn_s e
                                                                    refine Ex_callm (z := 218) (na := 6) (ck := 15) (as := [(2, ((v2 : Nat) : Int)), (0, (q255.2 0 (g_add s.1 1))), (0, (q255.2 0 (g_add s.1 2))), (0, (q255.2 0 (g_add s.1 3))), (0, (q255.2 0 (g_add s.1 4))), (0, (q255.2 0 (g_add s.1 5)))]) (rest := [(0, q255.1)]) (E0 := [(2, ((v2 : Nat) : Int)), (0, (q255.2 0 (g_add s.1 1))), (0, (q255.2 0 (g_add s.1 2))), (0, (q255.2 0 (g_add s.1 3))), (0, (q255.2 0 (g_add s.1 4))), (0, (q255.2 0 (g_add s.1 5))), (9, 0)]) (v := some (0, q257.1)) (h1 := (s.2.1, s.2.2.1, q257.2)) hm rfl (by omega) ⟨Nat.le_of_ble_eq_true rfl, Nat.le_of_ble_eq_true rfl⟩ (rc2 rfl g256) rfl rfl ml_218 rfl (Nat.le_of_ble_eq_true rfl) (tf218 h257 (by omega)) ?_
                                                                    show Ex d 236 874 [(4, 0), (2, ((v1 : Nat) : Int)), (2, ((v2 : Nat) : Int)), (0, s.1)] [(0, q257.1), (0, q255.1)] (s.2.1, s.2.2.1, q257.2) rr
                                                                    by_cases c258 : q255.1 = q257.1
                                                                    · replace e := it_p e c258
                                                                      refine Ex_if2t (c := 0) (tgt := 951) hm rfl (bt0 c258) ?_
                                                                      refine Ex_run 2 (i' := 16) (L' := [(4, 0), (2, ((v1 : Nat) : Int)), (2, ((v2 : Nat) : Int)), (0, (w32 (s.1 + 6)))]) (st' := []) (h' := (s.2.1, s.2.2.1, q257.2)) hm rfl cjn ?_
                                                                      cases e
                                                                      exact hk
                                                                    · replace e := it_n e c258
                                                                      refine Ex_if2f (c := 0) (tgt := 951) hm rfl (bf0 c258) ?_
                                                                      obtain ⟨x, e, hx⟩ := xr_s e
                                                                      replace hk : Hi x rr := by rw [hx] at hk; exact hk
                                                                      refine Ex_run 1 (i' := 876) (L' := [(4, 0), (2, ((v1 : Nat) : Int)), (2, ((v2 : Nat) : Int)), (0, s.1)]) (st' := [(0, 0)]) (h' := (s.2.1, s.2.2.1, q257.2)) hm rfl cjn ?_
                                                                      cases e
                                                                      cases hk
                                                                      exact Ex_ret (k := 2) hm rfl ⟨_, rfl, by decide, rfl⟩
                                                                  · replace e := it_n e c248
                                                                    by_cases c259 : (g_and (s.2.2.2 0 s.1) 63) = 32
                                                                    · replace e := it_p e c259
                                                                      refine Ex_sw (lo := 0) (tg := [28, 65, 82, 109, 126, 143, 160, 177, 194, 222, 263, 290, 317, 344, 361, 388, 405, 422, 449, 477, 528, 535, 552, 580, 607, 624, 641, 712, 729, 746, 783, 820, 877, 924]) (df := 951) hm rfl 32 rfl c259 ?_
                                                                      obtain ⟨g260, e⟩ := gd_s e
                                                                      obtain ⟨g261, e⟩ := gd_s e
                                                                      obtain ⟨g262, e⟩ := gd_s e
                                                                      obtain ⟨g263, e⟩ := gd_s e
                                                                      refine Ex_run 21 (i' := 898) (L' := [(4, 0), (2, ((v1 : Nat) : Int)), (2, ((v2 : Nat) : Int)), (0, s.1)]) (st' := [(0, (s.2.2.2 0 (g_add s.1 4))), (0, (s.2.2.2 0 (g_add s.1 3))), (0, (s.2.2.2 0 (g_add s.1 2))), (0, (s.2.2.2 0 (g_add s.1 1))), (2, ((v1 : Nat) : Int))]) (h' := (s.2.1, s.2.2.1, s.2.2.2)) hm rfl (cjc g260 (cjc g261 (cjc g262 (cjc g263 cjn)))) ?_
                                                                      obtain ⟨g264, e⟩ := gd_s e
                                                                      obtain ⟨q265, h265, e⟩ := bn_s e
                                                                      refine Ex_callm (z := 128) (na := 5) (ck := 14) (as := [(2, ((v1 : Nat) : Int)), (0, (s.2.2.2 0 (g_add s.1 1))), (0, (s.2.2.2 0 (g_add s.1 2))), (0, (s.2.2.2 0 (g_add s.1 3))), (0, (s.2.2.2 0 (g_add s.1 4)))]) (rest := []) (E0 := [(2, ((v1 : Nat) : Int)), (0, (s.2.2.2 0 (g_add s.1 1))), (0, (s.2.2.2 0 (g_add s.1 2))), (0, (s.2.2.2 0 (g_add s.1 3))), (0, (s.2.2.2 0 (g_add s.1 4))), (9, 0), (9, 0), (9, 0), (9, 0), (9, 0)]) (v := some (0, q265.1)) (h1 := (s.2.1, s.2.2.1, q265.2)) hm rfl (by omega) ⟨Nat.le_of_ble_eq_true rfl, Nat.le_of_ble_eq_true rfl⟩ (rc2 rfl g264) rfl rfl ml_128 rfl (Nat.le_of_ble_eq_true rfl) (tf128 h265 (by omega)) ?_
                                                                      show Ex d 236 899 [(4, 0), (2, ((v1 : Nat) : Int)), (2, ((v2 : Nat) : Int)), (0, s.1)] [(0, q265.1)] (s.2.1, s.2.2.1, q265.2) rr
                                                                      refine Ex_run 21 (i' := 920) (L' := [(4, 0), (2, ((v1 : Nat) : Int)), (2, ((v2 : Nat) : Int)), (0, s.1)]) (st' := [(0, (q265.2 0 (g_add s.1 4))), (0, (q265.2 0 (g_add s.1 3))), (0, (q265.2 0 (g_add s.1 2))), (0, (q265.2 0 (g_add s.1 1))), (2, ((v2 : Nat) : Int)), (0, q265.1)]) (h' := (s.2.1, s.2.2.1, q265.2)) hm rfl (cjc g260 (cjc g261 (cjc g262 (cjc g263 cjn)))) ?_
                                                                      obtain ⟨g266, e⟩ := gd_s e
                                                                      obtain ⟨q267, h267, e⟩ := bn_s e
                                                                      refine Ex_callm (z := 219) (na := 5) (ck := 15) (as := [(2, ((v2 : Nat) : Int)), (0, (q265.2 0 (g_add s.1 1))), (0, (q265.2 0 (g_add s.1 2))), (0, (q265.2 0 (g_add s.1 3))), (0, (q265.2 0 (g_add s.1 4)))]) (rest := [(0, q265.1)]) (E0 := [(2, ((v2 : Nat) : Int)), (0, (q265.2 0 (g_add s.1 1))), (0, (q265.2 0 (g_add s.1 2))), (0, (q265.2 0 (g_add s.1 3))), (0, (q265.2 0 (g_add s.1 4))), (9, 0), (9, 0), (9, 0)]) (v := some (0, q267.1)) (h1 := (s.2.1, s.2.2.1, q267.2)) hm rfl (by omega) ⟨Nat.le_of_ble_eq_true rfl, Nat.le_of_ble_eq_true rfl⟩ (rc2 rfl g266) rfl rfl ml_219 rfl (Nat.le_of_ble_eq_true rfl) (tf219 h267 (by omega)) ?_
                                                                      show Ex d 236 921 [(4, 0), (2, ((v1 : Nat) : Int)), (2, ((v2 : Nat) : Int)), (0, s.1)] [(0, q267.1), (0, q265.1)] (s.2.1, s.2.2.1, q267.2) rr
                                                                      by_cases c268 : q265.1 = q267.1
                                                                      · replace e := it_p e c268
                                                                        refine Ex_if2t (c := 0) (tgt := 951) hm rfl (bt0 c268) ?_
                                                                        refine Ex_run 2 (i' := 16) (L' := [(4, 0), (2, ((v1 : Nat) : Int)), (2, ((v2 : Nat) : Int)), (0, (w32 (s.1 + 6)))]) (st' := []) (h' := (s.2.1, s.2.2.1, q267.2)) hm rfl cjn ?_
                                                                        cases e
                                                                        exact hk
                                                                      · replace e := it_n e c268
                                                                        refine Ex_if2f (c := 0) (tgt := 951) hm rfl (bf0 c268) ?_
                                                                        obtain ⟨x, e, hx⟩ := xr_s e
                                                                        replace hk : Hi x rr := by rw [hx] at hk; exact hk
                                                                        refine Ex_run 1 (i' := 923) (L' := [(4, 0), (2, ((v1 : Nat) : Int)), (2, ((v2 : Nat) : Int)), (0, s.1)]) (st' := [(0, 0)]) (h' := (s.2.1, s.2.2.1, q267.2)) hm rfl cjn ?_
                                                                        cases e
                                                                        cases hk
                                                                        exact Ex_ret (k := 2) hm rfl ⟨_, rfl, by decide, rfl⟩
                                                                    · replace e := it_n e c259
                                                                      by_cases c269 : (g_and (s.2.2.2 0 s.1) 63) = 33
                                                                      · replace e := it_p e c269
                                                                        refine Ex_sw (lo := 0) (tg := [28, 65, 82, 109, 126, 143, 160, 177, 194, 222, 263, 290, 317, 344, 361, 388, 405, 422, 449, 477, 528, 535, 552, 580, 607, 624, 641, 712, 729, 746, 783, 820, 877, 924]) (df := 951) hm rfl 33 rfl c269 ?_
                                                                        obtain ⟨g270, e⟩ := gd_s e
                                                                        obtain ⟨g271, e⟩ := gd_s e
                                                                        refine Ex_run 11 (i' := 935) (L' := [(4, 0), (2, ((v1 : Nat) : Int)), (2, ((v2 : Nat) : Int)), (0, s.1)]) (st' := [(0, (s.2.2.2 0 (g_add s.1 2))), (0, (s.2.2.2 0 (g_add s.1 1))), (2, ((v1 : Nat) : Int))]) (h' := (s.2.1, s.2.2.1, s.2.2.2)) hm rfl (cjc g270 (cjc g271 cjn)) ?_
                                                                        obtain ⟨g272, e⟩ := gd_s e
                                                                        obtain ⟨q273, h273, e⟩ := bn_s e
                                                                        refine Ex_callm (z := 129) (na := 3) (ck := 14) (as := [(2, ((v1 : Nat) : Int)), (0, (s.2.2.2 0 (g_add s.1 1))), (0, (s.2.2.2 0 (g_add s.1 2)))]) (rest := []) (E0 := [(2, ((v1 : Nat) : Int)), (0, (s.2.2.2 0 (g_add s.1 1))), (0, (s.2.2.2 0 (g_add s.1 2)))]) (v := some (0, q273)) (h1 := (s.2.1, s.2.2.1, s.2.2.2)) hm rfl (by omega) ⟨Nat.le_of_ble_eq_true rfl, Nat.le_of_ble_eq_true rfl⟩ (rc2 rfl g272) rfl rfl ml_129 rfl (Nat.le_of_ble_eq_true rfl) (tf129 h273 (by omega)) ?_
                                                                        show Ex d 236 936 [(4, 0), (2, ((v1 : Nat) : Int)), (2, ((v2 : Nat) : Int)), (0, s.1)] [(0, q273)] (s.2.1, s.2.2.1, s.2.2.2) rr
                                                                        refine Ex_run 11 (i' := 947) (L' := [(4, 0), (2, ((v1 : Nat) : Int)), (2, ((v2 : Nat) : Int)), (0, s.1)]) (st' := [(0, (s.2.2.2 0 (g_add s.1 2))), (0, (s.2.2.2 0 (g_add s.1 1))), (2, ((v2 : Nat) : Int)), (0, q273)]) (h' := (s.2.1, s.2.2.1, s.2.2.2)) hm rfl (cjc g270 (cjc g271 cjn)) ?_
                                                                        obtain ⟨g274, e⟩ := gd_s e
                                                                        obtain ⟨q275, h275, e⟩ := bn_s e
                                                                        refine Ex_callm (z := 221) (na := 3) (ck := 15) (as := [(2, ((v2 : Nat) : Int)), (0, (s.2.2.2 0 (g_add s.1 1))), (0, (s.2.2.2 0 (g_add s.1 2)))]) (rest := [(0, q273)]) (E0 := [(2, ((v2 : Nat) : Int)), (0, (s.2.2.2 0 (g_add s.1 1))), (0, (s.2.2.2 0 (g_add s.1 2))), (9, 0)]) (v := some (0, q275)) (h1 := (s.2.1, s.2.2.1, s.2.2.2)) hm rfl (by omega) ⟨Nat.le_of_ble_eq_true rfl, Nat.le_of_ble_eq_true rfl⟩ (rc2 rfl g274) rfl rfl ml_221 rfl (Nat.le_of_ble_eq_true rfl) (tf221 h275 (by omega)) ?_
                                                                        show Ex d 236 948 [(4, 0), (2, ((v1 : Nat) : Int)), (2, ((v2 : Nat) : Int)), (0, s.1)] [(0, q275), (0, q273)] (s.2.1, s.2.2.1, s.2.2.2) rr
                                                                        by_cases c276 : q273 = q275
                                                                        · replace e := it_p e c276
                                                                          refine Ex_if2t (c := 0) (tgt := 951) hm rfl (bt0 c276) ?_
                                                                          refine Ex_run 2 (i' := 16) (L' := [(4, 0), (2, ((v1 : Nat) : Int)), (2, ((v2 : Nat) : Int)), (0, (w32 (s.1 + 6)))]) (st' := []) (h' := (s.2.1, s.2.2.1, s.2.2.2)) hm rfl cjn ?_
                                                                          cases e
                                                                          exact hk
                                                                        · replace e := it_n e c276
                                                                          refine Ex_if2f (c := 0) (tgt := 951) hm rfl (bf0 c276) ?_
                                                                          obtain ⟨x, e, hx⟩ := xr_s e
                                                                          replace hk : Hi x rr := by rw [hx] at hk; exact hk
                                                                          refine Ex_run 1 (i' := 950) (L' := [(4, 0), (2, ((v1 : Nat) : Int)), (2, ((v2 : Nat) : Int)), (0, s.1)]) (st' := [(0, 0)]) (h' := (s.2.1, s.2.2.1, s.2.2.2)) hm rfl cjn ?_
                                                                          cases e
                                                                          cases hk
                                                                          exact Ex_ret (k := 2) hm rfl ⟨_, rfl, by decide, rfl⟩
                                                                      · replace e := it_n e c269
                                                                        refine Ex_swd (lo := 0) (tg := [28, 65, 82, 109, 126, 143, 160, 177, 194, 222, 263, 290, 317, 344, 361, 388, 405, 422, 449, 477, 528, 535, 552, 580, 607, 624, 641, 712, 729, 746, 783, 820, 877, 924]) (df := 951) hm rfl (swk_d ⟨Or.inr c9, Or.inr c18, Or.inr c25, Or.inr c33, Or.inr c40, Or.inr c47, Or.inr c54, Or.inr c61, Or.inr c68, Or.inr c76, Or.inr c84, Or.inr c92, Or.inr c100, Or.inr c108, Or.inr c115, Or.inr c123, Or.inr c130, Or.inr c137, Or.inr c145, Or.inr c153, Or.inr c162, Or.inr c168, Or.inr c175, Or.inr c183, Or.inr c191, Or.inr c198, Or.inr c205, Or.inr c216, Or.inr c223, Or.inr c230, Or.inr c239, Or.inr c248, Or.inr c259, Or.inr c269, trivial⟩) ?_
                                                                        refine Ex_run 2 (i' := 16) (L' := [(4, 0), (2, ((v1 : Nat) : Int)), (2, ((v2 : Nat) : Int)), (0, (w32 (s.1 + 6)))]) (st' := []) (h' := (s.2.1, s.2.2.1, s.2.2.2)) hm rfl cjn ?_
                                                                        cases e
                                                                        exact hk
set_option maxRecDepth 100000 in
theorem tf236 {d : Nat} {h : Mh} {x : Int × Mh} (e : f236 h = some x) (hd : 59 ≤ d) : Ex d 236 0 [(4, 0), (9, 0), (9, 0), (9, 0)] [] h (some (0, x.1), x.2) := by
  unfold f236 at e
  have hm := mi_236
  generalize hk : (some (0, x.1), x.2) = rr
  replace hk : Hi x rr := hk.symm
  refine Ex_run 4 (i' := 4) (L' := [(4, 0), (9, 0), (9, 0), (9, 0)]) (st' := [(0, 0), (4, 0), (2, (((List.length h.1) : Nat) : Int)), (2, (((List.length h.1) : Nat) : Int))]) (h' := ((h.1 ++ [(14, 15)]), (zapR h.2.1 (List.length h.1)), (zap h.2.2 (List.length h.1)))) hm rfl cjn ?_
  obtain ⟨q1, h1, e⟩ := bn_s e
  refine Ex_callm (z := 235) (na := 2) (ck := 0) (as := [(4, 0), (0, 0)]) (rest := [(2, (((List.length h.1) : Nat) : Int)), (2, (((List.length h.1) : Nat) : Int))]) (E0 := [(4, 0), (0, 0)]) (v := some (0, q1)) (h1 := ((h.1 ++ [(14, 15)]), (zapR h.2.1 (List.length h.1)), (zap h.2.2 (List.length h.1)))) hm rfl (by omega) ⟨Nat.le_of_ble_eq_true rfl, Nat.le_of_ble_eq_true rfl⟩ (trivial) rfl rfl ml_235 rfl (Nat.le_of_ble_eq_true rfl) (tf235 h1 (by omega)) ?_
  show Ex d 236 5 [(4, 0), (9, 0), (9, 0), (9, 0)] [(0, q1), (2, (((List.length h.1) : Nat) : Int)), (2, (((List.length h.1) : Nat) : Int))] ((h.1 ++ [(14, 15)]), (zapR h.2.1 (List.length h.1)), (zap h.2.2 (List.length h.1))) rr
  obtain ⟨g2, e⟩ := gd_s e
  obtain ⟨q3, h3, e⟩ := bn_s e
  refine Ex_callm (z := 95) (na := 2) (ck := 1) (as := [(2, (((List.length h.1) : Nat) : Int)), (0, q1)]) (rest := [(2, (((List.length h.1) : Nat) : Int))]) (E0 := [(2, (((List.length h.1) : Nat) : Int)), (0, q1), (9, 0)]) (v := none) (h1 := (q3.1, q3.2.1, q3.2.2)) hm rfl (by omega) ⟨Nat.le_of_ble_eq_true rfl, Nat.le_of_ble_eq_true rfl⟩ (⟨_, rfl, nz_i g2⟩) rfl rfl ml_95 rfl (Nat.le_of_ble_eq_true rfl) (tf95 h3 (by omega)) ?_
  show Ex d 236 6 [(4, 0), (9, 0), (9, 0), (9, 0)] [(2, (((List.length h.1) : Nat) : Int))] (q3.1, q3.2.1, q3.2.2) rr
  refine Ex_run 5 (i' := 11) (L' := [(4, 0), (2, (((List.length h.1) : Nat) : Int)), (9, 0), (9, 0)]) (st' := [(0, 0), (4, 0), (2, (((List.length q3.1) : Nat) : Int)), (2, (((List.length q3.1) : Nat) : Int))]) (h' := ((q3.1 ++ [(15, 53)]), (zapR q3.2.1 (List.length q3.1)), (zap q3.2.2 (List.length q3.1)))) hm rfl (cjc (Nat.le_of_ble_eq_true rfl) (cjc (nz_i g2) cjn)) ?_
  obtain ⟨q4, h4, e⟩ := bn_s e
  refine Ex_callm (z := 235) (na := 2) (ck := 0) (as := [(4, 0), (0, 0)]) (rest := [(2, (((List.length q3.1) : Nat) : Int)), (2, (((List.length q3.1) : Nat) : Int))]) (E0 := [(4, 0), (0, 0)]) (v := some (0, q4)) (h1 := ((q3.1 ++ [(15, 53)]), (zapR q3.2.1 (List.length q3.1)), (zap q3.2.2 (List.length q3.1)))) hm rfl (by omega) ⟨Nat.le_of_ble_eq_true rfl, Nat.le_of_ble_eq_true rfl⟩ (trivial) rfl rfl ml_235 rfl (Nat.le_of_ble_eq_true rfl) (tf235 h4 (by omega)) ?_
  show Ex d 236 12 [(4, 0), (2, (((List.length h.1) : Nat) : Int)), (9, 0), (9, 0)] [(0, q4), (2, (((List.length q3.1) : Nat) : Int)), (2, (((List.length q3.1) : Nat) : Int))] ((q3.1 ++ [(15, 53)]), (zapR q3.2.1 (List.length q3.1)), (zap q3.2.2 (List.length q3.1))) rr
  obtain ⟨g5, e⟩ := gd_s e
  obtain ⟨q6, h6, e⟩ := bn_s e
  refine Ex_callm (z := 144) (na := 2) (ck := 1) (as := [(2, (((List.length q3.1) : Nat) : Int)), (0, q4)]) (rest := [(2, (((List.length q3.1) : Nat) : Int))]) (E0 := [(2, (((List.length q3.1) : Nat) : Int)), (0, q4), (9, 0), (9, 0)]) (v := none) (h1 := (q6.1, q6.2.1, q6.2.2)) hm rfl (by omega) ⟨Nat.le_of_ble_eq_true rfl, Nat.le_of_ble_eq_true rfl⟩ (⟨_, rfl, nz_i g5⟩) rfl rfl ml_144 rfl (Nat.le_of_ble_eq_true rfl) (tf144 h6 (by omega)) ?_
  show Ex d 236 13 [(4, 0), (2, (((List.length h.1) : Nat) : Int)), (9, 0), (9, 0)] [(2, (((List.length q3.1) : Nat) : Int))] (q6.1, q6.2.1, q6.2.2) rr
  refine Ex_run 3 (i' := 16) (L' := [(4, 0), (2, (((List.length h.1) : Nat) : Int)), (2, (((List.length q3.1) : Nat) : Int)), (0, 1)]) (st' := []) (h' := (q6.1, q6.2.1, q6.2.2)) hm rfl (cjc (Nat.le_of_ble_eq_true rfl) (cjc (nz_i g5) (cjc (Nat.le_of_ble_eq_true rfl) cjn))) ?_
  exact (Ex_lp (A := e236_16 d (List.length h.1) (List.length q3.1) ) (B := Hi) (fun s x e rr hk => tf236_b16 e hd rr hk) FU _ _ e rr hk)
