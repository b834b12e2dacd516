section SIM
variable {own nm : String} {cc : ByteArray} {nL : Nat} {P : List Nat} {i : Nat}
theorem putR_at (ρ : Nat → Nat → Nat) (a i v : Nat) : putR ρ a i v a i = v := if_pos ⟨rfl, rfl⟩
theorem putR_fs {h : Mh} {a k v : Nat} : ∀ j : Nat, ((putR h.2.1 a k v a j, h.2.2 a j) : Nat × Int) = if j = k then (putR h.2.1 a k v a k, h.2.2 a k) else (h.2.1 a j, h.2.2 a j) := by
  intro j
  by_cases e : j = k
  · subst e; rw [if_pos rfl]
  · rw [if_neg e]
    unfold putR
    rw [if_neg (fun q => e q.2)]
/-- a final field, in a maker -/
theorem sim_putFv {x c k : Nat} (hd : decode cc (pcat P i) = .ok (.putfield x, 3)) (hc : c < 13) (hk : k < fnum c) (hw : Cond.fieldLink own x (ftab c k).1 (ftab c k).2.1 (ftab c k).2.2.1 ∈ wAll) (hfin : (ftab c k).2.2.2 = true) (hdecl : (ftab c k).1 = own) (hnm : nm = "<init>") (hn : pcat P (i + 1) = pcat P i + 3) {E : EV} {p : Program} {l : Launch} {e : Env} {R : Room} {s : State} {m : MethodId} {args : Array Value} {below : List Frame} {meth : Method} {c0 : Code} {d : Nat} (C : CX E p R s m args meth c0 own nm cc nL d) {h h' : Mh} {H : Heap} {locs : List Loc} {ad : Nat → Nat} (hI : IV E s h H locs ad) {a : Nat} (hg : gk h.1 a (c + 3)) (hG' : GI E h') (h1 : h'.1 = h.1) (ho : ∀ b, b ≠ a → ce E ad h' b = ce E ad h b) (hfs : ∀ j, (h'.2.1 a j, h'.2.2 a j) = if j = k then (h'.2.1 a k, h'.2.2 a k) else (h.2.1 a j, h.2.2 a j))
    (hnr : narrow (ftyp c k) (tf ad (kd (ftyp c k)) (h'.2.1 a k) (h'.2.2 a k)) = tf ad (kd (ftyp c k)) (h'.2.1 a k) (h'.2.2 a k)) (hft : fits (ftyp c k) (tf ad (kd (ftyp c k)) (h'.2.1 a k) (h'.2.2 a k)) = true) {cells slots : Nat} {Q : State → Prop} {lsr : Array Slot} {rest : List Value}
    (kk : ∀ (H' : Heap) (locs' : List Loc), IV E s h' H' locs' ad → W p l e R s m args below meth c0 H' locs' cells slots Q (F0 m (pcat P (i + 1)) lsr rest)) : W p l e R s m args below meth c0 H locs cells slots Q (F0 m (pcat P i) lsr (tf ad (kd (ftyp c k)) (h'.2.1 a k) (h'.2.2 a k) :: .ref (ad a) :: rest)) := by
  obtain ⟨hx, hb, hml, hown, hts, hF, -, -, -, hmn⟩ := C
  obtain ⟨o1, o2, o3, o4⟩ := okc_all c hc
  obtain ⟨hP, hD, hS, hG⟩ := hI
  obtain ⟨n, hn2⟩ := gk_at hg
  have hne := gk_ne hG (by omega) hg
  have hat := wl_at (E := E) (ad := ad) (h := h) hne (gk_lt hg)
  rw [ce_obj hn2] at hat
  rw [hn] at kk
  have hset : (wl E ad h).set (a - 1) (ad a, .inr (c, ((List.range (fnum c)).map (fun k => tf ad (kd (ftyp c k)) (h.2.1 a k) (h.2.2 a k))).set k (tf ad (kd (ftyp c k)) (h'.2.1 a k) (h'.2.2 a k)))) = wl E ad h' := by
    refine wl_set hne (gk_lt hg) h1 ?_ ho
    rw [ce_obj (h := h') (n := n) (by rw [h1]; exact hn2)]
    refine congrArg (fun q => (Sum.inr (c, q) : va_E)) (set_map (fun k => tf ad (kd (ftyp c k)) (h.2.1 a k) (h.2.2 a k)) (fun k => tf ad (kd (ftyp c k)) (h'.2.1 a k) (h'.2.2 a k)) (fnum c) k hk (fun j _ => ?_)).symm
    have hj := hfs j
    by_cases e : j = k
    · subst e; rw [if_pos rfl]
    · rw [if_neg e] at hj ⊢
      rw [show h'.2.1 a j = h.2.1 a j from congrArg Prod.fst hj, show h'.2.2 a j = h.2.2 a j from congrArg Prod.snd hj]
  have kk' : ∀ (H1 : Heap) (locs1 : List Loc), va_P (eD E) vwCl ((wl E ad h).set (a - 1) (ad a, .inr (c, ((List.range (fnum c)).map (fun k => tf ad (kd (ftyp c k)) (h.2.1 a k) (h.2.2 a k))).set k (tf ad (kd (ftyp c k)) (h'.2.1 a k) (h'.2.2 a k))))) H1 → va_D (eA E) ((wl E ad h).set (a - 1) (ad a, .inr (c, ((List.range (fnum c)).map (fun k => tf ad (kd (ftyp c k)) (h.2.1 a k) (h.2.2 a k))).set k (tf ad (kd (ftyp c k)) (h'.2.1 a k) (h'.2.2 a k))))) → va_S (eA E) s.heap H1 locs1 → W p l e R s m args below meth c0 H1 locs1 cells slots Q (F0 m (pcat P i + 3) lsr rest) := by
    intro H1 locs1 hP1 hD1 hS1
    rw [hset] at hP1 hD1
    exact kk H1 locs1 ⟨hP1, hD1, hS1, hG'⟩
  exact va_putF hx hb hts o2 (ftyp c) o3 o4 hown hF.1 hP hD hS (a - 1) hat o1 k hk (hts _ hw) (fun _ z => z) hfin (hmn.trans hnm) hdecl (o3 k hk) hnr hft (by simp only [List.length_map, List.length_range]; exact hk) hd kk'
theorem sim_putR {x c k : Nat} (hd : decode cc (pcat P i) = .ok (.putfield x, 3)) (hc : c < 13) (hk : k < fnum c) (hw : Cond.fieldLink own x (ftab c k).1 (ftab c k).2.1 (ftab c k).2.2.1 ∈ wAll) (hfin : (ftab c k).2.2.2 = true) (hdecl : (ftab c k).1 = own) (hnm : nm = "<init>") (ht : kd (ftyp c k) = 2) (hn : pcat P (i + 1) = pcat P i + 3) : SimN own nm cc nL P 0 i (i_putR c k) := by
  refine sim_heap ?_
  intro E p l e R s m args below meth c0 d C L st h ps i' L' st' h' e1 e2 H locs ad lsr hI hv hL
  match st, e1 with
  | (2, x) :: (2, r) :: st, e1 =>
    cases e1
    have hg := e2.1
    have hG := hI.2.2.2
    have hx0 : 0 ≤ x ∧ x < h.1.length := al_hd hv
    have hne := gk_ne hG (by omega) hg
    refine ⟨rfl, rfl, al_tl (al_tl hv), fun cells slots Q kk => ?_⟩
    rw [List.map_cons, List.map_cons, tv_r hne]
    have hX := sim_putFv (lsr := lsr) (rest := st'.map (tv E ad)) (l := l) (e := e) (below := below) (meth := meth) (cells := cells) (slots := slots) (Q := Q) hd hc hk hw hfin hdecl hnm hn C (h' := (h.1, putR h.2.1 r.toNat k x.toNat, h.2.2)) hI hg (GI_putR hG (by omega)) rfl (fun b hb => ce_othR hb) (putR_fs (h := h) (a := r.toNat) (k := k) (v := x.toNat))
    simp only [putR_at] at hX
    have e3 : tf ad (kd (ftyp c k)) x.toNat (h.2.2 r.toNat k) = tv E ad (2, x) := by rw [ht]; rfl
    rw [e3] at hX
    have hxn : x.toNat ≠ 0 := toNat_ne hx0 e2.2.1
    refine hX ?_ ?_ kk
    · rw [tv_r hxn]
      cases hty : ftyp c k <;> rw [hty] at ht <;> first | rfl | (exact absurd ht (by decide))
    · rw [tv_r hxn]
      cases hty : ftyp c k <;> rw [hty] at ht <;> first | rfl | (exact absurd ht (by decide))
/-- a final int of a maker -/
theorem sim_putFI {x c k : Nat} (hd : decode cc (pcat P i) = .ok (.putfield x, 3)) (hc : c < 13) (hk : k < fnum c) (hw : Cond.fieldLink own x (ftab c k).1 (ftab c k).2.1 (ftab c k).2.2.1 ∈ wAll) (hfin : (ftab c k).2.2.2 = true) (hdecl : (ftab c k).1 = own) (hnm : nm = "<init>") (ht : ftyp c k = .int) (hn : pcat P (i + 1) = pcat P i + 3) : SimN own nm cc nL P 0 i (i_put c k) := by
  refine sim_heap ?_
  intro E p l e R s m args below meth c0 d C L st h ps i' L' st' h' e1 e2 H locs ad lsr hI hv hL
  match st, e1 with
  | (0, x) :: (2, r) :: st, e1 =>
    cases e1
    have hg := e2.1
    have hG := hI.2.2.2
    have h32 : in32 x := al_hd hv
    have hne := gk_ne hG (by omega) hg
    refine ⟨rfl, rfl, al_tl (al_tl hv), fun cells slots Q kk => ?_⟩
    rw [List.map_cons, List.map_cons, tv_r hne]
    have hX := sim_putFv (lsr := lsr) (rest := st'.map (tv E ad)) (l := l) (e := e) (below := below) (meth := meth) (cells := cells) (slots := slots) (Q := Q) hd hc hk hw hfin hdecl hnm hn C (h' := (h.1, h.2.1, put h.2.2 r.toNat k x)) hI hg (GI_put hG hne (in32_64 h32) (fun _ _ _ _ => h32) (fun _ _ _ _ _ _ => h32)) rfl (fun b hb => ce_oth hb) (put_fs (h := h) (a := r.toNat) (k := k) (v := x))
    rw [ht] at hX
    simp only [put_at, kd, tf] at hX
    exact hX rfl rfl kk
/-! rows -/
theorem ix_in {j : Int} {n : Nat} (h : 0 ≤ j ∧ j < (n : Int)) (h32 : in32 j) : vp_in (Int32.ofInt j) n ∧ ((Int32.ofInt j).toNatClampNeg : Int) = j := by
  have e := o32i h32
  refine ⟨vp_in_iff.mpr (by rw [e]; exact h), ?_⟩
  show (((Int32.ofInt j).toInt.toNat : Nat) : Int) = j
  rw [e]; omega
theorem sim_iald (hd : decode cc (pcat P i) = .ok (.iaload, 1)) (hn : pcat P (i + 1) = pcat P i + 1) : SimN own nm cc nL P 0 i (i_ald 0) := by
  refine sim_stk ?_
  intro E p l e R s m args below meth c0 d C L st h ps i' L' st' h' e1 e2 H locs ad lsr hI hv hL
  match st, e1 with
  | (0, j) :: (2, r) :: st, e1 =>
    cases e1
    obtain ⟨hx, hb, hml, hown, hts, hF, -⟩ := C
    obtain ⟨hg, hj, -⟩ := e2
    obtain ⟨hP, hD, hS, hG⟩ := hI
    obtain ⟨n, hn2⟩ := gk_at hg
    rw [gl_of hn2] at hj
    obtain ⟨j1, j2⟩ := ix_in hj (al_hd hv : in32 j)
    have hne := gk_ne hG (by decide) hg
    have hat := wl_at (E := E) (ad := ad) (h := h) hne (gk_lt hg)
    rw [ce_int hn2] at hat
    refine ⟨rfl, rfl, al_cons (hG.2.2.2.2.1 _ _ _ _ hn2 (by decide)) (al_tl (al_tl hv)), fun cells slots Q kk => ?_⟩
    rw [List.map_cons, List.map_cons, tv_r hne]
    refine va_iald hx hb hF.1 hP (r.toNat - 1) 0 hat rfl j1 hd ?_
    rw [hn] at kk
    simp only [j2]
    exact kk
theorem sim_zald (hd : decode cc (pcat P i) = .ok (.baload, 1)) (hn : pcat P (i + 1) = pcat P i + 1) : SimN own nm cc nL P 0 i (i_ald 1) := by
  refine sim_stk ?_
  intro E p l e R s m args below meth c0 d C L st h ps i' L' st' h' e1 e2 H locs ad lsr hI hv hL
  match st, e1 with
  | (0, j) :: (2, r) :: st, e1 =>
    cases e1
    obtain ⟨hx, hb, hml, hown, hts, hF, -⟩ := C
    obtain ⟨hg, hj, -⟩ := e2
    obtain ⟨hP, hD, hS, hG⟩ := hI
    obtain ⟨n, hn2⟩ := gk_at hg
    rw [gl_of hn2] at hj
    obtain ⟨j1, j2⟩ := ix_in hj (al_hd hv : in32 j)
    have hne := gk_ne hG (by decide) hg
    have hat := wl_at (E := E) (ad := ad) (h := h) hne (gk_lt hg)
    rw [ce_bool hn2] at hat
    refine ⟨rfl, rfl, al_cons (hG.2.2.2.2.1 _ _ _ _ hn2 (by decide)) (al_tl (al_tl hv)), fun cells slots Q kk => ?_⟩
    rw [List.map_cons, List.map_cons, tv_r hne]
    refine va_zald hx hb hF.1 hP (r.toNat - 1) 2 hat rfl j1 hd ?_
    rw [hn] at kk
    simp only [j2]
    exact kk
theorem sim_lald (hd : decode cc (pcat P i) = .ok (.laload, 1)) (hn : pcat P (i + 1) = pcat P i + 1) : SimN own nm cc nL P 0 i (i_ald 2) := by
  refine sim_stk ?_
  intro E p l e R s m args below meth c0 d C L st h ps i' L' st' h' e1 e2 H locs ad lsr hI hv hL
  match st, e1 with
  | (0, j) :: (2, r) :: st, e1 =>
    cases e1
    obtain ⟨hx, hb, hml, hown, hts, hF, -⟩ := C
    obtain ⟨hg, hj, -⟩ := e2
    obtain ⟨hP, hD, hS, hG⟩ := hI
    obtain ⟨n, hn2⟩ := gk_at hg
    rw [gl_of hn2] at hj
    obtain ⟨j1, j2⟩ := ix_in hj (al_hd hv : in32 j)
    have hne := gk_ne hG (by decide) hg
    have hat := wl_at (E := E) (ad := ad) (h := h) hne (gk_lt hg)
    rw [ce_long hn2] at hat
    refine ⟨rfl, rfl, al_cons (hG.2.2.2.1 _ _) (al_tl (al_tl hv)), fun cells slots Q kk => ?_⟩
    rw [List.map_cons, List.map_cons, tv_r hne]
    refine va_lald hx hb hF.1 hP (r.toNat - 1) 1 hat rfl j1 hd ?_
    rw [hn] at kk
    simp only [j2]
    exact kk
theorem upd_put {σ : Nat → Int → Int} {a : Nat} {j v : Int} {k : Nat} (hk : (k : Int) = j) : upd (fun q : Nat => Int32.ofInt (σ a q)) k (Int32.ofInt v) = fun q : Nat => Int32.ofInt (put σ a j v a q) := by
  funext q
  unfold upd put
  by_cases e : q = k
  · rw [if_pos e, if_pos ⟨rfl, by omega⟩]
  · rw [if_neg e, if_neg (fun z => e (by omega))]
theorem updL_put {σ : Nat → Int → Int} {a : Nat} {j v : Int} {k : Nat} (hk : (k : Int) = j) : vp_updL (fun q : Nat => Int64.ofInt (σ a q)) k (Int64.ofInt v) = fun q : Nat => Int64.ofInt (put σ a j v a q) := by
  funext q
  unfold vp_updL put
  by_cases e : q = k
  · rw [if_pos e, if_pos ⟨rfl, by omega⟩]
  · rw [if_neg e, if_neg (fun z => e (by omega))]
theorem sim_iast (hd : decode cc (pcat P i) = .ok (.iastore, 1)) (hn : pcat P (i + 1) = pcat P i + 1) : SimN own nm cc nL P 0 i i_ast := by
  refine sim_heap ?_
  intro E p l e R s m args below meth c0 d C L st h ps i' L' st' h' e1 e2 H locs ad lsr hI hv hL
  match st, e1 with
  | (0, x) :: (0, j) :: (2, r) :: st, e1 =>
    cases e1
    obtain ⟨hx, hb, hml, hown, hts, hF, -⟩ := C
    obtain ⟨hg, hj, -⟩ := e2
    obtain ⟨hP, hD, hS, hG⟩ := hI
    obtain ⟨n, hn2⟩ := gk_at hg
    rw [gl_of hn2] at hj
    obtain ⟨j1, j2⟩ := ix_in hj (al_hd (al_tl hv) : in32 j)
    have h32 : in32 x := al_hd hv
    have hne := gk_ne hG (by decide) hg
    have hat := wl_at (E := E) (ad := ad) (h := h) hne (gk_lt hg)
    rw [ce_int hn2] at hat
    refine ⟨rfl, rfl, al_tl (al_tl (al_tl hv)), fun cells slots Q kk => ?_⟩
    rw [List.map_cons, List.map_cons, List.map_cons, tv_r hne]
    refine va_iast hx hb hF.1 hP hD hS (r.toNat - 1) 0 hat rfl j1 hd (fun H1 locs1 hP1 hD1 hS1 => ?_)
    have hset := wl_set (E := E) (ad := ad) (h := h) (h' := (h.1, h.2.1, put h.2.2 r.toNat j x)) hne (gk_lt hg) rfl (ce_int (h := (h.1, h.2.1, put h.2.2 r.toNat j x)) hn2) (fun b hb => ce_oth hb)
    rw [upd_put j2] at hP1 hD1
    rw [hn] at kk
    refine kk H1 locs1 ⟨by rw [← hset]; exact hP1, by rw [← hset]; exact hD1, hS1, GI_put hG hne (in32_64 h32) (fun _ _ _ _ => h32) (fun _ _ _ _ _ _ => h32)⟩
theorem nar_z {x : Int} (h : x = 0 ∨ x = 1) : vp_nar .boolean (Int32.ofInt x) = Int32.ofInt x := by rcases h with rfl | rfl <;> decide
theorem sim_zast (hd : decode cc (pcat P i) = .ok (.bastore, 1)) (hn : pcat P (i + 1) = pcat P i + 1) : SimN own nm cc nL P 0 i i_astZ := by
  refine sim_heap ?_
  intro E p l e R s m args below meth c0 d C L st h ps i' L' st' h' e1 e2 H locs ad lsr hI hv hL
  match st, e1 with
  | (0, x) :: (0, j) :: (2, r) :: st, e1 =>
    cases e1
    obtain ⟨hx, hb, hml, hown, hts, hF, -⟩ := C
    obtain ⟨hg, hj, hz, -⟩ := e2
    obtain ⟨hP, hD, hS, hG⟩ := hI
    obtain ⟨n, hn2⟩ := gk_at hg
    rw [gl_of hn2] at hj
    obtain ⟨j1, j2⟩ := ix_in hj (al_hd (al_tl hv) : in32 j)
    have h32 : in32 x := al_hd hv
    have hne := gk_ne hG (by decide) hg
    have hat := wl_at (E := E) (ad := ad) (h := h) hne (gk_lt hg)
    rw [ce_bool hn2] at hat
    refine ⟨rfl, rfl, al_tl (al_tl (al_tl hv)), fun cells slots Q kk => ?_⟩
    rw [List.map_cons, List.map_cons, List.map_cons, tv_r hne]
    refine va_zast hx hb hF.1 hP hD hS (r.toNat - 1) 2 hat rfl j1 hd (fun H1 locs1 hP1 hD1 hS1 => ?_)
    have hset := wl_set (E := E) (ad := ad) (h := h) (h' := (h.1, h.2.1, put h.2.2 r.toNat j x)) hne (gk_lt hg) rfl (ce_bool (h := (h.1, h.2.1, put h.2.2 r.toNat j x)) hn2) (fun b hb => ce_oth hb)
    rw [nar_z hz, upd_put j2] at hP1 hD1
    rw [hn] at kk
    refine kk H1 locs1 ⟨by rw [← hset]; exact hP1, by rw [← hset]; exact hD1, hS1, GI_put hG hne (in32_64 h32) (fun _ _ _ _ => h32) (fun _ _ _ _ _ _ => h32)⟩
theorem sim_last (hd : decode cc (pcat P i) = .ok (.lastore, 1)) (hn : pcat P (i + 1) = pcat P i + 1) : SimN own nm cc nL P 0 i i_astJ := by
  refine sim_heap ?_
  intro E p l e R s m args below meth c0 d C L st h ps i' L' st' h' e1 e2 H locs ad lsr hI hv hL
  match st, e1 with
  | (1, x) :: (0, j) :: (2, r) :: st, e1 =>
    cases e1
    obtain ⟨hx, hb, hml, hown, hts, hF, -⟩ := C
    obtain ⟨hg, hj, -⟩ := e2
    obtain ⟨hP, hD, hS, hG⟩ := hI
    obtain ⟨n, hn2⟩ := gk_at hg
    rw [gl_of hn2] at hj
    obtain ⟨j1, j2⟩ := ix_in hj (al_hd (al_tl hv) : in32 j)
    have h64 : in64 x := al_hd hv
    have hne := gk_ne hG (by decide) hg
    have hat := wl_at (E := E) (ad := ad) (h := h) hne (gk_lt hg)
    rw [ce_long hn2] at hat
    refine ⟨rfl, rfl, al_tl (al_tl (al_tl hv)), fun cells slots Q kk => ?_⟩
    rw [List.map_cons, List.map_cons, List.map_cons, tv_r hne]
    refine va_last hx hb hF.1 hP hD hS (r.toNat - 1) 1 hat rfl j1 hd (fun H1 locs1 hP1 hD1 hS1 => ?_)
    have hset := wl_set (E := E) (ad := ad) (h := h) (h' := (h.1, h.2.1, put h.2.2 r.toNat j x)) hne (gk_lt hg) rfl (ce_long (h := (h.1, h.2.1, put h.2.2 r.toNat j x)) hn2) (fun b hb => ce_oth hb)
    rw [updL_put j2] at hP1 hD1
    rw [hn] at kk
    refine kk H1 locs1 ⟨by rw [← hset]; exact hP1, by rw [← hset]; exact hD1, hS1, GI_put hG hne h64 (fun t n' q ht => by rw [hn2] at q; cases q; omega) (fun c n' k q _ _ => by rw [hn2] at q; simp only [Option.some.injEq, Prod.mk.injEq] at q; omega)⟩
theorem gl32 {n : Nat} : Int32.ofNat n = Int32.ofInt (n : Int) := rfl
theorem sim_alen0 (hd : decode cc (pcat P i) = .ok (.arraylength, 1)) (hn : pcat P (i + 1) = pcat P i + 1) : SimN own nm cc nL P 0 i (i_alen 0) := by
  refine sim_stk ?_
  intro E p l e R s m args below meth c0 d C L st h ps i' L' st' h' e1 e2 H locs ad lsr hI hv hL
  match st, e1 with
  | (2, r) :: st, e1 =>
    cases e1
    obtain ⟨hx, hb, hml, hown, hts, hF, -⟩ := C
    obtain ⟨hg, -⟩ := e2
    obtain ⟨hP, hD, hS, hG⟩ := hI
    obtain ⟨n, hn2⟩ := gk_at hg
    have hne := gk_ne hG (by decide) hg
    have hat := wl_at (E := E) (ad := ad) (h := h) hne (gk_lt hg)
    rw [ce_int hn2] at hat
    have h7 := hG.2.2.2.2.2.2 _ _ _ hn2
    refine ⟨rfl, rfl, al_cons ?_ (al_tl hv), fun cells slots Q kk => ?_⟩
    · show in32 (gl h.1 r.toNat)
      rw [gl_of hn2]; exact ⟨by omega, by omega⟩
    · rw [List.map_cons, tv_r hne]
      refine va_alen hx hb hF.1 hP (r.toNat - 1) 0 hat rfl rfl hd ?_
      rw [hn, List.map_cons, tv_i, gl_of hn2] at kk
      exact kk
theorem sim_slen (hd : decode cc (pcat P i) = .ok (.arraylength, 1)) (hn : pcat P (i + 1) = pcat P i + 1) : SimN own nm cc nL P 0 i i_slen := by
  refine sim_stk ?_
  intro E p l e R s m args below meth c0 d C L st h ps i' L' st' h' e1 e2 H locs ad lsr hI hv hL
  match st, e1 with
  | (4, z) :: st, e1 =>
    cases e1
    obtain ⟨hx, hb, hml, hown, hts, hF, hO, -⟩ := C
    obtain ⟨hP, hD, hS, hG⟩ := hI
    obtain ⟨-, -, -, -, -, -, -, hX, hB, hLL⟩ := hF
    have e3 : gl h.1 0 = (eL E : Int) := gl_of hG.1
    refine ⟨rfl, rfl, al_cons ?_ (al_tl hv), fun cells slots Q kk => ?_⟩
    · show in32 (gl h.1 0)
      rw [e3]; exact ⟨by omega, by omega⟩
    · refine va_slen hx hb hX (by omega) (Nat.not_le.mpr hB) hS hd ?_
      rw [hn, List.map_cons, tv_i, e3] at kk
      exact kk
theorem sim_sld (hd : decode cc (pcat P i) = .ok (.iaload, 1)) (hn : pcat P (i + 1) = pcat P i + 1) : SimN own nm cc nL P 0 i i_sld := by
  refine sim_stk ?_
  intro E p l e R s m args below meth c0 d C L st h ps i' L' st' h' e1 e2 H locs ad lsr hI hv hL
  match st, e1 with
  | (0, j) :: (4, z) :: st, e1 =>
    cases e1
    obtain ⟨hx, hb, hml, hown, hts, hF, hO, -⟩ := C
    obtain ⟨hP, hD, hS, hG⟩ := hI
    obtain ⟨-, -, -, -, -, -, -, hX, hB, hLL⟩ := hF
    obtain ⟨hj, -⟩ := e2
    rw [gl_of hG.1] at hj
    obtain ⟨j1, j2⟩ := ix_in hj (al_hd hv : in32 j)
    have e3 : h.2.2 0 j = (eX E (Int32.ofInt j).toNatClampNeg).toInt := by
      have := hG.2.1 (Int32.ofInt j).toNatClampNeg (by omega)
      rw [j2] at this
      exact this
    refine ⟨rfl, rfl, al_cons ?_ (al_tl (al_tl hv)), fun cells slots Q kk => ?_⟩
    · show in32 (h.2.2 0 j)
      rw [e3]; exact t32_in _
    · refine va_sld hx hb hX (by omega) (Nat.not_le.mpr hB) hS j1 hd ?_
      rw [hn, List.map_cons, tv_i, e3, t32] at kk
      exact kk
end SIM
