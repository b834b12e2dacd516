/-! fields and rows -/
theorem ce_obj {E : EV} {ad : Nat → Nat} {h : Mh} {a c n : Nat} (hg : h.1[a]? = some (c + 3, n)) : ce E ad h a = .inr (c, (List.range (fnum c)).map (fun k => tf ad (kd (ftyp c k)) (h.2.1 a k) (h.2.2 a k))) := by
  unfold ce; rw [hg]
theorem ce_int {E : EV} {ad : Nat → Nat} {h : Mh} {a n : Nat} (hg : h.1[a]? = some (0, n)) : ce E ad h a = .inl (eI E, n, .inl (fun j => Int32.ofInt (h.2.2 a j))) := by
  unfold ce; rw [hg]
theorem ce_bool {E : EV} {ad : Nat → Nat} {h : Mh} {a n : Nat} (hg : h.1[a]? = some (1, n)) : ce E ad h a = .inl (eZ E, n, .inl (fun j => Int32.ofInt (h.2.2 a j))) := by
  unfold ce; rw [hg]
theorem ce_long {E : EV} {ad : Nat → Nat} {h : Mh} {a n : Nat} (hg : h.1[a]? = some (2, n)) : ce E ad h a = .inl (eJ E, n, .inr (.inl (fun j => Int64.ofInt (h.2.2 a j)))) := by
  unfold ce; rw [hg]
theorem ce_oth {E : EV} {ad : Nat → Nat} {h : Mh} {a b : Nat} {i v : Int} (hb : b ≠ a) : ce E ad (h.1, h.2.1, put h.2.2 a i v) b = ce E ad h b := ce_same rfl (fun _ => rfl) (fun j => if_neg (fun q => hb q.1))
theorem ce_othR {E : EV} {ad : Nat → Nat} {h : Mh} {a b k v : Nat} (hb : b ≠ a) : ce E ad (h.1, putR h.2.1 a k v, h.2.2) b = ce E ad h b := ce_same rfl (fun j => if_neg (fun q => hb q.1)) (fun _ => rfl)
/-- an object's fields, one of them new -/
theorem set_map {α : Type} (f g : Nat → α) (n k : Nat) (hk : k < n) (h : ∀ j, j < n → g j = if j = k then g k else f j) : ((List.range n).map f).set k (g k) = (List.range n).map g := by
  apply List.ext_getElem?
  intro j
  rw [List.getElem?_set]
  by_cases hj : j < n
  · by_cases hjk : k = j
    · subst hjk
      simp [hk]
    · rw [if_neg hjk, List.getElem?_map, List.getElem?_map, List.getElem?_range hj]
      simp only [Option.map_some]
      rw [h j hj, if_neg (fun e => hjk e.symm)]
  · rw [List.getElem?_eq_none (l := (List.range n).map g) (by simp; omega)]
    by_cases hjk : k = j
    · omega
    · rw [if_neg hjk, List.getElem?_eq_none (by simp; omega)]
theorem GI_put {E : EV} {h : Mh} {a : Nat} {i v : Int} (hG : GI E h) (h0 : a ≠ 0) (h64 : in64 v) (h1 : ∀ t n, h.1[a]? = some (t, n) → t < 2 → in32 v) (h2 : ∀ c n k, h.1[a]? = some (c + 3, n) → i = (k : Nat) → kd (ftyp c k) = 0 → in32 v) : GI E (h.1, h.2.1, put h.2.2 a i v) := by
  obtain ⟨g1, g2, g3, g4, g5, g6, g7⟩ := hG
  refine ⟨g1, fun j hj => ?_, g3, fun b j => ?_, fun b t n j hb ht => ?_, fun b c n k hb hk => ?_, g7⟩
  · show put h.2.2 a i v 0 j = _
    unfold put
    rw [if_neg (fun q => h0 q.1.symm)]
    exact g2 j hj
  · show in64 (put h.2.2 a i v b j)
    unfold put
    split
    · exact h64
    · exact g4 b j
  · show in32 (put h.2.2 a i v b j)
    unfold put
    split
    · rename_i q
      rw [q.1] at hb
      exact h1 t n hb ht
    · exact g5 b t n j hb ht
  · show in32 (put h.2.2 a i v b k)
    unfold put
    split
    · rename_i q
      rw [q.1] at hb
      exact h2 c n k hb q.2.symm hk
    · exact g6 b c n k hb hk
theorem GI_putR {E : EV} {h : Mh} {a k v : Nat} (hG : GI E h) (hv : v < h.1.length) : GI E (h.1, putR h.2.1 a k v, h.2.2) := by
  obtain ⟨g1, g2, g3, g4, g5, g6, g7⟩ := hG
  refine ⟨g1, g2, fun b j => ?_, g4, g5, g6, g7⟩
  show putR h.2.1 a k v b j < _
  unfold putR
  split
  · exact hv
  · exact g3 b j
/-- a field's words and place -/
def fw (own : String) (x c k : Nat) : Prop := c < 13 ∧ k < fnum c ∧ (Cond.fieldLink own x (ftab c k).1 (ftab c k).2.1 (ftab c k).2.2.1 ∈ wAll ∨ ∃ host, (own, x, (ftab c k).1, (ftab c k).2.1, (ftab c k).2.2.1, host) ∈ nstF)
section SIM
variable {own nm : String} {cc : ByteArray} {nL : Nat} {P : List Nat} {i : Nat}
theorem sim_getv {x c k : Nat} (hd : decode cc (pcat P i) = .ok (.getfield x, 3)) (hf : fw own x c k) (hn : pcat P (i + 1) = pcat P i + 3) {E : EV} {p : Program} {l : Launch} {e : Env} {R : Room} {s : State} {m : MethodId} {args : Array Value} {below : List Frame} {meth : Method} {c0 : Code} {d : Nat} (C : CX E p R s m args meth c0 own nm cc nL d) {h : Mh} {H : Heap} {locs : List Loc} {ad : Nat → Nat} (hI : IV E s h H locs ad) {a : Nat} (hg : gk h.1 a (c + 3)) {cells slots : Nat} {Q : State → Prop} {lsr : Array Slot} {rest : List Value}
    (kk : W p l e R s m args below meth c0 H locs cells slots Q (F0 m (pcat P (i + 1)) lsr (tf ad (kd (ftyp c k)) (h.2.1 a k) (h.2.2 a k) :: rest))) : W p l e R s m args below meth c0 H locs cells slots Q (F0 m (pcat P i) lsr (.ref (ad a) :: rest)) := by
  obtain ⟨hx, hb, hml, hown, hts, hF, -⟩ := C
  obtain ⟨hc, hk, hlink⟩ := hf
  obtain ⟨o1, o2, o3, o4⟩ := okc_all c hc
  obtain ⟨hP, hD, hS, hG⟩ := hI
  obtain ⟨n, hn2⟩ := gk_at hg
  have hat := wl_at (E := E) (ad := ad) (h := h) (gk_ne hG (by omega) hg) (gk_lt hg)
  rw [ce_obj hn2] at hat
  rw [hn] at kk
  have hv : ((List.range (fnum c)).map (fun k => tf ad (kd (ftyp c k)) (h.2.1 a k) (h.2.2 a k)))[k]? = some (tf ad (kd (ftyp c k)) (h.2.1 a k) (h.2.2 a k)) := by rw [List.getElem?_map, List.getElem?_range hk]; rfl
  rcases hlink with hlink | ⟨host, hlink⟩
  · exact va_get hx hb hts o2 hown hF.1 hP (a - 1) hat o1 k hk (hts _ hlink) (fun _ z => z) hv hd kk
  · exact va_getN hx hb hts o2 hown hF.1 hP (a - 1) hat o1 k hk (va_Nw.use rfl (hF.2.1 _ hlink)) (fun _ z => z) hv hd kk
theorem sim_get {x c k t : Nat} (hd : decode cc (pcat P i) = .ok (.getfield x, 3)) (hf : fw own x c k) (ht : kd (ftyp c k) = t) (ht2 : t < 2) (hn : pcat P (i + 1) = pcat P i + 3) : SimN own nm cc nL P 0 i (i_get c k t) := by
  refine sim_stk ?_
  intro E p l e R s m args below meth c0 d C L st h ps i' L' st' h' e1 e2 H locs ad lsr hI hv hL
  match st, e1 with
  | (2, r) :: st, e1 =>
    cases e1
    have hg := e2.1
    obtain ⟨n, hn2⟩ := gk_at hg
    have hG := hI.2.2.2
    have hc13 := hf.1
    refine ⟨rfl, rfl, al_cons ?_ (al_tl hv), fun cells slots Q kk => ?_⟩
    · match t, ht2, ht with
      | 0, _, ht => exact hG.2.2.2.2.2.1 _ c n k hn2 ht
      | 1, _, _ => exact hG.2.2.2.1 _ _
    · rw [List.map_cons, tv_r (gk_ne hG (by omega) hg)]
      refine sim_getv hd hf hn C hI hg ?_
      match t, ht2, ht with
      | 0, _, ht => rw [ht]; exact kk
      | 1, _, ht => rw [ht]; exact kk
theorem sim_getR {x c k : Nat} (hd : decode cc (pcat P i) = .ok (.getfield x, 3)) (hf : fw own x c k) (ht : kd (ftyp c k) = 2) (hn : pcat P (i + 1) = pcat P i + 3) : SimN own nm cc nL P 0 i (i_getR c k) := by
  refine sim_stk ?_
  intro E p l e R s m args below meth c0 d C L st h ps i' L' st' h' e1 e2 H locs ad lsr hI hv hL
  match st, e1 with
  | (2, r) :: st, e1 =>
    cases e1
    have hg := e2.1
    have hG := hI.2.2.2
    have hc13 := hf.1
    refine ⟨rfl, rfl, al_cons ?_ (al_tl hv), fun cells slots Q kk => ?_⟩
    · exact ⟨by show (0 : Int) ≤ ((h.2.1 r.toNat k : Nat) : Int); omega, by show ((h.2.1 r.toNat k : Nat) : Int) < _; have := hG.2.2.1 r.toNat k; omega⟩
    · rw [List.map_cons, tv_r (gk_ne hG (by omega) hg)]
      refine sim_getv hd hf hn C hI hg ?_
      rw [ht]
      exact kk
/-- a heap that differs -/
theorem sim_heap {f : SN}
    (hf : ∀ (E : EV) (p : Program) (l : Launch) (e : Env) (R : Room) (s : State) (m : MethodId) (args : Array Value) (below : List Frame) (meth : Method) (c : Code) (d : Nat), CX E p R s m args meth c own nm cc nL d →
      ∀ (L st : List MV) (h : Mh) (ps : List Prop) (i' : Nat) (L' st' : List MV) (h' : Mh), f i L st h = some (ps, i', L', st', h') → cj ps → ∀ (H : Heap) (locs : List Loc) (ad : Nat → Nat) (lsr : Array Slot), IV E s h H locs ad → (∀ v ∈ st, nv h v) → LV E ad lsr L h nL →
      L' = L ∧ h'.1 = h.1 ∧ (∀ v ∈ st', nv h v) ∧ ∀ (cells slots : Nat) (Q : State → Prop), (∀ (H' : Heap) (locs' : List Loc), IV E s h' H' locs' ad → W p l e R s m args below meth c H' locs' cells slots Q (F0 m (pcat P i') lsr (st'.map (tv E ad)))) → W p l e R s m args below meth c H locs cells slots Q (F0 m (pcat P i) lsr (st.map (tv E ad)))) : SimN own nm cc nL P 0 i f := by
  intro E p l e R s m args below meth c d C _ L st h ps i' L' st' h' e1 e2 H locs ad lsr g0 s0 Q hI hv hL hg hs
  obtain ⟨rfl, h2, h3, h4⟩ := hf E p l e R s m args below meth c d C L st h ps i' L' st' h' e1 e2 H locs ad lsr hI hv hL
  have nvv : ∀ v, nv h v → nv h' v := fun v q => by unfold nv at q ⊢; rw [h2]; exact q
  refine ⟨by rw [h2]; exact ⟨Nat.le_refl _, Nat.le_refl _⟩, fun _ _ k => ?_⟩
  rw [h2] at k
  exact h4 _ _ _ (fun H' locs' hI' => k H' locs' ad lsr hI' (fun v hv => nvv v (h3 v hv)) ⟨hL.1, hL.2.1, hL.2.2.1, fun j v hj h9 => ⟨nvv v (hL.2.2.2 j v hj h9).1, (hL.2.2.2 j v hj h9).2⟩⟩ (fun _ _ => rfl))
theorem sim_putv {x c k : Nat} (hd : decode cc (pcat P i) = .ok (.putfield x, 3)) (hf : fw own x c k) (hfin : (ftab c k).2.2.2 = false) (hn : pcat P (i + 1) = pcat P i + 3) {E : EV} {p : Program} {l : Launch} {e : Env} {R : Room} {s : State} {m : MethodId} {args : Array Value} {below : List Frame} {meth : Method} {c0 : Code} {d : Nat} (C : CX E p R s m args meth c0 own nm cc nL d) {h h' : Mh} {H : Heap} {locs : List Loc} {ad : Nat → Nat} (hI : IV E s h H locs ad) {a : Nat} (hg : gk h.1 a (c + 3)) (hG' : GI E h') (h1 : h'.1 = h.1) (ho : ∀ b, b ≠ a → ce E ad h' b = ce E ad h b) (hfs : ∀ j, (h'.2.1 a j, h'.2.2 a j) = if j = k then (h'.2.1 a k, h'.2.2 a k) else (h.2.1 a j, h.2.2 a j))
    (hnr : narrow (ftyp c k) (tf ad (kd (ftyp c k)) (h'.2.1 a k) (h'.2.2 a k)) = tf ad (kd (ftyp c k)) (h'.2.1 a k) (h'.2.2 a k)) (hft : fits (ftyp c k) (tf ad (kd (ftyp c k)) (h'.2.1 a k) (h'.2.2 a k)) = true) {cells slots : Nat} {Q : State → Prop} {lsr : Array Slot} {rest : List Value}
    (kk : ∀ (H' : Heap) (locs' : List Loc), IV E s h' H' locs' ad → W p l e R s m args below meth c0 H' locs' cells slots Q (F0 m (pcat P (i + 1)) lsr rest)) : W p l e R s m args below meth c0 H locs cells slots Q (F0 m (pcat P i) lsr (tf ad (kd (ftyp c k)) (h'.2.1 a k) (h'.2.2 a k) :: .ref (ad a) :: rest)) := by
  obtain ⟨hx, hb, hml, hown, hts, hF, -⟩ := C
  obtain ⟨hc, hk, hlink⟩ := hf
  obtain ⟨o1, o2, o3, o4⟩ := okc_all c hc
  obtain ⟨hP, hD, hS, hG⟩ := hI
  obtain ⟨n, hn2⟩ := gk_at hg
  have hc13 := hc
  have hne := gk_ne hG (by omega) hg
  have hat := wl_at (E := E) (ad := ad) (h := h) hne (gk_lt hg)
  rw [ce_obj hn2] at hat
  rw [hn] at kk
  have hset : (wl E ad h).set (a - 1) (ad a, .inr (c, ((List.range (fnum c)).map (fun k => tf ad (kd (ftyp c k)) (h.2.1 a k) (h.2.2 a k))).set k (tf ad (kd (ftyp c k)) (h'.2.1 a k) (h'.2.2 a k)))) = wl E ad h' := by
    refine wl_set hne (gk_lt hg) h1 ?_ ho
    rw [ce_obj (h := h') (n := n) (by rw [h1]; exact hn2)]
    refine congrArg (fun q => (Sum.inr (c, q) : va_E)) (set_map (fun k => tf ad (kd (ftyp c k)) (h.2.1 a k) (h.2.2 a k)) (fun k => tf ad (kd (ftyp c k)) (h'.2.1 a k) (h'.2.2 a k)) (fnum c) k hk (fun j _ => ?_)).symm
    have hj := hfs j
    by_cases e : j = k
    · subst e; rw [if_pos rfl]
    · rw [if_neg e] at hj ⊢
      rw [show h'.2.1 a j = h.2.1 a j from congrArg Prod.fst hj, show h'.2.2 a j = h.2.2 a j from congrArg Prod.snd hj]
  have kk' : ∀ (H1 : Heap) (locs1 : List Loc), va_P (eD E) vwCl ((wl E ad h).set (a - 1) (ad a, .inr (c, ((List.range (fnum c)).map (fun k => tf ad (kd (ftyp c k)) (h.2.1 a k) (h.2.2 a k))).set k (tf ad (kd (ftyp c k)) (h'.2.1 a k) (h'.2.2 a k))))) H1 → va_D (eA E) ((wl E ad h).set (a - 1) (ad a, .inr (c, ((List.range (fnum c)).map (fun k => tf ad (kd (ftyp c k)) (h.2.1 a k) (h.2.2 a k))).set k (tf ad (kd (ftyp c k)) (h'.2.1 a k) (h'.2.2 a k))))) → va_S (eA E) s.heap H1 locs1 → W p l e R s m args below meth c0 H1 locs1 cells slots Q (F0 m (pcat P i + 3) lsr rest) := by
    intro H1 locs1 hP1 hD1 hS1
    rw [hset] at hP1 hD1
    exact kk H1 locs1 ⟨hP1, hD1, hS1, hG'⟩
  rcases hlink with hlink | ⟨host, hlink⟩
  · exact va_put hx hb hts o2 (ftyp c) o3 o4 hown hF.1 hP hD hS (a - 1) hat o1 k hk (hts _ hlink) (fun _ z => z) hfin (o3 k hk) hnr hft (by simp only [List.length_map, List.length_range]; exact hk) hd kk'
  · exact va_putN hx hb hts o2 (ftyp c) o3 o4 hown hF.1 hP hD hS (a - 1) hat o1 k hk (va_Nw.use rfl (hF.2.1 _ hlink)) (fun _ z => z) hfin (o3 k hk) hnr hft (by simp only [List.length_map, List.length_range]; exact hk) hd kk'
theorem put_at (σ : Nat → Int → Int) (a : Nat) (i v : Int) : put σ a i v a i = v := if_pos ⟨rfl, rfl⟩
theorem put_fs {h : Mh} {a k : Nat} {v : Int} : ∀ j : Nat, ((h.2.1 a j, put h.2.2 a k v a j) : Nat × Int) = if j = k then (h.2.1 a k, put h.2.2 a k v a k) else (h.2.1 a j, h.2.2 a j) := by
  intro j
  by_cases e : j = k
  · subst e; rw [if_pos rfl]
  · rw [if_neg e]
    unfold put
    rw [if_neg (fun q => e (by omega))]
theorem sim_put {x c k : Nat} (hd : decode cc (pcat P i) = .ok (.putfield x, 3)) (hf : fw own x c k) (hfin : (ftab c k).2.2.2 = false) (ht : ftyp c k = .int) (hn : pcat P (i + 1) = pcat P i + 3) : SimN own nm cc nL P 0 i (i_put c k) := by
  refine sim_heap ?_
  intro E p l e R s m args below meth c0 d C L st h ps i' L' st' h' e1 e2 H locs ad lsr hI hv hL
  match st, e1 with
  | (0, x) :: (2, r) :: st, e1 =>
    cases e1
    have hg := e2.1
    have hG := hI.2.2.2
    have hc13 := hf.1
    have h32 : in32 x := al_hd hv
    have hne := gk_ne hG (by omega) hg
    refine ⟨rfl, rfl, al_tl (al_tl hv), fun cells slots Q kk => ?_⟩
    rw [List.map_cons, List.map_cons, tv_r hne]
    have hX := sim_putv (lsr := lsr) (rest := st'.map (tv E ad)) (l := l) (e := e) (below := below) (meth := meth) (cells := cells) (slots := slots) (Q := Q) hd hf hfin hn C (h' := (h.1, h.2.1, put h.2.2 r.toNat k x)) hI hg (GI_put hG hne (in32_64 h32) (fun _ _ _ _ => h32) (fun _ _ _ _ _ _ => h32)) rfl (fun b hb => ce_oth hb) (put_fs (h := h) (a := r.toNat) (k := k) (v := x))
    rw [ht] at hX
    simp only [put_at, kd, tf] at hX
    exact hX rfl rfl kk
theorem sim_putZ {x c k : Nat} (hd : decode cc (pcat P i) = .ok (.putfield x, 3)) (hf : fw own x c k) (hfin : (ftab c k).2.2.2 = false) (ht : ftyp c k = .boolean) (hn : pcat P (i + 1) = pcat P i + 3) : SimN own nm cc nL P 0 i (i_putZ c k) := by
  refine sim_heap ?_
  intro E p l e R s m args below meth c0 d C L st h ps i' L' st' h' e1 e2 H locs ad lsr hI hv hL
  match st, e1 with
  | (0, x) :: (2, r) :: st, e1 =>
    cases e1
    have hg := e2.1
    have hG := hI.2.2.2
    have hc13 := hf.1
    have h32 : in32 x := al_hd hv
    have hne := gk_ne hG (by omega) hg
    refine ⟨rfl, rfl, al_tl (al_tl hv), fun cells slots Q kk => ?_⟩
    rw [List.map_cons, List.map_cons, tv_r hne]
    have hX := sim_putv (lsr := lsr) (rest := st'.map (tv E ad)) (l := l) (e := e) (below := below) (meth := meth) (cells := cells) (slots := slots) (Q := Q) hd hf hfin hn C (h' := (h.1, h.2.1, put h.2.2 r.toNat k x)) hI hg (GI_put hG hne (in32_64 h32) (fun _ _ _ _ => h32) (fun _ _ _ _ _ _ => h32)) rfl (fun b hb => ce_oth hb) (put_fs (h := h) (a := r.toNat) (k := k) (v := x))
    rw [ht] at hX
    simp only [put_at, kd, tf] at hX
    refine hX ?_ ?_ kk
    · rcases e2.2.1 with rfl | rfl <;> decide
    · rcases e2.2.1 with rfl | rfl <;> decide
theorem sim_putJ {x c k : Nat} (hd : decode cc (pcat P i) = .ok (.putfield x, 3)) (hf : fw own x c k) (hfin : (ftab c k).2.2.2 = false) (ht : ftyp c k = .long) (hn : pcat P (i + 1) = pcat P i + 3) : SimN own nm cc nL P 0 i (i_putJ c k) := by
  refine sim_heap ?_
  intro E p l e R s m args below meth c0 d C L st h ps i' L' st' h' e1 e2 H locs ad lsr hI hv hL
  match st, e1 with
  | (1, x) :: (2, r) :: st, e1 =>
    cases e1
    have hg := e2.1
    have hG := hI.2.2.2
    have hc13 := hf.1
    have h64 : in64 x := al_hd hv
    have hne := gk_ne hG (by omega) hg
    obtain ⟨n, hn2⟩ := gk_at hg
    refine ⟨rfl, rfl, al_tl (al_tl hv), fun cells slots Q kk => ?_⟩
    rw [List.map_cons, List.map_cons, tv_r hne]
    have hX := sim_putv (lsr := lsr) (rest := st'.map (tv E ad)) (l := l) (e := e) (below := below) (meth := meth) (cells := cells) (slots := slots) (Q := Q) hd hf hfin hn C (h' := (h.1, h.2.1, put h.2.2 r.toNat k x)) hI hg (GI_put hG hne h64 (fun t n q ht => by rw [hn2] at q; cases q; omega) (fun c' n k' q hk' hkd => by
      rw [hn2] at q
      simp only [Option.some.injEq, Prod.mk.injEq] at q
      have e3 : c' = c := by omega
      have e4 : k' = k := by omega
      rw [e3, e4, ht] at hkd
      exact absurd hkd (by decide))) rfl (fun b hb => ce_oth hb) (put_fs (h := h) (a := r.toNat) (k := k) (v := x))
    rw [ht] at hX
    simp only [put_at, kd, tf] at hX
    exact hX rfl rfl kk
end SIM
