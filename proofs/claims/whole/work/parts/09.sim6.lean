/-! making cells -/
theorem rfv_up {ad : Nat → Nat} {r g q : Nat} (h : r < g) : rfv (fun a => if a = g then q else ad a) r = rfv ad r := by
  cases r with
  | zero => rfl
  | succ n => show Value.ref (if n + 1 = g then q else ad (n + 1)) = _; rw [if_neg (by omega)]; rfl
theorem tf_up {ad : Nat → Nat} {k r g q : Nat} {v : Int} (h : r < g) : tf (fun a => if a = g then q else ad a) k r v = tf ad k r v := by
  unfold tf
  split
  · rfl
  · rfl
  · exact rfv_up h
/-- a cell more -/
theorem ce_old {E : EV} {ad : Nat → Nat} {h : Mh} {t n q a : Nat} (hr : ∀ a k, h.2.1 a k < h.1.length) (ha : a < h.1.length) : ce E (fun a => if a = h.1.length then q else ad a) (h.1 ++ [(t, n)], zapR h.2.1 h.1.length, zap h.2.2 h.1.length) a = ce E ad h a := by
  have hne : ¬ a = h.1.length := by omega
  have e1 : (h.1 ++ [(t, n)])[a]? = h.1[a]? := List.getElem?_append_left ha
  have e2 : zapR h.2.1 h.1.length a = h.2.1 a := by funext k; unfold zapR; rw [if_neg hne]
  have e3 : zap h.2.2 h.1.length a = h.2.2 a := by funext k; unfold zap; rw [if_neg hne]
  unfold ce
  simp only [e1, e2, e3]
  split <;> first | rfl | skip
  rename_i c n' _
  refine congrArg (fun z => (Sum.inr (c, z) : va_E)) (List.map_congr_left (fun k _ => ?_))
  exact tf_up (hr a k)
theorem wl_new {E : EV} {ad : Nat → Nat} {h : Mh} {t n q : Nat} {e : va_E} (h0 : 1 ≤ h.1.length) (hr : ∀ a k, h.2.1 a k < h.1.length) (he : ce E (fun a => if a = h.1.length then q else ad a) (h.1 ++ [(t, n)], zapR h.2.1 h.1.length, zap h.2.2 h.1.length) h.1.length = e) :
    wl E ad h ++ [(q, e)] = wl E (fun a => if a = h.1.length then q else ad a) (h.1 ++ [(t, n)], zapR h.2.1 h.1.length, zap h.2.2 h.1.length) := by
  apply List.ext_getElem?
  intro j
  have hlen : (wl E ad h).length = h.1.length - 1 := by simp [wl]
  have hlen2 : (h.1 ++ [(t, n)]).length = h.1.length + 1 := by simp
  by_cases hj : j < h.1.length - 1
  · rw [List.getElem?_append_left (by omega)]
    have e1 := wl_at (E := E) (ad := ad) (h := h) (a := j + 1) (by omega) (by omega)
    have e2 := wl_at (E := E) (ad := fun a => if a = h.1.length then q else ad a) (h := (h.1 ++ [(t, n)], zapR h.2.1 h.1.length, zap h.2.2 h.1.length)) (a := j + 1) (by omega) (by show j + 1 < (h.1 ++ [(t, n)]).length; omega)
    rw [show j + 1 - 1 = j by omega] at e1 e2
    rw [e1, e2, ce_old hr (by omega), if_neg (show ¬ j + 1 = h.1.length by omega)]
  · rw [List.getElem?_append_right (by omega)]
    by_cases hj2 : j = h.1.length - 1
    · subst hj2
      have e2 := wl_at (E := E) (ad := fun a => if a = h.1.length then q else ad a) (h := (h.1 ++ [(t, n)], zapR h.2.1 h.1.length, zap h.2.2 h.1.length)) (a := h.1.length) (by omega) (by show h.1.length < (h.1 ++ [(t, n)]).length; omega)
      rw [e2, he, if_pos rfl, hlen, Nat.sub_self]
      rfl
    · rw [List.getElem?_eq_none (by simp; omega), List.getElem?_eq_none (by simp only [wl, List.length_map, List.length_range]; omega)]
theorem GI_new {E : EV} {h : Mh} {t n : Nat} (hG : GI E h) (hn : n < 2147483648) : GI E (h.1 ++ [(t, n)], zapR h.2.1 h.1.length, zap h.2.2 h.1.length) := by
  obtain ⟨g1, g2, g3, g4, g5, g6, g7⟩ := hG
  have hl : 0 < h.1.length := (List.getElem?_eq_some_iff.mp g1).1
  have old : ∀ (a t' n' : Nat), (h.1 ++ [(t, n)])[a]? = some (t', n') → h.1[a]? = some (t', n') ∨ (a = h.1.length ∧ n' = n) := by
    intro a t' n' ha
    by_cases hlt : a < h.1.length
    · rw [List.getElem?_append_left hlt] at ha
      exact Or.inl ha
    · rw [List.getElem?_append_right (by omega)] at ha
      by_cases hz : a - h.1.length = 0
      · rw [hz] at ha
        cases ha
        exact Or.inr ⟨by omega, rfl⟩
      · rw [List.getElem?_eq_none (by simp; omega)] at ha
        cases ha
  refine ⟨?_, fun j hj => ?_, fun a k => ?_, fun a j => ?_, fun a t' n' j ha ht => ?_, fun a c n' k ha hk => ?_, fun a t' n' ha => ?_⟩
  · show (h.1 ++ [(t, n)])[0]? = _
    rw [List.getElem?_append_left hl]; exact g1
  · show zap h.2.2 h.1.length 0 j = _
    unfold zap
    rw [if_neg (by omega)]
    exact g2 j hj
  · show zapR h.2.1 h.1.length a k < (h.1 ++ [(t, n)]).length
    unfold zapR
    have := g3 a k
    split <;> simp <;> omega
  · show in64 (zap h.2.2 h.1.length a j)
    unfold zap
    split
    · exact in64_0
    · exact g4 a j
  · show in32 (zap h.2.2 h.1.length a j)
    unfold zap
    split
    · exact in32_0
    · rename_i hne
      rcases old a t' n' ha with q | q
      · exact g5 a t' n' j q ht
      · exact absurd q.1 hne
  · show in32 (zap h.2.2 h.1.length a k)
    unfold zap
    split
    · exact in32_0
    · rename_i hne
      rcases old a _ n' ha with q | q
      · exact g6 a c n' k q hk
      · exact absurd q.1 hne
  · rcases old a t' n' ha with q | q
    · exact g7 a t' n' q
    · rw [q.2]; exact hn
theorem sl_app (G : List (Nat × Nat)) (t n : Nat) : sl (G ++ [(t, n)]) = sl G + n := by unfold sl; simp
/-- a fresh ad, the old values -/
theorem tv_up {E : EV} {ad : Nat → Nat} {h : Mh} {q : Nat} {v : MV} (hv : nv h v) : tv E (fun a => if a = h.1.length then q else ad a) v = tv E ad v := by
  obtain ⟨t, x⟩ := v
  match t, hv with
  | 0, _ => rfl
  | 1, _ => rfl
  | 2, hv => exact rfv_up (by have h1 : (0 : Int) ≤ x ∧ x < h.1.length := hv; show x.toNat < h.1.length; omega)
  | 3, _ => rfl
  | 4, _ => rfl
  | 5, _ => rfl
  | 6, _ => rfl
theorem nv_up {h h' : Mh} {v : MV} (hl : h.1.length ≤ h'.1.length) (hv : nv h v) : nv h' v := by
  obtain ⟨t, x⟩ := v
  match t, hv with
  | 0, hv => exact hv
  | 1, hv => exact hv
  | 2, hv => exact (show (0 : Int) ≤ x ∧ x < h'.1.length from ⟨(show (0 : Int) ≤ x ∧ x < h.1.length from hv).1, by have h1 : (0 : Int) ≤ x ∧ x < h.1.length := hv; omega⟩)
  | 3, hv => exact hv
  | 4, hv => exact hv
  | 5, hv => exact hv
  | 6, hv => exact hv
/-- frames that see old cells alone keep their values when the cells' places are the same -/
theorem tv_ag {E : EV} {ad ad' : Nat → Nat} {h : Mh} (ha : ∀ a, a < h.1.length → ad' a = ad a) {v : MV} (hv : nv h v) : tv E ad' v = tv E ad v := by
  obtain ⟨t, x⟩ := v
  match t, hv with
  | 0, _ => rfl
  | 1, _ => rfl
  | 2, hv =>
    have h1 : (0 : Int) ≤ x ∧ x < h.1.length := hv
    show rfv ad' x.toNat = rfv ad x.toNat
    cases hx : x.toNat with
    | zero => rfl
    | succ n => show Value.ref (ad' (n + 1)) = .ref (ad (n + 1)); rw [ha (n + 1) (by omega)]
  | 3, _ => rfl
  | 4, _ => rfl
  | 5, _ => rfl
  | 6, _ => rfl
theorem map_ag {E : EV} {ad ad' : Nat → Nat} {h : Mh} (ha : ∀ a, a < h.1.length → ad' a = ad a) {st : List MV} (hv : ∀ v ∈ st, nv h v) : st.map (tv E ad') = st.map (tv E ad) := List.map_congr_left (fun v q => tv_ag ha (hv v q))
theorem LV.ag {E : EV} {ad ad' : Nat → Nat} {lsr : Array Slot} {L : List MV} {h h' : Mh} {nL : Nat} (hL : LV E ad lsr L h nL) (hl : h.1.length ≤ h'.1.length) (ha : ∀ a, a < h.1.length → ad' a = ad a) : LV E ad' lsr L h' nL := by
  refine ⟨hL.1, hL.2.1, hL.2.2.1, fun k v hk h9 => ?_⟩
  obtain ⟨h1, h2⟩ := hL.2.2.2 k v hk h9
  exact ⟨nv_up hl h1, by rw [tv_ag ha h1]; exact h2⟩
/-- the sorts of fields that there are -/
def okf (ty : FieldType) : Bool := match ty with
  | .int => true
  | .long => true
  | .boolean => true
  | .object _ => true
  | .array _ => true
  | _ => false
theorem okf_all : ∀ c, c < 13 → ∀ k, k < fnum c → okf (ftyp c k) = true := by decide +kernel
theorem dflt_tf {ad : Nat → Nat} {ty : FieldType} (h : okf ty = true) : defaultValue ty = tf ad (kd ty) 0 0 := by
  cases ty <;> first | rfl | (simp [okf] at h)
section SIM
variable {own nm : String} {cc : ByteArray} {nL : Nat} {P : List Nat} {i : Nat}
theorem sim_new {x c n : Nat} (hd : decode cc (pcat P i) = .ok (.new x, 3)) (hc : c < 13) (hN : fnum c = n) (hw1 : Cond.classLink own x (fnam c) ∈ wAll) (hw2 : Cond.instantiable (fnam c) (fnum c) ∈ wAll) (hw3 : Cond.initialized (fnam c) ∈ wAll) (hn : pcat P (i + 1) = pcat P i + 3) : SimN own nm cc nL P 0 i (i_new c n) := by
  subst hN
  intro E p l e R s m args below meth c0 d C hdk L st h ps i' L' st' h' e1 e2 H locs ad lsr g0 s0 Q hI hv hL hg hs
  cases e1
  obtain ⟨hx, hb, hml, hown, hts, hF, hO, -⟩ := C
  obtain ⟨o1, o2, o3, o4⟩ := okc_all c hc
  obtain ⟨hP, hD, hS, hG⟩ := hI
  have hll : (h.1 ++ [(c + 3, fnum c)]).length = h.1.length + 1 := by simp
  have hl1 : 1 ≤ h.1.length := (List.getElem?_eq_some_iff.mp hG.1).1
  have hfn : fnum c < 2147483648 := by
    have : ∀ c, c < 13 → fnum c < 2147483648 := by decide
    exact this c hc
  refine ⟨⟨by show h.1.length ≤ (h.1 ++ [(c + 3, fnum c)]).length; omega, by show sl h.1 ≤ sl (h.1 ++ [(c + 3, fnum c)]); rw [sl_app]; omega⟩, fun hR1 hR2 kk => ?_⟩
  have hR1 : (h.1 ++ [(c + 3, fnum c)]).length - g0 ≤ R.cells := hR1
  have hR2 : sl (h.1 ++ [(c + 3, fnum c)]) - s0 ≤ R.slots := hR2
  rw [sl_app] at hR2
  refine va_new (ci := c) (fs := (List.range (fnum c)).map (fun k => tf ad (kd (ftyp c k)) 0 0)) hx hb hts o2 (ftyp c) o3 hown (hts _ hw1) (hts _ hw2) (hts _ hw3) hF.1 hP hD hS (fun q hq => Nat.le_trans hO hq) o1 (fun j hj => ?_) (by omega) (by omega) hd (fun q H1 hP1 hD1 hS1 => ?_)
  · rw [dflt_tf (ad := ad) (okf_all c hc j hj)]
    unfold vp_V
    rw [List.getD_eq_getElem?_getD, List.getElem?_map, List.getElem?_range hj]
    rfl
  · have hwn := wl_new (E := E) (ad := ad) (h := h) (t := c + 3) (n := fnum c) (q := q) hl1 hG.2.2.1 (e := .inr (c, (List.range (fnum c)).map (fun k => tf ad (kd (ftyp c k)) 0 0))) (by
      rw [ce_obj (h := (h.1 ++ [(c + 3, fnum c)], zapR h.2.1 h.1.length, zap h.2.2 h.1.length)) (a := h.1.length) (c := c) (n := fnum c) (by show (h.1 ++ [(c + 3, fnum c)])[h.1.length]? = _; simp)]
      refine congrArg (fun z => (Sum.inr (c, z) : va_E)) (List.map_congr_left (fun k _ => ?_))
      show tf _ (kd (ftyp c k)) (zapR h.2.1 h.1.length h.1.length k) (zap h.2.2 h.1.length h.1.length k) = _
      rw [show zapR h.2.1 h.1.length h.1.length k = 0 from if_pos rfl, show zap h.2.2 h.1.length h.1.length k = 0 from if_pos rfl]
      unfold tf
      split <;> rfl)
    rw [hwn] at hP1 hD1
    have hag : ∀ a, a < h.1.length → (fun a => if a = h.1.length then q else ad a) a = ad a := fun a ha => if_neg (by omega)
    have k2 := kk H1 locs (fun a => if a = h.1.length then q else ad a) lsr ⟨hP1, hD1, hS1, GI_new hG hfn⟩
      (al_cons (show (0 : Int) ≤ (h.1.length : Int) ∧ (h.1.length : Int) < ((h.1 ++ [(c + 3, fnum c)]).length : Nat) from ⟨by omega, by omega⟩) (fun v q => nv_up (by show h.1.length ≤ (h.1 ++ [(c + 3, fnum c)]).length; omega) (hv v q)))
      (hL.ag (by show h.1.length ≤ (h.1 ++ [(c + 3, fnum c)]).length; omega) hag) hag
    rw [List.map_cons, map_ag hag hv, hn] at k2
    have e9 : tv E (fun a => if a = h.1.length then q else ad a) (2, (h.1.length : Int)) = .ref q := by
      rw [tv_r (by omega)]
      show Value.ref (if ((h.1.length : Int)).toNat = h.1.length then q else _) = _
      rw [if_pos (by omega)]
    rw [e9] at k2
    have e7 : (h.1 ++ [(c + 3, fnum c)]).length - g0 = h.1.length - g0 + 1 := by omega
    have e8 : sl (h.1 ++ [(c + 3, fnum c)]) - s0 = sl h.1 - s0 + fnum c := by rw [sl_app]; omega
    have k3 : W p l e R s m args below meth c0 H1 locs ((h.1 ++ [(c + 3, fnum c)]).length - g0) (sl (h.1 ++ [(c + 3, fnum c)]) - s0) Q (F0 m (pcat P i + 3) lsr (.ref q :: st.map (tv E ad))) := k2
    rw [e7, e8] at k3
    exact k3
theorem sim_newv {t : Nat} {aty : ArrayType} {ty : FieldType} (hty : newarray.typeOf aty = ty) (cA : EV → ClassId) (a0 : Nat → vp_A) (ha0 : ∀ (n : Nat) (c : ClassId), vp_cell c (a0 n) = arrV c n (fun _ => defaultValue ty)) (hby : ∀ n, n ≤ 100000 → n * componentBytes ty ≤ 536870912)
    (hcA : ∀ E : EV, (cA E, ty) ∈ eT E) (hsc : ∀ (E : EV) (s : State), va_RA s (cA E) ty → s.vm.findClass ("[" ++ ty.toString) = some (cA E)) (hsc2 : ∀ (c : ClassId) (s : State), va_RA s c ty → s.vm.findClass ("[" ++ ty.toString) = some c)
    (hce : ∀ (E : EV) (ad : Nat → Nat) (h : Mh) (n : Nat), ce E ad (h.1 ++ [(t, n)], zapR h.2.1 h.1.length, zap h.2.2 h.1.length) h.1.length = .inl (cA E, a0 n))
    (hd : decode cc (pcat P i) = .ok (.newarray aty, 2)) (hw : Cond.arrayClass (newarray.typeOf aty) ∈ wAll) (hn : pcat P (i + 1) = pcat P i + 2) : SimN own nm cc nL P 0 i (i_newa t) := by
  intro E p l e R s m args below meth c0 d C hdk L st h ps i' L' st' h' e1 e2 H locs ad lsr g0 s0 Q hI hv hL hg hs
  match st, e1 with
  | (0, z) :: st, e1 =>
    cases e1
    obtain ⟨hx, hb, hml, hown, hts, hF, hO, -⟩ := C
    obtain ⟨⟨hz0, hz1⟩, -⟩ := e2
    obtain ⟨hP, hD, hS, hG⟩ := hI
    have h32 : in32 z := al_hd hv
    have hll : (h.1 ++ [(t, z.toNat)]).length = h.1.length + 1 := by simp
    have hl1 : 1 ≤ h.1.length := (List.getElem?_eq_some_iff.mp hG.1).1
    refine ⟨⟨by show h.1.length ≤ (h.1 ++ [(t, z.toNat)]).length; omega, by show sl h.1 ≤ sl (h.1 ++ [(t, z.toNat)]); rw [sl_app]; omega⟩, fun hR1 hR2 kk => ?_⟩
    have hR1 : (h.1 ++ [(t, z.toNat)]).length - g0 ≤ R.cells := hR1
    have hR2 : sl (h.1 ++ [(t, z.toNat)]) - s0 ≤ R.slots := hR2
    rw [sl_app] at hR2
    have hz : (Int32.ofInt z).toNatClampNeg = z.toNat := by show (Int32.ofInt z).toInt.toNat = _; rw [o32i h32]
    refine va_newa hx hb (hts _ hw) hty hF.1 hP hD hS (fun q hq => Nat.le_trans hO hq) (ha0 z.toNat) (n := Int32.ofInt z) (by rw [Int32.lt_iff_toInt_lt, o32i h32]; show ¬ z < 0; omega) hz (hby _ (by omega)) (by omega) (by omega) hd (fun q cA' H1 hK1 hP1 hD1 hS1 => ?_)
    have hlast : (eT E ++ [(cA', ty)])[(eT E).length]? = some (cA', ty) := by simp
    have hc1 := hsc2 _ _ (hK1.2 _ _ hlast).2
    obtain ⟨j, hj⟩ := List.getElem?_of_mem (hcA E)
    have hc2 := hsc E s (hF.1.2 j _ hj).2
    have hcc : cA' = cA E := Option.some.inj (hc1.symm.trans hc2)
    subst hcc
    have hwn := wl_new (E := E) (ad := ad) (h := h) (t := t) (n := z.toNat) (q := q) hl1 hG.2.2.1 (hce E _ h z.toNat)
    rw [hwn] at hP1 hD1
    have hag : ∀ a, a < h.1.length → (fun a => if a = h.1.length then q else ad a) a = ad a := fun a ha => if_neg (by omega)
    have k2 := kk H1 locs (fun a => if a = h.1.length then q else ad a) lsr ⟨hP1, hD1, hS1, GI_new hG (by omega)⟩
      (al_cons (show (0 : Int) ≤ (h.1.length : Int) ∧ (h.1.length : Int) < ((h.1 ++ [(t, z.toNat)]).length : Nat) from ⟨by omega, by omega⟩) (fun v q => nv_up (by show h.1.length ≤ (h.1 ++ [(t, z.toNat)]).length; omega) (al_tl hv v q)))
      (hL.ag (by show h.1.length ≤ (h.1 ++ [(t, z.toNat)]).length; omega) hag) hag
    rw [List.map_cons, map_ag hag (al_tl hv), hn] at k2
    have e9 : tv E (fun a => if a = h.1.length then q else ad a) (2, (h.1.length : Int)) = .ref q := by
      rw [tv_r (by omega)]
      show Value.ref (if ((h.1.length : Int)).toNat = h.1.length then q else _) = _
      rw [if_pos (by omega)]
    rw [e9] at k2
    have e7 : (h.1 ++ [(t, z.toNat)]).length - g0 = h.1.length - g0 + 1 := by omega
    have e8 : sl (h.1 ++ [(t, z.toNat)]) - s0 = sl h.1 - s0 + z.toNat := by rw [sl_app]; omega
    have k3 : W p l e R s m args below meth c0 H1 locs ((h.1 ++ [(t, z.toNat)]).length - g0) (sl (h.1 ++ [(t, z.toNat)]) - s0) Q (F0 m (pcat P i + 2) lsr (.ref q :: st.map (tv E ad))) := k2
    rw [e7, e8] at k3
    exact k3
theorem zap_at (σ : Nat → Int → Int) (a : Nat) (j : Int) : zap σ a a j = 0 := if_pos rfl
theorem new_at (G : List (Nat × Nat)) (t n : Nat) : (G ++ [(t, n)])[G.length]? = some (t, n) := by simp
theorem sim_newI (hd : decode cc (pcat P i) = .ok (.newarray .int, 2)) (hw : Cond.arrayClass .int ∈ wAll) (hn : pcat P (i + 1) = pcat P i + 2) : SimN own nm cc nL P 0 i (i_newa 0) := by
  refine sim_newv (ty := .int) rfl (fun E => eI E) (fun n => (n, .inl (fun _ => 0))) (fun n c => rfl) (fun n hn => by show n * 4 ≤ _; omega) (fun E => by simp) (fun E s h => h) (fun c s h => h) (fun E ad h n => ?_) hd hw hn
  rw [ce_int (h := (h.1 ++ [(0, n)], zapR h.2.1 h.1.length, zap h.2.2 h.1.length)) (new_at h.1 0 n)]
  simp only [zap_at]
  rfl
theorem sim_newZ (hd : decode cc (pcat P i) = .ok (.newarray .boolean, 2)) (hw : Cond.arrayClass .boolean ∈ wAll) (hn : pcat P (i + 1) = pcat P i + 2) : SimN own nm cc nL P 0 i (i_newa 1) := by
  refine sim_newv (ty := .boolean) rfl (fun E => eZ E) (fun n => (n, .inl (fun _ => 0))) (fun n c => rfl) (fun n hn => by show n * 1 ≤ _; omega) (fun E => by simp) (fun E s h => h) (fun c s h => h) (fun E ad h n => ?_) hd hw hn
  rw [ce_bool (h := (h.1 ++ [(1, n)], zapR h.2.1 h.1.length, zap h.2.2 h.1.length)) (new_at h.1 1 n)]
  simp only [zap_at]
  rfl
theorem sim_newJ (hd : decode cc (pcat P i) = .ok (.newarray .long, 2)) (hw : Cond.arrayClass .long ∈ wAll) (hn : pcat P (i + 1) = pcat P i + 2) : SimN own nm cc nL P 0 i (i_newa 2) := by
  refine sim_newv (ty := .long) rfl (fun E => eJ E) (fun n => (n, .inr (.inl (fun _ => 0)))) (fun n c => rfl) (fun n hn => by show n * 8 ≤ _; omega) (fun E => by simp) (fun E s h => h) (fun c s h => h) (fun E ad h n => ?_) hd hw hn
  rw [ce_long (h := (h.1 ++ [(2, n)], zapR h.2.1 h.1.length, zap h.2.2 h.1.length)) (new_at h.1 2 n)]
  simp only [zap_at]
  rfl
end SIM
