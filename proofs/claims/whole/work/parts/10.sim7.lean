section SIM
variable {own nm : String} {cc : ByteArray} {nL : Nat} {P : List Nat} {i : Nat}
/-! literals and their bytes -/
theorem sim_sval {x : Nat} (hd : decode cc (pcat P i) = .ok (.getfield x, 3)) (hw : Cond.fieldLink own x "java/lang/String" "value" "[B" ∈ wAll) (hn : pcat P (i + 1) = pcat P i + 3) : SimN own nm cc nL P 0 i i_sval := by
  refine sim_stk ?_
  intro E p l e R s m args below meth c0 d C L st h ps i' L' st' h' e1 e2 H locs ad lsr hI hv hL
  match st, e1 with
  | (3, k) :: st, e1 =>
    cases e1
    obtain ⟨hx, hb, hml, hown, hts, hF, -⟩ := C
    have hk : 0 ≤ k ∧ k < 12 := al_hd hv
    have hE := (hF.2.2.2.2.1.1 k.toNat (by omega)).2.2.1
    refine ⟨rfl, rfl, al_cons (show 0 ≤ k ∧ k < 12 from hk) (al_tl hv), fun cells slots Q kk => ?_⟩
    rw [hn] at kk
    exact vk_getf hx hb hE hI.2.2.1 hown (hts _ hw) (fun _ z => z) hd kk
theorem sim_scod {x : Nat} (hd : decode cc (pcat P i) = .ok (.getfield x, 3)) (hw : Cond.fieldLink own x "java/lang/String" "coder" "B" ∈ wAll) (hn : pcat P (i + 1) = pcat P i + 3) : SimN own nm cc nL P 0 i i_scod := by
  refine sim_stk ?_
  intro E p l e R s m args below meth c0 d C L st h ps i' L' st' h' e1 e2 H locs ad lsr hI hv hL
  match st, e1 with
  | (3, k) :: st, e1 =>
    cases e1
    obtain ⟨hx, hb, hml, hown, hts, hF, -⟩ := C
    have hk : 0 ≤ k ∧ k < 12 := al_hd hv
    have hE := (hF.2.2.2.2.1.1 k.toNat (by omega)).2.1
    refine ⟨rfl, rfl, al_cons (show in32 0 from in32_0) (al_tl hv), fun cells slots Q kk => ?_⟩
    rw [hn] at kk
    exact vk_getf hx hb hE hI.2.2.1 hown (hts _ hw) (fun _ z => z) hd kk
theorem slen_in (k : Int) : in32 (slen k) := by
  unfold slen
  have : ∀ n, n < 12 → lenJS.getD n 0 < 1000 := by decide
  by_cases h : k.toNat < 12
  · have := this _ h; exact ⟨by omega, by omega⟩
  · have : lenJS.getD k.toNat 0 = 0 := by rw [List.getD_eq_getElem?_getD, List.getElem?_eq_none (by show 12 ≤ _; omega)]; rfl
    rw [this]; exact in32_0
theorem sim_blen (hd : decode cc (pcat P i) = .ok (.arraylength, 1)) (hn : pcat P (i + 1) = pcat P i + 1) : SimN own nm cc nL P 0 i i_blen := by
  refine sim_stk ?_
  intro E p l e R s m args below meth c0 d C L st h ps i' L' st' h' e1 e2 H locs ad lsr hI hv hL
  match st, e1 with
  | (5, k) :: st, e1 =>
    cases e1
    obtain ⟨hx, hb, hml, hown, hts, hF, -⟩ := C
    have hk : 0 ≤ k ∧ k < 12 := al_hd hv
    have hE := (hF.2.2.2.2.1.1 k.toNat (by omega)).2.2.2
    refine ⟨rfl, rfl, al_cons (slen_in k) (al_tl hv), fun cells slots Q kk => ?_⟩
    rw [hn] at kk
    exact va_tlen hx hb hE hI.2.2.1 rfl hd kk
theorem sim_bld (hd : decode cc (pcat P i) = .ok (.baload, 1)) (hn : pcat P (i + 1) = pcat P i + 1) : SimN own nm cc nL P 0 i i_bld := by
  refine sim_stk ?_
  intro E p l e R s m args below meth c0 d C L st h ps i' L' st' h' e1 e2 H locs ad lsr hI hv hL
  match st, e1 with
  | (0, j) :: (5, k) :: st, e1 =>
    cases e1
    obtain ⟨hx, hb, hml, hown, hts, hF, -⟩ := C
    have hk : 0 ≤ k ∧ k < 12 := al_hd (al_tl hv)
    have hE := (hF.2.2.2.2.1.1 k.toNat (by omega)).2.2.2
    obtain ⟨j1, j2⟩ := ix_in (n := lenJS.getD k.toNat 0) e2.1 (al_hd hv : in32 j)
    refine ⟨rfl, rfl, al_cons (show in32 (sbyt k j) from t32_in _) (al_tl (al_tl hv)), fun cells slots Q kk => ?_⟩
    rw [hn] at kk
    refine va_tb hx hb hE hI.2.2.1 j1 rfl hd ?_
    have e3 : (Int32.ofInt j).toNatClampNeg = j.toNat := by omega
    rw [List.map_cons, tv_i] at kk
    unfold sbyt at kk
    rw [t32] at kk
    rw [e3]
    exact kk
theorem sim_gcomp {x : Nat} (hd : decode cc (pcat P i) = .ok (.getstatic x, 3)) (hw : Cond.fieldLink own x "java/lang/String" "COMPACT_STRINGS" "Z" ∈ wAll) (hn : pcat P (i + 1) = pcat P i + 3) : SimN own nm cc nL P 0 i (i_push (0, 1)) := by
  refine sim_stk ?_
  intro E p l e R s m args below meth c0 d C L st h ps i' L' st' h' e1 e2 H locs ad lsr hI hv hL
  cases e1
  obtain ⟨hx, hb, hml, hown, hts, hF, -⟩ := C
  refine ⟨rfl, rfl, al_cons (show in32 1 from ⟨by decide, by decide⟩) hv, fun cells slots Q kk => ?_⟩
  rw [hn] at kk
  exact va_gets hx hb hF.2.2.2.2.2.1 hI.2.2.1 hown (hts _ hw) (fun _ z => z) hd kk
theorem sim_gfmt {x : Nat} (hd : decode cc (pcat P i) = .ok (.getstatic x, 3)) (hw : Cond.fieldLink own x "jdk/internal/util/Preconditions" "SIOOBE_FORMATTER" "Ljava/util/function/BiFunction;" ∈ wAll) (hn : pcat P (i + 1) = pcat P i + 3) : SimN own nm cc nL P 0 i (i_push (6, 0)) := by
  refine sim_stk ?_
  intro E p l e R s m args below meth c0 d C L st h ps i' L' st' h' e1 e2 H locs ad lsr hI hv hL
  cases e1
  obtain ⟨hx, hb, hml, hown, hts, hF, -⟩ := C
  refine ⟨rfl, rfl, al_cons (show nv h (6, 0) from trivial) hv, fun cells slots Q kk => ?_⟩
  rw [hn] at kk
  exact va_gets hx hb hF.2.2.2.2.2.2.1 hI.2.2.1 hown (hts _ hw) (fun _ z => z) hd kk
theorem cat_le (E : EV) (ad : Nat → Nat) : ∀ l : List MV, ((l.map (tv E ad)).map fun v => v.category).sum ≤ 2 * l.length := by
  intro l
  induction l with
  | nil => simp
  | cons v l ih =>
    have h3 : (tv E ad v).category ≤ 2 := by rcases lv_cat (tv E ad v) with h | h <;> omega
    simp only [List.map_cons, List.sum_cons, List.length_cons]
    omega
def g_c (x : Int) : Int := ((Int32.ofInt x).toUInt32 % 65536).toInt32.toInt
theorem sim_oinit {x : Nat} (hd : decode cc (pcat P i) = .ok (.invokespecial x, 3)) (hw1 : Cond.methodLink own x Lib.objectInit ∈ wAll) (hw2 : Cond.instanceMethod Lib.objectInit ∈ wAll) (hw3 : Cond.code Lib.objectInit ⟨#[0xb1]⟩ 1 none ∈ wAll) (hn : pcat P (i + 1) = pcat P i + 3) : SimN own nm cc nL P 1 i i_oinit := by
  intro E p l e R s m args below meth c0 d C hdk L st h ps i' L' st' h' e1 e2 H locs ad lsr g0 s0 Q hI hv hL hg hs
  match st, e1 with
  | (2, r) :: st, e1 =>
    cases e1
    obtain ⟨hx, hb, hml, hown, hts, hF, hO, hd1, hd2, -⟩ := C
    refine ⟨⟨Nat.le_refl _, Nat.le_refl _⟩, fun _ _ k => ?_⟩
    have k2 := k H locs ad lsr hI (al_tl hv) hL (fun _ _ => rfl)
    rw [List.map_cons, tv_r (toNat_ne (al_hd hv) e2.1)]
    rw [hn] at k2
    have hc := cat_le E ad st'
    have hst : st'.length ≤ 4 := e2.2.1
    exact W.objInit hx hb hown (hts _ hw1) (hts _ hw2) (hts _ hw3) rfl (by rw [hml]; exact hL.2.1) rfl hd (by omega) (by show 2 * 0 + _ + 12 ≤ _; omega) k2
theorem sim_i2c (hd : decode cc (pcat P i) = .ok (.i2c, 1)) (hn : pcat P (i + 1) = pcat P i + 1) : SimN own nm cc nL P 0 i (i_i1 g_c) :=
  sim_i1 fun x _ => ⟨t32_in _, fun hx hb k => lv_i2c hx hb hd rfl (by rw [hn] at k; rw [g_c, t32] at k; exact k)⟩
theorem sim_copy {x : Nat} (hd : decode cc (pcat P i) = .ok (.invokestatic x, 3)) (hw1 : Cond.methodLink own x arraycopyName ∈ wAll) (hw2 : Cond.native arraycopyName ∈ wAll) (hw3 : Cond.static arraycopyName ∈ wAll) (hw4 : Cond.initialized "java/lang/System" ∈ wAll) (hn : pcat P (i + 1) = pcat P i + 3) : SimN own nm cc nL P 1 i i_copy := by
  intro E p l e R s m args below meth c0 d C hdk L st h ps i' L' st' h' e1 e2 H locs ad lsr g0 s0 Q hI hv hL hg hs
  match st, e1 with
  | (0, n) :: (0, dp) :: (2, a') :: (0, sp) :: (2, a) :: st, e1 =>
    cases e1
    obtain ⟨hx, hb, hml, hown, hts, hF, hO, hd1, hd2, -⟩ := C
    obtain ⟨hg1, hg2, ⟨q1, q2, q3, q4, q5⟩, q6, -⟩ := e2
    obtain ⟨hP, hD, hS, hG⟩ := hI
    obtain ⟨n1, hn1⟩ := gk_at hg1
    obtain ⟨n2, hn2⟩ := gk_at hg2
    rw [gl_of hn1] at q4
    rw [gl_of hn2] at q5
    have hne1 := gk_ne hG (by decide) hg1
    have hne2 := gk_ne hG (by decide) hg2
    have hat1 := wl_at (E := E) (ad := ad) (h := h) hne1 (gk_lt hg1)
    have hat2 := wl_at (E := E) (ad := ad) (h := h) hne2 (gk_lt hg2)
    rw [ce_int hn1] at hat1
    rw [ce_int hn2] at hat2
    have hn32 : in32 n := al_hd hv
    have hdp32 : in32 dp := al_hd (al_tl hv)
    have hsp32 : in32 sp := al_hd (al_tl (al_tl (al_tl hv)))
    have hvst := al_tl (al_tl (al_tl (al_tl (al_tl hv))))
    have tn : ∀ z : Int, in32 z → 0 ≤ z → (Int32.ofInt z).toNatClampNeg = z.toNat := fun z hz h0 => by show (Int32.ofInt z).toInt.toNat = _; rw [o32i hz]
    have nl : ∀ z : Int, in32 z → 0 ≤ z → ¬ Int32.ofInt z < 0 := fun z hz h0 => by rw [Int32.lt_iff_toInt_lt, o32i hz]; show ¬ z < 0; omega
    refine ⟨⟨Nat.le_refl _, Nat.le_refl _⟩, fun _ _ kk => ?_⟩
    simp only [List.map_cons]
    rw [tv_r hne1, tv_r hne2, tv_i, tv_i, tv_i]
    refine va_copyi hx hb (by rw [hml]; exact hL.2.1.symm) hown (hts _ hw1) (hts _ hw2) (hts _ hw3) (hts _ hw4) hF.1 hP hD hS (a.toNat - 1) (a'.toNat - 1) 0 0 hat1 hat2 rfl rfl rfl (nl sp hsp32 q1) (nl dp hdp32 q2) (nl n hn32 q3) (by rw [tn sp hsp32 q1, tn n hn32 q3]; omega) (by rw [tn dp hdp32 q2, tn n hn32 q3]; omega) (fun _ _ => rfl) (by omega) ?_ hd (fun H1 locs1 hP1 hD1 hS1 => ?_)
    · have := cat_le E ad st'
      show _ + (5 + 2 + 11) ≤ _
      omega
    · rw [tn sp hsp32 q1, tn dp hdp32 q2, tn n hn32 q3] at hP1 hD1
      have hfun : va_cpy (fun j : Nat => Int32.ofInt (h.2.2 a.toNat j)) (fun j : Nat => Int32.ofInt (h.2.2 a'.toNat j)) sp.toNat dp.toNat n.toNat = fun j : Nat => Int32.ofInt (cpy h.2.2 a.toNat sp a'.toNat dp n a'.toNat j) := by
        funext j
        unfold va_cpy cpy
        by_cases hj : dp.toNat ≤ j ∧ j < dp.toNat + n.toNat
        · rw [if_pos hj, if_pos ⟨rfl, by omega, by omega⟩]
          show Int32.ofInt (h.2.2 a.toNat ((sp.toNat + (j - dp.toNat) : Nat) : Int)) = _
          rw [show ((sp.toNat + (j - dp.toNat) : Nat) : Int) = sp + ((j : Int) - dp) by omega]
        · rw [if_neg hj, if_neg (fun z => hj ⟨by omega, by omega⟩)]
      have hset := wl_set (E := E) (ad := ad) (h := h) (h' := (h.1, h.2.1, cpy h.2.2 a.toNat sp a'.toNat dp n)) hne2 (gk_lt hg2) rfl (ce_int (h := (h.1, h.2.1, cpy h.2.2 a.toNat sp a'.toNat dp n)) hn2) (fun b hb => ce_same rfl (fun _ => rfl) (fun j => if_neg (fun z => hb z.1)))
      rw [hfun] at hP1 hD1
      rw [hn] at kk
      obtain ⟨g1, g2, g3, g4, g5, g6, g7⟩ := hG
      have hin : ∀ j : Int, in32 (h.2.2 a.toNat j) := fun j => g5 _ _ _ j hn1 (by decide)
      have hG' : GI E (h.1, h.2.1, cpy h.2.2 a.toNat sp a'.toNat dp n) := by
        refine ⟨g1, fun j hj => ?_, g3, fun b j => ?_, fun b t n' j hb ht => ?_, fun b c n' k hb hk => ?_, g7⟩
        · show cpy h.2.2 a.toNat sp a'.toNat dp n 0 j = _
          unfold cpy
          rw [if_neg (fun z => hne2 z.1.symm)]
          exact g2 j hj
        · show in64 (cpy h.2.2 a.toNat sp a'.toNat dp n b j)
          unfold cpy
          split
          · exact g4 _ _
          · exact g4 b j
        · show in32 (cpy h.2.2 a.toNat sp a'.toNat dp n b j)
          unfold cpy
          split
          · exact hin _
          · exact g5 b t n' j hb ht
        · show in32 (cpy h.2.2 a.toNat sp a'.toNat dp n b k)
          unfold cpy
          split
          · exact hin _
          · exact g6 b c n' k hb hk
      exact kk H1 locs1 ad lsr ⟨by rw [← hset]; exact hP1, by rw [← hset]; exact hD1, hS1, hG'⟩ (fun v q => hvst v q) ⟨hL.1, hL.2.1, hL.2.2.1, hL.2.2.2⟩ (fun _ _ => rfl)
end SIM
