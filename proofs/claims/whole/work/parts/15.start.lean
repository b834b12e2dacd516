def R_law : String := "ChalkStreetLaw"
def lw_P (b : Addr) (xs : List Int32) (args : Array Value) (s : State) : Prop := args = #[.ref b] ∧ s.IntsAt b xs ∧ xs.length ≤ 3073 ∧ (Jvm.Cond.and given_1 narrow_1).before args s = true
def lw_Q (_ : Array Value) (s : State) (o : Outcome) (t : State) : Prop := o = .returned (some (.int 1)) ∧ Framed s o t [] 600000 7302250
def lw_Z (below : List Frame) (a : Array Value) (s : State) : State → Prop := fun t => ∃ o, t.status = .running ∧ Ended t below o ∧ lw_Q a s o t
/-- the law's own end, with 1 on the stack, nothing written that was there before, its room as the claim has it -/
theorem lw_ret {p : Program} {l : Launch} {e : Env} {s : State} {m : MethodId} {below : List Frame} {meth : Method} {c : Code} {b : Nat} (hx : p.tables.exec = Jvm.exec) (hb : c.code = code) (hr : meth.sig.returnType = ret) (hlocks : meth.locks = false) {pc : Nat} {H : Heap} {ls : Array Slot} (hdg : decode code pc = .ok (.ireturn, 1)) : W p l e room_1 s m #[Value.ref b] below meth c H [] 600000 7302250 (lw_Z below #[Value.ref b] s) (F0 m pc ls [.int 1]) := by
  intro T hT X
  obtain ⟨fs, hret, hrun, hended, hW, hframe⟩ := X.leave (v := some (.int 1)) (hlocks := hlocks) (fun h => by rw [hr] at h; cases h)
  have hmeth' : T.vm.method? m = some meth := X.method'
  refine ⟨T.setFrames fs, ?_, .returned (some (.int 1)), hrun, hended, rfl, ⟨_, rfl⟩, hW, hframe⟩
  jvm_step X.here [X.here.top, hx, hb, hdg, hmeth', hr, ret, narrow_b1]
  (try refine ⟨rfl, ?_⟩); (try refine ⟨rfl, ?_⟩)
  first | (intro acts; rw [hret _ acts rfl rfl rfl]) | rw [hret _ _ rfl rfl rfl]
  exact Steps.refl _
/-- what holds at the law's entry: the machine, the code, the tables' words (any of lw_tbl by 'hts w (by decide +kernel)'), the script of L ints xs at the cell b, what the Statement gives of the start (any of its parts by flat_of_before) -/
def lw_At (p : Program) (s : State) (m : MethodId) (meth : Method) (c : Code) (b L : Nat) (xs : Nat → Int32) : Prop :=
  p.tables.exec = Jvm.exec ∧ c.code = code ∧ meth.sig.returnType = ret ∧ c.maxLocals = 4 ∧ s.vm.findClass R_law = some m.cls ∧ (∀ w ∈ lw_tbl, w.before #[Value.ref b] s = true) ∧ va_X b L xs s s.heap ∧ b < s.heap.size ∧ meth.locks = false ∧ (Jvm.Cond.and given_1 narrow_1).before #[Value.ref b] s = true ∧ meth.name = "law"
/-! THE LAW'S START -/
def tmJ (i : Nat) : Term := match strT[i]? with
  | some q => .string q.1 q.2.1
  | none => .int 0
def ncJ : Cond := Jvm.Cond.and given_1 narrow_1
theorem fl_ex : ∀ i, i < 12 → Cond.exactly (tmJ i) "java/lang/String" ∈ flatC ncJ := by decide +kernel
theorem fl_co : ∀ i, i < 12 → Cond.eq (.field (tmJ i) "java/lang/String" "coder" "B") (.int 0) ∈ flatC ncJ := by decide +kernel
theorem fl_ar : ∀ i, i < 12 → Cond.arrayOf (.field (tmJ i) "java/lang/String" "value" "[B") .byte ∈ flatC ncJ := by decide +kernel
theorem fl_le : ∀ i, i < 12 → Cond.eq (.length (.field (tmJ i) "java/lang/String" "value" "[B")) (.int (Int32.ofNat (lenJS.getD i 0))) ∈ flatC ncJ := by decide +kernel
theorem fl_el : ∀ i, i < 12 → ∀ j, j < lenJS.getD i 0 → Cond.eq (.elem (.field (tmJ i) "java/lang/String" "value" "[B") (.int (Int32.ofNat j))) (.int ((bytJS.getD i []).getD j 0)) ∈ flatC ncJ := by decide +kernel
theorem fl_ne : ∀ i, i < 12 → ∀ j, j < 12 → i ≠ j → Cond.not (Cond.eq (tmJ i) (tmJ j)) ∈ flatC ncJ ∨ Cond.not (Cond.eq (tmJ j) (tmJ i)) ∈ flatC ncJ := by decide +kernel
theorem fl_cs : Cond.eq (.static "java/lang/String" "COMPACT_STRINGS" "Z") (.int 1) ∈ flatC ncJ := by decide +kernel
theorem fl_fm : Cond.isRef (.static "jdk/internal/util/Preconditions" "SIOOBE_FORMATTER" "Ljava/util/function/BiFunction;") ∈ flatC ncJ := by decide +kernel
theorem tb_cs : Cond.laysStatic "java/lang/String" "COMPACT_STRINGS" "Z" ∈ tables_1 := by decide +kernel
theorem tb_fm : Cond.laysStatic "jdk/internal/util/Preconditions" "SIOOBE_FORMATTER" "Ljava/util/function/BiFunction;" ∈ tables_1 := by decide +kernel
theorem tb_i1 : Cond.initialized "java/lang/String" ∈ tables_1 := by decide +kernel
theorem tb_i2 : Cond.initialized "jdk/internal/util/Preconditions" ∈ tables_1 := by decide +kernel
theorem tb_aI : Cond.arrayClass .int ∈ tables_1 := by decide +kernel
theorem tb_aJ : Cond.arrayClass .long ∈ tables_1 := by decide +kernel
theorem tb_aZ : Cond.arrayClass .boolean ∈ tables_1 := by decide +kernel
theorem tb_nF : ∀ q ∈ nstF, Cond.fieldLinkNest q.1 q.2.1 q.2.2.1 q.2.2.2.1 q.2.2.2.2.1 q.2.2.2.2.2 ∈ tables_1 := by decide +kernel
theorem tb_nM : ∀ q ∈ nstM, Cond.methodLinkNest q.1 q.2.1 q.2.2.1 q.2.2.2 ∈ tables_1 := by decide +kernel
theorem tb_st : ∀ q ∈ strT, Cond.stringRef q.1 q.2.1 q.2.2 ∈ tables_1 := by decide +kernel
theorem tb_mk : ∀ c, c < 13 → Cond.instantiable (fnam c) (fnum c) ∈ tables_1 := by decide +kernel
theorem isref_v {args : Array Value} {s : State} {t : Term} (h : (Cond.isRef t).before args s = true) : ∃ o : Option Nat, t.eval args s none [] s = some (va_rf o) := by
  simp only [Cond.before, Cond.holds, Cond.value] at h
  cases hv : t.eval args s none [] s with
  | none => simp [hv] at h
  | some v =>
    cases v with
    | ref a => exact ⟨some a, rfl⟩
    | null => exact ⟨none, rfl⟩
    | _ => simp [hv] at h
theorem arr_known {args : Array Value} {s : State} {ty : FieldType} (hty : ∀ c, ty ≠ .object c) (h : (Cond.arrayClass ty).before args s = true) : ∃ cA : ClassId, ArrOfT s cA ty ∧ va_RA s cA ty := by
  obtain ⟨c, k, comp, h1, h2, h3⟩ := Cond.arrayClass_spec (args := args) (first := s) (o := none) (s := s) (idx := []) h
  refine ⟨c, fun n z => ⟨(fun _ q => by cases q), k, h2, comp, h3⟩, ?_⟩
  unfold va_RA
  split
  · exact absurd rfl (hty _)
  · exact h1
/-- the cells at the start: the script alone -/
def hS0 (L : Nat) (xs : Nat → Int32) : Mh := ([(99, L)], fun _ _ => 0, fun a j => if a = 0 ∧ 0 ≤ j ∧ j < L then (xs j.toNat).toInt else 0)
theorem GI0 {E : EV} (hL : eL E < 2147483648) : GI E (hS0 (eL E) (eX E)) := by
  have hin : ∀ a j, in32 ((hS0 (eL E) (eX E)).2.2 a j) := by
    intro a j
    show in32 (if _ then _ else _)
    split
    · exact t32_in _
    · exact in32_0
  refine ⟨rfl, fun j hj => ?_, fun a k => Nat.zero_lt_one, fun a j => in32_64 (hin a j), fun a t n j _ _ => hin a j, fun a c n k _ _ => hin a k, fun a t n h => ?_⟩
  · show (if _ then _ else _) = _
    rw [if_pos ⟨rfl, by omega, by omega⟩]
    rfl
  · match a, h with
    | 0, h => cases h; exact hL
theorem env_known {p : Program} {s : State} {m : MethodId} {meth : Method} {c : Code} {b L : Nat} {xs : Nat → Int32} (hL : L ≤ 3073) (C0 : lw_At p s m meth c b L xs) : ∃ E : EV, eO E = s.heap.size ∧ eB E = b ∧ eL E = L ∧ eX E = xs ∧ FX E s s.heap := by
  obtain ⟨hx, hb, hr, hml, hown, hts, hX, hbl, hlocks, hgv, hmn⟩ := C0
  have hf : ∀ w ∈ flatC ncJ, w.before #[Value.ref b] s = true := flat_of_before ncJ hgv
  have ht : ∀ w ∈ tables_1, w.before #[Value.ref b] s = true := fun w h => hts w (List.mem_append_right _ h)
  have hA : ∀ a : Nat, a < s.heap.size → ¬ (fun q : Nat => s.heap.size ≤ q) a := fun a h => Nat.not_le.mpr h
  have hk : ∀ k : Nat, ∃ q : ClassId × (Nat → Nat), k < 13 → u_Kn s (fnam k) (ftab k) (fnum k) q.1 q.2 := by
    intro k
    by_cases h : k < 13
    · obtain ⟨cC, iS, h2⟩ := u_known (C := fnam k) (T := ftab k) (N := fnum k) (n := fnum k) (ws := wAll) (fun w hw => hts w (wA_lw w hw)) (okc_all k h).2.1 (ht _ (tb_mk k h))
      exact ⟨(cC, iS), fun _ => h2⟩
    · exact ⟨(0, fun _ => 0), fun q => absurd q h⟩
  obtain ⟨D, hD⟩ := Classical.axiomOfChoice hk
  obtain ⟨cI, aI⟩ := arr_known (by intro c q; cases q) (ht _ tb_aI)
  obtain ⟨cJ, aJ⟩ := arr_known (by intro c q; cases q) (ht _ tb_aJ)
  obtain ⟨cZ, aZ⟩ := arr_known (by intro c q; cases q) (ht _ tb_aZ)
  obtain ⟨adK, adV, hK, hKe⟩ := vk_Sof (args := #[Value.ref b]) (s := s) (N := 12) (tm := tmJ) (len := lenJS) (byt := bytJS) (A := fun q : Nat => s.heap.size ≤ q) (by decide) (fun i hi => hf _ (fl_ex i hi)) (fun i hi => hf _ (fl_co i hi)) (fun i hi => hf _ (fl_ar i hi)) (fun i hi => hf _ (fl_le i hi)) (fun i hi j hj => hf _ (fl_el i hi j hj)) (fun i j hi hj hij => (fl_ne i hi j hj hij).imp (hf _) (hf _)) hA
  obtain ⟨o, ho⟩ := isref_v (hf _ fl_fm)
  refine ⟨((fun k => (D k).1, fun k => (D k).2), (cI, cJ, cZ), (adK, adV), (s.heap.size, b, L), xs, o), rfl, rfl, rfl, rfl, ?_⟩
  refine ⟨⟨fun k q hq => ?_, fun k q hq => ?_⟩, fun q hq => va_Nw.of rfl (ht _ (tb_nF q hq)), fun q hq => va_Nw.of rfl (ht _ (tb_nM q hq)), fun j q hq => ?_, hK, va_Zof (ht _ tb_cs) (ht _ tb_i1) (va_eqi (hf _ fl_cs)) hA, va_Zof (ht _ tb_fm) (ht _ tb_i2) ho hA, hX, hbl, ?_⟩
  · have hk13 : k < 13 := by
      have := (List.getElem?_eq_some_iff.mp hq).1
      exact this
    have h1 := (okc_all k hk13).1
    rw [hq] at h1
    cases h1
    exact hD k hk13
  · match k, hq with
    | 0, hq => cases hq; exact aI
    | 1, hq => cases hq; exact aJ
    | 2, hq => cases hq; exact aZ
  · have hj : j < 12 := (List.getElem?_eq_some_iff.mp hq).1
    have h1 := hKe j hj
    unfold tmJ at h1
    rw [hq] at h1
    exact vk_R.of (ht _ (tb_st q (List.mem_of_getElem? hq))) h1
  · show L < 2147483648
    omega
/-- THE LAW, once its run in the little machine is known -/
theorem law_of {p : Program} {e : Env} {s : State} {m : MethodId} {below : List Frame} {meth : Method} {c : Code} (l : Launch) {b L : Nat} {xs : Nat → Int32} (hL : L ≤ 3073) (C0 : lw_At p s m meth c b L xs)
    (hrun : ∃ (n : Nat) (h' : Mh), ex (mtI MM) (mtL MM) n 100 236 0 (ent 4 [(4, 0)]) [] (hS0 L xs) (some (0, 1), h') ∧ h'.1.length ≤ 1000 ∧ sl h'.1 ≤ 1000000) :
    W p l e room_1 s m #[Value.ref b] below meth c s.heap [] 0 0 (lw_Z below #[Value.ref b] s) (entryFrame m ([Value.ref b] : List Value).toArray 4) := by
  obtain ⟨E, hO, hB, hLL, hXX, hF⟩ := env_known hL C0
  obtain ⟨hx, hb, hr, hml, hown, hts, hX, hbl, hlocks, hgv, hmn⟩ := C0
  obtain ⟨n, h', hex, hb1, hb2⟩ := hrun
  have hS := MM_snd _ _ _ _ _ _ _ _ _ hex
  have hG0 := GI0 (E := E) hF.2.2.2.2.2.2.2.2.2
  rw [hLL, hXX] at hG0
  have hnm : meth.name = (mtN MM 236).name := hmn
  have hC : CX E p room_1 s m #[Value.ref b] meth c (mtN MM 236).cls (mtN MM 236).name (mtC MM 236) (mtL MM 236) 100 := ⟨hx, hb, hml, hown, fun w hw => hts w (wA_lw w hw), hF, Nat.le_of_eq hO, by decide, by decide, hnm⟩
  have hlv : LV E (fun _ => 0) ((lg_sl ([(4, 0)].map (tv E (fun _ => 0))) ++ List.replicate (4 - (lg_sl ([(4, 0)].map (tv E (fun _ => 0)))).length) Slot.unset).toArray) (ent 4 [(4, 0)]) (hS0 L xs) 4 := LV_ent (by decide) (al_cons (show nv (hS0 L xs) (4, 0) from trivial) al_nil)
  have hz := hS.2 E p l e room_1 s m #[Value.ref b] below meth c hC s.heap [] (fun _ => 0) _ 1 L (lw_Z below #[Value.ref b] s) ⟨fun k q h => by simp [wl, hS0] at h, ⟨fun i j p q h => by simp [wl, hS0] at h, fun k q h => by simp [wl, hS0] at h⟩, va_S.rf, hG0⟩ al_nil hlv (Nat.le_refl _) (by show L ≤ L + 0; omega) (by show h'.1.length - 1 ≤ 600000; omega) (by show sl h'.1 - L ≤ 7302250; omega) ?_
  · have e1 : (hS0 L xs).1.length - 1 = 0 := rfl
    have e2 : sl (hS0 L xs).1 - L = 0 := by show L + 0 - L = 0; omega
    rw [e1, e2, MM_p0] at hz
    rw [lg_entry_eq]
    have e3 : [(4, 0)].map (tv E (fun _ => 0)) = [Value.ref b] := by
      show [Value.ref (eB E)] = _
      rw [hB]
    rw [e3] at hz
    exact hz
  · intro i' k st' H' locs' ad' lsr' hR hrt hI hnv hag
    have hS' := hI.2.2.1
    have key : decode code (pcat (mtP MM 236) i') = .ok (.ireturn, 1) ∧ st'.map (tv E ad') = [.int 1] := by
      rcases hR with ⟨rfl, hd, hrr⟩ | ⟨rfl, hd, hrr⟩ | ⟨rfl, hd, hrr⟩ | ⟨rfl, hd, hrr⟩ | ⟨rfl, hd, hrr⟩ | ⟨rfl, hd, hrr⟩
      · obtain ⟨-, q⟩ := hrt; cases q
      · obtain ⟨x, rfl, q⟩ := hrt; cases q; exact ⟨hd, rfl⟩
      · obtain ⟨x, rfl, -, q⟩ := hrt; cases q; exact ⟨hd, rfl⟩
      · obtain ⟨x, rfl, q⟩ := hrt; cases q
      · obtain ⟨x, rfl, -, q⟩ := hrt; cases q; exact ⟨hd, rfl⟩
      · obtain ⟨x, rfl, -, q⟩ := hrt; cases q; exact ⟨hd, rfl⟩
    rw [key.2]
    refine va_forget (fun q hq => by rw [← hO]; exact hS'.2.2 q hq) ?_
    refine W.widen (k := 600000) (n := 7302250) (by omega) (by omega) ?_
    exact lw_ret hx hb hr hlocks key.1
