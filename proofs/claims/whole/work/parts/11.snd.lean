/-! A RUN OF THE LITTLE MACHINE IS ONE OF THE BIG ONE -/
/-- a call's words -/
def SimC (own : String) (cc : ByteArray) (P : List Nat) (i : Nat) (z : MethodName) (zR : Option FieldType) (na ck : Nat) : Prop :=
  pcat P (i + 1) = pcat P i + 3 ∧ (z.cls ≠ "java/lang/invoke/MethodHandle" ∧ z.cls ≠ "java/lang/invoke/VarHandle") ∧ ∃ idx n, (parseMethodDescriptor z.desc).map (fun d => d.parameters.length) = some n ∧ Cond.initialized z.cls ∈ wAll ∧
  ((ck = 0 ∧ na = n ∧ decode cc (pcat P i) = .ok (.invokestatic idx, 3) ∧ Cond.methodLink own idx z ∈ wAll ∧ Cond.static z ∈ wAll) ∨
   (ck = 1 ∧ na = n + 1 ∧ decode cc (pcat P i) = .ok (.invokespecial idx, 3) ∧ z.name = "<init>" ∧ zR = none ∧ (Cond.methodLink own idx z ∈ wAll ∨ ∃ host, (own, idx, z, host) ∈ nstM) ∧ Cond.instanceMethod z ∈ wAll) ∨
   (na = n + 1 ∧ decode cc (pcat P i) = .ok (.invokevirtual idx, 3) ∧ Cond.methodLink own idx z ∈ wAll ∧ Cond.instanceMethod z ∈ wAll ∧ Cond.selects z.cls z z ∈ wAll ∧ ((ck = 2 ∧ z.cls = "java/lang/String") ∨ ∃ c, ck = c + 3 ∧ c < 13 ∧ z.cls = fnam c)))
/-- an end's words -/
def SimR (cc : ByteArray) (P : List Nat) (i k : Nat) (ret : Option FieldType) : Prop :=
  (k = 0 ∧ decode cc (pcat P i) = .ok (.return_, 1) ∧ ret = none) ∨ (k = 1 ∧ decode cc (pcat P i) = .ok (.ireturn, 1) ∧ ret = some .int) ∨ (k = 2 ∧ decode cc (pcat P i) = .ok (.ireturn, 1) ∧ ret = some .boolean) ∨
  (k = 3 ∧ decode cc (pcat P i) = .ok (.lreturn, 1) ∧ ret = some .long) ∨ (k = 4 ∧ decode cc (pcat P i) = .ok (.ireturn, 1) ∧ ret = some .byte) ∨ (k = 5 ∧ decode cc (pcat P i) = .ok (.ireturn, 1) ∧ ret = some .char)
/-- cells do not go -/
def MonN (f : SN) : Prop := ∀ (i : Nat) (L st : List MV) (h : Mh) (ps : List Prop) (i' : Nat) (L' st' : List MV) (h' : Mh), f i L st h = some (ps, i', L', st', h') → h.1.length ≤ h'.1.length ∧ sl h.1 ≤ sl h'.1
theorem mon_of {f : SN} (h : ∀ (i : Nat) (L st : List MV) (h : Mh) (ps : List Prop) (i' : Nat) (L' st' : List MV) (h' : Mh), f i L st h = some (ps, i', L', st', h') → h'.1 = h.1) : MonN f := fun i L st h0 ps i' L' st' h' e => by rw [h i L st h0 ps i' L' st' h' e]; exact ⟨Nat.le_refl _, Nat.le_refl _⟩
theorem mon_push (v : MV) : MonN (i_push v) := mon_of (fun i L st h ps i' L' st' h' e => by unfold i_push at e; (repeat' split at e) <;> first | (cases e; rfl) | cases e)
theorem mon_load (t k : Nat) : MonN (i_load t k) := mon_of (fun i L st h ps i' L' st' h' e => by unfold i_load at e; (repeat' split at e) <;> first | (cases e; rfl) | cases e)
theorem mon_sti (k : Nat) : MonN (i_sti k) := mon_of (fun i L st h ps i' L' st' h' e => by unfold i_sti at e; (repeat' split at e) <;> first | (cases e; rfl) | cases e)
theorem mon_sta (k : Nat) : MonN (i_sta k) := mon_of (fun i L st h ps i' L' st' h' e => by unfold i_sta at e; (repeat' split at e) <;> first | (cases e; rfl) | cases e)
theorem mon_stl (k : Nat) : MonN (i_stl k) := mon_of (fun i L st h ps i' L' st' h' e => by unfold i_stl at e; (repeat' split at e) <;> first | (cases e; rfl) | cases e)
theorem mon_iinc (k : Nat) (n : Int) : MonN (i_iinc k n) := mon_of (fun i L st h ps i' L' st' h' e => by unfold i_iinc at e; (repeat' split at e) <;> first | (cases e; rfl) | cases e)
theorem mon_ii (g : Int → Int → Int) : MonN (i_ii g) := mon_of (fun i L st h ps i' L' st' h' e => by unfold i_ii at e; (repeat' split at e) <;> first | (cases e; rfl) | cases e)
theorem mon_iin (g : Int → Int → Int) : MonN (i_iin g) := mon_of (fun i L st h ps i' L' st' h' e => by unfold i_iin at e; (repeat' split at e) <;> first | (cases e; rfl) | cases e)
theorem mon_ll (g : Int → Int → Int) : MonN (i_ll g) := mon_of (fun i L st h ps i' L' st' h' e => by unfold i_ll at e; (repeat' split at e) <;> first | (cases e; rfl) | cases e)
theorem mon_lln (g : Int → Int → Int) : MonN (i_lln g) := mon_of (fun i L st h ps i' L' st' h' e => by unfold i_lln at e; (repeat' split at e) <;> first | (cases e; rfl) | cases e)
theorem mon_li (g : Int → Int → Int) : MonN (i_li g) := mon_of (fun i L st h ps i' L' st' h' e => by unfold i_li at e; (repeat' split at e) <;> first | (cases e; rfl) | cases e)
theorem mon_i1 (g : Int → Int) : MonN (i_i1 g) := mon_of (fun i L st h ps i' L' st' h' e => by unfold i_i1 at e; (repeat' split at e) <;> first | (cases e; rfl) | cases e)
theorem mon_lcmp  : MonN (i_lcmp ) := mon_of (fun i L st h ps i' L' st' h' e => by unfold i_lcmp at e; (repeat' split at e) <;> first | (cases e; rfl) | cases e)
theorem mon_i2l  : MonN (i_i2l ) := mon_of (fun i L st h ps i' L' st' h' e => by unfold i_i2l at e; (repeat' split at e) <;> first | (cases e; rfl) | cases e)
theorem mon_l2i  : MonN (i_l2i ) := mon_of (fun i L st h ps i' L' st' h' e => by unfold i_l2i at e; (repeat' split at e) <;> first | (cases e; rfl) | cases e)
theorem mon_pop  : MonN (i_pop ) := mon_of (fun i L st h ps i' L' st' h' e => by unfold i_pop at e; (repeat' split at e) <;> first | (cases e; rfl) | cases e)
theorem mon_dup  : MonN (i_dup ) := mon_of (fun i L st h ps i' L' st' h' e => by unfold i_dup at e; (repeat' split at e) <;> first | (cases e; rfl) | cases e)
theorem mon_dup2  : MonN (i_dup2 ) := mon_of (fun i L st h ps i' L' st' h' e => by unfold i_dup2 at e; (repeat' split at e) <;> first | (cases e; rfl) | cases e)
theorem mon_if1 (c tgt : Nat) : MonN (i_if1 c tgt) := mon_of (fun i L st h ps i' L' st' h' e => by unfold i_if1 at e; (repeat' split at e) <;> first | (cases e; rfl) | cases e)
theorem mon_if2 (c tgt : Nat) : MonN (i_if2 c tgt) := mon_of (fun i L st h ps i' L' st' h' e => by unfold i_if2 at e; (repeat' split at e) <;> first | (cases e; rfl) | cases e)
theorem mon_goto (tgt : Nat) : MonN (i_goto tgt) := mon_of (fun i L st h ps i' L' st' h' e => by unfold i_goto at e; (repeat' split at e) <;> first | (cases e; rfl) | cases e)
theorem mon_tsw (lo : Int) (tg : List Nat) (df : Nat) : MonN (i_tsw lo tg df) := mon_of (fun i L st h ps i' L' st' h' e => by unfold i_tsw at e; (repeat' split at e) <;> first | (cases e; rfl) | cases e)
theorem mon_get (c k t : Nat) : MonN (i_get c k t) := mon_of (fun i L st h ps i' L' st' h' e => by unfold i_get at e; (repeat' split at e) <;> first | (cases e; rfl) | cases e)
theorem mon_getR (c k : Nat) : MonN (i_getR c k) := mon_of (fun i L st h ps i' L' st' h' e => by unfold i_getR at e; (repeat' split at e) <;> first | (cases e; rfl) | cases e)
theorem mon_put (c k : Nat) : MonN (i_put c k) := mon_of (fun i L st h ps i' L' st' h' e => by unfold i_put at e; (repeat' split at e) <;> first | (cases e; rfl) | cases e)
theorem mon_putZ (c k : Nat) : MonN (i_putZ c k) := mon_of (fun i L st h ps i' L' st' h' e => by unfold i_putZ at e; (repeat' split at e) <;> first | (cases e; rfl) | cases e)
theorem mon_putJ (c k : Nat) : MonN (i_putJ c k) := mon_of (fun i L st h ps i' L' st' h' e => by unfold i_putJ at e; (repeat' split at e) <;> first | (cases e; rfl) | cases e)
theorem mon_putR (c k : Nat) : MonN (i_putR c k) := mon_of (fun i L st h ps i' L' st' h' e => by unfold i_putR at e; (repeat' split at e) <;> first | (cases e; rfl) | cases e)
theorem mon_ald (t : Nat) : MonN (i_ald t) := mon_of (fun i L st h ps i' L' st' h' e => by unfold i_ald at e; (repeat' split at e) <;> first | (cases e; rfl) | cases e)
theorem mon_ast  : MonN (i_ast ) := mon_of (fun i L st h ps i' L' st' h' e => by unfold i_ast at e; (repeat' split at e) <;> first | (cases e; rfl) | cases e)
theorem mon_astZ  : MonN (i_astZ ) := mon_of (fun i L st h ps i' L' st' h' e => by unfold i_astZ at e; (repeat' split at e) <;> first | (cases e; rfl) | cases e)
theorem mon_astJ  : MonN (i_astJ ) := mon_of (fun i L st h ps i' L' st' h' e => by unfold i_astJ at e; (repeat' split at e) <;> first | (cases e; rfl) | cases e)
theorem mon_alen (t : Nat) : MonN (i_alen t) := mon_of (fun i L st h ps i' L' st' h' e => by unfold i_alen at e; (repeat' split at e) <;> first | (cases e; rfl) | cases e)
theorem mon_sld  : MonN (i_sld ) := mon_of (fun i L st h ps i' L' st' h' e => by unfold i_sld at e; (repeat' split at e) <;> first | (cases e; rfl) | cases e)
theorem mon_slen  : MonN (i_slen ) := mon_of (fun i L st h ps i' L' st' h' e => by unfold i_slen at e; (repeat' split at e) <;> first | (cases e; rfl) | cases e)
theorem mon_oinit  : MonN (i_oinit ) := mon_of (fun i L st h ps i' L' st' h' e => by unfold i_oinit at e; (repeat' split at e) <;> first | (cases e; rfl) | cases e)
theorem mon_copy  : MonN (i_copy ) := mon_of (fun i L st h ps i' L' st' h' e => by unfold i_copy at e; (repeat' split at e) <;> first | (cases e; rfl) | cases e)
theorem mon_sval  : MonN (i_sval ) := mon_of (fun i L st h ps i' L' st' h' e => by unfold i_sval at e; (repeat' split at e) <;> first | (cases e; rfl) | cases e)
theorem mon_scod  : MonN (i_scod ) := mon_of (fun i L st h ps i' L' st' h' e => by unfold i_scod at e; (repeat' split at e) <;> first | (cases e; rfl) | cases e)
theorem mon_blen  : MonN (i_blen ) := mon_of (fun i L st h ps i' L' st' h' e => by unfold i_blen at e; (repeat' split at e) <;> first | (cases e; rfl) | cases e)
theorem mon_bld  : MonN (i_bld ) := mon_of (fun i L st h ps i' L' st' h' e => by unfold i_bld at e; (repeat' split at e) <;> first | (cases e; rfl) | cases e)
theorem mon_new (c n : Nat) : MonN (i_new c n) := fun i L st h ps i' L' st' h' e => by
  cases e
  exact ⟨by show h.1.length ≤ (h.1 ++ [(c + 3, n)]).length; simp, by show sl h.1 ≤ sl (h.1 ++ [(c + 3, n)]); rw [sl_app]; omega⟩
theorem mon_newa (t : Nat) : MonN (i_newa t) := fun i L st h ps i' L' st' h' e => by
  unfold i_newa at e
  split at e
  · cases e
    rename_i n st
    exact ⟨by show h.1.length ≤ (h.1 ++ [(t, n.toNat)]).length; simp, by show sl h.1 ≤ sl (h.1 ++ [(t, n.toNat)]); rw [sl_app]; omega⟩
  · cases e
/-- the tables of methods: name, bytes, locals, answer, places, instructions -/
abbrev MT : Type := (Nat → MethodName) × (Nat → ByteArray) × (Nat → Nat) × (Nat → Option FieldType) × (Nat → List Nat) × (Nat → List MI)
abbrev mtN (M : MT) : Nat → MethodName := M.1
abbrev mtC (M : MT) : Nat → ByteArray := M.2.1
abbrev mtL (M : MT) : Nat → Nat := M.2.2.1
abbrev mtR (M : MT) : Nat → Option FieldType := M.2.2.2.1
abbrev mtP (M : MT) : Nat → List Nat := M.2.2.2.2.1
abbrev mtI (M : MT) : Nat → List MI := M.2.2.2.2.2
def SimE (M : MT) (y i : Nat) (e : MI) : Prop := match e with
  | .inl f => MonN f ∧ SimN (mtN M y).cls (mtN M y).name (mtC M y) (mtL M y) (mtP M y) 0 i f
  | .inr (.inl k) => SimR (mtC M y) (mtP M y) i k (mtR M y)
  | .inr (.inr (.inl q)) => SimC (mtN M y).cls (mtC M y) (mtP M y) i (mtN M q.1) (mtR M q.1) q.2.1 q.2.2 ∧ plainFor (mtN M q.1) = true ∧ Cond.code (mtN M q.1) (mtC M q.1) (mtL M q.1) (mtR M q.1) ∈ wAll ∧ mtL M q.1 ≤ 41
  | .inr (.inr (.inr q)) => MonN q.2 ∧ SimN (mtN M y).cls (mtN M y).name (mtC M y) (mtL M y) (mtP M y) q.1 i q.2
/-- what a run says: the cells grow; the big machine comes from here to the method's end -/
def SndP (M : MT) (d y i : Nat) (L st : List MV) (h : Mh) (v : Option MV) (h' : Mh) : Prop :=
  (h.1.length ≤ h'.1.length ∧ sl h.1 ≤ sl h'.1) ∧ ∀ (E : EV) (p : Program) (l : Launch) (e : Env) (R : Room) (s : State) (m : MethodId) (args : Array Value) (below : List Frame) (meth : Method) (c : Code), CX E p R s m args meth c (mtN M y).cls (mtN M y).name (mtC M y) (mtL M y) d →
  ∀ (H : Heap) (locs : List Loc) (ad : Nat → Nat) (lsr : Array Slot) (g0 s0 : Nat) (Q : State → Prop), IV E s h H locs ad → (∀ w ∈ st, nv h w) → LV E ad lsr L h (mtL M y) → g0 ≤ h.1.length → s0 ≤ sl h.1 → h'.1.length - g0 ≤ R.cells → sl h'.1 - s0 ≤ R.slots →
  (∀ (i' k : Nat) (st' : List MV) (H' : Heap) (locs' : List Loc) (ad' : Nat → Nat) (lsr' : Array Slot), SimR (mtC M y) (mtP M y) i' k (mtR M y) → rt k st' h' (v, h') → IV E s h' H' locs' ad' → (∀ w ∈ st', nv h' w) → (∀ a, a < h.1.length → ad' a = ad a) →
    W p l e R s m args below meth c H' locs' (h'.1.length - g0) (sl h'.1 - s0) Q (F0 m (pcat (mtP M y) i') lsr' (st'.map (tv E ad')))) →
  W p l e R s m args below meth c H locs (h.1.length - g0) (sl h.1 - s0) Q (F0 m (pcat (mtP M y) i) lsr (st.map (tv E ad)))
def wsY (M : MT) (y : Nat) : List Cond := .code (mtN M y) (mtC M y) (mtL M y) (mtR M y) :: wAll
def rmY (d mc ms : Nat) : Room := { frames := d, cells := mc, slots := ms, locals := 60 * d }
def RP (E : EV) (h : Mh) (ad : Nat → Nat) (U : State) : Prop := va_P (eD E) vwCl (wl E ad h) U.heap ∧ va_D (eA E) (wl E ad h) ∧ GI E h ∧ FX E U U.heap ∧ eO E ≤ U.heap.size
def PcY (E : EV) (h : Mh) (ad : Nat → Nat) (as : List MV) : Array Value → State → Prop := fun av U => av = (as.map (tv E ad)).toArray ∧ RP E h ad U
def QcY (E : EV) (h : Mh) (ad : Nat → Nat) (v : Option MV) (h' : Mh) : Array Value → State → Outcome → State → Prop := fun _ st o t =>
  (∃ ad' : Nat → Nat, o = .returned (v.map (tv E ad')) ∧ (∀ a, a < h.1.length → ad' a = ad a) ∧ va_P (eD E) vwCl (wl E ad' h') t.heap ∧ va_D (eA E) (wl E ad' h') ∧ GI E h' ∧ ∀ x, v = some x → nv h' x) ∧ va_F (eA E) st t
theorem blY (E : EV) (h : Mh) (ad : Nat → Nat) (as : List MV) : FrameBlind (PcY E h ad as) := fun a U g mk q => ⟨q.1, q.2.1, q.2.2.1, q.2.2.2.1, FX.same (U := U.calling g mk a) rfl q.2.2.2.2.1, q.2.2.2.2.2⟩
theorem nar_c8 : ∀ n : Nat, n < 256 → narrow .char (.int (Int32.ofInt n)) = .int (Int32.ofInt n) := by decide +kernel
theorem nar_c {x : Int} (h : 0 ≤ x ∧ x < 256) : narrow .char (.int (Int32.ofInt x)) = .int (Int32.ofInt x) := by
  have := nar_c8 x.toNat (by omega)
  rw [show ((x.toNat : Nat) : Int) = x by omega] at this
  exact this
/-! a call's locals -/
theorem lg_sl_cons (v : Value) (vs : List Value) : lg_sl (v :: vs) = (if v.category = 2 then [.val v, .second] else [.val v]) ++ lg_sl vs := by unfold lg_sl; rw [List.flatMap_cons]
theorem entL_len (E : EV) (ad : Nat → Nat) : ∀ as : List MV, (lg_sl (as.map (tv E ad))).length = (entL as).length := by
  intro as
  induction as with
  | nil => rfl
  | cons v as ih =>
    obtain ⟨t, x⟩ := v
    rw [List.map_cons, lg_sl_cons]
    by_cases ht : t = 1
    · subst ht
      rw [if_pos (tv_cat2 x), List.length_append, ih]
      show 2 + _ = ((1, x) :: (9, 0) :: entL as).length
      simp only [List.length_cons]
      omega
    · have hc : (tv E ad (t, x)).category = 1 := tv_cat1 (v := (t, x)) ht
      rw [if_neg (by omega), List.length_append, ih]
      have : entL ((t, x) :: as) = (t, x) :: entL as := by
        match t, ht with
        | 0, _ => rfl
        | 1, ht => exact absurd rfl ht
        | n + 2, _ => rfl
      rw [this]
      simp only [List.length_cons, List.length_nil]
      omega
theorem entL_mem (E : EV) (ad : Nat → Nat) : ∀ (as : List MV) (j k : Nat) (v : MV), (entL as)[k]? = some v → v.1 < 9 → v ∈ as ∧ (j + k, tv E ad v) ∈ lv_args j (as.map (tv E ad)) := by
  intro as
  induction as with
  | nil => intro j k v h _; cases h
  | cons w as ih =>
    intro j k v h h9
    obtain ⟨t, x⟩ := w
    by_cases ht : t = 1
    · subst ht
      have e1 : lv_args j (((1, x) :: as).map (tv E ad)) = (j, tv E ad (1, x)) :: lv_args (j + 2) (as.map (tv E ad)) := by
        show (j, tv E ad (1, x)) :: lv_args (if (tv E ad (1, x)).category = 2 then j + 2 else j + 1) _ = _
        rw [if_pos (tv_cat2 x)]
      rw [e1]
      match k, h with
      | 0, h => cases h; exact ⟨List.mem_cons_self, List.mem_cons_self⟩
      | 1, h => cases h; exact absurd h9 (by decide)
      | k + 2, h =>
        obtain ⟨h1, h2⟩ := ih (j + 2) k v h h9
        exact ⟨List.mem_cons_of_mem _ h1, List.mem_cons_of_mem _ (by rw [show j + (k + 2) = j + 2 + k by omega]; exact h2)⟩
    · have hc : (tv E ad (t, x)).category = 1 := tv_cat1 (v := (t, x)) ht
      have e1 : lv_args j (((t, x) :: as).map (tv E ad)) = (j, tv E ad (t, x)) :: lv_args (j + 1) (as.map (tv E ad)) := by
        show (j, tv E ad (t, x)) :: lv_args (if (tv E ad (t, x)).category = 2 then j + 2 else j + 1) _ = _
        rw [if_neg (by omega)]
      have e2 : entL ((t, x) :: as) = (t, x) :: entL as := by
        match t, ht with
        | 0, _ => rfl
        | 1, ht => exact absurd rfl ht
        | n + 2, _ => rfl
      rw [e1]
      rw [e2] at h
      match k, h with
      | 0, h => cases h; exact ⟨List.mem_cons_self, List.mem_cons_self⟩
      | k + 1, h =>
        obtain ⟨h1, h2⟩ := ih (j + 1) k v h h9
        exact ⟨List.mem_cons_of_mem _ h1, List.mem_cons_of_mem _ (by rw [show j + (k + 1) = j + 1 + k by omega]; exact h2)⟩
theorem LV_ent {E : EV} {ad : Nat → Nat} {h : Mh} {as : List MV} {nL : Nat} (hl : (entL as).length ≤ nL) (hv : ∀ w ∈ as, nv h w) : LV E ad ((lg_sl (as.map (tv E ad)) ++ List.replicate (nL - (lg_sl (as.map (tv E ad))).length) Slot.unset).toArray) (ent nL as) h nL := by
  obtain ⟨h1, h2, h3⟩ := lv_entry (as.map (tv E ad)) (n := nL) (by rw [entL_len]; exact hl)
  refine ⟨h2, h1, by unfold ent; simp; omega, fun k v hk h9 => ?_⟩
  unfold ent at hk
  by_cases hlt : k < (entL as).length
  · rw [List.getElem?_append_left hlt] at hk
    obtain ⟨q1, q2⟩ := entL_mem E ad as 0 k v hk h9
    rw [Nat.zero_add] at q2
    exact ⟨hv v q1, h3 _ q2⟩
  · rw [List.getElem?_append_right (by omega)] at hk
    have := List.eq_of_mem_replicate (List.mem_of_getElem? hk)
    rw [this] at h9
    exact absurd h9 (by decide)
/-- Met.ofW, of a method of any class that no entry overrides -/
theorem met_ofF {l : Launch} {y : MethodName} {ws ws' : List Cond} {rm : Room} {Pc : Array Value → State → Prop} {Qc : Array Value → State → Outcome → State → Prop} {mc ms : Nat} {free : Addr → Prop} {cc : ByteArray} {maxL : Nat} {ret : Option FieldType}
    (hy : plainFor y = true) (hw : ws = Cond.code y cc maxL ret :: ws')
    (body : ∀ p e s m args below meth c s₁, BodyLoose p l y (headSpec ws rm) cc maxL ret e s m args below meth c s₁ → c.maxLocals = maxL → Pc args s →
      W p l e (headSpec ws rm).room s m args below meth c s.heap [] 0 0 (MQ below Qc args s mc ms free) (entryFrame m args maxL)) : Met l y ws rm Pc Qc mc ms free := by
  refine MetFree.of_bodySF (code := cc) (maxLocals := maxL) (ret := ret) hy ?_ ?_
  · intro args s m h hn
    obtain ⟨meth, c, h1, h2, h3, h4, h5, h6, -, -⟩ := Cond.code_spec hn (atoms_spec (ws := ws) h _ (by rw [hw]; exact List.mem_cons_self))
    exact ⟨meth, c, h1, h2, h3, h4, h5, h6⟩
  · intro p e s m args below meth c s₁ B hml hP _
    have hh0 : s₁.heap = s.heap := by rw [B.state]; rfl
    obtain ⟨t, a1, o, b1, b2, b3⟩ := body p e s m args below meth c s₁ B hml hP s₁ hh0 (Stand.of_body B)
    exact ⟨t, o, a1, b1, b2, ⟨b3.1, b3.2⟩⟩
/-- a method's contract out of its run -/
theorem met_of {M : MT} {d z : Nat} {as : List MV} {h h' : Mh} {v : Option MV} (hS : SndP M d z 0 (ent (mtL M z) as) [] h v h') (hpl : plainFor (mtN M z) = true) (hel : (entL as).length ≤ mtL M z) (E : EV) (l : Launch) (ad : Nat → Nat) (hp0 : pcat (mtP M z) 0 = 0) (hv : ∀ w ∈ as, nv h w) :
    Met l (mtN M z) (wsY M z) (rmY d (h'.1.length - h.1.length) (sl h'.1 - sl h.1)) (PcY E h ad as) (QcY E h ad v h') (h'.1.length - h.1.length) (sl h'.1 - sl h.1) (eA E) := by
  refine met_ofF (cc := mtC M z) (maxL := mtL M z) (ret := mtR M z) hpl rfl ?_
  intro p e s m args below meth c s₁ B hml hP
  obtain ⟨rfl, hP, hD, hG, hF, hO⟩ := hP
  have hts : ∀ w ∈ wAll, w.before (as.map (tv E ad)).toArray s = true := fun w hw => atoms_spec (ws := wsY M z) B.pre w (List.mem_cons_of_mem _ hw)
  have hmn : meth.name = (mtN M z).name := (name_of_methodNamed B.named B.method).1
  have hlocks := B.notSynchronized
  have hr := B.returns
  have hx := B.exec
  have hb := B.bytes
  have C : CX E p (rmY d (h'.1.length - h.1.length) (sl h'.1 - sl h.1)) s m (as.map (tv E ad)).toArray meth c (mtN M z).cls (mtN M z).name (mtC M z) (mtL M z) d :=
    ⟨hx, hb, hml, findClass_of_methodNamed B.named, hts, hF, hO, Nat.le_refl _, Nat.le_refl _, hmn⟩
  have hz := hS.2 E p l e (rmY d (h'.1.length - h.1.length) (sl h'.1 - sl h.1)) s m (as.map (tv E ad)).toArray below meth c C s.heap [] ad ((lg_sl (as.map (tv E ad)) ++ List.replicate (mtL M z - (lg_sl (as.map (tv E ad))).length) Slot.unset).toArray) h.1.length (sl h.1)
    (MQ below (QcY E h ad v h') (as.map (tv E ad)).toArray s (h'.1.length - h.1.length) (sl h'.1 - sl h.1) (eA E)) ⟨hP, hD, va_S.rf, hG⟩ (fun _ q => by cases q) (LV_ent hel hv) (Nat.le_refl _) (Nat.le_refl _) (Nat.le_refl _) (Nat.le_refl _) ?_
  · rw [Nat.sub_self, Nat.sub_self, hp0] at hz
    rw [lg_entry_eq]
    exact hz
  · intro i' k st' H' locs' ad' lsr' hR hrt hI hnv hag
    obtain ⟨hP', hD', hS', hG'⟩ := hI
    have hQ : ∀ (w : Option MV), w = v → (∀ x, w = some x → nv h' x) → ∀ t : State, t.heap = H' → s.WarmedH t.vm → QcY E h ad v h' (as.map (tv E ad)).toArray s (.returned (w.map (tv E ad'))) t := by
      intro w hw hx t ht _
      subst hw
      exact ⟨⟨ad', rfl, hag, by rw [ht]; exact hP', hD', hG', hx⟩, hS'.F ht⟩
    rcases hR with ⟨rfl, hd, hrr⟩ | ⟨rfl, hd, hrr⟩ | ⟨rfl, hd, hrr⟩ | ⟨rfl, hd, hrr⟩ | ⟨rfl, hd, hrr⟩ | ⟨rfl, hd, hrr⟩
    · obtain ⟨rfl, e1⟩ := hrt
      cases e1
      exact W.vret hx hb (hr.trans hrr) (fun t ht hW => hQ none rfl (fun x q => by cases q) t ht hW) hS'.2.2 hd hlocks
    · obtain ⟨x, rfl, e1⟩ := hrt
      cases e1
      exact W.iret hx hb (hr.trans hrr) (fun t ht hW => hQ (some (0, x)) rfl (fun y q => by cases q; exact al_hd hnv) t ht hW) hS'.2.2 hd hlocks
    · obtain ⟨x, rfl, h01, e1⟩ := hrt
      cases e1
      exact W.zret hx hb (hr.trans hrr) (by rcases h01 with rfl | rfl <;> decide) (fun t ht hW => hQ (some (0, x)) rfl (fun y q => by cases q; exact al_hd hnv) t ht hW) hS'.2.2 hd hlocks
    · obtain ⟨x, rfl, e1⟩ := hrt
      cases e1
      exact W.lret hx hb (hr.trans hrr) (fun t ht hW => hQ (some (1, x)) rfl (fun y q => by cases q; exact al_hd hnv) t ht hW) hS'.2.2 hd hlocks
    · obtain ⟨x, rfl, h01, e1⟩ := hrt
      cases e1
      refine W.zret hx hb (hr.trans hrr) ?_ (fun t ht hW => hQ (some (0, x)) rfl (fun y q => by cases q; exact al_hd hnv) t ht hW) hS'.2.2 hd hlocks
      rcases h01 with rfl | rfl <;> decide
    · obtain ⟨x, rfl, h01, e1⟩ := hrt
      cases e1
      refine W.zret hx hb (hr.trans hrr) ?_ (fun t ht hW => hQ (some (0, x)) rfl (fun y q => by cases q; exact al_hd hnv) t ht hW) hS'.2.2 hd hlocks
      exact nar_c h01
theorem rt_h {k : Nat} {st : List MV} {h : Mh} {r : Option MV × Mh} (q : rt k st h r) : r.2 = h := by
  unfold rt at q
  split at q
  · obtain ⟨-, rfl⟩ := q; rfl
  · obtain ⟨x, -, rfl⟩ := q; rfl
  · obtain ⟨x, -, -, rfl⟩ := q; rfl
  · obtain ⟨x, -, -, rfl⟩ := q; rfl
  · obtain ⟨x, -, -, rfl⟩ := q; rfl
  · obtain ⟨x, -, rfl⟩ := q; rfl
theorem split_as {E : EV} {ad : Nat → Nat} {st : List MV} {np : Nat} {w : MV} (h : st[np]? = some w) : st.map (tv E ad) = ((st.take np).reverse.map (tv E ad)).reverse ++ tv E ad w :: (st.drop (np + 1)).map (tv E ad) ∧ (st.take (np + 1)).reverse.map (tv E ad) = tv E ad w :: (st.take np).reverse.map (tv E ad) ∧ np < st.length := by
  have hl := (List.getElem?_eq_some_iff.mp h).1
  have e1 : st.take (np + 1) = st.take np ++ [w] := by rw [List.take_succ, h]; rfl
  refine ⟨?_, ?_, hl⟩
  · have : st = st.take np ++ w :: st.drop (np + 1) := by
      have := List.take_append_drop (np + 1) st
      rw [e1, List.append_assoc] at this
      exact this.symm
    rw [List.map_reverse, List.reverse_reverse]
    conv => lhs; rw [this]
    rw [List.map_append, List.map_cons]
  · rw [e1, List.reverse_append, List.map_append]
    rfl
/-- a call in the big machine -/
theorem call_go {M : MT} {d d' y i z na ck : Nat} {L st : List MV} {h h1 h' : Mh} {v v1 : Option MV} (hd' : d = d' + 1) (hsim : SimC (mtN M y).cls (mtC M y) (mtP M y) i (mtN M z) (mtR M z) na ck) (hpl : plainFor (mtN M z) = true) (hcw : Cond.code (mtN M z) (mtC M z) (mtL M z) (mtR M z) ∈ wAll) (hL41 : mtL M z ≤ 41) (hz0 : pcat (mtP M z) 0 = 0)
    (hna : na ≤ st.length) (hst : st.length ≤ na + 4) (hrc : rc ck na st h) (hel : (entL (st.take na).reverse).length ≤ mtL M z) (hz : SndP M d' z 0 (ent (mtL M z) (st.take na).reverse) [] h v1 h1) (hk : SndP M d y (i + 1) L (v1.toList ++ st.drop na) h1 v h') : SndP M d y i L st h v h' := by
  refine ⟨⟨Nat.le_trans hz.1.1 hk.1.1, Nat.le_trans hz.1.2 hk.1.2⟩, fun E p l e R s m args below meth c C H locs ad lsr g0 s0 Q hI hv hL hg hs hR1 hR2 hQ => ?_⟩
  subst hd'
  have m1 := hz.1.1
  have m2 := hz.1.2
  have m3 := hk.1.1
  have m4 := hk.1.2
  have hvt : ∀ w ∈ st.take na, nv h w := fun w hw => hv w (List.mem_of_mem_take hw)
  have hvd : ∀ w ∈ st.drop na, nv h w := fun w hw => hv w (List.mem_of_mem_drop hw)
  have hM := met_of hz hpl hel E l ad hz0 (fun w hw => hvt w (List.mem_reverse.mp hw))
  have C0 := C
  obtain ⟨hx, hb, hml, hown, hts, hF, hO, hd1, hd2, hmn⟩ := C
  have hI0 := hI
  obtain ⟨hP, hD, hS, hG⟩ := hI
  obtain ⟨hpc, hMH, idx, np, hnp, hini, hkind⟩ := hsim
  have hwg : ∀ w ∈ wAll, ∀ (a' : Array Value) (U : State), s.WarmedH U.vm → w.before a' U = true := fun w hw a' U hW => word_at hW (wA_good w hw) (hts w hw)
  have hwsY : ∀ w ∈ wsY M z, ∀ (a' : Array Value) (U : State), s.WarmedH U.vm → w.before a' U = true := by
    intro w hw
    rcases List.mem_cons.mp hw with rfl | hw
    · exact hwg _ hcw
    · exact hwg w hw
  have hnp2 : ∀ sig, parseMethodDescriptor (mtN M z).desc = some sig → np = sig.parameters.length := fun sig hsig => by
    rw [hsig] at hnp
    exact (Option.some.inj hnp).symm
  have hcells : (h.1.length - g0) + (h1.1.length - h.1.length) ≤ R.cells ∧ (sl h.1 - s0) + (sl h1.1 - sl h.1) ≤ R.slots := ⟨by omega, by omega⟩
  have hW8 : 2 * (F0 m (pcat (mtP M y) i) lsr (st.map (tv E ad))).monitorRoom + (((st.drop na).map (tv E ad)).map fun v => v.category).sum ≤ 8 := by
    refine lv_room (rest := st.map (tv E ad)) ?_
    have := cat_le E ad (st.drop na)
    rw [List.length_drop] at this
    omega
  have hRP : ∀ U : State, U.heap = H → s.WarmedH U.vm → RP E h ad U := fun U hU hW => ⟨by rw [hU]; exact hP, hD, hG, by rw [hU]; exact hF.go hW (fun a h1 h2 => hS.2.1 a h1 h2), by rw [hU]; exact Nat.le_trans hO hS.1⟩
  have hstk : st.map (tv E ad) = (st.take na).map (tv E ad) ++ (st.drop na).map (tv E ad) := by rw [← List.map_append, List.take_append_drop]
  have hlen : (st.take na).length = na := by rw [List.length_take]; omega
  have fin : ∀ (args' : Array Value), va_Run p l e R s m args below meth c H locs (h.1.length - g0) (sl h.1 - s0) (h1.1.length - h.1.length) (sl h1.1 - sl h.1) (F0 m (pcat (mtP M y) i) lsr (st.map (tv E ad))) ((st.drop na).map (tv E ad)) (QcY E h ad v1 h1 args') (eA E) →
      W p l e R s m args below meth c H locs (h.1.length - g0) (sl h.1 - s0) Q (F0 m (pcat (mtP M y) i) lsr (st.map (tv E ad))) := by
    intro args' hr T hT X
    obtain ⟨vr, st₀, t, T', LL, k0, X', hLL, e1, e2, ⟨⟨ad', hvr, hag, hP', hD', hG', hnv⟩, hz2, hk2⟩, stp⟩ := hr T hT X
    cases hvr
    rw [k0] at hz2 hk2
    have hS' : va_S (eA E) s.heap T'.heap (locs ++ LL) := ⟨Nat.le_trans hS.1 (by rw [e1]; exact hz2), fun q q1 q2 => by rw [e1, hk2 q (Nat.lt_of_lt_of_le q1 hS.1) q2]; exact hS.2.1 q q1 q2, fun q hq => by
      rcases List.mem_append.mp hq with h | h
      · exact hS.2.2 q h
      · exact hLL q h⟩
    have hI' : IV E s h1 T'.heap (locs ++ LL) ad' := ⟨by rw [e1]; exact hP', hD', hS', hG'⟩
    have hnvs : ∀ w ∈ v1.toList ++ st.drop na, nv h1 w := by
      intro w hw
      rcases List.mem_append.mp hw with hw | hw
      · cases v1 with
        | none => cases hw
        | some x => rw [List.mem_singleton.mp hw]; exact hnv x rfl
      · exact nv_up m1 (hvd w hw)
    have k3 := hk.2 E p l e R s m args below meth c C0 T'.heap (locs ++ LL) ad' lsr g0 s0 Q hI' hnvs (hL.ag m1 hag) (by omega) (by omega) hR1 hR2 (fun i' k st' H' locs' ad2 lsr' a1 a2 a3 a4 a5 => hQ i' k st' H' locs' ad2 lsr' a1 a2 a3 a4 (fun a ha => (a5 a (by omega)).trans (hag a ha)))
    have e3 : (v1.toList ++ st.drop na).map (tv E ad') = (v1.map (tv E ad')).toList ++ (st.drop na).map (tv E ad) := by
      rw [List.map_append, map_ag hag hvd]
      cases v1 <;> rfl
    rw [hpc, e3] at k3
    have e4 : h1.1.length - g0 = (h.1.length - g0) + (h1.1.length - h.1.length) := by omega
    have e5 : sl h1.1 - s0 = (sl h.1 - s0) + (sl h1.1 - sl h.1) := by omega
    rw [e4, e5] at k3
    obtain ⟨t2, a1, b1⟩ := k3 T' rfl X'
    exact ⟨t2, stp t2 a1, b1⟩
  have hasz : ((st.take na).reverse.map (tv E ad)).length = na := by rw [List.length_map, List.length_reverse]; exact hlen
  rcases hkind with ⟨rfl, rfl, hdec, hw1, hw2⟩ | ⟨rfl, rfl, hdec, hnm, hzr, hw1, hw2⟩ | ⟨rfl, hdec, hw1, hw2, hw3, hck⟩
  · refine fin _ (va_runS (As := (st.take na).reverse.map (tv E ad)) (rest := (st.drop na).map (tv E ad)) ⟨hx, hb, hml, hown, hts⟩ hM ⟨⟨rfl, rfl, by show d' + 1 ≤ R.frames; omega, by show 8 + (mtL M z + 11) + 60 * d' ≤ R.locals; omega, hwsY, List.mem_cons_self, hts _ hcw, hts _ hini, hMH, hnp2, hts _ hw1⟩, hts _ hw2⟩ ⟨blY E h ad _, fun U hU hW => ⟨rfl, hRP U hU hW⟩⟩ rfl hasz hL.2.1 ?_ hW8 hdec hcells)
    show st.map (tv E ad) = _
    rw [hstk, List.map_reverse, List.reverse_reverse]
  · -- a maker
    obtain ⟨r, hr0, hr1⟩ := hrc
    rw [Nat.add_sub_cancel] at hr0
    obtain ⟨f1, f2, f3⟩ := split_as (E := E) (ad := ad) hr0
    have hrn := hv _ (List.mem_of_getElem? hr0)
    have hrt : tv E ad (2, r) = .ref (ad r.toNat) := tv_r (toNat_ne hrn hr1)
    rw [hrt] at f1 f2
    have hM2 := hM
    refine fin (.ref (ad r.toNat) :: ((st.take np).reverse.map (tv E ad)) : List Value).toArray ?_
    · rw [hzr] at hcw
      rcases hw1 with hw1 | ⟨host, hw1⟩
      · exact va_runI (maxL := mtL M z) (bytes := mtC M z) (As := (st.take np).reverse.map (tv E ad)) (rest := (st.drop (np + 1)).map (tv E ad)) ⟨hx, hb, hml, hown, hts⟩ hM2 ⟨⟨rfl, rfl, by show d' + 1 ≤ R.frames; omega, by show 8 + (mtL M z + 11) + 60 * d' ≤ R.locals; omega, hwsY, by unfold wsY; rw [hzr]; exact List.mem_cons_self, hts _ hcw, hts _ hini, hMH, hnp2, hts _ hw1⟩, hnm, hts _ hw2⟩ ⟨blY E h ad _, fun U hU hW => ⟨by rw [f2], hRP U hU hW⟩⟩ rfl (by rw [List.length_map, List.length_reverse, List.length_take]; omega) hL.2.1 f1 hW8 hdec hcells
      · exact va_runIN (maxL := mtL M z) (bytes := mtC M z) (host := host) (As := (st.take np).reverse.map (tv E ad)) (rest := (st.drop (np + 1)).map (tv E ad)) ⟨hx, hb, hml, hown, hts⟩ hM2 ⟨⟨⟨rfl, rfl, by show d' + 1 ≤ R.frames; omega, by show 8 + (mtL M z + 11) + 60 * d' ≤ R.locals; omega, hwsY, by unfold wsY; rw [hzr]; exact List.mem_cons_self⟩, hts _ hcw, hts _ hini, hMH, hnp2, va_Nw.use rfl (hF.2.2.1 _ hw1)⟩, hnm, hts _ hw2⟩ ⟨blY E h ad _, fun U hU hW => ⟨by rw [f2], hRP U hU hW⟩⟩ rfl (by rw [List.length_map, List.length_reverse, List.length_take]; omega) hL.2.1 f1 hW8 hdec hcells
  · have key : ∃ (w : MV) (b : Nat), st[np]? = some w ∧ tv E ad w = .ref b ∧ ∃ cellB : Cell, H[b]? = some cellB ∧ cellB.vm.isStatics = false ∧ s.vm.findClass (mtN M z).cls = some cellB.cls := by
      rcases hck with ⟨rfl, hcl⟩ | ⟨c', rfl, hc', hcl⟩
      · obtain ⟨r, hr0⟩ := hrc
        rw [Nat.add_sub_cancel] at hr0
        have hrn : 0 ≤ r ∧ r < 12 := hv _ (List.mem_of_getElem? hr0)
        refine ⟨(3, r), eK E r.toNat, hr0, rfl, ?_⟩
        rw [hcl]
        exact vk_recv hF.2.2.2.2.1 (by omega) hS
      · obtain ⟨r, hr0, hg⟩ := hrc
        rw [Nat.add_sub_cancel] at hr0
        have hne := gk_ne hG (by omega) hg
        obtain ⟨nn, hn2⟩ := gk_at hg
        have hat := wl_at (E := E) (ad := ad) (h := h) hne (gk_lt hg)
        rw [ce_obj hn2] at hat
        refine ⟨(2, r), ad r.toNat, hr0, tv_r hne, ?_⟩
        rw [hcl]
        exact va_recv hF.1 hP (okc_all c' hc').1 hat
    obtain ⟨w, b, hr0, hrt, hcell⟩ := key
    obtain ⟨f1, f2, f3⟩ := split_as (E := E) (ad := ad) hr0
    rw [hrt] at f1 f2
    refine fin _ (va_runV (C := (mtN M z).cls) (b := b) (As := (st.take np).reverse.map (tv E ad)) (rest := (st.drop (np + 1)).map (tv E ad)) ⟨hx, hb, hml, hown, hts⟩ hM ⟨⟨rfl, rfl, by show d' + 1 ≤ R.frames; omega, by show 8 + (mtL M z + 11) + 60 * d' ≤ R.locals; omega, hwsY, List.mem_cons_self, hts _ hcw, hts _ hini, hMH, hnp2, hts _ hw1⟩, hts _ hw2, hts _ hw3⟩ ⟨blY E h ad _, hcell, fun U hU hW => ⟨by rw [f2], hRP U hU hW⟩⟩ rfl (by rw [List.length_map, List.length_reverse, List.length_take]; omega) hL.2.1 f1 hW8 hdec hcells)
/-- the whole little machine, by its fuel -/
theorem snd_all {M : MT} (hM : ∀ (y i : Nat) (e : MI), (mtI M y)[i]? = some e → SimE M y i e) (hP0 : ∀ y, pcat (mtP M y) 0 = 0) : ∀ (n d y i : Nat) (L st : List MV) (h : Mh) (v : Option MV) (h' : Mh), ex (mtI M) (mtL M) n d y i L st h (v, h') → SndP M d y i L st h v h' := by
  intro n
  induction n with
  | zero => intro d y i L st h v h' q; exact q.elim
  | succ n ih =>
    intro d y i L st h v h' q
    have stp : ∀ (k : Nat) (f : SN), k ≤ d → MonN f → SimN (mtN M y).cls (mtN M y).name (mtC M y) (mtL M y) (mtP M y) k i f → (match f i L st h with | none => False | some (ps, i', L', st', h1) => cj ps ∧ ex (mtI M) (mtL M) n d y i' L' st' h1 (v, h')) → SndP M d y i L st h v h' := by
      intro k f hk hmon hsim q
      cases hf : f i L st h with
      | none => rw [hf] at q; exact q.elim
      | some r =>
        obtain ⟨ps, i', L', st', h1⟩ := r
        rw [hf] at q
        obtain ⟨q1, q2⟩ := q
        have hr := ih _ _ _ _ _ _ _ _ q2
        have hm := hmon _ _ _ _ _ _ _ _ _ hf
        refine ⟨⟨Nat.le_trans hm.1 hr.1.1, Nat.le_trans hm.2 hr.1.2⟩, fun E p l e R s m args below meth c C H locs ad lsr g0 s0 Q hI hv hL hg hs hR1 hR2 hQ => ?_⟩
        have hX := (hsim E p l e R s m args below meth c d C hk L st h ps i' L' st' h1 hf q1 H locs ad lsr g0 s0 Q hI hv hL hg hs).2
        refine hX (by have := hr.1.1; omega) (by have := hr.1.2; omega) (fun H' locs' ad' lsr' hI' hv' hL' hag => ?_)
        exact hr.2 E p l e R s m args below meth c C H' locs' ad' lsr' g0 s0 Q hI' hv' hL' (by omega) (by omega) hR1 hR2 (fun i2 k2 st2 H2 locs2 ad2 lsr2 a1 a2 a3 a4 a5 => hQ i2 k2 st2 H2 locs2 ad2 lsr2 a1 a2 a3 a4 (fun a ha => (a5 a (by omega)).trans (hag a ha)))
    unfold ex at q
    cases he : (mtI M y)[i]? with
    | none => rw [he] at q; exact q.elim
    | some e =>
      have hsim := hM y i e he
      rw [he] at q
      match e, hsim, q with
      | .inl f, hsim, q => exact stp 0 f (Nat.zero_le _) hsim.1 hsim.2 q
      | .inr (.inl k), hsim, q =>
        have hh : h' = h := rt_h q
        subst hh
        refine ⟨⟨Nat.le_refl _, Nat.le_refl _⟩, fun E p l e R s m args below meth c C H locs ad lsr g0 s0 Q hI hv hL hg hs hR1 hR2 hQ => ?_⟩
        exact hQ i k st H locs ad lsr hsim q hI hv (fun _ _ => rfl)
      | .inr (.inr (.inr (k, f))), hsim, q => exact stp k f q.1 hsim.1 hsim.2 q.2
      | .inr (.inr (.inl (z, na, ck))), hsim, q =>
        obtain ⟨q1, q2, q3, q6, d', v1, h1, e1, q4, q5⟩ := q
        obtain ⟨s1, s2, s3, s4⟩ := hsim
        exact call_go e1 s1 s2 s3 s4 (hP0 z) q1 q2 q3 q6 (ih _ _ _ _ _ _ _ _ q4) (ih _ _ _ _ _ _ _ _ q5)
