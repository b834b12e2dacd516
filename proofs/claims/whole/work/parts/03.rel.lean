/-! THE LITTLE MACHINE'S CELLS IN THE HEAP -/
/-- the words that every method holds -/
def wAll : List Cond := lw_tbl.filter goodWord
theorem wA_of {w : Cond} (h : w ∈ lw_tbl) (hg : goodWord w = true) : w ∈ wAll := List.mem_filter.mpr ⟨h, hg⟩
theorem wA_t {w : Cond} (h : w ∈ tables_1) (hg : goodWord w = true) : w ∈ wAll := wA_of (List.mem_append_right _ h) hg
theorem wA_good : ∀ w ∈ wAll, (w.onTables && w.keeps) = true ∨ ∃ ty, w = .arrayClass ty := fun _ h => good_of_word (List.mem_filter.mp h).2
theorem wA_lw : ∀ w ∈ wAll, w ∈ lw_tbl := fun _ h => (List.mem_filter.mp h).1
/-- what one run of the law fixes: the kinds' numbers, the rows' kinds, the literals' addresses, (the first new address, the script's address, its length), the script, the formatter -/
abbrev EV : Type := va_G × (ClassId × ClassId × ClassId) × ((Nat → Nat) × (Nat → Nat)) × (Nat × Nat × Nat) × (Nat → Int32) × Option Nat
abbrev eD (E : EV) : va_G := E.1
abbrev eI (E : EV) : ClassId := E.2.1.1
abbrev eJ (E : EV) : ClassId := E.2.1.2.1
abbrev eZ (E : EV) : ClassId := E.2.1.2.2
abbrev eK (E : EV) : Nat → Nat := E.2.2.1.1
abbrev eV (E : EV) : Nat → Nat := E.2.2.1.2
abbrev eO (E : EV) : Nat := E.2.2.2.1.1
abbrev eB (E : EV) : Nat := E.2.2.2.1.2.1
abbrev eL (E : EV) : Nat := E.2.2.2.1.2.2
abbrev eX (E : EV) : Nat → Int32 := E.2.2.2.2.1
abbrev eF (E : EV) : Option Nat := E.2.2.2.2.2
abbrev eA (E : EV) : Nat → Prop := fun q => eO E ≤ q
abbrev eT (E : EV) : List (ClassId × FieldType) := [(eI E, .int), (eJ E, .long), (eZ E, .boolean)]
def FX (E : EV) (U : State) (H : Heap) : Prop :=
  va_K (eD E) vwCl (eT E) U ∧ (∀ q ∈ nstF, va_Nw (.fieldLinkNest q.1 q.2.1 q.2.2.1 q.2.2.2.1 q.2.2.2.2.1 q.2.2.2.2.2) U) ∧ (∀ q ∈ nstM, va_Nw (.methodLinkNest q.1 q.2.1 q.2.2.1 q.2.2.2) U) ∧
  (∀ (j : Nat) (q : String × Nat × String), strT[j]? = some q → vk_R q.1 q.2.1 q.2.2 (eK E j) U) ∧ vk_S 12 lenJS bytJS (eK E) (eV E) (eA E) U H ∧
  va_Z "java/lang/String" "COMPACT_STRINGS" "Z" (.int 1) (eA E) U H ∧ va_Z "jdk/internal/util/Preconditions" "SIOOBE_FORMATTER" "Ljava/util/function/BiFunction;" (va_rf (eF E)) (eA E) U H ∧
  va_X (eB E) (eL E) (eX E) U H ∧ eB E < eO E ∧ eL E < 2147483648
theorem FX.go {E : EV} {s U : State} {H H1 : Heap} (hW : s.WarmedH U.vm) (h : FX E s H) (hq : ∀ a : Nat, a < H.size → ¬ eA E a → H1[a]? = H[a]?) : FX E U H1 := by
  obtain ⟨h1, h2, h3, h4, h5, h6, h7, h8, h9, h10⟩ := h
  refine ⟨h1.moved hW.alike, fun q hq => va_Nw.warmF hW (h2 q hq), fun q hq => va_Nw.warmM hW (h3 q hq), fun j q hj => vk_R.warm hW (h4 j q hj), (h5.moved hW.alike).kept hq, (h6.moved hW.alike).kept hq, (h7.moved hW.alike).kept hq, (h8.moved hW.alike).kept ?_, h9, h10⟩
  obtain ⟨scr, g1, -⟩ := h8
  exact hq _ (Array.getElem?_eq_some_iff.mp g1).1 (Nat.not_le.mpr h9)
/-- the same tables, the same heap -/
theorem FX.same {E : EV} {s U : State} {H : Heap} (hv : U.vm = s.vm) (h : FX E s H) : FX E U H := by
  obtain ⟨h1, h2, h3, h4, h5, h6, h7, h8, h9, h10⟩ := h
  have hal : s.vm.Alike U.vm := by rw [hv]; exact Vm.Alike.refl _
  refine ⟨h1.moved hal, fun q hq => va_Nw.same rfl hv.symm (h2 q hq), fun q hq => va_Nw.same rfl hv.symm (h3 q hq), fun j q hj => vk_R.same hv (h4 j q hj), h5.moved hal, h6.moved hal, h7.moved hal, h8.moved hal, h9, h10⟩
/-- a field's kind: 0 int or boolean, 1 long, 2 a reference -/
def kd (ty : FieldType) : Nat := match ty with
  | .long => 1
  | .object _ => 2
  | .array _ => 2
  | _ => 0
def ftyp (c : Nat) : Nat → FieldType := match c with
  | 0 => tyX0
  | 1 => tyX1
  | 2 => tyX2
  | 3 => tyX3
  | 4 => tyX4
  | 5 => tyX5
  | 6 => tyX6
  | 7 => tyX7
  | 8 => tyX8
  | 9 => tyX9
  | 10 => tyX10
  | 11 => tyX11
  | _ => tyX12
def ftab (c : Nat) : u_T := match c with
  | 0 => TX0
  | 1 => TX1
  | 2 => TX2
  | 3 => TX3
  | 4 => TX4
  | 5 => TX5
  | 6 => TX6
  | 7 => TX7
  | 8 => TX8
  | 9 => TX9
  | 10 => TX10
  | 11 => TX11
  | _ => TX12
def fnam (c : Nat) : String := match c with
  | 0 => RX0
  | 1 => RX1
  | 2 => RX2
  | 3 => RX3
  | 4 => RX4
  | 5 => RX5
  | 6 => RX6
  | 7 => RX7
  | 8 => RX8
  | 9 => RX9
  | 10 => RX10
  | 11 => RX11
  | _ => RX12
def fnum (c : Nat) : Nat := match c with
  | 0 => 7
  | 1 => 8
  | 2 => 9
  | 3 => 1
  | 4 => 4
  | 5 => 3
  | 6 => 4
  | 7 => 4
  | 8 => 10
  | 9 => 6
  | 10 => 4
  | 11 => 15
  | _ => 53
/-- all that the tables say of kind c -/
def okc (c : Nat) : Prop := vwCl[c]? = some (fnam c, ftab c, fnum c) ∧ (∀ w ∈ u_ws (fnam c) (ftab c) (fnum c), w ∈ wAll) ∧ (∀ k, k < fnum c → parseFieldDescriptor (ftab c k).2.2.1 = some (ftyp c k)) ∧ ∀ a, a < fnum c → ∀ b, b < fnum c → a ≠ b → (ftab c a).2.1 ≠ (ftab c b).2.1
theorem okc_all : ∀ c, c < 13 → okc c := by
  intro c hc
  have hw : ∀ {C : String} {T : u_T} {n : Nat}, (∀ w ∈ u_ws C T n, w ∈ tables_1 ∧ goodWord w = true) → ∀ w ∈ u_ws C T n, w ∈ wAll := fun h w hw => wA_t (h w hw).1 (h w hw).2
  match c, hc with
  | 0, _ => exact ⟨rfl, hw lwX0, tyX0_ok, nmX0⟩
  | 1, _ => exact ⟨rfl, hw lwX1, tyX1_ok, nmX1⟩
  | 2, _ => exact ⟨rfl, hw lwX2, tyX2_ok, nmX2⟩
  | 3, _ => exact ⟨rfl, hw lwX3, tyX3_ok, nmX3⟩
  | 4, _ => exact ⟨rfl, hw lwX4, tyX4_ok, nmX4⟩
  | 5, _ => exact ⟨rfl, hw lwX5, tyX5_ok, nmX5⟩
  | 6, _ => exact ⟨rfl, hw lwX6, tyX6_ok, nmX6⟩
  | 7, _ => exact ⟨rfl, hw lwX7, tyX7_ok, nmX7⟩
  | 8, _ => exact ⟨rfl, hw lwX8, tyX8_ok, nmX8⟩
  | 9, _ => exact ⟨rfl, hw lwX9, tyX9_ok, nmX9⟩
  | 10, _ => exact ⟨rfl, hw lwX10, tyX10_ok, nmX10⟩
  | 11, _ => exact ⟨rfl, hw lwX11, tyX11_ok, nmX11⟩
  | 12, _ => exact ⟨rfl, hw lwX12, tyX12_ok, nmX12⟩
  | n + 13, h => omega
/-! numbers -/
theorem w32_in (x : Int) : in32 (w32 x) := by unfold in32 w32; omega
theorem w64_in (x : Int) : in64 (w64 x) := by unfold in64 w64; omega
theorem w32_id {x : Int} (h : in32 x) : w32 x = x := by unfold in32 at h; unfold w32; omega
theorem w64_id {x : Int} (h : in64 x) : w64 x = x := by unfold in64 at h; unfold w64; omega
theorem in32_64 {x : Int} (h : in32 x) : in64 x := by unfold in32 at h; unfold in64; omega
theorem o32 (x : Int) : (Int32.ofInt x).toInt = w32 x := by
  rw [Int32.toInt_ofInt]; unfold w32; simp only [Int.bmod, Int32.size]; omega
theorem o64 (x : Int) : (Int64.ofInt x).toInt = w64 x := by
  rw [Int64.toInt_ofInt]; unfold w64; simp only [Int.bmod, Int64.size]; omega
theorem o32i {x : Int} (h : in32 x) : (Int32.ofInt x).toInt = x := by rw [o32, w32_id h]
theorem o64i {x : Int} (h : in64 x) : (Int64.ofInt x).toInt = x := by rw [o64, w64_id h]
theorem o32w (x : Int) : Int32.ofInt (w32 x) = Int32.ofInt x := Int32.toInt_inj.mp (by rw [o32, o32, w32_id (w32_in x)])
theorem o64w (x : Int) : Int64.ofInt (w64 x) = Int64.ofInt x := Int64.toInt_inj.mp (by rw [o64, o64, w64_id (w64_in x)])
theorem t32_in (x : Int32) : in32 x.toInt := ⟨by have := Int32.le_toInt x; omega, by have := Int32.toInt_lt x; omega⟩
theorem t64_in (x : Int64) : in64 x.toInt := ⟨by have := Int64.le_toInt x; omega, by have := Int64.toInt_lt x; omega⟩
theorem t32 (x : Int32) : Int32.ofInt x.toInt = x := Int32.ofInt_toInt x
theorem t64 (x : Int64) : Int64.ofInt x.toInt = x := Int64.ofInt_toInt x
theorem i32_eq {x y : Int} (hx : in32 x) (hy : in32 y) : Int32.ofInt x = Int32.ofInt y ↔ x = y := by rw [← Int32.toInt_inj, o32i hx, o32i hy]
theorem i32_lt {x y : Int} (hx : in32 x) (hy : in32 y) : Int32.ofInt x < Int32.ofInt y ↔ x < y := by rw [Int32.lt_iff_toInt_lt, o32i hx, o32i hy]
theorem i32_le {x y : Int} (hx : in32 x) (hy : in32 y) : Int32.ofInt x ≤ Int32.ofInt y ↔ x ≤ y := by rw [Int32.le_iff_toInt_le, o32i hx, o32i hy]
theorem i64_eq {x y : Int} (hx : in64 x) (hy : in64 y) : Int64.ofInt x = Int64.ofInt y ↔ x = y := by rw [← Int64.toInt_inj, o64i hx, o64i hy]
theorem i64_lt {x y : Int} (hx : in64 x) (hy : in64 y) : Int64.ofInt x < Int64.ofInt y ↔ x < y := by rw [Int64.lt_iff_toInt_lt, o64i hx, o64i hy]
theorem in32_0 : in32 0 := ⟨by decide, by decide⟩
theorem in64_0 : in64 0 := ⟨by decide, by decide⟩
/-! values -/
def rfv (ad : Nat → Nat) (r : Nat) : Value := match r with
  | 0 => .null
  | a + 1 => .ref (ad (a + 1))
def tv (E : EV) (ad : Nat → Nat) (v : MV) : Value := match v.1 with
  | 0 => .int (Int32.ofInt v.2)
  | 1 => .long (Int64.ofInt v.2)
  | 2 => rfv ad v.2.toNat
  | 3 => .ref (eK E v.2.toNat)
  | 5 => .ref (eV E v.2.toNat)
  | 6 => va_rf (eF E)
  | _ => .ref (eB E)
def nv (h : Mh) (v : MV) : Prop := match v.1 with
  | 0 => in32 v.2
  | 1 => in64 v.2
  | 2 => 0 ≤ v.2 ∧ v.2 < h.1.length
  | 3 => 0 ≤ v.2 ∧ v.2 < 12
  | 4 => True
  | 5 => 0 ≤ v.2 ∧ v.2 < 12
  | 6 => True
  | _ => False
def tf (ad : Nat → Nat) (k r : Nat) (v : Int) : Value := match k with
  | 0 => .int (Int32.ofInt v)
  | 1 => .long (Int64.ofInt v)
  | _ => rfv ad r
/-- the cell a -/
def ce (E : EV) (ad : Nat → Nat) (h : Mh) (a : Nat) : va_E := match h.1[a]? with
  | none => .inr (0, [])
  | some (0, n) => .inl (eI E, n, .inl (fun j => Int32.ofInt (h.2.2 a j)))
  | some (1, n) => .inl (eZ E, n, .inl (fun j => Int32.ofInt (h.2.2 a j)))
  | some (2, n) => .inl (eJ E, n, .inr (.inl (fun j => Int64.ofInt (h.2.2 a j))))
  | some (c + 3, _) => .inr (c, (List.range (fnum c)).map (fun k => tf ad (kd (ftyp c k)) (h.2.1 a k) (h.2.2 a k)))
def wl (E : EV) (ad : Nat → Nat) (h : Mh) : va_W := (List.range (h.1.length - 1)).map (fun i => (ad (i + 1), ce E ad h (i + 1)))
/-- the numbers are numbers of their kinds, references are places -/
def GI (E : EV) (h : Mh) : Prop := h.1[0]? = some (99, eL E) ∧ (∀ j : Nat, j < eL E → h.2.2 0 j = (eX E j).toInt) ∧ (∀ a k, h.2.1 a k < h.1.length) ∧ (∀ a j, in64 (h.2.2 a j)) ∧
  (∀ (a t n : Nat) (j : Int), h.1[a]? = some (t, n) → t < 2 → in32 (h.2.2 a j)) ∧ (∀ (a c n k : Nat), h.1[a]? = some (c + 3, n) → kd (ftyp c k) = 0 → in32 (h.2.2 a k)) ∧ ∀ (a t n : Nat), h.1[a]? = some (t, n) → n < 2147483648
def IV (E : EV) (s : State) (h : Mh) (H : Heap) (locs : List Loc) (ad : Nat → Nat) : Prop := va_P (eD E) vwCl (wl E ad h) H ∧ va_D (eA E) (wl E ad h) ∧ va_S (eA E) s.heap H locs ∧ GI E h
def sl (G : List (Nat × Nat)) : Nat := (G.map (fun q => q.2)).sum
def LV (E : EV) (ad : Nat → Nat) (lsr : Array Slot) (L : List MV) (h : Mh) (nL : Nat) : Prop := lv_wf lsr ∧ lsr.size = nL ∧ L.length = nL ∧ ∀ (k : Nat) (v : MV), L[k]? = some v → v.1 < 9 → nv h v ∧ lsr[k]? = some (.val (tv E ad v))
def CX (E : EV) (p : Program) (R : Room) (s : State) (m : MethodId) (args : Array Value) (meth : Method) (c : Code) (own nm : String) (cc : ByteArray) (nL d : Nat) : Prop :=
  p.tables.exec = Jvm.exec ∧ c.code = cc ∧ c.maxLocals = nL ∧ s.vm.findClass own = some m.cls ∧ (∀ w ∈ wAll, w.before args s = true) ∧ FX E s s.heap ∧ eO E ≤ s.heap.size ∧ d ≤ R.frames ∧ 60 * d ≤ R.locals ∧ meth.name = nm
theorem wl_at {E : EV} {ad : Nat → Nat} {h : Mh} {a : Nat} (h0 : a ≠ 0) (hl : a < h.1.length) : (wl E ad h)[a - 1]? = some (ad a, ce E ad h a) := by
  unfold wl
  rw [List.getElem?_map, List.getElem?_range (by omega)]
  show some (ad (a - 1 + 1), ce E ad h (a - 1 + 1)) = _
  rw [show a - 1 + 1 = a by omega]
/-- a cell of a kind but the script's -/
theorem gk_at {G : List (Nat × Nat)} {a k : Nat} (h : gk G a k) : ∃ n, G[a]? = some (k, n) := by
  unfold gk at h
  cases hq : G[a]? with
  | none => rw [hq] at h; cases h
  | some q =>
    rw [hq] at h
    obtain ⟨t, n⟩ := q
    cases h
    exact ⟨n, rfl⟩
theorem gk_lt {G : List (Nat × Nat)} {a k : Nat} (h : gk G a k) : a < G.length := by
  obtain ⟨n, hn⟩ := gk_at h
  exact (List.getElem?_eq_some_iff.mp hn).1
theorem gk_ne {E : EV} {h : Mh} (hG : GI E h) {a k : Nat} (hk : k ≠ 99) (q : gk h.1 a k) : a ≠ 0 := by
  rintro rfl
  obtain ⟨n, hn⟩ := gk_at q
  rw [hG.1] at hn
  cases hn
  exact hk rfl
theorem gl_of {G : List (Nat × Nat)} {a k n : Nat} (h : G[a]? = some (k, n)) : gl G a = n := by unfold gl; rw [h]; rfl
/-- one cell's contents change -/
theorem wl_set {E : EV} {ad : Nat → Nat} {h h' : Mh} {a : Nat} {e : va_E} (h0 : a ≠ 0) (hl : a < h.1.length) (hG : h'.1 = h.1) (he : ce E ad h' a = e) (ho : ∀ b, b ≠ a → ce E ad h' b = ce E ad h b) : (wl E ad h).set (a - 1) (ad a, e) = wl E ad h' := by
  apply List.ext_getElem?
  intro j
  rw [List.getElem?_set]
  have hlen : (wl E ad h).length = h.1.length - 1 := by simp [wl]
  by_cases hj : a - 1 = j
  · subst hj
    rw [if_pos rfl, if_pos (by rw [hlen]; omega), wl_at h0 (by rw [hG]; exact hl), he]
  · rw [if_neg hj]
    by_cases hj2 : j + 1 < h.1.length
    · have e1 := wl_at (E := E) (ad := ad) (h := h) (a := j + 1) (by omega) hj2
      have e2 := wl_at (E := E) (ad := ad) (h := h') (a := j + 1) (by omega) (by rw [hG]; exact hj2)
      rw [show j + 1 - 1 = j by omega] at e1 e2
      rw [e1, e2, ho (j + 1) (by omega)]
    · rw [List.getElem?_eq_none (by rw [hlen]; omega), List.getElem?_eq_none (by simp only [wl, List.length_map, List.length_range]; rw [hG]; omega)]
theorem ce_same {E : EV} {ad : Nat → Nat} {h h' : Mh} {b : Nat} (hG : h'.1 = h.1) (hr : ∀ k, h'.2.1 b k = h.2.1 b k) (hs : ∀ j, h'.2.2 b j = h.2.2 b j) : ce E ad h' b = ce E ad h b := by
  have e1 : h'.2.1 b = h.2.1 b := funext hr
  have e2 : h'.2.2 b = h.2.2 b := funext hs
  unfold ce
  rw [hG, e1, e2]
theorem tv_i (E : EV) (ad : Nat → Nat) (x : Int) : tv E ad (0, x) = .int (Int32.ofInt x) := rfl
theorem tv_l (E : EV) (ad : Nat → Nat) (x : Int) : tv E ad (1, x) = .long (Int64.ofInt x) := rfl
theorem tv_r {E : EV} {ad : Nat → Nat} {x : Int} (h : x.toNat ≠ 0) : tv E ad (2, x) = .ref (ad x.toNat) := by
  show rfv ad x.toNat = _
  cases hx : x.toNat with
  | zero => exact absurd hx h
  | succ n => rfl
theorem tv_cat1 {E : EV} {ad : Nat → Nat} {v : MV} (h : v.1 ≠ 1) : (tv E ad v).category = 1 := by
  obtain ⟨t, x⟩ := v
  unfold tv
  match t with
  | 0 => rfl
  | 1 => exact absurd rfl h
  | 2 => show (rfv ad x.toNat).category = 1; cases x.toNat <;> rfl
  | 3 => rfl
  | 4 => rfl
  | 5 => rfl
  | 6 => show (va_rf (eF E)).category = 1; cases eF E <;> rfl
  | n + 7 => rfl
theorem tv_cat2 {E : EV} {ad : Nat → Nat} (x : Int) : (tv E ad (1, x)).category = 2 := rfl
