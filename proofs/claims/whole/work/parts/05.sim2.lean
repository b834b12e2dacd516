/-! stores into locals -/
def lvl (E : EV) (ad : Nat → Nat) (L : List MV) : List (Nat × Value) := (List.range L.length).filterMap (fun k => (L[k]?).bind fun v => if v.1 < 9 then some (k, tv E ad v) else none)
theorem lvl_mem {E : EV} {ad : Nat → Nat} {L : List MV} {q : Nat × Value} : q ∈ lvl E ad L ↔ ∃ v, L[q.1]? = some v ∧ v.1 < 9 ∧ q.2 = tv E ad v := by
  unfold lvl
  rw [List.mem_filterMap]
  constructor
  · rintro ⟨k, -, hk⟩
    cases hv : L[k]? with
    | none => rw [hv] at hk; cases hk
    | some v =>
      rw [hv] at hk
      simp only [Option.bind_some] at hk
      split at hk
      · rename_i h9
        cases hk
        exact ⟨v, hv, h9, rfl⟩
      · cases hk
  · rintro ⟨v, hv, h9, e⟩
    refine ⟨q.1, List.mem_range.mpr (List.getElem?_eq_some_iff.mp hv).1, ?_⟩
    rw [hv]
    simp only [Option.bind_some, if_pos h9]
    rw [← e]
theorem LV.has {E : EV} {ad : Nat → Nat} {lsr : Array Slot} {L : List MV} {h : Mh} {nL : Nat} (hL : LV E ad lsr L h nL) : lv_has lsr nL (lvl E ad L) := by
  refine ⟨hL.2.1, hL.1, fun q hq => ?_⟩
  obtain ⟨v, h1, h2, h3⟩ := lvl_mem.mp hq
  rw [h3]
  exact (hL.2.2.2 q.1 v h1 h2).2
theorem npl_ne {L : List MV} {j : Nat} {v : MV} (hp : npl L (j + 1) = true) (hv : L[j]? = some v) : v.1 ≠ 1 := by
  intro h
  simp [npl, hv, h] at hp
theorem LV.st1 {E : EV} {ad : Nat → Nat} {lsr ls' : Array Slot} {L : List MV} {h : Mh} {nL k : Nat} {v0 : MV} (hL : LV E ad lsr L h nL) (hk : k < L.length) (hp : npl L k = true) (hv : nv h v0)
    (hh : lv_has ls' nL ((k, tv E ad v0) :: (lvl E ad L).filter (fun q => !(q.1 == k) && !(q.1 + 1 == k && q.2.category == 2)))) : LV E ad ls' (L.set k v0) h nL := by
  refine ⟨hh.2.1, hh.1, by rw [List.length_set]; exact hL.2.2.1, fun j v hj h9 => ?_⟩
  by_cases hjk : k = j
  · subst hjk
    rw [List.getElem?_set_self hk] at hj
    cases hj
    exact ⟨hv, hh.2.2 (k, tv E ad v0) List.mem_cons_self⟩
  · rw [List.getElem?_set_ne hjk] at hj
    refine ⟨(hL.2.2.2 j v hj h9).1, hh.2.2 (j, tv E ad v) (List.mem_cons_of_mem _ (List.mem_filter.mpr ⟨lvl_mem.mpr ⟨v, hj, h9, rfl⟩, ?_⟩))⟩
    have e1 : (j == k) = false := by simpa using fun e => hjk e.symm
    have e2 : ((j + 1 == k) && ((tv E ad v).category == 2)) = false := by
      by_cases hk1 : j + 1 = k
      · subst hk1
        rw [tv_cat1 (npl_ne hp hj)]
        simp
      · simp [hk1]
    simp only [e1, e2]
    rfl
theorem LV.st2 {E : EV} {ad : Nat → Nat} {lsr ls' : Array Slot} {L : List MV} {h : Mh} {nL k : Nat} {v0 : MV} (hL : LV E ad lsr L h nL) (hk : k + 1 < L.length) (hp : npl L k = true) (hv : nv h v0)
    (hh : lv_has ls' nL ((k, tv E ad v0) :: (lvl E ad L).filter (fun q => !(q.1 == k) && (!(q.1 == k + 1) && !(q.1 + 1 == k && q.2.category == 2))))) : LV E ad ls' ((L.set k v0).set (k + 1) (9, 0)) h nL := by
  refine ⟨hh.2.1, hh.1, by rw [List.length_set, List.length_set]; exact hL.2.2.1, fun j v hj h9 => ?_⟩
  by_cases hjk1 : k + 1 = j
  · subst hjk1
    rw [List.getElem?_set_self (by rw [List.length_set]; exact hk)] at hj
    cases hj
    exact absurd h9 (by decide)
  · rw [List.getElem?_set_ne hjk1] at hj
    by_cases hjk : k = j
    · subst hjk
      rw [List.getElem?_set_self (by omega)] at hj
      cases hj
      exact ⟨hv, hh.2.2 (k, tv E ad v0) List.mem_cons_self⟩
    · rw [List.getElem?_set_ne hjk] at hj
      refine ⟨(hL.2.2.2 j v hj h9).1, hh.2.2 (j, tv E ad v) (List.mem_cons_of_mem _ (List.mem_filter.mpr ⟨lvl_mem.mpr ⟨v, hj, h9, rfl⟩, ?_⟩))⟩
      have e1 : (j == k) = false := by simpa using fun e => hjk e.symm
      have e3 : (j == k + 1) = false := by simpa using fun e => hjk1 e.symm
      have e2 : ((j + 1 == k) && ((tv E ad v).category == 2)) = false := by
        by_cases hk1 : j + 1 = k
        · subst hk1
          rw [tv_cat1 (npl_ne hp hj)]
          simp
        · simp [hk1]
      simp only [e1, e2, e3]
      rfl
section SIM
variable {own nm : String} {cc : ByteArray} {nL : Nat} {P : List Nat} {i : Nat}
/-- an instruction that moves stack and locals -/
theorem sim_loc {f : SN}
    (hf : ∀ (E : EV) (p : Program) (l : Launch) (e : Env) (R : Room) (s : State) (m : MethodId) (args : Array Value) (below : List Frame) (meth : Method) (c : Code), p.tables.exec = Jvm.exec → c.code = cc →
      ∀ (L st : List MV) (h : Mh) (ps : List Prop) (i' : Nat) (L' st' : List MV) (h' : Mh), f i L st h = some (ps, i', L', st', h') → cj ps → ∀ (H : Heap) (locs : List Loc) (ad : Nat → Nat) (lsr : Array Slot), (∀ v ∈ st, nv h v) → LV E ad lsr L h nL →
      h' = h ∧ (∀ v ∈ st', nv h v) ∧ ∀ (cells slots : Nat) (Q : State → Prop), (∀ lsr' : Array Slot, LV E ad lsr' L' h nL → W p l e R s m args below meth c H locs cells slots Q (F0 m (pcat P i') lsr' (st'.map (tv E ad)))) → W p l e R s m args below meth c H locs cells slots Q (F0 m (pcat P i) lsr (st.map (tv E ad)))) : SimN own nm cc nL P 0 i f := by
  intro E p l e R s m args below meth c d C _ L st h ps i' L' st' h' e1 e2 H locs ad lsr g0 s0 Q hI hv hL hg hs
  obtain ⟨rfl, h3, h4⟩ := hf E p l e R s m args below meth c C.1 C.2.1 L st h ps i' L' st' h' e1 e2 H locs ad lsr hv hL
  exact ⟨⟨Nat.le_refl _, Nat.le_refl _⟩, fun _ _ k => h4 _ _ _ (fun lsr' hL' => k H locs ad lsr' hI h3 hL' (fun _ _ => rfl))⟩
theorem sim_istore_n {k : Nat} {kf : Fin 4} (hd : decode cc (pcat P i) = .ok (.istore_n kf, 1)) (hk : (kf : Nat) = k) (hn : pcat P (i + 1) = pcat P i + 1) : SimN own nm cc nL P 0 i (i_sti k) := by
  refine sim_loc ?_
  intro E p l e R s m args below meth c hx hb L st h ps i' L' st' h' e1 e2 H locs ad lsr hv hL
  match st, e1 with
  | (0, x) :: st, e1 =>
    simp only [i_sti] at e1
    split at e1
    · rename_i hp
      cases e1
      exact ⟨rfl, al_tl hv, fun cells slots Q kk => lv_istore_n hx hb hd hk hL.has (by rw [← hL.2.2.1]; exact e2.1) rfl (fun ls' hh => by have := kk ls' (hL.st1 e2.1 hp (al_hd hv) hh); rw [hn] at this; exact this)⟩
    · cases e1
theorem sim_istore {k : Nat} (hd : decode cc (pcat P i) = .ok (.istore k, 2)) (hn : pcat P (i + 1) = pcat P i + 2) : SimN own nm cc nL P 0 i (i_sti k) := by
  refine sim_loc ?_
  intro E p l e R s m args below meth c hx hb L st h ps i' L' st' h' e1 e2 H locs ad lsr hv hL
  match st, e1 with
  | (0, x) :: st, e1 =>
    simp only [i_sti] at e1
    split at e1
    · rename_i hp
      cases e1
      exact ⟨rfl, al_tl hv, fun cells slots Q kk => lv_istore hx hb hd hL.has (by rw [← hL.2.2.1]; exact e2.1) rfl (fun ls' hh => by have := kk ls' (hL.st1 e2.1 hp (al_hd hv) hh); rw [hn] at this; exact this)⟩
    · cases e1
theorem sim_lstore_n {k : Nat} {kf : Fin 4} (hd : decode cc (pcat P i) = .ok (.lstore_n kf, 1)) (hk : (kf : Nat) = k) (hn : pcat P (i + 1) = pcat P i + 1) : SimN own nm cc nL P 0 i (i_stl k) := by
  refine sim_loc ?_
  intro E p l e R s m args below meth c hx hb L st h ps i' L' st' h' e1 e2 H locs ad lsr hv hL
  match st, e1 with
  | (1, x) :: st, e1 =>
    simp only [i_stl] at e1
    split at e1
    · rename_i hp
      cases e1
      exact ⟨rfl, al_tl hv, fun cells slots Q kk => lv_lstore_n hx hb hd hk hL.has (by rw [← hL.2.2.1]; exact e2.1) rfl (fun ls' hh => by have := kk ls' (hL.st2 e2.1 hp (al_hd hv) hh); rw [hn] at this; exact this)⟩
    · cases e1
theorem sim_lstore {k : Nat} (hd : decode cc (pcat P i) = .ok (.lstore k, 2)) (hn : pcat P (i + 1) = pcat P i + 2) : SimN own nm cc nL P 0 i (i_stl k) := by
  refine sim_loc ?_
  intro E p l e R s m args below meth c hx hb L st h ps i' L' st' h' e1 e2 H locs ad lsr hv hL
  match st, e1 with
  | (1, x) :: st, e1 =>
    simp only [i_stl] at e1
    split at e1
    · rename_i hp
      cases e1
      exact ⟨rfl, al_tl hv, fun cells slots Q kk => lv_lstore hx hb hd hL.has (by rw [← hL.2.2.1]; exact e2.1) rfl (fun ls' hh => by have := kk ls' (hL.st2 e2.1 hp (al_hd hv) hh); rw [hn] at this; exact this)⟩
    · cases e1
theorem toNat_ne {x : Int} {n : Nat} (h1 : 0 ≤ x ∧ x < (n : Int)) (h : x ≠ 0) : x.toNat ≠ 0 := by omega
theorem sim_astore_n {k : Nat} {kf : Fin 4} (hd : decode cc (pcat P i) = .ok (.astore_n kf, 1)) (hk : (kf : Nat) = k) (hn : pcat P (i + 1) = pcat P i + 1) : SimN own nm cc nL P 0 i (i_sta k) := by
  refine sim_loc ?_
  intro E p l e R s m args below meth c hx hb L st h ps i' L' st' h' e1 e2 H locs ad lsr hv hL
  match st, e1 with
  | (2, x) :: st, e1 =>
    simp only [i_sta] at e1
    split at e1
    · rename_i hp
      cases e1
      have e3 : tv E ad (2, x) = .ref (ad x.toNat) := tv_r (toNat_ne (al_hd hv) e2.2.1)
      refine ⟨rfl, al_tl hv, fun cells slots Q kk => ?_⟩
      rw [List.map_cons, e3]
      exact lv_astore_n hx hb hd hk hL.has (by rw [← hL.2.2.1]; exact e2.1) rfl (fun ls' hh => by rw [← e3] at hh; have := kk ls' (hL.st1 e2.1 hp (al_hd hv) hh); rw [hn] at this; exact this)
    · cases e1
theorem lvl_at {E : EV} {ad : Nat → Nat} {L : List MV} {k : Nat} {v : MV} (hk : L[k]? = some v) (h9 : v.1 < 9) : ∃ q : Nat, (lvl E ad L)[q]? = some (k, tv E ad v) := List.getElem?_of_mem (lvl_mem.mpr ⟨v, hk, h9, rfl⟩)
theorem o32_add (x y : Int) : Int32.ofInt x + Int32.ofInt y = Int32.ofInt (w32 (x + y)) := by rw [o32w, Int32.ofInt_add]
theorem o32_sub (x y : Int) : Int32.ofInt x - Int32.ofInt y = Int32.ofInt (w32 (x - y)) := by rw [o32w, Int32.ofInt_sub]
theorem o32_mul (x y : Int) : Int32.ofInt x * Int32.ofInt y = Int32.ofInt (w32 (x * y)) := by rw [o32w, Int32.ofInt_mul]
theorem o32_neg (x : Int) : -Int32.ofInt x = Int32.ofInt (w32 (-x)) := by rw [o32w, Int32.ofInt_neg]
theorem o64_add (x y : Int) : Int64.ofInt x + Int64.ofInt y = Int64.ofInt (w64 (x + y)) := by rw [o64w, Int64.ofInt_add]
theorem o64_sub (x y : Int) : Int64.ofInt x - Int64.ofInt y = Int64.ofInt (w64 (x - y)) := by rw [o64w, Int64.ofInt_sub]
theorem o64_mul (x y : Int) : Int64.ofInt x * Int64.ofInt y = Int64.ofInt (w64 (x * y)) := by rw [o64w, Int64.ofInt_mul]
theorem sim_iinc {k : Nat} {n z : Int} (hd : decode cc (pcat P i) = .ok (.iinc k n, 3)) (hz : Int32.ofInt n = Int32.ofInt z) (hn : pcat P (i + 1) = pcat P i + 3) : SimN own nm cc nL P 0 i (i_iinc k z) := by
  refine sim_loc ?_
  intro E p l e R s m args below meth c hx hb L st h ps i' L' st' h' e1 e2 H locs ad lsr hv hL
  simp only [i_iinc] at e1
  split at e1
  · rename_i x hk
    split at e1
    · rename_i hp
      cases e1
      obtain ⟨q, hq⟩ := lvl_at (E := E) (ad := ad) hk (show (0 : Nat) < 9 by decide)
      have hkl := (List.getElem?_eq_some_iff.mp hk).1
      exact ⟨rfl, hv, fun cells slots Q kk => lv_iinc hx hb hd hL.has hq (v := Int32.ofInt (w32 (x + z))) (by rw [hz, o32_add]) (by rw [← hL.2.2.1]; exact hkl) rfl (fun ls' hh => by have := kk ls' (hL.st1 (v0 := (0, w32 (x + z))) hkl hp (w32_in _) hh); rw [hn] at this; exact this)⟩
    · cases e1
  · cases e1
/-! arithmetic -/
def g_add (x y : Int) : Int := w32 (x + y)
def g_sub (x y : Int) : Int := w32 (x - y)
def g_mul (x y : Int) : Int := w32 (x * y)
def g_neg (x : Int) : Int := w32 (-x)
def g_and (x y : Int) : Int := (Int32.ofInt x &&& Int32.ofInt y).toInt
def g_or (x y : Int) : Int := (Int32.ofInt x ||| Int32.ofInt y).toInt
def g_xor (x y : Int) : Int := (Int32.ofInt x ^^^ Int32.ofInt y).toInt
def g_shl (x y : Int) : Int := (Int32.ofInt x <<< (Int32.ofInt y &&& 31)).toInt
def g_shr (x y : Int) : Int := (Int32.ofInt x >>> (Int32.ofInt y &&& 31)).toInt
def g_ushr (x y : Int) : Int := ((Int32.ofInt x).toUInt32 >>> ((Int32.ofInt y).toUInt32 &&& Int32.toUInt32 31)).toInt32.toInt
def g_div (x y : Int) : Int := w32 (x.tdiv y)
def g_rem (x y : Int) : Int := x.tmod y
def g_b (x : Int) : Int := (Int32.ofInt x).toInt8.toInt32.toInt
def g_s (x : Int) : Int := (Int32.ofInt x).toInt16.toInt32.toInt
def k_add (x y : Int) : Int := w64 (x + y)
def k_sub (x y : Int) : Int := w64 (x - y)
def k_mul (x y : Int) : Int := w64 (x * y)
def k_and (x y : Int) : Int := (Int64.ofInt x &&& Int64.ofInt y).toInt
def k_or (x y : Int) : Int := (Int64.ofInt x ||| Int64.ofInt y).toInt
def k_div (x y : Int) : Int := w64 (x.tdiv y)
def k_rem (x y : Int) : Int := x.tmod y
def k_shl (x y : Int) : Int := (Int64.ofInt x <<< ((Int32.ofInt y).toInt64 &&& 63)).toInt
def k_shr (x y : Int) : Int := (Int64.ofInt x >>> ((Int32.ofInt y).toInt64 &&& 63)).toInt
def k_ushr (x y : Int) : Int := ((Int64.ofInt x).toUInt64 >>> ((Int32.ofInt y).toInt64.toUInt64 &&& Int64.toUInt64 63)).toInt64.toInt
theorem sim_ii {g : Int → Int → Int} (hw : ∀ x y : Int, in32 x → in32 y → in32 (g x y) ∧ ∀ {p : Program} {l : Launch} {e : Env} {R : Room} {s : State} {m : MethodId} {args : Array Value} {below : List Frame} {meth : Method} {c : Code} {H : Heap} {locs : List Loc} {cells slots : Nat} {Q : State → Prop} {lsr : Array Slot} {rest : List Value}, p.tables.exec = Jvm.exec → c.code = cc →
      W p l e R s m args below meth c H locs cells slots Q (F0 m (pcat P (i + 1)) lsr (.int (Int32.ofInt (g x y)) :: rest)) → W p l e R s m args below meth c H locs cells slots Q (F0 m (pcat P i) lsr (.int (Int32.ofInt y) :: .int (Int32.ofInt x) :: rest))) : SimN own nm cc nL P 0 i (i_ii g) := by
  refine sim_pure ?_
  intro E ad L st h ps i' L' st' h' e1 _ hv
  match st, e1 with
  | (0, y) :: (0, x) :: st, e1 =>
    cases e1
    obtain ⟨h1, h2⟩ := hw x y (al_hd (al_tl hv)) (al_hd hv)
    exact ⟨rfl, rfl, al_cons h1 (al_tl (al_tl hv)), fun hx hb k => h2 hx hb k⟩
theorem sim_iin {g : Int → Int → Int} (hw : ∀ x y : Int, in32 x → in32 y → y ≠ 0 → in32 (g x y) ∧ ∀ {p : Program} {l : Launch} {e : Env} {R : Room} {s : State} {m : MethodId} {args : Array Value} {below : List Frame} {meth : Method} {c : Code} {H : Heap} {locs : List Loc} {cells slots : Nat} {Q : State → Prop} {lsr : Array Slot} {rest : List Value}, p.tables.exec = Jvm.exec → c.code = cc →
      W p l e R s m args below meth c H locs cells slots Q (F0 m (pcat P (i + 1)) lsr (.int (Int32.ofInt (g x y)) :: rest)) → W p l e R s m args below meth c H locs cells slots Q (F0 m (pcat P i) lsr (.int (Int32.ofInt y) :: .int (Int32.ofInt x) :: rest))) : SimN own nm cc nL P 0 i (i_iin g) := by
  refine sim_pure ?_
  intro E ad L st h ps i' L' st' h' e1 e2 hv
  match st, e1 with
  | (0, y) :: (0, x) :: st, e1 =>
    cases e1
    obtain ⟨h1, h2⟩ := hw x y (al_hd (al_tl hv)) (al_hd hv) e2.1
    exact ⟨rfl, rfl, al_cons h1 (al_tl (al_tl hv)), fun hx hb k => h2 hx hb k⟩
theorem sim_ll {g : Int → Int → Int} (hw : ∀ x y : Int, in64 x → in64 y → in64 (g x y) ∧ ∀ {p : Program} {l : Launch} {e : Env} {R : Room} {s : State} {m : MethodId} {args : Array Value} {below : List Frame} {meth : Method} {c : Code} {H : Heap} {locs : List Loc} {cells slots : Nat} {Q : State → Prop} {lsr : Array Slot} {rest : List Value}, p.tables.exec = Jvm.exec → c.code = cc →
      W p l e R s m args below meth c H locs cells slots Q (F0 m (pcat P (i + 1)) lsr (.long (Int64.ofInt (g x y)) :: rest)) → W p l e R s m args below meth c H locs cells slots Q (F0 m (pcat P i) lsr (.long (Int64.ofInt y) :: .long (Int64.ofInt x) :: rest))) : SimN own nm cc nL P 0 i (i_ll g) := by
  refine sim_pure ?_
  intro E ad L st h ps i' L' st' h' e1 _ hv
  match st, e1 with
  | (1, y) :: (1, x) :: st, e1 =>
    cases e1
    obtain ⟨h1, h2⟩ := hw x y (al_hd (al_tl hv)) (al_hd hv)
    exact ⟨rfl, rfl, al_cons h1 (al_tl (al_tl hv)), fun hx hb k => h2 hx hb k⟩
theorem sim_lln {g : Int → Int → Int} (hw : ∀ x y : Int, in64 x → in64 y → y ≠ 0 → in64 (g x y) ∧ ∀ {p : Program} {l : Launch} {e : Env} {R : Room} {s : State} {m : MethodId} {args : Array Value} {below : List Frame} {meth : Method} {c : Code} {H : Heap} {locs : List Loc} {cells slots : Nat} {Q : State → Prop} {lsr : Array Slot} {rest : List Value}, p.tables.exec = Jvm.exec → c.code = cc →
      W p l e R s m args below meth c H locs cells slots Q (F0 m (pcat P (i + 1)) lsr (.long (Int64.ofInt (g x y)) :: rest)) → W p l e R s m args below meth c H locs cells slots Q (F0 m (pcat P i) lsr (.long (Int64.ofInt y) :: .long (Int64.ofInt x) :: rest))) : SimN own nm cc nL P 0 i (i_lln g) := by
  refine sim_pure ?_
  intro E ad L st h ps i' L' st' h' e1 e2 hv
  match st, e1 with
  | (1, y) :: (1, x) :: st, e1 =>
    cases e1
    obtain ⟨h1, h2⟩ := hw x y (al_hd (al_tl hv)) (al_hd hv) e2.1
    exact ⟨rfl, rfl, al_cons h1 (al_tl (al_tl hv)), fun hx hb k => h2 hx hb k⟩
theorem sim_li {g : Int → Int → Int} (hw : ∀ x y : Int, in64 x → in32 y → in64 (g x y) ∧ ∀ {p : Program} {l : Launch} {e : Env} {R : Room} {s : State} {m : MethodId} {args : Array Value} {below : List Frame} {meth : Method} {c : Code} {H : Heap} {locs : List Loc} {cells slots : Nat} {Q : State → Prop} {lsr : Array Slot} {rest : List Value}, p.tables.exec = Jvm.exec → c.code = cc →
      W p l e R s m args below meth c H locs cells slots Q (F0 m (pcat P (i + 1)) lsr (.long (Int64.ofInt (g x y)) :: rest)) → W p l e R s m args below meth c H locs cells slots Q (F0 m (pcat P i) lsr (.int (Int32.ofInt y) :: .long (Int64.ofInt x) :: rest))) : SimN own nm cc nL P 0 i (i_li g) := by
  refine sim_pure ?_
  intro E ad L st h ps i' L' st' h' e1 _ hv
  match st, e1 with
  | (0, y) :: (1, x) :: st, e1 =>
    cases e1
    obtain ⟨h1, h2⟩ := hw x y (al_hd (al_tl hv)) (al_hd hv)
    exact ⟨rfl, rfl, al_cons h1 (al_tl (al_tl hv)), fun hx hb k => h2 hx hb k⟩
theorem sim_i1 {g : Int → Int} (hw : ∀ x : Int, in32 x → in32 (g x) ∧ ∀ {p : Program} {l : Launch} {e : Env} {R : Room} {s : State} {m : MethodId} {args : Array Value} {below : List Frame} {meth : Method} {c : Code} {H : Heap} {locs : List Loc} {cells slots : Nat} {Q : State → Prop} {lsr : Array Slot} {rest : List Value}, p.tables.exec = Jvm.exec → c.code = cc →
      W p l e R s m args below meth c H locs cells slots Q (F0 m (pcat P (i + 1)) lsr (.int (Int32.ofInt (g x)) :: rest)) → W p l e R s m args below meth c H locs cells slots Q (F0 m (pcat P i) lsr (.int (Int32.ofInt x) :: rest))) : SimN own nm cc nL P 0 i (i_i1 g) := by
  refine sim_pure ?_
  intro E ad L st h ps i' L' st' h' e1 _ hv
  match st, e1 with
  | (0, x) :: st, e1 =>
    cases e1
    obtain ⟨h1, h2⟩ := hw x (al_hd hv)
    exact ⟨rfl, rfl, al_cons h1 (al_tl hv), fun hx hb k => h2 hx hb k⟩
variable (hn : pcat P (i + 1) = pcat P i + 1)
theorem sim_iadd (hd : decode cc (pcat P i) = .ok (.iadd, 1)) (hn : pcat P (i + 1) = pcat P i + 1) : SimN own nm cc nL P 0 i (i_ii g_add) :=
  sim_ii fun x y _ _ => ⟨w32_in _, fun hx hb k => lv_iadd hx hb hd (by rw [hn] at k; rw [o32_add]; exact k)⟩
theorem sim_isub (hd : decode cc (pcat P i) = .ok (.isub, 1)) (hn : pcat P (i + 1) = pcat P i + 1) : SimN own nm cc nL P 0 i (i_ii g_sub) :=
  sim_ii fun x y _ _ => ⟨w32_in _, fun hx hb k => lv_isub hx hb hd (by rw [hn] at k; rw [o32_sub]; exact k)⟩
theorem sim_imul (hd : decode cc (pcat P i) = .ok (.imul, 1)) (hn : pcat P (i + 1) = pcat P i + 1) : SimN own nm cc nL P 0 i (i_ii g_mul) :=
  sim_ii fun x y _ _ => ⟨w32_in _, fun hx hb k => lv_imul hx hb hd (by rw [hn] at k; rw [o32_mul]; exact k)⟩
theorem sim_ineg (hd : decode cc (pcat P i) = .ok (.ineg, 1)) (hn : pcat P (i + 1) = pcat P i + 1) : SimN own nm cc nL P 0 i (i_i1 g_neg) :=
  sim_i1 fun x _ => ⟨w32_in _, fun hx hb k => lv_ineg hx hb hd (by rw [hn] at k; rw [o32_neg]; exact k)⟩
theorem sim_iand (hd : decode cc (pcat P i) = .ok (.iand, 1)) (hn : pcat P (i + 1) = pcat P i + 1) : SimN own nm cc nL P 0 i (i_ii g_and) :=
  sim_ii fun x y _ _ => ⟨t32_in _, fun hx hb k => lv_iand hx hb hd (by rw [hn] at k; rw [g_and, t32] at k; exact k)⟩
theorem sim_ior (hd : decode cc (pcat P i) = .ok (.ior, 1)) (hn : pcat P (i + 1) = pcat P i + 1) : SimN own nm cc nL P 0 i (i_ii g_or) :=
  sim_ii fun x y _ _ => ⟨t32_in _, fun hx hb k => lv_ior hx hb hd (by rw [hn] at k; rw [g_or, t32] at k; exact k)⟩
theorem sim_ixor (hd : decode cc (pcat P i) = .ok (.ixor, 1)) (hn : pcat P (i + 1) = pcat P i + 1) : SimN own nm cc nL P 0 i (i_ii g_xor) :=
  sim_ii fun x y _ _ => ⟨t32_in _, fun hx hb k => lv_ixor hx hb hd (by rw [hn] at k; rw [g_xor, t32] at k; exact k)⟩
theorem sim_ishl (hd : decode cc (pcat P i) = .ok (.ishl, 1)) (hn : pcat P (i + 1) = pcat P i + 1) : SimN own nm cc nL P 0 i (i_ii g_shl) :=
  sim_ii fun x y _ _ => ⟨t32_in _, fun hx hb k => lv_ishl hx hb hd (by rw [hn] at k; rw [g_shl, t32] at k; exact k)⟩
theorem sim_ishr (hd : decode cc (pcat P i) = .ok (.ishr, 1)) (hn : pcat P (i + 1) = pcat P i + 1) : SimN own nm cc nL P 0 i (i_ii g_shr) :=
  sim_ii fun x y _ _ => ⟨t32_in _, fun hx hb k => lv_ishr hx hb hd (by rw [hn] at k; rw [g_shr, t32] at k; exact k)⟩
theorem sim_iushr (hd : decode cc (pcat P i) = .ok (.iushr, 1)) (hn : pcat P (i + 1) = pcat P i + 1) : SimN own nm cc nL P 0 i (i_ii g_ushr) :=
  sim_ii fun x y _ _ => ⟨t32_in _, fun hx hb k => lv_iushr hx hb hd rfl (by rw [hn] at k; rw [g_ushr, t32] at k; exact k)⟩
theorem o32_ne {y : Int} (h : in32 y) (h0 : y ≠ 0) : Int32.ofInt y ≠ 0 := fun q => h0 ((i32_eq h in32_0).mp q)
theorem o64_ne {y : Int} (h : in64 y) (h0 : y ≠ 0) : Int64.ofInt y ≠ 0 := fun q => h0 ((i64_eq h in64_0).mp q)
theorem o32_div {x y : Int} (hx : in32 x) (hy : in32 y) : Int32.ofInt x / Int32.ofInt y = Int32.ofInt (g_div x y) := by
  apply Int32.toInt_inj.mp
  rw [Int32.toInt_div, o32i hx, o32i hy, g_div, o32, w32_id (w32_in _)]
  unfold w32
  simp only [Int.bmod, Int32.size]
  omega
theorem o32_rem {x y : Int} (hx : in32 x) (hy : in32 y) : Int32.ofInt x - (Int32.ofInt x / Int32.ofInt y) * Int32.ofInt y = Int32.ofInt (g_rem x y) ∧ in32 (g_rem x y) := by
  have h : (Int32.ofInt x - (Int32.ofInt x / Int32.ofInt y) * Int32.ofInt y).toInt = x.tmod y := by rw [rem_toInt, o32i hx, o32i hy]
  have h2 : in32 (g_rem x y) := by rw [g_rem, ← h]; exact t32_in _
  exact ⟨Int32.toInt_inj.mp (by rw [h, o32i h2, g_rem]), h2⟩
theorem sim_idiv (hd : decode cc (pcat P i) = .ok (.idiv, 1)) (hn : pcat P (i + 1) = pcat P i + 1) : SimN own nm cc nL P 0 i (i_iin g_div) :=
  sim_iin fun x y hx0 hy0 h0 => ⟨w32_in _, fun hx hb k => lv_idiv hx hb hd (o32_ne hy0 h0) (by rw [hn] at k; rw [o32_div hx0 hy0]; exact k)⟩
theorem sim_irem (hd : decode cc (pcat P i) = .ok (.irem, 1)) (hn : pcat P (i + 1) = pcat P i + 1) : SimN own nm cc nL P 0 i (i_iin g_rem) :=
  sim_iin fun x y hx0 hy0 h0 => ⟨(o32_rem hx0 hy0).2, fun hx hb k => lv_irem hx hb hd (o32_ne hy0 h0) (by rw [hn] at k; rw [(o32_rem hx0 hy0).1]; exact k)⟩
theorem sim_i2b (hd : decode cc (pcat P i) = .ok (.i2b, 1)) (hn : pcat P (i + 1) = pcat P i + 1) : SimN own nm cc nL P 0 i (i_i1 g_b) :=
  sim_i1 fun x _ => ⟨t32_in _, fun hx hb k => lv_i2b hx hb hd rfl (by rw [hn] at k; rw [g_b, t32] at k; exact k)⟩
theorem sim_i2s (hd : decode cc (pcat P i) = .ok (.i2s, 1)) (hn : pcat P (i + 1) = pcat P i + 1) : SimN own nm cc nL P 0 i (i_i1 g_s) :=
  sim_i1 fun x _ => ⟨t32_in _, fun hx hb k => lv_i2s hx hb hd rfl (by rw [hn] at k; rw [g_s, t32] at k; exact k)⟩
theorem sim_ladd (hd : decode cc (pcat P i) = .ok (.ladd, 1)) (hn : pcat P (i + 1) = pcat P i + 1) : SimN own nm cc nL P 0 i (i_ll k_add) :=
  sim_ll fun x y _ _ => ⟨w64_in _, fun hx hb k => lv_ladd hx hb hd (by rw [hn] at k; rw [o64_add]; exact k)⟩
theorem sim_lsub (hd : decode cc (pcat P i) = .ok (.lsub, 1)) (hn : pcat P (i + 1) = pcat P i + 1) : SimN own nm cc nL P 0 i (i_ll k_sub) :=
  sim_ll fun x y _ _ => ⟨w64_in _, fun hx hb k => lv_lsub hx hb hd (by rw [hn] at k; rw [o64_sub]; exact k)⟩
theorem sim_lmul (hd : decode cc (pcat P i) = .ok (.lmul, 1)) (hn : pcat P (i + 1) = pcat P i + 1) : SimN own nm cc nL P 0 i (i_ll k_mul) :=
  sim_ll fun x y _ _ => ⟨w64_in _, fun hx hb k => lv_lmul hx hb hd (by rw [hn] at k; rw [o64_mul]; exact k)⟩
theorem sim_land (hd : decode cc (pcat P i) = .ok (.land, 1)) (hn : pcat P (i + 1) = pcat P i + 1) : SimN own nm cc nL P 0 i (i_ll k_and) :=
  sim_ll fun x y _ _ => ⟨t64_in _, fun hx hb k => lv_land hx hb hd (by rw [hn] at k; rw [k_and, t64] at k; exact k)⟩
theorem sim_lor (hd : decode cc (pcat P i) = .ok (.lor, 1)) (hn : pcat P (i + 1) = pcat P i + 1) : SimN own nm cc nL P 0 i (i_ll k_or) :=
  sim_ll fun x y _ _ => ⟨t64_in _, fun hx hb k => lv_lor hx hb hd (by rw [hn] at k; rw [k_or, t64] at k; exact k)⟩
theorem sim_lshl (hd : decode cc (pcat P i) = .ok (.lshl, 1)) (hn : pcat P (i + 1) = pcat P i + 1) : SimN own nm cc nL P 0 i (i_li k_shl) :=
  sim_li fun x y _ _ => ⟨t64_in _, fun hx hb k => lv_lshl hx hb hd rfl (by rw [hn] at k; rw [k_shl, t64] at k; exact k)⟩
theorem sim_lshr (hd : decode cc (pcat P i) = .ok (.lshr, 1)) (hn : pcat P (i + 1) = pcat P i + 1) : SimN own nm cc nL P 0 i (i_li k_shr) :=
  sim_li fun x y _ _ => ⟨t64_in _, fun hx hb k => lv_lshr hx hb hd rfl (by rw [hn] at k; rw [k_shr, t64] at k; exact k)⟩
theorem sim_lushr (hd : decode cc (pcat P i) = .ok (.lushr, 1)) (hn : pcat P (i + 1) = pcat P i + 1) : SimN own nm cc nL P 0 i (i_li k_ushr) :=
  sim_li fun x y _ _ => ⟨t64_in _, fun hx hb k => lv_lushr hx hb hd rfl (by rw [hn] at k; rw [k_ushr, t64] at k; exact k)⟩
end SIM
