/-! ONE INSTRUCTION OF THE LITTLE MACHINE IS ONE OF THE BIG ONE -/
def pcat (P : List Nat) (i : Nat) : Nat := P.getD i 0
def SimN (own nm : String) (cc : ByteArray) (nL : Nat) (P : List Nat) (dk i : Nat) (f : SN) : Prop :=
  ∀ (E : EV) (p : Program) (l : Launch) (e : Env) (R : Room) (s : State) (m : MethodId) (args : Array Value) (below : List Frame) (meth : Method) (c : Code) (d : Nat), CX E p R s m args meth c own nm cc nL d → dk ≤ d →
  ∀ (L st : List MV) (h : Mh) (ps : List Prop) (i' : Nat) (L' st' : List MV) (h' : Mh), f i L st h = some (ps, i', L', st', h') → cj ps →
  ∀ (H : Heap) (locs : List Loc) (ad : Nat → Nat) (lsr : Array Slot) (g0 s0 : Nat) (Q : State → Prop), IV E s h H locs ad → (∀ v ∈ st, nv h v) → LV E ad lsr L h nL → g0 ≤ h.1.length → s0 ≤ sl h.1 →
  (h.1.length ≤ h'.1.length ∧ sl h.1 ≤ sl h'.1) ∧ (h'.1.length - g0 ≤ R.cells → sl h'.1 - s0 ≤ R.slots →
    (∀ (H' : Heap) (locs' : List Loc) (ad' : Nat → Nat) (lsr' : Array Slot), IV E s h' H' locs' ad' → (∀ v ∈ st', nv h' v) → LV E ad' lsr' L' h' nL → (∀ a, a < h.1.length → ad' a = ad a) →
      W p l e R s m args below meth c H' locs' (h'.1.length - g0) (sl h'.1 - s0) Q (F0 m (pcat P i') lsr' (st'.map (tv E ad')))) →
    W p l e R s m args below meth c H locs (h.1.length - g0) (sl h.1 - s0) Q (F0 m (pcat P i) lsr (st.map (tv E ad))))
/-- an instruction that moves the stack alone -/
theorem sim_stk {own nm : String} {cc : ByteArray} {nL : Nat} {P : List Nat} {i : Nat} {f : SN}
    (hf : ∀ (E : EV) (p : Program) (l : Launch) (e : Env) (R : Room) (s : State) (m : MethodId) (args : Array Value) (below : List Frame) (meth : Method) (c : Code) (d : Nat), CX E p R s m args meth c own nm cc nL d →
      ∀ (L st : List MV) (h : Mh) (ps : List Prop) (i' : Nat) (L' st' : List MV) (h' : Mh), f i L st h = some (ps, i', L', st', h') → cj ps → ∀ (H : Heap) (locs : List Loc) (ad : Nat → Nat) (lsr : Array Slot), IV E s h H locs ad → (∀ v ∈ st, nv h v) → LV E ad lsr L h nL →
      L' = L ∧ h' = h ∧ (∀ v ∈ st', nv h v) ∧ ∀ (cells slots : Nat) (Q : State → Prop), W p l e R s m args below meth c H locs cells slots Q (F0 m (pcat P i') lsr (st'.map (tv E ad))) → W p l e R s m args below meth c H locs cells slots Q (F0 m (pcat P i) lsr (st.map (tv E ad)))) : SimN own nm cc nL P 0 i f := by
  intro E p l e R s m args below meth c d C _ L st h ps i' L' st' h' e1 e2 H locs ad lsr g0 s0 Q hI hv hL hg hs
  obtain ⟨rfl, rfl, h3, h4⟩ := hf E p l e R s m args below meth c d C L st h ps i' L' st' h' e1 e2 H locs ad lsr hI hv hL
  exact ⟨⟨Nat.le_refl _, Nat.le_refl _⟩, fun _ _ k => h4 _ _ _ (k H locs ad lsr hI h3 hL (fun _ _ => rfl))⟩
/-- the same, with nothing but the machine and the code -/
theorem sim_pure {own nm : String} {cc : ByteArray} {nL : Nat} {P : List Nat} {i : Nat} {f : SN}
    (hf : ∀ (E : EV) (ad : Nat → Nat) (L st : List MV) (h : Mh) (ps : List Prop) (i' : Nat) (L' st' : List MV) (h' : Mh), f i L st h = some (ps, i', L', st', h') → cj ps → (∀ v ∈ st, nv h v) → L' = L ∧ h' = h ∧ (∀ v ∈ st', nv h v) ∧
      ∀ {p : Program} {l : Launch} {e : Env} {R : Room} {s : State} {m : MethodId} {args : Array Value} {below : List Frame} {meth : Method} {c : Code} {H : Heap} {locs : List Loc} {cells slots : Nat} {Q : State → Prop} {lsr : Array Slot}, p.tables.exec = Jvm.exec → c.code = cc → W p l e R s m args below meth c H locs cells slots Q (F0 m (pcat P i') lsr (st'.map (tv E ad))) → W p l e R s m args below meth c H locs cells slots Q (F0 m (pcat P i) lsr (st.map (tv E ad)))) : SimN own nm cc nL P 0 i f := by
  refine sim_stk ?_
  intro E p l e R s m args below meth c d C L st h ps i' L' st' h' e1 e2 H locs ad lsr hI hv hL
  obtain ⟨r1, r2, r3, r4⟩ := hf E ad L st h ps i' L' st' h' e1 e2 hv
  exact ⟨r1, r2, r3, fun cells slots Q k => r4 C.1 C.2.1 k⟩
theorem al_nil {h : Mh} : ∀ v ∈ ([] : List MV), nv h v := fun _ h => by cases h
theorem al_cons {h : Mh} {v : MV} {st : List MV} (h1 : nv h v) (h2 : ∀ v ∈ st, nv h v) : ∀ w ∈ v :: st, nv h w := fun w hw => by
  rcases List.mem_cons.mp hw with rfl | hw
  · exact h1
  · exact h2 w hw
theorem al_hd {h : Mh} {v : MV} {st : List MV} (h1 : ∀ w ∈ v :: st, nv h w) : nv h v := h1 v List.mem_cons_self
theorem al_tl {h : Mh} {v : MV} {st : List MV} (h1 : ∀ w ∈ v :: st, nv h w) : ∀ w ∈ st, nv h w := fun w hw => h1 w (List.mem_cons_of_mem _ hw)
section SIM
variable {own nm : String} {cc : ByteArray} {nL : Nat} {P : List Nat} {i : Nat}
theorem sim_iconst {n v : Int} (hd : decode cc (pcat P i) = .ok (.iconst n, 1)) (hv : Int32.ofInt n = Int32.ofInt v) (hr : in32 v) (hn : pcat P (i + 1) = pcat P i + 1) : SimN own nm cc nL P 0 i (i_push (0, v)) := by
  refine sim_pure ?_
  intro E ad L st h ps i' L' st' h' e1 _ hv2
  cases e1
  exact ⟨rfl, rfl, al_cons hr hv2, fun hx hb k => lv_iconst hx hb hd hv (by rw [hn] at k; exact k)⟩
theorem sim_bipush {n v : Int} (hd : decode cc (pcat P i) = .ok (.bipush n, 2)) (hv : (Int8.ofInt n).toInt32 = Int32.ofInt v) (hr : in32 v) (hn : pcat P (i + 1) = pcat P i + 2) : SimN own nm cc nL P 0 i (i_push (0, v)) := by
  refine sim_pure ?_
  intro E ad L st h ps i' L' st' h' e1 _ hv2
  cases e1
  exact ⟨rfl, rfl, al_cons hr hv2, fun hx hb k => lv_bipush hx hb hd hv (by rw [hn] at k; exact k)⟩
theorem sim_sipush {n v : Int} (hd : decode cc (pcat P i) = .ok (.sipush n, 3)) (hv : (Int16.ofInt n).toInt32 = Int32.ofInt v) (hr : in32 v) (hn : pcat P (i + 1) = pcat P i + 3) : SimN own nm cc nL P 0 i (i_push (0, v)) := by
  refine sim_pure ?_
  intro E ad L st h ps i' L' st' h' e1 _ hv2
  cases e1
  exact ⟨rfl, rfl, al_cons hr hv2, fun hx hb k => lv_sipush hx hb hd hv (by rw [hn] at k; exact k)⟩
theorem sim_lconst {n : Fin 2} {v : Int} (hd : decode cc (pcat P i) = .ok (.lconst n, 1)) (hv : Int64.ofNat (n : Nat) = Int64.ofInt v) (hr : in64 v) (hn : pcat P (i + 1) = pcat P i + 1) : SimN own nm cc nL P 0 i (i_push (1, v)) := by
  refine sim_pure ?_
  intro E ad L st h ps i' L' st' h' e1 _ hv2
  cases e1
  exact ⟨rfl, rfl, al_cons hr hv2, fun hx hb k => lv_lconst hx hb hd hv (by rw [hn] at k; exact k)⟩
theorem sim_ldc {x : Nat} {v : Int} {z : Int32} (hd : decode cc (pcat P i) = .ok (.ldc x, 2)) (hw : Cond.constant own x z ∈ wAll) (hv : z = Int32.ofInt v) (hr : in32 v) (hn : pcat P (i + 1) = pcat P i + 2) : SimN own nm cc nL P 0 i (i_push (0, v)) := by
  subst hv
  refine sim_stk ?_
  intro E p l e R s m args below meth c d C L st h ps i' L' st' h' e1 _ H locs ad lsr hI hv2 hL
  cases e1
  obtain ⟨hx, hb, hml, hown, hts, -⟩ := C
  exact ⟨rfl, rfl, al_cons hr hv2, fun cells slots Q k => lv_ldc hx hb hown (hts _ hw) hd (by rw [hn] at k; exact k)⟩
theorem sim_ldcw {x : Nat} {v : Int} {z : Int32} (hd : decode cc (pcat P i) = .ok (.ldc_w x, 3)) (hw : Cond.constant own x z ∈ wAll) (hv : z = Int32.ofInt v) (hr : in32 v) (hn : pcat P (i + 1) = pcat P i + 3) : SimN own nm cc nL P 0 i (i_push (0, v)) := by
  subst hv
  refine sim_stk ?_
  intro E p l e R s m args below meth c d C L st h ps i' L' st' h' e1 _ H locs ad lsr hI hv2 hL
  cases e1
  obtain ⟨hx, hb, hml, hown, hts, -⟩ := C
  exact ⟨rfl, rfl, al_cons hr hv2, fun cells slots Q k => lv_ldcw hx hb hown (hts _ hw) hd (by rw [hn] at k; exact k)⟩
theorem sim_ldc2 {x : Nat} {v : Int} {z : Int64} (hd : decode cc (pcat P i) = .ok (.ldc2_w x, 3)) (hw : Cond.constantLong own x z ∈ wAll) (hv : z = Int64.ofInt v) (hr : in64 v) (hn : pcat P (i + 1) = pcat P i + 3) : SimN own nm cc nL P 0 i (i_push (1, v)) := by
  subst hv
  refine sim_stk ?_
  intro E p l e R s m args below meth c d C L st h ps i' L' st' h' e1 _ H locs ad lsr hI hv2 hL
  cases e1
  obtain ⟨hx, hb, hml, hown, hts, -⟩ := C
  exact ⟨rfl, rfl, al_cons hr hv2, fun cells slots Q k => lv_ldc2 hx hb hown (hts _ hw) hd (by rw [hn] at k; exact k)⟩
theorem sim_ldcS {x j : Nat} {tx : String} (hd : decode cc (pcat P i) = .ok (.ldc x, 2)) (hj : strT[j]? = some (own, x, tx)) (hj2 : j < 12) (hn : pcat P (i + 1) = pcat P i + 2) : SimN own nm cc nL P 0 i (i_push (3, (j : Int))) := by
  refine sim_stk ?_
  intro E p l e R s m args below meth c d C L st h ps i' L' st' h' e1 _ H locs ad lsr hI hv2 hL
  cases e1
  obtain ⟨hx, hb, hml, hown, hts, hF, -⟩ := C
  refine ⟨rfl, rfl, al_cons (show (0 : Int) ≤ j ∧ (j : Int) < 12 from ⟨by omega, by omega⟩) hv2, fun cells slots Q k => va_ldcS hx hb hown (hF.2.2.2.1 j _ hj) hd (by rw [hn] at k; exact k)⟩
/-! locals -/
theorem ldk_lt {t u : Nat} (ht : t ≤ 2) (h : ldk t u = true) : u < 9 := by
  match t, ht with
  | 0, _ => simp [ldk] at h; omega
  | 1, _ => simp [ldk] at h; omega
  | 2, _ => simp [ldk] at h; omega
theorem sim_load {t k : Nat} (ht : t ≤ 2) (hw : ∀ (E : EV) (ad : Nat → Nat) (h : Mh) (v : MV), ldk t v.1 = true → nv h v → ∀ {p : Program} {l : Launch} {e : Env} {R : Room} {s : State} {m : MethodId} {args : Array Value} {below : List Frame} {meth : Method} {c : Code} {H : Heap} {locs : List Loc} {cells slots : Nat} {Q : State → Prop} {lsr : Array Slot} {rest : List Value}, p.tables.exec = Jvm.exec → c.code = cc → lsr[k]? = some (.val (tv E ad v)) →
      W p l e R s m args below meth c H locs cells slots Q (F0 m (pcat P (i + 1)) lsr (tv E ad v :: rest)) → W p l e R s m args below meth c H locs cells slots Q (F0 m (pcat P i) lsr rest)) : SimN own nm cc nL P 0 i (i_load t k) := by
  refine sim_stk ?_
  intro E p l e R s m args below meth c d C L st h ps i' L' st' h' e1 _ H locs ad lsr hI hv2 hL
  obtain ⟨hx, hb, -⟩ := C
  unfold i_load at e1
  cases hk : L[k]? with
  | none => rw [hk] at e1; cases e1
  | some v =>
    rw [hk] at e1
    cases hl : ldk t v.1 with
    | false => simp only [hl] at e1; cases e1
    | true =>
      simp only [hl] at e1
      cases e1
      obtain ⟨g1, g2⟩ := hL.2.2.2 k v hk (ldk_lt ht hl)
      exact ⟨rfl, rfl, al_cons g1 hv2, fun cells slots Q kk => hw E ad h v hl g1 hx hb g2 kk⟩
theorem ldk0 {v : MV} (h : ldk 0 v.1 = true) : v = (0, v.2) := by
  obtain ⟨t, x⟩ := v
  have : t = 0 := by simpa [ldk] using h
  rw [this]
theorem ldk1 {v : MV} (h : ldk 1 v.1 = true) : v = (1, v.2) := by
  obtain ⟨t, x⟩ := v
  have : t = 1 := by simpa [ldk] using h
  rw [this]
theorem ldk2 {E : EV} {ad : Nat → Nat} {v : MV} (h : ldk 2 v.1 = true) : tv E ad v = .null ∨ ∃ a, tv E ad v = .ref a := by
  obtain ⟨t, x⟩ := v
  have : t = 2 ∨ t = 3 ∨ t = 4 ∨ t = 5 ∨ t = 6 := by simpa [ldk] using h
  rcases this with rfl | rfl | rfl | rfl | rfl
  · show rfv ad x.toNat = .null ∨ ∃ a, rfv ad x.toNat = .ref a
    cases x.toNat with
    | zero => exact Or.inl rfl
    | succ n => exact Or.inr ⟨_, rfl⟩
  · exact Or.inr ⟨_, rfl⟩
  · exact Or.inr ⟨_, rfl⟩
  · exact Or.inr ⟨_, rfl⟩
  · show va_rf (eF E) = .null ∨ ∃ a, va_rf (eF E) = .ref a
    cases eF E with
    | none => exact Or.inl rfl
    | some n => exact Or.inr ⟨_, rfl⟩
theorem sim_iload_n {k : Nat} {kf : Fin 4} (hd : decode cc (pcat P i) = .ok (.iload_n kf, 1)) (hk : (kf : Nat) = k) (hn : pcat P (i + 1) = pcat P i + 1) : SimN own nm cc nL P 0 i (i_load 0 k) := by
  refine sim_load (by decide) ?_
  intro E ad h v hl _ p l e R s m args below meth c H locs cells slots Q lsr rest hx hb hg kk
  rw [ldk0 hl] at hg kk
  exact lv_iload_n hx hb hd hk hg (by rw [hn] at kk; exact kk)
theorem sim_iload {k : Nat} (hd : decode cc (pcat P i) = .ok (.iload k, 2)) (hn : pcat P (i + 1) = pcat P i + 2) : SimN own nm cc nL P 0 i (i_load 0 k) := by
  refine sim_load (by decide) ?_
  intro E ad h v hl _ p l e R s m args below meth c H locs cells slots Q lsr rest hx hb hg kk
  rw [ldk0 hl] at hg kk
  exact lv_iload hx hb hd hg (by rw [hn] at kk; exact kk)
theorem sim_lload_n {k : Nat} {kf : Fin 4} (hd : decode cc (pcat P i) = .ok (.lload_n kf, 1)) (hk : (kf : Nat) = k) (hn : pcat P (i + 1) = pcat P i + 1) : SimN own nm cc nL P 0 i (i_load 1 k) := by
  refine sim_load (by decide) ?_
  intro E ad h v hl _ p l e R s m args below meth c H locs cells slots Q lsr rest hx hb hg kk
  rw [ldk1 hl] at hg kk
  exact lv_lload_n hx hb hd hk hg (by rw [hn] at kk; exact kk)
theorem sim_lload {k : Nat} (hd : decode cc (pcat P i) = .ok (.lload k, 2)) (hn : pcat P (i + 1) = pcat P i + 2) : SimN own nm cc nL P 0 i (i_load 1 k) := by
  refine sim_load (by decide) ?_
  intro E ad h v hl _ p l e R s m args below meth c H locs cells slots Q lsr rest hx hb hg kk
  rw [ldk1 hl] at hg kk
  exact lv_lload hx hb hd hg (by rw [hn] at kk; exact kk)
theorem sim_aload_n {k : Nat} {kf : Fin 4} (hd : decode cc (pcat P i) = .ok (.aload_n kf, 1)) (hk : (kf : Nat) = k) (hn : pcat P (i + 1) = pcat P i + 1) : SimN own nm cc nL P 0 i (i_load 2 k) := by
  refine sim_load (by decide) ?_
  intro E ad h v hl _ p l e R s m args below meth c H locs cells slots Q lsr rest hx hb hg kk
  rw [hn] at kk
  rcases ldk2 (E := E) (ad := ad) hl with h1 | ⟨a, h1⟩
  · rw [h1] at hg kk
    exact lv_aload_nN hx hb hd hk hg kk
  · rw [h1] at hg kk
    exact lv_aload_n hx hb hd hk hg kk
theorem sim_aload {k : Nat} (hd : decode cc (pcat P i) = .ok (.aload k, 2)) (hn : pcat P (i + 1) = pcat P i + 2) : SimN own nm cc nL P 0 i (i_load 2 k) := by
  refine sim_load (by decide) ?_
  intro E ad h v hl _ p l e R s m args below meth c H locs cells slots Q lsr rest hx hb hg kk
  rw [hn] at kk
  rcases ldk2 (E := E) (ad := ad) hl with h1 | ⟨a, h1⟩
  · rw [h1] at hg kk
    exact lv_aloadN hx hb hd hg kk
  · rw [h1] at hg kk
    exact lv_aload hx hb hd hg kk
end SIM
