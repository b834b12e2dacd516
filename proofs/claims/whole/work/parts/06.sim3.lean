section SIM
variable {own nm : String} {cc : ByteArray} {nL : Nat} {P : List Nat} {i : Nat}
theorem o64_div {x y : Int} (hx : in64 x) (hy : in64 y) : Int64.ofInt x / Int64.ofInt y = Int64.ofInt (k_div x y) := by
  apply Int64.toInt_inj.mp
  rw [Int64.toInt_div, o64i hx, o64i hy, k_div, o64, w64_id (w64_in _)]
  unfold w64
  simp only [Int.bmod, Int64.size]
  omega
theorem lrem_eq_mod (x y : Int64) : x - (x / y) * y = x % y := by
  apply Int64.toInt_inj.mp
  rw [Int64.toInt_sub, Int64.toInt_mul, Int64.toInt_div, Int64.toInt_mod]
  have h := Int.tmod_add_tdiv_mul x.toInt y.toInt
  have h1 := (t64_in (x % y))
  rw [in64, Int64.toInt_mod] at h1
  simp only [Int.bmod_sub_bmod, Int.sub_bmod_bmod, Int.bmod_mul_bmod, Int.mul_bmod_bmod]
  rw [show x.toInt - x.toInt.tdiv y.toInt * y.toInt = x.toInt.tmod y.toInt by omega]
  simp only [Int.bmod]
  omega
theorem tv_c0 {E : EV} {ad : Nat → Nat} (x : Int) : (tv E ad (0, x)).category = 1 := rfl
theorem tv_c2 {E : EV} {ad : Nat → Nat} (x : Int) : (tv E ad (2, x)).category = 1 := tv_cat1 (v := (2, x)) (show (2 : Nat) ≠ 1 by decide)
theorem o64_rem {x y : Int} (hx : in64 x) (hy : in64 y) : Int64.ofInt x - (Int64.ofInt x / Int64.ofInt y) * Int64.ofInt y = Int64.ofInt (k_rem x y) ∧ in64 (k_rem x y) := by
  have h : (Int64.ofInt x - (Int64.ofInt x / Int64.ofInt y) * Int64.ofInt y).toInt = x.tmod y := by rw [lrem_eq_mod, Int64.toInt_mod, o64i hx, o64i hy]
  have h2 : in64 (k_rem x y) := by rw [k_rem, ← h]; exact t64_in _
  exact ⟨Int64.toInt_inj.mp (by rw [h, o64i h2, k_rem]), h2⟩
theorem sim_ldiv (hd : decode cc (pcat P i) = .ok (.ldiv, 1)) (hn : pcat P (i + 1) = pcat P i + 1) : SimN own nm cc nL P 0 i (i_lln k_div) :=
  sim_lln fun x y hx0 hy0 h0 => ⟨w64_in _, fun hx hb k => lv_ldiv hx hb hd (o64_ne hy0 h0) (by rw [hn] at k; rw [o64_div hx0 hy0]; exact k)⟩
theorem sim_lrem (hd : decode cc (pcat P i) = .ok (.lrem, 1)) (hn : pcat P (i + 1) = pcat P i + 1) : SimN own nm cc nL P 0 i (i_lln k_rem) :=
  sim_lln fun x y hx0 hy0 h0 => ⟨(o64_rem hx0 hy0).2, fun hx hb k => lv_lrem hx hb hd (o64_ne hy0 h0) (by rw [hn] at k; rw [(o64_rem hx0 hy0).1]; exact k)⟩
theorem o64_cmp {x y : Int} (hx : in64 x) (hy : in64 y) : lg_cmp (Int64.ofInt x) (Int64.ofInt y) = Int32.ofInt (lcm3 x y) ∧ in32 (lcm3 x y) := by
  have h1 := i64_lt hx hy
  have h2 := i64_eq hx hy
  have h3 := i64_lt hy hx
  unfold lg_cmp lcm3
  by_cases a : x < y
  · have a1 : ¬ y < x := by omega
    have a2 : ¬ x = y := by omega
    simp [h2, h3, a, a1, a2, in32]
    try decide
  · by_cases b : x = y
    · subst b
      simp [h3, in32]
      try decide
    · have a1 : y < x := by omega
      simp [h1, h2, h3, a, b, a1, in32]
      try decide
theorem sim_lcmp (hd : decode cc (pcat P i) = .ok (.lcmp, 1)) (hn : pcat P (i + 1) = pcat P i + 1) : SimN own nm cc nL P 0 i i_lcmp := by
  refine sim_pure ?_
  intro E ad L st h ps i' L' st' h' e1 _ hv
  match st, e1 with
  | (1, y) :: (1, x) :: st, e1 =>
    cases e1
    obtain ⟨h1, h2⟩ := o64_cmp (al_hd (al_tl hv)) (al_hd hv)
    exact ⟨rfl, rfl, al_cons h2 (al_tl (al_tl hv)), fun hx hb k => W.lcmp hx hb hd (by rw [hn] at k; rw [h1]; exact k)⟩
theorem sim_i2l (hd : decode cc (pcat P i) = .ok (.i2l, 1)) (hn : pcat P (i + 1) = pcat P i + 1) : SimN own nm cc nL P 0 i i_i2l := by
  refine sim_pure ?_
  intro E ad L st h ps i' L' st' h' e1 _ hv
  match st, e1 with
  | (0, x) :: st, e1 =>
    cases e1
    have hx32 : in32 x := al_hd hv
    exact ⟨rfl, rfl, al_cons (show in64 x from in32_64 hx32) (al_tl hv), fun hx hb k => lv_i2l hx hb hd (v := Int64.ofInt x) (Int64.toInt_inj.mp (by rw [Int32.toInt_toInt64, o32i hx32, o64i (in32_64 hx32)])) (by rw [hn] at k; exact k)⟩
theorem sim_l2i (hd : decode cc (pcat P i) = .ok (.l2i, 1)) (hn : pcat P (i + 1) = pcat P i + 1) : SimN own nm cc nL P 0 i i_l2i := by
  refine sim_pure ?_
  intro E ad L st h ps i' L' st' h' e1 _ hv
  match st, e1 with
  | (1, x) :: st, e1 =>
    cases e1
    have hx64 : in64 x := al_hd hv
    exact ⟨rfl, rfl, al_cons (show in32 (w32 x) from w32_in x) (al_tl hv), fun hx hb k => lv_l2i hx hb hd (v := Int32.ofInt (w32 x)) (Int32.toInt_inj.mp (by
      rw [Int64.toInt_toInt32, o64i hx64, o32, w32_id (w32_in x)]
      unfold w32
      simp only [Int.bmod]
      omega)) (by rw [hn] at k; exact k)⟩
theorem sim_pop (hd : decode cc (pcat P i) = .ok (.pop, 1)) (hn : pcat P (i + 1) = pcat P i + 1) : SimN own nm cc nL P 0 i i_pop := by
  refine sim_pure ?_
  intro E ad L st h ps i' L' st' h' e1 _ hv
  match st, e1 with
  | (0, x) :: st, e1 =>
    cases e1
    exact ⟨rfl, rfl, al_tl hv, fun hx hb k => lv_pop hx hb hd (tv_c0 _) (by rw [hn] at k; exact k)⟩
theorem sim_dup (hd : decode cc (pcat P i) = .ok (.dup, 1)) (hn : pcat P (i + 1) = pcat P i + 1) : SimN own nm cc nL P 0 i i_dup := by
  refine sim_pure ?_
  intro E ad L st h ps i' L' st' h' e1 _ hv
  match st, e1 with
  | (0, x) :: st, e1 =>
    cases e1
    exact ⟨rfl, rfl, al_cons (al_hd hv) hv, fun hx hb k => lv_dup hx hb hd (tv_c0 _) (by rw [hn] at k; exact k)⟩
  | (2, x) :: st, e1 =>
    cases e1
    exact ⟨rfl, rfl, al_cons (al_hd hv) hv, fun hx hb k => lv_dup hx hb hd (tv_c2 _) (by rw [hn] at k; exact k)⟩
theorem sim_dup2 (hd : decode cc (pcat P i) = .ok (.dup2, 1)) (hn : pcat P (i + 1) = pcat P i + 1) : SimN own nm cc nL P 0 i i_dup2 := by
  refine sim_pure ?_
  intro E ad L st h ps i' L' st' h' e1 _ hv
  match st, e1 with
  | (0, y) :: (2, x) :: st, e1 =>
    cases e1
    exact ⟨rfl, rfl, al_cons (al_hd hv) (al_cons (al_hd (al_tl hv)) hv), fun hx hb k => lv_dup2_11 hx hb hd (tv_c0 _) (tv_c2 _) (by rw [hn] at k; exact k)⟩
/-! branches -/
/-- a compare of the big machine, by the little one's kind -/
def cmpI (c : Nat) (x y : Int32) : Prop := match c with
  | 0 => x = y
  | 1 => ¬ x = y
  | 2 => x < y
  | 3 => y ≤ x
  | 4 => y < x
  | _ => x ≤ y
theorem cmp_iff {c : Nat} {x y : Int} (hx : in32 x) (hy : in32 y) : cmpI c (Int32.ofInt x) (Int32.ofInt y) ↔ cmpB c x y = true := by
  unfold cmpI cmpB
  match c with
  | 0 => simp [i32_eq hx hy]
  | 1 => simp [i32_eq hx hy]
  | 2 => simp [i32_lt hx hy]
  | 3 => simp [i32_le hy hx]
  | 4 => simp [i32_lt hy hx]
  | n + 5 => simp [i32_le hx hy]
theorem sim_if1 {c tgt : Nat} (hw : ∀ (x : Int32) {p : Program} {l : Launch} {e : Env} {R : Room} {s : State} {m : MethodId} {args : Array Value} {below : List Frame} {meth : Method} {c0 : Code} {H : Heap} {locs : List Loc} {cells slots : Nat} {Q : State → Prop} {lsr : Array Slot} {rest : List Value}, p.tables.exec = Jvm.exec → c0.code = cc →
      (cmpI c x 0 → W p l e R s m args below meth c0 H locs cells slots Q (F0 m (pcat P tgt) lsr rest)) → (¬ cmpI c x 0 → W p l e R s m args below meth c0 H locs cells slots Q (F0 m (pcat P (i + 1)) lsr rest)) → W p l e R s m args below meth c0 H locs cells slots Q (F0 m (pcat P i) lsr (.int x :: rest))) : SimN own nm cc nL P 0 i (i_if1 c tgt) := by
  refine sim_pure ?_
  intro E ad L st h ps i' L' st' h' e1 _ hv
  match st, e1 with
  | (0, x) :: st, e1 =>
    cases e1
    have q := cmp_iff (c := c) (al_hd hv : in32 x) in32_0
    refine ⟨rfl, rfl, al_tl hv, fun hx hb k => hw (Int32.ofInt x) hx hb (fun h1 => ?_) (fun h1 => ?_)⟩
    · rw [q.mp h1] at k; exact k
    · rw [Bool.eq_false_iff.mpr (fun z => h1 (q.mpr z))] at k; exact k
theorem sim_if2 {c tgt : Nat} (hw : ∀ (x y : Int32) {p : Program} {l : Launch} {e : Env} {R : Room} {s : State} {m : MethodId} {args : Array Value} {below : List Frame} {meth : Method} {c0 : Code} {H : Heap} {locs : List Loc} {cells slots : Nat} {Q : State → Prop} {lsr : Array Slot} {rest : List Value}, p.tables.exec = Jvm.exec → c0.code = cc →
      (cmpI c x y → W p l e R s m args below meth c0 H locs cells slots Q (F0 m (pcat P tgt) lsr rest)) → (¬ cmpI c x y → W p l e R s m args below meth c0 H locs cells slots Q (F0 m (pcat P (i + 1)) lsr rest)) → W p l e R s m args below meth c0 H locs cells slots Q (F0 m (pcat P i) lsr (.int y :: .int x :: rest))) : SimN own nm cc nL P 0 i (i_if2 c tgt) := by
  refine sim_pure ?_
  intro E ad L st h ps i' L' st' h' e1 _ hv
  match st, e1 with
  | (0, y) :: (0, x) :: st, e1 =>
    cases e1
    have q := cmp_iff (c := c) (al_hd (al_tl hv) : in32 x) (al_hd hv : in32 y)
    refine ⟨rfl, rfl, al_tl (al_tl hv), fun hx hb k => hw (Int32.ofInt x) (Int32.ofInt y) hx hb (fun h1 => ?_) (fun h1 => ?_)⟩
    · rw [q.mp h1] at k; exact k
    · rw [Bool.eq_false_iff.mpr (fun z => h1 (q.mpr z))] at k; exact k
theorem sim_ifeq {off : Int} {tgt : Nat} (hd : decode cc (pcat P i) = .ok (.ifCond .eq off, 3)) (ht : (pcat P i : Int) + off = (pcat P tgt : Int)) (hn : pcat P (i + 1) = pcat P i + 3) : SimN own nm cc nL P 0 i (i_if1 0 tgt) :=
  sim_if1 fun _ => fun hx hb kt kf => lv_if_eq hx hb hd ht kt (by rw [hn] at kf; exact kf)
theorem sim_ifne {off : Int} {tgt : Nat} (hd : decode cc (pcat P i) = .ok (.ifCond .ne off, 3)) (ht : (pcat P i : Int) + off = (pcat P tgt : Int)) (hn : pcat P (i + 1) = pcat P i + 3) : SimN own nm cc nL P 0 i (i_if1 1 tgt) :=
  sim_if1 fun _ => fun hx hb kt kf => lv_if_ne hx hb hd ht kt (fun h => by rw [hn] at kf; exact kf (fun z => z h))
theorem sim_iflt {off : Int} {tgt : Nat} (hd : decode cc (pcat P i) = .ok (.ifCond .lt off, 3)) (ht : (pcat P i : Int) + off = (pcat P tgt : Int)) (hn : pcat P (i + 1) = pcat P i + 3) : SimN own nm cc nL P 0 i (i_if1 2 tgt) :=
  sim_if1 fun _ => fun hx hb kt kf => lv_if_lt hx hb hd ht kt (by rw [hn] at kf; exact kf)
theorem sim_ifge {off : Int} {tgt : Nat} (hd : decode cc (pcat P i) = .ok (.ifCond .ge off, 3)) (ht : (pcat P i : Int) + off = (pcat P tgt : Int)) (hn : pcat P (i + 1) = pcat P i + 3) : SimN own nm cc nL P 0 i (i_if1 3 tgt) :=
  sim_if1 fun _ => fun hx hb kt kf => lv_if_ge hx hb hd ht kt (by rw [hn] at kf; exact kf)
theorem sim_ifgt {off : Int} {tgt : Nat} (hd : decode cc (pcat P i) = .ok (.ifCond .gt off, 3)) (ht : (pcat P i : Int) + off = (pcat P tgt : Int)) (hn : pcat P (i + 1) = pcat P i + 3) : SimN own nm cc nL P 0 i (i_if1 4 tgt) :=
  sim_if1 fun _ => fun hx hb kt kf => lv_if_gt hx hb hd ht kt (by rw [hn] at kf; exact kf)
theorem sim_ifle {off : Int} {tgt : Nat} (hd : decode cc (pcat P i) = .ok (.ifCond .le off, 3)) (ht : (pcat P i : Int) + off = (pcat P tgt : Int)) (hn : pcat P (i + 1) = pcat P i + 3) : SimN own nm cc nL P 0 i (i_if1 5 tgt) :=
  sim_if1 fun _ => fun hx hb kt kf => lv_if_le hx hb hd ht kt (by rw [hn] at kf; exact kf)
theorem sim_icmpeq {off : Int} {tgt : Nat} (hd : decode cc (pcat P i) = .ok (.if_icmp .eq off, 3)) (ht : (pcat P i : Int) + off = (pcat P tgt : Int)) (hn : pcat P (i + 1) = pcat P i + 3) : SimN own nm cc nL P 0 i (i_if2 0 tgt) :=
  sim_if2 fun _ _ => fun hx hb kt kf => lv_icmp_eq hx hb hd ht kt (by rw [hn] at kf; exact kf)
theorem sim_icmpne {off : Int} {tgt : Nat} (hd : decode cc (pcat P i) = .ok (.if_icmp .ne off, 3)) (ht : (pcat P i : Int) + off = (pcat P tgt : Int)) (hn : pcat P (i + 1) = pcat P i + 3) : SimN own nm cc nL P 0 i (i_if2 1 tgt) :=
  sim_if2 fun _ _ => fun hx hb kt kf => lv_icmp_ne hx hb hd ht kt (fun h => by rw [hn] at kf; exact kf (fun z => z h))
theorem sim_icmplt {off : Int} {tgt : Nat} (hd : decode cc (pcat P i) = .ok (.if_icmp .lt off, 3)) (ht : (pcat P i : Int) + off = (pcat P tgt : Int)) (hn : pcat P (i + 1) = pcat P i + 3) : SimN own nm cc nL P 0 i (i_if2 2 tgt) :=
  sim_if2 fun _ _ => fun hx hb kt kf => lv_icmp_lt hx hb hd ht kt (by rw [hn] at kf; exact kf)
theorem sim_icmpge {off : Int} {tgt : Nat} (hd : decode cc (pcat P i) = .ok (.if_icmp .ge off, 3)) (ht : (pcat P i : Int) + off = (pcat P tgt : Int)) (hn : pcat P (i + 1) = pcat P i + 3) : SimN own nm cc nL P 0 i (i_if2 3 tgt) :=
  sim_if2 fun _ _ => fun hx hb kt kf => lv_icmp_ge hx hb hd ht kt (by rw [hn] at kf; exact kf)
theorem sim_icmpgt {off : Int} {tgt : Nat} (hd : decode cc (pcat P i) = .ok (.if_icmp .gt off, 3)) (ht : (pcat P i : Int) + off = (pcat P tgt : Int)) (hn : pcat P (i + 1) = pcat P i + 3) : SimN own nm cc nL P 0 i (i_if2 4 tgt) :=
  sim_if2 fun _ _ => fun hx hb kt kf => lv_icmp_gt hx hb hd ht kt (by rw [hn] at kf; exact kf)
theorem sim_icmple {off : Int} {tgt : Nat} (hd : decode cc (pcat P i) = .ok (.if_icmp .le off, 3)) (ht : (pcat P i : Int) + off = (pcat P tgt : Int)) (hn : pcat P (i + 1) = pcat P i + 3) : SimN own nm cc nL P 0 i (i_if2 5 tgt) :=
  sim_if2 fun _ _ => fun hx hb kt kf => lv_icmp_le hx hb hd ht kt (by rw [hn] at kf; exact kf)
theorem sim_goto {off : Int} {tgt : Nat} (hd : decode cc (pcat P i) = .ok (.goto off, 3)) (ht : (pcat P i : Int) + off = (pcat P tgt : Int)) : SimN own nm cc nL P 0 i (i_goto tgt) := by
  refine sim_pure ?_
  intro E ad L st h ps i' L' st' h' e1 _ hv
  cases e1
  exact ⟨rfl, rfl, hv, fun hx hb k => lv_goto hx hb hd ht k⟩
theorem sim_tsw {dflt lo hi : Int} {offs : Array Int} {len : Nat} {tg : List Nat} {df : Nat} (hd : decode cc (pcat P i) = .ok (.tableswitch dflt lo hi offs, len)) (hhi : hi = lo + tg.length - 1) (ho : ∀ k, k < tg.length → (offs[k]?).map (fun o => (pcat P i : Int) + o) = some (pcat P (tg.getD k df) : Int)) (hdf : (pcat P i : Int) + dflt = (pcat P df : Int)) : SimN own nm cc nL P 0 i (i_tsw lo tg df) := by
  refine sim_pure ?_
  intro E ad L st h ps i' L' st' h' e1 _ hv
  match st, e1 with
  | (0, x) :: st, e1 =>
    cases e1
    have h32 := o32i (al_hd hv : in32 x)
    refine ⟨rfl, rfl, al_tl hv, fun hx hb k => ?_⟩
    by_cases hin : lo ≤ x ∧ x < lo + tg.length
    · rw [if_pos hin] at k
      have hk := ho (x - lo).toNat (by omega)
      cases hof : offs[(x - lo).toNat]? with
      | none => rw [hof] at hk; cases hk
      | some o =>
        rw [hof] at hk
        simp only [Option.map_some, Option.some.injEq] at hk
        exact lv_tableIn hx hb hd (x := Int32.ofInt x) (by rw [h32]; omega) (by rw [h32]; omega) (off := o) (by rw [h32]; exact hof) hk k
    · rw [if_neg hin] at k
      exact lv_tableOut hx hb hd (x := Int32.ofInt x) (by rw [h32]; omega) hdf k
end SIM
