/-! ROWS OF RUNS -/
abbrev Sg : Type := Nat → Int → Int
abbrev Gg : Type := List (Nat × Nat)
abbrev Rg : Type := Nat → Nat → Nat
def Ex (d y i : Nat) (L st : List MV) (h : Mh) (r : Option MV × Mh) : Prop := ∃ n, ex (mtI MM) (mtL MM) n d y i L st h r
def runN (cs : List MI) : Nat → Nat → List MV → List MV → Mh → Option (List Prop × Nat × List MV × List MV × Mh)
  | 0, i, L, st, h => some ([], i, L, st, h)
  | n + 1, i, L, st, h => match cs[i]? with
    | some (.inl f) => match f i L st h with
      | some (ps, i', L', st', h') => match runN cs n i' L' st' h' with
        | some (qs, s) => some (ps ++ qs, s)
        | none => none
      | none => none
    | _ => none
section ROWS
variable {d y i i' tgt c : Nat} {L L' st st' : List MV} {h h' : Mh} {r : Option MV × Mh} {cs : List MI} {ps : List Prop} {x x' : Int}
theorem Ex_step {f : SN} (hc : (mtI MM y)[i]? = some (.inl f)) (hf : f i L st h = some (ps, i', L', st', h')) (hp : cj ps) (k : Ex d y i' L' st' h' r) : Ex d y i L st h r := by
  obtain ⟨n, hn⟩ := k
  refine ⟨n + 1, ?_⟩
  unfold ex
  rw [hc]
  simp only [hf]
  exact ⟨hp, hn⟩
theorem Ex_run (n : Nat) : ∀ {i : Nat} {L st : List MV} {h : Mh} {ps : List Prop} {i' : Nat} {L' st' : List MV} {h' : Mh} (_ : mtI MM y = cs) (_ : runN cs n i L st h = some (ps, i', L', st', h')) (_ : cj ps) (_ : Ex d y i' L' st' h' r), Ex d y i L st h r := by
  induction n with
  | zero =>
    intro i L st h ps i' L' st' h' hc hr hp k
    cases hr
    exact k
  | succ n ih =>
    intro i L st h ps i' L' st' h' hc hr hp k
    unfold runN at hr
    split at hr
    · rename_i f hf
      split at hr
      · rename_i ps1 i1 L1 st1 h1 hf1
        split at hr
        · rename_i qs s hq
          cases hr
          rw [cj_app] at hp
          rw [← hc] at hf
          exact Ex_step hf hf1 hp.1 (ih hc hq hp.2 k)
        · cases hr
      · cases hr
    · cases hr
theorem Ex_if1t (hc : mtI MM y = cs) (hi : cs[i]? = some (.inl (i_if1 c tgt))) (hb : cmpB c x 0 = true) (k : Ex d y tgt L st h r) : Ex d y i L ((0, x) :: st) h r :=
  Ex_step (ps := []) (by rw [hc]; exact hi) (by unfold i_if1; simp only [hb]) trivial k
theorem Ex_if1f (hc : mtI MM y = cs) (hi : cs[i]? = some (.inl (i_if1 c tgt))) (hb : cmpB c x 0 = false) (k : Ex d y (i + 1) L st h r) : Ex d y i L ((0, x) :: st) h r :=
  Ex_step (ps := []) (by rw [hc]; exact hi) (by unfold i_if1; simp only [hb]) trivial k
theorem Ex_if2t (hc : mtI MM y = cs) (hi : cs[i]? = some (.inl (i_if2 c tgt))) (hb : cmpB c x x' = true) (k : Ex d y tgt L st h r) : Ex d y i L ((0, x') :: (0, x) :: st) h r :=
  Ex_step (ps := []) (by rw [hc]; exact hi) (by unfold i_if2; simp only [hb]) trivial k
theorem Ex_if2f (hc : mtI MM y = cs) (hi : cs[i]? = some (.inl (i_if2 c tgt))) (hb : cmpB c x x' = false) (k : Ex d y (i + 1) L st h r) : Ex d y i L ((0, x') :: (0, x) :: st) h r :=
  Ex_step (ps := []) (by rw [hc]; exact hi) (by unfold i_if2; simp only [hb]) trivial k
theorem Ex_sw {lo : Int} {tg : List Nat} {df : Nat} (hc : mtI MM y = cs) (hi : cs[i]? = some (.inl (i_tsw lo tg df))) (j : Nat) (hj : tg[j]? = some tgt) (hx : x = lo + j) (k : Ex d y tgt L st h r) : Ex d y i L ((0, x) :: st) h r := by
  have hl := (List.getElem?_eq_some_iff.mp hj).1
  refine Ex_step (by rw [hc]; exact hi) (i' := tgt) (L' := L) (st' := st) (h' := h) (ps := []) ?_ trivial k
  unfold i_tsw
  simp only
  rw [if_pos (by omega), show (x - lo).toNat = j by omega, List.getD_eq_getElem?_getD, hj]
  rfl
theorem Ex_swd {lo : Int} {tg : List Nat} {df : Nat} (hc : mtI MM y = cs) (hi : cs[i]? = some (.inl (i_tsw lo tg df))) (hx : ∀ j t : Nat, tg[j]? = some t → x = lo + j → t = df) (k : Ex d y df L st h r) : Ex d y i L ((0, x) :: st) h r := by
  refine Ex_step (by rw [hc]; exact hi) (i' := df) (L' := L) (st' := st) (h' := h) (ps := []) ?_ trivial k
  unfold i_tsw
  simp only
  by_cases h1 : lo ≤ x ∧ x < lo + tg.length
  · rw [if_pos h1]
    have hl : (x - lo).toNat < tg.length := by omega
    have e1 : tg[(x - lo).toNat]? = some (tg[(x - lo).toNat]'hl) := List.getElem?_eq_getElem hl
    have := hx _ _ e1 (by omega)
    rw [List.getD_eq_getElem?_getD, e1, this]
    rfl
  · rw [if_neg h1]
theorem Ex_prim {k : Nat} {f : SN} (hc : mtI MM y = cs) (hi : cs[i]? = some (.inr (.inr (.inr (k, f))))) (hk : k ≤ d) (hf : f i L st h = some (ps, i', L', st', h')) (hp : cj ps) (kk : Ex d y i' L' st' h' r) : Ex d y i L st h r := by
  obtain ⟨n, hn⟩ := kk
  refine ⟨n + 1, ?_⟩
  unfold ex
  rw [hc, hi]
  simp only [hf]
  exact ⟨hk, hp, hn⟩
theorem Ex_ret {k : Nat} (hc : mtI MM y = cs) (hi : cs[i]? = some (.inr (.inl k))) (hr : rt k st h r) : Ex d y i L st h r := by
  refine ⟨1, ?_⟩
  unfold ex
  rw [hc, hi]
  exact hr
theorem Ex_call {z na ck : Nat} {as rest E0 : List MV} {v : Option MV} {h1 : Mh} (hc : mtI MM y = cs) (hi : cs[i]? = some (.inr (.inr (.inl (z, na, ck))))) (hd : 1 ≤ d) (hn : na ≤ st.length ∧ st.length ≤ na + 4) (hrc : rc ck na st h) (ha : (st.take na).reverse = as) (hre : st.drop na = rest) (hE : ent (mtL MM z) as = E0) (hel : (entL as).length ≤ mtL MM z)
    (hz : Ex (d - 1) z 0 E0 [] h (v, h1)) (k : Ex d y (i + 1) L (v.toList ++ rest) h1 r) : Ex d y i L st h r := by
  obtain ⟨n1, q1⟩ := hz
  obtain ⟨n2, q2⟩ := k
  refine ⟨max n1 n2 + 1, ?_⟩
  unfold ex
  rw [hc, hi]
  subst ha
  subst hre
  subst hE
  exact ⟨hn.1, hn.2, hrc, hel, d - 1, v, h1, by omega, ex_le (Nat.le_max_left _ _) q1, ex_le (Nat.le_max_right _ _) q2⟩
end ROWS
def gkb (G : Gg) (a k : Nat) : Bool := (G[a]?).map (fun q => q.1) == some k
theorem gk_b {G : Gg} {a k : Nat} (h : gkb G a k = true) : gk G a k := by unfold gkb at h; exact eq_of_beq h
theorem b_gk {G : Gg} {a k : Nat} (h : gk G a k) : gkb G a k = true := by unfold gkb; exact beq_iff_eq.mpr h
theorem gd_s {α : Type} {c : Prop} [Decidable c] {x : Option α} {r : α} (h : (if c then x else none) = some r) : c ∧ x = some r := by
  by_cases hc : c
  · rw [if_pos hc] at h; exact ⟨hc, h⟩
  · rw [if_neg hc] at h; cases h
theorem bn_s {α β : Type} {x : Option α} {f : α → Option β} {r : β} (h : x.bind f = some r) : ∃ a, x = some a ∧ f a = some r := by
  cases x with
  | none => cases h
  | some a => exact ⟨a, rfl, h⟩
theorem rc2 {c na : Nat} {st : List MV} {h : Mh} {a : Nat} (h1 : st[na - 1]? = some (2, (a : Int))) (h2 : gkb h.1 a (c + 3) = true) : rc (c + 3) na st h := ⟨(a : Int), h1, gk_b h2⟩
def FU : Nat := 4000
theorem it_p {α : Type} {c : Prop} [Decidable c] {a b : Option α} {r : α} (h : (if c then a else b) = some r) (hc : c) : a = some r := by rw [if_pos hc] at h; exact h
theorem it_n {α : Type} {c : Prop} [Decidable c] {a b : Option α} {r : α} (h : (if c then a else b) = some r) (hc : ¬ c) : b = some r := by rw [if_neg hc] at h; exact h
/-- a loop: a step goes on (inl) or leaves (inr) -/
def lp {S R : Type} (f : S → Option (S ⊕ R)) : Nat → S → Option R
  | 0, _ => none
  | n + 1, s => match f s with
    | none => none
    | some (.inl s') => lp f n s'
    | some (.inr r) => some r
def xr {S R : Type} (x : Option R) : Option (S ⊕ R) := x.map Sum.inr
theorem xr_s {S R : Type} {x : Option R} {y : S ⊕ R} (h : xr x = some y) : ∃ z, x = some z ∧ y = Sum.inr z := by
  cases x with
  | none => cases h
  | some a => cases h; exact ⟨a, rfl, rfl⟩
def DS {S R : Type} (A : S → (Option MV × Mh) → Prop) (B : R → (Option MV × Mh) → Prop) : S ⊕ R → (Option MV × Mh) → Prop
  | .inl s => A s
  | .inr r => B r
theorem Ex_lp {S R : Type} {f : S → Option (S ⊕ R)} {A : S → (Option MV × Mh) → Prop} {B : R → (Option MV × Mh) → Prop} (hs : ∀ (s : S) (x : S ⊕ R), f s = some x → ∀ rr, DS A B x rr → A s rr) : ∀ (n : Nat) (s : S) (r : R), lp f n s = some r → ∀ rr, B r rr → A s rr := by
  intro n
  induction n with
  | zero => intro s r h; cases h
  | succ n ih =>
    intro s r h rr hb
    unfold lp at h
    split at h
    · cases h
    · rename_i s' hf
      exact hs s _ hf rr (ih s' r h rr hb)
    · rename_i r' hf
      cases h
      exact hs s _ hf rr hb
def Bi (G : Gg) (ρ : Rg) (q : Int × Sg) (rr : Option MV × Mh) : Prop := rr = (some (0, q.1), (G, ρ, q.2))
def Bl (G : Gg) (ρ : Rg) (q : Int × Sg) (rr : Option MV × Mh) : Prop := rr = (some (1, q.1), (G, ρ, q.2))
def Bv (G : Gg) (ρ : Rg) (q : Sg) (rr : Option MV × Mh) : Prop := rr = (none, (G, ρ, q))
def Bpi (G : Gg) (ρ : Rg) (m : Sg) (q : Int) (rr : Option MV × Mh) : Prop := rr = (some (0, q), (G, ρ, m))
def Bpl (G : Gg) (ρ : Rg) (m : Sg) (q : Int) (rr : Option MV × Mh) : Prop := rr = (some (1, q), (G, ρ, m))
def Bpv (G : Gg) (ρ : Rg) (m : Sg) (_ : Unit) (rr : Option MV × Mh) : Prop := rr = (none, (G, ρ, m))
def Hi (q : Int × Mh) (rr : Option MV × Mh) : Prop := rr = (some (0, q.1), q.2)
def Hv (q : Mh) (rr : Option MV × Mh) : Prop := rr = (none, q)
theorem cjn : cj [] := trivial
theorem cjc {p : Prop} {ps : List Prop} (h : p) (k : cj ps) : cj (p :: ps) := ⟨h, k⟩
theorem bt0 {x y : Int} (h : x = y) : cmpB 0 x y = true := decide_eq_true h
theorem bf0 {x y : Int} (h : ¬ x = y) : cmpB 0 x y = false := decide_eq_false h
theorem bf1 {x y : Int} (h : x = y) : cmpB 1 x y = false := decide_eq_false (fun q => q h)
theorem bt1 {x y : Int} (h : ¬ x = y) : cmpB 1 x y = true := decide_eq_true h
theorem bt2 {x y : Int} (h : x < y) : cmpB 2 x y = true := decide_eq_true h
theorem bf2 {x y : Int} (h : ¬ x < y) : cmpB 2 x y = false := decide_eq_false h
theorem bf3 {x y : Int} (h : x < y) : cmpB 3 x y = false := decide_eq_false (by omega)
theorem bt3 {x y : Int} (h : ¬ x < y) : cmpB 3 x y = true := decide_eq_true (by omega)
theorem bt4 {x y : Int} (h : y < x) : cmpB 4 x y = true := decide_eq_true h
theorem bf4 {x y : Int} (h : ¬ y < x) : cmpB 4 x y = false := decide_eq_false h
theorem bf5 {x y : Int} (h : y < x) : cmpB 5 x y = false := decide_eq_false (by omega)
theorem bt5 {x y : Int} (h : ¬ y < x) : cmpB 5 x y = true := decide_eq_true (by omega)
theorem lcm3_c (x y : Int) : (x < y ∧ lcm3 x y = -1) ∨ (x = y ∧ lcm3 x y = 0) ∨ (y < x ∧ lcm3 x y = 1) := by
  unfold lcm3
  rcases Int.lt_trichotomy x y with q | q | q
  · rw [if_pos q]; exact Or.inl ⟨q, rfl⟩
  · rw [if_neg (by omega), if_pos q]; exact Or.inr (Or.inl ⟨q, rfl⟩)
  · rw [if_neg (by omega), if_neg (by omega)]; exact Or.inr (Or.inr ⟨q, rfl⟩)
theorem cm_lc0 (x y : Int) : ∀ c : Nat, cmpB c (lcm3 x y) 0 = cmpB c x y := by
  have k := lcm3_c x y
  intro c
  match c with
  | 0 => exact decide_eq_decide.mpr (by omega)
  | 1 => exact decide_eq_decide.mpr (by omega)
  | 2 => exact decide_eq_decide.mpr (by omega)
  | 3 => exact decide_eq_decide.mpr (by omega)
  | 4 => exact decide_eq_decide.mpr (by omega)
  | _ + 5 => exact decide_eq_decide.mpr (by omega)
theorem cm_lc (c : Nat) (x y : Int) {b : Bool} (h : cmpB c x y = b) : cmpB c (lcm3 x y) 0 = b := (cm_lc0 x y c).trans h
def swk (x lo : Int) (df : Nat) : Nat → List Nat → Prop
  | _, [] => True
  | j, t :: ts => (t = df ∨ ¬ x = lo + (j : Int)) ∧ swk x lo df (j + 1) ts
theorem swk_s {x lo : Int} {df : Nat} : ∀ (tg : List Nat) (j0 : Nat), swk x lo df j0 tg → ∀ j t : Nat, tg[j]? = some t → x = lo + ((j0 + j : Nat) : Int) → t = df
  | [], j0, _, j, t, h, _ => by cases h
  | a :: ts, j0, hk, 0, t, h, hx => by
    cases h
    rcases hk.1 with q | q
    · exact q
    · exact absurd hx q
  | a :: ts, j0, hk, j + 1, t, h, hx => swk_s ts (j0 + 1) hk.2 j t h (by rw [hx]; congr 1; omega)
theorem swk_d {x lo : Int} {df : Nat} {tg : List Nat} (h : swk x lo df 0 tg) : ∀ j t : Nat, tg[j]? = some t → x = lo + j → t = df := fun j t h1 h2 => swk_s tg 0 h j t h1 (by rw [Nat.zero_add]; exact h2)
