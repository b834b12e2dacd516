/-! the literals, the links among nest mates -/
def strT : List (String × Nat × String) := [("ChalkStreet", 110, "take won ; keep endless < 3 ;"), ("ChalkStreet$Reader", 94, "take"), ("ChalkStreet$Reader", 100, "keep"), ("ChalkStreet$Reader", 102, "or"), ("ChalkStreet$Reader", 104, "and"), ("ChalkStreet$Reader", 106, "not"), ("ChalkStreet$Reader", 108, "year"), ("ChalkStreet$Reader", 110, "won"), ("ChalkStreet$Reader", 112, "lost"), ("ChalkStreet$Reader", 114, "endless"), ("ChalkStreet$Reader", 116, "steps"), ("ChalkStreet$Reader", 118, "own")]
def lenJS : List Nat := [29, 4, 4, 2, 3, 3, 4, 3, 4, 7, 5, 3]
def bytJS : List (List Int32) := [[116, 97, 107, 101, 32, 119, 111, 110, 32, 59, 32, 107, 101, 101, 112, 32, 101, 110, 100, 108, 101, 115, 115, 32, 60, 32, 51, 32, 59], [116, 97, 107, 101], [107, 101, 101, 112], [111, 114], [97, 110, 100], [110, 111, 116], [121, 101, 97, 114], [119, 111, 110], [108, 111, 115, 116], [101, 110, 100, 108, 101, 115, 115], [115, 116, 101, 112, 115], [111, 119, 110]]
def nstF : List (String × Nat × String × String × String × String) := [("ChalkStreet", 137, "ChalkStreet$Rules", "kinds", "LChalkStreet$Row;", "ChalkStreet"), ("ChalkStreet", 148, "ChalkStreet$Rules", "allowed", "I", "ChalkStreet"), ("ChalkStreet", 151, "ChalkStreet$Rules", "numbers", "LChalkStreet$Row;", "ChalkStreet"), ("ChalkStreet", 158, "ChalkStreet$Worths", "found", "LChalkStreet$Row;", "ChalkStreet"), ("ChalkStreet", 174, "ChalkStreet$Mender", "needed", "I", "ChalkStreet"), ("ChalkStreet", 177, "ChalkStreet$Mender", "first", "I", "ChalkStreet"), ("ChalkStreet", 180, "ChalkStreet$Mender", "second", "I", "ChalkStreet"), ("ChalkStreet", 192, "ChalkStreet$Tally", "firstWon", "I", "ChalkStreet"), ("ChalkStreet", 195, "ChalkStreet$Tally", "secondWon", "I", "ChalkStreet"), ("ChalkStreet", 209, "ChalkStreet$Tellings", "told", "I", "ChalkStreet"), ("ChalkStreet", 233, "ChalkStreet$Tellings", "years", "LChalkStreet$Row;", "ChalkStreet"), ("ChalkStreet", 261, "ChalkStreet$Quarrel", "one", "LChalkStreet$Rules;", "ChalkStreet"), ("ChalkStreet", 264, "ChalkStreet$Quarrel", "two", "LChalkStreet$Rules;", "ChalkStreet"), ("ChalkStreet", 270, "ChalkStreet$Reader", "written", "I", "ChalkStreet"), ("ChalkStreet", 275, "ChalkStreet$Texts", "kept", "I", "ChalkStreet"), ("ChalkStreet", 284, "ChalkStreet$Streets", "follows", "LChalkStreet$Row;", "ChalkStreet"), ("ChalkStreet", 299, "ChalkStreet$Rules", "size", "I", "ChalkStreet"), ("ChalkStreet", 323, "ChalkStreet$Sheets", "sorts", "LChalkStreet$Row;", "ChalkStreet"), ("ChalkStreet", 348, "ChalkStreet$Streets", "takes", "LChalkStreet$Row;", "ChalkStreet"), ("ChalkStreet", 352, "ChalkStreet$Streets", "keeps", "LChalkStreet$Row;", "ChalkStreet"), ("ChalkStreet$Mender", 60, "ChalkStreet$Rules", "size", "I", "ChalkStreet"), ("ChalkStreet$Mender", 63, "ChalkStreet$Rules", "kinds", "LChalkStreet$Row;", "ChalkStreet"), ("ChalkStreet$Tellings", 52, "ChalkStreet$Rules", "kinds", "LChalkStreet$Row;", "ChalkStreet"), ("ChalkStreet$Tellings", 63, "ChalkStreet$Rules", "numbers", "LChalkStreet$Row;", "ChalkStreet"), ("ChalkStreet$Tellings", 64, "ChalkStreet$Rules", "allowed", "I", "ChalkStreet"), ("ChalkStreet$Texts", 36, "ChalkStreet$Reader", "length", "I", "ChalkStreet"), ("ChalkStreet$Texts", 41, "ChalkStreet$Reader", "code", "LChalkStreet$Row;", "ChalkStreet"), ("ChalkStreet$Texts", 52, "ChalkStreet$Reader", "takeLength", "I", "ChalkStreet"), ("ChalkStreet$Worths", 64, "ChalkStreet$Rules", "size", "I", "ChalkStreet")]
def nstM : List (String × Nat × MethodName × String) := [("ChalkStreet", 18, ⟨"ChalkStreet$Tally", "<init>", "()V"⟩, "ChalkStreet"), ("ChalkStreet", 25, ⟨"ChalkStreet$Reader", "<init>", "()V"⟩, "ChalkStreet"), ("ChalkStreet", 32, ⟨"ChalkStreet$Texts", "<init>", "()V"⟩, "ChalkStreet"), ("ChalkStreet", 9, ⟨"ChalkStreet$Worths", "<init>", "()V"⟩, "ChalkStreet"), ("ChalkStreet$Mender", 11, ⟨"ChalkStreet$Worths", "<init>", "()V"⟩, "ChalkStreet")]
/-! THE LITTLE MACHINE: ints and longs as integers, refs as places in a list of cells. A value: (0, int), (1, long), (2, ref: 0 null), (3, a literal's place), (4, the script), (5, a literal's bytes), (6, the formatter), (9, nothing) -/
abbrev MV : Type := Nat × Int
/-- the cells (kind, size), what fields of references hold, what all else holds; cell 0 is the script -/
abbrev Mh : Type := List (Nat × Nat) × (Nat → Nat → Nat) × (Nat → Int → Int)
abbrev SN : Type := Nat → List MV → List MV → Mh → Option (List Prop × Nat × List MV × List MV × Mh)
/-- a step; an end of a kind; a call (method, values taken, 0 or the receiver's kind); a step that wants depth -/
abbrev MI : Type := Sum SN (Sum Nat (Sum (Nat × Nat × Nat) (Nat × SN)))
def w32 (x : Int) : Int := (x + 2147483648) % 4294967296 - 2147483648
def w64 (x : Int) : Int := (x + 9223372036854775808) % 18446744073709551616 - 9223372036854775808
def in32 (x : Int) : Prop := -2147483648 ≤ x ∧ x < 2147483648
def in64 (x : Int) : Prop := -9223372036854775808 ≤ x ∧ x < 9223372036854775808
def cj : List Prop → Prop
  | [] => True
  | p :: ps => p ∧ cj ps
theorem cj_app : ∀ (a b : List Prop), cj (a ++ b) ↔ cj a ∧ cj b
  | [], b => by simp [cj]
  | p :: a, b => by simp [cj, cj_app a b, and_assoc]
/-- the cell a is of kind k -/
def gk (G : List (Nat × Nat)) (a k : Nat) : Prop := (G[a]?).map (fun q => q.1) = some k
/-- its size -/
def gl (G : List (Nat × Nat)) (a : Nat) : Int := ((G[a]?).map (fun q => (q.2 : Int))).getD 0
def put (σ : Nat → Int → Int) (a : Nat) (i v : Int) : Nat → Int → Int := fun a' i' => if a' = a ∧ i' = i then v else σ a' i'
def putR (ρ : Nat → Nat → Nat) (a k v : Nat) : Nat → Nat → Nat := fun a' k' => if a' = a ∧ k' = k then v else ρ a' k'
def zap (σ : Nat → Int → Int) (a : Nat) : Nat → Int → Int := fun a' i' => if a' = a then 0 else σ a' i'
def zapR (ρ : Nat → Nat → Nat) (a : Nat) : Nat → Nat → Nat := fun a' i' => if a' = a then 0 else ρ a' i'
def cpy (σ : Nat → Int → Int) (a : Nat) (sp : Int) (a' : Nat) (dp n : Int) : Nat → Int → Int := fun x j => if x = a' ∧ dp ≤ j ∧ j < dp + n then σ a (sp + (j - dp)) else σ x j
def ldk (t u : Nat) : Bool := match t with
  | 0 => u == 0
  | 1 => u == 1
  | _ => u == 2 || (u == 3 || (u == 4 || (u == 5 || u == 6)))
/-- no long begins just ahead of place k -/
def npl (L : List MV) : Nat → Bool
  | 0 => true
  | k + 1 => match L[k]? with
    | some v => !(v.1 == 1)
    | none => true
def cmpB (c : Nat) (a b : Int) : Bool := match c with
  | 0 => decide (a = b)
  | 1 => decide (¬ a = b)
  | 2 => decide (a < b)
  | 3 => decide (b ≤ a)
  | 4 => decide (b < a)
  | _ => decide (a ≤ b)
def i_push (v : MV) : SN := fun i L st h => some ([], i + 1, L, v :: st, h)
def i_load (t k : Nat) : SN := fun i L st h => match L[k]? with
  | some v => match ldk t v.1 with
    | true => some ([], i + 1, L, v :: st, h)
    | false => none
  | none => none
def i_sti (k : Nat) : SN := fun i L st h => match st with
  | (0, x) :: st => match npl L k with
    | true => some ([k < L.length], i + 1, L.set k (0, x), st, h)
    | false => none
  | _ => none
def i_sta (k : Nat) : SN := fun i L st h => match st with
  | (2, x) :: st => match npl L k with
    | true => some ([k < L.length, x ≠ 0], i + 1, L.set k (2, x), st, h)
    | false => none
  | _ => none
def i_stl (k : Nat) : SN := fun i L st h => match st with
  | (1, x) :: st => match npl L k with
    | true => some ([k + 1 < L.length], i + 1, (L.set k (1, x)).set (k + 1) (9, 0), st, h)
    | false => none
  | _ => none
def i_iinc (k : Nat) (n : Int) : SN := fun i L st h => match L[k]? with
  | some (0, x) => match npl L k with
    | true => some ([], i + 1, L.set k (0, w32 (x + n)), st, h)
    | false => none
  | _ => none
/-- two ints to an int -/
def i_ii (g : Int → Int → Int) : SN := fun i L st h => match st with
  | (0, y) :: (0, x) :: st => some ([], i + 1, L, (0, g x y) :: st, h)
  | _ => none
/-- the same, the second not 0 -/
def i_iin (g : Int → Int → Int) : SN := fun i L st h => match st with
  | (0, y) :: (0, x) :: st => some ([y ≠ 0], i + 1, L, (0, g x y) :: st, h)
  | _ => none
def i_ll (g : Int → Int → Int) : SN := fun i L st h => match st with
  | (1, y) :: (1, x) :: st => some ([], i + 1, L, (1, g x y) :: st, h)
  | _ => none
def i_lln (g : Int → Int → Int) : SN := fun i L st h => match st with
  | (1, y) :: (1, x) :: st => some ([y ≠ 0], i + 1, L, (1, g x y) :: st, h)
  | _ => none
/-- a long and an int to a long -/
def i_li (g : Int → Int → Int) : SN := fun i L st h => match st with
  | (0, y) :: (1, x) :: st => some ([], i + 1, L, (1, g x y) :: st, h)
  | _ => none
def i_i1 (g : Int → Int) : SN := fun i L st h => match st with
  | (0, x) :: st => some ([], i + 1, L, (0, g x) :: st, h)
  | _ => none
def lcm3 (x y : Int) : Int := if x < y then -1 else if x = y then 0 else 1
def i_lcmp : SN := fun i L st h => match st with
  | (1, y) :: (1, x) :: st => some ([], i + 1, L, (0, lcm3 x y) :: st, h)
  | _ => none
def i_i2l : SN := fun i L st h => match st with
  | (0, x) :: st => some ([], i + 1, L, (1, x) :: st, h)
  | _ => none
def i_l2i : SN := fun i L st h => match st with
  | (1, x) :: st => some ([], i + 1, L, (0, w32 x) :: st, h)
  | _ => none
def i_pop : SN := fun i L st h => match st with
  | (0, _) :: st => some ([], i + 1, L, st, h)
  | _ => none
def i_dup : SN := fun i L st h => match st with
  | (0, x) :: st => some ([], i + 1, L, (0, x) :: (0, x) :: st, h)
  | (2, x) :: st => some ([], i + 1, L, (2, x) :: (2, x) :: st, h)
  | _ => none
/-- dup2 of two one-word values, an int above a ref -/
def i_dup2 : SN := fun i L st h => match st with
  | (0, y) :: (2, x) :: st => some ([], i + 1, L, (0, y) :: (2, x) :: (0, y) :: (2, x) :: st, h)
  | _ => none
def i_if1 (c tgt : Nat) : SN := fun i L st h => match st with
  | (0, x) :: st => some ([], (match cmpB c x 0 with | true => tgt | false => i + 1), L, st, h)
  | _ => none
def i_if2 (c tgt : Nat) : SN := fun i L st h => match st with
  | (0, y) :: (0, x) :: st => some ([], (match cmpB c x y with | true => tgt | false => i + 1), L, st, h)
  | _ => none
def i_goto (tgt : Nat) : SN := fun _ L st h => some ([], tgt, L, st, h)
def i_tsw (lo : Int) (tg : List Nat) (df : Nat) : SN := fun _ L st h => match st with
  | (0, x) :: st => some ([], (if lo ≤ x ∧ x < lo + tg.length then tg.getD (x - lo).toNat df else df), L, st, h)
  | _ => none
/-- a field of numbers: t 0 int (boolean too), 1 long -/
def i_get (c k t : Nat) : SN := fun i L st h => match st with
  | (2, r) :: st => some ([gk h.1 r.toNat (c + 3)], i + 1, L, (t, h.2.2 r.toNat k) :: st, h)
  | _ => none
/-- a field of references -/
def i_getR (c k : Nat) : SN := fun i L st h => match st with
  | (2, r) :: st => some ([gk h.1 r.toNat (c + 3)], i + 1, L, (2, (h.2.1 r.toNat k : Int)) :: st, h)
  | _ => none
def i_put (c k : Nat) : SN := fun i L st h => match st with
  | (0, x) :: (2, r) :: st => some ([gk h.1 r.toNat (c + 3)], i + 1, L, st, (h.1, h.2.1, put h.2.2 r.toNat k x))
  | _ => none
def i_putZ (c k : Nat) : SN := fun i L st h => match st with
  | (0, x) :: (2, r) :: st => some ([gk h.1 r.toNat (c + 3), x = 0 ∨ x = 1], i + 1, L, st, (h.1, h.2.1, put h.2.2 r.toNat k x))
  | _ => none
def i_putJ (c k : Nat) : SN := fun i L st h => match st with
  | (1, x) :: (2, r) :: st => some ([gk h.1 r.toNat (c + 3)], i + 1, L, st, (h.1, h.2.1, put h.2.2 r.toNat k x))
  | _ => none
def i_putR (c k : Nat) : SN := fun i L st h => match st with
  | (2, x) :: (2, r) :: st => some ([gk h.1 r.toNat (c + 3), x ≠ 0], i + 1, L, st, (h.1, putR h.2.1 r.toNat k x.toNat, h.2.2))
  | _ => none
/-- rows: t 0 int, 1 boolean, 2 long -/
def i_ald (t : Nat) : SN := fun i L st h => match st with
  | (0, j) :: (2, r) :: st => some ([gk h.1 r.toNat t, 0 ≤ j ∧ j < gl h.1 r.toNat], i + 1, L, ((match t with | 2 => 1 | _ => 0), h.2.2 r.toNat j) :: st, h)
  | _ => none
def i_ast : SN := fun i L st h => match st with
  | (0, x) :: (0, j) :: (2, r) :: st => some ([gk h.1 r.toNat 0, 0 ≤ j ∧ j < gl h.1 r.toNat], i + 1, L, st, (h.1, h.2.1, put h.2.2 r.toNat j x))
  | _ => none
def i_astZ : SN := fun i L st h => match st with
  | (0, x) :: (0, j) :: (2, r) :: st => some ([gk h.1 r.toNat 1, 0 ≤ j ∧ j < gl h.1 r.toNat, x = 0 ∨ x = 1], i + 1, L, st, (h.1, h.2.1, put h.2.2 r.toNat j x))
  | _ => none
def i_astJ : SN := fun i L st h => match st with
  | (1, x) :: (0, j) :: (2, r) :: st => some ([gk h.1 r.toNat 2, 0 ≤ j ∧ j < gl h.1 r.toNat], i + 1, L, st, (h.1, h.2.1, put h.2.2 r.toNat j x))
  | _ => none
def i_alen (t : Nat) : SN := fun i L st h => match st with
  | (2, r) :: st => some ([gk h.1 r.toNat t], i + 1, L, (0, gl h.1 r.toNat) :: st, h)
  | _ => none
def i_sld : SN := fun i L st h => match st with
  | (0, j) :: (4, _) :: st => some ([0 ≤ j ∧ j < gl h.1 0], i + 1, L, (0, h.2.2 0 j) :: st, h)
  | _ => none
def i_slen : SN := fun i L st h => match st with
  | (4, _) :: st => some ([], i + 1, L, (0, gl h.1 0) :: st, h)
  | _ => none
def i_newa (t : Nat) : SN := fun i L st h => match st with
  | (0, n) :: st => some ([0 ≤ n ∧ n ≤ 100000], i + 1, L, (2, (h.1.length : Int)) :: st, (h.1 ++ [(t, n.toNat)], zapR h.2.1 h.1.length, zap h.2.2 h.1.length))
  | _ => none
def i_new (c n : Nat) : SN := fun i L st h => some ([], i + 1, L, (2, (h.1.length : Int)) :: st, (h.1 ++ [(c + 3, n)], zapR h.2.1 h.1.length, zap h.2.2 h.1.length))
def i_oinit : SN := fun i L st h => match st with
  | (2, r) :: st => some ([r ≠ 0, st.length ≤ 4], i + 1, L, st, h)
  | _ => none
def i_copy : SN := fun i L st h => match st with
  | (0, n) :: (0, dp) :: (2, a') :: (0, sp) :: (2, a) :: st => some ([gk h.1 a.toNat 0, gk h.1 a'.toNat 0, 0 ≤ sp ∧ 0 ≤ dp ∧ 0 ≤ n ∧ sp + n ≤ gl h.1 a.toNat ∧ dp + n ≤ gl h.1 a'.toNat, st.length ≤ 4], i + 1, L, st, (h.1, h.2.1, cpy h.2.2 a.toNat sp a'.toNat dp n))
  | _ => none
/-- a literal's length, its bytes -/
def slen (k : Int) : Int := (lenJS.getD k.toNat 0 : Nat)
def sbyt (k j : Int) : Int := ((bytJS.getD k.toNat []).getD j.toNat 0).toInt
def i_sval : SN := fun i L st h => match st with
  | (3, k) :: st => some ([], i + 1, L, (5, k) :: st, h)
  | _ => none
def i_scod : SN := fun i L st h => match st with
  | (3, _) :: st => some ([], i + 1, L, (0, 0) :: st, h)
  | _ => none
def i_blen : SN := fun i L st h => match st with
  | (5, k) :: st => some ([], i + 1, L, (0, slen k) :: st, h)
  | _ => none
def i_bld : SN := fun i L st h => match st with
  | (0, j) :: (5, k) :: st => some ([0 ≤ j ∧ j < slen k], i + 1, L, (0, sbyt k j) :: st, h)
  | _ => none
/-- a call's locals -/
def entL : List MV → List MV
  | [] => []
  | (1, x) :: r => (1, x) :: (9, 0) :: entL r
  | v :: r => v :: entL r
def ent (n : Nat) (as : List MV) : List MV := entL as ++ List.replicate (n - (entL as).length) (9, 0)
/-- an end: kind 0 none, 1 int, 2 boolean, 3 long, 4 byte, 5 char -/
def rt (k : Nat) (st : List MV) (h : Mh) (r : Option MV × Mh) : Prop := match k with
  | 0 => st = [] ∧ r = (none, h)
  | 1 => ∃ x, st = [(0, x)] ∧ r = (some (0, x), h)
  | 2 => ∃ x, st = [(0, x)] ∧ (x = 0 ∨ x = 1) ∧ r = (some (0, x), h)
  | 4 => ∃ x, st = [(0, x)] ∧ (x = 0 ∨ x = 1) ∧ r = (some (0, x), h)
  | 5 => ∃ x, st = [(0, x)] ∧ (0 ≤ x ∧ x < 256) ∧ r = (some (0, x), h)
  | _ => ∃ x, st = [(1, x)] ∧ r = (some (1, x), h)
/-- a call's receiver -/
def rc (ck na : Nat) (st : List MV) (h : Mh) : Prop := match ck with
  | 0 => True
  | 1 => ∃ r : Int, st[na - 1]? = some (2, r) ∧ r ≠ 0
  | 2 => ∃ r : Int, st[na - 1]? = some (3, r)
  | c + 3 => ∃ r : Int, st[na - 1]? = some (2, r) ∧ gk h.1 r.toNat (c + 3)
def ex (cd : Nat → List MI) (ml : Nat → Nat) : Nat → Nat → Nat → Nat → List MV → List MV → Mh → Option MV × Mh → Prop
  | 0, _, _, _, _, _, _, _ => False
  | n + 1, d, y, i, L, st, h, r => match (cd y)[i]? with
    | none => False
    | some (.inl f) => match f i L st h with
      | none => False
      | some (ps, i', L', st', h') => cj ps ∧ ex cd ml n d y i' L' st' h' r
    | some (.inr (.inl k)) => rt k st h r
    | some (.inr (.inr (.inl (z, na, ck)))) => na ≤ st.length ∧ st.length ≤ na + 4 ∧ rc ck na st h ∧ (entL (st.take na).reverse).length ≤ ml z ∧ ∃ (d' : Nat) (v : Option MV) (h' : Mh), d = d' + 1 ∧ ex cd ml n d' z 0 (ent (ml z) (st.take na).reverse) [] h (v, h') ∧ ex cd ml n d y (i + 1) L (v.toList ++ st.drop na) h' r
    | some (.inr (.inr (.inr (k, f)))) => k ≤ d ∧ match f i L st h with
      | none => False
      | some (ps, i', L', st', h') => cj ps ∧ ex cd ml n d y i' L' st' h' r
theorem ex_succ {cd : Nat → List MI} {ml : Nat → Nat} : ∀ (n d y i : Nat) (L st : List MV) (h : Mh) (r : Option MV × Mh), ex cd ml n d y i L st h r → ex cd ml (n + 1) d y i L st h r := by
  intro n
  induction n with
  | zero => intro d y i L st h r q; exact q.elim
  | succ n ih =>
    intro d y i L st h r q
    unfold ex at q ⊢
    split at q
    · exact q.elim
    · split at q
      · exact q.elim
      · exact ⟨q.1, ih _ _ _ _ _ _ _ q.2⟩
    · exact q
    · obtain ⟨q1, q2, q3, q6, d', v, h', e, q4, q5⟩ := q
      exact ⟨q1, q2, q3, q6, d', v, h', e, ih _ _ _ _ _ _ _ q4, ih _ _ _ _ _ _ _ q5⟩
    · obtain ⟨q1, q2⟩ := q
      refine ⟨q1, ?_⟩
      split at q2
      · exact q2.elim
      · exact ⟨q2.1, ih _ _ _ _ _ _ _ q2.2⟩
theorem ex_le {cd : Nat → List MI} {ml : Nat → Nat} {n m d y i : Nat} {L st : List MV} {h : Mh} {r : Option MV × Mh} (hnm : n ≤ m) (q : ex cd ml n d y i L st h r) : ex cd ml m d y i L st h r := by
  induction hnm with
  | refl => exact q
  | step _ ih => exact ex_succ _ _ _ _ _ _ _ _ ih
