/-! TOKENS: where they begin and end, what they are -/
def ltr (c : Int) : Bool := decide (97 ≤ c ∧ c ≤ 122)
def dgt (c : Int) : Bool := decide (48 ≤ c ∧ c ≤ 57)
def blk (c : Int) : Bool := decide (c = 32 ∨ c = 10)
theorem ltr_t {c : Int} : ltr c = true ↔ 97 ≤ c ∧ c ≤ 122 := decide_eq_true_iff
theorem dgt_t {c : Int} : dgt c = true ↔ 48 ≤ c ∧ c ≤ 57 := decide_eq_true_iff
theorem blk_t {c : Int} : blk c = true ↔ c = 32 ∨ c = 10 := decide_eq_true_iff
/-- on to the first place where it isn't so -/
def rn (P : Int → Bool) (b : Int → Int) (sz : Int) : Nat → Int → Int
  | 0, p => p
  | f + 1, p => if p < sz ∧ P (b p) = true then rn P b sz f (p + 1) else p
theorem rn_y {P : Int → Bool} {b : Int → Int} {sz p : Int} {f : Nat} (h : p < sz ∧ P (b p) = true) : rn P b sz (f + 1) p = rn P b sz f (p + 1) := if_pos h
theorem rn_n {P : Int → Bool} {b : Int → Int} {sz p : Int} {f : Nat} (h : ¬ (p < sz ∧ P (b p) = true)) : rn P b sz f p = p := by
  cases f with
  | zero => rfl
  | succ f => exact if_neg h
theorem rn_b {P : Int → Bool} {b : Int → Int} {sz : Int} : ∀ (f : Nat) (p : Int), p ≤ rn P b sz f p ∧ (p ≤ sz → rn P b sz f p ≤ sz)
  | 0, p => ⟨Int.le_refl _, fun h => h⟩
  | f + 1, p => by
    by_cases c : p < sz ∧ P (b p) = true
    · rw [rn_y c]
      have := rn_b (P := P) (b := b) (sz := sz) f (p + 1)
      exact ⟨by omega, fun _ => this.2 (by omega)⟩
    · rw [rn_n c]; exact ⟨Int.le_refl _, fun h => h⟩
theorem rn_f {P : Int → Bool} {b : Int → Int} {sz : Int} : ∀ (f g : Nat) (p : Int), sz - p ≤ f → sz - p ≤ g → rn P b sz f p = rn P b sz g p
  | 0, g, p, h1, _ => by rw [rn_n (f := g) (by omega)]; rfl
  | f + 1, 0, p, _, h2 => by rw [rn_n (f := f + 1) (by omega)]; rfl
  | f + 1, g + 1, p, h1, h2 => by
    by_cases c : p < sz ∧ P (b p) = true
    · rw [rn_y c, rn_y c, rn_f f g (p + 1) (by omega) (by omega)]
    · rw [rn_n c, rn_n c]
/-- one on, with the same fuel -/
theorem rn_1 {P : Int → Bool} {b : Int → Int} {sz p : Int} (h0 : 0 ≤ p) (h1 : sz ≤ 160) (h : p < sz ∧ P (b p) = true) : rn P b sz 161 p = rn P b sz 161 (p + 1) := by
  rw [show (161 : Nat) = 160 + 1 from rfl, rn_y h]
  exact rn_f _ _ _ (by omega) (by omega)
theorem rn_e {P : Int → Bool} {b : Int → Int} {sz : Int} : ∀ (f : Nat) (p : Int), sz - p ≤ f → ¬ (rn P b sz f p < sz ∧ P (b (rn P b sz f p)) = true)
  | 0, p, h => by show ¬ (p < sz ∧ _); omega
  | f + 1, p, h => by
    by_cases c : p < sz ∧ P (b p) = true
    · rw [rn_y c]; exact rn_e f (p + 1) (by omega)
    · rw [rn_n c]; exact c
theorem rn_i {P : Int → Bool} {b : Int → Int} {sz : Int} : ∀ (f : Nat) (p i : Int), p ≤ i → i < rn P b sz f p → P (b i) = true
  | 0, p, i, h1, h2 => by have : i < p := h2; omega
  | f + 1, p, i, h1, h2 => by
    by_cases c : p < sz ∧ P (b p) = true
    · rw [rn_y c] at h2
      by_cases e : i = p
      · subst e; exact c.2
      · exact rn_i f (p + 1) i (by omega) h2
    · rw [rn_n c] at h2; omega
section TOKENS
variable (b : Int → Int) (sz : Int)
def nxp (p : Int) : Int := rn blk b sz 161 p
def ten (p : Int) : Int := if ltr (b p) = true then rn ltr b sz 161 (p + 1) else if dgt (b p) = true then rn dgt b sz 161 (p + 1) else p + 1
/-- a literal stands there -/
def spl (k : Nat) (p e : Int) : Bool := decide (e - p = slen k) && (List.range (lenJS.getD k 0)).all (fun i => decide (b (p + i) = sbyt k i))
def wdc (p e : Int) : Int := if spl b 1 p e = true then 3 else if spl b 2 p e = true then 4 else if spl b 3 p e = true then 5 else if spl b 4 p e = true then 6 else if spl b 5 p e = true then 7 else if spl b 6 p e = true then 8 else if spl b 7 p e = true then 9 else if spl b 8 p e = true then 10 else if spl b 9 p e = true then 11 else if spl b 10 p e = true then 12 else if spl b 11 p e = true then 13 else 1
def sgc (c : Int) : Bool := decide (c = 40 ∨ c = 41 ∨ c = 42 ∨ c = 43 ∨ c = 45 ∨ c = 59 ∨ c = 60 ∨ c = 61)
/-- what token begins at a place -/
def tko (p : Int) : Int := if p < sz then (if ltr (b p) = true then wdc b p (ten b sz p) else if dgt (b p) = true then (if ten b sz p - p ≤ 4 then 2 else 1) else if sgc (b p) = true then b p else 1) else 0
def nm (p : Int) : Nat → Int
  | 0 => 0
  | k + 1 => 10 * nm p k + b (p + k) - 48
def SP : Nat → Int
  | 0 => nxp b sz 0
  | j + 1 => if SP j < sz then nxp b sz (ten b sz (SP j)) else sz
def TK (j : Nat) : Int := tko b sz (SP b sz j)
def NV (j : Nat) : Int := nm b (SP b sz j) (ten b sz (SP b sz j) - SP b sz j).toNat
variable {b : Int → Int} {sz : Int}
theorem ten_b {p : Int} (h : p < sz) : p < ten b sz p ∧ ten b sz p ≤ sz := by
  unfold ten
  split
  · have := rn_b (P := ltr) (b := b) (sz := sz) 161 (p + 1)
    exact ⟨by omega, this.2 (by omega)⟩
  · split
    · have := rn_b (P := dgt) (b := b) (sz := sz) 161 (p + 1)
      exact ⟨by omega, this.2 (by omega)⟩
    · omega
theorem nxp_b {p : Int} : p ≤ nxp b sz p ∧ (p ≤ sz → nxp b sz p ≤ sz) := rn_b _ _
theorem nxp_k {p : Int} (h0 : 0 ≤ p) (h1 : sz ≤ 160) (h2 : nxp b sz p < sz) : ¬ (b (nxp b sz p) = 32 ∨ b (nxp b sz p) = 10) := fun q => rn_e (P := blk) (b := b) (sz := sz) 161 p (by omega) ⟨h2, blk_t.mpr q⟩
theorem nxp_y {p : Int} (h0 : 0 ≤ p) (h1 : sz ≤ 160) (h : p < sz) (h2 : b p = 32 ∨ b p = 10) : nxp b sz p = nxp b sz (p + 1) := rn_1 h0 h1 ⟨h, blk_t.mpr h2⟩
theorem nxp_n {p : Int} (h : ¬ (p < sz ∧ (b p = 32 ∨ b p = 10))) : nxp b sz p = p := rn_n (fun q => h ⟨q.1, blk_t.mp q.2⟩)
theorem SP_s (j : Nat) : SP b sz (j + 1) = if SP b sz j < sz then nxp b sz (ten b sz (SP b sz j)) else sz := rfl
theorem SP_b (h0 : 0 ≤ sz) : ∀ j : Nat, 0 ≤ SP b sz j ∧ SP b sz j ≤ sz
  | 0 => by have := nxp_b (b := b) (sz := sz) (p := 0); exact ⟨this.1, this.2 h0⟩
  | j + 1 => by
    have ih := SP_b h0 j
    rw [SP_s]
    split
    · rename_i c
      have t := ten_b (b := b) c
      have n := nxp_b (b := b) (sz := sz) (p := ten b sz (SP b sz j))
      exact ⟨by omega, n.2 t.2⟩
    · omega
theorem SP_g (h0 : 0 ≤ sz) : ∀ j : Nat, SP b sz j < sz → (j : Int) ≤ SP b sz j
  | 0, _ => (SP_b h0 0).1
  | j + 1, h => by
    rw [SP_s] at h ⊢
    by_cases c : SP b sz j < sz
    · rw [if_pos c] at h ⊢
      have ih := SP_g h0 j c
      have t := ten_b (b := b) c
      have n := nxp_b (b := b) (sz := sz) (p := ten b sz (SP b sz j))
      omega
    · rw [if_neg c] at h; omega
theorem SP_c (h0 : 0 ≤ sz) (h1 : sz ≤ 160) : ∃ c : Nat, c ≤ 160 ∧ SP b sz c = sz ∧ ∀ j, j < c → SP b sz j < sz := by
  have key : ∀ j : Nat, (∃ c : Nat, c ≤ j ∧ SP b sz c = sz ∧ ∀ i, i < c → SP b sz i < sz) ∨ (∀ i, i ≤ j → SP b sz i < sz) := by
    intro j
    induction j with
    | zero =>
      have := SP_b (b := b) h0 0
      by_cases c : SP b sz 0 = sz
      · exact Or.inl ⟨0, Nat.le_refl _, c, fun i hi => by omega⟩
      · refine Or.inr (fun i hi => ?_)
        have : i = 0 := by omega
        subst this; omega
    | succ j ih =>
      rcases ih with ⟨c, q1, q2, q3⟩ | q
      · exact Or.inl ⟨c, by omega, q2, q3⟩
      · have := SP_b (b := b) h0 (j + 1)
        by_cases c : SP b sz (j + 1) = sz
        · exact Or.inl ⟨j + 1, Nat.le_refl _, c, fun i hi => q i (by omega)⟩
        · refine Or.inr (fun i hi => ?_)
          by_cases e : i = j + 1
          · subst e; omega
          · exact q i (by omega)
  rcases key 160 with ⟨c, q⟩ | q
  · exact ⟨c, q⟩
  · have := SP_g (b := b) h0 160 (q 160 (Nat.le_refl _))
    have := q 160 (Nat.le_refl _)
    omega
/-- what begins there isn't blank -/
theorem SP_k (h0 : 0 ≤ sz) (h1 : sz ≤ 160) (j : Nat) (h : SP b sz j < sz) : ¬ (b (SP b sz j) = 32 ∨ b (SP b sz j) = 10) := by
  cases j with
  | zero => exact nxp_k (Int.le_refl _) h1 h
  | succ j =>
    rw [SP_s] at h ⊢
    by_cases c : SP b sz j < sz
    · rw [if_pos c] at h ⊢
      have := SP_b (b := b) h0 j
      have t := ten_b (b := b) c
      exact nxp_k (by omega) h1 h
    · rw [if_neg c] at h; omega
theorem TK_e {j : Nat} (h : SP b sz j = sz) : TK b sz j = 0 := by
  unfold TK tko
  rw [h, if_neg (by omega)]
theorem wdc_r (p e : Int) : 1 ≤ wdc b p e ∧ wdc b p e ≤ 13 ∧ ¬ wdc b p e = 2 := by
  unfold wdc
  repeat' split
  all_goals omega
theorem tko_z {p : Int} : tko b sz p = 0 ↔ ¬ p < sz := by
  unfold tko
  by_cases c : p < sz
  · rw [if_pos c]
    constructor
    · intro q
      split at q
      · have := wdc_r (b := b) p (ten b sz p); omega
      · split at q
        · split at q <;> omega
        · split at q
          · rename_i c3
            have := of_decide_eq_true c3
            omega
          · omega
    · intro q; exact absurd c q
  · rw [if_neg c]; exact ⟨fun _ => c, fun _ => rfl⟩
/-- a digit's run of four at most is small -/
theorem nm_b {p e : Int} (h : ∀ i, p ≤ i → i < e → 48 ≤ b i ∧ b i ≤ 57) : ∀ k : Nat, (k : Int) ≤ e - p → 0 ≤ nm b p k ∧ nm b p k < 10 ^ k
  | 0, _ => ⟨Int.le_refl _, by show (0 : Int) < 1; omega⟩
  | k + 1, hk => by
    have ih := nm_b h k (by omega)
    have d := h (p + k) (by omega) (by omega)
    have e2 : (10 : Int) ^ (k + 1) = 10 ^ k * 10 := Int.pow_succ _ _
    have s : nm b p (k + 1) = 10 * nm b p k + b (p + k) - 48 := rfl
    rw [s, e2]
    omega
end TOKENS
/-- how words are told by numbers -/
def ph (f : Nat → Int) : Nat → Int
  | 0 => 0
  | k + 1 => 27 * ph f k + f k
theorem ph_b {f : Nat → Int} : ∀ k : Nat, (∀ i, i < k → 1 ≤ f i ∧ f i ≤ 26) → 0 ≤ ph f k ∧ (0 < k → 1 ≤ ph f k)
  | 0, _ => ⟨Int.le_refl _, fun q => by omega⟩
  | k + 1, h => by
    have ih := ph_b k (fun i hi => h i (by omega))
    have := h k (by omega)
    have s : ph f (k + 1) = 27 * ph f k + f k := rfl
    rw [s]
    omega
theorem ph_i {f g : Nat → Int} : ∀ (k j : Nat), (∀ i, i < k → 1 ≤ f i ∧ f i ≤ 26) → (∀ i, i < j → 1 ≤ g i ∧ g i ≤ 26) → ph f k = ph g j → k = j ∧ ∀ i, i < k → f i = g i
  | 0, 0, _, _, _ => ⟨rfl, fun i hi => by omega⟩
  | 0, j + 1, _, hg, h => by
    have := (ph_b (j + 1) hg).2 (by omega)
    have z : ph f 0 = 0 := rfl
    omega
  | k + 1, 0, hf, _, h => by
    have := (ph_b (k + 1) hf).2 (by omega)
    have z : ph g 0 = 0 := rfl
    omega
  | k + 1, j + 1, hf, hg, h => by
    have s1 : ph f (k + 1) = 27 * ph f k + f k := rfl
    have s2 : ph g (j + 1) = 27 * ph g j + g j := rfl
    rw [s1, s2] at h
    have a := hf k (by omega)
    have c := hg j (by omega)
    obtain ⟨e1, e2⟩ := ph_i k j (fun i hi => hf i (by omega)) (fun i hi => hg i (by omega)) (by omega)
    subst e1
    refine ⟨rfl, fun i hi => ?_⟩
    by_cases e : i = k
    · subst e; omega
    · exact e2 i (by omega)
theorem ph_c {f g : Nat → Int} : ∀ k : Nat, (∀ i, i < k → f i = g i) → ph f k = ph g k
  | 0, _ => rfl
  | k + 1, h => by
    have s1 : ph f (k + 1) = 27 * ph f k + f k := rfl
    have s2 : ph g (k + 1) = 27 * ph g k + g k := rfl
    rw [s1, s2, ph_c k (fun i hi => h i (by omega)), h k (by omega)]
/-- the number of a word of the language -/
def hsv (k : Nat) : Int := [0, 394691, 220309, 423, 1111, 10631, 495765, 17186, 247664, 2140353280, 10495135, 11570].getD k 0
theorem hsv_a : ∀ k : Fin 12, 1 ≤ k.val → ph (fun i => sbyt k.val i - 96) (lenJS.getD k.val 0) = hsv k.val ∧ (∀ i : Fin 8, i.val < lenJS.getD k.val 0 → 97 ≤ sbyt k.val i.val ∧ sbyt k.val i.val ≤ 122) ∧ lenJS.getD k.val 0 ≤ 7 ∧ slen k.val = (lenJS.getD k.val 0 : Nat) := by decide +kernel
theorem hsv_d : ∀ k j : Fin 12, hsv k.val = hsv j.val → k = j := by decide +kernel
theorem spl_t {b : Int → Int} {k : Nat} {p e : Int} : spl b k p e = true ↔ e - p = slen k ∧ ∀ i : Nat, i < lenJS.getD k 0 → b (p + i) = sbyt k i := by
  unfold spl
  rw [Bool.and_eq_true, decide_eq_true_iff, List.all_eq_true]
  constructor
  · rintro ⟨h1, h2⟩
    exact ⟨h1, fun i hi => of_decide_eq_true (h2 i (List.mem_range.mpr hi))⟩
  · rintro ⟨h1, h2⟩
    exact ⟨h1, fun i hi => decide_eq_true (h2 i (List.mem_range.mp hi))⟩
/-- a word's number tells the word -/
theorem spl_h {b : Int → Int} {p : Int} {n k : Nat} (hk : 1 ≤ k ∧ k ≤ 11) (hl : ∀ i : Nat, i < n → 97 ≤ b (p + i) ∧ b (p + i) ≤ 122) : spl b k p (p + n) = true ↔ ph (fun i => b (p + i) - 96) n = hsv k := by
  obtain ⟨a1, a2, a3, a4⟩ := hsv_a ⟨k, by omega⟩ hk.1
  simp only at a1 a2 a3 a4
  rw [spl_t, a4, ← a1]
  constructor
  · rintro ⟨h1, h2⟩
    have e : n = lenJS.getD k 0 := by omega
    rw [e]
    exact ph_c _ (fun i hi => by show b (p + i) - 96 = sbyt k i - 96; rw [h2 i hi])
  · intro h
    obtain ⟨e1, e2⟩ := ph_i n (lenJS.getD k 0) (fun i hi => by have := hl i hi; show 1 ≤ b (p + i) - 96 ∧ b (p + i) - 96 ≤ 26; omega) (fun i hi => by have := a2 ⟨i, by omega⟩ hi; simp only at this; show 1 ≤ sbyt k i - 96 ∧ sbyt k i - 96 ≤ 26; omega) h
    refine ⟨by omega, fun i hi => ?_⟩
    have e2' : b (p + i) - 96 = sbyt k i - 96 := e2 i (by omega)
    omega
