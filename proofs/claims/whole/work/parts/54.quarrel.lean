/-! QUARRELS: what is looked for. An entry: pair, step, from which entry, how deep -/
abbrev QE : Type := Int × Int × Nat × Nat
abbrev QS : Type := Nat × (Nat → QE)
def mq (S : QS) (p : Int) : Bool := (List.range S.1).any (fun i => decide ((S.2 i).1 = p))
theorem mq_t {S : QS} {p : Int} : mq S p = true ↔ ∃ i, i < S.1 ∧ (S.2 i).1 = p := by
  unfold mq
  rw [List.any_eq_true]
  constructor
  · rintro ⟨i, h1, h2⟩
    exact ⟨i, List.mem_range.mp h1, of_decide_eq_true h2⟩
  · rintro ⟨i, h1, h2⟩
    exact ⟨i, List.mem_range.mpr h1, decide_eq_true h2⟩
def qc (S : QS) (p b : Int) (k : Nat) : QS := if mq S p = true then S else (S.1 + 1, fun i => if i = S.1 then (p, b, k, (S.2 k).2.2.2 + 1) else S.2 i)
section QUARREL
variable (A : Int → Bool) (O1 O2 L1 L2 : Int → Int → Int)
def q1 (k : Nat) (d : Int) (T : QS × Int) : QS × Int := if T.2 = 0 then (if A d = true then (if O1 ((T.1.2 k).1 / 10) d = O2 ((T.1.2 k).1 % 10) d then (if O1 ((T.1.2 k).1 / 10) d = 2 then T else if O1 ((T.1.2 k).1 / 10) d = 3 then T else (qc T.1 (10 * L1 ((T.1.2 k).1 / 10) d + L2 ((T.1.2 k).1 % 10) d) d k, 0)) else (T.1, d)) else T) else T
def qj (k : Nat) (S : QS) : Nat → QS × Int
  | 0 => (S, 0)
  | j + 1 => q1 A O1 O2 L1 L2 k ((j : Int) + 1) (qj k S j)
def rwk (S : QS) : Nat → Nat → Int → Int
  | 0, _, r => r
  | d + 1, k, r => rwk S d (S.2 k).2.2.1 (10 * r + (S.2 k).2.1)
def rv (S : QS) (k : Nat) (step : Int) : Int := if 18 < (S.2 k).2.2.2 + 1 then -2 else rwk S (S.2 k).2.2.2 k step
def qo : Nat → QS × Option Int
  | 0 => ((1, fun _ => (0, 0, 0, 0)), none)
  | k + 1 => if (qo k).2 = none ∧ k < (qo k).1.1 then ((qj A O1 O2 L1 L2 k (qo k).1 5).1, if (qj A O1 O2 L1 L2 k (qo k).1 5).2 = 0 then none else some (rv (qj A O1 O2 L1 L2 k (qo k).1 5).1 k (qj A O1 O2 L1 L2 k (qo k).1 5).2)) else qo k
def qan : Int := (qo A O1 O2 L1 L2 100).2.getD (-1)
/-- how the entries stand -/
def WQ (n : Int) (S : QS) : Prop := 1 ≤ S.1 ∧ S.2 0 = (0, 0, 0, 0) ∧ (∀ i, i < S.1 → 0 ≤ (S.2 i).1 ∧ (S.2 i).1 < 100 ∧ (S.2 i).1 / 10 < n ∧ (S.2 i).1 % 10 < n ∧ (S.2 i).2.2.1 < S.1 ∧ (S.2 i).2.2.2 ≤ i ∧ 0 ≤ (S.2 i).2.1 ∧ (S.2 i).2.1 ≤ 5 ∧ (¬ i = 0 → (S.2 i).2.2.1 < i ∧ (S.2 i).2.2.2 = (S.2 (S.2 i).2.2.1).2.2.2 + 1)) ∧ (S.1 : Int) ≤ cnt (mq S) 100
variable {A : Int → Bool} {O1 O2 L1 L2 : Int → Int → Int}
theorem WQ_100 {n : Int} {S : QS} (h : WQ n S) : S.1 ≤ 100 := by
  have := cnt_b (mq S) 100
  have := h.2.2.2
  omega
theorem WQ_0 {n : Int} (h0 : 0 < n) : WQ n (1, fun _ => (0, 0, 0, 0)) := by
  refine ⟨Nat.le_refl _, rfl, fun i hi => ?_, ?_⟩
  · have : i = 0 := by have h : i < 1 := hi; omega
    subst this
    exact ⟨by show (0 : Int) ≤ 0; omega, by show (0 : Int) < 100; omega, by show (0 : Int) / 10 < n; omega, by show (0 : Int) % 10 < n; omega, by show 0 < 1; omega, by show 0 ≤ 0; omega, by show (0 : Int) ≤ 0; omega, by show (0 : Int) ≤ 5; omega, fun q => absurd rfl q⟩
  · have := cnt_lt (p := fun _ => false) (q := mq (1, fun _ => (0, 0, 0, 0))) 100 (fun i _ _ q => absurd q (by decide)) ⟨0, by omega, by omega, mq_t.mpr ⟨0, by show 0 < 1; omega, rfl⟩, by decide⟩
    have z := cnt_b (fun _ : Int => false) 100
    show ((1 : Nat) : Int) ≤ _
    omega
theorem qc_n {S : QS} {p b : Int} {k : Nat} (h : mq S p = true) : qc S p b k = S := if_pos h
theorem qc_p {S : QS} {p b : Int} {k : Nat} (h : ¬ mq S p = true) : qc S p b k = (S.1 + 1, fun i => if i = S.1 then (p, b, k, (S.2 k).2.2.2 + 1) else S.2 i) := if_neg h
/-- an entry that is there stays as it is -/
theorem qc_o {S : QS} {p b : Int} {k i : Nat} (hi : i < S.1) : (qc S p b k).2 i = S.2 i ∧ S.1 ≤ (qc S p b k).1 := by
  by_cases h : mq S p = true
  · rw [qc_n h]; exact ⟨rfl, Nat.le_refl _⟩
  · rw [qc_p h]
    exact ⟨if_neg (by omega), by show S.1 ≤ S.1 + 1; omega⟩
theorem mq_c {S : QS} {p b : Int} {k : Nat} (h : ¬ mq S p = true) (x : Int) : mq (qc S p b k) x = true ↔ (x = p ∨ mq S x = true) := by
  rw [qc_p h, mq_t, mq_t]
  constructor
  · rintro ⟨i, h1, h2⟩
    have h1' : i < S.1 + 1 := h1
    have h2' : (if i = S.1 then (p, b, k, (S.2 k).2.2.2 + 1) else S.2 i : QE).1 = x := h2
    by_cases e : i = S.1
    · rw [if_pos e] at h2'; exact Or.inl h2'.symm
    · rw [if_neg e] at h2'; exact Or.inr ⟨i, by omega, h2'⟩
  · rintro (e | ⟨i, h1, h2⟩)
    · refine ⟨S.1, by show S.1 < S.1 + 1; omega, ?_⟩
      show (if S.1 = S.1 then (p, b, k, (S.2 k).2.2.2 + 1) else S.2 S.1 : QE).1 = x
      rw [if_pos rfl]; exact e.symm
    · refine ⟨i, by show i < S.1 + 1; omega, ?_⟩
      show (if i = S.1 then (p, b, k, (S.2 k).2.2.2 + 1) else S.2 i : QE).1 = x
      rw [if_neg (by omega)]; exact h2
theorem WQ_c {n x y b : Int} {S : QS} {k : Nat} (h10 : n ≤ 10) (h : WQ n S) (hx : 0 ≤ x ∧ x < n) (hy : 0 ≤ y ∧ y < n) (hb : 1 ≤ b ∧ b ≤ 5) (hk : k < S.1) : WQ n (qc S (10 * x + y) b k) := by
  by_cases c : mq S (10 * x + y) = true
  · rw [qc_n c]; exact h
  · obtain ⟨w1, w2, w3, w4⟩ := h
    have hc : (S.1 : Int) + 1 ≤ cnt (mq (qc S (10 * x + y) b k)) 100 := by
      have := cnt_lt (p := mq S) (q := mq (qc S (10 * x + y) b k)) 100 (fun i _ _ q => (mq_c c i).mpr (Or.inr q)) ⟨10 * x + y, by omega, by omega, (mq_c c _).mpr (Or.inl rfl), c⟩
      omega
    rw [qc_p c] at hc ⊢
    refine ⟨by show 1 ≤ S.1 + 1; omega, ?_, fun i hi => ?_, by show ((S.1 + 1 : Nat) : Int) ≤ _; exact hc⟩
    · show (if 0 = S.1 then (10 * x + y, b, k, (S.2 k).2.2.2 + 1) else S.2 0 : QE) = _
      rw [if_neg (by omega)]; exact w2
    · have hi' : i < S.1 + 1 := hi
      show 0 ≤ (if i = S.1 then (10 * x + y, b, k, (S.2 k).2.2.2 + 1) else S.2 i : QE).1 ∧ _
      have dk := (w3 k hk).2.2.2.2.2.1
      by_cases e : i = S.1
      · subst e
        simp only [if_true]
        refine ⟨by omega, by omega, by omega, by omega, by omega, by omega, by omega, by omega, fun _ => ⟨hk, ?_⟩⟩
        rw [if_neg (by omega)]
      · simp only [if_neg e]
        obtain ⟨a1, a2, a3, a4, a5, a6, a7, a8, a9⟩ := w3 i (by omega)
        refine ⟨a1, a2, a3, a4, by omega, a6, a7, a8, fun q => ⟨(a9 q).1, ?_⟩⟩
        rw [if_neg (by omega)]; exact (a9 q).2
theorem q1_o {n : Int} {k : Nat} {d : Int} {T : QS × Int} (h10 : n ≤ 10) (hL : ∀ s d, (0 ≤ L1 s d ∧ L1 s d < n) ∧ (0 ≤ L2 s d ∧ L2 s d < n)) (hd : 1 ≤ d ∧ d ≤ 5) (hW : WQ n T.1) (hk : k < T.1.1) : WQ n (q1 A O1 O2 L1 L2 k d T).1 ∧ k < (q1 A O1 O2 L1 L2 k d T).1.1 ∧ (q1 A O1 O2 L1 L2 k d T).1.2 k = T.1.2 k := by
  unfold q1
  split
  · split
    · split
      · split
        · exact ⟨hW, hk, rfl⟩
        · split
          · exact ⟨hW, hk, rfl⟩
          · have o := qc_o (p := 10 * L1 ((T.1.2 k).1 / 10) d + L2 ((T.1.2 k).1 % 10) d) (b := d) (k := k) hk
            exact ⟨WQ_c h10 hW (hL _ _).1 (hL _ _).2 hd hk, Nat.lt_of_lt_of_le hk o.2, o.1⟩
      · exact ⟨hW, hk, rfl⟩
    · exact ⟨hW, hk, rfl⟩
  · exact ⟨hW, hk, rfl⟩
theorem qj_o {n : Int} {k : Nat} {S : QS} (h10 : n ≤ 10) (hL : ∀ s d, (0 ≤ L1 s d ∧ L1 s d < n) ∧ (0 ≤ L2 s d ∧ L2 s d < n)) (hW : WQ n S) (hk : k < S.1) : ∀ j : Nat, j ≤ 5 → WQ n (qj A O1 O2 L1 L2 k S j).1 ∧ k < (qj A O1 O2 L1 L2 k S j).1.1 ∧ (qj A O1 O2 L1 L2 k S j).1.2 k = S.2 k
  | 0, _ => ⟨hW, hk, rfl⟩
  | j + 1, hj => by
    obtain ⟨a1, a2, a3⟩ := qj_o h10 hL hW hk j (by omega)
    obtain ⟨b1, b2, b3⟩ := q1_o (A := A) (O1 := O1) (O2 := O2) (d := (j : Int) + 1) h10 hL (by omega) a1 a2
    exact ⟨b1, b2, b3.trans a3⟩
theorem qj_f {k : Nat} {S : QS} {j : Nat} (h : ¬ (qj A O1 O2 L1 L2 k S j).2 = 0) : ∀ i : Nat, qj A O1 O2 L1 L2 k S (j + i) = qj A O1 O2 L1 L2 k S j
  | 0 => rfl
  | i + 1 => by
    have ih := qj_f h i
    show q1 A O1 O2 L1 L2 k _ (qj A O1 O2 L1 L2 k S (j + i)) = _
    rw [ih]
    unfold q1
    rw [if_neg h]
theorem qo_W {n : Int} (h0 : 0 < n) (h10 : n ≤ 10) (hL : ∀ s d, (0 ≤ L1 s d ∧ L1 s d < n) ∧ (0 ≤ L2 s d ∧ L2 s d < n)) : ∀ k, WQ n (qo A O1 O2 L1 L2 k).1
  | 0 => WQ_0 h0
  | k + 1 => by
    have ih := qo_W h0 h10 hL k
    unfold qo
    split
    · rename_i c
      exact (qj_o h10 hL ih c.2 5 (Nat.le_refl _)).1
    · exact ih
theorem qo_s (k : Nat) : qo A O1 O2 L1 L2 (k + 1) = if (qo A O1 O2 L1 L2 k).2 = none ∧ k < (qo A O1 O2 L1 L2 k).1.1 then ((qj A O1 O2 L1 L2 k (qo A O1 O2 L1 L2 k).1 5).1, if (qj A O1 O2 L1 L2 k (qo A O1 O2 L1 L2 k).1 5).2 = 0 then none else some (rv (qj A O1 O2 L1 L2 k (qo A O1 O2 L1 L2 k).1 5).1 k (qj A O1 O2 L1 L2 k (qo A O1 O2 L1 L2 k).1 5).2)) else qo A O1 O2 L1 L2 k := rfl
theorem qo_e {k : Nat} (h : ¬ ((qo A O1 O2 L1 L2 k).2 = none ∧ k < (qo A O1 O2 L1 L2 k).1.1)) : ∀ j : Nat, qo A O1 O2 L1 L2 (k + j) = qo A O1 O2 L1 L2 k
  | 0 => rfl
  | j + 1 => by
    have ih := qo_e h j
    show qo A O1 O2 L1 L2 ((k + j) + 1) = _
    have : ¬ ((qo A O1 O2 L1 L2 (k + j)).2 = none ∧ k + j < (qo A O1 O2 L1 L2 (k + j)).1.1) := by
      rw [ih]
      intro q
      exact h ⟨q.1, by omega⟩
    rw [qo_s, if_neg this, ih]
theorem qan_n {k : Nat} (hk : k ≤ 100) (h1 : (qo A O1 O2 L1 L2 k).2 = none) (h2 : ¬ k < (qo A O1 O2 L1 L2 k).1.1) : qan A O1 O2 L1 L2 = -1 := by
  have := qo_e (A := A) (O1 := O1) (O2 := O2) (L1 := L1) (L2 := L2) (k := k) (fun q => h2 q.2) (100 - k)
  rw [show k + (100 - k) = 100 by omega] at this
  unfold qan
  rw [this, h1]
  rfl
theorem qo_n {k : Nat} (h1 : (qo A O1 O2 L1 L2 k).2 = none) (h2 : k < (qo A O1 O2 L1 L2 k).1.1) : qo A O1 O2 L1 L2 (k + 1) = ((qj A O1 O2 L1 L2 k (qo A O1 O2 L1 L2 k).1 5).1, if (qj A O1 O2 L1 L2 k (qo A O1 O2 L1 L2 k).1 5).2 = 0 then none else some (rv (qj A O1 O2 L1 L2 k (qo A O1 O2 L1 L2 k).1 5).1 k (qj A O1 O2 L1 L2 k (qo A O1 O2 L1 L2 k).1 5).2)) := if_pos ⟨h1, h2⟩
theorem qan_f {k : Nat} (hk : k < 100) (h1 : (qo A O1 O2 L1 L2 k).2 = none) (h2 : k < (qo A O1 O2 L1 L2 k).1.1) (h3 : ¬ (qj A O1 O2 L1 L2 k (qo A O1 O2 L1 L2 k).1 5).2 = 0) : qan A O1 O2 L1 L2 = rv (qj A O1 O2 L1 L2 k (qo A O1 O2 L1 L2 k).1 5).1 k (qj A O1 O2 L1 L2 k (qo A O1 O2 L1 L2 k).1 5).2 := by
  have e := qo_n h1 h2
  rw [if_neg h3] at e
  have := qo_e (A := A) (O1 := O1) (O2 := O2) (L1 := L1) (L2 := L2) (k := k + 1) (fun q => by rw [e] at q; exact absurd q.1 (by simp)) (100 - (k + 1))
  rw [show k + 1 + (100 - (k + 1)) = 100 by omega] at this
  unfold qan
  rw [this, e]
  rfl
/-- rows told stay small -/
theorem rwk_s (S : QS) (d k : Nat) (r : Int) : rwk S (d + 1) k r = rwk S d (S.2 k).2.2.1 (10 * r + (S.2 k).2.1) := rfl
end QUARREL
