/-! WHAT A TEXT IS: ok, the token reached, the doings -/
abbrev RS : Type := Bool × Nat × List Int
def opT (t : Int) : Int := if t = 42 then -18 else 0
def opS (t : Int) : Int := if t = 43 then -16 else if t = 45 then -17 else 0
def opA (t : Int) : Int := if t = 6 then -12 else 0
def opO (t : Int) : Int := if t = 5 then -11 else 0
section PARSE
variable (T V : Nat → Int)
def pch (it : Nat → List Int → RS) (op : Int → Int) : Nat → Nat → List Int → RS
  | 0, n, c => (true, n, c)
  | f + 1, n, c => if op (T n) = 0 then (true, n, c) else if (it (n + 1) c).1 = true then pch it op f (it (n + 1) c).2.1 ((it (n + 1) c).2.2 ++ [op (T n)]) else it (n + 1) c
def pit (it : Nat → List Int → RS) (op : Int → Int) (n : Nat) (c : List Int) : RS := if (it n c).1 = true then pch T it op 160 (it n c).2.1 (it n c).2.2 else it n c
def pon (k : Nat) (r1 rE : Nat → List Int → RS) (n : Nat) (c : List Int) : RS := if 8 ≤ T n ∧ T n < 14 then (true, n + 1, c ++ [-1 - (T n - 8)]) else if T n = 2 then (true, n + 1, c ++ [V n]) else if k = 0 then (false, n, c) else if T n = 45 then (if (r1 (n + 1) c).1 = true then (true, (r1 (n + 1) c).2.1, (r1 (n + 1) c).2.2 ++ [-19]) else r1 (n + 1) c) else if T n = 40 then (if (rE (n + 1) c).1 = true then (if T (rE (n + 1) c).2.1 = 41 then (true, (rE (n + 1) c).2.1 + 1, (rE (n + 1) c).2.2) else (false, (rE (n + 1) c).2.1, (rE (n + 1) c).2.2)) else rE (n + 1) c) else (false, n, c)
def pcm (su : Nat → List Int → RS) (n : Nat) (c : List Int) : RS := if (su n c).1 = true then (if T (su n c).2.1 = 60 ∨ T (su n c).2.1 = 61 then (if (su ((su n c).2.1 + 1) (su n c).2.2).1 = true then (true, (su ((su n c).2.1 + 1) (su n c).2.2).2.1, (su ((su n c).2.1 + 1) (su n c).2.2).2.2 ++ [if T (su n c).2.1 = 60 then -14 else -15]) else su ((su n c).2.1 + 1) (su n c).2.2) else su n c) else su n c
def pno (k : Nat) (ng cm : Nat → List Int → RS) (n : Nat) (c : List Int) : RS := if T n = 7 then (if k = 0 then (false, n, c) else if (ng (n + 1) c).1 = true then (true, (ng (n + 1) c).2.1, (ng (n + 1) c).2.2 ++ [-13]) else ng (n + 1) c) else cm n c
def pB (k : Nat) (rc : Nat → Nat → List Int → RS) (z : Nat) : Nat → List Int → RS := if z = 31 then pon T V k (rc 31) (rc 25) else if z = 30 then pit T (pon T V k (rc 31) (rc 25)) opT else if z = 29 then pit T (pit T (pon T V k (rc 31) (rc 25)) opT) opS else if z = 28 then pcm T (pit T (pit T (pon T V k (rc 31) (rc 25)) opT) opS) else if z = 27 then pno T k (rc 27) (pcm T (pit T (pit T (pon T V k (rc 31) (rc 25)) opT) opS)) else if z = 26 then pit T (pno T k (rc 27) (pcm T (pit T (pit T (pon T V k (rc 31) (rc 25)) opT) opS))) opA else pit T (pit T (pno T k (rc 27) (pcm T (pit T (pit T (pon T V k (rc 31) (rc 25)) opT) opS))) opA) opO
def pA : Nat → Nat → Nat → List Int → RS
  | 0 => pB T V 0 (fun _ n c => (false, n, c))
  | k + 1 => pB T V (k + 1) (pA k)
def pR (k z : Nat) : Nat → List Int → RS := match k with
  | 0 => fun n c => (false, n, c)
  | k + 1 => pA T V k z
theorem pA_31 (k : Nat) : pA T V k 31 = pon T V k (pR T V k 31) (pR T V k 25) := by cases k <;> rfl
theorem pA_30 (k : Nat) : pA T V k 30 = pit T (pA T V k 31) opT := by cases k <;> rfl
theorem pA_29 (k : Nat) : pA T V k 29 = pit T (pA T V k 30) opS := by cases k <;> rfl
theorem pA_28 (k : Nat) : pA T V k 28 = pcm T (pA T V k 29) := by cases k <;> rfl
theorem pA_27 (k : Nat) : pA T V k 27 = pno T k (pR T V k 27) (pA T V k 28) := by cases k <;> rfl
theorem pA_26 (k : Nat) : pA T V k 26 = pit T (pA T V k 27) opA := by cases k <;> rfl
theorem pA_25 (k : Nat) : pA T V k 25 = pit T (pA T V k 26) opO := by cases k <;> rfl
/-- a part, all of a text: ok, the token reached, the doings, how many of them are those of take -/
def ppt (key : Int) (n : Nat) (c : List Int) : RS := if T n = key then (if (pA T V 5 25 (n + 1) c).1 = true then (if T (pA T V 5 25 (n + 1) c).2.1 = 59 then (true, (pA T V 5 25 (n + 1) c).2.1 + 1, (pA T V 5 25 (n + 1) c).2.2) else (false, (pA T V 5 25 (n + 1) c).2.1, (pA T V 5 25 (n + 1) c).2.2)) else pA T V 5 25 (n + 1) c) else (false, n, c)
def prd : RS := if (ppt T V 3 0 []).1 = true then (if (ppt T V 4 (ppt T V 3 0 []).2.1 (ppt T V 3 0 []).2.2).1 = true then (decide (T (ppt T V 4 (ppt T V 3 0 []).2.1 (ppt T V 3 0 []).2.2).2.1 = 0), (ppt T V 4 (ppt T V 3 0 []).2.1 (ppt T V 3 0 []).2.2).2) else ppt T V 4 (ppt T V 3 0 []).2.1 (ppt T V 3 0 []).2.2) else ppt T V 3 0 []
/-- how far it reads -/
def GdI (N : Nat) (it : Nat → List Int → RS) : Prop := ∀ (n : Nat) (c : List Int), n ≤ N → n ≤ (it n c).2.1 ∧ (it n c).2.1 ≤ N ∧ (it n c).2.2.length + n ≤ (it n c).2.1 + c.length ∧ ((it n c).1 = true → n < (it n c).2.1)
variable {T V : Nat → Int} {N : Nat}
theorem len1 (c : List Int) (v : Int) : (c ++ [v]).length = c.length + 1 := by rw [List.length_append]; rfl
theorem tk_l {n : Nat} (hN : T N = 0) (h : n ≤ N) (hz : ¬ T n = 0) : n < N := by
  by_cases e : n = N
  · rw [e] at hz; exact absurd hN hz
  · omega
theorem GdI_ch {it : Nat → List Int → RS} {op : Int → Int} (h0 : op 0 = 0) (hN : T N = 0) (h : GdI N it) : ∀ (f n : Nat) (c : List Int), n ≤ N → n ≤ (pch T it op f n c).2.1 ∧ (pch T it op f n c).2.1 ≤ N ∧ (pch T it op f n c).2.2.length + n ≤ (pch T it op f n c).2.1 + c.length
  | 0, n, c, h1 => ⟨Nat.le_refl _, h1, by show c.length + n ≤ n + c.length; omega⟩
  | f + 1, n, c, h1 => by
    unfold pch
    by_cases c1 : op (T n) = 0
    · rw [if_pos c1]; exact ⟨Nat.le_refl _, h1, by show c.length + n ≤ n + c.length; omega⟩
    · rw [if_neg c1]
      have hn : n < N := tk_l hN h1 (fun q => c1 (by rw [q]; exact h0))
      obtain ⟨g1, g2, g3, g4⟩ := h (n + 1) c (by omega)
      by_cases c2 : (it (n + 1) c).1 = true
      · rw [if_pos c2]
        obtain ⟨k1, k2, k3⟩ := GdI_ch h0 hN h f (it (n + 1) c).2.1 ((it (n + 1) c).2.2 ++ [op (T n)]) g2
        rw [len1] at k3
        exact ⟨by omega, k2, by omega⟩
      · rw [if_neg c2]; exact ⟨by omega, g2, by omega⟩
theorem GdI_it {it : Nat → List Int → RS} {op : Int → Int} (h0 : op 0 = 0) (hN : T N = 0) (h : GdI N it) : GdI N (pit T it op) := by
  intro n c h1
  obtain ⟨g1, g2, g3, g4⟩ := h n c h1
  unfold pit
  by_cases c2 : (it n c).1 = true
  · rw [if_pos c2]
    obtain ⟨k1, k2, k3⟩ := GdI_ch h0 hN h 160 (it n c).2.1 (it n c).2.2 g2
    have := g4 c2
    exact ⟨by omega, k2, by omega, fun _ => by omega⟩
  · rw [if_neg c2]; exact ⟨g1, g2, g3, fun q => absurd q c2⟩
theorem GdI_on {k : Nat} {r1 rE : Nat → List Int → RS} (hN : T N = 0) (h1 : 0 < k → GdI N r1) (hE : 0 < k → GdI N rE) : GdI N (pon T V k r1 rE) := by
  intro n c hn
  have here : n ≤ n ∧ n ≤ N ∧ c.length + n ≤ n + c.length := ⟨Nat.le_refl _, hn, by omega⟩
  unfold pon
  by_cases c1 : 8 ≤ T n ∧ T n < 14
  · rw [if_pos c1]
    have := tk_l hN hn (show ¬ T n = 0 by omega)
    refine ⟨by show n ≤ n + 1; omega, by show n + 1 ≤ N; omega, ?_, fun _ => by show n < n + 1; omega⟩
    show (c ++ [_]).length + n ≤ n + 1 + c.length
    rw [len1]; omega
  rw [if_neg c1]
  by_cases c2 : T n = 2
  · rw [if_pos c2]
    have := tk_l hN hn (show ¬ T n = 0 by omega)
    refine ⟨by show n ≤ n + 1; omega, by show n + 1 ≤ N; omega, ?_, fun _ => by show n < n + 1; omega⟩
    show (c ++ [_]).length + n ≤ n + 1 + c.length
    rw [len1]; omega
  rw [if_neg c2]
  by_cases c3 : k = 0
  · rw [if_pos c3]; exact ⟨here.1, here.2.1, here.2.2, fun q => by cases q⟩
  rw [if_neg c3]
  by_cases c4 : T n = 45
  · rw [if_pos c4]
    have := tk_l hN hn (show ¬ T n = 0 by omega)
    obtain ⟨g1, g2, g3, g4⟩ := h1 (by omega) (n + 1) c (by omega)
    by_cases c5 : (r1 (n + 1) c).1 = true
    · rw [if_pos c5]
      refine ⟨by show n ≤ (r1 (n + 1) c).2.1; omega, g2, ?_, fun _ => by show n < (r1 (n + 1) c).2.1; omega⟩
      show ((r1 (n + 1) c).2.2 ++ [_]).length + n ≤ (r1 (n + 1) c).2.1 + c.length
      rw [len1]; omega
    · rw [if_neg c5]; exact ⟨by omega, g2, by omega, fun q => absurd q c5⟩
  rw [if_neg c4]
  by_cases c5 : T n = 40
  · rw [if_pos c5]
    have := tk_l hN hn (show ¬ T n = 0 by omega)
    obtain ⟨g1, g2, g3, g4⟩ := hE (by omega) (n + 1) c (by omega)
    by_cases c6 : (rE (n + 1) c).1 = true
    · rw [if_pos c6]
      by_cases c7 : T (rE (n + 1) c).2.1 = 41
      · rw [if_pos c7]
        have := tk_l hN g2 (show ¬ T (rE (n + 1) c).2.1 = 0 by omega)
        exact ⟨by show n ≤ (rE (n + 1) c).2.1 + 1; omega, by show (rE (n + 1) c).2.1 + 1 ≤ N; omega, by show (rE (n + 1) c).2.2.length + n ≤ (rE (n + 1) c).2.1 + 1 + c.length; omega, fun _ => by show n < (rE (n + 1) c).2.1 + 1; omega⟩
      · rw [if_neg c7]
        exact ⟨by show n ≤ (rE (n + 1) c).2.1; omega, g2, by show (rE (n + 1) c).2.2.length + n ≤ (rE (n + 1) c).2.1 + c.length; omega, fun q => by cases q⟩
    · rw [if_neg c6]; exact ⟨by omega, g2, by omega, fun q => absurd q c6⟩
  rw [if_neg c5]
  exact ⟨here.1, here.2.1, here.2.2, fun q => by cases q⟩
theorem GdI_cm {su : Nat → List Int → RS} (hN : T N = 0) (h : GdI N su) : GdI N (pcm T su) := by
  intro n c hn
  obtain ⟨g1, g2, g3, g4⟩ := h n c hn
  unfold pcm
  by_cases c1 : (su n c).1 = true
  · rw [if_pos c1]
    by_cases c2 : T (su n c).2.1 = 60 ∨ T (su n c).2.1 = 61
    · rw [if_pos c2]
      have := tk_l hN g2 (show ¬ T (su n c).2.1 = 0 by omega)
      obtain ⟨k1, k2, k3, k4⟩ := h ((su n c).2.1 + 1) (su n c).2.2 (by omega)
      by_cases c3 : (su ((su n c).2.1 + 1) (su n c).2.2).1 = true
      · rw [if_pos c3]
        refine ⟨by show n ≤ (su ((su n c).2.1 + 1) (su n c).2.2).2.1; omega, k2, ?_, fun _ => by show n < (su ((su n c).2.1 + 1) (su n c).2.2).2.1; omega⟩
        show ((su ((su n c).2.1 + 1) (su n c).2.2).2.2 ++ [_]).length + n ≤ (su ((su n c).2.1 + 1) (su n c).2.2).2.1 + c.length
        rw [len1]; omega
      · rw [if_neg c3]; exact ⟨by omega, k2, by omega, fun q => absurd q c3⟩
    · rw [if_neg c2]; exact ⟨g1, g2, g3, g4⟩
  · rw [if_neg c1]; exact ⟨g1, g2, g3, g4⟩
theorem GdI_no {k : Nat} {ng cm : Nat → List Int → RS} (hN : T N = 0) (h1 : 0 < k → GdI N ng) (h2 : GdI N cm) : GdI N (pno T k ng cm) := by
  intro n c hn
  unfold pno
  by_cases c1 : T n = 7
  · rw [if_pos c1]
    have := tk_l hN hn (show ¬ T n = 0 by omega)
    by_cases c2 : k = 0
    · rw [if_pos c2]; exact ⟨Nat.le_refl _, hn, by show c.length + n ≤ n + c.length; omega, fun q => by cases q⟩
    · rw [if_neg c2]
      obtain ⟨g1, g2, g3, g4⟩ := h1 (by omega) (n + 1) c (by omega)
      by_cases c3 : (ng (n + 1) c).1 = true
      · rw [if_pos c3]
        refine ⟨by show n ≤ (ng (n + 1) c).2.1; omega, g2, ?_, fun _ => by show n < (ng (n + 1) c).2.1; omega⟩
        show ((ng (n + 1) c).2.2 ++ [_]).length + n ≤ (ng (n + 1) c).2.1 + c.length
        rw [len1]; omega
      · rw [if_neg c3]; exact ⟨by omega, g2, by omega, fun q => absurd q c3⟩
  · rw [if_neg c1]; exact h2 n c hn
theorem GdI_A (hN : T N = 0) : ∀ k : Nat, GdI N (pA T V k 31) ∧ GdI N (pA T V k 30) ∧ GdI N (pA T V k 29) ∧ GdI N (pA T V k 28) ∧ GdI N (pA T V k 27) ∧ GdI N (pA T V k 26) ∧ GdI N (pA T V k 25) := by
  have step : ∀ k : Nat, (0 < k → GdI N (pR T V k 31) ∧ GdI N (pR T V k 27) ∧ GdI N (pR T V k 25)) → GdI N (pA T V k 31) ∧ GdI N (pA T V k 30) ∧ GdI N (pA T V k 29) ∧ GdI N (pA T V k 28) ∧ GdI N (pA T V k 27) ∧ GdI N (pA T V k 26) ∧ GdI N (pA T V k 25) := by
    intro k h
    have a1 : GdI N (pA T V k 31) := by rw [pA_31]; exact GdI_on hN (fun q => (h q).1) (fun q => (h q).2.2)
    have a2 : GdI N (pA T V k 30) := by rw [pA_30]; exact GdI_it rfl hN a1
    have a3 : GdI N (pA T V k 29) := by rw [pA_29]; exact GdI_it rfl hN a2
    have a4 : GdI N (pA T V k 28) := by rw [pA_28]; exact GdI_cm hN a3
    have a5 : GdI N (pA T V k 27) := by rw [pA_27]; exact GdI_no hN (fun q => (h q).2.1) a4
    have a6 : GdI N (pA T V k 26) := by rw [pA_26]; exact GdI_it rfl hN a5
    have a7 : GdI N (pA T V k 25) := by rw [pA_25]; exact GdI_it rfl hN a6
    exact ⟨a1, a2, a3, a4, a5, a6, a7⟩
  intro k
  induction k with
  | zero => exact step 0 (fun q => by omega)
  | succ k ih => exact step (k + 1) (fun _ => ⟨ih.1, ih.2.2.2.2.1, ih.2.2.2.2.2.2⟩)
end PARSE
