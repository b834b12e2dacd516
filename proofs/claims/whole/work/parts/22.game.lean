/-! THE GAME: what a square is worth, round by round -/
def av (n : Int) (K N F : Int → Int) (s d : Int) : Int := if ou n K N s d = 2 then 1 else if ou n K N s d = 3 then -1 else if F (la n K N s d) = 0 then 0 else if ou n K N s d = 0 then (if F (la n K N s d) < 0 then -(F (la n K N s d)) + 1 else -(F (la n K N s d)) - 1) else (if 0 < F (la n K N s d) then F (la n K N s d) + 1 else F (la n K N s d) - 1)
def alB (a d : Int) : Bool := decide (1 ≤ d ∧ d ≤ 5 ∧ g_and (g_shr a (g_sub d 1)) 1 = 1)
theorem alB_t {a d : Int} : alB a d = true ↔ alw a d := decide_eq_true_iff
def d15 (p : Int → Bool) : Bool := p 1 || p 2 || p 3 || p 4 || p 5
theorem d15_t {p : Int → Bool} : d15 p = true ↔ ∃ d : Int, 1 ≤ d ∧ d ≤ 5 ∧ p d = true := by
  unfold d15
  constructor
  · intro h
    simp only [Bool.or_eq_true] at h
    rcases h with (((h | h) | h) | h) | h
    · exact ⟨1, by omega, by omega, h⟩
    · exact ⟨2, by omega, by omega, h⟩
    · exact ⟨3, by omega, by omega, h⟩
    · exact ⟨4, by omega, by omega, h⟩
    · exact ⟨5, by omega, by omega, h⟩
  · rintro ⟨d, h1, h2, h3⟩
    simp only [Bool.or_eq_true]
    have : d = 1 ∨ d = 2 ∨ d = 3 ∨ d = 4 ∨ d = 5 := by omega
    rcases this with e | e | e | e | e
    · subst e; exact Or.inl (Or.inl (Or.inl (Or.inl h3)))
    · subst e; exact Or.inl (Or.inl (Or.inl (Or.inr h3)))
    · subst e; exact Or.inl (Or.inl (Or.inr h3))
    · subst e; exact Or.inl (Or.inr h3)
    · subst e; exact Or.inr h3
/-- the next round -/
def nx (n : Int) (K N : Int → Int) (a : Int) (F : Int → Int) (k : Int) (s : Int) : Int := if F s = 0 then (if d15 (fun d => alB a d && decide (av n K N F s d = k)) = true then k else if d15 (fun d => alB a d && decide (0 ≤ av n K N F s d)) = true then 0 else -k) else F s
def TT (n : Int) (K N : Int → Int) (a : Int) : Nat → Int → Int
  | 0 => fun _ => 0
  | k + 1 => nx n K N a (TT n K N a k) ((k : Int) + 1)
section GAME
variable {n a : Int} {K N F : Int → Int} {k : Int} {s : Int}
theorem nx_old (h : ¬ F s = 0) : nx n K N a F k s = F s := if_neg h
theorem nx_w (h : F s = 0) (d : Int) (h1 : alw a d) (h2 : av n K N F s d = k) : nx n K N a F k s = k := by
  unfold nx
  rw [if_pos h, if_pos (d15_t.mpr ⟨d, h1.1, h1.2.1, by rw [Bool.and_eq_true]; exact ⟨alB_t.mpr h1, decide_eq_true h2⟩⟩)]
theorem nx_nw (h : F s = 0) (h1 : ∀ d, alw a d → ¬ av n K N F s d = k) : nx n K N a F k s = (if d15 (fun d => alB a d && decide (0 ≤ av n K N F s d)) = true then 0 else -k) := by
  unfold nx
  rw [if_pos h, if_neg]
  intro q
  obtain ⟨d, _, _, q3⟩ := d15_t.mp q
  rw [Bool.and_eq_true] at q3
  exact h1 d (alB_t.mp q3.1) (of_decide_eq_true q3.2)
theorem nx_o (h : F s = 0) (h1 : ∀ d, alw a d → ¬ av n K N F s d = k) (d : Int) (h2 : alw a d) (h3 : 0 ≤ av n K N F s d) : nx n K N a F k s = 0 := by
  rw [nx_nw h h1, if_pos (d15_t.mpr ⟨d, h2.1, h2.2.1, by rw [Bool.and_eq_true]; exact ⟨alB_t.mpr h2, decide_eq_true h3⟩⟩)]
theorem nx_l (h : F s = 0) (h1 : ∀ d, alw a d → ¬ av n K N F s d = k) (h2 : ∀ d, alw a d → av n K N F s d < 0) : nx n K N a F k s = -k := by
  rw [nx_nw h h1, if_neg]
  intro q
  obtain ⟨d, _, _, q3⟩ := d15_t.mp q
  rw [Bool.and_eq_true] at q3
  have := h2 d (alB_t.mp q3.1)
  have := of_decide_eq_true q3.2
  omega
/-- the three ways of a round -/
theorem nx_cases (hk : 0 < k) : (¬ F s = 0 ∧ nx n K N a F k s = F s) ∨ (F s = 0 ∧ (∃ d, alw a d ∧ av n K N F s d = k) ∧ nx n K N a F k s = k) ∨ (F s = 0 ∧ (∀ d, alw a d → ¬ av n K N F s d = k) ∧ (∃ d, alw a d ∧ 0 ≤ av n K N F s d) ∧ nx n K N a F k s = 0) ∨ (F s = 0 ∧ (∀ d, alw a d → ¬ av n K N F s d = k) ∧ (∀ d, alw a d → av n K N F s d < 0) ∧ nx n K N a F k s = -k) := by
  by_cases h : F s = 0
  · right
    by_cases h1 : ∃ d, alw a d ∧ av n K N F s d = k
    · left; obtain ⟨d, q1, q2⟩ := h1
      exact ⟨h, ⟨d, q1, q2⟩, nx_w h d q1 q2⟩
    · right
      have h1' : ∀ d, alw a d → ¬ av n K N F s d = k := fun d q1 q2 => h1 ⟨d, q1, q2⟩
      by_cases h2 : ∃ d, alw a d ∧ 0 ≤ av n K N F s d
      · left; obtain ⟨d, q1, q2⟩ := h2
        exact ⟨h, h1', ⟨d, q1, q2⟩, nx_o h h1' d q1 q2⟩
      · right
        have h2' : ∀ d, alw a d → av n K N F s d < 0 := fun d q1 => by
          by_cases c : 0 ≤ av n K N F s d
          · exact absurd ⟨d, q1, c⟩ h2
          · omega
        exact ⟨h, h1', h2', nx_l h h1' h2'⟩
  · left; exact ⟨h, nx_old h⟩
theorem TT_s (j : Nat) : TT n K N a (j + 1) s = nx n K N a (TT n K N a j) ((j : Int) + 1) s := rfl
/-- how far values go -/
theorem TT_b (j : Nat) : ∀ s, TT n K N a j s ≤ j ∧ -(j : Int) ≤ TT n K N a j s := by
  induction j with
  | zero => intro s; exact ⟨Int.le_refl _, Int.le_refl _⟩
  | succ j ih =>
    intro s
    have := ih s
    rw [TT_s]
    rcases nx_cases (n := n) (a := a) (K := K) (N := N) (F := TT n K N a j) (s := s) (k := (j : Int) + 1) (by omega) with ⟨_, q⟩ | ⟨_, _, q⟩ | ⟨_, _, _, q⟩ | ⟨_, _, _, q⟩ <;> rw [q] <;> omega
theorem TT_ch (j : Nat) (s : Int) : TT n K N a (j + 1) s = TT n K N a j s ∨ (TT n K N a j s = 0 ∧ (TT n K N a (j + 1) s = (j : Int) + 1 ∨ TT n K N a (j + 1) s = -((j : Int) + 1))) := by
  rw [TT_s]
  rcases nx_cases (n := n) (a := a) (K := K) (N := N) (F := TT n K N a j) (s := s) (k := (j : Int) + 1) (by omega) with ⟨_, q⟩ | ⟨q0, _, q⟩ | ⟨q0, _, _, q⟩ | ⟨q0, _, _, q⟩
  · exact Or.inl q
  · exact Or.inr ⟨q0, Or.inl q⟩
  · exact Or.inl (q.trans q0.symm)
  · exact Or.inr ⟨q0, Or.inr q⟩
theorem av_b {j : Int} (h : ∀ s, F s ≤ j ∧ -j ≤ F s) (hj : 0 ≤ j) (d : Int) : av n K N F s d ≤ j + 1 ∧ -(j + 1) ≤ av n K N F s d := by
  have := h (la n K N s d)
  unfold av
  split
  · omega
  · split
    · omega
    · split
      · omega
      · split <;> split <;> omega
theorem av_z {d : Int} : av n K N F s d = 0 ↔ (¬ ou n K N s d = 2 ∧ ¬ ou n K N s d = 3 ∧ F (la n K N s d) = 0) := by
  unfold av
  split
  · rename_i h; exact ⟨fun q => absurd q (by omega), fun q => absurd h q.1⟩
  · split
    · rename_i h1 h; exact ⟨fun q => absurd q (by omega), fun q => absurd h q.2.1⟩
    · split
      · rename_i h1 h2 h; exact ⟨fun _ => ⟨h1, h2, h⟩, fun _ => rfl⟩
      · rename_i h1 h2 h
        constructor
        · intro q
          split at q <;> split at q <;> omega
        · intro q; exact absurd q.2.2 h
/-- how a value goes on from round to round -/
theorem av_n (j : Nat) (s d : Int) : av n K N (TT n K N a (j + 1)) s d = av n K N (TT n K N a j) s d ∨ (av n K N (TT n K N a j) s d = 0 ∧ (av n K N (TT n K N a (j + 1)) s d = (j : Int) + 2 ∨ av n K N (TT n K N a (j + 1)) s d = -((j : Int) + 2))) := by
  rcases TT_ch (n := n) (a := a) (K := K) (N := N) j (la n K N s d) with e | ⟨e0, e⟩
  · left; unfold av; rw [e]
  · by_cases h2 : ou n K N s d = 2
    · left; unfold av; rw [if_pos h2, if_pos h2]
    · by_cases h3 : ou n K N s d = 3
      · left; unfold av; rw [if_neg h2, if_pos h3, if_neg h2, if_pos h3]
      · right
        refine ⟨av_z.mpr ⟨h2, h3, e0⟩, ?_⟩
        unfold av
        rw [if_neg h2, if_neg h3]
        rcases e with e | e <;> rw [e]
        · rw [if_neg (by omega)]
          split
          · rw [if_neg (by omega)]; right; omega
          · rw [if_pos (by omega)]; left; omega
        · rw [if_neg (by omega)]
          split
          · rw [if_pos (by omega)]; left; omega
          · rw [if_neg (by omega)]; right; omega
/-- a square not yet settled: what its moves are worth -/
theorem TT_o (hA : ∃ d, alw a d) (j : Nat) : ∀ s, TT n K N a j s = 0 → (∀ d, alw a d → av n K N (TT n K N a j) s d ≤ 0 ∨ av n K N (TT n K N a j) s d = (j : Int) + 1) ∧ ((∀ d, alw a d → av n K N (TT n K N a j) s d < 0) → ∃ d, alw a d ∧ av n K N (TT n K N a j) s d = -((j : Int) + 1)) := by
  induction j with
  | zero =>
    intro s _
    have hb := fun d => av_b (n := n) (K := K) (N := N) (F := TT n K N a 0) (s := s) (j := 0) (fun s => ⟨Int.le_refl _, Int.le_refl _⟩) (Int.le_refl _) d
    constructor
    · intro d _
      have := hb d
      omega
    · intro h
      obtain ⟨d, hd⟩ := hA
      have := h d hd
      have := hb d
      exact ⟨d, hd, by omega⟩
  | succ j ih =>
    intro s h0
    have hz : TT n K N a j s = 0 := by
      rcases TT_ch (n := n) (a := a) (K := K) (N := N) j s with e | ⟨e, _⟩
      · rw [← e]; exact h0
      · exact e
    obtain ⟨i1, i2⟩ := ih s hz
    have hc : (∀ d, alw a d → ¬ av n K N (TT n K N a j) s d = (j : Int) + 1) ∧ (∃ d, alw a d ∧ 0 ≤ av n K N (TT n K N a j) s d) := by
      rw [TT_s] at h0
      rcases nx_cases (n := n) (a := a) (K := K) (N := N) (F := TT n K N a j) (s := s) (k := (j : Int) + 1) (by omega) with ⟨q0, _⟩ | ⟨_, _, q⟩ | ⟨_, q1, q2, _⟩ | ⟨_, _, _, q⟩
      · exact absurd hz q0
      · omega
      · exact ⟨q1, q2⟩
      · omega
    constructor
    · intro d hd
      have a1 := i1 d hd
      have a2 := hc.1 d hd
      rcases av_n (n := n) (a := a) (K := K) (N := N) j s d with e | ⟨e0, e | e⟩
      · left; rw [e]; omega
      · right; rw [e]; omega
      · left; rw [e]; omega
    · intro h
      obtain ⟨d, hd, hp⟩ := hc.2
      have a1 := i1 d hd
      have a2 := hc.1 d hd
      have a3 := h d hd
      refine ⟨d, hd, ?_⟩
      rcases av_n (n := n) (a := a) (K := K) (N := N) j s d with e | ⟨e0, e | e⟩ <;> omega
theorem la_b (hn : 0 < n) (s d : Int) : 0 ≤ la n K N s d ∧ la n K N s d < n := by
  unfold la
  split <;> exact emod_b hn
theorem ou_b (s d : Int) : 0 ≤ ou n K N s d ∧ ou n K N s d ≤ 3 := by
  unfold ou
  split
  · omega
  · split
    · omega
    · split
      · omega
      · split
        · omega
        · split
          · split <;> omega
          · omega
/-- a round without a change is the last one -/
theorem TT_stop (hn : 0 < n) (hA : ∃ d, alw a d) (j : Nat) (h : ∀ s, 0 ≤ s → s < n → TT n K N a (j + 1) s = TT n K N a j s) : ∀ s, 0 ≤ s → s < n → TT n K N a (j + 2) s = TT n K N a (j + 1) s := by
  intro s h1 h2
  have ea : ∀ d, av n K N (TT n K N a (j + 1)) s d = av n K N (TT n K N a j) s d := by
    intro d
    have hl := la_b (K := K) (N := N) hn s d
    unfold av
    rw [h _ hl.1 hl.2]
  rcases TT_ch (n := n) (a := a) (K := K) (N := N) (j + 1) s with e | ⟨e0, e⟩
  · exact e
  · exfalso
    have z0 : TT n K N a j s = 0 := by rw [← h s h1 h2]; exact e0
    have o1 := TT_o hA (j + 1) s e0
    have o0 := TT_o hA j s z0
    have bb := fun d => av_b (n := n) (K := K) (N := N) (F := TT n K N a j) (s := s) (j := j) (fun s => TT_b j s) (by omega) d
    have ts := TT_s (n := n) (K := K) (N := N) (a := a) (s := s) (j + 1)
    rcases nx_cases (n := n) (a := a) (K := K) (N := N) (F := TT n K N a (j + 1)) (s := s) (k := ((j + 1 : Nat) : Int) + 1) (by omega) with ⟨q0, _⟩ | ⟨_, ⟨d, q1, q2⟩, _⟩ | ⟨_, _, _, q⟩ | ⟨_, _, q1, _⟩
    · exact q0 e0
    · rw [ea] at q2
      have := bb d
      omega
    · rw [ts, q] at e
      omega
    · obtain ⟨d, q2, q3⟩ := o1.2 q1
      rw [ea] at q3
      have := bb d
      omega
theorem TT_stop' (hn : 0 < n) (hA : ∃ d, alw a d) (j : Nat) (h : ∀ s, 0 ≤ s → s < n → TT n K N a (j + 1) s = TT n K N a j s) (i : Nat) : ∀ s, 0 ≤ s → s < n → TT n K N a (j + i) s = TT n K N a j s := by
  have key : ∀ i, (∀ s, 0 ≤ s → s < n → TT n K N a (j + i + 1) s = TT n K N a (j + i) s) := by
    intro i
    induction i with
    | zero => exact h
    | succ i ih => exact TT_stop hn hA (j + i) ih
  induction i with
  | zero => intro s _ _; rfl
  | succ i ih => intro s h1 h2; exact (key i s h1 h2).trans (ih s h1 h2)
/-- all settled: nothing changes any more -/
theorem TT_full (j : Nat) (h : ∀ s, 0 ≤ s → s < n → ¬ TT n K N a j s = 0) (i : Nat) : ∀ s, 0 ≤ s → s < n → TT n K N a (j + i) s = TT n K N a j s := by
  induction i with
  | zero => intro s _ _; rfl
  | succ i ih =>
    intro s h1 h2
    rcases TT_ch (n := n) (a := a) (K := K) (N := N) (j + i) s with e | ⟨e, _⟩
    · exact e.trans (ih s h1 h2)
    · exact absurd ((ih s h1 h2).symm.trans e) (h s h1 h2)
end GAME
/-- counting -/
def cnt (p : Int → Bool) : Nat → Int
  | 0 => 0
  | k + 1 => cnt p k + (if p (k : Int) = true then 1 else 0)
theorem cnt_b (p : Int → Bool) : ∀ k : Nat, 0 ≤ cnt p k ∧ cnt p k ≤ k
  | 0 => ⟨Int.le_refl _, Int.le_refl _⟩
  | k + 1 => by
    have := cnt_b p k
    unfold cnt
    split <;> omega
theorem cnt_c {p q : Int → Bool} : ∀ k : Nat, (∀ i : Int, 0 ≤ i → i < k → p i = q i) → cnt p k = cnt q k
  | 0, _ => rfl
  | k + 1, h => by
    unfold cnt
    rw [cnt_c k (fun i h1 h2 => h i h1 (by omega)), h k (by omega) (by omega)]
theorem cnt_m {p q : Int → Bool} : ∀ k : Nat, (∀ i : Int, 0 ≤ i → i < k → p i = true → q i = true) → cnt p k ≤ cnt q k
  | 0, _ => Int.le_refl _
  | k + 1, h => by
    have h1 := cnt_m k (fun i h1 h2 => h i h1 (by omega))
    have h2 := h k (by omega) (by omega)
    unfold cnt
    by_cases c : p k = true
    · rw [if_pos c, if_pos (h2 c)]; omega
    · rw [if_neg c]; split <;> omega
theorem cnt_lt {p q : Int → Bool} : ∀ k : Nat, (∀ i : Int, 0 ≤ i → i < k → p i = true → q i = true) → (∃ i : Int, 0 ≤ i ∧ i < k ∧ q i = true ∧ ¬ p i = true) → cnt p k + 1 ≤ cnt q k
  | 0, _, ⟨i, h1, h2, _⟩ => by omega
  | k + 1, h, ⟨i, h1, h2, h3, h4⟩ => by
    have hk := h k (by omega) (by omega)
    unfold cnt
    by_cases e : i = k
    · subst e
      have := cnt_m k (fun i h1 h2 => h i h1 (by omega))
      rw [if_neg h4, if_pos h3]; omega
    · have := cnt_lt k (fun i h1 h2 => h i h1 (by omega)) ⟨i, h1, by omega, h3, h4⟩
      by_cases c : p k = true
      · rw [if_pos c, if_pos (hk c)]; omega
      · rw [if_neg c]; split <;> omega
theorem cnt_f {p : Int → Bool} : ∀ k : Nat, cnt p k = k → ∀ i : Int, 0 ≤ i → i < k → p i = true
  | 0, _, i, h1, h2 => by omega
  | k + 1, h, i, h1, h2 => by
    unfold cnt at h
    have hb := cnt_b p k
    by_cases c : p k = true
    · rw [if_pos c] at h
      by_cases e : i = k
      · subst e; exact c
      · exact cnt_f k (by omega) i h1 (by omega)
    · rw [if_neg c] at h; omega
