/-! HOW MANY ARE WON, LOST, ENDLESS -/
def hw (what v : Int) : Bool := if what = 0 then decide (0 < v) else if what = 1 then decide (v < 0) else decide (v = 0)
def sgn (v : Int) : Int := if 0 < v then 1 else if v < 0 then -1 else 0
theorem f223_a : ∀ k : Fin 201, g_or (g_shr ((k.val : Int) - 100) 31) (g_ushr (g_neg ((k.val : Int) - 100)) 31) = sgn ((k.val : Int) - 100) := by decide +kernel
theorem f223_s {G : Gg} {ρ : Rg} {m : Sg} {v : Int} (h1 : -100 ≤ v) (h2 : v ≤ 100) : f223 G ρ v m = some (sgn v) := by
  have := f223_a ⟨(v + 100).toNat, by omega⟩
  simp only at this
  rw [show (((v + 100).toNat : Nat) : Int) - 100 = v by omega] at this
  unfold f223
  rw [this]
/-- how many squares are of a sort -/
def ch (n what : Int) (F : Int → Int) : Int := cnt (fun i => hw what (F i)) n.toNat
theorem ch_c {n what : Int} {F F' : Int → Int} (h : ∀ i, 0 ≤ i → i < n → F i = F' i) : ch n what F = ch n what F' := cnt_c _ (fun i h1 h2 => by rw [h i h1 (by omega)])
theorem cnt_s (p : Int → Bool) (k : Nat) : cnt p (k + 1) = cnt p k + (if p (k : Int) = true then 1 else 0) := rfl
theorem f89_s (L : Nat) {m : Sg} {n what : Int} (h4 : 4 ≤ n) (h10 : n ≤ 10) (hn : m 2 3 = n) (hw0 : 0 ≤ what ∧ what ≤ 2) (hF : ∀ i, 0 ≤ i → i < n → -100 ≤ m 4 i ∧ m 4 i ≤ 100) : f89 (GC L) RC 2 what m = some (ch n what (m 4)) := by
  have key : ∀ sg : Int, (∀ v : Int, (sgn v = sg ↔ hw what v = true)) → lp (f89_b15 (GC L) RC 2 sg m) FU (0, 0) = some (ch n what (m 4)) := by
    intro sg hsg
    refine lp_eq (fun k : Nat => ((cnt (fun i => hw what (m 4 i)) k), (k : Int))) n.toNat (fun k hk => ?_) ?_ (by rw [FU_v]; omega)
    · have hc := cnt_b (fun i => hw what (m 4 i)) k
      have hf := hF k (by omega) (by omega)
      unfold f89_b15
      simp only [KG L, KR, RAx L, Option.bind_some, if_true]
      rw [hn, if_pos (by omega), ra_in (by omega) (by omega), f223_s hf.1 hf.2]
      simp only [Option.bind_some]
      rw [cnt_s, w32_i (x := (k : Int) + 1) (by omega) (by omega), w32_i (by omega) (by omega)]
      by_cases c : sgn (m 4 k) = sg
      · rw [if_pos c, if_pos ((hsg _).mp c)]
        rfl
      · rw [if_neg c, if_neg (fun q => c ((hsg _).mpr q)), Int.add_zero]
        rfl
    · unfold f89_b15
      simp only [KG L, if_true]
      rw [hn, if_neg (by omega), xr_some]
      rfl
  have hs : ∀ v : Int, (0 < v ∧ sgn v = 1) ∨ (v < 0 ∧ sgn v = -1) ∨ (v = 0 ∧ sgn v = 0) := by
    intro v
    unfold sgn
    by_cases c : 0 < v
    · rw [if_pos c]; exact Or.inl ⟨c, rfl⟩
    · rw [if_neg c]
      by_cases c2 : v < 0
      · rw [if_pos c2]; exact Or.inr (Or.inl ⟨c2, rfl⟩)
      · rw [if_neg c2]; exact Or.inr (Or.inr ⟨by omega, rfl⟩)
  unfold f89
  by_cases c0 : what = 0
  · rw [if_pos c0]
    refine key 1 (fun v => ?_)
    unfold hw
    rw [if_pos c0, decide_eq_true_iff]
    have := hs v
    omega
  · rw [if_neg c0]
    by_cases c1 : what = 1
    · rw [if_pos c1]
      refine key (-1) (fun v => ?_)
      unfold hw
      rw [if_neg c0, if_pos c1, decide_eq_true_iff]
      have := hs v
      omega
    · rw [if_neg c1]
      refine key 0 (fun v => ?_)
      unfold hw
      rw [if_neg c0, if_neg c1, decide_eq_true_iff]
      have := hs v
      omega
theorem f157_s (L : Nat) {m : Sg} {n what : Int} (h4 : 4 ≤ n) (h10 : n ≤ 10) (hn : m 120 1 = n) : f157 (GC L) RC 120 what m = some (ch n what (m 124)) := by
  unfold f157
  refine lp_eq (fun k : Nat => ((cnt (fun i => hw what (m 124 i)) k), (k : Int))) n.toNat (fun k hk => ?_) ?_ (by rw [FU_v]; omega)
  · have hc := cnt_b (fun i => hw what (m 124 i)) k
    unfold f157_b4 g_add
    simp only [KG L, KR, KL L, if_true]
    rw [hn, if_pos (by omega)]
    simp only [if_pos (show 0 ≤ (k : Int) ∧ (k : Int) < 10 by omega)]
    rw [cnt_s, w32_i (x := (k : Int) + 1) (by omega) (by omega), w32_i (x := cnt (fun i => hw what (m 124 i)) k + 1) (by omega) (by omega), w32_i (x := cnt (fun i => hw what (m 124 i)) k + 0) (by omega) (by omega)]
    unfold hw
    by_cases c0 : what = 0
    · simp only [if_pos c0, decide_eq_true_iff]
      split <;> rfl
    · by_cases c1 : what = 1
      · simp only [if_neg c0, if_pos c1, decide_eq_true_iff]
        split <;> rfl
      · simp only [if_neg c0, if_neg c1, decide_eq_true_iff]
        split <;> rfl
  · unfold f157_b4
    simp only [KG L, if_true]
    rw [hn, if_neg (by omega), xr_some]
    rfl
