/-! WHAT MAY HAVE STOOD IN A GAP, as the model looks for it -/
/-- the model's count of a kind -/
theorem f181a_s (L : Nat) {m : Sg} {n T t s z y : Int} {k : Nat} {pr Kc : Int → Int} (hT : m 120 15 = T) (hT2 : 0 ≤ T ∧ T ≤ 12) (h10 : n ≤ 10) (hs : 0 ≤ s ∧ s < n) (hk : k < 6) (h178 : ∀ x : Int, 0 ≤ x → x < T → f178 (GC L) RC 120 x m = some (pr x)) (hKc : ∀ x : Int, m 121 (10 * x + s) = Kc x) : lp (f181_b34 (GC L) RC 120 t s (pr t) z y (k : Int) m) FU (0, 0) = some (Sum.inl (if z < cnt (stO pr (m 130) Kc t s (k : Int)) T.toNat then (z, y, ((k + 1 : Nat) : Int)) else if cnt (stO pr (m 130) Kc t s (k : Int)) T.toNat < z then (cnt (stO pr (m 130) Kc t s (k : Int)) T.toNat, g_shl 1 (k : Int), ((k + 1 : Nat) : Int)) else (cnt (stO pr (m 130) Kc t s (k : Int)) T.toNat, g_or y (g_shl 1 (k : Int)), ((k + 1 : Nat) : Int)))) := by
  refine lp_eq (fun j : Nat => (cnt (stO pr (m 130) Kc t s (k : Int)) j, (j : Int))) T.toNat (fun j hj => ?_) ?_ (by rw [FU_v]; omega)
  · have hr : 0 ≤ 10 * (j : Int) + s ∧ 10 * (j : Int) + s < 140 := ⟨by omega, by omega⟩
    have hj32 : w32 ((j : Int) + 1) = ((j + 1 : Nat) : Int) := by rw [w32_i (by omega) (by omega)]; rfl
    have hj12 : 0 ≤ (j : Int) ∧ (j : Int) < 12 := ⟨by omega, by omega⟩
    have hjT : (j : Int) < T := by omega
    have ei : g_add (g_mul 10 (j : Int)) s = 10 * (j : Int) + s := by unfold g_add g_mul; rw [w32_i (x := 10 * (j : Int)) (by omega) (by omega), w32_i (by omega) (by omega)]
    have cb := cnt_b (stO pr (m 130) Kc t s (k : Int)) j
    have eK : m 121 (10 * (j : Int) + s) = Kc j := hKc j
    have a0 : g_add (cnt (stO pr (m 130) Kc t s (k : Int)) j) 0 = cnt (stO pr (m 130) Kc t s (k : Int)) j := by unfold g_add; rw [w32_i (by omega) (by omega)]; omega
    have a1 : g_add (cnt (stO pr (m 130) Kc t s (k : Int)) j) 1 = cnt (stO pr (m 130) Kc t s (k : Int)) j + 1 := by unfold g_add; rw [w32_i (by omega) (by omega)]
    have no : stO pr (m 130) Kc t s (k : Int) j = false → (cnt (stO pr (m 130) Kc t s (k : Int)) (j + 1)) = cnt (stO pr (m 130) Kc t s (k : Int)) j := fun q => by rw [cnt_s, q, if_neg (by decide), Int.add_zero]
    have w49 : (j : Int) = pr t ∨ pr j = t → f181_49 (GC L) RC 120 t s (pr t) z y (k : Int) (cnt (stO pr (m 130) Kc t s (k : Int)) j) (j : Int) 1 m = some (Sum.inl (cnt (stO pr (m 130) Kc t s (k : Int)) (j + 1), ((j + 1 : Nat) : Int))) := by
      intro near
      have nb : (decide ((j : Int) = pr t) || decide (pr j = t)) = true := by
        rw [Bool.or_eq_true, decide_eq_true_iff, decide_eq_true_iff]; exact near
      unfold f181_49
      simp only [KG L, KR, KL L, if_true]
      rw [if_neg (by decide), ei, if_pos hr, eK, a0, a1, hj32]
      by_cases c : gp (m 130 j) s
      · rw [(f171_s L hj12).1 c]
        simp only [Option.bind_some]
        rw [if_neg (by decide), no (by unfold stO stB; rw [gB_t.mpr c]; simp)]
      · rw [(f171_s L hj12).2 c]
        simp only [Option.bind_some, if_true]
        have gf : gB (m 130 j) s = false := Bool.eq_false_iff.mpr (fun q => c (gB_t.mp q))
        by_cases e : Kc j = (k : Int)
        · rw [if_pos e, no (by unfold stO; rw [decide_eq_true e]; simp)]
        · rw [if_neg e, cnt_s]
          have : stO pr (m 130) Kc t s (k : Int) j = true := by unfold stO stB; rw [gf, nb, decide_eq_false e]; rfl
          rw [this, if_pos rfl]
    unfold f181_b34
    simp only [KG L, if_true]
    rw [hT, if_pos hjT, h178 j hj12.1 hjT]
    simp only [Option.bind_some]
    by_cases c1 : (j : Int) = pr t
    · rw [if_pos c1, w49 (Or.inl c1)]
    · rw [if_neg c1]
      by_cases c2 : pr j = t
      · rw [if_pos c2, w49 (Or.inr c2)]
      · rw [if_neg c2]
        unfold f181_49
        rw [if_pos rfl, a0, hj32, no (by unfold stO stB; rw [decide_eq_false c1, decide_eq_false c2]; rfl)]
  · have hjT : ¬ ((T.toNat : Nat) : Int) < T := by omega
    have hk32 : w32 ((k : Int) + 1) = ((k + 1 : Nat) : Int) := by rw [w32_i (by omega) (by omega)]; rfl
    unfold f181_b34
    simp only [KG L, if_true]
    rw [hT, if_neg hjT, hk32]
    generalize cnt (stO pr (m 130) Kc t s (k : Int)) T.toNat = o
    by_cases c1 : z < o
    · rw [if_pos c1, if_pos c1, xr_some]
    · rw [if_neg c1, if_neg c1]
      by_cases c2 : o < z
      · rw [if_pos c2, if_pos c2, xr_some]
      · rw [if_neg c2, if_neg c2, xr_some]
/-- the fewest that have another kind are the most that have it -/
theorem stm_k {h : Int → Int} {tt : Int} (hh : ∀ k, 0 ≤ h k ∧ h k ≤ tt) (h12 : tt ≤ 12) (k : Nat) (hk : k < 6) : (if (if k = 0 then 13 else tt - (stm h k).1) < tt - h k then ((if k = 0 then 13 else tt - (stm h k).1), (stm h k).2, ((k + 1 : Nat) : Int)) else if tt - h k < (if k = 0 then 13 else tt - (stm h k).1) then (tt - h k, g_shl 1 (k : Int), ((k + 1 : Nat) : Int)) else (tt - h k, g_or (stm h k).2 (g_shl 1 (k : Int)), ((k + 1 : Nat) : Int))) = ((if k + 1 = 0 then 13 else tt - (stm h (k + 1)).1), (stm h (k + 1)).2, ((k + 1 : Nat) : Int)) := by
  have hk1 := hh k
  have sk := stm_b h (by omega : 0 ≤ tt) hh k
  have o0 := o0_a ⟨k, hk⟩
  simp only at o0
  rw [stm_s, if_neg (show ¬ k + 1 = 0 by omega)]
  by_cases z : k = 0
  · rw [if_pos z]
    subst z
    have s0 : stm h 0 = (0, 0) := rfl
    rw [s0] at sk ⊢
    generalize h ((0 : Nat) : Int) = w at *
    simp only
    rw [if_neg (by omega), if_pos (by omega)]
    by_cases c : (0 : Int) < w
    · rw [if_pos c, o0]
    · rw [if_neg c, if_pos (by omega), o0, show w = 0 by omega]
  · rw [if_neg z]
    generalize stm h k = S at *
    generalize h (k : Int) = w at *
    by_cases c : S.1 < w
    · rw [if_pos c, if_neg (by omega), if_pos (by omega), o0]
    · rw [if_neg c]
      by_cases c2 : w = S.1
      · rw [if_pos c2, if_neg (by omega), if_neg (by omega), c2]
      · rw [if_neg c2, if_pos (by omega)]
theorem f181_s (L : Nat) {m : Sg} {n T t s : Int} (hn : m 120 1 = n) (h4 : 4 ≤ n) (h10 : n ≤ 10) (hT : m 120 15 = T) (hT2 : 0 ≤ T ∧ T ≤ 12) (ha : ∀ i, 0 ≤ i → i < T → 0 ≤ m 123 i ∧ m 123 i < 32) (hs : 0 ≤ s ∧ s < n) : lp (f181_b27 (GC L) RC 120 t s (prM n T m t) m) FU (13, 0, 0) = some (stm (fun k => cnt (stK (prM n T m) (m 130) (fun x => m 121 (10 * x + s)) t s k) T.toNat) 6).2 := by
  have h178 : ∀ x : Int, 0 ≤ x → x < T → f178 (GC L) RC 120 x m = some (prM n T m x) := fun x a1 a2 => f178_s L (t := x) hn h4 h10 hT hT2 ha ⟨a1, a2⟩
  generalize prM n T m = pr at *
  generalize hg : (fun x => m 121 (10 * x + s)) = Kc at *
  have hKc : ∀ x : Int, m 121 (10 * x + s) = Kc x := fun x => by rw [← hg]
  have in34 := fun (z y : Int) (k : Nat) (hk : k < 6) => f181a_s L (t := t) (z := z) (y := y) hT hT2 h10 hs hk h178 hKc
  have eo : ∀ k : Int, cnt (stO pr (m 130) Kc t s k) T.toNat + cnt (stK pr (m 130) Kc t s k) T.toNat = cnt (stB pr (m 130) t s) T.toNat := fun k => cnt_2 (stB pr (m 130) t s) (fun x => decide (Kc x = k)) T.toNat
  have b1 := cnt_b (stB pr (m 130) t s) T.toNat
  have b2 := fun k => cnt_b (stK pr (m 130) Kc t s k) T.toNat
  have b3 := fun k => cnt_b (stO pr (m 130) Kc t s k) T.toNat
  generalize ho : (fun k => cnt (stO pr (m 130) Kc t s k) T.toNat) = o at *
  generalize hh : (fun k => cnt (stK pr (m 130) Kc t s k) T.toNat) = h at *
  have eo2 : ∀ k, cnt (stO pr (m 130) Kc t s k) T.toNat = o k := fun k => by rw [← ho]
  have eh2 : ∀ k, cnt (stK pr (m 130) Kc t s k) T.toNat = h k := fun k => by rw [← hh]
  generalize cnt (stB pr (m 130) t s) T.toNat = tt at *
  simp only [eo2, eh2] at eo in34 b2 b3
  clear ho hh eo2 eh2 hg
  have hhb : ∀ k, 0 ≤ h k ∧ h k ≤ tt := fun k => by have := eo k; have := b2 k; have := b3 k; omega
  have oo : ∀ k, o k = tt - h k := fun k => by have := eo k; omega
  have e0 : ((13 : Int), (0 : Int), (0 : Int)) = (fun k : Nat => ((if k = 0 then 13 else tt - (stm h k).1), (stm h k).2, (k : Int))) 0 := rfl
  rw [e0]
  refine lp_eq (fun k : Nat => ((if k = 0 then 13 else tt - (stm h k).1), (stm h k).2, (k : Int))) 6 (fun k hk => ?_) ?_ (by rw [FU_v]; omega)
  · have hk5 : ¬ 5 < (k : Int) := by omega
    unfold f181_b27
    simp only
    rw [if_neg hk5, in34 _ _ k hk, oo, stm_k hhb (by omega) k hk]
  · unfold f181_b27
    simp only
    rw [if_pos (by omega), xr_some]
