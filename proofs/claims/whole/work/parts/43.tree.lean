/-! THE TREE, in the model -/
def trM (n T : Int) (m : Sg) (what t : Int) : Int := if prM n T m t = -1 then (if what = 2 then 1 else 0) else if what = 0 then cM n m t (prM n T m t) else if what = 1 then (if m 129 t = m 129 (prM n T m t) then 0 else 1) else 0
theorem trM_b {n T : Int} {m : Sg} {what t : Int} (h4 : 4 ≤ n) (h10 : n ≤ 10) (hT2 : 0 ≤ T ∧ T ≤ 12) (ha : ∀ i, 0 ≤ i → i < T → 0 ≤ m 123 i ∧ m 123 i < 32) (ht : 0 ≤ t ∧ t < T) : 0 ≤ trM n T m what t ∧ trM n T m what t ≤ 20 := by
  unfold trM
  by_cases c : prM n T m t = -1
  · rw [if_pos c]; split <;> omega
  · rw [if_neg c]
    have p := (prM_b n T m t hT2.1).resolve_left c
    have := chg_b (n := n) (g := m 130 t) (g' := m 130 (prM n T m t)) (K := KM m t) (N := NM m t) (K' := KM m (prM n T m t)) (N' := NM m (prM n T m t)) (by omega) (ha t ht.1 ht.2) (ha _ p.1 p.2)
    split
    · unfold cM; omega
    · split
      · split <;> omega
      · omega
theorem f180_s (L : Nat) {m : Sg} {n T what : Int} (hn : m 120 1 = n) (h4 : 4 ≤ n) (h10 : n ≤ 10) (hT : m 120 15 = T) (hT2 : 0 ≤ T ∧ T ≤ 12) (ha : ∀ i, 0 ≤ i → i < T → 0 ≤ m 123 i ∧ m 123 i < 32) : lp (f180_b12 (GC L) RC 120 what m) FU (0, 0) = some (sm (trM n T m what) T.toNat) := by
  refine lp_eq (fun k : Nat => (sm (trM n T m what) k, (k : Int))) T.toNat (fun k hk => ?_) ?_ (by rw [FU_v]; omega)
  · have hb := sm_b (f := trM n T m what) (b := 20) (by omega) k (fun i a1 a2 => trM_b h4 h10 hT2 ha ⟨a1, by omega⟩)
    have hb2 := trM_b (what := what) (t := (k : Int)) h4 h10 hT2 ha ⟨by omega, by omega⟩
    have h178 : f178 (GC L) RC 120 k m = some (prM n T m k) := f178_s L hn h4 h10 hT hT2 ha (by omega)
    have ad : ∀ v : Int, v = trM n T m what k → g_add (sm (trM n T m what) k) v = sm (trM n T m what) k + trM n T m what k := by
      intro v hv
      subst hv
      unfold g_add
      rw [w32_i (by omega) (by omega)]
    unfold f180_b12
    simp only [KG L, KR, KL L, if_true]
    rw [hT, if_pos (by omega), h178, w32_i (x := (k : Int) + 1) (by omega) (by omega), sm_s]
    simp only [Option.bind_some]
    by_cases c : prM n T m k = -1
    · have e : trM n T m what k = if what = 2 then 1 else 0 := if_pos c
      rw [if_pos c]
      by_cases w2 : what = 2
      · rw [if_pos w2] at e
        rw [if_pos w2, ad 1 e.symm]; rfl
      · rw [if_neg w2] at e
        rw [if_neg w2, ad 0 e.symm]; rfl
    · have e : trM n T m what k = if what = 0 then cM n m k (prM n T m k) else if what = 1 then (if m 129 k = m 129 (prM n T m k) then 0 else 1) else 0 := if_neg c
      rw [if_neg c]
      have p := (prM_b n T m k hT2.1).resolve_left c
      by_cases w0 : what = 0
      · rw [if_pos w0] at e
        have h176 : f176 (GC L) RC 120 k (prM n T m k) m = some (cM n m k (prM n T m k)) := f176_s L hn h4 h10 (by omega) (by omega) (ha k (by omega) (by omega)) (ha _ p.1 p.2)
        rw [if_pos w0, h176]
        simp only [Option.bind_some]
        rw [ad _ e.symm]; rfl
      · rw [if_neg w0] at e
        rw [if_neg w0]
        by_cases w1 : what = 1
        · rw [if_pos w1] at e
          rw [if_pos w1, if_pos (by omega), if_pos (by omega)]
          by_cases q : m 129 k = m 129 (prM n T m k)
          · rw [if_pos q] at e
            rw [if_pos q, ad 0 e.symm]; rfl
          · rw [if_neg q] at e
            rw [if_neg q, ad 1 e.symm]; rfl
        · rw [if_neg w1] at e
          rw [if_neg w1, ad 0 e.symm]; rfl
  · unfold f180_b12
    simp only [KG L, if_true]
    rw [hT, if_neg (by omega), xr_some]
