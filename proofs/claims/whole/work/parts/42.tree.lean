/-! THE TREE -/
def prX (n T : Int) (m : Sg) (t : Int) : Int := (pp (m 92) (cX n m t) (m 92 t) T.toNat).1
def prM (n T : Int) (m : Sg) (t : Int) : Int := (pp (m 128) (fun k => cM n m k t) (m 128 t) T.toNat).1
theorem prX_b (n T : Int) (m : Sg) (t : Int) (hT : 0 ≤ T) : prX n T m t = -1 ∨ (0 ≤ prX n T m t ∧ prX n T m t < T) := by
  rcases pp_b (m 92) (cX n m t) (m 92 t) T.toNat with q | ⟨q1, q2, _⟩
  · exact Or.inl q
  · exact Or.inr ⟨q1, by unfold prX; omega⟩
theorem prM_b (n T : Int) (m : Sg) (t : Int) (hT : 0 ≤ T) : prM n T m t = -1 ∨ (0 ≤ prM n T m t ∧ prM n T m t < T) := by
  rcases pp_b (m 128) (fun k => cM n m k t) (m 128 t) T.toNat with q | ⟨q1, q2, _⟩
  · exact Or.inl q
  · exact Or.inr ⟨q1, by unfold prM; omega⟩
/-- a sum over the first ones -/
def sm (f : Int → Int) : Nat → Int
  | 0 => 0
  | k + 1 => sm f k + f (k : Int)
theorem sm_s (f : Int → Int) (k : Nat) : sm f (k + 1) = sm f k + f (k : Int) := rfl
theorem sm_b {f : Int → Int} {b : Int} (hb : 0 ≤ b) : ∀ k : Nat, (∀ i : Int, 0 ≤ i → i < k → 0 ≤ f i ∧ f i ≤ b) → 0 ≤ sm f k ∧ sm f k ≤ k * b
  | 0, _ => ⟨Int.le_refl _, by show (0 : Int) ≤ (0 : Int) * b; omega⟩
  | k + 1, h => by
    have ih := sm_b hb k (fun i a1 a2 => h i a1 (by omega))
    have hk := h k (by omega) (by omega)
    rw [sm_s]
    have e : ((k + 1 : Nat) : Int) * b = (k : Int) * b + b := by
      rw [show ((k + 1 : Nat) : Int) = (k : Int) + 1 from rfl, Int.add_mul, Int.one_mul]
    rw [e]
    omega
theorem sm_c {f g : Int → Int} : ∀ k : Nat, (∀ i : Int, 0 ≤ i → i < k → f i = g i) → sm f k = sm g k
  | 0, _ => rfl
  | k + 1, h => by rw [sm_s, sm_s, sm_c k (fun i a1 a2 => h i a1 (by omega)), h k (by omega) (by omega)]
theorem f75_s (L : Nat) {m : Sg} {n T : Int} (hn : m 82 0 = n) (h4 : 4 ≤ n) (h10 : n ≤ 10) (hT : m 82 9 = T) (hT2 : 0 ≤ T ∧ T ≤ 12) (ha : ∀ i, 0 ≤ i → i < T → 0 ≤ m 88 i ∧ m 88 i < 32) : f75 (GC L) RC 82 m = some (sm (fun t => if prX n T m t = -1 then 0 else cX n m t (prX n T m t)) T.toNat) := by
  unfold f75
  refine lp_eq (fun k : Nat => (sm (fun t => if prX n T m t = -1 then 0 else cX n m t (prX n T m t)) k, (k : Int))) T.toNat (fun k hk => ?_) ?_ (by rw [FU_v]; omega)
  · have hb := sm_b (f := fun t => if prX n T m t = -1 then 0 else cX n m t (prX n T m t)) (b := 20) (by omega) k (fun i a1 a2 => by
      split
      · omega
      · rename_i c
        have p := (prX_b n T m i hT2.1).resolve_left c
        have := chg_b (n := n) (g := m 90 i) (g' := m 90 (prX n T m i)) (K := KX m i) (N := NX m i) (K' := KX m (prX n T m i)) (N' := NX m (prX n T m i)) (by omega) (ha i a1 (by omega)) (ha _ p.1 p.2)
        unfold cX
        omega)
    have h74 : f74 (GC L) RC 82 k m = some (prX n T m k) := f74_s L hn h4 h10 hT hT2 ha (by omega)
    unfold f75_b4
    simp only [KG L, if_true]
    rw [hT, if_pos (by omega), h74, w32_i (by omega) (by omega), sm_s]
    simp only [Option.bind_some]
    by_cases c : prX n T m k = -1
    · rw [if_pos c, if_pos c, Int.add_zero]; rfl
    · rw [if_neg c, if_neg c]
      have p := (prX_b n T m k hT2.1).resolve_left c
      have h73 : f73 (GC L) RC 82 k (prX n T m k) m = some (cX n m k (prX n T m k)) := f73_s L hn h4 h10 (by omega) (by omega) (ha k (by omega) (by omega)) (ha _ p.1 p.2)
      have := chg_b (n := n) (g := m 90 k) (g' := m 90 (prX n T m k)) (K := KX m k) (N := NX m k) (K' := KX m (prX n T m k)) (N' := NX m (prX n T m k)) (by omega) (ha k (by omega) (by omega)) (ha _ p.1 p.2)
      have e : cX n m k (prX n T m k) = chg n (m 88 k) (m 90 k) (KX m k) (NX m k) (m 88 (prX n T m k)) (m 90 (prX n T m k)) (KX m (prX n T m k)) (NX m (prX n T m k)) := rfl
      rw [h73]
      simp only [Option.bind_some]
      unfold g_add
      rw [w32_i (by omega) (by omega)]
      rfl
  · unfold f75_b4
    simp only [KG L, if_true]
    rw [hT, if_neg (by omega), xr_some]
theorem f76_s (L : Nat) {m : Sg} {n T : Int} (hn : m 82 0 = n) (h4 : 4 ≤ n) (h10 : n ≤ 10) (hT : m 82 9 = T) (hT2 : 0 ≤ T ∧ T ≤ 12) (ha : ∀ i, 0 ≤ i → i < T → 0 ≤ m 88 i ∧ m 88 i < 32) : f76 (GC L) RC 82 m = some (sm (fun t => if prX n T m t = -1 then 0 else if m 94 (prX n T m t) = m 94 t then 0 else 1) T.toNat) := by
  unfold f76
  refine lp_eq (fun k : Nat => (sm (fun t => if prX n T m t = -1 then 0 else if m 94 (prX n T m t) = m 94 t then 0 else 1) k, (k : Int))) T.toNat (fun k hk => ?_) ?_ (by rw [FU_v]; omega)
  · have hb := sm_b (f := fun t => if prX n T m t = -1 then 0 else if m 94 (prX n T m t) = m 94 t then 0 else 1) (b := 1) (by omega) k (fun i a1 a2 => by
      split
      · omega
      · split <;> omega)
    have h74 : f74 (GC L) RC 82 k m = some (prX n T m k) := f74_s L hn h4 h10 hT hT2 ha (by omega)
    unfold f76_b4
    simp only [KG L, KR, RAx L, if_true]
    rw [hT, if_pos (by omega), h74, w32_i (x := (k : Int) + 1) (by omega) (by omega), sm_s]
    simp only [Option.bind_some]
    by_cases c : prX n T m k = -1
    · rw [if_pos c, if_pos c, Int.add_zero]; rfl
    · rw [if_neg c, if_neg c]
      have p := (prX_b n T m k hT2.1).resolve_left c
      rw [ra_in p.1 (by omega), ra_in (by omega) (by omega)]
      by_cases e : m 94 (prX n T m k) = m 94 k
      · rw [if_pos e, if_pos e, Int.add_zero]; rfl
      · rw [if_neg e, if_neg e, w32_i (by omega) (by omega)]; rfl
  · unfold f76_b4
    simp only [KG L, if_true]
    rw [hT, if_neg (by omega), xr_some]
theorem f77_s (L : Nat) {m : Sg} {n T : Int} (hn : m 82 0 = n) (h4 : 4 ≤ n) (h10 : n ≤ 10) (hT : m 82 9 = T) (hT2 : 0 ≤ T ∧ T ≤ 12) (ha : ∀ i, 0 ≤ i → i < T → 0 ≤ m 88 i ∧ m 88 i < 32) : f77 (GC L) RC 82 m = some (sm (fun t => if prX n T m t = -1 then 1 else 0) T.toNat) := by
  unfold f77
  refine lp_eq (fun k : Nat => (sm (fun t => if prX n T m t = -1 then 1 else 0) k, (k : Int))) T.toNat (fun k hk => ?_) ?_ (by rw [FU_v]; omega)
  · have hb := sm_b (f := fun t => if prX n T m t = -1 then 1 else 0) (b := 1) (by omega) k (fun i a1 a2 => by split <;> omega)
    have h74 : f74 (GC L) RC 82 k m = some (prX n T m k) := f74_s L hn h4 h10 hT hT2 ha (by omega)
    unfold f77_b4
    simp only [KG L, if_true]
    rw [hT, if_pos (by omega), h74, w32_i (x := (k : Int) + 1) (by omega) (by omega), sm_s]
    simp only [Option.bind_some]
    by_cases c : prX n T m k = -1
    · rw [if_pos c, if_pos c, w32_i (by omega) (by omega)]; rfl
    · rw [if_neg c, if_neg c, Int.add_zero]; rfl
  · unfold f77_b4
    simp only [KG L, if_true]
    rw [hT, if_neg (by omega), xr_some]
