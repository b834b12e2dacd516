/-! WHOSE CHILD A TELLING IS -/
def pp (y c : Int → Int) (yt : Int) : Nat → Int × Int
  | 0 => (-1, 0)
  | k + 1 => if y (k : Int) < yt then (if (pp y c yt k).1 = -1 then ((k : Int), c k) else if c k < (pp y c yt k).2 then ((k : Int), c k) else pp y c yt k) else pp y c yt k
theorem pp_s (y c : Int → Int) (yt : Int) (k : Nat) : pp y c yt (k + 1) = if y (k : Int) < yt then (if (pp y c yt k).1 = -1 then ((k : Int), c k) else if c k < (pp y c yt k).2 then ((k : Int), c k) else pp y c yt k) else pp y c yt k := rfl
theorem pp_b (y c : Int → Int) (yt : Int) : ∀ k : Nat, (pp y c yt k).1 = -1 ∨ (0 ≤ (pp y c yt k).1 ∧ (pp y c yt k).1 < k ∧ (pp y c yt k).2 = c (pp y c yt k).1)
  | 0 => Or.inl rfl
  | k + 1 => by
    have ih := pp_b y c yt k
    rw [pp_s]
    split
    · split
      · exact Or.inr ⟨by show (0 : Int) ≤ k; omega, by show (k : Int) < ((k + 1 : Nat) : Int); omega, rfl⟩
      · split
        · exact Or.inr ⟨by show (0 : Int) ≤ k; omega, by show (k : Int) < ((k + 1 : Nat) : Int); omega, rfl⟩
        · rcases ih with q | ⟨q1, q2, q3⟩
          · exact Or.inl q
          · exact Or.inr ⟨q1, by omega, q3⟩
    · rcases ih with q | ⟨q1, q2, q3⟩
      · exact Or.inl q
      · exact Or.inr ⟨q1, by omega, q3⟩
theorem pp_c {y c y' c' : Int → Int} {yt yt' : Int} (h : yt = yt') : ∀ k : Nat, (∀ i : Int, 0 ≤ i → i < k → y i = y' i ∧ c i = c' i) → pp y c yt k = pp y' c' yt' k
  | 0, _ => rfl
  | k + 1, q => by
    rw [pp_s, pp_s, pp_c h k (fun i a1 a2 => q i a1 (by omega)), (q k (by omega) (by omega)).1, (q k (by omega) (by omega)).2, h]
/-- what lies between two tellings, in the class, in the model -/
def cX (n : Int) (m : Sg) (t u : Int) : Int := chg n (m 88 t) (m 90 t) (KX m t) (NX m t) (m 88 u) (m 90 u) (KX m u) (NX m u)
def cM (n : Int) (m : Sg) (t u : Int) : Int := chg n (m 123 t) (m 130 t) (KM m t) (NM m t) (m 123 u) (m 130 u) (KM m u) (NM m u)
theorem f74_s (L : Nat) {m : Sg} {n T t : Int} (hn : m 82 0 = n) (h4 : 4 ≤ n) (h10 : n ≤ 10) (hT : m 82 9 = T) (hT2 : 0 ≤ T ∧ T ≤ 12) (ha : ∀ i, 0 ≤ i → i < T → 0 ≤ m 88 i ∧ m 88 i < 32) (ht : 0 ≤ t ∧ t < T) : f74 (GC L) RC 82 t m = some (pp (m 92) (cX n m t) (m 92 t) T.toNat).1 := by
  unfold f74
  refine lp_eq (fun k : Nat => ((pp (m 92) (cX n m t) (m 92 t) k).1, (pp (m 92) (cX n m t) (m 92 t) k).2, (k : Int))) T.toNat (fun k hk => ?_) ?_ (by rw [FU_v]; omega)
  · unfold f74_b6
    simp only [KG L, KR, RAx L, Option.bind_some, if_true]
    rw [hT, if_pos (by omega), ra_in (by omega) (by omega), ra_in (by omega) (by omega), w32_i (by omega) (by omega), pp_s]
    by_cases c1 : m 92 k < m 92 t
    · have h73 : f73 (GC L) RC 82 t k m = some (cX n m t k) := f73_s L hn h4 h10 (by omega) (by omega) (ha t ht.1 ht.2) (ha k (by omega) (by omega))
      rw [if_pos c1, if_pos c1, h73]
      simp only [Option.bind_some]
      by_cases c2 : (pp (m 92) (cX n m t) (m 92 t) k).1 = -1
      · rw [if_pos c2, if_pos c2]; rfl
      · rw [if_neg c2, if_neg c2]
        by_cases c3 : cX n m t k < (pp (m 92) (cX n m t) (m 92 t) k).2
        · rw [if_pos c3, if_pos c3]; rfl
        · rw [if_neg c3, if_neg c3]; rfl
    · rw [if_neg c1, if_neg c1]; rfl
  · unfold f74_b6
    simp only [KG L, if_true]
    rw [hT, if_neg (by omega), xr_some]
theorem f178_s (L : Nat) {m : Sg} {n T t : Int} (hn : m 120 1 = n) (h4 : 4 ≤ n) (h10 : n ≤ 10) (hT : m 120 15 = T) (hT2 : 0 ≤ T ∧ T ≤ 12) (ha : ∀ i, 0 ≤ i → i < T → 0 ≤ m 123 i ∧ m 123 i < 32) (ht : 0 ≤ t ∧ t < T) : f178 (GC L) RC 120 t m = some (pp (m 128) (fun k => cM n m k t) (m 128 t) T.toNat).1 := by
  unfold f178
  refine lp_eq (fun k : Nat => ((pp (m 128) (fun k => cM n m k t) (m 128 t) k).1, (k : Int))) T.toNat (fun k hk => ?_) ?_ (by rw [FU_v]; omega)
  · have hb := pp_b (m 128) (fun k => cM n m k t) (m 128 t) k
    unfold f178_b4
    simp only [KG L, KR, KL L, if_true]
    rw [hT, if_pos (by omega), if_pos (by omega), if_pos (by omega), w32_i (by omega) (by omega), pp_s]
    by_cases c1 : m 128 k < m 128 t
    · rw [if_pos c1, if_pos c1]
      by_cases c2 : (pp (m 128) (fun k => cM n m k t) (m 128 t) k).1 = -1
      · rw [if_pos c2, if_pos c2]; rfl
      · rw [if_neg c2, if_neg c2]
        obtain ⟨b1, b2, b3⟩ := hb.resolve_left c2
        have h1 : f176 (GC L) RC 120 k t m = some (cM n m k t) := f176_s L hn h4 h10 (by omega) (by omega) (ha k (by omega) (by omega)) (ha t ht.1 ht.2)
        have h2 : f176 (GC L) RC 120 (pp (m 128) (fun k => cM n m k t) (m 128 t) k).1 t m = some (cM n m (pp (m 128) (fun k => cM n m k t) (m 128 t) k).1 t) := f176_s L hn h4 h10 (by omega) (by omega) (ha _ b1 (by omega)) (ha t ht.1 ht.2)
        rw [h1]
        simp only [Option.bind_some]
        rw [h2]
        simp only [Option.bind_some]
        rw [b3]
        by_cases c3 : cM n m k t < cM n m (pp (m 128) (fun k => cM n m k t) (m 128 t) k).1 t
        · rw [if_pos c3, if_pos c3]; rfl
        · rw [if_neg c3, if_neg c3]; rfl
    · rw [if_neg c1, if_neg c1]; rfl
  · unfold f178_b4
    simp only [KG L, if_true]
    rw [hT, if_neg (by omega), xr_some]
