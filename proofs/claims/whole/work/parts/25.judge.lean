/-! WHAT IS WON, AS THE CLASS RECKONS IT: to the end -/
theorem cnt_u {p q : Int → Bool} {i : Int} (hp : p i = true) (hq : ¬ q i = true) : ∀ k : Nat, (∀ x : Int, ¬ x = i → p x = q x) → 0 ≤ i → i < k → cnt q k = cnt p k - 1
  | 0, _, h1, h2 => by omega
  | k + 1, h, h1, h2 => by
    unfold cnt
    by_cases e : i = k
    · subst e
      rw [if_pos hp, if_neg hq, cnt_c (p := p) (q := q) k (fun x a1 a2 => h x (by omega))]
      omega
    · rw [cnt_u hp hq k h h1 (by omega), h k (by omega)]
      omega
theorem cnt_a {p : Int → Bool} : ∀ k : Nat, (∀ x : Int, 0 ≤ x → x < k → p x = true) → cnt p k = k
  | 0, _ => rfl
  | k + 1, h => by
    unfold cnt
    rw [cnt_a k (fun x a1 a2 => h x a1 (by omega)), if_pos (h k (by omega) (by omega))]
    omega
theorem cz_u {n i : Int} {m : Sg} {F : Nat} {v : Int} (h0 : m F i = 0) (hv : ¬ v = 0) (h1 : 0 ≤ i) (h2 : i < n) : cz n (put m F i v F) = cz n (m F) - 1 := by
  unfold cz
  refine cnt_u (i := i) (decide_eq_true h0) ?_ n.toNat ?_ h1 (by omega)
  · simp only [put_eq]
    rw [decide_eq_true_iff]; exact hv
  · intro x hx
    simp only [put_nj hx]
theorem cz_b {n : Int} (hn : 0 ≤ n) (F : Int → Int) : 0 ≤ cz n F ∧ cz n F ≤ n := by
  have := cnt_b (fun i => decide (F i = 0)) n.toNat
  unfold cz
  omega
theorem cz_lt {n : Int} {F F' : Int → Int} (h : ∀ i, 0 ≤ i → i < n → F' i = 0 → F i = 0) (hx : ∃ i, 0 ≤ i ∧ i < n ∧ F i = 0 ∧ ¬ F' i = 0) : cz n F' + 1 ≤ cz n F := by
  unfold cz
  obtain ⟨i, a1, a2, a3, a4⟩ := hx
  exact cnt_lt n.toNat (fun i h1 h2 q => decide_eq_true (h i h1 (by omega) (of_decide_eq_true q))) ⟨i, a1, by omega, decide_eq_true a3, fun q => a4 (of_decide_eq_true q)⟩
theorem cz_0 {n : Int} {F : Int → Int} (hn : 0 ≤ n) (h : cz n F ≤ 0) : ∀ i, 0 ≤ i → i < n → ¬ F i = 0 := by
  intro i h1 h2 h3
  have : cz n F ≥ 1 := by
    have := cz_lt (n := n) (F := F) (F' := fun _ => 1) (fun i _ _ q => by omega) ⟨i, h1, h2, h3, by omega⟩
    have := cz_b hn (fun _ => 1)
    omega
  omega
theorem cz_all {n : Int} (hn : 0 ≤ n) : cz n (fun _ => 0) = n := by
  unfold cz
  exact (cnt_a n.toNat (fun _ _ _ => decide_eq_true rfl)).trans (by omega)
theorem rnd_2 (L : Nat) {m0 m : Sg} {n a e : Int} {K N : Int → Int} {j : Nat} (hA : ∃ d, alw a d) (h4 : 4 ≤ n) (h10 : n ≤ 10) (hj : j < 20) (hB : JB m0 2 4 6 8 n K N a m) (hM : ∀ i, 0 ≤ i → i < n → m 4 i = TT n K N a j i) (he : e = cz n (TT n K N a j)) : ∃ mo m', lp (f87_b24 (GC L) RC 2 ((j : Int) + 1)) FU (e, 0, 0, m) = some (Sum.inl (cz n (TT n K N a (j + 1)), mo, (j : Int) + 2, m')) ∧ JB m0 2 4 6 8 n K N a m' ∧ (∀ i, 0 ≤ i → i < n → m' 4 i = TT n K N a (j + 1) i) ∧ ((mo = 0 ∧ ∀ i, 0 ≤ i → i < n → TT n K N a (j + 1) i = TT n K N a j i) ∨ (mo = 1 ∧ ∃ i, 0 ≤ i ∧ i < n ∧ ¬ TT n K N a (j + 1) i = TT n K N a j i)) := by
  have hn2 : ((n.toNat : Nat) : Int) = n := Int.toNat_of_nonneg (by omega)
  obtain ⟨q, h1, mo, m', h2, h3, h5, h6⟩ := lp_all (f := f87_b24 (GC L) RC 2 ((j : Int) + 1)) (Q := fun q => ∃ mo m', q = Sum.inl (cz n (TT n K N a (j + 1)), mo, (j : Int) + 2, m') ∧ JB m0 2 4 6 8 n K N a m' ∧ (∀ i, 0 ≤ i → i < n → m' 4 i = TT n K N a (j + 1) i) ∧ ((mo = 0 ∧ ∀ i, 0 ≤ i → i < n → TT n K N a (j + 1) i = TT n K N a j i) ∨ (mo = 1 ∧ ∃ i, 0 ≤ i ∧ i < n ∧ ¬ TT n K N a (j + 1) i = TT n K N a j i))) (fun k st => ∃ mo m', st = (cz n (m' 4), mo, (k : Int), m') ∧ JB m0 2 4 6 8 n K N a m' ∧ JM 4 n K N a m' j (k : Int) ∧ ((mo = 0 ∧ ∀ i : Int, 0 ≤ i → i < k → TT n K N a (j + 1) i = TT n K N a j i) ∨ (mo = 1 ∧ ∃ i, 0 ≤ i ∧ i < n ∧ ¬ TT n K N a (j + 1) i = TT n K N a j i))) n.toNat
    (by
      rintro k st hk ⟨mo, m', rfl, i1, i2, i3⟩
      have hk0 : (k : Int) < n := by omega
      have ek : m' 4 k = TT n K N a j k := by rw [i2 k (by omega) hk0, if_neg (by omega)]
      have cb := cz_b (n := n) (by omega) (m' 4)
      unfold f87_b24
      simp only [KG L, KR, RAx L, Option.bind_some, if_true]
      rw [i1.2.1, if_pos hk0, ra_in (by omega) (by omega), ek]
      have same : TT n K N a (j + 1) k = TT n K N a j k → f87_39 (GC L) RC 2 (cz n (m' 4)) mo ((j : Int) + 1) (k : Int) 0 m' = some (Sum.inl (cz n (m' 4), mo, ((k + 1 : Nat) : Int), m')) ∧ JM 4 n K N a m' j ((k + 1 : Nat) : Int) ∧ ((mo = 0 ∧ ∀ i : Int, 0 ≤ i → i < ((k + 1 : Nat) : Int) → TT n K N a (j + 1) i = TT n K N a j i) ∨ (mo = 1 ∧ ∃ i, 0 ≤ i ∧ i < n ∧ ¬ TT n K N a (j + 1) i = TT n K N a j i)) := by
        intro es
        refine ⟨?_, fun i a1 a2 => ?_, ?_⟩
        · unfold f87_39
          rw [if_pos rfl, w32_i (by omega) (by omega)]
          rfl
        · by_cases e : i = k
          · subst e; rw [ek, if_pos (by omega), es]
          · rw [i2 i a1 a2]
            by_cases c : i < (k : Int)
            · rw [if_pos c, if_pos (by omega)]
            · rw [if_neg c, if_neg (by omega)]
        · rcases i3 with ⟨q1, q2⟩ | q
          · refine Or.inl ⟨q1, fun i a1 a2 => ?_⟩
            by_cases e : i = k
            · subst e; exact es
            · exact q2 i a1 (by omega)
          · exact Or.inr q
      by_cases z : TT n K N a j k = 0
      · rw [if_pos z, set_2 L hA h4 h10 hj (by omega) hk0 i1 i2 z]
        simp only [Option.bind_some]
        by_cases z2 : TT n K N a (j + 1) k = 0
        · rw [z2]
          obtain ⟨r1, r2, r3⟩ := same (z2.trans z.symm)
          exact ⟨_, r1, mo, m', rfl, i1, r2, r3⟩
        · unfold f87_39
          rw [if_neg z2]
          simp only [KG L, KR, RPx L, Option.bind_some, if_true]
          rw [rp_in (by omega) (by omega), w32_i (x := (k : Int) + 1) (by omega) (by omega), w32_i (by omega) (by omega)]
          refine ⟨_, rfl, 1, put m' 4 k (TT n K N a (j + 1) k), ?_, JB_p i1 (by decide) (by decide) (by decide) hk0, fun i a1 a2 => ?_, Or.inr ⟨rfl, k, by omega, hk0, fun q => z2 (q.trans z)⟩⟩
          · rw [cz_u (ek.trans z) z2 (by omega) hk0]
            rfl
          · by_cases e : i = k
            · subst e; rw [put_eq, if_pos (by omega)]
            · rw [put_nj e, i2 i a1 a2]
              by_cases c : i < (k : Int)
              · rw [if_pos c, if_pos (by omega)]
              · rw [if_neg c, if_neg (by omega)]
      · rw [if_neg z]
        obtain ⟨r1, r2, r3⟩ := same (by
          rcases TT_ch (n := n) (a := a) (K := K) (N := N) j k with e | ⟨e, _⟩
          · exact e
          · exact absurd e z)
        exact ⟨_, r1, mo, m', rfl, i1, r2, r3⟩)
    (by
      rintro st ⟨mo, m', rfl, i1, i2, i3⟩
      rw [hn2] at i2 i3 ⊢
      have i4 : ∀ i, 0 ≤ i → i < n → m' 4 i = TT n K N a (j + 1) i := fun i a1 a2 => by rw [i2 i a1 a2, if_pos a2]
      refine ⟨Sum.inl (cz n (m' 4), mo, (j : Int) + 2, m'), ?_, mo, m', by rw [cz_c i4], i1, i4, i3⟩
      unfold f87_b24
      simp only [KG L, if_true]
      rw [i1.2.1, if_neg (by omega), xr_some, w32_i (by omega) (by omega)]
      rw [show (j : Int) + 1 + 1 = (j : Int) + 2 by omega])
    (by rw [FU_v]; omega) (e, 0, 0, m) ⟨0, m, by rw [he, cz_c hM]; rfl, hB, fun i a1 a2 => by rw [hM i a1 a2, if_neg (by show ¬ i < 0; omega)], Or.inl ⟨rfl, fun i a1 a2 => absurd a2 (by show ¬ i < 0; omega)⟩⟩
  exact ⟨mo, m', by rw [h1, h2], h3, h5, h6⟩
theorem rnds_2 (L : Nat) {m0 m : Sg} {n a : Int} {K N : Int → Int} (hA : ∃ d, alw a d) (h4 : 4 ≤ n) (h10 : n ≤ 10) (hB : JB m0 2 4 6 8 n K N a m) (hM : ∀ i, 0 ≤ i → i < n → m 4 i = 0) : ∃ m', lp (f87_b14 (GC L) RC 2) FU (n, 1, 1, m) = some (cz n (TT n K N a 10), m') ∧ JB m0 2 4 6 8 n K N a m' ∧ (∀ i, 0 ≤ i → i < n → m' 4 i = TT n K N a 10 i) := by
  have hn2 : ((n.toNat : Nat) : Int) = n := Int.toNat_of_nonneg (by omega)
  obtain ⟨q, h1, m', h2, h3, h5⟩ := lp_ex (f := f87_b14 (GC L) RC 2) (Q := fun q => ∃ m', q = (cz n (TT n K N a 10), m') ∧ JB m0 2 4 6 8 n K N a m' ∧ (∀ i, 0 ≤ i → i < n → m' 4 i = TT n K N a 10 i)) (fun k st => ∃ mo m', st = (cz n (TT n K N a k), mo, (k : Int) + 1, m') ∧ JB m0 2 4 6 8 n K N a m' ∧ (∀ i, 0 ≤ i → i < n → m' 4 i = TT n K N a k i) ∧ ((mo = 1 ∧ cz n (TT n K N a k) ≤ n - k) ∨ (mo = 0 ∧ ∀ i, 0 ≤ i → i < n → TT n K N a 10 i = TT n K N a k i))) n.toNat
    (by
      rintro k st hk ⟨mo, m', rfl, i1, i2, i3⟩
      unfold f87_b14
      simp only [KG L, if_true]
      rw [i1.2.1, if_neg (by omega)]
      rcases i3 with ⟨q1, q2⟩ | ⟨q1, q2⟩
      · left
        rw [if_neg (by omega)]
        obtain ⟨mo2, m2, r1, r2, r3, r4⟩ := rnd_2 L hA h4 h10 (by omega) i1 i2 rfl
        rw [r1]
        refine ⟨_, rfl, mo2, m2, by rw [show ((k + 1 : Nat) : Int) + 1 = (k : Int) + 2 by omega], r2, r3, ?_⟩
        rcases r4 with ⟨e1, e2⟩ | ⟨e1, i, e2, e3, e4⟩
        · refine Or.inr ⟨e1, fun i a1 a2 => ?_⟩
          have := TT_stop' (show 0 < n by omega) hA k e2 (10 - k) i a1 a2
          rw [show k + (10 - k) = 10 by omega] at this
          exact this.trans (e2 i a1 a2).symm
        · refine Or.inl ⟨e1, ?_⟩
          have hc := TT_ch (n := n) (a := a) (K := K) (N := N) k i
          have := cz_lt (n := n) (F := TT n K N a k) (F' := TT n K N a (k + 1)) (fun i a1 a2 q => by
            have := TT_ch (n := n) (a := a) (K := K) (N := N) k i
            omega) ⟨i, e2, e3, by omega, by omega⟩
          omega
      · right
        rw [if_pos q1, xr_some]
        exact ⟨_, rfl, m', by rw [cz_c q2], i1, fun i a1 a2 => (i2 i a1 a2).trans (q2 i a1 a2).symm⟩)
    (by
      rintro st ⟨mo, m', rfl, i1, i2, i3⟩
      unfold f87_b14
      simp only [KG L, if_true]
      rw [i1.2.1, if_pos (by omega), xr_some]
      have hq : ∀ i, 0 ≤ i → i < n → TT n K N a 10 i = TT n K N a n.toNat i := by
        rcases i3 with ⟨q1, q2⟩ | ⟨q1, q2⟩
        · have h0 := cz_0 (n := n) (by omega) (show cz n (TT n K N a n.toNat) ≤ 0 by omega)
          intro i a1 a2
          have := TT_full (n := n) (a := a) (K := K) (N := N) n.toNat h0 (10 - n.toNat) i a1 a2
          rw [show n.toNat + (10 - n.toNat) = 10 by omega] at this
          exact this
        · exact q2
      exact ⟨_, rfl, m', by rw [cz_c hq], i1, fun i a1 a2 => (i2 i a1 a2).trans (hq i a1 a2).symm⟩)
    FU (by rw [FU_v]; omega) (n, 1, 1, m) ⟨1, m, by rw [show cz n (TT n K N a 0) = n from cz_all (by omega)]; rfl, hB, hM, Or.inl ⟨rfl, by have := cz_b (n := n) (by omega) (TT n K N a 0); show _ ≤ n - 0; omega⟩⟩
  exact ⟨m', by rw [h1, h2], h3, h5⟩
theorem rnd_65 (L : Nat) {m0 m : Sg} {n a e : Int} {K N : Int → Int} {j : Nat} (hA : ∃ d, alw a d) (h4 : 4 ≤ n) (h10 : n ≤ 10) (hj : j < 20) (hB : JB m0 65 67 69 71 n K N a m) (hM : ∀ i, 0 ≤ i → i < n → m 67 i = TT n K N a j i) (he : e = cz n (TT n K N a j)) : ∃ mo m', lp (f87_b24 (GC L) RC 65 ((j : Int) + 1)) FU (e, 0, 0, m) = some (Sum.inl (cz n (TT n K N a (j + 1)), mo, (j : Int) + 2, m')) ∧ JB m0 65 67 69 71 n K N a m' ∧ (∀ i, 0 ≤ i → i < n → m' 67 i = TT n K N a (j + 1) i) ∧ ((mo = 0 ∧ ∀ i, 0 ≤ i → i < n → TT n K N a (j + 1) i = TT n K N a j i) ∨ (mo = 1 ∧ ∃ i, 0 ≤ i ∧ i < n ∧ ¬ TT n K N a (j + 1) i = TT n K N a j i)) := by
  have hn2 : ((n.toNat : Nat) : Int) = n := Int.toNat_of_nonneg (by omega)
  obtain ⟨q, h1, mo, m', h2, h3, h5, h6⟩ := lp_all (f := f87_b24 (GC L) RC 65 ((j : Int) + 1)) (Q := fun q => ∃ mo m', q = Sum.inl (cz n (TT n K N a (j + 1)), mo, (j : Int) + 2, m') ∧ JB m0 65 67 69 71 n K N a m' ∧ (∀ i, 0 ≤ i → i < n → m' 67 i = TT n K N a (j + 1) i) ∧ ((mo = 0 ∧ ∀ i, 0 ≤ i → i < n → TT n K N a (j + 1) i = TT n K N a j i) ∨ (mo = 1 ∧ ∃ i, 0 ≤ i ∧ i < n ∧ ¬ TT n K N a (j + 1) i = TT n K N a j i))) (fun k st => ∃ mo m', st = (cz n (m' 67), mo, (k : Int), m') ∧ JB m0 65 67 69 71 n K N a m' ∧ JM 67 n K N a m' j (k : Int) ∧ ((mo = 0 ∧ ∀ i : Int, 0 ≤ i → i < k → TT n K N a (j + 1) i = TT n K N a j i) ∨ (mo = 1 ∧ ∃ i, 0 ≤ i ∧ i < n ∧ ¬ TT n K N a (j + 1) i = TT n K N a j i))) n.toNat
    (by
      rintro k st hk ⟨mo, m', rfl, i1, i2, i3⟩
      have hk0 : (k : Int) < n := by omega
      have ek : m' 67 k = TT n K N a j k := by rw [i2 k (by omega) hk0, if_neg (by omega)]
      have cb := cz_b (n := n) (by omega) (m' 67)
      unfold f87_b24
      simp only [KG L, KR, RAx L, Option.bind_some, if_true]
      rw [i1.2.1, if_pos hk0, ra_in (by omega) (by omega), ek]
      have same : TT n K N a (j + 1) k = TT n K N a j k → f87_39 (GC L) RC 65 (cz n (m' 67)) mo ((j : Int) + 1) (k : Int) 0 m' = some (Sum.inl (cz n (m' 67), mo, ((k + 1 : Nat) : Int), m')) ∧ JM 67 n K N a m' j ((k + 1 : Nat) : Int) ∧ ((mo = 0 ∧ ∀ i : Int, 0 ≤ i → i < ((k + 1 : Nat) : Int) → TT n K N a (j + 1) i = TT n K N a j i) ∨ (mo = 1 ∧ ∃ i, 0 ≤ i ∧ i < n ∧ ¬ TT n K N a (j + 1) i = TT n K N a j i)) := by
        intro es
        refine ⟨?_, fun i a1 a2 => ?_, ?_⟩
        · unfold f87_39
          rw [if_pos rfl, w32_i (by omega) (by omega)]
          rfl
        · by_cases e : i = k
          · subst e; rw [ek, if_pos (by omega), es]
          · rw [i2 i a1 a2]
            by_cases c : i < (k : Int)
            · rw [if_pos c, if_pos (by omega)]
            · rw [if_neg c, if_neg (by omega)]
        · rcases i3 with ⟨q1, q2⟩ | q
          · refine Or.inl ⟨q1, fun i a1 a2 => ?_⟩
            by_cases e : i = k
            · subst e; exact es
            · exact q2 i a1 (by omega)
          · exact Or.inr q
      by_cases z : TT n K N a j k = 0
      · rw [if_pos z, set_65 L hA h4 h10 hj (by omega) hk0 i1 i2 z]
        simp only [Option.bind_some]
        by_cases z2 : TT n K N a (j + 1) k = 0
        · rw [z2]
          obtain ⟨r1, r2, r3⟩ := same (z2.trans z.symm)
          exact ⟨_, r1, mo, m', rfl, i1, r2, r3⟩
        · unfold f87_39
          rw [if_neg z2]
          simp only [KG L, KR, RPx L, Option.bind_some, if_true]
          rw [rp_in (by omega) (by omega), w32_i (x := (k : Int) + 1) (by omega) (by omega), w32_i (by omega) (by omega)]
          refine ⟨_, rfl, 1, put m' 67 k (TT n K N a (j + 1) k), ?_, JB_p i1 (by decide) (by decide) (by decide) hk0, fun i a1 a2 => ?_, Or.inr ⟨rfl, k, by omega, hk0, fun q => z2 (q.trans z)⟩⟩
          · rw [cz_u (ek.trans z) z2 (by omega) hk0]
            rfl
          · by_cases e : i = k
            · subst e; rw [put_eq, if_pos (by omega)]
            · rw [put_nj e, i2 i a1 a2]
              by_cases c : i < (k : Int)
              · rw [if_pos c, if_pos (by omega)]
              · rw [if_neg c, if_neg (by omega)]
      · rw [if_neg z]
        obtain ⟨r1, r2, r3⟩ := same (by
          rcases TT_ch (n := n) (a := a) (K := K) (N := N) j k with e | ⟨e, _⟩
          · exact e
          · exact absurd e z)
        exact ⟨_, r1, mo, m', rfl, i1, r2, r3⟩)
    (by
      rintro st ⟨mo, m', rfl, i1, i2, i3⟩
      rw [hn2] at i2 i3 ⊢
      have i4 : ∀ i, 0 ≤ i → i < n → m' 67 i = TT n K N a (j + 1) i := fun i a1 a2 => by rw [i2 i a1 a2, if_pos a2]
      refine ⟨Sum.inl (cz n (m' 67), mo, (j : Int) + 2, m'), ?_, mo, m', by rw [cz_c i4], i1, i4, i3⟩
      unfold f87_b24
      simp only [KG L, if_true]
      rw [i1.2.1, if_neg (by omega), xr_some, w32_i (by omega) (by omega)]
      rw [show (j : Int) + 1 + 1 = (j : Int) + 2 by omega])
    (by rw [FU_v]; omega) (e, 0, 0, m) ⟨0, m, by rw [he, cz_c hM]; rfl, hB, fun i a1 a2 => by rw [hM i a1 a2, if_neg (by show ¬ i < 0; omega)], Or.inl ⟨rfl, fun i a1 a2 => absurd a2 (by show ¬ i < 0; omega)⟩⟩
  exact ⟨mo, m', by rw [h1, h2], h3, h5, h6⟩
theorem rnds_65 (L : Nat) {m0 m : Sg} {n a : Int} {K N : Int → Int} (hA : ∃ d, alw a d) (h4 : 4 ≤ n) (h10 : n ≤ 10) (hB : JB m0 65 67 69 71 n K N a m) (hM : ∀ i, 0 ≤ i → i < n → m 67 i = 0) : ∃ m', lp (f87_b14 (GC L) RC 65) FU (n, 1, 1, m) = some (cz n (TT n K N a 10), m') ∧ JB m0 65 67 69 71 n K N a m' ∧ (∀ i, 0 ≤ i → i < n → m' 67 i = TT n K N a 10 i) := by
  have hn2 : ((n.toNat : Nat) : Int) = n := Int.toNat_of_nonneg (by omega)
  obtain ⟨q, h1, m', h2, h3, h5⟩ := lp_ex (f := f87_b14 (GC L) RC 65) (Q := fun q => ∃ m', q = (cz n (TT n K N a 10), m') ∧ JB m0 65 67 69 71 n K N a m' ∧ (∀ i, 0 ≤ i → i < n → m' 67 i = TT n K N a 10 i)) (fun k st => ∃ mo m', st = (cz n (TT n K N a k), mo, (k : Int) + 1, m') ∧ JB m0 65 67 69 71 n K N a m' ∧ (∀ i, 0 ≤ i → i < n → m' 67 i = TT n K N a k i) ∧ ((mo = 1 ∧ cz n (TT n K N a k) ≤ n - k) ∨ (mo = 0 ∧ ∀ i, 0 ≤ i → i < n → TT n K N a 10 i = TT n K N a k i))) n.toNat
    (by
      rintro k st hk ⟨mo, m', rfl, i1, i2, i3⟩
      unfold f87_b14
      simp only [KG L, if_true]
      rw [i1.2.1, if_neg (by omega)]
      rcases i3 with ⟨q1, q2⟩ | ⟨q1, q2⟩
      · left
        rw [if_neg (by omega)]
        obtain ⟨mo2, m2, r1, r2, r3, r4⟩ := rnd_65 L hA h4 h10 (by omega) i1 i2 rfl
        rw [r1]
        refine ⟨_, rfl, mo2, m2, by rw [show ((k + 1 : Nat) : Int) + 1 = (k : Int) + 2 by omega], r2, r3, ?_⟩
        rcases r4 with ⟨e1, e2⟩ | ⟨e1, i, e2, e3, e4⟩
        · refine Or.inr ⟨e1, fun i a1 a2 => ?_⟩
          have := TT_stop' (show 0 < n by omega) hA k e2 (10 - k) i a1 a2
          rw [show k + (10 - k) = 10 by omega] at this
          exact this.trans (e2 i a1 a2).symm
        · refine Or.inl ⟨e1, ?_⟩
          have hc := TT_ch (n := n) (a := a) (K := K) (N := N) k i
          have := cz_lt (n := n) (F := TT n K N a k) (F' := TT n K N a (k + 1)) (fun i a1 a2 q => by
            have := TT_ch (n := n) (a := a) (K := K) (N := N) k i
            omega) ⟨i, e2, e3, by omega, by omega⟩
          omega
      · right
        rw [if_pos q1, xr_some]
        exact ⟨_, rfl, m', by rw [cz_c q2], i1, fun i a1 a2 => (i2 i a1 a2).trans (q2 i a1 a2).symm⟩)
    (by
      rintro st ⟨mo, m', rfl, i1, i2, i3⟩
      unfold f87_b14
      simp only [KG L, if_true]
      rw [i1.2.1, if_pos (by omega), xr_some]
      have hq : ∀ i, 0 ≤ i → i < n → TT n K N a 10 i = TT n K N a n.toNat i := by
        rcases i3 with ⟨q1, q2⟩ | ⟨q1, q2⟩
        · have h0 := cz_0 (n := n) (by omega) (show cz n (TT n K N a n.toNat) ≤ 0 by omega)
          intro i a1 a2
          have := TT_full (n := n) (a := a) (K := K) (N := N) n.toNat h0 (10 - n.toNat) i a1 a2
          rw [show n.toNat + (10 - n.toNat) = 10 by omega] at this
          exact this
        · exact q2
      exact ⟨_, rfl, m', by rw [cz_c hq], i1, fun i a1 a2 => (i2 i a1 a2).trans (hq i a1 a2).symm⟩)
    FU (by rw [FU_v]; omega) (n, 1, 1, m) ⟨1, m, by rw [show cz n (TT n K N a 0) = n from cz_all (by omega)]; rfl, hB, hM, Or.inl ⟨rfl, by have := cz_b (n := n) (by omega) (TT n K N a 0); show _ ≤ n - 0; omega⟩⟩
  exact ⟨m', by rw [h1, h2], h3, h5⟩
theorem judge_2_54 (L : Nat) {m0 : Sg} {n : Int} (hn : m0 54 0 = n) (h4 : 4 ≤ n) (h10 : n ≤ 10) (hN : ∀ i, 0 ≤ i → i < n → 0 ≤ m0 58 i ∧ m0 58 i < 1000) (hA : ∃ d, alw (m0 54 3) d) : ∃ m', f87 (GC L) RC 2 54 m0 = some (cz n (TT n (m0 56) (m0 58) (m0 54 3) 10), m') ∧ JB m0 2 4 6 8 n (m0 56) (m0 58) (m0 54 3) m' ∧ (∀ i, 0 ≤ i → i < n → m' 4 i = TT n (m0 56) (m0 58) (m0 54 3) 10 i) := by
  obtain ⟨m1, t1, t2, t3, t4⟩ := tab_2_54 L hn h4 h10 hN
  have hB : JB m0 2 4 6 8 n (m0 56) (m0 58) (m0 54 3) (fil 10 4 m1 0) := by
    refine ⟨fun x i c1 c2 c3 c4 => ?_, ?_, fun s d a1 a2 a3 a4 => ?_, fun i a1 a2 => ?_⟩
    · unfold fil
      rw [if_neg (fun q => c1 q.1)]
      exact t2 x i c2 c3 c4
    · unfold fil
      rw [if_neg (fun q => absurd q.1 (by decide))]
      exact t3
    · unfold fil
      rw [if_neg (fun q => absurd q.1 (by decide)), if_neg (fun q => absurd q.1 (by decide))]
      exact t4 s d a1 a2 a3 a4 (by omega)
    · unfold fil
      rw [if_pos ⟨rfl, by omega, a2⟩]
  obtain ⟨m', h1, h2, h3⟩ := rnds_2 L hA h4 h10 hB (fun i a1 a2 => by unfold fil; rw [if_pos ⟨rfl, a1, by omega⟩])
  refine ⟨m', ?_, h2, h3⟩
  unfold f87
  rw [t1]
  simp only [KG L, KR, RFx L, Option.bind_some, if_true]
  rw [hB.2.1]
  exact h1
theorem judge_2_59 (L : Nat) {m0 : Sg} {n : Int} (hn : m0 59 0 = n) (h4 : 4 ≤ n) (h10 : n ≤ 10) (hN : ∀ i, 0 ≤ i → i < n → 0 ≤ m0 63 i ∧ m0 63 i < 1000) (hA : ∃ d, alw (m0 59 3) d) : ∃ m', f87 (GC L) RC 2 59 m0 = some (cz n (TT n (m0 61) (m0 63) (m0 59 3) 10), m') ∧ JB m0 2 4 6 8 n (m0 61) (m0 63) (m0 59 3) m' ∧ (∀ i, 0 ≤ i → i < n → m' 4 i = TT n (m0 61) (m0 63) (m0 59 3) 10 i) := by
  obtain ⟨m1, t1, t2, t3, t4⟩ := tab_2_59 L hn h4 h10 hN
  have hB : JB m0 2 4 6 8 n (m0 61) (m0 63) (m0 59 3) (fil 10 4 m1 0) := by
    refine ⟨fun x i c1 c2 c3 c4 => ?_, ?_, fun s d a1 a2 a3 a4 => ?_, fun i a1 a2 => ?_⟩
    · unfold fil
      rw [if_neg (fun q => c1 q.1)]
      exact t2 x i c2 c3 c4
    · unfold fil
      rw [if_neg (fun q => absurd q.1 (by decide))]
      exact t3
    · unfold fil
      rw [if_neg (fun q => absurd q.1 (by decide)), if_neg (fun q => absurd q.1 (by decide))]
      exact t4 s d a1 a2 a3 a4 (by omega)
    · unfold fil
      rw [if_pos ⟨rfl, by omega, a2⟩]
  obtain ⟨m', h1, h2, h3⟩ := rnds_2 L hA h4 h10 hB (fun i a1 a2 => by unfold fil; rw [if_pos ⟨rfl, a1, by omega⟩])
  refine ⟨m', ?_, h2, h3⟩
  unfold f87
  rw [t1]
  simp only [KG L, KR, RFx L, Option.bind_some, if_true]
  rw [hB.2.1]
  exact h1
theorem judge_65_77 (L : Nat) {m0 : Sg} {n : Int} (hn : m0 77 0 = n) (h4 : 4 ≤ n) (h10 : n ≤ 10) (hN : ∀ i, 0 ≤ i → i < n → 0 ≤ m0 81 i ∧ m0 81 i < 1000) (hA : ∃ d, alw (m0 77 3) d) : ∃ m', f87 (GC L) RC 65 77 m0 = some (cz n (TT n (m0 79) (m0 81) (m0 77 3) 10), m') ∧ JB m0 65 67 69 71 n (m0 79) (m0 81) (m0 77 3) m' ∧ (∀ i, 0 ≤ i → i < n → m' 67 i = TT n (m0 79) (m0 81) (m0 77 3) 10 i) := by
  obtain ⟨m1, t1, t2, t3, t4⟩ := tab_65_77 L hn h4 h10 hN
  have hB : JB m0 65 67 69 71 n (m0 79) (m0 81) (m0 77 3) (fil 10 67 m1 0) := by
    refine ⟨fun x i c1 c2 c3 c4 => ?_, ?_, fun s d a1 a2 a3 a4 => ?_, fun i a1 a2 => ?_⟩
    · unfold fil
      rw [if_neg (fun q => c1 q.1)]
      exact t2 x i c2 c3 c4
    · unfold fil
      rw [if_neg (fun q => absurd q.1 (by decide))]
      exact t3
    · unfold fil
      rw [if_neg (fun q => absurd q.1 (by decide)), if_neg (fun q => absurd q.1 (by decide))]
      exact t4 s d a1 a2 a3 a4 (by omega)
    · unfold fil
      rw [if_pos ⟨rfl, by omega, a2⟩]
  obtain ⟨m', h1, h2, h3⟩ := rnds_65 L hA h4 h10 hB (fun i a1 a2 => by unfold fil; rw [if_pos ⟨rfl, a1, by omega⟩])
  refine ⟨m', ?_, h2, h3⟩
  unfold f87
  rw [t1]
  simp only [KG L, KR, RFx L, Option.bind_some, if_true]
  rw [hB.2.1]
  exact h1
