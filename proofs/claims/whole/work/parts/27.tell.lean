/-! WHAT IS WON, AS THE MODEL TELLS IT: the rounds -/
def FT (m0 m : Sg) : Prop := ∀ x i, ¬ x = 124 → ¬ x = 125 → ¬ (x = 120 ∧ i = 5) → m x i = m0 x i
theorem FT_r (m : Sg) : FT m m := fun _ _ _ _ _ => rfl
theorem FT_4 {m0 m : Sg} {i v : Int} (h : FT m0 m) : FT m0 (put m 124 i v) := fun x i' c1 c2 c3 => by rw [put_ne c1]; exact h x i' c1 c2 c3
theorem FT_5 {m0 m : Sg} {i v : Int} (h : FT m0 m) : FT m0 (put m 125 i v) := fun x i' c1 c2 c3 => by rw [put_ne c2]; exact h x i' c1 c2 c3
theorem FT_F {m0 m m' : Sg} (h : FT m0 m) (h2 : F5 m m') : FT m0 m' := fun x i' c1 c2 c3 => by rw [h2 x i' c3]; exact h x i' c1 c2 c3
theorem FT_n {m0 m : Sg} {n : Int} (h : FT m0 m) (hn : m0 120 1 = n) : m 120 1 = n := by rw [h 120 1 (by decide) (by decide) (by omega)]; exact hn
theorem FT_K {m0 m : Sg} (h : FT m0 m) (t : Int) : KM m t = KM m0 t := funext fun i => h 121 _ (by decide) (by decide) (by omega)
theorem FT_N {m0 m : Sg} (h : FT m0 m) (t : Int) : NM m t = NM m0 t := funext fun i => h 122 _ (by decide) (by decide) (by omega)
theorem FT_a {m0 m : Sg} (h : FT m0 m) (t : Int) : m 123 t = m0 123 t := h 123 _ (by decide) (by decide) (by omega)
theorem nn {n : Int} (h : 0 ≤ n) : ((n.toNat : Nat) : Int) = n := Int.toNat_of_nonneg h
theorem t118 (L : Nat) {m0 m : Sg} {n t mo k : Int} (hn : m0 120 1 = n) (h4 : 4 ≤ n) (h10 : n ≤ 10) (hk : 0 ≤ k ∧ k < 1000) (hT : FT m0 m) : ∃ m', lp (f153_b118 (GC L) RC 120 t mo k) FU (0, m) = some (Sum.inl (mo, k + 1, m')) ∧ FT m0 m' ∧ (∀ i, 0 ≤ i → i < n → m' 124 i = m 125 i) := by
  obtain ⟨q, h1, m', h2, h3, h5⟩ := lp_all (f := f153_b118 (GC L) RC 120 t mo k) (Q := fun q => ∃ m', q = Sum.inl (mo, k + 1, m') ∧ FT m0 m' ∧ (∀ i, 0 ≤ i → i < n → m' 124 i = m 125 i)) (fun j st => ∃ m', st = ((j : Int), m') ∧ FT m0 m' ∧ m' 125 = m 125 ∧ (∀ i : Int, 0 ≤ i → i < j → m' 124 i = m 125 i)) n.toNat
    (by
      rintro j st hj ⟨m', rfl, i1, i2, i3⟩
      unfold f153_b118
      simp only [KG L, KR, KL L, if_true]
      rw [FT_n i1 hn, if_pos (by omega), if_pos (by omega), if_pos (by omega), w32_i (by omega) (by omega)]
      refine ⟨_, rfl, _, rfl, FT_4 i1, by rw [put_f (by decide)]; exact i2, fun i a1 a2 => ?_⟩
      by_cases e : i = j
      · subst e; rw [put_eq, i2]
      · rw [put_nj e]; exact i3 i a1 (by omega))
    (by
      rintro st ⟨m', rfl, i1, i2, i3⟩
      refine ⟨Sum.inl (mo, k + 1, m'), ?_, m', rfl, i1, fun i a1 a2 => i3 i a1 (by omega)⟩
      unfold f153_b118
      simp only [KG L, if_true]
      rw [FT_n i1 hn, if_neg (by omega), xr_some, w32_i (by omega) (by omega)])
    (by rw [FU_v]; omega) (0, m) ⟨m, rfl, hT, rfl, fun i a1 a2 => absurd a2 (by show ¬ i < 0; omega)⟩
  exact ⟨m', by rw [h1, h2], h3, h5⟩
theorem t39 (L : Nat) {m0 m : Sg} {n t : Int} {j : Nat} (hn : m0 120 1 = n) (h4 : 4 ≤ n) (h10 : n ≤ 10) (ht : 0 ≤ t ∧ t < 14) (hj : j < 20) (hN : ∀ i, 0 ≤ i → i < n → 0 ≤ NM m0 t i ∧ NM m0 t i < 1000) (hT : FT m0 m) (hF : ∀ i, 0 ≤ i → i < n → m 124 i = TT n (KM m0 t) (NM m0 t) (m0 123 t) j i) (hX : ∀ i, 0 ≤ i → i < n → m 125 i = TT n (KM m0 t) (NM m0 t) (m0 123 t) j i) : ∃ mo m', lp (f153_b39 (GC L) RC 120 t ((j : Int) + 1)) FU (0, 0, m) = some (Sum.inl (mo, (j : Int) + 2, m')) ∧ FT m0 m' ∧ (∀ i, 0 ≤ i → i < n → m' 124 i = TT n (KM m0 t) (NM m0 t) (m0 123 t) (j + 1) i) ∧ ((mo = 0 ∧ ∀ i, 0 ≤ i → i < n → TT n (KM m0 t) (NM m0 t) (m0 123 t) (j + 1) i = TT n (KM m0 t) (NM m0 t) (m0 123 t) j i) ∨ (mo = 1 ∧ ∃ i, 0 ≤ i ∧ i < n ∧ ¬ TT n (KM m0 t) (NM m0 t) (m0 123 t) (j + 1) i = TT n (KM m0 t) (NM m0 t) (m0 123 t) j i)) := by
  generalize hK : KM m0 t = K at *
  generalize hNN : NM m0 t = N at *
  generalize ha : m0 123 t = a at *
  obtain ⟨q, h1, mo, m', h2, h3, h5, h6⟩ := lp_all (f := f153_b39 (GC L) RC 120 t ((j : Int) + 1)) (Q := fun q => ∃ mo m', q = Sum.inl (mo, (j : Int) + 2, m') ∧ FT m0 m' ∧ (∀ i, 0 ≤ i → i < n → m' 124 i = TT n K N a (j + 1) i) ∧ ((mo = 0 ∧ ∀ i, 0 ≤ i → i < n → TT n K N a (j + 1) i = TT n K N a j i) ∨ (mo = 1 ∧ ∃ i, 0 ≤ i ∧ i < n ∧ ¬ TT n K N a (j + 1) i = TT n K N a j i))) (fun k st => ∃ mo m', st = (mo, (k : Int), m') ∧ FT m0 m' ∧ (∀ i, 0 ≤ i → i < n → m' 124 i = TT n K N a j i) ∧ (∀ i, 0 ≤ i → i < n → m' 125 i = if i < (k : Int) then TT n K N a (j + 1) i else TT n K N a j i) ∧ ((mo = 0 ∧ ∀ i : Int, 0 ≤ i → i < k → TT n K N a (j + 1) i = TT n K N a j i) ∨ (mo = 1 ∧ ∃ i, 0 ≤ i ∧ i < n ∧ ¬ TT n K N a (j + 1) i = TT n K N a j i))) n.toNat
    (by
      rintro k st hk ⟨mo, m', rfl, i1, i2, i3, i4⟩
      have hk0 : (k : Int) < n := by omega
      have ek := i2 k (by omega) hk0
      have hK' := (FT_K i1 t).trans hK
      have hN' := (FT_N i1 t).trans hNN
      have ha' := (FT_a i1 t).trans ha
      unfold f153_b39
      simp only [KG L, KR, KL L, if_true]
      rw [FT_n i1 hn, if_pos hk0, if_pos (by omega), ek]
      have hstep : ∀ m2 : Sg, FT m0 m2 → m2 124 = m' 124 → (∀ i, ¬ i = (k : Int) → m2 125 i = m' 125 i) → m2 125 k = TT n K N a (j + 1) k → (∀ i, 0 ≤ i → i < n → m2 124 i = TT n K N a j i) ∧ (∀ i, 0 ≤ i → i < n → m2 125 i = if i < ((k + 1 : Nat) : Int) then TT n K N a (j + 1) i else TT n K N a j i) := by
        intro m2 _ b2 b3 b4
        refine ⟨fun i a1 a2 => by rw [b2]; exact i2 i a1 a2, fun i a1 a2 => ?_⟩
        by_cases e : i = k
        · subst e; rw [b4, if_pos (by omega)]
        · rw [b3 i e, i3 i a1 a2]
          by_cases c : i < (k : Int)
          · rw [if_pos c, if_pos (by omega)]
          · rw [if_neg c, if_neg (by omega)]
      have same : TT n K N a (j + 1) k = TT n K N a j k → ((mo = 0 ∧ ∀ i : Int, 0 ≤ i → i < ((k + 1 : Nat) : Int) → TT n K N a (j + 1) i = TT n K N a j i) ∨ (mo = 1 ∧ ∃ i, 0 ≤ i ∧ i < n ∧ ¬ TT n K N a (j + 1) i = TT n K N a j i)) := by
        intro es
        rcases i4 with ⟨q1, q2⟩ | q
        · refine Or.inl ⟨q1, fun i a1 a2 => ?_⟩
          by_cases e : i = k
          · subst e; exact es
          · exact q2 i a1 (by omega)
        · exact Or.inr q
      by_cases z : TT n K N a j k = 0
      · rw [if_pos z]
        obtain ⟨m2, r1, r2⟩ := sq_s L (m0 := m') (t := t) (mo := mo) (j := j) (s := k) (FT_n i1 hn) h4 h10 ht hj (by rw [hN']; exact hN) (by omega) hk0 (by rw [hK', hN', ha']; exact i2) (by rw [hK', hN', ha']; exact z)
        rw [r2, hK', hN', ha']
        unfold f153_102
        simp only [KG L, KR, KL L, if_true, put_eq]
        simp only [if_pos (show 0 ≤ (k : Int) ∧ (k : Int) < 10 by omega)]
        rw [w32_i (by omega) (by omega)]
        have T2 : FT m0 (put m2 125 k (TT n K N a (j + 1) k)) := FT_5 (FT_F i1 r1)
        obtain ⟨s1, s2⟩ := hstep (put m2 125 k (TT n K N a (j + 1) k)) T2 (by rw [put_f (by decide)]; exact F5_f r1 (by decide)) (fun i hi => by rw [put_nj hi]; exact r1 125 i (fun q => absurd q.1 (by decide))) (put_eq _ _ _ _)
        by_cases z2 : TT n K N a (j + 1) k = 0
        · have sm := same (z2.trans z.symm)
          by_cases c : mo = 0
          · rw [if_pos c, if_pos z2]
            subst c
            exact ⟨_, rfl, 0, _, rfl, T2, s1, s2, sm⟩
          · rw [if_neg c]
            have c1 : mo = 1 := by
              rcases i4 with q | q
              · exact absurd q.1 c
              · exact q.1
            subst c1
            exact ⟨_, rfl, 1, _, rfl, T2, s1, s2, sm⟩
        · have dif : (1 : Int) = 0 ∧ (∀ i : Int, 0 ≤ i → i < ((k + 1 : Nat) : Int) → TT n K N a (j + 1) i = TT n K N a j i) ∨ (1 : Int) = 1 ∧ ∃ i, 0 ≤ i ∧ i < n ∧ ¬ TT n K N a (j + 1) i = TT n K N a j i := Or.inr ⟨rfl, k, by omega, hk0, fun q => z2 (q.trans z)⟩
          by_cases c : mo = 0
          · rw [if_pos c, if_neg z2]
            exact ⟨_, rfl, 1, _, rfl, T2, s1, s2, dif⟩
          · rw [if_neg c]
            exact ⟨_, rfl, 1, _, rfl, T2, s1, s2, dif⟩
      · rw [if_neg z, w32_i (by omega) (by omega)]
        have es : TT n K N a (j + 1) k = TT n K N a j k := by
          rcases TT_ch (n := n) (a := a) (K := K) (N := N) j k with e | ⟨e, _⟩
          · exact e
          · exact absurd e z
        obtain ⟨s1, s2⟩ := hstep m' i1 rfl (fun i _ => rfl) (by rw [i3 k (by omega) hk0, if_neg (by omega)]; exact es.symm)
        exact ⟨_, rfl, mo, m', rfl, i1, s1, s2, same es⟩)
    (by
      rintro st ⟨mo, m', rfl, i1, i2, i3, i4⟩
      rw [nn (by omega)] at i3 i4
      obtain ⟨m2, r1, r2, r3⟩ := t118 L (t := t) (mo := mo) (k := (j : Int) + 1) hn h4 h10 (by omega) i1
      refine ⟨_, ?_, mo, m2, rfl, r2, fun i a1 a2 => by rw [r3 i a1 a2, i3 i a1 a2, if_pos a2], i4⟩
      unfold f153_b39
      simp only [KG L, if_true]
      rw [FT_n i1 hn, if_neg (by omega), r1, xr_some]
      rw [show (j : Int) + 1 + 1 = (j : Int) + 2 by omega])
    (by rw [FU_v]; omega) (0, 0, m) ⟨0, m, rfl, hT, hF, fun i a1 a2 => by rw [hX i a1 a2, if_neg (by show ¬ i < 0; omega)], Or.inl ⟨rfl, fun i a1 a2 => absurd a2 (by show ¬ i < 0; omega)⟩⟩
  exact ⟨mo, m', by rw [h1, h2], h3, h5, h6⟩
theorem t23 (L : Nat) {m0 m : Sg} {n t : Int} {j : Nat} (hn : m0 120 1 = n) (h4 : 4 ≤ n) (h10 : n ≤ 10) (ht : 0 ≤ t ∧ t < 14) (hj : j < 20) (hN : ∀ i, 0 ≤ i → i < n → 0 ≤ NM m0 t i ∧ NM m0 t i < 1000) (hT : FT m0 m) (hF : ∀ i, 0 ≤ i → i < n → m 124 i = TT n (KM m0 t) (NM m0 t) (m0 123 t) j i) : ∃ mo m', lp (f153_b23 (GC L) RC 120 t 0 ((j : Int) + 1)) FU (0, m) = some (Sum.inl (mo, (j : Int) + 2, m')) ∧ FT m0 m' ∧ (∀ i, 0 ≤ i → i < n → m' 124 i = TT n (KM m0 t) (NM m0 t) (m0 123 t) (j + 1) i) ∧ ((mo = 0 ∧ ∀ i, 0 ≤ i → i < n → TT n (KM m0 t) (NM m0 t) (m0 123 t) (j + 1) i = TT n (KM m0 t) (NM m0 t) (m0 123 t) j i) ∨ (mo = 1 ∧ ∃ i, 0 ≤ i ∧ i < n ∧ ¬ TT n (KM m0 t) (NM m0 t) (m0 123 t) (j + 1) i = TT n (KM m0 t) (NM m0 t) (m0 123 t) j i)) := by
  obtain ⟨q, h1, mo, m', h2, h3, h5, h6⟩ := lp_all (f := f153_b23 (GC L) RC 120 t 0 ((j : Int) + 1)) (Q := fun q => ∃ mo m', q = Sum.inl (mo, (j : Int) + 2, m') ∧ FT m0 m' ∧ (∀ i, 0 ≤ i → i < n → m' 124 i = TT n (KM m0 t) (NM m0 t) (m0 123 t) (j + 1) i) ∧ ((mo = 0 ∧ ∀ i, 0 ≤ i → i < n → TT n (KM m0 t) (NM m0 t) (m0 123 t) (j + 1) i = TT n (KM m0 t) (NM m0 t) (m0 123 t) j i) ∨ (mo = 1 ∧ ∃ i, 0 ≤ i ∧ i < n ∧ ¬ TT n (KM m0 t) (NM m0 t) (m0 123 t) (j + 1) i = TT n (KM m0 t) (NM m0 t) (m0 123 t) j i))) (fun k st => ∃ m', st = ((k : Int), m') ∧ FT m0 m' ∧ m' 124 = m 124 ∧ (∀ i : Int, 0 ≤ i → i < k → m' 125 i = m 124 i)) n.toNat
    (by
      rintro k st hk ⟨m', rfl, i1, i2, i3⟩
      unfold f153_b23
      simp only [KG L, KR, KL L, if_true]
      rw [FT_n i1 hn, if_pos (by omega), if_pos (by omega), if_pos (by omega), w32_i (by omega) (by omega)]
      refine ⟨_, rfl, _, rfl, FT_5 i1, by rw [put_f (by decide)]; exact i2, fun i a1 a2 => ?_⟩
      by_cases e : i = k
      · subst e; rw [put_eq, i2]
      · rw [put_nj e]; exact i3 i a1 (by omega))
    (by
      rintro st ⟨m', rfl, i1, i2, i3⟩
      rw [nn (by omega)] at i3
      obtain ⟨mo, m2, r1, r2, r3, r4⟩ := t39 L (t := t) (j := j) hn h4 h10 ht hj hN i1 (by rw [i2]; exact hF) (fun i a1 a2 => by rw [i3 i a1 a2]; exact hF i a1 a2)
      refine ⟨_, ?_, mo, m2, rfl, r2, r3, r4⟩
      unfold f153_b23
      simp only [KG L, if_true]
      rw [FT_n i1 hn, if_neg (by omega), r1, xr_some])
    (by rw [FU_v]; omega) (0, m) ⟨m, rfl, hT, rfl, fun i a1 a2 => absurd a2 (by show ¬ i < 0; omega)⟩
  exact ⟨mo, m', by rw [h1, h2], h3, h5, h6⟩
theorem t17 (L : Nat) {m0 m : Sg} {n t : Int} (hn : m0 120 1 = n) (h4 : 4 ≤ n) (h10 : n ≤ 10) (ht : 0 ≤ t ∧ t < 14) (hA : ∃ d, alw (m0 123 t) d) (hN : ∀ i, 0 ≤ i → i < n → 0 ≤ NM m0 t i ∧ NM m0 t i < 1000) (hT : FT m0 m) (hF : ∀ i, 0 ≤ i → i < n → m 124 i = 0) : ∃ m', lp (f153_b17 (GC L) RC 120 t) FU (1, 1, m) = some m' ∧ FT m0 m' ∧ (∀ i, 0 ≤ i → i < n → m' 124 i = TT n (KM m0 t) (NM m0 t) (m0 123 t) 10 i) := by
  generalize hK : KM m0 t = K at *
  generalize hNN : NM m0 t = N at *
  generalize ha : m0 123 t = a at *
  obtain ⟨m', h1, h2, h3⟩ := lp_ex (f := f153_b17 (GC L) RC 120 t) (Q := fun m' => FT m0 m' ∧ (∀ i, 0 ≤ i → i < n → m' 124 i = TT n K N a 10 i)) (fun k st => ∃ mo m', st = (mo, (k : Int) + 1, m') ∧ FT m0 m' ∧ (∀ i, 0 ≤ i → i < n → m' 124 i = TT n K N a k i) ∧ ((mo = 1 ∧ cz n (TT n K N a k) ≤ n - k) ∨ (mo = 0 ∧ ∀ i, 0 ≤ i → i < n → TT n K N a 10 i = TT n K N a k i))) (n.toNat + 1)
    (by
      rintro k st hk ⟨mo, m', rfl, i1, i2, i3⟩
      unfold f153_b17
      simp only
      rcases i3 with ⟨q1, q2⟩ | ⟨q1, q2⟩
      · left
        rw [if_neg (by omega)]
        obtain ⟨mo2, m2, r1, r2, r3, r4⟩ := t23 L (m0 := m0) (t := t) (j := k) hn h4 h10 ht (by omega) (by rw [hNN]; exact hN) i1 (by rw [hK, hNN, ha]; exact i2)
        rw [hK, hNN, ha] at r3 r4
        rw [r1]
        refine ⟨_, rfl, mo2, m2, by rw [show ((k + 1 : Nat) : Int) + 1 = (k : Int) + 2 by omega], r2, r3, ?_⟩
        rcases r4 with ⟨e1, e2⟩ | ⟨e1, i, e2, e3, e4⟩
        · refine Or.inr ⟨e1, fun i a1 a2 => ?_⟩
          have := TT_stop' (show 0 < n by omega) hA k e2 (10 - k) i a1 a2
          rw [show k + (10 - k) = 10 by omega] at this
          exact this.trans (e2 i a1 a2).symm
        · refine Or.inl ⟨e1, ?_⟩
          have hc := TT_ch (n := n) (a := a) (K := K) (N := N) k i
          have := cz_lt (n := n) (F := TT n K N a k) (F' := TT n K N a (k + 1)) (fun i a1 a2 q => by
            have := TT_ch (n := n) (a := a) (K := K) (N := N) k i
            omega) ⟨i, e2, e3, by omega, by omega⟩
          omega
      · right
        rw [if_pos q1, xr_some]
        exact ⟨_, rfl, i1, fun i a1 a2 => (i2 i a1 a2).trans (q2 i a1 a2).symm⟩)
    (by
      rintro st ⟨mo, m', rfl, i1, i2, i3⟩
      have cb := cz_b (n := n) (by omega) (TT n K N a (n.toNat + 1))
      rcases i3 with ⟨q1, q2⟩ | ⟨q1, q2⟩
      · exfalso; omega
      · unfold f153_b17
        simp only
        rw [if_pos q1, xr_some]
        exact ⟨_, rfl, i1, fun i a1 a2 => (i2 i a1 a2).trans (q2 i a1 a2).symm⟩)
    FU (by rw [FU_v]; omega) (1, 1, m) ⟨1, m, rfl, hT, hF, Or.inl ⟨rfl, by have := cz_b (n := n) (by omega) (TT n K N a 0); show _ ≤ n - 0; omega⟩⟩
  exact ⟨m', h1, h2, h3⟩
theorem tell_s (L : Nat) {m0 : Sg} {n t : Int} (hn : m0 120 1 = n) (h4 : 4 ≤ n) (h10 : n ≤ 10) (ht : 0 ≤ t ∧ t < 14) (hA : ∃ d, alw (m0 123 t) d) (hN : ∀ i, 0 ≤ i → i < n → 0 ≤ NM m0 t i ∧ NM m0 t i < 1000) : ∃ m', f153 (GC L) RC 120 t m0 = some m' ∧ FT m0 m' ∧ (∀ i, 0 ≤ i → i < n → m' 124 i = TT n (KM m0 t) (NM m0 t) (m0 123 t) 10 i) := by
  unfold f153
  exact lp_all (f := f153_b2 (GC L) RC 120 t) (Q := fun m' => FT m0 m' ∧ (∀ i, 0 ≤ i → i < n → m' 124 i = TT n (KM m0 t) (NM m0 t) (m0 123 t) 10 i)) (fun k st => ∃ m', st = ((k : Int), m') ∧ FT m0 m' ∧ (∀ i : Int, 0 ≤ i → i < k → m' 124 i = 0)) n.toNat
    (by
      rintro k st hk ⟨m', rfl, i1, i3⟩
      unfold f153_b2
      simp only [KG L, KR, KL L, if_true]
      rw [FT_n i1 hn, if_pos (by omega), if_pos (by omega), w32_i (by omega) (by omega)]
      refine ⟨_, rfl, _, rfl, FT_4 i1, fun i a1 a2 => ?_⟩
      by_cases e : i = k
      · subst e; rw [put_eq]
      · rw [put_nj e]; exact i3 i a1 (by omega))
    (by
      rintro st ⟨m', rfl, i1, i3⟩
      rw [nn (by omega)] at i3
      obtain ⟨m2, r1, r2, r3⟩ := t17 L (t := t) hn h4 h10 ht hA hN i1 i3
      refine ⟨m2, ?_, r2, r3⟩
      unfold f153_b2
      simp only [KG L, if_true]
      rw [FT_n i1 hn, if_neg (by omega), r1, xr_some])
    (by rw [FU_v]; omega) (0, m0) ⟨m0, rfl, FT_r m0, fun i a1 a2 => absurd a2 (by show ¬ i < 0; omega)⟩
