/-! WHAT IS WON, AS THE CLASS RECKONS IT: the rounds -/
theorem vl_av {n a : Int} {K N O Ld F : Int → Int} {s d : Int} (j : Nat) (hO : O (5 * s + d - 1) = ou n K N s d) (hL : Ld (5 * s + d - 1) = la n K N s d) (hM : F (la n K N s d) = TT n K N a j (la n K N s d) ∨ F (la n K N s d) = TT n K N a (j + 1) (la n K N s d)) : vl O Ld F ((j : Int) + 1) s d = av n K N (TT n K N a j) s d := by
  have hb := TT_b (n := n) (K := K) (N := N) (a := a) j (la n K N s d)
  have ho := ou_b (n := n) (K := K) (N := N) s d
  have hc := TT_ch (n := n) (K := K) (N := N) (a := a) j (la n K N s d)
  unfold vl av
  rw [hO, hL]
  generalize ou n K N s d = u at *
  generalize TT n K N a j (la n K N s d) = t at *
  generalize TT n K N a (j + 1) (la n K N s d) = t' at *
  generalize F (la n K N s d) = f at *
  by_cases c2 : u = 2
  · rw [if_pos c2, if_pos c2]
  · rw [if_neg c2, if_neg c2]
    by_cases c3 : u = 3
    · rw [if_pos c3, if_pos c3]
    · rw [if_neg c3, if_neg c3]
      by_cases cf : f = 0
      · rw [if_pos cf, if_pos (by omega)]
      · rw [if_neg cf]
        by_cases ce : f = t
        · subst ce
          rw [if_neg cf]
          by_cases cn : f < 0
          · simp only [if_pos cn, if_neg (show ¬ 0 < f by omega)]
            rw [if_pos (by omega)]
            by_cases c1 : u = 1
            · rw [if_pos c1, if_neg (by omega)]
            · rw [if_neg c1, if_pos (by omega)]; omega
          · simp only [if_neg cn, if_pos (show 0 < f by omega)]
            rw [if_pos (by omega)]
            by_cases c1 : u = 1
            · rw [if_pos c1, if_neg (by omega)]
            · rw [if_neg c1, if_pos (by omega)]; omega
        · have ht : t = 0 := by omega
          rw [if_pos ht, if_neg]
          split <;> omega
/-- how many of the first squares are worth nothing -/
def cz (n : Int) (F : Int → Int) : Int := cnt (fun i => decide (F i = 0)) n.toNat
theorem cz_c {n : Int} {F F' : Int → Int} (h : ∀ i, 0 ≤ i → i < n → F i = F' i) : cz n F = cz n F' := cnt_c _ (fun i h1 h2 => by rw [h i h1 (by omega)])
def JB (m0 : Sg) (w F o l : Nat) (n : Int) (K N : Int → Int) (a : Int) (m : Sg) : Prop := (∀ x i, ¬ x = F → ¬ x = o → ¬ x = l → ¬ (x = w ∧ i = 3) → m x i = m0 x i) ∧ m w 3 = n ∧ (∀ s d, 0 ≤ s → s < n → 1 ≤ d → d ≤ 5 → m o (5 * s + d - 1) = oc n K N a s d ∧ m l (5 * s + d - 1) = la n K N s d) ∧ (∀ i, n ≤ i → i < 10 → m F i = 0)
theorem JB_p {m0 : Sg} {w F o l : Nat} {n : Int} {K N : Int → Int} {a : Int} {m : Sg} {i v : Int} (h : JB m0 w F o l n K N a m) (h1 : ¬ o = F) (h2 : ¬ l = F) (h3 : ¬ w = F) (hi : i < n) : JB m0 w F o l n K N a (put m F i v) := by
  obtain ⟨i1, i2, i3, i4⟩ := h
  refine ⟨fun x i' c1 c2 c3 c4 => ?_, ?_, fun s d a1 a2 a3 a4 => ?_, fun i' a1 a2 => ?_⟩
  · rw [put_ne c1]; exact i1 x i' c1 c2 c3 c4
  · rw [put_ne h3]; exact i2
  · rw [put_ne h1, put_ne h2]; exact i3 s d a1 a2 a3 a4
  · rw [put_nj (by omega)]; exact i4 i' a1 a2
/-- the rows in the middle of a round: squares before s have had their turn -/
def JM (F : Nat) (n : Int) (K N : Int → Int) (a : Int) (m : Sg) (j : Nat) (s : Int) : Prop := ∀ i, 0 ≤ i → i < n → m F i = if i < s then TT n K N a (j + 1) i else TT n K N a j i
theorem set_2 (L : Nat) {m0 m : Sg} {n a s : Int} {K N : Int → Int} {j : Nat} (hA : ∃ d, alw a d) (h4 : 4 ≤ n) (h10 : n ≤ 10) (hj : j < 20) (hs : 0 ≤ s) (hs2 : s < n) (hB : JB m0 2 4 6 8 n K N a m) (hM : JM 4 n K N a m j s) (hz : TT n K N a j s = 0) : f93 (GC L) RC 2 s ((j : Int) + 1) m = some (TT n K N a (j + 1) s) := by
  have hO := TT_o (n := n) (K := K) (N := N) hA j s hz
  have hMF : ∀ i, 0 ≤ i → i < n → m 4 i = TT n K N a j i ∨ m 4 i = TT n K N a (j + 1) i := by
    intro i h1 h2
    rw [hM i h1 h2]
    split
    · exact Or.inr rfl
    · exact Or.inl rfl
  have hF : ∀ i, 0 ≤ i → i < 10 → -100 ≤ m 4 i ∧ m 4 i ≤ 100 := by
    intro i h1 h2
    by_cases c : i < n
    · have b1 := TT_b (n := n) (K := K) (N := N) (a := a) j i
      have b2 := TT_b (n := n) (K := K) (N := N) (a := a) (j + 1) i
      rcases hMF i h1 c with e | e <;> rw [e] <;> omega
    · rw [hB.2.2.2 i (by omega) h2]; omega
  have hv : ∀ d, alw a d → f94 (GC L) RC 2 s d ((j : Int) + 1) m = some (av n K N (TT n K N a j) s d) := by
    intro d hd
    obtain ⟨t1, t2⟩ := hB.2.2.1 s d hs hs2 hd.1 hd.2.1
    have hl := la_b (K := K) (N := N) (show 0 < n by omega) s d
    rw [f94_2 L hs (by omega) hd.1 hd.2.1 (by rw [t2]; omega) hF, vl_av j (t1.trans (oc_a hd)) t2 (hMF _ hl.1 hl.2)]
  have bb := fun d => av_b (n := n) (K := K) (N := N) (F := TT n K N a j) (s := s) (j := j) (fun s => TT_b j s) (by omega) d
  unfold f93
  obtain ⟨q, h1, h2⟩ := lp_all (f := f93_b8 (GC L) RC 2 s ((j : Int) + 1) m) (Q := fun q => q = TT n K N a (j + 1) s) (fun k st => ∃ so lt op : Int, st = (so, lt, op, (k : Int) + 1) ∧ ((so = 0 ∧ ∀ d : Int, d ≤ k → alw a d → ¬ av n K N (TT n K N a j) s d = (j : Int) + 1) ∨ (so = (j : Int) + 1 ∧ ∃ d, alw a d ∧ av n K N (TT n K N a j) s d = (j : Int) + 1)) ∧ ((op = 0 ∧ ∀ d : Int, d ≤ k → alw a d → ¬ av n K N (TT n K N a j) s d = 0) ∨ (op = 1 ∧ ∃ d, alw a d ∧ av n K N (TT n K N a j) s d = 0)) ∧ lt ≤ 0 ∧ -((j : Int) + 1) ≤ lt ∧ (∀ d : Int, d ≤ k → alw a d → av n K N (TT n K N a j) s d = -((j : Int) + 1) → lt = -((j : Int) + 1))) 5
    (by
      rintro k st hk ⟨so, lt, op, rfl, i1, i2, i3, i4, i5⟩
      obtain ⟨t1, t2⟩ := hB.2.2.1 s ((k : Int) + 1) hs hs2 (by omega) (by omega)
      unfold f93_b8
      simp only
      rw [if_neg (by omega), f91_s (by omega) (by omega) (by omega) (by omega), w32_i (x := (k : Int) + 1 + 1) (by omega) (by omega)]
      simp only [KG L, KR, RAx L, Option.bind_some, if_true]
      rw [ra_in (n := 50) (F := m 6) (by omega) (by omega), t1]
      by_cases c : alw a ((k : Int) + 1)
      · have b0 := bb ((k : Int) + 1)
        have o0 := hO.1 _ c
        have u0 := ou_b (n := n) (K := K) (N := N) s ((k : Int) + 1)
        rw [oc_a c, if_neg (by omega), hv _ c]
        simp only [Option.bind_some]
        generalize hav : av n K N (TT n K N a j) s ((k : Int) + 1) = v at b0 o0 ⊢
        by_cases v0 : v = 0
        · rw [if_pos v0]
          refine ⟨_, rfl, so, lt, 1, rfl, ?_, Or.inr ⟨rfl, _, c, hav.trans v0⟩, i3, i4, ?_⟩
          · rcases i1 with ⟨q1, q2⟩ | q
            · refine Or.inl ⟨q1, fun d a1 a2 => ?_⟩
              by_cases e : d = (k : Int) + 1
              · rw [e, hav]; omega
              · exact q2 d (by omega) a2
            · exact Or.inr q
          · intro d a1 a2 a3
            by_cases e : d = (k : Int) + 1
            · rw [e, hav] at a3; omega
            · exact i5 d (by omega) a2 a3
        · rw [if_neg v0]
          have i2' : (op = 0 ∧ ∀ d, d ≤ ((k + 1 : Nat) : Int) → alw a d → ¬ av n K N (TT n K N a j) s d = 0) ∨ (op = 1 ∧ ∃ d, alw a d ∧ av n K N (TT n K N a j) s d = 0) := by
            rcases i2 with ⟨q1, q2⟩ | q
            · refine Or.inl ⟨q1, fun d a1 a2 => ?_⟩
              by_cases e : d = (k : Int) + 1
              · rw [e, hav]; exact v0
              · exact q2 d (by omega) a2
            · exact Or.inr q
          by_cases vn : v < 0
          · rw [if_pos vn]
            have i1' : (so = 0 ∧ ∀ d, d ≤ ((k + 1 : Nat) : Int) → alw a d → ¬ av n K N (TT n K N a j) s d = (j : Int) + 1) ∨ (so = (j : Int) + 1 ∧ ∃ d, alw a d ∧ av n K N (TT n K N a j) s d = (j : Int) + 1) := by
              rcases i1 with ⟨q1, q2⟩ | q
              · refine Or.inl ⟨q1, fun d a1 a2 => ?_⟩
                by_cases e : d = (k : Int) + 1
                · rw [e, hav]; omega
                · exact q2 d (by omega) a2
              · exact Or.inr q
            have e227 : f227 (GC L) RC lt v m = some (if v < lt then v else lt) := by
              unfold f227; split <;> rfl
            rw [e227]
            simp only [Option.bind_some]
            refine ⟨_, rfl, so, (if v < lt then v else lt), op, rfl, i1', i2', ?_, ?_, ?_⟩
            · split <;> omega
            · split <;> omega
            · intro d a1 a2 a3
              by_cases e : d = (k : Int) + 1
              · rw [e, hav] at a3; split <;> omega
              · have := i5 d (by omega) a2 a3
                split <;> omega
          · rw [if_neg vn]
            have vk : v = (j : Int) + 1 := by omega
            have i5' : ∀ d, d ≤ ((k + 1 : Nat) : Int) → alw a d → av n K N (TT n K N a j) s d = -((j : Int) + 1) → lt = -((j : Int) + 1) := by
              intro d a1 a2 a3
              by_cases e : d = (k : Int) + 1
              · rw [e, hav] at a3; omega
              · exact i5 d (by omega) a2 a3
            by_cases s0 : so = 0
            · rw [if_pos s0]
              exact ⟨_, rfl, v, lt, op, rfl, Or.inr ⟨vk, _, c, hav.trans vk⟩, i2', i3, i4, i5'⟩
            · rw [if_neg s0]
              have se : so = (j : Int) + 1 := by
                rcases i1 with ⟨q1, q2⟩ | ⟨q1, q2⟩ <;> omega
              rw [if_neg (by omega)]
              exact ⟨_, rfl, so, lt, op, rfl, Or.inr ⟨se, _, c, hav.trans vk⟩, i2', i3, i4, i5'⟩
      · rw [oc_n c, if_pos rfl]
        have hn : ∀ d, d ≤ ((k + 1 : Nat) : Int) → alw a d → d ≤ (k : Int) := by
          intro d a1 a2
          by_cases e : d = (k : Int) + 1
          · rw [e] at a2; exact absurd a2 c
          · omega
        refine ⟨_, rfl, so, lt, op, rfl, ?_, ?_, i3, i4, fun d a1 a2 => i5 d (hn d a1 a2) a2⟩
        · rcases i1 with ⟨q1, q2⟩ | q
          · exact Or.inl ⟨q1, fun d a1 a2 => q2 d (hn d a1 a2) a2⟩
          · exact Or.inr q
        · rcases i2 with ⟨q1, q2⟩ | q
          · exact Or.inl ⟨q1, fun d a1 a2 => q2 d (hn d a1 a2) a2⟩
          · exact Or.inr q)
    (by
      rintro st ⟨so, lt, op, rfl, i1, i2, i3, i4, i5⟩
      unfold f93_b8
      simp only
      rw [if_pos (by omega), TT_s]
      rcases nx_cases (n := n) (a := a) (K := K) (N := N) (F := TT n K N a j) (s := s) (k := (j : Int) + 1) (by omega) with ⟨q0, _⟩ | ⟨_, ⟨d, q1, q2⟩, q⟩ | ⟨_, q1, ⟨d, q2, q3⟩, q⟩ | ⟨_, q1, q2, q⟩
      · exact absurd hz q0
      · rcases i1 with ⟨_, p2⟩ | ⟨p1, _⟩
        · exact absurd q2 (p2 d (by have := q1.2.1; omega) q1)
        · rw [if_neg (by omega)]
          exact ⟨so, rfl, by rw [q]; exact p1⟩
      · have so0 : so = 0 := by
          rcases i1 with ⟨p1, _⟩ | ⟨_, d', p1, p2⟩
          · exact p1
          · exact absurd p2 (q1 d' p1)
        rw [if_pos so0]
        have o1 := hO.1 d q2
        have o2 := q1 d q2
        rcases i2 with ⟨_, p2⟩ | ⟨p1, _⟩
        · exact absurd (show av n K N (TT n K N a j) s d = 0 by omega) (p2 d (by have := q2.2.1; omega) q2)
        · rw [if_neg (by omega)]
          exact ⟨0, rfl, q.symm⟩
      · have so0 : so = 0 := by
          rcases i1 with ⟨p1, _⟩ | ⟨_, d', p1, p2⟩
          · exact p1
          · exact absurd p2 (q1 d' p1)
        rw [if_pos so0]
        have op0 : op = 0 := by
          rcases i2 with ⟨p1, _⟩ | ⟨_, d', p1, p2⟩
          · exact p1
          · have := q2 d' p1; omega
        rw [if_pos op0]
        obtain ⟨d, e1, e2⟩ := hO.2 q2
        exact ⟨lt, rfl, by rw [q]; exact i5 d (by have := e1.2.1; omega) e1 e2⟩)
    (by rw [FU_v]; omega) (0, 0, 0, 1) ⟨0, 0, 0, rfl, Or.inl ⟨rfl, fun d a1 a2 => by have := a2.1; omega⟩, Or.inl ⟨rfl, fun d a1 a2 => by have := a2.1; omega⟩, by omega, by omega, fun d a1 a2 => by have := a2.1; omega⟩
  rw [h1, h2]
theorem set_65 (L : Nat) {m0 m : Sg} {n a s : Int} {K N : Int → Int} {j : Nat} (hA : ∃ d, alw a d) (h4 : 4 ≤ n) (h10 : n ≤ 10) (hj : j < 20) (hs : 0 ≤ s) (hs2 : s < n) (hB : JB m0 65 67 69 71 n K N a m) (hM : JM 67 n K N a m j s) (hz : TT n K N a j s = 0) : f93 (GC L) RC 65 s ((j : Int) + 1) m = some (TT n K N a (j + 1) s) := by
  have hO := TT_o (n := n) (K := K) (N := N) hA j s hz
  have hMF : ∀ i, 0 ≤ i → i < n → m 67 i = TT n K N a j i ∨ m 67 i = TT n K N a (j + 1) i := by
    intro i h1 h2
    rw [hM i h1 h2]
    split
    · exact Or.inr rfl
    · exact Or.inl rfl
  have hF : ∀ i, 0 ≤ i → i < 10 → -100 ≤ m 67 i ∧ m 67 i ≤ 100 := by
    intro i h1 h2
    by_cases c : i < n
    · have b1 := TT_b (n := n) (K := K) (N := N) (a := a) j i
      have b2 := TT_b (n := n) (K := K) (N := N) (a := a) (j + 1) i
      rcases hMF i h1 c with e | e <;> rw [e] <;> omega
    · rw [hB.2.2.2 i (by omega) h2]; omega
  have hv : ∀ d, alw a d → f94 (GC L) RC 65 s d ((j : Int) + 1) m = some (av n K N (TT n K N a j) s d) := by
    intro d hd
    obtain ⟨t1, t2⟩ := hB.2.2.1 s d hs hs2 hd.1 hd.2.1
    have hl := la_b (K := K) (N := N) (show 0 < n by omega) s d
    rw [f94_65 L hs (by omega) hd.1 hd.2.1 (by rw [t2]; omega) hF, vl_av j (t1.trans (oc_a hd)) t2 (hMF _ hl.1 hl.2)]
  have bb := fun d => av_b (n := n) (K := K) (N := N) (F := TT n K N a j) (s := s) (j := j) (fun s => TT_b j s) (by omega) d
  unfold f93
  obtain ⟨q, h1, h2⟩ := lp_all (f := f93_b8 (GC L) RC 65 s ((j : Int) + 1) m) (Q := fun q => q = TT n K N a (j + 1) s) (fun k st => ∃ so lt op : Int, st = (so, lt, op, (k : Int) + 1) ∧ ((so = 0 ∧ ∀ d : Int, d ≤ k → alw a d → ¬ av n K N (TT n K N a j) s d = (j : Int) + 1) ∨ (so = (j : Int) + 1 ∧ ∃ d, alw a d ∧ av n K N (TT n K N a j) s d = (j : Int) + 1)) ∧ ((op = 0 ∧ ∀ d : Int, d ≤ k → alw a d → ¬ av n K N (TT n K N a j) s d = 0) ∨ (op = 1 ∧ ∃ d, alw a d ∧ av n K N (TT n K N a j) s d = 0)) ∧ lt ≤ 0 ∧ -((j : Int) + 1) ≤ lt ∧ (∀ d : Int, d ≤ k → alw a d → av n K N (TT n K N a j) s d = -((j : Int) + 1) → lt = -((j : Int) + 1))) 5
    (by
      rintro k st hk ⟨so, lt, op, rfl, i1, i2, i3, i4, i5⟩
      obtain ⟨t1, t2⟩ := hB.2.2.1 s ((k : Int) + 1) hs hs2 (by omega) (by omega)
      unfold f93_b8
      simp only
      rw [if_neg (by omega), f91_s (by omega) (by omega) (by omega) (by omega), w32_i (x := (k : Int) + 1 + 1) (by omega) (by omega)]
      simp only [KG L, KR, RAx L, Option.bind_some, if_true]
      rw [ra_in (n := 50) (F := m 69) (by omega) (by omega), t1]
      by_cases c : alw a ((k : Int) + 1)
      · have b0 := bb ((k : Int) + 1)
        have o0 := hO.1 _ c
        have u0 := ou_b (n := n) (K := K) (N := N) s ((k : Int) + 1)
        rw [oc_a c, if_neg (by omega), hv _ c]
        simp only [Option.bind_some]
        generalize hav : av n K N (TT n K N a j) s ((k : Int) + 1) = v at b0 o0 ⊢
        by_cases v0 : v = 0
        · rw [if_pos v0]
          refine ⟨_, rfl, so, lt, 1, rfl, ?_, Or.inr ⟨rfl, _, c, hav.trans v0⟩, i3, i4, ?_⟩
          · rcases i1 with ⟨q1, q2⟩ | q
            · refine Or.inl ⟨q1, fun d a1 a2 => ?_⟩
              by_cases e : d = (k : Int) + 1
              · rw [e, hav]; omega
              · exact q2 d (by omega) a2
            · exact Or.inr q
          · intro d a1 a2 a3
            by_cases e : d = (k : Int) + 1
            · rw [e, hav] at a3; omega
            · exact i5 d (by omega) a2 a3
        · rw [if_neg v0]
          have i2' : (op = 0 ∧ ∀ d, d ≤ ((k + 1 : Nat) : Int) → alw a d → ¬ av n K N (TT n K N a j) s d = 0) ∨ (op = 1 ∧ ∃ d, alw a d ∧ av n K N (TT n K N a j) s d = 0) := by
            rcases i2 with ⟨q1, q2⟩ | q
            · refine Or.inl ⟨q1, fun d a1 a2 => ?_⟩
              by_cases e : d = (k : Int) + 1
              · rw [e, hav]; exact v0
              · exact q2 d (by omega) a2
            · exact Or.inr q
          by_cases vn : v < 0
          · rw [if_pos vn]
            have i1' : (so = 0 ∧ ∀ d, d ≤ ((k + 1 : Nat) : Int) → alw a d → ¬ av n K N (TT n K N a j) s d = (j : Int) + 1) ∨ (so = (j : Int) + 1 ∧ ∃ d, alw a d ∧ av n K N (TT n K N a j) s d = (j : Int) + 1) := by
              rcases i1 with ⟨q1, q2⟩ | q
              · refine Or.inl ⟨q1, fun d a1 a2 => ?_⟩
                by_cases e : d = (k : Int) + 1
                · rw [e, hav]; omega
                · exact q2 d (by omega) a2
              · exact Or.inr q
            have e227 : f227 (GC L) RC lt v m = some (if v < lt then v else lt) := by
              unfold f227; split <;> rfl
            rw [e227]
            simp only [Option.bind_some]
            refine ⟨_, rfl, so, (if v < lt then v else lt), op, rfl, i1', i2', ?_, ?_, ?_⟩
            · split <;> omega
            · split <;> omega
            · intro d a1 a2 a3
              by_cases e : d = (k : Int) + 1
              · rw [e, hav] at a3; split <;> omega
              · have := i5 d (by omega) a2 a3
                split <;> omega
          · rw [if_neg vn]
            have vk : v = (j : Int) + 1 := by omega
            have i5' : ∀ d, d ≤ ((k + 1 : Nat) : Int) → alw a d → av n K N (TT n K N a j) s d = -((j : Int) + 1) → lt = -((j : Int) + 1) := by
              intro d a1 a2 a3
              by_cases e : d = (k : Int) + 1
              · rw [e, hav] at a3; omega
              · exact i5 d (by omega) a2 a3
            by_cases s0 : so = 0
            · rw [if_pos s0]
              exact ⟨_, rfl, v, lt, op, rfl, Or.inr ⟨vk, _, c, hav.trans vk⟩, i2', i3, i4, i5'⟩
            · rw [if_neg s0]
              have se : so = (j : Int) + 1 := by
                rcases i1 with ⟨q1, q2⟩ | ⟨q1, q2⟩ <;> omega
              rw [if_neg (by omega)]
              exact ⟨_, rfl, so, lt, op, rfl, Or.inr ⟨se, _, c, hav.trans vk⟩, i2', i3, i4, i5'⟩
      · rw [oc_n c, if_pos rfl]
        have hn : ∀ d, d ≤ ((k + 1 : Nat) : Int) → alw a d → d ≤ (k : Int) := by
          intro d a1 a2
          by_cases e : d = (k : Int) + 1
          · rw [e] at a2; exact absurd a2 c
          · omega
        refine ⟨_, rfl, so, lt, op, rfl, ?_, ?_, i3, i4, fun d a1 a2 => i5 d (hn d a1 a2) a2⟩
        · rcases i1 with ⟨q1, q2⟩ | q
          · exact Or.inl ⟨q1, fun d a1 a2 => q2 d (hn d a1 a2) a2⟩
          · exact Or.inr q
        · rcases i2 with ⟨q1, q2⟩ | q
          · exact Or.inl ⟨q1, fun d a1 a2 => q2 d (hn d a1 a2) a2⟩
          · exact Or.inr q)
    (by
      rintro st ⟨so, lt, op, rfl, i1, i2, i3, i4, i5⟩
      unfold f93_b8
      simp only
      rw [if_pos (by omega), TT_s]
      rcases nx_cases (n := n) (a := a) (K := K) (N := N) (F := TT n K N a j) (s := s) (k := (j : Int) + 1) (by omega) with ⟨q0, _⟩ | ⟨_, ⟨d, q1, q2⟩, q⟩ | ⟨_, q1, ⟨d, q2, q3⟩, q⟩ | ⟨_, q1, q2, q⟩
      · exact absurd hz q0
      · rcases i1 with ⟨_, p2⟩ | ⟨p1, _⟩
        · exact absurd q2 (p2 d (by have := q1.2.1; omega) q1)
        · rw [if_neg (by omega)]
          exact ⟨so, rfl, by rw [q]; exact p1⟩
      · have so0 : so = 0 := by
          rcases i1 with ⟨p1, _⟩ | ⟨_, d', p1, p2⟩
          · exact p1
          · exact absurd p2 (q1 d' p1)
        rw [if_pos so0]
        have o1 := hO.1 d q2
        have o2 := q1 d q2
        rcases i2 with ⟨_, p2⟩ | ⟨p1, _⟩
        · exact absurd (show av n K N (TT n K N a j) s d = 0 by omega) (p2 d (by have := q2.2.1; omega) q2)
        · rw [if_neg (by omega)]
          exact ⟨0, rfl, q.symm⟩
      · have so0 : so = 0 := by
          rcases i1 with ⟨p1, _⟩ | ⟨_, d', p1, p2⟩
          · exact p1
          · exact absurd p2 (q1 d' p1)
        rw [if_pos so0]
        have op0 : op = 0 := by
          rcases i2 with ⟨p1, _⟩ | ⟨_, d', p1, p2⟩
          · exact p1
          · have := q2 d' p1; omega
        rw [if_pos op0]
        obtain ⟨d, e1, e2⟩ := hO.2 q2
        exact ⟨lt, rfl, by rw [q]; exact i5 d (by have := e1.2.1; omega) e1 e2⟩)
    (by rw [FU_v]; omega) (0, 0, 0, 1) ⟨0, 0, 0, rfl, Or.inl ⟨rfl, fun d a1 a2 => by have := a2.1; omega⟩, Or.inl ⟨rfl, fun d a1 a2 => by have := a2.1; omega⟩, by omega, by omega, fun d a1 a2 => by have := a2.1; omega⟩
  rw [h1, h2]
