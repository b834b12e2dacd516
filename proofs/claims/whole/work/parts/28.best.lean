/-! THE BEST STEP, AND HOW MANY -/
section BEST
variable {n a : Int} {K N : Int → Int}
theorem TT_fin (h0 : 0 < n) (hA : ∃ d, alw a d) : ∃ k : Nat, (k : Int) ≤ n ∧ ∀ (i : Nat) (s : Int), 0 ≤ s → s < n → TT n K N a (k + i) s = TT n K N a k s := by
  have key : ∀ j : Nat, (j : Int) ≤ n → (∃ k : Nat, (k : Int) ≤ n ∧ ∀ (i : Nat) (s : Int), 0 ≤ s → s < n → TT n K N a (k + i) s = TT n K N a k s) ∨ cz n (TT n K N a j) ≤ n - j := by
    intro j
    induction j with
    | zero => intro _; right; have := cz_b (n := n) (by omega) (TT n K N a 0); show _ ≤ n - 0; omega
    | succ j ih =>
      intro hj
      rcases ih (by omega) with q | q
      · exact Or.inl q
      · by_cases c : ∀ s, 0 ≤ s → s < n → TT n K N a (j + 1) s = TT n K N a j s
        · exact Or.inl ⟨j, by omega, fun i => TT_stop' h0 hA j c i⟩
        · right
          have : ∃ s, 0 ≤ s ∧ s < n ∧ ¬ TT n K N a (j + 1) s = TT n K N a j s := by
            apply Classical.byContradiction
            intro q2
            apply c
            intro s a1 a2
            apply Classical.byContradiction
            intro q3
            exact q2 ⟨s, a1, a2, q3⟩
          obtain ⟨s, e2, e3, e4⟩ := this
          have hc := TT_ch (n := n) (a := a) (K := K) (N := N) j s
          have := cz_lt (n := n) (F := TT n K N a j) (F' := TT n K N a (j + 1)) (fun i a1 a2 q => by
            have := TT_ch (n := n) (a := a) (K := K) (N := N) j i
            omega) ⟨s, e2, e3, by omega, by omega⟩
          omega
  rcases key n.toNat (by omega) with q | q
  · exact q
  · have z := cz_0 (n := n) (by omega) (show cz n (TT n K N a n.toNat) ≤ 0 by omega)
    exact ⟨n.toNat, by omega, fun i => TT_full n.toNat z i⟩
theorem TT_10 (h0 : 0 < n) (h10 : n ≤ 10) (hA : ∃ d, alw a d) : ∀ s, 0 ≤ s → s < n → TT n K N a 11 s = TT n K N a 10 s ∧ TT n K N a 10 s ≤ n ∧ -n ≤ TT n K N a 10 s := by
  obtain ⟨k, h1, h2⟩ := TT_fin (K := K) (N := N) h0 hA
  intro s a1 a2
  have e1 := h2 (10 - k) s a1 a2
  have e2 := h2 (11 - k) s a1 a2
  rw [show k + (10 - k) = 10 by omega] at e1
  rw [show k + (11 - k) = 11 by omega] at e2
  have := TT_b (n := n) (K := K) (N := N) (a := a) k s
  rw [e1, e2]
  exact ⟨rfl, by omega, by omega⟩
theorem TT_w (hA : ∃ d, alw a d) (k : Nat) : ∀ s, ¬ TT n K N a k s = 0 → ∃ d, alw a d ∧ av n K N (TT n K N a k) s d = TT n K N a k s := by
  induction k with
  | zero => intro s h; exact absurd rfl h
  | succ k ih =>
    intro s h
    rcases TT_ch (n := n) (a := a) (K := K) (N := N) k s with e | ⟨e0, e⟩
    · rw [e] at h ⊢
      obtain ⟨d, d1, d2⟩ := ih s h
      refine ⟨d, d1, ?_⟩
      rcases av_n (n := n) (a := a) (K := K) (N := N) k s d with q | ⟨q, _⟩
      · rw [q]; exact d2
      · omega
    · have key : ∃ d, alw a d ∧ av n K N (TT n K N a k) s d = TT n K N a (k + 1) s := by
        have o1 := TT_o (n := n) (K := K) (N := N) hA k s e0
        have ts := TT_s (n := n) (K := K) (N := N) (a := a) (s := s) k
        rcases nx_cases (n := n) (a := a) (K := K) (N := N) (F := TT n K N a k) (s := s) (k := (k : Int) + 1) (by omega) with ⟨q0, _⟩ | ⟨_, ⟨d, q1, q2⟩, q⟩ | ⟨_, _, _, q⟩ | ⟨_, _, q1, q⟩
        · exact absurd e0 q0
        · exact ⟨d, q1, by rw [q2, ts, q]⟩
        · rw [ts, q] at h; exact absurd rfl h
        · obtain ⟨d, d1, d2⟩ := o1.2 q1
          exact ⟨d, d1, by rw [d2, ts, q]⟩
      obtain ⟨d, d1, d2⟩ := key
      refine ⟨d, d1, ?_⟩
      rcases av_n (n := n) (a := a) (K := K) (N := N) k s d with q | ⟨q, _⟩
      · rw [q]; exact d2
      · omega
/-- the least step that keeps what the square is worth -/
def isB (n : Int) (K N : Int → Int) (a : Int) (s d : Int) : Prop := alw a d ∧ av n K N (TT n K N a 10) s d = TT n K N a 10 s ∧ ∀ d', d' < d → alw a d' → ¬ av n K N (TT n K N a 10) s d' = TT n K N a 10 s
theorem isB_u {s d d' : Int} (h : isB n K N a s d) (h' : isB n K N a s d') : d = d' := by
  by_cases c : d < d'
  · exact absurd h.2.1 (h'.2.2 d c h.1)
  · by_cases c2 : d' < d
    · exact absurd h'.2.1 (h.2.2 d' c2 h'.1)
    · omega
theorem bst_e (h0 : 0 < n) (h10 : n ≤ 10) (hA : ∃ d, alw a d) {s : Int} (hs : 0 ≤ s) (hs2 : s < n) : ∃ d, isB n K N a s d := by
  have ex : ∃ d, alw a d ∧ av n K N (TT n K N a 10) s d = TT n K N a 10 s := by
    by_cases z : TT n K N a 10 s = 0
    · have e := (TT_10 (K := K) (N := N) h0 h10 hA s hs hs2).1
      have o1 := TT_o (n := n) (K := K) (N := N) hA 10 s z
      have ts := TT_s (n := n) (K := K) (N := N) (a := a) (s := s) 10
      rcases nx_cases (n := n) (a := a) (K := K) (N := N) (F := TT n K N a 10) (s := s) (k := ((10 : Nat) : Int) + 1) (by omega) with ⟨q0, _⟩ | ⟨_, ⟨d, q1, q2⟩, q⟩ | ⟨_, q1, ⟨d, q2, q3⟩, q⟩ | ⟨_, _, q1, q⟩
      · exact absurd z q0
      · rw [e, z, q] at ts; omega
      · refine ⟨d, q2, ?_⟩
        have := o1.1 d q2
        have := q1 d q2
        rw [z]; omega
      · rw [e, z, q] at ts; omega
    · exact TT_w hA 10 s z
  have least : ∀ k : Nat, (∃ d, d ≤ (k : Int) ∧ alw a d ∧ av n K N (TT n K N a 10) s d = TT n K N a 10 s) → ∃ d, isB n K N a s d := by
    intro k
    induction k with
    | zero => rintro ⟨d, d1, d2, _⟩; have := d2.1; omega
    | succ k ih =>
      rintro ⟨d, d1, d2, d3⟩
      by_cases c : ∃ d, d ≤ (k : Int) ∧ alw a d ∧ av n K N (TT n K N a 10) s d = TT n K N a 10 s
      · exact ih c
      · refine ⟨d, d2, d3, fun d' e1 e2 e3 => c ⟨d', by omega, e2, e3⟩⟩
  obtain ⟨d, d1, d2⟩ := ex
  exact least 5 ⟨d, d1.2.1, d1, d2⟩
end BEST
theorem f88_s (L : Nat) {m0 m : Sg} {n a s d : Int} {K N : Int → Int} (hA : ∃ d, alw a d) (h4 : 4 ≤ n) (h10 : n ≤ 10) (hs : 0 ≤ s) (hs2 : s < n) (hB : JB m0 2 4 6 8 n K N a m) (hM : ∀ i, 0 ≤ i → i < n → m 4 i = TT n K N a 10 i) (hd : isB n K N a s d) : f88 (GC L) RC 2 s m = some d := by
  have hF : ∀ i, 0 ≤ i → i < 10 → -100 ≤ m 4 i ∧ m 4 i ≤ 100 := by
    intro i h1 h2
    by_cases c : i < n
    · have b1 := TT_b (n := n) (K := K) (N := N) (a := a) 10 i
      rw [hM i h1 c]; omega
    · rw [hB.2.2.2 i (by omega) h2]; omega
  have hv : ∀ d, alw a d → f94 (GC L) RC 2 s d (n + 1) m = some (av n K N (TT n K N a 10) s d) := by
    intro d hd
    obtain ⟨t1, t2⟩ := hB.2.2.1 s d hs hs2 hd.1 hd.2.1
    have hl := la_b (K := K) (N := N) (show 0 < n by omega) s d
    rw [f94_2 L hs (by omega) hd.1 hd.2.1 (by rw [t2]; omega) hF]
    have ht := TT_10 (K := K) (N := N) (show 0 < n by omega) h10 hA _ hl.1 hl.2
    have hou := ou_b (n := n) (K := K) (N := N) s d
    unfold vl av
    rw [t1, t2, oc_a hd, hM _ hl.1 hl.2]
    generalize TT n K N a 10 (la n K N s d) = f at ht ⊢
    generalize ou n K N s d = u at hou ⊢
    congr 1
    by_cases c2 : u = 2
    · rw [if_pos c2, if_pos c2]
    · rw [if_neg c2, if_neg c2]
      by_cases c3 : u = 3
      · rw [if_pos c3, if_pos c3]
      · rw [if_neg c3, if_neg c3]
        by_cases cf : f = 0
        · rw [if_pos cf, if_pos cf]
        · rw [if_neg cf, if_neg cf]
          by_cases cn : f < 0
          · simp only [if_pos cn, if_neg (show ¬ 0 < f by omega)]
            rw [if_pos (by omega)]
            by_cases c1 : u = 1
            · rw [if_pos c1, if_neg (by omega)]
            · rw [if_neg c1, if_pos (by omega)]; omega
          · simp only [if_neg cn, if_pos (show 0 < f by omega)]
            rw [if_pos (by omega)]
            by_cases c1 : u = 1
            · rw [if_pos c1, if_neg (by omega)]
            · rw [if_neg c1, if_pos (by omega)]; omega
  unfold f88
  have hd1 := hd.1.1
  have hd5 := hd.1.2.1
  obtain ⟨q, h1, h2⟩ := lp_ex (f := f88_b2 (GC L) RC 2 s m) (Q := fun q => q = d) (fun k st => st = (k : Int) + 1 ∧ (k : Int) + 1 ≤ d) 5
    (by
      rintro k st hk ⟨rfl, i1⟩
      obtain ⟨t1, t2⟩ := hB.2.2.1 s ((k : Int) + 1) hs hs2 (by omega) (by omega)
      unfold f88_b2
      rw [if_neg (by omega), f91_s (by omega) (by omega) (by omega) (by omega)]
      simp only [KG L, KR, RAx L, Option.bind_some, if_true]
      rw [ra_in (n := 50) (F := m 6) (by omega) (by omega), t1]
      by_cases c : alw a ((k : Int) + 1)
      · have u0 := ou_b (n := n) (K := K) (N := N) s ((k : Int) + 1)
        rw [oc_a c, if_neg (by omega)]
        unfold f88_16
        simp only [KG L, KR, RAx L, if_true]
        rw [if_neg (by decide), hB.2.1]
        unfold g_add
        rw [w32_i (x := n + 1) (by omega) (by omega), hv _ c]
        simp only [Option.bind_some]
        rw [ra_in hs (by omega), hM s hs hs2]
        by_cases e : av n K N (TT n K N a 10) s ((k : Int) + 1) = TT n K N a 10 s
        · right
          rw [if_pos e, xr_some]
          refine ⟨_, rfl, ?_⟩
          by_cases c2 : (k : Int) + 1 < d
          · exact absurd e (hd.2.2 _ c2 c)
          · omega
        · left
          rw [if_neg e, w32_i (by omega) (by omega)]
          refine ⟨_, rfl, by omega, ?_⟩
          by_cases c2 : (k : Int) + 1 = d
          · rw [c2] at e; exact absurd hd.2.1 e
          · omega
      · left
        rw [oc_n c, if_pos rfl]
        unfold f88_16
        rw [if_pos rfl, w32_i (by omega) (by omega)]
        refine ⟨_, rfl, by omega, ?_⟩
        by_cases c2 : (k : Int) + 1 = d
        · rw [c2] at c; exact absurd hd.1 c
        · omega)
    (by rintro st ⟨rfl, i1⟩; omega)
    FU (by rw [FU_v]; omega) 1 ⟨rfl, by show (0 : Int) + 1 ≤ d; omega⟩
  rw [h1, h2]
theorem f155_s (L : Nat) {m : Sg} {n t s d : Int} (hn : m 120 1 = n) (h4 : 4 ≤ n) (h10 : n ≤ 10) (ht : 0 ≤ t ∧ t < 14) (hs : 0 ≤ s) (hs2 : s < n) (hN : ∀ i, 0 ≤ i → i < n → 0 ≤ NM m t i ∧ NM m t i < 1000) (hF : ∀ i, 0 ≤ i → i < n → m 124 i = TT n (KM m t) (NM m t) (m 123 t) 10 i) (hd : isB n (KM m t) (NM m t) (m 123 t) s d) : ∃ m', f155 (GC L) RC 120 t s m = some (d, m') ∧ F5 m m' := by
  generalize hK : KM m t = K at *
  generalize hNN : NM m t = N at *
  generalize ha : m 123 t = a at *
  have hFb : ∀ i, 0 ≤ i → i < n → -100 ≤ m 124 i ∧ m 124 i ≤ 100 := by
    intro i h1 h2
    have := TT_b (n := n) (K := K) (N := N) (a := a) 10 i
    rw [hF i h1 h2]; omega
  have hav : ∀ d, av n K N (m 124) s d = av n K N (TT n K N a 10) s d := by
    intro d
    have hl := la_b (K := K) (N := N) (show 0 < n by omega) s d
    unfold av
    rw [hF _ hl.1 hl.2]
  have hd1 := hd.1.1
  have hd5 := hd.1.2.1
  unfold f155
  obtain ⟨q, h1, h2, h3⟩ := lp_ex (f := f155_b4 (GC L) RC 120 t s) (Q := fun q => q.1 = d ∧ F5 m q.2) (fun k st => ∃ b m', st = (b, (k : Int) + 1, m') ∧ F5 m m' ∧ ((b = -1 ∧ (k : Int) + 1 ≤ d) ∨ (b = d ∧ 1 ≤ d))) 5
    (by
      rintro k st hk ⟨b, m', rfl, i0, i1⟩
      have a' : m' 123 t = a := by rw [i0 123 t (fun q => absurd q.1 (by decide))]; exact ha
      have n' : m' 120 1 = n := by rw [i0 120 1 (fun q => absurd q.2 (by decide))]; exact hn
      have t' : m' 124 = m 124 := F5_f i0 (by decide)
      unfold f155_b4
      simp only [KG L, KR, KL L, if_true]
      rw [if_neg (show ¬ 5 < (k : Int) + 1 by omega)]
      rcases i1 with ⟨b1, b2⟩ | ⟨b1, b2⟩
      · rw [if_pos b1, w32_i (x := (k : Int) + 1 + 1) (by omega) (by omega)]
        left
        by_cases c : alw a ((k : Int) + 1)
        · rw [(f150_s L ht).1 (by rw [a']; exact c)]
          simp only [Option.bind_some]
          rw [if_neg (by decide), f152_s L n' (by omega) h10 ht ⟨hs, by omega⟩ (by omega) (by rw [F5_N i0 t, hNN]; exact hN) (by rw [t']; exact hFb)]
          simp only [Option.bind_some, put_ne (show ¬ 124 = 120 by decide)]
          rw [F5_K i0 t, F5_N i0 t, hK, hNN, t', hav, if_pos (by omega), hF s hs hs2]
          by_cases e : av n K N (TT n K N a 10) s ((k : Int) + 1) = TT n K N a 10 s
          · rw [if_pos e]
            refine ⟨_, rfl, _, _, rfl, F5_p i0, Or.inr ⟨?_, by omega⟩⟩
            by_cases c2 : (k : Int) + 1 < d
            · exact absurd e (hd.2.2 _ c2 c)
            · omega
          · rw [if_neg e]
            refine ⟨_, rfl, _, _, rfl, F5_p i0, Or.inl ⟨b1, ?_⟩⟩
            by_cases c2 : (k : Int) + 1 = d
            · rw [c2] at e; exact absurd hd.2.1 e
            · omega
        · rw [(f150_s L ht).2 (by rw [a']; exact c)]
          simp only [Option.bind_some, if_true]
          refine ⟨_, rfl, _, _, rfl, i0, Or.inl ⟨b1, ?_⟩⟩
          by_cases c2 : (k : Int) + 1 = d
          · rw [c2] at c; exact absurd hd.1 c
          · omega
      · right
        rw [if_neg (by omega), xr_some]
        exact ⟨_, rfl, b1, i0⟩)
    (by
      rintro st ⟨b, m', rfl, i0, i1⟩
      unfold f155_b4
      simp only
      rw [if_pos (by omega), xr_some]
      rcases i1 with ⟨b1, b2⟩ | ⟨b1, b2⟩
      · omega
      · exact ⟨_, rfl, b1, i0⟩)
    FU (by rw [FU_v]; omega) (-1, 1, m) ⟨-1, m, rfl, fun _ _ _ => rfl, Or.inl ⟨rfl, by show (0 : Int) + 1 ≤ d; omega⟩⟩
  exact ⟨q.2, by rw [h1, ← h2], h3⟩
