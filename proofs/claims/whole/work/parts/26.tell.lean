/-! WHAT IS WON, AS THE MODEL TELLS IT -/
theorem put_2 (m : Sg) (a : Nat) (i v w : Int) : put (put m a i v) a i w = put m a i w := funext fun x => funext fun j => by
  unfold put
  split
  · rfl
  · rfl
def KM (m : Sg) (t : Int) : Int → Int := fun i => m 121 (10 * t + i)
def NM (m : Sg) (t : Int) : Int → Int := fun i => m 122 (10 * t + i)
theorem back_s {c x n : Int} (hn : 0 < n) : (c - x % n + n) % n = (c - x) % n := by
  rw [Int.add_emod_right, Int.sub_emod, Int.emod_emod, ← Int.sub_emod]
theorem f151_s (L : Nat) {m : Sg} {n t s d : Int} (hn : m 120 1 = n) (h1 : 0 < n) (h2 : n ≤ 10) (ht : 0 ≤ t ∧ t < 14) (hs : 0 ≤ s ∧ s < 1000) (hd : 0 ≤ d ∧ d < 10) (hN : ∀ i, 0 ≤ i → i < n → 0 ≤ NM m t i ∧ NM m t i < 1000) : f151 (GC L) RC 120 t s d m = some (ou n (KM m t) (NM m t) s d, put m 120 5 (la n (KM m t) (NM m t) s d)) := by
  have b1 := emod_b (x := s + d) h1
  have b2 := hN _ b1.1 b1.2
  have b3 := emod_b (x := NM m t ((s + d) % n)) h1
  have e1 : g_rem (g_add s d) n = (s + d) % n := by unfold g_add; rw [w32_i (by omega) (by omega), g_rem_p (by omega)]
  have e2 : g_add (g_mul 10 t) ((s + d) % n) = 10 * t + (s + d) % n := by unfold g_add g_mul; rw [w32_i (x := 10 * t) (by omega) (by omega), w32_i (by omega) (by omega)]
  have eK : m 121 (10 * t + (s + d) % n) = KM m t ((s + d) % n) := rfl
  have eN : m 122 (10 * t + (s + d) % n) = NM m t ((s + d) % n) := rfl
  unfold f151
  rw [hn]
  simp only [KG L, KR, KL L, e1, e2, put_eq, if_true, put_nj (show ¬ (1 : Int) = 5 by decide), hn, eK, eN]
  rw [if_pos (by omega), if_pos (by omega), if_pos (by omega)]
  unfold ou la
  split
  · rename_i c; rw [if_neg (by omega)]
  · split
    · rename_i c; rw [if_neg (by omega)]
    · split
      · rename_i c; rw [if_neg (by omega)]
      · split
        · rename_i c
          rw [if_pos (by omega), g_rem_p b2.1]
          have e3 : g_sub ((s + d) % n) (NM m t ((s + d) % n) % n) = (s + d) % n - NM m t ((s + d) % n) % n := by unfold g_sub; rw [w32_i (by omega) (by omega)]
          have e4 : g_add ((s + d) % n - NM m t ((s + d) % n) % n) n = (s + d) % n - NM m t ((s + d) % n) % n + n := by unfold g_add; rw [w32_i (by omega) (by omega)]
          rw [e3, e4, g_rem_p (by omega), back_s h1]
          unfold f151_49
          simp only [KG L, if_true]
          rw [put_2]
        · split
          · split <;> rfl
          · rfl
theorem f150_s (L : Nat) {m : Sg} {t d : Int} (ht : 0 ≤ t ∧ t < 14) : (alw (m 123 t) d → f150 (GC L) RC 120 t d m = some 1) ∧ (¬ alw (m 123 t) d → f150 (GC L) RC 120 t d m = some 0) := by
  unfold f150 f143 alw
  by_cases c1 : d < 1
  · simp only [if_pos c1, Option.bind_some, if_true]
    exact ⟨fun q => by omega, fun _ => trivial⟩
  · by_cases c2 : 5 < d
    · simp only [if_neg c1, if_pos c2, Option.bind_some, if_true]
      exact ⟨fun q => by omega, fun _ => trivial⟩
    · simp only [if_neg c1, if_neg c2, Option.bind_some, KG L, KR, KL L, if_true]
      rw [if_neg (by decide), if_pos (by omega)]
      constructor
      · intro h; rw [if_pos h.2.2]
      · intro h; rw [if_neg (fun q => h ⟨by omega, by omega, q⟩)]
theorem f152_s (L : Nat) {m : Sg} {n t s d : Int} (hn : m 120 1 = n) (h1 : 0 < n) (h2 : n ≤ 10) (ht : 0 ≤ t ∧ t < 14) (hs : 0 ≤ s ∧ s < 1000) (hd : 0 ≤ d ∧ d < 10) (hN : ∀ i, 0 ≤ i → i < n → 0 ≤ NM m t i ∧ NM m t i < 1000) (hF : ∀ i, 0 ≤ i → i < n → -100 ≤ m 124 i ∧ m 124 i ≤ 100) : f152 (GC L) RC 120 t s d m = some (av n (KM m t) (NM m t) (m 124) s d, put m 120 5 (la n (KM m t) (NM m t) s d)) := by
  have hl := la_b (K := KM m t) (N := NM m t) h1 s d
  have hf := hF _ hl.1 hl.2
  unfold f152
  rw [f151_s L hn h1 h2 ht hs hd hN]
  simp only [KG L, KR, KL L, Option.bind_some, put_eq, if_true, put_ne (show ¬ 124 = 120 by decide)]
  rw [if_pos (show 0 ≤ la n (KM m t) (NM m t) s d ∧ la n (KM m t) (NM m t) s d < 10 by omega)]
  unfold av f152_31 g_neg g_add g_sub
  generalize ou n (KM m t) (NM m t) s d = u
  generalize hlg : la n (KM m t) (NM m t) s d = l at hf ⊢
  generalize m 124 l = f at hf ⊢
  split
  · rfl
  · split
    · rfl
    · split
      · rfl
      · split
        · rw [w32_i (x := -f) (by omega) (by omega), w32_i (x := -f + 1) (by omega) (by omega), w32_i (x := -f - 1) (by omega) (by omega)]
          by_cases c : f < 0
          · rw [if_pos c, if_pos (by omega)]
          · rw [if_neg c, if_neg (by omega)]
        · rw [w32_i (x := f + 1) (by omega) (by omega), w32_i (x := f - 1) (by omega) (by omega)]
          split <;> rfl
/-- nothing but the stone's place -/
def F5 (m0 m : Sg) : Prop := ∀ x i, ¬ (x = 120 ∧ i = 5) → m x i = m0 x i
theorem F5_p {m0 m : Sg} {v : Int} (h : F5 m0 m) : F5 m0 (put m 120 5 v) := fun x i c => by
  unfold put
  rw [if_neg c]
  exact h x i c
theorem F5_f {m0 m : Sg} {x : Nat} (h : F5 m0 m) (hx : ¬ x = 120) : m x = m0 x := funext fun i => h x i (fun q => hx q.1)
theorem F5_K {m0 m : Sg} (h : F5 m0 m) (t : Int) : KM m t = KM m0 t := funext fun i => h 121 _ (fun q => absurd q.1 (by decide))
theorem F5_N {m0 m : Sg} (h : F5 m0 m) (t : Int) : NM m t = NM m0 t := funext fun i => h 122 _ (fun q => absurd q.1 (by decide))
/-- the worth of one square in a round -/
theorem sq_s (L : Nat) {m0 : Sg} {n t s mo : Int} {j : Nat} (hn : m0 120 1 = n) (h4 : 4 ≤ n) (h10 : n ≤ 10) (ht : 0 ≤ t ∧ t < 14) (hj : j < 20) (hN : ∀ i, 0 ≤ i → i < n → 0 ≤ NM m0 t i ∧ NM m0 t i < 1000) (hs : 0 ≤ s) (hs2 : s < n) (hF : ∀ i, 0 ≤ i → i < n → m0 124 i = TT n (KM m0 t) (NM m0 t) (m0 123 t) j i) (hz : TT n (KM m0 t) (NM m0 t) (m0 123 t) j s = 0) : ∃ m', F5 m0 m' ∧ lp (f153_b55 (GC L) RC 120 t mo ((j : Int) + 1) s) FU (0, 1, 1, m0) = f153_102 (GC L) RC 120 t mo ((j : Int) + 1) s (TT n (KM m0 t) (NM m0 t) (m0 123 t) (j + 1) s) s 125 m' := by
  generalize hK : KM m0 t = K at *
  generalize hNN : NM m0 t = N at *
  generalize ha : m0 123 t = a at *
  have hFb : ∀ i, 0 ≤ i → i < n → -100 ≤ m0 124 i ∧ m0 124 i ≤ 100 := by
    intro i h1 h2
    have := TT_b (n := n) (K := K) (N := N) (a := a) j i
    rw [hF i h1 h2]; omega
  have hav : ∀ d, av n K N (m0 124) s d = av n K N (TT n K N a j) s d := by
    intro d
    have hl := la_b (K := K) (N := N) (show 0 < n by omega) s d
    unfold av
    rw [hF _ hl.1 hl.2]
  have e125 : ∃ w, f153_102 (GC L) RC 120 t mo ((j : Int) + 1) s w s 125 = f153_102 (GC L) RC 120 t mo ((j : Int) + 1) s w s 125 := ⟨0, rfl⟩
  obtain ⟨q, h1, m', h2, h3⟩ := lp_all (f := f153_b55 (GC L) RC 120 t mo ((j : Int) + 1) s) (Q := fun q => ∃ m', F5 m0 m' ∧ some q = f153_102 (GC L) RC 120 t mo ((j : Int) + 1) s (TT n K N a (j + 1) s) s 125 m') (fun k st => ∃ wi lo m', st = (wi, lo, (k : Int) + 1, m') ∧ F5 m0 m' ∧ ((wi = 0 ∧ ∀ d : Int, d ≤ k → alw a d → ¬ av n K N (TT n K N a j) s d = (j : Int) + 1) ∨ (wi = 1 ∧ ∃ d, alw a d ∧ av n K N (TT n K N a j) s d = (j : Int) + 1)) ∧ ((lo = 1 ∧ ∀ d : Int, d ≤ k → alw a d → av n K N (TT n K N a j) s d < 0) ∨ (lo = 0 ∧ ∃ d, alw a d ∧ 0 ≤ av n K N (TT n K N a j) s d))) 5
    (by
      rintro k st hk ⟨wi, lo, m', rfl, i0, i1, i2⟩
      have a' : m' 123 t = a := by rw [i0 123 t (fun q => absurd q.1 (by decide))]; exact ha
      have n' : m' 120 1 = n := by rw [i0 120 1 (fun q => absurd q.2 (by decide))]; exact hn
      have t' : m' 124 = m0 124 := F5_f i0 (by decide)
      unfold f153_b55
      simp only [KG L, if_true]
      rw [if_neg (show ¬ 5 < (k : Int) + 1 by omega), w32_i (x := (k : Int) + 1 + 1) (by omega) (by omega)]
      by_cases c : alw a ((k : Int) + 1)
      · rw [(f150_s L ht).1 (by rw [a']; exact c)]
        simp only [Option.bind_some]
        rw [if_neg (by decide), f152_s L n' (by omega) h10 ht ⟨hs, by omega⟩ (by omega) (by rw [F5_N i0 t, hNN]; exact hN) (by rw [t']; exact hFb)]
        simp only [Option.bind_some]
        rw [F5_K i0 t, F5_N i0 t, hK, hNN, t', hav]
        generalize hv : av n K N (TT n K N a j) s ((k : Int) + 1) = v
        have i2' : ∀ w, ∃ lo', f153_78 (GC L) RC 120 t mo ((j : Int) + 1) s lo ((k : Int) + 1) v w (put m' 120 5 (la n K N s ((k : Int) + 1))) = some (Sum.inl (w, lo', ((k + 1 : Nat) : Int) + 1, put m' 120 5 (la n K N s ((k : Int) + 1)))) ∧ ((lo' = 1 ∧ ∀ d : Int, d ≤ ((k + 1 : Nat) : Int) → alw a d → av n K N (TT n K N a j) s d < 0) ∨ (lo' = 0 ∧ ∃ d, alw a d ∧ 0 ≤ av n K N (TT n K N a j) s d)) := by
          intro w
          unfold f153_78
          rw [w32_i (x := (k : Int) + 1 + 1) (by omega) (by omega)]
          rcases i2 with ⟨q1, q2⟩ | ⟨q1, q2⟩
          · rw [if_neg (by omega)]
            by_cases vn : v < 0
            · rw [if_pos vn]
              refine ⟨1, rfl, Or.inl ⟨rfl, fun d a1 a2 => ?_⟩⟩
              by_cases e : d = (k : Int) + 1
              · rw [e, hv]; exact vn
              · exact q2 d (by omega) a2
            · rw [if_neg vn]
              exact ⟨0, rfl, Or.inr ⟨rfl, _, c, by rw [hv]; omega⟩⟩
          · rw [if_pos q1]
            exact ⟨0, rfl, Or.inr ⟨rfl, q2⟩⟩
        rcases i1 with ⟨q1, q2⟩ | ⟨q1, q2⟩
        · rw [if_pos q1]
          by_cases vk : v = (j : Int) + 1
          · rw [if_pos vk]
            obtain ⟨lo', r1, r2⟩ := i2' 1
            exact ⟨_, r1, 1, lo', _, rfl, F5_p i0, Or.inr ⟨rfl, _, c, hv.trans vk⟩, r2⟩
          · rw [if_neg vk]
            obtain ⟨lo', r1, r2⟩ := i2' 0
            refine ⟨_, r1, 0, lo', _, rfl, F5_p i0, Or.inl ⟨rfl, fun d a1 a2 => ?_⟩, r2⟩
            by_cases e : d = (k : Int) + 1
            · rw [e, hv]; exact vk
            · exact q2 d (by omega) a2
        · rw [if_neg (by omega)]
          obtain ⟨lo', r1, r2⟩ := i2' 1
          exact ⟨_, r1, 1, lo', _, rfl, F5_p i0, Or.inr ⟨rfl, q2⟩, r2⟩
      · rw [(f150_s L ht).2 (by rw [a']; exact c)]
        simp only [Option.bind_some, if_true]
        have hnn : ∀ d, d ≤ ((k + 1 : Nat) : Int) → alw a d → d ≤ (k : Int) := by
          intro d a1 a2
          by_cases e : d = (k : Int) + 1
          · rw [e] at a2; exact absurd a2 c
          · omega
        refine ⟨_, rfl, wi, lo, m', rfl, i0, ?_, ?_⟩
        · rcases i1 with ⟨q1, q2⟩ | q
          · exact Or.inl ⟨q1, fun d a1 a2 => q2 d (hnn d a1 a2) a2⟩
          · exact Or.inr q
        · rcases i2 with ⟨q1, q2⟩ | q
          · exact Or.inl ⟨q1, fun d a1 a2 => q2 d (hnn d a1 a2) a2⟩
          · exact Or.inr q)
    (by
      rintro st ⟨wi, lo, m', rfl, i0, i1, i2⟩
      have key : ∃ w, f153_b55 (GC L) RC 120 t mo ((j : Int) + 1) s (wi, lo, ((5 : Nat) : Int) + 1, m') = xr (f153_102 (GC L) RC 120 t mo ((j : Int) + 1) s w s 125 m') ∧ w = TT n K N a (j + 1) s := by
        unfold f153_b55
        simp only [KG L, KR, if_true]
        rw [if_pos (by decide), TT_s]
        rcases nx_cases (n := n) (a := a) (K := K) (N := N) (F := TT n K N a j) (s := s) (k := (j : Int) + 1) (by omega) with ⟨q0, _⟩ | ⟨_, ⟨d, q1, q2⟩, q⟩ | ⟨_, q1, ⟨d, q2, q3⟩, q⟩ | ⟨_, q1, q2, q⟩
        · exact absurd hz q0
        · rcases i1 with ⟨_, p2⟩ | ⟨p1, _⟩
          · exact absurd q2 (p2 d (by have := q1.2.1; omega) q1)
          · rw [if_neg (by omega)]
            exact ⟨_, rfl, q.symm⟩
        · have w0 : wi = 0 := by
            rcases i1 with ⟨p1, _⟩ | ⟨_, d', p1, p2⟩
            · exact p1
            · exact absurd p2 (q1 d' p1)
          rw [if_pos w0]
          rcases i2 with ⟨_, p2⟩ | ⟨p1, _⟩
          · have := p2 d (by have := q2.2.1; omega) q2
            omega
          · rw [if_pos p1]
            exact ⟨_, rfl, q.symm⟩
        · have w0 : wi = 0 := by
            rcases i1 with ⟨p1, _⟩ | ⟨_, d', p1, p2⟩
            · exact p1
            · exact absurd p2 (q1 d' p1)
          rw [if_pos w0]
          rcases i2 with ⟨p1, _⟩ | ⟨_, d', p1, p2⟩
          · rw [if_neg (by omega)]
            refine ⟨_, rfl, ?_⟩
            rw [q]
            unfold g_neg
            rw [w32_i (by omega) (by omega)]
          · have := q2 d' p1
            omega
      obtain ⟨w, k1, k2⟩ := key
      subst k2
      have k3 : ∃ r, f153_102 (GC L) RC 120 t mo ((j : Int) + 1) s (TT n K N a (j + 1) s) s 125 m' = some r := by
        unfold f153_102
        simp only [KG L, KR, KL L, if_true]
        rw [if_pos (by omega)]
        split
        · rw [if_pos (by omega)]
          split <;> exact ⟨_, rfl⟩
        · exact ⟨_, rfl⟩
      obtain ⟨r, k4⟩ := k3
      rw [k4] at k1
      exact ⟨r, k1, m', i0, k4.symm⟩)
    (by rw [FU_v]; omega) (0, 1, 1, m0) ⟨0, 1, m0, rfl, fun _ _ _ => rfl, Or.inl ⟨rfl, fun d a1 a2 => by have := a2.1; omega⟩, Or.inl ⟨rfl, fun d a1 a2 => by have := a2.1; omega⟩⟩
  exact ⟨m', h2, h1.trans h3⟩
