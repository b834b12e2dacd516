/-! CHANGES BETWEEN TWO TELLINGS -/
def gB (g i : Int) : Bool := decide (g_and (g_shr g i) 1 = 1)
theorem gB_t {g i : Int} : gB g i = true ↔ gp g i := decide_eq_true_iff
def dB (g g' : Int) (K N K' N' : Int → Int) (i : Int) : Bool := !(gB g i) && (!(gB g' i) && !(decide (K i = K' i) && decide (N i = N' i)))
theorem dB_g {g g' : Int} {K N K' N' : Int → Int} {i : Int} (h : gp g i) : dB g g' K N K' N' i = false := by
  unfold dB
  rw [gB_t.mpr h]; rfl
theorem dB_h {g g' : Int} {K N K' N' : Int → Int} {i : Int} (h : gp g' i) : dB g g' K N K' N' i = false := by
  unfold dB
  rw [gB_t.mpr h]; cases gB g i <;> rfl
theorem dB_n {g g' : Int} {K N K' N' : Int → Int} {i : Int} (h : ¬ gp g i) (h' : ¬ gp g' i) : dB g g' K N K' N' i = !(decide (K i = K' i) && decide (N i = N' i)) := by
  unfold dB
  rw [Bool.eq_false_iff.mpr (fun q => h (gB_t.mp q)), Bool.eq_false_iff.mpr (fun q => h' (gB_t.mp q))]
  rfl
theorem dB_s {g g' : Int} {K N K' N' : Int → Int} {i : Int} : dB g g' K N K' N' i = dB g' g K' N' K N i := by
  unfold dB
  rw [show decide (K i = K' i) = decide (K' i = K i) from decide_eq_decide.mpr ⟨Eq.symm, Eq.symm⟩, show decide (N i = N' i) = decide (N' i = N i) from decide_eq_decide.mpr ⟨Eq.symm, Eq.symm⟩]
  cases gB g i <;> cases gB g' i <;> rfl
/-- how many changes lie between: steps, then squares -/
def chg (n : Int) (a g : Int) (K N : Int → Int) (a' g' : Int) (K' N' : Int → Int) : Int := bcv (g_xor a a') + cnt (dB g g' K N K' N') n.toNat
theorem chg_s {n a g a' g' : Int} {K N K' N' : Int → Int} (h1 : 0 ≤ a ∧ a < 32) (h2 : 0 ≤ a' ∧ a' < 32) : chg n a g K N a' g' K' N' = chg n a' g' K' N' a g K N := by
  unfold chg
  rw [(xor_s h1 h2).2.2, cnt_c n.toNat (fun i _ _ => dB_s)]
theorem chg_c {n a g a' g' : Int} {K N K' N' L M L' M' : Int → Int} (h : ∀ i, 0 ≤ i → i < n → K i = L i ∧ N i = M i ∧ K' i = L' i ∧ N' i = M' i) : chg n a g K N a' g' K' N' = chg n a g L M a' g' L' M' := by
  unfold chg
  rw [cnt_c n.toNat (fun i h1 h2 => by
    obtain ⟨q1, q2, q3, q4⟩ := h i h1 (by omega)
    show dB g g' K N K' N' i = dB g g' L M L' M' i
    unfold dB
    rw [q1, q2, q3, q4])]
theorem chg_b {n a g a' g' : Int} {K N K' N' : Int → Int} (h0 : 0 ≤ n) (h1 : 0 ≤ a ∧ a < 32) (h2 : 0 ≤ a' ∧ a' < 32) : 0 ≤ chg n a g K N a' g' K' N' ∧ chg n a g K N a' g' K' N' ≤ 10 + n := by
  have x := xor_s h1 h2
  have b := bcv_s x.1 (show g_xor a a' < 1024 by omega)
  have c := cnt_b (dB g g' K N K' N') n.toNat
  unfold chg
  omega
/-- the class's rows of a telling -/
def KX (m : Sg) (t : Int) : Int → Int := fun i => m 84 (10 * t + i)
def NX (m : Sg) (t : Int) : Int → Int := fun i => m 86 (10 * t + i)
theorem f73_s (L : Nat) {m : Sg} {n t u : Int} (hn : m 82 0 = n) (h4 : 4 ≤ n) (h10 : n ≤ 10) (ht : 0 ≤ t ∧ t < 12) (hu : 0 ≤ u ∧ u < 12) (h1 : 0 ≤ m 88 t ∧ m 88 t < 32) (h2 : 0 ≤ m 88 u ∧ m 88 u < 32) : f73 (GC L) RC 82 t u m = some (chg n (m 88 t) (m 90 t) (KX m t) (NX m t) (m 88 u) (m 90 u) (KX m u) (NX m u)) := by
  have x := xor_s h1 h2
  have b := bcv_s x.1 (show g_xor (m 88 t) (m 88 u) < 1024 by omega)
  unfold f73
  simp only [KG L, KR, RAx L, Option.bind_some, if_true]
  rw [ra_in ht.1 ht.2, ra_in hu.1 hu.2, f222_s x.1 (by omega)]
  simp only [Option.bind_some]
  have e0 : (bcv (g_xor (m 88 t) (m 88 u)), (0 : Int)) = (fun k : Nat => (bcv (g_xor (m 88 t) (m 88 u)) + cnt (dB (m 90 t) (m 90 u) (KX m t) (NX m t) (KX m u) (NX m u)) k, (k : Int))) 0 := Prod.ext (Int.add_zero _).symm rfl
  rw [e0]
  unfold chg
  refine lp_eq (fun k : Nat => (bcv (g_xor (m 88 t) (m 88 u)) + cnt (dB (m 90 t) (m 90 u) (KX m t) (NX m t) (KX m u) (NX m u)) k, (k : Int))) n.toNat (fun k hk => ?_) ?_ (by rw [FU_v]; omega)
  · have c := cnt_b (dB (m 90 t) (m 90 u) (KX m t) (NX m t) (KX m u) (NX m u)) k
    have f57 : ∀ w : Int, f73_57 (GC L) RC 82 t u (bcv (g_xor (m 88 t) (m 88 u)) + cnt (dB (m 90 t) (m 90 u) (KX m t) (NX m t) (KX m u) (NX m u)) k) (k : Int) w m = some (Sum.inl (bcv (g_xor (m 88 t) (m 88 u)) + (cnt (dB (m 90 t) (m 90 u) (KX m t) (NX m t) (KX m u) (NX m u)) k + (if w = 0 then 1 else 0)), ((k + 1 : Nat) : Int))) := by
      intro w
      unfold f73_57
      rw [w32_i (x := (k : Int) + 1) (by omega) (by omega), w32_i (by omega) (by omega)]
      by_cases c : w = 0
      · rw [if_pos c, if_pos c, Int.add_assoc]; rfl
      · rw [if_neg c, if_neg c, Int.add_zero]; rfl
    unfold f73_b13
    simp only [KG L, KR, RAx L, if_true]
    rw [hn, if_pos (by omega), cnt_s, w32_i (x := (k : Int) + 1) (by omega) (by omega)]
    by_cases c1 : gp (m 90 t) k
    · rw [(f67_s L hn ht (by omega) (by omega)).1 c1]
      simp only [Option.bind_some]
      rw [if_neg (by decide), dB_g c1, if_neg (by decide), Int.add_zero]
      rfl
    · rw [(f67_s L hn ht (by omega) (by omega)).2 c1]
      simp only [Option.bind_some, if_true]
      by_cases c2 : gp (m 90 u) k
      · rw [(f67_s L hn hu (by omega) (by omega)).1 c2]
        simp only [Option.bind_some]
        rw [if_neg (by decide), dB_h c2, if_neg (by decide), Int.add_zero]
        rfl
      · rw [(f67_s L hn hu (by omega) (by omega)).2 c2]
        simp only [Option.bind_some, if_true]
        rw [f79_s (t := t) (by omega) (by omega), f79_s (t := u) (by omega) (by omega)]
        simp only [Option.bind_some]
        rw [ra_in (n := 120) (F := m 84) (p := 10 * t + k) (by omega) (by omega), ra_in (n := 120) (F := m 84) (p := 10 * u + k) (by omega) (by omega), ra_in (n := 120) (F := m 86) (p := 10 * t + k) (by omega) (by omega), ra_in (n := 120) (F := m 86) (p := 10 * u + k) (by omega) (by omega), dB_n c1 c2]
        simp only [f57]
        unfold KX NX
        by_cases e1 : m 84 (10 * t + k) = m 84 (10 * u + k)
        · rw [if_pos e1]
          by_cases e2 : m 86 (10 * t + k) = m 86 (10 * u + k)
          · rw [if_pos e2, decide_eq_true e1, decide_eq_true e2]; rfl
          · rw [if_neg e2, decide_eq_true e1, decide_eq_false e2]; rfl
        · rw [if_neg e1, decide_eq_false e1]; rfl
  · unfold f73_b13
    simp only [KG L, if_true]
    rw [hn, if_neg (by omega), xr_some]
theorem f176_s (L : Nat) {m : Sg} {n t u : Int} (hn : m 120 1 = n) (h4 : 4 ≤ n) (h10 : n ≤ 10) (ht : 0 ≤ t ∧ t < 12) (hu : 0 ≤ u ∧ u < 12) (h1 : 0 ≤ m 123 t ∧ m 123 t < 32) (h2 : 0 ≤ m 123 u ∧ m 123 u < 32) : f176 (GC L) RC 120 t u m = some (chg n (m 123 t) (m 130 t) (KM m t) (NM m t) (m 123 u) (m 130 u) (KM m u) (NM m u)) := by
  have x := xor_s h1 h2
  have b := bcv_s x.1 (show g_xor (m 123 t) (m 123 u) < 1024 by omega)
  unfold f176
  simp only [KG L, KR, KL L, if_true]
  rw [if_pos (by omega), if_pos (by omega), f169_s x.1 (by omega)]
  simp only [Option.bind_some]
  have e0 : (bcv (g_xor (m 123 t) (m 123 u)), (0 : Int)) = (fun k : Nat => (bcv (g_xor (m 123 t) (m 123 u)) + cnt (dB (m 130 t) (m 130 u) (KM m t) (NM m t) (KM m u) (NM m u)) k, (k : Int))) 0 := Prod.ext (Int.add_zero _).symm rfl
  rw [e0]
  unfold chg
  refine lp_eq (fun k : Nat => (bcv (g_xor (m 123 t) (m 123 u)) + cnt (dB (m 130 t) (m 130 u) (KM m t) (NM m t) (KM m u) (NM m u)) k, (k : Int))) n.toNat (fun k hk => ?_) ?_ (by rw [FU_v]; omega)
  · have c := cnt_b (dB (m 130 t) (m 130 u) (KM m t) (NM m t) (KM m u) (NM m u)) k
    have et : g_add (g_mul 10 t) (k : Int) = 10 * t + k := by unfold g_add g_mul; rw [w32_i (x := 10 * t) (by omega) (by omega), w32_i (by omega) (by omega)]
    have eu : g_add (g_mul 10 u) (k : Int) = 10 * u + k := by unfold g_add g_mul; rw [w32_i (x := 10 * u) (by omega) (by omega), w32_i (by omega) (by omega)]
    have f54 : ∀ w : Int, f176_54 (GC L) RC 120 t u (bcv (g_xor (m 123 t) (m 123 u)) + cnt (dB (m 130 t) (m 130 u) (KM m t) (NM m t) (KM m u) (NM m u)) k) (k : Int) w m = some (Sum.inl (bcv (g_xor (m 123 t) (m 123 u)) + (cnt (dB (m 130 t) (m 130 u) (KM m t) (NM m t) (KM m u) (NM m u)) k + (if w = 0 then 0 else if gB (m 130 t) k = true then 0 else if gB (m 130 u) k = true then 0 else 1)), ((k + 1 : Nat) : Int))) := by
      intro w
      unfold f176_54 g_add
      rw [w32_i (x := (k : Int) + 1) (by omega) (by omega), w32_i (x := bcv (g_xor (m 123 t) (m 123 u)) + cnt (dB (m 130 t) (m 130 u) (KM m t) (NM m t) (KM m u) (NM m u)) k + 1) (by omega) (by omega), w32_i (x := bcv (g_xor (m 123 t) (m 123 u)) + cnt (dB (m 130 t) (m 130 u) (KM m t) (NM m t) (KM m u) (NM m u)) k + 0) (by omega) (by omega)]
      by_cases c : w = 0
      · rw [if_pos c, if_pos c, Int.add_assoc]; rfl
      · rw [if_neg c, if_neg c]
        simp only [KG L, if_true]
        by_cases c1 : gp (m 130 t) k
        · rw [(f171_s L ht).1 c1, if_pos (gB_t.mpr c1)]
          simp only [Option.bind_some]
          rw [if_neg (by decide), Int.add_assoc]; rfl
        · rw [(f171_s L ht).2 c1, if_neg (fun q => c1 (gB_t.mp q))]
          simp only [Option.bind_some, if_true]
          by_cases c2 : gp (m 130 u) k
          · rw [(f171_s L hu).1 c2, if_pos (gB_t.mpr c2)]
            simp only [Option.bind_some]
            rw [if_neg (by decide), Int.add_assoc]; rfl
          · rw [(f171_s L hu).2 c2, if_neg (fun q => c2 (gB_t.mp q))]
            simp only [Option.bind_some, if_true]
            rw [Int.add_assoc]; rfl
    unfold f176_b13
    simp only [KG L, KR, KL L, if_true, et, eu, f54]
    rw [hn, if_pos (by omega)]
    simp only [if_pos (show 0 ≤ 10 * t + (k : Int) ∧ 10 * t + (k : Int) < 140 by omega), if_pos (show 0 ≤ 10 * u + (k : Int) ∧ 10 * u + (k : Int) < 140 by omega)]
    rw [cnt_s]
    by_cases c1 : gp (m 130 t) k
    · simp only [if_pos (gB_t.mpr c1), dB_g c1, ite_self]
      rfl
    · by_cases c2 : gp (m 130 u) k
      · simp only [if_neg (fun q => c1 (gB_t.mp q)), if_pos (gB_t.mpr c2), dB_h c2, ite_self]
        rfl
      · simp only [if_neg (fun q => c1 (gB_t.mp q)), if_neg (fun q => c2 (gB_t.mp q))]
        rw [dB_n c1 c2]
        unfold KM NM
        by_cases e1 : m 121 (10 * t + k) = m 121 (10 * u + k)
        · rw [if_pos e1]
          by_cases e2 : m 122 (10 * t + k) = m 122 (10 * u + k)
          · rw [if_pos e2, decide_eq_true e1, decide_eq_true e2]; rfl
          · rw [if_neg e2, decide_eq_true e1, decide_eq_false e2]; rfl
        · rw [if_neg e1, decide_eq_false e1]; rfl
  · unfold f176_b13
    simp only [KG L, if_true]
    rw [hn, if_neg (by omega), xr_some]
