/-! RINGS -/
theorem bt_a : ∀ (k : Fin 1024) (j : Fin 10), (g_and (g_shr (k.val : Int) (j.val : Int)) 1 = 0 ∨ g_and (g_shr (k.val : Int) (j.val : Int)) 1 = 1) ∧ (g_and (g_shr (k.val : Int) (j.val : Int)) 1 = 1 → g_or (k.val : Int) (g_shl 1 (j.val : Int)) = (k.val : Int)) := by decide +kernel
theorem bt_s {x s : Int} (h1 : 0 ≤ x ∧ x < 1024) (h2 : 0 ≤ s ∧ s < 10) : (g_and (g_shr x s) 1 = 0 ∨ g_and (g_shr x s) 1 = 1) ∧ (g_and (g_shr x s) 1 = 1 → g_or x (g_shl 1 s) = x) := by
  have := bt_a ⟨x.toNat, by omega⟩ ⟨s.toNat, by omega⟩
  simp only at this
  rw [show ((x.toNat : Nat) : Int) = x by omega, show ((s.toNat : Nat) : Int) = s by omega] at this
  exact this
theorem gt_a : ∀ (k : Fin 1024) (j : Fin 10), g_and (g_shr (k.val : Int) (j.val : Int)) 1 = if Nat.testBit k.val j.val = true then 1 else 0 := by decide +kernel
theorem on_a : ∀ (k : Fin 1024) (j : Fin 10), g_or (k.val : Int) (g_shl 1 (j.val : Int)) = ((k.val ||| 2 ^ j.val : Nat) : Int) := by decide +kernel
theorem bo_n (k j i : Nat) (hk : k < 1024) (hj : j < 10) (hi : i < 10) : g_and (g_shr (g_or (k : Int) (g_shl 1 (j : Int))) (i : Int)) 1 = if i = j then 1 else g_and (g_shr (k : Int) (i : Int)) 1 := by
  have h1 := on_a ⟨k, hk⟩ ⟨j, hj⟩
  have lt : k ||| 2 ^ j < 2 ^ 10 := Nat.or_lt_two_pow (by omega) (Nat.pow_lt_pow_right (by omega) hj)
  have h2 := gt_a ⟨k ||| 2 ^ j, by omega⟩ ⟨i, hi⟩
  have h3 := gt_a ⟨k, hk⟩ ⟨i, hi⟩
  simp only at h1 h2 h3
  rw [h1, h2, h3, Nat.testBit_or, Nat.testBit_two_pow]
  by_cases e : i = j
  · rw [if_pos e, decide_eq_true e.symm, Bool.or_true, if_pos rfl]
  · rw [if_neg e, decide_eq_false (fun q => e q.symm), Bool.or_false]
theorem bo_s {x s i : Int} (h1 : 0 ≤ x ∧ x < 1024) (h2 : 0 ≤ s ∧ s < 10) (h3 : 0 ≤ i ∧ i < 10) : g_and (g_shr (g_or x (g_shl 1 s)) i) 1 = if i = s then 1 else g_and (g_shr x i) 1 := by
  have := bo_n x.toNat s.toNat i.toNat (by omega) (by omega) (by omega)
  rw [show ((x.toNat : Nat) : Int) = x by omega, show ((s.toNat : Nat) : Int) = s by omega, show ((i.toNat : Nat) : Int) = i by omega] at this
  rw [this]
  by_cases e : i = s
  · rw [if_pos e, if_pos (by omega)]
  · rw [if_neg e, if_neg (by omega)]
theorem gp_o {x s i : Int} (h1 : 0 ≤ x ∧ x < 1024) (h2 : 0 ≤ s ∧ s < 10) (h3 : 0 ≤ i ∧ i < 10) : gp (g_or x (g_shl 1 s)) i ↔ (i = s ∨ gp x i) := by
  unfold gp
  rw [bo_s h1 h2 h3]
  by_cases e : i = s
  · rw [if_pos e]; exact ⟨fun _ => Or.inl e, fun _ => rfl⟩
  · rw [if_neg e]; exact ⟨fun q => Or.inr q, fun q => q.resolve_left e⟩
def itr (g : Int → Int) (s : Int) : Nat → Int
  | 0 => s
  | k + 1 => g (itr g s k)
/-- the squares met, as bits -/
def orb (g : Int → Int) (s : Int) : Nat → Int
  | 0 => 0
  | k + 1 => g_or (orb g s k) (g_shl 1 (itr g s k))
section RING
variable {g : Int → Int} {n s : Int}
theorem itr_s (k : Nat) : itr g s (k + 1) = g (itr g s k) := rfl
theorem orb_s (k : Nat) : orb g s (k + 1) = g_or (orb g s k) (g_shl 1 (itr g s k)) := rfl
theorem itr_b (hg : ∀ s, 0 ≤ s → s < n → 0 ≤ g s ∧ g s < n) (h1 : 0 ≤ s) (h2 : s < n) : ∀ k, 0 ≤ itr g s k ∧ itr g s k < n
  | 0 => ⟨h1, h2⟩
  | k + 1 => by have := itr_b hg h1 h2 k; exact hg _ this.1 this.2
theorem orb_b (hg : ∀ s, 0 ≤ s → s < n → 0 ≤ g s ∧ g s < n) (h10 : n ≤ 10) (h1 : 0 ≤ s) (h2 : s < n) : ∀ k, 0 ≤ orb g s k ∧ orb g s k < 1024
  | 0 => ⟨Int.le_refl _, by show (0 : Int) < 1024; omega⟩
  | k + 1 => by
    have a := orb_b hg h10 h1 h2 k
    have b := itr_b hg h1 h2 k
    exact or_s a ⟨b.1, by omega⟩
theorem orb_t (hg : ∀ s, 0 ≤ s → s < n → 0 ≤ g s ∧ g s < n) (h10 : n ≤ 10) (h1 : 0 ≤ s) (h2 : s < n) : ∀ (k : Nat) (i : Int), 0 ≤ i → i < 10 → (gp (orb g s k) i ↔ ∃ j : Nat, j < k ∧ itr g s j = i)
  | 0, i, a1, a2 => by
    constructor
    · intro q
      exfalso
      have : ∀ j : Fin 10, ¬ g_and (g_shr 0 (j.val : Int)) 1 = 1 := by decide +kernel
      have t := this ⟨i.toNat, by omega⟩
      simp only at t
      rw [show ((i.toNat : Nat) : Int) = i by omega] at t
      exact t q
    · rintro ⟨j, q, _⟩; omega
  | k + 1, i, a1, a2 => by
    have a := orb_b hg h10 h1 h2 k
    have b := itr_b hg h1 h2 k
    rw [orb_s, gp_o a ⟨b.1, by omega⟩ ⟨a1, a2⟩, orb_t hg h10 h1 h2 k i a1 a2]
    constructor
    · rintro (q | ⟨j, q1, q2⟩)
      · exact ⟨k, by omega, q.symm⟩
      · exact ⟨j, by omega, q2⟩
    · rintro ⟨j, q1, q2⟩
      by_cases e : j = k
      · subst e; exact Or.inl q2.symm
      · exact Or.inr ⟨j, by omega, q2⟩
theorem orb_c (hg : ∀ s, 0 ≤ s → s < n → 0 ≤ g s ∧ g s < n) (h10 : n ≤ 10) (h1 : 0 ≤ s) (h2 : s < n) {k : Nat} (h : gp (orb g s k) (itr g s k)) : ∀ j : Nat, gp (orb g s k) (itr g s (k + j))
  | 0 => h
  | j + 1 => by
    have ih := orb_c hg h10 h1 h2 h j
    have b := itr_b hg h1 h2
    obtain ⟨i, q1, q2⟩ := (orb_t hg h10 h1 h2 k _ (b _).1 (by have := b (k + j); omega)).mp ih
    have e : itr g s (k + (j + 1)) = itr g s (i + 1) := by
      rw [show k + (j + 1) = (k + j) + 1 from rfl, itr_s, itr_s, q2]
    rw [e]
    by_cases c : i + 1 = k
    · rw [c]; exact h
    · exact (orb_t hg h10 h1 h2 k _ (b _).1 (by have := b (i + 1); omega)).mpr ⟨i + 1, by omega, rfl⟩
theorem orb_e (hg : ∀ s, 0 ≤ s → s < n → 0 ≤ g s ∧ g s < n) (h10 : n ≤ 10) (h1 : 0 ≤ s) (h2 : s < n) {k : Nat} (h : gp (orb g s k) (itr g s k)) : ∀ j : Nat, orb g s (k + j) = orb g s k
  | 0 => rfl
  | j + 1 => by
    have b := itr_b hg h1 h2 (k + j)
    have a := orb_b hg h10 h1 h2 k
    rw [show k + (j + 1) = (k + j) + 1 from rfl, orb_s, orb_e hg h10 h1 h2 h j]
    exact (bt_s a ⟨b.1, by omega⟩).2 (orb_c hg h10 h1 h2 h j)
end RING
/-- the best step, the square that it leads to -/
noncomputable def bsf (n : Int) (K N : Int → Int) (a s : Int) : Int := Classical.epsilon (fun d => isB n K N a s d)
noncomputable def gto (n : Int) (K N : Int → Int) (a s : Int) : Int := la n K N s (bsf n K N a s)
theorem bsf_s {n a s : Int} {K N : Int → Int} (h0 : 0 < n) (h10 : n ≤ 10) (hA : ∃ d, alw a d) (hs : 0 ≤ s) (hs2 : s < n) : isB n K N a s (bsf n K N a s) := Classical.epsilon_spec (bst_e h0 h10 hA hs hs2)
theorem gto_b {n a : Int} {K N : Int → Int} (h0 : 0 < n) (s : Int) : 0 ≤ gto n K N a s ∧ gto n K N a s < n := la_b h0 _ _
theorem f90_s (L : Nat) {m0 m : Sg} {n a s : Int} {K N : Int → Int} (hA : ∃ d, alw a d) (h4 : 4 ≤ n) (h10 : n ≤ 10) (hs : 0 ≤ s) (hs2 : s < n) (hB : JB m0 2 4 6 8 n K N a m) (hM : ∀ i, 0 ≤ i → i < n → m 4 i = TT n K N a 10 i) : f90 (GC L) RC 2 s m = some (orb (gto n K N a) (itr (gto n K N a) s n.toNat) n.toNat) := by
  have hg : ∀ s, 0 ≤ s → s < n → 0 ≤ gto n K N a s ∧ gto n K N a s < n := fun s _ _ => gto_b (by omega) s
  have one : ∀ p, 0 ≤ p → p < n → f88 (GC L) RC 2 p m = some (bsf n K N a p) ∧ f91 (GC L) RC p (bsf n K N a p) m = some (5 * p + bsf n K N a p - 1) ∧ ra 50 (m 8) (5 * p + bsf n K N a p - 1) = gto n K N a p := by
    intro p p1 p2
    have hb := bsf_s (K := K) (N := N) (show 0 < n by omega) h10 hA p1 p2
    have d1 := hb.1.1
    have d2 := hb.1.2.1
    refine ⟨f88_s L hA h4 h10 p1 p2 hB hM hb, f91_s p1 (by omega) (by omega) (by omega), ?_⟩
    rw [ra_in (by omega) (by omega)]
    exact (hB.2.2.1 p _ p1 p2 d1 d2).2
  have two : ∀ p, 0 ≤ p → p < n → lp (f90_b23 (GC L) RC 2 m) FU (p, 0, 0) = some (orb (gto n K N a) p n.toNat) := by
    intro p p1 p2
    refine lp_eq (fun k : Nat => (itr (gto n K N a) p k, orb (gto n K N a) p k, (k : Int))) n.toNat (fun k hk => ?_) ?_ (by rw [FU_v]; omega)
    · have b := itr_b hg p1 p2 k
      obtain ⟨q1, q2, q3⟩ := one _ b.1 b.2
      unfold f90_b23
      simp only [KG L, KR, RAx L, if_true]
      rw [hB.2.1, if_pos (by omega), q1]
      simp only [Option.bind_some]
      rw [q2]
      simp only [Option.bind_some]
      rw [q3, w32_i (by omega) (by omega)]
      rfl
    · unfold f90_b23
      simp only [KG L, if_true]
      rw [hB.2.1, if_neg (by omega), xr_some]
  unfold f90
  refine lp_eq (fun k : Nat => (itr (gto n K N a) s k, (k : Int))) n.toNat (fun k hk => ?_) ?_ (by rw [FU_v]; omega)
  · have b := itr_b hg hs hs2 k
    obtain ⟨q1, q2, q3⟩ := one _ b.1 b.2
    unfold f90_b4
    simp only [KG L, KR, RAx L, if_true]
    rw [hB.2.1, if_pos (by omega), q1]
    simp only [Option.bind_some]
    rw [q2]
    simp only [Option.bind_some]
    rw [q3, w32_i (by omega) (by omega)]
    rfl
  · have b := itr_b hg hs hs2 n.toNat
    unfold f90_b4
    simp only [KG L, if_true]
    rw [hB.2.1, if_neg (by omega), two _ b.1 b.2, xr_some]
theorem f159_s (L : Nat) {m : Sg} {n s : Int} (hn : m 120 1 = n) (h4 : 4 ≤ n) (h10 : n ≤ 10) (hA : ∃ d, alw (m 123 12) d) (hs : 0 ≤ s) (hs2 : s < n) (hN : ∀ i, 0 ≤ i → i < n → 0 ≤ NM m 12 i ∧ NM m 12 i < 1000) (hF : ∀ i, 0 ≤ i → i < n → m 124 i = TT n (KM m 12) (NM m 12) (m 123 12) 10 i) : ∃ m', f159 (GC L) RC 120 s m = some (gto n (KM m 12) (NM m 12) (m 123 12) s, m') ∧ F5 m m' := by
  have hb := bsf_s (K := KM m 12) (N := NM m 12) (show 0 < n by omega) h10 hA hs hs2
  have d1 := hb.1.1
  have d2 := hb.1.2.1
  obtain ⟨m1, r1, r2⟩ := f155_s L (t := 12) hn h4 h10 (by omega) hs hs2 hN hF hb
  have en : m1 120 1 = n := by rw [r2 120 1 (by omega)]; exact hn
  refine ⟨put m1 120 5 (gto n (KM m 12) (NM m 12) (m 123 12) s), ?_, F5_p r2⟩
  unfold f159
  simp only [KG L, if_true]
  rw [r1]
  simp only [Option.bind_some]
  rw [f151_s L en (by omega) h10 (by omega) (by omega) (by omega) (by rw [F5_N r2]; exact hN), F5_K r2, F5_N r2]
  simp only [Option.bind_some]
  rw [put_eq]
  rfl
theorem f160_s (L : Nat) {m : Sg} {n s : Int} (hn : m 120 1 = n) (h4 : 4 ≤ n) (h10 : n ≤ 10) (hA : ∃ d, alw (m 123 12) d) (hs : 0 ≤ s) (hs2 : s < n) (hN : ∀ i, 0 ≤ i → i < n → 0 ≤ NM m 12 i ∧ NM m 12 i < 1000) (hF : ∀ i, 0 ≤ i → i < n → m 124 i = TT n (KM m 12) (NM m 12) (m 123 12) 10 i) : ∃ m', lp (f160_b20 (GC L) RC 120) FU (s, 0, m) = some (orb (gto n (KM m 12) (NM m 12) (m 123 12)) (itr (gto n (KM m 12) (NM m 12) (m 123 12)) s n.toNat) n.toNat, m') ∧ F5 m m' := by
  generalize hgd : gto n (KM m 12) (NM m 12) (m 123 12) = g
  have hg : ∀ s, 0 ≤ s → s < n → 0 ≤ g s ∧ g s < n := fun s _ _ => by rw [← hgd]; exact gto_b (by omega) s
  have one : ∀ (p : Int) (m1 : Sg), 0 ≤ p → p < n → F5 m m1 → ∃ m', f159 (GC L) RC 120 p m1 = some (g p, m') ∧ F5 m m' := by
    intro p m1 p1 p2 hF1
    have en : m1 120 1 = n := by rw [hF1 120 1 (by omega)]; exact hn
    have ea : m1 123 12 = m 123 12 := hF1 123 12 (by omega)
    obtain ⟨m2, r1, r2⟩ := f159_s L en h4 h10 (by rw [ea]; exact hA) p1 p2 (by rw [F5_N hF1]; exact hN) (by rw [F5_N hF1, F5_K hF1, ea, F5_f hF1 (by decide)]; exact hF)
    rw [F5_N hF1, F5_K hF1, ea, hgd] at r1
    exact ⟨m2, r1, fun x i c => (r2 x i c).trans (hF1 x i c)⟩
  have two : ∀ (p : Int) (m1 : Sg), 0 ≤ p → p < n → F5 m m1 → ∃ m', lp (f160_b32 (GC L) RC 120) FU (p, 0, m1) = some (orb g p n.toNat, m') ∧ F5 m m' := by
    intro p m1 p1 p2 hF1
    have out : ∀ (k : Nat) (m2 : Sg), k ≤ n.toNat → gp (orb g p k) (itr g p k) → F5 m m2 → ∃ r, f160_b32 (GC L) RC 120 (itr g p k, orb g p k, m2) = some (Sum.inr r) ∧ ∃ m', r = (orb g p n.toNat, m') ∧ F5 m m' := by
      intro k m2 hk hgp hF2
      refine ⟨(orb g p k, m2), ?_, m2, ?_, hF2⟩
      · unfold f160_b32
        simp only
        have : g_and (g_shr (orb g p k) (itr g p k)) 1 = 1 := hgp
        rw [this, if_neg (by decide), xr_some]
      · have := orb_e hg h10 p1 p2 hgp (n.toNat - k)
        rw [show k + (n.toNat - k) = n.toNat by omega] at this
        rw [this]
    obtain ⟨q, h1, m', h2, h3⟩ := lp_ex (f := f160_b32 (GC L) RC 120) (Q := fun q => ∃ m', q = (orb g p n.toNat, m') ∧ F5 m m') (fun k st => ∃ m2, st = (itr g p k, orb g p k, m2) ∧ F5 m m2 ∧ (k : Int) ≤ cnt (gB (orb g p k)) n.toNat) n.toNat
      (by
        rintro k st hk ⟨m2, rfl, i1, i2⟩
        have b := itr_b hg p1 p2 k
        have a := orb_b hg h10 p1 p2 k
        by_cases c : gp (orb g p k) (itr g p k)
        · right; exact out k m2 (by omega) c i1
        · left
          obtain ⟨m3, r1, r2⟩ := one _ m2 b.1 b.2 i1
          have z : g_and (g_shr (orb g p k) (itr g p k)) 1 = 0 := (bt_s a ⟨b.1, by omega⟩).1.resolve_right c
          refine ⟨(itr g p (k + 1), orb g p (k + 1), m3), ?_, m3, rfl, r2, ?_⟩
          · unfold f160_b32
            simp only [KG L, if_true]
            rw [if_pos z, r1]
            rfl
          · have := cnt_lt (p := gB (orb g p k)) (q := gB (orb g p (k + 1))) n.toNat (fun i a1 a2 a3 => by
              rw [gB_t] at a3 ⊢
              rw [orb_s]
              exact (gp_o a ⟨b.1, by omega⟩ ⟨a1, by omega⟩).mpr (Or.inr a3)) ⟨itr g p k, b.1, by omega, by
              rw [gB_t, orb_s]
              exact (gp_o a ⟨b.1, by omega⟩ ⟨b.1, by omega⟩).mpr (Or.inl rfl), fun q => c (gB_t.mp q)⟩
            omega)
      (by
        rintro st ⟨m2, rfl, i1, i2⟩
        have b := itr_b hg p1 p2 n.toNat
        have cb := cnt_b (gB (orb g p n.toNat)) n.toNat
        have := cnt_f (p := gB (orb g p n.toNat)) n.toNat (by omega) (itr g p n.toNat) b.1 (by omega)
        exact out n.toNat m2 (by omega) (gB_t.mp this) i1)
      FU (by rw [FU_v]; omega) (p, 0, m1) ⟨m1, rfl, hF1, (cnt_b _ _).1⟩
    exact ⟨m', by rw [h1, h2], h3⟩
  obtain ⟨q, h1, m', h2, h3⟩ := lp_all (f := f160_b20 (GC L) RC 120) (Q := fun q => ∃ m', q = (orb g (itr g s n.toNat) n.toNat, m') ∧ F5 m m') (fun k st => ∃ m2, st = (itr g s k, (k : Int), m2) ∧ F5 m m2) n.toNat
    (by
      rintro k st hk ⟨m2, rfl, i1⟩
      have b := itr_b hg hs hs2 k
      obtain ⟨m3, r1, r2⟩ := one _ m2 b.1 b.2 i1
      have en : m2 120 1 = n := by rw [i1 120 1 (by omega)]; exact hn
      unfold f160_b20
      simp only [KG L, if_true]
      rw [en, if_pos (by omega), r1, w32_i (by omega) (by omega)]
      exact ⟨_, rfl, m3, rfl, r2⟩)
    (by
      rintro st ⟨m2, rfl, i1⟩
      have b := itr_b hg hs hs2 n.toNat
      have en : m2 120 1 = n := by rw [i1 120 1 (by omega)]; exact hn
      obtain ⟨m3, r1, r2⟩ := two _ m2 b.1 b.2 i1
      refine ⟨_, ?_, m3, rfl, r2⟩
      unfold f160_b20
      simp only [KG L, if_true]
      rw [en, if_neg (by omega), r1, xr_some])
    (by rw [FU_v]; omega) (s, 0, m) ⟨m, rfl, fun _ _ _ => rfl⟩
  exact ⟨m', by rw [h1, h2], h3⟩
