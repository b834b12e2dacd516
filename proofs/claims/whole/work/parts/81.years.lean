section YEARS
variable {n : Int} {m : Sg}
theorem YS_c {n y : Int} {m m' : Sg} {S S' : Int → Int} (hv : ∀ t y p, vls n m' t y p = vls n m t y p) (h : ∀ s, 0 ≤ s → s < 8 → S' s = S s) : ∀ (j : Nat) (s : Int), 0 ≤ s → s < 8 → YS n m' y S' j s = YS n m y S j s
  | 0, s, h0, h8 => h s h0 h8
  | j + 1, s, h0, h8 => by
    show ynx (fun t => vls n m' t (y + (j : Int) + 1) 0) (fun t => vls n m' t (y + (j : Int) + 1) 1) (YS n m' y S' j) s = ynx (fun t => vls n m t (y + (j : Int) + 1) 0) (fun t => vls n m t (y + (j : Int) + 1) 1) (YS n m y S j) s
    rw [show (fun t => vls n m' t (y + (j : Int) + 1) 0) = (fun t => vls n m t (y + (j : Int) + 1) 0) from funext fun t => hv _ _ _, show (fun t => vls n m' t (y + (j : Int) + 1) 1) = (fun t => vls n m t (y + (j : Int) + 1) 1) from funext fun t => hv _ _ _]
    exact ynx_c (fun u a b => YS_c hv h j u a b) h0 h8
/-- the model copies the new row over the old one -/
theorem f209c_s (L : Nat) (v1 v2 : Int) : ∃ q, lp (f209_b43 (GC L) RC 120 v1 v2) FU (0, m) = some q ∧ (∃ m1, q = Sum.inl (w32 (v2 + 1), m1) ∧ (∀ s, 0 ≤ s → s < 8 → m1 138 s = m 139 s) ∧ ∀ x i, ¬ x = 138 → m1 x i = m x i) := by
  refine lp_all (f := f209_b43 (GC L) RC 120 v1 v2) (fun k st => ∃ m1, st = ((k : Int), m1) ∧ (∀ s, 0 ≤ s → s < (k : Int) → m1 138 s = m 139 s) ∧ ∀ x i, ¬ x = 138 → m1 x i = m x i) 8 ?_ ?_ (by rw [FU_v]; omega) (0, m) ⟨m, rfl, fun s a b => absurd b (by show ¬ s < 0; omega), fun _ _ _ => rfl⟩
  · rintro k st hk ⟨m1, rfl, i1, i2⟩
    unfold f209_b43
    simp only [KG L, KR, KL L, if_true]
    rw [if_pos (by omega), if_pos (by omega), if_pos (by omega), w32_i (by omega) (by omega)]
    refine ⟨_, rfl, _, rfl, fun s a b => ?_, fun x i d => ?_⟩
    · rw [put_as]
      by_cases e : s = (k : Int)
      · rw [if_pos e, i2 139 k (by decide), e]
      · rw [if_neg e]; exact i1 s a (by omega)
    · rw [put_ne d]; exact i2 x i d
  · rintro st ⟨m1, rfl, i1, i2⟩
    unfold f209_b43
    simp only
    rw [if_neg (by omega), xr_some]
    exact ⟨_, rfl, m1, rfl, fun s a b => i1 s a (by omega), i2⟩
theorem f209_s (L : Nat) {y : Int} {c : Nat} {S : Int → Int} (h : RelT n m) (hT : 0 ≤ m 82 9) (hS : ∀ s, 0 ≤ s → s < 8 → m 138 s = S s ∧ -1 ≤ S s ∧ S s < m 82 9) (hy : m 120 45 = y) (hy2 : 0 ≤ y ∧ y + (c : Int) ≤ 999) : ∃ m1, lp (f209_b18 (GC L) RC 120 (c : Int)) FU (0, m) = some (y + c, m1) ∧ m1 120 45 = y + c ∧ (∀ s, 0 ≤ s → s < 8 → m1 138 s = YS n m y S c s) ∧ ∀ x i, ¬ scr x i → ¬ (x = 120 ∧ i = 45) → ¬ x = 138 → m1 x i = m x i := by
  have hc : c < 4000 := by omega
  obtain ⟨q, x1, m1, x2, x3⟩ := lp_all (f := f209_b18 (GC L) RC 120 (c : Int)) (Q := fun q => ∃ m1, q = (y + c, m1) ∧ m1 120 45 = y + c ∧ (∀ s, 0 ≤ s → s < 8 → m1 138 s = YS n m y S c s) ∧ ∀ x i, ¬ scr x i → ¬ (x = 120 ∧ i = 45) → ¬ x = 138 → m1 x i = m x i) (fun k st => ∃ m1, st = ((k : Int), m1) ∧ m1 120 45 = y + k ∧ (∀ s, 0 ≤ s → s < 8 → m1 138 s = YS n m y S k s) ∧ ∀ x i, ¬ scr x i → ¬ (x = 120 ∧ i = 45) → ¬ x = 138 → m1 x i = m x i) c
    (by
      rintro k st hk ⟨m1, rfl, i1, i2, i3⟩
      have eY : g_add (m1 120 45) 1 = y + k + 1 := by unfold g_add; rw [i1, w32_i (by omega) (by omega)]
      generalize hp : put m1 120 45 (y + (k : Int) + 1) = mp
      have F2 : ∀ x i, ¬ scr x i → ¬ (x = 120 ∧ i = 45) → ¬ x = 138 → mp x i = m x i := fun x i d1 d2 d3 => by
        rw [← hp, show put m1 120 45 (y + (k : Int) + 1) x i = m1 x i from by unfold put; rw [if_neg d2]]
        exact i3 x i d1 d2 d3
      have p45 : mp 120 45 = y + k + 1 := by rw [← hp, put_eq]
      have p38 : ∀ s, 0 ≤ s → s < 8 → mp 138 s = YS n m y S k s := fun s a b => by rw [← hp, put_ne (by decide)]; exact i2 s a b
      have yb := YS_b (n := n) (m := m) (y := y) hT (fun s a b => (hS s a b).2) k
      obtain ⟨q, a1, m2, a2, a3, a4⟩ := lp_all (f := f209_b29 (GC L) RC 120 (c : Int) k) (Q := fun q => ∃ m2, q = Sum.inl ((k : Int) + 1, m2) ∧ (∀ s, 0 ≤ s → s < 8 → m2 138 s = YS n m y S (k + 1) s) ∧ ∀ x i, ¬ scr x i → ¬ x = 138 → m2 x i = mp x i) (fun j st => ∃ m2, st = ((j : Int), m2) ∧ Sm mp m2 ∧ ∀ s, 0 ≤ s → s < (j : Int) → m2 139 s = YS n m y S (k + 1) s) 8
        (by
          rintro j st hj ⟨m2, rfl, j1, j2⟩
          have r2 : RelT n m2 := RelT_f h (fun x i d1 d2 d3 d4 d5 => by rw [j1 x i d1]; exact F2 x i d1 d3 d5)
          have e9 : m2 82 9 = m 82 9 := by rw [j1 82 9 (by unfold scr; omega)]; exact F2 82 9 (by unfold scr; omega) (by omega) (by omega)
          have e45 : m2 120 45 = y + k + 1 := by rw [j1 120 45 (by unfold scr; omega), p45]
          obtain ⟨m3, b1, b2, b3⟩ := f208_s L (S := YS n m y S k) (s := (j : Int)) r2 (by omega) (fun s a b => ⟨by rw [j1 138 s (by unfold scr; omega)]; exact p38 s a b, by rw [e9]; exact yb s a b⟩)
          have ev : ∀ t p, vls n m2 t (m2 120 45) p = vls n m t (y + k + 1) p := fun t p => by
            rw [e45]; exact vls_f (m := m) (m' := m2) (fun x i d1 d2 d3 d4 d5 => by rw [j1 x i d1]; exact F2 x i d1 d3 d5)
          rw [show (fun t => vls n m2 t (m2 120 45) 0) = (fun t => vls n m t (y + (k : Int) + 1) 0) from funext fun t => ev t 0, show (fun t => vls n m2 t (m2 120 45) 1) = (fun t => vls n m t (y + (k : Int) + 1) 1) from funext fun t => ev t 1] at b1
          unfold f209_b29
          simp only [KG L, KR, KL L, if_true]
          rw [if_pos (by omega), bnd b1]
          simp only
          rw [if_pos (by omega), w32_i (by omega) (by omega)]
          refine ⟨_, rfl, _, rfl, fun x i d => ?_, fun s a b => ?_⟩
          · rw [put_ne (fun q => d (sc_z139 q)), b2 x i d]; exact j1 x i d
          · rw [put_as]
            by_cases e : s = (j : Int)
            · rw [if_pos e, e]; rfl
            · rw [if_neg e, b3]; exact j2 s a (by omega))
        (by
          rintro st ⟨m2, rfl, j1, j2⟩
          obtain ⟨q, c1, m3, c2, c3, c4⟩ := f209c_s L (m := m2) (c : Int) k
          unfold f209_b29
          simp only
          rw [if_neg (by omega), c1, c2, xr_some, w32_i (by omega) (by omega)]
          exact ⟨_, rfl, m3, rfl, fun s a b => by rw [c3 s a b]; exact j2 s a (by omega), fun x i d1 d2 => by rw [c4 x i d2]; exact j1 x i d1⟩)
        (by rw [FU_v]; omega) (0, mp) ⟨mp, rfl, Sm_r mp, fun s a b => absurd b (by show ¬ s < 0; omega)⟩
      unfold f209_b18
      simp only [KG L, if_true]
      rw [if_pos (by omega), eY, hp, a1, a2]
      refine ⟨_, rfl, m2, rfl, ?_, fun s a b => a3 s a b, fun x i d1 d2 d3 => ?_⟩
      · rw [a4 120 45 (by unfold scr; omega) (by decide), p45]; omega
      · rw [a4 x i d1 d3]; exact F2 x i d1 d2 d3)
    (by
      rintro st ⟨m1, rfl, i1, i2, i3⟩
      unfold f209_b18
      simp only [KG L, if_true]
      rw [if_neg (by omega), xr_some]
      exact ⟨_, rfl, m1, by rw [i1], i1, i2, i3⟩)
    (by rw [FU_v]; omega) (0, m) ⟨m, rfl, by rw [hy]; show y = y + 0; omega, fun s a b => (hS s a b).1, fun _ _ _ _ _ => rfl⟩
  exact ⟨m1, by rw [x1, x2], x3⟩
theorem k24 (L : Nat) (h : Rel n m) (v : Int) : ∃ w m1 m2, f120 (GC L) RC 1 v m = some (w, m1) ∧ m1 0 = m 0 ∧ f209 (GC L) RC 120 v m1 = some (w, m2) ∧ m2 0 = m 0 ∧ Rel n m2 := by
  have hs := h.2.2.2.2.2.2.1
  obtain ⟨y1, y2, y3⟩ := h.2.2.2.2.2.2.2.2.1
  have hT : 0 ≤ m 82 9 := h.2.2.1.2.1
  have hr : RelT n m := ⟨h.1, h.2.2.1, h.2.2.2.2.2.1⟩
  by_cases c1 : 1 ≤ v ∧ v ≤ 30
  · have ea : g_add (m 1 13) v = m 1 13 + v := by unfold g_add; rw [w32_i (by omega) (by omega)]
    by_cases c2 : 999 < m 1 13 + v
    · refine ⟨-4, m, m, ?_, rfl, ?_, rfl, h⟩
      · unfold f120
        simp only [KG L, if_true]
        rw [if_neg (by omega), if_neg (by omega), ea, if_pos c2]
      · unfold f209
        simp only [KG L, if_true]
        rw [bnd (f143_s.1 c1), if_neg (by exact n10), y1, ea, if_pos c2]
    · obtain ⟨c, rfl⟩ : ∃ c : Nat, v = (c : Int) := ⟨v.toNat, by omega⟩
      obtain ⟨m1, a1, a2, a3, a4⟩ := f120_s L (c := c) hr hT (fun s a b => (hs s a b).2) rfl ⟨y2, by omega⟩
      have fr : ∀ x i, ¬ scr x i → ¬ (x = 1 ∧ i = 13) → ¬ (x = 120 ∧ i = 45) → ¬ x = 36 → ¬ x = 138 → m1 x i = m x i := fun x i d1 d2 _ d4 _ => a4 x i d1 d2 d4
      have e9 : m1 82 9 = m 82 9 := a4 82 9 (by unfold scr; omega) (by omega) (by omega)
      obtain ⟨m2, b1, b2, b3, b4⟩ := f209_s L (m := m1) (y := m 1 13) (c := c) (S := m 36) (RelT_f hr fr) (by rw [e9]; exact hT) (fun s a b => by rw [e9, a4 138 s (by unfold scr; omega) (by omega) (by omega)]; exact hs s a b) (by rw [a4 120 45 (by unfold scr; omega) (by omega) (by omega)]; exact y1) ⟨y2, by omega⟩
      have ff : ∀ x i, ¬ scr x i → ¬ sS0 x i → ¬ sY x i → m2 x i = m x i := fun x i d1 d2 d3 => by
        unfold sS0 at d2; unfold sY at d3
        rw [b4 x i d1 (fun q => d3 (Or.inr q)) (fun q => d2 (Or.inr q))]
        exact a4 x i d1 (fun q => d3 (Or.inl q)) (fun q => d2 (Or.inl q))
      have g36 : ∀ s, m2 36 s = m1 36 s := fun s => b4 36 s (by unfold scr; omega) (by omega) (by omega)
      have g13 : m2 1 13 = m1 1 13 := b4 1 13 (by unfold scr; omega) (by omega) (by omega)
      have g9 : m2 82 9 = m 82 9 := ff 82 9 (by unfold scr; omega) (by unfold sS0; omega) (by unfold sY; omega)
      obtain ⟨l1, l2⟩ := Rel_YS (m' := m2) h (fun s a b => by
        have yb := YS_b (n := n) (m := m) (y := m 1 13) hT (fun s a b => (hs s a b).2) c s a b
        rw [g36, a3 s a b, b3 s a b, g9]
        exact ⟨YS_c (fun t y p => vls_f fr) (fun u _ _ => rfl) c s a b, yb⟩) ⟨by rw [b2, g13, a2], by rw [g13, a2]; omega, by rw [g13, a2]; omega⟩ ff
      refine ⟨m 1 13 + c, m1, m2, ?_, funext fun i => a4 0 i (by unfold scr; omega) (by omega) (by omega), ?_, l1, l2⟩
      · unfold f120
        simp only [KG L, if_true]
        rw [if_neg (by omega), if_neg (by omega), ea, if_neg c2, a1]
      · unfold f209
        simp only [KG L, if_true]
        rw [bnd (f143_s.1 c1), if_neg (by exact n10), a4 120 45 (by unfold scr; omega) (by omega) (by omega), y1, ea, if_neg c2, b1]
  · refine ⟨-2, m, m, ?_, rfl, ?_, rfl, h⟩
    · unfold f120
      by_cases q : v < 1
      · rw [if_pos q]
      · rw [if_neg q, if_pos (by omega)]
    · unfold f209
      rw [bnd (f143_s.2 c1), if_pos rfl]
end YEARS
