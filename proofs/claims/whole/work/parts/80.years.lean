/-! CASE 24: years, all of them -/
section YEARS
variable {n : Int} {m : Sg}
theorem f120_s (L : Nat) {y : Int} {c : Nat} (h : RelT n m) (hT : 0 ≤ m 82 9) (hS : ∀ s, 0 ≤ s → s < 8 → -1 ≤ m 36 s ∧ m 36 s < m 82 9) (hy : m 1 13 = y) (hy2 : 0 ≤ y ∧ y + (c : Int) ≤ 999) : ∃ m1, lp (f120_b18 (GC L) RC 1 (c : Int)) FU (0, m) = some (y + c, m1) ∧ m1 1 13 = y + c ∧ (∀ s, 0 ≤ s → s < 8 → m1 36 s = YS n m y (m 36) c s) ∧ ∀ x i, ¬ scr x i → ¬ (x = 1 ∧ i = 13) → ¬ x = 36 → m1 x i = m x i := by
  have hc : c < 4000 := by omega
  obtain ⟨q, x1, m1, x2, x3⟩ := lp_all (f := f120_b18 (GC L) RC 1 (c : Int)) (Q := fun q => ∃ m1, q = (y + c, m1) ∧ m1 1 13 = y + c ∧ (∀ s, 0 ≤ s → s < 8 → m1 36 s = YS n m y (m 36) c s) ∧ ∀ x i, ¬ scr x i → ¬ (x = 1 ∧ i = 13) → ¬ x = 36 → m1 x i = m x i) (fun k st => ∃ m1, st = ((k : Int), m1) ∧ m1 1 13 = y + k ∧ (∀ s, 0 ≤ s → s < 8 → m1 36 s = YS n m y (m 36) k s) ∧ ∀ x i, ¬ scr x i → ¬ (x = 1 ∧ i = 13) → ¬ x = 36 → m1 x i = m x i) c
    (by
      rintro k st hk ⟨m1, rfl, i1, i2, i3⟩
      have eY : g_add (m1 1 13) 1 = y + k + 1 := by unfold g_add; rw [i1, w32_i (by omega) (by omega)]
      have F2 : ∀ x i, ¬ scr x i → ¬ (x = 1 ∧ i = 13) → ¬ x = 36 → put m1 1 13 (y + k + 1) x i = m x i := fun x i d1 d2 d3 => by
        rw [show put m1 1 13 (y + (k : Int) + 1) x i = m1 x i from by unfold put; rw [if_neg d2]]
        exact i3 x i d1 d2 d3
      have r2 : RelT n (put m1 1 13 (y + k + 1)) := RelT_f h (fun x i d1 d2 _ d4 _ => F2 x i d1 d2 d4)
      have e9 : put m1 1 13 (y + (k : Int) + 1) 82 9 = m 82 9 := F2 82 9 (by unfold scr; omega) (by omega) (by omega)
      have yb := YS_b (n := n) (m := m) (y := y) hT hS k
      obtain ⟨m2, a1, a2, a3⟩ := f141_s L (S := YS n m y (m 36) k) r2 (fun s a b => ⟨by rw [put_ne (by decide)]; exact i2 s a b, by rw [e9]; exact yb s a b⟩)
      have ev : ∀ t p, vls n (put m1 1 13 (y + k + 1)) t (put m1 1 13 (y + k + 1) 1 13) p = vls n m t (y + k + 1) p := fun t p => by
        rw [put_eq, vls_f (fun x i d1 d2 _ d4 _ => F2 x i d1 d2 d4)]
      obtain ⟨m3, b1, b2, b3⟩ := f56_s L (m := m2) (S := YS n m y (m 36) k) (tk := fun t => vls n m t (y + k + 1) 0) (kp := fun t => vls n m t (y + k + 1) 1) (fun s a b => by rw [a2 36 s (by unfold scr; omega), put_ne (by decide)]; exact i2 s a b) (fun s a b => by rw [(a3 s a b).1, ev]) (fun s a b => by rw [(a3 s a b).2, ev])
      unfold f120_b18
      simp only [KG L, KR, if_true]
      rw [if_pos (by omega), eY, bnd a1, bnd b1, w32_i (by omega) (by omega)]
      refine ⟨_, rfl, m3, rfl, ?_, fun s a b => b2 s a b, fun x i d1 d2 d3 => ?_⟩
      · rw [b3 1 13 (by decide) (by decide), a2 1 13 (by unfold scr; omega), put_eq]; omega
      · rw [b3 x i d3 (fun q => d1 (sc_z42 q)), a2 x i d1]; exact F2 x i d1 d2 d3)
    (by
      rintro st ⟨m1, rfl, i1, i2, i3⟩
      unfold f120_b18
      simp only [KG L, if_true]
      rw [if_neg (by omega), xr_some]
      exact ⟨_, rfl, m1, by rw [i1], i1, i2, i3⟩)
    (by rw [FU_v]; omega) (0, m) ⟨m, rfl, by rw [hy]; show y = y + 0; omega, fun s a b => rfl, fun _ _ _ _ _ => rfl⟩
  exact ⟨m1, by rw [x1, x2], x3⟩
theorem f208_s (L : Nat) {S : Int → Int} {s : Int} (h : RelT n m) (hs : 0 ≤ s ∧ s < 8) (hS : ∀ s, 0 ≤ s → s < 8 → m 138 s = S s ∧ -1 ≤ S s ∧ S s < m 82 9) : ∃ m1, f208 (GC L) RC 120 s m = some (ynx (fun t => vls n m t (m 120 45) 0) (fun t => vls n m t (m 120 45) 1) S s, m1) ∧ Sm m m1 ∧ m1 139 = m 139 := by
  generalize hy : m 120 45 = y
  have ask : ∀ (m1 : Sg) (u p : Int), Sm m m1 → 0 ≤ u → u < 8 → ¬ S u = -1 → ∃ m2, f204 (GC L) RC 120 (S u) (m1 120 45) p m1 = some (vls n m (S u) y p, m2) ∧ Sm m m2 ∧ m2 139 = m1 139 := by
    intro m1 u p e1 u0 u8 un
    obtain ⟨a1, a2, a3⟩ := hS u u0 u8
    obtain ⟨m2, r1, r2, r3⟩ := sys_s L (p := p) (y := m1 120 45) (RelT_f h (fun x i c _ _ _ _ => e1 x i c)) (t := S u) (by rw [e1 82 9 (by unfold scr; omega)]; omega)
    refine ⟨m2, ?_, Sm_t e1 r2, r3⟩
    rw [r1, vls_f (fun x i c _ _ _ _ => e1 x i c), e1 120 45 (by unfold scr; omega), hy]
  have row : ∀ (m1 : Sg) (u : Int), Sm m m1 → 0 ≤ u → u < 8 → m1 138 u = S u := fun m1 u e u0 u8 => by rw [e 138 u (by unfold scr; omega)]; exact (hS u u0 u8).1
  have el : g_rem (g_add s 7) 8 = (s + 7) % 8 := by unfold g_add; rw [w32_i (by omega) (by omega), g_rem_p (by omega)]
  have er : g_rem (g_add s 1) 8 = (s + 1) % 8 := by unfold g_add; rw [w32_i (by omega) (by omega), g_rem_p (by omega)]
  have b7 : 0 ≤ (s + 7) % 8 ∧ (s + 7) % 8 < 8 := by omega
  have b1 : 0 ≤ (s + 1) % 8 ∧ (s + 1) % 8 < 8 := by omega
  generalize hl : (s + 7) % 8 = l at *
  generalize hr : (s + 1) % 8 = r at *
  -- a neighbour asked
  have side : ∀ (m1 : Sg) (v3 v4 v5 d u : Int), Sm m m1 → 0 ≤ u → u < 8 → g_rem (g_add s d) 8 = u → 0 ≤ v5 ∧ v5 < 2 → ∃ m2, f208_44 (GC L) RC 120 s v3 v4 v5 d s 138 m1 = some (Sum.inl (if ¬ S u = -1 ∧ v4 < vls n m (S u) y 0 then (S u, vls n m (S u) y 0, v5 + 1, m2) else (v3, v4, v5 + 1, m2))) ∧ Sm m m2 ∧ m2 139 = m1 139 := by
    intro m1 v3 v4 v5 d u e u0 u8 hu h5
    unfold f208_44
    simp only [KG L, KL L, if_true]
    rw [hu, if_pos ⟨u0, u8⟩, row m1 u e u0 u8, w32_i (by omega) (by omega)]
    by_cases z : S u = -1
    · rw [if_pos z]
      exact ⟨m1, by rw [if_neg (fun q => q.1 z)], e, rfl⟩
    · rw [if_neg z]
      obtain ⟨m2, a1, a2, a3⟩ := ask m1 u 0 e u0 u8 z
      rw [bnd a1]
      refine ⟨m2, ?_, a2, a3⟩
      by_cases y1 : v4 < vls n m (S u) y 0
      · simp only [if_pos y1]
        rw [if_pos ⟨z, y1⟩]
      · simp only [if_neg y1]
        rw [if_neg (fun q => y1 q.2)]
  have loop : ∀ (m1 : Sg) (v4 : Int), Sm m m1 → m1 139 = m 139 → v4 = (if S s = -1 then -1000000 else vls n m (S s) y 0) → ∃ m2, lp (f208_b33 (GC L) RC 120 s) FU (S s, v4, 0, m1) = some ((if ¬ S r = -1 ∧ (if ¬ S l = -1 ∧ v4 < vls n m (S l) y 0 then vls n m (S l) y 0 else v4) < vls n m (S r) y 0 then S r else if ¬ S l = -1 ∧ v4 < vls n m (S l) y 0 then S l else S s), m2) ∧ Sm m m2 ∧ m2 139 = m 139 := by
    intro m1 v4 e e39 hv4
    obtain ⟨m2, a1, a2, a3⟩ := side m1 (S s) v4 0 7 l e b7.1 b7.2 el (by omega)
    have s0 : f208_b33 (GC L) RC 120 s (S s, v4, 0, m1) = some (Sum.inl (if ¬ S l = -1 ∧ v4 < vls n m (S l) y 0 then (S l, vls n m (S l) y 0, 1, m2) else (S s, v4, 1, m2))) := by
      unfold f208_b33
      simp only [KG L, KR, if_true]
      rw [if_pos (by omega)]
      exact a1
    have fin : ∀ (v3 v4' : Int) (m3 : Sg), Sm m m3 → m3 139 = m 139 → ∃ m4, lp (f208_b33 (GC L) RC 120 s) 3999 (v3, v4', 1, m3) = some ((if ¬ S r = -1 ∧ v4' < vls n m (S r) y 0 then S r else v3), m4) ∧ Sm m m4 ∧ m4 139 = m 139 := by
      intro v3 v4' m3 f1 f2
      obtain ⟨m4, c1, c2, c3⟩ := side m3 v3 v4' 1 1 r f1 b1.1 b1.2 er (by omega)
      have s1 : f208_b33 (GC L) RC 120 s (v3, v4', 1, m3) = some (Sum.inl (if ¬ S r = -1 ∧ v4' < vls n m (S r) y 0 then (S r, vls n m (S r) y 0, 2, m4) else (v3, v4', 2, m4))) := by
        unfold f208_b33
        simp only [KG L, KR, if_true]
        rw [if_pos (by omega), if_neg (by omega)]
        exact c1
      have s2 : ∀ (p q : Int), f208_b33 (GC L) RC 120 s (p, q, 2, m4) = some (Sum.inr (p, m4)) := fun p q => by
        unfold f208_b33
        simp only
        rw [if_neg (by omega), xr_some]
      refine ⟨m4, ?_, c2, c3.trans f2⟩
      rw [show (3999 : Nat) = 3998 + 1 from rfl, lp_i s1, show (3998 : Nat) = 3997 + 1 from rfl]
      by_cases z : ¬ S r = -1 ∧ v4' < vls n m (S r) y 0
      · rw [if_pos z, if_pos z]; exact lp_r (s2 _ _)
      · rw [if_neg z, if_neg z]; exact lp_r (s2 _ _)
    rw [FU_s, lp_i s0]
    by_cases z : ¬ S l = -1 ∧ v4 < vls n m (S l) y 0
    · rw [if_pos z, if_pos z, if_pos z]; exact fin _ _ m2 a2 (a3.trans e39)
    · rw [if_neg z, if_neg z, if_neg z]; exact fin _ _ m2 a2 (a3.trans e39)
  unfold f208 ynx
  simp only [KG L, KR, KL L, if_true, hl, hr]
  rw [if_pos hs, row m s (Sm_r m) hs.1 hs.2]
  by_cases z : S s = -1
  · rw [if_pos z, if_neg (fun q => q.1 z), if_pos z]
    have lo := loop m (-1000000) (Sm_r m) rfl (by rw [if_pos z])
    unfold f208_17
    rw [if_pos z]
    rw [z] at lo ⊢
    exact lo
  · rw [if_neg z]
    obtain ⟨m1, a1, a2, a3⟩ := ask m s 1 (Sm_r m) hs.1 hs.2 z
    rw [bnd a1]
    simp only
    by_cases k : vls n m (S s) y 1 = 0
    · rw [if_pos k, if_pos ⟨z, k⟩]
      exact ⟨m1, rfl, a2, a3⟩
    · rw [if_neg k, if_neg (fun q => k q.2), if_neg z]
      obtain ⟨m2, c1, c2, c3⟩ := ask m1 s 0 a2 hs.1 hs.2 z
      unfold f208_17
      simp only [KG L, if_true]
      rw [if_neg z, bnd c1]
      exact loop m2 _ c2 (c3.trans a3) (by rw [if_neg z])
end YEARS
