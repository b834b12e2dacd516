/-! CASE 22: what a text says -/
theorem ev1_c {fv fv' : Int → Int} (h : ∀ j, 0 ≤ j → j < 6 → fv j = fv' j) (st : List Int) (d : Int) : ev1 fv st d = ev1 fv' st d := by
  unfold ev1
  by_cases c : 0 ≤ d
  · rw [if_pos c, if_pos c]
  · rw [if_neg c, if_neg c]
    by_cases c2 : -6 ≤ d
    · rw [if_pos c2, if_pos c2, h _ (by omega) (by omega)]
    · rw [if_neg c2, if_neg c2]
theorem evl_c {fv fv' : Int → Int} (h : ∀ j, 0 ≤ j → j < 6 → fv j = fv' j) : ∀ (cd st : List Int), evl fv st cd = evl fv' st cd
  | [], _ => rfl
  | d :: cd, st => by
    show evl fv (ev1 fv st d) cd = evl fv' (ev1 fv' st d) cd
    rw [ev1_c h, evl_c h cd]
/-- what is told of a telling in a year -/
def fct (n : Int) (m : Sg) (t y : Int) : Int → Int := fun j => if j = 0 then y else if j = 1 then ch n 0 (WT n m t) else if j = 2 then ch n 1 (WT n m t) else if j = 3 then ch n 2 (WT n m t) else if j = 4 then bcv (m 88 t) else m 92 t
/-- what a part of the rule comes to -/
def vls (n : Int) (m : Sg) (t y p : Int) : Int := (evl (fct n m t y) [] (prt (tpr m (m 1 14)).2.2 (ttl m (m 1 14)) p)).headD 0
def RelT (n : Int) (m : Sg) : Prop := R_n n m ∧ R_t n m ∧ R_x m
theorem RelT_f {n : Int} {m m' : Sg} (h : RelT n m) (e : ∀ x i, ¬ scr x i → ¬ (x = 1 ∧ i = 13) → ¬ (x = 120 ∧ i = 45) → ¬ x = 36 → ¬ x = 138 → m' x i = m x i) : RelT n m' := by
  obtain ⟨h1, h2, h3⟩ := h
  have n10 := h1.2.2.2.2.2.2.2.2.2
  exact ⟨R_n_f h1 (fun x i c => e x i (by unfold sN at c; unfold scr; omega) (by unfold sN at c; omega) (by unfold sN at c; omega) (by unfold sN at c; omega) (by unfold sN at c; omega)), R_t_f n10 h2 (fun x i c => e x i (by unfold sT at c; unfold scr; omega) (by unfold sT at c; omega) (by unfold sT at c; omega) (by unfold sT at c; omega) (by unfold sT at c; omega)), R_x_f h3 (fun x i c => e x i (by unfold sX at c; unfold scr; omega) (by unfold sX at c; omega) (by unfold sX at c; omega) (by unfold sX at c; omega) (by unfold sX at c; omega))⟩
theorem vls_f {n : Int} {m m' : Sg} {t y p : Int} (e : ∀ x i, ¬ scr x i → ¬ (x = 1 ∧ i = 13) → ¬ (x = 120 ∧ i = 45) → ¬ x = 36 → ¬ x = 138 → m' x i = m x i) : vls n m' t y p = vls n m t y p := by
  have r1 : ∀ x, x = 135 ∨ x = 136 ∨ x = 88 ∨ x = 92 → m' x = m x := fun x hx => funext fun i => e x i (by unfold scr; omega) (by omega) (by omega) (by omega) (by omega)
  have r2 : m' 1 14 = m 1 14 := e 1 14 (by unfold scr; omega) (by omega) (by omega) (by omega) (by omega)
  have r3 : WT n m' t = WT n m t := WT_f (fun x i c => e x i (by unfold sT at c; unfold scr; omega) (by unfold sT at c; omega) (by unfold sT at c; omega) (by unfold sT at c; omega) (by unfold sT at c; omega))
  have r4 : ∀ u, tbt m' u = tbt m u := fun u => by unfold tbt; rw [r1 135 (by omega), r1 136 (by omega)]
  unfold vls tpr ttl fct
  rw [r2, r4, r1 136 (by omega), r3, r1 88 (by omega), r1 92 (by omega)]
section SAYS
variable {n : Int} {m : Sg}
theorem telT (h : RelT n m) {t : Int} (ht : 0 ≤ t ∧ t < m 82 9) : t < 12 ∧ (0 ≤ m 88 t ∧ m 88 t < 32) ∧ (∃ d, alw (m 88 t) d) ∧ R_t1 n m t := by
  obtain ⟨h1, h2, h3, h4, h5⟩ := h.2.1
  have q := h4 t ht.1 ht.2
  exact ⟨by omega, by have := q.2.1; omega, alw_e q.2.1.2.1 q.2.1.2.2, q⟩
theorem com_s (L : Nat) (h : RelT n m) {t p : Int} (ht : 0 ≤ t ∧ t < m 82 9) : ∃ m1, f140 (GC L) RC 1 t p m = some (vls n m t (m 1 13) p, m1) ∧ Sm m m1 ∧ ∀ x i, ¬ x = 53 → ¬ x = 33 → ¬ (x = 25 ∧ i = 4) → m1 x i = m x i := by
  obtain ⟨q1, q2, q3, q4⟩ := telT h ht
  obtain ⟨x1, x2, x3, x4, x5⟩ := h.2.2
  obtain ⟨r1, r2, r3, r4, r5⟩ := x5 (m 1 14) x4.2.1 x4.2.2
  obtain ⟨w1, w2, w3⟩ := q4.2.2.2.2.2
  have ei : ∀ j, 1 ≤ j → j ≤ 3 → g_add (g_mul t 6) j = 6 * t + j := fun j j1 j2 => by
    unfold g_add g_mul
    rw [w32_i (x := t * 6) (by omega) (by omega), w32_i (by omega) (by omega)]
    omega
  generalize hm1 : put (put (put (put (put (put m 53 1 (ch n 0 (WT n m t))) 53 2 (ch n 1 (WT n m t))) 53 3 (ch n 2 (WT n m t))) 53 4 (bcv (m 88 t))) 53 5 (m 92 t)) 53 0 (m 1 13) = m1
  have e53 : ∀ x i, ¬ x = 53 → m1 x i = m x i := fun x i c => by rw [← hm1, put_ne c, put_ne c, put_ne c, put_ne c, put_ne c, put_ne c]
  have f53 : ∀ j, 0 ≤ j → j < 6 → m1 53 j = fct n m t (m 1 13) j := fun j j1 j2 => by
    rw [← hm1]
    unfold fct
    by_cases z0 : j = 0
    · rw [z0, put_eq, if_pos rfl]
    rw [put_nj z0, if_neg z0]
    by_cases z1 : j = 1
    · rw [z1, put_nj (by omega), put_nj (by omega), put_nj (by omega), put_nj (by omega), put_eq, if_pos rfl]
    rw [if_neg z1]
    by_cases z2 : j = 2
    · rw [z2, put_nj (by omega), put_nj (by omega), put_nj (by omega), put_eq, if_pos rfl]
    rw [if_neg z2]
    by_cases z3 : j = 3
    · rw [z3, put_nj (by omega), put_nj (by omega), put_eq, if_pos rfl]
    rw [if_neg z3]
    by_cases z4 : j = 4
    · rw [z4, put_nj (by omega), put_eq, if_pos rfl]
    rw [if_neg z4, show j = 5 by omega, put_eq]
  have len4 : (tpr m (m 1 14)).2.2.length ≤ 160 := r4
  have tl : ttl m (m 1 14) ≤ (tpr m (m 1 14)).2.2.length := by
    obtain ⟨v, m9, s1, s2, s3, s4⟩ := f201_s L (m0 := m) (x := m 1 14) (which := 0) (sz := m 136 (m 1 14)) (b := tbt m (m 1 14)) ⟨x4.2.1, by omega⟩ rfl r1.1 r1.2 (fun i i1 i2 => by
      unfold tbt
      rw [if_pos ⟨i1, i2⟩]
      exact ⟨rfl, r2 i i1 i2⟩)
    exact (s3 r3).2.2
  have hX : XC m1 (m 1 14) (tpr m (m 1 14)).2.2 (ttl m (m 1 14)) := ⟨by rw [e53 29 _ (by decide)]; exact r5.1, by rw [e53 31 _ (by decide)]; exact r5.2.1, fun i hi => by rw [e53 27 _ (by decide)]; exact r5.2.2 i hi⟩
  obtain ⟨m2, s1, s2⟩ := f82_s L (m0 := m1) (t := m 1 14) (part := p) (fv := fct n m t (m 1 13)) ⟨x4.2.1, by omega⟩ len4 tl hX f53
  refine ⟨m2, ?_, fun x i c => ?_, fun x i c1 c2 c3 => (s2 x i c2 c3).trans (e53 x i c1)⟩
  · have e72 : f72 (GC L) RC 82 t 52 m = some (put (put (put (put (put m 53 1 (ch n 0 (WT n m t))) 53 2 (ch n 1 (WT n m t))) 53 3 (ch n 2 (WT n m t))) 53 4 (bcv (m 88 t))) 53 5 (m 92 t)) := by
      unfold f72
      simp only [KG L, KR, RAx L, RPx L, Option.bind_some, if_true]
      rw [ei 1 (by omega) (by omega), ei 2 (by omega) (by omega), ei 3 (by omega) (by omega)]
      simp only [rp_in (n := 6) (p := 1) (by omega : (0 : Int) ≤ 1) (by omega : (1 : Int) < 6), rp_in (n := 6) (p := 2) (by omega : (0 : Int) ≤ 2) (by omega : (2 : Int) < 6), rp_in (n := 6) (p := 3) (by omega : (0 : Int) ≤ 3) (by omega : (3 : Int) < 6)]
      rw [ra_in (n := 72) (p := 6 * t + 1) (by omega) (by omega), ra_in (n := 72) (p := 6 * t + 2) (by omega) (by omega), ra_in (n := 72) (p := 6 * t + 3) (by omega) (by omega), ra_in (n := 12) ht.1 q1]
      simp only [put_ne (show ¬ (96 : Nat) = 53 by decide), put_ne (show ¬ (88 : Nat) = 53 by decide)]
      rw [w1, w2, w3, bnd (f222_s (by omega) (by omega))]
      try simp only [Option.bind_some]
      rw [rp_in (by omega) (by omega), ra_in (n := 12) ht.1 q1]
      try simp only [Option.bind_some]
      rw [rp_in (by omega) (by omega)]
      simp only [put_ne (show ¬ (92 : Nat) = 53 by decide)]
    unfold f140
    simp only [KG L, KR, if_true]
    rw [bnd e72]
    simp only [RPx L, Option.bind_some]
    rw [rp_in (by omega) (by omega)]
    simp only [put_ne (show ¬ (1 : Nat) = 53 by decide)]
    rw [hm1, bnd s1]
    rfl
  · rw [s2 x i (fun q => c (sc_z33 q)) (fun q => c (sc_z25 q))]
    exact e53 x i (fun q => c (sc_z53 q))
theorem sys_s (L : Nat) (h : RelT n m) {t p y : Int} (ht : 0 ≤ t ∧ t < m 82 9) : ∃ m1, f204 (GC L) RC 120 t y p m = some (vls n m t y p, m1) ∧ Sm m m1 ∧ m1 139 = m 139 := by
  obtain ⟨q1, q2, q3, q4⟩ := telT h ht
  obtain ⟨x1, x2, x3, x4, x5⟩ := h.2.2
  obtain ⟨r1, r2, r3, r4, r5⟩ := x5 (m 1 14) x4.2.1 x4.2.2
  obtain ⟨hn54, hn59, _, _, _, _, hn82, hn2, h4, h10⟩ := h.1
  obtain ⟨m1, a1, a2, a3, a4⟩ := f174_s L (t := t) (q := 13) hn2 h4 h10 ⟨ht.1, q1⟩ (by omega)
  have z90 : m 130 t = m 90 t := q4.2.2.1.1
  have rows : ∀ i, 0 ≤ i → i < n → KM m1 13 i = pz (m 90 t) (KX m t) i ∧ NM m1 13 i = pz (m 90 t) (NX m t) i := fun i i1 i2 => by
    obtain ⟨b1, b2⟩ := a2 i i1 i2
    have z := q4.1 i i1 i2
    unfold KM NM
    rw [b1, b2, z90]
    exact ⟨pz_c z.1, pz_c z.2.1⟩
  have e123 : m1 123 13 = m 88 t := by rw [a3]; exact q4.2.1.1
  obtain ⟨m2, b1, b2, b3⟩ := tell_s L (m0 := m1) (t := 13) (by rw [a4 120 1 (by omega) (by omega) (by omega)]; exact hn2) h4 h10 (by omega) (by rw [e123]; exact q3) (fun i i1 i2 => by
    rw [(rows i i1 i2).2]
    have z := q4.1 i i1 i2
    have := pz_b (g := m 90 t) (i := i) (F := NX m t) (b := 9) (by omega) ⟨z.2.2.2.2.1, z.2.2.2.2.2⟩
    omega)
  have eW : ∀ w, ch n w (m2 124) = ch n w (WT n m t) := fun w => ch_c (fun i i1 i2 => by
    rw [b3 i i1 i2, e123]
    unfold WT
    rw [TT_cg (by omega) rows])
  have F2 : ∀ x i, ¬ scr x i → m2 x i = m x i := fun x i c => by
    rw [b2 x i (fun q => c (sc_z124 (by omega))) (fun q => c (sc_z124 (by omega))) (fun q => c (sc_z120 (by omega)))]
    exact a4 x i (fun q => c (sc_z121 (by omega))) (fun q => c (sc_z121 (by omega))) (fun q => c (sc_z123 q))
  have n2 : m2 120 1 = n := by rw [F2 120 1 (by unfold scr; omega)]; exact hn2
  have f157 : ∀ (mm : Sg) (w : Int), mm 120 1 = n → mm 124 = m2 124 → f157 (GC L) RC 120 w mm = some (ch n w (WT n m t)) := fun mm w z1 z2 => by rw [f157_s L h4 h10 z1, z2, eW]
  generalize hm3 : put (put (put (put (put (put m2 120 39 y) 120 40 (ch n 0 (WT n m t))) 120 41 (ch n 1 (WT n m t))) 120 42 (ch n 2 (WT n m t))) 120 43 (bcv (m 88 t))) 120 44 (m 92 t) = m3
  have F3 : ∀ x i, ¬ scr x i → m3 x i = m x i := fun x i c => by
    have d : ¬ (x = 120 ∧ 39 ≤ i ∧ i ≤ 44) := fun q => c (sc_z120 (by omega))
    rw [← hm3, show put (put (put (put (put (put m2 120 39 y) 120 40 (ch n 0 (WT n m t))) 120 41 (ch n 1 (WT n m t))) 120 42 (ch n 2 (WT n m t))) 120 43 (bcv (m 88 t))) 120 44 (m 92 t) x i = m2 x i from by unfold put; rw [if_neg (by omega), if_neg (by omega), if_neg (by omega), if_neg (by omega), if_neg (by omega), if_neg (by omega)]]
    exact F2 x i c
  have fv : ∀ j, 0 ≤ j → j < 6 → fvm m3 j = fct n m t y j := fun j j1 j2 => by
    unfold fvm fct
    rw [if_pos j1, ← hm3]
    by_cases z0 : j = 0
    · rw [z0, if_pos rfl, put_nj (by omega), put_nj (by omega), put_nj (by omega), put_nj (by omega), put_nj (by omega)]; exact put_eq _ _ _ _
    rw [if_neg z0]
    by_cases z1 : j = 1
    · rw [z1, if_pos rfl, put_nj (by omega), put_nj (by omega), put_nj (by omega), put_nj (by omega)]; exact put_eq _ _ _ _
    rw [if_neg z1]
    by_cases z2 : j = 2
    · rw [z2, if_pos rfl, put_nj (by omega), put_nj (by omega), put_nj (by omega)]; exact put_eq _ _ _ _
    rw [if_neg z2]
    by_cases z3 : j = 3
    · rw [z3, if_pos rfl, put_nj (by omega), put_nj (by omega)]; exact put_eq _ _ _ _
    rw [if_neg z3]
    by_cases z4 : j = 4
    · rw [z4, if_pos rfl, put_nj (by omega)]; exact put_eq _ _ _ _
    rw [if_neg z4, show j = 5 by omega]; exact put_eq _ _ _ _
  have eR : m3 120 27 = m 1 14 := by rw [F3 120 27 (by unfold scr; omega)]; exact x4.1
  obtain ⟨v, m4, s1, s2, s3, s4⟩ := f201_s L (m0 := m3) (x := m 1 14) (which := p) (sz := m 136 (m 1 14)) (b := tbt m (m 1 14)) ⟨x4.2.1, by omega⟩ (F3 136 _ (by unfold scr; omega)) r1.1 r1.2 (fun i i1 i2 => by
    rw [F3 135 _ (by unfold scr; omega)]
    unfold tbt
    rw [if_pos ⟨i1, i2⟩]
    exact ⟨rfl, r2 i i1 i2⟩)
  have hv : vls n m t y p = v := by
    have z := (s3 r3).2.1
    have z2 : evl (fct n m t y) [] (prt (tpr m (m 1 14)).2.2 (ttl m (m 1 14)) p) = [v] := by
      rw [← evl_c fv]; exact z
    unfold vls
    rw [z2]
    rfl
  refine ⟨m4, ?_, fun x i c => by rw [s2 x i (fun q => c (sc_z120 (by omega)))]; exact F3 x i c, funext fun i => ?_⟩
  rotate_left
  · rw [s2 139 i (by omega), ← hm3, put_ne (by decide), put_ne (by decide), put_ne (by decide), put_ne (by decide), put_ne (by decide), put_ne (by decide), b2 139 i (by decide) (by decide) (by omega)]
    exact a4 139 i (by omega) (by omega) (by omega)
  have b88 : m2 123 t = m 88 t := by rw [F2 123 t (by unfold scr; omega)]; exact q4.2.1.1
  have b92 : m2 128 t = m 92 t := by rw [F2 128 t (by unfold scr; omega)]; exact q4.2.2.2.1.1
  have z0 := f157 (put m2 120 39 y) 0 (by rw [put_nj (by decide)]; exact n2) (put_f (by decide))
  have z1 := f157 (put (put m2 120 39 y) 120 40 (ch n 0 (WT n m t))) 1 (by rw [put_nj (by decide), put_nj (by decide)]; exact n2) (by rw [put_f (by decide), put_f (by decide)])
  have z2 := f157 (put (put (put m2 120 39 y) 120 40 (ch n 0 (WT n m t))) 120 41 (ch n 1 (WT n m t))) 2 (by rw [put_nj (by decide), put_nj (by decide), put_nj (by decide)]; exact n2) (by rw [put_f (by decide), put_f (by decide), put_f (by decide)])
  unfold f204 f204_14 f204_19 f204_24 f204_31 f204_37
  simp only [KG L, KR, KL L, if_true]
  rw [bnd a1, bnd b1, bnd z0, bnd z1, bnd z2, if_pos (show 0 ≤ t ∧ t < 14 by omega)]
  simp only [put_ne (show ¬ (123 : Nat) = 120 by decide), put_ne (show ¬ (128 : Nat) = 120 by decide)]
  rw [b88, bnd (f169_s (by omega) (by omega)), if_pos ⟨ht.1, q1⟩, b92, hm3, eR, bnd s1, hv]
theorem k22 (L : Nat) (h : Rel n m) (t p : Int) : ∃ w m1 m2, f118 (GC L) RC 1 t p m = some (w, m1) ∧ m1 0 = m 0 ∧ f205 (GC L) RC 120 t p m1 = some (w, m2) ∧ m2 0 = m 0 ∧ Rel n m2 := by
  by_cases c1 : 0 ≤ t ∧ t < m 82 9
  · by_cases c2 : 0 ≤ p ∧ p ≤ 1
    · obtain ⟨m1, r1, r2, _⟩ := com_s L (p := p) ⟨h.1, h.2.2.1, h.2.2.2.2.2.1⟩ c1
      obtain ⟨f1, f2⟩ := fin_s h r2
      have e9 : m1 82 9 = m 82 9 := r2 82 9 (by unfold scr; omega)
      have c1' : 0 ≤ t ∧ t < m1 82 9 := by rw [e9]; exact c1
      obtain ⟨m2, s1, s2, _⟩ := sys_s L (p := p) (y := m1 120 45) ⟨f2.1, f2.2.2.1, f2.2.2.2.2.2.1⟩ c1'
      obtain ⟨g1, g2⟩ := fin_s f2 s2
      have ev : vls n m1 t (m1 120 45) p = vls n m t (m 1 13) p := by
        rw [vls_f (fun x i c _ _ _ _ => r2 x i c), r2 120 45 (by unfold scr; omega), h.2.2.2.2.2.2.2.2.1.1]
      rw [ev] at s1
      refine ⟨vls n m t (m 1 13) p, m1, m2, ?_, f1, ?_, g1.trans f1, g2⟩
      · unfold f118
        simp only [KG L, KR, if_true]
        rw [bnd ((f65_s L).1 c1), if_neg (by exact n10), if_neg (by omega), if_neg (by omega), bnd r1]
      · unfold f205
        rw [if_pos (show gkb (GC L) 120 15 = true from rfl), bnd ((f168_s L f2).1 c1'), if_neg (by exact n10), bnd (f143_s.1 c2), if_neg (by exact n10), bnd s1]
    · refine ⟨-4611686018427387904, m, m, ?_, rfl, ?_, rfl, h⟩
      · unfold f118
        simp only [KG L, KR, if_true]
        rw [bnd ((f65_s L).1 c1), if_neg (by exact n10)]
        by_cases q : p < 0
        · rw [if_pos q]
        · rw [if_neg q, if_pos (by omega)]
      · unfold f205
        rw [if_pos (show gkb (GC L) 120 15 = true from rfl), bnd ((f168_s L h).1 c1), if_neg (by exact n10), bnd (f143_s.2 c2), if_pos rfl]
  · refine ⟨-4611686018427387904, m, m, ?_, rfl, ?_, rfl, h⟩
    · unfold f118
      simp only [KG L, KR, if_true]
      rw [bnd ((f65_s L).2 c1), if_pos rfl]
    · unfold f205
      rw [if_pos (show gkb (GC L) 120 15 = true from rfl), bnd ((f168_s L h).2 c1), if_pos rfl]
end SAYS
