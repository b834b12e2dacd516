/-! CASES 19, 21, 23, 25, 27, 28: the tape, the rule, streets, marbles, counts -/
section CASES
variable {n : Int} {m : Sg}
theorem f134_s {G : Gg} {ρ : Rg} {s : Int} : (0 ≤ s ∧ s ≤ 7 → f134 G ρ s m = some 1) ∧ (¬ (0 ≤ s ∧ s ≤ 7) → f134 G ρ s m = some 0) := by
  unfold f134
  constructor
  · intro c; rw [if_neg (by omega), if_pos (by omega)]
  · intro c
    by_cases q : s < 0
    · rw [if_pos q]
    · rw [if_neg q, if_neg (by omega)]
theorem f135_s {G : Gg} {ρ : Rg} {s : Int} : (0 ≤ s ∧ s ≤ 3 → f135 G ρ s m = some 1) ∧ (¬ (0 ≤ s ∧ s ≤ 3) → f135 G ρ s m = some 0) := by
  unfold f135
  constructor
  · intro c; rw [if_neg (by omega), if_pos (by omega)]
  · intro c
    by_cases q : s < 0
    · rw [if_pos q]
    · rw [if_neg q, if_neg (by omega)]
theorem f206_s {G : Gg} {ρ : Rg} {s : Int} : (0 ≤ s ∧ s ≤ 7 → f206 G ρ s m = some 1) ∧ (¬ (0 ≤ s ∧ s ≤ 7) → f206 G ρ s m = some 0) := by
  unfold f206
  constructor
  · intro c; rw [bnd (f143_s.1 c), if_pos (Or.inr rfl)]
  · intro c; rw [bnd (f143_s.2 c), if_pos (Or.inl rfl)]
theorem f211_s {G : Gg} {ρ : Rg} {s : Int} : (0 ≤ s ∧ s ≤ 3 → f211 G ρ s m = some 1) ∧ (¬ (0 ≤ s ∧ s ≤ 3) → f211 G ρ s m = some 0) := by
  unfold f211
  constructor
  · intro c; rw [bnd (f143_s.1 c), if_pos (Or.inr rfl)]
  · intro c; rw [bnd (f143_s.2 c), if_pos (Or.inl rfl)]
theorem k19 (L : Nat) (h : Rel n m) (c v : Int) : ∃ w m1 m2, f115 (GC L) RC 1 c v m = some (w, m1) ∧ m1 0 = m 0 ∧ f186 (GC L) RC 120 c v m1 = some (w, m2) ∧ m2 0 = m 0 ∧ Rel n m2 := by
  obtain ⟨g1, g2, g3, g4⟩ := h.2.2.2.2.1
  by_cases c1 : 1 ≤ c ∧ c ≤ 8
  · have ea : g_add (m 14 1) c = m 14 1 + c := by unfold g_add; rw [w32_i (by omega) (by omega)]
    by_cases c2 : 160 < m 14 1 + c
    · refine ⟨-4, m, m, ?_, rfl, ?_, rfl, h⟩
      · unfold f115
        simp only [KG L, KR, if_true]
        rw [if_neg (by omega), if_neg (by omega), ea, if_pos c2]
      · unfold f186
        simp only [KG L, if_true]
        rw [bnd (f143_s.1 c1), if_neg (by exact n10), g1, ea, if_pos c2]
    · generalize hz : m 14 1 = z at *
      obtain ⟨q, x1, m1, x2, x3, x4, x5⟩ := lp_all (f := f115_b19 (GC L) RC 1 c v) (Q := fun q => ∃ m1, q = (z + c, m1) ∧ m1 14 1 = z + c ∧ (∀ k : Nat, (k : Int) < c → m1 16 (z + k) = byt v k) ∧ ∀ x i, ¬ (x = 16 ∧ z ≤ i) → ¬ (x = 14 ∧ i = 1) → m1 x i = m x i) (fun j st => ∃ m1, st = ((j : Int), m1) ∧ m1 14 1 = z + j ∧ (∀ k : Nat, k < j → m1 16 (z + k) = byt v k) ∧ ∀ x i, ¬ (x = 16 ∧ z ≤ i) → ¬ (x = 14 ∧ i = 1) → m1 x i = m x i) c.toNat
        (by
          rintro j st hj ⟨m1, rfl, i1, i2, i3⟩
          unfold f115_b19 f10
          simp only [KG L, KR, RPx L, Option.bind_some, if_true]
          rw [if_pos (by omega), i1, if_pos (by omega), rp_in (by omega) (by omega), put_ne (by decide), i1, w32_i (x := (j : Int) + 1) (by omega) (by omega)]
          unfold g_add
          rw [w32_i (x := z + (j : Int) + 1) (by omega) (by omega)]
          refine ⟨_, rfl, _, rfl, by rw [put_eq]; omega, fun k hk => ?_, fun x i d1 d2 => ?_⟩
          · rw [put_ne (by decide)]
            by_cases e : k = j
            · subst e; rw [put_eq]; rfl
            · rw [put_nj (by omega)]; exact i2 k (by omega)
          · rw [show put (put m1 16 (z + (j : Int)) (g_and (w32 (k_ushr v (g_mul 8 (j : Int)))) 255)) 14 1 (z + (j : Int) + 1) x i = m1 x i from by unfold put; rw [if_neg (by omega), if_neg (by omega)]]
            exact i3 x i d1 d2)
        (by
          rintro st ⟨m1, rfl, i1, i2, i3⟩
          unfold f115_b19
          simp only [KG L, KR, if_true]
          rw [if_neg (by omega), xr_some]
          exact ⟨_, rfl, m1, by rw [i1, show z + ((c.toNat : Nat) : Int) = z + c by omega], by rw [i1]; omega, fun k hk => i2 k (by omega), i3⟩)
        (by rw [FU_v]; omega) (0, m) ⟨m, rfl, by rw [hz]; omega, fun k hk => by omega, fun _ _ _ _ => rfl⟩
      have e29 : m1 120 29 = z := by rw [x5 120 29 (by omega) (by omega)]; exact g1
      obtain ⟨q2, y1, m2, y2, y3, y4, y5⟩ := lp_all (f := f186_b18 (GC L) RC 120 c v) (Q := fun q => ∃ m2, q = (z + c, m2) ∧ m2 120 29 = z + c ∧ (∀ k : Nat, (k : Int) < c → m2 137 (z + k) = byt v k) ∧ ∀ x i, ¬ (x = 137 ∧ z ≤ i) → ¬ (x = 120 ∧ i = 29) → m2 x i = m1 x i) (fun j st => ∃ m2, st = ((j : Int), m2) ∧ m2 120 29 = z + j ∧ (∀ k : Nat, k < j → m2 137 (z + k) = byt v k) ∧ ∀ x i, ¬ (x = 137 ∧ z ≤ i) → ¬ (x = 120 ∧ i = 29) → m2 x i = m1 x i) c.toNat
        (by
          rintro j st hj ⟨m2, rfl, i1, i2, i3⟩
          unfold f186_b18 f186_39
          simp only [KG L, KR, KL L, if_true]
          rw [if_pos (by omega), i1, if_pos (by omega), put_ne (by decide), i1, byt_e v j (by omega), w32_i (x := (j : Int) + 1) (by omega) (by omega)]
          unfold g_add
          rw [w32_i (by omega) (by omega)]
          refine ⟨_, rfl, _, rfl, by rw [put_eq]; omega, fun k hk => ?_, fun x i d1 d2 => ?_⟩
          · rw [put_ne (by decide)]
            by_cases e : k = j
            · subst e; rw [put_eq]
            · rw [put_nj (by omega)]; exact i2 k (by omega)
          · rw [show put (put m2 137 (z + (j : Int)) (byt v j)) 120 29 (z + (j : Int) + 1) x i = m2 x i from by unfold put; rw [if_neg (by omega), if_neg (by omega)]]
            exact i3 x i d1 d2)
        (by
          rintro st ⟨m2, rfl, i1, i2, i3⟩
          unfold f186_b18
          simp only [KG L, if_true]
          rw [if_neg (by omega), xr_some]
          exact ⟨_, rfl, m2, by rw [i1, show z + ((c.toNat : Nat) : Int) = z + c by omega], by rw [i1]; omega, fun k hk => i2 k (by omega), i3⟩)
        (by rw [FU_v]; omega) (0, m1) ⟨m1, rfl, by rw [e29]; omega, fun k hk => by omega, fun _ _ _ _ => rfl⟩
      have e14 : m2 14 1 = z + c := by rw [y5 14 1 (by omega) (by omega)]; exact x3
      obtain ⟨l1, l2⟩ := Rel_R (m' := m2) h ⟨by rw [y3, e14], by rw [e14]; omega, by rw [e14]; omega, fun i i1 i2 => by
        rw [e14] at i2
        by_cases e : i < z
        · rw [y5 137 i (by omega) (by omega), y5 16 i (by omega) (by omega), x5 137 i (by omega) (by omega), x5 16 i (by omega) (by omega)]
          exact g4 i i1 e
        · have a := y4 (i - z).toNat (by omega)
          have b := x4 (i - z).toNat (by omega)
          rw [show z + (((i - z).toNat : Nat) : Int) = i by omega] at a b
          rw [a, y5 16 i (by omega) (by omega), b]
          exact ⟨rfl, g255 _⟩⟩ (fun x i d1 d2 => by
        unfold sR at d2
        rw [y5 x i (by omega) (by omega)]
        exact x5 x i (by omega) (by omega))
      refine ⟨z + c, m1, m2, ?_, funext fun i => x5 0 i (by omega) (by omega), ?_, l1, l2⟩
      · unfold f115
        simp only [KG L, KR, if_true]
        rw [if_neg (by omega), if_neg (by omega), hz, ea, if_neg c2, x1, x2]
      · unfold f186
        simp only [KG L, if_true]
        rw [bnd (f143_s.1 c1), if_neg (by exact n10), e29, ea, if_neg c2, y1, y2]
  · refine ⟨-2, m, m, ?_, rfl, ?_, rfl, h⟩
    · unfold f115
      by_cases q : c < 1
      · rw [if_pos q]
      · rw [if_neg q, if_pos (by omega)]
    · unfold f186
      rw [bnd (f143_s.2 c1), if_pos rfl]
theorem k21 (L : Nat) (h : Rel n m) (t : Int) : ∃ w m1 m2, f117 (GC L) RC 1 t m = some (w, m1) ∧ m1 0 = m 0 ∧ f203 (GC L) RC 120 t m1 = some (w, m2) ∧ m2 0 = m 0 ∧ Rel n m2 := by
  obtain ⟨g1, g2, g3, g4, g5⟩ := h.2.2.2.2.2.1
  have eg : g_sub (m 25 5) 1 = m 25 5 - 1 := by unfold g_sub; rw [w32_i (by omega) (by omega)]
  by_cases c : 0 ≤ t ∧ t < m 25 5
  · have pf : ∀ x i, ¬ (x = 1 ∧ i = 14) → ¬ (x = 120 ∧ i = 27) → put (put m 1 14 t) 120 27 t x i = m x i := fun x i d1 d2 => by unfold put; rw [if_neg d2, if_neg d1]
    obtain ⟨l1, l2⟩ := Rel_X (m' := put (put m 1 14 t) 120 27 t) h ⟨by rw [pf 120 26 (by omega) (by omega), pf 25 5 (by omega) (by omega)]; exact g1, by rw [pf 25 5 (by omega) (by omega)]; exact g2, by rw [pf 25 5 (by omega) (by omega)]; exact g3, by rw [put_eq, put_ne (by decide), put_eq, pf 25 5 (by omega) (by omega)]; exact ⟨rfl, c⟩, fun u u1 u2 => by
      rw [pf 25 5 (by omega) (by omega)] at u2
      exact R_x1_g (g5 u u1 u2) (tbt_f (fun i => pf 135 _ (by omega) (by omega)) (pf 136 _ (by omega) (by omega))) (fun i _ _ => pf 135 _ (by omega) (by omega)) (pf 136 _ (by omega) (by omega)) (fun i _ _ => pf 27 _ (by omega) (by omega)) (pf 29 _ (by omega) (by omega)) (pf 31 _ (by omega) (by omega))⟩ (fun x i d1 d2 => pf x i (by unfold sX at d2; omega) (by unfold sX at d2; omega))
    refine ⟨m 1 14, put m 1 14 t, _, ?_, by rw [put_f (by decide)], ?_, l1, l2⟩
    · unfold f117
      simp only [KG L, KR, if_true]
      rw [if_neg (by omega), if_pos c.2]
    · unfold f203
      simp only [KG L, if_true]
      rw [put_ne (by decide), put_ne (by decide), g1, eg, bnd (f143_s.1 (by omega)), if_neg (by exact n10), g4.1]
  · refine ⟨-2, m, m, ?_, rfl, ?_, rfl, h⟩
    · unfold f117
      simp only [KG L, KR, if_true]
      by_cases q : t < 0
      · rw [if_pos q]
      · rw [if_neg q, if_neg (by omega)]
    · unfold f203
      simp only [KG L, if_true]
      rw [g1, eg, bnd (f143_s.2 (by omega)), if_pos rfl]
theorem k23 (L : Nat) (h : Rel n m) (s t : Int) : ∃ w m1 m2, f119 (GC L) RC 1 s t m = some (w, m1) ∧ m1 0 = m 0 ∧ f207 (GC L) RC 120 s t m1 = some (w, m2) ∧ m2 0 = m 0 ∧ Rel n m2 := by
  have hs := h.2.2.2.2.2.2.1
  by_cases c1 : 0 ≤ s ∧ s ≤ 7
  · have ok : -1 ≤ t ∧ t < m 82 9 → ∃ m1 m2, f119_13 (GC L) RC 1 s t m = some (m 36 s, m1) ∧ m1 0 = m 0 ∧ f207_12 (GC L) RC 120 s t m1 = some (m 36 s, m2) ∧ m2 0 = m 0 ∧ Rel n m2 ∧ ∀ u, f168 (GC L) RC 120 u m1 = f168 (GC L) RC 120 u m := by
      intro ht
      have pf : ∀ x i, ¬ (x = 36 ∧ i = s) → ¬ (x = 138 ∧ i = s) → put (put m 36 s t) 138 s t x i = m x i := fun x i d1 d2 => by unfold put; rw [if_neg d2, if_neg d1]
      obtain ⟨l1, l2⟩ := Rel_S (m' := put (put m 36 s t) 138 s t) h (fun u u1 u2 => by
        rw [pf 82 9 (by omega) (by omega), put_as, put_ne (by decide), put_ne (by decide), put_as]
        by_cases e : u = s
        · rw [if_pos e, if_pos e]; exact ⟨rfl, ht⟩
        · rw [if_neg e, if_neg e]; exact hs u u1 u2) (fun x i d1 d2 => pf x i (by unfold sS0 at d2; omega) (by unfold sS0 at d2; omega))
      refine ⟨put m 36 s t, _, ?_, by rw [put_f (by decide)], ?_, l1, l2, fun u => by unfold f168; rw [put_ne (by decide)]; rfl⟩
      · unfold f119_13
        simp only [KG L, KR, RAx L, RPx L, Option.bind_some, if_true]
        rw [ra_in (by omega) (by omega), rp_in (by omega) (by omega)]
      · unfold f207_12
        simp only [KG L, KR, KL L, if_true]
        rw [if_pos (by omega), put_ne (by decide), (hs s c1.1 (by omega)).1]
    by_cases c2 : t = -1
    · have T0 := h.2.2.1.2.1
      obtain ⟨m1, m2, r1, r2, r3, r4, r5, _⟩ := ok (by omega)
      refine ⟨m 36 s, m1, m2, ?_, r2, ?_, r4, r5⟩
      rotate_left
      · unfold f207
        rw [bnd (f206_s.1 c1), if_neg (by exact n10), if_pos c2]; exact r3
      · unfold f119
        rw [bnd (f134_s.1 c1), if_neg (by exact n10), if_pos c2]; exact r1
    · by_cases c3 : 0 ≤ t ∧ t < m 82 9
      · obtain ⟨m1, m2, r1, r2, r3, r4, r5, r6⟩ := ok (by omega)
        refine ⟨m 36 s, m1, m2, ?_, r2, ?_, r4, r5⟩
        rotate_left
        · unfold f207
          rw [bnd (f206_s.1 c1), if_neg (by exact n10), if_neg c2, if_pos (show gkb (GC L) 120 15 = true from rfl), r6, bnd ((f168_s L h).1 c3), if_neg (by exact n10)]; exact r3
        · unfold f119
          simp only [KG L, KR, if_true]
          rw [bnd (f134_s.1 c1), if_neg (by exact n10), if_neg c2, bnd ((f65_s L).1 c3), if_neg (by exact n10)]; exact r1
      · refine ⟨-5, m, m, ?_, rfl, ?_, rfl, h⟩
        · unfold f119
          simp only [KG L, KR, if_true]
          rw [bnd (f134_s.1 c1), if_neg (by exact n10), if_neg c2, bnd ((f65_s L).2 c3), if_pos rfl]
        · unfold f207
          rw [bnd (f206_s.1 c1), if_neg (by exact n10), if_neg c2, if_pos (show gkb (GC L) 120 15 = true from rfl), bnd ((f168_s L h).2 c3), if_pos rfl]
  · refine ⟨-5, m, m, ?_, rfl, ?_, rfl, h⟩
    · unfold f119
      rw [bnd (f134_s.2 c1), if_pos rfl]
    · unfold f207
      rw [bnd (f206_s.2 c1), if_pos rfl]
theorem k25 (L : Nat) (h : Rel n m) (s : Int) : ∃ w, f121 (GC L) RC 1 s m = some w ∧ f210 (GC L) RC 120 s m = some w := by
  by_cases c1 : 0 ≤ s ∧ s ≤ 7
  · refine ⟨m 36 s, ?_, ?_⟩
    · unfold f121
      simp only [KG L, KR, RAx L, Option.bind_some, if_true]
      rw [bnd (f134_s.1 c1), if_neg (by exact n10), ra_in (by omega) (by omega)]
    · unfold f210
      simp only [KG L, KR, KL L, if_true]
      rw [bnd (f206_s.1 c1), if_neg (by exact n10), if_pos (by omega), (h.2.2.2.2.2.2.1 s c1.1 (by omega)).1]
  · refine ⟨-2, ?_, ?_⟩
    · unfold f121
      rw [bnd (f134_s.2 c1), if_pos rfl]
    · unfold f210
      rw [bnd (f206_s.2 c1), if_pos rfl]
theorem k27 (L : Nat) (h : Rel n m) (s : Int) : ∃ w, f123 (GC L) RC 1 s m = some w ∧ f213 (GC L) RC 120 s m = some w := by
  by_cases c1 : 0 ≤ s ∧ s ≤ 3
  · refine ⟨m 51 s, ?_, ?_⟩
    · unfold f123
      simp only [KG L, KR, RAx L, Option.bind_some, if_true]
      rw [bnd (f135_s.1 c1), if_neg (by exact n10), ra_in (by omega) (by omega)]
    · unfold f213
      simp only [KG L, KR, KL L, if_true]
      rw [bnd (f211_s.1 c1), if_neg (by exact n10), if_pos (by omega), (h.2.2.2.2.2.2.2.1.1 s c1.1 (by omega)).1]
  · refine ⟨-2, ?_, ?_⟩
    · unfold f123
      rw [bnd (f135_s.2 c1), if_pos rfl]
    · unfold f213
      rw [bnd (f211_s.2 c1), if_pos rfl]
theorem k28 (L : Nat) (h : Rel n m) (v : Int) : ∃ w, f124 (GC L) RC 1 v m = some w ∧ f214 (GC L) RC 120 v m = some w := by
  obtain ⟨hn, h4, h10, hN, hA, hn2, hN2, ha, hc⟩ := hand_s h
  have hs := h.2.2.2.2.2.2.1
  unfold f124 f214
  simp only [KG L, KR, KL L, if_true]
  by_cases c0 : v = 0
  · rw [if_pos c0, if_pos c0]; exact ⟨m 54 0, rfl, by rw [hn2, hn]⟩
  rw [if_neg c0, if_neg c0]
  by_cases c1 : v = 1
  · rw [if_pos c1, if_pos c1, if_pos (by omega)]; exact ⟨m 54 3, rfl, by rw [ha]⟩
  rw [if_neg c1, if_neg c1]
  by_cases c2 : v = 2
  · rw [if_pos c2, if_pos c2]; exact ⟨m 82 9, rfl, by rw [h.2.2.1.1]⟩
  rw [if_neg c2, if_neg c2]
  by_cases c3 : v = 3
  · rw [if_pos c3, if_pos c3]; exact ⟨m 25 5, rfl, by rw [h.2.2.2.2.2.1.1]⟩
  rw [if_neg c3, if_neg c3]
  by_cases c4 : v = 4
  · rw [if_pos c4, if_pos c4]; exact ⟨m 14 1, rfl, by rw [h.2.2.2.2.1.1]⟩
  rw [if_neg c4, if_neg c4]
  by_cases c5 : v = 5
  · rw [if_pos c5, if_pos c5]; exact ⟨m 1 14, rfl, by rw [h.2.2.2.2.2.1.2.2.2.1.1]⟩
  rw [if_neg c5, if_neg c5]
  by_cases c6 : v = 6
  · rw [if_pos c6, if_pos c6]; exact ⟨m 1 13, rfl, by rw [h.2.2.2.2.2.2.2.2.1.1]⟩
  rw [if_neg c6, if_neg c6]
  by_cases c7 : v = 7
  · rw [if_pos c7, if_pos c7]
    have e57 : f57 (GC L) RC 34 m = some (cnt (fun s => !(decide (m 36 s = -1))) 8) := by
      unfold f57
      refine lp_eq (fun k : Nat => (cnt (fun s => !(decide (m 36 s = -1))) k, (k : Int))) 8 (fun k hk => ?_) ?_ (by rw [FU_v]; omega)
      · have cb := cnt_b (fun s => !(decide (m 36 s = -1))) k
        unfold f57_b4
        simp only [KG L, KR, RAx L, Option.bind_some, if_true]
        rw [if_pos (by omega), ra_in (by omega) (by omega), w32_i (x := (k : Int) + 1) (by omega) (by omega), w32_i (by omega) (by omega), cnt_s]
        by_cases z : m 36 k = -1
        · rw [if_pos z, decide_eq_true z, if_neg (by decide), Int.add_zero]; rfl
        · rw [if_neg z, decide_eq_false z, if_pos (by decide)]; rfl
      · unfold f57_b4
        simp only
        rw [if_neg (by omega), xr_some]
    have e214 : lp (f214_b29 (GC L) RC 120 m) FU (0, 0) = some (cnt (fun s => !(decide (m 36 s = -1))) 8) := by
      refine lp_eq (fun k : Nat => (cnt (fun s => !(decide (m 36 s = -1))) k, (k : Int))) 8 (fun k hk => ?_) ?_ (by rw [FU_v]; omega)
      · have cb := cnt_b (fun s => !(decide (m 36 s = -1))) k
        unfold f214_b29
        simp only [KG L, KR, KL L, if_true]
        unfold g_add
        rw [if_pos (by omega), if_pos (by omega), (hs k (by omega) (by omega)).1, w32_i (x := (k : Int) + 1) (by omega) (by omega), w32_i (by omega) (by omega), w32_i (by omega) (by omega), cnt_s]
        by_cases z : m 36 k = -1
        · rw [if_pos z, decide_eq_true z, if_neg (by decide)]; rfl
        · rw [if_neg z, decide_eq_false z, if_pos (by decide)]; rfl
      · unfold f214_b29
        simp only
        rw [if_neg (by omega), xr_some]
    rw [bnd e57, e214]
    exact ⟨_, rfl, rfl⟩
  rw [if_neg c7, if_neg c7]
  exact ⟨_, rfl, rfl⟩
end CASES
