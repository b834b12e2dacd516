/-! CASES 11, 13, 18: gaps, takings, quarrels -/
section CASES
variable {n : Int} {m : Sg}
theorem k11 (L : Nat) (h : Rel n m) (t s : Int) : ∃ w m1 m2, f107 (GC L) RC 1 t s m = some (w, m1) ∧ m1 0 = m 0 ∧ f172 (GC L) RC 120 t s m1 = some (w, m2) ∧ m2 0 = m 0 ∧ Rel n m2 := by
  obtain ⟨hn, h4, h10, hN, hA, hn2, hN2, ha, hc⟩ := hand_s h
  obtain ⟨g1, g2, g3, g4, g5⟩ := h.2.2.1
  have h82 := h.1.2.2.2.2.2.2.1
  have h59 := h.1.2.1
  have p38 := f38_h L (s := s) hn
  by_cases c1 : 0 ≤ t ∧ t < m 82 9
  · have q := tel_a h c1
    by_cases c2 : 0 ≤ s ∧ s < n
    · have p67 := f67_s L h82 ⟨c1.1, q.1⟩ c2.1 c2.2
      by_cases c3 : gp (m 90 t) s
      · refine ⟨-3, m, m, ?_, rfl, ?_, rfl, h⟩
        · unfold f107
          simp only [KG L, KR, if_true]
          rw [bnd ((f65_s L).1 c1), if_neg (by exact n10), bnd (p38.1 c2), if_neg (by exact n10), bnd (p67.1 c3), if_neg (by exact n10)]
        · unfold f172
          simp only [KG L, KR, KL L, if_true]
          rw [bnd ((f168_s L h).1 c1), if_neg (by exact n10), bnd ((f146_s L hn2 h4 h10).1 c2), if_neg (by exact n10), bnd ((f171_s L ⟨c1.1, q.1⟩).1 (show gp (m 130 t) s by rw [q.2.2.2.2.1]; exact c3)), if_neg (by exact n10)]
      · obtain ⟨o1, o2⟩ := or_s q.2.2.2.2.2.1 (show 0 ≤ s ∧ s < 10 by omega)
        generalize hG : g_or (m 90 t) (g_shl 1 s) = G at *
        have e68 : f68 (GC L) RC 82 t s m = some (put m 90 t G) := by
          unfold f68
          simp only [KG L, KR, RAx L, RPx L, Option.bind_some, if_true]
          rw [if_neg (by omega), h82, if_pos c2.2, ra_in c1.1 q.1, rp_in c1.1 q.1, hG]
        obtain ⟨m2, s1, s2, s3⟩ := wgh_s L (m := put m 90 t G) (t := t) (by rw [put_ne (by decide)]; exact h82) (by rw [put_ne (by decide)]; exact h59) h4 h10 ⟨c1.1, q.1⟩ (by rw [put_ne (by decide)]; exact q.2.2.1) (fun i a1 a2 => by
          rw [put_ne (by decide)]
          have := (q.2.2.2.2.2.2.2.2.2 i a1 a2).2.2
          unfold NX at this
          exact this)
        have A : ∀ x i, ¬ scr x i → ¬ (x = 96 ∧ 6 * t + 1 ≤ i ∧ i ≤ 6 * t + 3) → ¬ (x = 90 ∧ i = t) → m2 x i = m x i := fun x i d1 d2 d3 => (s3 x i d1 d2).trans (by unfold put; rw [if_neg d3])
        have e90 : m2 90 t = G := by rw [s3 90 _ (by unfold scr; omega) (by omega), put_eq]
        have B : ∀ x i, ¬ scr x i → ¬ (x = 96 ∧ 6 * t + 1 ≤ i ∧ i ≤ 6 * t + 3) → ¬ (x = 90 ∧ i = t) → ¬ (x = 130 ∧ i = t) → put m2 130 t G x i = m x i := fun x i d1 d2 d3 d4 => by
          rw [show put m2 130 t G x i = m2 x i from by unfold put; rw [if_neg d4]]
          exact A x i d1 d2 d3
        have eW : WT n (put m2 130 t G) t = WT n (put m 90 t G) t := WT_g (by omega) (fun i a1 a2 => ⟨by show put m2 130 t G 84 _ = put m 90 t G 84 _; rw [B 84 _ (by unfold scr; omega) (by omega) (by omega) (by omega), put_ne (by decide)], by show put m2 130 t G 86 _ = put m 90 t G 86 _; rw [B 86 _ (by unfold scr; omega) (by omega) (by omega) (by omega), put_ne (by decide)]⟩) (by rw [put_ne (by decide), e90, put_eq]) (by rw [B 88 _ (by unfold scr; omega) (by omega) (by omega) (by omega), put_ne (by decide)])
        have e9 : put m2 130 t G 82 9 = m 82 9 := B 82 9 (by unfold scr; omega) (by omega) (by omega) (by omega)
        have hT1 : R_t n (put m2 130 t G) := by
          refine ⟨by rw [e9, B 120 15 (by unfold scr; omega) (by omega) (by omega) (by omega)]; exact g1, by rw [e9]; exact g2, by rw [e9]; exact g3, fun u v1 v2 => ?_, fun u v1 v2 => ?_⟩
          · rw [e9] at v2
            obtain ⟨r1, r2, r3, r4, r5, r6⟩ := g4 u v1 v2
            by_cases e : u = t
            · subst e
              refine ⟨fun i a1 a2 => ?_, ?_, ?_, ?_, ?_, ?_, ?_, ?_⟩
              · rw [B 121 _ (by unfold scr; omega) (by omega) (by omega) (by omega), B 122 _ (by unfold scr; omega) (by omega) (by omega) (by omega), B 84 _ (by unfold scr; omega) (by omega) (by omega) (by omega), B 86 _ (by unfold scr; omega) (by omega) (by omega) (by omega)]
                exact r1 i a1 a2
              · rw [B 123 _ (by unfold scr; omega) (by omega) (by omega) (by omega), B 88 _ (by unfold scr; omega) (by omega) (by omega) (by omega)]; exact r2
              · rw [put_eq, put_ne (by decide), e90]; exact ⟨rfl, o1, o2⟩
              · rw [B 128 _ (by unfold scr; omega) (by omega) (by omega) (by omega), B 92 _ (by unfold scr; omega) (by omega) (by omega) (by omega)]; exact r4
              · rw [B 129 _ (by unfold scr; omega) (by omega) (by omega) (by omega), B 94 _ (by unfold scr; omega) (by omega) (by omega) (by omega)]; exact r5
              · rw [put_ne (by decide), eW]; exact s2.1
              · rw [put_ne (by decide), eW]; exact s2.2.1
              · rw [put_ne (by decide), eW]; exact s2.2.2
            · exact R_t1_g (by omega) (g4 u v1 v2) (fun i a1 a2 => ⟨B 84 _ (by unfold scr; omega) (by omega) (by omega) (by omega), B 86 _ (by unfold scr; omega) (by omega) (by omega) (by omega), B 121 _ (by unfold scr; omega) (by omega) (by omega) (by omega), B 122 _ (by unfold scr; omega) (by omega) (by omega) (by omega)⟩) (B 88 _ (by unfold scr; omega) (by omega) (by omega) (by omega)) (B 90 _ (by unfold scr; omega) (by omega) (by omega) (by omega)) (B 92 _ (by unfold scr; omega) (by omega) (by omega) (by omega)) (B 94 _ (by unfold scr; omega) (by omega) (by omega) (by omega)) (fun j j1 j2 => B 96 _ (by unfold scr; omega) (by omega) (by omega) (by omega)) (B 123 _ (by unfold scr; omega) (by omega) (by omega) (by omega)) (B 128 _ (by unfold scr; omega) (by omega) (by omega) (by omega)) (B 129 _ (by unfold scr; omega) (by omega) (by omega) (by omega)) (B 130 _ (by unfold scr; omega) (by omega) (by omega) (by omega))
          · rw [e9] at v1
            rw [B 90 _ (by unfold scr; omega) (by omega) (by omega) (by omega)]
            exact g5 u v1 v2
        obtain ⟨l1, l2⟩ := Rel_T1 h hT1 (fun x i d1 d2 => B x i d1 (by unfold sT0 at d2; omega) (by unfold sT0 at d2; omega) (by unfold sT0 at d2; omega))
        have e130 : m2 130 t = m 90 t := by rw [A 130 _ (by unfold scr; omega) (by omega) (by omega)]; exact q.2.2.2.2.1
        have en2 : m2 120 1 = n := by rw [A 120 1 (by unfold scr; omega) (by omega) (by omega)]; exact hn2
        refine ⟨bcv G, m2, put m2 130 t G, ?_, funext fun i => A 0 i (by unfold scr; omega) (by omega) (by omega), ?_, l1, l2⟩
        · unfold f107
          simp only [KG L, KR, if_true]
          rw [bnd ((f65_s L).1 c1), if_neg (by exact n10), bnd (p38.1 c2), if_neg (by exact n10), bnd (p67.2 c3), if_pos rfl, bnd e68, bnd s1]
          unfold f69
          simp only [KG L, KR, RAx L, Option.bind_some, if_true]
          rw [ra_in c1.1 q.1, e90, bnd (f222_s o1 o2)]
          rfl
        · have p168 : f168 (GC L) RC 120 t m2 = some 1 := by
            have := (f168_s L h).1 c1
            unfold f168 at this ⊢
            rw [A 120 15 (by unfold scr; omega) (by omega) (by omega)]
            exact this
          unfold f172
          simp only [KG L, KR, KL L, if_true]
          rw [bnd p168, if_neg (by exact n10), bnd ((f146_s L en2 h4 h10).1 c2), if_neg (by exact n10), bnd ((f171_s L ⟨c1.1, q.1⟩).2 (show ¬ gp (m2 130 t) s by rw [e130]; exact c3)), if_pos rfl, if_pos ⟨c1.1, q.1⟩, put_eq, e130, hG, bnd (f169_s o1 o2)]
    · refine ⟨-2, m, m, ?_, rfl, ?_, rfl, h⟩
      · unfold f107
        simp only [KG L, KR, if_true]
        rw [bnd ((f65_s L).1 c1), if_neg (by exact n10), bnd (p38.2 c2), if_pos rfl]
      · unfold f172
        rw [if_pos (show gkb (GC L) 120 15 = true from rfl), bnd ((f168_s L h).1 c1), if_neg (by exact n10), bnd ((f146_s L hn2 h4 h10).2 c2), if_pos rfl]
  · refine ⟨-2, m, m, ?_, rfl, ?_, rfl, h⟩
    · unfold f107
      simp only [KG L, KR, if_true]
      rw [bnd ((f65_s L).2 c1), if_pos rfl]
    · unfold f172
      rw [if_pos (show gkb (GC L) 120 15 = true from rfl), bnd ((f168_s L h).2 c1), if_pos rfl]
theorem pz_b {g i b : Int} {F : Int → Int} (hb : 0 ≤ b) (h : 0 ≤ F i ∧ F i ≤ b) : 0 ≤ pz g F i ∧ pz g F i ≤ b := by
  by_cases c : gp g i
  · rw [pz_g c]; omega
  · rw [pz_n c]; exact h
theorem k13 (L : Nat) (h : Rel n m) (t : Int) : ∃ w m1 m2, f109 (GC L) RC 1 t m = some (w, m1) ∧ m1 0 = m 0 ∧ f175 (GC L) RC 120 t m1 = some (w, m2) ∧ m2 0 = m 0 ∧ Rel n m2 := by
  obtain ⟨hn, h4, h10, hN, hA, hn2, hN2, ha, hc⟩ := hand_s h
  have h82 := h.1.2.2.2.2.2.2.1
  by_cases c1 : 0 ≤ t ∧ t < m 82 9
  · have q := tel_a h c1
    obtain ⟨m1, r1, r2, r3, r4⟩ := f70_54 L h82 h4 h10 ⟨c1.1, q.1⟩
    have e90 : m1 90 t = m 90 t := r4 90 t (by decide) (by decide) (by omega)
    have e130 : m1 130 t = m 90 t := by rw [r4 130 t (by decide) (by decide) (by omega)]; exact q.2.2.2.2.1
    have eK : KM m1 t = KM m t := funext fun i => r4 121 _ (by decide) (by decide) (by omega)
    have eN : NM m1 t = NM m t := funext fun i => r4 122 _ (by decide) (by decide) (by omega)
    obtain ⟨m2, s1, s2, s3, s4⟩ := f174_s L (m0 := m1) (t := t) (q := 12) (by rw [r4 120 1 (by decide) (by decide) (by omega)]; exact hn2) h4 h10 ⟨c1.1, q.1⟩ (by omega)
    have p168 : f168 (GC L) RC 120 t m1 = some 1 := by
      have := (f168_s L h).1 c1
      unfold f168 at this ⊢
      rw [r4 120 15 (by decide) (by decide) (by omega)]
      exact this
    have f56 : ∀ x, x = 56 ∨ x = 58 → m2 x = m1 x := fun x hx => funext fun i => s4 x i (by omega) (by omega) (by omega)
    have vals : ∀ i, 0 ≤ i → i < n → pz (m1 130 t) (KM m1 t) i = pz (m 90 t) (fun i => m 84 (10 * t + i)) i ∧ pz (m1 130 t) (NM m1 t) i = pz (m 90 t) (fun i => m 86 (10 * t + i)) i := fun i a1 a2 => by
      have z := q.2.2.2.2.2.2.2.2.1 i a1 a2
      rw [e130, eK, eN]
      exact ⟨pz_c z.1.symm, pz_c z.2.symm⟩
    obtain ⟨l1, l2⟩ := Rel_H (m' := m2) h ⟨fun i a1 a2 => by
      obtain ⟨y1, y2⟩ := r2 i a1 a2
      obtain ⟨x1, x2⟩ := s2 i a1 a2
      rw [show (10 : Int) * 12 + i = 120 + i by omega] at x1 x2
      obtain ⟨v1, v2⟩ := vals i a1 a2
      have z := q.2.2.2.2.2.2.2.2.2 i a1 a2
      have b1 := pz_b (g := m 90 t) (i := i) (F := fun i => m 84 (10 * t + i)) (b := 5) (by omega) ⟨z.1, z.2.1⟩
      have b2 := pz_b (g := m 90 t) (i := i) (F := fun i => m 86 (10 * t + i)) (b := 9) (by omega) ⟨z.2.2.1, z.2.2.2⟩
      rw [x1, x2, f56 56 (Or.inl rfl), f56 58 (Or.inr rfl), y1, y2, v1, v2]
      exact ⟨rfl, rfl, b1.1, b1.2, b2.1, b2.2⟩, by
      have e54 : m2 54 3 = m 88 t := by rw [s4 54 3 (by omega) (by omega) (by omega)]; exact r3
      have e123 : m2 123 12 = m 88 t := by rw [s3, r4 123 t (by decide) (by decide) (by omega)]; exact q.2.2.2.1
      have b3 := (h.2.2.1.2.2.2.1 t c1.1 c1.2).2.1
      rw [e54, e123]
      exact ⟨rfl, b3.2.1, b3.2.2⟩⟩ (fun x i d1 d2 => by
      unfold sH at d2
      rw [s4 x i (by omega) (by omega) (by omega)]
      exact r4 x i (by omega) (by omega) (by omega))
    have eb := q.2.2.2.2.2.1
    refine ⟨bcv (m 90 t), m1, m2, ?_, funext fun i => r4 0 i (by decide) (by decide) (by omega), ?_, l1, l2⟩
    · unfold f109
      simp only [KG L, KR, if_true]
      rw [bnd ((f65_s L).1 c1), if_neg (by exact n10), bnd r1]
      unfold f69
      simp only [KG L, KR, RAx L, Option.bind_some, if_true]
      rw [ra_in c1.1 q.1, e90, bnd (f222_s eb.1 eb.2)]
      rfl
    · unfold f175
      simp only [KG L, KR, KL L, if_true]
      rw [bnd p168, if_neg (by exact n10), bnd s1, if_pos ⟨c1.1, q.1⟩, s4 130 t (by omega) (by omega) (by omega), e130, bnd (f169_s eb.1 eb.2)]
  · refine ⟨-2, m, m, ?_, rfl, ?_, rfl, h⟩
    · unfold f109
      simp only [KG L, KR, if_true]
      rw [bnd ((f65_s L).2 c1), if_pos rfl]
    · unfold f175
      rw [if_pos (show gkb (GC L) 120 15 = true from rfl), bnd ((f168_s L h).2 c1), if_pos rfl]
theorem k18 (L : Nat) (h : Rel n m) (t u : Int) : ∃ w m1 m2, f114 (GC L) RC 1 t u m = some (w, m1) ∧ m1 0 = m 0 ∧ f185 (GC L) RC 120 t u m1 = some (w, m2) ∧ m2 0 = m 0 ∧ Rel n m2 := by
  obtain ⟨hn, h4, h10, hN, hA, hn2, hN2, ha, hc⟩ := hand_s h
  have h82 := h.1.2.2.2.2.2.2.1
  by_cases c1 : 0 ≤ t ∧ t < m 82 9
  · have q := tel_a h c1
    by_cases c2 : 0 ≤ u ∧ u < m 82 9
    · have r := tel_a h c2
      obtain ⟨m1, a1, a2, a3, a4⟩ := f70_110 L h82 h4 h10 ⟨c1.1, q.1⟩
      obtain ⟨m2, b1, b2, b3, b4⟩ := f70_115 L (m0 := m1) (t := u) (by rw [a4 82 0 (by decide) (by decide) (by omega)]; exact h82) h4 h10 ⟨c2.1, r.1⟩
      have F2 : ∀ x i, ¬ x = 112 → ¬ x = 114 → ¬ x = 117 → ¬ x = 119 → ¬ (x = 110 ∧ i = 3) → ¬ (x = 115 ∧ i = 3) → m2 x i = m x i := fun x i z1 z2 z3 z4 z5 z6 => (b4 x i z3 z4 z6).trans (a4 x i z1 z2 z5)
      have bnd9 : ∀ (v : Int), 0 ≤ v ∧ v < m 82 9 → ∀ i, 0 ≤ i → i < n → 0 ≤ pz (m 90 v) (fun i => m 86 (10 * v + i)) i ∧ pz (m 90 v) (fun i => m 86 (10 * v + i)) i ≤ 9 := fun v hv i i1 i2 => pz_b (by omega) ⟨((tel_a h hv).2.2.2.2.2.2.2.2.2 i i1 i2).2.2.1, ((tel_a h hv).2.2.2.2.2.2.2.2.2 i i1 i2).2.2.2⟩
      have one : ∀ i, 0 ≤ i → i < n → m2 112 i = pz (m 90 t) (fun i => m 84 (10 * t + i)) i ∧ m2 114 i = pz (m 90 t) (fun i => m 86 (10 * t + i)) i := fun i i1 i2 => by
        rw [b4 112 i (by decide) (by decide) (by omega), b4 114 i (by decide) (by decide) (by omega)]; exact a2 i i1 i2
      have two : ∀ i, 0 ≤ i → i < n → m2 117 i = pz (m 90 u) (fun i => m 84 (10 * u + i)) i ∧ m2 119 i = pz (m 90 u) (fun i => m 86 (10 * u + i)) i := fun i i1 i2 => by
        have z := b2 i i1 i2
        rw [a4 90 u (by decide) (by decide) (by omega), show (fun i => m1 84 (10 * u + i)) = (fun i => m 84 (10 * u + i)) from funext fun i => a4 84 _ (by decide) (by decide) (by omega), show (fun i => m1 86 (10 * u + i)) = (fun i => m 86 (10 * u + i)) from funext fun i => a4 86 _ (by decide) (by decide) (by omega)] at z
        exact z
      have e110 : m2 110 3 = m 88 t := by rw [b4 110 3 (by decide) (by decide) (by omega)]; exact a3
      have e115 : m2 115 3 = m 88 u := by rw [b3]; exact a4 88 u (by decide) (by decide) (by omega)
      obtain ⟨m3, d1, d2⟩ := f4_s L (m0 := m2) (by rw [F2 110 0 (by decide) (by decide) (by decide) (by decide) (by omega) (by omega)]; exact h.1.2.2.2.2.1) (by rw [F2 115 0 (by decide) (by decide) (by decide) (by decide) (by omega) (by omega)]; exact h.1.2.2.2.2.2.1) h4 h10 (fun i i1 i2 => by rw [(one i i1 i2).2]; have := bnd9 t c1 i i1 i2; omega) (fun i i1 i2 => by rw [(two i i1 i2).2]; have := bnd9 u c2 i i1 i2; omega)
      have Sm3 : Sm m m3 := fun x i c => by
        rw [d2 x i (fun z => c (sc_z101 (by omega))) (fun z => c (sc_z101 (by omega))) (fun z => c (sc_z101 (by omega))) (fun z => c (sc_z101 (by omega))) (fun z => c (sc_z101 (by omega))) (fun z => c (sc_z99 z))]
        exact F2 x i (fun z => c (sc_z112 z)) (fun z => c (sc_z114 z)) (fun z => c (sc_z117 z)) (fun z => c (sc_z119 z)) (fun z => c (sc_z2 (by omega))) (fun z => c (sc_z2 (by omega)))
      obtain ⟨f1, f2⟩ := fin_s h Sm3
      have e9 : m3 82 9 = m 82 9 := Sm3 82 9 (by unfold scr; omega)
      have c1' : 0 ≤ t ∧ t < m3 82 9 := by rw [e9]; exact c1
      have c2' : 0 ≤ u ∧ u < m3 82 9 := by rw [e9]; exact c2
      have q3 := tel_a f2 c1'
      have r3 := tel_a f2 c2'
      have nb3 : ∀ (v : Int), 0 ≤ v ∧ v < m3 82 9 → ∀ i, 0 ≤ i → i < n → 0 ≤ NM m3 v i ∧ NM m3 v i < 1000 := fun v hv i i1 i2 => by
        have z := tel_a f2 hv
        rw [← (z.2.2.2.2.2.2.2.2.1 i i1 i2).2]
        have := z.2.2.2.2.2.2.2.2.2 i i1 i2
        omega
      obtain ⟨m4, w1, w2⟩ := f185_s L (m0 := m3) f2.1.2.2.2.2.2.2.2.1 h4 h10 ⟨c1.1, q.1⟩ ⟨c2.1, r.1⟩ (nb3 t c1') (nb3 u c2')
      have Sm4 : Sm m3 m4 := fun x i c => w2 x i (fun z => c (sc_z131 (by omega))) (fun z => c (sc_z131 (by omega))) (fun z => c (sc_z131 (by omega))) (fun z => c (sc_z131 (by omega))) (fun z => c (sc_z120 (by omega)))
      obtain ⟨k1, k2⟩ := fin_s f2 Sm4
      have row : ∀ x i, ¬ scr x i → m3 x i = m x i := Sm3
      have cg : ∀ (v : Int) (K N : Int → Int), 0 ≤ v ∧ v < m 82 9 → (∀ i, 0 ≤ i → i < n → K i = pz (m 90 v) (fun i => m 84 (10 * v + i)) i ∧ N i = pz (m 90 v) (fun i => m 86 (10 * v + i)) i) → ∀ i, 0 ≤ i → i < n → K i = pz (m3 130 v) (KM m3 v) i ∧ N i = pz (m3 130 v) (NM m3 v) i := fun v K N hv hk i i1 i2 => by
        have z := tel_a f2 (t := v) (by rw [e9]; exact hv)
        have y := z.2.2.2.2.2.2.2.2.1 i i1 i2
        rw [(hk i i1 i2).1, (hk i i1 i2).2, z.2.2.2.2.1, row 90 v (by unfold scr; omega)]
        refine ⟨pz_c ?_, pz_c ?_⟩
        · rw [← y.1]; exact (row 84 _ (by unfold scr; omega)).symm
        · rw [← y.2]; exact (row 86 _ (by unfold scr; omega)).symm
      have cg1 := cg t _ _ c1 one
      have cg2 := cg u _ _ c2 two
      have eO1 : ou n (m2 112) (m2 114) = ou n (pz (m3 130 t) (KM m3 t)) (pz (m3 130 t) (NM m3 t)) := funext fun s => funext fun d => ou_cg (by omega) cg1 s d
      have eO2 : ou n (m2 117) (m2 119) = ou n (pz (m3 130 u) (KM m3 u)) (pz (m3 130 u) (NM m3 u)) := funext fun s => funext fun d => ou_cg (by omega) cg2 s d
      have eL1 : la n (m2 112) (m2 114) = la n (pz (m3 130 t) (KM m3 t)) (pz (m3 130 t) (NM m3 t)) := funext fun s => funext fun d => la_cg (by omega) cg1 s d
      have eL2 : la n (m2 117) (m2 119) = la n (pz (m3 130 u) (KM m3 u)) (pz (m3 130 u) (NM m3 u)) := funext fun s => funext fun d => la_cg (by omega) cg2 s d
      have e1 : m3 123 t = m 88 t := by rw [q3.2.2.2.1]; exact row 88 t (by unfold scr; omega)
      have e2 : m3 123 u = m 88 u := by rw [r3.2.2.2.1]; exact row 88 u (by unfold scr; omega)
      rw [eO1, eO2, eL1, eL2, e110, e115] at d1
      rw [e1, e2] at w1
      obtain ⟨Q, d1', w1'⟩ : ∃ Q, f4 (GC L) RC 99 m2 = some (Q, m3) ∧ lp (f185_b12 (GC L) RC 120 t u) FU (0, m3) = some (Q, m4) := ⟨_, d1, w1⟩
      refine ⟨Q, m3, m4, ?_, f1, ?_, k1.trans f1, k2⟩
      rotate_left
      · unfold f185
        simp only [KG L, if_true]
        rw [bnd ((f168_s L f2).1 c1'), if_neg (by exact n10), bnd ((f168_s L f2).1 c2'), if_neg (by exact n10)]
        exact w1'
      · unfold f114
        simp only [KG L, KR, if_true]
        rw [bnd ((f65_s L).1 c1), if_neg (by exact n10), bnd ((f65_s L).1 c2), if_neg (by exact n10), bnd a1, bnd b1, bnd d1']
    · refine ⟨-4611686018427387904, m, m, ?_, rfl, ?_, rfl, h⟩
      rotate_left
      · unfold f185
        rw [if_pos (show gkb (GC L) 120 15 = true from rfl), bnd ((f168_s L h).1 c1), if_neg (by exact n10), bnd ((f168_s L h).2 c2), if_pos rfl]
      · unfold f114
        simp only [KG L, KR, if_true]
        rw [bnd ((f65_s L).1 c1), if_neg (by exact n10), bnd ((f65_s L).2 c2), if_pos rfl]
  · refine ⟨-4611686018427387904, m, m, ?_, rfl, ?_, rfl, h⟩
    rotate_left
    · unfold f185
      rw [if_pos (show gkb (GC L) 120 15 = true from rfl), bnd ((f168_s L h).2 c1), if_pos rfl]
    · unfold f114
      simp only [KG L, KR, if_true]
      rw [bnd ((f65_s L).2 c1), if_pos rfl]
end CASES
