/-! CASES 0 .. 2: squares -/
section CASES
variable {n : Int} {m : Sg}
theorem f130_s {G : Gg} {ρ : Rg} {k : Int} : (0 ≤ k ∧ k ≤ 5 → f130 G ρ k m = some 1) ∧ (¬ (0 ≤ k ∧ k ≤ 5) → f130 G ρ k m = some 0) := by
  unfold f130
  constructor
  · intro c; rw [if_neg (by omega), if_pos (by omega)]
  · intro c
    by_cases q : k < 0
    · rw [if_pos q]
    · rw [if_neg q, if_neg (by omega)]
theorem f131_s {G : Gg} {ρ : Rg} {k : Int} : (0 ≤ k ∧ k ≤ 9 → f131 G ρ k m = some 1) ∧ (¬ (0 ≤ k ∧ k ≤ 9) → f131 G ρ k m = some 0) := by
  unfold f131
  constructor
  · intro c; rw [if_neg (by omega), if_neg (by omega)]
  · intro c
    by_cases q : k < 0
    · rw [if_pos q]
    · rw [if_neg q, if_pos (by omega)]
/-- a square of the hand told -/
theorem lay_s (h : Rel n m) {s k v : Int} (hs : 0 ≤ s ∧ s < n) (hk : 0 ≤ k ∧ k ≤ 5) (hv : 0 ≤ v ∧ v ≤ 9) : put (put (put (put m 56 s k) 58 s v) 121 (120 + s) k) 122 (120 + s) v 0 = m 0 ∧ Rel n (put (put (put (put m 56 s k) 58 s v) 121 (120 + s) k) 122 (120 + s) v) := by
  obtain ⟨e1, e2⟩ := h.2.1
  have n10 := h.1.2.2.2.2.2.2.2.2.2
  refine Rel_H h ⟨fun i a1 a2 => ?_, ?_⟩ (fun x i c1 c2 => ?_)
  · obtain ⟨q1, q2, q3, q4, q5, q6⟩ := e1 i a1 a2
    have x1 : put (put (put (put m 56 s k) 58 s v) 121 (120 + s) k) 122 (120 + s) v 121 (120 + i) = if i = s then k else m 121 (120 + i) := by
      rw [put_ne (by decide), put_as, put_ne (by decide), put_ne (by decide)]
      by_cases c : i = s
      · rw [if_pos c, if_pos (by omega)]
      · rw [if_neg c, if_neg (by omega)]
    have x2 : put (put (put (put m 56 s k) 58 s v) 121 (120 + s) k) 122 (120 + s) v 122 (120 + i) = if i = s then v else m 122 (120 + i) := by
      rw [put_as, put_ne (by decide), put_ne (by decide), put_ne (by decide)]
      by_cases c : i = s
      · rw [if_pos c, if_pos (by omega)]
      · rw [if_neg c, if_neg (by omega)]
    have x3 : put (put (put (put m 56 s k) 58 s v) 121 (120 + s) k) 122 (120 + s) v 56 i = if i = s then k else m 56 i := by
      rw [put_ne (by decide), put_ne (by decide), put_ne (by decide), put_as]
    have x4 : put (put (put (put m 56 s k) 58 s v) 121 (120 + s) k) 122 (120 + s) v 58 i = if i = s then v else m 58 i := by
      rw [put_ne (by decide), put_ne (by decide), put_as, put_ne (by decide)]
    rw [x1, x2, x3, x4]
    by_cases c : i = s
    · rw [if_pos c, if_pos c, if_pos c, if_pos c]
      omega
    · rw [if_neg c, if_neg c, if_neg c, if_neg c]
      exact ⟨q1, q2, q3, q4, q5, q6⟩
  · rw [put_ne (by decide), put_ne (by decide), put_ne (by decide), put_ne (by decide), put_ne (by decide), put_ne (by decide), put_ne (by decide), put_ne (by decide)]
    exact e2
  · unfold sH at c2
    unfold put
    rw [if_neg (by omega), if_neg (by omega), if_neg (by omega), if_neg (by omega)]
theorem k0 (L : Nat) (h : Rel n m) (s k v : Int) : ∃ w m1 m2, f96 (GC L) RC 1 s k v m = some (w, m1) ∧ m1 0 = m 0 ∧ f147 (GC L) RC 120 s k v m1 = some (w, m2) ∧ m2 0 = m 0 ∧ Rel n m2 := by
  obtain ⟨hn, h4, h10, hN, hA, hn2, hN2, ha, hc⟩ := hand_s h
  have p38 := f38_h L (s := s) hn
  have p146 := f146_s L (s := s) hn2 h4 h10
  by_cases c1 : 0 ≤ s ∧ s < n
  · by_cases c2 : 0 ≤ k ∧ k ≤ 5
    · by_cases c3 : 0 ≤ v ∧ v ≤ 9
      · obtain ⟨l1, l2⟩ := lay_s h c1 c2 c3
        have e120 : put (put m 56 s k) 58 s v 120 1 = n := by rw [put_ne (by decide), put_ne (by decide)]; exact hn2
        have q146 := f146_s L (s := s) e120 h4 h10
        have e121 : m 121 (120 + s) = m 56 s := (h.2.1.1 s c1.1 c1.2).1
        refine ⟨m 56 s, put (put m 56 s k) 58 s v, _, ?_, by rw [put_f (by decide), put_f (by decide)], ?_, l1, l2⟩
        · unfold f96
          simp only [KG L, KR, RAx L, if_true]
          rw [bnd (p38.1 c1), if_neg (by exact n10), bnd (f130_s.1 c2), if_neg (by exact n10), bnd (f131_s.1 c3), if_neg (by exact n10)]
          simp only [Option.bind_some]
          rw [f40_54 L, rp_in c1.1 (by omega), rp_in c1.1 (by omega), ra_in c1.1 (by omega)]
          rfl
        · unfold f147 f147_38
          simp only [KG L, KR, KL L, if_true]
          rw [bnd (q146.1 c1), if_neg (by exact n10), bnd (f143_s.1 c2), if_neg (by exact n10), bnd (f143_s.1 c3), if_neg (by exact n10)]
          unfold g_add
          rw [w32_i (by omega) (by omega), if_pos (by omega), if_pos (by omega), put_ne (by decide), put_ne (by decide), e121]
      · refine ⟨-2, m, m, ?_, rfl, ?_, rfl, h⟩
        · unfold f96
          simp only [KG L, KR, RAx L, if_true]
          rw [bnd (p38.1 c1), if_neg (by exact n10), bnd (f130_s.1 c2), if_neg (by exact n10), bnd (f131_s.2 c3), if_pos rfl]
        · unfold f147
          simp only [KG L, KR, KL L, if_true]
          rw [bnd (p146.1 c1), if_neg (by exact n10), bnd (f143_s.1 c2), if_neg (by exact n10), bnd (f143_s.2 c3), if_pos rfl]
    · refine ⟨-2, m, m, ?_, rfl, ?_, rfl, h⟩
      · unfold f96
        simp only [KG L, KR, RAx L, if_true]
        rw [bnd (p38.1 c1), if_neg (by exact n10), bnd (f130_s.2 c2), if_pos rfl]
      · unfold f147
        simp only [KG L, KR, KL L, if_true]
        rw [bnd (p146.1 c1), if_neg (by exact n10), bnd (f143_s.2 c2), if_pos rfl]
  · refine ⟨-2, m, m, ?_, rfl, ?_, rfl, h⟩
    · unfold f96
      simp only [KG L, KR, RAx L, if_true]
      rw [bnd (p38.2 c1), if_pos rfl]
    · unfold f147
      simp only [KG L, KR, KL L, if_true]
      rw [bnd (p146.2 c1), if_pos rfl]
theorem k1 (L : Nat) (h : Rel n m) (s : Int) : ∃ w m1 m2, f97 (GC L) RC 1 s m = some (w, m1) ∧ m1 0 = m 0 ∧ f148 (GC L) RC 120 s m1 = some (w, m2) ∧ m2 0 = m 0 ∧ Rel n m2 := by
  obtain ⟨hn, h4, h10, hN, hA, hn2, hN2, ha, hc⟩ := hand_s h
  by_cases c : 1 ≤ s ∧ s ≤ 31
  · obtain ⟨l1, l2⟩ := Rel_H (m' := put (put m 54 3 s) 123 12 s) h ⟨fun i a1 a2 => by
      rw [put_ne (by decide), put_ne (by decide), put_ne (by decide), put_ne (by decide), put_ne (by decide), put_ne (by decide), put_ne (by decide), put_ne (by decide)]
      exact h.2.1.1 i a1 a2, by rw [put_eq, put_ne (by decide), put_eq]; exact ⟨rfl, c.1, c.2⟩⟩ (fun x i c1 c2 => by
      unfold sH at c2
      unfold put
      rw [if_neg (by omega), if_neg (by omega)])
    refine ⟨m 54 3, put m 54 3 s, _, ?_, by rw [put_f (by decide)], ?_, l1, l2⟩
    · unfold f97
      simp only [KG L, KR, if_true]
      rw [if_neg (by omega), if_neg (by omega)]
    · unfold f148
      simp only [KG L, KR, KL L, if_true]
      rw [bnd (f143_s.1 c), if_neg (by exact n10), if_pos (by omega), put_ne (by decide), ha]
  · refine ⟨-2, m, m, ?_, rfl, ?_, rfl, h⟩
    · unfold f97
      by_cases q : s < 1
      · rw [if_pos q]
      · rw [if_neg q, if_pos (by omega)]
    · unfold f148
      rw [bnd (f143_s.2 c), if_pos rfl]
theorem k2 (L : Nat) (h : Rel n m) (s v : Int) : ∃ w, f98 (GC L) RC 1 s v m = some w ∧ f149 (GC L) RC 120 s v m = some w := by
  obtain ⟨hn, h4, h10, hN, hA, hn2, hN2, ha, hc⟩ := hand_s h
  have p38 := f38_h L (s := s) hn
  have p146 := f146_s L (s := s) hn2 h4 h10
  by_cases c1 : 0 ≤ s ∧ s < n
  · by_cases c2 : 0 ≤ v ∧ v ≤ 1
    · obtain ⟨q1, q2, _⟩ := h.2.1.1 s c1.1 c1.2
      refine ⟨if v = 0 then m 56 s else m 58 s, ?_, ?_⟩
      · unfold f98
        simp only [KG L, KR, RAx L, Option.bind_some, if_true]
        rw [bnd (p38.1 c1), if_neg (by exact n10), if_neg (by omega), if_neg (by omega), ra_in c1.1 (by omega), ra_in c1.1 (by omega)]
        split <;> rfl
      · unfold f149
        simp only [KG L, KR, KL L, if_true]
        rw [bnd (p146.1 c1), if_neg (by exact n10), bnd (f143_s.1 c2), if_neg (by exact n10)]
        unfold g_add
        rw [w32_i (by omega) (by omega)]
        by_cases z : v = 0
        · rw [if_pos z, if_pos z, if_pos (by omega), q1]
        · rw [if_neg z, if_neg z, if_pos (by omega), q2]
    · refine ⟨-2, ?_, ?_⟩
      · unfold f98
        simp only [KG L, KR, if_true]
        rw [bnd (p38.1 c1), if_neg (by exact n10)]
        by_cases q : v < 0
        · rw [if_pos q]
        · rw [if_neg q, if_pos (by omega)]
      · unfold f149
        rw [if_pos (show gkb (GC L) 120 15 = true from rfl), bnd (p146.1 c1), if_neg (by exact n10), bnd (f143_s.2 c2), if_pos rfl]
  · refine ⟨-2, ?_, ?_⟩
    · unfold f98
      simp only [KG L, KR, if_true]
      rw [bnd (p38.2 c1), if_pos rfl]
    · unfold f149
      rw [if_pos (show gkb (GC L) 120 15 = true from rfl), bnd (p146.2 c1), if_pos rfl]
end CASES
