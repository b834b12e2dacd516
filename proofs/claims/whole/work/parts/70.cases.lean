/-! CASES 3 .. 6: what is won -/
section CASES
variable {n : Int} {m : Sg}
/-- the class judges the hand -/
theorem jg_s (L : Nat) (h : Rel n m) : ∃ e m1, f87 (GC L) RC 2 54 m = some (e, m1) ∧ Sm m m1 ∧ JB m 2 4 6 8 n (m 56) (m 58) (m 54 3) m1 ∧ ∀ i, 0 ≤ i → i < n → m1 4 i = TT n (m 56) (m 58) (m 54 3) 10 i := by
  obtain ⟨hn, h4, h10, hN, hA, hn2, hN2, ha, hc⟩ := hand_s h
  obtain ⟨m1, r1, r2, r3⟩ := judge_2_54 L hn h4 h10 hN hA
  exact ⟨_, m1, r1, fun x i c => r2.1 x i (fun q => c (sc_z4 q)) (fun q => c (sc_z6 q)) (fun q => c (sc_z8 q)) (fun q => c (sc_z2 (by omega))), r2, r3⟩
theorem tl_s (L : Nat) (h : Rel n m) : ∃ m2, f153 (GC L) RC 120 12 m = some m2 ∧ Sm m m2 ∧ FT m m2 ∧ ∀ i, 0 ≤ i → i < n → m2 124 i = TT n (m 56) (m 58) (m 54 3) 10 i := by
  obtain ⟨hn, h4, h10, hN, hA, hn2, hN2, ha, hc⟩ := hand_s h
  obtain ⟨m2, r1, r2, r3⟩ := tell_s L (t := 12) hn2 h4 h10 (by omega) (by rw [ha]; exact hA) hN2
  refine ⟨m2, r1, fun x i c => r2 x i (fun q => c (sc_z124 (by omega))) (fun q => c (sc_z124 (by omega))) (fun q => c (sc_z120 (by omega))), r2, fun i a1 a2 => ?_⟩
  rw [r3 i a1 a2, ha, TT_cg (by omega) hc]
theorem Sm_h {m1 : Sg} (e : Sm m m1) : m1 56 = m 56 ∧ m1 58 = m 58 ∧ m1 54 3 = m 54 3 := ⟨funext fun i => e 56 i (by unfold scr; omega), funext fun i => e 58 i (by unfold scr; omega), e 54 3 (by unfold scr; omega)⟩
theorem k3 (L : Nat) (h : Rel n m) (s : Int) : ∃ w m1 m2, f99 (GC L) RC 1 s m = some (w, m1) ∧ m1 0 = m 0 ∧ f154 (GC L) RC 120 s m1 = some (w, m2) ∧ m2 0 = m 0 ∧ Rel n m2 := by
  obtain ⟨hn, h4, h10, hN, hA, hn2, hN2, ha, hc⟩ := hand_s h
  have p38 := f38_h L (s := s) hn
  unfold f99 f154
  simp only [KG L, KR, KL L, RAx L, Option.bind_some, if_true]
  by_cases c1 : 0 ≤ s ∧ s < n
  · obtain ⟨e, m1, r1, r2, r3, r4⟩ := jg_s L h
    obtain ⟨f1, f2⟩ := fin_s h r2
    obtain ⟨m2, s1, s2, s3, s4⟩ := tl_s L f2
    obtain ⟨g1, g2⟩ := fin_s f2 s2
    obtain ⟨e1, e2, e3⟩ := Sm_h r2
    rw [e1, e2, e3] at s4
    have p146 := f146_s L (s := s) f2.1.2.2.2.2.2.2.2.1 h4 h10
    refine ⟨if m1 4 s < 0 then g_add (-100) (m1 4 s) else m1 4 s, m1, m2, ?_, f1, ?_, g1.trans f1, g2⟩
    · rw [bnd (p38.1 c1), if_neg (by exact n10), bnd r1]
      simp only
      rw [ra_in c1.1 (by omega)]
      by_cases z : m1 4 s < 0
      · rw [if_pos z, if_pos z]
      · rw [if_neg z, if_neg z]
    · rw [bnd (p146.1 c1), if_neg (by exact n10), bnd s1, if_pos (by omega), s4 s c1.1 c1.2, ← r4 s c1.1 c1.2]
      by_cases z : m1 4 s < 0
      · rw [if_pos z, if_pos z]
      · rw [if_neg z, if_neg z]
  · rw [bnd (p38.2 c1), if_pos rfl]
    exact ⟨-2, m, m, rfl, rfl, by rw [bnd ((f146_s L (s := s) hn2 h4 h10).2 c1), if_pos rfl], rfl, h⟩
theorem k4 (L : Nat) (h : Rel n m) (s : Int) : ∃ w m1 m2, f100 (GC L) RC 1 s m = some (w, m1) ∧ m1 0 = m 0 ∧ f156 (GC L) RC 120 s m1 = some (w, m2) ∧ m2 0 = m 0 ∧ Rel n m2 := by
  obtain ⟨hn, h4, h10, hN, hA, hn2, hN2, ha, hc⟩ := hand_s h
  have p38 := f38_h L (s := s) hn
  unfold f100 f156
  simp only [KG L, KR, if_true]
  by_cases c1 : 0 ≤ s ∧ s < n
  · obtain ⟨e, m1, r1, r2, r3, r4⟩ := jg_s L h
    obtain ⟨f1, f2⟩ := fin_s h r2
    obtain ⟨m2, s1, s2, s3, s4⟩ := tl_s L f2
    obtain ⟨g1, g2⟩ := fin_s f2 s2
    obtain ⟨e1, e2, e3⟩ := Sm_h r2
    rw [e1, e2, e3] at s4
    have p146 := f146_s L (s := s) f2.1.2.2.2.2.2.2.2.1 h4 h10
    obtain ⟨d, hd⟩ := bst_e (K := m 56) (N := m 58) (show 0 < n by omega) h10 hA c1.1 c1.2
    obtain ⟨a1, a2, a3, a4, a5, a6, a7, a8, a9⟩ := hand_s g2
    obtain ⟨k1, k2, k3⟩ := Sm_h s2
    rw [k1, k2, e1, e2] at a9
    rw [k3, e3] at a8
    have hd2 : isB n (KM m2 12) (NM m2 12) (m2 123 12) s d := by rw [a8, ← isB_cg (by omega) a9 s]; exact hd
    obtain ⟨m3, u1, u2⟩ := f155_s L (t := 12) a6 h4 h10 (by omega) c1.1 c1.2 a7 (fun i b1 b2 => by rw [s4 i b1 b2, a8, TT_cg (by omega) a9]) hd2
    have Sm3 : Sm m2 m3 := fun x i c => u2 x i (fun q => c (sc_z120 (by omega)))
    obtain ⟨v1, v2⟩ := fin_s g2 Sm3
    refine ⟨d, m1, m3, ?_, f1, ?_, v1.trans (g1.trans f1), v2⟩
    · rw [bnd (p38.1 c1), if_neg (by exact n10), bnd r1]
      simp only
      rw [bnd (f88_s L hA h4 h10 c1.1 c1.2 r3 r4 hd)]
    · rw [bnd (p146.1 c1), if_neg (by exact n10), bnd s1, bnd u1]
  · rw [bnd (p38.2 c1), if_pos rfl]
    exact ⟨-2, m, m, rfl, rfl, by rw [bnd ((f146_s L (s := s) hn2 h4 h10).2 c1), if_pos rfl], rfl, h⟩
theorem k5 (L : Nat) (h : Rel n m) (s : Int) : ∃ w m1 m2, f101 (GC L) RC 1 s m = some (w, m1) ∧ m1 0 = m 0 ∧ f158 (GC L) RC 120 s m1 = some (w, m2) ∧ m2 0 = m 0 ∧ Rel n m2 := by
  obtain ⟨hn, h4, h10, hN, hA, hn2, hN2, ha, hc⟩ := hand_s h
  unfold f101 f158
  simp only [KG L, KR, if_true]
  by_cases c1 : 0 ≤ s ∧ s ≤ 2
  · obtain ⟨e, m1, r1, r2, r3, r4⟩ := jg_s L h
    obtain ⟨f1, f2⟩ := fin_s h r2
    obtain ⟨m2, s1, s2, s3, s4⟩ := tl_s L f2
    obtain ⟨g1, g2⟩ := fin_s f2 s2
    obtain ⟨e1, e2, e3⟩ := Sm_h r2
    rw [e1, e2, e3] at s4
    refine ⟨ch n s (m1 4), m1, m2, ?_, f1, ?_, g1.trans f1, g2⟩
    · rw [if_neg (by omega), if_neg (by omega), bnd r1]
      simp only
      rw [bnd (f89_s L h4 h10 r3.2.1 c1 (fun i b1 b2 => by have := TT_b (n := n) (K := m 56) (N := m 58) (a := m 54 3) 10 i; rw [r4 i b1 b2]; omega))]
    · rw [bnd (f143_s.1 c1), if_neg (by exact n10), bnd s1, bnd (f157_s L h4 h10 g2.1.2.2.2.2.2.2.2.1), ch_c (fun i b1 b2 => by rw [s4 i b1 b2, ← r4 i b1 b2])]
  · refine ⟨-2, m, m, ?_, rfl, by rw [bnd (f143_s.2 c1), if_pos rfl], rfl, h⟩
    by_cases q : s < 0
    · rw [if_pos q]
    · rw [if_neg q, if_pos (by omega)]
theorem k6 (L : Nat) (h : Rel n m) (s : Int) : ∃ w m1 m2, f102 (GC L) RC 1 s m = some (w, m1) ∧ m1 0 = m 0 ∧ f160 (GC L) RC 120 s m1 = some (w, m2) ∧ m2 0 = m 0 ∧ Rel n m2 := by
  obtain ⟨hn, h4, h10, hN, hA, hn2, hN2, ha, hc⟩ := hand_s h
  have p38 := f38_h L (s := s) hn
  unfold f102 f160
  simp only [KG L, KR, KL L, RAx L, Option.bind_some, if_true]
  by_cases c1 : 0 ≤ s ∧ s < n
  · obtain ⟨e, m1, r1, r2, r3, r4⟩ := jg_s L h
    obtain ⟨f1, f2⟩ := fin_s h r2
    obtain ⟨m2, s1, s2, s3, s4⟩ := tl_s L f2
    obtain ⟨g1, g2⟩ := fin_s f2 s2
    obtain ⟨e1, e2, e3⟩ := Sm_h r2
    rw [e1, e2, e3] at s4
    have p146 := f146_s L (s := s) f2.1.2.2.2.2.2.2.2.1 h4 h10
    rw [bnd (p38.1 c1), if_neg (by exact n10), bnd r1]
    simp only
    rw [ra_in c1.1 (by omega), r4 s c1.1 c1.2]
    by_cases z : TT n (m 56) (m 58) (m 54 3) 10 s = 0
    · obtain ⟨a1, a2, a3, a4, a5, a6, a7, a8, a9⟩ := hand_s g2
      obtain ⟨k1, k2, k3⟩ := Sm_h s2
      rw [k1, k2, e1, e2] at a9
      rw [k3, e3] at a8
      obtain ⟨m3, u1, u2⟩ := f160_s L a6 h4 h10 (by rw [a8]; exact hA) c1.1 c1.2 a7 (fun i b1 b2 => by rw [s4 i b1 b2, a8, TT_cg (by omega) a9])
      have Sm3 : Sm m2 m3 := fun x i c => u2 x i (fun q => c (sc_z120 (by omega)))
      obtain ⟨v1, v2⟩ := fin_s g2 Sm3
      rw [a8, ← gto_cg (by omega) a9] at u1
      rw [if_pos z, bnd (f90_s L hA h4 h10 c1.1 c1.2 r3 r4)]
      exact ⟨_, m1, m3, rfl, f1, by rw [bnd (p146.1 c1), if_neg (by exact n10), bnd s1, if_pos (by omega), s4 s c1.1 c1.2, if_pos z, u1], v1.trans (g1.trans f1), v2⟩
    · rw [if_neg z]
      exact ⟨-1, m1, m2, rfl, f1, by rw [bnd (p146.1 c1), if_neg (by exact n10), bnd s1, if_pos (by omega), s4 s c1.1 c1.2, if_neg z], g1.trans f1, g2⟩
  · rw [bnd (p38.2 c1), if_pos rfl]
    exact ⟨-2, m, m, rfl, rfl, by rw [bnd ((f146_s L (s := s) hn2 h4 h10).2 c1), if_pos rfl], rfl, h⟩
end CASES
