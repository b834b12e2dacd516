/-! CASE 26: a game for a stake -/
section GAME
variable {n : Int} {m : Sg}
theorem row_m (L : Nat) (h : Rel n m) {m1 : Sg} (e : ∀ x, ¬ x = 51 → m1 x = m x) {r : Int} (hr : 0 ≤ r ∧ r ≤ 999999999999999999) : ∃ m2, f167 (GC L) RC 120 r m1 = some (led n (m 56) (m 58) (m 54 3) 18 0 0 (-1) r 0, m2) ∧ Sm m1 m2 := by
  obtain ⟨hn, h4, h10, hN, hA, hn2, hN2, ha, hc⟩ := hand_s h
  have eK : KM m1 12 = KM m 12 := by unfold KM; rw [e 121 (by decide)]
  have eN : NM m1 12 = NM m 12 := by unfold NM; rw [e 122 (by decide)]
  obtain ⟨m2, s1, s2⟩ := f167_s L (m0 := m1) (n := n) (by rw [e 120 (by decide)]; exact hn2) h4 h10 (by rw [eN]; exact hN2) 18 m1 0 0 (-1) r 0 (fun _ _ _ => rfl) (by omega) (by omega) (by omega) (by omega) (Or.inl rfl) (Or.inl rfl) hr.1 (by omega) (by omega) FU (by rw [FU_v]; omega)
  rw [e 123 (by decide), eK, eN, ha, ← led_cg (by omega) hc, if_pos rfl] at s1
  refine ⟨m2, ?_, fun x i c => s2 x i (fun q => c (sc_z120 (by omega)))⟩
  unfold f167
  rw [bnd (f166_s.1 hr), if_neg (by exact n10)]
  exact s1
/-- what the one who loses pays -/
theorem f142_s (L : Nat) {a b d mn : Int} (ha : 0 ≤ a ∧ a < 4) (hb : 0 ≤ b ∧ b < 4) (h0 : 0 ≤ m 51 a ∧ m 51 a ≤ 80) (h1 : 0 ≤ m 51 b ∧ m 51 b ≤ 80) (hd : 0 ≤ d ∧ d ≤ 9) (hm : mn = if m 51 a < d then m 51 a else d) (hn : ¬ b = a) : f142 (GC L) RC 1 a b d m = some (put (put m 51 a (m 51 a - mn)) 51 b (m 51 b + mn)) := by
  have e0 : ∀ m' : Sg, f227 (GC L) RC d (m 51 a) m' = some mn := fun m' => by
    unfold f227
    rw [hm]
    by_cases q : m 51 a < d
    · rw [if_pos q, if_pos q]
    · rw [if_neg q, if_neg q]
  have hmb : 0 ≤ mn ∧ mn ≤ m 51 a := by
    rw [hm]
    by_cases q : m 51 a < d
    · rw [if_pos q]; omega
    · rw [if_neg q]; omega
  have es : g_sub (m 51 a) mn = m 51 a - mn := by unfold g_sub; rw [w32_i (by omega) (by omega)]
  have ea : g_add (m 51 b) mn = m 51 b + mn := by unfold g_add; rw [w32_i (by omega) (by omega)]
  unfold f142
  simp only [KG L, KR, RAx L, RPx L, if_true]
  rw [ra_in ha.1 ha.2, bnd rfl, bnd (e0 m), bnd rfl, es, rp_in ha.1 ha.2, bnd rfl, bnd rfl, ra_in hb.1 hb.2, put_nj hn, ea, bnd rfl, rp_in hb.1 hb.2]
theorem f212_47_s (L : Nat) {a b d v mn : Int} (ha : 0 ≤ a ∧ a < 4) (hb : 0 ≤ b ∧ b < 4) (h0 : 0 ≤ m 140 a ∧ m 140 a ≤ 80) (h1 : 0 ≤ m 140 b ∧ m 140 b ≤ 80) (hd : 0 ≤ d ∧ d ≤ 9) (hm : mn = if m 140 a < d then m 140 a else d) (hn : ¬ b = a) (hv : v = 100 ∨ v = 101) : f212_47 (GC L) RC 120 d v b a m = some (v - 100, put (put m 140 a (m 140 a - mn)) 140 b (m 140 b + mn)) := by
  have hmb : 0 ≤ mn ∧ mn ≤ m 140 a := by
    rw [hm]
    by_cases q : m 140 a < d
    · rw [if_pos q]; omega
    · rw [if_neg q]; omega
  have es : g_sub (m 140 a) mn = m 140 a - mn := by unfold g_sub; rw [w32_i (by omega) (by omega)]
  have ea : g_add (m 140 b) mn = m 140 b + mn := by unfold g_add; rw [w32_i (by omega) (by omega)]
  have ev : g_sub v 100 = v - 100 := by unfold g_sub; rw [w32_i (by omega) (by omega)]
  have k : f212_60 (GC L) RC 120 v b a mn m = some (v - 100, put (put m 140 a (m 140 a - mn)) 140 b (m 140 b + mn)) := by
    unfold f212_60 f212_76
    simp only [KG L, KR, KL L, if_true]
    rw [if_pos (by omega), if_pos (by omega), if_pos (by omega), es, put_nj hn, ea, ev]
  unfold f212_47
  simp only [KG L, KR, KL L, if_true]
  rw [if_pos (by omega)]
  by_cases q : d < m 140 a
  · rw [if_pos q]
    rw [if_neg (by omega)] at hm
    rw [← hm]; exact k
  · rw [if_neg q]
    have e : mn = m 140 a := by
      by_cases z : m 140 a < d
      · rw [if_pos z] at hm; exact hm
      · rw [if_neg z] at hm; omega
    rw [e] at k ⊢; exact k
theorem R_p_w (h : R_p m) {a b mn : Int} (ha : 0 ≤ a ∧ a < 4) (hb : 0 ≤ b ∧ b < 4) (hn : ¬ b = a) (hm : 0 ≤ mn ∧ mn ≤ m 51 a) {m' : Sg} (e1 : ∀ p, m' 51 p = put (put m 51 a (m 51 a - mn)) 51 b (m 51 b + mn) 51 p) (e2 : ∀ p, m' 140 p = put (put m 140 a (m 140 a - mn)) 140 b (m 140 b + mn) 140 p) : R_p m' := by
  have f1 : ∀ p, m' 51 p = if p = b then m 51 b + mn else if p = a then m 51 a - mn else m 51 p := fun p => by rw [e1, put_as, put_as]
  have f2 : ∀ p, m' 140 p = if p = b then m 140 b + mn else if p = a then m 140 a - mn else m 140 p := fun p => by rw [e2, put_as, put_as]
  obtain ⟨h1, h2⟩ := h
  have ga := h1 a ha.1 ha.2
  have gb := h1 b hb.1 hb.2
  refine ⟨fun p p0 p4 => ?_, ?_⟩
  · have gp := h1 p p0 p4
    rw [f1, f2]
    by_cases x : p = b
    · rw [if_pos x, if_pos x]; omega
    · rw [if_neg x, if_neg x]
      by_cases z : p = a
      · rw [if_pos z, if_pos z]; omega
      · rw [if_neg z, if_neg z]; exact gp
  · rw [f1, f1, f1, f1]
    have ca : a = 0 ∨ a = 1 ∨ a = 2 ∨ a = 3 := by omega
    have cb : b = 0 ∨ b = 1 ∨ b = 2 ∨ b = 3 := by omega
    rcases ca with rfl | rfl | rfl | rfl <;> rcases cb with rfl | rfl | rfl | rfl <;> simp <;> omega
theorem k26 (L : Nat) (h : Rel n m) (a b d r : Int) : ∃ w m1 m2, f122 (GC L) RC 1 a b d r m = some (w, m1) ∧ m1 0 = m 0 ∧ f212 (GC L) RC 120 a b d r m1 = some (w, m2) ∧ m2 0 = m 0 ∧ Rel n m2 := by
  by_cases c1 : 0 ≤ a ∧ a ≤ 3
  rotate_left
  · refine ⟨-2, m, m, ?_, rfl, ?_, rfl, h⟩
    · unfold f122; rw [bnd (f135_s.2 c1), if_pos rfl]
    · unfold f212; rw [bnd (f211_s.2 c1), if_pos rfl]
  by_cases c2 : 0 ≤ b ∧ b ≤ 3
  rotate_left
  · refine ⟨-2, m, m, ?_, rfl, ?_, rfl, h⟩
    · unfold f122; rw [bnd (f135_s.1 c1), if_neg (by exact n10), bnd (f135_s.2 c2), if_pos rfl]
    · unfold f212; rw [bnd (f211_s.1 c1), if_neg (by exact n10), bnd (f211_s.2 c2), if_pos rfl]
  by_cases c3 : a = b
  · refine ⟨-2, m, m, ?_, rfl, ?_, rfl, h⟩
    · unfold f122; rw [bnd (f135_s.1 c1), if_neg (by exact n10), bnd (f135_s.1 c2), if_neg (by exact n10), if_pos c3]
    · unfold f212; rw [bnd (f211_s.1 c1), if_neg (by exact n10), bnd (f211_s.1 c2), if_neg (by exact n10), if_pos c3]
  by_cases c4 : 0 ≤ d ∧ d ≤ 9
  rotate_left
  · refine ⟨-2, m, m, ?_, rfl, ?_, rfl, h⟩
    · unfold f122
      rw [bnd (f135_s.1 c1), if_neg (by exact n10), bnd (f135_s.1 c2), if_neg (by exact n10), if_neg c3]
      by_cases q : d < 0
      · rw [if_pos q]
      · rw [if_neg q, if_pos (by omega)]
    · unfold f212; rw [bnd (f211_s.1 c1), if_neg (by exact n10), bnd (f211_s.1 c2), if_neg (by exact n10), if_neg c3, bnd (f143_s.2 c4), if_pos rfl]
  by_cases c5 : 0 ≤ r ∧ r ≤ 999999999999999999
  rotate_left
  · refine ⟨-2, m, m, ?_, rfl, ?_, rfl, h⟩
    · unfold f122
      rw [bnd (f135_s.1 c1), if_neg (by exact n10), bnd (f135_s.1 c2), if_neg (by exact n10), if_neg c3, if_neg (by omega), if_neg (by omega), bnd (f132_s.2 c5), if_pos rfl]
    · unfold f212; rw [bnd (f211_s.1 c1), if_neg (by exact n10), bnd (f211_s.1 c2), if_neg (by exact n10), if_neg c3, bnd (f143_s.1 c4), if_neg (by exact n10), bnd (f166_s.2 c5), if_pos rfl]
  obtain ⟨p1, p2⟩ := h.2.2.2.2.2.2.2.1
  have pb : ∀ p, 0 ≤ p → p < 4 → m 140 p = m 51 p ∧ 0 ≤ m 51 p ∧ m 51 p ≤ 80 := fun p q1 q2 => by
    have g0 := p1 0 (by omega) (by omega)
    have g1 := p1 1 (by omega) (by omega)
    have g2 := p1 2 (by omega) (by omega)
    have g3 := p1 3 (by omega) (by omega)
    have gp := p1 p q1 q2
    have cp : p = 0 ∨ p = 1 ∨ p = 2 ∨ p = 3 := by omega
    rcases cp with rfl | rfl | rfl | rfl <;> omega
  have n4 := h.1.2.2.2.2.2.2.2.2
  have hb := led_b (K := m 56) (N := m 58) (a := m 54 3) (n := n) (by omega) (by omega) 18 0 0 (-1) r 0 (by omega) (by omega) (Or.inl rfl) (Or.inl rfl) (by omega)
  have hc := (row_s L h c5).1
  have hm := fun (m1 : Sg) (e : ∀ x, ¬ x = 51 → m1 x = m x) => row_m L h e c5
  generalize led n (m 56) (m 58) (m 54 3) 18 0 0 (-1) r 0 = v at hb hc hm
  have C : f122 (GC L) RC 1 a b d r m = (if v < 0 then some (-3, m) else if v < 100 then some (2, m) else if v = 100 then f122_41 (GC L) RC 1 a b d 1 m else f122_41 (GC L) RC 1 a b d 0 m) := by
    unfold f122
    simp only [KG L, KR, if_true]
    rw [bnd (f135_s.1 c1), if_neg (by exact n10), bnd (f135_s.1 c2), if_neg (by exact n10), if_neg c3, if_neg (by omega), if_neg (by omega), bnd (f132_s.1 c5), if_neg (by exact n10), bnd hc]
  have M : ∀ m1 m2 : Sg, f167 (GC L) RC 120 r m1 = some (v, m2) → f212 (GC L) RC 120 a b d r m1 = (if -100 < v then if v < 100 then some (2, m2) else if v = 100 then f212_40 (GC L) RC 120 a b d v a m2 else f212_40 (GC L) RC 120 a b d v b m2 else some (-3, m2)) := fun m1 m2 e => by
    unfold f212
    simp only [KG L, if_true]
    rw [bnd (f211_s.1 c1), if_neg (by exact n10), bnd (f211_s.1 c2), if_neg (by exact n10), if_neg c3, bnd (f143_s.1 c4), if_neg (by exact n10), bnd (f166_s.1 c5), if_neg (by exact n10), bnd e]
  -- the payer x, the one paid y
  have pay : ∀ x y : Int, (0 ≤ x ∧ x ≤ 3) → (0 ≤ y ∧ y ≤ 3) → ¬ y = x → (v = 100 ∨ v = 101) → ∃ m1 m2 m3, f142 (GC L) RC 1 x y d m = some m1 ∧ m1 0 = m 0 ∧ f167 (GC L) RC 120 r m1 = some (v, m2) ∧ f212_47 (GC L) RC 120 d v y x m2 = some (v - 100, m3) ∧ m3 0 = m 0 ∧ Rel n m3 := by
    intro x y x0 y0 xy hv
    have gx := pb x x0.1 (by omega)
    have gy := pb y y0.1 (by omega)
    generalize hmn : (if m 51 x < d then m 51 x else d) = mn
    have hmb : 0 ≤ mn ∧ mn ≤ m 51 x := by
      rw [← hmn]
      by_cases q : m 51 x < d
      · rw [if_pos q]; omega
      · rw [if_neg q]; omega
    have r1 := f142_s L (m := m) (a := x) (b := y) (d := d) (mn := mn) (by omega) (by omega) gx.2 gy.2 c4 hmn.symm xy
    generalize hw : put (put m 51 x (m 51 x - mn)) 51 y (m 51 y + mn) = m1 at r1
    have e1 : ∀ z, ¬ z = 51 → m1 z = m z := fun z q => by rw [← hw, put_f q, put_f q]
    obtain ⟨m2, r2, r3⟩ := hm m1 e1
    have e2 : ∀ p, m2 140 p = m 140 p := fun p => by rw [r3 140 p (by unfold scr; omega), e1 140 (by decide)]
    have r4 := f212_47_s L (m := m2) (a := x) (b := y) (d := d) (v := v) (mn := mn) (by omega) (by omega) (by rw [e2, gx.1]; exact gx.2) (by rw [e2, gy.1]; exact gy.2) c4 (by rw [e2, gx.1]; exact hmn.symm) xy hv
    generalize hw2 : put (put m2 140 x (m2 140 x - mn)) 140 y (m2 140 y + mn) = m3 at r4
    obtain ⟨l1, l2⟩ := Rel_P (m' := m3) h (R_p_w h.2.2.2.2.2.2.2.1 (a := x) (b := y) (mn := mn) (by omega) (by omega) xy hmb (fun p => by
      rw [← hw2, put_ne (by decide), put_ne (by decide), r3 51 p (by unfold scr; omega), hw]) (fun p => by
      rw [← hw2, put_as, put_as, put_as, put_as, e2, e2, e2])) (fun z i q1 q2 => by
      unfold sP at q2
      rw [← hw2, put_ne (fun q => q2 (Or.inr q)), put_ne (fun q => q2 (Or.inr q)), r3 z i q1, e1 z (fun q => q2 (Or.inl q))])
    exact ⟨m1, m2, m3, r1, e1 0 (by decide), r2, r4, l1, l2⟩
  by_cases v1 : v < 0
  · obtain ⟨m2, r1, r2⟩ := hm m (fun _ _ => rfl)
    obtain ⟨l1, l2⟩ := fin_s h r2
    exact ⟨-3, m, m2, by rw [C, if_pos v1], rfl, by rw [M m m2 r1, if_neg (by omega)], l1, l2⟩
  by_cases v2 : v < 100
  · obtain ⟨m2, r1, r2⟩ := hm m (fun _ _ => rfl)
    obtain ⟨l1, l2⟩ := fin_s h r2
    exact ⟨2, m, m2, by rw [C, if_neg v1, if_pos v2], rfl, by rw [M m m2 r1, if_pos (by omega), if_pos v2], l1, l2⟩
  by_cases v3 : v = 100
  · obtain ⟨m1, m2, m3, r1, r2, r3, r4, r5, r6⟩ := pay b a c2 c1 (fun q => c3 q) (Or.inl v3)
    refine ⟨0, m1, m3, ?_, r2, ?_, r5, r6⟩
    · rw [C, if_neg v1, if_neg v2, if_pos v3]
      unfold f122_41
      simp only [KG L, if_true]
      rw [if_neg (by exact n10), bnd r1]
      unfold f122_55
      rw [if_neg (by exact n10)]
    · rw [M m1 m2 r3, if_pos (by omega), if_neg v2, if_pos v3]
      unfold f212_40
      rw [if_pos v3, r4, v3]; rfl
  · obtain ⟨m1, m2, m3, r1, r2, r3, r4, r5, r6⟩ := pay a b c1 c2 (fun q => c3 q.symm) (Or.inr (by omega))
    refine ⟨1, m1, m3, ?_, r2, ?_, r5, r6⟩
    · rw [C, if_neg v1, if_neg v2, if_neg v3]
      unfold f122_41
      simp only [KG L, if_true]
      rw [bnd r1]
      rfl
    · rw [M m1 m2 r3, if_pos (by omega), if_neg v2, if_neg v3]
      unfold f212_40
      rw [if_neg v3, r4, show v - 100 = 1 from by omega]
end GAME
