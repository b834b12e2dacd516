/-! A TEXT READ BY THE MODEL -/
section MODEL
variable {b : Int → Int} {sz : Int} {m0 : Sg} {N : Nat}
theorem FnM_199s (L : Nat) (hH : MH b sz m0 N) : MX b sz m0 N 5 (FnM (GC L) RC 50 199 120) (pA (TK b sz) (NV b sz) 5 25) := (FnM_s L hH 5 (by omega)).2.2 50 (by omega)
theorem f200b_s (L : Nat) {m : Sg} {w : Int} (h : m 120 37 = 1) : f200_18 (GC L) RC 120 w m = some (w, m) := by
  unfold f200_18 f200_25
  simp only [KG L, if_true]
  rw [bnd (f191_b L h), if_pos rfl, bnd (f189_b L h), if_neg (by omega)]
theorem f200_s (L : Nat) {j : Nat} (hH : MH b sz m0 N) (hj : 1 ≤ j ∧ j ≤ 2) : MX b sz m0 N 5 (f200 (GC L) RC 120 (hsv j)) (ppt (TK b sz) (NV b sz) ((j : Int) + 2)) := by
  intro m n c h hn
  have hg := (GdI_A (T := TK b sz) (V := NV b sz) (MH_0 hH) 5).2.2.2.2.2.2
  have p := f190_s L h (j := j) (by omega)
  unfold f200
  rw [if_pos (show gkb (GC L) 120 15 = true from rfl)]
  by_cases c1 : TK b sz n = (j : Int) + 2
  · rw [bnd (p.1 c1), if_neg (by exact n10)]
    obtain ⟨m1, r1, r2, r3⟩ := nxt_s L hH h hn (by omega)
    obtain ⟨w, m2, s1, s2, s3⟩ := FnM_199s L hH m1 (n + 1) c r2 r3
    unfold f200_6 f200_11
    simp only [KG L, if_true]
    rw [if_pos h.2.1, bnd r1, if_pos r2.2.1, bnd s1]
    by_cases c2 : (pA (TK b sz) (NV b sz) 5 25 (n + 1) c).1 = true
    · obtain ⟨v1, cd1, v2, v3⟩ := s3.1 c2
      obtain ⟨g1, g2, g3, g4⟩ := hg (n + 1) c r3
      have p59 := f191_s L v1 (s := 59) (by omega)
      by_cases c3 : TK b sz (pA (TK b sz) (NV b sz) 5 25 (n + 1) c).2.1 = 59
      · obtain ⟨m3, t1, t2, t3⟩ := nxt_s L hH v1 g2 (by omega)
        refine ⟨w, m3, ?_, t2.1, ?_⟩
        · unfold f200_18 f200_25
          simp only [KG L, if_true]
          rw [bnd (p59.1 c3), if_neg (by exact n10), if_pos v1.2.1, bnd t1]
        · have e := ppt_y c1 c2 c3
          rw [v2] at e
          exact MR_y e t2 v3
      · obtain ⟨m3, t1, t2, t3⟩ := f189_s L v1
        refine ⟨w, m3, ?_, t2, MR_n (ppt_c c1 c2 c3) t3⟩
        unfold f200_18 f200_25
        simp only [KG L, if_true]
        rw [bnd (p59.2 c3), if_pos rfl, bnd t1, if_neg (by omega)]
    · have bad := s3.2 c2
      refine ⟨w, m2, f200b_s L bad.1, s2, ?_⟩
      rw [ppt_f c1 c2]
      exact ⟨fun q => absurd q c2, fun _ => bad⟩
  · obtain ⟨m1, r1, r2, r3⟩ := f189_s L h
    rw [bnd (p.2 c1), if_pos rfl, bnd r1]
    refine ⟨0, m1, ?_, r2, MR_n (ppt_0 c1) r3⟩
    unfold f200_6 f200_11
    simp only [KG L, if_true]
    rw [if_neg (by omega), if_neg (by omega)]
    exact f200b_s L r3.1
end MODEL
def FrY (m0 m : Sg) : Prop := ∀ x i, ¬ (x = 120 ∧ 30 ≤ i ∧ i ≤ 38) → m x i = m0 x i
theorem f201_s (L : Nat) {m0 : Sg} {x which sz : Int} {b : Int → Int} (hx : 0 ≤ x ∧ x < 6) (hsz : m0 136 x = sz) (h0 : 0 ≤ sz) (h1 : sz ≤ 160) (hb : ∀ i, 0 ≤ i → i < sz → m0 135 (160 * x + i) = b i ∧ 0 ≤ b i ∧ b i < 256) : ∃ v m', f201 (GC L) RC 120 x which m0 = some (v, m') ∧ FrY m0 m' ∧ ((prd (TK b sz) (NV b sz)).1 = true → m' 120 37 = 0 ∧ evl (fvm m0) [] (prt (prd (TK b sz) (NV b sz)).2.2 (ppt (TK b sz) (NV b sz) 3 0 []).2.2.length which) = [v] ∧ (ppt (TK b sz) (NV b sz) 3 0 []).2.2.length ≤ (prd (TK b sz) (NV b sz)).2.2.length) ∧ (¬ (prd (TK b sz) (NV b sz)).1 = true → m' 120 37 = 1 ∧ m' 120 38 = SP b sz (prd (TK b sz) (NV b sz)).2.1) := by
  obtain ⟨N, n1, n2, n3⟩ := SP_c (b := b) h0 h1
  have ei : g_mul 160 x = 160 * x := by unfold g_mul; rw [w32_i (by omega) (by omega)]
  generalize hm1 : put (put (put (put (put m0 120 30 (160 * x)) 120 31 sz) 120 35 0) 120 36 0) 120 37 0 = m1
  have F1 : FrY m0 m1 := fun y i c => by
    rw [← hm1]
    unfold put
    rw [if_neg (by omega), if_neg (by omega), if_neg (by omega), if_neg (by omega), if_neg (by omega)]
  have e30 : m1 120 30 = 160 * x := by rw [← hm1, put_nj (by decide), put_nj (by decide), put_nj (by decide), put_nj (by decide), put_eq]
  have e31 : m1 120 31 = sz := by rw [← hm1, put_nj (by decide), put_nj (by decide), put_nj (by decide), put_eq]
  have e35 : m1 120 35 = 0 := by rw [← hm1, put_nj (by decide), put_nj (by decide), put_eq]
  have e36 : m1 120 36 = 0 := by rw [← hm1, put_nj (by decide), put_eq]
  have e37 : m1 120 37 = 0 := by rw [← hm1, put_eq]
  have hTX : TX b sz m1 := ⟨e31, h0, h1, by omega, by omega, fun i a1 a2 => by rw [e30, F1 135 _ (by omega)]; exact hb i a1 a2⟩
  have hH : MH b sz m1 N := ⟨hTX, n1, n2, n3⟩
  have efv : fvm m1 = fvm m0 := funext fun j => by
    unfold fvm
    by_cases c : 0 ≤ j
    · rw [if_pos c, if_pos c]; exact F1 120 (39 + j) (by omega)
    · rw [if_neg c, if_neg c]
  have hTT : TK b sz N = 0 := TK_e n2
  have r0 : f201 (GC L) RC 120 x which m0 = Option.bind (f188 (GC L) RC 120 m1) fun q10 => Option.bind (f200 (GC L) RC 120 394691 q10) fun q11 => if (q11.2 120 37) = 0 then (Option.bind (f200 (GC L) RC 120 220309 q11.2) fun q13 => f201_34 (GC L) RC 120 which q11.1 q13.1 q13.2) else (f201_34 (GC L) RC 120 which q11.1 0 q11.2) := by
    unfold f201 f201_10 f201_13 f201_16 f201_19
    simp only [KG L, KR, KL L, if_true]
    rw [ei, if_pos hx, put_ne (by decide), hsz, if_pos (Or.inl trivial), hm1]
  rw [r0]
  obtain ⟨m2, s1, s2, s3⟩ := f188_s L hTX (Int.le_refl 0) h0 e35
  have hP : MP b sz m1 5 m2 0 := ⟨FrN4_X s2, by rw [s2 120 37 (by omega)]; exact e37, by rw [s2 120 36 (by omega), e36]; rfl, s3⟩
  obtain ⟨w1, m3, u1, u2, u3⟩ := f200_s L (j := 1) hH (by omega) m2 0 [] hP (by omega)
  have u1' : f200 (GC L) RC 120 394691 m2 = some (w1, m3) := u1
  have u3' : MR b sz m1 5 (ppt (TK b sz) (NV b sz) 3 0 []) [] w1 m3 := u3
  have g3 := GdI_pt (T := TK b sz) (V := NV b sz) (key := 3) hTT (by decide) 0 [] (by omega)
  rw [bnd s1, bnd u1']
  have FY : ∀ m' : Sg, FrX m1 m' → FrY m0 m' := fun m' h y i c => (h y i (by omega)).trans (F1 y i c)
  by_cases c1 : (ppt (TK b sz) (NV b sz) 3 0 []).1 = true
  · obtain ⟨v1, cd1, v2, v3⟩ := u3'.1 c1
    simp only
    rw [if_pos v1.2.1]
    obtain ⟨w2, m4, x1, x2, x3⟩ := f200_s L (j := 2) hH (by omega) m3 _ (ppt (TK b sz) (NV b sz) 3 0 []).2.2 v1 g3.2.1
    have x1' : f200 (GC L) RC 120 220309 m3 = some (w2, m4) := x1
    have x3' : MR b sz m1 5 (ppt (TK b sz) (NV b sz) 4 (ppt (TK b sz) (NV b sz) 3 0 []).2.1 (ppt (TK b sz) (NV b sz) 3 0 []).2.2) (ppt (TK b sz) (NV b sz) 3 0 []).2.2 w2 m4 := x3
    rw [bnd x1']
    by_cases c2 : (ppt (TK b sz) (NV b sz) 4 (ppt (TK b sz) (NV b sz) 3 0 []).2.1 (ppt (TK b sz) (NV b sz) 3 0 []).2.2).1 = true
    · obtain ⟨y1, cd2, y2, y3⟩ := x3'.1 c2
      rw [prd_c c1 c2]
      simp only
      have rt := y1.2.2.2.2.1
      have tr := tko_r (b := b) (sz := sz) (SP b sz (ppt (TK b sz) (NV b sz) 4 (ppt (TK b sz) (NV b sz) 3 0 []).2.1 (ppt (TK b sz) (NV b sz) 3 0 []).2.2).2.1)
      have t32 : m4 120 32 = 0 ↔ TK b sz (ppt (TK b sz) (NV b sz) 4 (ppt (TK b sz) (NV b sz) 3 0 []).2.1 (ppt (TK b sz) (NV b sz) 3 0 []).2.2).2.1 = 0 := by
        obtain ⟨q0, q1, q2, q3, q4⟩ := rt
        unfold TK at q0 q1 q2 q3 q4 tr ⊢
        generalize tko b sz _ = t at *
        constructor
        · intro z
          by_cases a1 : t = 1
          · have := q1 a1; omega
          by_cases a2 : t = 2
          · have := (q2 a2).1; omega
          by_cases a3 : 3 ≤ t ∧ t ≤ 13
          · have := (q3 a3).1; omega
          by_cases a4 : 14 ≤ t
          · have := (q4 a4).1; omega
          omega
        · intro z; exact q0 z
      by_cases c3 : TK b sz (ppt (TK b sz) (NV b sz) 4 (ppt (TK b sz) (NV b sz) 3 0 []).2.1 (ppt (TK b sz) (NV b sz) 3 0 []).2.2).2.1 = 0
      · refine ⟨if which = 0 then w1 else w2, m4, ?_, FY m4 x2, fun _ => ⟨y1.2.1, ?_, by show _ ≤ (ppt (TK b sz) (NV b sz) 4 (ppt (TK b sz) (NV b sz) 3 0 []).2.1 (ppt (TK b sz) (NV b sz) 3 0 []).2.2).2.2.length; rw [y2, List.length_append]; omega⟩, fun q => absurd (decide_eq_true c3) q⟩
        · unfold f201_34 f201_43
          simp only [KG L, if_true]
          rw [if_pos y1.2.1, if_pos (t32.mpr c3)]
          by_cases z : which = 0
          · rw [if_pos z, if_pos z]
          · rw [if_neg z, if_neg z]
        · have e1 : (ppt (TK b sz) (NV b sz) 3 0 []).2.2 = cd1 := v2
          unfold prt
          rw [y2, ← efv]
          by_cases z : which = 0
          · rw [if_pos z, if_pos z, List.take_left, e1]; exact v3 []
          · rw [if_neg z, if_neg z, List.drop_left]; exact y3 []
      · obtain ⟨m5, z1, z2, z3⟩ := f189_s L y1
        refine ⟨if which = 0 then w1 else w2, m5, ?_, FY m5 z2, fun q => absurd (of_decide_eq_true q) c3, fun _ => z3⟩
        unfold f201_34 f201_43
        simp only [KG L, if_true]
        rw [if_pos y1.2.1, if_neg (fun q => c3 (t32.mp q)), bnd z1]
        by_cases z : which = 0
        · rw [if_pos z, if_pos z]
        · rw [if_neg z, if_neg z]
    · have bad := x3'.2 c2
      rw [prd_b c1 c2]
      refine ⟨if which = 0 then w1 else w2, m4, ?_, FY m4 x2, fun q => absurd q c2, fun _ => bad⟩
      unfold f201_34 f201_43
      simp only [KG L, if_true]
      rw [if_neg (by omega)]
      by_cases z : which = 0
      · rw [if_pos z, if_pos z]
      · rw [if_neg z, if_neg z]
  · have bad := u3'.2 c1
    rw [prd_a c1]
    simp only
    rw [if_neg (by omega)]
    refine ⟨if which = 0 then w1 else 0, m3, ?_, FY m3 u2, fun q => absurd q c1, fun _ => bad⟩
    unfold f201_34 f201_43
    simp only [KG L, if_true]
    rw [if_neg (by omega)]
    by_cases z : which = 0
    · rw [if_pos z, if_pos z]
    · rw [if_neg z, if_neg z]
