/-! WHAT A TEXT COMES TO, as the model reads it -/
section MODEL
variable {b : Int → Int} {sz : Int} {m0 : Sg} {N : Nat} {k : Nat} {rc : Nat → Nat → Sg → Option (Int × Sg)} {it : Nat → List Int → RS}
theorem opT_r (t : Int) : opT t = 0 ∨ (opT t < -6 ∧ ¬ opT t = -13 ∧ ¬ opT t = -19) := by unfold opT; split <;> omega
theorem opS_r (t : Int) : opS t = 0 ∨ (opS t < -6 ∧ ¬ opS t = -13 ∧ ¬ opS t = -19) := by unfold opS; split; omega; split <;> omega
theorem opA_r (t : Int) : opA t = 0 ∨ (opA t < -6 ∧ ¬ opA t = -13 ∧ ¬ opA t = -19) := by unfold opA; split <;> omega
theorem opO_r (t : Int) : opO t = 0 ∨ (opO t < -6 ∧ ¬ opO t = -13 ∧ ¬ opO t = -19) := by unfold opO; split <;> omega
theorem jn_18 (v w : Int) : jn (-18) v w = g_mul v w := rfl
theorem jn_17 (v w : Int) : jn (-17) v w = g_sub v w := rfl
theorem jn_16 (v w : Int) : jn (-16) v w = g_add v w := rfl
theorem jn_15 (v w : Int) : jn (-15) v w = if v = w then 1 else 0 := rfl
theorem jn_14 (v w : Int) : jn (-14) v w = if v < w then 1 else 0 := rfl
theorem jn_12 (v w : Int) : jn (-12) v w = if v = 0 then 0 else if w = 0 then 0 else 1 := rfl
theorem jn_11 (v w : Int) : jn (-11) v w = if v = 0 then (if w = 0 then 0 else 1) else 1 := rfl
theorem f195_s (L : Nat) (hH : MH b sz m0 N) (hg : GdI N it) (hi : MX b sz m0 N k (rc 194 120) it) : MX b sz m0 N k (f195 (GC L) RC rc 120) (pit (TK b sz) it opT) := by
  refine mit_s (g := f195_b3 (GC L) RC rc 120) (R := rc 194 120) hH rfl rfl opT_r hg (fun m v h => ?_) (fun m n v h hn hz => ?_) (fun m n v c h hn hz => ?_) hi (fun m => by unfold f195; rw [if_pos (show gkb (GC L) 120 15 = true from rfl)])
  · unfold f195_b3
    simp only [KG L, if_true]
    rw [bnd (f191_b L h), if_pos rfl, xr_some]
  · have e : ¬ TK b sz n = 42 := fun q => by unfold opT at hz; rw [if_pos q] at hz; omega
    unfold f195_b3
    simp only [KG L, if_true]
    rw [bnd ((f191_s L h (by omega)).2 e), if_pos rfl, xr_some]
  · have e : TK b sz n = 42 := by
      by_cases q : TK b sz n = 42
      · exact q
      · exact absurd (if_neg q) hz
    have eo : opT (TK b sz n) = -18 := if_pos e
    obtain ⟨m1, r1, r2, r3⟩ := nxt_s L hH h hn (by omega)
    obtain ⟨w, m2, s1, s2, s3⟩ := hi m1 (n + 1) c r2 r3
    refine ⟨w, m2, ?_, s2, s3⟩
    rw [eo, jn_18]
    unfold f195_b3
    simp only [KG L, if_true]
    rw [bnd ((f191_s L h (by omega)).1 e), if_neg (by exact n10), bnd r1, bnd s1]
theorem f196_s (L : Nat) (hH : MH b sz m0 N) (hg : GdI N it) (hi : MX b sz m0 N k (rc 195 120) it) : MX b sz m0 N k (f196 (GC L) RC rc 120) (pit (TK b sz) it opS) := by
  refine mit_s (g := f196_b3 (GC L) RC rc 120) (R := rc 195 120) hH rfl rfl opS_r hg (fun m v h => ?_) (fun m n v h hn hz => ?_) (fun m n v c h hn hz => ?_) hi (fun m => by unfold f196; rw [if_pos (show gkb (GC L) 120 15 = true from rfl)])
  · unfold f196_b3
    simp only [KG L, if_true]
    rw [bnd (f191_b L h), if_pos rfl, bnd (f191_b L h), if_pos rfl, xr_some]
  · have e : ¬ TK b sz n = 43 ∧ ¬ TK b sz n = 45 := by
      unfold opS at hz
      by_cases q : TK b sz n = 43
      · rw [if_pos q] at hz; omega
      · rw [if_neg q] at hz
        by_cases q2 : TK b sz n = 45
        · rw [if_pos q2] at hz; omega
        · exact ⟨q, q2⟩
    unfold f196_b3
    simp only [KG L, if_true]
    rw [bnd ((f191_s L h (by omega)).2 e.1), if_pos rfl, bnd ((f191_s L h (by omega)).2 e.2), if_pos rfl, xr_some]
  · have e : TK b sz n = 43 ∨ TK b sz n = 45 := by
      by_cases q : TK b sz n = 43
      · exact Or.inl q
      · by_cases q2 : TK b sz n = 45
        · exact Or.inr q2
        · exact absurd (by unfold opS; rw [if_neg q, if_neg q2]) hz
    obtain ⟨m1, r1, r2, r3⟩ := nxt_s L hH h hn (by omega)
    obtain ⟨w, m2, s1, s2, s3⟩ := hi m1 (n + 1) c r2 r3
    have e34 : m 120 34 = TK b sz n := (h.2.2.2.2.1.2.2.2.2 (by show 14 ≤ TK b sz n; omega)).2
    refine ⟨w, m2, ?_, s2, s3⟩
    have go : f196_11 (GC L) RC rc 120 v m = some (Sum.inl (jn (opS (TK b sz n)) v w, m2)) := by
      unfold f196_11 f196_19
      simp only [KG L, if_true]
      rw [e34, bnd r1, bnd s1]
      by_cases q : TK b sz n = 43
      · rw [if_pos q, show opS (TK b sz n) = -16 from if_pos q, jn_16, if_neg (by exact n10)]
      · rw [if_neg q, show opS (TK b sz n) = -17 by unfold opS; rw [if_neg q, if_pos (by omega)], jn_17, bnd r1, bnd s1]
    unfold f196_b3
    simp only [KG L, if_true]
    by_cases q : TK b sz n = 43
    · rw [bnd ((f191_s L h (by omega)).1 q), if_neg (by exact n10), go]
    · rw [bnd ((f191_s L h (by omega)).2 q), if_pos rfl, bnd ((f191_s L h (by omega)).1 (show TK b sz n = 45 by omega)), if_neg (by exact n10), go]
theorem f198_s (L : Nat) (hH : MH b sz m0 N) (hg : GdI N it) (hi : MX b sz m0 N k (rc 197 120) it) : MX b sz m0 N k (f198 (GC L) RC rc 120) (pit (TK b sz) it opA) := by
  refine mit_s (g := f198_b3 (GC L) RC rc 120) (R := rc 197 120) hH rfl rfl opA_r hg (fun m v h => ?_) (fun m n v h hn hz => ?_) (fun m n v c h hn hz => ?_) hi (fun m => by unfold f198; rw [if_pos (show gkb (GC L) 120 15 = true from rfl)])
  · unfold f198_b3
    simp only [KG L, if_true]
    rw [bnd (f190_b L h), if_pos rfl, xr_some]
  · have e : ¬ TK b sz n = 6 := fun q => by unfold opA at hz; rw [if_pos q] at hz; omega
    unfold f198_b3
    simp only [KG L, if_true]
    rw [show (1111 : Int) = hsv 4 from rfl, bnd ((f190_s L h (by omega)).2 e), if_pos rfl, xr_some]
  · have e : TK b sz n = 6 := by
      by_cases q : TK b sz n = 6
      · exact q
      · exact absurd (if_neg q) hz
    have eo : opA (TK b sz n) = -12 := if_pos e
    obtain ⟨m1, r1, r2, r3⟩ := nxt_s L hH h hn (by omega)
    obtain ⟨w, m2, s1, s2, s3⟩ := hi m1 (n + 1) c r2 r3
    refine ⟨w, m2, ?_, s2, s3⟩
    rw [eo, jn_12]
    unfold f198_b3
    simp only [KG L, if_true]
    rw [show (1111 : Int) = hsv 4 from rfl, bnd ((f190_s L h (by omega)).1 e), if_neg (by exact n10), bnd r1, bnd s1]
    by_cases q : v = 0
    · simp only [if_pos q]
    · simp only [if_neg q]
      by_cases q2 : w = 0
      · simp only [if_pos q2]
      · simp only [if_neg q2]
theorem f199_s (L : Nat) (hH : MH b sz m0 N) (hg : GdI N it) (hi : MX b sz m0 N k (rc 198 120) it) : MX b sz m0 N k (f199 (GC L) RC rc 120) (pit (TK b sz) it opO) := by
  refine mit_s (g := f199_b3 (GC L) RC rc 120) (R := rc 198 120) hH rfl rfl opO_r hg (fun m v h => ?_) (fun m n v h hn hz => ?_) (fun m n v c h hn hz => ?_) hi (fun m => by unfold f199; rw [if_pos (show gkb (GC L) 120 15 = true from rfl)])
  · unfold f199_b3
    simp only [KG L, if_true]
    rw [bnd (f190_b L h), if_pos rfl, xr_some]
  · have e : ¬ TK b sz n = 5 := fun q => by unfold opO at hz; rw [if_pos q] at hz; omega
    unfold f199_b3
    simp only [KG L, if_true]
    rw [show (423 : Int) = hsv 3 from rfl, bnd ((f190_s L h (by omega)).2 e), if_pos rfl, xr_some]
  · have e : TK b sz n = 5 := by
      by_cases q : TK b sz n = 5
      · exact q
      · exact absurd (if_neg q) hz
    have eo : opO (TK b sz n) = -11 := if_pos e
    obtain ⟨m1, r1, r2, r3⟩ := nxt_s L hH h hn (by omega)
    obtain ⟨w, m2, s1, s2, s3⟩ := hi m1 (n + 1) c r2 r3
    refine ⟨w, m2, ?_, s2, s3⟩
    rw [eo, jn_11]
    unfold f199_b3
    simp only [KG L, if_true]
    rw [show (423 : Int) = hsv 3 from rfl, bnd ((f190_s L h (by omega)).1 e), if_neg (by exact n10), bnd r1, bnd s1]
    by_cases q : v = 0
    · simp only [if_pos q]
      by_cases q2 : w = 0
      · simp only [if_pos q2]
      · simp only [if_neg q2]
    · simp only [if_neg q]
/-- comparing -/
theorem m197a_s (L : Nat) (hH : MH b sz m0 N) (hg : GdI N it) (hi : MX b sz m0 N k (rc 196 120) it) (m : Sg) (n : Nat) (c : List Int) (h : MP b sz m0 k m n) (hn : n ≤ N) : ∃ w m', (Option.bind (rc 196 120 m) fun q4 => Option.bind (f191 (GC L) RC 120 60 q4.2) fun q5 => if q5 = 0 then (Option.bind (f191 (GC L) RC 120 61 q4.2) fun q7 => if q7 = 0 then (some (q4.1, q4.2)) else (f197_37 (GC L) RC rc 120 q4.1 q4.2)) else (f197_37 (GC L) RC rc 120 q4.1 q4.2)) = some (w, m') ∧ FrX m0 m' ∧ MR b sz m0 k (pcm (TK b sz) it n c) c w m' := by
  obtain ⟨v, m1, r1, r2, r3⟩ := hi m n c h hn
  rw [bnd r1]
  by_cases c2 : (it n c).1 = true
  · obtain ⟨s1, cd1, s2, s3⟩ := r3.1 c2
    obtain ⟨g1, g2, g3, g4⟩ := hg n c hn
    by_cases c0 : TK b sz (it n c).2.1 = 60 ∨ TK b sz (it n c).2.1 = 61
    · obtain ⟨m2, t1, t2, t3⟩ := nxt_s L hH s1 g2 (by omega)
      obtain ⟨w, m3, u1, u2, u3⟩ := hi m2 ((it n c).2.1 + 1) (it n c).2.2 t2 t3
      have e34 : m1 120 34 = TK b sz (it n c).2.1 := (s1.2.2.2.2.1.2.2.2.2 (by show 14 ≤ TK b sz (it n c).2.1; omega)).2
      generalize hd : (if TK b sz (it n c).2.1 = 60 then (-14 : Int) else -15) = d
      have hdv : d = -14 ∨ d = -15 := by
        rw [← hd]; split
        · exact Or.inl rfl
        · exact Or.inr rfl
      have go : f197_37 (GC L) RC rc 120 v m1 = some (jn d v w, m3) := by
        unfold f197_37 f197_45
        simp only [KG L, if_true]
        rw [e34, bnd t1, bnd u1]
        by_cases q : TK b sz (it n c).2.1 = 60
        · rw [if_pos q] at hd
          rw [if_pos q, ← hd, jn_14, if_neg (by exact n10)]
          by_cases z : v < w
          · simp only [if_pos z]
          · simp only [if_neg z]
        · rw [if_neg q] at hd
          rw [if_neg q, bnd t1, bnd u1, ← hd, jn_15]
          by_cases z : v = w
          · simp only [if_pos z]
          · simp only [if_neg z]
      refine ⟨jn d v w, m3, ?_, u2, ?_⟩
      · simp only
        by_cases q : TK b sz (it n c).2.1 = 60
        · rw [bnd ((f191_s L s1 (by omega)).1 q), if_neg (by exact n10), go]
        · rw [bnd ((f191_s L s1 (by omega)).2 q), if_pos rfl, bnd ((f191_s L s1 (by omega)).1 (show TK b sz (it n c).2.1 = 61 by omega)), if_neg (by exact n10), go]
      · by_cases c3 : (it ((it n c).2.1 + 1) (it n c).2.2).1 = true
        · obtain ⟨v1, cd2, v2, v3⟩ := u3.1 c3
          have e := pcm_y (T := TK b sz) c2 c0 c3
          have ee : (it ((it n c).2.1 + 1) (it n c).2.2).2.2 ++ [d] = c ++ (cd1 ++ cd2 ++ [d]) := by
            rw [v2, s2]; simp only [List.append_assoc]
          rw [hd, ee] at e
          exact MR_y e v1 (fun st => by rw [evl_a, evl_a, s3, v3, evl_1, ev1_j (by omega) (by omega) (by omega)])
        · have bad := u3.2 c3
          rw [pcm_f c2 c0 c3]
          exact ⟨fun q => absurd q c3, fun _ => bad⟩
    · refine ⟨v, m1, ?_, r2, ?_⟩
      · simp only
        rw [bnd ((f191_s L s1 (by omega)).2 (fun q => c0 (Or.inl q))), if_pos rfl, bnd ((f191_s L s1 (by omega)).2 (fun q => c0 (Or.inr q))), if_pos rfl]
      · rw [pcm_o c2 c0]; exact r3
  · have bad := r3.2 c2
    refine ⟨v, m1, ?_, r2, ?_⟩
    · simp only
      rw [bnd (f191_b L bad.1), if_pos rfl, bnd (f191_b L bad.1), if_pos rfl]
    · rw [pcm_n c2]; exact r3
theorem f197_s (L : Nat) {ng : Nat → List Int → RS} (hH : MH b sz m0 N) (hk : k ≤ 5) (hg : GdI N it) (hi : MX b sz m0 N k (rc 196 120) it) (h1 : ∀ k', k = k' + 1 → GdI N ng ∧ MX b sz m0 N k' (rc 197 120) ng) : MX b sz m0 N k (f197 (GC L) RC rc 120) (pno (TK b sz) k ng (pcm (TK b sz) it)) := by
  intro m n c h hn
  unfold f197
  rw [if_pos (show gkb (GC L) 120 15 = true from rfl), show (10631 : Int) = hsv 5 from rfl]
  by_cases c1 : TK b sz n = 7
  · rw [bnd ((f190_s L h (by omega)).1 c1), if_neg (by exact n10)]
    have h192 := f192_s L hH h hn (by omega) hk
    by_cases c2 : k = 0
    · obtain ⟨m1, r1, r2, r3⟩ := h192.1 c2
      rw [pno_0 c1 c2, bnd r1, if_pos rfl]
      exact ⟨0, m1, rfl, r2, MR_n rfl r3⟩
    · obtain ⟨k', hk'⟩ : ∃ k', k = k' + 1 := ⟨k - 1, by omega⟩
      obtain ⟨m1, r1, r2, r3⟩ := h192.2 k' hk'
      obtain ⟨hgn, hin⟩ := h1 k' hk'
      obtain ⟨w, m2, s1, s2, s3⟩ := hin m1 (n + 1) c r2 r3
      rw [bnd r1, if_neg (by exact n10), bnd s1]
      refine ⟨if w = 0 then 1 else 0, put m2 120 36 (g_sub (m2 120 36) 1), ?_, FrX_p s2 (by omega), ?_⟩
      · by_cases z : w = 0
        · simp only [if_pos z]
        · simp only [if_neg z]
      · by_cases c3 : (ng (n + 1) c).1 = true
        · obtain ⟨v1, cd2, v2, v3⟩ := s3.1 c3
          have e := pno_y (T := TK b sz) (cm := pcm (TK b sz) it) c1 c2 c3
          rw [v2, List.append_assoc] at e
          refine MR_y e ?_ (fun st => by rw [evl_a, v3, evl_1, ev1_n])
          rw [hk']
          exact cls_s v1 (by omega)
        · have bad := s3.2 c3
          rw [pno_f c1 c2 c3]
          exact ⟨fun q => absurd q c3, fun _ => ⟨by rw [put_nj (by decide)]; exact bad.1, by rw [put_nj (by decide)]; exact bad.2⟩⟩
  · rw [bnd ((f190_s L h (by omega)).2 c1), if_pos rfl, pno_o c1]
    exact m197a_s L hH hg hi m n c h hn
theorem f193_s (L : Nat) {m : Sg} {n : Nat} (h : MP b sz m0 k m n) : (8 ≤ TK b sz n ∧ TK b sz n < 14 → f193 (GC L) RC 120 m = some (fvm m0 (TK b sz n - 8), m)) ∧ (¬ (8 ≤ TK b sz n ∧ TK b sz n < 14) → ∃ m', f193 (GC L) RC 120 m = some (0, m') ∧ FrX m0 m' ∧ m' 120 37 = 1 ∧ m' 120 38 = SP b sz n) := by
  have q := fun (j : Nat) (hj : 1 ≤ j ∧ j ≤ 11) => f190_s L h hj
  have fr : ∀ i, 39 ≤ i → m 120 i = m0 120 i := fun i hi => h.1 120 i (by omega)
  unfold f193
  rw [if_pos (show gkb (GC L) 120 15 = true from rfl), show (495765 : Int) = hsv 6 from rfl, show (17186 : Int) = hsv 7 from rfl, show (247664 : Int) = hsv 8 from rfl, show (2140353280 : Int) = hsv 9 from rfl, show (10495135 : Int) = hsv 10 from rfl, show (11570 : Int) = hsv 11 from rfl, fr 39 (by omega), fr 40 (by omega), fr 41 (by omega), fr 42 (by omega), fr 43 (by omega), fr 44 (by omega)]
  constructor
  · intro c
    have : TK b sz n = 8 ∨ TK b sz n = 9 ∨ TK b sz n = 10 ∨ TK b sz n = 11 ∨ TK b sz n = 12 ∨ TK b sz n = 13 := by omega
    rcases this with e | e | e | e | e | e
    · rw [bnd ((q 6 (by omega)).1 (by omega)), if_neg (by exact n10), e]; rfl
    · rw [bnd ((q 6 (by omega)).2 (by omega)), if_pos rfl, bnd ((q 7 (by omega)).1 (by omega)), if_neg (by exact n10), e]; rfl
    · rw [bnd ((q 6 (by omega)).2 (by omega)), if_pos rfl, bnd ((q 7 (by omega)).2 (by omega)), if_pos rfl, bnd ((q 8 (by omega)).1 (by omega)), if_neg (by exact n10), e]; rfl
    · rw [bnd ((q 6 (by omega)).2 (by omega)), if_pos rfl, bnd ((q 7 (by omega)).2 (by omega)), if_pos rfl, bnd ((q 8 (by omega)).2 (by omega)), if_pos rfl, bnd ((q 9 (by omega)).1 (by omega)), if_neg (by exact n10), e]; rfl
    · rw [bnd ((q 6 (by omega)).2 (by omega)), if_pos rfl, bnd ((q 7 (by omega)).2 (by omega)), if_pos rfl, bnd ((q 8 (by omega)).2 (by omega)), if_pos rfl, bnd ((q 9 (by omega)).2 (by omega)), if_pos rfl, bnd ((q 10 (by omega)).1 (by omega)), if_neg (by exact n10), e]; rfl
    · rw [bnd ((q 6 (by omega)).2 (by omega)), if_pos rfl, bnd ((q 7 (by omega)).2 (by omega)), if_pos rfl, bnd ((q 8 (by omega)).2 (by omega)), if_pos rfl, bnd ((q 9 (by omega)).2 (by omega)), if_pos rfl, bnd ((q 10 (by omega)).2 (by omega)), if_pos rfl, bnd ((q 11 (by omega)).1 (by omega)), if_neg (by exact n10), e]; rfl
  · intro c
    obtain ⟨m', r1, r2⟩ := f189_s L h
    rw [bnd ((q 6 (by omega)).2 (by omega)), if_pos rfl, bnd ((q 7 (by omega)).2 (by omega)), if_pos rfl, bnd ((q 8 (by omega)).2 (by omega)), if_pos rfl, bnd ((q 9 (by omega)).2 (by omega)), if_pos rfl, bnd ((q 10 (by omega)).2 (by omega)), if_pos rfl, bnd ((q 11 (by omega)).2 (by omega)), if_pos rfl, bnd r1]
    exact ⟨m', rfl, r2⟩
theorem NV_b (hH : MH b sz m0 N) {n : Nat} (h : TK b sz n = 2) : 0 ≤ NV b sz n ∧ NV b sz n < 10000 := by
  have h0 := hH.1.2.1
  have hs : SP b sz n < sz := by
    by_cases c : SP b sz n < sz
    · exact c
    · have := (tko_z (b := b)).mpr c
      unfold TK at h
      omega
  have tb := ten_b (b := b) hs
  have spb := SP_b (b := b) h0 n
  unfold NV
  unfold TK at h
  generalize SP b sz n = p at *
  have dg : (¬ ltr (b p) = true) ∧ dgt (b p) = true ∧ ten b sz p - p ≤ 4 := by
    unfold tko at h
    rw [if_pos hs] at h
    split at h
    · have := wdc_r (b := b) p (ten b sz p); omega
    · rename_i nl
      split at h
      · rename_i d
        split at h
        · rename_i d2; exact ⟨nl, d, d2⟩
        · omega
      · split at h
        · rename_i d
          have := of_decide_eq_true d
          omega
        · omega
  have hd : ∀ i, p ≤ i → i < ten b sz p → 48 ≤ b i ∧ b i ≤ 57 := fun i h1 h2 => by
    by_cases e : i = p
    · subst e; exact dgt_t.mp dg.2.1
    · unfold ten at h2
      rw [if_neg dg.1, if_pos dg.2.1] at h2
      exact dgt_t.mp (rn_i (P := dgt) (b := b) (sz := sz) 161 (p + 1) i (by omega) h2)
  have nb := nm_b (b := b) hd (ten b sz p - p).toNat (by omega)
  have pw : ∀ z : Fin 5, (10 : Int) ^ z.val ≤ 10000 := by decide +kernel
  have := pw ⟨(ten b sz p - p).toNat, by omega⟩
  simp only at this
  omega
theorem f194_s (L : Nat) {r1 rE : Nat → List Int → RS} (hH : MH b sz m0 N) (hk : k ≤ 5) (h1 : ∀ k', k = k' + 1 → GdI N r1 ∧ MX b sz m0 N k' (rc 194 120) r1) (hE : ∀ k', k = k' + 1 → GdI N rE ∧ MX b sz m0 N k' (rc 199 120) rE) : MX b sz m0 N k (f194 (GC L) RC rc 120) (pon (TK b sz) (NV b sz) k r1 rE) := by
  intro m n c h hn
  have h' := h
  obtain ⟨m1', m2', m3', m4', m5', m6'⟩ := h'
  obtain ⟨t0, t1, t2, t3, t4⟩ := m5'
  have tr := tko_r (b := b) (sz := sz) (SP b sz n)
  have h192 := fun ht => f192_s L hH h hn ht hk
  unfold f194
  rw [if_pos (show gkb (GC L) 120 15 = true from rfl)]
  by_cases c45 : TK b sz n = 45
  · rw [bnd ((f191_s L h (by omega)).1 c45), if_neg (by exact n10)]
    by_cases c2 : k = 0
    · obtain ⟨q, r1, r2, r3⟩ := (h192 (by omega)).1 c2
      rw [pon_0 (by omega) (by omega) c2, bnd r1, if_pos rfl]
      exact ⟨0, q, rfl, r2, MR_n rfl r3⟩
    · obtain ⟨k', hk'⟩ : ∃ k', k = k' + 1 := ⟨k - 1, by omega⟩
      obtain ⟨q, u1, u2, u3⟩ := (h192 (by omega)).2 k' hk'
      obtain ⟨hgn, hin⟩ := h1 k' hk'
      obtain ⟨w, m2, s1, s2, s3⟩ := hin q (n + 1) c u2 u3
      rw [bnd u1, if_neg (by exact n10), bnd s1]
      refine ⟨g_neg w, put m2 120 36 (g_sub (m2 120 36) 1), rfl, FrX_p s2 (by omega), ?_⟩
      by_cases c3 : (r1 (n + 1) c).1 = true
      · obtain ⟨v1, cd2, v2, v3⟩ := s3.1 c3
        have e := pon_my (V := NV b sz) (rE := rE) c45 c2 c3
        rw [v2, List.append_assoc] at e
        refine MR_y e ?_ (fun st => by rw [evl_a, v3, evl_1, ev1_m])
        rw [hk']
        exact cls_s v1 (by omega)
      · have bad := s3.2 c3
        rw [pon_mn c45 c2 c3]
        exact ⟨fun q => absurd q c3, fun _ => ⟨by rw [put_nj (by decide)]; exact bad.1, by rw [put_nj (by decide)]; exact bad.2⟩⟩
  rw [bnd ((f191_s L h (by omega)).2 c45), if_pos rfl]
  by_cases c40 : TK b sz n = 40
  · rw [bnd ((f191_s L h (by omega)).1 c40), if_neg (by exact n10)]
    by_cases c2 : k = 0
    · obtain ⟨q, r1, r2, r3⟩ := (h192 (by omega)).1 c2
      rw [pon_0 (by omega) (by omega) c2, bnd r1, if_pos rfl]
      exact ⟨0, q, rfl, r2, MR_n rfl r3⟩
    · obtain ⟨k', hk'⟩ : ∃ k', k = k' + 1 := ⟨k - 1, by omega⟩
      obtain ⟨q, u1, u2, u3⟩ := (h192 (by omega)).2 k' hk'
      obtain ⟨hgn, hin⟩ := hE k' hk'
      obtain ⟨w, m2, s1, s2, s3⟩ := hin q (n + 1) c u2 u3
      obtain ⟨g1, g2, g3, g4⟩ := hgn (n + 1) c u3
      rw [bnd u1, if_neg (by exact n10), bnd s1]
      have badp : ∀ (m3 : Sg) (p : Int), FrX m0 m3 → m3 120 37 = 1 ∧ m3 120 38 = p → ∃ m4, f194_36 (GC L) RC rc 120 w m3 = some (w, m4) ∧ FrX m0 m4 ∧ m4 120 37 = 1 ∧ m4 120 38 = p := by
        intro m3 p z1 z2
        unfold f194_36
        simp only [KG L, if_true]
        rw [put_nj (by decide), if_neg (by omega)]
        exact ⟨_, rfl, FrX_p z1 (by omega), by rw [put_nj (by decide)]; exact z2.1, by rw [put_nj (by decide)]; exact z2.2⟩
      by_cases c3 : (rE (n + 1) c).1 = true
      · obtain ⟨v1, cd2, v2, v3⟩ := s3.1 c3
        by_cases c4 : TK b sz (rE (n + 1) c).2.1 = 41
        · simp only
          rw [bnd ((f191_s L v1 (by omega)).1 c4), if_neg (by exact n10)]
          have cl := cls_s v1 (show k' < 5 by omega)
          rw [← hk'] at cl
          obtain ⟨m3, w1, w2, w3⟩ := nxt_s L hH cl g2 (by omega)
          refine ⟨w, m3, ?_, w2.1, ?_⟩
          · unfold f194_36
            simp only [KG L, if_true]
            rw [cl.2.1, if_pos rfl, bnd w1]
          · have e := pon_py (V := NV b sz) (r1 := r1) c40 c2 c3 c4
            rw [v2] at e
            exact MR_y e w2 v3
        · simp only
          rw [bnd ((f191_s L v1 (by omega)).2 c4), if_pos rfl]
          obtain ⟨m3, w1, w2, w3⟩ := f189_s L v1
          rw [bnd w1]
          obtain ⟨m4, z1, z2, z3⟩ := badp m3 _ w2 w3
          exact ⟨w, m4, z1, z2, MR_n (pon_pc c40 c2 c3 c4) z3⟩
      · have bad := s3.2 c3
        simp only
        rw [bnd (f191_b L bad.1), if_pos rfl, bnd (f189_b L bad.1)]
        obtain ⟨m4, z1, z2, z3⟩ := badp m2 _ s2 bad
        refine ⟨w, m4, z1, z2, ?_⟩
        rw [pon_pn c40 c2 c3]
        exact ⟨fun q => absurd q c3, fun _ => z3⟩
  rw [bnd ((f191_s L h (by omega)).2 c40), if_pos rfl, if_pos m2']
  have fail : ∃ m', f194_78 (GC L) RC rc 120 0 m = some (0, m') ∧ FrX m0 m' ∧ m' 120 37 = 1 ∧ m' 120 38 = SP b sz n := by
    obtain ⟨m', r1, r2⟩ := f189_s L h
    unfold f194_78
    rw [if_pos (show gkb (GC L) 120 15 = true from rfl), bnd r1]
    exact ⟨m', rfl, r2⟩
  have t2' : TK b sz n = 2 → m 120 32 = 2 ∧ m 120 34 = NV b sz n := t2
  by_cases cn : TK b sz n = 2
  · obtain ⟨e1, e2⟩ := t2' cn
    obtain ⟨m', r1, r2, r3⟩ := nxt_s L hH h hn (by omega)
    have nb := NV_b hH cn
    rw [if_pos e1, bnd r1, e2, w32_i (by omega) (by omega)]
    exact ⟨_, m', rfl, r2.1, MR_y (pon_v cn) r2 (fun st => by rw [evl_1, ev1_v nb.1])⟩
  have n32 : ¬ m 120 32 = 2 := by
    have t0' : TK b sz n = 0 → m 120 32 = 0 := t0
    have t1' : TK b sz n = 1 → m 120 32 = 4 ∨ m 120 32 = 1 := fun q => (t1 q).imp id And.left
    have t3' : 3 ≤ TK b sz n ∧ TK b sz n ≤ 13 → m 120 32 = 1 := fun q => (t3 q).1
    have t4' : 14 ≤ TK b sz n → m 120 32 = 3 := fun q => (t4 q).1
    have tr' : 0 ≤ TK b sz n := tr.1
    intro q
    by_cases a0 : TK b sz n = 0
    · have := t0' a0; omega
    by_cases a1 : TK b sz n = 1
    · have := t1' a1; omega
    by_cases a3 : TK b sz n ≤ 13
    · have := t3' (by omega); omega
    · have := t4' (by omega); omega
  rw [if_neg n32]
  unfold f194_62
  rw [if_pos (show gkb (GC L) 120 15 = true from rfl), if_pos m2']
  by_cases cf : 8 ≤ TK b sz n ∧ TK b sz n < 14
  · have e32 : m 120 32 = 1 := (t3 (by show 3 ≤ TK b sz n ∧ TK b sz n ≤ 13; omega)).1
    obtain ⟨m', r1, r2, r3⟩ := nxt_s L hH h hn (by omega)
    rw [if_pos e32, bnd ((f193_s L h).1 cf), if_pos m2', bnd r1]
    refine ⟨_, m', rfl, r2.1, MR_y (pon_f cf) r2 (fun st => by rw [evl_1, ev1_f (by omega) (by omega)])⟩
  · have res : ∃ m', (if m 120 32 = 1 then (Option.bind (f193 (GC L) RC 120 m) fun q12 => if (q12.2 120 37) = 0 then (Option.bind (f188 (GC L) RC 120 q12.2) fun q14 => some (q12.1, q14)) else (some (q12.1, q12.2))) else (f194_78 (GC L) RC rc 120 0 m)) = some (0, m') ∧ FrX m0 m' ∧ m' 120 37 = 1 ∧ m' 120 38 = SP b sz n := by
      by_cases e32 : m 120 32 = 1
      · obtain ⟨m', r1, r2, r3, r4⟩ := (f193_s L h).2 cf
        rw [if_pos e32, bnd r1]
        simp only
        rw [if_neg (by omega)]
        exact ⟨m', rfl, r2, r3, r4⟩
      · rw [if_neg e32]; exact fail
    obtain ⟨m', r1, r2, r3⟩ := res
    refine ⟨0, m', r1, r2, ?_⟩
    by_cases c2 : k = 0
    · exact MR_n (pon_0 cf cn c2) r3
    · exact MR_n (pon_e cf cn c2 c45 c40) r3
end MODEL
/-- all of the grammar -/
theorem FnM_194 (G : Gg) (ρ : Rg) (n : Nat) : FnM G ρ (n + 1) 194 = f194 G ρ (FnM G ρ n) := by funext a m; rfl
theorem FnM_195 (G : Gg) (ρ : Rg) (n : Nat) : FnM G ρ (n + 1) 195 = f195 G ρ (FnM G ρ n) := by funext a m; rfl
theorem FnM_196 (G : Gg) (ρ : Rg) (n : Nat) : FnM G ρ (n + 1) 196 = f196 G ρ (FnM G ρ n) := by funext a m; rfl
theorem FnM_197 (G : Gg) (ρ : Rg) (n : Nat) : FnM G ρ (n + 1) 197 = f197 G ρ (FnM G ρ n) := by funext a m; rfl
theorem FnM_198 (G : Gg) (ρ : Rg) (n : Nat) : FnM G ρ (n + 1) 198 = f198 G ρ (FnM G ρ n) := by funext a m; rfl
theorem FnM_199 (G : Gg) (ρ : Rg) (n : Nat) : FnM G ρ (n + 1) 199 = f199 G ρ (FnM G ρ n) := by funext a m; rfl
theorem FnM_s (L : Nat) {b : Int → Int} {sz : Int} {m0 : Sg} {N : Nat} (hH : MH b sz m0 N) : ∀ k : Nat, k ≤ 5 → (∀ F, 6 * k + 1 ≤ F → MX b sz m0 N k (FnM (GC L) RC F 194 120) (pA (TK b sz) (NV b sz) k 31)) ∧ (∀ F, 6 * k + 4 ≤ F → MX b sz m0 N k (FnM (GC L) RC F 197 120) (pA (TK b sz) (NV b sz) k 27)) ∧ (∀ F, 6 * k + 6 ≤ F → MX b sz m0 N k (FnM (GC L) RC F 199 120) (pA (TK b sz) (NV b sz) k 25)) := by
  have step : ∀ k : Nat, k ≤ 5 → (∀ k', k = k' + 1 → ∀ F, 6 * k ≤ F → (GdI N (pR (TK b sz) (NV b sz) k 31) ∧ MX b sz m0 N k' (FnM (GC L) RC F 194 120) (pR (TK b sz) (NV b sz) k 31)) ∧ (GdI N (pR (TK b sz) (NV b sz) k 27) ∧ MX b sz m0 N k' (FnM (GC L) RC F 197 120) (pR (TK b sz) (NV b sz) k 27)) ∧ (GdI N (pR (TK b sz) (NV b sz) k 25) ∧ MX b sz m0 N k' (FnM (GC L) RC F 199 120) (pR (TK b sz) (NV b sz) k 25))) → (∀ F, 6 * k + 1 ≤ F → MX b sz m0 N k (FnM (GC L) RC F 194 120) (pA (TK b sz) (NV b sz) k 31)) ∧ (∀ F, 6 * k + 4 ≤ F → MX b sz m0 N k (FnM (GC L) RC F 197 120) (pA (TK b sz) (NV b sz) k 27)) ∧ (∀ F, 6 * k + 6 ≤ F → MX b sz m0 N k (FnM (GC L) RC F 199 120) (pA (TK b sz) (NV b sz) k 25)) := by
    intro k hk h
    obtain ⟨g1, g2, g3, g4, g5, g6, g7⟩ := GdI_A (T := TK b sz) (V := NV b sz) (MH_0 hH) k
    have a31 : ∀ F, 6 * k + 1 ≤ F → MX b sz m0 N k (FnM (GC L) RC F 194 120) (pA (TK b sz) (NV b sz) k 31) := by
      intro F hF
      obtain ⟨F, rfl⟩ : ∃ x, F = x + 1 := ⟨F - 1, by omega⟩
      rw [pA_31, FnM_194]
      exact f194_s L hH hk (fun k' q => ((h k' q) F (by omega)).1) (fun k' q => ((h k' q) F (by omega)).2.2)
    have a30 : ∀ F, 6 * k + 2 ≤ F → MX b sz m0 N k (FnM (GC L) RC F 195 120) (pA (TK b sz) (NV b sz) k 30) := by
      intro F hF
      obtain ⟨F, rfl⟩ : ∃ x, F = x + 1 := ⟨F - 1, by omega⟩
      rw [pA_30, FnM_195]
      exact f195_s L hH g1 (a31 F (by omega))
    have a29 : ∀ F, 6 * k + 3 ≤ F → MX b sz m0 N k (FnM (GC L) RC F 196 120) (pA (TK b sz) (NV b sz) k 29) := by
      intro F hF
      obtain ⟨F, rfl⟩ : ∃ x, F = x + 1 := ⟨F - 1, by omega⟩
      rw [pA_29, FnM_196]
      exact f196_s L hH g2 (a30 F (by omega))
    have a27 : ∀ F, 6 * k + 4 ≤ F → MX b sz m0 N k (FnM (GC L) RC F 197 120) (pA (TK b sz) (NV b sz) k 27) := by
      intro F hF
      obtain ⟨F, rfl⟩ : ∃ x, F = x + 1 := ⟨F - 1, by omega⟩
      rw [pA_27, pA_28, FnM_197]
      exact f197_s L hH hk g3 (a29 F (by omega)) (fun k' q => ((h k' q) F (by omega)).2.1)
    have a26 : ∀ F, 6 * k + 5 ≤ F → MX b sz m0 N k (FnM (GC L) RC F 198 120) (pA (TK b sz) (NV b sz) k 26) := by
      intro F hF
      obtain ⟨F, rfl⟩ : ∃ x, F = x + 1 := ⟨F - 1, by omega⟩
      rw [pA_26, FnM_198]
      exact f198_s L hH g5 (a27 F (by omega))
    refine ⟨a31, a27, fun F hF => ?_⟩
    obtain ⟨F, rfl⟩ : ∃ x, F = x + 1 := ⟨F - 1, by omega⟩
    rw [pA_25, FnM_199]
    exact f199_s L hH g6 (a26 F (by omega))
  intro k
  induction k with
  | zero => intro _; exact step 0 (by omega) (fun k' q => by omega)
  | succ k ih =>
    intro hk
    obtain ⟨i1, i2, i3⟩ := ih (by omega)
    obtain ⟨g1, g2, g3, g4, g5, g6, g7⟩ := GdI_A (T := TK b sz) (V := NV b sz) (MH_0 hH) k
    refine step (k + 1) hk (fun k' hk' F hF => ?_)
    have e : k = k' := by omega
    subst e
    exact ⟨⟨g1, i1 F (by omega)⟩, ⟨g5, i2 F (by omega)⟩, ⟨g7, i3 F (by omega)⟩⟩
