/-! CASE 24: years -/
def ynx (tk kp S : Int → Int) (s : Int) : Int := if ¬ S s = -1 ∧ kp (S s) = 0 then -1 else if ¬ S ((s + 1) % 8) = -1 ∧ (if ¬ S ((s + 7) % 8) = -1 ∧ (if S s = -1 then -1000000 else tk (S s)) < tk (S ((s + 7) % 8)) then tk (S ((s + 7) % 8)) else (if S s = -1 then -1000000 else tk (S s))) < tk (S ((s + 1) % 8)) then S ((s + 1) % 8) else if ¬ S ((s + 7) % 8) = -1 ∧ (if S s = -1 then -1000000 else tk (S s)) < tk (S ((s + 7) % 8)) then S ((s + 7) % 8) else S s
theorem ynx_c {tk kp S S' : Int → Int} (h : ∀ s, 0 ≤ s → s < 8 → S s = S' s) {s : Int} (h0 : 0 ≤ s) (h8 : s < 8) : ynx tk kp S s = ynx tk kp S' s := by
  unfold ynx
  rw [h s h0 h8, h ((s + 7) % 8) (by omega) (by omega), h ((s + 1) % 8) (by omega) (by omega)]
theorem ite3 (P Q R : Prop) (a b c d : Int) {h1 : Decidable P} {h2 : Decidable Q} {h3 : Decidable R} : (if P then a else if Q then b else if R then c else d) = a ∨ (if P then a else if Q then b else if R then c else d) = b ∨ (if P then a else if Q then b else if R then c else d) = c ∨ (if P then a else if Q then b else if R then c else d) = d := by
  by_cases p : P
  · exact Or.inl (if_pos p)
  · by_cases q : Q
    · exact Or.inr (Or.inl (by rw [if_neg p, if_pos q]))
    · by_cases r : R
      · exact Or.inr (Or.inr (Or.inl (by rw [if_neg p, if_neg q, if_pos r])))
      · exact Or.inr (Or.inr (Or.inr (by rw [if_neg p, if_neg q, if_neg r])))
theorem ynx_b {tk kp S : Int → Int} {T : Int} (hT : 0 ≤ T) (h : ∀ s, 0 ≤ s → s < 8 → -1 ≤ S s ∧ S s < T) {s : Int} (h0 : 0 ≤ s) (h8 : s < 8) : -1 ≤ ynx tk kp S s ∧ ynx tk kp S s < T := by
  have a := h s h0 h8
  have b := h ((s + 7) % 8) (by omega) (by omega)
  have c := h ((s + 1) % 8) (by omega) (by omega)
  have e : ynx tk kp S s = -1 ∨ ynx tk kp S s = S ((s + 1) % 8) ∨ ynx tk kp S s = S ((s + 7) % 8) ∨ ynx tk kp S s = S s := ite3 _ _ _ _ _ _ _
  rcases e with e | e | e | e <;> rw [e] <;> omega
def YS (n : Int) (m : Sg) (y : Int) (S : Int → Int) : Nat → Int → Int
  | 0 => S
  | j + 1 => ynx (fun t => vls n m t (y + (j : Int) + 1) 0) (fun t => vls n m t (y + (j : Int) + 1) 1) (YS n m y S j)
theorem YS_b {n y T : Int} {m : Sg} {S : Int → Int} (hT : 0 ≤ T) (h : ∀ s, 0 ≤ s → s < 8 → -1 ≤ S s ∧ S s < T) : ∀ (j : Nat) (s : Int), 0 ≤ s → s < 8 → -1 ≤ YS n m y S j s ∧ YS n m y S j s < T
  | 0, s, h0, h8 => h s h0 h8
  | j + 1, s, h0, h8 => ynx_b hT (fun u a b => YS_b hT h j u a b) h0 h8
section YEARS
variable {n : Int} {m : Sg}
/-- what the streets' tellings come to, as the class writes it down -/
theorem f141_s (L : Nat) {S : Int → Int} (h : RelT n m) (hS : ∀ s, 0 ≤ s → s < 8 → m 36 s = S s ∧ -1 ≤ S s ∧ S s < m 82 9) : ∃ m1, f141 (GC L) RC 1 m = some m1 ∧ Sm m m1 ∧ ∀ s, 0 ≤ s → s < 8 → m1 38 s = (if S s = -1 then -1000000 else vls n m (S s) (m 1 13) 0) ∧ m1 40 s = (if S s = -1 then 1 else vls n m (S s) (m 1 13) 1) := by
  unfold f141
  refine lp_all (f := f141_b2 (GC L) RC 1) (fun k st => ∃ m1, st = ((k : Int), m1) ∧ Sm m m1 ∧ ∀ s, 0 ≤ s → s < (k : Int) → m1 38 s = (if S s = -1 then -1000000 else vls n m (S s) (m 1 13) 0) ∧ m1 40 s = (if S s = -1 then 1 else vls n m (S s) (m 1 13) 1)) 8 ?_ ?_ (by rw [FU_v]; omega) (0, m) ⟨m, rfl, Sm_r m, fun s a b => absurd b (by show ¬ s < 0; omega)⟩
  · rintro k st hk ⟨m1, rfl, i1, i2⟩
    obtain ⟨s1, s2, s3⟩ := hS k (by omega) (by omega)
    have r1 : RelT n m1 := RelT_f h (fun x i c _ _ _ _ => i1 x i c)
    have e36 : m1 36 k = S k := by rw [i1 36 k (by unfold scr; omega)]; exact s1
    have e9 : m1 82 9 = m 82 9 := i1 82 9 (by unfold scr; omega)
    have fin : ∀ (m2 : Sg) (v w : Int), Sm m m2 → (∀ s, 0 ≤ s → s < (k : Int) → m2 38 s = m1 38 s ∧ m2 40 s = m1 40 s) → m2 38 k = v → m2 40 k = w → v = (if S k = -1 then -1000000 else vls n m (S k) (m 1 13) 0) → w = (if S k = -1 then 1 else vls n m (S k) (m 1 13) 1) → ∃ m3, ((((k + 1 : Nat) : Int)), m2) = ((((k + 1 : Nat) : Int)), m3) ∧ Sm m m3 ∧ ∀ s, 0 ≤ s → s < ((k + 1 : Nat) : Int) → m3 38 s = (if S s = -1 then -1000000 else vls n m (S s) (m 1 13) 0) ∧ m3 40 s = (if S s = -1 then 1 else vls n m (S s) (m 1 13) 1) := by
      intro m2 v w q1 q2 q3 q4 q5 q6
      refine ⟨m2, rfl, q1, fun s a b => ?_⟩
      by_cases e : s = k
      · rw [e, q3, q4, q5, q6]; exact ⟨rfl, rfl⟩
      · rw [(q2 s a (by omega)).1, (q2 s a (by omega)).2]; exact i2 s a (by omega)
    have P8 : ∀ (mm : Sg) (x : Nat) (i v : Int), (x = 38 ∨ x = 40) → Sm m mm → Sm m (put mm x i v) := fun mm x i v hx hm y j c => by
      have : ¬ y = x := by
        intro q
        rcases hx with e | e
        · exact c (sc_z38 (q.trans e))
        · exact c (sc_z40 (q.trans e))
      rw [put_ne this]; exact hm y j c
    unfold f141_b2
    simp only [KG L, KR, RAx L, Option.bind_some, if_true]
    rw [if_pos (by omega), ra_in (by omega) (by omega), e36]
    by_cases z : S k = -1
    · rw [if_pos z]
      unfold f141_17 f141_30 f141_43
      simp only [KG L, KR, RPx L, Option.bind_some, if_true]
      rw [rp_in (by omega) (by omega), rp_in (by omega) (by omega), w32_i (by omega) (by omega)]
      refine ⟨_, rfl, fin _ (-1000000) 1 (P8 _ 40 _ _ (Or.inr rfl) (P8 _ 38 _ _ (Or.inl rfl) i1)) (fun s a b => ⟨?_, ?_⟩) ?_ ?_ ?_ ?_⟩
      · rw [put_ne (by decide), put_nj (by omega)]
      · rw [put_nj (by omega), put_ne (by decide)]
      · rw [put_ne (by decide), put_eq]
      · rw [put_eq]
      · rw [if_pos z]
      · rw [if_pos z]
    · rw [if_neg z]
      obtain ⟨m2, a1, a2, a3⟩ := com_s L (p := 0) r1 (t := S k) (by rw [e9]; omega)
      have Sm2 := Sm_t i1 a2
      have v1 : vls n m1 (S k) (m1 1 13) 0 = vls n m (S k) (m 1 13) 0 := by rw [vls_f (fun x i c _ _ _ _ => i1 x i c), i1 1 13 (by unfold scr; omega)]
      rw [v1] at a1
      have Sm3 := P8 m2 38 (k : Int) (vls n m (S k) (m 1 13) 0) (Or.inl rfl) Sm2
      have r3 : RelT n (put m2 38 (k : Int) (vls n m (S k) (m 1 13) 0)) := RelT_f h (fun x i c _ _ _ _ => Sm3 x i c)
      have e93 : put m2 38 (k : Int) (vls n m (S k) (m 1 13) 0) 82 9 = m 82 9 := Sm3 82 9 (by unfold scr; omega)
      obtain ⟨m4, b1, b2, b3⟩ := com_s L (p := 1) r3 (t := S k) (by rw [e93]; omega)
      have v2 : vls n (put m2 38 (k : Int) (vls n m (S k) (m 1 13) 0)) (S k) (put m2 38 (k : Int) (vls n m (S k) (m 1 13) 0) 1 13) 1 = vls n m (S k) (m 1 13) 1 := by rw [vls_f (fun x i c _ _ _ _ => Sm3 x i c), Sm3 1 13 (by unfold scr; omega)]
      rw [v2] at b1
      have Sm4 := Sm_t Sm3 b2
      unfold f141_17 f141_30 f141_43
      simp only [KG L, KR, RPx L, if_true]
      rw [if_neg (by exact n10), bnd a1]
      simp only [Option.bind_some]
      rw [if_neg (show ¬ (1 : Int) = 0 from n10), rp_in (n := 8) (b := 38) (m := m2) (by omega) (by omega), bnd b1]
      try simp only [Option.bind_some]
      rw [rp_in (n := 8) (b := 40) (by omega) (by omega), w32_i (by omega) (by omega)]
      refine ⟨_, rfl, fin _ (vls n m (S k) (m 1 13) 0) (vls n m (S k) (m 1 13) 1) (P8 _ 40 _ _ (Or.inr rfl) Sm4) (fun s a b => ⟨?_, ?_⟩) ?_ ?_ ?_ ?_⟩
      · rw [put_ne (by decide), b3 38 s (by decide) (by decide) (by omega), put_nj (by omega), a3 38 s (by decide) (by decide) (by omega)]
      · rw [put_nj (by omega), b3 40 s (by decide) (by decide) (by omega), put_ne (by decide), a3 40 s (by decide) (by decide) (by omega)]
      · rw [put_ne (by decide), b3 38 k (by decide) (by decide) (by omega), put_eq]
      · rw [put_eq]
      · rw [if_neg z]
      · rw [if_neg z]
  · rintro st ⟨m1, rfl, i1, i2⟩
    refine ⟨m1, ?_, i1, fun s a b => i2 s a b⟩
    unfold f141_b2
    simp only
    rw [if_neg (by omega), xr_some]
/-- whom a street follows next -/
theorem f58_s (L : Nat) {S tk kp : Int → Int} {s : Int} (hs : 0 ≤ s ∧ s < 8) (h36 : ∀ s, 0 ≤ s → s < 8 → m 36 s = S s) (h38 : ∀ s, 0 ≤ s → s < 8 → m 38 s = if S s = -1 then -1000000 else tk (S s)) (h40 : ∀ s, 0 ≤ s → s < 8 → m 40 s = if S s = -1 then 1 else kp (S s)) : f58 (GC L) RC 34 s m = some (ynx tk kp S s) := by
  have el : g_rem (g_sub (g_add s 8) 1) 8 = (s + 7) % 8 := by
    unfold g_add g_sub
    rw [w32_i (x := s + 8) (by omega) (by omega), w32_i (by omega) (by omega), g_rem_p (by omega), show s + 8 - 1 = s + 7 by omega]
  have er : g_rem (g_add s 1) 8 = (s + 1) % 8 := by
    unfold g_add
    rw [w32_i (by omega) (by omega), g_rem_p (by omega)]
  have f59 : ∀ a c : Int, 0 ≤ a → a < 8 → 0 ≤ c → c < 8 → f59 (GC L) RC 34 a c m = some (if ¬ S c = -1 ∧ (if S a = -1 then -1000000 else tk (S a)) < tk (S c) then c else a) := by
    intro a c a0 a8 c0 c8
    unfold f59 f59_18
    simp only [KG L, KR, RAx L, Option.bind_some, if_true]
    rw [ra_in c0 c8, ra_in c0 c8, ra_in a0 a8, h36 c c0 c8, h38 c c0 c8, h38 a a0 a8]
    by_cases z : S c = -1
    · rw [if_pos z, if_neg (show ¬ (¬ S c = -1 ∧ (if S a = -1 then -1000000 else tk (S a)) < tk (S c)) from fun q => q.1 z)]
    · rw [if_neg z, if_neg z]
      by_cases y : (if S a = -1 then -1000000 else tk (S a)) < tk (S c)
      · rw [if_pos y, if_neg (by exact n10), if_pos (show ¬ S c = -1 ∧ (if S a = -1 then -1000000 else tk (S a)) < tk (S c) from ⟨z, y⟩)]
      · rw [if_neg y, if_neg (show ¬ (¬ S c = -1 ∧ (if S a = -1 then -1000000 else tk (S a)) < tk (S c)) from fun q => y q.2)]
  have b7 : 0 ≤ (s + 7) % 8 ∧ (s + 7) % 8 < 8 := by omega
  have b1 : 0 ≤ (s + 1) % 8 ∧ (s + 1) % 8 < 8 := by omega
  unfold f58
  simp only [KG L, KR, RAx L, Option.bind_some, if_true]
  rw [ra_in hs.1 hs.2, h40 s hs.1 hs.2, el, er]
  unfold ynx
  generalize (s + 7) % 8 = l at *
  generalize (s + 1) % 8 = r at *
  by_cases z : ¬ S s = -1 ∧ kp (S s) = 0
  · rw [if_pos (by rw [if_neg z.1]; exact z.2), if_pos z]
  · rw [if_neg (fun q => by
      by_cases y : S s = -1
      · rw [if_pos y] at q; exact n10 q
      · rw [if_neg y] at q; exact z ⟨y, q⟩), if_neg z, bnd (f59 s l hs.1 hs.2 b7.1 b7.2)]
    by_cases c1 : ¬ S l = -1 ∧ (if S s = -1 then -1000000 else tk (S s)) < tk (S l)
    · rw [if_pos c1, if_pos c1, if_pos c1, bnd (f59 l r b7.1 b7.2 b1.1 b1.2), if_neg c1.1]
      by_cases c2 : ¬ S r = -1 ∧ tk (S l) < tk (S r)
      · rw [if_pos c2, if_pos c2, ra_in b1.1 b1.2, h36 r b1.1 b1.2]
      · rw [if_neg c2, if_neg c2, ra_in b7.1 b7.2, h36 l b7.1 b7.2]
    · rw [if_neg c1, if_neg c1, if_neg c1, bnd (f59 s r hs.1 hs.2 b1.1 b1.2)]
      by_cases c2 : ¬ S r = -1 ∧ (if S s = -1 then -1000000 else tk (S s)) < tk (S r)
      · rw [if_pos c2, if_pos c2, ra_in b1.1 b1.2, h36 r b1.1 b1.2]
      · rw [if_neg c2, if_neg c2, ra_in hs.1 hs.2, h36 s hs.1 hs.2]
theorem f56_s (L : Nat) {S tk kp : Int → Int} (h36 : ∀ s, 0 ≤ s → s < 8 → m 36 s = S s) (h38 : ∀ s, 0 ≤ s → s < 8 → m 38 s = if S s = -1 then -1000000 else tk (S s)) (h40 : ∀ s, 0 ≤ s → s < 8 → m 40 s = if S s = -1 then 1 else kp (S s)) : ∃ m2, f56 (GC L) RC 34 m = some m2 ∧ (∀ s, 0 ≤ s → s < 8 → m2 36 s = ynx tk kp S s) ∧ ∀ x i, ¬ x = 36 → ¬ x = 42 → m2 x i = m x i := by
  have two : ∀ m1 : Sg, (∀ x i, ¬ x = 42 → m1 x i = m x i) → (∀ s, 0 ≤ s → s < 8 → m1 42 s = ynx tk kp S s) → ∃ m2, lp (f56_b16 (GC L) RC 34) FU (0, m1) = some m2 ∧ (∀ s, 0 ≤ s → s < 8 → m2 36 s = ynx tk kp S s) ∧ ∀ x i, ¬ x = 36 → ¬ x = 42 → m2 x i = m x i := by
    intro m1 e1 e2
    refine lp_all (f := f56_b16 (GC L) RC 34) (fun k st => ∃ m2, st = ((k : Int), m2) ∧ (∀ s, 0 ≤ s → s < (k : Int) → m2 36 s = ynx tk kp S s) ∧ m2 42 = m1 42 ∧ ∀ x i, ¬ x = 36 → ¬ x = 42 → m2 x i = m x i) 8 ?_ ?_ (by rw [FU_v]; omega) (0, m1) ⟨m1, rfl, fun s a b => absurd b (by show ¬ s < 0; omega), rfl, fun x i _ c => e1 x i c⟩
    · rintro k st hk ⟨m2, rfl, i1, i2, i3⟩
      unfold f56_b16
      simp only [KG L, KR, RAx L, RPx L, Option.bind_some, if_true]
      rw [if_pos (by omega), ra_in (by omega) (by omega), rp_in (by omega) (by omega), i2, e2 k (by omega) (by omega), w32_i (by omega) (by omega)]
      refine ⟨_, rfl, _, rfl, fun s a b => ?_, by rw [put_f (by decide)]; exact i2, fun x i c1 c2 => by rw [put_ne c1]; exact i3 x i c1 c2⟩
      by_cases e : s = k
      · rw [e, put_eq]
      · rw [put_nj e]; exact i1 s a (by omega)
    · rintro st ⟨m2, rfl, i1, i2, i3⟩
      refine ⟨m2, ?_, fun s a b => i1 s a b, i3⟩
      unfold f56_b16
      simp only
      rw [if_neg (by omega), xr_some]
  unfold f56
  refine lp_all (f := f56_b2 (GC L) RC 34) (fun k st => ∃ m1, st = ((k : Int), m1) ∧ (∀ s, 0 ≤ s → s < (k : Int) → m1 42 s = ynx tk kp S s) ∧ ∀ x i, ¬ x = 42 → m1 x i = m x i) 8 ?_ ?_ (by rw [FU_v]; omega) (0, m) ⟨m, rfl, fun s a b => absurd b (by show ¬ s < 0; omega), fun _ _ _ => rfl⟩
  · rintro k st hk ⟨m1, rfl, i1, i2⟩
    have e58 := f58_s L (m := m1) (tk := tk) (kp := kp) (S := S) (s := (k : Int)) (by omega) (fun s a b => by rw [i2 36 s (by decide)]; exact h36 s a b) (fun s a b => by rw [i2 38 s (by decide)]; exact h38 s a b) (fun s a b => by rw [i2 40 s (by decide)]; exact h40 s a b)
    unfold f56_b2
    simp only [KG L, KR, RPx L, if_true]
    rw [if_pos (by omega), bnd e58]
    simp only [Option.bind_some]
    rw [rp_in (by omega) (by omega), w32_i (by omega) (by omega)]
    refine ⟨_, rfl, _, rfl, fun s a b => ?_, fun x i c => by rw [put_ne c]; exact i2 x i c⟩
    by_cases e : s = k
    · rw [e, put_eq]
    · rw [put_nj e]; exact i1 s a (by omega)
  · rintro st ⟨m1, rfl, i1, i2⟩
    obtain ⟨m2, s1, s2⟩ := two m1 i2 i1
    refine ⟨m2, ?_, s2⟩
    unfold f56_b2
    simp only
    rw [if_neg (by omega), s1, xr_some]
end YEARS
