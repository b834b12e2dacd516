/-! TELLINGS LAID OUT PLAIN -/
theorem f79_s {G : Gg} {ρ : Rg} {m : Sg} {t s : Int} (h1 : 0 ≤ t ∧ t < 1000) (h2 : 0 ≤ s ∧ s < 1000) : f79 G ρ t s m = some (10 * t + s) := by
  unfold f79 g_add g_mul
  rw [w32_i (x := t * 10) (by omega) (by omega), w32_i (by omega) (by omega)]
  congr 1
  omega
/-- a gap -/
def gp (g s : Int) : Prop := g_and (g_shr g s) 1 = 1
theorem f67_s (L : Nat) {m : Sg} {n t s : Int} (hn : m 82 0 = n) (ht : 0 ≤ t ∧ t < 12) (hs : 0 ≤ s) (hsn : s < n) : (gp (m 90 t) s → f67 (GC L) RC 82 t s m = some 1) ∧ (¬ gp (m 90 t) s → f67 (GC L) RC 82 t s m = some 0) := by
  unfold f67 gp
  simp only [KG L, KR, RAx L, Option.bind_some, if_true]
  rw [if_neg (by omega), hn, if_pos hsn, ra_in ht.1 ht.2]
  exact ⟨fun q => by rw [if_pos q], fun q => by rw [if_neg q]⟩
/-- a row without what lies in gaps -/
def pz (g : Int) (F : Int → Int) (i : Int) : Int := @ite Int (g_and (g_shr g i) 1 = 1) (Int.instDecidableEq _ _) 0 (F i)
theorem pz_g {g : Int} {F : Int → Int} {i : Int} (h : gp g i) : pz g F i = 0 := if_pos h
theorem pz_n {g : Int} {F : Int → Int} {i : Int} (h : ¬ gp g i) : pz g F i = F i := if_neg h
theorem f70_54 (L : Nat) {m0 : Sg} {n t : Int} (hn : m0 82 0 = n) (h4 : 4 ≤ n) (h10 : n ≤ 10) (ht : 0 ≤ t ∧ t < 12) : ∃ m', f70 (GC L) RC 82 t 54 m0 = some m' ∧ (∀ i, 0 ≤ i → i < n → m' 56 i = pz (m0 90 t) (fun i => m0 84 (10 * t + i)) i ∧ m' 58 i = pz (m0 90 t) (fun i => m0 86 (10 * t + i)) i) ∧ m' 54 3 = m0 88 t ∧ ∀ x i, ¬ x = 56 → ¬ x = 58 → ¬ (x = 54 ∧ i = 3) → m' x i = m0 x i := by
  unfold f70
  obtain ⟨r, h1, h2, h3, h5⟩ := lp_all (f := f70_b2 (GC L) RC 82 t 54) (Q := fun m' => (∀ i, 0 ≤ i → i < n → m' 56 i = pz (m0 90 t) (fun i => m0 84 (10 * t + i)) i ∧ m' 58 i = pz (m0 90 t) (fun i => m0 86 (10 * t + i)) i) ∧ m' 54 3 = m0 88 t ∧ ∀ x i, ¬ x = 56 → ¬ x = 58 → ¬ (x = 54 ∧ i = 3) → m' x i = m0 x i) (fun k st => ∃ m, st = ((k : Int), m) ∧ (∀ i : Int, 0 ≤ i → i < k → m 56 i = pz (m0 90 t) (fun i => m0 84 (10 * t + i)) i ∧ m 58 i = pz (m0 90 t) (fun i => m0 86 (10 * t + i)) i) ∧ ∀ x i, ¬ x = 56 → ¬ x = 58 → m x i = m0 x i) n.toNat
    (by
      rintro k st hk ⟨m, rfl, i1, i2⟩
      have en : m 82 0 = n := by rw [i2 82 0 (by decide) (by decide)]; exact hn
      have eg : m 90 t = m0 90 t := i2 90 t (by decide) (by decide)
      have step : ∀ m2 : Sg, m2 = put (put m 56 k (pz (m0 90 t) (fun i => m0 84 (10 * t + i)) k)) 58 k (pz (m0 90 t) (fun i => m0 86 (10 * t + i)) k) → (∀ i : Int, 0 ≤ i → i < ((k + 1 : Nat) : Int) → m2 56 i = pz (m0 90 t) (fun i => m0 84 (10 * t + i)) i ∧ m2 58 i = pz (m0 90 t) (fun i => m0 86 (10 * t + i)) i) ∧ ∀ x i, ¬ x = 56 → ¬ x = 58 → m2 x i = m0 x i := by
        rintro m2 rfl
        refine ⟨fun i a1 a2 => ?_, fun x i a1 a2 => ?_⟩
        · by_cases e : i = k
          · rw [e, put_ne (by decide), put_eq, put_eq]; exact ⟨rfl, rfl⟩
          · rw [put_nj e, put_nj e, put_nj e, put_nj e]; exact i1 i a1 (by omega)
        · rw [put_ne a2, put_ne a1]; exact i2 x i a1 a2
      unfold f70_b2
      simp only [KG L, KR, RAx L, if_true]
      rw [en, if_pos (by omega)]
      by_cases c : gp (m0 90 t) k
      · rw [(f67_s L en ht (by omega) (by omega)).1 (by rw [eg]; exact c)]
        simp only [Option.bind_some]
        rw [if_neg (by decide)]
        unfold f70_21
        rw [if_neg (by decide)]
        unfold f70_32
        simp only [KG L, if_true]
        rw [f40_54]
        simp only [Option.bind_some]
        rw [rp_in (by omega) (by omega), rp_in (by omega) (by omega), w32_i (by omega) (by omega)]
        exact ⟨_, rfl, _, rfl, step _ (by rw [pz_g c, pz_g c])⟩
      · rw [(f67_s L en ht (by omega) (by omega)).2 (by rw [eg]; exact c)]
        simp only [Option.bind_some, if_true]
        rw [f79_s (by omega) (by omega)]
        simp only [Option.bind_some]
        unfold f70_21
        simp only [KG L, KR, RAx L, if_true]
        rw [f79_s (by omega) (by omega)]
        simp only [Option.bind_some]
        rw [ra_in (by omega) (by omega), ra_in (by omega) (by omega)]
        unfold f70_32
        simp only [KG L, if_true]
        rw [f40_54]
        simp only [Option.bind_some]
        rw [rp_in (by omega) (by omega), rp_in (by omega) (by omega), w32_i (by omega) (by omega)]
        exact ⟨_, rfl, _, rfl, step _ (by rw [pz_n c, pz_n c, i2 84 _ (by decide) (by decide), i2 86 _ (by decide) (by decide)])⟩)
    (by
      rintro st ⟨m, rfl, i1, i2⟩
      have en : m 82 0 = n := by rw [i2 82 0 (by decide) (by decide)]; exact hn
      unfold f70_b2
      simp only [KG L, KR, RAx L, Option.bind_some, if_true]
      rw [en, if_neg (by omega), ra_in ht.1 ht.2, xr_some]
      refine ⟨_, rfl, fun i a1 a2 => ?_, ?_, fun x i a1 a2 a3 => ?_⟩
      · rw [put_ne (by decide), put_ne (by decide)]; exact i1 i a1 (by omega)
      · rw [put_eq]; exact i2 88 t (by decide) (by decide)
      · by_cases e : x = 54
        · subst e; rw [put_nj (fun q => a3 ⟨rfl, q⟩)]; exact i2 _ i a1 a2
        · rw [put_ne e]; exact i2 x i a1 a2)
    (by rw [FU_v]; omega) (0, m0) ⟨m0, rfl, fun i a1 a2 => absurd a2 (by show ¬ i < 0; omega), fun _ _ _ _ => rfl⟩
  exact ⟨r, h1, h2, h3, h5⟩
theorem f70_59 (L : Nat) {m0 : Sg} {n t : Int} (hn : m0 82 0 = n) (h4 : 4 ≤ n) (h10 : n ≤ 10) (ht : 0 ≤ t ∧ t < 12) : ∃ m', f70 (GC L) RC 82 t 59 m0 = some m' ∧ (∀ i, 0 ≤ i → i < n → m' 61 i = pz (m0 90 t) (fun i => m0 84 (10 * t + i)) i ∧ m' 63 i = pz (m0 90 t) (fun i => m0 86 (10 * t + i)) i) ∧ m' 59 3 = m0 88 t ∧ ∀ x i, ¬ x = 61 → ¬ x = 63 → ¬ (x = 59 ∧ i = 3) → m' x i = m0 x i := by
  unfold f70
  obtain ⟨r, h1, h2, h3, h5⟩ := lp_all (f := f70_b2 (GC L) RC 82 t 59) (Q := fun m' => (∀ i, 0 ≤ i → i < n → m' 61 i = pz (m0 90 t) (fun i => m0 84 (10 * t + i)) i ∧ m' 63 i = pz (m0 90 t) (fun i => m0 86 (10 * t + i)) i) ∧ m' 59 3 = m0 88 t ∧ ∀ x i, ¬ x = 61 → ¬ x = 63 → ¬ (x = 59 ∧ i = 3) → m' x i = m0 x i) (fun k st => ∃ m, st = ((k : Int), m) ∧ (∀ i : Int, 0 ≤ i → i < k → m 61 i = pz (m0 90 t) (fun i => m0 84 (10 * t + i)) i ∧ m 63 i = pz (m0 90 t) (fun i => m0 86 (10 * t + i)) i) ∧ ∀ x i, ¬ x = 61 → ¬ x = 63 → m x i = m0 x i) n.toNat
    (by
      rintro k st hk ⟨m, rfl, i1, i2⟩
      have en : m 82 0 = n := by rw [i2 82 0 (by decide) (by decide)]; exact hn
      have eg : m 90 t = m0 90 t := i2 90 t (by decide) (by decide)
      have step : ∀ m2 : Sg, m2 = put (put m 61 k (pz (m0 90 t) (fun i => m0 84 (10 * t + i)) k)) 63 k (pz (m0 90 t) (fun i => m0 86 (10 * t + i)) k) → (∀ i : Int, 0 ≤ i → i < ((k + 1 : Nat) : Int) → m2 61 i = pz (m0 90 t) (fun i => m0 84 (10 * t + i)) i ∧ m2 63 i = pz (m0 90 t) (fun i => m0 86 (10 * t + i)) i) ∧ ∀ x i, ¬ x = 61 → ¬ x = 63 → m2 x i = m0 x i := by
        rintro m2 rfl
        refine ⟨fun i a1 a2 => ?_, fun x i a1 a2 => ?_⟩
        · by_cases e : i = k
          · rw [e, put_ne (by decide), put_eq, put_eq]; exact ⟨rfl, rfl⟩
          · rw [put_nj e, put_nj e, put_nj e, put_nj e]; exact i1 i a1 (by omega)
        · rw [put_ne a2, put_ne a1]; exact i2 x i a1 a2
      unfold f70_b2
      simp only [KG L, KR, RAx L, if_true]
      rw [en, if_pos (by omega)]
      by_cases c : gp (m0 90 t) k
      · rw [(f67_s L en ht (by omega) (by omega)).1 (by rw [eg]; exact c)]
        simp only [Option.bind_some]
        rw [if_neg (by decide)]
        unfold f70_21
        rw [if_neg (by decide)]
        unfold f70_32
        simp only [KG L, if_true]
        rw [f40_59]
        simp only [Option.bind_some]
        rw [rp_in (by omega) (by omega), rp_in (by omega) (by omega), w32_i (by omega) (by omega)]
        exact ⟨_, rfl, _, rfl, step _ (by rw [pz_g c, pz_g c])⟩
      · rw [(f67_s L en ht (by omega) (by omega)).2 (by rw [eg]; exact c)]
        simp only [Option.bind_some, if_true]
        rw [f79_s (by omega) (by omega)]
        simp only [Option.bind_some]
        unfold f70_21
        simp only [KG L, KR, RAx L, if_true]
        rw [f79_s (by omega) (by omega)]
        simp only [Option.bind_some]
        rw [ra_in (by omega) (by omega), ra_in (by omega) (by omega)]
        unfold f70_32
        simp only [KG L, if_true]
        rw [f40_59]
        simp only [Option.bind_some]
        rw [rp_in (by omega) (by omega), rp_in (by omega) (by omega), w32_i (by omega) (by omega)]
        exact ⟨_, rfl, _, rfl, step _ (by rw [pz_n c, pz_n c, i2 84 _ (by decide) (by decide), i2 86 _ (by decide) (by decide)])⟩)
    (by
      rintro st ⟨m, rfl, i1, i2⟩
      have en : m 82 0 = n := by rw [i2 82 0 (by decide) (by decide)]; exact hn
      unfold f70_b2
      simp only [KG L, KR, RAx L, Option.bind_some, if_true]
      rw [en, if_neg (by omega), ra_in ht.1 ht.2, xr_some]
      refine ⟨_, rfl, fun i a1 a2 => ?_, ?_, fun x i a1 a2 a3 => ?_⟩
      · rw [put_ne (by decide), put_ne (by decide)]; exact i1 i a1 (by omega)
      · rw [put_eq]; exact i2 88 t (by decide) (by decide)
      · by_cases e : x = 59
        · subst e; rw [put_nj (fun q => a3 ⟨rfl, q⟩)]; exact i2 _ i a1 a2
        · rw [put_ne e]; exact i2 x i a1 a2)
    (by rw [FU_v]; omega) (0, m0) ⟨m0, rfl, fun i a1 a2 => absurd a2 (by show ¬ i < 0; omega), fun _ _ _ _ => rfl⟩
  exact ⟨r, h1, h2, h3, h5⟩
theorem f70_110 (L : Nat) {m0 : Sg} {n t : Int} (hn : m0 82 0 = n) (h4 : 4 ≤ n) (h10 : n ≤ 10) (ht : 0 ≤ t ∧ t < 12) : ∃ m', f70 (GC L) RC 82 t 110 m0 = some m' ∧ (∀ i, 0 ≤ i → i < n → m' 112 i = pz (m0 90 t) (fun i => m0 84 (10 * t + i)) i ∧ m' 114 i = pz (m0 90 t) (fun i => m0 86 (10 * t + i)) i) ∧ m' 110 3 = m0 88 t ∧ ∀ x i, ¬ x = 112 → ¬ x = 114 → ¬ (x = 110 ∧ i = 3) → m' x i = m0 x i := by
  unfold f70
  obtain ⟨r, h1, h2, h3, h5⟩ := lp_all (f := f70_b2 (GC L) RC 82 t 110) (Q := fun m' => (∀ i, 0 ≤ i → i < n → m' 112 i = pz (m0 90 t) (fun i => m0 84 (10 * t + i)) i ∧ m' 114 i = pz (m0 90 t) (fun i => m0 86 (10 * t + i)) i) ∧ m' 110 3 = m0 88 t ∧ ∀ x i, ¬ x = 112 → ¬ x = 114 → ¬ (x = 110 ∧ i = 3) → m' x i = m0 x i) (fun k st => ∃ m, st = ((k : Int), m) ∧ (∀ i : Int, 0 ≤ i → i < k → m 112 i = pz (m0 90 t) (fun i => m0 84 (10 * t + i)) i ∧ m 114 i = pz (m0 90 t) (fun i => m0 86 (10 * t + i)) i) ∧ ∀ x i, ¬ x = 112 → ¬ x = 114 → m x i = m0 x i) n.toNat
    (by
      rintro k st hk ⟨m, rfl, i1, i2⟩
      have en : m 82 0 = n := by rw [i2 82 0 (by decide) (by decide)]; exact hn
      have eg : m 90 t = m0 90 t := i2 90 t (by decide) (by decide)
      have step : ∀ m2 : Sg, m2 = put (put m 112 k (pz (m0 90 t) (fun i => m0 84 (10 * t + i)) k)) 114 k (pz (m0 90 t) (fun i => m0 86 (10 * t + i)) k) → (∀ i : Int, 0 ≤ i → i < ((k + 1 : Nat) : Int) → m2 112 i = pz (m0 90 t) (fun i => m0 84 (10 * t + i)) i ∧ m2 114 i = pz (m0 90 t) (fun i => m0 86 (10 * t + i)) i) ∧ ∀ x i, ¬ x = 112 → ¬ x = 114 → m2 x i = m0 x i := by
        rintro m2 rfl
        refine ⟨fun i a1 a2 => ?_, fun x i a1 a2 => ?_⟩
        · by_cases e : i = k
          · rw [e, put_ne (by decide), put_eq, put_eq]; exact ⟨rfl, rfl⟩
          · rw [put_nj e, put_nj e, put_nj e, put_nj e]; exact i1 i a1 (by omega)
        · rw [put_ne a2, put_ne a1]; exact i2 x i a1 a2
      unfold f70_b2
      simp only [KG L, KR, RAx L, if_true]
      rw [en, if_pos (by omega)]
      by_cases c : gp (m0 90 t) k
      · rw [(f67_s L en ht (by omega) (by omega)).1 (by rw [eg]; exact c)]
        simp only [Option.bind_some]
        rw [if_neg (by decide)]
        unfold f70_21
        rw [if_neg (by decide)]
        unfold f70_32
        simp only [KG L, if_true]
        rw [f40_110]
        simp only [Option.bind_some]
        rw [rp_in (by omega) (by omega), rp_in (by omega) (by omega), w32_i (by omega) (by omega)]
        exact ⟨_, rfl, _, rfl, step _ (by rw [pz_g c, pz_g c])⟩
      · rw [(f67_s L en ht (by omega) (by omega)).2 (by rw [eg]; exact c)]
        simp only [Option.bind_some, if_true]
        rw [f79_s (by omega) (by omega)]
        simp only [Option.bind_some]
        unfold f70_21
        simp only [KG L, KR, RAx L, if_true]
        rw [f79_s (by omega) (by omega)]
        simp only [Option.bind_some]
        rw [ra_in (by omega) (by omega), ra_in (by omega) (by omega)]
        unfold f70_32
        simp only [KG L, if_true]
        rw [f40_110]
        simp only [Option.bind_some]
        rw [rp_in (by omega) (by omega), rp_in (by omega) (by omega), w32_i (by omega) (by omega)]
        exact ⟨_, rfl, _, rfl, step _ (by rw [pz_n c, pz_n c, i2 84 _ (by decide) (by decide), i2 86 _ (by decide) (by decide)])⟩)
    (by
      rintro st ⟨m, rfl, i1, i2⟩
      have en : m 82 0 = n := by rw [i2 82 0 (by decide) (by decide)]; exact hn
      unfold f70_b2
      simp only [KG L, KR, RAx L, Option.bind_some, if_true]
      rw [en, if_neg (by omega), ra_in ht.1 ht.2, xr_some]
      refine ⟨_, rfl, fun i a1 a2 => ?_, ?_, fun x i a1 a2 a3 => ?_⟩
      · rw [put_ne (by decide), put_ne (by decide)]; exact i1 i a1 (by omega)
      · rw [put_eq]; exact i2 88 t (by decide) (by decide)
      · by_cases e : x = 110
        · subst e; rw [put_nj (fun q => a3 ⟨rfl, q⟩)]; exact i2 _ i a1 a2
        · rw [put_ne e]; exact i2 x i a1 a2)
    (by rw [FU_v]; omega) (0, m0) ⟨m0, rfl, fun i a1 a2 => absurd a2 (by show ¬ i < 0; omega), fun _ _ _ _ => rfl⟩
  exact ⟨r, h1, h2, h3, h5⟩
theorem f70_115 (L : Nat) {m0 : Sg} {n t : Int} (hn : m0 82 0 = n) (h4 : 4 ≤ n) (h10 : n ≤ 10) (ht : 0 ≤ t ∧ t < 12) : ∃ m', f70 (GC L) RC 82 t 115 m0 = some m' ∧ (∀ i, 0 ≤ i → i < n → m' 117 i = pz (m0 90 t) (fun i => m0 84 (10 * t + i)) i ∧ m' 119 i = pz (m0 90 t) (fun i => m0 86 (10 * t + i)) i) ∧ m' 115 3 = m0 88 t ∧ ∀ x i, ¬ x = 117 → ¬ x = 119 → ¬ (x = 115 ∧ i = 3) → m' x i = m0 x i := by
  unfold f70
  obtain ⟨r, h1, h2, h3, h5⟩ := lp_all (f := f70_b2 (GC L) RC 82 t 115) (Q := fun m' => (∀ i, 0 ≤ i → i < n → m' 117 i = pz (m0 90 t) (fun i => m0 84 (10 * t + i)) i ∧ m' 119 i = pz (m0 90 t) (fun i => m0 86 (10 * t + i)) i) ∧ m' 115 3 = m0 88 t ∧ ∀ x i, ¬ x = 117 → ¬ x = 119 → ¬ (x = 115 ∧ i = 3) → m' x i = m0 x i) (fun k st => ∃ m, st = ((k : Int), m) ∧ (∀ i : Int, 0 ≤ i → i < k → m 117 i = pz (m0 90 t) (fun i => m0 84 (10 * t + i)) i ∧ m 119 i = pz (m0 90 t) (fun i => m0 86 (10 * t + i)) i) ∧ ∀ x i, ¬ x = 117 → ¬ x = 119 → m x i = m0 x i) n.toNat
    (by
      rintro k st hk ⟨m, rfl, i1, i2⟩
      have en : m 82 0 = n := by rw [i2 82 0 (by decide) (by decide)]; exact hn
      have eg : m 90 t = m0 90 t := i2 90 t (by decide) (by decide)
      have step : ∀ m2 : Sg, m2 = put (put m 117 k (pz (m0 90 t) (fun i => m0 84 (10 * t + i)) k)) 119 k (pz (m0 90 t) (fun i => m0 86 (10 * t + i)) k) → (∀ i : Int, 0 ≤ i → i < ((k + 1 : Nat) : Int) → m2 117 i = pz (m0 90 t) (fun i => m0 84 (10 * t + i)) i ∧ m2 119 i = pz (m0 90 t) (fun i => m0 86 (10 * t + i)) i) ∧ ∀ x i, ¬ x = 117 → ¬ x = 119 → m2 x i = m0 x i := by
        rintro m2 rfl
        refine ⟨fun i a1 a2 => ?_, fun x i a1 a2 => ?_⟩
        · by_cases e : i = k
          · rw [e, put_ne (by decide), put_eq, put_eq]; exact ⟨rfl, rfl⟩
          · rw [put_nj e, put_nj e, put_nj e, put_nj e]; exact i1 i a1 (by omega)
        · rw [put_ne a2, put_ne a1]; exact i2 x i a1 a2
      unfold f70_b2
      simp only [KG L, KR, RAx L, if_true]
      rw [en, if_pos (by omega)]
      by_cases c : gp (m0 90 t) k
      · rw [(f67_s L en ht (by omega) (by omega)).1 (by rw [eg]; exact c)]
        simp only [Option.bind_some]
        rw [if_neg (by decide)]
        unfold f70_21
        rw [if_neg (by decide)]
        unfold f70_32
        simp only [KG L, if_true]
        rw [f40_115]
        simp only [Option.bind_some]
        rw [rp_in (by omega) (by omega), rp_in (by omega) (by omega), w32_i (by omega) (by omega)]
        exact ⟨_, rfl, _, rfl, step _ (by rw [pz_g c, pz_g c])⟩
      · rw [(f67_s L en ht (by omega) (by omega)).2 (by rw [eg]; exact c)]
        simp only [Option.bind_some, if_true]
        rw [f79_s (by omega) (by omega)]
        simp only [Option.bind_some]
        unfold f70_21
        simp only [KG L, KR, RAx L, if_true]
        rw [f79_s (by omega) (by omega)]
        simp only [Option.bind_some]
        rw [ra_in (by omega) (by omega), ra_in (by omega) (by omega)]
        unfold f70_32
        simp only [KG L, if_true]
        rw [f40_115]
        simp only [Option.bind_some]
        rw [rp_in (by omega) (by omega), rp_in (by omega) (by omega), w32_i (by omega) (by omega)]
        exact ⟨_, rfl, _, rfl, step _ (by rw [pz_n c, pz_n c, i2 84 _ (by decide) (by decide), i2 86 _ (by decide) (by decide)])⟩)
    (by
      rintro st ⟨m, rfl, i1, i2⟩
      have en : m 82 0 = n := by rw [i2 82 0 (by decide) (by decide)]; exact hn
      unfold f70_b2
      simp only [KG L, KR, RAx L, Option.bind_some, if_true]
      rw [en, if_neg (by omega), ra_in ht.1 ht.2, xr_some]
      refine ⟨_, rfl, fun i a1 a2 => ?_, ?_, fun x i a1 a2 a3 => ?_⟩
      · rw [put_ne (by decide), put_ne (by decide)]; exact i1 i a1 (by omega)
      · rw [put_eq]; exact i2 88 t (by decide) (by decide)
      · by_cases e : x = 115
        · subst e; rw [put_nj (fun q => a3 ⟨rfl, q⟩)]; exact i2 _ i a1 a2
        · rw [put_ne e]; exact i2 x i a1 a2)
    (by rw [FU_v]; omega) (0, m0) ⟨m0, rfl, fun i a1 a2 => absurd a2 (by show ¬ i < 0; omega), fun _ _ _ _ => rfl⟩
  exact ⟨r, h1, h2, h3, h5⟩
theorem f171_s (L : Nat) {m : Sg} {t s : Int} (ht : 0 ≤ t ∧ t < 12) : (gp (m 130 t) s → f171 (GC L) RC 120 t s m = some 1) ∧ (¬ gp (m 130 t) s → f171 (GC L) RC 120 t s m = some 0) := by
  unfold f171 gp
  simp only [KG L, KR, KL L, if_true]
  rw [if_pos ht]
  exact ⟨fun q => by rw [if_pos q], fun q => by rw [if_neg q]⟩
/-- the model's: telling t laid out plain at q -/
theorem f174_s (L : Nat) {m0 : Sg} {n t q : Int} (hn : m0 120 1 = n) (h4 : 4 ≤ n) (h10 : n ≤ 10) (ht : 0 ≤ t ∧ t < 12) (hq : 12 ≤ q ∧ q < 14) : ∃ m', f174 (GC L) RC 120 t q m0 = some m' ∧ (∀ i, 0 ≤ i → i < n → m' 121 (10 * q + i) = pz (m0 130 t) (KM m0 t) i ∧ m' 122 (10 * q + i) = pz (m0 130 t) (NM m0 t) i) ∧ m' 123 q = m0 123 t ∧ ∀ x i, ¬ (x = 121 ∧ 10 * q ≤ i ∧ i < 10 * q + 10) → ¬ (x = 122 ∧ 10 * q ≤ i ∧ i < 10 * q + 10) → ¬ (x = 123 ∧ i = q) → m' x i = m0 x i := by
  obtain ⟨m1, a1, a2, a3, a4⟩ := f162_s L (m0 := m0) (p := t) (q := q) (by omega) (by omega) (by omega)
  unfold f174
  simp only [KG L, if_true]
  rw [a1]
  simp only [Option.bind_some]
  obtain ⟨r, h1, h2, h3, h5⟩ := lp_all (f := f174_b6 (GC L) RC 120 t q) (Q := fun m' => (∀ i, 0 ≤ i → i < n → m' 121 (10 * q + i) = pz (m0 130 t) (KM m0 t) i ∧ m' 122 (10 * q + i) = pz (m0 130 t) (NM m0 t) i) ∧ m' 123 q = m0 123 t ∧ ∀ x i, ¬ (x = 121 ∧ 10 * q ≤ i ∧ i < 10 * q + 10) → ¬ (x = 122 ∧ 10 * q ≤ i ∧ i < 10 * q + 10) → ¬ (x = 123 ∧ i = q) → m' x i = m0 x i) (fun k st => ∃ m, st = ((k : Int), m) ∧ (∀ i : Int, 0 ≤ i → i < k → m 121 (10 * q + i) = pz (m0 130 t) (KM m0 t) i ∧ m 122 (10 * q + i) = pz (m0 130 t) (NM m0 t) i) ∧ (∀ i : Int, (k : Int) ≤ i → i < n → m 121 (10 * q + i) = KM m0 t i ∧ m 122 (10 * q + i) = NM m0 t i) ∧ m 123 q = m0 123 t ∧ ∀ x i, ¬ (x = 121 ∧ 10 * q ≤ i ∧ i < 10 * q + 10) → ¬ (x = 122 ∧ 10 * q ≤ i ∧ i < 10 * q + 10) → ¬ (x = 123 ∧ i = q) → m x i = m0 x i) n.toNat
    (by
      rintro k st hk ⟨m, rfl, i1, i2, i3, i4⟩
      have en : m 120 1 = n := by rw [i4 120 1 (by omega) (by omega) (by omega)]; exact hn
      have eg : m 130 t = m0 130 t := i4 130 t (by omega) (by omega) (by omega)
      have eq : g_add (g_mul 10 q) (k : Int) = 10 * q + k := by unfold g_add g_mul; rw [w32_i (x := 10 * q) (by omega) (by omega), w32_i (by omega) (by omega)]
      unfold f174_b6
      simp only [KG L, KR, KL L, if_true, eq]
      rw [en, if_pos (by omega)]
      by_cases c : gp (m0 130 t) k
      · rw [(f171_s L ht).1 (by rw [eg]; exact c)]
        simp only [Option.bind_some]
        rw [if_neg (by decide), if_pos (by omega)]
        unfold f174_33
        simp only [KG L, KL L, if_true]
        rw [if_pos (by omega), w32_i (by omega) (by omega)]
        refine ⟨_, rfl, _, rfl, fun i c1 c2 => ?_, fun i c1 c2 => ?_, ?_, fun x i c1 c2 c3 => ?_⟩
        · by_cases e : i = k
          · rw [e, put_ne (by decide), put_eq, put_eq, pz_g c, pz_g c]; exact ⟨rfl, rfl⟩
          · rw [put_nj (by omega), put_nj (by omega), put_nj (by omega), put_nj (by omega)]; exact i1 i c1 (by omega)
        · rw [put_nj (by omega), put_nj (by omega), put_nj (by omega), put_nj (by omega)]; exact i2 i (by omega) c2
        · rw [put_ne (by decide), put_ne (by decide)]; exact i3
        · have e1 : put (put m 121 (10 * q + k) 0) 122 (10 * q + k) 0 x i = m x i := by
            unfold put
            rw [if_neg (by omega), if_neg (by omega)]
          rw [e1]; exact i4 x i c1 c2 c3
      · rw [(f171_s L ht).2 (by rw [eg]; exact c)]
        simp only [Option.bind_some, if_true]
        rw [w32_i (by omega) (by omega)]
        refine ⟨_, rfl, m, rfl, fun i c1 c2 => ?_, fun i c1 c2 => i2 i (by omega) c2, i3, i4⟩
        by_cases e : i = k
        · rw [e, pz_n c, pz_n c]; exact i2 k (by omega) (by omega)
        · exact i1 i c1 (by omega))
    (by
      rintro st ⟨m, rfl, i1, i2, i3, i4⟩
      have en : m 120 1 = n := by rw [i4 120 1 (by omega) (by omega) (by omega)]; exact hn
      unfold f174_b6
      simp only [KG L, if_true]
      rw [en, if_neg (by omega), xr_some]
      exact ⟨_, rfl, fun i c1 c2 => i1 i c1 (by omega), i3, i4⟩)
    (by rw [FU_v]; omega) (0, m1) ⟨m1, rfl, fun i c1 c2 => absurd c2 (by show ¬ i < 0; omega), fun i c1 c2 => a2 i c1 (by omega), a3, a4⟩
  exact ⟨r, h1, h2, h3, h5⟩
