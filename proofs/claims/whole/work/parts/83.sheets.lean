/-! CASES 29, 30, 33: a sheet laid out, an item written, a square asked for -/
section SHEETS
variable {n : Int} {m : Sg}
theorem f136_s {G : Gg} {ρ : Rg} {s : Int} : (0 ≤ s ∧ s ≤ 3 → f136 G ρ s m = some 1) ∧ (¬ (0 ≤ s ∧ s ≤ 3) → f136 G ρ s m = some 0) := by
  unfold f136
  constructor
  · intro c; rw [if_neg (by omega), if_pos (by omega)]
  · intro c
    by_cases q : s < 0
    · rw [if_pos q]
    · rw [if_neg q, if_neg (by omega)]
theorem f137_s {G : Gg} {ρ : Rg} {s : Int} : (0 ≤ s ∧ s ≤ 2 → f137 G ρ s m = some 1) ∧ (¬ (0 ≤ s ∧ s ≤ 2) → f137 G ρ s m = some 0) := by
  unfold f137
  constructor
  · intro c; rw [if_neg (by omega), if_neg (by omega)]
  · intro c
    by_cases q : s < 0
    · rw [if_pos q]
    · rw [if_neg q, if_pos (by omega)]
theorem f215_s {G : Gg} {ρ : Rg} {s : Int} : (0 ≤ s ∧ s ≤ 3 → f215 G ρ s m = some 1) ∧ (¬ (0 ≤ s ∧ s ≤ 3) → f215 G ρ s m = some 0) := by
  unfold f215
  constructor
  · intro c; rw [bnd (f143_s.1 c), if_pos (Or.inr rfl)]
  · intro c; rw [bnd (f143_s.2 c), if_pos (Or.inl rfl)]
theorem f48_s (L : Nat) {s : Int} (hs : 0 ≤ s ∧ s ≤ 3) : f48 (GC L) RC 43 s m = some (if m 47 s = -1 then 1 else 0) := by
  unfold f48
  simp only [KG L, KR, RAx L, if_true]
  rw [ra_in hs.1 (by omega), bnd rfl]
  by_cases q : m 47 s = -1
  · rw [if_pos q, if_pos q]
  · rw [if_neg q, if_neg q]
theorem f50_s (L : Nat) {s a l : Int} (hs : 0 ≤ s ∧ s ≤ 3) (hz : 0 ≤ m 49 s ∧ m 49 s ≤ 40) (hl : l < 2147483648) : (0 ≤ a ∧ 0 ≤ l ∧ a + l ≤ m 49 s → f50 (GC L) RC 43 s a l m = some 1) ∧ (¬ (0 ≤ a ∧ 0 ≤ l ∧ a + l ≤ m 49 s) → f50 (GC L) RC 43 s a l m = some 0) := by
  unfold f50
  simp only [KG L, KR, RAx L, if_true]
  rw [ra_in hs.1 (by omega)]
  constructor
  · intro c
    rw [if_neg (by omega), if_neg (by omega), bnd rfl]
    unfold g_sub
    rw [w32_i (by omega) (by omega), if_neg (by omega)]
  · intro c
    by_cases q : a < 0
    · rw [if_pos q]
    · rw [if_neg q]
      by_cases z : l < 0
      · rw [if_pos z]
      · rw [if_neg z, bnd rfl]
        unfold g_sub
        rw [w32_i (by omega) (by omega), if_pos (by omega)]
theorem ix_s {s i : Int} (hs : 0 ≤ s ∧ s ≤ 3) (hi : 0 ≤ i ∧ i ≤ 400) : g_add (g_mul 40 s) i = 40 * s + i ∧ g_add (g_mul s 40) i = 40 * s + i := by
  unfold g_add g_mul
  rw [w32_i (x := 40 * s) (by omega) (by omega), w32_i (x := s * 40) (by omega) (by omega), w32_i (by omega) (by omega), w32_i (by omega) (by omega)]
  exact ⟨rfl, by omega⟩
/-- the sheet, in class and model -/
theorem sht_s (h : Rel n m) {s : Int} (hs : 0 ≤ s ∧ s ≤ 3) : (m 47 s = -1 ∧ m 141 s = 0) ∨ (m 141 s = 1 ∧ ¬ m 47 s = -1 ∧ 0 ≤ m 47 s ∧ m 47 s ≤ 2 ∧ m 142 s = m 47 s ∧ m 143 s = m 49 s ∧ 0 ≤ m 49 s ∧ m 49 s ≤ 40 ∧ ∀ i, 0 ≤ i → i < m 49 s → m 144 (40 * s + i) = m 45 (40 * s + i)) := by
  rcases h.2.2.2.2.2.2.2.2.2 s hs.1 (by omega) with q | ⟨a1, a2, a3⟩
  · exact Or.inl q
  · exact Or.inr ⟨a1, by omega, a2, a3⟩
theorem k30 (L : Nat) (h : Rel n m) (s a v : Int) : ∃ w m1 m2, f126 (GC L) RC 1 s a v m = some (w, m1) ∧ m1 0 = m 0 ∧ f217 (GC L) RC 120 s a v m1 = some (w, m2) ∧ m2 0 = m 0 ∧ Rel n m2 := by
  by_cases c1 : 0 ≤ s ∧ s ≤ 3
  rotate_left
  · refine ⟨-2, m, m, ?_, rfl, ?_, rfl, h⟩
    · unfold f126; rw [bnd (f136_s.2 c1), if_pos rfl]
    · unfold f217; rw [bnd (f215_s.2 c1), if_pos rfl]
  rcases sht_s h c1 with ⟨q1, q2⟩ | ⟨q1, q2, q3, q4, q5, q6, q7, q8, q9⟩
  · refine ⟨-11, m, m, ?_, rfl, ?_, rfl, h⟩
    · unfold f126
      simp only [KG L, KR, if_true]
      rw [bnd (f136_s.1 c1), if_neg (by exact n10), bnd (f48_s L c1), if_pos q1, if_neg (by exact n10)]
    · unfold f217
      simp only [KG L, KR, KL L, if_true]
      rw [bnd (f215_s.1 c1), if_neg (by exact n10), if_pos (by omega), if_pos q2]
  have es : g_sub (m 49 s) 1 = m 49 s - 1 := by unfold g_sub; rw [w32_i (by omega) (by omega)]
  by_cases c2 : 0 ≤ a ∧ a + 1 ≤ m 49 s
  rotate_left
  · refine ⟨-12, m, m, ?_, rfl, ?_, rfl, h⟩
    · unfold f126
      simp only [KG L, KR, if_true]
      rw [bnd (f136_s.1 c1), if_neg (by exact n10), bnd (f48_s L c1), if_neg q2, if_pos rfl, bnd ((f50_s L c1 ⟨q7, q8⟩ (by omega)).2 (by omega)), if_pos rfl]
    · unfold f217
      simp only [KG L, KR, KL L, if_true]
      rw [bnd (f215_s.1 c1), if_neg (by exact n10), if_pos (by omega), if_neg (by omega), if_pos (by omega), q6, es, bnd (f143_s.2 (by omega)), if_pos rfl]
  -- what is written
  have main : ∀ u : Int, ∃ m1 m2, m1 = put m 45 (40 * s + a) u ∧ m2 = put m1 144 (40 * s + a) u ∧ m1 0 = m 0 ∧ m2 0 = m 0 ∧ Rel n m2 := by
    intro u
    have pf : ∀ x i, ¬ (x = 45 ∧ i = 40 * s + a) → ¬ (x = 144 ∧ i = 40 * s + a) → put (put m 45 (40 * s + a) u) 144 (40 * s + a) u x i = m x i := fun x i d1 d2 => by unfold put; rw [if_neg d2, if_neg d1]
    obtain ⟨l1, l2⟩ := Rel_C (m' := put (put m 45 (40 * s + a) u) 144 (40 * s + a) u) h (fun t t0 t4 => by
      have o := h.2.2.2.2.2.2.2.2.2 t t0 t4
      unfold R_c1 at o ⊢
      rw [pf 47 t (by omega) (by omega), pf 141 t (by omega) (by omega), pf 142 t (by omega) (by omega), pf 143 t (by omega) (by omega), pf 49 t (by omega) (by omega)]
      rcases o with o | ⟨o1, o2, o3, o4, o5, o6, o7, o8⟩
      · exact Or.inl o
      · refine Or.inr ⟨o1, o2, o3, o4, o5, o6, o7, fun i i0 i1 => ?_⟩
        rw [put_as, put_ne (by decide), put_ne (by decide), put_as]
        by_cases e : 40 * t + i = 40 * s + a
        · rw [if_pos e, if_pos e]
        · rw [if_neg e, if_neg e]; exact o8 i i0 i1) (fun x i d1 d2 => pf x i (by unfold sC at d2; omega) (by unfold sC at d2; omega))
    exact ⟨_, _, rfl, rfl, by rw [put_f (by decide)], l1, l2⟩
  have C : ∀ u, (u = if m 47 s = 0 then g_b v else if m 47 s = 1 then g_s v else v) → f126 (GC L) RC 1 s a v m = some (1, put m 45 (40 * s + a) u) ∧ f217 (GC L) RC 120 s a v (put m 45 (40 * s + a) u) = some (1, put (put m 45 (40 * s + a) u) 144 (40 * s + a) u) := by
    intro u hu
    have k52 : ∀ z, f52_17 (GC L) RC 43 s a z m = some (put m 45 (40 * s + a) z) := fun z => by
      unfold f52_17 f54
      simp only [KG L, KR, RPx L, if_true]
      rw [bnd rfl, (ix_s c1 (by omega)).2, rp_in (by omega) (by omega), bnd rfl]
    have k217 : ∀ z, f217_51 (GC L) RC z (g_add (g_mul 40 s) a) 144 (put m 45 (40 * s + a) u) = some (1, put (put m 45 (40 * s + a) u) 144 (40 * s + a) z) := fun z => by
      unfold f217_51
      simp only [KG L, KL L, if_true]
      rw [(ix_s c1 (by omega)).1, if_pos (by omega)]
    constructor
    · unfold f126 f52
      simp only [KG L, KR, RAx L, if_true]
      rw [bnd (f136_s.1 c1), if_neg (by exact n10), bnd (f48_s L c1), if_neg q2, if_pos rfl, bnd ((f50_s L c1 ⟨q7, q8⟩ (by omega)).1 (by omega)), if_neg (by exact n10), ra_in c1.1 (by omega), bnd rfl, k52, k52, k52]
      by_cases z0 : m 47 s = 0
      · rw [if_pos z0] at hu ⊢; rw [hu]; rfl
      · rw [if_neg z0] at hu ⊢
        by_cases z1 : m 47 s = 1
        · rw [if_pos z1] at hu ⊢; rw [hu]; rfl
        · rw [if_neg z1] at hu ⊢; rw [hu]; rfl
    · unfold f217
      simp only [KG L, KR, KL L, if_true]
      rw [bnd (f215_s.1 c1), if_neg (by exact n10), if_pos (by omega), put_ne (by decide), put_ne (by decide), put_ne (by decide), if_neg (by omega), if_pos (by omega), q6, es, bnd (f143_s.1 (by omega)), if_neg (by exact n10), if_pos (by omega), q5, k217, k217, k217]
      by_cases z0 : m 47 s = 0
      · rw [if_pos z0] at hu; rw [if_pos z0, hu]
      · rw [if_neg z0] at hu; rw [if_neg z0]
        by_cases z1 : m 47 s = 1
        · rw [if_pos z1] at hu; rw [if_pos z1, hu]
        · rw [if_neg z1] at hu; rw [if_neg z1, hu]
  obtain ⟨m1, m2, rfl, rfl, r1, r2, r3⟩ := main (if m 47 s = 0 then g_b v else if m 47 s = 1 then g_s v else v)
  obtain ⟨C1, C2⟩ := C _ rfl
  exact ⟨1, _, _, C1, r1, C2, r2, r3⟩
/-- the model climbs from a kind to the kinds that it stands under -/
theorem f221_l (L : Nat) {s k v : Int} (hk : 0 ≤ k ∧ k ≤ 5) (hv : 0 ≤ v ∧ v ≤ 5) (hs : 0 ≤ s ∧ s < 10) : lp (f221_b21 (GC L) RC 120 s v m) FU k = some (if k = v ∨ v = 0 ∨ (k = 4 ∧ v = 1) ∨ (k = 5 ∧ v = 3) then m 122 (120 + s) else -13) := by
  have eh : ∀ t, t = v → f221_b21 (GC L) RC 120 s v m t = some (Sum.inr (m 122 (120 + s))) := fun t e => by
    unfold f221_b21 f221_31
    simp only [KG L, KR, KL L, if_true]
    rw [if_neg (by omega), if_pos e, if_pos e]
    unfold g_add
    rw [w32_i (by omega) (by omega), if_pos (by omega), xr_some]
  have em : f221_b21 (GC L) RC 120 s v m (-1) = some (Sum.inr (-13)) := by
    unfold f221_b21 f221_31
    rw [if_pos rfl, if_neg (by omega), xr_some]
  have st : ∀ t p, ¬ t = v → ¬ t = -1 → (p = if t = 0 then -1 else if t = 4 then 1 else if t = 5 then 3 else 0) → f221_b21 (GC L) RC 120 s v m t = some (Sum.inl p) := fun t p e e1 hp => by
    unfold f221_b21 f220
    rw [if_neg e1, if_neg e, hp]
    by_cases z0 : t = 0
    · rw [if_pos z0, if_pos z0]; rfl
    · rw [if_neg z0, if_neg z0]
      by_cases z4 : t = 4
      · rw [if_pos z4, if_pos z4]; rfl
      · rw [if_neg z4, if_neg z4]
        by_cases z5 : t = 5
        · rw [if_pos z5, if_pos z5]; rfl
        · rw [if_neg z5, if_neg z5]; rfl
  have l0 : ∀ F, lp (f221_b21 (GC L) RC 120 s v m) (F + 2) 0 = some (if v = 0 then m 122 (120 + s) else -13) := fun F => by
    by_cases z : v = 0
    · rw [if_pos z]; exact lp_r (eh 0 z.symm)
    · rw [if_neg z, lp_i (st 0 (-1) (fun q => z q.symm) (by omega) rfl)]; exact lp_r em
  have l1 : ∀ F t, (t = 1 ∨ t = 2 ∨ t = 3) → lp (f221_b21 (GC L) RC 120 s v m) (F + 3) t = some (if t = v ∨ v = 0 then m 122 (120 + s) else -13) := fun F t ht => by
    by_cases z : t = v
    · rw [if_pos (Or.inl z)]; exact lp_r (eh t z)
    · rw [lp_i (st t 0 z (by omega) (by rw [if_neg (by omega), if_neg (by omega), if_neg (by omega)])), l0 F]
      by_cases z0 : v = 0
      · rw [if_pos z0, if_pos (Or.inr z0)]
      · rw [if_neg z0, if_neg (by omega)]
  rw [show FU = 3996 + 4 from rfl]
  by_cases a0 : k = 0
  · rw [a0, show (3996 : Nat) + 4 = 3998 + 2 from rfl, l0]
    by_cases z : v = 0
    · rw [if_pos z, if_pos (by omega)]
    · rw [if_neg z, if_neg (by omega)]
  by_cases a1 : k = 1 ∨ k = 2 ∨ k = 3
  · rw [show (3996 : Nat) + 4 = 3997 + 3 from rfl, l1 _ k a1]
    by_cases z : k = v ∨ v = 0
    · rw [if_pos z, if_pos (by omega)]
    · rw [if_neg z, if_neg (by omega)]
  by_cases z : k = v
  · rw [if_pos (Or.inl z)]; exact lp_r (eh k z)
  by_cases a4 : k = 4
  · rw [lp_i (st k 1 z (by omega) (by rw [if_neg a0, if_pos a4])), l1 _ 1 (Or.inl rfl)]
    by_cases z1 : (1 : Int) = v ∨ v = 0
    · rw [if_pos z1, if_pos (by omega)]
    · rw [if_neg z1, if_neg (by omega)]
  · rw [lp_i (st k 3 z (by omega) (by rw [if_neg a0, if_neg a4, if_pos (by omega)])), l1 _ 3 (Or.inr (Or.inr rfl))]
    by_cases z1 : (3 : Int) = v ∨ v = 0
    · rw [if_pos z1, if_pos (by omega)]
    · rw [if_neg z1, if_neg (by omega)]
theorem f138_s {G : Gg} {ρ : Rg} {k v : Int} : f138 G ρ k v m = some (if k = v ∨ v = 0 ∨ (k = 4 ∧ v = 1) ∨ (k = 5 ∧ v = 3) then 1 else 0) := by
  unfold f138 f138_13
  by_cases z : k = v
  · rw [if_pos z, if_pos (Or.inl z)]
  rw [if_neg z]
  by_cases z0 : v = 0
  · rw [if_pos z0, if_pos (Or.inr (Or.inl z0))]
  rw [if_neg z0]
  by_cases a4 : k = 4
  · rw [if_pos a4]
    by_cases z1 : v = 1
    · rw [if_pos z1, if_pos (by omega)]
    · rw [if_neg z1, if_neg (by omega), if_neg (by omega)]
  · rw [if_neg a4]
    by_cases a5 : k = 5
    · rw [if_pos a5]
      by_cases z3 : v = 3
      · rw [if_pos z3, if_pos (by omega)]
      · rw [if_neg z3, if_neg (by omega)]
    · rw [if_neg a5, if_neg (by omega)]
theorem k33 (L : Nat) (h : Rel n m) (s v : Int) : ∃ w, f129 (GC L) RC 1 s v m = some w ∧ f221 (GC L) RC 120 s v m = some w := by
  obtain ⟨hn, h4, h10, hN, hA, hn2, hN2, ha, hc⟩ := hand_s h
  by_cases c1 : 0 ≤ v ∧ v ≤ 5
  rotate_left
  · refine ⟨-2, ?_, ?_⟩
    · unfold f129; rw [bnd (f130_s.2 c1), if_pos rfl]
    · unfold f221; rw [bnd (f143_s.2 c1), if_pos rfl]
  by_cases c2 : 0 ≤ s ∧ s < n
  rotate_left
  · refine ⟨-11, ?_, ?_⟩
    · unfold f129
      simp only [KG L, KR, if_true]
      rw [bnd (f130_s.1 c1), if_neg (by exact n10), bnd ((f38_h L hn).2 c2), if_pos rfl]
    · unfold f221
      simp only [KG L, KR, if_true]
      rw [bnd (f143_s.1 c1), if_neg (by exact n10), bnd ((f146_s L hn2 h4 h10).2 c2), if_pos rfl]
  obtain ⟨r1, r2, r3, r4, r5, r6⟩ := h.2.1.1 s c2.1 c2.2
  refine ⟨if m 56 s = v ∨ v = 0 ∨ (m 56 s = 4 ∧ v = 1) ∨ (m 56 s = 5 ∧ v = 3) then m 58 s else -13, ?_, ?_⟩
  · unfold f129
    simp only [KG L, KR, RAx L, if_true]
    rw [bnd (f130_s.1 c1), if_neg (by exact n10), bnd ((f38_h L hn).1 c2), if_neg (by exact n10), ra_in c2.1 (by omega), ra_in c2.1 (by omega), bnd rfl, bnd f138_s, bnd rfl]
    by_cases z : m 56 s = v ∨ v = 0 ∨ (m 56 s = 4 ∧ v = 1) ∨ (m 56 s = 5 ∧ v = 3)
    · rw [if_pos z, if_pos z, if_neg (by exact n10)]
    · rw [if_neg z, if_neg z, if_pos rfl]
  · unfold f221
    simp only [KG L, KR, KL L, if_true]
    have e : g_add 120 s = 120 + s := by unfold g_add; rw [w32_i (by omega) (by omega)]
    rw [bnd (f143_s.1 c1), if_neg (by exact n10), bnd ((f146_s L hn2 h4 h10).1 c2), if_neg (by exact n10), e, if_pos (by omega), r1, f221_l L (by omega) c1 (by omega), r2]
end SHEETS
