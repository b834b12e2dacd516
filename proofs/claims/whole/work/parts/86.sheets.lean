/-! CASE 32: the hand read from a sheet -/
def lok (n s a : Int) (m : Sg) (j : Int) : Bool := decide (j < n ∧ (0 ≤ m 45 (40 * s + a + 2 * j) ∧ m 45 (40 * s + a + 2 * j) ≤ 5) ∧ 0 ≤ m 45 (40 * s + a + 2 * j + 1) ∧ m 45 (40 * s + a + 2 * j + 1) ≤ 9)
theorem lok_t {n s a : Int} {m : Sg} {j : Int} : lok n s a m j = true ↔ (j < n ∧ (0 ≤ m 45 (40 * s + a + 2 * j) ∧ m 45 (40 * s + a + 2 * j) ≤ 5) ∧ 0 ≤ m 45 (40 * s + a + 2 * j + 1) ∧ m 45 (40 * s + a + 2 * j + 1) ≤ 9) := by unfold lok; exact decide_eq_true_iff
def lcn (n s a : Int) (m : Sg) : Nat → Int
  | 0 => 0
  | k + 1 => if lok n s a m k = true then lcn n s a m k + 1 else lcn n s a m k
theorem lcn_b (n s a : Int) (m : Sg) : ∀ k : Nat, 0 ≤ lcn n s a m k ∧ lcn n s a m k ≤ k
  | 0 => by show (0 : Int) ≤ 0 ∧ (0 : Int) ≤ ((0 : Nat) : Int); omega
  | k + 1 => by
    have e := lcn_b n s a m k
    by_cases z : lok n s a m k = true
    · rw [show lcn n s a m (k + 1) = lcn n s a m k + 1 from if_pos z]; omega
    · rw [show lcn n s a m (k + 1) = lcn n s a m k from if_neg z]; omega
def lfl (a z k : Int) : Prop := ¬ (0 ≤ a ∧ a + 2 * k + 2 ≤ z)
def lend (n s a v : Int) (m : Sg) (z : Int) (k : Nat) (w : Int) : Prop := (∀ j : Nat, j < k → ¬ lfl a z j) ∧ (k : Int) ≤ v ∧ (((k : Int) = v ∧ w = lcn n s a m k) ∨ ((k : Int) < v ∧ lfl a z k ∧ w = -12))
theorem lend_u {n s a v : Int} {m : Sg} {z : Int} {k k' : Nat} {w w' : Int} (h : lend n s a v m z k w) (h' : lend n s a v m z k' w') : k = k' ∧ w = w' := by
  obtain ⟨a1, a2, a3⟩ := h
  obtain ⟨b1, b2, b3⟩ := h'
  have e : k = k' := by
    rcases Nat.lt_trichotomy k k' with q | q | q
    · rcases a3 with a3 | a3
      · omega
      · exact absurd a3.2.1 (b1 k q)
    · exact q
    · rcases b3 with b3 | b3
      · omega
      · exact absurd b3.2.1 (a1 k' q)
  subst e
  refine ⟨rfl, ?_⟩
  rcases a3 with a3 | a3 <;> rcases b3 with b3 | b3
  · rw [a3.2, b3.2]
  · omega
  · omega
  · rw [a3.2.2, b3.2.2]
section SHEETS
variable {n : Int} {m : Sg}
theorem f147_l (L : Nat) {k x y : Int} (hn : m 120 1 = n) (h4 : 4 ≤ n) (h10 : n ≤ 10) (hk : 0 ≤ k) : ((k < n ∧ (0 ≤ x ∧ x ≤ 5) ∧ 0 ≤ y ∧ y ≤ 9) → f147 (GC L) RC 120 k x y m = some (m 121 (120 + k), put (put m 121 (120 + k) x) 122 (120 + k) y)) ∧ (¬ (k < n ∧ (0 ≤ x ∧ x ≤ 5) ∧ 0 ≤ y ∧ y ≤ 9) → f147 (GC L) RC 120 k x y m = some (-2, m)) := by
  have p := f146_s L (s := k) hn h4 h10
  unfold f147 f147_38
  simp only [KG L, KR, KL L, if_true]
  constructor
  · intro c
    have e : g_add 120 k = 120 + k := by unfold g_add; rw [w32_i (by omega) (by omega)]
    rw [bnd (p.1 ⟨hk, c.1⟩), if_neg (by exact n10), bnd (f143_s.1 c.2.1), if_neg (by exact n10), bnd (f143_s.1 c.2.2), if_neg (by exact n10), e, if_pos (by omega), if_pos (by omega)]
  · intro c
    by_cases c1 : k < n
    · rw [bnd (p.1 ⟨hk, c1⟩), if_neg (by exact n10)]
      by_cases c2 : 0 ≤ x ∧ x ≤ 5
      · rw [bnd (f143_s.1 c2), if_neg (by exact n10), bnd (f143_s.2 (fun q => c ⟨c1, c2, q⟩)), if_pos rfl]
      · rw [bnd (f143_s.2 c2), if_pos rfl]
    · rw [bnd (p.2 (fun q => c1 q.2)), if_pos rfl]
theorem f51_s (L : Nat) {s i : Int} (hs : 0 ≤ s ∧ s ≤ 3) (hi : 0 ≤ i ∧ i < 40) : f51 (GC L) RC 43 s i m = some (m 45 (40 * s + i)) := by
  unfold f51 f54
  simp only [KG L, KR, RAx L, if_true]
  rw [bnd rfl, (ix_s hs (by omega)).2, ra_in (by omega) (by omega), bnd rfl]
theorem f128l_s (L : Nat) {s a v : Int} (hs : 0 ≤ s ∧ s ≤ 3) (hz : 0 ≤ m 49 s ∧ m 49 s ≤ 40) (ha : -2147483648 ≤ a ∧ a < 2147483648) (hv : 0 ≤ v ∧ v ≤ 10) (hn : m 54 0 = n) (h10 : n ≤ 10) : ∃ q, lp (f128_b38 (GC L) RC 1 s a v) FU (0, 0, m) = some q ∧ ∃ (k : Nat) (w : Int) (m1 : Sg), q = (w, m1) ∧ lend n s a v m (m 49 s) k w ∧ (∀ j, m1 56 j = if (0 ≤ j ∧ j < (k : Int)) ∧ lok n s a m j = true then m 45 (40 * s + a + 2 * j) else m 56 j) ∧ (∀ j, m1 58 j = if (0 ≤ j ∧ j < (k : Int)) ∧ lok n s a m j = true then m 45 (40 * s + a + 2 * j + 1) else m 58 j) ∧ ∀ x, ¬ x = 56 → ¬ x = 58 → m1 x = m x := by
  obtain ⟨N, hN⟩ : ∃ N : Nat, v = (N : Int) := ⟨v.toNat, by omega⟩
  refine lp_ex (f := f128_b38 (GC L) RC 1 s a v) (fun (k : Nat) st => ∃ m1, st = (lcn n s a m k, (k : Int), m1) ∧ (∀ j : Nat, j < k → ¬ lfl a (m 49 s) j) ∧ (∀ j, m1 56 j = if (0 ≤ j ∧ j < (k : Int)) ∧ lok n s a m j = true then m 45 (40 * s + a + 2 * j) else m 56 j) ∧ (∀ j, m1 58 j = if (0 ≤ j ∧ j < (k : Int)) ∧ lok n s a m j = true then m 45 (40 * s + a + 2 * j + 1) else m 58 j) ∧ ∀ x, ¬ x = 56 → ¬ x = 58 → m1 x = m x) N ?_ ?_ FU (by rw [FU_v]; omega) (0, 0, m) ⟨m, rfl, fun j q => by omega, fun j => by rw [if_neg (by omega)], fun j => by rw [if_neg (by omega)], fun _ _ _ => rfl⟩
  · rintro k st hk ⟨m1, rfl, i0, i1, i2, i3⟩
    have ov : a + 2 * (k : Int) < 2147483648 := by
      by_cases z : k = 0
      · omega
      · have q := i0 (k - 1) (by omega)
        unfold lfl at q
        omega
    have neg : 0 < k → 0 ≤ a := fun z => by
      have q := i0 0 z
      unfold lfl at q
      omega
    have ex : g_add a (g_mul 2 (k : Int)) = a + 2 * k := by
      unfold g_add g_mul
      rw [w32_i (x := 2 * (k : Int)) (by omega) (by omega), w32_i (by omega) (by omega)]
    have p50 := f50_s L (m := m1) (s := s) (a := a + 2 * k) (l := 2) hs (by rw [i3 49 (by decide) (by decide)]; exact hz) (by omega)
    rw [i3 49 (by decide) (by decide)] at p50
    by_cases fl : lfl a (m 49 s) k
    · refine Or.inr ⟨(-12, m1), ?_, k, -12, m1, rfl, ⟨i0, by omega, Or.inr ⟨by omega, fl, rfl⟩⟩, i1, i2, i3⟩
      unfold f128_b38
      simp only [KG L, KR, if_true]
      unfold lfl at fl
      rw [if_pos (by omega), ex, bnd (p50.2 (by omega)), if_pos rfl, xr_some]
    · left
      have gd : 0 ≤ a ∧ a + 2 * (k : Int) + 2 ≤ m 49 s := Classical.not_not.mp fl
      have i0' : ∀ j : Nat, j < k + 1 → ¬ lfl a (m 49 s) j := fun j q => by
        by_cases z : j = k
        · rw [z]; exact fl
        · exact i0 j (by omega)
      have ex1 : g_add (a + 2 * (k : Int)) 1 = a + 2 * k + 1 := by unfold g_add; rw [w32_i (by omega) (by omega)]
      have r1 := f51_s L (m := m1) (s := s) (i := a + 2 * k) hs (by omega)
      have r2 := f51_s L (m := m1) (s := s) (i := a + 2 * k + 1) hs (by omega)
      rw [i3 45 (by decide) (by decide), show 40 * s + (a + 2 * (k : Int)) = 40 * s + a + 2 * k from by omega] at r1
      rw [i3 45 (by decide) (by decide), show 40 * s + (a + 2 * (k : Int) + 1) = 40 * s + a + 2 * k + 1 from by omega] at r2
      have p38 := f38_h L (m := m1) (s := (k : Int)) (n := n) (by rw [i3 54 (by decide) (by decide)]; exact hn)
      have cb := lcn_b n s a m k
      by_cases ok : lok n s a m k = true
      · obtain ⟨o1, o2, o3⟩ := lok_t.1 ok
        refine ⟨(lcn n s a m k + 1, (k : Int) + 1, put (put m1 56 k (m 45 (40 * s + a + 2 * k))) 58 k (m 45 (40 * s + a + 2 * k + 1))), ?_, put (put m1 56 k (m 45 (40 * s + a + 2 * k))) 58 k (m 45 (40 * s + a + 2 * k + 1)), ?_, i0', fun j => ?_, fun j => ?_, fun x d1 d2 => ?_⟩
        · unfold f128_b38
          simp only [KG L, KR, if_true]
          rw [if_pos (by omega), ex, bnd (p50.1 (by omega)), if_neg (by exact n10), bnd r1, ex1, bnd r2, bnd (p38.1 ⟨by omega, o1⟩), if_neg (by exact n10), bnd (f130_s.1 o2), if_neg (by exact n10), bnd (f131_s.1 o3), if_neg (by exact n10), f40_54 L, rp_in (by omega) (by omega), rp_in (by omega) (by omega), bnd rfl, w32_i (by omega) (by omega), w32_i (by omega) (by omega)]
        · rw [show lcn n s a m (k + 1) = lcn n s a m k + 1 from if_pos ok]; rfl
        · rw [put_ne (by decide), put_as]
          by_cases e : j = (k : Int)
          · rw [if_pos e, e, if_pos ⟨by omega, ok⟩]
          · rw [if_neg e, i1]
            by_cases z : (0 ≤ j ∧ j < (k : Int)) ∧ lok n s a m j = true
            · rw [if_pos z, if_pos ⟨by omega, z.2⟩]
            · rw [if_neg z, if_neg (fun q => z ⟨by omega, q.2⟩)]
        · rw [put_as]
          by_cases e : j = (k : Int)
          · rw [if_pos e, e, if_pos ⟨by omega, ok⟩]
          · rw [if_neg e, put_ne (by decide), i2]
            by_cases z : (0 ≤ j ∧ j < (k : Int)) ∧ lok n s a m j = true
            · rw [if_pos z, if_pos ⟨by omega, z.2⟩]
            · rw [if_neg z, if_neg (fun q => z ⟨by omega, q.2⟩)]
        · rw [put_f d2, put_f d1]; exact i3 x d1 d2
      · have st : f128_b38 (GC L) RC 1 s a v (lcn n s a m k, (k : Int), m1) = some (Sum.inl (lcn n s a m k, (k : Int) + 1, m1)) := by
          unfold f128_b38
          simp only [KG L, KR, if_true]
          rw [if_pos (by omega), ex, bnd (p50.1 (by omega)), if_neg (by exact n10), bnd r1, ex1, bnd r2, w32_i (by omega) (by omega)]
          by_cases o1 : (k : Int) < n
          · rw [bnd (p38.1 ⟨by omega, o1⟩), if_neg (by exact n10)]
            by_cases o2 : 0 ≤ m 45 (40 * s + a + 2 * k) ∧ m 45 (40 * s + a + 2 * k) ≤ 5
            · rw [bnd (f130_s.1 o2), if_neg (by exact n10), bnd (f131_s.2 (fun q => ok (lok_t.2 ⟨o1, o2, q⟩))), if_pos rfl]
            · rw [bnd (f130_s.2 o2), if_pos rfl]
          · rw [bnd (p38.2 (fun q => o1 q.2)), if_pos rfl]
        refine ⟨_, st, m1, ?_, i0', fun j => ?_, fun j => ?_, i3⟩
        · rw [show lcn n s a m (k + 1) = lcn n s a m k from if_neg ok]; rfl
        · rw [i1]
          by_cases z : (0 ≤ j ∧ j < (k : Int)) ∧ lok n s a m j = true
          · rw [if_pos z, if_pos ⟨by omega, z.2⟩]
          · rw [if_neg z, if_neg (fun q => z ⟨⟨q.1.1, by
              by_cases e : j = (k : Int)
              · exact absurd (e ▸ q.2) ok
              · omega⟩, q.2⟩)]
        · rw [i2]
          by_cases z : (0 ≤ j ∧ j < (k : Int)) ∧ lok n s a m j = true
          · rw [if_pos z, if_pos ⟨by omega, z.2⟩]
          · rw [if_neg z, if_neg (fun q => z ⟨⟨q.1.1, by
              by_cases e : j = (k : Int)
              · exact absurd (e ▸ q.2) ok
              · omega⟩, q.2⟩)]
  · rintro st ⟨m1, rfl, i0, i1, i2, i3⟩
    refine ⟨(lcn n s a m N, m1), ?_, N, _, m1, rfl, ⟨i0, by omega, Or.inl ⟨hN.symm, rfl⟩⟩, i1, i2, i3⟩
    unfold f128_b38
    simp only
    rw [if_neg (by omega), xr_some]
end SHEETS
