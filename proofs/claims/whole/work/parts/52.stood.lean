/-! WHAT MAY HAVE STOOD IN A GAP -/
/-- near a telling, and no gap there; with a kind there -/
def stB (pr g : Int → Int) (t s x : Int) : Bool := (decide (x = pr t) || decide (pr x = t)) && !(gB (g x) s)
def stK (pr g Kc : Int → Int) (t s k x : Int) : Bool := stB pr g t s x && decide (Kc x = k)
def stO (pr g Kc : Int → Int) (t s k x : Int) : Bool := stB pr g t s x && !(decide (Kc x = k))
theorem cnt_2 (p q : Int → Bool) : ∀ k : Nat, cnt (fun x => p x && !(q x)) k + cnt (fun x => p x && q x) k = cnt p k
  | 0 => rfl
  | k + 1 => by
    have := cnt_2 p q k
    rw [cnt_s, cnt_s, cnt_s]
    cases hp : p k <;> cases hq : q k <;> simp <;> omega
/-- the kinds that the most have -/
def stm (h : Int → Int) : Nat → Int × Int
  | 0 => (0, 0)
  | k + 1 => if (stm h k).1 < h (k : Int) then (h (k : Int), g_or 0 (g_shl 1 (k : Int))) else if h (k : Int) = (stm h k).1 then ((stm h k).1, g_or (stm h k).2 (g_shl 1 (k : Int))) else stm h k
theorem stm_s (h : Int → Int) (k : Nat) : stm h (k + 1) = if (stm h k).1 < h (k : Int) then (h (k : Int), g_or 0 (g_shl 1 (k : Int))) else if h (k : Int) = (stm h k).1 then ((stm h k).1, g_or (stm h k).2 (g_shl 1 (k : Int))) else stm h k := rfl
theorem stm_b (h : Int → Int) {b : Int} (hb : 0 ≤ b) (hh : ∀ i, 0 ≤ h i ∧ h i ≤ b) : ∀ k : Nat, 0 ≤ (stm h k).1 ∧ (stm h k).1 ≤ b
  | 0 => ⟨Int.le_refl _, hb⟩
  | k + 1 => by
    have a := stm_b h hb hh k
    have c := hh k
    rw [stm_s]
    split
    · exact c
    · split
      · exact a
      · exact a
theorem stm_c {h h' : Int → Int} : ∀ k : Nat, (∀ i : Int, 0 ≤ i → i < k → h i = h' i) → stm h k = stm h' k
  | 0, _ => rfl
  | k + 1, e => by rw [stm_s, stm_s, stm_c k (fun i a1 a2 => e i a1 (by omega)), e k (by omega) (by omega)]
theorem o0_a : ∀ k : Fin 6, g_or 0 (g_shl 1 (k.val : Int)) = g_shl 1 (k.val : Int) := by decide +kernel
def FrH (m0 m : Sg) : Prop := ∀ x i, ¬ x = 98 → m x i = m0 x i
theorem FrH_f {m0 m : Sg} (h : FrH m0 m) {x : Nat} (hx : ¬ x = 98) : m x = m0 x := funext fun i => h x i hx
theorem prX_H {m0 m : Sg} (h : FrH m0 m) (n T t : Int) : prX n T m t = prX n T m0 t := by
  unfold prX cX KX NX
  rw [FrH_f h (x := 92) (by decide), FrH_f h (x := 88) (by decide), FrH_f h (x := 90) (by decide), FrH_f h (x := 84) (by decide), FrH_f h (x := 86) (by decide)]
theorem f78_s (L : Nat) {m0 : Sg} {n T t s : Int} (hn : m0 82 0 = n) (h4 : 4 ≤ n) (h10 : n ≤ 10) (hT : m0 82 9 = T) (hT2 : 0 ≤ T ∧ T ≤ 12) (ha : ∀ i, 0 ≤ i → i < T → 0 ≤ m0 88 i ∧ m0 88 i < 32) (ht : 0 ≤ t ∧ t < T) (hs : 0 ≤ s ∧ s < n) (hK : ∀ x, 0 ≤ x → x < T → 0 ≤ m0 84 (10 * x + s) ∧ m0 84 (10 * x + s) < 6) : ∃ m', f78 (GC L) RC 82 t s m0 = some ((stm (fun k => cnt (stK (prX n T m0) (m0 90) (fun x => m0 84 (10 * x + s)) t s k) T.toNat) 6).2, m') ∧ FrH m0 m' := by
  generalize hpr : prX n T m0 = pr
  generalize hKc : (fun x => m0 84 (10 * x + s)) = Kc
  have hK2 : ∀ x, 0 ≤ x → x < T → 0 ≤ Kc x ∧ Kc x < 6 := fun x a1 a2 => by rw [← hKc]; exact hK x a1 a2
  have h74 : ∀ (m : Sg) (x : Int), FrH m0 m → 0 ≤ x → x < T → f74 (GC L) RC 82 x m = some (pr x) := by
    intro m x hF x1 x2
    have := f74_s L (m := m) (t := x) ((hF 82 0 (by decide)).trans hn) h4 h10 ((hF 82 9 (by decide)).trans hT) hT2 (fun i a1 a2 => by rw [hF 88 i (by decide)]; exact ha i a1 a2) ⟨x1, x2⟩
    rw [this, ← hpr, ← prX_H hF]
    rfl
  have hcb : ∀ k : Int, 0 ≤ cnt (stK pr (m0 90) Kc t s k) T.toNat ∧ cnt (stK pr (m0 90) Kc t s k) T.toNat ≤ 12 := fun k => by
    have := cnt_b (stK pr (m0 90) Kc t s k) T.toNat
    omega
  have b53 : ∀ m : Sg, FrH m0 m → (∀ k, 0 ≤ k → k < 6 → m 98 k = cnt (stK pr (m0 90) Kc t s k) T.toNat) → lp (f78_b53 (GC L) RC 82 m) FU (0, 0, 0) = some ((stm (fun k => cnt (stK pr (m0 90) Kc t s k) T.toNat) 6).2, m) := by
    intro m hF hm
    generalize hh : (fun k => cnt (stK pr (m0 90) Kc t s k) T.toNat) = h at *
    have hm2 : ∀ k, 0 ≤ k → k < 6 → m 98 k = h k := fun k a1 a2 => by rw [hm k a1 a2, ← hh]
    refine lp_eq (fun k : Nat => ((stm h k).1, (stm h k).2, (k : Int))) 6 (fun k hk => ?_) ?_ (by rw [FU_v]; omega)
    · unfold f78_b53
      simp only [KG L, KR, RAx L, Option.bind_some, if_true]
      rw [if_pos (by omega), ra_in (by omega) (by omega), hm2 _ (by omega) (by omega), stm_s]
      have w64 : ∀ z y : Int, f78_64 (GC L) RC 82 z y (k : Int) m = some (Sum.inl (if z < h k then (h k, g_or y (g_shl 1 (k : Int)), ((k + 1 : Nat) : Int)) else if h k = z then (z, g_or y (g_shl 1 (k : Int)), ((k + 1 : Nat) : Int)) else (z, y, ((k + 1 : Nat) : Int)))) := by
        intro z y
        unfold f78_64 f226
        simp only [KG L, KR, RAx L, Option.bind_some, if_true]
        rw [ra_in (by omega) (by omega), hm2 _ (by omega) (by omega), w32_i (by omega) (by omega)]
        by_cases c : z < h k
        · rw [if_pos c, if_pos c]
          simp only [Option.bind_some, if_true]
          rfl
        · rw [if_neg c, if_neg c]
          simp only [Option.bind_some]
          by_cases c2 : h k = z
          · rw [if_pos c2, if_pos c2]; rfl
          · rw [if_neg c2, if_neg c2]; rfl
      rw [w64, w64]
      by_cases c : (stm h k).1 < h k
      · simp only [if_pos c]
      · simp only [if_neg c]
        by_cases c2 : h k = (stm h k).1
        · simp only [if_pos c2]
        · simp only [if_neg c2]
    · unfold f78_b53
      simp only
      rw [if_neg (by omega), xr_some]
  unfold f78
  simp only [KG L, KR, RFx L, if_true]
  rw [h74 m0 t (fun _ _ _ => rfl) ht.1 ht.2]
  simp only [Option.bind_some]
  obtain ⟨q, h1, m', h2, h3⟩ := lp_all (f := f78_b10 (GC L) RC 82 t s (pr t)) (Q := fun q => ∃ m', q = ((stm (fun k => cnt (stK pr (m0 90) Kc t s k) T.toNat) 6).2, m') ∧ FrH m0 m') (fun j st => ∃ m, st = ((j : Int), m) ∧ FrH m0 m ∧ ∀ k, 0 ≤ k → k < 6 → m 98 k = cnt (stK pr (m0 90) Kc t s k) j) T.toNat
    (by
      rintro j st hj ⟨m, rfl, i1, i2⟩
      have en : m 82 0 = n := (i1 82 0 (by decide)).trans hn
      have eT : m 82 9 = T := (i1 82 9 (by decide)).trans hT
      have e90 : m 90 = m0 90 := FrH_f i1 (by decide)
      have e84 : m 84 (10 * (j : Int) + s) = Kc j := by rw [i1 84 _ (by decide), ← hKc]
      have kj := hK2 j (by omega) (by omega)
      have w22 : (j : Int) = pr t ∨ pr j = t → ∃ m2, f78_22 (GC L) RC 82 t s (pr t) (j : Int) m = some (Sum.inl (((j + 1 : Nat) : Int), m2)) ∧ FrH m0 m2 ∧ ∀ k, 0 ≤ k → k < 6 → m2 98 k = cnt (stK pr (m0 90) Kc t s k) (j + 1) := by
        intro near
        have nb : (decide ((j : Int) = pr t) || decide (pr j = t)) = true := by
          rw [Bool.or_eq_true, decide_eq_true_iff, decide_eq_true_iff]; exact near
        unfold f78_22
        simp only [KG L, KR, RAx L, RPx L, if_true]
        rw [w32_i (x := (j : Int) + 1) (by omega) (by omega)]
        by_cases c : gp (m 90 j) s
        · rw [(f67_s L en (by omega) hs.1 hs.2).1 c]
          simp only [Option.bind_some]
          rw [if_neg (by decide)]
          refine ⟨m, rfl, i1, fun k a1 a2 => ?_⟩
          rw [i2 k a1 a2, cnt_s]
          have : stK pr (m0 90) Kc t s k j = false := by unfold stK stB; rw [← e90, gB_t.mpr c]; simp
          rw [this, if_neg (by decide), Int.add_zero]
        · rw [(f67_s L en (by omega) hs.1 hs.2).2 c]
          simp only [Option.bind_some, if_true]
          rw [f79_s (by omega) (by omega)]
          simp only [Option.bind_some]
          rw [ra_in (by omega) (by omega), e84, ra_in kj.1 kj.2, rp_in kj.1 kj.2, i2 _ kj.1 kj.2]
          have cb := cnt_b (stK pr (m0 90) Kc t s (Kc j)) j
          unfold g_add
          rw [w32_i (by omega) (by omega)]
          refine ⟨_, rfl, fun x i cx => by rw [put_ne cx]; exact i1 x i cx, fun k a1 a2 => ?_⟩
          rw [cnt_s]
          have gf : gB (m0 90 j) s = false := by
            rw [← e90]
            exact Bool.eq_false_iff.mpr (fun q => c (gB_t.mp q))
          by_cases e : k = Kc j
          · subst e
            have : stK pr (m0 90) Kc t s (Kc j) j = true := by unfold stK stB; rw [gf, nb]; simp
            rw [this, if_pos rfl, put_eq]
          · have : stK pr (m0 90) Kc t s k j = false := by unfold stK; rw [decide_eq_false (fun q => e q.symm)]; simp
            rw [this, if_neg (by decide), Int.add_zero, put_nj e]; exact i2 k a1 a2
      unfold f78_b10
      simp only [KG L, if_true]
      rw [eT, if_pos (by omega), h74 m j i1 (by omega) (by omega)]
      simp only [Option.bind_some]
      by_cases c1 : (j : Int) = pr t
      · obtain ⟨m2, r1, r2⟩ := w22 (Or.inl c1)
        rw [if_pos c1, r1]
        exact ⟨_, rfl, m2, rfl, r2⟩
      · rw [if_neg c1]
        by_cases c2 : pr j = t
        · obtain ⟨m2, r1, r2⟩ := w22 (Or.inr c2)
          rw [if_pos c2, r1]
          exact ⟨_, rfl, m2, rfl, r2⟩
        · rw [if_neg c2, w32_i (by omega) (by omega)]
          refine ⟨_, rfl, m, rfl, i1, fun k a1 a2 => ?_⟩
          rw [i2 k a1 a2, cnt_s]
          have : stK pr (m0 90) Kc t s k j = false := by unfold stK stB; rw [decide_eq_false c1, decide_eq_false c2]; simp
          rw [this, if_neg (by decide), Int.add_zero])
    (by
      rintro st ⟨m, rfl, i1, i2⟩
      have eT : m 82 9 = T := (i1 82 9 (by decide)).trans hT
      refine ⟨_, ?_, m, rfl, i1⟩
      unfold f78_b10
      simp only [KG L, if_true]
      rw [eT, if_neg (by omega), b53 m i1 i2, xr_some])
    (by rw [FU_v]; omega) (0, fil 6 98 m0 0) ⟨_, rfl, fun x i cx => by unfold fil; rw [if_neg (fun q => cx q.1)], fun k a1 a2 => by unfold fil; rw [if_pos ⟨rfl, a1, a2⟩]; rfl⟩
  exact ⟨m', by rw [h1, h2], h3⟩
