/-! CLASS AND MODEL SIDE BY SIDE -/
/-- cells that hold nothing from call to call -/
def scr (x : Nat) (i : Int) : Prop := x = 4 ∨ x = 6 ∨ x = 8 ∨ x = 11 ∨ x = 13 ∨ x = 18 ∨ x = 20 ∨ x = 22 ∨ x = 24 ∨ x = 33 ∨ x = 38 ∨ x = 40 ∨ x = 42 ∨ x = 53 ∨ x = 61 ∨ x = 63 ∨ x = 67 ∨ x = 69 ∨ x = 71 ∨ x = 79 ∨ x = 81 ∨ x = 98 ∨ (101 ≤ x ∧ x ≤ 109) ∨ x = 112 ∨ x = 114 ∨ x = 117 ∨ x = 119 ∨ (124 ≤ x ∧ x ≤ 127) ∨ (131 ≤ x ∧ x ≤ 134) ∨ x = 139 ∨ ((x = 2 ∨ x = 59 ∨ x = 65 ∨ x = 77 ∨ x = 110 ∨ x = 115) ∧ i = 3) ∨ (x = 9 ∧ (i = 2 ∨ i = 3)) ∨ (x = 14 ∧ (i = 5 ∨ i = 7 ∨ i = 8)) ∨ (x = 25 ∧ i = 4) ∨ (x = 99 ∧ i = 7) ∨ (x = 120 ∧ (i = 5 ∨ (8 ≤ i ∧ i ≤ 10) ∨ i = 13 ∨ i = 14 ∨ i = 23 ∨ (30 ≤ i ∧ i ≤ 44))) ∨ ((x = 121 ∨ x = 122) ∧ 130 ≤ i) ∨ (x = 123 ∧ i = 13)
def Sm (m m' : Sg) : Prop := ∀ x i, ¬ scr x i → m' x i = m x i
theorem Sm_r (m : Sg) : Sm m m := fun _ _ _ => rfl
theorem Sm_t {m m' m'' : Sg} (h : Sm m m') (h2 : Sm m' m'') : Sm m m'' := fun x i c => (h2 x i c).trans (h x i c)
def sN (x : Nat) (i : Int) : Prop := ((x = 54 ∨ x = 59 ∨ x = 72 ∨ x = 77 ∨ x = 110 ∨ x = 115 ∨ x = 82) ∧ i = 0) ∨ (x = 120 ∧ i = 1)
def R_n (n : Int) (m : Sg) : Prop := m 54 0 = n ∧ m 59 0 = n ∧ m 72 0 = n ∧ m 77 0 = n ∧ m 110 0 = n ∧ m 115 0 = n ∧ m 82 0 = n ∧ m 120 1 = n ∧ 4 ≤ n ∧ n ≤ 10
def sH (x : Nat) (i : Int) : Prop := x = 56 ∨ x = 58 ∨ (x = 54 ∧ i = 3) ∨ ((x = 121 ∨ x = 122) ∧ 120 ≤ i ∧ i < 130) ∨ (x = 123 ∧ i = 12)
def R_h (n : Int) (m : Sg) : Prop := (∀ i, 0 ≤ i → i < n → m 121 (120 + i) = m 56 i ∧ m 122 (120 + i) = m 58 i ∧ 0 ≤ m 56 i ∧ m 56 i ≤ 5 ∧ 0 ≤ m 58 i ∧ m 58 i ≤ 9) ∧ m 123 12 = m 54 3 ∧ 1 ≤ m 54 3 ∧ m 54 3 ≤ 31
def sT (x : Nat) (i : Int) : Prop := x = 84 ∨ x = 86 ∨ x = 88 ∨ x = 90 ∨ x = 92 ∨ x = 94 ∨ x = 96 ∨ (x = 82 ∧ i = 9) ∨ (x = 120 ∧ i = 15) ∨ ((x = 121 ∨ x = 122) ∧ 0 ≤ i ∧ i < 120) ∨ (x = 123 ∧ 0 ≤ i ∧ i < 12) ∨ x = 128 ∨ x = 129 ∨ x = 130
def WT (n : Int) (m : Sg) (t : Int) : Int → Int := TT n (pz (m 90 t) (KX m t)) (pz (m 90 t) (NX m t)) (m 88 t) 10
def R_t1 (n : Int) (m : Sg) (t : Int) : Prop := (∀ i, 0 ≤ i → i < n → m 121 (10 * t + i) = m 84 (10 * t + i) ∧ m 122 (10 * t + i) = m 86 (10 * t + i) ∧ 0 ≤ m 84 (10 * t + i) ∧ m 84 (10 * t + i) ≤ 5 ∧ 0 ≤ m 86 (10 * t + i) ∧ m 86 (10 * t + i) ≤ 9) ∧ (m 123 t = m 88 t ∧ 1 ≤ m 88 t ∧ m 88 t ≤ 31) ∧ (m 130 t = m 90 t ∧ 0 ≤ m 90 t ∧ m 90 t < 1024) ∧ (m 128 t = m 92 t ∧ 0 ≤ m 92 t ∧ m 92 t ≤ 999) ∧ m 129 t = m 94 t ∧ m 96 (6 * t + 1) = ch n 0 (WT n m t) ∧ m 96 (6 * t + 2) = ch n 1 (WT n m t) ∧ m 96 (6 * t + 3) = ch n 2 (WT n m t)
def R_t (n : Int) (m : Sg) : Prop := m 120 15 = m 82 9 ∧ 0 ≤ m 82 9 ∧ m 82 9 ≤ 12 ∧ (∀ t, 0 ≤ t → t < m 82 9 → R_t1 n m t) ∧ ∀ t, m 82 9 ≤ t → t < 12 → m 90 t = 0
def sM (x : Nat) (i : Int) : Prop := x = 64 ∨ (x = 72 ∧ i = 3) ∨ x = 74 ∨ x = 76
def R_m (n : Int) (m : Sg) : Prop := m 64 3 = 0 ∨ MC n m
def sR (x : Nat) (i : Int) : Prop := (x = 14 ∧ i = 1) ∨ x = 16 ∨ (x = 120 ∧ i = 29) ∨ x = 137
def R_r (m : Sg) : Prop := m 120 29 = m 14 1 ∧ 0 ≤ m 14 1 ∧ m 14 1 ≤ 160 ∧ ∀ i, 0 ≤ i → i < m 14 1 → m 137 i = m 16 i ∧ 0 ≤ m 16 i ∧ m 16 i < 256
def tbt (m : Sg) (t : Int) : Int → Int := fun i => if 0 ≤ i ∧ i < m 136 t then m 135 (160 * t + i) else 0
def tpr (m : Sg) (t : Int) : RS := prd (TK (tbt m t) (m 136 t)) (NV (tbt m t) (m 136 t))
def ttl (m : Sg) (t : Int) : Nat := (ppt (TK (tbt m t) (m 136 t)) (NV (tbt m t) (m 136 t)) 3 0 []).2.2.length
def sX (x : Nat) (i : Int) : Prop := (x = 25 ∧ i = 5) ∨ x = 27 ∨ x = 29 ∨ x = 31 ∨ (x = 120 ∧ (i = 26 ∨ i = 27)) ∨ x = 135 ∨ x = 136 ∨ (x = 1 ∧ i = 14)
def R_x1 (m : Sg) (t : Int) : Prop := (0 ≤ m 136 t ∧ m 136 t ≤ 160) ∧ (∀ i, 0 ≤ i → i < m 136 t → 0 ≤ m 135 (160 * t + i) ∧ m 135 (160 * t + i) < 256) ∧ (tpr m t).1 = true ∧ (tpr m t).2.2.length ≤ 160 ∧ XC m t (tpr m t).2.2 (ttl m t)
def R_x (m : Sg) : Prop := m 120 26 = m 25 5 ∧ 1 ≤ m 25 5 ∧ m 25 5 ≤ 6 ∧ (m 120 27 = m 1 14 ∧ 0 ≤ m 1 14 ∧ m 1 14 < m 25 5) ∧ ∀ t, 0 ≤ t → t < m 25 5 → R_x1 m t
def sSt (x : Nat) (i : Int) : Prop := x = 36 ∨ x = 138 ∨ (x = 82 ∧ i = 9)
def R_s (m : Sg) : Prop := ∀ s, 0 ≤ s → s < 8 → m 138 s = m 36 s ∧ -1 ≤ m 36 s ∧ m 36 s < m 82 9
def sP (x : Nat) (_ : Int) : Prop := x = 51 ∨ x = 140
def R_p (m : Sg) : Prop := (∀ p, 0 ≤ p → p < 4 → m 140 p = m 51 p ∧ 0 ≤ m 51 p) ∧ m 51 0 + m 51 1 + m 51 2 + m 51 3 = 80
def sY (x : Nat) (i : Int) : Prop := (x = 1 ∧ i = 13) ∨ (x = 120 ∧ i = 45)
def R_y (m : Sg) : Prop := m 120 45 = m 1 13 ∧ 0 ≤ m 1 13 ∧ m 1 13 ≤ 999
def sC (x : Nat) (_ : Int) : Prop := x = 45 ∨ x = 47 ∨ x = 49 ∨ x = 141 ∨ x = 142 ∨ x = 143 ∨ x = 144
def R_c1 (m : Sg) (s : Int) : Prop := (m 47 s = -1 ∧ m 141 s = 0) ∨ (m 141 s = 1 ∧ 0 ≤ m 47 s ∧ m 47 s ≤ 2 ∧ m 142 s = m 47 s ∧ m 143 s = m 49 s ∧ 0 ≤ m 49 s ∧ m 49 s ≤ 40 ∧ ∀ i, 0 ≤ i → i < m 49 s → m 144 (40 * s + i) = m 45 (40 * s + i))
def R_c (m : Sg) : Prop := ∀ s, 0 ≤ s → s < 4 → R_c1 m s
def Rel (n : Int) (m : Sg) : Prop := R_n n m ∧ R_h n m ∧ R_t n m ∧ R_m n m ∧ R_r m ∧ R_x m ∧ R_s m ∧ R_p m ∧ R_y m ∧ R_c m
section FRAMES
variable {n : Int} {m m' : Sg}
theorem R_n_f (h : R_n n m) (e : ∀ x i, sN x i → m' x i = m x i) : R_n n m' := by
  obtain ⟨h1, h2, h3, h4, h5, h6, h7, h8, h9⟩ := h
  exact ⟨by rw [e _ _ (by unfold sN; omega)]; exact h1, by rw [e _ _ (by unfold sN; omega)]; exact h2, by rw [e _ _ (by unfold sN; omega)]; exact h3, by rw [e _ _ (by unfold sN; omega)]; exact h4, by rw [e _ _ (by unfold sN; omega)]; exact h5, by rw [e _ _ (by unfold sN; omega)]; exact h6, by rw [e _ _ (by unfold sN; omega)]; exact h7, by rw [e _ _ (by unfold sN; omega)]; exact h8, h9⟩
theorem R_h_f (hn : n ≤ 10) (h : R_h n m) (e : ∀ x i, sH x i → m' x i = m x i) : R_h n m' := by
  obtain ⟨h1, h2⟩ := h
  refine ⟨fun i a1 a2 => ?_, ?_⟩
  · rw [e 121 _ (by unfold sH; omega), e 122 _ (by unfold sH; omega), e 56 _ (by unfold sH; omega), e 58 _ (by unfold sH; omega)]; exact h1 i a1 a2
  · rw [e 123 _ (by unfold sH; omega), e 54 _ (by unfold sH; omega)]; exact h2
theorem WT_f {t : Int} (e : ∀ x i, sT x i → m' x i = m x i) : WT n m' t = WT n m t := by
  unfold WT KX NX
  rw [show m' 84 = m 84 from funext fun i => e 84 i (by unfold sT; omega), show m' 86 = m 86 from funext fun i => e 86 i (by unfold sT; omega), show m' 88 = m 88 from funext fun i => e 88 i (by unfold sT; omega), show m' 90 = m 90 from funext fun i => e 90 i (by unfold sT; omega)]
theorem R_t1_f {t : Int} (hn : n ≤ 10) (ht : 0 ≤ t ∧ t < 12) (h : R_t1 n m t) (e : ∀ x i, sT x i → m' x i = m x i) : R_t1 n m' t := by
  obtain ⟨h1, h2⟩ := h
  refine ⟨fun i a1 a2 => ?_, ?_⟩
  · rw [e 121 _ (by unfold sT; omega), e 122 _ (by unfold sT; omega), e 84 _ (by unfold sT; omega), e 86 _ (by unfold sT; omega)]; exact h1 i a1 a2
  · rw [WT_f e, e 123 _ (by unfold sT; omega), e 88 _ (by unfold sT; omega), e 130 _ (by unfold sT; omega), e 90 _ (by unfold sT; omega), e 128 _ (by unfold sT; omega), e 92 _ (by unfold sT; omega), e 129 _ (by unfold sT; omega), e 94 _ (by unfold sT; omega), e 96 _ (by unfold sT; omega), e 96 _ (by unfold sT; omega), e 96 _ (by unfold sT; omega)]; exact h2
theorem R_t_f (hn : n ≤ 10) (h : R_t n m) (e : ∀ x i, sT x i → m' x i = m x i) : R_t n m' := by
  obtain ⟨h1, h2, h3, h4, h5⟩ := h
  have e9 : m' 82 9 = m 82 9 := e 82 9 (by unfold sT; omega)
  unfold R_t
  rw [e9, e 120 15 (by unfold sT; omega)]
  exact ⟨h1, h2, h3, fun t a1 a2 => R_t1_f hn ⟨a1, by omega⟩ (h4 t a1 a2) e, fun t a1 a2 => by rw [e 90 _ (by unfold sT; omega)]; exact h5 t a1 a2⟩
theorem R_m_f (h : R_m n m) (e : ∀ x i, sM x i → m' x i = m x i) : R_m n m' := by
  unfold R_m MC at *
  rw [e 64 3 (by unfold sM; omega), e 64 4 (by unfold sM; omega), e 64 5 (by unfold sM; omega), e 64 6 (by unfold sM; omega), e 72 3 (by unfold sM; omega), show m' 74 = m 74 from funext fun i => e 74 i (by unfold sM; omega), show m' 76 = m 76 from funext fun i => e 76 i (by unfold sM; omega)]
  exact h
theorem R_r_f (h : R_r m) (e : ∀ x i, sR x i → m' x i = m x i) : R_r m' := by
  unfold R_r at *
  rw [e 14 1 (by unfold sR; omega), e 120 29 (by unfold sR; omega)]
  exact ⟨h.1, h.2.1, h.2.2.1, fun i a1 a2 => by rw [e 137 _ (by unfold sR; omega), e 16 _ (by unfold sR; omega)]; exact h.2.2.2 i a1 a2⟩
theorem tbt_f {t : Int} (e : ∀ i, m' 135 (160 * t + i) = m 135 (160 * t + i)) (e2 : m' 136 t = m 136 t) : tbt m' t = tbt m t := by
  unfold tbt
  rw [e2]
  exact funext fun i => by rw [e i]
theorem R_x1_g {t : Int} (h : R_x1 m t) (eb : tbt m' t = tbt m t) (e1 : ∀ i, 0 ≤ i → i < 160 → m' 135 (160 * t + i) = m 135 (160 * t + i)) (e2 : m' 136 t = m 136 t) (e3 : ∀ i, 0 ≤ i → i < 160 → m' 27 (160 * t + i) = m 27 (160 * t + i)) (e4 : m' 29 t = m 29 t) (e5 : m' 31 t = m 31 t) : R_x1 m' t := by
  obtain ⟨h1, h2, h3, h4, h5⟩ := h
  unfold R_x1 tpr ttl
  rw [eb, e2]
  exact ⟨h1, fun i a1 a2 => by rw [e1 i a1 (by omega)]; exact h2 i a1 a2, h3, h4, by rw [e4]; exact h5.1, by rw [e5]; exact h5.2.1, fun i hi => by
    have h4' : (prd (TK (tbt m t) (m 136 t)) (NV (tbt m t) (m 136 t))).2.2.length ≤ 160 := h4
    rw [e3 i (by omega) (by omega)]; exact h5.2.2 i hi⟩
theorem R_x_f (h : R_x m) (e : ∀ x i, sX x i → m' x i = m x i) : R_x m' := by
  unfold R_x at *
  rw [e 25 5 (by unfold sX; omega), e 120 26 (by unfold sX; omega), e 120 27 (by unfold sX; omega), e 1 14 (by unfold sX; omega)]
  obtain ⟨h1, h2, h3, h4, h5⟩ := h
  exact ⟨h1, h2, h3, h4, fun t a1 a2 => R_x1_g (h5 t a1 a2) (tbt_f (fun i => e 135 _ (by unfold sX; omega)) (e 136 _ (by unfold sX; omega))) (fun i _ _ => e 135 _ (by unfold sX; omega)) (e 136 _ (by unfold sX; omega)) (fun i _ _ => e 27 _ (by unfold sX; omega)) (e 29 _ (by unfold sX; omega)) (e 31 _ (by unfold sX; omega))⟩
theorem R_s_f (h : R_s m) (e : ∀ x i, sSt x i → m' x i = m x i) : R_s m' := fun s a1 a2 => by
  rw [e 138 _ (by unfold sSt; omega), e 36 _ (by unfold sSt; omega), e 82 9 (by unfold sSt; omega)]; exact h s a1 a2
theorem R_p_f (h : R_p m) (e : ∀ x i, sP x i → m' x i = m x i) : R_p m' := by
  unfold R_p at *
  rw [e 51 0 (by unfold sP; omega), e 51 1 (by unfold sP; omega), e 51 2 (by unfold sP; omega), e 51 3 (by unfold sP; omega)]
  exact ⟨fun p a1 a2 => by rw [e 140 _ (by unfold sP; omega), e 51 _ (by unfold sP; omega)]; exact h.1 p a1 a2, h.2⟩
theorem R_y_f (h : R_y m) (e : ∀ x i, sY x i → m' x i = m x i) : R_y m' := by
  unfold R_y at *
  rw [e 120 45 (by unfold sY; omega), e 1 13 (by unfold sY; omega)]; exact h
theorem R_c_f (h : R_c m) (e : ∀ x i, sC x i → m' x i = m x i) : R_c m' := fun s a1 a2 => by
  have h1 := h s a1 a2
  unfold R_c1 at *
  rw [e 47 _ (by unfold sC; omega), e 141 _ (by unfold sC; omega), e 142 _ (by unfold sC; omega), e 143 _ (by unfold sC; omega), e 49 _ (by unfold sC; omega)]
  rcases h1 with q | ⟨q1, q2, q3, q4, q5, q6, q7, q8⟩
  · exact Or.inl q
  · exact Or.inr ⟨q1, q2, q3, q4, q5, q6, q7, fun i b1 b2 => by rw [e 144 _ (by unfold sC; omega), e 45 _ (by unfold sC; omega)]; exact q8 i b1 b2⟩
/-- nothing but scratch -/
theorem Rel_s (h : Rel n m) (e : Sm m m') : Rel n m' := by
  obtain ⟨h1, h2, h3, h4, h5, h6, h7, h8, h9, h10⟩ := h
  have n10 := h1.2.2.2.2.2.2.2.2.2
  exact ⟨R_n_f h1 (fun x i c => e x i (by unfold sN at c; unfold scr; omega)), R_h_f n10 h2 (fun x i c => e x i (by unfold sH at c; unfold scr; omega)), R_t_f n10 h3 (fun x i c => e x i (by unfold sT at c; unfold scr; omega)), R_m_f h4 (fun x i c => e x i (by unfold sM at c; unfold scr; omega)), R_r_f h5 (fun x i c => e x i (by unfold sR at c; unfold scr; omega)), R_x_f h6 (fun x i c => e x i (by unfold sX at c; unfold scr; omega)), R_s_f h7 (fun x i c => e x i (by unfold sSt at c; unfold scr; omega)), R_p_f h8 (fun x i c => e x i (by unfold sP at c; unfold scr; omega)), R_y_f h9 (fun x i c => e x i (by unfold sY at c; unfold scr; omega)), R_c_f h10 (fun x i c => e x i (by unfold sC at c; unfold scr; omega))⟩
end FRAMES
