/-! THE READER OVER TWO HEAPS (printed by wip/whole/gen94.py) -/
def AG (G : Gg) (ρ : Rg) : Prop := gkb G 14 5 = true ∧ gkb G 15 6 = true ∧ gkb G 17 6 = true ∧ gkb G 19 6 = true ∧ gkb G 21 6 = true ∧ gkb G 23 6 = true ∧ gkb G 16 0 = true ∧ gkb G 18 0 = true ∧ gkb G 20 0 = true ∧ gkb G 22 0 = true ∧ gkb G 24 0 = true ∧ gkb G 25 12 = true ∧ gkb G 26 6 = true ∧ gkb G 28 6 = true ∧ gkb G 30 6 = true ∧ gkb G 27 0 = true ∧ gkb G 29 0 = true ∧ gkb G 31 0 = true ∧ ρ 14 0 = 15 ∧ ρ 14 2 = 17 ∧ ρ 14 3 = 19 ∧ ρ 14 4 = 21 ∧ ρ 14 6 = 23 ∧ ρ 15 0 = 16 ∧ ρ 17 0 = 18 ∧ ρ 19 0 = 20 ∧ ρ 21 0 = 22 ∧ ρ 23 0 = 24 ∧ ρ 25 0 = 26 ∧ ρ 25 1 = 28 ∧ ρ 25 2 = 30 ∧ ρ 26 0 = 27 ∧ ρ 28 0 = 29 ∧ ρ 30 0 = 31 ∧ gl G 16 = 160 ∧ gl G 18 = 161 ∧ gl G 20 = 161 ∧ gl G 22 = 161 ∧ gl G 24 = 160 ∧ gl G 27 = 960 ∧ gl G 29 = 6 ∧ gl G 31 = 6
section TWO
variable {G G' : Gg} {ρ ρ' : Rg}
theorem agf_f33_15 (h : AG G ρ) (h' : AG G' ρ') (i : Int) (m : Sg) : f33 G ρ 15 i m = f33 G' ρ' 15 i m := by
  unfold f33
  unfold AG at h h'
  simp only [h, h']
theorem agf_f33_17 (h : AG G ρ) (h' : AG G' ρ') (i : Int) (m : Sg) : f33 G ρ 17 i m = f33 G' ρ' 17 i m := by
  unfold f33
  unfold AG at h h'
  simp only [h, h']
theorem agf_f33_19 (h : AG G ρ) (h' : AG G' ρ') (i : Int) (m : Sg) : f33 G ρ 19 i m = f33 G' ρ' 19 i m := by
  unfold f33
  unfold AG at h h'
  simp only [h, h']
theorem agf_f33_21 (h : AG G ρ) (h' : AG G' ρ') (i : Int) (m : Sg) : f33 G ρ 21 i m = f33 G' ρ' 21 i m := by
  unfold f33
  unfold AG at h h'
  simp only [h, h']
theorem agf_f33_23 (h : AG G ρ) (h' : AG G' ρ') (i : Int) (m : Sg) : f33 G ρ 23 i m = f33 G' ρ' 23 i m := by
  unfold f33
  unfold AG at h h'
  simp only [h, h']
theorem agf_f33_26 (h : AG G ρ) (h' : AG G' ρ') (i : Int) (m : Sg) : f33 G ρ 26 i m = f33 G' ρ' 26 i m := by
  unfold f33
  unfold AG at h h'
  simp only [h, h']
theorem agf_f33_28 (h : AG G ρ) (h' : AG G' ρ') (i : Int) (m : Sg) : f33 G ρ 28 i m = f33 G' ρ' 28 i m := by
  unfold f33
  unfold AG at h h'
  simp only [h, h']
theorem agf_f33_30 (h : AG G ρ) (h' : AG G' ρ') (i : Int) (m : Sg) : f33 G ρ 30 i m = f33 G' ρ' 30 i m := by
  unfold f33
  unfold AG at h h'
  simp only [h, h']
theorem agf_f34_15 (h : AG G ρ) (h' : AG G' ρ') (i v : Int) (m : Sg) : f34 G ρ 15 i v m = f34 G' ρ' 15 i v m := by
  unfold f34
  unfold AG at h h'
  simp only [h, h']
theorem agf_f34_17 (h : AG G ρ) (h' : AG G' ρ') (i v : Int) (m : Sg) : f34 G ρ 17 i v m = f34 G' ρ' 17 i v m := by
  unfold f34
  unfold AG at h h'
  simp only [h, h']
theorem agf_f34_19 (h : AG G ρ) (h' : AG G' ρ') (i v : Int) (m : Sg) : f34 G ρ 19 i v m = f34 G' ρ' 19 i v m := by
  unfold f34
  unfold AG at h h'
  simp only [h, h']
theorem agf_f34_21 (h : AG G ρ) (h' : AG G' ρ') (i v : Int) (m : Sg) : f34 G ρ 21 i v m = f34 G' ρ' 21 i v m := by
  unfold f34
  unfold AG at h h'
  simp only [h, h']
theorem agf_f34_23 (h : AG G ρ) (h' : AG G' ρ') (i v : Int) (m : Sg) : f34 G ρ 23 i v m = f34 G' ρ' 23 i v m := by
  unfold f34
  unfold AG at h h'
  simp only [h, h']
theorem agf_f34_26 (h : AG G ρ) (h' : AG G' ρ') (i v : Int) (m : Sg) : f34 G ρ 26 i v m = f34 G' ρ' 26 i v m := by
  unfold f34
  unfold AG at h h'
  simp only [h, h']
theorem agf_f34_28 (h : AG G ρ) (h' : AG G' ρ') (i v : Int) (m : Sg) : f34 G ρ 28 i v m = f34 G' ρ' 28 i v m := by
  unfold f34
  unfold AG at h h'
  simp only [h, h']
theorem agf_f34_30 (h : AG G ρ) (h' : AG G' ρ') (i v : Int) (m : Sg) : f34 G ρ 30 i v m = f34 G' ρ' 30 i v m := by
  unfold f34
  unfold AG at h h'
  simp only [h, h']
theorem agf_f230 (v0 : Int) (m : Sg) : f230 G ρ v0 m = f230 G' ρ' v0 m := rfl
theorem agf_f228 (v0 : Int) (m : Sg) : f228 G ρ v0 m = f228 G' ρ' v0 m := rfl
theorem agf_f231 (v0 : Int) (m : Sg) : f231 G ρ v0 m = f231 G' ρ' v0 m := rfl
theorem agf_f234 (v0 : Int) (v1 : Int) (m : Sg) : f234 G ρ v0 v1 m = f234 G' ρ' v0 v1 m := rfl
theorem agf_f232 (v0 : Int) (v1 : Int) (m : Sg) : f232 G ρ v0 v1 m = f232 G' ρ' v0 v1 m := rfl
theorem agf_f233 (v0 : Int) (v1 : Int) (m : Sg) : f233 G ρ v0 v1 m = f233 G' ρ' v0 v1 m := rfl
theorem agf_f229 (v0 : Int) (v1 : Int) (m : Sg) : f229 G ρ v0 v1 m = f229 G' ρ' v0 v1 m := rfl
theorem agf_f10 (h : AG G ρ) (h' : AG G' ρ') (v1 : Int) (m : Sg) : f10 G ρ 14 v1 m = f10 G' ρ' 14 v1 m := by
  unfold f10
  have q := h
  have q' := h'
  unfold AG at q q'
  simp only [q, q', agf_f34_15 h h', agf_f34_17 h h', agf_f34_19 h h', agf_f34_21 h h', agf_f34_23 h h', agf_f34_26 h h', agf_f34_28 h h', agf_f34_30 h h']
theorem agf_f9_b2 (h : AG G ρ) (h' : AG G' ρ') (v1 : Int) (s : Int × Sg) : f9_b2 G ρ 14 v1 s = f9_b2 G' ρ' 14 v1 s := by
  unfold f9_b2
  have q := h
  have q' := h'
  unfold AG at q q'
  simp only [q, q', agf_f228 (G := G) (G' := G') (ρ := ρ) (ρ' := ρ'), agf_f229 (G := G) (G' := G') (ρ := ρ) (ρ' := ρ'), agf_f10 h h']
theorem agf_f9 (h : AG G ρ) (h' : AG G' ρ') (v1 : Int) (m : Sg) : f9 G ρ 14 v1 m = f9 G' ρ' 14 v1 m := by
  have b0 : f9_b2 G ρ 14 v1 = f9_b2 G' ρ' 14 v1 := funext fun s => agf_f9_b2 h h' _ s
  unfold f9
  have q := h
  have q' := h'
  unfold AG at q q'
  simp only [q, q', b0]
theorem agf_f19 (v0 : Int) (m : Sg) : f19 G ρ v0 m = f19 G' ρ' v0 m := rfl
theorem agf_f20 (v0 : Int) (m : Sg) : f20 G ρ v0 m = f20 G' ρ' v0 m := rfl
theorem agf_f14_28 (h : AG G ρ) (h' : AG G' ρ') (v2 : Int) (v3 : Int) (v4 : Int) (m : Sg) : f14_28 G ρ 14 v2 v3 v4 m = f14_28 G' ρ' 14 v2 v3 v4 m := by
  unfold f14_28
  have q := h
  have q' := h'
  unfold AG at q q'
  simp only [q, q', agf_f33_15 h h', agf_f33_17 h h', agf_f33_19 h h', agf_f33_21 h h', agf_f33_23 h h', agf_f33_26 h h', agf_f33_28 h h', agf_f33_30 h h', agf_f20 (G := G) (G' := G') (ρ := ρ) (ρ' := ρ')]
theorem agf_f14_b16 (h : AG G ρ) (h' : AG G' ρ') (v3 : Int) (v4 : Int) (m : Sg) (s : Int) : f14_b16 G ρ 14 v3 v4 m s = f14_b16 G' ρ' 14 v3 v4 m s := by
  unfold f14_b16
  have q := h
  have q' := h'
  unfold AG at q q'
  simp only [q, q', agf_f14_28 h h', agf_f33_15 h h', agf_f33_17 h h', agf_f33_19 h h', agf_f33_21 h h', agf_f33_23 h h', agf_f33_26 h h', agf_f33_28 h h', agf_f33_30 h h', agf_f19 (G := G) (G' := G') (ρ := ρ) (ρ' := ρ')]
theorem agf_f14 (h : AG G ρ) (h' : AG G' ρ') (v1 : Int) (m : Sg) : f14 G ρ 14 v1 m = f14 G' ρ' 14 v1 m := by
  have b0 : ∀ (q4 : Int) (q6 : Int), f14_b16 G ρ 14 q4 q6 m = f14_b16 G' ρ' 14 q4 q6 m := fun q4 q6 => funext fun s => agf_f14_b16 h h' _ _ _ s
  unfold f14
  have q := h
  have q' := h'
  unfold AG at q q'
  simp only [q, q', agf_f33_15 h h', agf_f33_17 h h', agf_f33_19 h h', agf_f33_21 h h', agf_f33_23 h h', agf_f33_26 h h', agf_f33_28 h h', agf_f33_30 h h', agf_f19 (G := G) (G' := G') (ρ := ρ) (ρ' := ρ'), agf_f20 (G := G) (G' := G') (ρ := ρ) (ρ' := ρ'), b0]
theorem agf_f18_b10 (h : AG G ρ) (h' : AG G' ρ') (v1 : Int) (v2 : Int) (m : Sg) (s : Int) : f18_b10 G ρ 14 v1 v2 m s = f18_b10 G' ρ' 14 v1 v2 m s := by
  unfold f18_b10
  have q := h
  have q' := h'
  unfold AG at q q'
  simp only [q, q', agf_f228 (G := G) (G' := G') (ρ := ρ) (ρ' := ρ'), agf_f33_15 h h', agf_f33_17 h h', agf_f33_19 h h', agf_f33_21 h h', agf_f33_23 h h', agf_f33_26 h h', agf_f33_28 h h', agf_f33_30 h h', agf_f229 (G := G) (G' := G') (ρ := ρ) (ρ' := ρ')]
theorem agf_f18 (h : AG G ρ) (h' : AG G' ρ') (v1 : Int) (v2 : Int) (v3 : Int) (m : Sg) : f18 G ρ 14 v1 v2 v3 m = f18 G' ρ' 14 v1 v2 v3 m := by
  have b0 : f18_b10 G ρ 14 v1 v2 m = f18_b10 G' ρ' 14 v1 v2 m := funext fun s => agf_f18_b10 h h' _ _ _ s
  unfold f18
  have q := h
  have q' := h'
  unfold AG at q q'
  simp only [q, q', agf_f228 (G := G) (G' := G') (ρ := ρ) (ρ' := ρ'), b0]
theorem agf_f16 (h : AG G ρ) (h' : AG G' ρ') (v1 : Int) (v2 : Int) (m : Sg) : f16 G ρ 14 v1 v2 m = f16 G' ρ' 14 v1 v2 m := by
  unfold f16
  have q := h
  have q' := h'
  unfold AG at q q'
  simp only [q, q', agf_f18 h h']
theorem agf_f15 (h : AG G ρ) (h' : AG G' ρ') (v1 : Int) (v2 : Int) (m : Sg) : f15 G ρ 14 v1 v2 m = f15 G' ρ' 14 v1 v2 m := by
  unfold f15
  have q := h
  have q' := h'
  unfold AG at q q'
  simp only [q, q', agf_f33_15 h h', agf_f33_17 h h', agf_f33_19 h h', agf_f33_21 h h', agf_f33_23 h h', agf_f33_26 h h', agf_f33_28 h h', agf_f33_30 h h', agf_f19 (G := G) (G' := G') (ρ := ρ) (ρ' := ρ'), agf_f20 (G := G) (G' := G') (ρ := ρ) (ρ' := ρ'), agf_f16 h h']
theorem agf_f17_b4 (h : AG G ρ) (h' : AG G' ρ') (v1 : Int) (v2 : Int) (m : Sg) (s : Int × Int) : f17_b4 G ρ 14 v1 v2 m s = f17_b4 G' ρ' 14 v1 v2 m s := by
  unfold f17_b4
  have q := h
  have q' := h'
  unfold AG at q q'
  simp only [q, q', agf_f33_15 h h', agf_f33_17 h h', agf_f33_19 h h', agf_f33_21 h h', agf_f33_23 h h', agf_f33_26 h h', agf_f33_28 h h', agf_f33_30 h h']
theorem agf_f17 (h : AG G ρ) (h' : AG G' ρ') (v1 : Int) (v2 : Int) (m : Sg) : f17 G ρ 14 v1 v2 m = f17 G' ρ' 14 v1 v2 m := by
  have b0 : f17_b4 G ρ 14 v1 v2 m = f17_b4 G' ρ' 14 v1 v2 m := funext fun s => agf_f17_b4 h h' _ _ _ s
  unfold f17
  have q := h
  have q' := h'
  unfold AG at q q'
  simp only [q, q', b0]
theorem agf_f13_62 (h : AG G ρ) (h' : AG G' ρ') (v2 : Int) (m : Sg) : f13_62 G ρ 14 v2 m = f13_62 G' ρ' 14 v2 m := by
  unfold f13_62
  have q := h
  have q' := h'
  unfold AG at q q'
  simp only [q, q', agf_f34_15 h h', agf_f34_17 h h', agf_f34_19 h h', agf_f34_21 h h', agf_f34_23 h h', agf_f34_26 h h', agf_f34_28 h h', agf_f34_30 h h']
theorem agf_f13_b6 (h : AG G ρ) (h' : AG G' ρ') (s : Int × Int × Int × Sg) : f13_b6 G ρ 14 s = f13_b6 G' ρ' 14 s := by
  unfold f13_b6
  have q := h
  have q' := h'
  unfold AG at q q'
  simp only [q, q', agf_f33_15 h h', agf_f33_17 h h', agf_f33_19 h h', agf_f33_21 h h', agf_f33_23 h h', agf_f33_26 h h', agf_f33_28 h h', agf_f33_30 h h', agf_f14 h h', agf_f34_15 h h', agf_f34_17 h h', agf_f34_19 h h', agf_f34_21 h h', agf_f34_23 h h', agf_f34_26 h h', agf_f34_28 h h', agf_f34_30 h h', agf_f15 h h', agf_f17 h h', agf_f13_62 h h']
theorem agf_f13 (h : AG G ρ) (h' : AG G' ρ') (m : Sg) : f13 G ρ 14 m = f13 G' ρ' 14 m := by
  have b0 : f13_b6 G ρ 14 = f13_b6 G' ρ' 14 := funext fun s => agf_f13_b6 h h' s
  unfold f13
  have q := h
  have q' := h'
  unfold AG at q q'
  simp only [q, q', b0]
theorem agf_f21 (h : AG G ρ) (h' : AG G' ρ') (v1 : Int) (m : Sg) : f21 G ρ 14 v1 m = f21 G' ρ' 14 v1 m := by
  unfold f21
  have q := h
  have q' := h'
  unfold AG at q q'
  simp only [q, q', agf_f33_15 h h', agf_f33_17 h h', agf_f33_19 h h', agf_f33_21 h h', agf_f33_23 h h', agf_f33_26 h h', agf_f33_28 h h', agf_f33_30 h h']
theorem agf_f22 (h : AG G ρ) (h' : AG G' ρ') (v1 : Int) (m : Sg) : f22 G ρ 14 v1 m = f22 G' ρ' 14 v1 m := by
  unfold f22
  have q := h
  have q' := h'
  unfold AG at q q'
  simp only [q, q', agf_f21 h h']
theorem agf_f23 (h : AG G ρ) (h' : AG G' ρ') (v1 : Int) (m : Sg) : f23 G ρ 14 v1 m = f23 G' ρ' 14 v1 m := by
  unfold f23
  have q := h
  have q' := h'
  unfold AG at q q'
  simp only [q, q', agf_f34_15 h h', agf_f34_17 h h', agf_f34_19 h h', agf_f34_21 h h', agf_f34_23 h h', agf_f34_26 h h', agf_f34_28 h h', agf_f34_30 h h']
theorem agf_f25_b8 (h : AG G ρ) (h' : AG G' ρ') {rc rc' : Nat → Nat → Int → Sg → Option (Int × Sg)} (hr : ∀ z o m, rc z 14 o m = rc' z 14 o m) (v1 : Int) (s : Int × Sg) : f25_b8 G ρ rc 14 v1 s = f25_b8 G' ρ' rc' 14 v1 s := by
  unfold f25_b8
  have q := h
  have q' := h'
  unfold AG at q q'
  simp only [q, q', agf_f22 h h', agf_f23 h h', hr]
theorem agf_f25 (h : AG G ρ) (h' : AG G' ρ') {rc rc' : Nat → Nat → Int → Sg → Option (Int × Sg)} (hr : ∀ z o m, rc z 14 o m = rc' z 14 o m) (v1 : Int) (m : Sg) : f25 G ρ rc 14 v1 m = f25 G' ρ' rc' 14 v1 m := by
  have b0 : f25_b8 G ρ rc 14 v1 = f25_b8 G' ρ' rc' 14 v1 := funext fun s => agf_f25_b8 h h' hr _ s
  unfold f25
  have q := h
  have q' := h'
  unfold AG at q q'
  simp only [q, q', b0, hr]
theorem agf_f26_b8 (h : AG G ρ) (h' : AG G' ρ') {rc rc' : Nat → Nat → Int → Sg → Option (Int × Sg)} (hr : ∀ z o m, rc z 14 o m = rc' z 14 o m) (v1 : Int) (s : Int × Sg) : f26_b8 G ρ rc 14 v1 s = f26_b8 G' ρ' rc' 14 v1 s := by
  unfold f26_b8
  have q := h
  have q' := h'
  unfold AG at q q'
  simp only [q, q', agf_f22 h h', agf_f23 h h', hr]
theorem agf_f26 (h : AG G ρ) (h' : AG G' ρ') {rc rc' : Nat → Nat → Int → Sg → Option (Int × Sg)} (hr : ∀ z o m, rc z 14 o m = rc' z 14 o m) (v1 : Int) (m : Sg) : f26 G ρ rc 14 v1 m = f26 G' ρ' rc' 14 v1 m := by
  have b0 : f26_b8 G ρ rc 14 v1 = f26_b8 G' ρ' rc' 14 v1 := funext fun s => agf_f26_b8 h h' hr _ s
  unfold f26
  have q := h
  have q' := h'
  unfold AG at q q'
  simp only [q, q', b0, hr]
theorem agf_f27 (h : AG G ρ) (h' : AG G' ρ') {rc rc' : Nat → Nat → Int → Sg → Option (Int × Sg)} (hr : ∀ z o m, rc z 14 o m = rc' z 14 o m) (v1 : Int) (m : Sg) : f27 G ρ rc 14 v1 m = f27 G' ρ' rc' 14 v1 m := by
  unfold f27
  have q := h
  have q' := h'
  unfold AG at q q'
  simp only [q, q', agf_f21 h h', agf_f23 h h', hr]
theorem agf_f28_36 (h : AG G ρ) (h' : AG G' ρ') {rc rc' : Nat → Nat → Int → Sg → Option (Int × Sg)} (hr : ∀ z o m, rc z 14 o m = rc' z 14 o m) (w0 : Int) (m : Sg) : f28_36 G ρ rc w0 14 m = f28_36 G' ρ' rc' w0 14 m := by
  unfold f28_36
  have q := h
  have q' := h'
  unfold AG at q q'
  simp only [q, q', agf_f23 h h', hr]
theorem agf_f28_18 (h : AG G ρ) (h' : AG G' ρ') {rc rc' : Nat → Nat → Int → Sg → Option (Int × Sg)} (hr : ∀ z o m, rc z 14 o m = rc' z 14 o m) (v1 : Int) (v2 : Int) (m : Sg) : f28_18 G ρ rc 14 v1 v2 m = f28_18 G' ρ' rc' 14 v1 v2 m := by
  unfold f28_18
  have q := h
  have q' := h'
  unfold AG at q q'
  simp only [q, q', agf_f28_36 h h' hr, hr]
theorem agf_f28 (h : AG G ρ) (h' : AG G' ρ') {rc rc' : Nat → Nat → Int → Sg → Option (Int × Sg)} (hr : ∀ z o m, rc z 14 o m = rc' z 14 o m) (v1 : Int) (m : Sg) : f28 G ρ rc 14 v1 m = f28 G' ρ' rc' 14 v1 m := by
  unfold f28
  have q := h
  have q' := h'
  unfold AG at q q'
  simp only [q, q', agf_f21 h h', agf_f28_18 h h' hr, hr]
theorem agf_f29_26 (h : AG G ρ) (h' : AG G' ρ') {rc rc' : Nat → Nat → Int → Sg → Option (Int × Sg)} (hr : ∀ z o m, rc z 14 o m = rc' z 14 o m) (v1 : Int) (v2 : Int) (w0 : Int) (m : Sg) : f29_26 G ρ rc 14 v1 v2 w0 m = f29_26 G' ρ' rc' 14 v1 v2 w0 m := by
  unfold f29_26
  have q := h
  have q' := h'
  unfold AG at q q'
  simp only [q, q', agf_f23 h h', hr]
theorem agf_f29_19 (h : AG G ρ) (h' : AG G' ρ') {rc rc' : Nat → Nat → Int → Sg → Option (Int × Sg)} (hr : ∀ z o m, rc z 14 o m = rc' z 14 o m) (v1 : Int) (v2 : Int) (m : Sg) : f29_19 G ρ rc 14 v1 v2 m = f29_19 G' ρ' rc' 14 v1 v2 m := by
  unfold f29_19
  have q := h
  have q' := h'
  unfold AG at q q'
  simp only [q, q', agf_f21 h h', agf_f29_26 h h' hr, hr]
theorem agf_f29_b8 (h : AG G ρ) (h' : AG G' ρ') {rc rc' : Nat → Nat → Int → Sg → Option (Int × Sg)} (hr : ∀ z o m, rc z 14 o m = rc' z 14 o m) (v1 : Int) (s : Int × Sg) : f29_b8 G ρ rc 14 v1 s = f29_b8 G' ρ' rc' 14 v1 s := by
  unfold f29_b8
  have q := h
  have q' := h'
  unfold AG at q q'
  simp only [q, q', agf_f21 h h', agf_f29_19 h h' hr, hr]
theorem agf_f29 (h : AG G ρ) (h' : AG G' ρ') {rc rc' : Nat → Nat → Int → Sg → Option (Int × Sg)} (hr : ∀ z o m, rc z 14 o m = rc' z 14 o m) (v1 : Int) (m : Sg) : f29 G ρ rc 14 v1 m = f29 G' ρ' rc' 14 v1 m := by
  have b0 : f29_b8 G ρ rc 14 v1 = f29_b8 G' ρ' rc' 14 v1 := funext fun s => agf_f29_b8 h h' hr _ s
  unfold f29
  have q := h
  have q' := h'
  unfold AG at q q'
  simp only [q, q', b0, hr]
theorem agf_f30_b8 (h : AG G ρ) (h' : AG G' ρ') {rc rc' : Nat → Nat → Int → Sg → Option (Int × Sg)} (hr : ∀ z o m, rc z 14 o m = rc' z 14 o m) (v1 : Int) (s : Int × Sg) : f30_b8 G ρ rc 14 v1 s = f30_b8 G' ρ' rc' 14 v1 s := by
  unfold f30_b8
  have q := h
  have q' := h'
  unfold AG at q q'
  simp only [q, q', agf_f22 h h', agf_f23 h h', hr]
theorem agf_f30 (h : AG G ρ) (h' : AG G' ρ') {rc rc' : Nat → Nat → Int → Sg → Option (Int × Sg)} (hr : ∀ z o m, rc z 14 o m = rc' z 14 o m) (v1 : Int) (m : Sg) : f30 G ρ rc 14 v1 m = f30 G' ρ' rc' 14 v1 m := by
  have b0 : f30_b8 G ρ rc 14 v1 = f30_b8 G' ρ' rc' 14 v1 := funext fun s => agf_f30_b8 h h' hr _ s
  unfold f30
  have q := h
  have q' := h'
  unfold AG at q q'
  simp only [q, q', b0, hr]
theorem agf_f31_35 (h : AG G ρ) (h' : AG G' ρ') {rc rc' : Nat → Nat → Int → Sg → Option (Int × Sg)} (hr : ∀ z o m, rc z 14 o m = rc' z 14 o m) (w0 : Int) (m : Sg) : f31_35 G ρ rc 14 w0 14 m = f31_35 G' ρ' rc' 14 w0 14 m := by
  unfold f31_35
  have q := h
  have q' := h'
  unfold AG at q q'
  simp only [q, q', agf_f23 h h', hr]
theorem agf_f31_21 (h : AG G ρ) (h' : AG G' ρ') {rc rc' : Nat → Nat → Int → Sg → Option (Int × Sg)} (hr : ∀ z o m, rc z 14 o m = rc' z 14 o m) (v2 : Int) (v3 : Int) (m : Sg) : f31_21 G ρ rc 14 v2 v3 m = f31_21 G' ρ' rc' 14 v2 v3 m := by
  unfold f31_21
  have q := h
  have q' := h'
  unfold AG at q q'
  simp only [q, q', agf_f33_15 h h', agf_f33_17 h h', agf_f33_19 h h', agf_f33_21 h h', agf_f33_23 h h', agf_f33_26 h h', agf_f33_28 h h', agf_f33_30 h h', agf_f31_35 h h' hr, hr]
theorem agf_f31_15 (h : AG G ρ) (h' : AG G' ρ') {rc rc' : Nat → Nat → Int → Sg → Option (Int × Sg)} (hr : ∀ z o m, rc z 14 o m = rc' z 14 o m) (v1 : Int) (v2 : Int) (w0 : Int) (m : Sg) : f31_15 G ρ rc 14 v1 v2 w0 m = f31_15 G' ρ' rc' 14 v1 v2 w0 m := by
  unfold f31_15
  have q := h
  have q' := h'
  unfold AG at q q'
  simp only [q, q', agf_f31_21 h h' hr, agf_f22 h h', agf_f23 h h', hr]
theorem agf_f31 (h : AG G ρ) (h' : AG G' ρ') {rc rc' : Nat → Nat → Int → Sg → Option (Int × Sg)} (hr : ∀ z o m, rc z 14 o m = rc' z 14 o m) (v1 : Int) (m : Sg) : f31 G ρ rc 14 v1 m = f31 G' ρ' rc' 14 v1 m := by
  unfold f31
  have q := h
  have q' := h'
  unfold AG at q q'
  simp only [q, q', agf_f33_15 h h', agf_f33_17 h h', agf_f33_19 h h', agf_f33_21 h h', agf_f33_23 h h', agf_f33_26 h h', agf_f33_28 h h', agf_f33_30 h h', agf_f31_15 h h' hr, hr]
theorem ag_FnX (h : AG G ρ) (h' : AG G' ρ') : ∀ (k z : Nat) (o : Int) (m : Sg), FnX G ρ k z 14 o m = FnX G' ρ' k z 14 o m
  | 0, z, o, m => rfl
  | k + 1, z, o, m => by
    have hr : ∀ z o m, FnX G ρ k z 14 o m = FnX G' ρ' k z 14 o m := fun z o m => ag_FnX h h' k z o m
    rw [FnX, FnX, agf_f25 h h' hr, agf_f26 h h' hr, agf_f27 h h' hr, agf_f28 h h' hr, agf_f29 h h' hr, agf_f30 h h' hr, agf_f31 h h' hr]
theorem agf_f24 (h : AG G ρ) (h' : AG G' ρ') (v1 : Int) (m : Sg) : f24 G ρ 14 v1 m = f24 G' ρ' 14 v1 m := by
  unfold f24
  have q := h
  have q' := h'
  unfold AG at q q'
  simp only [q, q', agf_f22 h h', ag_FnX h h']
theorem agf_f12_28 (h : AG G ρ) (h' : AG G' ρ') (m : Sg) : f12_28 G ρ 14 m = f12_28 G' ρ' 14 m := by
  unfold f12_28
  have q := h
  have q' := h'
  unfold AG at q q'
  simp only [q, q', agf_f33_15 h h', agf_f33_17 h h', agf_f33_19 h h', agf_f33_21 h h', agf_f33_23 h h', agf_f33_26 h h', agf_f33_28 h h', agf_f33_30 h h']
theorem agf_f12_7 (h : AG G ρ) (h' : AG G' ρ') (w0 : Int) (m : Sg) : f12_7 G ρ 14 w0 14 m = f12_7 G' ρ' 14 w0 14 m := by
  unfold f12_7
  have q := h
  have q' := h'
  unfold AG at q q'
  simp only [q, q', agf_f24 h h', agf_f12_28 h h', agf_f21 h h']
theorem agf_f12 (h : AG G ρ) (h' : AG G' ρ') (m : Sg) : f12 G ρ 14 m = f12 G' ρ' 14 m := by
  unfold f12
  have q := h
  have q' := h'
  unfold AG at q q'
  simp only [q, q', agf_f13 h h', agf_f12_7 h h']
theorem agf_f81_b5 (h : AG G ρ) (h' : AG G' ρ') (v2 : Int) (s : Int × Sg) : f81_b5 G ρ 25 14 v2 s = f81_b5 G' ρ' 25 14 v2 s := by
  unfold f81_b5
  have q := h
  have q' := h'
  unfold AG at q q'
  simp only [q, q', agf_f33_15 h h', agf_f33_17 h h', agf_f33_19 h h', agf_f33_21 h h', agf_f33_23 h h', agf_f33_26 h h', agf_f33_28 h h', agf_f33_30 h h', agf_f34_15 h h', agf_f34_17 h h', agf_f34_19 h h', agf_f34_21 h h', agf_f34_23 h h', agf_f34_26 h h', agf_f34_28 h h', agf_f34_30 h h']
theorem agf_f81 (h : AG G ρ) (h' : AG G' ρ') (m : Sg) : f81 G ρ 25 14 m = f81 G' ρ' 25 14 m := by
  have b0 : f81_b5 G ρ 25 14 (m 25 5) = f81_b5 G' ρ' 25 14 (m 25 5) := funext fun s => agf_f81_b5 h h' _ s
  unfold f81
  have q := h
  have q' := h'
  unfold AG at q q'
  simp only [q, q', b0]
theorem agf_f11 (h : AG G ρ) (h' : AG G' ρ') (m : Sg) : f11 G ρ 14 m = f11 G' ρ' 14 m := by
  unfold f11
  have q := h
  have q' := h'
  unfold AG at q q'
  simp only [q, q']
end TWO
theorem AG_C (L : Nat) : AG (GC L) RC := by
  have a := KG L
  have b := KR
  have c := KL L
  unfold AG
  refine ⟨?_, ?_, ?_, ?_, ?_, ?_, ?_, ?_, ?_, ?_, ?_, ?_, ?_, ?_, ?_, ?_, ?_, ?_, ?_, ?_, ?_, ?_, ?_, ?_, ?_, ?_, ?_, ?_, ?_, ?_, ?_, ?_, ?_, ?_, ?_, ?_, ?_, ?_, ?_, ?_, ?_, ?_⟩
  all_goals first | simp only [b] | simp only [c] | rfl
