/-! COUNTING PLAYS: the counts of a move, of a state, of a round -/
abbrev PS : Type := (Int → Int) × Int × Int
def ps1 (n : Int) (K N : Int → Int) (a k v d : Int) (S : PS) : PS := if alB a d = true then (if ou n K N (k % 10) d = 2 then (if k / 10 = 0 then (S.1, S.2.1 + v, S.2.2) else (S.1, S.2.1, S.2.2 + v)) else if ou n K N (k % 10) d = 3 then (if k / 10 = 0 then (S.1, S.2.1, S.2.2 + v) else (S.1, S.2.1 + v, S.2.2)) else (fun i => if i = 10 * (if ou n K N (k % 10) d = 1 then k / 10 else 1 - k / 10) + la n K N (k % 10) d then S.1 i + v else S.1 i, S.2.1, S.2.2)) else S
def psd (n : Int) (K N : Int → Int) (a k v : Int) (S : PS) : Nat → PS
  | 0 => S
  | j + 1 => ps1 n K N a k v ((j : Int) + 1) (psd n K N a k v S j)
def psk (n : Int) (K N : Int → Int) (a : Int) (w : Int → Int) : Nat → PS
  | 0 => (fun _ => 0, 0, 0)
  | j + 1 => if w (j : Int) = 0 then psk n K N a w j else psd n K N a (j : Int) (w (j : Int)) (psk n K N a w j) 5
def psr (n : Int) (K N : Int → Int) (a : Int) : Nat → PS
  | 0 => (fun i => if i = 0 then 1 else 0, 0, 0)
  | j + 1 => psk n K N a (psr n K N a j).1 20
/-- all that is counted -/
def tot (S : PS) : Int := sm S.1 20 + S.2.1 + S.2.2
def nng (S : PS) : Prop := (∀ i, 0 ≤ S.1 i) ∧ 0 ≤ S.2.1 ∧ 0 ≤ S.2.2
theorem sm_u {f : Int → Int} {p v : Int} : ∀ k : Nat, 0 ≤ p → p < k → sm (fun i => if i = p then f i + v else f i) k = sm f k + v
  | 0, h1, h2 => by omega
  | k + 1, h1, h2 => by
    rw [sm_s, sm_s]
    by_cases e : p = k
    · subst e
      rw [if_pos rfl, sm_c (g := f) k (fun i a1 a2 => if_neg (by omega))]
      omega
    · rw [sm_u k h1 (by omega), if_neg (fun q => e q.symm)]
      omega
theorem ps1_b {n a k v d : Int} {K N : Int → Int} {S : PS} (h0 : 0 < n) (h10 : n ≤ 10) (hk : 0 ≤ k ∧ k < 20) (hv : 0 ≤ v) (hS : nng S) : nng (ps1 n K N a k v d S) ∧ tot (ps1 n K N a k v d S) ≤ tot S + v ∧ tot S ≤ tot (ps1 n K N a k v d S) := by
  obtain ⟨s1, s2, s3⟩ := hS
  have hl := la_b (K := K) (N := N) h0 (k % 10) d
  unfold ps1
  split
  · split
    · split
      · exact ⟨⟨s1, by show 0 ≤ S.2.1 + v; omega, s3⟩, by unfold tot; simp only; omega, by unfold tot; simp only; omega⟩
      · exact ⟨⟨s1, s2, by show 0 ≤ S.2.2 + v; omega⟩, by unfold tot; simp only; omega, by unfold tot; simp only; omega⟩
    · split
      · split
        · exact ⟨⟨s1, s2, by show 0 ≤ S.2.2 + v; omega⟩, by unfold tot; simp only; omega, by unfold tot; simp only; omega⟩
        · exact ⟨⟨s1, by show 0 ≤ S.2.1 + v; omega, s3⟩, by unfold tot; simp only; omega, by unfold tot; simp only; omega⟩
      · have e := sm_u (f := S.1) (p := 10 * (if ou n K N (k % 10) d = 1 then k / 10 else 1 - k / 10) + la n K N (k % 10) d) (v := v) 20 (by split <;> omega) (by split <;> omega)
        refine ⟨⟨fun i => ?_, s2, s3⟩, ?_, ?_⟩
        · have := s1 i
          simp only
          split <;> omega
        · unfold tot; simp only; rw [e]; omega
        · unfold tot; simp only; rw [e]; omega
  · exact ⟨⟨s1, s2, s3⟩, by omega, by omega⟩
theorem psd_b {n a k v : Int} {K N : Int → Int} {S : PS} (h0 : 0 < n) (h10 : n ≤ 10) (hk : 0 ≤ k ∧ k < 20) (hv : 0 ≤ v) (hS : nng S) : ∀ j : Nat, nng (psd n K N a k v S j) ∧ tot (psd n K N a k v S j) ≤ tot S + j * v ∧ tot S ≤ tot (psd n K N a k v S j)
  | 0 => ⟨hS, by show tot S ≤ tot S + (0 : Int) * v; omega, Int.le_refl _⟩
  | j + 1 => by
    obtain ⟨i1, i2, i3⟩ := psd_b (a := a) (K := K) (N := N) h0 h10 hk hv hS j
    obtain ⟨k1, k2, k3⟩ := ps1_b (a := a) (K := K) (N := N) (d := (j : Int) + 1) h0 h10 hk hv i1
    have e : ((j + 1 : Nat) : Int) * v = (j : Int) * v + v := by
      rw [show ((j + 1 : Nat) : Int) = (j : Int) + 1 from rfl, Int.add_mul, Int.one_mul]
    refine ⟨k1, ?_, ?_⟩
    · rw [e]; show tot (ps1 n K N a k v ((j : Int) + 1) (psd n K N a k v S j)) ≤ _; omega
    · show tot S ≤ tot (ps1 n K N a k v ((j : Int) + 1) (psd n K N a k v S j)); omega
theorem psk_b {n a : Int} {K N w : Int → Int} (h0 : 0 < n) (h10 : n ≤ 10) (hw : ∀ i, 0 ≤ w i) : ∀ j : Nat, j ≤ 20 → nng (psk n K N a w j) ∧ tot (psk n K N a w j) ≤ 5 * sm w j
  | 0, _ => ⟨⟨fun _ => Int.le_refl _, Int.le_refl _, Int.le_refl _⟩, by show tot ((fun _ => 0, 0, 0) : PS) ≤ 5 * 0; decide +kernel⟩
  | j + 1, hj => by
    obtain ⟨i1, i2⟩ := psk_b (a := a) (K := K) (N := N) h0 h10 hw j (by omega)
    have hwj := hw (j : Int)
    rw [sm_s]
    unfold psk
    split
    · exact ⟨i1, by omega⟩
    · obtain ⟨k1, k2, _⟩ := psd_b (a := a) (K := K) (N := N) (k := (j : Int)) (v := w j) h0 h10 (by omega) hwj i1 5
      exact ⟨k1, by
        have : ((5 : Nat) : Int) * w j = 5 * w j := rfl
        omega⟩
theorem sm_le {w : Int → Int} {x : Int} : ∀ j : Nat, (∀ i, 0 ≤ w i) → 0 ≤ x → sm w j ≤ sm w j + x := fun _ _ h => by omega
theorem psr_b {n a : Int} {K N : Int → Int} (h0 : 0 < n) (h10 : n ≤ 10) : ∀ j : Nat, nng (psr n K N a j) ∧ tot (psr n K N a j) ≤ 5 ^ j
  | 0 => ⟨⟨fun i => by show (0 : Int) ≤ if i = 0 then 1 else 0; split <;> omega, Int.le_refl _, Int.le_refl _⟩, by show tot ((fun i => if i = 0 then 1 else 0, 0, 0) : PS) ≤ 5 ^ 0; decide +kernel⟩
  | j + 1 => by
    obtain ⟨i1, i2⟩ := psr_b (a := a) (K := K) (N := N) h0 h10 j
    obtain ⟨k1, k2⟩ := psk_b (a := a) (K := K) (N := N) (w := (psr n K N a j).1) h0 h10 i1.1 20 (by omega)
    refine ⟨k1, ?_⟩
    have e : (5 : Int) ^ (j + 1) = 5 * 5 ^ j := by rw [Int.pow_succ]; omega
    have t : tot (psr n K N a j) = sm (psr n K N a j).1 20 + (psr n K N a j).2.1 + (psr n K N a j).2.2 := rfl
    have n1 := i1.2.1
    have n2 := i1.2.2
    rw [e]
    show tot (psk n K N a (psr n K N a j).1 20) ≤ 5 * 5 ^ j
    omega
