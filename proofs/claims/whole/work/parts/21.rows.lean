/-! ROWS OF LOOPS, OF ROWS AND RULES -/
theorem xr_some {S R : Type} (a : R) : (xr (some a) : Option (S ⊕ R)) = some (Sum.inr a) := rfl
theorem lp_ex {S R : Type} {f : S → Option (S ⊕ R)} {Q : R → Prop} (I : Nat → S → Prop) (N : Nat) (hs : ∀ k s, k < N → I k s → (∃ s', f s = some (Sum.inl s') ∧ I (k + 1) s') ∨ (∃ r, f s = some (Sum.inr r) ∧ Q r)) (he : ∀ s, I N s → ∃ r, f s = some (Sum.inr r) ∧ Q r) (n : Nat) (hn : N < n) (s : S) (h0 : I 0 s) : ∃ r, lp f n s = some r ∧ Q r := by
  have key : ∀ (j k n : Nat) (s : S), k + j = N → j < n → I k s → ∃ r, lp f n s = some r ∧ Q r := by
    intro j
    induction j with
    | zero =>
      intro k n s e hn hi
      cases n with
      | zero => omega
      | succ n =>
        have e2 : k = N := by omega
        rw [e2] at hi
        obtain ⟨r, h1, h2⟩ := he s hi
        exact ⟨r, by unfold lp; rw [h1], h2⟩
    | succ j ih =>
      intro k n s e hn hi
      cases n with
      | zero => omega
      | succ n =>
        rcases hs k s (by omega) hi with ⟨s', h1, h2⟩ | ⟨r, h1, h2⟩
        · obtain ⟨r, h3, h4⟩ := ih (k + 1) n s' (by omega) (by omega) h2
          exact ⟨r, by unfold lp; rw [h1]; exact h3, h4⟩
        · exact ⟨r, by unfold lp; rw [h1], h2⟩
  exact key N 0 n s (by omega) hn h0
/-- the loop that always runs to its end -/
theorem lp_all {S R : Type} {f : S → Option (S ⊕ R)} {Q : R → Prop} (I : Nat → S → Prop) (N : Nat) (hs : ∀ k s, k < N → I k s → ∃ s', f s = some (Sum.inl s') ∧ I (k + 1) s') (he : ∀ s, I N s → ∃ r, f s = some (Sum.inr r) ∧ Q r) (hn : N < FU) (s : S) (h0 : I 0 s) : ∃ r, lp f FU s = some r ∧ Q r := lp_ex I N (fun k s a b => Or.inl (hs k s a b)) he FU hn s h0
theorem lp_eq {S R : Type} {f : S → Option (S ⊕ R)} {r : R} (I : Nat → S) (N : Nat) (hs : ∀ k, k < N → f (I k) = some (Sum.inl (I (k + 1)))) (he : f (I N) = some (Sum.inr r)) (hn : N < FU) : lp f FU (I 0) = some r := by
  obtain ⟨r', h1, h2⟩ := lp_all (f := f) (Q := fun q => q = r) (fun k s => s = I k) N (fun k s hk e => by subst e; exact ⟨_, hs k hk, rfl⟩) (fun s e => by subst e; exact ⟨_, he, rfl⟩) hn (I 0) rfl
  rw [h1, h2]
theorem FU_v : FU = 4000 := rfl
theorem w32_i {x : Int} (h1 : -2147483648 ≤ x) (h2 : x < 2147483648) : w32 x = x := by unfold w32; omega
theorem g_rem_p {x y : Int} (h : 0 ≤ x) : g_rem x y = x % y := Int.tmod_eq_emod_of_nonneg h
theorem g_div_p {x y : Int} (h : 0 ≤ x) : g_div x y = w32 (x / y) := by unfold g_div; rw [Int.tdiv_eq_ediv_of_nonneg h]
theorem k_rem_p {x y : Int} (h : 0 ≤ x) : k_rem x y = x % y := Int.tmod_eq_emod_of_nonneg h
/-- a row's read and write -/
def ra (n : Int) (F : Int → Int) (p : Int) : Int := if 0 ≤ p ∧ p < n then F p else 0
def rp (n : Int) (b : Nat) (m : Sg) (p v : Int) : Sg := if 0 ≤ p ∧ p < n then put m b p v else m
theorem ra_in {n : Int} {F : Int → Int} {p : Int} (h1 : 0 ≤ p) (h2 : p < n) : ra n F p = F p := if_pos ⟨h1, h2⟩
theorem rp_in {n : Int} {b : Nat} {m : Sg} {p v : Int} (h1 : 0 ≤ p) (h2 : p < n) : rp n b m p v = put m b p v := if_pos ⟨h1, h2⟩
theorem put_ne {m : Sg} {a b : Nat} {i j v : Int} (h : ¬ b = a) : put m a i v b j = m b j := by unfold put; rw [if_neg (fun q => h q.1)]
theorem put_eq (m : Sg) (a : Nat) (i v : Int) : put m a i v a i = v := by unfold put; rw [if_pos ⟨rfl, rfl⟩]
theorem put_nj {m : Sg} {a b : Nat} {i j v : Int} (h : ¬ j = i) : put m a i v b j = m b j := by unfold put; rw [if_neg (fun q => h q.2)]
theorem put_as (m : Sg) (a : Nat) (i v : Int) (j : Int) : put m a i v a j = if j = i then v else m a j := by
  unfold put
  by_cases h : j = i
  · rw [if_pos ⟨rfl, h⟩, if_pos h]
  · rw [if_neg (fun q => h q.2), if_neg h]
theorem f33_s {G : Gg} {ρ : Rg} {a b : Nat} {n p : Int} {m : Sg} (h1 : gkb G a 6 = true) (h2 : ρ a 0 = b) (h3 : gkb G b 0 = true) (h4 : gl G b = n) : f33 G ρ a p m = some (ra n (m b) p) := by
  subst h2 h4
  unfold f33 ra
  by_cases c1 : p < 0
  · rw [if_pos c1, if_neg (by omega)]
  · rw [if_neg c1, if_pos h1, if_pos h3]
    by_cases c2 : p < gl G (ρ a 0)
    · rw [if_pos c2, if_pos ⟨by omega, c2⟩, if_pos ⟨by omega, c2⟩]
    · rw [if_neg c2, if_neg (by omega)]
theorem f34_s {G : Gg} {ρ : Rg} {a b : Nat} {n p v : Int} {m : Sg} (h1 : gkb G a 6 = true) (h2 : ρ a 0 = b) (h3 : gkb G b 0 = true) (h4 : gl G b = n) : f34 G ρ a p v m = some (rp n b m p v) := by
  subst h2 h4
  unfold f34 rp
  by_cases c1 : p < 0
  · rw [if_pos c1, if_neg (by omega)]
  · rw [if_neg c1, if_pos h1, if_pos h3]
    by_cases c2 : p < gl G (ρ a 0)
    · rw [if_pos c2, if_pos ⟨by omega, c2⟩, if_pos ⟨by omega, c2⟩]
    · rw [if_neg c2, if_neg (by omega)]
/-- all of a row the same -/
def fil (n : Int) (b : Nat) (m : Sg) (v : Int) : Sg := fun a i => if a = b ∧ 0 ≤ i ∧ i < n then v else m a i
theorem f35_s {G : Gg} {ρ : Rg} {a b : Nat} {v : Int} {m : Sg} (n : Nat) (h1 : gkb G a 6 = true) (h2 : ρ a 0 = b) (h3 : gkb G b 0 = true) (h4 : gl G b = n) (hn : n < 4000) : f35 G ρ a v m = some (fil n b m v) := by
  subst h2
  unfold f35
  have e0 : (0, m) = (fun k : Nat => ((k : Int), fil k (ρ a 0) m v)) 0 := by
    refine Prod.ext rfl (funext fun x => funext fun i => ?_)
    show m x i = if x = ρ a 0 ∧ (0 : Int) ≤ i ∧ i < ((0 : Nat) : Int) then v else m x i
    rw [if_neg (by omega)]
  rw [e0]
  refine lp_eq (fun k : Nat => ((k : Int), fil k (ρ a 0) m v)) n ?_ ?_ (by rw [FU_v]; exact hn)
  · intro k hk
    unfold f35_b2
    simp only
    rw [if_pos h1, if_pos h3, h4, if_pos (by omega), if_pos (by omega), w32_i (by omega) (by omega)]
    refine congrArg (fun q => some (Sum.inl ((k : Int) + 1, q))) (funext fun x => funext fun i => ?_)
    show (if x = ρ a 0 ∧ i = k then v else if x = ρ a 0 ∧ 0 ≤ i ∧ i < (k : Int) then v else m x i) = if x = ρ a 0 ∧ 0 ≤ i ∧ i < ((k + 1 : Nat) : Int) then v else m x i
    by_cases c1 : x = ρ a 0
    · by_cases c2 : i = k
      · rw [if_pos ⟨c1, c2⟩, if_pos ⟨c1, by omega, by omega⟩]
      · rw [if_neg (fun q => c2 q.2)]
        by_cases c3 : 0 ≤ i ∧ i < k
        · rw [if_pos ⟨c1, c3⟩, if_pos ⟨c1, by omega, by omega⟩]
        · rw [if_neg (fun q => c3 q.2), if_neg (fun q => by omega)]
    · rw [if_neg (fun q => c1 q.1), if_neg (fun q => c1 q.1), if_neg (fun q => c1 q.1)]
  · unfold f35_b2
    simp only
    rw [if_pos h1, if_pos h3, h4, if_neg (by omega)]
    rfl
theorem RAx (L : Nat) : (∀ (p : Int) (m : Sg), f33 (GC L) RC 3 p m = some (ra 10 (m 4) p)) ∧ (∀ (p : Int) (m : Sg), f33 (GC L) RC 5 p m = some (ra 50 (m 6) p)) ∧ (∀ (p : Int) (m : Sg), f33 (GC L) RC 7 p m = some (ra 50 (m 8) p)) ∧ (∀ (p : Int) (m : Sg), f33 (GC L) RC 10 p m = some (ra 20 (m 11) p)) ∧ (∀ (p : Int) (m : Sg), f33 (GC L) RC 12 p m = some (ra 20 (m 13) p)) ∧ (∀ (p : Int) (m : Sg), f33 (GC L) RC 15 p m = some (ra 160 (m 16) p)) ∧ (∀ (p : Int) (m : Sg), f33 (GC L) RC 17 p m = some (ra 161 (m 18) p)) ∧ (∀ (p : Int) (m : Sg), f33 (GC L) RC 19 p m = some (ra 161 (m 20) p)) ∧ (∀ (p : Int) (m : Sg), f33 (GC L) RC 21 p m = some (ra 161 (m 22) p)) ∧ (∀ (p : Int) (m : Sg), f33 (GC L) RC 23 p m = some (ra 160 (m 24) p)) ∧ (∀ (p : Int) (m : Sg), f33 (GC L) RC 26 p m = some (ra 960 (m 27) p)) ∧ (∀ (p : Int) (m : Sg), f33 (GC L) RC 28 p m = some (ra 6 (m 29) p)) ∧ (∀ (p : Int) (m : Sg), f33 (GC L) RC 30 p m = some (ra 6 (m 31) p)) ∧ (∀ (p : Int) (m : Sg), f33 (GC L) RC 32 p m = some (ra 160 (m 33) p)) ∧ (∀ (p : Int) (m : Sg), f33 (GC L) RC 35 p m = some (ra 8 (m 36) p)) ∧ (∀ (p : Int) (m : Sg), f33 (GC L) RC 37 p m = some (ra 8 (m 38) p)) ∧ (∀ (p : Int) (m : Sg), f33 (GC L) RC 39 p m = some (ra 8 (m 40) p)) ∧ (∀ (p : Int) (m : Sg), f33 (GC L) RC 41 p m = some (ra 8 (m 42) p)) ∧ (∀ (p : Int) (m : Sg), f33 (GC L) RC 44 p m = some (ra 160 (m 45) p)) ∧ (∀ (p : Int) (m : Sg), f33 (GC L) RC 46 p m = some (ra 4 (m 47) p)) ∧ (∀ (p : Int) (m : Sg), f33 (GC L) RC 48 p m = some (ra 4 (m 49) p)) ∧ (∀ (p : Int) (m : Sg), f33 (GC L) RC 50 p m = some (ra 4 (m 51) p)) ∧ (∀ (p : Int) (m : Sg), f33 (GC L) RC 52 p m = some (ra 6 (m 53) p)) ∧ (∀ (p : Int) (m : Sg), f33 (GC L) RC 55 p m = some (ra 10 (m 56) p)) ∧ (∀ (p : Int) (m : Sg), f33 (GC L) RC 57 p m = some (ra 10 (m 58) p)) ∧ (∀ (p : Int) (m : Sg), f33 (GC L) RC 60 p m = some (ra 10 (m 61) p)) ∧ (∀ (p : Int) (m : Sg), f33 (GC L) RC 62 p m = some (ra 10 (m 63) p)) ∧ (∀ (p : Int) (m : Sg), f33 (GC L) RC 66 p m = some (ra 10 (m 67) p)) ∧ (∀ (p : Int) (m : Sg), f33 (GC L) RC 68 p m = some (ra 50 (m 69) p)) ∧ (∀ (p : Int) (m : Sg), f33 (GC L) RC 70 p m = some (ra 50 (m 71) p)) ∧ (∀ (p : Int) (m : Sg), f33 (GC L) RC 73 p m = some (ra 10 (m 74) p)) ∧ (∀ (p : Int) (m : Sg), f33 (GC L) RC 75 p m = some (ra 10 (m 76) p)) ∧ (∀ (p : Int) (m : Sg), f33 (GC L) RC 78 p m = some (ra 10 (m 79) p)) ∧ (∀ (p : Int) (m : Sg), f33 (GC L) RC 80 p m = some (ra 10 (m 81) p)) ∧ (∀ (p : Int) (m : Sg), f33 (GC L) RC 83 p m = some (ra 120 (m 84) p)) ∧ (∀ (p : Int) (m : Sg), f33 (GC L) RC 85 p m = some (ra 120 (m 86) p)) ∧ (∀ (p : Int) (m : Sg), f33 (GC L) RC 87 p m = some (ra 12 (m 88) p)) ∧ (∀ (p : Int) (m : Sg), f33 (GC L) RC 89 p m = some (ra 12 (m 90) p)) ∧ (∀ (p : Int) (m : Sg), f33 (GC L) RC 91 p m = some (ra 12 (m 92) p)) ∧ (∀ (p : Int) (m : Sg), f33 (GC L) RC 93 p m = some (ra 12 (m 94) p)) ∧ (∀ (p : Int) (m : Sg), f33 (GC L) RC 95 p m = some (ra 72 (m 96) p)) ∧ (∀ (p : Int) (m : Sg), f33 (GC L) RC 97 p m = some (ra 6 (m 98) p)) ∧ (∀ (p : Int) (m : Sg), f33 (GC L) RC 100 p m = some (ra 100 (m 101) p)) ∧ (∀ (p : Int) (m : Sg), f33 (GC L) RC 102 p m = some (ra 100 (m 103) p)) ∧ (∀ (p : Int) (m : Sg), f33 (GC L) RC 104 p m = some (ra 100 (m 105) p)) ∧ (∀ (p : Int) (m : Sg), f33 (GC L) RC 106 p m = some (ra 100 (m 107) p)) ∧ (∀ (p : Int) (m : Sg), f33 (GC L) RC 108 p m = some (ra 100 (m 109) p)) ∧ (∀ (p : Int) (m : Sg), f33 (GC L) RC 111 p m = some (ra 10 (m 112) p)) ∧ (∀ (p : Int) (m : Sg), f33 (GC L) RC 113 p m = some (ra 10 (m 114) p)) ∧ (∀ (p : Int) (m : Sg), f33 (GC L) RC 116 p m = some (ra 10 (m 117) p)) ∧ (∀ (p : Int) (m : Sg), f33 (GC L) RC 118 p m = some (ra 10 (m 119) p)) := ⟨fun _ _ => f33_s rfl (by decide +kernel) rfl rfl, fun _ _ => f33_s rfl (by decide +kernel) rfl rfl, fun _ _ => f33_s rfl (by decide +kernel) rfl rfl, fun _ _ => f33_s rfl (by decide +kernel) rfl rfl, fun _ _ => f33_s rfl (by decide +kernel) rfl rfl, fun _ _ => f33_s rfl (by decide +kernel) rfl rfl, fun _ _ => f33_s rfl (by decide +kernel) rfl rfl, fun _ _ => f33_s rfl (by decide +kernel) rfl rfl, fun _ _ => f33_s rfl (by decide +kernel) rfl rfl, fun _ _ => f33_s rfl (by decide +kernel) rfl rfl, fun _ _ => f33_s rfl (by decide +kernel) rfl rfl, fun _ _ => f33_s rfl (by decide +kernel) rfl rfl, fun _ _ => f33_s rfl (by decide +kernel) rfl rfl, fun _ _ => f33_s rfl (by decide +kernel) rfl rfl, fun _ _ => f33_s rfl (by decide +kernel) rfl rfl, fun _ _ => f33_s rfl (by decide +kernel) rfl rfl, fun _ _ => f33_s rfl (by decide +kernel) rfl rfl, fun _ _ => f33_s rfl (by decide +kernel) rfl rfl, fun _ _ => f33_s rfl (by decide +kernel) rfl rfl, fun _ _ => f33_s rfl (by decide +kernel) rfl rfl, fun _ _ => f33_s rfl (by decide +kernel) rfl rfl, fun _ _ => f33_s rfl (by decide +kernel) rfl rfl, fun _ _ => f33_s rfl (by decide +kernel) rfl rfl, fun _ _ => f33_s rfl (by decide +kernel) rfl rfl, fun _ _ => f33_s rfl (by decide +kernel) rfl rfl, fun _ _ => f33_s rfl (by decide +kernel) rfl rfl, fun _ _ => f33_s rfl (by decide +kernel) rfl rfl, fun _ _ => f33_s rfl (by decide +kernel) rfl rfl, fun _ _ => f33_s rfl (by decide +kernel) rfl rfl, fun _ _ => f33_s rfl (by decide +kernel) rfl rfl, fun _ _ => f33_s rfl (by decide +kernel) rfl rfl, fun _ _ => f33_s rfl (by decide +kernel) rfl rfl, fun _ _ => f33_s rfl (by decide +kernel) rfl rfl, fun _ _ => f33_s rfl (by decide +kernel) rfl rfl, fun _ _ => f33_s rfl (by decide +kernel) rfl rfl, fun _ _ => f33_s rfl (by decide +kernel) rfl rfl, fun _ _ => f33_s rfl (by decide +kernel) rfl rfl, fun _ _ => f33_s rfl (by decide +kernel) rfl rfl, fun _ _ => f33_s rfl (by decide +kernel) rfl rfl, fun _ _ => f33_s rfl (by decide +kernel) rfl rfl, fun _ _ => f33_s rfl (by decide +kernel) rfl rfl, fun _ _ => f33_s rfl (by decide +kernel) rfl rfl, fun _ _ => f33_s rfl (by decide +kernel) rfl rfl, fun _ _ => f33_s rfl (by decide +kernel) rfl rfl, fun _ _ => f33_s rfl (by decide +kernel) rfl rfl, fun _ _ => f33_s rfl (by decide +kernel) rfl rfl, fun _ _ => f33_s rfl (by decide +kernel) rfl rfl, fun _ _ => f33_s rfl (by decide +kernel) rfl rfl, fun _ _ => f33_s rfl (by decide +kernel) rfl rfl, fun _ _ => f33_s rfl (by decide +kernel) rfl rfl, fun _ _ => f33_s rfl (by decide +kernel) rfl rfl⟩
theorem RPx (L : Nat) : (∀ (p v : Int) (m : Sg), f34 (GC L) RC 3 p v m = some (rp 10 4 m p v)) ∧ (∀ (p v : Int) (m : Sg), f34 (GC L) RC 5 p v m = some (rp 50 6 m p v)) ∧ (∀ (p v : Int) (m : Sg), f34 (GC L) RC 7 p v m = some (rp 50 8 m p v)) ∧ (∀ (p v : Int) (m : Sg), f34 (GC L) RC 10 p v m = some (rp 20 11 m p v)) ∧ (∀ (p v : Int) (m : Sg), f34 (GC L) RC 12 p v m = some (rp 20 13 m p v)) ∧ (∀ (p v : Int) (m : Sg), f34 (GC L) RC 15 p v m = some (rp 160 16 m p v)) ∧ (∀ (p v : Int) (m : Sg), f34 (GC L) RC 17 p v m = some (rp 161 18 m p v)) ∧ (∀ (p v : Int) (m : Sg), f34 (GC L) RC 19 p v m = some (rp 161 20 m p v)) ∧ (∀ (p v : Int) (m : Sg), f34 (GC L) RC 21 p v m = some (rp 161 22 m p v)) ∧ (∀ (p v : Int) (m : Sg), f34 (GC L) RC 23 p v m = some (rp 160 24 m p v)) ∧ (∀ (p v : Int) (m : Sg), f34 (GC L) RC 26 p v m = some (rp 960 27 m p v)) ∧ (∀ (p v : Int) (m : Sg), f34 (GC L) RC 28 p v m = some (rp 6 29 m p v)) ∧ (∀ (p v : Int) (m : Sg), f34 (GC L) RC 30 p v m = some (rp 6 31 m p v)) ∧ (∀ (p v : Int) (m : Sg), f34 (GC L) RC 32 p v m = some (rp 160 33 m p v)) ∧ (∀ (p v : Int) (m : Sg), f34 (GC L) RC 35 p v m = some (rp 8 36 m p v)) ∧ (∀ (p v : Int) (m : Sg), f34 (GC L) RC 37 p v m = some (rp 8 38 m p v)) ∧ (∀ (p v : Int) (m : Sg), f34 (GC L) RC 39 p v m = some (rp 8 40 m p v)) ∧ (∀ (p v : Int) (m : Sg), f34 (GC L) RC 41 p v m = some (rp 8 42 m p v)) ∧ (∀ (p v : Int) (m : Sg), f34 (GC L) RC 44 p v m = some (rp 160 45 m p v)) ∧ (∀ (p v : Int) (m : Sg), f34 (GC L) RC 46 p v m = some (rp 4 47 m p v)) ∧ (∀ (p v : Int) (m : Sg), f34 (GC L) RC 48 p v m = some (rp 4 49 m p v)) ∧ (∀ (p v : Int) (m : Sg), f34 (GC L) RC 50 p v m = some (rp 4 51 m p v)) ∧ (∀ (p v : Int) (m : Sg), f34 (GC L) RC 52 p v m = some (rp 6 53 m p v)) ∧ (∀ (p v : Int) (m : Sg), f34 (GC L) RC 55 p v m = some (rp 10 56 m p v)) ∧ (∀ (p v : Int) (m : Sg), f34 (GC L) RC 57 p v m = some (rp 10 58 m p v)) ∧ (∀ (p v : Int) (m : Sg), f34 (GC L) RC 60 p v m = some (rp 10 61 m p v)) ∧ (∀ (p v : Int) (m : Sg), f34 (GC L) RC 62 p v m = some (rp 10 63 m p v)) ∧ (∀ (p v : Int) (m : Sg), f34 (GC L) RC 66 p v m = some (rp 10 67 m p v)) ∧ (∀ (p v : Int) (m : Sg), f34 (GC L) RC 68 p v m = some (rp 50 69 m p v)) ∧ (∀ (p v : Int) (m : Sg), f34 (GC L) RC 70 p v m = some (rp 50 71 m p v)) ∧ (∀ (p v : Int) (m : Sg), f34 (GC L) RC 73 p v m = some (rp 10 74 m p v)) ∧ (∀ (p v : Int) (m : Sg), f34 (GC L) RC 75 p v m = some (rp 10 76 m p v)) ∧ (∀ (p v : Int) (m : Sg), f34 (GC L) RC 78 p v m = some (rp 10 79 m p v)) ∧ (∀ (p v : Int) (m : Sg), f34 (GC L) RC 80 p v m = some (rp 10 81 m p v)) ∧ (∀ (p v : Int) (m : Sg), f34 (GC L) RC 83 p v m = some (rp 120 84 m p v)) ∧ (∀ (p v : Int) (m : Sg), f34 (GC L) RC 85 p v m = some (rp 120 86 m p v)) ∧ (∀ (p v : Int) (m : Sg), f34 (GC L) RC 87 p v m = some (rp 12 88 m p v)) ∧ (∀ (p v : Int) (m : Sg), f34 (GC L) RC 89 p v m = some (rp 12 90 m p v)) ∧ (∀ (p v : Int) (m : Sg), f34 (GC L) RC 91 p v m = some (rp 12 92 m p v)) ∧ (∀ (p v : Int) (m : Sg), f34 (GC L) RC 93 p v m = some (rp 12 94 m p v)) ∧ (∀ (p v : Int) (m : Sg), f34 (GC L) RC 95 p v m = some (rp 72 96 m p v)) ∧ (∀ (p v : Int) (m : Sg), f34 (GC L) RC 97 p v m = some (rp 6 98 m p v)) ∧ (∀ (p v : Int) (m : Sg), f34 (GC L) RC 100 p v m = some (rp 100 101 m p v)) ∧ (∀ (p v : Int) (m : Sg), f34 (GC L) RC 102 p v m = some (rp 100 103 m p v)) ∧ (∀ (p v : Int) (m : Sg), f34 (GC L) RC 104 p v m = some (rp 100 105 m p v)) ∧ (∀ (p v : Int) (m : Sg), f34 (GC L) RC 106 p v m = some (rp 100 107 m p v)) ∧ (∀ (p v : Int) (m : Sg), f34 (GC L) RC 108 p v m = some (rp 100 109 m p v)) ∧ (∀ (p v : Int) (m : Sg), f34 (GC L) RC 111 p v m = some (rp 10 112 m p v)) ∧ (∀ (p v : Int) (m : Sg), f34 (GC L) RC 113 p v m = some (rp 10 114 m p v)) ∧ (∀ (p v : Int) (m : Sg), f34 (GC L) RC 116 p v m = some (rp 10 117 m p v)) ∧ (∀ (p v : Int) (m : Sg), f34 (GC L) RC 118 p v m = some (rp 10 119 m p v)) := ⟨fun _ _ _ => f34_s rfl (by decide +kernel) rfl rfl, fun _ _ _ => f34_s rfl (by decide +kernel) rfl rfl, fun _ _ _ => f34_s rfl (by decide +kernel) rfl rfl, fun _ _ _ => f34_s rfl (by decide +kernel) rfl rfl, fun _ _ _ => f34_s rfl (by decide +kernel) rfl rfl, fun _ _ _ => f34_s rfl (by decide +kernel) rfl rfl, fun _ _ _ => f34_s rfl (by decide +kernel) rfl rfl, fun _ _ _ => f34_s rfl (by decide +kernel) rfl rfl, fun _ _ _ => f34_s rfl (by decide +kernel) rfl rfl, fun _ _ _ => f34_s rfl (by decide +kernel) rfl rfl, fun _ _ _ => f34_s rfl (by decide +kernel) rfl rfl, fun _ _ _ => f34_s rfl (by decide +kernel) rfl rfl, fun _ _ _ => f34_s rfl (by decide +kernel) rfl rfl, fun _ _ _ => f34_s rfl (by decide +kernel) rfl rfl, fun _ _ _ => f34_s rfl (by decide +kernel) rfl rfl, fun _ _ _ => f34_s rfl (by decide +kernel) rfl rfl, fun _ _ _ => f34_s rfl (by decide +kernel) rfl rfl, fun _ _ _ => f34_s rfl (by decide +kernel) rfl rfl, fun _ _ _ => f34_s rfl (by decide +kernel) rfl rfl, fun _ _ _ => f34_s rfl (by decide +kernel) rfl rfl, fun _ _ _ => f34_s rfl (by decide +kernel) rfl rfl, fun _ _ _ => f34_s rfl (by decide +kernel) rfl rfl, fun _ _ _ => f34_s rfl (by decide +kernel) rfl rfl, fun _ _ _ => f34_s rfl (by decide +kernel) rfl rfl, fun _ _ _ => f34_s rfl (by decide +kernel) rfl rfl, fun _ _ _ => f34_s rfl (by decide +kernel) rfl rfl, fun _ _ _ => f34_s rfl (by decide +kernel) rfl rfl, fun _ _ _ => f34_s rfl (by decide +kernel) rfl rfl, fun _ _ _ => f34_s rfl (by decide +kernel) rfl rfl, fun _ _ _ => f34_s rfl (by decide +kernel) rfl rfl, fun _ _ _ => f34_s rfl (by decide +kernel) rfl rfl, fun _ _ _ => f34_s rfl (by decide +kernel) rfl rfl, fun _ _ _ => f34_s rfl (by decide +kernel) rfl rfl, fun _ _ _ => f34_s rfl (by decide +kernel) rfl rfl, fun _ _ _ => f34_s rfl (by decide +kernel) rfl rfl, fun _ _ _ => f34_s rfl (by decide +kernel) rfl rfl, fun _ _ _ => f34_s rfl (by decide +kernel) rfl rfl, fun _ _ _ => f34_s rfl (by decide +kernel) rfl rfl, fun _ _ _ => f34_s rfl (by decide +kernel) rfl rfl, fun _ _ _ => f34_s rfl (by decide +kernel) rfl rfl, fun _ _ _ => f34_s rfl (by decide +kernel) rfl rfl, fun _ _ _ => f34_s rfl (by decide +kernel) rfl rfl, fun _ _ _ => f34_s rfl (by decide +kernel) rfl rfl, fun _ _ _ => f34_s rfl (by decide +kernel) rfl rfl, fun _ _ _ => f34_s rfl (by decide +kernel) rfl rfl, fun _ _ _ => f34_s rfl (by decide +kernel) rfl rfl, fun _ _ _ => f34_s rfl (by decide +kernel) rfl rfl, fun _ _ _ => f34_s rfl (by decide +kernel) rfl rfl, fun _ _ _ => f34_s rfl (by decide +kernel) rfl rfl, fun _ _ _ => f34_s rfl (by decide +kernel) rfl rfl, fun _ _ _ => f34_s rfl (by decide +kernel) rfl rfl⟩
theorem RFx (L : Nat) : (∀ (v : Int) (m : Sg), f35 (GC L) RC 3 v m = some (fil 10 4 m v)) ∧ (∀ (v : Int) (m : Sg), f35 (GC L) RC 5 v m = some (fil 50 6 m v)) ∧ (∀ (v : Int) (m : Sg), f35 (GC L) RC 7 v m = some (fil 50 8 m v)) ∧ (∀ (v : Int) (m : Sg), f35 (GC L) RC 10 v m = some (fil 20 11 m v)) ∧ (∀ (v : Int) (m : Sg), f35 (GC L) RC 12 v m = some (fil 20 13 m v)) ∧ (∀ (v : Int) (m : Sg), f35 (GC L) RC 15 v m = some (fil 160 16 m v)) ∧ (∀ (v : Int) (m : Sg), f35 (GC L) RC 17 v m = some (fil 161 18 m v)) ∧ (∀ (v : Int) (m : Sg), f35 (GC L) RC 19 v m = some (fil 161 20 m v)) ∧ (∀ (v : Int) (m : Sg), f35 (GC L) RC 21 v m = some (fil 161 22 m v)) ∧ (∀ (v : Int) (m : Sg), f35 (GC L) RC 23 v m = some (fil 160 24 m v)) ∧ (∀ (v : Int) (m : Sg), f35 (GC L) RC 26 v m = some (fil 960 27 m v)) ∧ (∀ (v : Int) (m : Sg), f35 (GC L) RC 28 v m = some (fil 6 29 m v)) ∧ (∀ (v : Int) (m : Sg), f35 (GC L) RC 30 v m = some (fil 6 31 m v)) ∧ (∀ (v : Int) (m : Sg), f35 (GC L) RC 32 v m = some (fil 160 33 m v)) ∧ (∀ (v : Int) (m : Sg), f35 (GC L) RC 35 v m = some (fil 8 36 m v)) ∧ (∀ (v : Int) (m : Sg), f35 (GC L) RC 37 v m = some (fil 8 38 m v)) ∧ (∀ (v : Int) (m : Sg), f35 (GC L) RC 39 v m = some (fil 8 40 m v)) ∧ (∀ (v : Int) (m : Sg), f35 (GC L) RC 41 v m = some (fil 8 42 m v)) ∧ (∀ (v : Int) (m : Sg), f35 (GC L) RC 44 v m = some (fil 160 45 m v)) ∧ (∀ (v : Int) (m : Sg), f35 (GC L) RC 46 v m = some (fil 4 47 m v)) ∧ (∀ (v : Int) (m : Sg), f35 (GC L) RC 48 v m = some (fil 4 49 m v)) ∧ (∀ (v : Int) (m : Sg), f35 (GC L) RC 50 v m = some (fil 4 51 m v)) ∧ (∀ (v : Int) (m : Sg), f35 (GC L) RC 52 v m = some (fil 6 53 m v)) ∧ (∀ (v : Int) (m : Sg), f35 (GC L) RC 55 v m = some (fil 10 56 m v)) ∧ (∀ (v : Int) (m : Sg), f35 (GC L) RC 57 v m = some (fil 10 58 m v)) ∧ (∀ (v : Int) (m : Sg), f35 (GC L) RC 60 v m = some (fil 10 61 m v)) ∧ (∀ (v : Int) (m : Sg), f35 (GC L) RC 62 v m = some (fil 10 63 m v)) ∧ (∀ (v : Int) (m : Sg), f35 (GC L) RC 66 v m = some (fil 10 67 m v)) ∧ (∀ (v : Int) (m : Sg), f35 (GC L) RC 68 v m = some (fil 50 69 m v)) ∧ (∀ (v : Int) (m : Sg), f35 (GC L) RC 70 v m = some (fil 50 71 m v)) ∧ (∀ (v : Int) (m : Sg), f35 (GC L) RC 73 v m = some (fil 10 74 m v)) ∧ (∀ (v : Int) (m : Sg), f35 (GC L) RC 75 v m = some (fil 10 76 m v)) ∧ (∀ (v : Int) (m : Sg), f35 (GC L) RC 78 v m = some (fil 10 79 m v)) ∧ (∀ (v : Int) (m : Sg), f35 (GC L) RC 80 v m = some (fil 10 81 m v)) ∧ (∀ (v : Int) (m : Sg), f35 (GC L) RC 83 v m = some (fil 120 84 m v)) ∧ (∀ (v : Int) (m : Sg), f35 (GC L) RC 85 v m = some (fil 120 86 m v)) ∧ (∀ (v : Int) (m : Sg), f35 (GC L) RC 87 v m = some (fil 12 88 m v)) ∧ (∀ (v : Int) (m : Sg), f35 (GC L) RC 89 v m = some (fil 12 90 m v)) ∧ (∀ (v : Int) (m : Sg), f35 (GC L) RC 91 v m = some (fil 12 92 m v)) ∧ (∀ (v : Int) (m : Sg), f35 (GC L) RC 93 v m = some (fil 12 94 m v)) ∧ (∀ (v : Int) (m : Sg), f35 (GC L) RC 95 v m = some (fil 72 96 m v)) ∧ (∀ (v : Int) (m : Sg), f35 (GC L) RC 97 v m = some (fil 6 98 m v)) ∧ (∀ (v : Int) (m : Sg), f35 (GC L) RC 100 v m = some (fil 100 101 m v)) ∧ (∀ (v : Int) (m : Sg), f35 (GC L) RC 102 v m = some (fil 100 103 m v)) ∧ (∀ (v : Int) (m : Sg), f35 (GC L) RC 104 v m = some (fil 100 105 m v)) ∧ (∀ (v : Int) (m : Sg), f35 (GC L) RC 106 v m = some (fil 100 107 m v)) ∧ (∀ (v : Int) (m : Sg), f35 (GC L) RC 108 v m = some (fil 100 109 m v)) ∧ (∀ (v : Int) (m : Sg), f35 (GC L) RC 111 v m = some (fil 10 112 m v)) ∧ (∀ (v : Int) (m : Sg), f35 (GC L) RC 113 v m = some (fil 10 114 m v)) ∧ (∀ (v : Int) (m : Sg), f35 (GC L) RC 116 v m = some (fil 10 117 m v)) ∧ (∀ (v : Int) (m : Sg), f35 (GC L) RC 118 v m = some (fil 10 119 m v)) := ⟨fun _ _ => f35_s 10 rfl (by decide +kernel) rfl rfl (by decide), fun _ _ => f35_s 50 rfl (by decide +kernel) rfl rfl (by decide), fun _ _ => f35_s 50 rfl (by decide +kernel) rfl rfl (by decide), fun _ _ => f35_s 20 rfl (by decide +kernel) rfl rfl (by decide), fun _ _ => f35_s 20 rfl (by decide +kernel) rfl rfl (by decide), fun _ _ => f35_s 160 rfl (by decide +kernel) rfl rfl (by decide), fun _ _ => f35_s 161 rfl (by decide +kernel) rfl rfl (by decide), fun _ _ => f35_s 161 rfl (by decide +kernel) rfl rfl (by decide), fun _ _ => f35_s 161 rfl (by decide +kernel) rfl rfl (by decide), fun _ _ => f35_s 160 rfl (by decide +kernel) rfl rfl (by decide), fun _ _ => f35_s 960 rfl (by decide +kernel) rfl rfl (by decide), fun _ _ => f35_s 6 rfl (by decide +kernel) rfl rfl (by decide), fun _ _ => f35_s 6 rfl (by decide +kernel) rfl rfl (by decide), fun _ _ => f35_s 160 rfl (by decide +kernel) rfl rfl (by decide), fun _ _ => f35_s 8 rfl (by decide +kernel) rfl rfl (by decide), fun _ _ => f35_s 8 rfl (by decide +kernel) rfl rfl (by decide), fun _ _ => f35_s 8 rfl (by decide +kernel) rfl rfl (by decide), fun _ _ => f35_s 8 rfl (by decide +kernel) rfl rfl (by decide), fun _ _ => f35_s 160 rfl (by decide +kernel) rfl rfl (by decide), fun _ _ => f35_s 4 rfl (by decide +kernel) rfl rfl (by decide), fun _ _ => f35_s 4 rfl (by decide +kernel) rfl rfl (by decide), fun _ _ => f35_s 4 rfl (by decide +kernel) rfl rfl (by decide), fun _ _ => f35_s 6 rfl (by decide +kernel) rfl rfl (by decide), fun _ _ => f35_s 10 rfl (by decide +kernel) rfl rfl (by decide), fun _ _ => f35_s 10 rfl (by decide +kernel) rfl rfl (by decide), fun _ _ => f35_s 10 rfl (by decide +kernel) rfl rfl (by decide), fun _ _ => f35_s 10 rfl (by decide +kernel) rfl rfl (by decide), fun _ _ => f35_s 10 rfl (by decide +kernel) rfl rfl (by decide), fun _ _ => f35_s 50 rfl (by decide +kernel) rfl rfl (by decide), fun _ _ => f35_s 50 rfl (by decide +kernel) rfl rfl (by decide), fun _ _ => f35_s 10 rfl (by decide +kernel) rfl rfl (by decide), fun _ _ => f35_s 10 rfl (by decide +kernel) rfl rfl (by decide), fun _ _ => f35_s 10 rfl (by decide +kernel) rfl rfl (by decide), fun _ _ => f35_s 10 rfl (by decide +kernel) rfl rfl (by decide), fun _ _ => f35_s 120 rfl (by decide +kernel) rfl rfl (by decide), fun _ _ => f35_s 120 rfl (by decide +kernel) rfl rfl (by decide), fun _ _ => f35_s 12 rfl (by decide +kernel) rfl rfl (by decide), fun _ _ => f35_s 12 rfl (by decide +kernel) rfl rfl (by decide), fun _ _ => f35_s 12 rfl (by decide +kernel) rfl rfl (by decide), fun _ _ => f35_s 12 rfl (by decide +kernel) rfl rfl (by decide), fun _ _ => f35_s 72 rfl (by decide +kernel) rfl rfl (by decide), fun _ _ => f35_s 6 rfl (by decide +kernel) rfl rfl (by decide), fun _ _ => f35_s 100 rfl (by decide +kernel) rfl rfl (by decide), fun _ _ => f35_s 100 rfl (by decide +kernel) rfl rfl (by decide), fun _ _ => f35_s 100 rfl (by decide +kernel) rfl rfl (by decide), fun _ _ => f35_s 100 rfl (by decide +kernel) rfl rfl (by decide), fun _ _ => f35_s 100 rfl (by decide +kernel) rfl rfl (by decide), fun _ _ => f35_s 10 rfl (by decide +kernel) rfl rfl (by decide), fun _ _ => f35_s 10 rfl (by decide +kernel) rfl rfl (by decide), fun _ _ => f35_s 10 rfl (by decide +kernel) rfl rfl (by decide), fun _ _ => f35_s 10 rfl (by decide +kernel) rfl rfl (by decide)⟩
/-- the steps that are allowed -/
def alw (a d : Int) : Prop := 1 ≤ d ∧ d ≤ 5 ∧ g_and (g_shr a (g_sub d 1)) 1 = 1
/-- a move: how it ends, where the stone then lies -/
def ou (n : Int) (K N : Int → Int) (s d : Int) : Int := if K ((s + d) % n) = 1 then 1 else if K ((s + d) % n) = 2 then 3 else if K ((s + d) % n) = 3 then 2 else if K ((s + d) % n) = 4 then 1 else if K ((s + d) % n) = 5 then (if N ((s + d) % n) < d then 2 else 0) else 0
def la (n : Int) (K N : Int → Int) (s d : Int) : Int := if K ((s + d) % n) = 4 then ((s + d) % n - N ((s + d) % n)) % n else (s + d) % n
theorem alw_dec (a d : Int) : alw a d ∨ ¬ alw a d := Classical.em _
theorem emod_b {x n : Int} (h : 0 < n) : 0 ≤ x % n ∧ x % n < n := ⟨Int.emod_nonneg _ (by omega), Int.emod_lt_of_pos _ h⟩
theorem rem_neg {x n : Int} (h : 0 < n) (hx : x < 0) : (x.tmod n < 0 → x % n = x.tmod n + n) ∧ (¬ x.tmod n < 0 → x % n = x.tmod n) ∧ -n < x.tmod n ∧ x.tmod n < n := by
  have e1 : x.tmod n = -((-x) % n) := by
    have : x.tmod n = -((-x).tmod n) := by rw [Int.neg_tmod, Int.neg_neg]
    rw [this, Int.tmod_eq_emod_of_nonneg (by omega)]
  have b1 := emod_b (x := -x) h
  have b2 := emod_b (x := x) h
  have d1 := Int.emod_add_mul_ediv (-x) n
  have d2 := Int.emod_add_mul_ediv x n
  have hs : ((-x) % n + x % n) % n = 0 := by
    rw [← Int.add_emod, Int.add_left_neg, Int.zero_emod]
  have hs2 : (-x) % n + x % n = 0 ∨ (-x) % n + x % n = n := by
    by_cases c : (-x) % n + x % n < n
    · left; rw [Int.emod_eq_of_lt (by omega) c] at hs; exact hs
    · right
      have : ((-x) % n + x % n - n) % n = 0 := by rw [Int.sub_emod_right]; exact hs
      rw [Int.emod_eq_of_lt (by omega) (by omega)] at this; omega
  rw [e1]
  refine ⟨fun q => by omega, fun q => by omega, by omega, by omega⟩
theorem around_s {p n : Int} (h1 : 0 < n) (h2 : n ≤ 10) : (if g_rem p n < 0 then some (g_add (g_rem p n) n) else some (g_rem p n)) = some (p % n) := by
  by_cases c : 0 ≤ p
  · rw [g_rem_p c, if_neg (by have := (emod_b (x := p) h1).1; omega)]
  · obtain ⟨q1, q2, q3, q4⟩ := rem_neg (x := p) h1 (by omega)
    by_cases c2 : g_rem p n < 0
    · rw [if_pos c2]
      unfold g_add
      have : g_rem p n = p.tmod n := rfl
      rw [this] at c2 ⊢
      rw [w32_i (by omega) (by omega), q1 c2]
    · rw [if_neg c2]
      have : g_rem p n = p.tmod n := rfl
      rw [this] at c2 ⊢
      rw [q2 c2]
theorem f46_54 (L : Nat) {m : Sg} {p n : Int} (hn : m 54 0 = n) (h1 : 0 < n) (h2 : n ≤ 10) : f46 (GC L) RC 54 p m = some (p % n) := by
  unfold f46
  rw [hn, if_pos (show gkb (GC L) 54 7 = true from rfl), if_pos h1, if_pos (by omega)]
  exact around_s h1 h2
theorem f39_54 (L : Nat) {m : Sg} {d : Int} : (alw (m 54 3) d → f39 (GC L) RC 54 d m = some 1) ∧ (¬ alw (m 54 3) d → f39 (GC L) RC 54 d m = some 0) := by
  unfold f39 alw
  constructor
  · intro h
    rw [if_neg (by omega), if_neg (by omega), if_pos (show gkb (GC L) 54 7 = true from rfl), if_pos h.2.2]
  · intro h
    by_cases c1 : d < 1
    · rw [if_pos c1]
    · rw [if_neg c1]
      by_cases c2 : 5 < d
      · rw [if_pos c2]
      · rw [if_neg c2, if_pos (show gkb (GC L) 54 7 = true from rfl), if_neg (fun q => h ⟨by omega, by omega, q⟩)]
theorem f43_54 (L : Nat) {m : Sg} {s d n : Int} (hn : m 54 0 = n) (h1 : 0 < n) (h2 : n ≤ 10) (hs : 0 ≤ s ∧ s < 1000) (hd : 0 ≤ d ∧ d < 10) : f43 (GC L) RC 54 s d m = some (ou n (m 56) (m 58) s d) := by
  have b1 := emod_b (x := s + d) h1
  unfold f43 g_add
  rw [w32_i (by omega) (by omega), f46_54 L hn h1 h2]
  simp only [KG L, KR, RAx L, Option.bind_some, if_true]
  rw [ra_in b1.1 (by omega), ra_in b1.1 (by omega)]
  unfold ou
  split
  · rfl
  · split
    · rfl
    · split
      · rfl
      · split
        · rfl
        · split
          · split <;> rfl
          · rfl
theorem f44_54 (L : Nat) {m : Sg} {s d n : Int} (hn : m 54 0 = n) (h1 : 0 < n) (h2 : n ≤ 10) (hs : 0 ≤ s ∧ s < 1000) (hd : 0 ≤ d ∧ d < 10) (hN : ∀ i, 0 ≤ i → i < n → 0 ≤ m 58 i ∧ m 58 i < 1000) : f44 (GC L) RC 54 s d m = some (la n (m 56) (m 58) s d) := by
  have b1 := emod_b (x := s + d) h1
  have b2 := hN _ b1.1 b1.2
  unfold f44 g_add
  rw [w32_i (by omega) (by omega), f46_54 L hn h1 h2]
  simp only [KG L, KR, RAx L, Option.bind_some, if_true]
  rw [ra_in b1.1 (by omega), ra_in b1.1 (by omega)]
  unfold la g_sub
  rw [w32_i (by omega) (by omega), f46_54 L hn h1 h2]
  split <;> rfl
theorem f40_54 (L : Nat) {m : Sg} {s k v : Int} : f40 (GC L) RC 54 s k v m = some (rp 10 58 (rp 10 56 m s k) s v) := by
  unfold f40
  simp only [KG L, KR, RPx L, Option.bind_some, if_true]
theorem f38_54 (L : Nat) {m : Sg} {s n : Int} (hn : m 54 0 = n) : f38 (GC L) RC 54 s m = some (if 0 ≤ s ∧ s < n then 1 else 0) := by
  unfold f38
  rw [hn]
  by_cases c : s < 0
  · rw [if_pos c, if_neg (by omega)]
  · rw [if_neg c, if_pos (show gkb (GC L) 54 7 = true from rfl)]
    by_cases c2 : s < n
    · rw [if_pos c2, if_pos (by omega)]
    · rw [if_neg c2, if_neg (by omega)]
theorem f46_59 (L : Nat) {m : Sg} {p n : Int} (hn : m 59 0 = n) (h1 : 0 < n) (h2 : n ≤ 10) : f46 (GC L) RC 59 p m = some (p % n) := by
  unfold f46
  rw [hn, if_pos (show gkb (GC L) 59 7 = true from rfl), if_pos h1, if_pos (by omega)]
  exact around_s h1 h2
theorem f39_59 (L : Nat) {m : Sg} {d : Int} : (alw (m 59 3) d → f39 (GC L) RC 59 d m = some 1) ∧ (¬ alw (m 59 3) d → f39 (GC L) RC 59 d m = some 0) := by
  unfold f39 alw
  constructor
  · intro h
    rw [if_neg (by omega), if_neg (by omega), if_pos (show gkb (GC L) 59 7 = true from rfl), if_pos h.2.2]
  · intro h
    by_cases c1 : d < 1
    · rw [if_pos c1]
    · rw [if_neg c1]
      by_cases c2 : 5 < d
      · rw [if_pos c2]
      · rw [if_neg c2, if_pos (show gkb (GC L) 59 7 = true from rfl), if_neg (fun q => h ⟨by omega, by omega, q⟩)]
theorem f43_59 (L : Nat) {m : Sg} {s d n : Int} (hn : m 59 0 = n) (h1 : 0 < n) (h2 : n ≤ 10) (hs : 0 ≤ s ∧ s < 1000) (hd : 0 ≤ d ∧ d < 10) : f43 (GC L) RC 59 s d m = some (ou n (m 61) (m 63) s d) := by
  have b1 := emod_b (x := s + d) h1
  unfold f43 g_add
  rw [w32_i (by omega) (by omega), f46_59 L hn h1 h2]
  simp only [KG L, KR, RAx L, Option.bind_some, if_true]
  rw [ra_in b1.1 (by omega), ra_in b1.1 (by omega)]
  unfold ou
  split
  · rfl
  · split
    · rfl
    · split
      · rfl
      · split
        · rfl
        · split
          · split <;> rfl
          · rfl
theorem f44_59 (L : Nat) {m : Sg} {s d n : Int} (hn : m 59 0 = n) (h1 : 0 < n) (h2 : n ≤ 10) (hs : 0 ≤ s ∧ s < 1000) (hd : 0 ≤ d ∧ d < 10) (hN : ∀ i, 0 ≤ i → i < n → 0 ≤ m 63 i ∧ m 63 i < 1000) : f44 (GC L) RC 59 s d m = some (la n (m 61) (m 63) s d) := by
  have b1 := emod_b (x := s + d) h1
  have b2 := hN _ b1.1 b1.2
  unfold f44 g_add
  rw [w32_i (by omega) (by omega), f46_59 L hn h1 h2]
  simp only [KG L, KR, RAx L, Option.bind_some, if_true]
  rw [ra_in b1.1 (by omega), ra_in b1.1 (by omega)]
  unfold la g_sub
  rw [w32_i (by omega) (by omega), f46_59 L hn h1 h2]
  split <;> rfl
theorem f40_59 (L : Nat) {m : Sg} {s k v : Int} : f40 (GC L) RC 59 s k v m = some (rp 10 63 (rp 10 61 m s k) s v) := by
  unfold f40
  simp only [KG L, KR, RPx L, Option.bind_some, if_true]
theorem f38_59 (L : Nat) {m : Sg} {s n : Int} (hn : m 59 0 = n) : f38 (GC L) RC 59 s m = some (if 0 ≤ s ∧ s < n then 1 else 0) := by
  unfold f38
  rw [hn]
  by_cases c : s < 0
  · rw [if_pos c, if_neg (by omega)]
  · rw [if_neg c, if_pos (show gkb (GC L) 59 7 = true from rfl)]
    by_cases c2 : s < n
    · rw [if_pos c2, if_pos (by omega)]
    · rw [if_neg c2, if_neg (by omega)]
theorem f46_72 (L : Nat) {m : Sg} {p n : Int} (hn : m 72 0 = n) (h1 : 0 < n) (h2 : n ≤ 10) : f46 (GC L) RC 72 p m = some (p % n) := by
  unfold f46
  rw [hn, if_pos (show gkb (GC L) 72 7 = true from rfl), if_pos h1, if_pos (by omega)]
  exact around_s h1 h2
theorem f39_72 (L : Nat) {m : Sg} {d : Int} : (alw (m 72 3) d → f39 (GC L) RC 72 d m = some 1) ∧ (¬ alw (m 72 3) d → f39 (GC L) RC 72 d m = some 0) := by
  unfold f39 alw
  constructor
  · intro h
    rw [if_neg (by omega), if_neg (by omega), if_pos (show gkb (GC L) 72 7 = true from rfl), if_pos h.2.2]
  · intro h
    by_cases c1 : d < 1
    · rw [if_pos c1]
    · rw [if_neg c1]
      by_cases c2 : 5 < d
      · rw [if_pos c2]
      · rw [if_neg c2, if_pos (show gkb (GC L) 72 7 = true from rfl), if_neg (fun q => h ⟨by omega, by omega, q⟩)]
theorem f43_72 (L : Nat) {m : Sg} {s d n : Int} (hn : m 72 0 = n) (h1 : 0 < n) (h2 : n ≤ 10) (hs : 0 ≤ s ∧ s < 1000) (hd : 0 ≤ d ∧ d < 10) : f43 (GC L) RC 72 s d m = some (ou n (m 74) (m 76) s d) := by
  have b1 := emod_b (x := s + d) h1
  unfold f43 g_add
  rw [w32_i (by omega) (by omega), f46_72 L hn h1 h2]
  simp only [KG L, KR, RAx L, Option.bind_some, if_true]
  rw [ra_in b1.1 (by omega), ra_in b1.1 (by omega)]
  unfold ou
  split
  · rfl
  · split
    · rfl
    · split
      · rfl
      · split
        · rfl
        · split
          · split <;> rfl
          · rfl
theorem f44_72 (L : Nat) {m : Sg} {s d n : Int} (hn : m 72 0 = n) (h1 : 0 < n) (h2 : n ≤ 10) (hs : 0 ≤ s ∧ s < 1000) (hd : 0 ≤ d ∧ d < 10) (hN : ∀ i, 0 ≤ i → i < n → 0 ≤ m 76 i ∧ m 76 i < 1000) : f44 (GC L) RC 72 s d m = some (la n (m 74) (m 76) s d) := by
  have b1 := emod_b (x := s + d) h1
  have b2 := hN _ b1.1 b1.2
  unfold f44 g_add
  rw [w32_i (by omega) (by omega), f46_72 L hn h1 h2]
  simp only [KG L, KR, RAx L, Option.bind_some, if_true]
  rw [ra_in b1.1 (by omega), ra_in b1.1 (by omega)]
  unfold la g_sub
  rw [w32_i (by omega) (by omega), f46_72 L hn h1 h2]
  split <;> rfl
theorem f40_72 (L : Nat) {m : Sg} {s k v : Int} : f40 (GC L) RC 72 s k v m = some (rp 10 76 (rp 10 74 m s k) s v) := by
  unfold f40
  simp only [KG L, KR, RPx L, Option.bind_some, if_true]
theorem f38_72 (L : Nat) {m : Sg} {s n : Int} (hn : m 72 0 = n) : f38 (GC L) RC 72 s m = some (if 0 ≤ s ∧ s < n then 1 else 0) := by
  unfold f38
  rw [hn]
  by_cases c : s < 0
  · rw [if_pos c, if_neg (by omega)]
  · rw [if_neg c, if_pos (show gkb (GC L) 72 7 = true from rfl)]
    by_cases c2 : s < n
    · rw [if_pos c2, if_pos (by omega)]
    · rw [if_neg c2, if_neg (by omega)]
theorem f46_77 (L : Nat) {m : Sg} {p n : Int} (hn : m 77 0 = n) (h1 : 0 < n) (h2 : n ≤ 10) : f46 (GC L) RC 77 p m = some (p % n) := by
  unfold f46
  rw [hn, if_pos (show gkb (GC L) 77 7 = true from rfl), if_pos h1, if_pos (by omega)]
  exact around_s h1 h2
theorem f39_77 (L : Nat) {m : Sg} {d : Int} : (alw (m 77 3) d → f39 (GC L) RC 77 d m = some 1) ∧ (¬ alw (m 77 3) d → f39 (GC L) RC 77 d m = some 0) := by
  unfold f39 alw
  constructor
  · intro h
    rw [if_neg (by omega), if_neg (by omega), if_pos (show gkb (GC L) 77 7 = true from rfl), if_pos h.2.2]
  · intro h
    by_cases c1 : d < 1
    · rw [if_pos c1]
    · rw [if_neg c1]
      by_cases c2 : 5 < d
      · rw [if_pos c2]
      · rw [if_neg c2, if_pos (show gkb (GC L) 77 7 = true from rfl), if_neg (fun q => h ⟨by omega, by omega, q⟩)]
theorem f43_77 (L : Nat) {m : Sg} {s d n : Int} (hn : m 77 0 = n) (h1 : 0 < n) (h2 : n ≤ 10) (hs : 0 ≤ s ∧ s < 1000) (hd : 0 ≤ d ∧ d < 10) : f43 (GC L) RC 77 s d m = some (ou n (m 79) (m 81) s d) := by
  have b1 := emod_b (x := s + d) h1
  unfold f43 g_add
  rw [w32_i (by omega) (by omega), f46_77 L hn h1 h2]
  simp only [KG L, KR, RAx L, Option.bind_some, if_true]
  rw [ra_in b1.1 (by omega), ra_in b1.1 (by omega)]
  unfold ou
  split
  · rfl
  · split
    · rfl
    · split
      · rfl
      · split
        · rfl
        · split
          · split <;> rfl
          · rfl
theorem f44_77 (L : Nat) {m : Sg} {s d n : Int} (hn : m 77 0 = n) (h1 : 0 < n) (h2 : n ≤ 10) (hs : 0 ≤ s ∧ s < 1000) (hd : 0 ≤ d ∧ d < 10) (hN : ∀ i, 0 ≤ i → i < n → 0 ≤ m 81 i ∧ m 81 i < 1000) : f44 (GC L) RC 77 s d m = some (la n (m 79) (m 81) s d) := by
  have b1 := emod_b (x := s + d) h1
  have b2 := hN _ b1.1 b1.2
  unfold f44 g_add
  rw [w32_i (by omega) (by omega), f46_77 L hn h1 h2]
  simp only [KG L, KR, RAx L, Option.bind_some, if_true]
  rw [ra_in b1.1 (by omega), ra_in b1.1 (by omega)]
  unfold la g_sub
  rw [w32_i (by omega) (by omega), f46_77 L hn h1 h2]
  split <;> rfl
theorem f40_77 (L : Nat) {m : Sg} {s k v : Int} : f40 (GC L) RC 77 s k v m = some (rp 10 81 (rp 10 79 m s k) s v) := by
  unfold f40
  simp only [KG L, KR, RPx L, Option.bind_some, if_true]
theorem f38_77 (L : Nat) {m : Sg} {s n : Int} (hn : m 77 0 = n) : f38 (GC L) RC 77 s m = some (if 0 ≤ s ∧ s < n then 1 else 0) := by
  unfold f38
  rw [hn]
  by_cases c : s < 0
  · rw [if_pos c, if_neg (by omega)]
  · rw [if_neg c, if_pos (show gkb (GC L) 77 7 = true from rfl)]
    by_cases c2 : s < n
    · rw [if_pos c2, if_pos (by omega)]
    · rw [if_neg c2, if_neg (by omega)]
theorem f46_110 (L : Nat) {m : Sg} {p n : Int} (hn : m 110 0 = n) (h1 : 0 < n) (h2 : n ≤ 10) : f46 (GC L) RC 110 p m = some (p % n) := by
  unfold f46
  rw [hn, if_pos (show gkb (GC L) 110 7 = true from rfl), if_pos h1, if_pos (by omega)]
  exact around_s h1 h2
theorem f39_110 (L : Nat) {m : Sg} {d : Int} : (alw (m 110 3) d → f39 (GC L) RC 110 d m = some 1) ∧ (¬ alw (m 110 3) d → f39 (GC L) RC 110 d m = some 0) := by
  unfold f39 alw
  constructor
  · intro h
    rw [if_neg (by omega), if_neg (by omega), if_pos (show gkb (GC L) 110 7 = true from rfl), if_pos h.2.2]
  · intro h
    by_cases c1 : d < 1
    · rw [if_pos c1]
    · rw [if_neg c1]
      by_cases c2 : 5 < d
      · rw [if_pos c2]
      · rw [if_neg c2, if_pos (show gkb (GC L) 110 7 = true from rfl), if_neg (fun q => h ⟨by omega, by omega, q⟩)]
theorem f43_110 (L : Nat) {m : Sg} {s d n : Int} (hn : m 110 0 = n) (h1 : 0 < n) (h2 : n ≤ 10) (hs : 0 ≤ s ∧ s < 1000) (hd : 0 ≤ d ∧ d < 10) : f43 (GC L) RC 110 s d m = some (ou n (m 112) (m 114) s d) := by
  have b1 := emod_b (x := s + d) h1
  unfold f43 g_add
  rw [w32_i (by omega) (by omega), f46_110 L hn h1 h2]
  simp only [KG L, KR, RAx L, Option.bind_some, if_true]
  rw [ra_in b1.1 (by omega), ra_in b1.1 (by omega)]
  unfold ou
  split
  · rfl
  · split
    · rfl
    · split
      · rfl
      · split
        · rfl
        · split
          · split <;> rfl
          · rfl
theorem f44_110 (L : Nat) {m : Sg} {s d n : Int} (hn : m 110 0 = n) (h1 : 0 < n) (h2 : n ≤ 10) (hs : 0 ≤ s ∧ s < 1000) (hd : 0 ≤ d ∧ d < 10) (hN : ∀ i, 0 ≤ i → i < n → 0 ≤ m 114 i ∧ m 114 i < 1000) : f44 (GC L) RC 110 s d m = some (la n (m 112) (m 114) s d) := by
  have b1 := emod_b (x := s + d) h1
  have b2 := hN _ b1.1 b1.2
  unfold f44 g_add
  rw [w32_i (by omega) (by omega), f46_110 L hn h1 h2]
  simp only [KG L, KR, RAx L, Option.bind_some, if_true]
  rw [ra_in b1.1 (by omega), ra_in b1.1 (by omega)]
  unfold la g_sub
  rw [w32_i (by omega) (by omega), f46_110 L hn h1 h2]
  split <;> rfl
theorem f40_110 (L : Nat) {m : Sg} {s k v : Int} : f40 (GC L) RC 110 s k v m = some (rp 10 114 (rp 10 112 m s k) s v) := by
  unfold f40
  simp only [KG L, KR, RPx L, Option.bind_some, if_true]
theorem f38_110 (L : Nat) {m : Sg} {s n : Int} (hn : m 110 0 = n) : f38 (GC L) RC 110 s m = some (if 0 ≤ s ∧ s < n then 1 else 0) := by
  unfold f38
  rw [hn]
  by_cases c : s < 0
  · rw [if_pos c, if_neg (by omega)]
  · rw [if_neg c, if_pos (show gkb (GC L) 110 7 = true from rfl)]
    by_cases c2 : s < n
    · rw [if_pos c2, if_pos (by omega)]
    · rw [if_neg c2, if_neg (by omega)]
theorem f46_115 (L : Nat) {m : Sg} {p n : Int} (hn : m 115 0 = n) (h1 : 0 < n) (h2 : n ≤ 10) : f46 (GC L) RC 115 p m = some (p % n) := by
  unfold f46
  rw [hn, if_pos (show gkb (GC L) 115 7 = true from rfl), if_pos h1, if_pos (by omega)]
  exact around_s h1 h2
theorem f39_115 (L : Nat) {m : Sg} {d : Int} : (alw (m 115 3) d → f39 (GC L) RC 115 d m = some 1) ∧ (¬ alw (m 115 3) d → f39 (GC L) RC 115 d m = some 0) := by
  unfold f39 alw
  constructor
  · intro h
    rw [if_neg (by omega), if_neg (by omega), if_pos (show gkb (GC L) 115 7 = true from rfl), if_pos h.2.2]
  · intro h
    by_cases c1 : d < 1
    · rw [if_pos c1]
    · rw [if_neg c1]
      by_cases c2 : 5 < d
      · rw [if_pos c2]
      · rw [if_neg c2, if_pos (show gkb (GC L) 115 7 = true from rfl), if_neg (fun q => h ⟨by omega, by omega, q⟩)]
theorem f43_115 (L : Nat) {m : Sg} {s d n : Int} (hn : m 115 0 = n) (h1 : 0 < n) (h2 : n ≤ 10) (hs : 0 ≤ s ∧ s < 1000) (hd : 0 ≤ d ∧ d < 10) : f43 (GC L) RC 115 s d m = some (ou n (m 117) (m 119) s d) := by
  have b1 := emod_b (x := s + d) h1
  unfold f43 g_add
  rw [w32_i (by omega) (by omega), f46_115 L hn h1 h2]
  simp only [KG L, KR, RAx L, Option.bind_some, if_true]
  rw [ra_in b1.1 (by omega), ra_in b1.1 (by omega)]
  unfold ou
  split
  · rfl
  · split
    · rfl
    · split
      · rfl
      · split
        · rfl
        · split
          · split <;> rfl
          · rfl
theorem f44_115 (L : Nat) {m : Sg} {s d n : Int} (hn : m 115 0 = n) (h1 : 0 < n) (h2 : n ≤ 10) (hs : 0 ≤ s ∧ s < 1000) (hd : 0 ≤ d ∧ d < 10) (hN : ∀ i, 0 ≤ i → i < n → 0 ≤ m 119 i ∧ m 119 i < 1000) : f44 (GC L) RC 115 s d m = some (la n (m 117) (m 119) s d) := by
  have b1 := emod_b (x := s + d) h1
  have b2 := hN _ b1.1 b1.2
  unfold f44 g_add
  rw [w32_i (by omega) (by omega), f46_115 L hn h1 h2]
  simp only [KG L, KR, RAx L, Option.bind_some, if_true]
  rw [ra_in b1.1 (by omega), ra_in b1.1 (by omega)]
  unfold la g_sub
  rw [w32_i (by omega) (by omega), f46_115 L hn h1 h2]
  split <;> rfl
theorem f40_115 (L : Nat) {m : Sg} {s k v : Int} : f40 (GC L) RC 115 s k v m = some (rp 10 119 (rp 10 117 m s k) s v) := by
  unfold f40
  simp only [KG L, KR, RPx L, Option.bind_some, if_true]
theorem f38_115 (L : Nat) {m : Sg} {s n : Int} (hn : m 115 0 = n) : f38 (GC L) RC 115 s m = some (if 0 ≤ s ∧ s < n then 1 else 0) := by
  unfold f38
  rw [hn]
  by_cases c : s < 0
  · rw [if_pos c, if_neg (by omega)]
  · rw [if_neg c, if_pos (show gkb (GC L) 115 7 = true from rfl)]
    by_cases c2 : s < n
    · rw [if_pos c2, if_pos (by omega)]
    · rw [if_neg c2, if_neg (by omega)]
