/-! THE LAW'S RUN -/
theorem run_law {L : Nat} {xs : Nat → Int32} (hL : L ≤ 3073) : ∃ (n : Nat) (h' : Mh), ex (mtI MM) (mtL MM) n 100 236 0 (ent 4 [(4, 0)]) [] (hS0 L xs) (some (0, 1), h') ∧ h'.1.length ≤ 1000 ∧ sl h'.1 ≤ 1000000 := by
  have hin : ∀ i, in32 ((hS0 L xs).2.2 0 i) := fun i => by
    show in32 (if _ then _ else _)
    split
    · exact t32_in _
    · exact in32_0
  have hz : ∀ a, 1 ≤ a → (hS0 L xs).2.2 a = fun _ => 0 := fun a ha => funext fun i => if_neg (fun q => by have := q.1; omega)
  obtain ⟨n, m, e, hR, h0⟩ := start_s (L := L) (hS0 L xs).2.2 hz hin
  obtain ⟨q, e2, m', rfl⟩ := law_l L hR hL (fun j => by rw [h0]; exact hin j)
  obtain ⟨k, hk⟩ := tf236 (d := 100) (h := hS0 L xs) (x := (1, GC L, RC, m')) ((show f236 (hS0 L xs) = _ from e).trans e2) (by decide)
  refine ⟨k, (GC L, RC, m'), hk, show (145 : Nat) ≤ 1000 by decide, ?_⟩
  simp only [sl, GC, List.map_cons, List.map_nil, List.sum_cons, List.sum_nil]
  omega
