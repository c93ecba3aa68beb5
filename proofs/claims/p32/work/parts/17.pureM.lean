theorem inI_no {x : Int32} {n : Nat} (h : x < 0 ∨ n ≤ x.toNatClampNeg) : inI x n = false := decide_eq_false (fun q => q h)
theorem ge_nI {x : Int32} {n : Nat} (hn : n < 2 ^ 31) (h : ¬ x < nI n) : n ≤ x.toNatClampNeg := by
  rcases Nat.lt_or_ge x.toNatClampNeg n with q | q
  · exfalso
    by_cases h0 : x < 0
    · have h1 : (0 : Int32) ≤ nI n := nI_pos' hn
      exact h (Int32.lt_of_lt_of_le h0 h1)
    · obtain ⟨j, hj, rfl⟩ := nI_of h0
      rw [nI_clamp hj] at q
      exact h ((nI_ltI hj hn).mpr q)
  · exact q
theorem inI_no8 {x : Int32} (h : x < 0 ∨ ¬ x < nI 8) : inI x 8 = false := inI_no (h.elim Or.inl (fun q => Or.inr (ge_nI (by decide) q)))
theorem inI_no10 {x : Int32} (h : x < 0 ∨ ¬ x < nI 10) : inI x 10 = false := inI_no (h.elim Or.inl (fun q => Or.inr (ge_nI (by decide) q)))
theorem inI_ofN {x : Int32} {n : Nat} (hn : n < 2 ^ 31) (h0 : ¬ x < 0) (h : x < nI n) : inI x n = true := by
  obtain ⟨j, hj, rfl⟩ := nI_of h0
  exact inI_n ((nI_ltI hj hn).mp h) hn
theorem inI_of {x : Int32} (h0 : ¬ x < 0) (h : x < nI 8) : inI x 8 = true := inI_ofN (by decide) h0 h
theorem inI_of10 {x : Int32} (h0 : ¬ x < 0) (h : x < nI 10) : inI x 10 = true := inI_ofN (by decide) h0 h
theorem md_no {x : Int32} (h1 : ¬ x = nI 1) (h2 : ¬ x = nI 2) : mdB x = false := by simp [mdB, h1, h2]
theorem md_y {x : Int32} (h : x = nI 1 ∨ x = nI 2) : mdB x = true := by
  rcases h with h | h <;> simp [mdB, h]
theorem md_i {x : Int32} (h : mdB x = true) : x = nI 1 ∨ x = nI 2 := by simpa [mdB] using h
