/-! the reference's world -/
abbrev refW (cI : ClassId) (ad : Nat → Nat) (th sv ln vs rl cm fi se : Int32) (z zs sd tx ds rg : Nat → Int32) : va_W :=
  [(ad 0, .inr (5, [.int th, .ref (ad 1), .ref (ad 2), .ref (ad 3), .int sv, .ref (ad 4), .int ln, .int vs, .ref (ad 5), .ref (ad 6), .int rl, .int cm, .int fi, .int se])),
   (ad 1, .inl (cI, 221, .inl z)), (ad 2, .inl (cI, 221, .inl zs)), (ad 3, .inl (cI, 1768, .inl sd)), (ad 4, .inl (cI, 80, .inl tx)), (ad 5, .inl (cI, 8, .inl ds)), (ad 6, .inl (cI, 8, .inl rg))]
theorem adr_ref {cI : ClassId} {ad : Nat → Nat} {th sv ln vs rl cm fi se : Int32} {z zs sd tx ds rg : Nat → Int32} : (refW cI ad th sv ln vs rl cm fi se z zs sd tx ds rg).map Prod.fst = [ad 0, ad 1, ad 2, ad 3, ad 4, ad 5, ad 6] := rfl
def inB (x lo hi : Int32) : Bool := !decide (x < lo) && !decide (hi < x)
theorem tn_f {b : Bool} (h : b.toNat = 0) : b = false := by cases b; rfl; cases h
theorem tn_y {b : Bool} (h : ¬ b.toNat = 0) : b = true := by cases b; exact absurd rfl h; rfl
theorem inB_n {x : Int32} {n : Nat} (hn : n < 2 ^ 30) : inB x (nI 0) (nI n) = inI x (n + 1) := by
  rw [inB, nI_0]
  by_cases h0 : x < 0
  · rw [inI_no (Or.inl h0)]; simp [h0]
  · obtain ⟨j, hj, rfl⟩ := nI_of h0
    by_cases h : n < j
    · rw [inI_no (Or.inr (by rw [nI_clamp hj]; omega))]
      simp [(nI_ltI (a := n) (b := j) (by omega) hj).mpr h]
    · rw [inI_n (by omega) (by omega)]
      simp [h0, mt (nI_ltI (a := n) (b := j) (by omega) hj).mp h]
theorem inB_8 {x : Int32} : inB x (nI 0) (nI 7) = inI x 8 := inB_n (by decide)
theorem inB_10 {x : Int32} : inB x (nI 0) (nI 9) = inI x 10 := inB_n (by decide)
theorem inB_m {x : Int32} : inB x (nI 1) (nI 2) = mdB x := by
  rw [inB, mdB]
  by_cases h0 : x < nI 1
  · have h1 : ¬ x = nI 1 := fun e => by rw [e] at h0; exact absurd h0 (by decide)
    have h2 : ¬ x = nI 2 := fun e => by rw [e] at h0; exact absurd h0 (by decide)
    simp [h0, h1, h2]
  · have hp : ¬ x < 0 := fun q => h0 (Int32.lt_trans q (by decide))
    obtain ⟨j, hj, rfl⟩ := nI_of hp
    have hj1 : ¬ j < 1 := fun q => h0 ((nI_ltI hj (by decide)).mpr q)
    by_cases h : 2 < j
    · have h1 : ¬ nI j = nI 1 := fun e => by have := nI_inj hj (by decide) e; omega
      have h2 : ¬ nI j = nI 2 := fun e => by have := nI_inj hj (by decide) e; omega
      simp [(nI_ltI (a := 2) (b := j) (by decide) hj).mpr h, h1, h2]
    · have h3 : j = 1 ∨ j = 2 := by omega
      rcases h3 with e | e
      · subst e; decide
      · subst e; decide
/-- all below n are -/
def alN (p : Nat → Bool) : Nat → Bool
  | 0 => true
  | n + 1 => alN p n && p n
theorem alN_bits {p : Nat → Bool} : ∀ n, alN (fun u => !p u) n = (bits p n == 0)
  | 0 => rfl
  | n + 1 => by
    rw [alN, alN_bits n, bits]
    cases h : p n with
    | true => simp
    | false => simp
theorem nar_b (b : Bool) : narrow .boolean (.int (nI b.toNat)) = .int (nI b.toNat) := by cases b <;> rfl
