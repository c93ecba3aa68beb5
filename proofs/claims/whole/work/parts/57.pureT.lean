/-! texts, as the reference reads them -/
def atB (sg : Nat → Nat) (len p lo hi : Nat) : Bool := decide (p < len ∧ lo ≤ sg p ∧ sg p ≤ hi)
theorem at_dg {sg : Nat → Nat} {len p hi : Nat} : atB sg len p 48 (48 + hi) = dgB sg len p hi := rfl
theorem at_sg {sg : Nat → Nat} {len p k : Nat} : atB sg len p k k = sgB sg len p k := by
  rw [atB, sgB, decide_eq_decide]
  exact ⟨fun h => ⟨h.1, by omega⟩, fun h => ⟨h.1, by omega, by omega⟩⟩
theorem at_t {sg : Nat → Nat} {len p lo hi : Nat} (h : atB sg len p lo hi = true) : p < len ∧ lo ≤ sg p ∧ sg p ≤ hi := of_decide_eq_true h
theorem inB_N {a lo hi : Nat} (ha : a < 2 ^ 31) (hl : lo < 2 ^ 31) (hh : hi < 2 ^ 31) : inB (nI a) (nI lo) (nI hi) = decide (lo ≤ a ∧ a ≤ hi) := by
  rw [inB]
  have e1 : (nI a < nI lo) ↔ a < lo := nI_ltI ha hl
  have e2 : (nI hi < nI a) ↔ hi < a := nI_ltI hh ha
  by_cases h1 : a < lo
  · rw [decide_eq_true (e1.mpr h1), decide_eq_false (show ¬ (lo ≤ a ∧ a ≤ hi) by omega)]; rfl
  · by_cases h2 : hi < a
    · rw [decide_eq_true (e2.mpr h2), decide_eq_false (show ¬ (lo ≤ a ∧ a ≤ hi) by omega)]; simp
    · rw [decide_eq_false (mt e1.mp h1), decide_eq_false (mt e2.mp h2), decide_eq_true (show lo ≤ a ∧ a ≤ hi by omega)]; rfl
def rtI (b : Bool) (q : Nat) : Int32 := if b then nI q else -1 - nI q
theorem rt_f {q : Nat} : rtI false q = -1 - nI q := rfl
theorem rt_t {q : Nat} : rtI true q = nI q := rfl
theorem rt_2 {q : Nat} : (-2 : Int32) - nI q = -1 - nI (q + 1) := by
  rw [← nI_add, Int32.sub_eq_add_neg, Int32.sub_eq_add_neg, Int32.neg_add, Int32.sub_eq_add_neg, Int32.add_comm (-nI q), ← Int32.add_assoc]; congr 1
theorem rt_3 {q : Nat} : (-3 : Int32) - nI q = -1 - nI (q + 2) := by
  rw [← nI_add, Int32.sub_eq_add_neg, Int32.sub_eq_add_neg, Int32.neg_add, Int32.sub_eq_add_neg, Int32.add_comm (-nI q), ← Int32.add_assoc]; congr 1
theorem rt_neg {q : Nat} (hq : q < 2 ^ 31) : ¬ 0 ≤ -1 - nI q := by
  rw [Int32.not_le, Int32.lt_iff_toInt_lt]
  have h1 : (-1 - nI q).toInt = -1 - (q : Int) := by
    rw [Int32.toInt_sub]
    have e : (nI q).toInt = (q : Int) := nI_toInt hq
    rw [e, show (-1 : Int32).toInt = -1 from by decide, Int.bmod_eq_of_le (by omega) (by omega)]
  rw [h1]
  show -1 - (q : Int) < 0
  omega
theorem rt_back {q : Nat} : (-1 : Int32) - (-1 - nI q) = nI q := by
  rw [Int32.sub_eq_add_neg, Int32.neg_sub, Int32.sub_eq_add_neg, Int32.add_comm (nI q), ← Int32.add_assoc]
  show (-1 : Int32) + - -1 + nI q = nI q
  rw [show (-1 : Int32) + - -1 = 0 from by decide, Int32.zero_add]
theorem rt_m1 {q : Nat} (hq : q < 2 ^ 31) : (rtI true q = -1) ↔ False := ⟨fun h => m1_nI hq h, False.elim⟩
theorem rkB_y {sg : Nat → Nat} {len p k : Nat} (hp : p < len) (h : sg p = k) (hk : isK k = true) : rkB sg len p = true := by
  rw [rkB, h, hk, decide_eq_true hp]; rfl
theorem rkB_n {sg : Nat → Nat} {len p : Nat} (h : ¬ p < len) : rkB sg len p = false := by
  rw [rkB, decide_eq_false h]; rfl
theorem am_n2 {sg : Nat → Nat} {len p acc : Nat} (h : atB sg len p (if acc = 0 then 49 else 48) 57 = false) : ¬ (dgB sg len p 9 = true ∧ 1 ≤ acc * 10 + (sg p - 48) ∧ acc * 10 + (sg p - 48) ≤ 1000) := fun q => by
  have a := dgB_i q.1
  have b := q.2.1
  have c : ¬ atB sg len p (if acc = 0 then 49 else 48) 57 = true := by rw [h]; decide
  refine c (decide_eq_true ⟨a.1, ?_, by omega⟩)
  split
  · rename_i z; subst z; omega
  · exact a.2.1
theorem fe_inv {sg : Nat → Nat} {len p : Nat} : ∀ {m : Nat}, feN sg len m p = none → (rcR sg len p).1 = true ∧ ((rcR sg len p).2 = len ∨ (sgB sg len (rcR sg len p).2 59 = true ∧ ∃ m2, feN sg len m2 ((rcR sg len p).2 + 1) = none))
  | 0, h => by cases h
  | m + 1, h => by
    rw [feN] at h
    cases h1 : (rcR sg len p).1 with
    | false => rw [if_pos h1] at h; cases h
    | true =>
      rw [if_neg (by rw [h1]; decide)] at h
      refine ⟨rfl, ?_⟩
      by_cases h2 : (rcR sg len p).2 = len
      · exact Or.inl h2
      · rw [if_neg h2] at h
        cases h3 : sgB sg len (rcR sg len p).2 59 with
        | false => rw [if_neg (by rw [h3]; decide)] at h; cases h
        | true => rw [if_pos h3] at h; exact Or.inr ⟨rfl, m, h⟩
theorem fe_none {sg : Nat → Nat} {len : Nat} (hlen : len ≤ 80) (h : oI (feN sg len 80 0) = -1) (hb : ∀ q, feN sg len 80 0 = some q → q ≤ 80) : feN sg len 80 0 = none := by
  cases he : feN sg len 80 0 with
  | none => rfl
  | some q => rw [he] at h; exact absurd h (m1_nI (by have := hb q he; omega))
theorem fe_bd {sg : Nat → Nat} {len : Nat} : ∀ m p q, p ≤ len → feN sg len m p = some q → q ≤ len
  | 0, p, q, hp, h => by cases h; exact hp
  | m + 1, p, q, hp, h => by
    have h1 := rc_le (sg := sg) hp
    rw [feN] at h
    split at h
    · cases h; exact h1.2.1
    · split at h
      · cases h
      · split at h
        · rename_i a b cc
          refine fe_bd m _ q ?_ h
          have : (rcR sg len p).2 < len := by omega
          omega
        · cases h; exact h1.2.1
theorem nx_s {sg : Nat → Nat} {len p : Nat} (h : sgB sg len (rcR sg len p).2 59 = true) : (if sgB sg len (rcR sg len p).2 59 = true then (rcR sg len p).2 + 1 else (rcR sg len p).2) = (rcR sg len p).2 + 1 := if_pos h
theorem nx_e {sg : Nat → Nat} {len p : Nat} (h : (rcR sg len p).2 = len) : (if sgB sg len (rcR sg len p).2 59 = true then (rcR sg len p).2 + 1 else (rcR sg len p).2) = len := by
  rw [if_neg (fun q => by rw [h, sgB] at q; have := (of_decide_eq_true q).1; omega), h]
theorem rc_am {sg : Nat → Nat} {len p : Nat} (h : (rcR sg len p).1 = true) (hk : sg p = 119) : 1 ≤ rcO sg len p ∧ rcO sg len p ≤ 1000 := by
  rw [rcO, if_pos hk]
  refine ⟨?_, am_op⟩
  have h1 : rkB sg len p = true := by
    cases q : rkB sg len p with
    | true => rfl
    | false => rw [rc_k0 q] at h; cases h
  have h2 : dgB sg len (p + 1) 7 = true := by
    cases q : dgB sg len (p + 1) 7 with
    | true => rfl
    | false => rw [rc_d0 h1 q] at h; cases h
  cases q : sgB sg len (p + 2) 44 with
  | false => rw [rc_w0 h1 h2 hk q] at h; cases h
  | true => rw [rc_w1 h1 h2 hk q] at h; have := of_decide_eq_true h; omega
theorem wc_B {F : FF} {t : Nat} (ht : t < 8) : wB F (nI t) = 0 ↔ alB F 98 t = true := by
  simp [wB, i8 ht, ix8 ht, alB]
theorem wc_A {F : FF} {t : Nat} (ht : t < 8) : wA F (nI t) = 0 ↔ alB F 97 t = true := by
  simp [wA, i8 ht, ix8 ht, alB]
theorem wc_C {F : FF} {t : Nat} (ht : t < 8) : wC F (nI t) = 0 ↔ alB F 99 t = true := by
  simp [wC, i8 ht, ix8 ht, alB]
theorem wc_D {F : FF} {t : Nat} (ht : t < 8) : wD F (nI t) = 0 ↔ alB F 107 t = true := by
  simp [wD, i8 ht, ix8 ht, alB]
theorem wc_R {F : FF} {t r : Nat} {m : Int32} {k : Nat} (hk : k = 115 ∨ k = 120) (ht : t < 8) (hr : r < 10) (hm : mdB m = true) : wR F (nI t) (nI r) m = 0 ↔ alB F k t = true := by
  rcases hk with e | e <;> simp [wR, i8 ht, ix8 ht, i10 hr, hm, alB, e]
theorem wc_W {F : FF} {t a : Nat} (ht : t < 8) (h1 : 1 ≤ a) (h2 : a ≤ 1000) : wW F (nI t) (nI a) = 0 ↔ alB F 119 t = true := by
  have : inB (nI a) (nI 1) (nI 1000) = true := by rw [inB_N (by omega) (by decide) (by decide)]; exact decide_eq_true ⟨h1, h2⟩
  simp [wW, i8 ht, ix8 ht, this, alB]
