/-! texts -/
abbrev txtW (cI : ClassId) (t : Nat → Nat) (sg : Nat → Nat) (len pos : Nat) (kd tr op : Int32) : va_W := [(t 0, .inr (0, [.ref (t 1), .int (nI len), .int (nI pos), .int kd, .int tr, .int op])), (t 1, .inl (cI, 80, .inl (fun z => nI (sg z))))]
theorem adr_txt {cI : ClassId} {t sg : Nat → Nat} {len pos : Nat} {kd tr op : Int32} : (txtW cI t sg len pos kd tr op).map Prod.fst = [t 0, t 1] := rfl
def shI (sg : Nat → Nat) (len p : Nat) : Int32 := if p < len then nI (sg p) else -1
theorem sh_lt {sg : Nat → Nat} {len p : Nat} (h : p < len) : shI sg len p = nI (sg p) := if_pos h
theorem sh_ge {sg : Nat → Nat} {len p : Nat} (h : ¬ p < len) : shI sg len p = -1 := if_neg h
def isK (k : Nat) : Bool := k == 97 || k == 98 || k == 99 || k == 107 || k == 115 || k == 119 || k == 120
def rkB (sg : Nat → Nat) (len p : Nat) : Bool := decide (p < len) && isK (sg p)
def dgB (sg : Nat → Nat) (len p hi : Nat) : Bool := decide (p < len ∧ 48 ≤ sg p ∧ sg p ≤ 48 + hi)
def sgB (sg : Nat → Nat) (len p k : Nat) : Bool := decide (p < len ∧ sg p = k)
def amN (sg : Nat → Nat) (len : Nat) : Nat → Nat → Nat → Nat × Nat
  | 0, p, acc => (p, acc)
  | n + 1, p, acc => if dgB sg len p 9 = true ∧ 1 ≤ acc * 10 + (sg p - 48) ∧ acc * 10 + (sg p - 48) ≤ 1000 then amN sg len n (p + 1) (acc * 10 + (sg p - 48)) else (p, acc)
def rcR (sg : Nat → Nat) (len p : Nat) : Bool × Nat :=
  if rkB sg len p = false then (false, p) else
  if dgB sg len (p + 1) 7 = false then (false, p + 1) else
  if sg p = 115 ∨ sg p = 120 then (if dgB sg len (p + 2) 9 then (true, p + 3) else (false, p + 2)) else
  if sg p = 119 then (if sgB sg len (p + 2) 44 then (decide (0 < (amN sg len 4 (p + 3) 0).2), (amN sg len 4 (p + 3) 0).1) else (false, p + 2)) else (true, p + 2)
def rcO (sg : Nat → Nat) (len p : Nat) : Nat := if sg p = 119 then (amN sg len 4 (p + 3) 0).2 else sg (p + 2) - 48
def feN (sg : Nat → Nat) (len : Nat) : Nat → Nat → Option Nat
  | 0, p => some p
  | n + 1, p => if (rcR sg len p).1 = false then some (rcR sg len p).2 else if (rcR sg len p).2 = len then none else if sgB sg len (rcR sg len p).2 59 then feN sg len n ((rcR sg len p).2 + 1) else some (rcR sg len p).2
def oI (o : Option Nat) : Int32 := match o with | none => -1 | some q => nI q
theorem dg_nn {sg : Nat → Nat} {len p : Nat} (hs : sg p < 128) (h : ¬ shI sg len p - nI 48 < 0) : p < len ∧ 48 ≤ sg p := by
  by_cases hp : p < len
  · refine ⟨hp, ?_⟩
    rw [sh_lt hp] at h
    rcases Nat.lt_or_ge (sg p) 48 with q | q
    · exact absurd (pk_sneg (by decide) q) h
    · exact q
  · rw [sh_ge hp] at h
    exact absurd (by decide) h
theorem dg_neg {sg : Nat → Nat} {len p : Nat} (hs : sg p < 128) (h : shI sg len p - nI 48 < 0) : ¬ (p < len ∧ 48 ≤ sg p) := by
  rintro ⟨hp, h48⟩
  rw [sh_lt hp, pk_sub h48] at h
  exact nI_pos (by omega) h
theorem dg_val {sg : Nat → Nat} {len p : Nat} (hp : p < len) (h48 : 48 ≤ sg p) : shI sg len p - nI 48 = nI (sg p - 48) := by rw [sh_lt hp, pk_sub h48]
theorem dgB_t {sg : Nat → Nat} {len p hi : Nat} (hp : p < len) (h48 : 48 ≤ sg p) (h : sg p - 48 ≤ hi) : dgB sg len p hi = true := by
  unfold dgB; rw [decide_eq_true_eq]; omega
theorem dgB_f {sg : Nat → Nat} {len p hi : Nat} (h : ¬ (p < len ∧ 48 ≤ sg p) ∨ ¬ sg p - 48 ≤ hi) : dgB sg len p hi = false := by
  unfold dgB; rw [decide_eq_false_iff_not]; omega
theorem dgB_i {sg : Nat → Nat} {len p hi : Nat} (h : dgB sg len p hi = true) : p < len ∧ 48 ≤ sg p ∧ sg p ≤ 48 + hi := by
  unfold dgB at h; simpa using h
theorem sgB_t {sg : Nat → Nat} {len p k : Nat} (hs : sg p < 128) (hk : k < 128) (h : shI sg len p = nI k) : sgB sg len p k = true := by
  by_cases hp : p < len
  · rw [sh_lt hp] at h
    have := nI_inj (by omega) (by omega) h
    simp [sgB, hp, this]
  · rw [sh_ge hp] at h
    exact absurd h.symm (m1_nI (by omega))
theorem sgB_f {sg : Nat → Nat} {len p k : Nat} (h : ¬ shI sg len p = nI k) : sgB sg len p k = false := by
  unfold sgB; rw [decide_eq_false_iff_not]
  rintro ⟨hp, e⟩
  rw [sh_lt hp, e] at h
  exact h rfl
theorem isK_or {k : Nat} (h : isK k = true) : k = 97 ∨ k = 98 ∨ k = 99 ∨ k = 107 ∨ k = 115 ∨ k = 119 ∨ k = 120 := by
  simp [isK] at h; omega
theorem am_0 {sg : Nat → Nat} {len p acc : Nat} : amN sg len 0 p acc = (p, acc) := rfl
def amI (sg : Nat → Nat) (len p0 k p acc : Nat) : Prop := amN sg len (4 - k) p acc = amN sg len 4 p0 0
theorem amI_0 {sg : Nat → Nat} {len p : Nat} : amI sg len p 0 p 0 := rfl
theorem amI_s {sg : Nat → Nat} {len p0 k p acc : Nat} (hk : k < 4) (h : dgB sg len p 9 = true ∧ 1 ≤ acc * 10 + (sg p - 48) ∧ acc * 10 + (sg p - 48) ≤ 1000) (hI : amI sg len p0 k p acc) : amI sg len p0 (k + 1) (p + 1) (acc * 10 + (sg p - 48)) := by
  unfold amI at hI ⊢
  rw [← hI, show 4 - k = (4 - (k + 1)) + 1 by omega, amN, if_pos h]
theorem amI_e {sg : Nat → Nat} {len p0 k p acc : Nat} (h : k = 4 ∨ ¬ (dgB sg len p 9 = true ∧ 1 ≤ acc * 10 + (sg p - 48) ∧ acc * 10 + (sg p - 48) ≤ 1000)) (hI : amI sg len p0 k p acc) : p = (amN sg len 4 p0 0).1 ∧ acc = (amN sg len 4 p0 0).2 := by
  unfold amI at hI
  have e : amN sg len (4 - k) p acc = (p, acc) := by
    rcases h with h | h
    · subst h; rfl
    · cases hn : 4 - k with
      | zero => rfl
      | succ n => rw [amN, if_neg h]
  rw [← hI, e]; exact ⟨rfl, rfl⟩
theorem am_le {sg : Nat → Nat} {len : Nat} : ∀ n p acc, p ≤ (amN sg len n p acc).1 ∧ (amN sg len n p acc).1 ≤ max p len ∧ ((amN sg len n p acc).2 ≤ 1000 ∨ (amN sg len n p acc).2 = acc)
  | 0, p, acc => ⟨Nat.le_refl _, Nat.le_max_left _ _, Or.inr rfl⟩
  | n + 1, p, acc => by
    rw [amN]; split
    · rename_i h
      obtain ⟨h1, h2, h3⟩ := am_le (sg := sg) (len := len) n (p + 1) (acc * 10 + (sg p - 48))
      have hp := (dgB_i h.1).1
      refine ⟨by omega, by omega, ?_⟩
      rcases h3 with h3 | h3
      · exact Or.inl h3
      · exact Or.inl (by omega)
    · exact ⟨Nat.le_refl _, Nat.le_max_left _ _, Or.inr rfl⟩
theorem am_op {sg : Nat → Nat} {len p : Nat} : (amN sg len 4 p 0).2 ≤ 1000 := by
  rcases (am_le (sg := sg) (len := len) 4 p 0).2.2 with h | h <;> omega
theorem rc_le {sg : Nat → Nat} {len p : Nat} (hp : p ≤ len) : p ≤ (rcR sg len p).2 ∧ (rcR sg len p).2 ≤ len ∧ ((rcR sg len p).1 = true → p + 2 ≤ (rcR sg len p).2) := by
  unfold rcR
  by_cases h1 : rkB sg len p = false
  · rw [if_pos h1]; exact ⟨Nat.le_refl _, hp, fun h => by cases h⟩
  · rw [if_neg h1]
    have a1 : p < len := by simp [rkB] at h1; exact h1.1
    by_cases h2 : dgB sg len (p + 1) 7 = false
    · rw [if_pos h2]; exact ⟨by show p ≤ p + 1; omega, a1, fun h => by cases h⟩
    · rw [if_neg h2]
      have a2 := (dgB_i (by simpa using h2)).1
      split
      · split
        · rename_i h3; have a3 := (dgB_i h3).1
          exact ⟨by show p ≤ p + 3; omega, a3, fun _ => by show p + 2 ≤ p + 3; omega⟩
        · exact ⟨by show p ≤ p + 2; omega, a2, fun h => by cases h⟩
      · split
        · split
          · rename_i h3
            have a3 : p + 2 < len := by simp [sgB] at h3; exact h3.1
            have := am_le (sg := sg) (len := len) 4 (p + 3) 0
            exact ⟨by show p ≤ (amN sg len 4 (p + 3) 0).1; omega, by show (amN sg len 4 (p + 3) 0).1 ≤ len; omega, fun _ => by show p + 2 ≤ (amN sg len 4 (p + 3) 0).1; omega⟩
          · exact ⟨by show p ≤ p + 2; omega, a2, fun h => by cases h⟩
        · exact ⟨by show p ≤ p + 2; omega, a2, fun _ => Nat.le_refl _⟩
def feI (sg : Nat → Nat) (len k p : Nat) : Prop := feN sg len (80 - k) p = feN sg len 80 0
theorem feI_0 {sg : Nat → Nat} {len : Nat} : feI sg len 0 0 := rfl
theorem fe_e0 {sg : Nat → Nat} {len p : Nat} (h : feI sg len 80 p) : feN sg len 80 0 = some p := by
  unfold feI at h; exact h.symm
theorem fe_e1 {sg : Nat → Nat} {len k p : Nat} (hk : k < 80) (h : feI sg len k p) (h1 : (rcR sg len p).1 = false) : feN sg len 80 0 = some (rcR sg len p).2 := by
  unfold feI at h
  rw [← h, show 80 - k = (80 - (k + 1)) + 1 by omega, feN, if_pos h1]
theorem fe_e2 {sg : Nat → Nat} {len k p : Nat} (hk : k < 80) (h : feI sg len k p) (h1 : (rcR sg len p).1 = true) (h2 : (rcR sg len p).2 = len) : feN sg len 80 0 = none := by
  unfold feI at h
  rw [← h, show 80 - k = (80 - (k + 1)) + 1 by omega, feN, if_neg (by simp [h1]), if_pos h2]
theorem fe_e3 {sg : Nat → Nat} {len k p : Nat} (hk : k < 80) (h : feI sg len k p) (h1 : (rcR sg len p).1 = true) (h2 : ¬ (rcR sg len p).2 = len) (h3 : sgB sg len (rcR sg len p).2 59 = false) : feN sg len 80 0 = some (rcR sg len p).2 := by
  unfold feI at h
  rw [← h, show 80 - k = (80 - (k + 1)) + 1 by omega, feN, if_neg (by simp [h1]), if_neg h2, if_neg (by simp [h3])]
theorem fe_s {sg : Nat → Nat} {len k p : Nat} (hk : k < 80) (h : feI sg len k p) (h1 : (rcR sg len p).1 = true) (h2 : ¬ (rcR sg len p).2 = len) (h3 : sgB sg len (rcR sg len p).2 59 = true) : feI sg len (k + 1) ((rcR sg len p).2 + 1) := by
  unfold feI at h ⊢
  rw [← h, show 80 - k = (80 - (k + 1)) + 1 by omega, feN, if_neg (by simp [h1]), if_neg h2, if_pos h3]
theorem tn_b {b : Bool} (h : b.toNat = 0) : b = false := by cases b <;> simp_all
theorem tn_t {b : Bool} (h : ¬ b.toNat = 0) : b = true := by cases b <;> simp_all
/-- what a command that was read holds -/
def rcP (sg : Nat → Nat) (len p : Nat) (u : Int32 × Int32 × Int32) : Prop :=
  (rcR sg len p).1 = true → u.1 = nI (sg p) ∧ u.2.1 = nI (sg (p + 1) - 48) ∧ ((sg p = 115 ∨ sg p = 119 ∨ sg p = 120) → u.2.2 = nI (rcO sg len p))
theorem dgv_t {b : Bool} {x : Nat} (h : ¬ (if b = true then nI x else (-1 : Int32)) = -1) : b = true := by
  cases b with
  | true => rfl
  | false => exact absurd (if_neg (by decide)) h
theorem dgv_f {b : Bool} {x : Nat} (hx : x < 2 ^ 31) (h : (if b = true then nI x else (-1 : Int32)) = -1) : b = false := by
  cases b with
  | false => rfl
  | true => rw [if_pos rfl] at h; exact absurd h (m1_nI hx)
theorem rkB_t {sg : Nat → Nat} {len p : Nat} (h : rkB sg len p = true) : p < len ∧ isK (sg p) = true := by
  simpa [rkB] using h
theorem rc_k0 {sg : Nat → Nat} {len p : Nat} (h : rkB sg len p = false) : rcR sg len p = (false, p) := by rw [rcR, if_pos h]
theorem rc_d0 {sg : Nat → Nat} {len p : Nat} (h : rkB sg len p = true) (h2 : dgB sg len (p + 1) 7 = false) : rcR sg len p = (false, p + 1) := by rw [rcR, if_neg (by simp [h]), if_pos h2]
theorem rc_o {sg : Nat → Nat} {len p : Nat} (h : rkB sg len p = true) (h2 : dgB sg len (p + 1) 7 = true) (h3 : ¬ (sg p = 115 ∨ sg p = 120)) (h4 : ¬ sg p = 119) : rcR sg len p = (true, p + 2) := by
  rw [rcR, if_neg (by simp [h]), if_neg (by simp [h2]), if_neg h3, if_neg h4]
theorem rc_s0 {sg : Nat → Nat} {len p : Nat} (h : rkB sg len p = true) (h2 : dgB sg len (p + 1) 7 = true) (h3 : sg p = 115 ∨ sg p = 120) (h4 : dgB sg len (p + 2) 9 = false) : rcR sg len p = (false, p + 2) := by
  rw [rcR, if_neg (by simp [h]), if_neg (by simp [h2]), if_pos h3, if_neg (by simp [h4])]
theorem rc_s1 {sg : Nat → Nat} {len p : Nat} (h : rkB sg len p = true) (h2 : dgB sg len (p + 1) 7 = true) (h3 : sg p = 115 ∨ sg p = 120) (h4 : dgB sg len (p + 2) 9 = true) : rcR sg len p = (true, p + 3) := by
  rw [rcR, if_neg (by simp [h]), if_neg (by simp [h2]), if_pos h3, if_pos h4]
theorem rc_w0 {sg : Nat → Nat} {len p : Nat} (h : rkB sg len p = true) (h2 : dgB sg len (p + 1) 7 = true) (h3 : sg p = 119) (h4 : sgB sg len (p + 2) 44 = false) : rcR sg len p = (false, p + 2) := by
  rw [rcR, if_neg (by simp [h]), if_neg (by simp [h2]), if_neg (by omega), if_pos h3, if_neg (by simp [h4])]
theorem rc_w1 {sg : Nat → Nat} {len p : Nat} (h : rkB sg len p = true) (h2 : dgB sg len (p + 1) 7 = true) (h3 : sg p = 119) (h4 : sgB sg len (p + 2) 44 = true) : rcR sg len p = (decide (0 < (amN sg len 4 (p + 3) 0).2), (amN sg len 4 (p + 3) 0).1) := by
  rw [rcR, if_neg (by simp [h]), if_neg (by simp [h2]), if_neg (by omega), if_pos h3, if_pos h4]
theorem am_c {sg : Nat → Nat} {len p acc : Nat} (hp : p < len) (h48 : 48 ≤ sg p) (h9 : sg p - 48 ≤ 9) (h1 : 1 ≤ acc * 10 + (sg p - 48)) (h2 : acc * 10 + (sg p - 48) ≤ 1000) : dgB sg len p 9 = true ∧ 1 ≤ acc * 10 + (sg p - 48) ∧ acc * 10 + (sg p - 48) ≤ 1000 := ⟨dgB_t hp h48 h9, h1, h2⟩
theorem am_n {sg : Nat → Nat} {len p acc : Nat} (h : ¬ (p < len ∧ 48 ≤ sg p) ∨ ¬ sg p - 48 ≤ 9 ∨ ¬ 1 ≤ acc * 10 + (sg p - 48) ∨ ¬ acc * 10 + (sg p - 48) ≤ 1000) : ¬ (dgB sg len p 9 = true ∧ 1 ≤ acc * 10 + (sg p - 48) ∧ acc * 10 + (sg p - 48) ≤ 1000) := by
  rintro ⟨h1, h2, h3⟩
  have := dgB_i h1
  omega
