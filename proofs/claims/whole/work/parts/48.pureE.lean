theorem bI_nn {n : Nat} (h : n ≤ 8) : 0 ≤ bI n ↔ ¬ n = 8 := by
  rw [← Int32.not_lt, bI_neg h]
theorem bI_lt {a b : Nat} (ha : a < 8) (hb : b < 8) : bI a < bI b ↔ a < b := by
  rw [bI_some (by omega), bI_some (by omega), nI_ltI (by omega) (by omega)]
theorem iinc_s {c : Nat} : nI c + Int32.ofInt (-1) = nI c - nI 1 := by
  rw [Int32.sub_eq_add_neg]; congr 1
theorem nrU_le {D : Nat → Nat} {p : Nat → Bool} {n : Nat} (hn : n ≤ 8) : nrU D p n ≤ 8 := by
  rcases nrU_ch (D := D) (p := p) hn with q | q <;> omega
theorem nrU_D {D : Nat → Nat} {p : Nat → Bool} {n : Nat} (hn : n ≤ 8) (h : ¬ nrU D p n = 8) : nrU D p n < 8 ∧ D (nrU D p n) < 8 := by
  rcases nrU_ch (D := D) (p := p) hn with q | q
  · exact absurd q.1 h
  · exact ⟨q.2.1, q.2.2.2.1⟩
theorem nrU_y {D : Nat → Nat} {p : Nat → Bool} {n c : Nat} (hc : n + (c + 1) = 8) (hp : p c = true) (hD : D c < 8) (h : nrU D p n = 8 ∨ D c ≤ D (nrU D p n)) : nI c = bI (nrU D p (n + 1)) := by
  have e : 7 - n = c := by omega
  rw [nrU, e, if_pos ⟨hp, hD, h⟩, bI_some (by omega)]
theorem nrU_n {D : Nat → Nat} {p : Nat → Bool} {n c : Nat} (hc : n + (c + 1) = 8) (h : ¬ (p c = true ∧ D c < 8 ∧ (nrU D p n = 8 ∨ D c ≤ D (nrU D p n)))) : nrU D p (n + 1) = nrU D p n := by
  have e : 7 - n = c := by omega
  rw [nrU, e, if_neg h]
theorem ndU_y {p : Nat → Bool} {n c x : Nat} (hc : n + (c + 1) = 8) (h : p c = true) : c = ndU p x (n + 1) := by
  have e : 7 - n = c := by omega
  rw [ndU, e, if_pos h]
theorem ndU_n {p : Nat → Bool} {n c x : Nat} (hc : n + (c + 1) = 8) (h : ¬ p c = true) : ndU p x n = ndU p x (n + 1) := by
  have e : 7 - n = c := by omega
  rw [ndU, e, if_neg h]
theorem ndU_le {p : Nat → Bool} {x : Nat} (hx : x < 8) : ∀ {n : Nat}, n ≤ 8 → ndU p x n < 8
  | 0, _ => hx
  | n + 1, h => by
    rw [ndU]; split
    · omega
    · exact ndU_le hx (by omega)
theorem aWS_tb {F : FF} {Q : QQ} {t i : Nat} (hi : i < 8) : (aWS F Q t).testBit i = awB F Q t i := by rw [aWS, bits_tb]; simp [hi]
theorem rg_s {m x a : Nat} {rr : Nat → Nat} {R : Nat} (hS : ∀ v, (R ||| 2 ^ a).testBit v = true ↔ ∃ j, j < m ∧ rr j = v) : ∀ v, ((R ||| 2 ^ a) ||| 2 ^ x).testBit v = true ↔ ∃ j, j < m + 1 ∧ va_up rr m x j = v := fun v => by
  rw [Nat.testBit_or, Bool.or_eq_true, hS v, Nat.testBit_two_pow]
  refine ⟨fun h => ?_, fun ⟨j, hj, h⟩ => ?_⟩
  · rcases h with ⟨j, hj, h⟩ | h
    · exact ⟨j, by omega, by rw [va_up, if_neg (by omega)]; exact h⟩
    · exact ⟨m, by omega, by rw [va_up, if_pos rfl]; exact of_decide_eq_true h⟩
  · by_cases e : j = m
    · rw [va_up, if_pos e] at h; exact Or.inr (decide_eq_true h)
    · rw [va_up, if_neg e] at h; exact Or.inl ⟨j, by omega, h⟩
theorem rr_s {m x : Nat} {rr : Nat → Nat} {y : Nat → Int32} (hx : x < 8) (h : ∀ j, j < m → y j = nI (rr j) ∧ rr j < 8) : ∀ j, j < m + 1 → upd y m (nI x) j = nI (va_up rr m x j) ∧ va_up rr m x j < 8 := fun j hj => by
  by_cases e : j = m
  · rw [e, pk_us, va_up, if_pos rfl]; exact ⟨rfl, hx⟩
  · rw [pk_un e, va_up, if_neg e]; exact h j (by omega)
theorem rg_0 {t : Nat} : ∀ v, (0 ||| 2 ^ t).testBit v = true ↔ ∃ j, j < 1 ∧ (fun _ : Nat => t) j = v := fun v => by
  rw [Nat.zero_or, Nat.testBit_two_pow]
  exact ⟨fun h => ⟨0, by decide, of_decide_eq_true h⟩, fun ⟨j, _, h⟩ => decide_eq_true h⟩
theorem or_ne {R a : Nat} : ¬ R ||| 2 ^ a = 0 := fun h => by
  have := congrArg (fun x => x.testBit a) h
  simp [Nat.testBit_or, Nat.testBit_two_pow] at this
abbrev SRn (F : FF) (Q : QQ) (t : Nat) : Nat := srL (aWS F Q) (dst F Q t 7) t 8 0 t
/-- the ring, as the reference keeps it -/
def RG (F : FF) (Q : QQ) (t : Nat) (y : Nat → Int32) (m : Nat) (rr : Nat → Nat) : Prop :=
  m ≤ 8 ∧ (∀ j, j < m → y j = nI (rr j) ∧ rr j < 8) ∧ (¬ SRn F Q t = 0 → ∀ v, (SRn F Q t).testBit v = true ↔ ∃ j, j < m ∧ rr j = v)
