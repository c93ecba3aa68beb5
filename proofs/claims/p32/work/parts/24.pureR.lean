theorem le_not {x y : Int32} (h : x ≤ y) : ¬ y < x := Int32.not_lt.mpr h
theorem lt_of_nle {x y : Int32} (h : ¬ x ≤ y) : y < x := Int32.not_le.mp h
theorem opUndo_1 {s : ST} (h : s.2.2.1 = []) : opUndo s = (1, 0, s) := by rw [opUndo, h]
theorem opUndo_0 {s : ST} {q : FF × QQ} {HS : List (FF × QQ)} (h : s.2.2.1 = q :: HS) : opUndo s = (0, nI HS.length, (q.1, q.2, HS, s.2.2.2)) := by rw [opUndo, h]
theorem rc_ok {sg : Nat → Nat} {len p : Nat} (h : (rcR sg len p).1 = true) : isK (sg p) = true ∧ sg (p + 1) - 48 < 8 ∧ (sg p = 115 ∨ sg p = 120 → rcO sg len p < 10) ∧ p + 2 ≤ len := by
  unfold rcR at h
  by_cases h1 : rkB sg len p = false
  · rw [if_pos h1] at h; cases h
  · rw [if_neg h1] at h
    have hk := rkB_t (by simpa using h1)
    by_cases h2 : dgB sg len (p + 1) 7 = false
    · rw [if_pos h2] at h; cases h
    · rw [if_neg h2] at h
      have hd := dgB_i (by simpa using h2)
      refine ⟨hk.2, by omega, fun hk2 => ?_, by omega⟩
      rw [if_pos hk2] at h
      by_cases h3 : dgB sg len (p + 2) 9 = true
      · have hd2 := dgB_i h3
        rw [rcO, if_neg (by omega)]
        omega
      · rw [if_neg h3] at h; cases h
def ruI (sg : Nat → Nat) (len : Nat) (F1 : FF) (Q1 : QQ) (i p : Nat) (F : FF) (Q : QQ) : Prop := ruN sg len (80 - i) p F Q i = ruN sg len 80 0 F1 Q1 0
theorem ruI_0 {sg : Nat → Nat} {len : Nat} {F : FF} {Q : QQ} : ruI sg len F Q 0 0 F Q := rfl
theorem ruI_s {sg : Nat → Nat} {len i p : Nat} {F1 F : FF} {Q1 Q : QQ} (hi : i < 80) (h : ruI sg len F1 Q1 i p F Q) (h1 : (rcR sg len p).1 = true) (h2 : alB F (sg p) (sg (p + 1) - 48) = true) : ruI sg len F1 Q1 (i + 1) (if sgB sg len (rcR sg len p).2 59 = true then (rcR sg len p).2 + 1 else (rcR sg len p).2) (coF F Q (sg p) (sg (p + 1) - 48) (rcO sg len p)) (coQ F Q (sg p) (sg (p + 1) - 48) (rcO sg len p)) := by
  unfold ruI at h ⊢
  rw [← h, show 80 - i = (80 - (i + 1)) + 1 by omega, ruN, if_pos (show (rcR sg len p).1 = true ∧ alB F (sg p) (sg (p + 1) - 48) = true from ⟨h1, h2⟩)]
  rfl
theorem ruI_e {sg : Nat → Nat} {len i p : Nat} {F1 F : FF} {Q1 Q : QQ} (hc : i = 80 ∨ (rcR sg len p).1 = false ∨ alB F (sg p) (sg (p + 1) - 48) = false) (h : ruI sg len F1 Q1 i p F Q) : ruN sg len 80 0 F1 Q1 0 = (F, Q, i) := by
  unfold ruI at h
  rw [← h]
  rcases hc with q | q
  · subst q; rfl
  · cases hn : 80 - i with
    | zero => rfl
    | succ n => rw [ruN, if_neg (fun z => by rcases q with q | q <;> simp [q] at z)]
theorem nx_le {sg : Nat → Nat} {len p : Nat} (hp : p ≤ len) : (if sgB sg len (rcR sg len p).2 59 = true then (rcR sg len p).2 + 1 else (rcR sg len p).2) ≤ len := by
  have := rc_le (sg := sg) hp
  split
  · rename_i h
    have : (rcR sg len p).2 < len := by simp [sgB] at h; exact h.1
    omega
  · exact this.2.1
theorem qd_m {s : ST} {r : Nat} {i : Int32} (h : ¬ i < nI (qlen s.2.1 r)) : qdI s r i = -1 := by rw [qdI, if_pos (Int32.not_lt.mp h)]
theorem qd_y {s : ST} {r j : Nat} (hj : j < qlen s.2.1 r) (h8 : qlen s.2.1 r ≤ 8) : qdI s r (nI j) = nI (10 * (s.2.1 r).getD j 0) + s.1 4 ((s.2.1 r).getD j 0) := by
  rw [qdI, if_neg (fun q => by have := (nI_leI (by omega) (by omega)).mp q; omega), ix_nI (by omega)]
