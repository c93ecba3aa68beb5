/-! who waits for whom -/
theorem st_w {F : FF} {Q : QQ} {t : Nat} (hJ : JJ F Q) (ht : t < 8) : stI F t = nI 2 ↔ ¬ F 3 t = -1 := by
  rw [st_2]
  exact ⟨fun h => h.2, fun h => ⟨fun q => h (hJ.2.2.2.1 t ht q), h⟩⟩
theorem JJ_in {F : FF} {Q : QQ} {t r : Nat} (hJ : JJ F Q) (ht : t < 8) (hr : r < 10) (h3 : F 3 t = nI r) : t ∈ Q r := by
  rcases hJ.2.2.1 t ht with h | ⟨x, hx, h, hm⟩
  · rw [h3] at h; exact absurd h (m1_nI (by omega))
  · rw [h3] at h
    rw [nI_inj (by omega) (by omega) h]; exact hm
theorem JJ_nin1 {F : FF} {Q : QQ} {t r : Nat} (hJ : JJ F Q) (ht : t < 8) (hr : r < 10) (h : ¬ stI F t = nI 2) : ¬ t ∈ Q r := fun hm => by
  have := (hJ.2.1 r hr t hm).2
  exact h ((st_w hJ ht).mpr (by rw [this]; exact m1_nI (by omega)))
theorem JJ_nin2 {F : FF} {Q : QQ} {t r : Nat} (hJ : JJ F Q) (hr : r < 10) (h : ¬ F 3 t = nI r) : ¬ t ∈ Q r := fun hm => h (hJ.2.1 r hr t hm).2
theorem tw_mem {t u : Nat} : ∀ {l : List Nat}, t ∈ l → (u ∈ l.takeWhile (fun x => decide (x ≠ t)) ↔ u ∈ l ∧ l.idxOf u < l.idxOf t)
  | [], h => by cases h
  | x :: l, h => by
    by_cases hx : x = t
    · subst hx
      rw [List.takeWhile_cons_of_neg (by simp), List.idxOf_cons_self]
      simp
    · have hm : t ∈ l := by
        rcases List.mem_cons.mp h with q | q
        · exact absurd q.symm hx
        · exact q
      rw [List.takeWhile_cons_of_pos (by simpa using hx), ix_ne hx]
      by_cases hu : x = u
      · subst hu
        rw [List.idxOf_cons_self]; simp
      · rw [ix_ne hu, List.mem_cons, List.mem_cons, tw_mem hm]
        have : ¬ u = x := fun e => hu e.symm
        simp [this]
theorem awB_eq {F : FF} {Q : QQ} {t r u : Nat} (h : ¬ F 3 t = -1) (hw : wr F t = r) : awB F Q t u = (rivB F t r (F 4 t) u || ahB F Q t r u) := by
  simp [awB, h, hw]
theorem ahB_in {F : FF} {Q : QQ} {t r u : Nat} (hm : t ∈ Q r) : ahB F Q t r u = (decide (u ∈ Q r ∧ (Q r).idxOf u < (Q r).idxOf t) && (F 4 t == nI 2 || F 4 u == nI 2)) := by
  rw [ahB, decide_eq_decide.mpr (tw_mem hm)]
theorem awB_n {F : FF} {Q : QQ} {t u : Nat} (hJ : JJ F Q) (ht : t < 8) (h : ¬ stI F t = nI 2) : awB F Q t u = false := by
  have : F 3 t = -1 := Decidable.byContradiction (fun q => h ((st_w hJ ht).mpr q))
  simp [awB, this]
theorem awB_self {F : FF} {Q : QQ} {t : Nat} (hJ : JJ F Q) (ht : t < 8) : awB F Q t t = false := by
  by_cases h3 : F 3 t = -1
  · simp [awB, h3]
  · obtain ⟨r, hr, _, hw, hm⟩ := JJ_want hJ ht h3
    rw [awB_eq h3 hw, ahB_in hm, rivB]
    simp
theorem or_z (a : Nat) : nI a ||| nI 0 = nI a := by rw [or_nI, Nat.or_zero]
theorem sf_alN {F : FF} {Q : QQ} {r o : Nat} (ho : o = (Q r).getD 0 0) (hq : 0 < qlen Q r) {b : Bool} (h : alN (fun u => !rivB F o r (F 4 o) u) 8 = b) : sfR F Q r = b := by
  rw [sfR, ← ho, ← alN_bits, h]
  have : (qlen Q r == 0) = false := by simp; omega
  rw [this]; rfl
theorem qlen_rm {F : FF} {Q : QQ} {r o : Nat} (hJ : JJ F Q) (hr : r < 10) (hm : o ∈ Q r) : qlen (rmQ F Q o) r + 1 = qlen Q r := by
  have h3 := (hJ.2.1 r hr o hm).2
  have n3 : ¬ F 3 o = -1 := by rw [h3]; exact m1_nI (by omega)
  have hw : wr F o = r := by rw [wr, h3]; exact nI_clamp (by omega)
  rw [(rm_some n3 hw).2, qlen, qlen, updQ, if_pos rfl]
  exact (flt_at (i := 0) (hJ.1 r hr) hm).1
theorem sf_emp {F : FF} {Q : QQ} {r : Nat} (h : ¬ 0 < qlen Q r) : sfR F Q r = false := by
  have : (qlen Q r == 0) = true := by simp; omega
  rw [sfR, this]; rfl
