def exIS (k : Nat) : String := if k = 1 then xI else xS
def exIAS (k : Nat) : String := if k = 1 then xI else if k = 2 then xA else xS
def exAS (k : Nat) : String := if k = 1 then xA else xS
def exIA (k : Nat) : String := if k = 1 then xI else xA
def exS (_ : Nat) : String := xS
def exI (_ : Nat) : String := xI
theorem inF {n j : Nat} (hj : j < n) (hn : n < 2 ^ 31) : ¬ inI (nI j) n = false := by rw [inI_n hj hn]; decide
theorem ix8 {t : Nat} (h : t < 8) : ix (nI t) = t := ix_nI (by omega)
theorem ix10 {t : Nat} (h : t < 10) : ix (nI t) = t := ix_nI (by omega)
theorem opBegin_1 {s : ST} {p0 : Int32} (h : inI p0 8 = false) : opBegin s p0 = (1, 0, s) := by rw [opBegin, if_pos h]
theorem opBegin_2 {s : ST} {t : Nat} (ht : t < 8) (h : ¬ stI s.1 t = 0) : opBegin s (nI t) = (2, 0, s) := by rw [opBegin, if_neg (inF ht (by decide)), ix8 ht, if_pos h]
theorem opBegin_0 {s : ST} {t : Nat} (ht : t < 8) (h : stI s.1 t = 0) : opBegin s (nI t) = (0, s.1 8 0, (startF s.1 t, s.2.1, push s, s.2.2.2)) := by rw [opBegin, if_neg (inF ht (by decide)), ix8 ht, if_neg (not_not_intro h)]
theorem opRequest_1 {s : ST} {p0 p1 p2 : Int32} (h : inI p0 8 = false ∨ inI p1 10 = false) : opRequest s p0 p1 p2 = (1, 0, s) := by
  rw [opRequest]; split
  · rfl
  · rename_i q; rw [if_pos (h.resolve_left q)]
theorem opRequest_2 {s : ST} {p0 p1 p2 : Int32} (h0 : inI p0 8 = true) (h1 : inI p1 10 = true) (h : mdB p2 = false) : opRequest s p0 p1 p2 = (2, 0, s) := by rw [opRequest, if_neg (by simp [h0]), if_neg (by simp [h1]), if_pos h]
theorem opRequest_3 {s : ST} {t r : Nat} {p2 : Int32} (ht : t < 8) (hr : r < 10) (hm : mdB p2 = true) (h : ¬ stI s.1 t = nI 1) : opRequest s (nI t) (nI r) p2 = (3, 0, s) := by
  rw [opRequest, if_neg (inF ht (by decide)), if_neg (inF hr (by decide)), if_neg (by simp [hm]), ix8 ht, if_pos h]
theorem opRequest_0 {s : ST} {t r : Nat} {p2 : Int32} (ht : t < 8) (hr : r < 10) (hm : mdB p2 = true) (h : stI s.1 t = nI 1) : opRequest s (nI t) (nI r) p2 = (0, outI (askF s.1 s.2.1 t r p2) t r p2, (askF s.1 s.2.1 t r p2, askQ s.1 s.2.1 t r p2, push s, s.2.2.2)) := by
  rw [opRequest, if_neg (inF ht (by decide)), if_neg (inF hr (by decide)), if_neg (by simp [hm]), ix8 ht, ix10 hr, if_neg (not_not_intro h)]
theorem opWork_1 {s : ST} {p0 p1 : Int32} (h : inI p0 8 = false) : opWork s p0 p1 = (1, 0, s) := by rw [opWork, if_pos h]
theorem opWork_2 {s : ST} {t : Nat} {p1 : Int32} (ht : t < 8) (h : p1 < nI 1 ∨ nI 1000 < p1) : opWork s (nI t) p1 = (2, 0, s) := by rw [opWork, if_neg (inF ht (by decide)), if_pos h]
theorem opWork_3 {s : ST} {t : Nat} {p1 : Int32} (ht : t < 8) (h1 : ¬ p1 < nI 1) (h2 : ¬ nI 1000 < p1) (h : ¬ stI s.1 t = nI 1) : opWork s (nI t) p1 = (3, 0, s) := by
  rw [opWork, if_neg (inF ht (by decide)), if_neg (fun q => q.elim h1 h2), ix8 ht, if_pos h]
theorem opWork_0 {s : ST} {t : Nat} {p1 : Int32} (ht : t < 8) (h1 : ¬ p1 < nI 1) (h2 : ¬ nI 1000 < p1) (h : stI s.1 t = nI 1) : opWork s (nI t) p1 = (0, s.1 1 t + p1, (up s.1 1 t (s.1 1 t + p1), s.2.1, push s, s.2.2.2)) := by
  rw [opWork, if_neg (inF ht (by decide)), if_neg (fun q => q.elim h1 h2), ix8 ht, if_neg (not_not_intro h)]
theorem opWithdraw_1 {s : ST} {p0 : Int32} (h : inI p0 8 = false) : opWithdraw s p0 = (1, 0, s) := by rw [opWithdraw, if_pos h]
theorem opWithdraw_2 {s : ST} {t : Nat} (ht : t < 8) (h : ¬ stI s.1 t = nI 2) : opWithdraw s (nI t) = (2, 0, s) := by rw [opWithdraw, if_neg (inF ht (by decide)), ix8 ht, if_pos h]
theorem opWithdraw_0 {s : ST} {t : Nat} (ht : t < 8) (h : stI s.1 t = nI 2) : opWithdraw s (nI t) = (0, nI (srvN (rmF s.1 t) (rmQ s.1 s.2.1 t)), (srvF (rmF s.1 t) (rmQ s.1 s.2.1 t), srvQ (rmF s.1 t) (rmQ s.1 s.2.1 t), push s, s.2.2.2)) := by rw [opWithdraw, if_neg (inF ht (by decide)), ix8 ht, if_neg (not_not_intro h)]
theorem opCommit_1 {s : ST} {p0 : Int32} (h : inI p0 8 = false) : opCommit s p0 = (1, 0, s) := by rw [opCommit, if_pos h]
theorem opCommit_2 {s : ST} {t : Nat} (ht : t < 8) (h : ¬ stI s.1 t = nI 1) : opCommit s (nI t) = (2, 0, s) := by rw [opCommit, if_neg (inF ht (by decide)), ix8 ht, if_pos h]
theorem opCommit_0 {s : ST} {t : Nat} (ht : t < 8) (h : stI s.1 t = nI 1) : opCommit s (nI t) = (0, nI (srvN (endF s.1 t) (rmQ s.1 s.2.1 t)), (srvF (endF s.1 t) (rmQ s.1 s.2.1 t), srvQ (endF s.1 t) (rmQ s.1 s.2.1 t), push s, s.2.2.2)) := by rw [opCommit, if_neg (inF ht (by decide)), ix8 ht, if_neg (not_not_intro h), endR]
theorem opRollBack_1 {s : ST} {p0 : Int32} (h : inI p0 8 = false) : opRollBack s p0 = (1, 0, s) := by rw [opRollBack, if_pos h]
theorem opRollBack_2 {s : ST} {t : Nat} (ht : t < 8) (h : stI s.1 t = 0) : opRollBack s (nI t) = (2, 0, s) := by rw [opRollBack, if_neg (inF ht (by decide)), ix8 ht, if_pos h]
theorem opRollBack_0 {s : ST} {t : Nat} (ht : t < 8) (h : ¬ stI s.1 t = 0) : opRollBack s (nI t) = (0, nI (srvN (endF s.1 t) (rmQ s.1 s.2.1 t)), (srvF (endF s.1 t) (rmQ s.1 s.2.1 t), srvQ (endF s.1 t) (rmQ s.1 s.2.1 t), push s, s.2.2.2)) := by rw [opRollBack, if_neg (inF ht (by decide)), ix8 ht, if_neg h, endR]
theorem opT_1 {s : ST} {p0 : Int32} {f : Nat → Int32} (h : inI p0 8 = false) : opT s p0 f = (1, 0, s) := by rw [opT, if_pos h]
theorem opT_0 {s : ST} {t : Nat} {f : Nat → Int32} (ht : t < 8) : opT s (nI t) f = (0, f t, s) := by rw [opT, if_neg (inF ht (by decide)), ix8 ht]
theorem opR_1 {s : ST} {p0 : Int32} {f : Nat → Int32} (h : inI p0 10 = false) : opR s p0 f = (1, 0, s) := by rw [opR, if_pos h]
theorem opR_0 {s : ST} {t : Nat} {f : Nat → Int32} (ht : t < 10) : opR s (nI t) f = (0, f t, s) := by rw [opR, if_neg (inF ht (by decide)), ix10 ht]
theorem opHeld_1 {s : ST} {p0 p1 : Int32} (h : inI p0 8 = false ∨ inI p1 10 = false) : opHeld s p0 p1 = (1, 0, s) := by
  rw [opHeld]; split
  · rfl
  · rename_i q; rw [if_pos (h.resolve_left q)]
theorem opHeld_0 {s : ST} {t r : Nat} (ht : t < 8) (hr : r < 10) : opHeld s (nI t) (nI r) = (0, lk s.1 t r, s) := by rw [opHeld, if_neg (inF ht (by decide)), if_neg (inF hr (by decide)), ix8 ht, ix10 hr]
theorem opQueued_1 {s : ST} {p0 p1 : Int32} (h : inI p0 10 = false) : opQueued s p0 p1 = (1, 0, s) := by rw [opQueued, if_pos h]
theorem opQueued_2 {s : ST} {r : Nat} {p1 : Int32} (hr : r < 10) (h : p1 < 0) : opQueued s (nI r) p1 = (1, 0, s) := by rw [opQueued, if_neg (inF hr (by decide)), if_pos h]
theorem opQueued_0 {s : ST} {r : Nat} {p1 : Int32} (hr : r < 10) (h : ¬ p1 < 0) : opQueued s (nI r) p1 = (0, qdI s r p1, s) := by rw [opQueued, if_neg (inF hr (by decide)), if_neg h, ix10 hr]
theorem opIf_1 {s : ST} {p0 p1 p2 : Int32} (h : inI p0 8 = false ∨ inI p1 10 = false) : opIf s p0 p1 p2 = (1, 0, s) := by
  rw [opIf]; split
  · rfl
  · rename_i q; rw [if_pos (h.resolve_left q)]
theorem opIf_2 {s : ST} {p0 p1 p2 : Int32} (h0 : inI p0 8 = true) (h1 : inI p1 10 = true) (h : mdB p2 = false) : opIf s p0 p1 p2 = (2, 0, s) := by rw [opIf, if_neg (by simp [h0]), if_neg (by simp [h1]), if_pos h]
theorem opIf_n {s : ST} {t r : Nat} {p2 : Int32} (ht : t < 8) (hr : r < 10) (hm : mdB p2 = true) (h : ¬ stI s.1 t = nI 1) : opIf s (nI t) (nI r) p2 = (0, -1, s) := by
  rw [opIf, if_neg (inF ht (by decide)), if_neg (inF hr (by decide)), if_neg (by simp [hm]), ix8 ht, if_pos h]
theorem opIf_0 {s : ST} {t r : Nat} {p2 : Int32} (ht : t < 8) (hr : r < 10) (hm : mdB p2 = true) (h : stI s.1 t = nI 1) : opIf s (nI t) (nI r) p2 = (0, outI (askF s.1 s.2.1 t r p2) t r p2, s) := by
  rw [opIf, if_neg (inF ht (by decide)), if_neg (inF hr (by decide)), if_neg (by simp [hm]), ix8 ht, ix10 hr, if_neg (not_not_intro h)]
theorem opVic_1 {s : ST} {p0 p1 p2 : Int32} (h : inI p0 8 = false ∨ inI p1 10 = false) : opVic s p0 p1 p2 = (1, 0, s) := by
  rw [opVic]; split
  · rfl
  · rename_i q; rw [if_pos (h.resolve_left q)]
theorem opVic_2 {s : ST} {p0 p1 p2 : Int32} (h0 : inI p0 8 = true) (h1 : inI p1 10 = true) (h : mdB p2 = false) : opVic s p0 p1 p2 = (2, 0, s) := by rw [opVic, if_neg (by simp [h0]), if_neg (by simp [h1]), if_pos h]
theorem opVic_n {s : ST} {t r : Nat} {p2 : Int32} (ht : t < 8) (hr : r < 10) (hm : mdB p2 = true) (h : ¬ stI s.1 t = nI 1) : opVic s (nI t) (nI r) p2 = (0, 0, s) := by
  rw [opVic, if_neg (inF ht (by decide)), if_neg (inF hr (by decide)), if_neg (by simp [hm]), ix8 ht, if_pos h]
theorem opVic_0 {s : ST} {t r : Nat} {p2 : Int32} (ht : t < 8) (hr : r < 10) (hm : mdB p2 = true) (h : stI s.1 t = nI 1) : opVic s (nI t) (nI r) p2 = (0, nI (askV s.1 s.2.1 t r p2), s) := by
  rw [opVic, if_neg (inF ht (by decide)), if_neg (inF hr (by decide)), if_neg (by simp [hm]), ix8 ht, ix10 hr, if_neg (not_not_intro h)]
theorem opAppend_1 {s : ST} {p0 : Int32} (h : p0 < nI 32 ∨ nI 126 < p0) : opAppend s p0 = (1, 0, s) := by rw [opAppend, if_pos h]
theorem opAppend_2 {s : ST} {p0 : Int32} (h1 : ¬ p0 < nI 32) (h2 : ¬ nI 126 < p0) (h : 80 ≤ s.2.2.2.2) : opAppend s p0 = (2, 0, s) := by rw [opAppend, if_neg (fun q => q.elim h1 h2), if_pos h]
theorem opAppend_0 {s : ST} {p0 : Int32} (h1 : ¬ p0 < nI 32) (h2 : ¬ nI 126 < p0) (h : ¬ 80 ≤ s.2.2.2.2) : opAppend s p0 = (0, nI (s.2.2.2.2 + 1), (s.1, s.2.1, s.2.2.1, va_up s.2.2.2.1 s.2.2.2.2 (ix p0), s.2.2.2.2 + 1)) := by rw [opAppend, if_neg (fun q => q.elim h1 h2), if_neg h]
theorem opRun_1 {s : ST} (h : ¬ oI (feN s.2.2.2.1 s.2.2.2.2 80 0) = -1) : opRun s = (1, 0, s) := by rw [opRun, if_pos h]
theorem opRun_0 {s : ST} (h : oI (feN s.2.2.2.1 s.2.2.2.2 80 0) = -1) : opRun s = (0, nI (ruR s).2.2, ((ruR s).1, (ruR s).2.1, push s, s.2.2.2)) := by rw [opRun, if_neg (not_not_intro h)]
theorem ch_of {x : Int32} (h1 : ¬ x < nI 32) (h2 : ¬ nI 126 < x) : ∃ j, j < 128 ∧ x = nI j := by
  have h0 : ¬ x < 0 := fun q => h1 (Int32.lt_trans q (by decide))
  obtain ⟨j, hj, rfl⟩ := nI_of h0
  exact ⟨j, by have := mt (nI_ltI (by decide) hj).mpr h2; omega, rfl⟩
theorem HS_push {F : FF} {Q : QQ} {HS : List (FF × QQ)} (hJ : JJ F Q) (h : ∀ q ∈ HS, JJ q.1 q.2) : ∀ q ∈ ((F, Q) :: HS).take 8, JJ q.1 q.2 := fun q hq => by
  rcases List.mem_cons.mp (List.mem_of_mem_take hq) with e | e
  · rw [e]; exact hJ
  · exact h q e
theorem coF_98 {F : FF} {Q : QQ} {t x : Nat} : coF F Q 98 t x = startF F t := by simp [coF]
theorem coQ_98 {F : FF} {Q : QQ} {t x : Nat} : coQ F Q 98 t x = Q := by simp [coQ]
theorem coF_115 {F : FF} {Q : QQ} {t x : Nat} : coF F Q 115 t x = askF F Q t x (nI 1) := by simp [coF]
theorem coQ_115 {F : FF} {Q : QQ} {t x : Nat} : coQ F Q 115 t x = askQ F Q t x (nI 1) := by simp [coQ]
theorem coF_120 {F : FF} {Q : QQ} {t x : Nat} : coF F Q 120 t x = askF F Q t x (nI 2) := by simp [coF]
theorem coQ_120 {F : FF} {Q : QQ} {t x : Nat} : coQ F Q 120 t x = askQ F Q t x (nI 2) := by simp [coQ]
theorem coF_119 {F : FF} {Q : QQ} {t x : Nat} : coF F Q 119 t x = up F 1 t (F 1 t + nI x) := by simp [coF]
theorem coQ_119 {F : FF} {Q : QQ} {t x : Nat} : coQ F Q 119 t x = Q := by simp [coQ]
theorem coF_107 {F : FF} {Q : QQ} {t x : Nat} : coF F Q 107 t x = srvF (rmF F t) (rmQ F Q t) := by simp [coF]
theorem coQ_107 {F : FF} {Q : QQ} {t x : Nat} : coQ F Q 107 t x = srvQ (rmF F t) (rmQ F Q t) := by simp [coQ]
theorem coF_97 {F : FF} {Q : QQ} {t x : Nat} : coF F Q 97 t x = srvF (endF F t) (rmQ F Q t) := by simp [coF]
theorem coQ_97 {F : FF} {Q : QQ} {t x : Nat} : coQ F Q 97 t x = srvQ (endF F t) (rmQ F Q t) := by simp [coQ]
theorem coF_99 {F : FF} {Q : QQ} {t x : Nat} : coF F Q 99 t x = srvF (endF F t) (rmQ F Q t) := by simp [coF]
theorem coQ_99 {F : FF} {Q : QQ} {t x : Nat} : coQ F Q 99 t x = srvQ (endF F t) (rmQ F Q t) := by simp [coQ]
theorem bq_t {x y : Int32} (h : x = y) : (x == y) = true := beq_iff_eq.mpr h
theorem bq_f {x y : Int32} (h : ¬ x = y) : (x == y) = false := by simpa using h
theorem P_nil {D : va_G} {w : va_W} {H : Heap} (h : va_P D vwCl ([] ++ w ++ []) H) : va_P D vwCl w H := by
  rw [List.nil_append, List.append_nil] at h; exact h
theorem D_nil {A : Nat → Prop} {w : va_W} (h : va_D A ([] ++ w ++ [])) : va_D A w := by
  rw [List.nil_append, List.append_nil] at h; exact h
theorem LR_mk {F oF : FF} {Q oQ : QQ} {HS : List (FF × QQ)} {sg wa da : Nat → Nat} {len pos n cn : Nat} {qa oqa : Nat → Int32} {kd tr op : Int32} {SF : Nat → FF} {SQ : Nat → QQ} {Sa : Nat → Nat → Int32} (hJ : JJ F Q) (hR : RQ Q qa) (hH : RH n cn SF SQ Sa HS) (hHS : ∀ q ∈ HS, JJ q.1 q.2) (hl : len ≤ 80) (hs : ∀ z, sg z < 128) : LR (F, Q, HS, sg, len) (qa, oF, oQ, oqa, wa, da, (pos, kd, tr, op), (n, cn, SF, SQ, Sa)) := ⟨hJ, hR, hH, hHS, hl, hs, trivial⟩
