/-! the law: what is seen of the manager is what its own numbers say -/
theorem sm_t {g : Nat → Bool} {A n : Nat} (h : g n = true) : nI (A + smN (fun u => if g u then 1 else 0) n + 1) = nI (A + smN (fun u => if g u then 1 else 0) (n + 1)) := by
  rw [smN, if_pos h]; rfl
theorem sm_f {g : Nat → Bool} {A n : Nat} (h : g n = false) : nI (A + smN (fun u => if g u then 1 else 0) n + 0) = nI (A + smN (fun u => if g u then 1 else 0) (n + 1)) := by
  rw [smN, if_neg (by simp [h])]; rfl
theorem bl_y {F : FF} {Q : QQ} {t u : Nat} (h : ¬ u = t) (h2 : ¬ 99 ≤ farN F Q t u) : blB F Q t u = true := by
  rw [blB, decide_eq_true (show u ≠ t from h), decide_eq_true (show farN F Q t u < 99 by omega)]; rfl
theorem bl_n {F : FF} {Q : QQ} {t u : Nat} (h : u = t ∨ 99 ≤ farN F Q t u) : blB F Q t u = false := by
  rcases h with h | h
  · simp [blB, h]
  · rw [blB, decide_eq_false (show ¬ farN F Q t u < 99 by omega), Bool.and_false]
theorem hl_y {F : FF} {t r : Nat} (h : ¬ lk F t r ≤ 0) : hldB F r t = true := by
  have : ¬ lk F t r = 0 := fun q => h (by rw [q]; decide)
  simp [hldB, this]
theorem hl_n {F : FF} {Q : QQ} {t r : Nat} (hJ : JJ F Q) (ht : t < 8) (hr : r < 10) (h : lk F t r ≤ 0) : hldB F r t = false := by
  rcases hJ.2.2.2.2.1 t ht r hr with q | q | q
  · simp [hldB, q]
  · rw [q] at h; exact absurd h (by decide)
  · rw [q] at h; exact absurd h (by decide)
theorem LR_len {s : ST} {j : JT} (h : LR s j) : s.2.2.1.length ≤ 8 := by
  have h2 := h.2.2.1.2.1
  have h3 := h.2.2.1.2.2.1
  omega
theorem sv_8 {s : ST} {j : JT} (h : LR s j) : ¬ nI 8 < nI s.2.2.1.length := fun q => by
  have h1 := LR_len h
  have := (nI_ltI (by decide) (by omega)).mp q
  omega

theorem q_state (l : Launch) (hflag : l.stackTraces = false) (D : va_G) (cI cT : ClassId) (xo ta tr br tx hi : Nat → Nat) (ra : Nat → Nat → Nat) (s0 : ST) (j0 : JT) (t9 : Nat) (ht9 : t9 < 8) (hL : LR s0 j0) : CX l D cI cT yX4_state wsX4_state rX4_state [.ref (xo 0), .int (nI t9)] (lmW cI cT xo ta tr br tx hi ra s0 j0) (S := JT) (fun v u => ((0, stI s0.1 t9, s0) : RS).1 = 0 ∧ v = ((0, stI s0.1 t9, s0) : RS).2.1 ∧ LR ((0, stI s0.1 t9, s0) : RS).2.2 u) (fun u => lmW cI cT xo ta tr br tx hi ra ((0, stI s0.1 t9, s0) : RS).2.2 u) (fun E => ¬ ((0, stI s0.1 t9, s0) : RS).1 = 0 ∧ E = exI ((0, stI s0.1 t9, s0) : RS).1) 1 6 := by
  have h := c_X4_state l hflag D cI cT xo ta tr br tx hi ra s0 j0 (nI t9) hL
  rw [opT_0 ht9] at h
  exact h

theorem q_workOf (l : Launch) (hflag : l.stackTraces = false) (D : va_G) (cI cT : ClassId) (xo ta tr br tx hi : Nat → Nat) (ra : Nat → Nat → Nat) (s0 : ST) (j0 : JT) (t9 : Nat) (ht9 : t9 < 8) (hL : LR s0 j0) : CX l D cI cT yX4_workOf wsX4_workOf rX4_workOf [.ref (xo 0), .int (nI t9)] (lmW cI cT xo ta tr br tx hi ra s0 j0) (S := JT) (fun v u => ((0, s0.1 1 t9, s0) : RS).1 = 0 ∧ v = ((0, s0.1 1 t9, s0) : RS).2.1 ∧ LR ((0, s0.1 1 t9, s0) : RS).2.2 u) (fun u => lmW cI cT xo ta tr br tx hi ra ((0, s0.1 1 t9, s0) : RS).2.2 u) (fun E => ¬ ((0, s0.1 1 t9, s0) : RS).1 = 0 ∧ E = exI ((0, s0.1 1 t9, s0) : RS).1) 1 6 := by
  have h := c_X4_workOf l hflag D cI cT xo ta tr br tx hi ra s0 j0 (nI t9) hL
  rw [opT_0 ht9] at h
  exact h

theorem q_abortsOf (l : Launch) (hflag : l.stackTraces = false) (D : va_G) (cI cT : ClassId) (xo ta tr br tx hi : Nat → Nat) (ra : Nat → Nat → Nat) (s0 : ST) (j0 : JT) (t9 : Nat) (ht9 : t9 < 8) (hL : LR s0 j0) : CX l D cI cT yX4_abortsOf wsX4_abortsOf rX4_abortsOf [.ref (xo 0), .int (nI t9)] (lmW cI cT xo ta tr br tx hi ra s0 j0) (S := JT) (fun v u => ((0, s0.1 2 t9, s0) : RS).1 = 0 ∧ v = ((0, s0.1 2 t9, s0) : RS).2.1 ∧ LR ((0, s0.1 2 t9, s0) : RS).2.2 u) (fun u => lmW cI cT xo ta tr br tx hi ra ((0, s0.1 2 t9, s0) : RS).2.2 u) (fun E => ¬ ((0, s0.1 2 t9, s0) : RS).1 = 0 ∧ E = exI ((0, s0.1 2 t9, s0) : RS).1) 1 6 := by
  have h := c_X4_abortsOf l hflag D cI cT xo ta tr br tx hi ra s0 j0 (nI t9) hL
  rw [opT_0 ht9] at h
  exact h

theorem q_birthOf (l : Launch) (hflag : l.stackTraces = false) (D : va_G) (cI cT : ClassId) (xo ta tr br tx hi : Nat → Nat) (ra : Nat → Nat → Nat) (s0 : ST) (j0 : JT) (t9 : Nat) (ht9 : t9 < 8) (hL : LR s0 j0) : CX l D cI cT yX4_birthOf wsX4_birthOf rX4_birthOf [.ref (xo 0), .int (nI t9)] (lmW cI cT xo ta tr br tx hi ra s0 j0) (S := JT) (fun v u => ((0, s0.1 0 t9, s0) : RS).1 = 0 ∧ v = ((0, s0.1 0 t9, s0) : RS).2.1 ∧ LR ((0, s0.1 0 t9, s0) : RS).2.2 u) (fun u => lmW cI cT xo ta tr br tx hi ra ((0, s0.1 0 t9, s0) : RS).2.2 u) (fun E => ¬ ((0, s0.1 0 t9, s0) : RS).1 = 0 ∧ E = exI ((0, s0.1 0 t9, s0) : RS).1) 1 6 := by
  have h := c_X4_birthOf l hflag D cI cT xo ta tr br tx hi ra s0 j0 (nI t9) hL
  rw [opT_0 ht9] at h
  exact h

theorem q_awaited (l : Launch) (hflag : l.stackTraces = false) (D : va_G) (cI cT : ClassId) (xo ta tr br tx hi : Nat → Nat) (ra : Nat → Nat → Nat) (s0 : ST) (j0 : JT) (t9 : Nat) (ht9 : t9 < 8) (hL : LR s0 j0) : CX l D cI cT yX4_awaited wsX4_awaited rX4_awaited [.ref (xo 0), .int (nI t9)] (lmW cI cT xo ta tr br tx hi ra s0 j0) (S := JT) (fun v u => ((0, s0.1 3 t9, s0) : RS).1 = 0 ∧ v = ((0, s0.1 3 t9, s0) : RS).2.1 ∧ LR ((0, s0.1 3 t9, s0) : RS).2.2 u) (fun u => lmW cI cT xo ta tr br tx hi ra ((0, s0.1 3 t9, s0) : RS).2.2 u) (fun E => ¬ ((0, s0.1 3 t9, s0) : RS).1 = 0 ∧ E = exI ((0, s0.1 3 t9, s0) : RS).1) 1 6 := by
  have h := c_X4_awaited l hflag D cI cT xo ta tr br tx hi ra s0 j0 (nI t9) hL
  rw [opT_0 ht9] at h
  exact h

theorem q_waitsFor (l : Launch) (hflag : l.stackTraces = false) (D : va_G) (cI cT : ClassId) (xo ta tr br tx hi : Nat → Nat) (ra : Nat → Nat → Nat) (s0 : ST) (j0 : JT) (t9 : Nat) (ht9 : t9 < 8) (hL : LR s0 j0) : CX l D cI cT yX4_waitsFor wsX4_waitsFor rX4_waitsFor [.ref (xo 0), .int (nI t9)] (lmW cI cT xo ta tr br tx hi ra s0 j0) (S := JT) (fun v u => ((0, nI (aWS s0.1 s0.2.1 t9), s0) : RS).1 = 0 ∧ v = ((0, nI (aWS s0.1 s0.2.1 t9), s0) : RS).2.1 ∧ LR ((0, nI (aWS s0.1 s0.2.1 t9), s0) : RS).2.2 u) (fun u => lmW cI cT xo ta tr br tx hi ra ((0, nI (aWS s0.1 s0.2.1 t9), s0) : RS).2.2 u) (fun E => ¬ ((0, nI (aWS s0.1 s0.2.1 t9), s0) : RS).1 = 0 ∧ E = exI ((0, nI (aWS s0.1 s0.2.1 t9), s0) : RS).1) 1 6 := by
  have h := c_X4_waitsFor l hflag D cI cT xo ta tr br tx hi ra s0 j0 (nI t9) hL
  rw [opT_0 ht9] at h
  exact h

theorem q_blockers (l : Launch) (hflag : l.stackTraces = false) (D : va_G) (cI cT : ClassId) (xo ta tr br tx hi : Nat → Nat) (ra : Nat → Nat → Nat) (s0 : ST) (j0 : JT) (t9 : Nat) (ht9 : t9 < 8) (hL : LR s0 j0) : CX l D cI cT yX4_blockers wsX4_blockers rX4_blockers [.ref (xo 0), .int (nI t9)] (lmW cI cT xo ta tr br tx hi ra s0 j0) (S := JT) (fun v u => ((0, nI (pcN (bits (fun u => (clR s0.1 s0.2.1 (aWS s0.1 s0.2.1 t9) 7).testBit u && decide (u ≠ t9)) 8) 8), s0) : RS).1 = 0 ∧ v = ((0, nI (pcN (bits (fun u => (clR s0.1 s0.2.1 (aWS s0.1 s0.2.1 t9) 7).testBit u && decide (u ≠ t9)) 8) 8), s0) : RS).2.1 ∧ LR ((0, nI (pcN (bits (fun u => (clR s0.1 s0.2.1 (aWS s0.1 s0.2.1 t9) 7).testBit u && decide (u ≠ t9)) 8) 8), s0) : RS).2.2 u) (fun u => lmW cI cT xo ta tr br tx hi ra ((0, nI (pcN (bits (fun u => (clR s0.1 s0.2.1 (aWS s0.1 s0.2.1 t9) 7).testBit u && decide (u ≠ t9)) 8) 8), s0) : RS).2.2 u) (fun E => ¬ ((0, nI (pcN (bits (fun u => (clR s0.1 s0.2.1 (aWS s0.1 s0.2.1 t9) 7).testBit u && decide (u ≠ t9)) 8) 8), s0) : RS).1 = 0 ∧ E = exI ((0, nI (pcN (bits (fun u => (clR s0.1 s0.2.1 (aWS s0.1 s0.2.1 t9) 7).testBit u && decide (u ≠ t9)) 8) 8), s0) : RS).1) 1 6 := by
  have h := c_X4_blockers l hflag D cI cT xo ta tr br tx hi ra s0 j0 (nI t9) hL
  rw [opT_0 ht9] at h
  exact h

theorem q_held (l : Launch) (hflag : l.stackTraces = false) (D : va_G) (cI cT : ClassId) (xo ta tr br tx hi : Nat → Nat) (ra : Nat → Nat → Nat) (s0 : ST) (j0 : JT) (t9 r9 : Nat) (ht9 : t9 < 8) (hr9 : r9 < 10) (hL : LR s0 j0) : CX l D cI cT yX4_held wsX4_held rX4_held [.ref (xo 0), .int (nI t9), .int (nI r9)] (lmW cI cT xo ta tr br tx hi ra s0 j0) (S := JT) (fun v u => ((0, lk s0.1 t9 r9, s0) : RS).1 = 0 ∧ v = ((0, lk s0.1 t9 r9, s0) : RS).2.1 ∧ LR ((0, lk s0.1 t9 r9, s0) : RS).2.2 u) (fun u => lmW cI cT xo ta tr br tx hi ra ((0, lk s0.1 t9 r9, s0) : RS).2.2 u) (fun E => ¬ ((0, lk s0.1 t9 r9, s0) : RS).1 = 0 ∧ E = exI ((0, lk s0.1 t9 r9, s0) : RS).1) 2 12 := by
  have h := c_X4_held l hflag D cI cT xo ta tr br tx hi ra s0 j0 (nI t9) (nI r9) hL
  rw [opHeld_0 ht9 hr9] at h
  exact h

theorem q_holders (l : Launch) (hflag : l.stackTraces = false) (D : va_G) (cI cT : ClassId) (xo ta tr br tx hi : Nat → Nat) (ra : Nat → Nat → Nat) (s0 : ST) (j0 : JT) (r9 : Nat) (hr9 : r9 < 10) (hL : LR s0 j0) : CX l D cI cT yX4_holders wsX4_holders rX4_holders [.ref (xo 0), .int (nI r9)] (lmW cI cT xo ta tr br tx hi ra s0 j0) (S := JT) (fun v u => ((0, nI (bits (hldB s0.1 r9) 8), s0) : RS).1 = 0 ∧ v = ((0, nI (bits (hldB s0.1 r9) 8), s0) : RS).2.1 ∧ LR ((0, nI (bits (hldB s0.1 r9) 8), s0) : RS).2.2 u) (fun u => lmW cI cT xo ta tr br tx hi ra ((0, nI (bits (hldB s0.1 r9) 8), s0) : RS).2.2 u) (fun E => ¬ ((0, nI (bits (hldB s0.1 r9) 8), s0) : RS).1 = 0 ∧ E = exI ((0, nI (bits (hldB s0.1 r9) 8), s0) : RS).1) 1 6 := by
  have h := c_X4_holders l hflag D cI cT xo ta tr br tx hi ra s0 j0 (nI r9) hL
  rw [opR_0 hr9] at h
  exact h

theorem q_queueLength (l : Launch) (hflag : l.stackTraces = false) (D : va_G) (cI cT : ClassId) (xo ta tr br tx hi : Nat → Nat) (ra : Nat → Nat → Nat) (s0 : ST) (j0 : JT) (r9 : Nat) (hr9 : r9 < 10) (hL : LR s0 j0) : CX l D cI cT yX4_queueLength wsX4_queueLength rX4_queueLength [.ref (xo 0), .int (nI r9)] (lmW cI cT xo ta tr br tx hi ra s0 j0) (S := JT) (fun v u => ((0, nI (qlen s0.2.1 r9), s0) : RS).1 = 0 ∧ v = ((0, nI (qlen s0.2.1 r9), s0) : RS).2.1 ∧ LR ((0, nI (qlen s0.2.1 r9), s0) : RS).2.2 u) (fun u => lmW cI cT xo ta tr br tx hi ra ((0, nI (qlen s0.2.1 r9), s0) : RS).2.2 u) (fun E => ¬ ((0, nI (qlen s0.2.1 r9), s0) : RS).1 = 0 ∧ E = exI ((0, nI (qlen s0.2.1 r9), s0) : RS).1) 1 6 := by
  have h := c_X4_queueLength l hflag D cI cT xo ta tr br tx hi ra s0 j0 (nI r9) hL
  rw [opR_0 hr9] at h
  exact h

theorem q_queued (l : Launch) (hflag : l.stackTraces = false) (D : va_G) (cI cT : ClassId) (xo ta tr br tx hi : Nat → Nat) (ra : Nat → Nat → Nat) (s0 : ST) (j0 : JT) (r9 k9 : Nat) (hr9 : r9 < 10) (hk9 : k9 < 2 ^ 31) (hL : LR s0 j0) : CX l D cI cT yX4_queued wsX4_queued rX4_queued [.ref (xo 0), .int (nI r9), .int (nI k9)] (lmW cI cT xo ta tr br tx hi ra s0 j0) (S := JT) (fun v u => ((0, qdI s0 r9 (nI k9), s0) : RS).1 = 0 ∧ v = ((0, qdI s0 r9 (nI k9), s0) : RS).2.1 ∧ LR ((0, qdI s0 r9 (nI k9), s0) : RS).2.2 u) (fun u => lmW cI cT xo ta tr br tx hi ra ((0, qdI s0 r9 (nI k9), s0) : RS).2.2 u) (fun E => ¬ ((0, qdI s0 r9 (nI k9), s0) : RS).1 = 0 ∧ E = exI ((0, qdI s0 r9 (nI k9), s0) : RS).1) 2 12 := by
  have h := c_X4_queued l hflag D cI cT xo ta tr br tx hi ra s0 j0 (nI r9) (nI k9) hL
  rw [opQueued_0 hr9 (nI_pos hk9)] at h
  exact h

abbrev rL_isSo : Room := { frames := 8, cells := 416, slots := 2496, locals := 133 }
set_option maxHeartbeats 8000000 in
set_option maxRecDepth 100000 in
theorem c_L_isSo (l : Launch) (hflag : l.stackTraces = false) (D : va_G) (cI cT cL : ClassId) (xo ta tr br tx hi : Nat → Nat) (ra : Nat → Nat → Nat) (s0 : ST) (j0 : JT) (am aa aq ag : Nat) (fm : Nat → Int32) (fa : Nat → Int32) (fq : Nat → Int64) (fg : Nat → Int32) (hL : LR s0 j0) (hM : MM s0.1 fm) (hZ : ZA s0.1 fa) (hQL : QL s0.2.1 fq) (hG : GG s0.1 fg) : CW l D cI cT cL yL_isSo wsL_isSo rL_isSo [.ref (xo 0), .ref aa, .ref am, .ref aq, .ref ag] ([(am, .inl (cI, 10, .inl fm)), (aa, .inl (cI, 48, .inl fa)), (aq, .inl (cL, 10, .inr (.inl fq))), (ag, .inl (cI, 3, .inl fg))] ++ lmW cI cT xo ta tr br tx hi ra s0 j0) (S := JT) (fun v u => v = nI 1 ∧ LR s0 u) (fun u => [(am, .inl (cI, 10, .inl fm)), (aa, .inl (cI, 48, .inl fa)), (aq, .inl (cL, 10, .inr (.inl fq))), (ag, .inl (cI, 3, .inl fg))] ++ lmW cI cT xo ta tr br tx hi ra s0 u) 416 2496 := by
  refine CU.of (cc := cL_isSo) (maxL := 10) (ret := (some .boolean)) (by decide) rfl (Nat.le_of_ble_eq_true rfl) ?_
  intro p e s m args below meth c A Q hQ B hout hA hX H locs hP hKL hD hS ls hl
  have hK : va_K D vwCl (TY cI cT) s := hKL.sub (tys' := TY cI cT) [0, 1] rfl
  obtain ⟨hx, hb, hml, hrt, hts, hown, hlk⟩ := B
  have hl : lv_has ls 10 [(0, .ref (xo 0)), (1, .ref aa), (2, .ref am), (3, .ref aq), (4, .ref ag)] := hl
  have hJ := hL.1
  refine lv_iconst (v := (nI 0)) hx hb dL_isSo_0 (by decide) ?_
  refine lv_istore (lv' := [(5, .int (nI 0)), (0, .ref (xo 0)), (1, .ref aa), (2, .ref am), (3, .ref aq), (4, .ref ag)]) hx hb dL_isSo_1 hl (by decide) rfl (fun ls hl => ?_)
  refine lv_iconst (v := (nI 0)) hx hb dL_isSo_3 (by decide) ?_
  refine lv_istore (lv' := [(6, .int (nI 0)), (5, .int (nI 0)), (0, .ref (xo 0)), (1, .ref aa), (2, .ref am), (3, .ref aq), (4, .ref ag)]) hx hb dL_isSo_4 hl (by decide) rfl (fun ls hl => ?_)
  have L6 : ∀ (N : Nat) (t9 : Nat) (jj : JT) (cs : Nat) (sl : Nat), (t9 ≤ 8) → (LR s0 jj) → (cs ≤ 27 * t9) → (sl ≤ 162 * t9) → (8 - t9) < N → ∀ (H : Heap) (locs : List Loc), va_P D vwCl ([(am, .inl (cI, 10, .inl fm)), (aa, .inl (cI, 48, .inl fa)), (aq, .inl (cL, 10, .inr (.inl fq))), (ag, .inl (cI, 3, .inl fg))] ++ lmW cI cT xo ta tr br tx hi ra s0 jj) H → va_D A ([(am, .inl (cI, 10, .inl fm)), (aa, .inl (cI, 48, .inl fa)), (aq, .inl (cL, 10, .inr (.inl fq))), (ag, .inl (cI, 3, .inl fg))] ++ lmW cI cT xo ta tr br tx hi ra s0 jj) → va_S A s.heap H locs → ∀ ls : Array Slot, lv_has ls 10 [(0, .ref (xo 0)), (1, .ref aa), (2, .ref am), (3, .ref aq), (4, .ref ag), (5, .int (nI (smN (fun t => smN (fun r => if hldB s0.1 r t then 1 else 0) 10) t9))), (6, .int (nI t9))] → W p l e rL_isSo s m args below meth c H locs cs sl Q (F0 m 6 ls []) := by
    intro N6
    induction N6 with
    | zero => intro t9 jj cs sl ht9 hLL hcs hsl hN; exact absurd hN (Nat.not_lt_zero _)
    | succ N6 ih6 =>
      intro t9 jj cs sl ht9 hLL hcs hsl hN H locs hP hD hS ls hl
      refine lv_iload hx hb dL_isSo_6 (lv_at hl 6 rfl) ?_
      refine lv_bipush (v := (nI 8)) hx hb dL_isSo_8 (by decide) ?_
      refine lv_icmp_ge (tgt := 248) hx hb dL_isSo_10 (by decide) (fun h_1 => ?_) (fun h_1 => ?_)
      · have h_1 := (nI_leI (a := 8) (b := t9) (by decide) (by omega)).mp h_1
        refine lv_iconst (v := (nI 0)) hx hb dL_isSo_248 (by decide) ?_
        refine lv_istore (lv' := [(6, .int (nI 0)), (0, .ref (xo 0)), (1, .ref aa), (2, .ref am), (3, .ref aq), (4, .ref ag), (5, .int (nI (smN (fun t => smN (fun r => if hldB s0.1 r t then 1 else 0) 10) t9)))]) hx hb dL_isSo_249 hl (by decide) rfl (fun ls hl => ?_)
        have L251 : ∀ (N : Nat) (r9 : Nat) (jj : JT) (cs : Nat) (sl : Nat), (r9 ≤ 10) → (LR s0 jj) → (cs ≤ 216 + 20 * r9) → (sl ≤ 1296 + 120 * r9) → (10 - r9) < N → ∀ (H : Heap) (locs : List Loc), va_P D vwCl ([(am, .inl (cI, 10, .inl fm)), (aa, .inl (cI, 48, .inl fa)), (aq, .inl (cL, 10, .inr (.inl fq))), (ag, .inl (cI, 3, .inl fg))] ++ lmW cI cT xo ta tr br tx hi ra s0 jj) H → va_D A ([(am, .inl (cI, 10, .inl fm)), (aa, .inl (cI, 48, .inl fa)), (aq, .inl (cL, 10, .inr (.inl fq))), (ag, .inl (cI, 3, .inl fg))] ++ lmW cI cT xo ta tr br tx hi ra s0 jj) → va_S A s.heap H locs → ∀ ls : Array Slot, lv_has ls 10 [(0, .ref (xo 0)), (1, .ref aa), (2, .ref am), (3, .ref aq), (4, .ref ag), (5, .int (nI (smN (fun t => smN (fun r => if hldB s0.1 r t then 1 else 0) 10) 8))), (6, .int (nI r9))] → W p l e rL_isSo s m args below meth c H locs cs sl Q (F0 m 251 ls []) := by
          intro N251
          induction N251 with
          | zero => intro r9 jj cs sl hr9 hLL hcs hsl hN; exact absurd hN (Nat.not_lt_zero _)
          | succ N251 ih251 =>
            intro r9 jj cs sl hr9 hLL hcs hsl hN H locs hP hD hS ls hl
            refine lv_iload hx hb dL_isSo_251 (lv_at hl 6 rfl) ?_
            refine lv_bipush (v := (nI 10)) hx hb dL_isSo_253 (by decide) ?_
            refine lv_icmp_ge (tgt := 410) hx hb dL_isSo_255 (by decide) (fun h_2 => ?_) (fun h_2 => ?_)
            · have h_2 := (nI_leI (a := 10) (b := r9) (by decide) (by omega)).mp h_2
              refine lv_aload_n hx hb dL_isSo_410 rfl (lv_at hl 0 rfl) ?_
              refine call_i (X := [(am, .inl (cI, 10, .inl fm)), (aa, .inl (cI, 48, .inl fa)), (aq, .inl (cL, 10, .inr (.inl fq))), (ag, .inl (cI, 3, .inl fg))]) (Wc := lmW cI cT xo ta tr br tx hi ra s0 jj) (Z := []) (As := []) (rest := []) ⟨hx, hb, hml, hown, hts⟩ (c_X4_locksHeld l D cI cT xo ta tr br tx hi ra s0 jj hLL) (cwV 0 hts gL_isSo_X4_locksHeld rfl rfl rfl (by decide +kernel) ⟨Nat.le_of_ble_eq_true rfl, Nat.le_of_ble_eq_true rfl⟩) hK (P_nilG hP) (D_nilG hD) hS hA (va_recv hK hP (ci := 4) (q0 := 4) rfl rfl) (fun _ => adr_lm) rfl hl.1 rfl (Nat.le_of_ble_eq_true rfl) ⟨(show cs ≤ 416 by omega), (show sl ≤ 2496 by omega)⟩ dL_isSo_411 (fun rv j157 H locs hp hP hD hS => ?_)
              have hv9 : rv = nI (lkN s0.1 10) := hp.1
              rw [hv9]
              have hL57 : LR s0 j157 := hp.2
              have hP := P_nilF hP; have hD := D_nilF hD
              have hP : va_P D vwCl ([(am, .inl (cI, 10, .inl fm)), (aa, .inl (cI, 48, .inl fa)), (aq, .inl (cL, 10, .inr (.inl fq))), (ag, .inl (cI, 3, .inl fg))] ++ lmW cI cT xo ta tr br tx hi ra s0 j157) H := hP
              have hD : va_D A ([(am, .inl (cI, 10, .inl fm)), (aa, .inl (cI, 48, .inl fa)), (aq, .inl (cL, 10, .inr (.inl fq))), (ag, .inl (cI, 3, .inl fg))] ++ lmW cI cT xo ta tr br tx hi ra s0 j157) := hD
              refine lv_iload hx hb dL_isSo_414 (lv_at hl 5 rfl) ?_
              refine lv_icmp_ne (tgt := 454) hx hb dL_isSo_416 (by decide) (fun h_3 => absurd (congrArg nI lkN_law) h_3) (fun h_3 => ?_)
              have h_3 := h_3
              refine lv_aload_n hx hb dL_isSo_419 rfl (lv_at hl 0 rfl) ?_
              refine call_i (X := [(am, .inl (cI, 10, .inl fm)), (aa, .inl (cI, 48, .inl fa)), (aq, .inl (cL, 10, .inr (.inl fq))), (ag, .inl (cI, 3, .inl fg))]) (Wc := lmW cI cT xo ta tr br tx hi ra s0 j157) (Z := []) (As := []) (rest := []) ⟨hx, hb, hml, hown, hts⟩ (c_X4_brokenRings l D cI cT xo ta tr br tx hi ra s0 j157 hL57) (cwV 0 hts gL_isSo_X4_brokenRings rfl rfl rfl (by decide +kernel) ⟨Nat.le_of_ble_eq_true rfl, Nat.le_of_ble_eq_true rfl⟩) hK (P_nilG hP) (D_nilG hD) hS hA (va_recv hK hP (ci := 4) (q0 := 4) rfl rfl) (fun _ => adr_lm) rfl hl.1 rfl (Nat.le_of_ble_eq_true rfl) ⟨(show cs ≤ 416 by omega), (show sl ≤ 2496 by omega)⟩ dL_isSo_420 (fun rv j158 H locs hp hP hD hS => ?_)
              have hv9 : rv = s0.1 8 1 := hp.1
              rw [hv9]
              have hL58 : LR s0 j158 := hp.2
              have hP := P_nilF hP; have hD := D_nilF hD
              have hP : va_P D vwCl ([(am, .inl (cI, 10, .inl fm)), (aa, .inl (cI, 48, .inl fa)), (aq, .inl (cL, 10, .inr (.inl fq))), (ag, .inl (cI, 3, .inl fg))] ++ lmW cI cT xo ta tr br tx hi ra s0 j158) H := hP
              have hD : va_D A ([(am, .inl (cI, 10, .inl fm)), (aa, .inl (cI, 48, .inl fa)), (aq, .inl (cL, 10, .inr (.inl fq))), (ag, .inl (cI, 3, .inl fg))] ++ lmW cI cT xo ta tr br tx hi ra s0 j158) := hD
              refine lv_aload hx hb dL_isSo_423 (lv_at hl 4 rfl) ?_
              refine lv_iconst (v := (nI 1)) hx hb dL_isSo_425 (by decide) ?_
              refine r_ild (k := 1) hx hb hK hP 3 rfl (by omega) (by decide) dL_isSo_426 ?_
              refine lv_icmp_ne (tgt := 454) hx hb dL_isSo_427 (by decide) (fun h_4 => absurd (hG 1 (by decide)).symm h_4) (fun h_4 => ?_)
              have h_4 := h_4
              refine lv_aload_n hx hb dL_isSo_430 rfl (lv_at hl 0 rfl) ?_
              refine call_i (X := [(am, .inl (cI, 10, .inl fm)), (aa, .inl (cI, 48, .inl fa)), (aq, .inl (cL, 10, .inr (.inl fq))), (ag, .inl (cI, 3, .inl fg))]) (Wc := lmW cI cT xo ta tr br tx hi ra s0 j158) (Z := []) (As := []) (rest := []) ⟨hx, hb, hml, hown, hts⟩ (c_X4_lostWork l D cI cT xo ta tr br tx hi ra s0 j158 hL58) (cwV 0 hts gL_isSo_X4_lostWork rfl rfl rfl (by decide +kernel) ⟨Nat.le_of_ble_eq_true rfl, Nat.le_of_ble_eq_true rfl⟩) hK (P_nilG hP) (D_nilG hD) hS hA (va_recv hK hP (ci := 4) (q0 := 4) rfl rfl) (fun _ => adr_lm) rfl hl.1 rfl (Nat.le_of_ble_eq_true rfl) ⟨(show cs ≤ 416 by omega), (show sl ≤ 2496 by omega)⟩ dL_isSo_431 (fun rv j159 H locs hp hP hD hS => ?_)
              have hv9 : rv = s0.1 8 2 := hp.1
              rw [hv9]
              have hL59 : LR s0 j159 := hp.2
              have hP := P_nilF hP; have hD := D_nilF hD
              have hP : va_P D vwCl ([(am, .inl (cI, 10, .inl fm)), (aa, .inl (cI, 48, .inl fa)), (aq, .inl (cL, 10, .inr (.inl fq))), (ag, .inl (cI, 3, .inl fg))] ++ lmW cI cT xo ta tr br tx hi ra s0 j159) H := hP
              have hD : va_D A ([(am, .inl (cI, 10, .inl fm)), (aa, .inl (cI, 48, .inl fa)), (aq, .inl (cL, 10, .inr (.inl fq))), (ag, .inl (cI, 3, .inl fg))] ++ lmW cI cT xo ta tr br tx hi ra s0 j159) := hD
              refine lv_aload hx hb dL_isSo_434 (lv_at hl 4 rfl) ?_
              refine lv_iconst (v := (nI 2)) hx hb dL_isSo_436 (by decide) ?_
              refine r_ild (k := 2) hx hb hK hP 3 rfl (by omega) (by decide) dL_isSo_437 ?_
              refine lv_icmp_ne (tgt := 454) hx hb dL_isSo_438 (by decide) (fun h_5 => absurd (hG 2 (by decide)).symm h_5) (fun h_5 => ?_)
              have h_5 := h_5
              refine lv_aload_n hx hb dL_isSo_441 rfl (lv_at hl 0 rfl) ?_
              refine call_i (X := [(am, .inl (cI, 10, .inl fm)), (aa, .inl (cI, 48, .inl fa)), (aq, .inl (cL, 10, .inr (.inl fq))), (ag, .inl (cI, 3, .inl fg))]) (Wc := lmW cI cT xo ta tr br tx hi ra s0 j159) (Z := []) (As := []) (rest := []) ⟨hx, hb, hml, hown, hts⟩ (c_X4_savedStates l D cI cT xo ta tr br tx hi ra s0 j159 hL59) (cwV 0 hts gL_isSo_X4_savedStates rfl rfl rfl (by decide +kernel) ⟨Nat.le_of_ble_eq_true rfl, Nat.le_of_ble_eq_true rfl⟩) hK (P_nilG hP) (D_nilG hD) hS hA (va_recv hK hP (ci := 4) (q0 := 4) rfl rfl) (fun _ => adr_lm) rfl hl.1 rfl (Nat.le_of_ble_eq_true rfl) ⟨(show cs ≤ 416 by omega), (show sl ≤ 2496 by omega)⟩ dL_isSo_442 (fun rv j160 H locs hp hP hD hS => ?_)
              have hv9 : rv = nI s0.2.2.1.length := hp.1
              rw [hv9]
              have hL60 : LR s0 j160 := hp.2
              have hP := P_nilF hP; have hD := D_nilF hD
              have hP : va_P D vwCl ([(am, .inl (cI, 10, .inl fm)), (aa, .inl (cI, 48, .inl fa)), (aq, .inl (cL, 10, .inr (.inl fq))), (ag, .inl (cI, 3, .inl fg))] ++ lmW cI cT xo ta tr br tx hi ra s0 j160) H := hP
              have hD : va_D A ([(am, .inl (cI, 10, .inl fm)), (aa, .inl (cI, 48, .inl fa)), (aq, .inl (cL, 10, .inr (.inl fq))), (ag, .inl (cI, 3, .inl fg))] ++ lmW cI cT xo ta tr br tx hi ra s0 j160) := hD
              refine lv_bipush (v := (nI 8)) hx hb dL_isSo_445 (by decide) ?_
              refine lv_icmp_gt (tgt := 454) hx hb dL_isSo_447 (by decide) (fun h_6 => absurd h_6 (sv_8 hL60)) (fun h_6 => ?_)
              have h_6 := h_6
              refine lv_iconst (v := (nI 1)) hx hb dL_isSo_450 (by decide) ?_
              refine lv_goto (tgt := 455) hx hb dL_isSo_451 (by decide) ?_
              exact wretz (u := j160) hQ hx hb hrt hlk hS dL_isSo_455 (by decide) hP ⟨rfl, hL60⟩ ⟨(show cs ≤ 416 by omega), (show sl ≤ 2496 by omega)⟩
            · have h_2 := mt (nI_leI (a := 10) (b := r9) (by decide) (by omega)).mpr h_2
              refine lv_iconst (v := (nI 0)) hx hb dL_isSo_258 (by decide) ?_
              refine lv_istore (lv' := [(7, .int (nI 0)), (0, .ref (xo 0)), (1, .ref aa), (2, .ref am), (3, .ref aq), (4, .ref ag), (5, .int (nI (smN (fun t => smN (fun r => if hldB s0.1 r t then 1 else 0) 10) 8))), (6, .int (nI r9))]) hx hb dL_isSo_259 hl (by decide) rfl (fun ls hl => ?_)
              have hq8 : (s0.2.1 r9).length ≤ 8 := JJ_len hJ (show r9 < 10 by omega)
              refine lv_aload_n hx hb dL_isSo_261 rfl (lv_at hl 4 rfl) ?_
              refine lv_iload hx hb dL_isSo_262 (lv_at hl 7 rfl) ?_
              refine r_lld (k := r9) hx hb hKL hP 2 rfl (by omega) (by decide) dL_isSo_264 ?_
              refine tpl (y := (lN (qN (s0.2.1 r9)))) (hQL r9 (by omega)) ?_
              refine call_l (X := [(am, .inl (cI, 10, .inl fm)), (aa, .inl (cI, 48, .inl fa)), (aq, .inl (cL, 10, .inr (.inl fq))), (ag, .inl (cI, 3, .inl fg))] ++ lmW cI cT xo ta tr br tx hi ra s0 jj) (Wc := []) (Z := []) (As := [.long (lN (qN (s0.2.1 r9)))]) (rest := []) ⟨hx, hb, hml, hown, hts⟩ (c_L_length l D cI cT cL (s0.2.1 r9) (Q_8 hJ (show r9 < 10 by omega)) (JJ_len hJ (show r9 < 10 by omega))) (va_cwS 1 hts gL_isSo_L_length rfl rfl rfl (by decide +kernel) ⟨Nat.le_of_ble_eq_true rfl, Nat.le_of_ble_eq_true rfl⟩) hKL (P_nilr hP) (D_nilr hD) hS hA (fun _ => rfl) rfl hl.1 rfl (Nat.le_of_ble_eq_true rfl) ⟨(show cs ≤ 416 by omega), (show sl ≤ 2496 by omega)⟩ dL_isSo_265 (fun rv uu H locs hp hP hD hS => ?_)
              have hP := P_nil2 hP
              have hD := D_nil2 hD
              obtain rfl := hp
              have hP : va_P D vwCl ([(am, .inl (cI, 10, .inl fm)), (aa, .inl (cI, 48, .inl fa)), (aq, .inl (cL, 10, .inr (.inl fq))), (ag, .inl (cI, 3, .inl fg))] ++ lmW cI cT xo ta tr br tx hi ra s0 jj) H := hP
              have hD : va_D A ([(am, .inl (cI, 10, .inl fm)), (aa, .inl (cI, 48, .inl fa)), (aq, .inl (cL, 10, .inr (.inl fq))), (ag, .inl (cI, 3, .inl fg))] ++ lmW cI cT xo ta tr br tx hi ra s0 jj) := hD
              refine lv_istore (lv' := [(8, .int (nI ((s0.2.1 r9).length))), (7, .int (nI 0)), (0, .ref (xo 0)), (1, .ref aa), (2, .ref am), (3, .ref aq), (4, .ref ag), (5, .int (nI (smN (fun t => smN (fun r => if hldB s0.1 r t then 1 else 0) 10) 8))), (6, .int (nI r9))]) hx hb dL_isSo_268 hl (by decide) rfl (fun ls hl => ?_)
              refine lv_iconst (v := (nI 0)) hx hb dL_isSo_270 (by decide) ?_
              refine lv_istore (lv' := [(9, .int (nI 0)), (8, .int (nI ((s0.2.1 r9).length))), (7, .int (nI 0)), (0, .ref (xo 0)), (1, .ref aa), (2, .ref am), (3, .ref aq), (4, .ref ag), (5, .int (nI (smN (fun t => smN (fun r => if hldB s0.1 r t then 1 else 0) 10) 8))), (6, .int (nI r9))]) hx hb dL_isSo_271 hl (by decide) rfl (fun ls hl => ?_)
              have L273 : ∀ (N : Nat) (w9 : Nat), (w9 ≤ 8) → (8 - w9) < N → ∀ (H : Heap) (locs : List Loc), va_P D vwCl ([(am, .inl (cI, 10, .inl fm)), (aa, .inl (cI, 48, .inl fa)), (aq, .inl (cL, 10, .inr (.inl fq))), (ag, .inl (cI, 3, .inl fg))] ++ lmW cI cT xo ta tr br tx hi ra s0 jj) H → va_D A ([(am, .inl (cI, 10, .inl fm)), (aa, .inl (cI, 48, .inl fa)), (aq, .inl (cL, 10, .inr (.inl fq))), (ag, .inl (cI, 3, .inl fg))] ++ lmW cI cT xo ta tr br tx hi ra s0 jj) → va_S A s.heap H locs → ∀ ls : Array Slot, lv_has ls 10 [(0, .ref (xo 0)), (1, .ref aa), (2, .ref am), (3, .ref aq), (4, .ref ag), (5, .int (nI (smN (fun t => smN (fun r => if hldB s0.1 r t then 1 else 0) 10) 8))), (6, .int (nI r9)), (7, .int (nI (bits (hldB s0.1 r9) w9))), (8, .int (nI ((s0.2.1 r9).length))), (9, .int (nI w9))] → W p l e rL_isSo s m args below meth c H locs cs sl Q (F0 m 273 ls []) := by
                intro N273
                induction N273 with
                | zero => intro w9 hw9 hN; exact absurd hN (Nat.not_lt_zero _)
                | succ N273 ih273 =>
                  intro w9 hw9 hN H locs hP hD hS ls hl
                  refine lv_iload hx hb dL_isSo_273 (lv_at hl 9 rfl) ?_
                  refine lv_bipush (v := (nI 8)) hx hb dL_isSo_275 (by decide) ?_
                  refine lv_icmp_ge (tgt := 310) hx hb dL_isSo_277 (by decide) (fun h_7 => ?_) (fun h_7 => ?_)
                  · have h_7 := (nI_leI (a := 8) (b := w9) (by decide) (by omega)).mp h_7
                    refine lv_iconst (v := (nI 0)) hx hb dL_isSo_310 (by decide) ?_
                    refine lv_istore (lv' := [(9, .int (nI 0)), (0, .ref (xo 0)), (1, .ref aa), (2, .ref am), (3, .ref aq), (4, .ref ag), (5, .int (nI (smN (fun t => smN (fun r => if hldB s0.1 r t then 1 else 0) 10) 8))), (6, .int (nI r9)), (7, .int (nI (bits (hldB s0.1 r9) w9))), (8, .int (nI ((s0.2.1 r9).length)))]) hx hb dL_isSo_311 hl (by decide) rfl (fun ls hl => ?_)
                    have L313 : ∀ (N : Nat) (k9 : Nat) (jj : JT) (cs : Nat) (sl : Nat), (k9 ≤ (s0.2.1 r9).length) → (LR s0 jj) → (cs ≤ 216 + 20 * r9 + 2 * k9) → (sl ≤ 1296 + 120 * r9 + 12 * k9) → (8 - k9) < N → ∀ (H : Heap) (locs : List Loc), va_P D vwCl ([(am, .inl (cI, 10, .inl fm)), (aa, .inl (cI, 48, .inl fa)), (aq, .inl (cL, 10, .inr (.inl fq))), (ag, .inl (cI, 3, .inl fg))] ++ lmW cI cT xo ta tr br tx hi ra s0 jj) H → va_D A ([(am, .inl (cI, 10, .inl fm)), (aa, .inl (cI, 48, .inl fa)), (aq, .inl (cL, 10, .inr (.inl fq))), (ag, .inl (cI, 3, .inl fg))] ++ lmW cI cT xo ta tr br tx hi ra s0 jj) → va_S A s.heap H locs → ∀ ls : Array Slot, lv_has ls 10 [(0, .ref (xo 0)), (1, .ref aa), (2, .ref am), (3, .ref aq), (4, .ref ag), (5, .int (nI (smN (fun t => smN (fun r => if hldB s0.1 r t then 1 else 0) 10) 8))), (6, .int (nI r9)), (7, .int (nI (bits (hldB s0.1 r9) 8))), (8, .int (nI ((s0.2.1 r9).length))), (9, .int (nI k9))] → W p l e rL_isSo s m args below meth c H locs cs sl Q (F0 m 313 ls []) := by
                      intro N313
                      induction N313 with
                      | zero => intro k9 jj cs sl hk9 hLL hcs hsl hN; exact absurd hN (Nat.not_lt_zero _)
                      | succ N313 ih313 =>
                        intro k9 jj cs sl hk9 hLL hcs hsl hN H locs hP hD hS ls hl
                        refine lv_iload hx hb dL_isSo_313 (lv_at hl 9 rfl) ?_
                        refine lv_iload hx hb dL_isSo_315 (lv_at hl 8 rfl) ?_
                        refine lv_icmp_ge (tgt := 368) hx hb dL_isSo_317 (by decide) (fun h_8 => ?_) (fun h_8 => ?_)
                        · have h_8 := (nI_leI (a := ((s0.2.1 r9).length)) (b := k9) (by omega) (by omega)).mp h_8
                          refine lv_aload_n hx hb dL_isSo_368 rfl (lv_at hl 0 rfl) ?_
                          refine lv_iload hx hb dL_isSo_369 (lv_at hl 6 rfl) ?_
                          refine call_cj (SX := Unit) (X := [(am, .inl (cI, 10, .inl fm)), (aa, .inl (cI, 48, .inl fa)), (aq, .inl (cL, 10, .inr (.inl fq))), (ag, .inl (cI, 3, .inl fg))]) (Wc := lmW cI cT xo ta tr br tx hi ra s0 jj) (Z := []) (pj := (fun _ E => ¬ ((0, nI (bits (hldB s0.1 r9) 8), s0) : RS).1 = 0 ∧ E = exI ((0, nI (bits (hldB s0.1 r9) 8), s0) : RS).1)) (Wx := (fun _ => lmW cI cT xo ta tr br tx hi ra s0 jj)) (As := [.int (nI r9)]) (rest := []) ⟨hx, hb, hml, hown, hts⟩ (q_holders l hflag D cI cT xo ta tr br tx hi ra s0 jj r9 (by omega) hLL) (cwV 1 hts gL_isSo_X4_holders rfl rfl rfl (by decide +kernel) ⟨Nat.le_of_ble_eq_true rfl, Nat.le_of_ble_eq_true rfl⟩) hK (P_nilG hP) (D_nilG hD) hS hA hX.1 (va_recv hK hP (ci := 4) (q0 := 4) rfl rfl) (fun _ => adr_lm) (fun _ => adr_lm) rfl hl.1 rfl (Nat.le_of_ble_eq_true rfl) ⟨(show cs + 1 ≤ 416 by omega), (show sl + 6 ≤ 2496 by omega)⟩ dL_isSo_371 (fun E ce q9 u9 H locs hpx hP hD hS hce hv hcl => absurd rfl hpx.1) (fun rv j161 H locs hp hP hD hS => ?_)
                          have hv9 : rv = nI (bits (hldB s0.1 r9) 8) := hp.2.1
                          rw [hv9]
                          have hL61 : LR s0 j161 := hp.2.2
                          have hP := P_nilF hP; have hD := D_nilF hD
                          have hP : va_P D vwCl ([(am, .inl (cI, 10, .inl fm)), (aa, .inl (cI, 48, .inl fa)), (aq, .inl (cL, 10, .inr (.inl fq))), (ag, .inl (cI, 3, .inl fg))] ++ lmW cI cT xo ta tr br tx hi ra s0 j161) H := hP
                          have hD : va_D A ([(am, .inl (cI, 10, .inl fm)), (aa, .inl (cI, 48, .inl fa)), (aq, .inl (cL, 10, .inr (.inl fq))), (ag, .inl (cI, 3, .inl fg))] ++ lmW cI cT xo ta tr br tx hi ra s0 j161) := hD
                          refine lv_iload hx hb dL_isSo_374 (lv_at hl 7 rfl) ?_
                          refine lv_icmp_ne (tgt := 402) hx hb dL_isSo_376 (by decide) (fun h_9 => absurd rfl h_9) (fun h_9 => ?_)
                          have h_9 := h_9
                          refine lv_aload_n hx hb dL_isSo_379 rfl (lv_at hl 0 rfl) ?_
                          refine lv_iload hx hb dL_isSo_380 (lv_at hl 6 rfl) ?_
                          refine call_cj (SX := Unit) (X := [(am, .inl (cI, 10, .inl fm)), (aa, .inl (cI, 48, .inl fa)), (aq, .inl (cL, 10, .inr (.inl fq))), (ag, .inl (cI, 3, .inl fg))]) (Wc := lmW cI cT xo ta tr br tx hi ra s0 j161) (Z := []) (pj := (fun _ E => ¬ ((0, nI (qlen s0.2.1 r9), s0) : RS).1 = 0 ∧ E = exI ((0, nI (qlen s0.2.1 r9), s0) : RS).1)) (Wx := (fun _ => lmW cI cT xo ta tr br tx hi ra s0 j161)) (As := [.int (nI r9)]) (rest := []) ⟨hx, hb, hml, hown, hts⟩ (q_queueLength l hflag D cI cT xo ta tr br tx hi ra s0 j161 r9 (by omega) hL61) (cwV 1 hts gL_isSo_X4_queueLength rfl rfl rfl (by decide +kernel) ⟨Nat.le_of_ble_eq_true rfl, Nat.le_of_ble_eq_true rfl⟩) hK (P_nilG hP) (D_nilG hD) hS hA hX.1 (va_recv hK hP (ci := 4) (q0 := 4) rfl rfl) (fun _ => adr_lm) (fun _ => adr_lm) rfl hl.1 rfl (Nat.le_of_ble_eq_true rfl) ⟨(show cs + 1 + 1 ≤ 416 by omega), (show sl + 6 + 6 ≤ 2496 by omega)⟩ dL_isSo_382 (fun E ce q9 u9 H locs hpx hP hD hS hce hv hcl => absurd rfl hpx.1) (fun rv j162 H locs hp hP hD hS => ?_)
                          have hv9 : rv = nI (qlen s0.2.1 r9) := hp.2.1
                          rw [hv9]
                          have hL62 : LR s0 j162 := hp.2.2
                          have hP := P_nilF hP; have hD := D_nilF hD
                          have hP : va_P D vwCl ([(am, .inl (cI, 10, .inl fm)), (aa, .inl (cI, 48, .inl fa)), (aq, .inl (cL, 10, .inr (.inl fq))), (ag, .inl (cI, 3, .inl fg))] ++ lmW cI cT xo ta tr br tx hi ra s0 j162) H := hP
                          have hD : va_D A ([(am, .inl (cI, 10, .inl fm)), (aa, .inl (cI, 48, .inl fa)), (aq, .inl (cL, 10, .inr (.inl fq))), (ag, .inl (cI, 3, .inl fg))] ++ lmW cI cT xo ta tr br tx hi ra s0 j162) := hD
                          refine lv_iload hx hb dL_isSo_385 (lv_at hl 8 rfl) ?_
                          refine lv_icmp_ne (tgt := 402) hx hb dL_isSo_387 (by decide) (fun h_10 => absurd rfl h_10) (fun h_10 => ?_)
                          have h_10 := h_10
                          refine lv_aload_n hx hb dL_isSo_390 rfl (lv_at hl 0 rfl) ?_
                          refine lv_iload hx hb dL_isSo_391 (lv_at hl 6 rfl) ?_
                          refine lv_iload hx hb dL_isSo_393 (lv_at hl 8 rfl) ?_
                          refine call_cj (SX := Unit) (X := [(am, .inl (cI, 10, .inl fm)), (aa, .inl (cI, 48, .inl fa)), (aq, .inl (cL, 10, .inr (.inl fq))), (ag, .inl (cI, 3, .inl fg))]) (Wc := lmW cI cT xo ta tr br tx hi ra s0 j162) (Z := []) (pj := (fun _ E => ¬ ((0, qdI s0 r9 (nI ((s0.2.1 r9).length)), s0) : RS).1 = 0 ∧ E = exI ((0, qdI s0 r9 (nI ((s0.2.1 r9).length)), s0) : RS).1)) (Wx := (fun _ => lmW cI cT xo ta tr br tx hi ra s0 j162)) (As := [.int (nI r9), .int (nI ((s0.2.1 r9).length))]) (rest := []) ⟨hx, hb, hml, hown, hts⟩ (q_queued l hflag D cI cT xo ta tr br tx hi ra s0 j162 r9 ((s0.2.1 r9).length) (by omega) (by omega) hL62) (cwV 2 hts gL_isSo_X4_queued rfl rfl rfl (by decide +kernel) ⟨Nat.le_of_ble_eq_true rfl, Nat.le_of_ble_eq_true rfl⟩) hK (P_nilG hP) (D_nilG hD) hS hA hX.1 (va_recv hK hP (ci := 4) (q0 := 4) rfl rfl) (fun _ => adr_lm) (fun _ => adr_lm) rfl hl.1 rfl (Nat.le_of_ble_eq_true rfl) ⟨(show cs + 1 + 1 + 2 ≤ 416 by omega), (show sl + 6 + 6 + 12 ≤ 2496 by omega)⟩ dL_isSo_395 (fun E ce q9 u9 H locs hpx hP hD hS hce hv hcl => absurd rfl hpx.1) (fun rv j163 H locs hp hP hD hS => ?_)
                          have hv9 : rv = qdI s0 r9 (nI ((s0.2.1 r9).length)) := hp.2.1
                          rw [hv9]
                          have hL63 : LR s0 j163 := hp.2.2
                          have hP := P_nilF hP; have hD := D_nilF hD
                          have hP : va_P D vwCl ([(am, .inl (cI, 10, .inl fm)), (aa, .inl (cI, 48, .inl fa)), (aq, .inl (cL, 10, .inr (.inl fq))), (ag, .inl (cI, 3, .inl fg))] ++ lmW cI cT xo ta tr br tx hi ra s0 j163) H := hP
                          have hD : va_D A ([(am, .inl (cI, 10, .inl fm)), (aa, .inl (cI, 48, .inl fa)), (aq, .inl (cL, 10, .inr (.inl fq))), (ag, .inl (cI, 3, .inl fg))] ++ lmW cI cT xo ta tr br tx hi ra s0 j163) := hD
                          refine lv_iconst (v := (-1)) hx hb dL_isSo_398 (by decide) ?_
                          refine lv_icmp_eq (tgt := 404) hx hb dL_isSo_399 (by decide) (fun h_11 => ?_) (fun h_11 => absurd (qd_m (s := s0) (r := r9) (i := nI (s0.2.1 r9).length) (fun q => by have := (nI_ltI (show (s0.2.1 r9).length < 2 ^ 31 by omega) (show qlen s0.2.1 r9 < 2 ^ 31 from Nat.lt_of_le_of_lt hq8 (by decide))).mp q; exact Nat.lt_irrefl _ this)) h_11)
                          have h_11 := h_11
                          refine lv_iinc (v := (nI (r9 + 1))) (lv' := [(6, .int (nI (r9 + 1))), (0, .ref (xo 0)), (1, .ref aa), (2, .ref am), (3, .ref aq), (4, .ref ag), (5, .int (nI (smN (fun t => smN (fun r => if hldB s0.1 r t then 1 else 0) 10) 8))), (7, .int (nI (bits (hldB s0.1 r9) 8))), (8, .int (nI ((s0.2.1 r9).length))), (9, .int (nI k9))]) hx hb dL_isSo_404 hl (k := 6) rfl (nI_add _ 1) (by decide) rfl (fun ls hl => ?_)
                          refine lv_goto (tgt := 251) hx hb dL_isSo_407 (by decide) ?_
                          exact ih251 (r9 + 1) j163 (cs + 1 + 1 + 2) (sl + 6 + 6 + 12) (by omega) hL63 (by omega) (by omega) (by omega) _ _ hP hD hS _ (lv_sub hl [1, 2, 3, 4, 5, 6, 0] rfl)
                        · have h_8 := mt (nI_leI (a := ((s0.2.1 r9).length)) (b := k9) (by omega) (by omega)).mpr h_8
                          have hkl : k9 < (s0.2.1 r9).length := Nat.not_le.mp h_8
                          obtain ⟨o9, ho9⟩ : ∃ o, o = (s0.2.1 r9).getD k9 0 := ⟨_, rfl⟩
                          have hoq : o9 ∈ s0.2.1 r9 := by rw [ho9]; exact JJ_at hJ (show r9 < 10 by omega) hkl
                          have ho := hJ.2.1 r9 (by omega) o9 hoq
                          have ho8 := ho.1
                          have n3o : ¬ s0.1 3 o9 = -1 := by rw [ho.2]; exact m1_nI (by omega)
                          have hqd := qd_y (s := s0) (r := r9) (j := k9) hkl hq8
                          rw [← ho9] at hqd
                          refine lv_aload_n hx hb dL_isSo_320 rfl (lv_at hl 0 rfl) ?_
                          refine lv_iload hx hb dL_isSo_321 (lv_at hl 6 rfl) ?_
                          refine lv_iload hx hb dL_isSo_323 (lv_at hl 9 rfl) ?_
                          refine call_cj (SX := Unit) (X := [(am, .inl (cI, 10, .inl fm)), (aa, .inl (cI, 48, .inl fa)), (aq, .inl (cL, 10, .inr (.inl fq))), (ag, .inl (cI, 3, .inl fg))]) (Wc := lmW cI cT xo ta tr br tx hi ra s0 jj) (Z := []) (pj := (fun _ E => ¬ ((0, qdI s0 r9 (nI k9), s0) : RS).1 = 0 ∧ E = exI ((0, qdI s0 r9 (nI k9), s0) : RS).1)) (Wx := (fun _ => lmW cI cT xo ta tr br tx hi ra s0 jj)) (As := [.int (nI r9), .int (nI k9)]) (rest := []) ⟨hx, hb, hml, hown, hts⟩ (q_queued l hflag D cI cT xo ta tr br tx hi ra s0 jj r9 k9 (by omega) (by omega) hLL) (cwV 2 hts gL_isSo_X4_queued rfl rfl rfl (by decide +kernel) ⟨Nat.le_of_ble_eq_true rfl, Nat.le_of_ble_eq_true rfl⟩) hK (P_nilG hP) (D_nilG hD) hS hA hX.1 (va_recv hK hP (ci := 4) (q0 := 4) rfl rfl) (fun _ => adr_lm) (fun _ => adr_lm) rfl hl.1 rfl (Nat.le_of_ble_eq_true rfl) ⟨(show cs + 2 ≤ 416 by omega), (show sl + 12 ≤ 2496 by omega)⟩ dL_isSo_325 (fun E ce q9 u9 H locs hpx hP hD hS hce hv hcl => absurd rfl hpx.1) (fun rv j164 H locs hp hP hD hS => ?_)
                          have hv9 : rv = qdI s0 r9 (nI k9) := hp.2.1
                          rw [hv9]
                          have hL64 : LR s0 j164 := hp.2.2
                          have hP := P_nilF hP; have hD := D_nilF hD
                          have hP : va_P D vwCl ([(am, .inl (cI, 10, .inl fm)), (aa, .inl (cI, 48, .inl fa)), (aq, .inl (cL, 10, .inr (.inl fq))), (ag, .inl (cI, 3, .inl fg))] ++ lmW cI cT xo ta tr br tx hi ra s0 j164) H := hP
                          have hD : va_D A ([(am, .inl (cI, 10, .inl fm)), (aa, .inl (cI, 48, .inl fa)), (aq, .inl (cL, 10, .inr (.inl fq))), (ag, .inl (cI, 3, .inl fg))] ++ lmW cI cT xo ta tr br tx hi ra s0 j164) := hD
                          refine lv_bipush (v := (nI 10)) hx hb dL_isSo_328 (by decide) ?_
                          refine lv_aload_n hx hb dL_isSo_330 rfl (lv_at hl 3 rfl) ?_
                          refine lv_iload hx hb dL_isSo_331 (lv_at hl 6 rfl) ?_
                          refine r_lld (k := r9) hx hb hKL hP 2 rfl (by omega) (by decide) dL_isSo_333 ?_
                          refine tpl (y := (lN (qN (s0.2.1 r9)))) (hQL r9 (by omega)) ?_
                          refine lv_iload hx hb dL_isSo_334 (lv_at hl 9 rfl) ?_
                          refine call_l (X := [(am, .inl (cI, 10, .inl fm)), (aa, .inl (cI, 48, .inl fa)), (aq, .inl (cL, 10, .inr (.inl fq))), (ag, .inl (cI, 3, .inl fg))] ++ lmW cI cT xo ta tr br tx hi ra s0 j164) (Wc := []) (Z := []) (As := [.long (lN (qN (s0.2.1 r9))), .int (nI k9)]) (rest := [.int (nI 10), .int (qdI s0 r9 (nI k9))]) ⟨hx, hb, hml, hown, hts⟩ (c_L_at l D cI cT cL (s0.2.1 r9) k9 (Q_8 hJ (show r9 < 10 by omega)) (JJ_len hJ (show r9 < 10 by omega)) hkl) (va_cwS 2 hts gL_isSo_L_at rfl rfl rfl (by decide +kernel) ⟨Nat.le_of_ble_eq_true rfl, Nat.le_of_ble_eq_true rfl⟩) hKL (P_nilr hP) (D_nilr hD) hS hA (fun _ => rfl) rfl hl.1 rfl (Nat.le_of_ble_eq_true rfl) ⟨(show cs + 2 ≤ 416 by omega), (show sl + 12 ≤ 2496 by omega)⟩ dL_isSo_336 (fun rv uu H locs hp hP hD hS => ?_)
                          have hP := P_nil2 hP
                          have hD := D_nil2 hD
                          obtain rfl := hp
                          have hP : va_P D vwCl ([(am, .inl (cI, 10, .inl fm)), (aa, .inl (cI, 48, .inl fa)), (aq, .inl (cL, 10, .inr (.inl fq))), (ag, .inl (cI, 3, .inl fg))] ++ lmW cI cT xo ta tr br tx hi ra s0 j164) H := hP
                          have hD : va_D A ([(am, .inl (cI, 10, .inl fm)), (aa, .inl (cI, 48, .inl fa)), (aq, .inl (cL, 10, .inr (.inl fq))), (ag, .inl (cI, 3, .inl fg))] ++ lmW cI cT xo ta tr br tx hi ra s0 j164) := hD
                          refine tpe (y := (nI o9)) (congrArg nI ho9.symm) ?_
                          refine lv_imul hx hb dL_isSo_339 ?_
                          refine tpe (y := (nI (10 * o9))) (pk_mul _ _) ?_
                          refine lv_aload_n hx hb dL_isSo_340 rfl (lv_at hl 1 rfl) ?_
                          refine lv_bipush (v := (nI 6)) hx hb dL_isSo_341 (by decide) ?_
                          refine lv_aload_n hx hb dL_isSo_343 rfl (lv_at hl 3 rfl) ?_
                          refine lv_iload hx hb dL_isSo_344 (lv_at hl 6 rfl) ?_
                          refine r_lld (k := r9) hx hb hKL hP 2 rfl (by omega) (by decide) dL_isSo_346 ?_
                          refine tpl (y := (lN (qN (s0.2.1 r9)))) (hQL r9 (by omega)) ?_
                          refine lv_iload hx hb dL_isSo_347 (lv_at hl 9 rfl) ?_
                          refine call_l (X := [(am, .inl (cI, 10, .inl fm)), (aa, .inl (cI, 48, .inl fa)), (aq, .inl (cL, 10, .inr (.inl fq))), (ag, .inl (cI, 3, .inl fg))] ++ lmW cI cT xo ta tr br tx hi ra s0 j164) (Wc := []) (Z := []) (As := [.long (lN (qN (s0.2.1 r9))), .int (nI k9)]) (rest := [.int (nI 6), .ref aa, .int (nI (10 * o9)), .int (qdI s0 r9 (nI k9))]) ⟨hx, hb, hml, hown, hts⟩ (c_L_at l D cI cT cL (s0.2.1 r9) k9 (Q_8 hJ (show r9 < 10 by omega)) (JJ_len hJ (show r9 < 10 by omega)) hkl) (va_cwS 2 hts gL_isSo_L_at rfl rfl rfl (by decide +kernel) ⟨Nat.le_of_ble_eq_true rfl, Nat.le_of_ble_eq_true rfl⟩) hKL (P_nilr hP) (D_nilr hD) hS hA (fun _ => rfl) rfl hl.1 rfl (Nat.le_of_ble_eq_true rfl) ⟨(show cs + 2 ≤ 416 by omega), (show sl + 12 ≤ 2496 by omega)⟩ dL_isSo_349 (fun rv uu H locs hp hP hD hS => ?_)
                          have hP := P_nil2 hP
                          have hD := D_nil2 hD
                          obtain rfl := hp
                          have hP : va_P D vwCl ([(am, .inl (cI, 10, .inl fm)), (aa, .inl (cI, 48, .inl fa)), (aq, .inl (cL, 10, .inr (.inl fq))), (ag, .inl (cI, 3, .inl fg))] ++ lmW cI cT xo ta tr br tx hi ra s0 j164) H := hP
                          have hD : va_D A ([(am, .inl (cI, 10, .inl fm)), (aa, .inl (cI, 48, .inl fa)), (aq, .inl (cL, 10, .inr (.inl fq))), (ag, .inl (cI, 3, .inl fg))] ++ lmW cI cT xo ta tr br tx hi ra s0 j164) := hD
                          refine tpe (y := (nI o9)) (congrArg nI ho9.symm) ?_
                          refine lv_imul hx hb dL_isSo_352 ?_
                          refine tpe (y := (nI (6 * o9))) (pk_mul _ _) ?_
                          refine lv_iconst (v := (nI 5)) hx hb dL_isSo_353 (by decide) ?_
                          refine lv_iadd hx hb dL_isSo_354 ?_
                          refine tpe (y := (nI (6 * o9 + 5))) (nI_add _ _) ?_
                          refine r_ild (k := (6 * o9 + 5)) hx hb hK hP 1 rfl (by omega) (by decide) dL_isSo_355 ?_
                          refine tpe (y := (s0.1 4 o9)) ((ZA5 hZ (by omega)).trans (mdZ_w n3o)) ?_
                          refine lv_iadd hx hb dL_isSo_356 ?_
                          refine lv_icmp_eq (tgt := 362) hx hb dL_isSo_357 (by decide) (fun h_12 => ?_) (fun h_12 => absurd hqd h_12)
                          have h_12 := h_12
                          refine lv_iinc (v := (nI (k9 + 1))) (lv' := [(9, .int (nI (k9 + 1))), (0, .ref (xo 0)), (1, .ref aa), (2, .ref am), (3, .ref aq), (4, .ref ag), (5, .int (nI (smN (fun t => smN (fun r => if hldB s0.1 r t then 1 else 0) 10) 8))), (6, .int (nI r9)), (7, .int (nI (bits (hldB s0.1 r9) 8))), (8, .int (nI ((s0.2.1 r9).length)))]) hx hb dL_isSo_362 hl (k := 9) rfl (nI_add _ 1) (by decide) rfl (fun ls hl => ?_)
                          refine lv_goto (tgt := 313) hx hb dL_isSo_365 (by decide) ?_
                          exact ih313 (k9 + 1) j164 (cs + 2) (sl + 12) (by omega) hL64 (by omega) (by omega) (by omega) _ _ hP hD hS _ (lv_sub hl [1, 2, 3, 4, 5, 6, 7, 8, 9, 0] rfl)
                    rw [show (nI (bits (hldB s0.1 r9) w9)) = (nI (bits (hldB s0.1 r9) 8)) from (by rw [show w9 = 8 by omega])] at hl
                    exact L313 _ 0 jj cs sl (Nat.zero_le _) hLL (by omega) (by omega) (Nat.lt_succ_self _) _ _ hP hD hS _ (lv_sub hl [1, 2, 3, 4, 5, 6, 7, 8, 9, 0] rfl)
                  · have h_7 := mt (nI_leI (a := 8) (b := w9) (by decide) (by omega)).mpr h_7
                    refine lv_iload hx hb dL_isSo_280 (lv_at hl 7 rfl) ?_
                    refine lv_aload_n hx hb dL_isSo_282 rfl (lv_at hl 2 rfl) ?_
                    refine lv_iload hx hb dL_isSo_283 (lv_at hl 9 rfl) ?_
                    refine lv_iload hx hb dL_isSo_285 (lv_at hl 6 rfl) ?_
                    refine call_lB (X := []) (Wc := [(am, .inl (cI, 10, .inl fm))]) (Z := [(aa, .inl (cI, 48, .inl fa)), (aq, .inl (cL, 10, .inr (.inl fq))), (ag, .inl (cI, 3, .inl fg))]) (LM := lmW cI cT xo ta tr br tx hi ra s0 jj) (As := [.ref am, .int (nI w9), .int (nI r9)]) (rest := [.int (nI (bits (hldB s0.1 r9) w9))]) ⟨hx, hb, hml, hown, hts⟩ (c_L_lock l D cI cT cL am fm s0.1 s0.2.1 w9 r9 (by omega) (by omega) hJ hM) (va_cwS 3 hts gL_isSo_L_lock rfl rfl rfl (by decide +kernel) ⟨Nat.le_of_ble_eq_true rfl, Nat.le_of_ble_eq_true rfl⟩) hKL hP hD hS hA (fun _ => adw1) rfl hl.1 rfl (Nat.le_of_ble_eq_true rfl) ⟨(show cs ≤ 416 by omega), (show sl ≤ 2496 by omega)⟩ dL_isSo_287 (fun rv uu H locs hp hP hD hS => ?_)
                    obtain rfl := hp
                    have hP : va_P D vwCl ([(am, .inl (cI, 10, .inl fm)), (aa, .inl (cI, 48, .inl fa)), (aq, .inl (cL, 10, .inr (.inl fq))), (ag, .inl (cI, 3, .inl fg))] ++ lmW cI cT xo ta tr br tx hi ra s0 jj) H := hP
                    have hD : va_D A ([(am, .inl (cI, 10, .inl fm)), (aa, .inl (cI, 48, .inl fa)), (aq, .inl (cL, 10, .inr (.inl fq))), (ag, .inl (cI, 3, .inl fg))] ++ lmW cI cT xo ta tr br tx hi ra s0 jj) := hD
                    refine lv_if_le (tgt := 300) hx hb dL_isSo_290 (by decide) (fun h_13 => ?_) (fun h_13 => ?_)
                    · have h_13 := h_13
                      refine lv_iconst (v := (nI 0)) hx hb dL_isSo_300 (by decide) ?_
                      refine lv_ior hx hb dL_isSo_301 ?_
                      refine lv_istore (lv' := [(7, .int ((nI (bits (hldB s0.1 r9) w9)) ||| (nI 0))), (0, .ref (xo 0)), (1, .ref aa), (2, .ref am), (3, .ref aq), (4, .ref ag), (5, .int (nI (smN (fun t => smN (fun r => if hldB s0.1 r t then 1 else 0) 10) 8))), (6, .int (nI r9)), (8, .int (nI ((s0.2.1 r9).length))), (9, .int (nI w9))]) hx hb dL_isSo_302 hl (by decide) rfl (fun ls hl => ?_)
                      refine lv_iinc (v := (nI (w9 + 1))) (lv' := [(9, .int (nI (w9 + 1))), (7, .int ((nI (bits (hldB s0.1 r9) w9)) ||| (nI 0))), (0, .ref (xo 0)), (1, .ref aa), (2, .ref am), (3, .ref aq), (4, .ref ag), (5, .int (nI (smN (fun t => smN (fun r => if hldB s0.1 r t then 1 else 0) 10) 8))), (6, .int (nI r9)), (8, .int (nI ((s0.2.1 r9).length)))]) hx hb dL_isSo_304 hl (k := 9) rfl (nI_add _ 1) (by decide) rfl (fun ls hl => ?_)
                      refine lv_goto (tgt := 273) hx hb dL_isSo_307 (by decide) ?_
                      rw [show ((nI (bits (hldB s0.1 r9) w9)) ||| (nI 0)) = (nI (bits (hldB s0.1 r9) (w9 + 1))) from ((or_z _).trans (bits_f (hl_n hJ (show w9 < 8 by omega) (show r9 < 10 by omega) h_13)))] at hl
                      exact ih273 (w9 + 1) (by omega) (by omega) _ _ hP hD hS _ (lv_sub hl [2, 3, 4, 5, 6, 7, 8, 1, 9, 0] rfl)
                    · have h_13 := h_13
                      refine lv_iconst (v := (nI 1)) hx hb dL_isSo_293 (by decide) ?_
                      refine lv_iload hx hb dL_isSo_294 (lv_at hl 9 rfl) ?_
                      refine lv_ishl hx hb dL_isSo_296 ?_
                      refine lv_goto (tgt := 301) hx hb dL_isSo_297 (by decide) ?_
                      refine lv_ior hx hb dL_isSo_301 ?_
                      refine lv_istore (lv' := [(7, .int ((nI (bits (hldB s0.1 r9) w9)) ||| ((nI 1) <<< ((nI w9) &&& 31)))), (0, .ref (xo 0)), (1, .ref aa), (2, .ref am), (3, .ref aq), (4, .ref ag), (5, .int (nI (smN (fun t => smN (fun r => if hldB s0.1 r t then 1 else 0) 10) 8))), (6, .int (nI r9)), (8, .int (nI ((s0.2.1 r9).length))), (9, .int (nI w9))]) hx hb dL_isSo_302 hl (by decide) rfl (fun ls hl => ?_)
                      refine lv_iinc (v := (nI (w9 + 1))) (lv' := [(9, .int (nI (w9 + 1))), (7, .int ((nI (bits (hldB s0.1 r9) w9)) ||| ((nI 1) <<< ((nI w9) &&& 31)))), (0, .ref (xo 0)), (1, .ref aa), (2, .ref am), (3, .ref aq), (4, .ref ag), (5, .int (nI (smN (fun t => smN (fun r => if hldB s0.1 r t then 1 else 0) 10) 8))), (6, .int (nI r9)), (8, .int (nI ((s0.2.1 r9).length)))]) hx hb dL_isSo_304 hl (k := 9) rfl (nI_add _ 1) (by decide) rfl (fun ls hl => ?_)
                      refine lv_goto (tgt := 273) hx hb dL_isSo_307 (by decide) ?_
                      rw [show ((nI (bits (hldB s0.1 r9) w9)) ||| ((nI 1) <<< ((nI w9) &&& 31))) = (nI (bits (hldB s0.1 r9) (w9 + 1))) from (bits_t (by omega) (hl_y h_13))] at hl
                      exact ih273 (w9 + 1) (by omega) (by omega) _ _ hP hD hS _ (lv_sub hl [2, 3, 4, 5, 6, 7, 8, 1, 9, 0] rfl)
              rw [show (nI 0) = (nI (bits (hldB s0.1 r9) 0)) from rfl] at hl
              exact L273 _ 0 (Nat.zero_le _) (Nat.lt_succ_self _) _ _ hP hD hS _ (lv_sub hl [3, 4, 5, 6, 7, 8, 9, 2, 1, 0] rfl)
        rw [show (nI (smN (fun t => smN (fun r => if hldB s0.1 r t then 1 else 0) 10) t9)) = (nI (smN (fun t => smN (fun r => if hldB s0.1 r t then 1 else 0) 10) 8)) from (by rw [show t9 = 8 by omega])] at hl
        exact L251 _ 0 jj cs sl (Nat.zero_le _) hLL (by omega) (by omega) (Nat.lt_succ_self _) _ _ hP hD hS _ (lv_sub hl [1, 2, 3, 4, 5, 6, 0] rfl)
      · have h_1 := mt (nI_leI (a := 8) (b := t9) (by decide) (by omega)).mpr h_1
        refine lv_aload_n hx hb dL_isSo_13 rfl (lv_at hl 0 rfl) ?_
        refine lv_iload hx hb dL_isSo_14 (lv_at hl 6 rfl) ?_
        refine call_cj (SX := Unit) (X := [(am, .inl (cI, 10, .inl fm)), (aa, .inl (cI, 48, .inl fa)), (aq, .inl (cL, 10, .inr (.inl fq))), (ag, .inl (cI, 3, .inl fg))]) (Wc := lmW cI cT xo ta tr br tx hi ra s0 jj) (Z := []) (pj := (fun _ E => ¬ ((0, stI s0.1 t9, s0) : RS).1 = 0 ∧ E = exI ((0, stI s0.1 t9, s0) : RS).1)) (Wx := (fun _ => lmW cI cT xo ta tr br tx hi ra s0 jj)) (As := [.int (nI t9)]) (rest := []) ⟨hx, hb, hml, hown, hts⟩ (q_state l hflag D cI cT xo ta tr br tx hi ra s0 jj t9 (by omega) hLL) (cwV 1 hts gL_isSo_X4_state rfl rfl rfl (by decide +kernel) ⟨Nat.le_of_ble_eq_true rfl, Nat.le_of_ble_eq_true rfl⟩) hK (P_nilG hP) (D_nilG hD) hS hA hX.1 (va_recv hK hP (ci := 4) (q0 := 4) rfl rfl) (fun _ => adr_lm) (fun _ => adr_lm) rfl hl.1 rfl (Nat.le_of_ble_eq_true rfl) ⟨(show cs + 1 ≤ 416 by omega), (show sl + 6 ≤ 2496 by omega)⟩ dL_isSo_16 (fun E ce q9 u9 H locs hpx hP hD hS hce hv hcl => absurd rfl hpx.1) (fun rv j165 H locs hp hP hD hS => ?_)
        have hv9 : rv = stI s0.1 t9 := hp.2.1
        rw [hv9]
        have hL65 : LR s0 j165 := hp.2.2
        have hP := P_nilF hP; have hD := D_nilF hD
        have hP : va_P D vwCl ([(am, .inl (cI, 10, .inl fm)), (aa, .inl (cI, 48, .inl fa)), (aq, .inl (cL, 10, .inr (.inl fq))), (ag, .inl (cI, 3, .inl fg))] ++ lmW cI cT xo ta tr br tx hi ra s0 j165) H := hP
        have hD : va_D A ([(am, .inl (cI, 10, .inl fm)), (aa, .inl (cI, 48, .inl fa)), (aq, .inl (cL, 10, .inr (.inl fq))), (ag, .inl (cI, 3, .inl fg))] ++ lmW cI cT xo ta tr br tx hi ra s0 j165) := hD
        refine lv_aload_n hx hb dL_isSo_19 rfl (lv_at hl 1 rfl) ?_
        refine lv_bipush (v := (nI 6)) hx hb dL_isSo_20 (by decide) ?_
        refine lv_iload hx hb dL_isSo_22 (lv_at hl 6 rfl) ?_
        refine lv_imul hx hb dL_isSo_24 ?_
        refine tpe (y := (nI (6 * t9))) (pk_mul _ _) ?_
        refine r_ild (k := (6 * t9)) hx hb hK hP 1 rfl (by omega) (by decide) dL_isSo_25 ?_
        refine tpe (y := (stI s0.1 t9)) (ZA0 hZ (by omega)) ?_
        refine lv_icmp_ne (tgt := 118) hx hb dL_isSo_26 (by decide) (fun h_14 => absurd rfl h_14) (fun h_14 => ?_)
        have h_14 := h_14
        refine lv_aload_n hx hb dL_isSo_29 rfl (lv_at hl 0 rfl) ?_
        refine lv_iload hx hb dL_isSo_30 (lv_at hl 6 rfl) ?_
        refine call_cj (SX := Unit) (X := [(am, .inl (cI, 10, .inl fm)), (aa, .inl (cI, 48, .inl fa)), (aq, .inl (cL, 10, .inr (.inl fq))), (ag, .inl (cI, 3, .inl fg))]) (Wc := lmW cI cT xo ta tr br tx hi ra s0 j165) (Z := []) (pj := (fun _ E => ¬ ((0, s0.1 1 t9, s0) : RS).1 = 0 ∧ E = exI ((0, s0.1 1 t9, s0) : RS).1)) (Wx := (fun _ => lmW cI cT xo ta tr br tx hi ra s0 j165)) (As := [.int (nI t9)]) (rest := []) ⟨hx, hb, hml, hown, hts⟩ (q_workOf l hflag D cI cT xo ta tr br tx hi ra s0 j165 t9 (by omega) hL65) (cwV 1 hts gL_isSo_X4_workOf rfl rfl rfl (by decide +kernel) ⟨Nat.le_of_ble_eq_true rfl, Nat.le_of_ble_eq_true rfl⟩) hK (P_nilG hP) (D_nilG hD) hS hA hX.1 (va_recv hK hP (ci := 4) (q0 := 4) rfl rfl) (fun _ => adr_lm) (fun _ => adr_lm) rfl hl.1 rfl (Nat.le_of_ble_eq_true rfl) ⟨(show cs + 1 + 1 ≤ 416 by omega), (show sl + 6 + 6 ≤ 2496 by omega)⟩ dL_isSo_32 (fun E ce q9 u9 H locs hpx hP hD hS hce hv hcl => absurd rfl hpx.1) (fun rv j166 H locs hp hP hD hS => ?_)
        have hv9 : rv = s0.1 1 t9 := hp.2.1
        rw [hv9]
        have hL66 : LR s0 j166 := hp.2.2
        have hP := P_nilF hP; have hD := D_nilF hD
        have hP : va_P D vwCl ([(am, .inl (cI, 10, .inl fm)), (aa, .inl (cI, 48, .inl fa)), (aq, .inl (cL, 10, .inr (.inl fq))), (ag, .inl (cI, 3, .inl fg))] ++ lmW cI cT xo ta tr br tx hi ra s0 j166) H := hP
        have hD : va_D A ([(am, .inl (cI, 10, .inl fm)), (aa, .inl (cI, 48, .inl fa)), (aq, .inl (cL, 10, .inr (.inl fq))), (ag, .inl (cI, 3, .inl fg))] ++ lmW cI cT xo ta tr br tx hi ra s0 j166) := hD
        refine lv_aload_n hx hb dL_isSo_35 rfl (lv_at hl 1 rfl) ?_
        refine lv_bipush (v := (nI 6)) hx hb dL_isSo_36 (by decide) ?_
        refine lv_iload hx hb dL_isSo_38 (lv_at hl 6 rfl) ?_
        refine lv_imul hx hb dL_isSo_40 ?_
        refine tpe (y := (nI (6 * t9))) (pk_mul _ _) ?_
        refine lv_iconst (v := (nI 1)) hx hb dL_isSo_41 (by decide) ?_
        refine lv_iadd hx hb dL_isSo_42 ?_
        refine tpe (y := (nI (6 * t9 + 1))) (nI_add _ _) ?_
        refine r_ild (k := (6 * t9 + 1)) hx hb hK hP 1 rfl (by omega) (by decide) dL_isSo_43 ?_
        refine tpe (y := (s0.1 1 t9)) (ZA1 hZ (by omega)) ?_
        refine lv_icmp_ne (tgt := 118) hx hb dL_isSo_44 (by decide) (fun h_15 => absurd rfl h_15) (fun h_15 => ?_)
        have h_15 := h_15
        refine lv_aload_n hx hb dL_isSo_47 rfl (lv_at hl 0 rfl) ?_
        refine lv_iload hx hb dL_isSo_48 (lv_at hl 6 rfl) ?_
        refine call_cj (SX := Unit) (X := [(am, .inl (cI, 10, .inl fm)), (aa, .inl (cI, 48, .inl fa)), (aq, .inl (cL, 10, .inr (.inl fq))), (ag, .inl (cI, 3, .inl fg))]) (Wc := lmW cI cT xo ta tr br tx hi ra s0 j166) (Z := []) (pj := (fun _ E => ¬ ((0, s0.1 2 t9, s0) : RS).1 = 0 ∧ E = exI ((0, s0.1 2 t9, s0) : RS).1)) (Wx := (fun _ => lmW cI cT xo ta tr br tx hi ra s0 j166)) (As := [.int (nI t9)]) (rest := []) ⟨hx, hb, hml, hown, hts⟩ (q_abortsOf l hflag D cI cT xo ta tr br tx hi ra s0 j166 t9 (by omega) hL66) (cwV 1 hts gL_isSo_X4_abortsOf rfl rfl rfl (by decide +kernel) ⟨Nat.le_of_ble_eq_true rfl, Nat.le_of_ble_eq_true rfl⟩) hK (P_nilG hP) (D_nilG hD) hS hA hX.1 (va_recv hK hP (ci := 4) (q0 := 4) rfl rfl) (fun _ => adr_lm) (fun _ => adr_lm) rfl hl.1 rfl (Nat.le_of_ble_eq_true rfl) ⟨(show cs + 1 + 1 + 1 ≤ 416 by omega), (show sl + 6 + 6 + 6 ≤ 2496 by omega)⟩ dL_isSo_50 (fun E ce q9 u9 H locs hpx hP hD hS hce hv hcl => absurd rfl hpx.1) (fun rv j167 H locs hp hP hD hS => ?_)
        have hv9 : rv = s0.1 2 t9 := hp.2.1
        rw [hv9]
        have hL67 : LR s0 j167 := hp.2.2
        have hP := P_nilF hP; have hD := D_nilF hD
        have hP : va_P D vwCl ([(am, .inl (cI, 10, .inl fm)), (aa, .inl (cI, 48, .inl fa)), (aq, .inl (cL, 10, .inr (.inl fq))), (ag, .inl (cI, 3, .inl fg))] ++ lmW cI cT xo ta tr br tx hi ra s0 j167) H := hP
        have hD : va_D A ([(am, .inl (cI, 10, .inl fm)), (aa, .inl (cI, 48, .inl fa)), (aq, .inl (cL, 10, .inr (.inl fq))), (ag, .inl (cI, 3, .inl fg))] ++ lmW cI cT xo ta tr br tx hi ra s0 j167) := hD
        refine lv_aload_n hx hb dL_isSo_53 rfl (lv_at hl 1 rfl) ?_
        refine lv_bipush (v := (nI 6)) hx hb dL_isSo_54 (by decide) ?_
        refine lv_iload hx hb dL_isSo_56 (lv_at hl 6 rfl) ?_
        refine lv_imul hx hb dL_isSo_58 ?_
        refine tpe (y := (nI (6 * t9))) (pk_mul _ _) ?_
        refine lv_iconst (v := (nI 2)) hx hb dL_isSo_59 (by decide) ?_
        refine lv_iadd hx hb dL_isSo_60 ?_
        refine tpe (y := (nI (6 * t9 + 2))) (nI_add _ _) ?_
        refine r_ild (k := (6 * t9 + 2)) hx hb hK hP 1 rfl (by omega) (by decide) dL_isSo_61 ?_
        refine tpe (y := (s0.1 2 t9)) (ZA2 hZ (by omega)) ?_
        refine lv_icmp_ne (tgt := 118) hx hb dL_isSo_62 (by decide) (fun h_16 => absurd rfl h_16) (fun h_16 => ?_)
        have h_16 := h_16
        refine lv_aload_n hx hb dL_isSo_65 rfl (lv_at hl 0 rfl) ?_
        refine lv_iload hx hb dL_isSo_66 (lv_at hl 6 rfl) ?_
        refine call_cj (SX := Unit) (X := [(am, .inl (cI, 10, .inl fm)), (aa, .inl (cI, 48, .inl fa)), (aq, .inl (cL, 10, .inr (.inl fq))), (ag, .inl (cI, 3, .inl fg))]) (Wc := lmW cI cT xo ta tr br tx hi ra s0 j167) (Z := []) (pj := (fun _ E => ¬ ((0, s0.1 0 t9, s0) : RS).1 = 0 ∧ E = exI ((0, s0.1 0 t9, s0) : RS).1)) (Wx := (fun _ => lmW cI cT xo ta tr br tx hi ra s0 j167)) (As := [.int (nI t9)]) (rest := []) ⟨hx, hb, hml, hown, hts⟩ (q_birthOf l hflag D cI cT xo ta tr br tx hi ra s0 j167 t9 (by omega) hL67) (cwV 1 hts gL_isSo_X4_birthOf rfl rfl rfl (by decide +kernel) ⟨Nat.le_of_ble_eq_true rfl, Nat.le_of_ble_eq_true rfl⟩) hK (P_nilG hP) (D_nilG hD) hS hA hX.1 (va_recv hK hP (ci := 4) (q0 := 4) rfl rfl) (fun _ => adr_lm) (fun _ => adr_lm) rfl hl.1 rfl (Nat.le_of_ble_eq_true rfl) ⟨(show cs + 1 + 1 + 1 + 1 ≤ 416 by omega), (show sl + 6 + 6 + 6 + 6 ≤ 2496 by omega)⟩ dL_isSo_68 (fun E ce q9 u9 H locs hpx hP hD hS hce hv hcl => absurd rfl hpx.1) (fun rv j168 H locs hp hP hD hS => ?_)
        have hv9 : rv = s0.1 0 t9 := hp.2.1
        rw [hv9]
        have hL68 : LR s0 j168 := hp.2.2
        have hP := P_nilF hP; have hD := D_nilF hD
        have hP : va_P D vwCl ([(am, .inl (cI, 10, .inl fm)), (aa, .inl (cI, 48, .inl fa)), (aq, .inl (cL, 10, .inr (.inl fq))), (ag, .inl (cI, 3, .inl fg))] ++ lmW cI cT xo ta tr br tx hi ra s0 j168) H := hP
        have hD : va_D A ([(am, .inl (cI, 10, .inl fm)), (aa, .inl (cI, 48, .inl fa)), (aq, .inl (cL, 10, .inr (.inl fq))), (ag, .inl (cI, 3, .inl fg))] ++ lmW cI cT xo ta tr br tx hi ra s0 j168) := hD
        refine lv_aload_n hx hb dL_isSo_71 rfl (lv_at hl 1 rfl) ?_
        refine lv_bipush (v := (nI 6)) hx hb dL_isSo_72 (by decide) ?_
        refine lv_iload hx hb dL_isSo_74 (lv_at hl 6 rfl) ?_
        refine lv_imul hx hb dL_isSo_76 ?_
        refine tpe (y := (nI (6 * t9))) (pk_mul _ _) ?_
        refine lv_iconst (v := (nI 3)) hx hb dL_isSo_77 (by decide) ?_
        refine lv_iadd hx hb dL_isSo_78 ?_
        refine tpe (y := (nI (6 * t9 + 3))) (nI_add _ _) ?_
        refine r_ild (k := (6 * t9 + 3)) hx hb hK hP 1 rfl (by omega) (by decide) dL_isSo_79 ?_
        refine tpe (y := (s0.1 0 t9)) (ZA3 hZ (by omega)) ?_
        refine lv_icmp_ne (tgt := 118) hx hb dL_isSo_80 (by decide) (fun h_17 => absurd rfl h_17) (fun h_17 => ?_)
        have h_17 := h_17
        refine lv_aload_n hx hb dL_isSo_83 rfl (lv_at hl 0 rfl) ?_
        refine lv_iload hx hb dL_isSo_84 (lv_at hl 6 rfl) ?_
        refine call_cj (SX := Unit) (X := [(am, .inl (cI, 10, .inl fm)), (aa, .inl (cI, 48, .inl fa)), (aq, .inl (cL, 10, .inr (.inl fq))), (ag, .inl (cI, 3, .inl fg))]) (Wc := lmW cI cT xo ta tr br tx hi ra s0 j168) (Z := []) (pj := (fun _ E => ¬ ((0, s0.1 3 t9, s0) : RS).1 = 0 ∧ E = exI ((0, s0.1 3 t9, s0) : RS).1)) (Wx := (fun _ => lmW cI cT xo ta tr br tx hi ra s0 j168)) (As := [.int (nI t9)]) (rest := []) ⟨hx, hb, hml, hown, hts⟩ (q_awaited l hflag D cI cT xo ta tr br tx hi ra s0 j168 t9 (by omega) hL68) (cwV 1 hts gL_isSo_X4_awaited rfl rfl rfl (by decide +kernel) ⟨Nat.le_of_ble_eq_true rfl, Nat.le_of_ble_eq_true rfl⟩) hK (P_nilG hP) (D_nilG hD) hS hA hX.1 (va_recv hK hP (ci := 4) (q0 := 4) rfl rfl) (fun _ => adr_lm) (fun _ => adr_lm) rfl hl.1 rfl (Nat.le_of_ble_eq_true rfl) ⟨(show cs + 1 + 1 + 1 + 1 + 1 ≤ 416 by omega), (show sl + 6 + 6 + 6 + 6 + 6 ≤ 2496 by omega)⟩ dL_isSo_86 (fun E ce q9 u9 H locs hpx hP hD hS hce hv hcl => absurd rfl hpx.1) (fun rv j169 H locs hp hP hD hS => ?_)
        have hv9 : rv = s0.1 3 t9 := hp.2.1
        rw [hv9]
        have hL69 : LR s0 j169 := hp.2.2
        have hP := P_nilF hP; have hD := D_nilF hD
        have hP : va_P D vwCl ([(am, .inl (cI, 10, .inl fm)), (aa, .inl (cI, 48, .inl fa)), (aq, .inl (cL, 10, .inr (.inl fq))), (ag, .inl (cI, 3, .inl fg))] ++ lmW cI cT xo ta tr br tx hi ra s0 j169) H := hP
        have hD : va_D A ([(am, .inl (cI, 10, .inl fm)), (aa, .inl (cI, 48, .inl fa)), (aq, .inl (cL, 10, .inr (.inl fq))), (ag, .inl (cI, 3, .inl fg))] ++ lmW cI cT xo ta tr br tx hi ra s0 j169) := hD
        refine lv_aload_n hx hb dL_isSo_89 rfl (lv_at hl 1 rfl) ?_
        refine lv_bipush (v := (nI 6)) hx hb dL_isSo_90 (by decide) ?_
        refine lv_iload hx hb dL_isSo_92 (lv_at hl 6 rfl) ?_
        refine lv_imul hx hb dL_isSo_94 ?_
        refine tpe (y := (nI (6 * t9))) (pk_mul _ _) ?_
        refine lv_iconst (v := (nI 4)) hx hb dL_isSo_95 (by decide) ?_
        refine lv_iadd hx hb dL_isSo_96 ?_
        refine tpe (y := (nI (6 * t9 + 4))) (nI_add _ _) ?_
        refine r_ild (k := (6 * t9 + 4)) hx hb hK hP 1 rfl (by omega) (by decide) dL_isSo_97 ?_
        refine tpe (y := (s0.1 3 t9)) (ZA4 hZ (by omega)) ?_
        refine lv_icmp_ne (tgt := 118) hx hb dL_isSo_98 (by decide) (fun h_18 => absurd rfl h_18) (fun h_18 => ?_)
        have h_18 := h_18
        refine lv_aload_n hx hb dL_isSo_101 rfl (lv_at hl 0 rfl) ?_
        refine lv_iload hx hb dL_isSo_102 (lv_at hl 6 rfl) ?_
        refine call_cj (SX := Unit) (X := [(am, .inl (cI, 10, .inl fm)), (aa, .inl (cI, 48, .inl fa)), (aq, .inl (cL, 10, .inr (.inl fq))), (ag, .inl (cI, 3, .inl fg))]) (Wc := lmW cI cT xo ta tr br tx hi ra s0 j169) (Z := []) (pj := (fun _ E => ¬ ((0, nI (aWS s0.1 s0.2.1 t9), s0) : RS).1 = 0 ∧ E = exI ((0, nI (aWS s0.1 s0.2.1 t9), s0) : RS).1)) (Wx := (fun _ => lmW cI cT xo ta tr br tx hi ra s0 j169)) (As := [.int (nI t9)]) (rest := []) ⟨hx, hb, hml, hown, hts⟩ (q_waitsFor l hflag D cI cT xo ta tr br tx hi ra s0 j169 t9 (by omega) hL69) (cwV 1 hts gL_isSo_X4_waitsFor rfl rfl rfl (by decide +kernel) ⟨Nat.le_of_ble_eq_true rfl, Nat.le_of_ble_eq_true rfl⟩) hK (P_nilG hP) (D_nilG hD) hS hA hX.1 (va_recv hK hP (ci := 4) (q0 := 4) rfl rfl) (fun _ => adr_lm) (fun _ => adr_lm) rfl hl.1 rfl (Nat.le_of_ble_eq_true rfl) ⟨(show cs + 1 + 1 + 1 + 1 + 1 + 1 ≤ 416 by omega), (show sl + 6 + 6 + 6 + 6 + 6 + 6 ≤ 2496 by omega)⟩ dL_isSo_104 (fun E ce q9 u9 H locs hpx hP hD hS hce hv hcl => absurd rfl hpx.1) (fun rv j170 H locs hp hP hD hS => ?_)
        have hv9 : rv = nI (aWS s0.1 s0.2.1 t9) := hp.2.1
        rw [hv9]
        have hL70 : LR s0 j170 := hp.2.2
        have hP := P_nilF hP; have hD := D_nilF hD
        have hP : va_P D vwCl ([(am, .inl (cI, 10, .inl fm)), (aa, .inl (cI, 48, .inl fa)), (aq, .inl (cL, 10, .inr (.inl fq))), (ag, .inl (cI, 3, .inl fg))] ++ lmW cI cT xo ta tr br tx hi ra s0 j170) H := hP
        have hD : va_D A ([(am, .inl (cI, 10, .inl fm)), (aa, .inl (cI, 48, .inl fa)), (aq, .inl (cL, 10, .inr (.inl fq))), (ag, .inl (cI, 3, .inl fg))] ++ lmW cI cT xo ta tr br tx hi ra s0 j170) := hD
        refine lv_aload_n hx hb dL_isSo_107 rfl (lv_at hl 1 rfl) ?_
        refine lv_aload_n hx hb dL_isSo_108 rfl (lv_at hl 2 rfl) ?_
        refine lv_aload_n hx hb dL_isSo_109 rfl (lv_at hl 3 rfl) ?_
        refine lv_iload hx hb dL_isSo_110 (lv_at hl 6 rfl) ?_
        refine call_lB (X := []) (Wc := [(am, .inl (cI, 10, .inl fm)), (aa, .inl (cI, 48, .inl fa)), (aq, .inl (cL, 10, .inr (.inl fq)))]) (Z := [(ag, .inl (cI, 3, .inl fg))]) (LM := lmW cI cT xo ta tr br tx hi ra s0 j170) (As := [.ref aa, .ref am, .ref aq, .int (nI t9)]) (rest := [.int (nI (aWS s0.1 s0.2.1 t9))]) ⟨hx, hb, hml, hown, hts⟩ (c_L_waitsFor l D cI cT cL am aa aq fm fa fq s0.1 s0.2.1 t9 (by omega) hJ hM hZ hQL) (va_cwS 4 hts gL_isSo_L_waitsFor rfl rfl rfl (by decide +kernel) ⟨Nat.le_of_ble_eq_true rfl, Nat.le_of_ble_eq_true rfl⟩) hKL hP hD hS hA (fun _ => adw3) rfl hl.1 rfl (Nat.le_of_ble_eq_true rfl) ⟨(show cs + 1 + 1 + 1 + 1 + 1 + 1 ≤ 416 by omega), (show sl + 6 + 6 + 6 + 6 + 6 + 6 ≤ 2496 by omega)⟩ dL_isSo_112 (fun rv uu H locs hp hP hD hS => ?_)
        obtain rfl := hp
        have hP : va_P D vwCl ([(am, .inl (cI, 10, .inl fm)), (aa, .inl (cI, 48, .inl fa)), (aq, .inl (cL, 10, .inr (.inl fq))), (ag, .inl (cI, 3, .inl fg))] ++ lmW cI cT xo ta tr br tx hi ra s0 j170) H := hP
        have hD : va_D A ([(am, .inl (cI, 10, .inl fm)), (aa, .inl (cI, 48, .inl fa)), (aq, .inl (cL, 10, .inr (.inl fq))), (ag, .inl (cI, 3, .inl fg))] ++ lmW cI cT xo ta tr br tx hi ra s0 j170) := hD
        refine lv_icmp_eq (tgt := 120) hx hb dL_isSo_115 (by decide) (fun h_19 => ?_) (fun h_19 => absurd rfl h_19)
        have h_19 := h_19
        refine lv_iconst (v := (nI 0)) hx hb dL_isSo_120 (by decide) ?_
        refine lv_istore (lv' := [(7, .int (nI 0)), (0, .ref (xo 0)), (1, .ref aa), (2, .ref am), (3, .ref aq), (4, .ref ag), (5, .int (nI (smN (fun t => smN (fun r => if hldB s0.1 r t then 1 else 0) 10) t9))), (6, .int (nI t9))]) hx hb dL_isSo_121 hl (by decide) rfl (fun ls hl => ?_)
        refine lv_iconst (v := (nI 0)) hx hb dL_isSo_123 (by decide) ?_
        refine lv_istore (lv' := [(8, .int (nI 0)), (7, .int (nI 0)), (0, .ref (xo 0)), (1, .ref aa), (2, .ref am), (3, .ref aq), (4, .ref ag), (5, .int (nI (smN (fun t => smN (fun r => if hldB s0.1 r t then 1 else 0) 10) t9))), (6, .int (nI t9))]) hx hb dL_isSo_124 hl (by decide) rfl (fun ls hl => ?_)
        have L126 : ∀ (N : Nat) (w9 : Nat), (w9 ≤ 8) → (8 - w9) < N → ∀ (H : Heap) (locs : List Loc), va_P D vwCl ([(am, .inl (cI, 10, .inl fm)), (aa, .inl (cI, 48, .inl fa)), (aq, .inl (cL, 10, .inr (.inl fq))), (ag, .inl (cI, 3, .inl fg))] ++ lmW cI cT xo ta tr br tx hi ra s0 j170) H → va_D A ([(am, .inl (cI, 10, .inl fm)), (aa, .inl (cI, 48, .inl fa)), (aq, .inl (cL, 10, .inr (.inl fq))), (ag, .inl (cI, 3, .inl fg))] ++ lmW cI cT xo ta tr br tx hi ra s0 j170) → va_S A s.heap H locs → ∀ ls : Array Slot, lv_has ls 10 [(0, .ref (xo 0)), (1, .ref aa), (2, .ref am), (3, .ref aq), (4, .ref ag), (5, .int (nI (smN (fun t => smN (fun r => if hldB s0.1 r t then 1 else 0) 10) t9))), (6, .int (nI t9)), (7, .int (nI (0 + smN (fun w => if blB s0.1 s0.2.1 t9 w then 1 else 0) w9))), (8, .int (nI w9))] → W p l e rL_isSo s m args below meth c H locs (cs + 1 + 1 + 1 + 1 + 1 + 1) (sl + 6 + 6 + 6 + 6 + 6 + 6) Q (F0 m 126 ls []) := by
          intro N126
          induction N126 with
          | zero => intro w9 hw9 hN; exact absurd hN (Nat.not_lt_zero _)
          | succ N126 ih126 =>
            intro w9 hw9 hN H locs hP hD hS ls hl
            refine lv_iload hx hb dL_isSo_126 (lv_at hl 8 rfl) ?_
            refine lv_bipush (v := (nI 8)) hx hb dL_isSo_128 (by decide) ?_
            refine lv_icmp_ge (tgt := 171) hx hb dL_isSo_130 (by decide) (fun h_20 => ?_) (fun h_20 => ?_)
            · have h_20 := (nI_leI (a := 8) (b := w9) (by decide) (by omega)).mp h_20
              refine lv_aload_n hx hb dL_isSo_171 rfl (lv_at hl 0 rfl) ?_
              refine lv_iload hx hb dL_isSo_172 (lv_at hl 6 rfl) ?_
              refine call_cj (SX := Unit) (X := [(am, .inl (cI, 10, .inl fm)), (aa, .inl (cI, 48, .inl fa)), (aq, .inl (cL, 10, .inr (.inl fq))), (ag, .inl (cI, 3, .inl fg))]) (Wc := lmW cI cT xo ta tr br tx hi ra s0 j170) (Z := []) (pj := (fun _ E => ¬ ((0, nI (pcN (bits (fun u => (clR s0.1 s0.2.1 (aWS s0.1 s0.2.1 t9) 7).testBit u && decide (u ≠ t9)) 8) 8), s0) : RS).1 = 0 ∧ E = exI ((0, nI (pcN (bits (fun u => (clR s0.1 s0.2.1 (aWS s0.1 s0.2.1 t9) 7).testBit u && decide (u ≠ t9)) 8) 8), s0) : RS).1)) (Wx := (fun _ => lmW cI cT xo ta tr br tx hi ra s0 j170)) (As := [.int (nI t9)]) (rest := []) ⟨hx, hb, hml, hown, hts⟩ (q_blockers l hflag D cI cT xo ta tr br tx hi ra s0 j170 t9 (by omega) hL70) (cwV 1 hts gL_isSo_X4_blockers rfl rfl rfl (by decide +kernel) ⟨Nat.le_of_ble_eq_true rfl, Nat.le_of_ble_eq_true rfl⟩) hK (P_nilG hP) (D_nilG hD) hS hA hX.1 (va_recv hK hP (ci := 4) (q0 := 4) rfl rfl) (fun _ => adr_lm) (fun _ => adr_lm) rfl hl.1 rfl (Nat.le_of_ble_eq_true rfl) ⟨(show cs + 1 + 1 + 1 + 1 + 1 + 1 + 1 ≤ 416 by omega), (show sl + 6 + 6 + 6 + 6 + 6 + 6 + 6 ≤ 2496 by omega)⟩ dL_isSo_174 (fun E ce q9 u9 H locs hpx hP hD hS hce hv hcl => absurd rfl hpx.1) (fun rv j171 H locs hp hP hD hS => ?_)
              have hv9 : rv = nI (pcN (bits (fun u => (clR s0.1 s0.2.1 (aWS s0.1 s0.2.1 t9) 7).testBit u && decide (u ≠ t9)) 8) 8) := hp.2.1
              rw [hv9]
              have hL71 : LR s0 j171 := hp.2.2
              have hP := P_nilF hP; have hD := D_nilF hD
              have hP : va_P D vwCl ([(am, .inl (cI, 10, .inl fm)), (aa, .inl (cI, 48, .inl fa)), (aq, .inl (cL, 10, .inr (.inl fq))), (ag, .inl (cI, 3, .inl fg))] ++ lmW cI cT xo ta tr br tx hi ra s0 j171) H := hP
              have hD : va_D A ([(am, .inl (cI, 10, .inl fm)), (aa, .inl (cI, 48, .inl fa)), (aq, .inl (cL, 10, .inr (.inl fq))), (ag, .inl (cI, 3, .inl fg))] ++ lmW cI cT xo ta tr br tx hi ra s0 j171) := hD
              refine lv_iload hx hb dL_isSo_177 (lv_at hl 7 rfl) ?_
              refine lv_icmp_eq (tgt := 184) hx hb dL_isSo_179 (by decide) (fun h_21 => ?_) (fun h_21 => absurd ((congrArg nI (blk_eq (show t9 < 8 by omega))).trans (by rw [show w9 = 8 by omega, Nat.zero_add])) h_21)
              have h_21 := h_21
              refine lv_iconst (v := (nI 0)) hx hb dL_isSo_184 (by decide) ?_
              refine lv_istore (lv' := [(8, .int (nI 0)), (0, .ref (xo 0)), (1, .ref aa), (2, .ref am), (3, .ref aq), (4, .ref ag), (5, .int (nI (smN (fun t => smN (fun r => if hldB s0.1 r t then 1 else 0) 10) t9))), (6, .int (nI t9)), (7, .int (nI (0 + smN (fun w => if blB s0.1 s0.2.1 t9 w then 1 else 0) w9)))]) hx hb dL_isSo_185 hl (by decide) rfl (fun ls hl => ?_)
              have L187 : ∀ (N : Nat) (r9 : Nat) (jj : JT) (cs : Nat) (sl : Nat), (r9 ≤ 10) → (LR s0 jj) → (cs ≤ 27 * t9 + 7 + 2 * r9) → (sl ≤ 162 * t9 + 42 + 12 * r9) → (10 - r9) < N → ∀ (H : Heap) (locs : List Loc), va_P D vwCl ([(am, .inl (cI, 10, .inl fm)), (aa, .inl (cI, 48, .inl fa)), (aq, .inl (cL, 10, .inr (.inl fq))), (ag, .inl (cI, 3, .inl fg))] ++ lmW cI cT xo ta tr br tx hi ra s0 jj) H → va_D A ([(am, .inl (cI, 10, .inl fm)), (aa, .inl (cI, 48, .inl fa)), (aq, .inl (cL, 10, .inr (.inl fq))), (ag, .inl (cI, 3, .inl fg))] ++ lmW cI cT xo ta tr br tx hi ra s0 jj) → va_S A s.heap H locs → ∀ ls : Array Slot, lv_has ls 10 [(0, .ref (xo 0)), (1, .ref aa), (2, .ref am), (3, .ref aq), (4, .ref ag), (5, .int (nI (smN (fun t => smN (fun r => if hldB s0.1 r t then 1 else 0) 10) t9 + smN (fun r => if hldB s0.1 r t9 then 1 else 0) r9))), (6, .int (nI t9)), (8, .int (nI r9))] → W p l e rL_isSo s m args below meth c H locs cs sl Q (F0 m 187 ls []) := by
                intro N187
                induction N187 with
                | zero => intro r9 jj cs sl hr9 hLL hcs hsl hN; exact absurd hN (Nat.not_lt_zero _)
                | succ N187 ih187 =>
                  intro r9 jj cs sl hr9 hLL hcs hsl hN H locs hP hD hS ls hl
                  refine lv_iload hx hb dL_isSo_187 (lv_at hl 7 rfl) ?_
                  refine lv_bipush (v := (nI 10)) hx hb dL_isSo_189 (by decide) ?_
                  refine lv_icmp_ge (tgt := 242) hx hb dL_isSo_191 (by decide) (fun h_22 => ?_) (fun h_22 => ?_)
                  · have h_22 := (nI_leI (a := 10) (b := r9) (by decide) (by omega)).mp h_22
                    refine lv_iinc (v := (nI (t9 + 1))) (lv' := [(6, .int (nI (t9 + 1))), (0, .ref (xo 0)), (1, .ref aa), (2, .ref am), (3, .ref aq), (4, .ref ag), (5, .int (nI (smN (fun t => smN (fun r => if hldB s0.1 r t then 1 else 0) 10) t9 + smN (fun r => if hldB s0.1 r t9 then 1 else 0) r9))), (8, .int (nI r9))]) hx hb dL_isSo_242 hl (k := 6) rfl (nI_add _ 1) (by decide) rfl (fun ls hl => ?_)
                    refine lv_goto (tgt := 6) hx hb dL_isSo_245 (by decide) ?_
                    rw [show (nI (smN (fun t => smN (fun r => if hldB s0.1 r t then 1 else 0) 10) t9 + smN (fun r => if hldB s0.1 r t9 then 1 else 0) r9)) = (nI (smN (fun t => smN (fun r => if hldB s0.1 r t then 1 else 0) 10) (t9 + 1))) from (by rw [show r9 = 10 by omega]; rfl)] at hl
                    exact ih6 (t9 + 1) jj cs sl (by omega) hLL (by omega) (by omega) (by omega) _ _ hP hD hS _ (lv_sub hl [1, 2, 3, 4, 5, 6, 0] rfl)
                  · have h_22 := mt (nI_leI (a := 10) (b := r9) (by decide) (by omega)).mpr h_22
                    refine lv_aload_n hx hb dL_isSo_194 rfl (lv_at hl 0 rfl) ?_
                    refine lv_iload hx hb dL_isSo_195 (lv_at hl 6 rfl) ?_
                    refine lv_iload hx hb dL_isSo_197 (lv_at hl 7 rfl) ?_
                    refine call_cj (SX := Unit) (X := [(am, .inl (cI, 10, .inl fm)), (aa, .inl (cI, 48, .inl fa)), (aq, .inl (cL, 10, .inr (.inl fq))), (ag, .inl (cI, 3, .inl fg))]) (Wc := lmW cI cT xo ta tr br tx hi ra s0 jj) (Z := []) (pj := (fun _ E => ¬ ((0, lk s0.1 t9 r9, s0) : RS).1 = 0 ∧ E = exI ((0, lk s0.1 t9 r9, s0) : RS).1)) (Wx := (fun _ => lmW cI cT xo ta tr br tx hi ra s0 jj)) (As := [.int (nI t9), .int (nI r9)]) (rest := []) ⟨hx, hb, hml, hown, hts⟩ (q_held l hflag D cI cT xo ta tr br tx hi ra s0 jj t9 r9 (by omega) (by omega) hLL) (cwV 2 hts gL_isSo_X4_held rfl rfl rfl (by decide +kernel) ⟨Nat.le_of_ble_eq_true rfl, Nat.le_of_ble_eq_true rfl⟩) hK (P_nilG hP) (D_nilG hD) hS hA hX.1 (va_recv hK hP (ci := 4) (q0 := 4) rfl rfl) (fun _ => adr_lm) (fun _ => adr_lm) rfl hl.1 rfl (Nat.le_of_ble_eq_true rfl) ⟨(show cs + 2 ≤ 416 by omega), (show sl + 12 ≤ 2496 by omega)⟩ dL_isSo_199 (fun E ce q9 u9 H locs hpx hP hD hS hce hv hcl => absurd rfl hpx.1) (fun rv j172 H locs hp hP hD hS => ?_)
                    have hv9 : rv = lk s0.1 t9 r9 := hp.2.1
                    rw [hv9]
                    have hL72 : LR s0 j172 := hp.2.2
                    have hP := P_nilF hP; have hD := D_nilF hD
                    have hP : va_P D vwCl ([(am, .inl (cI, 10, .inl fm)), (aa, .inl (cI, 48, .inl fa)), (aq, .inl (cL, 10, .inr (.inl fq))), (ag, .inl (cI, 3, .inl fg))] ++ lmW cI cT xo ta tr br tx hi ra s0 j172) H := hP
                    have hD : va_D A ([(am, .inl (cI, 10, .inl fm)), (aa, .inl (cI, 48, .inl fa)), (aq, .inl (cL, 10, .inr (.inl fq))), (ag, .inl (cI, 3, .inl fg))] ++ lmW cI cT xo ta tr br tx hi ra s0 j172) := hD
                    refine lv_aload_n hx hb dL_isSo_202 rfl (lv_at hl 2 rfl) ?_
                    refine lv_iload hx hb dL_isSo_203 (lv_at hl 6 rfl) ?_
                    refine lv_iload hx hb dL_isSo_205 (lv_at hl 7 rfl) ?_
                    refine call_lB (X := []) (Wc := [(am, .inl (cI, 10, .inl fm))]) (Z := [(aa, .inl (cI, 48, .inl fa)), (aq, .inl (cL, 10, .inr (.inl fq))), (ag, .inl (cI, 3, .inl fg))]) (LM := lmW cI cT xo ta tr br tx hi ra s0 j172) (As := [.ref am, .int (nI t9), .int (nI r9)]) (rest := [.int (lk s0.1 t9 r9)]) ⟨hx, hb, hml, hown, hts⟩ (c_L_lock l D cI cT cL am fm s0.1 s0.2.1 t9 r9 (by omega) (by omega) hJ hM) (va_cwS 3 hts gL_isSo_L_lock rfl rfl rfl (by decide +kernel) ⟨Nat.le_of_ble_eq_true rfl, Nat.le_of_ble_eq_true rfl⟩) hKL hP hD hS hA (fun _ => adw1) rfl hl.1 rfl (Nat.le_of_ble_eq_true rfl) ⟨(show cs + 2 ≤ 416 by omega), (show sl + 12 ≤ 2496 by omega)⟩ dL_isSo_207 (fun rv uu H locs hp hP hD hS => ?_)
                    obtain rfl := hp
                    have hP : va_P D vwCl ([(am, .inl (cI, 10, .inl fm)), (aa, .inl (cI, 48, .inl fa)), (aq, .inl (cL, 10, .inr (.inl fq))), (ag, .inl (cI, 3, .inl fg))] ++ lmW cI cT xo ta tr br tx hi ra s0 j172) H := hP
                    have hD : va_D A ([(am, .inl (cI, 10, .inl fm)), (aa, .inl (cI, 48, .inl fa)), (aq, .inl (cL, 10, .inr (.inl fq))), (ag, .inl (cI, 3, .inl fg))] ++ lmW cI cT xo ta tr br tx hi ra s0 j172) := hD
                    refine lv_icmp_eq (tgt := 215) hx hb dL_isSo_210 (by decide) (fun h_23 => ?_) (fun h_23 => absurd rfl h_23)
                    have h_23 := h_23
                    refine lv_iload hx hb dL_isSo_215 (lv_at hl 5 rfl) ?_
                    refine lv_aload_n hx hb dL_isSo_217 rfl (lv_at hl 2 rfl) ?_
                    refine lv_iload hx hb dL_isSo_218 (lv_at hl 6 rfl) ?_
                    refine lv_iload hx hb dL_isSo_220 (lv_at hl 7 rfl) ?_
                    refine call_lB (X := []) (Wc := [(am, .inl (cI, 10, .inl fm))]) (Z := [(aa, .inl (cI, 48, .inl fa)), (aq, .inl (cL, 10, .inr (.inl fq))), (ag, .inl (cI, 3, .inl fg))]) (LM := lmW cI cT xo ta tr br tx hi ra s0 j172) (As := [.ref am, .int (nI t9), .int (nI r9)]) (rest := [.int (nI (smN (fun t => smN (fun r => if hldB s0.1 r t then 1 else 0) 10) t9 + smN (fun r => if hldB s0.1 r t9 then 1 else 0) r9))]) ⟨hx, hb, hml, hown, hts⟩ (c_L_lock l D cI cT cL am fm s0.1 s0.2.1 t9 r9 (by omega) (by omega) hJ hM) (va_cwS 3 hts gL_isSo_L_lock rfl rfl rfl (by decide +kernel) ⟨Nat.le_of_ble_eq_true rfl, Nat.le_of_ble_eq_true rfl⟩) hKL hP hD hS hA (fun _ => adw1) rfl hl.1 rfl (Nat.le_of_ble_eq_true rfl) ⟨(show cs + 2 ≤ 416 by omega), (show sl + 12 ≤ 2496 by omega)⟩ dL_isSo_222 (fun rv uu H locs hp hP hD hS => ?_)
                    obtain rfl := hp
                    have hP : va_P D vwCl ([(am, .inl (cI, 10, .inl fm)), (aa, .inl (cI, 48, .inl fa)), (aq, .inl (cL, 10, .inr (.inl fq))), (ag, .inl (cI, 3, .inl fg))] ++ lmW cI cT xo ta tr br tx hi ra s0 j172) H := hP
                    have hD : va_D A ([(am, .inl (cI, 10, .inl fm)), (aa, .inl (cI, 48, .inl fa)), (aq, .inl (cL, 10, .inr (.inl fq))), (ag, .inl (cI, 3, .inl fg))] ++ lmW cI cT xo ta tr br tx hi ra s0 j172) := hD
                    refine lv_if_le (tgt := 232) hx hb dL_isSo_225 (by decide) (fun h_24 => ?_) (fun h_24 => ?_)
                    · have h_24 := h_24
                      refine lv_iconst (v := (nI 0)) hx hb dL_isSo_232 (by decide) ?_
                      refine lv_iadd hx hb dL_isSo_233 ?_
                      refine tpe (y := (nI (smN (fun t => smN (fun r => if hldB s0.1 r t then 1 else 0) 10) t9 + smN (fun r => if hldB s0.1 r t9 then 1 else 0) r9 + 0))) (nI_add _ _) ?_
                      refine lv_istore (lv' := [(5, .int (nI (smN (fun t => smN (fun r => if hldB s0.1 r t then 1 else 0) 10) t9 + smN (fun r => if hldB s0.1 r t9 then 1 else 0) r9 + 0))), (0, .ref (xo 0)), (1, .ref aa), (2, .ref am), (3, .ref aq), (4, .ref ag), (6, .int (nI t9)), (8, .int (nI r9))]) hx hb dL_isSo_234 hl (by decide) rfl (fun ls hl => ?_)
                      refine lv_iinc (v := (nI (r9 + 1))) (lv' := [(8, .int (nI (r9 + 1))), (5, .int (nI (smN (fun t => smN (fun r => if hldB s0.1 r t then 1 else 0) 10) t9 + smN (fun r => if hldB s0.1 r t9 then 1 else 0) r9 + 0))), (0, .ref (xo 0)), (1, .ref aa), (2, .ref am), (3, .ref aq), (4, .ref ag), (6, .int (nI t9))]) hx hb dL_isSo_236 hl (k := 7) rfl (nI_add _ 1) (by decide) rfl (fun ls hl => ?_)
                      refine lv_goto (tgt := 187) hx hb dL_isSo_239 (by decide) ?_
                      rw [show (nI (smN (fun t => smN (fun r => if hldB s0.1 r t then 1 else 0) 10) t9 + smN (fun r => if hldB s0.1 r t9 then 1 else 0) r9 + 0)) = (nI (smN (fun t => smN (fun r => if hldB s0.1 r t then 1 else 0) 10) t9 + smN (fun r => if hldB s0.1 r t9 then 1 else 0) (r9 + 1))) from (sm_f (g := fun r => hldB s0.1 r t9) (hl_n hJ (show t9 < 8 by omega) (show r9 < 10 by omega) h_24))] at hl
                      exact ih187 (r9 + 1) j172 (cs + 2) (sl + 12) (by omega) hL72 (by omega) (by omega) (by omega) _ _ hP hD hS _ (lv_sub hl [2, 3, 4, 5, 6, 1, 7, 0] rfl)
                    · have h_24 := h_24
                      refine lv_iconst (v := (nI 1)) hx hb dL_isSo_228 (by decide) ?_
                      refine lv_goto (tgt := 233) hx hb dL_isSo_229 (by decide) ?_
                      refine lv_iadd hx hb dL_isSo_233 ?_
                      refine tpe (y := (nI (smN (fun t => smN (fun r => if hldB s0.1 r t then 1 else 0) 10) t9 + smN (fun r => if hldB s0.1 r t9 then 1 else 0) r9 + 1))) (nI_add _ _) ?_
                      refine lv_istore (lv' := [(5, .int (nI (smN (fun t => smN (fun r => if hldB s0.1 r t then 1 else 0) 10) t9 + smN (fun r => if hldB s0.1 r t9 then 1 else 0) r9 + 1))), (0, .ref (xo 0)), (1, .ref aa), (2, .ref am), (3, .ref aq), (4, .ref ag), (6, .int (nI t9)), (8, .int (nI r9))]) hx hb dL_isSo_234 hl (by decide) rfl (fun ls hl => ?_)
                      refine lv_iinc (v := (nI (r9 + 1))) (lv' := [(8, .int (nI (r9 + 1))), (5, .int (nI (smN (fun t => smN (fun r => if hldB s0.1 r t then 1 else 0) 10) t9 + smN (fun r => if hldB s0.1 r t9 then 1 else 0) r9 + 1))), (0, .ref (xo 0)), (1, .ref aa), (2, .ref am), (3, .ref aq), (4, .ref ag), (6, .int (nI t9))]) hx hb dL_isSo_236 hl (k := 7) rfl (nI_add _ 1) (by decide) rfl (fun ls hl => ?_)
                      refine lv_goto (tgt := 187) hx hb dL_isSo_239 (by decide) ?_
                      rw [show (nI (smN (fun t => smN (fun r => if hldB s0.1 r t then 1 else 0) 10) t9 + smN (fun r => if hldB s0.1 r t9 then 1 else 0) r9 + 1)) = (nI (smN (fun t => smN (fun r => if hldB s0.1 r t then 1 else 0) 10) t9 + smN (fun r => if hldB s0.1 r t9 then 1 else 0) (r9 + 1))) from (sm_t (g := fun r => hldB s0.1 r t9) (hl_y h_24))] at hl
                      exact ih187 (r9 + 1) j172 (cs + 2) (sl + 12) (by omega) hL72 (by omega) (by omega) (by omega) _ _ hP hD hS _ (lv_sub hl [2, 3, 4, 5, 6, 1, 7, 0] rfl)
              rw [show (nI (smN (fun t => smN (fun r => if hldB s0.1 r t then 1 else 0) 10) t9)) = (nI (smN (fun t => smN (fun r => if hldB s0.1 r t then 1 else 0) 10) t9 + smN (fun r => if hldB s0.1 r t9 then 1 else 0) 0)) from rfl] at hl
              exact L187 _ 0 j171 (cs + 1 + 1 + 1 + 1 + 1 + 1 + 1) (sl + 6 + 6 + 6 + 6 + 6 + 6 + 6) (Nat.zero_le _) hL71 (by omega) (by omega) (Nat.lt_succ_self _) _ _ hP hD hS _ (lv_sub hl [1, 2, 3, 4, 5, 6, 7, 0] rfl)
            · have h_20 := mt (nI_leI (a := 8) (b := w9) (by decide) (by omega)).mpr h_20
              refine lv_iload hx hb dL_isSo_133 (lv_at hl 7 rfl) ?_
              refine lv_iload hx hb dL_isSo_135 (lv_at hl 8 rfl) ?_
              refine lv_iload hx hb dL_isSo_137 (lv_at hl 6 rfl) ?_
              refine lv_icmp_eq (tgt := 161) hx hb dL_isSo_139 (by decide) (fun h_25 => ?_) (fun h_25 => ?_)
              · have h_25 := (nI_eq (a := w9) (b := t9) (by omega) (by omega)).mp h_25
                refine lv_iconst (v := (nI 0)) hx hb dL_isSo_161 (by decide) ?_
                refine lv_iadd hx hb dL_isSo_162 ?_
                refine tpe (y := (nI (0 + smN (fun w => if blB s0.1 s0.2.1 t9 w then 1 else 0) w9 + 0))) (nI_add _ _) ?_
                refine lv_istore (lv' := [(7, .int (nI (0 + smN (fun w => if blB s0.1 s0.2.1 t9 w then 1 else 0) w9 + 0))), (0, .ref (xo 0)), (1, .ref aa), (2, .ref am), (3, .ref aq), (4, .ref ag), (5, .int (nI (smN (fun t => smN (fun r => if hldB s0.1 r t then 1 else 0) 10) t9))), (6, .int (nI t9)), (8, .int (nI w9))]) hx hb dL_isSo_163 hl (by decide) rfl (fun ls hl => ?_)
                refine lv_iinc (v := (nI (w9 + 1))) (lv' := [(8, .int (nI (w9 + 1))), (7, .int (nI (0 + smN (fun w => if blB s0.1 s0.2.1 t9 w then 1 else 0) w9 + 0))), (0, .ref (xo 0)), (1, .ref aa), (2, .ref am), (3, .ref aq), (4, .ref ag), (5, .int (nI (smN (fun t => smN (fun r => if hldB s0.1 r t then 1 else 0) 10) t9))), (6, .int (nI t9))]) hx hb dL_isSo_165 hl (k := 8) rfl (nI_add _ 1) (by decide) rfl (fun ls hl => ?_)
                refine lv_goto (tgt := 126) hx hb dL_isSo_168 (by decide) ?_
                rw [show (nI (0 + smN (fun w => if blB s0.1 s0.2.1 t9 w then 1 else 0) w9 + 0)) = (nI (0 + smN (fun w => if blB s0.1 s0.2.1 t9 w then 1 else 0) (w9 + 1))) from (sm_f (g := blB s0.1 s0.2.1 t9) (bl_n (Or.inl h_25)))] at hl
                exact ih126 (w9 + 1) (by omega) (by omega) _ _ hP hD hS _ (lv_sub hl [2, 3, 4, 5, 6, 7, 8, 1, 0] rfl)
              · have h_25 := mt (nI_eq (a := w9) (b := t9) (by omega) (by omega)).mpr h_25
                refine lv_aload_n hx hb dL_isSo_142 rfl (lv_at hl 1 rfl) ?_
                refine lv_aload_n hx hb dL_isSo_143 rfl (lv_at hl 2 rfl) ?_
                refine lv_aload_n hx hb dL_isSo_144 rfl (lv_at hl 3 rfl) ?_
                refine lv_iload hx hb dL_isSo_145 (lv_at hl 6 rfl) ?_
                refine lv_iload hx hb dL_isSo_147 (lv_at hl 8 rfl) ?_
                refine call_lB (X := []) (Wc := [(am, .inl (cI, 10, .inl fm)), (aa, .inl (cI, 48, .inl fa)), (aq, .inl (cL, 10, .inr (.inl fq)))]) (Z := [(ag, .inl (cI, 3, .inl fg))]) (LM := lmW cI cT xo ta tr br tx hi ra s0 j170) (As := [.ref aa, .ref am, .ref aq, .int (nI t9), .int (nI w9)]) (rest := [.int (nI (0 + smN (fun w => if blB s0.1 s0.2.1 t9 w then 1 else 0) w9))]) ⟨hx, hb, hml, hown, hts⟩ (c_L_far l D cI cT cL am aa aq fm fa fq s0.1 s0.2.1 t9 w9 (by omega) (by omega) hJ hM hZ hQL) (va_cwS 5 hts gL_isSo_L_far rfl rfl rfl (by decide +kernel) ⟨Nat.le_of_ble_eq_true rfl, Nat.le_of_ble_eq_true rfl⟩) hKL hP hD hS hA (fun _ => adw3) rfl hl.1 rfl (Nat.le_of_ble_eq_true rfl) ⟨(show cs + 1 + 1 + 1 + 1 + 1 + 1 ≤ 416 by omega), (show sl + 6 + 6 + 6 + 6 + 6 + 6 ≤ 2496 by omega)⟩ dL_isSo_149 (fun rv uu H locs hp hP hD hS => ?_)
                obtain rfl := hp
                have hP : va_P D vwCl ([(am, .inl (cI, 10, .inl fm)), (aa, .inl (cI, 48, .inl fa)), (aq, .inl (cL, 10, .inr (.inl fq))), (ag, .inl (cI, 3, .inl fg))] ++ lmW cI cT xo ta tr br tx hi ra s0 j170) H := hP
                have hD : va_D A ([(am, .inl (cI, 10, .inl fm)), (aa, .inl (cI, 48, .inl fa)), (aq, .inl (cL, 10, .inr (.inl fq))), (ag, .inl (cI, 3, .inl fg))] ++ lmW cI cT xo ta tr br tx hi ra s0 j170) := hD
                refine lv_bipush (v := (nI 99)) hx hb dL_isSo_152 (by decide) ?_
                refine lv_icmp_ge (tgt := 161) hx hb dL_isSo_154 (by decide) (fun h_26 => ?_) (fun h_26 => ?_)
                · have h_26 := (nI_leI (a := 99) (b := (farN s0.1 s0.2.1 t9 w9)) (by decide) (Nat.lt_of_le_of_lt far_le (by decide))).mp h_26
                  refine lv_iconst (v := (nI 0)) hx hb dL_isSo_161 (by decide) ?_
                  refine lv_iadd hx hb dL_isSo_162 ?_
                  refine tpe (y := (nI (0 + smN (fun w => if blB s0.1 s0.2.1 t9 w then 1 else 0) w9 + 0))) (nI_add _ _) ?_
                  refine lv_istore (lv' := [(7, .int (nI (0 + smN (fun w => if blB s0.1 s0.2.1 t9 w then 1 else 0) w9 + 0))), (0, .ref (xo 0)), (1, .ref aa), (2, .ref am), (3, .ref aq), (4, .ref ag), (5, .int (nI (smN (fun t => smN (fun r => if hldB s0.1 r t then 1 else 0) 10) t9))), (6, .int (nI t9)), (8, .int (nI w9))]) hx hb dL_isSo_163 hl (by decide) rfl (fun ls hl => ?_)
                  refine lv_iinc (v := (nI (w9 + 1))) (lv' := [(8, .int (nI (w9 + 1))), (7, .int (nI (0 + smN (fun w => if blB s0.1 s0.2.1 t9 w then 1 else 0) w9 + 0))), (0, .ref (xo 0)), (1, .ref aa), (2, .ref am), (3, .ref aq), (4, .ref ag), (5, .int (nI (smN (fun t => smN (fun r => if hldB s0.1 r t then 1 else 0) 10) t9))), (6, .int (nI t9))]) hx hb dL_isSo_165 hl (k := 8) rfl (nI_add _ 1) (by decide) rfl (fun ls hl => ?_)
                  refine lv_goto (tgt := 126) hx hb dL_isSo_168 (by decide) ?_
                  rw [show (nI (0 + smN (fun w => if blB s0.1 s0.2.1 t9 w then 1 else 0) w9 + 0)) = (nI (0 + smN (fun w => if blB s0.1 s0.2.1 t9 w then 1 else 0) (w9 + 1))) from (sm_f (g := blB s0.1 s0.2.1 t9) (bl_n (Or.inr h_26)))] at hl
                  exact ih126 (w9 + 1) (by omega) (by omega) _ _ hP hD hS _ (lv_sub hl [2, 3, 4, 5, 6, 7, 8, 1, 0] rfl)
                · have h_26 := mt (nI_leI (a := 99) (b := (farN s0.1 s0.2.1 t9 w9)) (by decide) (Nat.lt_of_le_of_lt far_le (by decide))).mpr h_26
                  refine lv_iconst (v := (nI 1)) hx hb dL_isSo_157 (by decide) ?_
                  refine lv_goto (tgt := 162) hx hb dL_isSo_158 (by decide) ?_
                  refine lv_iadd hx hb dL_isSo_162 ?_
                  refine tpe (y := (nI (0 + smN (fun w => if blB s0.1 s0.2.1 t9 w then 1 else 0) w9 + 1))) (nI_add _ _) ?_
                  refine lv_istore (lv' := [(7, .int (nI (0 + smN (fun w => if blB s0.1 s0.2.1 t9 w then 1 else 0) w9 + 1))), (0, .ref (xo 0)), (1, .ref aa), (2, .ref am), (3, .ref aq), (4, .ref ag), (5, .int (nI (smN (fun t => smN (fun r => if hldB s0.1 r t then 1 else 0) 10) t9))), (6, .int (nI t9)), (8, .int (nI w9))]) hx hb dL_isSo_163 hl (by decide) rfl (fun ls hl => ?_)
                  refine lv_iinc (v := (nI (w9 + 1))) (lv' := [(8, .int (nI (w9 + 1))), (7, .int (nI (0 + smN (fun w => if blB s0.1 s0.2.1 t9 w then 1 else 0) w9 + 1))), (0, .ref (xo 0)), (1, .ref aa), (2, .ref am), (3, .ref aq), (4, .ref ag), (5, .int (nI (smN (fun t => smN (fun r => if hldB s0.1 r t then 1 else 0) 10) t9))), (6, .int (nI t9))]) hx hb dL_isSo_165 hl (k := 8) rfl (nI_add _ 1) (by decide) rfl (fun ls hl => ?_)
                  refine lv_goto (tgt := 126) hx hb dL_isSo_168 (by decide) ?_
                  rw [show (nI (0 + smN (fun w => if blB s0.1 s0.2.1 t9 w then 1 else 0) w9 + 1)) = (nI (0 + smN (fun w => if blB s0.1 s0.2.1 t9 w then 1 else 0) (w9 + 1))) from (sm_t (g := blB s0.1 s0.2.1 t9) (bl_y h_25 h_26))] at hl
                  exact ih126 (w9 + 1) (by omega) (by omega) _ _ hP hD hS _ (lv_sub hl [2, 3, 4, 5, 6, 7, 8, 1, 0] rfl)
        rw [show (nI 0) = (nI (0 + smN (fun w => if blB s0.1 s0.2.1 t9 w then 1 else 0) 0)) from rfl] at hl
        exact L126 _ 0 (Nat.zero_le _) (Nat.lt_succ_self _) _ _ hP hD hS _ (lv_sub hl [2, 3, 4, 5, 6, 7, 8, 1, 0] rfl)
  rw [show (nI 0) = (nI (smN (fun t => smN (fun r => if hldB s0.1 r t then 1 else 0) 10) 0)) from rfl] at hl
  exact L6 _ 0 j0 0 0 (Nat.zero_le _) hL (by omega) (by omega) (Nat.lt_succ_self _) _ _ hP hD hS _ (lv_sub hl [2, 3, 4, 5, 6, 1, 0] rfl)
