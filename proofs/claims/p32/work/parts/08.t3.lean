abbrev rX2_releaseLocks : Room := { frames := 0, cells := 0, slots := 0, locals := 0 }
set_option maxHeartbeats 4000000 in
set_option maxRecDepth 100000 in
/-- releaseLocks -/
theorem c_X2_releaseLocks (l : Launch) (D : va_G) (cI cT : ClassId) (a : Nat → Nat) (F : FF) (Q0 : QQ) (qa : Nat → Int32) (t : Nat) (ht : t < 8) : CV l D cI cT yX2_releaseLocks wsX2_releaseLocks rX2_releaseLocks [.ref (a 0), .int (nI t)] (tblW cI a F Q0 qa) (S := Unit) (fun _ => True) (fun _ => tblW cI a (relF F t) Q0 qa) := by
  refine CV.of (cc := cX2_releaseLocks) (maxL := 3) (ret := none) (by decide) rfl (Nat.le_of_ble_eq_true rfl) ?_
  intro p e s m args below meth c A Q hQ B hA H locs hP hK hD hS ls hl
  obtain ⟨hx, hb, hml, hrt, hts, hown, hlk⟩ := B
  have hl : lv_has ls 3 [(0, .ref (a 0)), (1, .int (nI t))] := hl
  have iX2 : ∀ w ∈ u_ws RX2 TX2 11, w ∈ wsX2_releaseLocks := by decide +kernel
  have f27 := hts (.fieldLink RX2 27 "LockManager$LockTable" "locks" "[I") (by decide +kernel)
  refine lv_iconst (v := (nI 0)) hx hb dX2_releaseLocks_0 (by decide) ?_
  refine lv_istore_n (lv' := [(2, .int (nI 0)), (0, .ref (a 0)), (1, .int (nI t))]) hx hb dX2_releaseLocks_1 rfl hl (by decide) rfl (fun ls hl => ?_)
  have L2 : ∀ (N : Nat) (i : Nat), (i ≤ 10) → (10 - i) < N → ∀ (H : Heap) (locs : List Loc), va_P D vwCl ([(a 0, .inr (2, [.ref (a 1), .ref (a 2), .ref (a 3), .ref (a 4), .ref (a 5), .ref (a 6), .ref (a 7), .ref (a 8), .int (F 8 0), .int (F 8 1), .int (F 8 2)])), (a 1, .inl (cI, 8, .inl (F 0))), (a 2, .inl (cI, 8, .inl (F 1))), (a 3, .inl (cI, 8, .inl (F 2))), (a 4, .inl (cI, 8, .inl (F 3))), (a 5, .inl (cI, 8, .inl (F 4))), (a 6, .inl (cI, 80, .inl (relU (F 5) t i))), (a 7, .inl (cI, 80, .inl qa)), (a 8, .inl (cI, 10, .inl (fun z => nI ((qlen Q0) z))))]) H → va_D A ([(a 0, .inr (2, [.ref (a 1), .ref (a 2), .ref (a 3), .ref (a 4), .ref (a 5), .ref (a 6), .ref (a 7), .ref (a 8), .int (F 8 0), .int (F 8 1), .int (F 8 2)])), (a 1, .inl (cI, 8, .inl (F 0))), (a 2, .inl (cI, 8, .inl (F 1))), (a 3, .inl (cI, 8, .inl (F 2))), (a 4, .inl (cI, 8, .inl (F 3))), (a 5, .inl (cI, 8, .inl (F 4))), (a 6, .inl (cI, 80, .inl (relU (F 5) t i))), (a 7, .inl (cI, 80, .inl qa)), (a 8, .inl (cI, 10, .inl (fun z => nI ((qlen Q0) z))))]) → va_S A s.heap H locs → ∀ ls : Array Slot, lv_has ls 3 [(0, .ref (a 0)), (1, .int (nI t)), (2, .int (nI i))] → W p l e rX2_releaseLocks s m args below meth c H locs 0 0 Q (F0 m 2 ls []) := by
    intro N2
    induction N2 with
    | zero => intro i hi hN; exact absurd hN (Nat.not_lt_zero _)
    | succ N2 ih2 =>
      intro i hi hN H locs hP hD hS ls hl
      refine lv_iload_n hx hb dX2_releaseLocks_2 rfl (lv_at hl 2 rfl) ?_
      refine lv_bipush (v := (nI 10)) hx hb dX2_releaseLocks_3 (by decide) ?_
      refine lv_icmp_ge (tgt := 26) hx hb dX2_releaseLocks_5 (by decide) (fun h_1 => ?_) (fun h_1 => ?_)
      · have h_1 := (nI_leI (a := 10) (b := i) (by first | omega | exact bits_lt31 _ | exact bitN_lt _ _ | exact bool_lt _ | exact and_lt31 _ _ _ _ | exact Nat.lt_of_le_of_lt (dst_lt _ _ _ (by omega) _) (by decide) | exact Nat.lt_of_le_of_lt (nrB_le _ _ _ (by omega)).2 (by decide) | decide) (by first | omega | exact bits_lt31 _ | exact bitN_lt _ _ | exact bool_lt _ | exact and_lt31 _ _ _ _ | exact Nat.lt_of_le_of_lt (dst_lt _ _ _ (by omega) _) (by decide) | exact Nat.lt_of_le_of_lt (nrB_le _ _ _ (by omega)).2 (by decide) | decide)).mp h_1
        exact ret_v (u := ()) hQ hx hb hrt hlk hS dX2_releaseLocks_26 (by rw [show i = 10 by omega] at hP; exact hP) trivial
      · have h_1 := mt (nI_leI (a := 10) (b := i) (by first | omega | exact bits_lt31 _ | exact bitN_lt _ _ | exact bool_lt _ | exact and_lt31 _ _ _ _ | exact Nat.lt_of_le_of_lt (dst_lt _ _ _ (by omega) _) (by decide) | exact Nat.lt_of_le_of_lt (nrB_le _ _ _ (by omega)).2 (by decide) | decide) (by first | omega | exact bits_lt31 _ | exact bitN_lt _ _ | exact bool_lt _ | exact and_lt31 _ _ _ _ | exact Nat.lt_of_le_of_lt (dst_lt _ _ _ (by omega) _) (by decide) | exact Nat.lt_of_le_of_lt (nrB_le _ _ _ (by omega)).2 (by decide) | decide)).mpr h_1
        refine lv_aload_n hx hb dX2_releaseLocks_8 rfl (lv_at hl 0 rfl) ?_
        refine va_get (D := D) (ci := 2) (v := .ref (a 6)) (C := RX2) (T := TX2) (N := 11) hx hb hts iX2 hown hK hP 0 rfl rfl 5 (by decide) f27 (fun _ h9 => h9) rfl dX2_releaseLocks_9 ?_
        refine lv_iload_n hx hb dX2_releaseLocks_12 rfl (lv_at hl 1 rfl) ?_
        refine lv_bipush (v := (nI 10)) hx hb dX2_releaseLocks_13 (by decide) ?_
        refine lv_imul hx hb dX2_releaseLocks_15 ?_
        refine tpe (y := (nI (t * 10))) (pk_mul _ _) ?_
        refine lv_iload_n hx hb dX2_releaseLocks_16 rfl (lv_at hl 2 rfl) ?_
        refine lv_iadd hx hb dX2_releaseLocks_17 ?_
        refine tpe (y := (nI (t * 10 + i))) (nI_add _ _) ?_
        refine lv_iconst (v := (nI 0)) hx hb dX2_releaseLocks_18 (by decide) ?_
        refine r_ist (k := (t * 10 + i)) hx hb hK hP hD hS 6 rfl (by omega) (by decide) dX2_releaseLocks_19 (fun H locs hP hD hS => ?_)
        have hP : va_P D vwCl ([(a 0, .inr (2, [.ref (a 1), .ref (a 2), .ref (a 3), .ref (a 4), .ref (a 5), .ref (a 6), .ref (a 7), .ref (a 8), .int (F 8 0), .int (F 8 1), .int (F 8 2)])), (a 1, .inl (cI, 8, .inl (F 0))), (a 2, .inl (cI, 8, .inl (F 1))), (a 3, .inl (cI, 8, .inl (F 2))), (a 4, .inl (cI, 8, .inl (F 3))), (a 5, .inl (cI, 8, .inl (F 4))), (a 6, .inl (cI, 80, .inl (upd (relU (F 5) t i) (t * 10 + i) (nI 0)))), (a 7, .inl (cI, 80, .inl qa)), (a 8, .inl (cI, 10, .inl (fun z => nI ((qlen Q0) z))))]) H := hP
        have hD : va_D A ([(a 0, .inr (2, [.ref (a 1), .ref (a 2), .ref (a 3), .ref (a 4), .ref (a 5), .ref (a 6), .ref (a 7), .ref (a 8), .int (F 8 0), .int (F 8 1), .int (F 8 2)])), (a 1, .inl (cI, 8, .inl (F 0))), (a 2, .inl (cI, 8, .inl (F 1))), (a 3, .inl (cI, 8, .inl (F 2))), (a 4, .inl (cI, 8, .inl (F 3))), (a 5, .inl (cI, 8, .inl (F 4))), (a 6, .inl (cI, 80, .inl (upd (relU (F 5) t i) (t * 10 + i) (nI 0)))), (a 7, .inl (cI, 80, .inl qa)), (a 8, .inl (cI, 10, .inl (fun z => nI ((qlen Q0) z))))]) := hD
        refine lv_iinc (v := (nI (i + 1))) (lv' := [(2, .int (nI (i + 1))), (0, .ref (a 0)), (1, .int (nI t))]) hx hb dX2_releaseLocks_20 hl (k := 2) rfl (nI_add _ 1) (by decide) rfl (fun ls hl => ?_)
        refine lv_goto (tgt := 2) hx hb dX2_releaseLocks_23 (by decide) ?_
        exact ih2 (i + 1) (by omega) (by omega) _ _ (by rw [← relU_s]; exact hP) (by rw [← relU_s]; exact hD) hS _ (lv_sub hl [1, 2, 0] rfl)
  exact L2 _ 0 (Nat.zero_le _) (Nat.lt_succ_self _) _ _ (by rw [relU_0]; exact hP) (by rw [relU_0]; exact hD) hS _ (lv_sub hl [1, 2, 0] rfl)

abbrev rX2_start : Room := { frames := 0, cells := 0, slots := 0, locals := 0 }
set_option maxHeartbeats 4000000 in
set_option maxRecDepth 100000 in
/-- start -/
theorem c_X2_start (l : Launch) (D : va_G) (cI cT : ClassId) (a : Nat → Nat) (F : FF) (Q0 : QQ) (qa : Nat → Int32) (t : Nat) (ht : t < 8) : CV l D cI cT yX2_start wsX2_start rX2_start [.ref (a 0), .int (nI t)] (tblW cI a F Q0 qa) (S := Unit) (fun _ => True) (fun _ => tblW cI a (startF F t) Q0 qa) := by
  refine CV.of (cc := cX2_start) (maxL := 2) (ret := none) (by decide) rfl (Nat.le_of_ble_eq_true rfl) ?_
  intro p e s m args below meth c A Q hQ B hA H locs hP hK hD hS ls hl
  obtain ⟨hx, hb, hml, hrt, hts, hown, hlk⟩ := B
  have hl : lv_has ls 2 [(0, .ref (a 0)), (1, .int (nI t))] := hl
  have iX2 : ∀ w ∈ u_ws RX2 TX2 11, w ∈ wsX2_start := by decide +kernel
  have f9 := hts (.fieldLink RX2 9 "LockManager$LockTable" "births" "[I") (by decide +kernel)
  have f42 := hts (.fieldLink RX2 42 "LockManager$LockTable" "nextBirth" "I") (by decide +kernel)
  have f15 := hts (.fieldLink RX2 15 "LockManager$LockTable" "works" "[I") (by decide +kernel)
  have f18 := hts (.fieldLink RX2 18 "LockManager$LockTable" "aborts" "[I") (by decide +kernel)
  refine lv_aload_n hx hb dX2_start_0 rfl (lv_at hl 0 rfl) ?_
  refine va_get (D := D) (ci := 2) (v := .ref (a 1)) (C := RX2) (T := TX2) (N := 11) hx hb hts iX2 hown hK hP 0 rfl rfl 0 (by decide) f9 (fun _ h9 => h9) rfl dX2_start_1 ?_
  refine lv_iload_n hx hb dX2_start_4 rfl (lv_at hl 1 rfl) ?_
  refine lv_aload_n hx hb dX2_start_5 rfl (lv_at hl 0 rfl) ?_
  refine va_get (D := D) (ci := 2) (v := .int (F 8 0)) (C := RX2) (T := TX2) (N := 11) hx hb hts iX2 hown hK hP 0 rfl rfl 8 (by decide) f42 (fun _ h9 => h9) rfl dX2_start_6 ?_
  refine r_ist (k := t) hx hb hK hP hD hS 1 rfl (by omega) (by decide) dX2_start_9 (fun H locs hP hD hS => ?_)
  have hP : va_P D vwCl ([(a 0, .inr (2, [.ref (a 1), .ref (a 2), .ref (a 3), .ref (a 4), .ref (a 5), .ref (a 6), .ref (a 7), .ref (a 8), .int (F 8 0), .int (F 8 1), .int (F 8 2)])), (a 1, .inl (cI, 8, .inl (upd (F 0) t (F 8 0)))), (a 2, .inl (cI, 8, .inl (F 1))), (a 3, .inl (cI, 8, .inl (F 2))), (a 4, .inl (cI, 8, .inl (F 3))), (a 5, .inl (cI, 8, .inl (F 4))), (a 6, .inl (cI, 80, .inl (F 5))), (a 7, .inl (cI, 80, .inl qa)), (a 8, .inl (cI, 10, .inl (fun z => nI ((qlen Q0) z))))]) H := hP
  have hD : va_D A ([(a 0, .inr (2, [.ref (a 1), .ref (a 2), .ref (a 3), .ref (a 4), .ref (a 5), .ref (a 6), .ref (a 7), .ref (a 8), .int (F 8 0), .int (F 8 1), .int (F 8 2)])), (a 1, .inl (cI, 8, .inl (upd (F 0) t (F 8 0)))), (a 2, .inl (cI, 8, .inl (F 1))), (a 3, .inl (cI, 8, .inl (F 2))), (a 4, .inl (cI, 8, .inl (F 3))), (a 5, .inl (cI, 8, .inl (F 4))), (a 6, .inl (cI, 80, .inl (F 5))), (a 7, .inl (cI, 80, .inl qa)), (a 8, .inl (cI, 10, .inl (fun z => nI ((qlen Q0) z))))]) := hD
  refine lv_aload_n hx hb dX2_start_10 rfl (lv_at hl 0 rfl) ?_
  refine va_get (D := D) (ci := 2) (v := .ref (a 2)) (C := RX2) (T := TX2) (N := 11) hx hb hts iX2 hown hK hP 0 rfl rfl 1 (by decide) f15 (fun _ h9 => h9) rfl dX2_start_11 ?_
  refine lv_iload_n hx hb dX2_start_14 rfl (lv_at hl 1 rfl) ?_
  refine lv_iconst (v := (nI 0)) hx hb dX2_start_15 (by decide) ?_
  refine r_ist (k := t) hx hb hK hP hD hS 2 rfl (by omega) (by decide) dX2_start_16 (fun H locs hP hD hS => ?_)
  have hP : va_P D vwCl ([(a 0, .inr (2, [.ref (a 1), .ref (a 2), .ref (a 3), .ref (a 4), .ref (a 5), .ref (a 6), .ref (a 7), .ref (a 8), .int (F 8 0), .int (F 8 1), .int (F 8 2)])), (a 1, .inl (cI, 8, .inl (upd (F 0) t (F 8 0)))), (a 2, .inl (cI, 8, .inl (upd (F 1) t (nI 0)))), (a 3, .inl (cI, 8, .inl (F 2))), (a 4, .inl (cI, 8, .inl (F 3))), (a 5, .inl (cI, 8, .inl (F 4))), (a 6, .inl (cI, 80, .inl (F 5))), (a 7, .inl (cI, 80, .inl qa)), (a 8, .inl (cI, 10, .inl (fun z => nI ((qlen Q0) z))))]) H := hP
  have hD : va_D A ([(a 0, .inr (2, [.ref (a 1), .ref (a 2), .ref (a 3), .ref (a 4), .ref (a 5), .ref (a 6), .ref (a 7), .ref (a 8), .int (F 8 0), .int (F 8 1), .int (F 8 2)])), (a 1, .inl (cI, 8, .inl (upd (F 0) t (F 8 0)))), (a 2, .inl (cI, 8, .inl (upd (F 1) t (nI 0)))), (a 3, .inl (cI, 8, .inl (F 2))), (a 4, .inl (cI, 8, .inl (F 3))), (a 5, .inl (cI, 8, .inl (F 4))), (a 6, .inl (cI, 80, .inl (F 5))), (a 7, .inl (cI, 80, .inl qa)), (a 8, .inl (cI, 10, .inl (fun z => nI ((qlen Q0) z))))]) := hD
  refine lv_aload_n hx hb dX2_start_17 rfl (lv_at hl 0 rfl) ?_
  refine va_get (D := D) (ci := 2) (v := .ref (a 3)) (C := RX2) (T := TX2) (N := 11) hx hb hts iX2 hown hK hP 0 rfl rfl 2 (by decide) f18 (fun _ h9 => h9) rfl dX2_start_18 ?_
  refine lv_iload_n hx hb dX2_start_21 rfl (lv_at hl 1 rfl) ?_
  refine lv_iconst (v := (nI 0)) hx hb dX2_start_22 (by decide) ?_
  refine r_ist (k := t) hx hb hK hP hD hS 3 rfl (by omega) (by decide) dX2_start_23 (fun H locs hP hD hS => ?_)
  have hP : va_P D vwCl ([(a 0, .inr (2, [.ref (a 1), .ref (a 2), .ref (a 3), .ref (a 4), .ref (a 5), .ref (a 6), .ref (a 7), .ref (a 8), .int (F 8 0), .int (F 8 1), .int (F 8 2)])), (a 1, .inl (cI, 8, .inl (upd (F 0) t (F 8 0)))), (a 2, .inl (cI, 8, .inl (upd (F 1) t (nI 0)))), (a 3, .inl (cI, 8, .inl (upd (F 2) t (nI 0)))), (a 4, .inl (cI, 8, .inl (F 3))), (a 5, .inl (cI, 8, .inl (F 4))), (a 6, .inl (cI, 80, .inl (F 5))), (a 7, .inl (cI, 80, .inl qa)), (a 8, .inl (cI, 10, .inl (fun z => nI ((qlen Q0) z))))]) H := hP
  have hD : va_D A ([(a 0, .inr (2, [.ref (a 1), .ref (a 2), .ref (a 3), .ref (a 4), .ref (a 5), .ref (a 6), .ref (a 7), .ref (a 8), .int (F 8 0), .int (F 8 1), .int (F 8 2)])), (a 1, .inl (cI, 8, .inl (upd (F 0) t (F 8 0)))), (a 2, .inl (cI, 8, .inl (upd (F 1) t (nI 0)))), (a 3, .inl (cI, 8, .inl (upd (F 2) t (nI 0)))), (a 4, .inl (cI, 8, .inl (F 3))), (a 5, .inl (cI, 8, .inl (F 4))), (a 6, .inl (cI, 80, .inl (F 5))), (a 7, .inl (cI, 80, .inl qa)), (a 8, .inl (cI, 10, .inl (fun z => nI ((qlen Q0) z))))]) := hD
  refine lv_aload_n hx hb dX2_start_24 rfl (lv_at hl 0 rfl) ?_
  refine lv_dup hx hb dX2_start_25 rfl ?_
  refine va_get (D := D) (ci := 2) (v := .int (F 8 0)) (C := RX2) (T := TX2) (N := 11) hx hb hts iX2 hown hK hP 0 rfl rfl 8 (by decide) f42 (fun _ h9 => h9) rfl dX2_start_26 ?_
  refine lv_iconst (v := (nI 1)) hx hb dX2_start_29 (by decide) ?_
  refine lv_iadd hx hb dX2_start_30 ?_
  refine va_put (D := D) (ci := 2) (v := .int ((F 8 0) + (nI 1))) (ty := .int) (C := RX2) (T := TX2) (N := 11) hx hb hts iX2 tyX2 tyX2_ok nmX2 hown hK hP hD hS 0 rfl rfl 8 (by decide) f42 (fun _ h9 => h9) rfl (by decide +kernel) rfl rfl (Nat.le_of_ble_eq_true rfl) dX2_start_31 (fun H locs hP hD hS => ?_)
  have hP : va_P D vwCl ([(a 0, .inr (2, [.ref (a 1), .ref (a 2), .ref (a 3), .ref (a 4), .ref (a 5), .ref (a 6), .ref (a 7), .ref (a 8), .int ((F 8 0) + (nI 1)), .int (F 8 1), .int (F 8 2)])), (a 1, .inl (cI, 8, .inl (upd (F 0) t (F 8 0)))), (a 2, .inl (cI, 8, .inl (upd (F 1) t (nI 0)))), (a 3, .inl (cI, 8, .inl (upd (F 2) t (nI 0)))), (a 4, .inl (cI, 8, .inl (F 3))), (a 5, .inl (cI, 8, .inl (F 4))), (a 6, .inl (cI, 80, .inl (F 5))), (a 7, .inl (cI, 80, .inl qa)), (a 8, .inl (cI, 10, .inl (fun z => nI ((qlen Q0) z))))]) H := hP
  have hD : va_D A ([(a 0, .inr (2, [.ref (a 1), .ref (a 2), .ref (a 3), .ref (a 4), .ref (a 5), .ref (a 6), .ref (a 7), .ref (a 8), .int ((F 8 0) + (nI 1)), .int (F 8 1), .int (F 8 2)])), (a 1, .inl (cI, 8, .inl (upd (F 0) t (F 8 0)))), (a 2, .inl (cI, 8, .inl (upd (F 1) t (nI 0)))), (a 3, .inl (cI, 8, .inl (upd (F 2) t (nI 0)))), (a 4, .inl (cI, 8, .inl (F 3))), (a 5, .inl (cI, 8, .inl (F 4))), (a 6, .inl (cI, 80, .inl (F 5))), (a 7, .inl (cI, 80, .inl qa)), (a 8, .inl (cI, 10, .inl (fun z => nI ((qlen Q0) z))))]) := hD
  exact ret_v (u := ()) hQ hx hb hrt hlk hS dX2_start_34 hP trivial

abbrev rX2_grant : Room := { frames := 0, cells := 0, slots := 0, locals := 0 }
set_option maxHeartbeats 4000000 in
set_option maxRecDepth 100000 in
/-- grant -/
theorem c_X2_grant (l : Launch) (D : va_G) (cI cT : ClassId) (a : Nat → Nat) (F : FF) (Q0 : QQ) (qa : Nat → Int32) (t r : Nat) (mode : Int32) (ht : t < 8) (hr : r < 10) : CV l D cI cT yX2_grant wsX2_grant rX2_grant [.ref (a 0), .int (nI t), .int (nI r), .int mode] (tblW cI a F Q0 qa) (S := Unit) (fun _ => True) (fun _ => tblW cI a (grF F t r mode) Q0 qa) := by
  refine CV.of (cc := cX2_grant) (maxL := 4) (ret := none) (by decide) rfl (Nat.le_of_ble_eq_true rfl) ?_
  intro p e s m args below meth c A Q hQ B hA H locs hP hK hD hS ls hl
  obtain ⟨hx, hb, hml, hrt, hts, hown, hlk⟩ := B
  have hl : lv_has ls 4 [(0, .ref (a 0)), (1, .int (nI t)), (2, .int (nI r)), (3, .int mode)] := hl
  have iX2 : ∀ w ∈ u_ws RX2 TX2 11, w ∈ wsX2_grant := by decide +kernel
  have f27 := hts (.fieldLink RX2 27 "LockManager$LockTable" "locks" "[I") (by decide +kernel)
  have f15 := hts (.fieldLink RX2 15 "LockManager$LockTable" "works" "[I") (by decide +kernel)
  refine lv_aload_n hx hb dX2_grant_0 rfl (lv_at hl 0 rfl) ?_
  refine va_get (D := D) (ci := 2) (v := .ref (a 6)) (C := RX2) (T := TX2) (N := 11) hx hb hts iX2 hown hK hP 0 rfl rfl 5 (by decide) f27 (fun _ h9 => h9) rfl dX2_grant_1 ?_
  refine lv_iload_n hx hb dX2_grant_4 rfl (lv_at hl 1 rfl) ?_
  refine lv_bipush (v := (nI 10)) hx hb dX2_grant_5 (by decide) ?_
  refine lv_imul hx hb dX2_grant_7 ?_
  refine tpe (y := (nI (t * 10))) (pk_mul _ _) ?_
  refine lv_iload_n hx hb dX2_grant_8 rfl (lv_at hl 2 rfl) ?_
  refine lv_iadd hx hb dX2_grant_9 ?_
  refine tpe (y := (nI (t * 10 + r))) (nI_add _ _) ?_
  refine lv_iload_n hx hb dX2_grant_10 rfl (lv_at hl 3 rfl) ?_
  refine r_ist (k := (t * 10 + r)) hx hb hK hP hD hS 6 rfl (by omega) (by decide) dX2_grant_11 (fun H locs hP hD hS => ?_)
  have hP : va_P D vwCl ([(a 0, .inr (2, [.ref (a 1), .ref (a 2), .ref (a 3), .ref (a 4), .ref (a 5), .ref (a 6), .ref (a 7), .ref (a 8), .int (F 8 0), .int (F 8 1), .int (F 8 2)])), (a 1, .inl (cI, 8, .inl (F 0))), (a 2, .inl (cI, 8, .inl (F 1))), (a 3, .inl (cI, 8, .inl (F 2))), (a 4, .inl (cI, 8, .inl (F 3))), (a 5, .inl (cI, 8, .inl (F 4))), (a 6, .inl (cI, 80, .inl (upd (F 5) (t * 10 + r) mode))), (a 7, .inl (cI, 80, .inl qa)), (a 8, .inl (cI, 10, .inl (fun z => nI ((qlen Q0) z))))]) H := hP
  have hD : va_D A ([(a 0, .inr (2, [.ref (a 1), .ref (a 2), .ref (a 3), .ref (a 4), .ref (a 5), .ref (a 6), .ref (a 7), .ref (a 8), .int (F 8 0), .int (F 8 1), .int (F 8 2)])), (a 1, .inl (cI, 8, .inl (F 0))), (a 2, .inl (cI, 8, .inl (F 1))), (a 3, .inl (cI, 8, .inl (F 2))), (a 4, .inl (cI, 8, .inl (F 3))), (a 5, .inl (cI, 8, .inl (F 4))), (a 6, .inl (cI, 80, .inl (upd (F 5) (t * 10 + r) mode))), (a 7, .inl (cI, 80, .inl qa)), (a 8, .inl (cI, 10, .inl (fun z => nI ((qlen Q0) z))))]) := hD
  refine lv_aload_n hx hb dX2_grant_12 rfl (lv_at hl 0 rfl) ?_
  refine va_get (D := D) (ci := 2) (v := .ref (a 2)) (C := RX2) (T := TX2) (N := 11) hx hb hts iX2 hown hK hP 0 rfl rfl 1 (by decide) f15 (fun _ h9 => h9) rfl dX2_grant_13 ?_
  refine lv_iload_n hx hb dX2_grant_16 rfl (lv_at hl 1 rfl) ?_
  refine lv_dup2_11 hx hb dX2_grant_17 rfl rfl ?_
  refine r_ild (k := t) hx hb hK hP 2 rfl (by omega) (by decide) dX2_grant_18 ?_
  refine lv_iconst (v := (nI 1)) hx hb dX2_grant_19 (by decide) ?_
  refine lv_iadd hx hb dX2_grant_20 ?_
  refine r_ist (k := t) hx hb hK hP hD hS 2 rfl (by omega) (by decide) dX2_grant_21 (fun H locs hP hD hS => ?_)
  have hP : va_P D vwCl ([(a 0, .inr (2, [.ref (a 1), .ref (a 2), .ref (a 3), .ref (a 4), .ref (a 5), .ref (a 6), .ref (a 7), .ref (a 8), .int (F 8 0), .int (F 8 1), .int (F 8 2)])), (a 1, .inl (cI, 8, .inl (F 0))), (a 2, .inl (cI, 8, .inl (upd (F 1) t (((F 1) t) + (nI 1))))), (a 3, .inl (cI, 8, .inl (F 2))), (a 4, .inl (cI, 8, .inl (F 3))), (a 5, .inl (cI, 8, .inl (F 4))), (a 6, .inl (cI, 80, .inl (upd (F 5) (t * 10 + r) mode))), (a 7, .inl (cI, 80, .inl qa)), (a 8, .inl (cI, 10, .inl (fun z => nI ((qlen Q0) z))))]) H := hP
  have hD : va_D A ([(a 0, .inr (2, [.ref (a 1), .ref (a 2), .ref (a 3), .ref (a 4), .ref (a 5), .ref (a 6), .ref (a 7), .ref (a 8), .int (F 8 0), .int (F 8 1), .int (F 8 2)])), (a 1, .inl (cI, 8, .inl (F 0))), (a 2, .inl (cI, 8, .inl (upd (F 1) t (((F 1) t) + (nI 1))))), (a 3, .inl (cI, 8, .inl (F 2))), (a 4, .inl (cI, 8, .inl (F 3))), (a 5, .inl (cI, 8, .inl (F 4))), (a 6, .inl (cI, 80, .inl (upd (F 5) (t * 10 + r) mode))), (a 7, .inl (cI, 80, .inl qa)), (a 8, .inl (cI, 10, .inl (fun z => nI ((qlen Q0) z))))]) := hD
  exact ret_v (u := ()) hQ hx hb hrt hlk hS dX2_grant_22 hP trivial

abbrev rX2_removeRequest : Room := { frames := 0, cells := 0, slots := 0, locals := 0 }
set_option maxHeartbeats 4000000 in
set_option maxRecDepth 100000 in
/-- removeRequest -/
theorem c_X2_removeRequest (l : Launch) (D : va_G) (cI cT : ClassId) (a : Nat → Nat) (F : FF) (Q0 : QQ) (qa : Nat → Int32) (t : Nat) (ht : t < 8) (hJ : JJ F Q0) (hRQ : RQ Q0 qa) : CV l D cI cT yX2_removeRequest wsX2_removeRequest rX2_removeRequest [.ref (a 0), .int (nI t)] (tblW cI a F Q0 qa) (S := Nat → Int32) (fun u => RQ (rmQ F Q0 t) u) (fun u => tblW cI a (rmF F t) (rmQ F Q0 t) u) := by
  refine CV.of (cc := cX2_removeRequest) (maxL := 7) (ret := none) (by decide) rfl (Nat.le_of_ble_eq_true rfl) ?_
  intro p e s m args below meth c A Q hQ B hA H locs hP hK hD hS ls hl
  obtain ⟨hx, hb, hml, hrt, hts, hown, hlk⟩ := B
  have hl : lv_has ls 7 [(0, .ref (a 0)), (1, .int (nI t))] := hl
  have iX2 : ∀ w ∈ u_ws RX2 TX2 11, w ∈ wsX2_removeRequest := by decide +kernel
  have f21 := hts (.fieldLink RX2 21 "LockManager$LockTable" "wantedResources" "[I") (by decide +kernel)
  have f33 := hts (.fieldLink RX2 33 "LockManager$LockTable" "lengths" "[I") (by decide +kernel)
  have f30 := hts (.fieldLink RX2 30 "LockManager$LockTable" "queues" "[I") (by decide +kernel)
  refine lv_aload_n hx hb dX2_removeRequest_0 rfl (lv_at hl 0 rfl) ?_
  refine va_get (D := D) (ci := 2) (v := .ref (a 4)) (C := RX2) (T := TX2) (N := 11) hx hb hts iX2 hown hK hP 0 rfl rfl 3 (by decide) f21 (fun _ h9 => h9) rfl dX2_removeRequest_1 ?_
  refine lv_iload_n hx hb dX2_removeRequest_4 rfl (lv_at hl 1 rfl) ?_
  refine r_ild (k := t) hx hb hK hP 4 rfl (by omega) (by decide) dX2_removeRequest_5 ?_
  refine lv_istore_n (lv' := [(2, .int ((F 3) t)), (0, .ref (a 0)), (1, .int (nI t))]) hx hb dX2_removeRequest_6 rfl hl (by decide) rfl (fun ls hl => ?_)
  refine lv_iload_n hx hb dX2_removeRequest_7 rfl (lv_at hl 0 rfl) ?_
  refine lv_iconst (v := (-1)) hx hb dX2_removeRequest_8 (by decide) ?_
  refine lv_icmp_ne (tgt := 13) hx hb dX2_removeRequest_9 (by decide) (fun h_1 => ?_) (fun h_1 => ?_)
  · have h_1 := h_1
    obtain ⟨r, hr, h3, hw, hm⟩ := JJ_want hJ ht h_1
    have hq8 := JJ_len hJ hr
    rw [h3] at hl
    have hl : lv_has ls 7 [(0, .ref (a 0)), (1, .int (nI t)), (2, .int (nI r))] := lv_sub hl [1, 2, 0] rfl
    refine lv_iload_n hx hb dX2_removeRequest_13 rfl (lv_at hl 2 rfl) ?_
    refine lv_bipush (v := (nI 8)) hx hb dX2_removeRequest_14 (by decide) ?_
    refine lv_imul hx hb dX2_removeRequest_16 ?_
    refine tpe (y := (nI (r * 8))) (pk_mul _ _) ?_
    refine lv_istore_n (lv' := [(3, .int (nI (r * 8))), (0, .ref (a 0)), (1, .int (nI t)), (2, .int (nI r))]) hx hb dX2_removeRequest_17 rfl hl (by decide) rfl (fun ls hl => ?_)
    refine lv_iconst (v := (nI 0)) hx hb dX2_removeRequest_18 (by decide) ?_
    refine lv_istore (lv' := [(4, .int (nI 0)), (3, .int (nI (r * 8))), (0, .ref (a 0)), (1, .int (nI t)), (2, .int (nI r))]) hx hb dX2_removeRequest_19 hl (by decide) rfl (fun ls hl => ?_)
    refine lv_iconst (v := (nI 0)) hx hb dX2_removeRequest_21 (by decide) ?_
    refine lv_istore (lv' := [(5, .int (nI 0)), (4, .int (nI 0)), (3, .int (nI (r * 8))), (0, .ref (a 0)), (1, .int (nI t)), (2, .int (nI r))]) hx hb dX2_removeRequest_22 hl (by decide) rfl (fun ls hl => ?_)
    have L24 : ∀ (N : Nat) (i : Nat) (k : Nat) (q : Nat → Int32), (i ≤ qlen Q0 r) → (rmI qa q (Q0 r) t r i k) → (8 - i) < N → ∀ (H : Heap) (locs : List Loc), va_P D vwCl ([(a 0, .inr (2, [.ref (a 1), .ref (a 2), .ref (a 3), .ref (a 4), .ref (a 5), .ref (a 6), .ref (a 7), .ref (a 8), .int (F 8 0), .int (F 8 1), .int (F 8 2)])), (a 1, .inl (cI, 8, .inl (F 0))), (a 2, .inl (cI, 8, .inl (F 1))), (a 3, .inl (cI, 8, .inl (F 2))), (a 4, .inl (cI, 8, .inl (F 3))), (a 5, .inl (cI, 8, .inl (F 4))), (a 6, .inl (cI, 80, .inl (F 5))), (a 7, .inl (cI, 80, .inl q)), (a 8, .inl (cI, 10, .inl (fun z => nI ((qlen Q0) z))))]) H → va_D A ([(a 0, .inr (2, [.ref (a 1), .ref (a 2), .ref (a 3), .ref (a 4), .ref (a 5), .ref (a 6), .ref (a 7), .ref (a 8), .int (F 8 0), .int (F 8 1), .int (F 8 2)])), (a 1, .inl (cI, 8, .inl (F 0))), (a 2, .inl (cI, 8, .inl (F 1))), (a 3, .inl (cI, 8, .inl (F 2))), (a 4, .inl (cI, 8, .inl (F 3))), (a 5, .inl (cI, 8, .inl (F 4))), (a 6, .inl (cI, 80, .inl (F 5))), (a 7, .inl (cI, 80, .inl q)), (a 8, .inl (cI, 10, .inl (fun z => nI ((qlen Q0) z))))]) → va_S A s.heap H locs → ∀ ls : Array Slot, lv_has ls 7 [(0, .ref (a 0)), (1, .int (nI t)), (2, .int (nI r)), (3, .int (nI (r * 8))), (4, .int (nI k)), (5, .int (nI i))] → W p l e rX2_removeRequest s m args below meth c H locs 0 0 Q (F0 m 24 ls []) := by
      intro N24
      induction N24 with
      | zero => intro i k q hi hI hN; exact absurd hN (Nat.not_lt_zero _)
      | succ N24 ih24 =>
        intro i k q hi hI hN H locs hP hD hS ls hl
        have hki := rmI_le hI hi
        refine lv_iload hx hb dX2_removeRequest_24 (lv_at hl 5 rfl) ?_
        refine lv_aload_n hx hb dX2_removeRequest_26 rfl (lv_at hl 0 rfl) ?_
        refine va_get (D := D) (ci := 2) (v := .ref (a 8)) (C := RX2) (T := TX2) (N := 11) hx hb hts iX2 hown hK hP 0 rfl rfl 7 (by decide) f33 (fun _ h9 => h9) rfl dX2_removeRequest_27 ?_
        refine lv_iload_n hx hb dX2_removeRequest_30 rfl (lv_at hl 2 rfl) ?_
        refine r_ild (k := r) hx hb hK hP 8 rfl (by omega) (by decide) dX2_removeRequest_31 ?_
        refine tpe (y := (nI ((qlen Q0) r))) rfl ?_
        refine lv_icmp_ge (tgt := 72) hx hb dX2_removeRequest_32 (by decide) (fun h_2 => ?_) (fun h_2 => ?_)
        · have h_2 := (nI_leI (a := ((qlen Q0) r)) (b := i) (by first | omega | exact bits_lt31 _ | exact bitN_lt _ _ | exact bool_lt _ | exact and_lt31 _ _ _ _ | exact Nat.lt_of_le_of_lt (dst_lt _ _ _ (by omega) _) (by decide) | exact Nat.lt_of_le_of_lt (nrB_le _ _ _ (by omega)).2 (by decide) | decide) (by first | omega | exact bits_lt31 _ | exact bitN_lt _ _ | exact bool_lt _ | exact and_lt31 _ _ _ _ | exact Nat.lt_of_le_of_lt (dst_lt _ _ _ (by omega) _) (by decide) | exact Nat.lt_of_le_of_lt (nrB_le _ _ _ (by omega)).2 (by decide) | decide)).mp h_2
          refine lv_aload_n hx hb dX2_removeRequest_72 rfl (lv_at hl 0 rfl) ?_
          refine va_get (D := D) (ci := 2) (v := .ref (a 8)) (C := RX2) (T := TX2) (N := 11) hx hb hts iX2 hown hK hP 0 rfl rfl 7 (by decide) f33 (fun _ h9 => h9) rfl dX2_removeRequest_73 ?_
          refine lv_iload_n hx hb dX2_removeRequest_76 rfl (lv_at hl 2 rfl) ?_
          refine lv_iload hx hb dX2_removeRequest_77 (lv_at hl 4 rfl) ?_
          refine r_ist (k := r) hx hb hK hP hD hS 8 rfl (by omega) (by decide) dX2_removeRequest_79 (fun H locs hP hD hS => ?_)
          rw [nupd] at hP hD
          have hP : va_P D vwCl ([(a 0, .inr (2, [.ref (a 1), .ref (a 2), .ref (a 3), .ref (a 4), .ref (a 5), .ref (a 6), .ref (a 7), .ref (a 8), .int (F 8 0), .int (F 8 1), .int (F 8 2)])), (a 1, .inl (cI, 8, .inl (F 0))), (a 2, .inl (cI, 8, .inl (F 1))), (a 3, .inl (cI, 8, .inl (F 2))), (a 4, .inl (cI, 8, .inl (F 3))), (a 5, .inl (cI, 8, .inl (F 4))), (a 6, .inl (cI, 80, .inl (F 5))), (a 7, .inl (cI, 80, .inl q)), (a 8, .inl (cI, 10, .inl (fun z => nI ((va_up (qlen Q0) r k) z))))]) H := hP
          have hD : va_D A ([(a 0, .inr (2, [.ref (a 1), .ref (a 2), .ref (a 3), .ref (a 4), .ref (a 5), .ref (a 6), .ref (a 7), .ref (a 8), .int (F 8 0), .int (F 8 1), .int (F 8 2)])), (a 1, .inl (cI, 8, .inl (F 0))), (a 2, .inl (cI, 8, .inl (F 1))), (a 3, .inl (cI, 8, .inl (F 2))), (a 4, .inl (cI, 8, .inl (F 3))), (a 5, .inl (cI, 8, .inl (F 4))), (a 6, .inl (cI, 80, .inl (F 5))), (a 7, .inl (cI, 80, .inl q)), (a 8, .inl (cI, 10, .inl (fun z => nI ((va_up (qlen Q0) r k) z))))]) := hD
          refine lv_aload_n hx hb dX2_removeRequest_80 rfl (lv_at hl 0 rfl) ?_
          refine va_get (D := D) (ci := 2) (v := .ref (a 4)) (C := RX2) (T := TX2) (N := 11) hx hb hts iX2 hown hK hP 0 rfl rfl 3 (by decide) f21 (fun _ h9 => h9) rfl dX2_removeRequest_81 ?_
          refine lv_iload_n hx hb dX2_removeRequest_84 rfl (lv_at hl 1 rfl) ?_
          refine lv_iconst (v := (-1)) hx hb dX2_removeRequest_85 (by decide) ?_
          refine r_ist (k := t) hx hb hK hP hD hS 4 rfl (by omega) (by decide) dX2_removeRequest_86 (fun H locs hP hD hS => ?_)
          have hP : va_P D vwCl ([(a 0, .inr (2, [.ref (a 1), .ref (a 2), .ref (a 3), .ref (a 4), .ref (a 5), .ref (a 6), .ref (a 7), .ref (a 8), .int (F 8 0), .int (F 8 1), .int (F 8 2)])), (a 1, .inl (cI, 8, .inl (F 0))), (a 2, .inl (cI, 8, .inl (F 1))), (a 3, .inl (cI, 8, .inl (F 2))), (a 4, .inl (cI, 8, .inl (upd (F 3) t (-1)))), (a 5, .inl (cI, 8, .inl (F 4))), (a 6, .inl (cI, 80, .inl (F 5))), (a 7, .inl (cI, 80, .inl q)), (a 8, .inl (cI, 10, .inl (fun z => nI ((va_up (qlen Q0) r k) z))))]) H := hP
          have hD : va_D A ([(a 0, .inr (2, [.ref (a 1), .ref (a 2), .ref (a 3), .ref (a 4), .ref (a 5), .ref (a 6), .ref (a 7), .ref (a 8), .int (F 8 0), .int (F 8 1), .int (F 8 2)])), (a 1, .inl (cI, 8, .inl (F 0))), (a 2, .inl (cI, 8, .inl (F 1))), (a 3, .inl (cI, 8, .inl (F 2))), (a 4, .inl (cI, 8, .inl (upd (F 3) t (-1)))), (a 5, .inl (cI, 8, .inl (F 4))), (a 6, .inl (cI, 80, .inl (F 5))), (a 7, .inl (cI, 80, .inl q)), (a 8, .inl (cI, 10, .inl (fun z => nI ((va_up (qlen Q0) r k) z))))]) := hD
          obtain ⟨hk, hR2⟩ := rmI_end hJ hr hRQ (show rmI qa q (Q0 r) t r (qlen Q0 r) k by rw [show qlen Q0 r = i by omega]; exact hI)
          rw [qlen_up (fltQ (Q0 r) t) hk.symm] at hP
          exact ret_v (u := q) hQ hx hb hrt hlk hS dX2_removeRequest_87 (by rw [(rm_some (Q := Q0) h_1 hw).1, (rm_some h_1 hw).2]; exact hP) (by rw [(rm_some h_1 hw).2]; exact hR2)
        · have h_2 := mt (nI_leI (a := ((qlen Q0) r)) (b := i) (by first | omega | exact bits_lt31 _ | exact bitN_lt _ _ | exact bool_lt _ | exact and_lt31 _ _ _ _ | exact Nat.lt_of_le_of_lt (dst_lt _ _ _ (by omega) _) (by decide) | exact Nat.lt_of_le_of_lt (nrB_le _ _ _ (by omega)).2 (by decide) | decide) (by first | omega | exact bits_lt31 _ | exact bitN_lt _ _ | exact bool_lt _ | exact and_lt31 _ _ _ _ | exact Nat.lt_of_le_of_lt (dst_lt _ _ _ (by omega) _) (by decide) | exact Nat.lt_of_le_of_lt (nrB_le _ _ _ (by omega)).2 (by decide) | decide)).mpr h_2
          refine lv_aload_n hx hb dX2_removeRequest_35 rfl (lv_at hl 0 rfl) ?_
          refine va_get (D := D) (ci := 2) (v := .ref (a 7)) (C := RX2) (T := TX2) (N := 11) hx hb hts iX2 hown hK hP 0 rfl rfl 6 (by decide) f30 (fun _ h9 => h9) rfl dX2_removeRequest_36 ?_
          refine lv_iload_n hx hb dX2_removeRequest_39 rfl (lv_at hl 3 rfl) ?_
          refine lv_iload hx hb dX2_removeRequest_40 (lv_at hl 5 rfl) ?_
          refine lv_iadd hx hb dX2_removeRequest_42 ?_
          refine tpe (y := (nI (r * 8 + i))) (nI_add _ _) ?_
          refine r_ild (k := (r * 8 + i)) hx hb hK hP 7 rfl (by omega) (by decide) dX2_removeRequest_43 ?_
          obtain ⟨o, ho⟩ : ∃ z, z = (Q0 r).getD i 0 := ⟨_, rfl⟩
          have ho8 : o < 8 := by rw [ho]; exact JJ_mem hJ hr (by omega)
          refine tpe (y := nI o) (by rw [ho, hI.2.1 _ (by omega) (Or.inr (by omega))]; exact hRQ r hr i (by omega)) ?_
          refine lv_istore (lv' := [(6, .int (nI o)), (0, .ref (a 0)), (1, .int (nI t)), (2, .int (nI r)), (3, .int (nI (r * 8))), (4, .int (nI k)), (5, .int (nI i))]) hx hb dX2_removeRequest_44 hl (by decide) rfl (fun ls hl => ?_)
          refine lv_iload hx hb dX2_removeRequest_46 (lv_at hl 0 rfl) ?_
          refine lv_iload_n hx hb dX2_removeRequest_48 rfl (lv_at hl 2 rfl) ?_
          refine lv_icmp_eq (tgt := 66) hx hb dX2_removeRequest_49 (by decide) (fun h_3 => ?_) (fun h_3 => ?_)
          · have h_3 := (nI_eq (a := o) (b := t) (by first | omega | exact bits_lt31 _ | exact bitN_lt _ _ | exact bool_lt _ | exact and_lt31 _ _ _ _ | exact Nat.lt_of_le_of_lt (dst_lt _ _ _ (by omega) _) (by decide) | exact Nat.lt_of_le_of_lt (nrB_le _ _ _ (by omega)).2 (by decide) | decide) (by first | omega | exact bits_lt31 _ | exact bitN_lt _ _ | exact bool_lt _ | exact and_lt31 _ _ _ _ | exact Nat.lt_of_le_of_lt (dst_lt _ _ _ (by omega) _) (by decide) | exact Nat.lt_of_le_of_lt (nrB_le _ _ _ (by omega)).2 (by decide) | decide)).mp h_3
            refine lv_iinc (v := (nI (i + 1))) (lv' := [(5, .int (nI (i + 1))), (6, .int (nI o)), (0, .ref (a 0)), (1, .int (nI t)), (2, .int (nI r)), (3, .int (nI (r * 8))), (4, .int (nI k))]) hx hb dX2_removeRequest_66 hl (k := 6) rfl (nI_add _ 1) (by decide) rfl (fun ls hl => ?_)
            refine lv_goto (tgt := 24) hx hb dX2_removeRequest_69 (by decide) ?_
            exact ih24 (i + 1) k q (by omega) (rmI_eq hI (by unfold qlen at *; omega) (by rw [← ho]; exact h_3)) (by omega) _ _ hP hD hS _ (lv_sub hl [2, 3, 4, 5, 6, 0] rfl)
          · have h_3 := mt (nI_eq (a := o) (b := t) (by first | omega | exact bits_lt31 _ | exact bitN_lt _ _ | exact bool_lt _ | exact and_lt31 _ _ _ _ | exact Nat.lt_of_le_of_lt (dst_lt _ _ _ (by omega) _) (by decide) | exact Nat.lt_of_le_of_lt (nrB_le _ _ _ (by omega)).2 (by decide) | decide) (by first | omega | exact bits_lt31 _ | exact bitN_lt _ _ | exact bool_lt _ | exact and_lt31 _ _ _ _ | exact Nat.lt_of_le_of_lt (dst_lt _ _ _ (by omega) _) (by decide) | exact Nat.lt_of_le_of_lt (nrB_le _ _ _ (by omega)).2 (by decide) | decide)).mpr h_3
            refine lv_aload_n hx hb dX2_removeRequest_52 rfl (lv_at hl 1 rfl) ?_
            refine va_get (D := D) (ci := 2) (v := .ref (a 7)) (C := RX2) (T := TX2) (N := 11) hx hb hts iX2 hown hK hP 0 rfl rfl 6 (by decide) f30 (fun _ h9 => h9) rfl dX2_removeRequest_53 ?_
            refine lv_iload_n hx hb dX2_removeRequest_56 rfl (lv_at hl 4 rfl) ?_
            refine lv_iload hx hb dX2_removeRequest_57 (lv_at hl 5 rfl) ?_
            refine lv_iadd hx hb dX2_removeRequest_59 ?_
            refine tpe (y := (nI (r * 8 + k))) (nI_add _ _) ?_
            refine lv_iload hx hb dX2_removeRequest_60 (lv_at hl 0 rfl) ?_
            refine r_ist (k := (r * 8 + k)) hx hb hK hP hD hS 7 rfl (by omega) (by decide) dX2_removeRequest_62 (fun H locs hP hD hS => ?_)
            have hP : va_P D vwCl ([(a 0, .inr (2, [.ref (a 1), .ref (a 2), .ref (a 3), .ref (a 4), .ref (a 5), .ref (a 6), .ref (a 7), .ref (a 8), .int (F 8 0), .int (F 8 1), .int (F 8 2)])), (a 1, .inl (cI, 8, .inl (F 0))), (a 2, .inl (cI, 8, .inl (F 1))), (a 3, .inl (cI, 8, .inl (F 2))), (a 4, .inl (cI, 8, .inl (F 3))), (a 5, .inl (cI, 8, .inl (F 4))), (a 6, .inl (cI, 80, .inl (F 5))), (a 7, .inl (cI, 80, .inl (upd q (r * 8 + k) (nI o)))), (a 8, .inl (cI, 10, .inl (fun z => nI ((qlen Q0) z))))]) H := hP
            have hD : va_D A ([(a 0, .inr (2, [.ref (a 1), .ref (a 2), .ref (a 3), .ref (a 4), .ref (a 5), .ref (a 6), .ref (a 7), .ref (a 8), .int (F 8 0), .int (F 8 1), .int (F 8 2)])), (a 1, .inl (cI, 8, .inl (F 0))), (a 2, .inl (cI, 8, .inl (F 1))), (a 3, .inl (cI, 8, .inl (F 2))), (a 4, .inl (cI, 8, .inl (F 3))), (a 5, .inl (cI, 8, .inl (F 4))), (a 6, .inl (cI, 80, .inl (F 5))), (a 7, .inl (cI, 80, .inl (upd q (r * 8 + k) (nI o)))), (a 8, .inl (cI, 10, .inl (fun z => nI ((qlen Q0) z))))]) := hD
            refine lv_iinc (v := (nI (k + 1))) (lv' := [(4, .int (nI (k + 1))), (6, .int (nI o)), (0, .ref (a 0)), (1, .int (nI t)), (2, .int (nI r)), (3, .int (nI (r * 8))), (5, .int (nI i))]) hx hb dX2_removeRequest_63 hl (k := 5) rfl (nI_add _ 1) (by decide) rfl (fun ls hl => ?_)
            refine lv_iinc (v := (nI (i + 1))) (lv' := [(5, .int (nI (i + 1))), (4, .int (nI (k + 1))), (6, .int (nI o)), (0, .ref (a 0)), (1, .int (nI t)), (2, .int (nI r)), (3, .int (nI (r * 8)))]) hx hb dX2_removeRequest_66 hl (k := 6) rfl (nI_add _ 1) (by decide) rfl (fun ls hl => ?_)
            refine lv_goto (tgt := 24) hx hb dX2_removeRequest_69 (by decide) ?_
            exact ih24 (i + 1) (k + 1) (upd q (r * 8 + k) (nI o)) (by omega) (rmI_ne hI (by unfold qlen at *; omega) ho h_3) (by omega) _ _ hP hD hS _ (lv_sub hl [3, 4, 5, 6, 1, 0] rfl)
    exact L24 _ 0 0 qa (Nat.zero_le _) rmI_0 (Nat.lt_succ_self _) _ _ hP hD hS _ (lv_sub hl [3, 4, 5, 2, 1, 0] rfl)
  · have h_1 := h_1
    exact ret_v (u := qa) hQ hx hb hrt hlk hS dX2_removeRequest_12 (by rw [(rm_none (Q := Q0) h_1).1, (rm_none h_1).2]; exact hP) (by rw [(rm_none h_1).2]; exact hRQ)

abbrev rX2_insertRequest : Room := { frames := 0, cells := 0, slots := 0, locals := 0 }
set_option maxHeartbeats 4000000 in
set_option maxRecDepth 100000 in
/-- insertRequest -/
theorem c_X2_insertRequest (l : Launch) (D : va_G) (cI cT : ClassId) (a : Nat → Nat) (F : FF) (Q0 : QQ) (qa : Nat → Int32) (t r n : Nat) (ht : t < 8) (hr : r < 10) (hn : n ≤ qlen Q0 r) (h8 : qlen Q0 r < 8) (hJ : JJ F Q0) (hRQ : RQ Q0 qa) : CV l D cI cT yX2_insertRequest wsX2_insertRequest rX2_insertRequest [.ref (a 0), .int (nI t), .int (nI r), .int (nI n)] (tblW cI a F Q0 qa) (S := Nat → Int32) (fun u => RQ (updQ Q0 r (insQ (Q0 r) n t)) u) (fun u => tblW cI a (up F 3 t (nI r)) (updQ Q0 r (insQ (Q0 r) n t)) u) := by
  refine CV.of (cc := cX2_insertRequest) (maxL := 6) (ret := none) (by decide) rfl (Nat.le_of_ble_eq_true rfl) ?_
  intro p e s m args below meth c A Q hQ B hA H locs hP hK hD hS ls hl
  obtain ⟨hx, hb, hml, hrt, hts, hown, hlk⟩ := B
  have hl : lv_has ls 6 [(0, .ref (a 0)), (1, .int (nI t)), (2, .int (nI r)), (3, .int (nI n))] := hl
  have iX2 : ∀ w ∈ u_ws RX2 TX2 11, w ∈ wsX2_insertRequest := by decide +kernel
  have f33 := hts (.fieldLink RX2 33 "LockManager$LockTable" "lengths" "[I") (by decide +kernel)
  have f30 := hts (.fieldLink RX2 30 "LockManager$LockTable" "queues" "[I") (by decide +kernel)
  have f21 := hts (.fieldLink RX2 21 "LockManager$LockTable" "wantedResources" "[I") (by decide +kernel)
  refine lv_iload_n hx hb dX2_insertRequest_0 rfl (lv_at hl 2 rfl) ?_
  refine lv_bipush (v := (nI 8)) hx hb dX2_insertRequest_1 (by decide) ?_
  refine lv_imul hx hb dX2_insertRequest_3 ?_
  refine tpe (y := (nI (r * 8))) (pk_mul _ _) ?_
  refine lv_istore (lv' := [(4, .int (nI (r * 8))), (0, .ref (a 0)), (1, .int (nI t)), (2, .int (nI r)), (3, .int (nI n))]) hx hb dX2_insertRequest_4 hl (by decide) rfl (fun ls hl => ?_)
  refine lv_aload_n hx hb dX2_insertRequest_6 rfl (lv_at hl 1 rfl) ?_
  refine va_get (D := D) (ci := 2) (v := .ref (a 8)) (C := RX2) (T := TX2) (N := 11) hx hb hts iX2 hown hK hP 0 rfl rfl 7 (by decide) f33 (fun _ h9 => h9) rfl dX2_insertRequest_7 ?_
  refine lv_iload_n hx hb dX2_insertRequest_10 rfl (lv_at hl 3 rfl) ?_
  refine r_ild (k := r) hx hb hK hP 8 rfl (by omega) (by decide) dX2_insertRequest_11 ?_
  refine tpe (y := (nI ((qlen Q0) r))) rfl ?_
  refine lv_istore (lv' := [(5, .int (nI ((qlen Q0) r))), (4, .int (nI (r * 8))), (0, .ref (a 0)), (1, .int (nI t)), (2, .int (nI r)), (3, .int (nI n))]) hx hb dX2_insertRequest_12 hl (by decide) rfl (fun ls hl => ?_)
  have L14 : ∀ (N : Nat) (i : Nat) (q : Nat → Int32), (i ≤ qlen Q0 r) → (n ≤ i) → (insI qa q r i (qlen Q0 r)) → (i) < N → ∀ (H : Heap) (locs : List Loc), va_P D vwCl ([(a 0, .inr (2, [.ref (a 1), .ref (a 2), .ref (a 3), .ref (a 4), .ref (a 5), .ref (a 6), .ref (a 7), .ref (a 8), .int (F 8 0), .int (F 8 1), .int (F 8 2)])), (a 1, .inl (cI, 8, .inl (F 0))), (a 2, .inl (cI, 8, .inl (F 1))), (a 3, .inl (cI, 8, .inl (F 2))), (a 4, .inl (cI, 8, .inl (F 3))), (a 5, .inl (cI, 8, .inl (F 4))), (a 6, .inl (cI, 80, .inl (F 5))), (a 7, .inl (cI, 80, .inl q)), (a 8, .inl (cI, 10, .inl (fun z => nI ((qlen Q0) z))))]) H → va_D A ([(a 0, .inr (2, [.ref (a 1), .ref (a 2), .ref (a 3), .ref (a 4), .ref (a 5), .ref (a 6), .ref (a 7), .ref (a 8), .int (F 8 0), .int (F 8 1), .int (F 8 2)])), (a 1, .inl (cI, 8, .inl (F 0))), (a 2, .inl (cI, 8, .inl (F 1))), (a 3, .inl (cI, 8, .inl (F 2))), (a 4, .inl (cI, 8, .inl (F 3))), (a 5, .inl (cI, 8, .inl (F 4))), (a 6, .inl (cI, 80, .inl (F 5))), (a 7, .inl (cI, 80, .inl q)), (a 8, .inl (cI, 10, .inl (fun z => nI ((qlen Q0) z))))]) → va_S A s.heap H locs → ∀ ls : Array Slot, lv_has ls 6 [(0, .ref (a 0)), (1, .int (nI t)), (2, .int (nI r)), (3, .int (nI n)), (4, .int (nI (r * 8))), (5, .int (nI i))] → W p l e rX2_insertRequest s m args below meth c H locs 0 0 Q (F0 m 14 ls []) := by
    intro N14
    induction N14 with
    | zero => intro i q hi hn2 hI hN; exact absurd hN (Nat.not_lt_zero _)
    | succ N14 ih14 =>
      intro i q hi hn2 hI hN H locs hP hD hS ls hl
      refine lv_iload hx hb dX2_insertRequest_14 (lv_at hl 5 rfl) ?_
      refine lv_iload_n hx hb dX2_insertRequest_16 rfl (lv_at hl 3 rfl) ?_
      refine lv_icmp_le (tgt := 48) hx hb dX2_insertRequest_17 (by decide) (fun h_1 => ?_) (fun h_1 => ?_)
      · have h_1 := (nI_leI (a := i) (b := n) (by first | omega | exact bits_lt31 _ | exact bitN_lt _ _ | exact bool_lt _ | exact and_lt31 _ _ _ _ | exact Nat.lt_of_le_of_lt (dst_lt _ _ _ (by omega) _) (by decide) | exact Nat.lt_of_le_of_lt (nrB_le _ _ _ (by omega)).2 (by decide) | decide) (by first | omega | exact bits_lt31 _ | exact bitN_lt _ _ | exact bool_lt _ | exact and_lt31 _ _ _ _ | exact Nat.lt_of_le_of_lt (dst_lt _ _ _ (by omega) _) (by decide) | exact Nat.lt_of_le_of_lt (nrB_le _ _ _ (by omega)).2 (by decide) | decide)).mp h_1
        refine lv_aload_n hx hb dX2_insertRequest_48 rfl (lv_at hl 0 rfl) ?_
        refine va_get (D := D) (ci := 2) (v := .ref (a 7)) (C := RX2) (T := TX2) (N := 11) hx hb hts iX2 hown hK hP 0 rfl rfl 6 (by decide) f30 (fun _ h9 => h9) rfl dX2_insertRequest_49 ?_
        refine lv_iload hx hb dX2_insertRequest_52 (lv_at hl 4 rfl) ?_
        refine lv_iload_n hx hb dX2_insertRequest_54 rfl (lv_at hl 3 rfl) ?_
        refine lv_iadd hx hb dX2_insertRequest_55 ?_
        refine tpe (y := (nI (r * 8 + n))) (nI_add _ _) ?_
        refine lv_iload_n hx hb dX2_insertRequest_56 rfl (lv_at hl 1 rfl) ?_
        refine r_ist (k := (r * 8 + n)) hx hb hK hP hD hS 7 rfl (by omega) (by decide) dX2_insertRequest_57 (fun H locs hP hD hS => ?_)
        have hP : va_P D vwCl ([(a 0, .inr (2, [.ref (a 1), .ref (a 2), .ref (a 3), .ref (a 4), .ref (a 5), .ref (a 6), .ref (a 7), .ref (a 8), .int (F 8 0), .int (F 8 1), .int (F 8 2)])), (a 1, .inl (cI, 8, .inl (F 0))), (a 2, .inl (cI, 8, .inl (F 1))), (a 3, .inl (cI, 8, .inl (F 2))), (a 4, .inl (cI, 8, .inl (F 3))), (a 5, .inl (cI, 8, .inl (F 4))), (a 6, .inl (cI, 80, .inl (F 5))), (a 7, .inl (cI, 80, .inl (upd q (r * 8 + n) (nI t)))), (a 8, .inl (cI, 10, .inl (fun z => nI ((qlen Q0) z))))]) H := hP
        have hD : va_D A ([(a 0, .inr (2, [.ref (a 1), .ref (a 2), .ref (a 3), .ref (a 4), .ref (a 5), .ref (a 6), .ref (a 7), .ref (a 8), .int (F 8 0), .int (F 8 1), .int (F 8 2)])), (a 1, .inl (cI, 8, .inl (F 0))), (a 2, .inl (cI, 8, .inl (F 1))), (a 3, .inl (cI, 8, .inl (F 2))), (a 4, .inl (cI, 8, .inl (F 3))), (a 5, .inl (cI, 8, .inl (F 4))), (a 6, .inl (cI, 80, .inl (F 5))), (a 7, .inl (cI, 80, .inl (upd q (r * 8 + n) (nI t)))), (a 8, .inl (cI, 10, .inl (fun z => nI ((qlen Q0) z))))]) := hD
        refine lv_aload_n hx hb dX2_insertRequest_58 rfl (lv_at hl 0 rfl) ?_
        refine va_get (D := D) (ci := 2) (v := .ref (a 8)) (C := RX2) (T := TX2) (N := 11) hx hb hts iX2 hown hK hP 0 rfl rfl 7 (by decide) f33 (fun _ h9 => h9) rfl dX2_insertRequest_59 ?_
        refine lv_iload_n hx hb dX2_insertRequest_62 rfl (lv_at hl 2 rfl) ?_
        refine lv_dup2_11 hx hb dX2_insertRequest_63 rfl rfl ?_
        refine r_ild (k := r) hx hb hK hP 8 rfl (by omega) (by decide) dX2_insertRequest_64 ?_
        refine tpe (y := (nI ((qlen Q0) r))) rfl ?_
        refine lv_iconst (v := (nI 1)) hx hb dX2_insertRequest_65 (by decide) ?_
        refine lv_iadd hx hb dX2_insertRequest_66 ?_
        refine tpe (y := (nI ((qlen Q0) r + 1))) (nI_add _ _) ?_
        refine r_ist (k := r) hx hb hK hP hD hS 8 rfl (by omega) (by decide) dX2_insertRequest_67 (fun H locs hP hD hS => ?_)
        rw [nupd] at hP hD
        have hP : va_P D vwCl ([(a 0, .inr (2, [.ref (a 1), .ref (a 2), .ref (a 3), .ref (a 4), .ref (a 5), .ref (a 6), .ref (a 7), .ref (a 8), .int (F 8 0), .int (F 8 1), .int (F 8 2)])), (a 1, .inl (cI, 8, .inl (F 0))), (a 2, .inl (cI, 8, .inl (F 1))), (a 3, .inl (cI, 8, .inl (F 2))), (a 4, .inl (cI, 8, .inl (F 3))), (a 5, .inl (cI, 8, .inl (F 4))), (a 6, .inl (cI, 80, .inl (F 5))), (a 7, .inl (cI, 80, .inl (upd q (r * 8 + n) (nI t)))), (a 8, .inl (cI, 10, .inl (fun z => nI ((va_up (qlen Q0) r ((qlen Q0) r + 1)) z))))]) H := hP
        have hD : va_D A ([(a 0, .inr (2, [.ref (a 1), .ref (a 2), .ref (a 3), .ref (a 4), .ref (a 5), .ref (a 6), .ref (a 7), .ref (a 8), .int (F 8 0), .int (F 8 1), .int (F 8 2)])), (a 1, .inl (cI, 8, .inl (F 0))), (a 2, .inl (cI, 8, .inl (F 1))), (a 3, .inl (cI, 8, .inl (F 2))), (a 4, .inl (cI, 8, .inl (F 3))), (a 5, .inl (cI, 8, .inl (F 4))), (a 6, .inl (cI, 80, .inl (F 5))), (a 7, .inl (cI, 80, .inl (upd q (r * 8 + n) (nI t)))), (a 8, .inl (cI, 10, .inl (fun z => nI ((va_up (qlen Q0) r ((qlen Q0) r + 1)) z))))]) := hD
        refine lv_aload_n hx hb dX2_insertRequest_68 rfl (lv_at hl 0 rfl) ?_
        refine va_get (D := D) (ci := 2) (v := .ref (a 4)) (C := RX2) (T := TX2) (N := 11) hx hb hts iX2 hown hK hP 0 rfl rfl 3 (by decide) f21 (fun _ h9 => h9) rfl dX2_insertRequest_69 ?_
        refine lv_iload_n hx hb dX2_insertRequest_72 rfl (lv_at hl 1 rfl) ?_
        refine lv_iload_n hx hb dX2_insertRequest_73 rfl (lv_at hl 2 rfl) ?_
        refine r_ist (k := t) hx hb hK hP hD hS 4 rfl (by omega) (by decide) dX2_insertRequest_74 (fun H locs hP hD hS => ?_)
        have hP : va_P D vwCl ([(a 0, .inr (2, [.ref (a 1), .ref (a 2), .ref (a 3), .ref (a 4), .ref (a 5), .ref (a 6), .ref (a 7), .ref (a 8), .int (F 8 0), .int (F 8 1), .int (F 8 2)])), (a 1, .inl (cI, 8, .inl (F 0))), (a 2, .inl (cI, 8, .inl (F 1))), (a 3, .inl (cI, 8, .inl (F 2))), (a 4, .inl (cI, 8, .inl (upd (F 3) t (nI r)))), (a 5, .inl (cI, 8, .inl (F 4))), (a 6, .inl (cI, 80, .inl (F 5))), (a 7, .inl (cI, 80, .inl (upd q (r * 8 + n) (nI t)))), (a 8, .inl (cI, 10, .inl (fun z => nI ((va_up (qlen Q0) r ((qlen Q0) r + 1)) z))))]) H := hP
        have hD : va_D A ([(a 0, .inr (2, [.ref (a 1), .ref (a 2), .ref (a 3), .ref (a 4), .ref (a 5), .ref (a 6), .ref (a 7), .ref (a 8), .int (F 8 0), .int (F 8 1), .int (F 8 2)])), (a 1, .inl (cI, 8, .inl (F 0))), (a 2, .inl (cI, 8, .inl (F 1))), (a 3, .inl (cI, 8, .inl (F 2))), (a 4, .inl (cI, 8, .inl (upd (F 3) t (nI r)))), (a 5, .inl (cI, 8, .inl (F 4))), (a 6, .inl (cI, 80, .inl (F 5))), (a 7, .inl (cI, 80, .inl (upd q (r * 8 + n) (nI t)))), (a 8, .inl (cI, 10, .inl (fun z => nI ((va_up (qlen Q0) r ((qlen Q0) r + 1)) z))))]) := hD
        have hR2 := insI_end (t := t) hJ hr hRQ (show insI qa q r n (qlen Q0 r) by rw [show n = i by omega]; exact hI) hn h8
        rw [qlen_up (n := qlen Q0 r + 1) (insQ (Q0 r) n t) (insQ_len _ hn)] at hP
        exact ret_v (u := upd q (r * 8 + n) (nI t)) hQ hx hb hrt hlk hS dX2_insertRequest_75 hP hR2
      · have h_1 := mt (nI_leI (a := i) (b := n) (by first | omega | exact bits_lt31 _ | exact bitN_lt _ _ | exact bool_lt _ | exact and_lt31 _ _ _ _ | exact Nat.lt_of_le_of_lt (dst_lt _ _ _ (by omega) _) (by decide) | exact Nat.lt_of_le_of_lt (nrB_le _ _ _ (by omega)).2 (by decide) | decide) (by first | omega | exact bits_lt31 _ | exact bitN_lt _ _ | exact bool_lt _ | exact and_lt31 _ _ _ _ | exact Nat.lt_of_le_of_lt (dst_lt _ _ _ (by omega) _) (by decide) | exact Nat.lt_of_le_of_lt (nrB_le _ _ _ (by omega)).2 (by decide) | decide)).mpr h_1
        refine lv_aload_n hx hb dX2_insertRequest_20 rfl (lv_at hl 0 rfl) ?_
        refine va_get (D := D) (ci := 2) (v := .ref (a 7)) (C := RX2) (T := TX2) (N := 11) hx hb hts iX2 hown hK hP 0 rfl rfl 6 (by decide) f30 (fun _ h9 => h9) rfl dX2_insertRequest_21 ?_
        refine lv_iload hx hb dX2_insertRequest_24 (lv_at hl 4 rfl) ?_
        refine lv_iload hx hb dX2_insertRequest_26 (lv_at hl 5 rfl) ?_
        refine lv_iadd hx hb dX2_insertRequest_28 ?_
        refine tpe (y := (nI (r * 8 + i))) (nI_add _ _) ?_
        refine lv_aload_n hx hb dX2_insertRequest_29 rfl (lv_at hl 0 rfl) ?_
        refine va_get (D := D) (ci := 2) (v := .ref (a 7)) (C := RX2) (T := TX2) (N := 11) hx hb hts iX2 hown hK hP 0 rfl rfl 6 (by decide) f30 (fun _ h9 => h9) rfl dX2_insertRequest_30 ?_
        refine lv_iload hx hb dX2_insertRequest_33 (lv_at hl 4 rfl) ?_
        refine lv_iload hx hb dX2_insertRequest_35 (lv_at hl 5 rfl) ?_
        refine lv_iadd hx hb dX2_insertRequest_37 ?_
        refine tpe (y := (nI (r * 8 + i))) (nI_add _ _) ?_
        refine lv_iconst (v := (nI 1)) hx hb dX2_insertRequest_38 (by decide) ?_
        refine lv_isub hx hb dX2_insertRequest_39 ?_
        refine tpe (y := (nI ((r * 8 + i) - 1))) (pk_sub (by omega)) ?_
        refine r_ild (k := ((r * 8 + i) - 1)) hx hb hK hP 7 rfl (by omega) (by decide) dX2_insertRequest_40 ?_
        refine r_ist (k := (r * 8 + i)) hx hb hK hP hD hS 7 rfl (by omega) (by decide) dX2_insertRequest_41 (fun H locs hP hD hS => ?_)
        have hP : va_P D vwCl ([(a 0, .inr (2, [.ref (a 1), .ref (a 2), .ref (a 3), .ref (a 4), .ref (a 5), .ref (a 6), .ref (a 7), .ref (a 8), .int (F 8 0), .int (F 8 1), .int (F 8 2)])), (a 1, .inl (cI, 8, .inl (F 0))), (a 2, .inl (cI, 8, .inl (F 1))), (a 3, .inl (cI, 8, .inl (F 2))), (a 4, .inl (cI, 8, .inl (F 3))), (a 5, .inl (cI, 8, .inl (F 4))), (a 6, .inl (cI, 80, .inl (F 5))), (a 7, .inl (cI, 80, .inl (upd q (r * 8 + i) (q ((r * 8 + i) - 1))))), (a 8, .inl (cI, 10, .inl (fun z => nI ((qlen Q0) z))))]) H := hP
        have hD : va_D A ([(a 0, .inr (2, [.ref (a 1), .ref (a 2), .ref (a 3), .ref (a 4), .ref (a 5), .ref (a 6), .ref (a 7), .ref (a 8), .int (F 8 0), .int (F 8 1), .int (F 8 2)])), (a 1, .inl (cI, 8, .inl (F 0))), (a 2, .inl (cI, 8, .inl (F 1))), (a 3, .inl (cI, 8, .inl (F 2))), (a 4, .inl (cI, 8, .inl (F 3))), (a 5, .inl (cI, 8, .inl (F 4))), (a 6, .inl (cI, 80, .inl (F 5))), (a 7, .inl (cI, 80, .inl (upd q (r * 8 + i) (q ((r * 8 + i) - 1))))), (a 8, .inl (cI, 10, .inl (fun z => nI ((qlen Q0) z))))]) := hD
        refine lv_iinc (v := (nI (i - 1))) (lv' := [(5, .int (nI (i - 1))), (0, .ref (a 0)), (1, .int (nI t)), (2, .int (nI r)), (3, .int (nI n)), (4, .int (nI (r * 8)))]) hx hb dX2_insertRequest_42 hl (k := 5) rfl (iinc_m1 (by omega)) (by decide) rfl (fun ls hl => ?_)
        refine lv_goto (tgt := 14) hx hb dX2_insertRequest_45 (by decide) ?_
        exact ih14 (i - 1) (upd q (r * 8 + i) (q (r * 8 + i - 1))) (by omega) (by omega) (insI_s hI (by omega) hi (by omega)) (by omega) _ _ hP hD hS _ (lv_sub hl [1, 2, 3, 4, 5, 0] rfl)
  exact L14 _ (qlen Q0 r) qa (Nat.le_refl _) hn insI_0 (Nat.lt_succ_self _) _ _ hP hD hS _ (lv_sub hl [2, 3, 4, 5, 1, 0] rfl)

abbrev rX2_waitedFor : Room := { frames := 1, cells := 0, slots := 0, locals := 27 }
set_option maxHeartbeats 4000000 in
set_option maxRecDepth 100000 in
/-- waitedFor -/
theorem c_X2_waitedFor (l : Launch) (D : va_G) (cI cT : ClassId) (a : Nat → Nat) (F : FF) (Q0 : QQ) (qa : Nat → Int32) (t : Nat) (ht : t < 8) (hJ : JJ F Q0) (hRQ : RQ Q0 qa) : CN l D cI cT yX2_waitedFor wsX2_waitedFor rX2_waitedFor [.ref (a 0), .int (nI t)] (tblW cI a F Q0 qa) (S := Unit) (fun v _ => v = nI (aWS F Q0 t)) (fun _ => tblW cI a F Q0 qa) := by
  refine CN.of (cc := cX2_waitedFor) (maxL := 3) (ret := (some .int)) (by decide) rfl (Nat.le_of_ble_eq_true rfl) ?_
  intro p e s m args below meth c A Q hQ B hA H locs hP hK hD hS ls hl
  obtain ⟨hx, hb, hml, hrt, hts, hown, hlk⟩ := B
  have hl : lv_has ls 3 [(0, .ref (a 0)), (1, .int (nI t))] := hl
  have iX2 : ∀ w ∈ u_ws RX2 TX2 11, w ∈ wsX2_waitedFor := by decide +kernel
  have f21 := hts (.fieldLink RX2 21 "LockManager$LockTable" "wantedResources" "[I") (by decide +kernel)
  have f24 := hts (.fieldLink RX2 24 "LockManager$LockTable" "wantedModes" "[I") (by decide +kernel)
  refine lv_aload_n hx hb dX2_waitedFor_0 rfl (lv_at hl 0 rfl) ?_
  refine va_get (D := D) (ci := 2) (v := .ref (a 4)) (C := RX2) (T := TX2) (N := 11) hx hb hts iX2 hown hK hP 0 rfl rfl 3 (by decide) f21 (fun _ h9 => h9) rfl dX2_waitedFor_1 ?_
  refine lv_iload_n hx hb dX2_waitedFor_4 rfl (lv_at hl 1 rfl) ?_
  refine r_ild (k := t) hx hb hK hP 4 rfl (by omega) (by decide) dX2_waitedFor_5 ?_
  refine lv_istore_n (lv' := [(2, .int ((F 3) t)), (0, .ref (a 0)), (1, .int (nI t))]) hx hb dX2_waitedFor_6 rfl hl (by decide) rfl (fun ls hl => ?_)
  refine lv_iload_n hx hb dX2_waitedFor_7 rfl (lv_at hl 0 rfl) ?_
  refine lv_iconst (v := (-1)) hx hb dX2_waitedFor_8 (by decide) ?_
  refine lv_icmp_ne (tgt := 14) hx hb dX2_waitedFor_9 (by decide) (fun h_1 => ?_) (fun h_1 => ?_)
  · have h_1 := h_1
    obtain ⟨r, hr, h3, hw, hm⟩ := JJ_want hJ ht h_1
    rw [h3] at hl
    have hl : lv_has ls 3 [(0, .ref (a 0)), (1, .int (nI t)), (2, .int (nI r))] := lv_sub hl [1, 2, 0] rfl
    refine lv_aload_n hx hb dX2_waitedFor_14 rfl (lv_at hl 0 rfl) ?_
    refine lv_iload_n hx hb dX2_waitedFor_15 rfl (lv_at hl 1 rfl) ?_
    refine lv_iload_n hx hb dX2_waitedFor_16 rfl (lv_at hl 2 rfl) ?_
    refine lv_aload_n hx hb dX2_waitedFor_17 rfl (lv_at hl 0 rfl) ?_
    refine va_get (D := D) (ci := 2) (v := .ref (a 5)) (C := RX2) (T := TX2) (N := 11) hx hb hts iX2 hown hK hP 0 rfl rfl 4 (by decide) f24 (fun _ h9 => h9) rfl dX2_waitedFor_18 ?_
    refine lv_iload_n hx hb dX2_waitedFor_21 rfl (lv_at hl 1 rfl) ?_
    refine r_ild (k := t) hx hb hK hP 5 rfl (by omega) (by decide) dX2_waitedFor_22 ?_
    refine call_i (X := []) (Z := []) (As := [.int (nI t), .int (nI r), .int ((F 4) t)]) (rest := []) ⟨hx, hb, hml, hown, hts⟩ (c_X2_rivalHolders l D cI cT a F Q0 qa t r ((F 4) t) (by omega) (by omega)) (cwV 3 hts gX2_waitedFor_X2_rivalHolders rfl rfl rfl (by decide +kernel) ⟨Nat.le_of_ble_eq_true rfl, Nat.le_of_ble_eq_true rfl⟩) hK hP hD hS hA (va_recv hK hP (ci := 2) (q0 := 0) rfl rfl) (fun _ => rfl) rfl hl.1 rfl (Nat.le_of_ble_eq_true rfl) ⟨Nat.zero_le _, Nat.zero_le _⟩ dX2_waitedFor_23 (fun rv u H locs hp hP hD hS => ?_)
    obtain rfl := hp
    have hP : va_P D vwCl ([(a 0, .inr (2, [.ref (a 1), .ref (a 2), .ref (a 3), .ref (a 4), .ref (a 5), .ref (a 6), .ref (a 7), .ref (a 8), .int (F 8 0), .int (F 8 1), .int (F 8 2)])), (a 1, .inl (cI, 8, .inl (F 0))), (a 2, .inl (cI, 8, .inl (F 1))), (a 3, .inl (cI, 8, .inl (F 2))), (a 4, .inl (cI, 8, .inl (F 3))), (a 5, .inl (cI, 8, .inl (F 4))), (a 6, .inl (cI, 80, .inl (F 5))), (a 7, .inl (cI, 80, .inl qa)), (a 8, .inl (cI, 10, .inl (fun z => nI ((qlen Q0) z))))]) H := hP
    have hD : va_D A ([(a 0, .inr (2, [.ref (a 1), .ref (a 2), .ref (a 3), .ref (a 4), .ref (a 5), .ref (a 6), .ref (a 7), .ref (a 8), .int (F 8 0), .int (F 8 1), .int (F 8 2)])), (a 1, .inl (cI, 8, .inl (F 0))), (a 2, .inl (cI, 8, .inl (F 1))), (a 3, .inl (cI, 8, .inl (F 2))), (a 4, .inl (cI, 8, .inl (F 3))), (a 5, .inl (cI, 8, .inl (F 4))), (a 6, .inl (cI, 80, .inl (F 5))), (a 7, .inl (cI, 80, .inl qa)), (a 8, .inl (cI, 10, .inl (fun z => nI ((qlen Q0) z))))]) := hD
    refine lv_aload_n hx hb dX2_waitedFor_26 rfl (lv_at hl 0 rfl) ?_
    refine lv_iload_n hx hb dX2_waitedFor_27 rfl (lv_at hl 1 rfl) ?_
    refine lv_iload_n hx hb dX2_waitedFor_28 rfl (lv_at hl 2 rfl) ?_
    refine call_i (X := []) (Z := []) (As := [.int (nI t), .int (nI r)]) (rest := [.int (nI (bits (rivB F t r ((F 4) t)) 8))]) ⟨hx, hb, hml, hown, hts⟩ (c_X2_rivalsAhead l D cI cT a F Q0 qa t r (by omega) (by omega) hJ hRQ) (cwV 2 hts gX2_waitedFor_X2_rivalsAhead rfl rfl rfl (by decide +kernel) ⟨Nat.le_of_ble_eq_true rfl, Nat.le_of_ble_eq_true rfl⟩) hK hP hD hS hA (va_recv hK hP (ci := 2) (q0 := 0) rfl rfl) (fun _ => rfl) rfl hl.1 rfl (Nat.le_of_ble_eq_true rfl) ⟨Nat.zero_le _, Nat.zero_le _⟩ dX2_waitedFor_29 (fun rv u H locs hp hP hD hS => ?_)
    obtain rfl := hp
    have hP : va_P D vwCl ([(a 0, .inr (2, [.ref (a 1), .ref (a 2), .ref (a 3), .ref (a 4), .ref (a 5), .ref (a 6), .ref (a 7), .ref (a 8), .int (F 8 0), .int (F 8 1), .int (F 8 2)])), (a 1, .inl (cI, 8, .inl (F 0))), (a 2, .inl (cI, 8, .inl (F 1))), (a 3, .inl (cI, 8, .inl (F 2))), (a 4, .inl (cI, 8, .inl (F 3))), (a 5, .inl (cI, 8, .inl (F 4))), (a 6, .inl (cI, 80, .inl (F 5))), (a 7, .inl (cI, 80, .inl qa)), (a 8, .inl (cI, 10, .inl (fun z => nI ((qlen Q0) z))))]) H := hP
    have hD : va_D A ([(a 0, .inr (2, [.ref (a 1), .ref (a 2), .ref (a 3), .ref (a 4), .ref (a 5), .ref (a 6), .ref (a 7), .ref (a 8), .int (F 8 0), .int (F 8 1), .int (F 8 2)])), (a 1, .inl (cI, 8, .inl (F 0))), (a 2, .inl (cI, 8, .inl (F 1))), (a 3, .inl (cI, 8, .inl (F 2))), (a 4, .inl (cI, 8, .inl (F 3))), (a 5, .inl (cI, 8, .inl (F 4))), (a 6, .inl (cI, 80, .inl (F 5))), (a 7, .inl (cI, 80, .inl qa)), (a 8, .inl (cI, 10, .inl (fun z => nI ((qlen Q0) z))))]) := hD
    refine lv_ior hx hb dX2_waitedFor_32 ?_
    exact ret_i (u := ()) hQ hx hb hrt hlk hS dX2_waitedFor_33 hP (aw_some h_1 hw)
  · have h_1 := h_1
    refine lv_iconst (v := (nI 0)) hx hb dX2_waitedFor_12 (by decide) ?_
    exact ret_i (u := ()) hQ hx hb hrt hlk hS dX2_waitedFor_13 hP (by rw [aw_none h_1])

abbrev rX2_allWaitedFor : Room := { frames := 2, cells := 0, slots := 0, locals := 49 }
set_option maxHeartbeats 4000000 in
set_option maxRecDepth 100000 in
/-- allWaitedFor -/
theorem c_X2_allWaitedFor (l : Launch) (D : va_G) (cI cT : ClassId) (a : Nat → Nat) (F : FF) (Q0 : QQ) (qa : Nat → Int32) (t : Nat) (ht : t < 8) (hJ : JJ F Q0) (hRQ : RQ Q0 qa) : CN l D cI cT yX2_allWaitedFor wsX2_allWaitedFor rX2_allWaitedFor [.ref (a 0), .int (nI t)] (tblW cI a F Q0 qa) (S := Unit) (fun v _ => v = nI (clR F Q0 (aWS F Q0 t) 7)) (fun _ => tblW cI a F Q0 qa) := by
  refine CN.of (cc := cX2_allWaitedFor) (maxL := 5) (ret := (some .int)) (by decide) rfl (Nat.le_of_ble_eq_true rfl) ?_
  intro p e s m args below meth c A Q hQ B hA H locs hP hK hD hS ls hl
  obtain ⟨hx, hb, hml, hrt, hts, hown, hlk⟩ := B
  have hl : lv_has ls 5 [(0, .ref (a 0)), (1, .int (nI t))] := hl
  refine lv_aload_n hx hb dX2_allWaitedFor_0 rfl (lv_at hl 0 rfl) ?_
  refine lv_iload_n hx hb dX2_allWaitedFor_1 rfl (lv_at hl 1 rfl) ?_
  refine call_i (X := []) (Z := []) (As := [.int (nI t)]) (rest := []) ⟨hx, hb, hml, hown, hts⟩ (c_X2_waitedFor l D cI cT a F Q0 qa t (by omega) hJ hRQ) (cwV 1 hts gX2_allWaitedFor_X2_waitedFor rfl rfl rfl (by decide +kernel) ⟨Nat.le_of_ble_eq_true rfl, Nat.le_of_ble_eq_true rfl⟩) hK hP hD hS hA (va_recv hK hP (ci := 2) (q0 := 0) rfl rfl) (fun _ => rfl) rfl hl.1 rfl (Nat.le_of_ble_eq_true rfl) ⟨Nat.zero_le _, Nat.zero_le _⟩ dX2_allWaitedFor_2 (fun rv u H locs hp hP hD hS => ?_)
  obtain rfl := hp
  have hP : va_P D vwCl ([(a 0, .inr (2, [.ref (a 1), .ref (a 2), .ref (a 3), .ref (a 4), .ref (a 5), .ref (a 6), .ref (a 7), .ref (a 8), .int (F 8 0), .int (F 8 1), .int (F 8 2)])), (a 1, .inl (cI, 8, .inl (F 0))), (a 2, .inl (cI, 8, .inl (F 1))), (a 3, .inl (cI, 8, .inl (F 2))), (a 4, .inl (cI, 8, .inl (F 3))), (a 5, .inl (cI, 8, .inl (F 4))), (a 6, .inl (cI, 80, .inl (F 5))), (a 7, .inl (cI, 80, .inl qa)), (a 8, .inl (cI, 10, .inl (fun z => nI ((qlen Q0) z))))]) H := hP
  have hD : va_D A ([(a 0, .inr (2, [.ref (a 1), .ref (a 2), .ref (a 3), .ref (a 4), .ref (a 5), .ref (a 6), .ref (a 7), .ref (a 8), .int (F 8 0), .int (F 8 1), .int (F 8 2)])), (a 1, .inl (cI, 8, .inl (F 0))), (a 2, .inl (cI, 8, .inl (F 1))), (a 3, .inl (cI, 8, .inl (F 2))), (a 4, .inl (cI, 8, .inl (F 3))), (a 5, .inl (cI, 8, .inl (F 4))), (a 6, .inl (cI, 80, .inl (F 5))), (a 7, .inl (cI, 80, .inl qa)), (a 8, .inl (cI, 10, .inl (fun z => nI ((qlen Q0) z))))]) := hD
  refine lv_istore_n (lv' := [(2, .int (nI (aWS F Q0 t))), (0, .ref (a 0)), (1, .int (nI t))]) hx hb dX2_allWaitedFor_5 rfl hl (by decide) rfl (fun ls hl => ?_)
  refine lv_iconst (v := (nI 1)) hx hb dX2_allWaitedFor_6 (by decide) ?_
  refine lv_istore_n (lv' := [(3, .int (nI 1)), (2, .int (nI (aWS F Q0 t))), (0, .ref (a 0)), (1, .int (nI t))]) hx hb dX2_allWaitedFor_7 rfl hl (by decide) rfl (fun ls hl => ?_)
  have L8 : ∀ (N : Nat) (k : Nat), (k ≤ 7) → (7 - k) < N → ∀ (H : Heap) (locs : List Loc), va_P D vwCl ([(a 0, .inr (2, [.ref (a 1), .ref (a 2), .ref (a 3), .ref (a 4), .ref (a 5), .ref (a 6), .ref (a 7), .ref (a 8), .int (F 8 0), .int (F 8 1), .int (F 8 2)])), (a 1, .inl (cI, 8, .inl (F 0))), (a 2, .inl (cI, 8, .inl (F 1))), (a 3, .inl (cI, 8, .inl (F 2))), (a 4, .inl (cI, 8, .inl (F 3))), (a 5, .inl (cI, 8, .inl (F 4))), (a 6, .inl (cI, 80, .inl (F 5))), (a 7, .inl (cI, 80, .inl qa)), (a 8, .inl (cI, 10, .inl (fun z => nI ((qlen Q0) z))))]) H → va_D A ([(a 0, .inr (2, [.ref (a 1), .ref (a 2), .ref (a 3), .ref (a 4), .ref (a 5), .ref (a 6), .ref (a 7), .ref (a 8), .int (F 8 0), .int (F 8 1), .int (F 8 2)])), (a 1, .inl (cI, 8, .inl (F 0))), (a 2, .inl (cI, 8, .inl (F 1))), (a 3, .inl (cI, 8, .inl (F 2))), (a 4, .inl (cI, 8, .inl (F 3))), (a 5, .inl (cI, 8, .inl (F 4))), (a 6, .inl (cI, 80, .inl (F 5))), (a 7, .inl (cI, 80, .inl qa)), (a 8, .inl (cI, 10, .inl (fun z => nI ((qlen Q0) z))))]) → va_S A s.heap H locs → ∀ ls : Array Slot, lv_has ls 5 [(0, .ref (a 0)), (1, .int (nI t)), (2, .int (nI (clR F Q0 (aWS F Q0 t) k))), (3, .int (nI (k + 1)))] → W p l e rX2_allWaitedFor s m args below meth c H locs 0 0 Q (F0 m 8 ls []) := by
    intro N8
    induction N8 with
    | zero => intro k hk hN; exact absurd hN (Nat.not_lt_zero _)
    | succ N8 ih8 =>
      intro k hk hN H locs hP hD hS ls hl
      refine lv_iload_n hx hb dX2_allWaitedFor_8 rfl (lv_at hl 3 rfl) ?_
      refine lv_bipush (v := (nI 8)) hx hb dX2_allWaitedFor_9 (by decide) ?_
      refine lv_icmp_ge (tgt := 55) hx hb dX2_allWaitedFor_11 (by decide) (fun h_1 => ?_) (fun h_1 => ?_)
      · have h_1 := (nI_leI (a := 8) (b := (k + 1)) (by first | omega | exact bits_lt31 _ | exact bitN_lt _ _ | exact bool_lt _ | exact and_lt31 _ _ _ _ | exact Nat.lt_of_le_of_lt (dst_lt _ _ _ (by omega) _) (by decide) | exact Nat.lt_of_le_of_lt (nrB_le _ _ _ (by omega)).2 (by decide) | decide) (by first | omega | exact bits_lt31 _ | exact bitN_lt _ _ | exact bool_lt _ | exact and_lt31 _ _ _ _ | exact Nat.lt_of_le_of_lt (dst_lt _ _ _ (by omega) _) (by decide) | exact Nat.lt_of_le_of_lt (nrB_le _ _ _ (by omega)).2 (by decide) | decide)).mp h_1
        refine lv_iload_n hx hb dX2_allWaitedFor_55 rfl (lv_at hl 2 rfl) ?_
        exact ret_i (u := ()) hQ hx hb hrt hlk hS dX2_allWaitedFor_56 hP (by rw [show k = 7 by omega])
      · have h_1 := mt (nI_leI (a := 8) (b := (k + 1)) (by first | omega | exact bits_lt31 _ | exact bitN_lt _ _ | exact bool_lt _ | exact and_lt31 _ _ _ _ | exact Nat.lt_of_le_of_lt (dst_lt _ _ _ (by omega) _) (by decide) | exact Nat.lt_of_le_of_lt (nrB_le _ _ _ (by omega)).2 (by decide) | decide) (by first | omega | exact bits_lt31 _ | exact bitN_lt _ _ | exact bool_lt _ | exact and_lt31 _ _ _ _ | exact Nat.lt_of_le_of_lt (dst_lt _ _ _ (by omega) _) (by decide) | exact Nat.lt_of_le_of_lt (nrB_le _ _ _ (by omega)).2 (by decide) | decide)).mpr h_1
        refine lv_iconst (v := (nI 0)) hx hb dX2_allWaitedFor_14 (by decide) ?_
        refine lv_istore (lv' := [(4, .int (nI 0)), (0, .ref (a 0)), (1, .int (nI t)), (2, .int (nI (clR F Q0 (aWS F Q0 t) k))), (3, .int (nI (k + 1)))]) hx hb dX2_allWaitedFor_15 hl (by decide) rfl (fun ls hl => ?_)
        have L17 : ∀ (N : Nat) (i : Nat), (i ≤ 8) → (8 - i) < N → ∀ (H : Heap) (locs : List Loc), va_P D vwCl ([(a 0, .inr (2, [.ref (a 1), .ref (a 2), .ref (a 3), .ref (a 4), .ref (a 5), .ref (a 6), .ref (a 7), .ref (a 8), .int (F 8 0), .int (F 8 1), .int (F 8 2)])), (a 1, .inl (cI, 8, .inl (F 0))), (a 2, .inl (cI, 8, .inl (F 1))), (a 3, .inl (cI, 8, .inl (F 2))), (a 4, .inl (cI, 8, .inl (F 3))), (a 5, .inl (cI, 8, .inl (F 4))), (a 6, .inl (cI, 80, .inl (F 5))), (a 7, .inl (cI, 80, .inl qa)), (a 8, .inl (cI, 10, .inl (fun z => nI ((qlen Q0) z))))]) H → va_D A ([(a 0, .inr (2, [.ref (a 1), .ref (a 2), .ref (a 3), .ref (a 4), .ref (a 5), .ref (a 6), .ref (a 7), .ref (a 8), .int (F 8 0), .int (F 8 1), .int (F 8 2)])), (a 1, .inl (cI, 8, .inl (F 0))), (a 2, .inl (cI, 8, .inl (F 1))), (a 3, .inl (cI, 8, .inl (F 2))), (a 4, .inl (cI, 8, .inl (F 3))), (a 5, .inl (cI, 8, .inl (F 4))), (a 6, .inl (cI, 80, .inl (F 5))), (a 7, .inl (cI, 80, .inl qa)), (a 8, .inl (cI, 10, .inl (fun z => nI ((qlen Q0) z))))]) → va_S A s.heap H locs → ∀ ls : Array Slot, lv_has ls 5 [(0, .ref (a 0)), (1, .int (nI t)), (2, .int (nI (clT F Q0 (clR F Q0 (aWS F Q0 t) k) i))), (3, .int (nI (k + 1))), (4, .int (nI i))] → W p l e rX2_allWaitedFor s m args below meth c H locs 0 0 Q (F0 m 17 ls []) := by
          intro N17
          induction N17 with
          | zero => intro i hi hN; exact absurd hN (Nat.not_lt_zero _)
          | succ N17 ih17 =>
            intro i hi hN H locs hP hD hS ls hl
            refine lv_iload hx hb dX2_allWaitedFor_17 (lv_at hl 4 rfl) ?_
            refine lv_bipush (v := (nI 8)) hx hb dX2_allWaitedFor_19 (by decide) ?_
            refine lv_icmp_ge (tgt := 49) hx hb dX2_allWaitedFor_21 (by decide) (fun h_2 => ?_) (fun h_2 => ?_)
            · have h_2 := (nI_leI (a := 8) (b := i) (by first | omega | exact bits_lt31 _ | exact bitN_lt _ _ | exact bool_lt _ | exact and_lt31 _ _ _ _ | exact Nat.lt_of_le_of_lt (dst_lt _ _ _ (by omega) _) (by decide) | exact Nat.lt_of_le_of_lt (nrB_le _ _ _ (by omega)).2 (by decide) | decide) (by first | omega | exact bits_lt31 _ | exact bitN_lt _ _ | exact bool_lt _ | exact and_lt31 _ _ _ _ | exact Nat.lt_of_le_of_lt (dst_lt _ _ _ (by omega) _) (by decide) | exact Nat.lt_of_le_of_lt (nrB_le _ _ _ (by omega)).2 (by decide) | decide)).mp h_2
              refine lv_iinc (v := (nI (k + 1 + 1))) (lv' := [(3, .int (nI (k + 1 + 1))), (0, .ref (a 0)), (1, .int (nI t)), (2, .int (nI (clT F Q0 (clR F Q0 (aWS F Q0 t) k) i))), (4, .int (nI i))]) hx hb dX2_allWaitedFor_49 hl (k := 3) rfl (nI_add _ 1) (by decide) rfl (fun ls hl => ?_)
              refine lv_goto (tgt := 8) hx hb dX2_allWaitedFor_52 (by decide) ?_
              rw [show (nI (clT F Q0 (clR F Q0 (aWS F Q0 t) k) i)) = (nI (clR F Q0 (aWS F Q0 t) (k + 1))) from (by rw [show i = 8 by omega]; rfl)] at hl
              exact ih8 (k + 1) (by omega) (by omega) _ _ hP hD hS _ (lv_sub hl [1, 2, 3, 0] rfl)
            · have h_2 := mt (nI_leI (a := 8) (b := i) (by first | omega | exact bits_lt31 _ | exact bitN_lt _ _ | exact bool_lt _ | exact and_lt31 _ _ _ _ | exact Nat.lt_of_le_of_lt (dst_lt _ _ _ (by omega) _) (by decide) | exact Nat.lt_of_le_of_lt (nrB_le _ _ _ (by omega)).2 (by decide) | decide) (by first | omega | exact bits_lt31 _ | exact bitN_lt _ _ | exact bool_lt _ | exact and_lt31 _ _ _ _ | exact Nat.lt_of_le_of_lt (dst_lt _ _ _ (by omega) _) (by decide) | exact Nat.lt_of_le_of_lt (nrB_le _ _ _ (by omega)).2 (by decide) | decide)).mpr h_2
              refine lv_iload_n hx hb dX2_allWaitedFor_24 rfl (lv_at hl 2 rfl) ?_
              refine lv_iload hx hb dX2_allWaitedFor_25 (lv_at hl 4 rfl) ?_
              refine lv_ishr hx hb dX2_allWaitedFor_27 ?_
              refine lv_iconst (v := (nI 1)) hx hb dX2_allWaitedFor_28 (by decide) ?_
              refine lv_iand hx hb dX2_allWaitedFor_29 ?_
              refine tpe (y := nI (bitN (clT F Q0 (clR F Q0 (aWS F Q0 t) k) i) i)) (tb_I (Nat.lt_of_lt_of_le (clT_lt (clR_lt (aWS_lt _ _ _) k) i) (by decide)) (by omega)) ?_
              refine lv_iconst (v := (nI 1)) hx hb dX2_allWaitedFor_30 (by decide) ?_
              refine lv_icmp_ne (tgt := 43) hx hb dX2_allWaitedFor_31 (by decide) (fun h_3 => ?_) (fun h_3 => ?_)
              · have h_3 := mt (nI_eq (a := (bitN (clT F Q0 (clR F Q0 (aWS F Q0 t) k) i) i)) (b := 1) (by first | omega | exact bits_lt31 _ | exact bitN_lt _ _ | exact bool_lt _ | exact and_lt31 _ _ _ _ | exact Nat.lt_of_le_of_lt (dst_lt _ _ _ (by omega) _) (by decide) | exact Nat.lt_of_le_of_lt (nrB_le _ _ _ (by omega)).2 (by decide) | decide) (by first | omega | exact bits_lt31 _ | exact bitN_lt _ _ | exact bool_lt _ | exact and_lt31 _ _ _ _ | exact Nat.lt_of_le_of_lt (dst_lt _ _ _ (by omega) _) (by decide) | exact Nat.lt_of_le_of_lt (nrB_le _ _ _ (by omega)).2 (by decide) | decide)).mpr h_3
                refine lv_iinc (v := (nI (i + 1))) (lv' := [(4, .int (nI (i + 1))), (0, .ref (a 0)), (1, .int (nI t)), (2, .int (nI (clT F Q0 (clR F Q0 (aWS F Q0 t) k) i))), (3, .int (nI (k + 1)))]) hx hb dX2_allWaitedFor_43 hl (k := 4) rfl (nI_add _ 1) (by decide) rfl (fun ls hl => ?_)
                refine lv_goto (tgt := 17) hx hb dX2_allWaitedFor_46 (by decide) ?_
                rw [show (nI (clT F Q0 (clR F Q0 (aWS F Q0 t) k) i)) = (nI (clT F Q0 (clR F Q0 (aWS F Q0 t) k) (i + 1))) from (by rw [clT, if_neg (fun e => h_3 (bitN_1.mpr e))])] at hl
                exact ih17 (i + 1) (by omega) (by omega) _ _ hP hD hS _ (lv_sub hl [1, 2, 3, 4, 0] rfl)
              · have h_3 := (nI_eq (a := (bitN (clT F Q0 (clR F Q0 (aWS F Q0 t) k) i) i)) (b := 1) (by first | omega | exact bits_lt31 _ | exact bitN_lt _ _ | exact bool_lt _ | exact and_lt31 _ _ _ _ | exact Nat.lt_of_le_of_lt (dst_lt _ _ _ (by omega) _) (by decide) | exact Nat.lt_of_le_of_lt (nrB_le _ _ _ (by omega)).2 (by decide) | decide) (by first | omega | exact bits_lt31 _ | exact bitN_lt _ _ | exact bool_lt _ | exact and_lt31 _ _ _ _ | exact Nat.lt_of_le_of_lt (dst_lt _ _ _ (by omega) _) (by decide) | exact Nat.lt_of_le_of_lt (nrB_le _ _ _ (by omega)).2 (by decide) | decide)).mp h_3
                refine lv_iload_n hx hb dX2_allWaitedFor_34 rfl (lv_at hl 2 rfl) ?_
                refine lv_aload_n hx hb dX2_allWaitedFor_35 rfl (lv_at hl 0 rfl) ?_
                refine lv_iload hx hb dX2_allWaitedFor_36 (lv_at hl 4 rfl) ?_
                refine call_i (X := []) (Z := []) (As := [.int (nI i)]) (rest := [.int (nI (clT F Q0 (clR F Q0 (aWS F Q0 t) k) i))]) ⟨hx, hb, hml, hown, hts⟩ (c_X2_waitedFor l D cI cT a F Q0 qa i (by omega) hJ hRQ) (cwV 1 hts gX2_allWaitedFor_X2_waitedFor rfl rfl rfl (by decide +kernel) ⟨Nat.le_of_ble_eq_true rfl, Nat.le_of_ble_eq_true rfl⟩) hK hP hD hS hA (va_recv hK hP (ci := 2) (q0 := 0) rfl rfl) (fun _ => rfl) rfl hl.1 rfl (Nat.le_of_ble_eq_true rfl) ⟨Nat.zero_le _, Nat.zero_le _⟩ dX2_allWaitedFor_38 (fun rv u H locs hp hP hD hS => ?_)
                obtain rfl := hp
                have hP : va_P D vwCl ([(a 0, .inr (2, [.ref (a 1), .ref (a 2), .ref (a 3), .ref (a 4), .ref (a 5), .ref (a 6), .ref (a 7), .ref (a 8), .int (F 8 0), .int (F 8 1), .int (F 8 2)])), (a 1, .inl (cI, 8, .inl (F 0))), (a 2, .inl (cI, 8, .inl (F 1))), (a 3, .inl (cI, 8, .inl (F 2))), (a 4, .inl (cI, 8, .inl (F 3))), (a 5, .inl (cI, 8, .inl (F 4))), (a 6, .inl (cI, 80, .inl (F 5))), (a 7, .inl (cI, 80, .inl qa)), (a 8, .inl (cI, 10, .inl (fun z => nI ((qlen Q0) z))))]) H := hP
                have hD : va_D A ([(a 0, .inr (2, [.ref (a 1), .ref (a 2), .ref (a 3), .ref (a 4), .ref (a 5), .ref (a 6), .ref (a 7), .ref (a 8), .int (F 8 0), .int (F 8 1), .int (F 8 2)])), (a 1, .inl (cI, 8, .inl (F 0))), (a 2, .inl (cI, 8, .inl (F 1))), (a 3, .inl (cI, 8, .inl (F 2))), (a 4, .inl (cI, 8, .inl (F 3))), (a 5, .inl (cI, 8, .inl (F 4))), (a 6, .inl (cI, 80, .inl (F 5))), (a 7, .inl (cI, 80, .inl qa)), (a 8, .inl (cI, 10, .inl (fun z => nI ((qlen Q0) z))))]) := hD
                refine lv_ior hx hb dX2_allWaitedFor_41 ?_
                refine lv_istore_n (lv' := [(2, .int ((nI (clT F Q0 (clR F Q0 (aWS F Q0 t) k) i)) ||| (nI (aWS F Q0 i)))), (0, .ref (a 0)), (1, .int (nI t)), (3, .int (nI (k + 1))), (4, .int (nI i))]) hx hb dX2_allWaitedFor_42 rfl hl (by decide) rfl (fun ls hl => ?_)
                refine lv_iinc (v := (nI (i + 1))) (lv' := [(4, .int (nI (i + 1))), (2, .int ((nI (clT F Q0 (clR F Q0 (aWS F Q0 t) k) i)) ||| (nI (aWS F Q0 i)))), (0, .ref (a 0)), (1, .int (nI t)), (3, .int (nI (k + 1)))]) hx hb dX2_allWaitedFor_43 hl (k := 4) rfl (nI_add _ 1) (by decide) rfl (fun ls hl => ?_)
                refine lv_goto (tgt := 17) hx hb dX2_allWaitedFor_46 (by decide) ?_
                rw [show ((nI (clT F Q0 (clR F Q0 (aWS F Q0 t) k) i)) ||| (nI (aWS F Q0 i))) = (nI (clT F Q0 (clR F Q0 (aWS F Q0 t) k) (i + 1))) from (by rw [or_nI, clT, if_pos (bitN_1.mp h_3)])] at hl
                exact ih17 (i + 1) (by omega) (by omega) _ _ hP hD hS _ (lv_sub hl [2, 3, 1, 4, 0] rfl)
        rw [show (nI (clR F Q0 (aWS F Q0 t) k)) = (nI (clT F Q0 (clR F Q0 (aWS F Q0 t) k) 0)) from rfl] at hl
        exact L17 _ 0 (Nat.zero_le _) (Nat.lt_succ_self _) _ _ hP hD hS _ (lv_sub hl [1, 2, 3, 4, 0] rfl)
  rw [show (nI (aWS F Q0 t)) = (nI (clR F Q0 (aWS F Q0 t) 0)) from rfl] at hl
  rw [show (nI 1) = (nI (0 + 1)) from rfl] at hl
  exact L8 _ 0 (Nat.zero_le _) (Nat.lt_succ_self _) _ _ hP hD hS _ (lv_sub hl [2, 3, 1, 0] rfl)

abbrev rX2_serveFirst : Room := { frames := 1, cells := 0, slots := 0, locals := 27 }
set_option maxHeartbeats 4000000 in
set_option maxRecDepth 100000 in
/-- serveFirst -/
theorem c_X2_serveFirst (l : Launch) (D : va_G) (cI cT : ClassId) (a : Nat → Nat) (F : FF) (Q0 : QQ) (qa : Nat → Int32) (r : Nat) (hr : r < 10) (hJ : JJ F Q0) (hRQ : RQ Q0 qa) : CN l D cI cT yX2_serveFirst wsX2_serveFirst rX2_serveFirst [.ref (a 0), .int (nI r)] (tblW cI a F Q0 qa) (S := Nat → Int32) (fun v u => v = nI ((sfR F Q0 r).toNat) ∧ RQ (sfQ F Q0 r) u) (fun u => tblW cI a (sfF F Q0 r) (sfQ F Q0 r) u) := by
  refine CN.of (cc := cX2_serveFirst) (maxL := 4) (ret := (some .boolean)) (by decide) rfl (Nat.le_of_ble_eq_true rfl) ?_
  intro p e s m args below meth c A Q hQ B hA H locs hP hK hD hS ls hl
  obtain ⟨hx, hb, hml, hrt, hts, hown, hlk⟩ := B
  have hl : lv_has ls 4 [(0, .ref (a 0)), (1, .int (nI r))] := hl
  have hq8 := JJ_len hJ hr
  have iX2 : ∀ w ∈ u_ws RX2 TX2 11, w ∈ wsX2_serveFirst := by decide +kernel
  have f33 := hts (.fieldLink RX2 33 "LockManager$LockTable" "lengths" "[I") (by decide +kernel)
  have f30 := hts (.fieldLink RX2 30 "LockManager$LockTable" "queues" "[I") (by decide +kernel)
  have f24 := hts (.fieldLink RX2 24 "LockManager$LockTable" "wantedModes" "[I") (by decide +kernel)
  refine lv_aload_n hx hb dX2_serveFirst_0 rfl (lv_at hl 0 rfl) ?_
  refine va_get (D := D) (ci := 2) (v := .ref (a 8)) (C := RX2) (T := TX2) (N := 11) hx hb hts iX2 hown hK hP 0 rfl rfl 7 (by decide) f33 (fun _ h9 => h9) rfl dX2_serveFirst_1 ?_
  refine lv_iload_n hx hb dX2_serveFirst_4 rfl (lv_at hl 1 rfl) ?_
  refine r_ild (k := r) hx hb hK hP 8 rfl (by omega) (by decide) dX2_serveFirst_5 ?_
  refine tpe (y := (nI ((qlen Q0) r))) rfl ?_
  refine lv_if_ne (tgt := 11) hx hb dX2_serveFirst_6 (by decide) (fun h_1 => ?_) (fun h_1 => ?_)
  · have h_1 := mt (nI_eq (a := ((qlen Q0) r)) (b := 0) (by first | omega | exact bits_lt31 _ | exact bitN_lt _ _ | exact bool_lt _ | exact and_lt31 _ _ _ _ | exact Nat.lt_of_le_of_lt (dst_lt _ _ _ (by omega) _) (by decide) | exact Nat.lt_of_le_of_lt (nrB_le _ _ _ (by omega)).2 (by decide) | decide) (by first | omega | exact bits_lt31 _ | exact bitN_lt _ _ | exact bool_lt _ | exact and_lt31 _ _ _ _ | exact Nat.lt_of_le_of_lt (dst_lt _ _ _ (by omega) _) (by decide) | exact Nat.lt_of_le_of_lt (nrB_le _ _ _ (by omega)).2 (by decide) | decide)).mpr h_1
    refine lv_aload_n hx hb dX2_serveFirst_11 rfl (lv_at hl 0 rfl) ?_
    refine va_get (D := D) (ci := 2) (v := .ref (a 7)) (C := RX2) (T := TX2) (N := 11) hx hb hts iX2 hown hK hP 0 rfl rfl 6 (by decide) f30 (fun _ h9 => h9) rfl dX2_serveFirst_12 ?_
    refine lv_iload_n hx hb dX2_serveFirst_15 rfl (lv_at hl 1 rfl) ?_
    refine lv_bipush (v := (nI 8)) hx hb dX2_serveFirst_16 (by decide) ?_
    refine lv_imul hx hb dX2_serveFirst_18 ?_
    refine tpe (y := (nI (r * 8))) (pk_mul _ _) ?_
    refine r_ild (k := (r * 8)) hx hb hK hP 7 rfl (by omega) (by decide) dX2_serveFirst_19 ?_
    obtain ⟨o, ho⟩ : ∃ z, z = (Q0 r).getD 0 0 := ⟨_, rfl⟩
    have ho8 : o < 8 := by rw [ho]; exact JJ_mem hJ hr (by omega)
    refine tpe (y := nI o) (by rw [ho]; exact hRQ r hr 0 (by omega)) ?_
    refine lv_istore_n (lv' := [(2, .int (nI o)), (0, .ref (a 0)), (1, .int (nI r))]) hx hb dX2_serveFirst_20 rfl hl (by decide) rfl (fun ls hl => ?_)
    refine lv_aload_n hx hb dX2_serveFirst_21 rfl (lv_at hl 1 rfl) ?_
    refine va_get (D := D) (ci := 2) (v := .ref (a 5)) (C := RX2) (T := TX2) (N := 11) hx hb hts iX2 hown hK hP 0 rfl rfl 4 (by decide) f24 (fun _ h9 => h9) rfl dX2_serveFirst_22 ?_
    refine lv_iload_n hx hb dX2_serveFirst_25 rfl (lv_at hl 0 rfl) ?_
    refine r_ild (k := o) hx hb hK hP 5 rfl (by omega) (by decide) dX2_serveFirst_26 ?_
    refine lv_istore_n (lv' := [(3, .int ((F 4) o)), (2, .int (nI o)), (0, .ref (a 0)), (1, .int (nI r))]) hx hb dX2_serveFirst_27 rfl hl (by decide) rfl (fun ls hl => ?_)
    refine lv_aload_n hx hb dX2_serveFirst_28 rfl (lv_at hl 2 rfl) ?_
    refine lv_iload_n hx hb dX2_serveFirst_29 rfl (lv_at hl 1 rfl) ?_
    refine lv_iload_n hx hb dX2_serveFirst_30 rfl (lv_at hl 3 rfl) ?_
    refine lv_iload_n hx hb dX2_serveFirst_31 rfl (lv_at hl 0 rfl) ?_
    refine call_i (X := []) (Z := []) (As := [.int (nI o), .int (nI r), .int ((F 4) o)]) (rest := []) ⟨hx, hb, hml, hown, hts⟩ (c_X2_rivalHolders l D cI cT a F Q0 qa o r ((F 4) o) (by omega) (by omega)) (cwV 3 hts gX2_serveFirst_X2_rivalHolders rfl rfl rfl (by decide +kernel) ⟨Nat.le_of_ble_eq_true rfl, Nat.le_of_ble_eq_true rfl⟩) hK hP hD hS hA (va_recv hK hP (ci := 2) (q0 := 0) rfl rfl) (fun _ => rfl) rfl hl.1 rfl (Nat.le_of_ble_eq_true rfl) ⟨Nat.zero_le _, Nat.zero_le _⟩ dX2_serveFirst_32 (fun rv u H locs hp hP hD hS => ?_)
    obtain rfl := hp
    have hP : va_P D vwCl ([(a 0, .inr (2, [.ref (a 1), .ref (a 2), .ref (a 3), .ref (a 4), .ref (a 5), .ref (a 6), .ref (a 7), .ref (a 8), .int (F 8 0), .int (F 8 1), .int (F 8 2)])), (a 1, .inl (cI, 8, .inl (F 0))), (a 2, .inl (cI, 8, .inl (F 1))), (a 3, .inl (cI, 8, .inl (F 2))), (a 4, .inl (cI, 8, .inl (F 3))), (a 5, .inl (cI, 8, .inl (F 4))), (a 6, .inl (cI, 80, .inl (F 5))), (a 7, .inl (cI, 80, .inl qa)), (a 8, .inl (cI, 10, .inl (fun z => nI ((qlen Q0) z))))]) H := hP
    have hD : va_D A ([(a 0, .inr (2, [.ref (a 1), .ref (a 2), .ref (a 3), .ref (a 4), .ref (a 5), .ref (a 6), .ref (a 7), .ref (a 8), .int (F 8 0), .int (F 8 1), .int (F 8 2)])), (a 1, .inl (cI, 8, .inl (F 0))), (a 2, .inl (cI, 8, .inl (F 1))), (a 3, .inl (cI, 8, .inl (F 2))), (a 4, .inl (cI, 8, .inl (F 3))), (a 5, .inl (cI, 8, .inl (F 4))), (a 6, .inl (cI, 80, .inl (F 5))), (a 7, .inl (cI, 80, .inl qa)), (a 8, .inl (cI, 10, .inl (fun z => nI ((qlen Q0) z))))]) := hD
    refine lv_if_eq (tgt := 40) hx hb dX2_serveFirst_35 (by decide) (fun h_2 => ?_) (fun h_2 => ?_)
    · have h_2 := (nI_eq (a := (bits (rivB F o r ((F 4) o)) 8)) (b := 0) (by first | omega | exact bits_lt31 _ | exact bitN_lt _ _ | exact bool_lt _ | exact and_lt31 _ _ _ _ | exact Nat.lt_of_le_of_lt (dst_lt _ _ _ (by omega) _) (by decide) | exact Nat.lt_of_le_of_lt (nrB_le _ _ _ (by omega)).2 (by decide) | decide) (by first | omega | exact bits_lt31 _ | exact bitN_lt _ _ | exact bool_lt _ | exact and_lt31 _ _ _ _ | exact Nat.lt_of_le_of_lt (dst_lt _ _ _ (by omega) _) (by decide) | exact Nat.lt_of_le_of_lt (nrB_le _ _ _ (by omega)).2 (by decide) | decide)).mp h_2
      refine lv_aload_n hx hb dX2_serveFirst_40 rfl (lv_at hl 2 rfl) ?_
      refine lv_iload_n hx hb dX2_serveFirst_41 rfl (lv_at hl 1 rfl) ?_
      refine call_v (X := []) (Z := []) (As := [.int (nI o)]) (rest := []) ⟨hx, hb, hml, hown, hts⟩ (c_X2_removeRequest l D cI cT a F Q0 qa o (by omega) hJ hRQ) (cwV 1 hts gX2_serveFirst_X2_removeRequest rfl rfl rfl (by decide +kernel) ⟨Nat.le_of_ble_eq_true rfl, Nat.le_of_ble_eq_true rfl⟩) hK hP hD hS hA (va_recv hK hP (ci := 2) (q0 := 0) rfl rfl) (fun _ => adr_tbl.trans adr_tbl.symm) rfl hl.1 rfl (Nat.le_of_ble_eq_true rfl) ⟨Nat.zero_le _, Nat.zero_le _⟩ dX2_serveFirst_42 (fun qa1 H locs hp hP hD hS => ?_)
      have hR1 := hp
      have hJ1 := JJ_rm hJ (t := o) (by omega)
      have hP : va_P D vwCl ([(a 0, .inr (2, [.ref (a 1), .ref (a 2), .ref (a 3), .ref (a 4), .ref (a 5), .ref (a 6), .ref (a 7), .ref (a 8), .int ((rmF F o) 8 0), .int ((rmF F o) 8 1), .int ((rmF F o) 8 2)])), (a 1, .inl (cI, 8, .inl ((rmF F o) 0))), (a 2, .inl (cI, 8, .inl ((rmF F o) 1))), (a 3, .inl (cI, 8, .inl ((rmF F o) 2))), (a 4, .inl (cI, 8, .inl ((rmF F o) 3))), (a 5, .inl (cI, 8, .inl ((rmF F o) 4))), (a 6, .inl (cI, 80, .inl ((rmF F o) 5))), (a 7, .inl (cI, 80, .inl qa1)), (a 8, .inl (cI, 10, .inl (fun z => nI ((qlen (rmQ F Q0 o)) z))))]) H := hP
      have hD : va_D A ([(a 0, .inr (2, [.ref (a 1), .ref (a 2), .ref (a 3), .ref (a 4), .ref (a 5), .ref (a 6), .ref (a 7), .ref (a 8), .int ((rmF F o) 8 0), .int ((rmF F o) 8 1), .int ((rmF F o) 8 2)])), (a 1, .inl (cI, 8, .inl ((rmF F o) 0))), (a 2, .inl (cI, 8, .inl ((rmF F o) 1))), (a 3, .inl (cI, 8, .inl ((rmF F o) 2))), (a 4, .inl (cI, 8, .inl ((rmF F o) 3))), (a 5, .inl (cI, 8, .inl ((rmF F o) 4))), (a 6, .inl (cI, 80, .inl ((rmF F o) 5))), (a 7, .inl (cI, 80, .inl qa1)), (a 8, .inl (cI, 10, .inl (fun z => nI ((qlen (rmQ F Q0 o)) z))))]) := hD
      refine lv_aload_n hx hb dX2_serveFirst_45 rfl (lv_at hl 2 rfl) ?_
      refine lv_iload_n hx hb dX2_serveFirst_46 rfl (lv_at hl 1 rfl) ?_
      refine lv_iload_n hx hb dX2_serveFirst_47 rfl (lv_at hl 3 rfl) ?_
      refine lv_iload_n hx hb dX2_serveFirst_48 rfl (lv_at hl 0 rfl) ?_
      refine call_v (X := []) (Z := []) (As := [.int (nI o), .int (nI r), .int ((F 4) o)]) (rest := []) ⟨hx, hb, hml, hown, hts⟩ (c_X2_grant l D cI cT a (rmF F o) (rmQ F Q0 o) qa1 o r ((F 4) o) (by omega) (by omega)) (cwV 3 hts gX2_serveFirst_X2_grant rfl rfl rfl (by decide +kernel) ⟨Nat.le_of_ble_eq_true rfl, Nat.le_of_ble_eq_true rfl⟩) hK hP hD hS hA (va_recv hK hP (ci := 2) (q0 := 0) rfl rfl) (fun _ => adr_tbl.trans adr_tbl.symm) rfl hl.1 rfl (Nat.le_of_ble_eq_true rfl) ⟨Nat.zero_le _, Nat.zero_le _⟩ dX2_serveFirst_49 (fun u H locs hp hP hD hS => ?_)
      have hP : va_P D vwCl ([(a 0, .inr (2, [.ref (a 1), .ref (a 2), .ref (a 3), .ref (a 4), .ref (a 5), .ref (a 6), .ref (a 7), .ref (a 8), .int ((grF (rmF F o) o r ((F 4) o)) 8 0), .int ((grF (rmF F o) o r ((F 4) o)) 8 1), .int ((grF (rmF F o) o r ((F 4) o)) 8 2)])), (a 1, .inl (cI, 8, .inl ((grF (rmF F o) o r ((F 4) o)) 0))), (a 2, .inl (cI, 8, .inl ((grF (rmF F o) o r ((F 4) o)) 1))), (a 3, .inl (cI, 8, .inl ((grF (rmF F o) o r ((F 4) o)) 2))), (a 4, .inl (cI, 8, .inl ((grF (rmF F o) o r ((F 4) o)) 3))), (a 5, .inl (cI, 8, .inl ((grF (rmF F o) o r ((F 4) o)) 4))), (a 6, .inl (cI, 80, .inl ((grF (rmF F o) o r ((F 4) o)) 5))), (a 7, .inl (cI, 80, .inl qa1)), (a 8, .inl (cI, 10, .inl (fun z => nI ((qlen (rmQ F Q0 o)) z))))]) H := hP
      have hD : va_D A ([(a 0, .inr (2, [.ref (a 1), .ref (a 2), .ref (a 3), .ref (a 4), .ref (a 5), .ref (a 6), .ref (a 7), .ref (a 8), .int ((grF (rmF F o) o r ((F 4) o)) 8 0), .int ((grF (rmF F o) o r ((F 4) o)) 8 1), .int ((grF (rmF F o) o r ((F 4) o)) 8 2)])), (a 1, .inl (cI, 8, .inl ((grF (rmF F o) o r ((F 4) o)) 0))), (a 2, .inl (cI, 8, .inl ((grF (rmF F o) o r ((F 4) o)) 1))), (a 3, .inl (cI, 8, .inl ((grF (rmF F o) o r ((F 4) o)) 2))), (a 4, .inl (cI, 8, .inl ((grF (rmF F o) o r ((F 4) o)) 3))), (a 5, .inl (cI, 8, .inl ((grF (rmF F o) o r ((F 4) o)) 4))), (a 6, .inl (cI, 80, .inl ((grF (rmF F o) o r ((F 4) o)) 5))), (a 7, .inl (cI, 80, .inl qa1)), (a 8, .inl (cI, 10, .inl (fun z => nI ((qlen (rmQ F Q0 o)) z))))]) := hD
      refine lv_iconst (v := (nI 1)) hx hb dX2_serveFirst_52 (by decide) ?_
      have es : sfR F Q0 r = true := by rw [sfR, ← ho]; simp [h_1, h_2]
      exact ret_z (u := qa1) hQ hx hb hrt hlk hS dX2_serveFirst_53 (by decide) (by rw [(sf_yes es).1, (sf_yes es).2, ← ho]; exact hP) (by rw [es, (sf_yes es).2, ← ho]; exact ⟨rfl, hR1⟩)
    · have h_2 := mt (nI_eq (a := (bits (rivB F o r ((F 4) o)) 8)) (b := 0) (by first | omega | exact bits_lt31 _ | exact bitN_lt _ _ | exact bool_lt _ | exact and_lt31 _ _ _ _ | exact Nat.lt_of_le_of_lt (dst_lt _ _ _ (by omega) _) (by decide) | exact Nat.lt_of_le_of_lt (nrB_le _ _ _ (by omega)).2 (by decide) | decide) (by first | omega | exact bits_lt31 _ | exact bitN_lt _ _ | exact bool_lt _ | exact and_lt31 _ _ _ _ | exact Nat.lt_of_le_of_lt (dst_lt _ _ _ (by omega) _) (by decide) | exact Nat.lt_of_le_of_lt (nrB_le _ _ _ (by omega)).2 (by decide) | decide)).mpr h_2
      refine lv_iconst (v := (nI 0)) hx hb dX2_serveFirst_38 (by decide) ?_
      have es : sfR F Q0 r = false := by rw [sfR, ← ho]; simp [h_1, h_2]
      exact ret_z (u := qa) hQ hx hb hrt hlk hS dX2_serveFirst_39 (by decide) (by rw [(sf_no es).1, (sf_no es).2]; exact hP) (by rw [es, (sf_no es).2]; exact ⟨rfl, hRQ⟩)
  · have h_1 := (nI_eq (a := ((qlen Q0) r)) (b := 0) (by first | omega | exact bits_lt31 _ | exact bitN_lt _ _ | exact bool_lt _ | exact and_lt31 _ _ _ _ | exact Nat.lt_of_le_of_lt (dst_lt _ _ _ (by omega) _) (by decide) | exact Nat.lt_of_le_of_lt (nrB_le _ _ _ (by omega)).2 (by decide) | decide) (by first | omega | exact bits_lt31 _ | exact bitN_lt _ _ | exact bool_lt _ | exact and_lt31 _ _ _ _ | exact Nat.lt_of_le_of_lt (dst_lt _ _ _ (by omega) _) (by decide) | exact Nat.lt_of_le_of_lt (nrB_le _ _ _ (by omega)).2 (by decide) | decide)).mp h_1
    refine lv_iconst (v := (nI 0)) hx hb dX2_serveFirst_9 (by decide) ?_
    have es : sfR F Q0 r = false := by simp [sfR, h_1]
    exact ret_z (u := qa) hQ hx hb hrt hlk hS dX2_serveFirst_10 (by decide) (by rw [(sf_no es).1, (sf_no es).2]; exact hP) (by rw [es, (sf_no es).2]; exact ⟨rfl, hRQ⟩)

abbrev rX2_serveQueues : Room := { frames := 2, cells := 0, slots := 0, locals := 50 }
set_option maxHeartbeats 4000000 in
set_option maxRecDepth 100000 in
/-- serveQueues -/
theorem c_X2_serveQueues (l : Launch) (D : va_G) (cI cT : ClassId) (a : Nat → Nat) (F : FF) (Q0 : QQ) (qa : Nat → Int32) (hJ : JJ F Q0) (hRQ : RQ Q0 qa) : CN l D cI cT yX2_serveQueues wsX2_serveQueues rX2_serveQueues [.ref (a 0)] (tblW cI a F Q0 qa) (S := Nat → Int32) (fun v u => v = nI (srvN F Q0) ∧ RQ (srvQ F Q0) u) (fun u => tblW cI a (srvF F Q0) (srvQ F Q0) u) := by
  refine CN.of (cc := cX2_serveQueues) (maxL := 4) (ret := (some .int)) (by decide) rfl (Nat.le_of_ble_eq_true rfl) ?_
  intro p e s m args below meth c A Q hQ B hA H locs hP hK hD hS ls hl
  obtain ⟨hx, hb, hml, hrt, hts, hown, hlk⟩ := B
  have hl : lv_has ls 4 [(0, .ref (a 0))] := hl
  refine lv_iconst (v := (nI 0)) hx hb dX2_serveQueues_0 (by decide) ?_
  refine lv_istore_n (lv' := [(1, .int (nI 0)), (0, .ref (a 0))]) hx hb dX2_serveQueues_1 rfl hl (by decide) rfl (fun ls hl => ?_)
  refine lv_iconst (v := (nI 0)) hx hb dX2_serveQueues_2 (by decide) ?_
  refine lv_istore_n (lv' := [(2, .int (nI 0)), (1, .int (nI 0)), (0, .ref (a 0))]) hx hb dX2_serveQueues_3 rfl hl (by decide) rfl (fun ls hl => ?_)
  have L4 : ∀ (N : Nat) (k : Nat) (qk : Nat → Int32), (k ≤ 10) → (RQ (serA F Q0 k).2.1 qk) → (10 - k) < N → ∀ (H : Heap) (locs : List Loc), va_P D vwCl ([(a 0, .inr (2, [.ref (a 1), .ref (a 2), .ref (a 3), .ref (a 4), .ref (a 5), .ref (a 6), .ref (a 7), .ref (a 8), .int (((serA F Q0 k).1) 8 0), .int (((serA F Q0 k).1) 8 1), .int (((serA F Q0 k).1) 8 2)])), (a 1, .inl (cI, 8, .inl (((serA F Q0 k).1) 0))), (a 2, .inl (cI, 8, .inl (((serA F Q0 k).1) 1))), (a 3, .inl (cI, 8, .inl (((serA F Q0 k).1) 2))), (a 4, .inl (cI, 8, .inl (((serA F Q0 k).1) 3))), (a 5, .inl (cI, 8, .inl (((serA F Q0 k).1) 4))), (a 6, .inl (cI, 80, .inl (((serA F Q0 k).1) 5))), (a 7, .inl (cI, 80, .inl qk)), (a 8, .inl (cI, 10, .inl (fun z => nI ((qlen ((serA F Q0 k).2.1)) z))))]) H → va_D A ([(a 0, .inr (2, [.ref (a 1), .ref (a 2), .ref (a 3), .ref (a 4), .ref (a 5), .ref (a 6), .ref (a 7), .ref (a 8), .int (((serA F Q0 k).1) 8 0), .int (((serA F Q0 k).1) 8 1), .int (((serA F Q0 k).1) 8 2)])), (a 1, .inl (cI, 8, .inl (((serA F Q0 k).1) 0))), (a 2, .inl (cI, 8, .inl (((serA F Q0 k).1) 1))), (a 3, .inl (cI, 8, .inl (((serA F Q0 k).1) 2))), (a 4, .inl (cI, 8, .inl (((serA F Q0 k).1) 3))), (a 5, .inl (cI, 8, .inl (((serA F Q0 k).1) 4))), (a 6, .inl (cI, 80, .inl (((serA F Q0 k).1) 5))), (a 7, .inl (cI, 80, .inl qk)), (a 8, .inl (cI, 10, .inl (fun z => nI ((qlen ((serA F Q0 k).2.1)) z))))]) → va_S A s.heap H locs → ∀ ls : Array Slot, lv_has ls 4 [(0, .ref (a 0)), (1, .int (nI ((serA F Q0 k).2.2))), (2, .int (nI k))] → W p l e rX2_serveQueues s m args below meth c H locs 0 0 Q (F0 m 4 ls []) := by
    intro N4
    induction N4 with
    | zero => intro k qk hk hRk hN; exact absurd hN (Nat.not_lt_zero _)
    | succ N4 ih4 =>
      intro k qk hk hRk hN H locs hP hD hS ls hl
      refine lv_iload_n hx hb dX2_serveQueues_4 rfl (lv_at hl 2 rfl) ?_
      refine lv_bipush (v := (nI 10)) hx hb dX2_serveQueues_5 (by decide) ?_
      refine lv_icmp_ge (tgt := 41) hx hb dX2_serveQueues_7 (by decide) (fun h_1 => ?_) (fun h_1 => ?_)
      · have h_1 := (nI_leI (a := 10) (b := k) (by first | omega | exact bits_lt31 _ | exact bitN_lt _ _ | exact bool_lt _ | exact and_lt31 _ _ _ _ | exact Nat.lt_of_le_of_lt (dst_lt _ _ _ (by omega) _) (by decide) | exact Nat.lt_of_le_of_lt (nrB_le _ _ _ (by omega)).2 (by decide) | decide) (by first | omega | exact bits_lt31 _ | exact bitN_lt _ _ | exact bool_lt _ | exact and_lt31 _ _ _ _ | exact Nat.lt_of_le_of_lt (dst_lt _ _ _ (by omega) _) (by decide) | exact Nat.lt_of_le_of_lt (nrB_le _ _ _ (by omega)).2 (by decide) | decide)).mp h_1
        refine lv_iload_n hx hb dX2_serveQueues_41 rfl (lv_at hl 1 rfl) ?_
        exact ret_i (u := qk) hQ hx hb hrt hlk hS dX2_serveQueues_42 (by have e : k = 10 := (by omega); subst e; exact hP) (by have e : k = 10 := (by omega); subst e; exact ⟨rfl, hRk⟩)
      · have h_1 := mt (nI_leI (a := 10) (b := k) (by first | omega | exact bits_lt31 _ | exact bitN_lt _ _ | exact bool_lt _ | exact and_lt31 _ _ _ _ | exact Nat.lt_of_le_of_lt (dst_lt _ _ _ (by omega) _) (by decide) | exact Nat.lt_of_le_of_lt (nrB_le _ _ _ (by omega)).2 (by decide) | decide) (by first | omega | exact bits_lt31 _ | exact bitN_lt _ _ | exact bool_lt _ | exact and_lt31 _ _ _ _ | exact Nat.lt_of_le_of_lt (dst_lt _ _ _ (by omega) _) (by decide) | exact Nat.lt_of_le_of_lt (nrB_le _ _ _ (by omega)).2 (by decide) | decide)).mpr h_1
        refine lv_iconst (v := (nI 0)) hx hb dX2_serveQueues_10 (by decide) ?_
        refine lv_istore_n (lv' := [(3, .int (nI 0)), (0, .ref (a 0)), (1, .int (nI ((serA F Q0 k).2.2))), (2, .int (nI k))]) hx hb dX2_serveQueues_11 rfl hl (by decide) rfl (fun ls hl => ?_)
        have L12 : ∀ (N : Nat) (i : Nat) (Fc : FF) (Qc : QQ) (qc : Nat → Int32), (i ≤ 8) → (JJ Fc Qc) → (RQ Qc qc) → (serI k (serA F Q0 k).1 (serA F Q0 k).2.1 Fc Qc i) → (8 - i) < N → ∀ (H : Heap) (locs : List Loc), va_P D vwCl ([(a 0, .inr (2, [.ref (a 1), .ref (a 2), .ref (a 3), .ref (a 4), .ref (a 5), .ref (a 6), .ref (a 7), .ref (a 8), .int (Fc 8 0), .int (Fc 8 1), .int (Fc 8 2)])), (a 1, .inl (cI, 8, .inl (Fc 0))), (a 2, .inl (cI, 8, .inl (Fc 1))), (a 3, .inl (cI, 8, .inl (Fc 2))), (a 4, .inl (cI, 8, .inl (Fc 3))), (a 5, .inl (cI, 8, .inl (Fc 4))), (a 6, .inl (cI, 80, .inl (Fc 5))), (a 7, .inl (cI, 80, .inl qc)), (a 8, .inl (cI, 10, .inl (fun z => nI ((qlen Qc) z))))]) H → va_D A ([(a 0, .inr (2, [.ref (a 1), .ref (a 2), .ref (a 3), .ref (a 4), .ref (a 5), .ref (a 6), .ref (a 7), .ref (a 8), .int (Fc 8 0), .int (Fc 8 1), .int (Fc 8 2)])), (a 1, .inl (cI, 8, .inl (Fc 0))), (a 2, .inl (cI, 8, .inl (Fc 1))), (a 3, .inl (cI, 8, .inl (Fc 2))), (a 4, .inl (cI, 8, .inl (Fc 3))), (a 5, .inl (cI, 8, .inl (Fc 4))), (a 6, .inl (cI, 80, .inl (Fc 5))), (a 7, .inl (cI, 80, .inl qc)), (a 8, .inl (cI, 10, .inl (fun z => nI ((qlen Qc) z))))]) → va_S A s.heap H locs → ∀ ls : Array Slot, lv_has ls 4 [(0, .ref (a 0)), (1, .int (nI ((serA F Q0 k).2.2 + i))), (2, .int (nI k)), (3, .int (nI i))] → W p l e rX2_serveQueues s m args below meth c H locs 0 0 Q (F0 m 12 ls []) := by
          intro N12
          induction N12 with
          | zero => intro i Fc Qc qc hi hJc hRc hI hN; exact absurd hN (Nat.not_lt_zero _)
          | succ N12 ih12 =>
            intro i Fc Qc qc hi hJc hRc hI hN H locs hP hD hS ls hl
            refine lv_iload_n hx hb dX2_serveQueues_12 rfl (lv_at hl 3 rfl) ?_
            refine lv_bipush (v := (nI 8)) hx hb dX2_serveQueues_13 (by decide) ?_
            refine lv_icmp_ge (tgt := 35) hx hb dX2_serveQueues_15 (by decide) (fun h_2 => ?_) (fun h_2 => ?_)
            · have h_2 := (nI_leI (a := 8) (b := i) (by first | omega | exact bits_lt31 _ | exact bitN_lt _ _ | exact bool_lt _ | exact and_lt31 _ _ _ _ | exact Nat.lt_of_le_of_lt (dst_lt _ _ _ (by omega) _) (by decide) | exact Nat.lt_of_le_of_lt (nrB_le _ _ _ (by omega)).2 (by decide) | decide) (by first | omega | exact bits_lt31 _ | exact bitN_lt _ _ | exact bool_lt _ | exact and_lt31 _ _ _ _ | exact Nat.lt_of_le_of_lt (dst_lt _ _ _ (by omega) _) (by decide) | exact Nat.lt_of_le_of_lt (nrB_le _ _ _ (by omega)).2 (by decide) | decide)).mp h_2
              refine lv_iinc (v := (nI (k + 1))) (lv' := [(2, .int (nI (k + 1))), (0, .ref (a 0)), (1, .int (nI ((serA F Q0 k).2.2 + i))), (3, .int (nI i))]) hx hb dX2_serveQueues_35 hl (k := 2) rfl (nI_add _ 1) (by decide) rfl (fun ls hl => ?_)
              refine lv_goto (tgt := 4) hx hb dX2_serveQueues_38 (by decide) ?_
              obtain ⟨rfl, rfl, hg⟩ := serA_s (serI_e (Or.inl (by omega)) hI)
              rw [show (nI ((serA F Q0 k).2.2 + i)) = (nI ((serA F Q0 (k + 1)).2.2)) from (by rw [hg])] at hl
              exact ih4 (k + 1) qc (by omega) hRc (by omega) _ _ hP hD hS _ (lv_sub hl [1, 2, 0] rfl)
            · have h_2 := mt (nI_leI (a := 8) (b := i) (by first | omega | exact bits_lt31 _ | exact bitN_lt _ _ | exact bool_lt _ | exact and_lt31 _ _ _ _ | exact Nat.lt_of_le_of_lt (dst_lt _ _ _ (by omega) _) (by decide) | exact Nat.lt_of_le_of_lt (nrB_le _ _ _ (by omega)).2 (by decide) | decide) (by first | omega | exact bits_lt31 _ | exact bitN_lt _ _ | exact bool_lt _ | exact and_lt31 _ _ _ _ | exact Nat.lt_of_le_of_lt (dst_lt _ _ _ (by omega) _) (by decide) | exact Nat.lt_of_le_of_lt (nrB_le _ _ _ (by omega)).2 (by decide) | decide)).mpr h_2
              refine lv_aload_n hx hb dX2_serveQueues_18 rfl (lv_at hl 0 rfl) ?_
              refine lv_iload_n hx hb dX2_serveQueues_19 rfl (lv_at hl 2 rfl) ?_
              refine call_i (X := []) (Z := []) (As := [.int (nI k)]) (rest := []) ⟨hx, hb, hml, hown, hts⟩ (c_X2_serveFirst l D cI cT a Fc Qc qc k (by omega) hJc hRc) (cwV 1 hts gX2_serveQueues_X2_serveFirst rfl rfl rfl (by decide +kernel) ⟨Nat.le_of_ble_eq_true rfl, Nat.le_of_ble_eq_true rfl⟩) hK hP hD hS hA (va_recv hK hP (ci := 2) (q0 := 0) rfl rfl) (fun _ => adr_tbl.trans adr_tbl.symm) rfl hl.1 rfl (Nat.le_of_ble_eq_true rfl) ⟨Nat.zero_le _, Nat.zero_le _⟩ dX2_serveQueues_20 (fun rv qa3 H locs hp hP hD hS => ?_)
              obtain ⟨rfl, hR3⟩ := hp
              have hJ3 := JJ_sf hJc (r := k) (by omega)
              have hP : va_P D vwCl ([(a 0, .inr (2, [.ref (a 1), .ref (a 2), .ref (a 3), .ref (a 4), .ref (a 5), .ref (a 6), .ref (a 7), .ref (a 8), .int ((sfF Fc Qc k) 8 0), .int ((sfF Fc Qc k) 8 1), .int ((sfF Fc Qc k) 8 2)])), (a 1, .inl (cI, 8, .inl ((sfF Fc Qc k) 0))), (a 2, .inl (cI, 8, .inl ((sfF Fc Qc k) 1))), (a 3, .inl (cI, 8, .inl ((sfF Fc Qc k) 2))), (a 4, .inl (cI, 8, .inl ((sfF Fc Qc k) 3))), (a 5, .inl (cI, 8, .inl ((sfF Fc Qc k) 4))), (a 6, .inl (cI, 80, .inl ((sfF Fc Qc k) 5))), (a 7, .inl (cI, 80, .inl qa3)), (a 8, .inl (cI, 10, .inl (fun z => nI ((qlen (sfQ Fc Qc k)) z))))]) H := hP
              have hD : va_D A ([(a 0, .inr (2, [.ref (a 1), .ref (a 2), .ref (a 3), .ref (a 4), .ref (a 5), .ref (a 6), .ref (a 7), .ref (a 8), .int ((sfF Fc Qc k) 8 0), .int ((sfF Fc Qc k) 8 1), .int ((sfF Fc Qc k) 8 2)])), (a 1, .inl (cI, 8, .inl ((sfF Fc Qc k) 0))), (a 2, .inl (cI, 8, .inl ((sfF Fc Qc k) 1))), (a 3, .inl (cI, 8, .inl ((sfF Fc Qc k) 2))), (a 4, .inl (cI, 8, .inl ((sfF Fc Qc k) 3))), (a 5, .inl (cI, 8, .inl ((sfF Fc Qc k) 4))), (a 6, .inl (cI, 80, .inl ((sfF Fc Qc k) 5))), (a 7, .inl (cI, 80, .inl qa3)), (a 8, .inl (cI, 10, .inl (fun z => nI ((qlen (sfQ Fc Qc k)) z))))]) := hD
              refine lv_if_eq (tgt := 35) hx hb dX2_serveQueues_23 (by decide) (fun h_3 => ?_) (fun h_3 => ?_)
              · have h_3 := (nI_eq (a := ((sfR Fc Qc k).toNat)) (b := 0) (by first | omega | exact bits_lt31 _ | exact bitN_lt _ _ | exact bool_lt _ | exact and_lt31 _ _ _ _ | exact Nat.lt_of_le_of_lt (dst_lt _ _ _ (by omega) _) (by decide) | exact Nat.lt_of_le_of_lt (nrB_le _ _ _ (by omega)).2 (by decide) | decide) (by first | omega | exact bits_lt31 _ | exact bitN_lt _ _ | exact bool_lt _ | exact and_lt31 _ _ _ _ | exact Nat.lt_of_le_of_lt (dst_lt _ _ _ (by omega) _) (by decide) | exact Nat.lt_of_le_of_lt (nrB_le _ _ _ (by omega)).2 (by decide) | decide)).mp h_3
                refine lv_iinc (v := (nI (k + 1))) (lv' := [(2, .int (nI (k + 1))), (0, .ref (a 0)), (1, .int (nI ((serA F Q0 k).2.2 + i))), (3, .int (nI i))]) hx hb dX2_serveQueues_35 hl (k := 2) rfl (nI_add _ 1) (by decide) rfl (fun ls hl => ?_)
                refine lv_goto (tgt := 4) hx hb dX2_serveQueues_38 (by decide) ?_
                have es : sfR Fc Qc k = false := by cases hz : sfR Fc Qc k with
                                                            | false => rfl
                                                            | true => rw [hz] at h_3; exact absurd h_3 (by decide)
                obtain ⟨e1, e2, hg⟩ := serA_s (serI_e (Or.inr es) hI)
                rw [(sf_no es).1, (sf_no es).2] at hP
                rw [(sf_no es).1, (sf_no es).2] at hD
                rw [(sf_no es).2] at hR3
                subst e1
                subst e2
                rw [show (nI ((serA F Q0 k).2.2 + i)) = (nI ((serA F Q0 (k + 1)).2.2)) from (by rw [hg])] at hl
                exact ih4 (k + 1) qa3 (by omega) hR3 (by omega) _ _ hP hD hS _ (lv_sub hl [1, 2, 0] rfl)
              · have h_3 := mt (nI_eq (a := ((sfR Fc Qc k).toNat)) (b := 0) (by first | omega | exact bits_lt31 _ | exact bitN_lt _ _ | exact bool_lt _ | exact and_lt31 _ _ _ _ | exact Nat.lt_of_le_of_lt (dst_lt _ _ _ (by omega) _) (by decide) | exact Nat.lt_of_le_of_lt (nrB_le _ _ _ (by omega)).2 (by decide) | decide) (by first | omega | exact bits_lt31 _ | exact bitN_lt _ _ | exact bool_lt _ | exact and_lt31 _ _ _ _ | exact Nat.lt_of_le_of_lt (dst_lt _ _ _ (by omega) _) (by decide) | exact Nat.lt_of_le_of_lt (nrB_le _ _ _ (by omega)).2 (by decide) | decide)).mpr h_3
                refine lv_iinc (v := (nI ((serA F Q0 k).2.2 + i + 1))) (lv' := [(1, .int (nI ((serA F Q0 k).2.2 + i + 1))), (0, .ref (a 0)), (2, .int (nI k)), (3, .int (nI i))]) hx hb dX2_serveQueues_26 hl (k := 1) rfl (nI_add _ 1) (by decide) rfl (fun ls hl => ?_)
                refine lv_iinc (v := (nI (i + 1))) (lv' := [(3, .int (nI (i + 1))), (1, .int (nI ((serA F Q0 k).2.2 + i + 1))), (0, .ref (a 0)), (2, .int (nI k))]) hx hb dX2_serveQueues_29 hl (k := 3) rfl (nI_add _ 1) (by decide) rfl (fun ls hl => ?_)
                refine lv_goto (tgt := 12) hx hb dX2_serveQueues_32 (by decide) ?_
                have es : sfR Fc Qc k = true := by cases hz : sfR Fc Qc k with
                                                            | true => rfl
                                                            | false => rw [hz] at h_3; exact absurd rfl h_3
                rw [show (nI ((serA F Q0 k).2.2 + i + 1)) = (nI ((serA F Q0 k).2.2 + (i + 1))) from rfl] at hl
                exact ih12 (i + 1) (sfF Fc Qc k) (sfQ Fc Qc k) qa3 (by omega) hJ3 hR3 (serI_s (by omega) es hI) (by omega) _ _ hP hD hS _ (lv_sub hl [2, 1, 3, 0] rfl)
        rw [show (nI ((serA F Q0 k).2.2)) = (nI ((serA F Q0 k).2.2 + 0)) from rfl] at hl
        exact L12 _ 0 ((serA F Q0 k).1) ((serA F Q0 k).2.1) qk (Nat.zero_le _) (JJ_serA hJ k hk) hRk serI_0 (Nat.lt_succ_self _) _ _ hP hD hS _ (lv_sub hl [1, 2, 3, 0] rfl)
  rw [show (nI 0) = (nI ((serA F Q0 0).2.2)) from rfl] at hl
  exact L4 _ 0 qa (Nat.zero_le _) hRQ (Nat.lt_succ_self _) _ _ hP hD hS _ (lv_sub hl [2, 1, 0] rfl)

abbrev rX2_takeBack : Room := { frames := 3, cells := 0, slots := 0, locals := 73 }
set_option maxHeartbeats 4000000 in
set_option maxRecDepth 100000 in
/-- takeBack -/
theorem c_X2_takeBack (l : Launch) (D : va_G) (cI cT : ClassId) (a : Nat → Nat) (F : FF) (Q0 : QQ) (qa : Nat → Int32) (t : Nat) (ht : t < 8) (hJ : JJ F Q0) (hRQ : RQ Q0 qa) : CN l D cI cT yX2_takeBack wsX2_takeBack rX2_takeBack [.ref (a 0), .int (nI t)] (tblW cI a F Q0 qa) (S := Nat → Int32) (fun v u => v = nI (srvN (rmF F t) (rmQ F Q0 t)) ∧ RQ (srvQ (rmF F t) (rmQ F Q0 t)) u) (fun u => tblW cI a (srvF (rmF F t) (rmQ F Q0 t)) (srvQ (rmF F t) (rmQ F Q0 t)) u) := by
  refine CN.of (cc := cX2_takeBack) (maxL := 2) (ret := (some .int)) (by decide) rfl (Nat.le_of_ble_eq_true rfl) ?_
  intro p e s m args below meth c A Q hQ B hA H locs hP hK hD hS ls hl
  obtain ⟨hx, hb, hml, hrt, hts, hown, hlk⟩ := B
  have hl : lv_has ls 2 [(0, .ref (a 0)), (1, .int (nI t))] := hl
  refine lv_aload_n hx hb dX2_takeBack_0 rfl (lv_at hl 0 rfl) ?_
  refine lv_iload_n hx hb dX2_takeBack_1 rfl (lv_at hl 1 rfl) ?_
  refine call_v (X := []) (Z := []) (As := [.int (nI t)]) (rest := []) ⟨hx, hb, hml, hown, hts⟩ (c_X2_removeRequest l D cI cT a F Q0 qa t (by omega) hJ hRQ) (cwV 1 hts gX2_takeBack_X2_removeRequest rfl rfl rfl (by decide +kernel) ⟨Nat.le_of_ble_eq_true rfl, Nat.le_of_ble_eq_true rfl⟩) hK hP hD hS hA (va_recv hK hP (ci := 2) (q0 := 0) rfl rfl) (fun _ => adr_tbl.trans adr_tbl.symm) rfl hl.1 rfl (Nat.le_of_ble_eq_true rfl) ⟨Nat.zero_le _, Nat.zero_le _⟩ dX2_takeBack_2 (fun qa4 H locs hp hP hD hS => ?_)
  have hR4 := hp
  have hJ4 := JJ_rm hJ (t := t) (by omega)
  have hP : va_P D vwCl ([(a 0, .inr (2, [.ref (a 1), .ref (a 2), .ref (a 3), .ref (a 4), .ref (a 5), .ref (a 6), .ref (a 7), .ref (a 8), .int ((rmF F t) 8 0), .int ((rmF F t) 8 1), .int ((rmF F t) 8 2)])), (a 1, .inl (cI, 8, .inl ((rmF F t) 0))), (a 2, .inl (cI, 8, .inl ((rmF F t) 1))), (a 3, .inl (cI, 8, .inl ((rmF F t) 2))), (a 4, .inl (cI, 8, .inl ((rmF F t) 3))), (a 5, .inl (cI, 8, .inl ((rmF F t) 4))), (a 6, .inl (cI, 80, .inl ((rmF F t) 5))), (a 7, .inl (cI, 80, .inl qa4)), (a 8, .inl (cI, 10, .inl (fun z => nI ((qlen (rmQ F Q0 t)) z))))]) H := hP
  have hD : va_D A ([(a 0, .inr (2, [.ref (a 1), .ref (a 2), .ref (a 3), .ref (a 4), .ref (a 5), .ref (a 6), .ref (a 7), .ref (a 8), .int ((rmF F t) 8 0), .int ((rmF F t) 8 1), .int ((rmF F t) 8 2)])), (a 1, .inl (cI, 8, .inl ((rmF F t) 0))), (a 2, .inl (cI, 8, .inl ((rmF F t) 1))), (a 3, .inl (cI, 8, .inl ((rmF F t) 2))), (a 4, .inl (cI, 8, .inl ((rmF F t) 3))), (a 5, .inl (cI, 8, .inl ((rmF F t) 4))), (a 6, .inl (cI, 80, .inl ((rmF F t) 5))), (a 7, .inl (cI, 80, .inl qa4)), (a 8, .inl (cI, 10, .inl (fun z => nI ((qlen (rmQ F Q0 t)) z))))]) := hD
  refine lv_aload_n hx hb dX2_takeBack_5 rfl (lv_at hl 0 rfl) ?_
  refine call_i (X := []) (Z := []) (As := []) (rest := []) ⟨hx, hb, hml, hown, hts⟩ (c_X2_serveQueues l D cI cT a (rmF F t) (rmQ F Q0 t) qa4  hJ4 hR4) (cwV 0 hts gX2_takeBack_X2_serveQueues rfl rfl rfl (by decide +kernel) ⟨Nat.le_of_ble_eq_true rfl, Nat.le_of_ble_eq_true rfl⟩) hK hP hD hS hA (va_recv hK hP (ci := 2) (q0 := 0) rfl rfl) (fun _ => adr_tbl.trans adr_tbl.symm) rfl hl.1 rfl (Nat.le_of_ble_eq_true rfl) ⟨Nat.zero_le _, Nat.zero_le _⟩ dX2_takeBack_6 (fun rv qa5 H locs hp hP hD hS => ?_)
  obtain ⟨rfl, hR5⟩ := hp
  have hJ5 := JJ_srv hJ4
  have hP : va_P D vwCl ([(a 0, .inr (2, [.ref (a 1), .ref (a 2), .ref (a 3), .ref (a 4), .ref (a 5), .ref (a 6), .ref (a 7), .ref (a 8), .int ((srvF (rmF F t) (rmQ F Q0 t)) 8 0), .int ((srvF (rmF F t) (rmQ F Q0 t)) 8 1), .int ((srvF (rmF F t) (rmQ F Q0 t)) 8 2)])), (a 1, .inl (cI, 8, .inl ((srvF (rmF F t) (rmQ F Q0 t)) 0))), (a 2, .inl (cI, 8, .inl ((srvF (rmF F t) (rmQ F Q0 t)) 1))), (a 3, .inl (cI, 8, .inl ((srvF (rmF F t) (rmQ F Q0 t)) 2))), (a 4, .inl (cI, 8, .inl ((srvF (rmF F t) (rmQ F Q0 t)) 3))), (a 5, .inl (cI, 8, .inl ((srvF (rmF F t) (rmQ F Q0 t)) 4))), (a 6, .inl (cI, 80, .inl ((srvF (rmF F t) (rmQ F Q0 t)) 5))), (a 7, .inl (cI, 80, .inl qa5)), (a 8, .inl (cI, 10, .inl (fun z => nI ((qlen (srvQ (rmF F t) (rmQ F Q0 t))) z))))]) H := hP
  have hD : va_D A ([(a 0, .inr (2, [.ref (a 1), .ref (a 2), .ref (a 3), .ref (a 4), .ref (a 5), .ref (a 6), .ref (a 7), .ref (a 8), .int ((srvF (rmF F t) (rmQ F Q0 t)) 8 0), .int ((srvF (rmF F t) (rmQ F Q0 t)) 8 1), .int ((srvF (rmF F t) (rmQ F Q0 t)) 8 2)])), (a 1, .inl (cI, 8, .inl ((srvF (rmF F t) (rmQ F Q0 t)) 0))), (a 2, .inl (cI, 8, .inl ((srvF (rmF F t) (rmQ F Q0 t)) 1))), (a 3, .inl (cI, 8, .inl ((srvF (rmF F t) (rmQ F Q0 t)) 2))), (a 4, .inl (cI, 8, .inl ((srvF (rmF F t) (rmQ F Q0 t)) 3))), (a 5, .inl (cI, 8, .inl ((srvF (rmF F t) (rmQ F Q0 t)) 4))), (a 6, .inl (cI, 80, .inl ((srvF (rmF F t) (rmQ F Q0 t)) 5))), (a 7, .inl (cI, 80, .inl qa5)), (a 8, .inl (cI, 10, .inl (fun z => nI ((qlen (srvQ (rmF F t) (rmQ F Q0 t))) z))))]) := hD
  exact ret_i (u := qa5) hQ hx hb hrt hlk hS dX2_takeBack_9 hP ⟨rfl, hR5⟩

abbrev rX2_end : Room := { frames := 3, cells := 0, slots := 0, locals := 73 }
set_option maxHeartbeats 4000000 in
set_option maxRecDepth 100000 in
/-- end -/
theorem c_X2_end (l : Launch) (D : va_G) (cI cT : ClassId) (a : Nat → Nat) (F : FF) (Q0 : QQ) (qa : Nat → Int32) (t : Nat) (ht : t < 8) (hJ : JJ F Q0) (hRQ : RQ Q0 qa) : CN l D cI cT yX2_end wsX2_end rX2_end [.ref (a 0), .int (nI t)] (tblW cI a F Q0 qa) (S := Nat → Int32) (fun v u => v = nI (srvN (endF F t) (rmQ F Q0 t)) ∧ RQ (srvQ (endF F t) (rmQ F Q0 t)) u) (fun u => tblW cI a (srvF (endF F t) (rmQ F Q0 t)) (srvQ (endF F t) (rmQ F Q0 t)) u) := by
  refine CN.of (cc := cX2_end) (maxL := 2) (ret := (some .int)) (by decide) rfl (Nat.le_of_ble_eq_true rfl) ?_
  intro p e s m args below meth c A Q hQ B hA H locs hP hK hD hS ls hl
  obtain ⟨hx, hb, hml, hrt, hts, hown, hlk⟩ := B
  have hl : lv_has ls 2 [(0, .ref (a 0)), (1, .int (nI t))] := hl
  have iX2 : ∀ w ∈ u_ws RX2 TX2 11, w ∈ wsX2_end := by decide +kernel
  have f9 := hts (.fieldLink RX2 9 "LockManager$LockTable" "births" "[I") (by decide +kernel)
  have f15 := hts (.fieldLink RX2 15 "LockManager$LockTable" "works" "[I") (by decide +kernel)
  have f18 := hts (.fieldLink RX2 18 "LockManager$LockTable" "aborts" "[I") (by decide +kernel)
  refine lv_aload_n hx hb dX2_end_0 rfl (lv_at hl 0 rfl) ?_
  refine lv_iload_n hx hb dX2_end_1 rfl (lv_at hl 1 rfl) ?_
  refine call_v (X := []) (Z := []) (As := [.int (nI t)]) (rest := []) ⟨hx, hb, hml, hown, hts⟩ (c_X2_removeRequest l D cI cT a F Q0 qa t (by omega) hJ hRQ) (cwV 1 hts gX2_end_X2_removeRequest rfl rfl rfl (by decide +kernel) ⟨Nat.le_of_ble_eq_true rfl, Nat.le_of_ble_eq_true rfl⟩) hK hP hD hS hA (va_recv hK hP (ci := 2) (q0 := 0) rfl rfl) (fun _ => adr_tbl.trans adr_tbl.symm) rfl hl.1 rfl (Nat.le_of_ble_eq_true rfl) ⟨Nat.zero_le _, Nat.zero_le _⟩ dX2_end_2 (fun qa6 H locs hp hP hD hS => ?_)
  have hR6 := hp
  have hJ6 := JJ_rm hJ (t := t) (by omega)
  have hP : va_P D vwCl ([(a 0, .inr (2, [.ref (a 1), .ref (a 2), .ref (a 3), .ref (a 4), .ref (a 5), .ref (a 6), .ref (a 7), .ref (a 8), .int ((rmF F t) 8 0), .int ((rmF F t) 8 1), .int ((rmF F t) 8 2)])), (a 1, .inl (cI, 8, .inl ((rmF F t) 0))), (a 2, .inl (cI, 8, .inl ((rmF F t) 1))), (a 3, .inl (cI, 8, .inl ((rmF F t) 2))), (a 4, .inl (cI, 8, .inl ((rmF F t) 3))), (a 5, .inl (cI, 8, .inl ((rmF F t) 4))), (a 6, .inl (cI, 80, .inl ((rmF F t) 5))), (a 7, .inl (cI, 80, .inl qa6)), (a 8, .inl (cI, 10, .inl (fun z => nI ((qlen (rmQ F Q0 t)) z))))]) H := hP
  have hD : va_D A ([(a 0, .inr (2, [.ref (a 1), .ref (a 2), .ref (a 3), .ref (a 4), .ref (a 5), .ref (a 6), .ref (a 7), .ref (a 8), .int ((rmF F t) 8 0), .int ((rmF F t) 8 1), .int ((rmF F t) 8 2)])), (a 1, .inl (cI, 8, .inl ((rmF F t) 0))), (a 2, .inl (cI, 8, .inl ((rmF F t) 1))), (a 3, .inl (cI, 8, .inl ((rmF F t) 2))), (a 4, .inl (cI, 8, .inl ((rmF F t) 3))), (a 5, .inl (cI, 8, .inl ((rmF F t) 4))), (a 6, .inl (cI, 80, .inl ((rmF F t) 5))), (a 7, .inl (cI, 80, .inl qa6)), (a 8, .inl (cI, 10, .inl (fun z => nI ((qlen (rmQ F Q0 t)) z))))]) := hD
  refine lv_aload_n hx hb dX2_end_5 rfl (lv_at hl 0 rfl) ?_
  refine lv_iload_n hx hb dX2_end_6 rfl (lv_at hl 1 rfl) ?_
  refine call_v (X := []) (Z := []) (As := [.int (nI t)]) (rest := []) ⟨hx, hb, hml, hown, hts⟩ (c_X2_releaseLocks l D cI cT a (rmF F t) (rmQ F Q0 t) qa6 t (by omega)) (cwV 1 hts gX2_end_X2_releaseLocks rfl rfl rfl (by decide +kernel) ⟨Nat.le_of_ble_eq_true rfl, Nat.le_of_ble_eq_true rfl⟩) hK hP hD hS hA (va_recv hK hP (ci := 2) (q0 := 0) rfl rfl) (fun _ => adr_tbl.trans adr_tbl.symm) rfl hl.1 rfl (Nat.le_of_ble_eq_true rfl) ⟨Nat.zero_le _, Nat.zero_le _⟩ dX2_end_7 (fun u H locs hp hP hD hS => ?_)
  have hP : va_P D vwCl ([(a 0, .inr (2, [.ref (a 1), .ref (a 2), .ref (a 3), .ref (a 4), .ref (a 5), .ref (a 6), .ref (a 7), .ref (a 8), .int ((relF (rmF F t) t) 8 0), .int ((relF (rmF F t) t) 8 1), .int ((relF (rmF F t) t) 8 2)])), (a 1, .inl (cI, 8, .inl ((relF (rmF F t) t) 0))), (a 2, .inl (cI, 8, .inl ((relF (rmF F t) t) 1))), (a 3, .inl (cI, 8, .inl ((relF (rmF F t) t) 2))), (a 4, .inl (cI, 8, .inl ((relF (rmF F t) t) 3))), (a 5, .inl (cI, 8, .inl ((relF (rmF F t) t) 4))), (a 6, .inl (cI, 80, .inl ((relF (rmF F t) t) 5))), (a 7, .inl (cI, 80, .inl qa6)), (a 8, .inl (cI, 10, .inl (fun z => nI ((qlen (rmQ F Q0 t)) z))))]) H := hP
  have hD : va_D A ([(a 0, .inr (2, [.ref (a 1), .ref (a 2), .ref (a 3), .ref (a 4), .ref (a 5), .ref (a 6), .ref (a 7), .ref (a 8), .int ((relF (rmF F t) t) 8 0), .int ((relF (rmF F t) t) 8 1), .int ((relF (rmF F t) t) 8 2)])), (a 1, .inl (cI, 8, .inl ((relF (rmF F t) t) 0))), (a 2, .inl (cI, 8, .inl ((relF (rmF F t) t) 1))), (a 3, .inl (cI, 8, .inl ((relF (rmF F t) t) 2))), (a 4, .inl (cI, 8, .inl ((relF (rmF F t) t) 3))), (a 5, .inl (cI, 8, .inl ((relF (rmF F t) t) 4))), (a 6, .inl (cI, 80, .inl ((relF (rmF F t) t) 5))), (a 7, .inl (cI, 80, .inl qa6)), (a 8, .inl (cI, 10, .inl (fun z => nI ((qlen (rmQ F Q0 t)) z))))]) := hD
  refine lv_aload_n hx hb dX2_end_10 rfl (lv_at hl 0 rfl) ?_
  refine va_get (D := D) (ci := 2) (v := .ref (a 1)) (C := RX2) (T := TX2) (N := 11) hx hb hts iX2 hown hK hP 0 rfl rfl 0 (by decide) f9 (fun _ h9 => h9) rfl dX2_end_11 ?_
  refine lv_iload_n hx hb dX2_end_14 rfl (lv_at hl 1 rfl) ?_
  refine lv_iconst (v := (-1)) hx hb dX2_end_15 (by decide) ?_
  refine r_ist (k := t) hx hb hK hP hD hS 1 rfl (by omega) (by decide) dX2_end_16 (fun H locs hP hD hS => ?_)
  have hP : va_P D vwCl ([(a 0, .inr (2, [.ref (a 1), .ref (a 2), .ref (a 3), .ref (a 4), .ref (a 5), .ref (a 6), .ref (a 7), .ref (a 8), .int ((relF (rmF F t) t) 8 0), .int ((relF (rmF F t) t) 8 1), .int ((relF (rmF F t) t) 8 2)])), (a 1, .inl (cI, 8, .inl (upd ((relF (rmF F t) t) 0) t (-1)))), (a 2, .inl (cI, 8, .inl ((relF (rmF F t) t) 1))), (a 3, .inl (cI, 8, .inl ((relF (rmF F t) t) 2))), (a 4, .inl (cI, 8, .inl ((relF (rmF F t) t) 3))), (a 5, .inl (cI, 8, .inl ((relF (rmF F t) t) 4))), (a 6, .inl (cI, 80, .inl ((relF (rmF F t) t) 5))), (a 7, .inl (cI, 80, .inl qa6)), (a 8, .inl (cI, 10, .inl (fun z => nI ((qlen (rmQ F Q0 t)) z))))]) H := hP
  have hD : va_D A ([(a 0, .inr (2, [.ref (a 1), .ref (a 2), .ref (a 3), .ref (a 4), .ref (a 5), .ref (a 6), .ref (a 7), .ref (a 8), .int ((relF (rmF F t) t) 8 0), .int ((relF (rmF F t) t) 8 1), .int ((relF (rmF F t) t) 8 2)])), (a 1, .inl (cI, 8, .inl (upd ((relF (rmF F t) t) 0) t (-1)))), (a 2, .inl (cI, 8, .inl ((relF (rmF F t) t) 1))), (a 3, .inl (cI, 8, .inl ((relF (rmF F t) t) 2))), (a 4, .inl (cI, 8, .inl ((relF (rmF F t) t) 3))), (a 5, .inl (cI, 8, .inl ((relF (rmF F t) t) 4))), (a 6, .inl (cI, 80, .inl ((relF (rmF F t) t) 5))), (a 7, .inl (cI, 80, .inl qa6)), (a 8, .inl (cI, 10, .inl (fun z => nI ((qlen (rmQ F Q0 t)) z))))]) := hD
  refine lv_aload_n hx hb dX2_end_17 rfl (lv_at hl 0 rfl) ?_
  refine va_get (D := D) (ci := 2) (v := .ref (a 2)) (C := RX2) (T := TX2) (N := 11) hx hb hts iX2 hown hK hP 0 rfl rfl 1 (by decide) f15 (fun _ h9 => h9) rfl dX2_end_18 ?_
  refine lv_iload_n hx hb dX2_end_21 rfl (lv_at hl 1 rfl) ?_
  refine lv_iconst (v := (-1)) hx hb dX2_end_22 (by decide) ?_
  refine r_ist (k := t) hx hb hK hP hD hS 2 rfl (by omega) (by decide) dX2_end_23 (fun H locs hP hD hS => ?_)
  have hP : va_P D vwCl ([(a 0, .inr (2, [.ref (a 1), .ref (a 2), .ref (a 3), .ref (a 4), .ref (a 5), .ref (a 6), .ref (a 7), .ref (a 8), .int ((relF (rmF F t) t) 8 0), .int ((relF (rmF F t) t) 8 1), .int ((relF (rmF F t) t) 8 2)])), (a 1, .inl (cI, 8, .inl (upd ((relF (rmF F t) t) 0) t (-1)))), (a 2, .inl (cI, 8, .inl (upd ((relF (rmF F t) t) 1) t (-1)))), (a 3, .inl (cI, 8, .inl ((relF (rmF F t) t) 2))), (a 4, .inl (cI, 8, .inl ((relF (rmF F t) t) 3))), (a 5, .inl (cI, 8, .inl ((relF (rmF F t) t) 4))), (a 6, .inl (cI, 80, .inl ((relF (rmF F t) t) 5))), (a 7, .inl (cI, 80, .inl qa6)), (a 8, .inl (cI, 10, .inl (fun z => nI ((qlen (rmQ F Q0 t)) z))))]) H := hP
  have hD : va_D A ([(a 0, .inr (2, [.ref (a 1), .ref (a 2), .ref (a 3), .ref (a 4), .ref (a 5), .ref (a 6), .ref (a 7), .ref (a 8), .int ((relF (rmF F t) t) 8 0), .int ((relF (rmF F t) t) 8 1), .int ((relF (rmF F t) t) 8 2)])), (a 1, .inl (cI, 8, .inl (upd ((relF (rmF F t) t) 0) t (-1)))), (a 2, .inl (cI, 8, .inl (upd ((relF (rmF F t) t) 1) t (-1)))), (a 3, .inl (cI, 8, .inl ((relF (rmF F t) t) 2))), (a 4, .inl (cI, 8, .inl ((relF (rmF F t) t) 3))), (a 5, .inl (cI, 8, .inl ((relF (rmF F t) t) 4))), (a 6, .inl (cI, 80, .inl ((relF (rmF F t) t) 5))), (a 7, .inl (cI, 80, .inl qa6)), (a 8, .inl (cI, 10, .inl (fun z => nI ((qlen (rmQ F Q0 t)) z))))]) := hD
  refine lv_aload_n hx hb dX2_end_24 rfl (lv_at hl 0 rfl) ?_
  refine va_get (D := D) (ci := 2) (v := .ref (a 3)) (C := RX2) (T := TX2) (N := 11) hx hb hts iX2 hown hK hP 0 rfl rfl 2 (by decide) f18 (fun _ h9 => h9) rfl dX2_end_25 ?_
  refine lv_iload_n hx hb dX2_end_28 rfl (lv_at hl 1 rfl) ?_
  refine lv_iconst (v := (-1)) hx hb dX2_end_29 (by decide) ?_
  refine r_ist (k := t) hx hb hK hP hD hS 3 rfl (by omega) (by decide) dX2_end_30 (fun H locs hP hD hS => ?_)
  have hP : va_P D vwCl ([(a 0, .inr (2, [.ref (a 1), .ref (a 2), .ref (a 3), .ref (a 4), .ref (a 5), .ref (a 6), .ref (a 7), .ref (a 8), .int ((relF (rmF F t) t) 8 0), .int ((relF (rmF F t) t) 8 1), .int ((relF (rmF F t) t) 8 2)])), (a 1, .inl (cI, 8, .inl (upd ((relF (rmF F t) t) 0) t (-1)))), (a 2, .inl (cI, 8, .inl (upd ((relF (rmF F t) t) 1) t (-1)))), (a 3, .inl (cI, 8, .inl (upd ((relF (rmF F t) t) 2) t (-1)))), (a 4, .inl (cI, 8, .inl ((relF (rmF F t) t) 3))), (a 5, .inl (cI, 8, .inl ((relF (rmF F t) t) 4))), (a 6, .inl (cI, 80, .inl ((relF (rmF F t) t) 5))), (a 7, .inl (cI, 80, .inl qa6)), (a 8, .inl (cI, 10, .inl (fun z => nI ((qlen (rmQ F Q0 t)) z))))]) H := hP
  have hD : va_D A ([(a 0, .inr (2, [.ref (a 1), .ref (a 2), .ref (a 3), .ref (a 4), .ref (a 5), .ref (a 6), .ref (a 7), .ref (a 8), .int ((relF (rmF F t) t) 8 0), .int ((relF (rmF F t) t) 8 1), .int ((relF (rmF F t) t) 8 2)])), (a 1, .inl (cI, 8, .inl (upd ((relF (rmF F t) t) 0) t (-1)))), (a 2, .inl (cI, 8, .inl (upd ((relF (rmF F t) t) 1) t (-1)))), (a 3, .inl (cI, 8, .inl (upd ((relF (rmF F t) t) 2) t (-1)))), (a 4, .inl (cI, 8, .inl ((relF (rmF F t) t) 3))), (a 5, .inl (cI, 8, .inl ((relF (rmF F t) t) 4))), (a 6, .inl (cI, 80, .inl ((relF (rmF F t) t) 5))), (a 7, .inl (cI, 80, .inl qa6)), (a 8, .inl (cI, 10, .inl (fun z => nI ((qlen (rmQ F Q0 t)) z))))]) := hD
  refine lv_aload_n hx hb dX2_end_31 rfl (lv_at hl 0 rfl) ?_
  have hJe := JJ_end hJ ht
  have hP : va_P D vwCl ([(a 0, .inr (2, [.ref (a 1), .ref (a 2), .ref (a 3), .ref (a 4), .ref (a 5), .ref (a 6), .ref (a 7), .ref (a 8), .int ((endF F t) 8 0), .int ((endF F t) 8 1), .int ((endF F t) 8 2)])), (a 1, .inl (cI, 8, .inl ((endF F t) 0))), (a 2, .inl (cI, 8, .inl ((endF F t) 1))), (a 3, .inl (cI, 8, .inl ((endF F t) 2))), (a 4, .inl (cI, 8, .inl ((endF F t) 3))), (a 5, .inl (cI, 8, .inl ((endF F t) 4))), (a 6, .inl (cI, 80, .inl ((endF F t) 5))), (a 7, .inl (cI, 80, .inl qa6)), (a 8, .inl (cI, 10, .inl (fun z => nI ((qlen (rmQ F Q0 t)) z))))]) H := hP
  have hD : va_D A ([(a 0, .inr (2, [.ref (a 1), .ref (a 2), .ref (a 3), .ref (a 4), .ref (a 5), .ref (a 6), .ref (a 7), .ref (a 8), .int ((endF F t) 8 0), .int ((endF F t) 8 1), .int ((endF F t) 8 2)])), (a 1, .inl (cI, 8, .inl ((endF F t) 0))), (a 2, .inl (cI, 8, .inl ((endF F t) 1))), (a 3, .inl (cI, 8, .inl ((endF F t) 2))), (a 4, .inl (cI, 8, .inl ((endF F t) 3))), (a 5, .inl (cI, 8, .inl ((endF F t) 4))), (a 6, .inl (cI, 80, .inl ((endF F t) 5))), (a 7, .inl (cI, 80, .inl qa6)), (a 8, .inl (cI, 10, .inl (fun z => nI ((qlen (rmQ F Q0 t)) z))))]) := hD
  refine call_i (X := []) (Z := []) (As := []) (rest := []) ⟨hx, hb, hml, hown, hts⟩ (c_X2_serveQueues l D cI cT a (endF F t) (rmQ F Q0 t) qa6  hJe hR6) (cwV 0 hts gX2_end_X2_serveQueues rfl rfl rfl (by decide +kernel) ⟨Nat.le_of_ble_eq_true rfl, Nat.le_of_ble_eq_true rfl⟩) hK hP hD hS hA (va_recv hK hP (ci := 2) (q0 := 0) rfl rfl) (fun _ => adr_tbl.trans adr_tbl.symm) rfl hl.1 rfl (Nat.le_of_ble_eq_true rfl) ⟨Nat.zero_le _, Nat.zero_le _⟩ dX2_end_32 (fun rv qa8 H locs hp hP hD hS => ?_)
  obtain ⟨rfl, hR8⟩ := hp
  have hJ8 := JJ_srv hJe
  have hP : va_P D vwCl ([(a 0, .inr (2, [.ref (a 1), .ref (a 2), .ref (a 3), .ref (a 4), .ref (a 5), .ref (a 6), .ref (a 7), .ref (a 8), .int ((srvF (endF F t) (rmQ F Q0 t)) 8 0), .int ((srvF (endF F t) (rmQ F Q0 t)) 8 1), .int ((srvF (endF F t) (rmQ F Q0 t)) 8 2)])), (a 1, .inl (cI, 8, .inl ((srvF (endF F t) (rmQ F Q0 t)) 0))), (a 2, .inl (cI, 8, .inl ((srvF (endF F t) (rmQ F Q0 t)) 1))), (a 3, .inl (cI, 8, .inl ((srvF (endF F t) (rmQ F Q0 t)) 2))), (a 4, .inl (cI, 8, .inl ((srvF (endF F t) (rmQ F Q0 t)) 3))), (a 5, .inl (cI, 8, .inl ((srvF (endF F t) (rmQ F Q0 t)) 4))), (a 6, .inl (cI, 80, .inl ((srvF (endF F t) (rmQ F Q0 t)) 5))), (a 7, .inl (cI, 80, .inl qa8)), (a 8, .inl (cI, 10, .inl (fun z => nI ((qlen (srvQ (endF F t) (rmQ F Q0 t))) z))))]) H := hP
  have hD : va_D A ([(a 0, .inr (2, [.ref (a 1), .ref (a 2), .ref (a 3), .ref (a 4), .ref (a 5), .ref (a 6), .ref (a 7), .ref (a 8), .int ((srvF (endF F t) (rmQ F Q0 t)) 8 0), .int ((srvF (endF F t) (rmQ F Q0 t)) 8 1), .int ((srvF (endF F t) (rmQ F Q0 t)) 8 2)])), (a 1, .inl (cI, 8, .inl ((srvF (endF F t) (rmQ F Q0 t)) 0))), (a 2, .inl (cI, 8, .inl ((srvF (endF F t) (rmQ F Q0 t)) 1))), (a 3, .inl (cI, 8, .inl ((srvF (endF F t) (rmQ F Q0 t)) 2))), (a 4, .inl (cI, 8, .inl ((srvF (endF F t) (rmQ F Q0 t)) 3))), (a 5, .inl (cI, 8, .inl ((srvF (endF F t) (rmQ F Q0 t)) 4))), (a 6, .inl (cI, 80, .inl ((srvF (endF F t) (rmQ F Q0 t)) 5))), (a 7, .inl (cI, 80, .inl qa8)), (a 8, .inl (cI, 10, .inl (fun z => nI ((qlen (srvQ (endF F t) (rmQ F Q0 t))) z))))]) := hD
  exact ret_i (u := qa8) hQ hx hb hrt hlk hS dX2_end_35 hP ⟨rfl, hR8⟩

abbrev rX2_abort : Room := { frames := 1, cells := 0, slots := 0, locals := 26 }
set_option maxHeartbeats 4000000 in
set_option maxRecDepth 100000 in
/-- abort -/
theorem c_X2_abort (l : Launch) (D : va_G) (cI cT : ClassId) (a : Nat → Nat) (F : FF) (Q0 : QQ) (qa : Nat → Int32) (t : Nat) (ht : t < 8) (hJ : JJ F Q0) (hRQ : RQ Q0 qa) : CV l D cI cT yX2_abort wsX2_abort rX2_abort [.ref (a 0), .int (nI t)] (tblW cI a F Q0 qa) (S := Nat → Int32) (fun u => RQ (rmQ F Q0 t) u) (fun u => tblW cI a (abF F t) (rmQ F Q0 t) u) := by
  refine CV.of (cc := cX2_abort) (maxL := 2) (ret := none) (by decide) rfl (Nat.le_of_ble_eq_true rfl) ?_
  intro p e s m args below meth c A Q hQ B hA H locs hP hK hD hS ls hl
  obtain ⟨hx, hb, hml, hrt, hts, hown, hlk⟩ := B
  have hl : lv_has ls 2 [(0, .ref (a 0)), (1, .int (nI t))] := hl
  have iX2 : ∀ w ∈ u_ws RX2 TX2 11, w ∈ wsX2_abort := by decide +kernel
  have f46 := hts (.fieldLink RX2 46 "LockManager$LockTable" "rings" "I") (by decide +kernel)
  have f49 := hts (.fieldLink RX2 49 "LockManager$LockTable" "lost" "I") (by decide +kernel)
  have f15 := hts (.fieldLink RX2 15 "LockManager$LockTable" "works" "[I") (by decide +kernel)
  have f18 := hts (.fieldLink RX2 18 "LockManager$LockTable" "aborts" "[I") (by decide +kernel)
  refine lv_aload_n hx hb dX2_abort_0 rfl (lv_at hl 0 rfl) ?_
  refine lv_iload_n hx hb dX2_abort_1 rfl (lv_at hl 1 rfl) ?_
  refine call_v (X := []) (Z := []) (As := [.int (nI t)]) (rest := []) ⟨hx, hb, hml, hown, hts⟩ (c_X2_removeRequest l D cI cT a F Q0 qa t (by omega) hJ hRQ) (cwV 1 hts gX2_abort_X2_removeRequest rfl rfl rfl (by decide +kernel) ⟨Nat.le_of_ble_eq_true rfl, Nat.le_of_ble_eq_true rfl⟩) hK hP hD hS hA (va_recv hK hP (ci := 2) (q0 := 0) rfl rfl) (fun _ => adr_tbl.trans adr_tbl.symm) rfl hl.1 rfl (Nat.le_of_ble_eq_true rfl) ⟨Nat.zero_le _, Nat.zero_le _⟩ dX2_abort_2 (fun qa9 H locs hp hP hD hS => ?_)
  have hR9 := hp
  have hJ9 := JJ_rm hJ (t := t) (by omega)
  have hP : va_P D vwCl ([(a 0, .inr (2, [.ref (a 1), .ref (a 2), .ref (a 3), .ref (a 4), .ref (a 5), .ref (a 6), .ref (a 7), .ref (a 8), .int ((rmF F t) 8 0), .int ((rmF F t) 8 1), .int ((rmF F t) 8 2)])), (a 1, .inl (cI, 8, .inl ((rmF F t) 0))), (a 2, .inl (cI, 8, .inl ((rmF F t) 1))), (a 3, .inl (cI, 8, .inl ((rmF F t) 2))), (a 4, .inl (cI, 8, .inl ((rmF F t) 3))), (a 5, .inl (cI, 8, .inl ((rmF F t) 4))), (a 6, .inl (cI, 80, .inl ((rmF F t) 5))), (a 7, .inl (cI, 80, .inl qa9)), (a 8, .inl (cI, 10, .inl (fun z => nI ((qlen (rmQ F Q0 t)) z))))]) H := hP
  have hD : va_D A ([(a 0, .inr (2, [.ref (a 1), .ref (a 2), .ref (a 3), .ref (a 4), .ref (a 5), .ref (a 6), .ref (a 7), .ref (a 8), .int ((rmF F t) 8 0), .int ((rmF F t) 8 1), .int ((rmF F t) 8 2)])), (a 1, .inl (cI, 8, .inl ((rmF F t) 0))), (a 2, .inl (cI, 8, .inl ((rmF F t) 1))), (a 3, .inl (cI, 8, .inl ((rmF F t) 2))), (a 4, .inl (cI, 8, .inl ((rmF F t) 3))), (a 5, .inl (cI, 8, .inl ((rmF F t) 4))), (a 6, .inl (cI, 80, .inl ((rmF F t) 5))), (a 7, .inl (cI, 80, .inl qa9)), (a 8, .inl (cI, 10, .inl (fun z => nI ((qlen (rmQ F Q0 t)) z))))]) := hD
  refine lv_aload_n hx hb dX2_abort_5 rfl (lv_at hl 0 rfl) ?_
  refine lv_iload_n hx hb dX2_abort_6 rfl (lv_at hl 1 rfl) ?_
  refine call_v (X := []) (Z := []) (As := [.int (nI t)]) (rest := []) ⟨hx, hb, hml, hown, hts⟩ (c_X2_releaseLocks l D cI cT a (rmF F t) (rmQ F Q0 t) qa9 t (by omega)) (cwV 1 hts gX2_abort_X2_releaseLocks rfl rfl rfl (by decide +kernel) ⟨Nat.le_of_ble_eq_true rfl, Nat.le_of_ble_eq_true rfl⟩) hK hP hD hS hA (va_recv hK hP (ci := 2) (q0 := 0) rfl rfl) (fun _ => adr_tbl.trans adr_tbl.symm) rfl hl.1 rfl (Nat.le_of_ble_eq_true rfl) ⟨Nat.zero_le _, Nat.zero_le _⟩ dX2_abort_7 (fun u H locs hp hP hD hS => ?_)
  have hP : va_P D vwCl ([(a 0, .inr (2, [.ref (a 1), .ref (a 2), .ref (a 3), .ref (a 4), .ref (a 5), .ref (a 6), .ref (a 7), .ref (a 8), .int ((relF (rmF F t) t) 8 0), .int ((relF (rmF F t) t) 8 1), .int ((relF (rmF F t) t) 8 2)])), (a 1, .inl (cI, 8, .inl ((relF (rmF F t) t) 0))), (a 2, .inl (cI, 8, .inl ((relF (rmF F t) t) 1))), (a 3, .inl (cI, 8, .inl ((relF (rmF F t) t) 2))), (a 4, .inl (cI, 8, .inl ((relF (rmF F t) t) 3))), (a 5, .inl (cI, 8, .inl ((relF (rmF F t) t) 4))), (a 6, .inl (cI, 80, .inl ((relF (rmF F t) t) 5))), (a 7, .inl (cI, 80, .inl qa9)), (a 8, .inl (cI, 10, .inl (fun z => nI ((qlen (rmQ F Q0 t)) z))))]) H := hP
  have hD : va_D A ([(a 0, .inr (2, [.ref (a 1), .ref (a 2), .ref (a 3), .ref (a 4), .ref (a 5), .ref (a 6), .ref (a 7), .ref (a 8), .int ((relF (rmF F t) t) 8 0), .int ((relF (rmF F t) t) 8 1), .int ((relF (rmF F t) t) 8 2)])), (a 1, .inl (cI, 8, .inl ((relF (rmF F t) t) 0))), (a 2, .inl (cI, 8, .inl ((relF (rmF F t) t) 1))), (a 3, .inl (cI, 8, .inl ((relF (rmF F t) t) 2))), (a 4, .inl (cI, 8, .inl ((relF (rmF F t) t) 3))), (a 5, .inl (cI, 8, .inl ((relF (rmF F t) t) 4))), (a 6, .inl (cI, 80, .inl ((relF (rmF F t) t) 5))), (a 7, .inl (cI, 80, .inl qa9)), (a 8, .inl (cI, 10, .inl (fun z => nI ((qlen (rmQ F Q0 t)) z))))]) := hD
  refine lv_aload_n hx hb dX2_abort_10 rfl (lv_at hl 0 rfl) ?_
  refine lv_dup hx hb dX2_abort_11 rfl ?_
  refine va_get (D := D) (ci := 2) (v := .int ((relF (rmF F t) t) 8 1)) (C := RX2) (T := TX2) (N := 11) hx hb hts iX2 hown hK hP 0 rfl rfl 9 (by decide) f46 (fun _ h9 => h9) rfl dX2_abort_12 ?_
  refine lv_iconst (v := (nI 1)) hx hb dX2_abort_15 (by decide) ?_
  refine lv_iadd hx hb dX2_abort_16 ?_
  refine va_put (D := D) (ci := 2) (v := .int (((relF (rmF F t) t) 8 1) + (nI 1))) (ty := .int) (C := RX2) (T := TX2) (N := 11) hx hb hts iX2 tyX2 tyX2_ok nmX2 hown hK hP hD hS 0 rfl rfl 9 (by decide) f46 (fun _ h9 => h9) rfl (by decide +kernel) rfl rfl (Nat.le_of_ble_eq_true rfl) dX2_abort_17 (fun H locs hP hD hS => ?_)
  have hP : va_P D vwCl ([(a 0, .inr (2, [.ref (a 1), .ref (a 2), .ref (a 3), .ref (a 4), .ref (a 5), .ref (a 6), .ref (a 7), .ref (a 8), .int ((relF (rmF F t) t) 8 0), .int (((relF (rmF F t) t) 8 1) + (nI 1)), .int ((relF (rmF F t) t) 8 2)])), (a 1, .inl (cI, 8, .inl ((relF (rmF F t) t) 0))), (a 2, .inl (cI, 8, .inl ((relF (rmF F t) t) 1))), (a 3, .inl (cI, 8, .inl ((relF (rmF F t) t) 2))), (a 4, .inl (cI, 8, .inl ((relF (rmF F t) t) 3))), (a 5, .inl (cI, 8, .inl ((relF (rmF F t) t) 4))), (a 6, .inl (cI, 80, .inl ((relF (rmF F t) t) 5))), (a 7, .inl (cI, 80, .inl qa9)), (a 8, .inl (cI, 10, .inl (fun z => nI ((qlen (rmQ F Q0 t)) z))))]) H := hP
  have hD : va_D A ([(a 0, .inr (2, [.ref (a 1), .ref (a 2), .ref (a 3), .ref (a 4), .ref (a 5), .ref (a 6), .ref (a 7), .ref (a 8), .int ((relF (rmF F t) t) 8 0), .int (((relF (rmF F t) t) 8 1) + (nI 1)), .int ((relF (rmF F t) t) 8 2)])), (a 1, .inl (cI, 8, .inl ((relF (rmF F t) t) 0))), (a 2, .inl (cI, 8, .inl ((relF (rmF F t) t) 1))), (a 3, .inl (cI, 8, .inl ((relF (rmF F t) t) 2))), (a 4, .inl (cI, 8, .inl ((relF (rmF F t) t) 3))), (a 5, .inl (cI, 8, .inl ((relF (rmF F t) t) 4))), (a 6, .inl (cI, 80, .inl ((relF (rmF F t) t) 5))), (a 7, .inl (cI, 80, .inl qa9)), (a 8, .inl (cI, 10, .inl (fun z => nI ((qlen (rmQ F Q0 t)) z))))]) := hD
  refine lv_aload_n hx hb dX2_abort_20 rfl (lv_at hl 0 rfl) ?_
  refine lv_dup hx hb dX2_abort_21 rfl ?_
  refine va_get (D := D) (ci := 2) (v := .int ((relF (rmF F t) t) 8 2)) (C := RX2) (T := TX2) (N := 11) hx hb hts iX2 hown hK hP 0 rfl rfl 10 (by decide) f49 (fun _ h9 => h9) rfl dX2_abort_22 ?_
  refine lv_aload_n hx hb dX2_abort_25 rfl (lv_at hl 0 rfl) ?_
  refine va_get (D := D) (ci := 2) (v := .ref (a 2)) (C := RX2) (T := TX2) (N := 11) hx hb hts iX2 hown hK hP 0 rfl rfl 1 (by decide) f15 (fun _ h9 => h9) rfl dX2_abort_26 ?_
  refine lv_iload_n hx hb dX2_abort_29 rfl (lv_at hl 1 rfl) ?_
  refine r_ild (k := t) hx hb hK hP 2 rfl (by omega) (by decide) dX2_abort_30 ?_
  refine lv_iadd hx hb dX2_abort_31 ?_
  refine va_put (D := D) (ci := 2) (v := .int (((relF (rmF F t) t) 8 2) + (((relF (rmF F t) t) 1) t))) (ty := .int) (C := RX2) (T := TX2) (N := 11) hx hb hts iX2 tyX2 tyX2_ok nmX2 hown hK hP hD hS 0 rfl rfl 10 (by decide) f49 (fun _ h9 => h9) rfl (by decide +kernel) rfl rfl (Nat.le_of_ble_eq_true rfl) dX2_abort_32 (fun H locs hP hD hS => ?_)
  have hP : va_P D vwCl ([(a 0, .inr (2, [.ref (a 1), .ref (a 2), .ref (a 3), .ref (a 4), .ref (a 5), .ref (a 6), .ref (a 7), .ref (a 8), .int ((relF (rmF F t) t) 8 0), .int (((relF (rmF F t) t) 8 1) + (nI 1)), .int (((relF (rmF F t) t) 8 2) + (((relF (rmF F t) t) 1) t))])), (a 1, .inl (cI, 8, .inl ((relF (rmF F t) t) 0))), (a 2, .inl (cI, 8, .inl ((relF (rmF F t) t) 1))), (a 3, .inl (cI, 8, .inl ((relF (rmF F t) t) 2))), (a 4, .inl (cI, 8, .inl ((relF (rmF F t) t) 3))), (a 5, .inl (cI, 8, .inl ((relF (rmF F t) t) 4))), (a 6, .inl (cI, 80, .inl ((relF (rmF F t) t) 5))), (a 7, .inl (cI, 80, .inl qa9)), (a 8, .inl (cI, 10, .inl (fun z => nI ((qlen (rmQ F Q0 t)) z))))]) H := hP
  have hD : va_D A ([(a 0, .inr (2, [.ref (a 1), .ref (a 2), .ref (a 3), .ref (a 4), .ref (a 5), .ref (a 6), .ref (a 7), .ref (a 8), .int ((relF (rmF F t) t) 8 0), .int (((relF (rmF F t) t) 8 1) + (nI 1)), .int (((relF (rmF F t) t) 8 2) + (((relF (rmF F t) t) 1) t))])), (a 1, .inl (cI, 8, .inl ((relF (rmF F t) t) 0))), (a 2, .inl (cI, 8, .inl ((relF (rmF F t) t) 1))), (a 3, .inl (cI, 8, .inl ((relF (rmF F t) t) 2))), (a 4, .inl (cI, 8, .inl ((relF (rmF F t) t) 3))), (a 5, .inl (cI, 8, .inl ((relF (rmF F t) t) 4))), (a 6, .inl (cI, 80, .inl ((relF (rmF F t) t) 5))), (a 7, .inl (cI, 80, .inl qa9)), (a 8, .inl (cI, 10, .inl (fun z => nI ((qlen (rmQ F Q0 t)) z))))]) := hD
  refine lv_aload_n hx hb dX2_abort_35 rfl (lv_at hl 0 rfl) ?_
  refine va_get (D := D) (ci := 2) (v := .ref (a 2)) (C := RX2) (T := TX2) (N := 11) hx hb hts iX2 hown hK hP 0 rfl rfl 1 (by decide) f15 (fun _ h9 => h9) rfl dX2_abort_36 ?_
  refine lv_iload_n hx hb dX2_abort_39 rfl (lv_at hl 1 rfl) ?_
  refine lv_iconst (v := (nI 0)) hx hb dX2_abort_40 (by decide) ?_
  refine r_ist (k := t) hx hb hK hP hD hS 2 rfl (by omega) (by decide) dX2_abort_41 (fun H locs hP hD hS => ?_)
  have hP : va_P D vwCl ([(a 0, .inr (2, [.ref (a 1), .ref (a 2), .ref (a 3), .ref (a 4), .ref (a 5), .ref (a 6), .ref (a 7), .ref (a 8), .int ((relF (rmF F t) t) 8 0), .int (((relF (rmF F t) t) 8 1) + (nI 1)), .int (((relF (rmF F t) t) 8 2) + (((relF (rmF F t) t) 1) t))])), (a 1, .inl (cI, 8, .inl ((relF (rmF F t) t) 0))), (a 2, .inl (cI, 8, .inl (upd ((relF (rmF F t) t) 1) t (nI 0)))), (a 3, .inl (cI, 8, .inl ((relF (rmF F t) t) 2))), (a 4, .inl (cI, 8, .inl ((relF (rmF F t) t) 3))), (a 5, .inl (cI, 8, .inl ((relF (rmF F t) t) 4))), (a 6, .inl (cI, 80, .inl ((relF (rmF F t) t) 5))), (a 7, .inl (cI, 80, .inl qa9)), (a 8, .inl (cI, 10, .inl (fun z => nI ((qlen (rmQ F Q0 t)) z))))]) H := hP
  have hD : va_D A ([(a 0, .inr (2, [.ref (a 1), .ref (a 2), .ref (a 3), .ref (a 4), .ref (a 5), .ref (a 6), .ref (a 7), .ref (a 8), .int ((relF (rmF F t) t) 8 0), .int (((relF (rmF F t) t) 8 1) + (nI 1)), .int (((relF (rmF F t) t) 8 2) + (((relF (rmF F t) t) 1) t))])), (a 1, .inl (cI, 8, .inl ((relF (rmF F t) t) 0))), (a 2, .inl (cI, 8, .inl (upd ((relF (rmF F t) t) 1) t (nI 0)))), (a 3, .inl (cI, 8, .inl ((relF (rmF F t) t) 2))), (a 4, .inl (cI, 8, .inl ((relF (rmF F t) t) 3))), (a 5, .inl (cI, 8, .inl ((relF (rmF F t) t) 4))), (a 6, .inl (cI, 80, .inl ((relF (rmF F t) t) 5))), (a 7, .inl (cI, 80, .inl qa9)), (a 8, .inl (cI, 10, .inl (fun z => nI ((qlen (rmQ F Q0 t)) z))))]) := hD
  refine lv_aload_n hx hb dX2_abort_42 rfl (lv_at hl 0 rfl) ?_
  refine va_get (D := D) (ci := 2) (v := .ref (a 3)) (C := RX2) (T := TX2) (N := 11) hx hb hts iX2 hown hK hP 0 rfl rfl 2 (by decide) f18 (fun _ h9 => h9) rfl dX2_abort_43 ?_
  refine lv_iload_n hx hb dX2_abort_46 rfl (lv_at hl 1 rfl) ?_
  refine lv_dup2_11 hx hb dX2_abort_47 rfl rfl ?_
  refine r_ild (k := t) hx hb hK hP 3 rfl (by omega) (by decide) dX2_abort_48 ?_
  refine lv_iconst (v := (nI 1)) hx hb dX2_abort_49 (by decide) ?_
  refine lv_iadd hx hb dX2_abort_50 ?_
  refine r_ist (k := t) hx hb hK hP hD hS 3 rfl (by omega) (by decide) dX2_abort_51 (fun H locs hP hD hS => ?_)
  have hP : va_P D vwCl ([(a 0, .inr (2, [.ref (a 1), .ref (a 2), .ref (a 3), .ref (a 4), .ref (a 5), .ref (a 6), .ref (a 7), .ref (a 8), .int ((relF (rmF F t) t) 8 0), .int (((relF (rmF F t) t) 8 1) + (nI 1)), .int (((relF (rmF F t) t) 8 2) + (((relF (rmF F t) t) 1) t))])), (a 1, .inl (cI, 8, .inl ((relF (rmF F t) t) 0))), (a 2, .inl (cI, 8, .inl (upd ((relF (rmF F t) t) 1) t (nI 0)))), (a 3, .inl (cI, 8, .inl (upd ((relF (rmF F t) t) 2) t ((((relF (rmF F t) t) 2) t) + (nI 1))))), (a 4, .inl (cI, 8, .inl ((relF (rmF F t) t) 3))), (a 5, .inl (cI, 8, .inl ((relF (rmF F t) t) 4))), (a 6, .inl (cI, 80, .inl ((relF (rmF F t) t) 5))), (a 7, .inl (cI, 80, .inl qa9)), (a 8, .inl (cI, 10, .inl (fun z => nI ((qlen (rmQ F Q0 t)) z))))]) H := hP
  have hD : va_D A ([(a 0, .inr (2, [.ref (a 1), .ref (a 2), .ref (a 3), .ref (a 4), .ref (a 5), .ref (a 6), .ref (a 7), .ref (a 8), .int ((relF (rmF F t) t) 8 0), .int (((relF (rmF F t) t) 8 1) + (nI 1)), .int (((relF (rmF F t) t) 8 2) + (((relF (rmF F t) t) 1) t))])), (a 1, .inl (cI, 8, .inl ((relF (rmF F t) t) 0))), (a 2, .inl (cI, 8, .inl (upd ((relF (rmF F t) t) 1) t (nI 0)))), (a 3, .inl (cI, 8, .inl (upd ((relF (rmF F t) t) 2) t ((((relF (rmF F t) t) 2) t) + (nI 1))))), (a 4, .inl (cI, 8, .inl ((relF (rmF F t) t) 3))), (a 5, .inl (cI, 8, .inl ((relF (rmF F t) t) 4))), (a 6, .inl (cI, 80, .inl ((relF (rmF F t) t) 5))), (a 7, .inl (cI, 80, .inl qa9)), (a 8, .inl (cI, 10, .inl (fun z => nI ((qlen (rmQ F Q0 t)) z))))]) := hD
  exact ret_v (u := qa9) hQ hx hb hrt hlk hS dX2_abort_52 (by rw [abF_eq]; exact hP) hR9

