abbrev rX2_stateNow : Room := { frames := 0, cells := 0, slots := 0, locals := 0 }
set_option maxHeartbeats 4000000 in
set_option maxRecDepth 100000 in
/-- stateNow -/
theorem c_X2_stateNow (l : Launch) (D : va_G) (cI cT : ClassId) (a : Nat → Nat) (F : FF) (Q0 : QQ) (qa : Nat → Int32) (t : Nat) (ht : t < 8) : CN l D cI cT yX2_stateNow wsX2_stateNow rX2_stateNow [.ref (a 0), .int (nI t)] (tblW cI a F Q0 qa) (S := Unit) (fun v _ => v = stI F t) (fun _ => tblW cI a F Q0 qa) := by
  refine CN.of (cc := cX2_stateNow) (maxL := 2) (ret := (some .int)) (by decide) rfl (Nat.le_of_ble_eq_true rfl) ?_
  intro p e s m args below meth c A Q hQ B hA H locs hP hK hD hS ls hl
  obtain ⟨hx, hb, hml, hrt, hts, hown, hlk⟩ := B
  have hl : lv_has ls 2 [(0, .ref (a 0)), (1, .int (nI t))] := hl
  have iX2 : ∀ w ∈ u_ws RX2 TX2 11, w ∈ wsX2_stateNow := by decide +kernel
  have f9 := hts (.fieldLink RX2 9 "LockManager$LockTable" "births" "[I") (by decide +kernel)
  have f21 := hts (.fieldLink RX2 21 "LockManager$LockTable" "wantedResources" "[I") (by decide +kernel)
  refine lv_aload_n hx hb dX2_stateNow_0 rfl (lv_at hl 0 rfl) ?_
  refine va_get (D := D) (ci := 2) (v := .ref (a 1)) (C := RX2) (T := TX2) (N := 11) hx hb hts iX2 hown hK hP 0 rfl rfl 0 (by decide) f9 (fun _ h9 => h9) rfl dX2_stateNow_1 ?_
  refine lv_iload_n hx hb dX2_stateNow_4 rfl (lv_at hl 1 rfl) ?_
  refine r_ild (k := t) hx hb hK hP 1 rfl (by omega) (by decide) dX2_stateNow_5 ?_
  refine lv_iconst (v := (-1)) hx hb dX2_stateNow_6 (by decide) ?_
  refine lv_icmp_ne (tgt := 12) hx hb dX2_stateNow_7 (by decide) (fun h_1 => ?_) (fun h_1 => ?_)
  · have h_1 := h_1
    refine lv_aload_n hx hb dX2_stateNow_12 rfl (lv_at hl 0 rfl) ?_
    refine va_get (D := D) (ci := 2) (v := .ref (a 4)) (C := RX2) (T := TX2) (N := 11) hx hb hts iX2 hown hK hP 0 rfl rfl 3 (by decide) f21 (fun _ h9 => h9) rfl dX2_stateNow_13 ?_
    refine lv_iload_n hx hb dX2_stateNow_16 rfl (lv_at hl 1 rfl) ?_
    refine r_ild (k := t) hx hb hK hP 4 rfl (by omega) (by decide) dX2_stateNow_17 ?_
    refine lv_iconst (v := (-1)) hx hb dX2_stateNow_18 (by decide) ?_
    refine lv_icmp_ne (tgt := 26) hx hb dX2_stateNow_19 (by decide) (fun h_2 => ?_) (fun h_2 => ?_)
    · have h_2 := h_2
      refine lv_iconst (v := (nI 2)) hx hb dX2_stateNow_26 (by decide) ?_
      exact ret_i (u := ()) hQ hx hb hrt hlk hS dX2_stateNow_27 hP (by simp [stI, h_1, h_2])
    · have h_2 := h_2
      refine lv_iconst (v := (nI 1)) hx hb dX2_stateNow_22 (by decide) ?_
      refine lv_goto (tgt := 27) hx hb dX2_stateNow_23 (by decide) ?_
      exact ret_i (u := ()) hQ hx hb hrt hlk hS dX2_stateNow_27 hP (by simp [stI, h_1, h_2])
  · have h_1 := h_1
    refine lv_iconst (v := (nI 0)) hx hb dX2_stateNow_10 (by decide) ?_
    exact ret_i (u := ()) hQ hx hb hrt hlk hS dX2_stateNow_11 hP (by simp [stI, h_1])

abbrev rX2_outcome : Room := { frames := 0, cells := 0, slots := 0, locals := 0 }
set_option maxHeartbeats 4000000 in
set_option maxRecDepth 100000 in
/-- outcome -/
theorem c_X2_outcome (l : Launch) (D : va_G) (cI cT : ClassId) (a : Nat → Nat) (F : FF) (Q0 : QQ) (qa : Nat → Int32) (t r : Nat) (mode : Int32) (ht : t < 8) (hr : r < 10) : CN l D cI cT yX2_outcome wsX2_outcome rX2_outcome [.ref (a 0), .int (nI t), .int (nI r), .int mode] (tblW cI a F Q0 qa) (S := Unit) (fun v _ => v = outI F t r mode) (fun _ => tblW cI a F Q0 qa) := by
  refine CN.of (cc := cX2_outcome) (maxL := 5) (ret := (some .int)) (by decide) rfl (Nat.le_of_ble_eq_true rfl) ?_
  intro p e s m args below meth c A Q hQ B hA H locs hP hK hD hS ls hl
  obtain ⟨hx, hb, hml, hrt, hts, hown, hlk⟩ := B
  have hl : lv_has ls 5 [(0, .ref (a 0)), (1, .int (nI t)), (2, .int (nI r)), (3, .int mode)] := hl
  have iX2 : ∀ w ∈ u_ws RX2 TX2 11, w ∈ wsX2_outcome := by decide +kernel
  have f27 := hts (.fieldLink RX2 27 "LockManager$LockTable" "locks" "[I") (by decide +kernel)
  have f21 := hts (.fieldLink RX2 21 "LockManager$LockTable" "wantedResources" "[I") (by decide +kernel)
  refine lv_aload_n hx hb dX2_outcome_0 rfl (lv_at hl 0 rfl) ?_
  refine va_get (D := D) (ci := 2) (v := .ref (a 6)) (C := RX2) (T := TX2) (N := 11) hx hb hts iX2 hown hK hP 0 rfl rfl 5 (by decide) f27 (fun _ h9 => h9) rfl dX2_outcome_1 ?_
  refine lv_iload_n hx hb dX2_outcome_4 rfl (lv_at hl 1 rfl) ?_
  refine lv_bipush (v := (nI 10)) hx hb dX2_outcome_5 (by decide) ?_
  refine lv_imul hx hb dX2_outcome_7 ?_
  refine tpe (y := (nI (t * 10))) (pk_mul _ _) ?_
  refine lv_iload_n hx hb dX2_outcome_8 rfl (lv_at hl 2 rfl) ?_
  refine lv_iadd hx hb dX2_outcome_9 ?_
  refine tpe (y := (nI (t * 10 + r))) (nI_add _ _) ?_
  refine r_ild (k := (t * 10 + r)) hx hb hK hP 6 rfl (by omega) (by decide) dX2_outcome_10 ?_
  refine lv_istore (lv' := [(4, .int ((F 5) (t * 10 + r))), (0, .ref (a 0)), (1, .int (nI t)), (2, .int (nI r)), (3, .int mode)]) hx hb dX2_outcome_11 hl (by decide) rfl (fun ls hl => ?_)
  refine lv_iload hx hb dX2_outcome_13 (lv_at hl 0 rfl) ?_
  refine lv_iload_n hx hb dX2_outcome_15 rfl (lv_at hl 4 rfl) ?_
  refine lv_icmp_eq (tgt := 25) hx hb dX2_outcome_16 (by decide) (fun h_1 => ?_) (fun h_1 => ?_)
  · have h_1 := h_1
    refine lv_iconst (v := (nI 1)) hx hb dX2_outcome_25 (by decide) ?_
    exact ret_i (u := ()) hQ hx hb hrt hlk hS dX2_outcome_26 hP (by simp [outI, lk, h_1])
  · have h_1 := h_1
    refine lv_iload hx hb dX2_outcome_19 (lv_at hl 0 rfl) ?_
    refine lv_iconst (v := (nI 2)) hx hb dX2_outcome_21 (by decide) ?_
    refine lv_icmp_ne (tgt := 27) hx hb dX2_outcome_22 (by decide) (fun h_2 => ?_) (fun h_2 => ?_)
    · have h_2 := h_2
      refine lv_aload_n hx hb dX2_outcome_27 rfl (lv_at hl 1 rfl) ?_
      refine va_get (D := D) (ci := 2) (v := .ref (a 4)) (C := RX2) (T := TX2) (N := 11) hx hb hts iX2 hown hK hP 0 rfl rfl 3 (by decide) f21 (fun _ h9 => h9) rfl dX2_outcome_28 ?_
      refine lv_iload_n hx hb dX2_outcome_31 rfl (lv_at hl 2 rfl) ?_
      refine r_ild (k := t) hx hb hK hP 4 rfl (by omega) (by decide) dX2_outcome_32 ?_
      refine lv_iconst (v := (-1)) hx hb dX2_outcome_33 (by decide) ?_
      refine lv_icmp_ne (tgt := 41) hx hb dX2_outcome_34 (by decide) (fun h_3 => ?_) (fun h_3 => ?_)
      · have h_3 := h_3
        refine lv_iconst (v := (nI 2)) hx hb dX2_outcome_41 (by decide) ?_
        exact ret_i (u := ()) hQ hx hb hrt hlk hS dX2_outcome_42 hP (by simp [outI, lk, h_1, h_2, h_3])
      · have h_3 := h_3
        refine lv_iconst (v := (nI 3)) hx hb dX2_outcome_37 (by decide) ?_
        refine lv_goto (tgt := 42) hx hb dX2_outcome_38 (by decide) ?_
        exact ret_i (u := ()) hQ hx hb hrt hlk hS dX2_outcome_42 hP (by simp [outI, lk, h_1, h_2, h_3])
    · have h_2 := h_2
      refine lv_iconst (v := (nI 1)) hx hb dX2_outcome_25 (by decide) ?_
      exact ret_i (u := ()) hQ hx hb hrt hlk hS dX2_outcome_26 hP (by simp [outI, lk, h_1, h_2])

abbrev rX2_holderSet : Room := { frames := 0, cells := 0, slots := 0, locals := 0 }
set_option maxHeartbeats 4000000 in
set_option maxRecDepth 100000 in
/-- holderSet -/
theorem c_X2_holderSet (l : Launch) (D : va_G) (cI cT : ClassId) (a : Nat → Nat) (F : FF) (Q0 : QQ) (qa : Nat → Int32) (r : Nat) (hr : r < 10) : CN l D cI cT yX2_holderSet wsX2_holderSet rX2_holderSet [.ref (a 0), .int (nI r)] (tblW cI a F Q0 qa) (S := Unit) (fun v _ => v = nI (bits (hldB F r) 8)) (fun _ => tblW cI a F Q0 qa) := by
  refine CN.of (cc := cX2_holderSet) (maxL := 4) (ret := (some .int)) (by decide) rfl (Nat.le_of_ble_eq_true rfl) ?_
  intro p e s m args below meth c A Q hQ B hA H locs hP hK hD hS ls hl
  obtain ⟨hx, hb, hml, hrt, hts, hown, hlk⟩ := B
  have hl : lv_has ls 4 [(0, .ref (a 0)), (1, .int (nI r))] := hl
  have iX2 : ∀ w ∈ u_ws RX2 TX2 11, w ∈ wsX2_holderSet := by decide +kernel
  have f27 := hts (.fieldLink RX2 27 "LockManager$LockTable" "locks" "[I") (by decide +kernel)
  refine lv_iconst (v := (nI 0)) hx hb dX2_holderSet_0 (by decide) ?_
  refine lv_istore_n (lv' := [(2, .int (nI 0)), (0, .ref (a 0)), (1, .int (nI r))]) hx hb dX2_holderSet_1 rfl hl (by decide) rfl (fun ls hl => ?_)
  refine lv_iconst (v := (nI 0)) hx hb dX2_holderSet_2 (by decide) ?_
  refine lv_istore_n (lv' := [(3, .int (nI 0)), (2, .int (nI 0)), (0, .ref (a 0)), (1, .int (nI r))]) hx hb dX2_holderSet_3 rfl hl (by decide) rfl (fun ls hl => ?_)
  have L4 : ∀ (N : Nat) (i : Nat), (i ≤ 8) → (8 - i) < N → ∀ (H : Heap) (locs : List Loc), va_P D vwCl ([(a 0, .inr (2, [.ref (a 1), .ref (a 2), .ref (a 3), .ref (a 4), .ref (a 5), .ref (a 6), .ref (a 7), .ref (a 8), .int (F 8 0), .int (F 8 1), .int (F 8 2)])), (a 1, .inl (cI, 8, .inl (F 0))), (a 2, .inl (cI, 8, .inl (F 1))), (a 3, .inl (cI, 8, .inl (F 2))), (a 4, .inl (cI, 8, .inl (F 3))), (a 5, .inl (cI, 8, .inl (F 4))), (a 6, .inl (cI, 80, .inl (F 5))), (a 7, .inl (cI, 80, .inl qa)), (a 8, .inl (cI, 10, .inl (fun z => nI ((qlen Q0) z))))]) H → va_D A ([(a 0, .inr (2, [.ref (a 1), .ref (a 2), .ref (a 3), .ref (a 4), .ref (a 5), .ref (a 6), .ref (a 7), .ref (a 8), .int (F 8 0), .int (F 8 1), .int (F 8 2)])), (a 1, .inl (cI, 8, .inl (F 0))), (a 2, .inl (cI, 8, .inl (F 1))), (a 3, .inl (cI, 8, .inl (F 2))), (a 4, .inl (cI, 8, .inl (F 3))), (a 5, .inl (cI, 8, .inl (F 4))), (a 6, .inl (cI, 80, .inl (F 5))), (a 7, .inl (cI, 80, .inl qa)), (a 8, .inl (cI, 10, .inl (fun z => nI ((qlen Q0) z))))]) → va_S A s.heap H locs → ∀ ls : Array Slot, lv_has ls 4 [(0, .ref (a 0)), (1, .int (nI r)), (2, .int (nI (bits (hldB F r) i))), (3, .int (nI i))] → W p l e rX2_holderSet s m args below meth c H locs 0 0 Q (F0 m 4 ls []) := by
    intro N4
    induction N4 with
    | zero => intro i hi hN; exact absurd hN (Nat.not_lt_zero _)
    | succ N4 ih4 =>
      intro i hi hN H locs hP hD hS ls hl
      refine lv_iload_n hx hb dX2_holderSet_4 rfl (lv_at hl 3 rfl) ?_
      refine lv_bipush (v := (nI 8)) hx hb dX2_holderSet_5 (by decide) ?_
      refine lv_icmp_ge (tgt := 36) hx hb dX2_holderSet_7 (by decide) (fun h_1 => ?_) (fun h_1 => ?_)
      · have h_1 := (nI_leI (a := 8) (b := i) (by first | omega | exact bits_lt31 _ | exact bitN_lt _ _ | exact bool_lt _ | exact and_lt31 _ _ _ _ | exact Nat.lt_of_le_of_lt (dst_lt _ _ _ (by omega) _) (by decide) | exact Nat.lt_of_le_of_lt (nrB_le _ _ _ (by omega)).2 (by decide) | decide) (by first | omega | exact bits_lt31 _ | exact bitN_lt _ _ | exact bool_lt _ | exact and_lt31 _ _ _ _ | exact Nat.lt_of_le_of_lt (dst_lt _ _ _ (by omega) _) (by decide) | exact Nat.lt_of_le_of_lt (nrB_le _ _ _ (by omega)).2 (by decide) | decide)).mp h_1
        refine lv_iload_n hx hb dX2_holderSet_36 rfl (lv_at hl 2 rfl) ?_
        exact ret_i (u := ()) hQ hx hb hrt hlk hS dX2_holderSet_37 hP (by rw [show i = 8 by omega])
      · have h_1 := mt (nI_leI (a := 8) (b := i) (by first | omega | exact bits_lt31 _ | exact bitN_lt _ _ | exact bool_lt _ | exact and_lt31 _ _ _ _ | exact Nat.lt_of_le_of_lt (dst_lt _ _ _ (by omega) _) (by decide) | exact Nat.lt_of_le_of_lt (nrB_le _ _ _ (by omega)).2 (by decide) | decide) (by first | omega | exact bits_lt31 _ | exact bitN_lt _ _ | exact bool_lt _ | exact and_lt31 _ _ _ _ | exact Nat.lt_of_le_of_lt (dst_lt _ _ _ (by omega) _) (by decide) | exact Nat.lt_of_le_of_lt (nrB_le _ _ _ (by omega)).2 (by decide) | decide)).mpr h_1
        refine lv_aload_n hx hb dX2_holderSet_10 rfl (lv_at hl 0 rfl) ?_
        refine va_get (D := D) (ci := 2) (v := .ref (a 6)) (C := RX2) (T := TX2) (N := 11) hx hb hts iX2 hown hK hP 0 rfl rfl 5 (by decide) f27 (fun _ h9 => h9) rfl dX2_holderSet_11 ?_
        refine lv_iload_n hx hb dX2_holderSet_14 rfl (lv_at hl 3 rfl) ?_
        refine lv_bipush (v := (nI 10)) hx hb dX2_holderSet_15 (by decide) ?_
        refine lv_imul hx hb dX2_holderSet_17 ?_
        refine tpe (y := (nI (i * 10))) (pk_mul _ _) ?_
        refine lv_iload_n hx hb dX2_holderSet_18 rfl (lv_at hl 1 rfl) ?_
        refine lv_iadd hx hb dX2_holderSet_19 ?_
        refine tpe (y := (nI (i * 10 + r))) (nI_add _ _) ?_
        refine r_ild (k := (i * 10 + r)) hx hb hK hP 6 rfl (by omega) (by decide) dX2_holderSet_20 ?_
        refine lv_if_eq (tgt := 30) hx hb dX2_holderSet_21 (by decide) (fun h_2 => ?_) (fun h_2 => ?_)
        · have h_2 := h_2
          refine lv_iinc (v := (nI (i + 1))) (lv' := [(3, .int (nI (i + 1))), (0, .ref (a 0)), (1, .int (nI r)), (2, .int (nI (bits (hldB F r) i)))]) hx hb dX2_holderSet_30 hl (k := 3) rfl (nI_add _ 1) (by decide) rfl (fun ls hl => ?_)
          refine lv_goto (tgt := 4) hx hb dX2_holderSet_33 (by decide) ?_
          rw [show (nI (bits (hldB F r) i)) = (nI (bits (hldB F r) (i + 1))) from bits_f (by simp [hldB, lk, h_1, h_2])] at hl
          exact ih4 (i + 1) (by omega) (by omega) _ _ hP hD hS _ (lv_sub hl [1, 2, 3, 0] rfl)
        · have h_2 := h_2
          refine lv_iload_n hx hb dX2_holderSet_24 rfl (lv_at hl 2 rfl) ?_
          refine lv_iconst (v := (nI 1)) hx hb dX2_holderSet_25 (by decide) ?_
          refine lv_iload_n hx hb dX2_holderSet_26 rfl (lv_at hl 3 rfl) ?_
          refine lv_ishl hx hb dX2_holderSet_27 ?_
          refine lv_ior hx hb dX2_holderSet_28 ?_
          refine lv_istore_n (lv' := [(2, .int ((nI (bits (hldB F r) i)) ||| ((nI 1) <<< ((nI i) &&& 31)))), (0, .ref (a 0)), (1, .int (nI r)), (3, .int (nI i))]) hx hb dX2_holderSet_29 rfl hl (by decide) rfl (fun ls hl => ?_)
          refine lv_iinc (v := (nI (i + 1))) (lv' := [(3, .int (nI (i + 1))), (2, .int ((nI (bits (hldB F r) i)) ||| ((nI 1) <<< ((nI i) &&& 31)))), (0, .ref (a 0)), (1, .int (nI r))]) hx hb dX2_holderSet_30 hl (k := 3) rfl (nI_add _ 1) (by decide) rfl (fun ls hl => ?_)
          refine lv_goto (tgt := 4) hx hb dX2_holderSet_33 (by decide) ?_
          rw [show ((nI (bits (hldB F r) i)) ||| ((nI 1) <<< ((nI i) &&& 31))) = (nI (bits (hldB F r) (i + 1))) from bits_t (by omega) (by simp [hldB, lk, h_1, h_2])] at hl
          exact ih4 (i + 1) (by omega) (by omega) _ _ hP hD hS _ (lv_sub hl [2, 3, 1, 0] rfl)
  rw [show (nI 0) = (nI (bits (hldB F r) 0)) from rfl] at hl
  exact L4 _ 0 (Nat.zero_le _) (Nat.lt_succ_self _) _ _ hP hD hS _ (lv_sub hl [2, 3, 1, 0] rfl)

abbrev rX2_rivalHolders : Room := { frames := 0, cells := 0, slots := 0, locals := 0 }
set_option maxHeartbeats 4000000 in
set_option maxRecDepth 100000 in
/-- rivalHolders(t, r, mode): the set of those in the way -/
theorem c_X2_rivalHolders (l : Launch) (D : va_G) (cI cT : ClassId) (a : Nat → Nat) (F : FF) (Q0 : QQ) (qa : Nat → Int32) (t r : Nat) (mode : Int32) (ht : t < 8) (hr : r < 10) : CN l D cI cT yX2_rivalHolders wsX2_rivalHolders rX2_rivalHolders [.ref (a 0), .int (nI t), .int (nI r), .int mode] (tblW cI a F Q0 qa) (S := Unit) (fun v _ => v = nI (bits (rivB F t r mode) 8)) (fun _ => tblW cI a F Q0 qa) := by
  refine CN.of (cc := cX2_rivalHolders) (maxL := 8) (ret := (some .int)) (by decide) rfl (Nat.le_of_ble_eq_true rfl) ?_
  intro p e s m args below meth c A Q hQ B hA H locs hP hK hD hS ls hl
  obtain ⟨hx, hb, hml, hrt, hts, hown, hlk⟩ := B
  have hl : lv_has ls 8 [(0, .ref (a 0)), (1, .int (nI t)), (2, .int (nI r)), (3, .int mode)] := hl
  have iX2 : ∀ w ∈ u_ws RX2 TX2 11, w ∈ wsX2_rivalHolders := by decide +kernel
  have f27 := hts (.fieldLink RX2 27 "LockManager$LockTable" "locks" "[I") (by decide +kernel)
  refine lv_iconst (v := (nI 0)) hx hb dX2_rivalHolders_0 (by decide) ?_
  refine lv_istore (lv' := [(4, .int (nI 0)), (0, .ref (a 0)), (1, .int (nI t)), (2, .int (nI r)), (3, .int mode)]) hx hb dX2_rivalHolders_1 hl (by decide) rfl (fun ls hl => ?_)
  refine lv_iconst (v := (nI 0)) hx hb dX2_rivalHolders_3 (by decide) ?_
  refine lv_istore (lv' := [(5, .int (nI 0)), (4, .int (nI 0)), (0, .ref (a 0)), (1, .int (nI t)), (2, .int (nI r)), (3, .int mode)]) hx hb dX2_rivalHolders_4 hl (by decide) rfl (fun ls hl => ?_)
  have L6 : ∀ (N : Nat) (i : Nat), (i ≤ 8) → (8 - i) < N → ∀ (H : Heap) (locs : List Loc), va_P D vwCl ([(a 0, .inr (2, [.ref (a 1), .ref (a 2), .ref (a 3), .ref (a 4), .ref (a 5), .ref (a 6), .ref (a 7), .ref (a 8), .int (F 8 0), .int (F 8 1), .int (F 8 2)])), (a 1, .inl (cI, 8, .inl (F 0))), (a 2, .inl (cI, 8, .inl (F 1))), (a 3, .inl (cI, 8, .inl (F 2))), (a 4, .inl (cI, 8, .inl (F 3))), (a 5, .inl (cI, 8, .inl (F 4))), (a 6, .inl (cI, 80, .inl (F 5))), (a 7, .inl (cI, 80, .inl qa)), (a 8, .inl (cI, 10, .inl (fun z => nI ((qlen Q0) z))))]) H → va_D A ([(a 0, .inr (2, [.ref (a 1), .ref (a 2), .ref (a 3), .ref (a 4), .ref (a 5), .ref (a 6), .ref (a 7), .ref (a 8), .int (F 8 0), .int (F 8 1), .int (F 8 2)])), (a 1, .inl (cI, 8, .inl (F 0))), (a 2, .inl (cI, 8, .inl (F 1))), (a 3, .inl (cI, 8, .inl (F 2))), (a 4, .inl (cI, 8, .inl (F 3))), (a 5, .inl (cI, 8, .inl (F 4))), (a 6, .inl (cI, 80, .inl (F 5))), (a 7, .inl (cI, 80, .inl qa)), (a 8, .inl (cI, 10, .inl (fun z => nI ((qlen Q0) z))))]) → va_S A s.heap H locs → ∀ ls : Array Slot, lv_has ls 8 [(0, .ref (a 0)), (1, .int (nI t)), (2, .int (nI r)), (3, .int mode), (4, .int (nI (bits (rivB F t r mode) i))), (5, .int (nI i))] → W p l e rX2_rivalHolders s m args below meth c H locs 0 0 Q (F0 m 6 ls []) := by
    intro N6
    induction N6 with
    | zero => intro i hi hN; exact absurd hN (Nat.not_lt_zero _)
    | succ N6 ih6 =>
      intro i hi hN H locs hP hD hS ls hl
      refine lv_iload hx hb dX2_rivalHolders_6 (lv_at hl 5 rfl) ?_
      refine lv_bipush (v := (nI 8)) hx hb dX2_rivalHolders_8 (by decide) ?_
      refine lv_icmp_ge (tgt := 76) hx hb dX2_rivalHolders_10 (by decide) (fun h_1 => ?_) (fun h_1 => ?_)
      · have h_1 := (nI_leI (a := 8) (b := i) (by first | omega | exact bits_lt31 _ | exact bitN_lt _ _ | exact bool_lt _ | exact and_lt31 _ _ _ _ | exact Nat.lt_of_le_of_lt (dst_lt _ _ _ (by omega) _) (by decide) | exact Nat.lt_of_le_of_lt (nrB_le _ _ _ (by omega)).2 (by decide) | decide) (by first | omega | exact bits_lt31 _ | exact bitN_lt _ _ | exact bool_lt _ | exact and_lt31 _ _ _ _ | exact Nat.lt_of_le_of_lt (dst_lt _ _ _ (by omega) _) (by decide) | exact Nat.lt_of_le_of_lt (nrB_le _ _ _ (by omega)).2 (by decide) | decide)).mp h_1
        refine lv_iload hx hb dX2_rivalHolders_76 (lv_at hl 4 rfl) ?_
        exact ret_i (u := ()) hQ hx hb hrt hlk hS dX2_rivalHolders_78 hP (by rw [show i = 8 by omega])
      · have h_1 := mt (nI_leI (a := 8) (b := i) (by first | omega | exact bits_lt31 _ | exact bitN_lt _ _ | exact bool_lt _ | exact and_lt31 _ _ _ _ | exact Nat.lt_of_le_of_lt (dst_lt _ _ _ (by omega) _) (by decide) | exact Nat.lt_of_le_of_lt (nrB_le _ _ _ (by omega)).2 (by decide) | decide) (by first | omega | exact bits_lt31 _ | exact bitN_lt _ _ | exact bool_lt _ | exact and_lt31 _ _ _ _ | exact Nat.lt_of_le_of_lt (dst_lt _ _ _ (by omega) _) (by decide) | exact Nat.lt_of_le_of_lt (nrB_le _ _ _ (by omega)).2 (by decide) | decide)).mpr h_1
        refine lv_aload_n hx hb dX2_rivalHolders_13 rfl (lv_at hl 0 rfl) ?_
        refine va_get (D := D) (ci := 2) (v := .ref (a 6)) (C := RX2) (T := TX2) (N := 11) hx hb hts iX2 hown hK hP 0 rfl rfl 5 (by decide) f27 (fun _ h9 => h9) rfl dX2_rivalHolders_14 ?_
        refine lv_iload hx hb dX2_rivalHolders_17 (lv_at hl 5 rfl) ?_
        refine lv_bipush (v := (nI 10)) hx hb dX2_rivalHolders_19 (by decide) ?_
        refine lv_imul hx hb dX2_rivalHolders_21 ?_
        refine tpe (y := (nI (i * 10))) (pk_mul _ _) ?_
        refine lv_iload_n hx hb dX2_rivalHolders_22 rfl (lv_at hl 2 rfl) ?_
        refine lv_iadd hx hb dX2_rivalHolders_23 ?_
        refine tpe (y := (nI (i * 10 + r))) (nI_add _ _) ?_
        refine r_ild (k := (i * 10 + r)) hx hb hK hP 6 rfl (by omega) (by decide) dX2_rivalHolders_24 ?_
        refine lv_istore (lv' := [(6, .int ((F 5) (i * 10 + r))), (0, .ref (a 0)), (1, .int (nI t)), (2, .int (nI r)), (3, .int mode), (4, .int (nI (bits (rivB F t r mode) i))), (5, .int (nI i))]) hx hb dX2_rivalHolders_25 hl (by decide) rfl (fun ls hl => ?_)
        refine lv_iload hx hb dX2_rivalHolders_27 (lv_at hl 0 rfl) ?_
        refine lv_if_eq (tgt := 43) hx hb dX2_rivalHolders_29 (by decide) (fun h_2 => ?_) (fun h_2 => ?_)
        · have h_2 := h_2
          refine lv_iconst (v := (nI 1)) hx hb dX2_rivalHolders_43 (by decide) ?_
          refine lv_goto (tgt := 48) hx hb dX2_rivalHolders_44 (by decide) ?_
          refine lv_istore (lv' := [(7, .int (nI 1)), (6, .int ((F 5) (i * 10 + r))), (0, .ref (a 0)), (1, .int (nI t)), (2, .int (nI r)), (3, .int mode), (4, .int (nI (bits (rivB F t r mode) i))), (5, .int (nI i))]) hx hb dX2_rivalHolders_48 hl (by decide) rfl (fun ls hl => ?_)
          refine lv_iload hx hb dX2_rivalHolders_50 (lv_at hl 7 rfl) ?_
          refine lv_iload_n hx hb dX2_rivalHolders_52 rfl (lv_at hl 3 rfl) ?_
          refine lv_icmp_eq (tgt := 70) hx hb dX2_rivalHolders_53 (by decide) (fun h_3 => ?_) (fun h_3 => ?_)
          · have h_3 := (nI_eq (a := i) (b := t) (by first | omega | exact bits_lt31 _ | exact bitN_lt _ _ | exact bool_lt _ | exact and_lt31 _ _ _ _ | exact Nat.lt_of_le_of_lt (dst_lt _ _ _ (by omega) _) (by decide) | exact Nat.lt_of_le_of_lt (nrB_le _ _ _ (by omega)).2 (by decide) | decide) (by first | omega | exact bits_lt31 _ | exact bitN_lt _ _ | exact bool_lt _ | exact and_lt31 _ _ _ _ | exact Nat.lt_of_le_of_lt (dst_lt _ _ _ (by omega) _) (by decide) | exact Nat.lt_of_le_of_lt (nrB_le _ _ _ (by omega)).2 (by decide) | decide)).mp h_3
            refine lv_iinc (v := (nI (i + 1))) (lv' := [(5, .int (nI (i + 1))), (7, .int (nI 1)), (6, .int ((F 5) (i * 10 + r))), (0, .ref (a 0)), (1, .int (nI t)), (2, .int (nI r)), (3, .int mode), (4, .int (nI (bits (rivB F t r mode) i)))]) hx hb dX2_rivalHolders_70 hl (k := 7) rfl (nI_add _ 1) (by decide) rfl (fun ls hl => ?_)
            refine lv_goto (tgt := 6) hx hb dX2_rivalHolders_73 (by decide) ?_
            rw [show (nI (bits (rivB F t r mode) i)) = (nI (bits (rivB F t r mode) (i + 1))) from bits_f (by simp [rivB, compB, lk, nI_0, nI1_0, h_1, h_2, h_3])] at hl
            exact ih6 (i + 1) (by omega) (by omega) _ _ hP hD hS _ (lv_sub hl [3, 4, 5, 6, 7, 0] rfl)
          · have h_3 := mt (nI_eq (a := i) (b := t) (by first | omega | exact bits_lt31 _ | exact bitN_lt _ _ | exact bool_lt _ | exact and_lt31 _ _ _ _ | exact Nat.lt_of_le_of_lt (dst_lt _ _ _ (by omega) _) (by decide) | exact Nat.lt_of_le_of_lt (nrB_le _ _ _ (by omega)).2 (by decide) | decide) (by first | omega | exact bits_lt31 _ | exact bitN_lt _ _ | exact bool_lt _ | exact and_lt31 _ _ _ _ | exact Nat.lt_of_le_of_lt (dst_lt _ _ _ (by omega) _) (by decide) | exact Nat.lt_of_le_of_lt (nrB_le _ _ _ (by omega)).2 (by decide) | decide)).mpr h_3
            refine lv_iload hx hb dX2_rivalHolders_56 (lv_at hl 0 rfl) ?_
            refine lv_if_ne (tgt := 70) hx hb dX2_rivalHolders_58 (by decide) (fun _ => ?_) (fun h => absurd h (by decide))
            refine lv_iinc (v := (nI (i + 1))) (lv' := [(5, .int (nI (i + 1))), (7, .int (nI 1)), (6, .int ((F 5) (i * 10 + r))), (0, .ref (a 0)), (1, .int (nI t)), (2, .int (nI r)), (3, .int mode), (4, .int (nI (bits (rivB F t r mode) i)))]) hx hb dX2_rivalHolders_70 hl (k := 7) rfl (nI_add _ 1) (by decide) rfl (fun ls hl => ?_)
            refine lv_goto (tgt := 6) hx hb dX2_rivalHolders_73 (by decide) ?_
            rw [show (nI (bits (rivB F t r mode) i)) = (nI (bits (rivB F t r mode) (i + 1))) from bits_f (by simp [rivB, compB, lk, nI_0, nI1_0, h_1, h_2, h_3])] at hl
            exact ih6 (i + 1) (by omega) (by omega) _ _ hP hD hS _ (lv_sub hl [3, 4, 5, 6, 7, 0] rfl)
        · have h_2 := h_2
          refine lv_iload hx hb dX2_rivalHolders_32 (lv_at hl 0 rfl) ?_
          refine lv_iconst (v := (nI 1)) hx hb dX2_rivalHolders_34 (by decide) ?_
          refine lv_icmp_ne (tgt := 47) hx hb dX2_rivalHolders_35 (by decide) (fun h_4 => ?_) (fun h_4 => ?_)
          · have h_4 := h_4
            refine lv_iconst (v := (nI 0)) hx hb dX2_rivalHolders_47 (by decide) ?_
            refine lv_istore (lv' := [(7, .int (nI 0)), (6, .int ((F 5) (i * 10 + r))), (0, .ref (a 0)), (1, .int (nI t)), (2, .int (nI r)), (3, .int mode), (4, .int (nI (bits (rivB F t r mode) i))), (5, .int (nI i))]) hx hb dX2_rivalHolders_48 hl (by decide) rfl (fun ls hl => ?_)
            refine lv_iload hx hb dX2_rivalHolders_50 (lv_at hl 7 rfl) ?_
            refine lv_iload_n hx hb dX2_rivalHolders_52 rfl (lv_at hl 3 rfl) ?_
            refine lv_icmp_eq (tgt := 70) hx hb dX2_rivalHolders_53 (by decide) (fun h_5 => ?_) (fun h_5 => ?_)
            · have h_5 := (nI_eq (a := i) (b := t) (by first | omega | exact bits_lt31 _ | exact bitN_lt _ _ | exact bool_lt _ | exact and_lt31 _ _ _ _ | exact Nat.lt_of_le_of_lt (dst_lt _ _ _ (by omega) _) (by decide) | exact Nat.lt_of_le_of_lt (nrB_le _ _ _ (by omega)).2 (by decide) | decide) (by first | omega | exact bits_lt31 _ | exact bitN_lt _ _ | exact bool_lt _ | exact and_lt31 _ _ _ _ | exact Nat.lt_of_le_of_lt (dst_lt _ _ _ (by omega) _) (by decide) | exact Nat.lt_of_le_of_lt (nrB_le _ _ _ (by omega)).2 (by decide) | decide)).mp h_5
              refine lv_iinc (v := (nI (i + 1))) (lv' := [(5, .int (nI (i + 1))), (7, .int (nI 0)), (6, .int ((F 5) (i * 10 + r))), (0, .ref (a 0)), (1, .int (nI t)), (2, .int (nI r)), (3, .int mode), (4, .int (nI (bits (rivB F t r mode) i)))]) hx hb dX2_rivalHolders_70 hl (k := 7) rfl (nI_add _ 1) (by decide) rfl (fun ls hl => ?_)
              refine lv_goto (tgt := 6) hx hb dX2_rivalHolders_73 (by decide) ?_
              rw [show (nI (bits (rivB F t r mode) i)) = (nI (bits (rivB F t r mode) (i + 1))) from bits_f (by simp [rivB, compB, lk, nI_0, nI1_0, h_1, h_2, h_4, h_5])] at hl
              exact ih6 (i + 1) (by omega) (by omega) _ _ hP hD hS _ (lv_sub hl [3, 4, 5, 6, 7, 0] rfl)
            · have h_5 := mt (nI_eq (a := i) (b := t) (by first | omega | exact bits_lt31 _ | exact bitN_lt _ _ | exact bool_lt _ | exact and_lt31 _ _ _ _ | exact Nat.lt_of_le_of_lt (dst_lt _ _ _ (by omega) _) (by decide) | exact Nat.lt_of_le_of_lt (nrB_le _ _ _ (by omega)).2 (by decide) | decide) (by first | omega | exact bits_lt31 _ | exact bitN_lt _ _ | exact bool_lt _ | exact and_lt31 _ _ _ _ | exact Nat.lt_of_le_of_lt (dst_lt _ _ _ (by omega) _) (by decide) | exact Nat.lt_of_le_of_lt (nrB_le _ _ _ (by omega)).2 (by decide) | decide)).mpr h_5
              refine lv_iload hx hb dX2_rivalHolders_56 (lv_at hl 0 rfl) ?_
              refine lv_if_ne (tgt := 70) hx hb dX2_rivalHolders_58 (by decide) (fun h => absurd (by decide) h) (fun _ => ?_)
              refine lv_iload hx hb dX2_rivalHolders_61 (lv_at hl 6 rfl) ?_
              refine lv_iconst (v := (nI 1)) hx hb dX2_rivalHolders_63 (by decide) ?_
              refine lv_iload hx hb dX2_rivalHolders_64 (lv_at hl 7 rfl) ?_
              refine lv_ishl hx hb dX2_rivalHolders_66 ?_
              refine lv_ior hx hb dX2_rivalHolders_67 ?_
              refine lv_istore (lv' := [(4, .int ((nI (bits (rivB F t r mode) i)) ||| ((nI 1) <<< ((nI i) &&& 31)))), (7, .int (nI 0)), (6, .int ((F 5) (i * 10 + r))), (0, .ref (a 0)), (1, .int (nI t)), (2, .int (nI r)), (3, .int mode), (5, .int (nI i))]) hx hb dX2_rivalHolders_68 hl (by decide) rfl (fun ls hl => ?_)
              refine lv_iinc (v := (nI (i + 1))) (lv' := [(5, .int (nI (i + 1))), (4, .int ((nI (bits (rivB F t r mode) i)) ||| ((nI 1) <<< ((nI i) &&& 31)))), (7, .int (nI 0)), (6, .int ((F 5) (i * 10 + r))), (0, .ref (a 0)), (1, .int (nI t)), (2, .int (nI r)), (3, .int mode)]) hx hb dX2_rivalHolders_70 hl (k := 7) rfl (nI_add _ 1) (by decide) rfl (fun ls hl => ?_)
              refine lv_goto (tgt := 6) hx hb dX2_rivalHolders_73 (by decide) ?_
              rw [show ((nI (bits (rivB F t r mode) i)) ||| ((nI 1) <<< ((nI i) &&& 31))) = (nI (bits (rivB F t r mode) (i + 1))) from bits_t (by omega) (by simp [rivB, compB, lk, nI_0, nI1_0, h_1, h_2, h_4, h_5])] at hl
              exact ih6 (i + 1) (by omega) (by omega) _ _ hP hD hS _ (lv_sub hl [4, 5, 6, 7, 1, 0] rfl)
          · have h_4 := h_4
            refine lv_iload_n hx hb dX2_rivalHolders_38 rfl (lv_at hl 4 rfl) ?_
            refine lv_iconst (v := (nI 1)) hx hb dX2_rivalHolders_39 (by decide) ?_
            refine lv_icmp_ne (tgt := 47) hx hb dX2_rivalHolders_40 (by decide) (fun h_6 => ?_) (fun h_6 => ?_)
            · have h_6 := h_6
              refine lv_iconst (v := (nI 0)) hx hb dX2_rivalHolders_47 (by decide) ?_
              refine lv_istore (lv' := [(7, .int (nI 0)), (6, .int ((F 5) (i * 10 + r))), (0, .ref (a 0)), (1, .int (nI t)), (2, .int (nI r)), (3, .int mode), (4, .int (nI (bits (rivB F t r mode) i))), (5, .int (nI i))]) hx hb dX2_rivalHolders_48 hl (by decide) rfl (fun ls hl => ?_)
              refine lv_iload hx hb dX2_rivalHolders_50 (lv_at hl 7 rfl) ?_
              refine lv_iload_n hx hb dX2_rivalHolders_52 rfl (lv_at hl 3 rfl) ?_
              refine lv_icmp_eq (tgt := 70) hx hb dX2_rivalHolders_53 (by decide) (fun h_7 => ?_) (fun h_7 => ?_)
              · have h_7 := (nI_eq (a := i) (b := t) (by first | omega | exact bits_lt31 _ | exact bitN_lt _ _ | exact bool_lt _ | exact and_lt31 _ _ _ _ | exact Nat.lt_of_le_of_lt (dst_lt _ _ _ (by omega) _) (by decide) | exact Nat.lt_of_le_of_lt (nrB_le _ _ _ (by omega)).2 (by decide) | decide) (by first | omega | exact bits_lt31 _ | exact bitN_lt _ _ | exact bool_lt _ | exact and_lt31 _ _ _ _ | exact Nat.lt_of_le_of_lt (dst_lt _ _ _ (by omega) _) (by decide) | exact Nat.lt_of_le_of_lt (nrB_le _ _ _ (by omega)).2 (by decide) | decide)).mp h_7
                refine lv_iinc (v := (nI (i + 1))) (lv' := [(5, .int (nI (i + 1))), (7, .int (nI 0)), (6, .int ((F 5) (i * 10 + r))), (0, .ref (a 0)), (1, .int (nI t)), (2, .int (nI r)), (3, .int mode), (4, .int (nI (bits (rivB F t r mode) i)))]) hx hb dX2_rivalHolders_70 hl (k := 7) rfl (nI_add _ 1) (by decide) rfl (fun ls hl => ?_)
                refine lv_goto (tgt := 6) hx hb dX2_rivalHolders_73 (by decide) ?_
                rw [show (nI (bits (rivB F t r mode) i)) = (nI (bits (rivB F t r mode) (i + 1))) from bits_f (by simp [rivB, compB, lk, nI_0, nI1_0, h_1, h_2, h_4, h_6, h_7])] at hl
                exact ih6 (i + 1) (by omega) (by omega) _ _ hP hD hS _ (lv_sub hl [3, 4, 5, 6, 7, 0] rfl)
              · have h_7 := mt (nI_eq (a := i) (b := t) (by first | omega | exact bits_lt31 _ | exact bitN_lt _ _ | exact bool_lt _ | exact and_lt31 _ _ _ _ | exact Nat.lt_of_le_of_lt (dst_lt _ _ _ (by omega) _) (by decide) | exact Nat.lt_of_le_of_lt (nrB_le _ _ _ (by omega)).2 (by decide) | decide) (by first | omega | exact bits_lt31 _ | exact bitN_lt _ _ | exact bool_lt _ | exact and_lt31 _ _ _ _ | exact Nat.lt_of_le_of_lt (dst_lt _ _ _ (by omega) _) (by decide) | exact Nat.lt_of_le_of_lt (nrB_le _ _ _ (by omega)).2 (by decide) | decide)).mpr h_7
                refine lv_iload hx hb dX2_rivalHolders_56 (lv_at hl 0 rfl) ?_
                refine lv_if_ne (tgt := 70) hx hb dX2_rivalHolders_58 (by decide) (fun h => absurd (by decide) h) (fun _ => ?_)
                refine lv_iload hx hb dX2_rivalHolders_61 (lv_at hl 6 rfl) ?_
                refine lv_iconst (v := (nI 1)) hx hb dX2_rivalHolders_63 (by decide) ?_
                refine lv_iload hx hb dX2_rivalHolders_64 (lv_at hl 7 rfl) ?_
                refine lv_ishl hx hb dX2_rivalHolders_66 ?_
                refine lv_ior hx hb dX2_rivalHolders_67 ?_
                refine lv_istore (lv' := [(4, .int ((nI (bits (rivB F t r mode) i)) ||| ((nI 1) <<< ((nI i) &&& 31)))), (7, .int (nI 0)), (6, .int ((F 5) (i * 10 + r))), (0, .ref (a 0)), (1, .int (nI t)), (2, .int (nI r)), (3, .int mode), (5, .int (nI i))]) hx hb dX2_rivalHolders_68 hl (by decide) rfl (fun ls hl => ?_)
                refine lv_iinc (v := (nI (i + 1))) (lv' := [(5, .int (nI (i + 1))), (4, .int ((nI (bits (rivB F t r mode) i)) ||| ((nI 1) <<< ((nI i) &&& 31)))), (7, .int (nI 0)), (6, .int ((F 5) (i * 10 + r))), (0, .ref (a 0)), (1, .int (nI t)), (2, .int (nI r)), (3, .int mode)]) hx hb dX2_rivalHolders_70 hl (k := 7) rfl (nI_add _ 1) (by decide) rfl (fun ls hl => ?_)
                refine lv_goto (tgt := 6) hx hb dX2_rivalHolders_73 (by decide) ?_
                rw [show ((nI (bits (rivB F t r mode) i)) ||| ((nI 1) <<< ((nI i) &&& 31))) = (nI (bits (rivB F t r mode) (i + 1))) from bits_t (by omega) (by simp [rivB, compB, lk, nI_0, nI1_0, h_1, h_2, h_4, h_6, h_7])] at hl
                exact ih6 (i + 1) (by omega) (by omega) _ _ hP hD hS _ (lv_sub hl [4, 5, 6, 7, 1, 0] rfl)
            · have h_6 := h_6
              refine lv_iconst (v := (nI 1)) hx hb dX2_rivalHolders_43 (by decide) ?_
              refine lv_goto (tgt := 48) hx hb dX2_rivalHolders_44 (by decide) ?_
              refine lv_istore (lv' := [(7, .int (nI 1)), (6, .int ((F 5) (i * 10 + r))), (0, .ref (a 0)), (1, .int (nI t)), (2, .int (nI r)), (3, .int mode), (4, .int (nI (bits (rivB F t r mode) i))), (5, .int (nI i))]) hx hb dX2_rivalHolders_48 hl (by decide) rfl (fun ls hl => ?_)
              refine lv_iload hx hb dX2_rivalHolders_50 (lv_at hl 7 rfl) ?_
              refine lv_iload_n hx hb dX2_rivalHolders_52 rfl (lv_at hl 3 rfl) ?_
              refine lv_icmp_eq (tgt := 70) hx hb dX2_rivalHolders_53 (by decide) (fun h_8 => ?_) (fun h_8 => ?_)
              · have h_8 := (nI_eq (a := i) (b := t) (by first | omega | exact bits_lt31 _ | exact bitN_lt _ _ | exact bool_lt _ | exact and_lt31 _ _ _ _ | exact Nat.lt_of_le_of_lt (dst_lt _ _ _ (by omega) _) (by decide) | exact Nat.lt_of_le_of_lt (nrB_le _ _ _ (by omega)).2 (by decide) | decide) (by first | omega | exact bits_lt31 _ | exact bitN_lt _ _ | exact bool_lt _ | exact and_lt31 _ _ _ _ | exact Nat.lt_of_le_of_lt (dst_lt _ _ _ (by omega) _) (by decide) | exact Nat.lt_of_le_of_lt (nrB_le _ _ _ (by omega)).2 (by decide) | decide)).mp h_8
                refine lv_iinc (v := (nI (i + 1))) (lv' := [(5, .int (nI (i + 1))), (7, .int (nI 1)), (6, .int ((F 5) (i * 10 + r))), (0, .ref (a 0)), (1, .int (nI t)), (2, .int (nI r)), (3, .int mode), (4, .int (nI (bits (rivB F t r mode) i)))]) hx hb dX2_rivalHolders_70 hl (k := 7) rfl (nI_add _ 1) (by decide) rfl (fun ls hl => ?_)
                refine lv_goto (tgt := 6) hx hb dX2_rivalHolders_73 (by decide) ?_
                rw [show (nI (bits (rivB F t r mode) i)) = (nI (bits (rivB F t r mode) (i + 1))) from bits_f (by simp [rivB, compB, lk, nI_0, nI1_0, h_1, h_2, h_4, h_6, h_8])] at hl
                exact ih6 (i + 1) (by omega) (by omega) _ _ hP hD hS _ (lv_sub hl [3, 4, 5, 6, 7, 0] rfl)
              · have h_8 := mt (nI_eq (a := i) (b := t) (by first | omega | exact bits_lt31 _ | exact bitN_lt _ _ | exact bool_lt _ | exact and_lt31 _ _ _ _ | exact Nat.lt_of_le_of_lt (dst_lt _ _ _ (by omega) _) (by decide) | exact Nat.lt_of_le_of_lt (nrB_le _ _ _ (by omega)).2 (by decide) | decide) (by first | omega | exact bits_lt31 _ | exact bitN_lt _ _ | exact bool_lt _ | exact and_lt31 _ _ _ _ | exact Nat.lt_of_le_of_lt (dst_lt _ _ _ (by omega) _) (by decide) | exact Nat.lt_of_le_of_lt (nrB_le _ _ _ (by omega)).2 (by decide) | decide)).mpr h_8
                refine lv_iload hx hb dX2_rivalHolders_56 (lv_at hl 0 rfl) ?_
                refine lv_if_ne (tgt := 70) hx hb dX2_rivalHolders_58 (by decide) (fun _ => ?_) (fun h => absurd h (by decide))
                refine lv_iinc (v := (nI (i + 1))) (lv' := [(5, .int (nI (i + 1))), (7, .int (nI 1)), (6, .int ((F 5) (i * 10 + r))), (0, .ref (a 0)), (1, .int (nI t)), (2, .int (nI r)), (3, .int mode), (4, .int (nI (bits (rivB F t r mode) i)))]) hx hb dX2_rivalHolders_70 hl (k := 7) rfl (nI_add _ 1) (by decide) rfl (fun ls hl => ?_)
                refine lv_goto (tgt := 6) hx hb dX2_rivalHolders_73 (by decide) ?_
                rw [show (nI (bits (rivB F t r mode) i)) = (nI (bits (rivB F t r mode) (i + 1))) from bits_f (by simp [rivB, compB, lk, nI_0, nI1_0, h_1, h_2, h_4, h_6, h_8])] at hl
                exact ih6 (i + 1) (by omega) (by omega) _ _ hP hD hS _ (lv_sub hl [3, 4, 5, 6, 7, 0] rfl)
  rw [show (nI 0) = (nI (bits (rivB F t r mode) 0)) from rfl] at hl
  exact L6 _ 0 (Nat.zero_le _) (Nat.lt_succ_self _) _ _ hP hD hS _ (lv_sub hl [2, 3, 4, 5, 1, 0] rfl)

abbrev rX2_rivalsAhead : Room := { frames := 0, cells := 0, slots := 0, locals := 0 }
set_option maxHeartbeats 4000000 in
set_option maxRecDepth 100000 in
/-- rivalsAhead -/
theorem c_X2_rivalsAhead (l : Launch) (D : va_G) (cI cT : ClassId) (a : Nat → Nat) (F : FF) (Q0 : QQ) (qa : Nat → Int32) (t r : Nat) (ht : t < 8) (hr : r < 10) (hJ : JJ F Q0) (hRQ : RQ Q0 qa) : CN l D cI cT yX2_rivalsAhead wsX2_rivalsAhead rX2_rivalsAhead [.ref (a 0), .int (nI t), .int (nI r)] (tblW cI a F Q0 qa) (S := Unit) (fun v _ => v = nI (bits (ahB F Q0 t r) 8)) (fun _ => tblW cI a F Q0 qa) := by
  refine CN.of (cc := cX2_rivalsAhead) (maxL := 7) (ret := (some .int)) (by decide) rfl (Nat.le_of_ble_eq_true rfl) ?_
  intro p e s m args below meth c A Q hQ B hA H locs hP hK hD hS ls hl
  obtain ⟨hx, hb, hml, hrt, hts, hown, hlk⟩ := B
  have hl : lv_has ls 7 [(0, .ref (a 0)), (1, .int (nI t)), (2, .int (nI r))] := hl
  have hq8 := JJ_len hJ hr
  have iX2 : ∀ w ∈ u_ws RX2 TX2 11, w ∈ wsX2_rivalsAhead := by decide +kernel
  have f33 := hts (.fieldLink RX2 33 "LockManager$LockTable" "lengths" "[I") (by decide +kernel)
  have f30 := hts (.fieldLink RX2 30 "LockManager$LockTable" "queues" "[I") (by decide +kernel)
  have f24 := hts (.fieldLink RX2 24 "LockManager$LockTable" "wantedModes" "[I") (by decide +kernel)
  refine lv_iconst (v := (nI 0)) hx hb dX2_rivalsAhead_0 (by decide) ?_
  refine lv_istore_n (lv' := [(3, .int (nI 0)), (0, .ref (a 0)), (1, .int (nI t)), (2, .int (nI r))]) hx hb dX2_rivalsAhead_1 rfl hl (by decide) rfl (fun ls hl => ?_)
  refine lv_iload_n hx hb dX2_rivalsAhead_2 rfl (lv_at hl 3 rfl) ?_
  refine lv_bipush (v := (nI 8)) hx hb dX2_rivalsAhead_3 (by decide) ?_
  refine lv_imul hx hb dX2_rivalsAhead_5 ?_
  refine tpe (y := (nI (r * 8))) (pk_mul _ _) ?_
  refine lv_istore (lv' := [(4, .int (nI (r * 8))), (3, .int (nI 0)), (0, .ref (a 0)), (1, .int (nI t)), (2, .int (nI r))]) hx hb dX2_rivalsAhead_6 hl (by decide) rfl (fun ls hl => ?_)
  refine lv_iconst (v := (nI 0)) hx hb dX2_rivalsAhead_8 (by decide) ?_
  refine lv_istore (lv' := [(5, .int (nI 0)), (4, .int (nI (r * 8))), (3, .int (nI 0)), (0, .ref (a 0)), (1, .int (nI t)), (2, .int (nI r))]) hx hb dX2_rivalsAhead_9 hl (by decide) rfl (fun ls hl => ?_)
  have L11 : ∀ (N : Nat) (i : Nat), (i ≤ qlen Q0 r) → (∀ j, j < i → (Q0 r).getD j 0 ≠ t) → (8 - i) < N → ∀ (H : Heap) (locs : List Loc), va_P D vwCl ([(a 0, .inr (2, [.ref (a 1), .ref (a 2), .ref (a 3), .ref (a 4), .ref (a 5), .ref (a 6), .ref (a 7), .ref (a 8), .int (F 8 0), .int (F 8 1), .int (F 8 2)])), (a 1, .inl (cI, 8, .inl (F 0))), (a 2, .inl (cI, 8, .inl (F 1))), (a 3, .inl (cI, 8, .inl (F 2))), (a 4, .inl (cI, 8, .inl (F 3))), (a 5, .inl (cI, 8, .inl (F 4))), (a 6, .inl (cI, 80, .inl (F 5))), (a 7, .inl (cI, 80, .inl qa)), (a 8, .inl (cI, 10, .inl (fun z => nI ((qlen Q0) z))))]) H → va_D A ([(a 0, .inr (2, [.ref (a 1), .ref (a 2), .ref (a 3), .ref (a 4), .ref (a 5), .ref (a 6), .ref (a 7), .ref (a 8), .int (F 8 0), .int (F 8 1), .int (F 8 2)])), (a 1, .inl (cI, 8, .inl (F 0))), (a 2, .inl (cI, 8, .inl (F 1))), (a 3, .inl (cI, 8, .inl (F 2))), (a 4, .inl (cI, 8, .inl (F 3))), (a 5, .inl (cI, 8, .inl (F 4))), (a 6, .inl (cI, 80, .inl (F 5))), (a 7, .inl (cI, 80, .inl qa)), (a 8, .inl (cI, 10, .inl (fun z => nI ((qlen Q0) z))))]) → va_S A s.heap H locs → ∀ ls : Array Slot, lv_has ls 7 [(0, .ref (a 0)), (1, .int (nI t)), (2, .int (nI r)), (3, .int (nI (bits (ahI F (Q0 r) t i) 8))), (4, .int (nI (r * 8))), (5, .int (nI i))] → W p l e rX2_rivalsAhead s m args below meth c H locs 0 0 Q (F0 m 11 ls []) := by
    intro N11
    induction N11 with
    | zero => intro i hi hb4 hN; exact absurd hN (Nat.not_lt_zero _)
    | succ N11 ih11 =>
      intro i hi hb4 hN H locs hP hD hS ls hl
      refine lv_iload hx hb dX2_rivalsAhead_11 (lv_at hl 5 rfl) ?_
      refine lv_aload_n hx hb dX2_rivalsAhead_13 rfl (lv_at hl 0 rfl) ?_
      refine va_get (D := D) (ci := 2) (v := .ref (a 8)) (C := RX2) (T := TX2) (N := 11) hx hb hts iX2 hown hK hP 0 rfl rfl 7 (by decide) f33 (fun _ h9 => h9) rfl dX2_rivalsAhead_14 ?_
      refine lv_iload_n hx hb dX2_rivalsAhead_17 rfl (lv_at hl 2 rfl) ?_
      refine r_ild (k := r) hx hb hK hP 8 rfl (by omega) (by decide) dX2_rivalsAhead_18 ?_
      refine tpe (y := (nI ((qlen Q0) r))) rfl ?_
      refine lv_icmp_ge (tgt := 77) hx hb dX2_rivalsAhead_19 (by decide) (fun h_1 => ?_) (fun h_1 => ?_)
      · have h_1 := (nI_leI (a := ((qlen Q0) r)) (b := i) (by first | omega | exact bits_lt31 _ | exact bitN_lt _ _ | exact bool_lt _ | exact and_lt31 _ _ _ _ | exact Nat.lt_of_le_of_lt (dst_lt _ _ _ (by omega) _) (by decide) | exact Nat.lt_of_le_of_lt (nrB_le _ _ _ (by omega)).2 (by decide) | decide) (by first | omega | exact bits_lt31 _ | exact bitN_lt _ _ | exact bool_lt _ | exact and_lt31 _ _ _ _ | exact Nat.lt_of_le_of_lt (dst_lt _ _ _ (by omega) _) (by decide) | exact Nat.lt_of_le_of_lt (nrB_le _ _ _ (by omega)).2 (by decide) | decide)).mp h_1
        refine lv_iload_n hx hb dX2_rivalsAhead_77 rfl (lv_at hl 3 rfl) ?_
        exact ret_i (u := ()) hQ hx hb hrt hlk hS dX2_rivalsAhead_78 hP (ah_end hb4 hi (Or.inl (by omega)))
      · have h_1 := mt (nI_leI (a := ((qlen Q0) r)) (b := i) (by first | omega | exact bits_lt31 _ | exact bitN_lt _ _ | exact bool_lt _ | exact and_lt31 _ _ _ _ | exact Nat.lt_of_le_of_lt (dst_lt _ _ _ (by omega) _) (by decide) | exact Nat.lt_of_le_of_lt (nrB_le _ _ _ (by omega)).2 (by decide) | decide) (by first | omega | exact bits_lt31 _ | exact bitN_lt _ _ | exact bool_lt _ | exact and_lt31 _ _ _ _ | exact Nat.lt_of_le_of_lt (dst_lt _ _ _ (by omega) _) (by decide) | exact Nat.lt_of_le_of_lt (nrB_le _ _ _ (by omega)).2 (by decide) | decide)).mpr h_1
        refine lv_aload_n hx hb dX2_rivalsAhead_22 rfl (lv_at hl 0 rfl) ?_
        refine va_get (D := D) (ci := 2) (v := .ref (a 7)) (C := RX2) (T := TX2) (N := 11) hx hb hts iX2 hown hK hP 0 rfl rfl 6 (by decide) f30 (fun _ h9 => h9) rfl dX2_rivalsAhead_23 ?_
        refine lv_iload hx hb dX2_rivalsAhead_26 (lv_at hl 4 rfl) ?_
        refine lv_iload hx hb dX2_rivalsAhead_28 (lv_at hl 5 rfl) ?_
        refine lv_iadd hx hb dX2_rivalsAhead_30 ?_
        refine tpe (y := (nI (r * 8 + i))) (nI_add _ _) ?_
        refine r_ild (k := (r * 8 + i)) hx hb hK hP 7 rfl (by omega) (by decide) dX2_rivalsAhead_31 ?_
        obtain ⟨o, ho⟩ : ∃ z, z = (Q0 r).getD i 0 := ⟨_, rfl⟩
        have ho8 : o < 8 := by rw [ho]; exact JJ_mem hJ hr (by omega)
        refine tpe (y := nI o) (by rw [ho]; exact hRQ r hr i (by omega)) ?_
        refine lv_istore (lv' := [(6, .int (nI o)), (0, .ref (a 0)), (1, .int (nI t)), (2, .int (nI r)), (3, .int (nI (bits (ahI F (Q0 r) t i) 8))), (4, .int (nI (r * 8))), (5, .int (nI i))]) hx hb dX2_rivalsAhead_32 hl (by decide) rfl (fun ls hl => ?_)
        refine lv_iload hx hb dX2_rivalsAhead_34 (lv_at hl 0 rfl) ?_
        refine lv_iload_n hx hb dX2_rivalsAhead_36 rfl (lv_at hl 2 rfl) ?_
        refine lv_icmp_ne (tgt := 43) hx hb dX2_rivalsAhead_37 (by decide) (fun h_2 => ?_) (fun h_2 => ?_)
        · have h_2 := mt (nI_eq (a := o) (b := t) (by first | omega | exact bits_lt31 _ | exact bitN_lt _ _ | exact bool_lt _ | exact and_lt31 _ _ _ _ | exact Nat.lt_of_le_of_lt (dst_lt _ _ _ (by omega) _) (by decide) | exact Nat.lt_of_le_of_lt (nrB_le _ _ _ (by omega)).2 (by decide) | decide) (by first | omega | exact bits_lt31 _ | exact bitN_lt _ _ | exact bool_lt _ | exact and_lt31 _ _ _ _ | exact Nat.lt_of_le_of_lt (dst_lt _ _ _ (by omega) _) (by decide) | exact Nat.lt_of_le_of_lt (nrB_le _ _ _ (by omega)).2 (by decide) | decide)).mpr h_2
          refine lv_aload_n hx hb dX2_rivalsAhead_43 rfl (lv_at hl 1 rfl) ?_
          refine va_get (D := D) (ci := 2) (v := .ref (a 5)) (C := RX2) (T := TX2) (N := 11) hx hb hts iX2 hown hK hP 0 rfl rfl 4 (by decide) f24 (fun _ h9 => h9) rfl dX2_rivalsAhead_44 ?_
          refine lv_iload_n hx hb dX2_rivalsAhead_47 rfl (lv_at hl 2 rfl) ?_
          refine r_ild (k := t) hx hb hK hP 5 rfl (by omega) (by decide) dX2_rivalsAhead_48 ?_
          refine lv_iconst (v := (nI 2)) hx hb dX2_rivalsAhead_49 (by decide) ?_
          refine lv_icmp_eq (tgt := 64) hx hb dX2_rivalsAhead_50 (by decide) (fun h_3 => ?_) (fun h_3 => ?_)
          · have h_3 := h_3
            refine lv_iload_n hx hb dX2_rivalsAhead_64 rfl (lv_at hl 4 rfl) ?_
            refine lv_iconst (v := (nI 1)) hx hb dX2_rivalsAhead_65 (by decide) ?_
            refine lv_iload hx hb dX2_rivalsAhead_66 (lv_at hl 0 rfl) ?_
            refine lv_ishl hx hb dX2_rivalsAhead_68 ?_
            refine lv_ior hx hb dX2_rivalsAhead_69 ?_
            refine lv_istore_n (lv' := [(3, .int ((nI (bits (ahI F (Q0 r) t i) 8)) ||| ((nI 1) <<< ((nI o) &&& 31)))), (6, .int (nI o)), (0, .ref (a 0)), (1, .int (nI t)), (2, .int (nI r)), (4, .int (nI (r * 8))), (5, .int (nI i))]) hx hb dX2_rivalsAhead_70 rfl hl (by decide) rfl (fun ls hl => ?_)
            refine lv_iinc (v := (nI (i + 1))) (lv' := [(5, .int (nI (i + 1))), (3, .int ((nI (bits (ahI F (Q0 r) t i) 8)) ||| ((nI 1) <<< ((nI o) &&& 31)))), (6, .int (nI o)), (0, .ref (a 0)), (1, .int (nI t)), (2, .int (nI r)), (4, .int (nI (r * 8)))]) hx hb dX2_rivalsAhead_71 hl (k := 6) rfl (nI_add _ 1) (by decide) rfl (fun ls hl => ?_)
            refine lv_goto (tgt := 11) hx hb dX2_rivalsAhead_74 (by decide) ?_
            rw [show ((nI (bits (ahI F (Q0 r) t i) 8)) ||| ((nI 1) <<< ((nI o) &&& 31))) = (nI (bits (ahI F (Q0 r) t (i + 1)) 8)) from ahI_t (by unfold qlen at *; omega) ho ho8 (by simp [nI_0, nI1_0, nI2_0, nI1_2, nI2_1, n0_1, n0_2, h_1, h_2, h_3])] at hl
            exact ih11 (i + 1) (by omega) (lt_s hb4 (by rw [← ho]; exact h_2)) (by omega) _ _ hP hD hS _ (lv_sub hl [3, 4, 5, 1, 6, 0] rfl)
          · have h_3 := h_3
            refine lv_aload_n hx hb dX2_rivalsAhead_53 rfl (lv_at hl 1 rfl) ?_
            refine va_get (D := D) (ci := 2) (v := .ref (a 5)) (C := RX2) (T := TX2) (N := 11) hx hb hts iX2 hown hK hP 0 rfl rfl 4 (by decide) f24 (fun _ h9 => h9) rfl dX2_rivalsAhead_54 ?_
            refine lv_iload hx hb dX2_rivalsAhead_57 (lv_at hl 0 rfl) ?_
            refine r_ild (k := o) hx hb hK hP 5 rfl (by omega) (by decide) dX2_rivalsAhead_59 ?_
            refine lv_iconst (v := (nI 2)) hx hb dX2_rivalsAhead_60 (by decide) ?_
            refine lv_icmp_ne (tgt := 71) hx hb dX2_rivalsAhead_61 (by decide) (fun h_4 => ?_) (fun h_4 => ?_)
            · have h_4 := h_4
              refine lv_iinc (v := (nI (i + 1))) (lv' := [(5, .int (nI (i + 1))), (6, .int (nI o)), (0, .ref (a 0)), (1, .int (nI t)), (2, .int (nI r)), (3, .int (nI (bits (ahI F (Q0 r) t i) 8))), (4, .int (nI (r * 8)))]) hx hb dX2_rivalsAhead_71 hl (k := 6) rfl (nI_add _ 1) (by decide) rfl (fun ls hl => ?_)
              refine lv_goto (tgt := 11) hx hb dX2_rivalsAhead_74 (by decide) ?_
              rw [show (nI (bits (ahI F (Q0 r) t i) 8)) = (nI (bits (ahI F (Q0 r) t (i + 1)) 8)) from ahI_f (by unfold qlen at *; omega) ho (by simp [nI_0, nI1_0, nI2_0, nI1_2, nI2_1, n0_1, n0_2, h_1, h_2, h_3, h_4])] at hl
              exact ih11 (i + 1) (by omega) (lt_s hb4 (by rw [← ho]; exact h_2)) (by omega) _ _ hP hD hS _ (lv_sub hl [2, 3, 4, 5, 6, 0] rfl)
            · have h_4 := h_4
              refine lv_iload_n hx hb dX2_rivalsAhead_64 rfl (lv_at hl 4 rfl) ?_
              refine lv_iconst (v := (nI 1)) hx hb dX2_rivalsAhead_65 (by decide) ?_
              refine lv_iload hx hb dX2_rivalsAhead_66 (lv_at hl 0 rfl) ?_
              refine lv_ishl hx hb dX2_rivalsAhead_68 ?_
              refine lv_ior hx hb dX2_rivalsAhead_69 ?_
              refine lv_istore_n (lv' := [(3, .int ((nI (bits (ahI F (Q0 r) t i) 8)) ||| ((nI 1) <<< ((nI o) &&& 31)))), (6, .int (nI o)), (0, .ref (a 0)), (1, .int (nI t)), (2, .int (nI r)), (4, .int (nI (r * 8))), (5, .int (nI i))]) hx hb dX2_rivalsAhead_70 rfl hl (by decide) rfl (fun ls hl => ?_)
              refine lv_iinc (v := (nI (i + 1))) (lv' := [(5, .int (nI (i + 1))), (3, .int ((nI (bits (ahI F (Q0 r) t i) 8)) ||| ((nI 1) <<< ((nI o) &&& 31)))), (6, .int (nI o)), (0, .ref (a 0)), (1, .int (nI t)), (2, .int (nI r)), (4, .int (nI (r * 8)))]) hx hb dX2_rivalsAhead_71 hl (k := 6) rfl (nI_add _ 1) (by decide) rfl (fun ls hl => ?_)
              refine lv_goto (tgt := 11) hx hb dX2_rivalsAhead_74 (by decide) ?_
              rw [show ((nI (bits (ahI F (Q0 r) t i) 8)) ||| ((nI 1) <<< ((nI o) &&& 31))) = (nI (bits (ahI F (Q0 r) t (i + 1)) 8)) from ahI_t (by unfold qlen at *; omega) ho ho8 (by simp [nI_0, nI1_0, nI2_0, nI1_2, nI2_1, n0_1, n0_2, h_1, h_2, h_3, h_4])] at hl
              exact ih11 (i + 1) (by omega) (lt_s hb4 (by rw [← ho]; exact h_2)) (by omega) _ _ hP hD hS _ (lv_sub hl [3, 4, 5, 1, 6, 0] rfl)
        · have h_2 := (nI_eq (a := o) (b := t) (by first | omega | exact bits_lt31 _ | exact bitN_lt _ _ | exact bool_lt _ | exact and_lt31 _ _ _ _ | exact Nat.lt_of_le_of_lt (dst_lt _ _ _ (by omega) _) (by decide) | exact Nat.lt_of_le_of_lt (nrB_le _ _ _ (by omega)).2 (by decide) | decide) (by first | omega | exact bits_lt31 _ | exact bitN_lt _ _ | exact bool_lt _ | exact and_lt31 _ _ _ _ | exact Nat.lt_of_le_of_lt (dst_lt _ _ _ (by omega) _) (by decide) | exact Nat.lt_of_le_of_lt (nrB_le _ _ _ (by omega)).2 (by decide) | decide)).mp h_2
          refine lv_goto (tgt := 77) hx hb dX2_rivalsAhead_40 (by decide) ?_
          refine lv_iload_n hx hb dX2_rivalsAhead_77 rfl (lv_at hl 4 rfl) ?_
          exact ret_i (u := ()) hQ hx hb hrt hlk hS dX2_rivalsAhead_78 hP (ah_end hb4 hi (Or.inr (by rw [← ho]; exact h_2)))
  rw [show (nI 0) = (nI (bits (ahI F (Q0 r) t 0) 8)) from (congrArg nI (bits_0.mpr (fun u _ => by simp [ahI])).symm)] at hl
  exact L11 _ 0 (Nat.zero_le _) (fun j hj => absurd hj (Nat.not_lt_zero _)) (Nat.lt_succ_self _) _ _ hP hD hS _ (lv_sub hl [3, 4, 5, 2, 1, 0] rfl)

abbrev rX2_countUpgrades : Room := { frames := 0, cells := 0, slots := 0, locals := 0 }
set_option maxHeartbeats 4000000 in
set_option maxRecDepth 100000 in
/-- countUpgrades -/
theorem c_X2_countUpgrades (l : Launch) (D : va_G) (cI cT : ClassId) (a : Nat → Nat) (F : FF) (Q0 : QQ) (qa : Nat → Int32) (r : Nat) (hr : r < 10) (hJ : JJ F Q0) (hRQ : RQ Q0 qa) : CN l D cI cT yX2_countUpgrades wsX2_countUpgrades rX2_countUpgrades [.ref (a 0), .int (nI r)] (tblW cI a F Q0 qa) (S := Unit) (fun v _ => v = nI (cntU F (Q0 r) r (qlen Q0 r))) (fun _ => tblW cI a F Q0 qa) := by
  refine CN.of (cc := cX2_countUpgrades) (maxL := 5) (ret := (some .int)) (by decide) rfl (Nat.le_of_ble_eq_true rfl) ?_
  intro p e s m args below meth c A Q hQ B hA H locs hP hK hD hS ls hl
  obtain ⟨hx, hb, hml, hrt, hts, hown, hlk⟩ := B
  have hl : lv_has ls 5 [(0, .ref (a 0)), (1, .int (nI r))] := hl
  have hq8 := JJ_len hJ hr
  have iX2 : ∀ w ∈ u_ws RX2 TX2 11, w ∈ wsX2_countUpgrades := by decide +kernel
  have f33 := hts (.fieldLink RX2 33 "LockManager$LockTable" "lengths" "[I") (by decide +kernel)
  have f30 := hts (.fieldLink RX2 30 "LockManager$LockTable" "queues" "[I") (by decide +kernel)
  have f27 := hts (.fieldLink RX2 27 "LockManager$LockTable" "locks" "[I") (by decide +kernel)
  refine lv_iconst (v := (nI 0)) hx hb dX2_countUpgrades_0 (by decide) ?_
  refine lv_istore_n (lv' := [(2, .int (nI 0)), (0, .ref (a 0)), (1, .int (nI r))]) hx hb dX2_countUpgrades_1 rfl hl (by decide) rfl (fun ls hl => ?_)
  refine lv_iconst (v := (nI 0)) hx hb dX2_countUpgrades_2 (by decide) ?_
  refine lv_istore_n (lv' := [(3, .int (nI 0)), (2, .int (nI 0)), (0, .ref (a 0)), (1, .int (nI r))]) hx hb dX2_countUpgrades_3 rfl hl (by decide) rfl (fun ls hl => ?_)
  have L4 : ∀ (N : Nat) (i : Nat), (i ≤ qlen Q0 r) → (8 - i) < N → ∀ (H : Heap) (locs : List Loc), va_P D vwCl ([(a 0, .inr (2, [.ref (a 1), .ref (a 2), .ref (a 3), .ref (a 4), .ref (a 5), .ref (a 6), .ref (a 7), .ref (a 8), .int (F 8 0), .int (F 8 1), .int (F 8 2)])), (a 1, .inl (cI, 8, .inl (F 0))), (a 2, .inl (cI, 8, .inl (F 1))), (a 3, .inl (cI, 8, .inl (F 2))), (a 4, .inl (cI, 8, .inl (F 3))), (a 5, .inl (cI, 8, .inl (F 4))), (a 6, .inl (cI, 80, .inl (F 5))), (a 7, .inl (cI, 80, .inl qa)), (a 8, .inl (cI, 10, .inl (fun z => nI ((qlen Q0) z))))]) H → va_D A ([(a 0, .inr (2, [.ref (a 1), .ref (a 2), .ref (a 3), .ref (a 4), .ref (a 5), .ref (a 6), .ref (a 7), .ref (a 8), .int (F 8 0), .int (F 8 1), .int (F 8 2)])), (a 1, .inl (cI, 8, .inl (F 0))), (a 2, .inl (cI, 8, .inl (F 1))), (a 3, .inl (cI, 8, .inl (F 2))), (a 4, .inl (cI, 8, .inl (F 3))), (a 5, .inl (cI, 8, .inl (F 4))), (a 6, .inl (cI, 80, .inl (F 5))), (a 7, .inl (cI, 80, .inl qa)), (a 8, .inl (cI, 10, .inl (fun z => nI ((qlen Q0) z))))]) → va_S A s.heap H locs → ∀ ls : Array Slot, lv_has ls 5 [(0, .ref (a 0)), (1, .int (nI r)), (2, .int (nI (cntU F (Q0 r) r i))), (3, .int (nI i))] → W p l e rX2_countUpgrades s m args below meth c H locs 0 0 Q (F0 m 4 ls []) := by
    intro N4
    induction N4 with
    | zero => intro i hi hN; exact absurd hN (Nat.not_lt_zero _)
    | succ N4 ih4 =>
      intro i hi hN H locs hP hD hS ls hl
      refine lv_iload_n hx hb dX2_countUpgrades_4 rfl (lv_at hl 3 rfl) ?_
      refine lv_aload_n hx hb dX2_countUpgrades_5 rfl (lv_at hl 0 rfl) ?_
      refine va_get (D := D) (ci := 2) (v := .ref (a 8)) (C := RX2) (T := TX2) (N := 11) hx hb hts iX2 hown hK hP 0 rfl rfl 7 (by decide) f33 (fun _ h9 => h9) rfl dX2_countUpgrades_6 ?_
      refine lv_iload_n hx hb dX2_countUpgrades_9 rfl (lv_at hl 1 rfl) ?_
      refine r_ild (k := r) hx hb hK hP 8 rfl (by omega) (by decide) dX2_countUpgrades_10 ?_
      refine tpe (y := (nI ((qlen Q0) r))) rfl ?_
      refine lv_icmp_ge (tgt := 52) hx hb dX2_countUpgrades_11 (by decide) (fun h_1 => ?_) (fun h_1 => ?_)
      · have h_1 := (nI_leI (a := ((qlen Q0) r)) (b := i) (by first | omega | exact bits_lt31 _ | exact bitN_lt _ _ | exact bool_lt _ | exact and_lt31 _ _ _ _ | exact Nat.lt_of_le_of_lt (dst_lt _ _ _ (by omega) _) (by decide) | exact Nat.lt_of_le_of_lt (nrB_le _ _ _ (by omega)).2 (by decide) | decide) (by first | omega | exact bits_lt31 _ | exact bitN_lt _ _ | exact bool_lt _ | exact and_lt31 _ _ _ _ | exact Nat.lt_of_le_of_lt (dst_lt _ _ _ (by omega) _) (by decide) | exact Nat.lt_of_le_of_lt (nrB_le _ _ _ (by omega)).2 (by decide) | decide)).mp h_1
        refine lv_iload_n hx hb dX2_countUpgrades_52 rfl (lv_at hl 2 rfl) ?_
        exact ret_i (u := ()) hQ hx hb hrt hlk hS dX2_countUpgrades_53 hP (by rw [show i = qlen Q0 r by omega])
      · have h_1 := mt (nI_leI (a := ((qlen Q0) r)) (b := i) (by first | omega | exact bits_lt31 _ | exact bitN_lt _ _ | exact bool_lt _ | exact and_lt31 _ _ _ _ | exact Nat.lt_of_le_of_lt (dst_lt _ _ _ (by omega) _) (by decide) | exact Nat.lt_of_le_of_lt (nrB_le _ _ _ (by omega)).2 (by decide) | decide) (by first | omega | exact bits_lt31 _ | exact bitN_lt _ _ | exact bool_lt _ | exact and_lt31 _ _ _ _ | exact Nat.lt_of_le_of_lt (dst_lt _ _ _ (by omega) _) (by decide) | exact Nat.lt_of_le_of_lt (nrB_le _ _ _ (by omega)).2 (by decide) | decide)).mpr h_1
        refine lv_aload_n hx hb dX2_countUpgrades_14 rfl (lv_at hl 0 rfl) ?_
        refine va_get (D := D) (ci := 2) (v := .ref (a 7)) (C := RX2) (T := TX2) (N := 11) hx hb hts iX2 hown hK hP 0 rfl rfl 6 (by decide) f30 (fun _ h9 => h9) rfl dX2_countUpgrades_15 ?_
        refine lv_iload_n hx hb dX2_countUpgrades_18 rfl (lv_at hl 1 rfl) ?_
        refine lv_bipush (v := (nI 8)) hx hb dX2_countUpgrades_19 (by decide) ?_
        refine lv_imul hx hb dX2_countUpgrades_21 ?_
        refine tpe (y := (nI (r * 8))) (pk_mul _ _) ?_
        refine lv_iload_n hx hb dX2_countUpgrades_22 rfl (lv_at hl 3 rfl) ?_
        refine lv_iadd hx hb dX2_countUpgrades_23 ?_
        refine tpe (y := (nI (r * 8 + i))) (nI_add _ _) ?_
        refine r_ild (k := (r * 8 + i)) hx hb hK hP 7 rfl (by omega) (by decide) dX2_countUpgrades_24 ?_
        obtain ⟨o, ho⟩ : ∃ z, z = (Q0 r).getD i 0 := ⟨_, rfl⟩
        have ho8 : o < 8 := by rw [ho]; exact JJ_mem hJ hr (by omega)
        refine tpe (y := nI o) (by rw [ho]; exact hRQ r hr i (by omega)) ?_
        refine lv_istore (lv' := [(4, .int (nI o)), (0, .ref (a 0)), (1, .int (nI r)), (2, .int (nI (cntU F (Q0 r) r i))), (3, .int (nI i))]) hx hb dX2_countUpgrades_25 hl (by decide) rfl (fun ls hl => ?_)
        refine lv_aload_n hx hb dX2_countUpgrades_27 rfl (lv_at hl 1 rfl) ?_
        refine va_get (D := D) (ci := 2) (v := .ref (a 6)) (C := RX2) (T := TX2) (N := 11) hx hb hts iX2 hown hK hP 0 rfl rfl 5 (by decide) f27 (fun _ h9 => h9) rfl dX2_countUpgrades_28 ?_
        refine lv_iload hx hb dX2_countUpgrades_31 (lv_at hl 0 rfl) ?_
        refine lv_bipush (v := (nI 10)) hx hb dX2_countUpgrades_33 (by decide) ?_
        refine lv_imul hx hb dX2_countUpgrades_35 ?_
        refine tpe (y := (nI (o * 10))) (pk_mul _ _) ?_
        refine lv_iload_n hx hb dX2_countUpgrades_36 rfl (lv_at hl 2 rfl) ?_
        refine lv_iadd hx hb dX2_countUpgrades_37 ?_
        refine tpe (y := (nI (o * 10 + r))) (nI_add _ _) ?_
        refine r_ild (k := (o * 10 + r)) hx hb hK hP 6 rfl (by omega) (by decide) dX2_countUpgrades_38 ?_
        refine lv_iconst (v := (nI 1)) hx hb dX2_countUpgrades_39 (by decide) ?_
        refine lv_icmp_ne (tgt := 46) hx hb dX2_countUpgrades_40 (by decide) (fun h_2 => ?_) (fun h_2 => ?_)
        · have h_2 := h_2
          refine lv_iinc (v := (nI (i + 1))) (lv' := [(3, .int (nI (i + 1))), (4, .int (nI o)), (0, .ref (a 0)), (1, .int (nI r)), (2, .int (nI (cntU F (Q0 r) r i)))]) hx hb dX2_countUpgrades_46 hl (k := 4) rfl (nI_add _ 1) (by decide) rfl (fun ls hl => ?_)
          refine lv_goto (tgt := 4) hx hb dX2_countUpgrades_49 (by decide) ?_
          rw [show (nI (cntU F (Q0 r) r i)) = (nI (cntU F (Q0 r) r (i + 1))) from (by rw [cntU, ← ho]; simp [lk, h_1, h_2])] at hl
          exact ih4 (i + 1) (by omega) (by omega) _ _ hP hD hS _ (lv_sub hl [2, 3, 4, 0] rfl)
        · have h_2 := h_2
          refine lv_iinc (v := (nI (cntU F (Q0 r) r i + 1))) (lv' := [(2, .int (nI (cntU F (Q0 r) r i + 1))), (4, .int (nI o)), (0, .ref (a 0)), (1, .int (nI r)), (3, .int (nI i))]) hx hb dX2_countUpgrades_43 hl (k := 3) rfl (nI_add _ 1) (by decide) rfl (fun ls hl => ?_)
          refine lv_iinc (v := (nI (i + 1))) (lv' := [(3, .int (nI (i + 1))), (2, .int (nI (cntU F (Q0 r) r i + 1))), (4, .int (nI o)), (0, .ref (a 0)), (1, .int (nI r))]) hx hb dX2_countUpgrades_46 hl (k := 4) rfl (nI_add _ 1) (by decide) rfl (fun ls hl => ?_)
          refine lv_goto (tgt := 4) hx hb dX2_countUpgrades_49 (by decide) ?_
          rw [show (nI (cntU F (Q0 r) r i + 1)) = (nI (cntU F (Q0 r) r (i + 1))) from (by rw [cntU, ← ho]; simp [lk, h_1, h_2])] at hl
          exact ih4 (i + 1) (by omega) (by omega) _ _ hP hD hS _ (lv_sub hl [3, 4, 1, 0] rfl)
  rw [show (nI 0) = (nI (cntU F (Q0 r) r 0)) from rfl] at hl
  exact L4 _ 0 (Nat.zero_le _) (Nat.lt_succ_self _) _ _ hP hD hS _ (lv_sub hl [2, 3, 1, 0] rfl)

