abbrev rX2_place : Room := { frames := 1, cells := 0, slots := 0, locals := 27 }
set_option maxHeartbeats 4000000 in
set_option maxRecDepth 100000 in
/-- place -/
theorem c_X2_place (l : Launch) (D : va_G) (cI cT : ClassId) (a : Nat → Nat) (F : FF) (Q0 : QQ) (qa : Nat → Int32) (t r : Nat) (mode : Int32) (ht : t < 8) (hr : r < 10) (h3 : F 3 t = -1) (hJ : JJ F Q0) (hRQ : RQ Q0 qa) : CN l D cI cT yX2_place wsX2_place rX2_place [.ref (a 0), .int (nI t), .int (nI r), .int mode] (tblW cI a F Q0 qa) (S := Nat → Int32) (fun v u => v = nI ((plW F Q0 t r mode).toNat) ∧ RQ (plQ F Q0 t r mode) u) (fun u => tblW cI a (plF F Q0 t r mode) (plQ F Q0 t r mode) u) := by
  refine CN.of (cc := cX2_place) (maxL := 8) (ret := (some .boolean)) (by decide) rfl (Nat.le_of_ble_eq_true rfl) ?_
  intro p e s m args below meth c A Q hQ B hA H locs hP hK hD hS ls hl
  obtain ⟨hx, hb, hml, hrt, hts, hown, hlk⟩ := B
  have hl : lv_has ls 8 [(0, .ref (a 0)), (1, .int (nI t)), (2, .int (nI r)), (3, .int mode)] := hl
  have hq8 := JJ_len hJ hr
  have h8 := JJ_room hJ ht h3 hr
  have iX2 : ∀ w ∈ u_ws RX2 TX2 11, w ∈ wsX2_place := by decide +kernel
  have f27 := hts (.fieldLink RX2 27 "LockManager$LockTable" "locks" "[I") (by decide +kernel)
  have f33 := hts (.fieldLink RX2 33 "LockManager$LockTable" "lengths" "[I") (by decide +kernel)
  have f24 := hts (.fieldLink RX2 24 "LockManager$LockTable" "wantedModes" "[I") (by decide +kernel)
  refine lv_aload_n hx hb dX2_place_0 rfl (lv_at hl 0 rfl) ?_
  refine va_get (D := D) (ci := 2) (v := .ref (a 6)) (C := RX2) (T := TX2) (N := 11) hx hb hts iX2 hown hK hP 0 rfl rfl 5 (by decide) f27 (fun _ h9 => h9) rfl dX2_place_1 ?_
  refine lv_iload_n hx hb dX2_place_4 rfl (lv_at hl 1 rfl) ?_
  refine lv_bipush (v := (nI 10)) hx hb dX2_place_5 (by decide) ?_
  refine lv_imul hx hb dX2_place_7 ?_
  refine tpe (y := (nI (t * 10))) (pk_mul _ _) ?_
  refine lv_iload_n hx hb dX2_place_8 rfl (lv_at hl 2 rfl) ?_
  refine lv_iadd hx hb dX2_place_9 ?_
  refine tpe (y := (nI (t * 10 + r))) (nI_add _ _) ?_
  refine r_ild (k := (t * 10 + r)) hx hb hK hP 6 rfl (by omega) (by decide) dX2_place_10 ?_
  refine lv_istore (lv' := [(4, .int ((F 5) (t * 10 + r))), (0, .ref (a 0)), (1, .int (nI t)), (2, .int (nI r)), (3, .int mode)]) hx hb dX2_place_11 hl (by decide) rfl (fun ls hl => ?_)
  refine lv_iload hx hb dX2_place_13 (lv_at hl 0 rfl) ?_
  refine lv_iload_n hx hb dX2_place_15 rfl (lv_at hl 4 rfl) ?_
  refine lv_icmp_eq (tgt := 25) hx hb dX2_place_16 (by decide) (fun h_1 => ?_) (fun h_1 => ?_)
  · have h_1 := h_1
    refine lv_iconst (v := (nI 0)) hx hb dX2_place_25 (by decide) ?_
    have es : plS F t r mode = true := by simp [plS, lk, nI_0, nI1_0, nI2_0, nI1_2, nI2_1, n0_1, n0_2, h_1]
    exact ret_z (u := qa) hQ hx hb hrt hlk hS dX2_place_26 (by decide) (by rw [(pl_same (Q := Q0) es).1, (pl_same es).2.1]; exact hP) (by rw [(pl_same es).2.2, (pl_same es).2.1]; exact ⟨rfl, hRQ⟩)
  · have h_1 := h_1
    refine lv_iload hx hb dX2_place_19 (lv_at hl 0 rfl) ?_
    refine lv_iconst (v := (nI 2)) hx hb dX2_place_21 (by decide) ?_
    refine lv_icmp_ne (tgt := 27) hx hb dX2_place_22 (by decide) (fun h_2 => ?_) (fun h_2 => ?_)
    · have h_2 := h_2
      refine lv_iload hx hb dX2_place_27 (lv_at hl 0 rfl) ?_
      refine lv_iconst (v := (nI 1)) hx hb dX2_place_29 (by decide) ?_
      refine lv_icmp_ne (tgt := 37) hx hb dX2_place_30 (by decide) (fun h_3 => ?_) (fun h_3 => ?_)
      · have h_3 := h_3
        refine lv_iconst (v := (nI 0)) hx hb dX2_place_37 (by decide) ?_
        refine lv_istore (lv' := [(5, .int (nI 0)), (4, .int ((F 5) (t * 10 + r))), (0, .ref (a 0)), (1, .int (nI t)), (2, .int (nI r)), (3, .int mode)]) hx hb dX2_place_38 hl (by decide) rfl (fun ls hl => ?_)
        refine lv_iload hx hb dX2_place_40 (lv_at hl 0 rfl) ?_
        refine lv_if_ne (tgt := 54) hx hb dX2_place_42 (by decide) (fun h => absurd (by decide) h) (fun _ => ?_)
        refine lv_aload_n hx hb dX2_place_45 rfl (lv_at hl 2 rfl) ?_
        refine va_get (D := D) (ci := 2) (v := .ref (a 8)) (C := RX2) (T := TX2) (N := 11) hx hb hts iX2 hown hK hP 0 rfl rfl 7 (by decide) f33 (fun _ h9 => h9) rfl dX2_place_46 ?_
        refine lv_iload_n hx hb dX2_place_49 rfl (lv_at hl 4 rfl) ?_
        refine r_ild (k := r) hx hb hK hP 8 rfl (by omega) (by decide) dX2_place_50 ?_
        refine tpe (y := (nI ((qlen Q0) r))) rfl ?_
        refine lv_if_ne (tgt := 58) hx hb dX2_place_51 (by decide) (fun h_4 => ?_) (fun h_4 => ?_)
        · have h_4 := mt (nI_eq (a := ((qlen Q0) r)) (b := 0) (by first | omega | exact bits_lt31 _ | exact bitN_lt _ _ | exact bool_lt _ | exact and_lt31 _ _ _ _ | exact Nat.lt_of_le_of_lt (dst_lt _ _ _ (by omega) _) (by decide) | exact Nat.lt_of_le_of_lt (nrB_le _ _ _ (by omega)).2 (by decide) | decide) (by first | omega | exact bits_lt31 _ | exact bitN_lt _ _ | exact bool_lt _ | exact and_lt31 _ _ _ _ | exact Nat.lt_of_le_of_lt (dst_lt _ _ _ (by omega) _) (by decide) | exact Nat.lt_of_le_of_lt (nrB_le _ _ _ (by omega)).2 (by decide) | decide)).mpr h_4
          refine lv_iconst (v := (nI 0)) hx hb dX2_place_58 (by decide) ?_
          refine lv_istore (lv' := [(6, .int (nI 0)), (5, .int (nI 0)), (4, .int ((F 5) (t * 10 + r))), (0, .ref (a 0)), (1, .int (nI t)), (2, .int (nI r)), (3, .int mode)]) hx hb dX2_place_59 hl (by decide) rfl (fun ls hl => ?_)
          refine lv_iload hx hb dX2_place_61 (lv_at hl 0 rfl) ?_
          refine lv_if_eq (tgt := 85) hx hb dX2_place_63 (by decide) (fun _ => ?_) (fun h => absurd (by decide) h)
          refine lv_iload hx hb dX2_place_85 (lv_at hl 1 rfl) ?_
          refine lv_if_eq (tgt := 98) hx hb dX2_place_87 (by decide) (fun _ => ?_) (fun h => absurd (by decide) h)
          refine lv_aload_n hx hb dX2_place_98 rfl (lv_at hl 3 rfl) ?_
          refine va_get (D := D) (ci := 2) (v := .ref (a 8)) (C := RX2) (T := TX2) (N := 11) hx hb hts iX2 hown hK hP 0 rfl rfl 7 (by decide) f33 (fun _ h9 => h9) rfl dX2_place_99 ?_
          refine lv_iload_n hx hb dX2_place_102 rfl (lv_at hl 5 rfl) ?_
          refine r_ild (k := r) hx hb hK hP 8 rfl (by omega) (by decide) dX2_place_103 ?_
          refine tpe (y := (nI ((qlen Q0) r))) rfl ?_
          refine lv_istore (lv' := [(7, .int (nI ((qlen Q0) r))), (6, .int (nI 0)), (5, .int (nI 0)), (4, .int ((F 5) (t * 10 + r))), (0, .ref (a 0)), (1, .int (nI t)), (2, .int (nI r)), (3, .int mode)]) hx hb dX2_place_104 hl (by decide) rfl (fun ls hl => ?_)
          refine lv_aload_n hx hb dX2_place_106 rfl (lv_at hl 4 rfl) ?_
          refine lv_iload_n hx hb dX2_place_107 rfl (lv_at hl 5 rfl) ?_
          refine lv_iload_n hx hb dX2_place_108 rfl (lv_at hl 6 rfl) ?_
          refine lv_iload hx hb dX2_place_109 (lv_at hl 0 rfl) ?_
          refine call_v (X := []) (Z := []) (As := [.int (nI t), .int (nI r), .int (nI ((qlen Q0) r))]) (rest := []) ⟨hx, hb, hml, hown, hts⟩ (c_X2_insertRequest l D cI cT a F Q0 qa t r ((qlen Q0) r) (by omega) (by omega) (Nat.le_refl _) h8 hJ hRQ) (cwV 3 hts gX2_place_X2_insertRequest rfl rfl rfl (by decide +kernel) ⟨Nat.le_of_ble_eq_true rfl, Nat.le_of_ble_eq_true rfl⟩) hK hP hD hS hA (va_recv hK hP (ci := 2) (q0 := 0) rfl rfl) (fun _ => adr_tbl.trans adr_tbl.symm) rfl hl.1 rfl (Nat.le_of_ble_eq_true rfl) ⟨Nat.zero_le _, Nat.zero_le _⟩ dX2_place_111 (fun qa11 H locs hp hP hD hS => ?_)
          have hR11 := hp
          have hP : va_P D vwCl ([(a 0, .inr (2, [.ref (a 1), .ref (a 2), .ref (a 3), .ref (a 4), .ref (a 5), .ref (a 6), .ref (a 7), .ref (a 8), .int ((up F 3 t (nI r)) 8 0), .int ((up F 3 t (nI r)) 8 1), .int ((up F 3 t (nI r)) 8 2)])), (a 1, .inl (cI, 8, .inl ((up F 3 t (nI r)) 0))), (a 2, .inl (cI, 8, .inl ((up F 3 t (nI r)) 1))), (a 3, .inl (cI, 8, .inl ((up F 3 t (nI r)) 2))), (a 4, .inl (cI, 8, .inl ((up F 3 t (nI r)) 3))), (a 5, .inl (cI, 8, .inl ((up F 3 t (nI r)) 4))), (a 6, .inl (cI, 80, .inl ((up F 3 t (nI r)) 5))), (a 7, .inl (cI, 80, .inl qa11)), (a 8, .inl (cI, 10, .inl (fun z => nI ((qlen (updQ Q0 r (insQ (Q0 r) ((qlen Q0) r) t))) z))))]) H := hP
          have hD : va_D A ([(a 0, .inr (2, [.ref (a 1), .ref (a 2), .ref (a 3), .ref (a 4), .ref (a 5), .ref (a 6), .ref (a 7), .ref (a 8), .int ((up F 3 t (nI r)) 8 0), .int ((up F 3 t (nI r)) 8 1), .int ((up F 3 t (nI r)) 8 2)])), (a 1, .inl (cI, 8, .inl ((up F 3 t (nI r)) 0))), (a 2, .inl (cI, 8, .inl ((up F 3 t (nI r)) 1))), (a 3, .inl (cI, 8, .inl ((up F 3 t (nI r)) 2))), (a 4, .inl (cI, 8, .inl ((up F 3 t (nI r)) 3))), (a 5, .inl (cI, 8, .inl ((up F 3 t (nI r)) 4))), (a 6, .inl (cI, 80, .inl ((up F 3 t (nI r)) 5))), (a 7, .inl (cI, 80, .inl qa11)), (a 8, .inl (cI, 10, .inl (fun z => nI ((qlen (updQ Q0 r (insQ (Q0 r) ((qlen Q0) r) t))) z))))]) := hD
          refine lv_aload_n hx hb dX2_place_114 rfl (lv_at hl 4 rfl) ?_
          refine va_get (D := D) (ci := 2) (v := .ref (a 5)) (C := RX2) (T := TX2) (N := 11) hx hb hts iX2 hown hK hP 0 rfl rfl 4 (by decide) f24 (fun _ h9 => h9) rfl dX2_place_115 ?_
          refine lv_iload_n hx hb dX2_place_118 rfl (lv_at hl 5 rfl) ?_
          refine lv_iload_n hx hb dX2_place_119 rfl (lv_at hl 7 rfl) ?_
          refine r_ist (k := t) hx hb hK hP hD hS 5 rfl (by omega) (by decide) dX2_place_120 (fun H locs hP hD hS => ?_)
          have hP : va_P D vwCl ([(a 0, .inr (2, [.ref (a 1), .ref (a 2), .ref (a 3), .ref (a 4), .ref (a 5), .ref (a 6), .ref (a 7), .ref (a 8), .int ((up F 3 t (nI r)) 8 0), .int ((up F 3 t (nI r)) 8 1), .int ((up F 3 t (nI r)) 8 2)])), (a 1, .inl (cI, 8, .inl ((up F 3 t (nI r)) 0))), (a 2, .inl (cI, 8, .inl ((up F 3 t (nI r)) 1))), (a 3, .inl (cI, 8, .inl ((up F 3 t (nI r)) 2))), (a 4, .inl (cI, 8, .inl ((up F 3 t (nI r)) 3))), (a 5, .inl (cI, 8, .inl (upd ((up F 3 t (nI r)) 4) t mode))), (a 6, .inl (cI, 80, .inl ((up F 3 t (nI r)) 5))), (a 7, .inl (cI, 80, .inl qa11)), (a 8, .inl (cI, 10, .inl (fun z => nI ((qlen (updQ Q0 r (insQ (Q0 r) ((qlen Q0) r) t))) z))))]) H := hP
          have hD : va_D A ([(a 0, .inr (2, [.ref (a 1), .ref (a 2), .ref (a 3), .ref (a 4), .ref (a 5), .ref (a 6), .ref (a 7), .ref (a 8), .int ((up F 3 t (nI r)) 8 0), .int ((up F 3 t (nI r)) 8 1), .int ((up F 3 t (nI r)) 8 2)])), (a 1, .inl (cI, 8, .inl ((up F 3 t (nI r)) 0))), (a 2, .inl (cI, 8, .inl ((up F 3 t (nI r)) 1))), (a 3, .inl (cI, 8, .inl ((up F 3 t (nI r)) 2))), (a 4, .inl (cI, 8, .inl ((up F 3 t (nI r)) 3))), (a 5, .inl (cI, 8, .inl (upd ((up F 3 t (nI r)) 4) t mode))), (a 6, .inl (cI, 80, .inl ((up F 3 t (nI r)) 5))), (a 7, .inl (cI, 80, .inl qa11)), (a 8, .inl (cI, 10, .inl (fun z => nI ((qlen (updQ Q0 r (insQ (Q0 r) ((qlen Q0) r) t))) z))))]) := hD
          refine lv_iconst (v := (nI 1)) hx hb dX2_place_121 (by decide) ?_
          have es : plS F t r mode = false := by simp [plS, lk, nI_0, nI1_0, nI2_0, nI1_2, nI2_1, n0_1, n0_2, h_1, h_2, h_3]
          have eg : plG F Q0 t r mode = false := by simp [plG, lk, nI_0, nI1_0, nI2_0, nI1_2, nI2_1, n0_1, n0_2, h_1, h_2, h_3, h_4]
          have en : insN F Q0 t r = qlen Q0 r := by simp [insN, lk, nI_0, nI1_0, nI2_0, nI1_2, nI2_1, n0_1, n0_2, h_1, h_2, h_3]
          exact ret_z (u := qa11) hQ hx hb hrt hlk hS dX2_place_122 (by decide) (by rw [(pl_wait es eg).1, (pl_wait es eg).2.1, en]; exact hP) (by rw [(pl_wait es eg).2.2, (pl_wait es eg).2.1, en]; exact ⟨rfl, hR11⟩)
        · have h_4 := (nI_eq (a := ((qlen Q0) r)) (b := 0) (by first | omega | exact bits_lt31 _ | exact bitN_lt _ _ | exact bool_lt _ | exact and_lt31 _ _ _ _ | exact Nat.lt_of_le_of_lt (dst_lt _ _ _ (by omega) _) (by decide) | exact Nat.lt_of_le_of_lt (nrB_le _ _ _ (by omega)).2 (by decide) | decide) (by first | omega | exact bits_lt31 _ | exact bitN_lt _ _ | exact bool_lt _ | exact and_lt31 _ _ _ _ | exact Nat.lt_of_le_of_lt (dst_lt _ _ _ (by omega) _) (by decide) | exact Nat.lt_of_le_of_lt (nrB_le _ _ _ (by omega)).2 (by decide) | decide)).mp h_4
          refine lv_iconst (v := (nI 1)) hx hb dX2_place_54 (by decide) ?_
          refine lv_goto (tgt := 59) hx hb dX2_place_55 (by decide) ?_
          refine lv_istore (lv' := [(6, .int (nI 1)), (5, .int (nI 0)), (4, .int ((F 5) (t * 10 + r))), (0, .ref (a 0)), (1, .int (nI t)), (2, .int (nI r)), (3, .int mode)]) hx hb dX2_place_59 hl (by decide) rfl (fun ls hl => ?_)
          refine lv_iload hx hb dX2_place_61 (lv_at hl 0 rfl) ?_
          refine lv_if_eq (tgt := 85) hx hb dX2_place_63 (by decide) (fun h => absurd h (by decide)) (fun _ => ?_)
          refine lv_aload_n hx hb dX2_place_66 rfl (lv_at hl 3 rfl) ?_
          refine lv_iload_n hx hb dX2_place_67 rfl (lv_at hl 4 rfl) ?_
          refine lv_iload_n hx hb dX2_place_68 rfl (lv_at hl 5 rfl) ?_
          refine lv_iload_n hx hb dX2_place_69 rfl (lv_at hl 6 rfl) ?_
          refine call_i (X := []) (Z := []) (As := [.int (nI t), .int (nI r), .int mode]) (rest := []) ⟨hx, hb, hml, hown, hts⟩ (c_X2_rivalHolders l D cI cT a F Q0 qa t r mode (by omega) (by omega)) (cwV 3 hts gX2_place_X2_rivalHolders rfl rfl rfl (by decide +kernel) ⟨Nat.le_of_ble_eq_true rfl, Nat.le_of_ble_eq_true rfl⟩) hK hP hD hS hA (va_recv hK hP (ci := 2) (q0 := 0) rfl rfl) (fun _ => rfl) rfl hl.1 rfl (Nat.le_of_ble_eq_true rfl) ⟨Nat.zero_le _, Nat.zero_le _⟩ dX2_place_70 (fun rv u H locs hp hP hD hS => ?_)
          obtain rfl := hp
          have hP : va_P D vwCl ([(a 0, .inr (2, [.ref (a 1), .ref (a 2), .ref (a 3), .ref (a 4), .ref (a 5), .ref (a 6), .ref (a 7), .ref (a 8), .int (F 8 0), .int (F 8 1), .int (F 8 2)])), (a 1, .inl (cI, 8, .inl (F 0))), (a 2, .inl (cI, 8, .inl (F 1))), (a 3, .inl (cI, 8, .inl (F 2))), (a 4, .inl (cI, 8, .inl (F 3))), (a 5, .inl (cI, 8, .inl (F 4))), (a 6, .inl (cI, 80, .inl (F 5))), (a 7, .inl (cI, 80, .inl qa)), (a 8, .inl (cI, 10, .inl (fun z => nI ((qlen Q0) z))))]) H := hP
          have hD : va_D A ([(a 0, .inr (2, [.ref (a 1), .ref (a 2), .ref (a 3), .ref (a 4), .ref (a 5), .ref (a 6), .ref (a 7), .ref (a 8), .int (F 8 0), .int (F 8 1), .int (F 8 2)])), (a 1, .inl (cI, 8, .inl (F 0))), (a 2, .inl (cI, 8, .inl (F 1))), (a 3, .inl (cI, 8, .inl (F 2))), (a 4, .inl (cI, 8, .inl (F 3))), (a 5, .inl (cI, 8, .inl (F 4))), (a 6, .inl (cI, 80, .inl (F 5))), (a 7, .inl (cI, 80, .inl qa)), (a 8, .inl (cI, 10, .inl (fun z => nI ((qlen Q0) z))))]) := hD
          refine lv_if_ne (tgt := 85) hx hb dX2_place_73 (by decide) (fun h_5 => ?_) (fun h_5 => ?_)
          · have h_5 := mt (nI_eq (a := (bits (rivB F t r mode) 8)) (b := 0) (by first | omega | exact bits_lt31 _ | exact bitN_lt _ _ | exact bool_lt _ | exact and_lt31 _ _ _ _ | exact Nat.lt_of_le_of_lt (dst_lt _ _ _ (by omega) _) (by decide) | exact Nat.lt_of_le_of_lt (nrB_le _ _ _ (by omega)).2 (by decide) | decide) (by first | omega | exact bits_lt31 _ | exact bitN_lt _ _ | exact bool_lt _ | exact and_lt31 _ _ _ _ | exact Nat.lt_of_le_of_lt (dst_lt _ _ _ (by omega) _) (by decide) | exact Nat.lt_of_le_of_lt (nrB_le _ _ _ (by omega)).2 (by decide) | decide)).mpr h_5
            refine lv_iload hx hb dX2_place_85 (lv_at hl 1 rfl) ?_
            refine lv_if_eq (tgt := 98) hx hb dX2_place_87 (by decide) (fun _ => ?_) (fun h => absurd (by decide) h)
            refine lv_aload_n hx hb dX2_place_98 rfl (lv_at hl 3 rfl) ?_
            refine va_get (D := D) (ci := 2) (v := .ref (a 8)) (C := RX2) (T := TX2) (N := 11) hx hb hts iX2 hown hK hP 0 rfl rfl 7 (by decide) f33 (fun _ h9 => h9) rfl dX2_place_99 ?_
            refine lv_iload_n hx hb dX2_place_102 rfl (lv_at hl 5 rfl) ?_
            refine r_ild (k := r) hx hb hK hP 8 rfl (by omega) (by decide) dX2_place_103 ?_
            refine tpe (y := (nI ((qlen Q0) r))) rfl ?_
            refine lv_istore (lv' := [(7, .int (nI ((qlen Q0) r))), (6, .int (nI 1)), (5, .int (nI 0)), (4, .int ((F 5) (t * 10 + r))), (0, .ref (a 0)), (1, .int (nI t)), (2, .int (nI r)), (3, .int mode)]) hx hb dX2_place_104 hl (by decide) rfl (fun ls hl => ?_)
            refine lv_aload_n hx hb dX2_place_106 rfl (lv_at hl 4 rfl) ?_
            refine lv_iload_n hx hb dX2_place_107 rfl (lv_at hl 5 rfl) ?_
            refine lv_iload_n hx hb dX2_place_108 rfl (lv_at hl 6 rfl) ?_
            refine lv_iload hx hb dX2_place_109 (lv_at hl 0 rfl) ?_
            refine call_v (X := []) (Z := []) (As := [.int (nI t), .int (nI r), .int (nI ((qlen Q0) r))]) (rest := []) ⟨hx, hb, hml, hown, hts⟩ (c_X2_insertRequest l D cI cT a F Q0 qa t r ((qlen Q0) r) (by omega) (by omega) (Nat.le_refl _) h8 hJ hRQ) (cwV 3 hts gX2_place_X2_insertRequest rfl rfl rfl (by decide +kernel) ⟨Nat.le_of_ble_eq_true rfl, Nat.le_of_ble_eq_true rfl⟩) hK hP hD hS hA (va_recv hK hP (ci := 2) (q0 := 0) rfl rfl) (fun _ => adr_tbl.trans adr_tbl.symm) rfl hl.1 rfl (Nat.le_of_ble_eq_true rfl) ⟨Nat.zero_le _, Nat.zero_le _⟩ dX2_place_111 (fun qa12 H locs hp hP hD hS => ?_)
            have hR12 := hp
            have hP : va_P D vwCl ([(a 0, .inr (2, [.ref (a 1), .ref (a 2), .ref (a 3), .ref (a 4), .ref (a 5), .ref (a 6), .ref (a 7), .ref (a 8), .int ((up F 3 t (nI r)) 8 0), .int ((up F 3 t (nI r)) 8 1), .int ((up F 3 t (nI r)) 8 2)])), (a 1, .inl (cI, 8, .inl ((up F 3 t (nI r)) 0))), (a 2, .inl (cI, 8, .inl ((up F 3 t (nI r)) 1))), (a 3, .inl (cI, 8, .inl ((up F 3 t (nI r)) 2))), (a 4, .inl (cI, 8, .inl ((up F 3 t (nI r)) 3))), (a 5, .inl (cI, 8, .inl ((up F 3 t (nI r)) 4))), (a 6, .inl (cI, 80, .inl ((up F 3 t (nI r)) 5))), (a 7, .inl (cI, 80, .inl qa12)), (a 8, .inl (cI, 10, .inl (fun z => nI ((qlen (updQ Q0 r (insQ (Q0 r) ((qlen Q0) r) t))) z))))]) H := hP
            have hD : va_D A ([(a 0, .inr (2, [.ref (a 1), .ref (a 2), .ref (a 3), .ref (a 4), .ref (a 5), .ref (a 6), .ref (a 7), .ref (a 8), .int ((up F 3 t (nI r)) 8 0), .int ((up F 3 t (nI r)) 8 1), .int ((up F 3 t (nI r)) 8 2)])), (a 1, .inl (cI, 8, .inl ((up F 3 t (nI r)) 0))), (a 2, .inl (cI, 8, .inl ((up F 3 t (nI r)) 1))), (a 3, .inl (cI, 8, .inl ((up F 3 t (nI r)) 2))), (a 4, .inl (cI, 8, .inl ((up F 3 t (nI r)) 3))), (a 5, .inl (cI, 8, .inl ((up F 3 t (nI r)) 4))), (a 6, .inl (cI, 80, .inl ((up F 3 t (nI r)) 5))), (a 7, .inl (cI, 80, .inl qa12)), (a 8, .inl (cI, 10, .inl (fun z => nI ((qlen (updQ Q0 r (insQ (Q0 r) ((qlen Q0) r) t))) z))))]) := hD
            refine lv_aload_n hx hb dX2_place_114 rfl (lv_at hl 4 rfl) ?_
            refine va_get (D := D) (ci := 2) (v := .ref (a 5)) (C := RX2) (T := TX2) (N := 11) hx hb hts iX2 hown hK hP 0 rfl rfl 4 (by decide) f24 (fun _ h9 => h9) rfl dX2_place_115 ?_
            refine lv_iload_n hx hb dX2_place_118 rfl (lv_at hl 5 rfl) ?_
            refine lv_iload_n hx hb dX2_place_119 rfl (lv_at hl 7 rfl) ?_
            refine r_ist (k := t) hx hb hK hP hD hS 5 rfl (by omega) (by decide) dX2_place_120 (fun H locs hP hD hS => ?_)
            have hP : va_P D vwCl ([(a 0, .inr (2, [.ref (a 1), .ref (a 2), .ref (a 3), .ref (a 4), .ref (a 5), .ref (a 6), .ref (a 7), .ref (a 8), .int ((up F 3 t (nI r)) 8 0), .int ((up F 3 t (nI r)) 8 1), .int ((up F 3 t (nI r)) 8 2)])), (a 1, .inl (cI, 8, .inl ((up F 3 t (nI r)) 0))), (a 2, .inl (cI, 8, .inl ((up F 3 t (nI r)) 1))), (a 3, .inl (cI, 8, .inl ((up F 3 t (nI r)) 2))), (a 4, .inl (cI, 8, .inl ((up F 3 t (nI r)) 3))), (a 5, .inl (cI, 8, .inl (upd ((up F 3 t (nI r)) 4) t mode))), (a 6, .inl (cI, 80, .inl ((up F 3 t (nI r)) 5))), (a 7, .inl (cI, 80, .inl qa12)), (a 8, .inl (cI, 10, .inl (fun z => nI ((qlen (updQ Q0 r (insQ (Q0 r) ((qlen Q0) r) t))) z))))]) H := hP
            have hD : va_D A ([(a 0, .inr (2, [.ref (a 1), .ref (a 2), .ref (a 3), .ref (a 4), .ref (a 5), .ref (a 6), .ref (a 7), .ref (a 8), .int ((up F 3 t (nI r)) 8 0), .int ((up F 3 t (nI r)) 8 1), .int ((up F 3 t (nI r)) 8 2)])), (a 1, .inl (cI, 8, .inl ((up F 3 t (nI r)) 0))), (a 2, .inl (cI, 8, .inl ((up F 3 t (nI r)) 1))), (a 3, .inl (cI, 8, .inl ((up F 3 t (nI r)) 2))), (a 4, .inl (cI, 8, .inl ((up F 3 t (nI r)) 3))), (a 5, .inl (cI, 8, .inl (upd ((up F 3 t (nI r)) 4) t mode))), (a 6, .inl (cI, 80, .inl ((up F 3 t (nI r)) 5))), (a 7, .inl (cI, 80, .inl qa12)), (a 8, .inl (cI, 10, .inl (fun z => nI ((qlen (updQ Q0 r (insQ (Q0 r) ((qlen Q0) r) t))) z))))]) := hD
            refine lv_iconst (v := (nI 1)) hx hb dX2_place_121 (by decide) ?_
            have es : plS F t r mode = false := by simp [plS, lk, nI_0, nI1_0, nI2_0, nI1_2, nI2_1, n0_1, n0_2, h_1, h_2, h_3]
            have eg : plG F Q0 t r mode = false := by simp [plG, lk, nI_0, nI1_0, nI2_0, nI1_2, nI2_1, n0_1, n0_2, h_1, h_2, h_3, h_4, h_5]
            have en : insN F Q0 t r = qlen Q0 r := by simp [insN, lk, nI_0, nI1_0, nI2_0, nI1_2, nI2_1, n0_1, n0_2, h_1, h_2, h_3]
            exact ret_z (u := qa12) hQ hx hb hrt hlk hS dX2_place_122 (by decide) (by rw [(pl_wait es eg).1, (pl_wait es eg).2.1, en]; exact hP) (by rw [(pl_wait es eg).2.2, (pl_wait es eg).2.1, en]; exact ⟨rfl, hR12⟩)
          · have h_5 := (nI_eq (a := (bits (rivB F t r mode) 8)) (b := 0) (by first | omega | exact bits_lt31 _ | exact bitN_lt _ _ | exact bool_lt _ | exact and_lt31 _ _ _ _ | exact Nat.lt_of_le_of_lt (dst_lt _ _ _ (by omega) _) (by decide) | exact Nat.lt_of_le_of_lt (nrB_le _ _ _ (by omega)).2 (by decide) | decide) (by first | omega | exact bits_lt31 _ | exact bitN_lt _ _ | exact bool_lt _ | exact and_lt31 _ _ _ _ | exact Nat.lt_of_le_of_lt (dst_lt _ _ _ (by omega) _) (by decide) | exact Nat.lt_of_le_of_lt (nrB_le _ _ _ (by omega)).2 (by decide) | decide)).mp h_5
            refine lv_aload_n hx hb dX2_place_76 rfl (lv_at hl 3 rfl) ?_
            refine lv_iload_n hx hb dX2_place_77 rfl (lv_at hl 4 rfl) ?_
            refine lv_iload_n hx hb dX2_place_78 rfl (lv_at hl 5 rfl) ?_
            refine lv_iload_n hx hb dX2_place_79 rfl (lv_at hl 6 rfl) ?_
            refine call_v (X := []) (Z := []) (As := [.int (nI t), .int (nI r), .int mode]) (rest := []) ⟨hx, hb, hml, hown, hts⟩ (c_X2_grant l D cI cT a F Q0 qa t r mode (by omega) (by omega)) (cwV 3 hts gX2_place_X2_grant rfl rfl rfl (by decide +kernel) ⟨Nat.le_of_ble_eq_true rfl, Nat.le_of_ble_eq_true rfl⟩) hK hP hD hS hA (va_recv hK hP (ci := 2) (q0 := 0) rfl rfl) (fun _ => adr_tbl.trans adr_tbl.symm) rfl hl.1 rfl (Nat.le_of_ble_eq_true rfl) ⟨Nat.zero_le _, Nat.zero_le _⟩ dX2_place_80 (fun u H locs hp hP hD hS => ?_)
            have hP : va_P D vwCl ([(a 0, .inr (2, [.ref (a 1), .ref (a 2), .ref (a 3), .ref (a 4), .ref (a 5), .ref (a 6), .ref (a 7), .ref (a 8), .int ((grF F t r mode) 8 0), .int ((grF F t r mode) 8 1), .int ((grF F t r mode) 8 2)])), (a 1, .inl (cI, 8, .inl ((grF F t r mode) 0))), (a 2, .inl (cI, 8, .inl ((grF F t r mode) 1))), (a 3, .inl (cI, 8, .inl ((grF F t r mode) 2))), (a 4, .inl (cI, 8, .inl ((grF F t r mode) 3))), (a 5, .inl (cI, 8, .inl ((grF F t r mode) 4))), (a 6, .inl (cI, 80, .inl ((grF F t r mode) 5))), (a 7, .inl (cI, 80, .inl qa)), (a 8, .inl (cI, 10, .inl (fun z => nI ((qlen Q0) z))))]) H := hP
            have hD : va_D A ([(a 0, .inr (2, [.ref (a 1), .ref (a 2), .ref (a 3), .ref (a 4), .ref (a 5), .ref (a 6), .ref (a 7), .ref (a 8), .int ((grF F t r mode) 8 0), .int ((grF F t r mode) 8 1), .int ((grF F t r mode) 8 2)])), (a 1, .inl (cI, 8, .inl ((grF F t r mode) 0))), (a 2, .inl (cI, 8, .inl ((grF F t r mode) 1))), (a 3, .inl (cI, 8, .inl ((grF F t r mode) 2))), (a 4, .inl (cI, 8, .inl ((grF F t r mode) 3))), (a 5, .inl (cI, 8, .inl ((grF F t r mode) 4))), (a 6, .inl (cI, 80, .inl ((grF F t r mode) 5))), (a 7, .inl (cI, 80, .inl qa)), (a 8, .inl (cI, 10, .inl (fun z => nI ((qlen Q0) z))))]) := hD
            refine lv_iconst (v := (nI 0)) hx hb dX2_place_83 (by decide) ?_
            have es : plS F t r mode = false := by simp [plS, lk, nI_0, nI1_0, nI2_0, nI1_2, nI2_1, n0_1, n0_2, h_1, h_2, h_3]
            have eg : plG F Q0 t r mode = true := by simp [plG, lk, nI_0, nI1_0, nI2_0, nI1_2, nI2_1, n0_1, n0_2, h_1, h_2, h_3, h_4, h_5]
            exact ret_z (u := qa) hQ hx hb hrt hlk hS dX2_place_84 (by decide) (by rw [(pl_gr es eg).1, (pl_gr es eg).2.1]; exact hP) (by rw [(pl_gr es eg).2.2, (pl_gr es eg).2.1]; exact ⟨rfl, hRQ⟩)
      · have h_3 := h_3
        refine lv_iconst (v := (nI 1)) hx hb dX2_place_33 (by decide) ?_
        refine lv_goto (tgt := 38) hx hb dX2_place_34 (by decide) ?_
        refine lv_istore (lv' := [(5, .int (nI 1)), (4, .int ((F 5) (t * 10 + r))), (0, .ref (a 0)), (1, .int (nI t)), (2, .int (nI r)), (3, .int mode)]) hx hb dX2_place_38 hl (by decide) rfl (fun ls hl => ?_)
        refine lv_iload hx hb dX2_place_40 (lv_at hl 0 rfl) ?_
        refine lv_if_ne (tgt := 54) hx hb dX2_place_42 (by decide) (fun _ => ?_) (fun h => absurd h (by decide))
        refine lv_iconst (v := (nI 1)) hx hb dX2_place_54 (by decide) ?_
        refine lv_goto (tgt := 59) hx hb dX2_place_55 (by decide) ?_
        refine lv_istore (lv' := [(6, .int (nI 1)), (5, .int (nI 1)), (4, .int ((F 5) (t * 10 + r))), (0, .ref (a 0)), (1, .int (nI t)), (2, .int (nI r)), (3, .int mode)]) hx hb dX2_place_59 hl (by decide) rfl (fun ls hl => ?_)
        refine lv_iload hx hb dX2_place_61 (lv_at hl 0 rfl) ?_
        refine lv_if_eq (tgt := 85) hx hb dX2_place_63 (by decide) (fun h => absurd h (by decide)) (fun _ => ?_)
        refine lv_aload_n hx hb dX2_place_66 rfl (lv_at hl 3 rfl) ?_
        refine lv_iload_n hx hb dX2_place_67 rfl (lv_at hl 4 rfl) ?_
        refine lv_iload_n hx hb dX2_place_68 rfl (lv_at hl 5 rfl) ?_
        refine lv_iload_n hx hb dX2_place_69 rfl (lv_at hl 6 rfl) ?_
        refine call_i (X := []) (Z := []) (As := [.int (nI t), .int (nI r), .int mode]) (rest := []) ⟨hx, hb, hml, hown, hts⟩ (c_X2_rivalHolders l D cI cT a F Q0 qa t r mode (by omega) (by omega)) (cwV 3 hts gX2_place_X2_rivalHolders rfl rfl rfl (by decide +kernel) ⟨Nat.le_of_ble_eq_true rfl, Nat.le_of_ble_eq_true rfl⟩) hK hP hD hS hA (va_recv hK hP (ci := 2) (q0 := 0) rfl rfl) (fun _ => rfl) rfl hl.1 rfl (Nat.le_of_ble_eq_true rfl) ⟨Nat.zero_le _, Nat.zero_le _⟩ dX2_place_70 (fun rv u H locs hp hP hD hS => ?_)
        obtain rfl := hp
        have hP : va_P D vwCl ([(a 0, .inr (2, [.ref (a 1), .ref (a 2), .ref (a 3), .ref (a 4), .ref (a 5), .ref (a 6), .ref (a 7), .ref (a 8), .int (F 8 0), .int (F 8 1), .int (F 8 2)])), (a 1, .inl (cI, 8, .inl (F 0))), (a 2, .inl (cI, 8, .inl (F 1))), (a 3, .inl (cI, 8, .inl (F 2))), (a 4, .inl (cI, 8, .inl (F 3))), (a 5, .inl (cI, 8, .inl (F 4))), (a 6, .inl (cI, 80, .inl (F 5))), (a 7, .inl (cI, 80, .inl qa)), (a 8, .inl (cI, 10, .inl (fun z => nI ((qlen Q0) z))))]) H := hP
        have hD : va_D A ([(a 0, .inr (2, [.ref (a 1), .ref (a 2), .ref (a 3), .ref (a 4), .ref (a 5), .ref (a 6), .ref (a 7), .ref (a 8), .int (F 8 0), .int (F 8 1), .int (F 8 2)])), (a 1, .inl (cI, 8, .inl (F 0))), (a 2, .inl (cI, 8, .inl (F 1))), (a 3, .inl (cI, 8, .inl (F 2))), (a 4, .inl (cI, 8, .inl (F 3))), (a 5, .inl (cI, 8, .inl (F 4))), (a 6, .inl (cI, 80, .inl (F 5))), (a 7, .inl (cI, 80, .inl qa)), (a 8, .inl (cI, 10, .inl (fun z => nI ((qlen Q0) z))))]) := hD
        refine lv_if_ne (tgt := 85) hx hb dX2_place_73 (by decide) (fun h_6 => ?_) (fun h_6 => ?_)
        · have h_6 := mt (nI_eq (a := (bits (rivB F t r mode) 8)) (b := 0) (by first | omega | exact bits_lt31 _ | exact bitN_lt _ _ | exact bool_lt _ | exact and_lt31 _ _ _ _ | exact Nat.lt_of_le_of_lt (dst_lt _ _ _ (by omega) _) (by decide) | exact Nat.lt_of_le_of_lt (nrB_le _ _ _ (by omega)).2 (by decide) | decide) (by first | omega | exact bits_lt31 _ | exact bitN_lt _ _ | exact bool_lt _ | exact and_lt31 _ _ _ _ | exact Nat.lt_of_le_of_lt (dst_lt _ _ _ (by omega) _) (by decide) | exact Nat.lt_of_le_of_lt (nrB_le _ _ _ (by omega)).2 (by decide) | decide)).mpr h_6
          refine lv_iload hx hb dX2_place_85 (lv_at hl 1 rfl) ?_
          refine lv_if_eq (tgt := 98) hx hb dX2_place_87 (by decide) (fun h => absurd h (by decide)) (fun _ => ?_)
          refine lv_aload_n hx hb dX2_place_90 rfl (lv_at hl 3 rfl) ?_
          refine lv_iload_n hx hb dX2_place_91 rfl (lv_at hl 5 rfl) ?_
          refine call_i (X := []) (Z := []) (As := [.int (nI r)]) (rest := []) ⟨hx, hb, hml, hown, hts⟩ (c_X2_countUpgrades l D cI cT a F Q0 qa r (by omega) hJ hRQ) (cwV 1 hts gX2_place_X2_countUpgrades rfl rfl rfl (by decide +kernel) ⟨Nat.le_of_ble_eq_true rfl, Nat.le_of_ble_eq_true rfl⟩) hK hP hD hS hA (va_recv hK hP (ci := 2) (q0 := 0) rfl rfl) (fun _ => rfl) rfl hl.1 rfl (Nat.le_of_ble_eq_true rfl) ⟨Nat.zero_le _, Nat.zero_le _⟩ dX2_place_92 (fun rv u H locs hp hP hD hS => ?_)
          obtain rfl := hp
          have hP : va_P D vwCl ([(a 0, .inr (2, [.ref (a 1), .ref (a 2), .ref (a 3), .ref (a 4), .ref (a 5), .ref (a 6), .ref (a 7), .ref (a 8), .int (F 8 0), .int (F 8 1), .int (F 8 2)])), (a 1, .inl (cI, 8, .inl (F 0))), (a 2, .inl (cI, 8, .inl (F 1))), (a 3, .inl (cI, 8, .inl (F 2))), (a 4, .inl (cI, 8, .inl (F 3))), (a 5, .inl (cI, 8, .inl (F 4))), (a 6, .inl (cI, 80, .inl (F 5))), (a 7, .inl (cI, 80, .inl qa)), (a 8, .inl (cI, 10, .inl (fun z => nI ((qlen Q0) z))))]) H := hP
          have hD : va_D A ([(a 0, .inr (2, [.ref (a 1), .ref (a 2), .ref (a 3), .ref (a 4), .ref (a 5), .ref (a 6), .ref (a 7), .ref (a 8), .int (F 8 0), .int (F 8 1), .int (F 8 2)])), (a 1, .inl (cI, 8, .inl (F 0))), (a 2, .inl (cI, 8, .inl (F 1))), (a 3, .inl (cI, 8, .inl (F 2))), (a 4, .inl (cI, 8, .inl (F 3))), (a 5, .inl (cI, 8, .inl (F 4))), (a 6, .inl (cI, 80, .inl (F 5))), (a 7, .inl (cI, 80, .inl qa)), (a 8, .inl (cI, 10, .inl (fun z => nI ((qlen Q0) z))))]) := hD
          refine lv_goto (tgt := 104) hx hb dX2_place_95 (by decide) ?_
          refine lv_istore (lv' := [(7, .int (nI (cntU F (Q0 r) r (qlen Q0 r)))), (6, .int (nI 1)), (5, .int (nI 1)), (4, .int ((F 5) (t * 10 + r))), (0, .ref (a 0)), (1, .int (nI t)), (2, .int (nI r)), (3, .int mode)]) hx hb dX2_place_104 hl (by decide) rfl (fun ls hl => ?_)
          refine lv_aload_n hx hb dX2_place_106 rfl (lv_at hl 4 rfl) ?_
          refine lv_iload_n hx hb dX2_place_107 rfl (lv_at hl 5 rfl) ?_
          refine lv_iload_n hx hb dX2_place_108 rfl (lv_at hl 6 rfl) ?_
          refine lv_iload hx hb dX2_place_109 (lv_at hl 0 rfl) ?_
          refine call_v (X := []) (Z := []) (As := [.int (nI t), .int (nI r), .int (nI (cntU F (Q0 r) r (qlen Q0 r)))]) (rest := []) ⟨hx, hb, hml, hown, hts⟩ (c_X2_insertRequest l D cI cT a F Q0 qa t r (cntU F (Q0 r) r (qlen Q0 r)) (by omega) (by omega) (cntU_le _ _ _ _) h8 hJ hRQ) (cwV 3 hts gX2_place_X2_insertRequest rfl rfl rfl (by decide +kernel) ⟨Nat.le_of_ble_eq_true rfl, Nat.le_of_ble_eq_true rfl⟩) hK hP hD hS hA (va_recv hK hP (ci := 2) (q0 := 0) rfl rfl) (fun _ => adr_tbl.trans adr_tbl.symm) rfl hl.1 rfl (Nat.le_of_ble_eq_true rfl) ⟨Nat.zero_le _, Nat.zero_le _⟩ dX2_place_111 (fun qa14 H locs hp hP hD hS => ?_)
          have hR14 := hp
          have hP : va_P D vwCl ([(a 0, .inr (2, [.ref (a 1), .ref (a 2), .ref (a 3), .ref (a 4), .ref (a 5), .ref (a 6), .ref (a 7), .ref (a 8), .int ((up F 3 t (nI r)) 8 0), .int ((up F 3 t (nI r)) 8 1), .int ((up F 3 t (nI r)) 8 2)])), (a 1, .inl (cI, 8, .inl ((up F 3 t (nI r)) 0))), (a 2, .inl (cI, 8, .inl ((up F 3 t (nI r)) 1))), (a 3, .inl (cI, 8, .inl ((up F 3 t (nI r)) 2))), (a 4, .inl (cI, 8, .inl ((up F 3 t (nI r)) 3))), (a 5, .inl (cI, 8, .inl ((up F 3 t (nI r)) 4))), (a 6, .inl (cI, 80, .inl ((up F 3 t (nI r)) 5))), (a 7, .inl (cI, 80, .inl qa14)), (a 8, .inl (cI, 10, .inl (fun z => nI ((qlen (updQ Q0 r (insQ (Q0 r) (cntU F (Q0 r) r (qlen Q0 r)) t))) z))))]) H := hP
          have hD : va_D A ([(a 0, .inr (2, [.ref (a 1), .ref (a 2), .ref (a 3), .ref (a 4), .ref (a 5), .ref (a 6), .ref (a 7), .ref (a 8), .int ((up F 3 t (nI r)) 8 0), .int ((up F 3 t (nI r)) 8 1), .int ((up F 3 t (nI r)) 8 2)])), (a 1, .inl (cI, 8, .inl ((up F 3 t (nI r)) 0))), (a 2, .inl (cI, 8, .inl ((up F 3 t (nI r)) 1))), (a 3, .inl (cI, 8, .inl ((up F 3 t (nI r)) 2))), (a 4, .inl (cI, 8, .inl ((up F 3 t (nI r)) 3))), (a 5, .inl (cI, 8, .inl ((up F 3 t (nI r)) 4))), (a 6, .inl (cI, 80, .inl ((up F 3 t (nI r)) 5))), (a 7, .inl (cI, 80, .inl qa14)), (a 8, .inl (cI, 10, .inl (fun z => nI ((qlen (updQ Q0 r (insQ (Q0 r) (cntU F (Q0 r) r (qlen Q0 r)) t))) z))))]) := hD
          refine lv_aload_n hx hb dX2_place_114 rfl (lv_at hl 4 rfl) ?_
          refine va_get (D := D) (ci := 2) (v := .ref (a 5)) (C := RX2) (T := TX2) (N := 11) hx hb hts iX2 hown hK hP 0 rfl rfl 4 (by decide) f24 (fun _ h9 => h9) rfl dX2_place_115 ?_
          refine lv_iload_n hx hb dX2_place_118 rfl (lv_at hl 5 rfl) ?_
          refine lv_iload_n hx hb dX2_place_119 rfl (lv_at hl 7 rfl) ?_
          refine r_ist (k := t) hx hb hK hP hD hS 5 rfl (by omega) (by decide) dX2_place_120 (fun H locs hP hD hS => ?_)
          have hP : va_P D vwCl ([(a 0, .inr (2, [.ref (a 1), .ref (a 2), .ref (a 3), .ref (a 4), .ref (a 5), .ref (a 6), .ref (a 7), .ref (a 8), .int ((up F 3 t (nI r)) 8 0), .int ((up F 3 t (nI r)) 8 1), .int ((up F 3 t (nI r)) 8 2)])), (a 1, .inl (cI, 8, .inl ((up F 3 t (nI r)) 0))), (a 2, .inl (cI, 8, .inl ((up F 3 t (nI r)) 1))), (a 3, .inl (cI, 8, .inl ((up F 3 t (nI r)) 2))), (a 4, .inl (cI, 8, .inl ((up F 3 t (nI r)) 3))), (a 5, .inl (cI, 8, .inl (upd ((up F 3 t (nI r)) 4) t mode))), (a 6, .inl (cI, 80, .inl ((up F 3 t (nI r)) 5))), (a 7, .inl (cI, 80, .inl qa14)), (a 8, .inl (cI, 10, .inl (fun z => nI ((qlen (updQ Q0 r (insQ (Q0 r) (cntU F (Q0 r) r (qlen Q0 r)) t))) z))))]) H := hP
          have hD : va_D A ([(a 0, .inr (2, [.ref (a 1), .ref (a 2), .ref (a 3), .ref (a 4), .ref (a 5), .ref (a 6), .ref (a 7), .ref (a 8), .int ((up F 3 t (nI r)) 8 0), .int ((up F 3 t (nI r)) 8 1), .int ((up F 3 t (nI r)) 8 2)])), (a 1, .inl (cI, 8, .inl ((up F 3 t (nI r)) 0))), (a 2, .inl (cI, 8, .inl ((up F 3 t (nI r)) 1))), (a 3, .inl (cI, 8, .inl ((up F 3 t (nI r)) 2))), (a 4, .inl (cI, 8, .inl ((up F 3 t (nI r)) 3))), (a 5, .inl (cI, 8, .inl (upd ((up F 3 t (nI r)) 4) t mode))), (a 6, .inl (cI, 80, .inl ((up F 3 t (nI r)) 5))), (a 7, .inl (cI, 80, .inl qa14)), (a 8, .inl (cI, 10, .inl (fun z => nI ((qlen (updQ Q0 r (insQ (Q0 r) (cntU F (Q0 r) r (qlen Q0 r)) t))) z))))]) := hD
          refine lv_iconst (v := (nI 1)) hx hb dX2_place_121 (by decide) ?_
          have es : plS F t r mode = false := by simp [plS, lk, nI_0, nI1_0, nI2_0, nI1_2, nI2_1, n0_1, n0_2, h_1, h_2]
          have eg : plG F Q0 t r mode = false := by simp [plG, lk, nI_0, nI1_0, nI2_0, nI1_2, nI2_1, n0_1, n0_2, h_1, h_2, h_3, h_6]
          have en : insN F Q0 t r = cntU F (Q0 r) r (qlen Q0 r) := by simp [insN, lk, nI_0, nI1_0, nI2_0, nI1_2, nI2_1, n0_1, n0_2, h_1, h_2, h_3]
          exact ret_z (u := qa14) hQ hx hb hrt hlk hS dX2_place_122 (by decide) (by rw [(pl_wait es eg).1, (pl_wait es eg).2.1, en]; exact hP) (by rw [(pl_wait es eg).2.2, (pl_wait es eg).2.1, en]; exact ⟨rfl, hR14⟩)
        · have h_6 := (nI_eq (a := (bits (rivB F t r mode) 8)) (b := 0) (by first | omega | exact bits_lt31 _ | exact bitN_lt _ _ | exact bool_lt _ | exact and_lt31 _ _ _ _ | exact Nat.lt_of_le_of_lt (dst_lt _ _ _ (by omega) _) (by decide) | exact Nat.lt_of_le_of_lt (nrB_le _ _ _ (by omega)).2 (by decide) | decide) (by first | omega | exact bits_lt31 _ | exact bitN_lt _ _ | exact bool_lt _ | exact and_lt31 _ _ _ _ | exact Nat.lt_of_le_of_lt (dst_lt _ _ _ (by omega) _) (by decide) | exact Nat.lt_of_le_of_lt (nrB_le _ _ _ (by omega)).2 (by decide) | decide)).mp h_6
          refine lv_aload_n hx hb dX2_place_76 rfl (lv_at hl 3 rfl) ?_
          refine lv_iload_n hx hb dX2_place_77 rfl (lv_at hl 4 rfl) ?_
          refine lv_iload_n hx hb dX2_place_78 rfl (lv_at hl 5 rfl) ?_
          refine lv_iload_n hx hb dX2_place_79 rfl (lv_at hl 6 rfl) ?_
          refine call_v (X := []) (Z := []) (As := [.int (nI t), .int (nI r), .int mode]) (rest := []) ⟨hx, hb, hml, hown, hts⟩ (c_X2_grant l D cI cT a F Q0 qa t r mode (by omega) (by omega)) (cwV 3 hts gX2_place_X2_grant rfl rfl rfl (by decide +kernel) ⟨Nat.le_of_ble_eq_true rfl, Nat.le_of_ble_eq_true rfl⟩) hK hP hD hS hA (va_recv hK hP (ci := 2) (q0 := 0) rfl rfl) (fun _ => adr_tbl.trans adr_tbl.symm) rfl hl.1 rfl (Nat.le_of_ble_eq_true rfl) ⟨Nat.zero_le _, Nat.zero_le _⟩ dX2_place_80 (fun u H locs hp hP hD hS => ?_)
          have hP : va_P D vwCl ([(a 0, .inr (2, [.ref (a 1), .ref (a 2), .ref (a 3), .ref (a 4), .ref (a 5), .ref (a 6), .ref (a 7), .ref (a 8), .int ((grF F t r mode) 8 0), .int ((grF F t r mode) 8 1), .int ((grF F t r mode) 8 2)])), (a 1, .inl (cI, 8, .inl ((grF F t r mode) 0))), (a 2, .inl (cI, 8, .inl ((grF F t r mode) 1))), (a 3, .inl (cI, 8, .inl ((grF F t r mode) 2))), (a 4, .inl (cI, 8, .inl ((grF F t r mode) 3))), (a 5, .inl (cI, 8, .inl ((grF F t r mode) 4))), (a 6, .inl (cI, 80, .inl ((grF F t r mode) 5))), (a 7, .inl (cI, 80, .inl qa)), (a 8, .inl (cI, 10, .inl (fun z => nI ((qlen Q0) z))))]) H := hP
          have hD : va_D A ([(a 0, .inr (2, [.ref (a 1), .ref (a 2), .ref (a 3), .ref (a 4), .ref (a 5), .ref (a 6), .ref (a 7), .ref (a 8), .int ((grF F t r mode) 8 0), .int ((grF F t r mode) 8 1), .int ((grF F t r mode) 8 2)])), (a 1, .inl (cI, 8, .inl ((grF F t r mode) 0))), (a 2, .inl (cI, 8, .inl ((grF F t r mode) 1))), (a 3, .inl (cI, 8, .inl ((grF F t r mode) 2))), (a 4, .inl (cI, 8, .inl ((grF F t r mode) 3))), (a 5, .inl (cI, 8, .inl ((grF F t r mode) 4))), (a 6, .inl (cI, 80, .inl ((grF F t r mode) 5))), (a 7, .inl (cI, 80, .inl qa)), (a 8, .inl (cI, 10, .inl (fun z => nI ((qlen Q0) z))))]) := hD
          refine lv_iconst (v := (nI 0)) hx hb dX2_place_83 (by decide) ?_
          have es : plS F t r mode = false := by simp [plS, lk, nI_0, nI1_0, nI2_0, nI1_2, nI2_1, n0_1, n0_2, h_1, h_2]
          have eg : plG F Q0 t r mode = true := by simp [plG, lk, nI_0, nI1_0, nI2_0, nI1_2, nI2_1, n0_1, n0_2, h_1, h_2, h_3, h_6]
          exact ret_z (u := qa) hQ hx hb hrt hlk hS dX2_place_84 (by decide) (by rw [(pl_gr es eg).1, (pl_gr es eg).2.1]; exact hP) (by rw [(pl_gr es eg).2.2, (pl_gr es eg).2.1]; exact ⟨rfl, hRQ⟩)
    · have h_2 := h_2
      refine lv_iconst (v := (nI 0)) hx hb dX2_place_25 (by decide) ?_
      have es : plS F t r mode = true := by simp [plS, lk, nI_0, nI1_0, nI2_0, nI1_2, nI2_1, n0_1, n0_2, h_1, h_2]
      exact ret_z (u := qa) hQ hx hb hrt hlk hS dX2_place_26 (by decide) (by rw [(pl_same (Q := Q0) es).1, (pl_same es).2.1]; exact hP) (by rw [(pl_same es).2.2, (pl_same es).2.1]; exact ⟨rfl, hRQ⟩)

abbrev rX3_nearest : Room := { frames := 0, cells := 0, slots := 0, locals := 0 }
set_option maxHeartbeats 4000000 in
set_option maxRecDepth 100000 in
/-- nearest -/
theorem c_X3_nearest (l : Launch) (D : va_G) (cI cT : ClassId) (b : Nat → Nat) (wa da : Nat → Nat) (S : Nat) (hSS : S < 2 ^ 8) (hda : ∀ u, da u ≤ 8) : CN l D cI cT yX3_nearest wsX3_nearest rX3_nearest [.ref (b 0), .int (nI S)] (brkW cI b wa da) (S := Unit) (fun v _ => v = bI (nrB da S 8).1) (fun _ => brkW cI b wa da) := by
  refine CN.of (cc := cX3_nearest) (maxL := 5) (ret := (some .int)) (by decide) rfl (Nat.le_of_ble_eq_true rfl) ?_
  intro p e s m args below meth c A Q hQ B hA H locs hP hK hD hS ls hl
  obtain ⟨hx, hb, hml, hrt, hts, hown, hlk⟩ := B
  have hl : lv_has ls 5 [(0, .ref (b 0)), (1, .int (nI S))] := hl
  have iX3 : ∀ w ∈ u_ws RX3 TX3 2, w ∈ wsX3_nearest := by decide +kernel
  have f15 := hts (.fieldLink RX3 15 "LockManager$RingBreaker" "distances" "[I") (by decide +kernel)
  refine lv_iconst (v := (-1)) hx hb dX3_nearest_0 (by decide) ?_
  refine lv_istore_n (lv' := [(2, .int (-1)), (0, .ref (b 0)), (1, .int (nI S))]) hx hb dX3_nearest_1 rfl hl (by decide) rfl (fun ls hl => ?_)
  refine lv_bipush (v := (nI 8)) hx hb dX3_nearest_2 (by decide) ?_
  refine lv_istore_n (lv' := [(3, .int (nI 8)), (2, .int (-1)), (0, .ref (b 0)), (1, .int (nI S))]) hx hb dX3_nearest_4 rfl hl (by decide) rfl (fun ls hl => ?_)
  refine lv_iconst (v := (nI 0)) hx hb dX3_nearest_5 (by decide) ?_
  refine lv_istore (lv' := [(4, .int (nI 0)), (3, .int (nI 8)), (2, .int (-1)), (0, .ref (b 0)), (1, .int (nI S))]) hx hb dX3_nearest_6 hl (by decide) rfl (fun ls hl => ?_)
  have L8 : ∀ (N : Nat) (i : Nat), (i ≤ 8) → (8 - i) < N → ∀ (H : Heap) (locs : List Loc), va_P D vwCl ([(b 0, .inr (3, [.ref (b 1), .ref (b 2)])), (b 1, .inl (cI, 8, .inl (fun z => nI (wa z)))), (b 2, .inl (cI, 8, .inl (fun z => nI (da z))))]) H → va_D A ([(b 0, .inr (3, [.ref (b 1), .ref (b 2)])), (b 1, .inl (cI, 8, .inl (fun z => nI (wa z)))), (b 2, .inl (cI, 8, .inl (fun z => nI (da z))))]) → va_S A s.heap H locs → ∀ ls : Array Slot, lv_has ls 5 [(0, .ref (b 0)), (1, .int (nI S)), (2, .int (bI (nrB da S i).1)), (3, .int (nI ((nrB da S i).2))), (4, .int (nI i))] → W p l e rX3_nearest s m args below meth c H locs 0 0 Q (F0 m 8 ls []) := by
    intro N8
    induction N8 with
    | zero => intro i hi hN; exact absurd hN (Nat.not_lt_zero _)
    | succ N8 ih8 =>
      intro i hi hN H locs hP hD hS ls hl
      have hn2 := (nrB_le da S i hi).2
      have hda := hda i
      refine lv_iload hx hb dX3_nearest_8 (lv_at hl 4 rfl) ?_
      refine lv_bipush (v := (nI 8)) hx hb dX3_nearest_10 (by decide) ?_
      refine lv_icmp_ge (tgt := 53) hx hb dX3_nearest_12 (by decide) (fun h_1 => ?_) (fun h_1 => ?_)
      · have h_1 := (nI_leI (a := 8) (b := i) (by first | omega | exact bits_lt31 _ | exact bitN_lt _ _ | exact bool_lt _ | exact and_lt31 _ _ _ _ | exact Nat.lt_of_le_of_lt (dst_lt _ _ _ (by omega) _) (by decide) | exact Nat.lt_of_le_of_lt (nrB_le _ _ _ (by omega)).2 (by decide) | decide) (by first | omega | exact bits_lt31 _ | exact bitN_lt _ _ | exact bool_lt _ | exact and_lt31 _ _ _ _ | exact Nat.lt_of_le_of_lt (dst_lt _ _ _ (by omega) _) (by decide) | exact Nat.lt_of_le_of_lt (nrB_le _ _ _ (by omega)).2 (by decide) | decide)).mp h_1
        refine lv_iload_n hx hb dX3_nearest_53 rfl (lv_at hl 2 rfl) ?_
        exact ret_i (u := ()) hQ hx hb hrt hlk hS dX3_nearest_54 hP (by rw [show i = 8 by omega])
      · have h_1 := mt (nI_leI (a := 8) (b := i) (by first | omega | exact bits_lt31 _ | exact bitN_lt _ _ | exact bool_lt _ | exact and_lt31 _ _ _ _ | exact Nat.lt_of_le_of_lt (dst_lt _ _ _ (by omega) _) (by decide) | exact Nat.lt_of_le_of_lt (nrB_le _ _ _ (by omega)).2 (by decide) | decide) (by first | omega | exact bits_lt31 _ | exact bitN_lt _ _ | exact bool_lt _ | exact and_lt31 _ _ _ _ | exact Nat.lt_of_le_of_lt (dst_lt _ _ _ (by omega) _) (by decide) | exact Nat.lt_of_le_of_lt (nrB_le _ _ _ (by omega)).2 (by decide) | decide)).mpr h_1
        refine lv_iload_n hx hb dX3_nearest_15 rfl (lv_at hl 1 rfl) ?_
        refine lv_iload hx hb dX3_nearest_16 (lv_at hl 4 rfl) ?_
        refine lv_ishr hx hb dX3_nearest_18 ?_
        refine lv_iconst (v := (nI 1)) hx hb dX3_nearest_19 (by decide) ?_
        refine lv_iand hx hb dX3_nearest_20 ?_
        refine tpe (y := nI (bitN S i)) (tb_I (Nat.lt_of_lt_of_le hSS (by decide)) (by omega)) ?_
        refine lv_iconst (v := (nI 1)) hx hb dX3_nearest_21 (by decide) ?_
        refine lv_icmp_ne (tgt := 47) hx hb dX3_nearest_22 (by decide) (fun h_2 => ?_) (fun h_2 => ?_)
        · have h_2 := mt (nI_eq (a := (bitN S i)) (b := 1) (by first | omega | exact bits_lt31 _ | exact bitN_lt _ _ | exact bool_lt _ | exact and_lt31 _ _ _ _ | exact Nat.lt_of_le_of_lt (dst_lt _ _ _ (by omega) _) (by decide) | exact Nat.lt_of_le_of_lt (nrB_le _ _ _ (by omega)).2 (by decide) | decide) (by first | omega | exact bits_lt31 _ | exact bitN_lt _ _ | exact bool_lt _ | exact and_lt31 _ _ _ _ | exact Nat.lt_of_le_of_lt (dst_lt _ _ _ (by omega) _) (by decide) | exact Nat.lt_of_le_of_lt (nrB_le _ _ _ (by omega)).2 (by decide) | decide)).mpr h_2
          refine lv_iinc (v := (nI (i + 1))) (lv' := [(4, .int (nI (i + 1))), (0, .ref (b 0)), (1, .int (nI S)), (2, .int (bI (nrB da S i).1)), (3, .int (nI ((nrB da S i).2)))]) hx hb dX3_nearest_47 hl (k := 4) rfl (nI_add _ 1) (by decide) rfl (fun ls hl => ?_)
          refine lv_goto (tgt := 8) hx hb dX3_nearest_50 (by decide) ?_
          rw [show (bI (nrB da S i).1) = (bI (nrB da S (i + 1)).1) from (by rw [nrB_n (fun q => h_2 (bitN_1.mpr q.1))])] at hl
          rw [show (nI ((nrB da S i).2)) = (nI ((nrB da S (i + 1)).2)) from (by rw [nrB_n (fun q => h_2 (bitN_1.mpr q.1))])] at hl
          exact ih8 (i + 1) (by omega) (by omega) _ _ hP hD hS _ (lv_sub hl [1, 2, 3, 4, 0] rfl)
        · have h_2 := (nI_eq (a := (bitN S i)) (b := 1) (by first | omega | exact bits_lt31 _ | exact bitN_lt _ _ | exact bool_lt _ | exact and_lt31 _ _ _ _ | exact Nat.lt_of_le_of_lt (dst_lt _ _ _ (by omega) _) (by decide) | exact Nat.lt_of_le_of_lt (nrB_le _ _ _ (by omega)).2 (by decide) | decide) (by first | omega | exact bits_lt31 _ | exact bitN_lt _ _ | exact bool_lt _ | exact and_lt31 _ _ _ _ | exact Nat.lt_of_le_of_lt (dst_lt _ _ _ (by omega) _) (by decide) | exact Nat.lt_of_le_of_lt (nrB_le _ _ _ (by omega)).2 (by decide) | decide)).mp h_2
          refine lv_aload_n hx hb dX3_nearest_25 rfl (lv_at hl 0 rfl) ?_
          refine va_get (D := D) (ci := 3) (v := .ref (b 2)) (C := RX3) (T := TX3) (N := 2) hx hb hts iX3 hown hK hP 0 rfl rfl 1 (by decide) f15 (fun _ h9 => h9) rfl dX3_nearest_26 ?_
          refine lv_iload hx hb dX3_nearest_29 (lv_at hl 4 rfl) ?_
          refine r_ild (k := i) hx hb hK hP 2 rfl (by omega) (by decide) dX3_nearest_31 ?_
          refine tpe (y := (nI (da i))) rfl ?_
          refine lv_iload_n hx hb dX3_nearest_32 rfl (lv_at hl 3 rfl) ?_
          refine lv_icmp_ge (tgt := 47) hx hb dX3_nearest_33 (by decide) (fun h_3 => ?_) (fun h_3 => ?_)
          · have h_3 := (nI_leI (a := ((nrB da S i).2)) (b := (da i)) (by first | omega | exact bits_lt31 _ | exact bitN_lt _ _ | exact bool_lt _ | exact and_lt31 _ _ _ _ | exact Nat.lt_of_le_of_lt (dst_lt _ _ _ (by omega) _) (by decide) | exact Nat.lt_of_le_of_lt (nrB_le _ _ _ (by omega)).2 (by decide) | decide) (by first | omega | exact bits_lt31 _ | exact bitN_lt _ _ | exact bool_lt _ | exact and_lt31 _ _ _ _ | exact Nat.lt_of_le_of_lt (dst_lt _ _ _ (by omega) _) (by decide) | exact Nat.lt_of_le_of_lt (nrB_le _ _ _ (by omega)).2 (by decide) | decide)).mp h_3
            refine lv_iinc (v := (nI (i + 1))) (lv' := [(4, .int (nI (i + 1))), (0, .ref (b 0)), (1, .int (nI S)), (2, .int (bI (nrB da S i).1)), (3, .int (nI ((nrB da S i).2)))]) hx hb dX3_nearest_47 hl (k := 4) rfl (nI_add _ 1) (by decide) rfl (fun ls hl => ?_)
            refine lv_goto (tgt := 8) hx hb dX3_nearest_50 (by decide) ?_
            rw [show (bI (nrB da S i).1) = (bI (nrB da S (i + 1)).1) from (by rw [nrB_n (fun q => absurd q.2 (by omega))])] at hl
            rw [show (nI ((nrB da S i).2)) = (nI ((nrB da S (i + 1)).2)) from (by rw [nrB_n (fun q => absurd q.2 (by omega))])] at hl
            exact ih8 (i + 1) (by omega) (by omega) _ _ hP hD hS _ (lv_sub hl [1, 2, 3, 4, 0] rfl)
          · have h_3 := mt (nI_leI (a := ((nrB da S i).2)) (b := (da i)) (by first | omega | exact bits_lt31 _ | exact bitN_lt _ _ | exact bool_lt _ | exact and_lt31 _ _ _ _ | exact Nat.lt_of_le_of_lt (dst_lt _ _ _ (by omega) _) (by decide) | exact Nat.lt_of_le_of_lt (nrB_le _ _ _ (by omega)).2 (by decide) | decide) (by first | omega | exact bits_lt31 _ | exact bitN_lt _ _ | exact bool_lt _ | exact and_lt31 _ _ _ _ | exact Nat.lt_of_le_of_lt (dst_lt _ _ _ (by omega) _) (by decide) | exact Nat.lt_of_le_of_lt (nrB_le _ _ _ (by omega)).2 (by decide) | decide)).mpr h_3
            refine lv_iload hx hb dX3_nearest_36 (lv_at hl 4 rfl) ?_
            refine lv_istore_n (lv' := [(2, .int (nI i)), (0, .ref (b 0)), (1, .int (nI S)), (3, .int (nI ((nrB da S i).2))), (4, .int (nI i))]) hx hb dX3_nearest_38 rfl hl (by decide) rfl (fun ls hl => ?_)
            refine lv_aload_n hx hb dX3_nearest_39 rfl (lv_at hl 1 rfl) ?_
            refine va_get (D := D) (ci := 3) (v := .ref (b 2)) (C := RX3) (T := TX3) (N := 2) hx hb hts iX3 hown hK hP 0 rfl rfl 1 (by decide) f15 (fun _ h9 => h9) rfl dX3_nearest_40 ?_
            refine lv_iload hx hb dX3_nearest_43 (lv_at hl 4 rfl) ?_
            refine r_ild (k := i) hx hb hK hP 2 rfl (by omega) (by decide) dX3_nearest_45 ?_
            refine tpe (y := (nI (da i))) rfl ?_
            refine lv_istore_n (lv' := [(3, .int (nI (da i))), (2, .int (nI i)), (0, .ref (b 0)), (1, .int (nI S)), (4, .int (nI i))]) hx hb dX3_nearest_46 rfl hl (by decide) rfl (fun ls hl => ?_)
            refine lv_iinc (v := (nI (i + 1))) (lv' := [(4, .int (nI (i + 1))), (3, .int (nI (da i))), (2, .int (nI i)), (0, .ref (b 0)), (1, .int (nI S))]) hx hb dX3_nearest_47 hl (k := 4) rfl (nI_add _ 1) (by decide) rfl (fun ls hl => ?_)
            refine lv_goto (tgt := 8) hx hb dX3_nearest_50 (by decide) ?_
            rw [show (nI i) = (bI (nrB da S (i + 1)).1) from (by rw [nrB_y (bitN_1.mp h_2) (by omega)]; exact (bI_some (by omega)).symm)] at hl
            rw [show (nI (da i)) = (nI ((nrB da S (i + 1)).2)) from (by rw [nrB_y (bitN_1.mp h_2) (by omega)])] at hl
            exact ih8 (i + 1) (by omega) (by omega) _ _ hP hD hS _ (lv_sub hl [3, 4, 2, 1, 0] rfl)
  rw [show (-1) = (bI (nrB da S 0).1) from (by simp [nrB, bI])] at hl
  rw [show (nI 8) = (nI ((nrB da S 0).2)) from rfl] at hl
  exact L8 _ 0 (Nat.zero_le _) (Nat.lt_succ_self _) _ _ hP hD hS _ (lv_sub hl [3, 4, 2, 1, 0] rfl)

abbrev rX3_shortestRing : Room := { frames := 1, cells := 0, slots := 0, locals := 24 }
set_option maxHeartbeats 4000000 in
set_option maxRecDepth 100000 in
/-- shortestRing -/
theorem c_X3_shortestRing (l : Launch) (D : va_G) (cI cT : ClassId) (b : Nat → Nat) (wa da : Nat → Nat) (s0 : Nat) (hs : s0 < 8) (hwa : ∀ u, wa u < 2 ^ 8) (hda : ∀ u, da u ≤ 8) : CN l D cI cT yX3_shortestRing wsX3_shortestRing rX3_shortestRing [.ref (b 0), .int (nI s0)] (brkW cI b wa da) (S := Unit) (fun v _ => v = nI (srL wa da s0 8 0 s0)) (fun _ => brkW cI b wa da) := by
  refine CN.of (cc := cX3_shortestRing) (maxL := 5) (ret := (some .int)) (by decide) rfl (Nat.le_of_ble_eq_true rfl) ?_
  intro p e s m args below meth c A Q hQ B hA H locs hP hK hD hS ls hl
  obtain ⟨hx, hb, hml, hrt, hts, hown, hlk⟩ := B
  have hl : lv_has ls 5 [(0, .ref (b 0)), (1, .int (nI s0))] := hl
  have iX3 : ∀ w ∈ u_ws RX3 TX3 2, w ∈ wsX3_shortestRing := by decide +kernel
  have f9 := hts (.fieldLink RX3 9 "LockManager$RingBreaker" "waits" "[I") (by decide +kernel)
  refine lv_iconst (v := (nI 0)) hx hb dX3_shortestRing_0 (by decide) ?_
  refine lv_istore_n (lv' := [(2, .int (nI 0)), (0, .ref (b 0)), (1, .int (nI s0))]) hx hb dX3_shortestRing_1 rfl hl (by decide) rfl (fun ls hl => ?_)
  refine lv_iload_n hx hb dX3_shortestRing_2 rfl (lv_at hl 2 rfl) ?_
  refine lv_istore_n (lv' := [(3, .int (nI s0)), (2, .int (nI 0)), (0, .ref (b 0)), (1, .int (nI s0))]) hx hb dX3_shortestRing_3 rfl hl (by decide) rfl (fun ls hl => ?_)
  refine lv_iconst (v := (nI 0)) hx hb dX3_shortestRing_4 (by decide) ?_
  refine lv_istore (lv' := [(4, .int (nI 0)), (3, .int (nI s0)), (2, .int (nI 0)), (0, .ref (b 0)), (1, .int (nI s0))]) hx hb dX3_shortestRing_5 hl (by decide) rfl (fun ls hl => ?_)
  have L7 : ∀ (N : Nat) (i : Nat) (rg : Nat) (mm : Nat), (i ≤ 8) → (mm < 8) → (rg < 2 ^ 8) → (srI wa da s0 i rg mm) → (8 - i) < N → ∀ (H : Heap) (locs : List Loc), va_P D vwCl ([(b 0, .inr (3, [.ref (b 1), .ref (b 2)])), (b 1, .inl (cI, 8, .inl (fun z => nI (wa z)))), (b 2, .inl (cI, 8, .inl (fun z => nI (da z))))]) H → va_D A ([(b 0, .inr (3, [.ref (b 1), .ref (b 2)])), (b 1, .inl (cI, 8, .inl (fun z => nI (wa z)))), (b 2, .inl (cI, 8, .inl (fun z => nI (da z))))]) → va_S A s.heap H locs → ∀ ls : Array Slot, lv_has ls 5 [(0, .ref (b 0)), (1, .int (nI s0)), (2, .int (nI rg)), (3, .int (nI mm)), (4, .int (nI i))] → W p l e rX3_shortestRing s m args below meth c H locs 0 0 Q (F0 m 7 ls []) := by
    intro N7
    induction N7 with
    | zero => intro i rg mm hi hm hrg hI hN; exact absurd hN (Nat.not_lt_zero _)
    | succ N7 ih7 =>
      intro i rg mm hi hm hrg hI hN H locs hP hD hS ls hl
      have hnb := (nrB_le da (wa mm) 8 (Nat.le_refl _)).1
      refine lv_iload hx hb dX3_shortestRing_7 (lv_at hl 4 rfl) ?_
      refine lv_bipush (v := (nI 8)) hx hb dX3_shortestRing_9 (by decide) ?_
      refine lv_icmp_ge (tgt := 52) hx hb dX3_shortestRing_11 (by decide) (fun h_1 => ?_) (fun h_1 => ?_)
      · have h_1 := (nI_leI (a := 8) (b := i) (by first | omega | exact bits_lt31 _ | exact bitN_lt _ _ | exact bool_lt _ | exact and_lt31 _ _ _ _ | exact Nat.lt_of_le_of_lt (dst_lt _ _ _ (by omega) _) (by decide) | exact Nat.lt_of_le_of_lt (nrB_le _ _ _ (by omega)).2 (by decide) | decide) (by first | omega | exact bits_lt31 _ | exact bitN_lt _ _ | exact bool_lt _ | exact and_lt31 _ _ _ _ | exact Nat.lt_of_le_of_lt (dst_lt _ _ _ (by omega) _) (by decide) | exact Nat.lt_of_le_of_lt (nrB_le _ _ _ (by omega)).2 (by decide) | decide)).mp h_1
        refine lv_iconst (v := (nI 0)) hx hb dX3_shortestRing_52 (by decide) ?_
        exact ret_i (u := ()) hQ hx hb hrt hlk hS dX3_shortestRing_53 hP (by have := hI; rw [srI, show 8 - i = 0 by omega] at this; exact congrArg nI this)
      · have h_1 := mt (nI_leI (a := 8) (b := i) (by first | omega | exact bits_lt31 _ | exact bitN_lt _ _ | exact bool_lt _ | exact and_lt31 _ _ _ _ | exact Nat.lt_of_le_of_lt (dst_lt _ _ _ (by omega) _) (by decide) | exact Nat.lt_of_le_of_lt (nrB_le _ _ _ (by omega)).2 (by decide) | decide) (by first | omega | exact bits_lt31 _ | exact bitN_lt _ _ | exact bool_lt _ | exact and_lt31 _ _ _ _ | exact Nat.lt_of_le_of_lt (dst_lt _ _ _ (by omega) _) (by decide) | exact Nat.lt_of_le_of_lt (nrB_le _ _ _ (by omega)).2 (by decide) | decide)).mpr h_1
        refine lv_iload_n hx hb dX3_shortestRing_14 rfl (lv_at hl 2 rfl) ?_
        refine lv_iconst (v := (nI 1)) hx hb dX3_shortestRing_15 (by decide) ?_
        refine lv_iload_n hx hb dX3_shortestRing_16 rfl (lv_at hl 3 rfl) ?_
        refine lv_ishl hx hb dX3_shortestRing_17 ?_
        refine lv_ior hx hb dX3_shortestRing_18 ?_
        refine tpe (y := nI (rg ||| 2 ^ mm)) (or_sh hm) ?_
        refine lv_istore_n (lv' := [(2, .int (nI (rg ||| 2 ^ mm))), (0, .ref (b 0)), (1, .int (nI s0)), (3, .int (nI mm)), (4, .int (nI i))]) hx hb dX3_shortestRing_19 rfl hl (by decide) rfl (fun ls hl => ?_)
        refine lv_aload_n hx hb dX3_shortestRing_20 rfl (lv_at hl 1 rfl) ?_
        refine lv_aload_n hx hb dX3_shortestRing_21 rfl (lv_at hl 1 rfl) ?_
        refine va_get (D := D) (ci := 3) (v := .ref (b 1)) (C := RX3) (T := TX3) (N := 2) hx hb hts iX3 hown hK hP 0 rfl rfl 0 (by decide) f9 (fun _ h9 => h9) rfl dX3_shortestRing_22 ?_
        refine lv_iload_n hx hb dX3_shortestRing_25 rfl (lv_at hl 3 rfl) ?_
        refine r_ild (k := mm) hx hb hK hP 1 rfl (by omega) (by decide) dX3_shortestRing_26 ?_
        refine tpe (y := (nI (wa mm))) rfl ?_
        refine call_i (X := []) (Z := []) (As := [.int (nI (wa mm))]) (rest := []) ⟨hx, hb, hml, hown, hts⟩ (c_X3_nearest l D cI cT b wa da (wa mm) (hwa _) hda) (cwV 1 hts gX3_shortestRing_X3_nearest rfl rfl rfl (by decide +kernel) ⟨Nat.le_of_ble_eq_true rfl, Nat.le_of_ble_eq_true rfl⟩) hK hP hD hS hA (va_recv hK hP (ci := 3) (q0 := 0) rfl rfl) (fun _ => rfl) rfl hl.1 rfl (Nat.le_of_ble_eq_true rfl) ⟨Nat.zero_le _, Nat.zero_le _⟩ dX3_shortestRing_27 (fun rv u H locs hp hP hD hS => ?_)
        obtain rfl := hp
        have hP : va_P D vwCl ([(b 0, .inr (3, [.ref (b 1), .ref (b 2)])), (b 1, .inl (cI, 8, .inl (fun z => nI (wa z)))), (b 2, .inl (cI, 8, .inl (fun z => nI (da z))))]) H := hP
        have hD : va_D A ([(b 0, .inr (3, [.ref (b 1), .ref (b 2)])), (b 1, .inl (cI, 8, .inl (fun z => nI (wa z)))), (b 2, .inl (cI, 8, .inl (fun z => nI (da z))))]) := hD
        refine lv_istore_n (lv' := [(3, .int (bI (nrB da (wa mm) 8).1)), (2, .int (nI (rg ||| 2 ^ mm))), (0, .ref (b 0)), (1, .int (nI s0)), (4, .int (nI i))]) hx hb dX3_shortestRing_30 rfl hl (by decide) rfl (fun ls hl => ?_)
        refine lv_iload_n hx hb dX3_shortestRing_31 rfl (lv_at hl 0 rfl) ?_
        refine lv_iload_n hx hb dX3_shortestRing_32 rfl (lv_at hl 3 rfl) ?_
        refine lv_icmp_ne (tgt := 38) hx hb dX3_shortestRing_33 (by decide) (fun h_2 => ?_) (fun h_2 => ?_)
        · have h_2 := h_2
          refine lv_iload_n hx hb dX3_shortestRing_38 rfl (lv_at hl 0 rfl) ?_
          refine lv_iconst (v := (-1)) hx hb dX3_shortestRing_39 (by decide) ?_
          refine lv_icmp_ne (tgt := 46) hx hb dX3_shortestRing_40 (by decide) (fun h_3 => ?_) (fun h_3 => ?_)
          · have h_3 := h_3
            refine lv_iinc (v := (nI (i + 1))) (lv' := [(4, .int (nI (i + 1))), (3, .int (bI (nrB da (wa mm) 8).1)), (2, .int (nI (rg ||| 2 ^ mm))), (0, .ref (b 0)), (1, .int (nI s0))]) hx hb dX3_shortestRing_46 hl (k := 4) rfl (nI_add _ 1) (by decide) rfl (fun ls hl => ?_)
            refine lv_goto (tgt := 7) hx hb dX3_shortestRing_49 (by decide) ?_
            rw [show (bI (nrB da (wa mm) 8).1) = (nI (((nrB da (wa mm) 8).1))) from (bI_some (mt (bI_m1 hnb).mpr h_3))] at hl
            exact ih7 (i + 1) (rg ||| 2 ^ mm) ((nrB da (wa mm) 8).1) (by omega) (by have := mt (bI_m1 hnb).mpr h_3; omega) (Nat.or_lt_two_pow hrg (Nat.pow_lt_pow_right (by decide) hm)) (srI_s (by omega) hI (fun q => h_2 ((bI_eq hnb hs).mpr q)) (fun q => h_3 ((bI_m1 hnb).mpr q))) (by omega) _ _ hP hD hS _ (lv_sub hl [3, 4, 2, 1, 0] rfl)
          · have h_3 := h_3
            refine lv_goto (tgt := 52) hx hb dX3_shortestRing_43 (by decide) ?_
            refine lv_iconst (v := (nI 0)) hx hb dX3_shortestRing_52 (by decide) ?_
            exact ret_i (u := ()) hQ hx hb hrt hlk hS dX3_shortestRing_53 hP (congrArg nI (srI_none (by omega) hI (fun q => h_2 ((bI_eq hnb hs).mpr q)) ((bI_m1 hnb).mp h_3)))
        · have h_2 := h_2
          refine lv_iload_n hx hb dX3_shortestRing_36 rfl (lv_at hl 1 rfl) ?_
          exact ret_i (u := ()) hQ hx hb hrt hlk hS dX3_shortestRing_37 hP (congrArg nI (srI_hit (by omega) hI ((bI_eq hnb hs).mp h_2)))
  exact L7 _ 0 0 s0 (Nat.zero_le _) hs (by decide) rfl (Nat.lt_succ_self _) _ _ hP hD hS _ (lv_sub hl [3, 4, 2, 1, 0] rfl)

abbrev rX3_goesBefore : Room := { frames := 0, cells := 0, slots := 0, locals := 0 }
set_option maxHeartbeats 4000000 in
set_option maxRecDepth 100000 in
/-- goesBefore -/
theorem c_X3_goesBefore (l : Launch) (D : va_G) (cI cT : ClassId) (a : Nat → Nat) (F : FF) (Q0 : QQ) (qa : Nat → Int32) (b : Nat → Nat) (x y : Nat) (hx8 : x < 8) (hy8 : y < 8) : CN l D cI cT yX3_goesBefore wsX3_goesBefore rX3_goesBefore [.ref (b 0), .ref (a 0), .int (nI x), .int (nI y)] (tblW cI a F Q0 qa) (S := Unit) (fun v _ => v = nI ((gbB F x y).toNat)) (fun _ => tblW cI a F Q0 qa) := by
  refine CN.of (cc := cX3_goesBefore) (maxL := 6) (ret := (some .boolean)) (by decide) rfl (Nat.le_of_ble_eq_true rfl) ?_
  intro p e s m args below meth c A Q hQ B hA H locs hP hK hD hS ls hl
  obtain ⟨hx, hb, hml, hrt, hts, hown, hlk⟩ := B
  have hl : lv_has ls 6 [(0, .ref (b 0)), (1, .ref (a 0)), (2, .int (nI x)), (3, .int (nI y))] := hl
  have iX2 : ∀ w ∈ u_ws RX2 TX2 11, w ∈ wsX3_goesBefore := by decide +kernel
  have f50 := hts (.fieldLink RX3 50 "LockManager$LockTable" "aborts" "[I") (by decide +kernel)
  have f53 := hts (.fieldLink RX3 53 "LockManager$LockTable" "works" "[I") (by decide +kernel)
  have f56 := hts (.fieldLink RX3 56 "LockManager$LockTable" "births" "[I") (by decide +kernel)
  refine lv_aload_n hx hb dX3_goesBefore_0 rfl (lv_at hl 1 rfl) ?_
  refine va_get (D := D) (ci := 2) (v := .ref (a 3)) (C := RX2) (T := TX2) (N := 11) hx hb hts iX2 hown hK hP 0 rfl rfl 2 (by decide) f50 (fun _ h9 => h9) rfl dX3_goesBefore_1 ?_
  refine lv_iload_n hx hb dX3_goesBefore_4 rfl (lv_at hl 2 rfl) ?_
  refine r_ild (k := x) hx hb hK hP 3 rfl (by omega) (by decide) dX3_goesBefore_5 ?_
  refine lv_iconst (v := (nI 2)) hx hb dX3_goesBefore_6 (by decide) ?_
  refine lv_icmp_lt (tgt := 14) hx hb dX3_goesBefore_7 (by decide) (fun h_1 => ?_) (fun h_1 => ?_)
  · have h_1 := h_1
    refine lv_iconst (v := (nI 0)) hx hb dX3_goesBefore_14 (by decide) ?_
    refine lv_istore (lv' := [(4, .int (nI 0)), (0, .ref (b 0)), (1, .ref (a 0)), (2, .int (nI x)), (3, .int (nI y))]) hx hb dX3_goesBefore_15 hl (by decide) rfl (fun ls hl => ?_)
    refine lv_aload_n hx hb dX3_goesBefore_17 rfl (lv_at hl 2 rfl) ?_
    refine va_get (D := D) (ci := 2) (v := .ref (a 3)) (C := RX2) (T := TX2) (N := 11) hx hb hts iX2 hown hK hP 0 rfl rfl 2 (by decide) f50 (fun _ h9 => h9) rfl dX3_goesBefore_18 ?_
    refine lv_iload_n hx hb dX3_goesBefore_21 rfl (lv_at hl 4 rfl) ?_
    refine r_ild (k := y) hx hb hK hP 3 rfl (by omega) (by decide) dX3_goesBefore_22 ?_
    refine lv_iconst (v := (nI 2)) hx hb dX3_goesBefore_23 (by decide) ?_
    refine lv_icmp_lt (tgt := 31) hx hb dX3_goesBefore_24 (by decide) (fun h_2 => ?_) (fun h_2 => ?_)
    · have h_2 := h_2
      refine lv_iconst (v := (nI 0)) hx hb dX3_goesBefore_31 (by decide) ?_
      refine lv_istore (lv' := [(5, .int (nI 0)), (4, .int (nI 0)), (0, .ref (b 0)), (1, .ref (a 0)), (2, .int (nI x)), (3, .int (nI y))]) hx hb dX3_goesBefore_32 hl (by decide) rfl (fun ls hl => ?_)
      refine lv_iload hx hb dX3_goesBefore_34 (lv_at hl 1 rfl) ?_
      refine lv_iload hx hb dX3_goesBefore_36 (lv_at hl 0 rfl) ?_
      refine lv_icmp_eq (tgt := 44) hx hb dX3_goesBefore_38 (by decide) (fun _ => ?_) (fun h => absurd (by decide) h)
      refine lv_aload_n hx hb dX3_goesBefore_44 rfl (lv_at hl 3 rfl) ?_
      refine va_get (D := D) (ci := 2) (v := .ref (a 2)) (C := RX2) (T := TX2) (N := 11) hx hb hts iX2 hown hK hP 0 rfl rfl 1 (by decide) f53 (fun _ h9 => h9) rfl dX3_goesBefore_45 ?_
      refine lv_iload_n hx hb dX3_goesBefore_48 rfl (lv_at hl 4 rfl) ?_
      refine r_ild (k := x) hx hb hK hP 2 rfl (by omega) (by decide) dX3_goesBefore_49 ?_
      refine lv_aload_n hx hb dX3_goesBefore_50 rfl (lv_at hl 3 rfl) ?_
      refine va_get (D := D) (ci := 2) (v := .ref (a 2)) (C := RX2) (T := TX2) (N := 11) hx hb hts iX2 hown hK hP 0 rfl rfl 1 (by decide) f53 (fun _ h9 => h9) rfl dX3_goesBefore_51 ?_
      refine lv_iload_n hx hb dX3_goesBefore_54 rfl (lv_at hl 5 rfl) ?_
      refine r_ild (k := y) hx hb hK hP 2 rfl (by omega) (by decide) dX3_goesBefore_55 ?_
      refine lv_icmp_eq (tgt := 80) hx hb dX3_goesBefore_56 (by decide) (fun h_3 => ?_) (fun h_3 => ?_)
      · have h_3 := h_3
        refine lv_aload_n hx hb dX3_goesBefore_80 rfl (lv_at hl 3 rfl) ?_
        refine va_get (D := D) (ci := 2) (v := .ref (a 1)) (C := RX2) (T := TX2) (N := 11) hx hb hts iX2 hown hK hP 0 rfl rfl 0 (by decide) f56 (fun _ h9 => h9) rfl dX3_goesBefore_81 ?_
        refine lv_iload_n hx hb dX3_goesBefore_84 rfl (lv_at hl 4 rfl) ?_
        refine r_ild (k := x) hx hb hK hP 1 rfl (by omega) (by decide) dX3_goesBefore_85 ?_
        refine lv_aload_n hx hb dX3_goesBefore_86 rfl (lv_at hl 3 rfl) ?_
        refine va_get (D := D) (ci := 2) (v := .ref (a 1)) (C := RX2) (T := TX2) (N := 11) hx hb hts iX2 hown hK hP 0 rfl rfl 0 (by decide) f56 (fun _ h9 => h9) rfl dX3_goesBefore_87 ?_
        refine lv_iload_n hx hb dX3_goesBefore_90 rfl (lv_at hl 5 rfl) ?_
        refine r_ild (k := y) hx hb hK hP 1 rfl (by omega) (by decide) dX3_goesBefore_91 ?_
        refine lv_icmp_le (tgt := 99) hx hb dX3_goesBefore_92 (by decide) (fun h_4 => ?_) (fun h_4 => ?_)
        · have h_4 := h_4
          refine lv_iconst (v := (nI 0)) hx hb dX3_goesBefore_99 (by decide) ?_
          exact ret_z (u := ()) hQ hx hb hrt hlk hS dX3_goesBefore_100 (by decide) hP (by simp [gbB, spB, h_1, h_2, h_3, h_4])
        · have h_4 := h_4
          refine lv_iconst (v := (nI 1)) hx hb dX3_goesBefore_95 (by decide) ?_
          refine lv_goto (tgt := 100) hx hb dX3_goesBefore_96 (by decide) ?_
          exact ret_z (u := ()) hQ hx hb hrt hlk hS dX3_goesBefore_100 (by decide) hP (by simp [gbB, spB, h_1, h_2, h_3, h_4])
      · have h_3 := h_3
        refine lv_aload_n hx hb dX3_goesBefore_59 rfl (lv_at hl 3 rfl) ?_
        refine va_get (D := D) (ci := 2) (v := .ref (a 2)) (C := RX2) (T := TX2) (N := 11) hx hb hts iX2 hown hK hP 0 rfl rfl 1 (by decide) f53 (fun _ h9 => h9) rfl dX3_goesBefore_60 ?_
        refine lv_iload_n hx hb dX3_goesBefore_63 rfl (lv_at hl 4 rfl) ?_
        refine r_ild (k := x) hx hb hK hP 2 rfl (by omega) (by decide) dX3_goesBefore_64 ?_
        refine lv_aload_n hx hb dX3_goesBefore_65 rfl (lv_at hl 3 rfl) ?_
        refine va_get (D := D) (ci := 2) (v := .ref (a 2)) (C := RX2) (T := TX2) (N := 11) hx hb hts iX2 hown hK hP 0 rfl rfl 1 (by decide) f53 (fun _ h9 => h9) rfl dX3_goesBefore_66 ?_
        refine lv_iload_n hx hb dX3_goesBefore_69 rfl (lv_at hl 5 rfl) ?_
        refine r_ild (k := y) hx hb hK hP 2 rfl (by omega) (by decide) dX3_goesBefore_70 ?_
        refine lv_icmp_ge (tgt := 78) hx hb dX3_goesBefore_71 (by decide) (fun h_5 => ?_) (fun h_5 => ?_)
        · have h_5 := h_5
          refine lv_iconst (v := (nI 0)) hx hb dX3_goesBefore_78 (by decide) ?_
          exact ret_z (u := ()) hQ hx hb hrt hlk hS dX3_goesBefore_79 (by decide) hP (by simp [gbB, spB, h_1, h_2, h_3, h_5])
        · have h_5 := h_5
          refine lv_iconst (v := (nI 1)) hx hb dX3_goesBefore_74 (by decide) ?_
          refine lv_goto (tgt := 79) hx hb dX3_goesBefore_75 (by decide) ?_
          exact ret_z (u := ()) hQ hx hb hrt hlk hS dX3_goesBefore_79 (by decide) hP (by simp [gbB, spB, h_1, h_2, h_3, h_5])
    · have h_2 := h_2
      refine lv_iconst (v := (nI 1)) hx hb dX3_goesBefore_27 (by decide) ?_
      refine lv_goto (tgt := 32) hx hb dX3_goesBefore_28 (by decide) ?_
      refine lv_istore (lv' := [(5, .int (nI 1)), (4, .int (nI 0)), (0, .ref (b 0)), (1, .ref (a 0)), (2, .int (nI x)), (3, .int (nI y))]) hx hb dX3_goesBefore_32 hl (by decide) rfl (fun ls hl => ?_)
      refine lv_iload hx hb dX3_goesBefore_34 (lv_at hl 1 rfl) ?_
      refine lv_iload hx hb dX3_goesBefore_36 (lv_at hl 0 rfl) ?_
      refine lv_icmp_eq (tgt := 44) hx hb dX3_goesBefore_38 (by decide) (fun h => absurd h (by decide)) (fun _ => ?_)
      refine lv_iload hx hb dX3_goesBefore_41 (lv_at hl 0 rfl) ?_
      exact ret_z (u := ()) hQ hx hb hrt hlk hS dX3_goesBefore_43 (by decide) hP (by simp [gbB, spB, h_1, h_2])
  · have h_1 := h_1
    refine lv_iconst (v := (nI 1)) hx hb dX3_goesBefore_10 (by decide) ?_
    refine lv_goto (tgt := 15) hx hb dX3_goesBefore_11 (by decide) ?_
    refine lv_istore (lv' := [(4, .int (nI 1)), (0, .ref (b 0)), (1, .ref (a 0)), (2, .int (nI x)), (3, .int (nI y))]) hx hb dX3_goesBefore_15 hl (by decide) rfl (fun ls hl => ?_)
    refine lv_aload_n hx hb dX3_goesBefore_17 rfl (lv_at hl 2 rfl) ?_
    refine va_get (D := D) (ci := 2) (v := .ref (a 3)) (C := RX2) (T := TX2) (N := 11) hx hb hts iX2 hown hK hP 0 rfl rfl 2 (by decide) f50 (fun _ h9 => h9) rfl dX3_goesBefore_18 ?_
    refine lv_iload_n hx hb dX3_goesBefore_21 rfl (lv_at hl 4 rfl) ?_
    refine r_ild (k := y) hx hb hK hP 3 rfl (by omega) (by decide) dX3_goesBefore_22 ?_
    refine lv_iconst (v := (nI 2)) hx hb dX3_goesBefore_23 (by decide) ?_
    refine lv_icmp_lt (tgt := 31) hx hb dX3_goesBefore_24 (by decide) (fun h_6 => ?_) (fun h_6 => ?_)
    · have h_6 := h_6
      refine lv_iconst (v := (nI 0)) hx hb dX3_goesBefore_31 (by decide) ?_
      refine lv_istore (lv' := [(5, .int (nI 0)), (4, .int (nI 1)), (0, .ref (b 0)), (1, .ref (a 0)), (2, .int (nI x)), (3, .int (nI y))]) hx hb dX3_goesBefore_32 hl (by decide) rfl (fun ls hl => ?_)
      refine lv_iload hx hb dX3_goesBefore_34 (lv_at hl 1 rfl) ?_
      refine lv_iload hx hb dX3_goesBefore_36 (lv_at hl 0 rfl) ?_
      refine lv_icmp_eq (tgt := 44) hx hb dX3_goesBefore_38 (by decide) (fun h => absurd h (by decide)) (fun _ => ?_)
      refine lv_iload hx hb dX3_goesBefore_41 (lv_at hl 0 rfl) ?_
      exact ret_z (u := ()) hQ hx hb hrt hlk hS dX3_goesBefore_43 (by decide) hP (by simp [gbB, spB, h_1, h_6])
    · have h_6 := h_6
      refine lv_iconst (v := (nI 1)) hx hb dX3_goesBefore_27 (by decide) ?_
      refine lv_goto (tgt := 32) hx hb dX3_goesBefore_28 (by decide) ?_
      refine lv_istore (lv' := [(5, .int (nI 1)), (4, .int (nI 1)), (0, .ref (b 0)), (1, .ref (a 0)), (2, .int (nI x)), (3, .int (nI y))]) hx hb dX3_goesBefore_32 hl (by decide) rfl (fun ls hl => ?_)
      refine lv_iload hx hb dX3_goesBefore_34 (lv_at hl 1 rfl) ?_
      refine lv_iload hx hb dX3_goesBefore_36 (lv_at hl 0 rfl) ?_
      refine lv_icmp_eq (tgt := 44) hx hb dX3_goesBefore_38 (by decide) (fun _ => ?_) (fun h => absurd (by decide) h)
      refine lv_aload_n hx hb dX3_goesBefore_44 rfl (lv_at hl 3 rfl) ?_
      refine va_get (D := D) (ci := 2) (v := .ref (a 2)) (C := RX2) (T := TX2) (N := 11) hx hb hts iX2 hown hK hP 0 rfl rfl 1 (by decide) f53 (fun _ h9 => h9) rfl dX3_goesBefore_45 ?_
      refine lv_iload_n hx hb dX3_goesBefore_48 rfl (lv_at hl 4 rfl) ?_
      refine r_ild (k := x) hx hb hK hP 2 rfl (by omega) (by decide) dX3_goesBefore_49 ?_
      refine lv_aload_n hx hb dX3_goesBefore_50 rfl (lv_at hl 3 rfl) ?_
      refine va_get (D := D) (ci := 2) (v := .ref (a 2)) (C := RX2) (T := TX2) (N := 11) hx hb hts iX2 hown hK hP 0 rfl rfl 1 (by decide) f53 (fun _ h9 => h9) rfl dX3_goesBefore_51 ?_
      refine lv_iload_n hx hb dX3_goesBefore_54 rfl (lv_at hl 5 rfl) ?_
      refine r_ild (k := y) hx hb hK hP 2 rfl (by omega) (by decide) dX3_goesBefore_55 ?_
      refine lv_icmp_eq (tgt := 80) hx hb dX3_goesBefore_56 (by decide) (fun h_7 => ?_) (fun h_7 => ?_)
      · have h_7 := h_7
        refine lv_aload_n hx hb dX3_goesBefore_80 rfl (lv_at hl 3 rfl) ?_
        refine va_get (D := D) (ci := 2) (v := .ref (a 1)) (C := RX2) (T := TX2) (N := 11) hx hb hts iX2 hown hK hP 0 rfl rfl 0 (by decide) f56 (fun _ h9 => h9) rfl dX3_goesBefore_81 ?_
        refine lv_iload_n hx hb dX3_goesBefore_84 rfl (lv_at hl 4 rfl) ?_
        refine r_ild (k := x) hx hb hK hP 1 rfl (by omega) (by decide) dX3_goesBefore_85 ?_
        refine lv_aload_n hx hb dX3_goesBefore_86 rfl (lv_at hl 3 rfl) ?_
        refine va_get (D := D) (ci := 2) (v := .ref (a 1)) (C := RX2) (T := TX2) (N := 11) hx hb hts iX2 hown hK hP 0 rfl rfl 0 (by decide) f56 (fun _ h9 => h9) rfl dX3_goesBefore_87 ?_
        refine lv_iload_n hx hb dX3_goesBefore_90 rfl (lv_at hl 5 rfl) ?_
        refine r_ild (k := y) hx hb hK hP 1 rfl (by omega) (by decide) dX3_goesBefore_91 ?_
        refine lv_icmp_le (tgt := 99) hx hb dX3_goesBefore_92 (by decide) (fun h_8 => ?_) (fun h_8 => ?_)
        · have h_8 := h_8
          refine lv_iconst (v := (nI 0)) hx hb dX3_goesBefore_99 (by decide) ?_
          exact ret_z (u := ()) hQ hx hb hrt hlk hS dX3_goesBefore_100 (by decide) hP (by simp [gbB, spB, h_1, h_6, h_7, h_8])
        · have h_8 := h_8
          refine lv_iconst (v := (nI 1)) hx hb dX3_goesBefore_95 (by decide) ?_
          refine lv_goto (tgt := 100) hx hb dX3_goesBefore_96 (by decide) ?_
          exact ret_z (u := ()) hQ hx hb hrt hlk hS dX3_goesBefore_100 (by decide) hP (by simp [gbB, spB, h_1, h_6, h_7, h_8])
      · have h_7 := h_7
        refine lv_aload_n hx hb dX3_goesBefore_59 rfl (lv_at hl 3 rfl) ?_
        refine va_get (D := D) (ci := 2) (v := .ref (a 2)) (C := RX2) (T := TX2) (N := 11) hx hb hts iX2 hown hK hP 0 rfl rfl 1 (by decide) f53 (fun _ h9 => h9) rfl dX3_goesBefore_60 ?_
        refine lv_iload_n hx hb dX3_goesBefore_63 rfl (lv_at hl 4 rfl) ?_
        refine r_ild (k := x) hx hb hK hP 2 rfl (by omega) (by decide) dX3_goesBefore_64 ?_
        refine lv_aload_n hx hb dX3_goesBefore_65 rfl (lv_at hl 3 rfl) ?_
        refine va_get (D := D) (ci := 2) (v := .ref (a 2)) (C := RX2) (T := TX2) (N := 11) hx hb hts iX2 hown hK hP 0 rfl rfl 1 (by decide) f53 (fun _ h9 => h9) rfl dX3_goesBefore_66 ?_
        refine lv_iload_n hx hb dX3_goesBefore_69 rfl (lv_at hl 5 rfl) ?_
        refine r_ild (k := y) hx hb hK hP 2 rfl (by omega) (by decide) dX3_goesBefore_70 ?_
        refine lv_icmp_ge (tgt := 78) hx hb dX3_goesBefore_71 (by decide) (fun h_9 => ?_) (fun h_9 => ?_)
        · have h_9 := h_9
          refine lv_iconst (v := (nI 0)) hx hb dX3_goesBefore_78 (by decide) ?_
          exact ret_z (u := ()) hQ hx hb hrt hlk hS dX3_goesBefore_79 (by decide) hP (by simp [gbB, spB, h_1, h_6, h_7, h_9])
        · have h_9 := h_9
          refine lv_iconst (v := (nI 1)) hx hb dX3_goesBefore_74 (by decide) ?_
          refine lv_goto (tgt := 79) hx hb dX3_goesBefore_75 (by decide) ?_
          exact ret_z (u := ()) hQ hx hb hrt hlk hS dX3_goesBefore_79 (by decide) hP (by simp [gbB, spB, h_1, h_6, h_7, h_9])

abbrev rX3_chooseVictim : Room := { frames := 1, cells := 0, slots := 0, locals := 25 }
set_option maxHeartbeats 4000000 in
set_option maxRecDepth 100000 in
/-- chooseVictim -/
theorem c_X3_chooseVictim (l : Launch) (D : va_G) (cI cT : ClassId) (a : Nat → Nat) (F : FF) (Q0 : QQ) (qa : Nat → Int32) (b : Nat → Nat) (wa da : Nat → Nat) (S : Nat) (hSS : S < 2 ^ 8) : CN l D cI cT yX3_chooseVictim wsX3_chooseVictim rX3_chooseVictim [.ref (b 0), .ref (a 0), .int (nI S)] (brkW cI b wa da ++ tblW cI a F Q0 qa) (S := Unit) (fun v _ => v = bI (cvB F S 8)) (fun _ => brkW cI b wa da ++ tblW cI a F Q0 qa) := by
  refine CN.of (cc := cX3_chooseVictim) (maxL := 6) (ret := (some .int)) (by decide) rfl (Nat.le_of_ble_eq_true rfl) ?_
  intro p e s m args below meth c A Q hQ B hA H locs hP hK hD hS ls hl
  obtain ⟨hx, hb, hml, hrt, hts, hown, hlk⟩ := B
  have hl : lv_has ls 6 [(0, .ref (b 0)), (1, .ref (a 0)), (2, .int (nI S))] := hl
  refine lv_iconst (v := (-1)) hx hb dX3_chooseVictim_0 (by decide) ?_
  refine lv_istore_n (lv' := [(3, .int (-1)), (0, .ref (b 0)), (1, .ref (a 0)), (2, .int (nI S))]) hx hb dX3_chooseVictim_1 rfl hl (by decide) rfl (fun ls hl => ?_)
  refine lv_iconst (v := (nI 0)) hx hb dX3_chooseVictim_2 (by decide) ?_
  refine lv_istore (lv' := [(4, .int (nI 0)), (3, .int (-1)), (0, .ref (b 0)), (1, .ref (a 0)), (2, .int (nI S))]) hx hb dX3_chooseVictim_3 hl (by decide) rfl (fun ls hl => ?_)
  have L5 : ∀ (N : Nat) (i : Nat), (i ≤ 8) → (8 - i) < N → ∀ (H : Heap) (locs : List Loc), va_P D vwCl ([(b 0, .inr (3, [.ref (b 1), .ref (b 2)])), (b 1, .inl (cI, 8, .inl (fun z => nI (wa z)))), (b 2, .inl (cI, 8, .inl (fun z => nI (da z)))), (a 0, .inr (2, [.ref (a 1), .ref (a 2), .ref (a 3), .ref (a 4), .ref (a 5), .ref (a 6), .ref (a 7), .ref (a 8), .int (F 8 0), .int (F 8 1), .int (F 8 2)])), (a 1, .inl (cI, 8, .inl (F 0))), (a 2, .inl (cI, 8, .inl (F 1))), (a 3, .inl (cI, 8, .inl (F 2))), (a 4, .inl (cI, 8, .inl (F 3))), (a 5, .inl (cI, 8, .inl (F 4))), (a 6, .inl (cI, 80, .inl (F 5))), (a 7, .inl (cI, 80, .inl qa)), (a 8, .inl (cI, 10, .inl (fun z => nI ((qlen Q0) z))))]) H → va_D A ([(b 0, .inr (3, [.ref (b 1), .ref (b 2)])), (b 1, .inl (cI, 8, .inl (fun z => nI (wa z)))), (b 2, .inl (cI, 8, .inl (fun z => nI (da z)))), (a 0, .inr (2, [.ref (a 1), .ref (a 2), .ref (a 3), .ref (a 4), .ref (a 5), .ref (a 6), .ref (a 7), .ref (a 8), .int (F 8 0), .int (F 8 1), .int (F 8 2)])), (a 1, .inl (cI, 8, .inl (F 0))), (a 2, .inl (cI, 8, .inl (F 1))), (a 3, .inl (cI, 8, .inl (F 2))), (a 4, .inl (cI, 8, .inl (F 3))), (a 5, .inl (cI, 8, .inl (F 4))), (a 6, .inl (cI, 80, .inl (F 5))), (a 7, .inl (cI, 80, .inl qa)), (a 8, .inl (cI, 10, .inl (fun z => nI ((qlen Q0) z))))]) → va_S A s.heap H locs → ∀ ls : Array Slot, lv_has ls 6 [(0, .ref (b 0)), (1, .ref (a 0)), (2, .int (nI S)), (3, .int (bI (cvB F S i))), (4, .int (nI i))] → W p l e rX3_chooseVictim s m args below meth c H locs 0 0 Q (F0 m 5 ls []) := by
    intro N5
    induction N5 with
    | zero => intro i hi hN; exact absurd hN (Nat.not_lt_zero _)
    | succ N5 ih5 =>
      intro i hi hN H locs hP hD hS ls hl
      have hcv := cvB_le F S hi
      refine lv_iload hx hb dX3_chooseVictim_5 (lv_at hl 4 rfl) ?_
      refine lv_bipush (v := (nI 8)) hx hb dX3_chooseVictim_7 (by decide) ?_
      refine lv_icmp_ge (tgt := 59) hx hb dX3_chooseVictim_9 (by decide) (fun h_1 => ?_) (fun h_1 => ?_)
      · have h_1 := (nI_leI (a := 8) (b := i) (by first | omega | exact bits_lt31 _ | exact bitN_lt _ _ | exact bool_lt _ | exact and_lt31 _ _ _ _ | exact Nat.lt_of_le_of_lt (dst_lt _ _ _ (by omega) _) (by decide) | exact Nat.lt_of_le_of_lt (nrB_le _ _ _ (by omega)).2 (by decide) | decide) (by first | omega | exact bits_lt31 _ | exact bitN_lt _ _ | exact bool_lt _ | exact and_lt31 _ _ _ _ | exact Nat.lt_of_le_of_lt (dst_lt _ _ _ (by omega) _) (by decide) | exact Nat.lt_of_le_of_lt (nrB_le _ _ _ (by omega)).2 (by decide) | decide)).mp h_1
        refine lv_iload_n hx hb dX3_chooseVictim_59 rfl (lv_at hl 3 rfl) ?_
        exact ret_i (u := ()) hQ hx hb hrt hlk hS dX3_chooseVictim_60 hP (by rw [show i = 8 by omega])
      · have h_1 := mt (nI_leI (a := 8) (b := i) (by first | omega | exact bits_lt31 _ | exact bitN_lt _ _ | exact bool_lt _ | exact and_lt31 _ _ _ _ | exact Nat.lt_of_le_of_lt (dst_lt _ _ _ (by omega) _) (by decide) | exact Nat.lt_of_le_of_lt (nrB_le _ _ _ (by omega)).2 (by decide) | decide) (by first | omega | exact bits_lt31 _ | exact bitN_lt _ _ | exact bool_lt _ | exact and_lt31 _ _ _ _ | exact Nat.lt_of_le_of_lt (dst_lt _ _ _ (by omega) _) (by decide) | exact Nat.lt_of_le_of_lt (nrB_le _ _ _ (by omega)).2 (by decide) | decide)).mpr h_1
        refine lv_iload_n hx hb dX3_chooseVictim_12 rfl (lv_at hl 2 rfl) ?_
        refine lv_iload hx hb dX3_chooseVictim_13 (lv_at hl 4 rfl) ?_
        refine lv_ishr hx hb dX3_chooseVictim_15 ?_
        refine lv_iconst (v := (nI 1)) hx hb dX3_chooseVictim_16 (by decide) ?_
        refine lv_iand hx hb dX3_chooseVictim_17 ?_
        refine tpe (y := nI (bitN S i)) (tb_I (Nat.lt_of_lt_of_le hSS (by decide)) (by omega)) ?_
        refine lv_iconst (v := (nI 1)) hx hb dX3_chooseVictim_18 (by decide) ?_
        refine lv_icmp_ne (tgt := 26) hx hb dX3_chooseVictim_19 (by decide) (fun h_2 => ?_) (fun h_2 => ?_)
        · have h_2 := mt (nI_eq (a := (bitN S i)) (b := 1) (by first | omega | exact bits_lt31 _ | exact bitN_lt _ _ | exact bool_lt _ | exact and_lt31 _ _ _ _ | exact Nat.lt_of_le_of_lt (dst_lt _ _ _ (by omega) _) (by decide) | exact Nat.lt_of_le_of_lt (nrB_le _ _ _ (by omega)).2 (by decide) | decide) (by first | omega | exact bits_lt31 _ | exact bitN_lt _ _ | exact bool_lt _ | exact and_lt31 _ _ _ _ | exact Nat.lt_of_le_of_lt (dst_lt _ _ _ (by omega) _) (by decide) | exact Nat.lt_of_le_of_lt (nrB_le _ _ _ (by omega)).2 (by decide) | decide)).mpr h_2
          refine lv_iconst (v := (nI 0)) hx hb dX3_chooseVictim_26 (by decide) ?_
          refine lv_istore (lv' := [(5, .int (nI 0)), (0, .ref (b 0)), (1, .ref (a 0)), (2, .int (nI S)), (3, .int (bI (cvB F S i))), (4, .int (nI i))]) hx hb dX3_chooseVictim_27 hl (by decide) rfl (fun ls hl => ?_)
          refine lv_iload hx hb dX3_chooseVictim_29 (lv_at hl 0 rfl) ?_
          refine lv_if_eq (tgt := 53) hx hb dX3_chooseVictim_31 (by decide) (fun _ => ?_) (fun h => absurd (by decide) h)
          refine lv_iinc (v := (nI (i + 1))) (lv' := [(4, .int (nI (i + 1))), (5, .int (nI 0)), (0, .ref (b 0)), (1, .ref (a 0)), (2, .int (nI S)), (3, .int (bI (cvB F S i)))]) hx hb dX3_chooseVictim_53 hl (k := 5) rfl (nI_add _ 1) (by decide) rfl (fun ls hl => ?_)
          refine lv_goto (tgt := 5) hx hb dX3_chooseVictim_56 (by decide) ?_
          rw [show (bI (cvB F S i)) = (bI (cvB F S (i + 1))) from (by rw [cvB, if_neg (fun q => h_2 (bitN_1.mpr q.1))])] at hl
          exact ih5 (i + 1) (by omega) (by omega) _ _ hP hD hS _ (lv_sub hl [2, 3, 4, 5, 0] rfl)
        · have h_2 := (nI_eq (a := (bitN S i)) (b := 1) (by first | omega | exact bits_lt31 _ | exact bitN_lt _ _ | exact bool_lt _ | exact and_lt31 _ _ _ _ | exact Nat.lt_of_le_of_lt (dst_lt _ _ _ (by omega) _) (by decide) | exact Nat.lt_of_le_of_lt (nrB_le _ _ _ (by omega)).2 (by decide) | decide) (by first | omega | exact bits_lt31 _ | exact bitN_lt _ _ | exact bool_lt _ | exact and_lt31 _ _ _ _ | exact Nat.lt_of_le_of_lt (dst_lt _ _ _ (by omega) _) (by decide) | exact Nat.lt_of_le_of_lt (nrB_le _ _ _ (by omega)).2 (by decide) | decide)).mp h_2
          refine lv_iconst (v := (nI 1)) hx hb dX3_chooseVictim_22 (by decide) ?_
          refine lv_goto (tgt := 27) hx hb dX3_chooseVictim_23 (by decide) ?_
          refine lv_istore (lv' := [(5, .int (nI 1)), (0, .ref (b 0)), (1, .ref (a 0)), (2, .int (nI S)), (3, .int (bI (cvB F S i))), (4, .int (nI i))]) hx hb dX3_chooseVictim_27 hl (by decide) rfl (fun ls hl => ?_)
          refine lv_iload hx hb dX3_chooseVictim_29 (lv_at hl 0 rfl) ?_
          refine lv_if_eq (tgt := 53) hx hb dX3_chooseVictim_31 (by decide) (fun h => absurd h (by decide)) (fun _ => ?_)
          refine lv_iload_n hx hb dX3_chooseVictim_34 rfl (lv_at hl 4 rfl) ?_
          refine lv_iconst (v := (-1)) hx hb dX3_chooseVictim_35 (by decide) ?_
          refine lv_icmp_eq (tgt := 50) hx hb dX3_chooseVictim_36 (by decide) (fun h_3 => ?_) (fun h_3 => ?_)
          · have h_3 := h_3
            refine lv_iload hx hb dX3_chooseVictim_50 (lv_at hl 5 rfl) ?_
            refine lv_istore_n (lv' := [(3, .int (nI i)), (5, .int (nI 1)), (0, .ref (b 0)), (1, .ref (a 0)), (2, .int (nI S)), (4, .int (nI i))]) hx hb dX3_chooseVictim_52 rfl hl (by decide) rfl (fun ls hl => ?_)
            refine lv_iinc (v := (nI (i + 1))) (lv' := [(4, .int (nI (i + 1))), (3, .int (nI i)), (5, .int (nI 1)), (0, .ref (b 0)), (1, .ref (a 0)), (2, .int (nI S))]) hx hb dX3_chooseVictim_53 hl (k := 5) rfl (nI_add _ 1) (by decide) rfl (fun ls hl => ?_)
            refine lv_goto (tgt := 5) hx hb dX3_chooseVictim_56 (by decide) ?_
            rw [show (nI i) = (bI (cvB F S (i + 1))) from (by rw [cvB, if_pos ⟨bitN_1.mp h_2, (Or.inl ((bI_m1 hcv).mp h_3))⟩]; exact (bI_some (by omega)).symm)] at hl
            exact ih5 (i + 1) (by omega) (by omega) _ _ hP hD hS _ (lv_sub hl [3, 4, 5, 1, 0] rfl)
          · have h_3 := h_3
            have hv8 := mt (bI_m1 hcv).mpr h_3
            rw [bI_some hv8] at hl
            refine lv_aload_n hx hb dX3_chooseVictim_39 rfl (lv_at hl 1 rfl) ?_
            refine lv_aload_n hx hb dX3_chooseVictim_40 rfl (lv_at hl 2 rfl) ?_
            refine lv_iload hx hb dX3_chooseVictim_41 (lv_at hl 5 rfl) ?_
            refine lv_iload_n hx hb dX3_chooseVictim_43 rfl (lv_at hl 4 rfl) ?_
            refine call_i (X := [(b 0, .inr (3, [.ref (b 1), .ref (b 2)])), (b 1, .inl (cI, 8, .inl (fun z => nI (wa z)))), (b 2, .inl (cI, 8, .inl (fun z => nI (da z))))]) (Z := []) (As := [.ref (a 0), .int (nI i), .int (nI (cvB F S i))]) (rest := []) ⟨hx, hb, hml, hown, hts⟩ (c_X3_goesBefore l D cI cT a F Q0 qa b i (cvB F S i) (by omega) (by omega)) (cwV 3 hts gX3_chooseVictim_X3_goesBefore rfl rfl rfl (by decide +kernel) ⟨Nat.le_of_ble_eq_true rfl, Nat.le_of_ble_eq_true rfl⟩) hK hP hD hS hA (va_recv hK hP (ci := 3) (q0 := 0) rfl rfl) (fun _ => rfl) rfl hl.1 rfl (Nat.le_of_ble_eq_true rfl) ⟨Nat.zero_le _, Nat.zero_le _⟩ dX3_chooseVictim_44 (fun rv u H locs hp hP hD hS => ?_)
            obtain rfl := hp
            have hP : va_P D vwCl ([(b 0, .inr (3, [.ref (b 1), .ref (b 2)])), (b 1, .inl (cI, 8, .inl (fun z => nI (wa z)))), (b 2, .inl (cI, 8, .inl (fun z => nI (da z)))), (a 0, .inr (2, [.ref (a 1), .ref (a 2), .ref (a 3), .ref (a 4), .ref (a 5), .ref (a 6), .ref (a 7), .ref (a 8), .int (F 8 0), .int (F 8 1), .int (F 8 2)])), (a 1, .inl (cI, 8, .inl (F 0))), (a 2, .inl (cI, 8, .inl (F 1))), (a 3, .inl (cI, 8, .inl (F 2))), (a 4, .inl (cI, 8, .inl (F 3))), (a 5, .inl (cI, 8, .inl (F 4))), (a 6, .inl (cI, 80, .inl (F 5))), (a 7, .inl (cI, 80, .inl qa)), (a 8, .inl (cI, 10, .inl (fun z => nI ((qlen Q0) z))))]) H := hP
            have hD : va_D A ([(b 0, .inr (3, [.ref (b 1), .ref (b 2)])), (b 1, .inl (cI, 8, .inl (fun z => nI (wa z)))), (b 2, .inl (cI, 8, .inl (fun z => nI (da z)))), (a 0, .inr (2, [.ref (a 1), .ref (a 2), .ref (a 3), .ref (a 4), .ref (a 5), .ref (a 6), .ref (a 7), .ref (a 8), .int (F 8 0), .int (F 8 1), .int (F 8 2)])), (a 1, .inl (cI, 8, .inl (F 0))), (a 2, .inl (cI, 8, .inl (F 1))), (a 3, .inl (cI, 8, .inl (F 2))), (a 4, .inl (cI, 8, .inl (F 3))), (a 5, .inl (cI, 8, .inl (F 4))), (a 6, .inl (cI, 80, .inl (F 5))), (a 7, .inl (cI, 80, .inl qa)), (a 8, .inl (cI, 10, .inl (fun z => nI ((qlen Q0) z))))]) := hD
            refine lv_if_eq (tgt := 53) hx hb dX3_chooseVictim_47 (by decide) (fun h_4 => ?_) (fun h_4 => ?_)
            · have h_4 := (nI_eq (a := ((gbB F i (cvB F S i)).toNat)) (b := 0) (by first | omega | exact bits_lt31 _ | exact bitN_lt _ _ | exact bool_lt _ | exact and_lt31 _ _ _ _ | exact Nat.lt_of_le_of_lt (dst_lt _ _ _ (by omega) _) (by decide) | exact Nat.lt_of_le_of_lt (nrB_le _ _ _ (by omega)).2 (by decide) | decide) (by first | omega | exact bits_lt31 _ | exact bitN_lt _ _ | exact bool_lt _ | exact and_lt31 _ _ _ _ | exact Nat.lt_of_le_of_lt (dst_lt _ _ _ (by omega) _) (by decide) | exact Nat.lt_of_le_of_lt (nrB_le _ _ _ (by omega)).2 (by decide) | decide)).mp h_4
              refine lv_iinc (v := (nI (i + 1))) (lv' := [(4, .int (nI (i + 1))), (5, .int (nI 1)), (0, .ref (b 0)), (1, .ref (a 0)), (2, .int (nI S)), (3, .int (nI (cvB F S i)))]) hx hb dX3_chooseVictim_53 hl (k := 5) rfl (nI_add _ 1) (by decide) rfl (fun ls hl => ?_)
              refine lv_goto (tgt := 5) hx hb dX3_chooseVictim_56 (by decide) ?_
              rw [show (nI (cvB F S i)) = (bI (cvB F S (i + 1))) from (by rw [cvB, if_neg (fun q => q.2.elim hv8 (fun z => by rw [z] at h_4; exact absurd h_4 (by decide)))]; exact (bI_some hv8).symm)] at hl
              exact ih5 (i + 1) (by omega) (by omega) _ _ hP hD hS _ (lv_sub hl [2, 3, 4, 5, 0] rfl)
            · have h_4 := mt (nI_eq (a := ((gbB F i (cvB F S i)).toNat)) (b := 0) (by first | omega | exact bits_lt31 _ | exact bitN_lt _ _ | exact bool_lt _ | exact and_lt31 _ _ _ _ | exact Nat.lt_of_le_of_lt (dst_lt _ _ _ (by omega) _) (by decide) | exact Nat.lt_of_le_of_lt (nrB_le _ _ _ (by omega)).2 (by decide) | decide) (by first | omega | exact bits_lt31 _ | exact bitN_lt _ _ | exact bool_lt _ | exact and_lt31 _ _ _ _ | exact Nat.lt_of_le_of_lt (dst_lt _ _ _ (by omega) _) (by decide) | exact Nat.lt_of_le_of_lt (nrB_le _ _ _ (by omega)).2 (by decide) | decide)).mpr h_4
              refine lv_iload hx hb dX3_chooseVictim_50 (lv_at hl 5 rfl) ?_
              refine lv_istore_n (lv' := [(3, .int (nI i)), (5, .int (nI 1)), (0, .ref (b 0)), (1, .ref (a 0)), (2, .int (nI S)), (4, .int (nI i))]) hx hb dX3_chooseVictim_52 rfl hl (by decide) rfl (fun ls hl => ?_)
              refine lv_iinc (v := (nI (i + 1))) (lv' := [(4, .int (nI (i + 1))), (3, .int (nI i)), (5, .int (nI 1)), (0, .ref (b 0)), (1, .ref (a 0)), (2, .int (nI S))]) hx hb dX3_chooseVictim_53 hl (k := 5) rfl (nI_add _ 1) (by decide) rfl (fun ls hl => ?_)
              refine lv_goto (tgt := 5) hx hb dX3_chooseVictim_56 (by decide) ?_
              rw [show (nI i) = (bI (cvB F S (i + 1))) from (by rw [cvB, if_pos ⟨bitN_1.mp h_2, (Or.inr (by cases hz : gbB F i (cvB F S i) with | true => rfl | false => rw [hz] at h_4; exact absurd rfl h_4))⟩]; exact (bI_some (by omega)).symm)] at hl
              exact ih5 (i + 1) (by omega) (by omega) _ _ hP hD hS _ (lv_sub hl [3, 4, 5, 1, 0] rfl)
  rw [show (-1) = (bI (cvB F S 0)) from (by simp [cvB, bI])] at hl
  exact L5 _ 0 (Nat.zero_le _) (Nat.lt_succ_self _) _ _ hP hD hS _ (lv_sub hl [2, 3, 4, 1, 0] rfl)

abbrev rX3_measure : Room := { frames := 2, cells := 0, slots := 0, locals := 49 }
set_option maxHeartbeats 4000000 in
set_option maxRecDepth 100000 in
/-- measure -/
theorem c_X3_measure (l : Launch) (D : va_G) (cI cT : ClassId) (a : Nat → Nat) (F : FF) (Q0 : QQ) (qa : Nat → Int32) (b : Nat → Nat) (wa da : Nat → Nat) (s0 : Nat) (hs : s0 < 8) (hJ : JJ F Q0) (hRQ : RQ Q0 qa) : CV l D cI cT yX3_measure wsX3_measure rX3_measure [.ref (b 0), .ref (a 0), .int (nI s0)] (brkW cI b wa da ++ tblW cI a F Q0 qa) (S := Unit) (fun _ => True) (fun _ => brkW cI b (aWS F Q0) (dst F Q0 s0 7) ++ tblW cI a F Q0 qa) := by
  refine CV.of (cc := cX3_measure) (maxL := 7) (ret := none) (by decide) rfl (Nat.le_of_ble_eq_true rfl) ?_
  intro p e s m args below meth c A Q hQ B hA H locs hP hK hD hS ls hl
  obtain ⟨hx, hb, hml, hrt, hts, hown, hlk⟩ := B
  have hl : lv_has ls 7 [(0, .ref (b 0)), (1, .ref (a 0)), (2, .int (nI s0))] := hl
  have iX3 : ∀ w ∈ u_ws RX3 TX3 2, w ∈ wsX3_measure := by decide +kernel
  have f15 := hts (.fieldLink RX3 15 "LockManager$RingBreaker" "distances" "[I") (by decide +kernel)
  have f9 := hts (.fieldLink RX3 9 "LockManager$RingBreaker" "waits" "[I") (by decide +kernel)
  refine lv_iconst (v := (nI 0)) hx hb dX3_measure_0 (by decide) ?_
  refine lv_istore_n (lv' := [(3, .int (nI 0)), (0, .ref (b 0)), (1, .ref (a 0)), (2, .int (nI s0))]) hx hb dX3_measure_1 rfl hl (by decide) rfl (fun ls hl => ?_)
  have L2 : ∀ (N : Nat) (i : Nat), (i ≤ 8) → (8 - i) < N → ∀ (H : Heap) (locs : List Loc), va_P D vwCl ([(b 0, .inr (3, [.ref (b 1), .ref (b 2)])), (b 1, .inl (cI, 8, .inl (fun z => nI ((mixN (aWS F Q0) wa i) z)))), (b 2, .inl (cI, 8, .inl (fun z => nI ((mixN (dst F Q0 s0 0) da i) z)))), (a 0, .inr (2, [.ref (a 1), .ref (a 2), .ref (a 3), .ref (a 4), .ref (a 5), .ref (a 6), .ref (a 7), .ref (a 8), .int (F 8 0), .int (F 8 1), .int (F 8 2)])), (a 1, .inl (cI, 8, .inl (F 0))), (a 2, .inl (cI, 8, .inl (F 1))), (a 3, .inl (cI, 8, .inl (F 2))), (a 4, .inl (cI, 8, .inl (F 3))), (a 5, .inl (cI, 8, .inl (F 4))), (a 6, .inl (cI, 80, .inl (F 5))), (a 7, .inl (cI, 80, .inl qa)), (a 8, .inl (cI, 10, .inl (fun z => nI ((qlen Q0) z))))]) H → va_D A ([(b 0, .inr (3, [.ref (b 1), .ref (b 2)])), (b 1, .inl (cI, 8, .inl (fun z => nI ((mixN (aWS F Q0) wa i) z)))), (b 2, .inl (cI, 8, .inl (fun z => nI ((mixN (dst F Q0 s0 0) da i) z)))), (a 0, .inr (2, [.ref (a 1), .ref (a 2), .ref (a 3), .ref (a 4), .ref (a 5), .ref (a 6), .ref (a 7), .ref (a 8), .int (F 8 0), .int (F 8 1), .int (F 8 2)])), (a 1, .inl (cI, 8, .inl (F 0))), (a 2, .inl (cI, 8, .inl (F 1))), (a 3, .inl (cI, 8, .inl (F 2))), (a 4, .inl (cI, 8, .inl (F 3))), (a 5, .inl (cI, 8, .inl (F 4))), (a 6, .inl (cI, 80, .inl (F 5))), (a 7, .inl (cI, 80, .inl qa)), (a 8, .inl (cI, 10, .inl (fun z => nI ((qlen Q0) z))))]) → va_S A s.heap H locs → ∀ ls : Array Slot, lv_has ls 7 [(0, .ref (b 0)), (1, .ref (a 0)), (2, .int (nI s0)), (3, .int (nI i))] → W p l e rX3_measure s m args below meth c H locs 0 0 Q (F0 m 2 ls []) := by
    intro N2
    induction N2 with
    | zero => intro i hi hN; exact absurd hN (Nat.not_lt_zero _)
    | succ N2 ih2 =>
      intro i hi hN H locs hP hD hS ls hl
      refine lv_iload_n hx hb dX3_measure_2 rfl (lv_at hl 3 rfl) ?_
      refine lv_bipush (v := (nI 8)) hx hb dX3_measure_3 (by decide) ?_
      refine lv_icmp_ge (tgt := 42) hx hb dX3_measure_5 (by decide) (fun h_1 => ?_) (fun h_1 => ?_)
      · have h_1 := (nI_leI (a := 8) (b := i) (by first | omega | exact bits_lt31 _ | exact bitN_lt _ _ | exact bool_lt _ | exact and_lt31 _ _ _ _ | exact Nat.lt_of_le_of_lt (dst_lt _ _ _ (by omega) _) (by decide) | exact Nat.lt_of_le_of_lt (nrB_le _ _ _ (by omega)).2 (by decide) | decide) (by first | omega | exact bits_lt31 _ | exact bitN_lt _ _ | exact bool_lt _ | exact and_lt31 _ _ _ _ | exact Nat.lt_of_le_of_lt (dst_lt _ _ _ (by omega) _) (by decide) | exact Nat.lt_of_le_of_lt (nrB_le _ _ _ (by omega)).2 (by decide) | decide)).mp h_1
        have hD := hD.set (p := 1) (e := .inl (cI, 8, .inl (fun z => nI ((aWS F Q0) z)))) rfl
        have hP := P_set (fun z => nI ((aWS F Q0) z)) hP 1 rfl (fun j hj => (by rw [mixN, if_pos (by omega)]))
        have hP : va_P D vwCl ([(b 0, .inr (3, [.ref (b 1), .ref (b 2)])), (b 1, .inl (cI, 8, .inl (fun z => nI ((aWS F Q0) z)))), (b 2, .inl (cI, 8, .inl (fun z => nI ((mixN (dst F Q0 s0 0) da i) z)))), (a 0, .inr (2, [.ref (a 1), .ref (a 2), .ref (a 3), .ref (a 4), .ref (a 5), .ref (a 6), .ref (a 7), .ref (a 8), .int (F 8 0), .int (F 8 1), .int (F 8 2)])), (a 1, .inl (cI, 8, .inl (F 0))), (a 2, .inl (cI, 8, .inl (F 1))), (a 3, .inl (cI, 8, .inl (F 2))), (a 4, .inl (cI, 8, .inl (F 3))), (a 5, .inl (cI, 8, .inl (F 4))), (a 6, .inl (cI, 80, .inl (F 5))), (a 7, .inl (cI, 80, .inl qa)), (a 8, .inl (cI, 10, .inl (fun z => nI ((qlen Q0) z))))]) H := hP
        have hD : va_D A ([(b 0, .inr (3, [.ref (b 1), .ref (b 2)])), (b 1, .inl (cI, 8, .inl (fun z => nI ((aWS F Q0) z)))), (b 2, .inl (cI, 8, .inl (fun z => nI ((mixN (dst F Q0 s0 0) da i) z)))), (a 0, .inr (2, [.ref (a 1), .ref (a 2), .ref (a 3), .ref (a 4), .ref (a 5), .ref (a 6), .ref (a 7), .ref (a 8), .int (F 8 0), .int (F 8 1), .int (F 8 2)])), (a 1, .inl (cI, 8, .inl (F 0))), (a 2, .inl (cI, 8, .inl (F 1))), (a 3, .inl (cI, 8, .inl (F 2))), (a 4, .inl (cI, 8, .inl (F 3))), (a 5, .inl (cI, 8, .inl (F 4))), (a 6, .inl (cI, 80, .inl (F 5))), (a 7, .inl (cI, 80, .inl qa)), (a 8, .inl (cI, 10, .inl (fun z => nI ((qlen Q0) z))))]) := hD
        have hD := hD.set (p := 2) (e := .inl (cI, 8, .inl (fun z => nI ((dst F Q0 s0 0) z)))) rfl
        have hP := P_set (fun z => nI ((dst F Q0 s0 0) z)) hP 2 rfl (fun j hj => (by rw [mixN, if_pos (by omega)]))
        have hP : va_P D vwCl ([(b 0, .inr (3, [.ref (b 1), .ref (b 2)])), (b 1, .inl (cI, 8, .inl (fun z => nI ((aWS F Q0) z)))), (b 2, .inl (cI, 8, .inl (fun z => nI ((dst F Q0 s0 0) z)))), (a 0, .inr (2, [.ref (a 1), .ref (a 2), .ref (a 3), .ref (a 4), .ref (a 5), .ref (a 6), .ref (a 7), .ref (a 8), .int (F 8 0), .int (F 8 1), .int (F 8 2)])), (a 1, .inl (cI, 8, .inl (F 0))), (a 2, .inl (cI, 8, .inl (F 1))), (a 3, .inl (cI, 8, .inl (F 2))), (a 4, .inl (cI, 8, .inl (F 3))), (a 5, .inl (cI, 8, .inl (F 4))), (a 6, .inl (cI, 80, .inl (F 5))), (a 7, .inl (cI, 80, .inl qa)), (a 8, .inl (cI, 10, .inl (fun z => nI ((qlen Q0) z))))]) H := hP
        have hD : va_D A ([(b 0, .inr (3, [.ref (b 1), .ref (b 2)])), (b 1, .inl (cI, 8, .inl (fun z => nI ((aWS F Q0) z)))), (b 2, .inl (cI, 8, .inl (fun z => nI ((dst F Q0 s0 0) z)))), (a 0, .inr (2, [.ref (a 1), .ref (a 2), .ref (a 3), .ref (a 4), .ref (a 5), .ref (a 6), .ref (a 7), .ref (a 8), .int (F 8 0), .int (F 8 1), .int (F 8 2)])), (a 1, .inl (cI, 8, .inl (F 0))), (a 2, .inl (cI, 8, .inl (F 1))), (a 3, .inl (cI, 8, .inl (F 2))), (a 4, .inl (cI, 8, .inl (F 3))), (a 5, .inl (cI, 8, .inl (F 4))), (a 6, .inl (cI, 80, .inl (F 5))), (a 7, .inl (cI, 80, .inl qa)), (a 8, .inl (cI, 10, .inl (fun z => nI ((qlen Q0) z))))]) := hD
        refine lv_iconst (v := (nI 1)) hx hb dX3_measure_42 (by decide) ?_
        refine lv_iload_n hx hb dX3_measure_43 rfl (lv_at hl 2 rfl) ?_
        refine lv_ishl hx hb dX3_measure_44 ?_
        refine lv_istore_n (lv' := [(3, .int ((nI 1) <<< ((nI s0) &&& 31))), (0, .ref (b 0)), (1, .ref (a 0)), (2, .int (nI s0))]) hx hb dX3_measure_45 rfl hl (by decide) rfl (fun ls hl => ?_)
        refine lv_iconst (v := (nI 1)) hx hb dX3_measure_46 (by decide) ?_
        refine lv_istore (lv' := [(4, .int (nI 1)), (3, .int ((nI 1) <<< ((nI s0) &&& 31))), (0, .ref (b 0)), (1, .ref (a 0)), (2, .int (nI s0))]) hx hb dX3_measure_47 hl (by decide) rfl (fun ls hl => ?_)
        have L49 : ∀ (N : Nat) (k : Nat), (k ≤ 7) → (7 - k) < N → ∀ (H : Heap) (locs : List Loc), va_P D vwCl ([(b 0, .inr (3, [.ref (b 1), .ref (b 2)])), (b 1, .inl (cI, 8, .inl (fun z => nI ((aWS F Q0) z)))), (b 2, .inl (cI, 8, .inl (fun z => nI ((dst F Q0 s0 k) z)))), (a 0, .inr (2, [.ref (a 1), .ref (a 2), .ref (a 3), .ref (a 4), .ref (a 5), .ref (a 6), .ref (a 7), .ref (a 8), .int (F 8 0), .int (F 8 1), .int (F 8 2)])), (a 1, .inl (cI, 8, .inl (F 0))), (a 2, .inl (cI, 8, .inl (F 1))), (a 3, .inl (cI, 8, .inl (F 2))), (a 4, .inl (cI, 8, .inl (F 3))), (a 5, .inl (cI, 8, .inl (F 4))), (a 6, .inl (cI, 80, .inl (F 5))), (a 7, .inl (cI, 80, .inl qa)), (a 8, .inl (cI, 10, .inl (fun z => nI ((qlen Q0) z))))]) H → va_D A ([(b 0, .inr (3, [.ref (b 1), .ref (b 2)])), (b 1, .inl (cI, 8, .inl (fun z => nI ((aWS F Q0) z)))), (b 2, .inl (cI, 8, .inl (fun z => nI ((dst F Q0 s0 k) z)))), (a 0, .inr (2, [.ref (a 1), .ref (a 2), .ref (a 3), .ref (a 4), .ref (a 5), .ref (a 6), .ref (a 7), .ref (a 8), .int (F 8 0), .int (F 8 1), .int (F 8 2)])), (a 1, .inl (cI, 8, .inl (F 0))), (a 2, .inl (cI, 8, .inl (F 1))), (a 3, .inl (cI, 8, .inl (F 2))), (a 4, .inl (cI, 8, .inl (F 3))), (a 5, .inl (cI, 8, .inl (F 4))), (a 6, .inl (cI, 80, .inl (F 5))), (a 7, .inl (cI, 80, .inl qa)), (a 8, .inl (cI, 10, .inl (fun z => nI ((qlen Q0) z))))]) → va_S A s.heap H locs → ∀ ls : Array Slot, lv_has ls 7 [(0, .ref (b 0)), (1, .ref (a 0)), (2, .int (nI s0)), (3, .int (nI (bits (fun u => dst F Q0 s0 k u == k) 8))), (4, .int (nI (k + 1)))] → W p l e rX3_measure s m args below meth c H locs 0 0 Q (F0 m 49 ls []) := by
          intro N49
          induction N49 with
          | zero => intro k hk hN; exact absurd hN (Nat.not_lt_zero _)
          | succ N49 ih49 =>
            intro k hk hN H locs hP hD hS ls hl
            refine lv_iload hx hb dX3_measure_49 (lv_at hl 4 rfl) ?_
            refine lv_bipush (v := (nI 8)) hx hb dX3_measure_51 (by decide) ?_
            refine lv_icmp_ge (tgt := 126) hx hb dX3_measure_53 (by decide) (fun h_2 => ?_) (fun h_2 => ?_)
            · have h_2 := (nI_leI (a := 8) (b := (k + 1)) (by first | omega | exact bits_lt31 _ | exact bitN_lt _ _ | exact bool_lt _ | exact and_lt31 _ _ _ _ | exact Nat.lt_of_le_of_lt (dst_lt _ _ _ (by omega) _) (by decide) | exact Nat.lt_of_le_of_lt (nrB_le _ _ _ (by omega)).2 (by decide) | decide) (by first | omega | exact bits_lt31 _ | exact bitN_lt _ _ | exact bool_lt _ | exact and_lt31 _ _ _ _ | exact Nat.lt_of_le_of_lt (dst_lt _ _ _ (by omega) _) (by decide) | exact Nat.lt_of_le_of_lt (nrB_le _ _ _ (by omega)).2 (by decide) | decide)).mp h_2
              exact ret_v (u := ()) hQ hx hb hrt hlk hS dX3_measure_126 (by have e : k = 7 := (by omega); subst e; exact hP) trivial
            · have h_2 := mt (nI_leI (a := 8) (b := (k + 1)) (by first | omega | exact bits_lt31 _ | exact bitN_lt _ _ | exact bool_lt _ | exact and_lt31 _ _ _ _ | exact Nat.lt_of_le_of_lt (dst_lt _ _ _ (by omega) _) (by decide) | exact Nat.lt_of_le_of_lt (nrB_le _ _ _ (by omega)).2 (by decide) | decide) (by first | omega | exact bits_lt31 _ | exact bitN_lt _ _ | exact bool_lt _ | exact and_lt31 _ _ _ _ | exact Nat.lt_of_le_of_lt (dst_lt _ _ _ (by omega) _) (by decide) | exact Nat.lt_of_le_of_lt (nrB_le _ _ _ (by omega)).2 (by decide) | decide)).mpr h_2
              refine lv_iconst (v := (nI 0)) hx hb dX3_measure_56 (by decide) ?_
              refine lv_istore (lv' := [(5, .int (nI 0)), (0, .ref (b 0)), (1, .ref (a 0)), (2, .int (nI s0)), (3, .int (nI (bits (fun u => dst F Q0 s0 k u == k) 8))), (4, .int (nI (k + 1)))]) hx hb dX3_measure_57 hl (by decide) rfl (fun ls hl => ?_)
              refine lv_iconst (v := (nI 0)) hx hb dX3_measure_59 (by decide) ?_
              refine lv_istore (lv' := [(6, .int (nI 0)), (5, .int (nI 0)), (0, .ref (b 0)), (1, .ref (a 0)), (2, .int (nI s0)), (3, .int (nI (bits (fun u => dst F Q0 s0 k u == k) 8))), (4, .int (nI (k + 1)))]) hx hb dX3_measure_60 hl (by decide) rfl (fun ls hl => ?_)
              have L62 : ∀ (N : Nat) (i : Nat), (i ≤ 8) → (8 - i) < N → ∀ (H : Heap) (locs : List Loc), va_P D vwCl ([(b 0, .inr (3, [.ref (b 1), .ref (b 2)])), (b 1, .inl (cI, 8, .inl (fun z => nI ((aWS F Q0) z)))), (b 2, .inl (cI, 8, .inl (fun z => nI ((mixN (dst F Q0 s0 (k + 1)) (dst F Q0 s0 k) i) z)))), (a 0, .inr (2, [.ref (a 1), .ref (a 2), .ref (a 3), .ref (a 4), .ref (a 5), .ref (a 6), .ref (a 7), .ref (a 8), .int (F 8 0), .int (F 8 1), .int (F 8 2)])), (a 1, .inl (cI, 8, .inl (F 0))), (a 2, .inl (cI, 8, .inl (F 1))), (a 3, .inl (cI, 8, .inl (F 2))), (a 4, .inl (cI, 8, .inl (F 3))), (a 5, .inl (cI, 8, .inl (F 4))), (a 6, .inl (cI, 80, .inl (F 5))), (a 7, .inl (cI, 80, .inl qa)), (a 8, .inl (cI, 10, .inl (fun z => nI ((qlen Q0) z))))]) H → va_D A ([(b 0, .inr (3, [.ref (b 1), .ref (b 2)])), (b 1, .inl (cI, 8, .inl (fun z => nI ((aWS F Q0) z)))), (b 2, .inl (cI, 8, .inl (fun z => nI ((mixN (dst F Q0 s0 (k + 1)) (dst F Q0 s0 k) i) z)))), (a 0, .inr (2, [.ref (a 1), .ref (a 2), .ref (a 3), .ref (a 4), .ref (a 5), .ref (a 6), .ref (a 7), .ref (a 8), .int (F 8 0), .int (F 8 1), .int (F 8 2)])), (a 1, .inl (cI, 8, .inl (F 0))), (a 2, .inl (cI, 8, .inl (F 1))), (a 3, .inl (cI, 8, .inl (F 2))), (a 4, .inl (cI, 8, .inl (F 3))), (a 5, .inl (cI, 8, .inl (F 4))), (a 6, .inl (cI, 80, .inl (F 5))), (a 7, .inl (cI, 80, .inl qa)), (a 8, .inl (cI, 10, .inl (fun z => nI ((qlen Q0) z))))]) → va_S A s.heap H locs → ∀ ls : Array Slot, lv_has ls 7 [(0, .ref (b 0)), (1, .ref (a 0)), (2, .int (nI s0)), (3, .int (nI (bits (fun u => dst F Q0 s0 k u == k) 8))), (4, .int (nI (k + 1))), (5, .int (nI (bits (fun u => dst F Q0 s0 (k + 1) u == k + 1) i))), (6, .int (nI i))] → W p l e rX3_measure s m args below meth c H locs 0 0 Q (F0 m 62 ls []) := by
                intro N62
                induction N62 with
                | zero => intro i hi hN; exact absurd hN (Nat.not_lt_zero _)
                | succ N62 ih62 =>
                  intro i hi hN H locs hP hD hS ls hl
                  refine lv_iload hx hb dX3_measure_62 (lv_at hl 6 rfl) ?_
                  refine lv_bipush (v := (nI 8)) hx hb dX3_measure_64 (by decide) ?_
                  refine lv_icmp_ge (tgt := 117) hx hb dX3_measure_66 (by decide) (fun h_3 => ?_) (fun h_3 => ?_)
                  · have h_3 := (nI_leI (a := 8) (b := i) (by first | omega | exact bits_lt31 _ | exact bitN_lt _ _ | exact bool_lt _ | exact and_lt31 _ _ _ _ | exact Nat.lt_of_le_of_lt (dst_lt _ _ _ (by omega) _) (by decide) | exact Nat.lt_of_le_of_lt (nrB_le _ _ _ (by omega)).2 (by decide) | decide) (by first | omega | exact bits_lt31 _ | exact bitN_lt _ _ | exact bool_lt _ | exact and_lt31 _ _ _ _ | exact Nat.lt_of_le_of_lt (dst_lt _ _ _ (by omega) _) (by decide) | exact Nat.lt_of_le_of_lt (nrB_le _ _ _ (by omega)).2 (by decide) | decide)).mp h_3
                    have hD := hD.set (p := 2) (e := .inl (cI, 8, .inl (fun z => nI ((dst F Q0 s0 (k + 1)) z)))) rfl
                    have hP := P_set (fun z => nI ((dst F Q0 s0 (k + 1)) z)) hP 2 rfl (fun j hj => (by rw [mixN, if_pos (by omega)]))
                    have hP : va_P D vwCl ([(b 0, .inr (3, [.ref (b 1), .ref (b 2)])), (b 1, .inl (cI, 8, .inl (fun z => nI ((aWS F Q0) z)))), (b 2, .inl (cI, 8, .inl (fun z => nI ((dst F Q0 s0 (k + 1)) z)))), (a 0, .inr (2, [.ref (a 1), .ref (a 2), .ref (a 3), .ref (a 4), .ref (a 5), .ref (a 6), .ref (a 7), .ref (a 8), .int (F 8 0), .int (F 8 1), .int (F 8 2)])), (a 1, .inl (cI, 8, .inl (F 0))), (a 2, .inl (cI, 8, .inl (F 1))), (a 3, .inl (cI, 8, .inl (F 2))), (a 4, .inl (cI, 8, .inl (F 3))), (a 5, .inl (cI, 8, .inl (F 4))), (a 6, .inl (cI, 80, .inl (F 5))), (a 7, .inl (cI, 80, .inl qa)), (a 8, .inl (cI, 10, .inl (fun z => nI ((qlen Q0) z))))]) H := hP
                    have hD : va_D A ([(b 0, .inr (3, [.ref (b 1), .ref (b 2)])), (b 1, .inl (cI, 8, .inl (fun z => nI ((aWS F Q0) z)))), (b 2, .inl (cI, 8, .inl (fun z => nI ((dst F Q0 s0 (k + 1)) z)))), (a 0, .inr (2, [.ref (a 1), .ref (a 2), .ref (a 3), .ref (a 4), .ref (a 5), .ref (a 6), .ref (a 7), .ref (a 8), .int (F 8 0), .int (F 8 1), .int (F 8 2)])), (a 1, .inl (cI, 8, .inl (F 0))), (a 2, .inl (cI, 8, .inl (F 1))), (a 3, .inl (cI, 8, .inl (F 2))), (a 4, .inl (cI, 8, .inl (F 3))), (a 5, .inl (cI, 8, .inl (F 4))), (a 6, .inl (cI, 80, .inl (F 5))), (a 7, .inl (cI, 80, .inl qa)), (a 8, .inl (cI, 10, .inl (fun z => nI ((qlen Q0) z))))]) := hD
                    refine lv_iload hx hb dX3_measure_117 (lv_at hl 5 rfl) ?_
                    refine lv_istore_n (lv' := [(3, .int (nI (bits (fun u => dst F Q0 s0 (k + 1) u == k + 1) i))), (0, .ref (b 0)), (1, .ref (a 0)), (2, .int (nI s0)), (4, .int (nI (k + 1))), (5, .int (nI (bits (fun u => dst F Q0 s0 (k + 1) u == k + 1) i))), (6, .int (nI i))]) hx hb dX3_measure_119 rfl hl (by decide) rfl (fun ls hl => ?_)
                    refine lv_iinc (v := (nI (k + 1 + 1))) (lv' := [(4, .int (nI (k + 1 + 1))), (3, .int (nI (bits (fun u => dst F Q0 s0 (k + 1) u == k + 1) i))), (0, .ref (b 0)), (1, .ref (a 0)), (2, .int (nI s0)), (5, .int (nI (bits (fun u => dst F Q0 s0 (k + 1) u == k + 1) i))), (6, .int (nI i))]) hx hb dX3_measure_120 hl (k := 4) rfl (nI_add _ 1) (by decide) rfl (fun ls hl => ?_)
                    refine lv_goto (tgt := 49) hx hb dX3_measure_123 (by decide) ?_
                    rw [show (nI (bits (fun u => dst F Q0 s0 (k + 1) u == k + 1) i)) = (nI (bits (fun u => dst F Q0 s0 (k + 1) u == (k + 1)) 8)) from (by rw [show i = 8 by omega])] at hl
                    exact ih49 (k + 1) (by omega) (by omega) _ _ hP hD hS _ (lv_sub hl [2, 3, 4, 1, 0] rfl)
                  · have h_3 := mt (nI_leI (a := 8) (b := i) (by first | omega | exact bits_lt31 _ | exact bitN_lt _ _ | exact bool_lt _ | exact and_lt31 _ _ _ _ | exact Nat.lt_of_le_of_lt (dst_lt _ _ _ (by omega) _) (by decide) | exact Nat.lt_of_le_of_lt (nrB_le _ _ _ (by omega)).2 (by decide) | decide) (by first | omega | exact bits_lt31 _ | exact bitN_lt _ _ | exact bool_lt _ | exact and_lt31 _ _ _ _ | exact Nat.lt_of_le_of_lt (dst_lt _ _ _ (by omega) _) (by decide) | exact Nat.lt_of_le_of_lt (nrB_le _ _ _ (by omega)).2 (by decide) | decide)).mpr h_3
                    refine lv_aload_n hx hb dX3_measure_69 rfl (lv_at hl 0 rfl) ?_
                    refine va_get (D := D) (ci := 3) (v := .ref (b 2)) (C := RX3) (T := TX3) (N := 2) hx hb hts iX3 hown hK hP 0 rfl rfl 1 (by decide) f15 (fun _ h9 => h9) rfl dX3_measure_70 ?_
                    refine lv_iload hx hb dX3_measure_73 (lv_at hl 6 rfl) ?_
                    refine r_ild (k := i) hx hb hK hP 2 rfl (by omega) (by decide) dX3_measure_75 ?_
                    refine tpe (y := (nI ((mixN (dst F Q0 s0 (k + 1)) (dst F Q0 s0 k) i) i))) rfl ?_
                    refine tpe (y := nI (dst F Q0 s0 k i)) (by rw [mixN, if_neg (Nat.lt_irrefl _)]) ?_
                    refine lv_bipush (v := (nI 8)) hx hb dX3_measure_76 (by decide) ?_
                    refine lv_icmp_ne (tgt := 111) hx hb dX3_measure_78 (by decide) (fun h_4 => ?_) (fun h_4 => ?_)
                    · have h_4 := mt (nI_eq (a := (dst F Q0 s0 k i)) (b := 8) (by first | omega | exact bits_lt31 _ | exact bitN_lt _ _ | exact bool_lt _ | exact and_lt31 _ _ _ _ | exact Nat.lt_of_le_of_lt (dst_lt _ _ _ (by omega) _) (by decide) | exact Nat.lt_of_le_of_lt (nrB_le _ _ _ (by omega)).2 (by decide) | decide) (by first | omega | exact bits_lt31 _ | exact bitN_lt _ _ | exact bool_lt _ | exact and_lt31 _ _ _ _ | exact Nat.lt_of_le_of_lt (dst_lt _ _ _ (by omega) _) (by decide) | exact Nat.lt_of_le_of_lt (nrB_le _ _ _ (by omega)).2 (by decide) | decide)).mpr h_4
                      refine lv_iinc (v := (nI (i + 1))) (lv' := [(6, .int (nI (i + 1))), (0, .ref (b 0)), (1, .ref (a 0)), (2, .int (nI s0)), (3, .int (nI (bits (fun u => dst F Q0 s0 k u == k) 8))), (4, .int (nI (k + 1))), (5, .int (nI (bits (fun u => dst F Q0 s0 (k + 1) u == k + 1) i)))]) hx hb dX3_measure_111 hl (k := 6) rfl (nI_add _ 1) (by decide) rfl (fun ls hl => ?_)
                      refine lv_goto (tgt := 62) hx hb dX3_measure_114 (by decide) ?_
                      rw [show (nI (bits (fun u => dst F Q0 s0 (k + 1) u == k + 1) i)) = (nI (bits (fun u => dst F Q0 s0 (k + 1) u == k + 1) (i + 1))) from (bits_f (by rw [dst_n (fun q => h_4 q.1)]; have := dst_le F Q0 s0 k i; simp; omega))] at hl
                      exact ih62 (i + 1) (by omega) (by omega) _ _ (by rw [← mix_k (dst_n (fun q => h_4 q.1))]; exact hP) (by rw [← mix_k (dst_n (fun q => h_4 q.1))]; exact hD) hS _ (lv_sub hl [1, 2, 3, 4, 5, 6, 0] rfl)
                    · have h_4 := (nI_eq (a := (dst F Q0 s0 k i)) (b := 8) (by first | omega | exact bits_lt31 _ | exact bitN_lt _ _ | exact bool_lt _ | exact and_lt31 _ _ _ _ | exact Nat.lt_of_le_of_lt (dst_lt _ _ _ (by omega) _) (by decide) | exact Nat.lt_of_le_of_lt (nrB_le _ _ _ (by omega)).2 (by decide) | decide) (by first | omega | exact bits_lt31 _ | exact bitN_lt _ _ | exact bool_lt _ | exact and_lt31 _ _ _ _ | exact Nat.lt_of_le_of_lt (dst_lt _ _ _ (by omega) _) (by decide) | exact Nat.lt_of_le_of_lt (nrB_le _ _ _ (by omega)).2 (by decide) | decide)).mp h_4
                      refine lv_aload_n hx hb dX3_measure_81 rfl (lv_at hl 0 rfl) ?_
                      refine va_get (D := D) (ci := 3) (v := .ref (b 1)) (C := RX3) (T := TX3) (N := 2) hx hb hts iX3 hown hK hP 0 rfl rfl 0 (by decide) f9 (fun _ h9 => h9) rfl dX3_measure_82 ?_
                      refine lv_iload hx hb dX3_measure_85 (lv_at hl 6 rfl) ?_
                      refine r_ild (k := i) hx hb hK hP 1 rfl (by omega) (by decide) dX3_measure_87 ?_
                      refine tpe (y := (nI ((aWS F Q0) i))) rfl ?_
                      refine lv_iload_n hx hb dX3_measure_88 rfl (lv_at hl 3 rfl) ?_
                      refine lv_iand hx hb dX3_measure_89 ?_
                      refine tpe (y := nI (aWS F Q0 i &&& (bits (fun u => dst F Q0 s0 k u == k) 8))) (and_nI _ _) ?_
                      refine lv_if_eq (tgt := 111) hx hb dX3_measure_90 (by decide) (fun h_5 => ?_) (fun h_5 => ?_)
                      · have h_5 := (nI_eq (a := (aWS F Q0 i &&& (bits (fun u => dst F Q0 s0 k u == k) 8))) (b := 0) (by first | omega | exact bits_lt31 _ | exact bitN_lt _ _ | exact bool_lt _ | exact and_lt31 _ _ _ _ | exact Nat.lt_of_le_of_lt (dst_lt _ _ _ (by omega) _) (by decide) | exact Nat.lt_of_le_of_lt (nrB_le _ _ _ (by omega)).2 (by decide) | decide) (by first | omega | exact bits_lt31 _ | exact bitN_lt _ _ | exact bool_lt _ | exact and_lt31 _ _ _ _ | exact Nat.lt_of_le_of_lt (dst_lt _ _ _ (by omega) _) (by decide) | exact Nat.lt_of_le_of_lt (nrB_le _ _ _ (by omega)).2 (by decide) | decide)).mp h_5
                        refine lv_iinc (v := (nI (i + 1))) (lv' := [(6, .int (nI (i + 1))), (0, .ref (b 0)), (1, .ref (a 0)), (2, .int (nI s0)), (3, .int (nI (bits (fun u => dst F Q0 s0 k u == k) 8))), (4, .int (nI (k + 1))), (5, .int (nI (bits (fun u => dst F Q0 s0 (k + 1) u == k + 1) i)))]) hx hb dX3_measure_111 hl (k := 6) rfl (nI_add _ 1) (by decide) rfl (fun ls hl => ?_)
                        refine lv_goto (tgt := 62) hx hb dX3_measure_114 (by decide) ?_
                        rw [show (nI (bits (fun u => dst F Q0 s0 (k + 1) u == k + 1) i)) = (nI (bits (fun u => dst F Q0 s0 (k + 1) u == k + 1) (i + 1))) from (bits_f (by rw [dst_n (fun q => q.2 h_5)]; have := dst_le F Q0 s0 k i; simp; omega))] at hl
                        exact ih62 (i + 1) (by omega) (by omega) _ _ (by rw [← mix_k (dst_n (fun q => q.2 h_5))]; exact hP) (by rw [← mix_k (dst_n (fun q => q.2 h_5))]; exact hD) hS _ (lv_sub hl [1, 2, 3, 4, 5, 6, 0] rfl)
                      · have h_5 := mt (nI_eq (a := (aWS F Q0 i &&& (bits (fun u => dst F Q0 s0 k u == k) 8))) (b := 0) (by first | omega | exact bits_lt31 _ | exact bitN_lt _ _ | exact bool_lt _ | exact and_lt31 _ _ _ _ | exact Nat.lt_of_le_of_lt (dst_lt _ _ _ (by omega) _) (by decide) | exact Nat.lt_of_le_of_lt (nrB_le _ _ _ (by omega)).2 (by decide) | decide) (by first | omega | exact bits_lt31 _ | exact bitN_lt _ _ | exact bool_lt _ | exact and_lt31 _ _ _ _ | exact Nat.lt_of_le_of_lt (dst_lt _ _ _ (by omega) _) (by decide) | exact Nat.lt_of_le_of_lt (nrB_le _ _ _ (by omega)).2 (by decide) | decide)).mpr h_5
                        refine lv_aload_n hx hb dX3_measure_93 rfl (lv_at hl 0 rfl) ?_
                        refine va_get (D := D) (ci := 3) (v := .ref (b 2)) (C := RX3) (T := TX3) (N := 2) hx hb hts iX3 hown hK hP 0 rfl rfl 1 (by decide) f15 (fun _ h9 => h9) rfl dX3_measure_94 ?_
                        refine lv_iload hx hb dX3_measure_97 (lv_at hl 6 rfl) ?_
                        refine lv_iload hx hb dX3_measure_99 (lv_at hl 4 rfl) ?_
                        refine r_ist (k := i) hx hb hK hP hD hS 2 rfl (by omega) (by decide) dX3_measure_101 (fun H locs hP hD hS => ?_)
                        rw [nupd] at hP hD
                        have hP : va_P D vwCl ([(b 0, .inr (3, [.ref (b 1), .ref (b 2)])), (b 1, .inl (cI, 8, .inl (fun z => nI ((aWS F Q0) z)))), (b 2, .inl (cI, 8, .inl (fun z => nI ((va_up (mixN (dst F Q0 s0 (k + 1)) (dst F Q0 s0 k) i) i (k + 1)) z)))), (a 0, .inr (2, [.ref (a 1), .ref (a 2), .ref (a 3), .ref (a 4), .ref (a 5), .ref (a 6), .ref (a 7), .ref (a 8), .int (F 8 0), .int (F 8 1), .int (F 8 2)])), (a 1, .inl (cI, 8, .inl (F 0))), (a 2, .inl (cI, 8, .inl (F 1))), (a 3, .inl (cI, 8, .inl (F 2))), (a 4, .inl (cI, 8, .inl (F 3))), (a 5, .inl (cI, 8, .inl (F 4))), (a 6, .inl (cI, 80, .inl (F 5))), (a 7, .inl (cI, 80, .inl qa)), (a 8, .inl (cI, 10, .inl (fun z => nI ((qlen Q0) z))))]) H := hP
                        have hD : va_D A ([(b 0, .inr (3, [.ref (b 1), .ref (b 2)])), (b 1, .inl (cI, 8, .inl (fun z => nI ((aWS F Q0) z)))), (b 2, .inl (cI, 8, .inl (fun z => nI ((va_up (mixN (dst F Q0 s0 (k + 1)) (dst F Q0 s0 k) i) i (k + 1)) z)))), (a 0, .inr (2, [.ref (a 1), .ref (a 2), .ref (a 3), .ref (a 4), .ref (a 5), .ref (a 6), .ref (a 7), .ref (a 8), .int (F 8 0), .int (F 8 1), .int (F 8 2)])), (a 1, .inl (cI, 8, .inl (F 0))), (a 2, .inl (cI, 8, .inl (F 1))), (a 3, .inl (cI, 8, .inl (F 2))), (a 4, .inl (cI, 8, .inl (F 3))), (a 5, .inl (cI, 8, .inl (F 4))), (a 6, .inl (cI, 80, .inl (F 5))), (a 7, .inl (cI, 80, .inl qa)), (a 8, .inl (cI, 10, .inl (fun z => nI ((qlen Q0) z))))]) := hD
                        refine lv_iload hx hb dX3_measure_102 (lv_at hl 5 rfl) ?_
                        refine lv_iconst (v := (nI 1)) hx hb dX3_measure_104 (by decide) ?_
                        refine lv_iload hx hb dX3_measure_105 (lv_at hl 6 rfl) ?_
                        refine lv_ishl hx hb dX3_measure_107 ?_
                        refine lv_ior hx hb dX3_measure_108 ?_
                        refine lv_istore (lv' := [(5, .int ((nI (bits (fun u => dst F Q0 s0 (k + 1) u == k + 1) i)) ||| ((nI 1) <<< ((nI i) &&& 31)))), (0, .ref (b 0)), (1, .ref (a 0)), (2, .int (nI s0)), (3, .int (nI (bits (fun u => dst F Q0 s0 k u == k) 8))), (4, .int (nI (k + 1))), (6, .int (nI i))]) hx hb dX3_measure_109 hl (by decide) rfl (fun ls hl => ?_)
                        refine lv_iinc (v := (nI (i + 1))) (lv' := [(6, .int (nI (i + 1))), (5, .int ((nI (bits (fun u => dst F Q0 s0 (k + 1) u == k + 1) i)) ||| ((nI 1) <<< ((nI i) &&& 31)))), (0, .ref (b 0)), (1, .ref (a 0)), (2, .int (nI s0)), (3, .int (nI (bits (fun u => dst F Q0 s0 k u == k) 8))), (4, .int (nI (k + 1)))]) hx hb dX3_measure_111 hl (k := 6) rfl (nI_add _ 1) (by decide) rfl (fun ls hl => ?_)
                        refine lv_goto (tgt := 62) hx hb dX3_measure_114 (by decide) ?_
                        rw [show ((nI (bits (fun u => dst F Q0 s0 (k + 1) u == k + 1) i)) ||| ((nI 1) <<< ((nI i) &&& 31))) = (nI (bits (fun u => dst F Q0 s0 (k + 1) u == k + 1) (i + 1))) from (bits_t (by omega) (by rw [dst_y h_4 h_5]; simp))] at hl
                        exact ih62 (i + 1) (by omega) (by omega) _ _ (by rw [← mix_v (dst_y h_4 h_5)]; exact hP) (by rw [← mix_v (dst_y h_4 h_5)]; exact hD) hS _ (lv_sub hl [2, 3, 4, 5, 6, 1, 0] rfl)
              rw [show (nI 0) = (nI (bits (fun u => dst F Q0 s0 (k + 1) u == k + 1) 0)) from rfl] at hl
              exact L62 _ 0 (Nat.zero_le _) (Nat.lt_succ_self _) _ _ (by rw [mix_0]; exact hP) (by rw [mix_0]; exact hD) hS _ (lv_sub hl [2, 3, 4, 5, 6, 1, 0] rfl)
        rw [show ((nI 1) <<< ((nI s0) &&& 31)) = (nI (bits (fun u => dst F Q0 s0 0 u == 0) 8)) from (bit_start hs F Q0)] at hl
        rw [show (nI 1) = (nI (0 + 1)) from rfl] at hl
        exact L49 _ 0 (Nat.zero_le _) (Nat.lt_succ_self _) _ _ hP hD hS _ (lv_sub hl [2, 3, 4, 1, 0] rfl)
      · have h_1 := mt (nI_leI (a := 8) (b := i) (by first | omega | exact bits_lt31 _ | exact bitN_lt _ _ | exact bool_lt _ | exact and_lt31 _ _ _ _ | exact Nat.lt_of_le_of_lt (dst_lt _ _ _ (by omega) _) (by decide) | exact Nat.lt_of_le_of_lt (nrB_le _ _ _ (by omega)).2 (by decide) | decide) (by first | omega | exact bits_lt31 _ | exact bitN_lt _ _ | exact bool_lt _ | exact and_lt31 _ _ _ _ | exact Nat.lt_of_le_of_lt (dst_lt _ _ _ (by omega) _) (by decide) | exact Nat.lt_of_le_of_lt (nrB_le _ _ _ (by omega)).2 (by decide) | decide)).mpr h_1
        refine lv_aload_n hx hb dX3_measure_8 rfl (lv_at hl 0 rfl) ?_
        refine va_get (D := D) (ci := 3) (v := .ref (b 1)) (C := RX3) (T := TX3) (N := 2) hx hb hts iX3 hown hK hP 0 rfl rfl 0 (by decide) f9 (fun _ h9 => h9) rfl dX3_measure_9 ?_
        refine lv_iload_n hx hb dX3_measure_12 rfl (lv_at hl 3 rfl) ?_
        refine lv_aload_n hx hb dX3_measure_13 rfl (lv_at hl 1 rfl) ?_
        refine lv_iload_n hx hb dX3_measure_14 rfl (lv_at hl 3 rfl) ?_
        refine call_i (X := [(b 0, .inr (3, [.ref (b 1), .ref (b 2)])), (b 1, .inl (cI, 8, .inl (fun z => nI ((mixN (aWS F Q0) wa i) z)))), (b 2, .inl (cI, 8, .inl (fun z => nI ((mixN (dst F Q0 s0 0) da i) z))))]) (Z := []) (As := [.int (nI i)]) (rest := [.int (nI i), .ref (b 1)]) ⟨hx, hb, hml, hown, hts⟩ (c_X2_waitedFor l D cI cT a F Q0 qa i (by omega) hJ hRQ) (cwV 1 hts gX3_measure_X2_waitedFor rfl rfl rfl (by decide +kernel) ⟨Nat.le_of_ble_eq_true rfl, Nat.le_of_ble_eq_true rfl⟩) hK hP hD hS hA (va_recv hK hP (ci := 2) (q0 := 3) rfl rfl) (fun _ => rfl) rfl hl.1 rfl (Nat.le_of_ble_eq_true rfl) ⟨Nat.zero_le _, Nat.zero_le _⟩ dX3_measure_15 (fun rv u H locs hp hP hD hS => ?_)
        obtain rfl := hp
        have hP : va_P D vwCl ([(b 0, .inr (3, [.ref (b 1), .ref (b 2)])), (b 1, .inl (cI, 8, .inl (fun z => nI ((mixN (aWS F Q0) wa i) z)))), (b 2, .inl (cI, 8, .inl (fun z => nI ((mixN (dst F Q0 s0 0) da i) z)))), (a 0, .inr (2, [.ref (a 1), .ref (a 2), .ref (a 3), .ref (a 4), .ref (a 5), .ref (a 6), .ref (a 7), .ref (a 8), .int (F 8 0), .int (F 8 1), .int (F 8 2)])), (a 1, .inl (cI, 8, .inl (F 0))), (a 2, .inl (cI, 8, .inl (F 1))), (a 3, .inl (cI, 8, .inl (F 2))), (a 4, .inl (cI, 8, .inl (F 3))), (a 5, .inl (cI, 8, .inl (F 4))), (a 6, .inl (cI, 80, .inl (F 5))), (a 7, .inl (cI, 80, .inl qa)), (a 8, .inl (cI, 10, .inl (fun z => nI ((qlen Q0) z))))]) H := hP
        have hD : va_D A ([(b 0, .inr (3, [.ref (b 1), .ref (b 2)])), (b 1, .inl (cI, 8, .inl (fun z => nI ((mixN (aWS F Q0) wa i) z)))), (b 2, .inl (cI, 8, .inl (fun z => nI ((mixN (dst F Q0 s0 0) da i) z)))), (a 0, .inr (2, [.ref (a 1), .ref (a 2), .ref (a 3), .ref (a 4), .ref (a 5), .ref (a 6), .ref (a 7), .ref (a 8), .int (F 8 0), .int (F 8 1), .int (F 8 2)])), (a 1, .inl (cI, 8, .inl (F 0))), (a 2, .inl (cI, 8, .inl (F 1))), (a 3, .inl (cI, 8, .inl (F 2))), (a 4, .inl (cI, 8, .inl (F 3))), (a 5, .inl (cI, 8, .inl (F 4))), (a 6, .inl (cI, 80, .inl (F 5))), (a 7, .inl (cI, 80, .inl qa)), (a 8, .inl (cI, 10, .inl (fun z => nI ((qlen Q0) z))))]) := hD
        refine r_ist (k := i) hx hb hK hP hD hS 1 rfl (by omega) (by decide) dX3_measure_18 (fun H locs hP hD hS => ?_)
        rw [nupd] at hP hD
        have hP : va_P D vwCl ([(b 0, .inr (3, [.ref (b 1), .ref (b 2)])), (b 1, .inl (cI, 8, .inl (fun z => nI ((va_up (mixN (aWS F Q0) wa i) i (aWS F Q0 i)) z)))), (b 2, .inl (cI, 8, .inl (fun z => nI ((mixN (dst F Q0 s0 0) da i) z)))), (a 0, .inr (2, [.ref (a 1), .ref (a 2), .ref (a 3), .ref (a 4), .ref (a 5), .ref (a 6), .ref (a 7), .ref (a 8), .int (F 8 0), .int (F 8 1), .int (F 8 2)])), (a 1, .inl (cI, 8, .inl (F 0))), (a 2, .inl (cI, 8, .inl (F 1))), (a 3, .inl (cI, 8, .inl (F 2))), (a 4, .inl (cI, 8, .inl (F 3))), (a 5, .inl (cI, 8, .inl (F 4))), (a 6, .inl (cI, 80, .inl (F 5))), (a 7, .inl (cI, 80, .inl qa)), (a 8, .inl (cI, 10, .inl (fun z => nI ((qlen Q0) z))))]) H := hP
        have hD : va_D A ([(b 0, .inr (3, [.ref (b 1), .ref (b 2)])), (b 1, .inl (cI, 8, .inl (fun z => nI ((va_up (mixN (aWS F Q0) wa i) i (aWS F Q0 i)) z)))), (b 2, .inl (cI, 8, .inl (fun z => nI ((mixN (dst F Q0 s0 0) da i) z)))), (a 0, .inr (2, [.ref (a 1), .ref (a 2), .ref (a 3), .ref (a 4), .ref (a 5), .ref (a 6), .ref (a 7), .ref (a 8), .int (F 8 0), .int (F 8 1), .int (F 8 2)])), (a 1, .inl (cI, 8, .inl (F 0))), (a 2, .inl (cI, 8, .inl (F 1))), (a 3, .inl (cI, 8, .inl (F 2))), (a 4, .inl (cI, 8, .inl (F 3))), (a 5, .inl (cI, 8, .inl (F 4))), (a 6, .inl (cI, 80, .inl (F 5))), (a 7, .inl (cI, 80, .inl qa)), (a 8, .inl (cI, 10, .inl (fun z => nI ((qlen Q0) z))))]) := hD
        refine lv_aload_n hx hb dX3_measure_19 rfl (lv_at hl 0 rfl) ?_
        refine va_get (D := D) (ci := 3) (v := .ref (b 2)) (C := RX3) (T := TX3) (N := 2) hx hb hts iX3 hown hK hP 0 rfl rfl 1 (by decide) f15 (fun _ h9 => h9) rfl dX3_measure_20 ?_
        refine lv_iload_n hx hb dX3_measure_23 rfl (lv_at hl 3 rfl) ?_
        refine lv_iload_n hx hb dX3_measure_24 rfl (lv_at hl 3 rfl) ?_
        refine lv_iload_n hx hb dX3_measure_25 rfl (lv_at hl 2 rfl) ?_
        refine lv_icmp_ne (tgt := 33) hx hb dX3_measure_26 (by decide) (fun h_6 => ?_) (fun h_6 => ?_)
        · have h_6 := mt (nI_eq (a := i) (b := s0) (by first | omega | exact bits_lt31 _ | exact bitN_lt _ _ | exact bool_lt _ | exact and_lt31 _ _ _ _ | exact Nat.lt_of_le_of_lt (dst_lt _ _ _ (by omega) _) (by decide) | exact Nat.lt_of_le_of_lt (nrB_le _ _ _ (by omega)).2 (by decide) | decide) (by first | omega | exact bits_lt31 _ | exact bitN_lt _ _ | exact bool_lt _ | exact and_lt31 _ _ _ _ | exact Nat.lt_of_le_of_lt (dst_lt _ _ _ (by omega) _) (by decide) | exact Nat.lt_of_le_of_lt (nrB_le _ _ _ (by omega)).2 (by decide) | decide)).mpr h_6
          refine lv_bipush (v := (nI 8)) hx hb dX3_measure_33 (by decide) ?_
          refine r_ist (k := i) hx hb hK hP hD hS 2 rfl (by omega) (by decide) dX3_measure_35 (fun H locs hP hD hS => ?_)
          rw [nupd] at hP hD
          have hP : va_P D vwCl ([(b 0, .inr (3, [.ref (b 1), .ref (b 2)])), (b 1, .inl (cI, 8, .inl (fun z => nI ((va_up (mixN (aWS F Q0) wa i) i (aWS F Q0 i)) z)))), (b 2, .inl (cI, 8, .inl (fun z => nI ((va_up (mixN (dst F Q0 s0 0) da i) i 8) z)))), (a 0, .inr (2, [.ref (a 1), .ref (a 2), .ref (a 3), .ref (a 4), .ref (a 5), .ref (a 6), .ref (a 7), .ref (a 8), .int (F 8 0), .int (F 8 1), .int (F 8 2)])), (a 1, .inl (cI, 8, .inl (F 0))), (a 2, .inl (cI, 8, .inl (F 1))), (a 3, .inl (cI, 8, .inl (F 2))), (a 4, .inl (cI, 8, .inl (F 3))), (a 5, .inl (cI, 8, .inl (F 4))), (a 6, .inl (cI, 80, .inl (F 5))), (a 7, .inl (cI, 80, .inl qa)), (a 8, .inl (cI, 10, .inl (fun z => nI ((qlen Q0) z))))]) H := hP
          have hD : va_D A ([(b 0, .inr (3, [.ref (b 1), .ref (b 2)])), (b 1, .inl (cI, 8, .inl (fun z => nI ((va_up (mixN (aWS F Q0) wa i) i (aWS F Q0 i)) z)))), (b 2, .inl (cI, 8, .inl (fun z => nI ((va_up (mixN (dst F Q0 s0 0) da i) i 8) z)))), (a 0, .inr (2, [.ref (a 1), .ref (a 2), .ref (a 3), .ref (a 4), .ref (a 5), .ref (a 6), .ref (a 7), .ref (a 8), .int (F 8 0), .int (F 8 1), .int (F 8 2)])), (a 1, .inl (cI, 8, .inl (F 0))), (a 2, .inl (cI, 8, .inl (F 1))), (a 3, .inl (cI, 8, .inl (F 2))), (a 4, .inl (cI, 8, .inl (F 3))), (a 5, .inl (cI, 8, .inl (F 4))), (a 6, .inl (cI, 80, .inl (F 5))), (a 7, .inl (cI, 80, .inl qa)), (a 8, .inl (cI, 10, .inl (fun z => nI ((qlen Q0) z))))]) := hD
          refine lv_iinc (v := (nI (i + 1))) (lv' := [(3, .int (nI (i + 1))), (0, .ref (b 0)), (1, .ref (a 0)), (2, .int (nI s0))]) hx hb dX3_measure_36 hl (k := 3) rfl (nI_add _ 1) (by decide) rfl (fun ls hl => ?_)
          refine lv_goto (tgt := 2) hx hb dX3_measure_39 (by decide) ?_
          exact ih2 (i + 1) (by omega) (by omega) _ _ (by rw [← mix_v (g := aWS F Q0) rfl, ← mix_v (g := dst F Q0 s0 0) (v := 8) (by simp [dst, h_6])]; exact hP) (by rw [← mix_v (g := aWS F Q0) rfl, ← mix_v (g := dst F Q0 s0 0) (v := 8) (by simp [dst, h_6])]; exact hD) hS _ (lv_sub hl [1, 2, 3, 0] rfl)
        · have h_6 := (nI_eq (a := i) (b := s0) (by first | omega | exact bits_lt31 _ | exact bitN_lt _ _ | exact bool_lt _ | exact and_lt31 _ _ _ _ | exact Nat.lt_of_le_of_lt (dst_lt _ _ _ (by omega) _) (by decide) | exact Nat.lt_of_le_of_lt (nrB_le _ _ _ (by omega)).2 (by decide) | decide) (by first | omega | exact bits_lt31 _ | exact bitN_lt _ _ | exact bool_lt _ | exact and_lt31 _ _ _ _ | exact Nat.lt_of_le_of_lt (dst_lt _ _ _ (by omega) _) (by decide) | exact Nat.lt_of_le_of_lt (nrB_le _ _ _ (by omega)).2 (by decide) | decide)).mp h_6
          refine lv_iconst (v := (nI 0)) hx hb dX3_measure_29 (by decide) ?_
          refine lv_goto (tgt := 35) hx hb dX3_measure_30 (by decide) ?_
          refine r_ist (k := i) hx hb hK hP hD hS 2 rfl (by omega) (by decide) dX3_measure_35 (fun H locs hP hD hS => ?_)
          rw [nupd] at hP hD
          have hP : va_P D vwCl ([(b 0, .inr (3, [.ref (b 1), .ref (b 2)])), (b 1, .inl (cI, 8, .inl (fun z => nI ((va_up (mixN (aWS F Q0) wa i) i (aWS F Q0 i)) z)))), (b 2, .inl (cI, 8, .inl (fun z => nI ((va_up (mixN (dst F Q0 s0 0) da i) i 0) z)))), (a 0, .inr (2, [.ref (a 1), .ref (a 2), .ref (a 3), .ref (a 4), .ref (a 5), .ref (a 6), .ref (a 7), .ref (a 8), .int (F 8 0), .int (F 8 1), .int (F 8 2)])), (a 1, .inl (cI, 8, .inl (F 0))), (a 2, .inl (cI, 8, .inl (F 1))), (a 3, .inl (cI, 8, .inl (F 2))), (a 4, .inl (cI, 8, .inl (F 3))), (a 5, .inl (cI, 8, .inl (F 4))), (a 6, .inl (cI, 80, .inl (F 5))), (a 7, .inl (cI, 80, .inl qa)), (a 8, .inl (cI, 10, .inl (fun z => nI ((qlen Q0) z))))]) H := hP
          have hD : va_D A ([(b 0, .inr (3, [.ref (b 1), .ref (b 2)])), (b 1, .inl (cI, 8, .inl (fun z => nI ((va_up (mixN (aWS F Q0) wa i) i (aWS F Q0 i)) z)))), (b 2, .inl (cI, 8, .inl (fun z => nI ((va_up (mixN (dst F Q0 s0 0) da i) i 0) z)))), (a 0, .inr (2, [.ref (a 1), .ref (a 2), .ref (a 3), .ref (a 4), .ref (a 5), .ref (a 6), .ref (a 7), .ref (a 8), .int (F 8 0), .int (F 8 1), .int (F 8 2)])), (a 1, .inl (cI, 8, .inl (F 0))), (a 2, .inl (cI, 8, .inl (F 1))), (a 3, .inl (cI, 8, .inl (F 2))), (a 4, .inl (cI, 8, .inl (F 3))), (a 5, .inl (cI, 8, .inl (F 4))), (a 6, .inl (cI, 80, .inl (F 5))), (a 7, .inl (cI, 80, .inl qa)), (a 8, .inl (cI, 10, .inl (fun z => nI ((qlen Q0) z))))]) := hD
          refine lv_iinc (v := (nI (i + 1))) (lv' := [(3, .int (nI (i + 1))), (0, .ref (b 0)), (1, .ref (a 0)), (2, .int (nI s0))]) hx hb dX3_measure_36 hl (k := 3) rfl (nI_add _ 1) (by decide) rfl (fun ls hl => ?_)
          refine lv_goto (tgt := 2) hx hb dX3_measure_39 (by decide) ?_
          exact ih2 (i + 1) (by omega) (by omega) _ _ (by rw [← mix_v (g := aWS F Q0) rfl, ← mix_v (g := dst F Q0 s0 0) (v := 0) (by simp [dst, h_6])]; exact hP) (by rw [← mix_v (g := aWS F Q0) rfl, ← mix_v (g := dst F Q0 s0 0) (v := 0) (by simp [dst, h_6])]; exact hD) hS _ (lv_sub hl [1, 2, 3, 0] rfl)
  exact L2 _ 0 (Nat.zero_le _) (Nat.lt_succ_self _) _ _ (by rw [mix_0, mix_0]; exact hP) (by rw [mix_0, mix_0]; exact hD) hS _ (lv_sub hl [1, 2, 3, 0] rfl)

abbrev rX3_breakRings : Room := { frames := 3, cells := 0, slots := 0, locals := 75 }
set_option maxHeartbeats 4000000 in
set_option maxRecDepth 100000 in
/-- breakRings -/
theorem c_X3_breakRings (l : Launch) (D : va_G) (cI cT : ClassId) (a : Nat → Nat) (F : FF) (Q0 : QQ) (qa : Nat → Int32) (b : Nat → Nat) (wa da : Nat → Nat) (s0 : Nat) (hs : s0 < 8) (hJ : JJ F Q0) (hRQ : RQ Q0 qa) : CN l D cI cT yX3_breakRings wsX3_breakRings rX3_breakRings [.ref (b 0), .ref (a 0), .int (nI s0)] (brkW cI b wa da ++ tblW cI a F Q0 qa) (S := (Nat → Nat) × (Nat → Nat) × (Nat → Int32)) (fun v u => v = nI (brV F Q0 s0) ∧ RQ (brQ F Q0 s0) u.2.2) (fun u => brkW cI b u.1 u.2.1 ++ tblW cI a (brF F Q0 s0) (brQ F Q0 s0) u.2.2) := by
  refine CN.of (cc := cX3_breakRings) (maxL := 6) (ret := (some .int)) (by decide) rfl (Nat.le_of_ble_eq_true rfl) ?_
  intro p e s m args below meth c A Q hQ B hA H locs hP hK hD hS ls hl
  obtain ⟨hx, hb, hml, hrt, hts, hown, hlk⟩ := B
  have hl : lv_has ls 6 [(0, .ref (b 0)), (1, .ref (a 0)), (2, .int (nI s0))] := hl
  refine lv_iconst (v := (nI 0)) hx hb dX3_breakRings_0 (by decide) ?_
  refine lv_istore_n (lv' := [(3, .int (nI 0)), (0, .ref (b 0)), (1, .ref (a 0)), (2, .int (nI s0))]) hx hb dX3_breakRings_1 rfl hl (by decide) rfl (fun ls hl => ?_)
  refine lv_iconst (v := (nI 0)) hx hb dX3_breakRings_2 (by decide) ?_
  refine lv_istore (lv' := [(4, .int (nI 0)), (3, .int (nI 0)), (0, .ref (b 0)), (1, .ref (a 0)), (2, .int (nI s0))]) hx hb dX3_breakRings_3 hl (by decide) rfl (fun ls hl => ?_)
  have L5 : ∀ (N : Nat) (i : Nat) (Fc : FF) (Qc : QQ) (qc : Nat → Int32) (V : Nat) (wc : Nat → Nat) (dc : Nat → Nat), (i ≤ 8) → (JJ Fc Qc) → (RQ Qc qc) → (brI s0 F Q0 i Fc Qc V) → (8 - i) < N → ∀ (H : Heap) (locs : List Loc), va_P D vwCl ([(b 0, .inr (3, [.ref (b 1), .ref (b 2)])), (b 1, .inl (cI, 8, .inl (fun z => nI (wc z)))), (b 2, .inl (cI, 8, .inl (fun z => nI (dc z)))), (a 0, .inr (2, [.ref (a 1), .ref (a 2), .ref (a 3), .ref (a 4), .ref (a 5), .ref (a 6), .ref (a 7), .ref (a 8), .int (Fc 8 0), .int (Fc 8 1), .int (Fc 8 2)])), (a 1, .inl (cI, 8, .inl (Fc 0))), (a 2, .inl (cI, 8, .inl (Fc 1))), (a 3, .inl (cI, 8, .inl (Fc 2))), (a 4, .inl (cI, 8, .inl (Fc 3))), (a 5, .inl (cI, 8, .inl (Fc 4))), (a 6, .inl (cI, 80, .inl (Fc 5))), (a 7, .inl (cI, 80, .inl qc)), (a 8, .inl (cI, 10, .inl (fun z => nI ((qlen Qc) z))))]) H → va_D A ([(b 0, .inr (3, [.ref (b 1), .ref (b 2)])), (b 1, .inl (cI, 8, .inl (fun z => nI (wc z)))), (b 2, .inl (cI, 8, .inl (fun z => nI (dc z)))), (a 0, .inr (2, [.ref (a 1), .ref (a 2), .ref (a 3), .ref (a 4), .ref (a 5), .ref (a 6), .ref (a 7), .ref (a 8), .int (Fc 8 0), .int (Fc 8 1), .int (Fc 8 2)])), (a 1, .inl (cI, 8, .inl (Fc 0))), (a 2, .inl (cI, 8, .inl (Fc 1))), (a 3, .inl (cI, 8, .inl (Fc 2))), (a 4, .inl (cI, 8, .inl (Fc 3))), (a 5, .inl (cI, 8, .inl (Fc 4))), (a 6, .inl (cI, 80, .inl (Fc 5))), (a 7, .inl (cI, 80, .inl qc)), (a 8, .inl (cI, 10, .inl (fun z => nI ((qlen Qc) z))))]) → va_S A s.heap H locs → ∀ ls : Array Slot, lv_has ls 6 [(0, .ref (b 0)), (1, .ref (a 0)), (2, .int (nI s0)), (3, .int (nI V)), (4, .int (nI i))] → W p l e rX3_breakRings s m args below meth c H locs 0 0 Q (F0 m 5 ls []) := by
    intro N5
    induction N5 with
    | zero => intro i Fc Qc qc V wc dc hi hJc hRc hI hN; exact absurd hN (Nat.not_lt_zero _)
    | succ N5 ih5 =>
      intro i Fc Qc qc V wc dc hi hJc hRc hI hN H locs hP hD hS ls hl
      refine lv_iload hx hb dX3_breakRings_5 (lv_at hl 4 rfl) ?_
      refine lv_bipush (v := (nI 8)) hx hb dX3_breakRings_7 (by decide) ?_
      refine lv_icmp_ge (tgt := 63) hx hb dX3_breakRings_9 (by decide) (fun h_1 => ?_) (fun h_1 => ?_)
      · have h_1 := (nI_leI (a := 8) (b := i) (by first | omega | exact bits_lt31 _ | exact bitN_lt _ _ | exact bool_lt _ | exact and_lt31 _ _ _ _ | exact Nat.lt_of_le_of_lt (dst_lt _ _ _ (by omega) _) (by decide) | exact Nat.lt_of_le_of_lt (nrB_le _ _ _ (by omega)).2 (by decide) | decide) (by first | omega | exact bits_lt31 _ | exact bitN_lt _ _ | exact bool_lt _ | exact and_lt31 _ _ _ _ | exact Nat.lt_of_le_of_lt (dst_lt _ _ _ (by omega) _) (by decide) | exact Nat.lt_of_le_of_lt (nrB_le _ _ _ (by omega)).2 (by decide) | decide)).mp h_1
        refine lv_iload_n hx hb dX3_breakRings_63 rfl (lv_at hl 3 rfl) ?_
        obtain ⟨e1, e2, e3⟩ := brI_e (Or.inl (by omega)) hI
        exact ret_i (u := (wc, dc, qc)) hQ hx hb hrt hlk hS dX3_breakRings_64 (by rw [← e1, ← e2]; exact hP) (by rw [← e2, ← e3]; exact ⟨rfl, hRc⟩)
      · have h_1 := mt (nI_leI (a := 8) (b := i) (by first | omega | exact bits_lt31 _ | exact bitN_lt _ _ | exact bool_lt _ | exact and_lt31 _ _ _ _ | exact Nat.lt_of_le_of_lt (dst_lt _ _ _ (by omega) _) (by decide) | exact Nat.lt_of_le_of_lt (nrB_le _ _ _ (by omega)).2 (by decide) | decide) (by first | omega | exact bits_lt31 _ | exact bitN_lt _ _ | exact bool_lt _ | exact and_lt31 _ _ _ _ | exact Nat.lt_of_le_of_lt (dst_lt _ _ _ (by omega) _) (by decide) | exact Nat.lt_of_le_of_lt (nrB_le _ _ _ (by omega)).2 (by decide) | decide)).mpr h_1
        refine lv_aload_n hx hb dX3_breakRings_12 rfl (lv_at hl 0 rfl) ?_
        refine lv_aload_n hx hb dX3_breakRings_13 rfl (lv_at hl 1 rfl) ?_
        refine lv_iload_n hx hb dX3_breakRings_14 rfl (lv_at hl 2 rfl) ?_
        refine call_v (X := []) (Z := []) (As := [.ref (a 0), .int (nI s0)]) (rest := []) ⟨hx, hb, hml, hown, hts⟩ (c_X3_measure l D cI cT a Fc Qc qc b wc dc s0 (by omega) hJc hRc) (cwV 2 hts gX3_breakRings_X3_measure rfl rfl rfl (by decide +kernel) ⟨Nat.le_of_ble_eq_true rfl, Nat.le_of_ble_eq_true rfl⟩) hK hP hD hS hA (va_recv hK hP (ci := 3) (q0 := 0) rfl rfl) (fun _ => adr_bt.trans adr_bt.symm) rfl hl.1 rfl (Nat.le_of_ble_eq_true rfl) ⟨Nat.zero_le _, Nat.zero_le _⟩ dX3_breakRings_15 (fun u H locs hp hP hD hS => ?_)
        have hP : va_P D vwCl ([(b 0, .inr (3, [.ref (b 1), .ref (b 2)])), (b 1, .inl (cI, 8, .inl (fun z => nI ((aWS Fc Qc) z)))), (b 2, .inl (cI, 8, .inl (fun z => nI ((dst Fc Qc s0 7) z)))), (a 0, .inr (2, [.ref (a 1), .ref (a 2), .ref (a 3), .ref (a 4), .ref (a 5), .ref (a 6), .ref (a 7), .ref (a 8), .int (Fc 8 0), .int (Fc 8 1), .int (Fc 8 2)])), (a 1, .inl (cI, 8, .inl (Fc 0))), (a 2, .inl (cI, 8, .inl (Fc 1))), (a 3, .inl (cI, 8, .inl (Fc 2))), (a 4, .inl (cI, 8, .inl (Fc 3))), (a 5, .inl (cI, 8, .inl (Fc 4))), (a 6, .inl (cI, 80, .inl (Fc 5))), (a 7, .inl (cI, 80, .inl qc)), (a 8, .inl (cI, 10, .inl (fun z => nI ((qlen Qc) z))))]) H := hP
        have hD : va_D A ([(b 0, .inr (3, [.ref (b 1), .ref (b 2)])), (b 1, .inl (cI, 8, .inl (fun z => nI ((aWS Fc Qc) z)))), (b 2, .inl (cI, 8, .inl (fun z => nI ((dst Fc Qc s0 7) z)))), (a 0, .inr (2, [.ref (a 1), .ref (a 2), .ref (a 3), .ref (a 4), .ref (a 5), .ref (a 6), .ref (a 7), .ref (a 8), .int (Fc 8 0), .int (Fc 8 1), .int (Fc 8 2)])), (a 1, .inl (cI, 8, .inl (Fc 0))), (a 2, .inl (cI, 8, .inl (Fc 1))), (a 3, .inl (cI, 8, .inl (Fc 2))), (a 4, .inl (cI, 8, .inl (Fc 3))), (a 5, .inl (cI, 8, .inl (Fc 4))), (a 6, .inl (cI, 80, .inl (Fc 5))), (a 7, .inl (cI, 80, .inl qc)), (a 8, .inl (cI, 10, .inl (fun z => nI ((qlen Qc) z))))]) := hD
        refine lv_aload_n hx hb dX3_breakRings_18 rfl (lv_at hl 0 rfl) ?_
        refine lv_aload_n hx hb dX3_breakRings_19 rfl (lv_at hl 1 rfl) ?_
        refine lv_aload_n hx hb dX3_breakRings_20 rfl (lv_at hl 0 rfl) ?_
        refine lv_iload_n hx hb dX3_breakRings_21 rfl (lv_at hl 2 rfl) ?_
        refine call_i (X := []) (Z := tblW cI a Fc Qc qc) (As := [.int (nI s0)]) (rest := [.ref (a 0), .ref (b 0)]) ⟨hx, hb, hml, hown, hts⟩ (c_X3_shortestRing l D cI cT b (aWS Fc Qc) (dst Fc Qc s0 7) s0 (by omega) (aWS_lt _ _) (dst_lt _ _ _ (by decide))) (cwV 1 hts gX3_breakRings_X3_shortestRing rfl rfl rfl (by decide +kernel) ⟨Nat.le_of_ble_eq_true rfl, Nat.le_of_ble_eq_true rfl⟩) hK hP hD hS hA (va_recv hK hP (ci := 3) (q0 := 0) rfl rfl) (fun _ => rfl) rfl hl.1 rfl (Nat.le_of_ble_eq_true rfl) ⟨Nat.zero_le _, Nat.zero_le _⟩ dX3_breakRings_22 (fun rv u H locs hp hP hD hS => ?_)
        obtain rfl := hp
        have hP : va_P D vwCl ([(b 0, .inr (3, [.ref (b 1), .ref (b 2)])), (b 1, .inl (cI, 8, .inl (fun z => nI ((aWS Fc Qc) z)))), (b 2, .inl (cI, 8, .inl (fun z => nI ((dst Fc Qc s0 7) z)))), (a 0, .inr (2, [.ref (a 1), .ref (a 2), .ref (a 3), .ref (a 4), .ref (a 5), .ref (a 6), .ref (a 7), .ref (a 8), .int (Fc 8 0), .int (Fc 8 1), .int (Fc 8 2)])), (a 1, .inl (cI, 8, .inl (Fc 0))), (a 2, .inl (cI, 8, .inl (Fc 1))), (a 3, .inl (cI, 8, .inl (Fc 2))), (a 4, .inl (cI, 8, .inl (Fc 3))), (a 5, .inl (cI, 8, .inl (Fc 4))), (a 6, .inl (cI, 80, .inl (Fc 5))), (a 7, .inl (cI, 80, .inl qc)), (a 8, .inl (cI, 10, .inl (fun z => nI ((qlen Qc) z))))]) H := hP
        have hD : va_D A ([(b 0, .inr (3, [.ref (b 1), .ref (b 2)])), (b 1, .inl (cI, 8, .inl (fun z => nI ((aWS Fc Qc) z)))), (b 2, .inl (cI, 8, .inl (fun z => nI ((dst Fc Qc s0 7) z)))), (a 0, .inr (2, [.ref (a 1), .ref (a 2), .ref (a 3), .ref (a 4), .ref (a 5), .ref (a 6), .ref (a 7), .ref (a 8), .int (Fc 8 0), .int (Fc 8 1), .int (Fc 8 2)])), (a 1, .inl (cI, 8, .inl (Fc 0))), (a 2, .inl (cI, 8, .inl (Fc 1))), (a 3, .inl (cI, 8, .inl (Fc 2))), (a 4, .inl (cI, 8, .inl (Fc 3))), (a 5, .inl (cI, 8, .inl (Fc 4))), (a 6, .inl (cI, 80, .inl (Fc 5))), (a 7, .inl (cI, 80, .inl qc)), (a 8, .inl (cI, 10, .inl (fun z => nI ((qlen Qc) z))))]) := hD
        refine call_i (X := []) (Z := []) (As := [.ref (a 0), .int (nI (srL (aWS Fc Qc) (dst Fc Qc s0 7) s0 8 0 s0))]) (rest := []) ⟨hx, hb, hml, hown, hts⟩ (c_X3_chooseVictim l D cI cT a Fc Qc qc b (aWS Fc Qc) (dst Fc Qc s0 7) (srL (aWS Fc Qc) (dst Fc Qc s0 7) s0 8 0 s0) (srL_lt _ _ _ (by decide) (by omega))) (cwV 2 hts gX3_breakRings_X3_chooseVictim rfl rfl rfl (by decide +kernel) ⟨Nat.le_of_ble_eq_true rfl, Nat.le_of_ble_eq_true rfl⟩) hK hP hD hS hA (va_recv hK hP (ci := 3) (q0 := 0) rfl rfl) (fun _ => rfl) rfl hl.1 rfl (Nat.le_of_ble_eq_true rfl) ⟨Nat.zero_le _, Nat.zero_le _⟩ dX3_breakRings_25 (fun rv u H locs hp hP hD hS => ?_)
        obtain rfl := hp
        have hP : va_P D vwCl ([(b 0, .inr (3, [.ref (b 1), .ref (b 2)])), (b 1, .inl (cI, 8, .inl (fun z => nI ((aWS Fc Qc) z)))), (b 2, .inl (cI, 8, .inl (fun z => nI ((dst Fc Qc s0 7) z)))), (a 0, .inr (2, [.ref (a 1), .ref (a 2), .ref (a 3), .ref (a 4), .ref (a 5), .ref (a 6), .ref (a 7), .ref (a 8), .int (Fc 8 0), .int (Fc 8 1), .int (Fc 8 2)])), (a 1, .inl (cI, 8, .inl (Fc 0))), (a 2, .inl (cI, 8, .inl (Fc 1))), (a 3, .inl (cI, 8, .inl (Fc 2))), (a 4, .inl (cI, 8, .inl (Fc 3))), (a 5, .inl (cI, 8, .inl (Fc 4))), (a 6, .inl (cI, 80, .inl (Fc 5))), (a 7, .inl (cI, 80, .inl qc)), (a 8, .inl (cI, 10, .inl (fun z => nI ((qlen Qc) z))))]) H := hP
        have hD : va_D A ([(b 0, .inr (3, [.ref (b 1), .ref (b 2)])), (b 1, .inl (cI, 8, .inl (fun z => nI ((aWS Fc Qc) z)))), (b 2, .inl (cI, 8, .inl (fun z => nI ((dst Fc Qc s0 7) z)))), (a 0, .inr (2, [.ref (a 1), .ref (a 2), .ref (a 3), .ref (a 4), .ref (a 5), .ref (a 6), .ref (a 7), .ref (a 8), .int (Fc 8 0), .int (Fc 8 1), .int (Fc 8 2)])), (a 1, .inl (cI, 8, .inl (Fc 0))), (a 2, .inl (cI, 8, .inl (Fc 1))), (a 3, .inl (cI, 8, .inl (Fc 2))), (a 4, .inl (cI, 8, .inl (Fc 3))), (a 5, .inl (cI, 8, .inl (Fc 4))), (a 6, .inl (cI, 80, .inl (Fc 5))), (a 7, .inl (cI, 80, .inl qc)), (a 8, .inl (cI, 10, .inl (fun z => nI ((qlen Qc) z))))]) := hD
        refine lv_istore (lv' := [(5, .int (bI (vic Fc Qc s0))), (0, .ref (b 0)), (1, .ref (a 0)), (2, .int (nI s0)), (3, .int (nI V)), (4, .int (nI i))]) hx hb dX3_breakRings_28 hl (by decide) rfl (fun ls hl => ?_)
        refine lv_iload hx hb dX3_breakRings_30 (lv_at hl 0 rfl) ?_
        refine lv_iconst (v := (-1)) hx hb dX3_breakRings_32 (by decide) ?_
        refine lv_icmp_ne (tgt := 39) hx hb dX3_breakRings_33 (by decide) (fun h_2 => ?_) (fun h_2 => ?_)
        · have h_2 := h_2
          have hv8 := mt (bI_m1 (vic_le _ _ _)).mpr h_2
          have hv9 := vic_le Fc Qc s0
          have hv7 : vic Fc Qc s0 < 8 := by omega
          rw [bI_some hv8] at hl
          refine lv_aload_n hx hb dX3_breakRings_39 rfl (lv_at hl 2 rfl) ?_
          refine lv_iload hx hb dX3_breakRings_40 (lv_at hl 0 rfl) ?_
          refine call_v (X := [(b 0, .inr (3, [.ref (b 1), .ref (b 2)])), (b 1, .inl (cI, 8, .inl (fun z => nI ((aWS Fc Qc) z)))), (b 2, .inl (cI, 8, .inl (fun z => nI ((dst Fc Qc s0 7) z))))]) (Z := []) (As := [.int (nI (vic Fc Qc s0))]) (rest := []) ⟨hx, hb, hml, hown, hts⟩ (c_X2_abort l D cI cT a Fc Qc qc (vic Fc Qc s0) (by omega) hJc hRc) (cwV 1 hts gX3_breakRings_X2_abort rfl rfl rfl (by decide +kernel) ⟨Nat.le_of_ble_eq_true rfl, Nat.le_of_ble_eq_true rfl⟩) hK hP hD hS hA (va_recv hK hP (ci := 2) (q0 := 3) rfl rfl) (fun _ => adr_tbl.trans adr_tbl.symm) rfl hl.1 rfl (Nat.le_of_ble_eq_true rfl) ⟨Nat.zero_le _, Nat.zero_le _⟩ dX3_breakRings_42 (fun qa16 H locs hp hP hD hS => ?_)
          have hR16 := hp
          have hJ16 := JJ_ab hJc (t := (vic Fc Qc s0)) (by omega)
          have hP : va_P D vwCl ([(b 0, .inr (3, [.ref (b 1), .ref (b 2)])), (b 1, .inl (cI, 8, .inl (fun z => nI ((aWS Fc Qc) z)))), (b 2, .inl (cI, 8, .inl (fun z => nI ((dst Fc Qc s0 7) z)))), (a 0, .inr (2, [.ref (a 1), .ref (a 2), .ref (a 3), .ref (a 4), .ref (a 5), .ref (a 6), .ref (a 7), .ref (a 8), .int ((abF Fc (vic Fc Qc s0)) 8 0), .int ((abF Fc (vic Fc Qc s0)) 8 1), .int ((abF Fc (vic Fc Qc s0)) 8 2)])), (a 1, .inl (cI, 8, .inl ((abF Fc (vic Fc Qc s0)) 0))), (a 2, .inl (cI, 8, .inl ((abF Fc (vic Fc Qc s0)) 1))), (a 3, .inl (cI, 8, .inl ((abF Fc (vic Fc Qc s0)) 2))), (a 4, .inl (cI, 8, .inl ((abF Fc (vic Fc Qc s0)) 3))), (a 5, .inl (cI, 8, .inl ((abF Fc (vic Fc Qc s0)) 4))), (a 6, .inl (cI, 80, .inl ((abF Fc (vic Fc Qc s0)) 5))), (a 7, .inl (cI, 80, .inl qa16)), (a 8, .inl (cI, 10, .inl (fun z => nI ((qlen (rmQ Fc Qc (vic Fc Qc s0))) z))))]) H := hP
          have hD : va_D A ([(b 0, .inr (3, [.ref (b 1), .ref (b 2)])), (b 1, .inl (cI, 8, .inl (fun z => nI ((aWS Fc Qc) z)))), (b 2, .inl (cI, 8, .inl (fun z => nI ((dst Fc Qc s0 7) z)))), (a 0, .inr (2, [.ref (a 1), .ref (a 2), .ref (a 3), .ref (a 4), .ref (a 5), .ref (a 6), .ref (a 7), .ref (a 8), .int ((abF Fc (vic Fc Qc s0)) 8 0), .int ((abF Fc (vic Fc Qc s0)) 8 1), .int ((abF Fc (vic Fc Qc s0)) 8 2)])), (a 1, .inl (cI, 8, .inl ((abF Fc (vic Fc Qc s0)) 0))), (a 2, .inl (cI, 8, .inl ((abF Fc (vic Fc Qc s0)) 1))), (a 3, .inl (cI, 8, .inl ((abF Fc (vic Fc Qc s0)) 2))), (a 4, .inl (cI, 8, .inl ((abF Fc (vic Fc Qc s0)) 3))), (a 5, .inl (cI, 8, .inl ((abF Fc (vic Fc Qc s0)) 4))), (a 6, .inl (cI, 80, .inl ((abF Fc (vic Fc Qc s0)) 5))), (a 7, .inl (cI, 80, .inl qa16)), (a 8, .inl (cI, 10, .inl (fun z => nI ((qlen (rmQ Fc Qc (vic Fc Qc s0))) z))))]) := hD
          refine lv_aload_n hx hb dX3_breakRings_45 rfl (lv_at hl 2 rfl) ?_
          refine call_i (X := [(b 0, .inr (3, [.ref (b 1), .ref (b 2)])), (b 1, .inl (cI, 8, .inl (fun z => nI ((aWS Fc Qc) z)))), (b 2, .inl (cI, 8, .inl (fun z => nI ((dst Fc Qc s0 7) z))))]) (Z := []) (As := []) (rest := []) ⟨hx, hb, hml, hown, hts⟩ (c_X2_serveQueues l D cI cT a (abF Fc (vic Fc Qc s0)) (rmQ Fc Qc (vic Fc Qc s0)) qa16  hJ16 hR16) (cwV 0 hts gX3_breakRings_X2_serveQueues rfl rfl rfl (by decide +kernel) ⟨Nat.le_of_ble_eq_true rfl, Nat.le_of_ble_eq_true rfl⟩) hK hP hD hS hA (va_recv hK hP (ci := 2) (q0 := 3) rfl rfl) (fun _ => adr_tbl.trans adr_tbl.symm) rfl hl.1 rfl (Nat.le_of_ble_eq_true rfl) ⟨Nat.zero_le _, Nat.zero_le _⟩ dX3_breakRings_46 (fun rv qa17 H locs hp hP hD hS => ?_)
          obtain ⟨rfl, hR17⟩ := hp
          have hJ17 := JJ_srv hJ16
          have hP : va_P D vwCl ([(b 0, .inr (3, [.ref (b 1), .ref (b 2)])), (b 1, .inl (cI, 8, .inl (fun z => nI ((aWS Fc Qc) z)))), (b 2, .inl (cI, 8, .inl (fun z => nI ((dst Fc Qc s0 7) z)))), (a 0, .inr (2, [.ref (a 1), .ref (a 2), .ref (a 3), .ref (a 4), .ref (a 5), .ref (a 6), .ref (a 7), .ref (a 8), .int ((srvF (abF Fc (vic Fc Qc s0)) (rmQ Fc Qc (vic Fc Qc s0))) 8 0), .int ((srvF (abF Fc (vic Fc Qc s0)) (rmQ Fc Qc (vic Fc Qc s0))) 8 1), .int ((srvF (abF Fc (vic Fc Qc s0)) (rmQ Fc Qc (vic Fc Qc s0))) 8 2)])), (a 1, .inl (cI, 8, .inl ((srvF (abF Fc (vic Fc Qc s0)) (rmQ Fc Qc (vic Fc Qc s0))) 0))), (a 2, .inl (cI, 8, .inl ((srvF (abF Fc (vic Fc Qc s0)) (rmQ Fc Qc (vic Fc Qc s0))) 1))), (a 3, .inl (cI, 8, .inl ((srvF (abF Fc (vic Fc Qc s0)) (rmQ Fc Qc (vic Fc Qc s0))) 2))), (a 4, .inl (cI, 8, .inl ((srvF (abF Fc (vic Fc Qc s0)) (rmQ Fc Qc (vic Fc Qc s0))) 3))), (a 5, .inl (cI, 8, .inl ((srvF (abF Fc (vic Fc Qc s0)) (rmQ Fc Qc (vic Fc Qc s0))) 4))), (a 6, .inl (cI, 80, .inl ((srvF (abF Fc (vic Fc Qc s0)) (rmQ Fc Qc (vic Fc Qc s0))) 5))), (a 7, .inl (cI, 80, .inl qa17)), (a 8, .inl (cI, 10, .inl (fun z => nI ((qlen (srvQ (abF Fc (vic Fc Qc s0)) (rmQ Fc Qc (vic Fc Qc s0)))) z))))]) H := hP
          have hD : va_D A ([(b 0, .inr (3, [.ref (b 1), .ref (b 2)])), (b 1, .inl (cI, 8, .inl (fun z => nI ((aWS Fc Qc) z)))), (b 2, .inl (cI, 8, .inl (fun z => nI ((dst Fc Qc s0 7) z)))), (a 0, .inr (2, [.ref (a 1), .ref (a 2), .ref (a 3), .ref (a 4), .ref (a 5), .ref (a 6), .ref (a 7), .ref (a 8), .int ((srvF (abF Fc (vic Fc Qc s0)) (rmQ Fc Qc (vic Fc Qc s0))) 8 0), .int ((srvF (abF Fc (vic Fc Qc s0)) (rmQ Fc Qc (vic Fc Qc s0))) 8 1), .int ((srvF (abF Fc (vic Fc Qc s0)) (rmQ Fc Qc (vic Fc Qc s0))) 8 2)])), (a 1, .inl (cI, 8, .inl ((srvF (abF Fc (vic Fc Qc s0)) (rmQ Fc Qc (vic Fc Qc s0))) 0))), (a 2, .inl (cI, 8, .inl ((srvF (abF Fc (vic Fc Qc s0)) (rmQ Fc Qc (vic Fc Qc s0))) 1))), (a 3, .inl (cI, 8, .inl ((srvF (abF Fc (vic Fc Qc s0)) (rmQ Fc Qc (vic Fc Qc s0))) 2))), (a 4, .inl (cI, 8, .inl ((srvF (abF Fc (vic Fc Qc s0)) (rmQ Fc Qc (vic Fc Qc s0))) 3))), (a 5, .inl (cI, 8, .inl ((srvF (abF Fc (vic Fc Qc s0)) (rmQ Fc Qc (vic Fc Qc s0))) 4))), (a 6, .inl (cI, 80, .inl ((srvF (abF Fc (vic Fc Qc s0)) (rmQ Fc Qc (vic Fc Qc s0))) 5))), (a 7, .inl (cI, 80, .inl qa17)), (a 8, .inl (cI, 10, .inl (fun z => nI ((qlen (srvQ (abF Fc (vic Fc Qc s0)) (rmQ Fc Qc (vic Fc Qc s0)))) z))))]) := hD
          refine lv_pop hx hb dX3_breakRings_49 rfl ?_
          refine lv_iload_n hx hb dX3_breakRings_50 rfl (lv_at hl 4 rfl) ?_
          refine lv_iconst (v := (nI 1)) hx hb dX3_breakRings_51 (by decide) ?_
          refine lv_iload hx hb dX3_breakRings_52 (lv_at hl 0 rfl) ?_
          refine lv_ishl hx hb dX3_breakRings_54 ?_
          refine lv_ior hx hb dX3_breakRings_55 ?_
          refine tpe (y := nI (V ||| 2 ^ vic Fc Qc s0)) (or_sh hv7) ?_
          refine lv_istore_n (lv' := [(3, .int (nI (V ||| 2 ^ vic Fc Qc s0))), (5, .int (nI (vic Fc Qc s0))), (0, .ref (b 0)), (1, .ref (a 0)), (2, .int (nI s0)), (4, .int (nI i))]) hx hb dX3_breakRings_56 rfl hl (by decide) rfl (fun ls hl => ?_)
          refine lv_iinc (v := (nI (i + 1))) (lv' := [(4, .int (nI (i + 1))), (3, .int (nI (V ||| 2 ^ vic Fc Qc s0))), (5, .int (nI (vic Fc Qc s0))), (0, .ref (b 0)), (1, .ref (a 0)), (2, .int (nI s0))]) hx hb dX3_breakRings_57 hl (k := 5) rfl (nI_add _ 1) (by decide) rfl (fun ls hl => ?_)
          refine lv_goto (tgt := 5) hx hb dX3_breakRings_60 (by decide) ?_
          exact ih5 (i + 1) (srvF (abF Fc (vic Fc Qc s0)) (rmQ Fc Qc (vic Fc Qc s0))) (srvQ (abF Fc (vic Fc Qc s0)) (rmQ Fc Qc (vic Fc Qc s0))) qa17 (V ||| 2 ^ vic Fc Qc s0) (aWS Fc Qc) (dst Fc Qc s0 7) (by omega) hJ17 hR17 (brI_s (by omega) hv8 hI) (by omega) _ _ hP hD hS _ (lv_sub hl [3, 4, 5, 1, 0] rfl)
        · have h_2 := h_2
          refine lv_goto (tgt := 63) hx hb dX3_breakRings_36 (by decide) ?_
          refine lv_iload_n hx hb dX3_breakRings_63 rfl (lv_at hl 4 rfl) ?_
          obtain ⟨e1, e2, e3⟩ := brI_e (Or.inr ((bI_m1 (vic_le _ _ _)).mp h_2)) hI
          exact ret_i (u := (aWS Fc Qc, dst Fc Qc s0 7, qc)) hQ hx hb hrt hlk hS dX3_breakRings_64 (by rw [← e1, ← e2]; exact hP) (by rw [← e2, ← e3]; exact ⟨rfl, hRc⟩)
  exact L5 _ 0 F Q0 qa 0 wa da (Nat.zero_le _) hJ hRQ brI_0 (Nat.lt_succ_self _) _ _ hP hD hS _ (lv_sub hl [2, 3, 4, 1, 0] rfl)

