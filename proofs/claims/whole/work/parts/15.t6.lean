abbrev rX0_add : Room := { frames := 0, cells := 0, slots := 0, locals := 0 }
set_option maxHeartbeats 4000000 in
set_option maxRecDepth 100000 in
/-- add -/
theorem c_X0_add (l : Launch) (D : va_G) (cI cT : ClassId) (t sg : Nat → Nat) (len pos : Nat) (kd tr op : Int32) (ch : Nat) (hl8 : len < 80) : CV l D cI cT yX0_add wsX0_add rX0_add [.ref (t 0), .int (nI ch)] (txtW cI t sg len pos kd tr op) (S := Unit) (fun _ => True) (fun _ => txtW cI t (va_up sg len ch) (len + 1) pos kd tr op) := by
  refine CV.of (cc := cX0_add) (maxL := 2) (ret := none) (by decide) rfl (Nat.le_of_ble_eq_true rfl) ?_
  intro p e s m args below meth c A Q hQ B hA H locs hP hK hD hS ls hl
  obtain ⟨hx, hb, hml, hrt, hts, hown, hlk⟩ := B
  have hl : lv_has ls 2 [(0, .ref (t 0)), (1, .int (nI ch))] := hl
  have iX0 : ∀ w ∈ u_ws RX0 TX0 6, w ∈ wsX0_add := by decide +kernel
  have f15 := hts (.fieldLink RX0 15 "LockManager$CommandText" "length" "I") (by decide +kernel)
  have f9 := hts (.fieldLink RX0 9 "LockManager$CommandText" "signs" "[I") (by decide +kernel)
  refine lv_aload_n hx hb dX0_add_0 rfl (lv_at hl 0 rfl) ?_
  refine va_get (D := D) (ci := 0) (v := .int (nI len)) (C := RX0) (T := TX0) (N := 6) hx hb hts iX0 hown hK hP 0 rfl rfl 1 (by decide) f15 (fun _ h9 => h9) rfl dX0_add_1 ?_
  refine lv_bipush (v := (nI 80)) hx hb dX0_add_4 (by decide) ?_
  refine lv_icmp_ge (tgt := 29) hx hb dX0_add_6 (by decide) (fun h_1 => absurd ((nI_leI (by decide) (by omega)).mp h_1) (by omega)) (fun h_1 => ?_)
  have h_1 := mt (nI_leI (a := 80) (b := len) (by first | omega | exact bits_lt31 _ | exact bitN_lt _ _ | exact bool_lt _ | exact and_lt31 _ _ _ _ | exact Nat.lt_of_le_of_lt (dst_lt _ _ _ (by omega) _) (by decide) | exact Nat.lt_of_le_of_lt (nrB_le _ _ _ (by omega)).2 (by decide) | decide) (by first | omega | exact bits_lt31 _ | exact bitN_lt _ _ | exact bool_lt _ | exact and_lt31 _ _ _ _ | exact Nat.lt_of_le_of_lt (dst_lt _ _ _ (by omega) _) (by decide) | exact Nat.lt_of_le_of_lt (nrB_le _ _ _ (by omega)).2 (by decide) | decide)).mpr h_1
  refine lv_aload_n hx hb dX0_add_9 rfl (lv_at hl 0 rfl) ?_
  refine va_get (D := D) (ci := 0) (v := .ref (t 1)) (C := RX0) (T := TX0) (N := 6) hx hb hts iX0 hown hK hP 0 rfl rfl 0 (by decide) f9 (fun _ h9 => h9) rfl dX0_add_10 ?_
  refine lv_aload_n hx hb dX0_add_13 rfl (lv_at hl 0 rfl) ?_
  refine va_get (D := D) (ci := 0) (v := .int (nI len)) (C := RX0) (T := TX0) (N := 6) hx hb hts iX0 hown hK hP 0 rfl rfl 1 (by decide) f15 (fun _ h9 => h9) rfl dX0_add_14 ?_
  refine lv_iload_n hx hb dX0_add_17 rfl (lv_at hl 1 rfl) ?_
  refine r_ist (k := len) hx hb hK hP hD hS 1 rfl (by omega) (by decide) dX0_add_18 (fun H locs hP hD hS => ?_)
  rw [nupd] at hP hD
  have hP : va_P D vwCl ([(t 0, .inr (0, [.ref (t 1), .int (nI len), .int (nI pos), .int kd, .int tr, .int op])), (t 1, .inl (cI, 80, .inl (fun z => nI ((va_up sg len ch) z))))]) H := hP
  have hD : va_D A ([(t 0, .inr (0, [.ref (t 1), .int (nI len), .int (nI pos), .int kd, .int tr, .int op])), (t 1, .inl (cI, 80, .inl (fun z => nI ((va_up sg len ch) z))))]) := hD
  refine lv_aload_n hx hb dX0_add_19 rfl (lv_at hl 0 rfl) ?_
  refine lv_dup hx hb dX0_add_20 rfl ?_
  refine va_get (D := D) (ci := 0) (v := .int (nI len)) (C := RX0) (T := TX0) (N := 6) hx hb hts iX0 hown hK hP 0 rfl rfl 1 (by decide) f15 (fun _ h9 => h9) rfl dX0_add_21 ?_
  refine lv_iconst (v := (nI 1)) hx hb dX0_add_24 (by decide) ?_
  refine lv_iadd hx hb dX0_add_25 ?_
  refine tpe (y := (nI (len + 1))) (nI_add _ _) ?_
  refine va_put (D := D) (ci := 0) (v := .int (nI (len + 1))) (ty := .int) (C := RX0) (T := TX0) (N := 6) hx hb hts iX0 tyX0 tyX0_ok nmX0 hown hK hP hD hS 0 rfl rfl 1 (by decide) f15 (fun _ h9 => h9) rfl (by decide +kernel) rfl rfl (Nat.le_of_ble_eq_true rfl) dX0_add_26 (fun H locs hP hD hS => ?_)
  have hP : va_P D vwCl ([(t 0, .inr (0, [.ref (t 1), .int (nI (len + 1)), .int (nI pos), .int kd, .int tr, .int op])), (t 1, .inl (cI, 80, .inl (fun z => nI ((va_up sg len ch) z))))]) H := hP
  have hD : va_D A ([(t 0, .inr (0, [.ref (t 1), .int (nI (len + 1)), .int (nI pos), .int kd, .int tr, .int op])), (t 1, .inl (cI, 80, .inl (fun z => nI ((va_up sg len ch) z))))]) := hD
  exact ret_v (u := ()) hQ hx hb hrt hlk hS dX0_add_29 hP trivial

abbrev rX0_rewind : Room := { frames := 0, cells := 0, slots := 0, locals := 0 }
set_option maxHeartbeats 4000000 in
set_option maxRecDepth 100000 in
/-- rewind -/
theorem c_X0_rewind (l : Launch) (D : va_G) (cI cT : ClassId) (t sg : Nat → Nat) (len pos : Nat) (kd tr op : Int32) (hlen : len ≤ 80) (hsg : ∀ z, sg z < 128) : CV l D cI cT yX0_rewind wsX0_rewind rX0_rewind [.ref (t 0)] (txtW cI t sg len pos kd tr op) (S := Unit) (fun _ => True) (fun _ => txtW cI t sg len 0 kd tr op) := by
  refine CV.of (cc := cX0_rewind) (maxL := 1) (ret := none) (by decide) rfl (Nat.le_of_ble_eq_true rfl) ?_
  intro p e s m args below meth c A Q hQ B hA H locs hP hK hD hS ls hl
  obtain ⟨hx, hb, hml, hrt, hts, hown, hlk⟩ := B
  have hl : lv_has ls 1 [(0, .ref (t 0))] := hl
  have iX0 : ∀ w ∈ u_ws RX0 TX0 6, w ∈ wsX0_rewind := by decide +kernel
  have f19 := hts (.fieldLink RX0 19 "LockManager$CommandText" "position" "I") (by decide +kernel)
  refine lv_aload_n hx hb dX0_rewind_0 rfl (lv_at hl 0 rfl) ?_
  refine lv_iconst (v := (nI 0)) hx hb dX0_rewind_1 (by decide) ?_
  refine va_put (D := D) (ci := 0) (v := .int (nI 0)) (ty := .int) (C := RX0) (T := TX0) (N := 6) hx hb hts iX0 tyX0 tyX0_ok nmX0 hown hK hP hD hS 0 rfl rfl 2 (by decide) f19 (fun _ h9 => h9) rfl (by decide +kernel) rfl rfl (Nat.le_of_ble_eq_true rfl) dX0_rewind_2 (fun H locs hP hD hS => ?_)
  have hP : va_P D vwCl ([(t 0, .inr (0, [.ref (t 1), .int (nI len), .int (nI 0), .int kd, .int tr, .int op])), (t 1, .inl (cI, 80, .inl (fun z => nI (sg z))))]) H := hP
  have hD : va_D A ([(t 0, .inr (0, [.ref (t 1), .int (nI len), .int (nI 0), .int kd, .int tr, .int op])), (t 1, .inl (cI, 80, .inl (fun z => nI (sg z))))]) := hD
  exact ret_v (u := ()) hQ hx hb hrt hlk hS dX0_rewind_5 hP trivial

abbrev rX0_signHere : Room := { frames := 0, cells := 0, slots := 0, locals := 0 }
set_option maxHeartbeats 4000000 in
set_option maxRecDepth 100000 in
/-- signHere -/
theorem c_X0_signHere (l : Launch) (D : va_G) (cI cT : ClassId) (t sg : Nat → Nat) (len pos : Nat) (kd tr op : Int32) (hlen : len ≤ 80) (hsg : ∀ z, sg z < 128) (hpos : pos ≤ len) : CN l D cI cT yX0_signHere wsX0_signHere rX0_signHere [.ref (t 0)] (txtW cI t sg len pos kd tr op) (S := Unit) (fun v _ => v = shI sg len pos) (fun _ => txtW cI t sg len pos kd tr op) := by
  refine CN.of (cc := cX0_signHere) (maxL := 1) (ret := (some .int)) (by decide) rfl (Nat.le_of_ble_eq_true rfl) ?_
  intro p e s m args below meth c A Q hQ B hA H locs hP hK hD hS ls hl
  obtain ⟨hx, hb, hml, hrt, hts, hown, hlk⟩ := B
  have hl : lv_has ls 1 [(0, .ref (t 0))] := hl
  have iX0 : ∀ w ∈ u_ws RX0 TX0 6, w ∈ wsX0_signHere := by decide +kernel
  have f19 := hts (.fieldLink RX0 19 "LockManager$CommandText" "position" "I") (by decide +kernel)
  have f15 := hts (.fieldLink RX0 15 "LockManager$CommandText" "length" "I") (by decide +kernel)
  have f9 := hts (.fieldLink RX0 9 "LockManager$CommandText" "signs" "[I") (by decide +kernel)
  refine lv_aload_n hx hb dX0_signHere_0 rfl (lv_at hl 0 rfl) ?_
  refine va_get (D := D) (ci := 0) (v := .int (nI pos)) (C := RX0) (T := TX0) (N := 6) hx hb hts iX0 hown hK hP 0 rfl rfl 2 (by decide) f19 (fun _ h9 => h9) rfl dX0_signHere_1 ?_
  refine lv_aload_n hx hb dX0_signHere_4 rfl (lv_at hl 0 rfl) ?_
  refine va_get (D := D) (ci := 0) (v := .int (nI len)) (C := RX0) (T := TX0) (N := 6) hx hb hts iX0 hown hK hP 0 rfl rfl 1 (by decide) f15 (fun _ h9 => h9) rfl dX0_signHere_5 ?_
  refine lv_icmp_ge (tgt := 23) hx hb dX0_signHere_8 (by decide) (fun h_1 => ?_) (fun h_1 => ?_)
  · have h_1 := (nI_leI (a := len) (b := pos) (by first | omega | exact bits_lt31 _ | exact bitN_lt _ _ | exact bool_lt _ | exact and_lt31 _ _ _ _ | exact Nat.lt_of_le_of_lt (dst_lt _ _ _ (by omega) _) (by decide) | exact Nat.lt_of_le_of_lt (nrB_le _ _ _ (by omega)).2 (by decide) | decide) (by first | omega | exact bits_lt31 _ | exact bitN_lt _ _ | exact bool_lt _ | exact and_lt31 _ _ _ _ | exact Nat.lt_of_le_of_lt (dst_lt _ _ _ (by omega) _) (by decide) | exact Nat.lt_of_le_of_lt (nrB_le _ _ _ (by omega)).2 (by decide) | decide)).mp h_1
    refine lv_iconst (v := (-1)) hx hb dX0_signHere_23 (by decide) ?_
    exact ret_i (u := ()) hQ hx hb hrt hlk hS dX0_signHere_24 hP ((sh_ge (by omega)).symm)
  · have h_1 := mt (nI_leI (a := len) (b := pos) (by first | omega | exact bits_lt31 _ | exact bitN_lt _ _ | exact bool_lt _ | exact and_lt31 _ _ _ _ | exact Nat.lt_of_le_of_lt (dst_lt _ _ _ (by omega) _) (by decide) | exact Nat.lt_of_le_of_lt (nrB_le _ _ _ (by omega)).2 (by decide) | decide) (by first | omega | exact bits_lt31 _ | exact bitN_lt _ _ | exact bool_lt _ | exact and_lt31 _ _ _ _ | exact Nat.lt_of_le_of_lt (dst_lt _ _ _ (by omega) _) (by decide) | exact Nat.lt_of_le_of_lt (nrB_le _ _ _ (by omega)).2 (by decide) | decide)).mpr h_1
    refine lv_aload_n hx hb dX0_signHere_11 rfl (lv_at hl 0 rfl) ?_
    refine va_get (D := D) (ci := 0) (v := .ref (t 1)) (C := RX0) (T := TX0) (N := 6) hx hb hts iX0 hown hK hP 0 rfl rfl 0 (by decide) f9 (fun _ h9 => h9) rfl dX0_signHere_12 ?_
    refine lv_aload_n hx hb dX0_signHere_15 rfl (lv_at hl 0 rfl) ?_
    refine va_get (D := D) (ci := 0) (v := .int (nI pos)) (C := RX0) (T := TX0) (N := 6) hx hb hts iX0 hown hK hP 0 rfl rfl 2 (by decide) f19 (fun _ h9 => h9) rfl dX0_signHere_16 ?_
    refine r_ild (k := pos) hx hb hK hP 1 rfl (by omega) (by decide) dX0_signHere_19 ?_
    refine tpe (y := (nI (sg pos))) rfl ?_
    refine lv_goto (tgt := 24) hx hb dX0_signHere_20 (by decide) ?_
    exact ret_i (u := ()) hQ hx hb hrt hlk hS dX0_signHere_24 hP ((sh_lt (by omega)).symm)

abbrev rX0_readKind : Room := { frames := 1, cells := 0, slots := 0, locals := 20 }
set_option maxHeartbeats 4000000 in
set_option maxRecDepth 100000 in
/-- readKind -/
theorem c_X0_readKind (l : Launch) (D : va_G) (cI cT : ClassId) (t sg : Nat → Nat) (len pos : Nat) (kd tr op : Int32) (hlen : len ≤ 80) (hsg : ∀ z, sg z < 128) (hpos : pos ≤ len) : CN l D cI cT yX0_readKind wsX0_readKind rX0_readKind [.ref (t 0)] (txtW cI t sg len pos kd tr op) (S := Unit) (fun v _ => v = nI (rkB sg len pos).toNat) (fun _ => txtW cI t sg len (if rkB sg len pos = true then pos + 1 else pos) (shI sg len pos) tr op) := by
  refine CN.of (cc := cX0_readKind) (maxL := 1) (ret := (some .boolean)) (by decide) rfl (Nat.le_of_ble_eq_true rfl) ?_
  intro p e s m args below meth c A Q hQ B hA H locs hP hK hD hS ls hl
  obtain ⟨hx, hb, hml, hrt, hts, hown, hlk⟩ := B
  have hl : lv_has ls 1 [(0, .ref (t 0))] := hl
  have iX0 : ∀ w ∈ u_ws RX0 TX0 6, w ∈ wsX0_readKind := by decide +kernel
  have f43 := hts (.fieldLink RX0 43 "LockManager$CommandText" "kind" "I") (by decide +kernel)
  have f19 := hts (.fieldLink RX0 19 "LockManager$CommandText" "position" "I") (by decide +kernel)
  refine lv_aload_n hx hb dX0_readKind_0 rfl (lv_at hl 0 rfl) ?_
  refine lv_aload_n hx hb dX0_readKind_1 rfl (lv_at hl 0 rfl) ?_
  refine call_i (X := []) (Z := []) (As := []) (rest := [.ref (t 0)]) ⟨hx, hb, hml, hown, hts⟩ (c_X0_signHere l D cI cT t sg len pos kd tr op  hlen hsg (by omega)) (cwV 0 hts gX0_readKind_X0_signHere rfl rfl rfl (by decide +kernel) ⟨Nat.le_of_ble_eq_true rfl, Nat.le_of_ble_eq_true rfl⟩) hK hP hD hS hA (va_recv hK hP (ci := 0) (q0 := 0) rfl rfl) (fun _ => adr_txt.trans adr_txt.symm) rfl hl.1 rfl (Nat.le_of_ble_eq_true rfl) ⟨by decide, by decide⟩ dX0_readKind_2 (fun rv u H locs hp hP hD hS => ?_)
  obtain rfl := hp
  have hP : va_P D vwCl ([(t 0, .inr (0, [.ref (t 1), .int (nI len), .int (nI pos), .int kd, .int tr, .int op])), (t 1, .inl (cI, 80, .inl (fun z => nI (sg z))))]) H := hP
  have hD : va_D A ([(t 0, .inr (0, [.ref (t 1), .int (nI len), .int (nI pos), .int kd, .int tr, .int op])), (t 1, .inl (cI, 80, .inl (fun z => nI (sg z))))]) := hD
  refine va_put (D := D) (ci := 0) (v := .int (shI sg len pos)) (ty := .int) (C := RX0) (T := TX0) (N := 6) hx hb hts iX0 tyX0 tyX0_ok nmX0 hown hK hP hD hS 0 rfl rfl 3 (by decide) f43 (fun _ h9 => h9) rfl (by decide +kernel) rfl rfl (Nat.le_of_ble_eq_true rfl) dX0_readKind_5 (fun H locs hP hD hS => ?_)
  have hP : va_P D vwCl ([(t 0, .inr (0, [.ref (t 1), .int (nI len), .int (nI pos), .int (shI sg len pos), .int tr, .int op])), (t 1, .inl (cI, 80, .inl (fun z => nI (sg z))))]) H := hP
  have hD : va_D A ([(t 0, .inr (0, [.ref (t 1), .int (nI len), .int (nI pos), .int (shI sg len pos), .int tr, .int op])), (t 1, .inl (cI, 80, .inl (fun z => nI (sg z))))]) := hD
  refine lv_aload_n hx hb dX0_readKind_8 rfl (lv_at hl 0 rfl) ?_
  refine va_get (D := D) (ci := 0) (v := .int (shI sg len pos)) (C := RX0) (T := TX0) (N := 6) hx hb hts iX0 hown hK hP 0 rfl rfl 3 (by decide) f43 (fun _ h9 => h9) rfl dX0_readKind_9 ?_
  have hk9 : ∀ (k0 : Nat), k0 = 97 ∨ k0 = 98 ∨ k0 = 99 ∨ k0 = 107 ∨ k0 = 115 ∨ k0 = 119 ∨ k0 = 120 → W p l e rX0_readKind s m args below meth c H locs 0 0 Q (F0 m 124 ls []) → W p l e rX0_readKind s m args below meth c H locs 0 0 Q (F0 m 12 ls [.int (nI k0)]) := by
    intro k0 hk0 kk
    rcases hk0 with rfl | rfl | rfl | rfl | rfl | rfl | rfl <;> exact lv_tableIn (off := 112) (tgt := 124) hx hb dX0_readKind_12 (by decide) (by decide) (by decide) (by decide) kk
  have hk8 : rkB sg len pos = false → W p l e rX0_readKind s m args below meth c H locs 0 0 Q (F0 m 136 ls []) → W p l e rX0_readKind s m args below meth c H locs 0 0 Q (F0 m 12 ls [.int (shI sg len pos)]) := by
    intro hk0 kk
    by_cases hp0 : pos < len
    · rw [sh_lt hp0]
      have hs0 := hsg pos
      have hi : (nI (sg pos)).toInt = (sg pos : Int) := nI_toInt (by omega)
      have hno : isK (sg pos) = false := by simpa [rkB, hp0] using hk0
      by_cases hr : 97 ≤ sg pos ∧ sg pos ≤ 120
      · obtain ⟨j, hj⟩ : ∃ j, sg pos = 97 + j := ⟨sg pos - 97, by omega⟩
        rw [hj] at hno ⊢
        have hj24 : j < 24 := by omega
        have hcase : ∀ j, j < 24 → isK (97 + j) = false → (#[112, 112, 112, 124, 124, 124, 124, 124, 124, 124, 112, 124, 124, 124, 124, 124, 124, 124, 112, 124, 124, 124, 112, 112] : Array Int)[((nI (97 + j)).toInt - 97).toNat]? = some 124 := by decide +kernel
        have e97 : (nI (97 + j)).toInt = ((97 + j : Nat) : Int) := nI_toInt (by omega)
        exact lv_tableIn (off := 124) (tgt := 136) hx hb dX0_readKind_12 (by rw [e97]; omega) (by rw [e97]; omega) (hcase j hj24 hno) (by decide) kk
      · exact lv_tableOut (tgt := 136) hx hb dX0_readKind_12 (by rw [hi]; omega) (by decide) kk
    · rw [sh_ge hp0]
      exact lv_tableOut (tgt := 136) hx hb dX0_readKind_12 (by decide) (by decide) kk
  cases hk : rkB sg len pos with
  | true =>
    obtain ⟨hp0, hk0⟩ := rkB_t hk
    rw [sh_lt hp0]
    refine hk9 _ (isK_or hk0) ?_
    refine lv_aload_n hx hb dX0_readKind_124 rfl (lv_at hl 0 rfl) ?_
    refine lv_dup hx hb dX0_readKind_125 rfl ?_
    refine va_get (D := D) (ci := 0) (v := .int (nI pos)) (C := RX0) (T := TX0) (N := 6) hx hb hts iX0 hown hK hP 0 rfl rfl 2 (by decide) f19 (fun _ h9 => h9) rfl dX0_readKind_126 ?_
    refine lv_iconst (v := (nI 1)) hx hb dX0_readKind_129 (by decide) ?_
    refine lv_iadd hx hb dX0_readKind_130 ?_
    refine tpe (y := (nI (pos + 1))) (nI_add _ _) ?_
    refine va_put (D := D) (ci := 0) (v := .int (nI (pos + 1))) (ty := .int) (C := RX0) (T := TX0) (N := 6) hx hb hts iX0 tyX0 tyX0_ok nmX0 hown hK hP hD hS 0 rfl rfl 2 (by decide) f19 (fun _ h9 => h9) rfl (by decide +kernel) rfl rfl (Nat.le_of_ble_eq_true rfl) dX0_readKind_131 (fun H locs hP hD hS => ?_)
    have hP : va_P D vwCl ([(t 0, .inr (0, [.ref (t 1), .int (nI len), .int (nI (pos + 1)), .int (shI sg len pos), .int tr, .int op])), (t 1, .inl (cI, 80, .inl (fun z => nI (sg z))))]) H := hP
    have hD : va_D A ([(t 0, .inr (0, [.ref (t 1), .int (nI len), .int (nI (pos + 1)), .int (shI sg len pos), .int tr, .int op])), (t 1, .inl (cI, 80, .inl (fun z => nI (sg z))))]) := hD
    refine lv_iconst (v := (nI 1)) hx hb dX0_readKind_134 (by decide) ?_
    exact ret_z (u := ()) hQ hx hb hrt hlk hS dX0_readKind_135 (by decide) (by rw [if_pos hk]; exact hP) (by rw [hk]; rfl)
  | false =>
    refine hk8 hk ?_
    refine lv_iconst (v := (nI 0)) hx hb dX0_readKind_136 (by decide) ?_
    exact ret_z (u := ()) hQ hx hb hrt hlk hS dX0_readKind_137 (by decide) (by rw [if_neg (by simp [hk])]; exact hP) (by rw [hk]; rfl)

abbrev rX0_readSign : Room := { frames := 1, cells := 0, slots := 0, locals := 20 }
set_option maxHeartbeats 4000000 in
set_option maxRecDepth 100000 in
/-- readSign -/
theorem c_X0_readSign (l : Launch) (D : va_G) (cI cT : ClassId) (t sg : Nat → Nat) (len pos : Nat) (kd tr op : Int32) (k : Nat) (hk : k < 128) (hlen : len ≤ 80) (hsg : ∀ z, sg z < 128) (hpos : pos ≤ len) : CN l D cI cT yX0_readSign wsX0_readSign rX0_readSign [.ref (t 0), .int (nI k)] (txtW cI t sg len pos kd tr op) (S := Unit) (fun v _ => v = nI (sgB sg len pos k).toNat) (fun _ => txtW cI t sg len (if sgB sg len pos k = true then pos + 1 else pos) kd tr op) := by
  refine CN.of (cc := cX0_readSign) (maxL := 2) (ret := (some .boolean)) (by decide) rfl (Nat.le_of_ble_eq_true rfl) ?_
  intro p e s m args below meth c A Q hQ B hA H locs hP hK hD hS ls hl
  obtain ⟨hx, hb, hml, hrt, hts, hown, hlk⟩ := B
  have hl : lv_has ls 2 [(0, .ref (t 0)), (1, .int (nI k))] := hl
  have iX0 : ∀ w ∈ u_ws RX0 TX0 6, w ∈ wsX0_readSign := by decide +kernel
  have f19 := hts (.fieldLink RX0 19 "LockManager$CommandText" "position" "I") (by decide +kernel)
  refine lv_aload_n hx hb dX0_readSign_0 rfl (lv_at hl 0 rfl) ?_
  refine call_i (X := []) (Z := []) (As := []) (rest := []) ⟨hx, hb, hml, hown, hts⟩ (c_X0_signHere l D cI cT t sg len pos kd tr op  hlen hsg (by omega)) (cwV 0 hts gX0_readSign_X0_signHere rfl rfl rfl (by decide +kernel) ⟨Nat.le_of_ble_eq_true rfl, Nat.le_of_ble_eq_true rfl⟩) hK hP hD hS hA (va_recv hK hP (ci := 0) (q0 := 0) rfl rfl) (fun _ => adr_txt.trans adr_txt.symm) rfl hl.1 rfl (Nat.le_of_ble_eq_true rfl) ⟨by decide, by decide⟩ dX0_readSign_1 (fun rv u H locs hp hP hD hS => ?_)
  obtain rfl := hp
  have hP : va_P D vwCl ([(t 0, .inr (0, [.ref (t 1), .int (nI len), .int (nI pos), .int kd, .int tr, .int op])), (t 1, .inl (cI, 80, .inl (fun z => nI (sg z))))]) H := hP
  have hD : va_D A ([(t 0, .inr (0, [.ref (t 1), .int (nI len), .int (nI pos), .int kd, .int tr, .int op])), (t 1, .inl (cI, 80, .inl (fun z => nI (sg z))))]) := hD
  refine lv_iload_n hx hb dX0_readSign_4 rfl (lv_at hl 1 rfl) ?_
  refine lv_icmp_eq (tgt := 10) hx hb dX0_readSign_5 (by decide) (fun h_1 => ?_) (fun h_1 => ?_)
  · have h_1 := h_1
    refine lv_aload_n hx hb dX0_readSign_10 rfl (lv_at hl 0 rfl) ?_
    refine lv_dup hx hb dX0_readSign_11 rfl ?_
    refine va_get (D := D) (ci := 0) (v := .int (nI pos)) (C := RX0) (T := TX0) (N := 6) hx hb hts iX0 hown hK hP 0 rfl rfl 2 (by decide) f19 (fun _ h9 => h9) rfl dX0_readSign_12 ?_
    refine lv_iconst (v := (nI 1)) hx hb dX0_readSign_15 (by decide) ?_
    refine lv_iadd hx hb dX0_readSign_16 ?_
    refine tpe (y := (nI (pos + 1))) (nI_add _ _) ?_
    refine va_put (D := D) (ci := 0) (v := .int (nI (pos + 1))) (ty := .int) (C := RX0) (T := TX0) (N := 6) hx hb hts iX0 tyX0 tyX0_ok nmX0 hown hK hP hD hS 0 rfl rfl 2 (by decide) f19 (fun _ h9 => h9) rfl (by decide +kernel) rfl rfl (Nat.le_of_ble_eq_true rfl) dX0_readSign_17 (fun H locs hP hD hS => ?_)
    have hP : va_P D vwCl ([(t 0, .inr (0, [.ref (t 1), .int (nI len), .int (nI (pos + 1)), .int kd, .int tr, .int op])), (t 1, .inl (cI, 80, .inl (fun z => nI (sg z))))]) H := hP
    have hD : va_D A ([(t 0, .inr (0, [.ref (t 1), .int (nI len), .int (nI (pos + 1)), .int kd, .int tr, .int op])), (t 1, .inl (cI, 80, .inl (fun z => nI (sg z))))]) := hD
    refine lv_iconst (v := (nI 1)) hx hb dX0_readSign_20 (by decide) ?_
    exact ret_z (u := ()) hQ hx hb hrt hlk hS dX0_readSign_21 (by decide) (by rw [if_pos (sgB_t (hsg pos) hk h_1)]; exact hP) (by rw [sgB_t (hsg pos) hk h_1]; rfl)
  · have h_1 := h_1
    refine lv_iconst (v := (nI 0)) hx hb dX0_readSign_8 (by decide) ?_
    exact ret_z (u := ()) hQ hx hb hrt hlk hS dX0_readSign_9 (by decide) (by rw [if_neg (by simp [sgB_f h_1])]; exact hP) (by rw [sgB_f h_1]; rfl)

abbrev rX0_readDigit : Room := { frames := 1, cells := 0, slots := 0, locals := 20 }
set_option maxHeartbeats 4000000 in
set_option maxRecDepth 100000 in
/-- readDigit -/
theorem c_X0_readDigit (l : Launch) (D : va_G) (cI cT : ClassId) (t sg : Nat → Nat) (len pos : Nat) (kd tr op : Int32) (hi : Nat) (hhi : hi < 128) (hlen : len ≤ 80) (hsg : ∀ z, sg z < 128) (hpos : pos ≤ len) : CN l D cI cT yX0_readDigit wsX0_readDigit rX0_readDigit [.ref (t 0), .int (nI hi)] (txtW cI t sg len pos kd tr op) (S := Unit) (fun v _ => v = (if dgB sg len pos hi = true then nI (sg pos - 48) else (-1))) (fun _ => txtW cI t sg len (if dgB sg len pos hi = true then pos + 1 else pos) kd tr op) := by
  refine CN.of (cc := cX0_readDigit) (maxL := 3) (ret := (some .int)) (by decide) rfl (Nat.le_of_ble_eq_true rfl) ?_
  intro p e s m args below meth c A Q hQ B hA H locs hP hK hD hS ls hl
  obtain ⟨hx, hb, hml, hrt, hts, hown, hlk⟩ := B
  have hl : lv_has ls 3 [(0, .ref (t 0)), (1, .int (nI hi))] := hl
  have iX0 : ∀ w ∈ u_ws RX0 TX0 6, w ∈ wsX0_readDigit := by decide +kernel
  have f19 := hts (.fieldLink RX0 19 "LockManager$CommandText" "position" "I") (by decide +kernel)
  refine lv_aload_n hx hb dX0_readDigit_0 rfl (lv_at hl 0 rfl) ?_
  refine call_i (X := []) (Z := []) (As := []) (rest := []) ⟨hx, hb, hml, hown, hts⟩ (c_X0_signHere l D cI cT t sg len pos kd tr op  hlen hsg (by omega)) (cwV 0 hts gX0_readDigit_X0_signHere rfl rfl rfl (by decide +kernel) ⟨Nat.le_of_ble_eq_true rfl, Nat.le_of_ble_eq_true rfl⟩) hK hP hD hS hA (va_recv hK hP (ci := 0) (q0 := 0) rfl rfl) (fun _ => adr_txt.trans adr_txt.symm) rfl hl.1 rfl (Nat.le_of_ble_eq_true rfl) ⟨by decide, by decide⟩ dX0_readDigit_1 (fun rv u H locs hp hP hD hS => ?_)
  obtain rfl := hp
  have hP : va_P D vwCl ([(t 0, .inr (0, [.ref (t 1), .int (nI len), .int (nI pos), .int kd, .int tr, .int op])), (t 1, .inl (cI, 80, .inl (fun z => nI (sg z))))]) H := hP
  have hD : va_D A ([(t 0, .inr (0, [.ref (t 1), .int (nI len), .int (nI pos), .int kd, .int tr, .int op])), (t 1, .inl (cI, 80, .inl (fun z => nI (sg z))))]) := hD
  refine lv_bipush (v := (nI 48)) hx hb dX0_readDigit_4 (by decide) ?_
  refine lv_isub hx hb dX0_readDigit_6 ?_
  refine lv_istore_n (lv' := [(2, .int ((shI sg len pos) - (nI 48))), (0, .ref (t 0)), (1, .int (nI hi))]) hx hb dX0_readDigit_7 rfl hl (by decide) rfl (fun ls hl => ?_)
  refine lv_iload_n hx hb dX0_readDigit_8 rfl (lv_at hl 0 rfl) ?_
  refine lv_if_lt (tgt := 17) hx hb dX0_readDigit_9 (by decide) (fun h_1 => ?_) (fun h_1 => ?_)
  · have h_1 := h_1
    refine lv_iconst (v := (-1)) hx hb dX0_readDigit_17 (by decide) ?_
    exact ret_i (u := ()) hQ hx hb hrt hlk hS dX0_readDigit_18 (by rw [if_neg (by rw [dgB_f (Or.inl (dg_neg (hsg pos) h_1))]; decide)]; exact hP) ((if_neg (by rw [dgB_f (Or.inl (dg_neg (hsg pos) h_1))]; decide)).symm)
  · have h_1 := h_1
    obtain ⟨hp0, h48⟩ := dg_nn (hsg pos) h_1
    have hs0 := hsg pos
    rw [dg_val hp0 h48] at hl
    refine lv_iload_n hx hb dX0_readDigit_12 rfl (lv_at hl 0 rfl) ?_
    refine lv_iload_n hx hb dX0_readDigit_13 rfl (lv_at hl 2 rfl) ?_
    refine lv_icmp_le (tgt := 19) hx hb dX0_readDigit_14 (by decide) (fun h_2 => ?_) (fun h_2 => ?_)
    · have h_2 := (nI_leI (a := (sg pos - 48)) (b := hi) (by first | omega | exact bits_lt31 _ | exact bitN_lt _ _ | exact bool_lt _ | exact and_lt31 _ _ _ _ | exact Nat.lt_of_le_of_lt (dst_lt _ _ _ (by omega) _) (by decide) | exact Nat.lt_of_le_of_lt (nrB_le _ _ _ (by omega)).2 (by decide) | decide) (by first | omega | exact bits_lt31 _ | exact bitN_lt _ _ | exact bool_lt _ | exact and_lt31 _ _ _ _ | exact Nat.lt_of_le_of_lt (dst_lt _ _ _ (by omega) _) (by decide) | exact Nat.lt_of_le_of_lt (nrB_le _ _ _ (by omega)).2 (by decide) | decide)).mp h_2
      refine lv_aload_n hx hb dX0_readDigit_19 rfl (lv_at hl 1 rfl) ?_
      refine lv_dup hx hb dX0_readDigit_20 rfl ?_
      refine va_get (D := D) (ci := 0) (v := .int (nI pos)) (C := RX0) (T := TX0) (N := 6) hx hb hts iX0 hown hK hP 0 rfl rfl 2 (by decide) f19 (fun _ h9 => h9) rfl dX0_readDigit_21 ?_
      refine lv_iconst (v := (nI 1)) hx hb dX0_readDigit_24 (by decide) ?_
      refine lv_iadd hx hb dX0_readDigit_25 ?_
      refine tpe (y := (nI (pos + 1))) (nI_add _ _) ?_
      refine va_put (D := D) (ci := 0) (v := .int (nI (pos + 1))) (ty := .int) (C := RX0) (T := TX0) (N := 6) hx hb hts iX0 tyX0 tyX0_ok nmX0 hown hK hP hD hS 0 rfl rfl 2 (by decide) f19 (fun _ h9 => h9) rfl (by decide +kernel) rfl rfl (Nat.le_of_ble_eq_true rfl) dX0_readDigit_26 (fun H locs hP hD hS => ?_)
      have hP : va_P D vwCl ([(t 0, .inr (0, [.ref (t 1), .int (nI len), .int (nI (pos + 1)), .int kd, .int tr, .int op])), (t 1, .inl (cI, 80, .inl (fun z => nI (sg z))))]) H := hP
      have hD : va_D A ([(t 0, .inr (0, [.ref (t 1), .int (nI len), .int (nI (pos + 1)), .int kd, .int tr, .int op])), (t 1, .inl (cI, 80, .inl (fun z => nI (sg z))))]) := hD
      refine lv_iload_n hx hb dX0_readDigit_29 rfl (lv_at hl 0 rfl) ?_
      exact ret_i (u := ()) hQ hx hb hrt hlk hS dX0_readDigit_30 (by rw [if_pos (dgB_t hp0 h48 h_2)]; exact hP) ((if_pos (dgB_t hp0 h48 h_2)).symm)
    · have h_2 := mt (nI_leI (a := (sg pos - 48)) (b := hi) (by first | omega | exact bits_lt31 _ | exact bitN_lt _ _ | exact bool_lt _ | exact and_lt31 _ _ _ _ | exact Nat.lt_of_le_of_lt (dst_lt _ _ _ (by omega) _) (by decide) | exact Nat.lt_of_le_of_lt (nrB_le _ _ _ (by omega)).2 (by decide) | decide) (by first | omega | exact bits_lt31 _ | exact bitN_lt _ _ | exact bool_lt _ | exact and_lt31 _ _ _ _ | exact Nat.lt_of_le_of_lt (dst_lt _ _ _ (by omega) _) (by decide) | exact Nat.lt_of_le_of_lt (nrB_le _ _ _ (by omega)).2 (by decide) | decide)).mpr h_2
      refine lv_iconst (v := (-1)) hx hb dX0_readDigit_17 (by decide) ?_
      exact ret_i (u := ()) hQ hx hb hrt hlk hS dX0_readDigit_18 (by rw [if_neg (by rw [dgB_f (hi := hi) (Or.inr h_2)]; decide)]; exact hP) ((if_neg (by rw [dgB_f (hi := hi) (Or.inr h_2)]; decide)).symm)

abbrev rX0_readAmount : Room := { frames := 1, cells := 0, slots := 0, locals := 20 }
set_option maxHeartbeats 4000000 in
set_option maxRecDepth 100000 in
/-- readAmount -/
theorem c_X0_readAmount (l : Launch) (D : va_G) (cI cT : ClassId) (t sg : Nat → Nat) (len pos : Nat) (kd tr op : Int32) (hlen : len ≤ 80) (hsg : ∀ z, sg z < 128) (hpos : pos ≤ len) : CN l D cI cT yX0_readAmount wsX0_readAmount rX0_readAmount [.ref (t 0)] (txtW cI t sg len pos kd tr op) (S := Unit) (fun v _ => v = nI (decide (0 < (amN sg len 4 pos 0).2)).toNat) (fun _ => txtW cI t sg len ((amN sg len 4 pos 0).1) kd tr (nI (amN sg len 4 pos 0).2)) := by
  refine CN.of (cc := cX0_readAmount) (maxL := 4) (ret := (some .boolean)) (by decide) rfl (Nat.le_of_ble_eq_true rfl) ?_
  intro p e s m args below meth c A Q hQ B hA H locs hP hK hD hS ls hl
  obtain ⟨hx, hb, hml, hrt, hts, hown, hlk⟩ := B
  have hl : lv_has ls 4 [(0, .ref (t 0))] := hl
  have iX0 : ∀ w ∈ u_ws RX0 TX0 6, w ∈ wsX0_readAmount := by decide +kernel
  have f46 := hts (.fieldLink RX0 46 "LockManager$CommandText" "operand" "I") (by decide +kernel)
  have f19 := hts (.fieldLink RX0 19 "LockManager$CommandText" "position" "I") (by decide +kernel)
  refine lv_aload_n hx hb dX0_readAmount_0 rfl (lv_at hl 0 rfl) ?_
  refine lv_iconst (v := (nI 0)) hx hb dX0_readAmount_1 (by decide) ?_
  refine va_put (D := D) (ci := 0) (v := .int (nI 0)) (ty := .int) (C := RX0) (T := TX0) (N := 6) hx hb hts iX0 tyX0 tyX0_ok nmX0 hown hK hP hD hS 0 rfl rfl 5 (by decide) f46 (fun _ h9 => h9) rfl (by decide +kernel) rfl rfl (Nat.le_of_ble_eq_true rfl) dX0_readAmount_2 (fun H locs hP hD hS => ?_)
  have hP : va_P D vwCl ([(t 0, .inr (0, [.ref (t 1), .int (nI len), .int (nI pos), .int kd, .int tr, .int (nI 0)])), (t 1, .inl (cI, 80, .inl (fun z => nI (sg z))))]) H := hP
  have hD : va_D A ([(t 0, .inr (0, [.ref (t 1), .int (nI len), .int (nI pos), .int kd, .int tr, .int (nI 0)])), (t 1, .inl (cI, 80, .inl (fun z => nI (sg z))))]) := hD
  refine lv_iconst (v := (nI 0)) hx hb dX0_readAmount_5 (by decide) ?_
  refine lv_istore_n (lv' := [(1, .int (nI 0)), (0, .ref (t 0))]) hx hb dX0_readAmount_6 rfl hl (by decide) rfl (fun ls hl => ?_)
  have L7 : ∀ (N : Nat) (k : Nat) (p9 : Nat) (acc : Nat), (k ≤ 4) → (p9 ≤ len) → (acc ≤ 1000) → (amI sg len pos k p9 acc) → (4 - k) < N → ∀ (H : Heap) (locs : List Loc), va_P D vwCl ([(t 0, .inr (0, [.ref (t 1), .int (nI len), .int (nI p9), .int kd, .int tr, .int (nI acc)])), (t 1, .inl (cI, 80, .inl (fun z => nI (sg z))))]) H → va_D A ([(t 0, .inr (0, [.ref (t 1), .int (nI len), .int (nI p9), .int kd, .int tr, .int (nI acc)])), (t 1, .inl (cI, 80, .inl (fun z => nI (sg z))))]) → va_S A s.heap H locs → ∀ ls : Array Slot, lv_has ls 4 [(0, .ref (t 0)), (1, .int (nI k))] → W p l e rX0_readAmount s m args below meth c H locs 0 0 Q (F0 m 7 ls []) := by
    intro N7
    induction N7 with
    | zero => intro k p9 acc hk hp9 hac hI hN; exact absurd hN (Nat.not_lt_zero _)
    | succ N7 ih7 =>
      intro k p9 acc hk hp9 hac hI hN H locs hP hD hS ls hl
      refine lv_iload_n hx hb dX0_readAmount_7 rfl (lv_at hl 1 rfl) ?_
      refine lv_iconst (v := (nI 4)) hx hb dX0_readAmount_8 (by decide) ?_
      refine lv_icmp_ge (tgt := 76) hx hb dX0_readAmount_9 (by decide) (fun h_1 => ?_) (fun h_1 => ?_)
      · have h_1 := (nI_leI (a := 4) (b := k) (by first | omega | exact bits_lt31 _ | exact bitN_lt _ _ | exact bool_lt _ | exact and_lt31 _ _ _ _ | exact Nat.lt_of_le_of_lt (dst_lt _ _ _ (by omega) _) (by decide) | exact Nat.lt_of_le_of_lt (nrB_le _ _ _ (by omega)).2 (by decide) | decide) (by first | omega | exact bits_lt31 _ | exact bitN_lt _ _ | exact bool_lt _ | exact and_lt31 _ _ _ _ | exact Nat.lt_of_le_of_lt (dst_lt _ _ _ (by omega) _) (by decide) | exact Nat.lt_of_le_of_lt (nrB_le _ _ _ (by omega)).2 (by decide) | decide)).mp h_1
        obtain ⟨e1, e2⟩ := amI_e (Or.inl (by omega)) hI
        refine lv_aload_n hx hb dX0_readAmount_76 rfl (lv_at hl 0 rfl) ?_
        refine va_get (D := D) (ci := 0) (v := .int (nI acc)) (C := RX0) (T := TX0) (N := 6) hx hb hts iX0 hown hK hP 0 rfl rfl 5 (by decide) f46 (fun _ h9 => h9) rfl dX0_readAmount_77 ?_
        refine lv_if_le (tgt := 87) hx hb dX0_readAmount_80 (by decide) (fun h_2 => ?_) (fun h_2 => ?_)
        · have h_2 := (nI_leI (a := acc) (b := 0) (by first | omega | exact bits_lt31 _ | exact bitN_lt _ _ | exact bool_lt _ | exact and_lt31 _ _ _ _ | exact Nat.lt_of_le_of_lt (dst_lt _ _ _ (by omega) _) (by decide) | exact Nat.lt_of_le_of_lt (nrB_le _ _ _ (by omega)).2 (by decide) | decide) (by first | omega | exact bits_lt31 _ | exact bitN_lt _ _ | exact bool_lt _ | exact and_lt31 _ _ _ _ | exact Nat.lt_of_le_of_lt (dst_lt _ _ _ (by omega) _) (by decide) | exact Nat.lt_of_le_of_lt (nrB_le _ _ _ (by omega)).2 (by decide) | decide)).mp h_2
          refine lv_iconst (v := (nI 0)) hx hb dX0_readAmount_87 (by decide) ?_
          exact ret_z (u := ()) hQ hx hb hrt hlk hS dX0_readAmount_88 (by decide) (by rw [← e1, ← e2]; exact hP) (by rw [← e2, decide_eq_false (by omega)]; rfl)
        · have h_2 := mt (nI_leI (a := acc) (b := 0) (by first | omega | exact bits_lt31 _ | exact bitN_lt _ _ | exact bool_lt _ | exact and_lt31 _ _ _ _ | exact Nat.lt_of_le_of_lt (dst_lt _ _ _ (by omega) _) (by decide) | exact Nat.lt_of_le_of_lt (nrB_le _ _ _ (by omega)).2 (by decide) | decide) (by first | omega | exact bits_lt31 _ | exact bitN_lt _ _ | exact bool_lt _ | exact and_lt31 _ _ _ _ | exact Nat.lt_of_le_of_lt (dst_lt _ _ _ (by omega) _) (by decide) | exact Nat.lt_of_le_of_lt (nrB_le _ _ _ (by omega)).2 (by decide) | decide)).mpr h_2
          refine lv_iconst (v := (nI 1)) hx hb dX0_readAmount_83 (by decide) ?_
          refine lv_goto (tgt := 88) hx hb dX0_readAmount_84 (by decide) ?_
          exact ret_z (u := ()) hQ hx hb hrt hlk hS dX0_readAmount_88 (by decide) (by rw [← e1, ← e2]; exact hP) (by rw [← e2, decide_eq_true (by omega)]; rfl)
      · have h_1 := mt (nI_leI (a := 4) (b := k) (by first | omega | exact bits_lt31 _ | exact bitN_lt _ _ | exact bool_lt _ | exact and_lt31 _ _ _ _ | exact Nat.lt_of_le_of_lt (dst_lt _ _ _ (by omega) _) (by decide) | exact Nat.lt_of_le_of_lt (nrB_le _ _ _ (by omega)).2 (by decide) | decide) (by first | omega | exact bits_lt31 _ | exact bitN_lt _ _ | exact bool_lt _ | exact and_lt31 _ _ _ _ | exact Nat.lt_of_le_of_lt (dst_lt _ _ _ (by omega) _) (by decide) | exact Nat.lt_of_le_of_lt (nrB_le _ _ _ (by omega)).2 (by decide) | decide)).mpr h_1
        refine lv_aload_n hx hb dX0_readAmount_12 rfl (lv_at hl 0 rfl) ?_
        refine call_i (X := []) (Z := []) (As := []) (rest := []) ⟨hx, hb, hml, hown, hts⟩ (c_X0_signHere l D cI cT t sg len p9 kd tr (nI acc)  hlen hsg (by omega)) (cwV 0 hts gX0_readAmount_X0_signHere rfl rfl rfl (by decide +kernel) ⟨Nat.le_of_ble_eq_true rfl, Nat.le_of_ble_eq_true rfl⟩) hK hP hD hS hA (va_recv hK hP (ci := 0) (q0 := 0) rfl rfl) (fun _ => adr_txt.trans adr_txt.symm) rfl hl.1 rfl (Nat.le_of_ble_eq_true rfl) ⟨by decide, by decide⟩ dX0_readAmount_13 (fun rv u H locs hp hP hD hS => ?_)
        obtain rfl := hp
        have hP : va_P D vwCl ([(t 0, .inr (0, [.ref (t 1), .int (nI len), .int (nI p9), .int kd, .int tr, .int (nI acc)])), (t 1, .inl (cI, 80, .inl (fun z => nI (sg z))))]) H := hP
        have hD : va_D A ([(t 0, .inr (0, [.ref (t 1), .int (nI len), .int (nI p9), .int kd, .int tr, .int (nI acc)])), (t 1, .inl (cI, 80, .inl (fun z => nI (sg z))))]) := hD
        refine lv_bipush (v := (nI 48)) hx hb dX0_readAmount_16 (by decide) ?_
        refine lv_isub hx hb dX0_readAmount_18 ?_
        refine lv_istore_n (lv' := [(2, .int ((shI sg len p9) - (nI 48))), (0, .ref (t 0)), (1, .int (nI k))]) hx hb dX0_readAmount_19 rfl hl (by decide) rfl (fun ls hl => ?_)
        refine lv_aload_n hx hb dX0_readAmount_20 rfl (lv_at hl 1 rfl) ?_
        refine va_get (D := D) (ci := 0) (v := .int (nI acc)) (C := RX0) (T := TX0) (N := 6) hx hb hts iX0 hown hK hP 0 rfl rfl 5 (by decide) f46 (fun _ h9 => h9) rfl dX0_readAmount_21 ?_
        refine lv_bipush (v := (nI 10)) hx hb dX0_readAmount_24 (by decide) ?_
        refine lv_imul hx hb dX0_readAmount_26 ?_
        refine tpe (y := (nI (acc * 10))) (pk_mul _ _) ?_
        refine lv_iload_n hx hb dX0_readAmount_27 rfl (lv_at hl 0 rfl) ?_
        refine lv_iadd hx hb dX0_readAmount_28 ?_
        refine lv_istore_n (lv' := [(3, .int ((nI (acc * 10)) + ((shI sg len p9) - (nI 48)))), (2, .int ((shI sg len p9) - (nI 48))), (0, .ref (t 0)), (1, .int (nI k))]) hx hb dX0_readAmount_29 rfl hl (by decide) rfl (fun ls hl => ?_)
        refine lv_iload_n hx hb dX0_readAmount_30 rfl (lv_at hl 1 rfl) ?_
        refine lv_if_lt (tgt := 76) hx hb dX0_readAmount_31 (by decide) (fun h_3 => ?_) (fun h_3 => ?_)
        · have h_3 := h_3
          obtain ⟨e1, e2⟩ := amI_e (Or.inr (am_n (Or.inl (dg_neg (hsg p9) h_3)))) hI
          refine lv_aload_n hx hb dX0_readAmount_76 rfl (lv_at hl 2 rfl) ?_
          refine va_get (D := D) (ci := 0) (v := .int (nI acc)) (C := RX0) (T := TX0) (N := 6) hx hb hts iX0 hown hK hP 0 rfl rfl 5 (by decide) f46 (fun _ h9 => h9) rfl dX0_readAmount_77 ?_
          refine lv_if_le (tgt := 87) hx hb dX0_readAmount_80 (by decide) (fun h_4 => ?_) (fun h_4 => ?_)
          · have h_4 := (nI_leI (a := acc) (b := 0) (by first | omega | exact bits_lt31 _ | exact bitN_lt _ _ | exact bool_lt _ | exact and_lt31 _ _ _ _ | exact Nat.lt_of_le_of_lt (dst_lt _ _ _ (by omega) _) (by decide) | exact Nat.lt_of_le_of_lt (nrB_le _ _ _ (by omega)).2 (by decide) | decide) (by first | omega | exact bits_lt31 _ | exact bitN_lt _ _ | exact bool_lt _ | exact and_lt31 _ _ _ _ | exact Nat.lt_of_le_of_lt (dst_lt _ _ _ (by omega) _) (by decide) | exact Nat.lt_of_le_of_lt (nrB_le _ _ _ (by omega)).2 (by decide) | decide)).mp h_4
            refine lv_iconst (v := (nI 0)) hx hb dX0_readAmount_87 (by decide) ?_
            exact ret_z (u := ()) hQ hx hb hrt hlk hS dX0_readAmount_88 (by decide) (by rw [← e1, ← e2]; exact hP) (by rw [← e2, decide_eq_false (by omega)]; rfl)
          · have h_4 := mt (nI_leI (a := acc) (b := 0) (by first | omega | exact bits_lt31 _ | exact bitN_lt _ _ | exact bool_lt _ | exact and_lt31 _ _ _ _ | exact Nat.lt_of_le_of_lt (dst_lt _ _ _ (by omega) _) (by decide) | exact Nat.lt_of_le_of_lt (nrB_le _ _ _ (by omega)).2 (by decide) | decide) (by first | omega | exact bits_lt31 _ | exact bitN_lt _ _ | exact bool_lt _ | exact and_lt31 _ _ _ _ | exact Nat.lt_of_le_of_lt (dst_lt _ _ _ (by omega) _) (by decide) | exact Nat.lt_of_le_of_lt (nrB_le _ _ _ (by omega)).2 (by decide) | decide)).mpr h_4
            refine lv_iconst (v := (nI 1)) hx hb dX0_readAmount_83 (by decide) ?_
            refine lv_goto (tgt := 88) hx hb dX0_readAmount_84 (by decide) ?_
            exact ret_z (u := ()) hQ hx hb hrt hlk hS dX0_readAmount_88 (by decide) (by rw [← e1, ← e2]; exact hP) (by rw [← e2, decide_eq_true (by omega)]; rfl)
        · have h_3 := h_3
          obtain ⟨hp0, h48⟩ := dg_nn (hsg p9) h_3
          have hs0 := hsg p9
          rw [dg_val hp0 h48, nI_add] at hl
          refine lv_iload_n hx hb dX0_readAmount_34 rfl (lv_at hl 1 rfl) ?_
          refine lv_bipush (v := (nI 9)) hx hb dX0_readAmount_35 (by decide) ?_
          refine lv_icmp_gt (tgt := 76) hx hb dX0_readAmount_37 (by decide) (fun h_5 => ?_) (fun h_5 => ?_)
          · have h_5 := (nI_ltI (a := 9) (b := (sg p9 - 48)) (by first | omega | exact bits_lt31 _ | exact bitN_lt _ _ | exact bool_lt _ | exact and_lt31 _ _ _ _ | exact Nat.lt_of_le_of_lt (dst_lt _ _ _ (by omega) _) (by decide) | exact Nat.lt_of_le_of_lt (nrB_le _ _ _ (by omega)).2 (by decide) | decide) (by first | omega | exact bits_lt31 _ | exact bitN_lt _ _ | exact bool_lt _ | exact and_lt31 _ _ _ _ | exact Nat.lt_of_le_of_lt (dst_lt _ _ _ (by omega) _) (by decide) | exact Nat.lt_of_le_of_lt (nrB_le _ _ _ (by omega)).2 (by decide) | decide)).mp h_5
            obtain ⟨e1, e2⟩ := amI_e (Or.inr (am_n (Or.inr (by omega)))) hI
            refine lv_aload_n hx hb dX0_readAmount_76 rfl (lv_at hl 2 rfl) ?_
            refine va_get (D := D) (ci := 0) (v := .int (nI acc)) (C := RX0) (T := TX0) (N := 6) hx hb hts iX0 hown hK hP 0 rfl rfl 5 (by decide) f46 (fun _ h9 => h9) rfl dX0_readAmount_77 ?_
            refine lv_if_le (tgt := 87) hx hb dX0_readAmount_80 (by decide) (fun h_6 => ?_) (fun h_6 => ?_)
            · have h_6 := (nI_leI (a := acc) (b := 0) (by first | omega | exact bits_lt31 _ | exact bitN_lt _ _ | exact bool_lt _ | exact and_lt31 _ _ _ _ | exact Nat.lt_of_le_of_lt (dst_lt _ _ _ (by omega) _) (by decide) | exact Nat.lt_of_le_of_lt (nrB_le _ _ _ (by omega)).2 (by decide) | decide) (by first | omega | exact bits_lt31 _ | exact bitN_lt _ _ | exact bool_lt _ | exact and_lt31 _ _ _ _ | exact Nat.lt_of_le_of_lt (dst_lt _ _ _ (by omega) _) (by decide) | exact Nat.lt_of_le_of_lt (nrB_le _ _ _ (by omega)).2 (by decide) | decide)).mp h_6
              refine lv_iconst (v := (nI 0)) hx hb dX0_readAmount_87 (by decide) ?_
              exact ret_z (u := ()) hQ hx hb hrt hlk hS dX0_readAmount_88 (by decide) (by rw [← e1, ← e2]; exact hP) (by rw [← e2, decide_eq_false (by omega)]; rfl)
            · have h_6 := mt (nI_leI (a := acc) (b := 0) (by first | omega | exact bits_lt31 _ | exact bitN_lt _ _ | exact bool_lt _ | exact and_lt31 _ _ _ _ | exact Nat.lt_of_le_of_lt (dst_lt _ _ _ (by omega) _) (by decide) | exact Nat.lt_of_le_of_lt (nrB_le _ _ _ (by omega)).2 (by decide) | decide) (by first | omega | exact bits_lt31 _ | exact bitN_lt _ _ | exact bool_lt _ | exact and_lt31 _ _ _ _ | exact Nat.lt_of_le_of_lt (dst_lt _ _ _ (by omega) _) (by decide) | exact Nat.lt_of_le_of_lt (nrB_le _ _ _ (by omega)).2 (by decide) | decide)).mpr h_6
              refine lv_iconst (v := (nI 1)) hx hb dX0_readAmount_83 (by decide) ?_
              refine lv_goto (tgt := 88) hx hb dX0_readAmount_84 (by decide) ?_
              exact ret_z (u := ()) hQ hx hb hrt hlk hS dX0_readAmount_88 (by decide) (by rw [← e1, ← e2]; exact hP) (by rw [← e2, decide_eq_true (by omega)]; rfl)
          · have h_5 := mt (nI_ltI (a := 9) (b := (sg p9 - 48)) (by first | omega | exact bits_lt31 _ | exact bitN_lt _ _ | exact bool_lt _ | exact and_lt31 _ _ _ _ | exact Nat.lt_of_le_of_lt (dst_lt _ _ _ (by omega) _) (by decide) | exact Nat.lt_of_le_of_lt (nrB_le _ _ _ (by omega)).2 (by decide) | decide) (by first | omega | exact bits_lt31 _ | exact bitN_lt _ _ | exact bool_lt _ | exact and_lt31 _ _ _ _ | exact Nat.lt_of_le_of_lt (dst_lt _ _ _ (by omega) _) (by decide) | exact Nat.lt_of_le_of_lt (nrB_le _ _ _ (by omega)).2 (by decide) | decide)).mpr h_5
            refine lv_iload_n hx hb dX0_readAmount_40 rfl (lv_at hl 0 rfl) ?_
            refine lv_iconst (v := (nI 1)) hx hb dX0_readAmount_41 (by decide) ?_
            refine lv_icmp_lt (tgt := 76) hx hb dX0_readAmount_42 (by decide) (fun h_7 => ?_) (fun h_7 => ?_)
            · have h_7 := (nI_ltI (a := (acc * 10 + (sg p9 - 48))) (b := 1) (by first | omega | exact bits_lt31 _ | exact bitN_lt _ _ | exact bool_lt _ | exact and_lt31 _ _ _ _ | exact Nat.lt_of_le_of_lt (dst_lt _ _ _ (by omega) _) (by decide) | exact Nat.lt_of_le_of_lt (nrB_le _ _ _ (by omega)).2 (by decide) | decide) (by first | omega | exact bits_lt31 _ | exact bitN_lt _ _ | exact bool_lt _ | exact and_lt31 _ _ _ _ | exact Nat.lt_of_le_of_lt (dst_lt _ _ _ (by omega) _) (by decide) | exact Nat.lt_of_le_of_lt (nrB_le _ _ _ (by omega)).2 (by decide) | decide)).mp h_7
              obtain ⟨e1, e2⟩ := amI_e (Or.inr (am_n (Or.inr (by omega)))) hI
              refine lv_aload_n hx hb dX0_readAmount_76 rfl (lv_at hl 2 rfl) ?_
              refine va_get (D := D) (ci := 0) (v := .int (nI acc)) (C := RX0) (T := TX0) (N := 6) hx hb hts iX0 hown hK hP 0 rfl rfl 5 (by decide) f46 (fun _ h9 => h9) rfl dX0_readAmount_77 ?_
              refine lv_if_le (tgt := 87) hx hb dX0_readAmount_80 (by decide) (fun h_8 => ?_) (fun h_8 => ?_)
              · have h_8 := (nI_leI (a := acc) (b := 0) (by first | omega | exact bits_lt31 _ | exact bitN_lt _ _ | exact bool_lt _ | exact and_lt31 _ _ _ _ | exact Nat.lt_of_le_of_lt (dst_lt _ _ _ (by omega) _) (by decide) | exact Nat.lt_of_le_of_lt (nrB_le _ _ _ (by omega)).2 (by decide) | decide) (by first | omega | exact bits_lt31 _ | exact bitN_lt _ _ | exact bool_lt _ | exact and_lt31 _ _ _ _ | exact Nat.lt_of_le_of_lt (dst_lt _ _ _ (by omega) _) (by decide) | exact Nat.lt_of_le_of_lt (nrB_le _ _ _ (by omega)).2 (by decide) | decide)).mp h_8
                refine lv_iconst (v := (nI 0)) hx hb dX0_readAmount_87 (by decide) ?_
                exact ret_z (u := ()) hQ hx hb hrt hlk hS dX0_readAmount_88 (by decide) (by rw [← e1, ← e2]; exact hP) (by rw [← e2, decide_eq_false (by omega)]; rfl)
              · have h_8 := mt (nI_leI (a := acc) (b := 0) (by first | omega | exact bits_lt31 _ | exact bitN_lt _ _ | exact bool_lt _ | exact and_lt31 _ _ _ _ | exact Nat.lt_of_le_of_lt (dst_lt _ _ _ (by omega) _) (by decide) | exact Nat.lt_of_le_of_lt (nrB_le _ _ _ (by omega)).2 (by decide) | decide) (by first | omega | exact bits_lt31 _ | exact bitN_lt _ _ | exact bool_lt _ | exact and_lt31 _ _ _ _ | exact Nat.lt_of_le_of_lt (dst_lt _ _ _ (by omega) _) (by decide) | exact Nat.lt_of_le_of_lt (nrB_le _ _ _ (by omega)).2 (by decide) | decide)).mpr h_8
                refine lv_iconst (v := (nI 1)) hx hb dX0_readAmount_83 (by decide) ?_
                refine lv_goto (tgt := 88) hx hb dX0_readAmount_84 (by decide) ?_
                exact ret_z (u := ()) hQ hx hb hrt hlk hS dX0_readAmount_88 (by decide) (by rw [← e1, ← e2]; exact hP) (by rw [← e2, decide_eq_true (by omega)]; rfl)
            · have h_7 := mt (nI_ltI (a := (acc * 10 + (sg p9 - 48))) (b := 1) (by first | omega | exact bits_lt31 _ | exact bitN_lt _ _ | exact bool_lt _ | exact and_lt31 _ _ _ _ | exact Nat.lt_of_le_of_lt (dst_lt _ _ _ (by omega) _) (by decide) | exact Nat.lt_of_le_of_lt (nrB_le _ _ _ (by omega)).2 (by decide) | decide) (by first | omega | exact bits_lt31 _ | exact bitN_lt _ _ | exact bool_lt _ | exact and_lt31 _ _ _ _ | exact Nat.lt_of_le_of_lt (dst_lt _ _ _ (by omega) _) (by decide) | exact Nat.lt_of_le_of_lt (nrB_le _ _ _ (by omega)).2 (by decide) | decide)).mpr h_7
              refine lv_iload_n hx hb dX0_readAmount_45 rfl (lv_at hl 0 rfl) ?_
              refine lv_sipush (v := (nI 1000)) hx hb dX0_readAmount_46 (by decide) ?_
              refine lv_icmp_le (tgt := 55) hx hb dX0_readAmount_49 (by decide) (fun h_9 => ?_) (fun h_9 => ?_)
              · have h_9 := (nI_leI (a := (acc * 10 + (sg p9 - 48))) (b := 1000) (by first | omega | exact bits_lt31 _ | exact bitN_lt _ _ | exact bool_lt _ | exact and_lt31 _ _ _ _ | exact Nat.lt_of_le_of_lt (dst_lt _ _ _ (by omega) _) (by decide) | exact Nat.lt_of_le_of_lt (nrB_le _ _ _ (by omega)).2 (by decide) | decide) (by first | omega | exact bits_lt31 _ | exact bitN_lt _ _ | exact bool_lt _ | exact and_lt31 _ _ _ _ | exact Nat.lt_of_le_of_lt (dst_lt _ _ _ (by omega) _) (by decide) | exact Nat.lt_of_le_of_lt (nrB_le _ _ _ (by omega)).2 (by decide) | decide)).mp h_9
                refine lv_aload_n hx hb dX0_readAmount_55 rfl (lv_at hl 2 rfl) ?_
                refine lv_iload_n hx hb dX0_readAmount_56 rfl (lv_at hl 0 rfl) ?_
                refine va_put (D := D) (ci := 0) (v := .int (nI (acc * 10 + (sg p9 - 48)))) (ty := .int) (C := RX0) (T := TX0) (N := 6) hx hb hts iX0 tyX0 tyX0_ok nmX0 hown hK hP hD hS 0 rfl rfl 5 (by decide) f46 (fun _ h9 => h9) rfl (by decide +kernel) rfl rfl (Nat.le_of_ble_eq_true rfl) dX0_readAmount_57 (fun H locs hP hD hS => ?_)
                have hP : va_P D vwCl ([(t 0, .inr (0, [.ref (t 1), .int (nI len), .int (nI p9), .int kd, .int tr, .int (nI (acc * 10 + (sg p9 - 48)))])), (t 1, .inl (cI, 80, .inl (fun z => nI (sg z))))]) H := hP
                have hD : va_D A ([(t 0, .inr (0, [.ref (t 1), .int (nI len), .int (nI p9), .int kd, .int tr, .int (nI (acc * 10 + (sg p9 - 48)))])), (t 1, .inl (cI, 80, .inl (fun z => nI (sg z))))]) := hD
                refine lv_aload_n hx hb dX0_readAmount_60 rfl (lv_at hl 2 rfl) ?_
                refine lv_dup hx hb dX0_readAmount_61 rfl ?_
                refine va_get (D := D) (ci := 0) (v := .int (nI p9)) (C := RX0) (T := TX0) (N := 6) hx hb hts iX0 hown hK hP 0 rfl rfl 2 (by decide) f19 (fun _ h9 => h9) rfl dX0_readAmount_62 ?_
                refine lv_iconst (v := (nI 1)) hx hb dX0_readAmount_65 (by decide) ?_
                refine lv_iadd hx hb dX0_readAmount_66 ?_
                refine tpe (y := (nI (p9 + 1))) (nI_add _ _) ?_
                refine va_put (D := D) (ci := 0) (v := .int (nI (p9 + 1))) (ty := .int) (C := RX0) (T := TX0) (N := 6) hx hb hts iX0 tyX0 tyX0_ok nmX0 hown hK hP hD hS 0 rfl rfl 2 (by decide) f19 (fun _ h9 => h9) rfl (by decide +kernel) rfl rfl (Nat.le_of_ble_eq_true rfl) dX0_readAmount_67 (fun H locs hP hD hS => ?_)
                have hP : va_P D vwCl ([(t 0, .inr (0, [.ref (t 1), .int (nI len), .int (nI (p9 + 1)), .int kd, .int tr, .int (nI (acc * 10 + (sg p9 - 48)))])), (t 1, .inl (cI, 80, .inl (fun z => nI (sg z))))]) H := hP
                have hD : va_D A ([(t 0, .inr (0, [.ref (t 1), .int (nI len), .int (nI (p9 + 1)), .int kd, .int tr, .int (nI (acc * 10 + (sg p9 - 48)))])), (t 1, .inl (cI, 80, .inl (fun z => nI (sg z))))]) := hD
                refine lv_iinc (v := (nI (k + 1))) (lv' := [(1, .int (nI (k + 1))), (3, .int (nI (acc * 10 + (sg p9 - 48)))), (2, .int (nI (sg p9 - 48))), (0, .ref (t 0))]) hx hb dX0_readAmount_70 hl (k := 3) rfl (nI_add _ 1) (by decide) rfl (fun ls hl => ?_)
                refine lv_goto (tgt := 7) hx hb dX0_readAmount_73 (by decide) ?_
                exact ih7 (k + 1) (p9 + 1) (acc * 10 + (sg p9 - 48)) (by omega) (by omega) (by omega) (amI_s (by omega) (am_c hp0 h48 (by omega) (by omega) (by omega)) hI) (by omega) _ _ hP hD hS _ (lv_sub hl [3, 0] rfl)
              · have h_9 := mt (nI_leI (a := (acc * 10 + (sg p9 - 48))) (b := 1000) (by first | omega | exact bits_lt31 _ | exact bitN_lt _ _ | exact bool_lt _ | exact and_lt31 _ _ _ _ | exact Nat.lt_of_le_of_lt (dst_lt _ _ _ (by omega) _) (by decide) | exact Nat.lt_of_le_of_lt (nrB_le _ _ _ (by omega)).2 (by decide) | decide) (by first | omega | exact bits_lt31 _ | exact bitN_lt _ _ | exact bool_lt _ | exact and_lt31 _ _ _ _ | exact Nat.lt_of_le_of_lt (dst_lt _ _ _ (by omega) _) (by decide) | exact Nat.lt_of_le_of_lt (nrB_le _ _ _ (by omega)).2 (by decide) | decide)).mpr h_9
                refine lv_goto (tgt := 76) hx hb dX0_readAmount_52 (by decide) ?_
                obtain ⟨e1, e2⟩ := amI_e (Or.inr (am_n (Or.inr (by omega)))) hI
                refine lv_aload_n hx hb dX0_readAmount_76 rfl (lv_at hl 2 rfl) ?_
                refine va_get (D := D) (ci := 0) (v := .int (nI acc)) (C := RX0) (T := TX0) (N := 6) hx hb hts iX0 hown hK hP 0 rfl rfl 5 (by decide) f46 (fun _ h9 => h9) rfl dX0_readAmount_77 ?_
                refine lv_if_le (tgt := 87) hx hb dX0_readAmount_80 (by decide) (fun h_10 => ?_) (fun h_10 => ?_)
                · have h_10 := (nI_leI (a := acc) (b := 0) (by first | omega | exact bits_lt31 _ | exact bitN_lt _ _ | exact bool_lt _ | exact and_lt31 _ _ _ _ | exact Nat.lt_of_le_of_lt (dst_lt _ _ _ (by omega) _) (by decide) | exact Nat.lt_of_le_of_lt (nrB_le _ _ _ (by omega)).2 (by decide) | decide) (by first | omega | exact bits_lt31 _ | exact bitN_lt _ _ | exact bool_lt _ | exact and_lt31 _ _ _ _ | exact Nat.lt_of_le_of_lt (dst_lt _ _ _ (by omega) _) (by decide) | exact Nat.lt_of_le_of_lt (nrB_le _ _ _ (by omega)).2 (by decide) | decide)).mp h_10
                  refine lv_iconst (v := (nI 0)) hx hb dX0_readAmount_87 (by decide) ?_
                  exact ret_z (u := ()) hQ hx hb hrt hlk hS dX0_readAmount_88 (by decide) (by rw [← e1, ← e2]; exact hP) (by rw [← e2, decide_eq_false (by omega)]; rfl)
                · have h_10 := mt (nI_leI (a := acc) (b := 0) (by first | omega | exact bits_lt31 _ | exact bitN_lt _ _ | exact bool_lt _ | exact and_lt31 _ _ _ _ | exact Nat.lt_of_le_of_lt (dst_lt _ _ _ (by omega) _) (by decide) | exact Nat.lt_of_le_of_lt (nrB_le _ _ _ (by omega)).2 (by decide) | decide) (by first | omega | exact bits_lt31 _ | exact bitN_lt _ _ | exact bool_lt _ | exact and_lt31 _ _ _ _ | exact Nat.lt_of_le_of_lt (dst_lt _ _ _ (by omega) _) (by decide) | exact Nat.lt_of_le_of_lt (nrB_le _ _ _ (by omega)).2 (by decide) | decide)).mpr h_10
                  refine lv_iconst (v := (nI 1)) hx hb dX0_readAmount_83 (by decide) ?_
                  refine lv_goto (tgt := 88) hx hb dX0_readAmount_84 (by decide) ?_
                  exact ret_z (u := ()) hQ hx hb hrt hlk hS dX0_readAmount_88 (by decide) (by rw [← e1, ← e2]; exact hP) (by rw [← e2, decide_eq_true (by omega)]; rfl)
  exact L7 _ 0 pos 0 (Nat.zero_le _) hpos (Nat.zero_le _) amI_0 (Nat.lt_succ_self _) _ _ hP hD hS _ (lv_sub hl [1, 0] rfl)

abbrev rX0_readCommand : Room := { frames := 2, cells := 0, slots := 0, locals := 43 }
set_option maxHeartbeats 4000000 in
set_option maxRecDepth 100000 in
/-- readCommand -/
theorem c_X0_readCommand (l : Launch) (D : va_G) (cI cT : ClassId) (t sg : Nat → Nat) (len pos : Nat) (kd tr op : Int32) (hlen : len ≤ 80) (hsg : ∀ z, sg z < 128) (hpos : pos ≤ len) : CN l D cI cT yX0_readCommand wsX0_readCommand rX0_readCommand [.ref (t 0)] (txtW cI t sg len pos kd tr op) (S := Int32 × Int32 × Int32) (fun v u => v = nI (rcR sg len pos).1.toNat ∧ rcP sg len pos u) (fun u => txtW cI t sg len (rcR sg len pos).2 u.1 u.2.1 u.2.2) := by
  refine CN.of (cc := cX0_readCommand) (maxL := 1) (ret := (some .boolean)) (by decide) rfl (Nat.le_of_ble_eq_true rfl) ?_
  intro p e s m args below meth c A Q hQ B hA H locs hP hK hD hS ls hl
  obtain ⟨hx, hb, hml, hrt, hts, hown, hlk⟩ := B
  have hl : lv_has ls 1 [(0, .ref (t 0))] := hl
  have iX0 : ∀ w ∈ u_ws RX0 TX0 6, w ∈ wsX0_readCommand := by decide +kernel
  have f40 := hts (.fieldLink RX0 40 "LockManager$CommandText" "transaction" "I") (by decide +kernel)
  have f43 := hts (.fieldLink RX0 43 "LockManager$CommandText" "kind" "I") (by decide +kernel)
  have f46 := hts (.fieldLink RX0 46 "LockManager$CommandText" "operand" "I") (by decide +kernel)
  refine lv_aload_n hx hb dX0_readCommand_0 rfl (lv_at hl 0 rfl) ?_
  refine call_i (X := []) (Z := []) (As := []) (rest := []) ⟨hx, hb, hml, hown, hts⟩ (c_X0_readKind l D cI cT t sg len pos kd tr op  hlen hsg (by omega)) (cwV 0 hts gX0_readCommand_X0_readKind rfl rfl rfl (by decide +kernel) ⟨Nat.le_of_ble_eq_true rfl, Nat.le_of_ble_eq_true rfl⟩) hK hP hD hS hA (va_recv hK hP (ci := 0) (q0 := 0) rfl rfl) (fun _ => adr_txt.trans adr_txt.symm) rfl hl.1 rfl (Nat.le_of_ble_eq_true rfl) ⟨by decide, by decide⟩ dX0_readCommand_1 (fun rv u H locs hp hP hD hS => ?_)
  obtain rfl := hp
  have hP : va_P D vwCl ([(t 0, .inr (0, [.ref (t 1), .int (nI len), .int (nI (if rkB sg len pos = true then pos + 1 else pos)), .int (shI sg len pos), .int tr, .int op])), (t 1, .inl (cI, 80, .inl (fun z => nI (sg z))))]) H := hP
  have hD : va_D A ([(t 0, .inr (0, [.ref (t 1), .int (nI len), .int (nI (if rkB sg len pos = true then pos + 1 else pos)), .int (shI sg len pos), .int tr, .int op])), (t 1, .inl (cI, 80, .inl (fun z => nI (sg z))))]) := hD
  refine lv_if_ne (tgt := 9) hx hb dX0_readCommand_4 (by decide) (fun h_1 => ?_) (fun h_1 => ?_)
  · have h_1 := mt (nI_eq (a := ((rkB sg len pos).toNat)) (b := 0) (by first | omega | exact bits_lt31 _ | exact bitN_lt _ _ | exact bool_lt _ | exact and_lt31 _ _ _ _ | exact Nat.lt_of_le_of_lt (dst_lt _ _ _ (by omega) _) (by decide) | exact Nat.lt_of_le_of_lt (nrB_le _ _ _ (by omega)).2 (by decide) | decide) (by first | omega | exact bits_lt31 _ | exact bitN_lt _ _ | exact bool_lt _ | exact and_lt31 _ _ _ _ | exact Nat.lt_of_le_of_lt (dst_lt _ _ _ (by omega) _) (by decide) | exact Nat.lt_of_le_of_lt (nrB_le _ _ _ (by omega)).2 (by decide) | decide)).mpr h_1
    have hk := tn_t h_1
    obtain ⟨hp0, hk0⟩ := rkB_t hk
    rw [if_pos hk, sh_lt hp0] at hP hD
    have hP : va_P D vwCl ([(t 0, .inr (0, [.ref (t 1), .int (nI len), .int (nI (pos + 1)), .int (nI (sg pos)), .int tr, .int op])), (t 1, .inl (cI, 80, .inl (fun z => nI (sg z))))]) H := hP
    have hD : va_D A ([(t 0, .inr (0, [.ref (t 1), .int (nI len), .int (nI (pos + 1)), .int (nI (sg pos)), .int tr, .int op])), (t 1, .inl (cI, 80, .inl (fun z => nI (sg z))))]) := hD
    have hsa := hsg (pos + 1)
    have hsb := hsg (pos + 1 + 1)
    have hsc := hsg pos
    refine lv_aload_n hx hb dX0_readCommand_9 rfl (lv_at hl 0 rfl) ?_
    refine lv_aload_n hx hb dX0_readCommand_10 rfl (lv_at hl 0 rfl) ?_
    refine lv_bipush (v := (nI 7)) hx hb dX0_readCommand_11 (by decide) ?_
    refine call_i (X := []) (Z := []) (As := [.int (nI 7)]) (rest := [.ref (t 0)]) ⟨hx, hb, hml, hown, hts⟩ (c_X0_readDigit l D cI cT t sg len (pos + 1) (nI (sg pos)) tr op 7 (by omega) hlen hsg (by omega)) (cwV 1 hts gX0_readCommand_X0_readDigit rfl rfl rfl (by decide +kernel) ⟨Nat.le_of_ble_eq_true rfl, Nat.le_of_ble_eq_true rfl⟩) hK hP hD hS hA (va_recv hK hP (ci := 0) (q0 := 0) rfl rfl) (fun _ => adr_txt.trans adr_txt.symm) rfl hl.1 rfl (Nat.le_of_ble_eq_true rfl) ⟨by decide, by decide⟩ dX0_readCommand_13 (fun rv u H locs hp hP hD hS => ?_)
    obtain rfl := hp
    have hP : va_P D vwCl ([(t 0, .inr (0, [.ref (t 1), .int (nI len), .int (nI (if dgB sg len (pos + 1) 7 = true then pos + 1 + 1 else pos + 1)), .int (nI (sg pos)), .int tr, .int op])), (t 1, .inl (cI, 80, .inl (fun z => nI (sg z))))]) H := hP
    have hD : va_D A ([(t 0, .inr (0, [.ref (t 1), .int (nI len), .int (nI (if dgB sg len (pos + 1) 7 = true then pos + 1 + 1 else pos + 1)), .int (nI (sg pos)), .int tr, .int op])), (t 1, .inl (cI, 80, .inl (fun z => nI (sg z))))]) := hD
    refine va_put (D := D) (ci := 0) (v := .int (if dgB sg len (pos + 1) 7 = true then nI (sg (pos + 1) - 48) else (-1))) (ty := .int) (C := RX0) (T := TX0) (N := 6) hx hb hts iX0 tyX0 tyX0_ok nmX0 hown hK hP hD hS 0 rfl rfl 4 (by decide) f40 (fun _ h9 => h9) rfl (by decide +kernel) rfl rfl (Nat.le_of_ble_eq_true rfl) dX0_readCommand_16 (fun H locs hP hD hS => ?_)
    have hP : va_P D vwCl ([(t 0, .inr (0, [.ref (t 1), .int (nI len), .int (nI (if dgB sg len (pos + 1) 7 = true then pos + 1 + 1 else pos + 1)), .int (nI (sg pos)), .int (if dgB sg len (pos + 1) 7 = true then nI (sg (pos + 1) - 48) else (-1)), .int op])), (t 1, .inl (cI, 80, .inl (fun z => nI (sg z))))]) H := hP
    have hD : va_D A ([(t 0, .inr (0, [.ref (t 1), .int (nI len), .int (nI (if dgB sg len (pos + 1) 7 = true then pos + 1 + 1 else pos + 1)), .int (nI (sg pos)), .int (if dgB sg len (pos + 1) 7 = true then nI (sg (pos + 1) - 48) else (-1)), .int op])), (t 1, .inl (cI, 80, .inl (fun z => nI (sg z))))]) := hD
    refine lv_aload_n hx hb dX0_readCommand_19 rfl (lv_at hl 0 rfl) ?_
    refine va_get (D := D) (ci := 0) (v := .int (if dgB sg len (pos + 1) 7 = true then nI (sg (pos + 1) - 48) else (-1))) (C := RX0) (T := TX0) (N := 6) hx hb hts iX0 hown hK hP 0 rfl rfl 4 (by decide) f40 (fun _ h9 => h9) rfl dX0_readCommand_20 ?_
    refine lv_iconst (v := (-1)) hx hb dX0_readCommand_23 (by decide) ?_
    refine lv_icmp_ne (tgt := 29) hx hb dX0_readCommand_24 (by decide) (fun h_2 => ?_) (fun h_2 => ?_)
    · have h_2 := h_2
      have hd := dgv_t h_2
      have hp1 := (dgB_i hd).1
      rw [if_pos hd, if_pos hd] at hP hD
      have hP : va_P D vwCl ([(t 0, .inr (0, [.ref (t 1), .int (nI len), .int (nI (pos + 1 + 1)), .int (nI (sg pos)), .int (nI (sg (pos + 1) - 48)), .int op])), (t 1, .inl (cI, 80, .inl (fun z => nI (sg z))))]) H := hP
      have hD : va_D A ([(t 0, .inr (0, [.ref (t 1), .int (nI len), .int (nI (pos + 1 + 1)), .int (nI (sg pos)), .int (nI (sg (pos + 1) - 48)), .int op])), (t 1, .inl (cI, 80, .inl (fun z => nI (sg z))))]) := hD
      refine lv_aload_n hx hb dX0_readCommand_29 rfl (lv_at hl 0 rfl) ?_
      refine va_get (D := D) (ci := 0) (v := .int (nI (sg pos))) (C := RX0) (T := TX0) (N := 6) hx hb hts iX0 hown hK hP 0 rfl rfl 3 (by decide) f43 (fun _ h9 => h9) rfl dX0_readCommand_30 ?_
      have hk1 := isK_or hk0
      obtain ⟨k0, hk2⟩ : ∃ z, z = sg pos := ⟨_, rfl⟩
      rw [← hk2] at hk1
      refine tpe (y := nI k0) (by rw [hk2]) ?_
      rcases hk1 with rfl | rfl | rfl | rfl | rfl | rfl | rfl
      · refine lv_lookup (off := 81) (tgt := 114) hx hb dX0_readCommand_33 (by decide) (by decide +kernel) (by decide) ?_
        refine lv_iconst (v := (nI 1)) hx hb dX0_readCommand_114 (by decide) ?_
        have er := rc_o hk hd (by omega) (by omega)
        exact ret_z (u := ((nI (sg pos)), (nI (sg (pos + 1) - 48)), op)) hQ hx hb hrt hlk hS dX0_readCommand_115 (by decide) (by rw [er]; exact hP) ⟨by rw [er]; rfl, fun _ => ⟨rfl, rfl, fun q => by omega⟩⟩
      · refine lv_lookup (off := 81) (tgt := 114) hx hb dX0_readCommand_33 (by decide) (by decide +kernel) (by decide) ?_
        refine lv_iconst (v := (nI 1)) hx hb dX0_readCommand_114 (by decide) ?_
        have er := rc_o hk hd (by omega) (by omega)
        exact ret_z (u := ((nI (sg pos)), (nI (sg (pos + 1) - 48)), op)) hQ hx hb hrt hlk hS dX0_readCommand_115 (by decide) (by rw [er]; exact hP) ⟨by rw [er]; rfl, fun _ => ⟨rfl, rfl, fun q => by omega⟩⟩
      · refine lv_lookup (off := 81) (tgt := 114) hx hb dX0_readCommand_33 (by decide) (by decide +kernel) (by decide) ?_
        refine lv_iconst (v := (nI 1)) hx hb dX0_readCommand_114 (by decide) ?_
        have er := rc_o hk hd (by omega) (by omega)
        exact ret_z (u := ((nI (sg pos)), (nI (sg (pos + 1) - 48)), op)) hQ hx hb hrt hlk hS dX0_readCommand_115 (by decide) (by rw [er]; exact hP) ⟨by rw [er]; rfl, fun _ => ⟨rfl, rfl, fun q => by omega⟩⟩
      · refine lv_lookup (off := 81) (tgt := 114) hx hb dX0_readCommand_33 (by decide) (by decide +kernel) (by decide) ?_
        refine lv_iconst (v := (nI 1)) hx hb dX0_readCommand_114 (by decide) ?_
        have er := rc_o hk hd (by omega) (by omega)
        exact ret_z (u := ((nI (sg pos)), (nI (sg (pos + 1) - 48)), op)) hQ hx hb hrt hlk hS dX0_readCommand_115 (by decide) (by rw [er]; exact hP) ⟨by rw [er]; rfl, fun _ => ⟨rfl, rfl, fun q => by omega⟩⟩
      · refine lv_lookup (off := 35) (tgt := 68) hx hb dX0_readCommand_33 (by decide) (by decide +kernel) (by decide) ?_
        refine lv_aload_n hx hb dX0_readCommand_68 rfl (lv_at hl 0 rfl) ?_
        refine lv_aload_n hx hb dX0_readCommand_69 rfl (lv_at hl 0 rfl) ?_
        refine lv_bipush (v := (nI 9)) hx hb dX0_readCommand_70 (by decide) ?_
        refine call_i (X := []) (Z := []) (As := [.int (nI 9)]) (rest := [.ref (t 0)]) ⟨hx, hb, hml, hown, hts⟩ (c_X0_readDigit l D cI cT t sg len (pos + 1 + 1) (nI (sg pos)) (nI (sg (pos + 1) - 48)) op 9 (by omega) hlen hsg (by omega)) (cwV 1 hts gX0_readCommand_X0_readDigit rfl rfl rfl (by decide +kernel) ⟨Nat.le_of_ble_eq_true rfl, Nat.le_of_ble_eq_true rfl⟩) hK hP hD hS hA (va_recv hK hP (ci := 0) (q0 := 0) rfl rfl) (fun _ => adr_txt.trans adr_txt.symm) rfl hl.1 rfl (Nat.le_of_ble_eq_true rfl) ⟨by decide, by decide⟩ dX0_readCommand_72 (fun rv u H locs hp hP hD hS => ?_)
        obtain rfl := hp
        have hP : va_P D vwCl ([(t 0, .inr (0, [.ref (t 1), .int (nI len), .int (nI (if dgB sg len (pos + 1 + 1) 9 = true then pos + 1 + 1 + 1 else pos + 1 + 1)), .int (nI (sg pos)), .int (nI (sg (pos + 1) - 48)), .int op])), (t 1, .inl (cI, 80, .inl (fun z => nI (sg z))))]) H := hP
        have hD : va_D A ([(t 0, .inr (0, [.ref (t 1), .int (nI len), .int (nI (if dgB sg len (pos + 1 + 1) 9 = true then pos + 1 + 1 + 1 else pos + 1 + 1)), .int (nI (sg pos)), .int (nI (sg (pos + 1) - 48)), .int op])), (t 1, .inl (cI, 80, .inl (fun z => nI (sg z))))]) := hD
        refine va_put (D := D) (ci := 0) (v := .int (if dgB sg len (pos + 1 + 1) 9 = true then nI (sg (pos + 1 + 1) - 48) else (-1))) (ty := .int) (C := RX0) (T := TX0) (N := 6) hx hb hts iX0 tyX0 tyX0_ok nmX0 hown hK hP hD hS 0 rfl rfl 5 (by decide) f46 (fun _ h9 => h9) rfl (by decide +kernel) rfl rfl (Nat.le_of_ble_eq_true rfl) dX0_readCommand_75 (fun H locs hP hD hS => ?_)
        have hP : va_P D vwCl ([(t 0, .inr (0, [.ref (t 1), .int (nI len), .int (nI (if dgB sg len (pos + 1 + 1) 9 = true then pos + 1 + 1 + 1 else pos + 1 + 1)), .int (nI (sg pos)), .int (nI (sg (pos + 1) - 48)), .int (if dgB sg len (pos + 1 + 1) 9 = true then nI (sg (pos + 1 + 1) - 48) else (-1))])), (t 1, .inl (cI, 80, .inl (fun z => nI (sg z))))]) H := hP
        have hD : va_D A ([(t 0, .inr (0, [.ref (t 1), .int (nI len), .int (nI (if dgB sg len (pos + 1 + 1) 9 = true then pos + 1 + 1 + 1 else pos + 1 + 1)), .int (nI (sg pos)), .int (nI (sg (pos + 1) - 48)), .int (if dgB sg len (pos + 1 + 1) 9 = true then nI (sg (pos + 1 + 1) - 48) else (-1))])), (t 1, .inl (cI, 80, .inl (fun z => nI (sg z))))]) := hD
        refine lv_aload_n hx hb dX0_readCommand_78 rfl (lv_at hl 0 rfl) ?_
        refine va_get (D := D) (ci := 0) (v := .int (if dgB sg len (pos + 1 + 1) 9 = true then nI (sg (pos + 1 + 1) - 48) else (-1))) (C := RX0) (T := TX0) (N := 6) hx hb hts iX0 hown hK hP 0 rfl rfl 5 (by decide) f46 (fun _ h9 => h9) rfl dX0_readCommand_79 ?_
        refine lv_iconst (v := (-1)) hx hb dX0_readCommand_82 (by decide) ?_
        refine lv_icmp_eq (tgt := 90) hx hb dX0_readCommand_83 (by decide) (fun h_3 => ?_) (fun h_3 => ?_)
        · have h_3 := h_3
          have hd2 := dgv_f (show sg (pos + 1 + 1) - 48 < 2 ^ 31 by omega) h_3
          rw [if_neg (by simp [hd2]), if_neg (by simp [hd2])] at hP hD
          have hP : va_P D vwCl ([(t 0, .inr (0, [.ref (t 1), .int (nI len), .int (nI (pos + 1 + 1)), .int (nI (sg pos)), .int (nI (sg (pos + 1) - 48)), .int (-1)])), (t 1, .inl (cI, 80, .inl (fun z => nI (sg z))))]) H := hP
          have hD : va_D A ([(t 0, .inr (0, [.ref (t 1), .int (nI len), .int (nI (pos + 1 + 1)), .int (nI (sg pos)), .int (nI (sg (pos + 1) - 48)), .int (-1)])), (t 1, .inl (cI, 80, .inl (fun z => nI (sg z))))]) := hD
          refine lv_iconst (v := (nI 0)) hx hb dX0_readCommand_90 (by decide) ?_
          have er := rc_s0 hk hd (by omega) hd2
          exact ret_z (u := ((nI (sg pos)), (nI (sg (pos + 1) - 48)), (-1))) hQ hx hb hrt hlk hS dX0_readCommand_91 (by decide) (by rw [er]; exact hP) ⟨by rw [er]; rfl, fun q => by rw [er] at q; cases q⟩
        · have h_3 := h_3
          have hd2 := dgv_t h_3
          rw [if_pos hd2, if_pos hd2] at hP hD
          have hP : va_P D vwCl ([(t 0, .inr (0, [.ref (t 1), .int (nI len), .int (nI (pos + 1 + 1 + 1)), .int (nI (sg pos)), .int (nI (sg (pos + 1) - 48)), .int (nI (sg (pos + 1 + 1) - 48))])), (t 1, .inl (cI, 80, .inl (fun z => nI (sg z))))]) H := hP
          have hD : va_D A ([(t 0, .inr (0, [.ref (t 1), .int (nI len), .int (nI (pos + 1 + 1 + 1)), .int (nI (sg pos)), .int (nI (sg (pos + 1) - 48)), .int (nI (sg (pos + 1 + 1) - 48))])), (t 1, .inl (cI, 80, .inl (fun z => nI (sg z))))]) := hD
          refine lv_iconst (v := (nI 1)) hx hb dX0_readCommand_86 (by decide) ?_
          refine lv_goto (tgt := 91) hx hb dX0_readCommand_87 (by decide) ?_
          have er := rc_s1 hk hd (by omega) hd2
          exact ret_z (u := ((nI (sg pos)), (nI (sg (pos + 1) - 48)), (nI (sg (pos + 1 + 1) - 48)))) hQ hx hb hrt hlk hS dX0_readCommand_91 (by decide) (by rw [er]; exact hP) ⟨by rw [er]; rfl, fun _ => ⟨rfl, rfl, fun _ => by rw [rcO, if_neg (by omega)]⟩⟩
      · refine lv_lookup (off := 59) (tgt := 92) hx hb dX0_readCommand_33 (by decide) (by decide +kernel) (by decide) ?_
        refine lv_aload_n hx hb dX0_readCommand_92 rfl (lv_at hl 0 rfl) ?_
        refine lv_bipush (v := (nI 44)) hx hb dX0_readCommand_93 (by decide) ?_
        refine call_i (X := []) (Z := []) (As := [.int (nI 44)]) (rest := []) ⟨hx, hb, hml, hown, hts⟩ (c_X0_readSign l D cI cT t sg len (pos + 1 + 1) (nI (sg pos)) (nI (sg (pos + 1) - 48)) op 44 (by omega) hlen hsg (by omega)) (cwV 1 hts gX0_readCommand_X0_readSign rfl rfl rfl (by decide +kernel) ⟨Nat.le_of_ble_eq_true rfl, Nat.le_of_ble_eq_true rfl⟩) hK hP hD hS hA (va_recv hK hP (ci := 0) (q0 := 0) rfl rfl) (fun _ => adr_txt.trans adr_txt.symm) rfl hl.1 rfl (Nat.le_of_ble_eq_true rfl) ⟨by decide, by decide⟩ dX0_readCommand_95 (fun rv u H locs hp hP hD hS => ?_)
        obtain rfl := hp
        have hP : va_P D vwCl ([(t 0, .inr (0, [.ref (t 1), .int (nI len), .int (nI (if sgB sg len (pos + 1 + 1) 44 = true then pos + 1 + 1 + 1 else pos + 1 + 1)), .int (nI (sg pos)), .int (nI (sg (pos + 1) - 48)), .int op])), (t 1, .inl (cI, 80, .inl (fun z => nI (sg z))))]) H := hP
        have hD : va_D A ([(t 0, .inr (0, [.ref (t 1), .int (nI len), .int (nI (if sgB sg len (pos + 1 + 1) 44 = true then pos + 1 + 1 + 1 else pos + 1 + 1)), .int (nI (sg pos)), .int (nI (sg (pos + 1) - 48)), .int op])), (t 1, .inl (cI, 80, .inl (fun z => nI (sg z))))]) := hD
        refine lv_if_eq (tgt := 112) hx hb dX0_readCommand_98 (by decide) (fun h_4 => ?_) (fun h_4 => ?_)
        · have h_4 := (nI_eq (a := ((sgB sg len (pos + 1 + 1) 44).toNat)) (b := 0) (by first | omega | exact bits_lt31 _ | exact bitN_lt _ _ | exact bool_lt _ | exact and_lt31 _ _ _ _ | exact Nat.lt_of_le_of_lt (dst_lt _ _ _ (by omega) _) (by decide) | exact Nat.lt_of_le_of_lt (nrB_le _ _ _ (by omega)).2 (by decide) | decide) (by first | omega | exact bits_lt31 _ | exact bitN_lt _ _ | exact bool_lt _ | exact and_lt31 _ _ _ _ | exact Nat.lt_of_le_of_lt (dst_lt _ _ _ (by omega) _) (by decide) | exact Nat.lt_of_le_of_lt (nrB_le _ _ _ (by omega)).2 (by decide) | decide)).mp h_4
          have hc2 := tn_b h_4
          rw [if_neg (by simp [hc2])] at hP hD
          have hP : va_P D vwCl ([(t 0, .inr (0, [.ref (t 1), .int (nI len), .int (nI (pos + 1 + 1)), .int (nI (sg pos)), .int (nI (sg (pos + 1) - 48)), .int op])), (t 1, .inl (cI, 80, .inl (fun z => nI (sg z))))]) H := hP
          have hD : va_D A ([(t 0, .inr (0, [.ref (t 1), .int (nI len), .int (nI (pos + 1 + 1)), .int (nI (sg pos)), .int (nI (sg (pos + 1) - 48)), .int op])), (t 1, .inl (cI, 80, .inl (fun z => nI (sg z))))]) := hD
          refine lv_iconst (v := (nI 0)) hx hb dX0_readCommand_112 (by decide) ?_
          have er := rc_w0 hk hd hk2.symm hc2
          exact ret_z (u := ((nI (sg pos)), (nI (sg (pos + 1) - 48)), op)) hQ hx hb hrt hlk hS dX0_readCommand_113 (by decide) (by rw [er]; exact hP) ⟨by rw [er]; rfl, fun q => by rw [er] at q; cases q⟩
        · have h_4 := mt (nI_eq (a := ((sgB sg len (pos + 1 + 1) 44).toNat)) (b := 0) (by first | omega | exact bits_lt31 _ | exact bitN_lt _ _ | exact bool_lt _ | exact and_lt31 _ _ _ _ | exact Nat.lt_of_le_of_lt (dst_lt _ _ _ (by omega) _) (by decide) | exact Nat.lt_of_le_of_lt (nrB_le _ _ _ (by omega)).2 (by decide) | decide) (by first | omega | exact bits_lt31 _ | exact bitN_lt _ _ | exact bool_lt _ | exact and_lt31 _ _ _ _ | exact Nat.lt_of_le_of_lt (dst_lt _ _ _ (by omega) _) (by decide) | exact Nat.lt_of_le_of_lt (nrB_le _ _ _ (by omega)).2 (by decide) | decide)).mpr h_4
          have hc2 := tn_t h_4
          have hp2 : pos + 1 + 1 < len := by simp [sgB] at hc2; exact hc2.1
          rw [if_pos hc2] at hP hD
          have hP : va_P D vwCl ([(t 0, .inr (0, [.ref (t 1), .int (nI len), .int (nI (pos + 1 + 1 + 1)), .int (nI (sg pos)), .int (nI (sg (pos + 1) - 48)), .int op])), (t 1, .inl (cI, 80, .inl (fun z => nI (sg z))))]) H := hP
          have hD : va_D A ([(t 0, .inr (0, [.ref (t 1), .int (nI len), .int (nI (pos + 1 + 1 + 1)), .int (nI (sg pos)), .int (nI (sg (pos + 1) - 48)), .int op])), (t 1, .inl (cI, 80, .inl (fun z => nI (sg z))))]) := hD
          refine lv_aload_n hx hb dX0_readCommand_101 rfl (lv_at hl 0 rfl) ?_
          refine call_i (X := []) (Z := []) (As := []) (rest := []) ⟨hx, hb, hml, hown, hts⟩ (c_X0_readAmount l D cI cT t sg len (pos + 1 + 1 + 1) (nI (sg pos)) (nI (sg (pos + 1) - 48)) op  hlen hsg (by omega)) (cwV 0 hts gX0_readCommand_X0_readAmount rfl rfl rfl (by decide +kernel) ⟨Nat.le_of_ble_eq_true rfl, Nat.le_of_ble_eq_true rfl⟩) hK hP hD hS hA (va_recv hK hP (ci := 0) (q0 := 0) rfl rfl) (fun _ => adr_txt.trans adr_txt.symm) rfl hl.1 rfl (Nat.le_of_ble_eq_true rfl) ⟨by decide, by decide⟩ dX0_readCommand_102 (fun rv u H locs hp hP hD hS => ?_)
          obtain rfl := hp
          have hP : va_P D vwCl ([(t 0, .inr (0, [.ref (t 1), .int (nI len), .int (nI ((amN sg len 4 (pos + 1 + 1 + 1) 0).1)), .int (nI (sg pos)), .int (nI (sg (pos + 1) - 48)), .int (nI ((amN sg len 4 (pos + 1 + 1 + 1) 0).2))])), (t 1, .inl (cI, 80, .inl (fun z => nI (sg z))))]) H := hP
          have hD : va_D A ([(t 0, .inr (0, [.ref (t 1), .int (nI len), .int (nI ((amN sg len 4 (pos + 1 + 1 + 1) 0).1)), .int (nI (sg pos)), .int (nI (sg (pos + 1) - 48)), .int (nI ((amN sg len 4 (pos + 1 + 1 + 1) 0).2))])), (t 1, .inl (cI, 80, .inl (fun z => nI (sg z))))]) := hD
          refine lv_if_eq (tgt := 112) hx hb dX0_readCommand_105 (by decide) (fun h_5 => ?_) (fun h_5 => ?_)
          · have h_5 := (nI_eq (a := ((decide (0 < (amN sg len 4 (pos + 1 + 1 + 1) 0).2)).toNat)) (b := 0) (by first | omega | exact bits_lt31 _ | exact bitN_lt _ _ | exact bool_lt _ | exact and_lt31 _ _ _ _ | exact Nat.lt_of_le_of_lt (dst_lt _ _ _ (by omega) _) (by decide) | exact Nat.lt_of_le_of_lt (nrB_le _ _ _ (by omega)).2 (by decide) | decide) (by first | omega | exact bits_lt31 _ | exact bitN_lt _ _ | exact bool_lt _ | exact and_lt31 _ _ _ _ | exact Nat.lt_of_le_of_lt (dst_lt _ _ _ (by omega) _) (by decide) | exact Nat.lt_of_le_of_lt (nrB_le _ _ _ (by omega)).2 (by decide) | decide)).mp h_5
            have hc3 := tn_b h_5
            refine lv_iconst (v := (nI 0)) hx hb dX0_readCommand_112 (by decide) ?_
            have er := rc_w1 hk hd hk2.symm hc2
            exact ret_z (u := ((nI (sg pos)), (nI (sg (pos + 1) - 48)), (nI ((amN sg len 4 (pos + 1 + 1 + 1) 0).2)))) hQ hx hb hrt hlk hS dX0_readCommand_113 (by decide) (by rw [er]; exact hP) ⟨by rw [er]; show nI 0 = nI (decide _).toNat; rw [hc3]; rfl, fun q => by rw [er] at q; exact absurd (hc3.symm.trans q) (by decide)⟩
          · have h_5 := mt (nI_eq (a := ((decide (0 < (amN sg len 4 (pos + 1 + 1 + 1) 0).2)).toNat)) (b := 0) (by first | omega | exact bits_lt31 _ | exact bitN_lt _ _ | exact bool_lt _ | exact and_lt31 _ _ _ _ | exact Nat.lt_of_le_of_lt (dst_lt _ _ _ (by omega) _) (by decide) | exact Nat.lt_of_le_of_lt (nrB_le _ _ _ (by omega)).2 (by decide) | decide) (by first | omega | exact bits_lt31 _ | exact bitN_lt _ _ | exact bool_lt _ | exact and_lt31 _ _ _ _ | exact Nat.lt_of_le_of_lt (dst_lt _ _ _ (by omega) _) (by decide) | exact Nat.lt_of_le_of_lt (nrB_le _ _ _ (by omega)).2 (by decide) | decide)).mpr h_5
            have hc3 := tn_t h_5
            refine lv_iconst (v := (nI 1)) hx hb dX0_readCommand_108 (by decide) ?_
            refine lv_goto (tgt := 113) hx hb dX0_readCommand_109 (by decide) ?_
            have er := rc_w1 hk hd hk2.symm hc2
            exact ret_z (u := ((nI (sg pos)), (nI (sg (pos + 1) - 48)), (nI ((amN sg len 4 (pos + 1 + 1 + 1) 0).2)))) hQ hx hb hrt hlk hS dX0_readCommand_113 (by decide) (by rw [er]; exact hP) ⟨by rw [er]; show nI 1 = nI (decide _).toNat; rw [hc3]; rfl, fun _ => ⟨rfl, rfl, fun _ => by rw [rcO, if_pos hk2.symm]⟩⟩
      · refine lv_lookup (off := 35) (tgt := 68) hx hb dX0_readCommand_33 (by decide) (by decide +kernel) (by decide) ?_
        refine lv_aload_n hx hb dX0_readCommand_68 rfl (lv_at hl 0 rfl) ?_
        refine lv_aload_n hx hb dX0_readCommand_69 rfl (lv_at hl 0 rfl) ?_
        refine lv_bipush (v := (nI 9)) hx hb dX0_readCommand_70 (by decide) ?_
        refine call_i (X := []) (Z := []) (As := [.int (nI 9)]) (rest := [.ref (t 0)]) ⟨hx, hb, hml, hown, hts⟩ (c_X0_readDigit l D cI cT t sg len (pos + 1 + 1) (nI (sg pos)) (nI (sg (pos + 1) - 48)) op 9 (by omega) hlen hsg (by omega)) (cwV 1 hts gX0_readCommand_X0_readDigit rfl rfl rfl (by decide +kernel) ⟨Nat.le_of_ble_eq_true rfl, Nat.le_of_ble_eq_true rfl⟩) hK hP hD hS hA (va_recv hK hP (ci := 0) (q0 := 0) rfl rfl) (fun _ => adr_txt.trans adr_txt.symm) rfl hl.1 rfl (Nat.le_of_ble_eq_true rfl) ⟨by decide, by decide⟩ dX0_readCommand_72 (fun rv u H locs hp hP hD hS => ?_)
        obtain rfl := hp
        have hP : va_P D vwCl ([(t 0, .inr (0, [.ref (t 1), .int (nI len), .int (nI (if dgB sg len (pos + 1 + 1) 9 = true then pos + 1 + 1 + 1 else pos + 1 + 1)), .int (nI (sg pos)), .int (nI (sg (pos + 1) - 48)), .int op])), (t 1, .inl (cI, 80, .inl (fun z => nI (sg z))))]) H := hP
        have hD : va_D A ([(t 0, .inr (0, [.ref (t 1), .int (nI len), .int (nI (if dgB sg len (pos + 1 + 1) 9 = true then pos + 1 + 1 + 1 else pos + 1 + 1)), .int (nI (sg pos)), .int (nI (sg (pos + 1) - 48)), .int op])), (t 1, .inl (cI, 80, .inl (fun z => nI (sg z))))]) := hD
        refine va_put (D := D) (ci := 0) (v := .int (if dgB sg len (pos + 1 + 1) 9 = true then nI (sg (pos + 1 + 1) - 48) else (-1))) (ty := .int) (C := RX0) (T := TX0) (N := 6) hx hb hts iX0 tyX0 tyX0_ok nmX0 hown hK hP hD hS 0 rfl rfl 5 (by decide) f46 (fun _ h9 => h9) rfl (by decide +kernel) rfl rfl (Nat.le_of_ble_eq_true rfl) dX0_readCommand_75 (fun H locs hP hD hS => ?_)
        have hP : va_P D vwCl ([(t 0, .inr (0, [.ref (t 1), .int (nI len), .int (nI (if dgB sg len (pos + 1 + 1) 9 = true then pos + 1 + 1 + 1 else pos + 1 + 1)), .int (nI (sg pos)), .int (nI (sg (pos + 1) - 48)), .int (if dgB sg len (pos + 1 + 1) 9 = true then nI (sg (pos + 1 + 1) - 48) else (-1))])), (t 1, .inl (cI, 80, .inl (fun z => nI (sg z))))]) H := hP
        have hD : va_D A ([(t 0, .inr (0, [.ref (t 1), .int (nI len), .int (nI (if dgB sg len (pos + 1 + 1) 9 = true then pos + 1 + 1 + 1 else pos + 1 + 1)), .int (nI (sg pos)), .int (nI (sg (pos + 1) - 48)), .int (if dgB sg len (pos + 1 + 1) 9 = true then nI (sg (pos + 1 + 1) - 48) else (-1))])), (t 1, .inl (cI, 80, .inl (fun z => nI (sg z))))]) := hD
        refine lv_aload_n hx hb dX0_readCommand_78 rfl (lv_at hl 0 rfl) ?_
        refine va_get (D := D) (ci := 0) (v := .int (if dgB sg len (pos + 1 + 1) 9 = true then nI (sg (pos + 1 + 1) - 48) else (-1))) (C := RX0) (T := TX0) (N := 6) hx hb hts iX0 hown hK hP 0 rfl rfl 5 (by decide) f46 (fun _ h9 => h9) rfl dX0_readCommand_79 ?_
        refine lv_iconst (v := (-1)) hx hb dX0_readCommand_82 (by decide) ?_
        refine lv_icmp_eq (tgt := 90) hx hb dX0_readCommand_83 (by decide) (fun h_6 => ?_) (fun h_6 => ?_)
        · have h_6 := h_6
          have hd2 := dgv_f (show sg (pos + 1 + 1) - 48 < 2 ^ 31 by omega) h_6
          rw [if_neg (by simp [hd2]), if_neg (by simp [hd2])] at hP hD
          have hP : va_P D vwCl ([(t 0, .inr (0, [.ref (t 1), .int (nI len), .int (nI (pos + 1 + 1)), .int (nI (sg pos)), .int (nI (sg (pos + 1) - 48)), .int (-1)])), (t 1, .inl (cI, 80, .inl (fun z => nI (sg z))))]) H := hP
          have hD : va_D A ([(t 0, .inr (0, [.ref (t 1), .int (nI len), .int (nI (pos + 1 + 1)), .int (nI (sg pos)), .int (nI (sg (pos + 1) - 48)), .int (-1)])), (t 1, .inl (cI, 80, .inl (fun z => nI (sg z))))]) := hD
          refine lv_iconst (v := (nI 0)) hx hb dX0_readCommand_90 (by decide) ?_
          have er := rc_s0 hk hd (by omega) hd2
          exact ret_z (u := ((nI (sg pos)), (nI (sg (pos + 1) - 48)), (-1))) hQ hx hb hrt hlk hS dX0_readCommand_91 (by decide) (by rw [er]; exact hP) ⟨by rw [er]; rfl, fun q => by rw [er] at q; cases q⟩
        · have h_6 := h_6
          have hd2 := dgv_t h_6
          rw [if_pos hd2, if_pos hd2] at hP hD
          have hP : va_P D vwCl ([(t 0, .inr (0, [.ref (t 1), .int (nI len), .int (nI (pos + 1 + 1 + 1)), .int (nI (sg pos)), .int (nI (sg (pos + 1) - 48)), .int (nI (sg (pos + 1 + 1) - 48))])), (t 1, .inl (cI, 80, .inl (fun z => nI (sg z))))]) H := hP
          have hD : va_D A ([(t 0, .inr (0, [.ref (t 1), .int (nI len), .int (nI (pos + 1 + 1 + 1)), .int (nI (sg pos)), .int (nI (sg (pos + 1) - 48)), .int (nI (sg (pos + 1 + 1) - 48))])), (t 1, .inl (cI, 80, .inl (fun z => nI (sg z))))]) := hD
          refine lv_iconst (v := (nI 1)) hx hb dX0_readCommand_86 (by decide) ?_
          refine lv_goto (tgt := 91) hx hb dX0_readCommand_87 (by decide) ?_
          have er := rc_s1 hk hd (by omega) hd2
          exact ret_z (u := ((nI (sg pos)), (nI (sg (pos + 1) - 48)), (nI (sg (pos + 1 + 1) - 48)))) hQ hx hb hrt hlk hS dX0_readCommand_91 (by decide) (by rw [er]; exact hP) ⟨by rw [er]; rfl, fun _ => ⟨rfl, rfl, fun _ => by rw [rcO, if_neg (by omega)]⟩⟩
    · have h_2 := h_2
      have hd := dgv_f (by omega) h_2
      rw [if_neg (by simp [hd]), if_neg (by simp [hd])] at hP hD
      have hP : va_P D vwCl ([(t 0, .inr (0, [.ref (t 1), .int (nI len), .int (nI (pos + 1)), .int (nI (sg pos)), .int (-1), .int op])), (t 1, .inl (cI, 80, .inl (fun z => nI (sg z))))]) H := hP
      have hD : va_D A ([(t 0, .inr (0, [.ref (t 1), .int (nI len), .int (nI (pos + 1)), .int (nI (sg pos)), .int (-1), .int op])), (t 1, .inl (cI, 80, .inl (fun z => nI (sg z))))]) := hD
      refine lv_iconst (v := (nI 0)) hx hb dX0_readCommand_27 (by decide) ?_
      have er := rc_d0 hk hd
      exact ret_z (u := ((nI (sg pos)), (-1), op)) hQ hx hb hrt hlk hS dX0_readCommand_28 (by decide) (by rw [er]; exact hP) ⟨by rw [er]; rfl, fun q => by rw [er] at q; cases q⟩
  · have h_1 := (nI_eq (a := ((rkB sg len pos).toNat)) (b := 0) (by first | omega | exact bits_lt31 _ | exact bitN_lt _ _ | exact bool_lt _ | exact and_lt31 _ _ _ _ | exact Nat.lt_of_le_of_lt (dst_lt _ _ _ (by omega) _) (by decide) | exact Nat.lt_of_le_of_lt (nrB_le _ _ _ (by omega)).2 (by decide) | decide) (by first | omega | exact bits_lt31 _ | exact bitN_lt _ _ | exact bool_lt _ | exact and_lt31 _ _ _ _ | exact Nat.lt_of_le_of_lt (dst_lt _ _ _ (by omega) _) (by decide) | exact Nat.lt_of_le_of_lt (nrB_le _ _ _ (by omega)).2 (by decide) | decide)).mp h_1
    have hk := tn_b h_1
    rw [if_neg (by simp [hk])] at hP hD
    have hP : va_P D vwCl ([(t 0, .inr (0, [.ref (t 1), .int (nI len), .int (nI pos), .int (shI sg len pos), .int tr, .int op])), (t 1, .inl (cI, 80, .inl (fun z => nI (sg z))))]) H := hP
    have hD : va_D A ([(t 0, .inr (0, [.ref (t 1), .int (nI len), .int (nI pos), .int (shI sg len pos), .int tr, .int op])), (t 1, .inl (cI, 80, .inl (fun z => nI (sg z))))]) := hD
    refine lv_iconst (v := (nI 0)) hx hb dX0_readCommand_7 (by decide) ?_
    have er := rc_k0 hk
    exact ret_z (u := ((shI sg len pos), tr, op)) hQ hx hb hrt hlk hS dX0_readCommand_8 (by decide) (by rw [er]; exact hP) ⟨by rw [er]; rfl, fun q => by rw [er] at q; cases q⟩

abbrev rX0_findError : Room := { frames := 3, cells := 0, slots := 0, locals := 63 }
set_option maxHeartbeats 4000000 in
set_option maxRecDepth 100000 in
/-- findError -/
theorem c_X0_findError (l : Launch) (D : va_G) (cI cT : ClassId) (t sg : Nat → Nat) (len pos : Nat) (kd tr op : Int32) (hlen : len ≤ 80) (hsg : ∀ z, sg z < 128) : CN l D cI cT yX0_findError wsX0_findError rX0_findError [.ref (t 0)] (txtW cI t sg len pos kd tr op) (S := Nat × Int32 × Int32 × Int32) (fun v u => v = oI (feN sg len 80 0) ∧ u.1 ≤ len) (fun u => txtW cI t sg len u.1 u.2.1 u.2.2.1 u.2.2.2) := by
  refine CN.of (cc := cX0_findError) (maxL := 2) (ret := (some .int)) (by decide) rfl (Nat.le_of_ble_eq_true rfl) ?_
  intro p e s m args below meth c A Q hQ B hA H locs hP hK hD hS ls hl
  obtain ⟨hx, hb, hml, hrt, hts, hown, hlk⟩ := B
  have hl : lv_has ls 2 [(0, .ref (t 0))] := hl
  have iX0 : ∀ w ∈ u_ws RX0 TX0 6, w ∈ wsX0_findError := by decide +kernel
  have f19 := hts (.fieldLink RX0 19 "LockManager$CommandText" "position" "I") (by decide +kernel)
  have f15 := hts (.fieldLink RX0 15 "LockManager$CommandText" "length" "I") (by decide +kernel)
  refine lv_aload_n hx hb dX0_findError_0 rfl (lv_at hl 0 rfl) ?_
  refine call_v (X := []) (Z := []) (As := []) (rest := []) ⟨hx, hb, hml, hown, hts⟩ (c_X0_rewind l D cI cT t sg len pos kd tr op  hlen hsg ) (cwV 0 hts gX0_findError_X0_rewind rfl rfl rfl (by decide +kernel) ⟨Nat.le_of_ble_eq_true rfl, Nat.le_of_ble_eq_true rfl⟩) hK hP hD hS hA (va_recv hK hP (ci := 0) (q0 := 0) rfl rfl) (fun _ => adr_txt.trans adr_txt.symm) rfl hl.1 rfl (Nat.le_of_ble_eq_true rfl) ⟨by decide, by decide⟩ dX0_findError_1 (fun u H locs hp hP hD hS => ?_)
  have hP : va_P D vwCl ([(t 0, .inr (0, [.ref (t 1), .int (nI len), .int (nI 0), .int kd, .int tr, .int op])), (t 1, .inl (cI, 80, .inl (fun z => nI (sg z))))]) H := hP
  have hD : va_D A ([(t 0, .inr (0, [.ref (t 1), .int (nI len), .int (nI 0), .int kd, .int tr, .int op])), (t 1, .inl (cI, 80, .inl (fun z => nI (sg z))))]) := hD
  refine lv_iconst (v := (nI 0)) hx hb dX0_findError_4 (by decide) ?_
  refine lv_istore_n (lv' := [(1, .int (nI 0)), (0, .ref (t 0))]) hx hb dX0_findError_5 rfl hl (by decide) rfl (fun ls hl => ?_)
  have L6 : ∀ (N : Nat) (k : Nat) (p9 : Nat) (u1 : Int32) (u2 : Int32) (u3 : Int32), (k ≤ 80) → (p9 ≤ len) → (feI sg len k p9) → (80 - k) < N → ∀ (H : Heap) (locs : List Loc), va_P D vwCl ([(t 0, .inr (0, [.ref (t 1), .int (nI len), .int (nI p9), .int u1, .int u2, .int u3])), (t 1, .inl (cI, 80, .inl (fun z => nI (sg z))))]) H → va_D A ([(t 0, .inr (0, [.ref (t 1), .int (nI len), .int (nI p9), .int u1, .int u2, .int u3])), (t 1, .inl (cI, 80, .inl (fun z => nI (sg z))))]) → va_S A s.heap H locs → ∀ ls : Array Slot, lv_has ls 2 [(0, .ref (t 0)), (1, .int (nI k))] → W p l e rX0_findError s m args below meth c H locs 0 0 Q (F0 m 6 ls []) := by
    intro N6
    induction N6 with
    | zero => intro k p9 u1 u2 u3 hk hp9 hI hN; exact absurd hN (Nat.not_lt_zero _)
    | succ N6 ih6 =>
      intro k p9 u1 u2 u3 hk hp9 hI hN H locs hP hD hS ls hl
      have hrc := rc_le (sg := sg) hp9
      refine lv_iload_n hx hb dX0_findError_6 rfl (lv_at hl 1 rfl) ?_
      refine lv_bipush (v := (nI 80)) hx hb dX0_findError_7 (by decide) ?_
      refine lv_icmp_ge (tgt := 50) hx hb dX0_findError_9 (by decide) (fun h_1 => ?_) (fun h_1 => ?_)
      · have h_1 := (nI_leI (a := 80) (b := k) (by first | omega | exact bits_lt31 _ | exact bitN_lt _ _ | exact bool_lt _ | exact and_lt31 _ _ _ _ | exact Nat.lt_of_le_of_lt (dst_lt _ _ _ (by omega) _) (by decide) | exact Nat.lt_of_le_of_lt (nrB_le _ _ _ (by omega)).2 (by decide) | decide) (by first | omega | exact bits_lt31 _ | exact bitN_lt _ _ | exact bool_lt _ | exact and_lt31 _ _ _ _ | exact Nat.lt_of_le_of_lt (dst_lt _ _ _ (by omega) _) (by decide) | exact Nat.lt_of_le_of_lt (nrB_le _ _ _ (by omega)).2 (by decide) | decide)).mp h_1
        obtain rfl : k = 80 := by omega
        have hres := fe_e0 hI
        refine lv_aload_n hx hb dX0_findError_50 rfl (lv_at hl 0 rfl) ?_
        refine va_get (D := D) (ci := 0) (v := .int (nI p9)) (C := RX0) (T := TX0) (N := 6) hx hb hts iX0 hown hK hP 0 rfl rfl 2 (by decide) f19 (fun _ h9 => h9) rfl dX0_findError_51 ?_
        exact ret_i (u := (p9, u1, u2, u3)) hQ hx hb hrt hlk hS dX0_findError_54 hP ⟨by rw [hres]; rfl, by omega⟩
      · have h_1 := mt (nI_leI (a := 80) (b := k) (by first | omega | exact bits_lt31 _ | exact bitN_lt _ _ | exact bool_lt _ | exact and_lt31 _ _ _ _ | exact Nat.lt_of_le_of_lt (dst_lt _ _ _ (by omega) _) (by decide) | exact Nat.lt_of_le_of_lt (nrB_le _ _ _ (by omega)).2 (by decide) | decide) (by first | omega | exact bits_lt31 _ | exact bitN_lt _ _ | exact bool_lt _ | exact and_lt31 _ _ _ _ | exact Nat.lt_of_le_of_lt (dst_lt _ _ _ (by omega) _) (by decide) | exact Nat.lt_of_le_of_lt (nrB_le _ _ _ (by omega)).2 (by decide) | decide)).mpr h_1
        refine lv_aload_n hx hb dX0_findError_12 rfl (lv_at hl 0 rfl) ?_
        refine call_i (X := []) (Z := []) (As := []) (rest := []) ⟨hx, hb, hml, hown, hts⟩ (c_X0_readCommand l D cI cT t sg len p9 u1 u2 u3 hlen hsg (by omega)) (cwV 0 hts gX0_findError_X0_readCommand rfl rfl rfl (by decide +kernel) ⟨Nat.le_of_ble_eq_true rfl, Nat.le_of_ble_eq_true rfl⟩) hK hP hD hS hA (va_recv hK hP (ci := 0) (q0 := 0) rfl rfl) (fun _ => adr_txt.trans adr_txt.symm) rfl hl.1 rfl (Nat.le_of_ble_eq_true rfl) ⟨by decide, by decide⟩ dX0_findError_13 (fun rv u18 H locs hp hP hD hS => ?_)
        obtain ⟨rfl, hu18⟩ := hp
        have hP : va_P D vwCl ([(t 0, .inr (0, [.ref (t 1), .int (nI len), .int (nI ((rcR sg len p9).2)), .int u18.1, .int u18.2.1, .int u18.2.2])), (t 1, .inl (cI, 80, .inl (fun z => nI (sg z))))]) H := hP
        have hD : va_D A ([(t 0, .inr (0, [.ref (t 1), .int (nI len), .int (nI ((rcR sg len p9).2)), .int u18.1, .int u18.2.1, .int u18.2.2])), (t 1, .inl (cI, 80, .inl (fun z => nI (sg z))))]) := hD
        refine lv_if_eq (tgt := 50) hx hb dX0_findError_16 (by decide) (fun h_2 => ?_) (fun h_2 => ?_)
        · have h_2 := (nI_eq (a := ((rcR sg len p9).1.toNat)) (b := 0) (by first | omega | exact bits_lt31 _ | exact bitN_lt _ _ | exact bool_lt _ | exact and_lt31 _ _ _ _ | exact Nat.lt_of_le_of_lt (dst_lt _ _ _ (by omega) _) (by decide) | exact Nat.lt_of_le_of_lt (nrB_le _ _ _ (by omega)).2 (by decide) | decide) (by first | omega | exact bits_lt31 _ | exact bitN_lt _ _ | exact bool_lt _ | exact and_lt31 _ _ _ _ | exact Nat.lt_of_le_of_lt (dst_lt _ _ _ (by omega) _) (by decide) | exact Nat.lt_of_le_of_lt (nrB_le _ _ _ (by omega)).2 (by decide) | decide)).mp h_2
          have hres := fe_e1 (by omega) hI (tn_b h_2)
          refine lv_aload_n hx hb dX0_findError_50 rfl (lv_at hl 0 rfl) ?_
          refine va_get (D := D) (ci := 0) (v := .int (nI ((rcR sg len p9).2))) (C := RX0) (T := TX0) (N := 6) hx hb hts iX0 hown hK hP 0 rfl rfl 2 (by decide) f19 (fun _ h9 => h9) rfl dX0_findError_51 ?_
          exact ret_i (u := ((rcR sg len p9).2, u18.1, u18.2.1, u18.2.2)) hQ hx hb hrt hlk hS dX0_findError_54 hP ⟨by rw [hres]; rfl, by omega⟩
        · have h_2 := mt (nI_eq (a := ((rcR sg len p9).1.toNat)) (b := 0) (by first | omega | exact bits_lt31 _ | exact bitN_lt _ _ | exact bool_lt _ | exact and_lt31 _ _ _ _ | exact Nat.lt_of_le_of_lt (dst_lt _ _ _ (by omega) _) (by decide) | exact Nat.lt_of_le_of_lt (nrB_le _ _ _ (by omega)).2 (by decide) | decide) (by first | omega | exact bits_lt31 _ | exact bitN_lt _ _ | exact bool_lt _ | exact and_lt31 _ _ _ _ | exact Nat.lt_of_le_of_lt (dst_lt _ _ _ (by omega) _) (by decide) | exact Nat.lt_of_le_of_lt (nrB_le _ _ _ (by omega)).2 (by decide) | decide)).mpr h_2
          have hr1 := tn_t h_2
          refine lv_aload_n hx hb dX0_findError_19 rfl (lv_at hl 0 rfl) ?_
          refine va_get (D := D) (ci := 0) (v := .int (nI ((rcR sg len p9).2))) (C := RX0) (T := TX0) (N := 6) hx hb hts iX0 hown hK hP 0 rfl rfl 2 (by decide) f19 (fun _ h9 => h9) rfl dX0_findError_20 ?_
          refine lv_aload_n hx hb dX0_findError_23 rfl (lv_at hl 0 rfl) ?_
          refine va_get (D := D) (ci := 0) (v := .int (nI len)) (C := RX0) (T := TX0) (N := 6) hx hb hts iX0 hown hK hP 0 rfl rfl 1 (by decide) f15 (fun _ h9 => h9) rfl dX0_findError_24 ?_
          refine lv_icmp_ne (tgt := 32) hx hb dX0_findError_27 (by decide) (fun h_3 => ?_) (fun h_3 => ?_)
          · have h_3 := mt (nI_eq (a := ((rcR sg len p9).2)) (b := len) (by first | omega | exact bits_lt31 _ | exact bitN_lt _ _ | exact bool_lt _ | exact and_lt31 _ _ _ _ | exact Nat.lt_of_le_of_lt (dst_lt _ _ _ (by omega) _) (by decide) | exact Nat.lt_of_le_of_lt (nrB_le _ _ _ (by omega)).2 (by decide) | decide) (by first | omega | exact bits_lt31 _ | exact bitN_lt _ _ | exact bool_lt _ | exact and_lt31 _ _ _ _ | exact Nat.lt_of_le_of_lt (dst_lt _ _ _ (by omega) _) (by decide) | exact Nat.lt_of_le_of_lt (nrB_le _ _ _ (by omega)).2 (by decide) | decide)).mpr h_3
            have hne : ¬ (rcR sg len p9).2 = len := h_3
            refine lv_aload_n hx hb dX0_findError_32 rfl (lv_at hl 0 rfl) ?_
            refine lv_bipush (v := (nI 59)) hx hb dX0_findError_33 (by decide) ?_
            refine call_i (X := []) (Z := []) (As := [.int (nI 59)]) (rest := []) ⟨hx, hb, hml, hown, hts⟩ (c_X0_readSign l D cI cT t sg len ((rcR sg len p9).2) u18.1 u18.2.1 u18.2.2 59 (by omega) hlen hsg (by omega)) (cwV 1 hts gX0_findError_X0_readSign rfl rfl rfl (by decide +kernel) ⟨Nat.le_of_ble_eq_true rfl, Nat.le_of_ble_eq_true rfl⟩) hK hP hD hS hA (va_recv hK hP (ci := 0) (q0 := 0) rfl rfl) (fun _ => adr_txt.trans adr_txt.symm) rfl hl.1 rfl (Nat.le_of_ble_eq_true rfl) ⟨by decide, by decide⟩ dX0_findError_35 (fun rv u H locs hp hP hD hS => ?_)
            obtain rfl := hp
            have hP : va_P D vwCl ([(t 0, .inr (0, [.ref (t 1), .int (nI len), .int (nI (if sgB sg len ((rcR sg len p9).2) 59 = true then (rcR sg len p9).2 + 1 else (rcR sg len p9).2)), .int u18.1, .int u18.2.1, .int u18.2.2])), (t 1, .inl (cI, 80, .inl (fun z => nI (sg z))))]) H := hP
            have hD : va_D A ([(t 0, .inr (0, [.ref (t 1), .int (nI len), .int (nI (if sgB sg len ((rcR sg len p9).2) 59 = true then (rcR sg len p9).2 + 1 else (rcR sg len p9).2)), .int u18.1, .int u18.2.1, .int u18.2.2])), (t 1, .inl (cI, 80, .inl (fun z => nI (sg z))))]) := hD
            refine lv_if_ne (tgt := 44) hx hb dX0_findError_38 (by decide) (fun h_4 => ?_) (fun h_4 => ?_)
            · have h_4 := mt (nI_eq (a := ((sgB sg len ((rcR sg len p9).2) 59).toNat)) (b := 0) (by first | omega | exact bits_lt31 _ | exact bitN_lt _ _ | exact bool_lt _ | exact and_lt31 _ _ _ _ | exact Nat.lt_of_le_of_lt (dst_lt _ _ _ (by omega) _) (by decide) | exact Nat.lt_of_le_of_lt (nrB_le _ _ _ (by omega)).2 (by decide) | decide) (by first | omega | exact bits_lt31 _ | exact bitN_lt _ _ | exact bool_lt _ | exact and_lt31 _ _ _ _ | exact Nat.lt_of_le_of_lt (dst_lt _ _ _ (by omega) _) (by decide) | exact Nat.lt_of_le_of_lt (nrB_le _ _ _ (by omega)).2 (by decide) | decide)).mpr h_4
              have hs3 := tn_t h_4
              rw [if_pos hs3] at hP hD
              have hP : va_P D vwCl ([(t 0, .inr (0, [.ref (t 1), .int (nI len), .int (nI ((rcR sg len p9).2 + 1)), .int u18.1, .int u18.2.1, .int u18.2.2])), (t 1, .inl (cI, 80, .inl (fun z => nI (sg z))))]) H := hP
              have hD : va_D A ([(t 0, .inr (0, [.ref (t 1), .int (nI len), .int (nI ((rcR sg len p9).2 + 1)), .int u18.1, .int u18.2.1, .int u18.2.2])), (t 1, .inl (cI, 80, .inl (fun z => nI (sg z))))]) := hD
              refine lv_iinc (v := (nI (k + 1))) (lv' := [(1, .int (nI (k + 1))), (0, .ref (t 0))]) hx hb dX0_findError_44 hl (k := 1) rfl (nI_add _ 1) (by decide) rfl (fun ls hl => ?_)
              refine lv_goto (tgt := 6) hx hb dX0_findError_47 (by decide) ?_
              exact ih6 (k + 1) ((rcR sg len p9).2 + 1) u18.1 u18.2.1 u18.2.2 (by omega) (by omega) (fe_s (by omega) hI hr1 hne hs3) (by omega) _ _ hP hD hS _ (lv_sub hl [1, 0] rfl)
            · have h_4 := (nI_eq (a := ((sgB sg len ((rcR sg len p9).2) 59).toNat)) (b := 0) (by first | omega | exact bits_lt31 _ | exact bitN_lt _ _ | exact bool_lt _ | exact and_lt31 _ _ _ _ | exact Nat.lt_of_le_of_lt (dst_lt _ _ _ (by omega) _) (by decide) | exact Nat.lt_of_le_of_lt (nrB_le _ _ _ (by omega)).2 (by decide) | decide) (by first | omega | exact bits_lt31 _ | exact bitN_lt _ _ | exact bool_lt _ | exact and_lt31 _ _ _ _ | exact Nat.lt_of_le_of_lt (dst_lt _ _ _ (by omega) _) (by decide) | exact Nat.lt_of_le_of_lt (nrB_le _ _ _ (by omega)).2 (by decide) | decide)).mp h_4
              refine lv_goto (tgt := 50) hx hb dX0_findError_41 (by decide) ?_
              have hs3 := tn_b h_4
              rw [if_neg (by simp [hs3])] at hP hD
              have hP : va_P D vwCl ([(t 0, .inr (0, [.ref (t 1), .int (nI len), .int (nI ((rcR sg len p9).2)), .int u18.1, .int u18.2.1, .int u18.2.2])), (t 1, .inl (cI, 80, .inl (fun z => nI (sg z))))]) H := hP
              have hD : va_D A ([(t 0, .inr (0, [.ref (t 1), .int (nI len), .int (nI ((rcR sg len p9).2)), .int u18.1, .int u18.2.1, .int u18.2.2])), (t 1, .inl (cI, 80, .inl (fun z => nI (sg z))))]) := hD
              have hres := fe_e3 (by omega) hI hr1 hne hs3
              refine lv_aload_n hx hb dX0_findError_50 rfl (lv_at hl 0 rfl) ?_
              refine va_get (D := D) (ci := 0) (v := .int (nI ((rcR sg len p9).2))) (C := RX0) (T := TX0) (N := 6) hx hb hts iX0 hown hK hP 0 rfl rfl 2 (by decide) f19 (fun _ h9 => h9) rfl dX0_findError_51 ?_
              exact ret_i (u := ((rcR sg len p9).2, u18.1, u18.2.1, u18.2.2)) hQ hx hb hrt hlk hS dX0_findError_54 hP ⟨by rw [hres]; rfl, by omega⟩
          · have h_3 := (nI_eq (a := ((rcR sg len p9).2)) (b := len) (by first | omega | exact bits_lt31 _ | exact bitN_lt _ _ | exact bool_lt _ | exact and_lt31 _ _ _ _ | exact Nat.lt_of_le_of_lt (dst_lt _ _ _ (by omega) _) (by decide) | exact Nat.lt_of_le_of_lt (nrB_le _ _ _ (by omega)).2 (by decide) | decide) (by first | omega | exact bits_lt31 _ | exact bitN_lt _ _ | exact bool_lt _ | exact and_lt31 _ _ _ _ | exact Nat.lt_of_le_of_lt (dst_lt _ _ _ (by omega) _) (by decide) | exact Nat.lt_of_le_of_lt (nrB_le _ _ _ (by omega)).2 (by decide) | decide)).mp h_3
            have hres := fe_e2 (by omega) hI hr1 h_3
            refine lv_iconst (v := (-1)) hx hb dX0_findError_30 (by decide) ?_
            exact ret_i (u := ((rcR sg len p9).2, u18.1, u18.2.1, u18.2.2)) hQ hx hb hrt hlk hS dX0_findError_31 hP ⟨by rw [hres]; rfl, by omega⟩
  exact L6 _ 0 0 kd tr op (Nat.zero_le _) (Nat.zero_le _) feI_0 (Nat.lt_succ_self _) _ _ hP hD hS _ (lv_sub hl [1, 0] rfl)

