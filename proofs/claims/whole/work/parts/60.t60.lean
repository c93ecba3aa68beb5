abbrev rX5_appendText : Room := { frames := 1, cells := 0, slots := 0, locals := 22 }
set_option maxHeartbeats 1000000 in
set_option maxRecDepth 100000 in
theorem c_X5_appendText (l : Launch) (D : va_G) (cI cT : ClassId) (ad : Nat → Nat) (th sv ln vs rl cm fi se : Int32) (z zs sd tx ds rg : Nat → Int32) (F : FF) (Q0 : QQ) (HS : List (FF × QQ)) (sg : Nat → Nat) (len n : Nat) (p0 : Int32) (hL : LZ n (F, Q0, HS, sg, len) z sd tx) (hn : n + 80 < 2 ^ 31) : CN l D cI cT yX5_appendText wsX5_appendText rX5_appendText [.ref (ad 0), .int p0] (refW cI ad th (nI HS.length) (nI len) vs rl cm fi se z zs sd tx ds rg) (S := JR) (fun v u => v = (opAppend (F, Q0, HS, sg, len) p0).2.1 ∧ u.1 = nI (opAppend (F, Q0, HS, sg, len) p0).1 ∧ LZu (n + 80) (opAppend (F, Q0, HS, sg, len) p0).2.2 u) (fun u => rfW cI ad (opAppend (F, Q0, HS, sg, len) p0).2.2 u) := by
  refine CN.of (cc := cX5_appendText) (maxL := 2) (ret := (some .int)) (by decide) rfl (Nat.le_of_ble_eq_true rfl) ?_
  intro p e s m args below meth c A Q hQ B hA H locs hP hK hD hS ls hl
  obtain ⟨hx, hb, hml, hrt, hts, hown, hlk⟩ := B
  have hP : va_P D vwCl ([(ad 0, .inr (5, [.int th, .ref (ad 1), .ref (ad 2), .ref (ad 3), .int (nI HS.length), .ref (ad 4), .int (nI len), .int vs, .ref (ad 5), .ref (ad 6), .int rl, .int cm, .int fi, .int se])), (ad 1, .inl (cI, 221, .inl z)), (ad 2, .inl (cI, 221, .inl zs)), (ad 3, .inl (cI, 1768, .inl sd)), (ad 4, .inl (cI, 80, .inl tx)), (ad 5, .inl (cI, 8, .inl ds)), (ad 6, .inl (cI, 8, .inl rg))]) H := hP
  have hD : va_D A ([(ad 0, .inr (5, [.int th, .ref (ad 1), .ref (ad 2), .ref (ad 3), .int (nI HS.length), .ref (ad 4), .int (nI len), .int vs, .ref (ad 5), .ref (ad 6), .int rl, .int cm, .int fi, .int se])), (ad 1, .inl (cI, 221, .inl z)), (ad 2, .inl (cI, 221, .inl zs)), (ad 3, .inl (cI, 1768, .inl sd)), (ad 4, .inl (cI, 80, .inl tx)), (ad 5, .inl (cI, 8, .inl ds)), (ad 6, .inl (cI, 8, .inl rg))]) := hD
  have hl : lv_has ls 2 [(0, .ref (ad 0)), (1, .int p0)] := hl
  obtain ⟨hJ, hC, hZ, hl8, hH, hHS, hlen, htx, hsg⟩ := hL
  dsimp only at hJ hC hZ hl8 hH hHS hlen htx hsg
  have hL := LZ_mk hJ hC hZ hl8 hH hHS hlen htx hsg
  have hB := hC.jb
  have hn8 := hC.n8 (by omega)
  have hHJ : ∀ q ∈ HS, JJ q.1 q.2 := fun q hq => (hHS q hq).1
  have iX5 : ∀ w ∈ u_ws RX5 TX5 14, w ∈ wsX5_appendText := by decide +kernel
  have f168 := hts (.fieldLink RX5 168 "LockManagerModel" "length" "I") (by decide +kernel)
  have f32 := hts (.fieldLink RX5 32 "LockManagerModel" "thrown" "I") (by decide +kernel)
  have f19 := hts (.fieldLink RX5 19 "LockManagerModel" "text" "[I") (by decide +kernel)
  refine lv_aload_n hx hb dX5_appendText_0 rfl (lv_at hl 0 rfl) ?_
  refine lv_iload_n hx hb dX5_appendText_1 rfl (lv_at hl 1 rfl) ?_
  refine lv_bipush (v := (nI 32)) hx hb dX5_appendText_2 (by decide) ?_
  refine lv_bipush (v := (nI 126)) hx hb dX5_appendText_4 (by decide) ?_
  refine call_s (X := [(ad 0, .inr (5, [.int th, .ref (ad 1), .ref (ad 2), .ref (ad 3), .int (nI HS.length), .ref (ad 4), .int (nI len), .int vs, .ref (ad 5), .ref (ad 6), .int rl, .int cm, .int fi, .int se])), (ad 1, .inl (cI, 221, .inl z)), (ad 2, .inl (cI, 221, .inl zs)), (ad 3, .inl (cI, 1768, .inl sd)), (ad 4, .inl (cI, 80, .inl tx)), (ad 5, .inl (cI, 8, .inl ds)), (ad 6, .inl (cI, 8, .inl rg))]) (Wc := []) (Z := []) (As := [.int p0, .int (nI 32), .int (nI 126)]) (rest := [.ref (ad 0)]) ⟨hx, hb, hml, hown, hts⟩ (c_X5_in l D cI cT p0 (nI 32) (nI 126)) (va_cwS 3 hts gX5_appendText_X5_in rfl rfl rfl (by decide +kernel) ⟨Nat.le_of_ble_eq_true rfl, Nat.le_of_ble_eq_true rfl⟩) hK (P_nilr hP) (D_nilr hD) hS hA (fun _ => rfl) rfl hl.1 rfl (Nat.le_of_ble_eq_true rfl) ⟨by decide, by decide⟩ dX5_appendText_6 (fun rv _ H locs hp hP hD hS => ?_)
  obtain rfl := hp
  have hP := P_nil2 hP
  have hD := D_nil2 hD
  have hP : va_P D vwCl ([(ad 0, .inr (5, [.int th, .ref (ad 1), .ref (ad 2), .ref (ad 3), .int (nI HS.length), .ref (ad 4), .int (nI len), .int vs, .ref (ad 5), .ref (ad 6), .int rl, .int cm, .int fi, .int se])), (ad 1, .inl (cI, 221, .inl z)), (ad 2, .inl (cI, 221, .inl zs)), (ad 3, .inl (cI, 1768, .inl sd)), (ad 4, .inl (cI, 80, .inl tx)), (ad 5, .inl (cI, 8, .inl ds)), (ad 6, .inl (cI, 8, .inl rg))]) H := hP
  have hD : va_D A ([(ad 0, .inr (5, [.int th, .ref (ad 1), .ref (ad 2), .ref (ad 3), .int (nI HS.length), .ref (ad 4), .int (nI len), .int vs, .ref (ad 5), .ref (ad 6), .int rl, .int cm, .int fi, .int se])), (ad 1, .inl (cI, 221, .inl z)), (ad 2, .inl (cI, 221, .inl zs)), (ad 3, .inl (cI, 1768, .inl sd)), (ad 4, .inl (cI, 80, .inl tx)), (ad 5, .inl (cI, 8, .inl ds)), (ad 6, .inl (cI, 8, .inl rg))]) := hD
  refine lv_if_ne (tgt := 16) hx hb dX5_appendText_9 (by decide) (fun h_1 => ?_) (fun h_1 => ?_)
  · have h_1 := mt (nI_eq (a := ((inB p0 (nI 32) (nI 126)).toNat)) (b := 0) (by first | omega | exact bits_lt31 _ | exact bitN_lt _ _ | exact bool_lt _ | exact and_lt31 _ _ _ _ | exact Nat.lt_of_le_of_lt (dst_lt _ _ _ (by omega) _) (by decide) | exact Nat.lt_of_le_of_lt (nrB_le _ _ _ (by omega)).2 (by decide) | decide) (by first | omega | exact bits_lt31 _ | exact bitN_lt _ _ | exact bool_lt _ | exact and_lt31 _ _ _ _ | exact Nat.lt_of_le_of_lt (dst_lt _ _ _ (by omega) _) (by decide) | exact Nat.lt_of_le_of_lt (nrB_le _ _ _ (by omega)).2 (by decide) | decide)).mpr h_1
    have h_1 := tn_y h_1
    refine lv_aload_n hx hb dX5_appendText_16 rfl (lv_at hl 0 rfl) ?_
    refine va_get (D := D) (ci := 5) (v := .int (nI len)) (C := RX5) (T := TX5) (N := 14) hx hb hts iX5 hown hK hP 0 rfl rfl 6 (by decide) f168 (fun _ h9 => h9) rfl dX5_appendText_17 ?_
    refine lv_bipush (v := (nI 80)) hx hb dX5_appendText_20 (by decide) ?_
    refine lv_icmp_ne (tgt := 29) hx hb dX5_appendText_22 (by decide) (fun h_2 => ?_) (fun h_2 => ?_)
    · have h_2 := mt (nI_eq (a := len) (b := 80) (by first | omega | exact bits_lt31 _ | exact bitN_lt _ _ | exact bool_lt _ | exact and_lt31 _ _ _ _ | exact Nat.lt_of_le_of_lt (dst_lt _ _ _ (by omega) _) (by decide) | exact Nat.lt_of_le_of_lt (nrB_le _ _ _ (by omega)).2 (by decide) | decide) (by first | omega | exact bits_lt31 _ | exact bitN_lt _ _ | exact bool_lt _ | exact and_lt31 _ _ _ _ | exact Nat.lt_of_le_of_lt (dst_lt _ _ _ (by omega) _) (by decide) | exact Nat.lt_of_le_of_lt (nrB_le _ _ _ (by omega)).2 (by decide) | decide)).mpr h_2
      refine lv_iconst (v := (nI 0)) hx hb dX5_appendText_29 (by decide) ?_
      refine va_put (D := D) (ci := 5) (v := .int (nI 0)) (ty := .int) (C := RX5) (T := TX5) (N := 14) hx hb hts iX5 tyX5 tyX5_ok nmX5 hown hK hP hD hS 0 rfl rfl 0 (by decide) f32 (fun _ h9 => h9) rfl (by decide +kernel) rfl rfl (Nat.le_of_ble_eq_true rfl) dX5_appendText_30 (fun H locs hP hD hS => ?_)
      have hP : va_P D vwCl ([(ad 0, .inr (5, [.int (nI 0), .ref (ad 1), .ref (ad 2), .ref (ad 3), .int (nI HS.length), .ref (ad 4), .int (nI len), .int vs, .ref (ad 5), .ref (ad 6), .int rl, .int cm, .int fi, .int se])), (ad 1, .inl (cI, 221, .inl z)), (ad 2, .inl (cI, 221, .inl zs)), (ad 3, .inl (cI, 1768, .inl sd)), (ad 4, .inl (cI, 80, .inl tx)), (ad 5, .inl (cI, 8, .inl ds)), (ad 6, .inl (cI, 8, .inl rg))]) H := hP
      have hD : va_D A ([(ad 0, .inr (5, [.int (nI 0), .ref (ad 1), .ref (ad 2), .ref (ad 3), .int (nI HS.length), .ref (ad 4), .int (nI len), .int vs, .ref (ad 5), .ref (ad 6), .int rl, .int cm, .int fi, .int se])), (ad 1, .inl (cI, 221, .inl z)), (ad 2, .inl (cI, 221, .inl zs)), (ad 3, .inl (cI, 1768, .inl sd)), (ad 4, .inl (cI, 80, .inl tx)), (ad 5, .inl (cI, 8, .inl ds)), (ad 6, .inl (cI, 8, .inl rg))]) := hD
      refine lv_aload_n hx hb dX5_appendText_33 rfl (lv_at hl 0 rfl) ?_
      refine va_get (D := D) (ci := 5) (v := .int (nI 0)) (C := RX5) (T := TX5) (N := 14) hx hb hts iX5 hown hK hP 0 rfl rfl 0 (by decide) f32 (fun _ h9 => h9) rfl dX5_appendText_34 ?_
      refine lv_if_le (tgt := 42) hx hb dX5_appendText_37 (by decide) (fun _ => ?_) (fun h => absurd (by decide) h)
      have hc := inB_cy h_1
      obtain ⟨ch, hch, hcx⟩ := ch_of hc.1 hc.2
      rw [hcx] at hl
      refine lv_aload_n hx hb dX5_appendText_42 rfl (lv_at hl 0 rfl) ?_
      refine va_get (D := D) (ci := 5) (v := .ref (ad 4)) (C := RX5) (T := TX5) (N := 14) hx hb hts iX5 hown hK hP 0 rfl rfl 5 (by decide) f19 (fun _ h9 => h9) rfl dX5_appendText_43 ?_
      refine lv_aload_n hx hb dX5_appendText_46 rfl (lv_at hl 0 rfl) ?_
      refine va_get (D := D) (ci := 5) (v := .int (nI len)) (C := RX5) (T := TX5) (N := 14) hx hb hts iX5 hown hK hP 0 rfl rfl 6 (by decide) f168 (fun _ h9 => h9) rfl dX5_appendText_47 ?_
      refine lv_iload_n hx hb dX5_appendText_50 rfl (lv_at hl 1 rfl) ?_
      refine r_ist (k := len) hx hb hK hP hD hS 4 rfl (by omega) (by decide) dX5_appendText_51 (fun H locs hP hD hS => ?_)
      have hP : va_P D vwCl ([(ad 0, .inr (5, [.int (nI 0), .ref (ad 1), .ref (ad 2), .ref (ad 3), .int (nI HS.length), .ref (ad 4), .int (nI len), .int vs, .ref (ad 5), .ref (ad 6), .int rl, .int cm, .int fi, .int se])), (ad 1, .inl (cI, 221, .inl z)), (ad 2, .inl (cI, 221, .inl zs)), (ad 3, .inl (cI, 1768, .inl sd)), (ad 4, .inl (cI, 80, .inl (upd tx len (nI ch)))), (ad 5, .inl (cI, 8, .inl ds)), (ad 6, .inl (cI, 8, .inl rg))]) H := hP
      have hD : va_D A ([(ad 0, .inr (5, [.int (nI 0), .ref (ad 1), .ref (ad 2), .ref (ad 3), .int (nI HS.length), .ref (ad 4), .int (nI len), .int vs, .ref (ad 5), .ref (ad 6), .int rl, .int cm, .int fi, .int se])), (ad 1, .inl (cI, 221, .inl z)), (ad 2, .inl (cI, 221, .inl zs)), (ad 3, .inl (cI, 1768, .inl sd)), (ad 4, .inl (cI, 80, .inl (upd tx len (nI ch)))), (ad 5, .inl (cI, 8, .inl ds)), (ad 6, .inl (cI, 8, .inl rg))]) := hD
      refine lv_aload_n hx hb dX5_appendText_52 rfl (lv_at hl 0 rfl) ?_
      refine lv_dup hx hb dX5_appendText_53 rfl ?_
      refine va_get (D := D) (ci := 5) (v := .int (nI len)) (C := RX5) (T := TX5) (N := 14) hx hb hts iX5 hown hK hP 0 rfl rfl 6 (by decide) f168 (fun _ h9 => h9) rfl dX5_appendText_54 ?_
      refine lv_iconst (v := (nI 1)) hx hb dX5_appendText_57 (by decide) ?_
      refine lv_iadd hx hb dX5_appendText_58 ?_
      refine tpe (y := (nI (len + 1))) (nI_add _ _) ?_
      refine va_put (D := D) (ci := 5) (v := .int (nI (len + 1))) (ty := .int) (C := RX5) (T := TX5) (N := 14) hx hb hts iX5 tyX5 tyX5_ok nmX5 hown hK hP hD hS 0 rfl rfl 6 (by decide) f168 (fun _ h9 => h9) rfl (by decide +kernel) rfl rfl (Nat.le_of_ble_eq_true rfl) dX5_appendText_59 (fun H locs hP hD hS => ?_)
      have hP : va_P D vwCl ([(ad 0, .inr (5, [.int (nI 0), .ref (ad 1), .ref (ad 2), .ref (ad 3), .int (nI HS.length), .ref (ad 4), .int (nI (len + 1)), .int vs, .ref (ad 5), .ref (ad 6), .int rl, .int cm, .int fi, .int se])), (ad 1, .inl (cI, 221, .inl z)), (ad 2, .inl (cI, 221, .inl zs)), (ad 3, .inl (cI, 1768, .inl sd)), (ad 4, .inl (cI, 80, .inl (upd tx len (nI ch)))), (ad 5, .inl (cI, 8, .inl ds)), (ad 6, .inl (cI, 8, .inl rg))]) H := hP
      have hD : va_D A ([(ad 0, .inr (5, [.int (nI 0), .ref (ad 1), .ref (ad 2), .ref (ad 3), .int (nI HS.length), .ref (ad 4), .int (nI (len + 1)), .int vs, .ref (ad 5), .ref (ad 6), .int rl, .int cm, .int fi, .int se])), (ad 1, .inl (cI, 221, .inl z)), (ad 2, .inl (cI, 221, .inl zs)), (ad 3, .inl (cI, 1768, .inl sd)), (ad 4, .inl (cI, 80, .inl (upd tx len (nI ch)))), (ad 5, .inl (cI, 8, .inl ds)), (ad 6, .inl (cI, 8, .inl rg))]) := hD
      refine lv_aload_n hx hb dX5_appendText_62 rfl (lv_at hl 0 rfl) ?_
      refine va_get (D := D) (ci := 5) (v := .int (nI (len + 1))) (C := RX5) (T := TX5) (N := 14) hx hb hts iX5 hown hK hP 0 rfl rfl 6 (by decide) f168 (fun _ h9 => h9) rfl dX5_appendText_63 ?_
      have hix : ix p0 = ch := by rw [hcx]; exact ix_nI (by omega)
      exact ret_i (u := ((nI 0), vs, rl, cm, fi, se, z, zs, sd, upd tx len (nI ch), ds, rg)) hQ hx hb hrt hlk hS dX5_appendText_66 (by rw [opAppend_0 hc.1 hc.2 (show ¬ 80 ≤ len by omega), hix]; exact hP) (by rw [opAppend_0 hc.1 hc.2 (show ¬ 80 ≤ len by omega), hix]; exact ⟨rfl, rfl, (LZ_mk hJ (hC.mono (by omega)) hZ hl8 hH (all_mono (by omega) hHS) (show len + 1 ≤ 80 by omega) (tx_s htx) (sg_s hsg hch))⟩)
    · have h_2 := (nI_eq (a := len) (b := 80) (by first | omega | exact bits_lt31 _ | exact bitN_lt _ _ | exact bool_lt _ | exact and_lt31 _ _ _ _ | exact Nat.lt_of_le_of_lt (dst_lt _ _ _ (by omega) _) (by decide) | exact Nat.lt_of_le_of_lt (nrB_le _ _ _ (by omega)).2 (by decide) | decide) (by first | omega | exact bits_lt31 _ | exact bitN_lt _ _ | exact bool_lt _ | exact and_lt31 _ _ _ _ | exact Nat.lt_of_le_of_lt (dst_lt _ _ _ (by omega) _) (by decide) | exact Nat.lt_of_le_of_lt (nrB_le _ _ _ (by omega)).2 (by decide) | decide)).mp h_2
      refine lv_iconst (v := (nI 2)) hx hb dX5_appendText_25 (by decide) ?_
      refine lv_goto (tgt := 30) hx hb dX5_appendText_26 (by decide) ?_
      refine va_put (D := D) (ci := 5) (v := .int (nI 2)) (ty := .int) (C := RX5) (T := TX5) (N := 14) hx hb hts iX5 tyX5 tyX5_ok nmX5 hown hK hP hD hS 0 rfl rfl 0 (by decide) f32 (fun _ h9 => h9) rfl (by decide +kernel) rfl rfl (Nat.le_of_ble_eq_true rfl) dX5_appendText_30 (fun H locs hP hD hS => ?_)
      have hP : va_P D vwCl ([(ad 0, .inr (5, [.int (nI 2), .ref (ad 1), .ref (ad 2), .ref (ad 3), .int (nI HS.length), .ref (ad 4), .int (nI len), .int vs, .ref (ad 5), .ref (ad 6), .int rl, .int cm, .int fi, .int se])), (ad 1, .inl (cI, 221, .inl z)), (ad 2, .inl (cI, 221, .inl zs)), (ad 3, .inl (cI, 1768, .inl sd)), (ad 4, .inl (cI, 80, .inl tx)), (ad 5, .inl (cI, 8, .inl ds)), (ad 6, .inl (cI, 8, .inl rg))]) H := hP
      have hD : va_D A ([(ad 0, .inr (5, [.int (nI 2), .ref (ad 1), .ref (ad 2), .ref (ad 3), .int (nI HS.length), .ref (ad 4), .int (nI len), .int vs, .ref (ad 5), .ref (ad 6), .int rl, .int cm, .int fi, .int se])), (ad 1, .inl (cI, 221, .inl z)), (ad 2, .inl (cI, 221, .inl zs)), (ad 3, .inl (cI, 1768, .inl sd)), (ad 4, .inl (cI, 80, .inl tx)), (ad 5, .inl (cI, 8, .inl ds)), (ad 6, .inl (cI, 8, .inl rg))]) := hD
      refine lv_aload_n hx hb dX5_appendText_33 rfl (lv_at hl 0 rfl) ?_
      refine va_get (D := D) (ci := 5) (v := .int (nI 2)) (C := RX5) (T := TX5) (N := 14) hx hb hts iX5 hown hK hP 0 rfl rfl 0 (by decide) f32 (fun _ h9 => h9) rfl dX5_appendText_34 ?_
      refine lv_if_le (tgt := 42) hx hb dX5_appendText_37 (by decide) (fun h => absurd h (by decide)) (fun _ => ?_)
      refine lv_iconst (v := (nI 0)) hx hb dX5_appendText_40 (by decide) ?_
      have hc := inB_cy h_1
      exact ret_i (u := ((nI 2), vs, rl, cm, fi, se, z, zs, sd, tx, ds, rg)) hQ hx hb hrt hlk hS dX5_appendText_41 (by rw [opAppend_2 hc.1 hc.2 (show 80 ≤ len by omega)]; exact hP) (by rw [opAppend_2 hc.1 hc.2 (show 80 ≤ len by omega)]; exact ⟨rfl, rfl, (LZ.mono hL (by omega))⟩)
  · have h_1 := (nI_eq (a := ((inB p0 (nI 32) (nI 126)).toNat)) (b := 0) (by first | omega | exact bits_lt31 _ | exact bitN_lt _ _ | exact bool_lt _ | exact and_lt31 _ _ _ _ | exact Nat.lt_of_le_of_lt (dst_lt _ _ _ (by omega) _) (by decide) | exact Nat.lt_of_le_of_lt (nrB_le _ _ _ (by omega)).2 (by decide) | decide) (by first | omega | exact bits_lt31 _ | exact bitN_lt _ _ | exact bool_lt _ | exact and_lt31 _ _ _ _ | exact Nat.lt_of_le_of_lt (dst_lt _ _ _ (by omega) _) (by decide) | exact Nat.lt_of_le_of_lt (nrB_le _ _ _ (by omega)).2 (by decide) | decide)).mp h_1
    have h_1 := tn_f h_1
    refine lv_iconst (v := (nI 1)) hx hb dX5_appendText_12 (by decide) ?_
    refine lv_goto (tgt := 30) hx hb dX5_appendText_13 (by decide) ?_
    refine va_put (D := D) (ci := 5) (v := .int (nI 1)) (ty := .int) (C := RX5) (T := TX5) (N := 14) hx hb hts iX5 tyX5 tyX5_ok nmX5 hown hK hP hD hS 0 rfl rfl 0 (by decide) f32 (fun _ h9 => h9) rfl (by decide +kernel) rfl rfl (Nat.le_of_ble_eq_true rfl) dX5_appendText_30 (fun H locs hP hD hS => ?_)
    have hP : va_P D vwCl ([(ad 0, .inr (5, [.int (nI 1), .ref (ad 1), .ref (ad 2), .ref (ad 3), .int (nI HS.length), .ref (ad 4), .int (nI len), .int vs, .ref (ad 5), .ref (ad 6), .int rl, .int cm, .int fi, .int se])), (ad 1, .inl (cI, 221, .inl z)), (ad 2, .inl (cI, 221, .inl zs)), (ad 3, .inl (cI, 1768, .inl sd)), (ad 4, .inl (cI, 80, .inl tx)), (ad 5, .inl (cI, 8, .inl ds)), (ad 6, .inl (cI, 8, .inl rg))]) H := hP
    have hD : va_D A ([(ad 0, .inr (5, [.int (nI 1), .ref (ad 1), .ref (ad 2), .ref (ad 3), .int (nI HS.length), .ref (ad 4), .int (nI len), .int vs, .ref (ad 5), .ref (ad 6), .int rl, .int cm, .int fi, .int se])), (ad 1, .inl (cI, 221, .inl z)), (ad 2, .inl (cI, 221, .inl zs)), (ad 3, .inl (cI, 1768, .inl sd)), (ad 4, .inl (cI, 80, .inl tx)), (ad 5, .inl (cI, 8, .inl ds)), (ad 6, .inl (cI, 8, .inl rg))]) := hD
    refine lv_aload_n hx hb dX5_appendText_33 rfl (lv_at hl 0 rfl) ?_
    refine va_get (D := D) (ci := 5) (v := .int (nI 1)) (C := RX5) (T := TX5) (N := 14) hx hb hts iX5 hown hK hP 0 rfl rfl 0 (by decide) f32 (fun _ h9 => h9) rfl dX5_appendText_34 ?_
    refine lv_if_le (tgt := 42) hx hb dX5_appendText_37 (by decide) (fun h => absurd h (by decide)) (fun _ => ?_)
    refine lv_iconst (v := (nI 0)) hx hb dX5_appendText_40 (by decide) ?_
    exact ret_i (u := ((nI 1), vs, rl, cm, fi, se, z, zs, sd, tx, ds, rg)) hQ hx hb hrt hlk hS dX5_appendText_41 (by rw [opAppend_1 (inB_c.mp h_1)]; exact hP) (by rw [opAppend_1 (inB_c.mp h_1)]; exact ⟨rfl, rfl, (LZ.mono hL (by omega))⟩)

abbrev rX5_clearText : Room := { frames := 0, cells := 0, slots := 0, locals := 0 }
set_option maxHeartbeats 1000000 in
set_option maxRecDepth 100000 in
theorem c_X5_clearText (l : Launch) (D : va_G) (cI cT : ClassId) (ad : Nat → Nat) (th sv ln vs rl cm fi se : Int32) (z zs sd tx ds rg : Nat → Int32) (F : FF) (Q0 : QQ) (HS : List (FF × QQ)) (sg : Nat → Nat) (len n : Nat) (hL : LZ n (F, Q0, HS, sg, len) z sd tx) (hn : n + 80 < 2 ^ 31) : CN l D cI cT yX5_clearText wsX5_clearText rX5_clearText [.ref (ad 0)] (refW cI ad th (nI HS.length) (nI len) vs rl cm fi se z zs sd tx ds rg) (S := JR) (fun v u => v = (opClear (F, Q0, HS, sg, len)).2.1 ∧ u.1 = nI (opClear (F, Q0, HS, sg, len)).1 ∧ LZu (n + 80) (opClear (F, Q0, HS, sg, len)).2.2 u) (fun u => rfW cI ad (opClear (F, Q0, HS, sg, len)).2.2 u) := by
  refine CN.of (cc := cX5_clearText) (maxL := 2) (ret := (some .int)) (by decide) rfl (Nat.le_of_ble_eq_true rfl) ?_
  intro p e s m args below meth c A Q hQ B hA H locs hP hK hD hS ls hl
  obtain ⟨hx, hb, hml, hrt, hts, hown, hlk⟩ := B
  have hP : va_P D vwCl ([(ad 0, .inr (5, [.int th, .ref (ad 1), .ref (ad 2), .ref (ad 3), .int (nI HS.length), .ref (ad 4), .int (nI len), .int vs, .ref (ad 5), .ref (ad 6), .int rl, .int cm, .int fi, .int se])), (ad 1, .inl (cI, 221, .inl z)), (ad 2, .inl (cI, 221, .inl zs)), (ad 3, .inl (cI, 1768, .inl sd)), (ad 4, .inl (cI, 80, .inl tx)), (ad 5, .inl (cI, 8, .inl ds)), (ad 6, .inl (cI, 8, .inl rg))]) H := hP
  have hD : va_D A ([(ad 0, .inr (5, [.int th, .ref (ad 1), .ref (ad 2), .ref (ad 3), .int (nI HS.length), .ref (ad 4), .int (nI len), .int vs, .ref (ad 5), .ref (ad 6), .int rl, .int cm, .int fi, .int se])), (ad 1, .inl (cI, 221, .inl z)), (ad 2, .inl (cI, 221, .inl zs)), (ad 3, .inl (cI, 1768, .inl sd)), (ad 4, .inl (cI, 80, .inl tx)), (ad 5, .inl (cI, 8, .inl ds)), (ad 6, .inl (cI, 8, .inl rg))]) := hD
  have hl : lv_has ls 2 [(0, .ref (ad 0))] := hl
  obtain ⟨hJ, hC, hZ, hl8, hH, hHS, hlen, htx, hsg⟩ := hL
  dsimp only at hJ hC hZ hl8 hH hHS hlen htx hsg
  have hL := LZ_mk hJ hC hZ hl8 hH hHS hlen htx hsg
  have hB := hC.jb
  have hn8 := hC.n8 (by omega)
  have hHJ : ∀ q ∈ HS, JJ q.1 q.2 := fun q hq => (hHS q hq).1
  have iX5 : ∀ w ∈ u_ws RX5 TX5 14, w ∈ wsX5_clearText := by decide +kernel
  have f32 := hts (.fieldLink RX5 32 "LockManagerModel" "thrown" "I") (by decide +kernel)
  have f168 := hts (.fieldLink RX5 168 "LockManagerModel" "length" "I") (by decide +kernel)
  refine lv_aload_n hx hb dX5_clearText_0 rfl (lv_at hl 0 rfl) ?_
  refine lv_iconst (v := (nI 0)) hx hb dX5_clearText_1 (by decide) ?_
  refine va_put (D := D) (ci := 5) (v := .int (nI 0)) (ty := .int) (C := RX5) (T := TX5) (N := 14) hx hb hts iX5 tyX5 tyX5_ok nmX5 hown hK hP hD hS 0 rfl rfl 0 (by decide) f32 (fun _ h9 => h9) rfl (by decide +kernel) rfl rfl (Nat.le_of_ble_eq_true rfl) dX5_clearText_2 (fun H locs hP hD hS => ?_)
  have hP : va_P D vwCl ([(ad 0, .inr (5, [.int (nI 0), .ref (ad 1), .ref (ad 2), .ref (ad 3), .int (nI HS.length), .ref (ad 4), .int (nI len), .int vs, .ref (ad 5), .ref (ad 6), .int rl, .int cm, .int fi, .int se])), (ad 1, .inl (cI, 221, .inl z)), (ad 2, .inl (cI, 221, .inl zs)), (ad 3, .inl (cI, 1768, .inl sd)), (ad 4, .inl (cI, 80, .inl tx)), (ad 5, .inl (cI, 8, .inl ds)), (ad 6, .inl (cI, 8, .inl rg))]) H := hP
  have hD : va_D A ([(ad 0, .inr (5, [.int (nI 0), .ref (ad 1), .ref (ad 2), .ref (ad 3), .int (nI HS.length), .ref (ad 4), .int (nI len), .int vs, .ref (ad 5), .ref (ad 6), .int rl, .int cm, .int fi, .int se])), (ad 1, .inl (cI, 221, .inl z)), (ad 2, .inl (cI, 221, .inl zs)), (ad 3, .inl (cI, 1768, .inl sd)), (ad 4, .inl (cI, 80, .inl tx)), (ad 5, .inl (cI, 8, .inl ds)), (ad 6, .inl (cI, 8, .inl rg))]) := hD
  refine lv_aload_n hx hb dX5_clearText_5 rfl (lv_at hl 0 rfl) ?_
  refine va_get (D := D) (ci := 5) (v := .int (nI len)) (C := RX5) (T := TX5) (N := 14) hx hb hts iX5 hown hK hP 0 rfl rfl 6 (by decide) f168 (fun _ h9 => h9) rfl dX5_clearText_6 ?_
  refine lv_istore_n (lv' := [(1, .int (nI len)), (0, .ref (ad 0))]) hx hb dX5_clearText_9 rfl hl (by decide) rfl (fun ls hl => ?_)
  refine lv_aload_n hx hb dX5_clearText_10 rfl (lv_at hl 1 rfl) ?_
  refine lv_iconst (v := (nI 0)) hx hb dX5_clearText_11 (by decide) ?_
  refine va_put (D := D) (ci := 5) (v := .int (nI 0)) (ty := .int) (C := RX5) (T := TX5) (N := 14) hx hb hts iX5 tyX5 tyX5_ok nmX5 hown hK hP hD hS 0 rfl rfl 6 (by decide) f168 (fun _ h9 => h9) rfl (by decide +kernel) rfl rfl (Nat.le_of_ble_eq_true rfl) dX5_clearText_12 (fun H locs hP hD hS => ?_)
  have hP : va_P D vwCl ([(ad 0, .inr (5, [.int (nI 0), .ref (ad 1), .ref (ad 2), .ref (ad 3), .int (nI HS.length), .ref (ad 4), .int (nI 0), .int vs, .ref (ad 5), .ref (ad 6), .int rl, .int cm, .int fi, .int se])), (ad 1, .inl (cI, 221, .inl z)), (ad 2, .inl (cI, 221, .inl zs)), (ad 3, .inl (cI, 1768, .inl sd)), (ad 4, .inl (cI, 80, .inl tx)), (ad 5, .inl (cI, 8, .inl ds)), (ad 6, .inl (cI, 8, .inl rg))]) H := hP
  have hD : va_D A ([(ad 0, .inr (5, [.int (nI 0), .ref (ad 1), .ref (ad 2), .ref (ad 3), .int (nI HS.length), .ref (ad 4), .int (nI 0), .int vs, .ref (ad 5), .ref (ad 6), .int rl, .int cm, .int fi, .int se])), (ad 1, .inl (cI, 221, .inl z)), (ad 2, .inl (cI, 221, .inl zs)), (ad 3, .inl (cI, 1768, .inl sd)), (ad 4, .inl (cI, 80, .inl tx)), (ad 5, .inl (cI, 8, .inl ds)), (ad 6, .inl (cI, 8, .inl rg))]) := hD
  refine lv_iload_n hx hb dX5_clearText_15 rfl (lv_at hl 0 rfl) ?_
  exact ret_i (u := ((nI 0), vs, rl, cm, fi, se, z, zs, sd, tx, ds, rg)) hQ hx hb hrt hlk hS dX5_clearText_16 hP ⟨rfl, rfl, (LZ_mk hJ (hC.mono (by omega)) hZ hl8 hH (all_mono (by omega) hHS) (Nat.zero_le _) (fun i hi => absurd hi (Nat.not_lt_zero _)) hsg)⟩

abbrev rX5_errorPosition : Room := { frames := 5, cells := 0, slots := 0, locals := 110 }
set_option maxHeartbeats 1000000 in
set_option maxRecDepth 100000 in
theorem c_X5_errorPosition (l : Launch) (D : va_G) (cI cT : ClassId) (ad : Nat → Nat) (th sv ln vs rl cm fi se : Int32) (z zs sd tx ds rg : Nat → Int32) (F : FF) (Q0 : QQ) (HS : List (FF × QQ)) (sg : Nat → Nat) (len n : Nat) (hL : LZ n (F, Q0, HS, sg, len) z sd tx) (hn : n + 80 < 2 ^ 31) : CN l D cI cT yX5_errorPosition wsX5_errorPosition rX5_errorPosition [.ref (ad 0)] (refW cI ad th (nI HS.length) (nI len) vs rl cm fi se z zs sd tx ds rg) (S := JR) (fun v u => v = (opError (F, Q0, HS, sg, len)).2.1 ∧ u.1 = nI (opError (F, Q0, HS, sg, len)).1 ∧ LZu (n + 80) (opError (F, Q0, HS, sg, len)).2.2 u) (fun u => rfW cI ad (opError (F, Q0, HS, sg, len)).2.2 u) := by
  refine CN.of (cc := cX5_errorPosition) (maxL := 1) (ret := (some .int)) (by decide) rfl (Nat.le_of_ble_eq_true rfl) ?_
  intro p e s m args below meth c A Q hQ B hA H locs hP hK hD hS ls hl
  obtain ⟨hx, hb, hml, hrt, hts, hown, hlk⟩ := B
  have hP : va_P D vwCl ([(ad 0, .inr (5, [.int th, .ref (ad 1), .ref (ad 2), .ref (ad 3), .int (nI HS.length), .ref (ad 4), .int (nI len), .int vs, .ref (ad 5), .ref (ad 6), .int rl, .int cm, .int fi, .int se])), (ad 1, .inl (cI, 221, .inl z)), (ad 2, .inl (cI, 221, .inl zs)), (ad 3, .inl (cI, 1768, .inl sd)), (ad 4, .inl (cI, 80, .inl tx)), (ad 5, .inl (cI, 8, .inl ds)), (ad 6, .inl (cI, 8, .inl rg))]) H := hP
  have hD : va_D A ([(ad 0, .inr (5, [.int th, .ref (ad 1), .ref (ad 2), .ref (ad 3), .int (nI HS.length), .ref (ad 4), .int (nI len), .int vs, .ref (ad 5), .ref (ad 6), .int rl, .int cm, .int fi, .int se])), (ad 1, .inl (cI, 221, .inl z)), (ad 2, .inl (cI, 221, .inl zs)), (ad 3, .inl (cI, 1768, .inl sd)), (ad 4, .inl (cI, 80, .inl tx)), (ad 5, .inl (cI, 8, .inl ds)), (ad 6, .inl (cI, 8, .inl rg))]) := hD
  have hl : lv_has ls 1 [(0, .ref (ad 0))] := hl
  obtain ⟨hJ, hC, hZ, hl8, hH, hHS, hlen, htx, hsg⟩ := hL
  dsimp only at hJ hC hZ hl8 hH hHS hlen htx hsg
  have hL := LZ_mk hJ hC hZ hl8 hH hHS hlen htx hsg
  have hB := hC.jb
  have hn8 := hC.n8 (by omega)
  have hHJ : ∀ q ∈ HS, JJ q.1 q.2 := fun q hq => (hHS q hq).1
  have iX5 : ∀ w ∈ u_ws RX5 TX5 14, w ∈ wsX5_errorPosition := by decide +kernel
  have f32 := hts (.fieldLink RX5 32 "LockManagerModel" "thrown" "I") (by decide +kernel)
  refine lv_aload_n hx hb dX5_errorPosition_0 rfl (lv_at hl 0 rfl) ?_
  refine lv_iconst (v := (nI 0)) hx hb dX5_errorPosition_1 (by decide) ?_
  refine va_put (D := D) (ci := 5) (v := .int (nI 0)) (ty := .int) (C := RX5) (T := TX5) (N := 14) hx hb hts iX5 tyX5 tyX5_ok nmX5 hown hK hP hD hS 0 rfl rfl 0 (by decide) f32 (fun _ h9 => h9) rfl (by decide +kernel) rfl rfl (Nat.le_of_ble_eq_true rfl) dX5_errorPosition_2 (fun H locs hP hD hS => ?_)
  have hP : va_P D vwCl ([(ad 0, .inr (5, [.int (nI 0), .ref (ad 1), .ref (ad 2), .ref (ad 3), .int (nI HS.length), .ref (ad 4), .int (nI len), .int vs, .ref (ad 5), .ref (ad 6), .int rl, .int cm, .int fi, .int se])), (ad 1, .inl (cI, 221, .inl z)), (ad 2, .inl (cI, 221, .inl zs)), (ad 3, .inl (cI, 1768, .inl sd)), (ad 4, .inl (cI, 80, .inl tx)), (ad 5, .inl (cI, 8, .inl ds)), (ad 6, .inl (cI, 8, .inl rg))]) H := hP
  have hD : va_D A ([(ad 0, .inr (5, [.int (nI 0), .ref (ad 1), .ref (ad 2), .ref (ad 3), .int (nI HS.length), .ref (ad 4), .int (nI len), .int vs, .ref (ad 5), .ref (ad 6), .int rl, .int cm, .int fi, .int se])), (ad 1, .inl (cI, 221, .inl z)), (ad 2, .inl (cI, 221, .inl zs)), (ad 3, .inl (cI, 1768, .inl sd)), (ad 4, .inl (cI, 80, .inl tx)), (ad 5, .inl (cI, 8, .inl ds)), (ad 6, .inl (cI, 8, .inl rg))]) := hD
  refine lv_aload_n hx hb dX5_errorPosition_5 rfl (lv_at hl 0 rfl) ?_
  refine call_i (X := []) (Z := []) (As := []) (rest := []) ⟨hx, hb, hml, hown, hts⟩ (c_X5_findError l D cI cT ad (nI 0) (nI HS.length) (nI len) vs rl cm fi se z zs sd tx ds rg sg len hlen htx hsg) (cwV 0 hts gX5_errorPosition_X5_findError rfl rfl rfl (by decide +kernel) ⟨Nat.le_of_ble_eq_true rfl, Nat.le_of_ble_eq_true rfl⟩) hK hP hD hS hA (va_recv hK hP (ci := 5) (q0 := 0) rfl rfl) (fun _ => adr_ref.trans adr_ref.symm) rfl hl.1 rfl (Nat.le_of_ble_eq_true rfl) ⟨by decide, by decide⟩ dX5_errorPosition_6 (fun rv u52 H locs hp hP hD hS => ?_)
  obtain rfl := hp
  have hP : va_P D vwCl ([(ad 0, .inr (5, [.int (nI 0), .ref (ad 1), .ref (ad 2), .ref (ad 3), .int (nI HS.length), .ref (ad 4), .int (nI len), .int vs, .ref (ad 5), .ref (ad 6), .int rl, .int u52.1, .int u52.2.1, .int u52.2.2])), (ad 1, .inl (cI, 221, .inl z)), (ad 2, .inl (cI, 221, .inl zs)), (ad 3, .inl (cI, 1768, .inl sd)), (ad 4, .inl (cI, 80, .inl tx)), (ad 5, .inl (cI, 8, .inl ds)), (ad 6, .inl (cI, 8, .inl rg))]) H := hP
  have hD : va_D A ([(ad 0, .inr (5, [.int (nI 0), .ref (ad 1), .ref (ad 2), .ref (ad 3), .int (nI HS.length), .ref (ad 4), .int (nI len), .int vs, .ref (ad 5), .ref (ad 6), .int rl, .int u52.1, .int u52.2.1, .int u52.2.2])), (ad 1, .inl (cI, 221, .inl z)), (ad 2, .inl (cI, 221, .inl zs)), (ad 3, .inl (cI, 1768, .inl sd)), (ad 4, .inl (cI, 80, .inl tx)), (ad 5, .inl (cI, 8, .inl ds)), (ad 6, .inl (cI, 8, .inl rg))]) := hD
  exact ret_i (u := ((nI 0), vs, rl, u52.1, u52.2.1, u52.2.2, z, zs, sd, tx, ds, rg)) hQ hx hb hrt hlk hS dX5_errorPosition_9 hP ⟨rfl, rfl, (LZ.mono hL (by omega))⟩

abbrev rX5_thrown : Room := { frames := 0, cells := 0, slots := 0, locals := 0 }
set_option maxHeartbeats 1000000 in
set_option maxRecDepth 100000 in
theorem c_X5_thrown (l : Launch) (D : va_G) (cI cT : ClassId) (ad : Nat → Nat) (th sv ln vs rl cm fi se : Int32) (z zs sd tx ds rg : Nat → Int32)  : CN l D cI cT yX5_thrown wsX5_thrown rX5_thrown [.ref (ad 0)] (refW cI ad th sv ln vs rl cm fi se z zs sd tx ds rg) (S := Unit) (fun v _ => v = th) (fun _ => refW cI ad th sv ln vs rl cm fi se z zs sd tx ds rg) := by
  refine CN.of (cc := cX5_thrown) (maxL := 1) (ret := (some .int)) (by decide) rfl (Nat.le_of_ble_eq_true rfl) ?_
  intro p e s m args below meth c A Q hQ B hA H locs hP hK hD hS ls hl
  obtain ⟨hx, hb, hml, hrt, hts, hown, hlk⟩ := B
  have hP : va_P D vwCl ([(ad 0, .inr (5, [.int th, .ref (ad 1), .ref (ad 2), .ref (ad 3), .int sv, .ref (ad 4), .int ln, .int vs, .ref (ad 5), .ref (ad 6), .int rl, .int cm, .int fi, .int se])), (ad 1, .inl (cI, 221, .inl z)), (ad 2, .inl (cI, 221, .inl zs)), (ad 3, .inl (cI, 1768, .inl sd)), (ad 4, .inl (cI, 80, .inl tx)), (ad 5, .inl (cI, 8, .inl ds)), (ad 6, .inl (cI, 8, .inl rg))]) H := hP
  have hD : va_D A ([(ad 0, .inr (5, [.int th, .ref (ad 1), .ref (ad 2), .ref (ad 3), .int sv, .ref (ad 4), .int ln, .int vs, .ref (ad 5), .ref (ad 6), .int rl, .int cm, .int fi, .int se])), (ad 1, .inl (cI, 221, .inl z)), (ad 2, .inl (cI, 221, .inl zs)), (ad 3, .inl (cI, 1768, .inl sd)), (ad 4, .inl (cI, 80, .inl tx)), (ad 5, .inl (cI, 8, .inl ds)), (ad 6, .inl (cI, 8, .inl rg))]) := hD
  have hl : lv_has ls 1 [(0, .ref (ad 0))] := hl
  have iX5 : ∀ w ∈ u_ws RX5 TX5 14, w ∈ wsX5_thrown := by decide +kernel
  have f32 := hts (.fieldLink RX5 32 "LockManagerModel" "thrown" "I") (by decide +kernel)
  refine lv_aload_n hx hb dX5_thrown_0 rfl (lv_at hl 0 rfl) ?_
  refine va_get (D := D) (ci := 5) (v := .int th) (C := RX5) (T := TX5) (N := 14) hx hb hts iX5 hown hK hP 0 rfl rfl 0 (by decide) f32 (fun _ h9 => h9) rfl dX5_thrown_1 ?_
  exact ret_i (u := ()) hQ hx hb hrt hlk hS dX5_thrown_4 hP rfl

abbrev rX5_runText : Room := { frames := 8, cells := 0, slots := 0, locals := 183 }
set_option maxHeartbeats 1000000 in
set_option maxRecDepth 100000 in
theorem c_X5_runText (l : Launch) (D : va_G) (cI cT : ClassId) (ad : Nat → Nat) (th sv ln vs rl cm fi se : Int32) (z zs sd tx ds rg : Nat → Int32) (F : FF) (Q0 : QQ) (HS : List (FF × QQ)) (sg : Nat → Nat) (len n : Nat) (hL : LZ n (F, Q0, HS, sg, len) z sd tx) (hn : n + 80 < 2 ^ 31) : CN l D cI cT yX5_runText wsX5_runText rX5_runText [.ref (ad 0)] (refW cI ad th (nI HS.length) (nI len) vs rl cm fi se z zs sd tx ds rg) (S := JR) (fun v u => v = (opRun (F, Q0, HS, sg, len)).2.1 ∧ u.1 = nI (opRun (F, Q0, HS, sg, len)).1 ∧ LZu (n + 80) (opRun (F, Q0, HS, sg, len)).2.2 u) (fun u => rfW cI ad (opRun (F, Q0, HS, sg, len)).2.2 u) := by
  refine CN.of (cc := cX5_runText) (maxL := 4) (ret := (some .int)) (by decide) rfl (Nat.le_of_ble_eq_true rfl) ?_
  intro p e s m args below meth c A Q hQ B hA H locs hP hK hD hS ls hl
  obtain ⟨hx, hb, hml, hrt, hts, hown, hlk⟩ := B
  have hP : va_P D vwCl ([(ad 0, .inr (5, [.int th, .ref (ad 1), .ref (ad 2), .ref (ad 3), .int (nI HS.length), .ref (ad 4), .int (nI len), .int vs, .ref (ad 5), .ref (ad 6), .int rl, .int cm, .int fi, .int se])), (ad 1, .inl (cI, 221, .inl z)), (ad 2, .inl (cI, 221, .inl zs)), (ad 3, .inl (cI, 1768, .inl sd)), (ad 4, .inl (cI, 80, .inl tx)), (ad 5, .inl (cI, 8, .inl ds)), (ad 6, .inl (cI, 8, .inl rg))]) H := hP
  have hD : va_D A ([(ad 0, .inr (5, [.int th, .ref (ad 1), .ref (ad 2), .ref (ad 3), .int (nI HS.length), .ref (ad 4), .int (nI len), .int vs, .ref (ad 5), .ref (ad 6), .int rl, .int cm, .int fi, .int se])), (ad 1, .inl (cI, 221, .inl z)), (ad 2, .inl (cI, 221, .inl zs)), (ad 3, .inl (cI, 1768, .inl sd)), (ad 4, .inl (cI, 80, .inl tx)), (ad 5, .inl (cI, 8, .inl ds)), (ad 6, .inl (cI, 8, .inl rg))]) := hD
  have hl : lv_has ls 4 [(0, .ref (ad 0))] := hl
  obtain ⟨hJ, hC, hZ, hl8, hH, hHS, hlen, htx, hsg⟩ := hL
  dsimp only at hJ hC hZ hl8 hH hHS hlen htx hsg
  have hL := LZ_mk hJ hC hZ hl8 hH hHS hlen htx hsg
  have hB := hC.jb
  have hn8 := hC.n8 (by omega)
  have hHJ : ∀ q ∈ HS, JJ q.1 q.2 := fun q hq => (hHS q hq).1
  have iX5 : ∀ w ∈ u_ws RX5 TX5 14, w ∈ wsX5_runText := by decide +kernel
  have f32 := hts (.fieldLink RX5 32 "LockManagerModel" "thrown" "I") (by decide +kernel)
  have f168 := hts (.fieldLink RX5 168 "LockManagerModel" "length" "I") (by decide +kernel)
  refine lv_aload_n hx hb dX5_runText_0 rfl (lv_at hl 0 rfl) ?_
  refine lv_aload_n hx hb dX5_runText_1 rfl (lv_at hl 0 rfl) ?_
  refine call_i (X := []) (Z := []) (As := []) (rest := [.ref (ad 0)]) ⟨hx, hb, hml, hown, hts⟩ (c_X5_findError l D cI cT ad th (nI HS.length) (nI len) vs rl cm fi se z zs sd tx ds rg sg len hlen htx hsg) (cwV 0 hts gX5_runText_X5_findError rfl rfl rfl (by decide +kernel) ⟨Nat.le_of_ble_eq_true rfl, Nat.le_of_ble_eq_true rfl⟩) hK hP hD hS hA (va_recv hK hP (ci := 5) (q0 := 0) rfl rfl) (fun _ => adr_ref.trans adr_ref.symm) rfl hl.1 rfl (Nat.le_of_ble_eq_true rfl) ⟨by decide, by decide⟩ dX5_runText_2 (fun rv u53 H locs hp hP hD hS => ?_)
  obtain rfl := hp
  have hP : va_P D vwCl ([(ad 0, .inr (5, [.int th, .ref (ad 1), .ref (ad 2), .ref (ad 3), .int (nI HS.length), .ref (ad 4), .int (nI len), .int vs, .ref (ad 5), .ref (ad 6), .int rl, .int u53.1, .int u53.2.1, .int u53.2.2])), (ad 1, .inl (cI, 221, .inl z)), (ad 2, .inl (cI, 221, .inl zs)), (ad 3, .inl (cI, 1768, .inl sd)), (ad 4, .inl (cI, 80, .inl tx)), (ad 5, .inl (cI, 8, .inl ds)), (ad 6, .inl (cI, 8, .inl rg))]) H := hP
  have hD : va_D A ([(ad 0, .inr (5, [.int th, .ref (ad 1), .ref (ad 2), .ref (ad 3), .int (nI HS.length), .ref (ad 4), .int (nI len), .int vs, .ref (ad 5), .ref (ad 6), .int rl, .int u53.1, .int u53.2.1, .int u53.2.2])), (ad 1, .inl (cI, 221, .inl z)), (ad 2, .inl (cI, 221, .inl zs)), (ad 3, .inl (cI, 1768, .inl sd)), (ad 4, .inl (cI, 80, .inl tx)), (ad 5, .inl (cI, 8, .inl ds)), (ad 6, .inl (cI, 8, .inl rg))]) := hD
  refine lv_iconst (v := (-1)) hx hb dX5_runText_5 (by decide) ?_
  refine lv_icmp_ne (tgt := 13) hx hb dX5_runText_6 (by decide) (fun h_1 => ?_) (fun h_1 => ?_)
  · have h_1 := h_1
    refine lv_iconst (v := (nI 1)) hx hb dX5_runText_13 (by decide) ?_
    refine va_put (D := D) (ci := 5) (v := .int (nI 1)) (ty := .int) (C := RX5) (T := TX5) (N := 14) hx hb hts iX5 tyX5 tyX5_ok nmX5 hown hK hP hD hS 0 rfl rfl 0 (by decide) f32 (fun _ h9 => h9) rfl (by decide +kernel) rfl rfl (Nat.le_of_ble_eq_true rfl) dX5_runText_14 (fun H locs hP hD hS => ?_)
    have hP : va_P D vwCl ([(ad 0, .inr (5, [.int (nI 1), .ref (ad 1), .ref (ad 2), .ref (ad 3), .int (nI HS.length), .ref (ad 4), .int (nI len), .int vs, .ref (ad 5), .ref (ad 6), .int rl, .int u53.1, .int u53.2.1, .int u53.2.2])), (ad 1, .inl (cI, 221, .inl z)), (ad 2, .inl (cI, 221, .inl zs)), (ad 3, .inl (cI, 1768, .inl sd)), (ad 4, .inl (cI, 80, .inl tx)), (ad 5, .inl (cI, 8, .inl ds)), (ad 6, .inl (cI, 8, .inl rg))]) H := hP
    have hD : va_D A ([(ad 0, .inr (5, [.int (nI 1), .ref (ad 1), .ref (ad 2), .ref (ad 3), .int (nI HS.length), .ref (ad 4), .int (nI len), .int vs, .ref (ad 5), .ref (ad 6), .int rl, .int u53.1, .int u53.2.1, .int u53.2.2])), (ad 1, .inl (cI, 221, .inl z)), (ad 2, .inl (cI, 221, .inl zs)), (ad 3, .inl (cI, 1768, .inl sd)), (ad 4, .inl (cI, 80, .inl tx)), (ad 5, .inl (cI, 8, .inl ds)), (ad 6, .inl (cI, 8, .inl rg))]) := hD
    refine lv_aload_n hx hb dX5_runText_17 rfl (lv_at hl 0 rfl) ?_
    refine va_get (D := D) (ci := 5) (v := .int (nI 1)) (C := RX5) (T := TX5) (N := 14) hx hb hts iX5 hown hK hP 0 rfl rfl 0 (by decide) f32 (fun _ h9 => h9) rfl dX5_runText_18 ?_
    refine lv_if_le (tgt := 26) hx hb dX5_runText_21 (by decide) (fun h => absurd h (by decide)) (fun _ => ?_)
    refine lv_iconst (v := (nI 0)) hx hb dX5_runText_24 (by decide) ?_
    exact ret_i (u := ((nI 1), vs, rl, u53.1, u53.2.1, u53.2.2, z, zs, sd, tx, ds, rg)) hQ hx hb hrt hlk hS dX5_runText_25 (by rw [opRun_1 h_1]; exact hP) (by rw [opRun_1 h_1]; exact ⟨rfl, rfl, (LZ.mono hL (by omega))⟩)
  · have h_1 := h_1
    refine lv_iconst (v := (nI 0)) hx hb dX5_runText_9 (by decide) ?_
    refine lv_goto (tgt := 14) hx hb dX5_runText_10 (by decide) ?_
    refine va_put (D := D) (ci := 5) (v := .int (nI 0)) (ty := .int) (C := RX5) (T := TX5) (N := 14) hx hb hts iX5 tyX5 tyX5_ok nmX5 hown hK hP hD hS 0 rfl rfl 0 (by decide) f32 (fun _ h9 => h9) rfl (by decide +kernel) rfl rfl (Nat.le_of_ble_eq_true rfl) dX5_runText_14 (fun H locs hP hD hS => ?_)
    have hP : va_P D vwCl ([(ad 0, .inr (5, [.int (nI 0), .ref (ad 1), .ref (ad 2), .ref (ad 3), .int (nI HS.length), .ref (ad 4), .int (nI len), .int vs, .ref (ad 5), .ref (ad 6), .int rl, .int u53.1, .int u53.2.1, .int u53.2.2])), (ad 1, .inl (cI, 221, .inl z)), (ad 2, .inl (cI, 221, .inl zs)), (ad 3, .inl (cI, 1768, .inl sd)), (ad 4, .inl (cI, 80, .inl tx)), (ad 5, .inl (cI, 8, .inl ds)), (ad 6, .inl (cI, 8, .inl rg))]) H := hP
    have hD : va_D A ([(ad 0, .inr (5, [.int (nI 0), .ref (ad 1), .ref (ad 2), .ref (ad 3), .int (nI HS.length), .ref (ad 4), .int (nI len), .int vs, .ref (ad 5), .ref (ad 6), .int rl, .int u53.1, .int u53.2.1, .int u53.2.2])), (ad 1, .inl (cI, 221, .inl z)), (ad 2, .inl (cI, 221, .inl zs)), (ad 3, .inl (cI, 1768, .inl sd)), (ad 4, .inl (cI, 80, .inl tx)), (ad 5, .inl (cI, 8, .inl ds)), (ad 6, .inl (cI, 8, .inl rg))]) := hD
    refine lv_aload_n hx hb dX5_runText_17 rfl (lv_at hl 0 rfl) ?_
    refine va_get (D := D) (ci := 5) (v := .int (nI 0)) (C := RX5) (T := TX5) (N := 14) hx hb hts iX5 hown hK hP 0 rfl rfl 0 (by decide) f32 (fun _ h9 => h9) rfl dX5_runText_18 ?_
    refine lv_if_le (tgt := 26) hx hb dX5_runText_21 (by decide) (fun _ => ?_) (fun h => absurd (by decide) h)
    have hok := h_1
    have hfn := fe_none hlen hok (fun q hq => Nat.le_trans (fe_bd 80 0 q (Nat.zero_le _) hq) hlen)
    refine lv_aload_n hx hb dX5_runText_26 rfl (lv_at hl 0 rfl) ?_
    refine call_v (X := []) (Z := []) (As := []) (rest := []) ⟨hx, hb, hml, hown, hts⟩ (c_X5_save l D cI cT ad (nI 0) (nI HS.length) (nI len) vs rl u53.1 u53.2.1 u53.2.2 z zs sd tx ds rg F Q0 HS hl8 hHJ hH hZ hJ) (cwV 0 hts gX5_runText_X5_save rfl rfl rfl (by decide +kernel) ⟨Nat.le_of_ble_eq_true rfl, Nat.le_of_ble_eq_true rfl⟩) hK hP hD hS hA (va_recv hK hP (ci := 5) (q0 := 0) rfl rfl) (fun _ => adr_ref.trans adr_ref.symm) rfl hl.1 rfl (Nat.le_of_ble_eq_true rfl) ⟨by decide, by decide⟩ dX5_runText_27 (fun sd54 H locs hp hP hD hS => ?_)
    have hH54 := hp
    have hP : va_P D vwCl ([(ad 0, .inr (5, [.int (nI 0), .ref (ad 1), .ref (ad 2), .ref (ad 3), .int (nI ((pu F Q0 HS).length)), .ref (ad 4), .int (nI len), .int vs, .ref (ad 5), .ref (ad 6), .int rl, .int u53.1, .int u53.2.1, .int u53.2.2])), (ad 1, .inl (cI, 221, .inl z)), (ad 2, .inl (cI, 221, .inl zs)), (ad 3, .inl (cI, 1768, .inl sd54)), (ad 4, .inl (cI, 80, .inl tx)), (ad 5, .inl (cI, 8, .inl ds)), (ad 6, .inl (cI, 8, .inl rg))]) H := hP
    have hD : va_D A ([(ad 0, .inr (5, [.int (nI 0), .ref (ad 1), .ref (ad 2), .ref (ad 3), .int (nI ((pu F Q0 HS).length)), .ref (ad 4), .int (nI len), .int vs, .ref (ad 5), .ref (ad 6), .int rl, .int u53.1, .int u53.2.1, .int u53.2.2])), (ad 1, .inl (cI, 221, .inl z)), (ad 2, .inl (cI, 221, .inl zs)), (ad 3, .inl (cI, 1768, .inl sd54)), (ad 4, .inl (cI, 80, .inl tx)), (ad 5, .inl (cI, 8, .inl ds)), (ad 6, .inl (cI, 8, .inl rg))]) := hD
    refine lv_iconst (v := (nI 0)) hx hb dX5_runText_30 (by decide) ?_
    refine lv_istore_n (lv' := [(1, .int (nI 0)), (0, .ref (ad 0))]) hx hb dX5_runText_31 rfl hl (by decide) rfl (fun ls hl => ?_)
    refine lv_iconst (v := (nI 0)) hx hb dX5_runText_32 (by decide) ?_
    refine lv_istore_n (lv' := [(2, .int (nI 0)), (1, .int (nI 0)), (0, .ref (ad 0))]) hx hb dX5_runText_33 rfl hl (by decide) rfl (fun ls hl => ?_)
    refine lv_iconst (v := (nI 1)) hx hb dX5_runText_34 (by decide) ?_
    refine lv_istore_n (lv' := [(3, .int (nI 1)), (2, .int (nI 0)), (1, .int (nI 0)), (0, .ref (ad 0))]) hx hb dX5_runText_35 rfl hl (by decide) rfl (fun ls hl => ?_)
    have L36 : ∀ (N : Nat) (i9 : Nat) (p9 : Nat) (q9 : Nat) (Fc : FF) (Qc : QQ) (y : Nat → Int32) (yd : Nat → Int32) (yr : Nat → Int32) (xl : Int32) (xv : Int32) (xc : Int32) (xf : Int32) (xs : Int32) (bg : Bool), (p9 ≤ len + 1) → (ruI sg len F Q0 i9 q9 Fc Qc) → (bg = true → p9 = q9 ∨ (p9 = len + 1 ∧ q9 = len)) → (q9 ≤ len) → (2 * i9 ≤ q9) → (bg = true → q9 = len ∨ ∃ m, feN sg len m q9 = none) → (bg = false → ruN sg len 80 0 F Q0 0 = (Fc, Qc, i9)) → (JJ Fc Qc) → (JC (n + i9) Fc) → (RZ Fc Qc y) → (2 * (90 - i9) + bg.toNat) < N → ∀ (H : Heap) (locs : List Loc), va_P D vwCl ([(ad 0, .inr (5, [.int (nI 0), .ref (ad 1), .ref (ad 2), .ref (ad 3), .int (nI ((pu F Q0 HS).length)), .ref (ad 4), .int (nI len), .int xv, .ref (ad 5), .ref (ad 6), .int xl, .int xc, .int xf, .int xs])), (ad 1, .inl (cI, 221, .inl y)), (ad 2, .inl (cI, 221, .inl zs)), (ad 3, .inl (cI, 1768, .inl sd54)), (ad 4, .inl (cI, 80, .inl tx)), (ad 5, .inl (cI, 8, .inl yd)), (ad 6, .inl (cI, 8, .inl yr))]) H → va_D A ([(ad 0, .inr (5, [.int (nI 0), .ref (ad 1), .ref (ad 2), .ref (ad 3), .int (nI ((pu F Q0 HS).length)), .ref (ad 4), .int (nI len), .int xv, .ref (ad 5), .ref (ad 6), .int xl, .int xc, .int xf, .int xs])), (ad 1, .inl (cI, 221, .inl y)), (ad 2, .inl (cI, 221, .inl zs)), (ad 3, .inl (cI, 1768, .inl sd54)), (ad 4, .inl (cI, 80, .inl tx)), (ad 5, .inl (cI, 8, .inl yd)), (ad 6, .inl (cI, 8, .inl yr))]) → va_S A s.heap H locs → ∀ ls : Array Slot, lv_has ls 4 [(0, .ref (ad 0)), (1, .int (nI i9)), (2, .int (nI p9)), (3, .int (nI bg.toNat))] → W p l e rX5_runText s m args below meth c H locs 0 0 Q (F0 m 36 ls []) := by
      intro N36
      induction N36 with
      | zero => intro i9 p9 q9 Fc Qc y yd yr xl xv xc xf xs bg hpb hI hpq hql h2 hfe hbg hJc hCc hYc hN; exact absurd hN (Nat.not_lt_zero _)
      | succ N36 ih36 =>
        intro i9 p9 q9 Fc Qc y yd yr xl xv xc xf xs bg hpb hI hpq hql h2 hfe hbg hJc hCc hYc hN H locs hP hD hS ls hl
        refine lv_iload_n hx hb dX5_runText_36 rfl (lv_at hl 3 rfl) ?_
        refine lv_if_eq (tgt := 84) hx hb dX5_runText_37 (by decide) (fun h_2 => ?_) (fun h_2 => ?_)
        · have h_2 := (nI_eq (a := bg.toNat) (b := 0) (by first | omega | exact bits_lt31 _ | exact bitN_lt _ _ | exact bool_lt _ | exact and_lt31 _ _ _ _ | exact Nat.lt_of_le_of_lt (dst_lt _ _ _ (by omega) _) (by decide) | exact Nat.lt_of_le_of_lt (nrB_le _ _ _ (by omega)).2 (by decide) | decide) (by first | omega | exact bits_lt31 _ | exact bitN_lt _ _ | exact bool_lt _ | exact and_lt31 _ _ _ _ | exact Nat.lt_of_le_of_lt (dst_lt _ _ _ (by omega) _) (by decide) | exact Nat.lt_of_le_of_lt (nrB_le _ _ _ (by omega)).2 (by decide) | decide)).mp h_2
          have h_2 := tn_f h_2
          refine lv_iload_n hx hb dX5_runText_84 rfl (lv_at hl 1 rfl) ?_
          have hE := hbg h_2
          have hRR : ruR (F, Q0, HS, sg, len) = (Fc, Qc, i9) := hE
          exact ret_i (u := ((nI 0), xv, xl, xc, xf, xs, y, zs, sd54, tx, yd, yr)) hQ hx hb hrt hlk hS dX5_runText_85 (by rw [opRun_0 (s := (F, Q0, HS, sg, len)) hok, hRR]; exact hP) (by rw [opRun_0 (s := (F, Q0, HS, sg, len)) hok, hRR]; exact ⟨rfl, rfl, (LZ_mk hJc (hCc.mono (by omega)) hYc pu_le hH54 (all_mono (by omega) (pu_all hJ hC hHS)) hlen htx hsg)⟩)
        · have h_2 := mt (nI_eq (a := bg.toNat) (b := 0) (by first | omega | exact bits_lt31 _ | exact bitN_lt _ _ | exact bool_lt _ | exact and_lt31 _ _ _ _ | exact Nat.lt_of_le_of_lt (dst_lt _ _ _ (by omega) _) (by decide) | exact Nat.lt_of_le_of_lt (nrB_le _ _ _ (by omega)).2 (by decide) | decide) (by first | omega | exact bits_lt31 _ | exact bitN_lt _ _ | exact bool_lt _ | exact and_lt31 _ _ _ _ | exact Nat.lt_of_le_of_lt (dst_lt _ _ _ (by omega) _) (by decide) | exact Nat.lt_of_le_of_lt (nrB_le _ _ _ (by omega)).2 (by decide) | decide)).mpr h_2
          have h_2 := tn_y h_2
          have hbt := h_2
          refine lv_iload_n hx hb dX5_runText_40 rfl (lv_at hl 2 rfl) ?_
          refine lv_aload_n hx hb dX5_runText_41 rfl (lv_at hl 0 rfl) ?_
          refine va_get (D := D) (ci := 5) (v := .int (nI len)) (C := RX5) (T := TX5) (N := 14) hx hb hts iX5 hown hK hP 0 rfl rfl 6 (by decide) f168 (fun _ h9 => h9) rfl dX5_runText_42 ?_
          refine lv_icmp_ge (tgt := 84) hx hb dX5_runText_45 (by decide) (fun h_3 => ?_) (fun h_3 => ?_)
          · have h_3 := (nI_leI (a := len) (b := p9) (by first | omega | exact bits_lt31 _ | exact bitN_lt _ _ | exact bool_lt _ | exact and_lt31 _ _ _ _ | exact Nat.lt_of_le_of_lt (dst_lt _ _ _ (by omega) _) (by decide) | exact Nat.lt_of_le_of_lt (nrB_le _ _ _ (by omega)).2 (by decide) | decide) (by first | omega | exact bits_lt31 _ | exact bitN_lt _ _ | exact bool_lt _ | exact and_lt31 _ _ _ _ | exact Nat.lt_of_le_of_lt (dst_lt _ _ _ (by omega) _) (by decide) | exact Nat.lt_of_le_of_lt (nrB_le _ _ _ (by omega)).2 (by decide) | decide)).mp h_3
            refine lv_iload_n hx hb dX5_runText_84 rfl (lv_at hl 1 rfl) ?_
            have hE := ruI_e (Or.inr (Or.inl (by rw [rc_k0 (rkB_n (by have := hpq h_2; omega))]))) hI
            have hRR : ruR (F, Q0, HS, sg, len) = (Fc, Qc, i9) := hE
            exact ret_i (u := ((nI 0), xv, xl, xc, xf, xs, y, zs, sd54, tx, yd, yr)) hQ hx hb hrt hlk hS dX5_runText_85 (by rw [opRun_0 (s := (F, Q0, HS, sg, len)) hok, hRR]; exact hP) (by rw [opRun_0 (s := (F, Q0, HS, sg, len)) hok, hRR]; exact ⟨rfl, rfl, (LZ_mk hJc (hCc.mono (by omega)) hYc pu_le hH54 (all_mono (by omega) (pu_all hJ hC hHS)) hlen htx hsg)⟩)
          · have h_3 := mt (nI_leI (a := len) (b := p9) (by first | omega | exact bits_lt31 _ | exact bitN_lt _ _ | exact bool_lt _ | exact and_lt31 _ _ _ _ | exact Nat.lt_of_le_of_lt (dst_lt _ _ _ (by omega) _) (by decide) | exact Nat.lt_of_le_of_lt (nrB_le _ _ _ (by omega)).2 (by decide) | decide) (by first | omega | exact bits_lt31 _ | exact bitN_lt _ _ | exact bool_lt _ | exact and_lt31 _ _ _ _ | exact Nat.lt_of_le_of_lt (dst_lt _ _ _ (by omega) _) (by decide) | exact Nat.lt_of_le_of_lt (nrB_le _ _ _ (by omega)).2 (by decide) | decide)).mpr h_3
            have hpq2 := hpq h_2
            have hpq9 : p9 = q9 := by omega
            obtain ⟨m9, hm9⟩ := (hfe h_2).resolve_left (by omega)
            rw [← hpq9] at hm9
            have hri := fe_inv hm9
            have hro := rc_ok hri.1
            have hle := rc_le (sg := sg) (len := len) (p := p9) (by omega)
            have hnx := nx_all (show p9 ≤ len by omega) hri.2
            refine lv_aload_n hx hb dX5_runText_48 rfl (lv_at hl 0 rfl) ?_
            refine lv_iload_n hx hb dX5_runText_49 rfl (lv_at hl 2 rfl) ?_
            refine call_i (X := []) (Z := []) (As := [.int (nI p9)]) (rest := []) ⟨hx, hb, hml, hown, hts⟩ (c_X5_readCommand l D cI cT ad (nI 0) (nI ((pu F Q0 HS).length)) (nI len) xv xl xc xf xs y zs sd54 tx yd yr sg len p9 (by omega) hlen htx hsg) (cwV 1 hts gX5_runText_X5_readCommand rfl rfl rfl (by decide +kernel) ⟨Nat.le_of_ble_eq_true rfl, Nat.le_of_ble_eq_true rfl⟩) hK hP hD hS hA (va_recv hK hP (ci := 5) (q0 := 0) rfl rfl) (fun _ => adr_ref.trans adr_ref.symm) rfl hl.1 rfl (Nat.le_of_ble_eq_true rfl) ⟨by decide, by decide⟩ dX5_runText_50 (fun rv u55 H locs hp hP hD hS => ?_)
            obtain ⟨rfl, hrc55⟩ := hp
            have hP : va_P D vwCl ([(ad 0, .inr (5, [.int (nI 0), .ref (ad 1), .ref (ad 2), .ref (ad 3), .int (nI ((pu F Q0 HS).length)), .ref (ad 4), .int (nI len), .int xv, .ref (ad 5), .ref (ad 6), .int xl, .int u55.1, .int u55.2.1, .int u55.2.2])), (ad 1, .inl (cI, 221, .inl y)), (ad 2, .inl (cI, 221, .inl zs)), (ad 3, .inl (cI, 1768, .inl sd54)), (ad 4, .inl (cI, 80, .inl tx)), (ad 5, .inl (cI, 8, .inl yd)), (ad 6, .inl (cI, 8, .inl yr))]) H := hP
            have hD : va_D A ([(ad 0, .inr (5, [.int (nI 0), .ref (ad 1), .ref (ad 2), .ref (ad 3), .int (nI ((pu F Q0 HS).length)), .ref (ad 4), .int (nI len), .int xv, .ref (ad 5), .ref (ad 6), .int xl, .int u55.1, .int u55.2.1, .int u55.2.2])), (ad 1, .inl (cI, 221, .inl y)), (ad 2, .inl (cI, 221, .inl zs)), (ad 3, .inl (cI, 1768, .inl sd54)), (ad 4, .inl (cI, 80, .inl tx)), (ad 5, .inl (cI, 8, .inl yd)), (ad 6, .inl (cI, 8, .inl yr))]) := hD
            refine tpe (y := nI (rcR sg len p9).2) (by rw [hri.1]; rfl) ?_
            have hu := hrc55 hri.1
            rw [hu.1, hu.2.1] at hP hD
            have hP : va_P D vwCl ([(ad 0, .inr (5, [.int (nI 0), .ref (ad 1), .ref (ad 2), .ref (ad 3), .int (nI ((pu F Q0 HS).length)), .ref (ad 4), .int (nI len), .int xv, .ref (ad 5), .ref (ad 6), .int xl, .int (nI (sg p9)), .int (nI (sg (p9 + 1) - 48)), .int u55.2.2])), (ad 1, .inl (cI, 221, .inl y)), (ad 2, .inl (cI, 221, .inl zs)), (ad 3, .inl (cI, 1768, .inl sd54)), (ad 4, .inl (cI, 80, .inl tx)), (ad 5, .inl (cI, 8, .inl yd)), (ad 6, .inl (cI, 8, .inl yr))]) H := hP
            have hD : va_D A ([(ad 0, .inr (5, [.int (nI 0), .ref (ad 1), .ref (ad 2), .ref (ad 3), .int (nI ((pu F Q0 HS).length)), .ref (ad 4), .int (nI len), .int xv, .ref (ad 5), .ref (ad 6), .int xl, .int (nI (sg p9)), .int (nI (sg (p9 + 1) - 48)), .int u55.2.2])), (ad 1, .inl (cI, 221, .inl y)), (ad 2, .inl (cI, 221, .inl zs)), (ad 3, .inl (cI, 1768, .inl sd54)), (ad 4, .inl (cI, 80, .inl tx)), (ad 5, .inl (cI, 8, .inl yd)), (ad 6, .inl (cI, 8, .inl yr))]) := hD
            refine lv_iconst (v := (nI 1)) hx hb dX5_runText_53 (by decide) ?_
            refine lv_iadd hx hb dX5_runText_54 ?_
            refine tpe (y := (nI ((rcR sg len p9).2 + 1))) (nI_add _ _) ?_
            refine lv_istore_n (lv' := [(2, .int (nI ((rcR sg len p9).2 + 1))), (0, .ref (ad 0)), (1, .int (nI i9)), (3, .int (nI bg.toNat))]) hx hb dX5_runText_55 rfl hl (by decide) rfl (fun ls hl => ?_)
            refine lv_aload_n hx hb dX5_runText_56 rfl (lv_at hl 1 rfl) ?_
            refine call_i (X := []) (Z := []) (As := []) (rest := []) ⟨hx, hb, hml, hown, hts⟩ (c_X5_whyNoCommand l D cI cT ad (nI 0) (nI ((pu F Q0 HS).length)) (nI len) xv xl (nI (sg p9)) (nI (sg (p9 + 1) - 48)) u55.2.2 y zs sd54 tx yd yr Fc Qc (sg p9) (sg (p9 + 1) - 48) (rcO sg len p9) u55.2.2 hro.1 hro.2.1 hu.2.2 hro.2.2.1 (fun h => rc_am hri.1 h) hYc) (cwV 0 hts gX5_runText_X5_whyNoCommand rfl rfl rfl (by decide +kernel) ⟨Nat.le_of_ble_eq_true rfl, Nat.le_of_ble_eq_true rfl⟩) hK hP hD hS hA (va_recv hK hP (ci := 5) (q0 := 0) rfl rfl) (fun _ => adr_ref.trans adr_ref.symm) rfl hl.1 rfl (Nat.le_of_ble_eq_true rfl) ⟨by decide, by decide⟩ dX5_runText_57 (fun rv w56 H locs hp hP hD hS => ?_)
            obtain ⟨rfl, hwl56, hwa56⟩ := hp
            have hP : va_P D vwCl ([(ad 0, .inr (5, [.int (nI 0), .ref (ad 1), .ref (ad 2), .ref (ad 3), .int (nI ((pu F Q0 HS).length)), .ref (ad 4), .int (nI len), .int xv, .ref (ad 5), .ref (ad 6), .int xl, .int (nI (sg p9)), .int (nI (sg (p9 + 1) - 48)), .int u55.2.2])), (ad 1, .inl (cI, 221, .inl y)), (ad 2, .inl (cI, 221, .inl zs)), (ad 3, .inl (cI, 1768, .inl sd54)), (ad 4, .inl (cI, 80, .inl tx)), (ad 5, .inl (cI, 8, .inl yd)), (ad 6, .inl (cI, 8, .inl yr))]) H := hP
            have hD : va_D A ([(ad 0, .inr (5, [.int (nI 0), .ref (ad 1), .ref (ad 2), .ref (ad 3), .int (nI ((pu F Q0 HS).length)), .ref (ad 4), .int (nI len), .int xv, .ref (ad 5), .ref (ad 6), .int xl, .int (nI (sg p9)), .int (nI (sg (p9 + 1) - 48)), .int u55.2.2])), (ad 1, .inl (cI, 221, .inl y)), (ad 2, .inl (cI, 221, .inl zs)), (ad 3, .inl (cI, 1768, .inl sd54)), (ad 4, .inl (cI, 80, .inl tx)), (ad 5, .inl (cI, 8, .inl yd)), (ad 6, .inl (cI, 8, .inl yr))]) := hD
            refine lv_if_ne (tgt := 67) hx hb dX5_runText_60 (by decide) (fun h_4 => ?_) (fun h_4 => ?_)
            · have h_4 := mt (nI_eq (a := w56) (b := 0) (by first | omega | exact bits_lt31 _ | exact bitN_lt _ _ | exact bool_lt _ | exact and_lt31 _ _ _ _ | exact Nat.lt_of_le_of_lt (dst_lt _ _ _ (by omega) _) (by decide) | exact Nat.lt_of_le_of_lt (nrB_le _ _ _ (by omega)).2 (by decide) | decide) (by first | omega | exact bits_lt31 _ | exact bitN_lt _ _ | exact bool_lt _ | exact and_lt31 _ _ _ _ | exact Nat.lt_of_le_of_lt (dst_lt _ _ _ (by omega) _) (by decide) | exact Nat.lt_of_le_of_lt (nrB_le _ _ _ (by omega)).2 (by decide) | decide)).mpr h_4
              refine lv_iconst (v := (nI 0)) hx hb dX5_runText_67 (by decide) ?_
              refine lv_istore_n (lv' := [(3, .int (nI 0)), (2, .int (nI ((rcR sg len p9).2 + 1))), (0, .ref (ad 0)), (1, .int (nI i9))]) hx hb dX5_runText_68 rfl hl (by decide) rfl (fun ls hl => ?_)
              refine lv_iload_n hx hb dX5_runText_69 rfl (lv_at hl 0 rfl) ?_
              refine lv_if_eq (tgt := 36) hx hb dX5_runText_70 (by decide) (fun _ => ?_) (fun h => absurd (by decide) h)
              rw [show (nI 0) = (nI false.toNat) from rfl] at hl
              exact ih36 i9 ((rcR sg len p9).2 + 1) q9 Fc Qc y yd yr xl xv ((nI (sg p9))) ((nI (sg (p9 + 1) - 48))) u55.2.2 false (by have := hle.2.1; omega) hI (fun e => by cases e) hql h2 (fun e => by cases e) (fun _ => ruI_e (Or.inr (Or.inr (by rw [← hpq9]; exact Bool.eq_false_iff.mpr (fun q => h_4 (hwa56.mpr q))))) hI) hJc hCc hYc (by simp only [hbt, Bool.toNat_true, Bool.toNat_false] at *; omega) _ _ hP hD hS _ (lv_sub hl [2, 3, 1, 0] rfl)
            · have h_4 := (nI_eq (a := w56) (b := 0) (by first | omega | exact bits_lt31 _ | exact bitN_lt _ _ | exact bool_lt _ | exact and_lt31 _ _ _ _ | exact Nat.lt_of_le_of_lt (dst_lt _ _ _ (by omega) _) (by decide) | exact Nat.lt_of_le_of_lt (nrB_le _ _ _ (by omega)).2 (by decide) | decide) (by first | omega | exact bits_lt31 _ | exact bitN_lt _ _ | exact bool_lt _ | exact and_lt31 _ _ _ _ | exact Nat.lt_of_le_of_lt (dst_lt _ _ _ (by omega) _) (by decide) | exact Nat.lt_of_le_of_lt (nrB_le _ _ _ (by omega)).2 (by decide) | decide)).mp h_4
              refine lv_iconst (v := (nI 1)) hx hb dX5_runText_63 (by decide) ?_
              refine lv_goto (tgt := 68) hx hb dX5_runText_64 (by decide) ?_
              refine lv_istore_n (lv' := [(3, .int (nI 1)), (2, .int (nI ((rcR sg len p9).2 + 1))), (0, .ref (ad 0)), (1, .int (nI i9))]) hx hb dX5_runText_68 rfl hl (by decide) rfl (fun ls hl => ?_)
              refine lv_iload_n hx hb dX5_runText_69 rfl (lv_at hl 0 rfl) ?_
              refine lv_if_eq (tgt := 36) hx hb dX5_runText_70 (by decide) (fun h => absurd h (by decide)) (fun _ => ?_)
              have ha := hwa56.mp h_4
              refine lv_aload_n hx hb dX5_runText_73 rfl (lv_at hl 2 rfl) ?_
              refine call_i (X := []) (Z := []) (As := []) (rest := []) ⟨hx, hb, hml, hown, hts⟩ (c_X5_doCommand l D cI cT ad (nI 0) (nI ((pu F Q0 HS).length)) (nI len) xv xl (nI (sg p9)) (nI (sg (p9 + 1) - 48)) u55.2.2 y zs sd54 tx yd yr Fc Qc (sg p9) (sg (p9 + 1) - 48) (rcO sg len p9) u55.2.2 hro.1 hro.2.1 hu.2.2 hro.2.2.1 (fun h => rc_am hri.1 h) ha hCc.jb (hCc.n8 (by omega)) hYc hJc) (cwV 0 hts gX5_runText_X5_doCommand rfl rfl rfl (by decide +kernel) ⟨Nat.le_of_ble_eq_true rfl, Nat.le_of_ble_eq_true rfl⟩) hK hP hD hS hA (va_recv hK hP (ci := 5) (q0 := 0) rfl rfl) (fun _ => adr_ref.trans adr_ref.symm) rfl hl.1 rfl (Nat.le_of_ble_eq_true rfl) ⟨by decide, by decide⟩ dX5_runText_74 (fun rv u57 H locs hp hP hD hS => ?_)
              have hZ57 := hp
              have hP : va_P D vwCl ([(ad 0, .inr (5, [.int (nI 0), .ref (ad 1), .ref (ad 2), .ref (ad 3), .int (nI ((pu F Q0 HS).length)), .ref (ad 4), .int (nI len), .int u57.2.2.2.2, .ref (ad 5), .ref (ad 6), .int u57.2.2.2.1, .int (nI (sg p9)), .int (nI (sg (p9 + 1) - 48)), .int u55.2.2])), (ad 1, .inl (cI, 221, .inl u57.1)), (ad 2, .inl (cI, 221, .inl zs)), (ad 3, .inl (cI, 1768, .inl sd54)), (ad 4, .inl (cI, 80, .inl tx)), (ad 5, .inl (cI, 8, .inl u57.2.1)), (ad 6, .inl (cI, 8, .inl u57.2.2.1))]) H := hP
              have hD : va_D A ([(ad 0, .inr (5, [.int (nI 0), .ref (ad 1), .ref (ad 2), .ref (ad 3), .int (nI ((pu F Q0 HS).length)), .ref (ad 4), .int (nI len), .int u57.2.2.2.2, .ref (ad 5), .ref (ad 6), .int u57.2.2.2.1, .int (nI (sg p9)), .int (nI (sg (p9 + 1) - 48)), .int u55.2.2])), (ad 1, .inl (cI, 221, .inl u57.1)), (ad 2, .inl (cI, 221, .inl zs)), (ad 3, .inl (cI, 1768, .inl sd54)), (ad 4, .inl (cI, 80, .inl tx)), (ad 5, .inl (cI, 8, .inl u57.2.1)), (ad 6, .inl (cI, 8, .inl u57.2.2.1))]) := hD
              refine lv_pop hx hb dX5_runText_77 rfl ?_
              refine lv_iinc (v := (nI (i9 + 1))) (lv' := [(1, .int (nI (i9 + 1))), (3, .int (nI 1)), (2, .int (nI ((rcR sg len p9).2 + 1))), (0, .ref (ad 0))]) hx hb dX5_runText_78 hl (k := 3) rfl (nI_add _ 1) (by decide) rfl (fun ls hl => ?_)
              refine lv_goto (tgt := 36) hx hb dX5_runText_81 (by decide) ?_
              rw [show (nI 1) = (nI true.toNat) from rfl] at hl
              exact ih36 (i9 + 1) ((rcR sg len p9).2 + 1) (nxQ sg len p9) (coF Fc Qc (sg p9) (sg (p9 + 1) - 48) (rcO sg len p9)) (coQ Fc Qc (sg p9) (sg (p9 + 1) - 48) (rcO sg len p9)) u57.1 u57.2.1 u57.2.2.1 u57.2.2.2.1 u57.2.2.2.2 ((nI (sg p9))) ((nI (sg (p9 + 1) - 48))) u55.2.2 true (by have := hle.2.1; omega) (by have hI2 := hI; rw [← hpq9] at hI2; exact ruI_s (by omega) hI2 hri.1 ha) (fun _ => hnx.1) hnx.2.1 (by have := hle.2.2 hri.1; have := hnx.2.2.1; omega) (fun _ => hnx.2.2.2) (fun e => by cases e) (JJ_co hJc hro.1 hro.2.1 hro.2.2.1 ha) (by have := JC_co hJc hCc (by omega) hro.1 hro.2.1 hro.2.2.1 ha; rw [Nat.add_assoc] at this; exact this) hZ57 (by simp only [hbt, Bool.toNat_true, Bool.toNat_false] at *; omega) _ _ hP hD hS _ (lv_sub hl [3, 0, 2, 1] rfl)
    rw [show (nI 1) = (nI true.toNat) from rfl] at hl
    exact L36 _ 0 0 0 F Q0 z ds rg rl vs u53.1 u53.2.1 u53.2.2 true (Nat.zero_le _) ruI_0 (fun _ => Or.inl rfl) (Nat.zero_le _) (Nat.le_refl _) (fun _ => Or.inr ⟨80, hfn⟩) (fun e => by cases e) hJ hC hZ (Nat.lt_succ_self _) _ _ hP hD hS _ (lv_sub hl [3, 2, 1, 0] rfl)

