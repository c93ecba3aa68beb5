abbrev rX5_waits : Room := { frames := 2, cells := 0, slots := 0, locals := 44 }
set_option maxHeartbeats 1000000 in
set_option maxRecDepth 100000 in
theorem c_X5_waits (l : Launch) (D : va_G) (cI cT : ClassId) (ad : Nat → Nat) (th sv ln vs rl cm fi se : Int32) (z zs sd tx ds rg : Nat → Int32) (F : FF) (Q0 : QQ) (t u : Nat) (ht : t < 8) (hu : u < 8) (hZ : RZ F Q0 z) (hJ : JJ F Q0) : CN l D cI cT yX5_waits wsX5_waits rX5_waits [.ref (ad 0), .int (nI t), .int (nI u)] (refW cI ad th sv ln vs rl cm fi se z zs sd tx ds rg) (S := Unit) (fun v _ => v = nI (awB F Q0 t u).toNat) (fun _ => refW cI ad th sv ln vs rl cm fi se z zs sd tx ds rg) := by
  refine CN.of (cc := cX5_waits) (maxL := 5) (ret := (some .boolean)) (by decide) rfl (Nat.le_of_ble_eq_true rfl) ?_
  intro p e s m args below meth c A Q hQ B hA H locs hP hK hD hS ls hl
  obtain ⟨hx, hb, hml, hrt, hts, hown, hlk⟩ := B
  have hP : va_P D vwCl ([(ad 0, .inr (5, [.int th, .ref (ad 1), .ref (ad 2), .ref (ad 3), .int sv, .ref (ad 4), .int ln, .int vs, .ref (ad 5), .ref (ad 6), .int rl, .int cm, .int fi, .int se])), (ad 1, .inl (cI, 221, .inl z)), (ad 2, .inl (cI, 221, .inl zs)), (ad 3, .inl (cI, 1768, .inl sd)), (ad 4, .inl (cI, 80, .inl tx)), (ad 5, .inl (cI, 8, .inl ds)), (ad 6, .inl (cI, 8, .inl rg))]) H := hP
  have hD : va_D A ([(ad 0, .inr (5, [.int th, .ref (ad 1), .ref (ad 2), .ref (ad 3), .int sv, .ref (ad 4), .int ln, .int vs, .ref (ad 5), .ref (ad 6), .int rl, .int cm, .int fi, .int se])), (ad 1, .inl (cI, 221, .inl z)), (ad 2, .inl (cI, 221, .inl zs)), (ad 3, .inl (cI, 1768, .inl sd)), (ad 4, .inl (cI, 80, .inl tx)), (ad 5, .inl (cI, 8, .inl ds)), (ad 6, .inl (cI, 8, .inl rg))]) := hD
  have hl : lv_has ls 5 [(0, .ref (ad 0)), (1, .int (nI t)), (2, .int (nI u))] := hl
  refine lv_aload_n hx hb dX5_waits_0 rfl (lv_at hl 0 rfl) ?_
  refine lv_iload_n hx hb dX5_waits_1 rfl (lv_at hl 1 rfl) ?_
  refine lv_iconst (v := (nI 0)) hx hb dX5_waits_2 (by decide) ?_
  refine call_i (X := []) (Z := []) (As := [.int (nI t), .int (nI 0)]) (rest := []) ⟨hx, hb, hml, hown, hts⟩ (c_X5_of l D cI cT ad th sv ln vs rl cm fi se z zs sd tx ds rg t 0 (by omega)) (cwV 2 hts gX5_waits_X5_of rfl rfl rfl (by decide +kernel) ⟨Nat.le_of_ble_eq_true rfl, Nat.le_of_ble_eq_true rfl⟩) hK hP hD hS hA (va_recv hK hP (ci := 5) (q0 := 0) rfl rfl) (fun _ => rfl) rfl hl.1 rfl (Nat.le_of_ble_eq_true rfl) ⟨by decide, by decide⟩ dX5_waits_3 (fun rv _ H locs hp hP hD hS => ?_)
  obtain rfl := hp
  have hP : va_P D vwCl ([(ad 0, .inr (5, [.int th, .ref (ad 1), .ref (ad 2), .ref (ad 3), .int sv, .ref (ad 4), .int ln, .int vs, .ref (ad 5), .ref (ad 6), .int rl, .int cm, .int fi, .int se])), (ad 1, .inl (cI, 221, .inl z)), (ad 2, .inl (cI, 221, .inl zs)), (ad 3, .inl (cI, 1768, .inl sd)), (ad 4, .inl (cI, 80, .inl tx)), (ad 5, .inl (cI, 8, .inl ds)), (ad 6, .inl (cI, 8, .inl rg))]) H := hP
  have hD : va_D A ([(ad 0, .inr (5, [.int th, .ref (ad 1), .ref (ad 2), .ref (ad 3), .int sv, .ref (ad 4), .int ln, .int vs, .ref (ad 5), .ref (ad 6), .int rl, .int cm, .int fi, .int se])), (ad 1, .inl (cI, 221, .inl z)), (ad 2, .inl (cI, 221, .inl zs)), (ad 3, .inl (cI, 1768, .inl sd)), (ad 4, .inl (cI, 80, .inl tx)), (ad 5, .inl (cI, 8, .inl ds)), (ad 6, .inl (cI, 8, .inl rg))]) := hD
  refine tpe (y := stI F t) (RZ_0 hZ (by omega)) ?_
  refine lv_iconst (v := (nI 2)) hx hb dX5_waits_6 (by decide) ?_
  refine lv_icmp_ne (tgt := 15) hx hb dX5_waits_7 (by decide) (fun h_1 => ?_) (fun h_1 => ?_)
  · have h_1 := h_1
    refine lv_iconst (v := (nI 0)) hx hb dX5_waits_15 (by decide) ?_
    exact ret_z (u := ()) hQ hx hb hrt hlk hS dX5_waits_16 (by decide) hP (by rw [awB_n hJ ht h_1]; rfl)
  · have h_1 := h_1
    refine lv_iload_n hx hb dX5_waits_10 rfl (lv_at hl 1 rfl) ?_
    refine lv_iload_n hx hb dX5_waits_11 rfl (lv_at hl 2 rfl) ?_
    refine lv_icmp_ne (tgt := 17) hx hb dX5_waits_12 (by decide) (fun h_2 => ?_) (fun h_2 => ?_)
    · have h_2 := mt (nI_eq (a := t) (b := u) (by first | omega | exact bits_lt31 _ | exact bitN_lt _ _ | exact bool_lt _ | exact and_lt31 _ _ _ _ | exact Nat.lt_of_le_of_lt (dst_lt _ _ _ (by omega) _) (by decide) | exact Nat.lt_of_le_of_lt (nrB_le _ _ _ (by omega)).2 (by decide) | decide) (by first | omega | exact bits_lt31 _ | exact bitN_lt _ _ | exact bool_lt _ | exact and_lt31 _ _ _ _ | exact Nat.lt_of_le_of_lt (dst_lt _ _ _ (by omega) _) (by decide) | exact Nat.lt_of_le_of_lt (nrB_le _ _ _ (by omega)).2 (by decide) | decide)).mpr h_2
      have n3 := (st_w hJ ht).mp h_1
      obtain ⟨r, hr, h3, hw, hm⟩ := JJ_want hJ ht n3
      have hut : ¬ u = t := fun e => h_2 e.symm
      refine lv_aload_n hx hb dX5_waits_17 rfl (lv_at hl 0 rfl) ?_
      refine lv_iload_n hx hb dX5_waits_18 rfl (lv_at hl 1 rfl) ?_
      refine lv_iconst (v := (nI 4)) hx hb dX5_waits_19 (by decide) ?_
      refine call_i (X := []) (Z := []) (As := [.int (nI t), .int (nI 4)]) (rest := []) ⟨hx, hb, hml, hown, hts⟩ (c_X5_of l D cI cT ad th sv ln vs rl cm fi se z zs sd tx ds rg t 4 (by omega)) (cwV 2 hts gX5_waits_X5_of rfl rfl rfl (by decide +kernel) ⟨Nat.le_of_ble_eq_true rfl, Nat.le_of_ble_eq_true rfl⟩) hK hP hD hS hA (va_recv hK hP (ci := 5) (q0 := 0) rfl rfl) (fun _ => rfl) rfl hl.1 rfl (Nat.le_of_ble_eq_true rfl) ⟨by decide, by decide⟩ dX5_waits_20 (fun rv _ H locs hp hP hD hS => ?_)
      obtain rfl := hp
      have hP : va_P D vwCl ([(ad 0, .inr (5, [.int th, .ref (ad 1), .ref (ad 2), .ref (ad 3), .int sv, .ref (ad 4), .int ln, .int vs, .ref (ad 5), .ref (ad 6), .int rl, .int cm, .int fi, .int se])), (ad 1, .inl (cI, 221, .inl z)), (ad 2, .inl (cI, 221, .inl zs)), (ad 3, .inl (cI, 1768, .inl sd)), (ad 4, .inl (cI, 80, .inl tx)), (ad 5, .inl (cI, 8, .inl ds)), (ad 6, .inl (cI, 8, .inl rg))]) H := hP
      have hD : va_D A ([(ad 0, .inr (5, [.int th, .ref (ad 1), .ref (ad 2), .ref (ad 3), .int sv, .ref (ad 4), .int ln, .int vs, .ref (ad 5), .ref (ad 6), .int rl, .int cm, .int fi, .int se])), (ad 1, .inl (cI, 221, .inl z)), (ad 2, .inl (cI, 221, .inl zs)), (ad 3, .inl (cI, 1768, .inl sd)), (ad 4, .inl (cI, 80, .inl tx)), (ad 5, .inl (cI, 8, .inl ds)), (ad 6, .inl (cI, 8, .inl rg))]) := hD
      refine tpe (y := F 3 t) (RZ_4 hZ (by omega)) ?_
      refine tpe (y := (nI r)) h3 ?_
      refine lv_istore_n (lv' := [(3, .int (nI r)), (0, .ref (ad 0)), (1, .int (nI t)), (2, .int (nI u))]) hx hb dX5_waits_23 rfl hl (by decide) rfl (fun ls hl => ?_)
      refine lv_aload_n hx hb dX5_waits_24 rfl (lv_at hl 1 rfl) ?_
      refine lv_iload_n hx hb dX5_waits_25 rfl (lv_at hl 2 rfl) ?_
      refine lv_iconst (v := (nI 5)) hx hb dX5_waits_26 (by decide) ?_
      refine call_i (X := []) (Z := []) (As := [.int (nI t), .int (nI 5)]) (rest := []) ⟨hx, hb, hml, hown, hts⟩ (c_X5_of l D cI cT ad th sv ln vs rl cm fi se z zs sd tx ds rg t 5 (by omega)) (cwV 2 hts gX5_waits_X5_of rfl rfl rfl (by decide +kernel) ⟨Nat.le_of_ble_eq_true rfl, Nat.le_of_ble_eq_true rfl⟩) hK hP hD hS hA (va_recv hK hP (ci := 5) (q0 := 0) rfl rfl) (fun _ => rfl) rfl hl.1 rfl (Nat.le_of_ble_eq_true rfl) ⟨by decide, by decide⟩ dX5_waits_27 (fun rv _ H locs hp hP hD hS => ?_)
      obtain rfl := hp
      have hP : va_P D vwCl ([(ad 0, .inr (5, [.int th, .ref (ad 1), .ref (ad 2), .ref (ad 3), .int sv, .ref (ad 4), .int ln, .int vs, .ref (ad 5), .ref (ad 6), .int rl, .int cm, .int fi, .int se])), (ad 1, .inl (cI, 221, .inl z)), (ad 2, .inl (cI, 221, .inl zs)), (ad 3, .inl (cI, 1768, .inl sd)), (ad 4, .inl (cI, 80, .inl tx)), (ad 5, .inl (cI, 8, .inl ds)), (ad 6, .inl (cI, 8, .inl rg))]) H := hP
      have hD : va_D A ([(ad 0, .inr (5, [.int th, .ref (ad 1), .ref (ad 2), .ref (ad 3), .int sv, .ref (ad 4), .int ln, .int vs, .ref (ad 5), .ref (ad 6), .int rl, .int cm, .int fi, .int se])), (ad 1, .inl (cI, 221, .inl z)), (ad 2, .inl (cI, 221, .inl zs)), (ad 3, .inl (cI, 1768, .inl sd)), (ad 4, .inl (cI, 80, .inl tx)), (ad 5, .inl (cI, 8, .inl ds)), (ad 6, .inl (cI, 8, .inl rg))]) := hD
      refine tpe (y := mdZ F t) (RZ_5 hZ (by omega)) ?_
      refine tpe (y := (F 4 t)) (mdZ_w n3) ?_
      refine lv_aload_n hx hb dX5_waits_30 rfl (lv_at hl 1 rfl) ?_
      refine lv_iload_n hx hb dX5_waits_31 rfl (lv_at hl 3 rfl) ?_
      refine lv_iload_n hx hb dX5_waits_32 rfl (lv_at hl 0 rfl) ?_
      refine call_i (X := []) (Z := []) (As := [.int (nI u), .int (nI r)]) (rest := [.int (F 4 t)]) ⟨hx, hb, hml, hown, hts⟩ (c_X5_lock l D cI cT ad th sv ln vs rl cm fi se z zs sd tx ds rg u r (by omega)) (cwV 2 hts gX5_waits_X5_lock rfl rfl rfl (by decide +kernel) ⟨Nat.le_of_ble_eq_true rfl, Nat.le_of_ble_eq_true rfl⟩) hK hP hD hS hA (va_recv hK hP (ci := 5) (q0 := 0) rfl rfl) (fun _ => rfl) rfl hl.1 rfl (Nat.le_of_ble_eq_true rfl) ⟨by decide, by decide⟩ dX5_waits_33 (fun rv _ H locs hp hP hD hS => ?_)
      obtain rfl := hp
      have hP : va_P D vwCl ([(ad 0, .inr (5, [.int th, .ref (ad 1), .ref (ad 2), .ref (ad 3), .int sv, .ref (ad 4), .int ln, .int vs, .ref (ad 5), .ref (ad 6), .int rl, .int cm, .int fi, .int se])), (ad 1, .inl (cI, 221, .inl z)), (ad 2, .inl (cI, 221, .inl zs)), (ad 3, .inl (cI, 1768, .inl sd)), (ad 4, .inl (cI, 80, .inl tx)), (ad 5, .inl (cI, 8, .inl ds)), (ad 6, .inl (cI, 8, .inl rg))]) H := hP
      have hD : va_D A ([(ad 0, .inr (5, [.int th, .ref (ad 1), .ref (ad 2), .ref (ad 3), .int sv, .ref (ad 4), .int ln, .int vs, .ref (ad 5), .ref (ad 6), .int rl, .int cm, .int fi, .int se])), (ad 1, .inl (cI, 221, .inl z)), (ad 2, .inl (cI, 221, .inl zs)), (ad 3, .inl (cI, 1768, .inl sd)), (ad 4, .inl (cI, 80, .inl tx)), (ad 5, .inl (cI, 8, .inl ds)), (ad 6, .inl (cI, 8, .inl rg))]) := hD
      refine tpe (y := lk F u r) (RZ_lk hZ (by omega) (by omega)) ?_
      refine call_s (X := [(ad 0, .inr (5, [.int th, .ref (ad 1), .ref (ad 2), .ref (ad 3), .int sv, .ref (ad 4), .int ln, .int vs, .ref (ad 5), .ref (ad 6), .int rl, .int cm, .int fi, .int se])), (ad 1, .inl (cI, 221, .inl z)), (ad 2, .inl (cI, 221, .inl zs)), (ad 3, .inl (cI, 1768, .inl sd)), (ad 4, .inl (cI, 80, .inl tx)), (ad 5, .inl (cI, 8, .inl ds)), (ad 6, .inl (cI, 8, .inl rg))]) (Wc := []) (Z := []) (As := [.int (F 4 t), .int (lk F u r)]) (rest := []) ⟨hx, hb, hml, hown, hts⟩ (c_X5_isCompatible l D cI cT (F 4 t) (lk F u r)) (va_cwS 2 hts gX5_waits_X5_isCompatible rfl rfl rfl (by decide +kernel) ⟨Nat.le_of_ble_eq_true rfl, Nat.le_of_ble_eq_true rfl⟩) hK (P_nilr hP) (D_nilr hD) hS hA (fun _ => rfl) rfl hl.1 rfl (Nat.le_of_ble_eq_true rfl) ⟨by decide, by decide⟩ dX5_waits_36 (fun rv _ H locs hp hP hD hS => ?_)
      obtain rfl := hp
      have hP := P_nil2 hP
      have hD := D_nil2 hD
      have hP : va_P D vwCl ([(ad 0, .inr (5, [.int th, .ref (ad 1), .ref (ad 2), .ref (ad 3), .int sv, .ref (ad 4), .int ln, .int vs, .ref (ad 5), .ref (ad 6), .int rl, .int cm, .int fi, .int se])), (ad 1, .inl (cI, 221, .inl z)), (ad 2, .inl (cI, 221, .inl zs)), (ad 3, .inl (cI, 1768, .inl sd)), (ad 4, .inl (cI, 80, .inl tx)), (ad 5, .inl (cI, 8, .inl ds)), (ad 6, .inl (cI, 8, .inl rg))]) H := hP
      have hD : va_D A ([(ad 0, .inr (5, [.int th, .ref (ad 1), .ref (ad 2), .ref (ad 3), .int sv, .ref (ad 4), .int ln, .int vs, .ref (ad 5), .ref (ad 6), .int rl, .int cm, .int fi, .int se])), (ad 1, .inl (cI, 221, .inl z)), (ad 2, .inl (cI, 221, .inl zs)), (ad 3, .inl (cI, 1768, .inl sd)), (ad 4, .inl (cI, 80, .inl tx)), (ad 5, .inl (cI, 8, .inl ds)), (ad 6, .inl (cI, 8, .inl rg))]) := hD
      refine lv_if_ne (tgt := 44) hx hb dX5_waits_39 (by decide) (fun h_3 => ?_) (fun h_3 => ?_)
      · have h_3 := mt (nI_eq (a := ((compB (F 4 t) (lk F u r)).toNat)) (b := 0) (by first | omega | exact bits_lt31 _ | exact bitN_lt _ _ | exact bool_lt _ | exact and_lt31 _ _ _ _ | exact Nat.lt_of_le_of_lt (dst_lt _ _ _ (by omega) _) (by decide) | exact Nat.lt_of_le_of_lt (nrB_le _ _ _ (by omega)).2 (by decide) | decide) (by first | omega | exact bits_lt31 _ | exact bitN_lt _ _ | exact bool_lt _ | exact and_lt31 _ _ _ _ | exact Nat.lt_of_le_of_lt (dst_lt _ _ _ (by omega) _) (by decide) | exact Nat.lt_of_le_of_lt (nrB_le _ _ _ (by omega)).2 (by decide) | decide)).mpr h_3
        have h_3 := tn_y h_3
        refine lv_aload_n hx hb dX5_waits_44 rfl (lv_at hl 1 rfl) ?_
        refine lv_iload_n hx hb dX5_waits_45 rfl (lv_at hl 3 rfl) ?_
        refine lv_iconst (v := (nI 0)) hx hb dX5_waits_46 (by decide) ?_
        refine call_i (X := []) (Z := []) (As := [.int (nI u), .int (nI 0)]) (rest := []) ⟨hx, hb, hml, hown, hts⟩ (c_X5_of l D cI cT ad th sv ln vs rl cm fi se z zs sd tx ds rg u 0 (by omega)) (cwV 2 hts gX5_waits_X5_of rfl rfl rfl (by decide +kernel) ⟨Nat.le_of_ble_eq_true rfl, Nat.le_of_ble_eq_true rfl⟩) hK hP hD hS hA (va_recv hK hP (ci := 5) (q0 := 0) rfl rfl) (fun _ => rfl) rfl hl.1 rfl (Nat.le_of_ble_eq_true rfl) ⟨by decide, by decide⟩ dX5_waits_47 (fun rv _ H locs hp hP hD hS => ?_)
        obtain rfl := hp
        have hP : va_P D vwCl ([(ad 0, .inr (5, [.int th, .ref (ad 1), .ref (ad 2), .ref (ad 3), .int sv, .ref (ad 4), .int ln, .int vs, .ref (ad 5), .ref (ad 6), .int rl, .int cm, .int fi, .int se])), (ad 1, .inl (cI, 221, .inl z)), (ad 2, .inl (cI, 221, .inl zs)), (ad 3, .inl (cI, 1768, .inl sd)), (ad 4, .inl (cI, 80, .inl tx)), (ad 5, .inl (cI, 8, .inl ds)), (ad 6, .inl (cI, 8, .inl rg))]) H := hP
        have hD : va_D A ([(ad 0, .inr (5, [.int th, .ref (ad 1), .ref (ad 2), .ref (ad 3), .int sv, .ref (ad 4), .int ln, .int vs, .ref (ad 5), .ref (ad 6), .int rl, .int cm, .int fi, .int se])), (ad 1, .inl (cI, 221, .inl z)), (ad 2, .inl (cI, 221, .inl zs)), (ad 3, .inl (cI, 1768, .inl sd)), (ad 4, .inl (cI, 80, .inl tx)), (ad 5, .inl (cI, 8, .inl ds)), (ad 6, .inl (cI, 8, .inl rg))]) := hD
        refine tpe (y := stI F u) (RZ_0 hZ (by omega)) ?_
        refine lv_iconst (v := (nI 2)) hx hb dX5_waits_50 (by decide) ?_
        refine lv_icmp_ne (tgt := 68) hx hb dX5_waits_51 (by decide) (fun h_4 => ?_) (fun h_4 => ?_)
        · have h_4 := h_4
          refine lv_iconst (v := (nI 0)) hx hb dX5_waits_68 (by decide) ?_
          refine lv_istore (lv' := [(4, .int (nI 0)), (3, .int (nI r)), (0, .ref (ad 0)), (1, .int (nI t)), (2, .int (nI u))]) hx hb dX5_waits_69 hl (by decide) rfl (fun ls hl => ?_)
          refine lv_iload hx hb dX5_waits_71 (lv_at hl 0 rfl) ?_
          refine lv_if_eq (tgt := 113) hx hb dX5_waits_73 (by decide) (fun _ => ?_) (fun h => absurd (by decide) h)
          refine lv_iconst (v := (nI 0)) hx hb dX5_waits_113 (by decide) ?_
          exact ret_z (u := ()) hQ hx hb hrt hlk hS dX5_waits_114 (by decide) hP (by rw [awB_eq n3 hw, rivB, h_3, ahB_in hm]; simp [JJ_nin1 hJ hu hr h_4])
        · have h_4 := h_4
          refine lv_aload_n hx hb dX5_waits_54 rfl (lv_at hl 1 rfl) ?_
          refine lv_iload_n hx hb dX5_waits_55 rfl (lv_at hl 3 rfl) ?_
          refine lv_iconst (v := (nI 4)) hx hb dX5_waits_56 (by decide) ?_
          refine call_i (X := []) (Z := []) (As := [.int (nI u), .int (nI 4)]) (rest := []) ⟨hx, hb, hml, hown, hts⟩ (c_X5_of l D cI cT ad th sv ln vs rl cm fi se z zs sd tx ds rg u 4 (by omega)) (cwV 2 hts gX5_waits_X5_of rfl rfl rfl (by decide +kernel) ⟨Nat.le_of_ble_eq_true rfl, Nat.le_of_ble_eq_true rfl⟩) hK hP hD hS hA (va_recv hK hP (ci := 5) (q0 := 0) rfl rfl) (fun _ => rfl) rfl hl.1 rfl (Nat.le_of_ble_eq_true rfl) ⟨by decide, by decide⟩ dX5_waits_57 (fun rv _ H locs hp hP hD hS => ?_)
          obtain rfl := hp
          have hP : va_P D vwCl ([(ad 0, .inr (5, [.int th, .ref (ad 1), .ref (ad 2), .ref (ad 3), .int sv, .ref (ad 4), .int ln, .int vs, .ref (ad 5), .ref (ad 6), .int rl, .int cm, .int fi, .int se])), (ad 1, .inl (cI, 221, .inl z)), (ad 2, .inl (cI, 221, .inl zs)), (ad 3, .inl (cI, 1768, .inl sd)), (ad 4, .inl (cI, 80, .inl tx)), (ad 5, .inl (cI, 8, .inl ds)), (ad 6, .inl (cI, 8, .inl rg))]) H := hP
          have hD : va_D A ([(ad 0, .inr (5, [.int th, .ref (ad 1), .ref (ad 2), .ref (ad 3), .int sv, .ref (ad 4), .int ln, .int vs, .ref (ad 5), .ref (ad 6), .int rl, .int cm, .int fi, .int se])), (ad 1, .inl (cI, 221, .inl z)), (ad 2, .inl (cI, 221, .inl zs)), (ad 3, .inl (cI, 1768, .inl sd)), (ad 4, .inl (cI, 80, .inl tx)), (ad 5, .inl (cI, 8, .inl ds)), (ad 6, .inl (cI, 8, .inl rg))]) := hD
          refine tpe (y := F 3 u) (RZ_4 hZ (by omega)) ?_
          refine lv_iload_n hx hb dX5_waits_60 rfl (lv_at hl 0 rfl) ?_
          refine lv_icmp_ne (tgt := 68) hx hb dX5_waits_61 (by decide) (fun h_5 => ?_) (fun h_5 => ?_)
          · have h_5 := h_5
            refine lv_iconst (v := (nI 0)) hx hb dX5_waits_68 (by decide) ?_
            refine lv_istore (lv' := [(4, .int (nI 0)), (3, .int (nI r)), (0, .ref (ad 0)), (1, .int (nI t)), (2, .int (nI u))]) hx hb dX5_waits_69 hl (by decide) rfl (fun ls hl => ?_)
            refine lv_iload hx hb dX5_waits_71 (lv_at hl 0 rfl) ?_
            refine lv_if_eq (tgt := 113) hx hb dX5_waits_73 (by decide) (fun _ => ?_) (fun h => absurd (by decide) h)
            refine lv_iconst (v := (nI 0)) hx hb dX5_waits_113 (by decide) ?_
            exact ret_z (u := ()) hQ hx hb hrt hlk hS dX5_waits_114 (by decide) hP (by rw [awB_eq n3 hw, rivB, h_3, ahB_in hm]; simp [JJ_nin2 hJ hr h_5])
          · have h_5 := h_5
            refine lv_iconst (v := (nI 1)) hx hb dX5_waits_64 (by decide) ?_
            refine lv_goto (tgt := 69) hx hb dX5_waits_65 (by decide) ?_
            refine lv_istore (lv' := [(4, .int (nI 1)), (3, .int (nI r)), (0, .ref (ad 0)), (1, .int (nI t)), (2, .int (nI u))]) hx hb dX5_waits_69 hl (by decide) rfl (fun ls hl => ?_)
            refine lv_iload hx hb dX5_waits_71 (lv_at hl 0 rfl) ?_
            refine lv_if_eq (tgt := 113) hx hb dX5_waits_73 (by decide) (fun h => absurd h (by decide)) (fun _ => ?_)
            have hmu := JJ_in hJ hu hr h_5
            have n3u : ¬ F 3 u = -1 := by rw [h_5]; exact m1_nI (by omega)
            have hit := List.idxOf_lt_length_of_mem hm
            have hiu := List.idxOf_lt_length_of_mem hmu
            have hq8 := JJ_len hJ hr
            have hqq : qlen Q0 r = (Q0 r).length := rfl
            refine lv_aload_n hx hb dX5_waits_76 rfl (lv_at hl 2 rfl) ?_
            refine lv_iload_n hx hb dX5_waits_77 rfl (lv_at hl 4 rfl) ?_
            refine call_i (X := []) (Z := []) (As := [.int (nI u)]) (rest := []) ⟨hx, hb, hml, hown, hts⟩ (c_X5_indexOf l D cI cT ad th sv ln vs rl cm fi se z zs sd tx ds rg F Q0 u r (by omega) (by omega) h_5 hmu hZ hJ) (cwV 1 hts gX5_waits_X5_indexOf rfl rfl rfl (by decide +kernel) ⟨Nat.le_of_ble_eq_true rfl, Nat.le_of_ble_eq_true rfl⟩) hK hP hD hS hA (va_recv hK hP (ci := 5) (q0 := 0) rfl rfl) (fun _ => rfl) rfl hl.1 rfl (Nat.le_of_ble_eq_true rfl) ⟨by decide, by decide⟩ dX5_waits_78 (fun rv _ H locs hp hP hD hS => ?_)
            obtain rfl := hp
            have hP : va_P D vwCl ([(ad 0, .inr (5, [.int th, .ref (ad 1), .ref (ad 2), .ref (ad 3), .int sv, .ref (ad 4), .int ln, .int vs, .ref (ad 5), .ref (ad 6), .int rl, .int cm, .int fi, .int se])), (ad 1, .inl (cI, 221, .inl z)), (ad 2, .inl (cI, 221, .inl zs)), (ad 3, .inl (cI, 1768, .inl sd)), (ad 4, .inl (cI, 80, .inl tx)), (ad 5, .inl (cI, 8, .inl ds)), (ad 6, .inl (cI, 8, .inl rg))]) H := hP
            have hD : va_D A ([(ad 0, .inr (5, [.int th, .ref (ad 1), .ref (ad 2), .ref (ad 3), .int sv, .ref (ad 4), .int ln, .int vs, .ref (ad 5), .ref (ad 6), .int rl, .int cm, .int fi, .int se])), (ad 1, .inl (cI, 221, .inl z)), (ad 2, .inl (cI, 221, .inl zs)), (ad 3, .inl (cI, 1768, .inl sd)), (ad 4, .inl (cI, 80, .inl tx)), (ad 5, .inl (cI, 8, .inl ds)), (ad 6, .inl (cI, 8, .inl rg))]) := hD
            refine lv_aload_n hx hb dX5_waits_81 rfl (lv_at hl 2 rfl) ?_
            refine lv_iload_n hx hb dX5_waits_82 rfl (lv_at hl 3 rfl) ?_
            refine call_i (X := []) (Z := []) (As := [.int (nI t)]) (rest := [.int (nI ((Q0 r).idxOf u))]) ⟨hx, hb, hml, hown, hts⟩ (c_X5_indexOf l D cI cT ad th sv ln vs rl cm fi se z zs sd tx ds rg F Q0 t r (by omega) (by omega) h3 hm hZ hJ) (cwV 1 hts gX5_waits_X5_indexOf rfl rfl rfl (by decide +kernel) ⟨Nat.le_of_ble_eq_true rfl, Nat.le_of_ble_eq_true rfl⟩) hK hP hD hS hA (va_recv hK hP (ci := 5) (q0 := 0) rfl rfl) (fun _ => rfl) rfl hl.1 rfl (Nat.le_of_ble_eq_true rfl) ⟨by decide, by decide⟩ dX5_waits_83 (fun rv _ H locs hp hP hD hS => ?_)
            obtain rfl := hp
            have hP : va_P D vwCl ([(ad 0, .inr (5, [.int th, .ref (ad 1), .ref (ad 2), .ref (ad 3), .int sv, .ref (ad 4), .int ln, .int vs, .ref (ad 5), .ref (ad 6), .int rl, .int cm, .int fi, .int se])), (ad 1, .inl (cI, 221, .inl z)), (ad 2, .inl (cI, 221, .inl zs)), (ad 3, .inl (cI, 1768, .inl sd)), (ad 4, .inl (cI, 80, .inl tx)), (ad 5, .inl (cI, 8, .inl ds)), (ad 6, .inl (cI, 8, .inl rg))]) H := hP
            have hD : va_D A ([(ad 0, .inr (5, [.int th, .ref (ad 1), .ref (ad 2), .ref (ad 3), .int sv, .ref (ad 4), .int ln, .int vs, .ref (ad 5), .ref (ad 6), .int rl, .int cm, .int fi, .int se])), (ad 1, .inl (cI, 221, .inl z)), (ad 2, .inl (cI, 221, .inl zs)), (ad 3, .inl (cI, 1768, .inl sd)), (ad 4, .inl (cI, 80, .inl tx)), (ad 5, .inl (cI, 8, .inl ds)), (ad 6, .inl (cI, 8, .inl rg))]) := hD
            refine lv_icmp_ge (tgt := 113) hx hb dX5_waits_86 (by decide) (fun h_6 => ?_) (fun h_6 => ?_)
            · have h_6 := (nI_leI (a := ((Q0 r).idxOf t)) (b := ((Q0 r).idxOf u)) (by first | omega | exact bits_lt31 _ | exact bitN_lt _ _ | exact bool_lt _ | exact and_lt31 _ _ _ _ | exact Nat.lt_of_le_of_lt (dst_lt _ _ _ (by omega) _) (by decide) | exact Nat.lt_of_le_of_lt (nrB_le _ _ _ (by omega)).2 (by decide) | decide) (by first | omega | exact bits_lt31 _ | exact bitN_lt _ _ | exact bool_lt _ | exact and_lt31 _ _ _ _ | exact Nat.lt_of_le_of_lt (dst_lt _ _ _ (by omega) _) (by decide) | exact Nat.lt_of_le_of_lt (nrB_le _ _ _ (by omega)).2 (by decide) | decide)).mp h_6
              refine lv_iconst (v := (nI 0)) hx hb dX5_waits_113 (by decide) ?_
              exact ret_z (u := ()) hQ hx hb hrt hlk hS dX5_waits_114 (by decide) hP (by rw [awB_eq n3 hw, rivB, h_3, ahB_in hm]; simp [hmu, Nat.not_lt.mpr h_6])
            · have h_6 := mt (nI_leI (a := ((Q0 r).idxOf t)) (b := ((Q0 r).idxOf u)) (by first | omega | exact bits_lt31 _ | exact bitN_lt _ _ | exact bool_lt _ | exact and_lt31 _ _ _ _ | exact Nat.lt_of_le_of_lt (dst_lt _ _ _ (by omega) _) (by decide) | exact Nat.lt_of_le_of_lt (nrB_le _ _ _ (by omega)).2 (by decide) | decide) (by first | omega | exact bits_lt31 _ | exact bitN_lt _ _ | exact bool_lt _ | exact and_lt31 _ _ _ _ | exact Nat.lt_of_le_of_lt (dst_lt _ _ _ (by omega) _) (by decide) | exact Nat.lt_of_le_of_lt (nrB_le _ _ _ (by omega)).2 (by decide) | decide)).mpr h_6
              refine lv_aload_n hx hb dX5_waits_89 rfl (lv_at hl 2 rfl) ?_
              refine lv_iload_n hx hb dX5_waits_90 rfl (lv_at hl 3 rfl) ?_
              refine lv_iconst (v := (nI 5)) hx hb dX5_waits_91 (by decide) ?_
              refine call_i (X := []) (Z := []) (As := [.int (nI t), .int (nI 5)]) (rest := []) ⟨hx, hb, hml, hown, hts⟩ (c_X5_of l D cI cT ad th sv ln vs rl cm fi se z zs sd tx ds rg t 5 (by omega)) (cwV 2 hts gX5_waits_X5_of rfl rfl rfl (by decide +kernel) ⟨Nat.le_of_ble_eq_true rfl, Nat.le_of_ble_eq_true rfl⟩) hK hP hD hS hA (va_recv hK hP (ci := 5) (q0 := 0) rfl rfl) (fun _ => rfl) rfl hl.1 rfl (Nat.le_of_ble_eq_true rfl) ⟨by decide, by decide⟩ dX5_waits_92 (fun rv _ H locs hp hP hD hS => ?_)
              obtain rfl := hp
              have hP : va_P D vwCl ([(ad 0, .inr (5, [.int th, .ref (ad 1), .ref (ad 2), .ref (ad 3), .int sv, .ref (ad 4), .int ln, .int vs, .ref (ad 5), .ref (ad 6), .int rl, .int cm, .int fi, .int se])), (ad 1, .inl (cI, 221, .inl z)), (ad 2, .inl (cI, 221, .inl zs)), (ad 3, .inl (cI, 1768, .inl sd)), (ad 4, .inl (cI, 80, .inl tx)), (ad 5, .inl (cI, 8, .inl ds)), (ad 6, .inl (cI, 8, .inl rg))]) H := hP
              have hD : va_D A ([(ad 0, .inr (5, [.int th, .ref (ad 1), .ref (ad 2), .ref (ad 3), .int sv, .ref (ad 4), .int ln, .int vs, .ref (ad 5), .ref (ad 6), .int rl, .int cm, .int fi, .int se])), (ad 1, .inl (cI, 221, .inl z)), (ad 2, .inl (cI, 221, .inl zs)), (ad 3, .inl (cI, 1768, .inl sd)), (ad 4, .inl (cI, 80, .inl tx)), (ad 5, .inl (cI, 8, .inl ds)), (ad 6, .inl (cI, 8, .inl rg))]) := hD
              refine tpe (y := mdZ F t) (RZ_5 hZ (by omega)) ?_
              refine tpe (y := (F 4 t)) (mdZ_w n3) ?_
              refine lv_iconst (v := (nI 2)) hx hb dX5_waits_95 (by decide) ?_
              refine lv_icmp_eq (tgt := 109) hx hb dX5_waits_96 (by decide) (fun h_7 => ?_) (fun h_7 => ?_)
              · have h_7 := h_7
                refine lv_iconst (v := (nI 1)) hx hb dX5_waits_109 (by decide) ?_
                refine lv_goto (tgt := 114) hx hb dX5_waits_110 (by decide) ?_
                have hlt := Nat.not_le.mp h_6
                exact ret_z (u := ()) hQ hx hb hrt hlk hS dX5_waits_114 (by decide) hP (by rw [awB_eq n3 hw, rivB, h_3, ahB_in hm]; simp [hmu, hlt, bq_t h_7])
              · have h_7 := h_7
                refine lv_aload_n hx hb dX5_waits_99 rfl (lv_at hl 2 rfl) ?_
                refine lv_iload_n hx hb dX5_waits_100 rfl (lv_at hl 4 rfl) ?_
                refine lv_iconst (v := (nI 5)) hx hb dX5_waits_101 (by decide) ?_
                refine call_i (X := []) (Z := []) (As := [.int (nI u), .int (nI 5)]) (rest := []) ⟨hx, hb, hml, hown, hts⟩ (c_X5_of l D cI cT ad th sv ln vs rl cm fi se z zs sd tx ds rg u 5 (by omega)) (cwV 2 hts gX5_waits_X5_of rfl rfl rfl (by decide +kernel) ⟨Nat.le_of_ble_eq_true rfl, Nat.le_of_ble_eq_true rfl⟩) hK hP hD hS hA (va_recv hK hP (ci := 5) (q0 := 0) rfl rfl) (fun _ => rfl) rfl hl.1 rfl (Nat.le_of_ble_eq_true rfl) ⟨by decide, by decide⟩ dX5_waits_102 (fun rv _ H locs hp hP hD hS => ?_)
                obtain rfl := hp
                have hP : va_P D vwCl ([(ad 0, .inr (5, [.int th, .ref (ad 1), .ref (ad 2), .ref (ad 3), .int sv, .ref (ad 4), .int ln, .int vs, .ref (ad 5), .ref (ad 6), .int rl, .int cm, .int fi, .int se])), (ad 1, .inl (cI, 221, .inl z)), (ad 2, .inl (cI, 221, .inl zs)), (ad 3, .inl (cI, 1768, .inl sd)), (ad 4, .inl (cI, 80, .inl tx)), (ad 5, .inl (cI, 8, .inl ds)), (ad 6, .inl (cI, 8, .inl rg))]) H := hP
                have hD : va_D A ([(ad 0, .inr (5, [.int th, .ref (ad 1), .ref (ad 2), .ref (ad 3), .int sv, .ref (ad 4), .int ln, .int vs, .ref (ad 5), .ref (ad 6), .int rl, .int cm, .int fi, .int se])), (ad 1, .inl (cI, 221, .inl z)), (ad 2, .inl (cI, 221, .inl zs)), (ad 3, .inl (cI, 1768, .inl sd)), (ad 4, .inl (cI, 80, .inl tx)), (ad 5, .inl (cI, 8, .inl ds)), (ad 6, .inl (cI, 8, .inl rg))]) := hD
                refine tpe (y := mdZ F u) (RZ_5 hZ (by omega)) ?_
                refine tpe (y := (F 4 u)) (mdZ_w n3u) ?_
                refine lv_iconst (v := (nI 2)) hx hb dX5_waits_105 (by decide) ?_
                refine lv_icmp_ne (tgt := 113) hx hb dX5_waits_106 (by decide) (fun h_8 => ?_) (fun h_8 => ?_)
                · have h_8 := h_8
                  refine lv_iconst (v := (nI 0)) hx hb dX5_waits_113 (by decide) ?_
                  have hlt := Nat.not_le.mp h_6
                  exact ret_z (u := ()) hQ hx hb hrt hlk hS dX5_waits_114 (by decide) hP (by rw [awB_eq n3 hw, rivB, h_3, ahB_in hm]; simp [hmu, hlt, bq_f h_7, bq_f h_8])
                · have h_8 := h_8
                  refine lv_iconst (v := (nI 1)) hx hb dX5_waits_109 (by decide) ?_
                  refine lv_goto (tgt := 114) hx hb dX5_waits_110 (by decide) ?_
                  have hlt := Nat.not_le.mp h_6
                  exact ret_z (u := ()) hQ hx hb hrt hlk hS dX5_waits_114 (by decide) hP (by rw [awB_eq n3 hw, rivB, h_3, ahB_in hm]; simp [hmu, hlt, bq_f h_7, bq_t h_8])
      · have h_3 := (nI_eq (a := ((compB (F 4 t) (lk F u r)).toNat)) (b := 0) (by first | omega | exact bits_lt31 _ | exact bitN_lt _ _ | exact bool_lt _ | exact and_lt31 _ _ _ _ | exact Nat.lt_of_le_of_lt (dst_lt _ _ _ (by omega) _) (by decide) | exact Nat.lt_of_le_of_lt (nrB_le _ _ _ (by omega)).2 (by decide) | decide) (by first | omega | exact bits_lt31 _ | exact bitN_lt _ _ | exact bool_lt _ | exact and_lt31 _ _ _ _ | exact Nat.lt_of_le_of_lt (dst_lt _ _ _ (by omega) _) (by decide) | exact Nat.lt_of_le_of_lt (nrB_le _ _ _ (by omega)).2 (by decide) | decide)).mp h_3
        have h_3 := tn_f h_3
        refine lv_iconst (v := (nI 1)) hx hb dX5_waits_42 (by decide) ?_
        exact ret_z (u := ()) hQ hx hb hrt hlk hS dX5_waits_43 (by decide) hP (by rw [awB_eq n3 hw, rivB, h_3]; simp [hut])
    · have h_2 := (nI_eq (a := t) (b := u) (by first | omega | exact bits_lt31 _ | exact bitN_lt _ _ | exact bool_lt _ | exact and_lt31 _ _ _ _ | exact Nat.lt_of_le_of_lt (dst_lt _ _ _ (by omega) _) (by decide) | exact Nat.lt_of_le_of_lt (nrB_le _ _ _ (by omega)).2 (by decide) | decide) (by first | omega | exact bits_lt31 _ | exact bitN_lt _ _ | exact bool_lt _ | exact and_lt31 _ _ _ _ | exact Nat.lt_of_le_of_lt (dst_lt _ _ _ (by omega) _) (by decide) | exact Nat.lt_of_le_of_lt (nrB_le _ _ _ (by omega)).2 (by decide) | decide)).mp h_2
      refine lv_iconst (v := (nI 0)) hx hb dX5_waits_15 (by decide) ?_
      exact ret_z (u := ()) hQ hx hb hrt hlk hS dX5_waits_16 (by decide) hP (by rw [← h_2, awB_self hJ ht]; rfl)

abbrev rX5_waitedFor : Room := { frames := 3, cells := 0, slots := 0, locals := 68 }
set_option maxHeartbeats 1000000 in
set_option maxRecDepth 100000 in
theorem c_X5_waitedFor (l : Launch) (D : va_G) (cI cT : ClassId) (ad : Nat → Nat) (th sv ln vs rl cm fi se : Int32) (z zs sd tx ds rg : Nat → Int32) (F : FF) (Q0 : QQ) (t : Nat) (ht : t < 8) (hZ : RZ F Q0 z) (hJ : JJ F Q0) : CN l D cI cT yX5_waitedFor wsX5_waitedFor rX5_waitedFor [.ref (ad 0), .int (nI t)] (refW cI ad th sv ln vs rl cm fi se z zs sd tx ds rg) (S := Unit) (fun v _ => v = nI (aWS F Q0 t)) (fun _ => refW cI ad th sv ln vs rl cm fi se z zs sd tx ds rg) := by
  refine CN.of (cc := cX5_waitedFor) (maxL := 4) (ret := (some .int)) (by decide) rfl (Nat.le_of_ble_eq_true rfl) ?_
  intro p e s m args below meth c A Q hQ B hA H locs hP hK hD hS ls hl
  obtain ⟨hx, hb, hml, hrt, hts, hown, hlk⟩ := B
  have hP : va_P D vwCl ([(ad 0, .inr (5, [.int th, .ref (ad 1), .ref (ad 2), .ref (ad 3), .int sv, .ref (ad 4), .int ln, .int vs, .ref (ad 5), .ref (ad 6), .int rl, .int cm, .int fi, .int se])), (ad 1, .inl (cI, 221, .inl z)), (ad 2, .inl (cI, 221, .inl zs)), (ad 3, .inl (cI, 1768, .inl sd)), (ad 4, .inl (cI, 80, .inl tx)), (ad 5, .inl (cI, 8, .inl ds)), (ad 6, .inl (cI, 8, .inl rg))]) H := hP
  have hD : va_D A ([(ad 0, .inr (5, [.int th, .ref (ad 1), .ref (ad 2), .ref (ad 3), .int sv, .ref (ad 4), .int ln, .int vs, .ref (ad 5), .ref (ad 6), .int rl, .int cm, .int fi, .int se])), (ad 1, .inl (cI, 221, .inl z)), (ad 2, .inl (cI, 221, .inl zs)), (ad 3, .inl (cI, 1768, .inl sd)), (ad 4, .inl (cI, 80, .inl tx)), (ad 5, .inl (cI, 8, .inl ds)), (ad 6, .inl (cI, 8, .inl rg))]) := hD
  have hl : lv_has ls 4 [(0, .ref (ad 0)), (1, .int (nI t))] := hl
  refine lv_iconst (v := (nI 0)) hx hb dX5_waitedFor_0 (by decide) ?_
  refine lv_istore_n (lv' := [(2, .int (nI 0)), (0, .ref (ad 0)), (1, .int (nI t))]) hx hb dX5_waitedFor_1 rfl hl (by decide) rfl (fun ls hl => ?_)
  refine lv_iconst (v := (nI 0)) hx hb dX5_waitedFor_2 (by decide) ?_
  refine lv_istore_n (lv' := [(3, .int (nI 0)), (2, .int (nI 0)), (0, .ref (ad 0)), (1, .int (nI t))]) hx hb dX5_waitedFor_3 rfl hl (by decide) rfl (fun ls hl => ?_)
  have L4 : ∀ (N : Nat) (i : Nat), (i ≤ 8) → (8 - i) < N → ∀ (H : Heap) (locs : List Loc), va_P D vwCl ([(ad 0, .inr (5, [.int th, .ref (ad 1), .ref (ad 2), .ref (ad 3), .int sv, .ref (ad 4), .int ln, .int vs, .ref (ad 5), .ref (ad 6), .int rl, .int cm, .int fi, .int se])), (ad 1, .inl (cI, 221, .inl z)), (ad 2, .inl (cI, 221, .inl zs)), (ad 3, .inl (cI, 1768, .inl sd)), (ad 4, .inl (cI, 80, .inl tx)), (ad 5, .inl (cI, 8, .inl ds)), (ad 6, .inl (cI, 8, .inl rg))]) H → va_D A ([(ad 0, .inr (5, [.int th, .ref (ad 1), .ref (ad 2), .ref (ad 3), .int sv, .ref (ad 4), .int ln, .int vs, .ref (ad 5), .ref (ad 6), .int rl, .int cm, .int fi, .int se])), (ad 1, .inl (cI, 221, .inl z)), (ad 2, .inl (cI, 221, .inl zs)), (ad 3, .inl (cI, 1768, .inl sd)), (ad 4, .inl (cI, 80, .inl tx)), (ad 5, .inl (cI, 8, .inl ds)), (ad 6, .inl (cI, 8, .inl rg))]) → va_S A s.heap H locs → ∀ ls : Array Slot, lv_has ls 4 [(0, .ref (ad 0)), (1, .int (nI t)), (2, .int (nI (bits (awB F Q0 t) i))), (3, .int (nI i))] → W p l e rX5_waitedFor s m args below meth c H locs 0 0 Q (F0 m 4 ls []) := by
    intro N4
    induction N4 with
    | zero => intro i hi hN; exact absurd hN (Nat.not_lt_zero _)
    | succ N4 ih4 =>
      intro i hi hN H locs hP hD hS ls hl
      refine lv_iload_n hx hb dX5_waitedFor_4 rfl (lv_at hl 3 rfl) ?_
      refine lv_bipush (v := (nI 8)) hx hb dX5_waitedFor_5 (by decide) ?_
      refine lv_icmp_ge (tgt := 35) hx hb dX5_waitedFor_7 (by decide) (fun h_1 => ?_) (fun h_1 => ?_)
      · have h_1 := (nI_leI (a := 8) (b := i) (by first | omega | exact bits_lt31 _ | exact bitN_lt _ _ | exact bool_lt _ | exact and_lt31 _ _ _ _ | exact Nat.lt_of_le_of_lt (dst_lt _ _ _ (by omega) _) (by decide) | exact Nat.lt_of_le_of_lt (nrB_le _ _ _ (by omega)).2 (by decide) | decide) (by first | omega | exact bits_lt31 _ | exact bitN_lt _ _ | exact bool_lt _ | exact and_lt31 _ _ _ _ | exact Nat.lt_of_le_of_lt (dst_lt _ _ _ (by omega) _) (by decide) | exact Nat.lt_of_le_of_lt (nrB_le _ _ _ (by omega)).2 (by decide) | decide)).mp h_1
        refine lv_iload_n hx hb dX5_waitedFor_35 rfl (lv_at hl 2 rfl) ?_
        exact ret_i (u := ()) hQ hx hb hrt hlk hS dX5_waitedFor_36 hP (by rw [show i = 8 by omega]; rfl)
      · have h_1 := mt (nI_leI (a := 8) (b := i) (by first | omega | exact bits_lt31 _ | exact bitN_lt _ _ | exact bool_lt _ | exact and_lt31 _ _ _ _ | exact Nat.lt_of_le_of_lt (dst_lt _ _ _ (by omega) _) (by decide) | exact Nat.lt_of_le_of_lt (nrB_le _ _ _ (by omega)).2 (by decide) | decide) (by first | omega | exact bits_lt31 _ | exact bitN_lt _ _ | exact bool_lt _ | exact and_lt31 _ _ _ _ | exact Nat.lt_of_le_of_lt (dst_lt _ _ _ (by omega) _) (by decide) | exact Nat.lt_of_le_of_lt (nrB_le _ _ _ (by omega)).2 (by decide) | decide)).mpr h_1
        refine lv_iload_n hx hb dX5_waitedFor_10 rfl (lv_at hl 2 rfl) ?_
        refine lv_aload_n hx hb dX5_waitedFor_11 rfl (lv_at hl 0 rfl) ?_
        refine lv_iload_n hx hb dX5_waitedFor_12 rfl (lv_at hl 1 rfl) ?_
        refine lv_iload_n hx hb dX5_waitedFor_13 rfl (lv_at hl 3 rfl) ?_
        refine call_i (X := []) (Z := []) (As := [.int (nI t), .int (nI i)]) (rest := [.int (nI (bits (awB F Q0 t) i))]) ⟨hx, hb, hml, hown, hts⟩ (c_X5_waits l D cI cT ad th sv ln vs rl cm fi se z zs sd tx ds rg F Q0 t i (by omega) (by omega) hZ hJ) (cwV 2 hts gX5_waitedFor_X5_waits rfl rfl rfl (by decide +kernel) ⟨Nat.le_of_ble_eq_true rfl, Nat.le_of_ble_eq_true rfl⟩) hK hP hD hS hA (va_recv hK hP (ci := 5) (q0 := 0) rfl rfl) (fun _ => rfl) rfl hl.1 rfl (Nat.le_of_ble_eq_true rfl) ⟨by decide, by decide⟩ dX5_waitedFor_14 (fun rv _ H locs hp hP hD hS => ?_)
        obtain rfl := hp
        have hP : va_P D vwCl ([(ad 0, .inr (5, [.int th, .ref (ad 1), .ref (ad 2), .ref (ad 3), .int sv, .ref (ad 4), .int ln, .int vs, .ref (ad 5), .ref (ad 6), .int rl, .int cm, .int fi, .int se])), (ad 1, .inl (cI, 221, .inl z)), (ad 2, .inl (cI, 221, .inl zs)), (ad 3, .inl (cI, 1768, .inl sd)), (ad 4, .inl (cI, 80, .inl tx)), (ad 5, .inl (cI, 8, .inl ds)), (ad 6, .inl (cI, 8, .inl rg))]) H := hP
        have hD : va_D A ([(ad 0, .inr (5, [.int th, .ref (ad 1), .ref (ad 2), .ref (ad 3), .int sv, .ref (ad 4), .int ln, .int vs, .ref (ad 5), .ref (ad 6), .int rl, .int cm, .int fi, .int se])), (ad 1, .inl (cI, 221, .inl z)), (ad 2, .inl (cI, 221, .inl zs)), (ad 3, .inl (cI, 1768, .inl sd)), (ad 4, .inl (cI, 80, .inl tx)), (ad 5, .inl (cI, 8, .inl ds)), (ad 6, .inl (cI, 8, .inl rg))]) := hD
        refine lv_if_eq (tgt := 26) hx hb dX5_waitedFor_17 (by decide) (fun h_2 => ?_) (fun h_2 => ?_)
        · have h_2 := (nI_eq (a := ((awB F Q0 t i).toNat)) (b := 0) (by first | omega | exact bits_lt31 _ | exact bitN_lt _ _ | exact bool_lt _ | exact and_lt31 _ _ _ _ | exact Nat.lt_of_le_of_lt (dst_lt _ _ _ (by omega) _) (by decide) | exact Nat.lt_of_le_of_lt (nrB_le _ _ _ (by omega)).2 (by decide) | decide) (by first | omega | exact bits_lt31 _ | exact bitN_lt _ _ | exact bool_lt _ | exact and_lt31 _ _ _ _ | exact Nat.lt_of_le_of_lt (dst_lt _ _ _ (by omega) _) (by decide) | exact Nat.lt_of_le_of_lt (nrB_le _ _ _ (by omega)).2 (by decide) | decide)).mp h_2
          have h_2 := tn_f h_2
          refine lv_iconst (v := (nI 0)) hx hb dX5_waitedFor_26 (by decide) ?_
          refine lv_ior hx hb dX5_waitedFor_27 ?_
          refine lv_istore_n (lv' := [(2, .int ((nI (bits (awB F Q0 t) i)) ||| (nI 0))), (0, .ref (ad 0)), (1, .int (nI t)), (3, .int (nI i))]) hx hb dX5_waitedFor_28 rfl hl (by decide) rfl (fun ls hl => ?_)
          refine lv_iinc (v := (nI (i + 1))) (lv' := [(3, .int (nI (i + 1))), (2, .int ((nI (bits (awB F Q0 t) i)) ||| (nI 0))), (0, .ref (ad 0)), (1, .int (nI t))]) hx hb dX5_waitedFor_29 hl (k := 3) rfl (nI_add _ 1) (by decide) rfl (fun ls hl => ?_)
          refine lv_goto (tgt := 4) hx hb dX5_waitedFor_32 (by decide) ?_
          rw [show ((nI (bits (awB F Q0 t) i)) ||| (nI 0)) = (nI (bits (awB F Q0 t) (i + 1))) from ((or_z _).trans (bits_f h_2))] at hl
          exact ih4 (i + 1) (by omega) (by omega) _ _ hP hD hS _ (lv_sub hl [2, 3, 1, 0] rfl)
        · have h_2 := mt (nI_eq (a := ((awB F Q0 t i).toNat)) (b := 0) (by first | omega | exact bits_lt31 _ | exact bitN_lt _ _ | exact bool_lt _ | exact and_lt31 _ _ _ _ | exact Nat.lt_of_le_of_lt (dst_lt _ _ _ (by omega) _) (by decide) | exact Nat.lt_of_le_of_lt (nrB_le _ _ _ (by omega)).2 (by decide) | decide) (by first | omega | exact bits_lt31 _ | exact bitN_lt _ _ | exact bool_lt _ | exact and_lt31 _ _ _ _ | exact Nat.lt_of_le_of_lt (dst_lt _ _ _ (by omega) _) (by decide) | exact Nat.lt_of_le_of_lt (nrB_le _ _ _ (by omega)).2 (by decide) | decide)).mpr h_2
          have h_2 := tn_y h_2
          refine lv_iconst (v := (nI 1)) hx hb dX5_waitedFor_20 (by decide) ?_
          refine lv_iload_n hx hb dX5_waitedFor_21 rfl (lv_at hl 3 rfl) ?_
          refine lv_ishl hx hb dX5_waitedFor_22 ?_
          refine lv_goto (tgt := 27) hx hb dX5_waitedFor_23 (by decide) ?_
          refine lv_ior hx hb dX5_waitedFor_27 ?_
          refine lv_istore_n (lv' := [(2, .int ((nI (bits (awB F Q0 t) i)) ||| ((nI 1) <<< ((nI i) &&& 31)))), (0, .ref (ad 0)), (1, .int (nI t)), (3, .int (nI i))]) hx hb dX5_waitedFor_28 rfl hl (by decide) rfl (fun ls hl => ?_)
          refine lv_iinc (v := (nI (i + 1))) (lv' := [(3, .int (nI (i + 1))), (2, .int ((nI (bits (awB F Q0 t) i)) ||| ((nI 1) <<< ((nI i) &&& 31)))), (0, .ref (ad 0)), (1, .int (nI t))]) hx hb dX5_waitedFor_29 hl (k := 3) rfl (nI_add _ 1) (by decide) rfl (fun ls hl => ?_)
          refine lv_goto (tgt := 4) hx hb dX5_waitedFor_32 (by decide) ?_
          rw [show ((nI (bits (awB F Q0 t) i)) ||| ((nI 1) <<< ((nI i) &&& 31))) = (nI (bits (awB F Q0 t) (i + 1))) from (bits_t (by omega) h_2)] at hl
          exact ih4 (i + 1) (by omega) (by omega) _ _ hP hD hS _ (lv_sub hl [2, 3, 1, 0] rfl)
  rw [show (nI 0) = (nI (bits (awB F Q0 t) 0)) from rfl] at hl
  exact L4 _ 0 (Nat.zero_le _) (Nat.lt_succ_self _) _ _ hP hD hS _ (lv_sub hl [2, 3, 1, 0] rfl)

abbrev rX5_serve : Room := { frames := 3, cells := 0, slots := 0, locals := 68 }
set_option maxHeartbeats 1000000 in
set_option maxRecDepth 100000 in
theorem c_X5_serve (l : Launch) (D : va_G) (cI cT : ClassId) (ad : Nat → Nat) (th sv ln vs rl cm fi se : Int32) (z zs sd tx ds rg : Nat → Int32) (F : FF) (Q0 : QQ) (hZ : RZ F Q0 z) (hJ : JJ F Q0) : CN l D cI cT yX5_serve wsX5_serve rX5_serve [.ref (ad 0)] (refW cI ad th sv ln vs rl cm fi se z zs sd tx ds rg) (S := Nat → Int32) (fun v u => v = nI (srvN F Q0) ∧ RZ (srvF F Q0) (srvQ F Q0) u) (fun u => refW cI ad th sv ln vs rl cm fi se u zs sd tx ds rg) := by
  refine CN.of (cc := cX5_serve) (maxL := 6) (ret := (some .int)) (by decide) rfl (Nat.le_of_ble_eq_true rfl) ?_
  intro p e s m args below meth c A Q hQ B hA H locs hP hK hD hS ls hl
  obtain ⟨hx, hb, hml, hrt, hts, hown, hlk⟩ := B
  have hP : va_P D vwCl ([(ad 0, .inr (5, [.int th, .ref (ad 1), .ref (ad 2), .ref (ad 3), .int sv, .ref (ad 4), .int ln, .int vs, .ref (ad 5), .ref (ad 6), .int rl, .int cm, .int fi, .int se])), (ad 1, .inl (cI, 221, .inl z)), (ad 2, .inl (cI, 221, .inl zs)), (ad 3, .inl (cI, 1768, .inl sd)), (ad 4, .inl (cI, 80, .inl tx)), (ad 5, .inl (cI, 8, .inl ds)), (ad 6, .inl (cI, 8, .inl rg))]) H := hP
  have hD : va_D A ([(ad 0, .inr (5, [.int th, .ref (ad 1), .ref (ad 2), .ref (ad 3), .int sv, .ref (ad 4), .int ln, .int vs, .ref (ad 5), .ref (ad 6), .int rl, .int cm, .int fi, .int se])), (ad 1, .inl (cI, 221, .inl z)), (ad 2, .inl (cI, 221, .inl zs)), (ad 3, .inl (cI, 1768, .inl sd)), (ad 4, .inl (cI, 80, .inl tx)), (ad 5, .inl (cI, 8, .inl ds)), (ad 6, .inl (cI, 8, .inl rg))]) := hD
  have hl : lv_has ls 6 [(0, .ref (ad 0))] := hl
  refine lv_iconst (v := (nI 0)) hx hb dX5_serve_0 (by decide) ?_
  refine lv_istore_n (lv' := [(1, .int (nI 0)), (0, .ref (ad 0))]) hx hb dX5_serve_1 rfl hl (by decide) rfl (fun ls hl => ?_)
  refine lv_iconst (v := (nI 0)) hx hb dX5_serve_2 (by decide) ?_
  refine lv_istore_n (lv' := [(2, .int (nI 0)), (1, .int (nI 0)), (0, .ref (ad 0))]) hx hb dX5_serve_3 rfl hl (by decide) rfl (fun ls hl => ?_)
  have L4 : ∀ (N : Nat) (k : Nat) (y : Nat → Int32), (k ≤ 10) → (RZ (serA F Q0 k).1 (serA F Q0 k).2.1 y) → (10 - k) < N → ∀ (H : Heap) (locs : List Loc), va_P D vwCl ([(ad 0, .inr (5, [.int th, .ref (ad 1), .ref (ad 2), .ref (ad 3), .int sv, .ref (ad 4), .int ln, .int vs, .ref (ad 5), .ref (ad 6), .int rl, .int cm, .int fi, .int se])), (ad 1, .inl (cI, 221, .inl y)), (ad 2, .inl (cI, 221, .inl zs)), (ad 3, .inl (cI, 1768, .inl sd)), (ad 4, .inl (cI, 80, .inl tx)), (ad 5, .inl (cI, 8, .inl ds)), (ad 6, .inl (cI, 8, .inl rg))]) H → va_D A ([(ad 0, .inr (5, [.int th, .ref (ad 1), .ref (ad 2), .ref (ad 3), .int sv, .ref (ad 4), .int ln, .int vs, .ref (ad 5), .ref (ad 6), .int rl, .int cm, .int fi, .int se])), (ad 1, .inl (cI, 221, .inl y)), (ad 2, .inl (cI, 221, .inl zs)), (ad 3, .inl (cI, 1768, .inl sd)), (ad 4, .inl (cI, 80, .inl tx)), (ad 5, .inl (cI, 8, .inl ds)), (ad 6, .inl (cI, 8, .inl rg))]) → va_S A s.heap H locs → ∀ ls : Array Slot, lv_has ls 6 [(0, .ref (ad 0)), (1, .int (nI ((serA F Q0 k).2.2))), (2, .int (nI k))] → W p l e rX5_serve s m args below meth c H locs 0 0 Q (F0 m 4 ls []) := by
    intro N4
    induction N4 with
    | zero => intro k y hk hY hN; exact absurd hN (Nat.not_lt_zero _)
    | succ N4 ih4 =>
      intro k y hk hY hN H locs hP hD hS ls hl
      have hJk := JJ_serA hJ k hk
      refine lv_iload_n hx hb dX5_serve_4 rfl (lv_at hl 2 rfl) ?_
      refine lv_bipush (v := (nI 10)) hx hb dX5_serve_5 (by decide) ?_
      refine lv_icmp_ge (tgt := 100) hx hb dX5_serve_7 (by decide) (fun h_1 => ?_) (fun h_1 => ?_)
      · have h_1 := (nI_leI (a := 10) (b := k) (by first | omega | exact bits_lt31 _ | exact bitN_lt _ _ | exact bool_lt _ | exact and_lt31 _ _ _ _ | exact Nat.lt_of_le_of_lt (dst_lt _ _ _ (by omega) _) (by decide) | exact Nat.lt_of_le_of_lt (nrB_le _ _ _ (by omega)).2 (by decide) | decide) (by first | omega | exact bits_lt31 _ | exact bitN_lt _ _ | exact bool_lt _ | exact and_lt31 _ _ _ _ | exact Nat.lt_of_le_of_lt (dst_lt _ _ _ (by omega) _) (by decide) | exact Nat.lt_of_le_of_lt (nrB_le _ _ _ (by omega)).2 (by decide) | decide)).mp h_1
        refine lv_iload_n hx hb dX5_serve_100 rfl (lv_at hl 1 rfl) ?_
        have hk10 : k = 10 := by omega
        rw [hk10] at hY
        exact ret_i (u := y) hQ hx hb hrt hlk hS dX5_serve_101 hP ⟨by rw [hk10]; rfl, hY⟩
      · have h_1 := mt (nI_leI (a := 10) (b := k) (by first | omega | exact bits_lt31 _ | exact bitN_lt _ _ | exact bool_lt _ | exact and_lt31 _ _ _ _ | exact Nat.lt_of_le_of_lt (dst_lt _ _ _ (by omega) _) (by decide) | exact Nat.lt_of_le_of_lt (nrB_le _ _ _ (by omega)).2 (by decide) | decide) (by first | omega | exact bits_lt31 _ | exact bitN_lt _ _ | exact bool_lt _ | exact and_lt31 _ _ _ _ | exact Nat.lt_of_le_of_lt (dst_lt _ _ _ (by omega) _) (by decide) | exact Nat.lt_of_le_of_lt (nrB_le _ _ _ (by omega)).2 (by decide) | decide)).mpr h_1
        refine lv_aload_n hx hb dX5_serve_10 rfl (lv_at hl 0 rfl) ?_
        refine lv_iload_n hx hb dX5_serve_11 rfl (lv_at hl 2 rfl) ?_
        refine call_i (X := []) (Z := []) (As := [.int (nI k)]) (rest := []) ⟨hx, hb, hml, hown, hts⟩ (c_X5_queueOf l D cI cT ad th sv ln vs rl cm fi se y zs sd tx ds rg k (by omega)) (cwV 1 hts gX5_serve_X5_queueOf rfl rfl rfl (by decide +kernel) ⟨Nat.le_of_ble_eq_true rfl, Nat.le_of_ble_eq_true rfl⟩) hK hP hD hS hA (va_recv hK hP (ci := 5) (q0 := 0) rfl rfl) (fun _ => rfl) rfl hl.1 rfl (Nat.le_of_ble_eq_true rfl) ⟨by decide, by decide⟩ dX5_serve_12 (fun rv _ H locs hp hP hD hS => ?_)
        obtain rfl := hp
        have hP : va_P D vwCl ([(ad 0, .inr (5, [.int th, .ref (ad 1), .ref (ad 2), .ref (ad 3), .int sv, .ref (ad 4), .int ln, .int vs, .ref (ad 5), .ref (ad 6), .int rl, .int cm, .int fi, .int se])), (ad 1, .inl (cI, 221, .inl y)), (ad 2, .inl (cI, 221, .inl zs)), (ad 3, .inl (cI, 1768, .inl sd)), (ad 4, .inl (cI, 80, .inl tx)), (ad 5, .inl (cI, 8, .inl ds)), (ad 6, .inl (cI, 8, .inl rg))]) H := hP
        have hD : va_D A ([(ad 0, .inr (5, [.int th, .ref (ad 1), .ref (ad 2), .ref (ad 3), .int sv, .ref (ad 4), .int ln, .int vs, .ref (ad 5), .ref (ad 6), .int rl, .int cm, .int fi, .int se])), (ad 1, .inl (cI, 221, .inl y)), (ad 2, .inl (cI, 221, .inl zs)), (ad 3, .inl (cI, 1768, .inl sd)), (ad 4, .inl (cI, 80, .inl tx)), (ad 5, .inl (cI, 8, .inl ds)), (ad 6, .inl (cI, 8, .inl rg))]) := hD
        have hq8 := JJ_len hJk (show k < 10 by omega)
        refine tpe (y := nI (qlen ((serA F Q0 k).2.1) k)) (RZ_n hY (by omega)) ?_
        refine lv_if_le (tgt := 22) hx hb dX5_serve_15 (by decide) (fun h_2 => ?_) (fun h_2 => ?_)
        · have h_2 := (nI_leI (a := (qlen ((serA F Q0 k).2.1) k)) (b := 0) (by first | omega | exact bits_lt31 _ | exact bitN_lt _ _ | exact bool_lt _ | exact and_lt31 _ _ _ _ | exact Nat.lt_of_le_of_lt (dst_lt _ _ _ (by omega) _) (by decide) | exact Nat.lt_of_le_of_lt (nrB_le _ _ _ (by omega)).2 (by decide) | decide) (by first | omega | exact bits_lt31 _ | exact bitN_lt _ _ | exact bool_lt _ | exact and_lt31 _ _ _ _ | exact Nat.lt_of_le_of_lt (dst_lt _ _ _ (by omega) _) (by decide) | exact Nat.lt_of_le_of_lt (nrB_le _ _ _ (by omega)).2 (by decide) | decide)).mp h_2
          refine lv_iconst (v := (nI 0)) hx hb dX5_serve_22 (by decide) ?_
          refine lv_istore_n (lv' := [(3, .int (nI 0)), (0, .ref (ad 0)), (1, .int (nI ((serA F Q0 k).2.2))), (2, .int (nI k))]) hx hb dX5_serve_23 rfl hl (by decide) rfl (fun ls hl => ?_)
          have L24 : ∀ (N : Nat) (i : Nat) (Fc : FF) (Qc : QQ) (y : Nat → Int32) (bg : Bool), (bg = true → 0 < qlen Qc k) → (bg = false → sfR Fc Qc k = false) → (serI k (serA F Q0 k).1 (serA F Q0 k).2.1 Fc Qc i) → (i + qlen Qc k ≤ 8) → (JJ Fc Qc) → (RZ Fc Qc y) → (2 * (8 - i) + bg.toNat) < N → ∀ (H : Heap) (locs : List Loc), va_P D vwCl ([(ad 0, .inr (5, [.int th, .ref (ad 1), .ref (ad 2), .ref (ad 3), .int sv, .ref (ad 4), .int ln, .int vs, .ref (ad 5), .ref (ad 6), .int rl, .int cm, .int fi, .int se])), (ad 1, .inl (cI, 221, .inl y)), (ad 2, .inl (cI, 221, .inl zs)), (ad 3, .inl (cI, 1768, .inl sd)), (ad 4, .inl (cI, 80, .inl tx)), (ad 5, .inl (cI, 8, .inl ds)), (ad 6, .inl (cI, 8, .inl rg))]) H → va_D A ([(ad 0, .inr (5, [.int th, .ref (ad 1), .ref (ad 2), .ref (ad 3), .int sv, .ref (ad 4), .int ln, .int vs, .ref (ad 5), .ref (ad 6), .int rl, .int cm, .int fi, .int se])), (ad 1, .inl (cI, 221, .inl y)), (ad 2, .inl (cI, 221, .inl zs)), (ad 3, .inl (cI, 1768, .inl sd)), (ad 4, .inl (cI, 80, .inl tx)), (ad 5, .inl (cI, 8, .inl ds)), (ad 6, .inl (cI, 8, .inl rg))]) → va_S A s.heap H locs → ∀ ls : Array Slot, lv_has ls 6 [(0, .ref (ad 0)), (1, .int (nI ((serA F Q0 k).2.2 + i))), (2, .int (nI k)), (3, .int (nI bg.toNat))] → W p l e rX5_serve s m args below meth c H locs 0 0 Q (F0 m 24 ls []) := by
            intro N24
            induction N24 with
            | zero => intro i Fc Qc y bg hg hgf hI hc hJc hYc hN; exact absurd hN (Nat.not_lt_zero _)
            | succ N24 ih24 =>
              intro i Fc Qc y bg hg hgf hI hc hJc hYc hN H locs hP hD hS ls hl
              refine lv_iload_n hx hb dX5_serve_24 rfl (lv_at hl 3 rfl) ?_
              refine lv_if_eq (tgt := 94) hx hb dX5_serve_25 (by decide) (fun h_3 => ?_) (fun h_3 => ?_)
              · have h_3 := (nI_eq (a := bg.toNat) (b := 0) (by first | omega | exact bits_lt31 _ | exact bitN_lt _ _ | exact bool_lt _ | exact and_lt31 _ _ _ _ | exact Nat.lt_of_le_of_lt (dst_lt _ _ _ (by omega) _) (by decide) | exact Nat.lt_of_le_of_lt (nrB_le _ _ _ (by omega)).2 (by decide) | decide) (by first | omega | exact bits_lt31 _ | exact bitN_lt _ _ | exact bool_lt _ | exact and_lt31 _ _ _ _ | exact Nat.lt_of_le_of_lt (dst_lt _ _ _ (by omega) _) (by decide) | exact Nat.lt_of_le_of_lt (nrB_le _ _ _ (by omega)).2 (by decide) | decide)).mp h_3
                have h_3 := tn_f h_3
                have hs0 := serI_e (Or.inr (hgf h_3)) hI
                have hs1 := serA_s hs0
                refine lv_iinc (v := (nI (k + 1))) (lv' := [(2, .int (nI (k + 1))), (0, .ref (ad 0)), (1, .int (nI ((serA F Q0 k).2.2 + i))), (3, .int (nI bg.toNat))]) hx hb dX5_serve_94 hl (k := 2) rfl (nI_add _ 1) (by decide) rfl (fun ls hl => ?_)
                refine lv_goto (tgt := 4) hx hb dX5_serve_97 (by decide) ?_
                rw [show (nI ((serA F Q0 k).2.2 + i)) = (nI ((serA F Q0 (k + 1)).2.2)) from (congrArg nI hs1.2.2)] at hl
                exact ih4 (k + 1) y (by omega) (by rw [← hs1.1, ← hs1.2.1]; exact hYc) (by omega) _ _ hP hD hS _ (lv_sub hl [1, 2, 0] rfl)
              · have h_3 := mt (nI_eq (a := bg.toNat) (b := 0) (by first | omega | exact bits_lt31 _ | exact bitN_lt _ _ | exact bool_lt _ | exact and_lt31 _ _ _ _ | exact Nat.lt_of_le_of_lt (dst_lt _ _ _ (by omega) _) (by decide) | exact Nat.lt_of_le_of_lt (nrB_le _ _ _ (by omega)).2 (by decide) | decide) (by first | omega | exact bits_lt31 _ | exact bitN_lt _ _ | exact bool_lt _ | exact and_lt31 _ _ _ _ | exact Nat.lt_of_le_of_lt (dst_lt _ _ _ (by omega) _) (by decide) | exact Nat.lt_of_le_of_lt (nrB_le _ _ _ (by omega)).2 (by decide) | decide)).mpr h_3
                have h_3 := tn_y h_3
                have hbt := h_3
                have hq0 := hg hbt
                refine lv_aload_n hx hb dX5_serve_28 rfl (lv_at hl 0 rfl) ?_
                refine lv_iload_n hx hb dX5_serve_29 rfl (lv_at hl 2 rfl) ?_
                refine lv_iconst (v := (nI 0)) hx hb dX5_serve_30 (by decide) ?_
                refine call_i (X := []) (Z := []) (As := [.int (nI k), .int (nI 0)]) (rest := []) ⟨hx, hb, hml, hown, hts⟩ (c_X5_queuedAt l D cI cT ad th sv ln vs rl cm fi se y zs sd tx ds rg k 0 (by omega)) (cwV 2 hts gX5_serve_X5_queuedAt rfl rfl rfl (by decide +kernel) ⟨Nat.le_of_ble_eq_true rfl, Nat.le_of_ble_eq_true rfl⟩) hK hP hD hS hA (va_recv hK hP (ci := 5) (q0 := 0) rfl rfl) (fun _ => rfl) rfl hl.1 rfl (Nat.le_of_ble_eq_true rfl) ⟨by decide, by decide⟩ dX5_serve_31 (fun rv _ H locs hp hP hD hS => ?_)
                obtain rfl := hp
                have hP : va_P D vwCl ([(ad 0, .inr (5, [.int th, .ref (ad 1), .ref (ad 2), .ref (ad 3), .int sv, .ref (ad 4), .int ln, .int vs, .ref (ad 5), .ref (ad 6), .int rl, .int cm, .int fi, .int se])), (ad 1, .inl (cI, 221, .inl y)), (ad 2, .inl (cI, 221, .inl zs)), (ad 3, .inl (cI, 1768, .inl sd)), (ad 4, .inl (cI, 80, .inl tx)), (ad 5, .inl (cI, 8, .inl ds)), (ad 6, .inl (cI, 8, .inl rg))]) H := hP
                have hD : va_D A ([(ad 0, .inr (5, [.int th, .ref (ad 1), .ref (ad 2), .ref (ad 3), .int sv, .ref (ad 4), .int ln, .int vs, .ref (ad 5), .ref (ad 6), .int rl, .int cm, .int fi, .int se])), (ad 1, .inl (cI, 221, .inl y)), (ad 2, .inl (cI, 221, .inl zs)), (ad 3, .inl (cI, 1768, .inl sd)), (ad 4, .inl (cI, 80, .inl tx)), (ad 5, .inl (cI, 8, .inl ds)), (ad 6, .inl (cI, 8, .inl rg))]) := hD
                obtain ⟨o9, ho9⟩ : ∃ z, z = (Qc k).getD 0 0 := ⟨_, rfl⟩
                have hoq := JJ_at hJc (i := 0) (show k < 10 by omega) (by omega)
                rw [← ho9] at hoq
                have ho8 : o9 < 8 := (hJc.2.1 k (by omega) _ hoq).1
                have ho3 := (hJc.2.1 k (by omega) _ hoq).2
                refine tpe (y := nI o9) (by rw [ho9]; exact RZ_q hYc (by omega) (by omega)) ?_
                refine lv_istore (lv' := [(4, .int (nI o9)), (0, .ref (ad 0)), (1, .int (nI ((serA F Q0 k).2.2 + i))), (2, .int (nI k)), (3, .int (nI bg.toNat))]) hx hb dX5_serve_34 hl (by decide) rfl (fun ls hl => ?_)
                have n3o : ¬ Fc 3 o9 = -1 := by rw [ho3]; exact m1_nI (by omega)
                refine lv_aload_n hx hb dX5_serve_36 rfl (lv_at hl 1 rfl) ?_
                refine lv_iload hx hb dX5_serve_37 (lv_at hl 0 rfl) ?_
                refine lv_iconst (v := (nI 5)) hx hb dX5_serve_39 (by decide) ?_
                refine call_i (X := []) (Z := []) (As := [.int (nI o9), .int (nI 5)]) (rest := []) ⟨hx, hb, hml, hown, hts⟩ (c_X5_of l D cI cT ad th sv ln vs rl cm fi se y zs sd tx ds rg o9 5 (by omega)) (cwV 2 hts gX5_serve_X5_of rfl rfl rfl (by decide +kernel) ⟨Nat.le_of_ble_eq_true rfl, Nat.le_of_ble_eq_true rfl⟩) hK hP hD hS hA (va_recv hK hP (ci := 5) (q0 := 0) rfl rfl) (fun _ => rfl) rfl hl.1 rfl (Nat.le_of_ble_eq_true rfl) ⟨by decide, by decide⟩ dX5_serve_40 (fun rv _ H locs hp hP hD hS => ?_)
                obtain rfl := hp
                have hP : va_P D vwCl ([(ad 0, .inr (5, [.int th, .ref (ad 1), .ref (ad 2), .ref (ad 3), .int sv, .ref (ad 4), .int ln, .int vs, .ref (ad 5), .ref (ad 6), .int rl, .int cm, .int fi, .int se])), (ad 1, .inl (cI, 221, .inl y)), (ad 2, .inl (cI, 221, .inl zs)), (ad 3, .inl (cI, 1768, .inl sd)), (ad 4, .inl (cI, 80, .inl tx)), (ad 5, .inl (cI, 8, .inl ds)), (ad 6, .inl (cI, 8, .inl rg))]) H := hP
                have hD : va_D A ([(ad 0, .inr (5, [.int th, .ref (ad 1), .ref (ad 2), .ref (ad 3), .int sv, .ref (ad 4), .int ln, .int vs, .ref (ad 5), .ref (ad 6), .int rl, .int cm, .int fi, .int se])), (ad 1, .inl (cI, 221, .inl y)), (ad 2, .inl (cI, 221, .inl zs)), (ad 3, .inl (cI, 1768, .inl sd)), (ad 4, .inl (cI, 80, .inl tx)), (ad 5, .inl (cI, 8, .inl ds)), (ad 6, .inl (cI, 8, .inl rg))]) := hD
                refine tpe (y := mdZ Fc o9) (RZ_5 hYc (by omega)) ?_
                refine tpe (y := (Fc 4 o9)) (mdZ_w n3o) ?_
                refine lv_istore (lv' := [(5, .int (Fc 4 o9)), (4, .int (nI o9)), (0, .ref (ad 0)), (1, .int (nI ((serA F Q0 k).2.2 + i))), (2, .int (nI k)), (3, .int (nI bg.toNat))]) hx hb dX5_serve_43 hl (by decide) rfl (fun ls hl => ?_)
                refine lv_aload_n hx hb dX5_serve_45 rfl (lv_at hl 2 rfl) ?_
                refine lv_iload hx hb dX5_serve_46 (lv_at hl 1 rfl) ?_
                refine lv_iload_n hx hb dX5_serve_48 rfl (lv_at hl 4 rfl) ?_
                refine lv_iload hx hb dX5_serve_49 (lv_at hl 0 rfl) ?_
                refine call_i (X := []) (Z := []) (As := [.int (nI o9), .int (nI k), .int (Fc 4 o9)]) (rest := []) ⟨hx, hb, hml, hown, hts⟩ (c_X5_canHold l D cI cT ad th sv ln vs rl cm fi se y zs sd tx ds rg Fc Qc o9 k (Fc 4 o9) (by omega) (by omega) hYc) (cwV 3 hts gX5_serve_X5_canHold rfl rfl rfl (by decide +kernel) ⟨Nat.le_of_ble_eq_true rfl, Nat.le_of_ble_eq_true rfl⟩) hK hP hD hS hA (va_recv hK hP (ci := 5) (q0 := 0) rfl rfl) (fun _ => rfl) rfl hl.1 rfl (Nat.le_of_ble_eq_true rfl) ⟨by decide, by decide⟩ dX5_serve_51 (fun rv _ H locs hp hP hD hS => ?_)
                obtain rfl := hp
                have hP : va_P D vwCl ([(ad 0, .inr (5, [.int th, .ref (ad 1), .ref (ad 2), .ref (ad 3), .int sv, .ref (ad 4), .int ln, .int vs, .ref (ad 5), .ref (ad 6), .int rl, .int cm, .int fi, .int se])), (ad 1, .inl (cI, 221, .inl y)), (ad 2, .inl (cI, 221, .inl zs)), (ad 3, .inl (cI, 1768, .inl sd)), (ad 4, .inl (cI, 80, .inl tx)), (ad 5, .inl (cI, 8, .inl ds)), (ad 6, .inl (cI, 8, .inl rg))]) H := hP
                have hD : va_D A ([(ad 0, .inr (5, [.int th, .ref (ad 1), .ref (ad 2), .ref (ad 3), .int sv, .ref (ad 4), .int ln, .int vs, .ref (ad 5), .ref (ad 6), .int rl, .int cm, .int fi, .int se])), (ad 1, .inl (cI, 221, .inl y)), (ad 2, .inl (cI, 221, .inl zs)), (ad 3, .inl (cI, 1768, .inl sd)), (ad 4, .inl (cI, 80, .inl tx)), (ad 5, .inl (cI, 8, .inl ds)), (ad 6, .inl (cI, 8, .inl rg))]) := hD
                refine lv_istore_n (lv' := [(3, .int (nI ((alN (fun u => !rivB Fc o9 k (Fc 4 o9) u) 8).toNat))), (5, .int (Fc 4 o9)), (4, .int (nI o9)), (0, .ref (ad 0)), (1, .int (nI ((serA F Q0 k).2.2 + i))), (2, .int (nI k))]) hx hb dX5_serve_54 rfl hl (by decide) rfl (fun ls hl => ?_)
                refine lv_iload_n hx hb dX5_serve_55 rfl (lv_at hl 0 rfl) ?_
                refine lv_if_eq (tgt := 91) hx hb dX5_serve_56 (by decide) (fun h_4 => ?_) (fun h_4 => ?_)
                · have h_4 := (nI_eq (a := ((alN (fun u => !rivB Fc o9 k (Fc 4 o9) u) 8).toNat)) (b := 0) (by first | omega | exact bits_lt31 _ | exact bitN_lt _ _ | exact bool_lt _ | exact and_lt31 _ _ _ _ | exact Nat.lt_of_le_of_lt (dst_lt _ _ _ (by omega) _) (by decide) | exact Nat.lt_of_le_of_lt (nrB_le _ _ _ (by omega)).2 (by decide) | decide) (by first | omega | exact bits_lt31 _ | exact bitN_lt _ _ | exact bool_lt _ | exact and_lt31 _ _ _ _ | exact Nat.lt_of_le_of_lt (dst_lt _ _ _ (by omega) _) (by decide) | exact Nat.lt_of_le_of_lt (nrB_le _ _ _ (by omega)).2 (by decide) | decide)).mp h_4
                  have h_4 := tn_f h_4
                  refine lv_goto (tgt := 24) hx hb dX5_serve_91 (by decide) ?_
                  rw [show (nI ((alN (fun u => !rivB Fc o9 k (Fc 4 o9) u) 8).toNat)) = (nI false.toNat) from (by rw [h_4])] at hl
                  exact ih24 i Fc Qc y false (fun e => by cases e) (fun _ => sf_alN ho9 hq0 h_4) hI hc hJc hYc (by simp only [hbt, Bool.toNat_true, Bool.toNat_false] at *; omega) _ _ hP hD hS _ (lv_sub hl [3, 4, 5, 0] rfl)
                · have h_4 := mt (nI_eq (a := ((alN (fun u => !rivB Fc o9 k (Fc 4 o9) u) 8).toNat)) (b := 0) (by first | omega | exact bits_lt31 _ | exact bitN_lt _ _ | exact bool_lt _ | exact and_lt31 _ _ _ _ | exact Nat.lt_of_le_of_lt (dst_lt _ _ _ (by omega) _) (by decide) | exact Nat.lt_of_le_of_lt (nrB_le _ _ _ (by omega)).2 (by decide) | decide) (by first | omega | exact bits_lt31 _ | exact bitN_lt _ _ | exact bool_lt _ | exact and_lt31 _ _ _ _ | exact Nat.lt_of_le_of_lt (dst_lt _ _ _ (by omega) _) (by decide) | exact Nat.lt_of_le_of_lt (nrB_le _ _ _ (by omega)).2 (by decide) | decide)).mpr h_4
                  have h_4 := tn_y h_4
                  have hsy := sf_alN ho9 hq0 h_4
                  have hqr := qlen_rm hJc (show k < 10 by omega) hoq
                  have es1 := (sf_yes hsy).1
                  have es2 := (sf_yes hsy).2
                  rw [← ho9] at es1 es2
                  have ho48 : Fc 4 o9 = nI 1 ∨ Fc 4 o9 = nI 2 := (hJc.2.2.2.2.2.1 k (by omega) _ hoq).elim (fun q => Or.inl q.1) (fun q => Or.inr q.1)
                  refine lv_aload_n hx hb dX5_serve_59 rfl (lv_at hl 3 rfl) ?_
                  refine lv_iload hx hb dX5_serve_60 (lv_at hl 2 rfl) ?_
                  refine call_v (X := []) (Z := []) (As := [.int (nI o9)]) (rest := []) ⟨hx, hb, hml, hown, hts⟩ (c_X5_dequeue l D cI cT ad th sv ln vs rl cm fi se y zs sd tx ds rg Fc Qc o9 k (by omega) (by omega) ho3 hoq hYc hJc) (cwV 1 hts gX5_serve_X5_dequeue rfl rfl rfl (by decide +kernel) ⟨Nat.le_of_ble_eq_true rfl, Nat.le_of_ble_eq_true rfl⟩) hK hP hD hS hA (va_recv hK hP (ci := 5) (q0 := 0) rfl rfl) (fun _ => adr_ref.trans adr_ref.symm) rfl hl.1 rfl (Nat.le_of_ble_eq_true rfl) ⟨by decide, by decide⟩ dX5_serve_62 (fun z1 H locs hp hP hD hS => ?_)
                  have hZ1 := hp
                  have hJ1 := JJ_rm hJc (t := o9) (by omega)
                  have hP : va_P D vwCl ([(ad 0, .inr (5, [.int th, .ref (ad 1), .ref (ad 2), .ref (ad 3), .int sv, .ref (ad 4), .int ln, .int vs, .ref (ad 5), .ref (ad 6), .int rl, .int cm, .int fi, .int se])), (ad 1, .inl (cI, 221, .inl z1)), (ad 2, .inl (cI, 221, .inl zs)), (ad 3, .inl (cI, 1768, .inl sd)), (ad 4, .inl (cI, 80, .inl tx)), (ad 5, .inl (cI, 8, .inl ds)), (ad 6, .inl (cI, 8, .inl rg))]) H := hP
                  have hD : va_D A ([(ad 0, .inr (5, [.int th, .ref (ad 1), .ref (ad 2), .ref (ad 3), .int sv, .ref (ad 4), .int ln, .int vs, .ref (ad 5), .ref (ad 6), .int rl, .int cm, .int fi, .int se])), (ad 1, .inl (cI, 221, .inl z1)), (ad 2, .inl (cI, 221, .inl zs)), (ad 3, .inl (cI, 1768, .inl sd)), (ad 4, .inl (cI, 80, .inl tx)), (ad 5, .inl (cI, 8, .inl ds)), (ad 6, .inl (cI, 8, .inl rg))]) := hD
                  refine lv_aload_n hx hb dX5_serve_65 rfl (lv_at hl 3 rfl) ?_
                  refine lv_iload hx hb dX5_serve_66 (lv_at hl 2 rfl) ?_
                  refine lv_iload_n hx hb dX5_serve_68 rfl (lv_at hl 5 rfl) ?_
                  refine lv_iload hx hb dX5_serve_69 (lv_at hl 1 rfl) ?_
                  refine call_v (X := []) (Z := []) (As := [.int (nI o9), .int (nI k), .int (Fc 4 o9)]) (rest := []) ⟨hx, hb, hml, hown, hts⟩ (c_X5_grant l D cI cT ad th sv ln vs rl cm fi se z1 zs sd tx ds rg o9 k (Fc 4 o9) (by omega) (by omega)) (cwV 3 hts gX5_serve_X5_grant rfl rfl rfl (by decide +kernel) ⟨Nat.le_of_ble_eq_true rfl, Nat.le_of_ble_eq_true rfl⟩) hK hP hD hS hA (va_recv hK hP (ci := 5) (q0 := 0) rfl rfl) (fun _ => adr_ref.trans adr_ref.symm) rfl hl.1 rfl (Nat.le_of_ble_eq_true rfl) ⟨by decide, by decide⟩ dX5_serve_71 (fun _ H locs hp hP hD hS => ?_)
                  have hZ2 := RZ_gr (m := (Fc 4 o9)) hJ1 hZ1 (show o9 < 8 by omega) (show k < 10 by omega)
                  have hP : va_P D vwCl ([(ad 0, .inr (5, [.int th, .ref (ad 1), .ref (ad 2), .ref (ad 3), .int sv, .ref (ad 4), .int ln, .int vs, .ref (ad 5), .ref (ad 6), .int rl, .int cm, .int fi, .int se])), (ad 1, .inl (cI, 221, .inl (grZ z1 o9 k (Fc 4 o9)))), (ad 2, .inl (cI, 221, .inl zs)), (ad 3, .inl (cI, 1768, .inl sd)), (ad 4, .inl (cI, 80, .inl tx)), (ad 5, .inl (cI, 8, .inl ds)), (ad 6, .inl (cI, 8, .inl rg))]) H := hP
                  have hD : va_D A ([(ad 0, .inr (5, [.int th, .ref (ad 1), .ref (ad 2), .ref (ad 3), .int sv, .ref (ad 4), .int ln, .int vs, .ref (ad 5), .ref (ad 6), .int rl, .int cm, .int fi, .int se])), (ad 1, .inl (cI, 221, .inl (grZ z1 o9 k (Fc 4 o9)))), (ad 2, .inl (cI, 221, .inl zs)), (ad 3, .inl (cI, 1768, .inl sd)), (ad 4, .inl (cI, 80, .inl tx)), (ad 5, .inl (cI, 8, .inl ds)), (ad 6, .inl (cI, 8, .inl rg))]) := hD
                  refine lv_iinc (v := (nI ((serA F Q0 k).2.2 + i + 1))) (lv' := [(1, .int (nI ((serA F Q0 k).2.2 + i + 1))), (3, .int (nI ((alN (fun u => !rivB Fc o9 k (Fc 4 o9) u) 8).toNat))), (5, .int (Fc 4 o9)), (4, .int (nI o9)), (0, .ref (ad 0)), (2, .int (nI k))]) hx hb dX5_serve_74 hl (k := 4) rfl (nI_add _ 1) (by decide) rfl (fun ls hl => ?_)
                  refine lv_aload_n hx hb dX5_serve_77 rfl (lv_at hl 4 rfl) ?_
                  refine lv_iload_n hx hb dX5_serve_78 rfl (lv_at hl 5 rfl) ?_
                  refine call_i (X := []) (Z := []) (As := [.int (nI k)]) (rest := []) ⟨hx, hb, hml, hown, hts⟩ (c_X5_queueOf l D cI cT ad th sv ln vs rl cm fi se (grZ z1 o9 k (Fc 4 o9)) zs sd tx ds rg k (by omega)) (cwV 1 hts gX5_serve_X5_queueOf rfl rfl rfl (by decide +kernel) ⟨Nat.le_of_ble_eq_true rfl, Nat.le_of_ble_eq_true rfl⟩) hK hP hD hS hA (va_recv hK hP (ci := 5) (q0 := 0) rfl rfl) (fun _ => rfl) rfl hl.1 rfl (Nat.le_of_ble_eq_true rfl) ⟨by decide, by decide⟩ dX5_serve_79 (fun rv _ H locs hp hP hD hS => ?_)
                  obtain rfl := hp
                  have hP : va_P D vwCl ([(ad 0, .inr (5, [.int th, .ref (ad 1), .ref (ad 2), .ref (ad 3), .int sv, .ref (ad 4), .int ln, .int vs, .ref (ad 5), .ref (ad 6), .int rl, .int cm, .int fi, .int se])), (ad 1, .inl (cI, 221, .inl (grZ z1 o9 k (Fc 4 o9)))), (ad 2, .inl (cI, 221, .inl zs)), (ad 3, .inl (cI, 1768, .inl sd)), (ad 4, .inl (cI, 80, .inl tx)), (ad 5, .inl (cI, 8, .inl ds)), (ad 6, .inl (cI, 8, .inl rg))]) H := hP
                  have hD : va_D A ([(ad 0, .inr (5, [.int th, .ref (ad 1), .ref (ad 2), .ref (ad 3), .int sv, .ref (ad 4), .int ln, .int vs, .ref (ad 5), .ref (ad 6), .int rl, .int cm, .int fi, .int se])), (ad 1, .inl (cI, 221, .inl (grZ z1 o9 k (Fc 4 o9)))), (ad 2, .inl (cI, 221, .inl zs)), (ad 3, .inl (cI, 1768, .inl sd)), (ad 4, .inl (cI, 80, .inl tx)), (ad 5, .inl (cI, 8, .inl ds)), (ad 6, .inl (cI, 8, .inl rg))]) := hD
                  have hq8 := JJ_len hJ1 (show k < 10 by omega)
                  refine tpe (y := nI (qlen (rmQ Fc Qc o9) k)) (RZ_n hZ2 (by omega)) ?_
                  refine lv_if_le (tgt := 89) hx hb dX5_serve_82 (by decide) (fun h_5 => ?_) (fun h_5 => ?_)
                  · have h_5 := (nI_leI (a := (qlen (rmQ Fc Qc o9) k)) (b := 0) (by first | omega | exact bits_lt31 _ | exact bitN_lt _ _ | exact bool_lt _ | exact and_lt31 _ _ _ _ | exact Nat.lt_of_le_of_lt (dst_lt _ _ _ (by omega) _) (by decide) | exact Nat.lt_of_le_of_lt (nrB_le _ _ _ (by omega)).2 (by decide) | decide) (by first | omega | exact bits_lt31 _ | exact bitN_lt _ _ | exact bool_lt _ | exact and_lt31 _ _ _ _ | exact Nat.lt_of_le_of_lt (dst_lt _ _ _ (by omega) _) (by decide) | exact Nat.lt_of_le_of_lt (nrB_le _ _ _ (by omega)).2 (by decide) | decide)).mp h_5
                    refine lv_iconst (v := (nI 0)) hx hb dX5_serve_89 (by decide) ?_
                    refine lv_istore_n (lv' := [(3, .int (nI 0)), (1, .int (nI ((serA F Q0 k).2.2 + i + 1))), (5, .int (Fc 4 o9)), (4, .int (nI o9)), (0, .ref (ad 0)), (2, .int (nI k))]) hx hb dX5_serve_90 rfl hl (by decide) rfl (fun ls hl => ?_)
                    refine lv_goto (tgt := 24) hx hb dX5_serve_91 (by decide) ?_
                    rw [show (nI ((serA F Q0 k).2.2 + i + 1)) = (nI ((serA F Q0 k).2.2 + (i + 1))) from rfl] at hl
                    rw [show (nI 0) = (nI false.toNat) from rfl] at hl
                    exact ih24 (i + 1) (sfF Fc Qc k) (sfQ Fc Qc k) (grZ z1 o9 k (Fc 4 o9)) false (fun e => by cases e) (fun _ => sf_emp (by rw [es2]; omega)) (serI_s (by omega) hsy hI) (by rw [es2]; omega) (JJ_sf hJc (by omega)) (by rw [es1, es2]; exact hZ2) (by simp only [hbt, Bool.toNat_true, Bool.toNat_false] at *; omega) _ _ hP hD hS _ (lv_sub hl [4, 1, 5, 0] rfl)
                  · have h_5 := mt (nI_leI (a := (qlen (rmQ Fc Qc o9) k)) (b := 0) (by first | omega | exact bits_lt31 _ | exact bitN_lt _ _ | exact bool_lt _ | exact and_lt31 _ _ _ _ | exact Nat.lt_of_le_of_lt (dst_lt _ _ _ (by omega) _) (by decide) | exact Nat.lt_of_le_of_lt (nrB_le _ _ _ (by omega)).2 (by decide) | decide) (by first | omega | exact bits_lt31 _ | exact bitN_lt _ _ | exact bool_lt _ | exact and_lt31 _ _ _ _ | exact Nat.lt_of_le_of_lt (dst_lt _ _ _ (by omega) _) (by decide) | exact Nat.lt_of_le_of_lt (nrB_le _ _ _ (by omega)).2 (by decide) | decide)).mpr h_5
                    refine lv_iconst (v := (nI 1)) hx hb dX5_serve_85 (by decide) ?_
                    refine lv_goto (tgt := 90) hx hb dX5_serve_86 (by decide) ?_
                    refine lv_istore_n (lv' := [(3, .int (nI 1)), (1, .int (nI ((serA F Q0 k).2.2 + i + 1))), (5, .int (Fc 4 o9)), (4, .int (nI o9)), (0, .ref (ad 0)), (2, .int (nI k))]) hx hb dX5_serve_90 rfl hl (by decide) rfl (fun ls hl => ?_)
                    refine lv_goto (tgt := 24) hx hb dX5_serve_91 (by decide) ?_
                    rw [show (nI ((serA F Q0 k).2.2 + i + 1)) = (nI ((serA F Q0 k).2.2 + (i + 1))) from rfl] at hl
                    rw [show (nI 1) = (nI true.toNat) from rfl] at hl
                    exact ih24 (i + 1) (sfF Fc Qc k) (sfQ Fc Qc k) (grZ z1 o9 k (Fc 4 o9)) true (fun _ => by rw [es2]; omega) (fun e => by cases e) (serI_s (by omega) hsy hI) (by rw [es2]; omega) (JJ_sf hJc (by omega)) (by rw [es1, es2]; exact hZ2) (by simp only [hbt, Bool.toNat_true, Bool.toNat_false] at *; omega) _ _ hP hD hS _ (lv_sub hl [4, 1, 5, 0] rfl)
          rw [show (nI ((serA F Q0 k).2.2)) = (nI ((serA F Q0 k).2.2 + 0)) from rfl] at hl
          rw [show (nI 0) = (nI false.toNat) from rfl] at hl
          exact L24 _ 0 ((serA F Q0 k).1) ((serA F Q0 k).2.1) y false (fun e => by cases e) (fun _ => sf_emp (by omega)) serI_0 (by have := JJ_len hJk (show k < 10 by omega); omega) hJk hY (Nat.lt_succ_self _) _ _ hP hD hS _ (lv_sub hl [1, 2, 3, 0] rfl)
        · have h_2 := mt (nI_leI (a := (qlen ((serA F Q0 k).2.1) k)) (b := 0) (by first | omega | exact bits_lt31 _ | exact bitN_lt _ _ | exact bool_lt _ | exact and_lt31 _ _ _ _ | exact Nat.lt_of_le_of_lt (dst_lt _ _ _ (by omega) _) (by decide) | exact Nat.lt_of_le_of_lt (nrB_le _ _ _ (by omega)).2 (by decide) | decide) (by first | omega | exact bits_lt31 _ | exact bitN_lt _ _ | exact bool_lt _ | exact and_lt31 _ _ _ _ | exact Nat.lt_of_le_of_lt (dst_lt _ _ _ (by omega) _) (by decide) | exact Nat.lt_of_le_of_lt (nrB_le _ _ _ (by omega)).2 (by decide) | decide)).mpr h_2
          refine lv_iconst (v := (nI 1)) hx hb dX5_serve_18 (by decide) ?_
          refine lv_goto (tgt := 23) hx hb dX5_serve_19 (by decide) ?_
          refine lv_istore_n (lv' := [(3, .int (nI 1)), (0, .ref (ad 0)), (1, .int (nI ((serA F Q0 k).2.2))), (2, .int (nI k))]) hx hb dX5_serve_23 rfl hl (by decide) rfl (fun ls hl => ?_)
          have L24 : ∀ (N : Nat) (i : Nat) (Fc : FF) (Qc : QQ) (y : Nat → Int32) (bg : Bool), (bg = true → 0 < qlen Qc k) → (bg = false → sfR Fc Qc k = false) → (serI k (serA F Q0 k).1 (serA F Q0 k).2.1 Fc Qc i) → (i + qlen Qc k ≤ 8) → (JJ Fc Qc) → (RZ Fc Qc y) → (2 * (8 - i) + bg.toNat) < N → ∀ (H : Heap) (locs : List Loc), va_P D vwCl ([(ad 0, .inr (5, [.int th, .ref (ad 1), .ref (ad 2), .ref (ad 3), .int sv, .ref (ad 4), .int ln, .int vs, .ref (ad 5), .ref (ad 6), .int rl, .int cm, .int fi, .int se])), (ad 1, .inl (cI, 221, .inl y)), (ad 2, .inl (cI, 221, .inl zs)), (ad 3, .inl (cI, 1768, .inl sd)), (ad 4, .inl (cI, 80, .inl tx)), (ad 5, .inl (cI, 8, .inl ds)), (ad 6, .inl (cI, 8, .inl rg))]) H → va_D A ([(ad 0, .inr (5, [.int th, .ref (ad 1), .ref (ad 2), .ref (ad 3), .int sv, .ref (ad 4), .int ln, .int vs, .ref (ad 5), .ref (ad 6), .int rl, .int cm, .int fi, .int se])), (ad 1, .inl (cI, 221, .inl y)), (ad 2, .inl (cI, 221, .inl zs)), (ad 3, .inl (cI, 1768, .inl sd)), (ad 4, .inl (cI, 80, .inl tx)), (ad 5, .inl (cI, 8, .inl ds)), (ad 6, .inl (cI, 8, .inl rg))]) → va_S A s.heap H locs → ∀ ls : Array Slot, lv_has ls 6 [(0, .ref (ad 0)), (1, .int (nI ((serA F Q0 k).2.2 + i))), (2, .int (nI k)), (3, .int (nI bg.toNat))] → W p l e rX5_serve s m args below meth c H locs 0 0 Q (F0 m 24 ls []) := by
            intro N24
            induction N24 with
            | zero => intro i Fc Qc y bg hg hgf hI hc hJc hYc hN; exact absurd hN (Nat.not_lt_zero _)
            | succ N24 ih24 =>
              intro i Fc Qc y bg hg hgf hI hc hJc hYc hN H locs hP hD hS ls hl
              refine lv_iload_n hx hb dX5_serve_24 rfl (lv_at hl 3 rfl) ?_
              refine lv_if_eq (tgt := 94) hx hb dX5_serve_25 (by decide) (fun h_6 => ?_) (fun h_6 => ?_)
              · have h_6 := (nI_eq (a := bg.toNat) (b := 0) (by first | omega | exact bits_lt31 _ | exact bitN_lt _ _ | exact bool_lt _ | exact and_lt31 _ _ _ _ | exact Nat.lt_of_le_of_lt (dst_lt _ _ _ (by omega) _) (by decide) | exact Nat.lt_of_le_of_lt (nrB_le _ _ _ (by omega)).2 (by decide) | decide) (by first | omega | exact bits_lt31 _ | exact bitN_lt _ _ | exact bool_lt _ | exact and_lt31 _ _ _ _ | exact Nat.lt_of_le_of_lt (dst_lt _ _ _ (by omega) _) (by decide) | exact Nat.lt_of_le_of_lt (nrB_le _ _ _ (by omega)).2 (by decide) | decide)).mp h_6
                have h_6 := tn_f h_6
                have hs0 := serI_e (Or.inr (hgf h_6)) hI
                have hs1 := serA_s hs0
                refine lv_iinc (v := (nI (k + 1))) (lv' := [(2, .int (nI (k + 1))), (0, .ref (ad 0)), (1, .int (nI ((serA F Q0 k).2.2 + i))), (3, .int (nI bg.toNat))]) hx hb dX5_serve_94 hl (k := 2) rfl (nI_add _ 1) (by decide) rfl (fun ls hl => ?_)
                refine lv_goto (tgt := 4) hx hb dX5_serve_97 (by decide) ?_
                rw [show (nI ((serA F Q0 k).2.2 + i)) = (nI ((serA F Q0 (k + 1)).2.2)) from (congrArg nI hs1.2.2)] at hl
                exact ih4 (k + 1) y (by omega) (by rw [← hs1.1, ← hs1.2.1]; exact hYc) (by omega) _ _ hP hD hS _ (lv_sub hl [1, 2, 0] rfl)
              · have h_6 := mt (nI_eq (a := bg.toNat) (b := 0) (by first | omega | exact bits_lt31 _ | exact bitN_lt _ _ | exact bool_lt _ | exact and_lt31 _ _ _ _ | exact Nat.lt_of_le_of_lt (dst_lt _ _ _ (by omega) _) (by decide) | exact Nat.lt_of_le_of_lt (nrB_le _ _ _ (by omega)).2 (by decide) | decide) (by first | omega | exact bits_lt31 _ | exact bitN_lt _ _ | exact bool_lt _ | exact and_lt31 _ _ _ _ | exact Nat.lt_of_le_of_lt (dst_lt _ _ _ (by omega) _) (by decide) | exact Nat.lt_of_le_of_lt (nrB_le _ _ _ (by omega)).2 (by decide) | decide)).mpr h_6
                have h_6 := tn_y h_6
                have hbt := h_6
                have hq0 := hg hbt
                refine lv_aload_n hx hb dX5_serve_28 rfl (lv_at hl 0 rfl) ?_
                refine lv_iload_n hx hb dX5_serve_29 rfl (lv_at hl 2 rfl) ?_
                refine lv_iconst (v := (nI 0)) hx hb dX5_serve_30 (by decide) ?_
                refine call_i (X := []) (Z := []) (As := [.int (nI k), .int (nI 0)]) (rest := []) ⟨hx, hb, hml, hown, hts⟩ (c_X5_queuedAt l D cI cT ad th sv ln vs rl cm fi se y zs sd tx ds rg k 0 (by omega)) (cwV 2 hts gX5_serve_X5_queuedAt rfl rfl rfl (by decide +kernel) ⟨Nat.le_of_ble_eq_true rfl, Nat.le_of_ble_eq_true rfl⟩) hK hP hD hS hA (va_recv hK hP (ci := 5) (q0 := 0) rfl rfl) (fun _ => rfl) rfl hl.1 rfl (Nat.le_of_ble_eq_true rfl) ⟨by decide, by decide⟩ dX5_serve_31 (fun rv _ H locs hp hP hD hS => ?_)
                obtain rfl := hp
                have hP : va_P D vwCl ([(ad 0, .inr (5, [.int th, .ref (ad 1), .ref (ad 2), .ref (ad 3), .int sv, .ref (ad 4), .int ln, .int vs, .ref (ad 5), .ref (ad 6), .int rl, .int cm, .int fi, .int se])), (ad 1, .inl (cI, 221, .inl y)), (ad 2, .inl (cI, 221, .inl zs)), (ad 3, .inl (cI, 1768, .inl sd)), (ad 4, .inl (cI, 80, .inl tx)), (ad 5, .inl (cI, 8, .inl ds)), (ad 6, .inl (cI, 8, .inl rg))]) H := hP
                have hD : va_D A ([(ad 0, .inr (5, [.int th, .ref (ad 1), .ref (ad 2), .ref (ad 3), .int sv, .ref (ad 4), .int ln, .int vs, .ref (ad 5), .ref (ad 6), .int rl, .int cm, .int fi, .int se])), (ad 1, .inl (cI, 221, .inl y)), (ad 2, .inl (cI, 221, .inl zs)), (ad 3, .inl (cI, 1768, .inl sd)), (ad 4, .inl (cI, 80, .inl tx)), (ad 5, .inl (cI, 8, .inl ds)), (ad 6, .inl (cI, 8, .inl rg))]) := hD
                obtain ⟨o9, ho9⟩ : ∃ z, z = (Qc k).getD 0 0 := ⟨_, rfl⟩
                have hoq := JJ_at hJc (i := 0) (show k < 10 by omega) (by omega)
                rw [← ho9] at hoq
                have ho8 : o9 < 8 := (hJc.2.1 k (by omega) _ hoq).1
                have ho3 := (hJc.2.1 k (by omega) _ hoq).2
                refine tpe (y := nI o9) (by rw [ho9]; exact RZ_q hYc (by omega) (by omega)) ?_
                refine lv_istore (lv' := [(4, .int (nI o9)), (0, .ref (ad 0)), (1, .int (nI ((serA F Q0 k).2.2 + i))), (2, .int (nI k)), (3, .int (nI bg.toNat))]) hx hb dX5_serve_34 hl (by decide) rfl (fun ls hl => ?_)
                have n3o : ¬ Fc 3 o9 = -1 := by rw [ho3]; exact m1_nI (by omega)
                refine lv_aload_n hx hb dX5_serve_36 rfl (lv_at hl 1 rfl) ?_
                refine lv_iload hx hb dX5_serve_37 (lv_at hl 0 rfl) ?_
                refine lv_iconst (v := (nI 5)) hx hb dX5_serve_39 (by decide) ?_
                refine call_i (X := []) (Z := []) (As := [.int (nI o9), .int (nI 5)]) (rest := []) ⟨hx, hb, hml, hown, hts⟩ (c_X5_of l D cI cT ad th sv ln vs rl cm fi se y zs sd tx ds rg o9 5 (by omega)) (cwV 2 hts gX5_serve_X5_of rfl rfl rfl (by decide +kernel) ⟨Nat.le_of_ble_eq_true rfl, Nat.le_of_ble_eq_true rfl⟩) hK hP hD hS hA (va_recv hK hP (ci := 5) (q0 := 0) rfl rfl) (fun _ => rfl) rfl hl.1 rfl (Nat.le_of_ble_eq_true rfl) ⟨by decide, by decide⟩ dX5_serve_40 (fun rv _ H locs hp hP hD hS => ?_)
                obtain rfl := hp
                have hP : va_P D vwCl ([(ad 0, .inr (5, [.int th, .ref (ad 1), .ref (ad 2), .ref (ad 3), .int sv, .ref (ad 4), .int ln, .int vs, .ref (ad 5), .ref (ad 6), .int rl, .int cm, .int fi, .int se])), (ad 1, .inl (cI, 221, .inl y)), (ad 2, .inl (cI, 221, .inl zs)), (ad 3, .inl (cI, 1768, .inl sd)), (ad 4, .inl (cI, 80, .inl tx)), (ad 5, .inl (cI, 8, .inl ds)), (ad 6, .inl (cI, 8, .inl rg))]) H := hP
                have hD : va_D A ([(ad 0, .inr (5, [.int th, .ref (ad 1), .ref (ad 2), .ref (ad 3), .int sv, .ref (ad 4), .int ln, .int vs, .ref (ad 5), .ref (ad 6), .int rl, .int cm, .int fi, .int se])), (ad 1, .inl (cI, 221, .inl y)), (ad 2, .inl (cI, 221, .inl zs)), (ad 3, .inl (cI, 1768, .inl sd)), (ad 4, .inl (cI, 80, .inl tx)), (ad 5, .inl (cI, 8, .inl ds)), (ad 6, .inl (cI, 8, .inl rg))]) := hD
                refine tpe (y := mdZ Fc o9) (RZ_5 hYc (by omega)) ?_
                refine tpe (y := (Fc 4 o9)) (mdZ_w n3o) ?_
                refine lv_istore (lv' := [(5, .int (Fc 4 o9)), (4, .int (nI o9)), (0, .ref (ad 0)), (1, .int (nI ((serA F Q0 k).2.2 + i))), (2, .int (nI k)), (3, .int (nI bg.toNat))]) hx hb dX5_serve_43 hl (by decide) rfl (fun ls hl => ?_)
                refine lv_aload_n hx hb dX5_serve_45 rfl (lv_at hl 2 rfl) ?_
                refine lv_iload hx hb dX5_serve_46 (lv_at hl 1 rfl) ?_
                refine lv_iload_n hx hb dX5_serve_48 rfl (lv_at hl 4 rfl) ?_
                refine lv_iload hx hb dX5_serve_49 (lv_at hl 0 rfl) ?_
                refine call_i (X := []) (Z := []) (As := [.int (nI o9), .int (nI k), .int (Fc 4 o9)]) (rest := []) ⟨hx, hb, hml, hown, hts⟩ (c_X5_canHold l D cI cT ad th sv ln vs rl cm fi se y zs sd tx ds rg Fc Qc o9 k (Fc 4 o9) (by omega) (by omega) hYc) (cwV 3 hts gX5_serve_X5_canHold rfl rfl rfl (by decide +kernel) ⟨Nat.le_of_ble_eq_true rfl, Nat.le_of_ble_eq_true rfl⟩) hK hP hD hS hA (va_recv hK hP (ci := 5) (q0 := 0) rfl rfl) (fun _ => rfl) rfl hl.1 rfl (Nat.le_of_ble_eq_true rfl) ⟨by decide, by decide⟩ dX5_serve_51 (fun rv _ H locs hp hP hD hS => ?_)
                obtain rfl := hp
                have hP : va_P D vwCl ([(ad 0, .inr (5, [.int th, .ref (ad 1), .ref (ad 2), .ref (ad 3), .int sv, .ref (ad 4), .int ln, .int vs, .ref (ad 5), .ref (ad 6), .int rl, .int cm, .int fi, .int se])), (ad 1, .inl (cI, 221, .inl y)), (ad 2, .inl (cI, 221, .inl zs)), (ad 3, .inl (cI, 1768, .inl sd)), (ad 4, .inl (cI, 80, .inl tx)), (ad 5, .inl (cI, 8, .inl ds)), (ad 6, .inl (cI, 8, .inl rg))]) H := hP
                have hD : va_D A ([(ad 0, .inr (5, [.int th, .ref (ad 1), .ref (ad 2), .ref (ad 3), .int sv, .ref (ad 4), .int ln, .int vs, .ref (ad 5), .ref (ad 6), .int rl, .int cm, .int fi, .int se])), (ad 1, .inl (cI, 221, .inl y)), (ad 2, .inl (cI, 221, .inl zs)), (ad 3, .inl (cI, 1768, .inl sd)), (ad 4, .inl (cI, 80, .inl tx)), (ad 5, .inl (cI, 8, .inl ds)), (ad 6, .inl (cI, 8, .inl rg))]) := hD
                refine lv_istore_n (lv' := [(3, .int (nI ((alN (fun u => !rivB Fc o9 k (Fc 4 o9) u) 8).toNat))), (5, .int (Fc 4 o9)), (4, .int (nI o9)), (0, .ref (ad 0)), (1, .int (nI ((serA F Q0 k).2.2 + i))), (2, .int (nI k))]) hx hb dX5_serve_54 rfl hl (by decide) rfl (fun ls hl => ?_)
                refine lv_iload_n hx hb dX5_serve_55 rfl (lv_at hl 0 rfl) ?_
                refine lv_if_eq (tgt := 91) hx hb dX5_serve_56 (by decide) (fun h_7 => ?_) (fun h_7 => ?_)
                · have h_7 := (nI_eq (a := ((alN (fun u => !rivB Fc o9 k (Fc 4 o9) u) 8).toNat)) (b := 0) (by first | omega | exact bits_lt31 _ | exact bitN_lt _ _ | exact bool_lt _ | exact and_lt31 _ _ _ _ | exact Nat.lt_of_le_of_lt (dst_lt _ _ _ (by omega) _) (by decide) | exact Nat.lt_of_le_of_lt (nrB_le _ _ _ (by omega)).2 (by decide) | decide) (by first | omega | exact bits_lt31 _ | exact bitN_lt _ _ | exact bool_lt _ | exact and_lt31 _ _ _ _ | exact Nat.lt_of_le_of_lt (dst_lt _ _ _ (by omega) _) (by decide) | exact Nat.lt_of_le_of_lt (nrB_le _ _ _ (by omega)).2 (by decide) | decide)).mp h_7
                  have h_7 := tn_f h_7
                  refine lv_goto (tgt := 24) hx hb dX5_serve_91 (by decide) ?_
                  rw [show (nI ((alN (fun u => !rivB Fc o9 k (Fc 4 o9) u) 8).toNat)) = (nI false.toNat) from (by rw [h_7])] at hl
                  exact ih24 i Fc Qc y false (fun e => by cases e) (fun _ => sf_alN ho9 hq0 h_7) hI hc hJc hYc (by simp only [hbt, Bool.toNat_true, Bool.toNat_false] at *; omega) _ _ hP hD hS _ (lv_sub hl [3, 4, 5, 0] rfl)
                · have h_7 := mt (nI_eq (a := ((alN (fun u => !rivB Fc o9 k (Fc 4 o9) u) 8).toNat)) (b := 0) (by first | omega | exact bits_lt31 _ | exact bitN_lt _ _ | exact bool_lt _ | exact and_lt31 _ _ _ _ | exact Nat.lt_of_le_of_lt (dst_lt _ _ _ (by omega) _) (by decide) | exact Nat.lt_of_le_of_lt (nrB_le _ _ _ (by omega)).2 (by decide) | decide) (by first | omega | exact bits_lt31 _ | exact bitN_lt _ _ | exact bool_lt _ | exact and_lt31 _ _ _ _ | exact Nat.lt_of_le_of_lt (dst_lt _ _ _ (by omega) _) (by decide) | exact Nat.lt_of_le_of_lt (nrB_le _ _ _ (by omega)).2 (by decide) | decide)).mpr h_7
                  have h_7 := tn_y h_7
                  have hsy := sf_alN ho9 hq0 h_7
                  have hqr := qlen_rm hJc (show k < 10 by omega) hoq
                  have es1 := (sf_yes hsy).1
                  have es2 := (sf_yes hsy).2
                  rw [← ho9] at es1 es2
                  have ho48 : Fc 4 o9 = nI 1 ∨ Fc 4 o9 = nI 2 := (hJc.2.2.2.2.2.1 k (by omega) _ hoq).elim (fun q => Or.inl q.1) (fun q => Or.inr q.1)
                  refine lv_aload_n hx hb dX5_serve_59 rfl (lv_at hl 3 rfl) ?_
                  refine lv_iload hx hb dX5_serve_60 (lv_at hl 2 rfl) ?_
                  refine call_v (X := []) (Z := []) (As := [.int (nI o9)]) (rest := []) ⟨hx, hb, hml, hown, hts⟩ (c_X5_dequeue l D cI cT ad th sv ln vs rl cm fi se y zs sd tx ds rg Fc Qc o9 k (by omega) (by omega) ho3 hoq hYc hJc) (cwV 1 hts gX5_serve_X5_dequeue rfl rfl rfl (by decide +kernel) ⟨Nat.le_of_ble_eq_true rfl, Nat.le_of_ble_eq_true rfl⟩) hK hP hD hS hA (va_recv hK hP (ci := 5) (q0 := 0) rfl rfl) (fun _ => adr_ref.trans adr_ref.symm) rfl hl.1 rfl (Nat.le_of_ble_eq_true rfl) ⟨by decide, by decide⟩ dX5_serve_62 (fun z3 H locs hp hP hD hS => ?_)
                  have hZ3 := hp
                  have hJ3 := JJ_rm hJc (t := o9) (by omega)
                  have hP : va_P D vwCl ([(ad 0, .inr (5, [.int th, .ref (ad 1), .ref (ad 2), .ref (ad 3), .int sv, .ref (ad 4), .int ln, .int vs, .ref (ad 5), .ref (ad 6), .int rl, .int cm, .int fi, .int se])), (ad 1, .inl (cI, 221, .inl z3)), (ad 2, .inl (cI, 221, .inl zs)), (ad 3, .inl (cI, 1768, .inl sd)), (ad 4, .inl (cI, 80, .inl tx)), (ad 5, .inl (cI, 8, .inl ds)), (ad 6, .inl (cI, 8, .inl rg))]) H := hP
                  have hD : va_D A ([(ad 0, .inr (5, [.int th, .ref (ad 1), .ref (ad 2), .ref (ad 3), .int sv, .ref (ad 4), .int ln, .int vs, .ref (ad 5), .ref (ad 6), .int rl, .int cm, .int fi, .int se])), (ad 1, .inl (cI, 221, .inl z3)), (ad 2, .inl (cI, 221, .inl zs)), (ad 3, .inl (cI, 1768, .inl sd)), (ad 4, .inl (cI, 80, .inl tx)), (ad 5, .inl (cI, 8, .inl ds)), (ad 6, .inl (cI, 8, .inl rg))]) := hD
                  refine lv_aload_n hx hb dX5_serve_65 rfl (lv_at hl 3 rfl) ?_
                  refine lv_iload hx hb dX5_serve_66 (lv_at hl 2 rfl) ?_
                  refine lv_iload_n hx hb dX5_serve_68 rfl (lv_at hl 5 rfl) ?_
                  refine lv_iload hx hb dX5_serve_69 (lv_at hl 1 rfl) ?_
                  refine call_v (X := []) (Z := []) (As := [.int (nI o9), .int (nI k), .int (Fc 4 o9)]) (rest := []) ⟨hx, hb, hml, hown, hts⟩ (c_X5_grant l D cI cT ad th sv ln vs rl cm fi se z3 zs sd tx ds rg o9 k (Fc 4 o9) (by omega) (by omega)) (cwV 3 hts gX5_serve_X5_grant rfl rfl rfl (by decide +kernel) ⟨Nat.le_of_ble_eq_true rfl, Nat.le_of_ble_eq_true rfl⟩) hK hP hD hS hA (va_recv hK hP (ci := 5) (q0 := 0) rfl rfl) (fun _ => adr_ref.trans adr_ref.symm) rfl hl.1 rfl (Nat.le_of_ble_eq_true rfl) ⟨by decide, by decide⟩ dX5_serve_71 (fun _ H locs hp hP hD hS => ?_)
                  have hZ4 := RZ_gr (m := (Fc 4 o9)) hJ3 hZ3 (show o9 < 8 by omega) (show k < 10 by omega)
                  have hP : va_P D vwCl ([(ad 0, .inr (5, [.int th, .ref (ad 1), .ref (ad 2), .ref (ad 3), .int sv, .ref (ad 4), .int ln, .int vs, .ref (ad 5), .ref (ad 6), .int rl, .int cm, .int fi, .int se])), (ad 1, .inl (cI, 221, .inl (grZ z3 o9 k (Fc 4 o9)))), (ad 2, .inl (cI, 221, .inl zs)), (ad 3, .inl (cI, 1768, .inl sd)), (ad 4, .inl (cI, 80, .inl tx)), (ad 5, .inl (cI, 8, .inl ds)), (ad 6, .inl (cI, 8, .inl rg))]) H := hP
                  have hD : va_D A ([(ad 0, .inr (5, [.int th, .ref (ad 1), .ref (ad 2), .ref (ad 3), .int sv, .ref (ad 4), .int ln, .int vs, .ref (ad 5), .ref (ad 6), .int rl, .int cm, .int fi, .int se])), (ad 1, .inl (cI, 221, .inl (grZ z3 o9 k (Fc 4 o9)))), (ad 2, .inl (cI, 221, .inl zs)), (ad 3, .inl (cI, 1768, .inl sd)), (ad 4, .inl (cI, 80, .inl tx)), (ad 5, .inl (cI, 8, .inl ds)), (ad 6, .inl (cI, 8, .inl rg))]) := hD
                  refine lv_iinc (v := (nI ((serA F Q0 k).2.2 + i + 1))) (lv' := [(1, .int (nI ((serA F Q0 k).2.2 + i + 1))), (3, .int (nI ((alN (fun u => !rivB Fc o9 k (Fc 4 o9) u) 8).toNat))), (5, .int (Fc 4 o9)), (4, .int (nI o9)), (0, .ref (ad 0)), (2, .int (nI k))]) hx hb dX5_serve_74 hl (k := 4) rfl (nI_add _ 1) (by decide) rfl (fun ls hl => ?_)
                  refine lv_aload_n hx hb dX5_serve_77 rfl (lv_at hl 4 rfl) ?_
                  refine lv_iload_n hx hb dX5_serve_78 rfl (lv_at hl 5 rfl) ?_
                  refine call_i (X := []) (Z := []) (As := [.int (nI k)]) (rest := []) ⟨hx, hb, hml, hown, hts⟩ (c_X5_queueOf l D cI cT ad th sv ln vs rl cm fi se (grZ z3 o9 k (Fc 4 o9)) zs sd tx ds rg k (by omega)) (cwV 1 hts gX5_serve_X5_queueOf rfl rfl rfl (by decide +kernel) ⟨Nat.le_of_ble_eq_true rfl, Nat.le_of_ble_eq_true rfl⟩) hK hP hD hS hA (va_recv hK hP (ci := 5) (q0 := 0) rfl rfl) (fun _ => rfl) rfl hl.1 rfl (Nat.le_of_ble_eq_true rfl) ⟨by decide, by decide⟩ dX5_serve_79 (fun rv _ H locs hp hP hD hS => ?_)
                  obtain rfl := hp
                  have hP : va_P D vwCl ([(ad 0, .inr (5, [.int th, .ref (ad 1), .ref (ad 2), .ref (ad 3), .int sv, .ref (ad 4), .int ln, .int vs, .ref (ad 5), .ref (ad 6), .int rl, .int cm, .int fi, .int se])), (ad 1, .inl (cI, 221, .inl (grZ z3 o9 k (Fc 4 o9)))), (ad 2, .inl (cI, 221, .inl zs)), (ad 3, .inl (cI, 1768, .inl sd)), (ad 4, .inl (cI, 80, .inl tx)), (ad 5, .inl (cI, 8, .inl ds)), (ad 6, .inl (cI, 8, .inl rg))]) H := hP
                  have hD : va_D A ([(ad 0, .inr (5, [.int th, .ref (ad 1), .ref (ad 2), .ref (ad 3), .int sv, .ref (ad 4), .int ln, .int vs, .ref (ad 5), .ref (ad 6), .int rl, .int cm, .int fi, .int se])), (ad 1, .inl (cI, 221, .inl (grZ z3 o9 k (Fc 4 o9)))), (ad 2, .inl (cI, 221, .inl zs)), (ad 3, .inl (cI, 1768, .inl sd)), (ad 4, .inl (cI, 80, .inl tx)), (ad 5, .inl (cI, 8, .inl ds)), (ad 6, .inl (cI, 8, .inl rg))]) := hD
                  have hq8 := JJ_len hJ3 (show k < 10 by omega)
                  refine tpe (y := nI (qlen (rmQ Fc Qc o9) k)) (RZ_n hZ4 (by omega)) ?_
                  refine lv_if_le (tgt := 89) hx hb dX5_serve_82 (by decide) (fun h_8 => ?_) (fun h_8 => ?_)
                  · have h_8 := (nI_leI (a := (qlen (rmQ Fc Qc o9) k)) (b := 0) (by first | omega | exact bits_lt31 _ | exact bitN_lt _ _ | exact bool_lt _ | exact and_lt31 _ _ _ _ | exact Nat.lt_of_le_of_lt (dst_lt _ _ _ (by omega) _) (by decide) | exact Nat.lt_of_le_of_lt (nrB_le _ _ _ (by omega)).2 (by decide) | decide) (by first | omega | exact bits_lt31 _ | exact bitN_lt _ _ | exact bool_lt _ | exact and_lt31 _ _ _ _ | exact Nat.lt_of_le_of_lt (dst_lt _ _ _ (by omega) _) (by decide) | exact Nat.lt_of_le_of_lt (nrB_le _ _ _ (by omega)).2 (by decide) | decide)).mp h_8
                    refine lv_iconst (v := (nI 0)) hx hb dX5_serve_89 (by decide) ?_
                    refine lv_istore_n (lv' := [(3, .int (nI 0)), (1, .int (nI ((serA F Q0 k).2.2 + i + 1))), (5, .int (Fc 4 o9)), (4, .int (nI o9)), (0, .ref (ad 0)), (2, .int (nI k))]) hx hb dX5_serve_90 rfl hl (by decide) rfl (fun ls hl => ?_)
                    refine lv_goto (tgt := 24) hx hb dX5_serve_91 (by decide) ?_
                    rw [show (nI ((serA F Q0 k).2.2 + i + 1)) = (nI ((serA F Q0 k).2.2 + (i + 1))) from rfl] at hl
                    rw [show (nI 0) = (nI false.toNat) from rfl] at hl
                    exact ih24 (i + 1) (sfF Fc Qc k) (sfQ Fc Qc k) (grZ z3 o9 k (Fc 4 o9)) false (fun e => by cases e) (fun _ => sf_emp (by rw [es2]; omega)) (serI_s (by omega) hsy hI) (by rw [es2]; omega) (JJ_sf hJc (by omega)) (by rw [es1, es2]; exact hZ4) (by simp only [hbt, Bool.toNat_true, Bool.toNat_false] at *; omega) _ _ hP hD hS _ (lv_sub hl [4, 1, 5, 0] rfl)
                  · have h_8 := mt (nI_leI (a := (qlen (rmQ Fc Qc o9) k)) (b := 0) (by first | omega | exact bits_lt31 _ | exact bitN_lt _ _ | exact bool_lt _ | exact and_lt31 _ _ _ _ | exact Nat.lt_of_le_of_lt (dst_lt _ _ _ (by omega) _) (by decide) | exact Nat.lt_of_le_of_lt (nrB_le _ _ _ (by omega)).2 (by decide) | decide) (by first | omega | exact bits_lt31 _ | exact bitN_lt _ _ | exact bool_lt _ | exact and_lt31 _ _ _ _ | exact Nat.lt_of_le_of_lt (dst_lt _ _ _ (by omega) _) (by decide) | exact Nat.lt_of_le_of_lt (nrB_le _ _ _ (by omega)).2 (by decide) | decide)).mpr h_8
                    refine lv_iconst (v := (nI 1)) hx hb dX5_serve_85 (by decide) ?_
                    refine lv_goto (tgt := 90) hx hb dX5_serve_86 (by decide) ?_
                    refine lv_istore_n (lv' := [(3, .int (nI 1)), (1, .int (nI ((serA F Q0 k).2.2 + i + 1))), (5, .int (Fc 4 o9)), (4, .int (nI o9)), (0, .ref (ad 0)), (2, .int (nI k))]) hx hb dX5_serve_90 rfl hl (by decide) rfl (fun ls hl => ?_)
                    refine lv_goto (tgt := 24) hx hb dX5_serve_91 (by decide) ?_
                    rw [show (nI ((serA F Q0 k).2.2 + i + 1)) = (nI ((serA F Q0 k).2.2 + (i + 1))) from rfl] at hl
                    rw [show (nI 1) = (nI true.toNat) from rfl] at hl
                    exact ih24 (i + 1) (sfF Fc Qc k) (sfQ Fc Qc k) (grZ z3 o9 k (Fc 4 o9)) true (fun _ => by rw [es2]; omega) (fun e => by cases e) (serI_s (by omega) hsy hI) (by rw [es2]; omega) (JJ_sf hJc (by omega)) (by rw [es1, es2]; exact hZ4) (by simp only [hbt, Bool.toNat_true, Bool.toNat_false] at *; omega) _ _ hP hD hS _ (lv_sub hl [4, 1, 5, 0] rfl)
          rw [show (nI ((serA F Q0 k).2.2)) = (nI ((serA F Q0 k).2.2 + 0)) from rfl] at hl
          rw [show (nI 1) = (nI true.toNat) from rfl] at hl
          exact L24 _ 0 ((serA F Q0 k).1) ((serA F Q0 k).2.1) y true (fun _ => by omega) (fun e => by cases e) serI_0 (by have := JJ_len hJk (show k < 10 by omega); omega) hJk hY (Nat.lt_succ_self _) _ _ hP hD hS _ (lv_sub hl [1, 2, 3, 0] rfl)
  rw [show (nI 0) = (nI ((serA F Q0 0).2.2)) from rfl] at hl
  exact L4 _ 0 z (Nat.zero_le _) hZ (Nat.lt_succ_self _) _ _ hP hD hS _ (lv_sub hl [2, 1, 0] rfl)

