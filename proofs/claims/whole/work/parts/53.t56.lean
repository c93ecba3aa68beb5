theorem nq_f {x y : Int32} (h : (x == y) = false) : ¬ x = y := fun e => by rw [e] at h; simp at h
theorem lt_sP {k : Nat} {P : Nat → Prop} (h : ∀ j, j < k → P j) (hk : P k) : ∀ j, j < k + 1 → P j := fun j hj => by
  by_cases e : j = k
  · rw [e]; exact hk
  · exact h j (by omega)
abbrev rX5_whyNoBegin : Room := { frames := 2, cells := 0, slots := 0, locals := 42 }
set_option maxHeartbeats 1000000 in
set_option maxRecDepth 100000 in
theorem c_X5_whyNoBegin (l : Launch) (D : va_G) (cI cT : ClassId) (ad : Nat → Nat) (th sv ln vs rl cm fi se : Int32) (z zs sd tx ds rg : Nat → Int32) (F : FF) (Q0 : QQ) (p0 : Int32) (hZ : RZ F Q0 z) : CN l D cI cT yX5_whyNoBegin wsX5_whyNoBegin rX5_whyNoBegin [.ref (ad 0), .int p0] (refW cI ad th sv ln vs rl cm fi se z zs sd tx ds rg) (S := Unit) (fun v _ => v = nI (wB F p0)) (fun _ => refW cI ad th sv ln vs rl cm fi se z zs sd tx ds rg) := by
  refine CN.of (cc := cX5_whyNoBegin) (maxL := 2) (ret := (some .int)) (by decide) rfl (Nat.le_of_ble_eq_true rfl) ?_
  intro p e s m args below meth c A Q hQ B hA H locs hP hK hD hS ls hl
  obtain ⟨hx, hb, hml, hrt, hts, hown, hlk⟩ := B
  have hP : va_P D vwCl ([(ad 0, .inr (5, [.int th, .ref (ad 1), .ref (ad 2), .ref (ad 3), .int sv, .ref (ad 4), .int ln, .int vs, .ref (ad 5), .ref (ad 6), .int rl, .int cm, .int fi, .int se])), (ad 1, .inl (cI, 221, .inl z)), (ad 2, .inl (cI, 221, .inl zs)), (ad 3, .inl (cI, 1768, .inl sd)), (ad 4, .inl (cI, 80, .inl tx)), (ad 5, .inl (cI, 8, .inl ds)), (ad 6, .inl (cI, 8, .inl rg))]) H := hP
  have hD : va_D A ([(ad 0, .inr (5, [.int th, .ref (ad 1), .ref (ad 2), .ref (ad 3), .int sv, .ref (ad 4), .int ln, .int vs, .ref (ad 5), .ref (ad 6), .int rl, .int cm, .int fi, .int se])), (ad 1, .inl (cI, 221, .inl z)), (ad 2, .inl (cI, 221, .inl zs)), (ad 3, .inl (cI, 1768, .inl sd)), (ad 4, .inl (cI, 80, .inl tx)), (ad 5, .inl (cI, 8, .inl ds)), (ad 6, .inl (cI, 8, .inl rg))]) := hD
  have hl : lv_has ls 2 [(0, .ref (ad 0)), (1, .int p0)] := hl
  refine lv_iload_n hx hb dX5_whyNoBegin_0 rfl (lv_at hl 1 rfl) ?_
  refine call_s (X := [(ad 0, .inr (5, [.int th, .ref (ad 1), .ref (ad 2), .ref (ad 3), .int sv, .ref (ad 4), .int ln, .int vs, .ref (ad 5), .ref (ad 6), .int rl, .int cm, .int fi, .int se])), (ad 1, .inl (cI, 221, .inl z)), (ad 2, .inl (cI, 221, .inl zs)), (ad 3, .inl (cI, 1768, .inl sd)), (ad 4, .inl (cI, 80, .inl tx)), (ad 5, .inl (cI, 8, .inl ds)), (ad 6, .inl (cI, 8, .inl rg))]) (Wc := []) (Z := []) (As := [.int p0]) (rest := []) ⟨hx, hb, hml, hown, hts⟩ (c_X5_isTransaction l D cI cT p0) (va_cwS 1 hts gX5_whyNoBegin_X5_isTransaction rfl rfl rfl (by decide +kernel) ⟨Nat.le_of_ble_eq_true rfl, Nat.le_of_ble_eq_true rfl⟩) hK (P_nilr hP) (D_nilr hD) hS hA (fun _ => rfl) rfl hl.1 rfl (Nat.le_of_ble_eq_true rfl) ⟨by decide, by decide⟩ dX5_whyNoBegin_1 (fun rv _ H locs hp hP hD hS => ?_)
  obtain rfl := hp
  have hP := P_nil2 hP
  have hD := D_nil2 hD
  have hP : va_P D vwCl ([(ad 0, .inr (5, [.int th, .ref (ad 1), .ref (ad 2), .ref (ad 3), .int sv, .ref (ad 4), .int ln, .int vs, .ref (ad 5), .ref (ad 6), .int rl, .int cm, .int fi, .int se])), (ad 1, .inl (cI, 221, .inl z)), (ad 2, .inl (cI, 221, .inl zs)), (ad 3, .inl (cI, 1768, .inl sd)), (ad 4, .inl (cI, 80, .inl tx)), (ad 5, .inl (cI, 8, .inl ds)), (ad 6, .inl (cI, 8, .inl rg))]) H := hP
  have hD : va_D A ([(ad 0, .inr (5, [.int th, .ref (ad 1), .ref (ad 2), .ref (ad 3), .int sv, .ref (ad 4), .int ln, .int vs, .ref (ad 5), .ref (ad 6), .int rl, .int cm, .int fi, .int se])), (ad 1, .inl (cI, 221, .inl z)), (ad 2, .inl (cI, 221, .inl zs)), (ad 3, .inl (cI, 1768, .inl sd)), (ad 4, .inl (cI, 80, .inl tx)), (ad 5, .inl (cI, 8, .inl ds)), (ad 6, .inl (cI, 8, .inl rg))]) := hD
  refine lv_if_ne (tgt := 11) hx hb dX5_whyNoBegin_4 (by decide) (fun h_1 => ?_) (fun h_1 => ?_)
  · have h_1 := mt (nI_eq (a := ((inI p0 8).toNat)) (b := 0) (by first | omega | exact bits_lt31 _ | exact bitN_lt _ _ | exact bool_lt _ | exact and_lt31 _ _ _ _ | exact Nat.lt_of_le_of_lt (dst_lt _ _ _ (by omega) _) (by decide) | exact Nat.lt_of_le_of_lt (nrB_le _ _ _ (by omega)).2 (by decide) | decide) (by first | omega | exact bits_lt31 _ | exact bitN_lt _ _ | exact bool_lt _ | exact and_lt31 _ _ _ _ | exact Nat.lt_of_le_of_lt (dst_lt _ _ _ (by omega) _) (by decide) | exact Nat.lt_of_le_of_lt (nrB_le _ _ _ (by omega)).2 (by decide) | decide)).mpr h_1
    have h_1 := tn_y h_1
    obtain ⟨t9, ht9, et9⟩ := inI_t (by decide) h_1
    rw [et9] at hl
    refine lv_aload_n hx hb dX5_whyNoBegin_11 rfl (lv_at hl 0 rfl) ?_
    refine lv_iload_n hx hb dX5_whyNoBegin_12 rfl (lv_at hl 1 rfl) ?_
    refine lv_iconst (v := (nI 0)) hx hb dX5_whyNoBegin_13 (by decide) ?_
    refine call_i (X := []) (Z := []) (As := [.int (nI t9), .int (nI 0)]) (rest := []) ⟨hx, hb, hml, hown, hts⟩ (c_X5_of l D cI cT ad th sv ln vs rl cm fi se z zs sd tx ds rg t9 0 (by omega)) (cwV 2 hts gX5_whyNoBegin_X5_of rfl rfl rfl (by decide +kernel) ⟨Nat.le_of_ble_eq_true rfl, Nat.le_of_ble_eq_true rfl⟩) hK hP hD hS hA (va_recv hK hP (ci := 5) (q0 := 0) rfl rfl) (fun _ => rfl) rfl hl.1 rfl (Nat.le_of_ble_eq_true rfl) ⟨by decide, by decide⟩ dX5_whyNoBegin_14 (fun rv _ H locs hp hP hD hS => ?_)
    obtain rfl := hp
    have hP : va_P D vwCl ([(ad 0, .inr (5, [.int th, .ref (ad 1), .ref (ad 2), .ref (ad 3), .int sv, .ref (ad 4), .int ln, .int vs, .ref (ad 5), .ref (ad 6), .int rl, .int cm, .int fi, .int se])), (ad 1, .inl (cI, 221, .inl z)), (ad 2, .inl (cI, 221, .inl zs)), (ad 3, .inl (cI, 1768, .inl sd)), (ad 4, .inl (cI, 80, .inl tx)), (ad 5, .inl (cI, 8, .inl ds)), (ad 6, .inl (cI, 8, .inl rg))]) H := hP
    have hD : va_D A ([(ad 0, .inr (5, [.int th, .ref (ad 1), .ref (ad 2), .ref (ad 3), .int sv, .ref (ad 4), .int ln, .int vs, .ref (ad 5), .ref (ad 6), .int rl, .int cm, .int fi, .int se])), (ad 1, .inl (cI, 221, .inl z)), (ad 2, .inl (cI, 221, .inl zs)), (ad 3, .inl (cI, 1768, .inl sd)), (ad 4, .inl (cI, 80, .inl tx)), (ad 5, .inl (cI, 8, .inl ds)), (ad 6, .inl (cI, 8, .inl rg))]) := hD
    refine tpe (y := stI F t9) (RZ_0 hZ (by omega)) ?_
    refine lv_if_ne (tgt := 24) hx hb dX5_whyNoBegin_17 (by decide) (fun h_2 => ?_) (fun h_2 => ?_)
    · have h_2 := h_2
      refine lv_iconst (v := (nI 2)) hx hb dX5_whyNoBegin_24 (by decide) ?_
      exact ret_i (u := ()) hQ hx hb hrt hlk hS dX5_whyNoBegin_25 hP (by simp [wB, h_2, et9, i8 ht9, ix8 ht9])
    · have h_2 := h_2
      refine lv_iconst (v := (nI 0)) hx hb dX5_whyNoBegin_20 (by decide) ?_
      refine lv_goto (tgt := 25) hx hb dX5_whyNoBegin_21 (by decide) ?_
      exact ret_i (u := ()) hQ hx hb hrt hlk hS dX5_whyNoBegin_25 hP (by simp [wB, h_2, et9, i8 ht9, ix8 ht9])
  · have h_1 := (nI_eq (a := ((inI p0 8).toNat)) (b := 0) (by first | omega | exact bits_lt31 _ | exact bitN_lt _ _ | exact bool_lt _ | exact and_lt31 _ _ _ _ | exact Nat.lt_of_le_of_lt (dst_lt _ _ _ (by omega) _) (by decide) | exact Nat.lt_of_le_of_lt (nrB_le _ _ _ (by omega)).2 (by decide) | decide) (by first | omega | exact bits_lt31 _ | exact bitN_lt _ _ | exact bool_lt _ | exact and_lt31 _ _ _ _ | exact Nat.lt_of_le_of_lt (dst_lt _ _ _ (by omega) _) (by decide) | exact Nat.lt_of_le_of_lt (nrB_le _ _ _ (by omega)).2 (by decide) | decide)).mp h_1
    have h_1 := tn_f h_1
    refine lv_iconst (v := (nI 1)) hx hb dX5_whyNoBegin_7 (by decide) ?_
    refine lv_goto (tgt := 25) hx hb dX5_whyNoBegin_8 (by decide) ?_
    exact ret_i (u := ()) hQ hx hb hrt hlk hS dX5_whyNoBegin_25 hP (by simp [wB, h_1])

abbrev rX5_whyNoRequest : Room := { frames := 2, cells := 0, slots := 0, locals := 43 }
set_option maxHeartbeats 1000000 in
set_option maxRecDepth 100000 in
theorem c_X5_whyNoRequest (l : Launch) (D : va_G) (cI cT : ClassId) (ad : Nat → Nat) (th sv ln vs rl cm fi se : Int32) (z zs sd tx ds rg : Nat → Int32) (F : FF) (Q0 : QQ) (p0 p1 p2 : Int32) (hZ : RZ F Q0 z) : CN l D cI cT yX5_whyNoRequest wsX5_whyNoRequest rX5_whyNoRequest [.ref (ad 0), .int p0, .int p1, .int p2] (refW cI ad th sv ln vs rl cm fi se z zs sd tx ds rg) (S := Unit) (fun v _ => v = nI (wR F p0 p1 p2)) (fun _ => refW cI ad th sv ln vs rl cm fi se z zs sd tx ds rg) := by
  refine CN.of (cc := cX5_whyNoRequest) (maxL := 4) (ret := (some .int)) (by decide) rfl (Nat.le_of_ble_eq_true rfl) ?_
  intro p e s m args below meth c A Q hQ B hA H locs hP hK hD hS ls hl
  obtain ⟨hx, hb, hml, hrt, hts, hown, hlk⟩ := B
  have hP : va_P D vwCl ([(ad 0, .inr (5, [.int th, .ref (ad 1), .ref (ad 2), .ref (ad 3), .int sv, .ref (ad 4), .int ln, .int vs, .ref (ad 5), .ref (ad 6), .int rl, .int cm, .int fi, .int se])), (ad 1, .inl (cI, 221, .inl z)), (ad 2, .inl (cI, 221, .inl zs)), (ad 3, .inl (cI, 1768, .inl sd)), (ad 4, .inl (cI, 80, .inl tx)), (ad 5, .inl (cI, 8, .inl ds)), (ad 6, .inl (cI, 8, .inl rg))]) H := hP
  have hD : va_D A ([(ad 0, .inr (5, [.int th, .ref (ad 1), .ref (ad 2), .ref (ad 3), .int sv, .ref (ad 4), .int ln, .int vs, .ref (ad 5), .ref (ad 6), .int rl, .int cm, .int fi, .int se])), (ad 1, .inl (cI, 221, .inl z)), (ad 2, .inl (cI, 221, .inl zs)), (ad 3, .inl (cI, 1768, .inl sd)), (ad 4, .inl (cI, 80, .inl tx)), (ad 5, .inl (cI, 8, .inl ds)), (ad 6, .inl (cI, 8, .inl rg))]) := hD
  have hl : lv_has ls 4 [(0, .ref (ad 0)), (1, .int p0), (2, .int p1), (3, .int p2)] := hl
  refine lv_iload_n hx hb dX5_whyNoRequest_0 rfl (lv_at hl 1 rfl) ?_
  refine call_s (X := [(ad 0, .inr (5, [.int th, .ref (ad 1), .ref (ad 2), .ref (ad 3), .int sv, .ref (ad 4), .int ln, .int vs, .ref (ad 5), .ref (ad 6), .int rl, .int cm, .int fi, .int se])), (ad 1, .inl (cI, 221, .inl z)), (ad 2, .inl (cI, 221, .inl zs)), (ad 3, .inl (cI, 1768, .inl sd)), (ad 4, .inl (cI, 80, .inl tx)), (ad 5, .inl (cI, 8, .inl ds)), (ad 6, .inl (cI, 8, .inl rg))]) (Wc := []) (Z := []) (As := [.int p0]) (rest := []) ⟨hx, hb, hml, hown, hts⟩ (c_X5_isTransaction l D cI cT p0) (va_cwS 1 hts gX5_whyNoRequest_X5_isTransaction rfl rfl rfl (by decide +kernel) ⟨Nat.le_of_ble_eq_true rfl, Nat.le_of_ble_eq_true rfl⟩) hK (P_nilr hP) (D_nilr hD) hS hA (fun _ => rfl) rfl hl.1 rfl (Nat.le_of_ble_eq_true rfl) ⟨by decide, by decide⟩ dX5_whyNoRequest_1 (fun rv _ H locs hp hP hD hS => ?_)
  obtain rfl := hp
  have hP := P_nil2 hP
  have hD := D_nil2 hD
  have hP : va_P D vwCl ([(ad 0, .inr (5, [.int th, .ref (ad 1), .ref (ad 2), .ref (ad 3), .int sv, .ref (ad 4), .int ln, .int vs, .ref (ad 5), .ref (ad 6), .int rl, .int cm, .int fi, .int se])), (ad 1, .inl (cI, 221, .inl z)), (ad 2, .inl (cI, 221, .inl zs)), (ad 3, .inl (cI, 1768, .inl sd)), (ad 4, .inl (cI, 80, .inl tx)), (ad 5, .inl (cI, 8, .inl ds)), (ad 6, .inl (cI, 8, .inl rg))]) H := hP
  have hD : va_D A ([(ad 0, .inr (5, [.int th, .ref (ad 1), .ref (ad 2), .ref (ad 3), .int sv, .ref (ad 4), .int ln, .int vs, .ref (ad 5), .ref (ad 6), .int rl, .int cm, .int fi, .int se])), (ad 1, .inl (cI, 221, .inl z)), (ad 2, .inl (cI, 221, .inl zs)), (ad 3, .inl (cI, 1768, .inl sd)), (ad 4, .inl (cI, 80, .inl tx)), (ad 5, .inl (cI, 8, .inl ds)), (ad 6, .inl (cI, 8, .inl rg))]) := hD
  refine lv_if_eq (tgt := 14) hx hb dX5_whyNoRequest_4 (by decide) (fun h_1 => ?_) (fun h_1 => ?_)
  · have h_1 := (nI_eq (a := ((inI p0 8).toNat)) (b := 0) (by first | omega | exact bits_lt31 _ | exact bitN_lt _ _ | exact bool_lt _ | exact and_lt31 _ _ _ _ | exact Nat.lt_of_le_of_lt (dst_lt _ _ _ (by omega) _) (by decide) | exact Nat.lt_of_le_of_lt (nrB_le _ _ _ (by omega)).2 (by decide) | decide) (by first | omega | exact bits_lt31 _ | exact bitN_lt _ _ | exact bool_lt _ | exact and_lt31 _ _ _ _ | exact Nat.lt_of_le_of_lt (dst_lt _ _ _ (by omega) _) (by decide) | exact Nat.lt_of_le_of_lt (nrB_le _ _ _ (by omega)).2 (by decide) | decide)).mp h_1
    have h_1 := tn_f h_1
    refine lv_iconst (v := (nI 1)) hx hb dX5_whyNoRequest_14 (by decide) ?_
    exact ret_i (u := ()) hQ hx hb hrt hlk hS dX5_whyNoRequest_15 hP (by simp [wR, h_1])
  · have h_1 := mt (nI_eq (a := ((inI p0 8).toNat)) (b := 0) (by first | omega | exact bits_lt31 _ | exact bitN_lt _ _ | exact bool_lt _ | exact and_lt31 _ _ _ _ | exact Nat.lt_of_le_of_lt (dst_lt _ _ _ (by omega) _) (by decide) | exact Nat.lt_of_le_of_lt (nrB_le _ _ _ (by omega)).2 (by decide) | decide) (by first | omega | exact bits_lt31 _ | exact bitN_lt _ _ | exact bool_lt _ | exact and_lt31 _ _ _ _ | exact Nat.lt_of_le_of_lt (dst_lt _ _ _ (by omega) _) (by decide) | exact Nat.lt_of_le_of_lt (nrB_le _ _ _ (by omega)).2 (by decide) | decide)).mpr h_1
    have h_1 := tn_y h_1
    obtain ⟨t9, ht9, et9⟩ := inI_t (by decide) h_1
    rw [et9] at hl
    refine lv_iload_n hx hb dX5_whyNoRequest_7 rfl (lv_at hl 2 rfl) ?_
    refine call_s (X := [(ad 0, .inr (5, [.int th, .ref (ad 1), .ref (ad 2), .ref (ad 3), .int sv, .ref (ad 4), .int ln, .int vs, .ref (ad 5), .ref (ad 6), .int rl, .int cm, .int fi, .int se])), (ad 1, .inl (cI, 221, .inl z)), (ad 2, .inl (cI, 221, .inl zs)), (ad 3, .inl (cI, 1768, .inl sd)), (ad 4, .inl (cI, 80, .inl tx)), (ad 5, .inl (cI, 8, .inl ds)), (ad 6, .inl (cI, 8, .inl rg))]) (Wc := []) (Z := []) (As := [.int p1]) (rest := []) ⟨hx, hb, hml, hown, hts⟩ (c_X5_isResource l D cI cT p1) (va_cwS 1 hts gX5_whyNoRequest_X5_isResource rfl rfl rfl (by decide +kernel) ⟨Nat.le_of_ble_eq_true rfl, Nat.le_of_ble_eq_true rfl⟩) hK (P_nilr hP) (D_nilr hD) hS hA (fun _ => rfl) rfl hl.1 rfl (Nat.le_of_ble_eq_true rfl) ⟨by decide, by decide⟩ dX5_whyNoRequest_8 (fun rv _ H locs hp hP hD hS => ?_)
    obtain rfl := hp
    have hP := P_nil2 hP
    have hD := D_nil2 hD
    have hP : va_P D vwCl ([(ad 0, .inr (5, [.int th, .ref (ad 1), .ref (ad 2), .ref (ad 3), .int sv, .ref (ad 4), .int ln, .int vs, .ref (ad 5), .ref (ad 6), .int rl, .int cm, .int fi, .int se])), (ad 1, .inl (cI, 221, .inl z)), (ad 2, .inl (cI, 221, .inl zs)), (ad 3, .inl (cI, 1768, .inl sd)), (ad 4, .inl (cI, 80, .inl tx)), (ad 5, .inl (cI, 8, .inl ds)), (ad 6, .inl (cI, 8, .inl rg))]) H := hP
    have hD : va_D A ([(ad 0, .inr (5, [.int th, .ref (ad 1), .ref (ad 2), .ref (ad 3), .int sv, .ref (ad 4), .int ln, .int vs, .ref (ad 5), .ref (ad 6), .int rl, .int cm, .int fi, .int se])), (ad 1, .inl (cI, 221, .inl z)), (ad 2, .inl (cI, 221, .inl zs)), (ad 3, .inl (cI, 1768, .inl sd)), (ad 4, .inl (cI, 80, .inl tx)), (ad 5, .inl (cI, 8, .inl ds)), (ad 6, .inl (cI, 8, .inl rg))]) := hD
    refine lv_if_ne (tgt := 16) hx hb dX5_whyNoRequest_11 (by decide) (fun h_2 => ?_) (fun h_2 => ?_)
    · have h_2 := mt (nI_eq (a := ((inI p1 10).toNat)) (b := 0) (by first | omega | exact bits_lt31 _ | exact bitN_lt _ _ | exact bool_lt _ | exact and_lt31 _ _ _ _ | exact Nat.lt_of_le_of_lt (dst_lt _ _ _ (by omega) _) (by decide) | exact Nat.lt_of_le_of_lt (nrB_le _ _ _ (by omega)).2 (by decide) | decide) (by first | omega | exact bits_lt31 _ | exact bitN_lt _ _ | exact bool_lt _ | exact and_lt31 _ _ _ _ | exact Nat.lt_of_le_of_lt (dst_lt _ _ _ (by omega) _) (by decide) | exact Nat.lt_of_le_of_lt (nrB_le _ _ _ (by omega)).2 (by decide) | decide)).mpr h_2
      have h_2 := tn_y h_2
      obtain ⟨r9, hr9, er9⟩ := inI_t (by decide) h_2
      rw [er9] at hl
      refine lv_iload_n hx hb dX5_whyNoRequest_16 rfl (lv_at hl 3 rfl) ?_
      refine call_s (X := [(ad 0, .inr (5, [.int th, .ref (ad 1), .ref (ad 2), .ref (ad 3), .int sv, .ref (ad 4), .int ln, .int vs, .ref (ad 5), .ref (ad 6), .int rl, .int cm, .int fi, .int se])), (ad 1, .inl (cI, 221, .inl z)), (ad 2, .inl (cI, 221, .inl zs)), (ad 3, .inl (cI, 1768, .inl sd)), (ad 4, .inl (cI, 80, .inl tx)), (ad 5, .inl (cI, 8, .inl ds)), (ad 6, .inl (cI, 8, .inl rg))]) (Wc := []) (Z := []) (As := [.int p2]) (rest := []) ⟨hx, hb, hml, hown, hts⟩ (c_X5_isMode l D cI cT p2) (va_cwS 1 hts gX5_whyNoRequest_X5_isMode rfl rfl rfl (by decide +kernel) ⟨Nat.le_of_ble_eq_true rfl, Nat.le_of_ble_eq_true rfl⟩) hK (P_nilr hP) (D_nilr hD) hS hA (fun _ => rfl) rfl hl.1 rfl (Nat.le_of_ble_eq_true rfl) ⟨by decide, by decide⟩ dX5_whyNoRequest_17 (fun rv _ H locs hp hP hD hS => ?_)
      obtain rfl := hp
      have hP := P_nil2 hP
      have hD := D_nil2 hD
      have hP : va_P D vwCl ([(ad 0, .inr (5, [.int th, .ref (ad 1), .ref (ad 2), .ref (ad 3), .int sv, .ref (ad 4), .int ln, .int vs, .ref (ad 5), .ref (ad 6), .int rl, .int cm, .int fi, .int se])), (ad 1, .inl (cI, 221, .inl z)), (ad 2, .inl (cI, 221, .inl zs)), (ad 3, .inl (cI, 1768, .inl sd)), (ad 4, .inl (cI, 80, .inl tx)), (ad 5, .inl (cI, 8, .inl ds)), (ad 6, .inl (cI, 8, .inl rg))]) H := hP
      have hD : va_D A ([(ad 0, .inr (5, [.int th, .ref (ad 1), .ref (ad 2), .ref (ad 3), .int sv, .ref (ad 4), .int ln, .int vs, .ref (ad 5), .ref (ad 6), .int rl, .int cm, .int fi, .int se])), (ad 1, .inl (cI, 221, .inl z)), (ad 2, .inl (cI, 221, .inl zs)), (ad 3, .inl (cI, 1768, .inl sd)), (ad 4, .inl (cI, 80, .inl tx)), (ad 5, .inl (cI, 8, .inl ds)), (ad 6, .inl (cI, 8, .inl rg))]) := hD
      refine lv_if_ne (tgt := 27) hx hb dX5_whyNoRequest_20 (by decide) (fun h_3 => ?_) (fun h_3 => ?_)
      · have h_3 := mt (nI_eq (a := ((mdB p2).toNat)) (b := 0) (by first | omega | exact bits_lt31 _ | exact bitN_lt _ _ | exact bool_lt _ | exact and_lt31 _ _ _ _ | exact Nat.lt_of_le_of_lt (dst_lt _ _ _ (by omega) _) (by decide) | exact Nat.lt_of_le_of_lt (nrB_le _ _ _ (by omega)).2 (by decide) | decide) (by first | omega | exact bits_lt31 _ | exact bitN_lt _ _ | exact bool_lt _ | exact and_lt31 _ _ _ _ | exact Nat.lt_of_le_of_lt (dst_lt _ _ _ (by omega) _) (by decide) | exact Nat.lt_of_le_of_lt (nrB_le _ _ _ (by omega)).2 (by decide) | decide)).mpr h_3
        have h_3 := tn_y h_3
        refine lv_aload_n hx hb dX5_whyNoRequest_27 rfl (lv_at hl 0 rfl) ?_
        refine lv_iload_n hx hb dX5_whyNoRequest_28 rfl (lv_at hl 1 rfl) ?_
        refine call_i (X := []) (Z := []) (As := [.int (nI t9)]) (rest := []) ⟨hx, hb, hml, hown, hts⟩ (c_X5_isActive l D cI cT ad th sv ln vs rl cm fi se z zs sd tx ds rg F Q0 t9 (by omega) hZ) (cwV 1 hts gX5_whyNoRequest_X5_isActive rfl rfl rfl (by decide +kernel) ⟨Nat.le_of_ble_eq_true rfl, Nat.le_of_ble_eq_true rfl⟩) hK hP hD hS hA (va_recv hK hP (ci := 5) (q0 := 0) rfl rfl) (fun _ => rfl) rfl hl.1 rfl (Nat.le_of_ble_eq_true rfl) ⟨by decide, by decide⟩ dX5_whyNoRequest_29 (fun rv _ H locs hp hP hD hS => ?_)
        obtain rfl := hp
        have hP : va_P D vwCl ([(ad 0, .inr (5, [.int th, .ref (ad 1), .ref (ad 2), .ref (ad 3), .int sv, .ref (ad 4), .int ln, .int vs, .ref (ad 5), .ref (ad 6), .int rl, .int cm, .int fi, .int se])), (ad 1, .inl (cI, 221, .inl z)), (ad 2, .inl (cI, 221, .inl zs)), (ad 3, .inl (cI, 1768, .inl sd)), (ad 4, .inl (cI, 80, .inl tx)), (ad 5, .inl (cI, 8, .inl ds)), (ad 6, .inl (cI, 8, .inl rg))]) H := hP
        have hD : va_D A ([(ad 0, .inr (5, [.int th, .ref (ad 1), .ref (ad 2), .ref (ad 3), .int sv, .ref (ad 4), .int ln, .int vs, .ref (ad 5), .ref (ad 6), .int rl, .int cm, .int fi, .int se])), (ad 1, .inl (cI, 221, .inl z)), (ad 2, .inl (cI, 221, .inl zs)), (ad 3, .inl (cI, 1768, .inl sd)), (ad 4, .inl (cI, 80, .inl tx)), (ad 5, .inl (cI, 8, .inl ds)), (ad 6, .inl (cI, 8, .inl rg))]) := hD
        refine lv_if_eq (tgt := 39) hx hb dX5_whyNoRequest_32 (by decide) (fun h_4 => ?_) (fun h_4 => ?_)
        · have h_4 := (nI_eq (a := ((stI F t9 == nI 1).toNat)) (b := 0) (by first | omega | exact bits_lt31 _ | exact bitN_lt _ _ | exact bool_lt _ | exact and_lt31 _ _ _ _ | exact Nat.lt_of_le_of_lt (dst_lt _ _ _ (by omega) _) (by decide) | exact Nat.lt_of_le_of_lt (nrB_le _ _ _ (by omega)).2 (by decide) | decide) (by first | omega | exact bits_lt31 _ | exact bitN_lt _ _ | exact bool_lt _ | exact and_lt31 _ _ _ _ | exact Nat.lt_of_le_of_lt (dst_lt _ _ _ (by omega) _) (by decide) | exact Nat.lt_of_le_of_lt (nrB_le _ _ _ (by omega)).2 (by decide) | decide)).mp h_4
          have h_4 := tn_f h_4
          refine lv_iconst (v := (nI 3)) hx hb dX5_whyNoRequest_39 (by decide) ?_
          exact ret_i (u := ()) hQ hx hb hrt hlk hS dX5_whyNoRequest_40 hP (by simp [wR, h_3, (nq_f h_4), et9, i8 ht9, ix8 ht9, er9, i10 hr9, ix10 hr9])
        · have h_4 := mt (nI_eq (a := ((stI F t9 == nI 1).toNat)) (b := 0) (by first | omega | exact bits_lt31 _ | exact bitN_lt _ _ | exact bool_lt _ | exact and_lt31 _ _ _ _ | exact Nat.lt_of_le_of_lt (dst_lt _ _ _ (by omega) _) (by decide) | exact Nat.lt_of_le_of_lt (nrB_le _ _ _ (by omega)).2 (by decide) | decide) (by first | omega | exact bits_lt31 _ | exact bitN_lt _ _ | exact bool_lt _ | exact and_lt31 _ _ _ _ | exact Nat.lt_of_le_of_lt (dst_lt _ _ _ (by omega) _) (by decide) | exact Nat.lt_of_le_of_lt (nrB_le _ _ _ (by omega)).2 (by decide) | decide)).mpr h_4
          have h_4 := tn_y h_4
          refine lv_iconst (v := (nI 0)) hx hb dX5_whyNoRequest_35 (by decide) ?_
          refine lv_goto (tgt := 40) hx hb dX5_whyNoRequest_36 (by decide) ?_
          exact ret_i (u := ()) hQ hx hb hrt hlk hS dX5_whyNoRequest_40 hP (by simp [wR, h_3, (beq_iff_eq.mp h_4), et9, i8 ht9, ix8 ht9, er9, i10 hr9, ix10 hr9])
      · have h_3 := (nI_eq (a := ((mdB p2).toNat)) (b := 0) (by first | omega | exact bits_lt31 _ | exact bitN_lt _ _ | exact bool_lt _ | exact and_lt31 _ _ _ _ | exact Nat.lt_of_le_of_lt (dst_lt _ _ _ (by omega) _) (by decide) | exact Nat.lt_of_le_of_lt (nrB_le _ _ _ (by omega)).2 (by decide) | decide) (by first | omega | exact bits_lt31 _ | exact bitN_lt _ _ | exact bool_lt _ | exact and_lt31 _ _ _ _ | exact Nat.lt_of_le_of_lt (dst_lt _ _ _ (by omega) _) (by decide) | exact Nat.lt_of_le_of_lt (nrB_le _ _ _ (by omega)).2 (by decide) | decide)).mp h_3
        have h_3 := tn_f h_3
        refine lv_iconst (v := (nI 2)) hx hb dX5_whyNoRequest_23 (by decide) ?_
        refine lv_goto (tgt := 40) hx hb dX5_whyNoRequest_24 (by decide) ?_
        exact ret_i (u := ()) hQ hx hb hrt hlk hS dX5_whyNoRequest_40 hP (by simp [wR, h_3, et9, i8 ht9, ix8 ht9, er9, i10 hr9, ix10 hr9])
    · have h_2 := (nI_eq (a := ((inI p1 10).toNat)) (b := 0) (by first | omega | exact bits_lt31 _ | exact bitN_lt _ _ | exact bool_lt _ | exact and_lt31 _ _ _ _ | exact Nat.lt_of_le_of_lt (dst_lt _ _ _ (by omega) _) (by decide) | exact Nat.lt_of_le_of_lt (nrB_le _ _ _ (by omega)).2 (by decide) | decide) (by first | omega | exact bits_lt31 _ | exact bitN_lt _ _ | exact bool_lt _ | exact and_lt31 _ _ _ _ | exact Nat.lt_of_le_of_lt (dst_lt _ _ _ (by omega) _) (by decide) | exact Nat.lt_of_le_of_lt (nrB_le _ _ _ (by omega)).2 (by decide) | decide)).mp h_2
      have h_2 := tn_f h_2
      refine lv_iconst (v := (nI 1)) hx hb dX5_whyNoRequest_14 (by decide) ?_
      exact ret_i (u := ()) hQ hx hb hrt hlk hS dX5_whyNoRequest_15 hP (by simp [wR, h_2, et9, i8 ht9, ix8 ht9])

abbrev rX5_whyNoWork : Room := { frames := 2, cells := 0, slots := 0, locals := 43 }
set_option maxHeartbeats 1000000 in
set_option maxRecDepth 100000 in
theorem c_X5_whyNoWork (l : Launch) (D : va_G) (cI cT : ClassId) (ad : Nat → Nat) (th sv ln vs rl cm fi se : Int32) (z zs sd tx ds rg : Nat → Int32) (F : FF) (Q0 : QQ) (p0 p1 : Int32) (hZ : RZ F Q0 z) : CN l D cI cT yX5_whyNoWork wsX5_whyNoWork rX5_whyNoWork [.ref (ad 0), .int p0, .int p1] (refW cI ad th sv ln vs rl cm fi se z zs sd tx ds rg) (S := Unit) (fun v _ => v = nI (wW F p0 p1)) (fun _ => refW cI ad th sv ln vs rl cm fi se z zs sd tx ds rg) := by
  refine CN.of (cc := cX5_whyNoWork) (maxL := 3) (ret := (some .int)) (by decide) rfl (Nat.le_of_ble_eq_true rfl) ?_
  intro p e s m args below meth c A Q hQ B hA H locs hP hK hD hS ls hl
  obtain ⟨hx, hb, hml, hrt, hts, hown, hlk⟩ := B
  have hP : va_P D vwCl ([(ad 0, .inr (5, [.int th, .ref (ad 1), .ref (ad 2), .ref (ad 3), .int sv, .ref (ad 4), .int ln, .int vs, .ref (ad 5), .ref (ad 6), .int rl, .int cm, .int fi, .int se])), (ad 1, .inl (cI, 221, .inl z)), (ad 2, .inl (cI, 221, .inl zs)), (ad 3, .inl (cI, 1768, .inl sd)), (ad 4, .inl (cI, 80, .inl tx)), (ad 5, .inl (cI, 8, .inl ds)), (ad 6, .inl (cI, 8, .inl rg))]) H := hP
  have hD : va_D A ([(ad 0, .inr (5, [.int th, .ref (ad 1), .ref (ad 2), .ref (ad 3), .int sv, .ref (ad 4), .int ln, .int vs, .ref (ad 5), .ref (ad 6), .int rl, .int cm, .int fi, .int se])), (ad 1, .inl (cI, 221, .inl z)), (ad 2, .inl (cI, 221, .inl zs)), (ad 3, .inl (cI, 1768, .inl sd)), (ad 4, .inl (cI, 80, .inl tx)), (ad 5, .inl (cI, 8, .inl ds)), (ad 6, .inl (cI, 8, .inl rg))]) := hD
  have hl : lv_has ls 3 [(0, .ref (ad 0)), (1, .int p0), (2, .int p1)] := hl
  refine lv_iload_n hx hb dX5_whyNoWork_0 rfl (lv_at hl 1 rfl) ?_
  refine call_s (X := [(ad 0, .inr (5, [.int th, .ref (ad 1), .ref (ad 2), .ref (ad 3), .int sv, .ref (ad 4), .int ln, .int vs, .ref (ad 5), .ref (ad 6), .int rl, .int cm, .int fi, .int se])), (ad 1, .inl (cI, 221, .inl z)), (ad 2, .inl (cI, 221, .inl zs)), (ad 3, .inl (cI, 1768, .inl sd)), (ad 4, .inl (cI, 80, .inl tx)), (ad 5, .inl (cI, 8, .inl ds)), (ad 6, .inl (cI, 8, .inl rg))]) (Wc := []) (Z := []) (As := [.int p0]) (rest := []) ⟨hx, hb, hml, hown, hts⟩ (c_X5_isTransaction l D cI cT p0) (va_cwS 1 hts gX5_whyNoWork_X5_isTransaction rfl rfl rfl (by decide +kernel) ⟨Nat.le_of_ble_eq_true rfl, Nat.le_of_ble_eq_true rfl⟩) hK (P_nilr hP) (D_nilr hD) hS hA (fun _ => rfl) rfl hl.1 rfl (Nat.le_of_ble_eq_true rfl) ⟨by decide, by decide⟩ dX5_whyNoWork_1 (fun rv _ H locs hp hP hD hS => ?_)
  obtain rfl := hp
  have hP := P_nil2 hP
  have hD := D_nil2 hD
  have hP : va_P D vwCl ([(ad 0, .inr (5, [.int th, .ref (ad 1), .ref (ad 2), .ref (ad 3), .int sv, .ref (ad 4), .int ln, .int vs, .ref (ad 5), .ref (ad 6), .int rl, .int cm, .int fi, .int se])), (ad 1, .inl (cI, 221, .inl z)), (ad 2, .inl (cI, 221, .inl zs)), (ad 3, .inl (cI, 1768, .inl sd)), (ad 4, .inl (cI, 80, .inl tx)), (ad 5, .inl (cI, 8, .inl ds)), (ad 6, .inl (cI, 8, .inl rg))]) H := hP
  have hD : va_D A ([(ad 0, .inr (5, [.int th, .ref (ad 1), .ref (ad 2), .ref (ad 3), .int sv, .ref (ad 4), .int ln, .int vs, .ref (ad 5), .ref (ad 6), .int rl, .int cm, .int fi, .int se])), (ad 1, .inl (cI, 221, .inl z)), (ad 2, .inl (cI, 221, .inl zs)), (ad 3, .inl (cI, 1768, .inl sd)), (ad 4, .inl (cI, 80, .inl tx)), (ad 5, .inl (cI, 8, .inl ds)), (ad 6, .inl (cI, 8, .inl rg))]) := hD
  refine lv_if_ne (tgt := 11) hx hb dX5_whyNoWork_4 (by decide) (fun h_1 => ?_) (fun h_1 => ?_)
  · have h_1 := mt (nI_eq (a := ((inI p0 8).toNat)) (b := 0) (by first | omega | exact bits_lt31 _ | exact bitN_lt _ _ | exact bool_lt _ | exact and_lt31 _ _ _ _ | exact Nat.lt_of_le_of_lt (dst_lt _ _ _ (by omega) _) (by decide) | exact Nat.lt_of_le_of_lt (nrB_le _ _ _ (by omega)).2 (by decide) | decide) (by first | omega | exact bits_lt31 _ | exact bitN_lt _ _ | exact bool_lt _ | exact and_lt31 _ _ _ _ | exact Nat.lt_of_le_of_lt (dst_lt _ _ _ (by omega) _) (by decide) | exact Nat.lt_of_le_of_lt (nrB_le _ _ _ (by omega)).2 (by decide) | decide)).mpr h_1
    have h_1 := tn_y h_1
    obtain ⟨t9, ht9, et9⟩ := inI_t (by decide) h_1
    rw [et9] at hl
    refine lv_iload_n hx hb dX5_whyNoWork_11 rfl (lv_at hl 2 rfl) ?_
    refine lv_iconst (v := (nI 1)) hx hb dX5_whyNoWork_12 (by decide) ?_
    refine lv_sipush (v := (nI 1000)) hx hb dX5_whyNoWork_13 (by decide) ?_
    refine call_s (X := [(ad 0, .inr (5, [.int th, .ref (ad 1), .ref (ad 2), .ref (ad 3), .int sv, .ref (ad 4), .int ln, .int vs, .ref (ad 5), .ref (ad 6), .int rl, .int cm, .int fi, .int se])), (ad 1, .inl (cI, 221, .inl z)), (ad 2, .inl (cI, 221, .inl zs)), (ad 3, .inl (cI, 1768, .inl sd)), (ad 4, .inl (cI, 80, .inl tx)), (ad 5, .inl (cI, 8, .inl ds)), (ad 6, .inl (cI, 8, .inl rg))]) (Wc := []) (Z := []) (As := [.int p1, .int (nI 1), .int (nI 1000)]) (rest := []) ⟨hx, hb, hml, hown, hts⟩ (c_X5_in l D cI cT p1 (nI 1) (nI 1000)) (va_cwS 3 hts gX5_whyNoWork_X5_in rfl rfl rfl (by decide +kernel) ⟨Nat.le_of_ble_eq_true rfl, Nat.le_of_ble_eq_true rfl⟩) hK (P_nilr hP) (D_nilr hD) hS hA (fun _ => rfl) rfl hl.1 rfl (Nat.le_of_ble_eq_true rfl) ⟨by decide, by decide⟩ dX5_whyNoWork_16 (fun rv _ H locs hp hP hD hS => ?_)
    obtain rfl := hp
    have hP := P_nil2 hP
    have hD := D_nil2 hD
    have hP : va_P D vwCl ([(ad 0, .inr (5, [.int th, .ref (ad 1), .ref (ad 2), .ref (ad 3), .int sv, .ref (ad 4), .int ln, .int vs, .ref (ad 5), .ref (ad 6), .int rl, .int cm, .int fi, .int se])), (ad 1, .inl (cI, 221, .inl z)), (ad 2, .inl (cI, 221, .inl zs)), (ad 3, .inl (cI, 1768, .inl sd)), (ad 4, .inl (cI, 80, .inl tx)), (ad 5, .inl (cI, 8, .inl ds)), (ad 6, .inl (cI, 8, .inl rg))]) H := hP
    have hD : va_D A ([(ad 0, .inr (5, [.int th, .ref (ad 1), .ref (ad 2), .ref (ad 3), .int sv, .ref (ad 4), .int ln, .int vs, .ref (ad 5), .ref (ad 6), .int rl, .int cm, .int fi, .int se])), (ad 1, .inl (cI, 221, .inl z)), (ad 2, .inl (cI, 221, .inl zs)), (ad 3, .inl (cI, 1768, .inl sd)), (ad 4, .inl (cI, 80, .inl tx)), (ad 5, .inl (cI, 8, .inl ds)), (ad 6, .inl (cI, 8, .inl rg))]) := hD
    refine lv_if_ne (tgt := 26) hx hb dX5_whyNoWork_19 (by decide) (fun h_2 => ?_) (fun h_2 => ?_)
    · have h_2 := mt (nI_eq (a := ((inB p1 (nI 1) (nI 1000)).toNat)) (b := 0) (by first | omega | exact bits_lt31 _ | exact bitN_lt _ _ | exact bool_lt _ | exact and_lt31 _ _ _ _ | exact Nat.lt_of_le_of_lt (dst_lt _ _ _ (by omega) _) (by decide) | exact Nat.lt_of_le_of_lt (nrB_le _ _ _ (by omega)).2 (by decide) | decide) (by first | omega | exact bits_lt31 _ | exact bitN_lt _ _ | exact bool_lt _ | exact and_lt31 _ _ _ _ | exact Nat.lt_of_le_of_lt (dst_lt _ _ _ (by omega) _) (by decide) | exact Nat.lt_of_le_of_lt (nrB_le _ _ _ (by omega)).2 (by decide) | decide)).mpr h_2
      have h_2 := tn_y h_2
      refine lv_aload_n hx hb dX5_whyNoWork_26 rfl (lv_at hl 0 rfl) ?_
      refine lv_iload_n hx hb dX5_whyNoWork_27 rfl (lv_at hl 1 rfl) ?_
      refine call_i (X := []) (Z := []) (As := [.int (nI t9)]) (rest := []) ⟨hx, hb, hml, hown, hts⟩ (c_X5_isActive l D cI cT ad th sv ln vs rl cm fi se z zs sd tx ds rg F Q0 t9 (by omega) hZ) (cwV 1 hts gX5_whyNoWork_X5_isActive rfl rfl rfl (by decide +kernel) ⟨Nat.le_of_ble_eq_true rfl, Nat.le_of_ble_eq_true rfl⟩) hK hP hD hS hA (va_recv hK hP (ci := 5) (q0 := 0) rfl rfl) (fun _ => rfl) rfl hl.1 rfl (Nat.le_of_ble_eq_true rfl) ⟨by decide, by decide⟩ dX5_whyNoWork_28 (fun rv _ H locs hp hP hD hS => ?_)
      obtain rfl := hp
      have hP : va_P D vwCl ([(ad 0, .inr (5, [.int th, .ref (ad 1), .ref (ad 2), .ref (ad 3), .int sv, .ref (ad 4), .int ln, .int vs, .ref (ad 5), .ref (ad 6), .int rl, .int cm, .int fi, .int se])), (ad 1, .inl (cI, 221, .inl z)), (ad 2, .inl (cI, 221, .inl zs)), (ad 3, .inl (cI, 1768, .inl sd)), (ad 4, .inl (cI, 80, .inl tx)), (ad 5, .inl (cI, 8, .inl ds)), (ad 6, .inl (cI, 8, .inl rg))]) H := hP
      have hD : va_D A ([(ad 0, .inr (5, [.int th, .ref (ad 1), .ref (ad 2), .ref (ad 3), .int sv, .ref (ad 4), .int ln, .int vs, .ref (ad 5), .ref (ad 6), .int rl, .int cm, .int fi, .int se])), (ad 1, .inl (cI, 221, .inl z)), (ad 2, .inl (cI, 221, .inl zs)), (ad 3, .inl (cI, 1768, .inl sd)), (ad 4, .inl (cI, 80, .inl tx)), (ad 5, .inl (cI, 8, .inl ds)), (ad 6, .inl (cI, 8, .inl rg))]) := hD
      refine lv_if_eq (tgt := 38) hx hb dX5_whyNoWork_31 (by decide) (fun h_3 => ?_) (fun h_3 => ?_)
      · have h_3 := (nI_eq (a := ((stI F t9 == nI 1).toNat)) (b := 0) (by first | omega | exact bits_lt31 _ | exact bitN_lt _ _ | exact bool_lt _ | exact and_lt31 _ _ _ _ | exact Nat.lt_of_le_of_lt (dst_lt _ _ _ (by omega) _) (by decide) | exact Nat.lt_of_le_of_lt (nrB_le _ _ _ (by omega)).2 (by decide) | decide) (by first | omega | exact bits_lt31 _ | exact bitN_lt _ _ | exact bool_lt _ | exact and_lt31 _ _ _ _ | exact Nat.lt_of_le_of_lt (dst_lt _ _ _ (by omega) _) (by decide) | exact Nat.lt_of_le_of_lt (nrB_le _ _ _ (by omega)).2 (by decide) | decide)).mp h_3
        have h_3 := tn_f h_3
        refine lv_iconst (v := (nI 3)) hx hb dX5_whyNoWork_38 (by decide) ?_
        exact ret_i (u := ()) hQ hx hb hrt hlk hS dX5_whyNoWork_39 hP (by simp [wW, h_2, (nq_f h_3), et9, i8 ht9, ix8 ht9])
      · have h_3 := mt (nI_eq (a := ((stI F t9 == nI 1).toNat)) (b := 0) (by first | omega | exact bits_lt31 _ | exact bitN_lt _ _ | exact bool_lt _ | exact and_lt31 _ _ _ _ | exact Nat.lt_of_le_of_lt (dst_lt _ _ _ (by omega) _) (by decide) | exact Nat.lt_of_le_of_lt (nrB_le _ _ _ (by omega)).2 (by decide) | decide) (by first | omega | exact bits_lt31 _ | exact bitN_lt _ _ | exact bool_lt _ | exact and_lt31 _ _ _ _ | exact Nat.lt_of_le_of_lt (dst_lt _ _ _ (by omega) _) (by decide) | exact Nat.lt_of_le_of_lt (nrB_le _ _ _ (by omega)).2 (by decide) | decide)).mpr h_3
        have h_3 := tn_y h_3
        refine lv_iconst (v := (nI 0)) hx hb dX5_whyNoWork_34 (by decide) ?_
        refine lv_goto (tgt := 39) hx hb dX5_whyNoWork_35 (by decide) ?_
        exact ret_i (u := ()) hQ hx hb hrt hlk hS dX5_whyNoWork_39 hP (by simp [wW, h_2, (beq_iff_eq.mp h_3), et9, i8 ht9, ix8 ht9])
    · have h_2 := (nI_eq (a := ((inB p1 (nI 1) (nI 1000)).toNat)) (b := 0) (by first | omega | exact bits_lt31 _ | exact bitN_lt _ _ | exact bool_lt _ | exact and_lt31 _ _ _ _ | exact Nat.lt_of_le_of_lt (dst_lt _ _ _ (by omega) _) (by decide) | exact Nat.lt_of_le_of_lt (nrB_le _ _ _ (by omega)).2 (by decide) | decide) (by first | omega | exact bits_lt31 _ | exact bitN_lt _ _ | exact bool_lt _ | exact and_lt31 _ _ _ _ | exact Nat.lt_of_le_of_lt (dst_lt _ _ _ (by omega) _) (by decide) | exact Nat.lt_of_le_of_lt (nrB_le _ _ _ (by omega)).2 (by decide) | decide)).mp h_2
      have h_2 := tn_f h_2
      refine lv_iconst (v := (nI 2)) hx hb dX5_whyNoWork_22 (by decide) ?_
      refine lv_goto (tgt := 39) hx hb dX5_whyNoWork_23 (by decide) ?_
      exact ret_i (u := ()) hQ hx hb hrt hlk hS dX5_whyNoWork_39 hP (by simp [wW, h_2, et9, i8 ht9, ix8 ht9])
  · have h_1 := (nI_eq (a := ((inI p0 8).toNat)) (b := 0) (by first | omega | exact bits_lt31 _ | exact bitN_lt _ _ | exact bool_lt _ | exact and_lt31 _ _ _ _ | exact Nat.lt_of_le_of_lt (dst_lt _ _ _ (by omega) _) (by decide) | exact Nat.lt_of_le_of_lt (nrB_le _ _ _ (by omega)).2 (by decide) | decide) (by first | omega | exact bits_lt31 _ | exact bitN_lt _ _ | exact bool_lt _ | exact and_lt31 _ _ _ _ | exact Nat.lt_of_le_of_lt (dst_lt _ _ _ (by omega) _) (by decide) | exact Nat.lt_of_le_of_lt (nrB_le _ _ _ (by omega)).2 (by decide) | decide)).mp h_1
    have h_1 := tn_f h_1
    refine lv_iconst (v := (nI 1)) hx hb dX5_whyNoWork_7 (by decide) ?_
    refine lv_goto (tgt := 39) hx hb dX5_whyNoWork_8 (by decide) ?_
    exact ret_i (u := ()) hQ hx hb hrt hlk hS dX5_whyNoWork_39 hP (by simp [wW, h_1])

abbrev rX5_whyNoWithdraw : Room := { frames := 2, cells := 0, slots := 0, locals := 42 }
set_option maxHeartbeats 1000000 in
set_option maxRecDepth 100000 in
theorem c_X5_whyNoWithdraw (l : Launch) (D : va_G) (cI cT : ClassId) (ad : Nat → Nat) (th sv ln vs rl cm fi se : Int32) (z zs sd tx ds rg : Nat → Int32) (F : FF) (Q0 : QQ) (p0 : Int32) (hZ : RZ F Q0 z) : CN l D cI cT yX5_whyNoWithdraw wsX5_whyNoWithdraw rX5_whyNoWithdraw [.ref (ad 0), .int p0] (refW cI ad th sv ln vs rl cm fi se z zs sd tx ds rg) (S := Unit) (fun v _ => v = nI (wD F p0)) (fun _ => refW cI ad th sv ln vs rl cm fi se z zs sd tx ds rg) := by
  refine CN.of (cc := cX5_whyNoWithdraw) (maxL := 2) (ret := (some .int)) (by decide) rfl (Nat.le_of_ble_eq_true rfl) ?_
  intro p e s m args below meth c A Q hQ B hA H locs hP hK hD hS ls hl
  obtain ⟨hx, hb, hml, hrt, hts, hown, hlk⟩ := B
  have hP : va_P D vwCl ([(ad 0, .inr (5, [.int th, .ref (ad 1), .ref (ad 2), .ref (ad 3), .int sv, .ref (ad 4), .int ln, .int vs, .ref (ad 5), .ref (ad 6), .int rl, .int cm, .int fi, .int se])), (ad 1, .inl (cI, 221, .inl z)), (ad 2, .inl (cI, 221, .inl zs)), (ad 3, .inl (cI, 1768, .inl sd)), (ad 4, .inl (cI, 80, .inl tx)), (ad 5, .inl (cI, 8, .inl ds)), (ad 6, .inl (cI, 8, .inl rg))]) H := hP
  have hD : va_D A ([(ad 0, .inr (5, [.int th, .ref (ad 1), .ref (ad 2), .ref (ad 3), .int sv, .ref (ad 4), .int ln, .int vs, .ref (ad 5), .ref (ad 6), .int rl, .int cm, .int fi, .int se])), (ad 1, .inl (cI, 221, .inl z)), (ad 2, .inl (cI, 221, .inl zs)), (ad 3, .inl (cI, 1768, .inl sd)), (ad 4, .inl (cI, 80, .inl tx)), (ad 5, .inl (cI, 8, .inl ds)), (ad 6, .inl (cI, 8, .inl rg))]) := hD
  have hl : lv_has ls 2 [(0, .ref (ad 0)), (1, .int p0)] := hl
  refine lv_iload_n hx hb dX5_whyNoWithdraw_0 rfl (lv_at hl 1 rfl) ?_
  refine call_s (X := [(ad 0, .inr (5, [.int th, .ref (ad 1), .ref (ad 2), .ref (ad 3), .int sv, .ref (ad 4), .int ln, .int vs, .ref (ad 5), .ref (ad 6), .int rl, .int cm, .int fi, .int se])), (ad 1, .inl (cI, 221, .inl z)), (ad 2, .inl (cI, 221, .inl zs)), (ad 3, .inl (cI, 1768, .inl sd)), (ad 4, .inl (cI, 80, .inl tx)), (ad 5, .inl (cI, 8, .inl ds)), (ad 6, .inl (cI, 8, .inl rg))]) (Wc := []) (Z := []) (As := [.int p0]) (rest := []) ⟨hx, hb, hml, hown, hts⟩ (c_X5_isTransaction l D cI cT p0) (va_cwS 1 hts gX5_whyNoWithdraw_X5_isTransaction rfl rfl rfl (by decide +kernel) ⟨Nat.le_of_ble_eq_true rfl, Nat.le_of_ble_eq_true rfl⟩) hK (P_nilr hP) (D_nilr hD) hS hA (fun _ => rfl) rfl hl.1 rfl (Nat.le_of_ble_eq_true rfl) ⟨by decide, by decide⟩ dX5_whyNoWithdraw_1 (fun rv _ H locs hp hP hD hS => ?_)
  obtain rfl := hp
  have hP := P_nil2 hP
  have hD := D_nil2 hD
  have hP : va_P D vwCl ([(ad 0, .inr (5, [.int th, .ref (ad 1), .ref (ad 2), .ref (ad 3), .int sv, .ref (ad 4), .int ln, .int vs, .ref (ad 5), .ref (ad 6), .int rl, .int cm, .int fi, .int se])), (ad 1, .inl (cI, 221, .inl z)), (ad 2, .inl (cI, 221, .inl zs)), (ad 3, .inl (cI, 1768, .inl sd)), (ad 4, .inl (cI, 80, .inl tx)), (ad 5, .inl (cI, 8, .inl ds)), (ad 6, .inl (cI, 8, .inl rg))]) H := hP
  have hD : va_D A ([(ad 0, .inr (5, [.int th, .ref (ad 1), .ref (ad 2), .ref (ad 3), .int sv, .ref (ad 4), .int ln, .int vs, .ref (ad 5), .ref (ad 6), .int rl, .int cm, .int fi, .int se])), (ad 1, .inl (cI, 221, .inl z)), (ad 2, .inl (cI, 221, .inl zs)), (ad 3, .inl (cI, 1768, .inl sd)), (ad 4, .inl (cI, 80, .inl tx)), (ad 5, .inl (cI, 8, .inl ds)), (ad 6, .inl (cI, 8, .inl rg))]) := hD
  refine lv_if_ne (tgt := 11) hx hb dX5_whyNoWithdraw_4 (by decide) (fun h_1 => ?_) (fun h_1 => ?_)
  · have h_1 := mt (nI_eq (a := ((inI p0 8).toNat)) (b := 0) (by first | omega | exact bits_lt31 _ | exact bitN_lt _ _ | exact bool_lt _ | exact and_lt31 _ _ _ _ | exact Nat.lt_of_le_of_lt (dst_lt _ _ _ (by omega) _) (by decide) | exact Nat.lt_of_le_of_lt (nrB_le _ _ _ (by omega)).2 (by decide) | decide) (by first | omega | exact bits_lt31 _ | exact bitN_lt _ _ | exact bool_lt _ | exact and_lt31 _ _ _ _ | exact Nat.lt_of_le_of_lt (dst_lt _ _ _ (by omega) _) (by decide) | exact Nat.lt_of_le_of_lt (nrB_le _ _ _ (by omega)).2 (by decide) | decide)).mpr h_1
    have h_1 := tn_y h_1
    obtain ⟨t9, ht9, et9⟩ := inI_t (by decide) h_1
    rw [et9] at hl
    refine lv_aload_n hx hb dX5_whyNoWithdraw_11 rfl (lv_at hl 0 rfl) ?_
    refine lv_iload_n hx hb dX5_whyNoWithdraw_12 rfl (lv_at hl 1 rfl) ?_
    refine lv_iconst (v := (nI 0)) hx hb dX5_whyNoWithdraw_13 (by decide) ?_
    refine call_i (X := []) (Z := []) (As := [.int (nI t9), .int (nI 0)]) (rest := []) ⟨hx, hb, hml, hown, hts⟩ (c_X5_of l D cI cT ad th sv ln vs rl cm fi se z zs sd tx ds rg t9 0 (by omega)) (cwV 2 hts gX5_whyNoWithdraw_X5_of rfl rfl rfl (by decide +kernel) ⟨Nat.le_of_ble_eq_true rfl, Nat.le_of_ble_eq_true rfl⟩) hK hP hD hS hA (va_recv hK hP (ci := 5) (q0 := 0) rfl rfl) (fun _ => rfl) rfl hl.1 rfl (Nat.le_of_ble_eq_true rfl) ⟨by decide, by decide⟩ dX5_whyNoWithdraw_14 (fun rv _ H locs hp hP hD hS => ?_)
    obtain rfl := hp
    have hP : va_P D vwCl ([(ad 0, .inr (5, [.int th, .ref (ad 1), .ref (ad 2), .ref (ad 3), .int sv, .ref (ad 4), .int ln, .int vs, .ref (ad 5), .ref (ad 6), .int rl, .int cm, .int fi, .int se])), (ad 1, .inl (cI, 221, .inl z)), (ad 2, .inl (cI, 221, .inl zs)), (ad 3, .inl (cI, 1768, .inl sd)), (ad 4, .inl (cI, 80, .inl tx)), (ad 5, .inl (cI, 8, .inl ds)), (ad 6, .inl (cI, 8, .inl rg))]) H := hP
    have hD : va_D A ([(ad 0, .inr (5, [.int th, .ref (ad 1), .ref (ad 2), .ref (ad 3), .int sv, .ref (ad 4), .int ln, .int vs, .ref (ad 5), .ref (ad 6), .int rl, .int cm, .int fi, .int se])), (ad 1, .inl (cI, 221, .inl z)), (ad 2, .inl (cI, 221, .inl zs)), (ad 3, .inl (cI, 1768, .inl sd)), (ad 4, .inl (cI, 80, .inl tx)), (ad 5, .inl (cI, 8, .inl ds)), (ad 6, .inl (cI, 8, .inl rg))]) := hD
    refine tpe (y := stI F t9) (RZ_0 hZ (by omega)) ?_
    refine lv_iconst (v := (nI 2)) hx hb dX5_whyNoWithdraw_17 (by decide) ?_
    refine lv_icmp_ne (tgt := 25) hx hb dX5_whyNoWithdraw_18 (by decide) (fun h_2 => ?_) (fun h_2 => ?_)
    · have h_2 := h_2
      refine lv_iconst (v := (nI 2)) hx hb dX5_whyNoWithdraw_25 (by decide) ?_
      exact ret_i (u := ()) hQ hx hb hrt hlk hS dX5_whyNoWithdraw_26 hP (by simp [wD, h_2, et9, i8 ht9, ix8 ht9])
    · have h_2 := h_2
      refine lv_iconst (v := (nI 0)) hx hb dX5_whyNoWithdraw_21 (by decide) ?_
      refine lv_goto (tgt := 26) hx hb dX5_whyNoWithdraw_22 (by decide) ?_
      exact ret_i (u := ()) hQ hx hb hrt hlk hS dX5_whyNoWithdraw_26 hP (by simp [wD, h_2, et9, i8 ht9, ix8 ht9])
  · have h_1 := (nI_eq (a := ((inI p0 8).toNat)) (b := 0) (by first | omega | exact bits_lt31 _ | exact bitN_lt _ _ | exact bool_lt _ | exact and_lt31 _ _ _ _ | exact Nat.lt_of_le_of_lt (dst_lt _ _ _ (by omega) _) (by decide) | exact Nat.lt_of_le_of_lt (nrB_le _ _ _ (by omega)).2 (by decide) | decide) (by first | omega | exact bits_lt31 _ | exact bitN_lt _ _ | exact bool_lt _ | exact and_lt31 _ _ _ _ | exact Nat.lt_of_le_of_lt (dst_lt _ _ _ (by omega) _) (by decide) | exact Nat.lt_of_le_of_lt (nrB_le _ _ _ (by omega)).2 (by decide) | decide)).mp h_1
    have h_1 := tn_f h_1
    refine lv_iconst (v := (nI 1)) hx hb dX5_whyNoWithdraw_7 (by decide) ?_
    refine lv_goto (tgt := 26) hx hb dX5_whyNoWithdraw_8 (by decide) ?_
    exact ret_i (u := ()) hQ hx hb hrt hlk hS dX5_whyNoWithdraw_26 hP (by simp [wD, h_1])

abbrev rX5_whyNoCommit : Room := { frames := 2, cells := 0, slots := 0, locals := 43 }
set_option maxHeartbeats 1000000 in
set_option maxRecDepth 100000 in
theorem c_X5_whyNoCommit (l : Launch) (D : va_G) (cI cT : ClassId) (ad : Nat → Nat) (th sv ln vs rl cm fi se : Int32) (z zs sd tx ds rg : Nat → Int32) (F : FF) (Q0 : QQ) (p0 : Int32) (hZ : RZ F Q0 z) : CN l D cI cT yX5_whyNoCommit wsX5_whyNoCommit rX5_whyNoCommit [.ref (ad 0), .int p0] (refW cI ad th sv ln vs rl cm fi se z zs sd tx ds rg) (S := Unit) (fun v _ => v = nI (wC F p0)) (fun _ => refW cI ad th sv ln vs rl cm fi se z zs sd tx ds rg) := by
  refine CN.of (cc := cX5_whyNoCommit) (maxL := 2) (ret := (some .int)) (by decide) rfl (Nat.le_of_ble_eq_true rfl) ?_
  intro p e s m args below meth c A Q hQ B hA H locs hP hK hD hS ls hl
  obtain ⟨hx, hb, hml, hrt, hts, hown, hlk⟩ := B
  have hP : va_P D vwCl ([(ad 0, .inr (5, [.int th, .ref (ad 1), .ref (ad 2), .ref (ad 3), .int sv, .ref (ad 4), .int ln, .int vs, .ref (ad 5), .ref (ad 6), .int rl, .int cm, .int fi, .int se])), (ad 1, .inl (cI, 221, .inl z)), (ad 2, .inl (cI, 221, .inl zs)), (ad 3, .inl (cI, 1768, .inl sd)), (ad 4, .inl (cI, 80, .inl tx)), (ad 5, .inl (cI, 8, .inl ds)), (ad 6, .inl (cI, 8, .inl rg))]) H := hP
  have hD : va_D A ([(ad 0, .inr (5, [.int th, .ref (ad 1), .ref (ad 2), .ref (ad 3), .int sv, .ref (ad 4), .int ln, .int vs, .ref (ad 5), .ref (ad 6), .int rl, .int cm, .int fi, .int se])), (ad 1, .inl (cI, 221, .inl z)), (ad 2, .inl (cI, 221, .inl zs)), (ad 3, .inl (cI, 1768, .inl sd)), (ad 4, .inl (cI, 80, .inl tx)), (ad 5, .inl (cI, 8, .inl ds)), (ad 6, .inl (cI, 8, .inl rg))]) := hD
  have hl : lv_has ls 2 [(0, .ref (ad 0)), (1, .int p0)] := hl
  refine lv_iload_n hx hb dX5_whyNoCommit_0 rfl (lv_at hl 1 rfl) ?_
  refine call_s (X := [(ad 0, .inr (5, [.int th, .ref (ad 1), .ref (ad 2), .ref (ad 3), .int sv, .ref (ad 4), .int ln, .int vs, .ref (ad 5), .ref (ad 6), .int rl, .int cm, .int fi, .int se])), (ad 1, .inl (cI, 221, .inl z)), (ad 2, .inl (cI, 221, .inl zs)), (ad 3, .inl (cI, 1768, .inl sd)), (ad 4, .inl (cI, 80, .inl tx)), (ad 5, .inl (cI, 8, .inl ds)), (ad 6, .inl (cI, 8, .inl rg))]) (Wc := []) (Z := []) (As := [.int p0]) (rest := []) ⟨hx, hb, hml, hown, hts⟩ (c_X5_isTransaction l D cI cT p0) (va_cwS 1 hts gX5_whyNoCommit_X5_isTransaction rfl rfl rfl (by decide +kernel) ⟨Nat.le_of_ble_eq_true rfl, Nat.le_of_ble_eq_true rfl⟩) hK (P_nilr hP) (D_nilr hD) hS hA (fun _ => rfl) rfl hl.1 rfl (Nat.le_of_ble_eq_true rfl) ⟨by decide, by decide⟩ dX5_whyNoCommit_1 (fun rv _ H locs hp hP hD hS => ?_)
  obtain rfl := hp
  have hP := P_nil2 hP
  have hD := D_nil2 hD
  have hP : va_P D vwCl ([(ad 0, .inr (5, [.int th, .ref (ad 1), .ref (ad 2), .ref (ad 3), .int sv, .ref (ad 4), .int ln, .int vs, .ref (ad 5), .ref (ad 6), .int rl, .int cm, .int fi, .int se])), (ad 1, .inl (cI, 221, .inl z)), (ad 2, .inl (cI, 221, .inl zs)), (ad 3, .inl (cI, 1768, .inl sd)), (ad 4, .inl (cI, 80, .inl tx)), (ad 5, .inl (cI, 8, .inl ds)), (ad 6, .inl (cI, 8, .inl rg))]) H := hP
  have hD : va_D A ([(ad 0, .inr (5, [.int th, .ref (ad 1), .ref (ad 2), .ref (ad 3), .int sv, .ref (ad 4), .int ln, .int vs, .ref (ad 5), .ref (ad 6), .int rl, .int cm, .int fi, .int se])), (ad 1, .inl (cI, 221, .inl z)), (ad 2, .inl (cI, 221, .inl zs)), (ad 3, .inl (cI, 1768, .inl sd)), (ad 4, .inl (cI, 80, .inl tx)), (ad 5, .inl (cI, 8, .inl ds)), (ad 6, .inl (cI, 8, .inl rg))]) := hD
  refine lv_if_ne (tgt := 11) hx hb dX5_whyNoCommit_4 (by decide) (fun h_1 => ?_) (fun h_1 => ?_)
  · have h_1 := mt (nI_eq (a := ((inI p0 8).toNat)) (b := 0) (by first | omega | exact bits_lt31 _ | exact bitN_lt _ _ | exact bool_lt _ | exact and_lt31 _ _ _ _ | exact Nat.lt_of_le_of_lt (dst_lt _ _ _ (by omega) _) (by decide) | exact Nat.lt_of_le_of_lt (nrB_le _ _ _ (by omega)).2 (by decide) | decide) (by first | omega | exact bits_lt31 _ | exact bitN_lt _ _ | exact bool_lt _ | exact and_lt31 _ _ _ _ | exact Nat.lt_of_le_of_lt (dst_lt _ _ _ (by omega) _) (by decide) | exact Nat.lt_of_le_of_lt (nrB_le _ _ _ (by omega)).2 (by decide) | decide)).mpr h_1
    have h_1 := tn_y h_1
    obtain ⟨t9, ht9, et9⟩ := inI_t (by decide) h_1
    rw [et9] at hl
    refine lv_aload_n hx hb dX5_whyNoCommit_11 rfl (lv_at hl 0 rfl) ?_
    refine lv_iload_n hx hb dX5_whyNoCommit_12 rfl (lv_at hl 1 rfl) ?_
    refine call_i (X := []) (Z := []) (As := [.int (nI t9)]) (rest := []) ⟨hx, hb, hml, hown, hts⟩ (c_X5_isActive l D cI cT ad th sv ln vs rl cm fi se z zs sd tx ds rg F Q0 t9 (by omega) hZ) (cwV 1 hts gX5_whyNoCommit_X5_isActive rfl rfl rfl (by decide +kernel) ⟨Nat.le_of_ble_eq_true rfl, Nat.le_of_ble_eq_true rfl⟩) hK hP hD hS hA (va_recv hK hP (ci := 5) (q0 := 0) rfl rfl) (fun _ => rfl) rfl hl.1 rfl (Nat.le_of_ble_eq_true rfl) ⟨by decide, by decide⟩ dX5_whyNoCommit_13 (fun rv _ H locs hp hP hD hS => ?_)
    obtain rfl := hp
    have hP : va_P D vwCl ([(ad 0, .inr (5, [.int th, .ref (ad 1), .ref (ad 2), .ref (ad 3), .int sv, .ref (ad 4), .int ln, .int vs, .ref (ad 5), .ref (ad 6), .int rl, .int cm, .int fi, .int se])), (ad 1, .inl (cI, 221, .inl z)), (ad 2, .inl (cI, 221, .inl zs)), (ad 3, .inl (cI, 1768, .inl sd)), (ad 4, .inl (cI, 80, .inl tx)), (ad 5, .inl (cI, 8, .inl ds)), (ad 6, .inl (cI, 8, .inl rg))]) H := hP
    have hD : va_D A ([(ad 0, .inr (5, [.int th, .ref (ad 1), .ref (ad 2), .ref (ad 3), .int sv, .ref (ad 4), .int ln, .int vs, .ref (ad 5), .ref (ad 6), .int rl, .int cm, .int fi, .int se])), (ad 1, .inl (cI, 221, .inl z)), (ad 2, .inl (cI, 221, .inl zs)), (ad 3, .inl (cI, 1768, .inl sd)), (ad 4, .inl (cI, 80, .inl tx)), (ad 5, .inl (cI, 8, .inl ds)), (ad 6, .inl (cI, 8, .inl rg))]) := hD
    refine lv_if_eq (tgt := 23) hx hb dX5_whyNoCommit_16 (by decide) (fun h_2 => ?_) (fun h_2 => ?_)
    · have h_2 := (nI_eq (a := ((stI F t9 == nI 1).toNat)) (b := 0) (by first | omega | exact bits_lt31 _ | exact bitN_lt _ _ | exact bool_lt _ | exact and_lt31 _ _ _ _ | exact Nat.lt_of_le_of_lt (dst_lt _ _ _ (by omega) _) (by decide) | exact Nat.lt_of_le_of_lt (nrB_le _ _ _ (by omega)).2 (by decide) | decide) (by first | omega | exact bits_lt31 _ | exact bitN_lt _ _ | exact bool_lt _ | exact and_lt31 _ _ _ _ | exact Nat.lt_of_le_of_lt (dst_lt _ _ _ (by omega) _) (by decide) | exact Nat.lt_of_le_of_lt (nrB_le _ _ _ (by omega)).2 (by decide) | decide)).mp h_2
      have h_2 := tn_f h_2
      refine lv_iconst (v := (nI 2)) hx hb dX5_whyNoCommit_23 (by decide) ?_
      exact ret_i (u := ()) hQ hx hb hrt hlk hS dX5_whyNoCommit_24 hP (by simp [wC, (nq_f h_2), et9, i8 ht9, ix8 ht9])
    · have h_2 := mt (nI_eq (a := ((stI F t9 == nI 1).toNat)) (b := 0) (by first | omega | exact bits_lt31 _ | exact bitN_lt _ _ | exact bool_lt _ | exact and_lt31 _ _ _ _ | exact Nat.lt_of_le_of_lt (dst_lt _ _ _ (by omega) _) (by decide) | exact Nat.lt_of_le_of_lt (nrB_le _ _ _ (by omega)).2 (by decide) | decide) (by first | omega | exact bits_lt31 _ | exact bitN_lt _ _ | exact bool_lt _ | exact and_lt31 _ _ _ _ | exact Nat.lt_of_le_of_lt (dst_lt _ _ _ (by omega) _) (by decide) | exact Nat.lt_of_le_of_lt (nrB_le _ _ _ (by omega)).2 (by decide) | decide)).mpr h_2
      have h_2 := tn_y h_2
      refine lv_iconst (v := (nI 0)) hx hb dX5_whyNoCommit_19 (by decide) ?_
      refine lv_goto (tgt := 24) hx hb dX5_whyNoCommit_20 (by decide) ?_
      exact ret_i (u := ()) hQ hx hb hrt hlk hS dX5_whyNoCommit_24 hP (by simp [wC, (beq_iff_eq.mp h_2), et9, i8 ht9, ix8 ht9])
  · have h_1 := (nI_eq (a := ((inI p0 8).toNat)) (b := 0) (by first | omega | exact bits_lt31 _ | exact bitN_lt _ _ | exact bool_lt _ | exact and_lt31 _ _ _ _ | exact Nat.lt_of_le_of_lt (dst_lt _ _ _ (by omega) _) (by decide) | exact Nat.lt_of_le_of_lt (nrB_le _ _ _ (by omega)).2 (by decide) | decide) (by first | omega | exact bits_lt31 _ | exact bitN_lt _ _ | exact bool_lt _ | exact and_lt31 _ _ _ _ | exact Nat.lt_of_le_of_lt (dst_lt _ _ _ (by omega) _) (by decide) | exact Nat.lt_of_le_of_lt (nrB_le _ _ _ (by omega)).2 (by decide) | decide)).mp h_1
    have h_1 := tn_f h_1
    refine lv_iconst (v := (nI 1)) hx hb dX5_whyNoCommit_7 (by decide) ?_
    refine lv_goto (tgt := 24) hx hb dX5_whyNoCommit_8 (by decide) ?_
    exact ret_i (u := ()) hQ hx hb hrt hlk hS dX5_whyNoCommit_24 hP (by simp [wC, h_1])

abbrev rX5_whyNoRollBack : Room := { frames := 2, cells := 0, slots := 0, locals := 42 }
set_option maxHeartbeats 1000000 in
set_option maxRecDepth 100000 in
theorem c_X5_whyNoRollBack (l : Launch) (D : va_G) (cI cT : ClassId) (ad : Nat → Nat) (th sv ln vs rl cm fi se : Int32) (z zs sd tx ds rg : Nat → Int32) (F : FF) (Q0 : QQ) (p0 : Int32) (hZ : RZ F Q0 z) : CN l D cI cT yX5_whyNoRollBack wsX5_whyNoRollBack rX5_whyNoRollBack [.ref (ad 0), .int p0] (refW cI ad th sv ln vs rl cm fi se z zs sd tx ds rg) (S := Unit) (fun v _ => v = nI (wA F p0)) (fun _ => refW cI ad th sv ln vs rl cm fi se z zs sd tx ds rg) := by
  refine CN.of (cc := cX5_whyNoRollBack) (maxL := 2) (ret := (some .int)) (by decide) rfl (Nat.le_of_ble_eq_true rfl) ?_
  intro p e s m args below meth c A Q hQ B hA H locs hP hK hD hS ls hl
  obtain ⟨hx, hb, hml, hrt, hts, hown, hlk⟩ := B
  have hP : va_P D vwCl ([(ad 0, .inr (5, [.int th, .ref (ad 1), .ref (ad 2), .ref (ad 3), .int sv, .ref (ad 4), .int ln, .int vs, .ref (ad 5), .ref (ad 6), .int rl, .int cm, .int fi, .int se])), (ad 1, .inl (cI, 221, .inl z)), (ad 2, .inl (cI, 221, .inl zs)), (ad 3, .inl (cI, 1768, .inl sd)), (ad 4, .inl (cI, 80, .inl tx)), (ad 5, .inl (cI, 8, .inl ds)), (ad 6, .inl (cI, 8, .inl rg))]) H := hP
  have hD : va_D A ([(ad 0, .inr (5, [.int th, .ref (ad 1), .ref (ad 2), .ref (ad 3), .int sv, .ref (ad 4), .int ln, .int vs, .ref (ad 5), .ref (ad 6), .int rl, .int cm, .int fi, .int se])), (ad 1, .inl (cI, 221, .inl z)), (ad 2, .inl (cI, 221, .inl zs)), (ad 3, .inl (cI, 1768, .inl sd)), (ad 4, .inl (cI, 80, .inl tx)), (ad 5, .inl (cI, 8, .inl ds)), (ad 6, .inl (cI, 8, .inl rg))]) := hD
  have hl : lv_has ls 2 [(0, .ref (ad 0)), (1, .int p0)] := hl
  refine lv_iload_n hx hb dX5_whyNoRollBack_0 rfl (lv_at hl 1 rfl) ?_
  refine call_s (X := [(ad 0, .inr (5, [.int th, .ref (ad 1), .ref (ad 2), .ref (ad 3), .int sv, .ref (ad 4), .int ln, .int vs, .ref (ad 5), .ref (ad 6), .int rl, .int cm, .int fi, .int se])), (ad 1, .inl (cI, 221, .inl z)), (ad 2, .inl (cI, 221, .inl zs)), (ad 3, .inl (cI, 1768, .inl sd)), (ad 4, .inl (cI, 80, .inl tx)), (ad 5, .inl (cI, 8, .inl ds)), (ad 6, .inl (cI, 8, .inl rg))]) (Wc := []) (Z := []) (As := [.int p0]) (rest := []) ⟨hx, hb, hml, hown, hts⟩ (c_X5_isTransaction l D cI cT p0) (va_cwS 1 hts gX5_whyNoRollBack_X5_isTransaction rfl rfl rfl (by decide +kernel) ⟨Nat.le_of_ble_eq_true rfl, Nat.le_of_ble_eq_true rfl⟩) hK (P_nilr hP) (D_nilr hD) hS hA (fun _ => rfl) rfl hl.1 rfl (Nat.le_of_ble_eq_true rfl) ⟨by decide, by decide⟩ dX5_whyNoRollBack_1 (fun rv _ H locs hp hP hD hS => ?_)
  obtain rfl := hp
  have hP := P_nil2 hP
  have hD := D_nil2 hD
  have hP : va_P D vwCl ([(ad 0, .inr (5, [.int th, .ref (ad 1), .ref (ad 2), .ref (ad 3), .int sv, .ref (ad 4), .int ln, .int vs, .ref (ad 5), .ref (ad 6), .int rl, .int cm, .int fi, .int se])), (ad 1, .inl (cI, 221, .inl z)), (ad 2, .inl (cI, 221, .inl zs)), (ad 3, .inl (cI, 1768, .inl sd)), (ad 4, .inl (cI, 80, .inl tx)), (ad 5, .inl (cI, 8, .inl ds)), (ad 6, .inl (cI, 8, .inl rg))]) H := hP
  have hD : va_D A ([(ad 0, .inr (5, [.int th, .ref (ad 1), .ref (ad 2), .ref (ad 3), .int sv, .ref (ad 4), .int ln, .int vs, .ref (ad 5), .ref (ad 6), .int rl, .int cm, .int fi, .int se])), (ad 1, .inl (cI, 221, .inl z)), (ad 2, .inl (cI, 221, .inl zs)), (ad 3, .inl (cI, 1768, .inl sd)), (ad 4, .inl (cI, 80, .inl tx)), (ad 5, .inl (cI, 8, .inl ds)), (ad 6, .inl (cI, 8, .inl rg))]) := hD
  refine lv_if_ne (tgt := 11) hx hb dX5_whyNoRollBack_4 (by decide) (fun h_1 => ?_) (fun h_1 => ?_)
  · have h_1 := mt (nI_eq (a := ((inI p0 8).toNat)) (b := 0) (by first | omega | exact bits_lt31 _ | exact bitN_lt _ _ | exact bool_lt _ | exact and_lt31 _ _ _ _ | exact Nat.lt_of_le_of_lt (dst_lt _ _ _ (by omega) _) (by decide) | exact Nat.lt_of_le_of_lt (nrB_le _ _ _ (by omega)).2 (by decide) | decide) (by first | omega | exact bits_lt31 _ | exact bitN_lt _ _ | exact bool_lt _ | exact and_lt31 _ _ _ _ | exact Nat.lt_of_le_of_lt (dst_lt _ _ _ (by omega) _) (by decide) | exact Nat.lt_of_le_of_lt (nrB_le _ _ _ (by omega)).2 (by decide) | decide)).mpr h_1
    have h_1 := tn_y h_1
    obtain ⟨t9, ht9, et9⟩ := inI_t (by decide) h_1
    rw [et9] at hl
    refine lv_aload_n hx hb dX5_whyNoRollBack_11 rfl (lv_at hl 0 rfl) ?_
    refine lv_iload_n hx hb dX5_whyNoRollBack_12 rfl (lv_at hl 1 rfl) ?_
    refine lv_iconst (v := (nI 0)) hx hb dX5_whyNoRollBack_13 (by decide) ?_
    refine call_i (X := []) (Z := []) (As := [.int (nI t9), .int (nI 0)]) (rest := []) ⟨hx, hb, hml, hown, hts⟩ (c_X5_of l D cI cT ad th sv ln vs rl cm fi se z zs sd tx ds rg t9 0 (by omega)) (cwV 2 hts gX5_whyNoRollBack_X5_of rfl rfl rfl (by decide +kernel) ⟨Nat.le_of_ble_eq_true rfl, Nat.le_of_ble_eq_true rfl⟩) hK hP hD hS hA (va_recv hK hP (ci := 5) (q0 := 0) rfl rfl) (fun _ => rfl) rfl hl.1 rfl (Nat.le_of_ble_eq_true rfl) ⟨by decide, by decide⟩ dX5_whyNoRollBack_14 (fun rv _ H locs hp hP hD hS => ?_)
    obtain rfl := hp
    have hP : va_P D vwCl ([(ad 0, .inr (5, [.int th, .ref (ad 1), .ref (ad 2), .ref (ad 3), .int sv, .ref (ad 4), .int ln, .int vs, .ref (ad 5), .ref (ad 6), .int rl, .int cm, .int fi, .int se])), (ad 1, .inl (cI, 221, .inl z)), (ad 2, .inl (cI, 221, .inl zs)), (ad 3, .inl (cI, 1768, .inl sd)), (ad 4, .inl (cI, 80, .inl tx)), (ad 5, .inl (cI, 8, .inl ds)), (ad 6, .inl (cI, 8, .inl rg))]) H := hP
    have hD : va_D A ([(ad 0, .inr (5, [.int th, .ref (ad 1), .ref (ad 2), .ref (ad 3), .int sv, .ref (ad 4), .int ln, .int vs, .ref (ad 5), .ref (ad 6), .int rl, .int cm, .int fi, .int se])), (ad 1, .inl (cI, 221, .inl z)), (ad 2, .inl (cI, 221, .inl zs)), (ad 3, .inl (cI, 1768, .inl sd)), (ad 4, .inl (cI, 80, .inl tx)), (ad 5, .inl (cI, 8, .inl ds)), (ad 6, .inl (cI, 8, .inl rg))]) := hD
    refine tpe (y := stI F t9) (RZ_0 hZ (by omega)) ?_
    refine lv_if_ne (tgt := 24) hx hb dX5_whyNoRollBack_17 (by decide) (fun h_2 => ?_) (fun h_2 => ?_)
    · have h_2 := h_2
      refine lv_iconst (v := (nI 0)) hx hb dX5_whyNoRollBack_24 (by decide) ?_
      exact ret_i (u := ()) hQ hx hb hrt hlk hS dX5_whyNoRollBack_25 hP (by simp [wA, h_2, et9, i8 ht9, ix8 ht9])
    · have h_2 := h_2
      refine lv_iconst (v := (nI 2)) hx hb dX5_whyNoRollBack_20 (by decide) ?_
      refine lv_goto (tgt := 25) hx hb dX5_whyNoRollBack_21 (by decide) ?_
      exact ret_i (u := ()) hQ hx hb hrt hlk hS dX5_whyNoRollBack_25 hP (by simp [wA, h_2, et9, i8 ht9, ix8 ht9])
  · have h_1 := (nI_eq (a := ((inI p0 8).toNat)) (b := 0) (by first | omega | exact bits_lt31 _ | exact bitN_lt _ _ | exact bool_lt _ | exact and_lt31 _ _ _ _ | exact Nat.lt_of_le_of_lt (dst_lt _ _ _ (by omega) _) (by decide) | exact Nat.lt_of_le_of_lt (nrB_le _ _ _ (by omega)).2 (by decide) | decide) (by first | omega | exact bits_lt31 _ | exact bitN_lt _ _ | exact bool_lt _ | exact and_lt31 _ _ _ _ | exact Nat.lt_of_le_of_lt (dst_lt _ _ _ (by omega) _) (by decide) | exact Nat.lt_of_le_of_lt (nrB_le _ _ _ (by omega)).2 (by decide) | decide)).mp h_1
    have h_1 := tn_f h_1
    refine lv_iconst (v := (nI 1)) hx hb dX5_whyNoRollBack_7 (by decide) ?_
    refine lv_goto (tgt := 25) hx hb dX5_whyNoRollBack_8 (by decide) ?_
    exact ret_i (u := ()) hQ hx hb hrt hlk hS dX5_whyNoRollBack_25 hP (by simp [wA, h_1])

abbrev rX5_doBegin : Room := { frames := 1, cells := 0, slots := 0, locals := 23 }
set_option maxHeartbeats 1000000 in
set_option maxRecDepth 100000 in
theorem c_X5_doBegin (l : Launch) (D : va_G) (cI cT : ClassId) (ad : Nat → Nat) (th sv ln vs rl cm fi se : Int32) (z zs sd tx ds rg : Nat → Int32) (F : FF) (Q0 : QQ) (t : Nat) (ht : t < 8) (h0 : F 0 t = -1) (hn : ¬ F 8 0 = -1) (hZ : RZ F Q0 z) (hJ : JJ F Q0) : CN l D cI cT yX5_doBegin wsX5_doBegin rX5_doBegin [.ref (ad 0), .int (nI t)] (refW cI ad th sv ln vs rl cm fi se z zs sd tx ds rg) (S := Unit) (fun v _ => v = F 8 0 ∧ RZ (startF F t) Q0 (stZ z t)) (fun _ => refW cI ad th sv ln vs rl cm fi se (stZ z t) zs sd tx ds rg) := by
  refine CN.of (cc := cX5_doBegin) (maxL := 2) (ret := (some .int)) (by decide) rfl (Nat.le_of_ble_eq_true rfl) ?_
  intro p e s m args below meth c A Q hQ B hA H locs hP hK hD hS ls hl
  obtain ⟨hx, hb, hml, hrt, hts, hown, hlk⟩ := B
  have hP : va_P D vwCl ([(ad 0, .inr (5, [.int th, .ref (ad 1), .ref (ad 2), .ref (ad 3), .int sv, .ref (ad 4), .int ln, .int vs, .ref (ad 5), .ref (ad 6), .int rl, .int cm, .int fi, .int se])), (ad 1, .inl (cI, 221, .inl z)), (ad 2, .inl (cI, 221, .inl zs)), (ad 3, .inl (cI, 1768, .inl sd)), (ad 4, .inl (cI, 80, .inl tx)), (ad 5, .inl (cI, 8, .inl ds)), (ad 6, .inl (cI, 8, .inl rg))]) H := hP
  have hD : va_D A ([(ad 0, .inr (5, [.int th, .ref (ad 1), .ref (ad 2), .ref (ad 3), .int sv, .ref (ad 4), .int ln, .int vs, .ref (ad 5), .ref (ad 6), .int rl, .int cm, .int fi, .int se])), (ad 1, .inl (cI, 221, .inl z)), (ad 2, .inl (cI, 221, .inl zs)), (ad 3, .inl (cI, 1768, .inl sd)), (ad 4, .inl (cI, 80, .inl tx)), (ad 5, .inl (cI, 8, .inl ds)), (ad 6, .inl (cI, 8, .inl rg))]) := hD
  have hl : lv_has ls 2 [(0, .ref (ad 0)), (1, .int (nI t))] := hl
  have iX5 : ∀ w ∈ u_ws RX5 TX5 14, w ∈ wsX5_doBegin := by decide +kernel
  have f7 := hts (.fieldLink RX5 7 "LockManagerModel" "z" "[I") (by decide +kernel)
  refine lv_aload_n hx hb dX5_doBegin_0 rfl (lv_at hl 0 rfl) ?_
  refine lv_iload_n hx hb dX5_doBegin_1 rfl (lv_at hl 1 rfl) ?_
  refine lv_iconst (v := (nI 0)) hx hb dX5_doBegin_2 (by decide) ?_
  refine lv_iconst (v := (nI 1)) hx hb dX5_doBegin_3 (by decide) ?_
  refine call_v (X := []) (Z := []) (As := [.int (nI t), .int (nI 0), .int (nI 1)]) (rest := []) ⟨hx, hb, hml, hown, hts⟩ (c_X5_put l D cI cT ad th sv ln vs rl cm fi se z zs sd tx ds rg t 0 (nI 1) (by omega)) (cwV 3 hts gX5_doBegin_X5_put rfl rfl rfl (by decide +kernel) ⟨Nat.le_of_ble_eq_true rfl, Nat.le_of_ble_eq_true rfl⟩) hK hP hD hS hA (va_recv hK hP (ci := 5) (q0 := 0) rfl rfl) (fun _ => adr_ref.trans adr_ref.symm) rfl hl.1 rfl (Nat.le_of_ble_eq_true rfl) ⟨by decide, by decide⟩ dX5_doBegin_4 (fun _ H locs hp hP hD hS => ?_)
  have hP : va_P D vwCl ([(ad 0, .inr (5, [.int th, .ref (ad 1), .ref (ad 2), .ref (ad 3), .int sv, .ref (ad 4), .int ln, .int vs, .ref (ad 5), .ref (ad 6), .int rl, .int cm, .int fi, .int se])), (ad 1, .inl (cI, 221, .inl (upd z (6 * t + 0) (nI 1)))), (ad 2, .inl (cI, 221, .inl zs)), (ad 3, .inl (cI, 1768, .inl sd)), (ad 4, .inl (cI, 80, .inl tx)), (ad 5, .inl (cI, 8, .inl ds)), (ad 6, .inl (cI, 8, .inl rg))]) H := hP
  have hD : va_D A ([(ad 0, .inr (5, [.int th, .ref (ad 1), .ref (ad 2), .ref (ad 3), .int sv, .ref (ad 4), .int ln, .int vs, .ref (ad 5), .ref (ad 6), .int rl, .int cm, .int fi, .int se])), (ad 1, .inl (cI, 221, .inl (upd z (6 * t + 0) (nI 1)))), (ad 2, .inl (cI, 221, .inl zs)), (ad 3, .inl (cI, 1768, .inl sd)), (ad 4, .inl (cI, 80, .inl tx)), (ad 5, .inl (cI, 8, .inl ds)), (ad 6, .inl (cI, 8, .inl rg))]) := hD
  refine lv_aload_n hx hb dX5_doBegin_7 rfl (lv_at hl 0 rfl) ?_
  refine lv_iload_n hx hb dX5_doBegin_8 rfl (lv_at hl 1 rfl) ?_
  refine lv_iconst (v := (nI 1)) hx hb dX5_doBegin_9 (by decide) ?_
  refine lv_iconst (v := (nI 0)) hx hb dX5_doBegin_10 (by decide) ?_
  refine call_v (X := []) (Z := []) (As := [.int (nI t), .int (nI 1), .int (nI 0)]) (rest := []) ⟨hx, hb, hml, hown, hts⟩ (c_X5_put l D cI cT ad th sv ln vs rl cm fi se (upd z (6 * t + 0) (nI 1)) zs sd tx ds rg t 1 (nI 0) (by omega)) (cwV 3 hts gX5_doBegin_X5_put rfl rfl rfl (by decide +kernel) ⟨Nat.le_of_ble_eq_true rfl, Nat.le_of_ble_eq_true rfl⟩) hK hP hD hS hA (va_recv hK hP (ci := 5) (q0 := 0) rfl rfl) (fun _ => adr_ref.trans adr_ref.symm) rfl hl.1 rfl (Nat.le_of_ble_eq_true rfl) ⟨by decide, by decide⟩ dX5_doBegin_11 (fun _ H locs hp hP hD hS => ?_)
  have hP : va_P D vwCl ([(ad 0, .inr (5, [.int th, .ref (ad 1), .ref (ad 2), .ref (ad 3), .int sv, .ref (ad 4), .int ln, .int vs, .ref (ad 5), .ref (ad 6), .int rl, .int cm, .int fi, .int se])), (ad 1, .inl (cI, 221, .inl (upd (upd z (6 * t + 0) (nI 1)) (6 * t + 1) (nI 0)))), (ad 2, .inl (cI, 221, .inl zs)), (ad 3, .inl (cI, 1768, .inl sd)), (ad 4, .inl (cI, 80, .inl tx)), (ad 5, .inl (cI, 8, .inl ds)), (ad 6, .inl (cI, 8, .inl rg))]) H := hP
  have hD : va_D A ([(ad 0, .inr (5, [.int th, .ref (ad 1), .ref (ad 2), .ref (ad 3), .int sv, .ref (ad 4), .int ln, .int vs, .ref (ad 5), .ref (ad 6), .int rl, .int cm, .int fi, .int se])), (ad 1, .inl (cI, 221, .inl (upd (upd z (6 * t + 0) (nI 1)) (6 * t + 1) (nI 0)))), (ad 2, .inl (cI, 221, .inl zs)), (ad 3, .inl (cI, 1768, .inl sd)), (ad 4, .inl (cI, 80, .inl tx)), (ad 5, .inl (cI, 8, .inl ds)), (ad 6, .inl (cI, 8, .inl rg))]) := hD
  refine lv_aload_n hx hb dX5_doBegin_14 rfl (lv_at hl 0 rfl) ?_
  refine lv_iload_n hx hb dX5_doBegin_15 rfl (lv_at hl 1 rfl) ?_
  refine lv_iconst (v := (nI 2)) hx hb dX5_doBegin_16 (by decide) ?_
  refine lv_iconst (v := (nI 0)) hx hb dX5_doBegin_17 (by decide) ?_
  refine call_v (X := []) (Z := []) (As := [.int (nI t), .int (nI 2), .int (nI 0)]) (rest := []) ⟨hx, hb, hml, hown, hts⟩ (c_X5_put l D cI cT ad th sv ln vs rl cm fi se (upd (upd z (6 * t + 0) (nI 1)) (6 * t + 1) (nI 0)) zs sd tx ds rg t 2 (nI 0) (by omega)) (cwV 3 hts gX5_doBegin_X5_put rfl rfl rfl (by decide +kernel) ⟨Nat.le_of_ble_eq_true rfl, Nat.le_of_ble_eq_true rfl⟩) hK hP hD hS hA (va_recv hK hP (ci := 5) (q0 := 0) rfl rfl) (fun _ => adr_ref.trans adr_ref.symm) rfl hl.1 rfl (Nat.le_of_ble_eq_true rfl) ⟨by decide, by decide⟩ dX5_doBegin_18 (fun _ H locs hp hP hD hS => ?_)
  have hP : va_P D vwCl ([(ad 0, .inr (5, [.int th, .ref (ad 1), .ref (ad 2), .ref (ad 3), .int sv, .ref (ad 4), .int ln, .int vs, .ref (ad 5), .ref (ad 6), .int rl, .int cm, .int fi, .int se])), (ad 1, .inl (cI, 221, .inl (upd (upd (upd z (6 * t + 0) (nI 1)) (6 * t + 1) (nI 0)) (6 * t + 2) (nI 0)))), (ad 2, .inl (cI, 221, .inl zs)), (ad 3, .inl (cI, 1768, .inl sd)), (ad 4, .inl (cI, 80, .inl tx)), (ad 5, .inl (cI, 8, .inl ds)), (ad 6, .inl (cI, 8, .inl rg))]) H := hP
  have hD : va_D A ([(ad 0, .inr (5, [.int th, .ref (ad 1), .ref (ad 2), .ref (ad 3), .int sv, .ref (ad 4), .int ln, .int vs, .ref (ad 5), .ref (ad 6), .int rl, .int cm, .int fi, .int se])), (ad 1, .inl (cI, 221, .inl (upd (upd (upd z (6 * t + 0) (nI 1)) (6 * t + 1) (nI 0)) (6 * t + 2) (nI 0)))), (ad 2, .inl (cI, 221, .inl zs)), (ad 3, .inl (cI, 1768, .inl sd)), (ad 4, .inl (cI, 80, .inl tx)), (ad 5, .inl (cI, 8, .inl ds)), (ad 6, .inl (cI, 8, .inl rg))]) := hD
  refine lv_aload_n hx hb dX5_doBegin_21 rfl (lv_at hl 0 rfl) ?_
  refine lv_iload_n hx hb dX5_doBegin_22 rfl (lv_at hl 1 rfl) ?_
  refine lv_iconst (v := (nI 3)) hx hb dX5_doBegin_23 (by decide) ?_
  refine lv_aload_n hx hb dX5_doBegin_24 rfl (lv_at hl 0 rfl) ?_
  refine va_get (D := D) (ci := 5) (v := .ref (ad 1)) (C := RX5) (T := TX5) (N := 14) hx hb hts iX5 hown hK hP 0 rfl rfl 1 (by decide) f7 (fun _ h9 => h9) rfl dX5_doBegin_25 ?_
  refine lv_sipush (v := (nI 218)) hx hb dX5_doBegin_28 (by decide) ?_
  refine r_ild (k := 218) hx hb hK hP 1 rfl (by omega) (by decide) dX5_doBegin_31 ?_
  refine call_v (X := []) (Z := []) (As := [.int (nI t), .int (nI 3), .int ((upd (upd (upd z (6 * t + 0) (nI 1)) (6 * t + 1) (nI 0)) (6 * t + 2) (nI 0)) 218)]) (rest := []) ⟨hx, hb, hml, hown, hts⟩ (c_X5_put l D cI cT ad th sv ln vs rl cm fi se (upd (upd (upd z (6 * t + 0) (nI 1)) (6 * t + 1) (nI 0)) (6 * t + 2) (nI 0)) zs sd tx ds rg t 3 ((upd (upd (upd z (6 * t + 0) (nI 1)) (6 * t + 1) (nI 0)) (6 * t + 2) (nI 0)) 218) (by omega)) (cwV 3 hts gX5_doBegin_X5_put rfl rfl rfl (by decide +kernel) ⟨Nat.le_of_ble_eq_true rfl, Nat.le_of_ble_eq_true rfl⟩) hK hP hD hS hA (va_recv hK hP (ci := 5) (q0 := 0) rfl rfl) (fun _ => adr_ref.trans adr_ref.symm) rfl hl.1 rfl (Nat.le_of_ble_eq_true rfl) ⟨by decide, by decide⟩ dX5_doBegin_32 (fun _ H locs hp hP hD hS => ?_)
  have hP : va_P D vwCl ([(ad 0, .inr (5, [.int th, .ref (ad 1), .ref (ad 2), .ref (ad 3), .int sv, .ref (ad 4), .int ln, .int vs, .ref (ad 5), .ref (ad 6), .int rl, .int cm, .int fi, .int se])), (ad 1, .inl (cI, 221, .inl (upd (upd (upd (upd z (6 * t + 0) (nI 1)) (6 * t + 1) (nI 0)) (6 * t + 2) (nI 0)) (6 * t + 3) ((upd (upd (upd z (6 * t + 0) (nI 1)) (6 * t + 1) (nI 0)) (6 * t + 2) (nI 0)) 218)))), (ad 2, .inl (cI, 221, .inl zs)), (ad 3, .inl (cI, 1768, .inl sd)), (ad 4, .inl (cI, 80, .inl tx)), (ad 5, .inl (cI, 8, .inl ds)), (ad 6, .inl (cI, 8, .inl rg))]) H := hP
  have hD : va_D A ([(ad 0, .inr (5, [.int th, .ref (ad 1), .ref (ad 2), .ref (ad 3), .int sv, .ref (ad 4), .int ln, .int vs, .ref (ad 5), .ref (ad 6), .int rl, .int cm, .int fi, .int se])), (ad 1, .inl (cI, 221, .inl (upd (upd (upd (upd z (6 * t + 0) (nI 1)) (6 * t + 1) (nI 0)) (6 * t + 2) (nI 0)) (6 * t + 3) ((upd (upd (upd z (6 * t + 0) (nI 1)) (6 * t + 1) (nI 0)) (6 * t + 2) (nI 0)) 218)))), (ad 2, .inl (cI, 221, .inl zs)), (ad 3, .inl (cI, 1768, .inl sd)), (ad 4, .inl (cI, 80, .inl tx)), (ad 5, .inl (cI, 8, .inl ds)), (ad 6, .inl (cI, 8, .inl rg))]) := hD
  refine lv_aload_n hx hb dX5_doBegin_35 rfl (lv_at hl 0 rfl) ?_
  refine va_get (D := D) (ci := 5) (v := .ref (ad 1)) (C := RX5) (T := TX5) (N := 14) hx hb hts iX5 hown hK hP 0 rfl rfl 1 (by decide) f7 (fun _ h9 => h9) rfl dX5_doBegin_36 ?_
  refine lv_sipush (v := (nI 218)) hx hb dX5_doBegin_39 (by decide) ?_
  refine lv_dup2_11 hx hb dX5_doBegin_42 rfl rfl ?_
  refine r_ild (k := 218) hx hb hK hP 1 rfl (by omega) (by decide) dX5_doBegin_43 ?_
  refine lv_iconst (v := (nI 1)) hx hb dX5_doBegin_44 (by decide) ?_
  refine lv_iadd hx hb dX5_doBegin_45 ?_
  refine r_ist (k := 218) hx hb hK hP hD hS 1 rfl (by omega) (by decide) dX5_doBegin_46 (fun H locs hP hD hS => ?_)
  have hP : va_P D vwCl ([(ad 0, .inr (5, [.int th, .ref (ad 1), .ref (ad 2), .ref (ad 3), .int sv, .ref (ad 4), .int ln, .int vs, .ref (ad 5), .ref (ad 6), .int rl, .int cm, .int fi, .int se])), (ad 1, .inl (cI, 221, .inl (upd (upd (upd (upd (upd z (6 * t + 0) (nI 1)) (6 * t + 1) (nI 0)) (6 * t + 2) (nI 0)) (6 * t + 3) ((upd (upd (upd z (6 * t + 0) (nI 1)) (6 * t + 1) (nI 0)) (6 * t + 2) (nI 0)) 218)) 218 (((upd (upd (upd (upd z (6 * t + 0) (nI 1)) (6 * t + 1) (nI 0)) (6 * t + 2) (nI 0)) (6 * t + 3) ((upd (upd (upd z (6 * t + 0) (nI 1)) (6 * t + 1) (nI 0)) (6 * t + 2) (nI 0)) 218)) 218) + (nI 1))))), (ad 2, .inl (cI, 221, .inl zs)), (ad 3, .inl (cI, 1768, .inl sd)), (ad 4, .inl (cI, 80, .inl tx)), (ad 5, .inl (cI, 8, .inl ds)), (ad 6, .inl (cI, 8, .inl rg))]) H := hP
  have hD : va_D A ([(ad 0, .inr (5, [.int th, .ref (ad 1), .ref (ad 2), .ref (ad 3), .int sv, .ref (ad 4), .int ln, .int vs, .ref (ad 5), .ref (ad 6), .int rl, .int cm, .int fi, .int se])), (ad 1, .inl (cI, 221, .inl (upd (upd (upd (upd (upd z (6 * t + 0) (nI 1)) (6 * t + 1) (nI 0)) (6 * t + 2) (nI 0)) (6 * t + 3) ((upd (upd (upd z (6 * t + 0) (nI 1)) (6 * t + 1) (nI 0)) (6 * t + 2) (nI 0)) 218)) 218 (((upd (upd (upd (upd z (6 * t + 0) (nI 1)) (6 * t + 1) (nI 0)) (6 * t + 2) (nI 0)) (6 * t + 3) ((upd (upd (upd z (6 * t + 0) (nI 1)) (6 * t + 1) (nI 0)) (6 * t + 2) (nI 0)) 218)) 218) + (nI 1))))), (ad 2, .inl (cI, 221, .inl zs)), (ad 3, .inl (cI, 1768, .inl sd)), (ad 4, .inl (cI, 80, .inl tx)), (ad 5, .inl (cI, 8, .inl ds)), (ad 6, .inl (cI, 8, .inl rg))]) := hD
  refine lv_aload_n hx hb dX5_doBegin_47 rfl (lv_at hl 0 rfl) ?_
  refine lv_iload_n hx hb dX5_doBegin_48 rfl (lv_at hl 1 rfl) ?_
  refine lv_iconst (v := (nI 3)) hx hb dX5_doBegin_49 (by decide) ?_
  refine call_i (X := []) (Z := []) (As := [.int (nI t), .int (nI 3)]) (rest := []) ⟨hx, hb, hml, hown, hts⟩ (c_X5_of l D cI cT ad th sv ln vs rl cm fi se (upd (upd (upd (upd (upd z (6 * t + 0) (nI 1)) (6 * t + 1) (nI 0)) (6 * t + 2) (nI 0)) (6 * t + 3) ((upd (upd (upd z (6 * t + 0) (nI 1)) (6 * t + 1) (nI 0)) (6 * t + 2) (nI 0)) 218)) 218 (((upd (upd (upd (upd z (6 * t + 0) (nI 1)) (6 * t + 1) (nI 0)) (6 * t + 2) (nI 0)) (6 * t + 3) ((upd (upd (upd z (6 * t + 0) (nI 1)) (6 * t + 1) (nI 0)) (6 * t + 2) (nI 0)) 218)) 218) + (nI 1))) zs sd tx ds rg t 3 (by omega)) (cwV 2 hts gX5_doBegin_X5_of rfl rfl rfl (by decide +kernel) ⟨Nat.le_of_ble_eq_true rfl, Nat.le_of_ble_eq_true rfl⟩) hK hP hD hS hA (va_recv hK hP (ci := 5) (q0 := 0) rfl rfl) (fun _ => rfl) rfl hl.1 rfl (Nat.le_of_ble_eq_true rfl) ⟨by decide, by decide⟩ dX5_doBegin_50 (fun rv _ H locs hp hP hD hS => ?_)
  obtain rfl := hp
  have hP : va_P D vwCl ([(ad 0, .inr (5, [.int th, .ref (ad 1), .ref (ad 2), .ref (ad 3), .int sv, .ref (ad 4), .int ln, .int vs, .ref (ad 5), .ref (ad 6), .int rl, .int cm, .int fi, .int se])), (ad 1, .inl (cI, 221, .inl (upd (upd (upd (upd (upd z (6 * t + 0) (nI 1)) (6 * t + 1) (nI 0)) (6 * t + 2) (nI 0)) (6 * t + 3) ((upd (upd (upd z (6 * t + 0) (nI 1)) (6 * t + 1) (nI 0)) (6 * t + 2) (nI 0)) 218)) 218 (((upd (upd (upd (upd z (6 * t + 0) (nI 1)) (6 * t + 1) (nI 0)) (6 * t + 2) (nI 0)) (6 * t + 3) ((upd (upd (upd z (6 * t + 0) (nI 1)) (6 * t + 1) (nI 0)) (6 * t + 2) (nI 0)) 218)) 218) + (nI 1))))), (ad 2, .inl (cI, 221, .inl zs)), (ad 3, .inl (cI, 1768, .inl sd)), (ad 4, .inl (cI, 80, .inl tx)), (ad 5, .inl (cI, 8, .inl ds)), (ad 6, .inl (cI, 8, .inl rg))]) H := hP
  have hD : va_D A ([(ad 0, .inr (5, [.int th, .ref (ad 1), .ref (ad 2), .ref (ad 3), .int sv, .ref (ad 4), .int ln, .int vs, .ref (ad 5), .ref (ad 6), .int rl, .int cm, .int fi, .int se])), (ad 1, .inl (cI, 221, .inl (upd (upd (upd (upd (upd z (6 * t + 0) (nI 1)) (6 * t + 1) (nI 0)) (6 * t + 2) (nI 0)) (6 * t + 3) ((upd (upd (upd z (6 * t + 0) (nI 1)) (6 * t + 1) (nI 0)) (6 * t + 2) (nI 0)) 218)) 218 (((upd (upd (upd (upd z (6 * t + 0) (nI 1)) (6 * t + 1) (nI 0)) (6 * t + 2) (nI 0)) (6 * t + 3) ((upd (upd (upd z (6 * t + 0) (nI 1)) (6 * t + 1) (nI 0)) (6 * t + 2) (nI 0)) 218)) 218) + (nI 1))))), (ad 2, .inl (cI, 221, .inl zs)), (ad 3, .inl (cI, 1768, .inl sd)), (ad 4, .inl (cI, 80, .inl tx)), (ad 5, .inl (cI, 8, .inl ds)), (ad 6, .inl (cI, 8, .inl rg))]) := hD
  exact ret_i (u := ()) hQ hx hb hrt hlk hS dX5_doBegin_53 hP ⟨(st_birth ht).trans (RZ_s hZ (k := 0) (by decide)), RZ_st hJ hZ ht h0 hn⟩

abbrev rX5_doWork : Room := { frames := 1, cells := 0, slots := 0, locals := 23 }
set_option maxHeartbeats 1000000 in
set_option maxRecDepth 100000 in
theorem c_X5_doWork (l : Launch) (D : va_G) (cI cT : ClassId) (ad : Nat → Nat) (th sv ln vs rl cm fi se : Int32) (z zs sd tx ds rg : Nat → Int32) (F : FF) (Q0 : QQ) (t : Nat) (p1 : Int32) (ht : t < 8) (hZ : RZ F Q0 z) (hJ : JJ F Q0) : CN l D cI cT yX5_doWork wsX5_doWork rX5_doWork [.ref (ad 0), .int (nI t), .int p1] (refW cI ad th sv ln vs rl cm fi se z zs sd tx ds rg) (S := Nat → Int32) (fun v u => v = F 1 t + p1 ∧ RZ (up F 1 t (F 1 t + p1)) Q0 u) (fun u => refW cI ad th sv ln vs rl cm fi se u zs sd tx ds rg) := by
  refine CN.of (cc := cX5_doWork) (maxL := 3) (ret := (some .int)) (by decide) rfl (Nat.le_of_ble_eq_true rfl) ?_
  intro p e s m args below meth c A Q hQ B hA H locs hP hK hD hS ls hl
  obtain ⟨hx, hb, hml, hrt, hts, hown, hlk⟩ := B
  have hP : va_P D vwCl ([(ad 0, .inr (5, [.int th, .ref (ad 1), .ref (ad 2), .ref (ad 3), .int sv, .ref (ad 4), .int ln, .int vs, .ref (ad 5), .ref (ad 6), .int rl, .int cm, .int fi, .int se])), (ad 1, .inl (cI, 221, .inl z)), (ad 2, .inl (cI, 221, .inl zs)), (ad 3, .inl (cI, 1768, .inl sd)), (ad 4, .inl (cI, 80, .inl tx)), (ad 5, .inl (cI, 8, .inl ds)), (ad 6, .inl (cI, 8, .inl rg))]) H := hP
  have hD : va_D A ([(ad 0, .inr (5, [.int th, .ref (ad 1), .ref (ad 2), .ref (ad 3), .int sv, .ref (ad 4), .int ln, .int vs, .ref (ad 5), .ref (ad 6), .int rl, .int cm, .int fi, .int se])), (ad 1, .inl (cI, 221, .inl z)), (ad 2, .inl (cI, 221, .inl zs)), (ad 3, .inl (cI, 1768, .inl sd)), (ad 4, .inl (cI, 80, .inl tx)), (ad 5, .inl (cI, 8, .inl ds)), (ad 6, .inl (cI, 8, .inl rg))]) := hD
  have hl : lv_has ls 3 [(0, .ref (ad 0)), (1, .int (nI t)), (2, .int p1)] := hl
  refine lv_aload_n hx hb dX5_doWork_0 rfl (lv_at hl 0 rfl) ?_
  refine lv_iload_n hx hb dX5_doWork_1 rfl (lv_at hl 1 rfl) ?_
  refine lv_iconst (v := (nI 1)) hx hb dX5_doWork_2 (by decide) ?_
  refine lv_aload_n hx hb dX5_doWork_3 rfl (lv_at hl 0 rfl) ?_
  refine lv_iload_n hx hb dX5_doWork_4 rfl (lv_at hl 1 rfl) ?_
  refine lv_iconst (v := (nI 1)) hx hb dX5_doWork_5 (by decide) ?_
  refine call_i (X := []) (Z := []) (As := [.int (nI t), .int (nI 1)]) (rest := [.int (nI 1), .int (nI t), .ref (ad 0)]) ⟨hx, hb, hml, hown, hts⟩ (c_X5_of l D cI cT ad th sv ln vs rl cm fi se z zs sd tx ds rg t 1 (by omega)) (cwV 2 hts gX5_doWork_X5_of rfl rfl rfl (by decide +kernel) ⟨Nat.le_of_ble_eq_true rfl, Nat.le_of_ble_eq_true rfl⟩) hK hP hD hS hA (va_recv hK hP (ci := 5) (q0 := 0) rfl rfl) (fun _ => rfl) rfl hl.1 rfl (Nat.le_of_ble_eq_true rfl) ⟨by decide, by decide⟩ dX5_doWork_6 (fun rv _ H locs hp hP hD hS => ?_)
  obtain rfl := hp
  have hP : va_P D vwCl ([(ad 0, .inr (5, [.int th, .ref (ad 1), .ref (ad 2), .ref (ad 3), .int sv, .ref (ad 4), .int ln, .int vs, .ref (ad 5), .ref (ad 6), .int rl, .int cm, .int fi, .int se])), (ad 1, .inl (cI, 221, .inl z)), (ad 2, .inl (cI, 221, .inl zs)), (ad 3, .inl (cI, 1768, .inl sd)), (ad 4, .inl (cI, 80, .inl tx)), (ad 5, .inl (cI, 8, .inl ds)), (ad 6, .inl (cI, 8, .inl rg))]) H := hP
  have hD : va_D A ([(ad 0, .inr (5, [.int th, .ref (ad 1), .ref (ad 2), .ref (ad 3), .int sv, .ref (ad 4), .int ln, .int vs, .ref (ad 5), .ref (ad 6), .int rl, .int cm, .int fi, .int se])), (ad 1, .inl (cI, 221, .inl z)), (ad 2, .inl (cI, 221, .inl zs)), (ad 3, .inl (cI, 1768, .inl sd)), (ad 4, .inl (cI, 80, .inl tx)), (ad 5, .inl (cI, 8, .inl ds)), (ad 6, .inl (cI, 8, .inl rg))]) := hD
  refine tpe (y := F 1 t) (RZ_1 hZ (by omega)) ?_
  refine lv_iload_n hx hb dX5_doWork_9 rfl (lv_at hl 2 rfl) ?_
  refine lv_iadd hx hb dX5_doWork_10 ?_
  refine call_v (X := []) (Z := []) (As := [.int (nI t), .int (nI 1), .int ((F 1 t) + p1)]) (rest := []) ⟨hx, hb, hml, hown, hts⟩ (c_X5_put l D cI cT ad th sv ln vs rl cm fi se z zs sd tx ds rg t 1 ((F 1 t) + p1) (by omega)) (cwV 3 hts gX5_doWork_X5_put rfl rfl rfl (by decide +kernel) ⟨Nat.le_of_ble_eq_true rfl, Nat.le_of_ble_eq_true rfl⟩) hK hP hD hS hA (va_recv hK hP (ci := 5) (q0 := 0) rfl rfl) (fun _ => adr_ref.trans adr_ref.symm) rfl hl.1 rfl (Nat.le_of_ble_eq_true rfl) ⟨by decide, by decide⟩ dX5_doWork_11 (fun _ H locs hp hP hD hS => ?_)
  have hZ11 := RZ_uw (w := 1) (v := ((F 1 t) + p1)) (fun r hr => JJ_len hJ hr) hZ (show t < 8 by omega) (by decide)
  have hP : va_P D vwCl ([(ad 0, .inr (5, [.int th, .ref (ad 1), .ref (ad 2), .ref (ad 3), .int sv, .ref (ad 4), .int ln, .int vs, .ref (ad 5), .ref (ad 6), .int rl, .int cm, .int fi, .int se])), (ad 1, .inl (cI, 221, .inl (upd z (6 * t + 1) ((F 1 t) + p1)))), (ad 2, .inl (cI, 221, .inl zs)), (ad 3, .inl (cI, 1768, .inl sd)), (ad 4, .inl (cI, 80, .inl tx)), (ad 5, .inl (cI, 8, .inl ds)), (ad 6, .inl (cI, 8, .inl rg))]) H := hP
  have hD : va_D A ([(ad 0, .inr (5, [.int th, .ref (ad 1), .ref (ad 2), .ref (ad 3), .int sv, .ref (ad 4), .int ln, .int vs, .ref (ad 5), .ref (ad 6), .int rl, .int cm, .int fi, .int se])), (ad 1, .inl (cI, 221, .inl (upd z (6 * t + 1) ((F 1 t) + p1)))), (ad 2, .inl (cI, 221, .inl zs)), (ad 3, .inl (cI, 1768, .inl sd)), (ad 4, .inl (cI, 80, .inl tx)), (ad 5, .inl (cI, 8, .inl ds)), (ad 6, .inl (cI, 8, .inl rg))]) := hD
  refine lv_aload_n hx hb dX5_doWork_14 rfl (lv_at hl 0 rfl) ?_
  refine lv_iload_n hx hb dX5_doWork_15 rfl (lv_at hl 1 rfl) ?_
  refine lv_iconst (v := (nI 1)) hx hb dX5_doWork_16 (by decide) ?_
  refine call_i (X := []) (Z := []) (As := [.int (nI t), .int (nI 1)]) (rest := []) ⟨hx, hb, hml, hown, hts⟩ (c_X5_of l D cI cT ad th sv ln vs rl cm fi se (upd z (6 * t + 1) ((F 1 t) + p1)) zs sd tx ds rg t 1 (by omega)) (cwV 2 hts gX5_doWork_X5_of rfl rfl rfl (by decide +kernel) ⟨Nat.le_of_ble_eq_true rfl, Nat.le_of_ble_eq_true rfl⟩) hK hP hD hS hA (va_recv hK hP (ci := 5) (q0 := 0) rfl rfl) (fun _ => rfl) rfl hl.1 rfl (Nat.le_of_ble_eq_true rfl) ⟨by decide, by decide⟩ dX5_doWork_17 (fun rv _ H locs hp hP hD hS => ?_)
  obtain rfl := hp
  have hP : va_P D vwCl ([(ad 0, .inr (5, [.int th, .ref (ad 1), .ref (ad 2), .ref (ad 3), .int sv, .ref (ad 4), .int ln, .int vs, .ref (ad 5), .ref (ad 6), .int rl, .int cm, .int fi, .int se])), (ad 1, .inl (cI, 221, .inl (upd z (6 * t + 1) ((F 1 t) + p1)))), (ad 2, .inl (cI, 221, .inl zs)), (ad 3, .inl (cI, 1768, .inl sd)), (ad 4, .inl (cI, 80, .inl tx)), (ad 5, .inl (cI, 8, .inl ds)), (ad 6, .inl (cI, 8, .inl rg))]) H := hP
  have hD : va_D A ([(ad 0, .inr (5, [.int th, .ref (ad 1), .ref (ad 2), .ref (ad 3), .int sv, .ref (ad 4), .int ln, .int vs, .ref (ad 5), .ref (ad 6), .int rl, .int cm, .int fi, .int se])), (ad 1, .inl (cI, 221, .inl (upd z (6 * t + 1) ((F 1 t) + p1)))), (ad 2, .inl (cI, 221, .inl zs)), (ad 3, .inl (cI, 1768, .inl sd)), (ad 4, .inl (cI, 80, .inl tx)), (ad 5, .inl (cI, 8, .inl ds)), (ad 6, .inl (cI, 8, .inl rg))]) := hD
  refine tpe (y := (up F 1 t ((F 1 t) + p1)) 1 t) (RZ_1 hZ11 (by omega)) ?_
  exact ret_i (u := upd z (6 * t + 1) ((F 1 t) + p1)) hQ hx hb hrt hlk hS dX5_doWork_20 hP ⟨by rw [up_eq, pk_us], hZ11⟩

abbrev rX5_doWithdraw : Room := { frames := 4, cells := 0, slots := 0, locals := 93 }
set_option maxHeartbeats 1000000 in
set_option maxRecDepth 100000 in
theorem c_X5_doWithdraw (l : Launch) (D : va_G) (cI cT : ClassId) (ad : Nat → Nat) (th sv ln vs rl cm fi se : Int32) (z zs sd tx ds rg : Nat → Int32) (F : FF) (Q0 : QQ) (t : Nat) (ht : t < 8) (n3 : ¬ F 3 t = -1) (hZ : RZ F Q0 z) (hJ : JJ F Q0) : CN l D cI cT yX5_doWithdraw wsX5_doWithdraw rX5_doWithdraw [.ref (ad 0), .int (nI t)] (refW cI ad th sv ln vs rl cm fi se z zs sd tx ds rg) (S := Nat → Int32) (fun v u => v = nI (srvN (rmF F t) (rmQ F Q0 t)) ∧ RZ (srvF (rmF F t) (rmQ F Q0 t)) (srvQ (rmF F t) (rmQ F Q0 t)) u) (fun u => refW cI ad th sv ln vs rl cm fi se u zs sd tx ds rg) := by
  refine CN.of (cc := cX5_doWithdraw) (maxL := 2) (ret := (some .int)) (by decide) rfl (Nat.le_of_ble_eq_true rfl) ?_
  intro p e s m args below meth c A Q hQ B hA H locs hP hK hD hS ls hl
  obtain ⟨hx, hb, hml, hrt, hts, hown, hlk⟩ := B
  have hP : va_P D vwCl ([(ad 0, .inr (5, [.int th, .ref (ad 1), .ref (ad 2), .ref (ad 3), .int sv, .ref (ad 4), .int ln, .int vs, .ref (ad 5), .ref (ad 6), .int rl, .int cm, .int fi, .int se])), (ad 1, .inl (cI, 221, .inl z)), (ad 2, .inl (cI, 221, .inl zs)), (ad 3, .inl (cI, 1768, .inl sd)), (ad 4, .inl (cI, 80, .inl tx)), (ad 5, .inl (cI, 8, .inl ds)), (ad 6, .inl (cI, 8, .inl rg))]) H := hP
  have hD : va_D A ([(ad 0, .inr (5, [.int th, .ref (ad 1), .ref (ad 2), .ref (ad 3), .int sv, .ref (ad 4), .int ln, .int vs, .ref (ad 5), .ref (ad 6), .int rl, .int cm, .int fi, .int se])), (ad 1, .inl (cI, 221, .inl z)), (ad 2, .inl (cI, 221, .inl zs)), (ad 3, .inl (cI, 1768, .inl sd)), (ad 4, .inl (cI, 80, .inl tx)), (ad 5, .inl (cI, 8, .inl ds)), (ad 6, .inl (cI, 8, .inl rg))]) := hD
  have hl : lv_has ls 2 [(0, .ref (ad 0)), (1, .int (nI t))] := hl
  obtain ⟨r, hr, h3, hw, hm⟩ := JJ_want hJ ht n3
  refine lv_aload_n hx hb dX5_doWithdraw_0 rfl (lv_at hl 0 rfl) ?_
  refine lv_iload_n hx hb dX5_doWithdraw_1 rfl (lv_at hl 1 rfl) ?_
  refine call_v (X := []) (Z := []) (As := [.int (nI t)]) (rest := []) ⟨hx, hb, hml, hown, hts⟩ (c_X5_dequeue l D cI cT ad th sv ln vs rl cm fi se z zs sd tx ds rg F Q0 t r (by omega) (by omega) h3 hm hZ hJ) (cwV 1 hts gX5_doWithdraw_X5_dequeue rfl rfl rfl (by decide +kernel) ⟨Nat.le_of_ble_eq_true rfl, Nat.le_of_ble_eq_true rfl⟩) hK hP hD hS hA (va_recv hK hP (ci := 5) (q0 := 0) rfl rfl) (fun _ => adr_ref.trans adr_ref.symm) rfl hl.1 rfl (Nat.le_of_ble_eq_true rfl) ⟨by decide, by decide⟩ dX5_doWithdraw_2 (fun z12 H locs hp hP hD hS => ?_)
  have hZ12 := hp
  have hJ12 := JJ_rm hJ (t := t) (by omega)
  have hP : va_P D vwCl ([(ad 0, .inr (5, [.int th, .ref (ad 1), .ref (ad 2), .ref (ad 3), .int sv, .ref (ad 4), .int ln, .int vs, .ref (ad 5), .ref (ad 6), .int rl, .int cm, .int fi, .int se])), (ad 1, .inl (cI, 221, .inl z12)), (ad 2, .inl (cI, 221, .inl zs)), (ad 3, .inl (cI, 1768, .inl sd)), (ad 4, .inl (cI, 80, .inl tx)), (ad 5, .inl (cI, 8, .inl ds)), (ad 6, .inl (cI, 8, .inl rg))]) H := hP
  have hD : va_D A ([(ad 0, .inr (5, [.int th, .ref (ad 1), .ref (ad 2), .ref (ad 3), .int sv, .ref (ad 4), .int ln, .int vs, .ref (ad 5), .ref (ad 6), .int rl, .int cm, .int fi, .int se])), (ad 1, .inl (cI, 221, .inl z12)), (ad 2, .inl (cI, 221, .inl zs)), (ad 3, .inl (cI, 1768, .inl sd)), (ad 4, .inl (cI, 80, .inl tx)), (ad 5, .inl (cI, 8, .inl ds)), (ad 6, .inl (cI, 8, .inl rg))]) := hD
  refine lv_aload_n hx hb dX5_doWithdraw_5 rfl (lv_at hl 0 rfl) ?_
  refine call_i (X := []) (Z := []) (As := []) (rest := []) ⟨hx, hb, hml, hown, hts⟩ (c_X5_serve l D cI cT ad th sv ln vs rl cm fi se z12 zs sd tx ds rg (rmF F t) (rmQ F Q0 t)  hZ12 hJ12) (cwV 0 hts gX5_doWithdraw_X5_serve rfl rfl rfl (by decide +kernel) ⟨Nat.le_of_ble_eq_true rfl, Nat.le_of_ble_eq_true rfl⟩) hK hP hD hS hA (va_recv hK hP (ci := 5) (q0 := 0) rfl rfl) (fun _ => adr_ref.trans adr_ref.symm) rfl hl.1 rfl (Nat.le_of_ble_eq_true rfl) ⟨by decide, by decide⟩ dX5_doWithdraw_6 (fun rv z13 H locs hp hP hD hS => ?_)
  obtain ⟨rfl, hZ13⟩ := hp
  have hJ13 := JJ_srv hJ12
  have hP : va_P D vwCl ([(ad 0, .inr (5, [.int th, .ref (ad 1), .ref (ad 2), .ref (ad 3), .int sv, .ref (ad 4), .int ln, .int vs, .ref (ad 5), .ref (ad 6), .int rl, .int cm, .int fi, .int se])), (ad 1, .inl (cI, 221, .inl z13)), (ad 2, .inl (cI, 221, .inl zs)), (ad 3, .inl (cI, 1768, .inl sd)), (ad 4, .inl (cI, 80, .inl tx)), (ad 5, .inl (cI, 8, .inl ds)), (ad 6, .inl (cI, 8, .inl rg))]) H := hP
  have hD : va_D A ([(ad 0, .inr (5, [.int th, .ref (ad 1), .ref (ad 2), .ref (ad 3), .int sv, .ref (ad 4), .int ln, .int vs, .ref (ad 5), .ref (ad 6), .int rl, .int cm, .int fi, .int se])), (ad 1, .inl (cI, 221, .inl z13)), (ad 2, .inl (cI, 221, .inl zs)), (ad 3, .inl (cI, 1768, .inl sd)), (ad 4, .inl (cI, 80, .inl tx)), (ad 5, .inl (cI, 8, .inl ds)), (ad 6, .inl (cI, 8, .inl rg))]) := hD
  exact ret_i (u := z13) hQ hx hb hrt hlk hS dX5_doWithdraw_9 hP ⟨rfl, hZ13⟩

abbrev rX5_doEnd : Room := { frames := 4, cells := 0, slots := 0, locals := 93 }
set_option maxHeartbeats 1000000 in
set_option maxRecDepth 100000 in
theorem c_X5_doEnd (l : Launch) (D : va_G) (cI cT : ClassId) (ad : Nat → Nat) (th sv ln vs rl cm fi se : Int32) (z zs sd tx ds rg : Nat → Int32) (F : FF) (Q0 : QQ) (t : Nat) (ht : t < 8) (hZ : RZ F Q0 z) (hJ : JJ F Q0) : CN l D cI cT yX5_doEnd wsX5_doEnd rX5_doEnd [.ref (ad 0), .int (nI t)] (refW cI ad th sv ln vs rl cm fi se z zs sd tx ds rg) (S := Nat → Int32) (fun v u => v = nI (srvN (endF F t) (rmQ F Q0 t)) ∧ RZ (srvF (endF F t) (rmQ F Q0 t)) (srvQ (endF F t) (rmQ F Q0 t)) u) (fun u => refW cI ad th sv ln vs rl cm fi se u zs sd tx ds rg) := by
  refine CN.of (cc := cX5_doEnd) (maxL := 2) (ret := (some .int)) (by decide) rfl (Nat.le_of_ble_eq_true rfl) ?_
  intro p e s m args below meth c A Q hQ B hA H locs hP hK hD hS ls hl
  obtain ⟨hx, hb, hml, hrt, hts, hown, hlk⟩ := B
  have hP : va_P D vwCl ([(ad 0, .inr (5, [.int th, .ref (ad 1), .ref (ad 2), .ref (ad 3), .int sv, .ref (ad 4), .int ln, .int vs, .ref (ad 5), .ref (ad 6), .int rl, .int cm, .int fi, .int se])), (ad 1, .inl (cI, 221, .inl z)), (ad 2, .inl (cI, 221, .inl zs)), (ad 3, .inl (cI, 1768, .inl sd)), (ad 4, .inl (cI, 80, .inl tx)), (ad 5, .inl (cI, 8, .inl ds)), (ad 6, .inl (cI, 8, .inl rg))]) H := hP
  have hD : va_D A ([(ad 0, .inr (5, [.int th, .ref (ad 1), .ref (ad 2), .ref (ad 3), .int sv, .ref (ad 4), .int ln, .int vs, .ref (ad 5), .ref (ad 6), .int rl, .int cm, .int fi, .int se])), (ad 1, .inl (cI, 221, .inl z)), (ad 2, .inl (cI, 221, .inl zs)), (ad 3, .inl (cI, 1768, .inl sd)), (ad 4, .inl (cI, 80, .inl tx)), (ad 5, .inl (cI, 8, .inl ds)), (ad 6, .inl (cI, 8, .inl rg))]) := hD
  have hl : lv_has ls 2 [(0, .ref (ad 0)), (1, .int (nI t))] := hl
  refine lv_aload_n hx hb dX5_doEnd_0 rfl (lv_at hl 0 rfl) ?_
  refine lv_iload_n hx hb dX5_doEnd_1 rfl (lv_at hl 1 rfl) ?_
  refine lv_iconst (v := (nI 0)) hx hb dX5_doEnd_2 (by decide) ?_
  refine call_i (X := []) (Z := []) (As := [.int (nI t), .int (nI 0)]) (rest := []) ⟨hx, hb, hml, hown, hts⟩ (c_X5_of l D cI cT ad th sv ln vs rl cm fi se z zs sd tx ds rg t 0 (by omega)) (cwV 2 hts gX5_doEnd_X5_of rfl rfl rfl (by decide +kernel) ⟨Nat.le_of_ble_eq_true rfl, Nat.le_of_ble_eq_true rfl⟩) hK hP hD hS hA (va_recv hK hP (ci := 5) (q0 := 0) rfl rfl) (fun _ => rfl) rfl hl.1 rfl (Nat.le_of_ble_eq_true rfl) ⟨by decide, by decide⟩ dX5_doEnd_3 (fun rv _ H locs hp hP hD hS => ?_)
  obtain rfl := hp
  have hP : va_P D vwCl ([(ad 0, .inr (5, [.int th, .ref (ad 1), .ref (ad 2), .ref (ad 3), .int sv, .ref (ad 4), .int ln, .int vs, .ref (ad 5), .ref (ad 6), .int rl, .int cm, .int fi, .int se])), (ad 1, .inl (cI, 221, .inl z)), (ad 2, .inl (cI, 221, .inl zs)), (ad 3, .inl (cI, 1768, .inl sd)), (ad 4, .inl (cI, 80, .inl tx)), (ad 5, .inl (cI, 8, .inl ds)), (ad 6, .inl (cI, 8, .inl rg))]) H := hP
  have hD : va_D A ([(ad 0, .inr (5, [.int th, .ref (ad 1), .ref (ad 2), .ref (ad 3), .int sv, .ref (ad 4), .int ln, .int vs, .ref (ad 5), .ref (ad 6), .int rl, .int cm, .int fi, .int se])), (ad 1, .inl (cI, 221, .inl z)), (ad 2, .inl (cI, 221, .inl zs)), (ad 3, .inl (cI, 1768, .inl sd)), (ad 4, .inl (cI, 80, .inl tx)), (ad 5, .inl (cI, 8, .inl ds)), (ad 6, .inl (cI, 8, .inl rg))]) := hD
  refine tpe (y := stI F t) (RZ_0 hZ (by omega)) ?_
  refine lv_iconst (v := (nI 2)) hx hb dX5_doEnd_6 (by decide) ?_
  refine lv_icmp_ne (tgt := 15) hx hb dX5_doEnd_7 (by decide) (fun h_1 => ?_) (fun h_1 => ?_)
  · have h_1 := h_1
    have n3 : F 3 t = -1 := Decidable.byContradiction (fun q => h_1 ((st_w hJ ht).mpr q))
    have hZr : RZ (rmF F t) (rmQ F Q0 t) z := by rw [(rm_none (Q := Q0) n3).1, (rm_none n3).2]; exact hZ
    have hJr := JJ_rm hJ (t := t) ht
    refine lv_aload_n hx hb dX5_doEnd_15 rfl (lv_at hl 0 rfl) ?_
    refine lv_iload_n hx hb dX5_doEnd_16 rfl (lv_at hl 1 rfl) ?_
    refine call_v (X := []) (Z := []) (As := [.int (nI t)]) (rest := []) ⟨hx, hb, hml, hown, hts⟩ (c_X5_release l D cI cT ad th sv ln vs rl cm fi se z zs sd tx ds rg t (by omega)) (cwV 1 hts gX5_doEnd_X5_release rfl rfl rfl (by decide +kernel) ⟨Nat.le_of_ble_eq_true rfl, Nat.le_of_ble_eq_true rfl⟩) hK hP hD hS hA (va_recv hK hP (ci := 5) (q0 := 0) rfl rfl) (fun _ => adr_ref.trans adr_ref.symm) rfl hl.1 rfl (Nat.le_of_ble_eq_true rfl) ⟨by decide, by decide⟩ dX5_doEnd_17 (fun _ H locs hp hP hD hS => ?_)
    have hZ14 := RZ_rl (fun r hr => JJ_len hJr hr) hZr (show t < 8 by omega)
    have hP : va_P D vwCl ([(ad 0, .inr (5, [.int th, .ref (ad 1), .ref (ad 2), .ref (ad 3), .int sv, .ref (ad 4), .int ln, .int vs, .ref (ad 5), .ref (ad 6), .int rl, .int cm, .int fi, .int se])), (ad 1, .inl (cI, 221, .inl (rlZ z t 10))), (ad 2, .inl (cI, 221, .inl zs)), (ad 3, .inl (cI, 1768, .inl sd)), (ad 4, .inl (cI, 80, .inl tx)), (ad 5, .inl (cI, 8, .inl ds)), (ad 6, .inl (cI, 8, .inl rg))]) H := hP
    have hD : va_D A ([(ad 0, .inr (5, [.int th, .ref (ad 1), .ref (ad 2), .ref (ad 3), .int sv, .ref (ad 4), .int ln, .int vs, .ref (ad 5), .ref (ad 6), .int rl, .int cm, .int fi, .int se])), (ad 1, .inl (cI, 221, .inl (rlZ z t 10))), (ad 2, .inl (cI, 221, .inl zs)), (ad 3, .inl (cI, 1768, .inl sd)), (ad 4, .inl (cI, 80, .inl tx)), (ad 5, .inl (cI, 8, .inl ds)), (ad 6, .inl (cI, 8, .inl rg))]) := hD
    refine lv_aload_n hx hb dX5_doEnd_20 rfl (lv_at hl 0 rfl) ?_
    refine lv_iload_n hx hb dX5_doEnd_21 rfl (lv_at hl 1 rfl) ?_
    refine call_v (X := []) (Z := []) (As := [.int (nI t)]) (rest := []) ⟨hx, hb, hml, hown, hts⟩ (c_X5_end l D cI cT ad th sv ln vs rl cm fi se (rlZ z t 10) zs sd tx ds rg t (by omega)) (cwV 1 hts gX5_doEnd_X5_end rfl rfl rfl (by decide +kernel) ⟨Nat.le_of_ble_eq_true rfl, Nat.le_of_ble_eq_true rfl⟩) hK hP hD hS hA (va_recv hK hP (ci := 5) (q0 := 0) rfl rfl) (fun _ => adr_ref.trans adr_ref.symm) rfl hl.1 rfl (Nat.le_of_ble_eq_true rfl) ⟨by decide, by decide⟩ dX5_doEnd_22 (fun _ H locs hp hP hD hS => ?_)
    have hP : va_P D vwCl ([(ad 0, .inr (5, [.int th, .ref (ad 1), .ref (ad 2), .ref (ad 3), .int sv, .ref (ad 4), .int ln, .int vs, .ref (ad 5), .ref (ad 6), .int rl, .int cm, .int fi, .int se])), (ad 1, .inl (cI, 221, .inl (edZ (rlZ z t 10) t))), (ad 2, .inl (cI, 221, .inl zs)), (ad 3, .inl (cI, 1768, .inl sd)), (ad 4, .inl (cI, 80, .inl tx)), (ad 5, .inl (cI, 8, .inl ds)), (ad 6, .inl (cI, 8, .inl rg))]) H := hP
    have hD : va_D A ([(ad 0, .inr (5, [.int th, .ref (ad 1), .ref (ad 2), .ref (ad 3), .int sv, .ref (ad 4), .int ln, .int vs, .ref (ad 5), .ref (ad 6), .int rl, .int cm, .int fi, .int se])), (ad 1, .inl (cI, 221, .inl (edZ (rlZ z t 10) t))), (ad 2, .inl (cI, 221, .inl zs)), (ad 3, .inl (cI, 1768, .inl sd)), (ad 4, .inl (cI, 80, .inl tx)), (ad 5, .inl (cI, 8, .inl ds)), (ad 6, .inl (cI, 8, .inl rg))]) := hD
    have hZe := RZ_ed (fun r hr => JJ_len hJr hr) hZ14 ht (by rw [rel_ne (by decide), rmF_3, if_pos rfl])
    have hJe := JJ_end hJ (t := t) ht
    refine lv_aload_n hx hb dX5_doEnd_25 rfl (lv_at hl 0 rfl) ?_
    refine call_i (X := []) (Z := []) (As := []) (rest := []) ⟨hx, hb, hml, hown, hts⟩ (c_X5_serve l D cI cT ad th sv ln vs rl cm fi se (edZ (rlZ z t 10) t) zs sd tx ds rg (endF F t) (rmQ F Q0 t)  hZe hJe) (cwV 0 hts gX5_doEnd_X5_serve rfl rfl rfl (by decide +kernel) ⟨Nat.le_of_ble_eq_true rfl, Nat.le_of_ble_eq_true rfl⟩) hK hP hD hS hA (va_recv hK hP (ci := 5) (q0 := 0) rfl rfl) (fun _ => adr_ref.trans adr_ref.symm) rfl hl.1 rfl (Nat.le_of_ble_eq_true rfl) ⟨by decide, by decide⟩ dX5_doEnd_26 (fun rv z15 H locs hp hP hD hS => ?_)
    obtain ⟨rfl, hZ15⟩ := hp
    have hJ15 := JJ_srv hJe
    have hP : va_P D vwCl ([(ad 0, .inr (5, [.int th, .ref (ad 1), .ref (ad 2), .ref (ad 3), .int sv, .ref (ad 4), .int ln, .int vs, .ref (ad 5), .ref (ad 6), .int rl, .int cm, .int fi, .int se])), (ad 1, .inl (cI, 221, .inl z15)), (ad 2, .inl (cI, 221, .inl zs)), (ad 3, .inl (cI, 1768, .inl sd)), (ad 4, .inl (cI, 80, .inl tx)), (ad 5, .inl (cI, 8, .inl ds)), (ad 6, .inl (cI, 8, .inl rg))]) H := hP
    have hD : va_D A ([(ad 0, .inr (5, [.int th, .ref (ad 1), .ref (ad 2), .ref (ad 3), .int sv, .ref (ad 4), .int ln, .int vs, .ref (ad 5), .ref (ad 6), .int rl, .int cm, .int fi, .int se])), (ad 1, .inl (cI, 221, .inl z15)), (ad 2, .inl (cI, 221, .inl zs)), (ad 3, .inl (cI, 1768, .inl sd)), (ad 4, .inl (cI, 80, .inl tx)), (ad 5, .inl (cI, 8, .inl ds)), (ad 6, .inl (cI, 8, .inl rg))]) := hD
    exact ret_i (u := z15) hQ hx hb hrt hlk hS dX5_doEnd_29 hP ⟨rfl, hZ15⟩
  · have h_1 := h_1
    have n3 := (st_w hJ ht).mp h_1
    obtain ⟨r, hr, h3, hw, hm⟩ := JJ_want hJ ht n3
    refine lv_aload_n hx hb dX5_doEnd_10 rfl (lv_at hl 0 rfl) ?_
    refine lv_iload_n hx hb dX5_doEnd_11 rfl (lv_at hl 1 rfl) ?_
    refine call_v (X := []) (Z := []) (As := [.int (nI t)]) (rest := []) ⟨hx, hb, hml, hown, hts⟩ (c_X5_dequeue l D cI cT ad th sv ln vs rl cm fi se z zs sd tx ds rg F Q0 t r (by omega) (by omega) h3 hm hZ hJ) (cwV 1 hts gX5_doEnd_X5_dequeue rfl rfl rfl (by decide +kernel) ⟨Nat.le_of_ble_eq_true rfl, Nat.le_of_ble_eq_true rfl⟩) hK hP hD hS hA (va_recv hK hP (ci := 5) (q0 := 0) rfl rfl) (fun _ => adr_ref.trans adr_ref.symm) rfl hl.1 rfl (Nat.le_of_ble_eq_true rfl) ⟨by decide, by decide⟩ dX5_doEnd_12 (fun z16 H locs hp hP hD hS => ?_)
    have hZ16 := hp
    have hJ16 := JJ_rm hJ (t := t) (by omega)
    have hP : va_P D vwCl ([(ad 0, .inr (5, [.int th, .ref (ad 1), .ref (ad 2), .ref (ad 3), .int sv, .ref (ad 4), .int ln, .int vs, .ref (ad 5), .ref (ad 6), .int rl, .int cm, .int fi, .int se])), (ad 1, .inl (cI, 221, .inl z16)), (ad 2, .inl (cI, 221, .inl zs)), (ad 3, .inl (cI, 1768, .inl sd)), (ad 4, .inl (cI, 80, .inl tx)), (ad 5, .inl (cI, 8, .inl ds)), (ad 6, .inl (cI, 8, .inl rg))]) H := hP
    have hD : va_D A ([(ad 0, .inr (5, [.int th, .ref (ad 1), .ref (ad 2), .ref (ad 3), .int sv, .ref (ad 4), .int ln, .int vs, .ref (ad 5), .ref (ad 6), .int rl, .int cm, .int fi, .int se])), (ad 1, .inl (cI, 221, .inl z16)), (ad 2, .inl (cI, 221, .inl zs)), (ad 3, .inl (cI, 1768, .inl sd)), (ad 4, .inl (cI, 80, .inl tx)), (ad 5, .inl (cI, 8, .inl ds)), (ad 6, .inl (cI, 8, .inl rg))]) := hD
    refine lv_aload_n hx hb dX5_doEnd_15 rfl (lv_at hl 0 rfl) ?_
    refine lv_iload_n hx hb dX5_doEnd_16 rfl (lv_at hl 1 rfl) ?_
    refine call_v (X := []) (Z := []) (As := [.int (nI t)]) (rest := []) ⟨hx, hb, hml, hown, hts⟩ (c_X5_release l D cI cT ad th sv ln vs rl cm fi se z16 zs sd tx ds rg t (by omega)) (cwV 1 hts gX5_doEnd_X5_release rfl rfl rfl (by decide +kernel) ⟨Nat.le_of_ble_eq_true rfl, Nat.le_of_ble_eq_true rfl⟩) hK hP hD hS hA (va_recv hK hP (ci := 5) (q0 := 0) rfl rfl) (fun _ => adr_ref.trans adr_ref.symm) rfl hl.1 rfl (Nat.le_of_ble_eq_true rfl) ⟨by decide, by decide⟩ dX5_doEnd_17 (fun _ H locs hp hP hD hS => ?_)
    have hZ17 := RZ_rl (fun r hr => JJ_len hJ16 hr) hZ16 (show t < 8 by omega)
    have hP : va_P D vwCl ([(ad 0, .inr (5, [.int th, .ref (ad 1), .ref (ad 2), .ref (ad 3), .int sv, .ref (ad 4), .int ln, .int vs, .ref (ad 5), .ref (ad 6), .int rl, .int cm, .int fi, .int se])), (ad 1, .inl (cI, 221, .inl (rlZ z16 t 10))), (ad 2, .inl (cI, 221, .inl zs)), (ad 3, .inl (cI, 1768, .inl sd)), (ad 4, .inl (cI, 80, .inl tx)), (ad 5, .inl (cI, 8, .inl ds)), (ad 6, .inl (cI, 8, .inl rg))]) H := hP
    have hD : va_D A ([(ad 0, .inr (5, [.int th, .ref (ad 1), .ref (ad 2), .ref (ad 3), .int sv, .ref (ad 4), .int ln, .int vs, .ref (ad 5), .ref (ad 6), .int rl, .int cm, .int fi, .int se])), (ad 1, .inl (cI, 221, .inl (rlZ z16 t 10))), (ad 2, .inl (cI, 221, .inl zs)), (ad 3, .inl (cI, 1768, .inl sd)), (ad 4, .inl (cI, 80, .inl tx)), (ad 5, .inl (cI, 8, .inl ds)), (ad 6, .inl (cI, 8, .inl rg))]) := hD
    refine lv_aload_n hx hb dX5_doEnd_20 rfl (lv_at hl 0 rfl) ?_
    refine lv_iload_n hx hb dX5_doEnd_21 rfl (lv_at hl 1 rfl) ?_
    refine call_v (X := []) (Z := []) (As := [.int (nI t)]) (rest := []) ⟨hx, hb, hml, hown, hts⟩ (c_X5_end l D cI cT ad th sv ln vs rl cm fi se (rlZ z16 t 10) zs sd tx ds rg t (by omega)) (cwV 1 hts gX5_doEnd_X5_end rfl rfl rfl (by decide +kernel) ⟨Nat.le_of_ble_eq_true rfl, Nat.le_of_ble_eq_true rfl⟩) hK hP hD hS hA (va_recv hK hP (ci := 5) (q0 := 0) rfl rfl) (fun _ => adr_ref.trans adr_ref.symm) rfl hl.1 rfl (Nat.le_of_ble_eq_true rfl) ⟨by decide, by decide⟩ dX5_doEnd_22 (fun _ H locs hp hP hD hS => ?_)
    have hP : va_P D vwCl ([(ad 0, .inr (5, [.int th, .ref (ad 1), .ref (ad 2), .ref (ad 3), .int sv, .ref (ad 4), .int ln, .int vs, .ref (ad 5), .ref (ad 6), .int rl, .int cm, .int fi, .int se])), (ad 1, .inl (cI, 221, .inl (edZ (rlZ z16 t 10) t))), (ad 2, .inl (cI, 221, .inl zs)), (ad 3, .inl (cI, 1768, .inl sd)), (ad 4, .inl (cI, 80, .inl tx)), (ad 5, .inl (cI, 8, .inl ds)), (ad 6, .inl (cI, 8, .inl rg))]) H := hP
    have hD : va_D A ([(ad 0, .inr (5, [.int th, .ref (ad 1), .ref (ad 2), .ref (ad 3), .int sv, .ref (ad 4), .int ln, .int vs, .ref (ad 5), .ref (ad 6), .int rl, .int cm, .int fi, .int se])), (ad 1, .inl (cI, 221, .inl (edZ (rlZ z16 t 10) t))), (ad 2, .inl (cI, 221, .inl zs)), (ad 3, .inl (cI, 1768, .inl sd)), (ad 4, .inl (cI, 80, .inl tx)), (ad 5, .inl (cI, 8, .inl ds)), (ad 6, .inl (cI, 8, .inl rg))]) := hD
    have hZe := RZ_ed (fun r hr => JJ_len hJ16 hr) hZ17 ht (by rw [rel_ne (by decide), rmF_3, if_pos rfl])
    have hJe := JJ_end hJ (t := t) ht
    refine lv_aload_n hx hb dX5_doEnd_25 rfl (lv_at hl 0 rfl) ?_
    refine call_i (X := []) (Z := []) (As := []) (rest := []) ⟨hx, hb, hml, hown, hts⟩ (c_X5_serve l D cI cT ad th sv ln vs rl cm fi se (edZ (rlZ z16 t 10) t) zs sd tx ds rg (endF F t) (rmQ F Q0 t)  hZe hJe) (cwV 0 hts gX5_doEnd_X5_serve rfl rfl rfl (by decide +kernel) ⟨Nat.le_of_ble_eq_true rfl, Nat.le_of_ble_eq_true rfl⟩) hK hP hD hS hA (va_recv hK hP (ci := 5) (q0 := 0) rfl rfl) (fun _ => adr_ref.trans adr_ref.symm) rfl hl.1 rfl (Nat.le_of_ble_eq_true rfl) ⟨by decide, by decide⟩ dX5_doEnd_26 (fun rv z18 H locs hp hP hD hS => ?_)
    obtain ⟨rfl, hZ18⟩ := hp
    have hJ18 := JJ_srv hJe
    have hP : va_P D vwCl ([(ad 0, .inr (5, [.int th, .ref (ad 1), .ref (ad 2), .ref (ad 3), .int sv, .ref (ad 4), .int ln, .int vs, .ref (ad 5), .ref (ad 6), .int rl, .int cm, .int fi, .int se])), (ad 1, .inl (cI, 221, .inl z18)), (ad 2, .inl (cI, 221, .inl zs)), (ad 3, .inl (cI, 1768, .inl sd)), (ad 4, .inl (cI, 80, .inl tx)), (ad 5, .inl (cI, 8, .inl ds)), (ad 6, .inl (cI, 8, .inl rg))]) H := hP
    have hD : va_D A ([(ad 0, .inr (5, [.int th, .ref (ad 1), .ref (ad 2), .ref (ad 3), .int sv, .ref (ad 4), .int ln, .int vs, .ref (ad 5), .ref (ad 6), .int rl, .int cm, .int fi, .int se])), (ad 1, .inl (cI, 221, .inl z18)), (ad 2, .inl (cI, 221, .inl zs)), (ad 3, .inl (cI, 1768, .inl sd)), (ad 4, .inl (cI, 80, .inl tx)), (ad 5, .inl (cI, 8, .inl ds)), (ad 6, .inl (cI, 8, .inl rg))]) := hD
    exact ret_i (u := z18) hQ hx hb hrt hlk hS dX5_doEnd_29 hP ⟨rfl, hZ18⟩

abbrev rX5_doRequest : Room := { frames := 6, cells := 0, slots := 0, locals := 138 }
set_option maxHeartbeats 1000000 in
set_option maxRecDepth 100000 in
theorem c_X5_doRequest (l : Launch) (D : va_G) (cI cT : ClassId) (ad : Nat → Nat) (th sv ln vs rl cm fi se : Int32) (z zs sd tx ds rg : Nat → Int32) (F : FF) (Q0 : QQ) (t r : Nat) (mo : Int32) (ht : t < 8) (hr : r < 10) (hm : mo = nI 1 ∨ mo = nI 2) (h3 : F 3 t = -1) (h0 : ¬ F 0 t = -1) (hB : JB F) (hZ : RZ F Q0 z) (hJ : JJ F Q0) : CN l D cI cT yX5_doRequest wsX5_doRequest rX5_doRequest [.ref (ad 0), .int (nI t), .int (nI r), .int mo] (refW cI ad th sv ln vs rl cm fi se z zs sd tx ds rg) (S := (Nat → Int32) × (Nat → Int32) × (Nat → Int32) × Int32) (fun v u => v = outI (askF F Q0 t r mo) t r mo ∧ RZ (askF F Q0 t r mo) (askQ F Q0 t r mo) u.1) (fun u => refW cI ad th sv ln (nI (askV F Q0 t r mo)) u.2.2.2 cm fi se u.1 zs sd tx u.2.1 u.2.2.1) := by
  refine CN.of (cc := cX5_doRequest) (maxL := 6) (ret := (some .int)) (by decide) rfl (Nat.le_of_ble_eq_true rfl) ?_
  intro p e s m args below meth c A Q hQ B hA H locs hP hK hD hS ls hl
  obtain ⟨hx, hb, hml, hrt, hts, hown, hlk⟩ := B
  have hP : va_P D vwCl ([(ad 0, .inr (5, [.int th, .ref (ad 1), .ref (ad 2), .ref (ad 3), .int sv, .ref (ad 4), .int ln, .int vs, .ref (ad 5), .ref (ad 6), .int rl, .int cm, .int fi, .int se])), (ad 1, .inl (cI, 221, .inl z)), (ad 2, .inl (cI, 221, .inl zs)), (ad 3, .inl (cI, 1768, .inl sd)), (ad 4, .inl (cI, 80, .inl tx)), (ad 5, .inl (cI, 8, .inl ds)), (ad 6, .inl (cI, 8, .inl rg))]) H := hP
  have hD : va_D A ([(ad 0, .inr (5, [.int th, .ref (ad 1), .ref (ad 2), .ref (ad 3), .int sv, .ref (ad 4), .int ln, .int vs, .ref (ad 5), .ref (ad 6), .int rl, .int cm, .int fi, .int se])), (ad 1, .inl (cI, 221, .inl z)), (ad 2, .inl (cI, 221, .inl zs)), (ad 3, .inl (cI, 1768, .inl sd)), (ad 4, .inl (cI, 80, .inl tx)), (ad 5, .inl (cI, 8, .inl ds)), (ad 6, .inl (cI, 8, .inl rg))]) := hD
  have hl : lv_has ls 6 [(0, .ref (ad 0)), (1, .int (nI t)), (2, .int (nI r)), (3, .int mo)] := hl
  have iX5 : ∀ w ∈ u_ws RX5 TX5 14, w ∈ wsX5_doRequest := by decide +kernel
  have f97 := hts (.fieldLink RX5 97 "LockManagerModel" "victims" "I") (by decide +kernel)
  refine lv_aload_n hx hb dX5_doRequest_0 rfl (lv_at hl 0 rfl) ?_
  refine lv_iconst (v := (nI 0)) hx hb dX5_doRequest_1 (by decide) ?_
  refine va_put (D := D) (ci := 5) (v := .int (nI 0)) (ty := .int) (C := RX5) (T := TX5) (N := 14) hx hb hts iX5 tyX5 tyX5_ok nmX5 hown hK hP hD hS 0 rfl rfl 7 (by decide) f97 (fun _ h9 => h9) rfl (by decide +kernel) rfl rfl (Nat.le_of_ble_eq_true rfl) dX5_doRequest_2 (fun H locs hP hD hS => ?_)
  have hP : va_P D vwCl ([(ad 0, .inr (5, [.int th, .ref (ad 1), .ref (ad 2), .ref (ad 3), .int sv, .ref (ad 4), .int ln, .int (nI 0), .ref (ad 5), .ref (ad 6), .int rl, .int cm, .int fi, .int se])), (ad 1, .inl (cI, 221, .inl z)), (ad 2, .inl (cI, 221, .inl zs)), (ad 3, .inl (cI, 1768, .inl sd)), (ad 4, .inl (cI, 80, .inl tx)), (ad 5, .inl (cI, 8, .inl ds)), (ad 6, .inl (cI, 8, .inl rg))]) H := hP
  have hD : va_D A ([(ad 0, .inr (5, [.int th, .ref (ad 1), .ref (ad 2), .ref (ad 3), .int sv, .ref (ad 4), .int ln, .int (nI 0), .ref (ad 5), .ref (ad 6), .int rl, .int cm, .int fi, .int se])), (ad 1, .inl (cI, 221, .inl z)), (ad 2, .inl (cI, 221, .inl zs)), (ad 3, .inl (cI, 1768, .inl sd)), (ad 4, .inl (cI, 80, .inl tx)), (ad 5, .inl (cI, 8, .inl ds)), (ad 6, .inl (cI, 8, .inl rg))]) := hD
  refine lv_aload_n hx hb dX5_doRequest_5 rfl (lv_at hl 0 rfl) ?_
  refine lv_iload_n hx hb dX5_doRequest_6 rfl (lv_at hl 1 rfl) ?_
  refine lv_iload_n hx hb dX5_doRequest_7 rfl (lv_at hl 2 rfl) ?_
  refine call_i (X := []) (Z := []) (As := [.int (nI t), .int (nI r)]) (rest := []) ⟨hx, hb, hml, hown, hts⟩ (c_X5_lock l D cI cT ad th sv ln (nI 0) rl cm fi se z zs sd tx ds rg t r (by omega)) (cwV 2 hts gX5_doRequest_X5_lock rfl rfl rfl (by decide +kernel) ⟨Nat.le_of_ble_eq_true rfl, Nat.le_of_ble_eq_true rfl⟩) hK hP hD hS hA (va_recv hK hP (ci := 5) (q0 := 0) rfl rfl) (fun _ => rfl) rfl hl.1 rfl (Nat.le_of_ble_eq_true rfl) ⟨by decide, by decide⟩ dX5_doRequest_8 (fun rv _ H locs hp hP hD hS => ?_)
  obtain rfl := hp
  have hP : va_P D vwCl ([(ad 0, .inr (5, [.int th, .ref (ad 1), .ref (ad 2), .ref (ad 3), .int sv, .ref (ad 4), .int ln, .int (nI 0), .ref (ad 5), .ref (ad 6), .int rl, .int cm, .int fi, .int se])), (ad 1, .inl (cI, 221, .inl z)), (ad 2, .inl (cI, 221, .inl zs)), (ad 3, .inl (cI, 1768, .inl sd)), (ad 4, .inl (cI, 80, .inl tx)), (ad 5, .inl (cI, 8, .inl ds)), (ad 6, .inl (cI, 8, .inl rg))]) H := hP
  have hD : va_D A ([(ad 0, .inr (5, [.int th, .ref (ad 1), .ref (ad 2), .ref (ad 3), .int sv, .ref (ad 4), .int ln, .int (nI 0), .ref (ad 5), .ref (ad 6), .int rl, .int cm, .int fi, .int se])), (ad 1, .inl (cI, 221, .inl z)), (ad 2, .inl (cI, 221, .inl zs)), (ad 3, .inl (cI, 1768, .inl sd)), (ad 4, .inl (cI, 80, .inl tx)), (ad 5, .inl (cI, 8, .inl ds)), (ad 6, .inl (cI, 8, .inl rg))]) := hD
  refine tpe (y := lk F t r) (RZ_lk hZ (by omega) (by omega)) ?_
  refine lv_istore (lv' := [(4, .int (lk F t r)), (0, .ref (ad 0)), (1, .int (nI t)), (2, .int (nI r)), (3, .int mo)]) hx hb dX5_doRequest_11 hl (by decide) rfl (fun ls hl => ?_)
  refine lv_iload hx hb dX5_doRequest_13 (lv_at hl 0 rfl) ?_
  refine lv_iload_n hx hb dX5_doRequest_15 rfl (lv_at hl 4 rfl) ?_
  refine lv_icmp_lt (tgt := 21) hx hb dX5_doRequest_16 (by decide) (fun h_1 => ?_) (fun h_1 => ?_)
  · have h_1 := h_1
    have es := ((pl_ge (Q := Q0) hJ ht hr hm).2 h_1).1
    have es2 := ((pl_ge (Q := Q0) hJ ht hr hm).2 h_1).2
    refine lv_iload hx hb dX5_doRequest_21 (lv_at hl 0 rfl) ?_
    refine lv_iconst (v := (nI 1)) hx hb dX5_doRequest_23 (by decide) ?_
    refine lv_icmp_ne (tgt := 39) hx hb dX5_doRequest_24 (by decide) (fun h_2 => ?_) (fun h_2 => ?_)
    · have h_2 := h_2
      refine lv_aload_n hx hb dX5_doRequest_39 rfl (lv_at hl 1 rfl) ?_
      refine lv_iload_n hx hb dX5_doRequest_40 rfl (lv_at hl 3 rfl) ?_
      refine call_i (X := []) (Z := []) (As := [.int (nI r)]) (rest := []) ⟨hx, hb, hml, hown, hts⟩ (c_X5_queueOf l D cI cT ad th sv ln (nI 0) rl cm fi se z zs sd tx ds rg r (by omega)) (cwV 1 hts gX5_doRequest_X5_queueOf rfl rfl rfl (by decide +kernel) ⟨Nat.le_of_ble_eq_true rfl, Nat.le_of_ble_eq_true rfl⟩) hK hP hD hS hA (va_recv hK hP (ci := 5) (q0 := 0) rfl rfl) (fun _ => rfl) rfl hl.1 rfl (Nat.le_of_ble_eq_true rfl) ⟨by decide, by decide⟩ dX5_doRequest_41 (fun rv _ H locs hp hP hD hS => ?_)
      obtain rfl := hp
      have hP : va_P D vwCl ([(ad 0, .inr (5, [.int th, .ref (ad 1), .ref (ad 2), .ref (ad 3), .int sv, .ref (ad 4), .int ln, .int (nI 0), .ref (ad 5), .ref (ad 6), .int rl, .int cm, .int fi, .int se])), (ad 1, .inl (cI, 221, .inl z)), (ad 2, .inl (cI, 221, .inl zs)), (ad 3, .inl (cI, 1768, .inl sd)), (ad 4, .inl (cI, 80, .inl tx)), (ad 5, .inl (cI, 8, .inl ds)), (ad 6, .inl (cI, 8, .inl rg))]) H := hP
      have hD : va_D A ([(ad 0, .inr (5, [.int th, .ref (ad 1), .ref (ad 2), .ref (ad 3), .int sv, .ref (ad 4), .int ln, .int (nI 0), .ref (ad 5), .ref (ad 6), .int rl, .int cm, .int fi, .int se])), (ad 1, .inl (cI, 221, .inl z)), (ad 2, .inl (cI, 221, .inl zs)), (ad 3, .inl (cI, 1768, .inl sd)), (ad 4, .inl (cI, 80, .inl tx)), (ad 5, .inl (cI, 8, .inl ds)), (ad 6, .inl (cI, 8, .inl rg))]) := hD
      have hq8 := JJ_len hJ (show r < 10 by omega)
      refine tpe (y := nI (qlen Q0 r)) (RZ_n hZ (by omega)) ?_
      refine lv_if_ne (tgt := 66) hx hb dX5_doRequest_44 (by decide) (fun h_3 => ?_) (fun h_3 => ?_)
      · have h_3 := mt (nI_eq (a := (qlen Q0 r)) (b := 0) (by first | omega | exact bits_lt31 _ | exact bitN_lt _ _ | exact bool_lt _ | exact and_lt31 _ _ _ _ | exact Nat.lt_of_le_of_lt (dst_lt _ _ _ (by omega) _) (by decide) | exact Nat.lt_of_le_of_lt (nrB_le _ _ _ (by omega)).2 (by decide) | decide) (by first | omega | exact bits_lt31 _ | exact bitN_lt _ _ | exact bool_lt _ | exact and_lt31 _ _ _ _ | exact Nat.lt_of_le_of_lt (dst_lt _ _ _ (by omega) _) (by decide) | exact Nat.lt_of_le_of_lt (nrB_le _ _ _ (by omega)).2 (by decide) | decide)).mpr h_3
        have eg : plG F Q0 t r mo = false := plG_3 h_2 h_3
        have h8 := JJ_room hJ ht h3 hr
        refine lv_aload_n hx hb dX5_doRequest_66 rfl (lv_at hl 1 rfl) ?_
        refine lv_iload_n hx hb dX5_doRequest_67 rfl (lv_at hl 3 rfl) ?_
        refine call_i (X := []) (Z := []) (As := [.int (nI r)]) (rest := []) ⟨hx, hb, hml, hown, hts⟩ (c_X5_queueOf l D cI cT ad th sv ln (nI 0) rl cm fi se z zs sd tx ds rg r (by omega)) (cwV 1 hts gX5_doRequest_X5_queueOf rfl rfl rfl (by decide +kernel) ⟨Nat.le_of_ble_eq_true rfl, Nat.le_of_ble_eq_true rfl⟩) hK hP hD hS hA (va_recv hK hP (ci := 5) (q0 := 0) rfl rfl) (fun _ => rfl) rfl hl.1 rfl (Nat.le_of_ble_eq_true rfl) ⟨by decide, by decide⟩ dX5_doRequest_68 (fun rv _ H locs hp hP hD hS => ?_)
        obtain rfl := hp
        have hP : va_P D vwCl ([(ad 0, .inr (5, [.int th, .ref (ad 1), .ref (ad 2), .ref (ad 3), .int sv, .ref (ad 4), .int ln, .int (nI 0), .ref (ad 5), .ref (ad 6), .int rl, .int cm, .int fi, .int se])), (ad 1, .inl (cI, 221, .inl z)), (ad 2, .inl (cI, 221, .inl zs)), (ad 3, .inl (cI, 1768, .inl sd)), (ad 4, .inl (cI, 80, .inl tx)), (ad 5, .inl (cI, 8, .inl ds)), (ad 6, .inl (cI, 8, .inl rg))]) H := hP
        have hD : va_D A ([(ad 0, .inr (5, [.int th, .ref (ad 1), .ref (ad 2), .ref (ad 3), .int sv, .ref (ad 4), .int ln, .int (nI 0), .ref (ad 5), .ref (ad 6), .int rl, .int cm, .int fi, .int se])), (ad 1, .inl (cI, 221, .inl z)), (ad 2, .inl (cI, 221, .inl zs)), (ad 3, .inl (cI, 1768, .inl sd)), (ad 4, .inl (cI, 80, .inl tx)), (ad 5, .inl (cI, 8, .inl ds)), (ad 6, .inl (cI, 8, .inl rg))]) := hD
        have hq8 := JJ_len hJ (show r < 10 by omega)
        refine tpe (y := nI (qlen Q0 r)) (RZ_n hZ (by omega)) ?_
        refine lv_istore (lv' := [(5, .int (nI (qlen Q0 r))), (4, .int (lk F t r)), (0, .ref (ad 0)), (1, .int (nI t)), (2, .int (nI r)), (3, .int mo)]) hx hb dX5_doRequest_71 hl (by decide) rfl (fun ls hl => ?_)
        refine lv_iload hx hb dX5_doRequest_73 (lv_at hl 1 rfl) ?_
        refine lv_iconst (v := (nI 1)) hx hb dX5_doRequest_75 (by decide) ?_
        refine lv_icmp_ne (tgt := 113) hx hb dX5_doRequest_76 (by decide) (fun h_4 => ?_) (fun h_4 => absurd h_4 h_2)
        have h_4 := h_4
        have hin : qlen Q0 r = insN F Q0 t r := ins_2 h_2
        refine lv_aload_n hx hb dX5_doRequest_113 rfl (lv_at hl 2 rfl) ?_
        refine lv_iload_n hx hb dX5_doRequest_114 rfl (lv_at hl 3 rfl) ?_
        refine lv_iload_n hx hb dX5_doRequest_115 rfl (lv_at hl 4 rfl) ?_
        refine lv_iload_n hx hb dX5_doRequest_116 rfl (lv_at hl 5 rfl) ?_
        refine lv_iload hx hb dX5_doRequest_117 (lv_at hl 0 rfl) ?_
        refine call_v (X := []) (Z := []) (As := [.int (nI t), .int (nI r), .int mo, .int (nI (qlen Q0 r))]) (rest := []) ⟨hx, hb, hml, hown, hts⟩ (c_X5_enqueue l D cI cT ad th sv ln (nI 0) rl cm fi se z zs sd tx ds rg F Q0 t r mo (qlen Q0 r) (by omega) (by omega) h0 (by omega) h8 hZ hJ) (cwV 4 hts gX5_doRequest_X5_enqueue rfl rfl rfl (by decide +kernel) ⟨Nat.le_of_ble_eq_true rfl, Nat.le_of_ble_eq_true rfl⟩) hK hP hD hS hA (va_recv hK hP (ci := 5) (q0 := 0) rfl rfl) (fun _ => adr_ref.trans adr_ref.symm) rfl hl.1 rfl (Nat.le_of_ble_eq_true rfl) ⟨by decide, by decide⟩ dX5_doRequest_119 (fun z19 H locs hp hP hD hS => ?_)
        have hZ19 := hp
        have hP : va_P D vwCl ([(ad 0, .inr (5, [.int th, .ref (ad 1), .ref (ad 2), .ref (ad 3), .int sv, .ref (ad 4), .int ln, .int (nI 0), .ref (ad 5), .ref (ad 6), .int rl, .int cm, .int fi, .int se])), (ad 1, .inl (cI, 221, .inl z19)), (ad 2, .inl (cI, 221, .inl zs)), (ad 3, .inl (cI, 1768, .inl sd)), (ad 4, .inl (cI, 80, .inl tx)), (ad 5, .inl (cI, 8, .inl ds)), (ad 6, .inl (cI, 8, .inl rg))]) H := hP
        have hD : va_D A ([(ad 0, .inr (5, [.int th, .ref (ad 1), .ref (ad 2), .ref (ad 3), .int sv, .ref (ad 4), .int ln, .int (nI 0), .ref (ad 5), .ref (ad 6), .int rl, .int cm, .int fi, .int se])), (ad 1, .inl (cI, 221, .inl z19)), (ad 2, .inl (cI, 221, .inl zs)), (ad 3, .inl (cI, 1768, .inl sd)), (ad 4, .inl (cI, 80, .inl tx)), (ad 5, .inl (cI, 8, .inl ds)), (ad 6, .inl (cI, 8, .inl rg))]) := hD
        have hpw := pl_wait es eg
        have hZp : RZ (plF F Q0 t r mo) (plQ F Q0 t r mo) z19 := by rw [hpw.1, hpw.2.1, ← hin]; exact hZ19
        have hJp := JJ_pl hJ ht hr h3 h0 hm
        have hBp : JB (plF F Q0 t r mo) := by rw [hpw.1]; exact hB
        have hout := ask_out hJ ht hr h3 h0 hm es eg
        have hay := ask_y hpw.2.2
        refine lv_aload_n hx hb dX5_doRequest_122 rfl (lv_at hl 2 rfl) ?_
        refine lv_iload_n hx hb dX5_doRequest_123 rfl (lv_at hl 3 rfl) ?_
        refine call_v (X := []) (Z := []) (As := [.int (nI t)]) (rest := []) ⟨hx, hb, hml, hown, hts⟩ (c_X5_breakRings l D cI cT ad th sv ln (nI 0) rl cm fi se z19 zs sd tx ds rg (plF F Q0 t r mo) (plQ F Q0 t r mo) t (by omega) hBp hZp hJp) (cwV 1 hts gX5_doRequest_X5_breakRings rfl rfl rfl (by decide +kernel) ⟨Nat.le_of_ble_eq_true rfl, Nat.le_of_ble_eq_true rfl⟩) hK hP hD hS hA (va_recv hK hP (ci := 5) (q0 := 0) rfl rfl) (fun _ => adr_ref.trans adr_ref.symm) rfl hl.1 rfl (Nat.le_of_ble_eq_true rfl) ⟨by decide, by decide⟩ dX5_doRequest_124 (fun u20 H locs hp hP hD hS => ?_)
        have hZ20 := hp
        have hJ20 := JJ_br (s := t) 8 (V := 0) hJp
        have hP : va_P D vwCl ([(ad 0, .inr (5, [.int th, .ref (ad 1), .ref (ad 2), .ref (ad 3), .int sv, .ref (ad 4), .int ln, .int (nI (brV (plF F Q0 t r mo) (plQ F Q0 t r mo) t)), .ref (ad 5), .ref (ad 6), .int u20.2.2.2, .int cm, .int fi, .int se])), (ad 1, .inl (cI, 221, .inl u20.1)), (ad 2, .inl (cI, 221, .inl zs)), (ad 3, .inl (cI, 1768, .inl sd)), (ad 4, .inl (cI, 80, .inl tx)), (ad 5, .inl (cI, 8, .inl u20.2.1)), (ad 6, .inl (cI, 8, .inl u20.2.2.1))]) H := hP
        have hD : va_D A ([(ad 0, .inr (5, [.int th, .ref (ad 1), .ref (ad 2), .ref (ad 3), .int sv, .ref (ad 4), .int ln, .int (nI (brV (plF F Q0 t r mo) (plQ F Q0 t r mo) t)), .ref (ad 5), .ref (ad 6), .int u20.2.2.2, .int cm, .int fi, .int se])), (ad 1, .inl (cI, 221, .inl u20.1)), (ad 2, .inl (cI, 221, .inl zs)), (ad 3, .inl (cI, 1768, .inl sd)), (ad 4, .inl (cI, 80, .inl tx)), (ad 5, .inl (cI, 8, .inl u20.2.1)), (ad 6, .inl (cI, 8, .inl u20.2.2.1))]) := hD
        refine lv_aload_n hx hb dX5_doRequest_127 rfl (lv_at hl 2 rfl) ?_
        refine va_get (D := D) (ci := 5) (v := .int (nI (brV (plF F Q0 t r mo) (plQ F Q0 t r mo) t))) (C := RX5) (T := TX5) (N := 14) hx hb hts iX5 hown hK hP 0 rfl rfl 7 (by decide) f97 (fun _ h9 => h9) rfl dX5_doRequest_128 ?_
        refine lv_iload_n hx hb dX5_doRequest_131 rfl (lv_at hl 3 rfl) ?_
        refine lv_ishr hx hb dX5_doRequest_132 ?_
        refine lv_iconst (v := (nI 1)) hx hb dX5_doRequest_133 (by decide) ?_
        refine lv_iand hx hb dX5_doRequest_134 ?_
        refine tpe (y := nI (bitN (brV (plF F Q0 t r mo) (plQ F Q0 t r mo) t) t)) (tb_I (Nat.lt_of_lt_of_le brV_lt (by decide)) ht) ?_
        refine lv_iconst (v := (nI 1)) hx hb dX5_doRequest_135 (by decide) ?_
        refine lv_icmp_ne (tgt := 143) hx hb dX5_doRequest_136 (by decide) (fun h_5 => ?_) (fun h_5 => ?_)
        · have h_5 := mt (nI_eq (a := (bitN (brV (plF F Q0 t r mo) (plQ F Q0 t r mo) t) t)) (b := 1) (by first | omega | exact bits_lt31 _ | exact bitN_lt _ _ | exact bool_lt _ | exact and_lt31 _ _ _ _ | exact Nat.lt_of_le_of_lt (dst_lt _ _ _ (by omega) _) (by decide) | exact Nat.lt_of_le_of_lt (nrB_le _ _ _ (by omega)).2 (by decide) | decide) (by first | omega | exact bits_lt31 _ | exact bitN_lt _ _ | exact bool_lt _ | exact and_lt31 _ _ _ _ | exact Nat.lt_of_le_of_lt (dst_lt _ _ _ (by omega) _) (by decide) | exact Nat.lt_of_le_of_lt (nrB_le _ _ _ (by omega)).2 (by decide) | decide)).mpr h_5
          refine lv_aload_n hx hb dX5_doRequest_143 rfl (lv_at hl 2 rfl) ?_
          refine lv_iload_n hx hb dX5_doRequest_144 rfl (lv_at hl 3 rfl) ?_
          refine lv_iconst (v := (nI 0)) hx hb dX5_doRequest_145 (by decide) ?_
          refine call_i (X := []) (Z := []) (As := [.int (nI t), .int (nI 0)]) (rest := []) ⟨hx, hb, hml, hown, hts⟩ (c_X5_of l D cI cT ad th sv ln (nI (brV (plF F Q0 t r mo) (plQ F Q0 t r mo) t)) u20.2.2.2 cm fi se u20.1 zs sd tx u20.2.1 u20.2.2.1 t 0 (by omega)) (cwV 2 hts gX5_doRequest_X5_of rfl rfl rfl (by decide +kernel) ⟨Nat.le_of_ble_eq_true rfl, Nat.le_of_ble_eq_true rfl⟩) hK hP hD hS hA (va_recv hK hP (ci := 5) (q0 := 0) rfl rfl) (fun _ => rfl) rfl hl.1 rfl (Nat.le_of_ble_eq_true rfl) ⟨by decide, by decide⟩ dX5_doRequest_146 (fun rv _ H locs hp hP hD hS => ?_)
          obtain rfl := hp
          have hP : va_P D vwCl ([(ad 0, .inr (5, [.int th, .ref (ad 1), .ref (ad 2), .ref (ad 3), .int sv, .ref (ad 4), .int ln, .int (nI (brV (plF F Q0 t r mo) (plQ F Q0 t r mo) t)), .ref (ad 5), .ref (ad 6), .int u20.2.2.2, .int cm, .int fi, .int se])), (ad 1, .inl (cI, 221, .inl u20.1)), (ad 2, .inl (cI, 221, .inl zs)), (ad 3, .inl (cI, 1768, .inl sd)), (ad 4, .inl (cI, 80, .inl tx)), (ad 5, .inl (cI, 8, .inl u20.2.1)), (ad 6, .inl (cI, 8, .inl u20.2.2.1))]) H := hP
          have hD : va_D A ([(ad 0, .inr (5, [.int th, .ref (ad 1), .ref (ad 2), .ref (ad 3), .int sv, .ref (ad 4), .int ln, .int (nI (brV (plF F Q0 t r mo) (plQ F Q0 t r mo) t)), .ref (ad 5), .ref (ad 6), .int u20.2.2.2, .int cm, .int fi, .int se])), (ad 1, .inl (cI, 221, .inl u20.1)), (ad 2, .inl (cI, 221, .inl zs)), (ad 3, .inl (cI, 1768, .inl sd)), (ad 4, .inl (cI, 80, .inl tx)), (ad 5, .inl (cI, 8, .inl u20.2.1)), (ad 6, .inl (cI, 8, .inl u20.2.2.1))]) := hD
          refine tpe (y := stI (brF (plF F Q0 t r mo) (plQ F Q0 t r mo) t) t) (RZ_0 hZ20 (by omega)) ?_
          refine lv_iconst (v := (nI 2)) hx hb dX5_doRequest_149 (by decide) ?_
          refine lv_icmp_ne (tgt := 157) hx hb dX5_doRequest_150 (by decide) (fun h_6 => ?_) (fun h_6 => ?_)
          · have h_6 := h_6
            refine lv_iconst (v := (nI 1)) hx hb dX5_doRequest_157 (by decide) ?_
            exact ret_i (u := (u20.1, u20.2.1, u20.2.2.1, u20.2.2.2)) hQ hx hb hrt hlk hS dX5_doRequest_158 (by rw [hay.2.2]; exact hP) (by rw [hay.1, hay.2.1]; exact ⟨(hout.2.2 h_5 h_6).symm, hZ20⟩)
          · have h_6 := h_6
            refine lv_iconst (v := (nI 2)) hx hb dX5_doRequest_153 (by decide) ?_
            refine lv_goto (tgt := 158) hx hb dX5_doRequest_154 (by decide) ?_
            exact ret_i (u := (u20.1, u20.2.1, u20.2.2.1, u20.2.2.2)) hQ hx hb hrt hlk hS dX5_doRequest_158 (by rw [hay.2.2]; exact hP) (by rw [hay.1, hay.2.1]; exact ⟨(hout.2.1 h_5 h_6).symm, hZ20⟩)
        · have h_5 := (nI_eq (a := (bitN (brV (plF F Q0 t r mo) (plQ F Q0 t r mo) t) t)) (b := 1) (by first | omega | exact bits_lt31 _ | exact bitN_lt _ _ | exact bool_lt _ | exact and_lt31 _ _ _ _ | exact Nat.lt_of_le_of_lt (dst_lt _ _ _ (by omega) _) (by decide) | exact Nat.lt_of_le_of_lt (nrB_le _ _ _ (by omega)).2 (by decide) | decide) (by first | omega | exact bits_lt31 _ | exact bitN_lt _ _ | exact bool_lt _ | exact and_lt31 _ _ _ _ | exact Nat.lt_of_le_of_lt (dst_lt _ _ _ (by omega) _) (by decide) | exact Nat.lt_of_le_of_lt (nrB_le _ _ _ (by omega)).2 (by decide) | decide)).mp h_5
          refine lv_iconst (v := (nI 3)) hx hb dX5_doRequest_139 (by decide) ?_
          refine lv_goto (tgt := 158) hx hb dX5_doRequest_140 (by decide) ?_
          exact ret_i (u := (u20.1, u20.2.1, u20.2.2.1, u20.2.2.2)) hQ hx hb hrt hlk hS dX5_doRequest_158 (by rw [hay.2.2]; exact hP) (by rw [hay.1, hay.2.1]; exact ⟨(hout.1 h_5).symm, hZ20⟩)
      · have h_3 := (nI_eq (a := (qlen Q0 r)) (b := 0) (by first | omega | exact bits_lt31 _ | exact bitN_lt _ _ | exact bool_lt _ | exact and_lt31 _ _ _ _ | exact Nat.lt_of_le_of_lt (dst_lt _ _ _ (by omega) _) (by decide) | exact Nat.lt_of_le_of_lt (nrB_le _ _ _ (by omega)).2 (by decide) | decide) (by first | omega | exact bits_lt31 _ | exact bitN_lt _ _ | exact bool_lt _ | exact and_lt31 _ _ _ _ | exact Nat.lt_of_le_of_lt (dst_lt _ _ _ (by omega) _) (by decide) | exact Nat.lt_of_le_of_lt (nrB_le _ _ _ (by omega)).2 (by decide) | decide)).mp h_3
        refine lv_aload_n hx hb dX5_doRequest_47 rfl (lv_at hl 1 rfl) ?_
        refine lv_iload_n hx hb dX5_doRequest_48 rfl (lv_at hl 2 rfl) ?_
        refine lv_iload_n hx hb dX5_doRequest_49 rfl (lv_at hl 3 rfl) ?_
        refine lv_iload_n hx hb dX5_doRequest_50 rfl (lv_at hl 4 rfl) ?_
        refine call_i (X := []) (Z := []) (As := [.int (nI t), .int (nI r), .int mo]) (rest := []) ⟨hx, hb, hml, hown, hts⟩ (c_X5_canHold l D cI cT ad th sv ln (nI 0) rl cm fi se z zs sd tx ds rg F Q0 t r mo (by omega) (by omega) hZ) (cwV 3 hts gX5_doRequest_X5_canHold rfl rfl rfl (by decide +kernel) ⟨Nat.le_of_ble_eq_true rfl, Nat.le_of_ble_eq_true rfl⟩) hK hP hD hS hA (va_recv hK hP (ci := 5) (q0 := 0) rfl rfl) (fun _ => rfl) rfl hl.1 rfl (Nat.le_of_ble_eq_true rfl) ⟨by decide, by decide⟩ dX5_doRequest_51 (fun rv _ H locs hp hP hD hS => ?_)
        obtain rfl := hp
        have hP : va_P D vwCl ([(ad 0, .inr (5, [.int th, .ref (ad 1), .ref (ad 2), .ref (ad 3), .int sv, .ref (ad 4), .int ln, .int (nI 0), .ref (ad 5), .ref (ad 6), .int rl, .int cm, .int fi, .int se])), (ad 1, .inl (cI, 221, .inl z)), (ad 2, .inl (cI, 221, .inl zs)), (ad 3, .inl (cI, 1768, .inl sd)), (ad 4, .inl (cI, 80, .inl tx)), (ad 5, .inl (cI, 8, .inl ds)), (ad 6, .inl (cI, 8, .inl rg))]) H := hP
        have hD : va_D A ([(ad 0, .inr (5, [.int th, .ref (ad 1), .ref (ad 2), .ref (ad 3), .int sv, .ref (ad 4), .int ln, .int (nI 0), .ref (ad 5), .ref (ad 6), .int rl, .int cm, .int fi, .int se])), (ad 1, .inl (cI, 221, .inl z)), (ad 2, .inl (cI, 221, .inl zs)), (ad 3, .inl (cI, 1768, .inl sd)), (ad 4, .inl (cI, 80, .inl tx)), (ad 5, .inl (cI, 8, .inl ds)), (ad 6, .inl (cI, 8, .inl rg))]) := hD
        refine lv_if_eq (tgt := 66) hx hb dX5_doRequest_54 (by decide) (fun h_7 => ?_) (fun h_7 => ?_)
        · have h_7 := (nI_eq (a := ((alN (fun u => !rivB F t r mo u) 8).toNat)) (b := 0) (by first | omega | exact bits_lt31 _ | exact bitN_lt _ _ | exact bool_lt _ | exact and_lt31 _ _ _ _ | exact Nat.lt_of_le_of_lt (dst_lt _ _ _ (by omega) _) (by decide) | exact Nat.lt_of_le_of_lt (nrB_le _ _ _ (by omega)).2 (by decide) | decide) (by first | omega | exact bits_lt31 _ | exact bitN_lt _ _ | exact bool_lt _ | exact and_lt31 _ _ _ _ | exact Nat.lt_of_le_of_lt (dst_lt _ _ _ (by omega) _) (by decide) | exact Nat.lt_of_le_of_lt (nrB_le _ _ _ (by omega)).2 (by decide) | decide)).mp h_7
          have h_7 := tn_f h_7
          have eg : plG F Q0 t r mo = false := plG_2 h_3 h_7
          have h8 := JJ_room hJ ht h3 hr
          refine lv_aload_n hx hb dX5_doRequest_66 rfl (lv_at hl 1 rfl) ?_
          refine lv_iload_n hx hb dX5_doRequest_67 rfl (lv_at hl 3 rfl) ?_
          refine call_i (X := []) (Z := []) (As := [.int (nI r)]) (rest := []) ⟨hx, hb, hml, hown, hts⟩ (c_X5_queueOf l D cI cT ad th sv ln (nI 0) rl cm fi se z zs sd tx ds rg r (by omega)) (cwV 1 hts gX5_doRequest_X5_queueOf rfl rfl rfl (by decide +kernel) ⟨Nat.le_of_ble_eq_true rfl, Nat.le_of_ble_eq_true rfl⟩) hK hP hD hS hA (va_recv hK hP (ci := 5) (q0 := 0) rfl rfl) (fun _ => rfl) rfl hl.1 rfl (Nat.le_of_ble_eq_true rfl) ⟨by decide, by decide⟩ dX5_doRequest_68 (fun rv _ H locs hp hP hD hS => ?_)
          obtain rfl := hp
          have hP : va_P D vwCl ([(ad 0, .inr (5, [.int th, .ref (ad 1), .ref (ad 2), .ref (ad 3), .int sv, .ref (ad 4), .int ln, .int (nI 0), .ref (ad 5), .ref (ad 6), .int rl, .int cm, .int fi, .int se])), (ad 1, .inl (cI, 221, .inl z)), (ad 2, .inl (cI, 221, .inl zs)), (ad 3, .inl (cI, 1768, .inl sd)), (ad 4, .inl (cI, 80, .inl tx)), (ad 5, .inl (cI, 8, .inl ds)), (ad 6, .inl (cI, 8, .inl rg))]) H := hP
          have hD : va_D A ([(ad 0, .inr (5, [.int th, .ref (ad 1), .ref (ad 2), .ref (ad 3), .int sv, .ref (ad 4), .int ln, .int (nI 0), .ref (ad 5), .ref (ad 6), .int rl, .int cm, .int fi, .int se])), (ad 1, .inl (cI, 221, .inl z)), (ad 2, .inl (cI, 221, .inl zs)), (ad 3, .inl (cI, 1768, .inl sd)), (ad 4, .inl (cI, 80, .inl tx)), (ad 5, .inl (cI, 8, .inl ds)), (ad 6, .inl (cI, 8, .inl rg))]) := hD
          have hq8 := JJ_len hJ (show r < 10 by omega)
          refine tpe (y := nI (qlen Q0 r)) (RZ_n hZ (by omega)) ?_
          refine lv_istore (lv' := [(5, .int (nI (qlen Q0 r))), (4, .int (lk F t r)), (0, .ref (ad 0)), (1, .int (nI t)), (2, .int (nI r)), (3, .int mo)]) hx hb dX5_doRequest_71 hl (by decide) rfl (fun ls hl => ?_)
          refine lv_iload hx hb dX5_doRequest_73 (lv_at hl 1 rfl) ?_
          refine lv_iconst (v := (nI 1)) hx hb dX5_doRequest_75 (by decide) ?_
          refine lv_icmp_ne (tgt := 113) hx hb dX5_doRequest_76 (by decide) (fun h_8 => ?_) (fun h_8 => absurd h_8 h_2)
          have h_8 := h_8
          have hin : qlen Q0 r = insN F Q0 t r := ins_2 h_2
          refine lv_aload_n hx hb dX5_doRequest_113 rfl (lv_at hl 2 rfl) ?_
          refine lv_iload_n hx hb dX5_doRequest_114 rfl (lv_at hl 3 rfl) ?_
          refine lv_iload_n hx hb dX5_doRequest_115 rfl (lv_at hl 4 rfl) ?_
          refine lv_iload_n hx hb dX5_doRequest_116 rfl (lv_at hl 5 rfl) ?_
          refine lv_iload hx hb dX5_doRequest_117 (lv_at hl 0 rfl) ?_
          refine call_v (X := []) (Z := []) (As := [.int (nI t), .int (nI r), .int mo, .int (nI (qlen Q0 r))]) (rest := []) ⟨hx, hb, hml, hown, hts⟩ (c_X5_enqueue l D cI cT ad th sv ln (nI 0) rl cm fi se z zs sd tx ds rg F Q0 t r mo (qlen Q0 r) (by omega) (by omega) h0 (by omega) h8 hZ hJ) (cwV 4 hts gX5_doRequest_X5_enqueue rfl rfl rfl (by decide +kernel) ⟨Nat.le_of_ble_eq_true rfl, Nat.le_of_ble_eq_true rfl⟩) hK hP hD hS hA (va_recv hK hP (ci := 5) (q0 := 0) rfl rfl) (fun _ => adr_ref.trans adr_ref.symm) rfl hl.1 rfl (Nat.le_of_ble_eq_true rfl) ⟨by decide, by decide⟩ dX5_doRequest_119 (fun z21 H locs hp hP hD hS => ?_)
          have hZ21 := hp
          have hP : va_P D vwCl ([(ad 0, .inr (5, [.int th, .ref (ad 1), .ref (ad 2), .ref (ad 3), .int sv, .ref (ad 4), .int ln, .int (nI 0), .ref (ad 5), .ref (ad 6), .int rl, .int cm, .int fi, .int se])), (ad 1, .inl (cI, 221, .inl z21)), (ad 2, .inl (cI, 221, .inl zs)), (ad 3, .inl (cI, 1768, .inl sd)), (ad 4, .inl (cI, 80, .inl tx)), (ad 5, .inl (cI, 8, .inl ds)), (ad 6, .inl (cI, 8, .inl rg))]) H := hP
          have hD : va_D A ([(ad 0, .inr (5, [.int th, .ref (ad 1), .ref (ad 2), .ref (ad 3), .int sv, .ref (ad 4), .int ln, .int (nI 0), .ref (ad 5), .ref (ad 6), .int rl, .int cm, .int fi, .int se])), (ad 1, .inl (cI, 221, .inl z21)), (ad 2, .inl (cI, 221, .inl zs)), (ad 3, .inl (cI, 1768, .inl sd)), (ad 4, .inl (cI, 80, .inl tx)), (ad 5, .inl (cI, 8, .inl ds)), (ad 6, .inl (cI, 8, .inl rg))]) := hD
          have hpw := pl_wait es eg
          have hZp : RZ (plF F Q0 t r mo) (plQ F Q0 t r mo) z21 := by rw [hpw.1, hpw.2.1, ← hin]; exact hZ21
          have hJp := JJ_pl hJ ht hr h3 h0 hm
          have hBp : JB (plF F Q0 t r mo) := by rw [hpw.1]; exact hB
          have hout := ask_out hJ ht hr h3 h0 hm es eg
          have hay := ask_y hpw.2.2
          refine lv_aload_n hx hb dX5_doRequest_122 rfl (lv_at hl 2 rfl) ?_
          refine lv_iload_n hx hb dX5_doRequest_123 rfl (lv_at hl 3 rfl) ?_
          refine call_v (X := []) (Z := []) (As := [.int (nI t)]) (rest := []) ⟨hx, hb, hml, hown, hts⟩ (c_X5_breakRings l D cI cT ad th sv ln (nI 0) rl cm fi se z21 zs sd tx ds rg (plF F Q0 t r mo) (plQ F Q0 t r mo) t (by omega) hBp hZp hJp) (cwV 1 hts gX5_doRequest_X5_breakRings rfl rfl rfl (by decide +kernel) ⟨Nat.le_of_ble_eq_true rfl, Nat.le_of_ble_eq_true rfl⟩) hK hP hD hS hA (va_recv hK hP (ci := 5) (q0 := 0) rfl rfl) (fun _ => adr_ref.trans adr_ref.symm) rfl hl.1 rfl (Nat.le_of_ble_eq_true rfl) ⟨by decide, by decide⟩ dX5_doRequest_124 (fun u22 H locs hp hP hD hS => ?_)
          have hZ22 := hp
          have hJ22 := JJ_br (s := t) 8 (V := 0) hJp
          have hP : va_P D vwCl ([(ad 0, .inr (5, [.int th, .ref (ad 1), .ref (ad 2), .ref (ad 3), .int sv, .ref (ad 4), .int ln, .int (nI (brV (plF F Q0 t r mo) (plQ F Q0 t r mo) t)), .ref (ad 5), .ref (ad 6), .int u22.2.2.2, .int cm, .int fi, .int se])), (ad 1, .inl (cI, 221, .inl u22.1)), (ad 2, .inl (cI, 221, .inl zs)), (ad 3, .inl (cI, 1768, .inl sd)), (ad 4, .inl (cI, 80, .inl tx)), (ad 5, .inl (cI, 8, .inl u22.2.1)), (ad 6, .inl (cI, 8, .inl u22.2.2.1))]) H := hP
          have hD : va_D A ([(ad 0, .inr (5, [.int th, .ref (ad 1), .ref (ad 2), .ref (ad 3), .int sv, .ref (ad 4), .int ln, .int (nI (brV (plF F Q0 t r mo) (plQ F Q0 t r mo) t)), .ref (ad 5), .ref (ad 6), .int u22.2.2.2, .int cm, .int fi, .int se])), (ad 1, .inl (cI, 221, .inl u22.1)), (ad 2, .inl (cI, 221, .inl zs)), (ad 3, .inl (cI, 1768, .inl sd)), (ad 4, .inl (cI, 80, .inl tx)), (ad 5, .inl (cI, 8, .inl u22.2.1)), (ad 6, .inl (cI, 8, .inl u22.2.2.1))]) := hD
          refine lv_aload_n hx hb dX5_doRequest_127 rfl (lv_at hl 2 rfl) ?_
          refine va_get (D := D) (ci := 5) (v := .int (nI (brV (plF F Q0 t r mo) (plQ F Q0 t r mo) t))) (C := RX5) (T := TX5) (N := 14) hx hb hts iX5 hown hK hP 0 rfl rfl 7 (by decide) f97 (fun _ h9 => h9) rfl dX5_doRequest_128 ?_
          refine lv_iload_n hx hb dX5_doRequest_131 rfl (lv_at hl 3 rfl) ?_
          refine lv_ishr hx hb dX5_doRequest_132 ?_
          refine lv_iconst (v := (nI 1)) hx hb dX5_doRequest_133 (by decide) ?_
          refine lv_iand hx hb dX5_doRequest_134 ?_
          refine tpe (y := nI (bitN (brV (plF F Q0 t r mo) (plQ F Q0 t r mo) t) t)) (tb_I (Nat.lt_of_lt_of_le brV_lt (by decide)) ht) ?_
          refine lv_iconst (v := (nI 1)) hx hb dX5_doRequest_135 (by decide) ?_
          refine lv_icmp_ne (tgt := 143) hx hb dX5_doRequest_136 (by decide) (fun h_9 => ?_) (fun h_9 => ?_)
          · have h_9 := mt (nI_eq (a := (bitN (brV (plF F Q0 t r mo) (plQ F Q0 t r mo) t) t)) (b := 1) (by first | omega | exact bits_lt31 _ | exact bitN_lt _ _ | exact bool_lt _ | exact and_lt31 _ _ _ _ | exact Nat.lt_of_le_of_lt (dst_lt _ _ _ (by omega) _) (by decide) | exact Nat.lt_of_le_of_lt (nrB_le _ _ _ (by omega)).2 (by decide) | decide) (by first | omega | exact bits_lt31 _ | exact bitN_lt _ _ | exact bool_lt _ | exact and_lt31 _ _ _ _ | exact Nat.lt_of_le_of_lt (dst_lt _ _ _ (by omega) _) (by decide) | exact Nat.lt_of_le_of_lt (nrB_le _ _ _ (by omega)).2 (by decide) | decide)).mpr h_9
            refine lv_aload_n hx hb dX5_doRequest_143 rfl (lv_at hl 2 rfl) ?_
            refine lv_iload_n hx hb dX5_doRequest_144 rfl (lv_at hl 3 rfl) ?_
            refine lv_iconst (v := (nI 0)) hx hb dX5_doRequest_145 (by decide) ?_
            refine call_i (X := []) (Z := []) (As := [.int (nI t), .int (nI 0)]) (rest := []) ⟨hx, hb, hml, hown, hts⟩ (c_X5_of l D cI cT ad th sv ln (nI (brV (plF F Q0 t r mo) (plQ F Q0 t r mo) t)) u22.2.2.2 cm fi se u22.1 zs sd tx u22.2.1 u22.2.2.1 t 0 (by omega)) (cwV 2 hts gX5_doRequest_X5_of rfl rfl rfl (by decide +kernel) ⟨Nat.le_of_ble_eq_true rfl, Nat.le_of_ble_eq_true rfl⟩) hK hP hD hS hA (va_recv hK hP (ci := 5) (q0 := 0) rfl rfl) (fun _ => rfl) rfl hl.1 rfl (Nat.le_of_ble_eq_true rfl) ⟨by decide, by decide⟩ dX5_doRequest_146 (fun rv _ H locs hp hP hD hS => ?_)
            obtain rfl := hp
            have hP : va_P D vwCl ([(ad 0, .inr (5, [.int th, .ref (ad 1), .ref (ad 2), .ref (ad 3), .int sv, .ref (ad 4), .int ln, .int (nI (brV (plF F Q0 t r mo) (plQ F Q0 t r mo) t)), .ref (ad 5), .ref (ad 6), .int u22.2.2.2, .int cm, .int fi, .int se])), (ad 1, .inl (cI, 221, .inl u22.1)), (ad 2, .inl (cI, 221, .inl zs)), (ad 3, .inl (cI, 1768, .inl sd)), (ad 4, .inl (cI, 80, .inl tx)), (ad 5, .inl (cI, 8, .inl u22.2.1)), (ad 6, .inl (cI, 8, .inl u22.2.2.1))]) H := hP
            have hD : va_D A ([(ad 0, .inr (5, [.int th, .ref (ad 1), .ref (ad 2), .ref (ad 3), .int sv, .ref (ad 4), .int ln, .int (nI (brV (plF F Q0 t r mo) (plQ F Q0 t r mo) t)), .ref (ad 5), .ref (ad 6), .int u22.2.2.2, .int cm, .int fi, .int se])), (ad 1, .inl (cI, 221, .inl u22.1)), (ad 2, .inl (cI, 221, .inl zs)), (ad 3, .inl (cI, 1768, .inl sd)), (ad 4, .inl (cI, 80, .inl tx)), (ad 5, .inl (cI, 8, .inl u22.2.1)), (ad 6, .inl (cI, 8, .inl u22.2.2.1))]) := hD
            refine tpe (y := stI (brF (plF F Q0 t r mo) (plQ F Q0 t r mo) t) t) (RZ_0 hZ22 (by omega)) ?_
            refine lv_iconst (v := (nI 2)) hx hb dX5_doRequest_149 (by decide) ?_
            refine lv_icmp_ne (tgt := 157) hx hb dX5_doRequest_150 (by decide) (fun h_10 => ?_) (fun h_10 => ?_)
            · have h_10 := h_10
              refine lv_iconst (v := (nI 1)) hx hb dX5_doRequest_157 (by decide) ?_
              exact ret_i (u := (u22.1, u22.2.1, u22.2.2.1, u22.2.2.2)) hQ hx hb hrt hlk hS dX5_doRequest_158 (by rw [hay.2.2]; exact hP) (by rw [hay.1, hay.2.1]; exact ⟨(hout.2.2 h_9 h_10).symm, hZ22⟩)
            · have h_10 := h_10
              refine lv_iconst (v := (nI 2)) hx hb dX5_doRequest_153 (by decide) ?_
              refine lv_goto (tgt := 158) hx hb dX5_doRequest_154 (by decide) ?_
              exact ret_i (u := (u22.1, u22.2.1, u22.2.2.1, u22.2.2.2)) hQ hx hb hrt hlk hS dX5_doRequest_158 (by rw [hay.2.2]; exact hP) (by rw [hay.1, hay.2.1]; exact ⟨(hout.2.1 h_9 h_10).symm, hZ22⟩)
          · have h_9 := (nI_eq (a := (bitN (brV (plF F Q0 t r mo) (plQ F Q0 t r mo) t) t)) (b := 1) (by first | omega | exact bits_lt31 _ | exact bitN_lt _ _ | exact bool_lt _ | exact and_lt31 _ _ _ _ | exact Nat.lt_of_le_of_lt (dst_lt _ _ _ (by omega) _) (by decide) | exact Nat.lt_of_le_of_lt (nrB_le _ _ _ (by omega)).2 (by decide) | decide) (by first | omega | exact bits_lt31 _ | exact bitN_lt _ _ | exact bool_lt _ | exact and_lt31 _ _ _ _ | exact Nat.lt_of_le_of_lt (dst_lt _ _ _ (by omega) _) (by decide) | exact Nat.lt_of_le_of_lt (nrB_le _ _ _ (by omega)).2 (by decide) | decide)).mp h_9
            refine lv_iconst (v := (nI 3)) hx hb dX5_doRequest_139 (by decide) ?_
            refine lv_goto (tgt := 158) hx hb dX5_doRequest_140 (by decide) ?_
            exact ret_i (u := (u22.1, u22.2.1, u22.2.2.1, u22.2.2.2)) hQ hx hb hrt hlk hS dX5_doRequest_158 (by rw [hay.2.2]; exact hP) (by rw [hay.1, hay.2.1]; exact ⟨(hout.1 h_9).symm, hZ22⟩)
        · have h_7 := mt (nI_eq (a := ((alN (fun u => !rivB F t r mo u) 8).toNat)) (b := 0) (by first | omega | exact bits_lt31 _ | exact bitN_lt _ _ | exact bool_lt _ | exact and_lt31 _ _ _ _ | exact Nat.lt_of_le_of_lt (dst_lt _ _ _ (by omega) _) (by decide) | exact Nat.lt_of_le_of_lt (nrB_le _ _ _ (by omega)).2 (by decide) | decide) (by first | omega | exact bits_lt31 _ | exact bitN_lt _ _ | exact bool_lt _ | exact and_lt31 _ _ _ _ | exact Nat.lt_of_le_of_lt (dst_lt _ _ _ (by omega) _) (by decide) | exact Nat.lt_of_le_of_lt (nrB_le _ _ _ (by omega)).2 (by decide) | decide)).mpr h_7
          have h_7 := tn_y h_7
          have eg : plG F Q0 t r mo = true := plG_2 h_3 h_7
          refine lv_aload_n hx hb dX5_doRequest_57 rfl (lv_at hl 1 rfl) ?_
          refine lv_iload_n hx hb dX5_doRequest_58 rfl (lv_at hl 2 rfl) ?_
          refine lv_iload_n hx hb dX5_doRequest_59 rfl (lv_at hl 3 rfl) ?_
          refine lv_iload_n hx hb dX5_doRequest_60 rfl (lv_at hl 4 rfl) ?_
          refine call_v (X := []) (Z := []) (As := [.int (nI t), .int (nI r), .int mo]) (rest := []) ⟨hx, hb, hml, hown, hts⟩ (c_X5_grant l D cI cT ad th sv ln (nI 0) rl cm fi se z zs sd tx ds rg t r mo (by omega) (by omega)) (cwV 3 hts gX5_doRequest_X5_grant rfl rfl rfl (by decide +kernel) ⟨Nat.le_of_ble_eq_true rfl, Nat.le_of_ble_eq_true rfl⟩) hK hP hD hS hA (va_recv hK hP (ci := 5) (q0 := 0) rfl rfl) (fun _ => adr_ref.trans adr_ref.symm) rfl hl.1 rfl (Nat.le_of_ble_eq_true rfl) ⟨by decide, by decide⟩ dX5_doRequest_61 (fun _ H locs hp hP hD hS => ?_)
          have hZ23 := RZ_gr (m := mo) hJ hZ (show t < 8 by omega) (show r < 10 by omega)
          have hP : va_P D vwCl ([(ad 0, .inr (5, [.int th, .ref (ad 1), .ref (ad 2), .ref (ad 3), .int sv, .ref (ad 4), .int ln, .int (nI 0), .ref (ad 5), .ref (ad 6), .int rl, .int cm, .int fi, .int se])), (ad 1, .inl (cI, 221, .inl (grZ z t r mo))), (ad 2, .inl (cI, 221, .inl zs)), (ad 3, .inl (cI, 1768, .inl sd)), (ad 4, .inl (cI, 80, .inl tx)), (ad 5, .inl (cI, 8, .inl ds)), (ad 6, .inl (cI, 8, .inl rg))]) H := hP
          have hD : va_D A ([(ad 0, .inr (5, [.int th, .ref (ad 1), .ref (ad 2), .ref (ad 3), .int sv, .ref (ad 4), .int ln, .int (nI 0), .ref (ad 5), .ref (ad 6), .int rl, .int cm, .int fi, .int se])), (ad 1, .inl (cI, 221, .inl (grZ z t r mo))), (ad 2, .inl (cI, 221, .inl zs)), (ad 3, .inl (cI, 1768, .inl sd)), (ad 4, .inl (cI, 80, .inl tx)), (ad 5, .inl (cI, 8, .inl ds)), (ad 6, .inl (cI, 8, .inl rg))]) := hD
          refine lv_iconst (v := (nI 1)) hx hb dX5_doRequest_64 (by decide) ?_
          have eS := pl_gr es eg
          have eA := ask_n eS.2.2
          exact ret_i (u := (grZ z t r mo, ds, rg, rl)) hQ hx hb hrt hlk hS dX5_doRequest_65 (by rw [eA.2.2]; exact hP) (by rw [eA.1, eA.2.1, eS.1, eS.2.1]; exact ⟨(out_gr hr).symm, hZ23⟩)
    · have h_2 := h_2
      refine lv_aload_n hx hb dX5_doRequest_27 rfl (lv_at hl 1 rfl) ?_
      refine lv_iload_n hx hb dX5_doRequest_28 rfl (lv_at hl 2 rfl) ?_
      refine lv_iload_n hx hb dX5_doRequest_29 rfl (lv_at hl 3 rfl) ?_
      refine call_i (X := []) (Z := []) (As := [.int (nI t), .int (nI r)]) (rest := []) ⟨hx, hb, hml, hown, hts⟩ (c_X5_isOnlyHolder l D cI cT ad th sv ln (nI 0) rl cm fi se z zs sd tx ds rg F Q0 t r (by omega) (by omega) hZ) (cwV 2 hts gX5_doRequest_X5_isOnlyHolder rfl rfl rfl (by decide +kernel) ⟨Nat.le_of_ble_eq_true rfl, Nat.le_of_ble_eq_true rfl⟩) hK hP hD hS hA (va_recv hK hP (ci := 5) (q0 := 0) rfl rfl) (fun _ => rfl) rfl hl.1 rfl (Nat.le_of_ble_eq_true rfl) ⟨by decide, by decide⟩ dX5_doRequest_30 (fun rv _ H locs hp hP hD hS => ?_)
      obtain rfl := hp
      have hP : va_P D vwCl ([(ad 0, .inr (5, [.int th, .ref (ad 1), .ref (ad 2), .ref (ad 3), .int sv, .ref (ad 4), .int ln, .int (nI 0), .ref (ad 5), .ref (ad 6), .int rl, .int cm, .int fi, .int se])), (ad 1, .inl (cI, 221, .inl z)), (ad 2, .inl (cI, 221, .inl zs)), (ad 3, .inl (cI, 1768, .inl sd)), (ad 4, .inl (cI, 80, .inl tx)), (ad 5, .inl (cI, 8, .inl ds)), (ad 6, .inl (cI, 8, .inl rg))]) H := hP
      have hD : va_D A ([(ad 0, .inr (5, [.int th, .ref (ad 1), .ref (ad 2), .ref (ad 3), .int sv, .ref (ad 4), .int ln, .int (nI 0), .ref (ad 5), .ref (ad 6), .int rl, .int cm, .int fi, .int se])), (ad 1, .inl (cI, 221, .inl z)), (ad 2, .inl (cI, 221, .inl zs)), (ad 3, .inl (cI, 1768, .inl sd)), (ad 4, .inl (cI, 80, .inl tx)), (ad 5, .inl (cI, 8, .inl ds)), (ad 6, .inl (cI, 8, .inl rg))]) := hD
      refine lv_if_eq (tgt := 66) hx hb dX5_doRequest_33 (by decide) (fun h_11 => ?_) (fun h_11 => ?_)
      · have h_11 := (nI_eq (a := ((alN (fun u => decide (u = t) || lk F u r == 0) 8).toNat)) (b := 0) (by first | omega | exact bits_lt31 _ | exact bitN_lt _ _ | exact bool_lt _ | exact and_lt31 _ _ _ _ | exact Nat.lt_of_le_of_lt (dst_lt _ _ _ (by omega) _) (by decide) | exact Nat.lt_of_le_of_lt (nrB_le _ _ _ (by omega)).2 (by decide) | decide) (by first | omega | exact bits_lt31 _ | exact bitN_lt _ _ | exact bool_lt _ | exact and_lt31 _ _ _ _ | exact Nat.lt_of_le_of_lt (dst_lt _ _ _ (by omega) _) (by decide) | exact Nat.lt_of_le_of_lt (nrB_le _ _ _ (by omega)).2 (by decide) | decide)).mp h_11
        have h_11 := tn_f h_11
        have eg : plG F Q0 t r mo = false := plG_1 (es2 h_2) h_2 h_11
        have h8 := JJ_room hJ ht h3 hr
        refine lv_aload_n hx hb dX5_doRequest_66 rfl (lv_at hl 1 rfl) ?_
        refine lv_iload_n hx hb dX5_doRequest_67 rfl (lv_at hl 3 rfl) ?_
        refine call_i (X := []) (Z := []) (As := [.int (nI r)]) (rest := []) ⟨hx, hb, hml, hown, hts⟩ (c_X5_queueOf l D cI cT ad th sv ln (nI 0) rl cm fi se z zs sd tx ds rg r (by omega)) (cwV 1 hts gX5_doRequest_X5_queueOf rfl rfl rfl (by decide +kernel) ⟨Nat.le_of_ble_eq_true rfl, Nat.le_of_ble_eq_true rfl⟩) hK hP hD hS hA (va_recv hK hP (ci := 5) (q0 := 0) rfl rfl) (fun _ => rfl) rfl hl.1 rfl (Nat.le_of_ble_eq_true rfl) ⟨by decide, by decide⟩ dX5_doRequest_68 (fun rv _ H locs hp hP hD hS => ?_)
        obtain rfl := hp
        have hP : va_P D vwCl ([(ad 0, .inr (5, [.int th, .ref (ad 1), .ref (ad 2), .ref (ad 3), .int sv, .ref (ad 4), .int ln, .int (nI 0), .ref (ad 5), .ref (ad 6), .int rl, .int cm, .int fi, .int se])), (ad 1, .inl (cI, 221, .inl z)), (ad 2, .inl (cI, 221, .inl zs)), (ad 3, .inl (cI, 1768, .inl sd)), (ad 4, .inl (cI, 80, .inl tx)), (ad 5, .inl (cI, 8, .inl ds)), (ad 6, .inl (cI, 8, .inl rg))]) H := hP
        have hD : va_D A ([(ad 0, .inr (5, [.int th, .ref (ad 1), .ref (ad 2), .ref (ad 3), .int sv, .ref (ad 4), .int ln, .int (nI 0), .ref (ad 5), .ref (ad 6), .int rl, .int cm, .int fi, .int se])), (ad 1, .inl (cI, 221, .inl z)), (ad 2, .inl (cI, 221, .inl zs)), (ad 3, .inl (cI, 1768, .inl sd)), (ad 4, .inl (cI, 80, .inl tx)), (ad 5, .inl (cI, 8, .inl ds)), (ad 6, .inl (cI, 8, .inl rg))]) := hD
        have hq8 := JJ_len hJ (show r < 10 by omega)
        refine tpe (y := nI (qlen Q0 r)) (RZ_n hZ (by omega)) ?_
        refine lv_istore (lv' := [(5, .int (nI (qlen Q0 r))), (4, .int (lk F t r)), (0, .ref (ad 0)), (1, .int (nI t)), (2, .int (nI r)), (3, .int mo)]) hx hb dX5_doRequest_71 hl (by decide) rfl (fun ls hl => ?_)
        refine lv_iload hx hb dX5_doRequest_73 (lv_at hl 1 rfl) ?_
        refine lv_iconst (v := (nI 1)) hx hb dX5_doRequest_75 (by decide) ?_
        refine lv_icmp_ne (tgt := 113) hx hb dX5_doRequest_76 (by decide) (fun h_12 => absurd h_2 h_12) (fun h_12 => ?_)
        have h_12 := h_12
        refine lv_iconst (v := (nI 0)) hx hb dX5_doRequest_79 (by decide) ?_
        refine lv_istore (lv' := [(5, .int (nI 0)), (4, .int (lk F t r)), (0, .ref (ad 0)), (1, .int (nI t)), (2, .int (nI r)), (3, .int mo)]) hx hb dX5_doRequest_80 hl (by decide) rfl (fun ls hl => ?_)
        have L82 : ∀ (N : Nat) (k : Nat), (k ≤ qlen Q0 r) → (∀ j, j < k → lk F ((Q0 r).getD j 0) r = nI 1) → (qlen Q0 r - k) < N → ∀ (H : Heap) (locs : List Loc), va_P D vwCl ([(ad 0, .inr (5, [.int th, .ref (ad 1), .ref (ad 2), .ref (ad 3), .int sv, .ref (ad 4), .int ln, .int (nI 0), .ref (ad 5), .ref (ad 6), .int rl, .int cm, .int fi, .int se])), (ad 1, .inl (cI, 221, .inl z)), (ad 2, .inl (cI, 221, .inl zs)), (ad 3, .inl (cI, 1768, .inl sd)), (ad 4, .inl (cI, 80, .inl tx)), (ad 5, .inl (cI, 8, .inl ds)), (ad 6, .inl (cI, 8, .inl rg))]) H → va_D A ([(ad 0, .inr (5, [.int th, .ref (ad 1), .ref (ad 2), .ref (ad 3), .int sv, .ref (ad 4), .int ln, .int (nI 0), .ref (ad 5), .ref (ad 6), .int rl, .int cm, .int fi, .int se])), (ad 1, .inl (cI, 221, .inl z)), (ad 2, .inl (cI, 221, .inl zs)), (ad 3, .inl (cI, 1768, .inl sd)), (ad 4, .inl (cI, 80, .inl tx)), (ad 5, .inl (cI, 8, .inl ds)), (ad 6, .inl (cI, 8, .inl rg))]) → va_S A s.heap H locs → ∀ ls : Array Slot, lv_has ls 6 [(0, .ref (ad 0)), (1, .int (nI t)), (2, .int (nI r)), (3, .int mo), (4, .int (lk F t r)), (5, .int (nI k))] → W p l e rX5_doRequest s m args below meth c H locs 0 0 Q (F0 m 82 ls []) := by
          intro N82
          induction N82 with
          | zero => intro k hk hb4 hN; exact absurd hN (Nat.not_lt_zero _)
          | succ N82 ih82 =>
            intro k hk hb4 hN H locs hP hD hS ls hl
            refine lv_iload hx hb dX5_doRequest_82 (lv_at hl 5 rfl) ?_
            refine lv_aload_n hx hb dX5_doRequest_84 rfl (lv_at hl 0 rfl) ?_
            refine lv_iload_n hx hb dX5_doRequest_85 rfl (lv_at hl 2 rfl) ?_
            refine call_i (X := []) (Z := []) (As := [.int (nI r)]) (rest := [.int (nI k)]) ⟨hx, hb, hml, hown, hts⟩ (c_X5_queueOf l D cI cT ad th sv ln (nI 0) rl cm fi se z zs sd tx ds rg r (by omega)) (cwV 1 hts gX5_doRequest_X5_queueOf rfl rfl rfl (by decide +kernel) ⟨Nat.le_of_ble_eq_true rfl, Nat.le_of_ble_eq_true rfl⟩) hK hP hD hS hA (va_recv hK hP (ci := 5) (q0 := 0) rfl rfl) (fun _ => rfl) rfl hl.1 rfl (Nat.le_of_ble_eq_true rfl) ⟨by decide, by decide⟩ dX5_doRequest_86 (fun rv _ H locs hp hP hD hS => ?_)
            obtain rfl := hp
            have hP : va_P D vwCl ([(ad 0, .inr (5, [.int th, .ref (ad 1), .ref (ad 2), .ref (ad 3), .int sv, .ref (ad 4), .int ln, .int (nI 0), .ref (ad 5), .ref (ad 6), .int rl, .int cm, .int fi, .int se])), (ad 1, .inl (cI, 221, .inl z)), (ad 2, .inl (cI, 221, .inl zs)), (ad 3, .inl (cI, 1768, .inl sd)), (ad 4, .inl (cI, 80, .inl tx)), (ad 5, .inl (cI, 8, .inl ds)), (ad 6, .inl (cI, 8, .inl rg))]) H := hP
            have hD : va_D A ([(ad 0, .inr (5, [.int th, .ref (ad 1), .ref (ad 2), .ref (ad 3), .int sv, .ref (ad 4), .int ln, .int (nI 0), .ref (ad 5), .ref (ad 6), .int rl, .int cm, .int fi, .int se])), (ad 1, .inl (cI, 221, .inl z)), (ad 2, .inl (cI, 221, .inl zs)), (ad 3, .inl (cI, 1768, .inl sd)), (ad 4, .inl (cI, 80, .inl tx)), (ad 5, .inl (cI, 8, .inl ds)), (ad 6, .inl (cI, 8, .inl rg))]) := hD
            have hq8 := JJ_len hJ (show r < 10 by omega)
            refine tpe (y := nI (qlen Q0 r)) (RZ_n hZ (by omega)) ?_
            refine lv_icmp_ge (tgt := 113) hx hb dX5_doRequest_89 (by decide) (fun h_13 => ?_) (fun h_13 => ?_)
            · have h_13 := (nI_leI (a := (qlen Q0 r)) (b := k) (by first | omega | exact bits_lt31 _ | exact bitN_lt _ _ | exact bool_lt _ | exact and_lt31 _ _ _ _ | exact Nat.lt_of_le_of_lt (dst_lt _ _ _ (by omega) _) (by decide) | exact Nat.lt_of_le_of_lt (nrB_le _ _ _ (by omega)).2 (by decide) | decide) (by first | omega | exact bits_lt31 _ | exact bitN_lt _ _ | exact bool_lt _ | exact and_lt31 _ _ _ _ | exact Nat.lt_of_le_of_lt (dst_lt _ _ _ (by omega) _) (by decide) | exact Nat.lt_of_le_of_lt (nrB_le _ _ _ (by omega)).2 (by decide) | decide)).mp h_13
              have hin : k = insN F Q0 t r := ins_1 hJ hr h_2 hk hb4 (Or.inl (by omega))
              refine lv_aload_n hx hb dX5_doRequest_113 rfl (lv_at hl 0 rfl) ?_
              refine lv_iload_n hx hb dX5_doRequest_114 rfl (lv_at hl 1 rfl) ?_
              refine lv_iload_n hx hb dX5_doRequest_115 rfl (lv_at hl 2 rfl) ?_
              refine lv_iload_n hx hb dX5_doRequest_116 rfl (lv_at hl 3 rfl) ?_
              refine lv_iload hx hb dX5_doRequest_117 (lv_at hl 5 rfl) ?_
              refine call_v (X := []) (Z := []) (As := [.int (nI t), .int (nI r), .int mo, .int (nI k)]) (rest := []) ⟨hx, hb, hml, hown, hts⟩ (c_X5_enqueue l D cI cT ad th sv ln (nI 0) rl cm fi se z zs sd tx ds rg F Q0 t r mo k (by omega) (by omega) h0 (by omega) h8 hZ hJ) (cwV 4 hts gX5_doRequest_X5_enqueue rfl rfl rfl (by decide +kernel) ⟨Nat.le_of_ble_eq_true rfl, Nat.le_of_ble_eq_true rfl⟩) hK hP hD hS hA (va_recv hK hP (ci := 5) (q0 := 0) rfl rfl) (fun _ => adr_ref.trans adr_ref.symm) rfl hl.1 rfl (Nat.le_of_ble_eq_true rfl) ⟨by decide, by decide⟩ dX5_doRequest_119 (fun z24 H locs hp hP hD hS => ?_)
              have hZ24 := hp
              have hP : va_P D vwCl ([(ad 0, .inr (5, [.int th, .ref (ad 1), .ref (ad 2), .ref (ad 3), .int sv, .ref (ad 4), .int ln, .int (nI 0), .ref (ad 5), .ref (ad 6), .int rl, .int cm, .int fi, .int se])), (ad 1, .inl (cI, 221, .inl z24)), (ad 2, .inl (cI, 221, .inl zs)), (ad 3, .inl (cI, 1768, .inl sd)), (ad 4, .inl (cI, 80, .inl tx)), (ad 5, .inl (cI, 8, .inl ds)), (ad 6, .inl (cI, 8, .inl rg))]) H := hP
              have hD : va_D A ([(ad 0, .inr (5, [.int th, .ref (ad 1), .ref (ad 2), .ref (ad 3), .int sv, .ref (ad 4), .int ln, .int (nI 0), .ref (ad 5), .ref (ad 6), .int rl, .int cm, .int fi, .int se])), (ad 1, .inl (cI, 221, .inl z24)), (ad 2, .inl (cI, 221, .inl zs)), (ad 3, .inl (cI, 1768, .inl sd)), (ad 4, .inl (cI, 80, .inl tx)), (ad 5, .inl (cI, 8, .inl ds)), (ad 6, .inl (cI, 8, .inl rg))]) := hD
              have hpw := pl_wait es eg
              have hZp : RZ (plF F Q0 t r mo) (plQ F Q0 t r mo) z24 := by rw [hpw.1, hpw.2.1, ← hin]; exact hZ24
              have hJp := JJ_pl hJ ht hr h3 h0 hm
              have hBp : JB (plF F Q0 t r mo) := by rw [hpw.1]; exact hB
              have hout := ask_out hJ ht hr h3 h0 hm es eg
              have hay := ask_y hpw.2.2
              refine lv_aload_n hx hb dX5_doRequest_122 rfl (lv_at hl 0 rfl) ?_
              refine lv_iload_n hx hb dX5_doRequest_123 rfl (lv_at hl 1 rfl) ?_
              refine call_v (X := []) (Z := []) (As := [.int (nI t)]) (rest := []) ⟨hx, hb, hml, hown, hts⟩ (c_X5_breakRings l D cI cT ad th sv ln (nI 0) rl cm fi se z24 zs sd tx ds rg (plF F Q0 t r mo) (plQ F Q0 t r mo) t (by omega) hBp hZp hJp) (cwV 1 hts gX5_doRequest_X5_breakRings rfl rfl rfl (by decide +kernel) ⟨Nat.le_of_ble_eq_true rfl, Nat.le_of_ble_eq_true rfl⟩) hK hP hD hS hA (va_recv hK hP (ci := 5) (q0 := 0) rfl rfl) (fun _ => adr_ref.trans adr_ref.symm) rfl hl.1 rfl (Nat.le_of_ble_eq_true rfl) ⟨by decide, by decide⟩ dX5_doRequest_124 (fun u25 H locs hp hP hD hS => ?_)
              have hZ25 := hp
              have hJ25 := JJ_br (s := t) 8 (V := 0) hJp
              have hP : va_P D vwCl ([(ad 0, .inr (5, [.int th, .ref (ad 1), .ref (ad 2), .ref (ad 3), .int sv, .ref (ad 4), .int ln, .int (nI (brV (plF F Q0 t r mo) (plQ F Q0 t r mo) t)), .ref (ad 5), .ref (ad 6), .int u25.2.2.2, .int cm, .int fi, .int se])), (ad 1, .inl (cI, 221, .inl u25.1)), (ad 2, .inl (cI, 221, .inl zs)), (ad 3, .inl (cI, 1768, .inl sd)), (ad 4, .inl (cI, 80, .inl tx)), (ad 5, .inl (cI, 8, .inl u25.2.1)), (ad 6, .inl (cI, 8, .inl u25.2.2.1))]) H := hP
              have hD : va_D A ([(ad 0, .inr (5, [.int th, .ref (ad 1), .ref (ad 2), .ref (ad 3), .int sv, .ref (ad 4), .int ln, .int (nI (brV (plF F Q0 t r mo) (plQ F Q0 t r mo) t)), .ref (ad 5), .ref (ad 6), .int u25.2.2.2, .int cm, .int fi, .int se])), (ad 1, .inl (cI, 221, .inl u25.1)), (ad 2, .inl (cI, 221, .inl zs)), (ad 3, .inl (cI, 1768, .inl sd)), (ad 4, .inl (cI, 80, .inl tx)), (ad 5, .inl (cI, 8, .inl u25.2.1)), (ad 6, .inl (cI, 8, .inl u25.2.2.1))]) := hD
              refine lv_aload_n hx hb dX5_doRequest_127 rfl (lv_at hl 0 rfl) ?_
              refine va_get (D := D) (ci := 5) (v := .int (nI (brV (plF F Q0 t r mo) (plQ F Q0 t r mo) t))) (C := RX5) (T := TX5) (N := 14) hx hb hts iX5 hown hK hP 0 rfl rfl 7 (by decide) f97 (fun _ h9 => h9) rfl dX5_doRequest_128 ?_
              refine lv_iload_n hx hb dX5_doRequest_131 rfl (lv_at hl 1 rfl) ?_
              refine lv_ishr hx hb dX5_doRequest_132 ?_
              refine lv_iconst (v := (nI 1)) hx hb dX5_doRequest_133 (by decide) ?_
              refine lv_iand hx hb dX5_doRequest_134 ?_
              refine tpe (y := nI (bitN (brV (plF F Q0 t r mo) (plQ F Q0 t r mo) t) t)) (tb_I (Nat.lt_of_lt_of_le brV_lt (by decide)) ht) ?_
              refine lv_iconst (v := (nI 1)) hx hb dX5_doRequest_135 (by decide) ?_
              refine lv_icmp_ne (tgt := 143) hx hb dX5_doRequest_136 (by decide) (fun h_14 => ?_) (fun h_14 => ?_)
              · have h_14 := mt (nI_eq (a := (bitN (brV (plF F Q0 t r mo) (plQ F Q0 t r mo) t) t)) (b := 1) (by first | omega | exact bits_lt31 _ | exact bitN_lt _ _ | exact bool_lt _ | exact and_lt31 _ _ _ _ | exact Nat.lt_of_le_of_lt (dst_lt _ _ _ (by omega) _) (by decide) | exact Nat.lt_of_le_of_lt (nrB_le _ _ _ (by omega)).2 (by decide) | decide) (by first | omega | exact bits_lt31 _ | exact bitN_lt _ _ | exact bool_lt _ | exact and_lt31 _ _ _ _ | exact Nat.lt_of_le_of_lt (dst_lt _ _ _ (by omega) _) (by decide) | exact Nat.lt_of_le_of_lt (nrB_le _ _ _ (by omega)).2 (by decide) | decide)).mpr h_14
                refine lv_aload_n hx hb dX5_doRequest_143 rfl (lv_at hl 0 rfl) ?_
                refine lv_iload_n hx hb dX5_doRequest_144 rfl (lv_at hl 1 rfl) ?_
                refine lv_iconst (v := (nI 0)) hx hb dX5_doRequest_145 (by decide) ?_
                refine call_i (X := []) (Z := []) (As := [.int (nI t), .int (nI 0)]) (rest := []) ⟨hx, hb, hml, hown, hts⟩ (c_X5_of l D cI cT ad th sv ln (nI (brV (plF F Q0 t r mo) (plQ F Q0 t r mo) t)) u25.2.2.2 cm fi se u25.1 zs sd tx u25.2.1 u25.2.2.1 t 0 (by omega)) (cwV 2 hts gX5_doRequest_X5_of rfl rfl rfl (by decide +kernel) ⟨Nat.le_of_ble_eq_true rfl, Nat.le_of_ble_eq_true rfl⟩) hK hP hD hS hA (va_recv hK hP (ci := 5) (q0 := 0) rfl rfl) (fun _ => rfl) rfl hl.1 rfl (Nat.le_of_ble_eq_true rfl) ⟨by decide, by decide⟩ dX5_doRequest_146 (fun rv _ H locs hp hP hD hS => ?_)
                obtain rfl := hp
                have hP : va_P D vwCl ([(ad 0, .inr (5, [.int th, .ref (ad 1), .ref (ad 2), .ref (ad 3), .int sv, .ref (ad 4), .int ln, .int (nI (brV (plF F Q0 t r mo) (plQ F Q0 t r mo) t)), .ref (ad 5), .ref (ad 6), .int u25.2.2.2, .int cm, .int fi, .int se])), (ad 1, .inl (cI, 221, .inl u25.1)), (ad 2, .inl (cI, 221, .inl zs)), (ad 3, .inl (cI, 1768, .inl sd)), (ad 4, .inl (cI, 80, .inl tx)), (ad 5, .inl (cI, 8, .inl u25.2.1)), (ad 6, .inl (cI, 8, .inl u25.2.2.1))]) H := hP
                have hD : va_D A ([(ad 0, .inr (5, [.int th, .ref (ad 1), .ref (ad 2), .ref (ad 3), .int sv, .ref (ad 4), .int ln, .int (nI (brV (plF F Q0 t r mo) (plQ F Q0 t r mo) t)), .ref (ad 5), .ref (ad 6), .int u25.2.2.2, .int cm, .int fi, .int se])), (ad 1, .inl (cI, 221, .inl u25.1)), (ad 2, .inl (cI, 221, .inl zs)), (ad 3, .inl (cI, 1768, .inl sd)), (ad 4, .inl (cI, 80, .inl tx)), (ad 5, .inl (cI, 8, .inl u25.2.1)), (ad 6, .inl (cI, 8, .inl u25.2.2.1))]) := hD
                refine tpe (y := stI (brF (plF F Q0 t r mo) (plQ F Q0 t r mo) t) t) (RZ_0 hZ25 (by omega)) ?_
                refine lv_iconst (v := (nI 2)) hx hb dX5_doRequest_149 (by decide) ?_
                refine lv_icmp_ne (tgt := 157) hx hb dX5_doRequest_150 (by decide) (fun h_15 => ?_) (fun h_15 => ?_)
                · have h_15 := h_15
                  refine lv_iconst (v := (nI 1)) hx hb dX5_doRequest_157 (by decide) ?_
                  exact ret_i (u := (u25.1, u25.2.1, u25.2.2.1, u25.2.2.2)) hQ hx hb hrt hlk hS dX5_doRequest_158 (by rw [hay.2.2]; exact hP) (by rw [hay.1, hay.2.1]; exact ⟨(hout.2.2 h_14 h_15).symm, hZ25⟩)
                · have h_15 := h_15
                  refine lv_iconst (v := (nI 2)) hx hb dX5_doRequest_153 (by decide) ?_
                  refine lv_goto (tgt := 158) hx hb dX5_doRequest_154 (by decide) ?_
                  exact ret_i (u := (u25.1, u25.2.1, u25.2.2.1, u25.2.2.2)) hQ hx hb hrt hlk hS dX5_doRequest_158 (by rw [hay.2.2]; exact hP) (by rw [hay.1, hay.2.1]; exact ⟨(hout.2.1 h_14 h_15).symm, hZ25⟩)
              · have h_14 := (nI_eq (a := (bitN (brV (plF F Q0 t r mo) (plQ F Q0 t r mo) t) t)) (b := 1) (by first | omega | exact bits_lt31 _ | exact bitN_lt _ _ | exact bool_lt _ | exact and_lt31 _ _ _ _ | exact Nat.lt_of_le_of_lt (dst_lt _ _ _ (by omega) _) (by decide) | exact Nat.lt_of_le_of_lt (nrB_le _ _ _ (by omega)).2 (by decide) | decide) (by first | omega | exact bits_lt31 _ | exact bitN_lt _ _ | exact bool_lt _ | exact and_lt31 _ _ _ _ | exact Nat.lt_of_le_of_lt (dst_lt _ _ _ (by omega) _) (by decide) | exact Nat.lt_of_le_of_lt (nrB_le _ _ _ (by omega)).2 (by decide) | decide)).mp h_14
                refine lv_iconst (v := (nI 3)) hx hb dX5_doRequest_139 (by decide) ?_
                refine lv_goto (tgt := 158) hx hb dX5_doRequest_140 (by decide) ?_
                exact ret_i (u := (u25.1, u25.2.1, u25.2.2.1, u25.2.2.2)) hQ hx hb hrt hlk hS dX5_doRequest_158 (by rw [hay.2.2]; exact hP) (by rw [hay.1, hay.2.1]; exact ⟨(hout.1 h_14).symm, hZ25⟩)
            · have h_13 := mt (nI_leI (a := (qlen Q0 r)) (b := k) (by first | omega | exact bits_lt31 _ | exact bitN_lt _ _ | exact bool_lt _ | exact and_lt31 _ _ _ _ | exact Nat.lt_of_le_of_lt (dst_lt _ _ _ (by omega) _) (by decide) | exact Nat.lt_of_le_of_lt (nrB_le _ _ _ (by omega)).2 (by decide) | decide) (by first | omega | exact bits_lt31 _ | exact bitN_lt _ _ | exact bool_lt _ | exact and_lt31 _ _ _ _ | exact Nat.lt_of_le_of_lt (dst_lt _ _ _ (by omega) _) (by decide) | exact Nat.lt_of_le_of_lt (nrB_le _ _ _ (by omega)).2 (by decide) | decide)).mpr h_13
              refine lv_aload_n hx hb dX5_doRequest_92 rfl (lv_at hl 0 rfl) ?_
              refine lv_aload_n hx hb dX5_doRequest_93 rfl (lv_at hl 0 rfl) ?_
              refine lv_iload_n hx hb dX5_doRequest_94 rfl (lv_at hl 2 rfl) ?_
              refine lv_iload hx hb dX5_doRequest_95 (lv_at hl 5 rfl) ?_
              refine call_i (X := []) (Z := []) (As := [.int (nI r), .int (nI k)]) (rest := [.ref (ad 0)]) ⟨hx, hb, hml, hown, hts⟩ (c_X5_queuedAt l D cI cT ad th sv ln (nI 0) rl cm fi se z zs sd tx ds rg r k (by omega)) (cwV 2 hts gX5_doRequest_X5_queuedAt rfl rfl rfl (by decide +kernel) ⟨Nat.le_of_ble_eq_true rfl, Nat.le_of_ble_eq_true rfl⟩) hK hP hD hS hA (va_recv hK hP (ci := 5) (q0 := 0) rfl rfl) (fun _ => rfl) rfl hl.1 rfl (Nat.le_of_ble_eq_true rfl) ⟨by decide, by decide⟩ dX5_doRequest_97 (fun rv _ H locs hp hP hD hS => ?_)
              obtain rfl := hp
              have hP : va_P D vwCl ([(ad 0, .inr (5, [.int th, .ref (ad 1), .ref (ad 2), .ref (ad 3), .int sv, .ref (ad 4), .int ln, .int (nI 0), .ref (ad 5), .ref (ad 6), .int rl, .int cm, .int fi, .int se])), (ad 1, .inl (cI, 221, .inl z)), (ad 2, .inl (cI, 221, .inl zs)), (ad 3, .inl (cI, 1768, .inl sd)), (ad 4, .inl (cI, 80, .inl tx)), (ad 5, .inl (cI, 8, .inl ds)), (ad 6, .inl (cI, 8, .inl rg))]) H := hP
              have hD : va_D A ([(ad 0, .inr (5, [.int th, .ref (ad 1), .ref (ad 2), .ref (ad 3), .int sv, .ref (ad 4), .int ln, .int (nI 0), .ref (ad 5), .ref (ad 6), .int rl, .int cm, .int fi, .int se])), (ad 1, .inl (cI, 221, .inl z)), (ad 2, .inl (cI, 221, .inl zs)), (ad 3, .inl (cI, 1768, .inl sd)), (ad 4, .inl (cI, 80, .inl tx)), (ad 5, .inl (cI, 8, .inl ds)), (ad 6, .inl (cI, 8, .inl rg))]) := hD
              obtain ⟨o9, ho9⟩ : ∃ z, z = (Q0 r).getD k 0 := ⟨_, rfl⟩
              have hoq := JJ_at hJ (i := k) (show r < 10 by omega) (by omega)
              rw [← ho9] at hoq
              have ho8 : o9 < 8 := (hJ.2.1 r (by omega) _ hoq).1
              have ho3 := (hJ.2.1 r (by omega) _ hoq).2
              refine tpe (y := nI o9) (by rw [ho9]; exact RZ_q hZ (by omega) (by omega)) ?_
              refine lv_iload_n hx hb dX5_doRequest_100 rfl (lv_at hl 2 rfl) ?_
              refine call_i (X := []) (Z := []) (As := [.int (nI o9), .int (nI r)]) (rest := []) ⟨hx, hb, hml, hown, hts⟩ (c_X5_isUpgrade l D cI cT ad th sv ln (nI 0) rl cm fi se z zs sd tx ds rg F Q0 o9 r (by omega) (by omega) hZ) (cwV 2 hts gX5_doRequest_X5_isUpgrade rfl rfl rfl (by decide +kernel) ⟨Nat.le_of_ble_eq_true rfl, Nat.le_of_ble_eq_true rfl⟩) hK hP hD hS hA (va_recv hK hP (ci := 5) (q0 := 0) rfl rfl) (fun _ => rfl) rfl hl.1 rfl (Nat.le_of_ble_eq_true rfl) ⟨by decide, by decide⟩ dX5_doRequest_101 (fun rv _ H locs hp hP hD hS => ?_)
              obtain rfl := hp
              have hP : va_P D vwCl ([(ad 0, .inr (5, [.int th, .ref (ad 1), .ref (ad 2), .ref (ad 3), .int sv, .ref (ad 4), .int ln, .int (nI 0), .ref (ad 5), .ref (ad 6), .int rl, .int cm, .int fi, .int se])), (ad 1, .inl (cI, 221, .inl z)), (ad 2, .inl (cI, 221, .inl zs)), (ad 3, .inl (cI, 1768, .inl sd)), (ad 4, .inl (cI, 80, .inl tx)), (ad 5, .inl (cI, 8, .inl ds)), (ad 6, .inl (cI, 8, .inl rg))]) H := hP
              have hD : va_D A ([(ad 0, .inr (5, [.int th, .ref (ad 1), .ref (ad 2), .ref (ad 3), .int sv, .ref (ad 4), .int ln, .int (nI 0), .ref (ad 5), .ref (ad 6), .int rl, .int cm, .int fi, .int se])), (ad 1, .inl (cI, 221, .inl z)), (ad 2, .inl (cI, 221, .inl zs)), (ad 3, .inl (cI, 1768, .inl sd)), (ad 4, .inl (cI, 80, .inl tx)), (ad 5, .inl (cI, 8, .inl ds)), (ad 6, .inl (cI, 8, .inl rg))]) := hD
              refine lv_if_eq (tgt := 113) hx hb dX5_doRequest_104 (by decide) (fun h_16 => ?_) (fun h_16 => ?_)
              · have h_16 := (nI_eq (a := ((lk F o9 r == nI 1).toNat)) (b := 0) (by first | omega | exact bits_lt31 _ | exact bitN_lt _ _ | exact bool_lt _ | exact and_lt31 _ _ _ _ | exact Nat.lt_of_le_of_lt (dst_lt _ _ _ (by omega) _) (by decide) | exact Nat.lt_of_le_of_lt (nrB_le _ _ _ (by omega)).2 (by decide) | decide) (by first | omega | exact bits_lt31 _ | exact bitN_lt _ _ | exact bool_lt _ | exact and_lt31 _ _ _ _ | exact Nat.lt_of_le_of_lt (dst_lt _ _ _ (by omega) _) (by decide) | exact Nat.lt_of_le_of_lt (nrB_le _ _ _ (by omega)).2 (by decide) | decide)).mp h_16
                have h_16 := tn_f h_16
                have hin : k = insN F Q0 t r := ins_1 hJ hr h_2 hk hb4 (Or.inr (by rw [← ho9]; exact nq_f h_16))
                refine lv_aload_n hx hb dX5_doRequest_113 rfl (lv_at hl 0 rfl) ?_
                refine lv_iload_n hx hb dX5_doRequest_114 rfl (lv_at hl 1 rfl) ?_
                refine lv_iload_n hx hb dX5_doRequest_115 rfl (lv_at hl 2 rfl) ?_
                refine lv_iload_n hx hb dX5_doRequest_116 rfl (lv_at hl 3 rfl) ?_
                refine lv_iload hx hb dX5_doRequest_117 (lv_at hl 5 rfl) ?_
                refine call_v (X := []) (Z := []) (As := [.int (nI t), .int (nI r), .int mo, .int (nI k)]) (rest := []) ⟨hx, hb, hml, hown, hts⟩ (c_X5_enqueue l D cI cT ad th sv ln (nI 0) rl cm fi se z zs sd tx ds rg F Q0 t r mo k (by omega) (by omega) h0 (by omega) h8 hZ hJ) (cwV 4 hts gX5_doRequest_X5_enqueue rfl rfl rfl (by decide +kernel) ⟨Nat.le_of_ble_eq_true rfl, Nat.le_of_ble_eq_true rfl⟩) hK hP hD hS hA (va_recv hK hP (ci := 5) (q0 := 0) rfl rfl) (fun _ => adr_ref.trans adr_ref.symm) rfl hl.1 rfl (Nat.le_of_ble_eq_true rfl) ⟨by decide, by decide⟩ dX5_doRequest_119 (fun z26 H locs hp hP hD hS => ?_)
                have hZ26 := hp
                have hP : va_P D vwCl ([(ad 0, .inr (5, [.int th, .ref (ad 1), .ref (ad 2), .ref (ad 3), .int sv, .ref (ad 4), .int ln, .int (nI 0), .ref (ad 5), .ref (ad 6), .int rl, .int cm, .int fi, .int se])), (ad 1, .inl (cI, 221, .inl z26)), (ad 2, .inl (cI, 221, .inl zs)), (ad 3, .inl (cI, 1768, .inl sd)), (ad 4, .inl (cI, 80, .inl tx)), (ad 5, .inl (cI, 8, .inl ds)), (ad 6, .inl (cI, 8, .inl rg))]) H := hP
                have hD : va_D A ([(ad 0, .inr (5, [.int th, .ref (ad 1), .ref (ad 2), .ref (ad 3), .int sv, .ref (ad 4), .int ln, .int (nI 0), .ref (ad 5), .ref (ad 6), .int rl, .int cm, .int fi, .int se])), (ad 1, .inl (cI, 221, .inl z26)), (ad 2, .inl (cI, 221, .inl zs)), (ad 3, .inl (cI, 1768, .inl sd)), (ad 4, .inl (cI, 80, .inl tx)), (ad 5, .inl (cI, 8, .inl ds)), (ad 6, .inl (cI, 8, .inl rg))]) := hD
                have hpw := pl_wait es eg
                have hZp : RZ (plF F Q0 t r mo) (plQ F Q0 t r mo) z26 := by rw [hpw.1, hpw.2.1, ← hin]; exact hZ26
                have hJp := JJ_pl hJ ht hr h3 h0 hm
                have hBp : JB (plF F Q0 t r mo) := by rw [hpw.1]; exact hB
                have hout := ask_out hJ ht hr h3 h0 hm es eg
                have hay := ask_y hpw.2.2
                refine lv_aload_n hx hb dX5_doRequest_122 rfl (lv_at hl 0 rfl) ?_
                refine lv_iload_n hx hb dX5_doRequest_123 rfl (lv_at hl 1 rfl) ?_
                refine call_v (X := []) (Z := []) (As := [.int (nI t)]) (rest := []) ⟨hx, hb, hml, hown, hts⟩ (c_X5_breakRings l D cI cT ad th sv ln (nI 0) rl cm fi se z26 zs sd tx ds rg (plF F Q0 t r mo) (plQ F Q0 t r mo) t (by omega) hBp hZp hJp) (cwV 1 hts gX5_doRequest_X5_breakRings rfl rfl rfl (by decide +kernel) ⟨Nat.le_of_ble_eq_true rfl, Nat.le_of_ble_eq_true rfl⟩) hK hP hD hS hA (va_recv hK hP (ci := 5) (q0 := 0) rfl rfl) (fun _ => adr_ref.trans adr_ref.symm) rfl hl.1 rfl (Nat.le_of_ble_eq_true rfl) ⟨by decide, by decide⟩ dX5_doRequest_124 (fun u27 H locs hp hP hD hS => ?_)
                have hZ27 := hp
                have hJ27 := JJ_br (s := t) 8 (V := 0) hJp
                have hP : va_P D vwCl ([(ad 0, .inr (5, [.int th, .ref (ad 1), .ref (ad 2), .ref (ad 3), .int sv, .ref (ad 4), .int ln, .int (nI (brV (plF F Q0 t r mo) (plQ F Q0 t r mo) t)), .ref (ad 5), .ref (ad 6), .int u27.2.2.2, .int cm, .int fi, .int se])), (ad 1, .inl (cI, 221, .inl u27.1)), (ad 2, .inl (cI, 221, .inl zs)), (ad 3, .inl (cI, 1768, .inl sd)), (ad 4, .inl (cI, 80, .inl tx)), (ad 5, .inl (cI, 8, .inl u27.2.1)), (ad 6, .inl (cI, 8, .inl u27.2.2.1))]) H := hP
                have hD : va_D A ([(ad 0, .inr (5, [.int th, .ref (ad 1), .ref (ad 2), .ref (ad 3), .int sv, .ref (ad 4), .int ln, .int (nI (brV (plF F Q0 t r mo) (plQ F Q0 t r mo) t)), .ref (ad 5), .ref (ad 6), .int u27.2.2.2, .int cm, .int fi, .int se])), (ad 1, .inl (cI, 221, .inl u27.1)), (ad 2, .inl (cI, 221, .inl zs)), (ad 3, .inl (cI, 1768, .inl sd)), (ad 4, .inl (cI, 80, .inl tx)), (ad 5, .inl (cI, 8, .inl u27.2.1)), (ad 6, .inl (cI, 8, .inl u27.2.2.1))]) := hD
                refine lv_aload_n hx hb dX5_doRequest_127 rfl (lv_at hl 0 rfl) ?_
                refine va_get (D := D) (ci := 5) (v := .int (nI (brV (plF F Q0 t r mo) (plQ F Q0 t r mo) t))) (C := RX5) (T := TX5) (N := 14) hx hb hts iX5 hown hK hP 0 rfl rfl 7 (by decide) f97 (fun _ h9 => h9) rfl dX5_doRequest_128 ?_
                refine lv_iload_n hx hb dX5_doRequest_131 rfl (lv_at hl 1 rfl) ?_
                refine lv_ishr hx hb dX5_doRequest_132 ?_
                refine lv_iconst (v := (nI 1)) hx hb dX5_doRequest_133 (by decide) ?_
                refine lv_iand hx hb dX5_doRequest_134 ?_
                refine tpe (y := nI (bitN (brV (plF F Q0 t r mo) (plQ F Q0 t r mo) t) t)) (tb_I (Nat.lt_of_lt_of_le brV_lt (by decide)) ht) ?_
                refine lv_iconst (v := (nI 1)) hx hb dX5_doRequest_135 (by decide) ?_
                refine lv_icmp_ne (tgt := 143) hx hb dX5_doRequest_136 (by decide) (fun h_17 => ?_) (fun h_17 => ?_)
                · have h_17 := mt (nI_eq (a := (bitN (brV (plF F Q0 t r mo) (plQ F Q0 t r mo) t) t)) (b := 1) (by first | omega | exact bits_lt31 _ | exact bitN_lt _ _ | exact bool_lt _ | exact and_lt31 _ _ _ _ | exact Nat.lt_of_le_of_lt (dst_lt _ _ _ (by omega) _) (by decide) | exact Nat.lt_of_le_of_lt (nrB_le _ _ _ (by omega)).2 (by decide) | decide) (by first | omega | exact bits_lt31 _ | exact bitN_lt _ _ | exact bool_lt _ | exact and_lt31 _ _ _ _ | exact Nat.lt_of_le_of_lt (dst_lt _ _ _ (by omega) _) (by decide) | exact Nat.lt_of_le_of_lt (nrB_le _ _ _ (by omega)).2 (by decide) | decide)).mpr h_17
                  refine lv_aload_n hx hb dX5_doRequest_143 rfl (lv_at hl 0 rfl) ?_
                  refine lv_iload_n hx hb dX5_doRequest_144 rfl (lv_at hl 1 rfl) ?_
                  refine lv_iconst (v := (nI 0)) hx hb dX5_doRequest_145 (by decide) ?_
                  refine call_i (X := []) (Z := []) (As := [.int (nI t), .int (nI 0)]) (rest := []) ⟨hx, hb, hml, hown, hts⟩ (c_X5_of l D cI cT ad th sv ln (nI (brV (plF F Q0 t r mo) (plQ F Q0 t r mo) t)) u27.2.2.2 cm fi se u27.1 zs sd tx u27.2.1 u27.2.2.1 t 0 (by omega)) (cwV 2 hts gX5_doRequest_X5_of rfl rfl rfl (by decide +kernel) ⟨Nat.le_of_ble_eq_true rfl, Nat.le_of_ble_eq_true rfl⟩) hK hP hD hS hA (va_recv hK hP (ci := 5) (q0 := 0) rfl rfl) (fun _ => rfl) rfl hl.1 rfl (Nat.le_of_ble_eq_true rfl) ⟨by decide, by decide⟩ dX5_doRequest_146 (fun rv _ H locs hp hP hD hS => ?_)
                  obtain rfl := hp
                  have hP : va_P D vwCl ([(ad 0, .inr (5, [.int th, .ref (ad 1), .ref (ad 2), .ref (ad 3), .int sv, .ref (ad 4), .int ln, .int (nI (brV (plF F Q0 t r mo) (plQ F Q0 t r mo) t)), .ref (ad 5), .ref (ad 6), .int u27.2.2.2, .int cm, .int fi, .int se])), (ad 1, .inl (cI, 221, .inl u27.1)), (ad 2, .inl (cI, 221, .inl zs)), (ad 3, .inl (cI, 1768, .inl sd)), (ad 4, .inl (cI, 80, .inl tx)), (ad 5, .inl (cI, 8, .inl u27.2.1)), (ad 6, .inl (cI, 8, .inl u27.2.2.1))]) H := hP
                  have hD : va_D A ([(ad 0, .inr (5, [.int th, .ref (ad 1), .ref (ad 2), .ref (ad 3), .int sv, .ref (ad 4), .int ln, .int (nI (brV (plF F Q0 t r mo) (plQ F Q0 t r mo) t)), .ref (ad 5), .ref (ad 6), .int u27.2.2.2, .int cm, .int fi, .int se])), (ad 1, .inl (cI, 221, .inl u27.1)), (ad 2, .inl (cI, 221, .inl zs)), (ad 3, .inl (cI, 1768, .inl sd)), (ad 4, .inl (cI, 80, .inl tx)), (ad 5, .inl (cI, 8, .inl u27.2.1)), (ad 6, .inl (cI, 8, .inl u27.2.2.1))]) := hD
                  refine tpe (y := stI (brF (plF F Q0 t r mo) (plQ F Q0 t r mo) t) t) (RZ_0 hZ27 (by omega)) ?_
                  refine lv_iconst (v := (nI 2)) hx hb dX5_doRequest_149 (by decide) ?_
                  refine lv_icmp_ne (tgt := 157) hx hb dX5_doRequest_150 (by decide) (fun h_18 => ?_) (fun h_18 => ?_)
                  · have h_18 := h_18
                    refine lv_iconst (v := (nI 1)) hx hb dX5_doRequest_157 (by decide) ?_
                    exact ret_i (u := (u27.1, u27.2.1, u27.2.2.1, u27.2.2.2)) hQ hx hb hrt hlk hS dX5_doRequest_158 (by rw [hay.2.2]; exact hP) (by rw [hay.1, hay.2.1]; exact ⟨(hout.2.2 h_17 h_18).symm, hZ27⟩)
                  · have h_18 := h_18
                    refine lv_iconst (v := (nI 2)) hx hb dX5_doRequest_153 (by decide) ?_
                    refine lv_goto (tgt := 158) hx hb dX5_doRequest_154 (by decide) ?_
                    exact ret_i (u := (u27.1, u27.2.1, u27.2.2.1, u27.2.2.2)) hQ hx hb hrt hlk hS dX5_doRequest_158 (by rw [hay.2.2]; exact hP) (by rw [hay.1, hay.2.1]; exact ⟨(hout.2.1 h_17 h_18).symm, hZ27⟩)
                · have h_17 := (nI_eq (a := (bitN (brV (plF F Q0 t r mo) (plQ F Q0 t r mo) t) t)) (b := 1) (by first | omega | exact bits_lt31 _ | exact bitN_lt _ _ | exact bool_lt _ | exact and_lt31 _ _ _ _ | exact Nat.lt_of_le_of_lt (dst_lt _ _ _ (by omega) _) (by decide) | exact Nat.lt_of_le_of_lt (nrB_le _ _ _ (by omega)).2 (by decide) | decide) (by first | omega | exact bits_lt31 _ | exact bitN_lt _ _ | exact bool_lt _ | exact and_lt31 _ _ _ _ | exact Nat.lt_of_le_of_lt (dst_lt _ _ _ (by omega) _) (by decide) | exact Nat.lt_of_le_of_lt (nrB_le _ _ _ (by omega)).2 (by decide) | decide)).mp h_17
                  refine lv_iconst (v := (nI 3)) hx hb dX5_doRequest_139 (by decide) ?_
                  refine lv_goto (tgt := 158) hx hb dX5_doRequest_140 (by decide) ?_
                  exact ret_i (u := (u27.1, u27.2.1, u27.2.2.1, u27.2.2.2)) hQ hx hb hrt hlk hS dX5_doRequest_158 (by rw [hay.2.2]; exact hP) (by rw [hay.1, hay.2.1]; exact ⟨(hout.1 h_17).symm, hZ27⟩)
              · have h_16 := mt (nI_eq (a := ((lk F o9 r == nI 1).toNat)) (b := 0) (by first | omega | exact bits_lt31 _ | exact bitN_lt _ _ | exact bool_lt _ | exact and_lt31 _ _ _ _ | exact Nat.lt_of_le_of_lt (dst_lt _ _ _ (by omega) _) (by decide) | exact Nat.lt_of_le_of_lt (nrB_le _ _ _ (by omega)).2 (by decide) | decide) (by first | omega | exact bits_lt31 _ | exact bitN_lt _ _ | exact bool_lt _ | exact and_lt31 _ _ _ _ | exact Nat.lt_of_le_of_lt (dst_lt _ _ _ (by omega) _) (by decide) | exact Nat.lt_of_le_of_lt (nrB_le _ _ _ (by omega)).2 (by decide) | decide)).mpr h_16
                have h_16 := tn_y h_16
                refine lv_iinc (v := (nI (k + 1))) (lv' := [(5, .int (nI (k + 1))), (0, .ref (ad 0)), (1, .int (nI t)), (2, .int (nI r)), (3, .int mo), (4, .int (lk F t r))]) hx hb dX5_doRequest_107 hl (k := 5) rfl (nI_add _ 1) (by decide) rfl (fun ls hl => ?_)
                refine lv_goto (tgt := 82) hx hb dX5_doRequest_110 (by decide) ?_
                exact ih82 (k + 1) (by omega) (lt_sP hb4 (by rw [← ho9]; exact beq_iff_eq.mp h_16)) (by omega) _ _ hP hD hS _ (lv_sub hl [1, 2, 3, 4, 5, 0] rfl)
        exact L82 _ 0 (Nat.zero_le _) (fun j hj => absurd hj (Nat.not_lt_zero _)) (Nat.lt_succ_self _) _ _ hP hD hS _ (lv_sub hl [2, 3, 4, 5, 1, 0] rfl)
      · have h_11 := mt (nI_eq (a := ((alN (fun u => decide (u = t) || lk F u r == 0) 8).toNat)) (b := 0) (by first | omega | exact bits_lt31 _ | exact bitN_lt _ _ | exact bool_lt _ | exact and_lt31 _ _ _ _ | exact Nat.lt_of_le_of_lt (dst_lt _ _ _ (by omega) _) (by decide) | exact Nat.lt_of_le_of_lt (nrB_le _ _ _ (by omega)).2 (by decide) | decide) (by first | omega | exact bits_lt31 _ | exact bitN_lt _ _ | exact bool_lt _ | exact and_lt31 _ _ _ _ | exact Nat.lt_of_le_of_lt (dst_lt _ _ _ (by omega) _) (by decide) | exact Nat.lt_of_le_of_lt (nrB_le _ _ _ (by omega)).2 (by decide) | decide)).mpr h_11
        have h_11 := tn_y h_11
        refine lv_goto (tgt := 57) hx hb dX5_doRequest_36 (by decide) ?_
        have eg : plG F Q0 t r mo = true := plG_1 (es2 h_2) h_2 h_11
        refine lv_aload_n hx hb dX5_doRequest_57 rfl (lv_at hl 1 rfl) ?_
        refine lv_iload_n hx hb dX5_doRequest_58 rfl (lv_at hl 2 rfl) ?_
        refine lv_iload_n hx hb dX5_doRequest_59 rfl (lv_at hl 3 rfl) ?_
        refine lv_iload_n hx hb dX5_doRequest_60 rfl (lv_at hl 4 rfl) ?_
        refine call_v (X := []) (Z := []) (As := [.int (nI t), .int (nI r), .int mo]) (rest := []) ⟨hx, hb, hml, hown, hts⟩ (c_X5_grant l D cI cT ad th sv ln (nI 0) rl cm fi se z zs sd tx ds rg t r mo (by omega) (by omega)) (cwV 3 hts gX5_doRequest_X5_grant rfl rfl rfl (by decide +kernel) ⟨Nat.le_of_ble_eq_true rfl, Nat.le_of_ble_eq_true rfl⟩) hK hP hD hS hA (va_recv hK hP (ci := 5) (q0 := 0) rfl rfl) (fun _ => adr_ref.trans adr_ref.symm) rfl hl.1 rfl (Nat.le_of_ble_eq_true rfl) ⟨by decide, by decide⟩ dX5_doRequest_61 (fun _ H locs hp hP hD hS => ?_)
        have hZ28 := RZ_gr (m := mo) hJ hZ (show t < 8 by omega) (show r < 10 by omega)
        have hP : va_P D vwCl ([(ad 0, .inr (5, [.int th, .ref (ad 1), .ref (ad 2), .ref (ad 3), .int sv, .ref (ad 4), .int ln, .int (nI 0), .ref (ad 5), .ref (ad 6), .int rl, .int cm, .int fi, .int se])), (ad 1, .inl (cI, 221, .inl (grZ z t r mo))), (ad 2, .inl (cI, 221, .inl zs)), (ad 3, .inl (cI, 1768, .inl sd)), (ad 4, .inl (cI, 80, .inl tx)), (ad 5, .inl (cI, 8, .inl ds)), (ad 6, .inl (cI, 8, .inl rg))]) H := hP
        have hD : va_D A ([(ad 0, .inr (5, [.int th, .ref (ad 1), .ref (ad 2), .ref (ad 3), .int sv, .ref (ad 4), .int ln, .int (nI 0), .ref (ad 5), .ref (ad 6), .int rl, .int cm, .int fi, .int se])), (ad 1, .inl (cI, 221, .inl (grZ z t r mo))), (ad 2, .inl (cI, 221, .inl zs)), (ad 3, .inl (cI, 1768, .inl sd)), (ad 4, .inl (cI, 80, .inl tx)), (ad 5, .inl (cI, 8, .inl ds)), (ad 6, .inl (cI, 8, .inl rg))]) := hD
        refine lv_iconst (v := (nI 1)) hx hb dX5_doRequest_64 (by decide) ?_
        have eS := pl_gr es eg
        have eA := ask_n eS.2.2
        exact ret_i (u := (grZ z t r mo, ds, rg, rl)) hQ hx hb hrt hlk hS dX5_doRequest_65 (by rw [eA.2.2]; exact hP) (by rw [eA.1, eA.2.1, eS.1, eS.2.1]; exact ⟨(out_gr hr).symm, hZ28⟩)
  · have h_1 := h_1
    refine lv_iconst (v := (nI 1)) hx hb dX5_doRequest_19 (by decide) ?_
    have es := (pl_ge (Q := Q0) hJ ht hr hm).1 h_1
    have eS := pl_same (Q := Q0) es
    have eA := ask_n eS.2.2
    exact ret_i (u := (z, ds, rg, rl)) hQ hx hb hrt hlk hS dX5_doRequest_20 (by rw [eA.2.2]; exact hP) (by rw [eA.1, eA.2.1, eS.1, eS.2.1]; exact ⟨(out_same es).symm, hZ⟩)

