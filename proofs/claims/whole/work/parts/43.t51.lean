abbrev rX5_in : Room := { frames := 0, cells := 0, slots := 0, locals := 0 }
set_option maxHeartbeats 1000000 in
set_option maxRecDepth 100000 in
theorem c_X5_in (l : Launch) (D : va_G) (cI cT : ClassId)  (xx lo hi : Int32)  : CN l D cI cT yX5_in wsX5_in rX5_in [.int xx, .int lo, .int hi] ([]) (S := Unit) (fun v _ => v = nI (inB xx lo hi).toNat) (fun _ => []) := by
  refine CN.of (cc := cX5_in) (maxL := 3) (ret := (some .boolean)) (by decide) rfl (Nat.le_of_ble_eq_true rfl) ?_
  intro p e s m args below meth c A Q hQ B hA H locs hP hK hD hS ls hl
  obtain ⟨hx, hb, hml, hrt, hts, hown, hlk⟩ := B
  have hl : lv_has ls 3 [(0, .int xx), (1, .int lo), (2, .int hi)] := hl
  refine lv_iload_n hx hb dX5_in_0 rfl (lv_at hl 0 rfl) ?_
  refine lv_iload_n hx hb dX5_in_1 rfl (lv_at hl 1 rfl) ?_
  refine lv_icmp_lt (tgt := 14) hx hb dX5_in_2 (by decide) (fun h_1 => ?_) (fun h_1 => ?_)
  · have h_1 := h_1
    refine lv_iconst (v := (nI 0)) hx hb dX5_in_14 (by decide) ?_
    exact ret_z (u := ()) hQ hx hb hrt hlk hS dX5_in_15 (by decide) hP (by simp [inB, h_1, nI_0])
  · have h_1 := h_1
    refine lv_iload_n hx hb dX5_in_5 rfl (lv_at hl 0 rfl) ?_
    refine lv_iload_n hx hb dX5_in_6 rfl (lv_at hl 2 rfl) ?_
    refine lv_icmp_gt (tgt := 14) hx hb dX5_in_7 (by decide) (fun h_2 => ?_) (fun h_2 => ?_)
    · have h_2 := h_2
      refine lv_iconst (v := (nI 0)) hx hb dX5_in_14 (by decide) ?_
      exact ret_z (u := ()) hQ hx hb hrt hlk hS dX5_in_15 (by decide) hP (by simp [inB, h_1, h_2, nI_0])
    · have h_2 := h_2
      refine lv_iconst (v := (nI 1)) hx hb dX5_in_10 (by decide) ?_
      refine lv_goto (tgt := 15) hx hb dX5_in_11 (by decide) ?_
      exact ret_z (u := ()) hQ hx hb hrt hlk hS dX5_in_15 (by decide) hP (by simp [inB, h_1, h_2, nI_0])

abbrev rX5_isTransaction : Room := { frames := 1, cells := 0, slots := 0, locals := 22 }
set_option maxHeartbeats 1000000 in
set_option maxRecDepth 100000 in
theorem c_X5_isTransaction (l : Launch) (D : va_G) (cI cT : ClassId)  (xx : Int32)  : CN l D cI cT yX5_isTransaction wsX5_isTransaction rX5_isTransaction [.int xx] ([]) (S := Unit) (fun v _ => v = nI (inI xx 8).toNat) (fun _ => []) := by
  refine CN.of (cc := cX5_isTransaction) (maxL := 1) (ret := (some .boolean)) (by decide) rfl (Nat.le_of_ble_eq_true rfl) ?_
  intro p e s m args below meth c A Q hQ B hA H locs hP hK hD hS ls hl
  obtain ⟨hx, hb, hml, hrt, hts, hown, hlk⟩ := B
  have hl : lv_has ls 1 [(0, .int xx)] := hl
  refine lv_iload_n hx hb dX5_isTransaction_0 rfl (lv_at hl 0 rfl) ?_
  refine lv_iconst (v := (nI 0)) hx hb dX5_isTransaction_1 (by decide) ?_
  refine lv_bipush (v := (nI 7)) hx hb dX5_isTransaction_2 (by decide) ?_
  refine call_s (X := []) (Wc := []) (Z := []) (As := [.int xx, .int (nI 0), .int (nI 7)]) (rest := []) ⟨hx, hb, hml, hown, hts⟩ (c_X5_in l D cI cT xx (nI 0) (nI 7)) (va_cwS 3 hts gX5_isTransaction_X5_in rfl rfl rfl (by decide +kernel) ⟨Nat.le_of_ble_eq_true rfl, Nat.le_of_ble_eq_true rfl⟩) hK (P_nilr hP) (D_nilr hD) hS hA (fun _ => rfl) rfl hl.1 rfl (Nat.le_of_ble_eq_true rfl) ⟨by decide, by decide⟩ dX5_isTransaction_4 (fun rv _ H locs hp hP hD hS => ?_)
  obtain rfl := hp
  have hP := P_nil2 hP
  have hD := D_nil2 hD
  have hP : va_P D vwCl ([]) H := hP
  have hD : va_D A ([]) := hD
  exact ret_z (u := ()) hQ hx hb hrt hlk hS dX5_isTransaction_7 (by exact nar_b _) hP (congrArg (fun b : Bool => nI b.toNat) inB_8)

abbrev rX5_isResource : Room := { frames := 1, cells := 0, slots := 0, locals := 22 }
set_option maxHeartbeats 1000000 in
set_option maxRecDepth 100000 in
theorem c_X5_isResource (l : Launch) (D : va_G) (cI cT : ClassId)  (xx : Int32)  : CN l D cI cT yX5_isResource wsX5_isResource rX5_isResource [.int xx] ([]) (S := Unit) (fun v _ => v = nI (inI xx 10).toNat) (fun _ => []) := by
  refine CN.of (cc := cX5_isResource) (maxL := 1) (ret := (some .boolean)) (by decide) rfl (Nat.le_of_ble_eq_true rfl) ?_
  intro p e s m args below meth c A Q hQ B hA H locs hP hK hD hS ls hl
  obtain ⟨hx, hb, hml, hrt, hts, hown, hlk⟩ := B
  have hl : lv_has ls 1 [(0, .int xx)] := hl
  refine lv_iload_n hx hb dX5_isResource_0 rfl (lv_at hl 0 rfl) ?_
  refine lv_iconst (v := (nI 0)) hx hb dX5_isResource_1 (by decide) ?_
  refine lv_bipush (v := (nI 9)) hx hb dX5_isResource_2 (by decide) ?_
  refine call_s (X := []) (Wc := []) (Z := []) (As := [.int xx, .int (nI 0), .int (nI 9)]) (rest := []) ⟨hx, hb, hml, hown, hts⟩ (c_X5_in l D cI cT xx (nI 0) (nI 9)) (va_cwS 3 hts gX5_isResource_X5_in rfl rfl rfl (by decide +kernel) ⟨Nat.le_of_ble_eq_true rfl, Nat.le_of_ble_eq_true rfl⟩) hK (P_nilr hP) (D_nilr hD) hS hA (fun _ => rfl) rfl hl.1 rfl (Nat.le_of_ble_eq_true rfl) ⟨by decide, by decide⟩ dX5_isResource_4 (fun rv _ H locs hp hP hD hS => ?_)
  obtain rfl := hp
  have hP := P_nil2 hP
  have hD := D_nil2 hD
  have hP : va_P D vwCl ([]) H := hP
  have hD : va_D A ([]) := hD
  exact ret_z (u := ()) hQ hx hb hrt hlk hS dX5_isResource_7 (by exact nar_b _) hP (congrArg (fun b : Bool => nI b.toNat) inB_10)

abbrev rX5_isMode : Room := { frames := 1, cells := 0, slots := 0, locals := 22 }
set_option maxHeartbeats 1000000 in
set_option maxRecDepth 100000 in
theorem c_X5_isMode (l : Launch) (D : va_G) (cI cT : ClassId)  (xx : Int32)  : CN l D cI cT yX5_isMode wsX5_isMode rX5_isMode [.int xx] ([]) (S := Unit) (fun v _ => v = nI (mdB xx).toNat) (fun _ => []) := by
  refine CN.of (cc := cX5_isMode) (maxL := 1) (ret := (some .boolean)) (by decide) rfl (Nat.le_of_ble_eq_true rfl) ?_
  intro p e s m args below meth c A Q hQ B hA H locs hP hK hD hS ls hl
  obtain ⟨hx, hb, hml, hrt, hts, hown, hlk⟩ := B
  have hl : lv_has ls 1 [(0, .int xx)] := hl
  refine lv_iload_n hx hb dX5_isMode_0 rfl (lv_at hl 0 rfl) ?_
  refine lv_iconst (v := (nI 1)) hx hb dX5_isMode_1 (by decide) ?_
  refine lv_iconst (v := (nI 2)) hx hb dX5_isMode_2 (by decide) ?_
  refine call_s (X := []) (Wc := []) (Z := []) (As := [.int xx, .int (nI 1), .int (nI 2)]) (rest := []) ⟨hx, hb, hml, hown, hts⟩ (c_X5_in l D cI cT xx (nI 1) (nI 2)) (va_cwS 3 hts gX5_isMode_X5_in rfl rfl rfl (by decide +kernel) ⟨Nat.le_of_ble_eq_true rfl, Nat.le_of_ble_eq_true rfl⟩) hK (P_nilr hP) (D_nilr hD) hS hA (fun _ => rfl) rfl hl.1 rfl (Nat.le_of_ble_eq_true rfl) ⟨by decide, by decide⟩ dX5_isMode_3 (fun rv _ H locs hp hP hD hS => ?_)
  obtain rfl := hp
  have hP := P_nil2 hP
  have hD := D_nil2 hD
  have hP : va_P D vwCl ([]) H := hP
  have hD : va_D A ([]) := hD
  exact ret_z (u := ()) hQ hx hb hrt hlk hS dX5_isMode_6 (by exact nar_b _) hP (congrArg (fun b : Bool => nI b.toNat) inB_m)

abbrev rX5_isCompatible : Room := { frames := 0, cells := 0, slots := 0, locals := 0 }
set_option maxHeartbeats 1000000 in
set_option maxRecDepth 100000 in
theorem c_X5_isCompatible (l : Launch) (D : va_G) (cI cT : ClassId)  (mo ot : Int32)  : CN l D cI cT yX5_isCompatible wsX5_isCompatible rX5_isCompatible [.int mo, .int ot] ([]) (S := Unit) (fun v _ => v = nI (compB mo ot).toNat) (fun _ => []) := by
  refine CN.of (cc := cX5_isCompatible) (maxL := 2) (ret := (some .boolean)) (by decide) rfl (Nat.le_of_ble_eq_true rfl) ?_
  intro p e s m args below meth c A Q hQ B hA H locs hP hK hD hS ls hl
  obtain ⟨hx, hb, hml, hrt, hts, hown, hlk⟩ := B
  have hl : lv_has ls 2 [(0, .int mo), (1, .int ot)] := hl
  refine lv_iload_n hx hb dX5_isCompatible_0 rfl (lv_at hl 1 rfl) ?_
  refine lv_if_eq (tgt := 14) hx hb dX5_isCompatible_1 (by decide) (fun h_1 => ?_) (fun h_1 => ?_)
  · have h_1 := h_1
    refine lv_iconst (v := (nI 1)) hx hb dX5_isCompatible_14 (by decide) ?_
    refine lv_goto (tgt := 19) hx hb dX5_isCompatible_15 (by decide) ?_
    exact ret_z (u := ()) hQ hx hb hrt hlk hS dX5_isCompatible_19 (by decide) hP (by simp [compB, nI_0, nI1_0, bq_t h_1])
  · have h_1 := h_1
    refine lv_iload_n hx hb dX5_isCompatible_4 rfl (lv_at hl 0 rfl) ?_
    refine lv_iconst (v := (nI 1)) hx hb dX5_isCompatible_5 (by decide) ?_
    refine lv_icmp_ne (tgt := 18) hx hb dX5_isCompatible_6 (by decide) (fun h_2 => ?_) (fun h_2 => ?_)
    · have h_2 := h_2
      refine lv_iconst (v := (nI 0)) hx hb dX5_isCompatible_18 (by decide) ?_
      exact ret_z (u := ()) hQ hx hb hrt hlk hS dX5_isCompatible_19 (by decide) hP (by simp [compB, nI_0, nI1_0, bq_f h_1, bq_f h_2])
    · have h_2 := h_2
      refine lv_iload_n hx hb dX5_isCompatible_9 rfl (lv_at hl 1 rfl) ?_
      refine lv_iconst (v := (nI 1)) hx hb dX5_isCompatible_10 (by decide) ?_
      refine lv_icmp_ne (tgt := 18) hx hb dX5_isCompatible_11 (by decide) (fun h_3 => ?_) (fun h_3 => ?_)
      · have h_3 := h_3
        refine lv_iconst (v := (nI 0)) hx hb dX5_isCompatible_18 (by decide) ?_
        exact ret_z (u := ()) hQ hx hb hrt hlk hS dX5_isCompatible_19 (by decide) hP (by simp [compB, nI_0, nI1_0, bq_f h_1, bq_t h_2, bq_f h_3])
      · have h_3 := h_3
        refine lv_iconst (v := (nI 1)) hx hb dX5_isCompatible_14 (by decide) ?_
        refine lv_goto (tgt := 19) hx hb dX5_isCompatible_15 (by decide) ?_
        exact ret_z (u := ()) hQ hx hb hrt hlk hS dX5_isCompatible_19 (by decide) hP (by simp [compB, nI_0, nI1_0, bq_f h_1, bq_t h_2, bq_t h_3])

abbrev rX5_of : Room := { frames := 0, cells := 0, slots := 0, locals := 0 }
set_option maxHeartbeats 1000000 in
set_option maxRecDepth 100000 in
theorem c_X5_of (l : Launch) (D : va_G) (cI cT : ClassId) (ad : Nat → Nat) (th sv ln vs rl cm fi se : Int32) (z zs sd tx ds rg : Nat → Int32) (t w9 : Nat) (h9 : 6 * t + w9 < 221) : CN l D cI cT yX5_of wsX5_of rX5_of [.ref (ad 0), .int (nI t), .int (nI w9)] (refW cI ad th sv ln vs rl cm fi se z zs sd tx ds rg) (S := Unit) (fun v _ => v = z (6 * t + w9)) (fun _ => refW cI ad th sv ln vs rl cm fi se z zs sd tx ds rg) := by
  refine CN.of (cc := cX5_of) (maxL := 3) (ret := (some .int)) (by decide) rfl (Nat.le_of_ble_eq_true rfl) ?_
  intro p e s m args below meth c A Q hQ B hA H locs hP hK hD hS ls hl
  obtain ⟨hx, hb, hml, hrt, hts, hown, hlk⟩ := B
  have hP : va_P D vwCl ([(ad 0, .inr (5, [.int th, .ref (ad 1), .ref (ad 2), .ref (ad 3), .int sv, .ref (ad 4), .int ln, .int vs, .ref (ad 5), .ref (ad 6), .int rl, .int cm, .int fi, .int se])), (ad 1, .inl (cI, 221, .inl z)), (ad 2, .inl (cI, 221, .inl zs)), (ad 3, .inl (cI, 1768, .inl sd)), (ad 4, .inl (cI, 80, .inl tx)), (ad 5, .inl (cI, 8, .inl ds)), (ad 6, .inl (cI, 8, .inl rg))]) H := hP
  have hD : va_D A ([(ad 0, .inr (5, [.int th, .ref (ad 1), .ref (ad 2), .ref (ad 3), .int sv, .ref (ad 4), .int ln, .int vs, .ref (ad 5), .ref (ad 6), .int rl, .int cm, .int fi, .int se])), (ad 1, .inl (cI, 221, .inl z)), (ad 2, .inl (cI, 221, .inl zs)), (ad 3, .inl (cI, 1768, .inl sd)), (ad 4, .inl (cI, 80, .inl tx)), (ad 5, .inl (cI, 8, .inl ds)), (ad 6, .inl (cI, 8, .inl rg))]) := hD
  have hl : lv_has ls 3 [(0, .ref (ad 0)), (1, .int (nI t)), (2, .int (nI w9))] := hl
  have iX5 : ∀ w ∈ u_ws RX5 TX5 14, w ∈ wsX5_of := by decide +kernel
  have f7 := hts (.fieldLink RX5 7 "LockManagerModel" "z" "[I") (by decide +kernel)
  refine lv_aload_n hx hb dX5_of_0 rfl (lv_at hl 0 rfl) ?_
  refine va_get (D := D) (ci := 5) (v := .ref (ad 1)) (C := RX5) (T := TX5) (N := 14) hx hb hts iX5 hown hK hP 0 rfl rfl 1 (by decide) f7 (fun _ h9 => h9) rfl dX5_of_1 ?_
  refine lv_bipush (v := (nI 6)) hx hb dX5_of_4 (by decide) ?_
  refine lv_iload_n hx hb dX5_of_6 rfl (lv_at hl 1 rfl) ?_
  refine lv_imul hx hb dX5_of_7 ?_
  refine tpe (y := (nI (6 * t))) (pk_mul _ _) ?_
  refine lv_iload_n hx hb dX5_of_8 rfl (lv_at hl 2 rfl) ?_
  refine lv_iadd hx hb dX5_of_9 ?_
  refine tpe (y := (nI (6 * t + w9))) (nI_add _ _) ?_
  refine r_ild (k := (6 * t + w9)) hx hb hK hP 1 rfl (by omega) (by decide) dX5_of_10 ?_
  exact ret_i (u := ()) hQ hx hb hrt hlk hS dX5_of_11 hP rfl

abbrev rX5_put : Room := { frames := 0, cells := 0, slots := 0, locals := 0 }
set_option maxHeartbeats 1000000 in
set_option maxRecDepth 100000 in
theorem c_X5_put (l : Launch) (D : va_G) (cI cT : ClassId) (ad : Nat → Nat) (th sv ln vs rl cm fi se : Int32) (z zs sd tx ds rg : Nat → Int32) (t w9 : Nat) (xv : Int32) (h9 : 6 * t + w9 < 221) : CV l D cI cT yX5_put wsX5_put rX5_put [.ref (ad 0), .int (nI t), .int (nI w9), .int xv] (refW cI ad th sv ln vs rl cm fi se z zs sd tx ds rg) (S := Unit) (fun _ => True) (fun _ => refW cI ad th sv ln vs rl cm fi se (upd z (6 * t + w9) xv) zs sd tx ds rg) := by
  refine CV.of (cc := cX5_put) (maxL := 4) (ret := none) (by decide) rfl (Nat.le_of_ble_eq_true rfl) ?_
  intro p e s m args below meth c A Q hQ B hA H locs hP hK hD hS ls hl
  obtain ⟨hx, hb, hml, hrt, hts, hown, hlk⟩ := B
  have hP : va_P D vwCl ([(ad 0, .inr (5, [.int th, .ref (ad 1), .ref (ad 2), .ref (ad 3), .int sv, .ref (ad 4), .int ln, .int vs, .ref (ad 5), .ref (ad 6), .int rl, .int cm, .int fi, .int se])), (ad 1, .inl (cI, 221, .inl z)), (ad 2, .inl (cI, 221, .inl zs)), (ad 3, .inl (cI, 1768, .inl sd)), (ad 4, .inl (cI, 80, .inl tx)), (ad 5, .inl (cI, 8, .inl ds)), (ad 6, .inl (cI, 8, .inl rg))]) H := hP
  have hD : va_D A ([(ad 0, .inr (5, [.int th, .ref (ad 1), .ref (ad 2), .ref (ad 3), .int sv, .ref (ad 4), .int ln, .int vs, .ref (ad 5), .ref (ad 6), .int rl, .int cm, .int fi, .int se])), (ad 1, .inl (cI, 221, .inl z)), (ad 2, .inl (cI, 221, .inl zs)), (ad 3, .inl (cI, 1768, .inl sd)), (ad 4, .inl (cI, 80, .inl tx)), (ad 5, .inl (cI, 8, .inl ds)), (ad 6, .inl (cI, 8, .inl rg))]) := hD
  have hl : lv_has ls 4 [(0, .ref (ad 0)), (1, .int (nI t)), (2, .int (nI w9)), (3, .int xv)] := hl
  have iX5 : ∀ w ∈ u_ws RX5 TX5 14, w ∈ wsX5_put := by decide +kernel
  have f7 := hts (.fieldLink RX5 7 "LockManagerModel" "z" "[I") (by decide +kernel)
  refine lv_aload_n hx hb dX5_put_0 rfl (lv_at hl 0 rfl) ?_
  refine va_get (D := D) (ci := 5) (v := .ref (ad 1)) (C := RX5) (T := TX5) (N := 14) hx hb hts iX5 hown hK hP 0 rfl rfl 1 (by decide) f7 (fun _ h9 => h9) rfl dX5_put_1 ?_
  refine lv_bipush (v := (nI 6)) hx hb dX5_put_4 (by decide) ?_
  refine lv_iload_n hx hb dX5_put_6 rfl (lv_at hl 1 rfl) ?_
  refine lv_imul hx hb dX5_put_7 ?_
  refine tpe (y := (nI (6 * t))) (pk_mul _ _) ?_
  refine lv_iload_n hx hb dX5_put_8 rfl (lv_at hl 2 rfl) ?_
  refine lv_iadd hx hb dX5_put_9 ?_
  refine tpe (y := (nI (6 * t + w9))) (nI_add _ _) ?_
  refine lv_iload_n hx hb dX5_put_10 rfl (lv_at hl 3 rfl) ?_
  refine r_ist (k := (6 * t + w9)) hx hb hK hP hD hS 1 rfl (by omega) (by decide) dX5_put_11 (fun H locs hP hD hS => ?_)
  have hP : va_P D vwCl ([(ad 0, .inr (5, [.int th, .ref (ad 1), .ref (ad 2), .ref (ad 3), .int sv, .ref (ad 4), .int ln, .int vs, .ref (ad 5), .ref (ad 6), .int rl, .int cm, .int fi, .int se])), (ad 1, .inl (cI, 221, .inl (upd z (6 * t + w9) xv))), (ad 2, .inl (cI, 221, .inl zs)), (ad 3, .inl (cI, 1768, .inl sd)), (ad 4, .inl (cI, 80, .inl tx)), (ad 5, .inl (cI, 8, .inl ds)), (ad 6, .inl (cI, 8, .inl rg))]) H := hP
  have hD : va_D A ([(ad 0, .inr (5, [.int th, .ref (ad 1), .ref (ad 2), .ref (ad 3), .int sv, .ref (ad 4), .int ln, .int vs, .ref (ad 5), .ref (ad 6), .int rl, .int cm, .int fi, .int se])), (ad 1, .inl (cI, 221, .inl (upd z (6 * t + w9) xv))), (ad 2, .inl (cI, 221, .inl zs)), (ad 3, .inl (cI, 1768, .inl sd)), (ad 4, .inl (cI, 80, .inl tx)), (ad 5, .inl (cI, 8, .inl ds)), (ad 6, .inl (cI, 8, .inl rg))]) := hD
  exact ret_v (u := ()) hQ hx hb hrt hlk hS dX5_put_12 hP trivial

abbrev rX5_lock : Room := { frames := 0, cells := 0, slots := 0, locals := 0 }
set_option maxHeartbeats 1000000 in
set_option maxRecDepth 100000 in
theorem c_X5_lock (l : Launch) (D : va_G) (cI cT : ClassId) (ad : Nat → Nat) (th sv ln vs rl cm fi se : Int32) (z zs sd tx ds rg : Nat → Int32) (t r : Nat) (h9 : 48 + 10 * t + r < 221) : CN l D cI cT yX5_lock wsX5_lock rX5_lock [.ref (ad 0), .int (nI t), .int (nI r)] (refW cI ad th sv ln vs rl cm fi se z zs sd tx ds rg) (S := Unit) (fun v _ => v = z (48 + 10 * t + r)) (fun _ => refW cI ad th sv ln vs rl cm fi se z zs sd tx ds rg) := by
  refine CN.of (cc := cX5_lock) (maxL := 3) (ret := (some .int)) (by decide) rfl (Nat.le_of_ble_eq_true rfl) ?_
  intro p e s m args below meth c A Q hQ B hA H locs hP hK hD hS ls hl
  obtain ⟨hx, hb, hml, hrt, hts, hown, hlk⟩ := B
  have hP : va_P D vwCl ([(ad 0, .inr (5, [.int th, .ref (ad 1), .ref (ad 2), .ref (ad 3), .int sv, .ref (ad 4), .int ln, .int vs, .ref (ad 5), .ref (ad 6), .int rl, .int cm, .int fi, .int se])), (ad 1, .inl (cI, 221, .inl z)), (ad 2, .inl (cI, 221, .inl zs)), (ad 3, .inl (cI, 1768, .inl sd)), (ad 4, .inl (cI, 80, .inl tx)), (ad 5, .inl (cI, 8, .inl ds)), (ad 6, .inl (cI, 8, .inl rg))]) H := hP
  have hD : va_D A ([(ad 0, .inr (5, [.int th, .ref (ad 1), .ref (ad 2), .ref (ad 3), .int sv, .ref (ad 4), .int ln, .int vs, .ref (ad 5), .ref (ad 6), .int rl, .int cm, .int fi, .int se])), (ad 1, .inl (cI, 221, .inl z)), (ad 2, .inl (cI, 221, .inl zs)), (ad 3, .inl (cI, 1768, .inl sd)), (ad 4, .inl (cI, 80, .inl tx)), (ad 5, .inl (cI, 8, .inl ds)), (ad 6, .inl (cI, 8, .inl rg))]) := hD
  have hl : lv_has ls 3 [(0, .ref (ad 0)), (1, .int (nI t)), (2, .int (nI r))] := hl
  have iX5 : ∀ w ∈ u_ws RX5 TX5 14, w ∈ wsX5_lock := by decide +kernel
  have f7 := hts (.fieldLink RX5 7 "LockManagerModel" "z" "[I") (by decide +kernel)
  refine lv_aload_n hx hb dX5_lock_0 rfl (lv_at hl 0 rfl) ?_
  refine va_get (D := D) (ci := 5) (v := .ref (ad 1)) (C := RX5) (T := TX5) (N := 14) hx hb hts iX5 hown hK hP 0 rfl rfl 1 (by decide) f7 (fun _ h9 => h9) rfl dX5_lock_1 ?_
  refine lv_bipush (v := (nI 48)) hx hb dX5_lock_4 (by decide) ?_
  refine lv_bipush (v := (nI 10)) hx hb dX5_lock_6 (by decide) ?_
  refine lv_iload_n hx hb dX5_lock_8 rfl (lv_at hl 1 rfl) ?_
  refine lv_imul hx hb dX5_lock_9 ?_
  refine tpe (y := (nI (10 * t))) (pk_mul _ _) ?_
  refine lv_iadd hx hb dX5_lock_10 ?_
  refine tpe (y := (nI (48 + (10 * t)))) (nI_add _ _) ?_
  refine lv_iload_n hx hb dX5_lock_11 rfl (lv_at hl 2 rfl) ?_
  refine lv_iadd hx hb dX5_lock_12 ?_
  refine tpe (y := (nI (48 + (10 * t) + r))) (nI_add _ _) ?_
  refine r_ild (k := (48 + (10 * t) + r)) hx hb hK hP 1 rfl (by omega) (by decide) dX5_lock_13 ?_
  exact ret_i (u := ()) hQ hx hb hrt hlk hS dX5_lock_14 hP rfl

abbrev rX5_setLock : Room := { frames := 0, cells := 0, slots := 0, locals := 0 }
set_option maxHeartbeats 1000000 in
set_option maxRecDepth 100000 in
theorem c_X5_setLock (l : Launch) (D : va_G) (cI cT : ClassId) (ad : Nat → Nat) (th sv ln vs rl cm fi se : Int32) (z zs sd tx ds rg : Nat → Int32) (t r : Nat) (xv : Int32) (h9 : 48 + 10 * t + r < 221) : CV l D cI cT yX5_setLock wsX5_setLock rX5_setLock [.ref (ad 0), .int (nI t), .int (nI r), .int xv] (refW cI ad th sv ln vs rl cm fi se z zs sd tx ds rg) (S := Unit) (fun _ => True) (fun _ => refW cI ad th sv ln vs rl cm fi se (upd z (48 + 10 * t + r) xv) zs sd tx ds rg) := by
  refine CV.of (cc := cX5_setLock) (maxL := 4) (ret := none) (by decide) rfl (Nat.le_of_ble_eq_true rfl) ?_
  intro p e s m args below meth c A Q hQ B hA H locs hP hK hD hS ls hl
  obtain ⟨hx, hb, hml, hrt, hts, hown, hlk⟩ := B
  have hP : va_P D vwCl ([(ad 0, .inr (5, [.int th, .ref (ad 1), .ref (ad 2), .ref (ad 3), .int sv, .ref (ad 4), .int ln, .int vs, .ref (ad 5), .ref (ad 6), .int rl, .int cm, .int fi, .int se])), (ad 1, .inl (cI, 221, .inl z)), (ad 2, .inl (cI, 221, .inl zs)), (ad 3, .inl (cI, 1768, .inl sd)), (ad 4, .inl (cI, 80, .inl tx)), (ad 5, .inl (cI, 8, .inl ds)), (ad 6, .inl (cI, 8, .inl rg))]) H := hP
  have hD : va_D A ([(ad 0, .inr (5, [.int th, .ref (ad 1), .ref (ad 2), .ref (ad 3), .int sv, .ref (ad 4), .int ln, .int vs, .ref (ad 5), .ref (ad 6), .int rl, .int cm, .int fi, .int se])), (ad 1, .inl (cI, 221, .inl z)), (ad 2, .inl (cI, 221, .inl zs)), (ad 3, .inl (cI, 1768, .inl sd)), (ad 4, .inl (cI, 80, .inl tx)), (ad 5, .inl (cI, 8, .inl ds)), (ad 6, .inl (cI, 8, .inl rg))]) := hD
  have hl : lv_has ls 4 [(0, .ref (ad 0)), (1, .int (nI t)), (2, .int (nI r)), (3, .int xv)] := hl
  have iX5 : ∀ w ∈ u_ws RX5 TX5 14, w ∈ wsX5_setLock := by decide +kernel
  have f7 := hts (.fieldLink RX5 7 "LockManagerModel" "z" "[I") (by decide +kernel)
  refine lv_aload_n hx hb dX5_setLock_0 rfl (lv_at hl 0 rfl) ?_
  refine va_get (D := D) (ci := 5) (v := .ref (ad 1)) (C := RX5) (T := TX5) (N := 14) hx hb hts iX5 hown hK hP 0 rfl rfl 1 (by decide) f7 (fun _ h9 => h9) rfl dX5_setLock_1 ?_
  refine lv_bipush (v := (nI 48)) hx hb dX5_setLock_4 (by decide) ?_
  refine lv_bipush (v := (nI 10)) hx hb dX5_setLock_6 (by decide) ?_
  refine lv_iload_n hx hb dX5_setLock_8 rfl (lv_at hl 1 rfl) ?_
  refine lv_imul hx hb dX5_setLock_9 ?_
  refine tpe (y := (nI (10 * t))) (pk_mul _ _) ?_
  refine lv_iadd hx hb dX5_setLock_10 ?_
  refine tpe (y := (nI (48 + (10 * t)))) (nI_add _ _) ?_
  refine lv_iload_n hx hb dX5_setLock_11 rfl (lv_at hl 2 rfl) ?_
  refine lv_iadd hx hb dX5_setLock_12 ?_
  refine tpe (y := (nI (48 + (10 * t) + r))) (nI_add _ _) ?_
  refine lv_iload_n hx hb dX5_setLock_13 rfl (lv_at hl 3 rfl) ?_
  refine r_ist (k := (48 + (10 * t) + r)) hx hb hK hP hD hS 1 rfl (by omega) (by decide) dX5_setLock_14 (fun H locs hP hD hS => ?_)
  have hP : va_P D vwCl ([(ad 0, .inr (5, [.int th, .ref (ad 1), .ref (ad 2), .ref (ad 3), .int sv, .ref (ad 4), .int ln, .int vs, .ref (ad 5), .ref (ad 6), .int rl, .int cm, .int fi, .int se])), (ad 1, .inl (cI, 221, .inl (upd z (48 + (10 * t) + r) xv))), (ad 2, .inl (cI, 221, .inl zs)), (ad 3, .inl (cI, 1768, .inl sd)), (ad 4, .inl (cI, 80, .inl tx)), (ad 5, .inl (cI, 8, .inl ds)), (ad 6, .inl (cI, 8, .inl rg))]) H := hP
  have hD : va_D A ([(ad 0, .inr (5, [.int th, .ref (ad 1), .ref (ad 2), .ref (ad 3), .int sv, .ref (ad 4), .int ln, .int vs, .ref (ad 5), .ref (ad 6), .int rl, .int cm, .int fi, .int se])), (ad 1, .inl (cI, 221, .inl (upd z (48 + (10 * t) + r) xv))), (ad 2, .inl (cI, 221, .inl zs)), (ad 3, .inl (cI, 1768, .inl sd)), (ad 4, .inl (cI, 80, .inl tx)), (ad 5, .inl (cI, 8, .inl ds)), (ad 6, .inl (cI, 8, .inl rg))]) := hD
  exact ret_v (u := ()) hQ hx hb hrt hlk hS dX5_setLock_15 hP trivial

abbrev rX5_queueOf : Room := { frames := 0, cells := 0, slots := 0, locals := 0 }
set_option maxHeartbeats 1000000 in
set_option maxRecDepth 100000 in
theorem c_X5_queueOf (l : Launch) (D : va_G) (cI cT : ClassId) (ad : Nat → Nat) (th sv ln vs rl cm fi se : Int32) (z zs sd tx ds rg : Nat → Int32) (r : Nat) (h9 : 128 + 9 * r < 221) : CN l D cI cT yX5_queueOf wsX5_queueOf rX5_queueOf [.ref (ad 0), .int (nI r)] (refW cI ad th sv ln vs rl cm fi se z zs sd tx ds rg) (S := Unit) (fun v _ => v = z (128 + 9 * r)) (fun _ => refW cI ad th sv ln vs rl cm fi se z zs sd tx ds rg) := by
  refine CN.of (cc := cX5_queueOf) (maxL := 2) (ret := (some .int)) (by decide) rfl (Nat.le_of_ble_eq_true rfl) ?_
  intro p e s m args below meth c A Q hQ B hA H locs hP hK hD hS ls hl
  obtain ⟨hx, hb, hml, hrt, hts, hown, hlk⟩ := B
  have hP : va_P D vwCl ([(ad 0, .inr (5, [.int th, .ref (ad 1), .ref (ad 2), .ref (ad 3), .int sv, .ref (ad 4), .int ln, .int vs, .ref (ad 5), .ref (ad 6), .int rl, .int cm, .int fi, .int se])), (ad 1, .inl (cI, 221, .inl z)), (ad 2, .inl (cI, 221, .inl zs)), (ad 3, .inl (cI, 1768, .inl sd)), (ad 4, .inl (cI, 80, .inl tx)), (ad 5, .inl (cI, 8, .inl ds)), (ad 6, .inl (cI, 8, .inl rg))]) H := hP
  have hD : va_D A ([(ad 0, .inr (5, [.int th, .ref (ad 1), .ref (ad 2), .ref (ad 3), .int sv, .ref (ad 4), .int ln, .int vs, .ref (ad 5), .ref (ad 6), .int rl, .int cm, .int fi, .int se])), (ad 1, .inl (cI, 221, .inl z)), (ad 2, .inl (cI, 221, .inl zs)), (ad 3, .inl (cI, 1768, .inl sd)), (ad 4, .inl (cI, 80, .inl tx)), (ad 5, .inl (cI, 8, .inl ds)), (ad 6, .inl (cI, 8, .inl rg))]) := hD
  have hl : lv_has ls 2 [(0, .ref (ad 0)), (1, .int (nI r))] := hl
  have iX5 : ∀ w ∈ u_ws RX5 TX5 14, w ∈ wsX5_queueOf := by decide +kernel
  have f7 := hts (.fieldLink RX5 7 "LockManagerModel" "z" "[I") (by decide +kernel)
  refine lv_aload_n hx hb dX5_queueOf_0 rfl (lv_at hl 0 rfl) ?_
  refine va_get (D := D) (ci := 5) (v := .ref (ad 1)) (C := RX5) (T := TX5) (N := 14) hx hb hts iX5 hown hK hP 0 rfl rfl 1 (by decide) f7 (fun _ h9 => h9) rfl dX5_queueOf_1 ?_
  refine lv_sipush (v := (nI 128)) hx hb dX5_queueOf_4 (by decide) ?_
  refine lv_bipush (v := (nI 9)) hx hb dX5_queueOf_7 (by decide) ?_
  refine lv_iload_n hx hb dX5_queueOf_9 rfl (lv_at hl 1 rfl) ?_
  refine lv_imul hx hb dX5_queueOf_10 ?_
  refine tpe (y := (nI (9 * r))) (pk_mul _ _) ?_
  refine lv_iadd hx hb dX5_queueOf_11 ?_
  refine tpe (y := (nI (128 + (9 * r)))) (nI_add _ _) ?_
  refine r_ild (k := (128 + (9 * r))) hx hb hK hP 1 rfl (by omega) (by decide) dX5_queueOf_12 ?_
  exact ret_i (u := ()) hQ hx hb hrt hlk hS dX5_queueOf_13 hP rfl

abbrev rX5_queuedAt : Room := { frames := 0, cells := 0, slots := 0, locals := 0 }
set_option maxHeartbeats 1000000 in
set_option maxRecDepth 100000 in
theorem c_X5_queuedAt (l : Launch) (D : va_G) (cI cT : ClassId) (ad : Nat → Nat) (th sv ln vs rl cm fi se : Int32) (z zs sd tx ds rg : Nat → Int32) (r k9 : Nat) (h9 : 128 + 9 * r + 1 + k9 < 221) : CN l D cI cT yX5_queuedAt wsX5_queuedAt rX5_queuedAt [.ref (ad 0), .int (nI r), .int (nI k9)] (refW cI ad th sv ln vs rl cm fi se z zs sd tx ds rg) (S := Unit) (fun v _ => v = z (128 + 9 * r + 1 + k9)) (fun _ => refW cI ad th sv ln vs rl cm fi se z zs sd tx ds rg) := by
  refine CN.of (cc := cX5_queuedAt) (maxL := 3) (ret := (some .int)) (by decide) rfl (Nat.le_of_ble_eq_true rfl) ?_
  intro p e s m args below meth c A Q hQ B hA H locs hP hK hD hS ls hl
  obtain ⟨hx, hb, hml, hrt, hts, hown, hlk⟩ := B
  have hP : va_P D vwCl ([(ad 0, .inr (5, [.int th, .ref (ad 1), .ref (ad 2), .ref (ad 3), .int sv, .ref (ad 4), .int ln, .int vs, .ref (ad 5), .ref (ad 6), .int rl, .int cm, .int fi, .int se])), (ad 1, .inl (cI, 221, .inl z)), (ad 2, .inl (cI, 221, .inl zs)), (ad 3, .inl (cI, 1768, .inl sd)), (ad 4, .inl (cI, 80, .inl tx)), (ad 5, .inl (cI, 8, .inl ds)), (ad 6, .inl (cI, 8, .inl rg))]) H := hP
  have hD : va_D A ([(ad 0, .inr (5, [.int th, .ref (ad 1), .ref (ad 2), .ref (ad 3), .int sv, .ref (ad 4), .int ln, .int vs, .ref (ad 5), .ref (ad 6), .int rl, .int cm, .int fi, .int se])), (ad 1, .inl (cI, 221, .inl z)), (ad 2, .inl (cI, 221, .inl zs)), (ad 3, .inl (cI, 1768, .inl sd)), (ad 4, .inl (cI, 80, .inl tx)), (ad 5, .inl (cI, 8, .inl ds)), (ad 6, .inl (cI, 8, .inl rg))]) := hD
  have hl : lv_has ls 3 [(0, .ref (ad 0)), (1, .int (nI r)), (2, .int (nI k9))] := hl
  have iX5 : ∀ w ∈ u_ws RX5 TX5 14, w ∈ wsX5_queuedAt := by decide +kernel
  have f7 := hts (.fieldLink RX5 7 "LockManagerModel" "z" "[I") (by decide +kernel)
  refine lv_aload_n hx hb dX5_queuedAt_0 rfl (lv_at hl 0 rfl) ?_
  refine va_get (D := D) (ci := 5) (v := .ref (ad 1)) (C := RX5) (T := TX5) (N := 14) hx hb hts iX5 hown hK hP 0 rfl rfl 1 (by decide) f7 (fun _ h9 => h9) rfl dX5_queuedAt_1 ?_
  refine lv_sipush (v := (nI 128)) hx hb dX5_queuedAt_4 (by decide) ?_
  refine lv_bipush (v := (nI 9)) hx hb dX5_queuedAt_7 (by decide) ?_
  refine lv_iload_n hx hb dX5_queuedAt_9 rfl (lv_at hl 1 rfl) ?_
  refine lv_imul hx hb dX5_queuedAt_10 ?_
  refine tpe (y := (nI (9 * r))) (pk_mul _ _) ?_
  refine lv_iadd hx hb dX5_queuedAt_11 ?_
  refine tpe (y := (nI (128 + (9 * r)))) (nI_add _ _) ?_
  refine lv_iconst (v := (nI 1)) hx hb dX5_queuedAt_12 (by decide) ?_
  refine lv_iadd hx hb dX5_queuedAt_13 ?_
  refine tpe (y := (nI (128 + (9 * r) + 1))) (nI_add _ _) ?_
  refine lv_iload_n hx hb dX5_queuedAt_14 rfl (lv_at hl 2 rfl) ?_
  refine lv_iadd hx hb dX5_queuedAt_15 ?_
  refine tpe (y := (nI (128 + (9 * r) + 1 + k9))) (nI_add _ _) ?_
  refine r_ild (k := (128 + (9 * r) + 1 + k9)) hx hb hK hP 1 rfl (by omega) (by decide) dX5_queuedAt_16 ?_
  exact ret_i (u := ()) hQ hx hb hrt hlk hS dX5_queuedAt_17 hP rfl

