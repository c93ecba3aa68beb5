abbrev rX4_requireTransaction : Room := { frames := 6, cells := 1, slots := 6, locals := 90 }
set_option maxHeartbeats 4000000 in
set_option maxRecDepth 100000 in
/-- requireTransaction -/
theorem c_X4_requireTransaction (l : Launch) (hflag : l.stackTraces = false) (D : va_G) (cI cT : ClassId) (p0 : Int32)  : CXv l D cI cT yX4_requireTransaction wsX4_requireTransaction rX4_requireTransaction [.int p0] ([]) (S := Unit) (fun _ => inI p0 8 = true) (fun u => []) (fun E => E = xI ∧ inI p0 8 = false) 1 6 := by
  refine CXv.of (cc := cX4_requireTransaction) (maxL := 1) (ret := none) (by decide) rfl (Nat.le_of_ble_eq_true rfl) ?_
  intro p e s m args below meth c A Q hQ B hout hA hXP H locs hP hK hD hS ls hl
  have hQ : Q = vx_MQ below _ _ args s 1 6 A := hQ
  obtain ⟨hx, hb, hml, hrt, hts, hown, hlk⟩ := B
  have hl : lv_has ls 1 [(0, .int p0)] := hl
  have hP : va_P D vwCl ([]) H := hP
  have hD : va_D A ([]) := hD
  refine lv_iload_n hx hb dX4_requireTransaction_0 rfl (lv_at hl 0 rfl) ?_
  refine lv_if_lt (tgt := 10) hx hb dX4_requireTransaction_1 (by decide) (fun h_1 => ?_) (fun h_1 => ?_)
  · have h_1 := h_1
    rw [hQ]
    exact thr (ik := 175) (is := 195) (ic := 179) (cls := xI) (text := "there is no such transaction") (Ts := wsX4_requireTransaction) hx hb hflag hown hts hXP hS (hl.1.trans hml.symm) hout hlk hA (by decide) hXP.2.2.1 (by decide) (hts (.classLink RX4 175 xI) (by decide +kernel)) (hts (.initialized xI) (by decide +kernel)) (by decide +kernel) (by decide +kernel) (by decide +kernel) dX4_requireTransaction_10 dX4_requireTransaction_13 dX4_requireTransaction_14 dX4_requireTransaction_16 dX4_requireTransaction_19 ⟨by decide, by decide, by decide, by decide⟩ hP ⟨rfl, inI_no8 (Or.inl h_1)⟩ ⟨by decide, by decide⟩
  · have h_1 := h_1
    refine lv_iload_n hx hb dX4_requireTransaction_4 rfl (lv_at hl 0 rfl) ?_
    refine lv_bipush (v := (nI 8)) hx hb dX4_requireTransaction_5 (by decide) ?_
    refine lv_icmp_lt (tgt := 20) hx hb dX4_requireTransaction_7 (by decide) (fun h_2 => ?_) (fun h_2 => ?_)
    · have h_2 := h_2
      exact xret_v (u := ()) hQ hx hb hrt hlk hS dX4_requireTransaction_20 hP (inI_of h_1 h_2) ⟨by decide, by decide⟩
    · have h_2 := h_2
      rw [hQ]
      exact thr (ik := 175) (is := 195) (ic := 179) (cls := xI) (text := "there is no such transaction") (Ts := wsX4_requireTransaction) hx hb hflag hown hts hXP hS (hl.1.trans hml.symm) hout hlk hA (by decide) hXP.2.2.1 (by decide) (hts (.classLink RX4 175 xI) (by decide +kernel)) (hts (.initialized xI) (by decide +kernel)) (by decide +kernel) (by decide +kernel) (by decide +kernel) dX4_requireTransaction_10 dX4_requireTransaction_13 dX4_requireTransaction_14 dX4_requireTransaction_16 dX4_requireTransaction_19 ⟨by decide, by decide, by decide, by decide⟩ hP ⟨rfl, inI_no8 (Or.inr h_2)⟩ ⟨by decide, by decide⟩

abbrev rX4_requireResource : Room := { frames := 6, cells := 1, slots := 6, locals := 90 }
set_option maxHeartbeats 4000000 in
set_option maxRecDepth 100000 in
/-- requireResource -/
theorem c_X4_requireResource (l : Launch) (hflag : l.stackTraces = false) (D : va_G) (cI cT : ClassId) (p0 : Int32)  : CXv l D cI cT yX4_requireResource wsX4_requireResource rX4_requireResource [.int p0] ([]) (S := Unit) (fun _ => inI p0 10 = true) (fun u => []) (fun E => E = xI ∧ inI p0 10 = false) 1 6 := by
  refine CXv.of (cc := cX4_requireResource) (maxL := 1) (ret := none) (by decide) rfl (Nat.le_of_ble_eq_true rfl) ?_
  intro p e s m args below meth c A Q hQ B hout hA hXP H locs hP hK hD hS ls hl
  have hQ : Q = vx_MQ below _ _ args s 1 6 A := hQ
  obtain ⟨hx, hb, hml, hrt, hts, hown, hlk⟩ := B
  have hl : lv_has ls 1 [(0, .int p0)] := hl
  have hP : va_P D vwCl ([]) H := hP
  have hD : va_D A ([]) := hD
  refine lv_iload_n hx hb dX4_requireResource_0 rfl (lv_at hl 0 rfl) ?_
  refine lv_if_lt (tgt := 10) hx hb dX4_requireResource_1 (by decide) (fun h_1 => ?_) (fun h_1 => ?_)
  · have h_1 := h_1
    rw [hQ]
    exact thr (ik := 175) (is := 197) (ic := 179) (cls := xI) (text := "there is no such resource") (Ts := wsX4_requireResource) hx hb hflag hown hts hXP hS (hl.1.trans hml.symm) hout hlk hA (by decide) hXP.2.2.1 (by decide) (hts (.classLink RX4 175 xI) (by decide +kernel)) (hts (.initialized xI) (by decide +kernel)) (by decide +kernel) (by decide +kernel) (by decide +kernel) dX4_requireResource_10 dX4_requireResource_13 dX4_requireResource_14 dX4_requireResource_16 dX4_requireResource_19 ⟨by decide, by decide, by decide, by decide⟩ hP ⟨rfl, inI_no10 (Or.inl h_1)⟩ ⟨by decide, by decide⟩
  · have h_1 := h_1
    refine lv_iload_n hx hb dX4_requireResource_4 rfl (lv_at hl 0 rfl) ?_
    refine lv_bipush (v := (nI 10)) hx hb dX4_requireResource_5 (by decide) ?_
    refine lv_icmp_lt (tgt := 20) hx hb dX4_requireResource_7 (by decide) (fun h_2 => ?_) (fun h_2 => ?_)
    · have h_2 := h_2
      exact xret_v (u := ()) hQ hx hb hrt hlk hS dX4_requireResource_20 hP (inI_of10 h_1 h_2) ⟨by decide, by decide⟩
    · have h_2 := h_2
      rw [hQ]
      exact thr (ik := 175) (is := 197) (ic := 179) (cls := xI) (text := "there is no such resource") (Ts := wsX4_requireResource) hx hb hflag hown hts hXP hS (hl.1.trans hml.symm) hout hlk hA (by decide) hXP.2.2.1 (by decide) (hts (.classLink RX4 175 xI) (by decide +kernel)) (hts (.initialized xI) (by decide +kernel)) (by decide +kernel) (by decide +kernel) (by decide +kernel) dX4_requireResource_10 dX4_requireResource_13 dX4_requireResource_14 dX4_requireResource_16 dX4_requireResource_19 ⟨by decide, by decide, by decide, by decide⟩ hP ⟨rfl, inI_no10 (Or.inr h_2)⟩ ⟨by decide, by decide⟩

abbrev rX4_requireState : Room := { frames := 6, cells := 1, slots := 6, locals := 90 }
set_option maxHeartbeats 4000000 in
set_option maxRecDepth 100000 in
/-- requireState -/
theorem c_X4_requireState (l : Launch) (hflag : l.stackTraces = false) (D : va_G) (cI cT : ClassId) (p0 : Int32)  : CXv l D cI cT yX4_requireState wsX4_requireState rX4_requireState [.int p0] ([]) (S := Unit) (fun _ => ¬ p0 = 0) (fun u => []) (fun E => E = xS ∧ p0 = 0) 1 6 := by
  refine CXv.of (cc := cX4_requireState) (maxL := 1) (ret := none) (by decide) rfl (Nat.le_of_ble_eq_true rfl) ?_
  intro p e s m args below meth c A Q hQ B hout hA hXP H locs hP hK hD hS ls hl
  have hQ : Q = vx_MQ below _ _ args s 1 6 A := hQ
  obtain ⟨hx, hb, hml, hrt, hts, hown, hlk⟩ := B
  have hl : lv_has ls 1 [(0, .int p0)] := hl
  have hP : va_P D vwCl ([]) H := hP
  have hD : va_D A ([]) := hD
  refine lv_iload_n hx hb dX4_requireState_0 rfl (lv_at hl 0 rfl) ?_
  refine lv_if_ne (tgt := 14) hx hb dX4_requireState_1 (by decide) (fun h_1 => ?_) (fun h_1 => ?_)
  · have h_1 := h_1
    exact xret_v (u := ()) hQ hx hb hrt hlk hS dX4_requireState_14 hP h_1 ⟨by decide, by decide⟩
  · have h_1 := h_1
    rw [hQ]
    exact thr (ik := 97) (is := 201) (ic := 101) (cls := xS) (text := "the transaction is in another state") (Ts := wsX4_requireState) hx hb hflag hown hts hXP hS (hl.1.trans hml.symm) hout hlk hA (by decide) hXP.2.2.2.2.1 (by decide) (hts (.classLink RX4 97 xS) (by decide +kernel)) (hts (.initialized xS) (by decide +kernel)) (by decide +kernel) (by decide +kernel) (by decide +kernel) dX4_requireState_4 dX4_requireState_7 dX4_requireState_8 dX4_requireState_10 dX4_requireState_13 ⟨by decide, by decide, by decide, by decide⟩ hP ⟨rfl, h_1⟩ ⟨by decide, by decide⟩

abbrev rX4_requireRequest : Room := { frames := 7, cells := 3, slots := 18, locals := 110 }
set_option maxHeartbeats 4000000 in
set_option maxRecDepth 100000 in
/-- requireRequest -/
theorem c_X4_requireRequest (l : Launch) (hflag : l.stackTraces = false) (D : va_G) (cI cT : ClassId) (p0 p1 p2 : Int32)  : CXv l D cI cT yX4_requireRequest wsX4_requireRequest rX4_requireRequest [.int p0, .int p1, .int p2] ([]) (S := Unit) (fun _ => inI p0 8 = true ∧ inI p1 10 = true ∧ mdB p2 = true) (fun u => []) (fun E => (E = xI ∧ (inI p0 8 = false ∨ inI p1 10 = false)) ∨ (E = xA ∧ inI p0 8 = true ∧ inI p1 10 = true ∧ mdB p2 = false)) 3 18 := by
  refine CXv.of (cc := cX4_requireRequest) (maxL := 3) (ret := none) (by decide) rfl (Nat.le_of_ble_eq_true rfl) ?_
  intro p e s m args below meth c A Q hQ B hout hA hXP H locs hP hK hD hS ls hl
  have hQ : Q = vx_MQ below _ _ args s 3 18 A := hQ
  obtain ⟨hx, hb, hml, hrt, hts, hown, hlk⟩ := B
  have hl : lv_has ls 3 [(0, .int p0), (1, .int p1), (2, .int p2)] := hl
  have hP : va_P D vwCl ([]) H := hP
  have hD : va_D A ([]) := hD
  refine lv_iload_n hx hb dX4_requireRequest_0 rfl (lv_at hl 0 rfl) ?_
  rw [hQ]
  refine call_xs (As := [.int p0]) (rest := []) ⟨hx, hb, hml, hown, hts⟩ (c_X4_requireTransaction l hflag D cI cT p0) (cwS 1 hts gX4_requireRequest_X4_requireTransaction rfl rfl rfl (by decide +kernel) ⟨Nat.le_of_ble_eq_true rfl, Nat.le_of_ble_eq_true rfl⟩) hK hP hP hS hA hXP hout hlk rfl hl.1 rfl (Nat.le_of_ble_eq_true rfl) ⟨by decide, by decide⟩ dX4_requireRequest_1 ⟨by decide, by decide⟩ (fun E hE => Or.inl ⟨hE.1, Or.inl hE.2⟩) (fun _ H locs hp hP _ hS => ?_)
  rw [← hQ]
  have hp0 : inI p0 8 = true := hp
  have hP : va_P D vwCl ([]) H := hP
  refine lv_iload_n hx hb dX4_requireRequest_4 rfl (lv_at hl 1 rfl) ?_
  rw [hQ]
  refine call_xs (As := [.int p1]) (rest := []) ⟨hx, hb, hml, hown, hts⟩ (c_X4_requireResource l hflag D cI cT p1) (cwS 1 hts gX4_requireRequest_X4_requireResource rfl rfl rfl (by decide +kernel) ⟨Nat.le_of_ble_eq_true rfl, Nat.le_of_ble_eq_true rfl⟩) hK hP hP hS hA hXP hout hlk rfl hl.1 rfl (Nat.le_of_ble_eq_true rfl) ⟨by decide, by decide⟩ dX4_requireRequest_5 ⟨by decide, by decide⟩ (fun E hE => Or.inl ⟨hE.1, Or.inr hE.2⟩) (fun _ H locs hp hP _ hS => ?_)
  rw [← hQ]
  have hp1 : inI p1 10 = true := hp
  have hP : va_P D vwCl ([]) H := hP
  refine lv_iload_n hx hb dX4_requireRequest_8 rfl (lv_at hl 2 rfl) ?_
  refine lv_iconst (v := (nI 1)) hx hb dX4_requireRequest_9 (by decide) ?_
  refine lv_icmp_eq (tgt := 28) hx hb dX4_requireRequest_10 (by decide) (fun h_1 => ?_) (fun h_1 => ?_)
  · have h_1 := h_1
    exact xret_v (u := ()) hQ hx hb hrt hlk hS dX4_requireRequest_28 hP ⟨hp0, hp1, md_y (Or.inl h_1)⟩ ⟨by decide, by decide⟩
  · have h_1 := h_1
    refine lv_iload_n hx hb dX4_requireRequest_13 rfl (lv_at hl 2 rfl) ?_
    refine lv_iconst (v := (nI 2)) hx hb dX4_requireRequest_14 (by decide) ?_
    refine lv_icmp_eq (tgt := 28) hx hb dX4_requireRequest_15 (by decide) (fun h_2 => ?_) (fun h_2 => ?_)
    · have h_2 := h_2
      exact xret_v (u := ()) hQ hx hb hrt hlk hS dX4_requireRequest_28 hP ⟨hp0, hp1, md_y (Or.inr h_2)⟩ ⟨by decide, by decide⟩
    · have h_2 := h_2
      rw [hQ]
      exact thr (ik := 75) (is := 199) (ic := 79) (cls := xA) (text := "the mode is neither SHARED nor EXCLUSIVE") (Ts := wsX4_requireRequest) hx hb hflag hown hts hXP hS (hl.1.trans hml.symm) hout hlk hA (by decide) hXP.2.2.2.1 (by decide) (hts (.classLink RX4 75 xA) (by decide +kernel)) (hts (.initialized xA) (by decide +kernel)) (by decide +kernel) (by decide +kernel) (by decide +kernel) dX4_requireRequest_18 dX4_requireRequest_21 dX4_requireRequest_22 dX4_requireRequest_24 dX4_requireRequest_27 ⟨by decide, by decide, by decide, by decide⟩ hP (Or.inr ⟨rfl, hp0, hp1, md_no h_1 h_2⟩) ⟨by decide, by decide⟩

