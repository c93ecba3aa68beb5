/-! the wrappers -/
abbrev rL_begin : Room := { frames := 8, cells := 2, slots := 12, locals := 131 }
set_option maxHeartbeats 1000000 in
set_option maxRecDepth 100000 in
theorem c_L_begin (l : Launch) (hflag : l.stackTraces = false) (D : va_G) (cI cT cL : ClassId) (xo ta tr br tx hi : Nat → Nat) (ra : Nat → Nat → Nat) (s0 : ST) (j0 : JT) (p0 : Int32) (hL : LR s0 j0) : CW l D cI cT cL yL_begin wsL_begin rL_begin [.ref (xo 0), .int p0] (lmW cI cT xo ta tr br tx hi ra s0 j0) (S := JT) (fun v u => v = wv (-31) (-33) 0 (opBegin s0 p0) ∧ LR (opBegin s0 p0).2.2 u) (fun u => lmW cI cT xo ta tr br tx hi ra (opBegin s0 p0).2.2 u) 2 12 := by
  have hro := ro_Begin (s := s0) (p0 := p0)
  refine CW.of (cc := cL_begin) (maxL := 4) (ret := some .int) (hh := [(0, 6, 9, 15), (0, 6, 13, 17)]) (by decide) rfl (Nat.le_of_ble_eq_true rfl) ?_
  intro p e s m args below meth c A Q hQ B htab hA hX H locs hP hK hD hS ls hl
  obtain ⟨hx, hb, hml, hrt, hts, hown, hlk⟩ := B
  have hl : lv_has ls 4 [(0, .ref (xo 0)), (1, .int p0)] := hl
  refine lv_aload_n hx hb dL_begin_0 rfl (lv_at hl 0 rfl) ?_
  refine lv_iload_n hx hb dL_begin_1 rfl (lv_at hl 1 rfl) ?_
  refine call_cj (SX := Unit) (X := []) (Wc := lmW cI cT xo ta tr br tx hi ra s0 j0) (Z := []) (pj := (fun _ E => ¬ (opBegin s0 p0).1 = 0 ∧ E = exIS (opBegin s0 p0).1)) (Wx := (fun _ => lmW cI cT xo ta tr br tx hi ra s0 j0)) (As := [.int p0]) (rest := []) ⟨hx, hb, hml, hown, hts⟩ (c_X4_begin l hflag D cI cT xo ta tr br tx hi ra s0 j0 p0 hL) (cwV 1 hts gL_begin_X4_begin rfl rfl rfl (by decide +kernel) ⟨Nat.le_of_ble_eq_true rfl, Nat.le_of_ble_eq_true rfl⟩) (hK.sub (tys' := TY cI cT) [0, 1] rfl) (P_nilE hP) (D_nilE hD) hS hA hX.1 (va_recv hK hP (ci := 4) (q0 := 0) rfl rfl) (fun _ => adr_lm) (fun _ => adr_lm) rfl hl.1 rfl (Nat.le_of_ble_eq_true rfl) ⟨by decide, by decide⟩ dL_begin_2 (fun E ce q9 u H locs hpx hP hD hS hce hv hcl => ?_) (fun r u H locs hp hP hD hS => ?_)
  · obtain ⟨hne, hE⟩ := hpx
    have hP := P_nil hP; have hD := D_nil hD
    have hle := hro.1
    rcases (show (opBegin s0 p0).1 = 1 ∨ (opBegin s0 p0).1 = 2 by omega) with h9 | h9
    · have hE : E = xI := by rw [hE, h9]; rfl
      rw [hE] at hcl
      refine catI hown hX (htab.trans rfl) (by decide) (by decide) (hts (.classLink RL 15 xI) (by decide +kernel)) hce hv hcl ?_
      refine lv_astore_n (lv' := [(3, .ref q9), (0, .ref (xo 0)), (1, .int p0)]) hx hb dL_begin_9 rfl hl (by decide) rfl (fun ls hl => ?_)
      refine lv_bipush (v := (-31)) hx hb dL_begin_10 (by decide) ?_
      exact wret (u := j0) hQ hx hb hrt hlk hS dL_begin_12 (by rw [hro.2 hne]; exact hP) ⟨(wv_1 h9).symm, by rw [hro.2 hne]; exact hL⟩ ⟨by decide, by decide⟩
    · have hE : E = xS := by rw [hE, h9]; rfl
      rw [hE] at hcl
      refine cat2 hown hX.2.2.1 hX.kS (htab.trans rfl) (by decide) (by decide) (by decide) (hts (.classLink RL 15 xI) (by decide +kernel)) (hts (.classLink RL 17 xS) (by decide +kernel)) hce hv hcl ?_
      refine lv_astore_n (lv' := [(3, .ref q9), (0, .ref (xo 0)), (1, .int p0)]) hx hb dL_begin_13 rfl hl (by decide) rfl (fun ls hl => ?_)
      refine lv_bipush (v := (-33)) hx hb dL_begin_14 (by decide) ?_
      exact wret (u := j0) hQ hx hb hrt hlk hS dL_begin_16 (by rw [hro.2 hne]; exact hP) ⟨(wv_2 h9).symm, by rw [hro.2 hne]; exact hL⟩ ⟨by decide, by decide⟩
  · obtain ⟨h0, rfl, hLu⟩ := hp
    have hP := P_nil hP; have hD := D_nil hD
    refine lv_istore_n (lv' := [(2, .int (opBegin s0 p0).2.1), (0, .ref (xo 0)), (1, .int p0)]) hx hb dL_begin_5 rfl hl (by decide) rfl (fun ls hl => ?_)
    refine lv_goto (tgt := 17) hx hb dL_begin_6 (by decide) ?_
    refine lv_iload_n hx hb dL_begin_17 rfl (lv_at hl 0 rfl) ?_
    exact wret (u := u) hQ hx hb hrt hlk hS dL_begin_18 hP ⟨(wv_0 h0).symm, hLu⟩ ⟨by decide, by decide⟩
abbrev rL_request : Room := { frames := 9, cells := 4, slots := 24, locals := 155 }
set_option maxHeartbeats 1000000 in
set_option maxRecDepth 100000 in
theorem c_L_request (l : Launch) (hflag : l.stackTraces = false) (D : va_G) (cI cT cL : ClassId) (xo ta tr br tx hi : Nat → Nat) (ra : Nat → Nat → Nat) (s0 : ST) (j0 : JT) (p0 p1 p2 : Int32) (hL : LR s0 j0) : CW l D cI cT cL yL_request wsL_request rL_request [.ref (xo 0), .int p0, .int p1, .int p2] (lmW cI cT xo ta tr br tx hi ra s0 j0) (S := JT) (fun v u => v = wv (-31) (-32) (-33) (opRequest s0 p0 p1 p2) ∧ LR (opRequest s0 p0 p1 p2).2.2 u) (fun u => lmW cI cT xo ta tr br tx hi ra (opRequest s0 p0 p1 p2).2.2 u) 4 24 := by
  have hro := ro_Request (s := s0) (p0 := p0) (p1 := p1) (p2 := p2)
  refine CW.of (cc := cL_request) (maxL := 6) (ret := some .int) (hh := [(0, 9, 12, 15), (0, 9, 17, 23), (0, 9, 22, 17)]) (by decide) rfl (Nat.le_of_ble_eq_true rfl) ?_
  intro p e s m args below meth c A Q hQ B htab hA hX H locs hP hK hD hS ls hl
  obtain ⟨hx, hb, hml, hrt, hts, hown, hlk⟩ := B
  have hl : lv_has ls 6 [(0, .ref (xo 0)), (1, .int p0), (2, .int p1), (3, .int p2)] := hl
  refine lv_aload_n hx hb dL_request_0 rfl (lv_at hl 0 rfl) ?_
  refine lv_iload_n hx hb dL_request_1 rfl (lv_at hl 1 rfl) ?_
  refine lv_iload_n hx hb dL_request_2 rfl (lv_at hl 2 rfl) ?_
  refine lv_iload_n hx hb dL_request_3 rfl (lv_at hl 3 rfl) ?_
  refine call_cj (SX := Unit) (X := []) (Wc := lmW cI cT xo ta tr br tx hi ra s0 j0) (Z := []) (pj := (fun _ E => ¬ (opRequest s0 p0 p1 p2).1 = 0 ∧ E = exIAS (opRequest s0 p0 p1 p2).1)) (Wx := (fun _ => lmW cI cT xo ta tr br tx hi ra s0 j0)) (As := [.int p0, .int p1, .int p2]) (rest := []) ⟨hx, hb, hml, hown, hts⟩ (c_X4_request l hflag D cI cT xo ta tr br tx hi ra s0 j0 p0 p1 p2 hL) (cwV 3 hts gL_request_X4_request rfl rfl rfl (by decide +kernel) ⟨Nat.le_of_ble_eq_true rfl, Nat.le_of_ble_eq_true rfl⟩) (hK.sub (tys' := TY cI cT) [0, 1] rfl) (P_nilE hP) (D_nilE hD) hS hA hX.1 (va_recv hK hP (ci := 4) (q0 := 0) rfl rfl) (fun _ => adr_lm) (fun _ => adr_lm) rfl hl.1 rfl (Nat.le_of_ble_eq_true rfl) ⟨by decide, by decide⟩ dL_request_4 (fun E ce q9 u H locs hpx hP hD hS hce hv hcl => ?_) (fun r u H locs hp hP hD hS => ?_)
  · obtain ⟨hne, hE⟩ := hpx
    have hP := P_nil hP; have hD := D_nil hD
    have hle := hro.1
    rcases (show (opRequest s0 p0 p1 p2).1 = 1 ∨ (opRequest s0 p0 p1 p2).1 = 2 ∨ (opRequest s0 p0 p1 p2).1 = 3 by omega) with h9 | h9 | h9
    · have hE : E = xI := by rw [hE, h9]; rfl
      rw [hE] at hcl
      refine catI hown hX (htab.trans rfl) (by decide) (by decide) (hts (.classLink RL 15 xI) (by decide +kernel)) hce hv hcl ?_
      refine lv_astore (lv' := [(5, .ref q9), (0, .ref (xo 0)), (1, .int p0), (2, .int p1), (3, .int p2)]) hx hb dL_request_12 hl (by decide) rfl (fun ls hl => ?_)
      refine lv_bipush (v := (-31)) hx hb dL_request_14 (by decide) ?_
      exact wret (u := j0) hQ hx hb hrt hlk hS dL_request_16 (by rw [hro.2 hne]; exact hP) ⟨(wv_1 h9).symm, by rw [hro.2 hne]; exact hL⟩ ⟨by decide, by decide⟩
    · have hE : E = xA := by rw [hE, h9]; rfl
      rw [hE] at hcl
      refine cat2 hown hX.2.1 hX.kA (htab.trans rfl) (by decide) (by decide) (by decide) (hts (.classLink RL 15 xI) (by decide +kernel)) (hts (.classLink RL 23 xA) (by decide +kernel)) hce hv hcl ?_
      refine lv_astore (lv' := [(5, .ref q9), (0, .ref (xo 0)), (1, .int p0), (2, .int p1), (3, .int p2)]) hx hb dL_request_17 hl (by decide) rfl (fun ls hl => ?_)
      refine lv_bipush (v := (-32)) hx hb dL_request_19 (by decide) ?_
      exact wret (u := j0) hQ hx hb hrt hlk hS dL_request_21 (by rw [hro.2 hne]; exact hP) ⟨(wv_2 h9).symm, by rw [hro.2 hne]; exact hL⟩ ⟨by decide, by decide⟩
    · have hE : E = xS := by rw [hE, h9]; rfl
      rw [hE] at hcl
      refine cat3 hown hX.2.2.1 hX.2.2.2 hX.kS (htab.trans rfl) (by decide) (by decide) (by decide) (by decide) (hts (.classLink RL 15 xI) (by decide +kernel)) (hts (.classLink RL 23 xA) (by decide +kernel)) (hts (.classLink RL 17 xS) (by decide +kernel)) hce hv hcl ?_
      refine lv_astore (lv' := [(5, .ref q9), (0, .ref (xo 0)), (1, .int p0), (2, .int p1), (3, .int p2)]) hx hb dL_request_22 hl (by decide) rfl (fun ls hl => ?_)
      refine lv_bipush (v := (-33)) hx hb dL_request_24 (by decide) ?_
      exact wret (u := j0) hQ hx hb hrt hlk hS dL_request_26 (by rw [hro.2 hne]; exact hP) ⟨(wv_3 h9).symm, by rw [hro.2 hne]; exact hL⟩ ⟨by decide, by decide⟩
  · obtain ⟨h0, rfl, hLu⟩ := hp
    have hP := P_nil hP; have hD := D_nil hD
    refine lv_istore (lv' := [(4, .int (opRequest s0 p0 p1 p2).2.1), (0, .ref (xo 0)), (1, .int p0), (2, .int p1), (3, .int p2)]) hx hb dL_request_7 hl (by decide) rfl (fun ls hl => ?_)
    refine lv_goto (tgt := 27) hx hb dL_request_9 (by decide) ?_
    refine lv_iload hx hb dL_request_27 (lv_at hl 0 rfl) ?_
    exact wret (u := u) hQ hx hb hrt hlk hS dL_request_29 hP ⟨(wv_0 h0).symm, hLu⟩ ⟨by decide, by decide⟩
abbrev rL_work : Room := { frames := 8, cells := 3, slots := 18, locals := 132 }
set_option maxHeartbeats 1000000 in
set_option maxRecDepth 100000 in
theorem c_L_work (l : Launch) (hflag : l.stackTraces = false) (D : va_G) (cI cT cL : ClassId) (xo ta tr br tx hi : Nat → Nat) (ra : Nat → Nat → Nat) (s0 : ST) (j0 : JT) (p0 p1 : Int32) (hL : LR s0 j0) : CW l D cI cT cL yL_work wsL_work rL_work [.ref (xo 0), .int p0, .int p1] (lmW cI cT xo ta tr br tx hi ra s0 j0) (S := JT) (fun v u => v = wv (-31) (-32) (-33) (opWork s0 p0 p1) ∧ LR (opWork s0 p0 p1).2.2 u) (fun u => lmW cI cT xo ta tr br tx hi ra (opWork s0 p0 p1).2.2 u) 3 18 := by
  have hro := ro_Work (s := s0) (p0 := p0) (p1 := p1)
  refine CW.of (cc := cL_work) (maxL := 5) (ret := some .int) (hh := [(0, 7, 10, 15), (0, 7, 15, 23), (0, 7, 20, 17)]) (by decide) rfl (Nat.le_of_ble_eq_true rfl) ?_
  intro p e s m args below meth c A Q hQ B htab hA hX H locs hP hK hD hS ls hl
  obtain ⟨hx, hb, hml, hrt, hts, hown, hlk⟩ := B
  have hl : lv_has ls 5 [(0, .ref (xo 0)), (1, .int p0), (2, .int p1)] := hl
  refine lv_aload_n hx hb dL_work_0 rfl (lv_at hl 0 rfl) ?_
  refine lv_iload_n hx hb dL_work_1 rfl (lv_at hl 1 rfl) ?_
  refine lv_iload_n hx hb dL_work_2 rfl (lv_at hl 2 rfl) ?_
  refine call_cj (SX := Unit) (X := []) (Wc := lmW cI cT xo ta tr br tx hi ra s0 j0) (Z := []) (pj := (fun _ E => ¬ (opWork s0 p0 p1).1 = 0 ∧ E = exIAS (opWork s0 p0 p1).1)) (Wx := (fun _ => lmW cI cT xo ta tr br tx hi ra s0 j0)) (As := [.int p0, .int p1]) (rest := []) ⟨hx, hb, hml, hown, hts⟩ (c_X4_work l hflag D cI cT xo ta tr br tx hi ra s0 j0 p0 p1 hL) (cwV 2 hts gL_work_X4_work rfl rfl rfl (by decide +kernel) ⟨Nat.le_of_ble_eq_true rfl, Nat.le_of_ble_eq_true rfl⟩) (hK.sub (tys' := TY cI cT) [0, 1] rfl) (P_nilE hP) (D_nilE hD) hS hA hX.1 (va_recv hK hP (ci := 4) (q0 := 0) rfl rfl) (fun _ => adr_lm) (fun _ => adr_lm) rfl hl.1 rfl (Nat.le_of_ble_eq_true rfl) ⟨by decide, by decide⟩ dL_work_3 (fun E ce q9 u H locs hpx hP hD hS hce hv hcl => ?_) (fun r u H locs hp hP hD hS => ?_)
  · obtain ⟨hne, hE⟩ := hpx
    have hP := P_nil hP; have hD := D_nil hD
    have hle := hro.1
    rcases (show (opWork s0 p0 p1).1 = 1 ∨ (opWork s0 p0 p1).1 = 2 ∨ (opWork s0 p0 p1).1 = 3 by omega) with h9 | h9 | h9
    · have hE : E = xI := by rw [hE, h9]; rfl
      rw [hE] at hcl
      refine catI hown hX (htab.trans rfl) (by decide) (by decide) (hts (.classLink RL 15 xI) (by decide +kernel)) hce hv hcl ?_
      refine lv_astore (lv' := [(4, .ref q9), (0, .ref (xo 0)), (1, .int p0), (2, .int p1)]) hx hb dL_work_10 hl (by decide) rfl (fun ls hl => ?_)
      refine lv_bipush (v := (-31)) hx hb dL_work_12 (by decide) ?_
      exact wret (u := j0) hQ hx hb hrt hlk hS dL_work_14 (by rw [hro.2 hne]; exact hP) ⟨(wv_1 h9).symm, by rw [hro.2 hne]; exact hL⟩ ⟨by decide, by decide⟩
    · have hE : E = xA := by rw [hE, h9]; rfl
      rw [hE] at hcl
      refine cat2 hown hX.2.1 hX.kA (htab.trans rfl) (by decide) (by decide) (by decide) (hts (.classLink RL 15 xI) (by decide +kernel)) (hts (.classLink RL 23 xA) (by decide +kernel)) hce hv hcl ?_
      refine lv_astore (lv' := [(4, .ref q9), (0, .ref (xo 0)), (1, .int p0), (2, .int p1)]) hx hb dL_work_15 hl (by decide) rfl (fun ls hl => ?_)
      refine lv_bipush (v := (-32)) hx hb dL_work_17 (by decide) ?_
      exact wret (u := j0) hQ hx hb hrt hlk hS dL_work_19 (by rw [hro.2 hne]; exact hP) ⟨(wv_2 h9).symm, by rw [hro.2 hne]; exact hL⟩ ⟨by decide, by decide⟩
    · have hE : E = xS := by rw [hE, h9]; rfl
      rw [hE] at hcl
      refine cat3 hown hX.2.2.1 hX.2.2.2 hX.kS (htab.trans rfl) (by decide) (by decide) (by decide) (by decide) (hts (.classLink RL 15 xI) (by decide +kernel)) (hts (.classLink RL 23 xA) (by decide +kernel)) (hts (.classLink RL 17 xS) (by decide +kernel)) hce hv hcl ?_
      refine lv_astore (lv' := [(4, .ref q9), (0, .ref (xo 0)), (1, .int p0), (2, .int p1)]) hx hb dL_work_20 hl (by decide) rfl (fun ls hl => ?_)
      refine lv_bipush (v := (-33)) hx hb dL_work_22 (by decide) ?_
      exact wret (u := j0) hQ hx hb hrt hlk hS dL_work_24 (by rw [hro.2 hne]; exact hP) ⟨(wv_3 h9).symm, by rw [hro.2 hne]; exact hL⟩ ⟨by decide, by decide⟩
  · obtain ⟨h0, rfl, hLu⟩ := hp
    have hP := P_nil hP; have hD := D_nil hD
    refine lv_istore_n (lv' := [(3, .int (opWork s0 p0 p1).2.1), (0, .ref (xo 0)), (1, .int p0), (2, .int p1)]) hx hb dL_work_6 rfl hl (by decide) rfl (fun ls hl => ?_)
    refine lv_goto (tgt := 25) hx hb dL_work_7 (by decide) ?_
    refine lv_iload_n hx hb dL_work_25 rfl (lv_at hl 0 rfl) ?_
    exact wret (u := u) hQ hx hb hrt hlk hS dL_work_26 hP ⟨(wv_0 h0).symm, hLu⟩ ⟨by decide, by decide⟩
abbrev rL_withdraw : Room := { frames := 8, cells := 2, slots := 12, locals := 131 }
set_option maxHeartbeats 1000000 in
set_option maxRecDepth 100000 in
theorem c_L_withdraw (l : Launch) (hflag : l.stackTraces = false) (D : va_G) (cI cT cL : ClassId) (xo ta tr br tx hi : Nat → Nat) (ra : Nat → Nat → Nat) (s0 : ST) (j0 : JT) (p0 : Int32) (hL : LR s0 j0) : CW l D cI cT cL yL_withdraw wsL_withdraw rL_withdraw [.ref (xo 0), .int p0] (lmW cI cT xo ta tr br tx hi ra s0 j0) (S := JT) (fun v u => v = wv (-31) (-33) 0 (opWithdraw s0 p0) ∧ LR (opWithdraw s0 p0).2.2 u) (fun u => lmW cI cT xo ta tr br tx hi ra (opWithdraw s0 p0).2.2 u) 2 12 := by
  have hro := ro_Withdraw (s := s0) (p0 := p0)
  refine CW.of (cc := cL_withdraw) (maxL := 4) (ret := some .int) (hh := [(0, 6, 9, 15), (0, 6, 13, 17)]) (by decide) rfl (Nat.le_of_ble_eq_true rfl) ?_
  intro p e s m args below meth c A Q hQ B htab hA hX H locs hP hK hD hS ls hl
  obtain ⟨hx, hb, hml, hrt, hts, hown, hlk⟩ := B
  have hl : lv_has ls 4 [(0, .ref (xo 0)), (1, .int p0)] := hl
  refine lv_aload_n hx hb dL_withdraw_0 rfl (lv_at hl 0 rfl) ?_
  refine lv_iload_n hx hb dL_withdraw_1 rfl (lv_at hl 1 rfl) ?_
  refine call_cj (SX := Unit) (X := []) (Wc := lmW cI cT xo ta tr br tx hi ra s0 j0) (Z := []) (pj := (fun _ E => ¬ (opWithdraw s0 p0).1 = 0 ∧ E = exIS (opWithdraw s0 p0).1)) (Wx := (fun _ => lmW cI cT xo ta tr br tx hi ra s0 j0)) (As := [.int p0]) (rest := []) ⟨hx, hb, hml, hown, hts⟩ (c_X4_withdraw l hflag D cI cT xo ta tr br tx hi ra s0 j0 p0 hL) (cwV 1 hts gL_withdraw_X4_withdraw rfl rfl rfl (by decide +kernel) ⟨Nat.le_of_ble_eq_true rfl, Nat.le_of_ble_eq_true rfl⟩) (hK.sub (tys' := TY cI cT) [0, 1] rfl) (P_nilE hP) (D_nilE hD) hS hA hX.1 (va_recv hK hP (ci := 4) (q0 := 0) rfl rfl) (fun _ => adr_lm) (fun _ => adr_lm) rfl hl.1 rfl (Nat.le_of_ble_eq_true rfl) ⟨by decide, by decide⟩ dL_withdraw_2 (fun E ce q9 u H locs hpx hP hD hS hce hv hcl => ?_) (fun r u H locs hp hP hD hS => ?_)
  · obtain ⟨hne, hE⟩ := hpx
    have hP := P_nil hP; have hD := D_nil hD
    have hle := hro.1
    rcases (show (opWithdraw s0 p0).1 = 1 ∨ (opWithdraw s0 p0).1 = 2 by omega) with h9 | h9
    · have hE : E = xI := by rw [hE, h9]; rfl
      rw [hE] at hcl
      refine catI hown hX (htab.trans rfl) (by decide) (by decide) (hts (.classLink RL 15 xI) (by decide +kernel)) hce hv hcl ?_
      refine lv_astore_n (lv' := [(3, .ref q9), (0, .ref (xo 0)), (1, .int p0)]) hx hb dL_withdraw_9 rfl hl (by decide) rfl (fun ls hl => ?_)
      refine lv_bipush (v := (-31)) hx hb dL_withdraw_10 (by decide) ?_
      exact wret (u := j0) hQ hx hb hrt hlk hS dL_withdraw_12 (by rw [hro.2 hne]; exact hP) ⟨(wv_1 h9).symm, by rw [hro.2 hne]; exact hL⟩ ⟨by decide, by decide⟩
    · have hE : E = xS := by rw [hE, h9]; rfl
      rw [hE] at hcl
      refine cat2 hown hX.2.2.1 hX.kS (htab.trans rfl) (by decide) (by decide) (by decide) (hts (.classLink RL 15 xI) (by decide +kernel)) (hts (.classLink RL 17 xS) (by decide +kernel)) hce hv hcl ?_
      refine lv_astore_n (lv' := [(3, .ref q9), (0, .ref (xo 0)), (1, .int p0)]) hx hb dL_withdraw_13 rfl hl (by decide) rfl (fun ls hl => ?_)
      refine lv_bipush (v := (-33)) hx hb dL_withdraw_14 (by decide) ?_
      exact wret (u := j0) hQ hx hb hrt hlk hS dL_withdraw_16 (by rw [hro.2 hne]; exact hP) ⟨(wv_2 h9).symm, by rw [hro.2 hne]; exact hL⟩ ⟨by decide, by decide⟩
  · obtain ⟨h0, rfl, hLu⟩ := hp
    have hP := P_nil hP; have hD := D_nil hD
    refine lv_istore_n (lv' := [(2, .int (opWithdraw s0 p0).2.1), (0, .ref (xo 0)), (1, .int p0)]) hx hb dL_withdraw_5 rfl hl (by decide) rfl (fun ls hl => ?_)
    refine lv_goto (tgt := 17) hx hb dL_withdraw_6 (by decide) ?_
    refine lv_iload_n hx hb dL_withdraw_17 rfl (lv_at hl 0 rfl) ?_
    exact wret (u := u) hQ hx hb hrt hlk hS dL_withdraw_18 hP ⟨(wv_0 h0).symm, hLu⟩ ⟨by decide, by decide⟩
abbrev rL_commit : Room := { frames := 8, cells := 2, slots := 12, locals := 131 }
set_option maxHeartbeats 1000000 in
set_option maxRecDepth 100000 in
theorem c_L_commit (l : Launch) (hflag : l.stackTraces = false) (D : va_G) (cI cT cL : ClassId) (xo ta tr br tx hi : Nat → Nat) (ra : Nat → Nat → Nat) (s0 : ST) (j0 : JT) (p0 : Int32) (hL : LR s0 j0) : CW l D cI cT cL yL_commit wsL_commit rL_commit [.ref (xo 0), .int p0] (lmW cI cT xo ta tr br tx hi ra s0 j0) (S := JT) (fun v u => v = wv (-31) (-33) 0 (opCommit s0 p0) ∧ LR (opCommit s0 p0).2.2 u) (fun u => lmW cI cT xo ta tr br tx hi ra (opCommit s0 p0).2.2 u) 2 12 := by
  have hro := ro_Commit (s := s0) (p0 := p0)
  refine CW.of (cc := cL_commit) (maxL := 4) (ret := some .int) (hh := [(0, 6, 9, 15), (0, 6, 13, 17)]) (by decide) rfl (Nat.le_of_ble_eq_true rfl) ?_
  intro p e s m args below meth c A Q hQ B htab hA hX H locs hP hK hD hS ls hl
  obtain ⟨hx, hb, hml, hrt, hts, hown, hlk⟩ := B
  have hl : lv_has ls 4 [(0, .ref (xo 0)), (1, .int p0)] := hl
  refine lv_aload_n hx hb dL_commit_0 rfl (lv_at hl 0 rfl) ?_
  refine lv_iload_n hx hb dL_commit_1 rfl (lv_at hl 1 rfl) ?_
  refine call_cj (SX := Unit) (X := []) (Wc := lmW cI cT xo ta tr br tx hi ra s0 j0) (Z := []) (pj := (fun _ E => ¬ (opCommit s0 p0).1 = 0 ∧ E = exIS (opCommit s0 p0).1)) (Wx := (fun _ => lmW cI cT xo ta tr br tx hi ra s0 j0)) (As := [.int p0]) (rest := []) ⟨hx, hb, hml, hown, hts⟩ (c_X4_commit l hflag D cI cT xo ta tr br tx hi ra s0 j0 p0 hL) (cwV 1 hts gL_commit_X4_commit rfl rfl rfl (by decide +kernel) ⟨Nat.le_of_ble_eq_true rfl, Nat.le_of_ble_eq_true rfl⟩) (hK.sub (tys' := TY cI cT) [0, 1] rfl) (P_nilE hP) (D_nilE hD) hS hA hX.1 (va_recv hK hP (ci := 4) (q0 := 0) rfl rfl) (fun _ => adr_lm) (fun _ => adr_lm) rfl hl.1 rfl (Nat.le_of_ble_eq_true rfl) ⟨by decide, by decide⟩ dL_commit_2 (fun E ce q9 u H locs hpx hP hD hS hce hv hcl => ?_) (fun r u H locs hp hP hD hS => ?_)
  · obtain ⟨hne, hE⟩ := hpx
    have hP := P_nil hP; have hD := D_nil hD
    have hle := hro.1
    rcases (show (opCommit s0 p0).1 = 1 ∨ (opCommit s0 p0).1 = 2 by omega) with h9 | h9
    · have hE : E = xI := by rw [hE, h9]; rfl
      rw [hE] at hcl
      refine catI hown hX (htab.trans rfl) (by decide) (by decide) (hts (.classLink RL 15 xI) (by decide +kernel)) hce hv hcl ?_
      refine lv_astore_n (lv' := [(3, .ref q9), (0, .ref (xo 0)), (1, .int p0)]) hx hb dL_commit_9 rfl hl (by decide) rfl (fun ls hl => ?_)
      refine lv_bipush (v := (-31)) hx hb dL_commit_10 (by decide) ?_
      exact wret (u := j0) hQ hx hb hrt hlk hS dL_commit_12 (by rw [hro.2 hne]; exact hP) ⟨(wv_1 h9).symm, by rw [hro.2 hne]; exact hL⟩ ⟨by decide, by decide⟩
    · have hE : E = xS := by rw [hE, h9]; rfl
      rw [hE] at hcl
      refine cat2 hown hX.2.2.1 hX.kS (htab.trans rfl) (by decide) (by decide) (by decide) (hts (.classLink RL 15 xI) (by decide +kernel)) (hts (.classLink RL 17 xS) (by decide +kernel)) hce hv hcl ?_
      refine lv_astore_n (lv' := [(3, .ref q9), (0, .ref (xo 0)), (1, .int p0)]) hx hb dL_commit_13 rfl hl (by decide) rfl (fun ls hl => ?_)
      refine lv_bipush (v := (-33)) hx hb dL_commit_14 (by decide) ?_
      exact wret (u := j0) hQ hx hb hrt hlk hS dL_commit_16 (by rw [hro.2 hne]; exact hP) ⟨(wv_2 h9).symm, by rw [hro.2 hne]; exact hL⟩ ⟨by decide, by decide⟩
  · obtain ⟨h0, rfl, hLu⟩ := hp
    have hP := P_nil hP; have hD := D_nil hD
    refine lv_istore_n (lv' := [(2, .int (opCommit s0 p0).2.1), (0, .ref (xo 0)), (1, .int p0)]) hx hb dL_commit_5 rfl hl (by decide) rfl (fun ls hl => ?_)
    refine lv_goto (tgt := 17) hx hb dL_commit_6 (by decide) ?_
    refine lv_iload_n hx hb dL_commit_17 rfl (lv_at hl 0 rfl) ?_
    exact wret (u := u) hQ hx hb hrt hlk hS dL_commit_18 hP ⟨(wv_0 h0).symm, hLu⟩ ⟨by decide, by decide⟩
abbrev rL_rollBack : Room := { frames := 8, cells := 2, slots := 12, locals := 131 }
set_option maxHeartbeats 1000000 in
set_option maxRecDepth 100000 in
theorem c_L_rollBack (l : Launch) (hflag : l.stackTraces = false) (D : va_G) (cI cT cL : ClassId) (xo ta tr br tx hi : Nat → Nat) (ra : Nat → Nat → Nat) (s0 : ST) (j0 : JT) (p0 : Int32) (hL : LR s0 j0) : CW l D cI cT cL yL_rollBack wsL_rollBack rL_rollBack [.ref (xo 0), .int p0] (lmW cI cT xo ta tr br tx hi ra s0 j0) (S := JT) (fun v u => v = wv (-31) (-33) 0 (opRollBack s0 p0) ∧ LR (opRollBack s0 p0).2.2 u) (fun u => lmW cI cT xo ta tr br tx hi ra (opRollBack s0 p0).2.2 u) 2 12 := by
  have hro := ro_RollBack (s := s0) (p0 := p0)
  refine CW.of (cc := cL_rollBack) (maxL := 4) (ret := some .int) (hh := [(0, 6, 9, 15), (0, 6, 13, 17)]) (by decide) rfl (Nat.le_of_ble_eq_true rfl) ?_
  intro p e s m args below meth c A Q hQ B htab hA hX H locs hP hK hD hS ls hl
  obtain ⟨hx, hb, hml, hrt, hts, hown, hlk⟩ := B
  have hl : lv_has ls 4 [(0, .ref (xo 0)), (1, .int p0)] := hl
  refine lv_aload_n hx hb dL_rollBack_0 rfl (lv_at hl 0 rfl) ?_
  refine lv_iload_n hx hb dL_rollBack_1 rfl (lv_at hl 1 rfl) ?_
  refine call_cj (SX := Unit) (X := []) (Wc := lmW cI cT xo ta tr br tx hi ra s0 j0) (Z := []) (pj := (fun _ E => ¬ (opRollBack s0 p0).1 = 0 ∧ E = exIS (opRollBack s0 p0).1)) (Wx := (fun _ => lmW cI cT xo ta tr br tx hi ra s0 j0)) (As := [.int p0]) (rest := []) ⟨hx, hb, hml, hown, hts⟩ (c_X4_rollBack l hflag D cI cT xo ta tr br tx hi ra s0 j0 p0 hL) (cwV 1 hts gL_rollBack_X4_rollBack rfl rfl rfl (by decide +kernel) ⟨Nat.le_of_ble_eq_true rfl, Nat.le_of_ble_eq_true rfl⟩) (hK.sub (tys' := TY cI cT) [0, 1] rfl) (P_nilE hP) (D_nilE hD) hS hA hX.1 (va_recv hK hP (ci := 4) (q0 := 0) rfl rfl) (fun _ => adr_lm) (fun _ => adr_lm) rfl hl.1 rfl (Nat.le_of_ble_eq_true rfl) ⟨by decide, by decide⟩ dL_rollBack_2 (fun E ce q9 u H locs hpx hP hD hS hce hv hcl => ?_) (fun r u H locs hp hP hD hS => ?_)
  · obtain ⟨hne, hE⟩ := hpx
    have hP := P_nil hP; have hD := D_nil hD
    have hle := hro.1
    rcases (show (opRollBack s0 p0).1 = 1 ∨ (opRollBack s0 p0).1 = 2 by omega) with h9 | h9
    · have hE : E = xI := by rw [hE, h9]; rfl
      rw [hE] at hcl
      refine catI hown hX (htab.trans rfl) (by decide) (by decide) (hts (.classLink RL 15 xI) (by decide +kernel)) hce hv hcl ?_
      refine lv_astore_n (lv' := [(3, .ref q9), (0, .ref (xo 0)), (1, .int p0)]) hx hb dL_rollBack_9 rfl hl (by decide) rfl (fun ls hl => ?_)
      refine lv_bipush (v := (-31)) hx hb dL_rollBack_10 (by decide) ?_
      exact wret (u := j0) hQ hx hb hrt hlk hS dL_rollBack_12 (by rw [hro.2 hne]; exact hP) ⟨(wv_1 h9).symm, by rw [hro.2 hne]; exact hL⟩ ⟨by decide, by decide⟩
    · have hE : E = xS := by rw [hE, h9]; rfl
      rw [hE] at hcl
      refine cat2 hown hX.2.2.1 hX.kS (htab.trans rfl) (by decide) (by decide) (by decide) (hts (.classLink RL 15 xI) (by decide +kernel)) (hts (.classLink RL 17 xS) (by decide +kernel)) hce hv hcl ?_
      refine lv_astore_n (lv' := [(3, .ref q9), (0, .ref (xo 0)), (1, .int p0)]) hx hb dL_rollBack_13 rfl hl (by decide) rfl (fun ls hl => ?_)
      refine lv_bipush (v := (-33)) hx hb dL_rollBack_14 (by decide) ?_
      exact wret (u := j0) hQ hx hb hrt hlk hS dL_rollBack_16 (by rw [hro.2 hne]; exact hP) ⟨(wv_2 h9).symm, by rw [hro.2 hne]; exact hL⟩ ⟨by decide, by decide⟩
  · obtain ⟨h0, rfl, hLu⟩ := hp
    have hP := P_nil hP; have hD := D_nil hD
    refine lv_istore_n (lv' := [(2, .int (opRollBack s0 p0).2.1), (0, .ref (xo 0)), (1, .int p0)]) hx hb dL_rollBack_5 rfl hl (by decide) rfl (fun ls hl => ?_)
    refine lv_goto (tgt := 17) hx hb dL_rollBack_6 (by decide) ?_
    refine lv_iload_n hx hb dL_rollBack_17 rfl (lv_at hl 0 rfl) ?_
    exact wret (u := u) hQ hx hb hrt hlk hS dL_rollBack_18 hP ⟨(wv_0 h0).symm, hLu⟩ ⟨by decide, by decide⟩
abbrev rL_ifRequested : Room := { frames := 9, cells := 3, slots := 18, locals := 155 }
set_option maxHeartbeats 1000000 in
set_option maxRecDepth 100000 in
theorem c_L_ifRequested (l : Launch) (hflag : l.stackTraces = false) (D : va_G) (cI cT cL : ClassId) (xo ta tr br tx hi : Nat → Nat) (ra : Nat → Nat → Nat) (s0 : ST) (j0 : JT) (p0 p1 p2 : Int32) (hL : LR s0 j0) : CW l D cI cT cL yL_ifRequested wsL_ifRequested rL_ifRequested [.ref (xo 0), .int p0, .int p1, .int p2] (lmW cI cT xo ta tr br tx hi ra s0 j0) (S := JT) (fun v u => v = wv (-31) (-32) 0 (opIf s0 p0 p1 p2) ∧ LR (opIf s0 p0 p1 p2).2.2 u) (fun u => lmW cI cT xo ta tr br tx hi ra (opIf s0 p0 p1 p2).2.2 u) 3 18 := by
  have hro := ro_If (s := s0) (p0 := p0) (p1 := p1) (p2 := p2)
  refine CW.of (cc := cL_ifRequested) (maxL := 6) (ret := some .int) (hh := [(0, 9, 12, 15), (0, 9, 17, 23)]) (by decide) rfl (Nat.le_of_ble_eq_true rfl) ?_
  intro p e s m args below meth c A Q hQ B htab hA hX H locs hP hK hD hS ls hl
  obtain ⟨hx, hb, hml, hrt, hts, hown, hlk⟩ := B
  have hl : lv_has ls 6 [(0, .ref (xo 0)), (1, .int p0), (2, .int p1), (3, .int p2)] := hl
  refine lv_aload_n hx hb dL_ifRequested_0 rfl (lv_at hl 0 rfl) ?_
  refine lv_iload_n hx hb dL_ifRequested_1 rfl (lv_at hl 1 rfl) ?_
  refine lv_iload_n hx hb dL_ifRequested_2 rfl (lv_at hl 2 rfl) ?_
  refine lv_iload_n hx hb dL_ifRequested_3 rfl (lv_at hl 3 rfl) ?_
  refine call_cj (SX := Unit) (X := []) (Wc := lmW cI cT xo ta tr br tx hi ra s0 j0) (Z := []) (pj := (fun _ E => ¬ (opIf s0 p0 p1 p2).1 = 0 ∧ E = exIA (opIf s0 p0 p1 p2).1)) (Wx := (fun _ => lmW cI cT xo ta tr br tx hi ra s0 j0)) (As := [.int p0, .int p1, .int p2]) (rest := []) ⟨hx, hb, hml, hown, hts⟩ (c_X4_ifRequested l hflag D cI cT xo ta tr br tx hi ra s0 j0 p0 p1 p2 hL) (cwV 3 hts gL_ifRequested_X4_ifRequested rfl rfl rfl (by decide +kernel) ⟨Nat.le_of_ble_eq_true rfl, Nat.le_of_ble_eq_true rfl⟩) (hK.sub (tys' := TY cI cT) [0, 1] rfl) (P_nilE hP) (D_nilE hD) hS hA hX.1 (va_recv hK hP (ci := 4) (q0 := 0) rfl rfl) (fun _ => adr_lm) (fun _ => adr_lm) rfl hl.1 rfl (Nat.le_of_ble_eq_true rfl) ⟨by decide, by decide⟩ dL_ifRequested_4 (fun E ce q9 u H locs hpx hP hD hS hce hv hcl => ?_) (fun r u H locs hp hP hD hS => ?_)
  · obtain ⟨hne, hE⟩ := hpx
    have hP := P_nil hP; have hD := D_nil hD
    have hle := hro.1
    rcases (show (opIf s0 p0 p1 p2).1 = 1 ∨ (opIf s0 p0 p1 p2).1 = 2 by omega) with h9 | h9
    · have hE : E = xI := by rw [hE, h9]; rfl
      rw [hE] at hcl
      refine catI hown hX (htab.trans rfl) (by decide) (by decide) (hts (.classLink RL 15 xI) (by decide +kernel)) hce hv hcl ?_
      refine lv_astore (lv' := [(5, .ref q9), (0, .ref (xo 0)), (1, .int p0), (2, .int p1), (3, .int p2)]) hx hb dL_ifRequested_12 hl (by decide) rfl (fun ls hl => ?_)
      refine lv_bipush (v := (-31)) hx hb dL_ifRequested_14 (by decide) ?_
      exact wret (u := j0) hQ hx hb hrt hlk hS dL_ifRequested_16 (by rw [hro.2 hne]; exact hP) ⟨(wv_1 h9).symm, by rw [hro.2 hne]; exact hL⟩ ⟨by decide, by decide⟩
    · have hE : E = xA := by rw [hE, h9]; rfl
      rw [hE] at hcl
      refine cat2 hown hX.2.1 hX.kA (htab.trans rfl) (by decide) (by decide) (by decide) (hts (.classLink RL 15 xI) (by decide +kernel)) (hts (.classLink RL 23 xA) (by decide +kernel)) hce hv hcl ?_
      refine lv_astore (lv' := [(5, .ref q9), (0, .ref (xo 0)), (1, .int p0), (2, .int p1), (3, .int p2)]) hx hb dL_ifRequested_17 hl (by decide) rfl (fun ls hl => ?_)
      refine lv_bipush (v := (-32)) hx hb dL_ifRequested_19 (by decide) ?_
      exact wret (u := j0) hQ hx hb hrt hlk hS dL_ifRequested_21 (by rw [hro.2 hne]; exact hP) ⟨(wv_2 h9).symm, by rw [hro.2 hne]; exact hL⟩ ⟨by decide, by decide⟩
  · obtain ⟨h0, rfl, hLu⟩ := hp
    have hP := P_nil hP; have hD := D_nil hD
    refine lv_istore (lv' := [(4, .int (opIf s0 p0 p1 p2).2.1), (0, .ref (xo 0)), (1, .int p0), (2, .int p1), (3, .int p2)]) hx hb dL_ifRequested_7 hl (by decide) rfl (fun ls hl => ?_)
    refine lv_goto (tgt := 22) hx hb dL_ifRequested_9 (by decide) ?_
    refine lv_iload hx hb dL_ifRequested_22 (lv_at hl 0 rfl) ?_
    exact wret (u := u) hQ hx hb hrt hlk hS dL_ifRequested_24 hP ⟨(wv_0 h0).symm, hLu⟩ ⟨by decide, by decide⟩
abbrev rL_victimsOf : Room := { frames := 9, cells := 3, slots := 18, locals := 155 }
set_option maxHeartbeats 1000000 in
set_option maxRecDepth 100000 in
theorem c_L_victimsOf (l : Launch) (hflag : l.stackTraces = false) (D : va_G) (cI cT cL : ClassId) (xo ta tr br tx hi : Nat → Nat) (ra : Nat → Nat → Nat) (s0 : ST) (j0 : JT) (p0 p1 p2 : Int32) (hL : LR s0 j0) : CW l D cI cT cL yL_victimsOf wsL_victimsOf rL_victimsOf [.ref (xo 0), .int p0, .int p1, .int p2] (lmW cI cT xo ta tr br tx hi ra s0 j0) (S := JT) (fun v u => v = wv (-31) (-32) 0 (opVic s0 p0 p1 p2) ∧ LR (opVic s0 p0 p1 p2).2.2 u) (fun u => lmW cI cT xo ta tr br tx hi ra (opVic s0 p0 p1 p2).2.2 u) 3 18 := by
  have hro := ro_Vic (s := s0) (p0 := p0) (p1 := p1) (p2 := p2)
  refine CW.of (cc := cL_victimsOf) (maxL := 6) (ret := some .int) (hh := [(0, 9, 12, 15), (0, 9, 17, 23)]) (by decide) rfl (Nat.le_of_ble_eq_true rfl) ?_
  intro p e s m args below meth c A Q hQ B htab hA hX H locs hP hK hD hS ls hl
  obtain ⟨hx, hb, hml, hrt, hts, hown, hlk⟩ := B
  have hl : lv_has ls 6 [(0, .ref (xo 0)), (1, .int p0), (2, .int p1), (3, .int p2)] := hl
  refine lv_aload_n hx hb dL_victimsOf_0 rfl (lv_at hl 0 rfl) ?_
  refine lv_iload_n hx hb dL_victimsOf_1 rfl (lv_at hl 1 rfl) ?_
  refine lv_iload_n hx hb dL_victimsOf_2 rfl (lv_at hl 2 rfl) ?_
  refine lv_iload_n hx hb dL_victimsOf_3 rfl (lv_at hl 3 rfl) ?_
  refine call_cj (SX := Unit) (X := []) (Wc := lmW cI cT xo ta tr br tx hi ra s0 j0) (Z := []) (pj := (fun _ E => ¬ (opVic s0 p0 p1 p2).1 = 0 ∧ E = exIA (opVic s0 p0 p1 p2).1)) (Wx := (fun _ => lmW cI cT xo ta tr br tx hi ra s0 j0)) (As := [.int p0, .int p1, .int p2]) (rest := []) ⟨hx, hb, hml, hown, hts⟩ (c_X4_victimsOf l hflag D cI cT xo ta tr br tx hi ra s0 j0 p0 p1 p2 hL) (cwV 3 hts gL_victimsOf_X4_victimsOf rfl rfl rfl (by decide +kernel) ⟨Nat.le_of_ble_eq_true rfl, Nat.le_of_ble_eq_true rfl⟩) (hK.sub (tys' := TY cI cT) [0, 1] rfl) (P_nilE hP) (D_nilE hD) hS hA hX.1 (va_recv hK hP (ci := 4) (q0 := 0) rfl rfl) (fun _ => adr_lm) (fun _ => adr_lm) rfl hl.1 rfl (Nat.le_of_ble_eq_true rfl) ⟨by decide, by decide⟩ dL_victimsOf_4 (fun E ce q9 u H locs hpx hP hD hS hce hv hcl => ?_) (fun r u H locs hp hP hD hS => ?_)
  · obtain ⟨hne, hE⟩ := hpx
    have hP := P_nil hP; have hD := D_nil hD
    have hle := hro.1
    rcases (show (opVic s0 p0 p1 p2).1 = 1 ∨ (opVic s0 p0 p1 p2).1 = 2 by omega) with h9 | h9
    · have hE : E = xI := by rw [hE, h9]; rfl
      rw [hE] at hcl
      refine catI hown hX (htab.trans rfl) (by decide) (by decide) (hts (.classLink RL 15 xI) (by decide +kernel)) hce hv hcl ?_
      refine lv_astore (lv' := [(5, .ref q9), (0, .ref (xo 0)), (1, .int p0), (2, .int p1), (3, .int p2)]) hx hb dL_victimsOf_12 hl (by decide) rfl (fun ls hl => ?_)
      refine lv_bipush (v := (-31)) hx hb dL_victimsOf_14 (by decide) ?_
      exact wret (u := j0) hQ hx hb hrt hlk hS dL_victimsOf_16 (by rw [hro.2 hne]; exact hP) ⟨(wv_1 h9).symm, by rw [hro.2 hne]; exact hL⟩ ⟨by decide, by decide⟩
    · have hE : E = xA := by rw [hE, h9]; rfl
      rw [hE] at hcl
      refine cat2 hown hX.2.1 hX.kA (htab.trans rfl) (by decide) (by decide) (by decide) (hts (.classLink RL 15 xI) (by decide +kernel)) (hts (.classLink RL 23 xA) (by decide +kernel)) hce hv hcl ?_
      refine lv_astore (lv' := [(5, .ref q9), (0, .ref (xo 0)), (1, .int p0), (2, .int p1), (3, .int p2)]) hx hb dL_victimsOf_17 hl (by decide) rfl (fun ls hl => ?_)
      refine lv_bipush (v := (-32)) hx hb dL_victimsOf_19 (by decide) ?_
      exact wret (u := j0) hQ hx hb hrt hlk hS dL_victimsOf_21 (by rw [hro.2 hne]; exact hP) ⟨(wv_2 h9).symm, by rw [hro.2 hne]; exact hL⟩ ⟨by decide, by decide⟩
  · obtain ⟨h0, rfl, hLu⟩ := hp
    have hP := P_nil hP; have hD := D_nil hD
    refine lv_istore (lv' := [(4, .int (opVic s0 p0 p1 p2).2.1), (0, .ref (xo 0)), (1, .int p0), (2, .int p1), (3, .int p2)]) hx hb dL_victimsOf_7 hl (by decide) rfl (fun ls hl => ?_)
    refine lv_goto (tgt := 22) hx hb dL_victimsOf_9 (by decide) ?_
    refine lv_iload hx hb dL_victimsOf_22 (lv_at hl 0 rfl) ?_
    exact wret (u := u) hQ hx hb hrt hlk hS dL_victimsOf_24 hP ⟨(wv_0 h0).symm, hLu⟩ ⟨by decide, by decide⟩
abbrev rL_queued : Room := { frames := 8, cells := 2, slots := 12, locals := 133 }
set_option maxHeartbeats 1000000 in
set_option maxRecDepth 100000 in
theorem c_L_queued (l : Launch) (hflag : l.stackTraces = false) (D : va_G) (cI cT cL : ClassId) (xo ta tr br tx hi : Nat → Nat) (ra : Nat → Nat → Nat) (s0 : ST) (j0 : JT) (p0 p1 : Int32) (hL : LR s0 j0) : CW l D cI cT cL yL_queued wsL_queued rL_queued [.ref (xo 0), .int p0, .int p1] (lmW cI cT xo ta tr br tx hi ra s0 j0) (S := JT) (fun v u => v = wv (-31) 0 0 (opQueued s0 p0 p1) ∧ LR (opQueued s0 p0 p1).2.2 u) (fun u => lmW cI cT xo ta tr br tx hi ra (opQueued s0 p0 p1).2.2 u) 2 12 := by
  have hro := ro_Queued (s := s0) (p0 := p0) (p1 := p1)
  refine CW.of (cc := cL_queued) (maxL := 5) (ret := some .int) (hh := [(0, 7, 10, 15)]) (by decide) rfl (Nat.le_of_ble_eq_true rfl) ?_
  intro p e s m args below meth c A Q hQ B htab hA hX H locs hP hK hD hS ls hl
  obtain ⟨hx, hb, hml, hrt, hts, hown, hlk⟩ := B
  have hl : lv_has ls 5 [(0, .ref (xo 0)), (1, .int p0), (2, .int p1)] := hl
  refine lv_aload_n hx hb dL_queued_0 rfl (lv_at hl 0 rfl) ?_
  refine lv_iload_n hx hb dL_queued_1 rfl (lv_at hl 1 rfl) ?_
  refine lv_iload_n hx hb dL_queued_2 rfl (lv_at hl 2 rfl) ?_
  refine call_cj (SX := Unit) (X := []) (Wc := lmW cI cT xo ta tr br tx hi ra s0 j0) (Z := []) (pj := (fun _ E => ¬ (opQueued s0 p0 p1).1 = 0 ∧ E = exI (opQueued s0 p0 p1).1)) (Wx := (fun _ => lmW cI cT xo ta tr br tx hi ra s0 j0)) (As := [.int p0, .int p1]) (rest := []) ⟨hx, hb, hml, hown, hts⟩ (c_X4_queued l hflag D cI cT xo ta tr br tx hi ra s0 j0 p0 p1 hL) (cwV 2 hts gL_queued_X4_queued rfl rfl rfl (by decide +kernel) ⟨Nat.le_of_ble_eq_true rfl, Nat.le_of_ble_eq_true rfl⟩) (hK.sub (tys' := TY cI cT) [0, 1] rfl) (P_nilE hP) (D_nilE hD) hS hA hX.1 (va_recv hK hP (ci := 4) (q0 := 0) rfl rfl) (fun _ => adr_lm) (fun _ => adr_lm) rfl hl.1 rfl (Nat.le_of_ble_eq_true rfl) ⟨by decide, by decide⟩ dL_queued_3 (fun E ce q9 u H locs hpx hP hD hS hce hv hcl => ?_) (fun r u H locs hp hP hD hS => ?_)
  · obtain ⟨hne, hE⟩ := hpx
    have hP := P_nil hP; have hD := D_nil hD
    have hle := hro.1
    have h9 : (opQueued s0 p0 p1).1 = 1 := by omega
    have hE : E = xI := by rw [hE, h9]; rfl
    rw [hE] at hcl
    refine catI hown hX (htab.trans rfl) (by decide) (by decide) (hts (.classLink RL 15 xI) (by decide +kernel)) hce hv hcl ?_
    refine lv_astore (lv' := [(4, .ref q9), (0, .ref (xo 0)), (1, .int p0), (2, .int p1)]) hx hb dL_queued_10 hl (by decide) rfl (fun ls hl => ?_)
    refine lv_bipush (v := (-31)) hx hb dL_queued_12 (by decide) ?_
    exact wret (u := j0) hQ hx hb hrt hlk hS dL_queued_14 (by rw [hro.2 hne]; exact hP) ⟨(wv_1 h9).symm, by rw [hro.2 hne]; exact hL⟩ ⟨by decide, by decide⟩
  · obtain ⟨h0, rfl, hLu⟩ := hp
    have hP := P_nil hP; have hD := D_nil hD
    refine lv_istore_n (lv' := [(3, .int (opQueued s0 p0 p1).2.1), (0, .ref (xo 0)), (1, .int p0), (2, .int p1)]) hx hb dL_queued_6 rfl hl (by decide) rfl (fun ls hl => ?_)
    refine lv_goto (tgt := 15) hx hb dL_queued_7 (by decide) ?_
    refine lv_iload_n hx hb dL_queued_15 rfl (lv_at hl 0 rfl) ?_
    exact wret (u := u) hQ hx hb hrt hlk hS dL_queued_16 hP ⟨(wv_0 h0).symm, hLu⟩ ⟨by decide, by decide⟩
abbrev rL_state : Room := { frames := 8, cells := 1, slots := 6, locals := 131 }
set_option maxHeartbeats 1000000 in
set_option maxRecDepth 100000 in
theorem c_L_state (l : Launch) (hflag : l.stackTraces = false) (D : va_G) (cI cT cL : ClassId) (xo ta tr br tx hi : Nat → Nat) (ra : Nat → Nat → Nat) (s0 : ST) (j0 : JT) (p0 : Int32) (hL : LR s0 j0) : CW l D cI cT cL yL_state wsL_state rL_state [.ref (xo 0), .int p0] (lmW cI cT xo ta tr br tx hi ra s0 j0) (S := JT) (fun v u => v = wv (-31) 0 0 (opT s0 p0 (stI s0.1)) ∧ LR (opT s0 p0 (stI s0.1)).2.2 u) (fun u => lmW cI cT xo ta tr br tx hi ra (opT s0 p0 (stI s0.1)).2.2 u) 1 6 := by
  have hro := ro_T (s := s0) (p0 := p0) (f := stI s0.1)
  refine CW.of (cc := cL_state) (maxL := 4) (ret := some .int) (hh := [(0, 6, 9, 15)]) (by decide) rfl (Nat.le_of_ble_eq_true rfl) ?_
  intro p e s m args below meth c A Q hQ B htab hA hX H locs hP hK hD hS ls hl
  obtain ⟨hx, hb, hml, hrt, hts, hown, hlk⟩ := B
  have hl : lv_has ls 4 [(0, .ref (xo 0)), (1, .int p0)] := hl
  refine lv_aload_n hx hb dL_state_0 rfl (lv_at hl 0 rfl) ?_
  refine lv_iload_n hx hb dL_state_1 rfl (lv_at hl 1 rfl) ?_
  refine call_cj (SX := Unit) (X := []) (Wc := lmW cI cT xo ta tr br tx hi ra s0 j0) (Z := []) (pj := (fun _ E => ¬ (opT s0 p0 (stI s0.1)).1 = 0 ∧ E = exI (opT s0 p0 (stI s0.1)).1)) (Wx := (fun _ => lmW cI cT xo ta tr br tx hi ra s0 j0)) (As := [.int p0]) (rest := []) ⟨hx, hb, hml, hown, hts⟩ (c_X4_state l hflag D cI cT xo ta tr br tx hi ra s0 j0 p0 hL) (cwV 1 hts gL_state_X4_state rfl rfl rfl (by decide +kernel) ⟨Nat.le_of_ble_eq_true rfl, Nat.le_of_ble_eq_true rfl⟩) (hK.sub (tys' := TY cI cT) [0, 1] rfl) (P_nilE hP) (D_nilE hD) hS hA hX.1 (va_recv hK hP (ci := 4) (q0 := 0) rfl rfl) (fun _ => adr_lm) (fun _ => adr_lm) rfl hl.1 rfl (Nat.le_of_ble_eq_true rfl) ⟨by decide, by decide⟩ dL_state_2 (fun E ce q9 u H locs hpx hP hD hS hce hv hcl => ?_) (fun r u H locs hp hP hD hS => ?_)
  · obtain ⟨hne, hE⟩ := hpx
    have hP := P_nil hP; have hD := D_nil hD
    have hle := hro.1
    have h9 : (opT s0 p0 (stI s0.1)).1 = 1 := by omega
    have hE : E = xI := by rw [hE, h9]; rfl
    rw [hE] at hcl
    refine catI hown hX (htab.trans rfl) (by decide) (by decide) (hts (.classLink RL 15 xI) (by decide +kernel)) hce hv hcl ?_
    refine lv_astore_n (lv' := [(3, .ref q9), (0, .ref (xo 0)), (1, .int p0)]) hx hb dL_state_9 rfl hl (by decide) rfl (fun ls hl => ?_)
    refine lv_bipush (v := (-31)) hx hb dL_state_10 (by decide) ?_
    exact wret (u := j0) hQ hx hb hrt hlk hS dL_state_12 (by rw [hro.2 hne]; exact hP) ⟨(wv_1 h9).symm, by rw [hro.2 hne]; exact hL⟩ ⟨by decide, by decide⟩
  · obtain ⟨h0, rfl, hLu⟩ := hp
    have hP := P_nil hP; have hD := D_nil hD
    refine lv_istore_n (lv' := [(2, .int (opT s0 p0 (stI s0.1)).2.1), (0, .ref (xo 0)), (1, .int p0)]) hx hb dL_state_5 rfl hl (by decide) rfl (fun ls hl => ?_)
    refine lv_goto (tgt := 13) hx hb dL_state_6 (by decide) ?_
    refine lv_iload_n hx hb dL_state_13 rfl (lv_at hl 0 rfl) ?_
    exact wret (u := u) hQ hx hb hrt hlk hS dL_state_14 hP ⟨(wv_0 h0).symm, hLu⟩ ⟨by decide, by decide⟩
