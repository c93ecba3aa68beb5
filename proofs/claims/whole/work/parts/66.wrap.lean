theorem updL_0 {f : Nat → Int64} {v : Int64} : vp_updL f 0 v 0 = v := by simp [vp_updL]
theorem P_nilE {D : va_G} {w v : va_W} {H : Heap} (h : va_P D vwCl (w ++ v) H) : va_P D vwCl (w ++ v ++ []) H := by rw [List.append_nil]; exact h
theorem D_nilE {A : Nat → Prop} {w v : va_W} (h : va_D A (w ++ v)) : va_D A (w ++ v ++ []) := by rw [List.append_nil]; exact h
theorem P_nilF {D : va_G} {w v : va_W} {H : Heap} (h : va_P D vwCl (w ++ v ++ []) H) : va_P D vwCl (w ++ v) H := by rw [List.append_nil] at h; exact h
theorem D_nilF {A : Nat → Prop} {w v : va_W} (h : va_D A (w ++ v ++ [])) : va_D A (w ++ v) := by rw [List.append_nil] at h; exact h
abbrev rL_begin : Room := { frames := 8, cells := 4, slots := 24, locals := 131 }
set_option maxHeartbeats 1000000 in
set_option maxRecDepth 100000 in
theorem c_L_begin (l : Launch) (hflag : l.stackTraces = false) (D : va_G) (cI cT cL : ClassId) (x a o b t h : Nat → Nat) (ra : Nat → Nat → Nat) (s0 : ST) (j0 : JT) (oa : Nat) (f9 : Nat → Int64) (p0 : Int32) (hL : LR s0 j0) : CW l D cI cT cL yL_begin wsL_begin rL_begin [.ref (x 0), .int p0, .ref oa] ([(oa, outE cL f9)] ++ lmW cI cT x a o b t h ra s0 j0) (S := JT × (Nat → Int64)) (fun v u => v = nI (opBegin s0 p0).1 ∧ LR (opBegin s0 p0).2.2 u.1 ∧ ((opBegin s0 p0).1 = 0 → u.2 0 = (opBegin s0 p0).2.1.toInt64)) (fun u => [(oa, outE cL u.2)] ++ lmW cI cT x a o b t h ra (opBegin s0 p0).2.2 u.1) 4 24 := by
  have hro := ro_Begin (s := s0) (p0 := p0)
  refine CW.of (cc := cL_begin) (maxL := 4) (ret := some .int) (hh := [(0, 9, 12, 13), (0, 9, 15, 15)]) (by decide) rfl (Nat.le_of_ble_eq_true rfl) ?_
  intro p e s m args below meth c A Q hQ B htab hA hX H locs hP hK hD hS ls hl
  obtain ⟨hx, hb, hml, hrt, hts, hown, hlk⟩ := B
  have hl : lv_has ls 4 [(0, .ref (x 0)), (1, .int p0), (2, .ref oa)] := hl
  refine lv_aload_n hx hb dL_begin_0 rfl (lv_at hl 2 rfl) ?_
  refine lv_iconst (v := nI 0) hx hb dL_begin_1 (by decide) ?_
  refine lv_aload_n hx hb dL_begin_2 rfl (lv_at hl 0 rfl) ?_
  refine lv_iload_n hx hb dL_begin_3 rfl (lv_at hl 1 rfl) ?_
  refine call_cj (SX := Unit) (X := [(oa, outE cL f9)]) (Wc := lmW cI cT x a o b t h ra s0 j0) (Z := []) (pj := (fun _ E => ¬ (opBegin s0 p0).1 = 0 ∧ E = exIS (opBegin s0 p0).1)) (Wx := (fun _ => lmW cI cT x a o b t h ra s0 j0)) (As := [.int p0]) (rest := [.int (nI 0), .ref oa]) ⟨hx, hb, hml, hown, hts⟩ (c_X4_begin l hflag D cI cT x a o b t h ra s0 j0 p0 hL) (cwV 1 hts gL_begin_X4_begin rfl rfl rfl (by decide +kernel) ⟨Nat.le_of_ble_eq_true rfl, Nat.le_of_ble_eq_true rfl⟩) (hK.sub (tys' := TY cI cT) [0, 1] rfl) (P_nilE hP) (D_nilE hD) hS hA hX.1 (va_recv hK hP (ci := 4) (q0 := 1) rfl rfl) (fun _ => adr_lm) (fun _ => adr_lm) rfl hl.1 rfl (Nat.le_of_ble_eq_true rfl) ⟨by decide, by decide⟩ dL_begin_4 (fun E ce q9 u H locs hpx hP hD hS hce hv hcl => ?_) (fun r u H locs hp hP hD hS => ?_)
  · obtain ⟨hne, hE⟩ := hpx
    have hP := P_nilF hP; have hD := D_nilF hD
    have hle := hro.1
    rcases (show (opBegin s0 p0).1 = 1 ∨ (opBegin s0 p0).1 = 2 by omega) with h9 | h9
    · have hE : E = xI := by rw [hE, h9]; rfl
      rw [hE] at hcl
      refine catI hown hX (htab.trans rfl) (by decide) (by decide) (hts (.classLink RL 13 xI) (by decide +kernel)) hce hv hcl ?_
      refine lv_astore_n (lv' := [(3, .ref q9), (0, .ref (x 0)), (1, .int p0), (2, .ref oa)]) hx hb dL_begin_12 rfl hl (by decide) rfl (fun ls hl => ?_)
      refine lv_iconst (v := nI 1) hx hb dL_begin_13 (by decide) ?_
      exact wret (u := (j0, f9)) hQ hx hb hrt hlk hS dL_begin_14 (by rw [hro.2 hne]; exact hP) ⟨by rw [h9], by rw [hro.2 hne]; exact hL, fun h => absurd h hne⟩ ⟨by decide, by decide⟩
    · have hE : E = xS := by rw [hE, h9]; rfl
      rw [hE] at hcl
      refine cat2 hown hX.2.2.1 hX.kS (htab.trans rfl) (by decide) (by decide) (by decide) (hts (.classLink RL 13 xI) (by decide +kernel)) (hts (.classLink RL 15 xS) (by decide +kernel)) hce hv hcl ?_
      refine lv_astore_n (lv' := [(3, .ref q9), (0, .ref (x 0)), (1, .int p0), (2, .ref oa)]) hx hb dL_begin_15 rfl hl (by decide) rfl (fun ls hl => ?_)
      refine lv_iconst (v := nI 2) hx hb dL_begin_16 (by decide) ?_
      exact wret (u := (j0, f9)) hQ hx hb hrt hlk hS dL_begin_17 (by rw [hro.2 hne]; exact hP) ⟨by rw [h9], by rw [hro.2 hne]; exact hL, fun h => absurd h hne⟩ ⟨by decide, by decide⟩
  · obtain ⟨h0, rfl, hLu⟩ := hp
    have hP := P_nilF hP; have hD := D_nilF hD
    refine lv_i2l (v := (opBegin s0 p0).2.1.toInt64) hx hb dL_begin_7 rfl ?_
    refine va_last hx hb hK hP hD hS 0 2 rfl rfl (vp_in_nI (by decide) (by decide)) dL_begin_8 (fun H locs hP hD hS => ?_)
    rw [show (nI 0).toNatClampNeg = 0 by decide] at hP
    refine lv_goto (tgt := 18) hx hb dL_begin_9 (by decide) ?_
    refine lv_iconst (v := nI 0) hx hb dL_begin_18 (by decide) ?_
    exact wret (u := (u, vp_updL f9 0 (opBegin s0 p0).2.1.toInt64)) hQ hx hb hrt hlk hS dL_begin_19 hP ⟨by rw [h0], hLu, fun _ => updL_0 (f := f9)⟩ ⟨by decide, by decide⟩
abbrev rL_request : Room := { frames := 9, cells := 4, slots := 24, locals := 155 }
set_option maxHeartbeats 1000000 in
set_option maxRecDepth 100000 in
theorem c_L_request (l : Launch) (hflag : l.stackTraces = false) (D : va_G) (cI cT cL : ClassId) (x a o b t h : Nat → Nat) (ra : Nat → Nat → Nat) (s0 : ST) (j0 : JT) (oa : Nat) (f9 : Nat → Int64) (p0 p1 p2 : Int32) (hL : LR s0 j0) : CW l D cI cT cL yL_request wsL_request rL_request [.ref (x 0), .int p0, .int p1, .int p2, .ref oa] ([(oa, outE cL f9)] ++ lmW cI cT x a o b t h ra s0 j0) (S := JT × (Nat → Int64)) (fun v u => v = nI (opRequest s0 p0 p1 p2).1 ∧ LR (opRequest s0 p0 p1 p2).2.2 u.1 ∧ ((opRequest s0 p0 p1 p2).1 = 0 → u.2 0 = (opRequest s0 p0 p1 p2).2.1.toInt64)) (fun u => [(oa, outE cL u.2)] ++ lmW cI cT x a o b t h ra (opRequest s0 p0 p1 p2).2.2 u.1) 4 24 := by
  have hro := ro_Request (s := s0) (p0 := p0) (p1 := p1) (p2 := p2)
  refine CW.of (cc := cL_request) (maxL := 6) (ret := some .int) (hh := [(0, 12, 15, 13), (0, 12, 19, 21), (0, 12, 23, 15)]) (by decide) rfl (Nat.le_of_ble_eq_true rfl) ?_
  intro p e s m args below meth c A Q hQ B htab hA hX H locs hP hK hD hS ls hl
  obtain ⟨hx, hb, hml, hrt, hts, hown, hlk⟩ := B
  have hl : lv_has ls 6 [(0, .ref (x 0)), (1, .int p0), (2, .int p1), (3, .int p2), (4, .ref oa)] := hl
  refine lv_aload hx hb dL_request_0 (lv_at hl 4 rfl) ?_
  refine lv_iconst (v := nI 0) hx hb dL_request_2 (by decide) ?_
  refine lv_aload_n hx hb dL_request_3 rfl (lv_at hl 0 rfl) ?_
  refine lv_iload_n hx hb dL_request_4 rfl (lv_at hl 1 rfl) ?_
  refine lv_iload_n hx hb dL_request_5 rfl (lv_at hl 2 rfl) ?_
  refine lv_iload_n hx hb dL_request_6 rfl (lv_at hl 3 rfl) ?_
  refine call_cj (SX := Unit) (X := [(oa, outE cL f9)]) (Wc := lmW cI cT x a o b t h ra s0 j0) (Z := []) (pj := (fun _ E => ¬ (opRequest s0 p0 p1 p2).1 = 0 ∧ E = exIAS (opRequest s0 p0 p1 p2).1)) (Wx := (fun _ => lmW cI cT x a o b t h ra s0 j0)) (As := [.int p0, .int p1, .int p2]) (rest := [.int (nI 0), .ref oa]) ⟨hx, hb, hml, hown, hts⟩ (c_X4_request l hflag D cI cT x a o b t h ra s0 j0 p0 p1 p2 hL) (cwV 3 hts gL_request_X4_request rfl rfl rfl (by decide +kernel) ⟨Nat.le_of_ble_eq_true rfl, Nat.le_of_ble_eq_true rfl⟩) (hK.sub (tys' := TY cI cT) [0, 1] rfl) (P_nilE hP) (D_nilE hD) hS hA hX.1 (va_recv hK hP (ci := 4) (q0 := 1) rfl rfl) (fun _ => adr_lm) (fun _ => adr_lm) rfl hl.1 rfl (Nat.le_of_ble_eq_true rfl) ⟨by decide, by decide⟩ dL_request_7 (fun E ce q9 u H locs hpx hP hD hS hce hv hcl => ?_) (fun r u H locs hp hP hD hS => ?_)
  · obtain ⟨hne, hE⟩ := hpx
    have hP := P_nilF hP; have hD := D_nilF hD
    have hle := hro.1
    rcases (show (opRequest s0 p0 p1 p2).1 = 1 ∨ (opRequest s0 p0 p1 p2).1 = 2 ∨ (opRequest s0 p0 p1 p2).1 = 3 by omega) with h9 | h9 | h9
    · have hE : E = xI := by rw [hE, h9]; rfl
      rw [hE] at hcl
      refine catI hown hX (htab.trans rfl) (by decide) (by decide) (hts (.classLink RL 13 xI) (by decide +kernel)) hce hv hcl ?_
      refine lv_astore (lv' := [(5, .ref q9), (0, .ref (x 0)), (1, .int p0), (2, .int p1), (3, .int p2), (4, .ref oa)]) hx hb dL_request_15 hl (by decide) rfl (fun ls hl => ?_)
      refine lv_iconst (v := nI 1) hx hb dL_request_17 (by decide) ?_
      exact wret (u := (j0, f9)) hQ hx hb hrt hlk hS dL_request_18 (by rw [hro.2 hne]; exact hP) ⟨by rw [h9], by rw [hro.2 hne]; exact hL, fun h => absurd h hne⟩ ⟨by decide, by decide⟩
    · have hE : E = xA := by rw [hE, h9]; rfl
      rw [hE] at hcl
      refine cat2 hown hX.2.1 hX.kA (htab.trans rfl) (by decide) (by decide) (by decide) (hts (.classLink RL 13 xI) (by decide +kernel)) (hts (.classLink RL 21 xA) (by decide +kernel)) hce hv hcl ?_
      refine lv_astore (lv' := [(5, .ref q9), (0, .ref (x 0)), (1, .int p0), (2, .int p1), (3, .int p2), (4, .ref oa)]) hx hb dL_request_19 hl (by decide) rfl (fun ls hl => ?_)
      refine lv_iconst (v := nI 2) hx hb dL_request_21 (by decide) ?_
      exact wret (u := (j0, f9)) hQ hx hb hrt hlk hS dL_request_22 (by rw [hro.2 hne]; exact hP) ⟨by rw [h9], by rw [hro.2 hne]; exact hL, fun h => absurd h hne⟩ ⟨by decide, by decide⟩
    · have hE : E = xS := by rw [hE, h9]; rfl
      rw [hE] at hcl
      refine cat3 hown hX.2.2.1 hX.2.2.2 hX.kS (htab.trans rfl) (by decide) (by decide) (by decide) (by decide) (hts (.classLink RL 13 xI) (by decide +kernel)) (hts (.classLink RL 21 xA) (by decide +kernel)) (hts (.classLink RL 15 xS) (by decide +kernel)) hce hv hcl ?_
      refine lv_astore (lv' := [(5, .ref q9), (0, .ref (x 0)), (1, .int p0), (2, .int p1), (3, .int p2), (4, .ref oa)]) hx hb dL_request_23 hl (by decide) rfl (fun ls hl => ?_)
      refine lv_iconst (v := nI 3) hx hb dL_request_25 (by decide) ?_
      exact wret (u := (j0, f9)) hQ hx hb hrt hlk hS dL_request_26 (by rw [hro.2 hne]; exact hP) ⟨by rw [h9], by rw [hro.2 hne]; exact hL, fun h => absurd h hne⟩ ⟨by decide, by decide⟩
  · obtain ⟨h0, rfl, hLu⟩ := hp
    have hP := P_nilF hP; have hD := D_nilF hD
    refine lv_i2l (v := (opRequest s0 p0 p1 p2).2.1.toInt64) hx hb dL_request_10 rfl ?_
    refine va_last hx hb hK hP hD hS 0 2 rfl rfl (vp_in_nI (by decide) (by decide)) dL_request_11 (fun H locs hP hD hS => ?_)
    rw [show (nI 0).toNatClampNeg = 0 by decide] at hP
    refine lv_goto (tgt := 27) hx hb dL_request_12 (by decide) ?_
    refine lv_iconst (v := nI 0) hx hb dL_request_27 (by decide) ?_
    exact wret (u := (u, vp_updL f9 0 (opRequest s0 p0 p1 p2).2.1.toInt64)) hQ hx hb hrt hlk hS dL_request_28 hP ⟨by rw [h0], hLu, fun _ => updL_0 (f := f9)⟩ ⟨by decide, by decide⟩
abbrev rL_work : Room := { frames := 8, cells := 4, slots := 24, locals := 132 }
set_option maxHeartbeats 1000000 in
set_option maxRecDepth 100000 in
theorem c_L_work (l : Launch) (hflag : l.stackTraces = false) (D : va_G) (cI cT cL : ClassId) (x a o b t h : Nat → Nat) (ra : Nat → Nat → Nat) (s0 : ST) (j0 : JT) (oa : Nat) (f9 : Nat → Int64) (p0 p1 : Int32) (hL : LR s0 j0) : CW l D cI cT cL yL_work wsL_work rL_work [.ref (x 0), .int p0, .int p1, .ref oa] ([(oa, outE cL f9)] ++ lmW cI cT x a o b t h ra s0 j0) (S := JT × (Nat → Int64)) (fun v u => v = nI (opWork s0 p0 p1).1 ∧ LR (opWork s0 p0 p1).2.2 u.1 ∧ ((opWork s0 p0 p1).1 = 0 → u.2 0 = (opWork s0 p0 p1).2.1.toInt64)) (fun u => [(oa, outE cL u.2)] ++ lmW cI cT x a o b t h ra (opWork s0 p0 p1).2.2 u.1) 4 24 := by
  have hro := ro_Work (s := s0) (p0 := p0) (p1 := p1)
  refine CW.of (cc := cL_work) (maxL := 5) (ret := some .int) (hh := [(0, 10, 13, 13), (0, 10, 17, 21), (0, 10, 21, 15)]) (by decide) rfl (Nat.le_of_ble_eq_true rfl) ?_
  intro p e s m args below meth c A Q hQ B htab hA hX H locs hP hK hD hS ls hl
  obtain ⟨hx, hb, hml, hrt, hts, hown, hlk⟩ := B
  have hl : lv_has ls 5 [(0, .ref (x 0)), (1, .int p0), (2, .int p1), (3, .ref oa)] := hl
  refine lv_aload_n hx hb dL_work_0 rfl (lv_at hl 3 rfl) ?_
  refine lv_iconst (v := nI 0) hx hb dL_work_1 (by decide) ?_
  refine lv_aload_n hx hb dL_work_2 rfl (lv_at hl 0 rfl) ?_
  refine lv_iload_n hx hb dL_work_3 rfl (lv_at hl 1 rfl) ?_
  refine lv_iload_n hx hb dL_work_4 rfl (lv_at hl 2 rfl) ?_
  refine call_cj (SX := Unit) (X := [(oa, outE cL f9)]) (Wc := lmW cI cT x a o b t h ra s0 j0) (Z := []) (pj := (fun _ E => ¬ (opWork s0 p0 p1).1 = 0 ∧ E = exIAS (opWork s0 p0 p1).1)) (Wx := (fun _ => lmW cI cT x a o b t h ra s0 j0)) (As := [.int p0, .int p1]) (rest := [.int (nI 0), .ref oa]) ⟨hx, hb, hml, hown, hts⟩ (c_X4_work l hflag D cI cT x a o b t h ra s0 j0 p0 p1 hL) (cwV 2 hts gL_work_X4_work rfl rfl rfl (by decide +kernel) ⟨Nat.le_of_ble_eq_true rfl, Nat.le_of_ble_eq_true rfl⟩) (hK.sub (tys' := TY cI cT) [0, 1] rfl) (P_nilE hP) (D_nilE hD) hS hA hX.1 (va_recv hK hP (ci := 4) (q0 := 1) rfl rfl) (fun _ => adr_lm) (fun _ => adr_lm) rfl hl.1 rfl (Nat.le_of_ble_eq_true rfl) ⟨by decide, by decide⟩ dL_work_5 (fun E ce q9 u H locs hpx hP hD hS hce hv hcl => ?_) (fun r u H locs hp hP hD hS => ?_)
  · obtain ⟨hne, hE⟩ := hpx
    have hP := P_nilF hP; have hD := D_nilF hD
    have hle := hro.1
    rcases (show (opWork s0 p0 p1).1 = 1 ∨ (opWork s0 p0 p1).1 = 2 ∨ (opWork s0 p0 p1).1 = 3 by omega) with h9 | h9 | h9
    · have hE : E = xI := by rw [hE, h9]; rfl
      rw [hE] at hcl
      refine catI hown hX (htab.trans rfl) (by decide) (by decide) (hts (.classLink RL 13 xI) (by decide +kernel)) hce hv hcl ?_
      refine lv_astore (lv' := [(4, .ref q9), (0, .ref (x 0)), (1, .int p0), (2, .int p1), (3, .ref oa)]) hx hb dL_work_13 hl (by decide) rfl (fun ls hl => ?_)
      refine lv_iconst (v := nI 1) hx hb dL_work_15 (by decide) ?_
      exact wret (u := (j0, f9)) hQ hx hb hrt hlk hS dL_work_16 (by rw [hro.2 hne]; exact hP) ⟨by rw [h9], by rw [hro.2 hne]; exact hL, fun h => absurd h hne⟩ ⟨by decide, by decide⟩
    · have hE : E = xA := by rw [hE, h9]; rfl
      rw [hE] at hcl
      refine cat2 hown hX.2.1 hX.kA (htab.trans rfl) (by decide) (by decide) (by decide) (hts (.classLink RL 13 xI) (by decide +kernel)) (hts (.classLink RL 21 xA) (by decide +kernel)) hce hv hcl ?_
      refine lv_astore (lv' := [(4, .ref q9), (0, .ref (x 0)), (1, .int p0), (2, .int p1), (3, .ref oa)]) hx hb dL_work_17 hl (by decide) rfl (fun ls hl => ?_)
      refine lv_iconst (v := nI 2) hx hb dL_work_19 (by decide) ?_
      exact wret (u := (j0, f9)) hQ hx hb hrt hlk hS dL_work_20 (by rw [hro.2 hne]; exact hP) ⟨by rw [h9], by rw [hro.2 hne]; exact hL, fun h => absurd h hne⟩ ⟨by decide, by decide⟩
    · have hE : E = xS := by rw [hE, h9]; rfl
      rw [hE] at hcl
      refine cat3 hown hX.2.2.1 hX.2.2.2 hX.kS (htab.trans rfl) (by decide) (by decide) (by decide) (by decide) (hts (.classLink RL 13 xI) (by decide +kernel)) (hts (.classLink RL 21 xA) (by decide +kernel)) (hts (.classLink RL 15 xS) (by decide +kernel)) hce hv hcl ?_
      refine lv_astore (lv' := [(4, .ref q9), (0, .ref (x 0)), (1, .int p0), (2, .int p1), (3, .ref oa)]) hx hb dL_work_21 hl (by decide) rfl (fun ls hl => ?_)
      refine lv_iconst (v := nI 3) hx hb dL_work_23 (by decide) ?_
      exact wret (u := (j0, f9)) hQ hx hb hrt hlk hS dL_work_24 (by rw [hro.2 hne]; exact hP) ⟨by rw [h9], by rw [hro.2 hne]; exact hL, fun h => absurd h hne⟩ ⟨by decide, by decide⟩
  · obtain ⟨h0, rfl, hLu⟩ := hp
    have hP := P_nilF hP; have hD := D_nilF hD
    refine lv_i2l (v := (opWork s0 p0 p1).2.1.toInt64) hx hb dL_work_8 rfl ?_
    refine va_last hx hb hK hP hD hS 0 2 rfl rfl (vp_in_nI (by decide) (by decide)) dL_work_9 (fun H locs hP hD hS => ?_)
    rw [show (nI 0).toNatClampNeg = 0 by decide] at hP
    refine lv_goto (tgt := 25) hx hb dL_work_10 (by decide) ?_
    refine lv_iconst (v := nI 0) hx hb dL_work_25 (by decide) ?_
    exact wret (u := (u, vp_updL f9 0 (opWork s0 p0 p1).2.1.toInt64)) hQ hx hb hrt hlk hS dL_work_26 hP ⟨by rw [h0], hLu, fun _ => updL_0 (f := f9)⟩ ⟨by decide, by decide⟩
abbrev rL_withdraw : Room := { frames := 8, cells := 4, slots := 24, locals := 131 }
set_option maxHeartbeats 1000000 in
set_option maxRecDepth 100000 in
theorem c_L_withdraw (l : Launch) (hflag : l.stackTraces = false) (D : va_G) (cI cT cL : ClassId) (x a o b t h : Nat → Nat) (ra : Nat → Nat → Nat) (s0 : ST) (j0 : JT) (oa : Nat) (f9 : Nat → Int64) (p0 : Int32) (hL : LR s0 j0) : CW l D cI cT cL yL_withdraw wsL_withdraw rL_withdraw [.ref (x 0), .int p0, .ref oa] ([(oa, outE cL f9)] ++ lmW cI cT x a o b t h ra s0 j0) (S := JT × (Nat → Int64)) (fun v u => v = nI (opWithdraw s0 p0).1 ∧ LR (opWithdraw s0 p0).2.2 u.1 ∧ ((opWithdraw s0 p0).1 = 0 → u.2 0 = (opWithdraw s0 p0).2.1.toInt64)) (fun u => [(oa, outE cL u.2)] ++ lmW cI cT x a o b t h ra (opWithdraw s0 p0).2.2 u.1) 4 24 := by
  have hro := ro_Withdraw (s := s0) (p0 := p0)
  refine CW.of (cc := cL_withdraw) (maxL := 4) (ret := some .int) (hh := [(0, 9, 12, 13), (0, 9, 15, 15)]) (by decide) rfl (Nat.le_of_ble_eq_true rfl) ?_
  intro p e s m args below meth c A Q hQ B htab hA hX H locs hP hK hD hS ls hl
  obtain ⟨hx, hb, hml, hrt, hts, hown, hlk⟩ := B
  have hl : lv_has ls 4 [(0, .ref (x 0)), (1, .int p0), (2, .ref oa)] := hl
  refine lv_aload_n hx hb dL_withdraw_0 rfl (lv_at hl 2 rfl) ?_
  refine lv_iconst (v := nI 0) hx hb dL_withdraw_1 (by decide) ?_
  refine lv_aload_n hx hb dL_withdraw_2 rfl (lv_at hl 0 rfl) ?_
  refine lv_iload_n hx hb dL_withdraw_3 rfl (lv_at hl 1 rfl) ?_
  refine call_cj (SX := Unit) (X := [(oa, outE cL f9)]) (Wc := lmW cI cT x a o b t h ra s0 j0) (Z := []) (pj := (fun _ E => ¬ (opWithdraw s0 p0).1 = 0 ∧ E = exIS (opWithdraw s0 p0).1)) (Wx := (fun _ => lmW cI cT x a o b t h ra s0 j0)) (As := [.int p0]) (rest := [.int (nI 0), .ref oa]) ⟨hx, hb, hml, hown, hts⟩ (c_X4_withdraw l hflag D cI cT x a o b t h ra s0 j0 p0 hL) (cwV 1 hts gL_withdraw_X4_withdraw rfl rfl rfl (by decide +kernel) ⟨Nat.le_of_ble_eq_true rfl, Nat.le_of_ble_eq_true rfl⟩) (hK.sub (tys' := TY cI cT) [0, 1] rfl) (P_nilE hP) (D_nilE hD) hS hA hX.1 (va_recv hK hP (ci := 4) (q0 := 1) rfl rfl) (fun _ => adr_lm) (fun _ => adr_lm) rfl hl.1 rfl (Nat.le_of_ble_eq_true rfl) ⟨by decide, by decide⟩ dL_withdraw_4 (fun E ce q9 u H locs hpx hP hD hS hce hv hcl => ?_) (fun r u H locs hp hP hD hS => ?_)
  · obtain ⟨hne, hE⟩ := hpx
    have hP := P_nilF hP; have hD := D_nilF hD
    have hle := hro.1
    rcases (show (opWithdraw s0 p0).1 = 1 ∨ (opWithdraw s0 p0).1 = 2 by omega) with h9 | h9
    · have hE : E = xI := by rw [hE, h9]; rfl
      rw [hE] at hcl
      refine catI hown hX (htab.trans rfl) (by decide) (by decide) (hts (.classLink RL 13 xI) (by decide +kernel)) hce hv hcl ?_
      refine lv_astore_n (lv' := [(3, .ref q9), (0, .ref (x 0)), (1, .int p0), (2, .ref oa)]) hx hb dL_withdraw_12 rfl hl (by decide) rfl (fun ls hl => ?_)
      refine lv_iconst (v := nI 1) hx hb dL_withdraw_13 (by decide) ?_
      exact wret (u := (j0, f9)) hQ hx hb hrt hlk hS dL_withdraw_14 (by rw [hro.2 hne]; exact hP) ⟨by rw [h9], by rw [hro.2 hne]; exact hL, fun h => absurd h hne⟩ ⟨by decide, by decide⟩
    · have hE : E = xS := by rw [hE, h9]; rfl
      rw [hE] at hcl
      refine cat2 hown hX.2.2.1 hX.kS (htab.trans rfl) (by decide) (by decide) (by decide) (hts (.classLink RL 13 xI) (by decide +kernel)) (hts (.classLink RL 15 xS) (by decide +kernel)) hce hv hcl ?_
      refine lv_astore_n (lv' := [(3, .ref q9), (0, .ref (x 0)), (1, .int p0), (2, .ref oa)]) hx hb dL_withdraw_15 rfl hl (by decide) rfl (fun ls hl => ?_)
      refine lv_iconst (v := nI 2) hx hb dL_withdraw_16 (by decide) ?_
      exact wret (u := (j0, f9)) hQ hx hb hrt hlk hS dL_withdraw_17 (by rw [hro.2 hne]; exact hP) ⟨by rw [h9], by rw [hro.2 hne]; exact hL, fun h => absurd h hne⟩ ⟨by decide, by decide⟩
  · obtain ⟨h0, rfl, hLu⟩ := hp
    have hP := P_nilF hP; have hD := D_nilF hD
    refine lv_i2l (v := (opWithdraw s0 p0).2.1.toInt64) hx hb dL_withdraw_7 rfl ?_
    refine va_last hx hb hK hP hD hS 0 2 rfl rfl (vp_in_nI (by decide) (by decide)) dL_withdraw_8 (fun H locs hP hD hS => ?_)
    rw [show (nI 0).toNatClampNeg = 0 by decide] at hP
    refine lv_goto (tgt := 18) hx hb dL_withdraw_9 (by decide) ?_
    refine lv_iconst (v := nI 0) hx hb dL_withdraw_18 (by decide) ?_
    exact wret (u := (u, vp_updL f9 0 (opWithdraw s0 p0).2.1.toInt64)) hQ hx hb hrt hlk hS dL_withdraw_19 hP ⟨by rw [h0], hLu, fun _ => updL_0 (f := f9)⟩ ⟨by decide, by decide⟩
abbrev rL_commit : Room := { frames := 8, cells := 4, slots := 24, locals := 131 }
set_option maxHeartbeats 1000000 in
set_option maxRecDepth 100000 in
theorem c_L_commit (l : Launch) (hflag : l.stackTraces = false) (D : va_G) (cI cT cL : ClassId) (x a o b t h : Nat → Nat) (ra : Nat → Nat → Nat) (s0 : ST) (j0 : JT) (oa : Nat) (f9 : Nat → Int64) (p0 : Int32) (hL : LR s0 j0) : CW l D cI cT cL yL_commit wsL_commit rL_commit [.ref (x 0), .int p0, .ref oa] ([(oa, outE cL f9)] ++ lmW cI cT x a o b t h ra s0 j0) (S := JT × (Nat → Int64)) (fun v u => v = nI (opCommit s0 p0).1 ∧ LR (opCommit s0 p0).2.2 u.1 ∧ ((opCommit s0 p0).1 = 0 → u.2 0 = (opCommit s0 p0).2.1.toInt64)) (fun u => [(oa, outE cL u.2)] ++ lmW cI cT x a o b t h ra (opCommit s0 p0).2.2 u.1) 4 24 := by
  have hro := ro_Commit (s := s0) (p0 := p0)
  refine CW.of (cc := cL_commit) (maxL := 4) (ret := some .int) (hh := [(0, 9, 12, 13), (0, 9, 15, 15)]) (by decide) rfl (Nat.le_of_ble_eq_true rfl) ?_
  intro p e s m args below meth c A Q hQ B htab hA hX H locs hP hK hD hS ls hl
  obtain ⟨hx, hb, hml, hrt, hts, hown, hlk⟩ := B
  have hl : lv_has ls 4 [(0, .ref (x 0)), (1, .int p0), (2, .ref oa)] := hl
  refine lv_aload_n hx hb dL_commit_0 rfl (lv_at hl 2 rfl) ?_
  refine lv_iconst (v := nI 0) hx hb dL_commit_1 (by decide) ?_
  refine lv_aload_n hx hb dL_commit_2 rfl (lv_at hl 0 rfl) ?_
  refine lv_iload_n hx hb dL_commit_3 rfl (lv_at hl 1 rfl) ?_
  refine call_cj (SX := Unit) (X := [(oa, outE cL f9)]) (Wc := lmW cI cT x a o b t h ra s0 j0) (Z := []) (pj := (fun _ E => ¬ (opCommit s0 p0).1 = 0 ∧ E = exIS (opCommit s0 p0).1)) (Wx := (fun _ => lmW cI cT x a o b t h ra s0 j0)) (As := [.int p0]) (rest := [.int (nI 0), .ref oa]) ⟨hx, hb, hml, hown, hts⟩ (c_X4_commit l hflag D cI cT x a o b t h ra s0 j0 p0 hL) (cwV 1 hts gL_commit_X4_commit rfl rfl rfl (by decide +kernel) ⟨Nat.le_of_ble_eq_true rfl, Nat.le_of_ble_eq_true rfl⟩) (hK.sub (tys' := TY cI cT) [0, 1] rfl) (P_nilE hP) (D_nilE hD) hS hA hX.1 (va_recv hK hP (ci := 4) (q0 := 1) rfl rfl) (fun _ => adr_lm) (fun _ => adr_lm) rfl hl.1 rfl (Nat.le_of_ble_eq_true rfl) ⟨by decide, by decide⟩ dL_commit_4 (fun E ce q9 u H locs hpx hP hD hS hce hv hcl => ?_) (fun r u H locs hp hP hD hS => ?_)
  · obtain ⟨hne, hE⟩ := hpx
    have hP := P_nilF hP; have hD := D_nilF hD
    have hle := hro.1
    rcases (show (opCommit s0 p0).1 = 1 ∨ (opCommit s0 p0).1 = 2 by omega) with h9 | h9
    · have hE : E = xI := by rw [hE, h9]; rfl
      rw [hE] at hcl
      refine catI hown hX (htab.trans rfl) (by decide) (by decide) (hts (.classLink RL 13 xI) (by decide +kernel)) hce hv hcl ?_
      refine lv_astore_n (lv' := [(3, .ref q9), (0, .ref (x 0)), (1, .int p0), (2, .ref oa)]) hx hb dL_commit_12 rfl hl (by decide) rfl (fun ls hl => ?_)
      refine lv_iconst (v := nI 1) hx hb dL_commit_13 (by decide) ?_
      exact wret (u := (j0, f9)) hQ hx hb hrt hlk hS dL_commit_14 (by rw [hro.2 hne]; exact hP) ⟨by rw [h9], by rw [hro.2 hne]; exact hL, fun h => absurd h hne⟩ ⟨by decide, by decide⟩
    · have hE : E = xS := by rw [hE, h9]; rfl
      rw [hE] at hcl
      refine cat2 hown hX.2.2.1 hX.kS (htab.trans rfl) (by decide) (by decide) (by decide) (hts (.classLink RL 13 xI) (by decide +kernel)) (hts (.classLink RL 15 xS) (by decide +kernel)) hce hv hcl ?_
      refine lv_astore_n (lv' := [(3, .ref q9), (0, .ref (x 0)), (1, .int p0), (2, .ref oa)]) hx hb dL_commit_15 rfl hl (by decide) rfl (fun ls hl => ?_)
      refine lv_iconst (v := nI 2) hx hb dL_commit_16 (by decide) ?_
      exact wret (u := (j0, f9)) hQ hx hb hrt hlk hS dL_commit_17 (by rw [hro.2 hne]; exact hP) ⟨by rw [h9], by rw [hro.2 hne]; exact hL, fun h => absurd h hne⟩ ⟨by decide, by decide⟩
  · obtain ⟨h0, rfl, hLu⟩ := hp
    have hP := P_nilF hP; have hD := D_nilF hD
    refine lv_i2l (v := (opCommit s0 p0).2.1.toInt64) hx hb dL_commit_7 rfl ?_
    refine va_last hx hb hK hP hD hS 0 2 rfl rfl (vp_in_nI (by decide) (by decide)) dL_commit_8 (fun H locs hP hD hS => ?_)
    rw [show (nI 0).toNatClampNeg = 0 by decide] at hP
    refine lv_goto (tgt := 18) hx hb dL_commit_9 (by decide) ?_
    refine lv_iconst (v := nI 0) hx hb dL_commit_18 (by decide) ?_
    exact wret (u := (u, vp_updL f9 0 (opCommit s0 p0).2.1.toInt64)) hQ hx hb hrt hlk hS dL_commit_19 hP ⟨by rw [h0], hLu, fun _ => updL_0 (f := f9)⟩ ⟨by decide, by decide⟩
abbrev rL_rollBack : Room := { frames := 8, cells := 4, slots := 24, locals := 131 }
set_option maxHeartbeats 1000000 in
set_option maxRecDepth 100000 in
theorem c_L_rollBack (l : Launch) (hflag : l.stackTraces = false) (D : va_G) (cI cT cL : ClassId) (x a o b t h : Nat → Nat) (ra : Nat → Nat → Nat) (s0 : ST) (j0 : JT) (oa : Nat) (f9 : Nat → Int64) (p0 : Int32) (hL : LR s0 j0) : CW l D cI cT cL yL_rollBack wsL_rollBack rL_rollBack [.ref (x 0), .int p0, .ref oa] ([(oa, outE cL f9)] ++ lmW cI cT x a o b t h ra s0 j0) (S := JT × (Nat → Int64)) (fun v u => v = nI (opRollBack s0 p0).1 ∧ LR (opRollBack s0 p0).2.2 u.1 ∧ ((opRollBack s0 p0).1 = 0 → u.2 0 = (opRollBack s0 p0).2.1.toInt64)) (fun u => [(oa, outE cL u.2)] ++ lmW cI cT x a o b t h ra (opRollBack s0 p0).2.2 u.1) 4 24 := by
  have hro := ro_RollBack (s := s0) (p0 := p0)
  refine CW.of (cc := cL_rollBack) (maxL := 4) (ret := some .int) (hh := [(0, 9, 12, 13), (0, 9, 15, 15)]) (by decide) rfl (Nat.le_of_ble_eq_true rfl) ?_
  intro p e s m args below meth c A Q hQ B htab hA hX H locs hP hK hD hS ls hl
  obtain ⟨hx, hb, hml, hrt, hts, hown, hlk⟩ := B
  have hl : lv_has ls 4 [(0, .ref (x 0)), (1, .int p0), (2, .ref oa)] := hl
  refine lv_aload_n hx hb dL_rollBack_0 rfl (lv_at hl 2 rfl) ?_
  refine lv_iconst (v := nI 0) hx hb dL_rollBack_1 (by decide) ?_
  refine lv_aload_n hx hb dL_rollBack_2 rfl (lv_at hl 0 rfl) ?_
  refine lv_iload_n hx hb dL_rollBack_3 rfl (lv_at hl 1 rfl) ?_
  refine call_cj (SX := Unit) (X := [(oa, outE cL f9)]) (Wc := lmW cI cT x a o b t h ra s0 j0) (Z := []) (pj := (fun _ E => ¬ (opRollBack s0 p0).1 = 0 ∧ E = exIS (opRollBack s0 p0).1)) (Wx := (fun _ => lmW cI cT x a o b t h ra s0 j0)) (As := [.int p0]) (rest := [.int (nI 0), .ref oa]) ⟨hx, hb, hml, hown, hts⟩ (c_X4_rollBack l hflag D cI cT x a o b t h ra s0 j0 p0 hL) (cwV 1 hts gL_rollBack_X4_rollBack rfl rfl rfl (by decide +kernel) ⟨Nat.le_of_ble_eq_true rfl, Nat.le_of_ble_eq_true rfl⟩) (hK.sub (tys' := TY cI cT) [0, 1] rfl) (P_nilE hP) (D_nilE hD) hS hA hX.1 (va_recv hK hP (ci := 4) (q0 := 1) rfl rfl) (fun _ => adr_lm) (fun _ => adr_lm) rfl hl.1 rfl (Nat.le_of_ble_eq_true rfl) ⟨by decide, by decide⟩ dL_rollBack_4 (fun E ce q9 u H locs hpx hP hD hS hce hv hcl => ?_) (fun r u H locs hp hP hD hS => ?_)
  · obtain ⟨hne, hE⟩ := hpx
    have hP := P_nilF hP; have hD := D_nilF hD
    have hle := hro.1
    rcases (show (opRollBack s0 p0).1 = 1 ∨ (opRollBack s0 p0).1 = 2 by omega) with h9 | h9
    · have hE : E = xI := by rw [hE, h9]; rfl
      rw [hE] at hcl
      refine catI hown hX (htab.trans rfl) (by decide) (by decide) (hts (.classLink RL 13 xI) (by decide +kernel)) hce hv hcl ?_
      refine lv_astore_n (lv' := [(3, .ref q9), (0, .ref (x 0)), (1, .int p0), (2, .ref oa)]) hx hb dL_rollBack_12 rfl hl (by decide) rfl (fun ls hl => ?_)
      refine lv_iconst (v := nI 1) hx hb dL_rollBack_13 (by decide) ?_
      exact wret (u := (j0, f9)) hQ hx hb hrt hlk hS dL_rollBack_14 (by rw [hro.2 hne]; exact hP) ⟨by rw [h9], by rw [hro.2 hne]; exact hL, fun h => absurd h hne⟩ ⟨by decide, by decide⟩
    · have hE : E = xS := by rw [hE, h9]; rfl
      rw [hE] at hcl
      refine cat2 hown hX.2.2.1 hX.kS (htab.trans rfl) (by decide) (by decide) (by decide) (hts (.classLink RL 13 xI) (by decide +kernel)) (hts (.classLink RL 15 xS) (by decide +kernel)) hce hv hcl ?_
      refine lv_astore_n (lv' := [(3, .ref q9), (0, .ref (x 0)), (1, .int p0), (2, .ref oa)]) hx hb dL_rollBack_15 rfl hl (by decide) rfl (fun ls hl => ?_)
      refine lv_iconst (v := nI 2) hx hb dL_rollBack_16 (by decide) ?_
      exact wret (u := (j0, f9)) hQ hx hb hrt hlk hS dL_rollBack_17 (by rw [hro.2 hne]; exact hP) ⟨by rw [h9], by rw [hro.2 hne]; exact hL, fun h => absurd h hne⟩ ⟨by decide, by decide⟩
  · obtain ⟨h0, rfl, hLu⟩ := hp
    have hP := P_nilF hP; have hD := D_nilF hD
    refine lv_i2l (v := (opRollBack s0 p0).2.1.toInt64) hx hb dL_rollBack_7 rfl ?_
    refine va_last hx hb hK hP hD hS 0 2 rfl rfl (vp_in_nI (by decide) (by decide)) dL_rollBack_8 (fun H locs hP hD hS => ?_)
    rw [show (nI 0).toNatClampNeg = 0 by decide] at hP
    refine lv_goto (tgt := 18) hx hb dL_rollBack_9 (by decide) ?_
    refine lv_iconst (v := nI 0) hx hb dL_rollBack_18 (by decide) ?_
    exact wret (u := (u, vp_updL f9 0 (opRollBack s0 p0).2.1.toInt64)) hQ hx hb hrt hlk hS dL_rollBack_19 hP ⟨by rw [h0], hLu, fun _ => updL_0 (f := f9)⟩ ⟨by decide, by decide⟩
abbrev rL_appendText : Room := { frames := 7, cells := 4, slots := 24, locals := 111 }
set_option maxHeartbeats 1000000 in
set_option maxRecDepth 100000 in
theorem c_L_appendText (l : Launch) (hflag : l.stackTraces = false) (D : va_G) (cI cT cL : ClassId) (x a o b t h : Nat → Nat) (ra : Nat → Nat → Nat) (s0 : ST) (j0 : JT) (oa : Nat) (f9 : Nat → Int64) (p0 : Int32) (hL : LR s0 j0) : CW l D cI cT cL yL_appendText wsL_appendText rL_appendText [.ref (x 0), .int p0, .ref oa] ([(oa, outE cL f9)] ++ lmW cI cT x a o b t h ra s0 j0) (S := JT × (Nat → Int64)) (fun v u => v = nI (opAppend s0 p0).1 ∧ LR (opAppend s0 p0).2.2 u.1 ∧ ((opAppend s0 p0).1 = 0 → u.2 0 = (opAppend s0 p0).2.1.toInt64)) (fun u => [(oa, outE cL u.2)] ++ lmW cI cT x a o b t h ra (opAppend s0 p0).2.2 u.1) 4 24 := by
  have hro := ro_Append (s := s0) (p0 := p0)
  refine CW.of (cc := cL_appendText) (maxL := 4) (ret := some .int) (hh := [(0, 9, 12, 21), (0, 9, 15, 15)]) (by decide) rfl (Nat.le_of_ble_eq_true rfl) ?_
  intro p e s m args below meth c A Q hQ B htab hA hX H locs hP hK hD hS ls hl
  obtain ⟨hx, hb, hml, hrt, hts, hown, hlk⟩ := B
  have hl : lv_has ls 4 [(0, .ref (x 0)), (1, .int p0), (2, .ref oa)] := hl
  refine lv_aload_n hx hb dL_appendText_0 rfl (lv_at hl 2 rfl) ?_
  refine lv_iconst (v := nI 0) hx hb dL_appendText_1 (by decide) ?_
  refine lv_aload_n hx hb dL_appendText_2 rfl (lv_at hl 0 rfl) ?_
  refine lv_iload_n hx hb dL_appendText_3 rfl (lv_at hl 1 rfl) ?_
  refine call_cj (SX := Unit) (X := [(oa, outE cL f9)]) (Wc := lmW cI cT x a o b t h ra s0 j0) (Z := []) (pj := (fun _ E => ¬ (opAppend s0 p0).1 = 0 ∧ E = exAS (opAppend s0 p0).1)) (Wx := (fun _ => lmW cI cT x a o b t h ra s0 j0)) (As := [.int p0]) (rest := [.int (nI 0), .ref oa]) ⟨hx, hb, hml, hown, hts⟩ (c_X4_appendText l hflag D cI cT x a o b t h ra s0 j0 p0 hL) (cwV 1 hts gL_appendText_X4_appendText rfl rfl rfl (by decide +kernel) ⟨Nat.le_of_ble_eq_true rfl, Nat.le_of_ble_eq_true rfl⟩) (hK.sub (tys' := TY cI cT) [0, 1] rfl) (P_nilE hP) (D_nilE hD) hS hA hX.1 (va_recv hK hP (ci := 4) (q0 := 1) rfl rfl) (fun _ => adr_lm) (fun _ => adr_lm) rfl hl.1 rfl (Nat.le_of_ble_eq_true rfl) ⟨by decide, by decide⟩ dL_appendText_4 (fun E ce q9 u H locs hpx hP hD hS hce hv hcl => ?_) (fun r u H locs hp hP hD hS => ?_)
  · obtain ⟨hne, hE⟩ := hpx
    have hP := P_nilF hP; have hD := D_nilF hD
    have hle := hro.1
    rcases (show (opAppend s0 p0).1 = 1 ∨ (opAppend s0 p0).1 = 2 by omega) with h9 | h9
    · have hE : E = xA := by rw [hE, h9]; rfl
      rw [hE] at hcl
      refine catA0 hown hX (htab.trans rfl) (by decide) (by decide) (hts (.classLink RL 21 xA) (by decide +kernel)) hce hv hcl ?_
      refine lv_astore_n (lv' := [(3, .ref q9), (0, .ref (x 0)), (1, .int p0), (2, .ref oa)]) hx hb dL_appendText_12 rfl hl (by decide) rfl (fun ls hl => ?_)
      refine lv_iconst (v := nI 1) hx hb dL_appendText_13 (by decide) ?_
      exact wret (u := (j0, f9)) hQ hx hb hrt hlk hS dL_appendText_14 (by rw [hro.2 hne]; exact hP) ⟨by rw [h9], by rw [hro.2 hne]; exact hL, fun h => absurd h hne⟩ ⟨by decide, by decide⟩
    · have hE : E = xS := by rw [hE, h9]; rfl
      rw [hE] at hcl
      refine cat2 hown hX.2.2.2 hX.kS (htab.trans rfl) (by decide) (by decide) (by decide) (hts (.classLink RL 21 xA) (by decide +kernel)) (hts (.classLink RL 15 xS) (by decide +kernel)) hce hv hcl ?_
      refine lv_astore_n (lv' := [(3, .ref q9), (0, .ref (x 0)), (1, .int p0), (2, .ref oa)]) hx hb dL_appendText_15 rfl hl (by decide) rfl (fun ls hl => ?_)
      refine lv_iconst (v := nI 2) hx hb dL_appendText_16 (by decide) ?_
      exact wret (u := (j0, f9)) hQ hx hb hrt hlk hS dL_appendText_17 (by rw [hro.2 hne]; exact hP) ⟨by rw [h9], by rw [hro.2 hne]; exact hL, fun h => absurd h hne⟩ ⟨by decide, by decide⟩
  · obtain ⟨h0, rfl, hLu⟩ := hp
    have hP := P_nilF hP; have hD := D_nilF hD
    refine lv_i2l (v := (opAppend s0 p0).2.1.toInt64) hx hb dL_appendText_7 rfl ?_
    refine va_last hx hb hK hP hD hS 0 2 rfl rfl (vp_in_nI (by decide) (by decide)) dL_appendText_8 (fun H locs hP hD hS => ?_)
    rw [show (nI 0).toNatClampNeg = 0 by decide] at hP
    refine lv_goto (tgt := 18) hx hb dL_appendText_9 (by decide) ?_
    refine lv_iconst (v := nI 0) hx hb dL_appendText_18 (by decide) ?_
    exact wret (u := (u, vp_updL f9 0 (opAppend s0 p0).2.1.toInt64)) hQ hx hb hrt hlk hS dL_appendText_19 hP ⟨by rw [h0], hLu, fun _ => updL_0 (f := f9)⟩ ⟨by decide, by decide⟩
abbrev rL_runText : Room := { frames := 7, cells := 4, slots := 24, locals := 169 }
set_option maxHeartbeats 1000000 in
set_option maxRecDepth 100000 in
theorem c_L_runText (l : Launch) (hflag : l.stackTraces = false) (D : va_G) (cI cT cL : ClassId) (x a o b t h : Nat → Nat) (ra : Nat → Nat → Nat) (s0 : ST) (j0 : JT) (oa : Nat) (f9 : Nat → Int64) (hL : LR s0 j0) : CW l D cI cT cL yL_runText wsL_runText rL_runText [.ref (x 0), .ref oa] ([(oa, outE cL f9)] ++ lmW cI cT x a o b t h ra s0 j0) (S := JT × (Nat → Int64)) (fun v u => v = nI (opRun s0).1 ∧ LR (opRun s0).2.2 u.1 ∧ ((opRun s0).1 = 0 → u.2 0 = (opRun s0).2.1.toInt64)) (fun u => [(oa, outE cL u.2)] ++ lmW cI cT x a o b t h ra (opRun s0).2.2 u.1) 4 24 := by
  have hro := ro_Run (s := s0)
  refine CW.of (cc := cL_runText) (maxL := 3) (ret := some .int) (hh := [(0, 8, 11, 15)]) (by decide) rfl (Nat.le_of_ble_eq_true rfl) ?_
  intro p e s m args below meth c A Q hQ B htab hA hX H locs hP hK hD hS ls hl
  obtain ⟨hx, hb, hml, hrt, hts, hown, hlk⟩ := B
  have hl : lv_has ls 3 [(0, .ref (x 0)), (1, .ref oa)] := hl
  refine lv_aload_n hx hb dL_runText_0 rfl (lv_at hl 1 rfl) ?_
  refine lv_iconst (v := nI 0) hx hb dL_runText_1 (by decide) ?_
  refine lv_aload_n hx hb dL_runText_2 rfl (lv_at hl 0 rfl) ?_
  refine call_cj (SX := JT) (X := [(oa, outE cL f9)]) (Wc := lmW cI cT x a o b t h ra s0 j0) (Z := []) (pj := (fun (u : JT) E => ¬ (opRun s0).1 = 0 ∧ E = exS (opRun s0).1 ∧ LR s0 u)) (Wx := (fun u => lmW cI cT x a o b t h ra s0 u)) (As := []) (rest := [.int (nI 0), .ref oa]) ⟨hx, hb, hml, hown, hts⟩ (c_X4_runText l hflag D cI cT x a o b t h ra s0 j0 hL) (cwV 0 hts gL_runText_X4_runText rfl rfl rfl (by decide +kernel) ⟨Nat.le_of_ble_eq_true rfl, Nat.le_of_ble_eq_true rfl⟩) (hK.sub (tys' := TY cI cT) [0, 1] rfl) (P_nilE hP) (D_nilE hD) hS hA hX.1 (va_recv hK hP (ci := 4) (q0 := 1) rfl rfl) (fun _ => adr_lm) (fun _ => adr_lm) rfl hl.1 rfl (Nat.le_of_ble_eq_true rfl) ⟨by decide, by decide⟩ dL_runText_3 (fun E ce q9 u H locs hpx hP hD hS hce hv hcl => ?_) (fun r u H locs hp hP hD hS => ?_)
  · obtain ⟨hne, hE, hLx⟩ := hpx
    have hP := P_nilF hP; have hD := D_nilF hD
    have hle := hro.1
    have h9 : (opRun s0).1 = 1 := by omega
    have hE : E = xS := by rw [hE, h9]; rfl
    rw [hE] at hcl
    refine catS0 hown hX (htab.trans rfl) (by decide) (by decide) (hts (.classLink RL 15 xS) (by decide +kernel)) hce hv hcl ?_
    refine lv_astore_n (lv' := [(2, .ref q9), (0, .ref (x 0)), (1, .ref oa)]) hx hb dL_runText_11 rfl hl (by decide) rfl (fun ls hl => ?_)
    refine lv_iconst (v := nI 1) hx hb dL_runText_12 (by decide) ?_
    exact wret (u := (u, f9)) hQ hx hb hrt hlk hS dL_runText_13 (by rw [hro.2 hne]; exact hP) ⟨by rw [h9], by rw [hro.2 hne]; exact hLx, fun h => absurd h hne⟩ ⟨by decide, by decide⟩
  · obtain ⟨h0, rfl, hLu⟩ := hp
    have hP := P_nilF hP; have hD := D_nilF hD
    refine lv_i2l (v := (opRun s0).2.1.toInt64) hx hb dL_runText_6 rfl ?_
    refine va_last hx hb hK hP hD hS 0 2 rfl rfl (vp_in_nI (by decide) (by decide)) dL_runText_7 (fun H locs hP hD hS => ?_)
    rw [show (nI 0).toNatClampNeg = 0 by decide] at hP
    refine lv_goto (tgt := 14) hx hb dL_runText_8 (by decide) ?_
    refine lv_iconst (v := nI 0) hx hb dL_runText_14 (by decide) ?_
    exact wret (u := (u, vp_updL f9 0 (opRun s0).2.1.toInt64)) hQ hx hb hrt hlk hS dL_runText_15 hP ⟨by rw [h0], hLu, fun _ => updL_0 (f := f9)⟩ ⟨by decide, by decide⟩
abbrev rL_undo : Room := { frames := 7, cells := 4, slots := 24, locals := 110 }
set_option maxHeartbeats 1000000 in
set_option maxRecDepth 100000 in
theorem c_L_undo (l : Launch) (hflag : l.stackTraces = false) (D : va_G) (cI cT cL : ClassId) (x a o b t h : Nat → Nat) (ra : Nat → Nat → Nat) (s0 : ST) (j0 : JT) (oa : Nat) (f9 : Nat → Int64) (hL : LR s0 j0) : CW l D cI cT cL yL_undo wsL_undo rL_undo [.ref (x 0), .ref oa] ([(oa, outE cL f9)] ++ lmW cI cT x a o b t h ra s0 j0) (S := JT × (Nat → Int64)) (fun v u => v = nI (opUndo s0).1 ∧ LR (opUndo s0).2.2 u.1 ∧ ((opUndo s0).1 = 0 → u.2 0 = (opUndo s0).2.1.toInt64)) (fun u => [(oa, outE cL u.2)] ++ lmW cI cT x a o b t h ra (opUndo s0).2.2 u.1) 4 24 := by
  have hro := ro_Undo (s := s0)
  refine CW.of (cc := cL_undo) (maxL := 3) (ret := some .int) (hh := [(0, 8, 11, 15)]) (by decide) rfl (Nat.le_of_ble_eq_true rfl) ?_
  intro p e s m args below meth c A Q hQ B htab hA hX H locs hP hK hD hS ls hl
  obtain ⟨hx, hb, hml, hrt, hts, hown, hlk⟩ := B
  have hl : lv_has ls 3 [(0, .ref (x 0)), (1, .ref oa)] := hl
  refine lv_aload_n hx hb dL_undo_0 rfl (lv_at hl 1 rfl) ?_
  refine lv_iconst (v := nI 0) hx hb dL_undo_1 (by decide) ?_
  refine lv_aload_n hx hb dL_undo_2 rfl (lv_at hl 0 rfl) ?_
  refine call_cj (SX := Unit) (X := [(oa, outE cL f9)]) (Wc := lmW cI cT x a o b t h ra s0 j0) (Z := []) (pj := (fun _ E => ¬ (opUndo s0).1 = 0 ∧ E = exS (opUndo s0).1)) (Wx := (fun _ => lmW cI cT x a o b t h ra s0 j0)) (As := []) (rest := [.int (nI 0), .ref oa]) ⟨hx, hb, hml, hown, hts⟩ (c_X4_undo l hflag D cI cT x a o b t h ra s0 j0 hL) (cwV 0 hts gL_undo_X4_undo rfl rfl rfl (by decide +kernel) ⟨Nat.le_of_ble_eq_true rfl, Nat.le_of_ble_eq_true rfl⟩) (hK.sub (tys' := TY cI cT) [0, 1] rfl) (P_nilE hP) (D_nilE hD) hS hA hX.1 (va_recv hK hP (ci := 4) (q0 := 1) rfl rfl) (fun _ => adr_lm) (fun _ => adr_lm) rfl hl.1 rfl (Nat.le_of_ble_eq_true rfl) ⟨by decide, by decide⟩ dL_undo_3 (fun E ce q9 u H locs hpx hP hD hS hce hv hcl => ?_) (fun r u H locs hp hP hD hS => ?_)
  · obtain ⟨hne, hE⟩ := hpx
    have hP := P_nilF hP; have hD := D_nilF hD
    have hle := hro.1
    have h9 : (opUndo s0).1 = 1 := by omega
    have hE : E = xS := by rw [hE, h9]; rfl
    rw [hE] at hcl
    refine catS0 hown hX (htab.trans rfl) (by decide) (by decide) (hts (.classLink RL 15 xS) (by decide +kernel)) hce hv hcl ?_
    refine lv_astore_n (lv' := [(2, .ref q9), (0, .ref (x 0)), (1, .ref oa)]) hx hb dL_undo_11 rfl hl (by decide) rfl (fun ls hl => ?_)
    refine lv_iconst (v := nI 1) hx hb dL_undo_12 (by decide) ?_
    exact wret (u := (j0, f9)) hQ hx hb hrt hlk hS dL_undo_13 (by rw [hro.2 hne]; exact hP) ⟨by rw [h9], by rw [hro.2 hne]; exact hL, fun h => absurd h hne⟩ ⟨by decide, by decide⟩
  · obtain ⟨h0, rfl, hLu⟩ := hp
    have hP := P_nilF hP; have hD := D_nilF hD
    refine lv_i2l (v := (opUndo s0).2.1.toInt64) hx hb dL_undo_6 rfl ?_
    refine va_last hx hb hK hP hD hS 0 2 rfl rfl (vp_in_nI (by decide) (by decide)) dL_undo_7 (fun H locs hP hD hS => ?_)
    rw [show (nI 0).toNatClampNeg = 0 by decide] at hP
    refine lv_goto (tgt := 14) hx hb dL_undo_8 (by decide) ?_
    refine lv_iconst (v := nI 0) hx hb dL_undo_14 (by decide) ?_
    exact wret (u := (u, vp_updL f9 0 (opUndo s0).2.1.toInt64)) hQ hx hb hrt hlk hS dL_undo_15 hP ⟨by rw [h0], hLu, fun _ => updL_0 (f := f9)⟩ ⟨by decide, by decide⟩
abbrev rL_state : Room := { frames := 8, cells := 4, slots := 24, locals := 131 }
set_option maxHeartbeats 1000000 in
set_option maxRecDepth 100000 in
theorem c_L_state (l : Launch) (hflag : l.stackTraces = false) (D : va_G) (cI cT cL : ClassId) (x a o b t h : Nat → Nat) (ra : Nat → Nat → Nat) (s0 : ST) (j0 : JT) (oa : Nat) (f9 : Nat → Int64) (p0 : Int32) (hL : LR s0 j0) : CW l D cI cT cL yL_state wsL_state rL_state [.ref (x 0), .int p0, .ref oa] ([(oa, outE cL f9)] ++ lmW cI cT x a o b t h ra s0 j0) (S := JT × (Nat → Int64)) (fun v u => v = nI (opT s0 p0 (stI s0.1)).1 ∧ LR (opT s0 p0 (stI s0.1)).2.2 u.1 ∧ ((opT s0 p0 (stI s0.1)).1 = 0 → u.2 0 = (opT s0 p0 (stI s0.1)).2.1.toInt64)) (fun u => [(oa, outE cL u.2)] ++ lmW cI cT x a o b t h ra (opT s0 p0 (stI s0.1)).2.2 u.1) 4 24 := by
  have hro := ro_T (s := s0) (p0 := p0) (f := (stI s0.1))
  refine CW.of (cc := cL_state) (maxL := 4) (ret := some .int) (hh := [(0, 9, 12, 13)]) (by decide) rfl (Nat.le_of_ble_eq_true rfl) ?_
  intro p e s m args below meth c A Q hQ B htab hA hX H locs hP hK hD hS ls hl
  obtain ⟨hx, hb, hml, hrt, hts, hown, hlk⟩ := B
  have hl : lv_has ls 4 [(0, .ref (x 0)), (1, .int p0), (2, .ref oa)] := hl
  refine lv_aload_n hx hb dL_state_0 rfl (lv_at hl 2 rfl) ?_
  refine lv_iconst (v := nI 0) hx hb dL_state_1 (by decide) ?_
  refine lv_aload_n hx hb dL_state_2 rfl (lv_at hl 0 rfl) ?_
  refine lv_iload_n hx hb dL_state_3 rfl (lv_at hl 1 rfl) ?_
  refine call_cj (SX := Unit) (X := [(oa, outE cL f9)]) (Wc := lmW cI cT x a o b t h ra s0 j0) (Z := []) (pj := (fun _ E => ¬ (opT s0 p0 (stI s0.1)).1 = 0 ∧ E = exI (opT s0 p0 (stI s0.1)).1)) (Wx := (fun _ => lmW cI cT x a o b t h ra s0 j0)) (As := [.int p0]) (rest := [.int (nI 0), .ref oa]) ⟨hx, hb, hml, hown, hts⟩ (c_X4_state l hflag D cI cT x a o b t h ra s0 j0 p0 hL) (cwV 1 hts gL_state_X4_state rfl rfl rfl (by decide +kernel) ⟨Nat.le_of_ble_eq_true rfl, Nat.le_of_ble_eq_true rfl⟩) (hK.sub (tys' := TY cI cT) [0, 1] rfl) (P_nilE hP) (D_nilE hD) hS hA hX.1 (va_recv hK hP (ci := 4) (q0 := 1) rfl rfl) (fun _ => adr_lm) (fun _ => adr_lm) rfl hl.1 rfl (Nat.le_of_ble_eq_true rfl) ⟨by decide, by decide⟩ dL_state_4 (fun E ce q9 u H locs hpx hP hD hS hce hv hcl => ?_) (fun r u H locs hp hP hD hS => ?_)
  · obtain ⟨hne, hE⟩ := hpx
    have hP := P_nilF hP; have hD := D_nilF hD
    have hle := hro.1
    have h9 : (opT s0 p0 (stI s0.1)).1 = 1 := by omega
    have hE : E = xI := by rw [hE, h9]; rfl
    rw [hE] at hcl
    refine catI hown hX (htab.trans rfl) (by decide) (by decide) (hts (.classLink RL 13 xI) (by decide +kernel)) hce hv hcl ?_
    refine lv_astore_n (lv' := [(3, .ref q9), (0, .ref (x 0)), (1, .int p0), (2, .ref oa)]) hx hb dL_state_12 rfl hl (by decide) rfl (fun ls hl => ?_)
    refine lv_iconst (v := nI 1) hx hb dL_state_13 (by decide) ?_
    exact wret (u := (j0, f9)) hQ hx hb hrt hlk hS dL_state_14 (by rw [hro.2 hne]; exact hP) ⟨by rw [h9], by rw [hro.2 hne]; exact hL, fun h => absurd h hne⟩ ⟨by decide, by decide⟩
  · obtain ⟨h0, rfl, hLu⟩ := hp
    have hP := P_nilF hP; have hD := D_nilF hD
    refine lv_i2l (v := (opT s0 p0 (stI s0.1)).2.1.toInt64) hx hb dL_state_7 rfl ?_
    refine va_last hx hb hK hP hD hS 0 2 rfl rfl (vp_in_nI (by decide) (by decide)) dL_state_8 (fun H locs hP hD hS => ?_)
    rw [show (nI 0).toNatClampNeg = 0 by decide] at hP
    refine lv_goto (tgt := 15) hx hb dL_state_9 (by decide) ?_
    refine lv_iconst (v := nI 0) hx hb dL_state_15 (by decide) ?_
    exact wret (u := (u, vp_updL f9 0 (opT s0 p0 (stI s0.1)).2.1.toInt64)) hQ hx hb hrt hlk hS dL_state_16 hP ⟨by rw [h0], hLu, fun _ => updL_0 (f := f9)⟩ ⟨by decide, by decide⟩
abbrev rL_workOf : Room := { frames := 8, cells := 4, slots := 24, locals := 131 }
set_option maxHeartbeats 1000000 in
set_option maxRecDepth 100000 in
theorem c_L_workOf (l : Launch) (hflag : l.stackTraces = false) (D : va_G) (cI cT cL : ClassId) (x a o b t h : Nat → Nat) (ra : Nat → Nat → Nat) (s0 : ST) (j0 : JT) (oa : Nat) (f9 : Nat → Int64) (p0 : Int32) (hL : LR s0 j0) : CW l D cI cT cL yL_workOf wsL_workOf rL_workOf [.ref (x 0), .int p0, .ref oa] ([(oa, outE cL f9)] ++ lmW cI cT x a o b t h ra s0 j0) (S := JT × (Nat → Int64)) (fun v u => v = nI (opT s0 p0 (s0.1 1)).1 ∧ LR (opT s0 p0 (s0.1 1)).2.2 u.1 ∧ ((opT s0 p0 (s0.1 1)).1 = 0 → u.2 0 = (opT s0 p0 (s0.1 1)).2.1.toInt64)) (fun u => [(oa, outE cL u.2)] ++ lmW cI cT x a o b t h ra (opT s0 p0 (s0.1 1)).2.2 u.1) 4 24 := by
  have hro := ro_T (s := s0) (p0 := p0) (f := (s0.1 1))
  refine CW.of (cc := cL_workOf) (maxL := 4) (ret := some .int) (hh := [(0, 9, 12, 13)]) (by decide) rfl (Nat.le_of_ble_eq_true rfl) ?_
  intro p e s m args below meth c A Q hQ B htab hA hX H locs hP hK hD hS ls hl
  obtain ⟨hx, hb, hml, hrt, hts, hown, hlk⟩ := B
  have hl : lv_has ls 4 [(0, .ref (x 0)), (1, .int p0), (2, .ref oa)] := hl
  refine lv_aload_n hx hb dL_workOf_0 rfl (lv_at hl 2 rfl) ?_
  refine lv_iconst (v := nI 0) hx hb dL_workOf_1 (by decide) ?_
  refine lv_aload_n hx hb dL_workOf_2 rfl (lv_at hl 0 rfl) ?_
  refine lv_iload_n hx hb dL_workOf_3 rfl (lv_at hl 1 rfl) ?_
  refine call_cj (SX := Unit) (X := [(oa, outE cL f9)]) (Wc := lmW cI cT x a o b t h ra s0 j0) (Z := []) (pj := (fun _ E => ¬ (opT s0 p0 (s0.1 1)).1 = 0 ∧ E = exI (opT s0 p0 (s0.1 1)).1)) (Wx := (fun _ => lmW cI cT x a o b t h ra s0 j0)) (As := [.int p0]) (rest := [.int (nI 0), .ref oa]) ⟨hx, hb, hml, hown, hts⟩ (c_X4_workOf l hflag D cI cT x a o b t h ra s0 j0 p0 hL) (cwV 1 hts gL_workOf_X4_workOf rfl rfl rfl (by decide +kernel) ⟨Nat.le_of_ble_eq_true rfl, Nat.le_of_ble_eq_true rfl⟩) (hK.sub (tys' := TY cI cT) [0, 1] rfl) (P_nilE hP) (D_nilE hD) hS hA hX.1 (va_recv hK hP (ci := 4) (q0 := 1) rfl rfl) (fun _ => adr_lm) (fun _ => adr_lm) rfl hl.1 rfl (Nat.le_of_ble_eq_true rfl) ⟨by decide, by decide⟩ dL_workOf_4 (fun E ce q9 u H locs hpx hP hD hS hce hv hcl => ?_) (fun r u H locs hp hP hD hS => ?_)
  · obtain ⟨hne, hE⟩ := hpx
    have hP := P_nilF hP; have hD := D_nilF hD
    have hle := hro.1
    have h9 : (opT s0 p0 (s0.1 1)).1 = 1 := by omega
    have hE : E = xI := by rw [hE, h9]; rfl
    rw [hE] at hcl
    refine catI hown hX (htab.trans rfl) (by decide) (by decide) (hts (.classLink RL 13 xI) (by decide +kernel)) hce hv hcl ?_
    refine lv_astore_n (lv' := [(3, .ref q9), (0, .ref (x 0)), (1, .int p0), (2, .ref oa)]) hx hb dL_workOf_12 rfl hl (by decide) rfl (fun ls hl => ?_)
    refine lv_iconst (v := nI 1) hx hb dL_workOf_13 (by decide) ?_
    exact wret (u := (j0, f9)) hQ hx hb hrt hlk hS dL_workOf_14 (by rw [hro.2 hne]; exact hP) ⟨by rw [h9], by rw [hro.2 hne]; exact hL, fun h => absurd h hne⟩ ⟨by decide, by decide⟩
  · obtain ⟨h0, rfl, hLu⟩ := hp
    have hP := P_nilF hP; have hD := D_nilF hD
    refine lv_i2l (v := (opT s0 p0 (s0.1 1)).2.1.toInt64) hx hb dL_workOf_7 rfl ?_
    refine va_last hx hb hK hP hD hS 0 2 rfl rfl (vp_in_nI (by decide) (by decide)) dL_workOf_8 (fun H locs hP hD hS => ?_)
    rw [show (nI 0).toNatClampNeg = 0 by decide] at hP
    refine lv_goto (tgt := 15) hx hb dL_workOf_9 (by decide) ?_
    refine lv_iconst (v := nI 0) hx hb dL_workOf_15 (by decide) ?_
    exact wret (u := (u, vp_updL f9 0 (opT s0 p0 (s0.1 1)).2.1.toInt64)) hQ hx hb hrt hlk hS dL_workOf_16 hP ⟨by rw [h0], hLu, fun _ => updL_0 (f := f9)⟩ ⟨by decide, by decide⟩
abbrev rL_abortsOf : Room := { frames := 8, cells := 4, slots := 24, locals := 131 }
set_option maxHeartbeats 1000000 in
set_option maxRecDepth 100000 in
theorem c_L_abortsOf (l : Launch) (hflag : l.stackTraces = false) (D : va_G) (cI cT cL : ClassId) (x a o b t h : Nat → Nat) (ra : Nat → Nat → Nat) (s0 : ST) (j0 : JT) (oa : Nat) (f9 : Nat → Int64) (p0 : Int32) (hL : LR s0 j0) : CW l D cI cT cL yL_abortsOf wsL_abortsOf rL_abortsOf [.ref (x 0), .int p0, .ref oa] ([(oa, outE cL f9)] ++ lmW cI cT x a o b t h ra s0 j0) (S := JT × (Nat → Int64)) (fun v u => v = nI (opT s0 p0 (s0.1 2)).1 ∧ LR (opT s0 p0 (s0.1 2)).2.2 u.1 ∧ ((opT s0 p0 (s0.1 2)).1 = 0 → u.2 0 = (opT s0 p0 (s0.1 2)).2.1.toInt64)) (fun u => [(oa, outE cL u.2)] ++ lmW cI cT x a o b t h ra (opT s0 p0 (s0.1 2)).2.2 u.1) 4 24 := by
  have hro := ro_T (s := s0) (p0 := p0) (f := (s0.1 2))
  refine CW.of (cc := cL_abortsOf) (maxL := 4) (ret := some .int) (hh := [(0, 9, 12, 13)]) (by decide) rfl (Nat.le_of_ble_eq_true rfl) ?_
  intro p e s m args below meth c A Q hQ B htab hA hX H locs hP hK hD hS ls hl
  obtain ⟨hx, hb, hml, hrt, hts, hown, hlk⟩ := B
  have hl : lv_has ls 4 [(0, .ref (x 0)), (1, .int p0), (2, .ref oa)] := hl
  refine lv_aload_n hx hb dL_abortsOf_0 rfl (lv_at hl 2 rfl) ?_
  refine lv_iconst (v := nI 0) hx hb dL_abortsOf_1 (by decide) ?_
  refine lv_aload_n hx hb dL_abortsOf_2 rfl (lv_at hl 0 rfl) ?_
  refine lv_iload_n hx hb dL_abortsOf_3 rfl (lv_at hl 1 rfl) ?_
  refine call_cj (SX := Unit) (X := [(oa, outE cL f9)]) (Wc := lmW cI cT x a o b t h ra s0 j0) (Z := []) (pj := (fun _ E => ¬ (opT s0 p0 (s0.1 2)).1 = 0 ∧ E = exI (opT s0 p0 (s0.1 2)).1)) (Wx := (fun _ => lmW cI cT x a o b t h ra s0 j0)) (As := [.int p0]) (rest := [.int (nI 0), .ref oa]) ⟨hx, hb, hml, hown, hts⟩ (c_X4_abortsOf l hflag D cI cT x a o b t h ra s0 j0 p0 hL) (cwV 1 hts gL_abortsOf_X4_abortsOf rfl rfl rfl (by decide +kernel) ⟨Nat.le_of_ble_eq_true rfl, Nat.le_of_ble_eq_true rfl⟩) (hK.sub (tys' := TY cI cT) [0, 1] rfl) (P_nilE hP) (D_nilE hD) hS hA hX.1 (va_recv hK hP (ci := 4) (q0 := 1) rfl rfl) (fun _ => adr_lm) (fun _ => adr_lm) rfl hl.1 rfl (Nat.le_of_ble_eq_true rfl) ⟨by decide, by decide⟩ dL_abortsOf_4 (fun E ce q9 u H locs hpx hP hD hS hce hv hcl => ?_) (fun r u H locs hp hP hD hS => ?_)
  · obtain ⟨hne, hE⟩ := hpx
    have hP := P_nilF hP; have hD := D_nilF hD
    have hle := hro.1
    have h9 : (opT s0 p0 (s0.1 2)).1 = 1 := by omega
    have hE : E = xI := by rw [hE, h9]; rfl
    rw [hE] at hcl
    refine catI hown hX (htab.trans rfl) (by decide) (by decide) (hts (.classLink RL 13 xI) (by decide +kernel)) hce hv hcl ?_
    refine lv_astore_n (lv' := [(3, .ref q9), (0, .ref (x 0)), (1, .int p0), (2, .ref oa)]) hx hb dL_abortsOf_12 rfl hl (by decide) rfl (fun ls hl => ?_)
    refine lv_iconst (v := nI 1) hx hb dL_abortsOf_13 (by decide) ?_
    exact wret (u := (j0, f9)) hQ hx hb hrt hlk hS dL_abortsOf_14 (by rw [hro.2 hne]; exact hP) ⟨by rw [h9], by rw [hro.2 hne]; exact hL, fun h => absurd h hne⟩ ⟨by decide, by decide⟩
  · obtain ⟨h0, rfl, hLu⟩ := hp
    have hP := P_nilF hP; have hD := D_nilF hD
    refine lv_i2l (v := (opT s0 p0 (s0.1 2)).2.1.toInt64) hx hb dL_abortsOf_7 rfl ?_
    refine va_last hx hb hK hP hD hS 0 2 rfl rfl (vp_in_nI (by decide) (by decide)) dL_abortsOf_8 (fun H locs hP hD hS => ?_)
    rw [show (nI 0).toNatClampNeg = 0 by decide] at hP
    refine lv_goto (tgt := 15) hx hb dL_abortsOf_9 (by decide) ?_
    refine lv_iconst (v := nI 0) hx hb dL_abortsOf_15 (by decide) ?_
    exact wret (u := (u, vp_updL f9 0 (opT s0 p0 (s0.1 2)).2.1.toInt64)) hQ hx hb hrt hlk hS dL_abortsOf_16 hP ⟨by rw [h0], hLu, fun _ => updL_0 (f := f9)⟩ ⟨by decide, by decide⟩
abbrev rL_birthOf : Room := { frames := 8, cells := 4, slots := 24, locals := 131 }
set_option maxHeartbeats 1000000 in
set_option maxRecDepth 100000 in
theorem c_L_birthOf (l : Launch) (hflag : l.stackTraces = false) (D : va_G) (cI cT cL : ClassId) (x a o b t h : Nat → Nat) (ra : Nat → Nat → Nat) (s0 : ST) (j0 : JT) (oa : Nat) (f9 : Nat → Int64) (p0 : Int32) (hL : LR s0 j0) : CW l D cI cT cL yL_birthOf wsL_birthOf rL_birthOf [.ref (x 0), .int p0, .ref oa] ([(oa, outE cL f9)] ++ lmW cI cT x a o b t h ra s0 j0) (S := JT × (Nat → Int64)) (fun v u => v = nI (opT s0 p0 (s0.1 0)).1 ∧ LR (opT s0 p0 (s0.1 0)).2.2 u.1 ∧ ((opT s0 p0 (s0.1 0)).1 = 0 → u.2 0 = (opT s0 p0 (s0.1 0)).2.1.toInt64)) (fun u => [(oa, outE cL u.2)] ++ lmW cI cT x a o b t h ra (opT s0 p0 (s0.1 0)).2.2 u.1) 4 24 := by
  have hro := ro_T (s := s0) (p0 := p0) (f := (s0.1 0))
  refine CW.of (cc := cL_birthOf) (maxL := 4) (ret := some .int) (hh := [(0, 9, 12, 13)]) (by decide) rfl (Nat.le_of_ble_eq_true rfl) ?_
  intro p e s m args below meth c A Q hQ B htab hA hX H locs hP hK hD hS ls hl
  obtain ⟨hx, hb, hml, hrt, hts, hown, hlk⟩ := B
  have hl : lv_has ls 4 [(0, .ref (x 0)), (1, .int p0), (2, .ref oa)] := hl
  refine lv_aload_n hx hb dL_birthOf_0 rfl (lv_at hl 2 rfl) ?_
  refine lv_iconst (v := nI 0) hx hb dL_birthOf_1 (by decide) ?_
  refine lv_aload_n hx hb dL_birthOf_2 rfl (lv_at hl 0 rfl) ?_
  refine lv_iload_n hx hb dL_birthOf_3 rfl (lv_at hl 1 rfl) ?_
  refine call_cj (SX := Unit) (X := [(oa, outE cL f9)]) (Wc := lmW cI cT x a o b t h ra s0 j0) (Z := []) (pj := (fun _ E => ¬ (opT s0 p0 (s0.1 0)).1 = 0 ∧ E = exI (opT s0 p0 (s0.1 0)).1)) (Wx := (fun _ => lmW cI cT x a o b t h ra s0 j0)) (As := [.int p0]) (rest := [.int (nI 0), .ref oa]) ⟨hx, hb, hml, hown, hts⟩ (c_X4_birthOf l hflag D cI cT x a o b t h ra s0 j0 p0 hL) (cwV 1 hts gL_birthOf_X4_birthOf rfl rfl rfl (by decide +kernel) ⟨Nat.le_of_ble_eq_true rfl, Nat.le_of_ble_eq_true rfl⟩) (hK.sub (tys' := TY cI cT) [0, 1] rfl) (P_nilE hP) (D_nilE hD) hS hA hX.1 (va_recv hK hP (ci := 4) (q0 := 1) rfl rfl) (fun _ => adr_lm) (fun _ => adr_lm) rfl hl.1 rfl (Nat.le_of_ble_eq_true rfl) ⟨by decide, by decide⟩ dL_birthOf_4 (fun E ce q9 u H locs hpx hP hD hS hce hv hcl => ?_) (fun r u H locs hp hP hD hS => ?_)
  · obtain ⟨hne, hE⟩ := hpx
    have hP := P_nilF hP; have hD := D_nilF hD
    have hle := hro.1
    have h9 : (opT s0 p0 (s0.1 0)).1 = 1 := by omega
    have hE : E = xI := by rw [hE, h9]; rfl
    rw [hE] at hcl
    refine catI hown hX (htab.trans rfl) (by decide) (by decide) (hts (.classLink RL 13 xI) (by decide +kernel)) hce hv hcl ?_
    refine lv_astore_n (lv' := [(3, .ref q9), (0, .ref (x 0)), (1, .int p0), (2, .ref oa)]) hx hb dL_birthOf_12 rfl hl (by decide) rfl (fun ls hl => ?_)
    refine lv_iconst (v := nI 1) hx hb dL_birthOf_13 (by decide) ?_
    exact wret (u := (j0, f9)) hQ hx hb hrt hlk hS dL_birthOf_14 (by rw [hro.2 hne]; exact hP) ⟨by rw [h9], by rw [hro.2 hne]; exact hL, fun h => absurd h hne⟩ ⟨by decide, by decide⟩
  · obtain ⟨h0, rfl, hLu⟩ := hp
    have hP := P_nilF hP; have hD := D_nilF hD
    refine lv_i2l (v := (opT s0 p0 (s0.1 0)).2.1.toInt64) hx hb dL_birthOf_7 rfl ?_
    refine va_last hx hb hK hP hD hS 0 2 rfl rfl (vp_in_nI (by decide) (by decide)) dL_birthOf_8 (fun H locs hP hD hS => ?_)
    rw [show (nI 0).toNatClampNeg = 0 by decide] at hP
    refine lv_goto (tgt := 15) hx hb dL_birthOf_9 (by decide) ?_
    refine lv_iconst (v := nI 0) hx hb dL_birthOf_15 (by decide) ?_
    exact wret (u := (u, vp_updL f9 0 (opT s0 p0 (s0.1 0)).2.1.toInt64)) hQ hx hb hrt hlk hS dL_birthOf_16 hP ⟨by rw [h0], hLu, fun _ => updL_0 (f := f9)⟩ ⟨by decide, by decide⟩
abbrev rL_held : Room := { frames := 8, cells := 4, slots := 24, locals := 132 }
set_option maxHeartbeats 1000000 in
set_option maxRecDepth 100000 in
theorem c_L_held (l : Launch) (hflag : l.stackTraces = false) (D : va_G) (cI cT cL : ClassId) (x a o b t h : Nat → Nat) (ra : Nat → Nat → Nat) (s0 : ST) (j0 : JT) (oa : Nat) (f9 : Nat → Int64) (p0 p1 : Int32) (hL : LR s0 j0) : CW l D cI cT cL yL_held wsL_held rL_held [.ref (x 0), .int p0, .int p1, .ref oa] ([(oa, outE cL f9)] ++ lmW cI cT x a o b t h ra s0 j0) (S := JT × (Nat → Int64)) (fun v u => v = nI (opHeld s0 p0 p1).1 ∧ LR (opHeld s0 p0 p1).2.2 u.1 ∧ ((opHeld s0 p0 p1).1 = 0 → u.2 0 = (opHeld s0 p0 p1).2.1.toInt64)) (fun u => [(oa, outE cL u.2)] ++ lmW cI cT x a o b t h ra (opHeld s0 p0 p1).2.2 u.1) 4 24 := by
  have hro := ro_Held (s := s0) (p0 := p0) (p1 := p1)
  refine CW.of (cc := cL_held) (maxL := 5) (ret := some .int) (hh := [(0, 10, 13, 13)]) (by decide) rfl (Nat.le_of_ble_eq_true rfl) ?_
  intro p e s m args below meth c A Q hQ B htab hA hX H locs hP hK hD hS ls hl
  obtain ⟨hx, hb, hml, hrt, hts, hown, hlk⟩ := B
  have hl : lv_has ls 5 [(0, .ref (x 0)), (1, .int p0), (2, .int p1), (3, .ref oa)] := hl
  refine lv_aload_n hx hb dL_held_0 rfl (lv_at hl 3 rfl) ?_
  refine lv_iconst (v := nI 0) hx hb dL_held_1 (by decide) ?_
  refine lv_aload_n hx hb dL_held_2 rfl (lv_at hl 0 rfl) ?_
  refine lv_iload_n hx hb dL_held_3 rfl (lv_at hl 1 rfl) ?_
  refine lv_iload_n hx hb dL_held_4 rfl (lv_at hl 2 rfl) ?_
  refine call_cj (SX := Unit) (X := [(oa, outE cL f9)]) (Wc := lmW cI cT x a o b t h ra s0 j0) (Z := []) (pj := (fun _ E => ¬ (opHeld s0 p0 p1).1 = 0 ∧ E = exI (opHeld s0 p0 p1).1)) (Wx := (fun _ => lmW cI cT x a o b t h ra s0 j0)) (As := [.int p0, .int p1]) (rest := [.int (nI 0), .ref oa]) ⟨hx, hb, hml, hown, hts⟩ (c_X4_held l hflag D cI cT x a o b t h ra s0 j0 p0 p1 hL) (cwV 2 hts gL_held_X4_held rfl rfl rfl (by decide +kernel) ⟨Nat.le_of_ble_eq_true rfl, Nat.le_of_ble_eq_true rfl⟩) (hK.sub (tys' := TY cI cT) [0, 1] rfl) (P_nilE hP) (D_nilE hD) hS hA hX.1 (va_recv hK hP (ci := 4) (q0 := 1) rfl rfl) (fun _ => adr_lm) (fun _ => adr_lm) rfl hl.1 rfl (Nat.le_of_ble_eq_true rfl) ⟨by decide, by decide⟩ dL_held_5 (fun E ce q9 u H locs hpx hP hD hS hce hv hcl => ?_) (fun r u H locs hp hP hD hS => ?_)
  · obtain ⟨hne, hE⟩ := hpx
    have hP := P_nilF hP; have hD := D_nilF hD
    have hle := hro.1
    have h9 : (opHeld s0 p0 p1).1 = 1 := by omega
    have hE : E = xI := by rw [hE, h9]; rfl
    rw [hE] at hcl
    refine catI hown hX (htab.trans rfl) (by decide) (by decide) (hts (.classLink RL 13 xI) (by decide +kernel)) hce hv hcl ?_
    refine lv_astore (lv' := [(4, .ref q9), (0, .ref (x 0)), (1, .int p0), (2, .int p1), (3, .ref oa)]) hx hb dL_held_13 hl (by decide) rfl (fun ls hl => ?_)
    refine lv_iconst (v := nI 1) hx hb dL_held_15 (by decide) ?_
    exact wret (u := (j0, f9)) hQ hx hb hrt hlk hS dL_held_16 (by rw [hro.2 hne]; exact hP) ⟨by rw [h9], by rw [hro.2 hne]; exact hL, fun h => absurd h hne⟩ ⟨by decide, by decide⟩
  · obtain ⟨h0, rfl, hLu⟩ := hp
    have hP := P_nilF hP; have hD := D_nilF hD
    refine lv_i2l (v := (opHeld s0 p0 p1).2.1.toInt64) hx hb dL_held_8 rfl ?_
    refine va_last hx hb hK hP hD hS 0 2 rfl rfl (vp_in_nI (by decide) (by decide)) dL_held_9 (fun H locs hP hD hS => ?_)
    rw [show (nI 0).toNatClampNeg = 0 by decide] at hP
    refine lv_goto (tgt := 17) hx hb dL_held_10 (by decide) ?_
    refine lv_iconst (v := nI 0) hx hb dL_held_17 (by decide) ?_
    exact wret (u := (u, vp_updL f9 0 (opHeld s0 p0 p1).2.1.toInt64)) hQ hx hb hrt hlk hS dL_held_18 hP ⟨by rw [h0], hLu, fun _ => updL_0 (f := f9)⟩ ⟨by decide, by decide⟩
abbrev rL_awaited : Room := { frames := 8, cells := 4, slots := 24, locals := 131 }
set_option maxHeartbeats 1000000 in
set_option maxRecDepth 100000 in
theorem c_L_awaited (l : Launch) (hflag : l.stackTraces = false) (D : va_G) (cI cT cL : ClassId) (x a o b t h : Nat → Nat) (ra : Nat → Nat → Nat) (s0 : ST) (j0 : JT) (oa : Nat) (f9 : Nat → Int64) (p0 : Int32) (hL : LR s0 j0) : CW l D cI cT cL yL_awaited wsL_awaited rL_awaited [.ref (x 0), .int p0, .ref oa] ([(oa, outE cL f9)] ++ lmW cI cT x a o b t h ra s0 j0) (S := JT × (Nat → Int64)) (fun v u => v = nI (opT s0 p0 (s0.1 3)).1 ∧ LR (opT s0 p0 (s0.1 3)).2.2 u.1 ∧ ((opT s0 p0 (s0.1 3)).1 = 0 → u.2 0 = (opT s0 p0 (s0.1 3)).2.1.toInt64)) (fun u => [(oa, outE cL u.2)] ++ lmW cI cT x a o b t h ra (opT s0 p0 (s0.1 3)).2.2 u.1) 4 24 := by
  have hro := ro_T (s := s0) (p0 := p0) (f := (s0.1 3))
  refine CW.of (cc := cL_awaited) (maxL := 4) (ret := some .int) (hh := [(0, 9, 12, 13)]) (by decide) rfl (Nat.le_of_ble_eq_true rfl) ?_
  intro p e s m args below meth c A Q hQ B htab hA hX H locs hP hK hD hS ls hl
  obtain ⟨hx, hb, hml, hrt, hts, hown, hlk⟩ := B
  have hl : lv_has ls 4 [(0, .ref (x 0)), (1, .int p0), (2, .ref oa)] := hl
  refine lv_aload_n hx hb dL_awaited_0 rfl (lv_at hl 2 rfl) ?_
  refine lv_iconst (v := nI 0) hx hb dL_awaited_1 (by decide) ?_
  refine lv_aload_n hx hb dL_awaited_2 rfl (lv_at hl 0 rfl) ?_
  refine lv_iload_n hx hb dL_awaited_3 rfl (lv_at hl 1 rfl) ?_
  refine call_cj (SX := Unit) (X := [(oa, outE cL f9)]) (Wc := lmW cI cT x a o b t h ra s0 j0) (Z := []) (pj := (fun _ E => ¬ (opT s0 p0 (s0.1 3)).1 = 0 ∧ E = exI (opT s0 p0 (s0.1 3)).1)) (Wx := (fun _ => lmW cI cT x a o b t h ra s0 j0)) (As := [.int p0]) (rest := [.int (nI 0), .ref oa]) ⟨hx, hb, hml, hown, hts⟩ (c_X4_awaited l hflag D cI cT x a o b t h ra s0 j0 p0 hL) (cwV 1 hts gL_awaited_X4_awaited rfl rfl rfl (by decide +kernel) ⟨Nat.le_of_ble_eq_true rfl, Nat.le_of_ble_eq_true rfl⟩) (hK.sub (tys' := TY cI cT) [0, 1] rfl) (P_nilE hP) (D_nilE hD) hS hA hX.1 (va_recv hK hP (ci := 4) (q0 := 1) rfl rfl) (fun _ => adr_lm) (fun _ => adr_lm) rfl hl.1 rfl (Nat.le_of_ble_eq_true rfl) ⟨by decide, by decide⟩ dL_awaited_4 (fun E ce q9 u H locs hpx hP hD hS hce hv hcl => ?_) (fun r u H locs hp hP hD hS => ?_)
  · obtain ⟨hne, hE⟩ := hpx
    have hP := P_nilF hP; have hD := D_nilF hD
    have hle := hro.1
    have h9 : (opT s0 p0 (s0.1 3)).1 = 1 := by omega
    have hE : E = xI := by rw [hE, h9]; rfl
    rw [hE] at hcl
    refine catI hown hX (htab.trans rfl) (by decide) (by decide) (hts (.classLink RL 13 xI) (by decide +kernel)) hce hv hcl ?_
    refine lv_astore_n (lv' := [(3, .ref q9), (0, .ref (x 0)), (1, .int p0), (2, .ref oa)]) hx hb dL_awaited_12 rfl hl (by decide) rfl (fun ls hl => ?_)
    refine lv_iconst (v := nI 1) hx hb dL_awaited_13 (by decide) ?_
    exact wret (u := (j0, f9)) hQ hx hb hrt hlk hS dL_awaited_14 (by rw [hro.2 hne]; exact hP) ⟨by rw [h9], by rw [hro.2 hne]; exact hL, fun h => absurd h hne⟩ ⟨by decide, by decide⟩
  · obtain ⟨h0, rfl, hLu⟩ := hp
    have hP := P_nilF hP; have hD := D_nilF hD
    refine lv_i2l (v := (opT s0 p0 (s0.1 3)).2.1.toInt64) hx hb dL_awaited_7 rfl ?_
    refine va_last hx hb hK hP hD hS 0 2 rfl rfl (vp_in_nI (by decide) (by decide)) dL_awaited_8 (fun H locs hP hD hS => ?_)
    rw [show (nI 0).toNatClampNeg = 0 by decide] at hP
    refine lv_goto (tgt := 15) hx hb dL_awaited_9 (by decide) ?_
    refine lv_iconst (v := nI 0) hx hb dL_awaited_15 (by decide) ?_
    exact wret (u := (u, vp_updL f9 0 (opT s0 p0 (s0.1 3)).2.1.toInt64)) hQ hx hb hrt hlk hS dL_awaited_16 hP ⟨by rw [h0], hLu, fun _ => updL_0 (f := f9)⟩ ⟨by decide, by decide⟩
abbrev rL_waitsFor : Room := { frames := 8, cells := 4, slots := 24, locals := 131 }
set_option maxHeartbeats 1000000 in
set_option maxRecDepth 100000 in
theorem c_L_waitsFor (l : Launch) (hflag : l.stackTraces = false) (D : va_G) (cI cT cL : ClassId) (x a o b t h : Nat → Nat) (ra : Nat → Nat → Nat) (s0 : ST) (j0 : JT) (oa : Nat) (f9 : Nat → Int64) (p0 : Int32) (hL : LR s0 j0) : CW l D cI cT cL yL_waitsFor wsL_waitsFor rL_waitsFor [.ref (x 0), .int p0, .ref oa] ([(oa, outE cL f9)] ++ lmW cI cT x a o b t h ra s0 j0) (S := JT × (Nat → Int64)) (fun v u => v = nI (opT s0 p0 (fun u => nI (aWS s0.1 s0.2.1 u))).1 ∧ LR (opT s0 p0 (fun u => nI (aWS s0.1 s0.2.1 u))).2.2 u.1 ∧ ((opT s0 p0 (fun u => nI (aWS s0.1 s0.2.1 u))).1 = 0 → u.2 0 = (opT s0 p0 (fun u => nI (aWS s0.1 s0.2.1 u))).2.1.toInt64)) (fun u => [(oa, outE cL u.2)] ++ lmW cI cT x a o b t h ra (opT s0 p0 (fun u => nI (aWS s0.1 s0.2.1 u))).2.2 u.1) 4 24 := by
  have hro := ro_T (s := s0) (p0 := p0) (f := (fun u => nI (aWS s0.1 s0.2.1 u)))
  refine CW.of (cc := cL_waitsFor) (maxL := 4) (ret := some .int) (hh := [(0, 9, 12, 13)]) (by decide) rfl (Nat.le_of_ble_eq_true rfl) ?_
  intro p e s m args below meth c A Q hQ B htab hA hX H locs hP hK hD hS ls hl
  obtain ⟨hx, hb, hml, hrt, hts, hown, hlk⟩ := B
  have hl : lv_has ls 4 [(0, .ref (x 0)), (1, .int p0), (2, .ref oa)] := hl
  refine lv_aload_n hx hb dL_waitsFor_0 rfl (lv_at hl 2 rfl) ?_
  refine lv_iconst (v := nI 0) hx hb dL_waitsFor_1 (by decide) ?_
  refine lv_aload_n hx hb dL_waitsFor_2 rfl (lv_at hl 0 rfl) ?_
  refine lv_iload_n hx hb dL_waitsFor_3 rfl (lv_at hl 1 rfl) ?_
  refine call_cj (SX := Unit) (X := [(oa, outE cL f9)]) (Wc := lmW cI cT x a o b t h ra s0 j0) (Z := []) (pj := (fun _ E => ¬ (opT s0 p0 (fun u => nI (aWS s0.1 s0.2.1 u))).1 = 0 ∧ E = exI (opT s0 p0 (fun u => nI (aWS s0.1 s0.2.1 u))).1)) (Wx := (fun _ => lmW cI cT x a o b t h ra s0 j0)) (As := [.int p0]) (rest := [.int (nI 0), .ref oa]) ⟨hx, hb, hml, hown, hts⟩ (c_X4_waitsFor l hflag D cI cT x a o b t h ra s0 j0 p0 hL) (cwV 1 hts gL_waitsFor_X4_waitsFor rfl rfl rfl (by decide +kernel) ⟨Nat.le_of_ble_eq_true rfl, Nat.le_of_ble_eq_true rfl⟩) (hK.sub (tys' := TY cI cT) [0, 1] rfl) (P_nilE hP) (D_nilE hD) hS hA hX.1 (va_recv hK hP (ci := 4) (q0 := 1) rfl rfl) (fun _ => adr_lm) (fun _ => adr_lm) rfl hl.1 rfl (Nat.le_of_ble_eq_true rfl) ⟨by decide, by decide⟩ dL_waitsFor_4 (fun E ce q9 u H locs hpx hP hD hS hce hv hcl => ?_) (fun r u H locs hp hP hD hS => ?_)
  · obtain ⟨hne, hE⟩ := hpx
    have hP := P_nilF hP; have hD := D_nilF hD
    have hle := hro.1
    have h9 : (opT s0 p0 (fun u => nI (aWS s0.1 s0.2.1 u))).1 = 1 := by omega
    have hE : E = xI := by rw [hE, h9]; rfl
    rw [hE] at hcl
    refine catI hown hX (htab.trans rfl) (by decide) (by decide) (hts (.classLink RL 13 xI) (by decide +kernel)) hce hv hcl ?_
    refine lv_astore_n (lv' := [(3, .ref q9), (0, .ref (x 0)), (1, .int p0), (2, .ref oa)]) hx hb dL_waitsFor_12 rfl hl (by decide) rfl (fun ls hl => ?_)
    refine lv_iconst (v := nI 1) hx hb dL_waitsFor_13 (by decide) ?_
    exact wret (u := (j0, f9)) hQ hx hb hrt hlk hS dL_waitsFor_14 (by rw [hro.2 hne]; exact hP) ⟨by rw [h9], by rw [hro.2 hne]; exact hL, fun h => absurd h hne⟩ ⟨by decide, by decide⟩
  · obtain ⟨h0, rfl, hLu⟩ := hp
    have hP := P_nilF hP; have hD := D_nilF hD
    refine lv_i2l (v := (opT s0 p0 (fun u => nI (aWS s0.1 s0.2.1 u))).2.1.toInt64) hx hb dL_waitsFor_7 rfl ?_
    refine va_last hx hb hK hP hD hS 0 2 rfl rfl (vp_in_nI (by decide) (by decide)) dL_waitsFor_8 (fun H locs hP hD hS => ?_)
    rw [show (nI 0).toNatClampNeg = 0 by decide] at hP
    refine lv_goto (tgt := 15) hx hb dL_waitsFor_9 (by decide) ?_
    refine lv_iconst (v := nI 0) hx hb dL_waitsFor_15 (by decide) ?_
    exact wret (u := (u, vp_updL f9 0 (opT s0 p0 (fun u => nI (aWS s0.1 s0.2.1 u))).2.1.toInt64)) hQ hx hb hrt hlk hS dL_waitsFor_16 hP ⟨by rw [h0], hLu, fun _ => updL_0 (f := f9)⟩ ⟨by decide, by decide⟩
abbrev rL_blockers : Room := { frames := 8, cells := 4, slots := 24, locals := 131 }
set_option maxHeartbeats 1000000 in
set_option maxRecDepth 100000 in
theorem c_L_blockers (l : Launch) (hflag : l.stackTraces = false) (D : va_G) (cI cT cL : ClassId) (x a o b t h : Nat → Nat) (ra : Nat → Nat → Nat) (s0 : ST) (j0 : JT) (oa : Nat) (f9 : Nat → Int64) (p0 : Int32) (hL : LR s0 j0) : CW l D cI cT cL yL_blockers wsL_blockers rL_blockers [.ref (x 0), .int p0, .ref oa] ([(oa, outE cL f9)] ++ lmW cI cT x a o b t h ra s0 j0) (S := JT × (Nat → Int64)) (fun v u => v = nI (opT s0 p0 (fun t => nI (pcN (bits (fun u => (clR s0.1 s0.2.1 (aWS s0.1 s0.2.1 t) 7).testBit u && decide (u ≠ t)) 8) 8))).1 ∧ LR (opT s0 p0 (fun t => nI (pcN (bits (fun u => (clR s0.1 s0.2.1 (aWS s0.1 s0.2.1 t) 7).testBit u && decide (u ≠ t)) 8) 8))).2.2 u.1 ∧ ((opT s0 p0 (fun t => nI (pcN (bits (fun u => (clR s0.1 s0.2.1 (aWS s0.1 s0.2.1 t) 7).testBit u && decide (u ≠ t)) 8) 8))).1 = 0 → u.2 0 = (opT s0 p0 (fun t => nI (pcN (bits (fun u => (clR s0.1 s0.2.1 (aWS s0.1 s0.2.1 t) 7).testBit u && decide (u ≠ t)) 8) 8))).2.1.toInt64)) (fun u => [(oa, outE cL u.2)] ++ lmW cI cT x a o b t h ra (opT s0 p0 (fun t => nI (pcN (bits (fun u => (clR s0.1 s0.2.1 (aWS s0.1 s0.2.1 t) 7).testBit u && decide (u ≠ t)) 8) 8))).2.2 u.1) 4 24 := by
  have hro := ro_T (s := s0) (p0 := p0) (f := (fun t => nI (pcN (bits (fun u => (clR s0.1 s0.2.1 (aWS s0.1 s0.2.1 t) 7).testBit u && decide (u ≠ t)) 8) 8)))
  refine CW.of (cc := cL_blockers) (maxL := 4) (ret := some .int) (hh := [(0, 9, 12, 13)]) (by decide) rfl (Nat.le_of_ble_eq_true rfl) ?_
  intro p e s m args below meth c A Q hQ B htab hA hX H locs hP hK hD hS ls hl
  obtain ⟨hx, hb, hml, hrt, hts, hown, hlk⟩ := B
  have hl : lv_has ls 4 [(0, .ref (x 0)), (1, .int p0), (2, .ref oa)] := hl
  refine lv_aload_n hx hb dL_blockers_0 rfl (lv_at hl 2 rfl) ?_
  refine lv_iconst (v := nI 0) hx hb dL_blockers_1 (by decide) ?_
  refine lv_aload_n hx hb dL_blockers_2 rfl (lv_at hl 0 rfl) ?_
  refine lv_iload_n hx hb dL_blockers_3 rfl (lv_at hl 1 rfl) ?_
  refine call_cj (SX := Unit) (X := [(oa, outE cL f9)]) (Wc := lmW cI cT x a o b t h ra s0 j0) (Z := []) (pj := (fun _ E => ¬ (opT s0 p0 (fun t => nI (pcN (bits (fun u => (clR s0.1 s0.2.1 (aWS s0.1 s0.2.1 t) 7).testBit u && decide (u ≠ t)) 8) 8))).1 = 0 ∧ E = exI (opT s0 p0 (fun t => nI (pcN (bits (fun u => (clR s0.1 s0.2.1 (aWS s0.1 s0.2.1 t) 7).testBit u && decide (u ≠ t)) 8) 8))).1)) (Wx := (fun _ => lmW cI cT x a o b t h ra s0 j0)) (As := [.int p0]) (rest := [.int (nI 0), .ref oa]) ⟨hx, hb, hml, hown, hts⟩ (c_X4_blockers l hflag D cI cT x a o b t h ra s0 j0 p0 hL) (cwV 1 hts gL_blockers_X4_blockers rfl rfl rfl (by decide +kernel) ⟨Nat.le_of_ble_eq_true rfl, Nat.le_of_ble_eq_true rfl⟩) (hK.sub (tys' := TY cI cT) [0, 1] rfl) (P_nilE hP) (D_nilE hD) hS hA hX.1 (va_recv hK hP (ci := 4) (q0 := 1) rfl rfl) (fun _ => adr_lm) (fun _ => adr_lm) rfl hl.1 rfl (Nat.le_of_ble_eq_true rfl) ⟨by decide, by decide⟩ dL_blockers_4 (fun E ce q9 u H locs hpx hP hD hS hce hv hcl => ?_) (fun r u H locs hp hP hD hS => ?_)
  · obtain ⟨hne, hE⟩ := hpx
    have hP := P_nilF hP; have hD := D_nilF hD
    have hle := hro.1
    have h9 : (opT s0 p0 (fun t => nI (pcN (bits (fun u => (clR s0.1 s0.2.1 (aWS s0.1 s0.2.1 t) 7).testBit u && decide (u ≠ t)) 8) 8))).1 = 1 := by omega
    have hE : E = xI := by rw [hE, h9]; rfl
    rw [hE] at hcl
    refine catI hown hX (htab.trans rfl) (by decide) (by decide) (hts (.classLink RL 13 xI) (by decide +kernel)) hce hv hcl ?_
    refine lv_astore_n (lv' := [(3, .ref q9), (0, .ref (x 0)), (1, .int p0), (2, .ref oa)]) hx hb dL_blockers_12 rfl hl (by decide) rfl (fun ls hl => ?_)
    refine lv_iconst (v := nI 1) hx hb dL_blockers_13 (by decide) ?_
    exact wret (u := (j0, f9)) hQ hx hb hrt hlk hS dL_blockers_14 (by rw [hro.2 hne]; exact hP) ⟨by rw [h9], by rw [hro.2 hne]; exact hL, fun h => absurd h hne⟩ ⟨by decide, by decide⟩
  · obtain ⟨h0, rfl, hLu⟩ := hp
    have hP := P_nilF hP; have hD := D_nilF hD
    refine lv_i2l (v := (opT s0 p0 (fun t => nI (pcN (bits (fun u => (clR s0.1 s0.2.1 (aWS s0.1 s0.2.1 t) 7).testBit u && decide (u ≠ t)) 8) 8))).2.1.toInt64) hx hb dL_blockers_7 rfl ?_
    refine va_last hx hb hK hP hD hS 0 2 rfl rfl (vp_in_nI (by decide) (by decide)) dL_blockers_8 (fun H locs hP hD hS => ?_)
    rw [show (nI 0).toNatClampNeg = 0 by decide] at hP
    refine lv_goto (tgt := 15) hx hb dL_blockers_9 (by decide) ?_
    refine lv_iconst (v := nI 0) hx hb dL_blockers_15 (by decide) ?_
    exact wret (u := (u, vp_updL f9 0 (opT s0 p0 (fun t => nI (pcN (bits (fun u => (clR s0.1 s0.2.1 (aWS s0.1 s0.2.1 t) 7).testBit u && decide (u ≠ t)) 8) 8))).2.1.toInt64)) hQ hx hb hrt hlk hS dL_blockers_16 hP ⟨by rw [h0], hLu, fun _ => updL_0 (f := f9)⟩ ⟨by decide, by decide⟩
abbrev rL_holders : Room := { frames := 8, cells := 4, slots := 24, locals := 131 }
set_option maxHeartbeats 1000000 in
set_option maxRecDepth 100000 in
theorem c_L_holders (l : Launch) (hflag : l.stackTraces = false) (D : va_G) (cI cT cL : ClassId) (x a o b t h : Nat → Nat) (ra : Nat → Nat → Nat) (s0 : ST) (j0 : JT) (oa : Nat) (f9 : Nat → Int64) (p0 : Int32) (hL : LR s0 j0) : CW l D cI cT cL yL_holders wsL_holders rL_holders [.ref (x 0), .int p0, .ref oa] ([(oa, outE cL f9)] ++ lmW cI cT x a o b t h ra s0 j0) (S := JT × (Nat → Int64)) (fun v u => v = nI (opR s0 p0 (fun r => nI (bits (hldB s0.1 r) 8))).1 ∧ LR (opR s0 p0 (fun r => nI (bits (hldB s0.1 r) 8))).2.2 u.1 ∧ ((opR s0 p0 (fun r => nI (bits (hldB s0.1 r) 8))).1 = 0 → u.2 0 = (opR s0 p0 (fun r => nI (bits (hldB s0.1 r) 8))).2.1.toInt64)) (fun u => [(oa, outE cL u.2)] ++ lmW cI cT x a o b t h ra (opR s0 p0 (fun r => nI (bits (hldB s0.1 r) 8))).2.2 u.1) 4 24 := by
  have hro := ro_R (s := s0) (p0 := p0) (f := (fun r => nI (bits (hldB s0.1 r) 8)))
  refine CW.of (cc := cL_holders) (maxL := 4) (ret := some .int) (hh := [(0, 9, 12, 13)]) (by decide) rfl (Nat.le_of_ble_eq_true rfl) ?_
  intro p e s m args below meth c A Q hQ B htab hA hX H locs hP hK hD hS ls hl
  obtain ⟨hx, hb, hml, hrt, hts, hown, hlk⟩ := B
  have hl : lv_has ls 4 [(0, .ref (x 0)), (1, .int p0), (2, .ref oa)] := hl
  refine lv_aload_n hx hb dL_holders_0 rfl (lv_at hl 2 rfl) ?_
  refine lv_iconst (v := nI 0) hx hb dL_holders_1 (by decide) ?_
  refine lv_aload_n hx hb dL_holders_2 rfl (lv_at hl 0 rfl) ?_
  refine lv_iload_n hx hb dL_holders_3 rfl (lv_at hl 1 rfl) ?_
  refine call_cj (SX := Unit) (X := [(oa, outE cL f9)]) (Wc := lmW cI cT x a o b t h ra s0 j0) (Z := []) (pj := (fun _ E => ¬ (opR s0 p0 (fun r => nI (bits (hldB s0.1 r) 8))).1 = 0 ∧ E = exI (opR s0 p0 (fun r => nI (bits (hldB s0.1 r) 8))).1)) (Wx := (fun _ => lmW cI cT x a o b t h ra s0 j0)) (As := [.int p0]) (rest := [.int (nI 0), .ref oa]) ⟨hx, hb, hml, hown, hts⟩ (c_X4_holders l hflag D cI cT x a o b t h ra s0 j0 p0 hL) (cwV 1 hts gL_holders_X4_holders rfl rfl rfl (by decide +kernel) ⟨Nat.le_of_ble_eq_true rfl, Nat.le_of_ble_eq_true rfl⟩) (hK.sub (tys' := TY cI cT) [0, 1] rfl) (P_nilE hP) (D_nilE hD) hS hA hX.1 (va_recv hK hP (ci := 4) (q0 := 1) rfl rfl) (fun _ => adr_lm) (fun _ => adr_lm) rfl hl.1 rfl (Nat.le_of_ble_eq_true rfl) ⟨by decide, by decide⟩ dL_holders_4 (fun E ce q9 u H locs hpx hP hD hS hce hv hcl => ?_) (fun r u H locs hp hP hD hS => ?_)
  · obtain ⟨hne, hE⟩ := hpx
    have hP := P_nilF hP; have hD := D_nilF hD
    have hle := hro.1
    have h9 : (opR s0 p0 (fun r => nI (bits (hldB s0.1 r) 8))).1 = 1 := by omega
    have hE : E = xI := by rw [hE, h9]; rfl
    rw [hE] at hcl
    refine catI hown hX (htab.trans rfl) (by decide) (by decide) (hts (.classLink RL 13 xI) (by decide +kernel)) hce hv hcl ?_
    refine lv_astore_n (lv' := [(3, .ref q9), (0, .ref (x 0)), (1, .int p0), (2, .ref oa)]) hx hb dL_holders_12 rfl hl (by decide) rfl (fun ls hl => ?_)
    refine lv_iconst (v := nI 1) hx hb dL_holders_13 (by decide) ?_
    exact wret (u := (j0, f9)) hQ hx hb hrt hlk hS dL_holders_14 (by rw [hro.2 hne]; exact hP) ⟨by rw [h9], by rw [hro.2 hne]; exact hL, fun h => absurd h hne⟩ ⟨by decide, by decide⟩
  · obtain ⟨h0, rfl, hLu⟩ := hp
    have hP := P_nilF hP; have hD := D_nilF hD
    refine lv_i2l (v := (opR s0 p0 (fun r => nI (bits (hldB s0.1 r) 8))).2.1.toInt64) hx hb dL_holders_7 rfl ?_
    refine va_last hx hb hK hP hD hS 0 2 rfl rfl (vp_in_nI (by decide) (by decide)) dL_holders_8 (fun H locs hP hD hS => ?_)
    rw [show (nI 0).toNatClampNeg = 0 by decide] at hP
    refine lv_goto (tgt := 15) hx hb dL_holders_9 (by decide) ?_
    refine lv_iconst (v := nI 0) hx hb dL_holders_15 (by decide) ?_
    exact wret (u := (u, vp_updL f9 0 (opR s0 p0 (fun r => nI (bits (hldB s0.1 r) 8))).2.1.toInt64)) hQ hx hb hrt hlk hS dL_holders_16 hP ⟨by rw [h0], hLu, fun _ => updL_0 (f := f9)⟩ ⟨by decide, by decide⟩
abbrev rL_queueLength : Room := { frames := 8, cells := 4, slots := 24, locals := 131 }
set_option maxHeartbeats 1000000 in
set_option maxRecDepth 100000 in
theorem c_L_queueLength (l : Launch) (hflag : l.stackTraces = false) (D : va_G) (cI cT cL : ClassId) (x a o b t h : Nat → Nat) (ra : Nat → Nat → Nat) (s0 : ST) (j0 : JT) (oa : Nat) (f9 : Nat → Int64) (p0 : Int32) (hL : LR s0 j0) : CW l D cI cT cL yL_queueLength wsL_queueLength rL_queueLength [.ref (x 0), .int p0, .ref oa] ([(oa, outE cL f9)] ++ lmW cI cT x a o b t h ra s0 j0) (S := JT × (Nat → Int64)) (fun v u => v = nI (opR s0 p0 (fun r => nI (qlen s0.2.1 r))).1 ∧ LR (opR s0 p0 (fun r => nI (qlen s0.2.1 r))).2.2 u.1 ∧ ((opR s0 p0 (fun r => nI (qlen s0.2.1 r))).1 = 0 → u.2 0 = (opR s0 p0 (fun r => nI (qlen s0.2.1 r))).2.1.toInt64)) (fun u => [(oa, outE cL u.2)] ++ lmW cI cT x a o b t h ra (opR s0 p0 (fun r => nI (qlen s0.2.1 r))).2.2 u.1) 4 24 := by
  have hro := ro_R (s := s0) (p0 := p0) (f := (fun r => nI (qlen s0.2.1 r)))
  refine CW.of (cc := cL_queueLength) (maxL := 4) (ret := some .int) (hh := [(0, 9, 12, 13)]) (by decide) rfl (Nat.le_of_ble_eq_true rfl) ?_
  intro p e s m args below meth c A Q hQ B htab hA hX H locs hP hK hD hS ls hl
  obtain ⟨hx, hb, hml, hrt, hts, hown, hlk⟩ := B
  have hl : lv_has ls 4 [(0, .ref (x 0)), (1, .int p0), (2, .ref oa)] := hl
  refine lv_aload_n hx hb dL_queueLength_0 rfl (lv_at hl 2 rfl) ?_
  refine lv_iconst (v := nI 0) hx hb dL_queueLength_1 (by decide) ?_
  refine lv_aload_n hx hb dL_queueLength_2 rfl (lv_at hl 0 rfl) ?_
  refine lv_iload_n hx hb dL_queueLength_3 rfl (lv_at hl 1 rfl) ?_
  refine call_cj (SX := Unit) (X := [(oa, outE cL f9)]) (Wc := lmW cI cT x a o b t h ra s0 j0) (Z := []) (pj := (fun _ E => ¬ (opR s0 p0 (fun r => nI (qlen s0.2.1 r))).1 = 0 ∧ E = exI (opR s0 p0 (fun r => nI (qlen s0.2.1 r))).1)) (Wx := (fun _ => lmW cI cT x a o b t h ra s0 j0)) (As := [.int p0]) (rest := [.int (nI 0), .ref oa]) ⟨hx, hb, hml, hown, hts⟩ (c_X4_queueLength l hflag D cI cT x a o b t h ra s0 j0 p0 hL) (cwV 1 hts gL_queueLength_X4_queueLength rfl rfl rfl (by decide +kernel) ⟨Nat.le_of_ble_eq_true rfl, Nat.le_of_ble_eq_true rfl⟩) (hK.sub (tys' := TY cI cT) [0, 1] rfl) (P_nilE hP) (D_nilE hD) hS hA hX.1 (va_recv hK hP (ci := 4) (q0 := 1) rfl rfl) (fun _ => adr_lm) (fun _ => adr_lm) rfl hl.1 rfl (Nat.le_of_ble_eq_true rfl) ⟨by decide, by decide⟩ dL_queueLength_4 (fun E ce q9 u H locs hpx hP hD hS hce hv hcl => ?_) (fun r u H locs hp hP hD hS => ?_)
  · obtain ⟨hne, hE⟩ := hpx
    have hP := P_nilF hP; have hD := D_nilF hD
    have hle := hro.1
    have h9 : (opR s0 p0 (fun r => nI (qlen s0.2.1 r))).1 = 1 := by omega
    have hE : E = xI := by rw [hE, h9]; rfl
    rw [hE] at hcl
    refine catI hown hX (htab.trans rfl) (by decide) (by decide) (hts (.classLink RL 13 xI) (by decide +kernel)) hce hv hcl ?_
    refine lv_astore_n (lv' := [(3, .ref q9), (0, .ref (x 0)), (1, .int p0), (2, .ref oa)]) hx hb dL_queueLength_12 rfl hl (by decide) rfl (fun ls hl => ?_)
    refine lv_iconst (v := nI 1) hx hb dL_queueLength_13 (by decide) ?_
    exact wret (u := (j0, f9)) hQ hx hb hrt hlk hS dL_queueLength_14 (by rw [hro.2 hne]; exact hP) ⟨by rw [h9], by rw [hro.2 hne]; exact hL, fun h => absurd h hne⟩ ⟨by decide, by decide⟩
  · obtain ⟨h0, rfl, hLu⟩ := hp
    have hP := P_nilF hP; have hD := D_nilF hD
    refine lv_i2l (v := (opR s0 p0 (fun r => nI (qlen s0.2.1 r))).2.1.toInt64) hx hb dL_queueLength_7 rfl ?_
    refine va_last hx hb hK hP hD hS 0 2 rfl rfl (vp_in_nI (by decide) (by decide)) dL_queueLength_8 (fun H locs hP hD hS => ?_)
    rw [show (nI 0).toNatClampNeg = 0 by decide] at hP
    refine lv_goto (tgt := 15) hx hb dL_queueLength_9 (by decide) ?_
    refine lv_iconst (v := nI 0) hx hb dL_queueLength_15 (by decide) ?_
    exact wret (u := (u, vp_updL f9 0 (opR s0 p0 (fun r => nI (qlen s0.2.1 r))).2.1.toInt64)) hQ hx hb hrt hlk hS dL_queueLength_16 hP ⟨by rw [h0], hLu, fun _ => updL_0 (f := f9)⟩ ⟨by decide, by decide⟩
abbrev rL_queued : Room := { frames := 8, cells := 4, slots := 24, locals := 133 }
set_option maxHeartbeats 1000000 in
set_option maxRecDepth 100000 in
theorem c_L_queued (l : Launch) (hflag : l.stackTraces = false) (D : va_G) (cI cT cL : ClassId) (x a o b t h : Nat → Nat) (ra : Nat → Nat → Nat) (s0 : ST) (j0 : JT) (oa : Nat) (f9 : Nat → Int64) (p0 p1 : Int32) (hL : LR s0 j0) : CW l D cI cT cL yL_queued wsL_queued rL_queued [.ref (x 0), .int p0, .int p1, .ref oa] ([(oa, outE cL f9)] ++ lmW cI cT x a o b t h ra s0 j0) (S := JT × (Nat → Int64)) (fun v u => v = nI (opQueued s0 p0 p1).1 ∧ LR (opQueued s0 p0 p1).2.2 u.1 ∧ ((opQueued s0 p0 p1).1 = 0 → u.2 0 = (opQueued s0 p0 p1).2.1.toInt64)) (fun u => [(oa, outE cL u.2)] ++ lmW cI cT x a o b t h ra (opQueued s0 p0 p1).2.2 u.1) 4 24 := by
  have hro := ro_Queued (s := s0) (p0 := p0) (p1 := p1)
  refine CW.of (cc := cL_queued) (maxL := 5) (ret := some .int) (hh := [(0, 10, 13, 13)]) (by decide) rfl (Nat.le_of_ble_eq_true rfl) ?_
  intro p e s m args below meth c A Q hQ B htab hA hX H locs hP hK hD hS ls hl
  obtain ⟨hx, hb, hml, hrt, hts, hown, hlk⟩ := B
  have hl : lv_has ls 5 [(0, .ref (x 0)), (1, .int p0), (2, .int p1), (3, .ref oa)] := hl
  refine lv_aload_n hx hb dL_queued_0 rfl (lv_at hl 3 rfl) ?_
  refine lv_iconst (v := nI 0) hx hb dL_queued_1 (by decide) ?_
  refine lv_aload_n hx hb dL_queued_2 rfl (lv_at hl 0 rfl) ?_
  refine lv_iload_n hx hb dL_queued_3 rfl (lv_at hl 1 rfl) ?_
  refine lv_iload_n hx hb dL_queued_4 rfl (lv_at hl 2 rfl) ?_
  refine call_cj (SX := Unit) (X := [(oa, outE cL f9)]) (Wc := lmW cI cT x a o b t h ra s0 j0) (Z := []) (pj := (fun _ E => ¬ (opQueued s0 p0 p1).1 = 0 ∧ E = exI (opQueued s0 p0 p1).1)) (Wx := (fun _ => lmW cI cT x a o b t h ra s0 j0)) (As := [.int p0, .int p1]) (rest := [.int (nI 0), .ref oa]) ⟨hx, hb, hml, hown, hts⟩ (c_X4_queued l hflag D cI cT x a o b t h ra s0 j0 p0 p1 hL) (cwV 2 hts gL_queued_X4_queued rfl rfl rfl (by decide +kernel) ⟨Nat.le_of_ble_eq_true rfl, Nat.le_of_ble_eq_true rfl⟩) (hK.sub (tys' := TY cI cT) [0, 1] rfl) (P_nilE hP) (D_nilE hD) hS hA hX.1 (va_recv hK hP (ci := 4) (q0 := 1) rfl rfl) (fun _ => adr_lm) (fun _ => adr_lm) rfl hl.1 rfl (Nat.le_of_ble_eq_true rfl) ⟨by decide, by decide⟩ dL_queued_5 (fun E ce q9 u H locs hpx hP hD hS hce hv hcl => ?_) (fun r u H locs hp hP hD hS => ?_)
  · obtain ⟨hne, hE⟩ := hpx
    have hP := P_nilF hP; have hD := D_nilF hD
    have hle := hro.1
    have h9 : (opQueued s0 p0 p1).1 = 1 := by omega
    have hE : E = xI := by rw [hE, h9]; rfl
    rw [hE] at hcl
    refine catI hown hX (htab.trans rfl) (by decide) (by decide) (hts (.classLink RL 13 xI) (by decide +kernel)) hce hv hcl ?_
    refine lv_astore (lv' := [(4, .ref q9), (0, .ref (x 0)), (1, .int p0), (2, .int p1), (3, .ref oa)]) hx hb dL_queued_13 hl (by decide) rfl (fun ls hl => ?_)
    refine lv_iconst (v := nI 1) hx hb dL_queued_15 (by decide) ?_
    exact wret (u := (j0, f9)) hQ hx hb hrt hlk hS dL_queued_16 (by rw [hro.2 hne]; exact hP) ⟨by rw [h9], by rw [hro.2 hne]; exact hL, fun h => absurd h hne⟩ ⟨by decide, by decide⟩
  · obtain ⟨h0, rfl, hLu⟩ := hp
    have hP := P_nilF hP; have hD := D_nilF hD
    refine lv_i2l (v := (opQueued s0 p0 p1).2.1.toInt64) hx hb dL_queued_8 rfl ?_
    refine va_last hx hb hK hP hD hS 0 2 rfl rfl (vp_in_nI (by decide) (by decide)) dL_queued_9 (fun H locs hP hD hS => ?_)
    rw [show (nI 0).toNatClampNeg = 0 by decide] at hP
    refine lv_goto (tgt := 17) hx hb dL_queued_10 (by decide) ?_
    refine lv_iconst (v := nI 0) hx hb dL_queued_17 (by decide) ?_
    exact wret (u := (u, vp_updL f9 0 (opQueued s0 p0 p1).2.1.toInt64)) hQ hx hb hrt hlk hS dL_queued_18 hP ⟨by rw [h0], hLu, fun _ => updL_0 (f := f9)⟩ ⟨by decide, by decide⟩
abbrev rL_ifRequested : Room := { frames := 9, cells := 4, slots := 24, locals := 155 }
set_option maxHeartbeats 1000000 in
set_option maxRecDepth 100000 in
theorem c_L_ifRequested (l : Launch) (hflag : l.stackTraces = false) (D : va_G) (cI cT cL : ClassId) (x a o b t h : Nat → Nat) (ra : Nat → Nat → Nat) (s0 : ST) (j0 : JT) (oa : Nat) (f9 : Nat → Int64) (p0 p1 p2 : Int32) (hL : LR s0 j0) : CW l D cI cT cL yL_ifRequested wsL_ifRequested rL_ifRequested [.ref (x 0), .int p0, .int p1, .int p2, .ref oa] ([(oa, outE cL f9)] ++ lmW cI cT x a o b t h ra s0 j0) (S := JT × (Nat → Int64)) (fun v u => v = nI (opIf s0 p0 p1 p2).1 ∧ LR (opIf s0 p0 p1 p2).2.2 u.1 ∧ ((opIf s0 p0 p1 p2).1 = 0 → u.2 0 = (opIf s0 p0 p1 p2).2.1.toInt64)) (fun u => [(oa, outE cL u.2)] ++ lmW cI cT x a o b t h ra (opIf s0 p0 p1 p2).2.2 u.1) 4 24 := by
  have hro := ro_If (s := s0) (p0 := p0) (p1 := p1) (p2 := p2)
  refine CW.of (cc := cL_ifRequested) (maxL := 6) (ret := some .int) (hh := [(0, 12, 15, 13), (0, 12, 19, 21)]) (by decide) rfl (Nat.le_of_ble_eq_true rfl) ?_
  intro p e s m args below meth c A Q hQ B htab hA hX H locs hP hK hD hS ls hl
  obtain ⟨hx, hb, hml, hrt, hts, hown, hlk⟩ := B
  have hl : lv_has ls 6 [(0, .ref (x 0)), (1, .int p0), (2, .int p1), (3, .int p2), (4, .ref oa)] := hl
  refine lv_aload hx hb dL_ifRequested_0 (lv_at hl 4 rfl) ?_
  refine lv_iconst (v := nI 0) hx hb dL_ifRequested_2 (by decide) ?_
  refine lv_aload_n hx hb dL_ifRequested_3 rfl (lv_at hl 0 rfl) ?_
  refine lv_iload_n hx hb dL_ifRequested_4 rfl (lv_at hl 1 rfl) ?_
  refine lv_iload_n hx hb dL_ifRequested_5 rfl (lv_at hl 2 rfl) ?_
  refine lv_iload_n hx hb dL_ifRequested_6 rfl (lv_at hl 3 rfl) ?_
  refine call_cj (SX := Unit) (X := [(oa, outE cL f9)]) (Wc := lmW cI cT x a o b t h ra s0 j0) (Z := []) (pj := (fun _ E => ¬ (opIf s0 p0 p1 p2).1 = 0 ∧ E = exIA (opIf s0 p0 p1 p2).1)) (Wx := (fun _ => lmW cI cT x a o b t h ra s0 j0)) (As := [.int p0, .int p1, .int p2]) (rest := [.int (nI 0), .ref oa]) ⟨hx, hb, hml, hown, hts⟩ (c_X4_ifRequested l hflag D cI cT x a o b t h ra s0 j0 p0 p1 p2 hL) (cwV 3 hts gL_ifRequested_X4_ifRequested rfl rfl rfl (by decide +kernel) ⟨Nat.le_of_ble_eq_true rfl, Nat.le_of_ble_eq_true rfl⟩) (hK.sub (tys' := TY cI cT) [0, 1] rfl) (P_nilE hP) (D_nilE hD) hS hA hX.1 (va_recv hK hP (ci := 4) (q0 := 1) rfl rfl) (fun _ => adr_lm) (fun _ => adr_lm) rfl hl.1 rfl (Nat.le_of_ble_eq_true rfl) ⟨by decide, by decide⟩ dL_ifRequested_7 (fun E ce q9 u H locs hpx hP hD hS hce hv hcl => ?_) (fun r u H locs hp hP hD hS => ?_)
  · obtain ⟨hne, hE⟩ := hpx
    have hP := P_nilF hP; have hD := D_nilF hD
    have hle := hro.1
    rcases (show (opIf s0 p0 p1 p2).1 = 1 ∨ (opIf s0 p0 p1 p2).1 = 2 by omega) with h9 | h9
    · have hE : E = xI := by rw [hE, h9]; rfl
      rw [hE] at hcl
      refine catI hown hX (htab.trans rfl) (by decide) (by decide) (hts (.classLink RL 13 xI) (by decide +kernel)) hce hv hcl ?_
      refine lv_astore (lv' := [(5, .ref q9), (0, .ref (x 0)), (1, .int p0), (2, .int p1), (3, .int p2), (4, .ref oa)]) hx hb dL_ifRequested_15 hl (by decide) rfl (fun ls hl => ?_)
      refine lv_iconst (v := nI 1) hx hb dL_ifRequested_17 (by decide) ?_
      exact wret (u := (j0, f9)) hQ hx hb hrt hlk hS dL_ifRequested_18 (by rw [hro.2 hne]; exact hP) ⟨by rw [h9], by rw [hro.2 hne]; exact hL, fun h => absurd h hne⟩ ⟨by decide, by decide⟩
    · have hE : E = xA := by rw [hE, h9]; rfl
      rw [hE] at hcl
      refine cat2 hown hX.2.1 hX.kA (htab.trans rfl) (by decide) (by decide) (by decide) (hts (.classLink RL 13 xI) (by decide +kernel)) (hts (.classLink RL 21 xA) (by decide +kernel)) hce hv hcl ?_
      refine lv_astore (lv' := [(5, .ref q9), (0, .ref (x 0)), (1, .int p0), (2, .int p1), (3, .int p2), (4, .ref oa)]) hx hb dL_ifRequested_19 hl (by decide) rfl (fun ls hl => ?_)
      refine lv_iconst (v := nI 2) hx hb dL_ifRequested_21 (by decide) ?_
      exact wret (u := (j0, f9)) hQ hx hb hrt hlk hS dL_ifRequested_22 (by rw [hro.2 hne]; exact hP) ⟨by rw [h9], by rw [hro.2 hne]; exact hL, fun h => absurd h hne⟩ ⟨by decide, by decide⟩
  · obtain ⟨h0, rfl, hLu⟩ := hp
    have hP := P_nilF hP; have hD := D_nilF hD
    refine lv_i2l (v := (opIf s0 p0 p1 p2).2.1.toInt64) hx hb dL_ifRequested_10 rfl ?_
    refine va_last hx hb hK hP hD hS 0 2 rfl rfl (vp_in_nI (by decide) (by decide)) dL_ifRequested_11 (fun H locs hP hD hS => ?_)
    rw [show (nI 0).toNatClampNeg = 0 by decide] at hP
    refine lv_goto (tgt := 23) hx hb dL_ifRequested_12 (by decide) ?_
    refine lv_iconst (v := nI 0) hx hb dL_ifRequested_23 (by decide) ?_
    exact wret (u := (u, vp_updL f9 0 (opIf s0 p0 p1 p2).2.1.toInt64)) hQ hx hb hrt hlk hS dL_ifRequested_24 hP ⟨by rw [h0], hLu, fun _ => updL_0 (f := f9)⟩ ⟨by decide, by decide⟩
abbrev rL_victimsOf : Room := { frames := 9, cells := 4, slots := 24, locals := 155 }
set_option maxHeartbeats 1000000 in
set_option maxRecDepth 100000 in
theorem c_L_victimsOf (l : Launch) (hflag : l.stackTraces = false) (D : va_G) (cI cT cL : ClassId) (x a o b t h : Nat → Nat) (ra : Nat → Nat → Nat) (s0 : ST) (j0 : JT) (oa : Nat) (f9 : Nat → Int64) (p0 p1 p2 : Int32) (hL : LR s0 j0) : CW l D cI cT cL yL_victimsOf wsL_victimsOf rL_victimsOf [.ref (x 0), .int p0, .int p1, .int p2, .ref oa] ([(oa, outE cL f9)] ++ lmW cI cT x a o b t h ra s0 j0) (S := JT × (Nat → Int64)) (fun v u => v = nI (opVic s0 p0 p1 p2).1 ∧ LR (opVic s0 p0 p1 p2).2.2 u.1 ∧ ((opVic s0 p0 p1 p2).1 = 0 → u.2 0 = (opVic s0 p0 p1 p2).2.1.toInt64)) (fun u => [(oa, outE cL u.2)] ++ lmW cI cT x a o b t h ra (opVic s0 p0 p1 p2).2.2 u.1) 4 24 := by
  have hro := ro_Vic (s := s0) (p0 := p0) (p1 := p1) (p2 := p2)
  refine CW.of (cc := cL_victimsOf) (maxL := 6) (ret := some .int) (hh := [(0, 12, 15, 13), (0, 12, 19, 21)]) (by decide) rfl (Nat.le_of_ble_eq_true rfl) ?_
  intro p e s m args below meth c A Q hQ B htab hA hX H locs hP hK hD hS ls hl
  obtain ⟨hx, hb, hml, hrt, hts, hown, hlk⟩ := B
  have hl : lv_has ls 6 [(0, .ref (x 0)), (1, .int p0), (2, .int p1), (3, .int p2), (4, .ref oa)] := hl
  refine lv_aload hx hb dL_victimsOf_0 (lv_at hl 4 rfl) ?_
  refine lv_iconst (v := nI 0) hx hb dL_victimsOf_2 (by decide) ?_
  refine lv_aload_n hx hb dL_victimsOf_3 rfl (lv_at hl 0 rfl) ?_
  refine lv_iload_n hx hb dL_victimsOf_4 rfl (lv_at hl 1 rfl) ?_
  refine lv_iload_n hx hb dL_victimsOf_5 rfl (lv_at hl 2 rfl) ?_
  refine lv_iload_n hx hb dL_victimsOf_6 rfl (lv_at hl 3 rfl) ?_
  refine call_cj (SX := Unit) (X := [(oa, outE cL f9)]) (Wc := lmW cI cT x a o b t h ra s0 j0) (Z := []) (pj := (fun _ E => ¬ (opVic s0 p0 p1 p2).1 = 0 ∧ E = exIA (opVic s0 p0 p1 p2).1)) (Wx := (fun _ => lmW cI cT x a o b t h ra s0 j0)) (As := [.int p0, .int p1, .int p2]) (rest := [.int (nI 0), .ref oa]) ⟨hx, hb, hml, hown, hts⟩ (c_X4_victimsOf l hflag D cI cT x a o b t h ra s0 j0 p0 p1 p2 hL) (cwV 3 hts gL_victimsOf_X4_victimsOf rfl rfl rfl (by decide +kernel) ⟨Nat.le_of_ble_eq_true rfl, Nat.le_of_ble_eq_true rfl⟩) (hK.sub (tys' := TY cI cT) [0, 1] rfl) (P_nilE hP) (D_nilE hD) hS hA hX.1 (va_recv hK hP (ci := 4) (q0 := 1) rfl rfl) (fun _ => adr_lm) (fun _ => adr_lm) rfl hl.1 rfl (Nat.le_of_ble_eq_true rfl) ⟨by decide, by decide⟩ dL_victimsOf_7 (fun E ce q9 u H locs hpx hP hD hS hce hv hcl => ?_) (fun r u H locs hp hP hD hS => ?_)
  · obtain ⟨hne, hE⟩ := hpx
    have hP := P_nilF hP; have hD := D_nilF hD
    have hle := hro.1
    rcases (show (opVic s0 p0 p1 p2).1 = 1 ∨ (opVic s0 p0 p1 p2).1 = 2 by omega) with h9 | h9
    · have hE : E = xI := by rw [hE, h9]; rfl
      rw [hE] at hcl
      refine catI hown hX (htab.trans rfl) (by decide) (by decide) (hts (.classLink RL 13 xI) (by decide +kernel)) hce hv hcl ?_
      refine lv_astore (lv' := [(5, .ref q9), (0, .ref (x 0)), (1, .int p0), (2, .int p1), (3, .int p2), (4, .ref oa)]) hx hb dL_victimsOf_15 hl (by decide) rfl (fun ls hl => ?_)
      refine lv_iconst (v := nI 1) hx hb dL_victimsOf_17 (by decide) ?_
      exact wret (u := (j0, f9)) hQ hx hb hrt hlk hS dL_victimsOf_18 (by rw [hro.2 hne]; exact hP) ⟨by rw [h9], by rw [hro.2 hne]; exact hL, fun h => absurd h hne⟩ ⟨by decide, by decide⟩
    · have hE : E = xA := by rw [hE, h9]; rfl
      rw [hE] at hcl
      refine cat2 hown hX.2.1 hX.kA (htab.trans rfl) (by decide) (by decide) (by decide) (hts (.classLink RL 13 xI) (by decide +kernel)) (hts (.classLink RL 21 xA) (by decide +kernel)) hce hv hcl ?_
      refine lv_astore (lv' := [(5, .ref q9), (0, .ref (x 0)), (1, .int p0), (2, .int p1), (3, .int p2), (4, .ref oa)]) hx hb dL_victimsOf_19 hl (by decide) rfl (fun ls hl => ?_)
      refine lv_iconst (v := nI 2) hx hb dL_victimsOf_21 (by decide) ?_
      exact wret (u := (j0, f9)) hQ hx hb hrt hlk hS dL_victimsOf_22 (by rw [hro.2 hne]; exact hP) ⟨by rw [h9], by rw [hro.2 hne]; exact hL, fun h => absurd h hne⟩ ⟨by decide, by decide⟩
  · obtain ⟨h0, rfl, hLu⟩ := hp
    have hP := P_nilF hP; have hD := D_nilF hD
    refine lv_i2l (v := (opVic s0 p0 p1 p2).2.1.toInt64) hx hb dL_victimsOf_10 rfl ?_
    refine va_last hx hb hK hP hD hS 0 2 rfl rfl (vp_in_nI (by decide) (by decide)) dL_victimsOf_11 (fun H locs hP hD hS => ?_)
    rw [show (nI 0).toNatClampNeg = 0 by decide] at hP
    refine lv_goto (tgt := 23) hx hb dL_victimsOf_12 (by decide) ?_
    refine lv_iconst (v := nI 0) hx hb dL_victimsOf_23 (by decide) ?_
    exact wret (u := (u, vp_updL f9 0 (opVic s0 p0 p1 p2).2.1.toInt64)) hQ hx hb hrt hlk hS dL_victimsOf_24 hP ⟨by rw [h0], hLu, fun _ => updL_0 (f := f9)⟩ ⟨by decide, by decide⟩
