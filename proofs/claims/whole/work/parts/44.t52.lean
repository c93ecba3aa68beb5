abbrev rX5_isActive : Room := { frames := 1, cells := 0, slots := 0, locals := 22 }
set_option maxHeartbeats 1000000 in
set_option maxRecDepth 100000 in
theorem c_X5_isActive (l : Launch) (D : va_G) (cI cT : ClassId) (ad : Nat → Nat) (th sv ln vs rl cm fi se : Int32) (z zs sd tx ds rg : Nat → Int32) (F : FF) (Q0 : QQ) (t : Nat) (ht : t < 8) (hZ : RZ F Q0 z) : CN l D cI cT yX5_isActive wsX5_isActive rX5_isActive [.ref (ad 0), .int (nI t)] (refW cI ad th sv ln vs rl cm fi se z zs sd tx ds rg) (S := Unit) (fun v _ => v = nI (stI F t == nI 1).toNat) (fun _ => refW cI ad th sv ln vs rl cm fi se z zs sd tx ds rg) := by
  refine CN.of (cc := cX5_isActive) (maxL := 2) (ret := (some .boolean)) (by decide) rfl (Nat.le_of_ble_eq_true rfl) ?_
  intro p e s m args below meth c A Q hQ B hA H locs hP hK hD hS ls hl
  obtain ⟨hx, hb, hml, hrt, hts, hown, hlk⟩ := B
  have hP : va_P D vwCl ([(ad 0, .inr (5, [.int th, .ref (ad 1), .ref (ad 2), .ref (ad 3), .int sv, .ref (ad 4), .int ln, .int vs, .ref (ad 5), .ref (ad 6), .int rl, .int cm, .int fi, .int se])), (ad 1, .inl (cI, 221, .inl z)), (ad 2, .inl (cI, 221, .inl zs)), (ad 3, .inl (cI, 1768, .inl sd)), (ad 4, .inl (cI, 80, .inl tx)), (ad 5, .inl (cI, 8, .inl ds)), (ad 6, .inl (cI, 8, .inl rg))]) H := hP
  have hD : va_D A ([(ad 0, .inr (5, [.int th, .ref (ad 1), .ref (ad 2), .ref (ad 3), .int sv, .ref (ad 4), .int ln, .int vs, .ref (ad 5), .ref (ad 6), .int rl, .int cm, .int fi, .int se])), (ad 1, .inl (cI, 221, .inl z)), (ad 2, .inl (cI, 221, .inl zs)), (ad 3, .inl (cI, 1768, .inl sd)), (ad 4, .inl (cI, 80, .inl tx)), (ad 5, .inl (cI, 8, .inl ds)), (ad 6, .inl (cI, 8, .inl rg))]) := hD
  have hl : lv_has ls 2 [(0, .ref (ad 0)), (1, .int (nI t))] := hl
  refine lv_aload_n hx hb dX5_isActive_0 rfl (lv_at hl 0 rfl) ?_
  refine lv_iload_n hx hb dX5_isActive_1 rfl (lv_at hl 1 rfl) ?_
  refine lv_iconst (v := (nI 0)) hx hb dX5_isActive_2 (by decide) ?_
  refine call_i (X := []) (Z := []) (As := [.int (nI t), .int (nI 0)]) (rest := []) ⟨hx, hb, hml, hown, hts⟩ (c_X5_of l D cI cT ad th sv ln vs rl cm fi se z zs sd tx ds rg t 0 (by omega)) (cwV 2 hts gX5_isActive_X5_of rfl rfl rfl (by decide +kernel) ⟨Nat.le_of_ble_eq_true rfl, Nat.le_of_ble_eq_true rfl⟩) hK hP hD hS hA (va_recv hK hP (ci := 5) (q0 := 0) rfl rfl) (fun _ => rfl) rfl hl.1 rfl (Nat.le_of_ble_eq_true rfl) ⟨by decide, by decide⟩ dX5_isActive_3 (fun rv _ H locs hp hP hD hS => ?_)
  obtain rfl := hp
  have hP : va_P D vwCl ([(ad 0, .inr (5, [.int th, .ref (ad 1), .ref (ad 2), .ref (ad 3), .int sv, .ref (ad 4), .int ln, .int vs, .ref (ad 5), .ref (ad 6), .int rl, .int cm, .int fi, .int se])), (ad 1, .inl (cI, 221, .inl z)), (ad 2, .inl (cI, 221, .inl zs)), (ad 3, .inl (cI, 1768, .inl sd)), (ad 4, .inl (cI, 80, .inl tx)), (ad 5, .inl (cI, 8, .inl ds)), (ad 6, .inl (cI, 8, .inl rg))]) H := hP
  have hD : va_D A ([(ad 0, .inr (5, [.int th, .ref (ad 1), .ref (ad 2), .ref (ad 3), .int sv, .ref (ad 4), .int ln, .int vs, .ref (ad 5), .ref (ad 6), .int rl, .int cm, .int fi, .int se])), (ad 1, .inl (cI, 221, .inl z)), (ad 2, .inl (cI, 221, .inl zs)), (ad 3, .inl (cI, 1768, .inl sd)), (ad 4, .inl (cI, 80, .inl tx)), (ad 5, .inl (cI, 8, .inl ds)), (ad 6, .inl (cI, 8, .inl rg))]) := hD
  refine tpe (y := stI F t) (RZ_0 hZ (by omega)) ?_
  refine lv_iconst (v := (nI 1)) hx hb dX5_isActive_6 (by decide) ?_
  refine lv_icmp_ne (tgt := 14) hx hb dX5_isActive_7 (by decide) (fun h_1 => ?_) (fun h_1 => ?_)
  · have h_1 := h_1
    refine lv_iconst (v := (nI 0)) hx hb dX5_isActive_14 (by decide) ?_
    exact ret_z (u := ()) hQ hx hb hrt hlk hS dX5_isActive_15 (by decide) hP (by rw [bq_f h_1]; rfl)
  · have h_1 := h_1
    refine lv_iconst (v := (nI 1)) hx hb dX5_isActive_10 (by decide) ?_
    refine lv_goto (tgt := 15) hx hb dX5_isActive_11 (by decide) ?_
    exact ret_z (u := ()) hQ hx hb hrt hlk hS dX5_isActive_15 (by decide) hP (by rw [bq_t h_1]; rfl)

abbrev rX5_isUpgrade : Room := { frames := 1, cells := 0, slots := 0, locals := 22 }
set_option maxHeartbeats 1000000 in
set_option maxRecDepth 100000 in
theorem c_X5_isUpgrade (l : Launch) (D : va_G) (cI cT : ClassId) (ad : Nat → Nat) (th sv ln vs rl cm fi se : Int32) (z zs sd tx ds rg : Nat → Int32) (F : FF) (Q0 : QQ) (t r : Nat) (ht : t < 8) (hr : r < 10) (hZ : RZ F Q0 z) : CN l D cI cT yX5_isUpgrade wsX5_isUpgrade rX5_isUpgrade [.ref (ad 0), .int (nI t), .int (nI r)] (refW cI ad th sv ln vs rl cm fi se z zs sd tx ds rg) (S := Unit) (fun v _ => v = nI (lk F t r == nI 1).toNat) (fun _ => refW cI ad th sv ln vs rl cm fi se z zs sd tx ds rg) := by
  refine CN.of (cc := cX5_isUpgrade) (maxL := 3) (ret := (some .boolean)) (by decide) rfl (Nat.le_of_ble_eq_true rfl) ?_
  intro p e s m args below meth c A Q hQ B hA H locs hP hK hD hS ls hl
  obtain ⟨hx, hb, hml, hrt, hts, hown, hlk⟩ := B
  have hP : va_P D vwCl ([(ad 0, .inr (5, [.int th, .ref (ad 1), .ref (ad 2), .ref (ad 3), .int sv, .ref (ad 4), .int ln, .int vs, .ref (ad 5), .ref (ad 6), .int rl, .int cm, .int fi, .int se])), (ad 1, .inl (cI, 221, .inl z)), (ad 2, .inl (cI, 221, .inl zs)), (ad 3, .inl (cI, 1768, .inl sd)), (ad 4, .inl (cI, 80, .inl tx)), (ad 5, .inl (cI, 8, .inl ds)), (ad 6, .inl (cI, 8, .inl rg))]) H := hP
  have hD : va_D A ([(ad 0, .inr (5, [.int th, .ref (ad 1), .ref (ad 2), .ref (ad 3), .int sv, .ref (ad 4), .int ln, .int vs, .ref (ad 5), .ref (ad 6), .int rl, .int cm, .int fi, .int se])), (ad 1, .inl (cI, 221, .inl z)), (ad 2, .inl (cI, 221, .inl zs)), (ad 3, .inl (cI, 1768, .inl sd)), (ad 4, .inl (cI, 80, .inl tx)), (ad 5, .inl (cI, 8, .inl ds)), (ad 6, .inl (cI, 8, .inl rg))]) := hD
  have hl : lv_has ls 3 [(0, .ref (ad 0)), (1, .int (nI t)), (2, .int (nI r))] := hl
  refine lv_aload_n hx hb dX5_isUpgrade_0 rfl (lv_at hl 0 rfl) ?_
  refine lv_iload_n hx hb dX5_isUpgrade_1 rfl (lv_at hl 1 rfl) ?_
  refine lv_iload_n hx hb dX5_isUpgrade_2 rfl (lv_at hl 2 rfl) ?_
  refine call_i (X := []) (Z := []) (As := [.int (nI t), .int (nI r)]) (rest := []) ⟨hx, hb, hml, hown, hts⟩ (c_X5_lock l D cI cT ad th sv ln vs rl cm fi se z zs sd tx ds rg t r (by omega)) (cwV 2 hts gX5_isUpgrade_X5_lock rfl rfl rfl (by decide +kernel) ⟨Nat.le_of_ble_eq_true rfl, Nat.le_of_ble_eq_true rfl⟩) hK hP hD hS hA (va_recv hK hP (ci := 5) (q0 := 0) rfl rfl) (fun _ => rfl) rfl hl.1 rfl (Nat.le_of_ble_eq_true rfl) ⟨by decide, by decide⟩ dX5_isUpgrade_3 (fun rv _ H locs hp hP hD hS => ?_)
  obtain rfl := hp
  have hP : va_P D vwCl ([(ad 0, .inr (5, [.int th, .ref (ad 1), .ref (ad 2), .ref (ad 3), .int sv, .ref (ad 4), .int ln, .int vs, .ref (ad 5), .ref (ad 6), .int rl, .int cm, .int fi, .int se])), (ad 1, .inl (cI, 221, .inl z)), (ad 2, .inl (cI, 221, .inl zs)), (ad 3, .inl (cI, 1768, .inl sd)), (ad 4, .inl (cI, 80, .inl tx)), (ad 5, .inl (cI, 8, .inl ds)), (ad 6, .inl (cI, 8, .inl rg))]) H := hP
  have hD : va_D A ([(ad 0, .inr (5, [.int th, .ref (ad 1), .ref (ad 2), .ref (ad 3), .int sv, .ref (ad 4), .int ln, .int vs, .ref (ad 5), .ref (ad 6), .int rl, .int cm, .int fi, .int se])), (ad 1, .inl (cI, 221, .inl z)), (ad 2, .inl (cI, 221, .inl zs)), (ad 3, .inl (cI, 1768, .inl sd)), (ad 4, .inl (cI, 80, .inl tx)), (ad 5, .inl (cI, 8, .inl ds)), (ad 6, .inl (cI, 8, .inl rg))]) := hD
  refine tpe (y := lk F t r) (RZ_lk hZ (by omega) (by omega)) ?_
  refine lv_iconst (v := (nI 1)) hx hb dX5_isUpgrade_6 (by decide) ?_
  refine lv_icmp_ne (tgt := 14) hx hb dX5_isUpgrade_7 (by decide) (fun h_1 => ?_) (fun h_1 => ?_)
  · have h_1 := h_1
    refine lv_iconst (v := (nI 0)) hx hb dX5_isUpgrade_14 (by decide) ?_
    exact ret_z (u := ()) hQ hx hb hrt hlk hS dX5_isUpgrade_15 (by decide) hP (by rw [bq_f h_1]; rfl)
  · have h_1 := h_1
    refine lv_iconst (v := (nI 1)) hx hb dX5_isUpgrade_10 (by decide) ?_
    refine lv_goto (tgt := 15) hx hb dX5_isUpgrade_11 (by decide) ?_
    exact ret_z (u := ()) hQ hx hb hrt hlk hS dX5_isUpgrade_15 (by decide) hP (by rw [bq_t h_1]; rfl)

abbrev rX5_canHold : Room := { frames := 1, cells := 0, slots := 0, locals := 22 }
set_option maxHeartbeats 1000000 in
set_option maxRecDepth 100000 in
theorem c_X5_canHold (l : Launch) (D : va_G) (cI cT : ClassId) (ad : Nat → Nat) (th sv ln vs rl cm fi se : Int32) (z zs sd tx ds rg : Nat → Int32) (F : FF) (Q0 : QQ) (t r : Nat) (mo : Int32) (ht : t < 8) (hr : r < 10) (hZ : RZ F Q0 z) : CN l D cI cT yX5_canHold wsX5_canHold rX5_canHold [.ref (ad 0), .int (nI t), .int (nI r), .int mo] (refW cI ad th sv ln vs rl cm fi se z zs sd tx ds rg) (S := Unit) (fun v _ => v = nI (alN (fun u => !rivB F t r mo u) 8).toNat) (fun _ => refW cI ad th sv ln vs rl cm fi se z zs sd tx ds rg) := by
  refine CN.of (cc := cX5_canHold) (maxL := 6) (ret := (some .boolean)) (by decide) rfl (Nat.le_of_ble_eq_true rfl) ?_
  intro p e s m args below meth c A Q hQ B hA H locs hP hK hD hS ls hl
  obtain ⟨hx, hb, hml, hrt, hts, hown, hlk⟩ := B
  have hP : va_P D vwCl ([(ad 0, .inr (5, [.int th, .ref (ad 1), .ref (ad 2), .ref (ad 3), .int sv, .ref (ad 4), .int ln, .int vs, .ref (ad 5), .ref (ad 6), .int rl, .int cm, .int fi, .int se])), (ad 1, .inl (cI, 221, .inl z)), (ad 2, .inl (cI, 221, .inl zs)), (ad 3, .inl (cI, 1768, .inl sd)), (ad 4, .inl (cI, 80, .inl tx)), (ad 5, .inl (cI, 8, .inl ds)), (ad 6, .inl (cI, 8, .inl rg))]) H := hP
  have hD : va_D A ([(ad 0, .inr (5, [.int th, .ref (ad 1), .ref (ad 2), .ref (ad 3), .int sv, .ref (ad 4), .int ln, .int vs, .ref (ad 5), .ref (ad 6), .int rl, .int cm, .int fi, .int se])), (ad 1, .inl (cI, 221, .inl z)), (ad 2, .inl (cI, 221, .inl zs)), (ad 3, .inl (cI, 1768, .inl sd)), (ad 4, .inl (cI, 80, .inl tx)), (ad 5, .inl (cI, 8, .inl ds)), (ad 6, .inl (cI, 8, .inl rg))]) := hD
  have hl : lv_has ls 6 [(0, .ref (ad 0)), (1, .int (nI t)), (2, .int (nI r)), (3, .int mo)] := hl
  refine lv_iconst (v := (nI 1)) hx hb dX5_canHold_0 (by decide) ?_
  refine lv_istore (lv' := [(4, .int (nI 1)), (0, .ref (ad 0)), (1, .int (nI t)), (2, .int (nI r)), (3, .int mo)]) hx hb dX5_canHold_1 hl (by decide) rfl (fun ls hl => ?_)
  refine lv_iconst (v := (nI 0)) hx hb dX5_canHold_3 (by decide) ?_
  refine lv_istore (lv' := [(5, .int (nI 0)), (4, .int (nI 1)), (0, .ref (ad 0)), (1, .int (nI t)), (2, .int (nI r)), (3, .int mo)]) hx hb dX5_canHold_4 hl (by decide) rfl (fun ls hl => ?_)
  have L6 : ∀ (N : Nat) (i : Nat), (i ≤ 8) → (8 - i) < N → ∀ (H : Heap) (locs : List Loc), va_P D vwCl ([(ad 0, .inr (5, [.int th, .ref (ad 1), .ref (ad 2), .ref (ad 3), .int sv, .ref (ad 4), .int ln, .int vs, .ref (ad 5), .ref (ad 6), .int rl, .int cm, .int fi, .int se])), (ad 1, .inl (cI, 221, .inl z)), (ad 2, .inl (cI, 221, .inl zs)), (ad 3, .inl (cI, 1768, .inl sd)), (ad 4, .inl (cI, 80, .inl tx)), (ad 5, .inl (cI, 8, .inl ds)), (ad 6, .inl (cI, 8, .inl rg))]) H → va_D A ([(ad 0, .inr (5, [.int th, .ref (ad 1), .ref (ad 2), .ref (ad 3), .int sv, .ref (ad 4), .int ln, .int vs, .ref (ad 5), .ref (ad 6), .int rl, .int cm, .int fi, .int se])), (ad 1, .inl (cI, 221, .inl z)), (ad 2, .inl (cI, 221, .inl zs)), (ad 3, .inl (cI, 1768, .inl sd)), (ad 4, .inl (cI, 80, .inl tx)), (ad 5, .inl (cI, 8, .inl ds)), (ad 6, .inl (cI, 8, .inl rg))]) → va_S A s.heap H locs → ∀ ls : Array Slot, lv_has ls 6 [(0, .ref (ad 0)), (1, .int (nI t)), (2, .int (nI r)), (3, .int mo), (4, .int (nI ((alN (fun u => !rivB F t r mo u) i).toNat))), (5, .int (nI i))] → W p l e rX5_canHold s m args below meth c H locs 0 0 Q (F0 m 6 ls []) := by
    intro N6
    induction N6 with
    | zero => intro i hi hN; exact absurd hN (Nat.not_lt_zero _)
    | succ N6 ih6 =>
      intro i hi hN H locs hP hD hS ls hl
      refine lv_iload hx hb dX5_canHold_6 (lv_at hl 5 rfl) ?_
      refine lv_bipush (v := (nI 8)) hx hb dX5_canHold_8 (by decide) ?_
      refine lv_icmp_ge (tgt := 51) hx hb dX5_canHold_10 (by decide) (fun h_1 => ?_) (fun h_1 => ?_)
      · have h_1 := (nI_leI (a := 8) (b := i) (by first | omega | exact bits_lt31 _ | exact bitN_lt _ _ | exact bool_lt _ | exact and_lt31 _ _ _ _ | exact Nat.lt_of_le_of_lt (dst_lt _ _ _ (by omega) _) (by decide) | exact Nat.lt_of_le_of_lt (nrB_le _ _ _ (by omega)).2 (by decide) | decide) (by first | omega | exact bits_lt31 _ | exact bitN_lt _ _ | exact bool_lt _ | exact and_lt31 _ _ _ _ | exact Nat.lt_of_le_of_lt (dst_lt _ _ _ (by omega) _) (by decide) | exact Nat.lt_of_le_of_lt (nrB_le _ _ _ (by omega)).2 (by decide) | decide)).mp h_1
        refine lv_iload hx hb dX5_canHold_51 (lv_at hl 4 rfl) ?_
        exact ret_z (u := ()) hQ hx hb hrt hlk hS dX5_canHold_53 (by exact nar_b _) hP (by rw [show i = 8 by omega])
      · have h_1 := mt (nI_leI (a := 8) (b := i) (by first | omega | exact bits_lt31 _ | exact bitN_lt _ _ | exact bool_lt _ | exact and_lt31 _ _ _ _ | exact Nat.lt_of_le_of_lt (dst_lt _ _ _ (by omega) _) (by decide) | exact Nat.lt_of_le_of_lt (nrB_le _ _ _ (by omega)).2 (by decide) | decide) (by first | omega | exact bits_lt31 _ | exact bitN_lt _ _ | exact bool_lt _ | exact and_lt31 _ _ _ _ | exact Nat.lt_of_le_of_lt (dst_lt _ _ _ (by omega) _) (by decide) | exact Nat.lt_of_le_of_lt (nrB_le _ _ _ (by omega)).2 (by decide) | decide)).mpr h_1
        refine lv_iload hx hb dX5_canHold_13 (lv_at hl 4 rfl) ?_
        refine lv_if_eq (tgt := 42) hx hb dX5_canHold_15 (by decide) (fun h_2 => ?_) (fun h_2 => ?_)
        · have h_2 := (nI_eq (a := ((alN (fun u => !rivB F t r mo u) i).toNat)) (b := 0) (by first | omega | exact bits_lt31 _ | exact bitN_lt _ _ | exact bool_lt _ | exact and_lt31 _ _ _ _ | exact Nat.lt_of_le_of_lt (dst_lt _ _ _ (by omega) _) (by decide) | exact Nat.lt_of_le_of_lt (nrB_le _ _ _ (by omega)).2 (by decide) | decide) (by first | omega | exact bits_lt31 _ | exact bitN_lt _ _ | exact bool_lt _ | exact and_lt31 _ _ _ _ | exact Nat.lt_of_le_of_lt (dst_lt _ _ _ (by omega) _) (by decide) | exact Nat.lt_of_le_of_lt (nrB_le _ _ _ (by omega)).2 (by decide) | decide)).mp h_2
          have h_2 := tn_f h_2
          refine lv_iconst (v := (nI 0)) hx hb dX5_canHold_42 (by decide) ?_
          refine lv_istore (lv' := [(4, .int (nI 0)), (0, .ref (ad 0)), (1, .int (nI t)), (2, .int (nI r)), (3, .int mo), (5, .int (nI i))]) hx hb dX5_canHold_43 hl (by decide) rfl (fun ls hl => ?_)
          refine lv_iinc (v := (nI (i + 1))) (lv' := [(5, .int (nI (i + 1))), (4, .int (nI 0)), (0, .ref (ad 0)), (1, .int (nI t)), (2, .int (nI r)), (3, .int mo)]) hx hb dX5_canHold_45 hl (k := 5) rfl (nI_add _ 1) (by decide) rfl (fun ls hl => ?_)
          refine lv_goto (tgt := 6) hx hb dX5_canHold_48 (by decide) ?_
          rw [show (nI 0) = (nI ((alN (fun u => !rivB F t r mo u) (i + 1)).toNat)) from (by rw [alN, h_2]; simp [rivB])] at hl
          exact ih6 (i + 1) (by omega) (by omega) _ _ hP hD hS _ (lv_sub hl [2, 3, 4, 5, 1, 0] rfl)
        · have h_2 := mt (nI_eq (a := ((alN (fun u => !rivB F t r mo u) i).toNat)) (b := 0) (by first | omega | exact bits_lt31 _ | exact bitN_lt _ _ | exact bool_lt _ | exact and_lt31 _ _ _ _ | exact Nat.lt_of_le_of_lt (dst_lt _ _ _ (by omega) _) (by decide) | exact Nat.lt_of_le_of_lt (nrB_le _ _ _ (by omega)).2 (by decide) | decide) (by first | omega | exact bits_lt31 _ | exact bitN_lt _ _ | exact bool_lt _ | exact and_lt31 _ _ _ _ | exact Nat.lt_of_le_of_lt (dst_lt _ _ _ (by omega) _) (by decide) | exact Nat.lt_of_le_of_lt (nrB_le _ _ _ (by omega)).2 (by decide) | decide)).mpr h_2
          have h_2 := tn_y h_2
          refine lv_iload hx hb dX5_canHold_18 (lv_at hl 5 rfl) ?_
          refine lv_iload_n hx hb dX5_canHold_20 rfl (lv_at hl 1 rfl) ?_
          refine lv_icmp_eq (tgt := 38) hx hb dX5_canHold_21 (by decide) (fun h_3 => ?_) (fun h_3 => ?_)
          · have h_3 := (nI_eq (a := i) (b := t) (by first | omega | exact bits_lt31 _ | exact bitN_lt _ _ | exact bool_lt _ | exact and_lt31 _ _ _ _ | exact Nat.lt_of_le_of_lt (dst_lt _ _ _ (by omega) _) (by decide) | exact Nat.lt_of_le_of_lt (nrB_le _ _ _ (by omega)).2 (by decide) | decide) (by first | omega | exact bits_lt31 _ | exact bitN_lt _ _ | exact bool_lt _ | exact and_lt31 _ _ _ _ | exact Nat.lt_of_le_of_lt (dst_lt _ _ _ (by omega) _) (by decide) | exact Nat.lt_of_le_of_lt (nrB_le _ _ _ (by omega)).2 (by decide) | decide)).mp h_3
            refine lv_iconst (v := (nI 1)) hx hb dX5_canHold_38 (by decide) ?_
            refine lv_goto (tgt := 43) hx hb dX5_canHold_39 (by decide) ?_
            refine lv_istore (lv' := [(4, .int (nI 1)), (0, .ref (ad 0)), (1, .int (nI t)), (2, .int (nI r)), (3, .int mo), (5, .int (nI i))]) hx hb dX5_canHold_43 hl (by decide) rfl (fun ls hl => ?_)
            refine lv_iinc (v := (nI (i + 1))) (lv' := [(5, .int (nI (i + 1))), (4, .int (nI 1)), (0, .ref (ad 0)), (1, .int (nI t)), (2, .int (nI r)), (3, .int mo)]) hx hb dX5_canHold_45 hl (k := 5) rfl (nI_add _ 1) (by decide) rfl (fun ls hl => ?_)
            refine lv_goto (tgt := 6) hx hb dX5_canHold_48 (by decide) ?_
            rw [show (nI 1) = (nI ((alN (fun u => !rivB F t r mo u) (i + 1)).toNat)) from (by rw [alN, h_2]; simp [rivB, h_3])] at hl
            exact ih6 (i + 1) (by omega) (by omega) _ _ hP hD hS _ (lv_sub hl [2, 3, 4, 5, 1, 0] rfl)
          · have h_3 := mt (nI_eq (a := i) (b := t) (by first | omega | exact bits_lt31 _ | exact bitN_lt _ _ | exact bool_lt _ | exact and_lt31 _ _ _ _ | exact Nat.lt_of_le_of_lt (dst_lt _ _ _ (by omega) _) (by decide) | exact Nat.lt_of_le_of_lt (nrB_le _ _ _ (by omega)).2 (by decide) | decide) (by first | omega | exact bits_lt31 _ | exact bitN_lt _ _ | exact bool_lt _ | exact and_lt31 _ _ _ _ | exact Nat.lt_of_le_of_lt (dst_lt _ _ _ (by omega) _) (by decide) | exact Nat.lt_of_le_of_lt (nrB_le _ _ _ (by omega)).2 (by decide) | decide)).mpr h_3
            refine lv_iload_n hx hb dX5_canHold_24 rfl (lv_at hl 3 rfl) ?_
            refine lv_aload_n hx hb dX5_canHold_25 rfl (lv_at hl 0 rfl) ?_
            refine lv_iload hx hb dX5_canHold_26 (lv_at hl 5 rfl) ?_
            refine lv_iload_n hx hb dX5_canHold_28 rfl (lv_at hl 2 rfl) ?_
            refine call_i (X := []) (Z := []) (As := [.int (nI i), .int (nI r)]) (rest := [.int mo]) ⟨hx, hb, hml, hown, hts⟩ (c_X5_lock l D cI cT ad th sv ln vs rl cm fi se z zs sd tx ds rg i r (by omega)) (cwV 2 hts gX5_canHold_X5_lock rfl rfl rfl (by decide +kernel) ⟨Nat.le_of_ble_eq_true rfl, Nat.le_of_ble_eq_true rfl⟩) hK hP hD hS hA (va_recv hK hP (ci := 5) (q0 := 0) rfl rfl) (fun _ => rfl) rfl hl.1 rfl (Nat.le_of_ble_eq_true rfl) ⟨by decide, by decide⟩ dX5_canHold_29 (fun rv _ H locs hp hP hD hS => ?_)
            obtain rfl := hp
            have hP : va_P D vwCl ([(ad 0, .inr (5, [.int th, .ref (ad 1), .ref (ad 2), .ref (ad 3), .int sv, .ref (ad 4), .int ln, .int vs, .ref (ad 5), .ref (ad 6), .int rl, .int cm, .int fi, .int se])), (ad 1, .inl (cI, 221, .inl z)), (ad 2, .inl (cI, 221, .inl zs)), (ad 3, .inl (cI, 1768, .inl sd)), (ad 4, .inl (cI, 80, .inl tx)), (ad 5, .inl (cI, 8, .inl ds)), (ad 6, .inl (cI, 8, .inl rg))]) H := hP
            have hD : va_D A ([(ad 0, .inr (5, [.int th, .ref (ad 1), .ref (ad 2), .ref (ad 3), .int sv, .ref (ad 4), .int ln, .int vs, .ref (ad 5), .ref (ad 6), .int rl, .int cm, .int fi, .int se])), (ad 1, .inl (cI, 221, .inl z)), (ad 2, .inl (cI, 221, .inl zs)), (ad 3, .inl (cI, 1768, .inl sd)), (ad 4, .inl (cI, 80, .inl tx)), (ad 5, .inl (cI, 8, .inl ds)), (ad 6, .inl (cI, 8, .inl rg))]) := hD
            refine tpe (y := lk F i r) (RZ_lk hZ (by omega) (by omega)) ?_
            refine call_s (X := [(ad 0, .inr (5, [.int th, .ref (ad 1), .ref (ad 2), .ref (ad 3), .int sv, .ref (ad 4), .int ln, .int vs, .ref (ad 5), .ref (ad 6), .int rl, .int cm, .int fi, .int se])), (ad 1, .inl (cI, 221, .inl z)), (ad 2, .inl (cI, 221, .inl zs)), (ad 3, .inl (cI, 1768, .inl sd)), (ad 4, .inl (cI, 80, .inl tx)), (ad 5, .inl (cI, 8, .inl ds)), (ad 6, .inl (cI, 8, .inl rg))]) (Wc := []) (Z := []) (As := [.int mo, .int (lk F i r)]) (rest := []) ⟨hx, hb, hml, hown, hts⟩ (c_X5_isCompatible l D cI cT mo (lk F i r)) (va_cwS 2 hts gX5_canHold_X5_isCompatible rfl rfl rfl (by decide +kernel) ⟨Nat.le_of_ble_eq_true rfl, Nat.le_of_ble_eq_true rfl⟩) hK (P_nilr hP) (D_nilr hD) hS hA (fun _ => rfl) rfl hl.1 rfl (Nat.le_of_ble_eq_true rfl) ⟨by decide, by decide⟩ dX5_canHold_32 (fun rv _ H locs hp hP hD hS => ?_)
            obtain rfl := hp
            have hP := P_nil2 hP
            have hD := D_nil2 hD
            have hP : va_P D vwCl ([(ad 0, .inr (5, [.int th, .ref (ad 1), .ref (ad 2), .ref (ad 3), .int sv, .ref (ad 4), .int ln, .int vs, .ref (ad 5), .ref (ad 6), .int rl, .int cm, .int fi, .int se])), (ad 1, .inl (cI, 221, .inl z)), (ad 2, .inl (cI, 221, .inl zs)), (ad 3, .inl (cI, 1768, .inl sd)), (ad 4, .inl (cI, 80, .inl tx)), (ad 5, .inl (cI, 8, .inl ds)), (ad 6, .inl (cI, 8, .inl rg))]) H := hP
            have hD : va_D A ([(ad 0, .inr (5, [.int th, .ref (ad 1), .ref (ad 2), .ref (ad 3), .int sv, .ref (ad 4), .int ln, .int vs, .ref (ad 5), .ref (ad 6), .int rl, .int cm, .int fi, .int se])), (ad 1, .inl (cI, 221, .inl z)), (ad 2, .inl (cI, 221, .inl zs)), (ad 3, .inl (cI, 1768, .inl sd)), (ad 4, .inl (cI, 80, .inl tx)), (ad 5, .inl (cI, 8, .inl ds)), (ad 6, .inl (cI, 8, .inl rg))]) := hD
            refine lv_if_eq (tgt := 42) hx hb dX5_canHold_35 (by decide) (fun h_4 => ?_) (fun h_4 => ?_)
            · have h_4 := (nI_eq (a := ((compB mo (lk F i r)).toNat)) (b := 0) (by first | omega | exact bits_lt31 _ | exact bitN_lt _ _ | exact bool_lt _ | exact and_lt31 _ _ _ _ | exact Nat.lt_of_le_of_lt (dst_lt _ _ _ (by omega) _) (by decide) | exact Nat.lt_of_le_of_lt (nrB_le _ _ _ (by omega)).2 (by decide) | decide) (by first | omega | exact bits_lt31 _ | exact bitN_lt _ _ | exact bool_lt _ | exact and_lt31 _ _ _ _ | exact Nat.lt_of_le_of_lt (dst_lt _ _ _ (by omega) _) (by decide) | exact Nat.lt_of_le_of_lt (nrB_le _ _ _ (by omega)).2 (by decide) | decide)).mp h_4
              have h_4 := tn_f h_4
              refine lv_iconst (v := (nI 0)) hx hb dX5_canHold_42 (by decide) ?_
              refine lv_istore (lv' := [(4, .int (nI 0)), (0, .ref (ad 0)), (1, .int (nI t)), (2, .int (nI r)), (3, .int mo), (5, .int (nI i))]) hx hb dX5_canHold_43 hl (by decide) rfl (fun ls hl => ?_)
              refine lv_iinc (v := (nI (i + 1))) (lv' := [(5, .int (nI (i + 1))), (4, .int (nI 0)), (0, .ref (ad 0)), (1, .int (nI t)), (2, .int (nI r)), (3, .int mo)]) hx hb dX5_canHold_45 hl (k := 5) rfl (nI_add _ 1) (by decide) rfl (fun ls hl => ?_)
              refine lv_goto (tgt := 6) hx hb dX5_canHold_48 (by decide) ?_
              rw [show (nI 0) = (nI ((alN (fun u => !rivB F t r mo u) (i + 1)).toNat)) from (by rw [alN, h_2]; simp [rivB, h_3, h_4])] at hl
              exact ih6 (i + 1) (by omega) (by omega) _ _ hP hD hS _ (lv_sub hl [2, 3, 4, 5, 1, 0] rfl)
            · have h_4 := mt (nI_eq (a := ((compB mo (lk F i r)).toNat)) (b := 0) (by first | omega | exact bits_lt31 _ | exact bitN_lt _ _ | exact bool_lt _ | exact and_lt31 _ _ _ _ | exact Nat.lt_of_le_of_lt (dst_lt _ _ _ (by omega) _) (by decide) | exact Nat.lt_of_le_of_lt (nrB_le _ _ _ (by omega)).2 (by decide) | decide) (by first | omega | exact bits_lt31 _ | exact bitN_lt _ _ | exact bool_lt _ | exact and_lt31 _ _ _ _ | exact Nat.lt_of_le_of_lt (dst_lt _ _ _ (by omega) _) (by decide) | exact Nat.lt_of_le_of_lt (nrB_le _ _ _ (by omega)).2 (by decide) | decide)).mpr h_4
              have h_4 := tn_y h_4
              refine lv_iconst (v := (nI 1)) hx hb dX5_canHold_38 (by decide) ?_
              refine lv_goto (tgt := 43) hx hb dX5_canHold_39 (by decide) ?_
              refine lv_istore (lv' := [(4, .int (nI 1)), (0, .ref (ad 0)), (1, .int (nI t)), (2, .int (nI r)), (3, .int mo), (5, .int (nI i))]) hx hb dX5_canHold_43 hl (by decide) rfl (fun ls hl => ?_)
              refine lv_iinc (v := (nI (i + 1))) (lv' := [(5, .int (nI (i + 1))), (4, .int (nI 1)), (0, .ref (ad 0)), (1, .int (nI t)), (2, .int (nI r)), (3, .int mo)]) hx hb dX5_canHold_45 hl (k := 5) rfl (nI_add _ 1) (by decide) rfl (fun ls hl => ?_)
              refine lv_goto (tgt := 6) hx hb dX5_canHold_48 (by decide) ?_
              rw [show (nI 1) = (nI ((alN (fun u => !rivB F t r mo u) (i + 1)).toNat)) from (by rw [alN, h_2]; simp [rivB, h_3, h_4])] at hl
              exact ih6 (i + 1) (by omega) (by omega) _ _ hP hD hS _ (lv_sub hl [2, 3, 4, 5, 1, 0] rfl)
  rw [show (nI 1) = (nI ((alN (fun u => !rivB F t r mo u) 0).toNat)) from rfl] at hl
  exact L6 _ 0 (Nat.zero_le _) (Nat.lt_succ_self _) _ _ hP hD hS _ (lv_sub hl [2, 3, 4, 5, 1, 0] rfl)

abbrev rX5_isOnlyHolder : Room := { frames := 1, cells := 0, slots := 0, locals := 22 }
set_option maxHeartbeats 1000000 in
set_option maxRecDepth 100000 in
theorem c_X5_isOnlyHolder (l : Launch) (D : va_G) (cI cT : ClassId) (ad : Nat → Nat) (th sv ln vs rl cm fi se : Int32) (z zs sd tx ds rg : Nat → Int32) (F : FF) (Q0 : QQ) (t r : Nat) (ht : t < 8) (hr : r < 10) (hZ : RZ F Q0 z) : CN l D cI cT yX5_isOnlyHolder wsX5_isOnlyHolder rX5_isOnlyHolder [.ref (ad 0), .int (nI t), .int (nI r)] (refW cI ad th sv ln vs rl cm fi se z zs sd tx ds rg) (S := Unit) (fun v _ => v = nI (alN (fun u => decide (u = t) || lk F u r == 0) 8).toNat) (fun _ => refW cI ad th sv ln vs rl cm fi se z zs sd tx ds rg) := by
  refine CN.of (cc := cX5_isOnlyHolder) (maxL := 5) (ret := (some .boolean)) (by decide) rfl (Nat.le_of_ble_eq_true rfl) ?_
  intro p e s m args below meth c A Q hQ B hA H locs hP hK hD hS ls hl
  obtain ⟨hx, hb, hml, hrt, hts, hown, hlk⟩ := B
  have hP : va_P D vwCl ([(ad 0, .inr (5, [.int th, .ref (ad 1), .ref (ad 2), .ref (ad 3), .int sv, .ref (ad 4), .int ln, .int vs, .ref (ad 5), .ref (ad 6), .int rl, .int cm, .int fi, .int se])), (ad 1, .inl (cI, 221, .inl z)), (ad 2, .inl (cI, 221, .inl zs)), (ad 3, .inl (cI, 1768, .inl sd)), (ad 4, .inl (cI, 80, .inl tx)), (ad 5, .inl (cI, 8, .inl ds)), (ad 6, .inl (cI, 8, .inl rg))]) H := hP
  have hD : va_D A ([(ad 0, .inr (5, [.int th, .ref (ad 1), .ref (ad 2), .ref (ad 3), .int sv, .ref (ad 4), .int ln, .int vs, .ref (ad 5), .ref (ad 6), .int rl, .int cm, .int fi, .int se])), (ad 1, .inl (cI, 221, .inl z)), (ad 2, .inl (cI, 221, .inl zs)), (ad 3, .inl (cI, 1768, .inl sd)), (ad 4, .inl (cI, 80, .inl tx)), (ad 5, .inl (cI, 8, .inl ds)), (ad 6, .inl (cI, 8, .inl rg))]) := hD
  have hl : lv_has ls 5 [(0, .ref (ad 0)), (1, .int (nI t)), (2, .int (nI r))] := hl
  refine lv_iconst (v := (nI 1)) hx hb dX5_isOnlyHolder_0 (by decide) ?_
  refine lv_istore_n (lv' := [(3, .int (nI 1)), (0, .ref (ad 0)), (1, .int (nI t)), (2, .int (nI r))]) hx hb dX5_isOnlyHolder_1 rfl hl (by decide) rfl (fun ls hl => ?_)
  refine lv_iconst (v := (nI 0)) hx hb dX5_isOnlyHolder_2 (by decide) ?_
  refine lv_istore (lv' := [(4, .int (nI 0)), (3, .int (nI 1)), (0, .ref (ad 0)), (1, .int (nI t)), (2, .int (nI r))]) hx hb dX5_isOnlyHolder_3 hl (by decide) rfl (fun ls hl => ?_)
  have L5 : ∀ (N : Nat) (i : Nat), (i ≤ 8) → (8 - i) < N → ∀ (H : Heap) (locs : List Loc), va_P D vwCl ([(ad 0, .inr (5, [.int th, .ref (ad 1), .ref (ad 2), .ref (ad 3), .int sv, .ref (ad 4), .int ln, .int vs, .ref (ad 5), .ref (ad 6), .int rl, .int cm, .int fi, .int se])), (ad 1, .inl (cI, 221, .inl z)), (ad 2, .inl (cI, 221, .inl zs)), (ad 3, .inl (cI, 1768, .inl sd)), (ad 4, .inl (cI, 80, .inl tx)), (ad 5, .inl (cI, 8, .inl ds)), (ad 6, .inl (cI, 8, .inl rg))]) H → va_D A ([(ad 0, .inr (5, [.int th, .ref (ad 1), .ref (ad 2), .ref (ad 3), .int sv, .ref (ad 4), .int ln, .int vs, .ref (ad 5), .ref (ad 6), .int rl, .int cm, .int fi, .int se])), (ad 1, .inl (cI, 221, .inl z)), (ad 2, .inl (cI, 221, .inl zs)), (ad 3, .inl (cI, 1768, .inl sd)), (ad 4, .inl (cI, 80, .inl tx)), (ad 5, .inl (cI, 8, .inl ds)), (ad 6, .inl (cI, 8, .inl rg))]) → va_S A s.heap H locs → ∀ ls : Array Slot, lv_has ls 5 [(0, .ref (ad 0)), (1, .int (nI t)), (2, .int (nI r)), (3, .int (nI ((alN (fun u => decide (u = t) || lk F u r == 0) i).toNat))), (4, .int (nI i))] → W p l e rX5_isOnlyHolder s m args below meth c H locs 0 0 Q (F0 m 5 ls []) := by
    intro N5
    induction N5 with
    | zero => intro i hi hN; exact absurd hN (Nat.not_lt_zero _)
    | succ N5 ih5 =>
      intro i hi hN H locs hP hD hS ls hl
      refine lv_iload hx hb dX5_isOnlyHolder_5 (lv_at hl 4 rfl) ?_
      refine lv_bipush (v := (nI 8)) hx hb dX5_isOnlyHolder_7 (by decide) ?_
      refine lv_icmp_ge (tgt := 44) hx hb dX5_isOnlyHolder_9 (by decide) (fun h_1 => ?_) (fun h_1 => ?_)
      · have h_1 := (nI_leI (a := 8) (b := i) (by first | omega | exact bits_lt31 _ | exact bitN_lt _ _ | exact bool_lt _ | exact and_lt31 _ _ _ _ | exact Nat.lt_of_le_of_lt (dst_lt _ _ _ (by omega) _) (by decide) | exact Nat.lt_of_le_of_lt (nrB_le _ _ _ (by omega)).2 (by decide) | decide) (by first | omega | exact bits_lt31 _ | exact bitN_lt _ _ | exact bool_lt _ | exact and_lt31 _ _ _ _ | exact Nat.lt_of_le_of_lt (dst_lt _ _ _ (by omega) _) (by decide) | exact Nat.lt_of_le_of_lt (nrB_le _ _ _ (by omega)).2 (by decide) | decide)).mp h_1
        refine lv_iload_n hx hb dX5_isOnlyHolder_44 rfl (lv_at hl 3 rfl) ?_
        exact ret_z (u := ()) hQ hx hb hrt hlk hS dX5_isOnlyHolder_45 (by exact nar_b _) hP (by rw [show i = 8 by omega])
      · have h_1 := mt (nI_leI (a := 8) (b := i) (by first | omega | exact bits_lt31 _ | exact bitN_lt _ _ | exact bool_lt _ | exact and_lt31 _ _ _ _ | exact Nat.lt_of_le_of_lt (dst_lt _ _ _ (by omega) _) (by decide) | exact Nat.lt_of_le_of_lt (nrB_le _ _ _ (by omega)).2 (by decide) | decide) (by first | omega | exact bits_lt31 _ | exact bitN_lt _ _ | exact bool_lt _ | exact and_lt31 _ _ _ _ | exact Nat.lt_of_le_of_lt (dst_lt _ _ _ (by omega) _) (by decide) | exact Nat.lt_of_le_of_lt (nrB_le _ _ _ (by omega)).2 (by decide) | decide)).mpr h_1
        refine lv_iload_n hx hb dX5_isOnlyHolder_12 rfl (lv_at hl 3 rfl) ?_
        refine lv_if_eq (tgt := 36) hx hb dX5_isOnlyHolder_13 (by decide) (fun h_2 => ?_) (fun h_2 => ?_)
        · have h_2 := (nI_eq (a := ((alN (fun u => decide (u = t) || lk F u r == 0) i).toNat)) (b := 0) (by first | omega | exact bits_lt31 _ | exact bitN_lt _ _ | exact bool_lt _ | exact and_lt31 _ _ _ _ | exact Nat.lt_of_le_of_lt (dst_lt _ _ _ (by omega) _) (by decide) | exact Nat.lt_of_le_of_lt (nrB_le _ _ _ (by omega)).2 (by decide) | decide) (by first | omega | exact bits_lt31 _ | exact bitN_lt _ _ | exact bool_lt _ | exact and_lt31 _ _ _ _ | exact Nat.lt_of_le_of_lt (dst_lt _ _ _ (by omega) _) (by decide) | exact Nat.lt_of_le_of_lt (nrB_le _ _ _ (by omega)).2 (by decide) | decide)).mp h_2
          have h_2 := tn_f h_2
          refine lv_iconst (v := (nI 0)) hx hb dX5_isOnlyHolder_36 (by decide) ?_
          refine lv_istore_n (lv' := [(3, .int (nI 0)), (0, .ref (ad 0)), (1, .int (nI t)), (2, .int (nI r)), (4, .int (nI i))]) hx hb dX5_isOnlyHolder_37 rfl hl (by decide) rfl (fun ls hl => ?_)
          refine lv_iinc (v := (nI (i + 1))) (lv' := [(4, .int (nI (i + 1))), (3, .int (nI 0)), (0, .ref (ad 0)), (1, .int (nI t)), (2, .int (nI r))]) hx hb dX5_isOnlyHolder_38 hl (k := 4) rfl (nI_add _ 1) (by decide) rfl (fun ls hl => ?_)
          refine lv_goto (tgt := 5) hx hb dX5_isOnlyHolder_41 (by decide) ?_
          rw [show (nI 0) = (nI ((alN (fun u => decide (u = t) || lk F u r == 0) (i + 1)).toNat)) from (by rw [alN, h_2]; simp [rivB])] at hl
          exact ih5 (i + 1) (by omega) (by omega) _ _ hP hD hS _ (lv_sub hl [2, 3, 4, 1, 0] rfl)
        · have h_2 := mt (nI_eq (a := ((alN (fun u => decide (u = t) || lk F u r == 0) i).toNat)) (b := 0) (by first | omega | exact bits_lt31 _ | exact bitN_lt _ _ | exact bool_lt _ | exact and_lt31 _ _ _ _ | exact Nat.lt_of_le_of_lt (dst_lt _ _ _ (by omega) _) (by decide) | exact Nat.lt_of_le_of_lt (nrB_le _ _ _ (by omega)).2 (by decide) | decide) (by first | omega | exact bits_lt31 _ | exact bitN_lt _ _ | exact bool_lt _ | exact and_lt31 _ _ _ _ | exact Nat.lt_of_le_of_lt (dst_lt _ _ _ (by omega) _) (by decide) | exact Nat.lt_of_le_of_lt (nrB_le _ _ _ (by omega)).2 (by decide) | decide)).mpr h_2
          have h_2 := tn_y h_2
          refine lv_iload hx hb dX5_isOnlyHolder_16 (lv_at hl 4 rfl) ?_
          refine lv_iload_n hx hb dX5_isOnlyHolder_18 rfl (lv_at hl 1 rfl) ?_
          refine lv_icmp_eq (tgt := 32) hx hb dX5_isOnlyHolder_19 (by decide) (fun h_3 => ?_) (fun h_3 => ?_)
          · have h_3 := (nI_eq (a := i) (b := t) (by first | omega | exact bits_lt31 _ | exact bitN_lt _ _ | exact bool_lt _ | exact and_lt31 _ _ _ _ | exact Nat.lt_of_le_of_lt (dst_lt _ _ _ (by omega) _) (by decide) | exact Nat.lt_of_le_of_lt (nrB_le _ _ _ (by omega)).2 (by decide) | decide) (by first | omega | exact bits_lt31 _ | exact bitN_lt _ _ | exact bool_lt _ | exact and_lt31 _ _ _ _ | exact Nat.lt_of_le_of_lt (dst_lt _ _ _ (by omega) _) (by decide) | exact Nat.lt_of_le_of_lt (nrB_le _ _ _ (by omega)).2 (by decide) | decide)).mp h_3
            refine lv_iconst (v := (nI 1)) hx hb dX5_isOnlyHolder_32 (by decide) ?_
            refine lv_goto (tgt := 37) hx hb dX5_isOnlyHolder_33 (by decide) ?_
            refine lv_istore_n (lv' := [(3, .int (nI 1)), (0, .ref (ad 0)), (1, .int (nI t)), (2, .int (nI r)), (4, .int (nI i))]) hx hb dX5_isOnlyHolder_37 rfl hl (by decide) rfl (fun ls hl => ?_)
            refine lv_iinc (v := (nI (i + 1))) (lv' := [(4, .int (nI (i + 1))), (3, .int (nI 1)), (0, .ref (ad 0)), (1, .int (nI t)), (2, .int (nI r))]) hx hb dX5_isOnlyHolder_38 hl (k := 4) rfl (nI_add _ 1) (by decide) rfl (fun ls hl => ?_)
            refine lv_goto (tgt := 5) hx hb dX5_isOnlyHolder_41 (by decide) ?_
            rw [show (nI 1) = (nI ((alN (fun u => decide (u = t) || lk F u r == 0) (i + 1)).toNat)) from (by rw [alN, h_2]; simp [rivB, h_3])] at hl
            exact ih5 (i + 1) (by omega) (by omega) _ _ hP hD hS _ (lv_sub hl [2, 3, 4, 1, 0] rfl)
          · have h_3 := mt (nI_eq (a := i) (b := t) (by first | omega | exact bits_lt31 _ | exact bitN_lt _ _ | exact bool_lt _ | exact and_lt31 _ _ _ _ | exact Nat.lt_of_le_of_lt (dst_lt _ _ _ (by omega) _) (by decide) | exact Nat.lt_of_le_of_lt (nrB_le _ _ _ (by omega)).2 (by decide) | decide) (by first | omega | exact bits_lt31 _ | exact bitN_lt _ _ | exact bool_lt _ | exact and_lt31 _ _ _ _ | exact Nat.lt_of_le_of_lt (dst_lt _ _ _ (by omega) _) (by decide) | exact Nat.lt_of_le_of_lt (nrB_le _ _ _ (by omega)).2 (by decide) | decide)).mpr h_3
            refine lv_aload_n hx hb dX5_isOnlyHolder_22 rfl (lv_at hl 0 rfl) ?_
            refine lv_iload hx hb dX5_isOnlyHolder_23 (lv_at hl 4 rfl) ?_
            refine lv_iload_n hx hb dX5_isOnlyHolder_25 rfl (lv_at hl 2 rfl) ?_
            refine call_i (X := []) (Z := []) (As := [.int (nI i), .int (nI r)]) (rest := []) ⟨hx, hb, hml, hown, hts⟩ (c_X5_lock l D cI cT ad th sv ln vs rl cm fi se z zs sd tx ds rg i r (by omega)) (cwV 2 hts gX5_isOnlyHolder_X5_lock rfl rfl rfl (by decide +kernel) ⟨Nat.le_of_ble_eq_true rfl, Nat.le_of_ble_eq_true rfl⟩) hK hP hD hS hA (va_recv hK hP (ci := 5) (q0 := 0) rfl rfl) (fun _ => rfl) rfl hl.1 rfl (Nat.le_of_ble_eq_true rfl) ⟨by decide, by decide⟩ dX5_isOnlyHolder_26 (fun rv _ H locs hp hP hD hS => ?_)
            obtain rfl := hp
            have hP : va_P D vwCl ([(ad 0, .inr (5, [.int th, .ref (ad 1), .ref (ad 2), .ref (ad 3), .int sv, .ref (ad 4), .int ln, .int vs, .ref (ad 5), .ref (ad 6), .int rl, .int cm, .int fi, .int se])), (ad 1, .inl (cI, 221, .inl z)), (ad 2, .inl (cI, 221, .inl zs)), (ad 3, .inl (cI, 1768, .inl sd)), (ad 4, .inl (cI, 80, .inl tx)), (ad 5, .inl (cI, 8, .inl ds)), (ad 6, .inl (cI, 8, .inl rg))]) H := hP
            have hD : va_D A ([(ad 0, .inr (5, [.int th, .ref (ad 1), .ref (ad 2), .ref (ad 3), .int sv, .ref (ad 4), .int ln, .int vs, .ref (ad 5), .ref (ad 6), .int rl, .int cm, .int fi, .int se])), (ad 1, .inl (cI, 221, .inl z)), (ad 2, .inl (cI, 221, .inl zs)), (ad 3, .inl (cI, 1768, .inl sd)), (ad 4, .inl (cI, 80, .inl tx)), (ad 5, .inl (cI, 8, .inl ds)), (ad 6, .inl (cI, 8, .inl rg))]) := hD
            refine tpe (y := lk F i r) (RZ_lk hZ (by omega) (by omega)) ?_
            refine lv_if_ne (tgt := 36) hx hb dX5_isOnlyHolder_29 (by decide) (fun h_4 => ?_) (fun h_4 => ?_)
            · have h_4 := h_4
              refine lv_iconst (v := (nI 0)) hx hb dX5_isOnlyHolder_36 (by decide) ?_
              refine lv_istore_n (lv' := [(3, .int (nI 0)), (0, .ref (ad 0)), (1, .int (nI t)), (2, .int (nI r)), (4, .int (nI i))]) hx hb dX5_isOnlyHolder_37 rfl hl (by decide) rfl (fun ls hl => ?_)
              refine lv_iinc (v := (nI (i + 1))) (lv' := [(4, .int (nI (i + 1))), (3, .int (nI 0)), (0, .ref (ad 0)), (1, .int (nI t)), (2, .int (nI r))]) hx hb dX5_isOnlyHolder_38 hl (k := 4) rfl (nI_add _ 1) (by decide) rfl (fun ls hl => ?_)
              refine lv_goto (tgt := 5) hx hb dX5_isOnlyHolder_41 (by decide) ?_
              rw [show (nI 0) = (nI ((alN (fun u => decide (u = t) || lk F u r == 0) (i + 1)).toNat)) from (by rw [alN, h_2]; simp [rivB, h_3, bq_f h_4])] at hl
              exact ih5 (i + 1) (by omega) (by omega) _ _ hP hD hS _ (lv_sub hl [2, 3, 4, 1, 0] rfl)
            · have h_4 := h_4
              refine lv_iconst (v := (nI 1)) hx hb dX5_isOnlyHolder_32 (by decide) ?_
              refine lv_goto (tgt := 37) hx hb dX5_isOnlyHolder_33 (by decide) ?_
              refine lv_istore_n (lv' := [(3, .int (nI 1)), (0, .ref (ad 0)), (1, .int (nI t)), (2, .int (nI r)), (4, .int (nI i))]) hx hb dX5_isOnlyHolder_37 rfl hl (by decide) rfl (fun ls hl => ?_)
              refine lv_iinc (v := (nI (i + 1))) (lv' := [(4, .int (nI (i + 1))), (3, .int (nI 1)), (0, .ref (ad 0)), (1, .int (nI t)), (2, .int (nI r))]) hx hb dX5_isOnlyHolder_38 hl (k := 4) rfl (nI_add _ 1) (by decide) rfl (fun ls hl => ?_)
              refine lv_goto (tgt := 5) hx hb dX5_isOnlyHolder_41 (by decide) ?_
              rw [show (nI 1) = (nI ((alN (fun u => decide (u = t) || lk F u r == 0) (i + 1)).toNat)) from (by rw [alN, h_2]; simp [rivB, h_3, bq_t h_4])] at hl
              exact ih5 (i + 1) (by omega) (by omega) _ _ hP hD hS _ (lv_sub hl [2, 3, 4, 1, 0] rfl)
  rw [show (nI 1) = (nI ((alN (fun u => decide (u = t) || lk F u r == 0) 0).toNat)) from rfl] at hl
  exact L5 _ 0 (Nat.zero_le _) (Nat.lt_succ_self _) _ _ hP hD hS _ (lv_sub hl [2, 3, 4, 1, 0] rfl)

abbrev rX5_grant : Room := { frames := 1, cells := 0, slots := 0, locals := 23 }
set_option maxHeartbeats 1000000 in
set_option maxRecDepth 100000 in
theorem c_X5_grant (l : Launch) (D : va_G) (cI cT : ClassId) (ad : Nat → Nat) (th sv ln vs rl cm fi se : Int32) (z zs sd tx ds rg : Nat → Int32) (t r : Nat) (mo : Int32) (ht : t < 8) (hr : r < 10) : CV l D cI cT yX5_grant wsX5_grant rX5_grant [.ref (ad 0), .int (nI t), .int (nI r), .int mo] (refW cI ad th sv ln vs rl cm fi se z zs sd tx ds rg) (S := Unit) (fun _ => True) (fun _ => refW cI ad th sv ln vs rl cm fi se (grZ z t r mo) zs sd tx ds rg) := by
  refine CV.of (cc := cX5_grant) (maxL := 4) (ret := none) (by decide) rfl (Nat.le_of_ble_eq_true rfl) ?_
  intro p e s m args below meth c A Q hQ B hA H locs hP hK hD hS ls hl
  obtain ⟨hx, hb, hml, hrt, hts, hown, hlk⟩ := B
  have hP : va_P D vwCl ([(ad 0, .inr (5, [.int th, .ref (ad 1), .ref (ad 2), .ref (ad 3), .int sv, .ref (ad 4), .int ln, .int vs, .ref (ad 5), .ref (ad 6), .int rl, .int cm, .int fi, .int se])), (ad 1, .inl (cI, 221, .inl z)), (ad 2, .inl (cI, 221, .inl zs)), (ad 3, .inl (cI, 1768, .inl sd)), (ad 4, .inl (cI, 80, .inl tx)), (ad 5, .inl (cI, 8, .inl ds)), (ad 6, .inl (cI, 8, .inl rg))]) H := hP
  have hD : va_D A ([(ad 0, .inr (5, [.int th, .ref (ad 1), .ref (ad 2), .ref (ad 3), .int sv, .ref (ad 4), .int ln, .int vs, .ref (ad 5), .ref (ad 6), .int rl, .int cm, .int fi, .int se])), (ad 1, .inl (cI, 221, .inl z)), (ad 2, .inl (cI, 221, .inl zs)), (ad 3, .inl (cI, 1768, .inl sd)), (ad 4, .inl (cI, 80, .inl tx)), (ad 5, .inl (cI, 8, .inl ds)), (ad 6, .inl (cI, 8, .inl rg))]) := hD
  have hl : lv_has ls 4 [(0, .ref (ad 0)), (1, .int (nI t)), (2, .int (nI r)), (3, .int mo)] := hl
  refine lv_aload_n hx hb dX5_grant_0 rfl (lv_at hl 0 rfl) ?_
  refine lv_iload_n hx hb dX5_grant_1 rfl (lv_at hl 1 rfl) ?_
  refine lv_iload_n hx hb dX5_grant_2 rfl (lv_at hl 2 rfl) ?_
  refine lv_iload_n hx hb dX5_grant_3 rfl (lv_at hl 3 rfl) ?_
  refine call_v (X := []) (Z := []) (As := [.int (nI t), .int (nI r), .int mo]) (rest := []) ⟨hx, hb, hml, hown, hts⟩ (c_X5_setLock l D cI cT ad th sv ln vs rl cm fi se z zs sd tx ds rg t r mo (by omega)) (cwV 3 hts gX5_grant_X5_setLock rfl rfl rfl (by decide +kernel) ⟨Nat.le_of_ble_eq_true rfl, Nat.le_of_ble_eq_true rfl⟩) hK hP hD hS hA (va_recv hK hP (ci := 5) (q0 := 0) rfl rfl) (fun _ => adr_ref.trans adr_ref.symm) rfl hl.1 rfl (Nat.le_of_ble_eq_true rfl) ⟨by decide, by decide⟩ dX5_grant_4 (fun _ H locs hp hP hD hS => ?_)
  have hP : va_P D vwCl ([(ad 0, .inr (5, [.int th, .ref (ad 1), .ref (ad 2), .ref (ad 3), .int sv, .ref (ad 4), .int ln, .int vs, .ref (ad 5), .ref (ad 6), .int rl, .int cm, .int fi, .int se])), (ad 1, .inl (cI, 221, .inl (upd z (48 + 10 * t + r) mo))), (ad 2, .inl (cI, 221, .inl zs)), (ad 3, .inl (cI, 1768, .inl sd)), (ad 4, .inl (cI, 80, .inl tx)), (ad 5, .inl (cI, 8, .inl ds)), (ad 6, .inl (cI, 8, .inl rg))]) H := hP
  have hD : va_D A ([(ad 0, .inr (5, [.int th, .ref (ad 1), .ref (ad 2), .ref (ad 3), .int sv, .ref (ad 4), .int ln, .int vs, .ref (ad 5), .ref (ad 6), .int rl, .int cm, .int fi, .int se])), (ad 1, .inl (cI, 221, .inl (upd z (48 + 10 * t + r) mo))), (ad 2, .inl (cI, 221, .inl zs)), (ad 3, .inl (cI, 1768, .inl sd)), (ad 4, .inl (cI, 80, .inl tx)), (ad 5, .inl (cI, 8, .inl ds)), (ad 6, .inl (cI, 8, .inl rg))]) := hD
  refine lv_aload_n hx hb dX5_grant_7 rfl (lv_at hl 0 rfl) ?_
  refine lv_iload_n hx hb dX5_grant_8 rfl (lv_at hl 1 rfl) ?_
  refine lv_iconst (v := (nI 1)) hx hb dX5_grant_9 (by decide) ?_
  refine lv_aload_n hx hb dX5_grant_10 rfl (lv_at hl 0 rfl) ?_
  refine lv_iload_n hx hb dX5_grant_11 rfl (lv_at hl 1 rfl) ?_
  refine lv_iconst (v := (nI 1)) hx hb dX5_grant_12 (by decide) ?_
  refine call_i (X := []) (Z := []) (As := [.int (nI t), .int (nI 1)]) (rest := [.int (nI 1), .int (nI t), .ref (ad 0)]) ⟨hx, hb, hml, hown, hts⟩ (c_X5_of l D cI cT ad th sv ln vs rl cm fi se (upd z (48 + 10 * t + r) mo) zs sd tx ds rg t 1 (by omega)) (cwV 2 hts gX5_grant_X5_of rfl rfl rfl (by decide +kernel) ⟨Nat.le_of_ble_eq_true rfl, Nat.le_of_ble_eq_true rfl⟩) hK hP hD hS hA (va_recv hK hP (ci := 5) (q0 := 0) rfl rfl) (fun _ => rfl) rfl hl.1 rfl (Nat.le_of_ble_eq_true rfl) ⟨by decide, by decide⟩ dX5_grant_13 (fun rv _ H locs hp hP hD hS => ?_)
  obtain rfl := hp
  have hP : va_P D vwCl ([(ad 0, .inr (5, [.int th, .ref (ad 1), .ref (ad 2), .ref (ad 3), .int sv, .ref (ad 4), .int ln, .int vs, .ref (ad 5), .ref (ad 6), .int rl, .int cm, .int fi, .int se])), (ad 1, .inl (cI, 221, .inl (upd z (48 + 10 * t + r) mo))), (ad 2, .inl (cI, 221, .inl zs)), (ad 3, .inl (cI, 1768, .inl sd)), (ad 4, .inl (cI, 80, .inl tx)), (ad 5, .inl (cI, 8, .inl ds)), (ad 6, .inl (cI, 8, .inl rg))]) H := hP
  have hD : va_D A ([(ad 0, .inr (5, [.int th, .ref (ad 1), .ref (ad 2), .ref (ad 3), .int sv, .ref (ad 4), .int ln, .int vs, .ref (ad 5), .ref (ad 6), .int rl, .int cm, .int fi, .int se])), (ad 1, .inl (cI, 221, .inl (upd z (48 + 10 * t + r) mo))), (ad 2, .inl (cI, 221, .inl zs)), (ad 3, .inl (cI, 1768, .inl sd)), (ad 4, .inl (cI, 80, .inl tx)), (ad 5, .inl (cI, 8, .inl ds)), (ad 6, .inl (cI, 8, .inl rg))]) := hD
  refine lv_iconst (v := (nI 1)) hx hb dX5_grant_16 (by decide) ?_
  refine lv_iadd hx hb dX5_grant_17 ?_
  refine call_v (X := []) (Z := []) (As := [.int (nI t), .int (nI 1), .int (((upd z (48 + 10 * t + r) mo) (6 * t + 1)) + (nI 1))]) (rest := []) ⟨hx, hb, hml, hown, hts⟩ (c_X5_put l D cI cT ad th sv ln vs rl cm fi se (upd z (48 + 10 * t + r) mo) zs sd tx ds rg t 1 (((upd z (48 + 10 * t + r) mo) (6 * t + 1)) + (nI 1)) (by omega)) (cwV 3 hts gX5_grant_X5_put rfl rfl rfl (by decide +kernel) ⟨Nat.le_of_ble_eq_true rfl, Nat.le_of_ble_eq_true rfl⟩) hK hP hD hS hA (va_recv hK hP (ci := 5) (q0 := 0) rfl rfl) (fun _ => adr_ref.trans adr_ref.symm) rfl hl.1 rfl (Nat.le_of_ble_eq_true rfl) ⟨by decide, by decide⟩ dX5_grant_18 (fun _ H locs hp hP hD hS => ?_)
  have hP : va_P D vwCl ([(ad 0, .inr (5, [.int th, .ref (ad 1), .ref (ad 2), .ref (ad 3), .int sv, .ref (ad 4), .int ln, .int vs, .ref (ad 5), .ref (ad 6), .int rl, .int cm, .int fi, .int se])), (ad 1, .inl (cI, 221, .inl (upd (upd z (48 + 10 * t + r) mo) (6 * t + 1) (((upd z (48 + 10 * t + r) mo) (6 * t + 1)) + (nI 1))))), (ad 2, .inl (cI, 221, .inl zs)), (ad 3, .inl (cI, 1768, .inl sd)), (ad 4, .inl (cI, 80, .inl tx)), (ad 5, .inl (cI, 8, .inl ds)), (ad 6, .inl (cI, 8, .inl rg))]) H := hP
  have hD : va_D A ([(ad 0, .inr (5, [.int th, .ref (ad 1), .ref (ad 2), .ref (ad 3), .int sv, .ref (ad 4), .int ln, .int vs, .ref (ad 5), .ref (ad 6), .int rl, .int cm, .int fi, .int se])), (ad 1, .inl (cI, 221, .inl (upd (upd z (48 + 10 * t + r) mo) (6 * t + 1) (((upd z (48 + 10 * t + r) mo) (6 * t + 1)) + (nI 1))))), (ad 2, .inl (cI, 221, .inl zs)), (ad 3, .inl (cI, 1768, .inl sd)), (ad 4, .inl (cI, 80, .inl tx)), (ad 5, .inl (cI, 8, .inl ds)), (ad 6, .inl (cI, 8, .inl rg))]) := hD
  exact ret_v (u := ()) hQ hx hb hrt hlk hS dX5_grant_21 hP trivial

abbrev rX5_release : Room := { frames := 1, cells := 0, slots := 0, locals := 23 }
set_option maxHeartbeats 1000000 in
set_option maxRecDepth 100000 in
theorem c_X5_release (l : Launch) (D : va_G) (cI cT : ClassId) (ad : Nat → Nat) (th sv ln vs rl cm fi se : Int32) (z zs sd tx ds rg : Nat → Int32) (t : Nat) (ht : t < 8) : CV l D cI cT yX5_release wsX5_release rX5_release [.ref (ad 0), .int (nI t)] (refW cI ad th sv ln vs rl cm fi se z zs sd tx ds rg) (S := Unit) (fun _ => True) (fun _ => refW cI ad th sv ln vs rl cm fi se (rlZ z t 10) zs sd tx ds rg) := by
  refine CV.of (cc := cX5_release) (maxL := 3) (ret := none) (by decide) rfl (Nat.le_of_ble_eq_true rfl) ?_
  intro p e s m args below meth c A Q hQ B hA H locs hP hK hD hS ls hl
  obtain ⟨hx, hb, hml, hrt, hts, hown, hlk⟩ := B
  have hP : va_P D vwCl ([(ad 0, .inr (5, [.int th, .ref (ad 1), .ref (ad 2), .ref (ad 3), .int sv, .ref (ad 4), .int ln, .int vs, .ref (ad 5), .ref (ad 6), .int rl, .int cm, .int fi, .int se])), (ad 1, .inl (cI, 221, .inl z)), (ad 2, .inl (cI, 221, .inl zs)), (ad 3, .inl (cI, 1768, .inl sd)), (ad 4, .inl (cI, 80, .inl tx)), (ad 5, .inl (cI, 8, .inl ds)), (ad 6, .inl (cI, 8, .inl rg))]) H := hP
  have hD : va_D A ([(ad 0, .inr (5, [.int th, .ref (ad 1), .ref (ad 2), .ref (ad 3), .int sv, .ref (ad 4), .int ln, .int vs, .ref (ad 5), .ref (ad 6), .int rl, .int cm, .int fi, .int se])), (ad 1, .inl (cI, 221, .inl z)), (ad 2, .inl (cI, 221, .inl zs)), (ad 3, .inl (cI, 1768, .inl sd)), (ad 4, .inl (cI, 80, .inl tx)), (ad 5, .inl (cI, 8, .inl ds)), (ad 6, .inl (cI, 8, .inl rg))]) := hD
  have hl : lv_has ls 3 [(0, .ref (ad 0)), (1, .int (nI t))] := hl
  refine lv_iconst (v := (nI 0)) hx hb dX5_release_0 (by decide) ?_
  refine lv_istore_n (lv' := [(2, .int (nI 0)), (0, .ref (ad 0)), (1, .int (nI t))]) hx hb dX5_release_1 rfl hl (by decide) rfl (fun ls hl => ?_)
  have L2 : ∀ (N : Nat) (i : Nat), (i ≤ 10) → (10 - i) < N → ∀ (H : Heap) (locs : List Loc), va_P D vwCl ([(ad 0, .inr (5, [.int th, .ref (ad 1), .ref (ad 2), .ref (ad 3), .int sv, .ref (ad 4), .int ln, .int vs, .ref (ad 5), .ref (ad 6), .int rl, .int cm, .int fi, .int se])), (ad 1, .inl (cI, 221, .inl (rlZ z t i))), (ad 2, .inl (cI, 221, .inl zs)), (ad 3, .inl (cI, 1768, .inl sd)), (ad 4, .inl (cI, 80, .inl tx)), (ad 5, .inl (cI, 8, .inl ds)), (ad 6, .inl (cI, 8, .inl rg))]) H → va_D A ([(ad 0, .inr (5, [.int th, .ref (ad 1), .ref (ad 2), .ref (ad 3), .int sv, .ref (ad 4), .int ln, .int vs, .ref (ad 5), .ref (ad 6), .int rl, .int cm, .int fi, .int se])), (ad 1, .inl (cI, 221, .inl (rlZ z t i))), (ad 2, .inl (cI, 221, .inl zs)), (ad 3, .inl (cI, 1768, .inl sd)), (ad 4, .inl (cI, 80, .inl tx)), (ad 5, .inl (cI, 8, .inl ds)), (ad 6, .inl (cI, 8, .inl rg))]) → va_S A s.heap H locs → ∀ ls : Array Slot, lv_has ls 3 [(0, .ref (ad 0)), (1, .int (nI t)), (2, .int (nI i))] → W p l e rX5_release s m args below meth c H locs 0 0 Q (F0 m 2 ls []) := by
    intro N2
    induction N2 with
    | zero => intro i hi hN; exact absurd hN (Nat.not_lt_zero _)
    | succ N2 ih2 =>
      intro i hi hN H locs hP hD hS ls hl
      refine lv_iload_n hx hb dX5_release_2 rfl (lv_at hl 2 rfl) ?_
      refine lv_bipush (v := (nI 10)) hx hb dX5_release_3 (by decide) ?_
      refine lv_icmp_ge (tgt := 21) hx hb dX5_release_5 (by decide) (fun h_1 => ?_) (fun h_1 => ?_)
      · have h_1 := (nI_leI (a := 10) (b := i) (by first | omega | exact bits_lt31 _ | exact bitN_lt _ _ | exact bool_lt _ | exact and_lt31 _ _ _ _ | exact Nat.lt_of_le_of_lt (dst_lt _ _ _ (by omega) _) (by decide) | exact Nat.lt_of_le_of_lt (nrB_le _ _ _ (by omega)).2 (by decide) | decide) (by first | omega | exact bits_lt31 _ | exact bitN_lt _ _ | exact bool_lt _ | exact and_lt31 _ _ _ _ | exact Nat.lt_of_le_of_lt (dst_lt _ _ _ (by omega) _) (by decide) | exact Nat.lt_of_le_of_lt (nrB_le _ _ _ (by omega)).2 (by decide) | decide)).mp h_1
        exact ret_v (u := ()) hQ hx hb hrt hlk hS dX5_release_21 (by rw [show i = 10 by omega] at hP; exact hP) trivial
      · have h_1 := mt (nI_leI (a := 10) (b := i) (by first | omega | exact bits_lt31 _ | exact bitN_lt _ _ | exact bool_lt _ | exact and_lt31 _ _ _ _ | exact Nat.lt_of_le_of_lt (dst_lt _ _ _ (by omega) _) (by decide) | exact Nat.lt_of_le_of_lt (nrB_le _ _ _ (by omega)).2 (by decide) | decide) (by first | omega | exact bits_lt31 _ | exact bitN_lt _ _ | exact bool_lt _ | exact and_lt31 _ _ _ _ | exact Nat.lt_of_le_of_lt (dst_lt _ _ _ (by omega) _) (by decide) | exact Nat.lt_of_le_of_lt (nrB_le _ _ _ (by omega)).2 (by decide) | decide)).mpr h_1
        refine lv_aload_n hx hb dX5_release_8 rfl (lv_at hl 0 rfl) ?_
        refine lv_iload_n hx hb dX5_release_9 rfl (lv_at hl 1 rfl) ?_
        refine lv_iload_n hx hb dX5_release_10 rfl (lv_at hl 2 rfl) ?_
        refine lv_iconst (v := (nI 0)) hx hb dX5_release_11 (by decide) ?_
        refine call_v (X := []) (Z := []) (As := [.int (nI t), .int (nI i), .int (nI 0)]) (rest := []) ⟨hx, hb, hml, hown, hts⟩ (c_X5_setLock l D cI cT ad th sv ln vs rl cm fi se (rlZ z t i) zs sd tx ds rg t i (nI 0) (by omega)) (cwV 3 hts gX5_release_X5_setLock rfl rfl rfl (by decide +kernel) ⟨Nat.le_of_ble_eq_true rfl, Nat.le_of_ble_eq_true rfl⟩) hK hP hD hS hA (va_recv hK hP (ci := 5) (q0 := 0) rfl rfl) (fun _ => adr_ref.trans adr_ref.symm) rfl hl.1 rfl (Nat.le_of_ble_eq_true rfl) ⟨by decide, by decide⟩ dX5_release_12 (fun _ H locs hp hP hD hS => ?_)
        have hP : va_P D vwCl ([(ad 0, .inr (5, [.int th, .ref (ad 1), .ref (ad 2), .ref (ad 3), .int sv, .ref (ad 4), .int ln, .int vs, .ref (ad 5), .ref (ad 6), .int rl, .int cm, .int fi, .int se])), (ad 1, .inl (cI, 221, .inl (upd (rlZ z t i) (48 + 10 * t + i) (nI 0)))), (ad 2, .inl (cI, 221, .inl zs)), (ad 3, .inl (cI, 1768, .inl sd)), (ad 4, .inl (cI, 80, .inl tx)), (ad 5, .inl (cI, 8, .inl ds)), (ad 6, .inl (cI, 8, .inl rg))]) H := hP
        have hD : va_D A ([(ad 0, .inr (5, [.int th, .ref (ad 1), .ref (ad 2), .ref (ad 3), .int sv, .ref (ad 4), .int ln, .int vs, .ref (ad 5), .ref (ad 6), .int rl, .int cm, .int fi, .int se])), (ad 1, .inl (cI, 221, .inl (upd (rlZ z t i) (48 + 10 * t + i) (nI 0)))), (ad 2, .inl (cI, 221, .inl zs)), (ad 3, .inl (cI, 1768, .inl sd)), (ad 4, .inl (cI, 80, .inl tx)), (ad 5, .inl (cI, 8, .inl ds)), (ad 6, .inl (cI, 8, .inl rg))]) := hD
        refine lv_iinc (v := (nI (i + 1))) (lv' := [(2, .int (nI (i + 1))), (0, .ref (ad 0)), (1, .int (nI t))]) hx hb dX5_release_15 hl (k := 2) rfl (nI_add _ 1) (by decide) rfl (fun ls hl => ?_)
        refine lv_goto (tgt := 2) hx hb dX5_release_18 (by decide) ?_
        exact ih2 (i + 1) (by omega) (by omega) _ _ (by rw [← rlZ_s]; exact hP) (by rw [← rlZ_s]; exact hD) hS _ (lv_sub hl [1, 2, 0] rfl)
  exact L2 _ 0 (Nat.zero_le _) (Nat.lt_succ_self _) _ _ (by rw [rlZ_0]; exact hP) (by rw [rlZ_0]; exact hD) hS _ (lv_sub hl [1, 2, 0] rfl)

abbrev rX5_end : Room := { frames := 1, cells := 0, slots := 0, locals := 23 }
set_option maxHeartbeats 1000000 in
set_option maxRecDepth 100000 in
theorem c_X5_end (l : Launch) (D : va_G) (cI cT : ClassId) (ad : Nat → Nat) (th sv ln vs rl cm fi se : Int32) (z zs sd tx ds rg : Nat → Int32) (t : Nat) (ht : t < 8) : CV l D cI cT yX5_end wsX5_end rX5_end [.ref (ad 0), .int (nI t)] (refW cI ad th sv ln vs rl cm fi se z zs sd tx ds rg) (S := Unit) (fun _ => True) (fun _ => refW cI ad th sv ln vs rl cm fi se (edZ z t) zs sd tx ds rg) := by
  refine CV.of (cc := cX5_end) (maxL := 3) (ret := none) (by decide) rfl (Nat.le_of_ble_eq_true rfl) ?_
  intro p e s m args below meth c A Q hQ B hA H locs hP hK hD hS ls hl
  obtain ⟨hx, hb, hml, hrt, hts, hown, hlk⟩ := B
  have hP : va_P D vwCl ([(ad 0, .inr (5, [.int th, .ref (ad 1), .ref (ad 2), .ref (ad 3), .int sv, .ref (ad 4), .int ln, .int vs, .ref (ad 5), .ref (ad 6), .int rl, .int cm, .int fi, .int se])), (ad 1, .inl (cI, 221, .inl z)), (ad 2, .inl (cI, 221, .inl zs)), (ad 3, .inl (cI, 1768, .inl sd)), (ad 4, .inl (cI, 80, .inl tx)), (ad 5, .inl (cI, 8, .inl ds)), (ad 6, .inl (cI, 8, .inl rg))]) H := hP
  have hD : va_D A ([(ad 0, .inr (5, [.int th, .ref (ad 1), .ref (ad 2), .ref (ad 3), .int sv, .ref (ad 4), .int ln, .int vs, .ref (ad 5), .ref (ad 6), .int rl, .int cm, .int fi, .int se])), (ad 1, .inl (cI, 221, .inl z)), (ad 2, .inl (cI, 221, .inl zs)), (ad 3, .inl (cI, 1768, .inl sd)), (ad 4, .inl (cI, 80, .inl tx)), (ad 5, .inl (cI, 8, .inl ds)), (ad 6, .inl (cI, 8, .inl rg))]) := hD
  have hl : lv_has ls 3 [(0, .ref (ad 0)), (1, .int (nI t))] := hl
  refine lv_iconst (v := (nI 0)) hx hb dX5_end_0 (by decide) ?_
  refine lv_istore_n (lv' := [(2, .int (nI 0)), (0, .ref (ad 0)), (1, .int (nI t))]) hx hb dX5_end_1 rfl hl (by decide) rfl (fun ls hl => ?_)
  have L2 : ∀ (N : Nat) (i : Nat), (i ≤ 6) → (6 - i) < N → ∀ (H : Heap) (locs : List Loc), va_P D vwCl ([(ad 0, .inr (5, [.int th, .ref (ad 1), .ref (ad 2), .ref (ad 3), .int sv, .ref (ad 4), .int ln, .int vs, .ref (ad 5), .ref (ad 6), .int rl, .int cm, .int fi, .int se])), (ad 1, .inl (cI, 221, .inl (enZ z t i))), (ad 2, .inl (cI, 221, .inl zs)), (ad 3, .inl (cI, 1768, .inl sd)), (ad 4, .inl (cI, 80, .inl tx)), (ad 5, .inl (cI, 8, .inl ds)), (ad 6, .inl (cI, 8, .inl rg))]) H → va_D A ([(ad 0, .inr (5, [.int th, .ref (ad 1), .ref (ad 2), .ref (ad 3), .int sv, .ref (ad 4), .int ln, .int vs, .ref (ad 5), .ref (ad 6), .int rl, .int cm, .int fi, .int se])), (ad 1, .inl (cI, 221, .inl (enZ z t i))), (ad 2, .inl (cI, 221, .inl zs)), (ad 3, .inl (cI, 1768, .inl sd)), (ad 4, .inl (cI, 80, .inl tx)), (ad 5, .inl (cI, 8, .inl ds)), (ad 6, .inl (cI, 8, .inl rg))]) → va_S A s.heap H locs → ∀ ls : Array Slot, lv_has ls 3 [(0, .ref (ad 0)), (1, .int (nI t)), (2, .int (nI i))] → W p l e rX5_end s m args below meth c H locs 0 0 Q (F0 m 2 ls []) := by
    intro N2
    induction N2 with
    | zero => intro i hi hN; exact absurd hN (Nat.not_lt_zero _)
    | succ N2 ih2 =>
      intro i hi hN H locs hP hD hS ls hl
      refine lv_iload_n hx hb dX5_end_2 rfl (lv_at hl 2 rfl) ?_
      refine lv_iconst (v := (nI 5)) hx hb dX5_end_3 (by decide) ?_
      refine lv_icmp_gt (tgt := 20) hx hb dX5_end_4 (by decide) (fun h_1 => ?_) (fun h_1 => ?_)
      · have h_1 := (nI_ltI (a := 5) (b := i) (by first | omega | exact bits_lt31 _ | exact bitN_lt _ _ | exact bool_lt _ | exact and_lt31 _ _ _ _ | exact Nat.lt_of_le_of_lt (dst_lt _ _ _ (by omega) _) (by decide) | exact Nat.lt_of_le_of_lt (nrB_le _ _ _ (by omega)).2 (by decide) | decide) (by first | omega | exact bits_lt31 _ | exact bitN_lt _ _ | exact bool_lt _ | exact and_lt31 _ _ _ _ | exact Nat.lt_of_le_of_lt (dst_lt _ _ _ (by omega) _) (by decide) | exact Nat.lt_of_le_of_lt (nrB_le _ _ _ (by omega)).2 (by decide) | decide)).mp h_1
        have hi6 : i = 6 := by omega
        rw [hi6] at hP hD
        have hP : va_P D vwCl ([(ad 0, .inr (5, [.int th, .ref (ad 1), .ref (ad 2), .ref (ad 3), .int sv, .ref (ad 4), .int ln, .int vs, .ref (ad 5), .ref (ad 6), .int rl, .int cm, .int fi, .int se])), (ad 1, .inl (cI, 221, .inl (enZ z t 6))), (ad 2, .inl (cI, 221, .inl zs)), (ad 3, .inl (cI, 1768, .inl sd)), (ad 4, .inl (cI, 80, .inl tx)), (ad 5, .inl (cI, 8, .inl ds)), (ad 6, .inl (cI, 8, .inl rg))]) H := hP
        have hD : va_D A ([(ad 0, .inr (5, [.int th, .ref (ad 1), .ref (ad 2), .ref (ad 3), .int sv, .ref (ad 4), .int ln, .int vs, .ref (ad 5), .ref (ad 6), .int rl, .int cm, .int fi, .int se])), (ad 1, .inl (cI, 221, .inl (enZ z t 6))), (ad 2, .inl (cI, 221, .inl zs)), (ad 3, .inl (cI, 1768, .inl sd)), (ad 4, .inl (cI, 80, .inl tx)), (ad 5, .inl (cI, 8, .inl ds)), (ad 6, .inl (cI, 8, .inl rg))]) := hD
        refine lv_aload_n hx hb dX5_end_20 rfl (lv_at hl 0 rfl) ?_
        refine lv_iload_n hx hb dX5_end_21 rfl (lv_at hl 1 rfl) ?_
        refine lv_iconst (v := (nI 1)) hx hb dX5_end_22 (by decide) ?_
        refine lv_iconst (v := (-1)) hx hb dX5_end_23 (by decide) ?_
        refine call_v (X := []) (Z := []) (As := [.int (nI t), .int (nI 1), .int (-1)]) (rest := []) ⟨hx, hb, hml, hown, hts⟩ (c_X5_put l D cI cT ad th sv ln vs rl cm fi se (enZ z t 6) zs sd tx ds rg t 1 (-1) (by omega)) (cwV 3 hts gX5_end_X5_put rfl rfl rfl (by decide +kernel) ⟨Nat.le_of_ble_eq_true rfl, Nat.le_of_ble_eq_true rfl⟩) hK hP hD hS hA (va_recv hK hP (ci := 5) (q0 := 0) rfl rfl) (fun _ => adr_ref.trans adr_ref.symm) rfl hl.1 rfl (Nat.le_of_ble_eq_true rfl) ⟨by decide, by decide⟩ dX5_end_24 (fun _ H locs hp hP hD hS => ?_)
        have hP : va_P D vwCl ([(ad 0, .inr (5, [.int th, .ref (ad 1), .ref (ad 2), .ref (ad 3), .int sv, .ref (ad 4), .int ln, .int vs, .ref (ad 5), .ref (ad 6), .int rl, .int cm, .int fi, .int se])), (ad 1, .inl (cI, 221, .inl (upd (enZ z t 6) (6 * t + 1) (-1)))), (ad 2, .inl (cI, 221, .inl zs)), (ad 3, .inl (cI, 1768, .inl sd)), (ad 4, .inl (cI, 80, .inl tx)), (ad 5, .inl (cI, 8, .inl ds)), (ad 6, .inl (cI, 8, .inl rg))]) H := hP
        have hD : va_D A ([(ad 0, .inr (5, [.int th, .ref (ad 1), .ref (ad 2), .ref (ad 3), .int sv, .ref (ad 4), .int ln, .int vs, .ref (ad 5), .ref (ad 6), .int rl, .int cm, .int fi, .int se])), (ad 1, .inl (cI, 221, .inl (upd (enZ z t 6) (6 * t + 1) (-1)))), (ad 2, .inl (cI, 221, .inl zs)), (ad 3, .inl (cI, 1768, .inl sd)), (ad 4, .inl (cI, 80, .inl tx)), (ad 5, .inl (cI, 8, .inl ds)), (ad 6, .inl (cI, 8, .inl rg))]) := hD
        refine lv_aload_n hx hb dX5_end_27 rfl (lv_at hl 0 rfl) ?_
        refine lv_iload_n hx hb dX5_end_28 rfl (lv_at hl 1 rfl) ?_
        refine lv_iconst (v := (nI 2)) hx hb dX5_end_29 (by decide) ?_
        refine lv_iconst (v := (-1)) hx hb dX5_end_30 (by decide) ?_
        refine call_v (X := []) (Z := []) (As := [.int (nI t), .int (nI 2), .int (-1)]) (rest := []) ⟨hx, hb, hml, hown, hts⟩ (c_X5_put l D cI cT ad th sv ln vs rl cm fi se (upd (enZ z t 6) (6 * t + 1) (-1)) zs sd tx ds rg t 2 (-1) (by omega)) (cwV 3 hts gX5_end_X5_put rfl rfl rfl (by decide +kernel) ⟨Nat.le_of_ble_eq_true rfl, Nat.le_of_ble_eq_true rfl⟩) hK hP hD hS hA (va_recv hK hP (ci := 5) (q0 := 0) rfl rfl) (fun _ => adr_ref.trans adr_ref.symm) rfl hl.1 rfl (Nat.le_of_ble_eq_true rfl) ⟨by decide, by decide⟩ dX5_end_31 (fun _ H locs hp hP hD hS => ?_)
        have hP : va_P D vwCl ([(ad 0, .inr (5, [.int th, .ref (ad 1), .ref (ad 2), .ref (ad 3), .int sv, .ref (ad 4), .int ln, .int vs, .ref (ad 5), .ref (ad 6), .int rl, .int cm, .int fi, .int se])), (ad 1, .inl (cI, 221, .inl (upd (upd (enZ z t 6) (6 * t + 1) (-1)) (6 * t + 2) (-1)))), (ad 2, .inl (cI, 221, .inl zs)), (ad 3, .inl (cI, 1768, .inl sd)), (ad 4, .inl (cI, 80, .inl tx)), (ad 5, .inl (cI, 8, .inl ds)), (ad 6, .inl (cI, 8, .inl rg))]) H := hP
        have hD : va_D A ([(ad 0, .inr (5, [.int th, .ref (ad 1), .ref (ad 2), .ref (ad 3), .int sv, .ref (ad 4), .int ln, .int vs, .ref (ad 5), .ref (ad 6), .int rl, .int cm, .int fi, .int se])), (ad 1, .inl (cI, 221, .inl (upd (upd (enZ z t 6) (6 * t + 1) (-1)) (6 * t + 2) (-1)))), (ad 2, .inl (cI, 221, .inl zs)), (ad 3, .inl (cI, 1768, .inl sd)), (ad 4, .inl (cI, 80, .inl tx)), (ad 5, .inl (cI, 8, .inl ds)), (ad 6, .inl (cI, 8, .inl rg))]) := hD
        refine lv_aload_n hx hb dX5_end_34 rfl (lv_at hl 0 rfl) ?_
        refine lv_iload_n hx hb dX5_end_35 rfl (lv_at hl 1 rfl) ?_
        refine lv_iconst (v := (nI 3)) hx hb dX5_end_36 (by decide) ?_
        refine lv_iconst (v := (-1)) hx hb dX5_end_37 (by decide) ?_
        refine call_v (X := []) (Z := []) (As := [.int (nI t), .int (nI 3), .int (-1)]) (rest := []) ⟨hx, hb, hml, hown, hts⟩ (c_X5_put l D cI cT ad th sv ln vs rl cm fi se (upd (upd (enZ z t 6) (6 * t + 1) (-1)) (6 * t + 2) (-1)) zs sd tx ds rg t 3 (-1) (by omega)) (cwV 3 hts gX5_end_X5_put rfl rfl rfl (by decide +kernel) ⟨Nat.le_of_ble_eq_true rfl, Nat.le_of_ble_eq_true rfl⟩) hK hP hD hS hA (va_recv hK hP (ci := 5) (q0 := 0) rfl rfl) (fun _ => adr_ref.trans adr_ref.symm) rfl hl.1 rfl (Nat.le_of_ble_eq_true rfl) ⟨by decide, by decide⟩ dX5_end_38 (fun _ H locs hp hP hD hS => ?_)
        have hP : va_P D vwCl ([(ad 0, .inr (5, [.int th, .ref (ad 1), .ref (ad 2), .ref (ad 3), .int sv, .ref (ad 4), .int ln, .int vs, .ref (ad 5), .ref (ad 6), .int rl, .int cm, .int fi, .int se])), (ad 1, .inl (cI, 221, .inl (upd (upd (upd (enZ z t 6) (6 * t + 1) (-1)) (6 * t + 2) (-1)) (6 * t + 3) (-1)))), (ad 2, .inl (cI, 221, .inl zs)), (ad 3, .inl (cI, 1768, .inl sd)), (ad 4, .inl (cI, 80, .inl tx)), (ad 5, .inl (cI, 8, .inl ds)), (ad 6, .inl (cI, 8, .inl rg))]) H := hP
        have hD : va_D A ([(ad 0, .inr (5, [.int th, .ref (ad 1), .ref (ad 2), .ref (ad 3), .int sv, .ref (ad 4), .int ln, .int vs, .ref (ad 5), .ref (ad 6), .int rl, .int cm, .int fi, .int se])), (ad 1, .inl (cI, 221, .inl (upd (upd (upd (enZ z t 6) (6 * t + 1) (-1)) (6 * t + 2) (-1)) (6 * t + 3) (-1)))), (ad 2, .inl (cI, 221, .inl zs)), (ad 3, .inl (cI, 1768, .inl sd)), (ad 4, .inl (cI, 80, .inl tx)), (ad 5, .inl (cI, 8, .inl ds)), (ad 6, .inl (cI, 8, .inl rg))]) := hD
        refine lv_aload_n hx hb dX5_end_41 rfl (lv_at hl 0 rfl) ?_
        refine lv_iload_n hx hb dX5_end_42 rfl (lv_at hl 1 rfl) ?_
        refine lv_iconst (v := (nI 4)) hx hb dX5_end_43 (by decide) ?_
        refine lv_iconst (v := (-1)) hx hb dX5_end_44 (by decide) ?_
        refine call_v (X := []) (Z := []) (As := [.int (nI t), .int (nI 4), .int (-1)]) (rest := []) ⟨hx, hb, hml, hown, hts⟩ (c_X5_put l D cI cT ad th sv ln vs rl cm fi se (upd (upd (upd (enZ z t 6) (6 * t + 1) (-1)) (6 * t + 2) (-1)) (6 * t + 3) (-1)) zs sd tx ds rg t 4 (-1) (by omega)) (cwV 3 hts gX5_end_X5_put rfl rfl rfl (by decide +kernel) ⟨Nat.le_of_ble_eq_true rfl, Nat.le_of_ble_eq_true rfl⟩) hK hP hD hS hA (va_recv hK hP (ci := 5) (q0 := 0) rfl rfl) (fun _ => adr_ref.trans adr_ref.symm) rfl hl.1 rfl (Nat.le_of_ble_eq_true rfl) ⟨by decide, by decide⟩ dX5_end_45 (fun _ H locs hp hP hD hS => ?_)
        have hP : va_P D vwCl ([(ad 0, .inr (5, [.int th, .ref (ad 1), .ref (ad 2), .ref (ad 3), .int sv, .ref (ad 4), .int ln, .int vs, .ref (ad 5), .ref (ad 6), .int rl, .int cm, .int fi, .int se])), (ad 1, .inl (cI, 221, .inl (upd (upd (upd (upd (enZ z t 6) (6 * t + 1) (-1)) (6 * t + 2) (-1)) (6 * t + 3) (-1)) (6 * t + 4) (-1)))), (ad 2, .inl (cI, 221, .inl zs)), (ad 3, .inl (cI, 1768, .inl sd)), (ad 4, .inl (cI, 80, .inl tx)), (ad 5, .inl (cI, 8, .inl ds)), (ad 6, .inl (cI, 8, .inl rg))]) H := hP
        have hD : va_D A ([(ad 0, .inr (5, [.int th, .ref (ad 1), .ref (ad 2), .ref (ad 3), .int sv, .ref (ad 4), .int ln, .int vs, .ref (ad 5), .ref (ad 6), .int rl, .int cm, .int fi, .int se])), (ad 1, .inl (cI, 221, .inl (upd (upd (upd (upd (enZ z t 6) (6 * t + 1) (-1)) (6 * t + 2) (-1)) (6 * t + 3) (-1)) (6 * t + 4) (-1)))), (ad 2, .inl (cI, 221, .inl zs)), (ad 3, .inl (cI, 1768, .inl sd)), (ad 4, .inl (cI, 80, .inl tx)), (ad 5, .inl (cI, 8, .inl ds)), (ad 6, .inl (cI, 8, .inl rg))]) := hD
        exact ret_v (u := ()) hQ hx hb hrt hlk hS dX5_end_48 hP trivial
      · have h_1 := mt (nI_ltI (a := 5) (b := i) (by first | omega | exact bits_lt31 _ | exact bitN_lt _ _ | exact bool_lt _ | exact and_lt31 _ _ _ _ | exact Nat.lt_of_le_of_lt (dst_lt _ _ _ (by omega) _) (by decide) | exact Nat.lt_of_le_of_lt (nrB_le _ _ _ (by omega)).2 (by decide) | decide) (by first | omega | exact bits_lt31 _ | exact bitN_lt _ _ | exact bool_lt _ | exact and_lt31 _ _ _ _ | exact Nat.lt_of_le_of_lt (dst_lt _ _ _ (by omega) _) (by decide) | exact Nat.lt_of_le_of_lt (nrB_le _ _ _ (by omega)).2 (by decide) | decide)).mpr h_1
        refine lv_aload_n hx hb dX5_end_7 rfl (lv_at hl 0 rfl) ?_
        refine lv_iload_n hx hb dX5_end_8 rfl (lv_at hl 1 rfl) ?_
        refine lv_iload_n hx hb dX5_end_9 rfl (lv_at hl 2 rfl) ?_
        refine lv_iconst (v := (nI 0)) hx hb dX5_end_10 (by decide) ?_
        refine call_v (X := []) (Z := []) (As := [.int (nI t), .int (nI i), .int (nI 0)]) (rest := []) ⟨hx, hb, hml, hown, hts⟩ (c_X5_put l D cI cT ad th sv ln vs rl cm fi se (enZ z t i) zs sd tx ds rg t i (nI 0) (by omega)) (cwV 3 hts gX5_end_X5_put rfl rfl rfl (by decide +kernel) ⟨Nat.le_of_ble_eq_true rfl, Nat.le_of_ble_eq_true rfl⟩) hK hP hD hS hA (va_recv hK hP (ci := 5) (q0 := 0) rfl rfl) (fun _ => adr_ref.trans adr_ref.symm) rfl hl.1 rfl (Nat.le_of_ble_eq_true rfl) ⟨by decide, by decide⟩ dX5_end_11 (fun _ H locs hp hP hD hS => ?_)
        have hP : va_P D vwCl ([(ad 0, .inr (5, [.int th, .ref (ad 1), .ref (ad 2), .ref (ad 3), .int sv, .ref (ad 4), .int ln, .int vs, .ref (ad 5), .ref (ad 6), .int rl, .int cm, .int fi, .int se])), (ad 1, .inl (cI, 221, .inl (upd (enZ z t i) (6 * t + i) (nI 0)))), (ad 2, .inl (cI, 221, .inl zs)), (ad 3, .inl (cI, 1768, .inl sd)), (ad 4, .inl (cI, 80, .inl tx)), (ad 5, .inl (cI, 8, .inl ds)), (ad 6, .inl (cI, 8, .inl rg))]) H := hP
        have hD : va_D A ([(ad 0, .inr (5, [.int th, .ref (ad 1), .ref (ad 2), .ref (ad 3), .int sv, .ref (ad 4), .int ln, .int vs, .ref (ad 5), .ref (ad 6), .int rl, .int cm, .int fi, .int se])), (ad 1, .inl (cI, 221, .inl (upd (enZ z t i) (6 * t + i) (nI 0)))), (ad 2, .inl (cI, 221, .inl zs)), (ad 3, .inl (cI, 1768, .inl sd)), (ad 4, .inl (cI, 80, .inl tx)), (ad 5, .inl (cI, 8, .inl ds)), (ad 6, .inl (cI, 8, .inl rg))]) := hD
        refine lv_iinc (v := (nI (i + 1))) (lv' := [(2, .int (nI (i + 1))), (0, .ref (ad 0)), (1, .int (nI t))]) hx hb dX5_end_14 hl (k := 2) rfl (nI_add _ 1) (by decide) rfl (fun ls hl => ?_)
        refine lv_goto (tgt := 2) hx hb dX5_end_17 (by decide) ?_
        exact ih2 (i + 1) (by omega) (by omega) _ _ (by rw [← enZ_s]; exact hP) (by rw [← enZ_s]; exact hD) hS _ (lv_sub hl [1, 2, 0] rfl)
  exact L2 _ 0 (Nat.zero_le _) (Nat.lt_succ_self _) _ _ (by rw [enZ_0]; exact hP) (by rw [enZ_0]; exact hD) hS _ (lv_sub hl [1, 2, 0] rfl)

abbrev rX5_indexOf : Room := { frames := 1, cells := 0, slots := 0, locals := 22 }
set_option maxHeartbeats 1000000 in
set_option maxRecDepth 100000 in
theorem c_X5_indexOf (l : Launch) (D : va_G) (cI cT : ClassId) (ad : Nat → Nat) (th sv ln vs rl cm fi se : Int32) (z zs sd tx ds rg : Nat → Int32) (F : FF) (Q0 : QQ) (t r : Nat) (ht : t < 8) (hr : r < 10) (h3 : F 3 t = nI r) (hm : t ∈ Q0 r) (hZ : RZ F Q0 z) (hJ : JJ F Q0) : CN l D cI cT yX5_indexOf wsX5_indexOf rX5_indexOf [.ref (ad 0), .int (nI t)] (refW cI ad th sv ln vs rl cm fi se z zs sd tx ds rg) (S := Unit) (fun v _ => v = nI ((Q0 r).idxOf t)) (fun _ => refW cI ad th sv ln vs rl cm fi se z zs sd tx ds rg) := by
  refine CN.of (cc := cX5_indexOf) (maxL := 3) (ret := (some .int)) (by decide) rfl (Nat.le_of_ble_eq_true rfl) ?_
  intro p e s m args below meth c A Q hQ B hA H locs hP hK hD hS ls hl
  obtain ⟨hx, hb, hml, hrt, hts, hown, hlk⟩ := B
  have hP : va_P D vwCl ([(ad 0, .inr (5, [.int th, .ref (ad 1), .ref (ad 2), .ref (ad 3), .int sv, .ref (ad 4), .int ln, .int vs, .ref (ad 5), .ref (ad 6), .int rl, .int cm, .int fi, .int se])), (ad 1, .inl (cI, 221, .inl z)), (ad 2, .inl (cI, 221, .inl zs)), (ad 3, .inl (cI, 1768, .inl sd)), (ad 4, .inl (cI, 80, .inl tx)), (ad 5, .inl (cI, 8, .inl ds)), (ad 6, .inl (cI, 8, .inl rg))]) H := hP
  have hD : va_D A ([(ad 0, .inr (5, [.int th, .ref (ad 1), .ref (ad 2), .ref (ad 3), .int sv, .ref (ad 4), .int ln, .int vs, .ref (ad 5), .ref (ad 6), .int rl, .int cm, .int fi, .int se])), (ad 1, .inl (cI, 221, .inl z)), (ad 2, .inl (cI, 221, .inl zs)), (ad 3, .inl (cI, 1768, .inl sd)), (ad 4, .inl (cI, 80, .inl tx)), (ad 5, .inl (cI, 8, .inl ds)), (ad 6, .inl (cI, 8, .inl rg))]) := hD
  have hl : lv_has ls 3 [(0, .ref (ad 0)), (1, .int (nI t))] := hl
  refine lv_iconst (v := (nI 0)) hx hb dX5_indexOf_0 (by decide) ?_
  refine lv_istore_n (lv' := [(2, .int (nI 0)), (0, .ref (ad 0)), (1, .int (nI t))]) hx hb dX5_indexOf_1 rfl hl (by decide) rfl (fun ls hl => ?_)
  have L2 : ∀ (N : Nat) (i : Nat), (∀ j, j < i → (Q0 r).getD j 0 ≠ t) → (9 - i) < N → ∀ (H : Heap) (locs : List Loc), va_P D vwCl ([(ad 0, .inr (5, [.int th, .ref (ad 1), .ref (ad 2), .ref (ad 3), .int sv, .ref (ad 4), .int ln, .int vs, .ref (ad 5), .ref (ad 6), .int rl, .int cm, .int fi, .int se])), (ad 1, .inl (cI, 221, .inl z)), (ad 2, .inl (cI, 221, .inl zs)), (ad 3, .inl (cI, 1768, .inl sd)), (ad 4, .inl (cI, 80, .inl tx)), (ad 5, .inl (cI, 8, .inl ds)), (ad 6, .inl (cI, 8, .inl rg))]) H → va_D A ([(ad 0, .inr (5, [.int th, .ref (ad 1), .ref (ad 2), .ref (ad 3), .int sv, .ref (ad 4), .int ln, .int vs, .ref (ad 5), .ref (ad 6), .int rl, .int cm, .int fi, .int se])), (ad 1, .inl (cI, 221, .inl z)), (ad 2, .inl (cI, 221, .inl zs)), (ad 3, .inl (cI, 1768, .inl sd)), (ad 4, .inl (cI, 80, .inl tx)), (ad 5, .inl (cI, 8, .inl ds)), (ad 6, .inl (cI, 8, .inl rg))]) → va_S A s.heap H locs → ∀ ls : Array Slot, lv_has ls 3 [(0, .ref (ad 0)), (1, .int (nI t)), (2, .int (nI i))] → W p l e rX5_indexOf s m args below meth c H locs 0 0 Q (F0 m 2 ls []) := by
    intro N2
    induction N2 with
    | zero => intro i hb4 hN; exact absurd hN (Nat.not_lt_zero _)
    | succ N2 ih2 =>
      intro i hb4 hN H locs hP hD hS ls hl
      have hil := ix_lt hm hb4
      have hq8 := JJ_len hJ hr
      have hqq : qlen Q0 r = (Q0 r).length := rfl
      refine lv_aload_n hx hb dX5_indexOf_2 rfl (lv_at hl 0 rfl) ?_
      refine lv_aload_n hx hb dX5_indexOf_3 rfl (lv_at hl 0 rfl) ?_
      refine lv_iload_n hx hb dX5_indexOf_4 rfl (lv_at hl 1 rfl) ?_
      refine lv_iconst (v := (nI 4)) hx hb dX5_indexOf_5 (by decide) ?_
      refine call_i (X := []) (Z := []) (As := [.int (nI t), .int (nI 4)]) (rest := [.ref (ad 0)]) ⟨hx, hb, hml, hown, hts⟩ (c_X5_of l D cI cT ad th sv ln vs rl cm fi se z zs sd tx ds rg t 4 (by omega)) (cwV 2 hts gX5_indexOf_X5_of rfl rfl rfl (by decide +kernel) ⟨Nat.le_of_ble_eq_true rfl, Nat.le_of_ble_eq_true rfl⟩) hK hP hD hS hA (va_recv hK hP (ci := 5) (q0 := 0) rfl rfl) (fun _ => rfl) rfl hl.1 rfl (Nat.le_of_ble_eq_true rfl) ⟨by decide, by decide⟩ dX5_indexOf_6 (fun rv _ H locs hp hP hD hS => ?_)
      obtain rfl := hp
      have hP : va_P D vwCl ([(ad 0, .inr (5, [.int th, .ref (ad 1), .ref (ad 2), .ref (ad 3), .int sv, .ref (ad 4), .int ln, .int vs, .ref (ad 5), .ref (ad 6), .int rl, .int cm, .int fi, .int se])), (ad 1, .inl (cI, 221, .inl z)), (ad 2, .inl (cI, 221, .inl zs)), (ad 3, .inl (cI, 1768, .inl sd)), (ad 4, .inl (cI, 80, .inl tx)), (ad 5, .inl (cI, 8, .inl ds)), (ad 6, .inl (cI, 8, .inl rg))]) H := hP
      have hD : va_D A ([(ad 0, .inr (5, [.int th, .ref (ad 1), .ref (ad 2), .ref (ad 3), .int sv, .ref (ad 4), .int ln, .int vs, .ref (ad 5), .ref (ad 6), .int rl, .int cm, .int fi, .int se])), (ad 1, .inl (cI, 221, .inl z)), (ad 2, .inl (cI, 221, .inl zs)), (ad 3, .inl (cI, 1768, .inl sd)), (ad 4, .inl (cI, 80, .inl tx)), (ad 5, .inl (cI, 8, .inl ds)), (ad 6, .inl (cI, 8, .inl rg))]) := hD
      refine tpe (y := F 3 t) (RZ_4 hZ (by omega)) ?_
      refine tpe (y := (nI r)) h3 ?_
      refine lv_iload_n hx hb dX5_indexOf_9 rfl (lv_at hl 2 rfl) ?_
      refine call_i (X := []) (Z := []) (As := [.int (nI r), .int (nI i)]) (rest := []) ⟨hx, hb, hml, hown, hts⟩ (c_X5_queuedAt l D cI cT ad th sv ln vs rl cm fi se z zs sd tx ds rg r i (by omega)) (cwV 2 hts gX5_indexOf_X5_queuedAt rfl rfl rfl (by decide +kernel) ⟨Nat.le_of_ble_eq_true rfl, Nat.le_of_ble_eq_true rfl⟩) hK hP hD hS hA (va_recv hK hP (ci := 5) (q0 := 0) rfl rfl) (fun _ => rfl) rfl hl.1 rfl (Nat.le_of_ble_eq_true rfl) ⟨by decide, by decide⟩ dX5_indexOf_10 (fun rv _ H locs hp hP hD hS => ?_)
      obtain rfl := hp
      have hP : va_P D vwCl ([(ad 0, .inr (5, [.int th, .ref (ad 1), .ref (ad 2), .ref (ad 3), .int sv, .ref (ad 4), .int ln, .int vs, .ref (ad 5), .ref (ad 6), .int rl, .int cm, .int fi, .int se])), (ad 1, .inl (cI, 221, .inl z)), (ad 2, .inl (cI, 221, .inl zs)), (ad 3, .inl (cI, 1768, .inl sd)), (ad 4, .inl (cI, 80, .inl tx)), (ad 5, .inl (cI, 8, .inl ds)), (ad 6, .inl (cI, 8, .inl rg))]) H := hP
      have hD : va_D A ([(ad 0, .inr (5, [.int th, .ref (ad 1), .ref (ad 2), .ref (ad 3), .int sv, .ref (ad 4), .int ln, .int vs, .ref (ad 5), .ref (ad 6), .int rl, .int cm, .int fi, .int se])), (ad 1, .inl (cI, 221, .inl z)), (ad 2, .inl (cI, 221, .inl zs)), (ad 3, .inl (cI, 1768, .inl sd)), (ad 4, .inl (cI, 80, .inl tx)), (ad 5, .inl (cI, 8, .inl ds)), (ad 6, .inl (cI, 8, .inl rg))]) := hD
      obtain ⟨o9, ho9⟩ : ∃ z, z = (Q0 r).getD i 0 := ⟨_, rfl⟩
      have hoq := JJ_at hJ (i := i) (show r < 10 by omega) (by omega)
      rw [← ho9] at hoq
      have ho8 : o9 < 8 := (hJ.2.1 r (by omega) _ hoq).1
      have ho3 := (hJ.2.1 r (by omega) _ hoq).2
      refine tpe (y := nI o9) (by rw [ho9]; exact RZ_q hZ (by omega) (by omega)) ?_
      refine lv_iload_n hx hb dX5_indexOf_13 rfl (lv_at hl 1 rfl) ?_
      refine lv_icmp_eq (tgt := 23) hx hb dX5_indexOf_14 (by decide) (fun h_1 => ?_) (fun h_1 => ?_)
      · have h_1 := (nI_eq (a := o9) (b := t) (by first | omega | exact bits_lt31 _ | exact bitN_lt _ _ | exact bool_lt _ | exact and_lt31 _ _ _ _ | exact Nat.lt_of_le_of_lt (dst_lt _ _ _ (by omega) _) (by decide) | exact Nat.lt_of_le_of_lt (nrB_le _ _ _ (by omega)).2 (by decide) | decide) (by first | omega | exact bits_lt31 _ | exact bitN_lt _ _ | exact bool_lt _ | exact and_lt31 _ _ _ _ | exact Nat.lt_of_le_of_lt (dst_lt _ _ _ (by omega) _) (by decide) | exact Nat.lt_of_le_of_lt (nrB_le _ _ _ (by omega)).2 (by decide) | decide)).mp h_1
        refine lv_iload_n hx hb dX5_indexOf_23 rfl (lv_at hl 2 rfl) ?_
        exact ret_i (u := ()) hQ hx hb hrt hlk hS dX5_indexOf_24 hP (congrArg nI (ix_at hil (ho9.symm.trans h_1) hb4))
      · have h_1 := mt (nI_eq (a := o9) (b := t) (by first | omega | exact bits_lt31 _ | exact bitN_lt _ _ | exact bool_lt _ | exact and_lt31 _ _ _ _ | exact Nat.lt_of_le_of_lt (dst_lt _ _ _ (by omega) _) (by decide) | exact Nat.lt_of_le_of_lt (nrB_le _ _ _ (by omega)).2 (by decide) | decide) (by first | omega | exact bits_lt31 _ | exact bitN_lt _ _ | exact bool_lt _ | exact and_lt31 _ _ _ _ | exact Nat.lt_of_le_of_lt (dst_lt _ _ _ (by omega) _) (by decide) | exact Nat.lt_of_le_of_lt (nrB_le _ _ _ (by omega)).2 (by decide) | decide)).mpr h_1
        refine lv_iinc (v := (nI (i + 1))) (lv' := [(2, .int (nI (i + 1))), (0, .ref (ad 0)), (1, .int (nI t))]) hx hb dX5_indexOf_17 hl (k := 2) rfl (nI_add _ 1) (by decide) rfl (fun ls hl => ?_)
        refine lv_goto (tgt := 2) hx hb dX5_indexOf_20 (by decide) ?_
        exact ih2 (i + 1) (lt_s hb4 (fun e => h_1 (ho9.trans e))) (by omega) _ _ hP hD hS _ (lv_sub hl [1, 2, 0] rfl)
  exact L2 _ 0 (fun j hj => absurd hj (Nat.not_lt_zero _)) (Nat.lt_succ_self _) _ _ hP hD hS _ (lv_sub hl [1, 2, 0] rfl)

abbrev rX5_dequeue : Room := { frames := 2, cells := 0, slots := 0, locals := 44 }
set_option maxHeartbeats 1000000 in
set_option maxRecDepth 100000 in
theorem c_X5_dequeue (l : Launch) (D : va_G) (cI cT : ClassId) (ad : Nat → Nat) (th sv ln vs rl cm fi se : Int32) (z zs sd tx ds rg : Nat → Int32) (F : FF) (Q0 : QQ) (t r : Nat) (ht : t < 8) (hr : r < 10) (h3 : F 3 t = nI r) (hm : t ∈ Q0 r) (hZ : RZ F Q0 z) (hJ : JJ F Q0) : CV l D cI cT yX5_dequeue wsX5_dequeue rX5_dequeue [.ref (ad 0), .int (nI t)] (refW cI ad th sv ln vs rl cm fi se z zs sd tx ds rg) (S := Nat → Int32) (fun u => RZ (rmF F t) (rmQ F Q0 t) u) (fun u => refW cI ad th sv ln vs rl cm fi se u zs sd tx ds rg) := by
  refine CV.of (cc := cX5_dequeue) (maxL := 5) (ret := none) (by decide) rfl (Nat.le_of_ble_eq_true rfl) ?_
  intro p e s m args below meth c A Q hQ B hA H locs hP hK hD hS ls hl
  obtain ⟨hx, hb, hml, hrt, hts, hown, hlk⟩ := B
  have hP : va_P D vwCl ([(ad 0, .inr (5, [.int th, .ref (ad 1), .ref (ad 2), .ref (ad 3), .int sv, .ref (ad 4), .int ln, .int vs, .ref (ad 5), .ref (ad 6), .int rl, .int cm, .int fi, .int se])), (ad 1, .inl (cI, 221, .inl z)), (ad 2, .inl (cI, 221, .inl zs)), (ad 3, .inl (cI, 1768, .inl sd)), (ad 4, .inl (cI, 80, .inl tx)), (ad 5, .inl (cI, 8, .inl ds)), (ad 6, .inl (cI, 8, .inl rg))]) H := hP
  have hD : va_D A ([(ad 0, .inr (5, [.int th, .ref (ad 1), .ref (ad 2), .ref (ad 3), .int sv, .ref (ad 4), .int ln, .int vs, .ref (ad 5), .ref (ad 6), .int rl, .int cm, .int fi, .int se])), (ad 1, .inl (cI, 221, .inl z)), (ad 2, .inl (cI, 221, .inl zs)), (ad 3, .inl (cI, 1768, .inl sd)), (ad 4, .inl (cI, 80, .inl tx)), (ad 5, .inl (cI, 8, .inl ds)), (ad 6, .inl (cI, 8, .inl rg))]) := hD
  have hl : lv_has ls 5 [(0, .ref (ad 0)), (1, .int (nI t))] := hl
  have iX5 : ∀ w ∈ u_ws RX5 TX5 14, w ∈ wsX5_dequeue := by decide +kernel
  have f7 := hts (.fieldLink RX5 7 "LockManagerModel" "z" "[I") (by decide +kernel)
  refine lv_aload_n hx hb dX5_dequeue_0 rfl (lv_at hl 0 rfl) ?_
  refine lv_iload_n hx hb dX5_dequeue_1 rfl (lv_at hl 1 rfl) ?_
  refine lv_iconst (v := (nI 4)) hx hb dX5_dequeue_2 (by decide) ?_
  refine call_i (X := []) (Z := []) (As := [.int (nI t), .int (nI 4)]) (rest := []) ⟨hx, hb, hml, hown, hts⟩ (c_X5_of l D cI cT ad th sv ln vs rl cm fi se z zs sd tx ds rg t 4 (by omega)) (cwV 2 hts gX5_dequeue_X5_of rfl rfl rfl (by decide +kernel) ⟨Nat.le_of_ble_eq_true rfl, Nat.le_of_ble_eq_true rfl⟩) hK hP hD hS hA (va_recv hK hP (ci := 5) (q0 := 0) rfl rfl) (fun _ => rfl) rfl hl.1 rfl (Nat.le_of_ble_eq_true rfl) ⟨by decide, by decide⟩ dX5_dequeue_3 (fun rv _ H locs hp hP hD hS => ?_)
  obtain rfl := hp
  have hP : va_P D vwCl ([(ad 0, .inr (5, [.int th, .ref (ad 1), .ref (ad 2), .ref (ad 3), .int sv, .ref (ad 4), .int ln, .int vs, .ref (ad 5), .ref (ad 6), .int rl, .int cm, .int fi, .int se])), (ad 1, .inl (cI, 221, .inl z)), (ad 2, .inl (cI, 221, .inl zs)), (ad 3, .inl (cI, 1768, .inl sd)), (ad 4, .inl (cI, 80, .inl tx)), (ad 5, .inl (cI, 8, .inl ds)), (ad 6, .inl (cI, 8, .inl rg))]) H := hP
  have hD : va_D A ([(ad 0, .inr (5, [.int th, .ref (ad 1), .ref (ad 2), .ref (ad 3), .int sv, .ref (ad 4), .int ln, .int vs, .ref (ad 5), .ref (ad 6), .int rl, .int cm, .int fi, .int se])), (ad 1, .inl (cI, 221, .inl z)), (ad 2, .inl (cI, 221, .inl zs)), (ad 3, .inl (cI, 1768, .inl sd)), (ad 4, .inl (cI, 80, .inl tx)), (ad 5, .inl (cI, 8, .inl ds)), (ad 6, .inl (cI, 8, .inl rg))]) := hD
  refine tpe (y := F 3 t) (RZ_4 hZ (by omega)) ?_
  refine tpe (y := (nI r)) h3 ?_
  refine lv_istore_n (lv' := [(2, .int (nI r)), (0, .ref (ad 0)), (1, .int (nI t))]) hx hb dX5_dequeue_6 rfl hl (by decide) rfl (fun ls hl => ?_)
  refine lv_aload_n hx hb dX5_dequeue_7 rfl (lv_at hl 1 rfl) ?_
  refine lv_iload_n hx hb dX5_dequeue_8 rfl (lv_at hl 2 rfl) ?_
  refine call_i (X := []) (Z := []) (As := [.int (nI t)]) (rest := []) ⟨hx, hb, hml, hown, hts⟩ (c_X5_indexOf l D cI cT ad th sv ln vs rl cm fi se z zs sd tx ds rg F Q0 t r (by omega) (by omega) h3 hm hZ hJ) (cwV 1 hts gX5_dequeue_X5_indexOf rfl rfl rfl (by decide +kernel) ⟨Nat.le_of_ble_eq_true rfl, Nat.le_of_ble_eq_true rfl⟩) hK hP hD hS hA (va_recv hK hP (ci := 5) (q0 := 0) rfl rfl) (fun _ => rfl) rfl hl.1 rfl (Nat.le_of_ble_eq_true rfl) ⟨by decide, by decide⟩ dX5_dequeue_9 (fun rv _ H locs hp hP hD hS => ?_)
  obtain rfl := hp
  have hP : va_P D vwCl ([(ad 0, .inr (5, [.int th, .ref (ad 1), .ref (ad 2), .ref (ad 3), .int sv, .ref (ad 4), .int ln, .int vs, .ref (ad 5), .ref (ad 6), .int rl, .int cm, .int fi, .int se])), (ad 1, .inl (cI, 221, .inl z)), (ad 2, .inl (cI, 221, .inl zs)), (ad 3, .inl (cI, 1768, .inl sd)), (ad 4, .inl (cI, 80, .inl tx)), (ad 5, .inl (cI, 8, .inl ds)), (ad 6, .inl (cI, 8, .inl rg))]) H := hP
  have hD : va_D A ([(ad 0, .inr (5, [.int th, .ref (ad 1), .ref (ad 2), .ref (ad 3), .int sv, .ref (ad 4), .int ln, .int vs, .ref (ad 5), .ref (ad 6), .int rl, .int cm, .int fi, .int se])), (ad 1, .inl (cI, 221, .inl z)), (ad 2, .inl (cI, 221, .inl zs)), (ad 3, .inl (cI, 1768, .inl sd)), (ad 4, .inl (cI, 80, .inl tx)), (ad 5, .inl (cI, 8, .inl ds)), (ad 6, .inl (cI, 8, .inl rg))]) := hD
  refine lv_istore_n (lv' := [(3, .int (nI ((Q0 r).idxOf t))), (2, .int (nI r)), (0, .ref (ad 0)), (1, .int (nI t))]) hx hb dX5_dequeue_12 rfl hl (by decide) rfl (fun ls hl => ?_)
  have hil := List.idxOf_lt_length_of_mem hm
  have hq8 := JJ_len hJ hr
  have hqq : qlen Q0 r = (Q0 r).length := rfl
  obtain ⟨kl, hkl⟩ : ∃ k, k + 1 = qlen Q0 r := ⟨qlen Q0 r - 1, by omega⟩
  refine lv_aload_n hx hb dX5_dequeue_13 rfl (lv_at hl 2 rfl) ?_
  refine va_get (D := D) (ci := 5) (v := .ref (ad 1)) (C := RX5) (T := TX5) (N := 14) hx hb hts iX5 hown hK hP 0 rfl rfl 1 (by decide) f7 (fun _ h9 => h9) rfl dX5_dequeue_14 ?_
  refine lv_sipush (v := (nI 128)) hx hb dX5_dequeue_17 (by decide) ?_
  refine lv_bipush (v := (nI 9)) hx hb dX5_dequeue_20 (by decide) ?_
  refine lv_iload_n hx hb dX5_dequeue_22 rfl (lv_at hl 1 rfl) ?_
  refine lv_imul hx hb dX5_dequeue_23 ?_
  refine tpe (y := (nI (9 * r))) (pk_mul _ _) ?_
  refine lv_iadd hx hb dX5_dequeue_24 ?_
  refine tpe (y := (nI (128 + (9 * r)))) (nI_add _ _) ?_
  refine lv_dup2_11 hx hb dX5_dequeue_25 rfl rfl ?_
  refine r_ild (k := (128 + (9 * r))) hx hb hK hP 1 rfl (by omega) (by decide) dX5_dequeue_26 ?_
  refine lv_iconst (v := (nI 1)) hx hb dX5_dequeue_27 (by decide) ?_
  refine lv_isub hx hb dX5_dequeue_28 ?_
  refine r_ist (k := (128 + (9 * r))) hx hb hK hP hD hS 1 rfl (by omega) (by decide) dX5_dequeue_29 (fun H locs hP hD hS => ?_)
  have hP : va_P D vwCl ([(ad 0, .inr (5, [.int th, .ref (ad 1), .ref (ad 2), .ref (ad 3), .int sv, .ref (ad 4), .int ln, .int vs, .ref (ad 5), .ref (ad 6), .int rl, .int cm, .int fi, .int se])), (ad 1, .inl (cI, 221, .inl (upd z (128 + (9 * r)) ((z (128 + (9 * r))) - (nI 1))))), (ad 2, .inl (cI, 221, .inl zs)), (ad 3, .inl (cI, 1768, .inl sd)), (ad 4, .inl (cI, 80, .inl tx)), (ad 5, .inl (cI, 8, .inl ds)), (ad 6, .inl (cI, 8, .inl rg))]) H := hP
  have hD : va_D A ([(ad 0, .inr (5, [.int th, .ref (ad 1), .ref (ad 2), .ref (ad 3), .int sv, .ref (ad 4), .int ln, .int vs, .ref (ad 5), .ref (ad 6), .int rl, .int cm, .int fi, .int se])), (ad 1, .inl (cI, 221, .inl (upd z (128 + (9 * r)) ((z (128 + (9 * r))) - (nI 1))))), (ad 2, .inl (cI, 221, .inl zs)), (ad 3, .inl (cI, 1768, .inl sd)), (ad 4, .inl (cI, 80, .inl tx)), (ad 5, .inl (cI, 8, .inl ds)), (ad 6, .inl (cI, 8, .inl rg))]) := hD
  rw [show z (128 + 9 * r) - nI 1 = nI kl by rw [RZ_n hZ hr, pk_sub (by omega)]; congr 1; omega] at hP hD
  have hP : va_P D vwCl ([(ad 0, .inr (5, [.int th, .ref (ad 1), .ref (ad 2), .ref (ad 3), .int sv, .ref (ad 4), .int ln, .int vs, .ref (ad 5), .ref (ad 6), .int rl, .int cm, .int fi, .int se])), (ad 1, .inl (cI, 221, .inl (upd z (128 + 9 * r) (nI kl)))), (ad 2, .inl (cI, 221, .inl zs)), (ad 3, .inl (cI, 1768, .inl sd)), (ad 4, .inl (cI, 80, .inl tx)), (ad 5, .inl (cI, 8, .inl ds)), (ad 6, .inl (cI, 8, .inl rg))]) H := hP
  have hD : va_D A ([(ad 0, .inr (5, [.int th, .ref (ad 1), .ref (ad 2), .ref (ad 3), .int sv, .ref (ad 4), .int ln, .int vs, .ref (ad 5), .ref (ad 6), .int rl, .int cm, .int fi, .int se])), (ad 1, .inl (cI, 221, .inl (upd z (128 + 9 * r) (nI kl)))), (ad 2, .inl (cI, 221, .inl zs)), (ad 3, .inl (cI, 1768, .inl sd)), (ad 4, .inl (cI, 80, .inl tx)), (ad 5, .inl (cI, 8, .inl ds)), (ad 6, .inl (cI, 8, .inl rg))]) := hD
  refine lv_iload_n hx hb dX5_dequeue_30 rfl (lv_at hl 0 rfl) ?_
  refine lv_istore (lv' := [(4, .int (nI ((Q0 r).idxOf t))), (3, .int (nI ((Q0 r).idxOf t))), (2, .int (nI r)), (0, .ref (ad 0)), (1, .int (nI t))]) hx hb dX5_dequeue_31 hl (by decide) rfl (fun ls hl => ?_)
  have L33 : ∀ (N : Nat) (k : Nat) (y : Nat → Int32), ((Q0 r).idxOf t ≤ k) → (k ≤ kl) → (dqI (upd z (128 + 9 * r) (nI kl)) y r ((Q0 r).idxOf t) k) → (kl - k) < N → ∀ (H : Heap) (locs : List Loc), va_P D vwCl ([(ad 0, .inr (5, [.int th, .ref (ad 1), .ref (ad 2), .ref (ad 3), .int sv, .ref (ad 4), .int ln, .int vs, .ref (ad 5), .ref (ad 6), .int rl, .int cm, .int fi, .int se])), (ad 1, .inl (cI, 221, .inl y)), (ad 2, .inl (cI, 221, .inl zs)), (ad 3, .inl (cI, 1768, .inl sd)), (ad 4, .inl (cI, 80, .inl tx)), (ad 5, .inl (cI, 8, .inl ds)), (ad 6, .inl (cI, 8, .inl rg))]) H → va_D A ([(ad 0, .inr (5, [.int th, .ref (ad 1), .ref (ad 2), .ref (ad 3), .int sv, .ref (ad 4), .int ln, .int vs, .ref (ad 5), .ref (ad 6), .int rl, .int cm, .int fi, .int se])), (ad 1, .inl (cI, 221, .inl y)), (ad 2, .inl (cI, 221, .inl zs)), (ad 3, .inl (cI, 1768, .inl sd)), (ad 4, .inl (cI, 80, .inl tx)), (ad 5, .inl (cI, 8, .inl ds)), (ad 6, .inl (cI, 8, .inl rg))]) → va_S A s.heap H locs → ∀ ls : Array Slot, lv_has ls 5 [(0, .ref (ad 0)), (1, .int (nI t)), (2, .int (nI r)), (3, .int (nI ((Q0 r).idxOf t))), (4, .int (nI k))] → W p l e rX5_dequeue s m args below meth c H locs 0 0 Q (F0 m 33 ls []) := by
    intro N33
    induction N33 with
    | zero => intro k y hk1 hk2 hI hN; exact absurd hN (Nat.not_lt_zero _)
    | succ N33 ih33 =>
      intro k y hk1 hk2 hI hN H locs hP hD hS ls hl
      refine lv_iload hx hb dX5_dequeue_33 (lv_at hl 4 rfl) ?_
      refine lv_aload_n hx hb dX5_dequeue_35 rfl (lv_at hl 0 rfl) ?_
      refine lv_iload_n hx hb dX5_dequeue_36 rfl (lv_at hl 2 rfl) ?_
      refine call_i (X := []) (Z := []) (As := [.int (nI r)]) (rest := [.int (nI k)]) ⟨hx, hb, hml, hown, hts⟩ (c_X5_queueOf l D cI cT ad th sv ln vs rl cm fi se y zs sd tx ds rg r (by omega)) (cwV 1 hts gX5_dequeue_X5_queueOf rfl rfl rfl (by decide +kernel) ⟨Nat.le_of_ble_eq_true rfl, Nat.le_of_ble_eq_true rfl⟩) hK hP hD hS hA (va_recv hK hP (ci := 5) (q0 := 0) rfl rfl) (fun _ => rfl) rfl hl.1 rfl (Nat.le_of_ble_eq_true rfl) ⟨by decide, by decide⟩ dX5_dequeue_37 (fun rv _ H locs hp hP hD hS => ?_)
      obtain rfl := hp
      have hP : va_P D vwCl ([(ad 0, .inr (5, [.int th, .ref (ad 1), .ref (ad 2), .ref (ad 3), .int sv, .ref (ad 4), .int ln, .int vs, .ref (ad 5), .ref (ad 6), .int rl, .int cm, .int fi, .int se])), (ad 1, .inl (cI, 221, .inl y)), (ad 2, .inl (cI, 221, .inl zs)), (ad 3, .inl (cI, 1768, .inl sd)), (ad 4, .inl (cI, 80, .inl tx)), (ad 5, .inl (cI, 8, .inl ds)), (ad 6, .inl (cI, 8, .inl rg))]) H := hP
      have hD : va_D A ([(ad 0, .inr (5, [.int th, .ref (ad 1), .ref (ad 2), .ref (ad 3), .int sv, .ref (ad 4), .int ln, .int vs, .ref (ad 5), .ref (ad 6), .int rl, .int cm, .int fi, .int se])), (ad 1, .inl (cI, 221, .inl y)), (ad 2, .inl (cI, 221, .inl zs)), (ad 3, .inl (cI, 1768, .inl sd)), (ad 4, .inl (cI, 80, .inl tx)), (ad 5, .inl (cI, 8, .inl ds)), (ad 6, .inl (cI, 8, .inl rg))]) := hD
      refine tpe (y := nI kl) (by rw [hI]; rw [if_neg (by omega)]; exact pk_us) ?_
      refine lv_icmp_ge (tgt := 85) hx hb dX5_dequeue_40 (by decide) (fun h_1 => ?_) (fun h_1 => ?_)
      · have h_1 := (nI_leI (a := kl) (b := k) (by first | omega | exact bits_lt31 _ | exact bitN_lt _ _ | exact bool_lt _ | exact and_lt31 _ _ _ _ | exact Nat.lt_of_le_of_lt (dst_lt _ _ _ (by omega) _) (by decide) | exact Nat.lt_of_le_of_lt (nrB_le _ _ _ (by omega)).2 (by decide) | decide) (by first | omega | exact bits_lt31 _ | exact bitN_lt _ _ | exact bool_lt _ | exact and_lt31 _ _ _ _ | exact Nat.lt_of_le_of_lt (dst_lt _ _ _ (by omega) _) (by decide) | exact Nat.lt_of_le_of_lt (nrB_le _ _ _ (by omega)).2 (by decide) | decide)).mp h_1
        refine lv_aload_n hx hb dX5_dequeue_85 rfl (lv_at hl 0 rfl) ?_
        refine lv_iload_n hx hb dX5_dequeue_86 rfl (lv_at hl 1 rfl) ?_
        refine lv_iconst (v := (nI 0)) hx hb dX5_dequeue_87 (by decide) ?_
        refine lv_iconst (v := (nI 1)) hx hb dX5_dequeue_88 (by decide) ?_
        refine call_v (X := []) (Z := []) (As := [.int (nI t), .int (nI 0), .int (nI 1)]) (rest := []) ⟨hx, hb, hml, hown, hts⟩ (c_X5_put l D cI cT ad th sv ln vs rl cm fi se y zs sd tx ds rg t 0 (nI 1) (by omega)) (cwV 3 hts gX5_dequeue_X5_put rfl rfl rfl (by decide +kernel) ⟨Nat.le_of_ble_eq_true rfl, Nat.le_of_ble_eq_true rfl⟩) hK hP hD hS hA (va_recv hK hP (ci := 5) (q0 := 0) rfl rfl) (fun _ => adr_ref.trans adr_ref.symm) rfl hl.1 rfl (Nat.le_of_ble_eq_true rfl) ⟨by decide, by decide⟩ dX5_dequeue_89 (fun _ H locs hp hP hD hS => ?_)
        have hP : va_P D vwCl ([(ad 0, .inr (5, [.int th, .ref (ad 1), .ref (ad 2), .ref (ad 3), .int sv, .ref (ad 4), .int ln, .int vs, .ref (ad 5), .ref (ad 6), .int rl, .int cm, .int fi, .int se])), (ad 1, .inl (cI, 221, .inl (upd y (6 * t + 0) (nI 1)))), (ad 2, .inl (cI, 221, .inl zs)), (ad 3, .inl (cI, 1768, .inl sd)), (ad 4, .inl (cI, 80, .inl tx)), (ad 5, .inl (cI, 8, .inl ds)), (ad 6, .inl (cI, 8, .inl rg))]) H := hP
        have hD : va_D A ([(ad 0, .inr (5, [.int th, .ref (ad 1), .ref (ad 2), .ref (ad 3), .int sv, .ref (ad 4), .int ln, .int vs, .ref (ad 5), .ref (ad 6), .int rl, .int cm, .int fi, .int se])), (ad 1, .inl (cI, 221, .inl (upd y (6 * t + 0) (nI 1)))), (ad 2, .inl (cI, 221, .inl zs)), (ad 3, .inl (cI, 1768, .inl sd)), (ad 4, .inl (cI, 80, .inl tx)), (ad 5, .inl (cI, 8, .inl ds)), (ad 6, .inl (cI, 8, .inl rg))]) := hD
        refine lv_aload_n hx hb dX5_dequeue_92 rfl (lv_at hl 0 rfl) ?_
        refine lv_iload_n hx hb dX5_dequeue_93 rfl (lv_at hl 1 rfl) ?_
        refine lv_iconst (v := (nI 4)) hx hb dX5_dequeue_94 (by decide) ?_
        refine lv_iconst (v := (-1)) hx hb dX5_dequeue_95 (by decide) ?_
        refine call_v (X := []) (Z := []) (As := [.int (nI t), .int (nI 4), .int (-1)]) (rest := []) ⟨hx, hb, hml, hown, hts⟩ (c_X5_put l D cI cT ad th sv ln vs rl cm fi se (upd y (6 * t + 0) (nI 1)) zs sd tx ds rg t 4 (-1) (by omega)) (cwV 3 hts gX5_dequeue_X5_put rfl rfl rfl (by decide +kernel) ⟨Nat.le_of_ble_eq_true rfl, Nat.le_of_ble_eq_true rfl⟩) hK hP hD hS hA (va_recv hK hP (ci := 5) (q0 := 0) rfl rfl) (fun _ => adr_ref.trans adr_ref.symm) rfl hl.1 rfl (Nat.le_of_ble_eq_true rfl) ⟨by decide, by decide⟩ dX5_dequeue_96 (fun _ H locs hp hP hD hS => ?_)
        have hP : va_P D vwCl ([(ad 0, .inr (5, [.int th, .ref (ad 1), .ref (ad 2), .ref (ad 3), .int sv, .ref (ad 4), .int ln, .int vs, .ref (ad 5), .ref (ad 6), .int rl, .int cm, .int fi, .int se])), (ad 1, .inl (cI, 221, .inl (upd (upd y (6 * t + 0) (nI 1)) (6 * t + 4) (-1)))), (ad 2, .inl (cI, 221, .inl zs)), (ad 3, .inl (cI, 1768, .inl sd)), (ad 4, .inl (cI, 80, .inl tx)), (ad 5, .inl (cI, 8, .inl ds)), (ad 6, .inl (cI, 8, .inl rg))]) H := hP
        have hD : va_D A ([(ad 0, .inr (5, [.int th, .ref (ad 1), .ref (ad 2), .ref (ad 3), .int sv, .ref (ad 4), .int ln, .int vs, .ref (ad 5), .ref (ad 6), .int rl, .int cm, .int fi, .int se])), (ad 1, .inl (cI, 221, .inl (upd (upd y (6 * t + 0) (nI 1)) (6 * t + 4) (-1)))), (ad 2, .inl (cI, 221, .inl zs)), (ad 3, .inl (cI, 1768, .inl sd)), (ad 4, .inl (cI, 80, .inl tx)), (ad 5, .inl (cI, 8, .inl ds)), (ad 6, .inl (cI, 8, .inl rg))]) := hD
        refine lv_aload_n hx hb dX5_dequeue_99 rfl (lv_at hl 0 rfl) ?_
        refine lv_iload_n hx hb dX5_dequeue_100 rfl (lv_at hl 1 rfl) ?_
        refine lv_iconst (v := (nI 5)) hx hb dX5_dequeue_101 (by decide) ?_
        refine lv_iconst (v := (nI 0)) hx hb dX5_dequeue_102 (by decide) ?_
        refine call_v (X := []) (Z := []) (As := [.int (nI t), .int (nI 5), .int (nI 0)]) (rest := []) ⟨hx, hb, hml, hown, hts⟩ (c_X5_put l D cI cT ad th sv ln vs rl cm fi se (upd (upd y (6 * t + 0) (nI 1)) (6 * t + 4) (-1)) zs sd tx ds rg t 5 (nI 0) (by omega)) (cwV 3 hts gX5_dequeue_X5_put rfl rfl rfl (by decide +kernel) ⟨Nat.le_of_ble_eq_true rfl, Nat.le_of_ble_eq_true rfl⟩) hK hP hD hS hA (va_recv hK hP (ci := 5) (q0 := 0) rfl rfl) (fun _ => adr_ref.trans adr_ref.symm) rfl hl.1 rfl (Nat.le_of_ble_eq_true rfl) ⟨by decide, by decide⟩ dX5_dequeue_103 (fun _ H locs hp hP hD hS => ?_)
        have hP : va_P D vwCl ([(ad 0, .inr (5, [.int th, .ref (ad 1), .ref (ad 2), .ref (ad 3), .int sv, .ref (ad 4), .int ln, .int vs, .ref (ad 5), .ref (ad 6), .int rl, .int cm, .int fi, .int se])), (ad 1, .inl (cI, 221, .inl (upd (upd (upd y (6 * t + 0) (nI 1)) (6 * t + 4) (-1)) (6 * t + 5) (nI 0)))), (ad 2, .inl (cI, 221, .inl zs)), (ad 3, .inl (cI, 1768, .inl sd)), (ad 4, .inl (cI, 80, .inl tx)), (ad 5, .inl (cI, 8, .inl ds)), (ad 6, .inl (cI, 8, .inl rg))]) H := hP
        have hD : va_D A ([(ad 0, .inr (5, [.int th, .ref (ad 1), .ref (ad 2), .ref (ad 3), .int sv, .ref (ad 4), .int ln, .int vs, .ref (ad 5), .ref (ad 6), .int rl, .int cm, .int fi, .int se])), (ad 1, .inl (cI, 221, .inl (upd (upd (upd y (6 * t + 0) (nI 1)) (6 * t + 4) (-1)) (6 * t + 5) (nI 0)))), (ad 2, .inl (cI, 221, .inl zs)), (ad 3, .inl (cI, 1768, .inl sd)), (ad 4, .inl (cI, 80, .inl tx)), (ad 5, .inl (cI, 8, .inl ds)), (ad 6, .inl (cI, 8, .inl rg))]) := hD
        exact ret_v (u := dqZ y t) hQ hx hb hrt hlk hS dX5_dequeue_106 hP (RZ_dq hJ hZ ht hr h3 hm hkl (by rw [show k = kl by omega] at hI; exact hI))
      · have h_1 := mt (nI_leI (a := kl) (b := k) (by first | omega | exact bits_lt31 _ | exact bitN_lt _ _ | exact bool_lt _ | exact and_lt31 _ _ _ _ | exact Nat.lt_of_le_of_lt (dst_lt _ _ _ (by omega) _) (by decide) | exact Nat.lt_of_le_of_lt (nrB_le _ _ _ (by omega)).2 (by decide) | decide) (by first | omega | exact bits_lt31 _ | exact bitN_lt _ _ | exact bool_lt _ | exact and_lt31 _ _ _ _ | exact Nat.lt_of_le_of_lt (dst_lt _ _ _ (by omega) _) (by decide) | exact Nat.lt_of_le_of_lt (nrB_le _ _ _ (by omega)).2 (by decide) | decide)).mpr h_1
        refine lv_aload_n hx hb dX5_dequeue_43 rfl (lv_at hl 0 rfl) ?_
        refine va_get (D := D) (ci := 5) (v := .ref (ad 1)) (C := RX5) (T := TX5) (N := 14) hx hb hts iX5 hown hK hP 0 rfl rfl 1 (by decide) f7 (fun _ h9 => h9) rfl dX5_dequeue_44 ?_
        refine lv_sipush (v := (nI 128)) hx hb dX5_dequeue_47 (by decide) ?_
        refine lv_bipush (v := (nI 9)) hx hb dX5_dequeue_50 (by decide) ?_
        refine lv_iload_n hx hb dX5_dequeue_52 rfl (lv_at hl 2 rfl) ?_
        refine lv_imul hx hb dX5_dequeue_53 ?_
        refine tpe (y := (nI (9 * r))) (pk_mul _ _) ?_
        refine lv_iadd hx hb dX5_dequeue_54 ?_
        refine tpe (y := (nI (128 + (9 * r)))) (nI_add _ _) ?_
        refine lv_iconst (v := (nI 1)) hx hb dX5_dequeue_55 (by decide) ?_
        refine lv_iadd hx hb dX5_dequeue_56 ?_
        refine tpe (y := (nI (128 + (9 * r) + 1))) (nI_add _ _) ?_
        refine lv_iload hx hb dX5_dequeue_57 (lv_at hl 4 rfl) ?_
        refine lv_iadd hx hb dX5_dequeue_59 ?_
        refine tpe (y := (nI (128 + (9 * r) + 1 + k))) (nI_add _ _) ?_
        refine lv_aload_n hx hb dX5_dequeue_60 rfl (lv_at hl 0 rfl) ?_
        refine va_get (D := D) (ci := 5) (v := .ref (ad 1)) (C := RX5) (T := TX5) (N := 14) hx hb hts iX5 hown hK hP 0 rfl rfl 1 (by decide) f7 (fun _ h9 => h9) rfl dX5_dequeue_61 ?_
        refine lv_sipush (v := (nI 128)) hx hb dX5_dequeue_64 (by decide) ?_
        refine lv_bipush (v := (nI 9)) hx hb dX5_dequeue_67 (by decide) ?_
        refine lv_iload_n hx hb dX5_dequeue_69 rfl (lv_at hl 2 rfl) ?_
        refine lv_imul hx hb dX5_dequeue_70 ?_
        refine tpe (y := (nI (9 * r))) (pk_mul _ _) ?_
        refine lv_iadd hx hb dX5_dequeue_71 ?_
        refine tpe (y := (nI (128 + (9 * r)))) (nI_add _ _) ?_
        refine lv_iconst (v := (nI 2)) hx hb dX5_dequeue_72 (by decide) ?_
        refine lv_iadd hx hb dX5_dequeue_73 ?_
        refine tpe (y := (nI (128 + (9 * r) + 2))) (nI_add _ _) ?_
        refine lv_iload hx hb dX5_dequeue_74 (lv_at hl 4 rfl) ?_
        refine lv_iadd hx hb dX5_dequeue_76 ?_
        refine tpe (y := (nI (128 + (9 * r) + 2 + k))) (nI_add _ _) ?_
        refine r_ild (k := (128 + (9 * r) + 2 + k)) hx hb hK hP 1 rfl (by omega) (by decide) dX5_dequeue_77 ?_
        refine r_ist (k := (128 + (9 * r) + 1 + k)) hx hb hK hP hD hS 1 rfl (by omega) (by decide) dX5_dequeue_78 (fun H locs hP hD hS => ?_)
        have hP : va_P D vwCl ([(ad 0, .inr (5, [.int th, .ref (ad 1), .ref (ad 2), .ref (ad 3), .int sv, .ref (ad 4), .int ln, .int vs, .ref (ad 5), .ref (ad 6), .int rl, .int cm, .int fi, .int se])), (ad 1, .inl (cI, 221, .inl (upd y (128 + (9 * r) + 1 + k) (y (128 + (9 * r) + 2 + k))))), (ad 2, .inl (cI, 221, .inl zs)), (ad 3, .inl (cI, 1768, .inl sd)), (ad 4, .inl (cI, 80, .inl tx)), (ad 5, .inl (cI, 8, .inl ds)), (ad 6, .inl (cI, 8, .inl rg))]) H := hP
        have hD : va_D A ([(ad 0, .inr (5, [.int th, .ref (ad 1), .ref (ad 2), .ref (ad 3), .int sv, .ref (ad 4), .int ln, .int vs, .ref (ad 5), .ref (ad 6), .int rl, .int cm, .int fi, .int se])), (ad 1, .inl (cI, 221, .inl (upd y (128 + (9 * r) + 1 + k) (y (128 + (9 * r) + 2 + k))))), (ad 2, .inl (cI, 221, .inl zs)), (ad 3, .inl (cI, 1768, .inl sd)), (ad 4, .inl (cI, 80, .inl tx)), (ad 5, .inl (cI, 8, .inl ds)), (ad 6, .inl (cI, 8, .inl rg))]) := hD
        refine lv_iinc (v := (nI (k + 1))) (lv' := [(4, .int (nI (k + 1))), (0, .ref (ad 0)), (1, .int (nI t)), (2, .int (nI r)), (3, .int (nI ((Q0 r).idxOf t)))]) hx hb dX5_dequeue_79 hl (k := 4) rfl (nI_add _ 1) (by decide) rfl (fun ls hl => ?_)
        refine lv_goto (tgt := 33) hx hb dX5_dequeue_82 (by decide) ?_
        exact ih33 (k + 1) (upd y (128 + (9 * r) + 1 + k) (y (128 + (9 * r) + 2 + k))) (by omega) (by omega) (dqI_s hI hk1) (by omega) _ _ hP hD hS _ (lv_sub hl [1, 2, 3, 4, 0] rfl)
  exact L33 _ ((Q0 r).idxOf t) (upd z (128 + 9 * r) (nI kl)) (Nat.le_refl _) (by omega) dqI_0 (Nat.lt_succ_self _) _ _ hP hD hS _ (lv_sub hl [3, 4, 2, 1, 0] rfl)

abbrev rX5_enqueue : Room := { frames := 1, cells := 0, slots := 0, locals := 23 }
set_option maxHeartbeats 1000000 in
set_option maxRecDepth 100000 in
theorem c_X5_enqueue (l : Launch) (D : va_G) (cI cT : ClassId) (ad : Nat → Nat) (th sv ln vs rl cm fi se : Int32) (z zs sd tx ds rg : Nat → Int32) (F : FF) (Q0 : QQ) (t r : Nat) (mo : Int32) (n9 : Nat) (ht : t < 8) (hr : r < 10) (h0 : ¬ F 0 t = -1) (hn : n9 ≤ qlen Q0 r) (h8 : qlen Q0 r < 8) (hZ : RZ F Q0 z) (hJ : JJ F Q0) : CV l D cI cT yX5_enqueue wsX5_enqueue rX5_enqueue [.ref (ad 0), .int (nI t), .int (nI r), .int mo, .int (nI n9)] (refW cI ad th sv ln vs rl cm fi se z zs sd tx ds rg) (S := Nat → Int32) (fun u => RZ (up (up F 3 t (nI r)) 4 t mo) (updQ Q0 r (insQ (Q0 r) n9 t)) u) (fun u => refW cI ad th sv ln vs rl cm fi se u zs sd tx ds rg) := by
  refine CV.of (cc := cX5_enqueue) (maxL := 6) (ret := none) (by decide) rfl (Nat.le_of_ble_eq_true rfl) ?_
  intro p e s m args below meth c A Q hQ B hA H locs hP hK hD hS ls hl
  obtain ⟨hx, hb, hml, hrt, hts, hown, hlk⟩ := B
  have hP : va_P D vwCl ([(ad 0, .inr (5, [.int th, .ref (ad 1), .ref (ad 2), .ref (ad 3), .int sv, .ref (ad 4), .int ln, .int vs, .ref (ad 5), .ref (ad 6), .int rl, .int cm, .int fi, .int se])), (ad 1, .inl (cI, 221, .inl z)), (ad 2, .inl (cI, 221, .inl zs)), (ad 3, .inl (cI, 1768, .inl sd)), (ad 4, .inl (cI, 80, .inl tx)), (ad 5, .inl (cI, 8, .inl ds)), (ad 6, .inl (cI, 8, .inl rg))]) H := hP
  have hD : va_D A ([(ad 0, .inr (5, [.int th, .ref (ad 1), .ref (ad 2), .ref (ad 3), .int sv, .ref (ad 4), .int ln, .int vs, .ref (ad 5), .ref (ad 6), .int rl, .int cm, .int fi, .int se])), (ad 1, .inl (cI, 221, .inl z)), (ad 2, .inl (cI, 221, .inl zs)), (ad 3, .inl (cI, 1768, .inl sd)), (ad 4, .inl (cI, 80, .inl tx)), (ad 5, .inl (cI, 8, .inl ds)), (ad 6, .inl (cI, 8, .inl rg))]) := hD
  have hl : lv_has ls 6 [(0, .ref (ad 0)), (1, .int (nI t)), (2, .int (nI r)), (3, .int mo), (4, .int (nI n9))] := hl
  have iX5 : ∀ w ∈ u_ws RX5 TX5 14, w ∈ wsX5_enqueue := by decide +kernel
  have f7 := hts (.fieldLink RX5 7 "LockManagerModel" "z" "[I") (by decide +kernel)
  refine lv_aload_n hx hb dX5_enqueue_0 rfl (lv_at hl 0 rfl) ?_
  refine lv_iload_n hx hb dX5_enqueue_1 rfl (lv_at hl 2 rfl) ?_
  refine call_i (X := []) (Z := []) (As := [.int (nI r)]) (rest := []) ⟨hx, hb, hml, hown, hts⟩ (c_X5_queueOf l D cI cT ad th sv ln vs rl cm fi se z zs sd tx ds rg r (by omega)) (cwV 1 hts gX5_enqueue_X5_queueOf rfl rfl rfl (by decide +kernel) ⟨Nat.le_of_ble_eq_true rfl, Nat.le_of_ble_eq_true rfl⟩) hK hP hD hS hA (va_recv hK hP (ci := 5) (q0 := 0) rfl rfl) (fun _ => rfl) rfl hl.1 rfl (Nat.le_of_ble_eq_true rfl) ⟨by decide, by decide⟩ dX5_enqueue_2 (fun rv _ H locs hp hP hD hS => ?_)
  obtain rfl := hp
  have hP : va_P D vwCl ([(ad 0, .inr (5, [.int th, .ref (ad 1), .ref (ad 2), .ref (ad 3), .int sv, .ref (ad 4), .int ln, .int vs, .ref (ad 5), .ref (ad 6), .int rl, .int cm, .int fi, .int se])), (ad 1, .inl (cI, 221, .inl z)), (ad 2, .inl (cI, 221, .inl zs)), (ad 3, .inl (cI, 1768, .inl sd)), (ad 4, .inl (cI, 80, .inl tx)), (ad 5, .inl (cI, 8, .inl ds)), (ad 6, .inl (cI, 8, .inl rg))]) H := hP
  have hD : va_D A ([(ad 0, .inr (5, [.int th, .ref (ad 1), .ref (ad 2), .ref (ad 3), .int sv, .ref (ad 4), .int ln, .int vs, .ref (ad 5), .ref (ad 6), .int rl, .int cm, .int fi, .int se])), (ad 1, .inl (cI, 221, .inl z)), (ad 2, .inl (cI, 221, .inl zs)), (ad 3, .inl (cI, 1768, .inl sd)), (ad 4, .inl (cI, 80, .inl tx)), (ad 5, .inl (cI, 8, .inl ds)), (ad 6, .inl (cI, 8, .inl rg))]) := hD
  have hq8 := JJ_len hJ (show r < 10 by omega)
  refine tpe (y := nI (qlen Q0 r)) (RZ_n hZ (by omega)) ?_
  refine lv_istore (lv' := [(5, .int (nI (qlen Q0 r))), (0, .ref (ad 0)), (1, .int (nI t)), (2, .int (nI r)), (3, .int mo), (4, .int (nI n9))]) hx hb dX5_enqueue_5 hl (by decide) rfl (fun ls hl => ?_)
  have L7 : ∀ (N : Nat) (k : Nat) (y : Nat → Int32), (n9 ≤ k) → (k ≤ qlen Q0 r) → (eqI z y r k (qlen Q0 r)) → (k) < N → ∀ (H : Heap) (locs : List Loc), va_P D vwCl ([(ad 0, .inr (5, [.int th, .ref (ad 1), .ref (ad 2), .ref (ad 3), .int sv, .ref (ad 4), .int ln, .int vs, .ref (ad 5), .ref (ad 6), .int rl, .int cm, .int fi, .int se])), (ad 1, .inl (cI, 221, .inl y)), (ad 2, .inl (cI, 221, .inl zs)), (ad 3, .inl (cI, 1768, .inl sd)), (ad 4, .inl (cI, 80, .inl tx)), (ad 5, .inl (cI, 8, .inl ds)), (ad 6, .inl (cI, 8, .inl rg))]) H → va_D A ([(ad 0, .inr (5, [.int th, .ref (ad 1), .ref (ad 2), .ref (ad 3), .int sv, .ref (ad 4), .int ln, .int vs, .ref (ad 5), .ref (ad 6), .int rl, .int cm, .int fi, .int se])), (ad 1, .inl (cI, 221, .inl y)), (ad 2, .inl (cI, 221, .inl zs)), (ad 3, .inl (cI, 1768, .inl sd)), (ad 4, .inl (cI, 80, .inl tx)), (ad 5, .inl (cI, 8, .inl ds)), (ad 6, .inl (cI, 8, .inl rg))]) → va_S A s.heap H locs → ∀ ls : Array Slot, lv_has ls 6 [(0, .ref (ad 0)), (1, .int (nI t)), (2, .int (nI r)), (3, .int mo), (4, .int (nI n9)), (5, .int (nI k))] → W p l e rX5_enqueue s m args below meth c H locs 0 0 Q (F0 m 7 ls []) := by
    intro N7
    induction N7 with
    | zero => intro k y hk1 hk2 hI hN; exact absurd hN (Nat.not_lt_zero _)
    | succ N7 ih7 =>
      intro k y hk1 hk2 hI hN H locs hP hD hS ls hl
      refine lv_iload hx hb dX5_enqueue_7 (lv_at hl 5 rfl) ?_
      refine lv_iload hx hb dX5_enqueue_9 (lv_at hl 4 rfl) ?_
      refine lv_icmp_le (tgt := 54) hx hb dX5_enqueue_11 (by decide) (fun h_1 => ?_) (fun h_1 => ?_)
      · have h_1 := (nI_leI (a := k) (b := n9) (by first | omega | exact bits_lt31 _ | exact bitN_lt _ _ | exact bool_lt _ | exact and_lt31 _ _ _ _ | exact Nat.lt_of_le_of_lt (dst_lt _ _ _ (by omega) _) (by decide) | exact Nat.lt_of_le_of_lt (nrB_le _ _ _ (by omega)).2 (by decide) | decide) (by first | omega | exact bits_lt31 _ | exact bitN_lt _ _ | exact bool_lt _ | exact and_lt31 _ _ _ _ | exact Nat.lt_of_le_of_lt (dst_lt _ _ _ (by omega) _) (by decide) | exact Nat.lt_of_le_of_lt (nrB_le _ _ _ (by omega)).2 (by decide) | decide)).mp h_1
        refine lv_aload_n hx hb dX5_enqueue_54 rfl (lv_at hl 0 rfl) ?_
        refine va_get (D := D) (ci := 5) (v := .ref (ad 1)) (C := RX5) (T := TX5) (N := 14) hx hb hts iX5 hown hK hP 0 rfl rfl 1 (by decide) f7 (fun _ h9 => h9) rfl dX5_enqueue_55 ?_
        refine lv_sipush (v := (nI 128)) hx hb dX5_enqueue_58 (by decide) ?_
        refine lv_bipush (v := (nI 9)) hx hb dX5_enqueue_61 (by decide) ?_
        refine lv_iload_n hx hb dX5_enqueue_63 rfl (lv_at hl 2 rfl) ?_
        refine lv_imul hx hb dX5_enqueue_64 ?_
        refine tpe (y := (nI (9 * r))) (pk_mul _ _) ?_
        refine lv_iadd hx hb dX5_enqueue_65 ?_
        refine tpe (y := (nI (128 + (9 * r)))) (nI_add _ _) ?_
        refine lv_iconst (v := (nI 1)) hx hb dX5_enqueue_66 (by decide) ?_
        refine lv_iadd hx hb dX5_enqueue_67 ?_
        refine tpe (y := (nI (128 + (9 * r) + 1))) (nI_add _ _) ?_
        refine lv_iload hx hb dX5_enqueue_68 (lv_at hl 4 rfl) ?_
        refine lv_iadd hx hb dX5_enqueue_70 ?_
        refine tpe (y := (nI (128 + (9 * r) + 1 + n9))) (nI_add _ _) ?_
        refine lv_iload_n hx hb dX5_enqueue_71 rfl (lv_at hl 1 rfl) ?_
        refine r_ist (k := (128 + (9 * r) + 1 + n9)) hx hb hK hP hD hS 1 rfl (by omega) (by decide) dX5_enqueue_72 (fun H locs hP hD hS => ?_)
        have hP : va_P D vwCl ([(ad 0, .inr (5, [.int th, .ref (ad 1), .ref (ad 2), .ref (ad 3), .int sv, .ref (ad 4), .int ln, .int vs, .ref (ad 5), .ref (ad 6), .int rl, .int cm, .int fi, .int se])), (ad 1, .inl (cI, 221, .inl (upd y (128 + (9 * r) + 1 + n9) (nI t)))), (ad 2, .inl (cI, 221, .inl zs)), (ad 3, .inl (cI, 1768, .inl sd)), (ad 4, .inl (cI, 80, .inl tx)), (ad 5, .inl (cI, 8, .inl ds)), (ad 6, .inl (cI, 8, .inl rg))]) H := hP
        have hD : va_D A ([(ad 0, .inr (5, [.int th, .ref (ad 1), .ref (ad 2), .ref (ad 3), .int sv, .ref (ad 4), .int ln, .int vs, .ref (ad 5), .ref (ad 6), .int rl, .int cm, .int fi, .int se])), (ad 1, .inl (cI, 221, .inl (upd y (128 + (9 * r) + 1 + n9) (nI t)))), (ad 2, .inl (cI, 221, .inl zs)), (ad 3, .inl (cI, 1768, .inl sd)), (ad 4, .inl (cI, 80, .inl tx)), (ad 5, .inl (cI, 8, .inl ds)), (ad 6, .inl (cI, 8, .inl rg))]) := hD
        refine lv_aload_n hx hb dX5_enqueue_73 rfl (lv_at hl 0 rfl) ?_
        refine va_get (D := D) (ci := 5) (v := .ref (ad 1)) (C := RX5) (T := TX5) (N := 14) hx hb hts iX5 hown hK hP 0 rfl rfl 1 (by decide) f7 (fun _ h9 => h9) rfl dX5_enqueue_74 ?_
        refine lv_sipush (v := (nI 128)) hx hb dX5_enqueue_77 (by decide) ?_
        refine lv_bipush (v := (nI 9)) hx hb dX5_enqueue_80 (by decide) ?_
        refine lv_iload_n hx hb dX5_enqueue_82 rfl (lv_at hl 2 rfl) ?_
        refine lv_imul hx hb dX5_enqueue_83 ?_
        refine tpe (y := (nI (9 * r))) (pk_mul _ _) ?_
        refine lv_iadd hx hb dX5_enqueue_84 ?_
        refine tpe (y := (nI (128 + (9 * r)))) (nI_add _ _) ?_
        refine lv_dup2_11 hx hb dX5_enqueue_85 rfl rfl ?_
        refine r_ild (k := (128 + (9 * r))) hx hb hK hP 1 rfl (by omega) (by decide) dX5_enqueue_86 ?_
        refine lv_iconst (v := (nI 1)) hx hb dX5_enqueue_87 (by decide) ?_
        refine lv_iadd hx hb dX5_enqueue_88 ?_
        refine r_ist (k := (128 + (9 * r))) hx hb hK hP hD hS 1 rfl (by omega) (by decide) dX5_enqueue_89 (fun H locs hP hD hS => ?_)
        have hP : va_P D vwCl ([(ad 0, .inr (5, [.int th, .ref (ad 1), .ref (ad 2), .ref (ad 3), .int sv, .ref (ad 4), .int ln, .int vs, .ref (ad 5), .ref (ad 6), .int rl, .int cm, .int fi, .int se])), (ad 1, .inl (cI, 221, .inl (upd (upd y (128 + (9 * r) + 1 + n9) (nI t)) (128 + (9 * r)) (((upd y (128 + (9 * r) + 1 + n9) (nI t)) (128 + (9 * r))) + (nI 1))))), (ad 2, .inl (cI, 221, .inl zs)), (ad 3, .inl (cI, 1768, .inl sd)), (ad 4, .inl (cI, 80, .inl tx)), (ad 5, .inl (cI, 8, .inl ds)), (ad 6, .inl (cI, 8, .inl rg))]) H := hP
        have hD : va_D A ([(ad 0, .inr (5, [.int th, .ref (ad 1), .ref (ad 2), .ref (ad 3), .int sv, .ref (ad 4), .int ln, .int vs, .ref (ad 5), .ref (ad 6), .int rl, .int cm, .int fi, .int se])), (ad 1, .inl (cI, 221, .inl (upd (upd y (128 + (9 * r) + 1 + n9) (nI t)) (128 + (9 * r)) (((upd y (128 + (9 * r) + 1 + n9) (nI t)) (128 + (9 * r))) + (nI 1))))), (ad 2, .inl (cI, 221, .inl zs)), (ad 3, .inl (cI, 1768, .inl sd)), (ad 4, .inl (cI, 80, .inl tx)), (ad 5, .inl (cI, 8, .inl ds)), (ad 6, .inl (cI, 8, .inl rg))]) := hD
        have hI := (show k = n9 by omega) ▸ hI
        rw [show upd y (128 + 9 * r + 1 + n9) (nI t) (128 + 9 * r) + nI 1 = nI (qlen Q0 r + 1) by rw [pk_un (by omega), hI, if_neg (by omega), RZ_n hZ hr, nI_add]] at hP hD
        have hP : va_P D vwCl ([(ad 0, .inr (5, [.int th, .ref (ad 1), .ref (ad 2), .ref (ad 3), .int sv, .ref (ad 4), .int ln, .int vs, .ref (ad 5), .ref (ad 6), .int rl, .int cm, .int fi, .int se])), (ad 1, .inl (cI, 221, .inl (upd (upd y (128 + 9 * r + 1 + n9) (nI t)) (128 + 9 * r) (nI (qlen Q0 r + 1))))), (ad 2, .inl (cI, 221, .inl zs)), (ad 3, .inl (cI, 1768, .inl sd)), (ad 4, .inl (cI, 80, .inl tx)), (ad 5, .inl (cI, 8, .inl ds)), (ad 6, .inl (cI, 8, .inl rg))]) H := hP
        have hD : va_D A ([(ad 0, .inr (5, [.int th, .ref (ad 1), .ref (ad 2), .ref (ad 3), .int sv, .ref (ad 4), .int ln, .int vs, .ref (ad 5), .ref (ad 6), .int rl, .int cm, .int fi, .int se])), (ad 1, .inl (cI, 221, .inl (upd (upd y (128 + 9 * r + 1 + n9) (nI t)) (128 + 9 * r) (nI (qlen Q0 r + 1))))), (ad 2, .inl (cI, 221, .inl zs)), (ad 3, .inl (cI, 1768, .inl sd)), (ad 4, .inl (cI, 80, .inl tx)), (ad 5, .inl (cI, 8, .inl ds)), (ad 6, .inl (cI, 8, .inl rg))]) := hD
        refine lv_aload_n hx hb dX5_enqueue_90 rfl (lv_at hl 0 rfl) ?_
        refine lv_iload_n hx hb dX5_enqueue_91 rfl (lv_at hl 1 rfl) ?_
        refine lv_iconst (v := (nI 0)) hx hb dX5_enqueue_92 (by decide) ?_
        refine lv_iconst (v := (nI 2)) hx hb dX5_enqueue_93 (by decide) ?_
        refine call_v (X := []) (Z := []) (As := [.int (nI t), .int (nI 0), .int (nI 2)]) (rest := []) ⟨hx, hb, hml, hown, hts⟩ (c_X5_put l D cI cT ad th sv ln vs rl cm fi se (upd (upd y (128 + 9 * r + 1 + n9) (nI t)) (128 + 9 * r) (nI (qlen Q0 r + 1))) zs sd tx ds rg t 0 (nI 2) (by omega)) (cwV 3 hts gX5_enqueue_X5_put rfl rfl rfl (by decide +kernel) ⟨Nat.le_of_ble_eq_true rfl, Nat.le_of_ble_eq_true rfl⟩) hK hP hD hS hA (va_recv hK hP (ci := 5) (q0 := 0) rfl rfl) (fun _ => adr_ref.trans adr_ref.symm) rfl hl.1 rfl (Nat.le_of_ble_eq_true rfl) ⟨by decide, by decide⟩ dX5_enqueue_94 (fun _ H locs hp hP hD hS => ?_)
        have hP : va_P D vwCl ([(ad 0, .inr (5, [.int th, .ref (ad 1), .ref (ad 2), .ref (ad 3), .int sv, .ref (ad 4), .int ln, .int vs, .ref (ad 5), .ref (ad 6), .int rl, .int cm, .int fi, .int se])), (ad 1, .inl (cI, 221, .inl (upd (upd (upd y (128 + 9 * r + 1 + n9) (nI t)) (128 + 9 * r) (nI (qlen Q0 r + 1))) (6 * t + 0) (nI 2)))), (ad 2, .inl (cI, 221, .inl zs)), (ad 3, .inl (cI, 1768, .inl sd)), (ad 4, .inl (cI, 80, .inl tx)), (ad 5, .inl (cI, 8, .inl ds)), (ad 6, .inl (cI, 8, .inl rg))]) H := hP
        have hD : va_D A ([(ad 0, .inr (5, [.int th, .ref (ad 1), .ref (ad 2), .ref (ad 3), .int sv, .ref (ad 4), .int ln, .int vs, .ref (ad 5), .ref (ad 6), .int rl, .int cm, .int fi, .int se])), (ad 1, .inl (cI, 221, .inl (upd (upd (upd y (128 + 9 * r + 1 + n9) (nI t)) (128 + 9 * r) (nI (qlen Q0 r + 1))) (6 * t + 0) (nI 2)))), (ad 2, .inl (cI, 221, .inl zs)), (ad 3, .inl (cI, 1768, .inl sd)), (ad 4, .inl (cI, 80, .inl tx)), (ad 5, .inl (cI, 8, .inl ds)), (ad 6, .inl (cI, 8, .inl rg))]) := hD
        refine lv_aload_n hx hb dX5_enqueue_97 rfl (lv_at hl 0 rfl) ?_
        refine lv_iload_n hx hb dX5_enqueue_98 rfl (lv_at hl 1 rfl) ?_
        refine lv_iconst (v := (nI 4)) hx hb dX5_enqueue_99 (by decide) ?_
        refine lv_iload_n hx hb dX5_enqueue_100 rfl (lv_at hl 2 rfl) ?_
        refine call_v (X := []) (Z := []) (As := [.int (nI t), .int (nI 4), .int (nI r)]) (rest := []) ⟨hx, hb, hml, hown, hts⟩ (c_X5_put l D cI cT ad th sv ln vs rl cm fi se (upd (upd (upd y (128 + 9 * r + 1 + n9) (nI t)) (128 + 9 * r) (nI (qlen Q0 r + 1))) (6 * t + 0) (nI 2)) zs sd tx ds rg t 4 (nI r) (by omega)) (cwV 3 hts gX5_enqueue_X5_put rfl rfl rfl (by decide +kernel) ⟨Nat.le_of_ble_eq_true rfl, Nat.le_of_ble_eq_true rfl⟩) hK hP hD hS hA (va_recv hK hP (ci := 5) (q0 := 0) rfl rfl) (fun _ => adr_ref.trans adr_ref.symm) rfl hl.1 rfl (Nat.le_of_ble_eq_true rfl) ⟨by decide, by decide⟩ dX5_enqueue_101 (fun _ H locs hp hP hD hS => ?_)
        have hP : va_P D vwCl ([(ad 0, .inr (5, [.int th, .ref (ad 1), .ref (ad 2), .ref (ad 3), .int sv, .ref (ad 4), .int ln, .int vs, .ref (ad 5), .ref (ad 6), .int rl, .int cm, .int fi, .int se])), (ad 1, .inl (cI, 221, .inl (upd (upd (upd (upd y (128 + 9 * r + 1 + n9) (nI t)) (128 + 9 * r) (nI (qlen Q0 r + 1))) (6 * t + 0) (nI 2)) (6 * t + 4) (nI r)))), (ad 2, .inl (cI, 221, .inl zs)), (ad 3, .inl (cI, 1768, .inl sd)), (ad 4, .inl (cI, 80, .inl tx)), (ad 5, .inl (cI, 8, .inl ds)), (ad 6, .inl (cI, 8, .inl rg))]) H := hP
        have hD : va_D A ([(ad 0, .inr (5, [.int th, .ref (ad 1), .ref (ad 2), .ref (ad 3), .int sv, .ref (ad 4), .int ln, .int vs, .ref (ad 5), .ref (ad 6), .int rl, .int cm, .int fi, .int se])), (ad 1, .inl (cI, 221, .inl (upd (upd (upd (upd y (128 + 9 * r + 1 + n9) (nI t)) (128 + 9 * r) (nI (qlen Q0 r + 1))) (6 * t + 0) (nI 2)) (6 * t + 4) (nI r)))), (ad 2, .inl (cI, 221, .inl zs)), (ad 3, .inl (cI, 1768, .inl sd)), (ad 4, .inl (cI, 80, .inl tx)), (ad 5, .inl (cI, 8, .inl ds)), (ad 6, .inl (cI, 8, .inl rg))]) := hD
        refine lv_aload_n hx hb dX5_enqueue_104 rfl (lv_at hl 0 rfl) ?_
        refine lv_iload_n hx hb dX5_enqueue_105 rfl (lv_at hl 1 rfl) ?_
        refine lv_iconst (v := (nI 5)) hx hb dX5_enqueue_106 (by decide) ?_
        refine lv_iload_n hx hb dX5_enqueue_107 rfl (lv_at hl 3 rfl) ?_
        refine call_v (X := []) (Z := []) (As := [.int (nI t), .int (nI 5), .int mo]) (rest := []) ⟨hx, hb, hml, hown, hts⟩ (c_X5_put l D cI cT ad th sv ln vs rl cm fi se (upd (upd (upd (upd y (128 + 9 * r + 1 + n9) (nI t)) (128 + 9 * r) (nI (qlen Q0 r + 1))) (6 * t + 0) (nI 2)) (6 * t + 4) (nI r)) zs sd tx ds rg t 5 mo (by omega)) (cwV 3 hts gX5_enqueue_X5_put rfl rfl rfl (by decide +kernel) ⟨Nat.le_of_ble_eq_true rfl, Nat.le_of_ble_eq_true rfl⟩) hK hP hD hS hA (va_recv hK hP (ci := 5) (q0 := 0) rfl rfl) (fun _ => adr_ref.trans adr_ref.symm) rfl hl.1 rfl (Nat.le_of_ble_eq_true rfl) ⟨by decide, by decide⟩ dX5_enqueue_108 (fun _ H locs hp hP hD hS => ?_)
        have hP : va_P D vwCl ([(ad 0, .inr (5, [.int th, .ref (ad 1), .ref (ad 2), .ref (ad 3), .int sv, .ref (ad 4), .int ln, .int vs, .ref (ad 5), .ref (ad 6), .int rl, .int cm, .int fi, .int se])), (ad 1, .inl (cI, 221, .inl (upd (upd (upd (upd (upd y (128 + 9 * r + 1 + n9) (nI t)) (128 + 9 * r) (nI (qlen Q0 r + 1))) (6 * t + 0) (nI 2)) (6 * t + 4) (nI r)) (6 * t + 5) mo))), (ad 2, .inl (cI, 221, .inl zs)), (ad 3, .inl (cI, 1768, .inl sd)), (ad 4, .inl (cI, 80, .inl tx)), (ad 5, .inl (cI, 8, .inl ds)), (ad 6, .inl (cI, 8, .inl rg))]) H := hP
        have hD : va_D A ([(ad 0, .inr (5, [.int th, .ref (ad 1), .ref (ad 2), .ref (ad 3), .int sv, .ref (ad 4), .int ln, .int vs, .ref (ad 5), .ref (ad 6), .int rl, .int cm, .int fi, .int se])), (ad 1, .inl (cI, 221, .inl (upd (upd (upd (upd (upd y (128 + 9 * r + 1 + n9) (nI t)) (128 + 9 * r) (nI (qlen Q0 r + 1))) (6 * t + 0) (nI 2)) (6 * t + 4) (nI r)) (6 * t + 5) mo))), (ad 2, .inl (cI, 221, .inl zs)), (ad 3, .inl (cI, 1768, .inl sd)), (ad 4, .inl (cI, 80, .inl tx)), (ad 5, .inl (cI, 8, .inl ds)), (ad 6, .inl (cI, 8, .inl rg))]) := hD
        exact ret_v (u := eqZ y t r n9 (qlen Q0 r) mo) hQ hx hb hrt hlk hS dX5_enqueue_111 hP (RZ_eq hJ hZ ht hr h0 hn h8 hI)
      · have h_1 := mt (nI_leI (a := k) (b := n9) (by first | omega | exact bits_lt31 _ | exact bitN_lt _ _ | exact bool_lt _ | exact and_lt31 _ _ _ _ | exact Nat.lt_of_le_of_lt (dst_lt _ _ _ (by omega) _) (by decide) | exact Nat.lt_of_le_of_lt (nrB_le _ _ _ (by omega)).2 (by decide) | decide) (by first | omega | exact bits_lt31 _ | exact bitN_lt _ _ | exact bool_lt _ | exact and_lt31 _ _ _ _ | exact Nat.lt_of_le_of_lt (dst_lt _ _ _ (by omega) _) (by decide) | exact Nat.lt_of_le_of_lt (nrB_le _ _ _ (by omega)).2 (by decide) | decide)).mpr h_1
        refine lv_aload_n hx hb dX5_enqueue_14 rfl (lv_at hl 0 rfl) ?_
        refine va_get (D := D) (ci := 5) (v := .ref (ad 1)) (C := RX5) (T := TX5) (N := 14) hx hb hts iX5 hown hK hP 0 rfl rfl 1 (by decide) f7 (fun _ h9 => h9) rfl dX5_enqueue_15 ?_
        refine lv_sipush (v := (nI 128)) hx hb dX5_enqueue_18 (by decide) ?_
        refine lv_bipush (v := (nI 9)) hx hb dX5_enqueue_21 (by decide) ?_
        refine lv_iload_n hx hb dX5_enqueue_23 rfl (lv_at hl 2 rfl) ?_
        refine lv_imul hx hb dX5_enqueue_24 ?_
        refine tpe (y := (nI (9 * r))) (pk_mul _ _) ?_
        refine lv_iadd hx hb dX5_enqueue_25 ?_
        refine tpe (y := (nI (128 + (9 * r)))) (nI_add _ _) ?_
        refine lv_iconst (v := (nI 1)) hx hb dX5_enqueue_26 (by decide) ?_
        refine lv_iadd hx hb dX5_enqueue_27 ?_
        refine tpe (y := (nI (128 + (9 * r) + 1))) (nI_add _ _) ?_
        refine lv_iload hx hb dX5_enqueue_28 (lv_at hl 5 rfl) ?_
        refine lv_iadd hx hb dX5_enqueue_30 ?_
        refine tpe (y := (nI (128 + (9 * r) + 1 + k))) (nI_add _ _) ?_
        refine lv_aload_n hx hb dX5_enqueue_31 rfl (lv_at hl 0 rfl) ?_
        refine va_get (D := D) (ci := 5) (v := .ref (ad 1)) (C := RX5) (T := TX5) (N := 14) hx hb hts iX5 hown hK hP 0 rfl rfl 1 (by decide) f7 (fun _ h9 => h9) rfl dX5_enqueue_32 ?_
        refine lv_sipush (v := (nI 128)) hx hb dX5_enqueue_35 (by decide) ?_
        refine lv_bipush (v := (nI 9)) hx hb dX5_enqueue_38 (by decide) ?_
        refine lv_iload_n hx hb dX5_enqueue_40 rfl (lv_at hl 2 rfl) ?_
        refine lv_imul hx hb dX5_enqueue_41 ?_
        refine tpe (y := (nI (9 * r))) (pk_mul _ _) ?_
        refine lv_iadd hx hb dX5_enqueue_42 ?_
        refine tpe (y := (nI (128 + (9 * r)))) (nI_add _ _) ?_
        refine lv_iload hx hb dX5_enqueue_43 (lv_at hl 5 rfl) ?_
        refine lv_iadd hx hb dX5_enqueue_45 ?_
        refine tpe (y := (nI (128 + (9 * r) + k))) (nI_add _ _) ?_
        refine r_ild (k := (128 + (9 * r) + k)) hx hb hK hP 1 rfl (by omega) (by decide) dX5_enqueue_46 ?_
        refine r_ist (k := (128 + (9 * r) + 1 + k)) hx hb hK hP hD hS 1 rfl (by omega) (by decide) dX5_enqueue_47 (fun H locs hP hD hS => ?_)
        have hP : va_P D vwCl ([(ad 0, .inr (5, [.int th, .ref (ad 1), .ref (ad 2), .ref (ad 3), .int sv, .ref (ad 4), .int ln, .int vs, .ref (ad 5), .ref (ad 6), .int rl, .int cm, .int fi, .int se])), (ad 1, .inl (cI, 221, .inl (upd y (128 + (9 * r) + 1 + k) (y (128 + (9 * r) + k))))), (ad 2, .inl (cI, 221, .inl zs)), (ad 3, .inl (cI, 1768, .inl sd)), (ad 4, .inl (cI, 80, .inl tx)), (ad 5, .inl (cI, 8, .inl ds)), (ad 6, .inl (cI, 8, .inl rg))]) H := hP
        have hD : va_D A ([(ad 0, .inr (5, [.int th, .ref (ad 1), .ref (ad 2), .ref (ad 3), .int sv, .ref (ad 4), .int ln, .int vs, .ref (ad 5), .ref (ad 6), .int rl, .int cm, .int fi, .int se])), (ad 1, .inl (cI, 221, .inl (upd y (128 + (9 * r) + 1 + k) (y (128 + (9 * r) + k))))), (ad 2, .inl (cI, 221, .inl zs)), (ad 3, .inl (cI, 1768, .inl sd)), (ad 4, .inl (cI, 80, .inl tx)), (ad 5, .inl (cI, 8, .inl ds)), (ad 6, .inl (cI, 8, .inl rg))]) := hD
        refine lv_iinc (v := (nI (k - 1))) (lv' := [(5, .int (nI (k - 1))), (0, .ref (ad 0)), (1, .int (nI t)), (2, .int (nI r)), (3, .int mo), (4, .int (nI n9))]) hx hb dX5_enqueue_48 hl (k := 5) rfl (iinc_m1 (by omega)) (by decide) rfl (fun ls hl => ?_)
        refine lv_goto (tgt := 7) hx hb dX5_enqueue_51 (by decide) ?_
        exact ih7 (k - 1) (upd y (128 + (9 * r) + 1 + k) (y (128 + (9 * r) + k))) (by omega) (by omega) (eqI_s hI (by omega) hk2) (by omega) _ _ hP hD hS _ (lv_sub hl [1, 2, 3, 4, 5, 0] rfl)
  exact L7 _ (qlen Q0 r) z hn (Nat.le_refl _) eqI_0 (Nat.lt_succ_self _) _ _ hP hD hS _ (lv_sub hl [1, 2, 3, 4, 5, 0] rfl)

