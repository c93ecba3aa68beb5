theorem mixI_lt {g w : Nat → Int32} {i j : Nat} (h : j < i) : mixI g w i j = g j := if_pos h
abbrev rX5_save : Room := { frames := 0, cells := 0, slots := 0, locals := 0 }
set_option maxHeartbeats 1000000 in
set_option maxRecDepth 100000 in
theorem c_X5_save (l : Launch) (D : va_G) (cI cT : ClassId) (ad : Nat → Nat) (th sv ln vs rl cm fi se : Int32) (z zs sd tx ds rg : Nat → Int32) (F : FF) (Q0 : QQ) (HS : List (FF × QQ)) (hl8 : HS.length ≤ 8) (hHJ : ∀ q ∈ HS, JJ q.1 q.2) (hH : HZ HS sd) (hZ : RZ F Q0 z) (hJ : JJ F Q0) : CV l D cI cT yX5_save wsX5_save rX5_save [.ref (ad 0)] (refW cI ad th (nI HS.length) ln vs rl cm fi se z zs sd tx ds rg) (S := Nat → Int32) (fun u => HZ (pu F Q0 HS) u) (fun u => refW cI ad th (nI (pu F Q0 HS).length) ln vs rl cm fi se z zs u tx ds rg) := by
  refine CV.of (cc := cX5_save) (maxL := 2) (ret := none) (by decide) rfl (Nat.le_of_ble_eq_true rfl) ?_
  intro p e s m args below meth c A Q hQ B hA H locs hP hK hD hS ls hl
  obtain ⟨hx, hb, hml, hrt, hts, hown, hlk⟩ := B
  have hP : va_P D vwCl ([(ad 0, .inr (5, [.int th, .ref (ad 1), .ref (ad 2), .ref (ad 3), .int (nI HS.length), .ref (ad 4), .int ln, .int vs, .ref (ad 5), .ref (ad 6), .int rl, .int cm, .int fi, .int se])), (ad 1, .inl (cI, 221, .inl z)), (ad 2, .inl (cI, 221, .inl zs)), (ad 3, .inl (cI, 1768, .inl sd)), (ad 4, .inl (cI, 80, .inl tx)), (ad 5, .inl (cI, 8, .inl ds)), (ad 6, .inl (cI, 8, .inl rg))]) H := hP
  have hD : va_D A ([(ad 0, .inr (5, [.int th, .ref (ad 1), .ref (ad 2), .ref (ad 3), .int (nI HS.length), .ref (ad 4), .int ln, .int vs, .ref (ad 5), .ref (ad 6), .int rl, .int cm, .int fi, .int se])), (ad 1, .inl (cI, 221, .inl z)), (ad 2, .inl (cI, 221, .inl zs)), (ad 3, .inl (cI, 1768, .inl sd)), (ad 4, .inl (cI, 80, .inl tx)), (ad 5, .inl (cI, 8, .inl ds)), (ad 6, .inl (cI, 8, .inl rg))]) := hD
  have hl : lv_has ls 2 [(0, .ref (ad 0))] := hl
  have iX5 : ∀ w ∈ u_ws RX5 TX5 14, w ∈ wsX5_save := by decide +kernel
  have f48 := hts (.fieldLink RX5 48 "LockManagerModel" "saves" "I") (by decide +kernel)
  have f16 := hts (.fieldLink RX5 16 "LockManagerModel" "saved" "[I") (by decide +kernel)
  have f7 := hts (.fieldLink RX5 7 "LockManagerModel" "z" "[I") (by decide +kernel)
  refine lv_aload_n hx hb dX5_save_0 rfl (lv_at hl 0 rfl) ?_
  refine va_get (D := D) (ci := 5) (v := .int (nI HS.length)) (C := RX5) (T := TX5) (N := 14) hx hb hts iX5 hown hK hP 0 rfl rfl 4 (by decide) f48 (fun _ h9 => h9) rfl dX5_save_1 ?_
  refine lv_bipush (v := (nI 8)) hx hb dX5_save_4 (by decide) ?_
  refine lv_icmp_ne (tgt := 50) hx hb dX5_save_6 (by decide) (fun h_1 => ?_) (fun h_1 => ?_)
  · have h_1 := mt (nI_eq (a := HS.length) (b := 8) (by first | omega | exact bits_lt31 _ | exact bitN_lt _ _ | exact bool_lt _ | exact and_lt31 _ _ _ _ | exact Nat.lt_of_le_of_lt (dst_lt _ _ _ (by omega) _) (by decide) | exact Nat.lt_of_le_of_lt (nrB_le _ _ _ (by omega)).2 (by decide) | decide) (by first | omega | exact bits_lt31 _ | exact bitN_lt _ _ | exact bool_lt _ | exact and_lt31 _ _ _ _ | exact Nat.lt_of_le_of_lt (dst_lt _ _ _ (by omega) _) (by decide) | exact Nat.lt_of_le_of_lt (nrB_le _ _ _ (by omega)).2 (by decide) | decide)).mpr h_1
    refine lv_iconst (v := (nI 0)) hx hb dX5_save_50 (by decide) ?_
    refine lv_istore_n (lv' := [(1, .int (nI 0)), (0, .ref (ad 0))]) hx hb dX5_save_51 rfl hl (by decide) rfl (fun ls hl => ?_)
    have L52 : ∀ (N : Nat) (k : Nat), (k ≤ 221) → (221 - k) < N → ∀ (H : Heap) (locs : List Loc), va_P D vwCl ([(ad 0, .inr (5, [.int th, .ref (ad 1), .ref (ad 2), .ref (ad 3), .int (nI HS.length), .ref (ad 4), .int ln, .int vs, .ref (ad 5), .ref (ad 6), .int rl, .int cm, .int fi, .int se])), (ad 1, .inl (cI, 221, .inl z)), (ad 2, .inl (cI, 221, .inl zs)), (ad 3, .inl (cI, 1768, .inl (cpS z sd (221 * HS.length) k))), (ad 4, .inl (cI, 80, .inl tx)), (ad 5, .inl (cI, 8, .inl ds)), (ad 6, .inl (cI, 8, .inl rg))]) H → va_D A ([(ad 0, .inr (5, [.int th, .ref (ad 1), .ref (ad 2), .ref (ad 3), .int (nI HS.length), .ref (ad 4), .int ln, .int vs, .ref (ad 5), .ref (ad 6), .int rl, .int cm, .int fi, .int se])), (ad 1, .inl (cI, 221, .inl z)), (ad 2, .inl (cI, 221, .inl zs)), (ad 3, .inl (cI, 1768, .inl (cpS z sd (221 * HS.length) k))), (ad 4, .inl (cI, 80, .inl tx)), (ad 5, .inl (cI, 8, .inl ds)), (ad 6, .inl (cI, 8, .inl rg))]) → va_S A s.heap H locs → ∀ ls : Array Slot, lv_has ls 2 [(0, .ref (ad 0)), (1, .int (nI k))] → W p l e rX5_save s m args below meth c H locs 0 0 Q (F0 m 52 ls []) := by
      intro N52
      induction N52 with
      | zero => intro k hk hN; exact absurd hN (Nat.not_lt_zero _)
      | succ N52 ih52 =>
        intro k hk hN H locs hP hD hS ls hl
        refine lv_iload_n hx hb dX5_save_52 rfl (lv_at hl 1 rfl) ?_
        refine lv_sipush (v := (nI 221)) hx hb dX5_save_53 (by decide) ?_
        refine lv_icmp_ge (tgt := 86) hx hb dX5_save_56 (by decide) (fun h_2 => ?_) (fun h_2 => ?_)
        · have h_2 := (nI_leI (a := 221) (b := k) (by first | omega | exact bits_lt31 _ | exact bitN_lt _ _ | exact bool_lt _ | exact and_lt31 _ _ _ _ | exact Nat.lt_of_le_of_lt (dst_lt _ _ _ (by omega) _) (by decide) | exact Nat.lt_of_le_of_lt (nrB_le _ _ _ (by omega)).2 (by decide) | decide) (by first | omega | exact bits_lt31 _ | exact bitN_lt _ _ | exact bool_lt _ | exact and_lt31 _ _ _ _ | exact Nat.lt_of_le_of_lt (dst_lt _ _ _ (by omega) _) (by decide) | exact Nat.lt_of_le_of_lt (nrB_le _ _ _ (by omega)).2 (by decide) | decide)).mp h_2
          have hk2 : k = 221 := by omega
          rw [hk2] at hP hD
          have hP : va_P D vwCl ([(ad 0, .inr (5, [.int th, .ref (ad 1), .ref (ad 2), .ref (ad 3), .int (nI HS.length), .ref (ad 4), .int ln, .int vs, .ref (ad 5), .ref (ad 6), .int rl, .int cm, .int fi, .int se])), (ad 1, .inl (cI, 221, .inl z)), (ad 2, .inl (cI, 221, .inl zs)), (ad 3, .inl (cI, 1768, .inl (cpS z sd (221 * HS.length) 221))), (ad 4, .inl (cI, 80, .inl tx)), (ad 5, .inl (cI, 8, .inl ds)), (ad 6, .inl (cI, 8, .inl rg))]) H := hP
          have hD : va_D A ([(ad 0, .inr (5, [.int th, .ref (ad 1), .ref (ad 2), .ref (ad 3), .int (nI HS.length), .ref (ad 4), .int ln, .int vs, .ref (ad 5), .ref (ad 6), .int rl, .int cm, .int fi, .int se])), (ad 1, .inl (cI, 221, .inl z)), (ad 2, .inl (cI, 221, .inl zs)), (ad 3, .inl (cI, 1768, .inl (cpS z sd (221 * HS.length) 221))), (ad 4, .inl (cI, 80, .inl tx)), (ad 5, .inl (cI, 8, .inl ds)), (ad 6, .inl (cI, 8, .inl rg))]) := hD
          refine lv_aload_n hx hb dX5_save_86 rfl (lv_at hl 0 rfl) ?_
          refine lv_dup hx hb dX5_save_87 rfl ?_
          refine va_get (D := D) (ci := 5) (v := .int (nI HS.length)) (C := RX5) (T := TX5) (N := 14) hx hb hts iX5 hown hK hP 0 rfl rfl 4 (by decide) f48 (fun _ h9 => h9) rfl dX5_save_88 ?_
          refine lv_iconst (v := (nI 1)) hx hb dX5_save_91 (by decide) ?_
          refine lv_iadd hx hb dX5_save_92 ?_
          refine tpe (y := (nI (HS.length + 1))) (nI_add _ _) ?_
          refine va_put (D := D) (ci := 5) (v := .int (nI (HS.length + 1))) (ty := .int) (C := RX5) (T := TX5) (N := 14) hx hb hts iX5 tyX5 tyX5_ok nmX5 hown hK hP hD hS 0 rfl rfl 4 (by decide) f48 (fun _ h9 => h9) rfl (by decide +kernel) rfl rfl (Nat.le_of_ble_eq_true rfl) dX5_save_93 (fun H locs hP hD hS => ?_)
          have hP : va_P D vwCl ([(ad 0, .inr (5, [.int th, .ref (ad 1), .ref (ad 2), .ref (ad 3), .int (nI (HS.length + 1)), .ref (ad 4), .int ln, .int vs, .ref (ad 5), .ref (ad 6), .int rl, .int cm, .int fi, .int se])), (ad 1, .inl (cI, 221, .inl z)), (ad 2, .inl (cI, 221, .inl zs)), (ad 3, .inl (cI, 1768, .inl (cpS z sd (221 * HS.length) 221))), (ad 4, .inl (cI, 80, .inl tx)), (ad 5, .inl (cI, 8, .inl ds)), (ad 6, .inl (cI, 8, .inl rg))]) H := hP
          have hD : va_D A ([(ad 0, .inr (5, [.int th, .ref (ad 1), .ref (ad 2), .ref (ad 3), .int (nI (HS.length + 1)), .ref (ad 4), .int ln, .int vs, .ref (ad 5), .ref (ad 6), .int rl, .int cm, .int fi, .int se])), (ad 1, .inl (cI, 221, .inl z)), (ad 2, .inl (cI, 221, .inl zs)), (ad 3, .inl (cI, 1768, .inl (cpS z sd (221 * HS.length) 221))), (ad 4, .inl (cI, 80, .inl tx)), (ad 5, .inl (cI, 8, .inl ds)), (ad 6, .inl (cI, 8, .inl rg))]) := hD
          exact ret_v (u := cpS z sd (221 * HS.length) 221) hQ hx hb hrt hlk hS dX5_save_96 (by rw [pu_lt (by omega)]; exact hP) (by rw [pu_lt (by omega)]; exact HZ_push hJ hZ hHJ hH (by omega))
        · have h_2 := mt (nI_leI (a := 221) (b := k) (by first | omega | exact bits_lt31 _ | exact bitN_lt _ _ | exact bool_lt _ | exact and_lt31 _ _ _ _ | exact Nat.lt_of_le_of_lt (dst_lt _ _ _ (by omega) _) (by decide) | exact Nat.lt_of_le_of_lt (nrB_le _ _ _ (by omega)).2 (by decide) | decide) (by first | omega | exact bits_lt31 _ | exact bitN_lt _ _ | exact bool_lt _ | exact and_lt31 _ _ _ _ | exact Nat.lt_of_le_of_lt (dst_lt _ _ _ (by omega) _) (by decide) | exact Nat.lt_of_le_of_lt (nrB_le _ _ _ (by omega)).2 (by decide) | decide)).mpr h_2
          refine lv_aload_n hx hb dX5_save_59 rfl (lv_at hl 0 rfl) ?_
          refine va_get (D := D) (ci := 5) (v := .ref (ad 3)) (C := RX5) (T := TX5) (N := 14) hx hb hts iX5 hown hK hP 0 rfl rfl 3 (by decide) f16 (fun _ h9 => h9) rfl dX5_save_60 ?_
          refine lv_sipush (v := (nI 221)) hx hb dX5_save_63 (by decide) ?_
          refine lv_aload_n hx hb dX5_save_66 rfl (lv_at hl 0 rfl) ?_
          refine va_get (D := D) (ci := 5) (v := .int (nI HS.length)) (C := RX5) (T := TX5) (N := 14) hx hb hts iX5 hown hK hP 0 rfl rfl 4 (by decide) f48 (fun _ h9 => h9) rfl dX5_save_67 ?_
          refine lv_imul hx hb dX5_save_70 ?_
          refine tpe (y := (nI (221 * HS.length))) (pk_mul _ _) ?_
          refine lv_iload_n hx hb dX5_save_71 rfl (lv_at hl 1 rfl) ?_
          refine lv_iadd hx hb dX5_save_72 ?_
          refine tpe (y := (nI (221 * HS.length + k))) (nI_add _ _) ?_
          refine lv_aload_n hx hb dX5_save_73 rfl (lv_at hl 0 rfl) ?_
          refine va_get (D := D) (ci := 5) (v := .ref (ad 1)) (C := RX5) (T := TX5) (N := 14) hx hb hts iX5 hown hK hP 0 rfl rfl 1 (by decide) f7 (fun _ h9 => h9) rfl dX5_save_74 ?_
          refine lv_iload_n hx hb dX5_save_77 rfl (lv_at hl 1 rfl) ?_
          refine r_ild (k := k) hx hb hK hP 1 rfl (by omega) (by decide) dX5_save_78 ?_
          refine r_ist (k := (221 * HS.length + k)) hx hb hK hP hD hS 3 rfl (by omega) (by decide) dX5_save_79 (fun H locs hP hD hS => ?_)
          have hP : va_P D vwCl ([(ad 0, .inr (5, [.int th, .ref (ad 1), .ref (ad 2), .ref (ad 3), .int (nI HS.length), .ref (ad 4), .int ln, .int vs, .ref (ad 5), .ref (ad 6), .int rl, .int cm, .int fi, .int se])), (ad 1, .inl (cI, 221, .inl z)), (ad 2, .inl (cI, 221, .inl zs)), (ad 3, .inl (cI, 1768, .inl (upd (cpS z sd (221 * HS.length) k) (221 * HS.length + k) (z k)))), (ad 4, .inl (cI, 80, .inl tx)), (ad 5, .inl (cI, 8, .inl ds)), (ad 6, .inl (cI, 8, .inl rg))]) H := hP
          have hD : va_D A ([(ad 0, .inr (5, [.int th, .ref (ad 1), .ref (ad 2), .ref (ad 3), .int (nI HS.length), .ref (ad 4), .int ln, .int vs, .ref (ad 5), .ref (ad 6), .int rl, .int cm, .int fi, .int se])), (ad 1, .inl (cI, 221, .inl z)), (ad 2, .inl (cI, 221, .inl zs)), (ad 3, .inl (cI, 1768, .inl (upd (cpS z sd (221 * HS.length) k) (221 * HS.length + k) (z k)))), (ad 4, .inl (cI, 80, .inl tx)), (ad 5, .inl (cI, 8, .inl ds)), (ad 6, .inl (cI, 8, .inl rg))]) := hD
          refine lv_iinc (v := (nI (k + 1))) (lv' := [(1, .int (nI (k + 1))), (0, .ref (ad 0))]) hx hb dX5_save_80 hl (k := 1) rfl (nI_add _ 1) (by decide) rfl (fun ls hl => ?_)
          refine lv_goto (tgt := 52) hx hb dX5_save_83 (by decide) ?_
          exact ih52 (k + 1) (by omega) (by omega) _ _ (by rw [← cpS_s]; exact hP) (by rw [← cpS_s]; exact hD) hS _ (lv_sub hl [1, 0] rfl)
    exact L52 _ 0 (Nat.zero_le _) (Nat.lt_succ_self _) _ _ (by rw [cpS_0]; exact hP) (by rw [cpS_0]; exact hD) hS _ (lv_sub hl [1, 0] rfl)
  · have h_1 := (nI_eq (a := HS.length) (b := 8) (by first | omega | exact bits_lt31 _ | exact bitN_lt _ _ | exact bool_lt _ | exact and_lt31 _ _ _ _ | exact Nat.lt_of_le_of_lt (dst_lt _ _ _ (by omega) _) (by decide) | exact Nat.lt_of_le_of_lt (nrB_le _ _ _ (by omega)).2 (by decide) | decide) (by first | omega | exact bits_lt31 _ | exact bitN_lt _ _ | exact bool_lt _ | exact and_lt31 _ _ _ _ | exact Nat.lt_of_le_of_lt (dst_lt _ _ _ (by omega) _) (by decide) | exact Nat.lt_of_le_of_lt (nrB_le _ _ _ (by omega)).2 (by decide) | decide)).mp h_1
    refine lv_iconst (v := (nI 0)) hx hb dX5_save_9 (by decide) ?_
    refine lv_istore_n (lv' := [(1, .int (nI 0)), (0, .ref (ad 0))]) hx hb dX5_save_10 rfl hl (by decide) rfl (fun ls hl => ?_)
    have L11 : ∀ (N : Nat) (k : Nat), (k ≤ 1547) → (1547 - k) < N → ∀ (H : Heap) (locs : List Loc), va_P D vwCl ([(ad 0, .inr (5, [.int th, .ref (ad 1), .ref (ad 2), .ref (ad 3), .int (nI HS.length), .ref (ad 4), .int ln, .int vs, .ref (ad 5), .ref (ad 6), .int rl, .int cm, .int fi, .int se])), (ad 1, .inl (cI, 221, .inl z)), (ad 2, .inl (cI, 221, .inl zs)), (ad 3, .inl (cI, 1768, .inl (shS sd k))), (ad 4, .inl (cI, 80, .inl tx)), (ad 5, .inl (cI, 8, .inl ds)), (ad 6, .inl (cI, 8, .inl rg))]) H → va_D A ([(ad 0, .inr (5, [.int th, .ref (ad 1), .ref (ad 2), .ref (ad 3), .int (nI HS.length), .ref (ad 4), .int ln, .int vs, .ref (ad 5), .ref (ad 6), .int rl, .int cm, .int fi, .int se])), (ad 1, .inl (cI, 221, .inl z)), (ad 2, .inl (cI, 221, .inl zs)), (ad 3, .inl (cI, 1768, .inl (shS sd k))), (ad 4, .inl (cI, 80, .inl tx)), (ad 5, .inl (cI, 8, .inl ds)), (ad 6, .inl (cI, 8, .inl rg))]) → va_S A s.heap H locs → ∀ ls : Array Slot, lv_has ls 2 [(0, .ref (ad 0)), (1, .int (nI k))] → W p l e rX5_save s m args below meth c H locs 0 0 Q (F0 m 11 ls []) := by
      intro N11
      induction N11 with
      | zero => intro k hk hN; exact absurd hN (Nat.not_lt_zero _)
      | succ N11 ih11 =>
        intro k hk hN H locs hP hD hS ls hl
        refine lv_iload_n hx hb dX5_save_11 rfl (lv_at hl 1 rfl) ?_
        refine lv_sipush (v := (nI 1547)) hx hb dX5_save_12 (by decide) ?_
        refine lv_icmp_ge (tgt := 40) hx hb dX5_save_15 (by decide) (fun h_3 => ?_) (fun h_3 => ?_)
        · have h_3 := (nI_leI (a := 1547) (b := k) (by first | omega | exact bits_lt31 _ | exact bitN_lt _ _ | exact bool_lt _ | exact and_lt31 _ _ _ _ | exact Nat.lt_of_le_of_lt (dst_lt _ _ _ (by omega) _) (by decide) | exact Nat.lt_of_le_of_lt (nrB_le _ _ _ (by omega)).2 (by decide) | decide) (by first | omega | exact bits_lt31 _ | exact bitN_lt _ _ | exact bool_lt _ | exact and_lt31 _ _ _ _ | exact Nat.lt_of_le_of_lt (dst_lt _ _ _ (by omega) _) (by decide) | exact Nat.lt_of_le_of_lt (nrB_le _ _ _ (by omega)).2 (by decide) | decide)).mp h_3
          have hk7 : k = 1547 := by omega
          rw [hk7] at hP hD
          have hP : va_P D vwCl ([(ad 0, .inr (5, [.int th, .ref (ad 1), .ref (ad 2), .ref (ad 3), .int (nI HS.length), .ref (ad 4), .int ln, .int vs, .ref (ad 5), .ref (ad 6), .int rl, .int cm, .int fi, .int se])), (ad 1, .inl (cI, 221, .inl z)), (ad 2, .inl (cI, 221, .inl zs)), (ad 3, .inl (cI, 1768, .inl (shS sd 1547))), (ad 4, .inl (cI, 80, .inl tx)), (ad 5, .inl (cI, 8, .inl ds)), (ad 6, .inl (cI, 8, .inl rg))]) H := hP
          have hD : va_D A ([(ad 0, .inr (5, [.int th, .ref (ad 1), .ref (ad 2), .ref (ad 3), .int (nI HS.length), .ref (ad 4), .int ln, .int vs, .ref (ad 5), .ref (ad 6), .int rl, .int cm, .int fi, .int se])), (ad 1, .inl (cI, 221, .inl z)), (ad 2, .inl (cI, 221, .inl zs)), (ad 3, .inl (cI, 1768, .inl (shS sd 1547))), (ad 4, .inl (cI, 80, .inl tx)), (ad 5, .inl (cI, 8, .inl ds)), (ad 6, .inl (cI, 8, .inl rg))]) := hD
          refine lv_aload_n hx hb dX5_save_40 rfl (lv_at hl 0 rfl) ?_
          refine lv_dup hx hb dX5_save_41 rfl ?_
          refine va_get (D := D) (ci := 5) (v := .int (nI HS.length)) (C := RX5) (T := TX5) (N := 14) hx hb hts iX5 hown hK hP 0 rfl rfl 4 (by decide) f48 (fun _ h9 => h9) rfl dX5_save_42 ?_
          refine lv_iconst (v := (nI 1)) hx hb dX5_save_45 (by decide) ?_
          refine lv_isub hx hb dX5_save_46 ?_
          refine tpe (y := (nI (HS.length - 1))) (pk_sub (by omega)) ?_
          refine va_put (D := D) (ci := 5) (v := .int (nI (HS.length - 1))) (ty := .int) (C := RX5) (T := TX5) (N := 14) hx hb hts iX5 tyX5 tyX5_ok nmX5 hown hK hP hD hS 0 rfl rfl 4 (by decide) f48 (fun _ h9 => h9) rfl (by decide +kernel) rfl rfl (Nat.le_of_ble_eq_true rfl) dX5_save_47 (fun H locs hP hD hS => ?_)
          have hP : va_P D vwCl ([(ad 0, .inr (5, [.int th, .ref (ad 1), .ref (ad 2), .ref (ad 3), .int (nI (HS.length - 1)), .ref (ad 4), .int ln, .int vs, .ref (ad 5), .ref (ad 6), .int rl, .int cm, .int fi, .int se])), (ad 1, .inl (cI, 221, .inl z)), (ad 2, .inl (cI, 221, .inl zs)), (ad 3, .inl (cI, 1768, .inl (shS sd 1547))), (ad 4, .inl (cI, 80, .inl tx)), (ad 5, .inl (cI, 8, .inl ds)), (ad 6, .inl (cI, 8, .inl rg))]) H := hP
          have hD : va_D A ([(ad 0, .inr (5, [.int th, .ref (ad 1), .ref (ad 2), .ref (ad 3), .int (nI (HS.length - 1)), .ref (ad 4), .int ln, .int vs, .ref (ad 5), .ref (ad 6), .int rl, .int cm, .int fi, .int se])), (ad 1, .inl (cI, 221, .inl z)), (ad 2, .inl (cI, 221, .inl zs)), (ad 3, .inl (cI, 1768, .inl (shS sd 1547))), (ad 4, .inl (cI, 80, .inl tx)), (ad 5, .inl (cI, 8, .inl ds)), (ad 6, .inl (cI, 8, .inl rg))]) := hD
          refine lv_iconst (v := (nI 0)) hx hb dX5_save_50 (by decide) ?_
          refine lv_istore_n (lv' := [(1, .int (nI 0)), (0, .ref (ad 0))]) hx hb dX5_save_51 rfl hl (by decide) rfl (fun ls hl => ?_)
          have L52 : ∀ (N : Nat) (k : Nat), (k ≤ 221) → (221 - k) < N → ∀ (H : Heap) (locs : List Loc), va_P D vwCl ([(ad 0, .inr (5, [.int th, .ref (ad 1), .ref (ad 2), .ref (ad 3), .int (nI (HS.length - 1)), .ref (ad 4), .int ln, .int vs, .ref (ad 5), .ref (ad 6), .int rl, .int cm, .int fi, .int se])), (ad 1, .inl (cI, 221, .inl z)), (ad 2, .inl (cI, 221, .inl zs)), (ad 3, .inl (cI, 1768, .inl (cpS z (shS sd 1547) (221 * (HS.length - 1)) k))), (ad 4, .inl (cI, 80, .inl tx)), (ad 5, .inl (cI, 8, .inl ds)), (ad 6, .inl (cI, 8, .inl rg))]) H → va_D A ([(ad 0, .inr (5, [.int th, .ref (ad 1), .ref (ad 2), .ref (ad 3), .int (nI (HS.length - 1)), .ref (ad 4), .int ln, .int vs, .ref (ad 5), .ref (ad 6), .int rl, .int cm, .int fi, .int se])), (ad 1, .inl (cI, 221, .inl z)), (ad 2, .inl (cI, 221, .inl zs)), (ad 3, .inl (cI, 1768, .inl (cpS z (shS sd 1547) (221 * (HS.length - 1)) k))), (ad 4, .inl (cI, 80, .inl tx)), (ad 5, .inl (cI, 8, .inl ds)), (ad 6, .inl (cI, 8, .inl rg))]) → va_S A s.heap H locs → ∀ ls : Array Slot, lv_has ls 2 [(0, .ref (ad 0)), (1, .int (nI k))] → W p l e rX5_save s m args below meth c H locs 0 0 Q (F0 m 52 ls []) := by
            intro N52
            induction N52 with
            | zero => intro k hk hN; exact absurd hN (Nat.not_lt_zero _)
            | succ N52 ih52 =>
              intro k hk hN H locs hP hD hS ls hl
              refine lv_iload_n hx hb dX5_save_52 rfl (lv_at hl 1 rfl) ?_
              refine lv_sipush (v := (nI 221)) hx hb dX5_save_53 (by decide) ?_
              refine lv_icmp_ge (tgt := 86) hx hb dX5_save_56 (by decide) (fun h_4 => ?_) (fun h_4 => ?_)
              · have h_4 := (nI_leI (a := 221) (b := k) (by first | omega | exact bits_lt31 _ | exact bitN_lt _ _ | exact bool_lt _ | exact and_lt31 _ _ _ _ | exact Nat.lt_of_le_of_lt (dst_lt _ _ _ (by omega) _) (by decide) | exact Nat.lt_of_le_of_lt (nrB_le _ _ _ (by omega)).2 (by decide) | decide) (by first | omega | exact bits_lt31 _ | exact bitN_lt _ _ | exact bool_lt _ | exact and_lt31 _ _ _ _ | exact Nat.lt_of_le_of_lt (dst_lt _ _ _ (by omega) _) (by decide) | exact Nat.lt_of_le_of_lt (nrB_le _ _ _ (by omega)).2 (by decide) | decide)).mp h_4
                have hk2 : k = 221 := by omega
                rw [hk2] at hP hD
                have hP : va_P D vwCl ([(ad 0, .inr (5, [.int th, .ref (ad 1), .ref (ad 2), .ref (ad 3), .int (nI (HS.length - 1)), .ref (ad 4), .int ln, .int vs, .ref (ad 5), .ref (ad 6), .int rl, .int cm, .int fi, .int se])), (ad 1, .inl (cI, 221, .inl z)), (ad 2, .inl (cI, 221, .inl zs)), (ad 3, .inl (cI, 1768, .inl (cpS z (shS sd 1547) (221 * (HS.length - 1)) 221))), (ad 4, .inl (cI, 80, .inl tx)), (ad 5, .inl (cI, 8, .inl ds)), (ad 6, .inl (cI, 8, .inl rg))]) H := hP
                have hD : va_D A ([(ad 0, .inr (5, [.int th, .ref (ad 1), .ref (ad 2), .ref (ad 3), .int (nI (HS.length - 1)), .ref (ad 4), .int ln, .int vs, .ref (ad 5), .ref (ad 6), .int rl, .int cm, .int fi, .int se])), (ad 1, .inl (cI, 221, .inl z)), (ad 2, .inl (cI, 221, .inl zs)), (ad 3, .inl (cI, 1768, .inl (cpS z (shS sd 1547) (221 * (HS.length - 1)) 221))), (ad 4, .inl (cI, 80, .inl tx)), (ad 5, .inl (cI, 8, .inl ds)), (ad 6, .inl (cI, 8, .inl rg))]) := hD
                refine lv_aload_n hx hb dX5_save_86 rfl (lv_at hl 0 rfl) ?_
                refine lv_dup hx hb dX5_save_87 rfl ?_
                refine va_get (D := D) (ci := 5) (v := .int (nI (HS.length - 1))) (C := RX5) (T := TX5) (N := 14) hx hb hts iX5 hown hK hP 0 rfl rfl 4 (by decide) f48 (fun _ h9 => h9) rfl dX5_save_88 ?_
                refine lv_iconst (v := (nI 1)) hx hb dX5_save_91 (by decide) ?_
                refine lv_iadd hx hb dX5_save_92 ?_
                refine tpe (y := (nI (HS.length - 1 + 1))) (nI_add _ _) ?_
                refine va_put (D := D) (ci := 5) (v := .int (nI (HS.length - 1 + 1))) (ty := .int) (C := RX5) (T := TX5) (N := 14) hx hb hts iX5 tyX5 tyX5_ok nmX5 hown hK hP hD hS 0 rfl rfl 4 (by decide) f48 (fun _ h9 => h9) rfl (by decide +kernel) rfl rfl (Nat.le_of_ble_eq_true rfl) dX5_save_93 (fun H locs hP hD hS => ?_)
                have hP : va_P D vwCl ([(ad 0, .inr (5, [.int th, .ref (ad 1), .ref (ad 2), .ref (ad 3), .int (nI (HS.length - 1 + 1)), .ref (ad 4), .int ln, .int vs, .ref (ad 5), .ref (ad 6), .int rl, .int cm, .int fi, .int se])), (ad 1, .inl (cI, 221, .inl z)), (ad 2, .inl (cI, 221, .inl zs)), (ad 3, .inl (cI, 1768, .inl (cpS z (shS sd 1547) (221 * (HS.length - 1)) 221))), (ad 4, .inl (cI, 80, .inl tx)), (ad 5, .inl (cI, 8, .inl ds)), (ad 6, .inl (cI, 8, .inl rg))]) H := hP
                have hD : va_D A ([(ad 0, .inr (5, [.int th, .ref (ad 1), .ref (ad 2), .ref (ad 3), .int (nI (HS.length - 1 + 1)), .ref (ad 4), .int ln, .int vs, .ref (ad 5), .ref (ad 6), .int rl, .int cm, .int fi, .int se])), (ad 1, .inl (cI, 221, .inl z)), (ad 2, .inl (cI, 221, .inl zs)), (ad 3, .inl (cI, 1768, .inl (cpS z (shS sd 1547) (221 * (HS.length - 1)) 221))), (ad 4, .inl (cI, 80, .inl tx)), (ad 5, .inl (cI, 8, .inl ds)), (ad 6, .inl (cI, 8, .inl rg))]) := hD
                have hl7 : (HS.take 7).length = HS.length - 1 := by rw [List.length_take]; omega
                exact ret_v (u := cpS z (shS sd 1547) (221 * (HS.length - 1)) 221) hQ hx hb hrt hlk hS dX5_save_96 (by rw [pu_8, List.length_cons, hl7]; exact hP) (by rw [pu_8, ← hl7]; exact HZ_push hJ hZ (HJ_take hHJ) (HZ_drop hHJ hH (by omega)) (by omega))
              · have h_4 := mt (nI_leI (a := 221) (b := k) (by first | omega | exact bits_lt31 _ | exact bitN_lt _ _ | exact bool_lt _ | exact and_lt31 _ _ _ _ | exact Nat.lt_of_le_of_lt (dst_lt _ _ _ (by omega) _) (by decide) | exact Nat.lt_of_le_of_lt (nrB_le _ _ _ (by omega)).2 (by decide) | decide) (by first | omega | exact bits_lt31 _ | exact bitN_lt _ _ | exact bool_lt _ | exact and_lt31 _ _ _ _ | exact Nat.lt_of_le_of_lt (dst_lt _ _ _ (by omega) _) (by decide) | exact Nat.lt_of_le_of_lt (nrB_le _ _ _ (by omega)).2 (by decide) | decide)).mpr h_4
                refine lv_aload_n hx hb dX5_save_59 rfl (lv_at hl 0 rfl) ?_
                refine va_get (D := D) (ci := 5) (v := .ref (ad 3)) (C := RX5) (T := TX5) (N := 14) hx hb hts iX5 hown hK hP 0 rfl rfl 3 (by decide) f16 (fun _ h9 => h9) rfl dX5_save_60 ?_
                refine lv_sipush (v := (nI 221)) hx hb dX5_save_63 (by decide) ?_
                refine lv_aload_n hx hb dX5_save_66 rfl (lv_at hl 0 rfl) ?_
                refine va_get (D := D) (ci := 5) (v := .int (nI (HS.length - 1))) (C := RX5) (T := TX5) (N := 14) hx hb hts iX5 hown hK hP 0 rfl rfl 4 (by decide) f48 (fun _ h9 => h9) rfl dX5_save_67 ?_
                refine lv_imul hx hb dX5_save_70 ?_
                refine tpe (y := (nI (221 * (HS.length - 1)))) (pk_mul _ _) ?_
                refine lv_iload_n hx hb dX5_save_71 rfl (lv_at hl 1 rfl) ?_
                refine lv_iadd hx hb dX5_save_72 ?_
                refine tpe (y := (nI (221 * (HS.length - 1) + k))) (nI_add _ _) ?_
                refine lv_aload_n hx hb dX5_save_73 rfl (lv_at hl 0 rfl) ?_
                refine va_get (D := D) (ci := 5) (v := .ref (ad 1)) (C := RX5) (T := TX5) (N := 14) hx hb hts iX5 hown hK hP 0 rfl rfl 1 (by decide) f7 (fun _ h9 => h9) rfl dX5_save_74 ?_
                refine lv_iload_n hx hb dX5_save_77 rfl (lv_at hl 1 rfl) ?_
                refine r_ild (k := k) hx hb hK hP 1 rfl (by omega) (by decide) dX5_save_78 ?_
                refine r_ist (k := (221 * (HS.length - 1) + k)) hx hb hK hP hD hS 3 rfl (by omega) (by decide) dX5_save_79 (fun H locs hP hD hS => ?_)
                have hP : va_P D vwCl ([(ad 0, .inr (5, [.int th, .ref (ad 1), .ref (ad 2), .ref (ad 3), .int (nI (HS.length - 1)), .ref (ad 4), .int ln, .int vs, .ref (ad 5), .ref (ad 6), .int rl, .int cm, .int fi, .int se])), (ad 1, .inl (cI, 221, .inl z)), (ad 2, .inl (cI, 221, .inl zs)), (ad 3, .inl (cI, 1768, .inl (upd (cpS z (shS sd 1547) (221 * (HS.length - 1)) k) (221 * (HS.length - 1) + k) (z k)))), (ad 4, .inl (cI, 80, .inl tx)), (ad 5, .inl (cI, 8, .inl ds)), (ad 6, .inl (cI, 8, .inl rg))]) H := hP
                have hD : va_D A ([(ad 0, .inr (5, [.int th, .ref (ad 1), .ref (ad 2), .ref (ad 3), .int (nI (HS.length - 1)), .ref (ad 4), .int ln, .int vs, .ref (ad 5), .ref (ad 6), .int rl, .int cm, .int fi, .int se])), (ad 1, .inl (cI, 221, .inl z)), (ad 2, .inl (cI, 221, .inl zs)), (ad 3, .inl (cI, 1768, .inl (upd (cpS z (shS sd 1547) (221 * (HS.length - 1)) k) (221 * (HS.length - 1) + k) (z k)))), (ad 4, .inl (cI, 80, .inl tx)), (ad 5, .inl (cI, 8, .inl ds)), (ad 6, .inl (cI, 8, .inl rg))]) := hD
                refine lv_iinc (v := (nI (k + 1))) (lv' := [(1, .int (nI (k + 1))), (0, .ref (ad 0))]) hx hb dX5_save_80 hl (k := 1) rfl (nI_add _ 1) (by decide) rfl (fun ls hl => ?_)
                refine lv_goto (tgt := 52) hx hb dX5_save_83 (by decide) ?_
                exact ih52 (k + 1) (by omega) (by omega) _ _ (by rw [← cpS_s]; exact hP) (by rw [← cpS_s]; exact hD) hS _ (lv_sub hl [1, 0] rfl)
          exact L52 _ 0 (Nat.zero_le _) (Nat.lt_succ_self _) _ _ (by rw [cpS_0]; exact hP) (by rw [cpS_0]; exact hD) hS _ (lv_sub hl [1, 0] rfl)
        · have h_3 := mt (nI_leI (a := 1547) (b := k) (by first | omega | exact bits_lt31 _ | exact bitN_lt _ _ | exact bool_lt _ | exact and_lt31 _ _ _ _ | exact Nat.lt_of_le_of_lt (dst_lt _ _ _ (by omega) _) (by decide) | exact Nat.lt_of_le_of_lt (nrB_le _ _ _ (by omega)).2 (by decide) | decide) (by first | omega | exact bits_lt31 _ | exact bitN_lt _ _ | exact bool_lt _ | exact and_lt31 _ _ _ _ | exact Nat.lt_of_le_of_lt (dst_lt _ _ _ (by omega) _) (by decide) | exact Nat.lt_of_le_of_lt (nrB_le _ _ _ (by omega)).2 (by decide) | decide)).mpr h_3
          refine lv_aload_n hx hb dX5_save_18 rfl (lv_at hl 0 rfl) ?_
          refine va_get (D := D) (ci := 5) (v := .ref (ad 3)) (C := RX5) (T := TX5) (N := 14) hx hb hts iX5 hown hK hP 0 rfl rfl 3 (by decide) f16 (fun _ h9 => h9) rfl dX5_save_19 ?_
          refine lv_iload_n hx hb dX5_save_22 rfl (lv_at hl 1 rfl) ?_
          refine lv_aload_n hx hb dX5_save_23 rfl (lv_at hl 0 rfl) ?_
          refine va_get (D := D) (ci := 5) (v := .ref (ad 3)) (C := RX5) (T := TX5) (N := 14) hx hb hts iX5 hown hK hP 0 rfl rfl 3 (by decide) f16 (fun _ h9 => h9) rfl dX5_save_24 ?_
          refine lv_sipush (v := (nI 221)) hx hb dX5_save_27 (by decide) ?_
          refine lv_iload_n hx hb dX5_save_30 rfl (lv_at hl 1 rfl) ?_
          refine lv_iadd hx hb dX5_save_31 ?_
          refine tpe (y := (nI (221 + k))) (nI_add _ _) ?_
          refine r_ild (k := (221 + k)) hx hb hK hP 3 rfl (by omega) (by decide) dX5_save_32 ?_
          refine r_ist (k := k) hx hb hK hP hD hS 3 rfl (by omega) (by decide) dX5_save_33 (fun H locs hP hD hS => ?_)
          have hP : va_P D vwCl ([(ad 0, .inr (5, [.int th, .ref (ad 1), .ref (ad 2), .ref (ad 3), .int (nI HS.length), .ref (ad 4), .int ln, .int vs, .ref (ad 5), .ref (ad 6), .int rl, .int cm, .int fi, .int se])), (ad 1, .inl (cI, 221, .inl z)), (ad 2, .inl (cI, 221, .inl zs)), (ad 3, .inl (cI, 1768, .inl (upd (shS sd k) k ((shS sd k) (221 + k))))), (ad 4, .inl (cI, 80, .inl tx)), (ad 5, .inl (cI, 8, .inl ds)), (ad 6, .inl (cI, 8, .inl rg))]) H := hP
          have hD : va_D A ([(ad 0, .inr (5, [.int th, .ref (ad 1), .ref (ad 2), .ref (ad 3), .int (nI HS.length), .ref (ad 4), .int ln, .int vs, .ref (ad 5), .ref (ad 6), .int rl, .int cm, .int fi, .int se])), (ad 1, .inl (cI, 221, .inl z)), (ad 2, .inl (cI, 221, .inl zs)), (ad 3, .inl (cI, 1768, .inl (upd (shS sd k) k ((shS sd k) (221 + k))))), (ad 4, .inl (cI, 80, .inl tx)), (ad 5, .inl (cI, 8, .inl ds)), (ad 6, .inl (cI, 8, .inl rg))]) := hD
          refine lv_iinc (v := (nI (k + 1))) (lv' := [(1, .int (nI (k + 1))), (0, .ref (ad 0))]) hx hb dX5_save_34 hl (k := 1) rfl (nI_add _ 1) (by decide) rfl (fun ls hl => ?_)
          refine lv_goto (tgt := 11) hx hb dX5_save_37 (by decide) ?_
          exact ih11 (k + 1) (by omega) (by omega) _ _ (by rw [← shS_s]; exact hP) (by rw [← shS_s]; exact hD) hS _ (lv_sub hl [1, 0] rfl)
    exact L11 _ 0 (Nat.zero_le _) (Nat.lt_succ_self _) _ _ (by rw [shS_0]; exact hP) (by rw [shS_0]; exact hD) hS _ (lv_sub hl [1, 0] rfl)

abbrev rX5_tryRequest : Room := { frames := 7, cells := 0, slots := 0, locals := 163 }
set_option maxHeartbeats 1000000 in
set_option maxRecDepth 100000 in
theorem c_X5_tryRequest (l : Launch) (D : va_G) (cI cT : ClassId) (ad : Nat → Nat) (th sv ln vs rl cm fi se : Int32) (z zs sd tx ds rg : Nat → Int32) (F : FF) (Q0 : QQ) (t r : Nat) (mo : Int32) (ht : t < 8) (hr : r < 10) (hm : mo = nI 1 ∨ mo = nI 2) (h3 : F 3 t = -1) (h0 : ¬ F 0 t = -1) (hB : JB F) (hZ : RZ F Q0 z) (hJ : JJ F Q0) : CN l D cI cT yX5_tryRequest wsX5_tryRequest rX5_tryRequest [.ref (ad 0), .int (nI t), .int (nI r), .int mo] (refW cI ad th sv ln vs rl cm fi se z zs sd tx ds rg) (S := (Nat → Int32) × (Nat → Int32) × (Nat → Int32) × (Nat → Int32) × Int32) (fun v u => v = outI (askF F Q0 t r mo) t r mo ∧ RZ F Q0 u.1) (fun u => refW cI ad th sv ln (nI (askV F Q0 t r mo)) u.2.2.2.2 cm fi se u.1 u.2.1 sd tx u.2.2.1 u.2.2.2.1) := by
  refine CN.of (cc := cX5_tryRequest) (maxL := 6) (ret := (some .int)) (by decide) rfl (Nat.le_of_ble_eq_true rfl) ?_
  intro p e s m args below meth c A Q hQ B hA H locs hP hK hD hS ls hl
  obtain ⟨hx, hb, hml, hrt, hts, hown, hlk⟩ := B
  have hP : va_P D vwCl ([(ad 0, .inr (5, [.int th, .ref (ad 1), .ref (ad 2), .ref (ad 3), .int sv, .ref (ad 4), .int ln, .int vs, .ref (ad 5), .ref (ad 6), .int rl, .int cm, .int fi, .int se])), (ad 1, .inl (cI, 221, .inl z)), (ad 2, .inl (cI, 221, .inl zs)), (ad 3, .inl (cI, 1768, .inl sd)), (ad 4, .inl (cI, 80, .inl tx)), (ad 5, .inl (cI, 8, .inl ds)), (ad 6, .inl (cI, 8, .inl rg))]) H := hP
  have hD : va_D A ([(ad 0, .inr (5, [.int th, .ref (ad 1), .ref (ad 2), .ref (ad 3), .int sv, .ref (ad 4), .int ln, .int vs, .ref (ad 5), .ref (ad 6), .int rl, .int cm, .int fi, .int se])), (ad 1, .inl (cI, 221, .inl z)), (ad 2, .inl (cI, 221, .inl zs)), (ad 3, .inl (cI, 1768, .inl sd)), (ad 4, .inl (cI, 80, .inl tx)), (ad 5, .inl (cI, 8, .inl ds)), (ad 6, .inl (cI, 8, .inl rg))]) := hD
  have hl : lv_has ls 6 [(0, .ref (ad 0)), (1, .int (nI t)), (2, .int (nI r)), (3, .int mo)] := hl
  have iX5 : ∀ w ∈ u_ws RX5 TX5 14, w ∈ wsX5_tryRequest := by decide +kernel
  have f7 := hts (.fieldLink RX5 7 "LockManagerModel" "z" "[I") (by decide +kernel)
  have f13 := hts (.fieldLink RX5 13 "LockManagerModel" "aside" "[I") (by decide +kernel)
  refine lv_iconst (v := (nI 0)) hx hb dX5_tryRequest_0 (by decide) ?_
  refine lv_istore (lv' := [(4, .int (nI 0)), (0, .ref (ad 0)), (1, .int (nI t)), (2, .int (nI r)), (3, .int mo)]) hx hb dX5_tryRequest_1 hl (by decide) rfl (fun ls hl => ?_)
  have L3 : ∀ (N : Nat) (k : Nat), (k ≤ 221) → (221 - k) < N → ∀ (H : Heap) (locs : List Loc), va_P D vwCl ([(ad 0, .inr (5, [.int th, .ref (ad 1), .ref (ad 2), .ref (ad 3), .int sv, .ref (ad 4), .int ln, .int vs, .ref (ad 5), .ref (ad 6), .int rl, .int cm, .int fi, .int se])), (ad 1, .inl (cI, 221, .inl z)), (ad 2, .inl (cI, 221, .inl (mixI z zs k))), (ad 3, .inl (cI, 1768, .inl sd)), (ad 4, .inl (cI, 80, .inl tx)), (ad 5, .inl (cI, 8, .inl ds)), (ad 6, .inl (cI, 8, .inl rg))]) H → va_D A ([(ad 0, .inr (5, [.int th, .ref (ad 1), .ref (ad 2), .ref (ad 3), .int sv, .ref (ad 4), .int ln, .int vs, .ref (ad 5), .ref (ad 6), .int rl, .int cm, .int fi, .int se])), (ad 1, .inl (cI, 221, .inl z)), (ad 2, .inl (cI, 221, .inl (mixI z zs k))), (ad 3, .inl (cI, 1768, .inl sd)), (ad 4, .inl (cI, 80, .inl tx)), (ad 5, .inl (cI, 8, .inl ds)), (ad 6, .inl (cI, 8, .inl rg))]) → va_S A s.heap H locs → ∀ ls : Array Slot, lv_has ls 6 [(0, .ref (ad 0)), (1, .int (nI t)), (2, .int (nI r)), (3, .int mo), (4, .int (nI k))] → W p l e rX5_tryRequest s m args below meth c H locs 0 0 Q (F0 m 3 ls []) := by
    intro N3
    induction N3 with
    | zero => intro k hk hN; exact absurd hN (Nat.not_lt_zero _)
    | succ N3 ih3 =>
      intro k hk hN H locs hP hD hS ls hl
      refine lv_iload hx hb dX5_tryRequest_3 (lv_at hl 4 rfl) ?_
      refine lv_sipush (v := (nI 221)) hx hb dX5_tryRequest_5 (by decide) ?_
      refine lv_icmp_ge (tgt := 31) hx hb dX5_tryRequest_8 (by decide) (fun h_1 => ?_) (fun h_1 => ?_)
      · have h_1 := (nI_leI (a := 221) (b := k) (by first | omega | exact bits_lt31 _ | exact bitN_lt _ _ | exact bool_lt _ | exact and_lt31 _ _ _ _ | exact Nat.lt_of_le_of_lt (dst_lt _ _ _ (by omega) _) (by decide) | exact Nat.lt_of_le_of_lt (nrB_le _ _ _ (by omega)).2 (by decide) | decide) (by first | omega | exact bits_lt31 _ | exact bitN_lt _ _ | exact bool_lt _ | exact and_lt31 _ _ _ _ | exact Nat.lt_of_le_of_lt (dst_lt _ _ _ (by omega) _) (by decide) | exact Nat.lt_of_le_of_lt (nrB_le _ _ _ (by omega)).2 (by decide) | decide)).mp h_1
        have hk2 : k = 221 := by omega
        rw [hk2] at hP hD
        have hP : va_P D vwCl ([(ad 0, .inr (5, [.int th, .ref (ad 1), .ref (ad 2), .ref (ad 3), .int sv, .ref (ad 4), .int ln, .int vs, .ref (ad 5), .ref (ad 6), .int rl, .int cm, .int fi, .int se])), (ad 1, .inl (cI, 221, .inl z)), (ad 2, .inl (cI, 221, .inl (mixI z zs 221))), (ad 3, .inl (cI, 1768, .inl sd)), (ad 4, .inl (cI, 80, .inl tx)), (ad 5, .inl (cI, 8, .inl ds)), (ad 6, .inl (cI, 8, .inl rg))]) H := hP
        have hD : va_D A ([(ad 0, .inr (5, [.int th, .ref (ad 1), .ref (ad 2), .ref (ad 3), .int sv, .ref (ad 4), .int ln, .int vs, .ref (ad 5), .ref (ad 6), .int rl, .int cm, .int fi, .int se])), (ad 1, .inl (cI, 221, .inl z)), (ad 2, .inl (cI, 221, .inl (mixI z zs 221))), (ad 3, .inl (cI, 1768, .inl sd)), (ad 4, .inl (cI, 80, .inl tx)), (ad 5, .inl (cI, 8, .inl ds)), (ad 6, .inl (cI, 8, .inl rg))]) := hD
        refine lv_aload_n hx hb dX5_tryRequest_31 rfl (lv_at hl 0 rfl) ?_
        refine lv_iload_n hx hb dX5_tryRequest_32 rfl (lv_at hl 1 rfl) ?_
        refine lv_iload_n hx hb dX5_tryRequest_33 rfl (lv_at hl 2 rfl) ?_
        refine lv_iload_n hx hb dX5_tryRequest_34 rfl (lv_at hl 3 rfl) ?_
        refine call_i (X := []) (Z := []) (As := [.int (nI t), .int (nI r), .int mo]) (rest := []) ⟨hx, hb, hml, hown, hts⟩ (c_X5_doRequest l D cI cT ad th sv ln vs rl cm fi se z (mixI z zs 221) sd tx ds rg F Q0 t r mo (by omega) (by omega) hm h3 h0 hB hZ hJ) (cwV 3 hts gX5_tryRequest_X5_doRequest rfl rfl rfl (by decide +kernel) ⟨Nat.le_of_ble_eq_true rfl, Nat.le_of_ble_eq_true rfl⟩) hK hP hD hS hA (va_recv hK hP (ci := 5) (q0 := 0) rfl rfl) (fun _ => adr_ref.trans adr_ref.symm) rfl hl.1 rfl (Nat.le_of_ble_eq_true rfl) ⟨by decide, by decide⟩ dX5_tryRequest_35 (fun rv u29 H locs hp hP hD hS => ?_)
        obtain ⟨rfl, hZ29⟩ := hp
        have hJ29 := JJ_ask hJ (t := t) (r := r) (by omega) (by omega) h3 h0 hm
        have hP : va_P D vwCl ([(ad 0, .inr (5, [.int th, .ref (ad 1), .ref (ad 2), .ref (ad 3), .int sv, .ref (ad 4), .int ln, .int (nI (askV F Q0 t r mo)), .ref (ad 5), .ref (ad 6), .int u29.2.2.2, .int cm, .int fi, .int se])), (ad 1, .inl (cI, 221, .inl u29.1)), (ad 2, .inl (cI, 221, .inl (mixI z zs 221))), (ad 3, .inl (cI, 1768, .inl sd)), (ad 4, .inl (cI, 80, .inl tx)), (ad 5, .inl (cI, 8, .inl u29.2.1)), (ad 6, .inl (cI, 8, .inl u29.2.2.1))]) H := hP
        have hD : va_D A ([(ad 0, .inr (5, [.int th, .ref (ad 1), .ref (ad 2), .ref (ad 3), .int sv, .ref (ad 4), .int ln, .int (nI (askV F Q0 t r mo)), .ref (ad 5), .ref (ad 6), .int u29.2.2.2, .int cm, .int fi, .int se])), (ad 1, .inl (cI, 221, .inl u29.1)), (ad 2, .inl (cI, 221, .inl (mixI z zs 221))), (ad 3, .inl (cI, 1768, .inl sd)), (ad 4, .inl (cI, 80, .inl tx)), (ad 5, .inl (cI, 8, .inl u29.2.1)), (ad 6, .inl (cI, 8, .inl u29.2.2.1))]) := hD
        refine lv_istore (lv' := [(4, .int (outI (askF F Q0 t r mo) t r mo)), (0, .ref (ad 0)), (1, .int (nI t)), (2, .int (nI r)), (3, .int mo)]) hx hb dX5_tryRequest_38 hl (by decide) rfl (fun ls hl => ?_)
        refine lv_iconst (v := (nI 0)) hx hb dX5_tryRequest_40 (by decide) ?_
        refine lv_istore (lv' := [(5, .int (nI 0)), (4, .int (outI (askF F Q0 t r mo) t r mo)), (0, .ref (ad 0)), (1, .int (nI t)), (2, .int (nI r)), (3, .int mo)]) hx hb dX5_tryRequest_41 hl (by decide) rfl (fun ls hl => ?_)
        have L43 : ∀ (N : Nat) (k : Nat), (k ≤ 221) → (221 - k) < N → ∀ (H : Heap) (locs : List Loc), va_P D vwCl ([(ad 0, .inr (5, [.int th, .ref (ad 1), .ref (ad 2), .ref (ad 3), .int sv, .ref (ad 4), .int ln, .int (nI (askV F Q0 t r mo)), .ref (ad 5), .ref (ad 6), .int u29.2.2.2, .int cm, .int fi, .int se])), (ad 1, .inl (cI, 221, .inl (mixI (mixI z zs 221) u29.1 k))), (ad 2, .inl (cI, 221, .inl (mixI z zs 221))), (ad 3, .inl (cI, 1768, .inl sd)), (ad 4, .inl (cI, 80, .inl tx)), (ad 5, .inl (cI, 8, .inl u29.2.1)), (ad 6, .inl (cI, 8, .inl u29.2.2.1))]) H → va_D A ([(ad 0, .inr (5, [.int th, .ref (ad 1), .ref (ad 2), .ref (ad 3), .int sv, .ref (ad 4), .int ln, .int (nI (askV F Q0 t r mo)), .ref (ad 5), .ref (ad 6), .int u29.2.2.2, .int cm, .int fi, .int se])), (ad 1, .inl (cI, 221, .inl (mixI (mixI z zs 221) u29.1 k))), (ad 2, .inl (cI, 221, .inl (mixI z zs 221))), (ad 3, .inl (cI, 1768, .inl sd)), (ad 4, .inl (cI, 80, .inl tx)), (ad 5, .inl (cI, 8, .inl u29.2.1)), (ad 6, .inl (cI, 8, .inl u29.2.2.1))]) → va_S A s.heap H locs → ∀ ls : Array Slot, lv_has ls 6 [(0, .ref (ad 0)), (4, .int (outI (askF F Q0 t r mo) t r mo)), (5, .int (nI k))] → W p l e rX5_tryRequest s m args below meth c H locs 0 0 Q (F0 m 43 ls []) := by
          intro N43
          induction N43 with
          | zero => intro k hk hN; exact absurd hN (Nat.not_lt_zero _)
          | succ N43 ih43 =>
            intro k hk hN H locs hP hD hS ls hl
            refine lv_iload hx hb dX5_tryRequest_43 (lv_at hl 2 rfl) ?_
            refine lv_sipush (v := (nI 221)) hx hb dX5_tryRequest_45 (by decide) ?_
            refine lv_icmp_ge (tgt := 71) hx hb dX5_tryRequest_48 (by decide) (fun h_2 => ?_) (fun h_2 => ?_)
            · have h_2 := (nI_leI (a := 221) (b := k) (by first | omega | exact bits_lt31 _ | exact bitN_lt _ _ | exact bool_lt _ | exact and_lt31 _ _ _ _ | exact Nat.lt_of_le_of_lt (dst_lt _ _ _ (by omega) _) (by decide) | exact Nat.lt_of_le_of_lt (nrB_le _ _ _ (by omega)).2 (by decide) | decide) (by first | omega | exact bits_lt31 _ | exact bitN_lt _ _ | exact bool_lt _ | exact and_lt31 _ _ _ _ | exact Nat.lt_of_le_of_lt (dst_lt _ _ _ (by omega) _) (by decide) | exact Nat.lt_of_le_of_lt (nrB_le _ _ _ (by omega)).2 (by decide) | decide)).mp h_2
              have hk2 : k = 221 := by omega
              rw [hk2] at hP hD
              have hP : va_P D vwCl ([(ad 0, .inr (5, [.int th, .ref (ad 1), .ref (ad 2), .ref (ad 3), .int sv, .ref (ad 4), .int ln, .int (nI (askV F Q0 t r mo)), .ref (ad 5), .ref (ad 6), .int u29.2.2.2, .int cm, .int fi, .int se])), (ad 1, .inl (cI, 221, .inl (mixI (mixI z zs 221) u29.1 221))), (ad 2, .inl (cI, 221, .inl (mixI z zs 221))), (ad 3, .inl (cI, 1768, .inl sd)), (ad 4, .inl (cI, 80, .inl tx)), (ad 5, .inl (cI, 8, .inl u29.2.1)), (ad 6, .inl (cI, 8, .inl u29.2.2.1))]) H := hP
              have hD : va_D A ([(ad 0, .inr (5, [.int th, .ref (ad 1), .ref (ad 2), .ref (ad 3), .int sv, .ref (ad 4), .int ln, .int (nI (askV F Q0 t r mo)), .ref (ad 5), .ref (ad 6), .int u29.2.2.2, .int cm, .int fi, .int se])), (ad 1, .inl (cI, 221, .inl (mixI (mixI z zs 221) u29.1 221))), (ad 2, .inl (cI, 221, .inl (mixI z zs 221))), (ad 3, .inl (cI, 1768, .inl sd)), (ad 4, .inl (cI, 80, .inl tx)), (ad 5, .inl (cI, 8, .inl u29.2.1)), (ad 6, .inl (cI, 8, .inl u29.2.2.1))]) := hD
              refine lv_iload hx hb dX5_tryRequest_71 (lv_at hl 1 rfl) ?_
              exact ret_i (u := (mixI (mixI z zs 221) u29.1 221, mixI z zs 221, u29.2.1, u29.2.2.1, u29.2.2.2)) hQ hx hb hrt hlk hS dX5_tryRequest_73 hP ⟨rfl, RZ_cg hJ hZ (fun j hj => (mixI_lt hj).trans (mixI_lt hj))⟩
            · have h_2 := mt (nI_leI (a := 221) (b := k) (by first | omega | exact bits_lt31 _ | exact bitN_lt _ _ | exact bool_lt _ | exact and_lt31 _ _ _ _ | exact Nat.lt_of_le_of_lt (dst_lt _ _ _ (by omega) _) (by decide) | exact Nat.lt_of_le_of_lt (nrB_le _ _ _ (by omega)).2 (by decide) | decide) (by first | omega | exact bits_lt31 _ | exact bitN_lt _ _ | exact bool_lt _ | exact and_lt31 _ _ _ _ | exact Nat.lt_of_le_of_lt (dst_lt _ _ _ (by omega) _) (by decide) | exact Nat.lt_of_le_of_lt (nrB_le _ _ _ (by omega)).2 (by decide) | decide)).mpr h_2
              refine lv_aload_n hx hb dX5_tryRequest_51 rfl (lv_at hl 0 rfl) ?_
              refine va_get (D := D) (ci := 5) (v := .ref (ad 1)) (C := RX5) (T := TX5) (N := 14) hx hb hts iX5 hown hK hP 0 rfl rfl 1 (by decide) f7 (fun _ h9 => h9) rfl dX5_tryRequest_52 ?_
              refine lv_iload hx hb dX5_tryRequest_55 (lv_at hl 2 rfl) ?_
              refine lv_aload_n hx hb dX5_tryRequest_57 rfl (lv_at hl 0 rfl) ?_
              refine va_get (D := D) (ci := 5) (v := .ref (ad 2)) (C := RX5) (T := TX5) (N := 14) hx hb hts iX5 hown hK hP 0 rfl rfl 2 (by decide) f13 (fun _ h9 => h9) rfl dX5_tryRequest_58 ?_
              refine lv_iload hx hb dX5_tryRequest_61 (lv_at hl 2 rfl) ?_
              refine r_ild (k := k) hx hb hK hP 2 rfl (by omega) (by decide) dX5_tryRequest_63 ?_
              refine r_ist (k := k) hx hb hK hP hD hS 1 rfl (by omega) (by decide) dX5_tryRequest_64 (fun H locs hP hD hS => ?_)
              have hP : va_P D vwCl ([(ad 0, .inr (5, [.int th, .ref (ad 1), .ref (ad 2), .ref (ad 3), .int sv, .ref (ad 4), .int ln, .int (nI (askV F Q0 t r mo)), .ref (ad 5), .ref (ad 6), .int u29.2.2.2, .int cm, .int fi, .int se])), (ad 1, .inl (cI, 221, .inl (upd (mixI (mixI z zs 221) u29.1 k) k ((mixI z zs 221) k)))), (ad 2, .inl (cI, 221, .inl (mixI z zs 221))), (ad 3, .inl (cI, 1768, .inl sd)), (ad 4, .inl (cI, 80, .inl tx)), (ad 5, .inl (cI, 8, .inl u29.2.1)), (ad 6, .inl (cI, 8, .inl u29.2.2.1))]) H := hP
              have hD : va_D A ([(ad 0, .inr (5, [.int th, .ref (ad 1), .ref (ad 2), .ref (ad 3), .int sv, .ref (ad 4), .int ln, .int (nI (askV F Q0 t r mo)), .ref (ad 5), .ref (ad 6), .int u29.2.2.2, .int cm, .int fi, .int se])), (ad 1, .inl (cI, 221, .inl (upd (mixI (mixI z zs 221) u29.1 k) k ((mixI z zs 221) k)))), (ad 2, .inl (cI, 221, .inl (mixI z zs 221))), (ad 3, .inl (cI, 1768, .inl sd)), (ad 4, .inl (cI, 80, .inl tx)), (ad 5, .inl (cI, 8, .inl u29.2.1)), (ad 6, .inl (cI, 8, .inl u29.2.2.1))]) := hD
              refine lv_iinc (v := (nI (k + 1))) (lv' := [(5, .int (nI (k + 1))), (0, .ref (ad 0)), (4, .int (outI (askF F Q0 t r mo) t r mo))]) hx hb dX5_tryRequest_65 hl (k := 2) rfl (nI_add _ 1) (by decide) rfl (fun ls hl => ?_)
              refine lv_goto (tgt := 43) hx hb dX5_tryRequest_68 (by decide) ?_
              exact ih43 (k + 1) (by omega) (by omega) _ _ (by rw [← mixI_v rfl]; exact hP) (by rw [← mixI_v rfl]; exact hD) hS _ (lv_sub hl [1, 2, 0] rfl)
        exact L43 _ 0 (Nat.zero_le _) (Nat.lt_succ_self _) _ _ (by rw [mixI_0]; exact hP) (by rw [mixI_0]; exact hD) hS _ (lv_sub hl [2, 1, 0] rfl)
      · have h_1 := mt (nI_leI (a := 221) (b := k) (by first | omega | exact bits_lt31 _ | exact bitN_lt _ _ | exact bool_lt _ | exact and_lt31 _ _ _ _ | exact Nat.lt_of_le_of_lt (dst_lt _ _ _ (by omega) _) (by decide) | exact Nat.lt_of_le_of_lt (nrB_le _ _ _ (by omega)).2 (by decide) | decide) (by first | omega | exact bits_lt31 _ | exact bitN_lt _ _ | exact bool_lt _ | exact and_lt31 _ _ _ _ | exact Nat.lt_of_le_of_lt (dst_lt _ _ _ (by omega) _) (by decide) | exact Nat.lt_of_le_of_lt (nrB_le _ _ _ (by omega)).2 (by decide) | decide)).mpr h_1
        refine lv_aload_n hx hb dX5_tryRequest_11 rfl (lv_at hl 0 rfl) ?_
        refine va_get (D := D) (ci := 5) (v := .ref (ad 2)) (C := RX5) (T := TX5) (N := 14) hx hb hts iX5 hown hK hP 0 rfl rfl 2 (by decide) f13 (fun _ h9 => h9) rfl dX5_tryRequest_12 ?_
        refine lv_iload hx hb dX5_tryRequest_15 (lv_at hl 4 rfl) ?_
        refine lv_aload_n hx hb dX5_tryRequest_17 rfl (lv_at hl 0 rfl) ?_
        refine va_get (D := D) (ci := 5) (v := .ref (ad 1)) (C := RX5) (T := TX5) (N := 14) hx hb hts iX5 hown hK hP 0 rfl rfl 1 (by decide) f7 (fun _ h9 => h9) rfl dX5_tryRequest_18 ?_
        refine lv_iload hx hb dX5_tryRequest_21 (lv_at hl 4 rfl) ?_
        refine r_ild (k := k) hx hb hK hP 1 rfl (by omega) (by decide) dX5_tryRequest_23 ?_
        refine r_ist (k := k) hx hb hK hP hD hS 2 rfl (by omega) (by decide) dX5_tryRequest_24 (fun H locs hP hD hS => ?_)
        have hP : va_P D vwCl ([(ad 0, .inr (5, [.int th, .ref (ad 1), .ref (ad 2), .ref (ad 3), .int sv, .ref (ad 4), .int ln, .int vs, .ref (ad 5), .ref (ad 6), .int rl, .int cm, .int fi, .int se])), (ad 1, .inl (cI, 221, .inl z)), (ad 2, .inl (cI, 221, .inl (upd (mixI z zs k) k (z k)))), (ad 3, .inl (cI, 1768, .inl sd)), (ad 4, .inl (cI, 80, .inl tx)), (ad 5, .inl (cI, 8, .inl ds)), (ad 6, .inl (cI, 8, .inl rg))]) H := hP
        have hD : va_D A ([(ad 0, .inr (5, [.int th, .ref (ad 1), .ref (ad 2), .ref (ad 3), .int sv, .ref (ad 4), .int ln, .int vs, .ref (ad 5), .ref (ad 6), .int rl, .int cm, .int fi, .int se])), (ad 1, .inl (cI, 221, .inl z)), (ad 2, .inl (cI, 221, .inl (upd (mixI z zs k) k (z k)))), (ad 3, .inl (cI, 1768, .inl sd)), (ad 4, .inl (cI, 80, .inl tx)), (ad 5, .inl (cI, 8, .inl ds)), (ad 6, .inl (cI, 8, .inl rg))]) := hD
        refine lv_iinc (v := (nI (k + 1))) (lv' := [(4, .int (nI (k + 1))), (0, .ref (ad 0)), (1, .int (nI t)), (2, .int (nI r)), (3, .int mo)]) hx hb dX5_tryRequest_25 hl (k := 4) rfl (nI_add _ 1) (by decide) rfl (fun ls hl => ?_)
        refine lv_goto (tgt := 3) hx hb dX5_tryRequest_28 (by decide) ?_
        exact ih3 (k + 1) (by omega) (by omega) _ _ (by rw [← mixI_v rfl]; exact hP) (by rw [← mixI_v rfl]; exact hD) hS _ (lv_sub hl [1, 2, 3, 4, 0] rfl)
  exact L3 _ 0 (Nat.zero_le _) (Nat.lt_succ_self _) _ _ (by rw [mixI_0]; exact hP) (by rw [mixI_0]; exact hD) hS _ (lv_sub hl [1, 2, 3, 4, 0] rfl)

abbrev rX5_begin : Room := { frames := 3, cells := 0, slots := 0, locals := 63 }
set_option maxHeartbeats 1000000 in
set_option maxRecDepth 100000 in
theorem c_X5_begin (l : Launch) (D : va_G) (cI cT : ClassId) (ad : Nat → Nat) (th sv ln vs rl cm fi se : Int32) (z zs sd tx ds rg : Nat → Int32) (F : FF) (Q0 : QQ) (HS : List (FF × QQ)) (sg : Nat → Nat) (len n : Nat) (p0 : Int32) (hL : LZ n (F, Q0, HS, sg, len) z sd tx) (hn : n + 80 < 2 ^ 31) : CN l D cI cT yX5_begin wsX5_begin rX5_begin [.ref (ad 0), .int p0] (refW cI ad th (nI HS.length) (nI len) vs rl cm fi se z zs sd tx ds rg) (S := JR) (fun v u => v = (opBegin (F, Q0, HS, sg, len) p0).2.1 ∧ u.1 = nI (opBegin (F, Q0, HS, sg, len) p0).1 ∧ LZu (n + 80) (opBegin (F, Q0, HS, sg, len) p0).2.2 u) (fun u => rfW cI ad (opBegin (F, Q0, HS, sg, len) p0).2.2 u) := by
  refine CN.of (cc := cX5_begin) (maxL := 2) (ret := (some .int)) (by decide) rfl (Nat.le_of_ble_eq_true rfl) ?_
  intro p e s m args below meth c A Q hQ B hA H locs hP hK hD hS ls hl
  obtain ⟨hx, hb, hml, hrt, hts, hown, hlk⟩ := B
  have hP : va_P D vwCl ([(ad 0, .inr (5, [.int th, .ref (ad 1), .ref (ad 2), .ref (ad 3), .int (nI HS.length), .ref (ad 4), .int (nI len), .int vs, .ref (ad 5), .ref (ad 6), .int rl, .int cm, .int fi, .int se])), (ad 1, .inl (cI, 221, .inl z)), (ad 2, .inl (cI, 221, .inl zs)), (ad 3, .inl (cI, 1768, .inl sd)), (ad 4, .inl (cI, 80, .inl tx)), (ad 5, .inl (cI, 8, .inl ds)), (ad 6, .inl (cI, 8, .inl rg))]) H := hP
  have hD : va_D A ([(ad 0, .inr (5, [.int th, .ref (ad 1), .ref (ad 2), .ref (ad 3), .int (nI HS.length), .ref (ad 4), .int (nI len), .int vs, .ref (ad 5), .ref (ad 6), .int rl, .int cm, .int fi, .int se])), (ad 1, .inl (cI, 221, .inl z)), (ad 2, .inl (cI, 221, .inl zs)), (ad 3, .inl (cI, 1768, .inl sd)), (ad 4, .inl (cI, 80, .inl tx)), (ad 5, .inl (cI, 8, .inl ds)), (ad 6, .inl (cI, 8, .inl rg))]) := hD
  have hl : lv_has ls 2 [(0, .ref (ad 0)), (1, .int p0)] := hl
  obtain ⟨hJ, hC, hZ, hl8, hH, hHS, hlen, htx, hsg⟩ := hL
  dsimp only at hJ hC hZ hl8 hH hHS hlen htx hsg
  have hL := LZ_mk hJ hC hZ hl8 hH hHS hlen htx hsg
  have hB := hC.jb
  have hn8 := hC.n8 (by omega)
  have hHJ : ∀ q ∈ HS, JJ q.1 q.2 := fun q hq => (hHS q hq).1
  have iX5 : ∀ w ∈ u_ws RX5 TX5 14, w ∈ wsX5_begin := by decide +kernel
  have f32 := hts (.fieldLink RX5 32 "LockManagerModel" "thrown" "I") (by decide +kernel)
  refine lv_aload_n hx hb dX5_begin_0 rfl (lv_at hl 0 rfl) ?_
  refine lv_aload_n hx hb dX5_begin_1 rfl (lv_at hl 0 rfl) ?_
  refine lv_iload_n hx hb dX5_begin_2 rfl (lv_at hl 1 rfl) ?_
  refine call_i (X := []) (Z := []) (As := [.int p0]) (rest := [.ref (ad 0)]) ⟨hx, hb, hml, hown, hts⟩ (c_X5_whyNoBegin l D cI cT ad th (nI HS.length) (nI len) vs rl cm fi se z zs sd tx ds rg F Q0 p0 hZ) (cwV 1 hts gX5_begin_X5_whyNoBegin rfl rfl rfl (by decide +kernel) ⟨Nat.le_of_ble_eq_true rfl, Nat.le_of_ble_eq_true rfl⟩) hK hP hD hS hA (va_recv hK hP (ci := 5) (q0 := 0) rfl rfl) (fun _ => rfl) rfl hl.1 rfl (Nat.le_of_ble_eq_true rfl) ⟨by decide, by decide⟩ dX5_begin_3 (fun rv _ H locs hp hP hD hS => ?_)
  obtain rfl := hp
  have hP : va_P D vwCl ([(ad 0, .inr (5, [.int th, .ref (ad 1), .ref (ad 2), .ref (ad 3), .int (nI HS.length), .ref (ad 4), .int (nI len), .int vs, .ref (ad 5), .ref (ad 6), .int rl, .int cm, .int fi, .int se])), (ad 1, .inl (cI, 221, .inl z)), (ad 2, .inl (cI, 221, .inl zs)), (ad 3, .inl (cI, 1768, .inl sd)), (ad 4, .inl (cI, 80, .inl tx)), (ad 5, .inl (cI, 8, .inl ds)), (ad 6, .inl (cI, 8, .inl rg))]) H := hP
  have hD : va_D A ([(ad 0, .inr (5, [.int th, .ref (ad 1), .ref (ad 2), .ref (ad 3), .int (nI HS.length), .ref (ad 4), .int (nI len), .int vs, .ref (ad 5), .ref (ad 6), .int rl, .int cm, .int fi, .int se])), (ad 1, .inl (cI, 221, .inl z)), (ad 2, .inl (cI, 221, .inl zs)), (ad 3, .inl (cI, 1768, .inl sd)), (ad 4, .inl (cI, 80, .inl tx)), (ad 5, .inl (cI, 8, .inl ds)), (ad 6, .inl (cI, 8, .inl rg))]) := hD
  have hw3 : wB F p0 ≤ 3 := wB_le
  refine va_put (D := D) (ci := 5) (v := .int (nI (wB F p0))) (ty := .int) (C := RX5) (T := TX5) (N := 14) hx hb hts iX5 tyX5 tyX5_ok nmX5 hown hK hP hD hS 0 rfl rfl 0 (by decide) f32 (fun _ h9 => h9) rfl (by decide +kernel) rfl rfl (Nat.le_of_ble_eq_true rfl) dX5_begin_6 (fun H locs hP hD hS => ?_)
  have hP : va_P D vwCl ([(ad 0, .inr (5, [.int (nI (wB F p0)), .ref (ad 1), .ref (ad 2), .ref (ad 3), .int (nI HS.length), .ref (ad 4), .int (nI len), .int vs, .ref (ad 5), .ref (ad 6), .int rl, .int cm, .int fi, .int se])), (ad 1, .inl (cI, 221, .inl z)), (ad 2, .inl (cI, 221, .inl zs)), (ad 3, .inl (cI, 1768, .inl sd)), (ad 4, .inl (cI, 80, .inl tx)), (ad 5, .inl (cI, 8, .inl ds)), (ad 6, .inl (cI, 8, .inl rg))]) H := hP
  have hD : va_D A ([(ad 0, .inr (5, [.int (nI (wB F p0)), .ref (ad 1), .ref (ad 2), .ref (ad 3), .int (nI HS.length), .ref (ad 4), .int (nI len), .int vs, .ref (ad 5), .ref (ad 6), .int rl, .int cm, .int fi, .int se])), (ad 1, .inl (cI, 221, .inl z)), (ad 2, .inl (cI, 221, .inl zs)), (ad 3, .inl (cI, 1768, .inl sd)), (ad 4, .inl (cI, 80, .inl tx)), (ad 5, .inl (cI, 8, .inl ds)), (ad 6, .inl (cI, 8, .inl rg))]) := hD
  refine lv_aload_n hx hb dX5_begin_9 rfl (lv_at hl 0 rfl) ?_
  refine va_get (D := D) (ci := 5) (v := .int (nI (wB F p0))) (C := RX5) (T := TX5) (N := 14) hx hb hts iX5 hown hK hP 0 rfl rfl 0 (by decide) f32 (fun _ h9 => h9) rfl dX5_begin_10 ?_
  refine lv_if_le (tgt := 18) hx hb dX5_begin_13 (by decide) (fun h_1 => ?_) (fun h_1 => ?_)
  · have h_1 := (nI_leI (a := (wB F p0)) (b := 0) (by first | omega | exact bits_lt31 _ | exact bitN_lt _ _ | exact bool_lt _ | exact and_lt31 _ _ _ _ | exact Nat.lt_of_le_of_lt (dst_lt _ _ _ (by omega) _) (by decide) | exact Nat.lt_of_le_of_lt (nrB_le _ _ _ (by omega)).2 (by decide) | decide) (by first | omega | exact bits_lt31 _ | exact bitN_lt _ _ | exact bool_lt _ | exact and_lt31 _ _ _ _ | exact Nat.lt_of_le_of_lt (dst_lt _ _ _ (by omega) _) (by decide) | exact Nat.lt_of_le_of_lt (nrB_le _ _ _ (by omega)).2 (by decide) | decide)).mp h_1
    have hth : wB F p0 = 0 := Nat.le_zero.mp h_1
    rw [hth] at hP hD
    have hP : va_P D vwCl ([(ad 0, .inr (5, [.int (nI 0), .ref (ad 1), .ref (ad 2), .ref (ad 3), .int (nI HS.length), .ref (ad 4), .int (nI len), .int vs, .ref (ad 5), .ref (ad 6), .int rl, .int cm, .int fi, .int se])), (ad 1, .inl (cI, 221, .inl z)), (ad 2, .inl (cI, 221, .inl zs)), (ad 3, .inl (cI, 1768, .inl sd)), (ad 4, .inl (cI, 80, .inl tx)), (ad 5, .inl (cI, 8, .inl ds)), (ad 6, .inl (cI, 8, .inl rg))]) H := hP
    have hD : va_D A ([(ad 0, .inr (5, [.int (nI 0), .ref (ad 1), .ref (ad 2), .ref (ad 3), .int (nI HS.length), .ref (ad 4), .int (nI len), .int vs, .ref (ad 5), .ref (ad 6), .int rl, .int cm, .int fi, .int se])), (ad 1, .inl (cI, 221, .inl z)), (ad 2, .inl (cI, 221, .inl zs)), (ad 3, .inl (cI, 1768, .inl sd)), (ad 4, .inl (cI, 80, .inl tx)), (ad 5, .inl (cI, 8, .inl ds)), (ad 6, .inl (cI, 8, .inl rg))]) := hD
    obtain ⟨t9, ht9, et9, hs9⟩ := wB_0 h_1
    rw [et9] at hl
    have h0 := st_0.mp hs9
    refine lv_aload_n hx hb dX5_begin_18 rfl (lv_at hl 0 rfl) ?_
    refine call_v (X := []) (Z := []) (As := []) (rest := []) ⟨hx, hb, hml, hown, hts⟩ (c_X5_save l D cI cT ad (nI 0) (nI HS.length) (nI len) vs rl cm fi se z zs sd tx ds rg F Q0 HS hl8 hHJ hH hZ hJ) (cwV 0 hts gX5_begin_X5_save rfl rfl rfl (by decide +kernel) ⟨Nat.le_of_ble_eq_true rfl, Nat.le_of_ble_eq_true rfl⟩) hK hP hD hS hA (va_recv hK hP (ci := 5) (q0 := 0) rfl rfl) (fun _ => adr_ref.trans adr_ref.symm) rfl hl.1 rfl (Nat.le_of_ble_eq_true rfl) ⟨by decide, by decide⟩ dX5_begin_19 (fun sd30 H locs hp hP hD hS => ?_)
    have hH30 := hp
    have hP : va_P D vwCl ([(ad 0, .inr (5, [.int (nI 0), .ref (ad 1), .ref (ad 2), .ref (ad 3), .int (nI ((pu F Q0 HS).length)), .ref (ad 4), .int (nI len), .int vs, .ref (ad 5), .ref (ad 6), .int rl, .int cm, .int fi, .int se])), (ad 1, .inl (cI, 221, .inl z)), (ad 2, .inl (cI, 221, .inl zs)), (ad 3, .inl (cI, 1768, .inl sd30)), (ad 4, .inl (cI, 80, .inl tx)), (ad 5, .inl (cI, 8, .inl ds)), (ad 6, .inl (cI, 8, .inl rg))]) H := hP
    have hD : va_D A ([(ad 0, .inr (5, [.int (nI 0), .ref (ad 1), .ref (ad 2), .ref (ad 3), .int (nI ((pu F Q0 HS).length)), .ref (ad 4), .int (nI len), .int vs, .ref (ad 5), .ref (ad 6), .int rl, .int cm, .int fi, .int se])), (ad 1, .inl (cI, 221, .inl z)), (ad 2, .inl (cI, 221, .inl zs)), (ad 3, .inl (cI, 1768, .inl sd30)), (ad 4, .inl (cI, 80, .inl tx)), (ad 5, .inl (cI, 8, .inl ds)), (ad 6, .inl (cI, 8, .inl rg))]) := hD
    refine lv_aload_n hx hb dX5_begin_22 rfl (lv_at hl 0 rfl) ?_
    refine lv_iload_n hx hb dX5_begin_23 rfl (lv_at hl 1 rfl) ?_
    refine call_i (X := []) (Z := []) (As := [.int (nI t9)]) (rest := []) ⟨hx, hb, hml, hown, hts⟩ (c_X5_doBegin l D cI cT ad (nI 0) (nI ((pu F Q0 HS).length)) (nI len) vs rl cm fi se z zs sd30 tx ds rg F Q0 t9 (by omega) h0 hn8 hZ hJ) (cwV 1 hts gX5_begin_X5_doBegin rfl rfl rfl (by decide +kernel) ⟨Nat.le_of_ble_eq_true rfl, Nat.le_of_ble_eq_true rfl⟩) hK hP hD hS hA (va_recv hK hP (ci := 5) (q0 := 0) rfl rfl) (fun _ => adr_ref.trans adr_ref.symm) rfl hl.1 rfl (Nat.le_of_ble_eq_true rfl) ⟨by decide, by decide⟩ dX5_begin_24 (fun rv _ H locs hp hP hD hS => ?_)
    obtain ⟨rfl, hZ31⟩ := hp
    have hJ31 := JJ_start hJ h0
    have hP : va_P D vwCl ([(ad 0, .inr (5, [.int (nI 0), .ref (ad 1), .ref (ad 2), .ref (ad 3), .int (nI ((pu F Q0 HS).length)), .ref (ad 4), .int (nI len), .int vs, .ref (ad 5), .ref (ad 6), .int rl, .int cm, .int fi, .int se])), (ad 1, .inl (cI, 221, .inl (stZ z t9))), (ad 2, .inl (cI, 221, .inl zs)), (ad 3, .inl (cI, 1768, .inl sd30)), (ad 4, .inl (cI, 80, .inl tx)), (ad 5, .inl (cI, 8, .inl ds)), (ad 6, .inl (cI, 8, .inl rg))]) H := hP
    have hD : va_D A ([(ad 0, .inr (5, [.int (nI 0), .ref (ad 1), .ref (ad 2), .ref (ad 3), .int (nI ((pu F Q0 HS).length)), .ref (ad 4), .int (nI len), .int vs, .ref (ad 5), .ref (ad 6), .int rl, .int cm, .int fi, .int se])), (ad 1, .inl (cI, 221, .inl (stZ z t9))), (ad 2, .inl (cI, 221, .inl zs)), (ad 3, .inl (cI, 1768, .inl sd30)), (ad 4, .inl (cI, 80, .inl tx)), (ad 5, .inl (cI, 8, .inl ds)), (ad 6, .inl (cI, 8, .inl rg))]) := hD
    exact ret_i (u := ((nI 0), vs, rl, cm, fi, se, stZ z t9, zs, sd30, tx, ds, rg)) hQ hx hb hrt hlk hS dX5_begin_27 (by rw [et9, opBegin_0 ht9 hs9]; exact hP) (by rw [et9, opBegin_0 ht9 hs9]; exact ⟨rfl, rfl, (LZ_mk hJ31 ((hC.st (by omega)).mono (by omega)) hZ31 pu_le hH30 (all_mono (by omega) (pu_all hJ hC hHS)) hlen htx hsg)⟩)
  · have h_1 := mt (nI_leI (a := (wB F p0)) (b := 0) (by first | omega | exact bits_lt31 _ | exact bitN_lt _ _ | exact bool_lt _ | exact and_lt31 _ _ _ _ | exact Nat.lt_of_le_of_lt (dst_lt _ _ _ (by omega) _) (by decide) | exact Nat.lt_of_le_of_lt (nrB_le _ _ _ (by omega)).2 (by decide) | decide) (by first | omega | exact bits_lt31 _ | exact bitN_lt _ _ | exact bool_lt _ | exact and_lt31 _ _ _ _ | exact Nat.lt_of_le_of_lt (dst_lt _ _ _ (by omega) _) (by decide) | exact Nat.lt_of_le_of_lt (nrB_le _ _ _ (by omega)).2 (by decide) | decide)).mpr h_1
    refine lv_iconst (v := (nI 0)) hx hb dX5_begin_16 (by decide) ?_
    exact ret_i (u := ((nI (wB F p0)), vs, rl, cm, fi, se, z, zs, sd, tx, ds, rg)) hQ hx hb hrt hlk hS dX5_begin_17 (by rw [wB_op (s := (F, Q0, HS, sg, len)) h_1]; exact hP) (by rw [wB_op (s := (F, Q0, HS, sg, len)) h_1]; exact ⟨rfl, rfl, (LZ.mono hL (by omega))⟩)

abbrev rX5_request : Room := { frames := 7, cells := 0, slots := 0, locals := 163 }
set_option maxHeartbeats 1000000 in
set_option maxRecDepth 100000 in
theorem c_X5_request (l : Launch) (D : va_G) (cI cT : ClassId) (ad : Nat → Nat) (th sv ln vs rl cm fi se : Int32) (z zs sd tx ds rg : Nat → Int32) (F : FF) (Q0 : QQ) (HS : List (FF × QQ)) (sg : Nat → Nat) (len n : Nat) (p0 p1 p2 : Int32) (hL : LZ n (F, Q0, HS, sg, len) z sd tx) (hn : n + 80 < 2 ^ 31) : CN l D cI cT yX5_request wsX5_request rX5_request [.ref (ad 0), .int p0, .int p1, .int p2] (refW cI ad th (nI HS.length) (nI len) vs rl cm fi se z zs sd tx ds rg) (S := JR) (fun v u => v = (opRequest (F, Q0, HS, sg, len) p0 p1 p2).2.1 ∧ u.1 = nI (opRequest (F, Q0, HS, sg, len) p0 p1 p2).1 ∧ LZu (n + 80) (opRequest (F, Q0, HS, sg, len) p0 p1 p2).2.2 u) (fun u => rfW cI ad (opRequest (F, Q0, HS, sg, len) p0 p1 p2).2.2 u) := by
  refine CN.of (cc := cX5_request) (maxL := 4) (ret := (some .int)) (by decide) rfl (Nat.le_of_ble_eq_true rfl) ?_
  intro p e s m args below meth c A Q hQ B hA H locs hP hK hD hS ls hl
  obtain ⟨hx, hb, hml, hrt, hts, hown, hlk⟩ := B
  have hP : va_P D vwCl ([(ad 0, .inr (5, [.int th, .ref (ad 1), .ref (ad 2), .ref (ad 3), .int (nI HS.length), .ref (ad 4), .int (nI len), .int vs, .ref (ad 5), .ref (ad 6), .int rl, .int cm, .int fi, .int se])), (ad 1, .inl (cI, 221, .inl z)), (ad 2, .inl (cI, 221, .inl zs)), (ad 3, .inl (cI, 1768, .inl sd)), (ad 4, .inl (cI, 80, .inl tx)), (ad 5, .inl (cI, 8, .inl ds)), (ad 6, .inl (cI, 8, .inl rg))]) H := hP
  have hD : va_D A ([(ad 0, .inr (5, [.int th, .ref (ad 1), .ref (ad 2), .ref (ad 3), .int (nI HS.length), .ref (ad 4), .int (nI len), .int vs, .ref (ad 5), .ref (ad 6), .int rl, .int cm, .int fi, .int se])), (ad 1, .inl (cI, 221, .inl z)), (ad 2, .inl (cI, 221, .inl zs)), (ad 3, .inl (cI, 1768, .inl sd)), (ad 4, .inl (cI, 80, .inl tx)), (ad 5, .inl (cI, 8, .inl ds)), (ad 6, .inl (cI, 8, .inl rg))]) := hD
  have hl : lv_has ls 4 [(0, .ref (ad 0)), (1, .int p0), (2, .int p1), (3, .int p2)] := hl
  obtain ⟨hJ, hC, hZ, hl8, hH, hHS, hlen, htx, hsg⟩ := hL
  dsimp only at hJ hC hZ hl8 hH hHS hlen htx hsg
  have hL := LZ_mk hJ hC hZ hl8 hH hHS hlen htx hsg
  have hB := hC.jb
  have hn8 := hC.n8 (by omega)
  have hHJ : ∀ q ∈ HS, JJ q.1 q.2 := fun q hq => (hHS q hq).1
  have iX5 : ∀ w ∈ u_ws RX5 TX5 14, w ∈ wsX5_request := by decide +kernel
  have f32 := hts (.fieldLink RX5 32 "LockManagerModel" "thrown" "I") (by decide +kernel)
  refine lv_aload_n hx hb dX5_request_0 rfl (lv_at hl 0 rfl) ?_
  refine lv_aload_n hx hb dX5_request_1 rfl (lv_at hl 0 rfl) ?_
  refine lv_iload_n hx hb dX5_request_2 rfl (lv_at hl 1 rfl) ?_
  refine lv_iload_n hx hb dX5_request_3 rfl (lv_at hl 2 rfl) ?_
  refine lv_iload_n hx hb dX5_request_4 rfl (lv_at hl 3 rfl) ?_
  refine call_i (X := []) (Z := []) (As := [.int p0, .int p1, .int p2]) (rest := [.ref (ad 0)]) ⟨hx, hb, hml, hown, hts⟩ (c_X5_whyNoRequest l D cI cT ad th (nI HS.length) (nI len) vs rl cm fi se z zs sd tx ds rg F Q0 p0 p1 p2 hZ) (cwV 3 hts gX5_request_X5_whyNoRequest rfl rfl rfl (by decide +kernel) ⟨Nat.le_of_ble_eq_true rfl, Nat.le_of_ble_eq_true rfl⟩) hK hP hD hS hA (va_recv hK hP (ci := 5) (q0 := 0) rfl rfl) (fun _ => rfl) rfl hl.1 rfl (Nat.le_of_ble_eq_true rfl) ⟨by decide, by decide⟩ dX5_request_5 (fun rv _ H locs hp hP hD hS => ?_)
  obtain rfl := hp
  have hP : va_P D vwCl ([(ad 0, .inr (5, [.int th, .ref (ad 1), .ref (ad 2), .ref (ad 3), .int (nI HS.length), .ref (ad 4), .int (nI len), .int vs, .ref (ad 5), .ref (ad 6), .int rl, .int cm, .int fi, .int se])), (ad 1, .inl (cI, 221, .inl z)), (ad 2, .inl (cI, 221, .inl zs)), (ad 3, .inl (cI, 1768, .inl sd)), (ad 4, .inl (cI, 80, .inl tx)), (ad 5, .inl (cI, 8, .inl ds)), (ad 6, .inl (cI, 8, .inl rg))]) H := hP
  have hD : va_D A ([(ad 0, .inr (5, [.int th, .ref (ad 1), .ref (ad 2), .ref (ad 3), .int (nI HS.length), .ref (ad 4), .int (nI len), .int vs, .ref (ad 5), .ref (ad 6), .int rl, .int cm, .int fi, .int se])), (ad 1, .inl (cI, 221, .inl z)), (ad 2, .inl (cI, 221, .inl zs)), (ad 3, .inl (cI, 1768, .inl sd)), (ad 4, .inl (cI, 80, .inl tx)), (ad 5, .inl (cI, 8, .inl ds)), (ad 6, .inl (cI, 8, .inl rg))]) := hD
  have hw3 : wR F p0 p1 p2 ≤ 3 := wR_le
  refine va_put (D := D) (ci := 5) (v := .int (nI (wR F p0 p1 p2))) (ty := .int) (C := RX5) (T := TX5) (N := 14) hx hb hts iX5 tyX5 tyX5_ok nmX5 hown hK hP hD hS 0 rfl rfl 0 (by decide) f32 (fun _ h9 => h9) rfl (by decide +kernel) rfl rfl (Nat.le_of_ble_eq_true rfl) dX5_request_8 (fun H locs hP hD hS => ?_)
  have hP : va_P D vwCl ([(ad 0, .inr (5, [.int (nI (wR F p0 p1 p2)), .ref (ad 1), .ref (ad 2), .ref (ad 3), .int (nI HS.length), .ref (ad 4), .int (nI len), .int vs, .ref (ad 5), .ref (ad 6), .int rl, .int cm, .int fi, .int se])), (ad 1, .inl (cI, 221, .inl z)), (ad 2, .inl (cI, 221, .inl zs)), (ad 3, .inl (cI, 1768, .inl sd)), (ad 4, .inl (cI, 80, .inl tx)), (ad 5, .inl (cI, 8, .inl ds)), (ad 6, .inl (cI, 8, .inl rg))]) H := hP
  have hD : va_D A ([(ad 0, .inr (5, [.int (nI (wR F p0 p1 p2)), .ref (ad 1), .ref (ad 2), .ref (ad 3), .int (nI HS.length), .ref (ad 4), .int (nI len), .int vs, .ref (ad 5), .ref (ad 6), .int rl, .int cm, .int fi, .int se])), (ad 1, .inl (cI, 221, .inl z)), (ad 2, .inl (cI, 221, .inl zs)), (ad 3, .inl (cI, 1768, .inl sd)), (ad 4, .inl (cI, 80, .inl tx)), (ad 5, .inl (cI, 8, .inl ds)), (ad 6, .inl (cI, 8, .inl rg))]) := hD
  refine lv_aload_n hx hb dX5_request_11 rfl (lv_at hl 0 rfl) ?_
  refine va_get (D := D) (ci := 5) (v := .int (nI (wR F p0 p1 p2))) (C := RX5) (T := TX5) (N := 14) hx hb hts iX5 hown hK hP 0 rfl rfl 0 (by decide) f32 (fun _ h9 => h9) rfl dX5_request_12 ?_
  refine lv_if_le (tgt := 20) hx hb dX5_request_15 (by decide) (fun h_1 => ?_) (fun h_1 => ?_)
  · have h_1 := (nI_leI (a := (wR F p0 p1 p2)) (b := 0) (by first | omega | exact bits_lt31 _ | exact bitN_lt _ _ | exact bool_lt _ | exact and_lt31 _ _ _ _ | exact Nat.lt_of_le_of_lt (dst_lt _ _ _ (by omega) _) (by decide) | exact Nat.lt_of_le_of_lt (nrB_le _ _ _ (by omega)).2 (by decide) | decide) (by first | omega | exact bits_lt31 _ | exact bitN_lt _ _ | exact bool_lt _ | exact and_lt31 _ _ _ _ | exact Nat.lt_of_le_of_lt (dst_lt _ _ _ (by omega) _) (by decide) | exact Nat.lt_of_le_of_lt (nrB_le _ _ _ (by omega)).2 (by decide) | decide)).mp h_1
    have hth : wR F p0 p1 p2 = 0 := Nat.le_zero.mp h_1
    rw [hth] at hP hD
    have hP : va_P D vwCl ([(ad 0, .inr (5, [.int (nI 0), .ref (ad 1), .ref (ad 2), .ref (ad 3), .int (nI HS.length), .ref (ad 4), .int (nI len), .int vs, .ref (ad 5), .ref (ad 6), .int rl, .int cm, .int fi, .int se])), (ad 1, .inl (cI, 221, .inl z)), (ad 2, .inl (cI, 221, .inl zs)), (ad 3, .inl (cI, 1768, .inl sd)), (ad 4, .inl (cI, 80, .inl tx)), (ad 5, .inl (cI, 8, .inl ds)), (ad 6, .inl (cI, 8, .inl rg))]) H := hP
    have hD : va_D A ([(ad 0, .inr (5, [.int (nI 0), .ref (ad 1), .ref (ad 2), .ref (ad 3), .int (nI HS.length), .ref (ad 4), .int (nI len), .int vs, .ref (ad 5), .ref (ad 6), .int rl, .int cm, .int fi, .int se])), (ad 1, .inl (cI, 221, .inl z)), (ad 2, .inl (cI, 221, .inl zs)), (ad 3, .inl (cI, 1768, .inl sd)), (ad 4, .inl (cI, 80, .inl tx)), (ad 5, .inl (cI, 8, .inl ds)), (ad 6, .inl (cI, 8, .inl rg))]) := hD
    obtain ⟨t9, r9, ht9, hr9, et9, er9, hmd, hsq⟩ := wR_0 (Or.inl h_1)
    rw [et9] at hl
    rw [er9] at hl
    have hs9 := hsq.mp h_1
    have hm := md_i hmd
    have h3 := (st_1.mp hs9).2
    have h0 := (st_1.mp hs9).1
    refine lv_aload_n hx hb dX5_request_20 rfl (lv_at hl 0 rfl) ?_
    refine call_v (X := []) (Z := []) (As := []) (rest := []) ⟨hx, hb, hml, hown, hts⟩ (c_X5_save l D cI cT ad (nI 0) (nI HS.length) (nI len) vs rl cm fi se z zs sd tx ds rg F Q0 HS hl8 hHJ hH hZ hJ) (cwV 0 hts gX5_request_X5_save rfl rfl rfl (by decide +kernel) ⟨Nat.le_of_ble_eq_true rfl, Nat.le_of_ble_eq_true rfl⟩) hK hP hD hS hA (va_recv hK hP (ci := 5) (q0 := 0) rfl rfl) (fun _ => adr_ref.trans adr_ref.symm) rfl hl.1 rfl (Nat.le_of_ble_eq_true rfl) ⟨by decide, by decide⟩ dX5_request_21 (fun sd32 H locs hp hP hD hS => ?_)
    have hH32 := hp
    have hP : va_P D vwCl ([(ad 0, .inr (5, [.int (nI 0), .ref (ad 1), .ref (ad 2), .ref (ad 3), .int (nI ((pu F Q0 HS).length)), .ref (ad 4), .int (nI len), .int vs, .ref (ad 5), .ref (ad 6), .int rl, .int cm, .int fi, .int se])), (ad 1, .inl (cI, 221, .inl z)), (ad 2, .inl (cI, 221, .inl zs)), (ad 3, .inl (cI, 1768, .inl sd32)), (ad 4, .inl (cI, 80, .inl tx)), (ad 5, .inl (cI, 8, .inl ds)), (ad 6, .inl (cI, 8, .inl rg))]) H := hP
    have hD : va_D A ([(ad 0, .inr (5, [.int (nI 0), .ref (ad 1), .ref (ad 2), .ref (ad 3), .int (nI ((pu F Q0 HS).length)), .ref (ad 4), .int (nI len), .int vs, .ref (ad 5), .ref (ad 6), .int rl, .int cm, .int fi, .int se])), (ad 1, .inl (cI, 221, .inl z)), (ad 2, .inl (cI, 221, .inl zs)), (ad 3, .inl (cI, 1768, .inl sd32)), (ad 4, .inl (cI, 80, .inl tx)), (ad 5, .inl (cI, 8, .inl ds)), (ad 6, .inl (cI, 8, .inl rg))]) := hD
    refine lv_aload_n hx hb dX5_request_24 rfl (lv_at hl 0 rfl) ?_
    refine lv_iload_n hx hb dX5_request_25 rfl (lv_at hl 1 rfl) ?_
    refine lv_iload_n hx hb dX5_request_26 rfl (lv_at hl 2 rfl) ?_
    refine lv_iload_n hx hb dX5_request_27 rfl (lv_at hl 3 rfl) ?_
    refine call_i (X := []) (Z := []) (As := [.int (nI t9), .int (nI r9), .int p2]) (rest := []) ⟨hx, hb, hml, hown, hts⟩ (c_X5_doRequest l D cI cT ad (nI 0) (nI ((pu F Q0 HS).length)) (nI len) vs rl cm fi se z zs sd32 tx ds rg F Q0 t9 r9 p2 (by omega) (by omega) hm h3 h0 hB hZ hJ) (cwV 3 hts gX5_request_X5_doRequest rfl rfl rfl (by decide +kernel) ⟨Nat.le_of_ble_eq_true rfl, Nat.le_of_ble_eq_true rfl⟩) hK hP hD hS hA (va_recv hK hP (ci := 5) (q0 := 0) rfl rfl) (fun _ => adr_ref.trans adr_ref.symm) rfl hl.1 rfl (Nat.le_of_ble_eq_true rfl) ⟨by decide, by decide⟩ dX5_request_28 (fun rv u33 H locs hp hP hD hS => ?_)
    obtain ⟨rfl, hZ33⟩ := hp
    have hJ33 := JJ_ask hJ (t := t9) (r := r9) (by omega) (by omega) h3 h0 hm
    have hP : va_P D vwCl ([(ad 0, .inr (5, [.int (nI 0), .ref (ad 1), .ref (ad 2), .ref (ad 3), .int (nI ((pu F Q0 HS).length)), .ref (ad 4), .int (nI len), .int (nI (askV F Q0 t9 r9 p2)), .ref (ad 5), .ref (ad 6), .int u33.2.2.2, .int cm, .int fi, .int se])), (ad 1, .inl (cI, 221, .inl u33.1)), (ad 2, .inl (cI, 221, .inl zs)), (ad 3, .inl (cI, 1768, .inl sd32)), (ad 4, .inl (cI, 80, .inl tx)), (ad 5, .inl (cI, 8, .inl u33.2.1)), (ad 6, .inl (cI, 8, .inl u33.2.2.1))]) H := hP
    have hD : va_D A ([(ad 0, .inr (5, [.int (nI 0), .ref (ad 1), .ref (ad 2), .ref (ad 3), .int (nI ((pu F Q0 HS).length)), .ref (ad 4), .int (nI len), .int (nI (askV F Q0 t9 r9 p2)), .ref (ad 5), .ref (ad 6), .int u33.2.2.2, .int cm, .int fi, .int se])), (ad 1, .inl (cI, 221, .inl u33.1)), (ad 2, .inl (cI, 221, .inl zs)), (ad 3, .inl (cI, 1768, .inl sd32)), (ad 4, .inl (cI, 80, .inl tx)), (ad 5, .inl (cI, 8, .inl u33.2.1)), (ad 6, .inl (cI, 8, .inl u33.2.2.1))]) := hD
    exact ret_i (u := ((nI 0), (nI (askV F Q0 t9 r9 p2)), u33.2.2.2, cm, fi, se, u33.1, zs, sd32, tx, u33.2.1, u33.2.2.1)) hQ hx hb hrt hlk hS dX5_request_31 (by rw [et9, er9, opRequest_0 ht9 hr9 hmd hs9]; exact hP) (by rw [et9, er9, opRequest_0 ht9 hr9 hmd hs9]; exact ⟨rfl, rfl, (LZ_mk hJ33 ((JC_ask (JJ_pl hJ ht9 hr9 h3 h0 hm) hC).mono (by omega)) hZ33 pu_le hH32 (all_mono (by omega) (pu_all hJ hC hHS)) hlen htx hsg)⟩)
  · have h_1 := mt (nI_leI (a := (wR F p0 p1 p2)) (b := 0) (by first | omega | exact bits_lt31 _ | exact bitN_lt _ _ | exact bool_lt _ | exact and_lt31 _ _ _ _ | exact Nat.lt_of_le_of_lt (dst_lt _ _ _ (by omega) _) (by decide) | exact Nat.lt_of_le_of_lt (nrB_le _ _ _ (by omega)).2 (by decide) | decide) (by first | omega | exact bits_lt31 _ | exact bitN_lt _ _ | exact bool_lt _ | exact and_lt31 _ _ _ _ | exact Nat.lt_of_le_of_lt (dst_lt _ _ _ (by omega) _) (by decide) | exact Nat.lt_of_le_of_lt (nrB_le _ _ _ (by omega)).2 (by decide) | decide)).mpr h_1
    refine lv_iconst (v := (nI 0)) hx hb dX5_request_18 (by decide) ?_
    exact ret_i (u := ((nI (wR F p0 p1 p2)), vs, rl, cm, fi, se, z, zs, sd, tx, ds, rg)) hQ hx hb hrt hlk hS dX5_request_19 (by rw [wR_op (s := (F, Q0, HS, sg, len)) h_1]; exact hP) (by rw [wR_op (s := (F, Q0, HS, sg, len)) h_1]; exact ⟨rfl, rfl, (LZ.mono hL (by omega))⟩)

abbrev rX5_work : Room := { frames := 3, cells := 0, slots := 0, locals := 65 }
set_option maxHeartbeats 1000000 in
set_option maxRecDepth 100000 in
theorem c_X5_work (l : Launch) (D : va_G) (cI cT : ClassId) (ad : Nat → Nat) (th sv ln vs rl cm fi se : Int32) (z zs sd tx ds rg : Nat → Int32) (F : FF) (Q0 : QQ) (HS : List (FF × QQ)) (sg : Nat → Nat) (len n : Nat) (p0 p1 : Int32) (hL : LZ n (F, Q0, HS, sg, len) z sd tx) (hn : n + 80 < 2 ^ 31) : CN l D cI cT yX5_work wsX5_work rX5_work [.ref (ad 0), .int p0, .int p1] (refW cI ad th (nI HS.length) (nI len) vs rl cm fi se z zs sd tx ds rg) (S := JR) (fun v u => v = (opWork (F, Q0, HS, sg, len) p0 p1).2.1 ∧ u.1 = nI (opWork (F, Q0, HS, sg, len) p0 p1).1 ∧ LZu (n + 80) (opWork (F, Q0, HS, sg, len) p0 p1).2.2 u) (fun u => rfW cI ad (opWork (F, Q0, HS, sg, len) p0 p1).2.2 u) := by
  refine CN.of (cc := cX5_work) (maxL := 3) (ret := (some .int)) (by decide) rfl (Nat.le_of_ble_eq_true rfl) ?_
  intro p e s m args below meth c A Q hQ B hA H locs hP hK hD hS ls hl
  obtain ⟨hx, hb, hml, hrt, hts, hown, hlk⟩ := B
  have hP : va_P D vwCl ([(ad 0, .inr (5, [.int th, .ref (ad 1), .ref (ad 2), .ref (ad 3), .int (nI HS.length), .ref (ad 4), .int (nI len), .int vs, .ref (ad 5), .ref (ad 6), .int rl, .int cm, .int fi, .int se])), (ad 1, .inl (cI, 221, .inl z)), (ad 2, .inl (cI, 221, .inl zs)), (ad 3, .inl (cI, 1768, .inl sd)), (ad 4, .inl (cI, 80, .inl tx)), (ad 5, .inl (cI, 8, .inl ds)), (ad 6, .inl (cI, 8, .inl rg))]) H := hP
  have hD : va_D A ([(ad 0, .inr (5, [.int th, .ref (ad 1), .ref (ad 2), .ref (ad 3), .int (nI HS.length), .ref (ad 4), .int (nI len), .int vs, .ref (ad 5), .ref (ad 6), .int rl, .int cm, .int fi, .int se])), (ad 1, .inl (cI, 221, .inl z)), (ad 2, .inl (cI, 221, .inl zs)), (ad 3, .inl (cI, 1768, .inl sd)), (ad 4, .inl (cI, 80, .inl tx)), (ad 5, .inl (cI, 8, .inl ds)), (ad 6, .inl (cI, 8, .inl rg))]) := hD
  have hl : lv_has ls 3 [(0, .ref (ad 0)), (1, .int p0), (2, .int p1)] := hl
  obtain ⟨hJ, hC, hZ, hl8, hH, hHS, hlen, htx, hsg⟩ := hL
  dsimp only at hJ hC hZ hl8 hH hHS hlen htx hsg
  have hL := LZ_mk hJ hC hZ hl8 hH hHS hlen htx hsg
  have hB := hC.jb
  have hn8 := hC.n8 (by omega)
  have hHJ : ∀ q ∈ HS, JJ q.1 q.2 := fun q hq => (hHS q hq).1
  have iX5 : ∀ w ∈ u_ws RX5 TX5 14, w ∈ wsX5_work := by decide +kernel
  have f32 := hts (.fieldLink RX5 32 "LockManagerModel" "thrown" "I") (by decide +kernel)
  refine lv_aload_n hx hb dX5_work_0 rfl (lv_at hl 0 rfl) ?_
  refine lv_aload_n hx hb dX5_work_1 rfl (lv_at hl 0 rfl) ?_
  refine lv_iload_n hx hb dX5_work_2 rfl (lv_at hl 1 rfl) ?_
  refine lv_iload_n hx hb dX5_work_3 rfl (lv_at hl 2 rfl) ?_
  refine call_i (X := []) (Z := []) (As := [.int p0, .int p1]) (rest := [.ref (ad 0)]) ⟨hx, hb, hml, hown, hts⟩ (c_X5_whyNoWork l D cI cT ad th (nI HS.length) (nI len) vs rl cm fi se z zs sd tx ds rg F Q0 p0 p1 hZ) (cwV 2 hts gX5_work_X5_whyNoWork rfl rfl rfl (by decide +kernel) ⟨Nat.le_of_ble_eq_true rfl, Nat.le_of_ble_eq_true rfl⟩) hK hP hD hS hA (va_recv hK hP (ci := 5) (q0 := 0) rfl rfl) (fun _ => rfl) rfl hl.1 rfl (Nat.le_of_ble_eq_true rfl) ⟨by decide, by decide⟩ dX5_work_4 (fun rv _ H locs hp hP hD hS => ?_)
  obtain rfl := hp
  have hP : va_P D vwCl ([(ad 0, .inr (5, [.int th, .ref (ad 1), .ref (ad 2), .ref (ad 3), .int (nI HS.length), .ref (ad 4), .int (nI len), .int vs, .ref (ad 5), .ref (ad 6), .int rl, .int cm, .int fi, .int se])), (ad 1, .inl (cI, 221, .inl z)), (ad 2, .inl (cI, 221, .inl zs)), (ad 3, .inl (cI, 1768, .inl sd)), (ad 4, .inl (cI, 80, .inl tx)), (ad 5, .inl (cI, 8, .inl ds)), (ad 6, .inl (cI, 8, .inl rg))]) H := hP
  have hD : va_D A ([(ad 0, .inr (5, [.int th, .ref (ad 1), .ref (ad 2), .ref (ad 3), .int (nI HS.length), .ref (ad 4), .int (nI len), .int vs, .ref (ad 5), .ref (ad 6), .int rl, .int cm, .int fi, .int se])), (ad 1, .inl (cI, 221, .inl z)), (ad 2, .inl (cI, 221, .inl zs)), (ad 3, .inl (cI, 1768, .inl sd)), (ad 4, .inl (cI, 80, .inl tx)), (ad 5, .inl (cI, 8, .inl ds)), (ad 6, .inl (cI, 8, .inl rg))]) := hD
  have hw3 : wW F p0 p1 ≤ 3 := wW_le
  refine va_put (D := D) (ci := 5) (v := .int (nI (wW F p0 p1))) (ty := .int) (C := RX5) (T := TX5) (N := 14) hx hb hts iX5 tyX5 tyX5_ok nmX5 hown hK hP hD hS 0 rfl rfl 0 (by decide) f32 (fun _ h9 => h9) rfl (by decide +kernel) rfl rfl (Nat.le_of_ble_eq_true rfl) dX5_work_7 (fun H locs hP hD hS => ?_)
  have hP : va_P D vwCl ([(ad 0, .inr (5, [.int (nI (wW F p0 p1)), .ref (ad 1), .ref (ad 2), .ref (ad 3), .int (nI HS.length), .ref (ad 4), .int (nI len), .int vs, .ref (ad 5), .ref (ad 6), .int rl, .int cm, .int fi, .int se])), (ad 1, .inl (cI, 221, .inl z)), (ad 2, .inl (cI, 221, .inl zs)), (ad 3, .inl (cI, 1768, .inl sd)), (ad 4, .inl (cI, 80, .inl tx)), (ad 5, .inl (cI, 8, .inl ds)), (ad 6, .inl (cI, 8, .inl rg))]) H := hP
  have hD : va_D A ([(ad 0, .inr (5, [.int (nI (wW F p0 p1)), .ref (ad 1), .ref (ad 2), .ref (ad 3), .int (nI HS.length), .ref (ad 4), .int (nI len), .int vs, .ref (ad 5), .ref (ad 6), .int rl, .int cm, .int fi, .int se])), (ad 1, .inl (cI, 221, .inl z)), (ad 2, .inl (cI, 221, .inl zs)), (ad 3, .inl (cI, 1768, .inl sd)), (ad 4, .inl (cI, 80, .inl tx)), (ad 5, .inl (cI, 8, .inl ds)), (ad 6, .inl (cI, 8, .inl rg))]) := hD
  refine lv_aload_n hx hb dX5_work_10 rfl (lv_at hl 0 rfl) ?_
  refine va_get (D := D) (ci := 5) (v := .int (nI (wW F p0 p1))) (C := RX5) (T := TX5) (N := 14) hx hb hts iX5 hown hK hP 0 rfl rfl 0 (by decide) f32 (fun _ h9 => h9) rfl dX5_work_11 ?_
  refine lv_if_le (tgt := 19) hx hb dX5_work_14 (by decide) (fun h_1 => ?_) (fun h_1 => ?_)
  · have h_1 := (nI_leI (a := (wW F p0 p1)) (b := 0) (by first | omega | exact bits_lt31 _ | exact bitN_lt _ _ | exact bool_lt _ | exact and_lt31 _ _ _ _ | exact Nat.lt_of_le_of_lt (dst_lt _ _ _ (by omega) _) (by decide) | exact Nat.lt_of_le_of_lt (nrB_le _ _ _ (by omega)).2 (by decide) | decide) (by first | omega | exact bits_lt31 _ | exact bitN_lt _ _ | exact bool_lt _ | exact and_lt31 _ _ _ _ | exact Nat.lt_of_le_of_lt (dst_lt _ _ _ (by omega) _) (by decide) | exact Nat.lt_of_le_of_lt (nrB_le _ _ _ (by omega)).2 (by decide) | decide)).mp h_1
    have hth : wW F p0 p1 = 0 := Nat.le_zero.mp h_1
    rw [hth] at hP hD
    have hP : va_P D vwCl ([(ad 0, .inr (5, [.int (nI 0), .ref (ad 1), .ref (ad 2), .ref (ad 3), .int (nI HS.length), .ref (ad 4), .int (nI len), .int vs, .ref (ad 5), .ref (ad 6), .int rl, .int cm, .int fi, .int se])), (ad 1, .inl (cI, 221, .inl z)), (ad 2, .inl (cI, 221, .inl zs)), (ad 3, .inl (cI, 1768, .inl sd)), (ad 4, .inl (cI, 80, .inl tx)), (ad 5, .inl (cI, 8, .inl ds)), (ad 6, .inl (cI, 8, .inl rg))]) H := hP
    have hD : va_D A ([(ad 0, .inr (5, [.int (nI 0), .ref (ad 1), .ref (ad 2), .ref (ad 3), .int (nI HS.length), .ref (ad 4), .int (nI len), .int vs, .ref (ad 5), .ref (ad 6), .int rl, .int cm, .int fi, .int se])), (ad 1, .inl (cI, 221, .inl z)), (ad 2, .inl (cI, 221, .inl zs)), (ad 3, .inl (cI, 1768, .inl sd)), (ad 4, .inl (cI, 80, .inl tx)), (ad 5, .inl (cI, 8, .inl ds)), (ad 6, .inl (cI, 8, .inl rg))]) := hD
    obtain ⟨t9, ht9, et9, ha1, ha2, hs9⟩ := wW_0 h_1
    rw [et9] at hl
    refine lv_aload_n hx hb dX5_work_19 rfl (lv_at hl 0 rfl) ?_
    refine call_v (X := []) (Z := []) (As := []) (rest := []) ⟨hx, hb, hml, hown, hts⟩ (c_X5_save l D cI cT ad (nI 0) (nI HS.length) (nI len) vs rl cm fi se z zs sd tx ds rg F Q0 HS hl8 hHJ hH hZ hJ) (cwV 0 hts gX5_work_X5_save rfl rfl rfl (by decide +kernel) ⟨Nat.le_of_ble_eq_true rfl, Nat.le_of_ble_eq_true rfl⟩) hK hP hD hS hA (va_recv hK hP (ci := 5) (q0 := 0) rfl rfl) (fun _ => adr_ref.trans adr_ref.symm) rfl hl.1 rfl (Nat.le_of_ble_eq_true rfl) ⟨by decide, by decide⟩ dX5_work_20 (fun sd34 H locs hp hP hD hS => ?_)
    have hH34 := hp
    have hP : va_P D vwCl ([(ad 0, .inr (5, [.int (nI 0), .ref (ad 1), .ref (ad 2), .ref (ad 3), .int (nI ((pu F Q0 HS).length)), .ref (ad 4), .int (nI len), .int vs, .ref (ad 5), .ref (ad 6), .int rl, .int cm, .int fi, .int se])), (ad 1, .inl (cI, 221, .inl z)), (ad 2, .inl (cI, 221, .inl zs)), (ad 3, .inl (cI, 1768, .inl sd34)), (ad 4, .inl (cI, 80, .inl tx)), (ad 5, .inl (cI, 8, .inl ds)), (ad 6, .inl (cI, 8, .inl rg))]) H := hP
    have hD : va_D A ([(ad 0, .inr (5, [.int (nI 0), .ref (ad 1), .ref (ad 2), .ref (ad 3), .int (nI ((pu F Q0 HS).length)), .ref (ad 4), .int (nI len), .int vs, .ref (ad 5), .ref (ad 6), .int rl, .int cm, .int fi, .int se])), (ad 1, .inl (cI, 221, .inl z)), (ad 2, .inl (cI, 221, .inl zs)), (ad 3, .inl (cI, 1768, .inl sd34)), (ad 4, .inl (cI, 80, .inl tx)), (ad 5, .inl (cI, 8, .inl ds)), (ad 6, .inl (cI, 8, .inl rg))]) := hD
    refine lv_aload_n hx hb dX5_work_23 rfl (lv_at hl 0 rfl) ?_
    refine lv_iload_n hx hb dX5_work_24 rfl (lv_at hl 1 rfl) ?_
    refine lv_iload_n hx hb dX5_work_25 rfl (lv_at hl 2 rfl) ?_
    refine call_i (X := []) (Z := []) (As := [.int (nI t9), .int p1]) (rest := []) ⟨hx, hb, hml, hown, hts⟩ (c_X5_doWork l D cI cT ad (nI 0) (nI ((pu F Q0 HS).length)) (nI len) vs rl cm fi se z zs sd34 tx ds rg F Q0 t9 p1 (by omega) hZ hJ) (cwV 2 hts gX5_work_X5_doWork rfl rfl rfl (by decide +kernel) ⟨Nat.le_of_ble_eq_true rfl, Nat.le_of_ble_eq_true rfl⟩) hK hP hD hS hA (va_recv hK hP (ci := 5) (q0 := 0) rfl rfl) (fun _ => adr_ref.trans adr_ref.symm) rfl hl.1 rfl (Nat.le_of_ble_eq_true rfl) ⟨by decide, by decide⟩ dX5_work_26 (fun rv z35 H locs hp hP hD hS => ?_)
    obtain ⟨rfl, hZ35⟩ := hp
    have hJ35 := JJ_work (t := t9) (v := F 1 t9 + p1) hJ
    have hP : va_P D vwCl ([(ad 0, .inr (5, [.int (nI 0), .ref (ad 1), .ref (ad 2), .ref (ad 3), .int (nI ((pu F Q0 HS).length)), .ref (ad 4), .int (nI len), .int vs, .ref (ad 5), .ref (ad 6), .int rl, .int cm, .int fi, .int se])), (ad 1, .inl (cI, 221, .inl z35)), (ad 2, .inl (cI, 221, .inl zs)), (ad 3, .inl (cI, 1768, .inl sd34)), (ad 4, .inl (cI, 80, .inl tx)), (ad 5, .inl (cI, 8, .inl ds)), (ad 6, .inl (cI, 8, .inl rg))]) H := hP
    have hD : va_D A ([(ad 0, .inr (5, [.int (nI 0), .ref (ad 1), .ref (ad 2), .ref (ad 3), .int (nI ((pu F Q0 HS).length)), .ref (ad 4), .int (nI len), .int vs, .ref (ad 5), .ref (ad 6), .int rl, .int cm, .int fi, .int se])), (ad 1, .inl (cI, 221, .inl z35)), (ad 2, .inl (cI, 221, .inl zs)), (ad 3, .inl (cI, 1768, .inl sd34)), (ad 4, .inl (cI, 80, .inl tx)), (ad 5, .inl (cI, 8, .inl ds)), (ad 6, .inl (cI, 8, .inl rg))]) := hD
    exact ret_i (u := ((nI 0), vs, rl, cm, fi, se, z35, zs, sd34, tx, ds, rg)) hQ hx hb hrt hlk hS dX5_work_29 (by rw [et9, opWork_0 ht9 ha1 ha2 hs9]; exact hP) (by rw [et9, opWork_0 ht9 ha1 ha2 hs9]; exact ⟨rfl, rfl, (LZ_mk hJ35 ((JC_work hC).mono (by omega)) hZ35 pu_le hH34 (all_mono (by omega) (pu_all hJ hC hHS)) hlen htx hsg)⟩)
  · have h_1 := mt (nI_leI (a := (wW F p0 p1)) (b := 0) (by first | omega | exact bits_lt31 _ | exact bitN_lt _ _ | exact bool_lt _ | exact and_lt31 _ _ _ _ | exact Nat.lt_of_le_of_lt (dst_lt _ _ _ (by omega) _) (by decide) | exact Nat.lt_of_le_of_lt (nrB_le _ _ _ (by omega)).2 (by decide) | decide) (by first | omega | exact bits_lt31 _ | exact bitN_lt _ _ | exact bool_lt _ | exact and_lt31 _ _ _ _ | exact Nat.lt_of_le_of_lt (dst_lt _ _ _ (by omega) _) (by decide) | exact Nat.lt_of_le_of_lt (nrB_le _ _ _ (by omega)).2 (by decide) | decide)).mpr h_1
    refine lv_iconst (v := (nI 0)) hx hb dX5_work_17 (by decide) ?_
    exact ret_i (u := ((nI (wW F p0 p1)), vs, rl, cm, fi, se, z, zs, sd, tx, ds, rg)) hQ hx hb hrt hlk hS dX5_work_18 (by rw [wW_op (s := (F, Q0, HS, sg, len)) h_1]; exact hP) (by rw [wW_op (s := (F, Q0, HS, sg, len)) h_1]; exact ⟨rfl, rfl, (LZ.mono hL (by omega))⟩)

abbrev rX5_withdraw : Room := { frames := 5, cells := 0, slots := 0, locals := 114 }
set_option maxHeartbeats 1000000 in
set_option maxRecDepth 100000 in
theorem c_X5_withdraw (l : Launch) (D : va_G) (cI cT : ClassId) (ad : Nat → Nat) (th sv ln vs rl cm fi se : Int32) (z zs sd tx ds rg : Nat → Int32) (F : FF) (Q0 : QQ) (HS : List (FF × QQ)) (sg : Nat → Nat) (len n : Nat) (p0 : Int32) (hL : LZ n (F, Q0, HS, sg, len) z sd tx) (hn : n + 80 < 2 ^ 31) : CN l D cI cT yX5_withdraw wsX5_withdraw rX5_withdraw [.ref (ad 0), .int p0] (refW cI ad th (nI HS.length) (nI len) vs rl cm fi se z zs sd tx ds rg) (S := JR) (fun v u => v = (opWithdraw (F, Q0, HS, sg, len) p0).2.1 ∧ u.1 = nI (opWithdraw (F, Q0, HS, sg, len) p0).1 ∧ LZu (n + 80) (opWithdraw (F, Q0, HS, sg, len) p0).2.2 u) (fun u => rfW cI ad (opWithdraw (F, Q0, HS, sg, len) p0).2.2 u) := by
  refine CN.of (cc := cX5_withdraw) (maxL := 2) (ret := (some .int)) (by decide) rfl (Nat.le_of_ble_eq_true rfl) ?_
  intro p e s m args below meth c A Q hQ B hA H locs hP hK hD hS ls hl
  obtain ⟨hx, hb, hml, hrt, hts, hown, hlk⟩ := B
  have hP : va_P D vwCl ([(ad 0, .inr (5, [.int th, .ref (ad 1), .ref (ad 2), .ref (ad 3), .int (nI HS.length), .ref (ad 4), .int (nI len), .int vs, .ref (ad 5), .ref (ad 6), .int rl, .int cm, .int fi, .int se])), (ad 1, .inl (cI, 221, .inl z)), (ad 2, .inl (cI, 221, .inl zs)), (ad 3, .inl (cI, 1768, .inl sd)), (ad 4, .inl (cI, 80, .inl tx)), (ad 5, .inl (cI, 8, .inl ds)), (ad 6, .inl (cI, 8, .inl rg))]) H := hP
  have hD : va_D A ([(ad 0, .inr (5, [.int th, .ref (ad 1), .ref (ad 2), .ref (ad 3), .int (nI HS.length), .ref (ad 4), .int (nI len), .int vs, .ref (ad 5), .ref (ad 6), .int rl, .int cm, .int fi, .int se])), (ad 1, .inl (cI, 221, .inl z)), (ad 2, .inl (cI, 221, .inl zs)), (ad 3, .inl (cI, 1768, .inl sd)), (ad 4, .inl (cI, 80, .inl tx)), (ad 5, .inl (cI, 8, .inl ds)), (ad 6, .inl (cI, 8, .inl rg))]) := hD
  have hl : lv_has ls 2 [(0, .ref (ad 0)), (1, .int p0)] := hl
  obtain ⟨hJ, hC, hZ, hl8, hH, hHS, hlen, htx, hsg⟩ := hL
  dsimp only at hJ hC hZ hl8 hH hHS hlen htx hsg
  have hL := LZ_mk hJ hC hZ hl8 hH hHS hlen htx hsg
  have hB := hC.jb
  have hn8 := hC.n8 (by omega)
  have hHJ : ∀ q ∈ HS, JJ q.1 q.2 := fun q hq => (hHS q hq).1
  have iX5 : ∀ w ∈ u_ws RX5 TX5 14, w ∈ wsX5_withdraw := by decide +kernel
  have f32 := hts (.fieldLink RX5 32 "LockManagerModel" "thrown" "I") (by decide +kernel)
  refine lv_aload_n hx hb dX5_withdraw_0 rfl (lv_at hl 0 rfl) ?_
  refine lv_aload_n hx hb dX5_withdraw_1 rfl (lv_at hl 0 rfl) ?_
  refine lv_iload_n hx hb dX5_withdraw_2 rfl (lv_at hl 1 rfl) ?_
  refine call_i (X := []) (Z := []) (As := [.int p0]) (rest := [.ref (ad 0)]) ⟨hx, hb, hml, hown, hts⟩ (c_X5_whyNoWithdraw l D cI cT ad th (nI HS.length) (nI len) vs rl cm fi se z zs sd tx ds rg F Q0 p0 hZ) (cwV 1 hts gX5_withdraw_X5_whyNoWithdraw rfl rfl rfl (by decide +kernel) ⟨Nat.le_of_ble_eq_true rfl, Nat.le_of_ble_eq_true rfl⟩) hK hP hD hS hA (va_recv hK hP (ci := 5) (q0 := 0) rfl rfl) (fun _ => rfl) rfl hl.1 rfl (Nat.le_of_ble_eq_true rfl) ⟨by decide, by decide⟩ dX5_withdraw_3 (fun rv _ H locs hp hP hD hS => ?_)
  obtain rfl := hp
  have hP : va_P D vwCl ([(ad 0, .inr (5, [.int th, .ref (ad 1), .ref (ad 2), .ref (ad 3), .int (nI HS.length), .ref (ad 4), .int (nI len), .int vs, .ref (ad 5), .ref (ad 6), .int rl, .int cm, .int fi, .int se])), (ad 1, .inl (cI, 221, .inl z)), (ad 2, .inl (cI, 221, .inl zs)), (ad 3, .inl (cI, 1768, .inl sd)), (ad 4, .inl (cI, 80, .inl tx)), (ad 5, .inl (cI, 8, .inl ds)), (ad 6, .inl (cI, 8, .inl rg))]) H := hP
  have hD : va_D A ([(ad 0, .inr (5, [.int th, .ref (ad 1), .ref (ad 2), .ref (ad 3), .int (nI HS.length), .ref (ad 4), .int (nI len), .int vs, .ref (ad 5), .ref (ad 6), .int rl, .int cm, .int fi, .int se])), (ad 1, .inl (cI, 221, .inl z)), (ad 2, .inl (cI, 221, .inl zs)), (ad 3, .inl (cI, 1768, .inl sd)), (ad 4, .inl (cI, 80, .inl tx)), (ad 5, .inl (cI, 8, .inl ds)), (ad 6, .inl (cI, 8, .inl rg))]) := hD
  have hw3 : wD F p0 ≤ 3 := wD_le
  refine va_put (D := D) (ci := 5) (v := .int (nI (wD F p0))) (ty := .int) (C := RX5) (T := TX5) (N := 14) hx hb hts iX5 tyX5 tyX5_ok nmX5 hown hK hP hD hS 0 rfl rfl 0 (by decide) f32 (fun _ h9 => h9) rfl (by decide +kernel) rfl rfl (Nat.le_of_ble_eq_true rfl) dX5_withdraw_6 (fun H locs hP hD hS => ?_)
  have hP : va_P D vwCl ([(ad 0, .inr (5, [.int (nI (wD F p0)), .ref (ad 1), .ref (ad 2), .ref (ad 3), .int (nI HS.length), .ref (ad 4), .int (nI len), .int vs, .ref (ad 5), .ref (ad 6), .int rl, .int cm, .int fi, .int se])), (ad 1, .inl (cI, 221, .inl z)), (ad 2, .inl (cI, 221, .inl zs)), (ad 3, .inl (cI, 1768, .inl sd)), (ad 4, .inl (cI, 80, .inl tx)), (ad 5, .inl (cI, 8, .inl ds)), (ad 6, .inl (cI, 8, .inl rg))]) H := hP
  have hD : va_D A ([(ad 0, .inr (5, [.int (nI (wD F p0)), .ref (ad 1), .ref (ad 2), .ref (ad 3), .int (nI HS.length), .ref (ad 4), .int (nI len), .int vs, .ref (ad 5), .ref (ad 6), .int rl, .int cm, .int fi, .int se])), (ad 1, .inl (cI, 221, .inl z)), (ad 2, .inl (cI, 221, .inl zs)), (ad 3, .inl (cI, 1768, .inl sd)), (ad 4, .inl (cI, 80, .inl tx)), (ad 5, .inl (cI, 8, .inl ds)), (ad 6, .inl (cI, 8, .inl rg))]) := hD
  refine lv_aload_n hx hb dX5_withdraw_9 rfl (lv_at hl 0 rfl) ?_
  refine va_get (D := D) (ci := 5) (v := .int (nI (wD F p0))) (C := RX5) (T := TX5) (N := 14) hx hb hts iX5 hown hK hP 0 rfl rfl 0 (by decide) f32 (fun _ h9 => h9) rfl dX5_withdraw_10 ?_
  refine lv_if_le (tgt := 18) hx hb dX5_withdraw_13 (by decide) (fun h_1 => ?_) (fun h_1 => ?_)
  · have h_1 := (nI_leI (a := (wD F p0)) (b := 0) (by first | omega | exact bits_lt31 _ | exact bitN_lt _ _ | exact bool_lt _ | exact and_lt31 _ _ _ _ | exact Nat.lt_of_le_of_lt (dst_lt _ _ _ (by omega) _) (by decide) | exact Nat.lt_of_le_of_lt (nrB_le _ _ _ (by omega)).2 (by decide) | decide) (by first | omega | exact bits_lt31 _ | exact bitN_lt _ _ | exact bool_lt _ | exact and_lt31 _ _ _ _ | exact Nat.lt_of_le_of_lt (dst_lt _ _ _ (by omega) _) (by decide) | exact Nat.lt_of_le_of_lt (nrB_le _ _ _ (by omega)).2 (by decide) | decide)).mp h_1
    have hth : wD F p0 = 0 := Nat.le_zero.mp h_1
    rw [hth] at hP hD
    have hP : va_P D vwCl ([(ad 0, .inr (5, [.int (nI 0), .ref (ad 1), .ref (ad 2), .ref (ad 3), .int (nI HS.length), .ref (ad 4), .int (nI len), .int vs, .ref (ad 5), .ref (ad 6), .int rl, .int cm, .int fi, .int se])), (ad 1, .inl (cI, 221, .inl z)), (ad 2, .inl (cI, 221, .inl zs)), (ad 3, .inl (cI, 1768, .inl sd)), (ad 4, .inl (cI, 80, .inl tx)), (ad 5, .inl (cI, 8, .inl ds)), (ad 6, .inl (cI, 8, .inl rg))]) H := hP
    have hD : va_D A ([(ad 0, .inr (5, [.int (nI 0), .ref (ad 1), .ref (ad 2), .ref (ad 3), .int (nI HS.length), .ref (ad 4), .int (nI len), .int vs, .ref (ad 5), .ref (ad 6), .int rl, .int cm, .int fi, .int se])), (ad 1, .inl (cI, 221, .inl z)), (ad 2, .inl (cI, 221, .inl zs)), (ad 3, .inl (cI, 1768, .inl sd)), (ad 4, .inl (cI, 80, .inl tx)), (ad 5, .inl (cI, 8, .inl ds)), (ad 6, .inl (cI, 8, .inl rg))]) := hD
    obtain ⟨t9, ht9, et9, hs9⟩ := wD_0 h_1
    rw [et9] at hl
    have n3 := (st_w hJ ht9).mp hs9
    refine lv_aload_n hx hb dX5_withdraw_18 rfl (lv_at hl 0 rfl) ?_
    refine call_v (X := []) (Z := []) (As := []) (rest := []) ⟨hx, hb, hml, hown, hts⟩ (c_X5_save l D cI cT ad (nI 0) (nI HS.length) (nI len) vs rl cm fi se z zs sd tx ds rg F Q0 HS hl8 hHJ hH hZ hJ) (cwV 0 hts gX5_withdraw_X5_save rfl rfl rfl (by decide +kernel) ⟨Nat.le_of_ble_eq_true rfl, Nat.le_of_ble_eq_true rfl⟩) hK hP hD hS hA (va_recv hK hP (ci := 5) (q0 := 0) rfl rfl) (fun _ => adr_ref.trans adr_ref.symm) rfl hl.1 rfl (Nat.le_of_ble_eq_true rfl) ⟨by decide, by decide⟩ dX5_withdraw_19 (fun sd36 H locs hp hP hD hS => ?_)
    have hH36 := hp
    have hP : va_P D vwCl ([(ad 0, .inr (5, [.int (nI 0), .ref (ad 1), .ref (ad 2), .ref (ad 3), .int (nI ((pu F Q0 HS).length)), .ref (ad 4), .int (nI len), .int vs, .ref (ad 5), .ref (ad 6), .int rl, .int cm, .int fi, .int se])), (ad 1, .inl (cI, 221, .inl z)), (ad 2, .inl (cI, 221, .inl zs)), (ad 3, .inl (cI, 1768, .inl sd36)), (ad 4, .inl (cI, 80, .inl tx)), (ad 5, .inl (cI, 8, .inl ds)), (ad 6, .inl (cI, 8, .inl rg))]) H := hP
    have hD : va_D A ([(ad 0, .inr (5, [.int (nI 0), .ref (ad 1), .ref (ad 2), .ref (ad 3), .int (nI ((pu F Q0 HS).length)), .ref (ad 4), .int (nI len), .int vs, .ref (ad 5), .ref (ad 6), .int rl, .int cm, .int fi, .int se])), (ad 1, .inl (cI, 221, .inl z)), (ad 2, .inl (cI, 221, .inl zs)), (ad 3, .inl (cI, 1768, .inl sd36)), (ad 4, .inl (cI, 80, .inl tx)), (ad 5, .inl (cI, 8, .inl ds)), (ad 6, .inl (cI, 8, .inl rg))]) := hD
    refine lv_aload_n hx hb dX5_withdraw_22 rfl (lv_at hl 0 rfl) ?_
    refine lv_iload_n hx hb dX5_withdraw_23 rfl (lv_at hl 1 rfl) ?_
    refine call_i (X := []) (Z := []) (As := [.int (nI t9)]) (rest := []) ⟨hx, hb, hml, hown, hts⟩ (c_X5_doWithdraw l D cI cT ad (nI 0) (nI ((pu F Q0 HS).length)) (nI len) vs rl cm fi se z zs sd36 tx ds rg F Q0 t9 (by omega) n3 hZ hJ) (cwV 1 hts gX5_withdraw_X5_doWithdraw rfl rfl rfl (by decide +kernel) ⟨Nat.le_of_ble_eq_true rfl, Nat.le_of_ble_eq_true rfl⟩) hK hP hD hS hA (va_recv hK hP (ci := 5) (q0 := 0) rfl rfl) (fun _ => adr_ref.trans adr_ref.symm) rfl hl.1 rfl (Nat.le_of_ble_eq_true rfl) ⟨by decide, by decide⟩ dX5_withdraw_24 (fun rv z37 H locs hp hP hD hS => ?_)
    obtain ⟨rfl, hZ37⟩ := hp
    have hJ37 := JJ_srv (JJ_rm hJ (t := t9) (by omega))
    have hP : va_P D vwCl ([(ad 0, .inr (5, [.int (nI 0), .ref (ad 1), .ref (ad 2), .ref (ad 3), .int (nI ((pu F Q0 HS).length)), .ref (ad 4), .int (nI len), .int vs, .ref (ad 5), .ref (ad 6), .int rl, .int cm, .int fi, .int se])), (ad 1, .inl (cI, 221, .inl z37)), (ad 2, .inl (cI, 221, .inl zs)), (ad 3, .inl (cI, 1768, .inl sd36)), (ad 4, .inl (cI, 80, .inl tx)), (ad 5, .inl (cI, 8, .inl ds)), (ad 6, .inl (cI, 8, .inl rg))]) H := hP
    have hD : va_D A ([(ad 0, .inr (5, [.int (nI 0), .ref (ad 1), .ref (ad 2), .ref (ad 3), .int (nI ((pu F Q0 HS).length)), .ref (ad 4), .int (nI len), .int vs, .ref (ad 5), .ref (ad 6), .int rl, .int cm, .int fi, .int se])), (ad 1, .inl (cI, 221, .inl z37)), (ad 2, .inl (cI, 221, .inl zs)), (ad 3, .inl (cI, 1768, .inl sd36)), (ad 4, .inl (cI, 80, .inl tx)), (ad 5, .inl (cI, 8, .inl ds)), (ad 6, .inl (cI, 8, .inl rg))]) := hD
    exact ret_i (u := ((nI 0), vs, rl, cm, fi, se, z37, zs, sd36, tx, ds, rg)) hQ hx hb hrt hlk hS dX5_withdraw_27 (by rw [et9, opWithdraw_0 ht9 hs9]; exact hP) (by rw [et9, opWithdraw_0 ht9 hs9]; exact ⟨rfl, rfl, (LZ_mk hJ37 ((JC_srv (JJ_rm hJ (t := t9) ht9) (JC_rm hC)).mono (by omega)) hZ37 pu_le hH36 (all_mono (by omega) (pu_all hJ hC hHS)) hlen htx hsg)⟩)
  · have h_1 := mt (nI_leI (a := (wD F p0)) (b := 0) (by first | omega | exact bits_lt31 _ | exact bitN_lt _ _ | exact bool_lt _ | exact and_lt31 _ _ _ _ | exact Nat.lt_of_le_of_lt (dst_lt _ _ _ (by omega) _) (by decide) | exact Nat.lt_of_le_of_lt (nrB_le _ _ _ (by omega)).2 (by decide) | decide) (by first | omega | exact bits_lt31 _ | exact bitN_lt _ _ | exact bool_lt _ | exact and_lt31 _ _ _ _ | exact Nat.lt_of_le_of_lt (dst_lt _ _ _ (by omega) _) (by decide) | exact Nat.lt_of_le_of_lt (nrB_le _ _ _ (by omega)).2 (by decide) | decide)).mpr h_1
    refine lv_iconst (v := (nI 0)) hx hb dX5_withdraw_16 (by decide) ?_
    exact ret_i (u := ((nI (wD F p0)), vs, rl, cm, fi, se, z, zs, sd, tx, ds, rg)) hQ hx hb hrt hlk hS dX5_withdraw_17 (by rw [wD_op (s := (F, Q0, HS, sg, len)) h_1]; exact hP) (by rw [wD_op (s := (F, Q0, HS, sg, len)) h_1]; exact ⟨rfl, rfl, (LZ.mono hL (by omega))⟩)

abbrev rX5_commit : Room := { frames := 5, cells := 0, slots := 0, locals := 114 }
set_option maxHeartbeats 1000000 in
set_option maxRecDepth 100000 in
theorem c_X5_commit (l : Launch) (D : va_G) (cI cT : ClassId) (ad : Nat → Nat) (th sv ln vs rl cm fi se : Int32) (z zs sd tx ds rg : Nat → Int32) (F : FF) (Q0 : QQ) (HS : List (FF × QQ)) (sg : Nat → Nat) (len n : Nat) (p0 : Int32) (hL : LZ n (F, Q0, HS, sg, len) z sd tx) (hn : n + 80 < 2 ^ 31) : CN l D cI cT yX5_commit wsX5_commit rX5_commit [.ref (ad 0), .int p0] (refW cI ad th (nI HS.length) (nI len) vs rl cm fi se z zs sd tx ds rg) (S := JR) (fun v u => v = (opCommit (F, Q0, HS, sg, len) p0).2.1 ∧ u.1 = nI (opCommit (F, Q0, HS, sg, len) p0).1 ∧ LZu (n + 80) (opCommit (F, Q0, HS, sg, len) p0).2.2 u) (fun u => rfW cI ad (opCommit (F, Q0, HS, sg, len) p0).2.2 u) := by
  refine CN.of (cc := cX5_commit) (maxL := 2) (ret := (some .int)) (by decide) rfl (Nat.le_of_ble_eq_true rfl) ?_
  intro p e s m args below meth c A Q hQ B hA H locs hP hK hD hS ls hl
  obtain ⟨hx, hb, hml, hrt, hts, hown, hlk⟩ := B
  have hP : va_P D vwCl ([(ad 0, .inr (5, [.int th, .ref (ad 1), .ref (ad 2), .ref (ad 3), .int (nI HS.length), .ref (ad 4), .int (nI len), .int vs, .ref (ad 5), .ref (ad 6), .int rl, .int cm, .int fi, .int se])), (ad 1, .inl (cI, 221, .inl z)), (ad 2, .inl (cI, 221, .inl zs)), (ad 3, .inl (cI, 1768, .inl sd)), (ad 4, .inl (cI, 80, .inl tx)), (ad 5, .inl (cI, 8, .inl ds)), (ad 6, .inl (cI, 8, .inl rg))]) H := hP
  have hD : va_D A ([(ad 0, .inr (5, [.int th, .ref (ad 1), .ref (ad 2), .ref (ad 3), .int (nI HS.length), .ref (ad 4), .int (nI len), .int vs, .ref (ad 5), .ref (ad 6), .int rl, .int cm, .int fi, .int se])), (ad 1, .inl (cI, 221, .inl z)), (ad 2, .inl (cI, 221, .inl zs)), (ad 3, .inl (cI, 1768, .inl sd)), (ad 4, .inl (cI, 80, .inl tx)), (ad 5, .inl (cI, 8, .inl ds)), (ad 6, .inl (cI, 8, .inl rg))]) := hD
  have hl : lv_has ls 2 [(0, .ref (ad 0)), (1, .int p0)] := hl
  obtain ⟨hJ, hC, hZ, hl8, hH, hHS, hlen, htx, hsg⟩ := hL
  dsimp only at hJ hC hZ hl8 hH hHS hlen htx hsg
  have hL := LZ_mk hJ hC hZ hl8 hH hHS hlen htx hsg
  have hB := hC.jb
  have hn8 := hC.n8 (by omega)
  have hHJ : ∀ q ∈ HS, JJ q.1 q.2 := fun q hq => (hHS q hq).1
  have iX5 : ∀ w ∈ u_ws RX5 TX5 14, w ∈ wsX5_commit := by decide +kernel
  have f32 := hts (.fieldLink RX5 32 "LockManagerModel" "thrown" "I") (by decide +kernel)
  refine lv_aload_n hx hb dX5_commit_0 rfl (lv_at hl 0 rfl) ?_
  refine lv_aload_n hx hb dX5_commit_1 rfl (lv_at hl 0 rfl) ?_
  refine lv_iload_n hx hb dX5_commit_2 rfl (lv_at hl 1 rfl) ?_
  refine call_i (X := []) (Z := []) (As := [.int p0]) (rest := [.ref (ad 0)]) ⟨hx, hb, hml, hown, hts⟩ (c_X5_whyNoCommit l D cI cT ad th (nI HS.length) (nI len) vs rl cm fi se z zs sd tx ds rg F Q0 p0 hZ) (cwV 1 hts gX5_commit_X5_whyNoCommit rfl rfl rfl (by decide +kernel) ⟨Nat.le_of_ble_eq_true rfl, Nat.le_of_ble_eq_true rfl⟩) hK hP hD hS hA (va_recv hK hP (ci := 5) (q0 := 0) rfl rfl) (fun _ => rfl) rfl hl.1 rfl (Nat.le_of_ble_eq_true rfl) ⟨by decide, by decide⟩ dX5_commit_3 (fun rv _ H locs hp hP hD hS => ?_)
  obtain rfl := hp
  have hP : va_P D vwCl ([(ad 0, .inr (5, [.int th, .ref (ad 1), .ref (ad 2), .ref (ad 3), .int (nI HS.length), .ref (ad 4), .int (nI len), .int vs, .ref (ad 5), .ref (ad 6), .int rl, .int cm, .int fi, .int se])), (ad 1, .inl (cI, 221, .inl z)), (ad 2, .inl (cI, 221, .inl zs)), (ad 3, .inl (cI, 1768, .inl sd)), (ad 4, .inl (cI, 80, .inl tx)), (ad 5, .inl (cI, 8, .inl ds)), (ad 6, .inl (cI, 8, .inl rg))]) H := hP
  have hD : va_D A ([(ad 0, .inr (5, [.int th, .ref (ad 1), .ref (ad 2), .ref (ad 3), .int (nI HS.length), .ref (ad 4), .int (nI len), .int vs, .ref (ad 5), .ref (ad 6), .int rl, .int cm, .int fi, .int se])), (ad 1, .inl (cI, 221, .inl z)), (ad 2, .inl (cI, 221, .inl zs)), (ad 3, .inl (cI, 1768, .inl sd)), (ad 4, .inl (cI, 80, .inl tx)), (ad 5, .inl (cI, 8, .inl ds)), (ad 6, .inl (cI, 8, .inl rg))]) := hD
  have hw3 : wC F p0 ≤ 3 := wC_le
  refine va_put (D := D) (ci := 5) (v := .int (nI (wC F p0))) (ty := .int) (C := RX5) (T := TX5) (N := 14) hx hb hts iX5 tyX5 tyX5_ok nmX5 hown hK hP hD hS 0 rfl rfl 0 (by decide) f32 (fun _ h9 => h9) rfl (by decide +kernel) rfl rfl (Nat.le_of_ble_eq_true rfl) dX5_commit_6 (fun H locs hP hD hS => ?_)
  have hP : va_P D vwCl ([(ad 0, .inr (5, [.int (nI (wC F p0)), .ref (ad 1), .ref (ad 2), .ref (ad 3), .int (nI HS.length), .ref (ad 4), .int (nI len), .int vs, .ref (ad 5), .ref (ad 6), .int rl, .int cm, .int fi, .int se])), (ad 1, .inl (cI, 221, .inl z)), (ad 2, .inl (cI, 221, .inl zs)), (ad 3, .inl (cI, 1768, .inl sd)), (ad 4, .inl (cI, 80, .inl tx)), (ad 5, .inl (cI, 8, .inl ds)), (ad 6, .inl (cI, 8, .inl rg))]) H := hP
  have hD : va_D A ([(ad 0, .inr (5, [.int (nI (wC F p0)), .ref (ad 1), .ref (ad 2), .ref (ad 3), .int (nI HS.length), .ref (ad 4), .int (nI len), .int vs, .ref (ad 5), .ref (ad 6), .int rl, .int cm, .int fi, .int se])), (ad 1, .inl (cI, 221, .inl z)), (ad 2, .inl (cI, 221, .inl zs)), (ad 3, .inl (cI, 1768, .inl sd)), (ad 4, .inl (cI, 80, .inl tx)), (ad 5, .inl (cI, 8, .inl ds)), (ad 6, .inl (cI, 8, .inl rg))]) := hD
  refine lv_aload_n hx hb dX5_commit_9 rfl (lv_at hl 0 rfl) ?_
  refine va_get (D := D) (ci := 5) (v := .int (nI (wC F p0))) (C := RX5) (T := TX5) (N := 14) hx hb hts iX5 hown hK hP 0 rfl rfl 0 (by decide) f32 (fun _ h9 => h9) rfl dX5_commit_10 ?_
  refine lv_if_le (tgt := 18) hx hb dX5_commit_13 (by decide) (fun h_1 => ?_) (fun h_1 => ?_)
  · have h_1 := (nI_leI (a := (wC F p0)) (b := 0) (by first | omega | exact bits_lt31 _ | exact bitN_lt _ _ | exact bool_lt _ | exact and_lt31 _ _ _ _ | exact Nat.lt_of_le_of_lt (dst_lt _ _ _ (by omega) _) (by decide) | exact Nat.lt_of_le_of_lt (nrB_le _ _ _ (by omega)).2 (by decide) | decide) (by first | omega | exact bits_lt31 _ | exact bitN_lt _ _ | exact bool_lt _ | exact and_lt31 _ _ _ _ | exact Nat.lt_of_le_of_lt (dst_lt _ _ _ (by omega) _) (by decide) | exact Nat.lt_of_le_of_lt (nrB_le _ _ _ (by omega)).2 (by decide) | decide)).mp h_1
    have hth : wC F p0 = 0 := Nat.le_zero.mp h_1
    rw [hth] at hP hD
    have hP : va_P D vwCl ([(ad 0, .inr (5, [.int (nI 0), .ref (ad 1), .ref (ad 2), .ref (ad 3), .int (nI HS.length), .ref (ad 4), .int (nI len), .int vs, .ref (ad 5), .ref (ad 6), .int rl, .int cm, .int fi, .int se])), (ad 1, .inl (cI, 221, .inl z)), (ad 2, .inl (cI, 221, .inl zs)), (ad 3, .inl (cI, 1768, .inl sd)), (ad 4, .inl (cI, 80, .inl tx)), (ad 5, .inl (cI, 8, .inl ds)), (ad 6, .inl (cI, 8, .inl rg))]) H := hP
    have hD : va_D A ([(ad 0, .inr (5, [.int (nI 0), .ref (ad 1), .ref (ad 2), .ref (ad 3), .int (nI HS.length), .ref (ad 4), .int (nI len), .int vs, .ref (ad 5), .ref (ad 6), .int rl, .int cm, .int fi, .int se])), (ad 1, .inl (cI, 221, .inl z)), (ad 2, .inl (cI, 221, .inl zs)), (ad 3, .inl (cI, 1768, .inl sd)), (ad 4, .inl (cI, 80, .inl tx)), (ad 5, .inl (cI, 8, .inl ds)), (ad 6, .inl (cI, 8, .inl rg))]) := hD
    obtain ⟨t9, ht9, et9, hs9⟩ := wC_0 h_1
    rw [et9] at hl
    refine lv_aload_n hx hb dX5_commit_18 rfl (lv_at hl 0 rfl) ?_
    refine call_v (X := []) (Z := []) (As := []) (rest := []) ⟨hx, hb, hml, hown, hts⟩ (c_X5_save l D cI cT ad (nI 0) (nI HS.length) (nI len) vs rl cm fi se z zs sd tx ds rg F Q0 HS hl8 hHJ hH hZ hJ) (cwV 0 hts gX5_commit_X5_save rfl rfl rfl (by decide +kernel) ⟨Nat.le_of_ble_eq_true rfl, Nat.le_of_ble_eq_true rfl⟩) hK hP hD hS hA (va_recv hK hP (ci := 5) (q0 := 0) rfl rfl) (fun _ => adr_ref.trans adr_ref.symm) rfl hl.1 rfl (Nat.le_of_ble_eq_true rfl) ⟨by decide, by decide⟩ dX5_commit_19 (fun sd38 H locs hp hP hD hS => ?_)
    have hH38 := hp
    have hP : va_P D vwCl ([(ad 0, .inr (5, [.int (nI 0), .ref (ad 1), .ref (ad 2), .ref (ad 3), .int (nI ((pu F Q0 HS).length)), .ref (ad 4), .int (nI len), .int vs, .ref (ad 5), .ref (ad 6), .int rl, .int cm, .int fi, .int se])), (ad 1, .inl (cI, 221, .inl z)), (ad 2, .inl (cI, 221, .inl zs)), (ad 3, .inl (cI, 1768, .inl sd38)), (ad 4, .inl (cI, 80, .inl tx)), (ad 5, .inl (cI, 8, .inl ds)), (ad 6, .inl (cI, 8, .inl rg))]) H := hP
    have hD : va_D A ([(ad 0, .inr (5, [.int (nI 0), .ref (ad 1), .ref (ad 2), .ref (ad 3), .int (nI ((pu F Q0 HS).length)), .ref (ad 4), .int (nI len), .int vs, .ref (ad 5), .ref (ad 6), .int rl, .int cm, .int fi, .int se])), (ad 1, .inl (cI, 221, .inl z)), (ad 2, .inl (cI, 221, .inl zs)), (ad 3, .inl (cI, 1768, .inl sd38)), (ad 4, .inl (cI, 80, .inl tx)), (ad 5, .inl (cI, 8, .inl ds)), (ad 6, .inl (cI, 8, .inl rg))]) := hD
    refine lv_aload_n hx hb dX5_commit_22 rfl (lv_at hl 0 rfl) ?_
    refine lv_iload_n hx hb dX5_commit_23 rfl (lv_at hl 1 rfl) ?_
    refine call_i (X := []) (Z := []) (As := [.int (nI t9)]) (rest := []) ⟨hx, hb, hml, hown, hts⟩ (c_X5_doEnd l D cI cT ad (nI 0) (nI ((pu F Q0 HS).length)) (nI len) vs rl cm fi se z zs sd38 tx ds rg F Q0 t9 (by omega) hZ hJ) (cwV 1 hts gX5_commit_X5_doEnd rfl rfl rfl (by decide +kernel) ⟨Nat.le_of_ble_eq_true rfl, Nat.le_of_ble_eq_true rfl⟩) hK hP hD hS hA (va_recv hK hP (ci := 5) (q0 := 0) rfl rfl) (fun _ => adr_ref.trans adr_ref.symm) rfl hl.1 rfl (Nat.le_of_ble_eq_true rfl) ⟨by decide, by decide⟩ dX5_commit_24 (fun rv z39 H locs hp hP hD hS => ?_)
    obtain ⟨rfl, hZ39⟩ := hp
    have hJ39 := JJ_srv (JJ_end hJ (t := t9) (by omega))
    have hP : va_P D vwCl ([(ad 0, .inr (5, [.int (nI 0), .ref (ad 1), .ref (ad 2), .ref (ad 3), .int (nI ((pu F Q0 HS).length)), .ref (ad 4), .int (nI len), .int vs, .ref (ad 5), .ref (ad 6), .int rl, .int cm, .int fi, .int se])), (ad 1, .inl (cI, 221, .inl z39)), (ad 2, .inl (cI, 221, .inl zs)), (ad 3, .inl (cI, 1768, .inl sd38)), (ad 4, .inl (cI, 80, .inl tx)), (ad 5, .inl (cI, 8, .inl ds)), (ad 6, .inl (cI, 8, .inl rg))]) H := hP
    have hD : va_D A ([(ad 0, .inr (5, [.int (nI 0), .ref (ad 1), .ref (ad 2), .ref (ad 3), .int (nI ((pu F Q0 HS).length)), .ref (ad 4), .int (nI len), .int vs, .ref (ad 5), .ref (ad 6), .int rl, .int cm, .int fi, .int se])), (ad 1, .inl (cI, 221, .inl z39)), (ad 2, .inl (cI, 221, .inl zs)), (ad 3, .inl (cI, 1768, .inl sd38)), (ad 4, .inl (cI, 80, .inl tx)), (ad 5, .inl (cI, 8, .inl ds)), (ad 6, .inl (cI, 8, .inl rg))]) := hD
    exact ret_i (u := ((nI 0), vs, rl, cm, fi, se, z39, zs, sd38, tx, ds, rg)) hQ hx hb hrt hlk hS dX5_commit_27 (by rw [et9, opCommit_0 ht9 hs9]; exact hP) (by rw [et9, opCommit_0 ht9 hs9]; exact ⟨rfl, rfl, (LZ_mk hJ39 ((JC_srv (JJ_end hJ (t := t9) ht9) (JC_end hC)).mono (by omega)) hZ39 pu_le hH38 (all_mono (by omega) (pu_all hJ hC hHS)) hlen htx hsg)⟩)
  · have h_1 := mt (nI_leI (a := (wC F p0)) (b := 0) (by first | omega | exact bits_lt31 _ | exact bitN_lt _ _ | exact bool_lt _ | exact and_lt31 _ _ _ _ | exact Nat.lt_of_le_of_lt (dst_lt _ _ _ (by omega) _) (by decide) | exact Nat.lt_of_le_of_lt (nrB_le _ _ _ (by omega)).2 (by decide) | decide) (by first | omega | exact bits_lt31 _ | exact bitN_lt _ _ | exact bool_lt _ | exact and_lt31 _ _ _ _ | exact Nat.lt_of_le_of_lt (dst_lt _ _ _ (by omega) _) (by decide) | exact Nat.lt_of_le_of_lt (nrB_le _ _ _ (by omega)).2 (by decide) | decide)).mpr h_1
    refine lv_iconst (v := (nI 0)) hx hb dX5_commit_16 (by decide) ?_
    exact ret_i (u := ((nI (wC F p0)), vs, rl, cm, fi, se, z, zs, sd, tx, ds, rg)) hQ hx hb hrt hlk hS dX5_commit_17 (by rw [wC_op (s := (F, Q0, HS, sg, len)) h_1]; exact hP) (by rw [wC_op (s := (F, Q0, HS, sg, len)) h_1]; exact ⟨rfl, rfl, (LZ.mono hL (by omega))⟩)

abbrev rX5_rollBack : Room := { frames := 5, cells := 0, slots := 0, locals := 114 }
set_option maxHeartbeats 1000000 in
set_option maxRecDepth 100000 in
theorem c_X5_rollBack (l : Launch) (D : va_G) (cI cT : ClassId) (ad : Nat → Nat) (th sv ln vs rl cm fi se : Int32) (z zs sd tx ds rg : Nat → Int32) (F : FF) (Q0 : QQ) (HS : List (FF × QQ)) (sg : Nat → Nat) (len n : Nat) (p0 : Int32) (hL : LZ n (F, Q0, HS, sg, len) z sd tx) (hn : n + 80 < 2 ^ 31) : CN l D cI cT yX5_rollBack wsX5_rollBack rX5_rollBack [.ref (ad 0), .int p0] (refW cI ad th (nI HS.length) (nI len) vs rl cm fi se z zs sd tx ds rg) (S := JR) (fun v u => v = (opRollBack (F, Q0, HS, sg, len) p0).2.1 ∧ u.1 = nI (opRollBack (F, Q0, HS, sg, len) p0).1 ∧ LZu (n + 80) (opRollBack (F, Q0, HS, sg, len) p0).2.2 u) (fun u => rfW cI ad (opRollBack (F, Q0, HS, sg, len) p0).2.2 u) := by
  refine CN.of (cc := cX5_rollBack) (maxL := 2) (ret := (some .int)) (by decide) rfl (Nat.le_of_ble_eq_true rfl) ?_
  intro p e s m args below meth c A Q hQ B hA H locs hP hK hD hS ls hl
  obtain ⟨hx, hb, hml, hrt, hts, hown, hlk⟩ := B
  have hP : va_P D vwCl ([(ad 0, .inr (5, [.int th, .ref (ad 1), .ref (ad 2), .ref (ad 3), .int (nI HS.length), .ref (ad 4), .int (nI len), .int vs, .ref (ad 5), .ref (ad 6), .int rl, .int cm, .int fi, .int se])), (ad 1, .inl (cI, 221, .inl z)), (ad 2, .inl (cI, 221, .inl zs)), (ad 3, .inl (cI, 1768, .inl sd)), (ad 4, .inl (cI, 80, .inl tx)), (ad 5, .inl (cI, 8, .inl ds)), (ad 6, .inl (cI, 8, .inl rg))]) H := hP
  have hD : va_D A ([(ad 0, .inr (5, [.int th, .ref (ad 1), .ref (ad 2), .ref (ad 3), .int (nI HS.length), .ref (ad 4), .int (nI len), .int vs, .ref (ad 5), .ref (ad 6), .int rl, .int cm, .int fi, .int se])), (ad 1, .inl (cI, 221, .inl z)), (ad 2, .inl (cI, 221, .inl zs)), (ad 3, .inl (cI, 1768, .inl sd)), (ad 4, .inl (cI, 80, .inl tx)), (ad 5, .inl (cI, 8, .inl ds)), (ad 6, .inl (cI, 8, .inl rg))]) := hD
  have hl : lv_has ls 2 [(0, .ref (ad 0)), (1, .int p0)] := hl
  obtain ⟨hJ, hC, hZ, hl8, hH, hHS, hlen, htx, hsg⟩ := hL
  dsimp only at hJ hC hZ hl8 hH hHS hlen htx hsg
  have hL := LZ_mk hJ hC hZ hl8 hH hHS hlen htx hsg
  have hB := hC.jb
  have hn8 := hC.n8 (by omega)
  have hHJ : ∀ q ∈ HS, JJ q.1 q.2 := fun q hq => (hHS q hq).1
  have iX5 : ∀ w ∈ u_ws RX5 TX5 14, w ∈ wsX5_rollBack := by decide +kernel
  have f32 := hts (.fieldLink RX5 32 "LockManagerModel" "thrown" "I") (by decide +kernel)
  refine lv_aload_n hx hb dX5_rollBack_0 rfl (lv_at hl 0 rfl) ?_
  refine lv_aload_n hx hb dX5_rollBack_1 rfl (lv_at hl 0 rfl) ?_
  refine lv_iload_n hx hb dX5_rollBack_2 rfl (lv_at hl 1 rfl) ?_
  refine call_i (X := []) (Z := []) (As := [.int p0]) (rest := [.ref (ad 0)]) ⟨hx, hb, hml, hown, hts⟩ (c_X5_whyNoRollBack l D cI cT ad th (nI HS.length) (nI len) vs rl cm fi se z zs sd tx ds rg F Q0 p0 hZ) (cwV 1 hts gX5_rollBack_X5_whyNoRollBack rfl rfl rfl (by decide +kernel) ⟨Nat.le_of_ble_eq_true rfl, Nat.le_of_ble_eq_true rfl⟩) hK hP hD hS hA (va_recv hK hP (ci := 5) (q0 := 0) rfl rfl) (fun _ => rfl) rfl hl.1 rfl (Nat.le_of_ble_eq_true rfl) ⟨by decide, by decide⟩ dX5_rollBack_3 (fun rv _ H locs hp hP hD hS => ?_)
  obtain rfl := hp
  have hP : va_P D vwCl ([(ad 0, .inr (5, [.int th, .ref (ad 1), .ref (ad 2), .ref (ad 3), .int (nI HS.length), .ref (ad 4), .int (nI len), .int vs, .ref (ad 5), .ref (ad 6), .int rl, .int cm, .int fi, .int se])), (ad 1, .inl (cI, 221, .inl z)), (ad 2, .inl (cI, 221, .inl zs)), (ad 3, .inl (cI, 1768, .inl sd)), (ad 4, .inl (cI, 80, .inl tx)), (ad 5, .inl (cI, 8, .inl ds)), (ad 6, .inl (cI, 8, .inl rg))]) H := hP
  have hD : va_D A ([(ad 0, .inr (5, [.int th, .ref (ad 1), .ref (ad 2), .ref (ad 3), .int (nI HS.length), .ref (ad 4), .int (nI len), .int vs, .ref (ad 5), .ref (ad 6), .int rl, .int cm, .int fi, .int se])), (ad 1, .inl (cI, 221, .inl z)), (ad 2, .inl (cI, 221, .inl zs)), (ad 3, .inl (cI, 1768, .inl sd)), (ad 4, .inl (cI, 80, .inl tx)), (ad 5, .inl (cI, 8, .inl ds)), (ad 6, .inl (cI, 8, .inl rg))]) := hD
  have hw3 : wA F p0 ≤ 3 := wA_le
  refine va_put (D := D) (ci := 5) (v := .int (nI (wA F p0))) (ty := .int) (C := RX5) (T := TX5) (N := 14) hx hb hts iX5 tyX5 tyX5_ok nmX5 hown hK hP hD hS 0 rfl rfl 0 (by decide) f32 (fun _ h9 => h9) rfl (by decide +kernel) rfl rfl (Nat.le_of_ble_eq_true rfl) dX5_rollBack_6 (fun H locs hP hD hS => ?_)
  have hP : va_P D vwCl ([(ad 0, .inr (5, [.int (nI (wA F p0)), .ref (ad 1), .ref (ad 2), .ref (ad 3), .int (nI HS.length), .ref (ad 4), .int (nI len), .int vs, .ref (ad 5), .ref (ad 6), .int rl, .int cm, .int fi, .int se])), (ad 1, .inl (cI, 221, .inl z)), (ad 2, .inl (cI, 221, .inl zs)), (ad 3, .inl (cI, 1768, .inl sd)), (ad 4, .inl (cI, 80, .inl tx)), (ad 5, .inl (cI, 8, .inl ds)), (ad 6, .inl (cI, 8, .inl rg))]) H := hP
  have hD : va_D A ([(ad 0, .inr (5, [.int (nI (wA F p0)), .ref (ad 1), .ref (ad 2), .ref (ad 3), .int (nI HS.length), .ref (ad 4), .int (nI len), .int vs, .ref (ad 5), .ref (ad 6), .int rl, .int cm, .int fi, .int se])), (ad 1, .inl (cI, 221, .inl z)), (ad 2, .inl (cI, 221, .inl zs)), (ad 3, .inl (cI, 1768, .inl sd)), (ad 4, .inl (cI, 80, .inl tx)), (ad 5, .inl (cI, 8, .inl ds)), (ad 6, .inl (cI, 8, .inl rg))]) := hD
  refine lv_aload_n hx hb dX5_rollBack_9 rfl (lv_at hl 0 rfl) ?_
  refine va_get (D := D) (ci := 5) (v := .int (nI (wA F p0))) (C := RX5) (T := TX5) (N := 14) hx hb hts iX5 hown hK hP 0 rfl rfl 0 (by decide) f32 (fun _ h9 => h9) rfl dX5_rollBack_10 ?_
  refine lv_if_le (tgt := 18) hx hb dX5_rollBack_13 (by decide) (fun h_1 => ?_) (fun h_1 => ?_)
  · have h_1 := (nI_leI (a := (wA F p0)) (b := 0) (by first | omega | exact bits_lt31 _ | exact bitN_lt _ _ | exact bool_lt _ | exact and_lt31 _ _ _ _ | exact Nat.lt_of_le_of_lt (dst_lt _ _ _ (by omega) _) (by decide) | exact Nat.lt_of_le_of_lt (nrB_le _ _ _ (by omega)).2 (by decide) | decide) (by first | omega | exact bits_lt31 _ | exact bitN_lt _ _ | exact bool_lt _ | exact and_lt31 _ _ _ _ | exact Nat.lt_of_le_of_lt (dst_lt _ _ _ (by omega) _) (by decide) | exact Nat.lt_of_le_of_lt (nrB_le _ _ _ (by omega)).2 (by decide) | decide)).mp h_1
    have hth : wA F p0 = 0 := Nat.le_zero.mp h_1
    rw [hth] at hP hD
    have hP : va_P D vwCl ([(ad 0, .inr (5, [.int (nI 0), .ref (ad 1), .ref (ad 2), .ref (ad 3), .int (nI HS.length), .ref (ad 4), .int (nI len), .int vs, .ref (ad 5), .ref (ad 6), .int rl, .int cm, .int fi, .int se])), (ad 1, .inl (cI, 221, .inl z)), (ad 2, .inl (cI, 221, .inl zs)), (ad 3, .inl (cI, 1768, .inl sd)), (ad 4, .inl (cI, 80, .inl tx)), (ad 5, .inl (cI, 8, .inl ds)), (ad 6, .inl (cI, 8, .inl rg))]) H := hP
    have hD : va_D A ([(ad 0, .inr (5, [.int (nI 0), .ref (ad 1), .ref (ad 2), .ref (ad 3), .int (nI HS.length), .ref (ad 4), .int (nI len), .int vs, .ref (ad 5), .ref (ad 6), .int rl, .int cm, .int fi, .int se])), (ad 1, .inl (cI, 221, .inl z)), (ad 2, .inl (cI, 221, .inl zs)), (ad 3, .inl (cI, 1768, .inl sd)), (ad 4, .inl (cI, 80, .inl tx)), (ad 5, .inl (cI, 8, .inl ds)), (ad 6, .inl (cI, 8, .inl rg))]) := hD
    obtain ⟨t9, ht9, et9, hs9⟩ := wA_0 h_1
    rw [et9] at hl
    refine lv_aload_n hx hb dX5_rollBack_18 rfl (lv_at hl 0 rfl) ?_
    refine call_v (X := []) (Z := []) (As := []) (rest := []) ⟨hx, hb, hml, hown, hts⟩ (c_X5_save l D cI cT ad (nI 0) (nI HS.length) (nI len) vs rl cm fi se z zs sd tx ds rg F Q0 HS hl8 hHJ hH hZ hJ) (cwV 0 hts gX5_rollBack_X5_save rfl rfl rfl (by decide +kernel) ⟨Nat.le_of_ble_eq_true rfl, Nat.le_of_ble_eq_true rfl⟩) hK hP hD hS hA (va_recv hK hP (ci := 5) (q0 := 0) rfl rfl) (fun _ => adr_ref.trans adr_ref.symm) rfl hl.1 rfl (Nat.le_of_ble_eq_true rfl) ⟨by decide, by decide⟩ dX5_rollBack_19 (fun sd40 H locs hp hP hD hS => ?_)
    have hH40 := hp
    have hP : va_P D vwCl ([(ad 0, .inr (5, [.int (nI 0), .ref (ad 1), .ref (ad 2), .ref (ad 3), .int (nI ((pu F Q0 HS).length)), .ref (ad 4), .int (nI len), .int vs, .ref (ad 5), .ref (ad 6), .int rl, .int cm, .int fi, .int se])), (ad 1, .inl (cI, 221, .inl z)), (ad 2, .inl (cI, 221, .inl zs)), (ad 3, .inl (cI, 1768, .inl sd40)), (ad 4, .inl (cI, 80, .inl tx)), (ad 5, .inl (cI, 8, .inl ds)), (ad 6, .inl (cI, 8, .inl rg))]) H := hP
    have hD : va_D A ([(ad 0, .inr (5, [.int (nI 0), .ref (ad 1), .ref (ad 2), .ref (ad 3), .int (nI ((pu F Q0 HS).length)), .ref (ad 4), .int (nI len), .int vs, .ref (ad 5), .ref (ad 6), .int rl, .int cm, .int fi, .int se])), (ad 1, .inl (cI, 221, .inl z)), (ad 2, .inl (cI, 221, .inl zs)), (ad 3, .inl (cI, 1768, .inl sd40)), (ad 4, .inl (cI, 80, .inl tx)), (ad 5, .inl (cI, 8, .inl ds)), (ad 6, .inl (cI, 8, .inl rg))]) := hD
    refine lv_aload_n hx hb dX5_rollBack_22 rfl (lv_at hl 0 rfl) ?_
    refine lv_iload_n hx hb dX5_rollBack_23 rfl (lv_at hl 1 rfl) ?_
    refine call_i (X := []) (Z := []) (As := [.int (nI t9)]) (rest := []) ⟨hx, hb, hml, hown, hts⟩ (c_X5_doEnd l D cI cT ad (nI 0) (nI ((pu F Q0 HS).length)) (nI len) vs rl cm fi se z zs sd40 tx ds rg F Q0 t9 (by omega) hZ hJ) (cwV 1 hts gX5_rollBack_X5_doEnd rfl rfl rfl (by decide +kernel) ⟨Nat.le_of_ble_eq_true rfl, Nat.le_of_ble_eq_true rfl⟩) hK hP hD hS hA (va_recv hK hP (ci := 5) (q0 := 0) rfl rfl) (fun _ => adr_ref.trans adr_ref.symm) rfl hl.1 rfl (Nat.le_of_ble_eq_true rfl) ⟨by decide, by decide⟩ dX5_rollBack_24 (fun rv z41 H locs hp hP hD hS => ?_)
    obtain ⟨rfl, hZ41⟩ := hp
    have hJ41 := JJ_srv (JJ_end hJ (t := t9) (by omega))
    have hP : va_P D vwCl ([(ad 0, .inr (5, [.int (nI 0), .ref (ad 1), .ref (ad 2), .ref (ad 3), .int (nI ((pu F Q0 HS).length)), .ref (ad 4), .int (nI len), .int vs, .ref (ad 5), .ref (ad 6), .int rl, .int cm, .int fi, .int se])), (ad 1, .inl (cI, 221, .inl z41)), (ad 2, .inl (cI, 221, .inl zs)), (ad 3, .inl (cI, 1768, .inl sd40)), (ad 4, .inl (cI, 80, .inl tx)), (ad 5, .inl (cI, 8, .inl ds)), (ad 6, .inl (cI, 8, .inl rg))]) H := hP
    have hD : va_D A ([(ad 0, .inr (5, [.int (nI 0), .ref (ad 1), .ref (ad 2), .ref (ad 3), .int (nI ((pu F Q0 HS).length)), .ref (ad 4), .int (nI len), .int vs, .ref (ad 5), .ref (ad 6), .int rl, .int cm, .int fi, .int se])), (ad 1, .inl (cI, 221, .inl z41)), (ad 2, .inl (cI, 221, .inl zs)), (ad 3, .inl (cI, 1768, .inl sd40)), (ad 4, .inl (cI, 80, .inl tx)), (ad 5, .inl (cI, 8, .inl ds)), (ad 6, .inl (cI, 8, .inl rg))]) := hD
    exact ret_i (u := ((nI 0), vs, rl, cm, fi, se, z41, zs, sd40, tx, ds, rg)) hQ hx hb hrt hlk hS dX5_rollBack_27 (by rw [et9, opRollBack_0 ht9 hs9]; exact hP) (by rw [et9, opRollBack_0 ht9 hs9]; exact ⟨rfl, rfl, (LZ_mk hJ41 ((JC_srv (JJ_end hJ (t := t9) ht9) (JC_end hC)).mono (by omega)) hZ41 pu_le hH40 (all_mono (by omega) (pu_all hJ hC hHS)) hlen htx hsg)⟩)
  · have h_1 := mt (nI_leI (a := (wA F p0)) (b := 0) (by first | omega | exact bits_lt31 _ | exact bitN_lt _ _ | exact bool_lt _ | exact and_lt31 _ _ _ _ | exact Nat.lt_of_le_of_lt (dst_lt _ _ _ (by omega) _) (by decide) | exact Nat.lt_of_le_of_lt (nrB_le _ _ _ (by omega)).2 (by decide) | decide) (by first | omega | exact bits_lt31 _ | exact bitN_lt _ _ | exact bool_lt _ | exact and_lt31 _ _ _ _ | exact Nat.lt_of_le_of_lt (dst_lt _ _ _ (by omega) _) (by decide) | exact Nat.lt_of_le_of_lt (nrB_le _ _ _ (by omega)).2 (by decide) | decide)).mpr h_1
    refine lv_iconst (v := (nI 0)) hx hb dX5_rollBack_16 (by decide) ?_
    exact ret_i (u := ((nI (wA F p0)), vs, rl, cm, fi, se, z, zs, sd, tx, ds, rg)) hQ hx hb hrt hlk hS dX5_rollBack_17 (by rw [wA_op (s := (F, Q0, HS, sg, len)) h_1]; exact hP) (by rw [wA_op (s := (F, Q0, HS, sg, len)) h_1]; exact ⟨rfl, rfl, (LZ.mono hL (by omega))⟩)

