abbrev rX5_victim : Room := { frames := 1, cells := 0, slots := 0, locals := 22 }
set_option maxHeartbeats 1000000 in
set_option maxRecDepth 100000 in
theorem c_X5_victim (l : Launch) (D : va_G) (cI cT : ClassId) (ad : Nat → Nat) (th sv ln vs rl cm fi se : Int32) (z zs sd tx ds rg : Nat → Int32) (F : FF) (Q0 : QQ) (rr : Nat → Nat) (m9 : Nat) (hm9 : m9 ≤ 8) (hrr : ∀ j, j < m9 → rg j = nI (rr j) ∧ rr j < 8) (hZ : RZ F Q0 z) : CN l D cI cT yX5_victim wsX5_victim rX5_victim [.ref (ad 0)] (refW cI ad th sv ln vs (nI m9) cm fi se z zs sd tx ds rg) (S := Unit) (fun v _ => v = bI (vbN F rr (alN (fun j => spB F (rr j)) m9) m9)) (fun _ => refW cI ad th sv ln vs (nI m9) cm fi se z zs sd tx ds rg) := by
  refine CN.of (cc := cX5_victim) (maxL := 6) (ret := (some .int)) (by decide) rfl (Nat.le_of_ble_eq_true rfl) ?_
  intro p e s m args below meth c A Q hQ B hA H locs hP hK hD hS ls hl
  obtain ⟨hx, hb, hml, hrt, hts, hown, hlk⟩ := B
  have hP : va_P D vwCl ([(ad 0, .inr (5, [.int th, .ref (ad 1), .ref (ad 2), .ref (ad 3), .int sv, .ref (ad 4), .int ln, .int vs, .ref (ad 5), .ref (ad 6), .int (nI m9), .int cm, .int fi, .int se])), (ad 1, .inl (cI, 221, .inl z)), (ad 2, .inl (cI, 221, .inl zs)), (ad 3, .inl (cI, 1768, .inl sd)), (ad 4, .inl (cI, 80, .inl tx)), (ad 5, .inl (cI, 8, .inl ds)), (ad 6, .inl (cI, 8, .inl rg))]) H := hP
  have hD : va_D A ([(ad 0, .inr (5, [.int th, .ref (ad 1), .ref (ad 2), .ref (ad 3), .int sv, .ref (ad 4), .int ln, .int vs, .ref (ad 5), .ref (ad 6), .int (nI m9), .int cm, .int fi, .int se])), (ad 1, .inl (cI, 221, .inl z)), (ad 2, .inl (cI, 221, .inl zs)), (ad 3, .inl (cI, 1768, .inl sd)), (ad 4, .inl (cI, 80, .inl tx)), (ad 5, .inl (cI, 8, .inl ds)), (ad 6, .inl (cI, 8, .inl rg))]) := hD
  have hl : lv_has ls 6 [(0, .ref (ad 0))] := hl
  have iX5 : ∀ w ∈ u_ws RX5 TX5 14, w ∈ wsX5_victim := by decide +kernel
  have f86 := hts (.fieldLink RX5 86 "LockManagerModel" "ringLength" "I") (by decide +kernel)
  have f25 := hts (.fieldLink RX5 25 "LockManagerModel" "ring" "[I") (by decide +kernel)
  refine lv_iconst (v := (nI 1)) hx hb dX5_victim_0 (by decide) ?_
  refine lv_istore_n (lv' := [(1, .int (nI 1)), (0, .ref (ad 0))]) hx hb dX5_victim_1 rfl hl (by decide) rfl (fun ls hl => ?_)
  refine lv_iconst (v := (nI 0)) hx hb dX5_victim_2 (by decide) ?_
  refine lv_istore_n (lv' := [(2, .int (nI 0)), (1, .int (nI 1)), (0, .ref (ad 0))]) hx hb dX5_victim_3 rfl hl (by decide) rfl (fun ls hl => ?_)
  have L4 : ∀ (N : Nat) (k : Nat), (k ≤ m9) → (m9 - k) < N → ∀ (H : Heap) (locs : List Loc), va_P D vwCl ([(ad 0, .inr (5, [.int th, .ref (ad 1), .ref (ad 2), .ref (ad 3), .int sv, .ref (ad 4), .int ln, .int vs, .ref (ad 5), .ref (ad 6), .int (nI m9), .int cm, .int fi, .int se])), (ad 1, .inl (cI, 221, .inl z)), (ad 2, .inl (cI, 221, .inl zs)), (ad 3, .inl (cI, 1768, .inl sd)), (ad 4, .inl (cI, 80, .inl tx)), (ad 5, .inl (cI, 8, .inl ds)), (ad 6, .inl (cI, 8, .inl rg))]) H → va_D A ([(ad 0, .inr (5, [.int th, .ref (ad 1), .ref (ad 2), .ref (ad 3), .int sv, .ref (ad 4), .int ln, .int vs, .ref (ad 5), .ref (ad 6), .int (nI m9), .int cm, .int fi, .int se])), (ad 1, .inl (cI, 221, .inl z)), (ad 2, .inl (cI, 221, .inl zs)), (ad 3, .inl (cI, 1768, .inl sd)), (ad 4, .inl (cI, 80, .inl tx)), (ad 5, .inl (cI, 8, .inl ds)), (ad 6, .inl (cI, 8, .inl rg))]) → va_S A s.heap H locs → ∀ ls : Array Slot, lv_has ls 6 [(0, .ref (ad 0)), (1, .int (nI ((alN (fun j => spB F (rr j)) k).toNat))), (2, .int (nI k))] → W p l e rX5_victim s m args below meth c H locs 0 0 Q (F0 m 4 ls []) := by
    intro N4
    induction N4 with
    | zero => intro k hk hN; exact absurd hN (Nat.not_lt_zero _)
    | succ N4 ih4 =>
      intro k hk hN H locs hP hD hS ls hl
      refine lv_iload_n hx hb dX5_victim_4 rfl (lv_at hl 2 rfl) ?_
      refine lv_aload_n hx hb dX5_victim_5 rfl (lv_at hl 0 rfl) ?_
      refine va_get (D := D) (ci := 5) (v := .int (nI m9)) (C := RX5) (T := TX5) (N := 14) hx hb hts iX5 hown hK hP 0 rfl rfl 10 (by decide) f86 (fun _ h9 => h9) rfl dX5_victim_6 ?_
      refine lv_icmp_ge (tgt := 43) hx hb dX5_victim_9 (by decide) (fun h_1 => ?_) (fun h_1 => ?_)
      · have h_1 := (nI_leI (a := m9) (b := k) (by first | omega | exact bits_lt31 _ | exact bitN_lt _ _ | exact bool_lt _ | exact and_lt31 _ _ _ _ | exact Nat.lt_of_le_of_lt (dst_lt _ _ _ (by omega) _) (by decide) | exact Nat.lt_of_le_of_lt (nrB_le _ _ _ (by omega)).2 (by decide) | decide) (by first | omega | exact bits_lt31 _ | exact bitN_lt _ _ | exact bool_lt _ | exact and_lt31 _ _ _ _ | exact Nat.lt_of_le_of_lt (dst_lt _ _ _ (by omega) _) (by decide) | exact Nat.lt_of_le_of_lt (nrB_le _ _ _ (by omega)).2 (by decide) | decide)).mp h_1
        obtain ⟨al, hal⟩ : ∃ al, al = alN (fun j => spB F (rr j)) m9 := ⟨_, rfl⟩
        rw [show k = m9 by omega, ← hal] at hl
        refine lv_iconst (v := (-1)) hx hb dX5_victim_43 (by decide) ?_
        refine lv_istore_n (lv' := [(2, .int (-1)), (0, .ref (ad 0)), (1, .int (nI al.toNat))]) hx hb dX5_victim_44 rfl hl (by decide) rfl (fun ls hl => ?_)
        refine lv_iconst (v := (nI 0)) hx hb dX5_victim_45 (by decide) ?_
        refine lv_istore_n (lv' := [(3, .int (nI 0)), (2, .int (-1)), (0, .ref (ad 0)), (1, .int (nI al.toNat))]) hx hb dX5_victim_46 rfl hl (by decide) rfl (fun ls hl => ?_)
        have L47 : ∀ (N : Nat) (k : Nat), (k ≤ m9) → (m9 - k) < N → ∀ (H : Heap) (locs : List Loc), va_P D vwCl ([(ad 0, .inr (5, [.int th, .ref (ad 1), .ref (ad 2), .ref (ad 3), .int sv, .ref (ad 4), .int ln, .int vs, .ref (ad 5), .ref (ad 6), .int (nI m9), .int cm, .int fi, .int se])), (ad 1, .inl (cI, 221, .inl z)), (ad 2, .inl (cI, 221, .inl zs)), (ad 3, .inl (cI, 1768, .inl sd)), (ad 4, .inl (cI, 80, .inl tx)), (ad 5, .inl (cI, 8, .inl ds)), (ad 6, .inl (cI, 8, .inl rg))]) H → va_D A ([(ad 0, .inr (5, [.int th, .ref (ad 1), .ref (ad 2), .ref (ad 3), .int sv, .ref (ad 4), .int ln, .int vs, .ref (ad 5), .ref (ad 6), .int (nI m9), .int cm, .int fi, .int se])), (ad 1, .inl (cI, 221, .inl z)), (ad 2, .inl (cI, 221, .inl zs)), (ad 3, .inl (cI, 1768, .inl sd)), (ad 4, .inl (cI, 80, .inl tx)), (ad 5, .inl (cI, 8, .inl ds)), (ad 6, .inl (cI, 8, .inl rg))]) → va_S A s.heap H locs → ∀ ls : Array Slot, lv_has ls 6 [(0, .ref (ad 0)), (1, .int (nI al.toNat)), (2, .int (bI (vbN F rr al k))), (3, .int (nI k))] → W p l e rX5_victim s m args below meth c H locs 0 0 Q (F0 m 47 ls []) := by
          intro N47
          induction N47 with
          | zero => intro k hk hN; exact absurd hN (Nat.not_lt_zero _)
          | succ N47 ih47 =>
            intro k hk hN H locs hP hD hS ls hl
            have hvl := vbN_le (F := F) (al := al) (fun j hj => (hrr j hj).2) hk
            refine lv_iload_n hx hb dX5_victim_47 rfl (lv_at hl 3 rfl) ?_
            refine lv_aload_n hx hb dX5_victim_48 rfl (lv_at hl 0 rfl) ?_
            refine va_get (D := D) (ci := 5) (v := .int (nI m9)) (C := RX5) (T := TX5) (N := 14) hx hb hts iX5 hown hK hP 0 rfl rfl 10 (by decide) f86 (fun _ h9 => h9) rfl dX5_victim_49 ?_
            refine lv_icmp_ge (tgt := 155) hx hb dX5_victim_52 (by decide) (fun h_2 => ?_) (fun h_2 => ?_)
            · have h_2 := (nI_leI (a := m9) (b := k) (by first | omega | exact bits_lt31 _ | exact bitN_lt _ _ | exact bool_lt _ | exact and_lt31 _ _ _ _ | exact Nat.lt_of_le_of_lt (dst_lt _ _ _ (by omega) _) (by decide) | exact Nat.lt_of_le_of_lt (nrB_le _ _ _ (by omega)).2 (by decide) | decide) (by first | omega | exact bits_lt31 _ | exact bitN_lt _ _ | exact bool_lt _ | exact and_lt31 _ _ _ _ | exact Nat.lt_of_le_of_lt (dst_lt _ _ _ (by omega) _) (by decide) | exact Nat.lt_of_le_of_lt (nrB_le _ _ _ (by omega)).2 (by decide) | decide)).mp h_2
              refine lv_iload_n hx hb dX5_victim_155 rfl (lv_at hl 2 rfl) ?_
              exact ret_i (u := ()) hQ hx hb hrt hlk hS dX5_victim_156 hP (by rw [show k = m9 by omega, hal])
            · have h_2 := mt (nI_leI (a := m9) (b := k) (by first | omega | exact bits_lt31 _ | exact bitN_lt _ _ | exact bool_lt _ | exact and_lt31 _ _ _ _ | exact Nat.lt_of_le_of_lt (dst_lt _ _ _ (by omega) _) (by decide) | exact Nat.lt_of_le_of_lt (nrB_le _ _ _ (by omega)).2 (by decide) | decide) (by first | omega | exact bits_lt31 _ | exact bitN_lt _ _ | exact bool_lt _ | exact and_lt31 _ _ _ _ | exact Nat.lt_of_le_of_lt (dst_lt _ _ _ (by omega) _) (by decide) | exact Nat.lt_of_le_of_lt (nrB_le _ _ _ (by omega)).2 (by decide) | decide)).mpr h_2
              refine lv_aload_n hx hb dX5_victim_55 rfl (lv_at hl 0 rfl) ?_
              refine va_get (D := D) (ci := 5) (v := .ref (ad 6)) (C := RX5) (T := TX5) (N := 14) hx hb hts iX5 hown hK hP 0 rfl rfl 9 (by decide) f25 (fun _ h9 => h9) rfl dX5_victim_56 ?_
              refine lv_iload_n hx hb dX5_victim_59 rfl (lv_at hl 3 rfl) ?_
              refine r_ild (k := k) hx hb hK hP 6 rfl (by omega) (by decide) dX5_victim_60 ?_
              have hrk := (hrr k (by omega)).2
              refine tpe (y := nI (rr k)) (hrr k (by omega)).1 ?_
              refine lv_istore (lv' := [(4, .int (nI (rr k))), (0, .ref (ad 0)), (1, .int (nI al.toNat)), (2, .int (bI (vbN F rr al k))), (3, .int (nI k))]) hx hb dX5_victim_61 hl (by decide) rfl (fun ls hl => ?_)
              refine lv_iload_n hx hb dX5_victim_63 rfl (lv_at hl 2 rfl) ?_
              refine lv_if_ne (tgt := 78) hx hb dX5_victim_64 (by decide) (fun h_3 => ?_) (fun h_3 => ?_)
              · have h_3 := mt (nI_eq (a := al.toNat) (b := 0) (by first | omega | exact bits_lt31 _ | exact bitN_lt _ _ | exact bool_lt _ | exact and_lt31 _ _ _ _ | exact Nat.lt_of_le_of_lt (dst_lt _ _ _ (by omega) _) (by decide) | exact Nat.lt_of_le_of_lt (nrB_le _ _ _ (by omega)).2 (by decide) | decide) (by first | omega | exact bits_lt31 _ | exact bitN_lt _ _ | exact bool_lt _ | exact and_lt31 _ _ _ _ | exact Nat.lt_of_le_of_lt (dst_lt _ _ _ (by omega) _) (by decide) | exact Nat.lt_of_le_of_lt (nrB_le _ _ _ (by omega)).2 (by decide) | decide)).mpr h_3
                have h_3 := tn_y h_3
                refine lv_iload_n hx hb dX5_victim_78 rfl (lv_at hl 3 rfl) ?_
                refine lv_if_lt (tgt := 130) hx hb dX5_victim_79 (by decide) (fun h_4 => ?_) (fun h_4 => ?_)
                · have h_4 := h_4
                  refine lv_iconst (v := (nI 1)) hx hb dX5_victim_130 (by decide) ?_
                  refine lv_goto (tgt := 135) hx hb dX5_victim_131 (by decide) ?_
                  refine lv_istore (lv' := [(5, .int (nI 1)), (4, .int (nI (rr k))), (0, .ref (ad 0)), (1, .int (nI al.toNat)), (2, .int (bI (vbN F rr al k))), (3, .int (nI k))]) hx hb dX5_victim_135 hl (by decide) rfl (fun ls hl => ?_)
                  refine lv_iload hx hb dX5_victim_137 (lv_at hl 0 rfl) ?_
                  refine lv_if_eq (tgt := 147) hx hb dX5_victim_139 (by decide) (fun h => absurd h (by decide)) (fun _ => ?_)
                  refine lv_iload hx hb dX5_victim_142 (lv_at hl 1 rfl) ?_
                  refine lv_goto (tgt := 148) hx hb dX5_victim_144 (by decide) ?_
                  refine lv_istore_n (lv' := [(2, .int (nI (rr k))), (5, .int (nI 1)), (4, .int (nI (rr k))), (0, .ref (ad 0)), (1, .int (nI al.toNat)), (3, .int (nI k))]) hx hb dX5_victim_148 rfl hl (by decide) rfl (fun ls hl => ?_)
                  refine lv_iinc (v := (nI (k + 1))) (lv' := [(3, .int (nI (k + 1))), (2, .int (nI (rr k))), (5, .int (nI 1)), (4, .int (nI (rr k))), (0, .ref (ad 0)), (1, .int (nI al.toNat))]) hx hb dX5_victim_149 hl (k := 5) rfl (nI_add _ 1) (by decide) rfl (fun ls hl => ?_)
                  refine lv_goto (tgt := 47) hx hb dX5_victim_152 (by decide) ?_
                  rw [show (nI (rr k)) = (bI (vbN F rr al (k + 1))) from (by rw [vbN, if_pos ⟨(by rw [h_3]; rfl), (Or.inl ((bI_neg hvl).mp h_4))⟩, bI_some (by omega)])] at hl
                  exact ih47 (k + 1) (by omega) (by omega) _ _ hP hD hS _ (lv_sub hl [4, 5, 1, 0] rfl)
                · have h_4 := h_4
                  have hx8 : ¬ vbN F rr al k = 8 := fun q => h_4 ((bI_neg hvl).mpr q)
                  have hxl : vbN F rr al k < 8 := by omega
                  rw [bI_some hx8] at hl
                  refine lv_aload_n hx hb dX5_victim_82 rfl (lv_at hl 1 rfl) ?_
                  refine lv_iload hx hb dX5_victim_83 (lv_at hl 0 rfl) ?_
                  refine lv_iconst (v := (nI 1)) hx hb dX5_victim_85 (by decide) ?_
                  refine call_i (X := []) (Z := []) (As := [.int (nI (rr k)), .int (nI 1)]) (rest := []) ⟨hx, hb, hml, hown, hts⟩ (c_X5_of l D cI cT ad th sv ln vs (nI m9) cm fi se z zs sd tx ds rg (rr k) 1 (by omega)) (cwV 2 hts gX5_victim_X5_of rfl rfl rfl (by decide +kernel) ⟨Nat.le_of_ble_eq_true rfl, Nat.le_of_ble_eq_true rfl⟩) hK hP hD hS hA (va_recv hK hP (ci := 5) (q0 := 0) rfl rfl) (fun _ => rfl) rfl hl.1 rfl (Nat.le_of_ble_eq_true rfl) ⟨by decide, by decide⟩ dX5_victim_86 (fun rv _ H locs hp hP hD hS => ?_)
                  obtain rfl := hp
                  have hP : va_P D vwCl ([(ad 0, .inr (5, [.int th, .ref (ad 1), .ref (ad 2), .ref (ad 3), .int sv, .ref (ad 4), .int ln, .int vs, .ref (ad 5), .ref (ad 6), .int (nI m9), .int cm, .int fi, .int se])), (ad 1, .inl (cI, 221, .inl z)), (ad 2, .inl (cI, 221, .inl zs)), (ad 3, .inl (cI, 1768, .inl sd)), (ad 4, .inl (cI, 80, .inl tx)), (ad 5, .inl (cI, 8, .inl ds)), (ad 6, .inl (cI, 8, .inl rg))]) H := hP
                  have hD : va_D A ([(ad 0, .inr (5, [.int th, .ref (ad 1), .ref (ad 2), .ref (ad 3), .int sv, .ref (ad 4), .int ln, .int vs, .ref (ad 5), .ref (ad 6), .int (nI m9), .int cm, .int fi, .int se])), (ad 1, .inl (cI, 221, .inl z)), (ad 2, .inl (cI, 221, .inl zs)), (ad 3, .inl (cI, 1768, .inl sd)), (ad 4, .inl (cI, 80, .inl tx)), (ad 5, .inl (cI, 8, .inl ds)), (ad 6, .inl (cI, 8, .inl rg))]) := hD
                  refine tpe (y := F 1 (rr k)) (RZ_1 hZ (by omega)) ?_
                  refine lv_aload_n hx hb dX5_victim_89 rfl (lv_at hl 1 rfl) ?_
                  refine lv_iload_n hx hb dX5_victim_90 rfl (lv_at hl 3 rfl) ?_
                  refine lv_iconst (v := (nI 1)) hx hb dX5_victim_91 (by decide) ?_
                  refine call_i (X := []) (Z := []) (As := [.int (nI (vbN F rr al k)), .int (nI 1)]) (rest := [.int (F 1 (rr k))]) ⟨hx, hb, hml, hown, hts⟩ (c_X5_of l D cI cT ad th sv ln vs (nI m9) cm fi se z zs sd tx ds rg (vbN F rr al k) 1 (by omega)) (cwV 2 hts gX5_victim_X5_of rfl rfl rfl (by decide +kernel) ⟨Nat.le_of_ble_eq_true rfl, Nat.le_of_ble_eq_true rfl⟩) hK hP hD hS hA (va_recv hK hP (ci := 5) (q0 := 0) rfl rfl) (fun _ => rfl) rfl hl.1 rfl (Nat.le_of_ble_eq_true rfl) ⟨by decide, by decide⟩ dX5_victim_92 (fun rv _ H locs hp hP hD hS => ?_)
                  obtain rfl := hp
                  have hP : va_P D vwCl ([(ad 0, .inr (5, [.int th, .ref (ad 1), .ref (ad 2), .ref (ad 3), .int sv, .ref (ad 4), .int ln, .int vs, .ref (ad 5), .ref (ad 6), .int (nI m9), .int cm, .int fi, .int se])), (ad 1, .inl (cI, 221, .inl z)), (ad 2, .inl (cI, 221, .inl zs)), (ad 3, .inl (cI, 1768, .inl sd)), (ad 4, .inl (cI, 80, .inl tx)), (ad 5, .inl (cI, 8, .inl ds)), (ad 6, .inl (cI, 8, .inl rg))]) H := hP
                  have hD : va_D A ([(ad 0, .inr (5, [.int th, .ref (ad 1), .ref (ad 2), .ref (ad 3), .int sv, .ref (ad 4), .int ln, .int vs, .ref (ad 5), .ref (ad 6), .int (nI m9), .int cm, .int fi, .int se])), (ad 1, .inl (cI, 221, .inl z)), (ad 2, .inl (cI, 221, .inl zs)), (ad 3, .inl (cI, 1768, .inl sd)), (ad 4, .inl (cI, 80, .inl tx)), (ad 5, .inl (cI, 8, .inl ds)), (ad 6, .inl (cI, 8, .inl rg))]) := hD
                  refine tpe (y := F 1 (vbN F rr al k)) (RZ_1 hZ (by omega)) ?_
                  refine lv_icmp_lt (tgt := 130) hx hb dX5_victim_95 (by decide) (fun h_5 => ?_) (fun h_5 => ?_)
                  · have h_5 := h_5
                    refine lv_iconst (v := (nI 1)) hx hb dX5_victim_130 (by decide) ?_
                    refine lv_goto (tgt := 135) hx hb dX5_victim_131 (by decide) ?_
                    refine lv_istore (lv' := [(5, .int (nI 1)), (4, .int (nI (rr k))), (0, .ref (ad 0)), (1, .int (nI al.toNat)), (2, .int (nI (vbN F rr al k))), (3, .int (nI k))]) hx hb dX5_victim_135 hl (by decide) rfl (fun ls hl => ?_)
                    refine lv_iload hx hb dX5_victim_137 (lv_at hl 0 rfl) ?_
                    refine lv_if_eq (tgt := 147) hx hb dX5_victim_139 (by decide) (fun h => absurd h (by decide)) (fun _ => ?_)
                    refine lv_iload hx hb dX5_victim_142 (lv_at hl 1 rfl) ?_
                    refine lv_goto (tgt := 148) hx hb dX5_victim_144 (by decide) ?_
                    refine lv_istore_n (lv' := [(2, .int (nI (rr k))), (5, .int (nI 1)), (4, .int (nI (rr k))), (0, .ref (ad 0)), (1, .int (nI al.toNat)), (3, .int (nI k))]) hx hb dX5_victim_148 rfl hl (by decide) rfl (fun ls hl => ?_)
                    refine lv_iinc (v := (nI (k + 1))) (lv' := [(3, .int (nI (k + 1))), (2, .int (nI (rr k))), (5, .int (nI 1)), (4, .int (nI (rr k))), (0, .ref (ad 0)), (1, .int (nI al.toNat))]) hx hb dX5_victim_149 hl (k := 5) rfl (nI_add _ 1) (by decide) rfl (fun ls hl => ?_)
                    refine lv_goto (tgt := 47) hx hb dX5_victim_152 (by decide) ?_
                    rw [show (nI (rr k)) = (bI (vbN F rr al (k + 1))) from (by rw [vbN, if_pos ⟨(by rw [h_3]; rfl), (Or.inr (by simp [betB, h_5]))⟩, bI_some (by omega)])] at hl
                    exact ih47 (k + 1) (by omega) (by omega) _ _ hP hD hS _ (lv_sub hl [4, 5, 1, 0] rfl)
                  · have h_5 := h_5
                    refine lv_aload_n hx hb dX5_victim_98 rfl (lv_at hl 1 rfl) ?_
                    refine lv_iload hx hb dX5_victim_99 (lv_at hl 0 rfl) ?_
                    refine lv_iconst (v := (nI 1)) hx hb dX5_victim_101 (by decide) ?_
                    refine call_i (X := []) (Z := []) (As := [.int (nI (rr k)), .int (nI 1)]) (rest := []) ⟨hx, hb, hml, hown, hts⟩ (c_X5_of l D cI cT ad th sv ln vs (nI m9) cm fi se z zs sd tx ds rg (rr k) 1 (by omega)) (cwV 2 hts gX5_victim_X5_of rfl rfl rfl (by decide +kernel) ⟨Nat.le_of_ble_eq_true rfl, Nat.le_of_ble_eq_true rfl⟩) hK hP hD hS hA (va_recv hK hP (ci := 5) (q0 := 0) rfl rfl) (fun _ => rfl) rfl hl.1 rfl (Nat.le_of_ble_eq_true rfl) ⟨by decide, by decide⟩ dX5_victim_102 (fun rv _ H locs hp hP hD hS => ?_)
                    obtain rfl := hp
                    have hP : va_P D vwCl ([(ad 0, .inr (5, [.int th, .ref (ad 1), .ref (ad 2), .ref (ad 3), .int sv, .ref (ad 4), .int ln, .int vs, .ref (ad 5), .ref (ad 6), .int (nI m9), .int cm, .int fi, .int se])), (ad 1, .inl (cI, 221, .inl z)), (ad 2, .inl (cI, 221, .inl zs)), (ad 3, .inl (cI, 1768, .inl sd)), (ad 4, .inl (cI, 80, .inl tx)), (ad 5, .inl (cI, 8, .inl ds)), (ad 6, .inl (cI, 8, .inl rg))]) H := hP
                    have hD : va_D A ([(ad 0, .inr (5, [.int th, .ref (ad 1), .ref (ad 2), .ref (ad 3), .int sv, .ref (ad 4), .int ln, .int vs, .ref (ad 5), .ref (ad 6), .int (nI m9), .int cm, .int fi, .int se])), (ad 1, .inl (cI, 221, .inl z)), (ad 2, .inl (cI, 221, .inl zs)), (ad 3, .inl (cI, 1768, .inl sd)), (ad 4, .inl (cI, 80, .inl tx)), (ad 5, .inl (cI, 8, .inl ds)), (ad 6, .inl (cI, 8, .inl rg))]) := hD
                    refine tpe (y := F 1 (rr k)) (RZ_1 hZ (by omega)) ?_
                    refine lv_aload_n hx hb dX5_victim_105 rfl (lv_at hl 1 rfl) ?_
                    refine lv_iload_n hx hb dX5_victim_106 rfl (lv_at hl 3 rfl) ?_
                    refine lv_iconst (v := (nI 1)) hx hb dX5_victim_107 (by decide) ?_
                    refine call_i (X := []) (Z := []) (As := [.int (nI (vbN F rr al k)), .int (nI 1)]) (rest := [.int (F 1 (rr k))]) ⟨hx, hb, hml, hown, hts⟩ (c_X5_of l D cI cT ad th sv ln vs (nI m9) cm fi se z zs sd tx ds rg (vbN F rr al k) 1 (by omega)) (cwV 2 hts gX5_victim_X5_of rfl rfl rfl (by decide +kernel) ⟨Nat.le_of_ble_eq_true rfl, Nat.le_of_ble_eq_true rfl⟩) hK hP hD hS hA (va_recv hK hP (ci := 5) (q0 := 0) rfl rfl) (fun _ => rfl) rfl hl.1 rfl (Nat.le_of_ble_eq_true rfl) ⟨by decide, by decide⟩ dX5_victim_108 (fun rv _ H locs hp hP hD hS => ?_)
                    obtain rfl := hp
                    have hP : va_P D vwCl ([(ad 0, .inr (5, [.int th, .ref (ad 1), .ref (ad 2), .ref (ad 3), .int sv, .ref (ad 4), .int ln, .int vs, .ref (ad 5), .ref (ad 6), .int (nI m9), .int cm, .int fi, .int se])), (ad 1, .inl (cI, 221, .inl z)), (ad 2, .inl (cI, 221, .inl zs)), (ad 3, .inl (cI, 1768, .inl sd)), (ad 4, .inl (cI, 80, .inl tx)), (ad 5, .inl (cI, 8, .inl ds)), (ad 6, .inl (cI, 8, .inl rg))]) H := hP
                    have hD : va_D A ([(ad 0, .inr (5, [.int th, .ref (ad 1), .ref (ad 2), .ref (ad 3), .int sv, .ref (ad 4), .int ln, .int vs, .ref (ad 5), .ref (ad 6), .int (nI m9), .int cm, .int fi, .int se])), (ad 1, .inl (cI, 221, .inl z)), (ad 2, .inl (cI, 221, .inl zs)), (ad 3, .inl (cI, 1768, .inl sd)), (ad 4, .inl (cI, 80, .inl tx)), (ad 5, .inl (cI, 8, .inl ds)), (ad 6, .inl (cI, 8, .inl rg))]) := hD
                    refine tpe (y := F 1 (vbN F rr al k)) (RZ_1 hZ (by omega)) ?_
                    refine lv_icmp_ne (tgt := 134) hx hb dX5_victim_111 (by decide) (fun h_6 => ?_) (fun h_6 => ?_)
                    · have h_6 := h_6
                      refine lv_iconst (v := (nI 0)) hx hb dX5_victim_134 (by decide) ?_
                      refine lv_istore (lv' := [(5, .int (nI 0)), (4, .int (nI (rr k))), (0, .ref (ad 0)), (1, .int (nI al.toNat)), (2, .int (nI (vbN F rr al k))), (3, .int (nI k))]) hx hb dX5_victim_135 hl (by decide) rfl (fun ls hl => ?_)
                      refine lv_iload hx hb dX5_victim_137 (lv_at hl 0 rfl) ?_
                      refine lv_if_eq (tgt := 147) hx hb dX5_victim_139 (by decide) (fun _ => ?_) (fun h => absurd (by decide) h)
                      refine lv_iload_n hx hb dX5_victim_147 rfl (lv_at hl 4 rfl) ?_
                      refine lv_istore_n (lv' := [(2, .int (nI (vbN F rr al k))), (5, .int (nI 0)), (4, .int (nI (rr k))), (0, .ref (ad 0)), (1, .int (nI al.toNat)), (3, .int (nI k))]) hx hb dX5_victim_148 rfl hl (by decide) rfl (fun ls hl => ?_)
                      refine lv_iinc (v := (nI (k + 1))) (lv' := [(3, .int (nI (k + 1))), (2, .int (nI (vbN F rr al k))), (5, .int (nI 0)), (4, .int (nI (rr k))), (0, .ref (ad 0)), (1, .int (nI al.toNat))]) hx hb dX5_victim_149 hl (k := 5) rfl (nI_add _ 1) (by decide) rfl (fun ls hl => ?_)
                      refine lv_goto (tgt := 47) hx hb dX5_victim_152 (by decide) ?_
                      rw [show (nI (vbN F rr al k)) = (bI (vbN F rr al (k + 1))) from (by rw [vbN, if_neg (fun q => q.2.elim hx8 (by simp [betB, h_5, h_6]))]; exact (bI_some hx8).symm)] at hl
                      exact ih47 (k + 1) (by omega) (by omega) _ _ hP hD hS _ (lv_sub hl [4, 5, 1, 0] rfl)
                    · have h_6 := h_6
                      refine lv_aload_n hx hb dX5_victim_114 rfl (lv_at hl 1 rfl) ?_
                      refine lv_iload hx hb dX5_victim_115 (lv_at hl 0 rfl) ?_
                      refine lv_iconst (v := (nI 3)) hx hb dX5_victim_117 (by decide) ?_
                      refine call_i (X := []) (Z := []) (As := [.int (nI (rr k)), .int (nI 3)]) (rest := []) ⟨hx, hb, hml, hown, hts⟩ (c_X5_of l D cI cT ad th sv ln vs (nI m9) cm fi se z zs sd tx ds rg (rr k) 3 (by omega)) (cwV 2 hts gX5_victim_X5_of rfl rfl rfl (by decide +kernel) ⟨Nat.le_of_ble_eq_true rfl, Nat.le_of_ble_eq_true rfl⟩) hK hP hD hS hA (va_recv hK hP (ci := 5) (q0 := 0) rfl rfl) (fun _ => rfl) rfl hl.1 rfl (Nat.le_of_ble_eq_true rfl) ⟨by decide, by decide⟩ dX5_victim_118 (fun rv _ H locs hp hP hD hS => ?_)
                      obtain rfl := hp
                      have hP : va_P D vwCl ([(ad 0, .inr (5, [.int th, .ref (ad 1), .ref (ad 2), .ref (ad 3), .int sv, .ref (ad 4), .int ln, .int vs, .ref (ad 5), .ref (ad 6), .int (nI m9), .int cm, .int fi, .int se])), (ad 1, .inl (cI, 221, .inl z)), (ad 2, .inl (cI, 221, .inl zs)), (ad 3, .inl (cI, 1768, .inl sd)), (ad 4, .inl (cI, 80, .inl tx)), (ad 5, .inl (cI, 8, .inl ds)), (ad 6, .inl (cI, 8, .inl rg))]) H := hP
                      have hD : va_D A ([(ad 0, .inr (5, [.int th, .ref (ad 1), .ref (ad 2), .ref (ad 3), .int sv, .ref (ad 4), .int ln, .int vs, .ref (ad 5), .ref (ad 6), .int (nI m9), .int cm, .int fi, .int se])), (ad 1, .inl (cI, 221, .inl z)), (ad 2, .inl (cI, 221, .inl zs)), (ad 3, .inl (cI, 1768, .inl sd)), (ad 4, .inl (cI, 80, .inl tx)), (ad 5, .inl (cI, 8, .inl ds)), (ad 6, .inl (cI, 8, .inl rg))]) := hD
                      refine tpe (y := F 0 (rr k)) (RZ_3 hZ (by omega)) ?_
                      refine lv_aload_n hx hb dX5_victim_121 rfl (lv_at hl 1 rfl) ?_
                      refine lv_iload_n hx hb dX5_victim_122 rfl (lv_at hl 3 rfl) ?_
                      refine lv_iconst (v := (nI 3)) hx hb dX5_victim_123 (by decide) ?_
                      refine call_i (X := []) (Z := []) (As := [.int (nI (vbN F rr al k)), .int (nI 3)]) (rest := [.int (F 0 (rr k))]) ⟨hx, hb, hml, hown, hts⟩ (c_X5_of l D cI cT ad th sv ln vs (nI m9) cm fi se z zs sd tx ds rg (vbN F rr al k) 3 (by omega)) (cwV 2 hts gX5_victim_X5_of rfl rfl rfl (by decide +kernel) ⟨Nat.le_of_ble_eq_true rfl, Nat.le_of_ble_eq_true rfl⟩) hK hP hD hS hA (va_recv hK hP (ci := 5) (q0 := 0) rfl rfl) (fun _ => rfl) rfl hl.1 rfl (Nat.le_of_ble_eq_true rfl) ⟨by decide, by decide⟩ dX5_victim_124 (fun rv _ H locs hp hP hD hS => ?_)
                      obtain rfl := hp
                      have hP : va_P D vwCl ([(ad 0, .inr (5, [.int th, .ref (ad 1), .ref (ad 2), .ref (ad 3), .int sv, .ref (ad 4), .int ln, .int vs, .ref (ad 5), .ref (ad 6), .int (nI m9), .int cm, .int fi, .int se])), (ad 1, .inl (cI, 221, .inl z)), (ad 2, .inl (cI, 221, .inl zs)), (ad 3, .inl (cI, 1768, .inl sd)), (ad 4, .inl (cI, 80, .inl tx)), (ad 5, .inl (cI, 8, .inl ds)), (ad 6, .inl (cI, 8, .inl rg))]) H := hP
                      have hD : va_D A ([(ad 0, .inr (5, [.int th, .ref (ad 1), .ref (ad 2), .ref (ad 3), .int sv, .ref (ad 4), .int ln, .int vs, .ref (ad 5), .ref (ad 6), .int (nI m9), .int cm, .int fi, .int se])), (ad 1, .inl (cI, 221, .inl z)), (ad 2, .inl (cI, 221, .inl zs)), (ad 3, .inl (cI, 1768, .inl sd)), (ad 4, .inl (cI, 80, .inl tx)), (ad 5, .inl (cI, 8, .inl ds)), (ad 6, .inl (cI, 8, .inl rg))]) := hD
                      refine tpe (y := F 0 (vbN F rr al k)) (RZ_3 hZ (by omega)) ?_
                      refine lv_icmp_le (tgt := 134) hx hb dX5_victim_127 (by decide) (fun h_7 => ?_) (fun h_7 => ?_)
                      · have h_7 := h_7
                        refine lv_iconst (v := (nI 0)) hx hb dX5_victim_134 (by decide) ?_
                        refine lv_istore (lv' := [(5, .int (nI 0)), (4, .int (nI (rr k))), (0, .ref (ad 0)), (1, .int (nI al.toNat)), (2, .int (nI (vbN F rr al k))), (3, .int (nI k))]) hx hb dX5_victim_135 hl (by decide) rfl (fun ls hl => ?_)
                        refine lv_iload hx hb dX5_victim_137 (lv_at hl 0 rfl) ?_
                        refine lv_if_eq (tgt := 147) hx hb dX5_victim_139 (by decide) (fun _ => ?_) (fun h => absurd (by decide) h)
                        refine lv_iload_n hx hb dX5_victim_147 rfl (lv_at hl 4 rfl) ?_
                        refine lv_istore_n (lv' := [(2, .int (nI (vbN F rr al k))), (5, .int (nI 0)), (4, .int (nI (rr k))), (0, .ref (ad 0)), (1, .int (nI al.toNat)), (3, .int (nI k))]) hx hb dX5_victim_148 rfl hl (by decide) rfl (fun ls hl => ?_)
                        refine lv_iinc (v := (nI (k + 1))) (lv' := [(3, .int (nI (k + 1))), (2, .int (nI (vbN F rr al k))), (5, .int (nI 0)), (4, .int (nI (rr k))), (0, .ref (ad 0)), (1, .int (nI al.toNat))]) hx hb dX5_victim_149 hl (k := 5) rfl (nI_add _ 1) (by decide) rfl (fun ls hl => ?_)
                        refine lv_goto (tgt := 47) hx hb dX5_victim_152 (by decide) ?_
                        rw [show (nI (vbN F rr al k)) = (bI (vbN F rr al (k + 1))) from (by rw [vbN, if_neg (fun q => q.2.elim hx8 (by simp [betB, h_5, h_6, le_not h_7]))]; exact (bI_some hx8).symm)] at hl
                        exact ih47 (k + 1) (by omega) (by omega) _ _ hP hD hS _ (lv_sub hl [4, 5, 1, 0] rfl)
                      · have h_7 := h_7
                        refine lv_iconst (v := (nI 1)) hx hb dX5_victim_130 (by decide) ?_
                        refine lv_goto (tgt := 135) hx hb dX5_victim_131 (by decide) ?_
                        refine lv_istore (lv' := [(5, .int (nI 1)), (4, .int (nI (rr k))), (0, .ref (ad 0)), (1, .int (nI al.toNat)), (2, .int (nI (vbN F rr al k))), (3, .int (nI k))]) hx hb dX5_victim_135 hl (by decide) rfl (fun ls hl => ?_)
                        refine lv_iload hx hb dX5_victim_137 (lv_at hl 0 rfl) ?_
                        refine lv_if_eq (tgt := 147) hx hb dX5_victim_139 (by decide) (fun h => absurd h (by decide)) (fun _ => ?_)
                        refine lv_iload hx hb dX5_victim_142 (lv_at hl 1 rfl) ?_
                        refine lv_goto (tgt := 148) hx hb dX5_victim_144 (by decide) ?_
                        refine lv_istore_n (lv' := [(2, .int (nI (rr k))), (5, .int (nI 1)), (4, .int (nI (rr k))), (0, .ref (ad 0)), (1, .int (nI al.toNat)), (3, .int (nI k))]) hx hb dX5_victim_148 rfl hl (by decide) rfl (fun ls hl => ?_)
                        refine lv_iinc (v := (nI (k + 1))) (lv' := [(3, .int (nI (k + 1))), (2, .int (nI (rr k))), (5, .int (nI 1)), (4, .int (nI (rr k))), (0, .ref (ad 0)), (1, .int (nI al.toNat))]) hx hb dX5_victim_149 hl (k := 5) rfl (nI_add _ 1) (by decide) rfl (fun ls hl => ?_)
                        refine lv_goto (tgt := 47) hx hb dX5_victim_152 (by decide) ?_
                        rw [show (nI (rr k)) = (bI (vbN F rr al (k + 1))) from (by rw [vbN, if_pos ⟨(by rw [h_3]; rfl), (Or.inr (by simp [betB, h_5, h_6, lt_of_nle h_7]))⟩, bI_some (by omega)])] at hl
                        exact ih47 (k + 1) (by omega) (by omega) _ _ hP hD hS _ (lv_sub hl [4, 5, 1, 0] rfl)
              · have h_3 := (nI_eq (a := al.toNat) (b := 0) (by first | omega | exact bits_lt31 _ | exact bitN_lt _ _ | exact bool_lt _ | exact and_lt31 _ _ _ _ | exact Nat.lt_of_le_of_lt (dst_lt _ _ _ (by omega) _) (by decide) | exact Nat.lt_of_le_of_lt (nrB_le _ _ _ (by omega)).2 (by decide) | decide) (by first | omega | exact bits_lt31 _ | exact bitN_lt _ _ | exact bool_lt _ | exact and_lt31 _ _ _ _ | exact Nat.lt_of_le_of_lt (dst_lt _ _ _ (by omega) _) (by decide) | exact Nat.lt_of_le_of_lt (nrB_le _ _ _ (by omega)).2 (by decide) | decide)).mp h_3
                have h_3 := tn_f h_3
                refine lv_aload_n hx hb dX5_victim_67 rfl (lv_at hl 1 rfl) ?_
                refine lv_iload hx hb dX5_victim_68 (lv_at hl 0 rfl) ?_
                refine lv_iconst (v := (nI 2)) hx hb dX5_victim_70 (by decide) ?_
                refine call_i (X := []) (Z := []) (As := [.int (nI (rr k)), .int (nI 2)]) (rest := []) ⟨hx, hb, hml, hown, hts⟩ (c_X5_of l D cI cT ad th sv ln vs (nI m9) cm fi se z zs sd tx ds rg (rr k) 2 (by omega)) (cwV 2 hts gX5_victim_X5_of rfl rfl rfl (by decide +kernel) ⟨Nat.le_of_ble_eq_true rfl, Nat.le_of_ble_eq_true rfl⟩) hK hP hD hS hA (va_recv hK hP (ci := 5) (q0 := 0) rfl rfl) (fun _ => rfl) rfl hl.1 rfl (Nat.le_of_ble_eq_true rfl) ⟨by decide, by decide⟩ dX5_victim_71 (fun rv _ H locs hp hP hD hS => ?_)
                obtain rfl := hp
                have hP : va_P D vwCl ([(ad 0, .inr (5, [.int th, .ref (ad 1), .ref (ad 2), .ref (ad 3), .int sv, .ref (ad 4), .int ln, .int vs, .ref (ad 5), .ref (ad 6), .int (nI m9), .int cm, .int fi, .int se])), (ad 1, .inl (cI, 221, .inl z)), (ad 2, .inl (cI, 221, .inl zs)), (ad 3, .inl (cI, 1768, .inl sd)), (ad 4, .inl (cI, 80, .inl tx)), (ad 5, .inl (cI, 8, .inl ds)), (ad 6, .inl (cI, 8, .inl rg))]) H := hP
                have hD : va_D A ([(ad 0, .inr (5, [.int th, .ref (ad 1), .ref (ad 2), .ref (ad 3), .int sv, .ref (ad 4), .int ln, .int vs, .ref (ad 5), .ref (ad 6), .int (nI m9), .int cm, .int fi, .int se])), (ad 1, .inl (cI, 221, .inl z)), (ad 2, .inl (cI, 221, .inl zs)), (ad 3, .inl (cI, 1768, .inl sd)), (ad 4, .inl (cI, 80, .inl tx)), (ad 5, .inl (cI, 8, .inl ds)), (ad 6, .inl (cI, 8, .inl rg))]) := hD
                refine tpe (y := F 2 (rr k)) (RZ_2 hZ (by omega)) ?_
                refine lv_iconst (v := (nI 2)) hx hb dX5_victim_74 (by decide) ?_
                refine lv_icmp_ge (tgt := 149) hx hb dX5_victim_75 (by decide) (fun h_8 => ?_) (fun h_8 => ?_)
                · have h_8 := h_8
                  refine lv_iinc (v := (nI (k + 1))) (lv' := [(3, .int (nI (k + 1))), (4, .int (nI (rr k))), (0, .ref (ad 0)), (1, .int (nI al.toNat)), (2, .int (bI (vbN F rr al k)))]) hx hb dX5_victim_149 hl (k := 4) rfl (nI_add _ 1) (by decide) rfl (fun ls hl => ?_)
                  refine lv_goto (tgt := 47) hx hb dX5_victim_152 (by decide) ?_
                  rw [show (bI (vbN F rr al k)) = (bI (vbN F rr al (k + 1))) from (by rw [vbN, if_neg (fun q => by have := q.1; simp [h_3, spB, le_not h_8] at this)])] at hl
                  exact ih47 (k + 1) (by omega) (by omega) _ _ hP hD hS _ (lv_sub hl [2, 3, 4, 0] rfl)
                · have h_8 := h_8
                  refine lv_iload_n hx hb dX5_victim_78 rfl (lv_at hl 3 rfl) ?_
                  refine lv_if_lt (tgt := 130) hx hb dX5_victim_79 (by decide) (fun h_9 => ?_) (fun h_9 => ?_)
                  · have h_9 := h_9
                    refine lv_iconst (v := (nI 1)) hx hb dX5_victim_130 (by decide) ?_
                    refine lv_goto (tgt := 135) hx hb dX5_victim_131 (by decide) ?_
                    refine lv_istore (lv' := [(5, .int (nI 1)), (4, .int (nI (rr k))), (0, .ref (ad 0)), (1, .int (nI al.toNat)), (2, .int (bI (vbN F rr al k))), (3, .int (nI k))]) hx hb dX5_victim_135 hl (by decide) rfl (fun ls hl => ?_)
                    refine lv_iload hx hb dX5_victim_137 (lv_at hl 0 rfl) ?_
                    refine lv_if_eq (tgt := 147) hx hb dX5_victim_139 (by decide) (fun h => absurd h (by decide)) (fun _ => ?_)
                    refine lv_iload hx hb dX5_victim_142 (lv_at hl 1 rfl) ?_
                    refine lv_goto (tgt := 148) hx hb dX5_victim_144 (by decide) ?_
                    refine lv_istore_n (lv' := [(2, .int (nI (rr k))), (5, .int (nI 1)), (4, .int (nI (rr k))), (0, .ref (ad 0)), (1, .int (nI al.toNat)), (3, .int (nI k))]) hx hb dX5_victim_148 rfl hl (by decide) rfl (fun ls hl => ?_)
                    refine lv_iinc (v := (nI (k + 1))) (lv' := [(3, .int (nI (k + 1))), (2, .int (nI (rr k))), (5, .int (nI 1)), (4, .int (nI (rr k))), (0, .ref (ad 0)), (1, .int (nI al.toNat))]) hx hb dX5_victim_149 hl (k := 5) rfl (nI_add _ 1) (by decide) rfl (fun ls hl => ?_)
                    refine lv_goto (tgt := 47) hx hb dX5_victim_152 (by decide) ?_
                    rw [show (nI (rr k)) = (bI (vbN F rr al (k + 1))) from (by rw [vbN, if_pos ⟨(by simp [spB, lt_of_nle h_8]), (Or.inl ((bI_neg hvl).mp h_9))⟩, bI_some (by omega)])] at hl
                    exact ih47 (k + 1) (by omega) (by omega) _ _ hP hD hS _ (lv_sub hl [4, 5, 1, 0] rfl)
                  · have h_9 := h_9
                    have hx8 : ¬ vbN F rr al k = 8 := fun q => h_9 ((bI_neg hvl).mpr q)
                    have hxl : vbN F rr al k < 8 := by omega
                    rw [bI_some hx8] at hl
                    refine lv_aload_n hx hb dX5_victim_82 rfl (lv_at hl 1 rfl) ?_
                    refine lv_iload hx hb dX5_victim_83 (lv_at hl 0 rfl) ?_
                    refine lv_iconst (v := (nI 1)) hx hb dX5_victim_85 (by decide) ?_
                    refine call_i (X := []) (Z := []) (As := [.int (nI (rr k)), .int (nI 1)]) (rest := []) ⟨hx, hb, hml, hown, hts⟩ (c_X5_of l D cI cT ad th sv ln vs (nI m9) cm fi se z zs sd tx ds rg (rr k) 1 (by omega)) (cwV 2 hts gX5_victim_X5_of rfl rfl rfl (by decide +kernel) ⟨Nat.le_of_ble_eq_true rfl, Nat.le_of_ble_eq_true rfl⟩) hK hP hD hS hA (va_recv hK hP (ci := 5) (q0 := 0) rfl rfl) (fun _ => rfl) rfl hl.1 rfl (Nat.le_of_ble_eq_true rfl) ⟨by decide, by decide⟩ dX5_victim_86 (fun rv _ H locs hp hP hD hS => ?_)
                    obtain rfl := hp
                    have hP : va_P D vwCl ([(ad 0, .inr (5, [.int th, .ref (ad 1), .ref (ad 2), .ref (ad 3), .int sv, .ref (ad 4), .int ln, .int vs, .ref (ad 5), .ref (ad 6), .int (nI m9), .int cm, .int fi, .int se])), (ad 1, .inl (cI, 221, .inl z)), (ad 2, .inl (cI, 221, .inl zs)), (ad 3, .inl (cI, 1768, .inl sd)), (ad 4, .inl (cI, 80, .inl tx)), (ad 5, .inl (cI, 8, .inl ds)), (ad 6, .inl (cI, 8, .inl rg))]) H := hP
                    have hD : va_D A ([(ad 0, .inr (5, [.int th, .ref (ad 1), .ref (ad 2), .ref (ad 3), .int sv, .ref (ad 4), .int ln, .int vs, .ref (ad 5), .ref (ad 6), .int (nI m9), .int cm, .int fi, .int se])), (ad 1, .inl (cI, 221, .inl z)), (ad 2, .inl (cI, 221, .inl zs)), (ad 3, .inl (cI, 1768, .inl sd)), (ad 4, .inl (cI, 80, .inl tx)), (ad 5, .inl (cI, 8, .inl ds)), (ad 6, .inl (cI, 8, .inl rg))]) := hD
                    refine tpe (y := F 1 (rr k)) (RZ_1 hZ (by omega)) ?_
                    refine lv_aload_n hx hb dX5_victim_89 rfl (lv_at hl 1 rfl) ?_
                    refine lv_iload_n hx hb dX5_victim_90 rfl (lv_at hl 3 rfl) ?_
                    refine lv_iconst (v := (nI 1)) hx hb dX5_victim_91 (by decide) ?_
                    refine call_i (X := []) (Z := []) (As := [.int (nI (vbN F rr al k)), .int (nI 1)]) (rest := [.int (F 1 (rr k))]) ⟨hx, hb, hml, hown, hts⟩ (c_X5_of l D cI cT ad th sv ln vs (nI m9) cm fi se z zs sd tx ds rg (vbN F rr al k) 1 (by omega)) (cwV 2 hts gX5_victim_X5_of rfl rfl rfl (by decide +kernel) ⟨Nat.le_of_ble_eq_true rfl, Nat.le_of_ble_eq_true rfl⟩) hK hP hD hS hA (va_recv hK hP (ci := 5) (q0 := 0) rfl rfl) (fun _ => rfl) rfl hl.1 rfl (Nat.le_of_ble_eq_true rfl) ⟨by decide, by decide⟩ dX5_victim_92 (fun rv _ H locs hp hP hD hS => ?_)
                    obtain rfl := hp
                    have hP : va_P D vwCl ([(ad 0, .inr (5, [.int th, .ref (ad 1), .ref (ad 2), .ref (ad 3), .int sv, .ref (ad 4), .int ln, .int vs, .ref (ad 5), .ref (ad 6), .int (nI m9), .int cm, .int fi, .int se])), (ad 1, .inl (cI, 221, .inl z)), (ad 2, .inl (cI, 221, .inl zs)), (ad 3, .inl (cI, 1768, .inl sd)), (ad 4, .inl (cI, 80, .inl tx)), (ad 5, .inl (cI, 8, .inl ds)), (ad 6, .inl (cI, 8, .inl rg))]) H := hP
                    have hD : va_D A ([(ad 0, .inr (5, [.int th, .ref (ad 1), .ref (ad 2), .ref (ad 3), .int sv, .ref (ad 4), .int ln, .int vs, .ref (ad 5), .ref (ad 6), .int (nI m9), .int cm, .int fi, .int se])), (ad 1, .inl (cI, 221, .inl z)), (ad 2, .inl (cI, 221, .inl zs)), (ad 3, .inl (cI, 1768, .inl sd)), (ad 4, .inl (cI, 80, .inl tx)), (ad 5, .inl (cI, 8, .inl ds)), (ad 6, .inl (cI, 8, .inl rg))]) := hD
                    refine tpe (y := F 1 (vbN F rr al k)) (RZ_1 hZ (by omega)) ?_
                    refine lv_icmp_lt (tgt := 130) hx hb dX5_victim_95 (by decide) (fun h_10 => ?_) (fun h_10 => ?_)
                    · have h_10 := h_10
                      refine lv_iconst (v := (nI 1)) hx hb dX5_victim_130 (by decide) ?_
                      refine lv_goto (tgt := 135) hx hb dX5_victim_131 (by decide) ?_
                      refine lv_istore (lv' := [(5, .int (nI 1)), (4, .int (nI (rr k))), (0, .ref (ad 0)), (1, .int (nI al.toNat)), (2, .int (nI (vbN F rr al k))), (3, .int (nI k))]) hx hb dX5_victim_135 hl (by decide) rfl (fun ls hl => ?_)
                      refine lv_iload hx hb dX5_victim_137 (lv_at hl 0 rfl) ?_
                      refine lv_if_eq (tgt := 147) hx hb dX5_victim_139 (by decide) (fun h => absurd h (by decide)) (fun _ => ?_)
                      refine lv_iload hx hb dX5_victim_142 (lv_at hl 1 rfl) ?_
                      refine lv_goto (tgt := 148) hx hb dX5_victim_144 (by decide) ?_
                      refine lv_istore_n (lv' := [(2, .int (nI (rr k))), (5, .int (nI 1)), (4, .int (nI (rr k))), (0, .ref (ad 0)), (1, .int (nI al.toNat)), (3, .int (nI k))]) hx hb dX5_victim_148 rfl hl (by decide) rfl (fun ls hl => ?_)
                      refine lv_iinc (v := (nI (k + 1))) (lv' := [(3, .int (nI (k + 1))), (2, .int (nI (rr k))), (5, .int (nI 1)), (4, .int (nI (rr k))), (0, .ref (ad 0)), (1, .int (nI al.toNat))]) hx hb dX5_victim_149 hl (k := 5) rfl (nI_add _ 1) (by decide) rfl (fun ls hl => ?_)
                      refine lv_goto (tgt := 47) hx hb dX5_victim_152 (by decide) ?_
                      rw [show (nI (rr k)) = (bI (vbN F rr al (k + 1))) from (by rw [vbN, if_pos ⟨(by simp [spB, lt_of_nle h_8]), (Or.inr (by simp [betB, h_10]))⟩, bI_some (by omega)])] at hl
                      exact ih47 (k + 1) (by omega) (by omega) _ _ hP hD hS _ (lv_sub hl [4, 5, 1, 0] rfl)
                    · have h_10 := h_10
                      refine lv_aload_n hx hb dX5_victim_98 rfl (lv_at hl 1 rfl) ?_
                      refine lv_iload hx hb dX5_victim_99 (lv_at hl 0 rfl) ?_
                      refine lv_iconst (v := (nI 1)) hx hb dX5_victim_101 (by decide) ?_
                      refine call_i (X := []) (Z := []) (As := [.int (nI (rr k)), .int (nI 1)]) (rest := []) ⟨hx, hb, hml, hown, hts⟩ (c_X5_of l D cI cT ad th sv ln vs (nI m9) cm fi se z zs sd tx ds rg (rr k) 1 (by omega)) (cwV 2 hts gX5_victim_X5_of rfl rfl rfl (by decide +kernel) ⟨Nat.le_of_ble_eq_true rfl, Nat.le_of_ble_eq_true rfl⟩) hK hP hD hS hA (va_recv hK hP (ci := 5) (q0 := 0) rfl rfl) (fun _ => rfl) rfl hl.1 rfl (Nat.le_of_ble_eq_true rfl) ⟨by decide, by decide⟩ dX5_victim_102 (fun rv _ H locs hp hP hD hS => ?_)
                      obtain rfl := hp
                      have hP : va_P D vwCl ([(ad 0, .inr (5, [.int th, .ref (ad 1), .ref (ad 2), .ref (ad 3), .int sv, .ref (ad 4), .int ln, .int vs, .ref (ad 5), .ref (ad 6), .int (nI m9), .int cm, .int fi, .int se])), (ad 1, .inl (cI, 221, .inl z)), (ad 2, .inl (cI, 221, .inl zs)), (ad 3, .inl (cI, 1768, .inl sd)), (ad 4, .inl (cI, 80, .inl tx)), (ad 5, .inl (cI, 8, .inl ds)), (ad 6, .inl (cI, 8, .inl rg))]) H := hP
                      have hD : va_D A ([(ad 0, .inr (5, [.int th, .ref (ad 1), .ref (ad 2), .ref (ad 3), .int sv, .ref (ad 4), .int ln, .int vs, .ref (ad 5), .ref (ad 6), .int (nI m9), .int cm, .int fi, .int se])), (ad 1, .inl (cI, 221, .inl z)), (ad 2, .inl (cI, 221, .inl zs)), (ad 3, .inl (cI, 1768, .inl sd)), (ad 4, .inl (cI, 80, .inl tx)), (ad 5, .inl (cI, 8, .inl ds)), (ad 6, .inl (cI, 8, .inl rg))]) := hD
                      refine tpe (y := F 1 (rr k)) (RZ_1 hZ (by omega)) ?_
                      refine lv_aload_n hx hb dX5_victim_105 rfl (lv_at hl 1 rfl) ?_
                      refine lv_iload_n hx hb dX5_victim_106 rfl (lv_at hl 3 rfl) ?_
                      refine lv_iconst (v := (nI 1)) hx hb dX5_victim_107 (by decide) ?_
                      refine call_i (X := []) (Z := []) (As := [.int (nI (vbN F rr al k)), .int (nI 1)]) (rest := [.int (F 1 (rr k))]) ⟨hx, hb, hml, hown, hts⟩ (c_X5_of l D cI cT ad th sv ln vs (nI m9) cm fi se z zs sd tx ds rg (vbN F rr al k) 1 (by omega)) (cwV 2 hts gX5_victim_X5_of rfl rfl rfl (by decide +kernel) ⟨Nat.le_of_ble_eq_true rfl, Nat.le_of_ble_eq_true rfl⟩) hK hP hD hS hA (va_recv hK hP (ci := 5) (q0 := 0) rfl rfl) (fun _ => rfl) rfl hl.1 rfl (Nat.le_of_ble_eq_true rfl) ⟨by decide, by decide⟩ dX5_victim_108 (fun rv _ H locs hp hP hD hS => ?_)
                      obtain rfl := hp
                      have hP : va_P D vwCl ([(ad 0, .inr (5, [.int th, .ref (ad 1), .ref (ad 2), .ref (ad 3), .int sv, .ref (ad 4), .int ln, .int vs, .ref (ad 5), .ref (ad 6), .int (nI m9), .int cm, .int fi, .int se])), (ad 1, .inl (cI, 221, .inl z)), (ad 2, .inl (cI, 221, .inl zs)), (ad 3, .inl (cI, 1768, .inl sd)), (ad 4, .inl (cI, 80, .inl tx)), (ad 5, .inl (cI, 8, .inl ds)), (ad 6, .inl (cI, 8, .inl rg))]) H := hP
                      have hD : va_D A ([(ad 0, .inr (5, [.int th, .ref (ad 1), .ref (ad 2), .ref (ad 3), .int sv, .ref (ad 4), .int ln, .int vs, .ref (ad 5), .ref (ad 6), .int (nI m9), .int cm, .int fi, .int se])), (ad 1, .inl (cI, 221, .inl z)), (ad 2, .inl (cI, 221, .inl zs)), (ad 3, .inl (cI, 1768, .inl sd)), (ad 4, .inl (cI, 80, .inl tx)), (ad 5, .inl (cI, 8, .inl ds)), (ad 6, .inl (cI, 8, .inl rg))]) := hD
                      refine tpe (y := F 1 (vbN F rr al k)) (RZ_1 hZ (by omega)) ?_
                      refine lv_icmp_ne (tgt := 134) hx hb dX5_victim_111 (by decide) (fun h_11 => ?_) (fun h_11 => ?_)
                      · have h_11 := h_11
                        refine lv_iconst (v := (nI 0)) hx hb dX5_victim_134 (by decide) ?_
                        refine lv_istore (lv' := [(5, .int (nI 0)), (4, .int (nI (rr k))), (0, .ref (ad 0)), (1, .int (nI al.toNat)), (2, .int (nI (vbN F rr al k))), (3, .int (nI k))]) hx hb dX5_victim_135 hl (by decide) rfl (fun ls hl => ?_)
                        refine lv_iload hx hb dX5_victim_137 (lv_at hl 0 rfl) ?_
                        refine lv_if_eq (tgt := 147) hx hb dX5_victim_139 (by decide) (fun _ => ?_) (fun h => absurd (by decide) h)
                        refine lv_iload_n hx hb dX5_victim_147 rfl (lv_at hl 4 rfl) ?_
                        refine lv_istore_n (lv' := [(2, .int (nI (vbN F rr al k))), (5, .int (nI 0)), (4, .int (nI (rr k))), (0, .ref (ad 0)), (1, .int (nI al.toNat)), (3, .int (nI k))]) hx hb dX5_victim_148 rfl hl (by decide) rfl (fun ls hl => ?_)
                        refine lv_iinc (v := (nI (k + 1))) (lv' := [(3, .int (nI (k + 1))), (2, .int (nI (vbN F rr al k))), (5, .int (nI 0)), (4, .int (nI (rr k))), (0, .ref (ad 0)), (1, .int (nI al.toNat))]) hx hb dX5_victim_149 hl (k := 5) rfl (nI_add _ 1) (by decide) rfl (fun ls hl => ?_)
                        refine lv_goto (tgt := 47) hx hb dX5_victim_152 (by decide) ?_
                        rw [show (nI (vbN F rr al k)) = (bI (vbN F rr al (k + 1))) from (by rw [vbN, if_neg (fun q => q.2.elim hx8 (by simp [betB, h_10, h_11]))]; exact (bI_some hx8).symm)] at hl
                        exact ih47 (k + 1) (by omega) (by omega) _ _ hP hD hS _ (lv_sub hl [4, 5, 1, 0] rfl)
                      · have h_11 := h_11
                        refine lv_aload_n hx hb dX5_victim_114 rfl (lv_at hl 1 rfl) ?_
                        refine lv_iload hx hb dX5_victim_115 (lv_at hl 0 rfl) ?_
                        refine lv_iconst (v := (nI 3)) hx hb dX5_victim_117 (by decide) ?_
                        refine call_i (X := []) (Z := []) (As := [.int (nI (rr k)), .int (nI 3)]) (rest := []) ⟨hx, hb, hml, hown, hts⟩ (c_X5_of l D cI cT ad th sv ln vs (nI m9) cm fi se z zs sd tx ds rg (rr k) 3 (by omega)) (cwV 2 hts gX5_victim_X5_of rfl rfl rfl (by decide +kernel) ⟨Nat.le_of_ble_eq_true rfl, Nat.le_of_ble_eq_true rfl⟩) hK hP hD hS hA (va_recv hK hP (ci := 5) (q0 := 0) rfl rfl) (fun _ => rfl) rfl hl.1 rfl (Nat.le_of_ble_eq_true rfl) ⟨by decide, by decide⟩ dX5_victim_118 (fun rv _ H locs hp hP hD hS => ?_)
                        obtain rfl := hp
                        have hP : va_P D vwCl ([(ad 0, .inr (5, [.int th, .ref (ad 1), .ref (ad 2), .ref (ad 3), .int sv, .ref (ad 4), .int ln, .int vs, .ref (ad 5), .ref (ad 6), .int (nI m9), .int cm, .int fi, .int se])), (ad 1, .inl (cI, 221, .inl z)), (ad 2, .inl (cI, 221, .inl zs)), (ad 3, .inl (cI, 1768, .inl sd)), (ad 4, .inl (cI, 80, .inl tx)), (ad 5, .inl (cI, 8, .inl ds)), (ad 6, .inl (cI, 8, .inl rg))]) H := hP
                        have hD : va_D A ([(ad 0, .inr (5, [.int th, .ref (ad 1), .ref (ad 2), .ref (ad 3), .int sv, .ref (ad 4), .int ln, .int vs, .ref (ad 5), .ref (ad 6), .int (nI m9), .int cm, .int fi, .int se])), (ad 1, .inl (cI, 221, .inl z)), (ad 2, .inl (cI, 221, .inl zs)), (ad 3, .inl (cI, 1768, .inl sd)), (ad 4, .inl (cI, 80, .inl tx)), (ad 5, .inl (cI, 8, .inl ds)), (ad 6, .inl (cI, 8, .inl rg))]) := hD
                        refine tpe (y := F 0 (rr k)) (RZ_3 hZ (by omega)) ?_
                        refine lv_aload_n hx hb dX5_victim_121 rfl (lv_at hl 1 rfl) ?_
                        refine lv_iload_n hx hb dX5_victim_122 rfl (lv_at hl 3 rfl) ?_
                        refine lv_iconst (v := (nI 3)) hx hb dX5_victim_123 (by decide) ?_
                        refine call_i (X := []) (Z := []) (As := [.int (nI (vbN F rr al k)), .int (nI 3)]) (rest := [.int (F 0 (rr k))]) ⟨hx, hb, hml, hown, hts⟩ (c_X5_of l D cI cT ad th sv ln vs (nI m9) cm fi se z zs sd tx ds rg (vbN F rr al k) 3 (by omega)) (cwV 2 hts gX5_victim_X5_of rfl rfl rfl (by decide +kernel) ⟨Nat.le_of_ble_eq_true rfl, Nat.le_of_ble_eq_true rfl⟩) hK hP hD hS hA (va_recv hK hP (ci := 5) (q0 := 0) rfl rfl) (fun _ => rfl) rfl hl.1 rfl (Nat.le_of_ble_eq_true rfl) ⟨by decide, by decide⟩ dX5_victim_124 (fun rv _ H locs hp hP hD hS => ?_)
                        obtain rfl := hp
                        have hP : va_P D vwCl ([(ad 0, .inr (5, [.int th, .ref (ad 1), .ref (ad 2), .ref (ad 3), .int sv, .ref (ad 4), .int ln, .int vs, .ref (ad 5), .ref (ad 6), .int (nI m9), .int cm, .int fi, .int se])), (ad 1, .inl (cI, 221, .inl z)), (ad 2, .inl (cI, 221, .inl zs)), (ad 3, .inl (cI, 1768, .inl sd)), (ad 4, .inl (cI, 80, .inl tx)), (ad 5, .inl (cI, 8, .inl ds)), (ad 6, .inl (cI, 8, .inl rg))]) H := hP
                        have hD : va_D A ([(ad 0, .inr (5, [.int th, .ref (ad 1), .ref (ad 2), .ref (ad 3), .int sv, .ref (ad 4), .int ln, .int vs, .ref (ad 5), .ref (ad 6), .int (nI m9), .int cm, .int fi, .int se])), (ad 1, .inl (cI, 221, .inl z)), (ad 2, .inl (cI, 221, .inl zs)), (ad 3, .inl (cI, 1768, .inl sd)), (ad 4, .inl (cI, 80, .inl tx)), (ad 5, .inl (cI, 8, .inl ds)), (ad 6, .inl (cI, 8, .inl rg))]) := hD
                        refine tpe (y := F 0 (vbN F rr al k)) (RZ_3 hZ (by omega)) ?_
                        refine lv_icmp_le (tgt := 134) hx hb dX5_victim_127 (by decide) (fun h_12 => ?_) (fun h_12 => ?_)
                        · have h_12 := h_12
                          refine lv_iconst (v := (nI 0)) hx hb dX5_victim_134 (by decide) ?_
                          refine lv_istore (lv' := [(5, .int (nI 0)), (4, .int (nI (rr k))), (0, .ref (ad 0)), (1, .int (nI al.toNat)), (2, .int (nI (vbN F rr al k))), (3, .int (nI k))]) hx hb dX5_victim_135 hl (by decide) rfl (fun ls hl => ?_)
                          refine lv_iload hx hb dX5_victim_137 (lv_at hl 0 rfl) ?_
                          refine lv_if_eq (tgt := 147) hx hb dX5_victim_139 (by decide) (fun _ => ?_) (fun h => absurd (by decide) h)
                          refine lv_iload_n hx hb dX5_victim_147 rfl (lv_at hl 4 rfl) ?_
                          refine lv_istore_n (lv' := [(2, .int (nI (vbN F rr al k))), (5, .int (nI 0)), (4, .int (nI (rr k))), (0, .ref (ad 0)), (1, .int (nI al.toNat)), (3, .int (nI k))]) hx hb dX5_victim_148 rfl hl (by decide) rfl (fun ls hl => ?_)
                          refine lv_iinc (v := (nI (k + 1))) (lv' := [(3, .int (nI (k + 1))), (2, .int (nI (vbN F rr al k))), (5, .int (nI 0)), (4, .int (nI (rr k))), (0, .ref (ad 0)), (1, .int (nI al.toNat))]) hx hb dX5_victim_149 hl (k := 5) rfl (nI_add _ 1) (by decide) rfl (fun ls hl => ?_)
                          refine lv_goto (tgt := 47) hx hb dX5_victim_152 (by decide) ?_
                          rw [show (nI (vbN F rr al k)) = (bI (vbN F rr al (k + 1))) from (by rw [vbN, if_neg (fun q => q.2.elim hx8 (by simp [betB, h_10, h_11, le_not h_12]))]; exact (bI_some hx8).symm)] at hl
                          exact ih47 (k + 1) (by omega) (by omega) _ _ hP hD hS _ (lv_sub hl [4, 5, 1, 0] rfl)
                        · have h_12 := h_12
                          refine lv_iconst (v := (nI 1)) hx hb dX5_victim_130 (by decide) ?_
                          refine lv_goto (tgt := 135) hx hb dX5_victim_131 (by decide) ?_
                          refine lv_istore (lv' := [(5, .int (nI 1)), (4, .int (nI (rr k))), (0, .ref (ad 0)), (1, .int (nI al.toNat)), (2, .int (nI (vbN F rr al k))), (3, .int (nI k))]) hx hb dX5_victim_135 hl (by decide) rfl (fun ls hl => ?_)
                          refine lv_iload hx hb dX5_victim_137 (lv_at hl 0 rfl) ?_
                          refine lv_if_eq (tgt := 147) hx hb dX5_victim_139 (by decide) (fun h => absurd h (by decide)) (fun _ => ?_)
                          refine lv_iload hx hb dX5_victim_142 (lv_at hl 1 rfl) ?_
                          refine lv_goto (tgt := 148) hx hb dX5_victim_144 (by decide) ?_
                          refine lv_istore_n (lv' := [(2, .int (nI (rr k))), (5, .int (nI 1)), (4, .int (nI (rr k))), (0, .ref (ad 0)), (1, .int (nI al.toNat)), (3, .int (nI k))]) hx hb dX5_victim_148 rfl hl (by decide) rfl (fun ls hl => ?_)
                          refine lv_iinc (v := (nI (k + 1))) (lv' := [(3, .int (nI (k + 1))), (2, .int (nI (rr k))), (5, .int (nI 1)), (4, .int (nI (rr k))), (0, .ref (ad 0)), (1, .int (nI al.toNat))]) hx hb dX5_victim_149 hl (k := 5) rfl (nI_add _ 1) (by decide) rfl (fun ls hl => ?_)
                          refine lv_goto (tgt := 47) hx hb dX5_victim_152 (by decide) ?_
                          rw [show (nI (rr k)) = (bI (vbN F rr al (k + 1))) from (by rw [vbN, if_pos ⟨(by simp [spB, lt_of_nle h_8]), (Or.inr (by simp [betB, h_10, h_11, lt_of_nle h_12]))⟩, bI_some (by omega)])] at hl
                          exact ih47 (k + 1) (by omega) (by omega) _ _ hP hD hS _ (lv_sub hl [4, 5, 1, 0] rfl)
        rw [show (-1) = (bI (vbN F rr al 0)) from rfl] at hl
        exact L47 _ 0 (Nat.zero_le _) (Nat.lt_succ_self _) _ _ hP hD hS _ (lv_sub hl [2, 3, 1, 0] rfl)
      · have h_1 := mt (nI_leI (a := m9) (b := k) (by first | omega | exact bits_lt31 _ | exact bitN_lt _ _ | exact bool_lt _ | exact and_lt31 _ _ _ _ | exact Nat.lt_of_le_of_lt (dst_lt _ _ _ (by omega) _) (by decide) | exact Nat.lt_of_le_of_lt (nrB_le _ _ _ (by omega)).2 (by decide) | decide) (by first | omega | exact bits_lt31 _ | exact bitN_lt _ _ | exact bool_lt _ | exact and_lt31 _ _ _ _ | exact Nat.lt_of_le_of_lt (dst_lt _ _ _ (by omega) _) (by decide) | exact Nat.lt_of_le_of_lt (nrB_le _ _ _ (by omega)).2 (by decide) | decide)).mpr h_1
        refine lv_iload_n hx hb dX5_victim_12 rfl (lv_at hl 1 rfl) ?_
        refine lv_if_eq (tgt := 35) hx hb dX5_victim_13 (by decide) (fun h_13 => ?_) (fun h_13 => ?_)
        · have h_13 := (nI_eq (a := ((alN (fun j => spB F (rr j)) k).toNat)) (b := 0) (by first | omega | exact bits_lt31 _ | exact bitN_lt _ _ | exact bool_lt _ | exact and_lt31 _ _ _ _ | exact Nat.lt_of_le_of_lt (dst_lt _ _ _ (by omega) _) (by decide) | exact Nat.lt_of_le_of_lt (nrB_le _ _ _ (by omega)).2 (by decide) | decide) (by first | omega | exact bits_lt31 _ | exact bitN_lt _ _ | exact bool_lt _ | exact and_lt31 _ _ _ _ | exact Nat.lt_of_le_of_lt (dst_lt _ _ _ (by omega) _) (by decide) | exact Nat.lt_of_le_of_lt (nrB_le _ _ _ (by omega)).2 (by decide) | decide)).mp h_13
          have h_13 := tn_f h_13
          refine lv_iconst (v := (nI 0)) hx hb dX5_victim_35 (by decide) ?_
          refine lv_istore_n (lv' := [(1, .int (nI 0)), (0, .ref (ad 0)), (2, .int (nI k))]) hx hb dX5_victim_36 rfl hl (by decide) rfl (fun ls hl => ?_)
          refine lv_iinc (v := (nI (k + 1))) (lv' := [(2, .int (nI (k + 1))), (1, .int (nI 0)), (0, .ref (ad 0))]) hx hb dX5_victim_37 hl (k := 2) rfl (nI_add _ 1) (by decide) rfl (fun ls hl => ?_)
          refine lv_goto (tgt := 4) hx hb dX5_victim_40 (by decide) ?_
          rw [show (nI 0) = (nI ((alN (fun j => spB F (rr j)) (k + 1)).toNat)) from (by rw [alN, h_13]; simp [spB])] at hl
          exact ih4 (k + 1) (by omega) (by omega) _ _ hP hD hS _ (lv_sub hl [2, 1, 0] rfl)
        · have h_13 := mt (nI_eq (a := ((alN (fun j => spB F (rr j)) k).toNat)) (b := 0) (by first | omega | exact bits_lt31 _ | exact bitN_lt _ _ | exact bool_lt _ | exact and_lt31 _ _ _ _ | exact Nat.lt_of_le_of_lt (dst_lt _ _ _ (by omega) _) (by decide) | exact Nat.lt_of_le_of_lt (nrB_le _ _ _ (by omega)).2 (by decide) | decide) (by first | omega | exact bits_lt31 _ | exact bitN_lt _ _ | exact bool_lt _ | exact and_lt31 _ _ _ _ | exact Nat.lt_of_le_of_lt (dst_lt _ _ _ (by omega) _) (by decide) | exact Nat.lt_of_le_of_lt (nrB_le _ _ _ (by omega)).2 (by decide) | decide)).mpr h_13
          have h_13 := tn_y h_13
          refine lv_aload_n hx hb dX5_victim_16 rfl (lv_at hl 0 rfl) ?_
          refine lv_aload_n hx hb dX5_victim_17 rfl (lv_at hl 0 rfl) ?_
          refine va_get (D := D) (ci := 5) (v := .ref (ad 6)) (C := RX5) (T := TX5) (N := 14) hx hb hts iX5 hown hK hP 0 rfl rfl 9 (by decide) f25 (fun _ h9 => h9) rfl dX5_victim_18 ?_
          refine lv_iload_n hx hb dX5_victim_21 rfl (lv_at hl 2 rfl) ?_
          refine r_ild (k := k) hx hb hK hP 6 rfl (by omega) (by decide) dX5_victim_22 ?_
          have hrk := (hrr k (by omega)).2
          refine tpe (y := nI (rr k)) (hrr k (by omega)).1 ?_
          refine lv_iconst (v := (nI 2)) hx hb dX5_victim_23 (by decide) ?_
          refine call_i (X := []) (Z := []) (As := [.int (nI (rr k)), .int (nI 2)]) (rest := []) ⟨hx, hb, hml, hown, hts⟩ (c_X5_of l D cI cT ad th sv ln vs (nI m9) cm fi se z zs sd tx ds rg (rr k) 2 (by omega)) (cwV 2 hts gX5_victim_X5_of rfl rfl rfl (by decide +kernel) ⟨Nat.le_of_ble_eq_true rfl, Nat.le_of_ble_eq_true rfl⟩) hK hP hD hS hA (va_recv hK hP (ci := 5) (q0 := 0) rfl rfl) (fun _ => rfl) rfl hl.1 rfl (Nat.le_of_ble_eq_true rfl) ⟨by decide, by decide⟩ dX5_victim_24 (fun rv _ H locs hp hP hD hS => ?_)
          obtain rfl := hp
          have hP : va_P D vwCl ([(ad 0, .inr (5, [.int th, .ref (ad 1), .ref (ad 2), .ref (ad 3), .int sv, .ref (ad 4), .int ln, .int vs, .ref (ad 5), .ref (ad 6), .int (nI m9), .int cm, .int fi, .int se])), (ad 1, .inl (cI, 221, .inl z)), (ad 2, .inl (cI, 221, .inl zs)), (ad 3, .inl (cI, 1768, .inl sd)), (ad 4, .inl (cI, 80, .inl tx)), (ad 5, .inl (cI, 8, .inl ds)), (ad 6, .inl (cI, 8, .inl rg))]) H := hP
          have hD : va_D A ([(ad 0, .inr (5, [.int th, .ref (ad 1), .ref (ad 2), .ref (ad 3), .int sv, .ref (ad 4), .int ln, .int vs, .ref (ad 5), .ref (ad 6), .int (nI m9), .int cm, .int fi, .int se])), (ad 1, .inl (cI, 221, .inl z)), (ad 2, .inl (cI, 221, .inl zs)), (ad 3, .inl (cI, 1768, .inl sd)), (ad 4, .inl (cI, 80, .inl tx)), (ad 5, .inl (cI, 8, .inl ds)), (ad 6, .inl (cI, 8, .inl rg))]) := hD
          refine tpe (y := F 2 (rr k)) (RZ_2 hZ (by omega)) ?_
          refine lv_iconst (v := (nI 2)) hx hb dX5_victim_27 (by decide) ?_
          refine lv_icmp_lt (tgt := 35) hx hb dX5_victim_28 (by decide) (fun h_14 => ?_) (fun h_14 => ?_)
          · have h_14 := h_14
            refine lv_iconst (v := (nI 0)) hx hb dX5_victim_35 (by decide) ?_
            refine lv_istore_n (lv' := [(1, .int (nI 0)), (0, .ref (ad 0)), (2, .int (nI k))]) hx hb dX5_victim_36 rfl hl (by decide) rfl (fun ls hl => ?_)
            refine lv_iinc (v := (nI (k + 1))) (lv' := [(2, .int (nI (k + 1))), (1, .int (nI 0)), (0, .ref (ad 0))]) hx hb dX5_victim_37 hl (k := 2) rfl (nI_add _ 1) (by decide) rfl (fun ls hl => ?_)
            refine lv_goto (tgt := 4) hx hb dX5_victim_40 (by decide) ?_
            rw [show (nI 0) = (nI ((alN (fun j => spB F (rr j)) (k + 1)).toNat)) from (by rw [alN, h_13]; simp [spB, h_14])] at hl
            exact ih4 (k + 1) (by omega) (by omega) _ _ hP hD hS _ (lv_sub hl [2, 1, 0] rfl)
          · have h_14 := h_14
            refine lv_iconst (v := (nI 1)) hx hb dX5_victim_31 (by decide) ?_
            refine lv_goto (tgt := 36) hx hb dX5_victim_32 (by decide) ?_
            refine lv_istore_n (lv' := [(1, .int (nI 1)), (0, .ref (ad 0)), (2, .int (nI k))]) hx hb dX5_victim_36 rfl hl (by decide) rfl (fun ls hl => ?_)
            refine lv_iinc (v := (nI (k + 1))) (lv' := [(2, .int (nI (k + 1))), (1, .int (nI 1)), (0, .ref (ad 0))]) hx hb dX5_victim_37 hl (k := 2) rfl (nI_add _ 1) (by decide) rfl (fun ls hl => ?_)
            refine lv_goto (tgt := 4) hx hb dX5_victim_40 (by decide) ?_
            rw [show (nI 1) = (nI ((alN (fun j => spB F (rr j)) (k + 1)).toNat)) from (by rw [alN, h_13]; simp [spB, h_14])] at hl
            exact ih4 (k + 1) (by omega) (by omega) _ _ hP hD hS _ (lv_sub hl [2, 1, 0] rfl)
  rw [show (nI 1) = (nI ((alN (fun j => spB F (rr j)) 0).toNat)) from rfl] at hl
  exact L4 _ 0 (Nat.zero_le _) (Nat.lt_succ_self _) _ _ hP hD hS _ (lv_sub hl [2, 1, 0] rfl)

abbrev rX5_breakRings : Room := { frames := 5, cells := 0, slots := 0, locals := 116 }
set_option maxHeartbeats 1000000 in
set_option maxRecDepth 100000 in
theorem c_X5_breakRings (l : Launch) (D : va_G) (cI cT : ClassId) (ad : Nat → Nat) (th sv ln vs rl cm fi se : Int32) (z zs sd tx ds rg : Nat → Int32) (F : FF) (Q0 : QQ) (t : Nat) (ht : t < 8) (hB : JB F) (hZ : RZ F Q0 z) (hJ : JJ F Q0) : CV l D cI cT yX5_breakRings wsX5_breakRings rX5_breakRings [.ref (ad 0), .int (nI t)] (refW cI ad th sv ln (nI 0) rl cm fi se z zs sd tx ds rg) (S := (Nat → Int32) × (Nat → Int32) × (Nat → Int32) × Int32) (fun u => RZ (brF F Q0 t) (brQ F Q0 t) u.1) (fun u => refW cI ad th sv ln (nI (brV F Q0 t)) u.2.2.2 cm fi se u.1 zs sd tx u.2.1 u.2.2.1) := by
  refine CV.of (cc := cX5_breakRings) (maxL := 3) (ret := none) (by decide) rfl (Nat.le_of_ble_eq_true rfl) ?_
  intro p e s m args below meth c A Q hQ B hA H locs hP hK hD hS ls hl
  obtain ⟨hx, hb, hml, hrt, hts, hown, hlk⟩ := B
  have hP : va_P D vwCl ([(ad 0, .inr (5, [.int th, .ref (ad 1), .ref (ad 2), .ref (ad 3), .int sv, .ref (ad 4), .int ln, .int (nI 0), .ref (ad 5), .ref (ad 6), .int rl, .int cm, .int fi, .int se])), (ad 1, .inl (cI, 221, .inl z)), (ad 2, .inl (cI, 221, .inl zs)), (ad 3, .inl (cI, 1768, .inl sd)), (ad 4, .inl (cI, 80, .inl tx)), (ad 5, .inl (cI, 8, .inl ds)), (ad 6, .inl (cI, 8, .inl rg))]) H := hP
  have hD : va_D A ([(ad 0, .inr (5, [.int th, .ref (ad 1), .ref (ad 2), .ref (ad 3), .int sv, .ref (ad 4), .int ln, .int (nI 0), .ref (ad 5), .ref (ad 6), .int rl, .int cm, .int fi, .int se])), (ad 1, .inl (cI, 221, .inl z)), (ad 2, .inl (cI, 221, .inl zs)), (ad 3, .inl (cI, 1768, .inl sd)), (ad 4, .inl (cI, 80, .inl tx)), (ad 5, .inl (cI, 8, .inl ds)), (ad 6, .inl (cI, 8, .inl rg))]) := hD
  have hl : lv_has ls 3 [(0, .ref (ad 0)), (1, .int (nI t))] := hl
  have iX5 : ∀ w ∈ u_ws RX5 TX5 14, w ∈ wsX5_breakRings := by decide +kernel
  have f97 := hts (.fieldLink RX5 97 "LockManagerModel" "victims" "I") (by decide +kernel)
  have f7 := hts (.fieldLink RX5 7 "LockManagerModel" "z" "[I") (by decide +kernel)
  have L0 : ∀ (N : Nat) (i : Nat) (Fc : FF) (Qc : QQ) (V9 : Nat) (y : Nat → Int32) (yd : Nat → Int32) (yr : Nat → Int32) (xl : Int32), (brI t F Q0 i Fc Qc V9) → (i + nW Fc 8 ≤ 8) → (JJ Fc Qc) → (JB Fc) → (RZ Fc Qc y) → (8 - i) < N → ∀ (H : Heap) (locs : List Loc), va_P D vwCl ([(ad 0, .inr (5, [.int th, .ref (ad 1), .ref (ad 2), .ref (ad 3), .int sv, .ref (ad 4), .int ln, .int (nI V9), .ref (ad 5), .ref (ad 6), .int xl, .int cm, .int fi, .int se])), (ad 1, .inl (cI, 221, .inl y)), (ad 2, .inl (cI, 221, .inl zs)), (ad 3, .inl (cI, 1768, .inl sd)), (ad 4, .inl (cI, 80, .inl tx)), (ad 5, .inl (cI, 8, .inl yd)), (ad 6, .inl (cI, 8, .inl yr))]) H → va_D A ([(ad 0, .inr (5, [.int th, .ref (ad 1), .ref (ad 2), .ref (ad 3), .int sv, .ref (ad 4), .int ln, .int (nI V9), .ref (ad 5), .ref (ad 6), .int xl, .int cm, .int fi, .int se])), (ad 1, .inl (cI, 221, .inl y)), (ad 2, .inl (cI, 221, .inl zs)), (ad 3, .inl (cI, 1768, .inl sd)), (ad 4, .inl (cI, 80, .inl tx)), (ad 5, .inl (cI, 8, .inl yd)), (ad 6, .inl (cI, 8, .inl yr))]) → va_S A s.heap H locs → ∀ ls : Array Slot, lv_has ls 3 [(0, .ref (ad 0)), (1, .int (nI t))] → W p l e rX5_breakRings s m args below meth c H locs 0 0 Q (F0 m 0 ls []) := by
    intro N0
    induction N0 with
    | zero => intro i Fc Qc V9 y yd yr xl hI hc hJc hBc hYc hN; exact absurd hN (Nat.not_lt_zero _)
    | succ N0 ih0 =>
      intro i Fc Qc V9 y yd yr xl hI hc hJc hBc hYc hN H locs hP hD hS ls hl
      refine lv_aload_n hx hb dX5_breakRings_0 rfl (lv_at hl 0 rfl) ?_
      refine lv_iload_n hx hb dX5_breakRings_1 rfl (lv_at hl 1 rfl) ?_
      refine lv_iconst (v := (nI 0)) hx hb dX5_breakRings_2 (by decide) ?_
      refine call_i (X := []) (Z := []) (As := [.int (nI t), .int (nI 0)]) (rest := []) ⟨hx, hb, hml, hown, hts⟩ (c_X5_of l D cI cT ad th sv ln (nI V9) xl cm fi se y zs sd tx yd yr t 0 (by omega)) (cwV 2 hts gX5_breakRings_X5_of rfl rfl rfl (by decide +kernel) ⟨Nat.le_of_ble_eq_true rfl, Nat.le_of_ble_eq_true rfl⟩) hK hP hD hS hA (va_recv hK hP (ci := 5) (q0 := 0) rfl rfl) (fun _ => rfl) rfl hl.1 rfl (Nat.le_of_ble_eq_true rfl) ⟨by decide, by decide⟩ dX5_breakRings_3 (fun rv _ H locs hp hP hD hS => ?_)
      obtain rfl := hp
      have hP : va_P D vwCl ([(ad 0, .inr (5, [.int th, .ref (ad 1), .ref (ad 2), .ref (ad 3), .int sv, .ref (ad 4), .int ln, .int (nI V9), .ref (ad 5), .ref (ad 6), .int xl, .int cm, .int fi, .int se])), (ad 1, .inl (cI, 221, .inl y)), (ad 2, .inl (cI, 221, .inl zs)), (ad 3, .inl (cI, 1768, .inl sd)), (ad 4, .inl (cI, 80, .inl tx)), (ad 5, .inl (cI, 8, .inl yd)), (ad 6, .inl (cI, 8, .inl yr))]) H := hP
      have hD : va_D A ([(ad 0, .inr (5, [.int th, .ref (ad 1), .ref (ad 2), .ref (ad 3), .int sv, .ref (ad 4), .int ln, .int (nI V9), .ref (ad 5), .ref (ad 6), .int xl, .int cm, .int fi, .int se])), (ad 1, .inl (cI, 221, .inl y)), (ad 2, .inl (cI, 221, .inl zs)), (ad 3, .inl (cI, 1768, .inl sd)), (ad 4, .inl (cI, 80, .inl tx)), (ad 5, .inl (cI, 8, .inl yd)), (ad 6, .inl (cI, 8, .inl yr))]) := hD
      refine tpe (y := stI Fc t) (RZ_0 hYc (by omega)) ?_
      refine lv_iconst (v := (nI 2)) hx hb dX5_breakRings_6 (by decide) ?_
      refine lv_icmp_ne (tgt := 103) hx hb dX5_breakRings_7 (by decide) (fun h_1 => ?_) (fun h_1 => ?_)
      · have h_1 := h_1
        have hv := vic_n (SR_none hJc ht (Decidable.byContradiction (fun q => h_1 ((st_w hJc ht).mpr q))))
        have he := brI_e (Or.inr hv) hI
        exact ret_v (u := (y, yd, yr, xl)) hQ hx hb hrt hlk hS dX5_breakRings_103 (by rw [← he.2.2]; exact hP) (by rw [← he.1, ← he.2.1]; exact hYc)
      · have h_1 := h_1
        have n3 := (st_w hJc ht).mp h_1
        refine lv_aload_n hx hb dX5_breakRings_10 rfl (lv_at hl 0 rfl) ?_
        refine lv_iload_n hx hb dX5_breakRings_11 rfl (lv_at hl 1 rfl) ?_
        refine call_i (X := []) (Z := []) (As := [.int (nI t)]) (rest := []) ⟨hx, hb, hml, hown, hts⟩ (c_X5_findRing l D cI cT ad th sv ln (nI V9) xl cm fi se y zs sd tx yd yr Fc Qc t (by omega) hYc hJc) (cwV 1 hts gX5_breakRings_X5_findRing rfl rfl rfl (by decide +kernel) ⟨Nat.le_of_ble_eq_true rfl, Nat.le_of_ble_eq_true rfl⟩) hK hP hD hS hA (va_recv hK hP (ci := 5) (q0 := 0) rfl rfl) (fun _ => adr_ref.trans adr_ref.symm) rfl hl.1 rfl (Nat.le_of_ble_eq_true rfl) ⟨by decide, by decide⟩ dX5_breakRings_12 (fun rv u5 H locs hp hP hD hS => ?_)
        obtain ⟨rfl, hRG5⟩ := hp
        have hP : va_P D vwCl ([(ad 0, .inr (5, [.int th, .ref (ad 1), .ref (ad 2), .ref (ad 3), .int sv, .ref (ad 4), .int ln, .int (nI V9), .ref (ad 5), .ref (ad 6), .int (nI u5.2.1), .int cm, .int fi, .int se])), (ad 1, .inl (cI, 221, .inl y)), (ad 2, .inl (cI, 221, .inl zs)), (ad 3, .inl (cI, 1768, .inl sd)), (ad 4, .inl (cI, 80, .inl tx)), (ad 5, .inl (cI, 8, .inl (dsF Fc Qc t 7))), (ad 6, .inl (cI, 8, .inl u5.1))]) H := hP
        have hD : va_D A ([(ad 0, .inr (5, [.int th, .ref (ad 1), .ref (ad 2), .ref (ad 3), .int sv, .ref (ad 4), .int ln, .int (nI V9), .ref (ad 5), .ref (ad 6), .int (nI u5.2.1), .int cm, .int fi, .int se])), (ad 1, .inl (cI, 221, .inl y)), (ad 2, .inl (cI, 221, .inl zs)), (ad 3, .inl (cI, 1768, .inl sd)), (ad 4, .inl (cI, 80, .inl tx)), (ad 5, .inl (cI, 8, .inl (dsF Fc Qc t 7))), (ad 6, .inl (cI, 8, .inl u5.1))]) := hD
        refine lv_if_eq (tgt := 103) hx hb dX5_breakRings_15 (by decide) (fun h_2 => ?_) (fun h_2 => ?_)
        · have h_2 := (nI_eq (a := ((!(SRn Fc Qc t == 0)).toNat)) (b := 0) (by first | omega | exact bits_lt31 _ | exact bitN_lt _ _ | exact bool_lt _ | exact and_lt31 _ _ _ _ | exact Nat.lt_of_le_of_lt (dst_lt _ _ _ (by omega) _) (by decide) | exact Nat.lt_of_le_of_lt (nrB_le _ _ _ (by omega)).2 (by decide) | decide) (by first | omega | exact bits_lt31 _ | exact bitN_lt _ _ | exact bool_lt _ | exact and_lt31 _ _ _ _ | exact Nat.lt_of_le_of_lt (dst_lt _ _ _ (by omega) _) (by decide) | exact Nat.lt_of_le_of_lt (nrB_le _ _ _ (by omega)).2 (by decide) | decide)).mp h_2
          have h_2 := tn_f h_2
          have hv := vic_n (show SRn Fc Qc t = 0 by simpa using h_2)
          have he := brI_e (Or.inr hv) hI
          exact ret_v (u := (y, dsF Fc Qc t 7, u5.1, (nI u5.2.1))) hQ hx hb hrt hlk hS dX5_breakRings_103 (by rw [← he.2.2]; exact hP) (by rw [← he.1, ← he.2.1]; exact hYc)
        · have h_2 := mt (nI_eq (a := ((!(SRn Fc Qc t == 0)).toNat)) (b := 0) (by first | omega | exact bits_lt31 _ | exact bitN_lt _ _ | exact bool_lt _ | exact and_lt31 _ _ _ _ | exact Nat.lt_of_le_of_lt (dst_lt _ _ _ (by omega) _) (by decide) | exact Nat.lt_of_le_of_lt (nrB_le _ _ _ (by omega)).2 (by decide) | decide) (by first | omega | exact bits_lt31 _ | exact bitN_lt _ _ | exact bool_lt _ | exact and_lt31 _ _ _ _ | exact Nat.lt_of_le_of_lt (dst_lt _ _ _ (by omega) _) (by decide) | exact Nat.lt_of_le_of_lt (nrB_le _ _ _ (by omega)).2 (by decide) | decide)).mpr h_2
          have h_2 := tn_y h_2
          have hs0 : ¬ SRn Fc Qc t = 0 := by simpa using h_2
          have hvic := vic_ring hJc hBc ht hRG5 hs0
          have hvy := vic_y hJc ht hs0
          refine lv_aload_n hx hb dX5_breakRings_18 rfl (lv_at hl 0 rfl) ?_
          refine call_i (X := []) (Z := []) (As := []) (rest := []) ⟨hx, hb, hml, hown, hts⟩ (c_X5_victim l D cI cT ad th sv ln (nI V9) (nI u5.2.1) cm fi se y zs sd tx (dsF Fc Qc t 7) u5.1 Fc Qc u5.2.2 u5.2.1 hRG5.1 hRG5.2.1 hYc) (cwV 0 hts gX5_breakRings_X5_victim rfl rfl rfl (by decide +kernel) ⟨Nat.le_of_ble_eq_true rfl, Nat.le_of_ble_eq_true rfl⟩) hK hP hD hS hA (va_recv hK hP (ci := 5) (q0 := 0) rfl rfl) (fun _ => rfl) rfl hl.1 rfl (Nat.le_of_ble_eq_true rfl) ⟨by decide, by decide⟩ dX5_breakRings_19 (fun rv _ H locs hp hP hD hS => ?_)
          obtain rfl := hp
          have hP : va_P D vwCl ([(ad 0, .inr (5, [.int th, .ref (ad 1), .ref (ad 2), .ref (ad 3), .int sv, .ref (ad 4), .int ln, .int (nI V9), .ref (ad 5), .ref (ad 6), .int (nI u5.2.1), .int cm, .int fi, .int se])), (ad 1, .inl (cI, 221, .inl y)), (ad 2, .inl (cI, 221, .inl zs)), (ad 3, .inl (cI, 1768, .inl sd)), (ad 4, .inl (cI, 80, .inl tx)), (ad 5, .inl (cI, 8, .inl (dsF Fc Qc t 7))), (ad 6, .inl (cI, 8, .inl u5.1))]) H := hP
          have hD : va_D A ([(ad 0, .inr (5, [.int th, .ref (ad 1), .ref (ad 2), .ref (ad 3), .int sv, .ref (ad 4), .int ln, .int (nI V9), .ref (ad 5), .ref (ad 6), .int (nI u5.2.1), .int cm, .int fi, .int se])), (ad 1, .inl (cI, 221, .inl y)), (ad 2, .inl (cI, 221, .inl zs)), (ad 3, .inl (cI, 1768, .inl sd)), (ad 4, .inl (cI, 80, .inl tx)), (ad 5, .inl (cI, 8, .inl (dsF Fc Qc t 7))), (ad 6, .inl (cI, 8, .inl u5.1))]) := hD
          obtain ⟨v9, hv9⟩ : ∃ v, v = vic Fc Qc t := ⟨_, rfl⟩
          have hv8 : v9 < 8 := by rw [hv9]; exact hvy.1
          have hv3 : ¬ Fc 3 v9 = -1 := by rw [hv9]; exact hvy.2
          refine tpe (y := nI v9) (by rw [hvic, ← hv9]; exact bI_some (by omega)) ?_
          refine lv_istore_n (lv' := [(2, .int (nI v9)), (0, .ref (ad 0)), (1, .int (nI t))]) hx hb dX5_breakRings_22 rfl hl (by decide) rfl (fun ls hl => ?_)
          refine lv_aload_n hx hb dX5_breakRings_23 rfl (lv_at hl 1 rfl) ?_
          refine lv_dup hx hb dX5_breakRings_24 rfl ?_
          refine va_get (D := D) (ci := 5) (v := .int (nI V9)) (C := RX5) (T := TX5) (N := 14) hx hb hts iX5 hown hK hP 0 rfl rfl 7 (by decide) f97 (fun _ h9 => h9) rfl dX5_breakRings_25 ?_
          refine lv_iconst (v := (nI 1)) hx hb dX5_breakRings_28 (by decide) ?_
          refine lv_iload_n hx hb dX5_breakRings_29 rfl (lv_at hl 0 rfl) ?_
          refine lv_ishl hx hb dX5_breakRings_30 ?_
          refine lv_ior hx hb dX5_breakRings_31 ?_
          refine tpe (y := nI (V9 ||| 2 ^ v9)) (or_sh hv8) ?_
          refine va_put (D := D) (ci := 5) (v := .int (nI (V9 ||| 2 ^ v9))) (ty := .int) (C := RX5) (T := TX5) (N := 14) hx hb hts iX5 tyX5 tyX5_ok nmX5 hown hK hP hD hS 0 rfl rfl 7 (by decide) f97 (fun _ h9 => h9) rfl (by decide +kernel) rfl rfl (Nat.le_of_ble_eq_true rfl) dX5_breakRings_32 (fun H locs hP hD hS => ?_)
          have hP : va_P D vwCl ([(ad 0, .inr (5, [.int th, .ref (ad 1), .ref (ad 2), .ref (ad 3), .int sv, .ref (ad 4), .int ln, .int (nI (V9 ||| 2 ^ v9)), .ref (ad 5), .ref (ad 6), .int (nI u5.2.1), .int cm, .int fi, .int se])), (ad 1, .inl (cI, 221, .inl y)), (ad 2, .inl (cI, 221, .inl zs)), (ad 3, .inl (cI, 1768, .inl sd)), (ad 4, .inl (cI, 80, .inl tx)), (ad 5, .inl (cI, 8, .inl (dsF Fc Qc t 7))), (ad 6, .inl (cI, 8, .inl u5.1))]) H := hP
          have hD : va_D A ([(ad 0, .inr (5, [.int th, .ref (ad 1), .ref (ad 2), .ref (ad 3), .int sv, .ref (ad 4), .int ln, .int (nI (V9 ||| 2 ^ v9)), .ref (ad 5), .ref (ad 6), .int (nI u5.2.1), .int cm, .int fi, .int se])), (ad 1, .inl (cI, 221, .inl y)), (ad 2, .inl (cI, 221, .inl zs)), (ad 3, .inl (cI, 1768, .inl sd)), (ad 4, .inl (cI, 80, .inl tx)), (ad 5, .inl (cI, 8, .inl (dsF Fc Qc t 7))), (ad 6, .inl (cI, 8, .inl u5.1))]) := hD
          refine lv_aload_n hx hb dX5_breakRings_35 rfl (lv_at hl 1 rfl) ?_
          refine va_get (D := D) (ci := 5) (v := .ref (ad 1)) (C := RX5) (T := TX5) (N := 14) hx hb hts iX5 hown hK hP 0 rfl rfl 1 (by decide) f7 (fun _ h9 => h9) rfl dX5_breakRings_36 ?_
          refine lv_sipush (v := (nI 219)) hx hb dX5_breakRings_39 (by decide) ?_
          refine lv_dup2_11 hx hb dX5_breakRings_42 rfl rfl ?_
          refine r_ild (k := 219) hx hb hK hP 1 rfl (by omega) (by decide) dX5_breakRings_43 ?_
          refine lv_iconst (v := (nI 1)) hx hb dX5_breakRings_44 (by decide) ?_
          refine lv_iadd hx hb dX5_breakRings_45 ?_
          refine r_ist (k := 219) hx hb hK hP hD hS 1 rfl (by omega) (by decide) dX5_breakRings_46 (fun H locs hP hD hS => ?_)
          have hP : va_P D vwCl ([(ad 0, .inr (5, [.int th, .ref (ad 1), .ref (ad 2), .ref (ad 3), .int sv, .ref (ad 4), .int ln, .int (nI (V9 ||| 2 ^ v9)), .ref (ad 5), .ref (ad 6), .int (nI u5.2.1), .int cm, .int fi, .int se])), (ad 1, .inl (cI, 221, .inl (upd y 219 ((y 219) + (nI 1))))), (ad 2, .inl (cI, 221, .inl zs)), (ad 3, .inl (cI, 1768, .inl sd)), (ad 4, .inl (cI, 80, .inl tx)), (ad 5, .inl (cI, 8, .inl (dsF Fc Qc t 7))), (ad 6, .inl (cI, 8, .inl u5.1))]) H := hP
          have hD : va_D A ([(ad 0, .inr (5, [.int th, .ref (ad 1), .ref (ad 2), .ref (ad 3), .int sv, .ref (ad 4), .int ln, .int (nI (V9 ||| 2 ^ v9)), .ref (ad 5), .ref (ad 6), .int (nI u5.2.1), .int cm, .int fi, .int se])), (ad 1, .inl (cI, 221, .inl (upd y 219 ((y 219) + (nI 1))))), (ad 2, .inl (cI, 221, .inl zs)), (ad 3, .inl (cI, 1768, .inl sd)), (ad 4, .inl (cI, 80, .inl tx)), (ad 5, .inl (cI, 8, .inl (dsF Fc Qc t 7))), (ad 6, .inl (cI, 8, .inl u5.1))]) := hD
          refine lv_aload_n hx hb dX5_breakRings_47 rfl (lv_at hl 1 rfl) ?_
          refine va_get (D := D) (ci := 5) (v := .ref (ad 1)) (C := RX5) (T := TX5) (N := 14) hx hb hts iX5 hown hK hP 0 rfl rfl 1 (by decide) f7 (fun _ h9 => h9) rfl dX5_breakRings_48 ?_
          refine lv_sipush (v := (nI 220)) hx hb dX5_breakRings_51 (by decide) ?_
          refine lv_dup2_11 hx hb dX5_breakRings_54 rfl rfl ?_
          refine r_ild (k := 220) hx hb hK hP 1 rfl (by omega) (by decide) dX5_breakRings_55 ?_
          refine lv_aload_n hx hb dX5_breakRings_56 rfl (lv_at hl 1 rfl) ?_
          refine lv_iload_n hx hb dX5_breakRings_57 rfl (lv_at hl 0 rfl) ?_
          refine lv_iconst (v := (nI 1)) hx hb dX5_breakRings_58 (by decide) ?_
          refine call_i (X := []) (Z := []) (As := [.int (nI v9), .int (nI 1)]) (rest := [.int ((upd y 219 ((y 219) + (nI 1))) 220), .int (nI 220), .ref (ad 1)]) ⟨hx, hb, hml, hown, hts⟩ (c_X5_of l D cI cT ad th sv ln (nI (V9 ||| 2 ^ v9)) (nI u5.2.1) cm fi se (upd y 219 ((y 219) + (nI 1))) zs sd tx (dsF Fc Qc t 7) u5.1 v9 1 (by omega)) (cwV 2 hts gX5_breakRings_X5_of rfl rfl rfl (by decide +kernel) ⟨Nat.le_of_ble_eq_true rfl, Nat.le_of_ble_eq_true rfl⟩) hK hP hD hS hA (va_recv hK hP (ci := 5) (q0 := 0) rfl rfl) (fun _ => rfl) rfl hl.1 rfl (Nat.le_of_ble_eq_true rfl) ⟨by decide, by decide⟩ dX5_breakRings_59 (fun rv _ H locs hp hP hD hS => ?_)
          obtain rfl := hp
          have hP : va_P D vwCl ([(ad 0, .inr (5, [.int th, .ref (ad 1), .ref (ad 2), .ref (ad 3), .int sv, .ref (ad 4), .int ln, .int (nI (V9 ||| 2 ^ v9)), .ref (ad 5), .ref (ad 6), .int (nI u5.2.1), .int cm, .int fi, .int se])), (ad 1, .inl (cI, 221, .inl (upd y 219 ((y 219) + (nI 1))))), (ad 2, .inl (cI, 221, .inl zs)), (ad 3, .inl (cI, 1768, .inl sd)), (ad 4, .inl (cI, 80, .inl tx)), (ad 5, .inl (cI, 8, .inl (dsF Fc Qc t 7))), (ad 6, .inl (cI, 8, .inl u5.1))]) H := hP
          have hD : va_D A ([(ad 0, .inr (5, [.int th, .ref (ad 1), .ref (ad 2), .ref (ad 3), .int sv, .ref (ad 4), .int ln, .int (nI (V9 ||| 2 ^ v9)), .ref (ad 5), .ref (ad 6), .int (nI u5.2.1), .int cm, .int fi, .int se])), (ad 1, .inl (cI, 221, .inl (upd y 219 ((y 219) + (nI 1))))), (ad 2, .inl (cI, 221, .inl zs)), (ad 3, .inl (cI, 1768, .inl sd)), (ad 4, .inl (cI, 80, .inl tx)), (ad 5, .inl (cI, 8, .inl (dsF Fc Qc t 7))), (ad 6, .inl (cI, 8, .inl u5.1))]) := hD
          refine lv_iadd hx hb dX5_breakRings_62 ?_
          refine r_ist (k := 220) hx hb hK hP hD hS 1 rfl (by omega) (by decide) dX5_breakRings_63 (fun H locs hP hD hS => ?_)
          have hP : va_P D vwCl ([(ad 0, .inr (5, [.int th, .ref (ad 1), .ref (ad 2), .ref (ad 3), .int sv, .ref (ad 4), .int ln, .int (nI (V9 ||| 2 ^ v9)), .ref (ad 5), .ref (ad 6), .int (nI u5.2.1), .int cm, .int fi, .int se])), (ad 1, .inl (cI, 221, .inl (upd (upd y 219 ((y 219) + (nI 1))) 220 (((upd y 219 ((y 219) + (nI 1))) 220) + ((upd y 219 ((y 219) + (nI 1))) (6 * v9 + 1)))))), (ad 2, .inl (cI, 221, .inl zs)), (ad 3, .inl (cI, 1768, .inl sd)), (ad 4, .inl (cI, 80, .inl tx)), (ad 5, .inl (cI, 8, .inl (dsF Fc Qc t 7))), (ad 6, .inl (cI, 8, .inl u5.1))]) H := hP
          have hD : va_D A ([(ad 0, .inr (5, [.int th, .ref (ad 1), .ref (ad 2), .ref (ad 3), .int sv, .ref (ad 4), .int ln, .int (nI (V9 ||| 2 ^ v9)), .ref (ad 5), .ref (ad 6), .int (nI u5.2.1), .int cm, .int fi, .int se])), (ad 1, .inl (cI, 221, .inl (upd (upd y 219 ((y 219) + (nI 1))) 220 (((upd y 219 ((y 219) + (nI 1))) 220) + ((upd y 219 ((y 219) + (nI 1))) (6 * v9 + 1)))))), (ad 2, .inl (cI, 221, .inl zs)), (ad 3, .inl (cI, 1768, .inl sd)), (ad 4, .inl (cI, 80, .inl tx)), (ad 5, .inl (cI, 8, .inl (dsF Fc Qc t 7))), (ad 6, .inl (cI, 8, .inl u5.1))]) := hD
          have hZb := RZ_bk hJc hYc hv8
          have hJb : JJ (bkF Fc v9) Qc := JJ_8 (JJ_8 hJc)
          obtain ⟨r9, hr9, h39, hw9, hm9⟩ := JJ_want hJb hv8 (by rw [bk_ne (by decide)]; exact hv3)
          refine lv_aload_n hx hb dX5_breakRings_64 rfl (lv_at hl 1 rfl) ?_
          refine lv_iload_n hx hb dX5_breakRings_65 rfl (lv_at hl 0 rfl) ?_
          refine call_v (X := []) (Z := []) (As := [.int (nI v9)]) (rest := []) ⟨hx, hb, hml, hown, hts⟩ (c_X5_dequeue l D cI cT ad th sv ln (nI (V9 ||| 2 ^ v9)) (nI u5.2.1) cm fi se (upd (upd y 219 ((y 219) + (nI 1))) 220 (((upd y 219 ((y 219) + (nI 1))) 220) + ((upd y 219 ((y 219) + (nI 1))) (6 * v9 + 1)))) zs sd tx (dsF Fc Qc t 7) u5.1 (bkF Fc v9) Qc v9 r9 (by omega) (by omega) h39 hm9 hZb hJb) (cwV 1 hts gX5_breakRings_X5_dequeue rfl rfl rfl (by decide +kernel) ⟨Nat.le_of_ble_eq_true rfl, Nat.le_of_ble_eq_true rfl⟩) hK hP hD hS hA (va_recv hK hP (ci := 5) (q0 := 0) rfl rfl) (fun _ => adr_ref.trans adr_ref.symm) rfl hl.1 rfl (Nat.le_of_ble_eq_true rfl) ⟨by decide, by decide⟩ dX5_breakRings_66 (fun z6 H locs hp hP hD hS => ?_)
          have hZ6 := hp
          have hJ6 := JJ_rm hJb (t := v9) (by omega)
          have hP : va_P D vwCl ([(ad 0, .inr (5, [.int th, .ref (ad 1), .ref (ad 2), .ref (ad 3), .int sv, .ref (ad 4), .int ln, .int (nI (V9 ||| 2 ^ v9)), .ref (ad 5), .ref (ad 6), .int (nI u5.2.1), .int cm, .int fi, .int se])), (ad 1, .inl (cI, 221, .inl z6)), (ad 2, .inl (cI, 221, .inl zs)), (ad 3, .inl (cI, 1768, .inl sd)), (ad 4, .inl (cI, 80, .inl tx)), (ad 5, .inl (cI, 8, .inl (dsF Fc Qc t 7))), (ad 6, .inl (cI, 8, .inl u5.1))]) H := hP
          have hD : va_D A ([(ad 0, .inr (5, [.int th, .ref (ad 1), .ref (ad 2), .ref (ad 3), .int sv, .ref (ad 4), .int ln, .int (nI (V9 ||| 2 ^ v9)), .ref (ad 5), .ref (ad 6), .int (nI u5.2.1), .int cm, .int fi, .int se])), (ad 1, .inl (cI, 221, .inl z6)), (ad 2, .inl (cI, 221, .inl zs)), (ad 3, .inl (cI, 1768, .inl sd)), (ad 4, .inl (cI, 80, .inl tx)), (ad 5, .inl (cI, 8, .inl (dsF Fc Qc t 7))), (ad 6, .inl (cI, 8, .inl u5.1))]) := hD
          refine lv_aload_n hx hb dX5_breakRings_69 rfl (lv_at hl 1 rfl) ?_
          refine lv_iload_n hx hb dX5_breakRings_70 rfl (lv_at hl 0 rfl) ?_
          refine call_v (X := []) (Z := []) (As := [.int (nI v9)]) (rest := []) ⟨hx, hb, hml, hown, hts⟩ (c_X5_release l D cI cT ad th sv ln (nI (V9 ||| 2 ^ v9)) (nI u5.2.1) cm fi se z6 zs sd tx (dsF Fc Qc t 7) u5.1 v9 (by omega)) (cwV 1 hts gX5_breakRings_X5_release rfl rfl rfl (by decide +kernel) ⟨Nat.le_of_ble_eq_true rfl, Nat.le_of_ble_eq_true rfl⟩) hK hP hD hS hA (va_recv hK hP (ci := 5) (q0 := 0) rfl rfl) (fun _ => adr_ref.trans adr_ref.symm) rfl hl.1 rfl (Nat.le_of_ble_eq_true rfl) ⟨by decide, by decide⟩ dX5_breakRings_71 (fun _ H locs hp hP hD hS => ?_)
          have hZ7 := RZ_rl (fun r hr => JJ_len hJ6 hr) hZ6 (show v9 < 8 by omega)
          have hP : va_P D vwCl ([(ad 0, .inr (5, [.int th, .ref (ad 1), .ref (ad 2), .ref (ad 3), .int sv, .ref (ad 4), .int ln, .int (nI (V9 ||| 2 ^ v9)), .ref (ad 5), .ref (ad 6), .int (nI u5.2.1), .int cm, .int fi, .int se])), (ad 1, .inl (cI, 221, .inl (rlZ z6 v9 10))), (ad 2, .inl (cI, 221, .inl zs)), (ad 3, .inl (cI, 1768, .inl sd)), (ad 4, .inl (cI, 80, .inl tx)), (ad 5, .inl (cI, 8, .inl (dsF Fc Qc t 7))), (ad 6, .inl (cI, 8, .inl u5.1))]) H := hP
          have hD : va_D A ([(ad 0, .inr (5, [.int th, .ref (ad 1), .ref (ad 2), .ref (ad 3), .int sv, .ref (ad 4), .int ln, .int (nI (V9 ||| 2 ^ v9)), .ref (ad 5), .ref (ad 6), .int (nI u5.2.1), .int cm, .int fi, .int se])), (ad 1, .inl (cI, 221, .inl (rlZ z6 v9 10))), (ad 2, .inl (cI, 221, .inl zs)), (ad 3, .inl (cI, 1768, .inl sd)), (ad 4, .inl (cI, 80, .inl tx)), (ad 5, .inl (cI, 8, .inl (dsF Fc Qc t 7))), (ad 6, .inl (cI, 8, .inl u5.1))]) := hD
          refine lv_aload_n hx hb dX5_breakRings_74 rfl (lv_at hl 1 rfl) ?_
          refine lv_iload_n hx hb dX5_breakRings_75 rfl (lv_at hl 0 rfl) ?_
          refine lv_iconst (v := (nI 1)) hx hb dX5_breakRings_76 (by decide) ?_
          refine lv_iconst (v := (nI 0)) hx hb dX5_breakRings_77 (by decide) ?_
          refine call_v (X := []) (Z := []) (As := [.int (nI v9), .int (nI 1), .int (nI 0)]) (rest := []) ⟨hx, hb, hml, hown, hts⟩ (c_X5_put l D cI cT ad th sv ln (nI (V9 ||| 2 ^ v9)) (nI u5.2.1) cm fi se (rlZ z6 v9 10) zs sd tx (dsF Fc Qc t 7) u5.1 v9 1 (nI 0) (by omega)) (cwV 3 hts gX5_breakRings_X5_put rfl rfl rfl (by decide +kernel) ⟨Nat.le_of_ble_eq_true rfl, Nat.le_of_ble_eq_true rfl⟩) hK hP hD hS hA (va_recv hK hP (ci := 5) (q0 := 0) rfl rfl) (fun _ => adr_ref.trans adr_ref.symm) rfl hl.1 rfl (Nat.le_of_ble_eq_true rfl) ⟨by decide, by decide⟩ dX5_breakRings_78 (fun _ H locs hp hP hD hS => ?_)
          have hZ8 := RZ_uw (w := 1) (v := (nI 0)) (fun r hr => JJ_len hJ6 hr) hZ7 (show v9 < 8 by omega) (by decide)
          have hP : va_P D vwCl ([(ad 0, .inr (5, [.int th, .ref (ad 1), .ref (ad 2), .ref (ad 3), .int sv, .ref (ad 4), .int ln, .int (nI (V9 ||| 2 ^ v9)), .ref (ad 5), .ref (ad 6), .int (nI u5.2.1), .int cm, .int fi, .int se])), (ad 1, .inl (cI, 221, .inl (upd (rlZ z6 v9 10) (6 * v9 + 1) (nI 0)))), (ad 2, .inl (cI, 221, .inl zs)), (ad 3, .inl (cI, 1768, .inl sd)), (ad 4, .inl (cI, 80, .inl tx)), (ad 5, .inl (cI, 8, .inl (dsF Fc Qc t 7))), (ad 6, .inl (cI, 8, .inl u5.1))]) H := hP
          have hD : va_D A ([(ad 0, .inr (5, [.int th, .ref (ad 1), .ref (ad 2), .ref (ad 3), .int sv, .ref (ad 4), .int ln, .int (nI (V9 ||| 2 ^ v9)), .ref (ad 5), .ref (ad 6), .int (nI u5.2.1), .int cm, .int fi, .int se])), (ad 1, .inl (cI, 221, .inl (upd (rlZ z6 v9 10) (6 * v9 + 1) (nI 0)))), (ad 2, .inl (cI, 221, .inl zs)), (ad 3, .inl (cI, 1768, .inl sd)), (ad 4, .inl (cI, 80, .inl tx)), (ad 5, .inl (cI, 8, .inl (dsF Fc Qc t 7))), (ad 6, .inl (cI, 8, .inl u5.1))]) := hD
          refine lv_aload_n hx hb dX5_breakRings_81 rfl (lv_at hl 1 rfl) ?_
          refine lv_iload_n hx hb dX5_breakRings_82 rfl (lv_at hl 0 rfl) ?_
          refine lv_iconst (v := (nI 2)) hx hb dX5_breakRings_83 (by decide) ?_
          refine lv_aload_n hx hb dX5_breakRings_84 rfl (lv_at hl 1 rfl) ?_
          refine lv_iload_n hx hb dX5_breakRings_85 rfl (lv_at hl 0 rfl) ?_
          refine lv_iconst (v := (nI 2)) hx hb dX5_breakRings_86 (by decide) ?_
          refine call_i (X := []) (Z := []) (As := [.int (nI v9), .int (nI 2)]) (rest := [.int (nI 2), .int (nI v9), .ref (ad 0)]) ⟨hx, hb, hml, hown, hts⟩ (c_X5_of l D cI cT ad th sv ln (nI (V9 ||| 2 ^ v9)) (nI u5.2.1) cm fi se (upd (rlZ z6 v9 10) (6 * v9 + 1) (nI 0)) zs sd tx (dsF Fc Qc t 7) u5.1 v9 2 (by omega)) (cwV 2 hts gX5_breakRings_X5_of rfl rfl rfl (by decide +kernel) ⟨Nat.le_of_ble_eq_true rfl, Nat.le_of_ble_eq_true rfl⟩) hK hP hD hS hA (va_recv hK hP (ci := 5) (q0 := 0) rfl rfl) (fun _ => rfl) rfl hl.1 rfl (Nat.le_of_ble_eq_true rfl) ⟨by decide, by decide⟩ dX5_breakRings_87 (fun rv _ H locs hp hP hD hS => ?_)
          obtain rfl := hp
          have hP : va_P D vwCl ([(ad 0, .inr (5, [.int th, .ref (ad 1), .ref (ad 2), .ref (ad 3), .int sv, .ref (ad 4), .int ln, .int (nI (V9 ||| 2 ^ v9)), .ref (ad 5), .ref (ad 6), .int (nI u5.2.1), .int cm, .int fi, .int se])), (ad 1, .inl (cI, 221, .inl (upd (rlZ z6 v9 10) (6 * v9 + 1) (nI 0)))), (ad 2, .inl (cI, 221, .inl zs)), (ad 3, .inl (cI, 1768, .inl sd)), (ad 4, .inl (cI, 80, .inl tx)), (ad 5, .inl (cI, 8, .inl (dsF Fc Qc t 7))), (ad 6, .inl (cI, 8, .inl u5.1))]) H := hP
          have hD : va_D A ([(ad 0, .inr (5, [.int th, .ref (ad 1), .ref (ad 2), .ref (ad 3), .int sv, .ref (ad 4), .int ln, .int (nI (V9 ||| 2 ^ v9)), .ref (ad 5), .ref (ad 6), .int (nI u5.2.1), .int cm, .int fi, .int se])), (ad 1, .inl (cI, 221, .inl (upd (rlZ z6 v9 10) (6 * v9 + 1) (nI 0)))), (ad 2, .inl (cI, 221, .inl zs)), (ad 3, .inl (cI, 1768, .inl sd)), (ad 4, .inl (cI, 80, .inl tx)), (ad 5, .inl (cI, 8, .inl (dsF Fc Qc t 7))), (ad 6, .inl (cI, 8, .inl u5.1))]) := hD
          refine tpe (y := (up (relF (rmF (bkF Fc v9) v9) v9) 1 v9 (nI 0)) 2 v9) (RZ_2 hZ8 (by omega)) ?_
          refine lv_iconst (v := (nI 1)) hx hb dX5_breakRings_90 (by decide) ?_
          refine lv_iadd hx hb dX5_breakRings_91 ?_
          refine call_v (X := []) (Z := []) (As := [.int (nI v9), .int (nI 2), .int (((up (relF (rmF (bkF Fc v9) v9) v9) 1 v9 (nI 0)) 2 v9) + (nI 1))]) (rest := []) ⟨hx, hb, hml, hown, hts⟩ (c_X5_put l D cI cT ad th sv ln (nI (V9 ||| 2 ^ v9)) (nI u5.2.1) cm fi se (upd (rlZ z6 v9 10) (6 * v9 + 1) (nI 0)) zs sd tx (dsF Fc Qc t 7) u5.1 v9 2 (((up (relF (rmF (bkF Fc v9) v9) v9) 1 v9 (nI 0)) 2 v9) + (nI 1)) (by omega)) (cwV 3 hts gX5_breakRings_X5_put rfl rfl rfl (by decide +kernel) ⟨Nat.le_of_ble_eq_true rfl, Nat.le_of_ble_eq_true rfl⟩) hK hP hD hS hA (va_recv hK hP (ci := 5) (q0 := 0) rfl rfl) (fun _ => adr_ref.trans adr_ref.symm) rfl hl.1 rfl (Nat.le_of_ble_eq_true rfl) ⟨by decide, by decide⟩ dX5_breakRings_92 (fun _ H locs hp hP hD hS => ?_)
          have hZ9 := RZ_uw (w := 2) (v := (((up (relF (rmF (bkF Fc v9) v9) v9) 1 v9 (nI 0)) 2 v9) + (nI 1))) (fun r hr => JJ_len hJ6 hr) hZ8 (show v9 < 8 by omega) (by decide)
          have hP : va_P D vwCl ([(ad 0, .inr (5, [.int th, .ref (ad 1), .ref (ad 2), .ref (ad 3), .int sv, .ref (ad 4), .int ln, .int (nI (V9 ||| 2 ^ v9)), .ref (ad 5), .ref (ad 6), .int (nI u5.2.1), .int cm, .int fi, .int se])), (ad 1, .inl (cI, 221, .inl (upd (upd (rlZ z6 v9 10) (6 * v9 + 1) (nI 0)) (6 * v9 + 2) (((up (relF (rmF (bkF Fc v9) v9) v9) 1 v9 (nI 0)) 2 v9) + (nI 1))))), (ad 2, .inl (cI, 221, .inl zs)), (ad 3, .inl (cI, 1768, .inl sd)), (ad 4, .inl (cI, 80, .inl tx)), (ad 5, .inl (cI, 8, .inl (dsF Fc Qc t 7))), (ad 6, .inl (cI, 8, .inl u5.1))]) H := hP
          have hD : va_D A ([(ad 0, .inr (5, [.int th, .ref (ad 1), .ref (ad 2), .ref (ad 3), .int sv, .ref (ad 4), .int ln, .int (nI (V9 ||| 2 ^ v9)), .ref (ad 5), .ref (ad 6), .int (nI u5.2.1), .int cm, .int fi, .int se])), (ad 1, .inl (cI, 221, .inl (upd (upd (rlZ z6 v9 10) (6 * v9 + 1) (nI 0)) (6 * v9 + 2) (((up (relF (rmF (bkF Fc v9) v9) v9) 1 v9 (nI 0)) 2 v9) + (nI 1))))), (ad 2, .inl (cI, 221, .inl zs)), (ad 3, .inl (cI, 1768, .inl sd)), (ad 4, .inl (cI, 80, .inl tx)), (ad 5, .inl (cI, 8, .inl (dsF Fc Qc t 7))), (ad 6, .inl (cI, 8, .inl u5.1))]) := hD
          have hZa : RZ (abF Fc v9) (rmQ Fc Qc v9) (upd (upd (rlZ z6 v9 10) (6 * v9 + 1) (nI 0)) (6 * v9 + 2) (((up (relF (rmF (bkF Fc v9) v9) v9) 1 v9 (nI 0)) 2 v9) + (nI 1))) := by rw [← bk_ab, ← bk_rmQ]; exact hZ9
          have hJa := JJ_ab hJc hv8
          refine lv_aload_n hx hb dX5_breakRings_95 rfl (lv_at hl 1 rfl) ?_
          refine call_i (X := []) (Z := []) (As := []) (rest := []) ⟨hx, hb, hml, hown, hts⟩ (c_X5_serve l D cI cT ad th sv ln (nI (V9 ||| 2 ^ v9)) (nI u5.2.1) cm fi se (upd (upd (rlZ z6 v9 10) (6 * v9 + 1) (nI 0)) (6 * v9 + 2) (((up (relF (rmF (bkF Fc v9) v9) v9) 1 v9 (nI 0)) 2 v9) + (nI 1))) zs sd tx (dsF Fc Qc t 7) u5.1 (abF Fc v9) (rmQ Fc Qc v9)  hZa hJa) (cwV 0 hts gX5_breakRings_X5_serve rfl rfl rfl (by decide +kernel) ⟨Nat.le_of_ble_eq_true rfl, Nat.le_of_ble_eq_true rfl⟩) hK hP hD hS hA (va_recv hK hP (ci := 5) (q0 := 0) rfl rfl) (fun _ => adr_ref.trans adr_ref.symm) rfl hl.1 rfl (Nat.le_of_ble_eq_true rfl) ⟨by decide, by decide⟩ dX5_breakRings_96 (fun rv z10 H locs hp hP hD hS => ?_)
          obtain ⟨rfl, hZ10⟩ := hp
          have hJ10 := JJ_srv hJa
          have hP : va_P D vwCl ([(ad 0, .inr (5, [.int th, .ref (ad 1), .ref (ad 2), .ref (ad 3), .int sv, .ref (ad 4), .int ln, .int (nI (V9 ||| 2 ^ v9)), .ref (ad 5), .ref (ad 6), .int (nI u5.2.1), .int cm, .int fi, .int se])), (ad 1, .inl (cI, 221, .inl z10)), (ad 2, .inl (cI, 221, .inl zs)), (ad 3, .inl (cI, 1768, .inl sd)), (ad 4, .inl (cI, 80, .inl tx)), (ad 5, .inl (cI, 8, .inl (dsF Fc Qc t 7))), (ad 6, .inl (cI, 8, .inl u5.1))]) H := hP
          have hD : va_D A ([(ad 0, .inr (5, [.int th, .ref (ad 1), .ref (ad 2), .ref (ad 3), .int sv, .ref (ad 4), .int ln, .int (nI (V9 ||| 2 ^ v9)), .ref (ad 5), .ref (ad 6), .int (nI u5.2.1), .int cm, .int fi, .int se])), (ad 1, .inl (cI, 221, .inl z10)), (ad 2, .inl (cI, 221, .inl zs)), (ad 3, .inl (cI, 1768, .inl sd)), (ad 4, .inl (cI, 80, .inl tx)), (ad 5, .inl (cI, 8, .inl (dsF Fc Qc t 7))), (ad 6, .inl (cI, 8, .inl u5.1))]) := hD
          refine lv_pop hx hb dX5_breakRings_99 rfl ?_
          refine lv_goto (tgt := 0) hx hb dX5_breakRings_100 (by decide) ?_
          have hnw := nW_br hJc hv8 hv3
          exact ih0 (i + 1) (srvF (abF Fc v9) (rmQ Fc Qc v9)) (srvQ (abF Fc v9) (rmQ Fc Qc v9)) (V9 ||| 2 ^ v9) z10 (dsF Fc Qc t 7) u5.1 (nI u5.2.1) (by rw [hv9]; exact brI_s (by omega) (by rw [← hv9]; omega) hI) (by omega) hJ10 (JB_br hJc hv8 hBc) hZ10 (by omega) _ _ hP hD hS _ (lv_sub hl [1, 2] rfl)
  exact L0 _ 0 F Q0 0 z ds rg rl brI_0 (by have := nW_le (F := F) 8; omega) hJ hB hZ (Nat.lt_succ_self _) _ _ hP hD hS _ (lv_sub hl [0, 1] rfl)

