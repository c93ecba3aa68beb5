abbrev rX5_isAt : Room := { frames := 1, cells := 0, slots := 0, locals := 22 }
set_option maxHeartbeats 1000000 in
set_option maxRecDepth 100000 in
theorem c_X5_isAt (l : Launch) (D : va_G) (cI cT : ClassId) (ad : Nat → Nat) (th sv ln vs rl cm fi se : Int32) (z zs sd tx ds rg : Nat → Int32) (sg : Nat → Nat) (len : Nat) (p9 lo9 hi9 : Nat) (hp9 : p9 < 1000) (hlo : lo9 < 128) (hhi : hi9 < 128) (hlen : len ≤ 80) (htx : ∀ i, i < len → tx i = nI (sg i)) (hsg : ∀ z, sg z < 128) : CN l D cI cT yX5_isAt wsX5_isAt rX5_isAt [.ref (ad 0), .int (nI p9), .int (nI lo9), .int (nI hi9)] (refW cI ad th sv (nI len) vs rl cm fi se z zs sd tx ds rg) (S := Unit) (fun v _ => v = nI (atB sg len p9 lo9 hi9).toNat) (fun _ => refW cI ad th sv (nI len) vs rl cm fi se z zs sd tx ds rg) := by
  refine CN.of (cc := cX5_isAt) (maxL := 4) (ret := (some .boolean)) (by decide) rfl (Nat.le_of_ble_eq_true rfl) ?_
  intro p e s m args below meth c A Q hQ B hA H locs hP hK hD hS ls hl
  obtain ⟨hx, hb, hml, hrt, hts, hown, hlk⟩ := B
  have hP : va_P D vwCl ([(ad 0, .inr (5, [.int th, .ref (ad 1), .ref (ad 2), .ref (ad 3), .int sv, .ref (ad 4), .int (nI len), .int vs, .ref (ad 5), .ref (ad 6), .int rl, .int cm, .int fi, .int se])), (ad 1, .inl (cI, 221, .inl z)), (ad 2, .inl (cI, 221, .inl zs)), (ad 3, .inl (cI, 1768, .inl sd)), (ad 4, .inl (cI, 80, .inl tx)), (ad 5, .inl (cI, 8, .inl ds)), (ad 6, .inl (cI, 8, .inl rg))]) H := hP
  have hD : va_D A ([(ad 0, .inr (5, [.int th, .ref (ad 1), .ref (ad 2), .ref (ad 3), .int sv, .ref (ad 4), .int (nI len), .int vs, .ref (ad 5), .ref (ad 6), .int rl, .int cm, .int fi, .int se])), (ad 1, .inl (cI, 221, .inl z)), (ad 2, .inl (cI, 221, .inl zs)), (ad 3, .inl (cI, 1768, .inl sd)), (ad 4, .inl (cI, 80, .inl tx)), (ad 5, .inl (cI, 8, .inl ds)), (ad 6, .inl (cI, 8, .inl rg))]) := hD
  have hl : lv_has ls 4 [(0, .ref (ad 0)), (1, .int (nI p9)), (2, .int (nI lo9)), (3, .int (nI hi9))] := hl
  have iX5 : ∀ w ∈ u_ws RX5 TX5 14, w ∈ wsX5_isAt := by decide +kernel
  have f168 := hts (.fieldLink RX5 168 "LockManagerModel" "length" "I") (by decide +kernel)
  have f19 := hts (.fieldLink RX5 19 "LockManagerModel" "text" "[I") (by decide +kernel)
  refine lv_iload_n hx hb dX5_isAt_0 rfl (lv_at hl 1 rfl) ?_
  refine lv_aload_n hx hb dX5_isAt_1 rfl (lv_at hl 0 rfl) ?_
  refine va_get (D := D) (ci := 5) (v := .int (nI len)) (C := RX5) (T := TX5) (N := 14) hx hb hts iX5 hown hK hP 0 rfl rfl 6 (by decide) f168 (fun _ h9 => h9) rfl dX5_isAt_2 ?_
  refine lv_icmp_ge (tgt := 26) hx hb dX5_isAt_5 (by decide) (fun h_1 => ?_) (fun h_1 => ?_)
  · have h_1 := (nI_leI (a := len) (b := p9) (by first | omega | exact bits_lt31 _ | exact bitN_lt _ _ | exact bool_lt _ | exact and_lt31 _ _ _ _ | exact Nat.lt_of_le_of_lt (dst_lt _ _ _ (by omega) _) (by decide) | exact Nat.lt_of_le_of_lt (nrB_le _ _ _ (by omega)).2 (by decide) | decide) (by first | omega | exact bits_lt31 _ | exact bitN_lt _ _ | exact bool_lt _ | exact and_lt31 _ _ _ _ | exact Nat.lt_of_le_of_lt (dst_lt _ _ _ (by omega) _) (by decide) | exact Nat.lt_of_le_of_lt (nrB_le _ _ _ (by omega)).2 (by decide) | decide)).mp h_1
    refine lv_iconst (v := (nI 0)) hx hb dX5_isAt_26 (by decide) ?_
    exact ret_z (u := ()) hQ hx hb hrt hlk hS dX5_isAt_27 (by decide) hP (by rw [atB, decide_eq_false (fun q => by omega)]; rfl)
  · have h_1 := mt (nI_leI (a := len) (b := p9) (by first | omega | exact bits_lt31 _ | exact bitN_lt _ _ | exact bool_lt _ | exact and_lt31 _ _ _ _ | exact Nat.lt_of_le_of_lt (dst_lt _ _ _ (by omega) _) (by decide) | exact Nat.lt_of_le_of_lt (nrB_le _ _ _ (by omega)).2 (by decide) | decide) (by first | omega | exact bits_lt31 _ | exact bitN_lt _ _ | exact bool_lt _ | exact and_lt31 _ _ _ _ | exact Nat.lt_of_le_of_lt (dst_lt _ _ _ (by omega) _) (by decide) | exact Nat.lt_of_le_of_lt (nrB_le _ _ _ (by omega)).2 (by decide) | decide)).mpr h_1
    refine lv_aload_n hx hb dX5_isAt_8 rfl (lv_at hl 0 rfl) ?_
    refine va_get (D := D) (ci := 5) (v := .ref (ad 4)) (C := RX5) (T := TX5) (N := 14) hx hb hts iX5 hown hK hP 0 rfl rfl 5 (by decide) f19 (fun _ h9 => h9) rfl dX5_isAt_9 ?_
    refine lv_iload_n hx hb dX5_isAt_12 rfl (lv_at hl 1 rfl) ?_
    refine r_ild (k := p9) hx hb hK hP 4 rfl (by omega) (by decide) dX5_isAt_13 ?_
    refine tpe (y := nI (sg p9)) (htx p9 (by omega)) ?_
    refine lv_iload_n hx hb dX5_isAt_14 rfl (lv_at hl 2 rfl) ?_
    refine lv_iload_n hx hb dX5_isAt_15 rfl (lv_at hl 3 rfl) ?_
    refine call_s (X := [(ad 0, .inr (5, [.int th, .ref (ad 1), .ref (ad 2), .ref (ad 3), .int sv, .ref (ad 4), .int (nI len), .int vs, .ref (ad 5), .ref (ad 6), .int rl, .int cm, .int fi, .int se])), (ad 1, .inl (cI, 221, .inl z)), (ad 2, .inl (cI, 221, .inl zs)), (ad 3, .inl (cI, 1768, .inl sd)), (ad 4, .inl (cI, 80, .inl tx)), (ad 5, .inl (cI, 8, .inl ds)), (ad 6, .inl (cI, 8, .inl rg))]) (Wc := []) (Z := []) (As := [.int (nI (sg p9)), .int (nI lo9), .int (nI hi9)]) (rest := []) ⟨hx, hb, hml, hown, hts⟩ (c_X5_in l D cI cT (nI (sg p9)) (nI lo9) (nI hi9)) (va_cwS 3 hts gX5_isAt_X5_in rfl rfl rfl (by decide +kernel) ⟨Nat.le_of_ble_eq_true rfl, Nat.le_of_ble_eq_true rfl⟩) hK (P_nilr hP) (D_nilr hD) hS hA (fun _ => rfl) rfl hl.1 rfl (Nat.le_of_ble_eq_true rfl) ⟨by decide, by decide⟩ dX5_isAt_16 (fun rv _ H locs hp hP hD hS => ?_)
    obtain rfl := hp
    have hP := P_nil2 hP
    have hD := D_nil2 hD
    have hP : va_P D vwCl ([(ad 0, .inr (5, [.int th, .ref (ad 1), .ref (ad 2), .ref (ad 3), .int sv, .ref (ad 4), .int (nI len), .int vs, .ref (ad 5), .ref (ad 6), .int rl, .int cm, .int fi, .int se])), (ad 1, .inl (cI, 221, .inl z)), (ad 2, .inl (cI, 221, .inl zs)), (ad 3, .inl (cI, 1768, .inl sd)), (ad 4, .inl (cI, 80, .inl tx)), (ad 5, .inl (cI, 8, .inl ds)), (ad 6, .inl (cI, 8, .inl rg))]) H := hP
    have hD : va_D A ([(ad 0, .inr (5, [.int th, .ref (ad 1), .ref (ad 2), .ref (ad 3), .int sv, .ref (ad 4), .int (nI len), .int vs, .ref (ad 5), .ref (ad 6), .int rl, .int cm, .int fi, .int se])), (ad 1, .inl (cI, 221, .inl z)), (ad 2, .inl (cI, 221, .inl zs)), (ad 3, .inl (cI, 1768, .inl sd)), (ad 4, .inl (cI, 80, .inl tx)), (ad 5, .inl (cI, 8, .inl ds)), (ad 6, .inl (cI, 8, .inl rg))]) := hD
    refine lv_if_eq (tgt := 26) hx hb dX5_isAt_19 (by decide) (fun h_2 => ?_) (fun h_2 => ?_)
    · have h_2 := (nI_eq (a := ((inB (nI (sg p9)) (nI lo9) (nI hi9)).toNat)) (b := 0) (by first | omega | exact bits_lt31 _ | exact bitN_lt _ _ | exact bool_lt _ | exact and_lt31 _ _ _ _ | exact Nat.lt_of_le_of_lt (dst_lt _ _ _ (by omega) _) (by decide) | exact Nat.lt_of_le_of_lt (nrB_le _ _ _ (by omega)).2 (by decide) | decide) (by first | omega | exact bits_lt31 _ | exact bitN_lt _ _ | exact bool_lt _ | exact and_lt31 _ _ _ _ | exact Nat.lt_of_le_of_lt (dst_lt _ _ _ (by omega) _) (by decide) | exact Nat.lt_of_le_of_lt (nrB_le _ _ _ (by omega)).2 (by decide) | decide)).mp h_2
      have h_2 := tn_f h_2
      refine lv_iconst (v := (nI 0)) hx hb dX5_isAt_26 (by decide) ?_
      exact ret_z (u := ()) hQ hx hb hrt hlk hS dX5_isAt_27 (by decide) hP (by rw [inB_N (by have := hsg p9; omega) (by omega) (by omega)] at h_2; rw [atB]; rw [decide_eq_false (fun q => of_decide_eq_false h_2 q.2)]; rfl)
    · have h_2 := mt (nI_eq (a := ((inB (nI (sg p9)) (nI lo9) (nI hi9)).toNat)) (b := 0) (by first | omega | exact bits_lt31 _ | exact bitN_lt _ _ | exact bool_lt _ | exact and_lt31 _ _ _ _ | exact Nat.lt_of_le_of_lt (dst_lt _ _ _ (by omega) _) (by decide) | exact Nat.lt_of_le_of_lt (nrB_le _ _ _ (by omega)).2 (by decide) | decide) (by first | omega | exact bits_lt31 _ | exact bitN_lt _ _ | exact bool_lt _ | exact and_lt31 _ _ _ _ | exact Nat.lt_of_le_of_lt (dst_lt _ _ _ (by omega) _) (by decide) | exact Nat.lt_of_le_of_lt (nrB_le _ _ _ (by omega)).2 (by decide) | decide)).mpr h_2
      have h_2 := tn_y h_2
      refine lv_iconst (v := (nI 1)) hx hb dX5_isAt_22 (by decide) ?_
      refine lv_goto (tgt := 27) hx hb dX5_isAt_23 (by decide) ?_
      exact ret_z (u := ()) hQ hx hb hrt hlk hS dX5_isAt_27 (by decide) hP (by rw [inB_N (by have := hsg p9; omega) (by omega) (by omega)] at h_2; rw [atB]; rw [decide_eq_true ⟨by omega, of_decide_eq_true h_2⟩]; rfl)

abbrev rX5_readAmount : Room := { frames := 2, cells := 0, slots := 0, locals := 45 }
set_option maxHeartbeats 1000000 in
set_option maxRecDepth 100000 in
theorem c_X5_readAmount (l : Launch) (D : va_G) (cI cT : ClassId) (ad : Nat → Nat) (th sv ln vs rl cm fi se : Int32) (z zs sd tx ds rg : Nat → Int32) (sg : Nat → Nat) (len : Nat) (p0 : Nat) (hp0 : p0 < 100) (hlen : len ≤ 80) (htx : ∀ i, i < len → tx i = nI (sg i)) (hsg : ∀ z, sg z < 128) : CN l D cI cT yX5_readAmount wsX5_readAmount rX5_readAmount [.ref (ad 0), .int (nI p0)] (refW cI ad th sv (nI len) vs rl cm fi se z zs sd tx ds rg) (S := Unit) (fun v _ => v = rtI (decide (0 < (amN sg len 4 p0 0).2)) (amN sg len 4 p0 0).1) (fun _ => refW cI ad th sv (nI len) vs rl cm fi (nI (amN sg len 4 p0 0).2) z zs sd tx ds rg) := by
  refine CN.of (cc := cX5_readAmount) (maxL := 3) (ret := (some .int)) (by decide) rfl (Nat.le_of_ble_eq_true rfl) ?_
  intro p e s m args below meth c A Q hQ B hA H locs hP hK hD hS ls hl
  obtain ⟨hx, hb, hml, hrt, hts, hown, hlk⟩ := B
  have hP : va_P D vwCl ([(ad 0, .inr (5, [.int th, .ref (ad 1), .ref (ad 2), .ref (ad 3), .int sv, .ref (ad 4), .int (nI len), .int vs, .ref (ad 5), .ref (ad 6), .int rl, .int cm, .int fi, .int se])), (ad 1, .inl (cI, 221, .inl z)), (ad 2, .inl (cI, 221, .inl zs)), (ad 3, .inl (cI, 1768, .inl sd)), (ad 4, .inl (cI, 80, .inl tx)), (ad 5, .inl (cI, 8, .inl ds)), (ad 6, .inl (cI, 8, .inl rg))]) H := hP
  have hD : va_D A ([(ad 0, .inr (5, [.int th, .ref (ad 1), .ref (ad 2), .ref (ad 3), .int sv, .ref (ad 4), .int (nI len), .int vs, .ref (ad 5), .ref (ad 6), .int rl, .int cm, .int fi, .int se])), (ad 1, .inl (cI, 221, .inl z)), (ad 2, .inl (cI, 221, .inl zs)), (ad 3, .inl (cI, 1768, .inl sd)), (ad 4, .inl (cI, 80, .inl tx)), (ad 5, .inl (cI, 8, .inl ds)), (ad 6, .inl (cI, 8, .inl rg))]) := hD
  have hl : lv_has ls 3 [(0, .ref (ad 0)), (1, .int (nI p0))] := hl
  have iX5 : ∀ w ∈ u_ws RX5 TX5 14, w ∈ wsX5_readAmount := by decide +kernel
  have f171 := hts (.fieldLink RX5 171 "LockManagerModel" "second" "I") (by decide +kernel)
  have f19 := hts (.fieldLink RX5 19 "LockManagerModel" "text" "[I") (by decide +kernel)
  refine lv_iload_n hx hb dX5_readAmount_0 rfl (lv_at hl 1 rfl) ?_
  refine lv_istore_n (lv' := [(2, .int (nI p0)), (0, .ref (ad 0)), (1, .int (nI p0))]) hx hb dX5_readAmount_1 rfl hl (by decide) rfl (fun ls hl => ?_)
  refine lv_aload_n hx hb dX5_readAmount_2 rfl (lv_at hl 1 rfl) ?_
  refine lv_iconst (v := (nI 0)) hx hb dX5_readAmount_3 (by decide) ?_
  refine va_put (D := D) (ci := 5) (v := .int (nI 0)) (ty := .int) (C := RX5) (T := TX5) (N := 14) hx hb hts iX5 tyX5 tyX5_ok nmX5 hown hK hP hD hS 0 rfl rfl 13 (by decide) f171 (fun _ h9 => h9) rfl (by decide +kernel) rfl rfl (Nat.le_of_ble_eq_true rfl) dX5_readAmount_4 (fun H locs hP hD hS => ?_)
  have hP : va_P D vwCl ([(ad 0, .inr (5, [.int th, .ref (ad 1), .ref (ad 2), .ref (ad 3), .int sv, .ref (ad 4), .int (nI len), .int vs, .ref (ad 5), .ref (ad 6), .int rl, .int cm, .int fi, .int (nI 0)])), (ad 1, .inl (cI, 221, .inl z)), (ad 2, .inl (cI, 221, .inl zs)), (ad 3, .inl (cI, 1768, .inl sd)), (ad 4, .inl (cI, 80, .inl tx)), (ad 5, .inl (cI, 8, .inl ds)), (ad 6, .inl (cI, 8, .inl rg))]) H := hP
  have hD : va_D A ([(ad 0, .inr (5, [.int th, .ref (ad 1), .ref (ad 2), .ref (ad 3), .int sv, .ref (ad 4), .int (nI len), .int vs, .ref (ad 5), .ref (ad 6), .int rl, .int cm, .int fi, .int (nI 0)])), (ad 1, .inl (cI, 221, .inl z)), (ad 2, .inl (cI, 221, .inl zs)), (ad 3, .inl (cI, 1768, .inl sd)), (ad 4, .inl (cI, 80, .inl tx)), (ad 5, .inl (cI, 8, .inl ds)), (ad 6, .inl (cI, 8, .inl rg))]) := hD
  have L7 : ∀ (N : Nat) (k : Nat) (p9 : Nat) (acc : Nat), (k ≤ 4) → (amI sg len p0 k p9 acc) → (p9 = p0 + k) → (acc ≤ 1000) → ((k = 0 → acc = 0) ∧ (k = 1 → 1 ≤ acc) ∧ (k = 2 → 10 ≤ acc) ∧ (k = 3 → 100 ≤ acc) ∧ (k = 4 → 1000 ≤ acc)) → (5 - k) < N → ∀ (H : Heap) (locs : List Loc), va_P D vwCl ([(ad 0, .inr (5, [.int th, .ref (ad 1), .ref (ad 2), .ref (ad 3), .int sv, .ref (ad 4), .int (nI len), .int vs, .ref (ad 5), .ref (ad 6), .int rl, .int cm, .int fi, .int (nI acc)])), (ad 1, .inl (cI, 221, .inl z)), (ad 2, .inl (cI, 221, .inl zs)), (ad 3, .inl (cI, 1768, .inl sd)), (ad 4, .inl (cI, 80, .inl tx)), (ad 5, .inl (cI, 8, .inl ds)), (ad 6, .inl (cI, 8, .inl rg))]) H → va_D A ([(ad 0, .inr (5, [.int th, .ref (ad 1), .ref (ad 2), .ref (ad 3), .int sv, .ref (ad 4), .int (nI len), .int vs, .ref (ad 5), .ref (ad 6), .int rl, .int cm, .int fi, .int (nI acc)])), (ad 1, .inl (cI, 221, .inl z)), (ad 2, .inl (cI, 221, .inl zs)), (ad 3, .inl (cI, 1768, .inl sd)), (ad 4, .inl (cI, 80, .inl tx)), (ad 5, .inl (cI, 8, .inl ds)), (ad 6, .inl (cI, 8, .inl rg))]) → va_S A s.heap H locs → ∀ ls : Array Slot, lv_has ls 3 [(0, .ref (ad 0)), (1, .int (nI p0)), (2, .int (nI p9))] → W p l e rX5_readAmount s m args below meth c H locs 0 0 Q (F0 m 7 ls []) := by
    intro N7
    induction N7 with
    | zero => intro k p9 acc hk hI hpk hac hlb hN; exact absurd hN (Nat.not_lt_zero _)
    | succ N7 ih7 =>
      intro k p9 acc hk hI hpk hac hlb hN H locs hP hD hS ls hl
      refine lv_aload_n hx hb dX5_readAmount_7 rfl (lv_at hl 0 rfl) ?_
      refine lv_iload_n hx hb dX5_readAmount_8 rfl (lv_at hl 2 rfl) ?_
      refine lv_aload_n hx hb dX5_readAmount_9 rfl (lv_at hl 0 rfl) ?_
      refine va_get (D := D) (ci := 5) (v := .int (nI acc)) (C := RX5) (T := TX5) (N := 14) hx hb hts iX5 hown hK hP 0 rfl rfl 13 (by decide) f171 (fun _ h9 => h9) rfl dX5_readAmount_10 ?_
      refine lv_if_ne (tgt := 21) hx hb dX5_readAmount_13 (by decide) (fun h_1 => ?_) (fun h_1 => ?_)
      · have h_1 := mt (nI_eq (a := acc) (b := 0) (by first | omega | exact bits_lt31 _ | exact bitN_lt _ _ | exact bool_lt _ | exact and_lt31 _ _ _ _ | exact Nat.lt_of_le_of_lt (dst_lt _ _ _ (by omega) _) (by decide) | exact Nat.lt_of_le_of_lt (nrB_le _ _ _ (by omega)).2 (by decide) | decide) (by first | omega | exact bits_lt31 _ | exact bitN_lt _ _ | exact bool_lt _ | exact and_lt31 _ _ _ _ | exact Nat.lt_of_le_of_lt (dst_lt _ _ _ (by omega) _) (by decide) | exact Nat.lt_of_le_of_lt (nrB_le _ _ _ (by omega)).2 (by decide) | decide)).mpr h_1
        refine lv_bipush (v := (nI 48)) hx hb dX5_readAmount_21 (by decide) ?_
        refine lv_bipush (v := (nI 57)) hx hb dX5_readAmount_23 (by decide) ?_
        refine call_i (X := []) (Z := []) (As := [.int (nI p9), .int (nI 48), .int (nI 57)]) (rest := []) ⟨hx, hb, hml, hown, hts⟩ (c_X5_isAt l D cI cT ad th sv (nI len) vs rl cm fi (nI acc) z zs sd tx ds rg sg len p9 48 57 (by omega) (by omega) (by omega) hlen htx hsg) (cwV 3 hts gX5_readAmount_X5_isAt rfl rfl rfl (by decide +kernel) ⟨Nat.le_of_ble_eq_true rfl, Nat.le_of_ble_eq_true rfl⟩) hK hP hD hS hA (va_recv hK hP (ci := 5) (q0 := 0) rfl rfl) (fun _ => rfl) rfl hl.1 rfl (Nat.le_of_ble_eq_true rfl) ⟨by decide, by decide⟩ dX5_readAmount_25 (fun rv _ H locs hp hP hD hS => ?_)
        obtain rfl := hp
        have hP : va_P D vwCl ([(ad 0, .inr (5, [.int th, .ref (ad 1), .ref (ad 2), .ref (ad 3), .int sv, .ref (ad 4), .int (nI len), .int vs, .ref (ad 5), .ref (ad 6), .int rl, .int cm, .int fi, .int (nI acc)])), (ad 1, .inl (cI, 221, .inl z)), (ad 2, .inl (cI, 221, .inl zs)), (ad 3, .inl (cI, 1768, .inl sd)), (ad 4, .inl (cI, 80, .inl tx)), (ad 5, .inl (cI, 8, .inl ds)), (ad 6, .inl (cI, 8, .inl rg))]) H := hP
        have hD : va_D A ([(ad 0, .inr (5, [.int th, .ref (ad 1), .ref (ad 2), .ref (ad 3), .int sv, .ref (ad 4), .int (nI len), .int vs, .ref (ad 5), .ref (ad 6), .int rl, .int cm, .int fi, .int (nI acc)])), (ad 1, .inl (cI, 221, .inl z)), (ad 2, .inl (cI, 221, .inl zs)), (ad 3, .inl (cI, 1768, .inl sd)), (ad 4, .inl (cI, 80, .inl tx)), (ad 5, .inl (cI, 8, .inl ds)), (ad 6, .inl (cI, 8, .inl rg))]) := hD
        refine lv_if_eq (tgt := 81) hx hb dX5_readAmount_28 (by decide) (fun h_2 => ?_) (fun h_2 => ?_)
        · have h_2 := (nI_eq (a := ((atB sg len p9 48 57).toNat)) (b := 0) (by first | omega | exact bits_lt31 _ | exact bitN_lt _ _ | exact bool_lt _ | exact and_lt31 _ _ _ _ | exact Nat.lt_of_le_of_lt (dst_lt _ _ _ (by omega) _) (by decide) | exact Nat.lt_of_le_of_lt (nrB_le _ _ _ (by omega)).2 (by decide) | decide) (by first | omega | exact bits_lt31 _ | exact bitN_lt _ _ | exact bool_lt _ | exact and_lt31 _ _ _ _ | exact Nat.lt_of_le_of_lt (dst_lt _ _ _ (by omega) _) (by decide) | exact Nat.lt_of_le_of_lt (nrB_le _ _ _ (by omega)).2 (by decide) | decide)).mp h_2
          have h_2 := tn_f h_2
          refine lv_aload_n hx hb dX5_readAmount_81 rfl (lv_at hl 0 rfl) ?_
          refine va_get (D := D) (ci := 5) (v := .int (nI acc)) (C := RX5) (T := TX5) (N := 14) hx hb hts iX5 hown hK hP 0 rfl rfl 13 (by decide) f171 (fun _ h9 => h9) rfl dX5_readAmount_82 ?_
          refine lv_if_ne (tgt := 94) hx hb dX5_readAmount_85 (by decide) (fun h_3 => ?_) (fun h_3 => absurd ((nI_eq (a := acc) (b := 0) (by omega) (by omega)).mp h_3) h_1)
          have h_3 := mt (nI_eq (a := acc) (b := 0) (by first | omega | exact bits_lt31 _ | exact bitN_lt _ _ | exact bool_lt _ | exact and_lt31 _ _ _ _ | exact Nat.lt_of_le_of_lt (dst_lt _ _ _ (by omega) _) (by decide) | exact Nat.lt_of_le_of_lt (nrB_le _ _ _ (by omega)).2 (by decide) | decide) (by first | omega | exact bits_lt31 _ | exact bitN_lt _ _ | exact bool_lt _ | exact and_lt31 _ _ _ _ | exact Nat.lt_of_le_of_lt (dst_lt _ _ _ (by omega) _) (by decide) | exact Nat.lt_of_le_of_lt (nrB_le _ _ _ (by omega)).2 (by decide) | decide)).mpr h_3
          refine lv_iload_n hx hb dX5_readAmount_94 rfl (lv_at hl 2 rfl) ?_
          have hne := am_n2 (sg := sg) (len := len) (p := p9) (acc := acc) (by rw [if_neg h_1]; exact h_2)
          have he := amI_e (Or.inr hne) hI
          exact ret_i (u := ()) hQ hx hb hrt hlk hS dX5_readAmount_95 (by rw [← he.2]; exact hP) (by rw [← he.1, ← he.2, decide_eq_true (show 0 < acc by omega)]; rfl)
        · have h_2 := mt (nI_eq (a := ((atB sg len p9 48 57).toNat)) (b := 0) (by first | omega | exact bits_lt31 _ | exact bitN_lt _ _ | exact bool_lt _ | exact and_lt31 _ _ _ _ | exact Nat.lt_of_le_of_lt (dst_lt _ _ _ (by omega) _) (by decide) | exact Nat.lt_of_le_of_lt (nrB_le _ _ _ (by omega)).2 (by decide) | decide) (by first | omega | exact bits_lt31 _ | exact bitN_lt _ _ | exact bool_lt _ | exact and_lt31 _ _ _ _ | exact Nat.lt_of_le_of_lt (dst_lt _ _ _ (by omega) _) (by decide) | exact Nat.lt_of_le_of_lt (nrB_le _ _ _ (by omega)).2 (by decide) | decide)).mpr h_2
          have h_2 := tn_y h_2
          have hat := at_t h_2
          have hs9 := hsg p9
          refine lv_bipush (v := (nI 10)) hx hb dX5_readAmount_31 (by decide) ?_
          refine lv_aload_n hx hb dX5_readAmount_33 rfl (lv_at hl 0 rfl) ?_
          refine va_get (D := D) (ci := 5) (v := .int (nI acc)) (C := RX5) (T := TX5) (N := 14) hx hb hts iX5 hown hK hP 0 rfl rfl 13 (by decide) f171 (fun _ h9 => h9) rfl dX5_readAmount_34 ?_
          refine lv_imul hx hb dX5_readAmount_37 ?_
          refine tpe (y := (nI (10 * acc))) (pk_mul _ _) ?_
          refine lv_aload_n hx hb dX5_readAmount_38 rfl (lv_at hl 0 rfl) ?_
          refine va_get (D := D) (ci := 5) (v := .ref (ad 4)) (C := RX5) (T := TX5) (N := 14) hx hb hts iX5 hown hK hP 0 rfl rfl 5 (by decide) f19 (fun _ h9 => h9) rfl dX5_readAmount_39 ?_
          refine lv_iload_n hx hb dX5_readAmount_42 rfl (lv_at hl 2 rfl) ?_
          refine r_ild (k := p9) hx hb hK hP 4 rfl (by omega) (by decide) dX5_readAmount_43 ?_
          refine tpe (y := nI (sg p9)) (htx p9 (by omega)) ?_
          refine lv_iadd hx hb dX5_readAmount_44 ?_
          refine tpe (y := (nI (10 * acc + (sg p9)))) (nI_add _ _) ?_
          refine lv_bipush (v := (nI 48)) hx hb dX5_readAmount_45 (by decide) ?_
          refine lv_isub hx hb dX5_readAmount_47 ?_
          refine tpe (y := (nI ((10 * acc + (sg p9)) - 48))) (pk_sub (by omega)) ?_
          refine lv_sipush (v := (nI 1000)) hx hb dX5_readAmount_48 (by decide) ?_
          refine lv_icmp_gt (tgt := 81) hx hb dX5_readAmount_51 (by decide) (fun h_4 => ?_) (fun h_4 => ?_)
          · have h_4 := (nI_ltI (a := 1000) (b := ((10 * acc + (sg p9)) - 48)) (by first | omega | exact bits_lt31 _ | exact bitN_lt _ _ | exact bool_lt _ | exact and_lt31 _ _ _ _ | exact Nat.lt_of_le_of_lt (dst_lt _ _ _ (by omega) _) (by decide) | exact Nat.lt_of_le_of_lt (nrB_le _ _ _ (by omega)).2 (by decide) | decide) (by first | omega | exact bits_lt31 _ | exact bitN_lt _ _ | exact bool_lt _ | exact and_lt31 _ _ _ _ | exact Nat.lt_of_le_of_lt (dst_lt _ _ _ (by omega) _) (by decide) | exact Nat.lt_of_le_of_lt (nrB_le _ _ _ (by omega)).2 (by decide) | decide)).mp h_4
            refine lv_aload_n hx hb dX5_readAmount_81 rfl (lv_at hl 0 rfl) ?_
            refine va_get (D := D) (ci := 5) (v := .int (nI acc)) (C := RX5) (T := TX5) (N := 14) hx hb hts iX5 hown hK hP 0 rfl rfl 13 (by decide) f171 (fun _ h9 => h9) rfl dX5_readAmount_82 ?_
            refine lv_if_ne (tgt := 94) hx hb dX5_readAmount_85 (by decide) (fun h_5 => ?_) (fun h_5 => absurd ((nI_eq (a := acc) (b := 0) (by omega) (by omega)).mp h_5) h_1)
            have h_5 := mt (nI_eq (a := acc) (b := 0) (by first | omega | exact bits_lt31 _ | exact bitN_lt _ _ | exact bool_lt _ | exact and_lt31 _ _ _ _ | exact Nat.lt_of_le_of_lt (dst_lt _ _ _ (by omega) _) (by decide) | exact Nat.lt_of_le_of_lt (nrB_le _ _ _ (by omega)).2 (by decide) | decide) (by first | omega | exact bits_lt31 _ | exact bitN_lt _ _ | exact bool_lt _ | exact and_lt31 _ _ _ _ | exact Nat.lt_of_le_of_lt (dst_lt _ _ _ (by omega) _) (by decide) | exact Nat.lt_of_le_of_lt (nrB_le _ _ _ (by omega)).2 (by decide) | decide)).mpr h_5
            refine lv_iload_n hx hb dX5_readAmount_94 rfl (lv_at hl 2 rfl) ?_
            have hne : ¬ (dgB sg len p9 9 = true ∧ 1 ≤ acc * 10 + (sg p9 - 48) ∧ acc * 10 + (sg p9 - 48) ≤ 1000) := fun q => by have := q.2.2; omega
            have he := amI_e (Or.inr hne) hI
            exact ret_i (u := ()) hQ hx hb hrt hlk hS dX5_readAmount_95 (by rw [← he.2]; exact hP) (by rw [← he.1, ← he.2, decide_eq_true (show 0 < acc by omega)]; rfl)
          · have h_4 := mt (nI_ltI (a := 1000) (b := ((10 * acc + (sg p9)) - 48)) (by first | omega | exact bits_lt31 _ | exact bitN_lt _ _ | exact bool_lt _ | exact and_lt31 _ _ _ _ | exact Nat.lt_of_le_of_lt (dst_lt _ _ _ (by omega) _) (by decide) | exact Nat.lt_of_le_of_lt (nrB_le _ _ _ (by omega)).2 (by decide) | decide) (by first | omega | exact bits_lt31 _ | exact bitN_lt _ _ | exact bool_lt _ | exact and_lt31 _ _ _ _ | exact Nat.lt_of_le_of_lt (dst_lt _ _ _ (by omega) _) (by decide) | exact Nat.lt_of_le_of_lt (nrB_le _ _ _ (by omega)).2 (by decide) | decide)).mpr h_4
            refine lv_aload_n hx hb dX5_readAmount_54 rfl (lv_at hl 0 rfl) ?_
            refine lv_bipush (v := (nI 10)) hx hb dX5_readAmount_55 (by decide) ?_
            refine lv_aload_n hx hb dX5_readAmount_57 rfl (lv_at hl 0 rfl) ?_
            refine va_get (D := D) (ci := 5) (v := .int (nI acc)) (C := RX5) (T := TX5) (N := 14) hx hb hts iX5 hown hK hP 0 rfl rfl 13 (by decide) f171 (fun _ h9 => h9) rfl dX5_readAmount_58 ?_
            refine lv_imul hx hb dX5_readAmount_61 ?_
            refine tpe (y := (nI (10 * acc))) (pk_mul _ _) ?_
            refine lv_aload_n hx hb dX5_readAmount_62 rfl (lv_at hl 0 rfl) ?_
            refine va_get (D := D) (ci := 5) (v := .ref (ad 4)) (C := RX5) (T := TX5) (N := 14) hx hb hts iX5 hown hK hP 0 rfl rfl 5 (by decide) f19 (fun _ h9 => h9) rfl dX5_readAmount_63 ?_
            refine lv_iload_n hx hb dX5_readAmount_66 rfl (lv_at hl 2 rfl) ?_
            refine r_ild (k := p9) hx hb hK hP 4 rfl (by omega) (by decide) dX5_readAmount_67 ?_
            refine tpe (y := nI (sg p9)) (htx p9 (by omega)) ?_
            refine lv_iadd hx hb dX5_readAmount_68 ?_
            refine tpe (y := (nI (10 * acc + (sg p9)))) (nI_add _ _) ?_
            refine lv_bipush (v := (nI 48)) hx hb dX5_readAmount_69 (by decide) ?_
            refine lv_isub hx hb dX5_readAmount_71 ?_
            refine tpe (y := (nI ((10 * acc + (sg p9)) - 48))) (pk_sub (by omega)) ?_
            refine va_put (D := D) (ci := 5) (v := .int (nI ((10 * acc + (sg p9)) - 48))) (ty := .int) (C := RX5) (T := TX5) (N := 14) hx hb hts iX5 tyX5 tyX5_ok nmX5 hown hK hP hD hS 0 rfl rfl 13 (by decide) f171 (fun _ h9 => h9) rfl (by decide +kernel) rfl rfl (Nat.le_of_ble_eq_true rfl) dX5_readAmount_72 (fun H locs hP hD hS => ?_)
            have hP : va_P D vwCl ([(ad 0, .inr (5, [.int th, .ref (ad 1), .ref (ad 2), .ref (ad 3), .int sv, .ref (ad 4), .int (nI len), .int vs, .ref (ad 5), .ref (ad 6), .int rl, .int cm, .int fi, .int (nI ((10 * acc + (sg p9)) - 48))])), (ad 1, .inl (cI, 221, .inl z)), (ad 2, .inl (cI, 221, .inl zs)), (ad 3, .inl (cI, 1768, .inl sd)), (ad 4, .inl (cI, 80, .inl tx)), (ad 5, .inl (cI, 8, .inl ds)), (ad 6, .inl (cI, 8, .inl rg))]) H := hP
            have hD : va_D A ([(ad 0, .inr (5, [.int th, .ref (ad 1), .ref (ad 2), .ref (ad 3), .int sv, .ref (ad 4), .int (nI len), .int vs, .ref (ad 5), .ref (ad 6), .int rl, .int cm, .int fi, .int (nI ((10 * acc + (sg p9)) - 48))])), (ad 1, .inl (cI, 221, .inl z)), (ad 2, .inl (cI, 221, .inl zs)), (ad 3, .inl (cI, 1768, .inl sd)), (ad 4, .inl (cI, 80, .inl tx)), (ad 5, .inl (cI, 8, .inl ds)), (ad 6, .inl (cI, 8, .inl rg))]) := hD
            refine lv_iinc (v := (nI (p9 + 1))) (lv' := [(2, .int (nI (p9 + 1))), (0, .ref (ad 0)), (1, .int (nI p0))]) hx hb dX5_readAmount_75 hl (k := 2) rfl (nI_add _ 1) (by decide) rfl (fun ls hl => ?_)
            refine lv_goto (tgt := 7) hx hb dX5_readAmount_78 (by decide) ?_
            rw [show (10 * acc + (sg p9)) - 48 = acc * 10 + (sg p9 - 48) by omega] at hP hD
            exact ih7 (k + 1) (p9 + 1) (acc * 10 + (sg p9 - 48)) (by omega) (amI_s (by omega) (am_c hat.1 (by omega) (by omega) (by omega) (by omega)) hI) (by omega) (by omega) (by omega) (by omega) _ _ hP hD hS _ (lv_sub hl [1, 2, 0] rfl)
      · have h_1 := (nI_eq (a := acc) (b := 0) (by first | omega | exact bits_lt31 _ | exact bitN_lt _ _ | exact bool_lt _ | exact and_lt31 _ _ _ _ | exact Nat.lt_of_le_of_lt (dst_lt _ _ _ (by omega) _) (by decide) | exact Nat.lt_of_le_of_lt (nrB_le _ _ _ (by omega)).2 (by decide) | decide) (by first | omega | exact bits_lt31 _ | exact bitN_lt _ _ | exact bool_lt _ | exact and_lt31 _ _ _ _ | exact Nat.lt_of_le_of_lt (dst_lt _ _ _ (by omega) _) (by decide) | exact Nat.lt_of_le_of_lt (nrB_le _ _ _ (by omega)).2 (by decide) | decide)).mp h_1
        refine lv_bipush (v := (nI 49)) hx hb dX5_readAmount_16 (by decide) ?_
        refine lv_goto (tgt := 23) hx hb dX5_readAmount_18 (by decide) ?_
        refine lv_bipush (v := (nI 57)) hx hb dX5_readAmount_23 (by decide) ?_
        refine call_i (X := []) (Z := []) (As := [.int (nI p9), .int (nI 49), .int (nI 57)]) (rest := []) ⟨hx, hb, hml, hown, hts⟩ (c_X5_isAt l D cI cT ad th sv (nI len) vs rl cm fi (nI acc) z zs sd tx ds rg sg len p9 49 57 (by omega) (by omega) (by omega) hlen htx hsg) (cwV 3 hts gX5_readAmount_X5_isAt rfl rfl rfl (by decide +kernel) ⟨Nat.le_of_ble_eq_true rfl, Nat.le_of_ble_eq_true rfl⟩) hK hP hD hS hA (va_recv hK hP (ci := 5) (q0 := 0) rfl rfl) (fun _ => rfl) rfl hl.1 rfl (Nat.le_of_ble_eq_true rfl) ⟨by decide, by decide⟩ dX5_readAmount_25 (fun rv _ H locs hp hP hD hS => ?_)
        obtain rfl := hp
        have hP : va_P D vwCl ([(ad 0, .inr (5, [.int th, .ref (ad 1), .ref (ad 2), .ref (ad 3), .int sv, .ref (ad 4), .int (nI len), .int vs, .ref (ad 5), .ref (ad 6), .int rl, .int cm, .int fi, .int (nI acc)])), (ad 1, .inl (cI, 221, .inl z)), (ad 2, .inl (cI, 221, .inl zs)), (ad 3, .inl (cI, 1768, .inl sd)), (ad 4, .inl (cI, 80, .inl tx)), (ad 5, .inl (cI, 8, .inl ds)), (ad 6, .inl (cI, 8, .inl rg))]) H := hP
        have hD : va_D A ([(ad 0, .inr (5, [.int th, .ref (ad 1), .ref (ad 2), .ref (ad 3), .int sv, .ref (ad 4), .int (nI len), .int vs, .ref (ad 5), .ref (ad 6), .int rl, .int cm, .int fi, .int (nI acc)])), (ad 1, .inl (cI, 221, .inl z)), (ad 2, .inl (cI, 221, .inl zs)), (ad 3, .inl (cI, 1768, .inl sd)), (ad 4, .inl (cI, 80, .inl tx)), (ad 5, .inl (cI, 8, .inl ds)), (ad 6, .inl (cI, 8, .inl rg))]) := hD
        refine lv_if_eq (tgt := 81) hx hb dX5_readAmount_28 (by decide) (fun h_6 => ?_) (fun h_6 => ?_)
        · have h_6 := (nI_eq (a := ((atB sg len p9 49 57).toNat)) (b := 0) (by first | omega | exact bits_lt31 _ | exact bitN_lt _ _ | exact bool_lt _ | exact and_lt31 _ _ _ _ | exact Nat.lt_of_le_of_lt (dst_lt _ _ _ (by omega) _) (by decide) | exact Nat.lt_of_le_of_lt (nrB_le _ _ _ (by omega)).2 (by decide) | decide) (by first | omega | exact bits_lt31 _ | exact bitN_lt _ _ | exact bool_lt _ | exact and_lt31 _ _ _ _ | exact Nat.lt_of_le_of_lt (dst_lt _ _ _ (by omega) _) (by decide) | exact Nat.lt_of_le_of_lt (nrB_le _ _ _ (by omega)).2 (by decide) | decide)).mp h_6
          have h_6 := tn_f h_6
          refine lv_aload_n hx hb dX5_readAmount_81 rfl (lv_at hl 0 rfl) ?_
          refine va_get (D := D) (ci := 5) (v := .int (nI acc)) (C := RX5) (T := TX5) (N := 14) hx hb hts iX5 hown hK hP 0 rfl rfl 13 (by decide) f171 (fun _ h9 => h9) rfl dX5_readAmount_82 ?_
          refine lv_if_ne (tgt := 94) hx hb dX5_readAmount_85 (by decide) (fun h_7 => absurd h_1 (by have := mt (nI_eq (a := acc) (b := 0) (by omega) (by omega)).mpr h_7; omega)) (fun h_7 => ?_)
          have h_7 := (nI_eq (a := acc) (b := 0) (by first | omega | exact bits_lt31 _ | exact bitN_lt _ _ | exact bool_lt _ | exact and_lt31 _ _ _ _ | exact Nat.lt_of_le_of_lt (dst_lt _ _ _ (by omega) _) (by decide) | exact Nat.lt_of_le_of_lt (nrB_le _ _ _ (by omega)).2 (by decide) | decide) (by first | omega | exact bits_lt31 _ | exact bitN_lt _ _ | exact bool_lt _ | exact and_lt31 _ _ _ _ | exact Nat.lt_of_le_of_lt (dst_lt _ _ _ (by omega) _) (by decide) | exact Nat.lt_of_le_of_lt (nrB_le _ _ _ (by omega)).2 (by decide) | decide)).mp h_7
          refine lv_iconst (v := (-1)) hx hb dX5_readAmount_88 (by decide) ?_
          refine lv_iload_n hx hb dX5_readAmount_89 rfl (lv_at hl 2 rfl) ?_
          refine lv_isub hx hb dX5_readAmount_90 ?_
          refine lv_goto (tgt := 95) hx hb dX5_readAmount_91 (by decide) ?_
          have hne := am_n2 (sg := sg) (len := len) (p := p9) (acc := acc) (by rw [if_pos h_1]; exact h_6)
          have he := amI_e (Or.inr hne) hI
          exact ret_i (u := ()) hQ hx hb hrt hlk hS dX5_readAmount_95 (by rw [← he.2]; exact hP) (by rw [← he.1, ← he.2, decide_eq_false (show ¬ 0 < acc by omega)]; rfl)
        · have h_6 := mt (nI_eq (a := ((atB sg len p9 49 57).toNat)) (b := 0) (by first | omega | exact bits_lt31 _ | exact bitN_lt _ _ | exact bool_lt _ | exact and_lt31 _ _ _ _ | exact Nat.lt_of_le_of_lt (dst_lt _ _ _ (by omega) _) (by decide) | exact Nat.lt_of_le_of_lt (nrB_le _ _ _ (by omega)).2 (by decide) | decide) (by first | omega | exact bits_lt31 _ | exact bitN_lt _ _ | exact bool_lt _ | exact and_lt31 _ _ _ _ | exact Nat.lt_of_le_of_lt (dst_lt _ _ _ (by omega) _) (by decide) | exact Nat.lt_of_le_of_lt (nrB_le _ _ _ (by omega)).2 (by decide) | decide)).mpr h_6
          have h_6 := tn_y h_6
          have hat := at_t h_6
          have hs9 := hsg p9
          refine lv_bipush (v := (nI 10)) hx hb dX5_readAmount_31 (by decide) ?_
          refine lv_aload_n hx hb dX5_readAmount_33 rfl (lv_at hl 0 rfl) ?_
          refine va_get (D := D) (ci := 5) (v := .int (nI acc)) (C := RX5) (T := TX5) (N := 14) hx hb hts iX5 hown hK hP 0 rfl rfl 13 (by decide) f171 (fun _ h9 => h9) rfl dX5_readAmount_34 ?_
          refine lv_imul hx hb dX5_readAmount_37 ?_
          refine tpe (y := (nI (10 * acc))) (pk_mul _ _) ?_
          refine lv_aload_n hx hb dX5_readAmount_38 rfl (lv_at hl 0 rfl) ?_
          refine va_get (D := D) (ci := 5) (v := .ref (ad 4)) (C := RX5) (T := TX5) (N := 14) hx hb hts iX5 hown hK hP 0 rfl rfl 5 (by decide) f19 (fun _ h9 => h9) rfl dX5_readAmount_39 ?_
          refine lv_iload_n hx hb dX5_readAmount_42 rfl (lv_at hl 2 rfl) ?_
          refine r_ild (k := p9) hx hb hK hP 4 rfl (by omega) (by decide) dX5_readAmount_43 ?_
          refine tpe (y := nI (sg p9)) (htx p9 (by omega)) ?_
          refine lv_iadd hx hb dX5_readAmount_44 ?_
          refine tpe (y := (nI (10 * acc + (sg p9)))) (nI_add _ _) ?_
          refine lv_bipush (v := (nI 48)) hx hb dX5_readAmount_45 (by decide) ?_
          refine lv_isub hx hb dX5_readAmount_47 ?_
          refine tpe (y := (nI ((10 * acc + (sg p9)) - 48))) (pk_sub (by omega)) ?_
          refine lv_sipush (v := (nI 1000)) hx hb dX5_readAmount_48 (by decide) ?_
          refine lv_icmp_gt (tgt := 81) hx hb dX5_readAmount_51 (by decide) (fun h_8 => ?_) (fun h_8 => ?_)
          · have h_8 := (nI_ltI (a := 1000) (b := ((10 * acc + (sg p9)) - 48)) (by first | omega | exact bits_lt31 _ | exact bitN_lt _ _ | exact bool_lt _ | exact and_lt31 _ _ _ _ | exact Nat.lt_of_le_of_lt (dst_lt _ _ _ (by omega) _) (by decide) | exact Nat.lt_of_le_of_lt (nrB_le _ _ _ (by omega)).2 (by decide) | decide) (by first | omega | exact bits_lt31 _ | exact bitN_lt _ _ | exact bool_lt _ | exact and_lt31 _ _ _ _ | exact Nat.lt_of_le_of_lt (dst_lt _ _ _ (by omega) _) (by decide) | exact Nat.lt_of_le_of_lt (nrB_le _ _ _ (by omega)).2 (by decide) | decide)).mp h_8
            refine lv_aload_n hx hb dX5_readAmount_81 rfl (lv_at hl 0 rfl) ?_
            refine va_get (D := D) (ci := 5) (v := .int (nI acc)) (C := RX5) (T := TX5) (N := 14) hx hb hts iX5 hown hK hP 0 rfl rfl 13 (by decide) f171 (fun _ h9 => h9) rfl dX5_readAmount_82 ?_
            refine lv_if_ne (tgt := 94) hx hb dX5_readAmount_85 (by decide) (fun h_9 => absurd h_1 (by have := mt (nI_eq (a := acc) (b := 0) (by omega) (by omega)).mpr h_9; omega)) (fun h_9 => ?_)
            have h_9 := (nI_eq (a := acc) (b := 0) (by first | omega | exact bits_lt31 _ | exact bitN_lt _ _ | exact bool_lt _ | exact and_lt31 _ _ _ _ | exact Nat.lt_of_le_of_lt (dst_lt _ _ _ (by omega) _) (by decide) | exact Nat.lt_of_le_of_lt (nrB_le _ _ _ (by omega)).2 (by decide) | decide) (by first | omega | exact bits_lt31 _ | exact bitN_lt _ _ | exact bool_lt _ | exact and_lt31 _ _ _ _ | exact Nat.lt_of_le_of_lt (dst_lt _ _ _ (by omega) _) (by decide) | exact Nat.lt_of_le_of_lt (nrB_le _ _ _ (by omega)).2 (by decide) | decide)).mp h_9
            refine lv_iconst (v := (-1)) hx hb dX5_readAmount_88 (by decide) ?_
            refine lv_iload_n hx hb dX5_readAmount_89 rfl (lv_at hl 2 rfl) ?_
            refine lv_isub hx hb dX5_readAmount_90 ?_
            refine lv_goto (tgt := 95) hx hb dX5_readAmount_91 (by decide) ?_
            have hne : ¬ (dgB sg len p9 9 = true ∧ 1 ≤ acc * 10 + (sg p9 - 48) ∧ acc * 10 + (sg p9 - 48) ≤ 1000) := fun q => by have := q.2.2; omega
            have he := amI_e (Or.inr hne) hI
            exact ret_i (u := ()) hQ hx hb hrt hlk hS dX5_readAmount_95 (by rw [← he.2]; exact hP) (by rw [← he.1, ← he.2, decide_eq_false (show ¬ 0 < acc by omega)]; rfl)
          · have h_8 := mt (nI_ltI (a := 1000) (b := ((10 * acc + (sg p9)) - 48)) (by first | omega | exact bits_lt31 _ | exact bitN_lt _ _ | exact bool_lt _ | exact and_lt31 _ _ _ _ | exact Nat.lt_of_le_of_lt (dst_lt _ _ _ (by omega) _) (by decide) | exact Nat.lt_of_le_of_lt (nrB_le _ _ _ (by omega)).2 (by decide) | decide) (by first | omega | exact bits_lt31 _ | exact bitN_lt _ _ | exact bool_lt _ | exact and_lt31 _ _ _ _ | exact Nat.lt_of_le_of_lt (dst_lt _ _ _ (by omega) _) (by decide) | exact Nat.lt_of_le_of_lt (nrB_le _ _ _ (by omega)).2 (by decide) | decide)).mpr h_8
            refine lv_aload_n hx hb dX5_readAmount_54 rfl (lv_at hl 0 rfl) ?_
            refine lv_bipush (v := (nI 10)) hx hb dX5_readAmount_55 (by decide) ?_
            refine lv_aload_n hx hb dX5_readAmount_57 rfl (lv_at hl 0 rfl) ?_
            refine va_get (D := D) (ci := 5) (v := .int (nI acc)) (C := RX5) (T := TX5) (N := 14) hx hb hts iX5 hown hK hP 0 rfl rfl 13 (by decide) f171 (fun _ h9 => h9) rfl dX5_readAmount_58 ?_
            refine lv_imul hx hb dX5_readAmount_61 ?_
            refine tpe (y := (nI (10 * acc))) (pk_mul _ _) ?_
            refine lv_aload_n hx hb dX5_readAmount_62 rfl (lv_at hl 0 rfl) ?_
            refine va_get (D := D) (ci := 5) (v := .ref (ad 4)) (C := RX5) (T := TX5) (N := 14) hx hb hts iX5 hown hK hP 0 rfl rfl 5 (by decide) f19 (fun _ h9 => h9) rfl dX5_readAmount_63 ?_
            refine lv_iload_n hx hb dX5_readAmount_66 rfl (lv_at hl 2 rfl) ?_
            refine r_ild (k := p9) hx hb hK hP 4 rfl (by omega) (by decide) dX5_readAmount_67 ?_
            refine tpe (y := nI (sg p9)) (htx p9 (by omega)) ?_
            refine lv_iadd hx hb dX5_readAmount_68 ?_
            refine tpe (y := (nI (10 * acc + (sg p9)))) (nI_add _ _) ?_
            refine lv_bipush (v := (nI 48)) hx hb dX5_readAmount_69 (by decide) ?_
            refine lv_isub hx hb dX5_readAmount_71 ?_
            refine tpe (y := (nI ((10 * acc + (sg p9)) - 48))) (pk_sub (by omega)) ?_
            refine va_put (D := D) (ci := 5) (v := .int (nI ((10 * acc + (sg p9)) - 48))) (ty := .int) (C := RX5) (T := TX5) (N := 14) hx hb hts iX5 tyX5 tyX5_ok nmX5 hown hK hP hD hS 0 rfl rfl 13 (by decide) f171 (fun _ h9 => h9) rfl (by decide +kernel) rfl rfl (Nat.le_of_ble_eq_true rfl) dX5_readAmount_72 (fun H locs hP hD hS => ?_)
            have hP : va_P D vwCl ([(ad 0, .inr (5, [.int th, .ref (ad 1), .ref (ad 2), .ref (ad 3), .int sv, .ref (ad 4), .int (nI len), .int vs, .ref (ad 5), .ref (ad 6), .int rl, .int cm, .int fi, .int (nI ((10 * acc + (sg p9)) - 48))])), (ad 1, .inl (cI, 221, .inl z)), (ad 2, .inl (cI, 221, .inl zs)), (ad 3, .inl (cI, 1768, .inl sd)), (ad 4, .inl (cI, 80, .inl tx)), (ad 5, .inl (cI, 8, .inl ds)), (ad 6, .inl (cI, 8, .inl rg))]) H := hP
            have hD : va_D A ([(ad 0, .inr (5, [.int th, .ref (ad 1), .ref (ad 2), .ref (ad 3), .int sv, .ref (ad 4), .int (nI len), .int vs, .ref (ad 5), .ref (ad 6), .int rl, .int cm, .int fi, .int (nI ((10 * acc + (sg p9)) - 48))])), (ad 1, .inl (cI, 221, .inl z)), (ad 2, .inl (cI, 221, .inl zs)), (ad 3, .inl (cI, 1768, .inl sd)), (ad 4, .inl (cI, 80, .inl tx)), (ad 5, .inl (cI, 8, .inl ds)), (ad 6, .inl (cI, 8, .inl rg))]) := hD
            refine lv_iinc (v := (nI (p9 + 1))) (lv' := [(2, .int (nI (p9 + 1))), (0, .ref (ad 0)), (1, .int (nI p0))]) hx hb dX5_readAmount_75 hl (k := 2) rfl (nI_add _ 1) (by decide) rfl (fun ls hl => ?_)
            refine lv_goto (tgt := 7) hx hb dX5_readAmount_78 (by decide) ?_
            rw [show (10 * acc + (sg p9)) - 48 = acc * 10 + (sg p9 - 48) by omega] at hP hD
            exact ih7 (k + 1) (p9 + 1) (acc * 10 + (sg p9 - 48)) (by omega) (amI_s (by omega) (am_c hat.1 (by omega) (by omega) (by omega) (by omega)) hI) (by omega) (by omega) (by omega) (by omega) _ _ hP hD hS _ (lv_sub hl [1, 2, 0] rfl)
  exact L7 _ 0 p0 0 (Nat.zero_le _) amI_0 rfl (Nat.zero_le _) (by omega) (Nat.lt_succ_self _) _ _ hP hD hS _ (lv_sub hl [1, 2, 0] rfl)

abbrev rX5_readCommand : Room := { frames := 3, cells := 0, slots := 0, locals := 67 }
set_option maxHeartbeats 1000000 in
set_option maxRecDepth 100000 in
theorem c_X5_readCommand (l : Launch) (D : va_G) (cI cT : ClassId) (ad : Nat → Nat) (th sv ln vs rl cm fi se : Int32) (z zs sd tx ds rg : Nat → Int32) (sg : Nat → Nat) (len : Nat) (p9 : Nat) (hp9 : p9 ≤ len) (hlen : len ≤ 80) (htx : ∀ i, i < len → tx i = nI (sg i)) (hsg : ∀ z, sg z < 128) : CN l D cI cT yX5_readCommand wsX5_readCommand rX5_readCommand [.ref (ad 0), .int (nI p9)] (refW cI ad th sv (nI len) vs rl cm fi se z zs sd tx ds rg) (S := Int32 × Int32 × Int32) (fun v u => v = rtI (rcR sg len p9).1 (rcR sg len p9).2 ∧ ((rcR sg len p9).1 = true → u.1 = nI (sg p9) ∧ u.2.1 = nI (sg (p9 + 1) - 48) ∧ (sg p9 = 115 ∨ sg p9 = 119 ∨ sg p9 = 120 → u.2.2 = nI (rcO sg len p9)))) (fun u => refW cI ad th sv (nI len) vs rl u.1 u.2.1 u.2.2 z zs sd tx ds rg) := by
  refine CN.of (cc := cX5_readCommand) (maxL := 3) (ret := (some .int)) (by decide) rfl (Nat.le_of_ble_eq_true rfl) ?_
  intro p e s m args below meth c A Q hQ B hA H locs hP hK hD hS ls hl
  obtain ⟨hx, hb, hml, hrt, hts, hown, hlk⟩ := B
  have hP : va_P D vwCl ([(ad 0, .inr (5, [.int th, .ref (ad 1), .ref (ad 2), .ref (ad 3), .int sv, .ref (ad 4), .int (nI len), .int vs, .ref (ad 5), .ref (ad 6), .int rl, .int cm, .int fi, .int se])), (ad 1, .inl (cI, 221, .inl z)), (ad 2, .inl (cI, 221, .inl zs)), (ad 3, .inl (cI, 1768, .inl sd)), (ad 4, .inl (cI, 80, .inl tx)), (ad 5, .inl (cI, 8, .inl ds)), (ad 6, .inl (cI, 8, .inl rg))]) H := hP
  have hD : va_D A ([(ad 0, .inr (5, [.int th, .ref (ad 1), .ref (ad 2), .ref (ad 3), .int sv, .ref (ad 4), .int (nI len), .int vs, .ref (ad 5), .ref (ad 6), .int rl, .int cm, .int fi, .int se])), (ad 1, .inl (cI, 221, .inl z)), (ad 2, .inl (cI, 221, .inl zs)), (ad 3, .inl (cI, 1768, .inl sd)), (ad 4, .inl (cI, 80, .inl tx)), (ad 5, .inl (cI, 8, .inl ds)), (ad 6, .inl (cI, 8, .inl rg))]) := hD
  have hl : lv_has ls 3 [(0, .ref (ad 0)), (1, .int (nI p9))] := hl
  have hs0 := hsg p9
  have iX5 : ∀ w ∈ u_ws RX5 TX5 14, w ∈ wsX5_readCommand := by decide +kernel
  have f168 := hts (.fieldLink RX5 168 "LockManagerModel" "length" "I") (by decide +kernel)
  have f177 := hts (.fieldLink RX5 177 "LockManagerModel" "command" "I") (by decide +kernel)
  have f19 := hts (.fieldLink RX5 19 "LockManagerModel" "text" "[I") (by decide +kernel)
  have f180 := hts (.fieldLink RX5 180 "LockManagerModel" "first" "I") (by decide +kernel)
  have f171 := hts (.fieldLink RX5 171 "LockManagerModel" "second" "I") (by decide +kernel)
  refine lv_aload_n hx hb dX5_readCommand_0 rfl (lv_at hl 0 rfl) ?_
  refine lv_iload_n hx hb dX5_readCommand_1 rfl (lv_at hl 1 rfl) ?_
  refine lv_aload_n hx hb dX5_readCommand_2 rfl (lv_at hl 0 rfl) ?_
  refine va_get (D := D) (ci := 5) (v := .int (nI len)) (C := RX5) (T := TX5) (N := 14) hx hb hts iX5 hown hK hP 0 rfl rfl 6 (by decide) f168 (fun _ h9 => h9) rfl dX5_readCommand_3 ?_
  refine lv_icmp_ge (tgt := 18) hx hb dX5_readCommand_6 (by decide) (fun h_1 => ?_) (fun h_1 => ?_)
  · have h_1 := (nI_leI (a := len) (b := p9) (by first | omega | exact bits_lt31 _ | exact bitN_lt _ _ | exact bool_lt _ | exact and_lt31 _ _ _ _ | exact Nat.lt_of_le_of_lt (dst_lt _ _ _ (by omega) _) (by decide) | exact Nat.lt_of_le_of_lt (nrB_le _ _ _ (by omega)).2 (by decide) | decide) (by first | omega | exact bits_lt31 _ | exact bitN_lt _ _ | exact bool_lt _ | exact and_lt31 _ _ _ _ | exact Nat.lt_of_le_of_lt (dst_lt _ _ _ (by omega) _) (by decide) | exact Nat.lt_of_le_of_lt (nrB_le _ _ _ (by omega)).2 (by decide) | decide)).mp h_1
    refine lv_iconst (v := (nI 0)) hx hb dX5_readCommand_18 (by decide) ?_
    refine va_put (D := D) (ci := 5) (v := .int (nI 0)) (ty := .int) (C := RX5) (T := TX5) (N := 14) hx hb hts iX5 tyX5 tyX5_ok nmX5 hown hK hP hD hS 0 rfl rfl 11 (by decide) f177 (fun _ h9 => h9) rfl (by decide +kernel) rfl rfl (Nat.le_of_ble_eq_true rfl) dX5_readCommand_19 (fun H locs hP hD hS => ?_)
    have hP : va_P D vwCl ([(ad 0, .inr (5, [.int th, .ref (ad 1), .ref (ad 2), .ref (ad 3), .int sv, .ref (ad 4), .int (nI len), .int vs, .ref (ad 5), .ref (ad 6), .int rl, .int (nI 0), .int fi, .int se])), (ad 1, .inl (cI, 221, .inl z)), (ad 2, .inl (cI, 221, .inl zs)), (ad 3, .inl (cI, 1768, .inl sd)), (ad 4, .inl (cI, 80, .inl tx)), (ad 5, .inl (cI, 8, .inl ds)), (ad 6, .inl (cI, 8, .inl rg))]) H := hP
    have hD : va_D A ([(ad 0, .inr (5, [.int th, .ref (ad 1), .ref (ad 2), .ref (ad 3), .int sv, .ref (ad 4), .int (nI len), .int vs, .ref (ad 5), .ref (ad 6), .int rl, .int (nI 0), .int fi, .int se])), (ad 1, .inl (cI, 221, .inl z)), (ad 2, .inl (cI, 221, .inl zs)), (ad 3, .inl (cI, 1768, .inl sd)), (ad 4, .inl (cI, 80, .inl tx)), (ad 5, .inl (cI, 8, .inl ds)), (ad 6, .inl (cI, 8, .inl rg))]) := hD
    refine lv_aload_n hx hb dX5_readCommand_22 rfl (lv_at hl 0 rfl) ?_
    refine va_get (D := D) (ci := 5) (v := .int (nI 0)) (C := RX5) (T := TX5) (N := 14) hx hb hts iX5 hown hK hP 0 rfl rfl 11 (by decide) f177 (fun _ h9 => h9) rfl dX5_readCommand_23 ?_
    refine lv_bipush (v := (nI 98)) hx hb dX5_readCommand_26 (by decide) ?_
    refine lv_icmp_eq (tgt := 85) hx hb dX5_readCommand_28 (by decide) (fun h => absurd h (by decide)) (fun _ => ?_)
    refine lv_aload_n hx hb dX5_readCommand_31 rfl (lv_at hl 0 rfl) ?_
    refine va_get (D := D) (ci := 5) (v := .int (nI 0)) (C := RX5) (T := TX5) (N := 14) hx hb hts iX5 hown hK hP 0 rfl rfl 11 (by decide) f177 (fun _ h9 => h9) rfl dX5_readCommand_32 ?_
    refine lv_bipush (v := (nI 115)) hx hb dX5_readCommand_35 (by decide) ?_
    refine lv_icmp_eq (tgt := 85) hx hb dX5_readCommand_37 (by decide) (fun h => absurd h (by decide)) (fun _ => ?_)
    refine lv_aload_n hx hb dX5_readCommand_40 rfl (lv_at hl 0 rfl) ?_
    refine va_get (D := D) (ci := 5) (v := .int (nI 0)) (C := RX5) (T := TX5) (N := 14) hx hb hts iX5 hown hK hP 0 rfl rfl 11 (by decide) f177 (fun _ h9 => h9) rfl dX5_readCommand_41 ?_
    refine lv_bipush (v := (nI 120)) hx hb dX5_readCommand_44 (by decide) ?_
    refine lv_icmp_eq (tgt := 85) hx hb dX5_readCommand_46 (by decide) (fun h => absurd h (by decide)) (fun _ => ?_)
    refine lv_aload_n hx hb dX5_readCommand_49 rfl (lv_at hl 0 rfl) ?_
    refine va_get (D := D) (ci := 5) (v := .int (nI 0)) (C := RX5) (T := TX5) (N := 14) hx hb hts iX5 hown hK hP 0 rfl rfl 11 (by decide) f177 (fun _ h9 => h9) rfl dX5_readCommand_50 ?_
    refine lv_bipush (v := (nI 119)) hx hb dX5_readCommand_53 (by decide) ?_
    refine lv_icmp_eq (tgt := 85) hx hb dX5_readCommand_55 (by decide) (fun h => absurd h (by decide)) (fun _ => ?_)
    refine lv_aload_n hx hb dX5_readCommand_58 rfl (lv_at hl 0 rfl) ?_
    refine va_get (D := D) (ci := 5) (v := .int (nI 0)) (C := RX5) (T := TX5) (N := 14) hx hb hts iX5 hown hK hP 0 rfl rfl 11 (by decide) f177 (fun _ h9 => h9) rfl dX5_readCommand_59 ?_
    refine lv_bipush (v := (nI 99)) hx hb dX5_readCommand_62 (by decide) ?_
    refine lv_icmp_eq (tgt := 85) hx hb dX5_readCommand_64 (by decide) (fun h => absurd h (by decide)) (fun _ => ?_)
    refine lv_aload_n hx hb dX5_readCommand_67 rfl (lv_at hl 0 rfl) ?_
    refine va_get (D := D) (ci := 5) (v := .int (nI 0)) (C := RX5) (T := TX5) (N := 14) hx hb hts iX5 hown hK hP 0 rfl rfl 11 (by decide) f177 (fun _ h9 => h9) rfl dX5_readCommand_68 ?_
    refine lv_bipush (v := (nI 97)) hx hb dX5_readCommand_71 (by decide) ?_
    refine lv_icmp_eq (tgt := 85) hx hb dX5_readCommand_73 (by decide) (fun h => absurd h (by decide)) (fun _ => ?_)
    refine lv_aload_n hx hb dX5_readCommand_76 rfl (lv_at hl 0 rfl) ?_
    refine va_get (D := D) (ci := 5) (v := .int (nI 0)) (C := RX5) (T := TX5) (N := 14) hx hb hts iX5 hown hK hP 0 rfl rfl 11 (by decide) f177 (fun _ h9 => h9) rfl dX5_readCommand_77 ?_
    refine lv_bipush (v := (nI 107)) hx hb dX5_readCommand_80 (by decide) ?_
    refine lv_icmp_ne (tgt := 89) hx hb dX5_readCommand_82 (by decide) (fun _ => ?_) (fun h => absurd h (by decide))
    refine lv_iconst (v := (nI 0)) hx hb dX5_readCommand_89 (by decide) ?_
    refine lv_istore_n (lv' := [(2, .int (nI 0)), (0, .ref (ad 0)), (1, .int (nI p9))]) hx hb dX5_readCommand_90 rfl hl (by decide) rfl (fun ls hl => ?_)
    refine lv_iload_n hx hb dX5_readCommand_91 rfl (lv_at hl 0 rfl) ?_
    refine lv_if_ne (tgt := 99) hx hb dX5_readCommand_92 (by decide) (fun h => absurd (by decide) h) (fun _ => ?_)
    refine lv_iconst (v := (-1)) hx hb dX5_readCommand_95 (by decide) ?_
    refine lv_iload_n hx hb dX5_readCommand_96 rfl (lv_at hl 2 rfl) ?_
    refine lv_isub hx hb dX5_readCommand_97 ?_
    have hr := rc_k0 (rkB_n (sg := sg) (len := len) (p := p9) (by omega))
    exact ret_i (u := ((nI 0), fi, se)) hQ hx hb hrt hlk hS dX5_readCommand_98 hP (by rw [hr]; exact ⟨rfl, fun q => by cases q⟩)
  · have h_1 := mt (nI_leI (a := len) (b := p9) (by first | omega | exact bits_lt31 _ | exact bitN_lt _ _ | exact bool_lt _ | exact and_lt31 _ _ _ _ | exact Nat.lt_of_le_of_lt (dst_lt _ _ _ (by omega) _) (by decide) | exact Nat.lt_of_le_of_lt (nrB_le _ _ _ (by omega)).2 (by decide) | decide) (by first | omega | exact bits_lt31 _ | exact bitN_lt _ _ | exact bool_lt _ | exact and_lt31 _ _ _ _ | exact Nat.lt_of_le_of_lt (dst_lt _ _ _ (by omega) _) (by decide) | exact Nat.lt_of_le_of_lt (nrB_le _ _ _ (by omega)).2 (by decide) | decide)).mpr h_1
    refine lv_aload_n hx hb dX5_readCommand_9 rfl (lv_at hl 0 rfl) ?_
    refine va_get (D := D) (ci := 5) (v := .ref (ad 4)) (C := RX5) (T := TX5) (N := 14) hx hb hts iX5 hown hK hP 0 rfl rfl 5 (by decide) f19 (fun _ h9 => h9) rfl dX5_readCommand_10 ?_
    refine lv_iload_n hx hb dX5_readCommand_13 rfl (lv_at hl 1 rfl) ?_
    refine r_ild (k := p9) hx hb hK hP 4 rfl (by omega) (by decide) dX5_readCommand_14 ?_
    refine tpe (y := nI (sg p9)) (htx p9 (by omega)) ?_
    refine lv_goto (tgt := 19) hx hb dX5_readCommand_15 (by decide) ?_
    refine va_put (D := D) (ci := 5) (v := .int (nI (sg p9))) (ty := .int) (C := RX5) (T := TX5) (N := 14) hx hb hts iX5 tyX5 tyX5_ok nmX5 hown hK hP hD hS 0 rfl rfl 11 (by decide) f177 (fun _ h9 => h9) rfl (by decide +kernel) rfl rfl (Nat.le_of_ble_eq_true rfl) dX5_readCommand_19 (fun H locs hP hD hS => ?_)
    have hP : va_P D vwCl ([(ad 0, .inr (5, [.int th, .ref (ad 1), .ref (ad 2), .ref (ad 3), .int sv, .ref (ad 4), .int (nI len), .int vs, .ref (ad 5), .ref (ad 6), .int rl, .int (nI (sg p9)), .int fi, .int se])), (ad 1, .inl (cI, 221, .inl z)), (ad 2, .inl (cI, 221, .inl zs)), (ad 3, .inl (cI, 1768, .inl sd)), (ad 4, .inl (cI, 80, .inl tx)), (ad 5, .inl (cI, 8, .inl ds)), (ad 6, .inl (cI, 8, .inl rg))]) H := hP
    have hD : va_D A ([(ad 0, .inr (5, [.int th, .ref (ad 1), .ref (ad 2), .ref (ad 3), .int sv, .ref (ad 4), .int (nI len), .int vs, .ref (ad 5), .ref (ad 6), .int rl, .int (nI (sg p9)), .int fi, .int se])), (ad 1, .inl (cI, 221, .inl z)), (ad 2, .inl (cI, 221, .inl zs)), (ad 3, .inl (cI, 1768, .inl sd)), (ad 4, .inl (cI, 80, .inl tx)), (ad 5, .inl (cI, 8, .inl ds)), (ad 6, .inl (cI, 8, .inl rg))]) := hD
    refine lv_aload_n hx hb dX5_readCommand_22 rfl (lv_at hl 0 rfl) ?_
    refine va_get (D := D) (ci := 5) (v := .int (nI (sg p9))) (C := RX5) (T := TX5) (N := 14) hx hb hts iX5 hown hK hP 0 rfl rfl 11 (by decide) f177 (fun _ h9 => h9) rfl dX5_readCommand_23 ?_
    refine lv_bipush (v := (nI 98)) hx hb dX5_readCommand_26 (by decide) ?_
    refine lv_icmp_eq (tgt := 85) hx hb dX5_readCommand_28 (by decide) (fun h_2 => ?_) (fun h_2 => ?_)
    · have h_2 := (nI_eq (a := (sg p9)) (b := 98) (by first | omega | exact bits_lt31 _ | exact bitN_lt _ _ | exact bool_lt _ | exact and_lt31 _ _ _ _ | exact Nat.lt_of_le_of_lt (dst_lt _ _ _ (by omega) _) (by decide) | exact Nat.lt_of_le_of_lt (nrB_le _ _ _ (by omega)).2 (by decide) | decide) (by first | omega | exact bits_lt31 _ | exact bitN_lt _ _ | exact bool_lt _ | exact and_lt31 _ _ _ _ | exact Nat.lt_of_le_of_lt (dst_lt _ _ _ (by omega) _) (by decide) | exact Nat.lt_of_le_of_lt (nrB_le _ _ _ (by omega)).2 (by decide) | decide)).mp h_2
      rw [h_2] at hP hD
      have hP : va_P D vwCl ([(ad 0, .inr (5, [.int th, .ref (ad 1), .ref (ad 2), .ref (ad 3), .int sv, .ref (ad 4), .int (nI len), .int vs, .ref (ad 5), .ref (ad 6), .int rl, .int (nI 98), .int fi, .int se])), (ad 1, .inl (cI, 221, .inl z)), (ad 2, .inl (cI, 221, .inl zs)), (ad 3, .inl (cI, 1768, .inl sd)), (ad 4, .inl (cI, 80, .inl tx)), (ad 5, .inl (cI, 8, .inl ds)), (ad 6, .inl (cI, 8, .inl rg))]) H := hP
      have hD : va_D A ([(ad 0, .inr (5, [.int th, .ref (ad 1), .ref (ad 2), .ref (ad 3), .int sv, .ref (ad 4), .int (nI len), .int vs, .ref (ad 5), .ref (ad 6), .int rl, .int (nI 98), .int fi, .int se])), (ad 1, .inl (cI, 221, .inl z)), (ad 2, .inl (cI, 221, .inl zs)), (ad 3, .inl (cI, 1768, .inl sd)), (ad 4, .inl (cI, 80, .inl tx)), (ad 5, .inl (cI, 8, .inl ds)), (ad 6, .inl (cI, 8, .inl rg))]) := hD
      have hrk := rkB_y (len := len) (p := p9) (by omega) h_2 (show isK 98 = true by decide)
      refine lv_iconst (v := (nI 1)) hx hb dX5_readCommand_85 (by decide) ?_
      refine lv_goto (tgt := 90) hx hb dX5_readCommand_86 (by decide) ?_
      refine lv_istore_n (lv' := [(2, .int (nI 1)), (0, .ref (ad 0)), (1, .int (nI p9))]) hx hb dX5_readCommand_90 rfl hl (by decide) rfl (fun ls hl => ?_)
      refine lv_iload_n hx hb dX5_readCommand_91 rfl (lv_at hl 0 rfl) ?_
      refine lv_if_ne (tgt := 99) hx hb dX5_readCommand_92 (by decide) (fun _ => ?_) (fun h => absurd h (by decide))
      refine lv_aload_n hx hb dX5_readCommand_99 rfl (lv_at hl 1 rfl) ?_
      refine lv_iload_n hx hb dX5_readCommand_100 rfl (lv_at hl 2 rfl) ?_
      refine lv_iconst (v := (nI 1)) hx hb dX5_readCommand_101 (by decide) ?_
      refine lv_iadd hx hb dX5_readCommand_102 ?_
      refine tpe (y := (nI (p9 + 1))) (nI_add _ _) ?_
      refine lv_bipush (v := (nI 48)) hx hb dX5_readCommand_103 (by decide) ?_
      refine lv_bipush (v := (nI 55)) hx hb dX5_readCommand_105 (by decide) ?_
      refine call_i (X := []) (Z := []) (As := [.int (nI (p9 + 1)), .int (nI 48), .int (nI 55)]) (rest := []) ⟨hx, hb, hml, hown, hts⟩ (c_X5_isAt l D cI cT ad th sv (nI len) vs rl (nI 98) fi se z zs sd tx ds rg sg len (p9 + 1) 48 55 (by omega) (by omega) (by omega) hlen htx hsg) (cwV 3 hts gX5_readCommand_X5_isAt rfl rfl rfl (by decide +kernel) ⟨Nat.le_of_ble_eq_true rfl, Nat.le_of_ble_eq_true rfl⟩) hK hP hD hS hA (va_recv hK hP (ci := 5) (q0 := 0) rfl rfl) (fun _ => rfl) rfl hl.1 rfl (Nat.le_of_ble_eq_true rfl) ⟨by decide, by decide⟩ dX5_readCommand_107 (fun rv _ H locs hp hP hD hS => ?_)
      obtain rfl := hp
      have hP : va_P D vwCl ([(ad 0, .inr (5, [.int th, .ref (ad 1), .ref (ad 2), .ref (ad 3), .int sv, .ref (ad 4), .int (nI len), .int vs, .ref (ad 5), .ref (ad 6), .int rl, .int (nI 98), .int fi, .int se])), (ad 1, .inl (cI, 221, .inl z)), (ad 2, .inl (cI, 221, .inl zs)), (ad 3, .inl (cI, 1768, .inl sd)), (ad 4, .inl (cI, 80, .inl tx)), (ad 5, .inl (cI, 8, .inl ds)), (ad 6, .inl (cI, 8, .inl rg))]) H := hP
      have hD : va_D A ([(ad 0, .inr (5, [.int th, .ref (ad 1), .ref (ad 2), .ref (ad 3), .int sv, .ref (ad 4), .int (nI len), .int vs, .ref (ad 5), .ref (ad 6), .int rl, .int (nI 98), .int fi, .int se])), (ad 1, .inl (cI, 221, .inl z)), (ad 2, .inl (cI, 221, .inl zs)), (ad 3, .inl (cI, 1768, .inl sd)), (ad 4, .inl (cI, 80, .inl tx)), (ad 5, .inl (cI, 8, .inl ds)), (ad 6, .inl (cI, 8, .inl rg))]) := hD
      refine lv_if_ne (tgt := 118) hx hb dX5_readCommand_110 (by decide) (fun h_3 => ?_) (fun h_3 => ?_)
      · have h_3 := mt (nI_eq (a := ((atB sg len (p9 + 1) 48 55).toNat)) (b := 0) (by first | omega | exact bits_lt31 _ | exact bitN_lt _ _ | exact bool_lt _ | exact and_lt31 _ _ _ _ | exact Nat.lt_of_le_of_lt (dst_lt _ _ _ (by omega) _) (by decide) | exact Nat.lt_of_le_of_lt (nrB_le _ _ _ (by omega)).2 (by decide) | decide) (by first | omega | exact bits_lt31 _ | exact bitN_lt _ _ | exact bool_lt _ | exact and_lt31 _ _ _ _ | exact Nat.lt_of_le_of_lt (dst_lt _ _ _ (by omega) _) (by decide) | exact Nat.lt_of_le_of_lt (nrB_le _ _ _ (by omega)).2 (by decide) | decide)).mpr h_3
        have h_3 := tn_y h_3
        have hd1 := h_3
        have ha1 := at_t hd1
        have hs1 := hsg (p9 + 1)
        refine lv_aload_n hx hb dX5_readCommand_118 rfl (lv_at hl 1 rfl) ?_
        refine lv_aload_n hx hb dX5_readCommand_119 rfl (lv_at hl 1 rfl) ?_
        refine va_get (D := D) (ci := 5) (v := .ref (ad 4)) (C := RX5) (T := TX5) (N := 14) hx hb hts iX5 hown hK hP 0 rfl rfl 5 (by decide) f19 (fun _ h9 => h9) rfl dX5_readCommand_120 ?_
        refine lv_iload_n hx hb dX5_readCommand_123 rfl (lv_at hl 2 rfl) ?_
        refine lv_iconst (v := (nI 1)) hx hb dX5_readCommand_124 (by decide) ?_
        refine lv_iadd hx hb dX5_readCommand_125 ?_
        refine tpe (y := (nI (p9 + 1))) (nI_add _ _) ?_
        refine r_ild (k := (p9 + 1)) hx hb hK hP 4 rfl (by omega) (by decide) dX5_readCommand_126 ?_
        refine tpe (y := nI (sg (p9 + 1))) (htx (p9 + 1) (by omega)) ?_
        refine lv_bipush (v := (nI 48)) hx hb dX5_readCommand_127 (by decide) ?_
        refine lv_isub hx hb dX5_readCommand_129 ?_
        refine tpe (y := (nI ((sg (p9 + 1)) - 48))) (pk_sub (by omega)) ?_
        refine va_put (D := D) (ci := 5) (v := .int (nI ((sg (p9 + 1)) - 48))) (ty := .int) (C := RX5) (T := TX5) (N := 14) hx hb hts iX5 tyX5 tyX5_ok nmX5 hown hK hP hD hS 0 rfl rfl 12 (by decide) f180 (fun _ h9 => h9) rfl (by decide +kernel) rfl rfl (Nat.le_of_ble_eq_true rfl) dX5_readCommand_130 (fun H locs hP hD hS => ?_)
        have hP : va_P D vwCl ([(ad 0, .inr (5, [.int th, .ref (ad 1), .ref (ad 2), .ref (ad 3), .int sv, .ref (ad 4), .int (nI len), .int vs, .ref (ad 5), .ref (ad 6), .int rl, .int (nI 98), .int (nI ((sg (p9 + 1)) - 48)), .int se])), (ad 1, .inl (cI, 221, .inl z)), (ad 2, .inl (cI, 221, .inl zs)), (ad 3, .inl (cI, 1768, .inl sd)), (ad 4, .inl (cI, 80, .inl tx)), (ad 5, .inl (cI, 8, .inl ds)), (ad 6, .inl (cI, 8, .inl rg))]) H := hP
        have hD : va_D A ([(ad 0, .inr (5, [.int th, .ref (ad 1), .ref (ad 2), .ref (ad 3), .int sv, .ref (ad 4), .int (nI len), .int vs, .ref (ad 5), .ref (ad 6), .int rl, .int (nI 98), .int (nI ((sg (p9 + 1)) - 48)), .int se])), (ad 1, .inl (cI, 221, .inl z)), (ad 2, .inl (cI, 221, .inl zs)), (ad 3, .inl (cI, 1768, .inl sd)), (ad 4, .inl (cI, 80, .inl tx)), (ad 5, .inl (cI, 8, .inl ds)), (ad 6, .inl (cI, 8, .inl rg))]) := hD
        refine lv_aload_n hx hb dX5_readCommand_133 rfl (lv_at hl 1 rfl) ?_
        refine va_get (D := D) (ci := 5) (v := .int (nI 98)) (C := RX5) (T := TX5) (N := 14) hx hb hts iX5 hown hK hP 0 rfl rfl 11 (by decide) f177 (fun _ h9 => h9) rfl dX5_readCommand_134 ?_
        refine lv_bipush (v := (nI 115)) hx hb dX5_readCommand_137 (by decide) ?_
        refine lv_icmp_eq (tgt := 151) hx hb dX5_readCommand_139 (by decide) (fun h => absurd h (by decide)) (fun _ => ?_)
        refine lv_aload_n hx hb dX5_readCommand_142 rfl (lv_at hl 1 rfl) ?_
        refine va_get (D := D) (ci := 5) (v := .int (nI 98)) (C := RX5) (T := TX5) (N := 14) hx hb hts iX5 hown hK hP 0 rfl rfl 11 (by decide) f177 (fun _ h9 => h9) rfl dX5_readCommand_143 ?_
        refine lv_bipush (v := (nI 120)) hx hb dX5_readCommand_146 (by decide) ?_
        refine lv_icmp_ne (tgt := 189) hx hb dX5_readCommand_148 (by decide) (fun _ => ?_) (fun h => absurd h (by decide))
        refine lv_aload_n hx hb dX5_readCommand_189 rfl (lv_at hl 1 rfl) ?_
        refine va_get (D := D) (ci := 5) (v := .int (nI 98)) (C := RX5) (T := TX5) (N := 14) hx hb hts iX5 hown hK hP 0 rfl rfl 11 (by decide) f177 (fun _ h9 => h9) rfl dX5_readCommand_190 ?_
        refine lv_bipush (v := (nI 119)) hx hb dX5_readCommand_193 (by decide) ?_
        refine lv_icmp_ne (tgt := 227) hx hb dX5_readCommand_195 (by decide) (fun _ => ?_) (fun h => absurd h (by decide))
        refine lv_iload_n hx hb dX5_readCommand_227 rfl (lv_at hl 2 rfl) ?_
        refine lv_iconst (v := (nI 2)) hx hb dX5_readCommand_228 (by decide) ?_
        refine lv_iadd hx hb dX5_readCommand_229 ?_
        refine tpe (y := (nI (p9 + 2))) (nI_add _ _) ?_
        have hr := rc_o hrk hd1 (by omega) (by omega)
        exact ret_i (u := ((nI 98), (nI ((sg (p9 + 1)) - 48)), se)) hQ hx hb hrt hlk hS dX5_readCommand_230 hP (by rw [hr]; exact ⟨rfl, fun _ => ⟨congrArg nI h_2.symm, rfl, fun q => by omega⟩⟩)
      · have h_3 := (nI_eq (a := ((atB sg len (p9 + 1) 48 55).toNat)) (b := 0) (by first | omega | exact bits_lt31 _ | exact bitN_lt _ _ | exact bool_lt _ | exact and_lt31 _ _ _ _ | exact Nat.lt_of_le_of_lt (dst_lt _ _ _ (by omega) _) (by decide) | exact Nat.lt_of_le_of_lt (nrB_le _ _ _ (by omega)).2 (by decide) | decide) (by first | omega | exact bits_lt31 _ | exact bitN_lt _ _ | exact bool_lt _ | exact and_lt31 _ _ _ _ | exact Nat.lt_of_le_of_lt (dst_lt _ _ _ (by omega) _) (by decide) | exact Nat.lt_of_le_of_lt (nrB_le _ _ _ (by omega)).2 (by decide) | decide)).mp h_3
        have h_3 := tn_f h_3
        refine lv_bipush (v := (-2)) hx hb dX5_readCommand_113 (by decide) ?_
        refine lv_iload_n hx hb dX5_readCommand_115 rfl (lv_at hl 2 rfl) ?_
        refine lv_isub hx hb dX5_readCommand_116 ?_
        have hr := rc_d0 hrk h_3
        exact ret_i (u := ((nI 98), fi, se)) hQ hx hb hrt hlk hS dX5_readCommand_117 hP (by rw [hr]; exact ⟨rt_2, fun q => by cases q⟩)
    · have h_2 := mt (nI_eq (a := (sg p9)) (b := 98) (by first | omega | exact bits_lt31 _ | exact bitN_lt _ _ | exact bool_lt _ | exact and_lt31 _ _ _ _ | exact Nat.lt_of_le_of_lt (dst_lt _ _ _ (by omega) _) (by decide) | exact Nat.lt_of_le_of_lt (nrB_le _ _ _ (by omega)).2 (by decide) | decide) (by first | omega | exact bits_lt31 _ | exact bitN_lt _ _ | exact bool_lt _ | exact and_lt31 _ _ _ _ | exact Nat.lt_of_le_of_lt (dst_lt _ _ _ (by omega) _) (by decide) | exact Nat.lt_of_le_of_lt (nrB_le _ _ _ (by omega)).2 (by decide) | decide)).mpr h_2
      refine lv_aload_n hx hb dX5_readCommand_31 rfl (lv_at hl 0 rfl) ?_
      refine va_get (D := D) (ci := 5) (v := .int (nI (sg p9))) (C := RX5) (T := TX5) (N := 14) hx hb hts iX5 hown hK hP 0 rfl rfl 11 (by decide) f177 (fun _ h9 => h9) rfl dX5_readCommand_32 ?_
      refine lv_bipush (v := (nI 115)) hx hb dX5_readCommand_35 (by decide) ?_
      refine lv_icmp_eq (tgt := 85) hx hb dX5_readCommand_37 (by decide) (fun h_4 => ?_) (fun h_4 => ?_)
      · have h_4 := (nI_eq (a := (sg p9)) (b := 115) (by first | omega | exact bits_lt31 _ | exact bitN_lt _ _ | exact bool_lt _ | exact and_lt31 _ _ _ _ | exact Nat.lt_of_le_of_lt (dst_lt _ _ _ (by omega) _) (by decide) | exact Nat.lt_of_le_of_lt (nrB_le _ _ _ (by omega)).2 (by decide) | decide) (by first | omega | exact bits_lt31 _ | exact bitN_lt _ _ | exact bool_lt _ | exact and_lt31 _ _ _ _ | exact Nat.lt_of_le_of_lt (dst_lt _ _ _ (by omega) _) (by decide) | exact Nat.lt_of_le_of_lt (nrB_le _ _ _ (by omega)).2 (by decide) | decide)).mp h_4
        rw [h_4] at hP hD
        have hP : va_P D vwCl ([(ad 0, .inr (5, [.int th, .ref (ad 1), .ref (ad 2), .ref (ad 3), .int sv, .ref (ad 4), .int (nI len), .int vs, .ref (ad 5), .ref (ad 6), .int rl, .int (nI 115), .int fi, .int se])), (ad 1, .inl (cI, 221, .inl z)), (ad 2, .inl (cI, 221, .inl zs)), (ad 3, .inl (cI, 1768, .inl sd)), (ad 4, .inl (cI, 80, .inl tx)), (ad 5, .inl (cI, 8, .inl ds)), (ad 6, .inl (cI, 8, .inl rg))]) H := hP
        have hD : va_D A ([(ad 0, .inr (5, [.int th, .ref (ad 1), .ref (ad 2), .ref (ad 3), .int sv, .ref (ad 4), .int (nI len), .int vs, .ref (ad 5), .ref (ad 6), .int rl, .int (nI 115), .int fi, .int se])), (ad 1, .inl (cI, 221, .inl z)), (ad 2, .inl (cI, 221, .inl zs)), (ad 3, .inl (cI, 1768, .inl sd)), (ad 4, .inl (cI, 80, .inl tx)), (ad 5, .inl (cI, 8, .inl ds)), (ad 6, .inl (cI, 8, .inl rg))]) := hD
        have hrk := rkB_y (len := len) (p := p9) (by omega) h_4 (show isK 115 = true by decide)
        refine lv_iconst (v := (nI 1)) hx hb dX5_readCommand_85 (by decide) ?_
        refine lv_goto (tgt := 90) hx hb dX5_readCommand_86 (by decide) ?_
        refine lv_istore_n (lv' := [(2, .int (nI 1)), (0, .ref (ad 0)), (1, .int (nI p9))]) hx hb dX5_readCommand_90 rfl hl (by decide) rfl (fun ls hl => ?_)
        refine lv_iload_n hx hb dX5_readCommand_91 rfl (lv_at hl 0 rfl) ?_
        refine lv_if_ne (tgt := 99) hx hb dX5_readCommand_92 (by decide) (fun _ => ?_) (fun h => absurd h (by decide))
        refine lv_aload_n hx hb dX5_readCommand_99 rfl (lv_at hl 1 rfl) ?_
        refine lv_iload_n hx hb dX5_readCommand_100 rfl (lv_at hl 2 rfl) ?_
        refine lv_iconst (v := (nI 1)) hx hb dX5_readCommand_101 (by decide) ?_
        refine lv_iadd hx hb dX5_readCommand_102 ?_
        refine tpe (y := (nI (p9 + 1))) (nI_add _ _) ?_
        refine lv_bipush (v := (nI 48)) hx hb dX5_readCommand_103 (by decide) ?_
        refine lv_bipush (v := (nI 55)) hx hb dX5_readCommand_105 (by decide) ?_
        refine call_i (X := []) (Z := []) (As := [.int (nI (p9 + 1)), .int (nI 48), .int (nI 55)]) (rest := []) ⟨hx, hb, hml, hown, hts⟩ (c_X5_isAt l D cI cT ad th sv (nI len) vs rl (nI 115) fi se z zs sd tx ds rg sg len (p9 + 1) 48 55 (by omega) (by omega) (by omega) hlen htx hsg) (cwV 3 hts gX5_readCommand_X5_isAt rfl rfl rfl (by decide +kernel) ⟨Nat.le_of_ble_eq_true rfl, Nat.le_of_ble_eq_true rfl⟩) hK hP hD hS hA (va_recv hK hP (ci := 5) (q0 := 0) rfl rfl) (fun _ => rfl) rfl hl.1 rfl (Nat.le_of_ble_eq_true rfl) ⟨by decide, by decide⟩ dX5_readCommand_107 (fun rv _ H locs hp hP hD hS => ?_)
        obtain rfl := hp
        have hP : va_P D vwCl ([(ad 0, .inr (5, [.int th, .ref (ad 1), .ref (ad 2), .ref (ad 3), .int sv, .ref (ad 4), .int (nI len), .int vs, .ref (ad 5), .ref (ad 6), .int rl, .int (nI 115), .int fi, .int se])), (ad 1, .inl (cI, 221, .inl z)), (ad 2, .inl (cI, 221, .inl zs)), (ad 3, .inl (cI, 1768, .inl sd)), (ad 4, .inl (cI, 80, .inl tx)), (ad 5, .inl (cI, 8, .inl ds)), (ad 6, .inl (cI, 8, .inl rg))]) H := hP
        have hD : va_D A ([(ad 0, .inr (5, [.int th, .ref (ad 1), .ref (ad 2), .ref (ad 3), .int sv, .ref (ad 4), .int (nI len), .int vs, .ref (ad 5), .ref (ad 6), .int rl, .int (nI 115), .int fi, .int se])), (ad 1, .inl (cI, 221, .inl z)), (ad 2, .inl (cI, 221, .inl zs)), (ad 3, .inl (cI, 1768, .inl sd)), (ad 4, .inl (cI, 80, .inl tx)), (ad 5, .inl (cI, 8, .inl ds)), (ad 6, .inl (cI, 8, .inl rg))]) := hD
        refine lv_if_ne (tgt := 118) hx hb dX5_readCommand_110 (by decide) (fun h_5 => ?_) (fun h_5 => ?_)
        · have h_5 := mt (nI_eq (a := ((atB sg len (p9 + 1) 48 55).toNat)) (b := 0) (by first | omega | exact bits_lt31 _ | exact bitN_lt _ _ | exact bool_lt _ | exact and_lt31 _ _ _ _ | exact Nat.lt_of_le_of_lt (dst_lt _ _ _ (by omega) _) (by decide) | exact Nat.lt_of_le_of_lt (nrB_le _ _ _ (by omega)).2 (by decide) | decide) (by first | omega | exact bits_lt31 _ | exact bitN_lt _ _ | exact bool_lt _ | exact and_lt31 _ _ _ _ | exact Nat.lt_of_le_of_lt (dst_lt _ _ _ (by omega) _) (by decide) | exact Nat.lt_of_le_of_lt (nrB_le _ _ _ (by omega)).2 (by decide) | decide)).mpr h_5
          have h_5 := tn_y h_5
          have hd1 := h_5
          have ha1 := at_t hd1
          have hs1 := hsg (p9 + 1)
          refine lv_aload_n hx hb dX5_readCommand_118 rfl (lv_at hl 1 rfl) ?_
          refine lv_aload_n hx hb dX5_readCommand_119 rfl (lv_at hl 1 rfl) ?_
          refine va_get (D := D) (ci := 5) (v := .ref (ad 4)) (C := RX5) (T := TX5) (N := 14) hx hb hts iX5 hown hK hP 0 rfl rfl 5 (by decide) f19 (fun _ h9 => h9) rfl dX5_readCommand_120 ?_
          refine lv_iload_n hx hb dX5_readCommand_123 rfl (lv_at hl 2 rfl) ?_
          refine lv_iconst (v := (nI 1)) hx hb dX5_readCommand_124 (by decide) ?_
          refine lv_iadd hx hb dX5_readCommand_125 ?_
          refine tpe (y := (nI (p9 + 1))) (nI_add _ _) ?_
          refine r_ild (k := (p9 + 1)) hx hb hK hP 4 rfl (by omega) (by decide) dX5_readCommand_126 ?_
          refine tpe (y := nI (sg (p9 + 1))) (htx (p9 + 1) (by omega)) ?_
          refine lv_bipush (v := (nI 48)) hx hb dX5_readCommand_127 (by decide) ?_
          refine lv_isub hx hb dX5_readCommand_129 ?_
          refine tpe (y := (nI ((sg (p9 + 1)) - 48))) (pk_sub (by omega)) ?_
          refine va_put (D := D) (ci := 5) (v := .int (nI ((sg (p9 + 1)) - 48))) (ty := .int) (C := RX5) (T := TX5) (N := 14) hx hb hts iX5 tyX5 tyX5_ok nmX5 hown hK hP hD hS 0 rfl rfl 12 (by decide) f180 (fun _ h9 => h9) rfl (by decide +kernel) rfl rfl (Nat.le_of_ble_eq_true rfl) dX5_readCommand_130 (fun H locs hP hD hS => ?_)
          have hP : va_P D vwCl ([(ad 0, .inr (5, [.int th, .ref (ad 1), .ref (ad 2), .ref (ad 3), .int sv, .ref (ad 4), .int (nI len), .int vs, .ref (ad 5), .ref (ad 6), .int rl, .int (nI 115), .int (nI ((sg (p9 + 1)) - 48)), .int se])), (ad 1, .inl (cI, 221, .inl z)), (ad 2, .inl (cI, 221, .inl zs)), (ad 3, .inl (cI, 1768, .inl sd)), (ad 4, .inl (cI, 80, .inl tx)), (ad 5, .inl (cI, 8, .inl ds)), (ad 6, .inl (cI, 8, .inl rg))]) H := hP
          have hD : va_D A ([(ad 0, .inr (5, [.int th, .ref (ad 1), .ref (ad 2), .ref (ad 3), .int sv, .ref (ad 4), .int (nI len), .int vs, .ref (ad 5), .ref (ad 6), .int rl, .int (nI 115), .int (nI ((sg (p9 + 1)) - 48)), .int se])), (ad 1, .inl (cI, 221, .inl z)), (ad 2, .inl (cI, 221, .inl zs)), (ad 3, .inl (cI, 1768, .inl sd)), (ad 4, .inl (cI, 80, .inl tx)), (ad 5, .inl (cI, 8, .inl ds)), (ad 6, .inl (cI, 8, .inl rg))]) := hD
          refine lv_aload_n hx hb dX5_readCommand_133 rfl (lv_at hl 1 rfl) ?_
          refine va_get (D := D) (ci := 5) (v := .int (nI 115)) (C := RX5) (T := TX5) (N := 14) hx hb hts iX5 hown hK hP 0 rfl rfl 11 (by decide) f177 (fun _ h9 => h9) rfl dX5_readCommand_134 ?_
          refine lv_bipush (v := (nI 115)) hx hb dX5_readCommand_137 (by decide) ?_
          refine lv_icmp_eq (tgt := 151) hx hb dX5_readCommand_139 (by decide) (fun _ => ?_) (fun h => absurd (by decide) h)
          refine lv_aload_n hx hb dX5_readCommand_151 rfl (lv_at hl 1 rfl) ?_
          refine lv_iload_n hx hb dX5_readCommand_152 rfl (lv_at hl 2 rfl) ?_
          refine lv_iconst (v := (nI 2)) hx hb dX5_readCommand_153 (by decide) ?_
          refine lv_iadd hx hb dX5_readCommand_154 ?_
          refine tpe (y := (nI (p9 + 2))) (nI_add _ _) ?_
          refine lv_bipush (v := (nI 48)) hx hb dX5_readCommand_155 (by decide) ?_
          refine lv_bipush (v := (nI 57)) hx hb dX5_readCommand_157 (by decide) ?_
          refine call_i (X := []) (Z := []) (As := [.int (nI (p9 + 2)), .int (nI 48), .int (nI 57)]) (rest := []) ⟨hx, hb, hml, hown, hts⟩ (c_X5_isAt l D cI cT ad th sv (nI len) vs rl (nI 115) (nI ((sg (p9 + 1)) - 48)) se z zs sd tx ds rg sg len (p9 + 2) 48 57 (by omega) (by omega) (by omega) hlen htx hsg) (cwV 3 hts gX5_readCommand_X5_isAt rfl rfl rfl (by decide +kernel) ⟨Nat.le_of_ble_eq_true rfl, Nat.le_of_ble_eq_true rfl⟩) hK hP hD hS hA (va_recv hK hP (ci := 5) (q0 := 0) rfl rfl) (fun _ => rfl) rfl hl.1 rfl (Nat.le_of_ble_eq_true rfl) ⟨by decide, by decide⟩ dX5_readCommand_159 (fun rv _ H locs hp hP hD hS => ?_)
          obtain rfl := hp
          have hP : va_P D vwCl ([(ad 0, .inr (5, [.int th, .ref (ad 1), .ref (ad 2), .ref (ad 3), .int sv, .ref (ad 4), .int (nI len), .int vs, .ref (ad 5), .ref (ad 6), .int rl, .int (nI 115), .int (nI ((sg (p9 + 1)) - 48)), .int se])), (ad 1, .inl (cI, 221, .inl z)), (ad 2, .inl (cI, 221, .inl zs)), (ad 3, .inl (cI, 1768, .inl sd)), (ad 4, .inl (cI, 80, .inl tx)), (ad 5, .inl (cI, 8, .inl ds)), (ad 6, .inl (cI, 8, .inl rg))]) H := hP
          have hD : va_D A ([(ad 0, .inr (5, [.int th, .ref (ad 1), .ref (ad 2), .ref (ad 3), .int sv, .ref (ad 4), .int (nI len), .int vs, .ref (ad 5), .ref (ad 6), .int rl, .int (nI 115), .int (nI ((sg (p9 + 1)) - 48)), .int se])), (ad 1, .inl (cI, 221, .inl z)), (ad 2, .inl (cI, 221, .inl zs)), (ad 3, .inl (cI, 1768, .inl sd)), (ad 4, .inl (cI, 80, .inl tx)), (ad 5, .inl (cI, 8, .inl ds)), (ad 6, .inl (cI, 8, .inl rg))]) := hD
          refine lv_if_ne (tgt := 170) hx hb dX5_readCommand_162 (by decide) (fun h_6 => ?_) (fun h_6 => ?_)
          · have h_6 := mt (nI_eq (a := ((atB sg len (p9 + 2) 48 57).toNat)) (b := 0) (by first | omega | exact bits_lt31 _ | exact bitN_lt _ _ | exact bool_lt _ | exact and_lt31 _ _ _ _ | exact Nat.lt_of_le_of_lt (dst_lt _ _ _ (by omega) _) (by decide) | exact Nat.lt_of_le_of_lt (nrB_le _ _ _ (by omega)).2 (by decide) | decide) (by first | omega | exact bits_lt31 _ | exact bitN_lt _ _ | exact bool_lt _ | exact and_lt31 _ _ _ _ | exact Nat.lt_of_le_of_lt (dst_lt _ _ _ (by omega) _) (by decide) | exact Nat.lt_of_le_of_lt (nrB_le _ _ _ (by omega)).2 (by decide) | decide)).mpr h_6
            have h_6 := tn_y h_6
            have hd2 := h_6
            have ha2 := at_t hd2
            have hs2 := hsg (p9 + 2)
            refine lv_aload_n hx hb dX5_readCommand_170 rfl (lv_at hl 1 rfl) ?_
            refine lv_aload_n hx hb dX5_readCommand_171 rfl (lv_at hl 1 rfl) ?_
            refine va_get (D := D) (ci := 5) (v := .ref (ad 4)) (C := RX5) (T := TX5) (N := 14) hx hb hts iX5 hown hK hP 0 rfl rfl 5 (by decide) f19 (fun _ h9 => h9) rfl dX5_readCommand_172 ?_
            refine lv_iload_n hx hb dX5_readCommand_175 rfl (lv_at hl 2 rfl) ?_
            refine lv_iconst (v := (nI 2)) hx hb dX5_readCommand_176 (by decide) ?_
            refine lv_iadd hx hb dX5_readCommand_177 ?_
            refine tpe (y := (nI (p9 + 2))) (nI_add _ _) ?_
            refine r_ild (k := (p9 + 2)) hx hb hK hP 4 rfl (by omega) (by decide) dX5_readCommand_178 ?_
            refine tpe (y := nI (sg (p9 + 2))) (htx (p9 + 2) (by omega)) ?_
            refine lv_bipush (v := (nI 48)) hx hb dX5_readCommand_179 (by decide) ?_
            refine lv_isub hx hb dX5_readCommand_181 ?_
            refine tpe (y := (nI ((sg (p9 + 2)) - 48))) (pk_sub (by omega)) ?_
            refine va_put (D := D) (ci := 5) (v := .int (nI ((sg (p9 + 2)) - 48))) (ty := .int) (C := RX5) (T := TX5) (N := 14) hx hb hts iX5 tyX5 tyX5_ok nmX5 hown hK hP hD hS 0 rfl rfl 13 (by decide) f171 (fun _ h9 => h9) rfl (by decide +kernel) rfl rfl (Nat.le_of_ble_eq_true rfl) dX5_readCommand_182 (fun H locs hP hD hS => ?_)
            have hP : va_P D vwCl ([(ad 0, .inr (5, [.int th, .ref (ad 1), .ref (ad 2), .ref (ad 3), .int sv, .ref (ad 4), .int (nI len), .int vs, .ref (ad 5), .ref (ad 6), .int rl, .int (nI 115), .int (nI ((sg (p9 + 1)) - 48)), .int (nI ((sg (p9 + 2)) - 48))])), (ad 1, .inl (cI, 221, .inl z)), (ad 2, .inl (cI, 221, .inl zs)), (ad 3, .inl (cI, 1768, .inl sd)), (ad 4, .inl (cI, 80, .inl tx)), (ad 5, .inl (cI, 8, .inl ds)), (ad 6, .inl (cI, 8, .inl rg))]) H := hP
            have hD : va_D A ([(ad 0, .inr (5, [.int th, .ref (ad 1), .ref (ad 2), .ref (ad 3), .int sv, .ref (ad 4), .int (nI len), .int vs, .ref (ad 5), .ref (ad 6), .int rl, .int (nI 115), .int (nI ((sg (p9 + 1)) - 48)), .int (nI ((sg (p9 + 2)) - 48))])), (ad 1, .inl (cI, 221, .inl z)), (ad 2, .inl (cI, 221, .inl zs)), (ad 3, .inl (cI, 1768, .inl sd)), (ad 4, .inl (cI, 80, .inl tx)), (ad 5, .inl (cI, 8, .inl ds)), (ad 6, .inl (cI, 8, .inl rg))]) := hD
            refine lv_iload_n hx hb dX5_readCommand_185 rfl (lv_at hl 2 rfl) ?_
            refine lv_iconst (v := (nI 3)) hx hb dX5_readCommand_186 (by decide) ?_
            refine lv_iadd hx hb dX5_readCommand_187 ?_
            refine tpe (y := (nI (p9 + 3))) (nI_add _ _) ?_
            have hr := rc_s1 hrk hd1 (Or.inl h_4) hd2
            exact ret_i (u := ((nI 115), (nI ((sg (p9 + 1)) - 48)), (nI ((sg (p9 + 2)) - 48)))) hQ hx hb hrt hlk hS dX5_readCommand_188 hP (by rw [hr]; exact ⟨rfl, fun _ => ⟨congrArg nI h_4.symm, rfl, fun _ => by rw [rcO, if_neg (by omega)]⟩⟩)
          · have h_6 := (nI_eq (a := ((atB sg len (p9 + 2) 48 57).toNat)) (b := 0) (by first | omega | exact bits_lt31 _ | exact bitN_lt _ _ | exact bool_lt _ | exact and_lt31 _ _ _ _ | exact Nat.lt_of_le_of_lt (dst_lt _ _ _ (by omega) _) (by decide) | exact Nat.lt_of_le_of_lt (nrB_le _ _ _ (by omega)).2 (by decide) | decide) (by first | omega | exact bits_lt31 _ | exact bitN_lt _ _ | exact bool_lt _ | exact and_lt31 _ _ _ _ | exact Nat.lt_of_le_of_lt (dst_lt _ _ _ (by omega) _) (by decide) | exact Nat.lt_of_le_of_lt (nrB_le _ _ _ (by omega)).2 (by decide) | decide)).mp h_6
            have h_6 := tn_f h_6
            refine lv_bipush (v := (-3)) hx hb dX5_readCommand_165 (by decide) ?_
            refine lv_iload_n hx hb dX5_readCommand_167 rfl (lv_at hl 2 rfl) ?_
            refine lv_isub hx hb dX5_readCommand_168 ?_
            have hr := rc_s0 hrk hd1 (Or.inl h_4) h_6
            exact ret_i (u := ((nI 115), (nI ((sg (p9 + 1)) - 48)), se)) hQ hx hb hrt hlk hS dX5_readCommand_169 hP (by rw [hr]; exact ⟨rt_3, fun q => by cases q⟩)
        · have h_5 := (nI_eq (a := ((atB sg len (p9 + 1) 48 55).toNat)) (b := 0) (by first | omega | exact bits_lt31 _ | exact bitN_lt _ _ | exact bool_lt _ | exact and_lt31 _ _ _ _ | exact Nat.lt_of_le_of_lt (dst_lt _ _ _ (by omega) _) (by decide) | exact Nat.lt_of_le_of_lt (nrB_le _ _ _ (by omega)).2 (by decide) | decide) (by first | omega | exact bits_lt31 _ | exact bitN_lt _ _ | exact bool_lt _ | exact and_lt31 _ _ _ _ | exact Nat.lt_of_le_of_lt (dst_lt _ _ _ (by omega) _) (by decide) | exact Nat.lt_of_le_of_lt (nrB_le _ _ _ (by omega)).2 (by decide) | decide)).mp h_5
          have h_5 := tn_f h_5
          refine lv_bipush (v := (-2)) hx hb dX5_readCommand_113 (by decide) ?_
          refine lv_iload_n hx hb dX5_readCommand_115 rfl (lv_at hl 2 rfl) ?_
          refine lv_isub hx hb dX5_readCommand_116 ?_
          have hr := rc_d0 hrk h_5
          exact ret_i (u := ((nI 115), fi, se)) hQ hx hb hrt hlk hS dX5_readCommand_117 hP (by rw [hr]; exact ⟨rt_2, fun q => by cases q⟩)
      · have h_4 := mt (nI_eq (a := (sg p9)) (b := 115) (by first | omega | exact bits_lt31 _ | exact bitN_lt _ _ | exact bool_lt _ | exact and_lt31 _ _ _ _ | exact Nat.lt_of_le_of_lt (dst_lt _ _ _ (by omega) _) (by decide) | exact Nat.lt_of_le_of_lt (nrB_le _ _ _ (by omega)).2 (by decide) | decide) (by first | omega | exact bits_lt31 _ | exact bitN_lt _ _ | exact bool_lt _ | exact and_lt31 _ _ _ _ | exact Nat.lt_of_le_of_lt (dst_lt _ _ _ (by omega) _) (by decide) | exact Nat.lt_of_le_of_lt (nrB_le _ _ _ (by omega)).2 (by decide) | decide)).mpr h_4
        refine lv_aload_n hx hb dX5_readCommand_40 rfl (lv_at hl 0 rfl) ?_
        refine va_get (D := D) (ci := 5) (v := .int (nI (sg p9))) (C := RX5) (T := TX5) (N := 14) hx hb hts iX5 hown hK hP 0 rfl rfl 11 (by decide) f177 (fun _ h9 => h9) rfl dX5_readCommand_41 ?_
        refine lv_bipush (v := (nI 120)) hx hb dX5_readCommand_44 (by decide) ?_
        refine lv_icmp_eq (tgt := 85) hx hb dX5_readCommand_46 (by decide) (fun h_7 => ?_) (fun h_7 => ?_)
        · have h_7 := (nI_eq (a := (sg p9)) (b := 120) (by first | omega | exact bits_lt31 _ | exact bitN_lt _ _ | exact bool_lt _ | exact and_lt31 _ _ _ _ | exact Nat.lt_of_le_of_lt (dst_lt _ _ _ (by omega) _) (by decide) | exact Nat.lt_of_le_of_lt (nrB_le _ _ _ (by omega)).2 (by decide) | decide) (by first | omega | exact bits_lt31 _ | exact bitN_lt _ _ | exact bool_lt _ | exact and_lt31 _ _ _ _ | exact Nat.lt_of_le_of_lt (dst_lt _ _ _ (by omega) _) (by decide) | exact Nat.lt_of_le_of_lt (nrB_le _ _ _ (by omega)).2 (by decide) | decide)).mp h_7
          rw [h_7] at hP hD
          have hP : va_P D vwCl ([(ad 0, .inr (5, [.int th, .ref (ad 1), .ref (ad 2), .ref (ad 3), .int sv, .ref (ad 4), .int (nI len), .int vs, .ref (ad 5), .ref (ad 6), .int rl, .int (nI 120), .int fi, .int se])), (ad 1, .inl (cI, 221, .inl z)), (ad 2, .inl (cI, 221, .inl zs)), (ad 3, .inl (cI, 1768, .inl sd)), (ad 4, .inl (cI, 80, .inl tx)), (ad 5, .inl (cI, 8, .inl ds)), (ad 6, .inl (cI, 8, .inl rg))]) H := hP
          have hD : va_D A ([(ad 0, .inr (5, [.int th, .ref (ad 1), .ref (ad 2), .ref (ad 3), .int sv, .ref (ad 4), .int (nI len), .int vs, .ref (ad 5), .ref (ad 6), .int rl, .int (nI 120), .int fi, .int se])), (ad 1, .inl (cI, 221, .inl z)), (ad 2, .inl (cI, 221, .inl zs)), (ad 3, .inl (cI, 1768, .inl sd)), (ad 4, .inl (cI, 80, .inl tx)), (ad 5, .inl (cI, 8, .inl ds)), (ad 6, .inl (cI, 8, .inl rg))]) := hD
          have hrk := rkB_y (len := len) (p := p9) (by omega) h_7 (show isK 120 = true by decide)
          refine lv_iconst (v := (nI 1)) hx hb dX5_readCommand_85 (by decide) ?_
          refine lv_goto (tgt := 90) hx hb dX5_readCommand_86 (by decide) ?_
          refine lv_istore_n (lv' := [(2, .int (nI 1)), (0, .ref (ad 0)), (1, .int (nI p9))]) hx hb dX5_readCommand_90 rfl hl (by decide) rfl (fun ls hl => ?_)
          refine lv_iload_n hx hb dX5_readCommand_91 rfl (lv_at hl 0 rfl) ?_
          refine lv_if_ne (tgt := 99) hx hb dX5_readCommand_92 (by decide) (fun _ => ?_) (fun h => absurd h (by decide))
          refine lv_aload_n hx hb dX5_readCommand_99 rfl (lv_at hl 1 rfl) ?_
          refine lv_iload_n hx hb dX5_readCommand_100 rfl (lv_at hl 2 rfl) ?_
          refine lv_iconst (v := (nI 1)) hx hb dX5_readCommand_101 (by decide) ?_
          refine lv_iadd hx hb dX5_readCommand_102 ?_
          refine tpe (y := (nI (p9 + 1))) (nI_add _ _) ?_
          refine lv_bipush (v := (nI 48)) hx hb dX5_readCommand_103 (by decide) ?_
          refine lv_bipush (v := (nI 55)) hx hb dX5_readCommand_105 (by decide) ?_
          refine call_i (X := []) (Z := []) (As := [.int (nI (p9 + 1)), .int (nI 48), .int (nI 55)]) (rest := []) ⟨hx, hb, hml, hown, hts⟩ (c_X5_isAt l D cI cT ad th sv (nI len) vs rl (nI 120) fi se z zs sd tx ds rg sg len (p9 + 1) 48 55 (by omega) (by omega) (by omega) hlen htx hsg) (cwV 3 hts gX5_readCommand_X5_isAt rfl rfl rfl (by decide +kernel) ⟨Nat.le_of_ble_eq_true rfl, Nat.le_of_ble_eq_true rfl⟩) hK hP hD hS hA (va_recv hK hP (ci := 5) (q0 := 0) rfl rfl) (fun _ => rfl) rfl hl.1 rfl (Nat.le_of_ble_eq_true rfl) ⟨by decide, by decide⟩ dX5_readCommand_107 (fun rv _ H locs hp hP hD hS => ?_)
          obtain rfl := hp
          have hP : va_P D vwCl ([(ad 0, .inr (5, [.int th, .ref (ad 1), .ref (ad 2), .ref (ad 3), .int sv, .ref (ad 4), .int (nI len), .int vs, .ref (ad 5), .ref (ad 6), .int rl, .int (nI 120), .int fi, .int se])), (ad 1, .inl (cI, 221, .inl z)), (ad 2, .inl (cI, 221, .inl zs)), (ad 3, .inl (cI, 1768, .inl sd)), (ad 4, .inl (cI, 80, .inl tx)), (ad 5, .inl (cI, 8, .inl ds)), (ad 6, .inl (cI, 8, .inl rg))]) H := hP
          have hD : va_D A ([(ad 0, .inr (5, [.int th, .ref (ad 1), .ref (ad 2), .ref (ad 3), .int sv, .ref (ad 4), .int (nI len), .int vs, .ref (ad 5), .ref (ad 6), .int rl, .int (nI 120), .int fi, .int se])), (ad 1, .inl (cI, 221, .inl z)), (ad 2, .inl (cI, 221, .inl zs)), (ad 3, .inl (cI, 1768, .inl sd)), (ad 4, .inl (cI, 80, .inl tx)), (ad 5, .inl (cI, 8, .inl ds)), (ad 6, .inl (cI, 8, .inl rg))]) := hD
          refine lv_if_ne (tgt := 118) hx hb dX5_readCommand_110 (by decide) (fun h_8 => ?_) (fun h_8 => ?_)
          · have h_8 := mt (nI_eq (a := ((atB sg len (p9 + 1) 48 55).toNat)) (b := 0) (by first | omega | exact bits_lt31 _ | exact bitN_lt _ _ | exact bool_lt _ | exact and_lt31 _ _ _ _ | exact Nat.lt_of_le_of_lt (dst_lt _ _ _ (by omega) _) (by decide) | exact Nat.lt_of_le_of_lt (nrB_le _ _ _ (by omega)).2 (by decide) | decide) (by first | omega | exact bits_lt31 _ | exact bitN_lt _ _ | exact bool_lt _ | exact and_lt31 _ _ _ _ | exact Nat.lt_of_le_of_lt (dst_lt _ _ _ (by omega) _) (by decide) | exact Nat.lt_of_le_of_lt (nrB_le _ _ _ (by omega)).2 (by decide) | decide)).mpr h_8
            have h_8 := tn_y h_8
            have hd1 := h_8
            have ha1 := at_t hd1
            have hs1 := hsg (p9 + 1)
            refine lv_aload_n hx hb dX5_readCommand_118 rfl (lv_at hl 1 rfl) ?_
            refine lv_aload_n hx hb dX5_readCommand_119 rfl (lv_at hl 1 rfl) ?_
            refine va_get (D := D) (ci := 5) (v := .ref (ad 4)) (C := RX5) (T := TX5) (N := 14) hx hb hts iX5 hown hK hP 0 rfl rfl 5 (by decide) f19 (fun _ h9 => h9) rfl dX5_readCommand_120 ?_
            refine lv_iload_n hx hb dX5_readCommand_123 rfl (lv_at hl 2 rfl) ?_
            refine lv_iconst (v := (nI 1)) hx hb dX5_readCommand_124 (by decide) ?_
            refine lv_iadd hx hb dX5_readCommand_125 ?_
            refine tpe (y := (nI (p9 + 1))) (nI_add _ _) ?_
            refine r_ild (k := (p9 + 1)) hx hb hK hP 4 rfl (by omega) (by decide) dX5_readCommand_126 ?_
            refine tpe (y := nI (sg (p9 + 1))) (htx (p9 + 1) (by omega)) ?_
            refine lv_bipush (v := (nI 48)) hx hb dX5_readCommand_127 (by decide) ?_
            refine lv_isub hx hb dX5_readCommand_129 ?_
            refine tpe (y := (nI ((sg (p9 + 1)) - 48))) (pk_sub (by omega)) ?_
            refine va_put (D := D) (ci := 5) (v := .int (nI ((sg (p9 + 1)) - 48))) (ty := .int) (C := RX5) (T := TX5) (N := 14) hx hb hts iX5 tyX5 tyX5_ok nmX5 hown hK hP hD hS 0 rfl rfl 12 (by decide) f180 (fun _ h9 => h9) rfl (by decide +kernel) rfl rfl (Nat.le_of_ble_eq_true rfl) dX5_readCommand_130 (fun H locs hP hD hS => ?_)
            have hP : va_P D vwCl ([(ad 0, .inr (5, [.int th, .ref (ad 1), .ref (ad 2), .ref (ad 3), .int sv, .ref (ad 4), .int (nI len), .int vs, .ref (ad 5), .ref (ad 6), .int rl, .int (nI 120), .int (nI ((sg (p9 + 1)) - 48)), .int se])), (ad 1, .inl (cI, 221, .inl z)), (ad 2, .inl (cI, 221, .inl zs)), (ad 3, .inl (cI, 1768, .inl sd)), (ad 4, .inl (cI, 80, .inl tx)), (ad 5, .inl (cI, 8, .inl ds)), (ad 6, .inl (cI, 8, .inl rg))]) H := hP
            have hD : va_D A ([(ad 0, .inr (5, [.int th, .ref (ad 1), .ref (ad 2), .ref (ad 3), .int sv, .ref (ad 4), .int (nI len), .int vs, .ref (ad 5), .ref (ad 6), .int rl, .int (nI 120), .int (nI ((sg (p9 + 1)) - 48)), .int se])), (ad 1, .inl (cI, 221, .inl z)), (ad 2, .inl (cI, 221, .inl zs)), (ad 3, .inl (cI, 1768, .inl sd)), (ad 4, .inl (cI, 80, .inl tx)), (ad 5, .inl (cI, 8, .inl ds)), (ad 6, .inl (cI, 8, .inl rg))]) := hD
            refine lv_aload_n hx hb dX5_readCommand_133 rfl (lv_at hl 1 rfl) ?_
            refine va_get (D := D) (ci := 5) (v := .int (nI 120)) (C := RX5) (T := TX5) (N := 14) hx hb hts iX5 hown hK hP 0 rfl rfl 11 (by decide) f177 (fun _ h9 => h9) rfl dX5_readCommand_134 ?_
            refine lv_bipush (v := (nI 115)) hx hb dX5_readCommand_137 (by decide) ?_
            refine lv_icmp_eq (tgt := 151) hx hb dX5_readCommand_139 (by decide) (fun h => absurd h (by decide)) (fun _ => ?_)
            refine lv_aload_n hx hb dX5_readCommand_142 rfl (lv_at hl 1 rfl) ?_
            refine va_get (D := D) (ci := 5) (v := .int (nI 120)) (C := RX5) (T := TX5) (N := 14) hx hb hts iX5 hown hK hP 0 rfl rfl 11 (by decide) f177 (fun _ h9 => h9) rfl dX5_readCommand_143 ?_
            refine lv_bipush (v := (nI 120)) hx hb dX5_readCommand_146 (by decide) ?_
            refine lv_icmp_ne (tgt := 189) hx hb dX5_readCommand_148 (by decide) (fun h => absurd (by decide) h) (fun _ => ?_)
            refine lv_aload_n hx hb dX5_readCommand_151 rfl (lv_at hl 1 rfl) ?_
            refine lv_iload_n hx hb dX5_readCommand_152 rfl (lv_at hl 2 rfl) ?_
            refine lv_iconst (v := (nI 2)) hx hb dX5_readCommand_153 (by decide) ?_
            refine lv_iadd hx hb dX5_readCommand_154 ?_
            refine tpe (y := (nI (p9 + 2))) (nI_add _ _) ?_
            refine lv_bipush (v := (nI 48)) hx hb dX5_readCommand_155 (by decide) ?_
            refine lv_bipush (v := (nI 57)) hx hb dX5_readCommand_157 (by decide) ?_
            refine call_i (X := []) (Z := []) (As := [.int (nI (p9 + 2)), .int (nI 48), .int (nI 57)]) (rest := []) ⟨hx, hb, hml, hown, hts⟩ (c_X5_isAt l D cI cT ad th sv (nI len) vs rl (nI 120) (nI ((sg (p9 + 1)) - 48)) se z zs sd tx ds rg sg len (p9 + 2) 48 57 (by omega) (by omega) (by omega) hlen htx hsg) (cwV 3 hts gX5_readCommand_X5_isAt rfl rfl rfl (by decide +kernel) ⟨Nat.le_of_ble_eq_true rfl, Nat.le_of_ble_eq_true rfl⟩) hK hP hD hS hA (va_recv hK hP (ci := 5) (q0 := 0) rfl rfl) (fun _ => rfl) rfl hl.1 rfl (Nat.le_of_ble_eq_true rfl) ⟨by decide, by decide⟩ dX5_readCommand_159 (fun rv _ H locs hp hP hD hS => ?_)
            obtain rfl := hp
            have hP : va_P D vwCl ([(ad 0, .inr (5, [.int th, .ref (ad 1), .ref (ad 2), .ref (ad 3), .int sv, .ref (ad 4), .int (nI len), .int vs, .ref (ad 5), .ref (ad 6), .int rl, .int (nI 120), .int (nI ((sg (p9 + 1)) - 48)), .int se])), (ad 1, .inl (cI, 221, .inl z)), (ad 2, .inl (cI, 221, .inl zs)), (ad 3, .inl (cI, 1768, .inl sd)), (ad 4, .inl (cI, 80, .inl tx)), (ad 5, .inl (cI, 8, .inl ds)), (ad 6, .inl (cI, 8, .inl rg))]) H := hP
            have hD : va_D A ([(ad 0, .inr (5, [.int th, .ref (ad 1), .ref (ad 2), .ref (ad 3), .int sv, .ref (ad 4), .int (nI len), .int vs, .ref (ad 5), .ref (ad 6), .int rl, .int (nI 120), .int (nI ((sg (p9 + 1)) - 48)), .int se])), (ad 1, .inl (cI, 221, .inl z)), (ad 2, .inl (cI, 221, .inl zs)), (ad 3, .inl (cI, 1768, .inl sd)), (ad 4, .inl (cI, 80, .inl tx)), (ad 5, .inl (cI, 8, .inl ds)), (ad 6, .inl (cI, 8, .inl rg))]) := hD
            refine lv_if_ne (tgt := 170) hx hb dX5_readCommand_162 (by decide) (fun h_9 => ?_) (fun h_9 => ?_)
            · have h_9 := mt (nI_eq (a := ((atB sg len (p9 + 2) 48 57).toNat)) (b := 0) (by first | omega | exact bits_lt31 _ | exact bitN_lt _ _ | exact bool_lt _ | exact and_lt31 _ _ _ _ | exact Nat.lt_of_le_of_lt (dst_lt _ _ _ (by omega) _) (by decide) | exact Nat.lt_of_le_of_lt (nrB_le _ _ _ (by omega)).2 (by decide) | decide) (by first | omega | exact bits_lt31 _ | exact bitN_lt _ _ | exact bool_lt _ | exact and_lt31 _ _ _ _ | exact Nat.lt_of_le_of_lt (dst_lt _ _ _ (by omega) _) (by decide) | exact Nat.lt_of_le_of_lt (nrB_le _ _ _ (by omega)).2 (by decide) | decide)).mpr h_9
              have h_9 := tn_y h_9
              have hd2 := h_9
              have ha2 := at_t hd2
              have hs2 := hsg (p9 + 2)
              refine lv_aload_n hx hb dX5_readCommand_170 rfl (lv_at hl 1 rfl) ?_
              refine lv_aload_n hx hb dX5_readCommand_171 rfl (lv_at hl 1 rfl) ?_
              refine va_get (D := D) (ci := 5) (v := .ref (ad 4)) (C := RX5) (T := TX5) (N := 14) hx hb hts iX5 hown hK hP 0 rfl rfl 5 (by decide) f19 (fun _ h9 => h9) rfl dX5_readCommand_172 ?_
              refine lv_iload_n hx hb dX5_readCommand_175 rfl (lv_at hl 2 rfl) ?_
              refine lv_iconst (v := (nI 2)) hx hb dX5_readCommand_176 (by decide) ?_
              refine lv_iadd hx hb dX5_readCommand_177 ?_
              refine tpe (y := (nI (p9 + 2))) (nI_add _ _) ?_
              refine r_ild (k := (p9 + 2)) hx hb hK hP 4 rfl (by omega) (by decide) dX5_readCommand_178 ?_
              refine tpe (y := nI (sg (p9 + 2))) (htx (p9 + 2) (by omega)) ?_
              refine lv_bipush (v := (nI 48)) hx hb dX5_readCommand_179 (by decide) ?_
              refine lv_isub hx hb dX5_readCommand_181 ?_
              refine tpe (y := (nI ((sg (p9 + 2)) - 48))) (pk_sub (by omega)) ?_
              refine va_put (D := D) (ci := 5) (v := .int (nI ((sg (p9 + 2)) - 48))) (ty := .int) (C := RX5) (T := TX5) (N := 14) hx hb hts iX5 tyX5 tyX5_ok nmX5 hown hK hP hD hS 0 rfl rfl 13 (by decide) f171 (fun _ h9 => h9) rfl (by decide +kernel) rfl rfl (Nat.le_of_ble_eq_true rfl) dX5_readCommand_182 (fun H locs hP hD hS => ?_)
              have hP : va_P D vwCl ([(ad 0, .inr (5, [.int th, .ref (ad 1), .ref (ad 2), .ref (ad 3), .int sv, .ref (ad 4), .int (nI len), .int vs, .ref (ad 5), .ref (ad 6), .int rl, .int (nI 120), .int (nI ((sg (p9 + 1)) - 48)), .int (nI ((sg (p9 + 2)) - 48))])), (ad 1, .inl (cI, 221, .inl z)), (ad 2, .inl (cI, 221, .inl zs)), (ad 3, .inl (cI, 1768, .inl sd)), (ad 4, .inl (cI, 80, .inl tx)), (ad 5, .inl (cI, 8, .inl ds)), (ad 6, .inl (cI, 8, .inl rg))]) H := hP
              have hD : va_D A ([(ad 0, .inr (5, [.int th, .ref (ad 1), .ref (ad 2), .ref (ad 3), .int sv, .ref (ad 4), .int (nI len), .int vs, .ref (ad 5), .ref (ad 6), .int rl, .int (nI 120), .int (nI ((sg (p9 + 1)) - 48)), .int (nI ((sg (p9 + 2)) - 48))])), (ad 1, .inl (cI, 221, .inl z)), (ad 2, .inl (cI, 221, .inl zs)), (ad 3, .inl (cI, 1768, .inl sd)), (ad 4, .inl (cI, 80, .inl tx)), (ad 5, .inl (cI, 8, .inl ds)), (ad 6, .inl (cI, 8, .inl rg))]) := hD
              refine lv_iload_n hx hb dX5_readCommand_185 rfl (lv_at hl 2 rfl) ?_
              refine lv_iconst (v := (nI 3)) hx hb dX5_readCommand_186 (by decide) ?_
              refine lv_iadd hx hb dX5_readCommand_187 ?_
              refine tpe (y := (nI (p9 + 3))) (nI_add _ _) ?_
              have hr := rc_s1 hrk hd1 (Or.inr h_7) hd2
              exact ret_i (u := ((nI 120), (nI ((sg (p9 + 1)) - 48)), (nI ((sg (p9 + 2)) - 48)))) hQ hx hb hrt hlk hS dX5_readCommand_188 hP (by rw [hr]; exact ⟨rfl, fun _ => ⟨congrArg nI h_7.symm, rfl, fun _ => by rw [rcO, if_neg (by omega)]⟩⟩)
            · have h_9 := (nI_eq (a := ((atB sg len (p9 + 2) 48 57).toNat)) (b := 0) (by first | omega | exact bits_lt31 _ | exact bitN_lt _ _ | exact bool_lt _ | exact and_lt31 _ _ _ _ | exact Nat.lt_of_le_of_lt (dst_lt _ _ _ (by omega) _) (by decide) | exact Nat.lt_of_le_of_lt (nrB_le _ _ _ (by omega)).2 (by decide) | decide) (by first | omega | exact bits_lt31 _ | exact bitN_lt _ _ | exact bool_lt _ | exact and_lt31 _ _ _ _ | exact Nat.lt_of_le_of_lt (dst_lt _ _ _ (by omega) _) (by decide) | exact Nat.lt_of_le_of_lt (nrB_le _ _ _ (by omega)).2 (by decide) | decide)).mp h_9
              have h_9 := tn_f h_9
              refine lv_bipush (v := (-3)) hx hb dX5_readCommand_165 (by decide) ?_
              refine lv_iload_n hx hb dX5_readCommand_167 rfl (lv_at hl 2 rfl) ?_
              refine lv_isub hx hb dX5_readCommand_168 ?_
              have hr := rc_s0 hrk hd1 (Or.inr h_7) h_9
              exact ret_i (u := ((nI 120), (nI ((sg (p9 + 1)) - 48)), se)) hQ hx hb hrt hlk hS dX5_readCommand_169 hP (by rw [hr]; exact ⟨rt_3, fun q => by cases q⟩)
          · have h_8 := (nI_eq (a := ((atB sg len (p9 + 1) 48 55).toNat)) (b := 0) (by first | omega | exact bits_lt31 _ | exact bitN_lt _ _ | exact bool_lt _ | exact and_lt31 _ _ _ _ | exact Nat.lt_of_le_of_lt (dst_lt _ _ _ (by omega) _) (by decide) | exact Nat.lt_of_le_of_lt (nrB_le _ _ _ (by omega)).2 (by decide) | decide) (by first | omega | exact bits_lt31 _ | exact bitN_lt _ _ | exact bool_lt _ | exact and_lt31 _ _ _ _ | exact Nat.lt_of_le_of_lt (dst_lt _ _ _ (by omega) _) (by decide) | exact Nat.lt_of_le_of_lt (nrB_le _ _ _ (by omega)).2 (by decide) | decide)).mp h_8
            have h_8 := tn_f h_8
            refine lv_bipush (v := (-2)) hx hb dX5_readCommand_113 (by decide) ?_
            refine lv_iload_n hx hb dX5_readCommand_115 rfl (lv_at hl 2 rfl) ?_
            refine lv_isub hx hb dX5_readCommand_116 ?_
            have hr := rc_d0 hrk h_8
            exact ret_i (u := ((nI 120), fi, se)) hQ hx hb hrt hlk hS dX5_readCommand_117 hP (by rw [hr]; exact ⟨rt_2, fun q => by cases q⟩)
        · have h_7 := mt (nI_eq (a := (sg p9)) (b := 120) (by first | omega | exact bits_lt31 _ | exact bitN_lt _ _ | exact bool_lt _ | exact and_lt31 _ _ _ _ | exact Nat.lt_of_le_of_lt (dst_lt _ _ _ (by omega) _) (by decide) | exact Nat.lt_of_le_of_lt (nrB_le _ _ _ (by omega)).2 (by decide) | decide) (by first | omega | exact bits_lt31 _ | exact bitN_lt _ _ | exact bool_lt _ | exact and_lt31 _ _ _ _ | exact Nat.lt_of_le_of_lt (dst_lt _ _ _ (by omega) _) (by decide) | exact Nat.lt_of_le_of_lt (nrB_le _ _ _ (by omega)).2 (by decide) | decide)).mpr h_7
          refine lv_aload_n hx hb dX5_readCommand_49 rfl (lv_at hl 0 rfl) ?_
          refine va_get (D := D) (ci := 5) (v := .int (nI (sg p9))) (C := RX5) (T := TX5) (N := 14) hx hb hts iX5 hown hK hP 0 rfl rfl 11 (by decide) f177 (fun _ h9 => h9) rfl dX5_readCommand_50 ?_
          refine lv_bipush (v := (nI 119)) hx hb dX5_readCommand_53 (by decide) ?_
          refine lv_icmp_eq (tgt := 85) hx hb dX5_readCommand_55 (by decide) (fun h_10 => ?_) (fun h_10 => ?_)
          · have h_10 := (nI_eq (a := (sg p9)) (b := 119) (by first | omega | exact bits_lt31 _ | exact bitN_lt _ _ | exact bool_lt _ | exact and_lt31 _ _ _ _ | exact Nat.lt_of_le_of_lt (dst_lt _ _ _ (by omega) _) (by decide) | exact Nat.lt_of_le_of_lt (nrB_le _ _ _ (by omega)).2 (by decide) | decide) (by first | omega | exact bits_lt31 _ | exact bitN_lt _ _ | exact bool_lt _ | exact and_lt31 _ _ _ _ | exact Nat.lt_of_le_of_lt (dst_lt _ _ _ (by omega) _) (by decide) | exact Nat.lt_of_le_of_lt (nrB_le _ _ _ (by omega)).2 (by decide) | decide)).mp h_10
            rw [h_10] at hP hD
            have hP : va_P D vwCl ([(ad 0, .inr (5, [.int th, .ref (ad 1), .ref (ad 2), .ref (ad 3), .int sv, .ref (ad 4), .int (nI len), .int vs, .ref (ad 5), .ref (ad 6), .int rl, .int (nI 119), .int fi, .int se])), (ad 1, .inl (cI, 221, .inl z)), (ad 2, .inl (cI, 221, .inl zs)), (ad 3, .inl (cI, 1768, .inl sd)), (ad 4, .inl (cI, 80, .inl tx)), (ad 5, .inl (cI, 8, .inl ds)), (ad 6, .inl (cI, 8, .inl rg))]) H := hP
            have hD : va_D A ([(ad 0, .inr (5, [.int th, .ref (ad 1), .ref (ad 2), .ref (ad 3), .int sv, .ref (ad 4), .int (nI len), .int vs, .ref (ad 5), .ref (ad 6), .int rl, .int (nI 119), .int fi, .int se])), (ad 1, .inl (cI, 221, .inl z)), (ad 2, .inl (cI, 221, .inl zs)), (ad 3, .inl (cI, 1768, .inl sd)), (ad 4, .inl (cI, 80, .inl tx)), (ad 5, .inl (cI, 8, .inl ds)), (ad 6, .inl (cI, 8, .inl rg))]) := hD
            have hrk := rkB_y (len := len) (p := p9) (by omega) h_10 (show isK 119 = true by decide)
            refine lv_iconst (v := (nI 1)) hx hb dX5_readCommand_85 (by decide) ?_
            refine lv_goto (tgt := 90) hx hb dX5_readCommand_86 (by decide) ?_
            refine lv_istore_n (lv' := [(2, .int (nI 1)), (0, .ref (ad 0)), (1, .int (nI p9))]) hx hb dX5_readCommand_90 rfl hl (by decide) rfl (fun ls hl => ?_)
            refine lv_iload_n hx hb dX5_readCommand_91 rfl (lv_at hl 0 rfl) ?_
            refine lv_if_ne (tgt := 99) hx hb dX5_readCommand_92 (by decide) (fun _ => ?_) (fun h => absurd h (by decide))
            refine lv_aload_n hx hb dX5_readCommand_99 rfl (lv_at hl 1 rfl) ?_
            refine lv_iload_n hx hb dX5_readCommand_100 rfl (lv_at hl 2 rfl) ?_
            refine lv_iconst (v := (nI 1)) hx hb dX5_readCommand_101 (by decide) ?_
            refine lv_iadd hx hb dX5_readCommand_102 ?_
            refine tpe (y := (nI (p9 + 1))) (nI_add _ _) ?_
            refine lv_bipush (v := (nI 48)) hx hb dX5_readCommand_103 (by decide) ?_
            refine lv_bipush (v := (nI 55)) hx hb dX5_readCommand_105 (by decide) ?_
            refine call_i (X := []) (Z := []) (As := [.int (nI (p9 + 1)), .int (nI 48), .int (nI 55)]) (rest := []) ⟨hx, hb, hml, hown, hts⟩ (c_X5_isAt l D cI cT ad th sv (nI len) vs rl (nI 119) fi se z zs sd tx ds rg sg len (p9 + 1) 48 55 (by omega) (by omega) (by omega) hlen htx hsg) (cwV 3 hts gX5_readCommand_X5_isAt rfl rfl rfl (by decide +kernel) ⟨Nat.le_of_ble_eq_true rfl, Nat.le_of_ble_eq_true rfl⟩) hK hP hD hS hA (va_recv hK hP (ci := 5) (q0 := 0) rfl rfl) (fun _ => rfl) rfl hl.1 rfl (Nat.le_of_ble_eq_true rfl) ⟨by decide, by decide⟩ dX5_readCommand_107 (fun rv _ H locs hp hP hD hS => ?_)
            obtain rfl := hp
            have hP : va_P D vwCl ([(ad 0, .inr (5, [.int th, .ref (ad 1), .ref (ad 2), .ref (ad 3), .int sv, .ref (ad 4), .int (nI len), .int vs, .ref (ad 5), .ref (ad 6), .int rl, .int (nI 119), .int fi, .int se])), (ad 1, .inl (cI, 221, .inl z)), (ad 2, .inl (cI, 221, .inl zs)), (ad 3, .inl (cI, 1768, .inl sd)), (ad 4, .inl (cI, 80, .inl tx)), (ad 5, .inl (cI, 8, .inl ds)), (ad 6, .inl (cI, 8, .inl rg))]) H := hP
            have hD : va_D A ([(ad 0, .inr (5, [.int th, .ref (ad 1), .ref (ad 2), .ref (ad 3), .int sv, .ref (ad 4), .int (nI len), .int vs, .ref (ad 5), .ref (ad 6), .int rl, .int (nI 119), .int fi, .int se])), (ad 1, .inl (cI, 221, .inl z)), (ad 2, .inl (cI, 221, .inl zs)), (ad 3, .inl (cI, 1768, .inl sd)), (ad 4, .inl (cI, 80, .inl tx)), (ad 5, .inl (cI, 8, .inl ds)), (ad 6, .inl (cI, 8, .inl rg))]) := hD
            refine lv_if_ne (tgt := 118) hx hb dX5_readCommand_110 (by decide) (fun h_11 => ?_) (fun h_11 => ?_)
            · have h_11 := mt (nI_eq (a := ((atB sg len (p9 + 1) 48 55).toNat)) (b := 0) (by first | omega | exact bits_lt31 _ | exact bitN_lt _ _ | exact bool_lt _ | exact and_lt31 _ _ _ _ | exact Nat.lt_of_le_of_lt (dst_lt _ _ _ (by omega) _) (by decide) | exact Nat.lt_of_le_of_lt (nrB_le _ _ _ (by omega)).2 (by decide) | decide) (by first | omega | exact bits_lt31 _ | exact bitN_lt _ _ | exact bool_lt _ | exact and_lt31 _ _ _ _ | exact Nat.lt_of_le_of_lt (dst_lt _ _ _ (by omega) _) (by decide) | exact Nat.lt_of_le_of_lt (nrB_le _ _ _ (by omega)).2 (by decide) | decide)).mpr h_11
              have h_11 := tn_y h_11
              have hd1 := h_11
              have ha1 := at_t hd1
              have hs1 := hsg (p9 + 1)
              refine lv_aload_n hx hb dX5_readCommand_118 rfl (lv_at hl 1 rfl) ?_
              refine lv_aload_n hx hb dX5_readCommand_119 rfl (lv_at hl 1 rfl) ?_
              refine va_get (D := D) (ci := 5) (v := .ref (ad 4)) (C := RX5) (T := TX5) (N := 14) hx hb hts iX5 hown hK hP 0 rfl rfl 5 (by decide) f19 (fun _ h9 => h9) rfl dX5_readCommand_120 ?_
              refine lv_iload_n hx hb dX5_readCommand_123 rfl (lv_at hl 2 rfl) ?_
              refine lv_iconst (v := (nI 1)) hx hb dX5_readCommand_124 (by decide) ?_
              refine lv_iadd hx hb dX5_readCommand_125 ?_
              refine tpe (y := (nI (p9 + 1))) (nI_add _ _) ?_
              refine r_ild (k := (p9 + 1)) hx hb hK hP 4 rfl (by omega) (by decide) dX5_readCommand_126 ?_
              refine tpe (y := nI (sg (p9 + 1))) (htx (p9 + 1) (by omega)) ?_
              refine lv_bipush (v := (nI 48)) hx hb dX5_readCommand_127 (by decide) ?_
              refine lv_isub hx hb dX5_readCommand_129 ?_
              refine tpe (y := (nI ((sg (p9 + 1)) - 48))) (pk_sub (by omega)) ?_
              refine va_put (D := D) (ci := 5) (v := .int (nI ((sg (p9 + 1)) - 48))) (ty := .int) (C := RX5) (T := TX5) (N := 14) hx hb hts iX5 tyX5 tyX5_ok nmX5 hown hK hP hD hS 0 rfl rfl 12 (by decide) f180 (fun _ h9 => h9) rfl (by decide +kernel) rfl rfl (Nat.le_of_ble_eq_true rfl) dX5_readCommand_130 (fun H locs hP hD hS => ?_)
              have hP : va_P D vwCl ([(ad 0, .inr (5, [.int th, .ref (ad 1), .ref (ad 2), .ref (ad 3), .int sv, .ref (ad 4), .int (nI len), .int vs, .ref (ad 5), .ref (ad 6), .int rl, .int (nI 119), .int (nI ((sg (p9 + 1)) - 48)), .int se])), (ad 1, .inl (cI, 221, .inl z)), (ad 2, .inl (cI, 221, .inl zs)), (ad 3, .inl (cI, 1768, .inl sd)), (ad 4, .inl (cI, 80, .inl tx)), (ad 5, .inl (cI, 8, .inl ds)), (ad 6, .inl (cI, 8, .inl rg))]) H := hP
              have hD : va_D A ([(ad 0, .inr (5, [.int th, .ref (ad 1), .ref (ad 2), .ref (ad 3), .int sv, .ref (ad 4), .int (nI len), .int vs, .ref (ad 5), .ref (ad 6), .int rl, .int (nI 119), .int (nI ((sg (p9 + 1)) - 48)), .int se])), (ad 1, .inl (cI, 221, .inl z)), (ad 2, .inl (cI, 221, .inl zs)), (ad 3, .inl (cI, 1768, .inl sd)), (ad 4, .inl (cI, 80, .inl tx)), (ad 5, .inl (cI, 8, .inl ds)), (ad 6, .inl (cI, 8, .inl rg))]) := hD
              refine lv_aload_n hx hb dX5_readCommand_133 rfl (lv_at hl 1 rfl) ?_
              refine va_get (D := D) (ci := 5) (v := .int (nI 119)) (C := RX5) (T := TX5) (N := 14) hx hb hts iX5 hown hK hP 0 rfl rfl 11 (by decide) f177 (fun _ h9 => h9) rfl dX5_readCommand_134 ?_
              refine lv_bipush (v := (nI 115)) hx hb dX5_readCommand_137 (by decide) ?_
              refine lv_icmp_eq (tgt := 151) hx hb dX5_readCommand_139 (by decide) (fun h => absurd h (by decide)) (fun _ => ?_)
              refine lv_aload_n hx hb dX5_readCommand_142 rfl (lv_at hl 1 rfl) ?_
              refine va_get (D := D) (ci := 5) (v := .int (nI 119)) (C := RX5) (T := TX5) (N := 14) hx hb hts iX5 hown hK hP 0 rfl rfl 11 (by decide) f177 (fun _ h9 => h9) rfl dX5_readCommand_143 ?_
              refine lv_bipush (v := (nI 120)) hx hb dX5_readCommand_146 (by decide) ?_
              refine lv_icmp_ne (tgt := 189) hx hb dX5_readCommand_148 (by decide) (fun _ => ?_) (fun h => absurd h (by decide))
              refine lv_aload_n hx hb dX5_readCommand_189 rfl (lv_at hl 1 rfl) ?_
              refine va_get (D := D) (ci := 5) (v := .int (nI 119)) (C := RX5) (T := TX5) (N := 14) hx hb hts iX5 hown hK hP 0 rfl rfl 11 (by decide) f177 (fun _ h9 => h9) rfl dX5_readCommand_190 ?_
              refine lv_bipush (v := (nI 119)) hx hb dX5_readCommand_193 (by decide) ?_
              refine lv_icmp_ne (tgt := 227) hx hb dX5_readCommand_195 (by decide) (fun h => absurd (by decide) h) (fun _ => ?_)
              refine lv_aload_n hx hb dX5_readCommand_198 rfl (lv_at hl 1 rfl) ?_
              refine lv_iload_n hx hb dX5_readCommand_199 rfl (lv_at hl 2 rfl) ?_
              refine lv_iconst (v := (nI 2)) hx hb dX5_readCommand_200 (by decide) ?_
              refine lv_iadd hx hb dX5_readCommand_201 ?_
              refine tpe (y := (nI (p9 + 2))) (nI_add _ _) ?_
              refine lv_bipush (v := (nI 44)) hx hb dX5_readCommand_202 (by decide) ?_
              refine lv_bipush (v := (nI 44)) hx hb dX5_readCommand_204 (by decide) ?_
              refine call_i (X := []) (Z := []) (As := [.int (nI (p9 + 2)), .int (nI 44), .int (nI 44)]) (rest := []) ⟨hx, hb, hml, hown, hts⟩ (c_X5_isAt l D cI cT ad th sv (nI len) vs rl (nI 119) (nI ((sg (p9 + 1)) - 48)) se z zs sd tx ds rg sg len (p9 + 2) 44 44 (by omega) (by omega) (by omega) hlen htx hsg) (cwV 3 hts gX5_readCommand_X5_isAt rfl rfl rfl (by decide +kernel) ⟨Nat.le_of_ble_eq_true rfl, Nat.le_of_ble_eq_true rfl⟩) hK hP hD hS hA (va_recv hK hP (ci := 5) (q0 := 0) rfl rfl) (fun _ => rfl) rfl hl.1 rfl (Nat.le_of_ble_eq_true rfl) ⟨by decide, by decide⟩ dX5_readCommand_206 (fun rv _ H locs hp hP hD hS => ?_)
              obtain rfl := hp
              have hP : va_P D vwCl ([(ad 0, .inr (5, [.int th, .ref (ad 1), .ref (ad 2), .ref (ad 3), .int sv, .ref (ad 4), .int (nI len), .int vs, .ref (ad 5), .ref (ad 6), .int rl, .int (nI 119), .int (nI ((sg (p9 + 1)) - 48)), .int se])), (ad 1, .inl (cI, 221, .inl z)), (ad 2, .inl (cI, 221, .inl zs)), (ad 3, .inl (cI, 1768, .inl sd)), (ad 4, .inl (cI, 80, .inl tx)), (ad 5, .inl (cI, 8, .inl ds)), (ad 6, .inl (cI, 8, .inl rg))]) H := hP
              have hD : va_D A ([(ad 0, .inr (5, [.int th, .ref (ad 1), .ref (ad 2), .ref (ad 3), .int sv, .ref (ad 4), .int (nI len), .int vs, .ref (ad 5), .ref (ad 6), .int rl, .int (nI 119), .int (nI ((sg (p9 + 1)) - 48)), .int se])), (ad 1, .inl (cI, 221, .inl z)), (ad 2, .inl (cI, 221, .inl zs)), (ad 3, .inl (cI, 1768, .inl sd)), (ad 4, .inl (cI, 80, .inl tx)), (ad 5, .inl (cI, 8, .inl ds)), (ad 6, .inl (cI, 8, .inl rg))]) := hD
              refine lv_if_eq (tgt := 222) hx hb dX5_readCommand_209 (by decide) (fun h_12 => ?_) (fun h_12 => ?_)
              · have h_12 := (nI_eq (a := ((atB sg len (p9 + 2) 44 44).toNat)) (b := 0) (by first | omega | exact bits_lt31 _ | exact bitN_lt _ _ | exact bool_lt _ | exact and_lt31 _ _ _ _ | exact Nat.lt_of_le_of_lt (dst_lt _ _ _ (by omega) _) (by decide) | exact Nat.lt_of_le_of_lt (nrB_le _ _ _ (by omega)).2 (by decide) | decide) (by first | omega | exact bits_lt31 _ | exact bitN_lt _ _ | exact bool_lt _ | exact and_lt31 _ _ _ _ | exact Nat.lt_of_le_of_lt (dst_lt _ _ _ (by omega) _) (by decide) | exact Nat.lt_of_le_of_lt (nrB_le _ _ _ (by omega)).2 (by decide) | decide)).mp h_12
                have h_12 := tn_f h_12
                refine lv_bipush (v := (-3)) hx hb dX5_readCommand_222 (by decide) ?_
                refine lv_iload_n hx hb dX5_readCommand_224 rfl (lv_at hl 2 rfl) ?_
                refine lv_isub hx hb dX5_readCommand_225 ?_
                have hr := rc_w0 hrk hd1 h_10 (at_sg.symm.trans h_12)
                exact ret_i (u := ((nI 119), (nI ((sg (p9 + 1)) - 48)), se)) hQ hx hb hrt hlk hS dX5_readCommand_226 hP (by rw [hr]; exact ⟨rt_3, fun q => by cases q⟩)
              · have h_12 := mt (nI_eq (a := ((atB sg len (p9 + 2) 44 44).toNat)) (b := 0) (by first | omega | exact bits_lt31 _ | exact bitN_lt _ _ | exact bool_lt _ | exact and_lt31 _ _ _ _ | exact Nat.lt_of_le_of_lt (dst_lt _ _ _ (by omega) _) (by decide) | exact Nat.lt_of_le_of_lt (nrB_le _ _ _ (by omega)).2 (by decide) | decide) (by first | omega | exact bits_lt31 _ | exact bitN_lt _ _ | exact bool_lt _ | exact and_lt31 _ _ _ _ | exact Nat.lt_of_le_of_lt (dst_lt _ _ _ (by omega) _) (by decide) | exact Nat.lt_of_le_of_lt (nrB_le _ _ _ (by omega)).2 (by decide) | decide)).mpr h_12
                have h_12 := tn_y h_12
                refine lv_aload_n hx hb dX5_readCommand_212 rfl (lv_at hl 1 rfl) ?_
                refine lv_iload_n hx hb dX5_readCommand_213 rfl (lv_at hl 2 rfl) ?_
                refine lv_iconst (v := (nI 3)) hx hb dX5_readCommand_214 (by decide) ?_
                refine lv_iadd hx hb dX5_readCommand_215 ?_
                refine tpe (y := (nI (p9 + 3))) (nI_add _ _) ?_
                refine call_i (X := []) (Z := []) (As := [.int (nI (p9 + 3))]) (rest := []) ⟨hx, hb, hml, hown, hts⟩ (c_X5_readAmount l D cI cT ad th sv (nI len) vs rl (nI 119) (nI ((sg (p9 + 1)) - 48)) se z zs sd tx ds rg sg len (p9 + 3) (by omega) hlen htx hsg) (cwV 1 hts gX5_readCommand_X5_readAmount rfl rfl rfl (by decide +kernel) ⟨Nat.le_of_ble_eq_true rfl, Nat.le_of_ble_eq_true rfl⟩) hK hP hD hS hA (va_recv hK hP (ci := 5) (q0 := 0) rfl rfl) (fun _ => adr_ref.trans adr_ref.symm) rfl hl.1 rfl (Nat.le_of_ble_eq_true rfl) ⟨by decide, by decide⟩ dX5_readCommand_216 (fun rv _ H locs hp hP hD hS => ?_)
                obtain rfl := hp
                have hP : va_P D vwCl ([(ad 0, .inr (5, [.int th, .ref (ad 1), .ref (ad 2), .ref (ad 3), .int sv, .ref (ad 4), .int (nI len), .int vs, .ref (ad 5), .ref (ad 6), .int rl, .int (nI 119), .int (nI ((sg (p9 + 1)) - 48)), .int (nI ((amN sg len 4 (p9 + 3) 0).2))])), (ad 1, .inl (cI, 221, .inl z)), (ad 2, .inl (cI, 221, .inl zs)), (ad 3, .inl (cI, 1768, .inl sd)), (ad 4, .inl (cI, 80, .inl tx)), (ad 5, .inl (cI, 8, .inl ds)), (ad 6, .inl (cI, 8, .inl rg))]) H := hP
                have hD : va_D A ([(ad 0, .inr (5, [.int th, .ref (ad 1), .ref (ad 2), .ref (ad 3), .int sv, .ref (ad 4), .int (nI len), .int vs, .ref (ad 5), .ref (ad 6), .int rl, .int (nI 119), .int (nI ((sg (p9 + 1)) - 48)), .int (nI ((amN sg len 4 (p9 + 3) 0).2))])), (ad 1, .inl (cI, 221, .inl z)), (ad 2, .inl (cI, 221, .inl zs)), (ad 3, .inl (cI, 1768, .inl sd)), (ad 4, .inl (cI, 80, .inl tx)), (ad 5, .inl (cI, 8, .inl ds)), (ad 6, .inl (cI, 8, .inl rg))]) := hD
                refine lv_goto (tgt := 226) hx hb dX5_readCommand_219 (by decide) ?_
                have hr := rc_w1 hrk hd1 h_10 (at_sg.symm.trans h_12)
                exact ret_i (u := ((nI 119), (nI ((sg (p9 + 1)) - 48)), (nI ((amN sg len 4 (p9 + 3) 0).2)))) hQ hx hb hrt hlk hS dX5_readCommand_226 hP (by rw [hr]; exact ⟨rfl, fun _ => ⟨congrArg nI h_10.symm, rfl, fun _ => by rw [rcO, if_pos h_10]⟩⟩)
            · have h_11 := (nI_eq (a := ((atB sg len (p9 + 1) 48 55).toNat)) (b := 0) (by first | omega | exact bits_lt31 _ | exact bitN_lt _ _ | exact bool_lt _ | exact and_lt31 _ _ _ _ | exact Nat.lt_of_le_of_lt (dst_lt _ _ _ (by omega) _) (by decide) | exact Nat.lt_of_le_of_lt (nrB_le _ _ _ (by omega)).2 (by decide) | decide) (by first | omega | exact bits_lt31 _ | exact bitN_lt _ _ | exact bool_lt _ | exact and_lt31 _ _ _ _ | exact Nat.lt_of_le_of_lt (dst_lt _ _ _ (by omega) _) (by decide) | exact Nat.lt_of_le_of_lt (nrB_le _ _ _ (by omega)).2 (by decide) | decide)).mp h_11
              have h_11 := tn_f h_11
              refine lv_bipush (v := (-2)) hx hb dX5_readCommand_113 (by decide) ?_
              refine lv_iload_n hx hb dX5_readCommand_115 rfl (lv_at hl 2 rfl) ?_
              refine lv_isub hx hb dX5_readCommand_116 ?_
              have hr := rc_d0 hrk h_11
              exact ret_i (u := ((nI 119), fi, se)) hQ hx hb hrt hlk hS dX5_readCommand_117 hP (by rw [hr]; exact ⟨rt_2, fun q => by cases q⟩)
          · have h_10 := mt (nI_eq (a := (sg p9)) (b := 119) (by first | omega | exact bits_lt31 _ | exact bitN_lt _ _ | exact bool_lt _ | exact and_lt31 _ _ _ _ | exact Nat.lt_of_le_of_lt (dst_lt _ _ _ (by omega) _) (by decide) | exact Nat.lt_of_le_of_lt (nrB_le _ _ _ (by omega)).2 (by decide) | decide) (by first | omega | exact bits_lt31 _ | exact bitN_lt _ _ | exact bool_lt _ | exact and_lt31 _ _ _ _ | exact Nat.lt_of_le_of_lt (dst_lt _ _ _ (by omega) _) (by decide) | exact Nat.lt_of_le_of_lt (nrB_le _ _ _ (by omega)).2 (by decide) | decide)).mpr h_10
            refine lv_aload_n hx hb dX5_readCommand_58 rfl (lv_at hl 0 rfl) ?_
            refine va_get (D := D) (ci := 5) (v := .int (nI (sg p9))) (C := RX5) (T := TX5) (N := 14) hx hb hts iX5 hown hK hP 0 rfl rfl 11 (by decide) f177 (fun _ h9 => h9) rfl dX5_readCommand_59 ?_
            refine lv_bipush (v := (nI 99)) hx hb dX5_readCommand_62 (by decide) ?_
            refine lv_icmp_eq (tgt := 85) hx hb dX5_readCommand_64 (by decide) (fun h_13 => ?_) (fun h_13 => ?_)
            · have h_13 := (nI_eq (a := (sg p9)) (b := 99) (by first | omega | exact bits_lt31 _ | exact bitN_lt _ _ | exact bool_lt _ | exact and_lt31 _ _ _ _ | exact Nat.lt_of_le_of_lt (dst_lt _ _ _ (by omega) _) (by decide) | exact Nat.lt_of_le_of_lt (nrB_le _ _ _ (by omega)).2 (by decide) | decide) (by first | omega | exact bits_lt31 _ | exact bitN_lt _ _ | exact bool_lt _ | exact and_lt31 _ _ _ _ | exact Nat.lt_of_le_of_lt (dst_lt _ _ _ (by omega) _) (by decide) | exact Nat.lt_of_le_of_lt (nrB_le _ _ _ (by omega)).2 (by decide) | decide)).mp h_13
              rw [h_13] at hP hD
              have hP : va_P D vwCl ([(ad 0, .inr (5, [.int th, .ref (ad 1), .ref (ad 2), .ref (ad 3), .int sv, .ref (ad 4), .int (nI len), .int vs, .ref (ad 5), .ref (ad 6), .int rl, .int (nI 99), .int fi, .int se])), (ad 1, .inl (cI, 221, .inl z)), (ad 2, .inl (cI, 221, .inl zs)), (ad 3, .inl (cI, 1768, .inl sd)), (ad 4, .inl (cI, 80, .inl tx)), (ad 5, .inl (cI, 8, .inl ds)), (ad 6, .inl (cI, 8, .inl rg))]) H := hP
              have hD : va_D A ([(ad 0, .inr (5, [.int th, .ref (ad 1), .ref (ad 2), .ref (ad 3), .int sv, .ref (ad 4), .int (nI len), .int vs, .ref (ad 5), .ref (ad 6), .int rl, .int (nI 99), .int fi, .int se])), (ad 1, .inl (cI, 221, .inl z)), (ad 2, .inl (cI, 221, .inl zs)), (ad 3, .inl (cI, 1768, .inl sd)), (ad 4, .inl (cI, 80, .inl tx)), (ad 5, .inl (cI, 8, .inl ds)), (ad 6, .inl (cI, 8, .inl rg))]) := hD
              have hrk := rkB_y (len := len) (p := p9) (by omega) h_13 (show isK 99 = true by decide)
              refine lv_iconst (v := (nI 1)) hx hb dX5_readCommand_85 (by decide) ?_
              refine lv_goto (tgt := 90) hx hb dX5_readCommand_86 (by decide) ?_
              refine lv_istore_n (lv' := [(2, .int (nI 1)), (0, .ref (ad 0)), (1, .int (nI p9))]) hx hb dX5_readCommand_90 rfl hl (by decide) rfl (fun ls hl => ?_)
              refine lv_iload_n hx hb dX5_readCommand_91 rfl (lv_at hl 0 rfl) ?_
              refine lv_if_ne (tgt := 99) hx hb dX5_readCommand_92 (by decide) (fun _ => ?_) (fun h => absurd h (by decide))
              refine lv_aload_n hx hb dX5_readCommand_99 rfl (lv_at hl 1 rfl) ?_
              refine lv_iload_n hx hb dX5_readCommand_100 rfl (lv_at hl 2 rfl) ?_
              refine lv_iconst (v := (nI 1)) hx hb dX5_readCommand_101 (by decide) ?_
              refine lv_iadd hx hb dX5_readCommand_102 ?_
              refine tpe (y := (nI (p9 + 1))) (nI_add _ _) ?_
              refine lv_bipush (v := (nI 48)) hx hb dX5_readCommand_103 (by decide) ?_
              refine lv_bipush (v := (nI 55)) hx hb dX5_readCommand_105 (by decide) ?_
              refine call_i (X := []) (Z := []) (As := [.int (nI (p9 + 1)), .int (nI 48), .int (nI 55)]) (rest := []) ⟨hx, hb, hml, hown, hts⟩ (c_X5_isAt l D cI cT ad th sv (nI len) vs rl (nI 99) fi se z zs sd tx ds rg sg len (p9 + 1) 48 55 (by omega) (by omega) (by omega) hlen htx hsg) (cwV 3 hts gX5_readCommand_X5_isAt rfl rfl rfl (by decide +kernel) ⟨Nat.le_of_ble_eq_true rfl, Nat.le_of_ble_eq_true rfl⟩) hK hP hD hS hA (va_recv hK hP (ci := 5) (q0 := 0) rfl rfl) (fun _ => rfl) rfl hl.1 rfl (Nat.le_of_ble_eq_true rfl) ⟨by decide, by decide⟩ dX5_readCommand_107 (fun rv _ H locs hp hP hD hS => ?_)
              obtain rfl := hp
              have hP : va_P D vwCl ([(ad 0, .inr (5, [.int th, .ref (ad 1), .ref (ad 2), .ref (ad 3), .int sv, .ref (ad 4), .int (nI len), .int vs, .ref (ad 5), .ref (ad 6), .int rl, .int (nI 99), .int fi, .int se])), (ad 1, .inl (cI, 221, .inl z)), (ad 2, .inl (cI, 221, .inl zs)), (ad 3, .inl (cI, 1768, .inl sd)), (ad 4, .inl (cI, 80, .inl tx)), (ad 5, .inl (cI, 8, .inl ds)), (ad 6, .inl (cI, 8, .inl rg))]) H := hP
              have hD : va_D A ([(ad 0, .inr (5, [.int th, .ref (ad 1), .ref (ad 2), .ref (ad 3), .int sv, .ref (ad 4), .int (nI len), .int vs, .ref (ad 5), .ref (ad 6), .int rl, .int (nI 99), .int fi, .int se])), (ad 1, .inl (cI, 221, .inl z)), (ad 2, .inl (cI, 221, .inl zs)), (ad 3, .inl (cI, 1768, .inl sd)), (ad 4, .inl (cI, 80, .inl tx)), (ad 5, .inl (cI, 8, .inl ds)), (ad 6, .inl (cI, 8, .inl rg))]) := hD
              refine lv_if_ne (tgt := 118) hx hb dX5_readCommand_110 (by decide) (fun h_14 => ?_) (fun h_14 => ?_)
              · have h_14 := mt (nI_eq (a := ((atB sg len (p9 + 1) 48 55).toNat)) (b := 0) (by first | omega | exact bits_lt31 _ | exact bitN_lt _ _ | exact bool_lt _ | exact and_lt31 _ _ _ _ | exact Nat.lt_of_le_of_lt (dst_lt _ _ _ (by omega) _) (by decide) | exact Nat.lt_of_le_of_lt (nrB_le _ _ _ (by omega)).2 (by decide) | decide) (by first | omega | exact bits_lt31 _ | exact bitN_lt _ _ | exact bool_lt _ | exact and_lt31 _ _ _ _ | exact Nat.lt_of_le_of_lt (dst_lt _ _ _ (by omega) _) (by decide) | exact Nat.lt_of_le_of_lt (nrB_le _ _ _ (by omega)).2 (by decide) | decide)).mpr h_14
                have h_14 := tn_y h_14
                have hd1 := h_14
                have ha1 := at_t hd1
                have hs1 := hsg (p9 + 1)
                refine lv_aload_n hx hb dX5_readCommand_118 rfl (lv_at hl 1 rfl) ?_
                refine lv_aload_n hx hb dX5_readCommand_119 rfl (lv_at hl 1 rfl) ?_
                refine va_get (D := D) (ci := 5) (v := .ref (ad 4)) (C := RX5) (T := TX5) (N := 14) hx hb hts iX5 hown hK hP 0 rfl rfl 5 (by decide) f19 (fun _ h9 => h9) rfl dX5_readCommand_120 ?_
                refine lv_iload_n hx hb dX5_readCommand_123 rfl (lv_at hl 2 rfl) ?_
                refine lv_iconst (v := (nI 1)) hx hb dX5_readCommand_124 (by decide) ?_
                refine lv_iadd hx hb dX5_readCommand_125 ?_
                refine tpe (y := (nI (p9 + 1))) (nI_add _ _) ?_
                refine r_ild (k := (p9 + 1)) hx hb hK hP 4 rfl (by omega) (by decide) dX5_readCommand_126 ?_
                refine tpe (y := nI (sg (p9 + 1))) (htx (p9 + 1) (by omega)) ?_
                refine lv_bipush (v := (nI 48)) hx hb dX5_readCommand_127 (by decide) ?_
                refine lv_isub hx hb dX5_readCommand_129 ?_
                refine tpe (y := (nI ((sg (p9 + 1)) - 48))) (pk_sub (by omega)) ?_
                refine va_put (D := D) (ci := 5) (v := .int (nI ((sg (p9 + 1)) - 48))) (ty := .int) (C := RX5) (T := TX5) (N := 14) hx hb hts iX5 tyX5 tyX5_ok nmX5 hown hK hP hD hS 0 rfl rfl 12 (by decide) f180 (fun _ h9 => h9) rfl (by decide +kernel) rfl rfl (Nat.le_of_ble_eq_true rfl) dX5_readCommand_130 (fun H locs hP hD hS => ?_)
                have hP : va_P D vwCl ([(ad 0, .inr (5, [.int th, .ref (ad 1), .ref (ad 2), .ref (ad 3), .int sv, .ref (ad 4), .int (nI len), .int vs, .ref (ad 5), .ref (ad 6), .int rl, .int (nI 99), .int (nI ((sg (p9 + 1)) - 48)), .int se])), (ad 1, .inl (cI, 221, .inl z)), (ad 2, .inl (cI, 221, .inl zs)), (ad 3, .inl (cI, 1768, .inl sd)), (ad 4, .inl (cI, 80, .inl tx)), (ad 5, .inl (cI, 8, .inl ds)), (ad 6, .inl (cI, 8, .inl rg))]) H := hP
                have hD : va_D A ([(ad 0, .inr (5, [.int th, .ref (ad 1), .ref (ad 2), .ref (ad 3), .int sv, .ref (ad 4), .int (nI len), .int vs, .ref (ad 5), .ref (ad 6), .int rl, .int (nI 99), .int (nI ((sg (p9 + 1)) - 48)), .int se])), (ad 1, .inl (cI, 221, .inl z)), (ad 2, .inl (cI, 221, .inl zs)), (ad 3, .inl (cI, 1768, .inl sd)), (ad 4, .inl (cI, 80, .inl tx)), (ad 5, .inl (cI, 8, .inl ds)), (ad 6, .inl (cI, 8, .inl rg))]) := hD
                refine lv_aload_n hx hb dX5_readCommand_133 rfl (lv_at hl 1 rfl) ?_
                refine va_get (D := D) (ci := 5) (v := .int (nI 99)) (C := RX5) (T := TX5) (N := 14) hx hb hts iX5 hown hK hP 0 rfl rfl 11 (by decide) f177 (fun _ h9 => h9) rfl dX5_readCommand_134 ?_
                refine lv_bipush (v := (nI 115)) hx hb dX5_readCommand_137 (by decide) ?_
                refine lv_icmp_eq (tgt := 151) hx hb dX5_readCommand_139 (by decide) (fun h => absurd h (by decide)) (fun _ => ?_)
                refine lv_aload_n hx hb dX5_readCommand_142 rfl (lv_at hl 1 rfl) ?_
                refine va_get (D := D) (ci := 5) (v := .int (nI 99)) (C := RX5) (T := TX5) (N := 14) hx hb hts iX5 hown hK hP 0 rfl rfl 11 (by decide) f177 (fun _ h9 => h9) rfl dX5_readCommand_143 ?_
                refine lv_bipush (v := (nI 120)) hx hb dX5_readCommand_146 (by decide) ?_
                refine lv_icmp_ne (tgt := 189) hx hb dX5_readCommand_148 (by decide) (fun _ => ?_) (fun h => absurd h (by decide))
                refine lv_aload_n hx hb dX5_readCommand_189 rfl (lv_at hl 1 rfl) ?_
                refine va_get (D := D) (ci := 5) (v := .int (nI 99)) (C := RX5) (T := TX5) (N := 14) hx hb hts iX5 hown hK hP 0 rfl rfl 11 (by decide) f177 (fun _ h9 => h9) rfl dX5_readCommand_190 ?_
                refine lv_bipush (v := (nI 119)) hx hb dX5_readCommand_193 (by decide) ?_
                refine lv_icmp_ne (tgt := 227) hx hb dX5_readCommand_195 (by decide) (fun _ => ?_) (fun h => absurd h (by decide))
                refine lv_iload_n hx hb dX5_readCommand_227 rfl (lv_at hl 2 rfl) ?_
                refine lv_iconst (v := (nI 2)) hx hb dX5_readCommand_228 (by decide) ?_
                refine lv_iadd hx hb dX5_readCommand_229 ?_
                refine tpe (y := (nI (p9 + 2))) (nI_add _ _) ?_
                have hr := rc_o hrk hd1 (by omega) (by omega)
                exact ret_i (u := ((nI 99), (nI ((sg (p9 + 1)) - 48)), se)) hQ hx hb hrt hlk hS dX5_readCommand_230 hP (by rw [hr]; exact ⟨rfl, fun _ => ⟨congrArg nI h_13.symm, rfl, fun q => by omega⟩⟩)
              · have h_14 := (nI_eq (a := ((atB sg len (p9 + 1) 48 55).toNat)) (b := 0) (by first | omega | exact bits_lt31 _ | exact bitN_lt _ _ | exact bool_lt _ | exact and_lt31 _ _ _ _ | exact Nat.lt_of_le_of_lt (dst_lt _ _ _ (by omega) _) (by decide) | exact Nat.lt_of_le_of_lt (nrB_le _ _ _ (by omega)).2 (by decide) | decide) (by first | omega | exact bits_lt31 _ | exact bitN_lt _ _ | exact bool_lt _ | exact and_lt31 _ _ _ _ | exact Nat.lt_of_le_of_lt (dst_lt _ _ _ (by omega) _) (by decide) | exact Nat.lt_of_le_of_lt (nrB_le _ _ _ (by omega)).2 (by decide) | decide)).mp h_14
                have h_14 := tn_f h_14
                refine lv_bipush (v := (-2)) hx hb dX5_readCommand_113 (by decide) ?_
                refine lv_iload_n hx hb dX5_readCommand_115 rfl (lv_at hl 2 rfl) ?_
                refine lv_isub hx hb dX5_readCommand_116 ?_
                have hr := rc_d0 hrk h_14
                exact ret_i (u := ((nI 99), fi, se)) hQ hx hb hrt hlk hS dX5_readCommand_117 hP (by rw [hr]; exact ⟨rt_2, fun q => by cases q⟩)
            · have h_13 := mt (nI_eq (a := (sg p9)) (b := 99) (by first | omega | exact bits_lt31 _ | exact bitN_lt _ _ | exact bool_lt _ | exact and_lt31 _ _ _ _ | exact Nat.lt_of_le_of_lt (dst_lt _ _ _ (by omega) _) (by decide) | exact Nat.lt_of_le_of_lt (nrB_le _ _ _ (by omega)).2 (by decide) | decide) (by first | omega | exact bits_lt31 _ | exact bitN_lt _ _ | exact bool_lt _ | exact and_lt31 _ _ _ _ | exact Nat.lt_of_le_of_lt (dst_lt _ _ _ (by omega) _) (by decide) | exact Nat.lt_of_le_of_lt (nrB_le _ _ _ (by omega)).2 (by decide) | decide)).mpr h_13
              refine lv_aload_n hx hb dX5_readCommand_67 rfl (lv_at hl 0 rfl) ?_
              refine va_get (D := D) (ci := 5) (v := .int (nI (sg p9))) (C := RX5) (T := TX5) (N := 14) hx hb hts iX5 hown hK hP 0 rfl rfl 11 (by decide) f177 (fun _ h9 => h9) rfl dX5_readCommand_68 ?_
              refine lv_bipush (v := (nI 97)) hx hb dX5_readCommand_71 (by decide) ?_
              refine lv_icmp_eq (tgt := 85) hx hb dX5_readCommand_73 (by decide) (fun h_15 => ?_) (fun h_15 => ?_)
              · have h_15 := (nI_eq (a := (sg p9)) (b := 97) (by first | omega | exact bits_lt31 _ | exact bitN_lt _ _ | exact bool_lt _ | exact and_lt31 _ _ _ _ | exact Nat.lt_of_le_of_lt (dst_lt _ _ _ (by omega) _) (by decide) | exact Nat.lt_of_le_of_lt (nrB_le _ _ _ (by omega)).2 (by decide) | decide) (by first | omega | exact bits_lt31 _ | exact bitN_lt _ _ | exact bool_lt _ | exact and_lt31 _ _ _ _ | exact Nat.lt_of_le_of_lt (dst_lt _ _ _ (by omega) _) (by decide) | exact Nat.lt_of_le_of_lt (nrB_le _ _ _ (by omega)).2 (by decide) | decide)).mp h_15
                rw [h_15] at hP hD
                have hP : va_P D vwCl ([(ad 0, .inr (5, [.int th, .ref (ad 1), .ref (ad 2), .ref (ad 3), .int sv, .ref (ad 4), .int (nI len), .int vs, .ref (ad 5), .ref (ad 6), .int rl, .int (nI 97), .int fi, .int se])), (ad 1, .inl (cI, 221, .inl z)), (ad 2, .inl (cI, 221, .inl zs)), (ad 3, .inl (cI, 1768, .inl sd)), (ad 4, .inl (cI, 80, .inl tx)), (ad 5, .inl (cI, 8, .inl ds)), (ad 6, .inl (cI, 8, .inl rg))]) H := hP
                have hD : va_D A ([(ad 0, .inr (5, [.int th, .ref (ad 1), .ref (ad 2), .ref (ad 3), .int sv, .ref (ad 4), .int (nI len), .int vs, .ref (ad 5), .ref (ad 6), .int rl, .int (nI 97), .int fi, .int se])), (ad 1, .inl (cI, 221, .inl z)), (ad 2, .inl (cI, 221, .inl zs)), (ad 3, .inl (cI, 1768, .inl sd)), (ad 4, .inl (cI, 80, .inl tx)), (ad 5, .inl (cI, 8, .inl ds)), (ad 6, .inl (cI, 8, .inl rg))]) := hD
                have hrk := rkB_y (len := len) (p := p9) (by omega) h_15 (show isK 97 = true by decide)
                refine lv_iconst (v := (nI 1)) hx hb dX5_readCommand_85 (by decide) ?_
                refine lv_goto (tgt := 90) hx hb dX5_readCommand_86 (by decide) ?_
                refine lv_istore_n (lv' := [(2, .int (nI 1)), (0, .ref (ad 0)), (1, .int (nI p9))]) hx hb dX5_readCommand_90 rfl hl (by decide) rfl (fun ls hl => ?_)
                refine lv_iload_n hx hb dX5_readCommand_91 rfl (lv_at hl 0 rfl) ?_
                refine lv_if_ne (tgt := 99) hx hb dX5_readCommand_92 (by decide) (fun _ => ?_) (fun h => absurd h (by decide))
                refine lv_aload_n hx hb dX5_readCommand_99 rfl (lv_at hl 1 rfl) ?_
                refine lv_iload_n hx hb dX5_readCommand_100 rfl (lv_at hl 2 rfl) ?_
                refine lv_iconst (v := (nI 1)) hx hb dX5_readCommand_101 (by decide) ?_
                refine lv_iadd hx hb dX5_readCommand_102 ?_
                refine tpe (y := (nI (p9 + 1))) (nI_add _ _) ?_
                refine lv_bipush (v := (nI 48)) hx hb dX5_readCommand_103 (by decide) ?_
                refine lv_bipush (v := (nI 55)) hx hb dX5_readCommand_105 (by decide) ?_
                refine call_i (X := []) (Z := []) (As := [.int (nI (p9 + 1)), .int (nI 48), .int (nI 55)]) (rest := []) ⟨hx, hb, hml, hown, hts⟩ (c_X5_isAt l D cI cT ad th sv (nI len) vs rl (nI 97) fi se z zs sd tx ds rg sg len (p9 + 1) 48 55 (by omega) (by omega) (by omega) hlen htx hsg) (cwV 3 hts gX5_readCommand_X5_isAt rfl rfl rfl (by decide +kernel) ⟨Nat.le_of_ble_eq_true rfl, Nat.le_of_ble_eq_true rfl⟩) hK hP hD hS hA (va_recv hK hP (ci := 5) (q0 := 0) rfl rfl) (fun _ => rfl) rfl hl.1 rfl (Nat.le_of_ble_eq_true rfl) ⟨by decide, by decide⟩ dX5_readCommand_107 (fun rv _ H locs hp hP hD hS => ?_)
                obtain rfl := hp
                have hP : va_P D vwCl ([(ad 0, .inr (5, [.int th, .ref (ad 1), .ref (ad 2), .ref (ad 3), .int sv, .ref (ad 4), .int (nI len), .int vs, .ref (ad 5), .ref (ad 6), .int rl, .int (nI 97), .int fi, .int se])), (ad 1, .inl (cI, 221, .inl z)), (ad 2, .inl (cI, 221, .inl zs)), (ad 3, .inl (cI, 1768, .inl sd)), (ad 4, .inl (cI, 80, .inl tx)), (ad 5, .inl (cI, 8, .inl ds)), (ad 6, .inl (cI, 8, .inl rg))]) H := hP
                have hD : va_D A ([(ad 0, .inr (5, [.int th, .ref (ad 1), .ref (ad 2), .ref (ad 3), .int sv, .ref (ad 4), .int (nI len), .int vs, .ref (ad 5), .ref (ad 6), .int rl, .int (nI 97), .int fi, .int se])), (ad 1, .inl (cI, 221, .inl z)), (ad 2, .inl (cI, 221, .inl zs)), (ad 3, .inl (cI, 1768, .inl sd)), (ad 4, .inl (cI, 80, .inl tx)), (ad 5, .inl (cI, 8, .inl ds)), (ad 6, .inl (cI, 8, .inl rg))]) := hD
                refine lv_if_ne (tgt := 118) hx hb dX5_readCommand_110 (by decide) (fun h_16 => ?_) (fun h_16 => ?_)
                · have h_16 := mt (nI_eq (a := ((atB sg len (p9 + 1) 48 55).toNat)) (b := 0) (by first | omega | exact bits_lt31 _ | exact bitN_lt _ _ | exact bool_lt _ | exact and_lt31 _ _ _ _ | exact Nat.lt_of_le_of_lt (dst_lt _ _ _ (by omega) _) (by decide) | exact Nat.lt_of_le_of_lt (nrB_le _ _ _ (by omega)).2 (by decide) | decide) (by first | omega | exact bits_lt31 _ | exact bitN_lt _ _ | exact bool_lt _ | exact and_lt31 _ _ _ _ | exact Nat.lt_of_le_of_lt (dst_lt _ _ _ (by omega) _) (by decide) | exact Nat.lt_of_le_of_lt (nrB_le _ _ _ (by omega)).2 (by decide) | decide)).mpr h_16
                  have h_16 := tn_y h_16
                  have hd1 := h_16
                  have ha1 := at_t hd1
                  have hs1 := hsg (p9 + 1)
                  refine lv_aload_n hx hb dX5_readCommand_118 rfl (lv_at hl 1 rfl) ?_
                  refine lv_aload_n hx hb dX5_readCommand_119 rfl (lv_at hl 1 rfl) ?_
                  refine va_get (D := D) (ci := 5) (v := .ref (ad 4)) (C := RX5) (T := TX5) (N := 14) hx hb hts iX5 hown hK hP 0 rfl rfl 5 (by decide) f19 (fun _ h9 => h9) rfl dX5_readCommand_120 ?_
                  refine lv_iload_n hx hb dX5_readCommand_123 rfl (lv_at hl 2 rfl) ?_
                  refine lv_iconst (v := (nI 1)) hx hb dX5_readCommand_124 (by decide) ?_
                  refine lv_iadd hx hb dX5_readCommand_125 ?_
                  refine tpe (y := (nI (p9 + 1))) (nI_add _ _) ?_
                  refine r_ild (k := (p9 + 1)) hx hb hK hP 4 rfl (by omega) (by decide) dX5_readCommand_126 ?_
                  refine tpe (y := nI (sg (p9 + 1))) (htx (p9 + 1) (by omega)) ?_
                  refine lv_bipush (v := (nI 48)) hx hb dX5_readCommand_127 (by decide) ?_
                  refine lv_isub hx hb dX5_readCommand_129 ?_
                  refine tpe (y := (nI ((sg (p9 + 1)) - 48))) (pk_sub (by omega)) ?_
                  refine va_put (D := D) (ci := 5) (v := .int (nI ((sg (p9 + 1)) - 48))) (ty := .int) (C := RX5) (T := TX5) (N := 14) hx hb hts iX5 tyX5 tyX5_ok nmX5 hown hK hP hD hS 0 rfl rfl 12 (by decide) f180 (fun _ h9 => h9) rfl (by decide +kernel) rfl rfl (Nat.le_of_ble_eq_true rfl) dX5_readCommand_130 (fun H locs hP hD hS => ?_)
                  have hP : va_P D vwCl ([(ad 0, .inr (5, [.int th, .ref (ad 1), .ref (ad 2), .ref (ad 3), .int sv, .ref (ad 4), .int (nI len), .int vs, .ref (ad 5), .ref (ad 6), .int rl, .int (nI 97), .int (nI ((sg (p9 + 1)) - 48)), .int se])), (ad 1, .inl (cI, 221, .inl z)), (ad 2, .inl (cI, 221, .inl zs)), (ad 3, .inl (cI, 1768, .inl sd)), (ad 4, .inl (cI, 80, .inl tx)), (ad 5, .inl (cI, 8, .inl ds)), (ad 6, .inl (cI, 8, .inl rg))]) H := hP
                  have hD : va_D A ([(ad 0, .inr (5, [.int th, .ref (ad 1), .ref (ad 2), .ref (ad 3), .int sv, .ref (ad 4), .int (nI len), .int vs, .ref (ad 5), .ref (ad 6), .int rl, .int (nI 97), .int (nI ((sg (p9 + 1)) - 48)), .int se])), (ad 1, .inl (cI, 221, .inl z)), (ad 2, .inl (cI, 221, .inl zs)), (ad 3, .inl (cI, 1768, .inl sd)), (ad 4, .inl (cI, 80, .inl tx)), (ad 5, .inl (cI, 8, .inl ds)), (ad 6, .inl (cI, 8, .inl rg))]) := hD
                  refine lv_aload_n hx hb dX5_readCommand_133 rfl (lv_at hl 1 rfl) ?_
                  refine va_get (D := D) (ci := 5) (v := .int (nI 97)) (C := RX5) (T := TX5) (N := 14) hx hb hts iX5 hown hK hP 0 rfl rfl 11 (by decide) f177 (fun _ h9 => h9) rfl dX5_readCommand_134 ?_
                  refine lv_bipush (v := (nI 115)) hx hb dX5_readCommand_137 (by decide) ?_
                  refine lv_icmp_eq (tgt := 151) hx hb dX5_readCommand_139 (by decide) (fun h => absurd h (by decide)) (fun _ => ?_)
                  refine lv_aload_n hx hb dX5_readCommand_142 rfl (lv_at hl 1 rfl) ?_
                  refine va_get (D := D) (ci := 5) (v := .int (nI 97)) (C := RX5) (T := TX5) (N := 14) hx hb hts iX5 hown hK hP 0 rfl rfl 11 (by decide) f177 (fun _ h9 => h9) rfl dX5_readCommand_143 ?_
                  refine lv_bipush (v := (nI 120)) hx hb dX5_readCommand_146 (by decide) ?_
                  refine lv_icmp_ne (tgt := 189) hx hb dX5_readCommand_148 (by decide) (fun _ => ?_) (fun h => absurd h (by decide))
                  refine lv_aload_n hx hb dX5_readCommand_189 rfl (lv_at hl 1 rfl) ?_
                  refine va_get (D := D) (ci := 5) (v := .int (nI 97)) (C := RX5) (T := TX5) (N := 14) hx hb hts iX5 hown hK hP 0 rfl rfl 11 (by decide) f177 (fun _ h9 => h9) rfl dX5_readCommand_190 ?_
                  refine lv_bipush (v := (nI 119)) hx hb dX5_readCommand_193 (by decide) ?_
                  refine lv_icmp_ne (tgt := 227) hx hb dX5_readCommand_195 (by decide) (fun _ => ?_) (fun h => absurd h (by decide))
                  refine lv_iload_n hx hb dX5_readCommand_227 rfl (lv_at hl 2 rfl) ?_
                  refine lv_iconst (v := (nI 2)) hx hb dX5_readCommand_228 (by decide) ?_
                  refine lv_iadd hx hb dX5_readCommand_229 ?_
                  refine tpe (y := (nI (p9 + 2))) (nI_add _ _) ?_
                  have hr := rc_o hrk hd1 (by omega) (by omega)
                  exact ret_i (u := ((nI 97), (nI ((sg (p9 + 1)) - 48)), se)) hQ hx hb hrt hlk hS dX5_readCommand_230 hP (by rw [hr]; exact ⟨rfl, fun _ => ⟨congrArg nI h_15.symm, rfl, fun q => by omega⟩⟩)
                · have h_16 := (nI_eq (a := ((atB sg len (p9 + 1) 48 55).toNat)) (b := 0) (by first | omega | exact bits_lt31 _ | exact bitN_lt _ _ | exact bool_lt _ | exact and_lt31 _ _ _ _ | exact Nat.lt_of_le_of_lt (dst_lt _ _ _ (by omega) _) (by decide) | exact Nat.lt_of_le_of_lt (nrB_le _ _ _ (by omega)).2 (by decide) | decide) (by first | omega | exact bits_lt31 _ | exact bitN_lt _ _ | exact bool_lt _ | exact and_lt31 _ _ _ _ | exact Nat.lt_of_le_of_lt (dst_lt _ _ _ (by omega) _) (by decide) | exact Nat.lt_of_le_of_lt (nrB_le _ _ _ (by omega)).2 (by decide) | decide)).mp h_16
                  have h_16 := tn_f h_16
                  refine lv_bipush (v := (-2)) hx hb dX5_readCommand_113 (by decide) ?_
                  refine lv_iload_n hx hb dX5_readCommand_115 rfl (lv_at hl 2 rfl) ?_
                  refine lv_isub hx hb dX5_readCommand_116 ?_
                  have hr := rc_d0 hrk h_16
                  exact ret_i (u := ((nI 97), fi, se)) hQ hx hb hrt hlk hS dX5_readCommand_117 hP (by rw [hr]; exact ⟨rt_2, fun q => by cases q⟩)
              · have h_15 := mt (nI_eq (a := (sg p9)) (b := 97) (by first | omega | exact bits_lt31 _ | exact bitN_lt _ _ | exact bool_lt _ | exact and_lt31 _ _ _ _ | exact Nat.lt_of_le_of_lt (dst_lt _ _ _ (by omega) _) (by decide) | exact Nat.lt_of_le_of_lt (nrB_le _ _ _ (by omega)).2 (by decide) | decide) (by first | omega | exact bits_lt31 _ | exact bitN_lt _ _ | exact bool_lt _ | exact and_lt31 _ _ _ _ | exact Nat.lt_of_le_of_lt (dst_lt _ _ _ (by omega) _) (by decide) | exact Nat.lt_of_le_of_lt (nrB_le _ _ _ (by omega)).2 (by decide) | decide)).mpr h_15
                refine lv_aload_n hx hb dX5_readCommand_76 rfl (lv_at hl 0 rfl) ?_
                refine va_get (D := D) (ci := 5) (v := .int (nI (sg p9))) (C := RX5) (T := TX5) (N := 14) hx hb hts iX5 hown hK hP 0 rfl rfl 11 (by decide) f177 (fun _ h9 => h9) rfl dX5_readCommand_77 ?_
                refine lv_bipush (v := (nI 107)) hx hb dX5_readCommand_80 (by decide) ?_
                refine lv_icmp_ne (tgt := 89) hx hb dX5_readCommand_82 (by decide) (fun h_17 => ?_) (fun h_17 => ?_)
                · have h_17 := mt (nI_eq (a := (sg p9)) (b := 107) (by first | omega | exact bits_lt31 _ | exact bitN_lt _ _ | exact bool_lt _ | exact and_lt31 _ _ _ _ | exact Nat.lt_of_le_of_lt (dst_lt _ _ _ (by omega) _) (by decide) | exact Nat.lt_of_le_of_lt (nrB_le _ _ _ (by omega)).2 (by decide) | decide) (by first | omega | exact bits_lt31 _ | exact bitN_lt _ _ | exact bool_lt _ | exact and_lt31 _ _ _ _ | exact Nat.lt_of_le_of_lt (dst_lt _ _ _ (by omega) _) (by decide) | exact Nat.lt_of_le_of_lt (nrB_le _ _ _ (by omega)).2 (by decide) | decide)).mpr h_17
                  refine lv_iconst (v := (nI 0)) hx hb dX5_readCommand_89 (by decide) ?_
                  refine lv_istore_n (lv' := [(2, .int (nI 0)), (0, .ref (ad 0)), (1, .int (nI p9))]) hx hb dX5_readCommand_90 rfl hl (by decide) rfl (fun ls hl => ?_)
                  refine lv_iload_n hx hb dX5_readCommand_91 rfl (lv_at hl 0 rfl) ?_
                  refine lv_if_ne (tgt := 99) hx hb dX5_readCommand_92 (by decide) (fun h => absurd (by decide) h) (fun _ => ?_)
                  refine lv_iconst (v := (-1)) hx hb dX5_readCommand_95 (by decide) ?_
                  refine lv_iload_n hx hb dX5_readCommand_96 rfl (lv_at hl 2 rfl) ?_
                  refine lv_isub hx hb dX5_readCommand_97 ?_
                  have hr := rc_k0 (show rkB sg len p9 = false by simp [rkB, isK, h_2, h_4, h_7, h_10, h_13, h_15, h_17])
                  exact ret_i (u := ((nI (sg p9)), fi, se)) hQ hx hb hrt hlk hS dX5_readCommand_98 hP (by rw [hr]; exact ⟨rfl, fun q => by cases q⟩)
                · have h_17 := (nI_eq (a := (sg p9)) (b := 107) (by first | omega | exact bits_lt31 _ | exact bitN_lt _ _ | exact bool_lt _ | exact and_lt31 _ _ _ _ | exact Nat.lt_of_le_of_lt (dst_lt _ _ _ (by omega) _) (by decide) | exact Nat.lt_of_le_of_lt (nrB_le _ _ _ (by omega)).2 (by decide) | decide) (by first | omega | exact bits_lt31 _ | exact bitN_lt _ _ | exact bool_lt _ | exact and_lt31 _ _ _ _ | exact Nat.lt_of_le_of_lt (dst_lt _ _ _ (by omega) _) (by decide) | exact Nat.lt_of_le_of_lt (nrB_le _ _ _ (by omega)).2 (by decide) | decide)).mp h_17
                  rw [h_17] at hP hD
                  have hP : va_P D vwCl ([(ad 0, .inr (5, [.int th, .ref (ad 1), .ref (ad 2), .ref (ad 3), .int sv, .ref (ad 4), .int (nI len), .int vs, .ref (ad 5), .ref (ad 6), .int rl, .int (nI 107), .int fi, .int se])), (ad 1, .inl (cI, 221, .inl z)), (ad 2, .inl (cI, 221, .inl zs)), (ad 3, .inl (cI, 1768, .inl sd)), (ad 4, .inl (cI, 80, .inl tx)), (ad 5, .inl (cI, 8, .inl ds)), (ad 6, .inl (cI, 8, .inl rg))]) H := hP
                  have hD : va_D A ([(ad 0, .inr (5, [.int th, .ref (ad 1), .ref (ad 2), .ref (ad 3), .int sv, .ref (ad 4), .int (nI len), .int vs, .ref (ad 5), .ref (ad 6), .int rl, .int (nI 107), .int fi, .int se])), (ad 1, .inl (cI, 221, .inl z)), (ad 2, .inl (cI, 221, .inl zs)), (ad 3, .inl (cI, 1768, .inl sd)), (ad 4, .inl (cI, 80, .inl tx)), (ad 5, .inl (cI, 8, .inl ds)), (ad 6, .inl (cI, 8, .inl rg))]) := hD
                  have hrk := rkB_y (len := len) (p := p9) (by omega) h_17 (show isK 107 = true by decide)
                  refine lv_iconst (v := (nI 1)) hx hb dX5_readCommand_85 (by decide) ?_
                  refine lv_goto (tgt := 90) hx hb dX5_readCommand_86 (by decide) ?_
                  refine lv_istore_n (lv' := [(2, .int (nI 1)), (0, .ref (ad 0)), (1, .int (nI p9))]) hx hb dX5_readCommand_90 rfl hl (by decide) rfl (fun ls hl => ?_)
                  refine lv_iload_n hx hb dX5_readCommand_91 rfl (lv_at hl 0 rfl) ?_
                  refine lv_if_ne (tgt := 99) hx hb dX5_readCommand_92 (by decide) (fun _ => ?_) (fun h => absurd h (by decide))
                  refine lv_aload_n hx hb dX5_readCommand_99 rfl (lv_at hl 1 rfl) ?_
                  refine lv_iload_n hx hb dX5_readCommand_100 rfl (lv_at hl 2 rfl) ?_
                  refine lv_iconst (v := (nI 1)) hx hb dX5_readCommand_101 (by decide) ?_
                  refine lv_iadd hx hb dX5_readCommand_102 ?_
                  refine tpe (y := (nI (p9 + 1))) (nI_add _ _) ?_
                  refine lv_bipush (v := (nI 48)) hx hb dX5_readCommand_103 (by decide) ?_
                  refine lv_bipush (v := (nI 55)) hx hb dX5_readCommand_105 (by decide) ?_
                  refine call_i (X := []) (Z := []) (As := [.int (nI (p9 + 1)), .int (nI 48), .int (nI 55)]) (rest := []) ⟨hx, hb, hml, hown, hts⟩ (c_X5_isAt l D cI cT ad th sv (nI len) vs rl (nI 107) fi se z zs sd tx ds rg sg len (p9 + 1) 48 55 (by omega) (by omega) (by omega) hlen htx hsg) (cwV 3 hts gX5_readCommand_X5_isAt rfl rfl rfl (by decide +kernel) ⟨Nat.le_of_ble_eq_true rfl, Nat.le_of_ble_eq_true rfl⟩) hK hP hD hS hA (va_recv hK hP (ci := 5) (q0 := 0) rfl rfl) (fun _ => rfl) rfl hl.1 rfl (Nat.le_of_ble_eq_true rfl) ⟨by decide, by decide⟩ dX5_readCommand_107 (fun rv _ H locs hp hP hD hS => ?_)
                  obtain rfl := hp
                  have hP : va_P D vwCl ([(ad 0, .inr (5, [.int th, .ref (ad 1), .ref (ad 2), .ref (ad 3), .int sv, .ref (ad 4), .int (nI len), .int vs, .ref (ad 5), .ref (ad 6), .int rl, .int (nI 107), .int fi, .int se])), (ad 1, .inl (cI, 221, .inl z)), (ad 2, .inl (cI, 221, .inl zs)), (ad 3, .inl (cI, 1768, .inl sd)), (ad 4, .inl (cI, 80, .inl tx)), (ad 5, .inl (cI, 8, .inl ds)), (ad 6, .inl (cI, 8, .inl rg))]) H := hP
                  have hD : va_D A ([(ad 0, .inr (5, [.int th, .ref (ad 1), .ref (ad 2), .ref (ad 3), .int sv, .ref (ad 4), .int (nI len), .int vs, .ref (ad 5), .ref (ad 6), .int rl, .int (nI 107), .int fi, .int se])), (ad 1, .inl (cI, 221, .inl z)), (ad 2, .inl (cI, 221, .inl zs)), (ad 3, .inl (cI, 1768, .inl sd)), (ad 4, .inl (cI, 80, .inl tx)), (ad 5, .inl (cI, 8, .inl ds)), (ad 6, .inl (cI, 8, .inl rg))]) := hD
                  refine lv_if_ne (tgt := 118) hx hb dX5_readCommand_110 (by decide) (fun h_18 => ?_) (fun h_18 => ?_)
                  · have h_18 := mt (nI_eq (a := ((atB sg len (p9 + 1) 48 55).toNat)) (b := 0) (by first | omega | exact bits_lt31 _ | exact bitN_lt _ _ | exact bool_lt _ | exact and_lt31 _ _ _ _ | exact Nat.lt_of_le_of_lt (dst_lt _ _ _ (by omega) _) (by decide) | exact Nat.lt_of_le_of_lt (nrB_le _ _ _ (by omega)).2 (by decide) | decide) (by first | omega | exact bits_lt31 _ | exact bitN_lt _ _ | exact bool_lt _ | exact and_lt31 _ _ _ _ | exact Nat.lt_of_le_of_lt (dst_lt _ _ _ (by omega) _) (by decide) | exact Nat.lt_of_le_of_lt (nrB_le _ _ _ (by omega)).2 (by decide) | decide)).mpr h_18
                    have h_18 := tn_y h_18
                    have hd1 := h_18
                    have ha1 := at_t hd1
                    have hs1 := hsg (p9 + 1)
                    refine lv_aload_n hx hb dX5_readCommand_118 rfl (lv_at hl 1 rfl) ?_
                    refine lv_aload_n hx hb dX5_readCommand_119 rfl (lv_at hl 1 rfl) ?_
                    refine va_get (D := D) (ci := 5) (v := .ref (ad 4)) (C := RX5) (T := TX5) (N := 14) hx hb hts iX5 hown hK hP 0 rfl rfl 5 (by decide) f19 (fun _ h9 => h9) rfl dX5_readCommand_120 ?_
                    refine lv_iload_n hx hb dX5_readCommand_123 rfl (lv_at hl 2 rfl) ?_
                    refine lv_iconst (v := (nI 1)) hx hb dX5_readCommand_124 (by decide) ?_
                    refine lv_iadd hx hb dX5_readCommand_125 ?_
                    refine tpe (y := (nI (p9 + 1))) (nI_add _ _) ?_
                    refine r_ild (k := (p9 + 1)) hx hb hK hP 4 rfl (by omega) (by decide) dX5_readCommand_126 ?_
                    refine tpe (y := nI (sg (p9 + 1))) (htx (p9 + 1) (by omega)) ?_
                    refine lv_bipush (v := (nI 48)) hx hb dX5_readCommand_127 (by decide) ?_
                    refine lv_isub hx hb dX5_readCommand_129 ?_
                    refine tpe (y := (nI ((sg (p9 + 1)) - 48))) (pk_sub (by omega)) ?_
                    refine va_put (D := D) (ci := 5) (v := .int (nI ((sg (p9 + 1)) - 48))) (ty := .int) (C := RX5) (T := TX5) (N := 14) hx hb hts iX5 tyX5 tyX5_ok nmX5 hown hK hP hD hS 0 rfl rfl 12 (by decide) f180 (fun _ h9 => h9) rfl (by decide +kernel) rfl rfl (Nat.le_of_ble_eq_true rfl) dX5_readCommand_130 (fun H locs hP hD hS => ?_)
                    have hP : va_P D vwCl ([(ad 0, .inr (5, [.int th, .ref (ad 1), .ref (ad 2), .ref (ad 3), .int sv, .ref (ad 4), .int (nI len), .int vs, .ref (ad 5), .ref (ad 6), .int rl, .int (nI 107), .int (nI ((sg (p9 + 1)) - 48)), .int se])), (ad 1, .inl (cI, 221, .inl z)), (ad 2, .inl (cI, 221, .inl zs)), (ad 3, .inl (cI, 1768, .inl sd)), (ad 4, .inl (cI, 80, .inl tx)), (ad 5, .inl (cI, 8, .inl ds)), (ad 6, .inl (cI, 8, .inl rg))]) H := hP
                    have hD : va_D A ([(ad 0, .inr (5, [.int th, .ref (ad 1), .ref (ad 2), .ref (ad 3), .int sv, .ref (ad 4), .int (nI len), .int vs, .ref (ad 5), .ref (ad 6), .int rl, .int (nI 107), .int (nI ((sg (p9 + 1)) - 48)), .int se])), (ad 1, .inl (cI, 221, .inl z)), (ad 2, .inl (cI, 221, .inl zs)), (ad 3, .inl (cI, 1768, .inl sd)), (ad 4, .inl (cI, 80, .inl tx)), (ad 5, .inl (cI, 8, .inl ds)), (ad 6, .inl (cI, 8, .inl rg))]) := hD
                    refine lv_aload_n hx hb dX5_readCommand_133 rfl (lv_at hl 1 rfl) ?_
                    refine va_get (D := D) (ci := 5) (v := .int (nI 107)) (C := RX5) (T := TX5) (N := 14) hx hb hts iX5 hown hK hP 0 rfl rfl 11 (by decide) f177 (fun _ h9 => h9) rfl dX5_readCommand_134 ?_
                    refine lv_bipush (v := (nI 115)) hx hb dX5_readCommand_137 (by decide) ?_
                    refine lv_icmp_eq (tgt := 151) hx hb dX5_readCommand_139 (by decide) (fun h => absurd h (by decide)) (fun _ => ?_)
                    refine lv_aload_n hx hb dX5_readCommand_142 rfl (lv_at hl 1 rfl) ?_
                    refine va_get (D := D) (ci := 5) (v := .int (nI 107)) (C := RX5) (T := TX5) (N := 14) hx hb hts iX5 hown hK hP 0 rfl rfl 11 (by decide) f177 (fun _ h9 => h9) rfl dX5_readCommand_143 ?_
                    refine lv_bipush (v := (nI 120)) hx hb dX5_readCommand_146 (by decide) ?_
                    refine lv_icmp_ne (tgt := 189) hx hb dX5_readCommand_148 (by decide) (fun _ => ?_) (fun h => absurd h (by decide))
                    refine lv_aload_n hx hb dX5_readCommand_189 rfl (lv_at hl 1 rfl) ?_
                    refine va_get (D := D) (ci := 5) (v := .int (nI 107)) (C := RX5) (T := TX5) (N := 14) hx hb hts iX5 hown hK hP 0 rfl rfl 11 (by decide) f177 (fun _ h9 => h9) rfl dX5_readCommand_190 ?_
                    refine lv_bipush (v := (nI 119)) hx hb dX5_readCommand_193 (by decide) ?_
                    refine lv_icmp_ne (tgt := 227) hx hb dX5_readCommand_195 (by decide) (fun _ => ?_) (fun h => absurd h (by decide))
                    refine lv_iload_n hx hb dX5_readCommand_227 rfl (lv_at hl 2 rfl) ?_
                    refine lv_iconst (v := (nI 2)) hx hb dX5_readCommand_228 (by decide) ?_
                    refine lv_iadd hx hb dX5_readCommand_229 ?_
                    refine tpe (y := (nI (p9 + 2))) (nI_add _ _) ?_
                    have hr := rc_o hrk hd1 (by omega) (by omega)
                    exact ret_i (u := ((nI 107), (nI ((sg (p9 + 1)) - 48)), se)) hQ hx hb hrt hlk hS dX5_readCommand_230 hP (by rw [hr]; exact ⟨rfl, fun _ => ⟨congrArg nI h_17.symm, rfl, fun q => by omega⟩⟩)
                  · have h_18 := (nI_eq (a := ((atB sg len (p9 + 1) 48 55).toNat)) (b := 0) (by first | omega | exact bits_lt31 _ | exact bitN_lt _ _ | exact bool_lt _ | exact and_lt31 _ _ _ _ | exact Nat.lt_of_le_of_lt (dst_lt _ _ _ (by omega) _) (by decide) | exact Nat.lt_of_le_of_lt (nrB_le _ _ _ (by omega)).2 (by decide) | decide) (by first | omega | exact bits_lt31 _ | exact bitN_lt _ _ | exact bool_lt _ | exact and_lt31 _ _ _ _ | exact Nat.lt_of_le_of_lt (dst_lt _ _ _ (by omega) _) (by decide) | exact Nat.lt_of_le_of_lt (nrB_le _ _ _ (by omega)).2 (by decide) | decide)).mp h_18
                    have h_18 := tn_f h_18
                    refine lv_bipush (v := (-2)) hx hb dX5_readCommand_113 (by decide) ?_
                    refine lv_iload_n hx hb dX5_readCommand_115 rfl (lv_at hl 2 rfl) ?_
                    refine lv_isub hx hb dX5_readCommand_116 ?_
                    have hr := rc_d0 hrk h_18
                    exact ret_i (u := ((nI 107), fi, se)) hQ hx hb hrt hlk hS dX5_readCommand_117 hP (by rw [hr]; exact ⟨rt_2, fun q => by cases q⟩)

abbrev rX5_findError : Room := { frames := 4, cells := 0, slots := 0, locals := 89 }
set_option maxHeartbeats 1000000 in
set_option maxRecDepth 100000 in
theorem c_X5_findError (l : Launch) (D : va_G) (cI cT : ClassId) (ad : Nat → Nat) (th sv ln vs rl cm fi se : Int32) (z zs sd tx ds rg : Nat → Int32) (sg : Nat → Nat) (len : Nat) (hlen : len ≤ 80) (htx : ∀ i, i < len → tx i = nI (sg i)) (hsg : ∀ z, sg z < 128) : CN l D cI cT yX5_findError wsX5_findError rX5_findError [.ref (ad 0)] (refW cI ad th sv (nI len) vs rl cm fi se z zs sd tx ds rg) (S := Int32 × Int32 × Int32) (fun v _ => v = oI (feN sg len 80 0)) (fun u => refW cI ad th sv (nI len) vs rl u.1 u.2.1 u.2.2 z zs sd tx ds rg) := by
  refine CN.of (cc := cX5_findError) (maxL := 2) (ret := (some .int)) (by decide) rfl (Nat.le_of_ble_eq_true rfl) ?_
  intro p e s m args below meth c A Q hQ B hA H locs hP hK hD hS ls hl
  obtain ⟨hx, hb, hml, hrt, hts, hown, hlk⟩ := B
  have hP : va_P D vwCl ([(ad 0, .inr (5, [.int th, .ref (ad 1), .ref (ad 2), .ref (ad 3), .int sv, .ref (ad 4), .int (nI len), .int vs, .ref (ad 5), .ref (ad 6), .int rl, .int cm, .int fi, .int se])), (ad 1, .inl (cI, 221, .inl z)), (ad 2, .inl (cI, 221, .inl zs)), (ad 3, .inl (cI, 1768, .inl sd)), (ad 4, .inl (cI, 80, .inl tx)), (ad 5, .inl (cI, 8, .inl ds)), (ad 6, .inl (cI, 8, .inl rg))]) H := hP
  have hD : va_D A ([(ad 0, .inr (5, [.int th, .ref (ad 1), .ref (ad 2), .ref (ad 3), .int sv, .ref (ad 4), .int (nI len), .int vs, .ref (ad 5), .ref (ad 6), .int rl, .int cm, .int fi, .int se])), (ad 1, .inl (cI, 221, .inl z)), (ad 2, .inl (cI, 221, .inl zs)), (ad 3, .inl (cI, 1768, .inl sd)), (ad 4, .inl (cI, 80, .inl tx)), (ad 5, .inl (cI, 8, .inl ds)), (ad 6, .inl (cI, 8, .inl rg))]) := hD
  have hl : lv_has ls 2 [(0, .ref (ad 0))] := hl
  have iX5 : ∀ w ∈ u_ws RX5 TX5 14, w ∈ wsX5_findError := by decide +kernel
  have f168 := hts (.fieldLink RX5 168 "LockManagerModel" "length" "I") (by decide +kernel)
  have f19 := hts (.fieldLink RX5 19 "LockManagerModel" "text" "[I") (by decide +kernel)
  refine lv_iconst (v := (nI 0)) hx hb dX5_findError_0 (by decide) ?_
  refine lv_istore_n (lv' := [(1, .int (nI 0)), (0, .ref (ad 0))]) hx hb dX5_findError_1 rfl hl (by decide) rfl (fun ls hl => ?_)
  have L2 : ∀ (N : Nat) (k : Nat) (p9 : Nat) (xc : Int32) (xf : Int32) (xs : Int32), (feI sg len k p9) → (3 * k ≤ p9) → (p9 ≤ len) → (90 - k) < N → ∀ (H : Heap) (locs : List Loc), va_P D vwCl ([(ad 0, .inr (5, [.int th, .ref (ad 1), .ref (ad 2), .ref (ad 3), .int sv, .ref (ad 4), .int (nI len), .int vs, .ref (ad 5), .ref (ad 6), .int rl, .int xc, .int xf, .int xs])), (ad 1, .inl (cI, 221, .inl z)), (ad 2, .inl (cI, 221, .inl zs)), (ad 3, .inl (cI, 1768, .inl sd)), (ad 4, .inl (cI, 80, .inl tx)), (ad 5, .inl (cI, 8, .inl ds)), (ad 6, .inl (cI, 8, .inl rg))]) H → va_D A ([(ad 0, .inr (5, [.int th, .ref (ad 1), .ref (ad 2), .ref (ad 3), .int sv, .ref (ad 4), .int (nI len), .int vs, .ref (ad 5), .ref (ad 6), .int rl, .int xc, .int xf, .int xs])), (ad 1, .inl (cI, 221, .inl z)), (ad 2, .inl (cI, 221, .inl zs)), (ad 3, .inl (cI, 1768, .inl sd)), (ad 4, .inl (cI, 80, .inl tx)), (ad 5, .inl (cI, 8, .inl ds)), (ad 6, .inl (cI, 8, .inl rg))]) → va_S A s.heap H locs → ∀ ls : Array Slot, lv_has ls 2 [(0, .ref (ad 0)), (1, .int (nI p9))] → W p l e rX5_findError s m args below meth c H locs 0 0 Q (F0 m 2 ls []) := by
    intro N2
    induction N2 with
    | zero => intro k p9 xc xf xs hI hkp hpl hN; exact absurd hN (Nat.not_lt_zero _)
    | succ N2 ih2 =>
      intro k p9 xc xf xs hI hkp hpl hN H locs hP hD hS ls hl
      refine lv_aload_n hx hb dX5_findError_2 rfl (lv_at hl 0 rfl) ?_
      refine lv_iload_n hx hb dX5_findError_3 rfl (lv_at hl 1 rfl) ?_
      refine call_i (X := []) (Z := []) (As := [.int (nI p9)]) (rest := []) ⟨hx, hb, hml, hown, hts⟩ (c_X5_readCommand l D cI cT ad th sv (nI len) vs rl xc xf xs z zs sd tx ds rg sg len p9 (by omega) hlen htx hsg) (cwV 1 hts gX5_findError_X5_readCommand rfl rfl rfl (by decide +kernel) ⟨Nat.le_of_ble_eq_true rfl, Nat.le_of_ble_eq_true rfl⟩) hK hP hD hS hA (va_recv hK hP (ci := 5) (q0 := 0) rfl rfl) (fun _ => adr_ref.trans adr_ref.symm) rfl hl.1 rfl (Nat.le_of_ble_eq_true rfl) ⟨by decide, by decide⟩ dX5_findError_4 (fun rv u44 H locs hp hP hD hS => ?_)
      obtain ⟨rfl, hrc44⟩ := hp
      have hP : va_P D vwCl ([(ad 0, .inr (5, [.int th, .ref (ad 1), .ref (ad 2), .ref (ad 3), .int sv, .ref (ad 4), .int (nI len), .int vs, .ref (ad 5), .ref (ad 6), .int rl, .int u44.1, .int u44.2.1, .int u44.2.2])), (ad 1, .inl (cI, 221, .inl z)), (ad 2, .inl (cI, 221, .inl zs)), (ad 3, .inl (cI, 1768, .inl sd)), (ad 4, .inl (cI, 80, .inl tx)), (ad 5, .inl (cI, 8, .inl ds)), (ad 6, .inl (cI, 8, .inl rg))]) H := hP
      have hD : va_D A ([(ad 0, .inr (5, [.int th, .ref (ad 1), .ref (ad 2), .ref (ad 3), .int sv, .ref (ad 4), .int (nI len), .int vs, .ref (ad 5), .ref (ad 6), .int rl, .int u44.1, .int u44.2.1, .int u44.2.2])), (ad 1, .inl (cI, 221, .inl z)), (ad 2, .inl (cI, 221, .inl zs)), (ad 3, .inl (cI, 1768, .inl sd)), (ad 4, .inl (cI, 80, .inl tx)), (ad 5, .inl (cI, 8, .inl ds)), (ad 6, .inl (cI, 8, .inl rg))]) := hD
      refine lv_istore_n (lv' := [(1, .int (rtI (rcR sg len p9).1 (rcR sg len p9).2)), (0, .ref (ad 0))]) hx hb dX5_findError_7 rfl hl (by decide) rfl (fun ls hl => ?_)
      have hle := rc_le (sg := sg) hpl
      obtain ⟨q9, hq9⟩ : ∃ q, q = (rcR sg len p9).2 := ⟨_, rfl⟩
      rw [← hq9] at hl hle
      rcases hb9 : (rcR sg len p9).1
      · rw [hb9, rt_f] at hl
        refine lv_iload_n hx hb dX5_findError_8 rfl (lv_at hl 0 rfl) ?_
        refine lv_if_ge (tgt := 16) hx hb dX5_findError_9 (by decide) (fun h_1 => absurd h_1 (rt_neg (by omega))) (fun h_1 => ?_)
        have h_1 := h_1
        refine lv_iconst (v := (-1)) hx hb dX5_findError_12 (by decide) ?_
        refine lv_iload_n hx hb dX5_findError_13 rfl (lv_at hl 0 rfl) ?_
        refine lv_isub hx hb dX5_findError_14 ?_
        exact ret_i (u := (u44.1, u44.2.1, u44.2.2)) hQ hx hb hrt hlk hS dX5_findError_15 hP (by rw [fe_e1 (by omega) hI hb9, ← hq9]; exact rt_back)
      · rw [hb9, rt_t] at hl
        have hle2 := hle.2.2 hb9
        have hsq := hsg q9
        refine lv_iload_n hx hb dX5_findError_8 rfl (lv_at hl 0 rfl) ?_
        refine lv_if_ge (tgt := 16) hx hb dX5_findError_9 (by decide) (fun h_2 => ?_) (fun h_2 => absurd (nI_pos' (by omega)) h_2)
        have h_2 := (nI_leI (a := 0) (b := q9) (by first | omega | exact bits_lt31 _ | exact bitN_lt _ _ | exact bool_lt _ | exact and_lt31 _ _ _ _ | exact Nat.lt_of_le_of_lt (dst_lt _ _ _ (by omega) _) (by decide) | exact Nat.lt_of_le_of_lt (nrB_le _ _ _ (by omega)).2 (by decide) | decide) (by first | omega | exact bits_lt31 _ | exact bitN_lt _ _ | exact bool_lt _ | exact and_lt31 _ _ _ _ | exact Nat.lt_of_le_of_lt (dst_lt _ _ _ (by omega) _) (by decide) | exact Nat.lt_of_le_of_lt (nrB_le _ _ _ (by omega)).2 (by decide) | decide)).mp h_2
        refine lv_iload_n hx hb dX5_findError_16 rfl (lv_at hl 0 rfl) ?_
        refine lv_aload_n hx hb dX5_findError_17 rfl (lv_at hl 1 rfl) ?_
        refine va_get (D := D) (ci := 5) (v := .int (nI len)) (C := RX5) (T := TX5) (N := 14) hx hb hts iX5 hown hK hP 0 rfl rfl 6 (by decide) f168 (fun _ h9 => h9) rfl dX5_findError_18 ?_
        refine lv_icmp_ne (tgt := 26) hx hb dX5_findError_21 (by decide) (fun h_3 => ?_) (fun h_3 => ?_)
        · have h_3 := mt (nI_eq (a := q9) (b := len) (by first | omega | exact bits_lt31 _ | exact bitN_lt _ _ | exact bool_lt _ | exact and_lt31 _ _ _ _ | exact Nat.lt_of_le_of_lt (dst_lt _ _ _ (by omega) _) (by decide) | exact Nat.lt_of_le_of_lt (nrB_le _ _ _ (by omega)).2 (by decide) | decide) (by first | omega | exact bits_lt31 _ | exact bitN_lt _ _ | exact bool_lt _ | exact and_lt31 _ _ _ _ | exact Nat.lt_of_le_of_lt (dst_lt _ _ _ (by omega) _) (by decide) | exact Nat.lt_of_le_of_lt (nrB_le _ _ _ (by omega)).2 (by decide) | decide)).mpr h_3
          refine lv_aload_n hx hb dX5_findError_26 rfl (lv_at hl 1 rfl) ?_
          refine va_get (D := D) (ci := 5) (v := .ref (ad 4)) (C := RX5) (T := TX5) (N := 14) hx hb hts iX5 hown hK hP 0 rfl rfl 5 (by decide) f19 (fun _ h9 => h9) rfl dX5_findError_27 ?_
          refine lv_iload_n hx hb dX5_findError_30 rfl (lv_at hl 0 rfl) ?_
          refine r_ild (k := q9) hx hb hK hP 4 rfl (by omega) (by decide) dX5_findError_31 ?_
          refine tpe (y := nI (sg q9)) (htx q9 (by omega)) ?_
          refine lv_bipush (v := (nI 59)) hx hb dX5_findError_32 (by decide) ?_
          refine lv_icmp_eq (tgt := 39) hx hb dX5_findError_34 (by decide) (fun h_4 => ?_) (fun h_4 => ?_)
          · have h_4 := (nI_eq (a := (sg q9)) (b := 59) (by first | omega | exact bits_lt31 _ | exact bitN_lt _ _ | exact bool_lt _ | exact and_lt31 _ _ _ _ | exact Nat.lt_of_le_of_lt (dst_lt _ _ _ (by omega) _) (by decide) | exact Nat.lt_of_le_of_lt (nrB_le _ _ _ (by omega)).2 (by decide) | decide) (by first | omega | exact bits_lt31 _ | exact bitN_lt _ _ | exact bool_lt _ | exact and_lt31 _ _ _ _ | exact Nat.lt_of_le_of_lt (dst_lt _ _ _ (by omega) _) (by decide) | exact Nat.lt_of_le_of_lt (nrB_le _ _ _ (by omega)).2 (by decide) | decide)).mp h_4
            refine lv_iinc (v := (nI (q9 + 1))) (lv' := [(1, .int (nI (q9 + 1))), (0, .ref (ad 0))]) hx hb dX5_findError_39 hl (k := 0) rfl (nI_add _ 1) (by decide) rfl (fun ls hl => ?_)
            refine lv_goto (tgt := 2) hx hb dX5_findError_42 (by decide) ?_
            exact ih2 (k + 1) (q9 + 1) u44.1 u44.2.1 u44.2.2 (by rw [hq9]; exact fe_s (by omega) hI hb9 (by omega) (by rw [← hq9, sgB]; exact decide_eq_true ⟨by omega, h_4⟩)) (by omega) (by omega) (by omega) _ _ hP hD hS _ (lv_sub hl [1, 0] rfl)
          · have h_4 := mt (nI_eq (a := (sg q9)) (b := 59) (by first | omega | exact bits_lt31 _ | exact bitN_lt _ _ | exact bool_lt _ | exact and_lt31 _ _ _ _ | exact Nat.lt_of_le_of_lt (dst_lt _ _ _ (by omega) _) (by decide) | exact Nat.lt_of_le_of_lt (nrB_le _ _ _ (by omega)).2 (by decide) | decide) (by first | omega | exact bits_lt31 _ | exact bitN_lt _ _ | exact bool_lt _ | exact and_lt31 _ _ _ _ | exact Nat.lt_of_le_of_lt (dst_lt _ _ _ (by omega) _) (by decide) | exact Nat.lt_of_le_of_lt (nrB_le _ _ _ (by omega)).2 (by decide) | decide)).mpr h_4
            refine lv_iload_n hx hb dX5_findError_37 rfl (lv_at hl 0 rfl) ?_
            exact ret_i (u := (u44.1, u44.2.1, u44.2.2)) hQ hx hb hrt hlk hS dX5_findError_38 hP (by rw [fe_e3 (by omega) hI hb9 (by omega) (by rw [← hq9, sgB]; exact decide_eq_false (fun q => h_4 q.2)), ← hq9]; rfl)
        · have h_3 := (nI_eq (a := q9) (b := len) (by first | omega | exact bits_lt31 _ | exact bitN_lt _ _ | exact bool_lt _ | exact and_lt31 _ _ _ _ | exact Nat.lt_of_le_of_lt (dst_lt _ _ _ (by omega) _) (by decide) | exact Nat.lt_of_le_of_lt (nrB_le _ _ _ (by omega)).2 (by decide) | decide) (by first | omega | exact bits_lt31 _ | exact bitN_lt _ _ | exact bool_lt _ | exact and_lt31 _ _ _ _ | exact Nat.lt_of_le_of_lt (dst_lt _ _ _ (by omega) _) (by decide) | exact Nat.lt_of_le_of_lt (nrB_le _ _ _ (by omega)).2 (by decide) | decide)).mp h_3
          refine lv_iconst (v := (-1)) hx hb dX5_findError_24 (by decide) ?_
          exact ret_i (u := (u44.1, u44.2.1, u44.2.2)) hQ hx hb hrt hlk hS dX5_findError_25 hP (by rw [fe_e2 (by omega) hI hb9 (by rw [← hq9]; exact h_3)]; rfl)
  exact L2 _ 0 0 cm fi se feI_0 (by omega) (Nat.zero_le _) (Nat.lt_succ_self _) _ _ hP hD hS _ (lv_sub hl [1, 0] rfl)

abbrev rX5_whyNoCommand : Room := { frames := 3, cells := 0, slots := 0, locals := 66 }
set_option maxHeartbeats 1000000 in
set_option maxRecDepth 100000 in
theorem c_X5_whyNoCommand (l : Launch) (D : va_G) (cI cT : ClassId) (ad : Nat → Nat) (th sv ln vs rl cm fi se : Int32) (z zs sd tx ds rg : Nat → Int32) (F : FF) (Q0 : QQ) (k9 t9 x9 : Nat) (xi : Int32) (hk : isK k9 = true) (ht9 : t9 < 8) (hxi : k9 = 115 ∨ k9 = 119 ∨ k9 = 120 → xi = nI x9) (hx9 : k9 = 115 ∨ k9 = 120 → x9 < 10) (hxw : k9 = 119 → 1 ≤ x9 ∧ x9 ≤ 1000) (hZ : RZ F Q0 z) : CN l D cI cT yX5_whyNoCommand wsX5_whyNoCommand rX5_whyNoCommand [.ref (ad 0)] (refW cI ad th sv ln vs rl (nI k9) (nI t9) xi z zs sd tx ds rg) (S := Nat) (fun v u => v = nI u ∧ u ≤ 3 ∧ (u = 0 ↔ alB F k9 t9 = true)) (fun _ => refW cI ad th sv ln vs rl (nI k9) (nI t9) xi z zs sd tx ds rg) := by
  refine CN.of (cc := cX5_whyNoCommand) (maxL := 1) (ret := (some .int)) (by decide) rfl (Nat.le_of_ble_eq_true rfl) ?_
  intro p e s m args below meth c A Q hQ B hA H locs hP hK hD hS ls hl
  obtain ⟨hx, hb, hml, hrt, hts, hown, hlk⟩ := B
  have hP : va_P D vwCl ([(ad 0, .inr (5, [.int th, .ref (ad 1), .ref (ad 2), .ref (ad 3), .int sv, .ref (ad 4), .int ln, .int vs, .ref (ad 5), .ref (ad 6), .int rl, .int (nI k9), .int (nI t9), .int xi])), (ad 1, .inl (cI, 221, .inl z)), (ad 2, .inl (cI, 221, .inl zs)), (ad 3, .inl (cI, 1768, .inl sd)), (ad 4, .inl (cI, 80, .inl tx)), (ad 5, .inl (cI, 8, .inl ds)), (ad 6, .inl (cI, 8, .inl rg))]) H := hP
  have hD : va_D A ([(ad 0, .inr (5, [.int th, .ref (ad 1), .ref (ad 2), .ref (ad 3), .int sv, .ref (ad 4), .int ln, .int vs, .ref (ad 5), .ref (ad 6), .int rl, .int (nI k9), .int (nI t9), .int xi])), (ad 1, .inl (cI, 221, .inl z)), (ad 2, .inl (cI, 221, .inl zs)), (ad 3, .inl (cI, 1768, .inl sd)), (ad 4, .inl (cI, 80, .inl tx)), (ad 5, .inl (cI, 8, .inl ds)), (ad 6, .inl (cI, 8, .inl rg))]) := hD
  have hl : lv_has ls 1 [(0, .ref (ad 0))] := hl
  have iX5 : ∀ w ∈ u_ws RX5 TX5 14, w ∈ wsX5_whyNoCommand := by decide +kernel
  have f177 := hts (.fieldLink RX5 177 "LockManagerModel" "command" "I") (by decide +kernel)
  have f180 := hts (.fieldLink RX5 180 "LockManagerModel" "first" "I") (by decide +kernel)
  have f171 := hts (.fieldLink RX5 171 "LockManagerModel" "second" "I") (by decide +kernel)
  refine lv_aload_n hx hb dX5_whyNoCommand_0 rfl (lv_at hl 0 rfl) ?_
  refine va_get (D := D) (ci := 5) (v := .int (nI k9)) (C := RX5) (T := TX5) (N := 14) hx hb hts iX5 hown hK hP 0 rfl rfl 11 (by decide) f177 (fun _ h9 => h9) rfl dX5_whyNoCommand_1 ?_
  rcases (isK_or hk) with rfl | rfl | rfl | rfl | rfl | rfl | rfl
  · refine lv_lookup (off := 119) (tgt := 123) hx hb dX5_whyNoCommand_4 (by decide) (by decide +kernel) (by decide) ?_
    have hP : va_P D vwCl ([(ad 0, .inr (5, [.int th, .ref (ad 1), .ref (ad 2), .ref (ad 3), .int sv, .ref (ad 4), .int ln, .int vs, .ref (ad 5), .ref (ad 6), .int rl, .int (nI 97), .int (nI t9), .int xi])), (ad 1, .inl (cI, 221, .inl z)), (ad 2, .inl (cI, 221, .inl zs)), (ad 3, .inl (cI, 1768, .inl sd)), (ad 4, .inl (cI, 80, .inl tx)), (ad 5, .inl (cI, 8, .inl ds)), (ad 6, .inl (cI, 8, .inl rg))]) H := hP
    have hD : va_D A ([(ad 0, .inr (5, [.int th, .ref (ad 1), .ref (ad 2), .ref (ad 3), .int sv, .ref (ad 4), .int ln, .int vs, .ref (ad 5), .ref (ad 6), .int rl, .int (nI 97), .int (nI t9), .int xi])), (ad 1, .inl (cI, 221, .inl z)), (ad 2, .inl (cI, 221, .inl zs)), (ad 3, .inl (cI, 1768, .inl sd)), (ad 4, .inl (cI, 80, .inl tx)), (ad 5, .inl (cI, 8, .inl ds)), (ad 6, .inl (cI, 8, .inl rg))]) := hD
    refine lv_aload_n hx hb dX5_whyNoCommand_123 rfl (lv_at hl 0 rfl) ?_
    refine lv_aload_n hx hb dX5_whyNoCommand_124 rfl (lv_at hl 0 rfl) ?_
    refine va_get (D := D) (ci := 5) (v := .int (nI t9)) (C := RX5) (T := TX5) (N := 14) hx hb hts iX5 hown hK hP 0 rfl rfl 12 (by decide) f180 (fun _ h9 => h9) rfl dX5_whyNoCommand_125 ?_
    refine call_i (X := []) (Z := []) (As := [.int (nI t9)]) (rest := []) ⟨hx, hb, hml, hown, hts⟩ (c_X5_whyNoRollBack l D cI cT ad th sv ln vs rl (nI 97) (nI t9) xi z zs sd tx ds rg F Q0 (nI t9) hZ) (cwV 1 hts gX5_whyNoCommand_X5_whyNoRollBack rfl rfl rfl (by decide +kernel) ⟨Nat.le_of_ble_eq_true rfl, Nat.le_of_ble_eq_true rfl⟩) hK hP hD hS hA (va_recv hK hP (ci := 5) (q0 := 0) rfl rfl) (fun _ => rfl) rfl hl.1 rfl (Nat.le_of_ble_eq_true rfl) ⟨by decide, by decide⟩ dX5_whyNoCommand_128 (fun rv _ H locs hp hP hD hS => ?_)
    obtain rfl := hp
    have hP : va_P D vwCl ([(ad 0, .inr (5, [.int th, .ref (ad 1), .ref (ad 2), .ref (ad 3), .int sv, .ref (ad 4), .int ln, .int vs, .ref (ad 5), .ref (ad 6), .int rl, .int (nI 97), .int (nI t9), .int xi])), (ad 1, .inl (cI, 221, .inl z)), (ad 2, .inl (cI, 221, .inl zs)), (ad 3, .inl (cI, 1768, .inl sd)), (ad 4, .inl (cI, 80, .inl tx)), (ad 5, .inl (cI, 8, .inl ds)), (ad 6, .inl (cI, 8, .inl rg))]) H := hP
    have hD : va_D A ([(ad 0, .inr (5, [.int th, .ref (ad 1), .ref (ad 2), .ref (ad 3), .int sv, .ref (ad 4), .int ln, .int vs, .ref (ad 5), .ref (ad 6), .int rl, .int (nI 97), .int (nI t9), .int xi])), (ad 1, .inl (cI, 221, .inl z)), (ad 2, .inl (cI, 221, .inl zs)), (ad 3, .inl (cI, 1768, .inl sd)), (ad 4, .inl (cI, 80, .inl tx)), (ad 5, .inl (cI, 8, .inl ds)), (ad 6, .inl (cI, 8, .inl rg))]) := hD
    have hw3 : wA F (nI t9) ≤ 3 := wA_le
    exact ret_i (u := wA F (nI t9)) hQ hx hb hrt hlk hS dX5_whyNoCommand_131 (by first | exact hP | (rw [hx0]; exact hP)) ⟨rfl, hw3, wc_A ht9⟩
  · refine lv_lookup (off := 60) (tgt := 64) hx hb dX5_whyNoCommand_4 (by decide) (by decide +kernel) (by decide) ?_
    have hP : va_P D vwCl ([(ad 0, .inr (5, [.int th, .ref (ad 1), .ref (ad 2), .ref (ad 3), .int sv, .ref (ad 4), .int ln, .int vs, .ref (ad 5), .ref (ad 6), .int rl, .int (nI 98), .int (nI t9), .int xi])), (ad 1, .inl (cI, 221, .inl z)), (ad 2, .inl (cI, 221, .inl zs)), (ad 3, .inl (cI, 1768, .inl sd)), (ad 4, .inl (cI, 80, .inl tx)), (ad 5, .inl (cI, 8, .inl ds)), (ad 6, .inl (cI, 8, .inl rg))]) H := hP
    have hD : va_D A ([(ad 0, .inr (5, [.int th, .ref (ad 1), .ref (ad 2), .ref (ad 3), .int sv, .ref (ad 4), .int ln, .int vs, .ref (ad 5), .ref (ad 6), .int rl, .int (nI 98), .int (nI t9), .int xi])), (ad 1, .inl (cI, 221, .inl z)), (ad 2, .inl (cI, 221, .inl zs)), (ad 3, .inl (cI, 1768, .inl sd)), (ad 4, .inl (cI, 80, .inl tx)), (ad 5, .inl (cI, 8, .inl ds)), (ad 6, .inl (cI, 8, .inl rg))]) := hD
    refine lv_aload_n hx hb dX5_whyNoCommand_64 rfl (lv_at hl 0 rfl) ?_
    refine lv_aload_n hx hb dX5_whyNoCommand_65 rfl (lv_at hl 0 rfl) ?_
    refine va_get (D := D) (ci := 5) (v := .int (nI t9)) (C := RX5) (T := TX5) (N := 14) hx hb hts iX5 hown hK hP 0 rfl rfl 12 (by decide) f180 (fun _ h9 => h9) rfl dX5_whyNoCommand_66 ?_
    refine call_i (X := []) (Z := []) (As := [.int (nI t9)]) (rest := []) ⟨hx, hb, hml, hown, hts⟩ (c_X5_whyNoBegin l D cI cT ad th sv ln vs rl (nI 98) (nI t9) xi z zs sd tx ds rg F Q0 (nI t9) hZ) (cwV 1 hts gX5_whyNoCommand_X5_whyNoBegin rfl rfl rfl (by decide +kernel) ⟨Nat.le_of_ble_eq_true rfl, Nat.le_of_ble_eq_true rfl⟩) hK hP hD hS hA (va_recv hK hP (ci := 5) (q0 := 0) rfl rfl) (fun _ => rfl) rfl hl.1 rfl (Nat.le_of_ble_eq_true rfl) ⟨by decide, by decide⟩ dX5_whyNoCommand_69 (fun rv _ H locs hp hP hD hS => ?_)
    obtain rfl := hp
    have hP : va_P D vwCl ([(ad 0, .inr (5, [.int th, .ref (ad 1), .ref (ad 2), .ref (ad 3), .int sv, .ref (ad 4), .int ln, .int vs, .ref (ad 5), .ref (ad 6), .int rl, .int (nI 98), .int (nI t9), .int xi])), (ad 1, .inl (cI, 221, .inl z)), (ad 2, .inl (cI, 221, .inl zs)), (ad 3, .inl (cI, 1768, .inl sd)), (ad 4, .inl (cI, 80, .inl tx)), (ad 5, .inl (cI, 8, .inl ds)), (ad 6, .inl (cI, 8, .inl rg))]) H := hP
    have hD : va_D A ([(ad 0, .inr (5, [.int th, .ref (ad 1), .ref (ad 2), .ref (ad 3), .int sv, .ref (ad 4), .int ln, .int vs, .ref (ad 5), .ref (ad 6), .int rl, .int (nI 98), .int (nI t9), .int xi])), (ad 1, .inl (cI, 221, .inl z)), (ad 2, .inl (cI, 221, .inl zs)), (ad 3, .inl (cI, 1768, .inl sd)), (ad 4, .inl (cI, 80, .inl tx)), (ad 5, .inl (cI, 8, .inl ds)), (ad 6, .inl (cI, 8, .inl rg))]) := hD
    have hw3 : wB F (nI t9) ≤ 3 := wB_le
    exact ret_i (u := wB F (nI t9)) hQ hx hb hrt hlk hS dX5_whyNoCommand_72 (by first | exact hP | (rw [hx0]; exact hP)) ⟨rfl, hw3, wc_B ht9⟩
  · refine lv_lookup (off := 110) (tgt := 114) hx hb dX5_whyNoCommand_4 (by decide) (by decide +kernel) (by decide) ?_
    have hP : va_P D vwCl ([(ad 0, .inr (5, [.int th, .ref (ad 1), .ref (ad 2), .ref (ad 3), .int sv, .ref (ad 4), .int ln, .int vs, .ref (ad 5), .ref (ad 6), .int rl, .int (nI 99), .int (nI t9), .int xi])), (ad 1, .inl (cI, 221, .inl z)), (ad 2, .inl (cI, 221, .inl zs)), (ad 3, .inl (cI, 1768, .inl sd)), (ad 4, .inl (cI, 80, .inl tx)), (ad 5, .inl (cI, 8, .inl ds)), (ad 6, .inl (cI, 8, .inl rg))]) H := hP
    have hD : va_D A ([(ad 0, .inr (5, [.int th, .ref (ad 1), .ref (ad 2), .ref (ad 3), .int sv, .ref (ad 4), .int ln, .int vs, .ref (ad 5), .ref (ad 6), .int rl, .int (nI 99), .int (nI t9), .int xi])), (ad 1, .inl (cI, 221, .inl z)), (ad 2, .inl (cI, 221, .inl zs)), (ad 3, .inl (cI, 1768, .inl sd)), (ad 4, .inl (cI, 80, .inl tx)), (ad 5, .inl (cI, 8, .inl ds)), (ad 6, .inl (cI, 8, .inl rg))]) := hD
    refine lv_aload_n hx hb dX5_whyNoCommand_114 rfl (lv_at hl 0 rfl) ?_
    refine lv_aload_n hx hb dX5_whyNoCommand_115 rfl (lv_at hl 0 rfl) ?_
    refine va_get (D := D) (ci := 5) (v := .int (nI t9)) (C := RX5) (T := TX5) (N := 14) hx hb hts iX5 hown hK hP 0 rfl rfl 12 (by decide) f180 (fun _ h9 => h9) rfl dX5_whyNoCommand_116 ?_
    refine call_i (X := []) (Z := []) (As := [.int (nI t9)]) (rest := []) ⟨hx, hb, hml, hown, hts⟩ (c_X5_whyNoCommit l D cI cT ad th sv ln vs rl (nI 99) (nI t9) xi z zs sd tx ds rg F Q0 (nI t9) hZ) (cwV 1 hts gX5_whyNoCommand_X5_whyNoCommit rfl rfl rfl (by decide +kernel) ⟨Nat.le_of_ble_eq_true rfl, Nat.le_of_ble_eq_true rfl⟩) hK hP hD hS hA (va_recv hK hP (ci := 5) (q0 := 0) rfl rfl) (fun _ => rfl) rfl hl.1 rfl (Nat.le_of_ble_eq_true rfl) ⟨by decide, by decide⟩ dX5_whyNoCommand_119 (fun rv _ H locs hp hP hD hS => ?_)
    obtain rfl := hp
    have hP : va_P D vwCl ([(ad 0, .inr (5, [.int th, .ref (ad 1), .ref (ad 2), .ref (ad 3), .int sv, .ref (ad 4), .int ln, .int vs, .ref (ad 5), .ref (ad 6), .int rl, .int (nI 99), .int (nI t9), .int xi])), (ad 1, .inl (cI, 221, .inl z)), (ad 2, .inl (cI, 221, .inl zs)), (ad 3, .inl (cI, 1768, .inl sd)), (ad 4, .inl (cI, 80, .inl tx)), (ad 5, .inl (cI, 8, .inl ds)), (ad 6, .inl (cI, 8, .inl rg))]) H := hP
    have hD : va_D A ([(ad 0, .inr (5, [.int th, .ref (ad 1), .ref (ad 2), .ref (ad 3), .int sv, .ref (ad 4), .int ln, .int vs, .ref (ad 5), .ref (ad 6), .int rl, .int (nI 99), .int (nI t9), .int xi])), (ad 1, .inl (cI, 221, .inl z)), (ad 2, .inl (cI, 221, .inl zs)), (ad 3, .inl (cI, 1768, .inl sd)), (ad 4, .inl (cI, 80, .inl tx)), (ad 5, .inl (cI, 8, .inl ds)), (ad 6, .inl (cI, 8, .inl rg))]) := hD
    have hw3 : wC F (nI t9) ≤ 3 := wC_le
    exact ret_i (u := wC F (nI t9)) hQ hx hb hrt hlk hS dX5_whyNoCommand_122 (by first | exact hP | (rw [hx0]; exact hP)) ⟨rfl, hw3, wc_C ht9⟩
  · refine lv_lookup (off := 128) (tgt := 132) hx hb dX5_whyNoCommand_4 (by decide) (by decide +kernel) (by decide) ?_
    have hP : va_P D vwCl ([(ad 0, .inr (5, [.int th, .ref (ad 1), .ref (ad 2), .ref (ad 3), .int sv, .ref (ad 4), .int ln, .int vs, .ref (ad 5), .ref (ad 6), .int rl, .int (nI 107), .int (nI t9), .int xi])), (ad 1, .inl (cI, 221, .inl z)), (ad 2, .inl (cI, 221, .inl zs)), (ad 3, .inl (cI, 1768, .inl sd)), (ad 4, .inl (cI, 80, .inl tx)), (ad 5, .inl (cI, 8, .inl ds)), (ad 6, .inl (cI, 8, .inl rg))]) H := hP
    have hD : va_D A ([(ad 0, .inr (5, [.int th, .ref (ad 1), .ref (ad 2), .ref (ad 3), .int sv, .ref (ad 4), .int ln, .int vs, .ref (ad 5), .ref (ad 6), .int rl, .int (nI 107), .int (nI t9), .int xi])), (ad 1, .inl (cI, 221, .inl z)), (ad 2, .inl (cI, 221, .inl zs)), (ad 3, .inl (cI, 1768, .inl sd)), (ad 4, .inl (cI, 80, .inl tx)), (ad 5, .inl (cI, 8, .inl ds)), (ad 6, .inl (cI, 8, .inl rg))]) := hD
    refine lv_aload_n hx hb dX5_whyNoCommand_132 rfl (lv_at hl 0 rfl) ?_
    refine lv_aload_n hx hb dX5_whyNoCommand_133 rfl (lv_at hl 0 rfl) ?_
    refine va_get (D := D) (ci := 5) (v := .int (nI t9)) (C := RX5) (T := TX5) (N := 14) hx hb hts iX5 hown hK hP 0 rfl rfl 12 (by decide) f180 (fun _ h9 => h9) rfl dX5_whyNoCommand_134 ?_
    refine call_i (X := []) (Z := []) (As := [.int (nI t9)]) (rest := []) ⟨hx, hb, hml, hown, hts⟩ (c_X5_whyNoWithdraw l D cI cT ad th sv ln vs rl (nI 107) (nI t9) xi z zs sd tx ds rg F Q0 (nI t9) hZ) (cwV 1 hts gX5_whyNoCommand_X5_whyNoWithdraw rfl rfl rfl (by decide +kernel) ⟨Nat.le_of_ble_eq_true rfl, Nat.le_of_ble_eq_true rfl⟩) hK hP hD hS hA (va_recv hK hP (ci := 5) (q0 := 0) rfl rfl) (fun _ => rfl) rfl hl.1 rfl (Nat.le_of_ble_eq_true rfl) ⟨by decide, by decide⟩ dX5_whyNoCommand_137 (fun rv _ H locs hp hP hD hS => ?_)
    obtain rfl := hp
    have hP : va_P D vwCl ([(ad 0, .inr (5, [.int th, .ref (ad 1), .ref (ad 2), .ref (ad 3), .int sv, .ref (ad 4), .int ln, .int vs, .ref (ad 5), .ref (ad 6), .int rl, .int (nI 107), .int (nI t9), .int xi])), (ad 1, .inl (cI, 221, .inl z)), (ad 2, .inl (cI, 221, .inl zs)), (ad 3, .inl (cI, 1768, .inl sd)), (ad 4, .inl (cI, 80, .inl tx)), (ad 5, .inl (cI, 8, .inl ds)), (ad 6, .inl (cI, 8, .inl rg))]) H := hP
    have hD : va_D A ([(ad 0, .inr (5, [.int th, .ref (ad 1), .ref (ad 2), .ref (ad 3), .int sv, .ref (ad 4), .int ln, .int vs, .ref (ad 5), .ref (ad 6), .int rl, .int (nI 107), .int (nI t9), .int xi])), (ad 1, .inl (cI, 221, .inl z)), (ad 2, .inl (cI, 221, .inl zs)), (ad 3, .inl (cI, 1768, .inl sd)), (ad 4, .inl (cI, 80, .inl tx)), (ad 5, .inl (cI, 8, .inl ds)), (ad 6, .inl (cI, 8, .inl rg))]) := hD
    have hw3 : wD F (nI t9) ≤ 3 := wD_le
    exact ret_i (u := wD F (nI t9)) hQ hx hb hrt hlk hS dX5_whyNoCommand_140 (by first | exact hP | (rw [hx0]; exact hP)) ⟨rfl, hw3, wc_D ht9⟩
  · refine lv_lookup (off := 69) (tgt := 73) hx hb dX5_whyNoCommand_4 (by decide) (by decide +kernel) (by decide) ?_
    have hP : va_P D vwCl ([(ad 0, .inr (5, [.int th, .ref (ad 1), .ref (ad 2), .ref (ad 3), .int sv, .ref (ad 4), .int ln, .int vs, .ref (ad 5), .ref (ad 6), .int rl, .int (nI 115), .int (nI t9), .int xi])), (ad 1, .inl (cI, 221, .inl z)), (ad 2, .inl (cI, 221, .inl zs)), (ad 3, .inl (cI, 1768, .inl sd)), (ad 4, .inl (cI, 80, .inl tx)), (ad 5, .inl (cI, 8, .inl ds)), (ad 6, .inl (cI, 8, .inl rg))]) H := hP
    have hD : va_D A ([(ad 0, .inr (5, [.int th, .ref (ad 1), .ref (ad 2), .ref (ad 3), .int sv, .ref (ad 4), .int ln, .int vs, .ref (ad 5), .ref (ad 6), .int rl, .int (nI 115), .int (nI t9), .int xi])), (ad 1, .inl (cI, 221, .inl z)), (ad 2, .inl (cI, 221, .inl zs)), (ad 3, .inl (cI, 1768, .inl sd)), (ad 4, .inl (cI, 80, .inl tx)), (ad 5, .inl (cI, 8, .inl ds)), (ad 6, .inl (cI, 8, .inl rg))]) := hD
    have hx0 := hxi (by decide)
    rw [hx0] at hP hD
    have hP : va_P D vwCl ([(ad 0, .inr (5, [.int th, .ref (ad 1), .ref (ad 2), .ref (ad 3), .int sv, .ref (ad 4), .int ln, .int vs, .ref (ad 5), .ref (ad 6), .int rl, .int (nI 115), .int (nI t9), .int (nI x9)])), (ad 1, .inl (cI, 221, .inl z)), (ad 2, .inl (cI, 221, .inl zs)), (ad 3, .inl (cI, 1768, .inl sd)), (ad 4, .inl (cI, 80, .inl tx)), (ad 5, .inl (cI, 8, .inl ds)), (ad 6, .inl (cI, 8, .inl rg))]) H := hP
    have hD : va_D A ([(ad 0, .inr (5, [.int th, .ref (ad 1), .ref (ad 2), .ref (ad 3), .int sv, .ref (ad 4), .int ln, .int vs, .ref (ad 5), .ref (ad 6), .int rl, .int (nI 115), .int (nI t9), .int (nI x9)])), (ad 1, .inl (cI, 221, .inl z)), (ad 2, .inl (cI, 221, .inl zs)), (ad 3, .inl (cI, 1768, .inl sd)), (ad 4, .inl (cI, 80, .inl tx)), (ad 5, .inl (cI, 8, .inl ds)), (ad 6, .inl (cI, 8, .inl rg))]) := hD
    refine lv_aload_n hx hb dX5_whyNoCommand_73 rfl (lv_at hl 0 rfl) ?_
    refine lv_aload_n hx hb dX5_whyNoCommand_74 rfl (lv_at hl 0 rfl) ?_
    refine va_get (D := D) (ci := 5) (v := .int (nI t9)) (C := RX5) (T := TX5) (N := 14) hx hb hts iX5 hown hK hP 0 rfl rfl 12 (by decide) f180 (fun _ h9 => h9) rfl dX5_whyNoCommand_75 ?_
    refine lv_aload_n hx hb dX5_whyNoCommand_78 rfl (lv_at hl 0 rfl) ?_
    refine va_get (D := D) (ci := 5) (v := .int (nI x9)) (C := RX5) (T := TX5) (N := 14) hx hb hts iX5 hown hK hP 0 rfl rfl 13 (by decide) f171 (fun _ h9 => h9) rfl dX5_whyNoCommand_79 ?_
    refine lv_iconst (v := (nI 1)) hx hb dX5_whyNoCommand_82 (by decide) ?_
    refine call_i (X := []) (Z := []) (As := [.int (nI t9), .int (nI x9), .int (nI 1)]) (rest := []) ⟨hx, hb, hml, hown, hts⟩ (c_X5_whyNoRequest l D cI cT ad th sv ln vs rl (nI 115) (nI t9) (nI x9) z zs sd tx ds rg F Q0 (nI t9) (nI x9) (nI 1) hZ) (cwV 3 hts gX5_whyNoCommand_X5_whyNoRequest rfl rfl rfl (by decide +kernel) ⟨Nat.le_of_ble_eq_true rfl, Nat.le_of_ble_eq_true rfl⟩) hK hP hD hS hA (va_recv hK hP (ci := 5) (q0 := 0) rfl rfl) (fun _ => rfl) rfl hl.1 rfl (Nat.le_of_ble_eq_true rfl) ⟨by decide, by decide⟩ dX5_whyNoCommand_83 (fun rv _ H locs hp hP hD hS => ?_)
    obtain rfl := hp
    have hP : va_P D vwCl ([(ad 0, .inr (5, [.int th, .ref (ad 1), .ref (ad 2), .ref (ad 3), .int sv, .ref (ad 4), .int ln, .int vs, .ref (ad 5), .ref (ad 6), .int rl, .int (nI 115), .int (nI t9), .int (nI x9)])), (ad 1, .inl (cI, 221, .inl z)), (ad 2, .inl (cI, 221, .inl zs)), (ad 3, .inl (cI, 1768, .inl sd)), (ad 4, .inl (cI, 80, .inl tx)), (ad 5, .inl (cI, 8, .inl ds)), (ad 6, .inl (cI, 8, .inl rg))]) H := hP
    have hD : va_D A ([(ad 0, .inr (5, [.int th, .ref (ad 1), .ref (ad 2), .ref (ad 3), .int sv, .ref (ad 4), .int ln, .int vs, .ref (ad 5), .ref (ad 6), .int rl, .int (nI 115), .int (nI t9), .int (nI x9)])), (ad 1, .inl (cI, 221, .inl z)), (ad 2, .inl (cI, 221, .inl zs)), (ad 3, .inl (cI, 1768, .inl sd)), (ad 4, .inl (cI, 80, .inl tx)), (ad 5, .inl (cI, 8, .inl ds)), (ad 6, .inl (cI, 8, .inl rg))]) := hD
    have hw3 : wR F (nI t9) (nI x9) (nI 1) ≤ 3 := wR_le
    exact ret_i (u := wR F (nI t9) (nI x9) (nI 1)) hQ hx hb hrt hlk hS dX5_whyNoCommand_86 (by first | exact hP | (rw [hx0]; exact hP)) ⟨rfl, hw3, wc_R (by decide) ht9 (hx9 (by decide)) (by decide)⟩
  · refine lv_lookup (off := 97) (tgt := 101) hx hb dX5_whyNoCommand_4 (by decide) (by decide +kernel) (by decide) ?_
    have hP : va_P D vwCl ([(ad 0, .inr (5, [.int th, .ref (ad 1), .ref (ad 2), .ref (ad 3), .int sv, .ref (ad 4), .int ln, .int vs, .ref (ad 5), .ref (ad 6), .int rl, .int (nI 119), .int (nI t9), .int xi])), (ad 1, .inl (cI, 221, .inl z)), (ad 2, .inl (cI, 221, .inl zs)), (ad 3, .inl (cI, 1768, .inl sd)), (ad 4, .inl (cI, 80, .inl tx)), (ad 5, .inl (cI, 8, .inl ds)), (ad 6, .inl (cI, 8, .inl rg))]) H := hP
    have hD : va_D A ([(ad 0, .inr (5, [.int th, .ref (ad 1), .ref (ad 2), .ref (ad 3), .int sv, .ref (ad 4), .int ln, .int vs, .ref (ad 5), .ref (ad 6), .int rl, .int (nI 119), .int (nI t9), .int xi])), (ad 1, .inl (cI, 221, .inl z)), (ad 2, .inl (cI, 221, .inl zs)), (ad 3, .inl (cI, 1768, .inl sd)), (ad 4, .inl (cI, 80, .inl tx)), (ad 5, .inl (cI, 8, .inl ds)), (ad 6, .inl (cI, 8, .inl rg))]) := hD
    have hx0 := hxi (by decide)
    rw [hx0] at hP hD
    have hP : va_P D vwCl ([(ad 0, .inr (5, [.int th, .ref (ad 1), .ref (ad 2), .ref (ad 3), .int sv, .ref (ad 4), .int ln, .int vs, .ref (ad 5), .ref (ad 6), .int rl, .int (nI 119), .int (nI t9), .int (nI x9)])), (ad 1, .inl (cI, 221, .inl z)), (ad 2, .inl (cI, 221, .inl zs)), (ad 3, .inl (cI, 1768, .inl sd)), (ad 4, .inl (cI, 80, .inl tx)), (ad 5, .inl (cI, 8, .inl ds)), (ad 6, .inl (cI, 8, .inl rg))]) H := hP
    have hD : va_D A ([(ad 0, .inr (5, [.int th, .ref (ad 1), .ref (ad 2), .ref (ad 3), .int sv, .ref (ad 4), .int ln, .int vs, .ref (ad 5), .ref (ad 6), .int rl, .int (nI 119), .int (nI t9), .int (nI x9)])), (ad 1, .inl (cI, 221, .inl z)), (ad 2, .inl (cI, 221, .inl zs)), (ad 3, .inl (cI, 1768, .inl sd)), (ad 4, .inl (cI, 80, .inl tx)), (ad 5, .inl (cI, 8, .inl ds)), (ad 6, .inl (cI, 8, .inl rg))]) := hD
    refine lv_aload_n hx hb dX5_whyNoCommand_101 rfl (lv_at hl 0 rfl) ?_
    refine lv_aload_n hx hb dX5_whyNoCommand_102 rfl (lv_at hl 0 rfl) ?_
    refine va_get (D := D) (ci := 5) (v := .int (nI t9)) (C := RX5) (T := TX5) (N := 14) hx hb hts iX5 hown hK hP 0 rfl rfl 12 (by decide) f180 (fun _ h9 => h9) rfl dX5_whyNoCommand_103 ?_
    refine lv_aload_n hx hb dX5_whyNoCommand_106 rfl (lv_at hl 0 rfl) ?_
    refine va_get (D := D) (ci := 5) (v := .int (nI x9)) (C := RX5) (T := TX5) (N := 14) hx hb hts iX5 hown hK hP 0 rfl rfl 13 (by decide) f171 (fun _ h9 => h9) rfl dX5_whyNoCommand_107 ?_
    refine call_i (X := []) (Z := []) (As := [.int (nI t9), .int (nI x9)]) (rest := []) ⟨hx, hb, hml, hown, hts⟩ (c_X5_whyNoWork l D cI cT ad th sv ln vs rl (nI 119) (nI t9) (nI x9) z zs sd tx ds rg F Q0 (nI t9) (nI x9) hZ) (cwV 2 hts gX5_whyNoCommand_X5_whyNoWork rfl rfl rfl (by decide +kernel) ⟨Nat.le_of_ble_eq_true rfl, Nat.le_of_ble_eq_true rfl⟩) hK hP hD hS hA (va_recv hK hP (ci := 5) (q0 := 0) rfl rfl) (fun _ => rfl) rfl hl.1 rfl (Nat.le_of_ble_eq_true rfl) ⟨by decide, by decide⟩ dX5_whyNoCommand_110 (fun rv _ H locs hp hP hD hS => ?_)
    obtain rfl := hp
    have hP : va_P D vwCl ([(ad 0, .inr (5, [.int th, .ref (ad 1), .ref (ad 2), .ref (ad 3), .int sv, .ref (ad 4), .int ln, .int vs, .ref (ad 5), .ref (ad 6), .int rl, .int (nI 119), .int (nI t9), .int (nI x9)])), (ad 1, .inl (cI, 221, .inl z)), (ad 2, .inl (cI, 221, .inl zs)), (ad 3, .inl (cI, 1768, .inl sd)), (ad 4, .inl (cI, 80, .inl tx)), (ad 5, .inl (cI, 8, .inl ds)), (ad 6, .inl (cI, 8, .inl rg))]) H := hP
    have hD : va_D A ([(ad 0, .inr (5, [.int th, .ref (ad 1), .ref (ad 2), .ref (ad 3), .int sv, .ref (ad 4), .int ln, .int vs, .ref (ad 5), .ref (ad 6), .int rl, .int (nI 119), .int (nI t9), .int (nI x9)])), (ad 1, .inl (cI, 221, .inl z)), (ad 2, .inl (cI, 221, .inl zs)), (ad 3, .inl (cI, 1768, .inl sd)), (ad 4, .inl (cI, 80, .inl tx)), (ad 5, .inl (cI, 8, .inl ds)), (ad 6, .inl (cI, 8, .inl rg))]) := hD
    have hw3 : wW F (nI t9) (nI x9) ≤ 3 := wW_le
    exact ret_i (u := wW F (nI t9) (nI x9)) hQ hx hb hrt hlk hS dX5_whyNoCommand_113 (by first | exact hP | (rw [hx0]; exact hP)) ⟨rfl, hw3, wc_W ht9 (hxw rfl).1 (hxw rfl).2⟩
  · refine lv_lookup (off := 83) (tgt := 87) hx hb dX5_whyNoCommand_4 (by decide) (by decide +kernel) (by decide) ?_
    have hP : va_P D vwCl ([(ad 0, .inr (5, [.int th, .ref (ad 1), .ref (ad 2), .ref (ad 3), .int sv, .ref (ad 4), .int ln, .int vs, .ref (ad 5), .ref (ad 6), .int rl, .int (nI 120), .int (nI t9), .int xi])), (ad 1, .inl (cI, 221, .inl z)), (ad 2, .inl (cI, 221, .inl zs)), (ad 3, .inl (cI, 1768, .inl sd)), (ad 4, .inl (cI, 80, .inl tx)), (ad 5, .inl (cI, 8, .inl ds)), (ad 6, .inl (cI, 8, .inl rg))]) H := hP
    have hD : va_D A ([(ad 0, .inr (5, [.int th, .ref (ad 1), .ref (ad 2), .ref (ad 3), .int sv, .ref (ad 4), .int ln, .int vs, .ref (ad 5), .ref (ad 6), .int rl, .int (nI 120), .int (nI t9), .int xi])), (ad 1, .inl (cI, 221, .inl z)), (ad 2, .inl (cI, 221, .inl zs)), (ad 3, .inl (cI, 1768, .inl sd)), (ad 4, .inl (cI, 80, .inl tx)), (ad 5, .inl (cI, 8, .inl ds)), (ad 6, .inl (cI, 8, .inl rg))]) := hD
    have hx0 := hxi (by decide)
    rw [hx0] at hP hD
    have hP : va_P D vwCl ([(ad 0, .inr (5, [.int th, .ref (ad 1), .ref (ad 2), .ref (ad 3), .int sv, .ref (ad 4), .int ln, .int vs, .ref (ad 5), .ref (ad 6), .int rl, .int (nI 120), .int (nI t9), .int (nI x9)])), (ad 1, .inl (cI, 221, .inl z)), (ad 2, .inl (cI, 221, .inl zs)), (ad 3, .inl (cI, 1768, .inl sd)), (ad 4, .inl (cI, 80, .inl tx)), (ad 5, .inl (cI, 8, .inl ds)), (ad 6, .inl (cI, 8, .inl rg))]) H := hP
    have hD : va_D A ([(ad 0, .inr (5, [.int th, .ref (ad 1), .ref (ad 2), .ref (ad 3), .int sv, .ref (ad 4), .int ln, .int vs, .ref (ad 5), .ref (ad 6), .int rl, .int (nI 120), .int (nI t9), .int (nI x9)])), (ad 1, .inl (cI, 221, .inl z)), (ad 2, .inl (cI, 221, .inl zs)), (ad 3, .inl (cI, 1768, .inl sd)), (ad 4, .inl (cI, 80, .inl tx)), (ad 5, .inl (cI, 8, .inl ds)), (ad 6, .inl (cI, 8, .inl rg))]) := hD
    refine lv_aload_n hx hb dX5_whyNoCommand_87 rfl (lv_at hl 0 rfl) ?_
    refine lv_aload_n hx hb dX5_whyNoCommand_88 rfl (lv_at hl 0 rfl) ?_
    refine va_get (D := D) (ci := 5) (v := .int (nI t9)) (C := RX5) (T := TX5) (N := 14) hx hb hts iX5 hown hK hP 0 rfl rfl 12 (by decide) f180 (fun _ h9 => h9) rfl dX5_whyNoCommand_89 ?_
    refine lv_aload_n hx hb dX5_whyNoCommand_92 rfl (lv_at hl 0 rfl) ?_
    refine va_get (D := D) (ci := 5) (v := .int (nI x9)) (C := RX5) (T := TX5) (N := 14) hx hb hts iX5 hown hK hP 0 rfl rfl 13 (by decide) f171 (fun _ h9 => h9) rfl dX5_whyNoCommand_93 ?_
    refine lv_iconst (v := (nI 2)) hx hb dX5_whyNoCommand_96 (by decide) ?_
    refine call_i (X := []) (Z := []) (As := [.int (nI t9), .int (nI x9), .int (nI 2)]) (rest := []) ⟨hx, hb, hml, hown, hts⟩ (c_X5_whyNoRequest l D cI cT ad th sv ln vs rl (nI 120) (nI t9) (nI x9) z zs sd tx ds rg F Q0 (nI t9) (nI x9) (nI 2) hZ) (cwV 3 hts gX5_whyNoCommand_X5_whyNoRequest rfl rfl rfl (by decide +kernel) ⟨Nat.le_of_ble_eq_true rfl, Nat.le_of_ble_eq_true rfl⟩) hK hP hD hS hA (va_recv hK hP (ci := 5) (q0 := 0) rfl rfl) (fun _ => rfl) rfl hl.1 rfl (Nat.le_of_ble_eq_true rfl) ⟨by decide, by decide⟩ dX5_whyNoCommand_97 (fun rv _ H locs hp hP hD hS => ?_)
    obtain rfl := hp
    have hP : va_P D vwCl ([(ad 0, .inr (5, [.int th, .ref (ad 1), .ref (ad 2), .ref (ad 3), .int sv, .ref (ad 4), .int ln, .int vs, .ref (ad 5), .ref (ad 6), .int rl, .int (nI 120), .int (nI t9), .int (nI x9)])), (ad 1, .inl (cI, 221, .inl z)), (ad 2, .inl (cI, 221, .inl zs)), (ad 3, .inl (cI, 1768, .inl sd)), (ad 4, .inl (cI, 80, .inl tx)), (ad 5, .inl (cI, 8, .inl ds)), (ad 6, .inl (cI, 8, .inl rg))]) H := hP
    have hD : va_D A ([(ad 0, .inr (5, [.int th, .ref (ad 1), .ref (ad 2), .ref (ad 3), .int sv, .ref (ad 4), .int ln, .int vs, .ref (ad 5), .ref (ad 6), .int rl, .int (nI 120), .int (nI t9), .int (nI x9)])), (ad 1, .inl (cI, 221, .inl z)), (ad 2, .inl (cI, 221, .inl zs)), (ad 3, .inl (cI, 1768, .inl sd)), (ad 4, .inl (cI, 80, .inl tx)), (ad 5, .inl (cI, 8, .inl ds)), (ad 6, .inl (cI, 8, .inl rg))]) := hD
    have hw3 : wR F (nI t9) (nI x9) (nI 2) ≤ 3 := wR_le
    exact ret_i (u := wR F (nI t9) (nI x9) (nI 2)) hQ hx hb hrt hlk hS dX5_whyNoCommand_100 (by first | exact hP | (rw [hx0]; exact hP)) ⟨rfl, hw3, wc_R (by decide) ht9 (hx9 (by decide)) (by decide)⟩

abbrev rX5_doCommand : Room := { frames := 7, cells := 0, slots := 0, locals := 163 }
set_option maxHeartbeats 1000000 in
set_option maxRecDepth 100000 in
theorem c_X5_doCommand (l : Launch) (D : va_G) (cI cT : ClassId) (ad : Nat → Nat) (th sv ln vs rl cm fi se : Int32) (z zs sd tx ds rg : Nat → Int32) (F : FF) (Q0 : QQ) (k9 t9 x9 : Nat) (xi : Int32) (hk : isK k9 = true) (ht9 : t9 < 8) (hxi : k9 = 115 ∨ k9 = 119 ∨ k9 = 120 → xi = nI x9) (hx9 : k9 = 115 ∨ k9 = 120 → x9 < 10) (hxw : k9 = 119 → 1 ≤ x9 ∧ x9 ≤ 1000) (ha : alB F k9 t9 = true) (hB : JB F) (hn8 : ¬ F 8 0 = -1) (hZ : RZ F Q0 z) (hJ : JJ F Q0) : CN l D cI cT yX5_doCommand wsX5_doCommand rX5_doCommand [.ref (ad 0)] (refW cI ad th sv ln vs rl (nI k9) (nI t9) xi z zs sd tx ds rg) (S := (Nat → Int32) × (Nat → Int32) × (Nat → Int32) × Int32 × Int32) (fun _ u => RZ (coF F Q0 k9 t9 x9) (coQ F Q0 k9 t9 x9) u.1) (fun u => refW cI ad th sv ln u.2.2.2.2 u.2.2.2.1 (nI k9) (nI t9) xi u.1 zs sd tx u.2.1 u.2.2.1) := by
  refine CN.of (cc := cX5_doCommand) (maxL := 1) (ret := (some .int)) (by decide) rfl (Nat.le_of_ble_eq_true rfl) ?_
  intro p e s m args below meth c A Q hQ B hA H locs hP hK hD hS ls hl
  obtain ⟨hx, hb, hml, hrt, hts, hown, hlk⟩ := B
  have hP : va_P D vwCl ([(ad 0, .inr (5, [.int th, .ref (ad 1), .ref (ad 2), .ref (ad 3), .int sv, .ref (ad 4), .int ln, .int vs, .ref (ad 5), .ref (ad 6), .int rl, .int (nI k9), .int (nI t9), .int xi])), (ad 1, .inl (cI, 221, .inl z)), (ad 2, .inl (cI, 221, .inl zs)), (ad 3, .inl (cI, 1768, .inl sd)), (ad 4, .inl (cI, 80, .inl tx)), (ad 5, .inl (cI, 8, .inl ds)), (ad 6, .inl (cI, 8, .inl rg))]) H := hP
  have hD : va_D A ([(ad 0, .inr (5, [.int th, .ref (ad 1), .ref (ad 2), .ref (ad 3), .int sv, .ref (ad 4), .int ln, .int vs, .ref (ad 5), .ref (ad 6), .int rl, .int (nI k9), .int (nI t9), .int xi])), (ad 1, .inl (cI, 221, .inl z)), (ad 2, .inl (cI, 221, .inl zs)), (ad 3, .inl (cI, 1768, .inl sd)), (ad 4, .inl (cI, 80, .inl tx)), (ad 5, .inl (cI, 8, .inl ds)), (ad 6, .inl (cI, 8, .inl rg))]) := hD
  have hl : lv_has ls 1 [(0, .ref (ad 0))] := hl
  have iX5 : ∀ w ∈ u_ws RX5 TX5 14, w ∈ wsX5_doCommand := by decide +kernel
  have f177 := hts (.fieldLink RX5 177 "LockManagerModel" "command" "I") (by decide +kernel)
  have f180 := hts (.fieldLink RX5 180 "LockManagerModel" "first" "I") (by decide +kernel)
  have f171 := hts (.fieldLink RX5 171 "LockManagerModel" "second" "I") (by decide +kernel)
  refine lv_aload_n hx hb dX5_doCommand_0 rfl (lv_at hl 0 rfl) ?_
  refine va_get (D := D) (ci := 5) (v := .int (nI k9)) (C := RX5) (T := TX5) (N := 14) hx hb hts iX5 hown hK hP 0 rfl rfl 11 (by decide) f177 (fun _ h9 => h9) rfl dX5_doCommand_1 ?_
  rcases (isK_or hk) with rfl | rfl | rfl | rfl | rfl | rfl | rfl
  · refine lv_lookup (off := 110) (tgt := 114) hx hb dX5_doCommand_4 (by decide) (by decide +kernel) (by decide) ?_
    have hP : va_P D vwCl ([(ad 0, .inr (5, [.int th, .ref (ad 1), .ref (ad 2), .ref (ad 3), .int sv, .ref (ad 4), .int ln, .int vs, .ref (ad 5), .ref (ad 6), .int rl, .int (nI 97), .int (nI t9), .int xi])), (ad 1, .inl (cI, 221, .inl z)), (ad 2, .inl (cI, 221, .inl zs)), (ad 3, .inl (cI, 1768, .inl sd)), (ad 4, .inl (cI, 80, .inl tx)), (ad 5, .inl (cI, 8, .inl ds)), (ad 6, .inl (cI, 8, .inl rg))]) H := hP
    have hD : va_D A ([(ad 0, .inr (5, [.int th, .ref (ad 1), .ref (ad 2), .ref (ad 3), .int sv, .ref (ad 4), .int ln, .int vs, .ref (ad 5), .ref (ad 6), .int rl, .int (nI 97), .int (nI t9), .int xi])), (ad 1, .inl (cI, 221, .inl z)), (ad 2, .inl (cI, 221, .inl zs)), (ad 3, .inl (cI, 1768, .inl sd)), (ad 4, .inl (cI, 80, .inl tx)), (ad 5, .inl (cI, 8, .inl ds)), (ad 6, .inl (cI, 8, .inl rg))]) := hD
    refine lv_aload_n hx hb dX5_doCommand_114 rfl (lv_at hl 0 rfl) ?_
    refine lv_aload_n hx hb dX5_doCommand_115 rfl (lv_at hl 0 rfl) ?_
    refine va_get (D := D) (ci := 5) (v := .int (nI t9)) (C := RX5) (T := TX5) (N := 14) hx hb hts iX5 hown hK hP 0 rfl rfl 12 (by decide) f180 (fun _ h9 => h9) rfl dX5_doCommand_116 ?_
    refine call_i (X := []) (Z := []) (As := [.int (nI t9)]) (rest := []) ⟨hx, hb, hml, hown, hts⟩ (c_X5_doEnd l D cI cT ad th sv ln vs rl (nI 97) (nI t9) xi z zs sd tx ds rg F Q0 t9 (by omega) hZ hJ) (cwV 1 hts gX5_doCommand_X5_doEnd rfl rfl rfl (by decide +kernel) ⟨Nat.le_of_ble_eq_true rfl, Nat.le_of_ble_eq_true rfl⟩) hK hP hD hS hA (va_recv hK hP (ci := 5) (q0 := 0) rfl rfl) (fun _ => adr_ref.trans adr_ref.symm) rfl hl.1 rfl (Nat.le_of_ble_eq_true rfl) ⟨by decide, by decide⟩ dX5_doCommand_119 (fun rv z45 H locs hp hP hD hS => ?_)
    obtain ⟨rfl, hZ45⟩ := hp
    have hJ45 := JJ_srv (JJ_end hJ (t := t9) (by omega))
    have hP : va_P D vwCl ([(ad 0, .inr (5, [.int th, .ref (ad 1), .ref (ad 2), .ref (ad 3), .int sv, .ref (ad 4), .int ln, .int vs, .ref (ad 5), .ref (ad 6), .int rl, .int (nI 97), .int (nI t9), .int xi])), (ad 1, .inl (cI, 221, .inl z45)), (ad 2, .inl (cI, 221, .inl zs)), (ad 3, .inl (cI, 1768, .inl sd)), (ad 4, .inl (cI, 80, .inl tx)), (ad 5, .inl (cI, 8, .inl ds)), (ad 6, .inl (cI, 8, .inl rg))]) H := hP
    have hD : va_D A ([(ad 0, .inr (5, [.int th, .ref (ad 1), .ref (ad 2), .ref (ad 3), .int sv, .ref (ad 4), .int ln, .int vs, .ref (ad 5), .ref (ad 6), .int rl, .int (nI 97), .int (nI t9), .int xi])), (ad 1, .inl (cI, 221, .inl z45)), (ad 2, .inl (cI, 221, .inl zs)), (ad 3, .inl (cI, 1768, .inl sd)), (ad 4, .inl (cI, 80, .inl tx)), (ad 5, .inl (cI, 8, .inl ds)), (ad 6, .inl (cI, 8, .inl rg))]) := hD
    exact ret_i (u := (z45, ds, rg, rl, vs)) hQ hx hb hrt hlk hS dX5_doCommand_122 (by first | exact hP | (rw [hx0]; exact hP)) (by rw [coF_97, coQ_97]; exact hZ45)
  · refine lv_lookup (off := 60) (tgt := 64) hx hb dX5_doCommand_4 (by decide) (by decide +kernel) (by decide) ?_
    have hP : va_P D vwCl ([(ad 0, .inr (5, [.int th, .ref (ad 1), .ref (ad 2), .ref (ad 3), .int sv, .ref (ad 4), .int ln, .int vs, .ref (ad 5), .ref (ad 6), .int rl, .int (nI 98), .int (nI t9), .int xi])), (ad 1, .inl (cI, 221, .inl z)), (ad 2, .inl (cI, 221, .inl zs)), (ad 3, .inl (cI, 1768, .inl sd)), (ad 4, .inl (cI, 80, .inl tx)), (ad 5, .inl (cI, 8, .inl ds)), (ad 6, .inl (cI, 8, .inl rg))]) H := hP
    have hD : va_D A ([(ad 0, .inr (5, [.int th, .ref (ad 1), .ref (ad 2), .ref (ad 3), .int sv, .ref (ad 4), .int ln, .int vs, .ref (ad 5), .ref (ad 6), .int rl, .int (nI 98), .int (nI t9), .int xi])), (ad 1, .inl (cI, 221, .inl z)), (ad 2, .inl (cI, 221, .inl zs)), (ad 3, .inl (cI, 1768, .inl sd)), (ad 4, .inl (cI, 80, .inl tx)), (ad 5, .inl (cI, 8, .inl ds)), (ad 6, .inl (cI, 8, .inl rg))]) := hD
    have h0 : F 0 t9 = -1 := st_0.mp (by simpa [alB] using ha)
    refine lv_aload_n hx hb dX5_doCommand_64 rfl (lv_at hl 0 rfl) ?_
    refine lv_aload_n hx hb dX5_doCommand_65 rfl (lv_at hl 0 rfl) ?_
    refine va_get (D := D) (ci := 5) (v := .int (nI t9)) (C := RX5) (T := TX5) (N := 14) hx hb hts iX5 hown hK hP 0 rfl rfl 12 (by decide) f180 (fun _ h9 => h9) rfl dX5_doCommand_66 ?_
    refine call_i (X := []) (Z := []) (As := [.int (nI t9)]) (rest := []) ⟨hx, hb, hml, hown, hts⟩ (c_X5_doBegin l D cI cT ad th sv ln vs rl (nI 98) (nI t9) xi z zs sd tx ds rg F Q0 t9 (by omega) h0 hn8 hZ hJ) (cwV 1 hts gX5_doCommand_X5_doBegin rfl rfl rfl (by decide +kernel) ⟨Nat.le_of_ble_eq_true rfl, Nat.le_of_ble_eq_true rfl⟩) hK hP hD hS hA (va_recv hK hP (ci := 5) (q0 := 0) rfl rfl) (fun _ => adr_ref.trans adr_ref.symm) rfl hl.1 rfl (Nat.le_of_ble_eq_true rfl) ⟨by decide, by decide⟩ dX5_doCommand_69 (fun rv _ H locs hp hP hD hS => ?_)
    obtain ⟨rfl, hZ46⟩ := hp
    have hJ46 := JJ_start hJ h0
    have hP : va_P D vwCl ([(ad 0, .inr (5, [.int th, .ref (ad 1), .ref (ad 2), .ref (ad 3), .int sv, .ref (ad 4), .int ln, .int vs, .ref (ad 5), .ref (ad 6), .int rl, .int (nI 98), .int (nI t9), .int xi])), (ad 1, .inl (cI, 221, .inl (stZ z t9))), (ad 2, .inl (cI, 221, .inl zs)), (ad 3, .inl (cI, 1768, .inl sd)), (ad 4, .inl (cI, 80, .inl tx)), (ad 5, .inl (cI, 8, .inl ds)), (ad 6, .inl (cI, 8, .inl rg))]) H := hP
    have hD : va_D A ([(ad 0, .inr (5, [.int th, .ref (ad 1), .ref (ad 2), .ref (ad 3), .int sv, .ref (ad 4), .int ln, .int vs, .ref (ad 5), .ref (ad 6), .int rl, .int (nI 98), .int (nI t9), .int xi])), (ad 1, .inl (cI, 221, .inl (stZ z t9))), (ad 2, .inl (cI, 221, .inl zs)), (ad 3, .inl (cI, 1768, .inl sd)), (ad 4, .inl (cI, 80, .inl tx)), (ad 5, .inl (cI, 8, .inl ds)), (ad 6, .inl (cI, 8, .inl rg))]) := hD
    exact ret_i (u := (stZ z t9, ds, rg, rl, vs)) hQ hx hb hrt hlk hS dX5_doCommand_72 (by first | exact hP | (rw [hx0]; exact hP)) (by rw [coF_98, coQ_98]; exact hZ46)
  · refine lv_lookup (off := 110) (tgt := 114) hx hb dX5_doCommand_4 (by decide) (by decide +kernel) (by decide) ?_
    have hP : va_P D vwCl ([(ad 0, .inr (5, [.int th, .ref (ad 1), .ref (ad 2), .ref (ad 3), .int sv, .ref (ad 4), .int ln, .int vs, .ref (ad 5), .ref (ad 6), .int rl, .int (nI 99), .int (nI t9), .int xi])), (ad 1, .inl (cI, 221, .inl z)), (ad 2, .inl (cI, 221, .inl zs)), (ad 3, .inl (cI, 1768, .inl sd)), (ad 4, .inl (cI, 80, .inl tx)), (ad 5, .inl (cI, 8, .inl ds)), (ad 6, .inl (cI, 8, .inl rg))]) H := hP
    have hD : va_D A ([(ad 0, .inr (5, [.int th, .ref (ad 1), .ref (ad 2), .ref (ad 3), .int sv, .ref (ad 4), .int ln, .int vs, .ref (ad 5), .ref (ad 6), .int rl, .int (nI 99), .int (nI t9), .int xi])), (ad 1, .inl (cI, 221, .inl z)), (ad 2, .inl (cI, 221, .inl zs)), (ad 3, .inl (cI, 1768, .inl sd)), (ad 4, .inl (cI, 80, .inl tx)), (ad 5, .inl (cI, 8, .inl ds)), (ad 6, .inl (cI, 8, .inl rg))]) := hD
    refine lv_aload_n hx hb dX5_doCommand_114 rfl (lv_at hl 0 rfl) ?_
    refine lv_aload_n hx hb dX5_doCommand_115 rfl (lv_at hl 0 rfl) ?_
    refine va_get (D := D) (ci := 5) (v := .int (nI t9)) (C := RX5) (T := TX5) (N := 14) hx hb hts iX5 hown hK hP 0 rfl rfl 12 (by decide) f180 (fun _ h9 => h9) rfl dX5_doCommand_116 ?_
    refine call_i (X := []) (Z := []) (As := [.int (nI t9)]) (rest := []) ⟨hx, hb, hml, hown, hts⟩ (c_X5_doEnd l D cI cT ad th sv ln vs rl (nI 99) (nI t9) xi z zs sd tx ds rg F Q0 t9 (by omega) hZ hJ) (cwV 1 hts gX5_doCommand_X5_doEnd rfl rfl rfl (by decide +kernel) ⟨Nat.le_of_ble_eq_true rfl, Nat.le_of_ble_eq_true rfl⟩) hK hP hD hS hA (va_recv hK hP (ci := 5) (q0 := 0) rfl rfl) (fun _ => adr_ref.trans adr_ref.symm) rfl hl.1 rfl (Nat.le_of_ble_eq_true rfl) ⟨by decide, by decide⟩ dX5_doCommand_119 (fun rv z47 H locs hp hP hD hS => ?_)
    obtain ⟨rfl, hZ47⟩ := hp
    have hJ47 := JJ_srv (JJ_end hJ (t := t9) (by omega))
    have hP : va_P D vwCl ([(ad 0, .inr (5, [.int th, .ref (ad 1), .ref (ad 2), .ref (ad 3), .int sv, .ref (ad 4), .int ln, .int vs, .ref (ad 5), .ref (ad 6), .int rl, .int (nI 99), .int (nI t9), .int xi])), (ad 1, .inl (cI, 221, .inl z47)), (ad 2, .inl (cI, 221, .inl zs)), (ad 3, .inl (cI, 1768, .inl sd)), (ad 4, .inl (cI, 80, .inl tx)), (ad 5, .inl (cI, 8, .inl ds)), (ad 6, .inl (cI, 8, .inl rg))]) H := hP
    have hD : va_D A ([(ad 0, .inr (5, [.int th, .ref (ad 1), .ref (ad 2), .ref (ad 3), .int sv, .ref (ad 4), .int ln, .int vs, .ref (ad 5), .ref (ad 6), .int rl, .int (nI 99), .int (nI t9), .int xi])), (ad 1, .inl (cI, 221, .inl z47)), (ad 2, .inl (cI, 221, .inl zs)), (ad 3, .inl (cI, 1768, .inl sd)), (ad 4, .inl (cI, 80, .inl tx)), (ad 5, .inl (cI, 8, .inl ds)), (ad 6, .inl (cI, 8, .inl rg))]) := hD
    exact ret_i (u := (z47, ds, rg, rl, vs)) hQ hx hb hrt hlk hS dX5_doCommand_122 (by first | exact hP | (rw [hx0]; exact hP)) (by rw [coF_99, coQ_99]; exact hZ47)
  · refine lv_lookup (off := 119) (tgt := 123) hx hb dX5_doCommand_4 (by decide) (by decide +kernel) (by decide) ?_
    have hP : va_P D vwCl ([(ad 0, .inr (5, [.int th, .ref (ad 1), .ref (ad 2), .ref (ad 3), .int sv, .ref (ad 4), .int ln, .int vs, .ref (ad 5), .ref (ad 6), .int rl, .int (nI 107), .int (nI t9), .int xi])), (ad 1, .inl (cI, 221, .inl z)), (ad 2, .inl (cI, 221, .inl zs)), (ad 3, .inl (cI, 1768, .inl sd)), (ad 4, .inl (cI, 80, .inl tx)), (ad 5, .inl (cI, 8, .inl ds)), (ad 6, .inl (cI, 8, .inl rg))]) H := hP
    have hD : va_D A ([(ad 0, .inr (5, [.int th, .ref (ad 1), .ref (ad 2), .ref (ad 3), .int sv, .ref (ad 4), .int ln, .int vs, .ref (ad 5), .ref (ad 6), .int rl, .int (nI 107), .int (nI t9), .int xi])), (ad 1, .inl (cI, 221, .inl z)), (ad 2, .inl (cI, 221, .inl zs)), (ad 3, .inl (cI, 1768, .inl sd)), (ad 4, .inl (cI, 80, .inl tx)), (ad 5, .inl (cI, 8, .inl ds)), (ad 6, .inl (cI, 8, .inl rg))]) := hD
    have n3 := (st_w hJ ht9).mp (by simpa [alB] using ha : stI F t9 = nI 2)
    refine lv_aload_n hx hb dX5_doCommand_123 rfl (lv_at hl 0 rfl) ?_
    refine lv_aload_n hx hb dX5_doCommand_124 rfl (lv_at hl 0 rfl) ?_
    refine va_get (D := D) (ci := 5) (v := .int (nI t9)) (C := RX5) (T := TX5) (N := 14) hx hb hts iX5 hown hK hP 0 rfl rfl 12 (by decide) f180 (fun _ h9 => h9) rfl dX5_doCommand_125 ?_
    refine call_i (X := []) (Z := []) (As := [.int (nI t9)]) (rest := []) ⟨hx, hb, hml, hown, hts⟩ (c_X5_doWithdraw l D cI cT ad th sv ln vs rl (nI 107) (nI t9) xi z zs sd tx ds rg F Q0 t9 (by omega) n3 hZ hJ) (cwV 1 hts gX5_doCommand_X5_doWithdraw rfl rfl rfl (by decide +kernel) ⟨Nat.le_of_ble_eq_true rfl, Nat.le_of_ble_eq_true rfl⟩) hK hP hD hS hA (va_recv hK hP (ci := 5) (q0 := 0) rfl rfl) (fun _ => adr_ref.trans adr_ref.symm) rfl hl.1 rfl (Nat.le_of_ble_eq_true rfl) ⟨by decide, by decide⟩ dX5_doCommand_128 (fun rv z48 H locs hp hP hD hS => ?_)
    obtain ⟨rfl, hZ48⟩ := hp
    have hJ48 := JJ_srv (JJ_rm hJ (t := t9) (by omega))
    have hP : va_P D vwCl ([(ad 0, .inr (5, [.int th, .ref (ad 1), .ref (ad 2), .ref (ad 3), .int sv, .ref (ad 4), .int ln, .int vs, .ref (ad 5), .ref (ad 6), .int rl, .int (nI 107), .int (nI t9), .int xi])), (ad 1, .inl (cI, 221, .inl z48)), (ad 2, .inl (cI, 221, .inl zs)), (ad 3, .inl (cI, 1768, .inl sd)), (ad 4, .inl (cI, 80, .inl tx)), (ad 5, .inl (cI, 8, .inl ds)), (ad 6, .inl (cI, 8, .inl rg))]) H := hP
    have hD : va_D A ([(ad 0, .inr (5, [.int th, .ref (ad 1), .ref (ad 2), .ref (ad 3), .int sv, .ref (ad 4), .int ln, .int vs, .ref (ad 5), .ref (ad 6), .int rl, .int (nI 107), .int (nI t9), .int xi])), (ad 1, .inl (cI, 221, .inl z48)), (ad 2, .inl (cI, 221, .inl zs)), (ad 3, .inl (cI, 1768, .inl sd)), (ad 4, .inl (cI, 80, .inl tx)), (ad 5, .inl (cI, 8, .inl ds)), (ad 6, .inl (cI, 8, .inl rg))]) := hD
    exact ret_i (u := (z48, ds, rg, rl, vs)) hQ hx hb hrt hlk hS dX5_doCommand_131 (by first | exact hP | (rw [hx0]; exact hP)) (by rw [coF_107, coQ_107]; exact hZ48)
  · refine lv_lookup (off := 69) (tgt := 73) hx hb dX5_doCommand_4 (by decide) (by decide +kernel) (by decide) ?_
    have hP : va_P D vwCl ([(ad 0, .inr (5, [.int th, .ref (ad 1), .ref (ad 2), .ref (ad 3), .int sv, .ref (ad 4), .int ln, .int vs, .ref (ad 5), .ref (ad 6), .int rl, .int (nI 115), .int (nI t9), .int xi])), (ad 1, .inl (cI, 221, .inl z)), (ad 2, .inl (cI, 221, .inl zs)), (ad 3, .inl (cI, 1768, .inl sd)), (ad 4, .inl (cI, 80, .inl tx)), (ad 5, .inl (cI, 8, .inl ds)), (ad 6, .inl (cI, 8, .inl rg))]) H := hP
    have hD : va_D A ([(ad 0, .inr (5, [.int th, .ref (ad 1), .ref (ad 2), .ref (ad 3), .int sv, .ref (ad 4), .int ln, .int vs, .ref (ad 5), .ref (ad 6), .int rl, .int (nI 115), .int (nI t9), .int xi])), (ad 1, .inl (cI, 221, .inl z)), (ad 2, .inl (cI, 221, .inl zs)), (ad 3, .inl (cI, 1768, .inl sd)), (ad 4, .inl (cI, 80, .inl tx)), (ad 5, .inl (cI, 8, .inl ds)), (ad 6, .inl (cI, 8, .inl rg))]) := hD
    have hx0 := hxi (by decide)
    rw [hx0] at hP hD
    have hP : va_P D vwCl ([(ad 0, .inr (5, [.int th, .ref (ad 1), .ref (ad 2), .ref (ad 3), .int sv, .ref (ad 4), .int ln, .int vs, .ref (ad 5), .ref (ad 6), .int rl, .int (nI 115), .int (nI t9), .int (nI x9)])), (ad 1, .inl (cI, 221, .inl z)), (ad 2, .inl (cI, 221, .inl zs)), (ad 3, .inl (cI, 1768, .inl sd)), (ad 4, .inl (cI, 80, .inl tx)), (ad 5, .inl (cI, 8, .inl ds)), (ad 6, .inl (cI, 8, .inl rg))]) H := hP
    have hD : va_D A ([(ad 0, .inr (5, [.int th, .ref (ad 1), .ref (ad 2), .ref (ad 3), .int sv, .ref (ad 4), .int ln, .int vs, .ref (ad 5), .ref (ad 6), .int rl, .int (nI 115), .int (nI t9), .int (nI x9)])), (ad 1, .inl (cI, 221, .inl z)), (ad 2, .inl (cI, 221, .inl zs)), (ad 3, .inl (cI, 1768, .inl sd)), (ad 4, .inl (cI, 80, .inl tx)), (ad 5, .inl (cI, 8, .inl ds)), (ad 6, .inl (cI, 8, .inl rg))]) := hD
    have hs1 := st_1.mp (by simpa [alB] using ha : stI F t9 = nI 1)
    have h3 := hs1.2
    have h0 := hs1.1
    have hx10 : x9 < 10 := hx9 (by decide)
    have hm : nI 1 = nI 1 ∨ nI 1 = nI 2 := by decide
    refine lv_aload_n hx hb dX5_doCommand_73 rfl (lv_at hl 0 rfl) ?_
    refine lv_aload_n hx hb dX5_doCommand_74 rfl (lv_at hl 0 rfl) ?_
    refine va_get (D := D) (ci := 5) (v := .int (nI t9)) (C := RX5) (T := TX5) (N := 14) hx hb hts iX5 hown hK hP 0 rfl rfl 12 (by decide) f180 (fun _ h9 => h9) rfl dX5_doCommand_75 ?_
    refine lv_aload_n hx hb dX5_doCommand_78 rfl (lv_at hl 0 rfl) ?_
    refine va_get (D := D) (ci := 5) (v := .int (nI x9)) (C := RX5) (T := TX5) (N := 14) hx hb hts iX5 hown hK hP 0 rfl rfl 13 (by decide) f171 (fun _ h9 => h9) rfl dX5_doCommand_79 ?_
    refine lv_iconst (v := (nI 1)) hx hb dX5_doCommand_82 (by decide) ?_
    refine call_i (X := []) (Z := []) (As := [.int (nI t9), .int (nI x9), .int (nI 1)]) (rest := []) ⟨hx, hb, hml, hown, hts⟩ (c_X5_doRequest l D cI cT ad th sv ln vs rl (nI 115) (nI t9) (nI x9) z zs sd tx ds rg F Q0 t9 x9 (nI 1) (by omega) (by omega) hm h3 h0 hB hZ hJ) (cwV 3 hts gX5_doCommand_X5_doRequest rfl rfl rfl (by decide +kernel) ⟨Nat.le_of_ble_eq_true rfl, Nat.le_of_ble_eq_true rfl⟩) hK hP hD hS hA (va_recv hK hP (ci := 5) (q0 := 0) rfl rfl) (fun _ => adr_ref.trans adr_ref.symm) rfl hl.1 rfl (Nat.le_of_ble_eq_true rfl) ⟨by decide, by decide⟩ dX5_doCommand_83 (fun rv u49 H locs hp hP hD hS => ?_)
    obtain ⟨rfl, hZ49⟩ := hp
    have hJ49 := JJ_ask hJ (t := t9) (r := x9) (by omega) (by omega) h3 h0 hm
    have hP : va_P D vwCl ([(ad 0, .inr (5, [.int th, .ref (ad 1), .ref (ad 2), .ref (ad 3), .int sv, .ref (ad 4), .int ln, .int (nI (askV F Q0 t9 x9 (nI 1))), .ref (ad 5), .ref (ad 6), .int u49.2.2.2, .int (nI 115), .int (nI t9), .int (nI x9)])), (ad 1, .inl (cI, 221, .inl u49.1)), (ad 2, .inl (cI, 221, .inl zs)), (ad 3, .inl (cI, 1768, .inl sd)), (ad 4, .inl (cI, 80, .inl tx)), (ad 5, .inl (cI, 8, .inl u49.2.1)), (ad 6, .inl (cI, 8, .inl u49.2.2.1))]) H := hP
    have hD : va_D A ([(ad 0, .inr (5, [.int th, .ref (ad 1), .ref (ad 2), .ref (ad 3), .int sv, .ref (ad 4), .int ln, .int (nI (askV F Q0 t9 x9 (nI 1))), .ref (ad 5), .ref (ad 6), .int u49.2.2.2, .int (nI 115), .int (nI t9), .int (nI x9)])), (ad 1, .inl (cI, 221, .inl u49.1)), (ad 2, .inl (cI, 221, .inl zs)), (ad 3, .inl (cI, 1768, .inl sd)), (ad 4, .inl (cI, 80, .inl tx)), (ad 5, .inl (cI, 8, .inl u49.2.1)), (ad 6, .inl (cI, 8, .inl u49.2.2.1))]) := hD
    exact ret_i (u := (u49.1, u49.2.1, u49.2.2.1, u49.2.2.2, (nI (askV F Q0 t9 x9 (nI 1))))) hQ hx hb hrt hlk hS dX5_doCommand_86 (by first | exact hP | (rw [hx0]; exact hP)) (by rw [coF_115, coQ_115]; exact hZ49)
  · refine lv_lookup (off := 97) (tgt := 101) hx hb dX5_doCommand_4 (by decide) (by decide +kernel) (by decide) ?_
    have hP : va_P D vwCl ([(ad 0, .inr (5, [.int th, .ref (ad 1), .ref (ad 2), .ref (ad 3), .int sv, .ref (ad 4), .int ln, .int vs, .ref (ad 5), .ref (ad 6), .int rl, .int (nI 119), .int (nI t9), .int xi])), (ad 1, .inl (cI, 221, .inl z)), (ad 2, .inl (cI, 221, .inl zs)), (ad 3, .inl (cI, 1768, .inl sd)), (ad 4, .inl (cI, 80, .inl tx)), (ad 5, .inl (cI, 8, .inl ds)), (ad 6, .inl (cI, 8, .inl rg))]) H := hP
    have hD : va_D A ([(ad 0, .inr (5, [.int th, .ref (ad 1), .ref (ad 2), .ref (ad 3), .int sv, .ref (ad 4), .int ln, .int vs, .ref (ad 5), .ref (ad 6), .int rl, .int (nI 119), .int (nI t9), .int xi])), (ad 1, .inl (cI, 221, .inl z)), (ad 2, .inl (cI, 221, .inl zs)), (ad 3, .inl (cI, 1768, .inl sd)), (ad 4, .inl (cI, 80, .inl tx)), (ad 5, .inl (cI, 8, .inl ds)), (ad 6, .inl (cI, 8, .inl rg))]) := hD
    have hx0 := hxi (by decide)
    rw [hx0] at hP hD
    have hP : va_P D vwCl ([(ad 0, .inr (5, [.int th, .ref (ad 1), .ref (ad 2), .ref (ad 3), .int sv, .ref (ad 4), .int ln, .int vs, .ref (ad 5), .ref (ad 6), .int rl, .int (nI 119), .int (nI t9), .int (nI x9)])), (ad 1, .inl (cI, 221, .inl z)), (ad 2, .inl (cI, 221, .inl zs)), (ad 3, .inl (cI, 1768, .inl sd)), (ad 4, .inl (cI, 80, .inl tx)), (ad 5, .inl (cI, 8, .inl ds)), (ad 6, .inl (cI, 8, .inl rg))]) H := hP
    have hD : va_D A ([(ad 0, .inr (5, [.int th, .ref (ad 1), .ref (ad 2), .ref (ad 3), .int sv, .ref (ad 4), .int ln, .int vs, .ref (ad 5), .ref (ad 6), .int rl, .int (nI 119), .int (nI t9), .int (nI x9)])), (ad 1, .inl (cI, 221, .inl z)), (ad 2, .inl (cI, 221, .inl zs)), (ad 3, .inl (cI, 1768, .inl sd)), (ad 4, .inl (cI, 80, .inl tx)), (ad 5, .inl (cI, 8, .inl ds)), (ad 6, .inl (cI, 8, .inl rg))]) := hD
    refine lv_aload_n hx hb dX5_doCommand_101 rfl (lv_at hl 0 rfl) ?_
    refine lv_aload_n hx hb dX5_doCommand_102 rfl (lv_at hl 0 rfl) ?_
    refine va_get (D := D) (ci := 5) (v := .int (nI t9)) (C := RX5) (T := TX5) (N := 14) hx hb hts iX5 hown hK hP 0 rfl rfl 12 (by decide) f180 (fun _ h9 => h9) rfl dX5_doCommand_103 ?_
    refine lv_aload_n hx hb dX5_doCommand_106 rfl (lv_at hl 0 rfl) ?_
    refine va_get (D := D) (ci := 5) (v := .int (nI x9)) (C := RX5) (T := TX5) (N := 14) hx hb hts iX5 hown hK hP 0 rfl rfl 13 (by decide) f171 (fun _ h9 => h9) rfl dX5_doCommand_107 ?_
    refine call_i (X := []) (Z := []) (As := [.int (nI t9), .int (nI x9)]) (rest := []) ⟨hx, hb, hml, hown, hts⟩ (c_X5_doWork l D cI cT ad th sv ln vs rl (nI 119) (nI t9) (nI x9) z zs sd tx ds rg F Q0 t9 (nI x9) (by omega) hZ hJ) (cwV 2 hts gX5_doCommand_X5_doWork rfl rfl rfl (by decide +kernel) ⟨Nat.le_of_ble_eq_true rfl, Nat.le_of_ble_eq_true rfl⟩) hK hP hD hS hA (va_recv hK hP (ci := 5) (q0 := 0) rfl rfl) (fun _ => adr_ref.trans adr_ref.symm) rfl hl.1 rfl (Nat.le_of_ble_eq_true rfl) ⟨by decide, by decide⟩ dX5_doCommand_110 (fun rv z50 H locs hp hP hD hS => ?_)
    obtain ⟨rfl, hZ50⟩ := hp
    have hJ50 := JJ_work (t := t9) (v := F 1 t9 + (nI x9)) hJ
    have hP : va_P D vwCl ([(ad 0, .inr (5, [.int th, .ref (ad 1), .ref (ad 2), .ref (ad 3), .int sv, .ref (ad 4), .int ln, .int vs, .ref (ad 5), .ref (ad 6), .int rl, .int (nI 119), .int (nI t9), .int (nI x9)])), (ad 1, .inl (cI, 221, .inl z50)), (ad 2, .inl (cI, 221, .inl zs)), (ad 3, .inl (cI, 1768, .inl sd)), (ad 4, .inl (cI, 80, .inl tx)), (ad 5, .inl (cI, 8, .inl ds)), (ad 6, .inl (cI, 8, .inl rg))]) H := hP
    have hD : va_D A ([(ad 0, .inr (5, [.int th, .ref (ad 1), .ref (ad 2), .ref (ad 3), .int sv, .ref (ad 4), .int ln, .int vs, .ref (ad 5), .ref (ad 6), .int rl, .int (nI 119), .int (nI t9), .int (nI x9)])), (ad 1, .inl (cI, 221, .inl z50)), (ad 2, .inl (cI, 221, .inl zs)), (ad 3, .inl (cI, 1768, .inl sd)), (ad 4, .inl (cI, 80, .inl tx)), (ad 5, .inl (cI, 8, .inl ds)), (ad 6, .inl (cI, 8, .inl rg))]) := hD
    exact ret_i (u := (z50, ds, rg, rl, vs)) hQ hx hb hrt hlk hS dX5_doCommand_113 (by first | exact hP | (rw [hx0]; exact hP)) (by rw [coF_119, coQ_119]; exact hZ50)
  · refine lv_lookup (off := 83) (tgt := 87) hx hb dX5_doCommand_4 (by decide) (by decide +kernel) (by decide) ?_
    have hP : va_P D vwCl ([(ad 0, .inr (5, [.int th, .ref (ad 1), .ref (ad 2), .ref (ad 3), .int sv, .ref (ad 4), .int ln, .int vs, .ref (ad 5), .ref (ad 6), .int rl, .int (nI 120), .int (nI t9), .int xi])), (ad 1, .inl (cI, 221, .inl z)), (ad 2, .inl (cI, 221, .inl zs)), (ad 3, .inl (cI, 1768, .inl sd)), (ad 4, .inl (cI, 80, .inl tx)), (ad 5, .inl (cI, 8, .inl ds)), (ad 6, .inl (cI, 8, .inl rg))]) H := hP
    have hD : va_D A ([(ad 0, .inr (5, [.int th, .ref (ad 1), .ref (ad 2), .ref (ad 3), .int sv, .ref (ad 4), .int ln, .int vs, .ref (ad 5), .ref (ad 6), .int rl, .int (nI 120), .int (nI t9), .int xi])), (ad 1, .inl (cI, 221, .inl z)), (ad 2, .inl (cI, 221, .inl zs)), (ad 3, .inl (cI, 1768, .inl sd)), (ad 4, .inl (cI, 80, .inl tx)), (ad 5, .inl (cI, 8, .inl ds)), (ad 6, .inl (cI, 8, .inl rg))]) := hD
    have hx0 := hxi (by decide)
    rw [hx0] at hP hD
    have hP : va_P D vwCl ([(ad 0, .inr (5, [.int th, .ref (ad 1), .ref (ad 2), .ref (ad 3), .int sv, .ref (ad 4), .int ln, .int vs, .ref (ad 5), .ref (ad 6), .int rl, .int (nI 120), .int (nI t9), .int (nI x9)])), (ad 1, .inl (cI, 221, .inl z)), (ad 2, .inl (cI, 221, .inl zs)), (ad 3, .inl (cI, 1768, .inl sd)), (ad 4, .inl (cI, 80, .inl tx)), (ad 5, .inl (cI, 8, .inl ds)), (ad 6, .inl (cI, 8, .inl rg))]) H := hP
    have hD : va_D A ([(ad 0, .inr (5, [.int th, .ref (ad 1), .ref (ad 2), .ref (ad 3), .int sv, .ref (ad 4), .int ln, .int vs, .ref (ad 5), .ref (ad 6), .int rl, .int (nI 120), .int (nI t9), .int (nI x9)])), (ad 1, .inl (cI, 221, .inl z)), (ad 2, .inl (cI, 221, .inl zs)), (ad 3, .inl (cI, 1768, .inl sd)), (ad 4, .inl (cI, 80, .inl tx)), (ad 5, .inl (cI, 8, .inl ds)), (ad 6, .inl (cI, 8, .inl rg))]) := hD
    have hs1 := st_1.mp (by simpa [alB] using ha : stI F t9 = nI 1)
    have h3 := hs1.2
    have h0 := hs1.1
    have hx10 : x9 < 10 := hx9 (by decide)
    have hm : nI 2 = nI 1 ∨ nI 2 = nI 2 := by decide
    refine lv_aload_n hx hb dX5_doCommand_87 rfl (lv_at hl 0 rfl) ?_
    refine lv_aload_n hx hb dX5_doCommand_88 rfl (lv_at hl 0 rfl) ?_
    refine va_get (D := D) (ci := 5) (v := .int (nI t9)) (C := RX5) (T := TX5) (N := 14) hx hb hts iX5 hown hK hP 0 rfl rfl 12 (by decide) f180 (fun _ h9 => h9) rfl dX5_doCommand_89 ?_
    refine lv_aload_n hx hb dX5_doCommand_92 rfl (lv_at hl 0 rfl) ?_
    refine va_get (D := D) (ci := 5) (v := .int (nI x9)) (C := RX5) (T := TX5) (N := 14) hx hb hts iX5 hown hK hP 0 rfl rfl 13 (by decide) f171 (fun _ h9 => h9) rfl dX5_doCommand_93 ?_
    refine lv_iconst (v := (nI 2)) hx hb dX5_doCommand_96 (by decide) ?_
    refine call_i (X := []) (Z := []) (As := [.int (nI t9), .int (nI x9), .int (nI 2)]) (rest := []) ⟨hx, hb, hml, hown, hts⟩ (c_X5_doRequest l D cI cT ad th sv ln vs rl (nI 120) (nI t9) (nI x9) z zs sd tx ds rg F Q0 t9 x9 (nI 2) (by omega) (by omega) hm h3 h0 hB hZ hJ) (cwV 3 hts gX5_doCommand_X5_doRequest rfl rfl rfl (by decide +kernel) ⟨Nat.le_of_ble_eq_true rfl, Nat.le_of_ble_eq_true rfl⟩) hK hP hD hS hA (va_recv hK hP (ci := 5) (q0 := 0) rfl rfl) (fun _ => adr_ref.trans adr_ref.symm) rfl hl.1 rfl (Nat.le_of_ble_eq_true rfl) ⟨by decide, by decide⟩ dX5_doCommand_97 (fun rv u51 H locs hp hP hD hS => ?_)
    obtain ⟨rfl, hZ51⟩ := hp
    have hJ51 := JJ_ask hJ (t := t9) (r := x9) (by omega) (by omega) h3 h0 hm
    have hP : va_P D vwCl ([(ad 0, .inr (5, [.int th, .ref (ad 1), .ref (ad 2), .ref (ad 3), .int sv, .ref (ad 4), .int ln, .int (nI (askV F Q0 t9 x9 (nI 2))), .ref (ad 5), .ref (ad 6), .int u51.2.2.2, .int (nI 120), .int (nI t9), .int (nI x9)])), (ad 1, .inl (cI, 221, .inl u51.1)), (ad 2, .inl (cI, 221, .inl zs)), (ad 3, .inl (cI, 1768, .inl sd)), (ad 4, .inl (cI, 80, .inl tx)), (ad 5, .inl (cI, 8, .inl u51.2.1)), (ad 6, .inl (cI, 8, .inl u51.2.2.1))]) H := hP
    have hD : va_D A ([(ad 0, .inr (5, [.int th, .ref (ad 1), .ref (ad 2), .ref (ad 3), .int sv, .ref (ad 4), .int ln, .int (nI (askV F Q0 t9 x9 (nI 2))), .ref (ad 5), .ref (ad 6), .int u51.2.2.2, .int (nI 120), .int (nI t9), .int (nI x9)])), (ad 1, .inl (cI, 221, .inl u51.1)), (ad 2, .inl (cI, 221, .inl zs)), (ad 3, .inl (cI, 1768, .inl sd)), (ad 4, .inl (cI, 80, .inl tx)), (ad 5, .inl (cI, 8, .inl u51.2.1)), (ad 6, .inl (cI, 8, .inl u51.2.2.1))]) := hD
    exact ret_i (u := (u51.1, u51.2.1, u51.2.2.1, u51.2.2.2, (nI (askV F Q0 t9 x9 (nI 2))))) hQ hx hb hrt hlk hS dX5_doCommand_100 (by first | exact hP | (rw [hx0]; exact hP)) (by rw [coF_120, coQ_120]; exact hZ51)

