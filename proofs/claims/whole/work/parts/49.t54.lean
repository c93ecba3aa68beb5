abbrev rX5_findDistances : Room := { frames := 3, cells := 0, slots := 0, locals := 68 }
set_option maxHeartbeats 1000000 in
set_option maxRecDepth 100000 in
theorem c_X5_findDistances (l : Launch) (D : va_G) (cI cT : ClassId) (ad : Nat → Nat) (th sv ln vs rl cm fi se : Int32) (z zs sd tx ds rg : Nat → Int32) (F : FF) (Q0 : QQ) (s9 : Nat) (hs9 : s9 < 8) (hZ : RZ F Q0 z) (hJ : JJ F Q0) : CV l D cI cT yX5_findDistances wsX5_findDistances rX5_findDistances [.ref (ad 0), .int (nI s9)] (refW cI ad th sv ln vs rl cm fi se z zs sd tx ds rg) (S := Unit) (fun _ => True) (fun _ => refW cI ad th sv ln vs rl cm fi se z zs sd tx (dsF F Q0 s9 7) rg) := by
  refine CV.of (cc := cX5_findDistances) (maxL := 5) (ret := none) (by decide) rfl (Nat.le_of_ble_eq_true rfl) ?_
  intro p e s m args below meth c A Q hQ B hA H locs hP hK hD hS ls hl
  obtain ⟨hx, hb, hml, hrt, hts, hown, hlk⟩ := B
  have hP : va_P D vwCl ([(ad 0, .inr (5, [.int th, .ref (ad 1), .ref (ad 2), .ref (ad 3), .int sv, .ref (ad 4), .int ln, .int vs, .ref (ad 5), .ref (ad 6), .int rl, .int cm, .int fi, .int se])), (ad 1, .inl (cI, 221, .inl z)), (ad 2, .inl (cI, 221, .inl zs)), (ad 3, .inl (cI, 1768, .inl sd)), (ad 4, .inl (cI, 80, .inl tx)), (ad 5, .inl (cI, 8, .inl ds)), (ad 6, .inl (cI, 8, .inl rg))]) H := hP
  have hD : va_D A ([(ad 0, .inr (5, [.int th, .ref (ad 1), .ref (ad 2), .ref (ad 3), .int sv, .ref (ad 4), .int ln, .int vs, .ref (ad 5), .ref (ad 6), .int rl, .int cm, .int fi, .int se])), (ad 1, .inl (cI, 221, .inl z)), (ad 2, .inl (cI, 221, .inl zs)), (ad 3, .inl (cI, 1768, .inl sd)), (ad 4, .inl (cI, 80, .inl tx)), (ad 5, .inl (cI, 8, .inl ds)), (ad 6, .inl (cI, 8, .inl rg))]) := hD
  have hl : lv_has ls 5 [(0, .ref (ad 0)), (1, .int (nI s9))] := hl
  have iX5 : ∀ w ∈ u_ws RX5 TX5 14, w ∈ wsX5_findDistances := by decide +kernel
  have f22 := hts (.fieldLink RX5 22 "LockManagerModel" "distance" "[I") (by decide +kernel)
  refine lv_iconst (v := (nI 0)) hx hb dX5_findDistances_0 (by decide) ?_
  refine lv_istore_n (lv' := [(2, .int (nI 0)), (0, .ref (ad 0)), (1, .int (nI s9))]) hx hb dX5_findDistances_1 rfl hl (by decide) rfl (fun ls hl => ?_)
  have L2 : ∀ (N : Nat) (i : Nat), (i ≤ 8) → (8 - i) < N → ∀ (H : Heap) (locs : List Loc), va_P D vwCl ([(ad 0, .inr (5, [.int th, .ref (ad 1), .ref (ad 2), .ref (ad 3), .int sv, .ref (ad 4), .int ln, .int vs, .ref (ad 5), .ref (ad 6), .int rl, .int cm, .int fi, .int se])), (ad 1, .inl (cI, 221, .inl z)), (ad 2, .inl (cI, 221, .inl zs)), (ad 3, .inl (cI, 1768, .inl sd)), (ad 4, .inl (cI, 80, .inl tx)), (ad 5, .inl (cI, 8, .inl (mixI (dsF F Q0 s9 0) ds i))), (ad 6, .inl (cI, 8, .inl rg))]) H → va_D A ([(ad 0, .inr (5, [.int th, .ref (ad 1), .ref (ad 2), .ref (ad 3), .int sv, .ref (ad 4), .int ln, .int vs, .ref (ad 5), .ref (ad 6), .int rl, .int cm, .int fi, .int se])), (ad 1, .inl (cI, 221, .inl z)), (ad 2, .inl (cI, 221, .inl zs)), (ad 3, .inl (cI, 1768, .inl sd)), (ad 4, .inl (cI, 80, .inl tx)), (ad 5, .inl (cI, 8, .inl (mixI (dsF F Q0 s9 0) ds i))), (ad 6, .inl (cI, 8, .inl rg))]) → va_S A s.heap H locs → ∀ ls : Array Slot, lv_has ls 5 [(0, .ref (ad 0)), (1, .int (nI s9)), (2, .int (nI i))] → W p l e rX5_findDistances s m args below meth c H locs 0 0 Q (F0 m 2 ls []) := by
    intro N2
    induction N2 with
    | zero => intro i hi hN; exact absurd hN (Nat.not_lt_zero _)
    | succ N2 ih2 =>
      intro i hi hN H locs hP hD hS ls hl
      refine lv_iload_n hx hb dX5_findDistances_2 rfl (lv_at hl 2 rfl) ?_
      refine lv_bipush (v := (nI 8)) hx hb dX5_findDistances_3 (by decide) ?_
      refine lv_icmp_ge (tgt := 30) hx hb dX5_findDistances_5 (by decide) (fun h_1 => ?_) (fun h_1 => ?_)
      · have h_1 := (nI_leI (a := 8) (b := i) (by first | omega | exact bits_lt31 _ | exact bitN_lt _ _ | exact bool_lt _ | exact and_lt31 _ _ _ _ | exact Nat.lt_of_le_of_lt (dst_lt _ _ _ (by omega) _) (by decide) | exact Nat.lt_of_le_of_lt (nrB_le _ _ _ (by omega)).2 (by decide) | decide) (by first | omega | exact bits_lt31 _ | exact bitN_lt _ _ | exact bool_lt _ | exact and_lt31 _ _ _ _ | exact Nat.lt_of_le_of_lt (dst_lt _ _ _ (by omega) _) (by decide) | exact Nat.lt_of_le_of_lt (nrB_le _ _ _ (by omega)).2 (by decide) | decide)).mp h_1
        have hi8 : i = 8 := by omega
        have hD := hD.set (p := 5) (e := .inl (cI, 8, .inl (dsF F Q0 s9 0))) rfl
        have hP := P_set (dsF F Q0 s9 0) hP 5 rfl (fun j hj => (by rw [hi8, mixI, if_pos hj]))
        have hP : va_P D vwCl ([(ad 0, .inr (5, [.int th, .ref (ad 1), .ref (ad 2), .ref (ad 3), .int sv, .ref (ad 4), .int ln, .int vs, .ref (ad 5), .ref (ad 6), .int rl, .int cm, .int fi, .int se])), (ad 1, .inl (cI, 221, .inl z)), (ad 2, .inl (cI, 221, .inl zs)), (ad 3, .inl (cI, 1768, .inl sd)), (ad 4, .inl (cI, 80, .inl tx)), (ad 5, .inl (cI, 8, .inl (dsF F Q0 s9 0))), (ad 6, .inl (cI, 8, .inl rg))]) H := hP
        have hD : va_D A ([(ad 0, .inr (5, [.int th, .ref (ad 1), .ref (ad 2), .ref (ad 3), .int sv, .ref (ad 4), .int ln, .int vs, .ref (ad 5), .ref (ad 6), .int rl, .int cm, .int fi, .int se])), (ad 1, .inl (cI, 221, .inl z)), (ad 2, .inl (cI, 221, .inl zs)), (ad 3, .inl (cI, 1768, .inl sd)), (ad 4, .inl (cI, 80, .inl tx)), (ad 5, .inl (cI, 8, .inl (dsF F Q0 s9 0))), (ad 6, .inl (cI, 8, .inl rg))]) := hD
        refine lv_iconst (v := (nI 0)) hx hb dX5_findDistances_30 (by decide) ?_
        refine lv_istore_n (lv' := [(2, .int (nI 0)), (0, .ref (ad 0)), (1, .int (nI s9))]) hx hb dX5_findDistances_31 rfl hl (by decide) rfl (fun ls hl => ?_)
        have L32 : ∀ (N : Nat) (k : Nat), (k ≤ 8) → (8 - k) < N → ∀ (H : Heap) (locs : List Loc), va_P D vwCl ([(ad 0, .inr (5, [.int th, .ref (ad 1), .ref (ad 2), .ref (ad 3), .int sv, .ref (ad 4), .int ln, .int vs, .ref (ad 5), .ref (ad 6), .int rl, .int cm, .int fi, .int se])), (ad 1, .inl (cI, 221, .inl z)), (ad 2, .inl (cI, 221, .inl zs)), (ad 3, .inl (cI, 1768, .inl sd)), (ad 4, .inl (cI, 80, .inl tx)), (ad 5, .inl (cI, 8, .inl (dsF F Q0 s9 k))), (ad 6, .inl (cI, 8, .inl rg))]) H → va_D A ([(ad 0, .inr (5, [.int th, .ref (ad 1), .ref (ad 2), .ref (ad 3), .int sv, .ref (ad 4), .int ln, .int vs, .ref (ad 5), .ref (ad 6), .int rl, .int cm, .int fi, .int se])), (ad 1, .inl (cI, 221, .inl z)), (ad 2, .inl (cI, 221, .inl zs)), (ad 3, .inl (cI, 1768, .inl sd)), (ad 4, .inl (cI, 80, .inl tx)), (ad 5, .inl (cI, 8, .inl (dsF F Q0 s9 k))), (ad 6, .inl (cI, 8, .inl rg))]) → va_S A s.heap H locs → ∀ ls : Array Slot, lv_has ls 5 [(0, .ref (ad 0)), (1, .int (nI s9)), (2, .int (nI k))] → W p l e rX5_findDistances s m args below meth c H locs 0 0 Q (F0 m 32 ls []) := by
          intro N32
          induction N32 with
          | zero => intro k hk hN; exact absurd hN (Nat.not_lt_zero _)
          | succ N32 ih32 =>
            intro k hk hN H locs hP hD hS ls hl
            refine lv_iload_n hx hb dX5_findDistances_32 rfl (lv_at hl 2 rfl) ?_
            refine lv_bipush (v := (nI 8)) hx hb dX5_findDistances_33 (by decide) ?_
            refine lv_icmp_ge (tgt := 122) hx hb dX5_findDistances_35 (by decide) (fun h_2 => ?_) (fun h_2 => ?_)
            · have h_2 := (nI_leI (a := 8) (b := k) (by first | omega | exact bits_lt31 _ | exact bitN_lt _ _ | exact bool_lt _ | exact and_lt31 _ _ _ _ | exact Nat.lt_of_le_of_lt (dst_lt _ _ _ (by omega) _) (by decide) | exact Nat.lt_of_le_of_lt (nrB_le _ _ _ (by omega)).2 (by decide) | decide) (by first | omega | exact bits_lt31 _ | exact bitN_lt _ _ | exact bool_lt _ | exact and_lt31 _ _ _ _ | exact Nat.lt_of_le_of_lt (dst_lt _ _ _ (by omega) _) (by decide) | exact Nat.lt_of_le_of_lt (nrB_le _ _ _ (by omega)).2 (by decide) | decide)).mp h_2
              have hk8 : k = 8 := by omega
              rw [hk8] at hP hD
              have hD := hD.set (p := 5) (e := .inl (cI, 8, .inl (dsF F Q0 s9 7))) rfl
              have hP := P_set (dsF F Q0 s9 7) hP 5 rfl (fun j hj => (by rw [dsF, dsF, dst_8 hj]))
              have hP : va_P D vwCl ([(ad 0, .inr (5, [.int th, .ref (ad 1), .ref (ad 2), .ref (ad 3), .int sv, .ref (ad 4), .int ln, .int vs, .ref (ad 5), .ref (ad 6), .int rl, .int cm, .int fi, .int se])), (ad 1, .inl (cI, 221, .inl z)), (ad 2, .inl (cI, 221, .inl zs)), (ad 3, .inl (cI, 1768, .inl sd)), (ad 4, .inl (cI, 80, .inl tx)), (ad 5, .inl (cI, 8, .inl (dsF F Q0 s9 7))), (ad 6, .inl (cI, 8, .inl rg))]) H := hP
              have hD : va_D A ([(ad 0, .inr (5, [.int th, .ref (ad 1), .ref (ad 2), .ref (ad 3), .int sv, .ref (ad 4), .int ln, .int vs, .ref (ad 5), .ref (ad 6), .int rl, .int cm, .int fi, .int se])), (ad 1, .inl (cI, 221, .inl z)), (ad 2, .inl (cI, 221, .inl zs)), (ad 3, .inl (cI, 1768, .inl sd)), (ad 4, .inl (cI, 80, .inl tx)), (ad 5, .inl (cI, 8, .inl (dsF F Q0 s9 7))), (ad 6, .inl (cI, 8, .inl rg))]) := hD
              exact ret_v (u := ()) hQ hx hb hrt hlk hS dX5_findDistances_122 hP trivial
            · have h_2 := mt (nI_leI (a := 8) (b := k) (by first | omega | exact bits_lt31 _ | exact bitN_lt _ _ | exact bool_lt _ | exact and_lt31 _ _ _ _ | exact Nat.lt_of_le_of_lt (dst_lt _ _ _ (by omega) _) (by decide) | exact Nat.lt_of_le_of_lt (nrB_le _ _ _ (by omega)).2 (by decide) | decide) (by first | omega | exact bits_lt31 _ | exact bitN_lt _ _ | exact bool_lt _ | exact and_lt31 _ _ _ _ | exact Nat.lt_of_le_of_lt (dst_lt _ _ _ (by omega) _) (by decide) | exact Nat.lt_of_le_of_lt (nrB_le _ _ _ (by omega)).2 (by decide) | decide)).mpr h_2
              refine lv_iconst (v := (nI 0)) hx hb dX5_findDistances_38 (by decide) ?_
              refine lv_istore_n (lv' := [(3, .int (nI 0)), (0, .ref (ad 0)), (1, .int (nI s9)), (2, .int (nI k))]) hx hb dX5_findDistances_39 rfl hl (by decide) rfl (fun ls hl => ?_)
              have L40 : ∀ (N : Nat) (i : Nat), (i ≤ 8) → (8 - i) < N → ∀ (H : Heap) (locs : List Loc), va_P D vwCl ([(ad 0, .inr (5, [.int th, .ref (ad 1), .ref (ad 2), .ref (ad 3), .int sv, .ref (ad 4), .int ln, .int vs, .ref (ad 5), .ref (ad 6), .int rl, .int cm, .int fi, .int se])), (ad 1, .inl (cI, 221, .inl z)), (ad 2, .inl (cI, 221, .inl zs)), (ad 3, .inl (cI, 1768, .inl sd)), (ad 4, .inl (cI, 80, .inl tx)), (ad 5, .inl (cI, 8, .inl (dsA F Q0 s9 k i 0))), (ad 6, .inl (cI, 8, .inl rg))]) H → va_D A ([(ad 0, .inr (5, [.int th, .ref (ad 1), .ref (ad 2), .ref (ad 3), .int sv, .ref (ad 4), .int ln, .int vs, .ref (ad 5), .ref (ad 6), .int rl, .int cm, .int fi, .int se])), (ad 1, .inl (cI, 221, .inl z)), (ad 2, .inl (cI, 221, .inl zs)), (ad 3, .inl (cI, 1768, .inl sd)), (ad 4, .inl (cI, 80, .inl tx)), (ad 5, .inl (cI, 8, .inl (dsA F Q0 s9 k i 0))), (ad 6, .inl (cI, 8, .inl rg))]) → va_S A s.heap H locs → ∀ ls : Array Slot, lv_has ls 5 [(0, .ref (ad 0)), (1, .int (nI s9)), (2, .int (nI k)), (3, .int (nI i))] → W p l e rX5_findDistances s m args below meth c H locs 0 0 Q (F0 m 40 ls []) := by
                intro N40
                induction N40 with
                | zero => intro i hi hN; exact absurd hN (Nat.not_lt_zero _)
                | succ N40 ih40 =>
                  intro i hi hN H locs hP hD hS ls hl
                  refine lv_iload_n hx hb dX5_findDistances_40 rfl (lv_at hl 3 rfl) ?_
                  refine lv_bipush (v := (nI 8)) hx hb dX5_findDistances_41 (by decide) ?_
                  refine lv_icmp_ge (tgt := 116) hx hb dX5_findDistances_43 (by decide) (fun h_3 => ?_) (fun h_3 => ?_)
                  · have h_3 := (nI_leI (a := 8) (b := i) (by first | omega | exact bits_lt31 _ | exact bitN_lt _ _ | exact bool_lt _ | exact and_lt31 _ _ _ _ | exact Nat.lt_of_le_of_lt (dst_lt _ _ _ (by omega) _) (by decide) | exact Nat.lt_of_le_of_lt (nrB_le _ _ _ (by omega)).2 (by decide) | decide) (by first | omega | exact bits_lt31 _ | exact bitN_lt _ _ | exact bool_lt _ | exact and_lt31 _ _ _ _ | exact Nat.lt_of_le_of_lt (dst_lt _ _ _ (by omega) _) (by decide) | exact Nat.lt_of_le_of_lt (nrB_le _ _ _ (by omega)).2 (by decide) | decide)).mp h_3
                    have hi8 : i = 8 := by omega
                    rw [hi8] at hP hD
                    have hD := hD.set (p := 5) (e := .inl (cI, 8, .inl (dsF F Q0 s9 (k + 1)))) rfl
                    have hP := P_set (dsF F Q0 s9 (k + 1)) hP 5 rfl (fun j hj => (dsA_r hj))
                    have hP : va_P D vwCl ([(ad 0, .inr (5, [.int th, .ref (ad 1), .ref (ad 2), .ref (ad 3), .int sv, .ref (ad 4), .int ln, .int vs, .ref (ad 5), .ref (ad 6), .int rl, .int cm, .int fi, .int se])), (ad 1, .inl (cI, 221, .inl z)), (ad 2, .inl (cI, 221, .inl zs)), (ad 3, .inl (cI, 1768, .inl sd)), (ad 4, .inl (cI, 80, .inl tx)), (ad 5, .inl (cI, 8, .inl (dsF F Q0 s9 (k + 1)))), (ad 6, .inl (cI, 8, .inl rg))]) H := hP
                    have hD : va_D A ([(ad 0, .inr (5, [.int th, .ref (ad 1), .ref (ad 2), .ref (ad 3), .int sv, .ref (ad 4), .int ln, .int vs, .ref (ad 5), .ref (ad 6), .int rl, .int cm, .int fi, .int se])), (ad 1, .inl (cI, 221, .inl z)), (ad 2, .inl (cI, 221, .inl zs)), (ad 3, .inl (cI, 1768, .inl sd)), (ad 4, .inl (cI, 80, .inl tx)), (ad 5, .inl (cI, 8, .inl (dsF F Q0 s9 (k + 1)))), (ad 6, .inl (cI, 8, .inl rg))]) := hD
                    refine lv_iinc (v := (nI (k + 1))) (lv' := [(2, .int (nI (k + 1))), (0, .ref (ad 0)), (1, .int (nI s9)), (3, .int (nI i))]) hx hb dX5_findDistances_116 hl (k := 2) rfl (nI_add _ 1) (by decide) rfl (fun ls hl => ?_)
                    refine lv_goto (tgt := 32) hx hb dX5_findDistances_119 (by decide) ?_
                    exact ih32 (k + 1) (by omega) (by omega) _ _ hP hD hS _ (lv_sub hl [1, 2, 0] rfl)
                  · have h_3 := mt (nI_leI (a := 8) (b := i) (by first | omega | exact bits_lt31 _ | exact bitN_lt _ _ | exact bool_lt _ | exact and_lt31 _ _ _ _ | exact Nat.lt_of_le_of_lt (dst_lt _ _ _ (by omega) _) (by decide) | exact Nat.lt_of_le_of_lt (nrB_le _ _ _ (by omega)).2 (by decide) | decide) (by first | omega | exact bits_lt31 _ | exact bitN_lt _ _ | exact bool_lt _ | exact and_lt31 _ _ _ _ | exact Nat.lt_of_le_of_lt (dst_lt _ _ _ (by omega) _) (by decide) | exact Nat.lt_of_le_of_lt (nrB_le _ _ _ (by omega)).2 (by decide) | decide)).mpr h_3
                    refine lv_iconst (v := (nI 0)) hx hb dX5_findDistances_46 (by decide) ?_
                    refine lv_istore (lv' := [(4, .int (nI 0)), (0, .ref (ad 0)), (1, .int (nI s9)), (2, .int (nI k)), (3, .int (nI i))]) hx hb dX5_findDistances_47 hl (by decide) rfl (fun ls hl => ?_)
                    have L49 : ∀ (N : Nat) (n : Nat), (n ≤ 8) → (8 - n) < N → ∀ (H : Heap) (locs : List Loc), va_P D vwCl ([(ad 0, .inr (5, [.int th, .ref (ad 1), .ref (ad 2), .ref (ad 3), .int sv, .ref (ad 4), .int ln, .int vs, .ref (ad 5), .ref (ad 6), .int rl, .int cm, .int fi, .int se])), (ad 1, .inl (cI, 221, .inl z)), (ad 2, .inl (cI, 221, .inl zs)), (ad 3, .inl (cI, 1768, .inl sd)), (ad 4, .inl (cI, 80, .inl tx)), (ad 5, .inl (cI, 8, .inl (dsA F Q0 s9 k i n))), (ad 6, .inl (cI, 8, .inl rg))]) H → va_D A ([(ad 0, .inr (5, [.int th, .ref (ad 1), .ref (ad 2), .ref (ad 3), .int sv, .ref (ad 4), .int ln, .int vs, .ref (ad 5), .ref (ad 6), .int rl, .int cm, .int fi, .int se])), (ad 1, .inl (cI, 221, .inl z)), (ad 2, .inl (cI, 221, .inl zs)), (ad 3, .inl (cI, 1768, .inl sd)), (ad 4, .inl (cI, 80, .inl tx)), (ad 5, .inl (cI, 8, .inl (dsA F Q0 s9 k i n))), (ad 6, .inl (cI, 8, .inl rg))]) → va_S A s.heap H locs → ∀ ls : Array Slot, lv_has ls 5 [(0, .ref (ad 0)), (1, .int (nI s9)), (2, .int (nI k)), (3, .int (nI i)), (4, .int (nI n))] → W p l e rX5_findDistances s m args below meth c H locs 0 0 Q (F0 m 49 ls []) := by
                      intro N49
                      induction N49 with
                      | zero => intro n hn hN; exact absurd hN (Nat.not_lt_zero _)
                      | succ N49 ih49 =>
                        intro n hn hN H locs hP hD hS ls hl
                        refine lv_iload hx hb dX5_findDistances_49 (lv_at hl 4 rfl) ?_
                        refine lv_bipush (v := (nI 8)) hx hb dX5_findDistances_51 (by decide) ?_
                        refine lv_icmp_ge (tgt := 110) hx hb dX5_findDistances_53 (by decide) (fun h_4 => ?_) (fun h_4 => ?_)
                        · have h_4 := (nI_leI (a := 8) (b := n) (by first | omega | exact bits_lt31 _ | exact bitN_lt _ _ | exact bool_lt _ | exact and_lt31 _ _ _ _ | exact Nat.lt_of_le_of_lt (dst_lt _ _ _ (by omega) _) (by decide) | exact Nat.lt_of_le_of_lt (nrB_le _ _ _ (by omega)).2 (by decide) | decide) (by first | omega | exact bits_lt31 _ | exact bitN_lt _ _ | exact bool_lt _ | exact and_lt31 _ _ _ _ | exact Nat.lt_of_le_of_lt (dst_lt _ _ _ (by omega) _) (by decide) | exact Nat.lt_of_le_of_lt (nrB_le _ _ _ (by omega)).2 (by decide) | decide)).mp h_4
                          refine lv_iinc (v := (nI (i + 1))) (lv' := [(3, .int (nI (i + 1))), (0, .ref (ad 0)), (1, .int (nI s9)), (2, .int (nI k)), (4, .int (nI n))]) hx hb dX5_findDistances_110 hl (k := 3) rfl (nI_add _ 1) (by decide) rfl (fun ls hl => ?_)
                          refine lv_goto (tgt := 40) hx hb dX5_findDistances_113 (by decide) ?_
                          exact ih40 (i + 1) (by omega) (by omega) _ _ (by rw [← dsA_e hn (Or.inl (by omega))]; exact hP) (by rw [← dsA_e hn (Or.inl (by omega))]; exact hD) hS _ (lv_sub hl [1, 2, 3, 0] rfl)
                        · have h_4 := mt (nI_leI (a := 8) (b := n) (by first | omega | exact bits_lt31 _ | exact bitN_lt _ _ | exact bool_lt _ | exact and_lt31 _ _ _ _ | exact Nat.lt_of_le_of_lt (dst_lt _ _ _ (by omega) _) (by decide) | exact Nat.lt_of_le_of_lt (nrB_le _ _ _ (by omega)).2 (by decide) | decide) (by first | omega | exact bits_lt31 _ | exact bitN_lt _ _ | exact bool_lt _ | exact and_lt31 _ _ _ _ | exact Nat.lt_of_le_of_lt (dst_lt _ _ _ (by omega) _) (by decide) | exact Nat.lt_of_le_of_lt (nrB_le _ _ _ (by omega)).2 (by decide) | decide)).mpr h_4
                          refine lv_aload_n hx hb dX5_findDistances_56 rfl (lv_at hl 0 rfl) ?_
                          refine va_get (D := D) (ci := 5) (v := .ref (ad 5)) (C := RX5) (T := TX5) (N := 14) hx hb hts iX5 hown hK hP 0 rfl rfl 8 (by decide) f22 (fun _ h9 => h9) rfl dX5_findDistances_57 ?_
                          refine lv_iload_n hx hb dX5_findDistances_60 rfl (lv_at hl 3 rfl) ?_
                          refine r_ild (k := i) hx hb hK hP 5 rfl (by omega) (by decide) dX5_findDistances_61 ?_
                          refine tpe (y := bI (dnN F Q0 s9 k i n)) dsA_at ?_
                          refine lv_if_ge (tgt := 110) hx hb dX5_findDistances_62 (by decide) (fun h_5 => ?_) (fun h_5 => ?_)
                          · have h_5 := h_5
                            refine lv_iinc (v := (nI (i + 1))) (lv' := [(3, .int (nI (i + 1))), (0, .ref (ad 0)), (1, .int (nI s9)), (2, .int (nI k)), (4, .int (nI n))]) hx hb dX5_findDistances_110 hl (k := 3) rfl (nI_add _ 1) (by decide) rfl (fun ls hl => ?_)
                            refine lv_goto (tgt := 40) hx hb dX5_findDistances_113 (by decide) ?_
                            exact ih40 (i + 1) (by omega) (by omega) _ _ (by rw [← dsA_e hn (Or.inr ((bI_nn (dnN_le (by omega))).mp h_5))]; exact hP) (by rw [← dsA_e hn (Or.inr ((bI_nn (dnN_le (by omega))).mp h_5))]; exact hD) hS _ (lv_sub hl [1, 2, 3, 0] rfl)
                          · have h_5 := h_5
                            have h8 : dnN F Q0 s9 k i n = 8 := Decidable.byContradiction (fun q => h_5 ((bI_nn (dnN_le (by omega))).mpr q))
                            refine lv_aload_n hx hb dX5_findDistances_65 rfl (lv_at hl 0 rfl) ?_
                            refine va_get (D := D) (ci := 5) (v := .ref (ad 5)) (C := RX5) (T := TX5) (N := 14) hx hb hts iX5 hown hK hP 0 rfl rfl 8 (by decide) f22 (fun _ h9 => h9) rfl dX5_findDistances_66 ?_
                            refine lv_iload_n hx hb dX5_findDistances_69 rfl (lv_at hl 3 rfl) ?_
                            refine lv_aload_n hx hb dX5_findDistances_70 rfl (lv_at hl 0 rfl) ?_
                            refine va_get (D := D) (ci := 5) (v := .ref (ad 5)) (C := RX5) (T := TX5) (N := 14) hx hb hts iX5 hown hK hP 0 rfl rfl 8 (by decide) f22 (fun _ h9 => h9) rfl dX5_findDistances_71 ?_
                            refine lv_iload hx hb dX5_findDistances_74 (lv_at hl 4 rfl) ?_
                            refine r_ild (k := n) hx hb hK hP 5 rfl (by omega) (by decide) dX5_findDistances_76 ?_
                            refine lv_iload_n hx hb dX5_findDistances_77 rfl (lv_at hl 2 rfl) ?_
                            refine lv_icmp_ne (tgt := 97) hx hb dX5_findDistances_78 (by decide) (fun h_6 => ?_) (fun h_6 => ?_)
                            · have h_6 := h_6
                              refine lv_aload_n hx hb dX5_findDistances_97 rfl (lv_at hl 0 rfl) ?_
                              refine va_get (D := D) (ci := 5) (v := .ref (ad 5)) (C := RX5) (T := TX5) (N := 14) hx hb hts iX5 hown hK hP 0 rfl rfl 8 (by decide) f22 (fun _ h9 => h9) rfl dX5_findDistances_98 ?_
                              refine lv_iload_n hx hb dX5_findDistances_101 rfl (lv_at hl 3 rfl) ?_
                              refine r_ild (k := i) hx hb hK hP 5 rfl (by omega) (by decide) dX5_findDistances_102 ?_
                              refine r_ist (k := i) hx hb hK hP hD hS 5 rfl (by omega) (by decide) dX5_findDistances_103 (fun H locs hP hD hS => ?_)
                              have hP : va_P D vwCl ([(ad 0, .inr (5, [.int th, .ref (ad 1), .ref (ad 2), .ref (ad 3), .int sv, .ref (ad 4), .int ln, .int vs, .ref (ad 5), .ref (ad 6), .int rl, .int cm, .int fi, .int se])), (ad 1, .inl (cI, 221, .inl z)), (ad 2, .inl (cI, 221, .inl zs)), (ad 3, .inl (cI, 1768, .inl sd)), (ad 4, .inl (cI, 80, .inl tx)), (ad 5, .inl (cI, 8, .inl (upd (dsA F Q0 s9 k i n) i ((dsA F Q0 s9 k i n) i)))), (ad 6, .inl (cI, 8, .inl rg))]) H := hP
                              have hD : va_D A ([(ad 0, .inr (5, [.int th, .ref (ad 1), .ref (ad 2), .ref (ad 3), .int sv, .ref (ad 4), .int ln, .int vs, .ref (ad 5), .ref (ad 6), .int rl, .int cm, .int fi, .int se])), (ad 1, .inl (cI, 221, .inl z)), (ad 2, .inl (cI, 221, .inl zs)), (ad 3, .inl (cI, 1768, .inl sd)), (ad 4, .inl (cI, 80, .inl tx)), (ad 5, .inl (cI, 8, .inl (upd (dsA F Q0 s9 k i n) i ((dsA F Q0 s9 k i n) i)))), (ad 6, .inl (cI, 8, .inl rg))]) := hD
                              refine lv_iinc (v := (nI (n + 1))) (lv' := [(4, .int (nI (n + 1))), (0, .ref (ad 0)), (1, .int (nI s9)), (2, .int (nI k)), (3, .int (nI i))]) hx hb dX5_findDistances_104 hl (k := 4) rfl (nI_add _ 1) (by decide) rfl (fun ls hl => ?_)
                              refine lv_goto (tgt := 49) hx hb dX5_findDistances_107 (by decide) ?_
                              exact ih49 (n + 1) (by omega) (by omega) _ _ (by rw [← dsA_n (fun q => h_6 ((dsA_k (by omega) h8).mpr q.1))]; exact hP) (by rw [← dsA_n (fun q => h_6 ((dsA_k (by omega) h8).mpr q.1))]; exact hD) hS _ (lv_sub hl [1, 2, 3, 4, 0] rfl)
                            · have h_6 := h_6
                              refine lv_aload_n hx hb dX5_findDistances_81 rfl (lv_at hl 0 rfl) ?_
                              refine lv_iload_n hx hb dX5_findDistances_82 rfl (lv_at hl 3 rfl) ?_
                              refine lv_iload hx hb dX5_findDistances_83 (lv_at hl 4 rfl) ?_
                              refine call_i (X := []) (Z := []) (As := [.int (nI i), .int (nI n)]) (rest := [.int (nI i), .ref (ad 5)]) ⟨hx, hb, hml, hown, hts⟩ (c_X5_waits l D cI cT ad th sv ln vs rl cm fi se z zs sd tx (dsA F Q0 s9 k i n) rg F Q0 i n (by omega) (by omega) hZ hJ) (cwV 2 hts gX5_findDistances_X5_waits rfl rfl rfl (by decide +kernel) ⟨Nat.le_of_ble_eq_true rfl, Nat.le_of_ble_eq_true rfl⟩) hK hP hD hS hA (va_recv hK hP (ci := 5) (q0 := 0) rfl rfl) (fun _ => rfl) rfl hl.1 rfl (Nat.le_of_ble_eq_true rfl) ⟨by decide, by decide⟩ dX5_findDistances_85 (fun rv _ H locs hp hP hD hS => ?_)
                              obtain rfl := hp
                              have hP : va_P D vwCl ([(ad 0, .inr (5, [.int th, .ref (ad 1), .ref (ad 2), .ref (ad 3), .int sv, .ref (ad 4), .int ln, .int vs, .ref (ad 5), .ref (ad 6), .int rl, .int cm, .int fi, .int se])), (ad 1, .inl (cI, 221, .inl z)), (ad 2, .inl (cI, 221, .inl zs)), (ad 3, .inl (cI, 1768, .inl sd)), (ad 4, .inl (cI, 80, .inl tx)), (ad 5, .inl (cI, 8, .inl (dsA F Q0 s9 k i n))), (ad 6, .inl (cI, 8, .inl rg))]) H := hP
                              have hD : va_D A ([(ad 0, .inr (5, [.int th, .ref (ad 1), .ref (ad 2), .ref (ad 3), .int sv, .ref (ad 4), .int ln, .int vs, .ref (ad 5), .ref (ad 6), .int rl, .int cm, .int fi, .int se])), (ad 1, .inl (cI, 221, .inl z)), (ad 2, .inl (cI, 221, .inl zs)), (ad 3, .inl (cI, 1768, .inl sd)), (ad 4, .inl (cI, 80, .inl tx)), (ad 5, .inl (cI, 8, .inl (dsA F Q0 s9 k i n))), (ad 6, .inl (cI, 8, .inl rg))]) := hD
                              refine lv_if_eq (tgt := 97) hx hb dX5_findDistances_88 (by decide) (fun h_7 => ?_) (fun h_7 => ?_)
                              · have h_7 := (nI_eq (a := ((awB F Q0 i n).toNat)) (b := 0) (by first | omega | exact bits_lt31 _ | exact bitN_lt _ _ | exact bool_lt _ | exact and_lt31 _ _ _ _ | exact Nat.lt_of_le_of_lt (dst_lt _ _ _ (by omega) _) (by decide) | exact Nat.lt_of_le_of_lt (nrB_le _ _ _ (by omega)).2 (by decide) | decide) (by first | omega | exact bits_lt31 _ | exact bitN_lt _ _ | exact bool_lt _ | exact and_lt31 _ _ _ _ | exact Nat.lt_of_le_of_lt (dst_lt _ _ _ (by omega) _) (by decide) | exact Nat.lt_of_le_of_lt (nrB_le _ _ _ (by omega)).2 (by decide) | decide)).mp h_7
                                have h_7 := tn_f h_7
                                refine lv_aload_n hx hb dX5_findDistances_97 rfl (lv_at hl 0 rfl) ?_
                                refine va_get (D := D) (ci := 5) (v := .ref (ad 5)) (C := RX5) (T := TX5) (N := 14) hx hb hts iX5 hown hK hP 0 rfl rfl 8 (by decide) f22 (fun _ h9 => h9) rfl dX5_findDistances_98 ?_
                                refine lv_iload_n hx hb dX5_findDistances_101 rfl (lv_at hl 3 rfl) ?_
                                refine r_ild (k := i) hx hb hK hP 5 rfl (by omega) (by decide) dX5_findDistances_102 ?_
                                refine r_ist (k := i) hx hb hK hP hD hS 5 rfl (by omega) (by decide) dX5_findDistances_103 (fun H locs hP hD hS => ?_)
                                have hP : va_P D vwCl ([(ad 0, .inr (5, [.int th, .ref (ad 1), .ref (ad 2), .ref (ad 3), .int sv, .ref (ad 4), .int ln, .int vs, .ref (ad 5), .ref (ad 6), .int rl, .int cm, .int fi, .int se])), (ad 1, .inl (cI, 221, .inl z)), (ad 2, .inl (cI, 221, .inl zs)), (ad 3, .inl (cI, 1768, .inl sd)), (ad 4, .inl (cI, 80, .inl tx)), (ad 5, .inl (cI, 8, .inl (upd (dsA F Q0 s9 k i n) i ((dsA F Q0 s9 k i n) i)))), (ad 6, .inl (cI, 8, .inl rg))]) H := hP
                                have hD : va_D A ([(ad 0, .inr (5, [.int th, .ref (ad 1), .ref (ad 2), .ref (ad 3), .int sv, .ref (ad 4), .int ln, .int vs, .ref (ad 5), .ref (ad 6), .int rl, .int cm, .int fi, .int se])), (ad 1, .inl (cI, 221, .inl z)), (ad 2, .inl (cI, 221, .inl zs)), (ad 3, .inl (cI, 1768, .inl sd)), (ad 4, .inl (cI, 80, .inl tx)), (ad 5, .inl (cI, 8, .inl (upd (dsA F Q0 s9 k i n) i ((dsA F Q0 s9 k i n) i)))), (ad 6, .inl (cI, 8, .inl rg))]) := hD
                                refine lv_iinc (v := (nI (n + 1))) (lv' := [(4, .int (nI (n + 1))), (0, .ref (ad 0)), (1, .int (nI s9)), (2, .int (nI k)), (3, .int (nI i))]) hx hb dX5_findDistances_104 hl (k := 4) rfl (nI_add _ 1) (by decide) rfl (fun ls hl => ?_)
                                refine lv_goto (tgt := 49) hx hb dX5_findDistances_107 (by decide) ?_
                                exact ih49 (n + 1) (by omega) (by omega) _ _ (by rw [← dsA_n (fun q => by rw [q.2] at h_7; cases h_7)]; exact hP) (by rw [← dsA_n (fun q => by rw [q.2] at h_7; cases h_7)]; exact hD) hS _ (lv_sub hl [1, 2, 3, 4, 0] rfl)
                              · have h_7 := mt (nI_eq (a := ((awB F Q0 i n).toNat)) (b := 0) (by first | omega | exact bits_lt31 _ | exact bitN_lt _ _ | exact bool_lt _ | exact and_lt31 _ _ _ _ | exact Nat.lt_of_le_of_lt (dst_lt _ _ _ (by omega) _) (by decide) | exact Nat.lt_of_le_of_lt (nrB_le _ _ _ (by omega)).2 (by decide) | decide) (by first | omega | exact bits_lt31 _ | exact bitN_lt _ _ | exact bool_lt _ | exact and_lt31 _ _ _ _ | exact Nat.lt_of_le_of_lt (dst_lt _ _ _ (by omega) _) (by decide) | exact Nat.lt_of_le_of_lt (nrB_le _ _ _ (by omega)).2 (by decide) | decide)).mpr h_7
                                have h_7 := tn_y h_7
                                refine lv_iload_n hx hb dX5_findDistances_91 rfl (lv_at hl 2 rfl) ?_
                                refine lv_iconst (v := (nI 1)) hx hb dX5_findDistances_92 (by decide) ?_
                                refine lv_iadd hx hb dX5_findDistances_93 ?_
                                refine tpe (y := (nI (k + 1))) (nI_add _ _) ?_
                                refine lv_goto (tgt := 103) hx hb dX5_findDistances_94 (by decide) ?_
                                refine r_ist (k := i) hx hb hK hP hD hS 5 rfl (by omega) (by decide) dX5_findDistances_103 (fun H locs hP hD hS => ?_)
                                have hP : va_P D vwCl ([(ad 0, .inr (5, [.int th, .ref (ad 1), .ref (ad 2), .ref (ad 3), .int sv, .ref (ad 4), .int ln, .int vs, .ref (ad 5), .ref (ad 6), .int rl, .int cm, .int fi, .int se])), (ad 1, .inl (cI, 221, .inl z)), (ad 2, .inl (cI, 221, .inl zs)), (ad 3, .inl (cI, 1768, .inl sd)), (ad 4, .inl (cI, 80, .inl tx)), (ad 5, .inl (cI, 8, .inl (upd (dsA F Q0 s9 k i n) i (nI (k + 1))))), (ad 6, .inl (cI, 8, .inl rg))]) H := hP
                                have hD : va_D A ([(ad 0, .inr (5, [.int th, .ref (ad 1), .ref (ad 2), .ref (ad 3), .int sv, .ref (ad 4), .int ln, .int vs, .ref (ad 5), .ref (ad 6), .int rl, .int cm, .int fi, .int se])), (ad 1, .inl (cI, 221, .inl z)), (ad 2, .inl (cI, 221, .inl zs)), (ad 3, .inl (cI, 1768, .inl sd)), (ad 4, .inl (cI, 80, .inl tx)), (ad 5, .inl (cI, 8, .inl (upd (dsA F Q0 s9 k i n) i (nI (k + 1))))), (ad 6, .inl (cI, 8, .inl rg))]) := hD
                                refine lv_iinc (v := (nI (n + 1))) (lv' := [(4, .int (nI (n + 1))), (0, .ref (ad 0)), (1, .int (nI s9)), (2, .int (nI k)), (3, .int (nI i))]) hx hb dX5_findDistances_104 hl (k := 4) rfl (nI_add _ 1) (by decide) rfl (fun ls hl => ?_)
                                refine lv_goto (tgt := 49) hx hb dX5_findDistances_107 (by decide) ?_
                                exact ih49 (n + 1) (by omega) (by omega) _ _ (by rw [← dsA_y (by omega) (by omega) (by omega) h8 ((dsA_k (by omega) h8).mp h_6) h_7]; exact hP) (by rw [← dsA_y (by omega) (by omega) (by omega) h8 ((dsA_k (by omega) h8).mp h_6) h_7]; exact hD) hS _ (lv_sub hl [1, 2, 3, 4, 0] rfl)
                    exact L49 _ 0 (Nat.zero_le _) (Nat.lt_succ_self _) _ _ hP hD hS _ (lv_sub hl [1, 2, 3, 4, 0] rfl)
              exact L40 _ 0 (Nat.zero_le _) (Nat.lt_succ_self _) _ _ (by rw [dsA_0]; exact hP) (by rw [dsA_0]; exact hD) hS _ (lv_sub hl [1, 2, 3, 0] rfl)
        exact L32 _ 0 (Nat.zero_le _) (Nat.lt_succ_self _) _ _ hP hD hS _ (lv_sub hl [1, 2, 0] rfl)
      · have h_1 := mt (nI_leI (a := 8) (b := i) (by first | omega | exact bits_lt31 _ | exact bitN_lt _ _ | exact bool_lt _ | exact and_lt31 _ _ _ _ | exact Nat.lt_of_le_of_lt (dst_lt _ _ _ (by omega) _) (by decide) | exact Nat.lt_of_le_of_lt (nrB_le _ _ _ (by omega)).2 (by decide) | decide) (by first | omega | exact bits_lt31 _ | exact bitN_lt _ _ | exact bool_lt _ | exact and_lt31 _ _ _ _ | exact Nat.lt_of_le_of_lt (dst_lt _ _ _ (by omega) _) (by decide) | exact Nat.lt_of_le_of_lt (nrB_le _ _ _ (by omega)).2 (by decide) | decide)).mpr h_1
        refine lv_aload_n hx hb dX5_findDistances_8 rfl (lv_at hl 0 rfl) ?_
        refine va_get (D := D) (ci := 5) (v := .ref (ad 5)) (C := RX5) (T := TX5) (N := 14) hx hb hts iX5 hown hK hP 0 rfl rfl 8 (by decide) f22 (fun _ h9 => h9) rfl dX5_findDistances_9 ?_
        refine lv_iload_n hx hb dX5_findDistances_12 rfl (lv_at hl 2 rfl) ?_
        refine lv_iload_n hx hb dX5_findDistances_13 rfl (lv_at hl 2 rfl) ?_
        refine lv_iload_n hx hb dX5_findDistances_14 rfl (lv_at hl 1 rfl) ?_
        refine lv_icmp_ne (tgt := 22) hx hb dX5_findDistances_15 (by decide) (fun h_8 => ?_) (fun h_8 => ?_)
        · have h_8 := mt (nI_eq (a := i) (b := s9) (by first | omega | exact bits_lt31 _ | exact bitN_lt _ _ | exact bool_lt _ | exact and_lt31 _ _ _ _ | exact Nat.lt_of_le_of_lt (dst_lt _ _ _ (by omega) _) (by decide) | exact Nat.lt_of_le_of_lt (nrB_le _ _ _ (by omega)).2 (by decide) | decide) (by first | omega | exact bits_lt31 _ | exact bitN_lt _ _ | exact bool_lt _ | exact and_lt31 _ _ _ _ | exact Nat.lt_of_le_of_lt (dst_lt _ _ _ (by omega) _) (by decide) | exact Nat.lt_of_le_of_lt (nrB_le _ _ _ (by omega)).2 (by decide) | decide)).mpr h_8
          refine lv_iconst (v := (-1)) hx hb dX5_findDistances_22 (by decide) ?_
          refine r_ist (k := i) hx hb hK hP hD hS 5 rfl (by omega) (by decide) dX5_findDistances_23 (fun H locs hP hD hS => ?_)
          have hP : va_P D vwCl ([(ad 0, .inr (5, [.int th, .ref (ad 1), .ref (ad 2), .ref (ad 3), .int sv, .ref (ad 4), .int ln, .int vs, .ref (ad 5), .ref (ad 6), .int rl, .int cm, .int fi, .int se])), (ad 1, .inl (cI, 221, .inl z)), (ad 2, .inl (cI, 221, .inl zs)), (ad 3, .inl (cI, 1768, .inl sd)), (ad 4, .inl (cI, 80, .inl tx)), (ad 5, .inl (cI, 8, .inl (upd (mixI (dsF F Q0 s9 0) ds i) i (-1)))), (ad 6, .inl (cI, 8, .inl rg))]) H := hP
          have hD : va_D A ([(ad 0, .inr (5, [.int th, .ref (ad 1), .ref (ad 2), .ref (ad 3), .int sv, .ref (ad 4), .int ln, .int vs, .ref (ad 5), .ref (ad 6), .int rl, .int cm, .int fi, .int se])), (ad 1, .inl (cI, 221, .inl z)), (ad 2, .inl (cI, 221, .inl zs)), (ad 3, .inl (cI, 1768, .inl sd)), (ad 4, .inl (cI, 80, .inl tx)), (ad 5, .inl (cI, 8, .inl (upd (mixI (dsF F Q0 s9 0) ds i) i (-1)))), (ad 6, .inl (cI, 8, .inl rg))]) := hD
          refine lv_iinc (v := (nI (i + 1))) (lv' := [(2, .int (nI (i + 1))), (0, .ref (ad 0)), (1, .int (nI s9))]) hx hb dX5_findDistances_24 hl (k := 2) rfl (nI_add _ 1) (by decide) rfl (fun ls hl => ?_)
          refine lv_goto (tgt := 2) hx hb dX5_findDistances_27 (by decide) ?_
          exact ih2 (i + 1) (by omega) (by omega) _ _ (by rw [← mixI_v (g := dsF F Q0 s9 0) (w := ds) (i := i) (v := (-1)) (by rw [dsF_0, if_neg h_8])]; exact hP) (by rw [← mixI_v (g := dsF F Q0 s9 0) (w := ds) (i := i) (v := (-1)) (by rw [dsF_0, if_neg h_8])]; exact hD) hS _ (lv_sub hl [1, 2, 0] rfl)
        · have h_8 := (nI_eq (a := i) (b := s9) (by first | omega | exact bits_lt31 _ | exact bitN_lt _ _ | exact bool_lt _ | exact and_lt31 _ _ _ _ | exact Nat.lt_of_le_of_lt (dst_lt _ _ _ (by omega) _) (by decide) | exact Nat.lt_of_le_of_lt (nrB_le _ _ _ (by omega)).2 (by decide) | decide) (by first | omega | exact bits_lt31 _ | exact bitN_lt _ _ | exact bool_lt _ | exact and_lt31 _ _ _ _ | exact Nat.lt_of_le_of_lt (dst_lt _ _ _ (by omega) _) (by decide) | exact Nat.lt_of_le_of_lt (nrB_le _ _ _ (by omega)).2 (by decide) | decide)).mp h_8
          refine lv_iconst (v := (nI 0)) hx hb dX5_findDistances_18 (by decide) ?_
          refine lv_goto (tgt := 23) hx hb dX5_findDistances_19 (by decide) ?_
          refine r_ist (k := i) hx hb hK hP hD hS 5 rfl (by omega) (by decide) dX5_findDistances_23 (fun H locs hP hD hS => ?_)
          have hP : va_P D vwCl ([(ad 0, .inr (5, [.int th, .ref (ad 1), .ref (ad 2), .ref (ad 3), .int sv, .ref (ad 4), .int ln, .int vs, .ref (ad 5), .ref (ad 6), .int rl, .int cm, .int fi, .int se])), (ad 1, .inl (cI, 221, .inl z)), (ad 2, .inl (cI, 221, .inl zs)), (ad 3, .inl (cI, 1768, .inl sd)), (ad 4, .inl (cI, 80, .inl tx)), (ad 5, .inl (cI, 8, .inl (upd (mixI (dsF F Q0 s9 0) ds i) i (nI 0)))), (ad 6, .inl (cI, 8, .inl rg))]) H := hP
          have hD : va_D A ([(ad 0, .inr (5, [.int th, .ref (ad 1), .ref (ad 2), .ref (ad 3), .int sv, .ref (ad 4), .int ln, .int vs, .ref (ad 5), .ref (ad 6), .int rl, .int cm, .int fi, .int se])), (ad 1, .inl (cI, 221, .inl z)), (ad 2, .inl (cI, 221, .inl zs)), (ad 3, .inl (cI, 1768, .inl sd)), (ad 4, .inl (cI, 80, .inl tx)), (ad 5, .inl (cI, 8, .inl (upd (mixI (dsF F Q0 s9 0) ds i) i (nI 0)))), (ad 6, .inl (cI, 8, .inl rg))]) := hD
          refine lv_iinc (v := (nI (i + 1))) (lv' := [(2, .int (nI (i + 1))), (0, .ref (ad 0)), (1, .int (nI s9))]) hx hb dX5_findDistances_24 hl (k := 2) rfl (nI_add _ 1) (by decide) rfl (fun ls hl => ?_)
          refine lv_goto (tgt := 2) hx hb dX5_findDistances_27 (by decide) ?_
          exact ih2 (i + 1) (by omega) (by omega) _ _ (by rw [← mixI_v (g := dsF F Q0 s9 0) (w := ds) (i := i) (v := nI 0) (by rw [dsF_0, if_pos h_8]; rfl)]; exact hP) (by rw [← mixI_v (g := dsF F Q0 s9 0) (w := ds) (i := i) (v := nI 0) (by rw [dsF_0, if_pos h_8]; rfl)]; exact hD) hS _ (lv_sub hl [1, 2, 0] rfl)
  exact L2 _ 0 (Nat.zero_le _) (Nat.lt_succ_self _) _ _ (by rw [mixI_0]; exact hP) (by rw [mixI_0]; exact hD) hS _ (lv_sub hl [1, 2, 0] rfl)

abbrev rX5_findRing : Room := { frames := 4, cells := 0, slots := 0, locals := 92 }
set_option maxHeartbeats 1000000 in
set_option maxRecDepth 100000 in
theorem c_X5_findRing (l : Launch) (D : va_G) (cI cT : ClassId) (ad : Nat → Nat) (th sv ln vs rl cm fi se : Int32) (z zs sd tx ds rg : Nat → Int32) (F : FF) (Q0 : QQ) (t : Nat) (ht : t < 8) (hZ : RZ F Q0 z) (hJ : JJ F Q0) : CN l D cI cT yX5_findRing wsX5_findRing rX5_findRing [.ref (ad 0), .int (nI t)] (refW cI ad th sv ln vs rl cm fi se z zs sd tx ds rg) (S := (Nat → Int32) × Nat × (Nat → Nat)) (fun v u => v = nI (!(SRn F Q0 t == 0)).toNat ∧ RG F Q0 t u.1 u.2.1 u.2.2) (fun u => refW cI ad th sv ln vs (nI u.2.1) cm fi se z zs sd tx (dsF F Q0 t 7) u.1) := by
  refine CN.of (cc := cX5_findRing) (maxL := 5) (ret := (some .boolean)) (by decide) rfl (Nat.le_of_ble_eq_true rfl) ?_
  intro p e s m args below meth c A Q hQ B hA H locs hP hK hD hS ls hl
  obtain ⟨hx, hb, hml, hrt, hts, hown, hlk⟩ := B
  have hP : va_P D vwCl ([(ad 0, .inr (5, [.int th, .ref (ad 1), .ref (ad 2), .ref (ad 3), .int sv, .ref (ad 4), .int ln, .int vs, .ref (ad 5), .ref (ad 6), .int rl, .int cm, .int fi, .int se])), (ad 1, .inl (cI, 221, .inl z)), (ad 2, .inl (cI, 221, .inl zs)), (ad 3, .inl (cI, 1768, .inl sd)), (ad 4, .inl (cI, 80, .inl tx)), (ad 5, .inl (cI, 8, .inl ds)), (ad 6, .inl (cI, 8, .inl rg))]) H := hP
  have hD : va_D A ([(ad 0, .inr (5, [.int th, .ref (ad 1), .ref (ad 2), .ref (ad 3), .int sv, .ref (ad 4), .int ln, .int vs, .ref (ad 5), .ref (ad 6), .int rl, .int cm, .int fi, .int se])), (ad 1, .inl (cI, 221, .inl z)), (ad 2, .inl (cI, 221, .inl zs)), (ad 3, .inl (cI, 1768, .inl sd)), (ad 4, .inl (cI, 80, .inl tx)), (ad 5, .inl (cI, 8, .inl ds)), (ad 6, .inl (cI, 8, .inl rg))]) := hD
  have hl : lv_has ls 5 [(0, .ref (ad 0)), (1, .int (nI t))] := hl
  have iX5 : ∀ w ∈ u_ws RX5 TX5 14, w ∈ wsX5_findRing := by decide +kernel
  have f25 := hts (.fieldLink RX5 25 "LockManagerModel" "ring" "[I") (by decide +kernel)
  have f86 := hts (.fieldLink RX5 86 "LockManagerModel" "ringLength" "I") (by decide +kernel)
  have f22 := hts (.fieldLink RX5 22 "LockManagerModel" "distance" "[I") (by decide +kernel)
  refine lv_aload_n hx hb dX5_findRing_0 rfl (lv_at hl 0 rfl) ?_
  refine lv_iload_n hx hb dX5_findRing_1 rfl (lv_at hl 1 rfl) ?_
  refine call_v (X := []) (Z := []) (As := [.int (nI t)]) (rest := []) ⟨hx, hb, hml, hown, hts⟩ (c_X5_findDistances l D cI cT ad th sv ln vs rl cm fi se z zs sd tx ds rg F Q0 t (by omega) hZ hJ) (cwV 1 hts gX5_findRing_X5_findDistances rfl rfl rfl (by decide +kernel) ⟨Nat.le_of_ble_eq_true rfl, Nat.le_of_ble_eq_true rfl⟩) hK hP hD hS hA (va_recv hK hP (ci := 5) (q0 := 0) rfl rfl) (fun _ => adr_ref.trans adr_ref.symm) rfl hl.1 rfl (Nat.le_of_ble_eq_true rfl) ⟨by decide, by decide⟩ dX5_findRing_2 (fun _ H locs hp hP hD hS => ?_)
  have hP : va_P D vwCl ([(ad 0, .inr (5, [.int th, .ref (ad 1), .ref (ad 2), .ref (ad 3), .int sv, .ref (ad 4), .int ln, .int vs, .ref (ad 5), .ref (ad 6), .int rl, .int cm, .int fi, .int se])), (ad 1, .inl (cI, 221, .inl z)), (ad 2, .inl (cI, 221, .inl zs)), (ad 3, .inl (cI, 1768, .inl sd)), (ad 4, .inl (cI, 80, .inl tx)), (ad 5, .inl (cI, 8, .inl (dsF F Q0 t 7))), (ad 6, .inl (cI, 8, .inl rg))]) H := hP
  have hD : va_D A ([(ad 0, .inr (5, [.int th, .ref (ad 1), .ref (ad 2), .ref (ad 3), .int sv, .ref (ad 4), .int ln, .int vs, .ref (ad 5), .ref (ad 6), .int rl, .int cm, .int fi, .int se])), (ad 1, .inl (cI, 221, .inl z)), (ad 2, .inl (cI, 221, .inl zs)), (ad 3, .inl (cI, 1768, .inl sd)), (ad 4, .inl (cI, 80, .inl tx)), (ad 5, .inl (cI, 8, .inl (dsF F Q0 t 7))), (ad 6, .inl (cI, 8, .inl rg))]) := hD
  refine lv_iconst (v := (-1)) hx hb dX5_findRing_5 (by decide) ?_
  refine lv_istore_n (lv' := [(2, .int (-1)), (0, .ref (ad 0)), (1, .int (nI t))]) hx hb dX5_findRing_6 rfl hl (by decide) rfl (fun ls hl => ?_)
  refine lv_bipush (v := (nI 7)) hx hb dX5_findRing_7 (by decide) ?_
  refine lv_istore_n (lv' := [(3, .int (nI 7)), (2, .int (-1)), (0, .ref (ad 0)), (1, .int (nI t))]) hx hb dX5_findRing_9 rfl hl (by decide) rfl (fun ls hl => ?_)
  have L10 : ∀ (N : Nat) (n : Nat) (cn : Nat), (n + cn = 8) → (cn) < N → ∀ (H : Heap) (locs : List Loc), va_P D vwCl ([(ad 0, .inr (5, [.int th, .ref (ad 1), .ref (ad 2), .ref (ad 3), .int sv, .ref (ad 4), .int ln, .int vs, .ref (ad 5), .ref (ad 6), .int rl, .int cm, .int fi, .int se])), (ad 1, .inl (cI, 221, .inl z)), (ad 2, .inl (cI, 221, .inl zs)), (ad 3, .inl (cI, 1768, .inl sd)), (ad 4, .inl (cI, 80, .inl tx)), (ad 5, .inl (cI, 8, .inl (dsF F Q0 t 7))), (ad 6, .inl (cI, 8, .inl rg))]) H → va_D A ([(ad 0, .inr (5, [.int th, .ref (ad 1), .ref (ad 2), .ref (ad 3), .int sv, .ref (ad 4), .int ln, .int vs, .ref (ad 5), .ref (ad 6), .int rl, .int cm, .int fi, .int se])), (ad 1, .inl (cI, 221, .inl z)), (ad 2, .inl (cI, 221, .inl zs)), (ad 3, .inl (cI, 1768, .inl sd)), (ad 4, .inl (cI, 80, .inl tx)), (ad 5, .inl (cI, 8, .inl (dsF F Q0 t 7))), (ad 6, .inl (cI, 8, .inl rg))]) → va_S A s.heap H locs → ∀ ls : Array Slot, lv_has ls 5 [(0, .ref (ad 0)), (1, .int (nI t)), (2, .int (bI (nrU (dst F Q0 t 7) (awB F Q0 t) n))), (3, .int (nI cn - nI 1))] → W p l e rX5_findRing s m args below meth c H locs 0 0 Q (F0 m 10 ls []) := by
    intro N10
    induction N10 with
    | zero => intro n cn hc hN; exact absurd hN (Nat.not_lt_zero _)
    | succ N10 ih10 =>
      intro n cn hc hN H locs hP hD hS ls hl
      rcases cn with _ | cn
      · rw [show nI 0 - nI 1 = (-1) from by decide] at hl
        refine lv_iload_n hx hb dX5_findRing_10 rfl (lv_at hl 3 rfl) ?_
        refine lv_if_lt (tgt := 75) hx hb dX5_findRing_11 (by decide) (fun _ => ?_) (fun h => absurd (by decide) h)
        rw [show n = 8 by omega, nrU_eq (fun i hi => aWS_tb hi)] at hl
        refine lv_aload_n hx hb dX5_findRing_75 rfl (lv_at hl 0 rfl) ?_
        refine va_get (D := D) (ci := 5) (v := .ref (ad 6)) (C := RX5) (T := TX5) (N := 14) hx hb hts iX5 hown hK hP 0 rfl rfl 9 (by decide) f25 (fun _ h9 => h9) rfl dX5_findRing_76 ?_
        refine lv_iconst (v := (nI 0)) hx hb dX5_findRing_79 (by decide) ?_
        refine lv_iload_n hx hb dX5_findRing_80 rfl (lv_at hl 1 rfl) ?_
        refine r_ist (k := 0) hx hb hK hP hD hS 6 rfl (by omega) (by decide) dX5_findRing_81 (fun H locs hP hD hS => ?_)
        have hP : va_P D vwCl ([(ad 0, .inr (5, [.int th, .ref (ad 1), .ref (ad 2), .ref (ad 3), .int sv, .ref (ad 4), .int ln, .int vs, .ref (ad 5), .ref (ad 6), .int rl, .int cm, .int fi, .int se])), (ad 1, .inl (cI, 221, .inl z)), (ad 2, .inl (cI, 221, .inl zs)), (ad 3, .inl (cI, 1768, .inl sd)), (ad 4, .inl (cI, 80, .inl tx)), (ad 5, .inl (cI, 8, .inl (dsF F Q0 t 7))), (ad 6, .inl (cI, 8, .inl (upd rg 0 (nI t))))]) H := hP
        have hD : va_D A ([(ad 0, .inr (5, [.int th, .ref (ad 1), .ref (ad 2), .ref (ad 3), .int sv, .ref (ad 4), .int ln, .int vs, .ref (ad 5), .ref (ad 6), .int rl, .int cm, .int fi, .int se])), (ad 1, .inl (cI, 221, .inl z)), (ad 2, .inl (cI, 221, .inl zs)), (ad 3, .inl (cI, 1768, .inl sd)), (ad 4, .inl (cI, 80, .inl tx)), (ad 5, .inl (cI, 8, .inl (dsF F Q0 t 7))), (ad 6, .inl (cI, 8, .inl (upd rg 0 (nI t))))]) := hD
        refine lv_aload_n hx hb dX5_findRing_82 rfl (lv_at hl 0 rfl) ?_
        refine lv_iconst (v := (nI 1)) hx hb dX5_findRing_83 (by decide) ?_
        refine va_put (D := D) (ci := 5) (v := .int (nI 1)) (ty := .int) (C := RX5) (T := TX5) (N := 14) hx hb hts iX5 tyX5 tyX5_ok nmX5 hown hK hP hD hS 0 rfl rfl 10 (by decide) f86 (fun _ h9 => h9) rfl (by decide +kernel) rfl rfl (Nat.le_of_ble_eq_true rfl) dX5_findRing_84 (fun H locs hP hD hS => ?_)
        have hP : va_P D vwCl ([(ad 0, .inr (5, [.int th, .ref (ad 1), .ref (ad 2), .ref (ad 3), .int sv, .ref (ad 4), .int ln, .int vs, .ref (ad 5), .ref (ad 6), .int (nI 1), .int cm, .int fi, .int se])), (ad 1, .inl (cI, 221, .inl z)), (ad 2, .inl (cI, 221, .inl zs)), (ad 3, .inl (cI, 1768, .inl sd)), (ad 4, .inl (cI, 80, .inl tx)), (ad 5, .inl (cI, 8, .inl (dsF F Q0 t 7))), (ad 6, .inl (cI, 8, .inl (upd rg 0 (nI t))))]) H := hP
        have hD : va_D A ([(ad 0, .inr (5, [.int th, .ref (ad 1), .ref (ad 2), .ref (ad 3), .int sv, .ref (ad 4), .int ln, .int vs, .ref (ad 5), .ref (ad 6), .int (nI 1), .int cm, .int fi, .int se])), (ad 1, .inl (cI, 221, .inl z)), (ad 2, .inl (cI, 221, .inl zs)), (ad 3, .inl (cI, 1768, .inl sd)), (ad 4, .inl (cI, 80, .inl tx)), (ad 5, .inl (cI, 8, .inl (dsF F Q0 t 7))), (ad 6, .inl (cI, 8, .inl (upd rg 0 (nI t))))]) := hD
        have L87 : ∀ (N : Nat) (m9 : Nat) (i9 : Nat) (a9 : Nat) (R9 : Nat) (y : Nat → Int32) (rr : Nat → Nat), (i9 + 1 = m9) → (a9 < 8) → (m9 ≤ 8) → (srI (aWS F Q0) (dst F Q0 t 7) t i9 R9 a9) → (∀ j, j < m9 → y j = nI (rr j) ∧ rr j < 8) → (∀ v, (R9 ||| 2 ^ a9).testBit v = true ↔ ∃ j, j < m9 ∧ rr j = v) → ((nrB (dst F Q0 t 7) (aWS F Q0 a9) 8).1 = 8 ∨ m9 + dst F Q0 t 7 (nrB (dst F Q0 t 7) (aWS F Q0 a9) 8).1 ≤ 8) → (9 - m9) < N → ∀ (H : Heap) (locs : List Loc), va_P D vwCl ([(ad 0, .inr (5, [.int th, .ref (ad 1), .ref (ad 2), .ref (ad 3), .int sv, .ref (ad 4), .int ln, .int vs, .ref (ad 5), .ref (ad 6), .int (nI m9), .int cm, .int fi, .int se])), (ad 1, .inl (cI, 221, .inl z)), (ad 2, .inl (cI, 221, .inl zs)), (ad 3, .inl (cI, 1768, .inl sd)), (ad 4, .inl (cI, 80, .inl tx)), (ad 5, .inl (cI, 8, .inl (dsF F Q0 t 7))), (ad 6, .inl (cI, 8, .inl y))]) H → va_D A ([(ad 0, .inr (5, [.int th, .ref (ad 1), .ref (ad 2), .ref (ad 3), .int sv, .ref (ad 4), .int ln, .int vs, .ref (ad 5), .ref (ad 6), .int (nI m9), .int cm, .int fi, .int se])), (ad 1, .inl (cI, 221, .inl z)), (ad 2, .inl (cI, 221, .inl zs)), (ad 3, .inl (cI, 1768, .inl sd)), (ad 4, .inl (cI, 80, .inl tx)), (ad 5, .inl (cI, 8, .inl (dsF F Q0 t 7))), (ad 6, .inl (cI, 8, .inl y))]) → va_S A s.heap H locs → ∀ ls : Array Slot, lv_has ls 5 [(0, .ref (ad 0)), (1, .int (nI t)), (2, .int (bI (nrB (dst F Q0 t 7) (aWS F Q0 a9) 8).1))] → W p l e rX5_findRing s m args below meth c H locs 0 0 Q (F0 m 87 ls []) := by
          intro N87
          induction N87 with
          | zero => intro m9 i9 a9 R9 y rr him ha9 hm8 hI hrr hSR hb8 hN; exact absurd hN (Nat.not_lt_zero _)
          | succ N87 ih87 =>
            intro m9 i9 a9 R9 y rr him ha9 hm8 hI hrr hSR hb8 hN H locs hP hD hS ls hl
            have hxle := (nrB_le (dst F Q0 t 7) (aWS F Q0 a9) 8 (Nat.le_refl _)).1
            obtain ⟨x9, hx9⟩ : ∃ x, x = (nrB (dst F Q0 t 7) (aWS F Q0 a9) 8).1 := ⟨_, rfl⟩
            rw [← hx9] at hl hxle hb8
            refine lv_iload_n hx hb dX5_findRing_87 rfl (lv_at hl 2 rfl) ?_
            refine lv_if_lt (tgt := 171) hx hb dX5_findRing_88 (by decide) (fun h_1 => ?_) (fun h_1 => ?_)
            · have h_1 := h_1
              refine lv_iload_n hx hb dX5_findRing_171 rfl (lv_at hl 2 rfl) ?_
              refine lv_if_lt (tgt := 179) hx hb dX5_findRing_172 (by decide) (fun h_2 => ?_) (fun h_2 => absurd h_1 h_2)
              have h_2 := h_2
              refine lv_iconst (v := (nI 0)) hx hb dX5_findRing_179 (by decide) ?_
              have h98 := ((bI_neg hxle).mp h_1)
              have hs := srI_none (by omega) hI (fun q => by rw [← hx9] at q; omega) (hx9.symm.trans h98)
              exact ret_z (u := (y, m9, rr)) hQ hx hb hrt hlk hS dX5_findRing_180 (by decide) hP ⟨by rw [SRn, ← hs]; rfl, hm8, hrr, fun q => absurd hs.symm q⟩
            · have h_1 := h_1
              have hx8 : ¬ x9 = 8 := fun q => h_1 ((bI_neg hxle).mpr q)
              have hx88 : x9 < 8 := by omega
              rw [bI_some hx8] at hl
              refine lv_iload_n hx hb dX5_findRing_91 rfl (lv_at hl 2 rfl) ?_
              refine lv_iload_n hx hb dX5_findRing_92 rfl (lv_at hl 1 rfl) ?_
              refine lv_icmp_eq (tgt := 171) hx hb dX5_findRing_93 (by decide) (fun h_3 => ?_) (fun h_3 => ?_)
              · have h_3 := (nI_eq (a := x9) (b := t) (by first | omega | exact bits_lt31 _ | exact bitN_lt _ _ | exact bool_lt _ | exact and_lt31 _ _ _ _ | exact Nat.lt_of_le_of_lt (dst_lt _ _ _ (by omega) _) (by decide) | exact Nat.lt_of_le_of_lt (nrB_le _ _ _ (by omega)).2 (by decide) | decide) (by first | omega | exact bits_lt31 _ | exact bitN_lt _ _ | exact bool_lt _ | exact and_lt31 _ _ _ _ | exact Nat.lt_of_le_of_lt (dst_lt _ _ _ (by omega) _) (by decide) | exact Nat.lt_of_le_of_lt (nrB_le _ _ _ (by omega)).2 (by decide) | decide)).mp h_3
                refine lv_iload_n hx hb dX5_findRing_171 rfl (lv_at hl 2 rfl) ?_
                refine lv_if_lt (tgt := 179) hx hb dX5_findRing_172 (by decide) (fun h_4 => absurd h_4 (Int32.not_lt.mpr (nI_pos' (by omega)))) (fun h_4 => ?_)
                have h_4 := mt (nI_ltI (a := x9) (b := 0) (by first | omega | exact bits_lt31 _ | exact bitN_lt _ _ | exact bool_lt _ | exact and_lt31 _ _ _ _ | exact Nat.lt_of_le_of_lt (dst_lt _ _ _ (by omega) _) (by decide) | exact Nat.lt_of_le_of_lt (nrB_le _ _ _ (by omega)).2 (by decide) | decide) (by first | omega | exact bits_lt31 _ | exact bitN_lt _ _ | exact bool_lt _ | exact and_lt31 _ _ _ _ | exact Nat.lt_of_le_of_lt (dst_lt _ _ _ (by omega) _) (by decide) | exact Nat.lt_of_le_of_lt (nrB_le _ _ _ (by omega)).2 (by decide) | decide)).mpr h_4
                refine lv_iconst (v := (nI 1)) hx hb dX5_findRing_175 (by decide) ?_
                refine lv_goto (tgt := 180) hx hb dX5_findRing_176 (by decide) ?_
                have hs := srI_hit (by omega) hI (hx9.symm.trans h_3)
                exact ret_z (u := (y, m9, rr)) hQ hx hb hrt hlk hS dX5_findRing_180 (by decide) hP ⟨by rw [SRn, ← hs, beq_false_of_ne or_ne]; rfl, hm8, hrr, fun _ => by rw [SRn, ← hs]; exact hSR⟩
              · have h_3 := mt (nI_eq (a := x9) (b := t) (by first | omega | exact bits_lt31 _ | exact bitN_lt _ _ | exact bool_lt _ | exact and_lt31 _ _ _ _ | exact Nat.lt_of_le_of_lt (dst_lt _ _ _ (by omega) _) (by decide) | exact Nat.lt_of_le_of_lt (nrB_le _ _ _ (by omega)).2 (by decide) | decide) (by first | omega | exact bits_lt31 _ | exact bitN_lt _ _ | exact bool_lt _ | exact and_lt31 _ _ _ _ | exact Nat.lt_of_le_of_lt (dst_lt _ _ _ (by omega) _) (by decide) | exact Nat.lt_of_le_of_lt (nrB_le _ _ _ (by omega)).2 (by decide) | decide)).mpr h_3
                have hd1 : ¬ dst F Q0 t 7 x9 = 0 := fun q => h_3 ((dst_zero 7).mp q)
                obtain ⟨d9, hd9⟩ : ∃ d, dst F Q0 t 7 x9 = d + 1 := ⟨dst F Q0 t 7 x9 - 1, by omega⟩
                have hmd : m9 + (d9 + 1) ≤ 8 := by rcases hb8 with q | q <;> omega
                have hnd := ndU_eq (x := x9) hx88 hd9 (by omega)
                have hxt := h_3
                refine lv_aload_n hx hb dX5_findRing_96 rfl (lv_at hl 0 rfl) ?_
                refine va_get (D := D) (ci := 5) (v := .ref (ad 6)) (C := RX5) (T := TX5) (N := 14) hx hb hts iX5 hown hK hP 0 rfl rfl 9 (by decide) f25 (fun _ h9 => h9) rfl dX5_findRing_97 ?_
                refine lv_aload_n hx hb dX5_findRing_100 rfl (lv_at hl 0 rfl) ?_
                refine va_get (D := D) (ci := 5) (v := .int (nI m9)) (C := RX5) (T := TX5) (N := 14) hx hb hts iX5 hown hK hP 0 rfl rfl 10 (by decide) f86 (fun _ h9 => h9) rfl dX5_findRing_101 ?_
                refine lv_iload_n hx hb dX5_findRing_104 rfl (lv_at hl 2 rfl) ?_
                refine r_ist (k := m9) hx hb hK hP hD hS 6 rfl (by omega) (by decide) dX5_findRing_105 (fun H locs hP hD hS => ?_)
                have hP : va_P D vwCl ([(ad 0, .inr (5, [.int th, .ref (ad 1), .ref (ad 2), .ref (ad 3), .int sv, .ref (ad 4), .int ln, .int vs, .ref (ad 5), .ref (ad 6), .int (nI m9), .int cm, .int fi, .int se])), (ad 1, .inl (cI, 221, .inl z)), (ad 2, .inl (cI, 221, .inl zs)), (ad 3, .inl (cI, 1768, .inl sd)), (ad 4, .inl (cI, 80, .inl tx)), (ad 5, .inl (cI, 8, .inl (dsF F Q0 t 7))), (ad 6, .inl (cI, 8, .inl (upd y m9 (nI x9))))]) H := hP
                have hD : va_D A ([(ad 0, .inr (5, [.int th, .ref (ad 1), .ref (ad 2), .ref (ad 3), .int sv, .ref (ad 4), .int ln, .int vs, .ref (ad 5), .ref (ad 6), .int (nI m9), .int cm, .int fi, .int se])), (ad 1, .inl (cI, 221, .inl z)), (ad 2, .inl (cI, 221, .inl zs)), (ad 3, .inl (cI, 1768, .inl sd)), (ad 4, .inl (cI, 80, .inl tx)), (ad 5, .inl (cI, 8, .inl (dsF F Q0 t 7))), (ad 6, .inl (cI, 8, .inl (upd y m9 (nI x9))))]) := hD
                refine lv_aload_n hx hb dX5_findRing_106 rfl (lv_at hl 0 rfl) ?_
                refine lv_dup hx hb dX5_findRing_107 rfl ?_
                refine va_get (D := D) (ci := 5) (v := .int (nI m9)) (C := RX5) (T := TX5) (N := 14) hx hb hts iX5 hown hK hP 0 rfl rfl 10 (by decide) f86 (fun _ h9 => h9) rfl dX5_findRing_108 ?_
                refine lv_iconst (v := (nI 1)) hx hb dX5_findRing_111 (by decide) ?_
                refine lv_iadd hx hb dX5_findRing_112 ?_
                refine tpe (y := (nI (m9 + 1))) (nI_add _ _) ?_
                refine va_put (D := D) (ci := 5) (v := .int (nI (m9 + 1))) (ty := .int) (C := RX5) (T := TX5) (N := 14) hx hb hts iX5 tyX5 tyX5_ok nmX5 hown hK hP hD hS 0 rfl rfl 10 (by decide) f86 (fun _ h9 => h9) rfl (by decide +kernel) rfl rfl (Nat.le_of_ble_eq_true rfl) dX5_findRing_113 (fun H locs hP hD hS => ?_)
                have hP : va_P D vwCl ([(ad 0, .inr (5, [.int th, .ref (ad 1), .ref (ad 2), .ref (ad 3), .int sv, .ref (ad 4), .int ln, .int vs, .ref (ad 5), .ref (ad 6), .int (nI (m9 + 1)), .int cm, .int fi, .int se])), (ad 1, .inl (cI, 221, .inl z)), (ad 2, .inl (cI, 221, .inl zs)), (ad 3, .inl (cI, 1768, .inl sd)), (ad 4, .inl (cI, 80, .inl tx)), (ad 5, .inl (cI, 8, .inl (dsF F Q0 t 7))), (ad 6, .inl (cI, 8, .inl (upd y m9 (nI x9))))]) H := hP
                have hD : va_D A ([(ad 0, .inr (5, [.int th, .ref (ad 1), .ref (ad 2), .ref (ad 3), .int sv, .ref (ad 4), .int ln, .int vs, .ref (ad 5), .ref (ad 6), .int (nI (m9 + 1)), .int cm, .int fi, .int se])), (ad 1, .inl (cI, 221, .inl z)), (ad 2, .inl (cI, 221, .inl zs)), (ad 3, .inl (cI, 1768, .inl sd)), (ad 4, .inl (cI, 80, .inl tx)), (ad 5, .inl (cI, 8, .inl (dsF F Q0 t 7))), (ad 6, .inl (cI, 8, .inl (upd y m9 (nI x9))))]) := hD
                refine lv_iload_n hx hb dX5_findRing_116 rfl (lv_at hl 2 rfl) ?_
                refine lv_istore_n (lv' := [(3, .int (nI x9)), (0, .ref (ad 0)), (1, .int (nI t)), (2, .int (nI x9))]) hx hb dX5_findRing_117 rfl hl (by decide) rfl (fun ls hl => ?_)
                refine lv_bipush (v := (nI 7)) hx hb dX5_findRing_118 (by decide) ?_
                refine lv_istore (lv' := [(4, .int (nI 7)), (3, .int (nI x9)), (0, .ref (ad 0)), (1, .int (nI t)), (2, .int (nI x9))]) hx hb dX5_findRing_120 hl (by decide) rfl (fun ls hl => ?_)
                have L122 : ∀ (N : Nat) (n : Nat) (cn : Nat), (n + cn = 8) → (cn) < N → ∀ (H : Heap) (locs : List Loc), va_P D vwCl ([(ad 0, .inr (5, [.int th, .ref (ad 1), .ref (ad 2), .ref (ad 3), .int sv, .ref (ad 4), .int ln, .int vs, .ref (ad 5), .ref (ad 6), .int (nI (m9 + 1)), .int cm, .int fi, .int se])), (ad 1, .inl (cI, 221, .inl z)), (ad 2, .inl (cI, 221, .inl zs)), (ad 3, .inl (cI, 1768, .inl sd)), (ad 4, .inl (cI, 80, .inl tx)), (ad 5, .inl (cI, 8, .inl (dsF F Q0 t 7))), (ad 6, .inl (cI, 8, .inl (upd y m9 (nI x9))))]) H → va_D A ([(ad 0, .inr (5, [.int th, .ref (ad 1), .ref (ad 2), .ref (ad 3), .int sv, .ref (ad 4), .int ln, .int vs, .ref (ad 5), .ref (ad 6), .int (nI (m9 + 1)), .int cm, .int fi, .int se])), (ad 1, .inl (cI, 221, .inl z)), (ad 2, .inl (cI, 221, .inl zs)), (ad 3, .inl (cI, 1768, .inl sd)), (ad 4, .inl (cI, 80, .inl tx)), (ad 5, .inl (cI, 8, .inl (dsF F Q0 t 7))), (ad 6, .inl (cI, 8, .inl (upd y m9 (nI x9))))]) → va_S A s.heap H locs → ∀ ls : Array Slot, lv_has ls 5 [(0, .ref (ad 0)), (1, .int (nI t)), (2, .int (nI (ndU (fun u => dst F Q0 t 7 u == d9 && awB F Q0 x9 u) x9 n))), (3, .int (nI x9)), (4, .int (nI cn - nI 1))] → W p l e rX5_findRing s m args below meth c H locs 0 0 Q (F0 m 122 ls []) := by
                  intro N122
                  induction N122 with
                  | zero => intro n cn hc hN; exact absurd hN (Nat.not_lt_zero _)
                  | succ N122 ih122 =>
                    intro n cn hc hN H locs hP hD hS ls hl
                    rcases cn with _ | cn
                    · rw [show nI 0 - nI 1 = (-1) from by decide] at hl
                      refine lv_iload hx hb dX5_findRing_122 (lv_at hl 4 rfl) ?_
                      refine lv_if_lt (tgt := 168) hx hb dX5_findRing_124 (by decide) (fun _ => ?_) (fun h => absurd (by decide) h)
                      refine lv_goto (tgt := 87) hx hb dX5_findRing_168 (by decide) ?_
                      rw [show (nI (ndU (fun u => dst F Q0 t 7 u == d9 && awB F Q0 x9 u) x9 n)) = (bI (nrB (dst F Q0 t 7) (aWS F Q0 x9) 8).1) from (by rw [show n = 8 by omega, hnd.1]; exact (bI_some (by omega)).symm)] at hl
                      exact ih87 (m9 + 1) (i9 + 1) x9 (R9 ||| 2 ^ a9) (upd y m9 (nI x9)) (va_up rr m9 x9) (by omega) hx88 (by omega) (by have := srI_s (by omega) hI (fun q => hxt (hx9.trans q)) (fun q => hx8 (hx9.trans q)); rw [← hx9] at this; exact this) (rr_s hx88 hrr) (rg_s hSR) (Or.inr (by rw [hnd.2.2]; omega)) (by omega) _ _ hP hD hS _ (lv_sub hl [0, 1, 2] rfl)
                    · rw [show nI (cn + 1) - nI 1 = nI cn from pk_sub (by omega)] at hl
                      refine lv_iload hx hb dX5_findRing_122 (lv_at hl 4 rfl) ?_
                      refine lv_if_lt (tgt := 168) hx hb dX5_findRing_124 (by decide) (fun h_5 => absurd h_5 (Int32.not_lt.mpr (nI_pos' (by omega)))) (fun h_5 => ?_)
                      have h_5 := mt (nI_ltI (a := cn) (b := 0) (by first | omega | exact bits_lt31 _ | exact bitN_lt _ _ | exact bool_lt _ | exact and_lt31 _ _ _ _ | exact Nat.lt_of_le_of_lt (dst_lt _ _ _ (by omega) _) (by decide) | exact Nat.lt_of_le_of_lt (nrB_le _ _ _ (by omega)).2 (by decide) | decide) (by first | omega | exact bits_lt31 _ | exact bitN_lt _ _ | exact bool_lt _ | exact and_lt31 _ _ _ _ | exact Nat.lt_of_le_of_lt (dst_lt _ _ _ (by omega) _) (by decide) | exact Nat.lt_of_le_of_lt (nrB_le _ _ _ (by omega)).2 (by decide) | decide)).mpr h_5
                      refine lv_aload_n hx hb dX5_findRing_127 rfl (lv_at hl 0 rfl) ?_
                      refine va_get (D := D) (ci := 5) (v := .ref (ad 5)) (C := RX5) (T := TX5) (N := 14) hx hb hts iX5 hown hK hP 0 rfl rfl 8 (by decide) f22 (fun _ h9 => h9) rfl dX5_findRing_128 ?_
                      refine lv_iload hx hb dX5_findRing_131 (lv_at hl 4 rfl) ?_
                      refine r_ild (k := cn) hx hb hK hP 5 rfl (by omega) (by decide) dX5_findRing_133 ?_
                      refine tpe (y := bI (dst F Q0 t 7 cn)) rfl ?_
                      refine lv_aload_n hx hb dX5_findRing_134 rfl (lv_at hl 0 rfl) ?_
                      refine va_get (D := D) (ci := 5) (v := .ref (ad 5)) (C := RX5) (T := TX5) (N := 14) hx hb hts iX5 hown hK hP 0 rfl rfl 8 (by decide) f22 (fun _ h9 => h9) rfl dX5_findRing_135 ?_
                      refine lv_iload_n hx hb dX5_findRing_138 rfl (lv_at hl 3 rfl) ?_
                      refine r_ild (k := x9) hx hb hK hP 5 rfl (by omega) (by decide) dX5_findRing_139 ?_
                      refine tpe (y := nI (d9 + 1)) (by rw [dsF, hd9]; exact bI_some (by omega)) ?_
                      refine lv_iconst (v := (nI 1)) hx hb dX5_findRing_140 (by decide) ?_
                      refine lv_isub hx hb dX5_findRing_141 ?_
                      refine tpe (y := (nI ((d9 + 1) - 1))) (pk_sub (by omega)) ?_
                      refine lv_icmp_ne (tgt := 160) hx hb dX5_findRing_142 (by decide) (fun h_6 => ?_) (fun h_6 => ?_)
                      · have h_6 := h_6
                        refine lv_iload_n hx hb dX5_findRing_160 rfl (lv_at hl 2 rfl) ?_
                        refine lv_istore_n (lv' := [(2, .int (nI (ndU (fun u => dst F Q0 t 7 u == d9 && awB F Q0 x9 u) x9 n))), (0, .ref (ad 0)), (1, .int (nI t)), (3, .int (nI x9)), (4, .int (nI cn))]) hx hb dX5_findRing_161 rfl hl (by decide) rfl (fun ls hl => ?_)
                        refine lv_iinc (v := (nI cn - nI 1)) (lv' := [(4, .int (nI cn - nI 1)), (2, .int (nI (ndU (fun u => dst F Q0 t 7 u == d9 && awB F Q0 x9 u) x9 n))), (0, .ref (ad 0)), (1, .int (nI t)), (3, .int (nI x9))]) hx hb dX5_findRing_162 hl (k := 4) rfl iinc_s (by decide) rfl (fun ls hl => ?_)
                        refine lv_goto (tgt := 122) hx hb dX5_findRing_165 (by decide) ?_
                        obtain ⟨k4, hk4⟩ : ∃ k, k = nI cn - nI 1 := ⟨_, rfl⟩
                        rw [← hk4] at hl
                        rw [show (nI (ndU (fun u => dst F Q0 t 7 u == d9 && awB F Q0 x9 u) x9 n)) = (nI (ndU (fun u => dst F Q0 t 7 u == d9 && awB F Q0 x9 u) x9 (n + 1))) from (congrArg nI (ndU_n (by omega) (fun q => h_6 ((bI_eq (dst_lt F Q0 t (d := 7) (by decide) cn) (by omega)).mpr (by have := beq_iff_eq.mp (Bool.and_eq_true_iff.mp q).1; omega)))))] at hl
                        rw [hk4] at hl
                        exact ih122 (n + 1) cn (by omega) (by omega) _ _ hP hD hS _ (lv_sub hl [2, 3, 1, 4, 0] rfl)
                      · have h_6 := h_6
                        refine lv_aload_n hx hb dX5_findRing_145 rfl (lv_at hl 0 rfl) ?_
                        refine lv_iload_n hx hb dX5_findRing_146 rfl (lv_at hl 3 rfl) ?_
                        refine lv_iload hx hb dX5_findRing_147 (lv_at hl 4 rfl) ?_
                        refine call_i (X := []) (Z := []) (As := [.int (nI x9), .int (nI cn)]) (rest := []) ⟨hx, hb, hml, hown, hts⟩ (c_X5_waits l D cI cT ad th sv ln vs (nI (m9 + 1)) cm fi se z zs sd tx (dsF F Q0 t 7) (upd y m9 (nI x9)) F Q0 x9 cn (by omega) (by omega) hZ hJ) (cwV 2 hts gX5_findRing_X5_waits rfl rfl rfl (by decide +kernel) ⟨Nat.le_of_ble_eq_true rfl, Nat.le_of_ble_eq_true rfl⟩) hK hP hD hS hA (va_recv hK hP (ci := 5) (q0 := 0) rfl rfl) (fun _ => rfl) rfl hl.1 rfl (Nat.le_of_ble_eq_true rfl) ⟨by decide, by decide⟩ dX5_findRing_149 (fun rv _ H locs hp hP hD hS => ?_)
                        obtain rfl := hp
                        have hP : va_P D vwCl ([(ad 0, .inr (5, [.int th, .ref (ad 1), .ref (ad 2), .ref (ad 3), .int sv, .ref (ad 4), .int ln, .int vs, .ref (ad 5), .ref (ad 6), .int (nI (m9 + 1)), .int cm, .int fi, .int se])), (ad 1, .inl (cI, 221, .inl z)), (ad 2, .inl (cI, 221, .inl zs)), (ad 3, .inl (cI, 1768, .inl sd)), (ad 4, .inl (cI, 80, .inl tx)), (ad 5, .inl (cI, 8, .inl (dsF F Q0 t 7))), (ad 6, .inl (cI, 8, .inl (upd y m9 (nI x9))))]) H := hP
                        have hD : va_D A ([(ad 0, .inr (5, [.int th, .ref (ad 1), .ref (ad 2), .ref (ad 3), .int sv, .ref (ad 4), .int ln, .int vs, .ref (ad 5), .ref (ad 6), .int (nI (m9 + 1)), .int cm, .int fi, .int se])), (ad 1, .inl (cI, 221, .inl z)), (ad 2, .inl (cI, 221, .inl zs)), (ad 3, .inl (cI, 1768, .inl sd)), (ad 4, .inl (cI, 80, .inl tx)), (ad 5, .inl (cI, 8, .inl (dsF F Q0 t 7))), (ad 6, .inl (cI, 8, .inl (upd y m9 (nI x9))))]) := hD
                        refine lv_if_eq (tgt := 160) hx hb dX5_findRing_152 (by decide) (fun h_7 => ?_) (fun h_7 => ?_)
                        · have h_7 := (nI_eq (a := ((awB F Q0 x9 cn).toNat)) (b := 0) (by first | omega | exact bits_lt31 _ | exact bitN_lt _ _ | exact bool_lt _ | exact and_lt31 _ _ _ _ | exact Nat.lt_of_le_of_lt (dst_lt _ _ _ (by omega) _) (by decide) | exact Nat.lt_of_le_of_lt (nrB_le _ _ _ (by omega)).2 (by decide) | decide) (by first | omega | exact bits_lt31 _ | exact bitN_lt _ _ | exact bool_lt _ | exact and_lt31 _ _ _ _ | exact Nat.lt_of_le_of_lt (dst_lt _ _ _ (by omega) _) (by decide) | exact Nat.lt_of_le_of_lt (nrB_le _ _ _ (by omega)).2 (by decide) | decide)).mp h_7
                          have h_7 := tn_f h_7
                          refine lv_iload_n hx hb dX5_findRing_160 rfl (lv_at hl 2 rfl) ?_
                          refine lv_istore_n (lv' := [(2, .int (nI (ndU (fun u => dst F Q0 t 7 u == d9 && awB F Q0 x9 u) x9 n))), (0, .ref (ad 0)), (1, .int (nI t)), (3, .int (nI x9)), (4, .int (nI cn))]) hx hb dX5_findRing_161 rfl hl (by decide) rfl (fun ls hl => ?_)
                          refine lv_iinc (v := (nI cn - nI 1)) (lv' := [(4, .int (nI cn - nI 1)), (2, .int (nI (ndU (fun u => dst F Q0 t 7 u == d9 && awB F Q0 x9 u) x9 n))), (0, .ref (ad 0)), (1, .int (nI t)), (3, .int (nI x9))]) hx hb dX5_findRing_162 hl (k := 4) rfl iinc_s (by decide) rfl (fun ls hl => ?_)
                          refine lv_goto (tgt := 122) hx hb dX5_findRing_165 (by decide) ?_
                          obtain ⟨k4, hk4⟩ : ∃ k, k = nI cn - nI 1 := ⟨_, rfl⟩
                          rw [← hk4] at hl
                          rw [show (nI (ndU (fun u => dst F Q0 t 7 u == d9 && awB F Q0 x9 u) x9 n)) = (nI (ndU (fun u => dst F Q0 t 7 u == d9 && awB F Q0 x9 u) x9 (n + 1))) from (congrArg nI (ndU_n (by omega) (by rw [h_7]; simp)))] at hl
                          rw [hk4] at hl
                          exact ih122 (n + 1) cn (by omega) (by omega) _ _ hP hD hS _ (lv_sub hl [2, 3, 1, 4, 0] rfl)
                        · have h_7 := mt (nI_eq (a := ((awB F Q0 x9 cn).toNat)) (b := 0) (by first | omega | exact bits_lt31 _ | exact bitN_lt _ _ | exact bool_lt _ | exact and_lt31 _ _ _ _ | exact Nat.lt_of_le_of_lt (dst_lt _ _ _ (by omega) _) (by decide) | exact Nat.lt_of_le_of_lt (nrB_le _ _ _ (by omega)).2 (by decide) | decide) (by first | omega | exact bits_lt31 _ | exact bitN_lt _ _ | exact bool_lt _ | exact and_lt31 _ _ _ _ | exact Nat.lt_of_le_of_lt (dst_lt _ _ _ (by omega) _) (by decide) | exact Nat.lt_of_le_of_lt (nrB_le _ _ _ (by omega)).2 (by decide) | decide)).mpr h_7
                          have h_7 := tn_y h_7
                          refine lv_iload hx hb dX5_findRing_155 (lv_at hl 4 rfl) ?_
                          refine lv_goto (tgt := 161) hx hb dX5_findRing_157 (by decide) ?_
                          refine lv_istore_n (lv' := [(2, .int (nI cn)), (0, .ref (ad 0)), (1, .int (nI t)), (3, .int (nI x9)), (4, .int (nI cn))]) hx hb dX5_findRing_161 rfl hl (by decide) rfl (fun ls hl => ?_)
                          refine lv_iinc (v := (nI cn - nI 1)) (lv' := [(4, .int (nI cn - nI 1)), (2, .int (nI cn)), (0, .ref (ad 0)), (1, .int (nI t)), (3, .int (nI x9))]) hx hb dX5_findRing_162 hl (k := 4) rfl iinc_s (by decide) rfl (fun ls hl => ?_)
                          refine lv_goto (tgt := 122) hx hb dX5_findRing_165 (by decide) ?_
                          obtain ⟨k4, hk4⟩ : ∃ k, k = nI cn - nI 1 := ⟨_, rfl⟩
                          rw [← hk4] at hl
                          rw [show (nI cn) = (nI (ndU (fun u => dst F Q0 t 7 u == d9 && awB F Q0 x9 u) x9 (n + 1))) from (congrArg nI (ndU_y (by omega) (by rw [(bI_eq (dst_lt F Q0 t (d := 7) (by decide) cn) (by omega)).mp h_6, h_7]; simp)))] at hl
                          rw [hk4] at hl
                          exact ih122 (n + 1) cn (by omega) (by omega) _ _ hP hD hS _ (lv_sub hl [2, 3, 1, 4, 0] rfl)
                rw [show (nI x9) = (nI (ndU (fun u => dst F Q0 t 7 u == d9 && awB F Q0 x9 u) x9 0)) from rfl] at hl
                rw [show (nI 7) = (nI 8 - nI 1) from (by decide)] at hl
                exact L122 _ 0 8 rfl (Nat.lt_succ_self _) _ _ hP hD hS _ (lv_sub hl [2, 3, 4, 1, 0] rfl)
        exact L87 _ 1 0 t 0 (upd rg 0 (nI t)) (fun _ => t) rfl ht (by decide) rfl (fun j hj => by rw [show j = 0 by omega, pk_us]; exact ⟨rfl, ht⟩) rg_0 (by have := dst_lt F Q0 t (d := 7) (by decide) (nrB (dst F Q0 t 7) (aWS F Q0 t) 8).1; rcases nrB_ch (D := dst F Q0 t 7) (S := aWS F Q0 t) (n := 8) with r | r; exact Or.inl (by rw [r.1]); exact Or.inr (by have := r.2.2.2.1; omega)) (Nat.lt_succ_self _) _ _ hP hD hS _ (lv_sub hl [0, 1, 2] rfl)
      · rw [show nI (cn + 1) - nI 1 = nI cn from pk_sub (by omega)] at hl
        refine lv_iload_n hx hb dX5_findRing_10 rfl (lv_at hl 3 rfl) ?_
        refine lv_if_lt (tgt := 75) hx hb dX5_findRing_11 (by decide) (fun h_8 => absurd h_8 (Int32.not_lt.mpr (nI_pos' (by omega)))) (fun h_8 => ?_)
        have h_8 := mt (nI_ltI (a := cn) (b := 0) (by first | omega | exact bits_lt31 _ | exact bitN_lt _ _ | exact bool_lt _ | exact and_lt31 _ _ _ _ | exact Nat.lt_of_le_of_lt (dst_lt _ _ _ (by omega) _) (by decide) | exact Nat.lt_of_le_of_lt (nrB_le _ _ _ (by omega)).2 (by decide) | decide) (by first | omega | exact bits_lt31 _ | exact bitN_lt _ _ | exact bool_lt _ | exact and_lt31 _ _ _ _ | exact Nat.lt_of_le_of_lt (dst_lt _ _ _ (by omega) _) (by decide) | exact Nat.lt_of_le_of_lt (nrB_le _ _ _ (by omega)).2 (by decide) | decide)).mpr h_8
        refine lv_aload_n hx hb dX5_findRing_14 rfl (lv_at hl 0 rfl) ?_
        refine lv_iload_n hx hb dX5_findRing_15 rfl (lv_at hl 1 rfl) ?_
        refine lv_iload_n hx hb dX5_findRing_16 rfl (lv_at hl 3 rfl) ?_
        refine call_i (X := []) (Z := []) (As := [.int (nI t), .int (nI cn)]) (rest := []) ⟨hx, hb, hml, hown, hts⟩ (c_X5_waits l D cI cT ad th sv ln vs rl cm fi se z zs sd tx (dsF F Q0 t 7) rg F Q0 t cn (by omega) (by omega) hZ hJ) (cwV 2 hts gX5_findRing_X5_waits rfl rfl rfl (by decide +kernel) ⟨Nat.le_of_ble_eq_true rfl, Nat.le_of_ble_eq_true rfl⟩) hK hP hD hS hA (va_recv hK hP (ci := 5) (q0 := 0) rfl rfl) (fun _ => rfl) rfl hl.1 rfl (Nat.le_of_ble_eq_true rfl) ⟨by decide, by decide⟩ dX5_findRing_17 (fun rv _ H locs hp hP hD hS => ?_)
        obtain rfl := hp
        have hP : va_P D vwCl ([(ad 0, .inr (5, [.int th, .ref (ad 1), .ref (ad 2), .ref (ad 3), .int sv, .ref (ad 4), .int ln, .int vs, .ref (ad 5), .ref (ad 6), .int rl, .int cm, .int fi, .int se])), (ad 1, .inl (cI, 221, .inl z)), (ad 2, .inl (cI, 221, .inl zs)), (ad 3, .inl (cI, 1768, .inl sd)), (ad 4, .inl (cI, 80, .inl tx)), (ad 5, .inl (cI, 8, .inl (dsF F Q0 t 7))), (ad 6, .inl (cI, 8, .inl rg))]) H := hP
        have hD : va_D A ([(ad 0, .inr (5, [.int th, .ref (ad 1), .ref (ad 2), .ref (ad 3), .int sv, .ref (ad 4), .int ln, .int vs, .ref (ad 5), .ref (ad 6), .int rl, .int cm, .int fi, .int se])), (ad 1, .inl (cI, 221, .inl z)), (ad 2, .inl (cI, 221, .inl zs)), (ad 3, .inl (cI, 1768, .inl sd)), (ad 4, .inl (cI, 80, .inl tx)), (ad 5, .inl (cI, 8, .inl (dsF F Q0 t 7))), (ad 6, .inl (cI, 8, .inl rg))]) := hD
        refine lv_if_eq (tgt := 36) hx hb dX5_findRing_20 (by decide) (fun h_9 => ?_) (fun h_9 => ?_)
        · have h_9 := (nI_eq (a := ((awB F Q0 t cn).toNat)) (b := 0) (by first | omega | exact bits_lt31 _ | exact bitN_lt _ _ | exact bool_lt _ | exact and_lt31 _ _ _ _ | exact Nat.lt_of_le_of_lt (dst_lt _ _ _ (by omega) _) (by decide) | exact Nat.lt_of_le_of_lt (nrB_le _ _ _ (by omega)).2 (by decide) | decide) (by first | omega | exact bits_lt31 _ | exact bitN_lt _ _ | exact bool_lt _ | exact and_lt31 _ _ _ _ | exact Nat.lt_of_le_of_lt (dst_lt _ _ _ (by omega) _) (by decide) | exact Nat.lt_of_le_of_lt (nrB_le _ _ _ (by omega)).2 (by decide) | decide)).mp h_9
          have h_9 := tn_f h_9
          refine lv_iconst (v := (nI 0)) hx hb dX5_findRing_36 (by decide) ?_
          refine lv_istore (lv' := [(4, .int (nI 0)), (0, .ref (ad 0)), (1, .int (nI t)), (2, .int (bI (nrU (dst F Q0 t 7) (awB F Q0 t) n))), (3, .int (nI cn))]) hx hb dX5_findRing_37 hl (by decide) rfl (fun ls hl => ?_)
          refine lv_iload hx hb dX5_findRing_39 (lv_at hl 0 rfl) ?_
          refine lv_if_eq (tgt := 67) hx hb dX5_findRing_41 (by decide) (fun _ => ?_) (fun h => absurd (by decide) h)
          refine lv_iload_n hx hb dX5_findRing_67 rfl (lv_at hl 3 rfl) ?_
          refine lv_istore_n (lv' := [(2, .int (bI (nrU (dst F Q0 t 7) (awB F Q0 t) n))), (4, .int (nI 0)), (0, .ref (ad 0)), (1, .int (nI t)), (3, .int (nI cn))]) hx hb dX5_findRing_68 rfl hl (by decide) rfl (fun ls hl => ?_)
          refine lv_iinc (v := (nI cn - nI 1)) (lv' := [(3, .int (nI cn - nI 1)), (2, .int (bI (nrU (dst F Q0 t 7) (awB F Q0 t) n))), (4, .int (nI 0)), (0, .ref (ad 0)), (1, .int (nI t))]) hx hb dX5_findRing_69 hl (k := 4) rfl iinc_s (by decide) rfl (fun ls hl => ?_)
          refine lv_goto (tgt := 10) hx hb dX5_findRing_72 (by decide) ?_
          obtain ⟨k4, hk4⟩ : ∃ k, k = nI cn - nI 1 := ⟨_, rfl⟩
          rw [← hk4] at hl
          rw [show (bI (nrU (dst F Q0 t 7) (awB F Q0 t) n)) = (bI (nrU (dst F Q0 t 7) (awB F Q0 t) (n + 1))) from (congrArg bI (nrU_n (by omega) (fun q => by rw [q.1] at h_9; cases h_9)).symm)] at hl
          rw [hk4] at hl
          exact ih10 (n + 1) cn (by omega) (by omega) _ _ hP hD hS _ (lv_sub hl [3, 4, 1, 0] rfl)
        · have h_9 := mt (nI_eq (a := ((awB F Q0 t cn).toNat)) (b := 0) (by first | omega | exact bits_lt31 _ | exact bitN_lt _ _ | exact bool_lt _ | exact and_lt31 _ _ _ _ | exact Nat.lt_of_le_of_lt (dst_lt _ _ _ (by omega) _) (by decide) | exact Nat.lt_of_le_of_lt (nrB_le _ _ _ (by omega)).2 (by decide) | decide) (by first | omega | exact bits_lt31 _ | exact bitN_lt _ _ | exact bool_lt _ | exact and_lt31 _ _ _ _ | exact Nat.lt_of_le_of_lt (dst_lt _ _ _ (by omega) _) (by decide) | exact Nat.lt_of_le_of_lt (nrB_le _ _ _ (by omega)).2 (by decide) | decide)).mpr h_9
          have h_9 := tn_y h_9
          refine lv_aload_n hx hb dX5_findRing_23 rfl (lv_at hl 0 rfl) ?_
          refine va_get (D := D) (ci := 5) (v := .ref (ad 5)) (C := RX5) (T := TX5) (N := 14) hx hb hts iX5 hown hK hP 0 rfl rfl 8 (by decide) f22 (fun _ h9 => h9) rfl dX5_findRing_24 ?_
          refine lv_iload_n hx hb dX5_findRing_27 rfl (lv_at hl 3 rfl) ?_
          refine r_ild (k := cn) hx hb hK hP 5 rfl (by omega) (by decide) dX5_findRing_28 ?_
          refine tpe (y := bI (dst F Q0 t 7 cn)) rfl ?_
          refine lv_if_lt (tgt := 36) hx hb dX5_findRing_29 (by decide) (fun h_10 => ?_) (fun h_10 => ?_)
          · have h_10 := h_10
            refine lv_iconst (v := (nI 0)) hx hb dX5_findRing_36 (by decide) ?_
            refine lv_istore (lv' := [(4, .int (nI 0)), (0, .ref (ad 0)), (1, .int (nI t)), (2, .int (bI (nrU (dst F Q0 t 7) (awB F Q0 t) n))), (3, .int (nI cn))]) hx hb dX5_findRing_37 hl (by decide) rfl (fun ls hl => ?_)
            refine lv_iload hx hb dX5_findRing_39 (lv_at hl 0 rfl) ?_
            refine lv_if_eq (tgt := 67) hx hb dX5_findRing_41 (by decide) (fun _ => ?_) (fun h => absurd (by decide) h)
            refine lv_iload_n hx hb dX5_findRing_67 rfl (lv_at hl 3 rfl) ?_
            refine lv_istore_n (lv' := [(2, .int (bI (nrU (dst F Q0 t 7) (awB F Q0 t) n))), (4, .int (nI 0)), (0, .ref (ad 0)), (1, .int (nI t)), (3, .int (nI cn))]) hx hb dX5_findRing_68 rfl hl (by decide) rfl (fun ls hl => ?_)
            refine lv_iinc (v := (nI cn - nI 1)) (lv' := [(3, .int (nI cn - nI 1)), (2, .int (bI (nrU (dst F Q0 t 7) (awB F Q0 t) n))), (4, .int (nI 0)), (0, .ref (ad 0)), (1, .int (nI t))]) hx hb dX5_findRing_69 hl (k := 4) rfl iinc_s (by decide) rfl (fun ls hl => ?_)
            refine lv_goto (tgt := 10) hx hb dX5_findRing_72 (by decide) ?_
            obtain ⟨k4, hk4⟩ : ∃ k, k = nI cn - nI 1 := ⟨_, rfl⟩
            rw [← hk4] at hl
            rw [show (bI (nrU (dst F Q0 t 7) (awB F Q0 t) n)) = (bI (nrU (dst F Q0 t 7) (awB F Q0 t) (n + 1))) from (congrArg bI (nrU_n (by omega) (fun q => by have := (bI_neg (dst_lt F Q0 t (d := 7) (by decide) cn)).mp h_10; omega)).symm)] at hl
            rw [hk4] at hl
            exact ih10 (n + 1) cn (by omega) (by omega) _ _ hP hD hS _ (lv_sub hl [3, 4, 1, 0] rfl)
          · have h_10 := h_10
            refine lv_iconst (v := (nI 1)) hx hb dX5_findRing_32 (by decide) ?_
            refine lv_goto (tgt := 37) hx hb dX5_findRing_33 (by decide) ?_
            refine lv_istore (lv' := [(4, .int (nI 1)), (0, .ref (ad 0)), (1, .int (nI t)), (2, .int (bI (nrU (dst F Q0 t 7) (awB F Q0 t) n))), (3, .int (nI cn))]) hx hb dX5_findRing_37 hl (by decide) rfl (fun ls hl => ?_)
            refine lv_iload hx hb dX5_findRing_39 (lv_at hl 0 rfl) ?_
            refine lv_if_eq (tgt := 67) hx hb dX5_findRing_41 (by decide) (fun h => absurd h (by decide)) (fun _ => ?_)
            refine lv_iload_n hx hb dX5_findRing_44 rfl (lv_at hl 3 rfl) ?_
            refine lv_if_lt (tgt := 63) hx hb dX5_findRing_45 (by decide) (fun h_11 => ?_) (fun h_11 => ?_)
            · have h_11 := h_11
              refine lv_iload_n hx hb dX5_findRing_63 rfl (lv_at hl 4 rfl) ?_
              refine lv_goto (tgt := 68) hx hb dX5_findRing_64 (by decide) ?_
              refine lv_istore_n (lv' := [(2, .int (nI cn)), (4, .int (nI 1)), (0, .ref (ad 0)), (1, .int (nI t)), (3, .int (nI cn))]) hx hb dX5_findRing_68 rfl hl (by decide) rfl (fun ls hl => ?_)
              refine lv_iinc (v := (nI cn - nI 1)) (lv' := [(3, .int (nI cn - nI 1)), (2, .int (nI cn)), (4, .int (nI 1)), (0, .ref (ad 0)), (1, .int (nI t))]) hx hb dX5_findRing_69 hl (k := 4) rfl iinc_s (by decide) rfl (fun ls hl => ?_)
              refine lv_goto (tgt := 10) hx hb dX5_findRing_72 (by decide) ?_
              obtain ⟨k4, hk4⟩ : ∃ k, k = nI cn - nI 1 := ⟨_, rfl⟩
              rw [← hk4] at hl
              rw [show (nI cn) = (bI (nrU (dst F Q0 t 7) (awB F Q0 t) (n + 1))) from (nrU_y (by omega) h_9 (show dst F Q0 t 7 cn < 8 by have := dst_lt F Q0 t (d := 7) (by decide) cn; have := mt (bI_neg (dst_lt F Q0 t (d := 7) (by decide) cn)).mpr h_10; omega) (Or.inl ((bI_neg (nrU_le (by omega))).mp h_11)))] at hl
              rw [hk4] at hl
              exact ih10 (n + 1) cn (by omega) (by omega) _ _ hP hD hS _ (lv_sub hl [3, 4, 1, 0] rfl)
            · have h_11 := h_11
              have hx8 : ¬ nrU (dst F Q0 t 7) (awB F Q0 t) n = 8 := fun q => h_11 ((bI_neg (nrU_le (by omega))).mpr q)
              have hxD := nrU_D (by omega) hx8
              have hxl := hxD.1
              rw [bI_some hx8] at hl
              refine lv_aload_n hx hb dX5_findRing_48 rfl (lv_at hl 1 rfl) ?_
              refine va_get (D := D) (ci := 5) (v := .ref (ad 5)) (C := RX5) (T := TX5) (N := 14) hx hb hts iX5 hown hK hP 0 rfl rfl 8 (by decide) f22 (fun _ h9 => h9) rfl dX5_findRing_49 ?_
              refine lv_iload_n hx hb dX5_findRing_52 rfl (lv_at hl 4 rfl) ?_
              refine r_ild (k := cn) hx hb hK hP 5 rfl (by omega) (by decide) dX5_findRing_53 ?_
              refine tpe (y := bI (dst F Q0 t 7 cn)) rfl ?_
              refine lv_aload_n hx hb dX5_findRing_54 rfl (lv_at hl 1 rfl) ?_
              refine va_get (D := D) (ci := 5) (v := .ref (ad 5)) (C := RX5) (T := TX5) (N := 14) hx hb hts iX5 hown hK hP 0 rfl rfl 8 (by decide) f22 (fun _ h9 => h9) rfl dX5_findRing_55 ?_
              refine lv_iload_n hx hb dX5_findRing_58 rfl (lv_at hl 3 rfl) ?_
              refine r_ild (k := (nrU (dst F Q0 t 7) (awB F Q0 t) n)) hx hb hK hP 5 rfl (by omega) (by decide) dX5_findRing_59 ?_
              refine tpe (y := bI (dst F Q0 t 7 (nrU (dst F Q0 t 7) (awB F Q0 t) n))) rfl ?_
              refine lv_icmp_gt (tgt := 67) hx hb dX5_findRing_60 (by decide) (fun h_12 => ?_) (fun h_12 => ?_)
              · have h_12 := h_12
                refine lv_iload_n hx hb dX5_findRing_67 rfl (lv_at hl 3 rfl) ?_
                refine lv_istore_n (lv' := [(2, .int (nI (nrU (dst F Q0 t 7) (awB F Q0 t) n))), (4, .int (nI 1)), (0, .ref (ad 0)), (1, .int (nI t)), (3, .int (nI cn))]) hx hb dX5_findRing_68 rfl hl (by decide) rfl (fun ls hl => ?_)
                refine lv_iinc (v := (nI cn - nI 1)) (lv' := [(3, .int (nI cn - nI 1)), (2, .int (nI (nrU (dst F Q0 t 7) (awB F Q0 t) n))), (4, .int (nI 1)), (0, .ref (ad 0)), (1, .int (nI t))]) hx hb dX5_findRing_69 hl (k := 4) rfl iinc_s (by decide) rfl (fun ls hl => ?_)
                refine lv_goto (tgt := 10) hx hb dX5_findRing_72 (by decide) ?_
                obtain ⟨k4, hk4⟩ : ∃ k, k = nI cn - nI 1 := ⟨_, rfl⟩
                rw [← hk4] at hl
                rw [show (nI (nrU (dst F Q0 t 7) (awB F Q0 t) n)) = (bI (nrU (dst F Q0 t 7) (awB F Q0 t) (n + 1))) from (by rw [nrU_n (by omega) (fun q => q.2.2.elim hx8 (fun z => Nat.not_lt.mpr z ((bI_lt hxD.2 (show dst F Q0 t 7 cn < 8 by have := dst_lt F Q0 t (d := 7) (by decide) cn; have := mt (bI_neg (dst_lt F Q0 t (d := 7) (by decide) cn)).mpr h_10; omega)).mp h_12)))]; exact (bI_some hx8).symm)] at hl
                rw [hk4] at hl
                exact ih10 (n + 1) cn (by omega) (by omega) _ _ hP hD hS _ (lv_sub hl [3, 4, 1, 0] rfl)
              · have h_12 := h_12
                refine lv_iload_n hx hb dX5_findRing_63 rfl (lv_at hl 4 rfl) ?_
                refine lv_goto (tgt := 68) hx hb dX5_findRing_64 (by decide) ?_
                refine lv_istore_n (lv' := [(2, .int (nI cn)), (4, .int (nI 1)), (0, .ref (ad 0)), (1, .int (nI t)), (3, .int (nI cn))]) hx hb dX5_findRing_68 rfl hl (by decide) rfl (fun ls hl => ?_)
                refine lv_iinc (v := (nI cn - nI 1)) (lv' := [(3, .int (nI cn - nI 1)), (2, .int (nI cn)), (4, .int (nI 1)), (0, .ref (ad 0)), (1, .int (nI t))]) hx hb dX5_findRing_69 hl (k := 4) rfl iinc_s (by decide) rfl (fun ls hl => ?_)
                refine lv_goto (tgt := 10) hx hb dX5_findRing_72 (by decide) ?_
                obtain ⟨k4, hk4⟩ : ∃ k, k = nI cn - nI 1 := ⟨_, rfl⟩
                rw [← hk4] at hl
                rw [show (nI cn) = (bI (nrU (dst F Q0 t 7) (awB F Q0 t) (n + 1))) from (nrU_y (by omega) h_9 (show dst F Q0 t 7 cn < 8 by have := dst_lt F Q0 t (d := 7) (by decide) cn; have := mt (bI_neg (dst_lt F Q0 t (d := 7) (by decide) cn)).mpr h_10; omega) (Or.inr (Nat.not_lt.mp (mt (bI_lt hxD.2 (show dst F Q0 t 7 cn < 8 by have := dst_lt F Q0 t (d := 7) (by decide) cn; have := mt (bI_neg (dst_lt F Q0 t (d := 7) (by decide) cn)).mpr h_10; omega)).mpr h_12))))] at hl
                rw [hk4] at hl
                exact ih10 (n + 1) cn (by omega) (by omega) _ _ hP hD hS _ (lv_sub hl [3, 4, 1, 0] rfl)
  rw [show (-1) = (bI (nrU (dst F Q0 t 7) (awB F Q0 t) 0)) from rfl] at hl
  rw [show (nI 7) = (nI 8 - nI 1) from (by decide)] at hl
  exact L10 _ 0 8 rfl (Nat.lt_succ_self _) _ _ hP hD hS _ (lv_sub hl [2, 3, 1, 0] rfl)

