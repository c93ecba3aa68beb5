/-! the law: numbers, locks, queues -/
/-! the addresses of a world do not change -/
theorem adw1 {a : Nat} {x y : va_E} : List.map Prod.fst [(a, x)] = List.map Prod.fst [(a, y)] := rfl
theorem adw2 {a b : Nat} {x y x2 y2 : va_E} : List.map Prod.fst [(a, x), (b, x2)] = List.map Prod.fst [(a, y), (b, y2)] := rfl
theorem adw3 {a b c : Nat} {x y x2 y2 x3 y3 : va_E} : List.map Prod.fst [(a, x), (b, x2), (c, x3)] = List.map Prod.fst [(a, y), (b, y2), (c, y3)] := rfl
theorem adw4 {a b c d : Nat} {x y x2 y2 x3 y3 x4 y4 : va_E} : List.map Prod.fst [(a, x), (b, x2), (c, x3), (d, x4)] = List.map Prod.fst [(a, y), (b, y2), (c, y3), (d, y4)] := rfl
def lowN (v : Int32) (n : Nat) : Nat := v.toBitVec.toNat % 2 ^ 31 % n
theorem lowN_lt {v : Int32} {n : Nat} (h : 0 < n) : lowN v n < n := Nat.mod_lt _ h
theorem low_I {v : Int32} {n : Nat} (h0 : 0 < n) (hn : n < 2 ^ 31) : (v &&& 2147483647) - (v &&& 2147483647) / nI n * nI n = nI (lowN v n) := by
  rw [pk_and v 31 (by decide), pk_rem (Nat.mod_lt _ (by decide)) h0 hn]; rfl
theorem ix_out {L : List Nat} {t : Nat} (h : ∀ j, j < L.length → L.getD j 0 ≠ t) : L.length = L.idxOf t := by
  have hm : ¬ t ∈ L := fun hm => by
    obtain ⟨j, hj, e⟩ := List.mem_iff_getElem.mp hm
    refine h j hj ?_
    rw [List.getD_eq_getElem?_getD, List.getElem?_eq_getElem hj]
    exact e
  exact (List.idxOf_eq_length hm).symm
theorem qN_l63 {L : List Nat} (h : ∀ x ∈ L, x < 8) (hl : L.length ≤ 8) : qN L < 2 ^ 63 := Nat.lt_trans (qN_8 h hl) (by decide)
theorem drop_l63 {L : List Nat} {n : Nat} (h : ∀ x ∈ L, x < 8) (hl : L.length ≤ 8) : qN (L.drop n) < 2 ^ 63 := qN_l63 (mem_drop h) (by rw [List.length_drop]; omega)
theorem drop_s {L : List Nat} {n : Nat} (h : ∀ x ∈ L, x < 8) (hl : L.length ≤ 8) (hn : n < L.length) : lN (qN (L.drop n)) >>> ((nI 4).toInt64 &&& 63) = lN (qN (L.drop (n + 1))) := by
  have h1 := qN_div (l := L.drop n) (i := 1) (mem_drop h) (by rw [List.length_drop]; omega)
  rw [List.drop_drop] at h1
  rw [lN_shr (drop_l63 h hl) (by decide)]
  congr 1
theorem drop_e {L : List Nat} {n : Nat} (hn : n ≤ L.length) (h : qN (L.drop n) = 0) : n = L.length := by
  have := congrArg List.length (qN_0.mp h)
  rw [List.length_drop] at this
  simp only [List.length_nil] at this
  omega
theorem drop_ne {L : List Nat} {n : Nat} (hn : n ≤ L.length) (h : ¬ qN (L.drop n) = 0) : n < L.length := by
  refine Nat.lt_of_le_of_ne hn (fun e => h ?_)
  rw [e, List.drop_length]
  rfl
theorem at_v {L : List Nat} {i : Nat} (h : ∀ x ∈ L, x < 8) (hl : L.length ≤ 8) (hi : i < L.length) : (lN (qN L) >>> ((nI (4 * i)).toInt64 &&& 63)) &&& 15 = lN (L.getD i 0 + 1) := by
  rw [lN_shr (qN_l63 h hl) (by omega), lN_m15 (Nat.lt_of_le_of_lt (Nat.div_le_self _ _) (qN_l63 h hl)), qN_at h hi]
theorem getD_8 {L : List Nat} {i : Nat} (h : ∀ x ∈ L, x < 8) (hi : i < L.length) : L.getD i 0 < 8 := h _ (getD_mem hi)

abbrev rL_low : Room := { frames := 0, cells := 0, slots := 0, locals := 0 }
set_option maxHeartbeats 1000000 in
set_option maxRecDepth 100000 in
theorem c_L_low (l : Launch) (D : va_G) (cI cT cL : ClassId) (v : Int32) (n : Nat) (h0 : 0 < n) (hn : n < 2 ^ 31) : CL l D cI cT cL yL_low wsL_low rL_low [.int v, .int (nI n)] ([]) (S := Unit) (fun v9 _ => v9 = nI (lowN v n)) (fun _ => []) := by
  refine CL.of (cc := cL_low) (maxL := 2) (ret := (some .int)) (by decide) rfl (Nat.le_of_ble_eq_true rfl) ?_
  intro p e s m args below meth c A Q hQ B hA H locs hP hKL hD hS ls hl
  have hK : va_K D vwCl (TY cI cT) s := hKL.sub (tys' := TY cI cT) [0, 1] rfl
  obtain ⟨hx, hb, hml, hrt, hts, hown, hlk⟩ := B
  have hl : lv_has ls 2 [(0, .int v), (1, .int (nI n))] := hl
  refine lv_iload_n hx hb dL_low_0 rfl (lv_at hl 0 rfl) ?_
  refine lv_ldc (v := 2147483647) hx hb hown (hts (.constant RL 8 (2147483647)) (by decide +kernel)) dL_low_1 ?_
  refine lv_iand hx hb dL_low_3 ?_
  refine lv_iload_n hx hb dL_low_4 rfl (lv_at hl 1 rfl) ?_
  refine lv_irem hx hb dL_low_5 (nI_ne0 h0 hn) ?_
  refine tpe (y := (nI (lowN v n))) (low_I h0 hn) ?_
  exact ret_i (u := ()) hQ hx hb hrt hlk hS dL_low_6 hP rfl

abbrev rL_lock : Room := { frames := 0, cells := 0, slots := 0, locals := 0 }
set_option maxHeartbeats 1000000 in
set_option maxRecDepth 100000 in
theorem c_L_lock (l : Launch) (D : va_G) (cI cT cL : ClassId) (am : Nat) (fm : Nat → Int32) (F : FF) (Q0 : QQ) (t r : Nat) (ht : t < 8) (hr : r < 10) (hJ : JJ F Q0) (hM : MM F fm) : CL l D cI cT cL yL_lock wsL_lock rL_lock [.ref am, .int (nI t), .int (nI r)] ([(am, .inl (cI, 10, .inl fm))]) (S := Unit) (fun v _ => v = lk F t r) (fun _ => [(am, .inl (cI, 10, .inl fm))]) := by
  refine CL.of (cc := cL_lock) (maxL := 3) (ret := (some .int)) (by decide) rfl (Nat.le_of_ble_eq_true rfl) ?_
  intro p e s m args below meth c A Q hQ B hA H locs hP hKL hD hS ls hl
  have hK : va_K D vwCl (TY cI cT) s := hKL.sub (tys' := TY cI cT) [0, 1] rfl
  obtain ⟨hx, hb, hml, hrt, hts, hown, hlk⟩ := B
  have hl : lv_has ls 3 [(0, .ref am), (1, .int (nI t)), (2, .int (nI r))] := hl
  refine lv_aload_n hx hb dL_lock_0 rfl (lv_at hl 0 rfl) ?_
  refine lv_iload_n hx hb dL_lock_1 rfl (lv_at hl 2 rfl) ?_
  refine r_ild (k := r) hx hb hK hP 0 rfl (by omega) (by decide) dL_lock_2 ?_
  refine lv_iconst (v := (nI 2)) hx hb dL_lock_3 (by decide) ?_
  refine lv_iload_n hx hb dL_lock_4 rfl (lv_at hl 1 rfl) ?_
  refine lv_imul hx hb dL_lock_5 ?_
  refine tpe (y := (nI (2 * t))) (pk_mul _ _) ?_
  refine lv_ishr hx hb dL_lock_6 ?_
  refine lv_iconst (v := (nI 3)) hx hb dL_lock_7 (by decide) ?_
  refine lv_iand hx hb dL_lock_8 ?_
  exact ret_i (u := ()) hQ hx hb hrt hlk hS dL_lock_9 hP (MM_get hJ hM ht hr)

abbrev rL_length : Room := { frames := 0, cells := 0, slots := 0, locals := 0 }
set_option maxHeartbeats 1000000 in
set_option maxRecDepth 100000 in
theorem c_L_length (l : Launch) (D : va_G) (cI cT cL : ClassId) (L : List Nat) (hq8 : ∀ x ∈ L, x < 8) (hql : L.length ≤ 8) : CL l D cI cT cL yL_length wsL_length rL_length [.long (lN (qN L))] ([]) (S := Unit) (fun v _ => v = nI L.length) (fun _ => []) := by
  refine CL.of (cc := cL_length) (maxL := 5) (ret := (some .int)) (by decide) rfl (Nat.le_of_ble_eq_true rfl) ?_
  intro p e s m args below meth c A Q hQ B hA H locs hP hKL hD hS ls hl
  have hK : va_K D vwCl (TY cI cT) s := hKL.sub (tys' := TY cI cT) [0, 1] rfl
  obtain ⟨hx, hb, hml, hrt, hts, hown, hlk⟩ := B
  have hl : lv_has ls 5 [(0, .long (lN (qN L)))] := hl
  refine lv_iconst (v := (nI 0)) hx hb dL_length_0 (by decide) ?_
  refine lv_istore_n (lv' := [(2, .int (nI 0)), (0, .long (lN (qN L)))]) hx hb dL_length_1 rfl hl (by decide) rfl (fun ls hl => ?_)
  refine lv_lload_n hx hb dL_length_2 rfl (lv_at hl 1 rfl) ?_
  refine lv_lstore_n (lv' := [(3, .long (lN (qN L))), (2, .int (nI 0)), (0, .long (lN (qN L)))]) hx hb dL_length_3 rfl hl (by decide) rfl (fun ls hl => ?_)
  have L4 : ∀ (N : Nat) (n : Nat), (n ≤ L.length) → (8 - n) < N → ∀ (H : Heap) (locs : List Loc), va_P D vwCl ([]) H → va_D A ([]) → va_S A s.heap H locs → ∀ ls : Array Slot, lv_has ls 5 [(0, .long (lN (qN L))), (2, .int (nI n)), (3, .long (lN (qN (L.drop n))))] → W p l e rL_length s m args below meth c H locs 0 0 Q (F0 m 4 ls []) := by
    intro N4
    induction N4 with
    | zero => intro n hn hN; exact absurd hN (Nat.not_lt_zero _)
    | succ N4 ih4 =>
      intro n hn hN H locs hP hD hS ls hl
      refine lv_lload_n hx hb dL_length_4 rfl (lv_at hl 2 rfl) ?_
      refine lv_lconst (v := lN 0) hx hb dL_length_5 rfl ?_
      refine W.lcmp hx hb dL_length_6 ?_
      refine lv_if_le (tgt := 20) hx hb dL_length_7 (by decide) (fun h_1 => ?_) (fun h_1 => ?_)
      · have h_1 := h_1
        refine lv_iload_n hx hb dL_length_20 rfl (lv_at hl 1 rfl) ?_
        exact ret_i (u := ()) hQ hx hb hrt hlk hS dL_length_21 hP (congrArg nI (drop_e hn ((lN_pos (drop_l63 hq8 hql)).mp h_1)))
      · have h_1 := h_1
        have hz : ¬ qN (L.drop n) = 0 := fun q => h_1 ((lN_pos (drop_l63 hq8 hql)).mpr q)
        have hlt := drop_ne hn hz
        refine lv_iinc (v := (nI (n + 1))) (lv' := [(2, .int (nI (n + 1))), (0, .long (lN (qN L))), (3, .long (lN (qN (L.drop n))))]) hx hb dL_length_10 hl (k := 1) rfl (nI_add _ 1) (by decide) rfl (fun ls hl => ?_)
        refine lv_lload_n hx hb dL_length_13 rfl (lv_at hl 2 rfl) ?_
        refine lv_iconst (v := (nI 4)) hx hb dL_length_14 (by decide) ?_
        refine lv_lshr (v := (lN (qN (L.drop n))) >>> ((nI 4).toInt64 &&& 63)) hx hb dL_length_15 rfl ?_
        refine tpl (y := (lN (qN (L.drop (n + 1))))) (drop_s hq8 hql hlt) ?_
        refine lv_lstore_n (lv' := [(3, .long (lN (qN (L.drop (n + 1))))), (2, .int (nI (n + 1))), (0, .long (lN (qN L)))]) hx hb dL_length_16 rfl hl (by decide) rfl (fun ls hl => ?_)
        refine lv_goto (tgt := 4) hx hb dL_length_17 (by decide) ?_
        exact ih4 (n + 1) (Nat.succ_le_of_lt hlt) (by omega) _ _ hP hD hS _ (lv_sub hl [2, 1, 0] rfl)
  exact L4 _ 0 (Nat.zero_le _) (Nat.lt_succ_self _) _ _ hP hD hS _ (lv_sub hl [2, 1, 0] rfl)

abbrev rL_at : Room := { frames := 0, cells := 0, slots := 0, locals := 0 }
set_option maxHeartbeats 1000000 in
set_option maxRecDepth 100000 in
theorem c_L_at (l : Launch) (D : va_G) (cI cT cL : ClassId) (L : List Nat) (i : Nat) (hq8 : ∀ x ∈ L, x < 8) (hql : L.length ≤ 8) (hi : i < L.length) : CL l D cI cT cL yL_at wsL_at rL_at [.long (lN (qN L)), .int (nI i)] ([]) (S := Unit) (fun v _ => v = nI (L.getD i 0)) (fun _ => []) := by
  refine CL.of (cc := cL_at) (maxL := 3) (ret := (some .int)) (by decide) rfl (Nat.le_of_ble_eq_true rfl) ?_
  intro p e s m args below meth c A Q hQ B hA H locs hP hKL hD hS ls hl
  have hK : va_K D vwCl (TY cI cT) s := hKL.sub (tys' := TY cI cT) [0, 1] rfl
  obtain ⟨hx, hb, hml, hrt, hts, hown, hlk⟩ := B
  have hl : lv_has ls 3 [(0, .long (lN (qN L))), (2, .int (nI i))] := hl
  refine lv_lload_n hx hb dL_at_0 rfl (lv_at hl 0 rfl) ?_
  refine lv_iconst (v := (nI 4)) hx hb dL_at_1 (by decide) ?_
  refine lv_iload_n hx hb dL_at_2 rfl (lv_at hl 1 rfl) ?_
  refine lv_imul hx hb dL_at_3 ?_
  refine tpe (y := (nI (4 * i))) (pk_mul _ _) ?_
  refine lv_lshr (v := (lN (qN L)) >>> ((nI (4 * i)).toInt64 &&& 63)) hx hb dL_at_4 rfl ?_
  refine lv_ldc2 (v := 15) hx hb hown (hts (.constantLong RL 50 (15)) (by decide +kernel)) dL_at_5 ?_
  refine lv_land hx hb dL_at_8 ?_
  refine tpl (y := (lN (L.getD i 0 + 1))) (at_v hq8 hql hi) ?_
  refine lv_l2i (v := (lN (L.getD i 0 + 1)).toInt32) hx hb dL_at_9 rfl ?_
  refine tpe (y := (nI (L.getD i 0 + 1))) (lN_i _) ?_
  refine lv_iconst (v := (nI 1)) hx hb dL_at_10 (by decide) ?_
  refine lv_isub hx hb dL_at_11 ?_
  refine tpe (y := (nI ((L.getD i 0 + 1) - 1))) (pk_sub (by omega)) ?_
  exact ret_i (u := ()) hQ hx hb hrt hlk hS dL_at_12 hP (by rw [Nat.add_sub_cancel])

abbrev rL_index : Room := { frames := 1, cells := 0, slots := 0, locals := 24 }
set_option maxHeartbeats 1000000 in
set_option maxRecDepth 100000 in
theorem c_L_index (l : Launch) (D : va_G) (cI cT cL : ClassId) (L : List Nat) (t : Nat) (hq8 : ∀ x ∈ L, x < 8) (hql : L.length ≤ 8) (ht : t < 8) : CL l D cI cT cL yL_index wsL_index rL_index [.long (lN (qN L)), .int (nI t)] ([]) (S := Unit) (fun v _ => v = nI (L.idxOf t)) (fun _ => []) := by
  refine CL.of (cc := cL_index) (maxL := 4) (ret := (some .int)) (by decide) rfl (Nat.le_of_ble_eq_true rfl) ?_
  intro p e s m args below meth c A Q hQ B hA H locs hP hKL hD hS ls hl
  have hK : va_K D vwCl (TY cI cT) s := hKL.sub (tys' := TY cI cT) [0, 1] rfl
  obtain ⟨hx, hb, hml, hrt, hts, hown, hlk⟩ := B
  have hl : lv_has ls 4 [(0, .long (lN (qN L))), (2, .int (nI t))] := hl
  refine lv_iconst (v := (nI 0)) hx hb dL_index_0 (by decide) ?_
  refine lv_istore_n (lv' := [(3, .int (nI 0)), (0, .long (lN (qN L))), (2, .int (nI t))]) hx hb dL_index_1 rfl hl (by decide) rfl (fun ls hl => ?_)
  have L2 : ∀ (N : Nat) (i : Nat), (i ≤ L.length) → (∀ j, j < i → L.getD j 0 ≠ t) → (8 - i) < N → ∀ (H : Heap) (locs : List Loc), va_P D vwCl ([]) H → va_D A ([]) → va_S A s.heap H locs → ∀ ls : Array Slot, lv_has ls 4 [(0, .long (lN (qN L))), (2, .int (nI t)), (3, .int (nI i))] → W p l e rL_index s m args below meth c H locs 0 0 Q (F0 m 2 ls []) := by
    intro N2
    induction N2 with
    | zero => intro i hi hb9 hN; exact absurd hN (Nat.not_lt_zero _)
    | succ N2 ih2 =>
      intro i hi hb9 hN H locs hP hD hS ls hl
      refine lv_iload_n hx hb dL_index_2 rfl (lv_at hl 2 rfl) ?_
      refine lv_lload_n hx hb dL_index_3 rfl (lv_at hl 0 rfl) ?_
      refine call_l (X := []) (Wc := []) (Z := []) (As := [.long (lN (qN L))]) (rest := [.int (nI i)]) ⟨hx, hb, hml, hown, hts⟩ (c_L_length l D cI cT cL L hq8 hql) (va_cwS 1 hts gL_index_L_length rfl rfl rfl (by decide +kernel) ⟨Nat.le_of_ble_eq_true rfl, Nat.le_of_ble_eq_true rfl⟩) hKL (P_nilr hP) (D_nilr hD) hS hA (fun _ => rfl) rfl hl.1 rfl (Nat.le_of_ble_eq_true rfl) ⟨by decide, by decide⟩ dL_index_4 (fun rv uu H locs hp hP hD hS => ?_)
      have hP := P_nil2 hP
      have hD := D_nil2 hD
      obtain rfl := hp
      have hP : va_P D vwCl ([]) H := hP
      have hD : va_D A ([]) := hD
      refine lv_icmp_ge (tgt := 25) hx hb dL_index_7 (by decide) (fun h_1 => ?_) (fun h_1 => ?_)
      · have h_1 := (nI_leI (a := L.length) (b := i) (by omega) (by omega)).mp h_1
        refine lv_iload_n hx hb dL_index_25 rfl (lv_at hl 2 rfl) ?_
        exact ret_i (u := ()) hQ hx hb hrt hlk hS dL_index_26 hP (congrArg nI (by rw [← ix_out (fun j hj => hb9 j (by omega))]; omega))
      · have h_1 := mt (nI_leI (a := L.length) (b := i) (by omega) (by omega)).mpr h_1
        have hlt := Nat.not_le.mp h_1
        have h8 := getD_8 hq8 hlt
        refine lv_lload_n hx hb dL_index_10 rfl (lv_at hl 0 rfl) ?_
        refine lv_iload_n hx hb dL_index_11 rfl (lv_at hl 2 rfl) ?_
        refine call_l (X := []) (Wc := []) (Z := []) (As := [.long (lN (qN L)), .int (nI i)]) (rest := []) ⟨hx, hb, hml, hown, hts⟩ (c_L_at l D cI cT cL L i hq8 hql hlt) (va_cwS 2 hts gL_index_L_at rfl rfl rfl (by decide +kernel) ⟨Nat.le_of_ble_eq_true rfl, Nat.le_of_ble_eq_true rfl⟩) hKL (P_nilr hP) (D_nilr hD) hS hA (fun _ => rfl) rfl hl.1 rfl (Nat.le_of_ble_eq_true rfl) ⟨by decide, by decide⟩ dL_index_12 (fun rv uu H locs hp hP hD hS => ?_)
        have hP := P_nil2 hP
        have hD := D_nil2 hD
        obtain rfl := hp
        have hP : va_P D vwCl ([]) H := hP
        have hD : va_D A ([]) := hD
        refine lv_iload_n hx hb dL_index_15 rfl (lv_at hl 1 rfl) ?_
        refine lv_icmp_eq (tgt := 25) hx hb dL_index_16 (by decide) (fun h_2 => ?_) (fun h_2 => ?_)
        · have h_2 := (nI_eq (a := (L.getD i 0)) (b := t) (by omega) (by omega)).mp h_2
          refine lv_iload_n hx hb dL_index_25 rfl (lv_at hl 2 rfl) ?_
          exact ret_i (u := ()) hQ hx hb hrt hlk hS dL_index_26 hP (congrArg nI (ix_at hlt h_2 hb9))
        · have h_2 := mt (nI_eq (a := (L.getD i 0)) (b := t) (by omega) (by omega)).mpr h_2
          refine lv_iinc (v := (nI (i + 1))) (lv' := [(3, .int (nI (i + 1))), (0, .long (lN (qN L))), (2, .int (nI t))]) hx hb dL_index_19 hl (k := 2) rfl (nI_add _ 1) (by decide) rfl (fun ls hl => ?_)
          refine lv_goto (tgt := 2) hx hb dL_index_22 (by decide) ?_
          exact ih2 (i + 1) (Nat.succ_le_of_lt hlt) (fun j hj => if e : j = i then by rw [e]; exact h_2 else hb9 j (by omega)) (by omega) _ _ hP hD hS _ (lv_sub hl [1, 2, 0] rfl)
  exact L2 _ 0 (Nat.zero_le _) (fun j hj => absurd hj (Nat.not_lt_zero _)) (Nat.lt_succ_self _) _ _ hP hD hS _ (lv_sub hl [1, 2, 0] rfl)
