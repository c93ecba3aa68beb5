/-- a table as it is made -/
def iniF : FF := fun k => match k with | 0 => (fun z => if z < 8 then -1 else 0) | 1 => (fun z => if z < 8 then -1 else 0) | 2 => (fun z => if z < 8 then -1 else 0) | 3 => (fun z => if z < 8 then -1 else 0) | _ => fun _ => 0
def iniQ : QQ := fun _ => []
def iniq : Nat → Int32 := fun _ => 0
def iniN (i : Nat) : Nat → Int32 := fun z => if z < i then -1 else 0
theorem iniN_0 : iniN 0 = fun _ => 0 := by
  funext z
  simp [iniN]
theorem iniN_up (i : Nat) : upd (iniN i) i (-1) = iniN (i + 1) := by
  funext z
  by_cases h : z = i
  · subst h
    simp [upd, iniN]
  · have h2 : (z < i) = (z < i + 1) := propext (by omega)
    simp [upd, iniN, h, h2]
abbrev W2 (cI : ClassId) (h0 q0 q1 q2 q3 q4 q5 q6 q7 : Nat) (g1 g2 g3 g4 : Nat → Int32) : va_W := [(h0, .inr (2, [.ref q0, .ref q1, .ref q2, .ref q3, .ref q4, .ref q5, .ref q6, .ref q7, .int 0, .int 0, .int 0])), (q0, .inl (cI, 8, .inl g1)), (q1, .inl (cI, 8, .inl g2)), (q2, .inl (cI, 8, .inl g3)), (q3, .inl (cI, 8, .inl g4)), (q4, .inl (cI, 8, .inl (fun _ => 0))), (q5, .inl (cI, 80, .inl (fun _ => 0))), (q6, .inl (cI, 80, .inl (fun _ => 0))), (q7, .inl (cI, 10, .inl (fun _ => 0)))]
def adr2 (h0 q0 q1 q2 q3 q4 q5 q6 q7 : Nat) : Nat → Nat := fun k => match k with | 0 => h0 | 1 => q0 | 2 => q1 | 3 => q2 | 4 => q3 | 5 => q4 | 6 => q5 | 7 => q6 | _ => q7
abbrev rX2_init : Room := { frames := 1, cells := 8, slots := 210, locals := 12 }
set_option maxHeartbeats 1000000 in
set_option maxRecDepth 100000 in
/-- the table is made -/
theorem c_X2_init (l : Launch) (D : va_G) (cI cT : ClassId) (h0 : Nat) : CI l D cI cT yX2_init wsX2_init rX2_init 8 210 (fun _ => True) [.ref h0] [(h0, .inr (2, [.null, .null, .null, .null, .null, .null, .null, .null, .int 0, .int 0, .int 0]))] (S := Nat → Nat) (fun a => a 0 = h0) (fun a => tblW cI a iniF iniQ iniq) := by
  refine CI.of (cc := cX2_init) (maxL := 2) (ret := none) (by decide) rfl (Nat.le_of_ble_eq_true rfl) rfl ?_
  intro p e s m args below meth c A Q hQ B hin hA H locs hP hK hE hD hS ls hl
  obtain ⟨hx, hb, hml, hrt, hts, hown, hlk⟩ := B
  have hl : lv_has ls 2 [(0, .ref h0)] := hl
  have iX2 : ∀ w ∈ u_ws RX2 TX2 11, w ∈ wsX2_init := by decide +kernel
  have harr := hts (.arrayClass .int) (by decide +kernel)
  refine lv_aload_n hx hb dX2_init_0 rfl (lv_at hl 0 rfl) ?_
  refine W.objInit hx hb hown (hts (.methodLink RX2 3 objectInit) (by decide +kernel)) (hts (.instanceMethod objectInit) (by decide +kernel)) (hts _ (List.mem_cons_of_mem _ (List.mem_append_left _ (List.mem_of_getElem? (i := 2) rfl)))) rfl (by rw [hml]; exact hl.1) rfl dX2_init_1 (Nat.le_of_ble_eq_true rfl) (Nat.le_of_ble_eq_true rfl) ?_
  refine W.eq (g2 := F0 m 4 ls []) rfl ?_
  refine lv_aload_n hx hb dX2_init_4 rfl (lv_at hl 0 rfl) ?_
  refine lv_bipush (v := (nI 8)) hx hb dX2_init_5 (by decide) ?_
  refine r_newI hx hb harr hK hP hD hS hA (by decide) (Nat.le_of_ble_eq_true rfl) (Nat.le_of_ble_eq_true rfl) dX2_init_7 (fun q0 H hP hD hS => ?_)
  refine va_putF (D := D) (ci := 2) (v := .ref q0) (ty := .array .int) (C := RX2) (T := TX2) (N := 11) hx hb hts iX2 tyX2 tyX2_ok nmX2 hown hK hP hD hS 0 rfl rfl 0 (by decide) (hts (.fieldLink RX2 9 "LockManager$LockTable" "births" "[I") (by decide +kernel)) (fun _ h9 => h9) rfl hin rfl (by decide +kernel) rfl rfl (Nat.le_of_ble_eq_true rfl) dX2_init_9 (fun H locs hP hD hS => ?_)
  refine lv_aload_n hx hb dX2_init_12 rfl (lv_at hl 0 rfl) ?_
  refine lv_bipush (v := (nI 8)) hx hb dX2_init_13 (by decide) ?_
  refine r_newI hx hb harr hK hP hD hS hA (by decide) (Nat.le_of_ble_eq_true rfl) (Nat.le_of_ble_eq_true rfl) dX2_init_15 (fun q1 H hP hD hS => ?_)
  refine va_putF (D := D) (ci := 2) (v := .ref q1) (ty := .array .int) (C := RX2) (T := TX2) (N := 11) hx hb hts iX2 tyX2 tyX2_ok nmX2 hown hK hP hD hS 0 rfl rfl 1 (by decide) (hts (.fieldLink RX2 15 "LockManager$LockTable" "works" "[I") (by decide +kernel)) (fun _ h9 => h9) rfl hin rfl (by decide +kernel) rfl rfl (Nat.le_of_ble_eq_true rfl) dX2_init_17 (fun H locs hP hD hS => ?_)
  refine lv_aload_n hx hb dX2_init_20 rfl (lv_at hl 0 rfl) ?_
  refine lv_bipush (v := (nI 8)) hx hb dX2_init_21 (by decide) ?_
  refine r_newI hx hb harr hK hP hD hS hA (by decide) (Nat.le_of_ble_eq_true rfl) (Nat.le_of_ble_eq_true rfl) dX2_init_23 (fun q2 H hP hD hS => ?_)
  refine va_putF (D := D) (ci := 2) (v := .ref q2) (ty := .array .int) (C := RX2) (T := TX2) (N := 11) hx hb hts iX2 tyX2 tyX2_ok nmX2 hown hK hP hD hS 0 rfl rfl 2 (by decide) (hts (.fieldLink RX2 18 "LockManager$LockTable" "aborts" "[I") (by decide +kernel)) (fun _ h9 => h9) rfl hin rfl (by decide +kernel) rfl rfl (Nat.le_of_ble_eq_true rfl) dX2_init_25 (fun H locs hP hD hS => ?_)
  refine lv_aload_n hx hb dX2_init_28 rfl (lv_at hl 0 rfl) ?_
  refine lv_bipush (v := (nI 8)) hx hb dX2_init_29 (by decide) ?_
  refine r_newI hx hb harr hK hP hD hS hA (by decide) (Nat.le_of_ble_eq_true rfl) (Nat.le_of_ble_eq_true rfl) dX2_init_31 (fun q3 H hP hD hS => ?_)
  refine va_putF (D := D) (ci := 2) (v := .ref q3) (ty := .array .int) (C := RX2) (T := TX2) (N := 11) hx hb hts iX2 tyX2 tyX2_ok nmX2 hown hK hP hD hS 0 rfl rfl 3 (by decide) (hts (.fieldLink RX2 21 "LockManager$LockTable" "wantedResources" "[I") (by decide +kernel)) (fun _ h9 => h9) rfl hin rfl (by decide +kernel) rfl rfl (Nat.le_of_ble_eq_true rfl) dX2_init_33 (fun H locs hP hD hS => ?_)
  refine lv_aload_n hx hb dX2_init_36 rfl (lv_at hl 0 rfl) ?_
  refine lv_bipush (v := (nI 8)) hx hb dX2_init_37 (by decide) ?_
  refine r_newI hx hb harr hK hP hD hS hA (by decide) (Nat.le_of_ble_eq_true rfl) (Nat.le_of_ble_eq_true rfl) dX2_init_39 (fun q4 H hP hD hS => ?_)
  refine va_putF (D := D) (ci := 2) (v := .ref q4) (ty := .array .int) (C := RX2) (T := TX2) (N := 11) hx hb hts iX2 tyX2 tyX2_ok nmX2 hown hK hP hD hS 0 rfl rfl 4 (by decide) (hts (.fieldLink RX2 24 "LockManager$LockTable" "wantedModes" "[I") (by decide +kernel)) (fun _ h9 => h9) rfl hin rfl (by decide +kernel) rfl rfl (Nat.le_of_ble_eq_true rfl) dX2_init_41 (fun H locs hP hD hS => ?_)
  refine lv_aload_n hx hb dX2_init_44 rfl (lv_at hl 0 rfl) ?_
  refine lv_bipush (v := (nI 80)) hx hb dX2_init_45 (by decide) ?_
  refine r_newI hx hb harr hK hP hD hS hA (by decide) (Nat.le_of_ble_eq_true rfl) (Nat.le_of_ble_eq_true rfl) dX2_init_47 (fun q5 H hP hD hS => ?_)
  refine va_putF (D := D) (ci := 2) (v := .ref q5) (ty := .array .int) (C := RX2) (T := TX2) (N := 11) hx hb hts iX2 tyX2 tyX2_ok nmX2 hown hK hP hD hS 0 rfl rfl 5 (by decide) (hts (.fieldLink RX2 27 "LockManager$LockTable" "locks" "[I") (by decide +kernel)) (fun _ h9 => h9) rfl hin rfl (by decide +kernel) rfl rfl (Nat.le_of_ble_eq_true rfl) dX2_init_49 (fun H locs hP hD hS => ?_)
  refine lv_aload_n hx hb dX2_init_52 rfl (lv_at hl 0 rfl) ?_
  refine lv_bipush (v := (nI 80)) hx hb dX2_init_53 (by decide) ?_
  refine r_newI hx hb harr hK hP hD hS hA (by decide) (Nat.le_of_ble_eq_true rfl) (Nat.le_of_ble_eq_true rfl) dX2_init_55 (fun q6 H hP hD hS => ?_)
  refine va_putF (D := D) (ci := 2) (v := .ref q6) (ty := .array .int) (C := RX2) (T := TX2) (N := 11) hx hb hts iX2 tyX2 tyX2_ok nmX2 hown hK hP hD hS 0 rfl rfl 6 (by decide) (hts (.fieldLink RX2 30 "LockManager$LockTable" "queues" "[I") (by decide +kernel)) (fun _ h9 => h9) rfl hin rfl (by decide +kernel) rfl rfl (Nat.le_of_ble_eq_true rfl) dX2_init_57 (fun H locs hP hD hS => ?_)
  refine lv_aload_n hx hb dX2_init_60 rfl (lv_at hl 0 rfl) ?_
  refine lv_bipush (v := (nI 10)) hx hb dX2_init_61 (by decide) ?_
  refine r_newI hx hb harr hK hP hD hS hA (by decide) (Nat.le_of_ble_eq_true rfl) (Nat.le_of_ble_eq_true rfl) dX2_init_63 (fun q7 H hP hD hS => ?_)
  refine va_putF (D := D) (ci := 2) (v := .ref q7) (ty := .array .int) (C := RX2) (T := TX2) (N := 11) hx hb hts iX2 tyX2 tyX2_ok nmX2 hown hK hP hD hS 0 rfl rfl 7 (by decide) (hts (.fieldLink RX2 33 "LockManager$LockTable" "lengths" "[I") (by decide +kernel)) (fun _ h9 => h9) rfl hin rfl (by decide +kernel) rfl rfl (Nat.le_of_ble_eq_true rfl) dX2_init_65 (fun H locs hP hD hS => ?_)
  have hP : va_P D vwCl (W2 cI h0 q0 q1 q2 q3 q4 q5 q6 q7 (iniN 0) (iniN 0) (iniN 0) (iniN 0)) H := by rw [iniN_0]; exact hP
  have hD : va_D A (W2 cI h0 q0 q1 q2 q3 q4 q5 q6 q7 (iniN 0) (iniN 0) (iniN 0) (iniN 0)) := by rw [iniN_0]; exact hD
  refine lv_iconst (v := (nI 0)) hx hb dX2_init_68 (by decide) ?_
  refine lv_istore_n (lv' := [(1, .int (nI 0)), (0, .ref h0)]) hx hb dX2_init_69 rfl hl (by decide) rfl (fun ls hl => ?_)
  have L70 : ∀ (N : Nat) (i : Nat), (i ≤ 8) → (8 - i) < N → ∀ (H : Heap) (locs : List Loc), va_P D vwCl (W2 cI h0 q0 q1 q2 q3 q4 q5 q6 q7 (iniN i) (iniN i) (iniN i) (iniN i)) H → va_D A (W2 cI h0 q0 q1 q2 q3 q4 q5 q6 q7 (iniN i) (iniN i) (iniN i) (iniN i)) → va_S A s.heap H locs → ∀ ls : Array Slot, lv_has ls 2 [(1, .int (nI i)), (0, .ref h0)] → W p l e rX2_init s m args below meth c H locs 8 210 Q (F0 m 70 ls []) := by
    intro N8
    induction N8 with
    | zero => intro i hi hN; exact absurd hN (Nat.not_lt_zero _)
    | succ N8 ih8 =>
      intro i hi hN H locs hP hD hS ls hl
      refine lv_iload_n hx hb dX2_init_70 rfl (lv_at hl 0 rfl) ?_
      refine lv_bipush (v := (nI 8)) hx hb dX2_init_71 (by decide) ?_
      refine lv_icmp_ge (tgt := 110) hx hb dX2_init_73 (by decide) (fun h_1 => ?_) (fun h_1 => ?_)
      · have h_1 := (nI_leI (a := 8) (b := i) (by decide) (by omega)).mp h_1
        obtain rfl : i = 8 := by omega
        exact ret_c (u := adr2 h0 q0 q1 q2 q3 q4 q5 q6 q7) hQ hx hb hrt hlk hS dX2_init_110 hP hD rfl
      · have h_1 := mt (nI_leI (a := 8) (b := i) (by decide) (by omega)).mpr h_1
        refine lv_aload_n hx hb dX2_init_76 rfl (lv_at hl 1 rfl) ?_
        refine va_get (D := D) (ci := 2) (v := .ref q0) (C := RX2) (T := TX2) (N := 11) hx hb hts iX2 hown hK hP 0 rfl rfl 0 (by decide) (hts (.fieldLink RX2 9 "LockManager$LockTable" "births" "[I") (by decide +kernel)) (fun _ h9 => h9) rfl dX2_init_77 ?_
        refine lv_iload_n hx hb dX2_init_80 rfl (lv_at hl 0 rfl) ?_
        refine lv_iconst (v := (-1)) hx hb dX2_init_81 (by decide) ?_
        refine r_ist (k := i) hx hb hK hP hD hS 1 rfl (by omega) (by decide) dX2_init_82 (fun H locs hP hD hS => ?_)
        rw [iniN_up] at hP hD
        have hP : va_P D vwCl (W2 cI h0 q0 q1 q2 q3 q4 q5 q6 q7 (iniN (i + 1)) (iniN i) (iniN i) (iniN i)) H := hP
        have hD : va_D A (W2 cI h0 q0 q1 q2 q3 q4 q5 q6 q7 (iniN (i + 1)) (iniN i) (iniN i) (iniN i)) := hD
        refine lv_aload_n hx hb dX2_init_83 rfl (lv_at hl 1 rfl) ?_
        refine va_get (D := D) (ci := 2) (v := .ref q1) (C := RX2) (T := TX2) (N := 11) hx hb hts iX2 hown hK hP 0 rfl rfl 1 (by decide) (hts (.fieldLink RX2 15 "LockManager$LockTable" "works" "[I") (by decide +kernel)) (fun _ h9 => h9) rfl dX2_init_84 ?_
        refine lv_iload_n hx hb dX2_init_87 rfl (lv_at hl 0 rfl) ?_
        refine lv_iconst (v := (-1)) hx hb dX2_init_88 (by decide) ?_
        refine r_ist (k := i) hx hb hK hP hD hS 2 rfl (by omega) (by decide) dX2_init_89 (fun H locs hP hD hS => ?_)
        rw [iniN_up] at hP hD
        have hP : va_P D vwCl (W2 cI h0 q0 q1 q2 q3 q4 q5 q6 q7 (iniN (i + 1)) (iniN (i + 1)) (iniN i) (iniN i)) H := hP
        have hD : va_D A (W2 cI h0 q0 q1 q2 q3 q4 q5 q6 q7 (iniN (i + 1)) (iniN (i + 1)) (iniN i) (iniN i)) := hD
        refine lv_aload_n hx hb dX2_init_90 rfl (lv_at hl 1 rfl) ?_
        refine va_get (D := D) (ci := 2) (v := .ref q2) (C := RX2) (T := TX2) (N := 11) hx hb hts iX2 hown hK hP 0 rfl rfl 2 (by decide) (hts (.fieldLink RX2 18 "LockManager$LockTable" "aborts" "[I") (by decide +kernel)) (fun _ h9 => h9) rfl dX2_init_91 ?_
        refine lv_iload_n hx hb dX2_init_94 rfl (lv_at hl 0 rfl) ?_
        refine lv_iconst (v := (-1)) hx hb dX2_init_95 (by decide) ?_
        refine r_ist (k := i) hx hb hK hP hD hS 3 rfl (by omega) (by decide) dX2_init_96 (fun H locs hP hD hS => ?_)
        rw [iniN_up] at hP hD
        have hP : va_P D vwCl (W2 cI h0 q0 q1 q2 q3 q4 q5 q6 q7 (iniN (i + 1)) (iniN (i + 1)) (iniN (i + 1)) (iniN i)) H := hP
        have hD : va_D A (W2 cI h0 q0 q1 q2 q3 q4 q5 q6 q7 (iniN (i + 1)) (iniN (i + 1)) (iniN (i + 1)) (iniN i)) := hD
        refine lv_aload_n hx hb dX2_init_97 rfl (lv_at hl 1 rfl) ?_
        refine va_get (D := D) (ci := 2) (v := .ref q3) (C := RX2) (T := TX2) (N := 11) hx hb hts iX2 hown hK hP 0 rfl rfl 3 (by decide) (hts (.fieldLink RX2 21 "LockManager$LockTable" "wantedResources" "[I") (by decide +kernel)) (fun _ h9 => h9) rfl dX2_init_98 ?_
        refine lv_iload_n hx hb dX2_init_101 rfl (lv_at hl 0 rfl) ?_
        refine lv_iconst (v := (-1)) hx hb dX2_init_102 (by decide) ?_
        refine r_ist (k := i) hx hb hK hP hD hS 4 rfl (by omega) (by decide) dX2_init_103 (fun H locs hP hD hS => ?_)
        rw [iniN_up] at hP hD
        have hP : va_P D vwCl (W2 cI h0 q0 q1 q2 q3 q4 q5 q6 q7 (iniN (i + 1)) (iniN (i + 1)) (iniN (i + 1)) (iniN (i + 1))) H := hP
        have hD : va_D A (W2 cI h0 q0 q1 q2 q3 q4 q5 q6 q7 (iniN (i + 1)) (iniN (i + 1)) (iniN (i + 1)) (iniN (i + 1))) := hD
        refine lv_iinc (v := (nI (i + 1))) (lv' := [(1, .int (nI (i + 1))), (0, .ref h0)]) hx hb dX2_init_104 hl (k := 0) rfl (nI_add _ 1) (by decide) rfl (fun ls hl => ?_)
        refine lv_goto (tgt := 70) hx hb dX2_init_107 (by decide) ?_
        exact ih8 (i + 1) (by omega) (by omega) H locs hP hD hS ls hl
  exact L70 9 0 (by omega) (by omega) H locs hP hD hS ls hl
