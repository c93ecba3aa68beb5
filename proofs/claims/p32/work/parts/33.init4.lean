def adrB (q : Nat) (b : Nat × Nat) : Nat → Nat := fun k => match k with | 0 => q | 1 => b.1 | _ => b.2
def adrT (q t : Nat) : Nat → Nat := fun k => match k with | 0 => q | _ => t
theorem pmI {α : Type} {X Y R T : List α} : (X ++ (Y ++ R) ++ T).Perm (X ++ T ++ Y ++ R) := by
  have h : ((Y ++ R) ++ T).Perm (T ++ (Y ++ R)) := List.perm_append_comm
  have h2 := h.append_left X
  simpa [List.append_assoc] using h2
abbrev LMI (h0 r0 r1 r2 r3 r4 : Nat) : Nat × va_E := (h0, .inr (4, [.ref r0, .ref r1, .ref r2, .ref r3, .ref r4]))
/-- the manager as it is made -/
def iniS : ST := (iniF, iniQ, [], (fun _ => 0), 0)
def iniJ : JT := (iniq, iniF, iniQ, iniq, (fun _ => 0), (fun _ => 0), (0, 0, 0, 0), (0, 0, (fun _ => iniF), (fun _ => iniQ), (fun _ => iniq)))
/-- what the class tables say that no word says -/
def NwX4 (U : State) : Prop := va_AO RX2 U ∧ va_Nw (.methodLinkNest RX4 21 yX3_init RX4) U ∧ va_Nw (.methodLinkNest RX4 35 yX0_init RX4) U
abbrev rX4_init : Room := { frames := 5, cells := 97, slots := 2325, locals := 80 }
set_option maxHeartbeats 1000000 in
set_option maxRecDepth 100000 in
/-- the manager is made -/
theorem c_X4_init (l : Launch) (D : va_G) (cI cT : ClassId) (x : Nat → Nat) : CI l D cI cT yX4_init wsX4_init rX4_init 97 2325 NwX4 [.ref (x 0)] [(x 0, .inr (4, [.null, .null, .null, .null, .null]))] (S := (Nat → Nat) × (Nat → Nat) × (Nat → Nat) × (Nat → Nat) × (Nat → Nat) × (Nat → Nat → Nat)) (fun _ => True) (fun u => lmW cI cT x u.1 u.2.1 u.2.2.1 u.2.2.2.1 u.2.2.2.2.1 u.2.2.2.2.2 iniS iniJ) := by
  refine CI.of (cc := cX4_init) (maxL := 1) (ret := none) (by decide) rfl (Nat.le_of_ble_eq_true rfl) rfl ?_
  intro p e s m args below meth c A Q hQ B hin hA H locs hP hK hE hD hS ls hl
  obtain ⟨hx, hb, hml, hrt, hts, hown, hlk⟩ := B
  have hl : lv_has ls 1 [(0, .ref (x 0))] := hl
  have iX4 : ∀ w ∈ u_ws RX4 TX4 5, w ∈ wsX4_init := by decide +kernel
  have iX2 : ∀ w ∈ u_ws RX2 TX2 11, w ∈ wsX4_init := by decide +kernel
  have iX3 : ∀ w ∈ u_ws RX3 TX3 2, w ∈ wsX4_init := by decide +kernel
  have iX1 : ∀ w ∈ u_ws RX1 TX1 3, w ∈ wsX4_init := by decide +kernel
  have iX0 : ∀ w ∈ u_ws RX0 TX0 6, w ∈ wsX4_init := by decide +kernel
  refine lv_aload_n hx hb dX4_init_0 rfl (lv_at hl 0 rfl) ?_
  refine W.objInit hx hb hown (hts (.methodLink RX4 1 objectInit) (by decide +kernel)) (hts (.instanceMethod objectInit) (by decide +kernel)) (hts _ (List.mem_cons_of_mem _ (List.mem_append_left _ (List.mem_append_left _ (List.mem_append_left _ (List.mem_append_left _ (List.mem_append_left _ (List.mem_append_left _ (List.mem_of_getElem? (i := 2) rfl))))))))) rfl (by rw [hml]; exact hl.1) rfl dX4_init_1 (Nat.le_of_ble_eq_true rfl) (Nat.le_of_ble_eq_true rfl) ?_
  refine W.eq (g2 := F0 m 4 ls []) rfl ?_
  refine lv_aload_n hx hb dX4_init_4 rfl (lv_at hl 0 rfl) ?_
  refine va_new (ci := 2) (fs := [.null, .null, .null, .null, .null, .null, .null, .null, .int 0, .int 0, .int 0]) (C := RX2) (T := TX2) (N := 11) hx hb hts iX2 tyX2 tyX2_ok hown (hts (.classLink RX4 7 RX2) (by decide +kernel)) (hts (.instantiable RX2 11) (by decide +kernel)) (hts (.initialized RX2) (by decide +kernel)) hK hP hD hS hA rfl (fun j hj => by rcases (show j = 0 ∨ j = 1 ∨ j = 2 ∨ j = 3 ∨ j = 4 ∨ j = 5 ∨ j = 6 ∨ j = 7 ∨ j = 8 ∨ j = 9 ∨ j = 10 by omega) with rfl | rfl | rfl | rfl | rfl | rfl | rfl | rfl | rfl | rfl | rfl <;> rfl) (Nat.le_of_ble_eq_true rfl) (Nat.le_of_ble_eq_true rfl) dX4_init_5 (fun qa H hP hD hS => ?_)
  refine lv_dup hx hb dX4_init_8 rfl ?_
  refine call_c (As := []) (rest := [.ref qa, .ref (x 0)]) ⟨hx, hb, hml, hown, hts⟩ (c_X2_init l D cI cT qa) (cwI 0 hts gX4_init_X2_init rfl rfl rfl (hts (.initialized RX2) (by decide +kernel)) (hts (.methodLink RX4 9 yX2_init) (by decide +kernel)) (hts (.instanceMethod yX2_init) (by decide +kernel)) rfl (by decide +kernel) ⟨Nat.le_of_ble_eq_true rfl, Nat.le_of_ble_eq_true rfl⟩) (fun _ _ _ _ => trivial) (fun _ _ => trivial) hK hP hD hS hA rfl hl.1 rfl (Nat.le_of_ble_eq_true rfl) ⟨Nat.le_of_ble_eq_true rfl, Nat.le_of_ble_eq_true rfl⟩ dX4_init_9 (fun a H locs ha0 hP hD hS => ?_)
  refine va_putF (D := D) (ci := 4) (v := .ref qa) (ty := .object "LockManager$LockTable") (C := RX4) (T := TX4) (N := 5) hx hb hts iX4 tyX4 tyX4_ok nmX4 hown hK hP hD hS 0 rfl rfl 0 (by decide) (hts (.fieldLink RX4 10 "LockManager" "table" "LLockManager$LockTable;") (by decide +kernel)) (fun _ h9 => h9) rfl hin rfl (by decide +kernel) rfl rfl (Nat.le_of_ble_eq_true rfl) dX4_init_12 (fun H locs hP hD hS => ?_)
  refine lv_aload_n hx hb dX4_init_15 rfl (lv_at hl 0 rfl) ?_
  refine va_new (ci := 2) (fs := [.null, .null, .null, .null, .null, .null, .null, .null, .int 0, .int 0, .int 0]) (C := RX2) (T := TX2) (N := 11) hx hb hts iX2 tyX2 tyX2_ok hown (hts (.classLink RX4 7 RX2) (by decide +kernel)) (hts (.instantiable RX2 11) (by decide +kernel)) (hts (.initialized RX2) (by decide +kernel)) hK hP hD hS hA rfl (fun j hj => by rcases (show j = 0 ∨ j = 1 ∨ j = 2 ∨ j = 3 ∨ j = 4 ∨ j = 5 ∨ j = 6 ∨ j = 7 ∨ j = 8 ∨ j = 9 ∨ j = 10 by omega) with rfl | rfl | rfl | rfl | rfl | rfl | rfl | rfl | rfl | rfl | rfl <;> rfl) (Nat.le_of_ble_eq_true rfl) (Nat.le_of_ble_eq_true rfl) dX4_init_16 (fun qo H hP hD hS => ?_)
  refine lv_dup hx hb dX4_init_19 rfl ?_
  refine call_c (As := []) (rest := [.ref qo, .ref (x 0)]) ⟨hx, hb, hml, hown, hts⟩ (c_X2_init l D cI cT qo) (cwI 0 hts gX4_init_X2_init rfl rfl rfl (hts (.initialized RX2) (by decide +kernel)) (hts (.methodLink RX4 9 yX2_init) (by decide +kernel)) (hts (.instanceMethod yX2_init) (by decide +kernel)) rfl (by decide +kernel) ⟨Nat.le_of_ble_eq_true rfl, Nat.le_of_ble_eq_true rfl⟩) (fun _ _ _ _ => trivial) (fun _ _ => trivial) hK hP hD hS hA rfl hl.1 rfl (Nat.le_of_ble_eq_true rfl) ⟨Nat.le_of_ble_eq_true rfl, Nat.le_of_ble_eq_true rfl⟩ dX4_init_20 (fun o H locs ho0 hP hD hS => ?_)
  refine va_putF (D := D) (ci := 4) (v := .ref qo) (ty := .object "LockManager$LockTable") (C := RX4) (T := TX4) (N := 5) hx hb hts iX4 tyX4 tyX4_ok nmX4 hown hK hP hD hS 0 rfl rfl 1 (by decide) (hts (.fieldLink RX4 16 "LockManager" "trial" "LLockManager$LockTable;") (by decide +kernel)) (fun _ h9 => h9) rfl hin rfl (by decide +kernel) rfl rfl (Nat.le_of_ble_eq_true rfl) dX4_init_23 (fun H locs hP hD hS => ?_)
  refine lv_aload_n hx hb dX4_init_26 rfl (lv_at hl 0 rfl) ?_
  refine va_new (ci := 3) (fs := [.null, .null]) (C := RX3) (T := TX3) (N := 2) hx hb hts iX3 tyX3 tyX3_ok hown (hts (.classLink RX4 19 RX3) (by decide +kernel)) (hts (.instantiable RX3 2) (by decide +kernel)) (hts (.initialized RX3) (by decide +kernel)) hK hP hD hS hA rfl (fun j hj => by rcases (show j = 0 ∨ j = 1 by omega) with rfl | rfl <;> rfl) (Nat.le_of_ble_eq_true rfl) (Nat.le_of_ble_eq_true rfl) dX4_init_27 (fun qb H hP hD hS => ?_)
  refine lv_dup hx hb dX4_init_30 rfl ?_
  refine call_cN (As := []) (rest := [.ref qb, .ref (x 0)]) ⟨hx, hb, hml, hown, hts⟩ (c_X3_init l D cI cT qb) ⟨va_cnB 0 hts gX4_init_X3_init_n21 rfl rfl rfl hE.2.1 (hts (.initialized RX3) (by decide +kernel)) (by decide +kernel) ⟨Nat.le_of_ble_eq_true rfl, Nat.le_of_ble_eq_true rfl⟩, rfl, hts (.instanceMethod yX3_init) (by decide +kernel)⟩ (fun _ _ _ _ => trivial) (fun _ _ => trivial) hK hP hD hS hA rfl hl.1 rfl (Nat.le_of_ble_eq_true rfl) ⟨Nat.le_of_ble_eq_true rfl, Nat.le_of_ble_eq_true rfl⟩ dX4_init_31 (fun b H locs hb0 hP hD hS => ?_)
  refine va_putF (D := D) (ci := 4) (v := .ref qb) (ty := .object "LockManager$RingBreaker") (C := RX4) (T := TX4) (N := 5) hx hb hts iX4 tyX4 tyX4_ok nmX4 hown hK hP hD hS 0 rfl rfl 2 (by decide) (hts (.fieldLink RX4 22 "LockManager" "breaker" "LLockManager$RingBreaker;") (by decide +kernel)) (fun _ h9 => h9) rfl hin rfl (by decide +kernel) rfl rfl (Nat.le_of_ble_eq_true rfl) dX4_init_34 (fun H locs hP hD hS => ?_)
  refine lv_aload_n hx hb dX4_init_37 rfl (lv_at hl 0 rfl) ?_
  refine va_new (ci := 1) (fs := [.null, .int 0, .int 0]) (C := RX1) (T := TX1) (N := 3) hx hb hts iX1 tyX1 tyX1_ok hown (hts (.classLink RX4 26 RX1) (by decide +kernel)) (hts (.instantiable RX1 3) (by decide +kernel)) (hts (.initialized RX1) (by decide +kernel)) hK hP hD hS hA rfl (fun j hj => by rcases (show j = 0 ∨ j = 1 ∨ j = 2 by omega) with rfl | rfl | rfl <;> rfl) (Nat.le_of_ble_eq_true rfl) (Nat.le_of_ble_eq_true rfl) dX4_init_38 (fun qh H hP hD hS => ?_)
  refine lv_dup hx hb dX4_init_41 rfl ?_
  refine call_c (As := []) (rest := [.ref qh, .ref (x 0)]) ⟨hx, hb, hml, hown, hts⟩ (c_X1_init l D cI cT qh) (cwI 0 hts gX4_init_X1_init rfl rfl rfl (hts (.initialized RX1) (by decide +kernel)) (hts (.methodLink RX4 28 yX1_init) (by decide +kernel)) (hts (.instanceMethod yX1_init) (by decide +kernel)) rfl (by decide +kernel) ⟨Nat.le_of_ble_eq_true rfl, Nat.le_of_ble_eq_true rfl⟩) (fun _ _ h9 => va_AO.moved (by rw [h9]; exact Vm.Alike.refl _)) (fun U hW => va_AO.moved hW.alike hE.1) hK hP hD hS hA rfl hl.1 rfl (Nat.le_of_ble_eq_true rfl) ⟨Nat.le_of_ble_eq_true rfl, Nat.le_of_ble_eq_true rfl⟩ dX4_init_42 (fun h H locs hh0 hP hD hS => ?_)
  refine va_putF (D := D) (ci := 4) (v := .ref qh) (ty := .object "LockManager$History") (C := RX4) (T := TX4) (N := 5) hx hb hts iX4 tyX4 tyX4_ok nmX4 hown hK hP hD hS 0 rfl rfl 3 (by decide) (hts (.fieldLink RX4 29 "LockManager" "history" "LLockManager$History;") (by decide +kernel)) (fun _ h9 => h9) rfl hin rfl (by decide +kernel) rfl rfl (Nat.le_of_ble_eq_true rfl) dX4_init_45 (fun H locs hP hD hS => ?_)
  refine lv_aload_n hx hb dX4_init_48 rfl (lv_at hl 0 rfl) ?_
  refine va_new (ci := 0) (fs := [.null, .int 0, .int 0, .int 0, .int 0, .int 0]) (C := RX0) (T := TX0) (N := 6) hx hb hts iX0 tyX0 tyX0_ok hown (hts (.classLink RX4 33 RX0) (by decide +kernel)) (hts (.instantiable RX0 6) (by decide +kernel)) (hts (.initialized RX0) (by decide +kernel)) hK hP hD hS hA rfl (fun j hj => by rcases (show j = 0 ∨ j = 1 ∨ j = 2 ∨ j = 3 ∨ j = 4 ∨ j = 5 by omega) with rfl | rfl | rfl | rfl | rfl | rfl <;> rfl) (Nat.le_of_ble_eq_true rfl) (Nat.le_of_ble_eq_true rfl) dX4_init_49 (fun qt H hP hD hS => ?_)
  refine lv_dup hx hb dX4_init_52 rfl ?_
  refine call_cN (As := []) (rest := [.ref qt, .ref (x 0)]) ⟨hx, hb, hml, hown, hts⟩ (c_X0_init l D cI cT qt) ⟨va_cnB 0 hts gX4_init_X0_init_n35 rfl rfl rfl hE.2.2 (hts (.initialized RX0) (by decide +kernel)) (by decide +kernel) ⟨Nat.le_of_ble_eq_true rfl, Nat.le_of_ble_eq_true rfl⟩, rfl, hts (.instanceMethod yX0_init) (by decide +kernel)⟩ (fun _ _ _ _ => trivial) (fun _ _ => trivial) hK hP hD hS hA rfl hl.1 rfl (Nat.le_of_ble_eq_true rfl) ⟨Nat.le_of_ble_eq_true rfl, Nat.le_of_ble_eq_true rfl⟩ dX4_init_53 (fun t H locs ht0 hP hD hS => ?_)
  refine va_putF (D := D) (ci := 4) (v := .ref qt) (ty := .object "LockManager$CommandText") (C := RX4) (T := TX4) (N := 5) hx hb hts iX4 tyX4 tyX4_ok nmX4 hown hK hP hD hS 0 rfl rfl 4 (by decide) (hts (.fieldLink RX4 36 "LockManager" "text" "LLockManager$CommandText;") (by decide +kernel)) (fun _ h9 => h9) rfl hin rfl (by decide +kernel) rfl rfl (Nat.le_of_ble_eq_true rfl) dX4_init_56 (fun H locs hP hD hS => ?_)
  have hP : va_P D vwCl (([(x 0, .inr (4, [.ref qa, .ref qo, .ref qb, .ref qh, .ref qt]))] ++ tblW cI a iniF iniQ iniq ++ tblW cI o iniF iniQ iniq ++ brkW cI (adrB qb b) (fun _ => 0) (fun _ => 0)) ++ (hisW cT h.1 h.2 0 0 ++ rsI h.2 cI 8) ++ txtW cI (adrT qt t) (fun _ => 0) 0 0 0 0 0) H := hP
  have hD : va_D A (([(x 0, .inr (4, [.ref qa, .ref qo, .ref qb, .ref qh, .ref qt]))] ++ tblW cI a iniF iniQ iniq ++ tblW cI o iniF iniQ iniq ++ brkW cI (adrB qb b) (fun _ => 0) (fun _ => 0)) ++ (hisW cT h.1 h.2 0 0 ++ rsI h.2 cI 8) ++ txtW cI (adrT qt t) (fun _ => 0) 0 0 0 0 0) := hD
  rw [← ha0, ← ho0, ← hh0] at hP hD
  have hP := P_perm pmI hP
  have hD := D_perm pmI hD
  exact ret_c (u := (a, o, adrB qb b, adrT qt t, h.1, h.2)) hQ hx hb hrt hlk hS dX4_init_59 (by unfold lmW; exact hP) (by unfold lmW; exact hD) trivial
