section INITR
variable {p : Program} {l : Launch} {e : Env} {R : Room} {s : State} {m : MethodId} {args : Array Value} {below : List Frame} {meth : Method} {c : Code} {H : Heap} {locs : List Loc} {cells slots : Nat} {Q : State → Prop}
variable {cc : ByteArray} {pc : Nat} {ls : Array Slot} {rest : List Value} {D : va_G} {cI cT : ClassId} {A : Nat → Prop} {H0 : Heap} {ws : va_W} {tys : List (ClassId × FieldType)}
theorem r_newJ (hx : p.tables.exec = Jvm.exec) (hb : c.code = cc) (harr : (Cond.arrayClass .int).before args s = true) (hK : va_K D vwCl (TY cI cT) s) (hP : va_P D vwCl ws H) (hD : va_D A ws) (hS : va_S A H0 H locs) (hA : ∀ q, H0.size ≤ q → A q)
    {n : Nat} (hn : n < 3000) (hcells : cells + 1 ≤ R.cells) (hslots : slots + n ≤ R.slots) (hdg : decode cc pc = .ok (.newarray .int, 2))
    (kk : ∀ (q : Nat) (H1 : Heap), va_P D vwCl (ws ++ [(q, .inl (cI, n, .inl (fun _ => 0)))]) H1 → va_D A (ws ++ [(q, .inl (cI, n, .inl (fun _ => 0)))]) → va_S A H0 H1 locs →
      W p l e R s m args below meth c H1 locs (cells + 1) (slots + n) Q (F0 m (pc + 2) ls (.ref q :: rest))) : W p l e R s m args below meth c H locs cells slots Q (F0 m pc ls (.int (nI n) :: rest)) := by
  refine va_newa (atype := .int) (ty := .int) (a0 := (n, .inl (fun _ => 0))) hx hb harr rfl hK hP hD hS hA (fun cA => rfl) (by rw [Int32.lt_iff_toInt_lt]; rw [nI_toInt (by omega)]; simp) (nI_clamp (by omega)) (by show n * 4 ≤ _; omega) hcells hslots hdg (fun q cA H1 hK1 hP1 hD1 hS1 => ?_)
  obtain rfl := cA_eq hK1
  exact kk q H1 hP1 hD1 hS1
end INITR
/-! the reference as it is made -/
def adR (a q0 q1 q2 q3 q4 q5 : Nat) : Nat → Nat := fun k => match k with | 0 => a | 1 => q0 | 2 => q1 | 3 => q2 | 4 => q3 | 5 => q4 | _ => q5
def iniZ : Nat → Nat → Int32
  | 0 => fun _ => 0
  | n + 1 => edZ (iniZ n) n
abbrev Z0 : Nat → Int32 := fun _ => 0
theorem RZ_ini : RZ iniF iniQ (iniZ 8) := ⟨by unfold ZA; decide +kernel, by unfold ZL; decide +kernel, by unfold ZN; decide +kernel, fun r _ i hi => absurd hi (Nat.not_lt_zero _), by unfold ZS; decide +kernel⟩
theorem JC_ini : JC 0 iniF := ⟨0, Nat.le_refl _, by decide +kernel, fun x hx => Or.inl (by revert x; decide +kernel), fun x hx y hy hn => absurd (show iniF 0 x = -1 by revert x; decide +kernel) hn⟩
theorem LZ_ini : LZ 0 iniS (iniZ 8) Z0 Z0 := ⟨LR_ini.1, JC_ini, RZ_ini, Nat.zero_le _, (fun k q hq => by cases hq), (fun q hq => by cases hq), Nat.zero_le _, (fun i hi => absurd hi (Nat.not_lt_zero _)), fun z => by show 0 < 128; decide⟩
abbrev rX5_init : Room := { frames := 2, cells := 6, slots := 2306, locals := 60 }
set_option maxHeartbeats 1000000 in
set_option maxRecDepth 100000 in
theorem c_X5_init (l : Launch) (D : va_G) (cI cT : ClassId) (h0 : Nat) : CI l D cI cT yX5_init wsX5_init rX5_init 6 2306 (fun _ => True) [.ref h0] [(h0, .inr (5, [.int 0, .null, .null, .null, .int 0, .null, .int 0, .int 0, .null, .null, .int 0, .int 0, .int 0, .int 0]))] (S := Nat → Nat) (fun u => u 0 = h0) (fun u => refW cI u 0 0 0 0 0 0 0 0 (iniZ 8) Z0 Z0 Z0 Z0 Z0) := by
  refine CI.of (cc := cX5_init) (maxL := 2) (ret := none) (by decide) rfl (Nat.le_of_ble_eq_true rfl) rfl ?_
  intro p e s m args below meth c A Q hQ B hin hA H locs hP hK hE hD hS ls hl
  obtain ⟨hx, hb, hml, hrt, hts, hown, hlk⟩ := B
  have hl : lv_has ls 2 [(0, .ref h0)] := hl
  have iX5 : ∀ w ∈ u_ws RX5 TX5 14, w ∈ wsX5_init := by decide +kernel
  have harr := hts (.arrayClass .int) (by decide +kernel)
  refine lv_aload_n hx hb dX5_init_0 rfl (lv_at hl 0 rfl) ?_
  refine W.objInit hx hb hown (hts (.methodLink RX5 1 objectInit) (by decide +kernel)) (hts (.instanceMethod objectInit) (by decide +kernel)) (hts _ (List.mem_cons_of_mem _ (List.mem_append_left _ (List.mem_of_getElem? (i := 2) rfl)))) rfl (by rw [hml]; exact hl.1) rfl dX5_init_1 (Nat.le_of_ble_eq_true rfl) (Nat.le_of_ble_eq_true rfl) ?_
  refine W.eq (g2 := F0 m 4 ls []) rfl ?_
  refine lv_aload_n hx hb dX5_init_4 rfl (lv_at hl 0 rfl) ?_
  refine lv_sipush (v := (nI 221)) hx hb dX5_init_5 (by decide) ?_
  refine r_newJ hx hb harr hK hP hD hS hA (by decide) (Nat.le_of_ble_eq_true rfl) (Nat.le_of_ble_eq_true rfl) dX5_init_8 (fun q0 H hP hD hS => ?_)
  refine va_putF (D := D) (ci := 5) (v := .ref q0) (ty := .array .int) (C := RX5) (T := TX5) (N := 14) hx hb hts iX5 tyX5 tyX5_ok nmX5 hown hK hP hD hS 0 rfl rfl 1 (by decide) (hts (.fieldLink RX5 7 "LockManagerModel" "z" "[I") (by decide +kernel)) (fun _ h9 => h9) rfl hin rfl (by decide +kernel) rfl rfl (Nat.le_of_ble_eq_true rfl) dX5_init_10 (fun H locs hP hD hS => ?_)
  refine lv_aload_n hx hb dX5_init_13 rfl (lv_at hl 0 rfl) ?_
  refine lv_sipush (v := (nI 221)) hx hb dX5_init_14 (by decide) ?_
  refine r_newJ hx hb harr hK hP hD hS hA (by decide) (Nat.le_of_ble_eq_true rfl) (Nat.le_of_ble_eq_true rfl) dX5_init_17 (fun q1 H hP hD hS => ?_)
  refine va_putF (D := D) (ci := 5) (v := .ref q1) (ty := .array .int) (C := RX5) (T := TX5) (N := 14) hx hb hts iX5 tyX5 tyX5_ok nmX5 hown hK hP hD hS 0 rfl rfl 2 (by decide) (hts (.fieldLink RX5 13 "LockManagerModel" "aside" "[I") (by decide +kernel)) (fun _ h9 => h9) rfl hin rfl (by decide +kernel) rfl rfl (Nat.le_of_ble_eq_true rfl) dX5_init_19 (fun H locs hP hD hS => ?_)
  refine lv_aload_n hx hb dX5_init_22 rfl (lv_at hl 0 rfl) ?_
  refine lv_sipush (v := (nI 1768)) hx hb dX5_init_23 (by decide) ?_
  refine r_newJ hx hb harr hK hP hD hS hA (by decide) (Nat.le_of_ble_eq_true rfl) (Nat.le_of_ble_eq_true rfl) dX5_init_26 (fun q2 H hP hD hS => ?_)
  refine va_putF (D := D) (ci := 5) (v := .ref q2) (ty := .array .int) (C := RX5) (T := TX5) (N := 14) hx hb hts iX5 tyX5 tyX5_ok nmX5 hown hK hP hD hS 0 rfl rfl 3 (by decide) (hts (.fieldLink RX5 16 "LockManagerModel" "saved" "[I") (by decide +kernel)) (fun _ h9 => h9) rfl hin rfl (by decide +kernel) rfl rfl (Nat.le_of_ble_eq_true rfl) dX5_init_28 (fun H locs hP hD hS => ?_)
  refine lv_aload_n hx hb dX5_init_31 rfl (lv_at hl 0 rfl) ?_
  refine lv_bipush (v := (nI 80)) hx hb dX5_init_32 (by decide) ?_
  refine r_newJ hx hb harr hK hP hD hS hA (by decide) (Nat.le_of_ble_eq_true rfl) (Nat.le_of_ble_eq_true rfl) dX5_init_34 (fun q3 H hP hD hS => ?_)
  refine va_putF (D := D) (ci := 5) (v := .ref q3) (ty := .array .int) (C := RX5) (T := TX5) (N := 14) hx hb hts iX5 tyX5 tyX5_ok nmX5 hown hK hP hD hS 0 rfl rfl 5 (by decide) (hts (.fieldLink RX5 19 "LockManagerModel" "text" "[I") (by decide +kernel)) (fun _ h9 => h9) rfl hin rfl (by decide +kernel) rfl rfl (Nat.le_of_ble_eq_true rfl) dX5_init_36 (fun H locs hP hD hS => ?_)
  refine lv_aload_n hx hb dX5_init_39 rfl (lv_at hl 0 rfl) ?_
  refine lv_bipush (v := (nI 8)) hx hb dX5_init_40 (by decide) ?_
  refine r_newJ hx hb harr hK hP hD hS hA (by decide) (Nat.le_of_ble_eq_true rfl) (Nat.le_of_ble_eq_true rfl) dX5_init_42 (fun q4 H hP hD hS => ?_)
  refine va_putF (D := D) (ci := 5) (v := .ref q4) (ty := .array .int) (C := RX5) (T := TX5) (N := 14) hx hb hts iX5 tyX5 tyX5_ok nmX5 hown hK hP hD hS 0 rfl rfl 8 (by decide) (hts (.fieldLink RX5 22 "LockManagerModel" "distance" "[I") (by decide +kernel)) (fun _ h9 => h9) rfl hin rfl (by decide +kernel) rfl rfl (Nat.le_of_ble_eq_true rfl) dX5_init_44 (fun H locs hP hD hS => ?_)
  refine lv_aload_n hx hb dX5_init_47 rfl (lv_at hl 0 rfl) ?_
  refine lv_bipush (v := (nI 8)) hx hb dX5_init_48 (by decide) ?_
  refine r_newJ hx hb harr hK hP hD hS hA (by decide) (Nat.le_of_ble_eq_true rfl) (Nat.le_of_ble_eq_true rfl) dX5_init_50 (fun q5 H hP hD hS => ?_)
  refine va_putF (D := D) (ci := 5) (v := .ref q5) (ty := .array .int) (C := RX5) (T := TX5) (N := 14) hx hb hts iX5 tyX5 tyX5_ok nmX5 hown hK hP hD hS 0 rfl rfl 9 (by decide) (hts (.fieldLink RX5 25 "LockManagerModel" "ring" "[I") (by decide +kernel)) (fun _ h9 => h9) rfl hin rfl (by decide +kernel) rfl rfl (Nat.le_of_ble_eq_true rfl) dX5_init_52 (fun H locs hP hD hS => ?_)
  have hP : va_P D vwCl (refW cI (adR h0 q0 q1 q2 q3 q4 q5) 0 0 0 0 0 0 0 0 (iniZ 0) Z0 Z0 Z0 Z0 Z0) H := hP
  have hD : va_D A (refW cI (adR h0 q0 q1 q2 q3 q4 q5) 0 0 0 0 0 0 0 0 (iniZ 0) Z0 Z0 Z0 Z0 Z0) := hD
  obtain ⟨ad, hadr⟩ : ∃ ad, ad = adR h0 q0 q1 q2 q3 q4 q5 := ⟨_, rfl⟩
  have had : ad 0 = h0 := by rw [hadr]; rfl
  rw [← hadr] at hP hD
  rw [← had] at hl
  have hP : va_P D vwCl ([(ad 0, .inr (5, [.int 0, .ref (ad 1), .ref (ad 2), .ref (ad 3), .int 0, .ref (ad 4), .int 0, .int 0, .ref (ad 5), .ref (ad 6), .int 0, .int 0, .int 0, .int 0])), (ad 1, .inl (cI, 221, .inl (iniZ 0))), (ad 2, .inl (cI, 221, .inl Z0)), (ad 3, .inl (cI, 1768, .inl Z0)), (ad 4, .inl (cI, 80, .inl Z0)), (ad 5, .inl (cI, 8, .inl Z0)), (ad 6, .inl (cI, 8, .inl Z0))]) H := hP
  have hD : va_D A ([(ad 0, .inr (5, [.int 0, .ref (ad 1), .ref (ad 2), .ref (ad 3), .int 0, .ref (ad 4), .int 0, .int 0, .ref (ad 5), .ref (ad 6), .int 0, .int 0, .int 0, .int 0])), (ad 1, .inl (cI, 221, .inl (iniZ 0))), (ad 2, .inl (cI, 221, .inl Z0)), (ad 3, .inl (cI, 1768, .inl Z0)), (ad 4, .inl (cI, 80, .inl Z0)), (ad 5, .inl (cI, 8, .inl Z0)), (ad 6, .inl (cI, 8, .inl Z0))]) := hD
  refine lv_iconst (v := (nI 0)) hx hb dX5_init_55 (by decide) ?_
  refine lv_istore_n (lv' := [(1, .int (nI 0)), (0, .ref (ad 0))]) hx hb dX5_init_56 rfl hl (by decide) rfl (fun ls hl => ?_)
  have L57 : ∀ (N : Nat) (i : Nat), (i ≤ 8) → (8 - i) < N → ∀ (H : Heap) (locs : List Loc), va_P D vwCl ([(ad 0, .inr (5, [.int 0, .ref (ad 1), .ref (ad 2), .ref (ad 3), .int 0, .ref (ad 4), .int 0, .int 0, .ref (ad 5), .ref (ad 6), .int 0, .int 0, .int 0, .int 0])), (ad 1, .inl (cI, 221, .inl (iniZ i))), (ad 2, .inl (cI, 221, .inl Z0)), (ad 3, .inl (cI, 1768, .inl Z0)), (ad 4, .inl (cI, 80, .inl Z0)), (ad 5, .inl (cI, 8, .inl Z0)), (ad 6, .inl (cI, 8, .inl Z0))]) H → va_D A ([(ad 0, .inr (5, [.int 0, .ref (ad 1), .ref (ad 2), .ref (ad 3), .int 0, .ref (ad 4), .int 0, .int 0, .ref (ad 5), .ref (ad 6), .int 0, .int 0, .int 0, .int 0])), (ad 1, .inl (cI, 221, .inl (iniZ i))), (ad 2, .inl (cI, 221, .inl Z0)), (ad 3, .inl (cI, 1768, .inl Z0)), (ad 4, .inl (cI, 80, .inl Z0)), (ad 5, .inl (cI, 8, .inl Z0)), (ad 6, .inl (cI, 8, .inl Z0))]) → va_S A s.heap H locs → ∀ ls : Array Slot, lv_has ls 2 [(0, .ref (ad 0)), (1, .int (nI i))] → W p l e rX5_init s m args below meth c H locs 6 2306 Q (F0 m 57 ls []) := by
    intro N57
    induction N57 with
    | zero => intro i hi hN; exact absurd hN (Nat.not_lt_zero _)
    | succ N57 ih57 =>
      intro i hi hN H locs hP hD hS ls hl
      refine lv_iload_n hx hb dX5_init_57 rfl (lv_at hl 1 rfl) ?_
      refine lv_bipush (v := (nI 8)) hx hb dX5_init_58 (by decide) ?_
      refine lv_icmp_ge (tgt := 74) hx hb dX5_init_60 (by decide) (fun h_1 => ?_) (fun h_1 => ?_)
      · have h_1 := (nI_leI (a := 8) (b := i) (by first | omega | exact bits_lt31 _ | exact bitN_lt _ _ | exact bool_lt _ | exact and_lt31 _ _ _ _ | exact Nat.lt_of_le_of_lt (dst_lt _ _ _ (by omega) _) (by decide) | exact Nat.lt_of_le_of_lt (nrB_le _ _ _ (by omega)).2 (by decide) | decide) (by first | omega | exact bits_lt31 _ | exact bitN_lt _ _ | exact bool_lt _ | exact and_lt31 _ _ _ _ | exact Nat.lt_of_le_of_lt (dst_lt _ _ _ (by omega) _) (by decide) | exact Nat.lt_of_le_of_lt (nrB_le _ _ _ (by omega)).2 (by decide) | decide)).mp h_1
        have hi8 : i = 8 := by omega
        rw [hi8] at hP hD
        exact ret_c ad hQ hx hb hrt hlk hS dX5_init_74 hP hD had
      · have h_1 := mt (nI_leI (a := 8) (b := i) (by first | omega | exact bits_lt31 _ | exact bitN_lt _ _ | exact bool_lt _ | exact and_lt31 _ _ _ _ | exact Nat.lt_of_le_of_lt (dst_lt _ _ _ (by omega) _) (by decide) | exact Nat.lt_of_le_of_lt (nrB_le _ _ _ (by omega)).2 (by decide) | decide) (by first | omega | exact bits_lt31 _ | exact bitN_lt _ _ | exact bool_lt _ | exact and_lt31 _ _ _ _ | exact Nat.lt_of_le_of_lt (dst_lt _ _ _ (by omega) _) (by decide) | exact Nat.lt_of_le_of_lt (nrB_le _ _ _ (by omega)).2 (by decide) | decide)).mpr h_1
        refine lv_aload_n hx hb dX5_init_63 rfl (lv_at hl 0 rfl) ?_
        refine lv_iload_n hx hb dX5_init_64 rfl (lv_at hl 1 rfl) ?_
        refine call_v (X := []) (Z := []) (As := [.int (nI i)]) (rest := []) ⟨hx, hb, hml, hown, hts⟩ (c_X5_end l D cI cT ad 0 0 0 0 0 0 0 0 (iniZ i) Z0 Z0 Z0 Z0 Z0 i (by omega)) (cwV 1 hts gX5_init_X5_end rfl rfl rfl (by decide +kernel) ⟨Nat.le_of_ble_eq_true rfl, Nat.le_of_ble_eq_true rfl⟩) hK hP hD hS hA (va_recv hK hP (ci := 5) (q0 := 0) rfl rfl) (fun _ => adr_ref.trans adr_ref.symm) rfl hl.1 rfl (Nat.le_of_ble_eq_true rfl) ⟨by decide, by decide⟩ dX5_init_65 (fun _ H locs hp hP hD hS => ?_)
        have hP : va_P D vwCl ([(ad 0, .inr (5, [.int 0, .ref (ad 1), .ref (ad 2), .ref (ad 3), .int 0, .ref (ad 4), .int 0, .int 0, .ref (ad 5), .ref (ad 6), .int 0, .int 0, .int 0, .int 0])), (ad 1, .inl (cI, 221, .inl (edZ (iniZ i) i))), (ad 2, .inl (cI, 221, .inl Z0)), (ad 3, .inl (cI, 1768, .inl Z0)), (ad 4, .inl (cI, 80, .inl Z0)), (ad 5, .inl (cI, 8, .inl Z0)), (ad 6, .inl (cI, 8, .inl Z0))]) H := hP
        have hD : va_D A ([(ad 0, .inr (5, [.int 0, .ref (ad 1), .ref (ad 2), .ref (ad 3), .int 0, .ref (ad 4), .int 0, .int 0, .ref (ad 5), .ref (ad 6), .int 0, .int 0, .int 0, .int 0])), (ad 1, .inl (cI, 221, .inl (edZ (iniZ i) i))), (ad 2, .inl (cI, 221, .inl Z0)), (ad 3, .inl (cI, 1768, .inl Z0)), (ad 4, .inl (cI, 80, .inl Z0)), (ad 5, .inl (cI, 8, .inl Z0)), (ad 6, .inl (cI, 8, .inl Z0))]) := hD
        refine lv_iinc (v := (nI (i + 1))) (lv' := [(1, .int (nI (i + 1))), (0, .ref (ad 0))]) hx hb dX5_init_68 hl (k := 1) rfl (nI_add _ 1) (by decide) rfl (fun ls hl => ?_)
        refine lv_goto (tgt := 57) hx hb dX5_init_71 (by decide) ?_
        exact ih57 (i + 1) (by omega) (by omega) _ _ hP hD hS _ (lv_sub hl [1, 0] rfl)
  exact L57 _ 0 (Nat.zero_le _) (Nat.lt_succ_self _) _ _ hP hD hS _ (lv_sub hl [1, 0] rfl)
