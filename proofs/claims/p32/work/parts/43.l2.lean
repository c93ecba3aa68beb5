/-! the law: who can hold, who waits, service -/
theorem nar_b (b : Bool) : narrow .boolean (.int (nI b.toNat)) = .int (nI b.toNat) := by cases b <;> rfl
theorem b0 {b : Bool} (h : b.toNat = 0) : b = false := by cases b; rfl; cases h
theorem b1 {b : Bool} (h : ¬ b.toNat = 0) : b = true := by cases b; exact absurd rfl h; rfl
theorem al_f {p : Nat → Bool} {u : Nat} (h : alN p u = false) : nI 0 = nI (alN p (u + 1)).toNat := by rw [alN, h]; rfl
theorem al_t {p : Nat → Bool} {u : Nat} (h : alN p u = true) (h2 : p u = true) : nI 1 = nI (alN p (u + 1)).toNat := by rw [alN, h, h2]; rfl
theorem al_n {p : Nat → Bool} {u : Nat} (h2 : p u = false) : nI 0 = nI (alN p (u + 1)).toNat := by rw [alN, h2, Bool.and_false]; rfl
theorem rv_s {F : FF} {t r u : Nat} {m : Int32} (h : u = t) : (!rivB F t r m u) = true := by simp [rivB, h]
theorem rv_0 {F : FF} {t r u : Nat} {m : Int32} (h : lk F u r = 0) : (!rivB F t r m u) = true := by simp [rivB, compB, h]
theorem rv_1 {F : FF} {t r u : Nat} {m : Int32} (hm : m = nI 1) (h : lk F u r = nI 1) : (!rivB F t r m u) = true := by simp [rivB, compB, h, hm]
theorem rv_n {F : FF} {t r u : Nat} {m : Int32} (hu : ¬ u = t) (h0 : ¬ lk F u r = 0) (h : ¬ m = nI 1 ∨ ¬ lk F u r = nI 1) : (!rivB F t r m u) = false := by
  rcases h with h | h <;> simp [rivB, compB, hu, h0, h]
theorem JJ_0 {F : FF} {Q : QQ} {t : Nat} (hJ : JJ F Q) (ht : t < 8) (h : ¬ F 3 t = -1) : ¬ F 0 t = -1 := fun q => h (hJ.2.2.2.1 t ht q)
theorem QL_rm2 {F : FF} {Q : QQ} {f : Nat → Int64} {t r : Nat} (hJ : JJ F Q) (h : QL Q f) (hr : r < 10) (hm : t ∈ Q r) (n3 : ¬ F 3 t = -1) (hw : wr F t = r) : QL (rmQ F Q t) (vp_updL f r (rQ (lN (qN (Q r))) ((Q r).idxOf t))) := by
  have := QL_rm hJ h hr hm
  rw [h r hr] at this
  rw [(rm_some (Q := Q) n3 hw).2]
  exact this
theorem ix_le {L : List Nat} {t : Nat} : L.idxOf t ≤ L.length := by
  by_cases h : t ∈ L
  · exact Nat.le_of_lt (List.idxOf_lt_length_of_mem h)
  · exact Nat.le_of_eq (List.idxOf_eq_length h)
theorem ix_mem {L : List Nat} {t : Nat} (h : L.idxOf t < L.length) : t ∈ L := Decidable.byContradiction (fun q => by rw [List.idxOf_eq_length q] at h; omega)
theorem ix_mem8 {L : List Nat} {t : Nat} (hl : L.length ≤ 8) : L.idxOf t ≤ 8 := Nat.le_trans ix_le hl
theorem ah_t {F : FF} {Q : QQ} {t r u : Nat} (hm : t ∈ Q r) (hi : (Q r).idxOf u < (Q r).idxOf t) (h : F 4 t = nI 2 ∨ F 4 u = nI 2) : ahB F Q t r u = true := by
  have hu : u ∈ Q r := ix_mem (Nat.lt_of_lt_of_le hi ix_le)
  rw [ahB_in hm]
  rcases h with h | h <;> simp [hu, hi, h]
theorem ah_f {F : FF} {Q : QQ} {t r u : Nat} (hm : t ∈ Q r) (h : ¬ (Q r).idxOf u < (Q r).idxOf t ∨ (¬ F 4 t = nI 2 ∧ ¬ F 4 u = nI 2)) : ahB F Q t r u = false := by
  rw [ahB_in hm]
  rcases h with h | h
  · simp [h]
  · simp [h.1, h.2]
theorem riv_t {F : FF} {t r u : Nat} (hu : ¬ u = t) (h : lk F u r = nI 2 ∨ (lk F u r = nI 1 ∧ F 4 t = nI 2)) : rivB F t r (F 4 t) u = true := by
  rcases h with h | h
  · simp [rivB, compB, hu, h, nI2_0, nI2_1]
  · simp [rivB, compB, hu, h.1, h.2, nI1_0, nI2_1]
theorem riv_f {F : FF} {Q : QQ} {t r u : Nat} (hJ : JJ F Q) (ht : t ∈ Q r) (hr : r < 10) (hu8 : u < 8) (h2 : ¬ lk F u r = nI 2) (h : ¬ lk F u r = nI 1 ∨ ¬ F 4 t = nI 2) : rivB F t r (F 4 t) u = false := by
  have h4 : F 4 t = nI 1 ∨ F 4 t = nI 2 := (hJ.2.2.2.2.2.1 r hr t ht).elim (fun q => Or.inl q.1) (fun q => Or.inr q.1)
  rcases hJ.2.2.2.2.1 u hu8 r hr with q | q | q
  · simp [rivB, compB, q]
  · rcases h with h | h
    · exact absurd q h
    · simp [rivB, compB, q, h4.resolve_right h]
  · exact absurd q h2

abbrev rL_canHold : Room := { frames := 1, cells := 0, slots := 0, locals := 22 }
set_option maxHeartbeats 1000000 in
set_option maxRecDepth 100000 in
theorem c_L_canHold (l : Launch) (D : va_G) (cI cT cL : ClassId) (am : Nat) (fm : Nat → Int32) (F : FF) (Q0 : QQ) (t r : Nat) (mo : Int32) (ht : t < 8) (hr : r < 10) (hJ : JJ F Q0) (hM : MM F fm) : CL l D cI cT cL yL_canHold wsL_canHold rL_canHold [.ref am, .int (nI t), .int (nI r), .int mo] ([(am, .inl (cI, 10, .inl fm))]) (S := Unit) (fun v _ => v = nI (alN (fun w => !rivB F t r mo w) 8).toNat) (fun _ => [(am, .inl (cI, 10, .inl fm))]) := by
  refine CL.of (cc := cL_canHold) (maxL := 6) (ret := (some .boolean)) (by decide) rfl (Nat.le_of_ble_eq_true rfl) ?_
  intro p e s m args below meth c A Q hQ B hA H locs hP hKL hD hS ls hl
  have hK : va_K D vwCl (TY cI cT) s := hKL.sub (tys' := TY cI cT) [0, 1] rfl
  obtain ⟨hx, hb, hml, hrt, hts, hown, hlk⟩ := B
  have hl : lv_has ls 6 [(0, .ref am), (1, .int (nI t)), (2, .int (nI r)), (3, .int mo)] := hl
  refine lv_iconst (v := (nI 1)) hx hb dL_canHold_0 (by decide) ?_
  refine lv_istore (lv' := [(4, .int (nI 1)), (0, .ref am), (1, .int (nI t)), (2, .int (nI r)), (3, .int mo)]) hx hb dL_canHold_1 hl (by decide) rfl (fun ls hl => ?_)
  refine lv_iconst (v := (nI 0)) hx hb dL_canHold_3 (by decide) ?_
  refine lv_istore (lv' := [(5, .int (nI 0)), (4, .int (nI 1)), (0, .ref am), (1, .int (nI t)), (2, .int (nI r)), (3, .int mo)]) hx hb dL_canHold_4 hl (by decide) rfl (fun ls hl => ?_)
  have L6 : ∀ (N : Nat) (u : Nat), (u ≤ 8) → (8 - u) < N → ∀ (H : Heap) (locs : List Loc), va_P D vwCl ([(am, .inl (cI, 10, .inl fm))]) H → va_D A ([(am, .inl (cI, 10, .inl fm))]) → va_S A s.heap H locs → ∀ ls : Array Slot, lv_has ls 6 [(0, .ref am), (1, .int (nI t)), (2, .int (nI r)), (3, .int mo), (4, .int (nI ((alN (fun w => !rivB F t r mo w) u).toNat))), (5, .int (nI u))] → W p l e rL_canHold s m args below meth c H locs 0 0 Q (F0 m 6 ls []) := by
    intro N6
    induction N6 with
    | zero => intro u hu hN; exact absurd hN (Nat.not_lt_zero _)
    | succ N6 ih6 =>
      intro u hu hN H locs hP hD hS ls hl
      refine lv_iload hx hb dL_canHold_6 (lv_at hl 5 rfl) ?_
      refine lv_bipush (v := (nI 8)) hx hb dL_canHold_8 (by decide) ?_
      refine lv_icmp_ge (tgt := 63) hx hb dL_canHold_10 (by decide) (fun h_1 => ?_) (fun h_1 => ?_)
      · have h_1 := (nI_leI (a := 8) (b := u) (by decide) (by omega)).mp h_1
        refine lv_iload hx hb dL_canHold_63 (lv_at hl 4 rfl) ?_
        exact ret_z (u := ()) hQ hx hb hrt hlk hS dL_canHold_65 (by exact nar_b _) hP (by rw [show u = 8 by omega])
      · have h_1 := mt (nI_leI (a := 8) (b := u) (by decide) (by omega)).mpr h_1
        refine lv_iload hx hb dL_canHold_13 (lv_at hl 4 rfl) ?_
        refine lv_if_eq (tgt := 54) hx hb dL_canHold_15 (by decide) (fun h_2 => ?_) (fun h_2 => ?_)
        · have h_2 := (nI_eq (a := ((alN (fun w => !rivB F t r mo w) u).toNat)) (b := 0) (bool_lt _) (by decide)).mp h_2
          refine lv_iconst (v := (nI 0)) hx hb dL_canHold_54 (by decide) ?_
          refine lv_istore (lv' := [(4, .int (nI 0)), (0, .ref am), (1, .int (nI t)), (2, .int (nI r)), (3, .int mo), (5, .int (nI u))]) hx hb dL_canHold_55 hl (by decide) rfl (fun ls hl => ?_)
          refine lv_iinc (v := (nI (u + 1))) (lv' := [(5, .int (nI (u + 1))), (4, .int (nI 0)), (0, .ref am), (1, .int (nI t)), (2, .int (nI r)), (3, .int mo)]) hx hb dL_canHold_57 hl (k := 5) rfl (nI_add _ 1) (by decide) rfl (fun ls hl => ?_)
          refine lv_goto (tgt := 6) hx hb dL_canHold_60 (by decide) ?_
          rw [show (nI 0) = (nI ((alN (fun w => !rivB F t r mo w) (u + 1)).toNat)) from (al_f (b0 h_2))] at hl
          exact ih6 (u + 1) (by omega) (by omega) _ _ hP hD hS _ (lv_sub hl [2, 3, 4, 5, 1, 0] rfl)
        · have h_2 := mt (nI_eq (a := ((alN (fun w => !rivB F t r mo w) u).toNat)) (b := 0) (bool_lt _) (by decide)).mpr h_2
          refine lv_iload hx hb dL_canHold_18 (lv_at hl 5 rfl) ?_
          refine lv_iload_n hx hb dL_canHold_20 rfl (lv_at hl 1 rfl) ?_
          refine lv_icmp_eq (tgt := 50) hx hb dL_canHold_21 (by decide) (fun h_3 => ?_) (fun h_3 => ?_)
          · have h_3 := (nI_eq (a := u) (b := t) (by omega) (by omega)).mp h_3
            refine lv_iconst (v := (nI 1)) hx hb dL_canHold_50 (by decide) ?_
            refine lv_goto (tgt := 55) hx hb dL_canHold_51 (by decide) ?_
            refine lv_istore (lv' := [(4, .int (nI 1)), (0, .ref am), (1, .int (nI t)), (2, .int (nI r)), (3, .int mo), (5, .int (nI u))]) hx hb dL_canHold_55 hl (by decide) rfl (fun ls hl => ?_)
            refine lv_iinc (v := (nI (u + 1))) (lv' := [(5, .int (nI (u + 1))), (4, .int (nI 1)), (0, .ref am), (1, .int (nI t)), (2, .int (nI r)), (3, .int mo)]) hx hb dL_canHold_57 hl (k := 5) rfl (nI_add _ 1) (by decide) rfl (fun ls hl => ?_)
            refine lv_goto (tgt := 6) hx hb dL_canHold_60 (by decide) ?_
            rw [show (nI 1) = (nI ((alN (fun w => !rivB F t r mo w) (u + 1)).toNat)) from (al_t (b1 h_2) (rv_s h_3))] at hl
            exact ih6 (u + 1) (by omega) (by omega) _ _ hP hD hS _ (lv_sub hl [2, 3, 4, 5, 1, 0] rfl)
          · have h_3 := mt (nI_eq (a := u) (b := t) (by omega) (by omega)).mpr h_3
            refine lv_aload_n hx hb dL_canHold_24 rfl (lv_at hl 0 rfl) ?_
            refine lv_iload hx hb dL_canHold_25 (lv_at hl 5 rfl) ?_
            refine lv_iload_n hx hb dL_canHold_27 rfl (lv_at hl 2 rfl) ?_
            refine call_l (X := []) (Wc := [(am, .inl (cI, 10, .inl fm))]) (Z := []) (As := [.ref am, .int (nI u), .int (nI r)]) (rest := []) ⟨hx, hb, hml, hown, hts⟩ (c_L_lock l D cI cT cL am fm F Q0 u r (by omega) (by omega) hJ hM) (va_cwS 3 hts gL_canHold_L_lock rfl rfl rfl (by decide +kernel) ⟨Nat.le_of_ble_eq_true rfl, Nat.le_of_ble_eq_true rfl⟩) hKL hP hD hS hA (fun _ => adw1) rfl hl.1 rfl (Nat.le_of_ble_eq_true rfl) ⟨by decide, by decide⟩ dL_canHold_28 (fun rv uu H locs hp hP hD hS => ?_)
            obtain rfl := hp
            have hP : va_P D vwCl ([(am, .inl (cI, 10, .inl fm))]) H := hP
            have hD : va_D A ([(am, .inl (cI, 10, .inl fm))]) := hD
            refine lv_if_eq (tgt := 50) hx hb dL_canHold_31 (by decide) (fun h_4 => ?_) (fun h_4 => ?_)
            · have h_4 := h_4
              refine lv_iconst (v := (nI 1)) hx hb dL_canHold_50 (by decide) ?_
              refine lv_goto (tgt := 55) hx hb dL_canHold_51 (by decide) ?_
              refine lv_istore (lv' := [(4, .int (nI 1)), (0, .ref am), (1, .int (nI t)), (2, .int (nI r)), (3, .int mo), (5, .int (nI u))]) hx hb dL_canHold_55 hl (by decide) rfl (fun ls hl => ?_)
              refine lv_iinc (v := (nI (u + 1))) (lv' := [(5, .int (nI (u + 1))), (4, .int (nI 1)), (0, .ref am), (1, .int (nI t)), (2, .int (nI r)), (3, .int mo)]) hx hb dL_canHold_57 hl (k := 5) rfl (nI_add _ 1) (by decide) rfl (fun ls hl => ?_)
              refine lv_goto (tgt := 6) hx hb dL_canHold_60 (by decide) ?_
              rw [show (nI 1) = (nI ((alN (fun w => !rivB F t r mo w) (u + 1)).toNat)) from (al_t (b1 h_2) (rv_0 h_4))] at hl
              exact ih6 (u + 1) (by omega) (by omega) _ _ hP hD hS _ (lv_sub hl [2, 3, 4, 5, 1, 0] rfl)
            · have h_4 := h_4
              refine lv_iload_n hx hb dL_canHold_34 rfl (lv_at hl 3 rfl) ?_
              refine lv_iconst (v := (nI 1)) hx hb dL_canHold_35 (by decide) ?_
              refine lv_icmp_ne (tgt := 54) hx hb dL_canHold_36 (by decide) (fun h_5 => ?_) (fun h_5 => ?_)
              · have h_5 := h_5
                refine lv_iconst (v := (nI 0)) hx hb dL_canHold_54 (by decide) ?_
                refine lv_istore (lv' := [(4, .int (nI 0)), (0, .ref am), (1, .int (nI t)), (2, .int (nI r)), (3, .int mo), (5, .int (nI u))]) hx hb dL_canHold_55 hl (by decide) rfl (fun ls hl => ?_)
                refine lv_iinc (v := (nI (u + 1))) (lv' := [(5, .int (nI (u + 1))), (4, .int (nI 0)), (0, .ref am), (1, .int (nI t)), (2, .int (nI r)), (3, .int mo)]) hx hb dL_canHold_57 hl (k := 5) rfl (nI_add _ 1) (by decide) rfl (fun ls hl => ?_)
                refine lv_goto (tgt := 6) hx hb dL_canHold_60 (by decide) ?_
                rw [show (nI 0) = (nI ((alN (fun w => !rivB F t r mo w) (u + 1)).toNat)) from (al_n (rv_n h_3 h_4 (Or.inl h_5)))] at hl
                exact ih6 (u + 1) (by omega) (by omega) _ _ hP hD hS _ (lv_sub hl [2, 3, 4, 5, 1, 0] rfl)
              · have h_5 := h_5
                refine lv_aload_n hx hb dL_canHold_39 rfl (lv_at hl 0 rfl) ?_
                refine lv_iload hx hb dL_canHold_40 (lv_at hl 5 rfl) ?_
                refine lv_iload_n hx hb dL_canHold_42 rfl (lv_at hl 2 rfl) ?_
                refine call_l (X := []) (Wc := [(am, .inl (cI, 10, .inl fm))]) (Z := []) (As := [.ref am, .int (nI u), .int (nI r)]) (rest := []) ⟨hx, hb, hml, hown, hts⟩ (c_L_lock l D cI cT cL am fm F Q0 u r (by omega) (by omega) hJ hM) (va_cwS 3 hts gL_canHold_L_lock rfl rfl rfl (by decide +kernel) ⟨Nat.le_of_ble_eq_true rfl, Nat.le_of_ble_eq_true rfl⟩) hKL hP hD hS hA (fun _ => adw1) rfl hl.1 rfl (Nat.le_of_ble_eq_true rfl) ⟨by decide, by decide⟩ dL_canHold_43 (fun rv uu H locs hp hP hD hS => ?_)
                obtain rfl := hp
                have hP : va_P D vwCl ([(am, .inl (cI, 10, .inl fm))]) H := hP
                have hD : va_D A ([(am, .inl (cI, 10, .inl fm))]) := hD
                refine lv_iconst (v := (nI 1)) hx hb dL_canHold_46 (by decide) ?_
                refine lv_icmp_ne (tgt := 54) hx hb dL_canHold_47 (by decide) (fun h_6 => ?_) (fun h_6 => ?_)
                · have h_6 := h_6
                  refine lv_iconst (v := (nI 0)) hx hb dL_canHold_54 (by decide) ?_
                  refine lv_istore (lv' := [(4, .int (nI 0)), (0, .ref am), (1, .int (nI t)), (2, .int (nI r)), (3, .int mo), (5, .int (nI u))]) hx hb dL_canHold_55 hl (by decide) rfl (fun ls hl => ?_)
                  refine lv_iinc (v := (nI (u + 1))) (lv' := [(5, .int (nI (u + 1))), (4, .int (nI 0)), (0, .ref am), (1, .int (nI t)), (2, .int (nI r)), (3, .int mo)]) hx hb dL_canHold_57 hl (k := 5) rfl (nI_add _ 1) (by decide) rfl (fun ls hl => ?_)
                  refine lv_goto (tgt := 6) hx hb dL_canHold_60 (by decide) ?_
                  rw [show (nI 0) = (nI ((alN (fun w => !rivB F t r mo w) (u + 1)).toNat)) from (al_n (rv_n h_3 h_4 (Or.inr h_6)))] at hl
                  exact ih6 (u + 1) (by omega) (by omega) _ _ hP hD hS _ (lv_sub hl [2, 3, 4, 5, 1, 0] rfl)
                · have h_6 := h_6
                  refine lv_iconst (v := (nI 1)) hx hb dL_canHold_50 (by decide) ?_
                  refine lv_goto (tgt := 55) hx hb dL_canHold_51 (by decide) ?_
                  refine lv_istore (lv' := [(4, .int (nI 1)), (0, .ref am), (1, .int (nI t)), (2, .int (nI r)), (3, .int mo), (5, .int (nI u))]) hx hb dL_canHold_55 hl (by decide) rfl (fun ls hl => ?_)
                  refine lv_iinc (v := (nI (u + 1))) (lv' := [(5, .int (nI (u + 1))), (4, .int (nI 1)), (0, .ref am), (1, .int (nI t)), (2, .int (nI r)), (3, .int mo)]) hx hb dL_canHold_57 hl (k := 5) rfl (nI_add _ 1) (by decide) rfl (fun ls hl => ?_)
                  refine lv_goto (tgt := 6) hx hb dL_canHold_60 (by decide) ?_
                  rw [show (nI 1) = (nI ((alN (fun w => !rivB F t r mo w) (u + 1)).toNat)) from (al_t (b1 h_2) (rv_1 h_5 h_6))] at hl
                  exact ih6 (u + 1) (by omega) (by omega) _ _ hP hD hS _ (lv_sub hl [2, 3, 4, 5, 1, 0] rfl)
  rw [show (nI 1) = (nI ((alN (fun w => !rivB F t r mo w) 0).toNat)) from rfl] at hl
  exact L6 _ 0 (Nat.zero_le _) (Nat.lt_succ_self _) _ _ hP hD hS _ (lv_sub hl [2, 3, 4, 5, 1, 0] rfl)

abbrev rL_grant : Room := { frames := 0, cells := 0, slots := 0, locals := 0 }
set_option maxHeartbeats 1000000 in
set_option maxRecDepth 100000 in
theorem c_L_grant (l : Launch) (D : va_G) (cI cT cL : ClassId) (am aa : Nat) (fm : Nat → Int32) (fa : Nat → Int32) (F : FF) (t r : Nat) (mo : Int32) (ht : t < 8) (hr : r < 10) (hmo : mo = nI 1 ∨ mo = nI 2) (hM : MM F fm) (hZ : ZA F fa) : CLv l D cI cT cL yL_grant wsL_grant rL_grant [.ref aa, .ref am, .int (nI t), .int (nI r), .int mo] ([(am, .inl (cI, 10, .inl fm)), (aa, .inl (cI, 48, .inl fa))]) (S := (Nat → Int32) × (Nat → Int32)) (fun u => MM (grF F t r mo) u.1 ∧ ZA (grF F t r mo) u.2) (fun u => [(am, .inl (cI, 10, .inl u.1)), (aa, .inl (cI, 48, .inl u.2))]) := by
  refine CLv.of (cc := cL_grant) (maxL := 5) (ret := none) (by decide) rfl (Nat.le_of_ble_eq_true rfl) ?_
  intro p e s m args below meth c A Q hQ B hA H locs hP hKL hD hS ls hl
  have hK : va_K D vwCl (TY cI cT) s := hKL.sub (tys' := TY cI cT) [0, 1] rfl
  obtain ⟨hx, hb, hml, hrt, hts, hown, hlk⟩ := B
  have hl : lv_has ls 5 [(0, .ref aa), (1, .ref am), (2, .int (nI t)), (3, .int (nI r)), (4, .int mo)] := hl
  refine lv_aload_n hx hb dL_grant_0 rfl (lv_at hl 1 rfl) ?_
  refine lv_iload_n hx hb dL_grant_1 rfl (lv_at hl 3 rfl) ?_
  refine lv_aload_n hx hb dL_grant_2 rfl (lv_at hl 1 rfl) ?_
  refine lv_iload_n hx hb dL_grant_3 rfl (lv_at hl 3 rfl) ?_
  refine r_ild (k := r) hx hb hK hP 0 rfl (by omega) (by decide) dL_grant_4 ?_
  refine lv_iconst (v := (nI 3)) hx hb dL_grant_5 (by decide) ?_
  refine lv_iconst (v := (nI 2)) hx hb dL_grant_6 (by decide) ?_
  refine lv_iload_n hx hb dL_grant_7 rfl (lv_at hl 2 rfl) ?_
  refine lv_imul hx hb dL_grant_8 ?_
  refine tpe (y := (nI (2 * t))) (pk_mul _ _) ?_
  refine lv_ishl hx hb dL_grant_9 ?_
  refine lv_iconst (v := (-1)) hx hb dL_grant_10 (by decide) ?_
  refine lv_ixor hx hb dL_grant_11 ?_
  refine lv_iand hx hb dL_grant_12 ?_
  refine lv_iload hx hb dL_grant_13 (lv_at hl 4 rfl) ?_
  refine lv_iconst (v := (nI 2)) hx hb dL_grant_15 (by decide) ?_
  refine lv_iload_n hx hb dL_grant_16 rfl (lv_at hl 2 rfl) ?_
  refine lv_imul hx hb dL_grant_17 ?_
  refine tpe (y := (nI (2 * t))) (pk_mul _ _) ?_
  refine lv_ishl hx hb dL_grant_18 ?_
  refine lv_ior hx hb dL_grant_19 ?_
  refine r_ist (k := r) hx hb hK hP hD hS 0 rfl (by omega) (by decide) dL_grant_20 (fun H locs hP hD hS => ?_)
  have hP : va_P D vwCl ([(am, .inl (cI, 10, .inl (upd fm r (((fm r) &&& (((nI 3) <<< ((nI (2 * t)) &&& 31)) ^^^ (-1))) ||| (mo <<< ((nI (2 * t)) &&& 31)))))), (aa, .inl (cI, 48, .inl fa))]) H := hP
  have hD : va_D A ([(am, .inl (cI, 10, .inl (upd fm r (((fm r) &&& (((nI 3) <<< ((nI (2 * t)) &&& 31)) ^^^ (-1))) ||| (mo <<< ((nI (2 * t)) &&& 31)))))), (aa, .inl (cI, 48, .inl fa))]) := hD
  refine lv_aload_n hx hb dL_grant_21 rfl (lv_at hl 0 rfl) ?_
  refine lv_bipush (v := (nI 6)) hx hb dL_grant_22 (by decide) ?_
  refine lv_iload_n hx hb dL_grant_24 rfl (lv_at hl 2 rfl) ?_
  refine lv_imul hx hb dL_grant_25 ?_
  refine tpe (y := (nI (6 * t))) (pk_mul _ _) ?_
  refine lv_iconst (v := (nI 1)) hx hb dL_grant_26 (by decide) ?_
  refine lv_iadd hx hb dL_grant_27 ?_
  refine tpe (y := (nI (6 * t + 1))) (nI_add _ _) ?_
  refine lv_dup2_11 hx hb dL_grant_28 rfl rfl ?_
  refine r_ild (k := (6 * t + 1)) hx hb hK hP 1 rfl (by omega) (by decide) dL_grant_29 ?_
  refine lv_iconst (v := (nI 1)) hx hb dL_grant_30 (by decide) ?_
  refine lv_iadd hx hb dL_grant_31 ?_
  refine r_ist (k := (6 * t + 1)) hx hb hK hP hD hS 1 rfl (by omega) (by decide) dL_grant_32 (fun H locs hP hD hS => ?_)
  have hP : va_P D vwCl ([(am, .inl (cI, 10, .inl (upd fm r (((fm r) &&& (((nI 3) <<< ((nI (2 * t)) &&& 31)) ^^^ (-1))) ||| (mo <<< ((nI (2 * t)) &&& 31)))))), (aa, .inl (cI, 48, .inl (upd fa (6 * t + 1) ((fa (6 * t + 1)) + (nI 1)))))]) H := hP
  have hD : va_D A ([(am, .inl (cI, 10, .inl (upd fm r (((fm r) &&& (((nI 3) <<< ((nI (2 * t)) &&& 31)) ^^^ (-1))) ||| (mo <<< ((nI (2 * t)) &&& 31)))))), (aa, .inl (cI, 48, .inl (upd fa (6 * t + 1) ((fa (6 * t + 1)) + (nI 1)))))]) := hD
  exact ret_v (u := (gM fm t r mo, grA fa t)) hQ hx hb hrt hlk hS dL_grant_33 hP ⟨MM_gr hM ht hr hmo, ZA_gr hZ ht⟩

abbrev rL_remove : Room := { frames := 2, cells := 0, slots := 0, locals := 47 }
set_option maxHeartbeats 1000000 in
set_option maxRecDepth 100000 in
theorem c_L_remove (l : Launch) (D : va_G) (cI cT cL : ClassId) (aa aq : Nat) (fa : Nat → Int32) (fq : Nat → Int64) (F : FF) (Q0 : QQ) (t : Nat) (ht : t < 8) (n3 : ¬ F 3 t = -1) (hJ : JJ F Q0) (hZ : ZA F fa) (hQL : QL Q0 fq) : CLv l D cI cT cL yL_remove wsL_remove rL_remove [.ref aa, .ref aq, .int (nI t)] ([(aa, .inl (cI, 48, .inl fa)), (aq, .inl (cL, 10, .inr (.inl fq)))]) (S := (Nat → Int32) × (Nat → Int64)) (fun u => ZA (rmF F t) u.1 ∧ QL (rmQ F Q0 t) u.2) (fun u => [(aa, .inl (cI, 48, .inl u.1)), (aq, .inl (cL, 10, .inr (.inl u.2)))]) := by
  refine CLv.of (cc := cL_remove) (maxL := 7) (ret := none) (by decide) rfl (Nat.le_of_ble_eq_true rfl) ?_
  intro p e s m args below meth c A Q hQ B hA H locs hP hKL hD hS ls hl
  have hK : va_K D vwCl (TY cI cT) s := hKL.sub (tys' := TY cI cT) [0, 1] rfl
  obtain ⟨hx, hb, hml, hrt, hts, hown, hlk⟩ := B
  have hl : lv_has ls 7 [(0, .ref aa), (1, .ref aq), (2, .int (nI t))] := hl
  obtain ⟨r, hr, h3, hw, hm⟩ := JJ_want hJ ht n3
  refine lv_aload_n hx hb dL_remove_0 rfl (lv_at hl 0 rfl) ?_
  refine lv_bipush (v := (nI 6)) hx hb dL_remove_1 (by decide) ?_
  refine lv_iload_n hx hb dL_remove_3 rfl (lv_at hl 2 rfl) ?_
  refine lv_imul hx hb dL_remove_4 ?_
  refine tpe (y := (nI (6 * t))) (pk_mul _ _) ?_
  refine lv_iconst (v := (nI 4)) hx hb dL_remove_5 (by decide) ?_
  refine lv_iadd hx hb dL_remove_6 ?_
  refine tpe (y := (nI (6 * t + 4))) (nI_add _ _) ?_
  refine r_ild (k := (6 * t + 4)) hx hb hK hP 0 rfl (by omega) (by decide) dL_remove_7 ?_
  refine tpe (y := nI r) ((ZA4 hZ ht).trans h3) ?_
  refine lv_istore_n (lv' := [(3, .int (nI r)), (0, .ref aa), (1, .ref aq), (2, .int (nI t))]) hx hb dL_remove_8 rfl hl (by decide) rfl (fun ls hl => ?_)
  refine lv_aload_n hx hb dL_remove_9 rfl (lv_at hl 2 rfl) ?_
  refine lv_iload_n hx hb dL_remove_10 rfl (lv_at hl 0 rfl) ?_
  refine r_lld (k := r) hx hb hKL hP 1 rfl (by omega) (by decide) dL_remove_11 ?_
  refine tpl (y := (lN (qN (Q0 r)))) (hQL r (by omega)) ?_
  refine lv_iload_n hx hb dL_remove_12 rfl (lv_at hl 3 rfl) ?_
  refine call_l (X := [(aa, .inl (cI, 48, .inl fa)), (aq, .inl (cL, 10, .inr (.inl fq)))]) (Wc := []) (Z := []) (As := [.long (lN (qN (Q0 r))), .int (nI t)]) (rest := []) ⟨hx, hb, hml, hown, hts⟩ (c_L_index l D cI cT cL (Q0 r) t (Q_8 hJ (show r < 10 by omega)) (JJ_len hJ (show r < 10 by omega)) (by omega)) (va_cwS 2 hts gL_remove_L_index rfl rfl rfl (by decide +kernel) ⟨Nat.le_of_ble_eq_true rfl, Nat.le_of_ble_eq_true rfl⟩) hKL (P_nilr hP) (D_nilr hD) hS hA (fun _ => rfl) rfl hl.1 rfl (Nat.le_of_ble_eq_true rfl) ⟨by decide, by decide⟩ dL_remove_13 (fun rv uu H locs hp hP hD hS => ?_)
  have hP := P_nil2 hP
  have hD := D_nil2 hD
  obtain rfl := hp
  have hP : va_P D vwCl ([(aa, .inl (cI, 48, .inl fa)), (aq, .inl (cL, 10, .inr (.inl fq)))]) H := hP
  have hD : va_D A ([(aa, .inl (cI, 48, .inl fa)), (aq, .inl (cL, 10, .inr (.inl fq)))]) := hD
  refine lv_istore (lv' := [(4, .int (nI ((Q0 r).idxOf t))), (3, .int (nI r)), (0, .ref aa), (1, .ref aq), (2, .int (nI t))]) hx hb dL_remove_16 hl (by decide) rfl (fun ls hl => ?_)
  refine lv_aload_n hx hb dL_remove_18 rfl (lv_at hl 3 rfl) ?_
  refine lv_iload_n hx hb dL_remove_19 rfl (lv_at hl 1 rfl) ?_
  refine r_lld (k := r) hx hb hKL hP 1 rfl (by omega) (by decide) dL_remove_20 ?_
  refine tpl (y := (lN (qN (Q0 r)))) (hQL r (by omega)) ?_
  refine lv_lconst (v := lN 1) hx hb dL_remove_21 rfl ?_
  refine lv_iconst (v := (nI 4)) hx hb dL_remove_22 (by decide) ?_
  refine lv_iload hx hb dL_remove_23 (lv_at hl 0 rfl) ?_
  refine lv_imul hx hb dL_remove_25 ?_
  refine tpe (y := (nI (4 * ((Q0 r).idxOf t)))) (pk_mul _ _) ?_
  refine lv_lshl (v := (lN 1) <<< ((nI (4 * ((Q0 r).idxOf t))).toInt64 &&& 63)) hx hb dL_remove_26 rfl ?_
  refine lv_lconst (v := lN 1) hx hb dL_remove_27 rfl ?_
  refine lv_lsub hx hb dL_remove_28 ?_
  refine lv_land hx hb dL_remove_29 ?_
  refine lv_lstore (lv' := [(5, .long ((lN (qN (Q0 r))) &&& (((lN 1) <<< ((nI (4 * ((Q0 r).idxOf t))).toInt64 &&& 63)) - (lN 1)))), (4, .int (nI ((Q0 r).idxOf t))), (3, .int (nI r)), (0, .ref aa), (1, .ref aq), (2, .int (nI t))]) hx hb dL_remove_30 hl (by decide) rfl (fun ls hl => ?_)
  refine lv_aload_n hx hb dL_remove_32 rfl (lv_at hl 4 rfl) ?_
  refine lv_iload_n hx hb dL_remove_33 rfl (lv_at hl 2 rfl) ?_
  refine lv_aload_n hx hb dL_remove_34 rfl (lv_at hl 4 rfl) ?_
  refine lv_iload_n hx hb dL_remove_35 rfl (lv_at hl 2 rfl) ?_
  refine r_lld (k := r) hx hb hKL hP 1 rfl (by omega) (by decide) dL_remove_36 ?_
  refine tpl (y := (lN (qN (Q0 r)))) (hQL r (by omega)) ?_
  refine lv_iconst (v := (nI 4)) hx hb dL_remove_37 (by decide) ?_
  refine lv_iload hx hb dL_remove_38 (lv_at hl 1 rfl) ?_
  refine lv_imul hx hb dL_remove_40 ?_
  refine tpe (y := (nI (4 * ((Q0 r).idxOf t)))) (pk_mul _ _) ?_
  refine lv_iconst (v := (nI 4)) hx hb dL_remove_41 (by decide) ?_
  refine lv_iadd hx hb dL_remove_42 ?_
  refine tpe (y := (nI (4 * ((Q0 r).idxOf t) + 4))) (nI_add _ _) ?_
  refine lv_lshr (v := (lN (qN (Q0 r))) >>> ((nI (4 * ((Q0 r).idxOf t) + 4)).toInt64 &&& 63)) hx hb dL_remove_43 rfl ?_
  refine lv_iconst (v := (nI 4)) hx hb dL_remove_44 (by decide) ?_
  refine lv_iload hx hb dL_remove_45 (lv_at hl 1 rfl) ?_
  refine lv_imul hx hb dL_remove_47 ?_
  refine tpe (y := (nI (4 * ((Q0 r).idxOf t)))) (pk_mul _ _) ?_
  refine lv_lshl (v := ((lN (qN (Q0 r))) >>> ((nI (4 * ((Q0 r).idxOf t) + 4)).toInt64 &&& 63)) <<< ((nI (4 * ((Q0 r).idxOf t))).toInt64 &&& 63)) hx hb dL_remove_48 rfl ?_
  refine lv_lload hx hb dL_remove_49 (lv_at hl 0 rfl) ?_
  refine lv_lor hx hb dL_remove_51 ?_
  refine r_lst (k := r) hx hb hKL hP hD hS 1 rfl (by omega) (by decide) dL_remove_52 (fun H locs hP hD hS => ?_)
  have hP : va_P D vwCl ([(aa, .inl (cI, 48, .inl fa)), (aq, .inl (cL, 10, .inr (.inl (vp_updL fq r ((((lN (qN (Q0 r))) >>> ((nI (4 * ((Q0 r).idxOf t) + 4)).toInt64 &&& 63)) <<< ((nI (4 * ((Q0 r).idxOf t))).toInt64 &&& 63)) ||| ((lN (qN (Q0 r))) &&& (((lN 1) <<< ((nI (4 * ((Q0 r).idxOf t))).toInt64 &&& 63)) - (lN 1))))))))]) H := hP
  have hD : va_D A ([(aa, .inl (cI, 48, .inl fa)), (aq, .inl (cL, 10, .inr (.inl (vp_updL fq r ((((lN (qN (Q0 r))) >>> ((nI (4 * ((Q0 r).idxOf t) + 4)).toInt64 &&& 63)) <<< ((nI (4 * ((Q0 r).idxOf t))).toInt64 &&& 63)) ||| ((lN (qN (Q0 r))) &&& (((lN 1) <<< ((nI (4 * ((Q0 r).idxOf t))).toInt64 &&& 63)) - (lN 1))))))))]) := hD
  refine lv_aload_n hx hb dL_remove_53 rfl (lv_at hl 3 rfl) ?_
  refine lv_bipush (v := (nI 6)) hx hb dL_remove_54 (by decide) ?_
  refine lv_iload_n hx hb dL_remove_56 rfl (lv_at hl 5 rfl) ?_
  refine lv_imul hx hb dL_remove_57 ?_
  refine tpe (y := (nI (6 * t))) (pk_mul _ _) ?_
  refine lv_iconst (v := (nI 1)) hx hb dL_remove_58 (by decide) ?_
  refine r_ist (k := (6 * t)) hx hb hK hP hD hS 0 rfl (by omega) (by decide) dL_remove_59 (fun H locs hP hD hS => ?_)
  have hP : va_P D vwCl ([(aa, .inl (cI, 48, .inl (upd fa (6 * t) (nI 1)))), (aq, .inl (cL, 10, .inr (.inl (vp_updL fq r ((((lN (qN (Q0 r))) >>> ((nI (4 * ((Q0 r).idxOf t) + 4)).toInt64 &&& 63)) <<< ((nI (4 * ((Q0 r).idxOf t))).toInt64 &&& 63)) ||| ((lN (qN (Q0 r))) &&& (((lN 1) <<< ((nI (4 * ((Q0 r).idxOf t))).toInt64 &&& 63)) - (lN 1))))))))]) H := hP
  have hD : va_D A ([(aa, .inl (cI, 48, .inl (upd fa (6 * t) (nI 1)))), (aq, .inl (cL, 10, .inr (.inl (vp_updL fq r ((((lN (qN (Q0 r))) >>> ((nI (4 * ((Q0 r).idxOf t) + 4)).toInt64 &&& 63)) <<< ((nI (4 * ((Q0 r).idxOf t))).toInt64 &&& 63)) ||| ((lN (qN (Q0 r))) &&& (((lN 1) <<< ((nI (4 * ((Q0 r).idxOf t))).toInt64 &&& 63)) - (lN 1))))))))]) := hD
  refine lv_aload_n hx hb dL_remove_60 rfl (lv_at hl 3 rfl) ?_
  refine lv_bipush (v := (nI 6)) hx hb dL_remove_61 (by decide) ?_
  refine lv_iload_n hx hb dL_remove_63 rfl (lv_at hl 5 rfl) ?_
  refine lv_imul hx hb dL_remove_64 ?_
  refine tpe (y := (nI (6 * t))) (pk_mul _ _) ?_
  refine lv_iconst (v := (nI 4)) hx hb dL_remove_65 (by decide) ?_
  refine lv_iadd hx hb dL_remove_66 ?_
  refine tpe (y := (nI (6 * t + 4))) (nI_add _ _) ?_
  refine lv_iconst (v := (-1)) hx hb dL_remove_67 (by decide) ?_
  refine r_ist (k := (6 * t + 4)) hx hb hK hP hD hS 0 rfl (by omega) (by decide) dL_remove_68 (fun H locs hP hD hS => ?_)
  have hP : va_P D vwCl ([(aa, .inl (cI, 48, .inl (upd (upd fa (6 * t) (nI 1)) (6 * t + 4) (-1)))), (aq, .inl (cL, 10, .inr (.inl (vp_updL fq r ((((lN (qN (Q0 r))) >>> ((nI (4 * ((Q0 r).idxOf t) + 4)).toInt64 &&& 63)) <<< ((nI (4 * ((Q0 r).idxOf t))).toInt64 &&& 63)) ||| ((lN (qN (Q0 r))) &&& (((lN 1) <<< ((nI (4 * ((Q0 r).idxOf t))).toInt64 &&& 63)) - (lN 1))))))))]) H := hP
  have hD : va_D A ([(aa, .inl (cI, 48, .inl (upd (upd fa (6 * t) (nI 1)) (6 * t + 4) (-1)))), (aq, .inl (cL, 10, .inr (.inl (vp_updL fq r ((((lN (qN (Q0 r))) >>> ((nI (4 * ((Q0 r).idxOf t) + 4)).toInt64 &&& 63)) <<< ((nI (4 * ((Q0 r).idxOf t))).toInt64 &&& 63)) ||| ((lN (qN (Q0 r))) &&& (((lN 1) <<< ((nI (4 * ((Q0 r).idxOf t))).toInt64 &&& 63)) - (lN 1))))))))]) := hD
  refine lv_aload_n hx hb dL_remove_69 rfl (lv_at hl 3 rfl) ?_
  refine lv_bipush (v := (nI 6)) hx hb dL_remove_70 (by decide) ?_
  refine lv_iload_n hx hb dL_remove_72 rfl (lv_at hl 5 rfl) ?_
  refine lv_imul hx hb dL_remove_73 ?_
  refine tpe (y := (nI (6 * t))) (pk_mul _ _) ?_
  refine lv_iconst (v := (nI 5)) hx hb dL_remove_74 (by decide) ?_
  refine lv_iadd hx hb dL_remove_75 ?_
  refine tpe (y := (nI (6 * t + 5))) (nI_add _ _) ?_
  refine lv_iconst (v := (nI 0)) hx hb dL_remove_76 (by decide) ?_
  refine r_ist (k := (6 * t + 5)) hx hb hK hP hD hS 0 rfl (by omega) (by decide) dL_remove_77 (fun H locs hP hD hS => ?_)
  have hP : va_P D vwCl ([(aa, .inl (cI, 48, .inl (upd (upd (upd fa (6 * t) (nI 1)) (6 * t + 4) (-1)) (6 * t + 5) (nI 0)))), (aq, .inl (cL, 10, .inr (.inl (vp_updL fq r ((((lN (qN (Q0 r))) >>> ((nI (4 * ((Q0 r).idxOf t) + 4)).toInt64 &&& 63)) <<< ((nI (4 * ((Q0 r).idxOf t))).toInt64 &&& 63)) ||| ((lN (qN (Q0 r))) &&& (((lN 1) <<< ((nI (4 * ((Q0 r).idxOf t))).toInt64 &&& 63)) - (lN 1))))))))]) H := hP
  have hD : va_D A ([(aa, .inl (cI, 48, .inl (upd (upd (upd fa (6 * t) (nI 1)) (6 * t + 4) (-1)) (6 * t + 5) (nI 0)))), (aq, .inl (cL, 10, .inr (.inl (vp_updL fq r ((((lN (qN (Q0 r))) >>> ((nI (4 * ((Q0 r).idxOf t) + 4)).toInt64 &&& 63)) <<< ((nI (4 * ((Q0 r).idxOf t))).toInt64 &&& 63)) ||| ((lN (qN (Q0 r))) &&& (((lN 1) <<< ((nI (4 * ((Q0 r).idxOf t))).toInt64 &&& 63)) - (lN 1))))))))]) := hD
  exact ret_v (u := (rmA fa t, vp_updL fq r (rQ (lN (qN (Q0 r))) ((Q0 r).idxOf t)))) hQ hx hb hrt hlk hS dL_remove_78 hP ⟨ZA_rm hZ ht (JJ_0 hJ ht n3), QL_rm2 hJ hQL hr hm n3 hw⟩

abbrev rL_release : Room := { frames := 0, cells := 0, slots := 0, locals := 0 }
set_option maxHeartbeats 1000000 in
set_option maxRecDepth 100000 in
theorem c_L_release (l : Launch) (D : va_G) (cI cT cL : ClassId) (am : Nat) (fm : Nat → Int32) (F : FF) (t : Nat) (ht : t < 8) (hM : MM F fm) : CLv l D cI cT cL yL_release wsL_release rL_release [.ref am, .int (nI t)] ([(am, .inl (cI, 10, .inl fm))]) (S := Nat → Int32) (fun u => MM (relF F t) u) (fun u => [(am, .inl (cI, 10, .inl u))]) := by
  refine CLv.of (cc := cL_release) (maxL := 3) (ret := none) (by decide) rfl (Nat.le_of_ble_eq_true rfl) ?_
  intro p e s m args below meth c A Q hQ B hA H locs hP hKL hD hS ls hl
  have hK : va_K D vwCl (TY cI cT) s := hKL.sub (tys' := TY cI cT) [0, 1] rfl
  obtain ⟨hx, hb, hml, hrt, hts, hown, hlk⟩ := B
  have hl : lv_has ls 3 [(0, .ref am), (1, .int (nI t))] := hl
  refine lv_iconst (v := (nI 0)) hx hb dL_release_0 (by decide) ?_
  refine lv_istore_n (lv' := [(2, .int (nI 0)), (0, .ref am), (1, .int (nI t))]) hx hb dL_release_1 rfl hl (by decide) rfl (fun ls hl => ?_)
  have L2 : ∀ (N : Nat) (i : Nat), (i ≤ 10) → (10 - i) < N → ∀ (H : Heap) (locs : List Loc), va_P D vwCl ([(am, .inl (cI, 10, .inl (rM fm t i)))]) H → va_D A ([(am, .inl (cI, 10, .inl (rM fm t i)))]) → va_S A s.heap H locs → ∀ ls : Array Slot, lv_has ls 3 [(0, .ref am), (1, .int (nI t)), (2, .int (nI i))] → W p l e rL_release s m args below meth c H locs 0 0 Q (F0 m 2 ls []) := by
    intro N2
    induction N2 with
    | zero => intro i hi hN; exact absurd hN (Nat.not_lt_zero _)
    | succ N2 ih2 =>
      intro i hi hN H locs hP hD hS ls hl
      refine lv_iload_n hx hb dL_release_2 rfl (lv_at hl 2 rfl) ?_
      refine lv_bipush (v := (nI 10)) hx hb dL_release_3 (by decide) ?_
      refine lv_icmp_ge (tgt := 27) hx hb dL_release_5 (by decide) (fun h_1 => ?_) (fun h_1 => ?_)
      · have h_1 := (nI_leI (a := 10) (b := i) (by decide) (by omega)).mp h_1
        exact ret_v (u := rM fm t 10) hQ hx hb hrt hlk hS dL_release_27 (by rw [show i = 10 by omega] at hP; exact hP) (MM_rel hM ht)
      · have h_1 := mt (nI_leI (a := 10) (b := i) (by decide) (by omega)).mpr h_1
        refine lv_aload_n hx hb dL_release_8 rfl (lv_at hl 0 rfl) ?_
        refine lv_iload_n hx hb dL_release_9 rfl (lv_at hl 2 rfl) ?_
        refine lv_dup2_11 hx hb dL_release_10 rfl rfl ?_
        refine r_ild (k := i) hx hb hK hP 0 rfl (by omega) (by decide) dL_release_11 ?_
        refine lv_iconst (v := (nI 3)) hx hb dL_release_12 (by decide) ?_
        refine lv_iconst (v := (nI 2)) hx hb dL_release_13 (by decide) ?_
        refine lv_iload_n hx hb dL_release_14 rfl (lv_at hl 1 rfl) ?_
        refine lv_imul hx hb dL_release_15 ?_
        refine tpe (y := (nI (2 * t))) (pk_mul _ _) ?_
        refine lv_ishl hx hb dL_release_16 ?_
        refine lv_iconst (v := (-1)) hx hb dL_release_17 (by decide) ?_
        refine lv_ixor hx hb dL_release_18 ?_
        refine lv_iand hx hb dL_release_19 ?_
        refine r_ist (k := i) hx hb hK hP hD hS 0 rfl (by omega) (by decide) dL_release_20 (fun H locs hP hD hS => ?_)
        have hP : va_P D vwCl ([(am, .inl (cI, 10, .inl (upd (rM fm t i) i (((rM fm t i) i) &&& (((nI 3) <<< ((nI (2 * t)) &&& 31)) ^^^ (-1))))))]) H := hP
        have hD : va_D A ([(am, .inl (cI, 10, .inl (upd (rM fm t i) i (((rM fm t i) i) &&& (((nI 3) <<< ((nI (2 * t)) &&& 31)) ^^^ (-1))))))]) := hD
        refine lv_iinc (v := (nI (i + 1))) (lv' := [(2, .int (nI (i + 1))), (0, .ref am), (1, .int (nI t))]) hx hb dL_release_21 hl (k := 2) rfl (nI_add _ 1) (by decide) rfl (fun ls hl => ?_)
        refine lv_goto (tgt := 2) hx hb dL_release_24 (by decide) ?_
        exact ih2 (i + 1) (by omega) (by omega) _ _ (by rw [← rM_s]; exact hP) (by rw [← rM_s]; exact hD) hS _ (lv_sub hl [1, 2, 0] rfl)
  exact L2 _ 0 (Nat.zero_le _) (Nat.lt_succ_self _) _ _ (by rw [rM_0]; exact hP) (by rw [rM_0]; exact hD) hS _ (lv_sub hl [1, 2, 0] rfl)

abbrev rL_serve : Room := { frames := 3, cells := 0, slots := 0, locals := 73 }
set_option maxHeartbeats 1000000 in
set_option maxRecDepth 100000 in
theorem c_L_serve (l : Launch) (D : va_G) (cI cT cL : ClassId) (am aa aq : Nat) (fm : Nat → Int32) (fa : Nat → Int32) (fq : Nat → Int64) (F : FF) (Q0 : QQ) (hJ : JJ F Q0) (hM : MM F fm) (hZ : ZA F fa) (hQL : QL Q0 fq) : CL l D cI cT cL yL_serve wsL_serve rL_serve [.ref aa, .ref am, .ref aq] ([(am, .inl (cI, 10, .inl fm)), (aa, .inl (cI, 48, .inl fa)), (aq, .inl (cL, 10, .inr (.inl fq)))]) (S := (Nat → Int32) × (Nat → Int32) × (Nat → Int64)) (fun v u => v = nI (srvN F Q0) ∧ MM (srvF F Q0) u.1 ∧ ZA (srvF F Q0) u.2.1 ∧ QL (srvQ F Q0) u.2.2) (fun u => [(am, .inl (cI, 10, .inl u.1)), (aa, .inl (cI, 48, .inl u.2.1)), (aq, .inl (cL, 10, .inr (.inl u.2.2)))]) := by
  refine CL.of (cc := cL_serve) (maxL := 7) (ret := (some .int)) (by decide) rfl (Nat.le_of_ble_eq_true rfl) ?_
  intro p e s m args below meth c A Q hQ B hA H locs hP hKL hD hS ls hl
  have hK : va_K D vwCl (TY cI cT) s := hKL.sub (tys' := TY cI cT) [0, 1] rfl
  obtain ⟨hx, hb, hml, hrt, hts, hown, hlk⟩ := B
  have hl : lv_has ls 7 [(0, .ref aa), (1, .ref am), (2, .ref aq)] := hl
  refine lv_iconst (v := (nI 0)) hx hb dL_serve_0 (by decide) ?_
  refine lv_istore_n (lv' := [(3, .int (nI 0)), (0, .ref aa), (1, .ref am), (2, .ref aq)]) hx hb dL_serve_1 rfl hl (by decide) rfl (fun ls hl => ?_)
  refine lv_iconst (v := (nI 0)) hx hb dL_serve_2 (by decide) ?_
  refine lv_istore (lv' := [(4, .int (nI 0)), (3, .int (nI 0)), (0, .ref aa), (1, .ref am), (2, .ref aq)]) hx hb dL_serve_3 hl (by decide) rfl (fun ls hl => ?_)
  have L5 : ∀ (N : Nat) (k : Nat) (fm1 : Nat → Int32) (fa1 : Nat → Int32) (fq1 : Nat → Int64), (k ≤ 10) → (MM (serA F Q0 k).1 fm1) → (ZA (serA F Q0 k).1 fa1) → (QL (serA F Q0 k).2.1 fq1) → (10 - k) < N → ∀ (H : Heap) (locs : List Loc), va_P D vwCl ([(am, .inl (cI, 10, .inl fm1)), (aa, .inl (cI, 48, .inl fa1)), (aq, .inl (cL, 10, .inr (.inl fq1)))]) H → va_D A ([(am, .inl (cI, 10, .inl fm1)), (aa, .inl (cI, 48, .inl fa1)), (aq, .inl (cL, 10, .inr (.inl fq1)))]) → va_S A s.heap H locs → ∀ ls : Array Slot, lv_has ls 7 [(0, .ref aa), (1, .ref am), (2, .ref aq), (3, .int (nI ((serA F Q0 k).2.2))), (4, .int (nI k))] → W p l e rL_serve s m args below meth c H locs 0 0 Q (F0 m 5 ls []) := by
    intro N5
    induction N5 with
    | zero => intro k fm1 fa1 fq1 hk hM1 hZ1 hQ1 hN; exact absurd hN (Nat.not_lt_zero _)
    | succ N5 ih5 =>
      intro k fm1 fa1 fq1 hk hM1 hZ1 hQ1 hN H locs hP hD hS ls hl
      have hJk := JJ_serA hJ k hk
      refine lv_iload hx hb dL_serve_5 (lv_at hl 4 rfl) ?_
      refine lv_bipush (v := (nI 10)) hx hb dL_serve_7 (by decide) ?_
      refine lv_icmp_ge (tgt := 104) hx hb dL_serve_9 (by decide) (fun h_1 => ?_) (fun h_1 => ?_)
      · have h_1 := (nI_leI (a := 10) (b := k) (by decide) (by omega)).mp h_1
        refine lv_iload_n hx hb dL_serve_104 rfl (lv_at hl 3 rfl) ?_
        have hk10 : k = 10 := by omega
        rw [hk10] at hM1 hZ1 hQ1
        exact ret_i (u := (fm1, fa1, fq1)) hQ hx hb hrt hlk hS dL_serve_105 hP ⟨by rw [hk10]; rfl, hM1, hZ1, hQ1⟩
      · have h_1 := mt (nI_leI (a := 10) (b := k) (by decide) (by omega)).mpr h_1
        have L12 : ∀ (N : Nat) (i : Nat) (Fc : FF) (Qc : QQ) (fm2 : Nat → Int32) (fa2 : Nat → Int32) (fq2 : Nat → Int64), (serI k (serA F Q0 k).1 (serA F Q0 k).2.1 Fc Qc i) → (i + qlen Qc k ≤ 8) → (JJ Fc Qc) → (MM Fc fm2) → (ZA Fc fa2) → (QL Qc fq2) → (8 - i) < N → ∀ (H : Heap) (locs : List Loc), va_P D vwCl ([(am, .inl (cI, 10, .inl fm2)), (aa, .inl (cI, 48, .inl fa2)), (aq, .inl (cL, 10, .inr (.inl fq2)))]) H → va_D A ([(am, .inl (cI, 10, .inl fm2)), (aa, .inl (cI, 48, .inl fa2)), (aq, .inl (cL, 10, .inr (.inl fq2)))]) → va_S A s.heap H locs → ∀ ls : Array Slot, lv_has ls 7 [(0, .ref aa), (1, .ref am), (2, .ref aq), (3, .int (nI ((serA F Q0 k).2.2 + i))), (4, .int (nI k))] → W p l e rL_serve s m args below meth c H locs 0 0 Q (F0 m 12 ls []) := by
          intro N12
          induction N12 with
          | zero => intro i Fc Qc fm2 fa2 fq2 hI hc hJc hM2 hZ2 hQ2 hN; exact absurd hN (Nat.not_lt_zero _)
          | succ N12 ih12 =>
            intro i Fc Qc fm2 fa2 fq2 hI hc hJc hM2 hZ2 hQ2 hN H locs hP hD hS ls hl
            refine lv_aload_n hx hb dL_serve_12 rfl (lv_at hl 2 rfl) ?_
            refine lv_iload hx hb dL_serve_13 (lv_at hl 4 rfl) ?_
            refine r_lld (k := k) hx hb hKL hP 2 rfl (by omega) (by decide) dL_serve_15 ?_
            refine tpl (y := (lN (qN (Qc k)))) (hQ2 k (by omega)) ?_
            refine lv_lconst (v := lN 0) hx hb dL_serve_16 rfl ?_
            refine W.lcmp hx hb dL_serve_17 ?_
            refine lv_if_le (tgt := 98) hx hb dL_serve_18 (by decide) (fun h_2 => ?_) (fun h_2 => ?_)
            · have h_2 := h_2
              have hs0 := serI_e (Or.inr (sf_emp (fun q => by have := qN_0.mp ((lN_pos (Q_l63 hJc (show k < 10 by omega))).mp h_2); rw [qlen, this] at q; exact absurd q (Nat.lt_irrefl _)))) hI
              have hs1 := serA_s hs0
              refine lv_iinc (v := (nI (k + 1))) (lv' := [(4, .int (nI (k + 1))), (0, .ref aa), (1, .ref am), (2, .ref aq), (3, .int (nI ((serA F Q0 k).2.2 + i)))]) hx hb dL_serve_98 hl (k := 4) rfl (nI_add _ 1) (by decide) rfl (fun ls hl => ?_)
              refine lv_goto (tgt := 5) hx hb dL_serve_101 (by decide) ?_
              rw [show (nI ((serA F Q0 k).2.2 + i)) = (nI ((serA F Q0 (k + 1)).2.2)) from (congrArg nI hs1.2.2)] at hl
              exact ih5 (k + 1) fm2 fa2 fq2 (by omega) (by rw [← hs1.1]; exact hM2) (by rw [← hs1.1]; exact hZ2) (by rw [← hs1.2.1]; exact hQ2) (by omega) _ _ hP hD hS _ (lv_sub hl [1, 2, 3, 4, 0] rfl)
            · have h_2 := h_2
              have hq0 : 0 < qlen Qc k := Nat.pos_of_ne_zero (fun q => h_2 ((lN_pos (Q_l63 hJc (show k < 10 by omega))).mpr (qN_0.mpr (List.eq_nil_of_length_eq_zero q))))
              obtain ⟨o9, ho9⟩ : ∃ o, o = (Qc k).getD 0 0 := ⟨_, rfl⟩
              have ho8 : o9 < 8 := by rw [ho9]; exact JJ_mem hJc (by omega) hq0
              have hoq : o9 ∈ Qc k := by rw [ho9]; exact JJ_at hJc (by omega) hq0
              have ho3 : Fc 3 o9 = nI k := (hJc.2.1 k (by omega) o9 hoq).2
              have n3o : ¬ Fc 3 o9 = -1 := by rw [ho3]; exact m1_nI (by omega)
              have ho4 : Fc 4 o9 = nI 1 ∨ Fc 4 o9 = nI 2 := (hJc.2.2.2.2.2.1 k (by omega) o9 hoq).elim (fun q => Or.inl q.1) (fun q => Or.inr q.1)
              have hqr := qlen_rm hJc (show k < 10 by omega) hoq
              refine lv_aload_n hx hb dL_serve_21 rfl (lv_at hl 1 rfl) ?_
              refine lv_aload_n hx hb dL_serve_22 rfl (lv_at hl 2 rfl) ?_
              refine lv_iload hx hb dL_serve_23 (lv_at hl 4 rfl) ?_
              refine r_lld (k := k) hx hb hKL hP 2 rfl (by omega) (by decide) dL_serve_25 ?_
              refine tpl (y := (lN (qN (Qc k)))) (hQ2 k (by omega)) ?_
              refine lv_iconst (v := (nI 0)) hx hb dL_serve_26 (by decide) ?_
              refine call_l (X := [(am, .inl (cI, 10, .inl fm2)), (aa, .inl (cI, 48, .inl fa2)), (aq, .inl (cL, 10, .inr (.inl fq2)))]) (Wc := []) (Z := []) (As := [.long (lN (qN (Qc k))), .int (nI 0)]) (rest := [.ref am]) ⟨hx, hb, hml, hown, hts⟩ (c_L_at l D cI cT cL (Qc k) 0 (Q_8 hJc (show k < 10 by omega)) (JJ_len hJc (show k < 10 by omega)) hq0) (va_cwS 2 hts gL_serve_L_at rfl rfl rfl (by decide +kernel) ⟨Nat.le_of_ble_eq_true rfl, Nat.le_of_ble_eq_true rfl⟩) hKL (P_nilr hP) (D_nilr hD) hS hA (fun _ => rfl) rfl hl.1 rfl (Nat.le_of_ble_eq_true rfl) ⟨by decide, by decide⟩ dL_serve_27 (fun rv uu H locs hp hP hD hS => ?_)
              have hP := P_nil2 hP
              have hD := D_nil2 hD
              obtain rfl := hp
              have hP : va_P D vwCl ([(am, .inl (cI, 10, .inl fm2)), (aa, .inl (cI, 48, .inl fa2)), (aq, .inl (cL, 10, .inr (.inl fq2)))]) H := hP
              have hD : va_D A ([(am, .inl (cI, 10, .inl fm2)), (aa, .inl (cI, 48, .inl fa2)), (aq, .inl (cL, 10, .inr (.inl fq2)))]) := hD
              refine tpe (y := (nI o9)) (congrArg nI ho9.symm) ?_
              refine lv_iload hx hb dL_serve_30 (lv_at hl 4 rfl) ?_
              refine lv_aload_n hx hb dL_serve_32 rfl (lv_at hl 0 rfl) ?_
              refine lv_bipush (v := (nI 6)) hx hb dL_serve_33 (by decide) ?_
              refine lv_aload_n hx hb dL_serve_35 rfl (lv_at hl 2 rfl) ?_
              refine lv_iload hx hb dL_serve_36 (lv_at hl 4 rfl) ?_
              refine r_lld (k := k) hx hb hKL hP 2 rfl (by omega) (by decide) dL_serve_38 ?_
              refine tpl (y := (lN (qN (Qc k)))) (hQ2 k (by omega)) ?_
              refine lv_iconst (v := (nI 0)) hx hb dL_serve_39 (by decide) ?_
              refine call_l (X := [(am, .inl (cI, 10, .inl fm2)), (aa, .inl (cI, 48, .inl fa2)), (aq, .inl (cL, 10, .inr (.inl fq2)))]) (Wc := []) (Z := []) (As := [.long (lN (qN (Qc k))), .int (nI 0)]) (rest := [.int (nI 6), .ref aa, .int (nI k), .int (nI o9), .ref am]) ⟨hx, hb, hml, hown, hts⟩ (c_L_at l D cI cT cL (Qc k) 0 (Q_8 hJc (show k < 10 by omega)) (JJ_len hJc (show k < 10 by omega)) hq0) (va_cwS 2 hts gL_serve_L_at rfl rfl rfl (by decide +kernel) ⟨Nat.le_of_ble_eq_true rfl, Nat.le_of_ble_eq_true rfl⟩) hKL (P_nilr hP) (D_nilr hD) hS hA (fun _ => rfl) rfl hl.1 rfl (Nat.le_of_ble_eq_true rfl) ⟨by decide, by decide⟩ dL_serve_40 (fun rv uu H locs hp hP hD hS => ?_)
              have hP := P_nil2 hP
              have hD := D_nil2 hD
              obtain rfl := hp
              have hP : va_P D vwCl ([(am, .inl (cI, 10, .inl fm2)), (aa, .inl (cI, 48, .inl fa2)), (aq, .inl (cL, 10, .inr (.inl fq2)))]) H := hP
              have hD : va_D A ([(am, .inl (cI, 10, .inl fm2)), (aa, .inl (cI, 48, .inl fa2)), (aq, .inl (cL, 10, .inr (.inl fq2)))]) := hD
              refine tpe (y := (nI o9)) (congrArg nI ho9.symm) ?_
              refine lv_imul hx hb dL_serve_43 ?_
              refine tpe (y := (nI (6 * o9))) (pk_mul _ _) ?_
              refine lv_iconst (v := (nI 5)) hx hb dL_serve_44 (by decide) ?_
              refine lv_iadd hx hb dL_serve_45 ?_
              refine tpe (y := (nI (6 * o9 + 5))) (nI_add _ _) ?_
              refine r_ild (k := (6 * o9 + 5)) hx hb hK hP 1 rfl (by omega) (by decide) dL_serve_46 ?_
              refine tpe (y := (Fc 4 o9)) ((ZA5 hZ2 (by omega)).trans (mdZ_w n3o)) ?_
              refine call_l (X := []) (Wc := [(am, .inl (cI, 10, .inl fm2))]) (Z := [(aa, .inl (cI, 48, .inl fa2)), (aq, .inl (cL, 10, .inr (.inl fq2)))]) (As := [.ref am, .int (nI o9), .int (nI k), .int (Fc 4 o9)]) (rest := []) ⟨hx, hb, hml, hown, hts⟩ (c_L_canHold l D cI cT cL am fm2 Fc Qc o9 k (Fc 4 o9) (by omega) (by omega) hJc hM2) (va_cwS 4 hts gL_serve_L_canHold rfl rfl rfl (by decide +kernel) ⟨Nat.le_of_ble_eq_true rfl, Nat.le_of_ble_eq_true rfl⟩) hKL hP hD hS hA (fun _ => adw1) rfl hl.1 rfl (Nat.le_of_ble_eq_true rfl) ⟨by decide, by decide⟩ dL_serve_47 (fun rv uu H locs hp hP hD hS => ?_)
              obtain rfl := hp
              have hP : va_P D vwCl ([(am, .inl (cI, 10, .inl fm2)), (aa, .inl (cI, 48, .inl fa2)), (aq, .inl (cL, 10, .inr (.inl fq2)))]) H := hP
              have hD : va_D A ([(am, .inl (cI, 10, .inl fm2)), (aa, .inl (cI, 48, .inl fa2)), (aq, .inl (cL, 10, .inr (.inl fq2)))]) := hD
              refine lv_if_eq (tgt := 98) hx hb dL_serve_50 (by decide) (fun h_3 => ?_) (fun h_3 => ?_)
              · have h_3 := (nI_eq (a := ((alN (fun w => !rivB Fc o9 k (Fc 4 o9) w) 8).toNat)) (b := 0) (bool_lt _) (by decide)).mp h_3
                have hs0 := serI_e (Or.inr (sf_alN ho9 hq0 (b0 h_3))) hI
                have hs1 := serA_s hs0
                refine lv_iinc (v := (nI (k + 1))) (lv' := [(4, .int (nI (k + 1))), (0, .ref aa), (1, .ref am), (2, .ref aq), (3, .int (nI ((serA F Q0 k).2.2 + i)))]) hx hb dL_serve_98 hl (k := 4) rfl (nI_add _ 1) (by decide) rfl (fun ls hl => ?_)
                refine lv_goto (tgt := 5) hx hb dL_serve_101 (by decide) ?_
                rw [show (nI ((serA F Q0 k).2.2 + i)) = (nI ((serA F Q0 (k + 1)).2.2)) from (congrArg nI hs1.2.2)] at hl
                exact ih5 (k + 1) fm2 fa2 fq2 (by omega) (by rw [← hs1.1]; exact hM2) (by rw [← hs1.1]; exact hZ2) (by rw [← hs1.2.1]; exact hQ2) (by omega) _ _ hP hD hS _ (lv_sub hl [1, 2, 3, 4, 0] rfl)
              · have h_3 := mt (nI_eq (a := ((alN (fun w => !rivB Fc o9 k (Fc 4 o9) w) 8).toNat)) (b := 0) (bool_lt _) (by decide)).mpr h_3
                have hsy := sf_alN ho9 hq0 (b1 h_3)
                have es1 := (sf_yes hsy).1
                have es2 := (sf_yes hsy).2
                rw [← ho9] at es1 es2
                refine lv_aload_n hx hb dL_serve_53 rfl (lv_at hl 2 rfl) ?_
                refine lv_iload hx hb dL_serve_54 (lv_at hl 4 rfl) ?_
                refine r_lld (k := k) hx hb hKL hP 2 rfl (by omega) (by decide) dL_serve_56 ?_
                refine tpl (y := (lN (qN (Qc k)))) (hQ2 k (by omega)) ?_
                refine lv_iconst (v := (nI 0)) hx hb dL_serve_57 (by decide) ?_
                refine call_l (X := [(am, .inl (cI, 10, .inl fm2)), (aa, .inl (cI, 48, .inl fa2)), (aq, .inl (cL, 10, .inr (.inl fq2)))]) (Wc := []) (Z := []) (As := [.long (lN (qN (Qc k))), .int (nI 0)]) (rest := []) ⟨hx, hb, hml, hown, hts⟩ (c_L_at l D cI cT cL (Qc k) 0 (Q_8 hJc (show k < 10 by omega)) (JJ_len hJc (show k < 10 by omega)) hq0) (va_cwS 2 hts gL_serve_L_at rfl rfl rfl (by decide +kernel) ⟨Nat.le_of_ble_eq_true rfl, Nat.le_of_ble_eq_true rfl⟩) hKL (P_nilr hP) (D_nilr hD) hS hA (fun _ => rfl) rfl hl.1 rfl (Nat.le_of_ble_eq_true rfl) ⟨by decide, by decide⟩ dL_serve_58 (fun rv uu H locs hp hP hD hS => ?_)
                have hP := P_nil2 hP
                have hD := D_nil2 hD
                obtain rfl := hp
                have hP : va_P D vwCl ([(am, .inl (cI, 10, .inl fm2)), (aa, .inl (cI, 48, .inl fa2)), (aq, .inl (cL, 10, .inr (.inl fq2)))]) H := hP
                have hD : va_D A ([(am, .inl (cI, 10, .inl fm2)), (aa, .inl (cI, 48, .inl fa2)), (aq, .inl (cL, 10, .inr (.inl fq2)))]) := hD
                refine tpe (y := (nI o9)) (congrArg nI ho9.symm) ?_
                refine lv_istore (lv' := [(5, .int (nI o9)), (0, .ref aa), (1, .ref am), (2, .ref aq), (3, .int (nI ((serA F Q0 k).2.2 + i))), (4, .int (nI k))]) hx hb dL_serve_61 hl (by decide) rfl (fun ls hl => ?_)
                refine lv_aload_n hx hb dL_serve_63 rfl (lv_at hl 1 rfl) ?_
                refine lv_bipush (v := (nI 6)) hx hb dL_serve_64 (by decide) ?_
                refine lv_iload hx hb dL_serve_66 (lv_at hl 0 rfl) ?_
                refine lv_imul hx hb dL_serve_68 ?_
                refine tpe (y := (nI (6 * o9))) (pk_mul _ _) ?_
                refine lv_iconst (v := (nI 5)) hx hb dL_serve_69 (by decide) ?_
                refine lv_iadd hx hb dL_serve_70 ?_
                refine tpe (y := (nI (6 * o9 + 5))) (nI_add _ _) ?_
                refine r_ild (k := (6 * o9 + 5)) hx hb hK hP 1 rfl (by omega) (by decide) dL_serve_71 ?_
                refine tpe (y := (Fc 4 o9)) ((ZA5 hZ2 (by omega)).trans (mdZ_w n3o)) ?_
                refine lv_istore (lv' := [(6, .int (Fc 4 o9)), (5, .int (nI o9)), (0, .ref aa), (1, .ref am), (2, .ref aq), (3, .int (nI ((serA F Q0 k).2.2 + i))), (4, .int (nI k))]) hx hb dL_serve_72 hl (by decide) rfl (fun ls hl => ?_)
                refine lv_aload_n hx hb dL_serve_74 rfl (lv_at hl 2 rfl) ?_
                refine lv_aload_n hx hb dL_serve_75 rfl (lv_at hl 4 rfl) ?_
                refine lv_iload hx hb dL_serve_76 (lv_at hl 1 rfl) ?_
                refine call_lv (X := [(am, .inl (cI, 10, .inl fm2))]) (Wc := [(aa, .inl (cI, 48, .inl fa2)), (aq, .inl (cL, 10, .inr (.inl fq2)))]) (Z := []) (As := [.ref aa, .ref aq, .int (nI o9)]) (rest := []) ⟨hx, hb, hml, hown, hts⟩ (c_L_remove l D cI cT cL aa aq fa2 fq2 Fc Qc o9 (by omega) n3o hJc hZ2 hQ2) (va_cwS 3 hts gL_serve_L_remove rfl rfl rfl (by decide +kernel) ⟨Nat.le_of_ble_eq_true rfl, Nat.le_of_ble_eq_true rfl⟩) hKL hP hD hS hA (fun _ => adw2) rfl hl.1 rfl (Nat.le_of_ble_eq_true rfl) ⟨by decide, by decide⟩ dL_serve_78 (fun uu H locs hp hP hD hS => ?_)
                obtain ⟨fa1, fq1⟩ := uu
                obtain ⟨hZ1, hQ1⟩ := hp
                dsimp only at hZ1 hQ1
                have hJ1 := JJ_rm hJc (show o9 < 8 by omega)
                have hMr1 := MM_cg (F' := rmF Fc o9) hM2 (rmF_ne (by decide))
                have hP : va_P D vwCl ([(am, .inl (cI, 10, .inl fm2)), (aa, .inl (cI, 48, .inl fa1)), (aq, .inl (cL, 10, .inr (.inl fq1)))]) H := hP
                have hD : va_D A ([(am, .inl (cI, 10, .inl fm2)), (aa, .inl (cI, 48, .inl fa1)), (aq, .inl (cL, 10, .inr (.inl fq1)))]) := hD
                refine lv_aload_n hx hb dL_serve_81 rfl (lv_at hl 2 rfl) ?_
                refine lv_aload_n hx hb dL_serve_82 rfl (lv_at hl 3 rfl) ?_
                refine lv_iload hx hb dL_serve_83 (lv_at hl 1 rfl) ?_
                refine lv_iload hx hb dL_serve_85 (lv_at hl 6 rfl) ?_
                refine lv_iload hx hb dL_serve_87 (lv_at hl 0 rfl) ?_
                refine call_lv (X := []) (Wc := [(am, .inl (cI, 10, .inl fm2)), (aa, .inl (cI, 48, .inl fa1))]) (Z := [(aq, .inl (cL, 10, .inr (.inl fq1)))]) (As := [.ref aa, .ref am, .int (nI o9), .int (nI k), .int (Fc 4 o9)]) (rest := []) ⟨hx, hb, hml, hown, hts⟩ (c_L_grant l D cI cT cL am aa fm2 fa1 (rmF Fc o9) o9 k (Fc 4 o9) (by omega) (by omega) ho4 hMr1 hZ1) (va_cwS 5 hts gL_serve_L_grant rfl rfl rfl (by decide +kernel) ⟨Nat.le_of_ble_eq_true rfl, Nat.le_of_ble_eq_true rfl⟩) hKL hP hD hS hA (fun _ => adw2) rfl hl.1 rfl (Nat.le_of_ble_eq_true rfl) ⟨by decide, by decide⟩ dL_serve_89 (fun uu H locs hp hP hD hS => ?_)
                obtain ⟨fm2, fa2⟩ := uu
                obtain ⟨hM2, hZ2⟩ := hp
                dsimp only at hM2 hZ2
                have hP : va_P D vwCl ([(am, .inl (cI, 10, .inl fm2)), (aa, .inl (cI, 48, .inl fa2)), (aq, .inl (cL, 10, .inr (.inl fq1)))]) H := hP
                have hD : va_D A ([(am, .inl (cI, 10, .inl fm2)), (aa, .inl (cI, 48, .inl fa2)), (aq, .inl (cL, 10, .inr (.inl fq1)))]) := hD
                refine lv_iinc (v := (nI ((serA F Q0 k).2.2 + i + 1))) (lv' := [(3, .int (nI ((serA F Q0 k).2.2 + i + 1))), (6, .int (Fc 4 o9)), (5, .int (nI o9)), (0, .ref aa), (1, .ref am), (2, .ref aq), (4, .int (nI k))]) hx hb dL_serve_92 hl (k := 5) rfl (nI_add _ 1) (by decide) rfl (fun ls hl => ?_)
                refine lv_goto (tgt := 12) hx hb dL_serve_95 (by decide) ?_
                rw [show (nI ((serA F Q0 k).2.2 + i + 1)) = (nI ((serA F Q0 k).2.2 + (i + 1))) from rfl] at hl
                exact ih12 (i + 1) (sfF Fc Qc k) (sfQ Fc Qc k) fm2 fa2 fq1 (serI_s (by omega) hsy hI) (by rw [es2]; omega) (JJ_sf hJc (by omega)) (by rw [es1]; exact hM2) (by rw [es1]; exact hZ2) (by rw [es2]; exact hQ1) (by omega) _ _ hP hD hS _ (lv_sub hl [3, 4, 5, 0, 6] rfl)
        rw [show (nI ((serA F Q0 k).2.2)) = (nI ((serA F Q0 k).2.2 + 0)) from rfl] at hl
        exact L12 _ 0 ((serA F Q0 k).1) ((serA F Q0 k).2.1) fm1 fa1 fq1 serI_0 (by have := JJ_len hJk (show k < 10 by omega); omega) hJk hM1 hZ1 hQ1 (Nat.lt_succ_self _) _ _ hP hD hS _ (lv_sub hl [0, 1, 2, 3, 4] rfl)
  rw [show (nI 0) = (nI ((serA F Q0 0).2.2)) from rfl] at hl
  exact L5 _ 0 fm fa fq (Nat.zero_le _) hM hZ hQL (Nat.lt_succ_self _) _ _ hP hD hS _ (lv_sub hl [2, 3, 4, 1, 0] rfl)

abbrev rL_waitsFor : Room := { frames := 2, cells := 0, slots := 0, locals := 47 }
set_option maxHeartbeats 1000000 in
set_option maxRecDepth 100000 in
theorem c_L_waitsFor (l : Launch) (D : va_G) (cI cT cL : ClassId) (am aa aq : Nat) (fm : Nat → Int32) (fa : Nat → Int32) (fq : Nat → Int64) (F : FF) (Q0 : QQ) (t : Nat) (ht : t < 8) (hJ : JJ F Q0) (hM : MM F fm) (hZ : ZA F fa) (hQL : QL Q0 fq) : CL l D cI cT cL yL_waitsFor wsL_waitsFor rL_waitsFor [.ref aa, .ref am, .ref aq, .int (nI t)] ([(am, .inl (cI, 10, .inl fm)), (aa, .inl (cI, 48, .inl fa)), (aq, .inl (cL, 10, .inr (.inl fq)))]) (S := Unit) (fun v _ => v = nI (aWS F Q0 t)) (fun _ => [(am, .inl (cI, 10, .inl fm)), (aa, .inl (cI, 48, .inl fa)), (aq, .inl (cL, 10, .inr (.inl fq)))]) := by
  refine CL.of (cc := cL_waitsFor) (maxL := 10) (ret := (some .int)) (by decide) rfl (Nat.le_of_ble_eq_true rfl) ?_
  intro p e s m args below meth c A Q hQ B hA H locs hP hKL hD hS ls hl
  have hK : va_K D vwCl (TY cI cT) s := hKL.sub (tys' := TY cI cT) [0, 1] rfl
  obtain ⟨hx, hb, hml, hrt, hts, hown, hlk⟩ := B
  have hl : lv_has ls 10 [(0, .ref aa), (1, .ref am), (2, .ref aq), (3, .int (nI t))] := hl
  refine lv_aload_n hx hb dL_waitsFor_0 rfl (lv_at hl 0 rfl) ?_
  refine lv_bipush (v := (nI 6)) hx hb dL_waitsFor_1 (by decide) ?_
  refine lv_iload_n hx hb dL_waitsFor_3 rfl (lv_at hl 3 rfl) ?_
  refine lv_imul hx hb dL_waitsFor_4 ?_
  refine tpe (y := (nI (6 * t))) (pk_mul _ _) ?_
  refine r_ild (k := (6 * t)) hx hb hK hP 1 rfl (by omega) (by decide) dL_waitsFor_5 ?_
  refine tpe (y := (stI F t)) (ZA0 hZ (by omega)) ?_
  refine lv_iconst (v := (nI 2)) hx hb dL_waitsFor_6 (by decide) ?_
  refine lv_icmp_eq (tgt := 12) hx hb dL_waitsFor_7 (by decide) (fun h_1 => ?_) (fun h_1 => ?_)
  · have h_1 := h_1
    have n3 := (st_w hJ ht).mp h_1
    obtain ⟨r, hr, h3, hw, hm⟩ := JJ_want hJ ht n3
    have hql := JJ_len hJ hr
    have hqq : qlen Q0 r = (Q0 r).length := rfl
    have hit := ix_mem8 (L := Q0 r) (t := t) hql
    refine lv_aload_n hx hb dL_waitsFor_12 rfl (lv_at hl 0 rfl) ?_
    refine lv_bipush (v := (nI 6)) hx hb dL_waitsFor_13 (by decide) ?_
    refine lv_iload_n hx hb dL_waitsFor_15 rfl (lv_at hl 3 rfl) ?_
    refine lv_imul hx hb dL_waitsFor_16 ?_
    refine tpe (y := (nI (6 * t))) (pk_mul _ _) ?_
    refine lv_iconst (v := (nI 4)) hx hb dL_waitsFor_17 (by decide) ?_
    refine lv_iadd hx hb dL_waitsFor_18 ?_
    refine tpe (y := (nI (6 * t + 4))) (nI_add _ _) ?_
    refine r_ild (k := (6 * t + 4)) hx hb hK hP 1 rfl (by omega) (by decide) dL_waitsFor_19 ?_
    refine tpe (y := (nI r)) ((ZA4 hZ (by omega)).trans h3) ?_
    refine lv_istore (lv' := [(4, .int (nI r)), (0, .ref aa), (1, .ref am), (2, .ref aq), (3, .int (nI t))]) hx hb dL_waitsFor_20 hl (by decide) rfl (fun ls hl => ?_)
    refine lv_aload_n hx hb dL_waitsFor_22 rfl (lv_at hl 1 rfl) ?_
    refine lv_bipush (v := (nI 6)) hx hb dL_waitsFor_23 (by decide) ?_
    refine lv_iload_n hx hb dL_waitsFor_25 rfl (lv_at hl 4 rfl) ?_
    refine lv_imul hx hb dL_waitsFor_26 ?_
    refine tpe (y := (nI (6 * t))) (pk_mul _ _) ?_
    refine lv_iconst (v := (nI 5)) hx hb dL_waitsFor_27 (by decide) ?_
    refine lv_iadd hx hb dL_waitsFor_28 ?_
    refine tpe (y := (nI (6 * t + 5))) (nI_add _ _) ?_
    refine r_ild (k := (6 * t + 5)) hx hb hK hP 1 rfl (by omega) (by decide) dL_waitsFor_29 ?_
    refine tpe (y := (F 4 t)) ((ZA5 hZ (by omega)).trans (mdZ_w n3)) ?_
    refine lv_istore (lv' := [(5, .int (F 4 t)), (4, .int (nI r)), (0, .ref aa), (1, .ref am), (2, .ref aq), (3, .int (nI t))]) hx hb dL_waitsFor_30 hl (by decide) rfl (fun ls hl => ?_)
    refine lv_iconst (v := (nI 0)) hx hb dL_waitsFor_32 (by decide) ?_
    refine lv_istore (lv' := [(6, .int (nI 0)), (5, .int (F 4 t)), (4, .int (nI r)), (0, .ref aa), (1, .ref am), (2, .ref aq), (3, .int (nI t))]) hx hb dL_waitsFor_33 hl (by decide) rfl (fun ls hl => ?_)
    refine lv_iconst (v := (nI 0)) hx hb dL_waitsFor_35 (by decide) ?_
    refine lv_istore (lv' := [(7, .int (nI 0)), (6, .int (nI 0)), (5, .int (F 4 t)), (4, .int (nI r)), (0, .ref aa), (1, .ref am), (2, .ref aq), (3, .int (nI t))]) hx hb dL_waitsFor_36 hl (by decide) rfl (fun ls hl => ?_)
    have L38 : ∀ (N : Nat) (u : Nat), (u ≤ 8) → (8 - u) < N → ∀ (H : Heap) (locs : List Loc), va_P D vwCl ([(am, .inl (cI, 10, .inl fm)), (aa, .inl (cI, 48, .inl fa)), (aq, .inl (cL, 10, .inr (.inl fq)))]) H → va_D A ([(am, .inl (cI, 10, .inl fm)), (aa, .inl (cI, 48, .inl fa)), (aq, .inl (cL, 10, .inr (.inl fq)))]) → va_S A s.heap H locs → ∀ ls : Array Slot, lv_has ls 10 [(0, .ref aa), (1, .ref am), (2, .ref aq), (3, .int (nI t)), (4, .int (nI r)), (5, .int (F 4 t)), (6, .int (nI (bits (awB F Q0 t) u))), (7, .int (nI u))] → W p l e rL_waitsFor s m args below meth c H locs 0 0 Q (F0 m 38 ls []) := by
      intro N38
      induction N38 with
      | zero => intro u hu hN; exact absurd hN (Nat.not_lt_zero _)
      | succ N38 ih38 =>
        intro u hu hN H locs hP hD hS ls hl
        have hiu := ix_mem8 (L := Q0 r) (t := u) hql
        refine lv_iload hx hb dL_waitsFor_38 (lv_at hl 7 rfl) ?_
        refine lv_bipush (v := (nI 8)) hx hb dL_waitsFor_40 (by decide) ?_
        refine lv_icmp_ge (tgt := 149) hx hb dL_waitsFor_42 (by decide) (fun h_2 => ?_) (fun h_2 => ?_)
        · have h_2 := (nI_leI (a := 8) (b := u) (by decide) (by omega)).mp h_2
          refine lv_iload hx hb dL_waitsFor_149 (lv_at hl 6 rfl) ?_
          exact ret_i (u := ()) hQ hx hb hrt hlk hS dL_waitsFor_151 hP (by rw [show u = 8 by omega]; rfl)
        · have h_2 := mt (nI_leI (a := 8) (b := u) (by decide) (by omega)).mpr h_2
          refine lv_aload_n hx hb dL_waitsFor_45 rfl (lv_at hl 1 rfl) ?_
          refine lv_iload hx hb dL_waitsFor_46 (lv_at hl 7 rfl) ?_
          refine lv_iload hx hb dL_waitsFor_48 (lv_at hl 4 rfl) ?_
          refine call_l (X := []) (Wc := [(am, .inl (cI, 10, .inl fm))]) (Z := [(aa, .inl (cI, 48, .inl fa)), (aq, .inl (cL, 10, .inr (.inl fq)))]) (As := [.ref am, .int (nI u), .int (nI r)]) (rest := []) ⟨hx, hb, hml, hown, hts⟩ (c_L_lock l D cI cT cL am fm F Q0 u r (by omega) (by omega) hJ hM) (va_cwS 3 hts gL_waitsFor_L_lock rfl rfl rfl (by decide +kernel) ⟨Nat.le_of_ble_eq_true rfl, Nat.le_of_ble_eq_true rfl⟩) hKL hP hD hS hA (fun _ => adw1) rfl hl.1 rfl (Nat.le_of_ble_eq_true rfl) ⟨by decide, by decide⟩ dL_waitsFor_50 (fun rv uu H locs hp hP hD hS => ?_)
          obtain rfl := hp
          have hP : va_P D vwCl ([(am, .inl (cI, 10, .inl fm)), (aa, .inl (cI, 48, .inl fa)), (aq, .inl (cL, 10, .inr (.inl fq)))]) H := hP
          have hD : va_D A ([(am, .inl (cI, 10, .inl fm)), (aa, .inl (cI, 48, .inl fa)), (aq, .inl (cL, 10, .inr (.inl fq)))]) := hD
          refine lv_istore (lv' := [(8, .int (lk F u r)), (0, .ref aa), (1, .ref am), (2, .ref aq), (3, .int (nI t)), (4, .int (nI r)), (5, .int (F 4 t)), (6, .int (nI (bits (awB F Q0 t) u))), (7, .int (nI u))]) hx hb dL_waitsFor_53 hl (by decide) rfl (fun ls hl => ?_)
          refine lv_aload_n hx hb dL_waitsFor_55 rfl (lv_at hl 3 rfl) ?_
          refine lv_iload hx hb dL_waitsFor_56 (lv_at hl 5 rfl) ?_
          refine r_lld (k := r) hx hb hKL hP 2 rfl (by omega) (by decide) dL_waitsFor_58 ?_
          refine tpl (y := (lN (qN (Q0 r)))) (hQL r (by omega)) ?_
          refine lv_iload hx hb dL_waitsFor_59 (lv_at hl 8 rfl) ?_
          refine call_l (X := [(am, .inl (cI, 10, .inl fm)), (aa, .inl (cI, 48, .inl fa)), (aq, .inl (cL, 10, .inr (.inl fq)))]) (Wc := []) (Z := []) (As := [.long (lN (qN (Q0 r))), .int (nI u)]) (rest := []) ⟨hx, hb, hml, hown, hts⟩ (c_L_index l D cI cT cL (Q0 r) u (Q_8 hJ (show r < 10 by omega)) (JJ_len hJ (show r < 10 by omega)) (by omega)) (va_cwS 2 hts gL_waitsFor_L_index rfl rfl rfl (by decide +kernel) ⟨Nat.le_of_ble_eq_true rfl, Nat.le_of_ble_eq_true rfl⟩) hKL (P_nilr hP) (D_nilr hD) hS hA (fun _ => rfl) rfl hl.1 rfl (Nat.le_of_ble_eq_true rfl) ⟨by decide, by decide⟩ dL_waitsFor_61 (fun rv uu H locs hp hP hD hS => ?_)
          have hP := P_nil2 hP
          have hD := D_nil2 hD
          obtain rfl := hp
          have hP : va_P D vwCl ([(am, .inl (cI, 10, .inl fm)), (aa, .inl (cI, 48, .inl fa)), (aq, .inl (cL, 10, .inr (.inl fq)))]) H := hP
          have hD : va_D A ([(am, .inl (cI, 10, .inl fm)), (aa, .inl (cI, 48, .inl fa)), (aq, .inl (cL, 10, .inr (.inl fq)))]) := hD
          refine lv_aload_n hx hb dL_waitsFor_64 rfl (lv_at hl 3 rfl) ?_
          refine lv_iload hx hb dL_waitsFor_65 (lv_at hl 5 rfl) ?_
          refine r_lld (k := r) hx hb hKL hP 2 rfl (by omega) (by decide) dL_waitsFor_67 ?_
          refine tpl (y := (lN (qN (Q0 r)))) (hQL r (by omega)) ?_
          refine lv_iload_n hx hb dL_waitsFor_68 rfl (lv_at hl 4 rfl) ?_
          refine call_l (X := [(am, .inl (cI, 10, .inl fm)), (aa, .inl (cI, 48, .inl fa)), (aq, .inl (cL, 10, .inr (.inl fq)))]) (Wc := []) (Z := []) (As := [.long (lN (qN (Q0 r))), .int (nI t)]) (rest := [.int (nI ((Q0 r).idxOf u))]) ⟨hx, hb, hml, hown, hts⟩ (c_L_index l D cI cT cL (Q0 r) t (Q_8 hJ (show r < 10 by omega)) (JJ_len hJ (show r < 10 by omega)) (by omega)) (va_cwS 2 hts gL_waitsFor_L_index rfl rfl rfl (by decide +kernel) ⟨Nat.le_of_ble_eq_true rfl, Nat.le_of_ble_eq_true rfl⟩) hKL (P_nilr hP) (D_nilr hD) hS hA (fun _ => rfl) rfl hl.1 rfl (Nat.le_of_ble_eq_true rfl) ⟨by decide, by decide⟩ dL_waitsFor_69 (fun rv uu H locs hp hP hD hS => ?_)
          have hP := P_nil2 hP
          have hD := D_nil2 hD
          obtain rfl := hp
          have hP : va_P D vwCl ([(am, .inl (cI, 10, .inl fm)), (aa, .inl (cI, 48, .inl fa)), (aq, .inl (cL, 10, .inr (.inl fq)))]) H := hP
          have hD : va_D A ([(am, .inl (cI, 10, .inl fm)), (aa, .inl (cI, 48, .inl fa)), (aq, .inl (cL, 10, .inr (.inl fq)))]) := hD
          refine lv_icmp_ge (tgt := 98) hx hb dL_waitsFor_72 (by decide) (fun h_3 => ?_) (fun h_3 => ?_)
          · have h_3 := (nI_leI (a := ((Q0 r).idxOf t)) (b := ((Q0 r).idxOf u)) (by omega) (by omega)).mp h_3
            refine lv_iconst (v := (nI 0)) hx hb dL_waitsFor_98 (by decide) ?_
            refine lv_istore (lv' := [(9, .int (nI 0)), (8, .int (lk F u r)), (0, .ref aa), (1, .ref am), (2, .ref aq), (3, .int (nI t)), (4, .int (nI r)), (5, .int (F 4 t)), (6, .int (nI (bits (awB F Q0 t) u))), (7, .int (nI u))]) hx hb dL_waitsFor_99 hl (by decide) rfl (fun ls hl => ?_)
            refine lv_iload hx hb dL_waitsFor_101 (lv_at hl 8 rfl) ?_
            refine lv_iload hx hb dL_waitsFor_103 (lv_at hl 9 rfl) ?_
            refine lv_iload_n hx hb dL_waitsFor_105 rfl (lv_at hl 5 rfl) ?_
            refine lv_icmp_eq (tgt := 139) hx hb dL_waitsFor_106 (by decide) (fun h_4 => ?_) (fun h_4 => ?_)
            · have h_4 := (nI_eq (a := u) (b := t) (by omega) (by omega)).mp h_4
              refine lv_iconst (v := (nI 0)) hx hb dL_waitsFor_139 (by decide) ?_
              refine lv_ior hx hb dL_waitsFor_140 ?_
              refine lv_istore (lv' := [(6, .int ((nI (bits (awB F Q0 t) u)) ||| (nI 0))), (9, .int (nI 0)), (8, .int (lk F u r)), (0, .ref aa), (1, .ref am), (2, .ref aq), (3, .int (nI t)), (4, .int (nI r)), (5, .int (F 4 t)), (7, .int (nI u))]) hx hb dL_waitsFor_141 hl (by decide) rfl (fun ls hl => ?_)
              refine lv_iinc (v := (nI (u + 1))) (lv' := [(7, .int (nI (u + 1))), (6, .int ((nI (bits (awB F Q0 t) u)) ||| (nI 0))), (9, .int (nI 0)), (8, .int (lk F u r)), (0, .ref aa), (1, .ref am), (2, .ref aq), (3, .int (nI t)), (4, .int (nI r)), (5, .int (F 4 t))]) hx hb dL_waitsFor_143 hl (k := 9) rfl (nI_add _ 1) (by decide) rfl (fun ls hl => ?_)
              refine lv_goto (tgt := 38) hx hb dL_waitsFor_146 (by decide) ?_
              rw [show ((nI (bits (awB F Q0 t) u)) ||| (nI 0)) = (nI (bits (awB F Q0 t) (u + 1))) from ((or_z _).trans (bits_f (by rw [h_4]; exact awB_self hJ ht)))] at hl
              exact ih38 (u + 1) (by omega) (by omega) _ _ hP hD hS _ (lv_sub hl [4, 5, 6, 7, 8, 9, 1, 0] rfl)
            · have h_4 := mt (nI_eq (a := u) (b := t) (by omega) (by omega)).mpr h_4
              refine lv_iload hx hb dL_waitsFor_109 (lv_at hl 1 rfl) ?_
              refine lv_iconst (v := (nI 2)) hx hb dL_waitsFor_111 (by decide) ?_
              refine lv_icmp_eq (tgt := 132) hx hb dL_waitsFor_112 (by decide) (fun h_5 => ?_) (fun h_5 => ?_)
              · have h_5 := h_5
                refine lv_iconst (v := (nI 1)) hx hb dL_waitsFor_132 (by decide) ?_
                refine lv_iload hx hb dL_waitsFor_133 (lv_at hl 9 rfl) ?_
                refine lv_ishl hx hb dL_waitsFor_135 ?_
                refine lv_goto (tgt := 140) hx hb dL_waitsFor_136 (by decide) ?_
                refine lv_ior hx hb dL_waitsFor_140 ?_
                refine lv_istore (lv' := [(6, .int ((nI (bits (awB F Q0 t) u)) ||| ((nI 1) <<< ((nI u) &&& 31)))), (9, .int (nI 0)), (8, .int (lk F u r)), (0, .ref aa), (1, .ref am), (2, .ref aq), (3, .int (nI t)), (4, .int (nI r)), (5, .int (F 4 t)), (7, .int (nI u))]) hx hb dL_waitsFor_141 hl (by decide) rfl (fun ls hl => ?_)
                refine lv_iinc (v := (nI (u + 1))) (lv' := [(7, .int (nI (u + 1))), (6, .int ((nI (bits (awB F Q0 t) u)) ||| ((nI 1) <<< ((nI u) &&& 31)))), (9, .int (nI 0)), (8, .int (lk F u r)), (0, .ref aa), (1, .ref am), (2, .ref aq), (3, .int (nI t)), (4, .int (nI r)), (5, .int (F 4 t))]) hx hb dL_waitsFor_143 hl (k := 9) rfl (nI_add _ 1) (by decide) rfl (fun ls hl => ?_)
                refine lv_goto (tgt := 38) hx hb dL_waitsFor_146 (by decide) ?_
                rw [show ((nI (bits (awB F Q0 t) u)) ||| ((nI 1) <<< ((nI u) &&& 31))) = (nI (bits (awB F Q0 t) (u + 1))) from (bits_t (by omega) (by rw [awB_eq n3 hw, show rivB F t r (F 4 t) u = true from riv_t h_4 (Or.inl h_5)]; rfl))] at hl
                exact ih38 (u + 1) (by omega) (by omega) _ _ hP hD hS _ (lv_sub hl [4, 5, 6, 7, 8, 9, 1, 0] rfl)
              · have h_5 := h_5
                refine lv_iload hx hb dL_waitsFor_115 (lv_at hl 1 rfl) ?_
                refine lv_iconst (v := (nI 1)) hx hb dL_waitsFor_117 (by decide) ?_
                refine lv_icmp_ne (tgt := 127) hx hb dL_waitsFor_118 (by decide) (fun h_6 => ?_) (fun h_6 => ?_)
                · have h_6 := h_6
                  refine lv_iload hx hb dL_waitsFor_127 (lv_at hl 0 rfl) ?_
                  refine lv_if_eq (tgt := 139) hx hb dL_waitsFor_129 (by decide) (fun _ => ?_) (fun h => absurd (by decide) h)
                  refine lv_iconst (v := (nI 0)) hx hb dL_waitsFor_139 (by decide) ?_
                  refine lv_ior hx hb dL_waitsFor_140 ?_
                  refine lv_istore (lv' := [(6, .int ((nI (bits (awB F Q0 t) u)) ||| (nI 0))), (9, .int (nI 0)), (8, .int (lk F u r)), (0, .ref aa), (1, .ref am), (2, .ref aq), (3, .int (nI t)), (4, .int (nI r)), (5, .int (F 4 t)), (7, .int (nI u))]) hx hb dL_waitsFor_141 hl (by decide) rfl (fun ls hl => ?_)
                  refine lv_iinc (v := (nI (u + 1))) (lv' := [(7, .int (nI (u + 1))), (6, .int ((nI (bits (awB F Q0 t) u)) ||| (nI 0))), (9, .int (nI 0)), (8, .int (lk F u r)), (0, .ref aa), (1, .ref am), (2, .ref aq), (3, .int (nI t)), (4, .int (nI r)), (5, .int (F 4 t))]) hx hb dL_waitsFor_143 hl (k := 9) rfl (nI_add _ 1) (by decide) rfl (fun ls hl => ?_)
                  refine lv_goto (tgt := 38) hx hb dL_waitsFor_146 (by decide) ?_
                  rw [show ((nI (bits (awB F Q0 t) u)) ||| (nI 0)) = (nI (bits (awB F Q0 t) (u + 1))) from ((or_z _).trans (bits_f (by rw [awB_eq n3 hw, show rivB F t r (F 4 t) u = false from riv_f hJ hm hr (by omega) h_5 (Or.inl h_6), show ahB F Q0 t r u = false from ah_f hm (Or.inl (Nat.not_lt.mpr h_3))]; rfl)))] at hl
                  exact ih38 (u + 1) (by omega) (by omega) _ _ hP hD hS _ (lv_sub hl [4, 5, 6, 7, 8, 9, 1, 0] rfl)
                · have h_6 := h_6
                  refine lv_iload hx hb dL_waitsFor_121 (lv_at hl 7 rfl) ?_
                  refine lv_iconst (v := (nI 2)) hx hb dL_waitsFor_123 (by decide) ?_
                  refine lv_icmp_eq (tgt := 132) hx hb dL_waitsFor_124 (by decide) (fun h_7 => ?_) (fun h_7 => ?_)
                  · have h_7 := h_7
                    refine lv_iconst (v := (nI 1)) hx hb dL_waitsFor_132 (by decide) ?_
                    refine lv_iload hx hb dL_waitsFor_133 (lv_at hl 9 rfl) ?_
                    refine lv_ishl hx hb dL_waitsFor_135 ?_
                    refine lv_goto (tgt := 140) hx hb dL_waitsFor_136 (by decide) ?_
                    refine lv_ior hx hb dL_waitsFor_140 ?_
                    refine lv_istore (lv' := [(6, .int ((nI (bits (awB F Q0 t) u)) ||| ((nI 1) <<< ((nI u) &&& 31)))), (9, .int (nI 0)), (8, .int (lk F u r)), (0, .ref aa), (1, .ref am), (2, .ref aq), (3, .int (nI t)), (4, .int (nI r)), (5, .int (F 4 t)), (7, .int (nI u))]) hx hb dL_waitsFor_141 hl (by decide) rfl (fun ls hl => ?_)
                    refine lv_iinc (v := (nI (u + 1))) (lv' := [(7, .int (nI (u + 1))), (6, .int ((nI (bits (awB F Q0 t) u)) ||| ((nI 1) <<< ((nI u) &&& 31)))), (9, .int (nI 0)), (8, .int (lk F u r)), (0, .ref aa), (1, .ref am), (2, .ref aq), (3, .int (nI t)), (4, .int (nI r)), (5, .int (F 4 t))]) hx hb dL_waitsFor_143 hl (k := 9) rfl (nI_add _ 1) (by decide) rfl (fun ls hl => ?_)
                    refine lv_goto (tgt := 38) hx hb dL_waitsFor_146 (by decide) ?_
                    rw [show ((nI (bits (awB F Q0 t) u)) ||| ((nI 1) <<< ((nI u) &&& 31))) = (nI (bits (awB F Q0 t) (u + 1))) from (bits_t (by omega) (by rw [awB_eq n3 hw, show rivB F t r (F 4 t) u = true from riv_t h_4 (Or.inr ⟨h_6, h_7⟩)]; rfl))] at hl
                    exact ih38 (u + 1) (by omega) (by omega) _ _ hP hD hS _ (lv_sub hl [4, 5, 6, 7, 8, 9, 1, 0] rfl)
                  · have h_7 := h_7
                    refine lv_iload hx hb dL_waitsFor_127 (lv_at hl 0 rfl) ?_
                    refine lv_if_eq (tgt := 139) hx hb dL_waitsFor_129 (by decide) (fun _ => ?_) (fun h => absurd (by decide) h)
                    refine lv_iconst (v := (nI 0)) hx hb dL_waitsFor_139 (by decide) ?_
                    refine lv_ior hx hb dL_waitsFor_140 ?_
                    refine lv_istore (lv' := [(6, .int ((nI (bits (awB F Q0 t) u)) ||| (nI 0))), (9, .int (nI 0)), (8, .int (lk F u r)), (0, .ref aa), (1, .ref am), (2, .ref aq), (3, .int (nI t)), (4, .int (nI r)), (5, .int (F 4 t)), (7, .int (nI u))]) hx hb dL_waitsFor_141 hl (by decide) rfl (fun ls hl => ?_)
                    refine lv_iinc (v := (nI (u + 1))) (lv' := [(7, .int (nI (u + 1))), (6, .int ((nI (bits (awB F Q0 t) u)) ||| (nI 0))), (9, .int (nI 0)), (8, .int (lk F u r)), (0, .ref aa), (1, .ref am), (2, .ref aq), (3, .int (nI t)), (4, .int (nI r)), (5, .int (F 4 t))]) hx hb dL_waitsFor_143 hl (k := 9) rfl (nI_add _ 1) (by decide) rfl (fun ls hl => ?_)
                    refine lv_goto (tgt := 38) hx hb dL_waitsFor_146 (by decide) ?_
                    rw [show ((nI (bits (awB F Q0 t) u)) ||| (nI 0)) = (nI (bits (awB F Q0 t) (u + 1))) from ((or_z _).trans (bits_f (by rw [awB_eq n3 hw, show rivB F t r (F 4 t) u = false from riv_f hJ hm hr (by omega) h_5 (Or.inr h_7), show ahB F Q0 t r u = false from ah_f hm (Or.inl (Nat.not_lt.mpr h_3))]; rfl)))] at hl
                    exact ih38 (u + 1) (by omega) (by omega) _ _ hP hD hS _ (lv_sub hl [4, 5, 6, 7, 8, 9, 1, 0] rfl)
          · have h_3 := mt (nI_leI (a := ((Q0 r).idxOf t)) (b := ((Q0 r).idxOf u)) (by omega) (by omega)).mpr h_3
            refine lv_iload hx hb dL_waitsFor_75 (lv_at hl 6 rfl) ?_
            refine lv_iconst (v := (nI 2)) hx hb dL_waitsFor_77 (by decide) ?_
            refine lv_icmp_eq (tgt := 94) hx hb dL_waitsFor_78 (by decide) (fun h_8 => ?_) (fun h_8 => ?_)
            · have h_8 := h_8
              refine lv_iconst (v := (nI 1)) hx hb dL_waitsFor_94 (by decide) ?_
              refine lv_goto (tgt := 99) hx hb dL_waitsFor_95 (by decide) ?_
              refine lv_istore (lv' := [(9, .int (nI 1)), (8, .int (lk F u r)), (0, .ref aa), (1, .ref am), (2, .ref aq), (3, .int (nI t)), (4, .int (nI r)), (5, .int (F 4 t)), (6, .int (nI (bits (awB F Q0 t) u))), (7, .int (nI u))]) hx hb dL_waitsFor_99 hl (by decide) rfl (fun ls hl => ?_)
              refine lv_iload hx hb dL_waitsFor_101 (lv_at hl 8 rfl) ?_
              refine lv_iload hx hb dL_waitsFor_103 (lv_at hl 9 rfl) ?_
              refine lv_iload_n hx hb dL_waitsFor_105 rfl (lv_at hl 5 rfl) ?_
              refine lv_icmp_eq (tgt := 139) hx hb dL_waitsFor_106 (by decide) (fun h_9 => ?_) (fun h_9 => ?_)
              · have h_9 := (nI_eq (a := u) (b := t) (by omega) (by omega)).mp h_9
                refine lv_iconst (v := (nI 0)) hx hb dL_waitsFor_139 (by decide) ?_
                refine lv_ior hx hb dL_waitsFor_140 ?_
                refine lv_istore (lv' := [(6, .int ((nI (bits (awB F Q0 t) u)) ||| (nI 0))), (9, .int (nI 1)), (8, .int (lk F u r)), (0, .ref aa), (1, .ref am), (2, .ref aq), (3, .int (nI t)), (4, .int (nI r)), (5, .int (F 4 t)), (7, .int (nI u))]) hx hb dL_waitsFor_141 hl (by decide) rfl (fun ls hl => ?_)
                refine lv_iinc (v := (nI (u + 1))) (lv' := [(7, .int (nI (u + 1))), (6, .int ((nI (bits (awB F Q0 t) u)) ||| (nI 0))), (9, .int (nI 1)), (8, .int (lk F u r)), (0, .ref aa), (1, .ref am), (2, .ref aq), (3, .int (nI t)), (4, .int (nI r)), (5, .int (F 4 t))]) hx hb dL_waitsFor_143 hl (k := 9) rfl (nI_add _ 1) (by decide) rfl (fun ls hl => ?_)
                refine lv_goto (tgt := 38) hx hb dL_waitsFor_146 (by decide) ?_
                rw [show ((nI (bits (awB F Q0 t) u)) ||| (nI 0)) = (nI (bits (awB F Q0 t) (u + 1))) from ((or_z _).trans (bits_f (by rw [h_9]; exact awB_self hJ ht)))] at hl
                exact ih38 (u + 1) (by omega) (by omega) _ _ hP hD hS _ (lv_sub hl [4, 5, 6, 7, 8, 9, 1, 0] rfl)
              · have h_9 := mt (nI_eq (a := u) (b := t) (by omega) (by omega)).mpr h_9
                refine lv_iload hx hb dL_waitsFor_109 (lv_at hl 1 rfl) ?_
                refine lv_iconst (v := (nI 2)) hx hb dL_waitsFor_111 (by decide) ?_
                refine lv_icmp_eq (tgt := 132) hx hb dL_waitsFor_112 (by decide) (fun h_10 => ?_) (fun h_10 => ?_)
                · have h_10 := h_10
                  refine lv_iconst (v := (nI 1)) hx hb dL_waitsFor_132 (by decide) ?_
                  refine lv_iload hx hb dL_waitsFor_133 (lv_at hl 9 rfl) ?_
                  refine lv_ishl hx hb dL_waitsFor_135 ?_
                  refine lv_goto (tgt := 140) hx hb dL_waitsFor_136 (by decide) ?_
                  refine lv_ior hx hb dL_waitsFor_140 ?_
                  refine lv_istore (lv' := [(6, .int ((nI (bits (awB F Q0 t) u)) ||| ((nI 1) <<< ((nI u) &&& 31)))), (9, .int (nI 1)), (8, .int (lk F u r)), (0, .ref aa), (1, .ref am), (2, .ref aq), (3, .int (nI t)), (4, .int (nI r)), (5, .int (F 4 t)), (7, .int (nI u))]) hx hb dL_waitsFor_141 hl (by decide) rfl (fun ls hl => ?_)
                  refine lv_iinc (v := (nI (u + 1))) (lv' := [(7, .int (nI (u + 1))), (6, .int ((nI (bits (awB F Q0 t) u)) ||| ((nI 1) <<< ((nI u) &&& 31)))), (9, .int (nI 1)), (8, .int (lk F u r)), (0, .ref aa), (1, .ref am), (2, .ref aq), (3, .int (nI t)), (4, .int (nI r)), (5, .int (F 4 t))]) hx hb dL_waitsFor_143 hl (k := 9) rfl (nI_add _ 1) (by decide) rfl (fun ls hl => ?_)
                  refine lv_goto (tgt := 38) hx hb dL_waitsFor_146 (by decide) ?_
                  rw [show ((nI (bits (awB F Q0 t) u)) ||| ((nI 1) <<< ((nI u) &&& 31))) = (nI (bits (awB F Q0 t) (u + 1))) from (bits_t (by omega) (by rw [awB_eq n3 hw, show rivB F t r (F 4 t) u = true from riv_t h_9 (Or.inl h_10)]; rfl))] at hl
                  exact ih38 (u + 1) (by omega) (by omega) _ _ hP hD hS _ (lv_sub hl [4, 5, 6, 7, 8, 9, 1, 0] rfl)
                · have h_10 := h_10
                  refine lv_iload hx hb dL_waitsFor_115 (lv_at hl 1 rfl) ?_
                  refine lv_iconst (v := (nI 1)) hx hb dL_waitsFor_117 (by decide) ?_
                  refine lv_icmp_ne (tgt := 127) hx hb dL_waitsFor_118 (by decide) (fun h_11 => ?_) (fun h_11 => ?_)
                  · have h_11 := h_11
                    refine lv_iload hx hb dL_waitsFor_127 (lv_at hl 0 rfl) ?_
                    refine lv_if_eq (tgt := 139) hx hb dL_waitsFor_129 (by decide) (fun h => absurd h (by decide)) (fun _ => ?_)
                    refine lv_iconst (v := (nI 1)) hx hb dL_waitsFor_132 (by decide) ?_
                    refine lv_iload hx hb dL_waitsFor_133 (lv_at hl 9 rfl) ?_
                    refine lv_ishl hx hb dL_waitsFor_135 ?_
                    refine lv_goto (tgt := 140) hx hb dL_waitsFor_136 (by decide) ?_
                    refine lv_ior hx hb dL_waitsFor_140 ?_
                    refine lv_istore (lv' := [(6, .int ((nI (bits (awB F Q0 t) u)) ||| ((nI 1) <<< ((nI u) &&& 31)))), (9, .int (nI 1)), (8, .int (lk F u r)), (0, .ref aa), (1, .ref am), (2, .ref aq), (3, .int (nI t)), (4, .int (nI r)), (5, .int (F 4 t)), (7, .int (nI u))]) hx hb dL_waitsFor_141 hl (by decide) rfl (fun ls hl => ?_)
                    refine lv_iinc (v := (nI (u + 1))) (lv' := [(7, .int (nI (u + 1))), (6, .int ((nI (bits (awB F Q0 t) u)) ||| ((nI 1) <<< ((nI u) &&& 31)))), (9, .int (nI 1)), (8, .int (lk F u r)), (0, .ref aa), (1, .ref am), (2, .ref aq), (3, .int (nI t)), (4, .int (nI r)), (5, .int (F 4 t))]) hx hb dL_waitsFor_143 hl (k := 9) rfl (nI_add _ 1) (by decide) rfl (fun ls hl => ?_)
                    refine lv_goto (tgt := 38) hx hb dL_waitsFor_146 (by decide) ?_
                    rw [show ((nI (bits (awB F Q0 t) u)) ||| ((nI 1) <<< ((nI u) &&& 31))) = (nI (bits (awB F Q0 t) (u + 1))) from (bits_t (by omega) (by rw [awB_eq n3 hw, show rivB F t r (F 4 t) u = false from riv_f hJ hm hr (by omega) h_10 (Or.inl h_11), show ahB F Q0 t r u = true from ah_t hm (Nat.not_le.mp h_3) (Or.inl h_8)]; rfl))] at hl
                    exact ih38 (u + 1) (by omega) (by omega) _ _ hP hD hS _ (lv_sub hl [4, 5, 6, 7, 8, 9, 1, 0] rfl)
                  · have h_11 := h_11
                    refine lv_iload hx hb dL_waitsFor_121 (lv_at hl 7 rfl) ?_
                    refine lv_iconst (v := (nI 2)) hx hb dL_waitsFor_123 (by decide) ?_
                    refine lv_icmp_eq (tgt := 132) hx hb dL_waitsFor_124 (by decide) (fun h_12 => ?_) (fun h_12 => ?_)
                    · have h_12 := h_12
                      refine lv_iconst (v := (nI 1)) hx hb dL_waitsFor_132 (by decide) ?_
                      refine lv_iload hx hb dL_waitsFor_133 (lv_at hl 9 rfl) ?_
                      refine lv_ishl hx hb dL_waitsFor_135 ?_
                      refine lv_goto (tgt := 140) hx hb dL_waitsFor_136 (by decide) ?_
                      refine lv_ior hx hb dL_waitsFor_140 ?_
                      refine lv_istore (lv' := [(6, .int ((nI (bits (awB F Q0 t) u)) ||| ((nI 1) <<< ((nI u) &&& 31)))), (9, .int (nI 1)), (8, .int (lk F u r)), (0, .ref aa), (1, .ref am), (2, .ref aq), (3, .int (nI t)), (4, .int (nI r)), (5, .int (F 4 t)), (7, .int (nI u))]) hx hb dL_waitsFor_141 hl (by decide) rfl (fun ls hl => ?_)
                      refine lv_iinc (v := (nI (u + 1))) (lv' := [(7, .int (nI (u + 1))), (6, .int ((nI (bits (awB F Q0 t) u)) ||| ((nI 1) <<< ((nI u) &&& 31)))), (9, .int (nI 1)), (8, .int (lk F u r)), (0, .ref aa), (1, .ref am), (2, .ref aq), (3, .int (nI t)), (4, .int (nI r)), (5, .int (F 4 t))]) hx hb dL_waitsFor_143 hl (k := 9) rfl (nI_add _ 1) (by decide) rfl (fun ls hl => ?_)
                      refine lv_goto (tgt := 38) hx hb dL_waitsFor_146 (by decide) ?_
                      rw [show ((nI (bits (awB F Q0 t) u)) ||| ((nI 1) <<< ((nI u) &&& 31))) = (nI (bits (awB F Q0 t) (u + 1))) from (bits_t (by omega) (by rw [awB_eq n3 hw, show rivB F t r (F 4 t) u = true from riv_t h_9 (Or.inr ⟨h_11, h_12⟩)]; rfl))] at hl
                      exact ih38 (u + 1) (by omega) (by omega) _ _ hP hD hS _ (lv_sub hl [4, 5, 6, 7, 8, 9, 1, 0] rfl)
                    · have h_12 := h_12
                      refine lv_iload hx hb dL_waitsFor_127 (lv_at hl 0 rfl) ?_
                      refine lv_if_eq (tgt := 139) hx hb dL_waitsFor_129 (by decide) (fun h => absurd h (by decide)) (fun _ => ?_)
                      refine lv_iconst (v := (nI 1)) hx hb dL_waitsFor_132 (by decide) ?_
                      refine lv_iload hx hb dL_waitsFor_133 (lv_at hl 9 rfl) ?_
                      refine lv_ishl hx hb dL_waitsFor_135 ?_
                      refine lv_goto (tgt := 140) hx hb dL_waitsFor_136 (by decide) ?_
                      refine lv_ior hx hb dL_waitsFor_140 ?_
                      refine lv_istore (lv' := [(6, .int ((nI (bits (awB F Q0 t) u)) ||| ((nI 1) <<< ((nI u) &&& 31)))), (9, .int (nI 1)), (8, .int (lk F u r)), (0, .ref aa), (1, .ref am), (2, .ref aq), (3, .int (nI t)), (4, .int (nI r)), (5, .int (F 4 t)), (7, .int (nI u))]) hx hb dL_waitsFor_141 hl (by decide) rfl (fun ls hl => ?_)
                      refine lv_iinc (v := (nI (u + 1))) (lv' := [(7, .int (nI (u + 1))), (6, .int ((nI (bits (awB F Q0 t) u)) ||| ((nI 1) <<< ((nI u) &&& 31)))), (9, .int (nI 1)), (8, .int (lk F u r)), (0, .ref aa), (1, .ref am), (2, .ref aq), (3, .int (nI t)), (4, .int (nI r)), (5, .int (F 4 t))]) hx hb dL_waitsFor_143 hl (k := 9) rfl (nI_add _ 1) (by decide) rfl (fun ls hl => ?_)
                      refine lv_goto (tgt := 38) hx hb dL_waitsFor_146 (by decide) ?_
                      rw [show ((nI (bits (awB F Q0 t) u)) ||| ((nI 1) <<< ((nI u) &&& 31))) = (nI (bits (awB F Q0 t) (u + 1))) from (bits_t (by omega) (by rw [awB_eq n3 hw, show rivB F t r (F 4 t) u = false from riv_f hJ hm hr (by omega) h_10 (Or.inr h_12), show ahB F Q0 t r u = true from ah_t hm (Nat.not_le.mp h_3) (Or.inl h_8)]; rfl))] at hl
                      exact ih38 (u + 1) (by omega) (by omega) _ _ hP hD hS _ (lv_sub hl [4, 5, 6, 7, 8, 9, 1, 0] rfl)
            · have h_8 := h_8
              have hmu : u ∈ Q0 r := ix_mem (by have := ix_le (L := Q0 r) (t := t); omega)
              have n3u : ¬ F 3 u = -1 := by rw [(hJ.2.1 r hr u hmu).2]; exact m1_nI (by omega)
              refine lv_aload_n hx hb dL_waitsFor_81 rfl (lv_at hl 1 rfl) ?_
              refine lv_bipush (v := (nI 6)) hx hb dL_waitsFor_82 (by decide) ?_
              refine lv_iload hx hb dL_waitsFor_84 (lv_at hl 8 rfl) ?_
              refine lv_imul hx hb dL_waitsFor_86 ?_
              refine tpe (y := (nI (6 * u))) (pk_mul _ _) ?_
              refine lv_iconst (v := (nI 5)) hx hb dL_waitsFor_87 (by decide) ?_
              refine lv_iadd hx hb dL_waitsFor_88 ?_
              refine tpe (y := (nI (6 * u + 5))) (nI_add _ _) ?_
              refine r_ild (k := (6 * u + 5)) hx hb hK hP 1 rfl (by omega) (by decide) dL_waitsFor_89 ?_
              refine tpe (y := (F 4 u)) ((ZA5 hZ (by omega)).trans (mdZ_w n3u)) ?_
              refine lv_iconst (v := (nI 2)) hx hb dL_waitsFor_90 (by decide) ?_
              refine lv_icmp_ne (tgt := 98) hx hb dL_waitsFor_91 (by decide) (fun h_13 => ?_) (fun h_13 => ?_)
              · have h_13 := h_13
                refine lv_iconst (v := (nI 0)) hx hb dL_waitsFor_98 (by decide) ?_
                refine lv_istore (lv' := [(9, .int (nI 0)), (8, .int (lk F u r)), (0, .ref aa), (1, .ref am), (2, .ref aq), (3, .int (nI t)), (4, .int (nI r)), (5, .int (F 4 t)), (6, .int (nI (bits (awB F Q0 t) u))), (7, .int (nI u))]) hx hb dL_waitsFor_99 hl (by decide) rfl (fun ls hl => ?_)
                refine lv_iload hx hb dL_waitsFor_101 (lv_at hl 8 rfl) ?_
                refine lv_iload hx hb dL_waitsFor_103 (lv_at hl 9 rfl) ?_
                refine lv_iload_n hx hb dL_waitsFor_105 rfl (lv_at hl 5 rfl) ?_
                refine lv_icmp_eq (tgt := 139) hx hb dL_waitsFor_106 (by decide) (fun h_14 => ?_) (fun h_14 => ?_)
                · have h_14 := (nI_eq (a := u) (b := t) (by omega) (by omega)).mp h_14
                  refine lv_iconst (v := (nI 0)) hx hb dL_waitsFor_139 (by decide) ?_
                  refine lv_ior hx hb dL_waitsFor_140 ?_
                  refine lv_istore (lv' := [(6, .int ((nI (bits (awB F Q0 t) u)) ||| (nI 0))), (9, .int (nI 0)), (8, .int (lk F u r)), (0, .ref aa), (1, .ref am), (2, .ref aq), (3, .int (nI t)), (4, .int (nI r)), (5, .int (F 4 t)), (7, .int (nI u))]) hx hb dL_waitsFor_141 hl (by decide) rfl (fun ls hl => ?_)
                  refine lv_iinc (v := (nI (u + 1))) (lv' := [(7, .int (nI (u + 1))), (6, .int ((nI (bits (awB F Q0 t) u)) ||| (nI 0))), (9, .int (nI 0)), (8, .int (lk F u r)), (0, .ref aa), (1, .ref am), (2, .ref aq), (3, .int (nI t)), (4, .int (nI r)), (5, .int (F 4 t))]) hx hb dL_waitsFor_143 hl (k := 9) rfl (nI_add _ 1) (by decide) rfl (fun ls hl => ?_)
                  refine lv_goto (tgt := 38) hx hb dL_waitsFor_146 (by decide) ?_
                  rw [show ((nI (bits (awB F Q0 t) u)) ||| (nI 0)) = (nI (bits (awB F Q0 t) (u + 1))) from ((or_z _).trans (bits_f (by rw [h_14]; exact awB_self hJ ht)))] at hl
                  exact ih38 (u + 1) (by omega) (by omega) _ _ hP hD hS _ (lv_sub hl [4, 5, 6, 7, 8, 9, 1, 0] rfl)
                · have h_14 := mt (nI_eq (a := u) (b := t) (by omega) (by omega)).mpr h_14
                  refine lv_iload hx hb dL_waitsFor_109 (lv_at hl 1 rfl) ?_
                  refine lv_iconst (v := (nI 2)) hx hb dL_waitsFor_111 (by decide) ?_
                  refine lv_icmp_eq (tgt := 132) hx hb dL_waitsFor_112 (by decide) (fun h_15 => ?_) (fun h_15 => ?_)
                  · have h_15 := h_15
                    refine lv_iconst (v := (nI 1)) hx hb dL_waitsFor_132 (by decide) ?_
                    refine lv_iload hx hb dL_waitsFor_133 (lv_at hl 9 rfl) ?_
                    refine lv_ishl hx hb dL_waitsFor_135 ?_
                    refine lv_goto (tgt := 140) hx hb dL_waitsFor_136 (by decide) ?_
                    refine lv_ior hx hb dL_waitsFor_140 ?_
                    refine lv_istore (lv' := [(6, .int ((nI (bits (awB F Q0 t) u)) ||| ((nI 1) <<< ((nI u) &&& 31)))), (9, .int (nI 0)), (8, .int (lk F u r)), (0, .ref aa), (1, .ref am), (2, .ref aq), (3, .int (nI t)), (4, .int (nI r)), (5, .int (F 4 t)), (7, .int (nI u))]) hx hb dL_waitsFor_141 hl (by decide) rfl (fun ls hl => ?_)
                    refine lv_iinc (v := (nI (u + 1))) (lv' := [(7, .int (nI (u + 1))), (6, .int ((nI (bits (awB F Q0 t) u)) ||| ((nI 1) <<< ((nI u) &&& 31)))), (9, .int (nI 0)), (8, .int (lk F u r)), (0, .ref aa), (1, .ref am), (2, .ref aq), (3, .int (nI t)), (4, .int (nI r)), (5, .int (F 4 t))]) hx hb dL_waitsFor_143 hl (k := 9) rfl (nI_add _ 1) (by decide) rfl (fun ls hl => ?_)
                    refine lv_goto (tgt := 38) hx hb dL_waitsFor_146 (by decide) ?_
                    rw [show ((nI (bits (awB F Q0 t) u)) ||| ((nI 1) <<< ((nI u) &&& 31))) = (nI (bits (awB F Q0 t) (u + 1))) from (bits_t (by omega) (by rw [awB_eq n3 hw, show rivB F t r (F 4 t) u = true from riv_t h_14 (Or.inl h_15)]; rfl))] at hl
                    exact ih38 (u + 1) (by omega) (by omega) _ _ hP hD hS _ (lv_sub hl [4, 5, 6, 7, 8, 9, 1, 0] rfl)
                  · have h_15 := h_15
                    refine lv_iload hx hb dL_waitsFor_115 (lv_at hl 1 rfl) ?_
                    refine lv_iconst (v := (nI 1)) hx hb dL_waitsFor_117 (by decide) ?_
                    refine lv_icmp_ne (tgt := 127) hx hb dL_waitsFor_118 (by decide) (fun h_16 => ?_) (fun h_16 => ?_)
                    · have h_16 := h_16
                      refine lv_iload hx hb dL_waitsFor_127 (lv_at hl 0 rfl) ?_
                      refine lv_if_eq (tgt := 139) hx hb dL_waitsFor_129 (by decide) (fun _ => ?_) (fun h => absurd (by decide) h)
                      refine lv_iconst (v := (nI 0)) hx hb dL_waitsFor_139 (by decide) ?_
                      refine lv_ior hx hb dL_waitsFor_140 ?_
                      refine lv_istore (lv' := [(6, .int ((nI (bits (awB F Q0 t) u)) ||| (nI 0))), (9, .int (nI 0)), (8, .int (lk F u r)), (0, .ref aa), (1, .ref am), (2, .ref aq), (3, .int (nI t)), (4, .int (nI r)), (5, .int (F 4 t)), (7, .int (nI u))]) hx hb dL_waitsFor_141 hl (by decide) rfl (fun ls hl => ?_)
                      refine lv_iinc (v := (nI (u + 1))) (lv' := [(7, .int (nI (u + 1))), (6, .int ((nI (bits (awB F Q0 t) u)) ||| (nI 0))), (9, .int (nI 0)), (8, .int (lk F u r)), (0, .ref aa), (1, .ref am), (2, .ref aq), (3, .int (nI t)), (4, .int (nI r)), (5, .int (F 4 t))]) hx hb dL_waitsFor_143 hl (k := 9) rfl (nI_add _ 1) (by decide) rfl (fun ls hl => ?_)
                      refine lv_goto (tgt := 38) hx hb dL_waitsFor_146 (by decide) ?_
                      rw [show ((nI (bits (awB F Q0 t) u)) ||| (nI 0)) = (nI (bits (awB F Q0 t) (u + 1))) from ((or_z _).trans (bits_f (by rw [awB_eq n3 hw, show rivB F t r (F 4 t) u = false from riv_f hJ hm hr (by omega) h_15 (Or.inl h_16), show ahB F Q0 t r u = false from ah_f hm (Or.inr ⟨h_8, h_13⟩)]; rfl)))] at hl
                      exact ih38 (u + 1) (by omega) (by omega) _ _ hP hD hS _ (lv_sub hl [4, 5, 6, 7, 8, 9, 1, 0] rfl)
                    · have h_16 := h_16
                      refine lv_iload hx hb dL_waitsFor_121 (lv_at hl 7 rfl) ?_
                      refine lv_iconst (v := (nI 2)) hx hb dL_waitsFor_123 (by decide) ?_
                      refine lv_icmp_eq (tgt := 132) hx hb dL_waitsFor_124 (by decide) (fun h_17 => ?_) (fun h_17 => ?_)
                      · have h_17 := h_17
                        refine lv_iconst (v := (nI 1)) hx hb dL_waitsFor_132 (by decide) ?_
                        refine lv_iload hx hb dL_waitsFor_133 (lv_at hl 9 rfl) ?_
                        refine lv_ishl hx hb dL_waitsFor_135 ?_
                        refine lv_goto (tgt := 140) hx hb dL_waitsFor_136 (by decide) ?_
                        refine lv_ior hx hb dL_waitsFor_140 ?_
                        refine lv_istore (lv' := [(6, .int ((nI (bits (awB F Q0 t) u)) ||| ((nI 1) <<< ((nI u) &&& 31)))), (9, .int (nI 0)), (8, .int (lk F u r)), (0, .ref aa), (1, .ref am), (2, .ref aq), (3, .int (nI t)), (4, .int (nI r)), (5, .int (F 4 t)), (7, .int (nI u))]) hx hb dL_waitsFor_141 hl (by decide) rfl (fun ls hl => ?_)
                        refine lv_iinc (v := (nI (u + 1))) (lv' := [(7, .int (nI (u + 1))), (6, .int ((nI (bits (awB F Q0 t) u)) ||| ((nI 1) <<< ((nI u) &&& 31)))), (9, .int (nI 0)), (8, .int (lk F u r)), (0, .ref aa), (1, .ref am), (2, .ref aq), (3, .int (nI t)), (4, .int (nI r)), (5, .int (F 4 t))]) hx hb dL_waitsFor_143 hl (k := 9) rfl (nI_add _ 1) (by decide) rfl (fun ls hl => ?_)
                        refine lv_goto (tgt := 38) hx hb dL_waitsFor_146 (by decide) ?_
                        rw [show ((nI (bits (awB F Q0 t) u)) ||| ((nI 1) <<< ((nI u) &&& 31))) = (nI (bits (awB F Q0 t) (u + 1))) from (bits_t (by omega) (by rw [awB_eq n3 hw, show rivB F t r (F 4 t) u = true from riv_t h_14 (Or.inr ⟨h_16, h_17⟩)]; rfl))] at hl
                        exact ih38 (u + 1) (by omega) (by omega) _ _ hP hD hS _ (lv_sub hl [4, 5, 6, 7, 8, 9, 1, 0] rfl)
                      · have h_17 := h_17
                        refine lv_iload hx hb dL_waitsFor_127 (lv_at hl 0 rfl) ?_
                        refine lv_if_eq (tgt := 139) hx hb dL_waitsFor_129 (by decide) (fun _ => ?_) (fun h => absurd (by decide) h)
                        refine lv_iconst (v := (nI 0)) hx hb dL_waitsFor_139 (by decide) ?_
                        refine lv_ior hx hb dL_waitsFor_140 ?_
                        refine lv_istore (lv' := [(6, .int ((nI (bits (awB F Q0 t) u)) ||| (nI 0))), (9, .int (nI 0)), (8, .int (lk F u r)), (0, .ref aa), (1, .ref am), (2, .ref aq), (3, .int (nI t)), (4, .int (nI r)), (5, .int (F 4 t)), (7, .int (nI u))]) hx hb dL_waitsFor_141 hl (by decide) rfl (fun ls hl => ?_)
                        refine lv_iinc (v := (nI (u + 1))) (lv' := [(7, .int (nI (u + 1))), (6, .int ((nI (bits (awB F Q0 t) u)) ||| (nI 0))), (9, .int (nI 0)), (8, .int (lk F u r)), (0, .ref aa), (1, .ref am), (2, .ref aq), (3, .int (nI t)), (4, .int (nI r)), (5, .int (F 4 t))]) hx hb dL_waitsFor_143 hl (k := 9) rfl (nI_add _ 1) (by decide) rfl (fun ls hl => ?_)
                        refine lv_goto (tgt := 38) hx hb dL_waitsFor_146 (by decide) ?_
                        rw [show ((nI (bits (awB F Q0 t) u)) ||| (nI 0)) = (nI (bits (awB F Q0 t) (u + 1))) from ((or_z _).trans (bits_f (by rw [awB_eq n3 hw, show rivB F t r (F 4 t) u = false from riv_f hJ hm hr (by omega) h_15 (Or.inr h_17), show ahB F Q0 t r u = false from ah_f hm (Or.inr ⟨h_8, h_13⟩)]; rfl)))] at hl
                        exact ih38 (u + 1) (by omega) (by omega) _ _ hP hD hS _ (lv_sub hl [4, 5, 6, 7, 8, 9, 1, 0] rfl)
              · have h_13 := h_13
                refine lv_iconst (v := (nI 1)) hx hb dL_waitsFor_94 (by decide) ?_
                refine lv_goto (tgt := 99) hx hb dL_waitsFor_95 (by decide) ?_
                refine lv_istore (lv' := [(9, .int (nI 1)), (8, .int (lk F u r)), (0, .ref aa), (1, .ref am), (2, .ref aq), (3, .int (nI t)), (4, .int (nI r)), (5, .int (F 4 t)), (6, .int (nI (bits (awB F Q0 t) u))), (7, .int (nI u))]) hx hb dL_waitsFor_99 hl (by decide) rfl (fun ls hl => ?_)
                refine lv_iload hx hb dL_waitsFor_101 (lv_at hl 8 rfl) ?_
                refine lv_iload hx hb dL_waitsFor_103 (lv_at hl 9 rfl) ?_
                refine lv_iload_n hx hb dL_waitsFor_105 rfl (lv_at hl 5 rfl) ?_
                refine lv_icmp_eq (tgt := 139) hx hb dL_waitsFor_106 (by decide) (fun h_18 => ?_) (fun h_18 => ?_)
                · have h_18 := (nI_eq (a := u) (b := t) (by omega) (by omega)).mp h_18
                  refine lv_iconst (v := (nI 0)) hx hb dL_waitsFor_139 (by decide) ?_
                  refine lv_ior hx hb dL_waitsFor_140 ?_
                  refine lv_istore (lv' := [(6, .int ((nI (bits (awB F Q0 t) u)) ||| (nI 0))), (9, .int (nI 1)), (8, .int (lk F u r)), (0, .ref aa), (1, .ref am), (2, .ref aq), (3, .int (nI t)), (4, .int (nI r)), (5, .int (F 4 t)), (7, .int (nI u))]) hx hb dL_waitsFor_141 hl (by decide) rfl (fun ls hl => ?_)
                  refine lv_iinc (v := (nI (u + 1))) (lv' := [(7, .int (nI (u + 1))), (6, .int ((nI (bits (awB F Q0 t) u)) ||| (nI 0))), (9, .int (nI 1)), (8, .int (lk F u r)), (0, .ref aa), (1, .ref am), (2, .ref aq), (3, .int (nI t)), (4, .int (nI r)), (5, .int (F 4 t))]) hx hb dL_waitsFor_143 hl (k := 9) rfl (nI_add _ 1) (by decide) rfl (fun ls hl => ?_)
                  refine lv_goto (tgt := 38) hx hb dL_waitsFor_146 (by decide) ?_
                  rw [show ((nI (bits (awB F Q0 t) u)) ||| (nI 0)) = (nI (bits (awB F Q0 t) (u + 1))) from ((or_z _).trans (bits_f (by rw [h_18]; exact awB_self hJ ht)))] at hl
                  exact ih38 (u + 1) (by omega) (by omega) _ _ hP hD hS _ (lv_sub hl [4, 5, 6, 7, 8, 9, 1, 0] rfl)
                · have h_18 := mt (nI_eq (a := u) (b := t) (by omega) (by omega)).mpr h_18
                  refine lv_iload hx hb dL_waitsFor_109 (lv_at hl 1 rfl) ?_
                  refine lv_iconst (v := (nI 2)) hx hb dL_waitsFor_111 (by decide) ?_
                  refine lv_icmp_eq (tgt := 132) hx hb dL_waitsFor_112 (by decide) (fun h_19 => ?_) (fun h_19 => ?_)
                  · have h_19 := h_19
                    refine lv_iconst (v := (nI 1)) hx hb dL_waitsFor_132 (by decide) ?_
                    refine lv_iload hx hb dL_waitsFor_133 (lv_at hl 9 rfl) ?_
                    refine lv_ishl hx hb dL_waitsFor_135 ?_
                    refine lv_goto (tgt := 140) hx hb dL_waitsFor_136 (by decide) ?_
                    refine lv_ior hx hb dL_waitsFor_140 ?_
                    refine lv_istore (lv' := [(6, .int ((nI (bits (awB F Q0 t) u)) ||| ((nI 1) <<< ((nI u) &&& 31)))), (9, .int (nI 1)), (8, .int (lk F u r)), (0, .ref aa), (1, .ref am), (2, .ref aq), (3, .int (nI t)), (4, .int (nI r)), (5, .int (F 4 t)), (7, .int (nI u))]) hx hb dL_waitsFor_141 hl (by decide) rfl (fun ls hl => ?_)
                    refine lv_iinc (v := (nI (u + 1))) (lv' := [(7, .int (nI (u + 1))), (6, .int ((nI (bits (awB F Q0 t) u)) ||| ((nI 1) <<< ((nI u) &&& 31)))), (9, .int (nI 1)), (8, .int (lk F u r)), (0, .ref aa), (1, .ref am), (2, .ref aq), (3, .int (nI t)), (4, .int (nI r)), (5, .int (F 4 t))]) hx hb dL_waitsFor_143 hl (k := 9) rfl (nI_add _ 1) (by decide) rfl (fun ls hl => ?_)
                    refine lv_goto (tgt := 38) hx hb dL_waitsFor_146 (by decide) ?_
                    rw [show ((nI (bits (awB F Q0 t) u)) ||| ((nI 1) <<< ((nI u) &&& 31))) = (nI (bits (awB F Q0 t) (u + 1))) from (bits_t (by omega) (by rw [awB_eq n3 hw, show rivB F t r (F 4 t) u = true from riv_t h_18 (Or.inl h_19)]; rfl))] at hl
                    exact ih38 (u + 1) (by omega) (by omega) _ _ hP hD hS _ (lv_sub hl [4, 5, 6, 7, 8, 9, 1, 0] rfl)
                  · have h_19 := h_19
                    refine lv_iload hx hb dL_waitsFor_115 (lv_at hl 1 rfl) ?_
                    refine lv_iconst (v := (nI 1)) hx hb dL_waitsFor_117 (by decide) ?_
                    refine lv_icmp_ne (tgt := 127) hx hb dL_waitsFor_118 (by decide) (fun h_20 => ?_) (fun h_20 => ?_)
                    · have h_20 := h_20
                      refine lv_iload hx hb dL_waitsFor_127 (lv_at hl 0 rfl) ?_
                      refine lv_if_eq (tgt := 139) hx hb dL_waitsFor_129 (by decide) (fun h => absurd h (by decide)) (fun _ => ?_)
                      refine lv_iconst (v := (nI 1)) hx hb dL_waitsFor_132 (by decide) ?_
                      refine lv_iload hx hb dL_waitsFor_133 (lv_at hl 9 rfl) ?_
                      refine lv_ishl hx hb dL_waitsFor_135 ?_
                      refine lv_goto (tgt := 140) hx hb dL_waitsFor_136 (by decide) ?_
                      refine lv_ior hx hb dL_waitsFor_140 ?_
                      refine lv_istore (lv' := [(6, .int ((nI (bits (awB F Q0 t) u)) ||| ((nI 1) <<< ((nI u) &&& 31)))), (9, .int (nI 1)), (8, .int (lk F u r)), (0, .ref aa), (1, .ref am), (2, .ref aq), (3, .int (nI t)), (4, .int (nI r)), (5, .int (F 4 t)), (7, .int (nI u))]) hx hb dL_waitsFor_141 hl (by decide) rfl (fun ls hl => ?_)
                      refine lv_iinc (v := (nI (u + 1))) (lv' := [(7, .int (nI (u + 1))), (6, .int ((nI (bits (awB F Q0 t) u)) ||| ((nI 1) <<< ((nI u) &&& 31)))), (9, .int (nI 1)), (8, .int (lk F u r)), (0, .ref aa), (1, .ref am), (2, .ref aq), (3, .int (nI t)), (4, .int (nI r)), (5, .int (F 4 t))]) hx hb dL_waitsFor_143 hl (k := 9) rfl (nI_add _ 1) (by decide) rfl (fun ls hl => ?_)
                      refine lv_goto (tgt := 38) hx hb dL_waitsFor_146 (by decide) ?_
                      rw [show ((nI (bits (awB F Q0 t) u)) ||| ((nI 1) <<< ((nI u) &&& 31))) = (nI (bits (awB F Q0 t) (u + 1))) from (bits_t (by omega) (by rw [awB_eq n3 hw, show rivB F t r (F 4 t) u = false from riv_f hJ hm hr (by omega) h_19 (Or.inl h_20), show ahB F Q0 t r u = true from ah_t hm (Nat.not_le.mp h_3) (Or.inr h_13)]; rfl))] at hl
                      exact ih38 (u + 1) (by omega) (by omega) _ _ hP hD hS _ (lv_sub hl [4, 5, 6, 7, 8, 9, 1, 0] rfl)
                    · have h_20 := h_20
                      refine lv_iload hx hb dL_waitsFor_121 (lv_at hl 7 rfl) ?_
                      refine lv_iconst (v := (nI 2)) hx hb dL_waitsFor_123 (by decide) ?_
                      refine lv_icmp_eq (tgt := 132) hx hb dL_waitsFor_124 (by decide) (fun h_21 => ?_) (fun h_21 => ?_)
                      · have h_21 := h_21
                        refine lv_iconst (v := (nI 1)) hx hb dL_waitsFor_132 (by decide) ?_
                        refine lv_iload hx hb dL_waitsFor_133 (lv_at hl 9 rfl) ?_
                        refine lv_ishl hx hb dL_waitsFor_135 ?_
                        refine lv_goto (tgt := 140) hx hb dL_waitsFor_136 (by decide) ?_
                        refine lv_ior hx hb dL_waitsFor_140 ?_
                        refine lv_istore (lv' := [(6, .int ((nI (bits (awB F Q0 t) u)) ||| ((nI 1) <<< ((nI u) &&& 31)))), (9, .int (nI 1)), (8, .int (lk F u r)), (0, .ref aa), (1, .ref am), (2, .ref aq), (3, .int (nI t)), (4, .int (nI r)), (5, .int (F 4 t)), (7, .int (nI u))]) hx hb dL_waitsFor_141 hl (by decide) rfl (fun ls hl => ?_)
                        refine lv_iinc (v := (nI (u + 1))) (lv' := [(7, .int (nI (u + 1))), (6, .int ((nI (bits (awB F Q0 t) u)) ||| ((nI 1) <<< ((nI u) &&& 31)))), (9, .int (nI 1)), (8, .int (lk F u r)), (0, .ref aa), (1, .ref am), (2, .ref aq), (3, .int (nI t)), (4, .int (nI r)), (5, .int (F 4 t))]) hx hb dL_waitsFor_143 hl (k := 9) rfl (nI_add _ 1) (by decide) rfl (fun ls hl => ?_)
                        refine lv_goto (tgt := 38) hx hb dL_waitsFor_146 (by decide) ?_
                        rw [show ((nI (bits (awB F Q0 t) u)) ||| ((nI 1) <<< ((nI u) &&& 31))) = (nI (bits (awB F Q0 t) (u + 1))) from (bits_t (by omega) (by rw [awB_eq n3 hw, show rivB F t r (F 4 t) u = true from riv_t h_18 (Or.inr ⟨h_20, h_21⟩)]; rfl))] at hl
                        exact ih38 (u + 1) (by omega) (by omega) _ _ hP hD hS _ (lv_sub hl [4, 5, 6, 7, 8, 9, 1, 0] rfl)
                      · have h_21 := h_21
                        refine lv_iload hx hb dL_waitsFor_127 (lv_at hl 0 rfl) ?_
                        refine lv_if_eq (tgt := 139) hx hb dL_waitsFor_129 (by decide) (fun h => absurd h (by decide)) (fun _ => ?_)
                        refine lv_iconst (v := (nI 1)) hx hb dL_waitsFor_132 (by decide) ?_
                        refine lv_iload hx hb dL_waitsFor_133 (lv_at hl 9 rfl) ?_
                        refine lv_ishl hx hb dL_waitsFor_135 ?_
                        refine lv_goto (tgt := 140) hx hb dL_waitsFor_136 (by decide) ?_
                        refine lv_ior hx hb dL_waitsFor_140 ?_
                        refine lv_istore (lv' := [(6, .int ((nI (bits (awB F Q0 t) u)) ||| ((nI 1) <<< ((nI u) &&& 31)))), (9, .int (nI 1)), (8, .int (lk F u r)), (0, .ref aa), (1, .ref am), (2, .ref aq), (3, .int (nI t)), (4, .int (nI r)), (5, .int (F 4 t)), (7, .int (nI u))]) hx hb dL_waitsFor_141 hl (by decide) rfl (fun ls hl => ?_)
                        refine lv_iinc (v := (nI (u + 1))) (lv' := [(7, .int (nI (u + 1))), (6, .int ((nI (bits (awB F Q0 t) u)) ||| ((nI 1) <<< ((nI u) &&& 31)))), (9, .int (nI 1)), (8, .int (lk F u r)), (0, .ref aa), (1, .ref am), (2, .ref aq), (3, .int (nI t)), (4, .int (nI r)), (5, .int (F 4 t))]) hx hb dL_waitsFor_143 hl (k := 9) rfl (nI_add _ 1) (by decide) rfl (fun ls hl => ?_)
                        refine lv_goto (tgt := 38) hx hb dL_waitsFor_146 (by decide) ?_
                        rw [show ((nI (bits (awB F Q0 t) u)) ||| ((nI 1) <<< ((nI u) &&& 31))) = (nI (bits (awB F Q0 t) (u + 1))) from (bits_t (by omega) (by rw [awB_eq n3 hw, show rivB F t r (F 4 t) u = false from riv_f hJ hm hr (by omega) h_19 (Or.inr h_21), show ahB F Q0 t r u = true from ah_t hm (Nat.not_le.mp h_3) (Or.inr h_13)]; rfl))] at hl
                        exact ih38 (u + 1) (by omega) (by omega) _ _ hP hD hS _ (lv_sub hl [4, 5, 6, 7, 8, 9, 1, 0] rfl)
    rw [show (nI 0) = (nI (bits (awB F Q0 t) 0)) from rfl] at hl
    exact L38 _ 0 (Nat.zero_le _) (Nat.lt_succ_self _) _ _ hP hD hS _ (lv_sub hl [4, 5, 6, 7, 3, 2, 1, 0] rfl)
  · have h_1 := h_1
    refine lv_iconst (v := (nI 0)) hx hb dL_waitsFor_10 (by decide) ?_
    exact ret_i (u := ()) hQ hx hb hrt hlk hS dL_waitsFor_11 hP (by rw [aw_none (Decidable.byContradiction (fun q => h_1 ((st_w hJ ht).mpr q)))])
