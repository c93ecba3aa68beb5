/-! the law: how far, the victim -/
theorem un_t {F : FF} {Q : QQ} {S u : Nat} (h : S.testBit u = true) : nI (unN F Q S u) ||| nI (aWS F Q u) = nI (unN F Q S (u + 1)) := by rw [or_nI, unN, if_pos h]
theorem un_f {F : FF} {Q : QQ} {S u : Nat} (h : ¬ S.testBit u = true) : nI (unN F Q S u) ||| nI 0 = nI (unN F Q S (u + 1)) := by rw [or_nI, Nat.or_zero, unN, if_neg h]
theorem bitN_0 {S i : Nat} : bitN S i = 0 ↔ ¬ S.testBit i = true := by
  unfold bitN; split <;> simp_all
theorem VW_lf {F : FF} {Q : QQ} {t i R a lf : Nat} (h : VW F Q t i R a lf) : lf ≤ 100 := by
  rcases h.2.2 with q | ⟨_, _, _, q | q⟩ <;> omega
theorem vic_R {F : FF} {Q : QQ} {t R : Nat} (h : R = SRn F Q t) : vic F Q t = cvB F R 8 := by rw [h]; rfl
theorem bs_y {F : FF} {S u : Nat} {al : Bool} (h1 : S.testBit u = true) (h2 : (al || !spB F u) = true) (h3 : bsN F S al u = 8 ∨ betB F u (bsN F S al u) = true) : bsN F S al (u + 1) = u := by rw [bsN, if_pos ⟨h1, h2, h3⟩]
theorem bs_n {F : FF} {S u : Nat} {al : Bool} (h : ¬ (S.testBit u = true ∧ (al || !spB F u) = true ∧ (bsN F S al u = 8 ∨ betB F u (bsN F S al u) = true))) : bsN F S al (u + 1) = bsN F S al u := by rw [bsN, if_neg h]
theorem sp_n {F : FF} {u pt : Nat} (h : F 2 u ≤ nI 1) : (decide (¬ pt = 0) || !spB F u) = true := by
  have : F 2 u < nI 2 := Int32.lt_of_le_of_lt h (by decide)
  rw [spB, decide_eq_true this]; simp
theorem sp_y {F : FF} {u pt : Nat} (h0 : pt = 0) (h : ¬ F 2 u ≤ nI 1) : ¬ (decide (¬ pt = 0) || !spB F u) = true := by
  have : ¬ F 2 u < nI 2 := fun q => h (by
    rw [Int32.lt_iff_toInt_lt, nI_toInt (by decide)] at q
    rw [Int32.le_iff_toInt_le, nI_toInt (by decide)]
    omega)
  rw [spB, decide_eq_false this, h0]; decide
theorem sp_a {F : FF} {u pt : Nat} (h : ¬ pt = 0) : (decide (¬ pt = 0) || !spB F u) = true := by rw [decide_eq_true h]; rfl
theorem bet_1 {F : FF} {x y : Nat} (h : F 1 x < F 1 y) : betB F x y = true := by rw [betB, decide_eq_true h]; rfl
theorem bet_2 {F : FF} {x y : Nat} (h : F 1 x = F 1 y) (h2 : ¬ F 0 x ≤ F 0 y) : betB F x y = true := by rw [betB, h, decide_eq_true (lt_of_nle h2)]; simp
theorem bet_f1 {F : FF} {x y : Nat} (h : ¬ F 1 x < F 1 y) (h2 : ¬ F 1 x = F 1 y) : ¬ betB F x y = true := by rw [betB, decide_eq_false h, bq_f h2]; simp
theorem bet_f2 {F : FF} {x y : Nat} (h : ¬ F 1 x < F 1 y) (h2 : F 0 x ≤ F 0 y) : ¬ betB F x y = true := by rw [betB, decide_eq_false h, decide_eq_false (le_not h2)]; simp
theorem bs_end {F : FF} {R pt b : Nat} (h : (pt = 0 ∧ b = 8) ∨ (pt = 1 ∧ b = bsN F R false 8) ∨ (pt = 2 ∧ b = cvB F R 8)) (hx : 2 ≤ pt ∨ ¬ b = 8) : b = cvB F R 8 := by
  rcases h with q | q | q
  · omega
  · have h1 : ¬ bsN F R false 8 = 8 := by rw [← q.2]; exact hx.resolve_left (by omega)
    rw [cv_bs (Nat.le_refl 8), if_neg h1, q.2]
  · exact q.2
theorem bs_next {F : FF} {R pt b : Nat} (h : (pt = 0 ∧ b = 8) ∨ (pt = 1 ∧ b = bsN F R false 8) ∨ (pt = 2 ∧ b = cvB F R 8)) (hb : b = 8) (hp : pt < 2) : (pt + 1 = 0 ∧ bsN F R (decide (¬ pt = 0)) 8 = 8) ∨ (pt + 1 = 1 ∧ bsN F R (decide (¬ pt = 0)) 8 = bsN F R false 8) ∨ (pt + 1 = 2 ∧ bsN F R (decide (¬ pt = 0)) 8 = cvB F R 8) := by
  rcases h with q | q | q
  · refine Or.inr (Or.inl ⟨by omega, ?_⟩)
    rw [decide_eq_false (show ¬ ¬ pt = 0 from fun z => z q.1)]
  · refine Or.inr (Or.inr ⟨by omega, ?_⟩)
    rw [decide_eq_true (show ¬ pt = 0 by omega), cv_bs (Nat.le_refl 8), if_pos (q.2.symm.trans hb)]
  · omega
theorem bs_b {F : FF} {R pt b : Nat} (h : (pt = 0 ∧ b = 8) ∨ (pt = 1 ∧ b = bsN F R false 8) ∨ (pt = 2 ∧ b = cvB F R 8)) : b ≤ 8 := by
  rcases h with q | q | q
  · omega
  · rw [q.2]; exact bs_le (Nat.le_refl _)
  · rw [q.2]; exact cvB_le _ _ (Nat.le_refl _)
theorem iinc_s {c : Nat} : nI c + Int32.ofInt (-1) = nI c - nI 1 := by
  rw [show Int32.ofInt (-1) = -nI 1 from by decide, Int32.sub_eq_add_neg]

abbrev rL_far : Room := { frames := 3, cells := 0, slots := 0, locals := 76 }
set_option maxHeartbeats 1000000 in
set_option maxRecDepth 100000 in
theorem c_L_far (l : Launch) (D : va_G) (cI cT cL : ClassId) (am aa aq : Nat) (fm : Nat → Int32) (fa : Nat → Int32) (fq : Nat → Int64) (F : FF) (Q0 : QQ) (f9 t9 : Nat) (hf : f9 < 8) (ht : t9 < 8) (hJ : JJ F Q0) (hM : MM F fm) (hZ : ZA F fa) (hQL : QL Q0 fq) : CL l D cI cT cL yL_far wsL_far rL_far [.ref aa, .ref am, .ref aq, .int (nI f9), .int (nI t9)] ([(am, .inl (cI, 10, .inl fm)), (aa, .inl (cI, 48, .inl fa)), (aq, .inl (cL, 10, .inr (.inl fq)))]) (S := Unit) (fun v _ => v = nI (farN F Q0 f9 t9)) (fun _ => [(am, .inl (cI, 10, .inl fm)), (aa, .inl (cI, 48, .inl fa)), (aq, .inl (cL, 10, .inr (.inl fq)))]) := by
  refine CL.of (cc := cL_far) (maxL := 9) (ret := (some .int)) (by decide) rfl (Nat.le_of_ble_eq_true rfl) ?_
  intro p e s m args below meth c A Q hQ B hA H locs hP hKL hD hS ls hl
  have hK : va_K D vwCl (TY cI cT) s := hKL.sub (tys' := TY cI cT) [0, 1] rfl
  obtain ⟨hx, hb, hml, hrt, hts, hown, hlk⟩ := B
  have hl : lv_has ls 9 [(0, .ref aa), (1, .ref am), (2, .ref aq), (3, .int (nI f9)), (4, .int (nI t9))] := hl
  refine lv_iconst (v := (nI 1)) hx hb dL_far_0 (by decide) ?_
  refine lv_iload_n hx hb dL_far_1 rfl (lv_at hl 3 rfl) ?_
  refine lv_ishl hx hb dL_far_2 ?_
  refine lv_istore (lv' := [(5, .int ((nI 1) <<< ((nI f9) &&& 31))), (0, .ref aa), (1, .ref am), (2, .ref aq), (3, .int (nI f9)), (4, .int (nI t9))]) hx hb dL_far_3 hl (by decide) rfl (fun ls hl => ?_)
  refine lv_iconst (v := (nI 0)) hx hb dL_far_5 (by decide) ?_
  refine lv_istore (lv' := [(6, .int (nI 0)), (5, .int ((nI 1) <<< ((nI f9) &&& 31))), (0, .ref aa), (1, .ref am), (2, .ref aq), (3, .int (nI f9)), (4, .int (nI t9))]) hx hb dL_far_6 hl (by decide) rfl (fun ls hl => ?_)
  have L8 : ∀ (N : Nat) (n : Nat), (n ≤ 8) → (∀ k, k < n → ¬ (wkS F Q0 f9 k).testBit t9 = true) → (8 - n) < N → ∀ (H : Heap) (locs : List Loc), va_P D vwCl ([(am, .inl (cI, 10, .inl fm)), (aa, .inl (cI, 48, .inl fa)), (aq, .inl (cL, 10, .inr (.inl fq)))]) H → va_D A ([(am, .inl (cI, 10, .inl fm)), (aa, .inl (cI, 48, .inl fa)), (aq, .inl (cL, 10, .inr (.inl fq)))]) → va_S A s.heap H locs → ∀ ls : Array Slot, lv_has ls 9 [(0, .ref aa), (1, .ref am), (2, .ref aq), (3, .int (nI f9)), (4, .int (nI t9)), (5, .int (nI (wkS F Q0 f9 n))), (6, .int (nI n))] → W p l e rL_far s m args below meth c H locs 0 0 Q (F0 m 8 ls []) := by
    intro N8
    induction N8 with
    | zero => intro n hn hb9 hN; exact absurd hN (Nat.not_lt_zero _)
    | succ N8 ih8 =>
      intro n hn hb9 hN H locs hP hD hS ls hl
      have hS8 := wkS_lt (F := F) (Q := Q0) hf n
      have hS31 : wkS F Q0 f9 n < 2 ^ 31 := by omega
      refine lv_iload hx hb dL_far_8 (lv_at hl 6 rfl) ?_
      refine lv_bipush (v := (nI 8)) hx hb dL_far_10 (by decide) ?_
      refine lv_icmp_ge (tgt := 86) hx hb dL_far_12 (by decide) (fun h_1 => ?_) (fun h_1 => ?_)
      · have h_1 := (nI_leI (a := 8) (b := n) (by decide) (by omega)).mp h_1
        refine lv_bipush (v := (nI 99)) hx hb dL_far_86 (by decide) ?_
        exact ret_i (u := ()) hQ hx hb hrt hlk hS dL_far_88 hP (congrArg nI (far_miss hf (fun k hk => hb9 k (by omega))).symm)
      · have h_1 := mt (nI_leI (a := 8) (b := n) (by decide) (by omega)).mpr h_1
        refine lv_iload hx hb dL_far_15 (lv_at hl 5 rfl) ?_
        refine lv_iload hx hb dL_far_17 (lv_at hl 4 rfl) ?_
        refine lv_ishr hx hb dL_far_19 ?_
        refine lv_iconst (v := (nI 1)) hx hb dL_far_20 (by decide) ?_
        refine lv_iand hx hb dL_far_21 ?_
        refine tpe (y := (nI (bitN (wkS F Q0 f9 n) t9))) (tb_I hS31 ht) ?_
        refine lv_iconst (v := (nI 1)) hx hb dL_far_22 (by decide) ?_
        refine lv_icmp_ne (tgt := 29) hx hb dL_far_23 (by decide) (fun h_2 => ?_) (fun h_2 => ?_)
        · have h_2 := mt (nI_eq (a := (bitN (wkS F Q0 f9 n) t9)) (b := 1) (bitN_lt _ _) (by decide)).mpr h_2
          refine lv_iconst (v := (nI 0)) hx hb dL_far_29 (by decide) ?_
          refine lv_istore (lv' := [(7, .int (nI 0)), (0, .ref aa), (1, .ref am), (2, .ref aq), (3, .int (nI f9)), (4, .int (nI t9)), (5, .int (nI (wkS F Q0 f9 n))), (6, .int (nI n))]) hx hb dL_far_30 hl (by decide) rfl (fun ls hl => ?_)
          refine lv_iconst (v := (nI 0)) hx hb dL_far_32 (by decide) ?_
          refine lv_istore (lv' := [(8, .int (nI 0)), (7, .int (nI 0)), (0, .ref aa), (1, .ref am), (2, .ref aq), (3, .int (nI f9)), (4, .int (nI t9)), (5, .int (nI (wkS F Q0 f9 n))), (6, .int (nI n))]) hx hb dL_far_33 hl (by decide) rfl (fun ls hl => ?_)
          have L35 : ∀ (N : Nat) (u : Nat), (u ≤ 8) → (8 - u) < N → ∀ (H : Heap) (locs : List Loc), va_P D vwCl ([(am, .inl (cI, 10, .inl fm)), (aa, .inl (cI, 48, .inl fa)), (aq, .inl (cL, 10, .inr (.inl fq)))]) H → va_D A ([(am, .inl (cI, 10, .inl fm)), (aa, .inl (cI, 48, .inl fa)), (aq, .inl (cL, 10, .inr (.inl fq)))]) → va_S A s.heap H locs → ∀ ls : Array Slot, lv_has ls 9 [(0, .ref aa), (1, .ref am), (2, .ref aq), (3, .int (nI f9)), (4, .int (nI t9)), (5, .int (nI (wkS F Q0 f9 n))), (6, .int (nI n)), (7, .int (nI (unN F Q0 (wkS F Q0 f9 n) u))), (8, .int (nI u))] → W p l e rL_far s m args below meth c H locs 0 0 Q (F0 m 35 ls []) := by
            intro N35
            induction N35 with
            | zero => intro u hu hN; exact absurd hN (Nat.not_lt_zero _)
            | succ N35 ih35 =>
              intro u hu hN H locs hP hD hS ls hl
              refine lv_iload hx hb dL_far_35 (lv_at hl 8 rfl) ?_
              refine lv_bipush (v := (nI 8)) hx hb dL_far_37 (by decide) ?_
              refine lv_icmp_ge (tgt := 76) hx hb dL_far_39 (by decide) (fun h_3 => ?_) (fun h_3 => ?_)
              · have h_3 := (nI_leI (a := 8) (b := u) (by decide) (by omega)).mp h_3
                refine lv_iload hx hb dL_far_76 (lv_at hl 7 rfl) ?_
                refine lv_istore (lv' := [(5, .int (nI (unN F Q0 (wkS F Q0 f9 n) u))), (0, .ref aa), (1, .ref am), (2, .ref aq), (3, .int (nI f9)), (4, .int (nI t9)), (6, .int (nI n)), (7, .int (nI (unN F Q0 (wkS F Q0 f9 n) u))), (8, .int (nI u))]) hx hb dL_far_78 hl (by decide) rfl (fun ls hl => ?_)
                refine lv_iinc (v := (nI (n + 1))) (lv' := [(6, .int (nI (n + 1))), (5, .int (nI (unN F Q0 (wkS F Q0 f9 n) u))), (0, .ref aa), (1, .ref am), (2, .ref aq), (3, .int (nI f9)), (4, .int (nI t9)), (7, .int (nI (unN F Q0 (wkS F Q0 f9 n) u))), (8, .int (nI u))]) hx hb dL_far_80 hl (k := 6) rfl (nI_add _ 1) (by decide) rfl (fun ls hl => ?_)
                refine lv_goto (tgt := 8) hx hb dL_far_83 (by decide) ?_
                rw [show (nI (unN F Q0 (wkS F Q0 f9 n) u)) = (nI (wkS F Q0 f9 (n + 1))) from (by rw [show u = 8 by omega]; rfl)] at hl
                exact ih8 (n + 1) (by omega) (fun k hk => if e : k = n then by rw [e]; exact fun q => h_2 (bitN_1.mpr q) else hb9 k (by omega)) (by omega) _ _ hP hD hS _ (lv_sub hl [2, 3, 4, 5, 6, 1, 0] rfl)
              · have h_3 := mt (nI_leI (a := 8) (b := u) (by decide) (by omega)).mpr h_3
                refine lv_iload hx hb dL_far_42 (lv_at hl 7 rfl) ?_
                refine lv_iload hx hb dL_far_44 (lv_at hl 5 rfl) ?_
                refine lv_iload hx hb dL_far_46 (lv_at hl 8 rfl) ?_
                refine lv_ishr hx hb dL_far_48 ?_
                refine lv_iconst (v := (nI 1)) hx hb dL_far_49 (by decide) ?_
                refine lv_iand hx hb dL_far_50 ?_
                refine tpe (y := (nI (bitN (wkS F Q0 f9 n) u))) (tb_I hS31 (by omega)) ?_
                refine lv_iconst (v := (nI 1)) hx hb dL_far_51 (by decide) ?_
                refine lv_icmp_ne (tgt := 66) hx hb dL_far_52 (by decide) (fun h_4 => ?_) (fun h_4 => ?_)
                · have h_4 := mt (nI_eq (a := (bitN (wkS F Q0 f9 n) u)) (b := 1) (bitN_lt _ _) (by decide)).mpr h_4
                  refine lv_iconst (v := (nI 0)) hx hb dL_far_66 (by decide) ?_
                  refine lv_ior hx hb dL_far_67 ?_
                  refine lv_istore (lv' := [(7, .int ((nI (unN F Q0 (wkS F Q0 f9 n) u)) ||| (nI 0))), (0, .ref aa), (1, .ref am), (2, .ref aq), (3, .int (nI f9)), (4, .int (nI t9)), (5, .int (nI (wkS F Q0 f9 n))), (6, .int (nI n)), (8, .int (nI u))]) hx hb dL_far_68 hl (by decide) rfl (fun ls hl => ?_)
                  refine lv_iinc (v := (nI (u + 1))) (lv' := [(8, .int (nI (u + 1))), (7, .int ((nI (unN F Q0 (wkS F Q0 f9 n) u)) ||| (nI 0))), (0, .ref aa), (1, .ref am), (2, .ref aq), (3, .int (nI f9)), (4, .int (nI t9)), (5, .int (nI (wkS F Q0 f9 n))), (6, .int (nI n))]) hx hb dL_far_70 hl (k := 8) rfl (nI_add _ 1) (by decide) rfl (fun ls hl => ?_)
                  refine lv_goto (tgt := 35) hx hb dL_far_73 (by decide) ?_
                  rw [show ((nI (unN F Q0 (wkS F Q0 f9 n) u)) ||| (nI 0)) = (nI (unN F Q0 (wkS F Q0 f9 n) (u + 1))) from (un_f (fun q => h_4 (bitN_1.mpr q)))] at hl
                  exact ih35 (u + 1) (by omega) (by omega) _ _ hP hD hS _ (lv_sub hl [2, 3, 4, 5, 6, 7, 8, 1, 0] rfl)
                · have h_4 := (nI_eq (a := (bitN (wkS F Q0 f9 n) u)) (b := 1) (bitN_lt _ _) (by decide)).mp h_4
                  refine lv_aload_n hx hb dL_far_55 rfl (lv_at hl 0 rfl) ?_
                  refine lv_aload_n hx hb dL_far_56 rfl (lv_at hl 1 rfl) ?_
                  refine lv_aload_n hx hb dL_far_57 rfl (lv_at hl 2 rfl) ?_
                  refine lv_iload hx hb dL_far_58 (lv_at hl 8 rfl) ?_
                  refine call_l (X := []) (Wc := [(am, .inl (cI, 10, .inl fm)), (aa, .inl (cI, 48, .inl fa)), (aq, .inl (cL, 10, .inr (.inl fq)))]) (Z := []) (As := [.ref aa, .ref am, .ref aq, .int (nI u)]) (rest := [.int (nI (unN F Q0 (wkS F Q0 f9 n) u))]) ⟨hx, hb, hml, hown, hts⟩ (c_L_waitsFor l D cI cT cL am aa aq fm fa fq F Q0 u (by omega) hJ hM hZ hQL) (va_cwS 4 hts gL_far_L_waitsFor rfl rfl rfl (by decide +kernel) ⟨Nat.le_of_ble_eq_true rfl, Nat.le_of_ble_eq_true rfl⟩) hKL hP hD hS hA (fun _ => adw3) rfl hl.1 rfl (Nat.le_of_ble_eq_true rfl) ⟨by decide, by decide⟩ dL_far_60 (fun rv uu H locs hp hP hD hS => ?_)
                  obtain rfl := hp
                  have hP : va_P D vwCl ([(am, .inl (cI, 10, .inl fm)), (aa, .inl (cI, 48, .inl fa)), (aq, .inl (cL, 10, .inr (.inl fq)))]) H := hP
                  have hD : va_D A ([(am, .inl (cI, 10, .inl fm)), (aa, .inl (cI, 48, .inl fa)), (aq, .inl (cL, 10, .inr (.inl fq)))]) := hD
                  refine lv_goto (tgt := 67) hx hb dL_far_63 (by decide) ?_
                  refine lv_ior hx hb dL_far_67 ?_
                  refine lv_istore (lv' := [(7, .int ((nI (unN F Q0 (wkS F Q0 f9 n) u)) ||| (nI (aWS F Q0 u)))), (0, .ref aa), (1, .ref am), (2, .ref aq), (3, .int (nI f9)), (4, .int (nI t9)), (5, .int (nI (wkS F Q0 f9 n))), (6, .int (nI n)), (8, .int (nI u))]) hx hb dL_far_68 hl (by decide) rfl (fun ls hl => ?_)
                  refine lv_iinc (v := (nI (u + 1))) (lv' := [(8, .int (nI (u + 1))), (7, .int ((nI (unN F Q0 (wkS F Q0 f9 n) u)) ||| (nI (aWS F Q0 u)))), (0, .ref aa), (1, .ref am), (2, .ref aq), (3, .int (nI f9)), (4, .int (nI t9)), (5, .int (nI (wkS F Q0 f9 n))), (6, .int (nI n))]) hx hb dL_far_70 hl (k := 8) rfl (nI_add _ 1) (by decide) rfl (fun ls hl => ?_)
                  refine lv_goto (tgt := 35) hx hb dL_far_73 (by decide) ?_
                  rw [show ((nI (unN F Q0 (wkS F Q0 f9 n) u)) ||| (nI (aWS F Q0 u))) = (nI (unN F Q0 (wkS F Q0 f9 n) (u + 1))) from (un_t (bitN_1.mp h_4))] at hl
                  exact ih35 (u + 1) (by omega) (by omega) _ _ hP hD hS _ (lv_sub hl [2, 3, 4, 5, 6, 7, 8, 1, 0] rfl)
          rw [show (nI 0) = (nI (unN F Q0 (wkS F Q0 f9 n) 0)) from rfl] at hl
          exact L35 _ 0 (Nat.zero_le _) (Nat.lt_succ_self _) _ _ hP hD hS _ (lv_sub hl [2, 3, 4, 5, 6, 7, 8, 1, 0] rfl)
        · have h_2 := (nI_eq (a := (bitN (wkS F Q0 f9 n) t9)) (b := 1) (bitN_lt _ _) (by decide)).mp h_2
          refine lv_iload hx hb dL_far_26 (lv_at hl 6 rfl) ?_
          exact ret_i (u := ()) hQ hx hb hrt hlk hS dL_far_28 hP (congrArg nI (far_hit (by omega) hf (bitN_1.mp h_2) hb9).symm)
  rw [show ((nI 1) <<< ((nI f9) &&& 31)) = (nI (wkS F Q0 f9 0)) from (sh_nI hf)] at hl
  exact L8 _ 0 (Nat.zero_le _) (fun k hk => absurd hk (Nat.not_lt_zero _)) (Nat.lt_succ_self _) _ _ hP hD hS _ (lv_sub hl [2, 3, 4, 5, 6, 1, 0] rfl)

abbrev rL_victim : Room := { frames := 4, cells := 0, slots := 0, locals := 104 }
set_option maxHeartbeats 8000000 in
set_option maxRecDepth 100000 in
theorem c_L_victim (l : Launch) (D : va_G) (cI cT cL : ClassId) (am aa aq : Nat) (fm : Nat → Int32) (fa : Nat → Int32) (fq : Nat → Int64) (F : FF) (Q0 : QQ) (t : Nat) (ht : t < 8) (hJ : JJ F Q0) (hM : MM F fm) (hZ : ZA F fa) (hQL : QL Q0 fq) : CL l D cI cT cL yL_victim wsL_victim rL_victim [.ref aa, .ref am, .ref aq, .int (nI t)] ([(am, .inl (cI, 10, .inl fm)), (aa, .inl (cI, 48, .inl fa)), (aq, .inl (cL, 10, .inr (.inl fq)))]) (S := Unit) (fun v _ => v = bI (vic F Q0 t)) (fun _ => [(am, .inl (cI, 10, .inl fm)), (aa, .inl (cI, 48, .inl fa)), (aq, .inl (cL, 10, .inr (.inl fq)))]) := by
  refine CL.of (cc := cL_victim) (maxL := 10) (ret := (some .int)) (by decide) rfl (Nat.le_of_ble_eq_true rfl) ?_
  intro p e s m args below meth c A Q hQ B hA H locs hP hKL hD hS ls hl
  have hK : va_K D vwCl (TY cI cT) s := hKL.sub (tys' := TY cI cT) [0, 1] rfl
  obtain ⟨hx, hb, hml, hrt, hts, hown, hlk⟩ := B
  have hl : lv_has ls 10 [(0, .ref aa), (1, .ref am), (2, .ref aq), (3, .int (nI t))] := hl
  refine lv_iconst (v := (nI 0)) hx hb dL_victim_0 (by decide) ?_
  refine lv_istore (lv' := [(4, .int (nI 0)), (0, .ref aa), (1, .ref am), (2, .ref aq), (3, .int (nI t))]) hx hb dL_victim_1 hl (by decide) rfl (fun ls hl => ?_)
  refine lv_iload_n hx hb dL_victim_3 rfl (lv_at hl 4 rfl) ?_
  refine lv_istore (lv' := [(5, .int (nI t)), (4, .int (nI 0)), (0, .ref aa), (1, .ref am), (2, .ref aq), (3, .int (nI t))]) hx hb dL_victim_4 hl (by decide) rfl (fun ls hl => ?_)
  refine lv_bipush (v := (nI 100)) hx hb dL_victim_6 (by decide) ?_
  refine lv_istore (lv' := [(6, .int (nI 100)), (5, .int (nI t)), (4, .int (nI 0)), (0, .ref aa), (1, .ref am), (2, .ref aq), (3, .int (nI t))]) hx hb dL_victim_8 hl (by decide) rfl (fun ls hl => ?_)
  have L10 : ∀ (N : Nat) (i : Nat) (R : Nat) (a9 : Nat) (lf : Nat), (VW F Q0 t i R a9 lf) → (lf) < N → ∀ (H : Heap) (locs : List Loc), va_P D vwCl ([(am, .inl (cI, 10, .inl fm)), (aa, .inl (cI, 48, .inl fa)), (aq, .inl (cL, 10, .inr (.inl fq)))]) H → va_D A ([(am, .inl (cI, 10, .inl fm)), (aa, .inl (cI, 48, .inl fa)), (aq, .inl (cL, 10, .inr (.inl fq)))]) → va_S A s.heap H locs → ∀ ls : Array Slot, lv_has ls 10 [(0, .ref aa), (1, .ref am), (2, .ref aq), (3, .int (nI t)), (4, .int (nI R)), (5, .int (nI a9)), (6, .int (nI lf))] → W p l e rL_victim s m args below meth c H locs 0 0 Q (F0 m 10 ls []) := by
    intro N10
    induction N10 with
    | zero => intro i R a9 lf hV hN; exact absurd hN (Nat.not_lt_zero _)
    | succ N10 ih10 =>
      intro i R a9 lf hV hN H locs hP hD hS ls hl
      have hlf9 := VW_lf hV
      have ha9 : a9 < 8 := hV.1
      have hR8 : R < 2 ^ 8 := hV.2.1
      have hR31 : R < 2 ^ 31 := by omega
      have hW31 : aWS F Q0 a9 < 2 ^ 31 := Nat.lt_trans (aWS_lt _ _ _) (by decide)
      refine lv_iload hx hb dL_victim_10 (lv_at hl 6 rfl) ?_
      refine lv_if_le (tgt := 131) hx hb dL_victim_12 (by decide) (fun h_1 => ?_) (fun h_1 => ?_)
      · have h_1 := (nI_leI (a := lf) (b := 0) (by omega) (by decide)).mp h_1
        have hR : R = SRn F Q0 t := VW_e hV (by omega)
        refine lv_iconst (v := (-1)) hx hb dL_victim_131 (by decide) ?_
        refine lv_istore (lv' := [(7, .int (-1)), (0, .ref aa), (1, .ref am), (2, .ref aq), (3, .int (nI t)), (4, .int (nI R)), (5, .int (nI a9)), (6, .int (nI lf))]) hx hb dL_victim_132 hl (by decide) rfl (fun ls hl => ?_)
        refine lv_iconst (v := (nI 0)) hx hb dL_victim_134 (by decide) ?_
        refine lv_istore (lv' := [(8, .int (nI 0)), (7, .int (-1)), (0, .ref aa), (1, .ref am), (2, .ref aq), (3, .int (nI t)), (4, .int (nI R)), (5, .int (nI a9)), (6, .int (nI lf))]) hx hb dL_victim_135 hl (by decide) rfl (fun ls hl => ?_)
        have L137 : ∀ (N : Nat) (pt : Nat) (b9 : Nat), ((pt = 0 ∧ b9 = 8) ∨ (pt = 1 ∧ b9 = bsN F R false 8) ∨ (pt = 2 ∧ b9 = cvB F R 8)) → (2 - pt) < N → ∀ (H : Heap) (locs : List Loc), va_P D vwCl ([(am, .inl (cI, 10, .inl fm)), (aa, .inl (cI, 48, .inl fa)), (aq, .inl (cL, 10, .inr (.inl fq)))]) H → va_D A ([(am, .inl (cI, 10, .inl fm)), (aa, .inl (cI, 48, .inl fa)), (aq, .inl (cL, 10, .inr (.inl fq)))]) → va_S A s.heap H locs → ∀ ls : Array Slot, lv_has ls 10 [(0, .ref aa), (1, .ref am), (2, .ref aq), (3, .int (nI t)), (4, .int (nI R)), (7, .int (bI b9)), (8, .int (nI pt))] → W p l e rL_victim s m args below meth c H locs 0 0 Q (F0 m 137 ls []) := by
          intro N137
          induction N137 with
          | zero => intro pt b9 hpt hN; exact absurd hN (Nat.not_lt_zero _)
          | succ N137 ih137 =>
            intro pt b9 hpt hN H locs hP hD hS ls hl
            have hb9 := bs_b hpt
            have hpt2 : pt ≤ 2 := by rcases hpt with q | q | q <;> omega
            refine lv_iload hx hb dL_victim_137 (lv_at hl 6 rfl) ?_
            refine lv_iconst (v := (nI 2)) hx hb dL_victim_139 (by decide) ?_
            refine lv_icmp_ge (tgt := 278) hx hb dL_victim_140 (by decide) (fun h_2 => ?_) (fun h_2 => ?_)
            · have h_2 := (nI_leI (a := 2) (b := pt) (by decide) (by omega)).mp h_2
              refine lv_iload hx hb dL_victim_278 (lv_at hl 5 rfl) ?_
              exact ret_i (u := ()) hQ hx hb hrt hlk hS dL_victim_280 hP (by rw [vic_R hR]; exact congrArg bI (bs_end hpt (Or.inl (by omega))))
            · have h_2 := mt (nI_leI (a := 2) (b := pt) (by decide) (by omega)).mpr h_2
              refine lv_iload hx hb dL_victim_143 (lv_at hl 5 rfl) ?_
              refine lv_if_ge (tgt := 278) hx hb dL_victim_145 (by decide) (fun h_3 => ?_) (fun h_3 => ?_)
              · have h_3 := h_3
                refine lv_iload hx hb dL_victim_278 (lv_at hl 5 rfl) ?_
                exact ret_i (u := ()) hQ hx hb hrt hlk hS dL_victim_280 hP (by rw [vic_R hR]; exact congrArg bI (bs_end hpt (Or.inr ((bI_nn hb9).mp h_3))))
              · have h_3 := h_3
                have hb8 : b9 = 8 := Decidable.byContradiction (fun z => h_3 ((bI_nn hb9).mpr z))
                have hp2 : pt < 2 := by omega
                refine lv_iconst (v := (nI 0)) hx hb dL_victim_148 (by decide) ?_
                refine lv_istore (lv' := [(9, .int (nI 0)), (0, .ref aa), (1, .ref am), (2, .ref aq), (3, .int (nI t)), (4, .int (nI R)), (7, .int (bI b9)), (8, .int (nI pt))]) hx hb dL_victim_149 hl (by decide) rfl (fun ls hl => ?_)
                have L151 : ∀ (N : Nat) (u : Nat), (u ≤ 8) → (8 - u) < N → ∀ (H : Heap) (locs : List Loc), va_P D vwCl ([(am, .inl (cI, 10, .inl fm)), (aa, .inl (cI, 48, .inl fa)), (aq, .inl (cL, 10, .inr (.inl fq)))]) H → va_D A ([(am, .inl (cI, 10, .inl fm)), (aa, .inl (cI, 48, .inl fa)), (aq, .inl (cL, 10, .inr (.inl fq)))]) → va_S A s.heap H locs → ∀ ls : Array Slot, lv_has ls 10 [(0, .ref aa), (1, .ref am), (2, .ref aq), (3, .int (nI t)), (4, .int (nI R)), (7, .int (bI (bsN F R (decide (¬ pt = 0)) u))), (8, .int (nI pt)), (9, .int (nI u))] → W p l e rL_victim s m args below meth c H locs 0 0 Q (F0 m 151 ls []) := by
                  intro N151
                  induction N151 with
                  | zero => intro u hu hN; exact absurd hN (Nat.not_lt_zero _)
                  | succ N151 ih151 =>
                    intro u hu hN H locs hP hD hS ls hl
                    refine lv_iload hx hb dL_victim_151 (lv_at hl 7 rfl) ?_
                    refine lv_bipush (v := (nI 8)) hx hb dL_victim_153 (by decide) ?_
                    refine lv_icmp_ge (tgt := 272) hx hb dL_victim_155 (by decide) (fun h_4 => ?_) (fun h_4 => ?_)
                    · have h_4 := (nI_leI (a := 8) (b := u) (by decide) (by omega)).mp h_4
                      refine lv_iinc (v := (nI (pt + 1))) (lv' := [(8, .int (nI (pt + 1))), (0, .ref aa), (1, .ref am), (2, .ref aq), (3, .int (nI t)), (4, .int (nI R)), (7, .int (bI (bsN F R (decide (¬ pt = 0)) u))), (9, .int (nI u))]) hx hb dL_victim_272 hl (k := 6) rfl (nI_add _ 1) (by decide) rfl (fun ls hl => ?_)
                      refine lv_goto (tgt := 137) hx hb dL_victim_275 (by decide) ?_
                      rw [show (bI (bsN F R (decide (¬ pt = 0)) u)) = (bI (bsN F R (decide (¬ pt = 0)) 8)) from (by rw [show u = 8 by omega])] at hl
                      exact ih137 (pt + 1) (bsN F R (decide (¬ pt = 0)) 8) (bs_next hpt hb8 hp2) (by omega) _ _ hP hD hS _ (lv_sub hl [1, 2, 3, 4, 5, 6, 0] rfl)
                    · have h_4 := mt (nI_leI (a := 8) (b := u) (by decide) (by omega)).mpr h_4
                      refine lv_iload hx hb dL_victim_158 (lv_at hl 4 rfl) ?_
                      refine lv_iload hx hb dL_victim_160 (lv_at hl 7 rfl) ?_
                      refine lv_ishr hx hb dL_victim_162 ?_
                      refine lv_iconst (v := (nI 1)) hx hb dL_victim_163 (by decide) ?_
                      refine lv_iand hx hb dL_victim_164 ?_
                      refine tpe (y := (nI (bitN R u))) (tb_I hR31 (by omega)) ?_
                      refine lv_if_eq (tgt := 266) hx hb dL_victim_165 (by decide) (fun h_5 => ?_) (fun h_5 => ?_)
                      · have h_5 := (nI_eq (a := (bitN R u)) (b := 0) (bitN_lt _ _) (by decide)).mp h_5
                        refine lv_iinc (v := (nI (u + 1))) (lv' := [(9, .int (nI (u + 1))), (0, .ref aa), (1, .ref am), (2, .ref aq), (3, .int (nI t)), (4, .int (nI R)), (7, .int (bI (bsN F R (decide (¬ pt = 0)) u))), (8, .int (nI pt))]) hx hb dL_victim_266 hl (k := 7) rfl (nI_add _ 1) (by decide) rfl (fun ls hl => ?_)
                        refine lv_goto (tgt := 151) hx hb dL_victim_269 (by decide) ?_
                        rw [show (bI (bsN F R (decide (¬ pt = 0)) u)) = (bI (bsN F R (decide (¬ pt = 0)) (u + 1))) from (congrArg bI (bs_n (fun q => (bitN_0.mp h_5) q.1)).symm)] at hl
                        exact ih151 (u + 1) (by omega) (by omega) _ _ hP hD hS _ (lv_sub hl [1, 2, 3, 4, 5, 6, 7, 0] rfl)
                      · have h_5 := mt (nI_eq (a := (bitN R u)) (b := 0) (bitN_lt _ _) (by decide)).mpr h_5
                        refine lv_iload hx hb dL_victim_168 (lv_at hl 6 rfl) ?_
                        refine lv_if_ne (tgt := 189) hx hb dL_victim_170 (by decide) (fun h_6 => ?_) (fun h_6 => ?_)
                        · have h_6 := mt (nI_eq (a := pt) (b := 0) (by omega) (by decide)).mpr h_6
                          refine lv_iload hx hb dL_victim_189 (lv_at hl 5 rfl) ?_
                          refine lv_if_lt (tgt := 257) hx hb dL_victim_191 (by decide) (fun h_7 => ?_) (fun h_7 => ?_)
                          · have h_7 := h_7
                            refine lv_iload hx hb dL_victim_257 (lv_at hl 7 rfl) ?_
                            refine lv_goto (tgt := 264) hx hb dL_victim_259 (by decide) ?_
                            refine lv_istore (lv' := [(7, .int (nI u)), (0, .ref aa), (1, .ref am), (2, .ref aq), (3, .int (nI t)), (4, .int (nI R)), (8, .int (nI pt)), (9, .int (nI u))]) hx hb dL_victim_264 hl (by decide) rfl (fun ls hl => ?_)
                            refine lv_iinc (v := (nI (u + 1))) (lv' := [(9, .int (nI (u + 1))), (7, .int (nI u)), (0, .ref aa), (1, .ref am), (2, .ref aq), (3, .int (nI t)), (4, .int (nI R)), (8, .int (nI pt))]) hx hb dL_victim_266 hl (k := 7) rfl (nI_add _ 1) (by decide) rfl (fun ls hl => ?_)
                            refine lv_goto (tgt := 151) hx hb dL_victim_269 (by decide) ?_
                            rw [show (nI u) = (bI (bsN F R (decide (¬ pt = 0)) (u + 1))) from (by rw [bs_y (Decidable.byContradiction (fun q => h_5 (bitN_0.mpr q))) (sp_a h_6) (Or.inl ((bI_neg (bs_le (by omega))).mp h_7))]; exact (bI_some (by omega)).symm)] at hl
                            exact ih151 (u + 1) (by omega) (by omega) _ _ hP hD hS _ (lv_sub hl [2, 3, 4, 5, 6, 1, 7, 0] rfl)
                          · have h_7 := h_7
                            have hx8 : ¬ bsN F R (decide (¬ pt = 0)) u = 8 := fun q => h_7 ((bI_neg (bs_le (by omega))).mpr q)
                            have hxl : bsN F R (decide (¬ pt = 0)) u < 8 := by have := bs_le (F := F) (S := R) (al := (decide (¬ pt = 0))) (n := u) (by omega); omega
                            rw [bI_some hx8] at hl
                            obtain ⟨b8, eb⟩ : ∃ b, b = bsN F R (decide (¬ pt = 0)) u := ⟨_, rfl⟩
                            rw [← eb] at hl hx8 hxl
                            refine lv_aload_n hx hb dL_victim_194 rfl (lv_at hl 0 rfl) ?_
                            refine lv_bipush (v := (nI 6)) hx hb dL_victim_195 (by decide) ?_
                            refine lv_iload hx hb dL_victim_197 (lv_at hl 7 rfl) ?_
                            refine lv_imul hx hb dL_victim_199 ?_
                            refine tpe (y := (nI (6 * u))) (pk_mul _ _) ?_
                            refine lv_iconst (v := (nI 1)) hx hb dL_victim_200 (by decide) ?_
                            refine lv_iadd hx hb dL_victim_201 ?_
                            refine tpe (y := (nI (6 * u + 1))) (nI_add _ _) ?_
                            refine r_ild (k := (6 * u + 1)) hx hb hK hP 1 rfl (by omega) (by decide) dL_victim_202 ?_
                            refine tpe (y := (F 1 u)) (ZA1 hZ (by omega)) ?_
                            refine lv_aload_n hx hb dL_victim_203 rfl (lv_at hl 0 rfl) ?_
                            refine lv_bipush (v := (nI 6)) hx hb dL_victim_204 (by decide) ?_
                            refine lv_iload hx hb dL_victim_206 (lv_at hl 5 rfl) ?_
                            refine lv_imul hx hb dL_victim_208 ?_
                            refine tpe (y := (nI (6 * b8))) (pk_mul _ _) ?_
                            refine lv_iconst (v := (nI 1)) hx hb dL_victim_209 (by decide) ?_
                            refine lv_iadd hx hb dL_victim_210 ?_
                            refine tpe (y := (nI (6 * b8 + 1))) (nI_add _ _) ?_
                            refine r_ild (k := (6 * b8 + 1)) hx hb hK hP 1 rfl (by omega) (by decide) dL_victim_211 ?_
                            refine tpe (y := (F 1 b8)) (ZA1 hZ (by omega)) ?_
                            refine lv_icmp_lt (tgt := 257) hx hb dL_victim_212 (by decide) (fun h_8 => ?_) (fun h_8 => ?_)
                            · have h_8 := h_8
                              refine lv_iload hx hb dL_victim_257 (lv_at hl 7 rfl) ?_
                              refine lv_goto (tgt := 264) hx hb dL_victim_259 (by decide) ?_
                              refine lv_istore (lv' := [(7, .int (nI u)), (0, .ref aa), (1, .ref am), (2, .ref aq), (3, .int (nI t)), (4, .int (nI R)), (8, .int (nI pt)), (9, .int (nI u))]) hx hb dL_victim_264 hl (by decide) rfl (fun ls hl => ?_)
                              refine lv_iinc (v := (nI (u + 1))) (lv' := [(9, .int (nI (u + 1))), (7, .int (nI u)), (0, .ref aa), (1, .ref am), (2, .ref aq), (3, .int (nI t)), (4, .int (nI R)), (8, .int (nI pt))]) hx hb dL_victim_266 hl (k := 7) rfl (nI_add _ 1) (by decide) rfl (fun ls hl => ?_)
                              refine lv_goto (tgt := 151) hx hb dL_victim_269 (by decide) ?_
                              rw [show (nI u) = (bI (bsN F R (decide (¬ pt = 0)) (u + 1))) from (by rw [bs_y (Decidable.byContradiction (fun q => h_5 (bitN_0.mpr q))) (sp_a h_6) (Or.inr (by rw [← eb]; exact bet_1 h_8))]; exact (bI_some (by omega)).symm)] at hl
                              exact ih151 (u + 1) (by omega) (by omega) _ _ hP hD hS _ (lv_sub hl [2, 3, 4, 5, 6, 1, 7, 0] rfl)
                            · have h_8 := h_8
                              refine lv_aload_n hx hb dL_victim_215 rfl (lv_at hl 0 rfl) ?_
                              refine lv_bipush (v := (nI 6)) hx hb dL_victim_216 (by decide) ?_
                              refine lv_iload hx hb dL_victim_218 (lv_at hl 7 rfl) ?_
                              refine lv_imul hx hb dL_victim_220 ?_
                              refine tpe (y := (nI (6 * u))) (pk_mul _ _) ?_
                              refine lv_iconst (v := (nI 1)) hx hb dL_victim_221 (by decide) ?_
                              refine lv_iadd hx hb dL_victim_222 ?_
                              refine tpe (y := (nI (6 * u + 1))) (nI_add _ _) ?_
                              refine r_ild (k := (6 * u + 1)) hx hb hK hP 1 rfl (by omega) (by decide) dL_victim_223 ?_
                              refine tpe (y := (F 1 u)) (ZA1 hZ (by omega)) ?_
                              refine lv_aload_n hx hb dL_victim_224 rfl (lv_at hl 0 rfl) ?_
                              refine lv_bipush (v := (nI 6)) hx hb dL_victim_225 (by decide) ?_
                              refine lv_iload hx hb dL_victim_227 (lv_at hl 5 rfl) ?_
                              refine lv_imul hx hb dL_victim_229 ?_
                              refine tpe (y := (nI (6 * b8))) (pk_mul _ _) ?_
                              refine lv_iconst (v := (nI 1)) hx hb dL_victim_230 (by decide) ?_
                              refine lv_iadd hx hb dL_victim_231 ?_
                              refine tpe (y := (nI (6 * b8 + 1))) (nI_add _ _) ?_
                              refine r_ild (k := (6 * b8 + 1)) hx hb hK hP 1 rfl (by omega) (by decide) dL_victim_232 ?_
                              refine tpe (y := (F 1 b8)) (ZA1 hZ (by omega)) ?_
                              refine lv_icmp_ne (tgt := 262) hx hb dL_victim_233 (by decide) (fun h_9 => ?_) (fun h_9 => ?_)
                              · have h_9 := h_9
                                refine lv_iload hx hb dL_victim_262 (lv_at hl 5 rfl) ?_
                                refine lv_istore (lv' := [(7, .int (nI b8)), (0, .ref aa), (1, .ref am), (2, .ref aq), (3, .int (nI t)), (4, .int (nI R)), (8, .int (nI pt)), (9, .int (nI u))]) hx hb dL_victim_264 hl (by decide) rfl (fun ls hl => ?_)
                                refine lv_iinc (v := (nI (u + 1))) (lv' := [(9, .int (nI (u + 1))), (7, .int (nI b8)), (0, .ref aa), (1, .ref am), (2, .ref aq), (3, .int (nI t)), (4, .int (nI R)), (8, .int (nI pt))]) hx hb dL_victim_266 hl (k := 7) rfl (nI_add _ 1) (by decide) rfl (fun ls hl => ?_)
                                refine lv_goto (tgt := 151) hx hb dL_victim_269 (by decide) ?_
                                rw [show (nI b8) = (bI (bsN F R (decide (¬ pt = 0)) (u + 1))) from (by rw [bs_n (fun q => q.2.2.elim (fun z => hx8 (eb.trans z)) (fun z => (bet_f1 h_8 h_9) (by rw [eb]; exact z))), ← eb]; exact (bI_some hx8).symm)] at hl
                                exact ih151 (u + 1) (by omega) (by omega) _ _ hP hD hS _ (lv_sub hl [2, 3, 4, 5, 6, 1, 7, 0] rfl)
                              · have h_9 := h_9
                                refine lv_aload_n hx hb dL_victim_236 rfl (lv_at hl 0 rfl) ?_
                                refine lv_bipush (v := (nI 6)) hx hb dL_victim_237 (by decide) ?_
                                refine lv_iload hx hb dL_victim_239 (lv_at hl 7 rfl) ?_
                                refine lv_imul hx hb dL_victim_241 ?_
                                refine tpe (y := (nI (6 * u))) (pk_mul _ _) ?_
                                refine lv_iconst (v := (nI 3)) hx hb dL_victim_242 (by decide) ?_
                                refine lv_iadd hx hb dL_victim_243 ?_
                                refine tpe (y := (nI (6 * u + 3))) (nI_add _ _) ?_
                                refine r_ild (k := (6 * u + 3)) hx hb hK hP 1 rfl (by omega) (by decide) dL_victim_244 ?_
                                refine tpe (y := (F 0 u)) (ZA3 hZ (by omega)) ?_
                                refine lv_aload_n hx hb dL_victim_245 rfl (lv_at hl 0 rfl) ?_
                                refine lv_bipush (v := (nI 6)) hx hb dL_victim_246 (by decide) ?_
                                refine lv_iload hx hb dL_victim_248 (lv_at hl 5 rfl) ?_
                                refine lv_imul hx hb dL_victim_250 ?_
                                refine tpe (y := (nI (6 * b8))) (pk_mul _ _) ?_
                                refine lv_iconst (v := (nI 3)) hx hb dL_victim_251 (by decide) ?_
                                refine lv_iadd hx hb dL_victim_252 ?_
                                refine tpe (y := (nI (6 * b8 + 3))) (nI_add _ _) ?_
                                refine r_ild (k := (6 * b8 + 3)) hx hb hK hP 1 rfl (by omega) (by decide) dL_victim_253 ?_
                                refine tpe (y := (F 0 b8)) (ZA3 hZ (by omega)) ?_
                                refine lv_icmp_le (tgt := 262) hx hb dL_victim_254 (by decide) (fun h_10 => ?_) (fun h_10 => ?_)
                                · have h_10 := h_10
                                  refine lv_iload hx hb dL_victim_262 (lv_at hl 5 rfl) ?_
                                  refine lv_istore (lv' := [(7, .int (nI b8)), (0, .ref aa), (1, .ref am), (2, .ref aq), (3, .int (nI t)), (4, .int (nI R)), (8, .int (nI pt)), (9, .int (nI u))]) hx hb dL_victim_264 hl (by decide) rfl (fun ls hl => ?_)
                                  refine lv_iinc (v := (nI (u + 1))) (lv' := [(9, .int (nI (u + 1))), (7, .int (nI b8)), (0, .ref aa), (1, .ref am), (2, .ref aq), (3, .int (nI t)), (4, .int (nI R)), (8, .int (nI pt))]) hx hb dL_victim_266 hl (k := 7) rfl (nI_add _ 1) (by decide) rfl (fun ls hl => ?_)
                                  refine lv_goto (tgt := 151) hx hb dL_victim_269 (by decide) ?_
                                  rw [show (nI b8) = (bI (bsN F R (decide (¬ pt = 0)) (u + 1))) from (by rw [bs_n (fun q => q.2.2.elim (fun z => hx8 (eb.trans z)) (fun z => (bet_f2 h_8 h_10) (by rw [eb]; exact z))), ← eb]; exact (bI_some hx8).symm)] at hl
                                  exact ih151 (u + 1) (by omega) (by omega) _ _ hP hD hS _ (lv_sub hl [2, 3, 4, 5, 6, 1, 7, 0] rfl)
                                · have h_10 := h_10
                                  refine lv_iload hx hb dL_victim_257 (lv_at hl 7 rfl) ?_
                                  refine lv_goto (tgt := 264) hx hb dL_victim_259 (by decide) ?_
                                  refine lv_istore (lv' := [(7, .int (nI u)), (0, .ref aa), (1, .ref am), (2, .ref aq), (3, .int (nI t)), (4, .int (nI R)), (8, .int (nI pt)), (9, .int (nI u))]) hx hb dL_victim_264 hl (by decide) rfl (fun ls hl => ?_)
                                  refine lv_iinc (v := (nI (u + 1))) (lv' := [(9, .int (nI (u + 1))), (7, .int (nI u)), (0, .ref aa), (1, .ref am), (2, .ref aq), (3, .int (nI t)), (4, .int (nI R)), (8, .int (nI pt))]) hx hb dL_victim_266 hl (k := 7) rfl (nI_add _ 1) (by decide) rfl (fun ls hl => ?_)
                                  refine lv_goto (tgt := 151) hx hb dL_victim_269 (by decide) ?_
                                  rw [show (nI u) = (bI (bsN F R (decide (¬ pt = 0)) (u + 1))) from (by rw [bs_y (Decidable.byContradiction (fun q => h_5 (bitN_0.mpr q))) (sp_a h_6) (Or.inr (by rw [← eb]; exact bet_2 h_9 h_10))]; exact (bI_some (by omega)).symm)] at hl
                                  exact ih151 (u + 1) (by omega) (by omega) _ _ hP hD hS _ (lv_sub hl [2, 3, 4, 5, 6, 1, 7, 0] rfl)
                        · have h_6 := (nI_eq (a := pt) (b := 0) (by omega) (by decide)).mp h_6
                          refine lv_aload_n hx hb dL_victim_173 rfl (lv_at hl 0 rfl) ?_
                          refine lv_bipush (v := (nI 6)) hx hb dL_victim_174 (by decide) ?_
                          refine lv_iload hx hb dL_victim_176 (lv_at hl 7 rfl) ?_
                          refine lv_imul hx hb dL_victim_178 ?_
                          refine tpe (y := (nI (6 * u))) (pk_mul _ _) ?_
                          refine lv_iconst (v := (nI 2)) hx hb dL_victim_179 (by decide) ?_
                          refine lv_iadd hx hb dL_victim_180 ?_
                          refine tpe (y := (nI (6 * u + 2))) (nI_add _ _) ?_
                          refine r_ild (k := (6 * u + 2)) hx hb hK hP 1 rfl (by omega) (by decide) dL_victim_181 ?_
                          refine tpe (y := (F 2 u)) (ZA2 hZ (by omega)) ?_
                          refine lv_iconst (v := (nI 1)) hx hb dL_victim_182 (by decide) ?_
                          refine lv_icmp_le (tgt := 189) hx hb dL_victim_183 (by decide) (fun h_11 => ?_) (fun h_11 => ?_)
                          · have h_11 := h_11
                            refine lv_iload hx hb dL_victim_189 (lv_at hl 5 rfl) ?_
                            refine lv_if_lt (tgt := 257) hx hb dL_victim_191 (by decide) (fun h_12 => ?_) (fun h_12 => ?_)
                            · have h_12 := h_12
                              refine lv_iload hx hb dL_victim_257 (lv_at hl 7 rfl) ?_
                              refine lv_goto (tgt := 264) hx hb dL_victim_259 (by decide) ?_
                              refine lv_istore (lv' := [(7, .int (nI u)), (0, .ref aa), (1, .ref am), (2, .ref aq), (3, .int (nI t)), (4, .int (nI R)), (8, .int (nI pt)), (9, .int (nI u))]) hx hb dL_victim_264 hl (by decide) rfl (fun ls hl => ?_)
                              refine lv_iinc (v := (nI (u + 1))) (lv' := [(9, .int (nI (u + 1))), (7, .int (nI u)), (0, .ref aa), (1, .ref am), (2, .ref aq), (3, .int (nI t)), (4, .int (nI R)), (8, .int (nI pt))]) hx hb dL_victim_266 hl (k := 7) rfl (nI_add _ 1) (by decide) rfl (fun ls hl => ?_)
                              refine lv_goto (tgt := 151) hx hb dL_victim_269 (by decide) ?_
                              rw [show (nI u) = (bI (bsN F R (decide (¬ pt = 0)) (u + 1))) from (by rw [bs_y (Decidable.byContradiction (fun q => h_5 (bitN_0.mpr q))) (sp_n h_11) (Or.inl ((bI_neg (bs_le (by omega))).mp h_12))]; exact (bI_some (by omega)).symm)] at hl
                              exact ih151 (u + 1) (by omega) (by omega) _ _ hP hD hS _ (lv_sub hl [2, 3, 4, 5, 6, 1, 7, 0] rfl)
                            · have h_12 := h_12
                              have hx8 : ¬ bsN F R (decide (¬ pt = 0)) u = 8 := fun q => h_12 ((bI_neg (bs_le (by omega))).mpr q)
                              have hxl : bsN F R (decide (¬ pt = 0)) u < 8 := by have := bs_le (F := F) (S := R) (al := (decide (¬ pt = 0))) (n := u) (by omega); omega
                              rw [bI_some hx8] at hl
                              obtain ⟨b8, eb⟩ : ∃ b, b = bsN F R (decide (¬ pt = 0)) u := ⟨_, rfl⟩
                              rw [← eb] at hl hx8 hxl
                              refine lv_aload_n hx hb dL_victim_194 rfl (lv_at hl 0 rfl) ?_
                              refine lv_bipush (v := (nI 6)) hx hb dL_victim_195 (by decide) ?_
                              refine lv_iload hx hb dL_victim_197 (lv_at hl 7 rfl) ?_
                              refine lv_imul hx hb dL_victim_199 ?_
                              refine tpe (y := (nI (6 * u))) (pk_mul _ _) ?_
                              refine lv_iconst (v := (nI 1)) hx hb dL_victim_200 (by decide) ?_
                              refine lv_iadd hx hb dL_victim_201 ?_
                              refine tpe (y := (nI (6 * u + 1))) (nI_add _ _) ?_
                              refine r_ild (k := (6 * u + 1)) hx hb hK hP 1 rfl (by omega) (by decide) dL_victim_202 ?_
                              refine tpe (y := (F 1 u)) (ZA1 hZ (by omega)) ?_
                              refine lv_aload_n hx hb dL_victim_203 rfl (lv_at hl 0 rfl) ?_
                              refine lv_bipush (v := (nI 6)) hx hb dL_victim_204 (by decide) ?_
                              refine lv_iload hx hb dL_victim_206 (lv_at hl 5 rfl) ?_
                              refine lv_imul hx hb dL_victim_208 ?_
                              refine tpe (y := (nI (6 * b8))) (pk_mul _ _) ?_
                              refine lv_iconst (v := (nI 1)) hx hb dL_victim_209 (by decide) ?_
                              refine lv_iadd hx hb dL_victim_210 ?_
                              refine tpe (y := (nI (6 * b8 + 1))) (nI_add _ _) ?_
                              refine r_ild (k := (6 * b8 + 1)) hx hb hK hP 1 rfl (by omega) (by decide) dL_victim_211 ?_
                              refine tpe (y := (F 1 b8)) (ZA1 hZ (by omega)) ?_
                              refine lv_icmp_lt (tgt := 257) hx hb dL_victim_212 (by decide) (fun h_13 => ?_) (fun h_13 => ?_)
                              · have h_13 := h_13
                                refine lv_iload hx hb dL_victim_257 (lv_at hl 7 rfl) ?_
                                refine lv_goto (tgt := 264) hx hb dL_victim_259 (by decide) ?_
                                refine lv_istore (lv' := [(7, .int (nI u)), (0, .ref aa), (1, .ref am), (2, .ref aq), (3, .int (nI t)), (4, .int (nI R)), (8, .int (nI pt)), (9, .int (nI u))]) hx hb dL_victim_264 hl (by decide) rfl (fun ls hl => ?_)
                                refine lv_iinc (v := (nI (u + 1))) (lv' := [(9, .int (nI (u + 1))), (7, .int (nI u)), (0, .ref aa), (1, .ref am), (2, .ref aq), (3, .int (nI t)), (4, .int (nI R)), (8, .int (nI pt))]) hx hb dL_victim_266 hl (k := 7) rfl (nI_add _ 1) (by decide) rfl (fun ls hl => ?_)
                                refine lv_goto (tgt := 151) hx hb dL_victim_269 (by decide) ?_
                                rw [show (nI u) = (bI (bsN F R (decide (¬ pt = 0)) (u + 1))) from (by rw [bs_y (Decidable.byContradiction (fun q => h_5 (bitN_0.mpr q))) (sp_n h_11) (Or.inr (by rw [← eb]; exact bet_1 h_13))]; exact (bI_some (by omega)).symm)] at hl
                                exact ih151 (u + 1) (by omega) (by omega) _ _ hP hD hS _ (lv_sub hl [2, 3, 4, 5, 6, 1, 7, 0] rfl)
                              · have h_13 := h_13
                                refine lv_aload_n hx hb dL_victim_215 rfl (lv_at hl 0 rfl) ?_
                                refine lv_bipush (v := (nI 6)) hx hb dL_victim_216 (by decide) ?_
                                refine lv_iload hx hb dL_victim_218 (lv_at hl 7 rfl) ?_
                                refine lv_imul hx hb dL_victim_220 ?_
                                refine tpe (y := (nI (6 * u))) (pk_mul _ _) ?_
                                refine lv_iconst (v := (nI 1)) hx hb dL_victim_221 (by decide) ?_
                                refine lv_iadd hx hb dL_victim_222 ?_
                                refine tpe (y := (nI (6 * u + 1))) (nI_add _ _) ?_
                                refine r_ild (k := (6 * u + 1)) hx hb hK hP 1 rfl (by omega) (by decide) dL_victim_223 ?_
                                refine tpe (y := (F 1 u)) (ZA1 hZ (by omega)) ?_
                                refine lv_aload_n hx hb dL_victim_224 rfl (lv_at hl 0 rfl) ?_
                                refine lv_bipush (v := (nI 6)) hx hb dL_victim_225 (by decide) ?_
                                refine lv_iload hx hb dL_victim_227 (lv_at hl 5 rfl) ?_
                                refine lv_imul hx hb dL_victim_229 ?_
                                refine tpe (y := (nI (6 * b8))) (pk_mul _ _) ?_
                                refine lv_iconst (v := (nI 1)) hx hb dL_victim_230 (by decide) ?_
                                refine lv_iadd hx hb dL_victim_231 ?_
                                refine tpe (y := (nI (6 * b8 + 1))) (nI_add _ _) ?_
                                refine r_ild (k := (6 * b8 + 1)) hx hb hK hP 1 rfl (by omega) (by decide) dL_victim_232 ?_
                                refine tpe (y := (F 1 b8)) (ZA1 hZ (by omega)) ?_
                                refine lv_icmp_ne (tgt := 262) hx hb dL_victim_233 (by decide) (fun h_14 => ?_) (fun h_14 => ?_)
                                · have h_14 := h_14
                                  refine lv_iload hx hb dL_victim_262 (lv_at hl 5 rfl) ?_
                                  refine lv_istore (lv' := [(7, .int (nI b8)), (0, .ref aa), (1, .ref am), (2, .ref aq), (3, .int (nI t)), (4, .int (nI R)), (8, .int (nI pt)), (9, .int (nI u))]) hx hb dL_victim_264 hl (by decide) rfl (fun ls hl => ?_)
                                  refine lv_iinc (v := (nI (u + 1))) (lv' := [(9, .int (nI (u + 1))), (7, .int (nI b8)), (0, .ref aa), (1, .ref am), (2, .ref aq), (3, .int (nI t)), (4, .int (nI R)), (8, .int (nI pt))]) hx hb dL_victim_266 hl (k := 7) rfl (nI_add _ 1) (by decide) rfl (fun ls hl => ?_)
                                  refine lv_goto (tgt := 151) hx hb dL_victim_269 (by decide) ?_
                                  rw [show (nI b8) = (bI (bsN F R (decide (¬ pt = 0)) (u + 1))) from (by rw [bs_n (fun q => q.2.2.elim (fun z => hx8 (eb.trans z)) (fun z => (bet_f1 h_13 h_14) (by rw [eb]; exact z))), ← eb]; exact (bI_some hx8).symm)] at hl
                                  exact ih151 (u + 1) (by omega) (by omega) _ _ hP hD hS _ (lv_sub hl [2, 3, 4, 5, 6, 1, 7, 0] rfl)
                                · have h_14 := h_14
                                  refine lv_aload_n hx hb dL_victim_236 rfl (lv_at hl 0 rfl) ?_
                                  refine lv_bipush (v := (nI 6)) hx hb dL_victim_237 (by decide) ?_
                                  refine lv_iload hx hb dL_victim_239 (lv_at hl 7 rfl) ?_
                                  refine lv_imul hx hb dL_victim_241 ?_
                                  refine tpe (y := (nI (6 * u))) (pk_mul _ _) ?_
                                  refine lv_iconst (v := (nI 3)) hx hb dL_victim_242 (by decide) ?_
                                  refine lv_iadd hx hb dL_victim_243 ?_
                                  refine tpe (y := (nI (6 * u + 3))) (nI_add _ _) ?_
                                  refine r_ild (k := (6 * u + 3)) hx hb hK hP 1 rfl (by omega) (by decide) dL_victim_244 ?_
                                  refine tpe (y := (F 0 u)) (ZA3 hZ (by omega)) ?_
                                  refine lv_aload_n hx hb dL_victim_245 rfl (lv_at hl 0 rfl) ?_
                                  refine lv_bipush (v := (nI 6)) hx hb dL_victim_246 (by decide) ?_
                                  refine lv_iload hx hb dL_victim_248 (lv_at hl 5 rfl) ?_
                                  refine lv_imul hx hb dL_victim_250 ?_
                                  refine tpe (y := (nI (6 * b8))) (pk_mul _ _) ?_
                                  refine lv_iconst (v := (nI 3)) hx hb dL_victim_251 (by decide) ?_
                                  refine lv_iadd hx hb dL_victim_252 ?_
                                  refine tpe (y := (nI (6 * b8 + 3))) (nI_add _ _) ?_
                                  refine r_ild (k := (6 * b8 + 3)) hx hb hK hP 1 rfl (by omega) (by decide) dL_victim_253 ?_
                                  refine tpe (y := (F 0 b8)) (ZA3 hZ (by omega)) ?_
                                  refine lv_icmp_le (tgt := 262) hx hb dL_victim_254 (by decide) (fun h_15 => ?_) (fun h_15 => ?_)
                                  · have h_15 := h_15
                                    refine lv_iload hx hb dL_victim_262 (lv_at hl 5 rfl) ?_
                                    refine lv_istore (lv' := [(7, .int (nI b8)), (0, .ref aa), (1, .ref am), (2, .ref aq), (3, .int (nI t)), (4, .int (nI R)), (8, .int (nI pt)), (9, .int (nI u))]) hx hb dL_victim_264 hl (by decide) rfl (fun ls hl => ?_)
                                    refine lv_iinc (v := (nI (u + 1))) (lv' := [(9, .int (nI (u + 1))), (7, .int (nI b8)), (0, .ref aa), (1, .ref am), (2, .ref aq), (3, .int (nI t)), (4, .int (nI R)), (8, .int (nI pt))]) hx hb dL_victim_266 hl (k := 7) rfl (nI_add _ 1) (by decide) rfl (fun ls hl => ?_)
                                    refine lv_goto (tgt := 151) hx hb dL_victim_269 (by decide) ?_
                                    rw [show (nI b8) = (bI (bsN F R (decide (¬ pt = 0)) (u + 1))) from (by rw [bs_n (fun q => q.2.2.elim (fun z => hx8 (eb.trans z)) (fun z => (bet_f2 h_13 h_15) (by rw [eb]; exact z))), ← eb]; exact (bI_some hx8).symm)] at hl
                                    exact ih151 (u + 1) (by omega) (by omega) _ _ hP hD hS _ (lv_sub hl [2, 3, 4, 5, 6, 1, 7, 0] rfl)
                                  · have h_15 := h_15
                                    refine lv_iload hx hb dL_victim_257 (lv_at hl 7 rfl) ?_
                                    refine lv_goto (tgt := 264) hx hb dL_victim_259 (by decide) ?_
                                    refine lv_istore (lv' := [(7, .int (nI u)), (0, .ref aa), (1, .ref am), (2, .ref aq), (3, .int (nI t)), (4, .int (nI R)), (8, .int (nI pt)), (9, .int (nI u))]) hx hb dL_victim_264 hl (by decide) rfl (fun ls hl => ?_)
                                    refine lv_iinc (v := (nI (u + 1))) (lv' := [(9, .int (nI (u + 1))), (7, .int (nI u)), (0, .ref aa), (1, .ref am), (2, .ref aq), (3, .int (nI t)), (4, .int (nI R)), (8, .int (nI pt))]) hx hb dL_victim_266 hl (k := 7) rfl (nI_add _ 1) (by decide) rfl (fun ls hl => ?_)
                                    refine lv_goto (tgt := 151) hx hb dL_victim_269 (by decide) ?_
                                    rw [show (nI u) = (bI (bsN F R (decide (¬ pt = 0)) (u + 1))) from (by rw [bs_y (Decidable.byContradiction (fun q => h_5 (bitN_0.mpr q))) (sp_n h_11) (Or.inr (by rw [← eb]; exact bet_2 h_14 h_15))]; exact (bI_some (by omega)).symm)] at hl
                                    exact ih151 (u + 1) (by omega) (by omega) _ _ hP hD hS _ (lv_sub hl [2, 3, 4, 5, 6, 1, 7, 0] rfl)
                          · have h_11 := h_11
                            refine lv_goto (tgt := 266) hx hb dL_victim_186 (by decide) ?_
                            refine lv_iinc (v := (nI (u + 1))) (lv' := [(9, .int (nI (u + 1))), (0, .ref aa), (1, .ref am), (2, .ref aq), (3, .int (nI t)), (4, .int (nI R)), (7, .int (bI (bsN F R (decide (¬ pt = 0)) u))), (8, .int (nI pt))]) hx hb dL_victim_266 hl (k := 7) rfl (nI_add _ 1) (by decide) rfl (fun ls hl => ?_)
                            refine lv_goto (tgt := 151) hx hb dL_victim_269 (by decide) ?_
                            rw [show (bI (bsN F R (decide (¬ pt = 0)) u)) = (bI (bsN F R (decide (¬ pt = 0)) (u + 1))) from (congrArg bI (bs_n (fun q => sp_y h_6 h_11 q.2.1)).symm)] at hl
                            exact ih151 (u + 1) (by omega) (by omega) _ _ hP hD hS _ (lv_sub hl [1, 2, 3, 4, 5, 6, 7, 0] rfl)
                rw [show (bI b9) = (bI (bsN F R (decide (¬ pt = 0)) 0)) from (by rw [hb8]; rfl)] at hl
                exact L151 _ 0 (Nat.zero_le _) (Nat.lt_succ_self _) _ _ hP hD hS _ (lv_sub hl [1, 2, 3, 4, 5, 6, 7, 0] rfl)
        rw [show (-1) = (bI 8) from rfl] at hl
        exact L137 _ 0 8 (Or.inl ⟨rfl, rfl⟩) (Nat.lt_succ_self _) _ _ hP hD hS _ (lv_sub hl [2, 3, 4, 5, 6, 1, 0] rfl)
      · have h_1 := mt (nI_leI (a := lf) (b := 0) (by omega) (by decide)).mpr h_1
        have hlf : ¬ lf = 0 := by omega
        refine lv_iload hx hb dL_victim_15 (lv_at hl 4 rfl) ?_
        refine lv_iconst (v := (nI 1)) hx hb dL_victim_17 (by decide) ?_
        refine lv_iload hx hb dL_victim_18 (lv_at hl 5 rfl) ?_
        refine lv_ishl hx hb dL_victim_20 ?_
        refine lv_ior hx hb dL_victim_21 ?_
        refine tpe (y := (nI (R ||| 2 ^ a9))) (or_sh ha9) ?_
        refine lv_istore (lv' := [(4, .int (nI (R ||| 2 ^ a9))), (0, .ref aa), (1, .ref am), (2, .ref aq), (3, .int (nI t)), (5, .int (nI a9)), (6, .int (nI lf))]) hx hb dL_victim_22 hl (by decide) rfl (fun ls hl => ?_)
        refine lv_iconst (v := (-1)) hx hb dL_victim_24 (by decide) ?_
        refine lv_istore (lv' := [(7, .int (-1)), (4, .int (nI (R ||| 2 ^ a9))), (0, .ref aa), (1, .ref am), (2, .ref aq), (3, .int (nI t)), (5, .int (nI a9)), (6, .int (nI lf))]) hx hb dL_victim_25 hl (by decide) rfl (fun ls hl => ?_)
        refine lv_bipush (v := (nI 7)) hx hb dL_victim_27 (by decide) ?_
        refine lv_istore (lv' := [(8, .int (nI 7)), (7, .int (-1)), (4, .int (nI (R ||| 2 ^ a9))), (0, .ref aa), (1, .ref am), (2, .ref aq), (3, .int (nI t)), (5, .int (nI a9)), (6, .int (nI lf))]) hx hb dL_victim_29 hl (by decide) rfl (fun ls hl => ?_)
        have L31 : ∀ (N : Nat) (n : Nat) (cn : Nat), (n + cn = 8) → (cn) < N → ∀ (H : Heap) (locs : List Loc), va_P D vwCl ([(am, .inl (cI, 10, .inl fm)), (aa, .inl (cI, 48, .inl fa)), (aq, .inl (cL, 10, .inr (.inl fq)))]) H → va_D A ([(am, .inl (cI, 10, .inl fm)), (aa, .inl (cI, 48, .inl fa)), (aq, .inl (cL, 10, .inr (.inl fq)))]) → va_S A s.heap H locs → ∀ ls : Array Slot, lv_has ls 10 [(0, .ref aa), (1, .ref am), (2, .ref aq), (3, .int (nI t)), (4, .int (nI (R ||| 2 ^ a9))), (5, .int (nI a9)), (6, .int (nI lf)), (7, .int (bI (nxL (fun x => farN F Q0 x t) (fun x => (aWS F Q0 a9).testBit x) n))), (8, .int (nI cn - nI 1))] → W p l e rL_victim s m args below meth c H locs 0 0 Q (F0 m 31 ls []) := by
          intro N31
          induction N31 with
          | zero => intro n cn hc hN; exact absurd hN (Nat.not_lt_zero _)
          | succ N31 ih31 =>
            intro n cn hc hN H locs hP hD hS ls hl
            rcases cn with _ | cn
            · rw [show nI 0 - nI 1 = (-1) from by decide] at hl
              refine lv_iload hx hb dL_victim_31 (lv_at hl 8 rfl) ?_
              refine lv_if_lt (tgt := 94) hx hb dL_victim_33 (by decide) (fun _ => ?_) (fun h => absurd (by decide) h)
              obtain ⟨x9, hx9⟩ : ∃ x, x = nxL (fun x => farN F Q0 x t) (fun x => (aWS F Q0 a9).testBit x) 8 := ⟨_, rfl⟩
              rw [show n = 8 by omega, ← hx9] at hl
              have hxle : x9 ≤ 8 := by rw [hx9]; exact nxL_le (Nat.le_refl _)
              have hvs := VW_s ht hV hlf hx9
              refine lv_iload hx hb dL_victim_94 (lv_at hl 7 rfl) ?_
              refine lv_if_ge (tgt := 104) hx hb dL_victim_96 (by decide) (fun h_16 => ?_) (fun h_16 => ?_)
              · have h_16 := h_16
                have hx8 := (bI_nn hxle).mp h_16
                rw [bI_some hx8] at hl
                refine lv_aload_n hx hb dL_victim_104 rfl (lv_at hl 0 rfl) ?_
                refine lv_aload_n hx hb dL_victim_105 rfl (lv_at hl 1 rfl) ?_
                refine lv_aload_n hx hb dL_victim_106 rfl (lv_at hl 2 rfl) ?_
                refine lv_iload hx hb dL_victim_107 (lv_at hl 7 rfl) ?_
                refine lv_iload_n hx hb dL_victim_109 rfl (lv_at hl 3 rfl) ?_
                refine call_l (X := []) (Wc := [(am, .inl (cI, 10, .inl fm)), (aa, .inl (cI, 48, .inl fa)), (aq, .inl (cL, 10, .inr (.inl fq)))]) (Z := []) (As := [.ref aa, .ref am, .ref aq, .int (nI x9), .int (nI t)]) (rest := []) ⟨hx, hb, hml, hown, hts⟩ (c_L_far l D cI cT cL am aa aq fm fa fq F Q0 x9 t (by omega) (by omega) hJ hM hZ hQL) (va_cwS 5 hts gL_victim_L_far rfl rfl rfl (by decide +kernel) ⟨Nat.le_of_ble_eq_true rfl, Nat.le_of_ble_eq_true rfl⟩) hKL hP hD hS hA (fun _ => adw3) rfl hl.1 rfl (Nat.le_of_ble_eq_true rfl) ⟨by decide, by decide⟩ dL_victim_110 (fun rv uu H locs hp hP hD hS => ?_)
                obtain rfl := hp
                have hP : va_P D vwCl ([(am, .inl (cI, 10, .inl fm)), (aa, .inl (cI, 48, .inl fa)), (aq, .inl (cL, 10, .inr (.inl fq)))]) H := hP
                have hD : va_D A ([(am, .inl (cI, 10, .inl fm)), (aa, .inl (cI, 48, .inl fa)), (aq, .inl (cL, 10, .inr (.inl fq)))]) := hD
                refine lv_istore (lv' := [(6, .int (nI (farN F Q0 x9 t))), (0, .ref aa), (1, .ref am), (2, .ref aq), (3, .int (nI t)), (4, .int (nI (R ||| 2 ^ a9))), (5, .int (nI a9)), (7, .int (nI x9)), (8, .int (-1))]) hx hb dL_victim_113 hl (by decide) rfl (fun ls hl => ?_)
                refine lv_iload hx hb dL_victim_115 (lv_at hl 0 rfl) ?_
                refine lv_bipush (v := (nI 99)) hx hb dL_victim_117 (by decide) ?_
                refine lv_icmp_ne (tgt := 124) hx hb dL_victim_119 (by decide) (fun h_17 => ?_) (fun h_17 => ?_)
                · have h_17 := mt (nI_eq (a := (farN F Q0 x9 t)) (b := 99) (Nat.lt_of_le_of_lt far_le (by decide)) (by decide)).mpr h_17
                  refine lv_iload hx hb dL_victim_124 (lv_at hl 7 rfl) ?_
                  refine lv_istore (lv' := [(5, .int (nI x9)), (6, .int (nI (farN F Q0 x9 t))), (0, .ref aa), (1, .ref am), (2, .ref aq), (3, .int (nI t)), (4, .int (nI (R ||| 2 ^ a9))), (7, .int (nI x9)), (8, .int (-1))]) hx hb dL_victim_126 hl (by decide) rfl (fun ls hl => ?_)
                  refine lv_goto (tgt := 10) hx hb dL_victim_128 (by decide) ?_
                  exact ih10 (i + 1) (R ||| 2 ^ a9) x9 (farN F Q0 x9 t) (hvs.elim (fun q => by exfalso; rcases q.1 with z | z <;> omega) (fun q => q.2.2.2)) (by have h1 : farN F Q0 x9 t < lf := hvs.elim (fun q => by exfalso; rcases q.1 with z | z <;> omega) (fun q => q.2.2.1); omega) _ _ hP hD hS _ (lv_sub hl [2, 3, 4, 5, 6, 0, 1] rfl)
                · have h_17 := (nI_eq (a := (farN F Q0 x9 t)) (b := 99) (Nat.lt_of_le_of_lt far_le (by decide)) (by decide)).mp h_17
                  refine lv_iconst (v := (-1)) hx hb dL_victim_122 (by decide) ?_
                  exact ret_i (u := ()) hQ hx hb hrt hlk hS dL_victim_123 hP (by rw [vic_n (hvs.elim (fun q => q.2) (fun q => by have h1 := q.2.1; exfalso; omega))]; rfl)
              · have h_16 := h_16
                refine lv_bipush (v := (nI 99)) hx hb dL_victim_99 (by decide) ?_
                refine lv_goto (tgt := 113) hx hb dL_victim_101 (by decide) ?_
                refine lv_istore (lv' := [(6, .int (nI 99)), (0, .ref aa), (1, .ref am), (2, .ref aq), (3, .int (nI t)), (4, .int (nI (R ||| 2 ^ a9))), (5, .int (nI a9)), (7, .int (bI x9)), (8, .int (-1))]) hx hb dL_victim_113 hl (by decide) rfl (fun ls hl => ?_)
                refine lv_iload hx hb dL_victim_115 (lv_at hl 0 rfl) ?_
                refine lv_bipush (v := (nI 99)) hx hb dL_victim_117 (by decide) ?_
                refine lv_icmp_ne (tgt := 124) hx hb dL_victim_119 (by decide) (fun h => absurd (by decide) h) (fun _ => ?_)
                refine lv_iconst (v := (-1)) hx hb dL_victim_122 (by decide) ?_
                have hx8e : x9 = 8 := Decidable.byContradiction (fun z => h_16 ((bI_nn hxle).mpr z))
                exact ret_i (u := ()) hQ hx hb hrt hlk hS dL_victim_123 hP (by rw [vic_n (hvs.elim (fun q => q.2) (fun q => by have h1 := q.1; exfalso; omega))]; rfl)
            · rw [show nI (cn + 1) - nI 1 = nI cn from pk_sub (by omega)] at hl
              refine lv_iload hx hb dL_victim_31 (lv_at hl 8 rfl) ?_
              refine lv_if_lt (tgt := 94) hx hb dL_victim_33 (by decide) (fun h_18 => absurd h_18 (Int32.not_lt.mpr (nI_pos' (by omega)))) (fun h_18 => ?_)
              have h_18 := mt (nI_ltI (a := cn) (b := 0) (by omega) (by decide)).mpr h_18
              refine lv_aload_n hx hb dL_victim_36 rfl (lv_at hl 0 rfl) ?_
              refine lv_aload_n hx hb dL_victim_37 rfl (lv_at hl 1 rfl) ?_
              refine lv_aload_n hx hb dL_victim_38 rfl (lv_at hl 2 rfl) ?_
              refine lv_iload hx hb dL_victim_39 (lv_at hl 5 rfl) ?_
              refine call_l (X := []) (Wc := [(am, .inl (cI, 10, .inl fm)), (aa, .inl (cI, 48, .inl fa)), (aq, .inl (cL, 10, .inr (.inl fq)))]) (Z := []) (As := [.ref aa, .ref am, .ref aq, .int (nI a9)]) (rest := []) ⟨hx, hb, hml, hown, hts⟩ (c_L_waitsFor l D cI cT cL am aa aq fm fa fq F Q0 a9 (by omega) hJ hM hZ hQL) (va_cwS 4 hts gL_victim_L_waitsFor rfl rfl rfl (by decide +kernel) ⟨Nat.le_of_ble_eq_true rfl, Nat.le_of_ble_eq_true rfl⟩) hKL hP hD hS hA (fun _ => adw3) rfl hl.1 rfl (Nat.le_of_ble_eq_true rfl) ⟨by decide, by decide⟩ dL_victim_41 (fun rv uu H locs hp hP hD hS => ?_)
              obtain rfl := hp
              have hP : va_P D vwCl ([(am, .inl (cI, 10, .inl fm)), (aa, .inl (cI, 48, .inl fa)), (aq, .inl (cL, 10, .inr (.inl fq)))]) H := hP
              have hD : va_D A ([(am, .inl (cI, 10, .inl fm)), (aa, .inl (cI, 48, .inl fa)), (aq, .inl (cL, 10, .inr (.inl fq)))]) := hD
              refine lv_iload hx hb dL_victim_44 (lv_at hl 8 rfl) ?_
              refine lv_ishr hx hb dL_victim_46 ?_
              refine lv_iconst (v := (nI 1)) hx hb dL_victim_47 (by decide) ?_
              refine lv_iand hx hb dL_victim_48 ?_
              refine tpe (y := (nI (bitN (aWS F Q0 a9) cn))) (tb_I hW31 (by omega)) ?_
              refine lv_iconst (v := (nI 1)) hx hb dL_victim_49 (by decide) ?_
              refine lv_icmp_ne (tgt := 84) hx hb dL_victim_50 (by decide) (fun h_19 => ?_) (fun h_19 => ?_)
              · have h_19 := mt (nI_eq (a := (bitN (aWS F Q0 a9) cn)) (b := 1) (bitN_lt _ _) (by decide)).mpr h_19
                refine lv_iload hx hb dL_victim_84 (lv_at hl 7 rfl) ?_
                refine lv_istore (lv' := [(7, .int (bI (nxL (fun x => farN F Q0 x t) (fun x => (aWS F Q0 a9).testBit x) n))), (0, .ref aa), (1, .ref am), (2, .ref aq), (3, .int (nI t)), (4, .int (nI (R ||| 2 ^ a9))), (5, .int (nI a9)), (6, .int (nI lf)), (8, .int (nI cn))]) hx hb dL_victim_86 hl (by decide) rfl (fun ls hl => ?_)
                refine lv_iinc (v := (nI cn - nI 1)) (lv' := [(8, .int (nI cn - nI 1)), (7, .int (bI (nxL (fun x => farN F Q0 x t) (fun x => (aWS F Q0 a9).testBit x) n))), (0, .ref aa), (1, .ref am), (2, .ref aq), (3, .int (nI t)), (4, .int (nI (R ||| 2 ^ a9))), (5, .int (nI a9)), (6, .int (nI lf))]) hx hb dL_victim_88 hl (k := 8) rfl iinc_s (by decide) rfl (fun ls hl => ?_)
                refine lv_goto (tgt := 31) hx hb dL_victim_91 (by decide) ?_
                obtain ⟨k4, hk4⟩ : ∃ k, k = nI cn - nI 1 := ⟨_, rfl⟩
                rw [← hk4] at hl
                rw [show (bI (nxL (fun x => farN F Q0 x t) (fun x => (aWS F Q0 a9).testBit x) n)) = (bI (nxL (fun x => farN F Q0 x t) (fun x => (aWS F Q0 a9).testBit x) (n + 1))) from (congrArg bI (nxL_n (E := (fun x => farN F Q0 x t)) (p := (fun x => (aWS F Q0 a9).testBit x)) (by omega) (fun q => h_19 (bitN_1.mpr q.1))).symm)] at hl
                rw [hk4] at hl
                exact ih31 (n + 1) cn (by omega) (by omega) _ _ hP hD hS _ (lv_sub hl [2, 3, 4, 5, 6, 7, 8, 1, 0] rfl)
              · have h_19 := (nI_eq (a := (bitN (aWS F Q0 a9) cn)) (b := 1) (bitN_lt _ _) (by decide)).mp h_19
                refine lv_iload hx hb dL_victim_53 (lv_at hl 7 rfl) ?_
                refine lv_if_lt (tgt := 79) hx hb dL_victim_55 (by decide) (fun h_20 => ?_) (fun h_20 => ?_)
                · have h_20 := h_20
                  refine lv_iload hx hb dL_victim_79 (lv_at hl 8 rfl) ?_
                  refine lv_goto (tgt := 86) hx hb dL_victim_81 (by decide) ?_
                  refine lv_istore (lv' := [(7, .int (nI cn)), (0, .ref aa), (1, .ref am), (2, .ref aq), (3, .int (nI t)), (4, .int (nI (R ||| 2 ^ a9))), (5, .int (nI a9)), (6, .int (nI lf)), (8, .int (nI cn))]) hx hb dL_victim_86 hl (by decide) rfl (fun ls hl => ?_)
                  refine lv_iinc (v := (nI cn - nI 1)) (lv' := [(8, .int (nI cn - nI 1)), (7, .int (nI cn)), (0, .ref aa), (1, .ref am), (2, .ref aq), (3, .int (nI t)), (4, .int (nI (R ||| 2 ^ a9))), (5, .int (nI a9)), (6, .int (nI lf))]) hx hb dL_victim_88 hl (k := 8) rfl iinc_s (by decide) rfl (fun ls hl => ?_)
                  refine lv_goto (tgt := 31) hx hb dL_victim_91 (by decide) ?_
                  obtain ⟨k4, hk4⟩ : ∃ k, k = nI cn - nI 1 := ⟨_, rfl⟩
                  rw [← hk4] at hl
                  rw [show (nI cn) = (bI (nxL (fun x => farN F Q0 x t) (fun x => (aWS F Q0 a9).testBit x) (n + 1))) from (by rw [nxL_y (E := (fun x => farN F Q0 x t)) (p := (fun x => (aWS F Q0 a9).testBit x)) (by omega) (bitN_1.mp h_19) (Or.inl ((bI_neg (nxL_le (by omega))).mp h_20))]; exact (bI_some (by omega)).symm)] at hl
                  rw [hk4] at hl
                  exact ih31 (n + 1) cn (by omega) (by omega) _ _ hP hD hS _ (lv_sub hl [2, 3, 4, 5, 6, 7, 8, 1, 0] rfl)
                · have h_20 := h_20
                  have hx8 : ¬ nxL (fun x => farN F Q0 x t) (fun x => (aWS F Q0 a9).testBit x) n = 8 := fun q => h_20 ((bI_neg (nxL_le (by omega))).mpr q)
                  have hxle := nxL_le (E := (fun x => farN F Q0 x t)) (p := (fun x => (aWS F Q0 a9).testBit x)) (n := n) (by omega)
                  rw [bI_some hx8] at hl
                  refine lv_aload_n hx hb dL_victim_58 rfl (lv_at hl 0 rfl) ?_
                  refine lv_aload_n hx hb dL_victim_59 rfl (lv_at hl 1 rfl) ?_
                  refine lv_aload_n hx hb dL_victim_60 rfl (lv_at hl 2 rfl) ?_
                  refine lv_iload hx hb dL_victim_61 (lv_at hl 8 rfl) ?_
                  refine lv_iload_n hx hb dL_victim_63 rfl (lv_at hl 3 rfl) ?_
                  refine call_l (X := []) (Wc := [(am, .inl (cI, 10, .inl fm)), (aa, .inl (cI, 48, .inl fa)), (aq, .inl (cL, 10, .inr (.inl fq)))]) (Z := []) (As := [.ref aa, .ref am, .ref aq, .int (nI cn), .int (nI t)]) (rest := []) ⟨hx, hb, hml, hown, hts⟩ (c_L_far l D cI cT cL am aa aq fm fa fq F Q0 cn t (by omega) (by omega) hJ hM hZ hQL) (va_cwS 5 hts gL_victim_L_far rfl rfl rfl (by decide +kernel) ⟨Nat.le_of_ble_eq_true rfl, Nat.le_of_ble_eq_true rfl⟩) hKL hP hD hS hA (fun _ => adw3) rfl hl.1 rfl (Nat.le_of_ble_eq_true rfl) ⟨by decide, by decide⟩ dL_victim_64 (fun rv uu H locs hp hP hD hS => ?_)
                  obtain rfl := hp
                  have hP : va_P D vwCl ([(am, .inl (cI, 10, .inl fm)), (aa, .inl (cI, 48, .inl fa)), (aq, .inl (cL, 10, .inr (.inl fq)))]) H := hP
                  have hD : va_D A ([(am, .inl (cI, 10, .inl fm)), (aa, .inl (cI, 48, .inl fa)), (aq, .inl (cL, 10, .inr (.inl fq)))]) := hD
                  refine lv_aload_n hx hb dL_victim_67 rfl (lv_at hl 0 rfl) ?_
                  refine lv_aload_n hx hb dL_victim_68 rfl (lv_at hl 1 rfl) ?_
                  refine lv_aload_n hx hb dL_victim_69 rfl (lv_at hl 2 rfl) ?_
                  refine lv_iload hx hb dL_victim_70 (lv_at hl 7 rfl) ?_
                  refine lv_iload_n hx hb dL_victim_72 rfl (lv_at hl 3 rfl) ?_
                  refine call_l (X := []) (Wc := [(am, .inl (cI, 10, .inl fm)), (aa, .inl (cI, 48, .inl fa)), (aq, .inl (cL, 10, .inr (.inl fq)))]) (Z := []) (As := [.ref aa, .ref am, .ref aq, .int (nI (nxL (fun x => farN F Q0 x t) (fun x => (aWS F Q0 a9).testBit x) n)), .int (nI t)]) (rest := [.int (nI (farN F Q0 cn t))]) ⟨hx, hb, hml, hown, hts⟩ (c_L_far l D cI cT cL am aa aq fm fa fq F Q0 (nxL (fun x => farN F Q0 x t) (fun x => (aWS F Q0 a9).testBit x) n) t (by omega) (by omega) hJ hM hZ hQL) (va_cwS 5 hts gL_victim_L_far rfl rfl rfl (by decide +kernel) ⟨Nat.le_of_ble_eq_true rfl, Nat.le_of_ble_eq_true rfl⟩) hKL hP hD hS hA (fun _ => adw3) rfl hl.1 rfl (Nat.le_of_ble_eq_true rfl) ⟨by decide, by decide⟩ dL_victim_73 (fun rv uu H locs hp hP hD hS => ?_)
                  obtain rfl := hp
                  have hP : va_P D vwCl ([(am, .inl (cI, 10, .inl fm)), (aa, .inl (cI, 48, .inl fa)), (aq, .inl (cL, 10, .inr (.inl fq)))]) H := hP
                  have hD : va_D A ([(am, .inl (cI, 10, .inl fm)), (aa, .inl (cI, 48, .inl fa)), (aq, .inl (cL, 10, .inr (.inl fq)))]) := hD
                  refine lv_icmp_gt (tgt := 84) hx hb dL_victim_76 (by decide) (fun h_21 => ?_) (fun h_21 => ?_)
                  · have h_21 := (nI_ltI (a := (farN F Q0 (nxL (fun x => farN F Q0 x t) (fun x => (aWS F Q0 a9).testBit x) n) t)) (b := (farN F Q0 cn t)) (Nat.lt_of_le_of_lt far_le (by decide)) (Nat.lt_of_le_of_lt far_le (by decide))).mp h_21
                    refine lv_iload hx hb dL_victim_84 (lv_at hl 7 rfl) ?_
                    refine lv_istore (lv' := [(7, .int (nI (nxL (fun x => farN F Q0 x t) (fun x => (aWS F Q0 a9).testBit x) n))), (0, .ref aa), (1, .ref am), (2, .ref aq), (3, .int (nI t)), (4, .int (nI (R ||| 2 ^ a9))), (5, .int (nI a9)), (6, .int (nI lf)), (8, .int (nI cn))]) hx hb dL_victim_86 hl (by decide) rfl (fun ls hl => ?_)
                    refine lv_iinc (v := (nI cn - nI 1)) (lv' := [(8, .int (nI cn - nI 1)), (7, .int (nI (nxL (fun x => farN F Q0 x t) (fun x => (aWS F Q0 a9).testBit x) n))), (0, .ref aa), (1, .ref am), (2, .ref aq), (3, .int (nI t)), (4, .int (nI (R ||| 2 ^ a9))), (5, .int (nI a9)), (6, .int (nI lf))]) hx hb dL_victim_88 hl (k := 8) rfl iinc_s (by decide) rfl (fun ls hl => ?_)
                    refine lv_goto (tgt := 31) hx hb dL_victim_91 (by decide) ?_
                    obtain ⟨k4, hk4⟩ : ∃ k, k = nI cn - nI 1 := ⟨_, rfl⟩
                    rw [← hk4] at hl
                    rw [show (nI (nxL (fun x => farN F Q0 x t) (fun x => (aWS F Q0 a9).testBit x) n)) = (bI (nxL (fun x => farN F Q0 x t) (fun x => (aWS F Q0 a9).testBit x) (n + 1))) from (by rw [nxL_n (E := (fun x => farN F Q0 x t)) (p := (fun x => (aWS F Q0 a9).testBit x)) (by omega) (fun q => q.2.elim hx8 (fun z => Nat.not_lt.mpr z h_21))]; exact (bI_some hx8).symm)] at hl
                    rw [hk4] at hl
                    exact ih31 (n + 1) cn (by omega) (by omega) _ _ hP hD hS _ (lv_sub hl [2, 3, 4, 5, 6, 7, 8, 1, 0] rfl)
                  · have h_21 := mt (nI_ltI (a := (farN F Q0 (nxL (fun x => farN F Q0 x t) (fun x => (aWS F Q0 a9).testBit x) n) t)) (b := (farN F Q0 cn t)) (Nat.lt_of_le_of_lt far_le (by decide)) (Nat.lt_of_le_of_lt far_le (by decide))).mpr h_21
                    refine lv_iload hx hb dL_victim_79 (lv_at hl 8 rfl) ?_
                    refine lv_goto (tgt := 86) hx hb dL_victim_81 (by decide) ?_
                    refine lv_istore (lv' := [(7, .int (nI cn)), (0, .ref aa), (1, .ref am), (2, .ref aq), (3, .int (nI t)), (4, .int (nI (R ||| 2 ^ a9))), (5, .int (nI a9)), (6, .int (nI lf)), (8, .int (nI cn))]) hx hb dL_victim_86 hl (by decide) rfl (fun ls hl => ?_)
                    refine lv_iinc (v := (nI cn - nI 1)) (lv' := [(8, .int (nI cn - nI 1)), (7, .int (nI cn)), (0, .ref aa), (1, .ref am), (2, .ref aq), (3, .int (nI t)), (4, .int (nI (R ||| 2 ^ a9))), (5, .int (nI a9)), (6, .int (nI lf))]) hx hb dL_victim_88 hl (k := 8) rfl iinc_s (by decide) rfl (fun ls hl => ?_)
                    refine lv_goto (tgt := 31) hx hb dL_victim_91 (by decide) ?_
                    obtain ⟨k4, hk4⟩ : ∃ k, k = nI cn - nI 1 := ⟨_, rfl⟩
                    rw [← hk4] at hl
                    rw [show (nI cn) = (bI (nxL (fun x => farN F Q0 x t) (fun x => (aWS F Q0 a9).testBit x) (n + 1))) from (by rw [nxL_y (E := (fun x => farN F Q0 x t)) (p := (fun x => (aWS F Q0 a9).testBit x)) (by omega) (bitN_1.mp h_19) (Or.inr (Nat.not_lt.mp h_21))]; exact (bI_some (by omega)).symm)] at hl
                    rw [hk4] at hl
                    exact ih31 (n + 1) cn (by omega) (by omega) _ _ hP hD hS _ (lv_sub hl [2, 3, 4, 5, 6, 7, 8, 1, 0] rfl)
        rw [show (-1) = (bI (nxL (fun x => farN F Q0 x t) (fun x => (aWS F Q0 a9).testBit x) 0)) from rfl] at hl
        rw [show (nI 7) = (nI 8 - nI 1) from (by decide)] at hl
        exact L31 _ 0 8 rfl (Nat.lt_succ_self _) _ _ hP hD hS _ (lv_sub hl [3, 4, 5, 6, 2, 7, 8, 1, 0] rfl)
  exact L10 _ 0 0 t 100 (VW_0 ht) (Nat.lt_succ_self _) _ _ hP hD hS _ (lv_sub hl [3, 4, 5, 6, 2, 1, 0] rfl)
