/-! the law: one act -/
/-- how many have begun -/
def BB (N : Nat) (F : FF) : Prop := ∃ n, n ≤ N ∧ F 8 0 = nI n
theorem BB_k {N : Nat} {F F' : FF} (h : BB N F) (e : F' 8 0 = F 8 0) : BB (N + 1) F' := by
  obtain ⟨n, h1, h2⟩ := h
  exact ⟨n, by omega, e.trans h2⟩
theorem BB_st {N t : Nat} {F : FF} (h : BB N F) : BB (N + 1) (startF F t) := by
  obtain ⟨n, h1, h2⟩ := h
  refine ⟨n + 1, by omega, ?_⟩
  rw [startF, up_eq, pk_us, h2, nI_add]
theorem BB_n {N : Nat} {F : FF} (h : BB N F) (hN : N < 1000) : ¬ F 8 0 = -1 := by
  obtain ⟨n, h1, h2⟩ := h
  rw [h2]; exact m1_nI (by omega)
theorem ab_80 {F : FF} {v : Nat} : abF F v 8 0 = F 8 0 := by
  have hr : ∀ x, relF (rmF F v) v 8 x = F 8 x := fun x => by rw [rel_ne (by decide), rmF_ne (by decide)]
  rw [abF]; simp only [up_ap, hr]; simp
theorem br_80 {s : Nat} : ∀ n {F : FF} {Q : QQ} {V : Nat}, JJ F Q → (brS s n F Q V).1 8 0 = F 8 0
  | 0, _, _, _, _ => rfl
  | n + 1, F, Q, V, h => by
    rw [brS]; split
    · rfl
    · rename_i q
      have hv := vic_le F Q s
      have hJ := JJ_ab h (show vic F Q s < 8 by omega)
      rw [br_80 n (JJ_srv hJ), srv_k hJ (by decide) (by decide) (by decide), ab_80]
theorem pl_80 {F : FF} {Q : QQ} {t r : Nat} {m : Int32} : plF F Q t r m 8 0 = F 8 0 := by
  rw [plF]; split
  · rfl
  · split
    · rw [gr_ne (by decide) (by decide)]
    · rw [up_ne (by decide), up_ne (by decide)]
theorem ask_80 {F : FF} {Q : QQ} {t r : Nat} {m : Int32} (h : JJ F Q) (ht : t < 8) (hr : r < 10) (h3 : F 3 t = -1) (h0 : ¬ F 0 t = -1) (hm : m = nI 1 ∨ m = nI 2) : askF F Q t r m 8 0 = F 8 0 := by
  have hp := JJ_pl h ht hr h3 h0 hm
  rw [askF]; split
  · rw [brF, br_80 8 hp, pl_80]
  · exact pl_80
theorem end_80 {F : FF} {Q : QQ} {t : Nat} (h : JJ F Q) (ht : t < 8) : srvF (endF F t) (rmQ F Q t) 8 0 = F 8 0 := by
  rw [srv_k (JJ_end h ht) (by decide) (by decide) (by decide), endF, up_ne (by decide), up_ne (by decide), up_ne (by decide), rel_ne (by decide), rmF_ne (by decide)]
theorem rm_80 {F : FF} {Q : QQ} {t : Nat} (h : JJ F Q) (ht : t < 8) : srvF (rmF F t) (rmQ F Q t) 8 0 = F 8 0 := by
  rw [srv_k (JJ_rm h ht) (by decide) (by decide) (by decide), rmF_ne (by decide)]
theorem askV_lt {F : FF} {Q : QQ} {t r : Nat} {m : Int32} : askV F Q t r m < 2 ^ 8 := by
  rw [askV]; split
  · exact brV_lt
  · decide
theorem due_r {V k : Nat} (hV : V < 2 ^ 8) (hk : k < 4) : nI (8 * V + k) - nI (8 * V + k) / nI 8 * nI 8 = nI k := by
  rw [pk_rem (by omega) (by decide) (by decide)]
  congr 1
  omega
theorem due_d {V k : Nat} (hV : V < 2 ^ 8) (hk : k < 4) : nI (8 * V + k) / nI 8 = nI V := by
  rw [pk_div (by omega) (by decide) (by decide)]
  congr 1
  omega
theorem mo_of (v : Int32) : nI 1 + (v &&& nI 1) = nI 1 ∨ nI 1 + (v &&& nI 1) = nI 2 := by
  obtain ⟨j, hj, e⟩ := pk_andE v (m := nI 1) 1 (by decide)
  rw [e, nI_add]
  rcases (show j = 0 ∨ j = 1 by omega) with q | q <;> subst q
  · exact Or.inl rfl
  · exact Or.inr rfl
theorem GG_st {F : FF} {f : Nat → Int32} {t : Nat} (h : GG F f) : GG (startF F t) (upd f 0 (f 0 + nI 1)) := fun j hj => by
  have e : startF F t 8 j = if j = 0 then F 8 0 + nI 1 else F 8 j := by
    rw [startF]; simp only [up_ap]; simp
  rw [e, ud]
  rcases (show j = 0 ∨ j = 1 ∨ j = 2 by omega) with q | q | q <;> subst q
  · simp [h 0 (by decide)]
  · simp [h 1 (by decide)]
  · simp [h 2 (by decide)]
theorem MM_st {F : FF} {f : Nat → Int32} {t : Nat} (h : MM F f) : MM (startF F t) f := MM_cg h (by rw [startF, up_ne (by decide), up_ne (by decide), up_ne (by decide), up_ne (by decide)])
theorem st_1of {p : ST} {a : FF} {b : QQ} {c : List (FF × QQ) × (Nat → Nat) × Nat} (h : p = (a, b, c)) : p.1 = a := by subst h; rfl
theorem st_2of {p : ST} {a : FF} {b : QQ} {c : List (FF × QQ) × (Nat → Nat) × Nat} (h : p = (a, b, c)) : p.2.1 = b := by subst h; rfl
theorem st_b {F : FF} {t : Nat} : F 8 0 = startF F t 0 t := by simp [startF, up_ap]
theorem wk_v {F : FF} {t : Nat} {v : Int32} : v = up F 1 t v 1 t := by rw [up_eq, pk_us]

abbrev rL_act : Room := { frames := 10, cells := 40, slots := 240, locals := 180 }
set_option maxHeartbeats 2000000 in
set_option maxRecDepth 100000 in
theorem c_L_act (l : Launch) (hflag : l.stackTraces = false) (D : va_G) (cI cT cL : ClassId) (xo ta tr br tx hi : Nat → Nat) (ra : Nat → Nat → Nat) (s0 : ST) (j0 : JT) (am aa aq ag : Nat) (fm : Nat → Int32) (fa : Nat → Int32) (fq : Nat → Int64) (fg : Nat → Int32) (xv yv : Int32) (N : Nat) (hL : LR s0 j0) (hM : MM s0.1 fm) (hZ : ZA s0.1 fa) (hQL : QL s0.2.1 fq) (hG : GG s0.1 fg) (hB : BB N s0.1) (hN : N < 1000) : CW l D cI cT cL yL_act wsL_act rL_act [.ref (xo 0), .int xv, .int yv, .ref aa, .ref am, .ref aq, .ref ag] ([(am, .inl (cI, 10, .inl fm)), (aa, .inl (cI, 48, .inl fa)), (aq, .inl (cL, 10, .inr (.inl fq))), (ag, .inl (cI, 3, .inl fg))] ++ lmW cI cT xo ta tr br tx hi ra s0 j0) (S := ST × JT × (Nat → Int32) × (Nat → Int32) × (Nat → Int64) × (Nat → Int32)) (fun v u => v = nI 1 ∧ LR u.1 u.2.1 ∧ MM u.1.1 u.2.2.1 ∧ ZA u.1.1 u.2.2.2.1 ∧ QL u.1.2.1 u.2.2.2.2.1 ∧ GG u.1.1 u.2.2.2.2.2 ∧ BB (N + 1) u.1.1) (fun u => [(am, .inl (cI, 10, .inl u.2.2.1)), (aa, .inl (cI, 48, .inl u.2.2.2.1)), (aq, .inl (cL, 10, .inr (.inl u.2.2.2.2.1))), (ag, .inl (cI, 3, .inl u.2.2.2.2.2))] ++ lmW cI cT xo ta tr br tx hi ra u.1 u.2.1) 40 240 := by
  refine CU.of (cc := cL_act) (maxL := 15) (ret := (some .boolean)) (by decide) rfl (Nat.le_of_ble_eq_true rfl) ?_
  intro p e s m args below meth c A Q hQ B hout hA hX H locs hP hKL hD hS ls hl
  have hK : va_K D vwCl (TY cI cT) s := hKL.sub (tys' := TY cI cT) [0, 1] rfl
  obtain ⟨hx, hb, hml, hrt, hts, hown, hlk⟩ := B
  have hl : lv_has ls 15 [(0, .ref (xo 0)), (1, .int xv), (2, .int yv), (3, .ref aa), (4, .ref am), (5, .ref aq), (6, .ref ag)] := hl
  have hJ := hL.1
  have hB0 := BB_k (F' := s0.1) hB rfl
  have ih20 : ∀ (t7 : Nat), (t7 < 9) → (0) < 1 → ∀ (H : Heap) (locs : List Loc), va_P D vwCl ([(am, .inl (cI, 10, .inl fm)), (aa, .inl (cI, 48, .inl fa)), (aq, .inl (cL, 10, .inr (.inl fq))), (ag, .inl (cI, 3, .inl fg))] ++ lmW cI cT xo ta tr br tx hi ra s0 j0) H → va_D A ([(am, .inl (cI, 10, .inl fm)), (aa, .inl (cI, 48, .inl fa)), (aq, .inl (cL, 10, .inr (.inl fq))), (ag, .inl (cI, 3, .inl fg))] ++ lmW cI cT xo ta tr br tx hi ra s0 j0) → va_S A s.heap H locs → ∀ ls : Array Slot, lv_has ls 15 [(0, .ref (xo 0)), (1, .int xv), (2, .int yv), (3, .ref aa), (4, .ref am), (5, .ref aq), (6, .ref ag)] → W p l e rL_act s m args below meth c H locs 0 0 Q (F0 m 20 ls [.int (nI t7)]) := by
    intro t7 ht9 _ H locs hP hD hS ls hl
    have hlo : lowN xv 14 < 14 := lowN_lt (by decide)
    refine lv_istore (lv' := [(7, .int (nI t7)), (0, .ref (xo 0)), (1, .int xv), (2, .int yv), (3, .ref aa), (4, .ref am), (5, .ref aq), (6, .ref ag)]) hx hb dL_act_20 hl (by decide) rfl (fun ls hl => ?_)
    refine lv_iload_n hx hb dL_act_22 rfl (lv_at hl 2 rfl) ?_
    refine lv_bipush (v := (nI 14)) hx hb dL_act_23 (by decide) ?_
    refine call_l (X := [(am, .inl (cI, 10, .inl fm)), (aa, .inl (cI, 48, .inl fa)), (aq, .inl (cL, 10, .inr (.inl fq))), (ag, .inl (cI, 3, .inl fg))] ++ lmW cI cT xo ta tr br tx hi ra s0 j0) (Wc := []) (Z := []) (As := [.int xv, .int (nI 14)]) (rest := []) ⟨hx, hb, hml, hown, hts⟩ (c_L_low l D cI cT cL xv 14 (by decide) (by decide)) (va_cwS 2 hts gL_act_L_low rfl rfl rfl (by decide +kernel) ⟨Nat.le_of_ble_eq_true rfl, Nat.le_of_ble_eq_true rfl⟩) hKL (P_nilr hP) (D_nilr hD) hS hA (fun _ => rfl) rfl hl.1 rfl (Nat.le_of_ble_eq_true rfl) ⟨(show 0 ≤ 40 by omega), (show 0 ≤ 240 by omega)⟩ dL_act_25 (fun rv uu H locs hp hP hD hS => ?_)
    have hP := P_nil2 hP
    have hD := D_nil2 hD
    obtain rfl := hp
    have hP : va_P D vwCl ([(am, .inl (cI, 10, .inl fm)), (aa, .inl (cI, 48, .inl fa)), (aq, .inl (cL, 10, .inr (.inl fq))), (ag, .inl (cI, 3, .inl fg))] ++ lmW cI cT xo ta tr br tx hi ra s0 j0) H := hP
    have hD : va_D A ([(am, .inl (cI, 10, .inl fm)), (aa, .inl (cI, 48, .inl fa)), (aq, .inl (cL, 10, .inr (.inl fq))), (ag, .inl (cI, 3, .inl fg))] ++ lmW cI cT xo ta tr br tx hi ra s0 j0) := hD
    refine lv_istore (lv' := [(8, .int (nI (lowN xv 14))), (7, .int (nI t7)), (0, .ref (xo 0)), (1, .int xv), (2, .int yv), (3, .ref aa), (4, .ref am), (5, .ref aq), (6, .ref ag)]) hx hb dL_act_28 hl (by decide) rfl (fun ls hl => ?_)
    refine lv_iload hx hb dL_act_30 (lv_at hl 1 rfl) ?_
    refine lv_bipush (v := (nI 8)) hx hb dL_act_32 (by decide) ?_
    refine lv_icmp_ne (tgt := 198) hx hb dL_act_34 (by decide) (fun h_1 => ?_) (fun h_1 => ?_)
    · have h_1 := mt (nI_eq (a := t7) (b := 8) (by omega) (by decide)).mpr h_1
      have ht7 : t7 < 8 := by omega
      refine lv_aload_n hx hb dL_act_198 rfl (lv_at hl 5 rfl) ?_
      refine lv_bipush (v := (nI 6)) hx hb dL_act_199 (by decide) ?_
      refine lv_iload hx hb dL_act_201 (lv_at hl 1 rfl) ?_
      refine lv_imul hx hb dL_act_203 ?_
      refine tpe (y := (nI (6 * t7))) (pk_mul _ _) ?_
      refine r_ild (k := (6 * t7)) hx hb hK hP 1 rfl (by omega) (by decide) dL_act_204 ?_
      refine tpe (y := (stI s0.1 t7)) (ZA0 hZ ht7) ?_
      refine lv_istore (lv' := [(9, .int (stI s0.1 t7)), (8, .int (nI (lowN xv 14))), (7, .int (nI t7)), (0, .ref (xo 0)), (1, .int xv), (2, .int yv), (3, .ref aa), (4, .ref am), (5, .ref aq), (6, .ref ag)]) hx hb dL_act_205 hl (by decide) rfl (fun ls hl => ?_)
      have ih320 : ∀ (_z : Unit), (0) < 1 → ∀ (H : Heap) (locs : List Loc), va_P D vwCl ([(am, .inl (cI, 10, .inl fm)), (aa, .inl (cI, 48, .inl fa)), (aq, .inl (cL, 10, .inr (.inl fq))), (ag, .inl (cI, 3, .inl fg))] ++ lmW cI cT xo ta tr br tx hi ra s0 j0) H → va_D A ([(am, .inl (cI, 10, .inl fm)), (aa, .inl (cI, 48, .inl fa)), (aq, .inl (cL, 10, .inr (.inl fq))), (ag, .inl (cI, 3, .inl fg))] ++ lmW cI cT xo ta tr br tx hi ra s0 j0) → va_S A s.heap H locs → ∀ ls : Array Slot, lv_has ls 15 [(0, .ref (xo 0)), (1, .int xv), (2, .int yv), (3, .ref aa), (4, .ref am), (5, .ref aq), (6, .ref ag), (7, .int (nI t7)), (8, .int (nI (lowN xv 14))), (9, .int (stI s0.1 t7))] → W p l e rL_act s m args below meth c H locs 0 0 Q (F0 m 320 ls []) := by
        intro _z  _ H locs hP hD hS ls hl
        refine lv_iload hx hb dL_act_320 (lv_at hl 8 rfl) ?_
        refine lv_bipush (v := (nI 9)) hx hb dL_act_322 (by decide) ?_
        refine lv_icmp_ge (tgt := 501) hx hb dL_act_324 (by decide) (fun h_2 => ?_) (fun h_2 => ?_)
        · have h_2 := (nI_leI (a := 9) (b := (lowN xv 14)) (by decide) (by omega)).mp h_2
          refine lv_iload hx hb dL_act_501 (lv_at hl 8 rfl) ?_
          refine lv_bipush (v := (nI 9)) hx hb dL_act_503 (by decide) ?_
          refine lv_icmp_ne (tgt := 599) hx hb dL_act_505 (by decide) (fun h_3 => ?_) (fun h_3 => ?_)
          · have h_3 := mt (nI_eq (a := (lowN xv 14)) (b := 9) (by omega) (by decide)).mpr h_3
            refine lv_iload hx hb dL_act_599 (lv_at hl 8 rfl) ?_
            refine lv_bipush (v := (nI 10)) hx hb dL_act_601 (by decide) ?_
            refine lv_icmp_ne (tgt := 664) hx hb dL_act_603 (by decide) (fun h_4 => ?_) (fun h_4 => ?_)
            · have h_4 := mt (nI_eq (a := (lowN xv 14)) (b := 10) (by omega) (by decide)).mpr h_4
              refine lv_iload hx hb dL_act_664 (lv_at hl 8 rfl) ?_
              refine lv_bipush (v := (nI 13)) hx hb dL_act_666 (by decide) ?_
              refine lv_icmp_ge (tgt := 723) hx hb dL_act_668 (by decide) (fun h_5 => ?_) (fun h_5 => ?_)
              · have h_5 := (nI_leI (a := 13) (b := (lowN xv 14)) (by decide) (by omega)).mp h_5
                refine lv_iload hx hb dL_act_723 (lv_at hl 9 rfl) ?_
                refine lv_if_ne (tgt := 745) hx hb dL_act_725 (by decide) (fun h_6 => ?_) (fun h_6 => ?_)
                · have h_6 := h_6
                  refine lv_aload_n hx hb dL_act_745 rfl (lv_at hl 3 rfl) ?_
                  refine lv_aload hx hb dL_act_746 (lv_at hl 4 rfl) ?_
                  refine lv_aload hx hb dL_act_748 (lv_at hl 5 rfl) ?_
                  refine lv_iload hx hb dL_act_750 (lv_at hl 7 rfl) ?_
                  refine call_lB (X := []) (Wc := [(am, .inl (cI, 10, .inl fm)), (aa, .inl (cI, 48, .inl fa)), (aq, .inl (cL, 10, .inr (.inl fq)))]) (Z := [(ag, .inl (cI, 3, .inl fg))]) (LM := lmW cI cT xo ta tr br tx hi ra s0 j0) (As := [.ref aa, .ref am, .ref aq, .int (nI t7)]) (rest := []) ⟨hx, hb, hml, hown, hts⟩ (c_L_ended l D cI cT cL am aa aq fm fa fq s0.1 s0.2.1 t7 ht7 hJ hM hZ hQL) (va_cwS 4 hts gL_act_L_ended rfl rfl rfl (by decide +kernel) ⟨Nat.le_of_ble_eq_true rfl, Nat.le_of_ble_eq_true rfl⟩) hKL hP hD hS hA (fun _ => adw3) rfl hl.1 rfl (Nat.le_of_ble_eq_true rfl) ⟨(show 0 ≤ 40 by omega), (show 0 ≤ 240 by omega)⟩ dL_act_752 (fun rv uu H locs hp hP hD hS => ?_)
                  obtain ⟨fm89, fa89, fq89⟩ := uu
                  obtain ⟨rfl, hM89, hZ89, hQ89⟩ := hp
                  dsimp only at hM89 hZ89 hQ89
                  have hJ89 := JJ_srv (JJ_end hJ ht7)
                  have hG89 := GG_srv (JJ_end hJ ht7) (GG_end (t := t7) hG)
                  have hP : va_P D vwCl ([(am, .inl (cI, 10, .inl fm89)), (aa, .inl (cI, 48, .inl fa89)), (aq, .inl (cL, 10, .inr (.inl fq89))), (ag, .inl (cI, 3, .inl fg))] ++ lmW cI cT xo ta tr br tx hi ra s0 j0) H := hP
                  have hD : va_D A ([(am, .inl (cI, 10, .inl fm89)), (aa, .inl (cI, 48, .inl fa89)), (aq, .inl (cL, 10, .inr (.inl fq89))), (ag, .inl (cI, 3, .inl fg))] ++ lmW cI cT xo ta tr br tx hi ra s0 j0) := hD
                  refine lv_istore (lv' := [(10, .int (nI (srvN (endF s0.1 t7) (rmQ s0.1 s0.2.1 t7)))), (0, .ref (xo 0)), (1, .int xv), (2, .int yv), (3, .ref aa), (4, .ref am), (5, .ref aq), (6, .ref ag), (7, .int (nI t7)), (8, .int (nI (lowN xv 14))), (9, .int (stI s0.1 t7))]) hx hb dL_act_755 hl (by decide) rfl (fun ls hl => ?_)
                  have hBe := BB_k hB (end_80 hJ ht7)
                  refine lv_aload_n hx hb dL_act_757 rfl (lv_at hl 1 rfl) ?_
                  refine lv_iload hx hb dL_act_758 (lv_at hl 8 rfl) ?_
                  refine call_cw (X := [(am, .inl (cI, 10, .inl fm89)), (aa, .inl (cI, 48, .inl fa89)), (aq, .inl (cL, 10, .inr (.inl fq89))), (ag, .inl (cI, 3, .inl fg))]) (Wc := lmW cI cT xo ta tr br tx hi ra s0 j0) (Z := []) (As := [.ref (xo 0), .int (nI t7)]) (rest := []) ⟨hx, hb, hml, hown, hts⟩ (c_L_rollBack l hflag D cI cT cL xo ta tr br tx hi ra s0 j0 (nI t7) hL) (vx_cwSW 2 hts gL_act_L_rollBack rfl rfl rfl (by decide +kernel) ⟨Nat.le_of_ble_eq_true rfl, Nat.le_of_ble_eq_true rfl⟩) hKL (P_nilG hP) (D_nilG hD) hS hA hX (fun _ => adr_lm) rfl hl.1 rfl (Nat.le_of_ble_eq_true rfl) ⟨(show 0 + 2 ≤ 40 by omega), (show 0 + 12 ≤ 240 by omega)⟩ dL_act_760 (fun rv j590 H locs hp hP hD hS => ?_)
                  obtain ⟨s590, hs590⟩ : ∃ z : ST, z = (srvF (endF s0.1 t7) (rmQ s0.1 s0.2.1 t7), srvQ (endF s0.1 t7) (rmQ s0.1 s0.2.1 t7), push s0, s0.2.2.2) := ⟨_, rfl⟩
                  have hop : opRollBack s0 (nI t7) = (0, (nI (srvN (endF s0.1 t7) (rmQ s0.1 s0.2.1 t7))), s590) := by rw [hs590]; exact opRollBack_0 ht7 h_6
                  rw [hop] at hp hP hD
                  have hv9 : rv = (nI (srvN (endF s0.1 t7) (rmQ s0.1 s0.2.1 t7))) := hp.1.trans (wv_0 rfl)
                  rw [hv9]
                  have hL590 : LR s590 j590 := hp.2
                  have hP := P_nilF hP; have hD := D_nilF hD
                  have hP : va_P D vwCl ([(am, .inl (cI, 10, .inl fm89)), (aa, .inl (cI, 48, .inl fa89)), (aq, .inl (cL, 10, .inr (.inl fq89))), (ag, .inl (cI, 3, .inl fg))] ++ lmW cI cT xo ta tr br tx hi ra s590 j590) H := hP
                  have hD : va_D A ([(am, .inl (cI, 10, .inl fm89)), (aa, .inl (cI, 48, .inl fa89)), (aq, .inl (cL, 10, .inr (.inl fq89))), (ag, .inl (cI, 3, .inl fg))] ++ lmW cI cT xo ta tr br tx hi ra s590 j590) := hD
                  refine lv_iload hx hb dL_act_763 (lv_at hl 0 rfl) ?_
                  refine lv_icmp_ne (tgt := 772) hx hb dL_act_765 (by decide) (fun h_7 => absurd rfl h_7) (fun h_7 => ?_)
                  have h_7 := h_7
                  refine lv_iconst (v := (nI 1)) hx hb dL_act_768 (by decide) ?_
                  refine lv_goto (tgt := 773) hx hb dL_act_769 (by decide) ?_
                  have hE1 := st_1of hs590
                  have hE2 := st_2of hs590
                  have hRM : MM s590.1 fm89 := by rw [hE1]; exact hM89
                  have hRA : ZA s590.1 fa89 := by rw [hE1]; exact hZ89
                  have hRQ : QL s590.2.1 fq89 := by rw [hE2]; exact hQ89
                  have hRG : GG s590.1 fg := by rw [hE1]; exact hG89
                  have hRB : BB (N + 1) s590.1 := by rw [hE1]; exact hBe
                  exact wretz (u := (s590, j590, fm89, fa89, fq89, fg)) hQ hx hb hrt hlk hS dL_act_773 (by decide) hP ⟨rfl, hL590, hRM, hRA, hRQ, hRG, hRB⟩ ⟨(show 0 + 2 ≤ 40 by omega), (show 0 + 12 ≤ 240 by omega)⟩
                · have h_6 := h_6
                  refine lv_aload_n hx hb dL_act_728 rfl (lv_at hl 0 rfl) ?_
                  refine lv_iload hx hb dL_act_729 (lv_at hl 7 rfl) ?_
                  refine call_cw (X := [(am, .inl (cI, 10, .inl fm)), (aa, .inl (cI, 48, .inl fa)), (aq, .inl (cL, 10, .inr (.inl fq))), (ag, .inl (cI, 3, .inl fg))]) (Wc := lmW cI cT xo ta tr br tx hi ra s0 j0) (Z := []) (As := [.ref (xo 0), .int (nI t7)]) (rest := []) ⟨hx, hb, hml, hown, hts⟩ (c_L_rollBack l hflag D cI cT cL xo ta tr br tx hi ra s0 j0 (nI t7) hL) (vx_cwSW 2 hts gL_act_L_rollBack rfl rfl rfl (by decide +kernel) ⟨Nat.le_of_ble_eq_true rfl, Nat.le_of_ble_eq_true rfl⟩) hKL (P_nilG hP) (D_nilG hD) hS hA hX (fun _ => adr_lm) rfl hl.1 rfl (Nat.le_of_ble_eq_true rfl) ⟨(show 0 + 2 ≤ 40 by omega), (show 0 + 12 ≤ 240 by omega)⟩ dL_act_731 (fun rv j591 H locs hp hP hD hS => ?_)
                  have hop : opRollBack s0 (nI t7) = (2, 0, s0) := opRollBack_2 ht7 h_6
                  rw [hop] at hp hP hD
                  have hv9 : rv = (-33) := hp.1.trans (wv_2 rfl)
                  rw [hv9]
                  have hL591 : LR s0 j591 := hp.2
                  have hP := P_nilF hP; have hD := D_nilF hD
                  have hP : va_P D vwCl ([(am, .inl (cI, 10, .inl fm)), (aa, .inl (cI, 48, .inl fa)), (aq, .inl (cL, 10, .inr (.inl fq))), (ag, .inl (cI, 3, .inl fg))] ++ lmW cI cT xo ta tr br tx hi ra s0 j591) H := hP
                  have hD : va_D A ([(am, .inl (cI, 10, .inl fm)), (aa, .inl (cI, 48, .inl fa)), (aq, .inl (cL, 10, .inr (.inl fq))), (ag, .inl (cI, 3, .inl fg))] ++ lmW cI cT xo ta tr br tx hi ra s0 j591) := hD
                  refine lv_bipush (v := (-33)) hx hb dL_act_734 (by decide) ?_
                  refine lv_icmp_ne (tgt := 743) hx hb dL_act_736 (by decide) (fun h => absurd (by decide) h) (fun _ => ?_)
                  refine lv_iconst (v := (nI 1)) hx hb dL_act_739 (by decide) ?_
                  refine lv_goto (tgt := 744) hx hb dL_act_740 (by decide) ?_
                  exact wretz (u := (s0, j591, fm, fa, fq, fg)) hQ hx hb hrt hlk hS dL_act_744 (by decide) hP ⟨rfl, hL591, hM, hZ, hQL, hG, hB0⟩ ⟨(show 0 + 2 ≤ 40 by omega), (show 0 + 12 ≤ 240 by omega)⟩
              · have h_5 := mt (nI_leI (a := 13) (b := (lowN xv 14)) (by decide) (by omega)).mpr h_5
                refine lv_iload hx hb dL_act_671 (lv_at hl 9 rfl) ?_
                refine lv_iconst (v := (nI 1)) hx hb dL_act_673 (by decide) ?_
                refine lv_icmp_eq (tgt := 694) hx hb dL_act_674 (by decide) (fun h_8 => ?_) (fun h_8 => ?_)
                · have h_8 := h_8
                  refine lv_aload_n hx hb dL_act_694 rfl (lv_at hl 3 rfl) ?_
                  refine lv_aload hx hb dL_act_695 (lv_at hl 4 rfl) ?_
                  refine lv_aload hx hb dL_act_697 (lv_at hl 5 rfl) ?_
                  refine lv_iload hx hb dL_act_699 (lv_at hl 7 rfl) ?_
                  refine call_lB (X := []) (Wc := [(am, .inl (cI, 10, .inl fm)), (aa, .inl (cI, 48, .inl fa)), (aq, .inl (cL, 10, .inr (.inl fq)))]) (Z := [(ag, .inl (cI, 3, .inl fg))]) (LM := lmW cI cT xo ta tr br tx hi ra s0 j0) (As := [.ref aa, .ref am, .ref aq, .int (nI t7)]) (rest := []) ⟨hx, hb, hml, hown, hts⟩ (c_L_ended l D cI cT cL am aa aq fm fa fq s0.1 s0.2.1 t7 ht7 hJ hM hZ hQL) (va_cwS 4 hts gL_act_L_ended rfl rfl rfl (by decide +kernel) ⟨Nat.le_of_ble_eq_true rfl, Nat.le_of_ble_eq_true rfl⟩) hKL hP hD hS hA (fun _ => adw3) rfl hl.1 rfl (Nat.le_of_ble_eq_true rfl) ⟨(show 0 ≤ 40 by omega), (show 0 ≤ 240 by omega)⟩ dL_act_701 (fun rv uu H locs hp hP hD hS => ?_)
                  obtain ⟨fm92, fa92, fq92⟩ := uu
                  obtain ⟨rfl, hM92, hZ92, hQ92⟩ := hp
                  dsimp only at hM92 hZ92 hQ92
                  have hJ92 := JJ_srv (JJ_end hJ ht7)
                  have hG92 := GG_srv (JJ_end hJ ht7) (GG_end (t := t7) hG)
                  have hP : va_P D vwCl ([(am, .inl (cI, 10, .inl fm92)), (aa, .inl (cI, 48, .inl fa92)), (aq, .inl (cL, 10, .inr (.inl fq92))), (ag, .inl (cI, 3, .inl fg))] ++ lmW cI cT xo ta tr br tx hi ra s0 j0) H := hP
                  have hD : va_D A ([(am, .inl (cI, 10, .inl fm92)), (aa, .inl (cI, 48, .inl fa92)), (aq, .inl (cL, 10, .inr (.inl fq92))), (ag, .inl (cI, 3, .inl fg))] ++ lmW cI cT xo ta tr br tx hi ra s0 j0) := hD
                  refine lv_istore (lv' := [(10, .int (nI (srvN (endF s0.1 t7) (rmQ s0.1 s0.2.1 t7)))), (0, .ref (xo 0)), (1, .int xv), (2, .int yv), (3, .ref aa), (4, .ref am), (5, .ref aq), (6, .ref ag), (7, .int (nI t7)), (8, .int (nI (lowN xv 14))), (9, .int (stI s0.1 t7))]) hx hb dL_act_704 hl (by decide) rfl (fun ls hl => ?_)
                  have hBe := BB_k hB (end_80 hJ ht7)
                  refine lv_aload_n hx hb dL_act_706 rfl (lv_at hl 1 rfl) ?_
                  refine lv_iload hx hb dL_act_707 (lv_at hl 8 rfl) ?_
                  refine call_cw (X := [(am, .inl (cI, 10, .inl fm92)), (aa, .inl (cI, 48, .inl fa92)), (aq, .inl (cL, 10, .inr (.inl fq92))), (ag, .inl (cI, 3, .inl fg))]) (Wc := lmW cI cT xo ta tr br tx hi ra s0 j0) (Z := []) (As := [.ref (xo 0), .int (nI t7)]) (rest := []) ⟨hx, hb, hml, hown, hts⟩ (c_L_commit l hflag D cI cT cL xo ta tr br tx hi ra s0 j0 (nI t7) hL) (vx_cwSW 2 hts gL_act_L_commit rfl rfl rfl (by decide +kernel) ⟨Nat.le_of_ble_eq_true rfl, Nat.le_of_ble_eq_true rfl⟩) hKL (P_nilG hP) (D_nilG hD) hS hA hX (fun _ => adr_lm) rfl hl.1 rfl (Nat.le_of_ble_eq_true rfl) ⟨(show 0 + 2 ≤ 40 by omega), (show 0 + 12 ≤ 240 by omega)⟩ dL_act_709 (fun rv j593 H locs hp hP hD hS => ?_)
                  obtain ⟨s593, hs593⟩ : ∃ z : ST, z = (srvF (endF s0.1 t7) (rmQ s0.1 s0.2.1 t7), srvQ (endF s0.1 t7) (rmQ s0.1 s0.2.1 t7), push s0, s0.2.2.2) := ⟨_, rfl⟩
                  have hop : opCommit s0 (nI t7) = (0, (nI (srvN (endF s0.1 t7) (rmQ s0.1 s0.2.1 t7))), s593) := by rw [hs593]; exact opCommit_0 ht7 h_8
                  rw [hop] at hp hP hD
                  have hv9 : rv = (nI (srvN (endF s0.1 t7) (rmQ s0.1 s0.2.1 t7))) := hp.1.trans (wv_0 rfl)
                  rw [hv9]
                  have hL593 : LR s593 j593 := hp.2
                  have hP := P_nilF hP; have hD := D_nilF hD
                  have hP : va_P D vwCl ([(am, .inl (cI, 10, .inl fm92)), (aa, .inl (cI, 48, .inl fa92)), (aq, .inl (cL, 10, .inr (.inl fq92))), (ag, .inl (cI, 3, .inl fg))] ++ lmW cI cT xo ta tr br tx hi ra s593 j593) H := hP
                  have hD : va_D A ([(am, .inl (cI, 10, .inl fm92)), (aa, .inl (cI, 48, .inl fa92)), (aq, .inl (cL, 10, .inr (.inl fq92))), (ag, .inl (cI, 3, .inl fg))] ++ lmW cI cT xo ta tr br tx hi ra s593 j593) := hD
                  refine lv_iload hx hb dL_act_712 (lv_at hl 0 rfl) ?_
                  refine lv_icmp_ne (tgt := 721) hx hb dL_act_714 (by decide) (fun h_9 => absurd rfl h_9) (fun h_9 => ?_)
                  have h_9 := h_9
                  refine lv_iconst (v := (nI 1)) hx hb dL_act_717 (by decide) ?_
                  refine lv_goto (tgt := 722) hx hb dL_act_718 (by decide) ?_
                  have hE1 := st_1of hs593
                  have hE2 := st_2of hs593
                  have hRM : MM s593.1 fm92 := by rw [hE1]; exact hM92
                  have hRA : ZA s593.1 fa92 := by rw [hE1]; exact hZ92
                  have hRQ : QL s593.2.1 fq92 := by rw [hE2]; exact hQ92
                  have hRG : GG s593.1 fg := by rw [hE1]; exact hG92
                  have hRB : BB (N + 1) s593.1 := by rw [hE1]; exact hBe
                  exact wretz (u := (s593, j593, fm92, fa92, fq92, fg)) hQ hx hb hrt hlk hS dL_act_722 (by decide) hP ⟨rfl, hL593, hRM, hRA, hRQ, hRG, hRB⟩ ⟨(show 0 + 2 ≤ 40 by omega), (show 0 + 12 ≤ 240 by omega)⟩
                · have h_8 := h_8
                  refine lv_aload_n hx hb dL_act_677 rfl (lv_at hl 0 rfl) ?_
                  refine lv_iload hx hb dL_act_678 (lv_at hl 7 rfl) ?_
                  refine call_cw (X := [(am, .inl (cI, 10, .inl fm)), (aa, .inl (cI, 48, .inl fa)), (aq, .inl (cL, 10, .inr (.inl fq))), (ag, .inl (cI, 3, .inl fg))]) (Wc := lmW cI cT xo ta tr br tx hi ra s0 j0) (Z := []) (As := [.ref (xo 0), .int (nI t7)]) (rest := []) ⟨hx, hb, hml, hown, hts⟩ (c_L_commit l hflag D cI cT cL xo ta tr br tx hi ra s0 j0 (nI t7) hL) (vx_cwSW 2 hts gL_act_L_commit rfl rfl rfl (by decide +kernel) ⟨Nat.le_of_ble_eq_true rfl, Nat.le_of_ble_eq_true rfl⟩) hKL (P_nilG hP) (D_nilG hD) hS hA hX (fun _ => adr_lm) rfl hl.1 rfl (Nat.le_of_ble_eq_true rfl) ⟨(show 0 + 2 ≤ 40 by omega), (show 0 + 12 ≤ 240 by omega)⟩ dL_act_680 (fun rv j594 H locs hp hP hD hS => ?_)
                  have hop : opCommit s0 (nI t7) = (2, 0, s0) := opCommit_2 ht7 h_8
                  rw [hop] at hp hP hD
                  have hv9 : rv = (-33) := hp.1.trans (wv_2 rfl)
                  rw [hv9]
                  have hL594 : LR s0 j594 := hp.2
                  have hP := P_nilF hP; have hD := D_nilF hD
                  have hP : va_P D vwCl ([(am, .inl (cI, 10, .inl fm)), (aa, .inl (cI, 48, .inl fa)), (aq, .inl (cL, 10, .inr (.inl fq))), (ag, .inl (cI, 3, .inl fg))] ++ lmW cI cT xo ta tr br tx hi ra s0 j594) H := hP
                  have hD : va_D A ([(am, .inl (cI, 10, .inl fm)), (aa, .inl (cI, 48, .inl fa)), (aq, .inl (cL, 10, .inr (.inl fq))), (ag, .inl (cI, 3, .inl fg))] ++ lmW cI cT xo ta tr br tx hi ra s0 j594) := hD
                  refine lv_bipush (v := (-33)) hx hb dL_act_683 (by decide) ?_
                  refine lv_icmp_ne (tgt := 692) hx hb dL_act_685 (by decide) (fun h => absurd (by decide) h) (fun _ => ?_)
                  refine lv_iconst (v := (nI 1)) hx hb dL_act_688 (by decide) ?_
                  refine lv_goto (tgt := 693) hx hb dL_act_689 (by decide) ?_
                  exact wretz (u := (s0, j594, fm, fa, fq, fg)) hQ hx hb hrt hlk hS dL_act_693 (by decide) hP ⟨rfl, hL594, hM, hZ, hQL, hG, hB0⟩ ⟨(show 0 + 2 ≤ 40 by omega), (show 0 + 12 ≤ 240 by omega)⟩
            · have h_4 := (nI_eq (a := (lowN xv 14)) (b := 10) (by omega) (by decide)).mp h_4
              refine lv_iload hx hb dL_act_606 (lv_at hl 9 rfl) ?_
              refine lv_iconst (v := (nI 2)) hx hb dL_act_608 (by decide) ?_
              refine lv_icmp_eq (tgt := 629) hx hb dL_act_609 (by decide) (fun h_10 => ?_) (fun h_10 => ?_)
              · have h_10 := h_10
                have hn3 := (st_2.mp h_10).2
                refine lv_aload_n hx hb dL_act_629 rfl (lv_at hl 3 rfl) ?_
                refine lv_aload hx hb dL_act_630 (lv_at hl 5 rfl) ?_
                refine lv_iload hx hb dL_act_632 (lv_at hl 7 rfl) ?_
                refine call_lvB (X := [(am, .inl (cI, 10, .inl fm))]) (Wc := [(aa, .inl (cI, 48, .inl fa)), (aq, .inl (cL, 10, .inr (.inl fq)))]) (Z := [(ag, .inl (cI, 3, .inl fg))]) (LM := lmW cI cT xo ta tr br tx hi ra s0 j0) (As := [.ref aa, .ref aq, .int (nI t7)]) (rest := []) ⟨hx, hb, hml, hown, hts⟩ (c_L_remove l D cI cT cL aa aq fa fq s0.1 s0.2.1 t7 ht7 hn3 hJ hZ hQL) (va_cwS 3 hts gL_act_L_remove rfl rfl rfl (by decide +kernel) ⟨Nat.le_of_ble_eq_true rfl, Nat.le_of_ble_eq_true rfl⟩) hKL hP hD hS hA (fun _ => adw2) rfl hl.1 rfl (Nat.le_of_ble_eq_true rfl) ⟨(show 0 ≤ 40 by omega), (show 0 ≤ 240 by omega)⟩ dL_act_634 (fun uu H locs hp hP hD hS => ?_)
                obtain ⟨fa95, fq95⟩ := uu
                obtain ⟨hZ95, hQ95⟩ := hp
                dsimp only at hZ95 hQ95
                have hJ95 := JJ_rm hJ ht7
                have hMr95 := MM_cg (F' := rmF s0.1 t7) hM (rmF_ne (by decide))
                have hP : va_P D vwCl ([(am, .inl (cI, 10, .inl fm)), (aa, .inl (cI, 48, .inl fa95)), (aq, .inl (cL, 10, .inr (.inl fq95))), (ag, .inl (cI, 3, .inl fg))] ++ lmW cI cT xo ta tr br tx hi ra s0 j0) H := hP
                have hD : va_D A ([(am, .inl (cI, 10, .inl fm)), (aa, .inl (cI, 48, .inl fa95)), (aq, .inl (cL, 10, .inr (.inl fq95))), (ag, .inl (cI, 3, .inl fg))] ++ lmW cI cT xo ta tr br tx hi ra s0 j0) := hD
                refine lv_aload_n hx hb dL_act_637 rfl (lv_at hl 3 rfl) ?_
                refine lv_aload hx hb dL_act_638 (lv_at hl 4 rfl) ?_
                refine lv_aload hx hb dL_act_640 (lv_at hl 5 rfl) ?_
                refine call_lB (X := []) (Wc := [(am, .inl (cI, 10, .inl fm)), (aa, .inl (cI, 48, .inl fa95)), (aq, .inl (cL, 10, .inr (.inl fq95)))]) (Z := [(ag, .inl (cI, 3, .inl fg))]) (LM := lmW cI cT xo ta tr br tx hi ra s0 j0) (As := [.ref aa, .ref am, .ref aq]) (rest := []) ⟨hx, hb, hml, hown, hts⟩ (c_L_serve l D cI cT cL am aa aq fm fa95 fq95 (rmF s0.1 t7) (rmQ s0.1 s0.2.1 t7) hJ95 hMr95 hZ95 hQ95) (va_cwS 3 hts gL_act_L_serve rfl rfl rfl (by decide +kernel) ⟨Nat.le_of_ble_eq_true rfl, Nat.le_of_ble_eq_true rfl⟩) hKL hP hD hS hA (fun _ => adw3) rfl hl.1 rfl (Nat.le_of_ble_eq_true rfl) ⟨(show 0 ≤ 40 by omega), (show 0 ≤ 240 by omega)⟩ dL_act_642 (fun rv uu H locs hp hP hD hS => ?_)
                obtain ⟨fm96, fa96, fq96⟩ := uu
                obtain ⟨rfl, hM96, hZ96, hQ96⟩ := hp
                dsimp only at hM96 hZ96 hQ96
                have hJ96 := JJ_srv hJ95
                have hP : va_P D vwCl ([(am, .inl (cI, 10, .inl fm96)), (aa, .inl (cI, 48, .inl fa96)), (aq, .inl (cL, 10, .inr (.inl fq96))), (ag, .inl (cI, 3, .inl fg))] ++ lmW cI cT xo ta tr br tx hi ra s0 j0) H := hP
                have hD : va_D A ([(am, .inl (cI, 10, .inl fm96)), (aa, .inl (cI, 48, .inl fa96)), (aq, .inl (cL, 10, .inr (.inl fq96))), (ag, .inl (cI, 3, .inl fg))] ++ lmW cI cT xo ta tr br tx hi ra s0 j0) := hD
                refine lv_istore (lv' := [(10, .int (nI (srvN (rmF s0.1 t7) (rmQ s0.1 s0.2.1 t7)))), (0, .ref (xo 0)), (1, .int xv), (2, .int yv), (3, .ref aa), (4, .ref am), (5, .ref aq), (6, .ref ag), (7, .int (nI t7)), (8, .int (nI (lowN xv 14))), (9, .int (stI s0.1 t7))]) hx hb dL_act_645 hl (by decide) rfl (fun ls hl => ?_)
                have hGr := GG_srv (JJ_rm hJ ht7) (GG_cg (F' := rmF s0.1 t7) hG (rmF_ne (by decide)))
                have hBr := BB_k hB (rm_80 hJ ht7)
                refine lv_aload_n hx hb dL_act_647 rfl (lv_at hl 1 rfl) ?_
                refine lv_iload hx hb dL_act_648 (lv_at hl 8 rfl) ?_
                refine call_cw (X := [(am, .inl (cI, 10, .inl fm96)), (aa, .inl (cI, 48, .inl fa96)), (aq, .inl (cL, 10, .inr (.inl fq96))), (ag, .inl (cI, 3, .inl fg))]) (Wc := lmW cI cT xo ta tr br tx hi ra s0 j0) (Z := []) (As := [.ref (xo 0), .int (nI t7)]) (rest := []) ⟨hx, hb, hml, hown, hts⟩ (c_L_withdraw l hflag D cI cT cL xo ta tr br tx hi ra s0 j0 (nI t7) hL) (vx_cwSW 2 hts gL_act_L_withdraw rfl rfl rfl (by decide +kernel) ⟨Nat.le_of_ble_eq_true rfl, Nat.le_of_ble_eq_true rfl⟩) hKL (P_nilG hP) (D_nilG hD) hS hA hX (fun _ => adr_lm) rfl hl.1 rfl (Nat.le_of_ble_eq_true rfl) ⟨(show 0 + 2 ≤ 40 by omega), (show 0 + 12 ≤ 240 by omega)⟩ dL_act_650 (fun rv j597 H locs hp hP hD hS => ?_)
                obtain ⟨s597, hs597⟩ : ∃ z : ST, z = (srvF (rmF s0.1 t7) (rmQ s0.1 s0.2.1 t7), srvQ (rmF s0.1 t7) (rmQ s0.1 s0.2.1 t7), push s0, s0.2.2.2) := ⟨_, rfl⟩
                have hop : opWithdraw s0 (nI t7) = (0, (nI (srvN (rmF s0.1 t7) (rmQ s0.1 s0.2.1 t7))), s597) := by rw [hs597]; exact opWithdraw_0 ht7 h_10
                rw [hop] at hp hP hD
                have hv9 : rv = (nI (srvN (rmF s0.1 t7) (rmQ s0.1 s0.2.1 t7))) := hp.1.trans (wv_0 rfl)
                rw [hv9]
                have hL597 : LR s597 j597 := hp.2
                have hP := P_nilF hP; have hD := D_nilF hD
                have hP : va_P D vwCl ([(am, .inl (cI, 10, .inl fm96)), (aa, .inl (cI, 48, .inl fa96)), (aq, .inl (cL, 10, .inr (.inl fq96))), (ag, .inl (cI, 3, .inl fg))] ++ lmW cI cT xo ta tr br tx hi ra s597 j597) H := hP
                have hD : va_D A ([(am, .inl (cI, 10, .inl fm96)), (aa, .inl (cI, 48, .inl fa96)), (aq, .inl (cL, 10, .inr (.inl fq96))), (ag, .inl (cI, 3, .inl fg))] ++ lmW cI cT xo ta tr br tx hi ra s597 j597) := hD
                refine lv_iload hx hb dL_act_653 (lv_at hl 0 rfl) ?_
                refine lv_icmp_ne (tgt := 662) hx hb dL_act_655 (by decide) (fun h_11 => absurd rfl h_11) (fun h_11 => ?_)
                have h_11 := h_11
                refine lv_iconst (v := (nI 1)) hx hb dL_act_658 (by decide) ?_
                refine lv_goto (tgt := 663) hx hb dL_act_659 (by decide) ?_
                have hE1 := st_1of hs597
                have hE2 := st_2of hs597
                have hRM : MM s597.1 fm96 := by rw [hE1]; exact hM96
                have hRA : ZA s597.1 fa96 := by rw [hE1]; exact hZ96
                have hRQ : QL s597.2.1 fq96 := by rw [hE2]; exact hQ96
                have hRG : GG s597.1 fg := by rw [hE1]; exact hGr
                have hRB : BB (N + 1) s597.1 := by rw [hE1]; exact hBr
                exact wretz (u := (s597, j597, fm96, fa96, fq96, fg)) hQ hx hb hrt hlk hS dL_act_663 (by decide) hP ⟨rfl, hL597, hRM, hRA, hRQ, hRG, hRB⟩ ⟨(show 0 + 2 ≤ 40 by omega), (show 0 + 12 ≤ 240 by omega)⟩
              · have h_10 := h_10
                refine lv_aload_n hx hb dL_act_612 rfl (lv_at hl 0 rfl) ?_
                refine lv_iload hx hb dL_act_613 (lv_at hl 7 rfl) ?_
                refine call_cw (X := [(am, .inl (cI, 10, .inl fm)), (aa, .inl (cI, 48, .inl fa)), (aq, .inl (cL, 10, .inr (.inl fq))), (ag, .inl (cI, 3, .inl fg))]) (Wc := lmW cI cT xo ta tr br tx hi ra s0 j0) (Z := []) (As := [.ref (xo 0), .int (nI t7)]) (rest := []) ⟨hx, hb, hml, hown, hts⟩ (c_L_withdraw l hflag D cI cT cL xo ta tr br tx hi ra s0 j0 (nI t7) hL) (vx_cwSW 2 hts gL_act_L_withdraw rfl rfl rfl (by decide +kernel) ⟨Nat.le_of_ble_eq_true rfl, Nat.le_of_ble_eq_true rfl⟩) hKL (P_nilG hP) (D_nilG hD) hS hA hX (fun _ => adr_lm) rfl hl.1 rfl (Nat.le_of_ble_eq_true rfl) ⟨(show 0 + 2 ≤ 40 by omega), (show 0 + 12 ≤ 240 by omega)⟩ dL_act_615 (fun rv j598 H locs hp hP hD hS => ?_)
                have hop : opWithdraw s0 (nI t7) = (2, 0, s0) := opWithdraw_2 ht7 h_10
                rw [hop] at hp hP hD
                have hv9 : rv = (-33) := hp.1.trans (wv_2 rfl)
                rw [hv9]
                have hL598 : LR s0 j598 := hp.2
                have hP := P_nilF hP; have hD := D_nilF hD
                have hP : va_P D vwCl ([(am, .inl (cI, 10, .inl fm)), (aa, .inl (cI, 48, .inl fa)), (aq, .inl (cL, 10, .inr (.inl fq))), (ag, .inl (cI, 3, .inl fg))] ++ lmW cI cT xo ta tr br tx hi ra s0 j598) H := hP
                have hD : va_D A ([(am, .inl (cI, 10, .inl fm)), (aa, .inl (cI, 48, .inl fa)), (aq, .inl (cL, 10, .inr (.inl fq))), (ag, .inl (cI, 3, .inl fg))] ++ lmW cI cT xo ta tr br tx hi ra s0 j598) := hD
                refine lv_bipush (v := (-33)) hx hb dL_act_618 (by decide) ?_
                refine lv_icmp_ne (tgt := 627) hx hb dL_act_620 (by decide) (fun h => absurd (by decide) h) (fun _ => ?_)
                refine lv_iconst (v := (nI 1)) hx hb dL_act_623 (by decide) ?_
                refine lv_goto (tgt := 628) hx hb dL_act_624 (by decide) ?_
                exact wretz (u := (s0, j598, fm, fa, fq, fg)) hQ hx hb hrt hlk hS dL_act_628 (by decide) hP ⟨rfl, hL598, hM, hZ, hQL, hG, hB0⟩ ⟨(show 0 + 2 ≤ 40 by omega), (show 0 + 12 ≤ 240 by omega)⟩
          · have h_3 := (nI_eq (a := (lowN xv 14)) (b := 9) (by omega) (by decide)).mp h_3
            have ih531 : ∀ (w7 : Nat), (w7 < 1000) → (0) < 1 → ∀ (H : Heap) (locs : List Loc), va_P D vwCl ([(am, .inl (cI, 10, .inl fm)), (aa, .inl (cI, 48, .inl fa)), (aq, .inl (cL, 10, .inr (.inl fq))), (ag, .inl (cI, 3, .inl fg))] ++ lmW cI cT xo ta tr br tx hi ra s0 j0) H → va_D A ([(am, .inl (cI, 10, .inl fm)), (aa, .inl (cI, 48, .inl fa)), (aq, .inl (cL, 10, .inr (.inl fq))), (ag, .inl (cI, 3, .inl fg))] ++ lmW cI cT xo ta tr br tx hi ra s0 j0) → va_S A s.heap H locs → ∀ ls : Array Slot, lv_has ls 15 [(0, .ref (xo 0)), (1, .int xv), (2, .int yv), (3, .ref aa), (4, .ref am), (5, .ref aq), (6, .ref ag), (7, .int (nI t7)), (8, .int (nI (lowN xv 14))), (9, .int (stI s0.1 t7))] → W p l e rL_act s m args below meth c H locs 0 0 Q (F0 m 531 ls [.int (nI w7), .int (nI 1)]) := by
              intro w7 hw7 _ H locs hP hD hS ls hl
              refine lv_iadd hx hb dL_act_531 ?_
              refine tpe (y := (nI (1 + w7))) (nI_add _ _) ?_
              refine lv_istore (lv' := [(10, .int (nI (1 + w7))), (0, .ref (xo 0)), (1, .int xv), (2, .int yv), (3, .ref aa), (4, .ref am), (5, .ref aq), (6, .ref ag), (7, .int (nI t7)), (8, .int (nI (lowN xv 14))), (9, .int (stI s0.1 t7))]) hx hb dL_act_532 hl (by decide) rfl (fun ls hl => ?_)
              refine lv_iload hx hb dL_act_534 (lv_at hl 10 rfl) ?_
              refine lv_iconst (v := (nI 1)) hx hb dL_act_536 (by decide) ?_
              refine lv_icmp_eq (tgt := 559) hx hb dL_act_537 (by decide) (fun h_12 => ?_) (fun h_12 => ?_)
              · have h_12 := h_12
                refine lv_aload_n hx hb dL_act_559 rfl (lv_at hl 4 rfl) ?_
                refine lv_bipush (v := (nI 6)) hx hb dL_act_560 (by decide) ?_
                refine lv_iload hx hb dL_act_562 (lv_at hl 8 rfl) ?_
                refine lv_imul hx hb dL_act_564 ?_
                refine tpe (y := (nI (6 * t7))) (pk_mul _ _) ?_
                refine lv_iconst (v := (nI 1)) hx hb dL_act_565 (by decide) ?_
                refine lv_iadd hx hb dL_act_566 ?_
                refine tpe (y := (nI (6 * t7 + 1))) (nI_add _ _) ?_
                refine lv_dup2_11 hx hb dL_act_567 rfl rfl ?_
                refine r_ild (k := (6 * t7 + 1)) hx hb hK hP 1 rfl (by omega) (by decide) dL_act_568 ?_
                refine tpe (y := (s0.1 1 t7)) (ZA1 hZ ht7) ?_
                refine lv_iload hx hb dL_act_569 (lv_at hl 0 rfl) ?_
                refine lv_iadd hx hb dL_act_571 ?_
                refine r_ist (k := (6 * t7 + 1)) hx hb hK hP hD hS 1 rfl (by omega) (by decide) dL_act_572 (fun H locs hP hD hS => ?_)
                have hP : va_P D vwCl ([(am, .inl (cI, 10, .inl fm)), (aa, .inl (cI, 48, .inl (upd fa (6 * t7 + 1) ((s0.1 1 t7) + (nI (1 + w7)))))), (aq, .inl (cL, 10, .inr (.inl fq))), (ag, .inl (cI, 3, .inl fg))] ++ lmW cI cT xo ta tr br tx hi ra s0 j0) H := hP
                have hD : va_D A ([(am, .inl (cI, 10, .inl fm)), (aa, .inl (cI, 48, .inl (upd fa (6 * t7 + 1) ((s0.1 1 t7) + (nI (1 + w7)))))), (aq, .inl (cL, 10, .inr (.inl fq))), (ag, .inl (cI, 3, .inl fg))] ++ lmW cI cT xo ta tr br tx hi ra s0 j0) := hD
                have hZw := ZA_k (k := 1) (v := s0.1 1 t7 + nI (1 + w7)) hZ ht7 (Or.inl rfl)
                have hMw := MM_cg (F' := up s0.1 1 t7 (s0.1 1 t7 + nI (1 + w7))) hM (up_ne (by decide))
                have hGw := GG_cg (F' := up s0.1 1 t7 (s0.1 1 t7 + nI (1 + w7))) hG (up_ne (by decide))
                have hBw := BB_k (F' := up s0.1 1 t7 (s0.1 1 t7 + nI (1 + w7))) hB (by rw [up_ne (by decide)])
                have hP : va_P D vwCl ([(am, .inl (cI, 10, .inl fm)), (aa, .inl (cI, 48, .inl (upd fa (6 * t7 + 1) (s0.1 1 t7 + nI (1 + w7))))), (aq, .inl (cL, 10, .inr (.inl fq))), (ag, .inl (cI, 3, .inl fg))] ++ lmW cI cT xo ta tr br tx hi ra s0 j0) H := hP
                have hD : va_D A ([(am, .inl (cI, 10, .inl fm)), (aa, .inl (cI, 48, .inl (upd fa (6 * t7 + 1) (s0.1 1 t7 + nI (1 + w7))))), (aq, .inl (cL, 10, .inr (.inl fq))), (ag, .inl (cI, 3, .inl fg))] ++ lmW cI cT xo ta tr br tx hi ra s0 j0) := hD
                refine lv_aload_n hx hb dL_act_573 rfl (lv_at hl 1 rfl) ?_
                refine lv_iload hx hb dL_act_574 (lv_at hl 8 rfl) ?_
                refine lv_iload hx hb dL_act_576 (lv_at hl 0 rfl) ?_
                refine call_cw (X := [(am, .inl (cI, 10, .inl fm)), (aa, .inl (cI, 48, .inl (upd fa (6 * t7 + 1) (s0.1 1 t7 + nI (1 + w7))))), (aq, .inl (cL, 10, .inr (.inl fq))), (ag, .inl (cI, 3, .inl fg))]) (Wc := lmW cI cT xo ta tr br tx hi ra s0 j0) (Z := []) (As := [.ref (xo 0), .int (nI t7), .int (nI (1 + w7))]) (rest := []) ⟨hx, hb, hml, hown, hts⟩ (c_L_work l hflag D cI cT cL xo ta tr br tx hi ra s0 j0 (nI t7) ((nI (1 + w7))) hL) (vx_cwSW 3 hts gL_act_L_work rfl rfl rfl (by decide +kernel) ⟨Nat.le_of_ble_eq_true rfl, Nat.le_of_ble_eq_true rfl⟩) hKL (P_nilG hP) (D_nilG hD) hS hA hX (fun _ => adr_lm) rfl hl.1 rfl (Nat.le_of_ble_eq_true rfl) ⟨(show 0 + 3 ≤ 40 by omega), (show 0 + 18 ≤ 240 by omega)⟩ dL_act_578 (fun rv j599 H locs hp hP hD hS => ?_)
                obtain ⟨s599, hs599⟩ : ∃ z : ST, z = (up s0.1 1 t7 (s0.1 1 t7 + nI (1 + w7)), s0.2.1, push s0, s0.2.2.2) := ⟨_, rfl⟩
                have hop : opWork s0 (nI t7) ((nI (1 + w7))) = (0, (s0.1 1 t7 + nI (1 + w7)), s599) := by rw [hs599]; exact opWork_0 ht7 (nI_nlt (by omega) (by omega)) (nI_nlt (by omega) (by omega)) h_12
                rw [hop] at hp hP hD
                have hv9 : rv = (s0.1 1 t7 + nI (1 + w7)) := hp.1.trans (wv_0 rfl)
                rw [hv9]
                have hL599 : LR s599 j599 := hp.2
                have hP := P_nilF hP; have hD := D_nilF hD
                have hP : va_P D vwCl ([(am, .inl (cI, 10, .inl fm)), (aa, .inl (cI, 48, .inl (upd fa (6 * t7 + 1) (s0.1 1 t7 + nI (1 + w7))))), (aq, .inl (cL, 10, .inr (.inl fq))), (ag, .inl (cI, 3, .inl fg))] ++ lmW cI cT xo ta tr br tx hi ra s599 j599) H := hP
                have hD : va_D A ([(am, .inl (cI, 10, .inl fm)), (aa, .inl (cI, 48, .inl (upd fa (6 * t7 + 1) (s0.1 1 t7 + nI (1 + w7))))), (aq, .inl (cL, 10, .inr (.inl fq))), (ag, .inl (cI, 3, .inl fg))] ++ lmW cI cT xo ta tr br tx hi ra s599 j599) := hD
                refine lv_aload_n hx hb dL_act_581 rfl (lv_at hl 4 rfl) ?_
                refine lv_bipush (v := (nI 6)) hx hb dL_act_582 (by decide) ?_
                refine lv_iload hx hb dL_act_584 (lv_at hl 8 rfl) ?_
                refine lv_imul hx hb dL_act_586 ?_
                refine tpe (y := (nI (6 * t7))) (pk_mul _ _) ?_
                refine lv_iconst (v := (nI 1)) hx hb dL_act_587 (by decide) ?_
                refine lv_iadd hx hb dL_act_588 ?_
                refine tpe (y := (nI (6 * t7 + 1))) (nI_add _ _) ?_
                refine r_ild (k := (6 * t7 + 1)) hx hb hK hP 1 rfl (by omega) (by decide) dL_act_589 ?_
                refine tpe (y := ((up s0.1 1 t7 (s0.1 1 t7 + nI (1 + w7))) 1 t7)) (ZA1 hZw ht7) ?_
                refine lv_icmp_ne (tgt := 597) hx hb dL_act_590 (by decide) (fun h_13 => absurd wk_v h_13) (fun h_13 => ?_)
                have h_13 := h_13
                refine lv_iconst (v := (nI 1)) hx hb dL_act_593 (by decide) ?_
                refine lv_goto (tgt := 598) hx hb dL_act_594 (by decide) ?_
                have hE1 := st_1of hs599
                have hE2 := st_2of hs599
                have hRM : MM s599.1 fm := by rw [hE1]; exact hMw
                have hRA : ZA s599.1 (upd fa (6 * t7 + 1) (s0.1 1 t7 + nI (1 + w7))) := by rw [hE1]; exact hZw
                have hRQ : QL s599.2.1 fq := by rw [hE2]; exact hQL
                have hRG : GG s599.1 fg := by rw [hE1]; exact hGw
                have hRB : BB (N + 1) s599.1 := by rw [hE1]; exact hBw
                exact wretz (u := (s599, j599, fm, upd fa (6 * t7 + 1) (s0.1 1 t7 + nI (1 + w7)), fq, fg)) hQ hx hb hrt hlk hS dL_act_598 (by decide) hP ⟨rfl, hL599, hRM, hRA, hRQ, hRG, hRB⟩ ⟨(show 0 + 3 ≤ 40 by omega), (show 0 + 18 ≤ 240 by omega)⟩
              · have h_12 := h_12
                refine lv_aload_n hx hb dL_act_540 rfl (lv_at hl 1 rfl) ?_
                refine lv_iload hx hb dL_act_541 (lv_at hl 8 rfl) ?_
                refine lv_iload hx hb dL_act_543 (lv_at hl 0 rfl) ?_
                refine call_cw (X := [(am, .inl (cI, 10, .inl fm)), (aa, .inl (cI, 48, .inl fa)), (aq, .inl (cL, 10, .inr (.inl fq))), (ag, .inl (cI, 3, .inl fg))]) (Wc := lmW cI cT xo ta tr br tx hi ra s0 j0) (Z := []) (As := [.ref (xo 0), .int (nI t7), .int (nI (1 + w7))]) (rest := []) ⟨hx, hb, hml, hown, hts⟩ (c_L_work l hflag D cI cT cL xo ta tr br tx hi ra s0 j0 (nI t7) ((nI (1 + w7))) hL) (vx_cwSW 3 hts gL_act_L_work rfl rfl rfl (by decide +kernel) ⟨Nat.le_of_ble_eq_true rfl, Nat.le_of_ble_eq_true rfl⟩) hKL (P_nilG hP) (D_nilG hD) hS hA hX (fun _ => adr_lm) rfl hl.1 rfl (Nat.le_of_ble_eq_true rfl) ⟨(show 0 + 3 ≤ 40 by omega), (show 0 + 18 ≤ 240 by omega)⟩ dL_act_545 (fun rv j600 H locs hp hP hD hS => ?_)
                have hop : opWork s0 (nI t7) ((nI (1 + w7))) = (3, 0, s0) := opWork_3 ht7 (nI_nlt (by omega) (by omega)) (nI_nlt (by omega) (by omega)) h_12
                rw [hop] at hp hP hD
                have hv9 : rv = (-33) := hp.1.trans (wv_3 rfl)
                rw [hv9]
                have hL600 : LR s0 j600 := hp.2
                have hP := P_nilF hP; have hD := D_nilF hD
                have hP : va_P D vwCl ([(am, .inl (cI, 10, .inl fm)), (aa, .inl (cI, 48, .inl fa)), (aq, .inl (cL, 10, .inr (.inl fq))), (ag, .inl (cI, 3, .inl fg))] ++ lmW cI cT xo ta tr br tx hi ra s0 j600) H := hP
                have hD : va_D A ([(am, .inl (cI, 10, .inl fm)), (aa, .inl (cI, 48, .inl fa)), (aq, .inl (cL, 10, .inr (.inl fq))), (ag, .inl (cI, 3, .inl fg))] ++ lmW cI cT xo ta tr br tx hi ra s0 j600) := hD
                refine lv_bipush (v := (-33)) hx hb dL_act_548 (by decide) ?_
                refine lv_icmp_ne (tgt := 557) hx hb dL_act_550 (by decide) (fun h => absurd (by decide) h) (fun _ => ?_)
                refine lv_iconst (v := (nI 1)) hx hb dL_act_553 (by decide) ?_
                refine lv_goto (tgt := 558) hx hb dL_act_554 (by decide) ?_
                exact wretz (u := (s0, j600, fm, fa, fq, fg)) hQ hx hb hrt hlk hS dL_act_558 (by decide) hP ⟨rfl, hL600, hM, hZ, hQL, hG, hB0⟩ ⟨(show 0 + 3 ≤ 40 by omega), (show 0 + 18 ≤ 240 by omega)⟩
            refine lv_iconst (v := (nI 1)) hx hb dL_act_508 (by decide) ?_
            refine lv_iload_n hx hb dL_act_509 rfl (lv_at hl 2 rfl) ?_
            refine lv_iconst (v := (nI 3)) hx hb dL_act_510 (by decide) ?_
            refine lv_ishr hx hb dL_act_511 ?_
            refine lv_iload_n hx hb dL_act_512 rfl (lv_at hl 2 rfl) ?_
            refine lv_bipush (v := (nI 12)) hx hb dL_act_513 (by decide) ?_
            refine lv_ishr hx hb dL_act_515 ?_
            refine lv_iconst (v := (nI 3)) hx hb dL_act_516 (by decide) ?_
            refine lv_iand hx hb dL_act_517 ?_
            refine lv_if_ne (tgt := 527) hx hb dL_act_518 (by decide) (fun h_14 => ?_) (fun h_14 => ?_)
            · have h_14 := h_14
              refine lv_iconst (v := (nI 4)) hx hb dL_act_527 (by decide) ?_
              refine call_l (X := [(am, .inl (cI, 10, .inl fm)), (aa, .inl (cI, 48, .inl fa)), (aq, .inl (cL, 10, .inr (.inl fq))), (ag, .inl (cI, 3, .inl fg))] ++ lmW cI cT xo ta tr br tx hi ra s0 j0) (Wc := []) (Z := []) (As := [.int (yv >>> ((nI 3) &&& 31)), .int (nI 4)]) (rest := [.int (nI 1)]) ⟨hx, hb, hml, hown, hts⟩ (c_L_low l D cI cT cL ((yv >>> ((nI 3) &&& 31))) 4 (by decide) (by decide)) (va_cwS 2 hts gL_act_L_low rfl rfl rfl (by decide +kernel) ⟨Nat.le_of_ble_eq_true rfl, Nat.le_of_ble_eq_true rfl⟩) hKL (P_nilr hP) (D_nilr hD) hS hA (fun _ => rfl) rfl hl.1 rfl (Nat.le_of_ble_eq_true rfl) ⟨(show 0 ≤ 40 by omega), (show 0 ≤ 240 by omega)⟩ dL_act_528 (fun rv uu H locs hp hP hD hS => ?_)
              have hP := P_nil2 hP
              have hD := D_nil2 hD
              obtain rfl := hp
              have hP : va_P D vwCl ([(am, .inl (cI, 10, .inl fm)), (aa, .inl (cI, 48, .inl fa)), (aq, .inl (cL, 10, .inr (.inl fq))), (ag, .inl (cI, 3, .inl fg))] ++ lmW cI cT xo ta tr br tx hi ra s0 j0) H := hP
              have hD : va_D A ([(am, .inl (cI, 10, .inl fm)), (aa, .inl (cI, 48, .inl fa)), (aq, .inl (cL, 10, .inr (.inl fq))), (ag, .inl (cI, 3, .inl fg))] ++ lmW cI cT xo ta tr br tx hi ra s0 j0) := hD
              exact ih531 (lowN ((yv >>> ((nI 3) &&& 31))) 4) (Nat.lt_of_lt_of_le (lowN_lt (by decide)) (by decide)) (by decide) _ _ hP hD hS _ (lv_sub hl [0, 1, 2, 3, 4, 5, 6, 7, 8, 9] rfl)
            · have h_14 := h_14
              refine lv_sipush (v := (nI 1000)) hx hb dL_act_521 (by decide) ?_
              refine lv_goto (tgt := 528) hx hb dL_act_524 (by decide) ?_
              refine call_l (X := [(am, .inl (cI, 10, .inl fm)), (aa, .inl (cI, 48, .inl fa)), (aq, .inl (cL, 10, .inr (.inl fq))), (ag, .inl (cI, 3, .inl fg))] ++ lmW cI cT xo ta tr br tx hi ra s0 j0) (Wc := []) (Z := []) (As := [.int (yv >>> ((nI 3) &&& 31)), .int (nI 1000)]) (rest := [.int (nI 1)]) ⟨hx, hb, hml, hown, hts⟩ (c_L_low l D cI cT cL ((yv >>> ((nI 3) &&& 31))) 1000 (by decide) (by decide)) (va_cwS 2 hts gL_act_L_low rfl rfl rfl (by decide +kernel) ⟨Nat.le_of_ble_eq_true rfl, Nat.le_of_ble_eq_true rfl⟩) hKL (P_nilr hP) (D_nilr hD) hS hA (fun _ => rfl) rfl hl.1 rfl (Nat.le_of_ble_eq_true rfl) ⟨(show 0 ≤ 40 by omega), (show 0 ≤ 240 by omega)⟩ dL_act_528 (fun rv uu H locs hp hP hD hS => ?_)
              have hP := P_nil2 hP
              have hD := D_nil2 hD
              obtain rfl := hp
              have hP : va_P D vwCl ([(am, .inl (cI, 10, .inl fm)), (aa, .inl (cI, 48, .inl fa)), (aq, .inl (cL, 10, .inr (.inl fq))), (ag, .inl (cI, 3, .inl fg))] ++ lmW cI cT xo ta tr br tx hi ra s0 j0) H := hP
              have hD : va_D A ([(am, .inl (cI, 10, .inl fm)), (aa, .inl (cI, 48, .inl fa)), (aq, .inl (cL, 10, .inr (.inl fq))), (ag, .inl (cI, 3, .inl fg))] ++ lmW cI cT xo ta tr br tx hi ra s0 j0) := hD
              exact ih531 (lowN ((yv >>> ((nI 3) &&& 31))) 1000) (Nat.lt_of_lt_of_le (lowN_lt (by decide)) (by decide)) (by decide) _ _ hP hD hS _ (lv_sub hl [0, 1, 2, 3, 4, 5, 6, 7, 8, 9] rfl)
        · have h_2 := mt (nI_leI (a := 9) (b := (lowN xv 14)) (by decide) (by omega)).mpr h_2
          have ih349 : ∀ (r7 : Nat), (r7 < 10) → (0) < 1 → ∀ (H : Heap) (locs : List Loc), va_P D vwCl ([(am, .inl (cI, 10, .inl fm)), (aa, .inl (cI, 48, .inl fa)), (aq, .inl (cL, 10, .inr (.inl fq))), (ag, .inl (cI, 3, .inl fg))] ++ lmW cI cT xo ta tr br tx hi ra s0 j0) H → va_D A ([(am, .inl (cI, 10, .inl fm)), (aa, .inl (cI, 48, .inl fa)), (aq, .inl (cL, 10, .inr (.inl fq))), (ag, .inl (cI, 3, .inl fg))] ++ lmW cI cT xo ta tr br tx hi ra s0 j0) → va_S A s.heap H locs → ∀ ls : Array Slot, lv_has ls 15 [(0, .ref (xo 0)), (1, .int xv), (2, .int yv), (3, .ref aa), (4, .ref am), (5, .ref aq), (6, .ref ag), (7, .int (nI t7)), (8, .int (nI (lowN xv 14))), (9, .int (stI s0.1 t7))] → W p l e rL_act s m args below meth c H locs 0 0 Q (F0 m 349 ls [.int (nI r7)]) := by
            intro r7 hr7 _ H locs hP hD hS ls hl
            refine lv_istore (lv' := [(10, .int (nI r7)), (0, .ref (xo 0)), (1, .int xv), (2, .int yv), (3, .ref aa), (4, .ref am), (5, .ref aq), (6, .ref ag), (7, .int (nI t7)), (8, .int (nI (lowN xv 14))), (9, .int (stI s0.1 t7))]) hx hb dL_act_349 hl (by decide) rfl (fun ls hl => ?_)
            refine lv_iconst (v := (nI 1)) hx hb dL_act_351 (by decide) ?_
            refine lv_iload_n hx hb dL_act_352 rfl (lv_at hl 3 rfl) ?_
            refine lv_bipush (v := (nI 6)) hx hb dL_act_353 (by decide) ?_
            refine lv_ishr hx hb dL_act_355 ?_
            refine lv_iconst (v := (nI 1)) hx hb dL_act_356 (by decide) ?_
            refine lv_iand hx hb dL_act_357 ?_
            refine lv_iadd hx hb dL_act_358 ?_
            obtain ⟨mo, emo⟩ : ∃ mo, mo = (nI 1) + ((yv >>> ((nI 6) &&& 31)) &&& (nI 1)) := ⟨_, rfl⟩
            have hmo : mo = nI 1 ∨ mo = nI 2 := by rw [emo]; exact mo_of _
            refine tpe (y := mo) emo.symm ?_
            refine lv_istore (lv' := [(11, .int mo), (10, .int (nI r7)), (0, .ref (xo 0)), (1, .int xv), (2, .int yv), (3, .ref aa), (4, .ref am), (5, .ref aq), (6, .ref ag), (7, .int (nI t7)), (8, .int (nI (lowN xv 14))), (9, .int (stI s0.1 t7))]) hx hb dL_act_359 hl (by decide) rfl (fun ls hl => ?_)
            refine lv_iload hx hb dL_act_361 (lv_at hl 11 rfl) ?_
            refine lv_iconst (v := (nI 1)) hx hb dL_act_363 (by decide) ?_
            refine lv_icmp_eq (tgt := 415) hx hb dL_act_364 (by decide) (fun h_15 => ?_) (fun h_15 => ?_)
            · have h_15 := h_15
              have h3 := (st_1.mp h_15).2
              have h0 := (st_1.mp h_15).1
              refine lv_aload_n hx hb dL_act_415 rfl (lv_at hl 2 rfl) ?_
              refine lv_iload hx hb dL_act_416 (lv_at hl 9 rfl) ?_
              refine lv_iload hx hb dL_act_418 (lv_at hl 1 rfl) ?_
              refine lv_iload hx hb dL_act_420 (lv_at hl 0 rfl) ?_
              refine call_cw (X := [(am, .inl (cI, 10, .inl fm)), (aa, .inl (cI, 48, .inl fa)), (aq, .inl (cL, 10, .inr (.inl fq))), (ag, .inl (cI, 3, .inl fg))]) (Wc := lmW cI cT xo ta tr br tx hi ra s0 j0) (Z := []) (As := [.ref (xo 0), .int (nI t7), .int (nI r7), .int mo]) (rest := []) ⟨hx, hb, hml, hown, hts⟩ (c_L_ifRequested l hflag D cI cT cL xo ta tr br tx hi ra s0 j0 (nI t7) (nI r7) mo hL) (vx_cwSW 4 hts gL_act_L_ifRequested rfl rfl rfl (by decide +kernel) ⟨Nat.le_of_ble_eq_true rfl, Nat.le_of_ble_eq_true rfl⟩) hKL (P_nilG hP) (D_nilG hD) hS hA hX (fun _ => adr_lm) rfl hl.1 rfl (Nat.le_of_ble_eq_true rfl) ⟨(show 0 + 3 ≤ 40 by omega), (show 0 + 18 ≤ 240 by omega)⟩ dL_act_422 (fun rv j601 H locs hp hP hD hS => ?_)
              have hop : opIf s0 (nI t7) (nI r7) mo = (0, (nI (outN (askF s0.1 s0.2.1 t7 r7 mo) t7 r7 mo)), s0) := (opIf_0 ht7 hr7 (md_y hmo) h_15).trans (by rw [outN_I])
              rw [hop] at hp hP hD
              have hv9 : rv = (nI (outN (askF s0.1 s0.2.1 t7 r7 mo) t7 r7 mo)) := hp.1.trans (wv_0 rfl)
              rw [hv9]
              have hL601 : LR s0 j601 := hp.2
              have hP := P_nilF hP; have hD := D_nilF hD
              have hP : va_P D vwCl ([(am, .inl (cI, 10, .inl fm)), (aa, .inl (cI, 48, .inl fa)), (aq, .inl (cL, 10, .inr (.inl fq))), (ag, .inl (cI, 3, .inl fg))] ++ lmW cI cT xo ta tr br tx hi ra s0 j601) H := hP
              have hD : va_D A ([(am, .inl (cI, 10, .inl fm)), (aa, .inl (cI, 48, .inl fa)), (aq, .inl (cL, 10, .inr (.inl fq))), (ag, .inl (cI, 3, .inl fg))] ++ lmW cI cT xo ta tr br tx hi ra s0 j601) := hD
              refine lv_istore (lv' := [(12, .int (nI (outN (askF s0.1 s0.2.1 t7 r7 mo) t7 r7 mo))), (11, .int mo), (10, .int (nI r7)), (0, .ref (xo 0)), (1, .int xv), (2, .int yv), (3, .ref aa), (4, .ref am), (5, .ref aq), (6, .ref ag), (7, .int (nI t7)), (8, .int (nI (lowN xv 14))), (9, .int (stI s0.1 t7))]) hx hb dL_act_425 hl (by decide) rfl (fun ls hl => ?_)
              refine lv_aload_n hx hb dL_act_427 rfl (lv_at hl 3 rfl) ?_
              refine lv_iload hx hb dL_act_428 (lv_at hl 10 rfl) ?_
              refine lv_iload hx hb dL_act_430 (lv_at hl 2 rfl) ?_
              refine lv_iload hx hb dL_act_432 (lv_at hl 1 rfl) ?_
              refine call_cw (X := [(am, .inl (cI, 10, .inl fm)), (aa, .inl (cI, 48, .inl fa)), (aq, .inl (cL, 10, .inr (.inl fq))), (ag, .inl (cI, 3, .inl fg))]) (Wc := lmW cI cT xo ta tr br tx hi ra s0 j601) (Z := []) (As := [.ref (xo 0), .int (nI t7), .int (nI r7), .int mo]) (rest := []) ⟨hx, hb, hml, hown, hts⟩ (c_L_victimsOf l hflag D cI cT cL xo ta tr br tx hi ra s0 j601 (nI t7) (nI r7) mo hL601) (vx_cwSW 4 hts gL_act_L_victimsOf rfl rfl rfl (by decide +kernel) ⟨Nat.le_of_ble_eq_true rfl, Nat.le_of_ble_eq_true rfl⟩) hKL (P_nilG hP) (D_nilG hD) hS hA hX (fun _ => adr_lm) rfl hl.1 rfl (Nat.le_of_ble_eq_true rfl) ⟨(show 0 + 3 + 3 ≤ 40 by omega), (show 0 + 18 + 18 ≤ 240 by omega)⟩ dL_act_434 (fun rv j602 H locs hp hP hD hS => ?_)
              have hop : opVic s0 (nI t7) (nI r7) mo = (0, (nI (askV s0.1 s0.2.1 t7 r7 mo)), s0) := opVic_0 ht7 hr7 (md_y hmo) h_15
              rw [hop] at hp hP hD
              have hv9 : rv = (nI (askV s0.1 s0.2.1 t7 r7 mo)) := hp.1.trans (wv_0 rfl)
              rw [hv9]
              have hL602 : LR s0 j602 := hp.2
              have hP := P_nilF hP; have hD := D_nilF hD
              have hP : va_P D vwCl ([(am, .inl (cI, 10, .inl fm)), (aa, .inl (cI, 48, .inl fa)), (aq, .inl (cL, 10, .inr (.inl fq))), (ag, .inl (cI, 3, .inl fg))] ++ lmW cI cT xo ta tr br tx hi ra s0 j602) H := hP
              have hD : va_D A ([(am, .inl (cI, 10, .inl fm)), (aa, .inl (cI, 48, .inl fa)), (aq, .inl (cL, 10, .inr (.inl fq))), (ag, .inl (cI, 3, .inl fg))] ++ lmW cI cT xo ta tr br tx hi ra s0 j602) := hD
              refine lv_istore (lv' := [(13, .int (nI (askV s0.1 s0.2.1 t7 r7 mo))), (12, .int (nI (outN (askF s0.1 s0.2.1 t7 r7 mo) t7 r7 mo))), (11, .int mo), (10, .int (nI r7)), (0, .ref (xo 0)), (1, .int xv), (2, .int yv), (3, .ref aa), (4, .ref am), (5, .ref aq), (6, .ref ag), (7, .int (nI t7)), (8, .int (nI (lowN xv 14))), (9, .int (stI s0.1 t7))]) hx hb dL_act_437 hl (by decide) rfl (fun ls hl => ?_)
              refine lv_aload_n hx hb dL_act_439 rfl (lv_at hl 7 rfl) ?_
              refine lv_aload hx hb dL_act_440 (lv_at hl 8 rfl) ?_
              refine lv_aload hx hb dL_act_442 (lv_at hl 9 rfl) ?_
              refine lv_aload hx hb dL_act_444 (lv_at hl 10 rfl) ?_
              refine lv_iload hx hb dL_act_446 (lv_at hl 11 rfl) ?_
              refine lv_iload hx hb dL_act_448 (lv_at hl 3 rfl) ?_
              refine lv_iload hx hb dL_act_450 (lv_at hl 2 rfl) ?_
              refine call_lB (X := []) (Wc := [(am, .inl (cI, 10, .inl fm)), (aa, .inl (cI, 48, .inl fa)), (aq, .inl (cL, 10, .inr (.inl fq))), (ag, .inl (cI, 3, .inl fg))]) (Z := []) (LM := lmW cI cT xo ta tr br tx hi ra s0 j602) (As := [.ref aa, .ref am, .ref aq, .ref ag, .int (nI t7), .int (nI r7), .int mo]) (rest := []) ⟨hx, hb, hml, hown, hts⟩ (c_L_requested l D cI cT cL am aa aq ag fm fa fq fg s0.1 s0.2.1 t7 r7 mo ht7 hr7 hmo h3 h0 hJ hM hZ hQL hG) (va_cwS 7 hts gL_act_L_requested rfl rfl rfl (by decide +kernel) ⟨Nat.le_of_ble_eq_true rfl, Nat.le_of_ble_eq_true rfl⟩) hKL hP hD hS hA (fun _ => adw4) rfl hl.1 rfl (Nat.le_of_ble_eq_true rfl) ⟨(show 0 + 3 + 3 ≤ 40 by omega), (show 0 + 18 + 18 ≤ 240 by omega)⟩ dL_act_452 (fun rv uu H locs hp hP hD hS => ?_)
              obtain ⟨fm103, fa103, fq103, fg103⟩ := uu
              obtain ⟨rfl, hM103, hZ103, hQ103, hG103⟩ := hp
              dsimp only at hM103 hZ103 hQ103 hG103
              have hP : va_P D vwCl ([(am, .inl (cI, 10, .inl fm103)), (aa, .inl (cI, 48, .inl fa103)), (aq, .inl (cL, 10, .inr (.inl fq103))), (ag, .inl (cI, 3, .inl fg103))] ++ lmW cI cT xo ta tr br tx hi ra s0 j602) H := hP
              have hD : va_D A ([(am, .inl (cI, 10, .inl fm103)), (aa, .inl (cI, 48, .inl fa103)), (aq, .inl (cL, 10, .inr (.inl fq103))), (ag, .inl (cI, 3, .inl fg103))] ++ lmW cI cT xo ta tr br tx hi ra s0 j602) := hD
              refine lv_istore (lv' := [(14, .int (nI (8 * askV s0.1 s0.2.1 t7 r7 mo + outN (askF s0.1 s0.2.1 t7 r7 mo) t7 r7 mo))), (13, .int (nI (askV s0.1 s0.2.1 t7 r7 mo))), (12, .int (nI (outN (askF s0.1 s0.2.1 t7 r7 mo) t7 r7 mo))), (11, .int mo), (10, .int (nI r7)), (0, .ref (xo 0)), (1, .int xv), (2, .int yv), (3, .ref aa), (4, .ref am), (5, .ref aq), (6, .ref ag), (7, .int (nI t7)), (8, .int (nI (lowN xv 14))), (9, .int (stI s0.1 t7))]) hx hb dL_act_455 hl (by decide) rfl (fun ls hl => ?_)
              refine lv_iload hx hb dL_act_457 (lv_at hl 2 rfl) ?_
              refine lv_iload hx hb dL_act_459 (lv_at hl 0 rfl) ?_
              refine lv_bipush (v := (nI 8)) hx hb dL_act_461 (by decide) ?_
              refine lv_irem hx hb dL_act_463 (by decide) ?_
              refine tpe (y := (nI (outN (askF s0.1 s0.2.1 t7 r7 mo) t7 r7 mo))) (due_r askV_lt outN_lt) ?_
              refine lv_icmp_ne (tgt := 499) hx hb dL_act_464 (by decide) (fun h_16 => absurd rfl h_16) (fun h_16 => ?_)
              have h_16 := h_16
              refine lv_iload hx hb dL_act_467 (lv_at hl 1 rfl) ?_
              refine lv_iload hx hb dL_act_469 (lv_at hl 0 rfl) ?_
              refine lv_bipush (v := (nI 8)) hx hb dL_act_471 (by decide) ?_
              refine lv_idiv hx hb dL_act_473 (by decide) ?_
              refine tpe (y := (nI (askV s0.1 s0.2.1 t7 r7 mo))) (due_d askV_lt outN_lt) ?_
              refine lv_icmp_ne (tgt := 499) hx hb dL_act_474 (by decide) (fun h_17 => absurd rfl h_17) (fun h_17 => ?_)
              have h_17 := h_17
              have hBa := BB_k hB (ask_80 hJ ht7 hr7 h3 h0 hmo)
              refine lv_aload_n hx hb dL_act_477 rfl (lv_at hl 5 rfl) ?_
              refine lv_iload hx hb dL_act_478 (lv_at hl 12 rfl) ?_
              refine lv_iload hx hb dL_act_480 (lv_at hl 4 rfl) ?_
              refine lv_iload hx hb dL_act_482 (lv_at hl 3 rfl) ?_
              refine call_cw (X := [(am, .inl (cI, 10, .inl fm103)), (aa, .inl (cI, 48, .inl fa103)), (aq, .inl (cL, 10, .inr (.inl fq103))), (ag, .inl (cI, 3, .inl fg103))]) (Wc := lmW cI cT xo ta tr br tx hi ra s0 j602) (Z := []) (As := [.ref (xo 0), .int (nI t7), .int (nI r7), .int mo]) (rest := []) ⟨hx, hb, hml, hown, hts⟩ (c_L_request l hflag D cI cT cL xo ta tr br tx hi ra s0 j602 (nI t7) (nI r7) mo hL602) (vx_cwSW 4 hts gL_act_L_request rfl rfl rfl (by decide +kernel) ⟨Nat.le_of_ble_eq_true rfl, Nat.le_of_ble_eq_true rfl⟩) hKL (P_nilG hP) (D_nilG hD) hS hA hX (fun _ => adr_lm) rfl hl.1 rfl (Nat.le_of_ble_eq_true rfl) ⟨(show 0 + 3 + 3 + 4 ≤ 40 by omega), (show 0 + 18 + 18 + 24 ≤ 240 by omega)⟩ dL_act_484 (fun rv j604 H locs hp hP hD hS => ?_)
              obtain ⟨s604, hs604⟩ : ∃ z : ST, z = (askF s0.1 s0.2.1 t7 r7 mo, askQ s0.1 s0.2.1 t7 r7 mo, push s0, s0.2.2.2) := ⟨_, rfl⟩
              have hop : opRequest s0 (nI t7) (nI r7) mo = (0, (nI (outN (askF s0.1 s0.2.1 t7 r7 mo) t7 r7 mo)), s604) := by rw [hs604]; exact (opRequest_0 ht7 hr7 (md_y hmo) h_15).trans (by rw [outN_I])
              rw [hop] at hp hP hD
              have hv9 : rv = (nI (outN (askF s0.1 s0.2.1 t7 r7 mo) t7 r7 mo)) := hp.1.trans (wv_0 rfl)
              rw [hv9]
              have hL604 : LR s604 j604 := hp.2
              have hP := P_nilF hP; have hD := D_nilF hD
              have hP : va_P D vwCl ([(am, .inl (cI, 10, .inl fm103)), (aa, .inl (cI, 48, .inl fa103)), (aq, .inl (cL, 10, .inr (.inl fq103))), (ag, .inl (cI, 3, .inl fg103))] ++ lmW cI cT xo ta tr br tx hi ra s604 j604) H := hP
              have hD : va_D A ([(am, .inl (cI, 10, .inl fm103)), (aa, .inl (cI, 48, .inl fa103)), (aq, .inl (cL, 10, .inr (.inl fq103))), (ag, .inl (cI, 3, .inl fg103))] ++ lmW cI cT xo ta tr br tx hi ra s604 j604) := hD
              refine lv_iload hx hb dL_act_487 (lv_at hl 0 rfl) ?_
              refine lv_bipush (v := (nI 8)) hx hb dL_act_489 (by decide) ?_
              refine lv_irem hx hb dL_act_491 (by decide) ?_
              refine tpe (y := (nI (outN (askF s0.1 s0.2.1 t7 r7 mo) t7 r7 mo))) (due_r askV_lt outN_lt) ?_
              refine lv_icmp_ne (tgt := 499) hx hb dL_act_492 (by decide) (fun h_18 => absurd rfl h_18) (fun h_18 => ?_)
              have h_18 := h_18
              refine lv_iconst (v := (nI 1)) hx hb dL_act_495 (by decide) ?_
              refine lv_goto (tgt := 500) hx hb dL_act_496 (by decide) ?_
              have hE1 := st_1of hs604
              have hE2 := st_2of hs604
              have hRM : MM s604.1 fm103 := by rw [hE1]; exact hM103
              have hRA : ZA s604.1 fa103 := by rw [hE1]; exact hZ103
              have hRQ : QL s604.2.1 fq103 := by rw [hE2]; exact hQ103
              have hRG : GG s604.1 fg103 := by rw [hE1]; exact hG103
              have hRB : BB (N + 1) s604.1 := by rw [hE1]; exact hBa
              exact wretz (u := (s604, j604, fm103, fa103, fq103, fg103)) hQ hx hb hrt hlk hS dL_act_500 (by decide) hP ⟨rfl, hL604, hRM, hRA, hRQ, hRG, hRB⟩ ⟨(show 0 + 3 + 3 + 4 ≤ 40 by omega), (show 0 + 18 + 18 + 24 ≤ 240 by omega)⟩
            · have h_15 := h_15
              refine lv_aload_n hx hb dL_act_367 rfl (lv_at hl 2 rfl) ?_
              refine lv_iload hx hb dL_act_368 (lv_at hl 9 rfl) ?_
              refine lv_iload hx hb dL_act_370 (lv_at hl 1 rfl) ?_
              refine lv_iload hx hb dL_act_372 (lv_at hl 0 rfl) ?_
              refine call_cw (X := [(am, .inl (cI, 10, .inl fm)), (aa, .inl (cI, 48, .inl fa)), (aq, .inl (cL, 10, .inr (.inl fq))), (ag, .inl (cI, 3, .inl fg))]) (Wc := lmW cI cT xo ta tr br tx hi ra s0 j0) (Z := []) (As := [.ref (xo 0), .int (nI t7), .int (nI r7), .int mo]) (rest := []) ⟨hx, hb, hml, hown, hts⟩ (c_L_request l hflag D cI cT cL xo ta tr br tx hi ra s0 j0 (nI t7) (nI r7) mo hL) (vx_cwSW 4 hts gL_act_L_request rfl rfl rfl (by decide +kernel) ⟨Nat.le_of_ble_eq_true rfl, Nat.le_of_ble_eq_true rfl⟩) hKL (P_nilG hP) (D_nilG hD) hS hA hX (fun _ => adr_lm) rfl hl.1 rfl (Nat.le_of_ble_eq_true rfl) ⟨(show 0 + 4 ≤ 40 by omega), (show 0 + 24 ≤ 240 by omega)⟩ dL_act_374 (fun rv j605 H locs hp hP hD hS => ?_)
              have hop : opRequest s0 (nI t7) (nI r7) mo = (3, 0, s0) := opRequest_3 ht7 hr7 (md_y hmo) h_15
              rw [hop] at hp hP hD
              have hv9 : rv = (-33) := hp.1.trans (wv_3 rfl)
              rw [hv9]
              have hL605 : LR s0 j605 := hp.2
              have hP := P_nilF hP; have hD := D_nilF hD
              have hP : va_P D vwCl ([(am, .inl (cI, 10, .inl fm)), (aa, .inl (cI, 48, .inl fa)), (aq, .inl (cL, 10, .inr (.inl fq))), (ag, .inl (cI, 3, .inl fg))] ++ lmW cI cT xo ta tr br tx hi ra s0 j605) H := hP
              have hD : va_D A ([(am, .inl (cI, 10, .inl fm)), (aa, .inl (cI, 48, .inl fa)), (aq, .inl (cL, 10, .inr (.inl fq))), (ag, .inl (cI, 3, .inl fg))] ++ lmW cI cT xo ta tr br tx hi ra s0 j605) := hD
              refine lv_bipush (v := (-33)) hx hb dL_act_377 (by decide) ?_
              refine lv_icmp_ne (tgt := 413) hx hb dL_act_379 (by decide) (fun h => absurd (by decide) h) (fun _ => ?_)
              refine lv_aload_n hx hb dL_act_382 rfl (lv_at hl 2 rfl) ?_
              refine lv_iload hx hb dL_act_383 (lv_at hl 9 rfl) ?_
              refine lv_iload hx hb dL_act_385 (lv_at hl 1 rfl) ?_
              refine lv_iload hx hb dL_act_387 (lv_at hl 0 rfl) ?_
              refine call_cw (X := [(am, .inl (cI, 10, .inl fm)), (aa, .inl (cI, 48, .inl fa)), (aq, .inl (cL, 10, .inr (.inl fq))), (ag, .inl (cI, 3, .inl fg))]) (Wc := lmW cI cT xo ta tr br tx hi ra s0 j605) (Z := []) (As := [.ref (xo 0), .int (nI t7), .int (nI r7), .int mo]) (rest := []) ⟨hx, hb, hml, hown, hts⟩ (c_L_ifRequested l hflag D cI cT cL xo ta tr br tx hi ra s0 j605 (nI t7) (nI r7) mo hL605) (vx_cwSW 4 hts gL_act_L_ifRequested rfl rfl rfl (by decide +kernel) ⟨Nat.le_of_ble_eq_true rfl, Nat.le_of_ble_eq_true rfl⟩) hKL (P_nilG hP) (D_nilG hD) hS hA hX (fun _ => adr_lm) rfl hl.1 rfl (Nat.le_of_ble_eq_true rfl) ⟨(show 0 + 4 + 3 ≤ 40 by omega), (show 0 + 24 + 18 ≤ 240 by omega)⟩ dL_act_389 (fun rv j606 H locs hp hP hD hS => ?_)
              have hop : opIf s0 (nI t7) (nI r7) mo = (0, (-1), s0) := opIf_n ht7 hr7 (md_y hmo) h_15
              rw [hop] at hp hP hD
              have hv9 : rv = (-1) := hp.1.trans (wv_0 rfl)
              rw [hv9]
              have hL606 : LR s0 j606 := hp.2
              have hP := P_nilF hP; have hD := D_nilF hD
              have hP : va_P D vwCl ([(am, .inl (cI, 10, .inl fm)), (aa, .inl (cI, 48, .inl fa)), (aq, .inl (cL, 10, .inr (.inl fq))), (ag, .inl (cI, 3, .inl fg))] ++ lmW cI cT xo ta tr br tx hi ra s0 j606) H := hP
              have hD : va_D A ([(am, .inl (cI, 10, .inl fm)), (aa, .inl (cI, 48, .inl fa)), (aq, .inl (cL, 10, .inr (.inl fq))), (ag, .inl (cI, 3, .inl fg))] ++ lmW cI cT xo ta tr br tx hi ra s0 j606) := hD
              refine lv_iconst (v := (-1)) hx hb dL_act_392 (by decide) ?_
              refine lv_icmp_ne (tgt := 413) hx hb dL_act_393 (by decide) (fun h => absurd (by decide) h) (fun _ => ?_)
              refine lv_aload_n hx hb dL_act_396 rfl (lv_at hl 2 rfl) ?_
              refine lv_iload hx hb dL_act_397 (lv_at hl 9 rfl) ?_
              refine lv_iload hx hb dL_act_399 (lv_at hl 1 rfl) ?_
              refine lv_iload hx hb dL_act_401 (lv_at hl 0 rfl) ?_
              refine call_cw (X := [(am, .inl (cI, 10, .inl fm)), (aa, .inl (cI, 48, .inl fa)), (aq, .inl (cL, 10, .inr (.inl fq))), (ag, .inl (cI, 3, .inl fg))]) (Wc := lmW cI cT xo ta tr br tx hi ra s0 j606) (Z := []) (As := [.ref (xo 0), .int (nI t7), .int (nI r7), .int mo]) (rest := []) ⟨hx, hb, hml, hown, hts⟩ (c_L_victimsOf l hflag D cI cT cL xo ta tr br tx hi ra s0 j606 (nI t7) (nI r7) mo hL606) (vx_cwSW 4 hts gL_act_L_victimsOf rfl rfl rfl (by decide +kernel) ⟨Nat.le_of_ble_eq_true rfl, Nat.le_of_ble_eq_true rfl⟩) hKL (P_nilG hP) (D_nilG hD) hS hA hX (fun _ => adr_lm) rfl hl.1 rfl (Nat.le_of_ble_eq_true rfl) ⟨(show 0 + 4 + 3 + 3 ≤ 40 by omega), (show 0 + 24 + 18 + 18 ≤ 240 by omega)⟩ dL_act_403 (fun rv j607 H locs hp hP hD hS => ?_)
              have hop : opVic s0 (nI t7) (nI r7) mo = (0, (nI 0), s0) := opVic_n ht7 hr7 (md_y hmo) h_15
              rw [hop] at hp hP hD
              have hv9 : rv = (nI 0) := hp.1.trans (wv_0 rfl)
              rw [hv9]
              have hL607 : LR s0 j607 := hp.2
              have hP := P_nilF hP; have hD := D_nilF hD
              have hP : va_P D vwCl ([(am, .inl (cI, 10, .inl fm)), (aa, .inl (cI, 48, .inl fa)), (aq, .inl (cL, 10, .inr (.inl fq))), (ag, .inl (cI, 3, .inl fg))] ++ lmW cI cT xo ta tr br tx hi ra s0 j607) H := hP
              have hD : va_D A ([(am, .inl (cI, 10, .inl fm)), (aa, .inl (cI, 48, .inl fa)), (aq, .inl (cL, 10, .inr (.inl fq))), (ag, .inl (cI, 3, .inl fg))] ++ lmW cI cT xo ta tr br tx hi ra s0 j607) := hD
              refine lv_if_ne (tgt := 413) hx hb dL_act_406 (by decide) (fun h => absurd (by decide) h) (fun _ => ?_)
              refine lv_iconst (v := (nI 1)) hx hb dL_act_409 (by decide) ?_
              refine lv_goto (tgt := 414) hx hb dL_act_410 (by decide) ?_
              exact wretz (u := (s0, j607, fm, fa, fq, fg)) hQ hx hb hrt hlk hS dL_act_414 (by decide) hP ⟨rfl, hL607, hM, hZ, hQL, hG, hB0⟩ ⟨(show 0 + 4 + 3 + 3 ≤ 40 by omega), (show 0 + 24 + 18 + 18 ≤ 240 by omega)⟩
          refine lv_iload_n hx hb dL_act_327 rfl (lv_at hl 2 rfl) ?_
          refine lv_iconst (v := (nI 3)) hx hb dL_act_328 (by decide) ?_
          refine lv_ishr hx hb dL_act_329 ?_
          refine lv_iload_n hx hb dL_act_330 rfl (lv_at hl 2 rfl) ?_
          refine lv_bipush (v := (nI 12)) hx hb dL_act_331 (by decide) ?_
          refine lv_ishr hx hb dL_act_333 ?_
          refine lv_bipush (v := (nI 7)) hx hb dL_act_334 (by decide) ?_
          refine lv_iand hx hb dL_act_336 ?_
          refine lv_if_ne (tgt := 345) hx hb dL_act_337 (by decide) (fun h_19 => ?_) (fun h_19 => ?_)
          · have h_19 := h_19
            refine lv_iconst (v := (nI 3)) hx hb dL_act_345 (by decide) ?_
            refine call_l (X := [(am, .inl (cI, 10, .inl fm)), (aa, .inl (cI, 48, .inl fa)), (aq, .inl (cL, 10, .inr (.inl fq))), (ag, .inl (cI, 3, .inl fg))] ++ lmW cI cT xo ta tr br tx hi ra s0 j0) (Wc := []) (Z := []) (As := [.int (yv >>> ((nI 3) &&& 31)), .int (nI 3)]) (rest := []) ⟨hx, hb, hml, hown, hts⟩ (c_L_low l D cI cT cL ((yv >>> ((nI 3) &&& 31))) 3 (by decide) (by decide)) (va_cwS 2 hts gL_act_L_low rfl rfl rfl (by decide +kernel) ⟨Nat.le_of_ble_eq_true rfl, Nat.le_of_ble_eq_true rfl⟩) hKL (P_nilr hP) (D_nilr hD) hS hA (fun _ => rfl) rfl hl.1 rfl (Nat.le_of_ble_eq_true rfl) ⟨(show 0 ≤ 40 by omega), (show 0 ≤ 240 by omega)⟩ dL_act_346 (fun rv uu H locs hp hP hD hS => ?_)
            have hP := P_nil2 hP
            have hD := D_nil2 hD
            obtain rfl := hp
            have hP : va_P D vwCl ([(am, .inl (cI, 10, .inl fm)), (aa, .inl (cI, 48, .inl fa)), (aq, .inl (cL, 10, .inr (.inl fq))), (ag, .inl (cI, 3, .inl fg))] ++ lmW cI cT xo ta tr br tx hi ra s0 j0) H := hP
            have hD : va_D A ([(am, .inl (cI, 10, .inl fm)), (aa, .inl (cI, 48, .inl fa)), (aq, .inl (cL, 10, .inr (.inl fq))), (ag, .inl (cI, 3, .inl fg))] ++ lmW cI cT xo ta tr br tx hi ra s0 j0) := hD
            exact ih349 (lowN ((yv >>> ((nI 3) &&& 31))) 3) (Nat.lt_of_lt_of_le (lowN_lt (by decide)) (by decide)) (by decide) _ _ hP hD hS _ (lv_sub hl [0, 1, 2, 3, 4, 5, 6, 7, 8, 9] rfl)
          · have h_19 := h_19
            refine lv_bipush (v := (nI 10)) hx hb dL_act_340 (by decide) ?_
            refine lv_goto (tgt := 346) hx hb dL_act_342 (by decide) ?_
            refine call_l (X := [(am, .inl (cI, 10, .inl fm)), (aa, .inl (cI, 48, .inl fa)), (aq, .inl (cL, 10, .inr (.inl fq))), (ag, .inl (cI, 3, .inl fg))] ++ lmW cI cT xo ta tr br tx hi ra s0 j0) (Wc := []) (Z := []) (As := [.int (yv >>> ((nI 3) &&& 31)), .int (nI 10)]) (rest := []) ⟨hx, hb, hml, hown, hts⟩ (c_L_low l D cI cT cL ((yv >>> ((nI 3) &&& 31))) 10 (by decide) (by decide)) (va_cwS 2 hts gL_act_L_low rfl rfl rfl (by decide +kernel) ⟨Nat.le_of_ble_eq_true rfl, Nat.le_of_ble_eq_true rfl⟩) hKL (P_nilr hP) (D_nilr hD) hS hA (fun _ => rfl) rfl hl.1 rfl (Nat.le_of_ble_eq_true rfl) ⟨(show 0 ≤ 40 by omega), (show 0 ≤ 240 by omega)⟩ dL_act_346 (fun rv uu H locs hp hP hD hS => ?_)
            have hP := P_nil2 hP
            have hD := D_nil2 hD
            obtain rfl := hp
            have hP : va_P D vwCl ([(am, .inl (cI, 10, .inl fm)), (aa, .inl (cI, 48, .inl fa)), (aq, .inl (cL, 10, .inr (.inl fq))), (ag, .inl (cI, 3, .inl fg))] ++ lmW cI cT xo ta tr br tx hi ra s0 j0) H := hP
            have hD : va_D A ([(am, .inl (cI, 10, .inl fm)), (aa, .inl (cI, 48, .inl fa)), (aq, .inl (cL, 10, .inr (.inl fq))), (ag, .inl (cI, 3, .inl fg))] ++ lmW cI cT xo ta tr br tx hi ra s0 j0) := hD
            exact ih349 (lowN ((yv >>> ((nI 3) &&& 31))) 10) (Nat.lt_of_lt_of_le (lowN_lt (by decide)) (by decide)) (by decide) _ _ hP hD hS _ (lv_sub hl [0, 1, 2, 3, 4, 5, 6, 7, 8, 9] rfl)
      refine lv_iload hx hb dL_act_207 (lv_at hl 1 rfl) ?_
      refine lv_iconst (v := (nI 2)) hx hb dL_act_209 (by decide) ?_
      refine lv_icmp_lt (tgt := 225) hx hb dL_act_210 (by decide) (fun h_20 => ?_) (fun h_20 => ?_)
      · have h_20 := (nI_ltI (a := (lowN xv 14)) (b := 2) (by omega) (by decide)).mp h_20
        refine lv_iload hx hb dL_act_225 (lv_at hl 0 rfl) ?_
        refine lv_if_eq (tgt := 247) hx hb dL_act_227 (by decide) (fun h_21 => ?_) (fun h_21 => ?_)
        · have h_21 := h_21
          have hn0 := st_0.mp h_21
          have hn3 := hJ.2.2.2.1 t7 ht7 hn0
          have hnb := BB_n hB hN
          refine lv_aload_n hx hb dL_act_247 rfl (lv_at hl 6 rfl) ?_
          refine lv_bipush (v := (nI 6)) hx hb dL_act_248 (by decide) ?_
          refine lv_iload hx hb dL_act_250 (lv_at hl 2 rfl) ?_
          refine lv_imul hx hb dL_act_252 ?_
          refine tpe (y := (nI (6 * t7))) (pk_mul _ _) ?_
          refine lv_iconst (v := (nI 1)) hx hb dL_act_253 (by decide) ?_
          refine r_ist (k := (6 * t7)) hx hb hK hP hD hS 1 rfl (by omega) (by decide) dL_act_254 (fun H locs hP hD hS => ?_)
          have hP : va_P D vwCl ([(am, .inl (cI, 10, .inl fm)), (aa, .inl (cI, 48, .inl (upd fa (6 * t7) (nI 1)))), (aq, .inl (cL, 10, .inr (.inl fq))), (ag, .inl (cI, 3, .inl fg))] ++ lmW cI cT xo ta tr br tx hi ra s0 j0) H := hP
          have hD : va_D A ([(am, .inl (cI, 10, .inl fm)), (aa, .inl (cI, 48, .inl (upd fa (6 * t7) (nI 1)))), (aq, .inl (cL, 10, .inr (.inl fq))), (ag, .inl (cI, 3, .inl fg))] ++ lmW cI cT xo ta tr br tx hi ra s0 j0) := hD
          refine lv_aload_n hx hb dL_act_255 rfl (lv_at hl 6 rfl) ?_
          refine lv_bipush (v := (nI 6)) hx hb dL_act_256 (by decide) ?_
          refine lv_iload hx hb dL_act_258 (lv_at hl 2 rfl) ?_
          refine lv_imul hx hb dL_act_260 ?_
          refine tpe (y := (nI (6 * t7))) (pk_mul _ _) ?_
          refine lv_iconst (v := (nI 1)) hx hb dL_act_261 (by decide) ?_
          refine lv_iadd hx hb dL_act_262 ?_
          refine tpe (y := (nI (6 * t7 + 1))) (nI_add _ _) ?_
          refine lv_iconst (v := (nI 0)) hx hb dL_act_263 (by decide) ?_
          refine r_ist (k := (6 * t7 + 1)) hx hb hK hP hD hS 1 rfl (by omega) (by decide) dL_act_264 (fun H locs hP hD hS => ?_)
          have hP : va_P D vwCl ([(am, .inl (cI, 10, .inl fm)), (aa, .inl (cI, 48, .inl (upd (upd fa (6 * t7) (nI 1)) (6 * t7 + 1) (nI 0)))), (aq, .inl (cL, 10, .inr (.inl fq))), (ag, .inl (cI, 3, .inl fg))] ++ lmW cI cT xo ta tr br tx hi ra s0 j0) H := hP
          have hD : va_D A ([(am, .inl (cI, 10, .inl fm)), (aa, .inl (cI, 48, .inl (upd (upd fa (6 * t7) (nI 1)) (6 * t7 + 1) (nI 0)))), (aq, .inl (cL, 10, .inr (.inl fq))), (ag, .inl (cI, 3, .inl fg))] ++ lmW cI cT xo ta tr br tx hi ra s0 j0) := hD
          refine lv_aload_n hx hb dL_act_265 rfl (lv_at hl 6 rfl) ?_
          refine lv_bipush (v := (nI 6)) hx hb dL_act_266 (by decide) ?_
          refine lv_iload hx hb dL_act_268 (lv_at hl 2 rfl) ?_
          refine lv_imul hx hb dL_act_270 ?_
          refine tpe (y := (nI (6 * t7))) (pk_mul _ _) ?_
          refine lv_iconst (v := (nI 2)) hx hb dL_act_271 (by decide) ?_
          refine lv_iadd hx hb dL_act_272 ?_
          refine tpe (y := (nI (6 * t7 + 2))) (nI_add _ _) ?_
          refine lv_iconst (v := (nI 0)) hx hb dL_act_273 (by decide) ?_
          refine r_ist (k := (6 * t7 + 2)) hx hb hK hP hD hS 1 rfl (by omega) (by decide) dL_act_274 (fun H locs hP hD hS => ?_)
          have hP : va_P D vwCl ([(am, .inl (cI, 10, .inl fm)), (aa, .inl (cI, 48, .inl (upd (upd (upd fa (6 * t7) (nI 1)) (6 * t7 + 1) (nI 0)) (6 * t7 + 2) (nI 0)))), (aq, .inl (cL, 10, .inr (.inl fq))), (ag, .inl (cI, 3, .inl fg))] ++ lmW cI cT xo ta tr br tx hi ra s0 j0) H := hP
          have hD : va_D A ([(am, .inl (cI, 10, .inl fm)), (aa, .inl (cI, 48, .inl (upd (upd (upd fa (6 * t7) (nI 1)) (6 * t7 + 1) (nI 0)) (6 * t7 + 2) (nI 0)))), (aq, .inl (cL, 10, .inr (.inl fq))), (ag, .inl (cI, 3, .inl fg))] ++ lmW cI cT xo ta tr br tx hi ra s0 j0) := hD
          refine lv_aload_n hx hb dL_act_275 rfl (lv_at hl 6 rfl) ?_
          refine lv_bipush (v := (nI 6)) hx hb dL_act_276 (by decide) ?_
          refine lv_iload hx hb dL_act_278 (lv_at hl 2 rfl) ?_
          refine lv_imul hx hb dL_act_280 ?_
          refine tpe (y := (nI (6 * t7))) (pk_mul _ _) ?_
          refine lv_iconst (v := (nI 3)) hx hb dL_act_281 (by decide) ?_
          refine lv_iadd hx hb dL_act_282 ?_
          refine tpe (y := (nI (6 * t7 + 3))) (nI_add _ _) ?_
          refine lv_aload hx hb dL_act_283 (lv_at hl 9 rfl) ?_
          refine lv_iconst (v := (nI 0)) hx hb dL_act_285 (by decide) ?_
          refine r_ild (k := 0) hx hb hK hP 3 rfl (by omega) (by decide) dL_act_286 ?_
          refine tpe (y := s0.1 8 0) (hG 0 (by decide)) ?_
          refine r_ist (k := (6 * t7 + 3)) hx hb hK hP hD hS 1 rfl (by omega) (by decide) dL_act_287 (fun H locs hP hD hS => ?_)
          have hP : va_P D vwCl ([(am, .inl (cI, 10, .inl fm)), (aa, .inl (cI, 48, .inl (upd (upd (upd (upd fa (6 * t7) (nI 1)) (6 * t7 + 1) (nI 0)) (6 * t7 + 2) (nI 0)) (6 * t7 + 3) (s0.1 8 0)))), (aq, .inl (cL, 10, .inr (.inl fq))), (ag, .inl (cI, 3, .inl fg))] ++ lmW cI cT xo ta tr br tx hi ra s0 j0) H := hP
          have hD : va_D A ([(am, .inl (cI, 10, .inl fm)), (aa, .inl (cI, 48, .inl (upd (upd (upd (upd fa (6 * t7) (nI 1)) (6 * t7 + 1) (nI 0)) (6 * t7 + 2) (nI 0)) (6 * t7 + 3) (s0.1 8 0)))), (aq, .inl (cL, 10, .inr (.inl fq))), (ag, .inl (cI, 3, .inl fg))] ++ lmW cI cT xo ta tr br tx hi ra s0 j0) := hD
          refine lv_aload hx hb dL_act_288 (lv_at hl 9 rfl) ?_
          refine lv_iconst (v := (nI 0)) hx hb dL_act_290 (by decide) ?_
          refine lv_dup2_11 hx hb dL_act_291 rfl rfl ?_
          refine r_ild (k := 0) hx hb hK hP 3 rfl (by omega) (by decide) dL_act_292 ?_
          refine lv_iconst (v := (nI 1)) hx hb dL_act_293 (by decide) ?_
          refine lv_iadd hx hb dL_act_294 ?_
          refine r_ist (k := 0) hx hb hK hP hD hS 3 rfl (by omega) (by decide) dL_act_295 (fun H locs hP hD hS => ?_)
          have hP : va_P D vwCl ([(am, .inl (cI, 10, .inl fm)), (aa, .inl (cI, 48, .inl (upd (upd (upd (upd fa (6 * t7) (nI 1)) (6 * t7 + 1) (nI 0)) (6 * t7 + 2) (nI 0)) (6 * t7 + 3) (s0.1 8 0)))), (aq, .inl (cL, 10, .inr (.inl fq))), (ag, .inl (cI, 3, .inl (upd fg 0 ((fg 0) + (nI 1)))))] ++ lmW cI cT xo ta tr br tx hi ra s0 j0) H := hP
          have hD : va_D A ([(am, .inl (cI, 10, .inl fm)), (aa, .inl (cI, 48, .inl (upd (upd (upd (upd fa (6 * t7) (nI 1)) (6 * t7 + 1) (nI 0)) (6 * t7 + 2) (nI 0)) (6 * t7 + 3) (s0.1 8 0)))), (aq, .inl (cL, 10, .inr (.inl fq))), (ag, .inl (cI, 3, .inl (upd fg 0 ((fg 0) + (nI 1)))))] ++ lmW cI cT xo ta tr br tx hi ra s0 j0) := hD
          have hP : va_P D vwCl ([(am, .inl (cI, 10, .inl fm)), (aa, .inl (cI, 48, .inl (stA fa t7 (s0.1 8 0)))), (aq, .inl (cL, 10, .inr (.inl fq))), (ag, .inl (cI, 3, .inl (upd fg 0 ((fg 0) + (nI 1)))))] ++ lmW cI cT xo ta tr br tx hi ra s0 j0) H := hP
          have hD : va_D A ([(am, .inl (cI, 10, .inl fm)), (aa, .inl (cI, 48, .inl (stA fa t7 (s0.1 8 0)))), (aq, .inl (cL, 10, .inr (.inl fq))), (ag, .inl (cI, 3, .inl (upd fg 0 ((fg 0) + (nI 1)))))] ++ lmW cI cT xo ta tr br tx hi ra s0 j0) := hD
          have hZs := ZA_st hZ ht7 hn3 hnb
          have hMs := MM_st (t := t7) hM
          have hGs := GG_st (t := t7) hG
          have hBs := BB_st (t := t7) hB
          refine lv_aload_n hx hb dL_act_296 rfl (lv_at hl 3 rfl) ?_
          refine lv_iload hx hb dL_act_297 (lv_at hl 2 rfl) ?_
          refine call_cw (X := [(am, .inl (cI, 10, .inl fm)), (aa, .inl (cI, 48, .inl (stA fa t7 (s0.1 8 0)))), (aq, .inl (cL, 10, .inr (.inl fq))), (ag, .inl (cI, 3, .inl (upd fg 0 ((fg 0) + (nI 1)))))]) (Wc := lmW cI cT xo ta tr br tx hi ra s0 j0) (Z := []) (As := [.ref (xo 0), .int (nI t7)]) (rest := []) ⟨hx, hb, hml, hown, hts⟩ (c_L_begin l hflag D cI cT cL xo ta tr br tx hi ra s0 j0 (nI t7) hL) (vx_cwSW 2 hts gL_act_L_begin rfl rfl rfl (by decide +kernel) ⟨Nat.le_of_ble_eq_true rfl, Nat.le_of_ble_eq_true rfl⟩) hKL (P_nilG hP) (D_nilG hD) hS hA hX (fun _ => adr_lm) rfl hl.1 rfl (Nat.le_of_ble_eq_true rfl) ⟨(show 0 + 2 ≤ 40 by omega), (show 0 + 12 ≤ 240 by omega)⟩ dL_act_299 (fun rv j608 H locs hp hP hD hS => ?_)
          obtain ⟨s608, hs608⟩ : ∃ z : ST, z = (startF s0.1 t7, s0.2.1, push s0, s0.2.2.2) := ⟨_, rfl⟩
          have hop : opBegin s0 (nI t7) = (0, (s0.1 8 0), s608) := by rw [hs608]; exact opBegin_0 ht7 h_21
          rw [hop] at hp hP hD
          have hv9 : rv = (s0.1 8 0) := hp.1.trans (wv_0 rfl)
          rw [hv9]
          have hL608 : LR s608 j608 := hp.2
          have hP := P_nilF hP; have hD := D_nilF hD
          have hP : va_P D vwCl ([(am, .inl (cI, 10, .inl fm)), (aa, .inl (cI, 48, .inl (stA fa t7 (s0.1 8 0)))), (aq, .inl (cL, 10, .inr (.inl fq))), (ag, .inl (cI, 3, .inl (upd fg 0 ((fg 0) + (nI 1)))))] ++ lmW cI cT xo ta tr br tx hi ra s608 j608) H := hP
          have hD : va_D A ([(am, .inl (cI, 10, .inl fm)), (aa, .inl (cI, 48, .inl (stA fa t7 (s0.1 8 0)))), (aq, .inl (cL, 10, .inr (.inl fq))), (ag, .inl (cI, 3, .inl (upd fg 0 ((fg 0) + (nI 1)))))] ++ lmW cI cT xo ta tr br tx hi ra s608 j608) := hD
          refine lv_aload_n hx hb dL_act_302 rfl (lv_at hl 6 rfl) ?_
          refine lv_bipush (v := (nI 6)) hx hb dL_act_303 (by decide) ?_
          refine lv_iload hx hb dL_act_305 (lv_at hl 2 rfl) ?_
          refine lv_imul hx hb dL_act_307 ?_
          refine tpe (y := (nI (6 * t7))) (pk_mul _ _) ?_
          refine lv_iconst (v := (nI 3)) hx hb dL_act_308 (by decide) ?_
          refine lv_iadd hx hb dL_act_309 ?_
          refine tpe (y := (nI (6 * t7 + 3))) (nI_add _ _) ?_
          refine r_ild (k := (6 * t7 + 3)) hx hb hK hP 1 rfl (by omega) (by decide) dL_act_310 ?_
          refine tpe (y := ((startF s0.1 t7) 0 t7)) (ZA3 hZs ht7) ?_
          refine lv_icmp_ne (tgt := 318) hx hb dL_act_311 (by decide) (fun h_22 => absurd st_b h_22) (fun h_22 => ?_)
          have h_22 := h_22
          refine lv_iconst (v := (nI 1)) hx hb dL_act_314 (by decide) ?_
          refine lv_goto (tgt := 319) hx hb dL_act_315 (by decide) ?_
          have hE1 := st_1of hs608
          have hE2 := st_2of hs608
          have hRM : MM s608.1 fm := by rw [hE1]; exact hMs
          have hRA : ZA s608.1 (stA fa t7 (s0.1 8 0)) := by rw [hE1]; exact hZs
          have hRQ : QL s608.2.1 fq := by rw [hE2]; exact hQL
          have hRG : GG s608.1 (upd fg 0 (fg 0 + nI 1)) := by rw [hE1]; exact hGs
          have hRB : BB (N + 1) s608.1 := by rw [hE1]; exact hBs
          exact wretz (u := (s608, j608, fm, stA fa t7 (s0.1 8 0), fq, upd fg 0 (fg 0 + nI 1))) hQ hx hb hrt hlk hS dL_act_319 (by decide) hP ⟨rfl, hL608, hRM, hRA, hRQ, hRG, hRB⟩ ⟨(show 0 + 2 ≤ 40 by omega), (show 0 + 12 ≤ 240 by omega)⟩
        · have h_21 := h_21
          refine lv_aload_n hx hb dL_act_230 rfl (lv_at hl 3 rfl) ?_
          refine lv_iload hx hb dL_act_231 (lv_at hl 2 rfl) ?_
          refine call_cw (X := [(am, .inl (cI, 10, .inl fm)), (aa, .inl (cI, 48, .inl fa)), (aq, .inl (cL, 10, .inr (.inl fq))), (ag, .inl (cI, 3, .inl fg))]) (Wc := lmW cI cT xo ta tr br tx hi ra s0 j0) (Z := []) (As := [.ref (xo 0), .int (nI t7)]) (rest := []) ⟨hx, hb, hml, hown, hts⟩ (c_L_begin l hflag D cI cT cL xo ta tr br tx hi ra s0 j0 (nI t7) hL) (vx_cwSW 2 hts gL_act_L_begin rfl rfl rfl (by decide +kernel) ⟨Nat.le_of_ble_eq_true rfl, Nat.le_of_ble_eq_true rfl⟩) hKL (P_nilG hP) (D_nilG hD) hS hA hX (fun _ => adr_lm) rfl hl.1 rfl (Nat.le_of_ble_eq_true rfl) ⟨(show 0 + 2 ≤ 40 by omega), (show 0 + 12 ≤ 240 by omega)⟩ dL_act_233 (fun rv j609 H locs hp hP hD hS => ?_)
          have hop : opBegin s0 (nI t7) = (2, 0, s0) := opBegin_2 ht7 h_21
          rw [hop] at hp hP hD
          have hv9 : rv = (-33) := hp.1.trans (wv_2 rfl)
          rw [hv9]
          have hL609 : LR s0 j609 := hp.2
          have hP := P_nilF hP; have hD := D_nilF hD
          have hP : va_P D vwCl ([(am, .inl (cI, 10, .inl fm)), (aa, .inl (cI, 48, .inl fa)), (aq, .inl (cL, 10, .inr (.inl fq))), (ag, .inl (cI, 3, .inl fg))] ++ lmW cI cT xo ta tr br tx hi ra s0 j609) H := hP
          have hD : va_D A ([(am, .inl (cI, 10, .inl fm)), (aa, .inl (cI, 48, .inl fa)), (aq, .inl (cL, 10, .inr (.inl fq))), (ag, .inl (cI, 3, .inl fg))] ++ lmW cI cT xo ta tr br tx hi ra s0 j609) := hD
          refine lv_bipush (v := (-33)) hx hb dL_act_236 (by decide) ?_
          refine lv_icmp_ne (tgt := 245) hx hb dL_act_238 (by decide) (fun h => absurd (by decide) h) (fun _ => ?_)
          refine lv_iconst (v := (nI 1)) hx hb dL_act_241 (by decide) ?_
          refine lv_goto (tgt := 246) hx hb dL_act_242 (by decide) ?_
          exact wretz (u := (s0, j609, fm, fa, fq, fg)) hQ hx hb hrt hlk hS dL_act_246 (by decide) hP ⟨rfl, hL609, hM, hZ, hQL, hG, hB0⟩ ⟨(show 0 + 2 ≤ 40 by omega), (show 0 + 12 ≤ 240 by omega)⟩
      · have h_20 := mt (nI_ltI (a := (lowN xv 14)) (b := 2) (by omega) (by decide)).mpr h_20
        refine lv_iload hx hb dL_act_213 (lv_at hl 0 rfl) ?_
        refine lv_if_ne (tgt := 320) hx hb dL_act_215 (by decide) (fun h_23 => ?_) (fun h_23 => ?_)
        · have h_23 := h_23
          exact ih320 () (by decide) _ _ hP hD hS _ (lv_sub hl [3, 4, 5, 6, 7, 8, 9, 2, 1, 0] rfl)
        · have h_23 := h_23
          refine lv_iload hx hb dL_act_218 (lv_at hl 1 rfl) ?_
          refine lv_bipush (v := (nI 9)) hx hb dL_act_220 (by decide) ?_
          refine lv_icmp_ge (tgt := 320) hx hb dL_act_222 (by decide) (fun h_24 => ?_) (fun h_24 => ?_)
          · have h_24 := (nI_leI (a := 9) (b := (lowN xv 14)) (by decide) (by omega)).mp h_24
            exact ih320 () (by decide) _ _ hP hD hS _ (lv_sub hl [3, 4, 5, 6, 7, 8, 9, 2, 1, 0] rfl)
          · have h_24 := mt (nI_leI (a := 9) (b := (lowN xv 14)) (by decide) (by omega)).mpr h_24
            refine lv_iload hx hb dL_act_225 (lv_at hl 0 rfl) ?_
            refine lv_if_eq (tgt := 247) hx hb dL_act_227 (by decide) (fun h_25 => ?_) (fun h_25 => absurd h_23 h_25)
            have h_25 := h_25
            have hn0 := st_0.mp h_25
            have hn3 := hJ.2.2.2.1 t7 ht7 hn0
            have hnb := BB_n hB hN
            refine lv_aload_n hx hb dL_act_247 rfl (lv_at hl 6 rfl) ?_
            refine lv_bipush (v := (nI 6)) hx hb dL_act_248 (by decide) ?_
            refine lv_iload hx hb dL_act_250 (lv_at hl 2 rfl) ?_
            refine lv_imul hx hb dL_act_252 ?_
            refine tpe (y := (nI (6 * t7))) (pk_mul _ _) ?_
            refine lv_iconst (v := (nI 1)) hx hb dL_act_253 (by decide) ?_
            refine r_ist (k := (6 * t7)) hx hb hK hP hD hS 1 rfl (by omega) (by decide) dL_act_254 (fun H locs hP hD hS => ?_)
            have hP : va_P D vwCl ([(am, .inl (cI, 10, .inl fm)), (aa, .inl (cI, 48, .inl (upd fa (6 * t7) (nI 1)))), (aq, .inl (cL, 10, .inr (.inl fq))), (ag, .inl (cI, 3, .inl fg))] ++ lmW cI cT xo ta tr br tx hi ra s0 j0) H := hP
            have hD : va_D A ([(am, .inl (cI, 10, .inl fm)), (aa, .inl (cI, 48, .inl (upd fa (6 * t7) (nI 1)))), (aq, .inl (cL, 10, .inr (.inl fq))), (ag, .inl (cI, 3, .inl fg))] ++ lmW cI cT xo ta tr br tx hi ra s0 j0) := hD
            refine lv_aload_n hx hb dL_act_255 rfl (lv_at hl 6 rfl) ?_
            refine lv_bipush (v := (nI 6)) hx hb dL_act_256 (by decide) ?_
            refine lv_iload hx hb dL_act_258 (lv_at hl 2 rfl) ?_
            refine lv_imul hx hb dL_act_260 ?_
            refine tpe (y := (nI (6 * t7))) (pk_mul _ _) ?_
            refine lv_iconst (v := (nI 1)) hx hb dL_act_261 (by decide) ?_
            refine lv_iadd hx hb dL_act_262 ?_
            refine tpe (y := (nI (6 * t7 + 1))) (nI_add _ _) ?_
            refine lv_iconst (v := (nI 0)) hx hb dL_act_263 (by decide) ?_
            refine r_ist (k := (6 * t7 + 1)) hx hb hK hP hD hS 1 rfl (by omega) (by decide) dL_act_264 (fun H locs hP hD hS => ?_)
            have hP : va_P D vwCl ([(am, .inl (cI, 10, .inl fm)), (aa, .inl (cI, 48, .inl (upd (upd fa (6 * t7) (nI 1)) (6 * t7 + 1) (nI 0)))), (aq, .inl (cL, 10, .inr (.inl fq))), (ag, .inl (cI, 3, .inl fg))] ++ lmW cI cT xo ta tr br tx hi ra s0 j0) H := hP
            have hD : va_D A ([(am, .inl (cI, 10, .inl fm)), (aa, .inl (cI, 48, .inl (upd (upd fa (6 * t7) (nI 1)) (6 * t7 + 1) (nI 0)))), (aq, .inl (cL, 10, .inr (.inl fq))), (ag, .inl (cI, 3, .inl fg))] ++ lmW cI cT xo ta tr br tx hi ra s0 j0) := hD
            refine lv_aload_n hx hb dL_act_265 rfl (lv_at hl 6 rfl) ?_
            refine lv_bipush (v := (nI 6)) hx hb dL_act_266 (by decide) ?_
            refine lv_iload hx hb dL_act_268 (lv_at hl 2 rfl) ?_
            refine lv_imul hx hb dL_act_270 ?_
            refine tpe (y := (nI (6 * t7))) (pk_mul _ _) ?_
            refine lv_iconst (v := (nI 2)) hx hb dL_act_271 (by decide) ?_
            refine lv_iadd hx hb dL_act_272 ?_
            refine tpe (y := (nI (6 * t7 + 2))) (nI_add _ _) ?_
            refine lv_iconst (v := (nI 0)) hx hb dL_act_273 (by decide) ?_
            refine r_ist (k := (6 * t7 + 2)) hx hb hK hP hD hS 1 rfl (by omega) (by decide) dL_act_274 (fun H locs hP hD hS => ?_)
            have hP : va_P D vwCl ([(am, .inl (cI, 10, .inl fm)), (aa, .inl (cI, 48, .inl (upd (upd (upd fa (6 * t7) (nI 1)) (6 * t7 + 1) (nI 0)) (6 * t7 + 2) (nI 0)))), (aq, .inl (cL, 10, .inr (.inl fq))), (ag, .inl (cI, 3, .inl fg))] ++ lmW cI cT xo ta tr br tx hi ra s0 j0) H := hP
            have hD : va_D A ([(am, .inl (cI, 10, .inl fm)), (aa, .inl (cI, 48, .inl (upd (upd (upd fa (6 * t7) (nI 1)) (6 * t7 + 1) (nI 0)) (6 * t7 + 2) (nI 0)))), (aq, .inl (cL, 10, .inr (.inl fq))), (ag, .inl (cI, 3, .inl fg))] ++ lmW cI cT xo ta tr br tx hi ra s0 j0) := hD
            refine lv_aload_n hx hb dL_act_275 rfl (lv_at hl 6 rfl) ?_
            refine lv_bipush (v := (nI 6)) hx hb dL_act_276 (by decide) ?_
            refine lv_iload hx hb dL_act_278 (lv_at hl 2 rfl) ?_
            refine lv_imul hx hb dL_act_280 ?_
            refine tpe (y := (nI (6 * t7))) (pk_mul _ _) ?_
            refine lv_iconst (v := (nI 3)) hx hb dL_act_281 (by decide) ?_
            refine lv_iadd hx hb dL_act_282 ?_
            refine tpe (y := (nI (6 * t7 + 3))) (nI_add _ _) ?_
            refine lv_aload hx hb dL_act_283 (lv_at hl 9 rfl) ?_
            refine lv_iconst (v := (nI 0)) hx hb dL_act_285 (by decide) ?_
            refine r_ild (k := 0) hx hb hK hP 3 rfl (by omega) (by decide) dL_act_286 ?_
            refine tpe (y := s0.1 8 0) (hG 0 (by decide)) ?_
            refine r_ist (k := (6 * t7 + 3)) hx hb hK hP hD hS 1 rfl (by omega) (by decide) dL_act_287 (fun H locs hP hD hS => ?_)
            have hP : va_P D vwCl ([(am, .inl (cI, 10, .inl fm)), (aa, .inl (cI, 48, .inl (upd (upd (upd (upd fa (6 * t7) (nI 1)) (6 * t7 + 1) (nI 0)) (6 * t7 + 2) (nI 0)) (6 * t7 + 3) (s0.1 8 0)))), (aq, .inl (cL, 10, .inr (.inl fq))), (ag, .inl (cI, 3, .inl fg))] ++ lmW cI cT xo ta tr br tx hi ra s0 j0) H := hP
            have hD : va_D A ([(am, .inl (cI, 10, .inl fm)), (aa, .inl (cI, 48, .inl (upd (upd (upd (upd fa (6 * t7) (nI 1)) (6 * t7 + 1) (nI 0)) (6 * t7 + 2) (nI 0)) (6 * t7 + 3) (s0.1 8 0)))), (aq, .inl (cL, 10, .inr (.inl fq))), (ag, .inl (cI, 3, .inl fg))] ++ lmW cI cT xo ta tr br tx hi ra s0 j0) := hD
            refine lv_aload hx hb dL_act_288 (lv_at hl 9 rfl) ?_
            refine lv_iconst (v := (nI 0)) hx hb dL_act_290 (by decide) ?_
            refine lv_dup2_11 hx hb dL_act_291 rfl rfl ?_
            refine r_ild (k := 0) hx hb hK hP 3 rfl (by omega) (by decide) dL_act_292 ?_
            refine lv_iconst (v := (nI 1)) hx hb dL_act_293 (by decide) ?_
            refine lv_iadd hx hb dL_act_294 ?_
            refine r_ist (k := 0) hx hb hK hP hD hS 3 rfl (by omega) (by decide) dL_act_295 (fun H locs hP hD hS => ?_)
            have hP : va_P D vwCl ([(am, .inl (cI, 10, .inl fm)), (aa, .inl (cI, 48, .inl (upd (upd (upd (upd fa (6 * t7) (nI 1)) (6 * t7 + 1) (nI 0)) (6 * t7 + 2) (nI 0)) (6 * t7 + 3) (s0.1 8 0)))), (aq, .inl (cL, 10, .inr (.inl fq))), (ag, .inl (cI, 3, .inl (upd fg 0 ((fg 0) + (nI 1)))))] ++ lmW cI cT xo ta tr br tx hi ra s0 j0) H := hP
            have hD : va_D A ([(am, .inl (cI, 10, .inl fm)), (aa, .inl (cI, 48, .inl (upd (upd (upd (upd fa (6 * t7) (nI 1)) (6 * t7 + 1) (nI 0)) (6 * t7 + 2) (nI 0)) (6 * t7 + 3) (s0.1 8 0)))), (aq, .inl (cL, 10, .inr (.inl fq))), (ag, .inl (cI, 3, .inl (upd fg 0 ((fg 0) + (nI 1)))))] ++ lmW cI cT xo ta tr br tx hi ra s0 j0) := hD
            have hP : va_P D vwCl ([(am, .inl (cI, 10, .inl fm)), (aa, .inl (cI, 48, .inl (stA fa t7 (s0.1 8 0)))), (aq, .inl (cL, 10, .inr (.inl fq))), (ag, .inl (cI, 3, .inl (upd fg 0 ((fg 0) + (nI 1)))))] ++ lmW cI cT xo ta tr br tx hi ra s0 j0) H := hP
            have hD : va_D A ([(am, .inl (cI, 10, .inl fm)), (aa, .inl (cI, 48, .inl (stA fa t7 (s0.1 8 0)))), (aq, .inl (cL, 10, .inr (.inl fq))), (ag, .inl (cI, 3, .inl (upd fg 0 ((fg 0) + (nI 1)))))] ++ lmW cI cT xo ta tr br tx hi ra s0 j0) := hD
            have hZs := ZA_st hZ ht7 hn3 hnb
            have hMs := MM_st (t := t7) hM
            have hGs := GG_st (t := t7) hG
            have hBs := BB_st (t := t7) hB
            refine lv_aload_n hx hb dL_act_296 rfl (lv_at hl 3 rfl) ?_
            refine lv_iload hx hb dL_act_297 (lv_at hl 2 rfl) ?_
            refine call_cw (X := [(am, .inl (cI, 10, .inl fm)), (aa, .inl (cI, 48, .inl (stA fa t7 (s0.1 8 0)))), (aq, .inl (cL, 10, .inr (.inl fq))), (ag, .inl (cI, 3, .inl (upd fg 0 ((fg 0) + (nI 1)))))]) (Wc := lmW cI cT xo ta tr br tx hi ra s0 j0) (Z := []) (As := [.ref (xo 0), .int (nI t7)]) (rest := []) ⟨hx, hb, hml, hown, hts⟩ (c_L_begin l hflag D cI cT cL xo ta tr br tx hi ra s0 j0 (nI t7) hL) (vx_cwSW 2 hts gL_act_L_begin rfl rfl rfl (by decide +kernel) ⟨Nat.le_of_ble_eq_true rfl, Nat.le_of_ble_eq_true rfl⟩) hKL (P_nilG hP) (D_nilG hD) hS hA hX (fun _ => adr_lm) rfl hl.1 rfl (Nat.le_of_ble_eq_true rfl) ⟨(show 0 + 2 ≤ 40 by omega), (show 0 + 12 ≤ 240 by omega)⟩ dL_act_299 (fun rv j610 H locs hp hP hD hS => ?_)
            obtain ⟨s610, hs610⟩ : ∃ z : ST, z = (startF s0.1 t7, s0.2.1, push s0, s0.2.2.2) := ⟨_, rfl⟩
            have hop : opBegin s0 (nI t7) = (0, (s0.1 8 0), s610) := by rw [hs610]; exact opBegin_0 ht7 h_25
            rw [hop] at hp hP hD
            have hv9 : rv = (s0.1 8 0) := hp.1.trans (wv_0 rfl)
            rw [hv9]
            have hL610 : LR s610 j610 := hp.2
            have hP := P_nilF hP; have hD := D_nilF hD
            have hP : va_P D vwCl ([(am, .inl (cI, 10, .inl fm)), (aa, .inl (cI, 48, .inl (stA fa t7 (s0.1 8 0)))), (aq, .inl (cL, 10, .inr (.inl fq))), (ag, .inl (cI, 3, .inl (upd fg 0 ((fg 0) + (nI 1)))))] ++ lmW cI cT xo ta tr br tx hi ra s610 j610) H := hP
            have hD : va_D A ([(am, .inl (cI, 10, .inl fm)), (aa, .inl (cI, 48, .inl (stA fa t7 (s0.1 8 0)))), (aq, .inl (cL, 10, .inr (.inl fq))), (ag, .inl (cI, 3, .inl (upd fg 0 ((fg 0) + (nI 1)))))] ++ lmW cI cT xo ta tr br tx hi ra s610 j610) := hD
            refine lv_aload_n hx hb dL_act_302 rfl (lv_at hl 6 rfl) ?_
            refine lv_bipush (v := (nI 6)) hx hb dL_act_303 (by decide) ?_
            refine lv_iload hx hb dL_act_305 (lv_at hl 2 rfl) ?_
            refine lv_imul hx hb dL_act_307 ?_
            refine tpe (y := (nI (6 * t7))) (pk_mul _ _) ?_
            refine lv_iconst (v := (nI 3)) hx hb dL_act_308 (by decide) ?_
            refine lv_iadd hx hb dL_act_309 ?_
            refine tpe (y := (nI (6 * t7 + 3))) (nI_add _ _) ?_
            refine r_ild (k := (6 * t7 + 3)) hx hb hK hP 1 rfl (by omega) (by decide) dL_act_310 ?_
            refine tpe (y := ((startF s0.1 t7) 0 t7)) (ZA3 hZs ht7) ?_
            refine lv_icmp_ne (tgt := 318) hx hb dL_act_311 (by decide) (fun h_26 => absurd st_b h_26) (fun h_26 => ?_)
            have h_26 := h_26
            refine lv_iconst (v := (nI 1)) hx hb dL_act_314 (by decide) ?_
            refine lv_goto (tgt := 319) hx hb dL_act_315 (by decide) ?_
            have hE1 := st_1of hs610
            have hE2 := st_2of hs610
            have hRM : MM s610.1 fm := by rw [hE1]; exact hMs
            have hRA : ZA s610.1 (stA fa t7 (s0.1 8 0)) := by rw [hE1]; exact hZs
            have hRQ : QL s610.2.1 fq := by rw [hE2]; exact hQL
            have hRG : GG s610.1 (upd fg 0 (fg 0 + nI 1)) := by rw [hE1]; exact hGs
            have hRB : BB (N + 1) s610.1 := by rw [hE1]; exact hBs
            exact wretz (u := (s610, j610, fm, stA fa t7 (s0.1 8 0), fq, upd fg 0 (fg 0 + nI 1))) hQ hx hb hrt hlk hS dL_act_319 (by decide) hP ⟨rfl, hL610, hRM, hRA, hRQ, hRG, hRB⟩ ⟨(show 0 + 2 ≤ 40 by omega), (show 0 + 12 ≤ 240 by omega)⟩
    · have h_1 := (nI_eq (a := t7) (b := 8) (by omega) (by decide)).mp h_1
      refine lv_aload_n hx hb dL_act_37 rfl (lv_at hl 2 rfl) ?_
      refine lv_bipush (v := (nI 8)) hx hb dL_act_38 (by decide) ?_
      refine call_cw (X := [(am, .inl (cI, 10, .inl fm)), (aa, .inl (cI, 48, .inl fa)), (aq, .inl (cL, 10, .inr (.inl fq))), (ag, .inl (cI, 3, .inl fg))]) (Wc := lmW cI cT xo ta tr br tx hi ra s0 j0) (Z := []) (As := [.ref (xo 0), .int (nI 8)]) (rest := []) ⟨hx, hb, hml, hown, hts⟩ (c_L_begin l hflag D cI cT cL xo ta tr br tx hi ra s0 j0 (nI 8) hL) (vx_cwSW 2 hts gL_act_L_begin rfl rfl rfl (by decide +kernel) ⟨Nat.le_of_ble_eq_true rfl, Nat.le_of_ble_eq_true rfl⟩) hKL (P_nilG hP) (D_nilG hD) hS hA hX (fun _ => adr_lm) rfl hl.1 rfl (Nat.le_of_ble_eq_true rfl) ⟨(show 0 + 2 ≤ 40 by omega), (show 0 + 12 ≤ 240 by omega)⟩ dL_act_40 (fun rv j611 H locs hp hP hD hS => ?_)
      have hop : opBegin s0 (nI 8) = (1, 0, s0) := opBegin_1 (by decide)
      rw [hop] at hp hP hD
      have hv9 : rv = (-31) := hp.1.trans (wv_1 rfl)
      rw [hv9]
      have hL611 : LR s0 j611 := hp.2
      have hP := P_nilF hP; have hD := D_nilF hD
      have hP : va_P D vwCl ([(am, .inl (cI, 10, .inl fm)), (aa, .inl (cI, 48, .inl fa)), (aq, .inl (cL, 10, .inr (.inl fq))), (ag, .inl (cI, 3, .inl fg))] ++ lmW cI cT xo ta tr br tx hi ra s0 j611) H := hP
      have hD : va_D A ([(am, .inl (cI, 10, .inl fm)), (aa, .inl (cI, 48, .inl fa)), (aq, .inl (cL, 10, .inr (.inl fq))), (ag, .inl (cI, 3, .inl fg))] ++ lmW cI cT xo ta tr br tx hi ra s0 j611) := hD
      refine lv_bipush (v := (-31)) hx hb dL_act_43 (by decide) ?_
      refine lv_icmp_ne (tgt := 196) hx hb dL_act_45 (by decide) (fun h => absurd (by decide) h) (fun _ => ?_)
      refine lv_aload_n hx hb dL_act_48 rfl (lv_at hl 2 rfl) ?_
      refine lv_bipush (v := (nI 8)) hx hb dL_act_49 (by decide) ?_
      refine lv_bipush (v := (nI 10)) hx hb dL_act_51 (by decide) ?_
      refine lv_iconst (v := (nI 3)) hx hb dL_act_53 (by decide) ?_
      refine call_cw (X := [(am, .inl (cI, 10, .inl fm)), (aa, .inl (cI, 48, .inl fa)), (aq, .inl (cL, 10, .inr (.inl fq))), (ag, .inl (cI, 3, .inl fg))]) (Wc := lmW cI cT xo ta tr br tx hi ra s0 j611) (Z := []) (As := [.ref (xo 0), .int (nI 8), .int (nI 10), .int (nI 3)]) (rest := []) ⟨hx, hb, hml, hown, hts⟩ (c_L_request l hflag D cI cT cL xo ta tr br tx hi ra s0 j611 (nI 8) (nI 10) (nI 3) hL611) (vx_cwSW 4 hts gL_act_L_request rfl rfl rfl (by decide +kernel) ⟨Nat.le_of_ble_eq_true rfl, Nat.le_of_ble_eq_true rfl⟩) hKL (P_nilG hP) (D_nilG hD) hS hA hX (fun _ => adr_lm) rfl hl.1 rfl (Nat.le_of_ble_eq_true rfl) ⟨(show 0 + 2 + 4 ≤ 40 by omega), (show 0 + 12 + 24 ≤ 240 by omega)⟩ dL_act_54 (fun rv j612 H locs hp hP hD hS => ?_)
      have hop : opRequest s0 (nI 8) (nI 10) (nI 3) = (1, 0, s0) := opRequest_1 (Or.inl (by decide))
      rw [hop] at hp hP hD
      have hv9 : rv = (-31) := hp.1.trans (wv_1 rfl)
      rw [hv9]
      have hL612 : LR s0 j612 := hp.2
      have hP := P_nilF hP; have hD := D_nilF hD
      have hP : va_P D vwCl ([(am, .inl (cI, 10, .inl fm)), (aa, .inl (cI, 48, .inl fa)), (aq, .inl (cL, 10, .inr (.inl fq))), (ag, .inl (cI, 3, .inl fg))] ++ lmW cI cT xo ta tr br tx hi ra s0 j612) H := hP
      have hD : va_D A ([(am, .inl (cI, 10, .inl fm)), (aa, .inl (cI, 48, .inl fa)), (aq, .inl (cL, 10, .inr (.inl fq))), (ag, .inl (cI, 3, .inl fg))] ++ lmW cI cT xo ta tr br tx hi ra s0 j612) := hD
      refine lv_bipush (v := (-31)) hx hb dL_act_57 (by decide) ?_
      refine lv_icmp_ne (tgt := 196) hx hb dL_act_59 (by decide) (fun h => absurd (by decide) h) (fun _ => ?_)
      refine lv_aload_n hx hb dL_act_62 rfl (lv_at hl 2 rfl) ?_
      refine lv_iconst (v := (nI 0)) hx hb dL_act_63 (by decide) ?_
      refine lv_bipush (v := (nI 10)) hx hb dL_act_64 (by decide) ?_
      refine lv_iconst (v := (nI 3)) hx hb dL_act_66 (by decide) ?_
      refine call_cw (X := [(am, .inl (cI, 10, .inl fm)), (aa, .inl (cI, 48, .inl fa)), (aq, .inl (cL, 10, .inr (.inl fq))), (ag, .inl (cI, 3, .inl fg))]) (Wc := lmW cI cT xo ta tr br tx hi ra s0 j612) (Z := []) (As := [.ref (xo 0), .int (nI 0), .int (nI 10), .int (nI 3)]) (rest := []) ⟨hx, hb, hml, hown, hts⟩ (c_L_request l hflag D cI cT cL xo ta tr br tx hi ra s0 j612 (nI 0) (nI 10) (nI 3) hL612) (vx_cwSW 4 hts gL_act_L_request rfl rfl rfl (by decide +kernel) ⟨Nat.le_of_ble_eq_true rfl, Nat.le_of_ble_eq_true rfl⟩) hKL (P_nilG hP) (D_nilG hD) hS hA hX (fun _ => adr_lm) rfl hl.1 rfl (Nat.le_of_ble_eq_true rfl) ⟨(show 0 + 2 + 4 + 4 ≤ 40 by omega), (show 0 + 12 + 24 + 24 ≤ 240 by omega)⟩ dL_act_67 (fun rv j613 H locs hp hP hD hS => ?_)
      have hop : opRequest s0 (nI 0) (nI 10) (nI 3) = (1, 0, s0) := opRequest_1 (Or.inr (by decide))
      rw [hop] at hp hP hD
      have hv9 : rv = (-31) := hp.1.trans (wv_1 rfl)
      rw [hv9]
      have hL613 : LR s0 j613 := hp.2
      have hP := P_nilF hP; have hD := D_nilF hD
      have hP : va_P D vwCl ([(am, .inl (cI, 10, .inl fm)), (aa, .inl (cI, 48, .inl fa)), (aq, .inl (cL, 10, .inr (.inl fq))), (ag, .inl (cI, 3, .inl fg))] ++ lmW cI cT xo ta tr br tx hi ra s0 j613) H := hP
      have hD : va_D A ([(am, .inl (cI, 10, .inl fm)), (aa, .inl (cI, 48, .inl fa)), (aq, .inl (cL, 10, .inr (.inl fq))), (ag, .inl (cI, 3, .inl fg))] ++ lmW cI cT xo ta tr br tx hi ra s0 j613) := hD
      refine lv_bipush (v := (-31)) hx hb dL_act_70 (by decide) ?_
      refine lv_icmp_ne (tgt := 196) hx hb dL_act_72 (by decide) (fun h => absurd (by decide) h) (fun _ => ?_)
      refine lv_aload_n hx hb dL_act_75 rfl (lv_at hl 2 rfl) ?_
      refine lv_iconst (v := (nI 0)) hx hb dL_act_76 (by decide) ?_
      refine lv_iconst (v := (nI 0)) hx hb dL_act_77 (by decide) ?_
      refine lv_iconst (v := (nI 3)) hx hb dL_act_78 (by decide) ?_
      refine call_cw (X := [(am, .inl (cI, 10, .inl fm)), (aa, .inl (cI, 48, .inl fa)), (aq, .inl (cL, 10, .inr (.inl fq))), (ag, .inl (cI, 3, .inl fg))]) (Wc := lmW cI cT xo ta tr br tx hi ra s0 j613) (Z := []) (As := [.ref (xo 0), .int (nI 0), .int (nI 0), .int (nI 3)]) (rest := []) ⟨hx, hb, hml, hown, hts⟩ (c_L_request l hflag D cI cT cL xo ta tr br tx hi ra s0 j613 (nI 0) (nI 0) (nI 3) hL613) (vx_cwSW 4 hts gL_act_L_request rfl rfl rfl (by decide +kernel) ⟨Nat.le_of_ble_eq_true rfl, Nat.le_of_ble_eq_true rfl⟩) hKL (P_nilG hP) (D_nilG hD) hS hA hX (fun _ => adr_lm) rfl hl.1 rfl (Nat.le_of_ble_eq_true rfl) ⟨(show 0 + 2 + 4 + 4 + 4 ≤ 40 by omega), (show 0 + 12 + 24 + 24 + 24 ≤ 240 by omega)⟩ dL_act_79 (fun rv j614 H locs hp hP hD hS => ?_)
      have hop : opRequest s0 (nI 0) (nI 0) (nI 3) = (2, 0, s0) := opRequest_2 (by decide) (by decide) (by decide)
      rw [hop] at hp hP hD
      have hv9 : rv = (-32) := hp.1.trans (wv_2 rfl)
      rw [hv9]
      have hL614 : LR s0 j614 := hp.2
      have hP := P_nilF hP; have hD := D_nilF hD
      have hP : va_P D vwCl ([(am, .inl (cI, 10, .inl fm)), (aa, .inl (cI, 48, .inl fa)), (aq, .inl (cL, 10, .inr (.inl fq))), (ag, .inl (cI, 3, .inl fg))] ++ lmW cI cT xo ta tr br tx hi ra s0 j614) H := hP
      have hD : va_D A ([(am, .inl (cI, 10, .inl fm)), (aa, .inl (cI, 48, .inl fa)), (aq, .inl (cL, 10, .inr (.inl fq))), (ag, .inl (cI, 3, .inl fg))] ++ lmW cI cT xo ta tr br tx hi ra s0 j614) := hD
      refine lv_bipush (v := (-32)) hx hb dL_act_82 (by decide) ?_
      refine lv_icmp_ne (tgt := 196) hx hb dL_act_84 (by decide) (fun h => absurd (by decide) h) (fun _ => ?_)
      refine lv_aload_n hx hb dL_act_87 rfl (lv_at hl 2 rfl) ?_
      refine lv_bipush (v := (nI 7)) hx hb dL_act_88 (by decide) ?_
      refine lv_bipush (v := (nI 9)) hx hb dL_act_90 (by decide) ?_
      refine lv_iconst (v := (nI 0)) hx hb dL_act_92 (by decide) ?_
      refine call_cw (X := [(am, .inl (cI, 10, .inl fm)), (aa, .inl (cI, 48, .inl fa)), (aq, .inl (cL, 10, .inr (.inl fq))), (ag, .inl (cI, 3, .inl fg))]) (Wc := lmW cI cT xo ta tr br tx hi ra s0 j614) (Z := []) (As := [.ref (xo 0), .int (nI 7), .int (nI 9), .int (nI 0)]) (rest := []) ⟨hx, hb, hml, hown, hts⟩ (c_L_request l hflag D cI cT cL xo ta tr br tx hi ra s0 j614 (nI 7) (nI 9) (nI 0) hL614) (vx_cwSW 4 hts gL_act_L_request rfl rfl rfl (by decide +kernel) ⟨Nat.le_of_ble_eq_true rfl, Nat.le_of_ble_eq_true rfl⟩) hKL (P_nilG hP) (D_nilG hD) hS hA hX (fun _ => adr_lm) rfl hl.1 rfl (Nat.le_of_ble_eq_true rfl) ⟨(show 0 + 2 + 4 + 4 + 4 + 4 ≤ 40 by omega), (show 0 + 12 + 24 + 24 + 24 + 24 ≤ 240 by omega)⟩ dL_act_93 (fun rv j615 H locs hp hP hD hS => ?_)
      have hop : opRequest s0 (nI 7) (nI 9) (nI 0) = (2, 0, s0) := opRequest_2 (by decide) (by decide) (by decide)
      rw [hop] at hp hP hD
      have hv9 : rv = (-32) := hp.1.trans (wv_2 rfl)
      rw [hv9]
      have hL615 : LR s0 j615 := hp.2
      have hP := P_nilF hP; have hD := D_nilF hD
      have hP : va_P D vwCl ([(am, .inl (cI, 10, .inl fm)), (aa, .inl (cI, 48, .inl fa)), (aq, .inl (cL, 10, .inr (.inl fq))), (ag, .inl (cI, 3, .inl fg))] ++ lmW cI cT xo ta tr br tx hi ra s0 j615) H := hP
      have hD : va_D A ([(am, .inl (cI, 10, .inl fm)), (aa, .inl (cI, 48, .inl fa)), (aq, .inl (cL, 10, .inr (.inl fq))), (ag, .inl (cI, 3, .inl fg))] ++ lmW cI cT xo ta tr br tx hi ra s0 j615) := hD
      refine lv_bipush (v := (-32)) hx hb dL_act_96 (by decide) ?_
      refine lv_icmp_ne (tgt := 196) hx hb dL_act_98 (by decide) (fun h => absurd (by decide) h) (fun _ => ?_)
      refine lv_aload_n hx hb dL_act_101 rfl (lv_at hl 2 rfl) ?_
      refine lv_iconst (v := (-1)) hx hb dL_act_102 (by decide) ?_
      refine lv_iconst (v := (nI 0)) hx hb dL_act_103 (by decide) ?_
      refine call_cw (X := [(am, .inl (cI, 10, .inl fm)), (aa, .inl (cI, 48, .inl fa)), (aq, .inl (cL, 10, .inr (.inl fq))), (ag, .inl (cI, 3, .inl fg))]) (Wc := lmW cI cT xo ta tr br tx hi ra s0 j615) (Z := []) (As := [.ref (xo 0), .int (-1), .int (nI 0)]) (rest := []) ⟨hx, hb, hml, hown, hts⟩ (c_L_work l hflag D cI cT cL xo ta tr br tx hi ra s0 j615 (-1) (nI 0) hL615) (vx_cwSW 3 hts gL_act_L_work rfl rfl rfl (by decide +kernel) ⟨Nat.le_of_ble_eq_true rfl, Nat.le_of_ble_eq_true rfl⟩) hKL (P_nilG hP) (D_nilG hD) hS hA hX (fun _ => adr_lm) rfl hl.1 rfl (Nat.le_of_ble_eq_true rfl) ⟨(show 0 + 2 + 4 + 4 + 4 + 4 + 3 ≤ 40 by omega), (show 0 + 12 + 24 + 24 + 24 + 24 + 18 ≤ 240 by omega)⟩ dL_act_104 (fun rv j616 H locs hp hP hD hS => ?_)
      have hop : opWork s0 (-1) (nI 0) = (1, 0, s0) := opWork_1 (by decide)
      rw [hop] at hp hP hD
      have hv9 : rv = (-31) := hp.1.trans (wv_1 rfl)
      rw [hv9]
      have hL616 : LR s0 j616 := hp.2
      have hP := P_nilF hP; have hD := D_nilF hD
      have hP : va_P D vwCl ([(am, .inl (cI, 10, .inl fm)), (aa, .inl (cI, 48, .inl fa)), (aq, .inl (cL, 10, .inr (.inl fq))), (ag, .inl (cI, 3, .inl fg))] ++ lmW cI cT xo ta tr br tx hi ra s0 j616) H := hP
      have hD : va_D A ([(am, .inl (cI, 10, .inl fm)), (aa, .inl (cI, 48, .inl fa)), (aq, .inl (cL, 10, .inr (.inl fq))), (ag, .inl (cI, 3, .inl fg))] ++ lmW cI cT xo ta tr br tx hi ra s0 j616) := hD
      refine lv_bipush (v := (-31)) hx hb dL_act_107 (by decide) ?_
      refine lv_icmp_ne (tgt := 196) hx hb dL_act_109 (by decide) (fun h => absurd (by decide) h) (fun _ => ?_)
      refine lv_aload_n hx hb dL_act_112 rfl (lv_at hl 2 rfl) ?_
      refine lv_iconst (v := (nI 0)) hx hb dL_act_113 (by decide) ?_
      refine lv_sipush (v := (nI 1001)) hx hb dL_act_114 (by decide) ?_
      refine call_cw (X := [(am, .inl (cI, 10, .inl fm)), (aa, .inl (cI, 48, .inl fa)), (aq, .inl (cL, 10, .inr (.inl fq))), (ag, .inl (cI, 3, .inl fg))]) (Wc := lmW cI cT xo ta tr br tx hi ra s0 j616) (Z := []) (As := [.ref (xo 0), .int (nI 0), .int (nI 1001)]) (rest := []) ⟨hx, hb, hml, hown, hts⟩ (c_L_work l hflag D cI cT cL xo ta tr br tx hi ra s0 j616 (nI 0) (nI 1001) hL616) (vx_cwSW 3 hts gL_act_L_work rfl rfl rfl (by decide +kernel) ⟨Nat.le_of_ble_eq_true rfl, Nat.le_of_ble_eq_true rfl⟩) hKL (P_nilG hP) (D_nilG hD) hS hA hX (fun _ => adr_lm) rfl hl.1 rfl (Nat.le_of_ble_eq_true rfl) ⟨(show 0 + 2 + 4 + 4 + 4 + 4 + 3 + 3 ≤ 40 by omega), (show 0 + 12 + 24 + 24 + 24 + 24 + 18 + 18 ≤ 240 by omega)⟩ dL_act_117 (fun rv j617 H locs hp hP hD hS => ?_)
      have hop : opWork s0 (nI 0) (nI 1001) = (2, 0, s0) := opWork_2 (by decide) (Or.inr (by decide))
      rw [hop] at hp hP hD
      have hv9 : rv = (-32) := hp.1.trans (wv_2 rfl)
      rw [hv9]
      have hL617 : LR s0 j617 := hp.2
      have hP := P_nilF hP; have hD := D_nilF hD
      have hP : va_P D vwCl ([(am, .inl (cI, 10, .inl fm)), (aa, .inl (cI, 48, .inl fa)), (aq, .inl (cL, 10, .inr (.inl fq))), (ag, .inl (cI, 3, .inl fg))] ++ lmW cI cT xo ta tr br tx hi ra s0 j617) H := hP
      have hD : va_D A ([(am, .inl (cI, 10, .inl fm)), (aa, .inl (cI, 48, .inl fa)), (aq, .inl (cL, 10, .inr (.inl fq))), (ag, .inl (cI, 3, .inl fg))] ++ lmW cI cT xo ta tr br tx hi ra s0 j617) := hD
      refine lv_bipush (v := (-32)) hx hb dL_act_120 (by decide) ?_
      refine lv_icmp_ne (tgt := 196) hx hb dL_act_122 (by decide) (fun h => absurd (by decide) h) (fun _ => ?_)
      refine lv_aload_n hx hb dL_act_125 rfl (lv_at hl 2 rfl) ?_
      refine lv_bipush (v := (nI 8)) hx hb dL_act_126 (by decide) ?_
      refine call_cw (X := [(am, .inl (cI, 10, .inl fm)), (aa, .inl (cI, 48, .inl fa)), (aq, .inl (cL, 10, .inr (.inl fq))), (ag, .inl (cI, 3, .inl fg))]) (Wc := lmW cI cT xo ta tr br tx hi ra s0 j617) (Z := []) (As := [.ref (xo 0), .int (nI 8)]) (rest := []) ⟨hx, hb, hml, hown, hts⟩ (c_L_withdraw l hflag D cI cT cL xo ta tr br tx hi ra s0 j617 (nI 8) hL617) (vx_cwSW 2 hts gL_act_L_withdraw rfl rfl rfl (by decide +kernel) ⟨Nat.le_of_ble_eq_true rfl, Nat.le_of_ble_eq_true rfl⟩) hKL (P_nilG hP) (D_nilG hD) hS hA hX (fun _ => adr_lm) rfl hl.1 rfl (Nat.le_of_ble_eq_true rfl) ⟨(show 0 + 2 + 4 + 4 + 4 + 4 + 3 + 3 + 2 ≤ 40 by omega), (show 0 + 12 + 24 + 24 + 24 + 24 + 18 + 18 + 12 ≤ 240 by omega)⟩ dL_act_128 (fun rv j618 H locs hp hP hD hS => ?_)
      have hop : opWithdraw s0 (nI 8) = (1, 0, s0) := opWithdraw_1 (by decide)
      rw [hop] at hp hP hD
      have hv9 : rv = (-31) := hp.1.trans (wv_1 rfl)
      rw [hv9]
      have hL618 : LR s0 j618 := hp.2
      have hP := P_nilF hP; have hD := D_nilF hD
      have hP : va_P D vwCl ([(am, .inl (cI, 10, .inl fm)), (aa, .inl (cI, 48, .inl fa)), (aq, .inl (cL, 10, .inr (.inl fq))), (ag, .inl (cI, 3, .inl fg))] ++ lmW cI cT xo ta tr br tx hi ra s0 j618) H := hP
      have hD : va_D A ([(am, .inl (cI, 10, .inl fm)), (aa, .inl (cI, 48, .inl fa)), (aq, .inl (cL, 10, .inr (.inl fq))), (ag, .inl (cI, 3, .inl fg))] ++ lmW cI cT xo ta tr br tx hi ra s0 j618) := hD
      refine lv_bipush (v := (-31)) hx hb dL_act_131 (by decide) ?_
      refine lv_icmp_ne (tgt := 196) hx hb dL_act_133 (by decide) (fun h => absurd (by decide) h) (fun _ => ?_)
      refine lv_aload_n hx hb dL_act_136 rfl (lv_at hl 2 rfl) ?_
      refine lv_bipush (v := (nI 8)) hx hb dL_act_137 (by decide) ?_
      refine call_cw (X := [(am, .inl (cI, 10, .inl fm)), (aa, .inl (cI, 48, .inl fa)), (aq, .inl (cL, 10, .inr (.inl fq))), (ag, .inl (cI, 3, .inl fg))]) (Wc := lmW cI cT xo ta tr br tx hi ra s0 j618) (Z := []) (As := [.ref (xo 0), .int (nI 8)]) (rest := []) ⟨hx, hb, hml, hown, hts⟩ (c_L_commit l hflag D cI cT cL xo ta tr br tx hi ra s0 j618 (nI 8) hL618) (vx_cwSW 2 hts gL_act_L_commit rfl rfl rfl (by decide +kernel) ⟨Nat.le_of_ble_eq_true rfl, Nat.le_of_ble_eq_true rfl⟩) hKL (P_nilG hP) (D_nilG hD) hS hA hX (fun _ => adr_lm) rfl hl.1 rfl (Nat.le_of_ble_eq_true rfl) ⟨(show 0 + 2 + 4 + 4 + 4 + 4 + 3 + 3 + 2 + 2 ≤ 40 by omega), (show 0 + 12 + 24 + 24 + 24 + 24 + 18 + 18 + 12 + 12 ≤ 240 by omega)⟩ dL_act_139 (fun rv j619 H locs hp hP hD hS => ?_)
      have hop : opCommit s0 (nI 8) = (1, 0, s0) := opCommit_1 (by decide)
      rw [hop] at hp hP hD
      have hv9 : rv = (-31) := hp.1.trans (wv_1 rfl)
      rw [hv9]
      have hL619 : LR s0 j619 := hp.2
      have hP := P_nilF hP; have hD := D_nilF hD
      have hP : va_P D vwCl ([(am, .inl (cI, 10, .inl fm)), (aa, .inl (cI, 48, .inl fa)), (aq, .inl (cL, 10, .inr (.inl fq))), (ag, .inl (cI, 3, .inl fg))] ++ lmW cI cT xo ta tr br tx hi ra s0 j619) H := hP
      have hD : va_D A ([(am, .inl (cI, 10, .inl fm)), (aa, .inl (cI, 48, .inl fa)), (aq, .inl (cL, 10, .inr (.inl fq))), (ag, .inl (cI, 3, .inl fg))] ++ lmW cI cT xo ta tr br tx hi ra s0 j619) := hD
      refine lv_bipush (v := (-31)) hx hb dL_act_142 (by decide) ?_
      refine lv_icmp_ne (tgt := 196) hx hb dL_act_144 (by decide) (fun h => absurd (by decide) h) (fun _ => ?_)
      refine lv_aload_n hx hb dL_act_147 rfl (lv_at hl 2 rfl) ?_
      refine lv_bipush (v := (nI 8)) hx hb dL_act_148 (by decide) ?_
      refine call_cw (X := [(am, .inl (cI, 10, .inl fm)), (aa, .inl (cI, 48, .inl fa)), (aq, .inl (cL, 10, .inr (.inl fq))), (ag, .inl (cI, 3, .inl fg))]) (Wc := lmW cI cT xo ta tr br tx hi ra s0 j619) (Z := []) (As := [.ref (xo 0), .int (nI 8)]) (rest := []) ⟨hx, hb, hml, hown, hts⟩ (c_L_rollBack l hflag D cI cT cL xo ta tr br tx hi ra s0 j619 (nI 8) hL619) (vx_cwSW 2 hts gL_act_L_rollBack rfl rfl rfl (by decide +kernel) ⟨Nat.le_of_ble_eq_true rfl, Nat.le_of_ble_eq_true rfl⟩) hKL (P_nilG hP) (D_nilG hD) hS hA hX (fun _ => adr_lm) rfl hl.1 rfl (Nat.le_of_ble_eq_true rfl) ⟨(show 0 + 2 + 4 + 4 + 4 + 4 + 3 + 3 + 2 + 2 + 2 ≤ 40 by omega), (show 0 + 12 + 24 + 24 + 24 + 24 + 18 + 18 + 12 + 12 + 12 ≤ 240 by omega)⟩ dL_act_150 (fun rv j620 H locs hp hP hD hS => ?_)
      have hop : opRollBack s0 (nI 8) = (1, 0, s0) := opRollBack_1 (by decide)
      rw [hop] at hp hP hD
      have hv9 : rv = (-31) := hp.1.trans (wv_1 rfl)
      rw [hv9]
      have hL620 : LR s0 j620 := hp.2
      have hP := P_nilF hP; have hD := D_nilF hD
      have hP : va_P D vwCl ([(am, .inl (cI, 10, .inl fm)), (aa, .inl (cI, 48, .inl fa)), (aq, .inl (cL, 10, .inr (.inl fq))), (ag, .inl (cI, 3, .inl fg))] ++ lmW cI cT xo ta tr br tx hi ra s0 j620) H := hP
      have hD : va_D A ([(am, .inl (cI, 10, .inl fm)), (aa, .inl (cI, 48, .inl fa)), (aq, .inl (cL, 10, .inr (.inl fq))), (ag, .inl (cI, 3, .inl fg))] ++ lmW cI cT xo ta tr br tx hi ra s0 j620) := hD
      refine lv_bipush (v := (-31)) hx hb dL_act_153 (by decide) ?_
      refine lv_icmp_ne (tgt := 196) hx hb dL_act_155 (by decide) (fun h => absurd (by decide) h) (fun _ => ?_)
      refine lv_aload_n hx hb dL_act_158 rfl (lv_at hl 2 rfl) ?_
      refine lv_bipush (v := (nI 8)) hx hb dL_act_159 (by decide) ?_
      refine call_cw (X := [(am, .inl (cI, 10, .inl fm)), (aa, .inl (cI, 48, .inl fa)), (aq, .inl (cL, 10, .inr (.inl fq))), (ag, .inl (cI, 3, .inl fg))]) (Wc := lmW cI cT xo ta tr br tx hi ra s0 j620) (Z := []) (As := [.ref (xo 0), .int (nI 8)]) (rest := []) ⟨hx, hb, hml, hown, hts⟩ (c_L_state l hflag D cI cT cL xo ta tr br tx hi ra s0 j620 (nI 8) hL620) (vx_cwSW 2 hts gL_act_L_state rfl rfl rfl (by decide +kernel) ⟨Nat.le_of_ble_eq_true rfl, Nat.le_of_ble_eq_true rfl⟩) hKL (P_nilG hP) (D_nilG hD) hS hA hX (fun _ => adr_lm) rfl hl.1 rfl (Nat.le_of_ble_eq_true rfl) ⟨(show 0 + 2 + 4 + 4 + 4 + 4 + 3 + 3 + 2 + 2 + 2 + 1 ≤ 40 by omega), (show 0 + 12 + 24 + 24 + 24 + 24 + 18 + 18 + 12 + 12 + 12 + 6 ≤ 240 by omega)⟩ dL_act_161 (fun rv j621 H locs hp hP hD hS => ?_)
      have hop : opT s0 (nI 8) (stI s0.1) = (1, 0, s0) := opT_1 (by decide)
      rw [hop] at hp hP hD
      have hv9 : rv = (-31) := hp.1.trans (wv_1 rfl)
      rw [hv9]
      have hL621 : LR s0 j621 := hp.2
      have hP := P_nilF hP; have hD := D_nilF hD
      have hP : va_P D vwCl ([(am, .inl (cI, 10, .inl fm)), (aa, .inl (cI, 48, .inl fa)), (aq, .inl (cL, 10, .inr (.inl fq))), (ag, .inl (cI, 3, .inl fg))] ++ lmW cI cT xo ta tr br tx hi ra s0 j621) H := hP
      have hD : va_D A ([(am, .inl (cI, 10, .inl fm)), (aa, .inl (cI, 48, .inl fa)), (aq, .inl (cL, 10, .inr (.inl fq))), (ag, .inl (cI, 3, .inl fg))] ++ lmW cI cT xo ta tr br tx hi ra s0 j621) := hD
      refine lv_bipush (v := (-31)) hx hb dL_act_164 (by decide) ?_
      refine lv_icmp_ne (tgt := 196) hx hb dL_act_166 (by decide) (fun h => absurd (by decide) h) (fun _ => ?_)
      refine lv_aload_n hx hb dL_act_169 rfl (lv_at hl 2 rfl) ?_
      refine lv_bipush (v := (nI 10)) hx hb dL_act_170 (by decide) ?_
      refine lv_iconst (v := (nI 0)) hx hb dL_act_172 (by decide) ?_
      refine call_cw (X := [(am, .inl (cI, 10, .inl fm)), (aa, .inl (cI, 48, .inl fa)), (aq, .inl (cL, 10, .inr (.inl fq))), (ag, .inl (cI, 3, .inl fg))]) (Wc := lmW cI cT xo ta tr br tx hi ra s0 j621) (Z := []) (As := [.ref (xo 0), .int (nI 10), .int (nI 0)]) (rest := []) ⟨hx, hb, hml, hown, hts⟩ (c_L_queued l hflag D cI cT cL xo ta tr br tx hi ra s0 j621 (nI 10) (nI 0) hL621) (vx_cwSW 3 hts gL_act_L_queued rfl rfl rfl (by decide +kernel) ⟨Nat.le_of_ble_eq_true rfl, Nat.le_of_ble_eq_true rfl⟩) hKL (P_nilG hP) (D_nilG hD) hS hA hX (fun _ => adr_lm) rfl hl.1 rfl (Nat.le_of_ble_eq_true rfl) ⟨(show 0 + 2 + 4 + 4 + 4 + 4 + 3 + 3 + 2 + 2 + 2 + 1 + 2 ≤ 40 by omega), (show 0 + 12 + 24 + 24 + 24 + 24 + 18 + 18 + 12 + 12 + 12 + 6 + 12 ≤ 240 by omega)⟩ dL_act_173 (fun rv j622 H locs hp hP hD hS => ?_)
      have hop : opQueued s0 (nI 10) (nI 0) = (1, 0, s0) := opQueued_1 (by decide)
      rw [hop] at hp hP hD
      have hv9 : rv = (-31) := hp.1.trans (wv_1 rfl)
      rw [hv9]
      have hL622 : LR s0 j622 := hp.2
      have hP := P_nilF hP; have hD := D_nilF hD
      have hP : va_P D vwCl ([(am, .inl (cI, 10, .inl fm)), (aa, .inl (cI, 48, .inl fa)), (aq, .inl (cL, 10, .inr (.inl fq))), (ag, .inl (cI, 3, .inl fg))] ++ lmW cI cT xo ta tr br tx hi ra s0 j622) H := hP
      have hD : va_D A ([(am, .inl (cI, 10, .inl fm)), (aa, .inl (cI, 48, .inl fa)), (aq, .inl (cL, 10, .inr (.inl fq))), (ag, .inl (cI, 3, .inl fg))] ++ lmW cI cT xo ta tr br tx hi ra s0 j622) := hD
      refine lv_bipush (v := (-31)) hx hb dL_act_176 (by decide) ?_
      refine lv_icmp_ne (tgt := 196) hx hb dL_act_178 (by decide) (fun h => absurd (by decide) h) (fun _ => ?_)
      refine lv_aload_n hx hb dL_act_181 rfl (lv_at hl 2 rfl) ?_
      refine lv_iconst (v := (nI 0)) hx hb dL_act_182 (by decide) ?_
      refine lv_iconst (v := (-1)) hx hb dL_act_183 (by decide) ?_
      refine call_cw (X := [(am, .inl (cI, 10, .inl fm)), (aa, .inl (cI, 48, .inl fa)), (aq, .inl (cL, 10, .inr (.inl fq))), (ag, .inl (cI, 3, .inl fg))]) (Wc := lmW cI cT xo ta tr br tx hi ra s0 j622) (Z := []) (As := [.ref (xo 0), .int (nI 0), .int (-1)]) (rest := []) ⟨hx, hb, hml, hown, hts⟩ (c_L_queued l hflag D cI cT cL xo ta tr br tx hi ra s0 j622 (nI 0) (-1) hL622) (vx_cwSW 3 hts gL_act_L_queued rfl rfl rfl (by decide +kernel) ⟨Nat.le_of_ble_eq_true rfl, Nat.le_of_ble_eq_true rfl⟩) hKL (P_nilG hP) (D_nilG hD) hS hA hX (fun _ => adr_lm) rfl hl.1 rfl (Nat.le_of_ble_eq_true rfl) ⟨(show 0 + 2 + 4 + 4 + 4 + 4 + 3 + 3 + 2 + 2 + 2 + 1 + 2 + 2 ≤ 40 by omega), (show 0 + 12 + 24 + 24 + 24 + 24 + 18 + 18 + 12 + 12 + 12 + 6 + 12 + 12 ≤ 240 by omega)⟩ dL_act_184 (fun rv j623 H locs hp hP hD hS => ?_)
      have hop : opQueued s0 (nI 0) (-1) = (1, 0, s0) := opQueued_2 (by decide) (by decide)
      rw [hop] at hp hP hD
      have hv9 : rv = (-31) := hp.1.trans (wv_1 rfl)
      rw [hv9]
      have hL623 : LR s0 j623 := hp.2
      have hP := P_nilF hP; have hD := D_nilF hD
      have hP : va_P D vwCl ([(am, .inl (cI, 10, .inl fm)), (aa, .inl (cI, 48, .inl fa)), (aq, .inl (cL, 10, .inr (.inl fq))), (ag, .inl (cI, 3, .inl fg))] ++ lmW cI cT xo ta tr br tx hi ra s0 j623) H := hP
      have hD : va_D A ([(am, .inl (cI, 10, .inl fm)), (aa, .inl (cI, 48, .inl fa)), (aq, .inl (cL, 10, .inr (.inl fq))), (ag, .inl (cI, 3, .inl fg))] ++ lmW cI cT xo ta tr br tx hi ra s0 j623) := hD
      refine lv_bipush (v := (-31)) hx hb dL_act_187 (by decide) ?_
      refine lv_icmp_ne (tgt := 196) hx hb dL_act_189 (by decide) (fun h => absurd (by decide) h) (fun _ => ?_)
      refine lv_iconst (v := (nI 1)) hx hb dL_act_192 (by decide) ?_
      refine lv_goto (tgt := 197) hx hb dL_act_193 (by decide) ?_
      exact wretz (u := (s0, j623, fm, fa, fq, fg)) hQ hx hb hrt hlk hS dL_act_197 (by decide) hP ⟨rfl, hL623, hM, hZ, hQL, hG, hB0⟩ ⟨(show 0 + 2 + 4 + 4 + 4 + 4 + 3 + 3 + 2 + 2 + 2 + 1 + 2 + 2 ≤ 40 by omega), (show 0 + 12 + 24 + 24 + 24 + 24 + 18 + 18 + 12 + 12 + 12 + 6 + 12 + 12 ≤ 240 by omega)⟩
  refine lv_iload_n hx hb dL_act_0 rfl (lv_at hl 2 rfl) ?_
  refine lv_iload_n hx hb dL_act_1 rfl (lv_at hl 2 rfl) ?_
  refine lv_bipush (v := (nI 9)) hx hb dL_act_2 (by decide) ?_
  refine lv_ishr hx hb dL_act_4 ?_
  refine lv_bipush (v := (nI 7)) hx hb dL_act_5 (by decide) ?_
  refine lv_iand hx hb dL_act_7 ?_
  refine lv_if_ne (tgt := 16) hx hb dL_act_8 (by decide) (fun h_27 => ?_) (fun h_27 => ?_)
  · have h_27 := h_27
    refine lv_iconst (v := (nI 5)) hx hb dL_act_16 (by decide) ?_
    refine call_l (X := [(am, .inl (cI, 10, .inl fm)), (aa, .inl (cI, 48, .inl fa)), (aq, .inl (cL, 10, .inr (.inl fq))), (ag, .inl (cI, 3, .inl fg))] ++ lmW cI cT xo ta tr br tx hi ra s0 j0) (Wc := []) (Z := []) (As := [.int yv, .int (nI 5)]) (rest := []) ⟨hx, hb, hml, hown, hts⟩ (c_L_low l D cI cT cL yv 5 (by decide) (by decide)) (va_cwS 2 hts gL_act_L_low rfl rfl rfl (by decide +kernel) ⟨Nat.le_of_ble_eq_true rfl, Nat.le_of_ble_eq_true rfl⟩) hKL (P_nilr hP) (D_nilr hD) hS hA (fun _ => rfl) rfl hl.1 rfl (Nat.le_of_ble_eq_true rfl) ⟨(show 0 ≤ 40 by omega), (show 0 ≤ 240 by omega)⟩ dL_act_17 (fun rv uu H locs hp hP hD hS => ?_)
    have hP := P_nil2 hP
    have hD := D_nil2 hD
    obtain rfl := hp
    have hP : va_P D vwCl ([(am, .inl (cI, 10, .inl fm)), (aa, .inl (cI, 48, .inl fa)), (aq, .inl (cL, 10, .inr (.inl fq))), (ag, .inl (cI, 3, .inl fg))] ++ lmW cI cT xo ta tr br tx hi ra s0 j0) H := hP
    have hD : va_D A ([(am, .inl (cI, 10, .inl fm)), (aa, .inl (cI, 48, .inl fa)), (aq, .inl (cL, 10, .inr (.inl fq))), (ag, .inl (cI, 3, .inl fg))] ++ lmW cI cT xo ta tr br tx hi ra s0 j0) := hD
    exact ih20 (lowN yv 5) (Nat.lt_of_lt_of_le (lowN_lt (by decide)) (by decide)) (by decide) _ _ hP hD hS _ (lv_sub hl [0, 1, 2, 3, 4, 5, 6] rfl)
  · have h_27 := h_27
    refine lv_bipush (v := (nI 9)) hx hb dL_act_11 (by decide) ?_
    refine lv_goto (tgt := 17) hx hb dL_act_13 (by decide) ?_
    refine call_l (X := [(am, .inl (cI, 10, .inl fm)), (aa, .inl (cI, 48, .inl fa)), (aq, .inl (cL, 10, .inr (.inl fq))), (ag, .inl (cI, 3, .inl fg))] ++ lmW cI cT xo ta tr br tx hi ra s0 j0) (Wc := []) (Z := []) (As := [.int yv, .int (nI 9)]) (rest := []) ⟨hx, hb, hml, hown, hts⟩ (c_L_low l D cI cT cL yv 9 (by decide) (by decide)) (va_cwS 2 hts gL_act_L_low rfl rfl rfl (by decide +kernel) ⟨Nat.le_of_ble_eq_true rfl, Nat.le_of_ble_eq_true rfl⟩) hKL (P_nilr hP) (D_nilr hD) hS hA (fun _ => rfl) rfl hl.1 rfl (Nat.le_of_ble_eq_true rfl) ⟨(show 0 ≤ 40 by omega), (show 0 ≤ 240 by omega)⟩ dL_act_17 (fun rv uu H locs hp hP hD hS => ?_)
    have hP := P_nil2 hP
    have hD := D_nil2 hD
    obtain rfl := hp
    have hP : va_P D vwCl ([(am, .inl (cI, 10, .inl fm)), (aa, .inl (cI, 48, .inl fa)), (aq, .inl (cL, 10, .inr (.inl fq))), (ag, .inl (cI, 3, .inl fg))] ++ lmW cI cT xo ta tr br tx hi ra s0 j0) H := hP
    have hD : va_D A ([(am, .inl (cI, 10, .inl fm)), (aa, .inl (cI, 48, .inl fa)), (aq, .inl (cL, 10, .inr (.inl fq))), (ag, .inl (cI, 3, .inl fg))] ++ lmW cI cT xo ta tr br tx hi ra s0 j0) := hD
    exact ih20 (lowN yv 9) (Nat.lt_of_lt_of_le (lowN_lt (by decide)) (by decide)) (by decide) _ _ hP hD hS _ (lv_sub hl [0, 1, 2, 3, 4, 5, 6] rfl)
