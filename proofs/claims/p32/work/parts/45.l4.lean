/-! the law: a request, an end -/
/-! what the law's own request leaves and answers -/
def outN (F : FF) (t r : Nat) (m : Int32) : Nat := if lk F t r = m ∨ lk F t r = nI 2 then 1 else if F 3 t = -1 then 3 else 2
theorem outN_I {F : FF} {t r : Nat} {m : Int32} : outI F t r m = nI (outN F t r m) := by
  unfold outI outN; split
  · rfl
  · split <;> rfl
theorem outN_lt {F : FF} {t r : Nat} {m : Int32} : outN F t r m < 4 := by
  unfold outN; split
  · decide
  · split <;> decide
theorem outN_of {F : FF} {t r k : Nat} {m : Int32} (h : outI F t r m = nI k) (hk : k < 4) : outN F t r m = k := by
  rw [outN_I] at h
  have := outN_lt (F := F) (t := t) (r := r) (m := m)
  exact nI_inj (by omega) (by omega) h
theorem rq_same {F : FF} {Q : QQ} {t r : Nat} {mo : Int32} (hs : plS F t r mo = true) : askF F Q t r mo = F ∧ askQ F Q t r mo = Q ∧ askV F Q t r mo = 0 ∧ outN (askF F Q t r mo) t r mo = 1 := by
  have h1 := pl_same (Q := Q) hs
  have h2 := ask_n h1.2.2
  have e1 : askF F Q t r mo = F := h2.1.trans h1.1
  refine ⟨e1, h2.2.1.trans h1.2.1, h2.2.2, ?_⟩
  rw [e1]
  exact outN_of (out_same hs) (by decide)
theorem rq_gr {F : FF} {Q : QQ} {t r : Nat} {mo : Int32} (hr : r < 10) (hs : plS F t r mo = false) (hg : plG F Q t r mo = true) : askF F Q t r mo = grF F t r mo ∧ askQ F Q t r mo = Q ∧ askV F Q t r mo = 0 ∧ outN (askF F Q t r mo) t r mo = 1 := by
  have h1 := pl_gr (Q := Q) hs hg
  have h2 := ask_n h1.2.2
  have e1 : askF F Q t r mo = grF F t r mo := h2.1.trans h1.1
  refine ⟨e1, h2.2.1.trans h1.2.1, h2.2.2, ?_⟩
  rw [e1]
  exact outN_of (out_gr hr) (by decide)
theorem pS_t {F : FF} {t r : Nat} {mo : Int32} (h : lk F t r = nI 2 ∨ lk F t r = mo) : plS F t r mo = true := by
  rw [plS]; rcases h with h | h <;> simp [h]
theorem pS_f {F : FF} {t r : Nat} {mo : Int32} (h2 : ¬ lk F t r = nI 2) (h : ¬ lk F t r = mo) : plS F t r mo = false := by
  rw [plS, bq_f h2, bq_f h]; rfl
theorem mo_2 {F : FF} {t r : Nat} {mo : Int32} (hm : mo = nI 1 ∨ mo = nI 2) (h1 : lk F t r = nI 1) (h : ¬ lk F t r = mo) : mo = nI 2 := hm.resolve_left (fun q => h (h1.trans q.symm))
theorem pG_1 {F : FF} {Q : QQ} {t r : Nat} {mo : Int32} (hm : mo = nI 2) (h1 : lk F t r = nI 1) (h : bits (rivB F t r (nI 2)) 8 = 0) : plG F Q t r mo = true := by
  rw [plG, hm, h, bq_t h1]; rfl
theorem pG_n {F : FF} {Q : QQ} {t r : Nat} {mo : Int32} (hm : mo = nI 2) (h1 : lk F t r = nI 1) (h : ¬ bits (rivB F t r (nI 2)) 8 = 0) : plG F Q t r mo = false := by
  have : (bits (rivB F t r (nI 2)) 8 == 0) = false := by simpa using h
  rw [plG, hm, this, Bool.and_false]
theorem len_eq {F : FF} {Q : QQ} {r : Nat} (hJ : JJ F Q) (hr : r < 10) : lg_cmp (lN (qN (Q r))) (lN 0) = 0 ↔ qlen Q r = 0 := by
  rw [lN_eq0 (Q_l63 hJ hr), qN_0, qlen]
  exact List.length_eq_zero_iff.symm
theorem QL_ins2 {F : FF} {Q : QQ} {f : Nat → Int64} {t r i : Nat} (hJ : JJ F Q) (h : QL Q f) (hr : r < 10) (ht : t < 8) (hi : i ≤ qlen Q r) (h8 : qlen Q r < 8) : QL (updQ Q r (insQ (Q r) i t)) (vp_updL f r (iQ (lN (qN (Q r))) i t)) := by
  have := QL_ins hJ h hr ht hi h8
  rw [h r hr] at this
  exact this
def bkG (f : Nat → Int32) (x : Int32) : Nat → Int32 := upd (upd f 1 (f 1 + nI 1)) 2 (upd f 1 (f 1 + nI 1) 2 + x)
theorem GG_bk {F : FF} {f : Nat → Int32} {v : Nat} (h : GG F f) : GG (abF F v) (bkG f (F 1 v)) := fun j hj => by
  have e1 := h 1 (by decide)
  have e2 := h 2 (by decide)
  have e : abF F v 8 j = if j = 2 then F 8 2 + F 1 v else if j = 1 then F 8 1 + nI 1 else F 8 j := by
    have hr : ∀ x, relF (rmF F v) v 8 x = F 8 x := fun x => by rw [rel_ne (by decide), rmF_ne (by decide)]
    rw [abF]
    simp only [up_ap, hr]
    simp
  rw [e, bkG, ud, ud, ud]
  rcases (show j = 0 ∨ j = 1 ∨ j = 2 by omega) with q | q | q <;> subst q
  · simp [h 0 (by decide)]
  · simp [e1]
  · simp [e2]
def abA (z : Nat → Int32) (v : Nat) : Nat → Int32 := upd (upd z (6 * v + 1) (nI 0)) (6 * v + 2) (upd z (6 * v + 1) (nI 0) (6 * v + 2) + nI 1)
theorem ZA_ab {F : FF} {z : Nat → Int32} {v : Nat} (h : ZA (relF (rmF F v) v) z) (hv : v < 8) : ZA (abF F v) (abA z v) := by
  have h1 := ZA_8 (k := 2) (v := F 8 2 + F 1 v) (ZA_8 (k := 1) (v := F 8 1 + nI 1) h)
  have h2 := ZA_k (k := 1) (v := nI 0) h1 hv (Or.inl rfl)
  have h3 := ZA_k (k := 2) (v := F 2 v + nI 1) h2 hv (Or.inr rfl)
  have e : upd z (6 * v + 1) (nI 0) (6 * v + 2) = F 2 v := by
    rw [pk_un (by omega), ZA2 h hv, rel_ne (by decide), rmF_ne (by decide)]
  rw [abA, e]
  exact h3
theorem MM_ab {F : FF} {f : Nat → Int32} {v : Nat} (h : MM (relF (rmF F v) v) f) : MM (abF F v) f := MM_cg h (by rw [abF, up_ne (by decide), up_ne (by decide), up_ne (by decide), up_ne (by decide)])
theorem MM_end {F : FF} {f : Nat → Int32} {t : Nat} (h : MM (relF (rmF F t) t) f) : MM (endF F t) f := MM_cg h (by rw [endF, up_ne (by decide), up_ne (by decide), up_ne (by decide)])
theorem ZA_end {F : FF} {z : Nat → Int32} {t : Nat} (h : ZA (relF (rmF F t) t) z) (ht : t < 8) : ZA (endF F t) (edA z t) := ZA_ed h ht (by rw [rel_ne (by decide), rmF_3, if_pos rfl])
theorem GG_end {F : FF} {f : Nat → Int32} {t : Nat} (h : GG F f) : GG (endF F t) f := GG_cg h (by rw [endF, up_ne (by decide), up_ne (by decide), up_ne (by decide), rel_ne (by decide), rmF_ne (by decide)])
theorem GG_srv {F : FF} {Q : QQ} {f : Nat → Int32} (hJ : JJ F Q) (h : GG F f) : GG (srvF F Q) f := GG_cg h (srv_k hJ (by decide) (by decide) (by decide))

abbrev rL_ended : Room := { frames := 4, cells := 0, slots := 0, locals := 99 }
set_option maxHeartbeats 1000000 in
set_option maxRecDepth 100000 in
theorem c_L_ended (l : Launch) (D : va_G) (cI cT cL : ClassId) (am aa aq : Nat) (fm : Nat → Int32) (fa : Nat → Int32) (fq : Nat → Int64) (F : FF) (Q0 : QQ) (t : Nat) (ht : t < 8) (hJ : JJ F Q0) (hM : MM F fm) (hZ : ZA F fa) (hQL : QL Q0 fq) : CL l D cI cT cL yL_ended wsL_ended rL_ended [.ref aa, .ref am, .ref aq, .int (nI t)] ([(am, .inl (cI, 10, .inl fm)), (aa, .inl (cI, 48, .inl fa)), (aq, .inl (cL, 10, .inr (.inl fq)))]) (S := (Nat → Int32) × (Nat → Int32) × (Nat → Int64)) (fun v u => v = nI (srvN (endF F t) (rmQ F Q0 t)) ∧ MM (srvF (endF F t) (rmQ F Q0 t)) u.1 ∧ ZA (srvF (endF F t) (rmQ F Q0 t)) u.2.1 ∧ QL (srvQ (endF F t) (rmQ F Q0 t)) u.2.2) (fun u => [(am, .inl (cI, 10, .inl u.1)), (aa, .inl (cI, 48, .inl u.2.1)), (aq, .inl (cL, 10, .inr (.inl u.2.2)))]) := by
  refine CL.of (cc := cL_ended) (maxL := 5) (ret := (some .int)) (by decide) rfl (Nat.le_of_ble_eq_true rfl) ?_
  intro p e s m args below meth c A Q hQ B hA H locs hP hKL hD hS ls hl
  have hK : va_K D vwCl (TY cI cT) s := hKL.sub (tys' := TY cI cT) [0, 1] rfl
  obtain ⟨hx, hb, hml, hrt, hts, hown, hlk⟩ := B
  have hl : lv_has ls 5 [(0, .ref aa), (1, .ref am), (2, .ref aq), (3, .int (nI t))] := hl
  refine lv_aload_n hx hb dL_ended_0 rfl (lv_at hl 0 rfl) ?_
  refine lv_bipush (v := (nI 6)) hx hb dL_ended_1 (by decide) ?_
  refine lv_iload_n hx hb dL_ended_3 rfl (lv_at hl 3 rfl) ?_
  refine lv_imul hx hb dL_ended_4 ?_
  refine tpe (y := (nI (6 * t))) (pk_mul _ _) ?_
  refine r_ild (k := (6 * t)) hx hb hK hP 1 rfl (by omega) (by decide) dL_ended_5 ?_
  refine tpe (y := (stI F t)) (ZA0 hZ (by omega)) ?_
  refine lv_iconst (v := (nI 2)) hx hb dL_ended_6 (by decide) ?_
  refine lv_icmp_ne (tgt := 16) hx hb dL_ended_7 (by decide) (fun h_1 => ?_) (fun h_1 => ?_)
  · have h_1 := h_1
    have h3n : F 3 t = -1 := Decidable.byContradiction (fun q => h_1 ((st_w hJ ht).mpr q))
    have e1 := (rm_none (Q := Q0) h3n).1
    have e2 := (rm_none (Q := Q0) h3n).2
    have hMa : MM (rmF F t) fm := by rw [e1]; exact hM
    have hZa : ZA (rmF F t) fa := by rw [e1]; exact hZ
    have hQa : QL (rmQ F Q0 t) fq := by rw [e2]; exact hQL
    have hJa := JJ_rm hJ ht
    refine lv_aload_n hx hb dL_ended_16 rfl (lv_at hl 1 rfl) ?_
    refine lv_iload_n hx hb dL_ended_17 rfl (lv_at hl 3 rfl) ?_
    refine call_lv (X := []) (Wc := [(am, .inl (cI, 10, .inl fm))]) (Z := [(aa, .inl (cI, 48, .inl fa)), (aq, .inl (cL, 10, .inr (.inl fq)))]) (As := [.ref am, .int (nI t)]) (rest := []) ⟨hx, hb, hml, hown, hts⟩ (c_L_release l D cI cT cL am fm (rmF F t) t (by omega) hMa) (va_cwS 2 hts gL_ended_L_release rfl rfl rfl (by decide +kernel) ⟨Nat.le_of_ble_eq_true rfl, Nat.le_of_ble_eq_true rfl⟩) hKL hP hD hS hA (fun _ => adw1) rfl hl.1 rfl (Nat.le_of_ble_eq_true rfl) ⟨by decide, by decide⟩ dL_ended_18 (fun uu H locs hp hP hD hS => ?_)
    obtain ⟨fm5, efm5⟩ : ∃ f, f = uu := ⟨_, rfl⟩
    rw [← efm5] at hP hD hp
    have hM5 := hp
    have hZr5 := ZA_rel (t := t) hZa
    have hP : va_P D vwCl ([(am, .inl (cI, 10, .inl fm5)), (aa, .inl (cI, 48, .inl fa)), (aq, .inl (cL, 10, .inr (.inl fq)))]) H := hP
    have hD : va_D A ([(am, .inl (cI, 10, .inl fm5)), (aa, .inl (cI, 48, .inl fa)), (aq, .inl (cL, 10, .inr (.inl fq)))]) := hD
    refine lv_aload_n hx hb dL_ended_21 rfl (lv_at hl 0 rfl) ?_
    refine lv_bipush (v := (nI 6)) hx hb dL_ended_22 (by decide) ?_
    refine lv_iload_n hx hb dL_ended_24 rfl (lv_at hl 3 rfl) ?_
    refine lv_imul hx hb dL_ended_25 ?_
    refine tpe (y := (nI (6 * t))) (pk_mul _ _) ?_
    refine lv_iconst (v := (nI 0)) hx hb dL_ended_26 (by decide) ?_
    refine r_ist (k := (6 * t)) hx hb hK hP hD hS 1 rfl (by omega) (by decide) dL_ended_27 (fun H locs hP hD hS => ?_)
    have hP : va_P D vwCl ([(am, .inl (cI, 10, .inl fm5)), (aa, .inl (cI, 48, .inl (upd fa (6 * t) (nI 0)))), (aq, .inl (cL, 10, .inr (.inl fq)))]) H := hP
    have hD : va_D A ([(am, .inl (cI, 10, .inl fm5)), (aa, .inl (cI, 48, .inl (upd fa (6 * t) (nI 0)))), (aq, .inl (cL, 10, .inr (.inl fq)))]) := hD
    refine lv_iconst (v := (nI 1)) hx hb dL_ended_28 (by decide) ?_
    refine lv_istore (lv' := [(4, .int (nI 1)), (0, .ref aa), (1, .ref am), (2, .ref aq), (3, .int (nI t))]) hx hb dL_ended_29 hl (by decide) rfl (fun ls hl => ?_)
    refine lv_iload hx hb dL_ended_31 (lv_at hl 0 rfl) ?_
    refine lv_iconst (v := (nI 4)) hx hb dL_ended_33 (by decide) ?_
    refine lv_icmp_ge (tgt := 53) hx hb dL_ended_34 (by decide) (fun h => absurd h (by decide)) (fun _ => ?_)
    refine lv_aload_n hx hb dL_ended_37 rfl (lv_at hl 1 rfl) ?_
    refine lv_bipush (v := (nI 6)) hx hb dL_ended_38 (by decide) ?_
    refine lv_iload_n hx hb dL_ended_40 rfl (lv_at hl 4 rfl) ?_
    refine lv_imul hx hb dL_ended_41 ?_
    refine tpe (y := (nI (6 * t))) (pk_mul _ _) ?_
    refine lv_iload hx hb dL_ended_42 (lv_at hl 0 rfl) ?_
    refine lv_iadd hx hb dL_ended_44 ?_
    refine tpe (y := (nI (6 * t + 1))) (nI_add _ _) ?_
    refine lv_iconst (v := (-1)) hx hb dL_ended_45 (by decide) ?_
    refine r_ist (k := (6 * t + 1)) hx hb hK hP hD hS 1 rfl (by omega) (by decide) dL_ended_46 (fun H locs hP hD hS => ?_)
    have hP : va_P D vwCl ([(am, .inl (cI, 10, .inl fm5)), (aa, .inl (cI, 48, .inl (upd (upd fa (6 * t) (nI 0)) (6 * t + 1) (-1)))), (aq, .inl (cL, 10, .inr (.inl fq)))]) H := hP
    have hD : va_D A ([(am, .inl (cI, 10, .inl fm5)), (aa, .inl (cI, 48, .inl (upd (upd fa (6 * t) (nI 0)) (6 * t + 1) (-1)))), (aq, .inl (cL, 10, .inr (.inl fq)))]) := hD
    refine lv_iinc (v := (nI 2)) (lv' := [(4, .int (nI 2)), (0, .ref aa), (1, .ref am), (2, .ref aq), (3, .int (nI t))]) hx hb dL_ended_47 hl (k := 0) rfl (by decide) (by decide) rfl (fun ls hl => ?_)
    refine lv_goto (tgt := 31) hx hb dL_ended_50 (by decide) ?_
    refine lv_iload hx hb dL_ended_31 (lv_at hl 0 rfl) ?_
    refine lv_iconst (v := (nI 4)) hx hb dL_ended_33 (by decide) ?_
    refine lv_icmp_ge (tgt := 53) hx hb dL_ended_34 (by decide) (fun h => absurd h (by decide)) (fun _ => ?_)
    refine lv_aload_n hx hb dL_ended_37 rfl (lv_at hl 1 rfl) ?_
    refine lv_bipush (v := (nI 6)) hx hb dL_ended_38 (by decide) ?_
    refine lv_iload_n hx hb dL_ended_40 rfl (lv_at hl 4 rfl) ?_
    refine lv_imul hx hb dL_ended_41 ?_
    refine tpe (y := (nI (6 * t))) (pk_mul _ _) ?_
    refine lv_iload hx hb dL_ended_42 (lv_at hl 0 rfl) ?_
    refine lv_iadd hx hb dL_ended_44 ?_
    refine tpe (y := (nI (6 * t + 2))) (nI_add _ _) ?_
    refine lv_iconst (v := (-1)) hx hb dL_ended_45 (by decide) ?_
    refine r_ist (k := (6 * t + 2)) hx hb hK hP hD hS 1 rfl (by omega) (by decide) dL_ended_46 (fun H locs hP hD hS => ?_)
    have hP : va_P D vwCl ([(am, .inl (cI, 10, .inl fm5)), (aa, .inl (cI, 48, .inl (upd (upd (upd fa (6 * t) (nI 0)) (6 * t + 1) (-1)) (6 * t + 2) (-1)))), (aq, .inl (cL, 10, .inr (.inl fq)))]) H := hP
    have hD : va_D A ([(am, .inl (cI, 10, .inl fm5)), (aa, .inl (cI, 48, .inl (upd (upd (upd fa (6 * t) (nI 0)) (6 * t + 1) (-1)) (6 * t + 2) (-1)))), (aq, .inl (cL, 10, .inr (.inl fq)))]) := hD
    refine lv_iinc (v := (nI 3)) (lv' := [(4, .int (nI 3)), (0, .ref aa), (1, .ref am), (2, .ref aq), (3, .int (nI t))]) hx hb dL_ended_47 hl (k := 0) rfl (by decide) (by decide) rfl (fun ls hl => ?_)
    refine lv_goto (tgt := 31) hx hb dL_ended_50 (by decide) ?_
    refine lv_iload hx hb dL_ended_31 (lv_at hl 0 rfl) ?_
    refine lv_iconst (v := (nI 4)) hx hb dL_ended_33 (by decide) ?_
    refine lv_icmp_ge (tgt := 53) hx hb dL_ended_34 (by decide) (fun h => absurd h (by decide)) (fun _ => ?_)
    refine lv_aload_n hx hb dL_ended_37 rfl (lv_at hl 1 rfl) ?_
    refine lv_bipush (v := (nI 6)) hx hb dL_ended_38 (by decide) ?_
    refine lv_iload_n hx hb dL_ended_40 rfl (lv_at hl 4 rfl) ?_
    refine lv_imul hx hb dL_ended_41 ?_
    refine tpe (y := (nI (6 * t))) (pk_mul _ _) ?_
    refine lv_iload hx hb dL_ended_42 (lv_at hl 0 rfl) ?_
    refine lv_iadd hx hb dL_ended_44 ?_
    refine tpe (y := (nI (6 * t + 3))) (nI_add _ _) ?_
    refine lv_iconst (v := (-1)) hx hb dL_ended_45 (by decide) ?_
    refine r_ist (k := (6 * t + 3)) hx hb hK hP hD hS 1 rfl (by omega) (by decide) dL_ended_46 (fun H locs hP hD hS => ?_)
    have hP : va_P D vwCl ([(am, .inl (cI, 10, .inl fm5)), (aa, .inl (cI, 48, .inl (upd (upd (upd (upd fa (6 * t) (nI 0)) (6 * t + 1) (-1)) (6 * t + 2) (-1)) (6 * t + 3) (-1)))), (aq, .inl (cL, 10, .inr (.inl fq)))]) H := hP
    have hD : va_D A ([(am, .inl (cI, 10, .inl fm5)), (aa, .inl (cI, 48, .inl (upd (upd (upd (upd fa (6 * t) (nI 0)) (6 * t + 1) (-1)) (6 * t + 2) (-1)) (6 * t + 3) (-1)))), (aq, .inl (cL, 10, .inr (.inl fq)))]) := hD
    refine lv_iinc (v := (nI 4)) (lv' := [(4, .int (nI 4)), (0, .ref aa), (1, .ref am), (2, .ref aq), (3, .int (nI t))]) hx hb dL_ended_47 hl (k := 0) rfl (by decide) (by decide) rfl (fun ls hl => ?_)
    refine lv_goto (tgt := 31) hx hb dL_ended_50 (by decide) ?_
    refine lv_iload hx hb dL_ended_31 (lv_at hl 0 rfl) ?_
    refine lv_iconst (v := (nI 4)) hx hb dL_ended_33 (by decide) ?_
    refine lv_icmp_ge (tgt := 53) hx hb dL_ended_34 (by decide) (fun _ => ?_) (fun h => absurd (by decide) h)
    have hMe := MM_end hM5
    have hZe := ZA_end hZr5 ht
    have hJe := JJ_end hJ ht
    have hP : va_P D vwCl ([(am, .inl (cI, 10, .inl fm5)), (aa, .inl (cI, 48, .inl (edA fa t))), (aq, .inl (cL, 10, .inr (.inl fq)))]) H := hP
    have hD : va_D A ([(am, .inl (cI, 10, .inl fm5)), (aa, .inl (cI, 48, .inl (edA fa t))), (aq, .inl (cL, 10, .inr (.inl fq)))]) := hD
    refine lv_aload_n hx hb dL_ended_53 rfl (lv_at hl 1 rfl) ?_
    refine lv_aload_n hx hb dL_ended_54 rfl (lv_at hl 2 rfl) ?_
    refine lv_aload_n hx hb dL_ended_55 rfl (lv_at hl 3 rfl) ?_
    refine call_l (X := []) (Wc := [(am, .inl (cI, 10, .inl fm5)), (aa, .inl (cI, 48, .inl (edA fa t))), (aq, .inl (cL, 10, .inr (.inl fq)))]) (Z := []) (As := [.ref aa, .ref am, .ref aq]) (rest := []) ⟨hx, hb, hml, hown, hts⟩ (c_L_serve l D cI cT cL am aa aq fm5 (edA fa t) fq (endF F t) (rmQ F Q0 t) hJe hMe hZe hQa) (va_cwS 3 hts gL_ended_L_serve rfl rfl rfl (by decide +kernel) ⟨Nat.le_of_ble_eq_true rfl, Nat.le_of_ble_eq_true rfl⟩) hKL hP hD hS hA (fun _ => adw3) rfl hl.1 rfl (Nat.le_of_ble_eq_true rfl) ⟨by decide, by decide⟩ dL_ended_56 (fun rv uu H locs hp hP hD hS => ?_)
    obtain ⟨fm6, fa6, fq6⟩ := uu
    obtain ⟨rfl, hM6, hZ6, hQ6⟩ := hp
    dsimp only at hM6 hZ6 hQ6
    have hJ6 := JJ_srv hJe
    have hP : va_P D vwCl ([(am, .inl (cI, 10, .inl fm6)), (aa, .inl (cI, 48, .inl fa6)), (aq, .inl (cL, 10, .inr (.inl fq6)))]) H := hP
    have hD : va_D A ([(am, .inl (cI, 10, .inl fm6)), (aa, .inl (cI, 48, .inl fa6)), (aq, .inl (cL, 10, .inr (.inl fq6)))]) := hD
    exact ret_i (u := (fm6, fa6, fq6)) hQ hx hb hrt hlk hS dL_ended_59 hP ⟨rfl, hM6, hZ6, hQ6⟩
  · have h_1 := h_1
    have n3 := (st_w hJ ht).mp h_1
    refine lv_aload_n hx hb dL_ended_10 rfl (lv_at hl 0 rfl) ?_
    refine lv_aload_n hx hb dL_ended_11 rfl (lv_at hl 2 rfl) ?_
    refine lv_iload_n hx hb dL_ended_12 rfl (lv_at hl 3 rfl) ?_
    refine call_lv (X := [(am, .inl (cI, 10, .inl fm))]) (Wc := [(aa, .inl (cI, 48, .inl fa)), (aq, .inl (cL, 10, .inr (.inl fq)))]) (Z := []) (As := [.ref aa, .ref aq, .int (nI t)]) (rest := []) ⟨hx, hb, hml, hown, hts⟩ (c_L_remove l D cI cT cL aa aq fa fq F Q0 t (by omega) n3 hJ hZ hQL) (va_cwS 3 hts gL_ended_L_remove rfl rfl rfl (by decide +kernel) ⟨Nat.le_of_ble_eq_true rfl, Nat.le_of_ble_eq_true rfl⟩) hKL hP hD hS hA (fun _ => adw2) rfl hl.1 rfl (Nat.le_of_ble_eq_true rfl) ⟨by decide, by decide⟩ dL_ended_13 (fun uu H locs hp hP hD hS => ?_)
    obtain ⟨fa7, fq7⟩ := uu
    obtain ⟨hZ7, hQ7⟩ := hp
    dsimp only at hZ7 hQ7
    have hJ7 := JJ_rm hJ (show t < 8 by omega)
    have hMr7 := MM_cg (F' := rmF F t) hM (rmF_ne (by decide))
    have hP : va_P D vwCl ([(am, .inl (cI, 10, .inl fm)), (aa, .inl (cI, 48, .inl fa7)), (aq, .inl (cL, 10, .inr (.inl fq7)))]) H := hP
    have hD : va_D A ([(am, .inl (cI, 10, .inl fm)), (aa, .inl (cI, 48, .inl fa7)), (aq, .inl (cL, 10, .inr (.inl fq7)))]) := hD
    refine lv_aload_n hx hb dL_ended_16 rfl (lv_at hl 1 rfl) ?_
    refine lv_iload_n hx hb dL_ended_17 rfl (lv_at hl 3 rfl) ?_
    refine call_lv (X := []) (Wc := [(am, .inl (cI, 10, .inl fm))]) (Z := [(aa, .inl (cI, 48, .inl fa7)), (aq, .inl (cL, 10, .inr (.inl fq7)))]) (As := [.ref am, .int (nI t)]) (rest := []) ⟨hx, hb, hml, hown, hts⟩ (c_L_release l D cI cT cL am fm (rmF F t) t (by omega) hMr7) (va_cwS 2 hts gL_ended_L_release rfl rfl rfl (by decide +kernel) ⟨Nat.le_of_ble_eq_true rfl, Nat.le_of_ble_eq_true rfl⟩) hKL hP hD hS hA (fun _ => adw1) rfl hl.1 rfl (Nat.le_of_ble_eq_true rfl) ⟨by decide, by decide⟩ dL_ended_18 (fun uu H locs hp hP hD hS => ?_)
    obtain ⟨fm8, efm8⟩ : ∃ f, f = uu := ⟨_, rfl⟩
    rw [← efm8] at hP hD hp
    have hM8 := hp
    have hZr8 := ZA_rel (t := t) hZ7
    have hP : va_P D vwCl ([(am, .inl (cI, 10, .inl fm8)), (aa, .inl (cI, 48, .inl fa7)), (aq, .inl (cL, 10, .inr (.inl fq7)))]) H := hP
    have hD : va_D A ([(am, .inl (cI, 10, .inl fm8)), (aa, .inl (cI, 48, .inl fa7)), (aq, .inl (cL, 10, .inr (.inl fq7)))]) := hD
    refine lv_aload_n hx hb dL_ended_21 rfl (lv_at hl 0 rfl) ?_
    refine lv_bipush (v := (nI 6)) hx hb dL_ended_22 (by decide) ?_
    refine lv_iload_n hx hb dL_ended_24 rfl (lv_at hl 3 rfl) ?_
    refine lv_imul hx hb dL_ended_25 ?_
    refine tpe (y := (nI (6 * t))) (pk_mul _ _) ?_
    refine lv_iconst (v := (nI 0)) hx hb dL_ended_26 (by decide) ?_
    refine r_ist (k := (6 * t)) hx hb hK hP hD hS 1 rfl (by omega) (by decide) dL_ended_27 (fun H locs hP hD hS => ?_)
    have hP : va_P D vwCl ([(am, .inl (cI, 10, .inl fm8)), (aa, .inl (cI, 48, .inl (upd fa7 (6 * t) (nI 0)))), (aq, .inl (cL, 10, .inr (.inl fq7)))]) H := hP
    have hD : va_D A ([(am, .inl (cI, 10, .inl fm8)), (aa, .inl (cI, 48, .inl (upd fa7 (6 * t) (nI 0)))), (aq, .inl (cL, 10, .inr (.inl fq7)))]) := hD
    refine lv_iconst (v := (nI 1)) hx hb dL_ended_28 (by decide) ?_
    refine lv_istore (lv' := [(4, .int (nI 1)), (0, .ref aa), (1, .ref am), (2, .ref aq), (3, .int (nI t))]) hx hb dL_ended_29 hl (by decide) rfl (fun ls hl => ?_)
    refine lv_iload hx hb dL_ended_31 (lv_at hl 0 rfl) ?_
    refine lv_iconst (v := (nI 4)) hx hb dL_ended_33 (by decide) ?_
    refine lv_icmp_ge (tgt := 53) hx hb dL_ended_34 (by decide) (fun h => absurd h (by decide)) (fun _ => ?_)
    refine lv_aload_n hx hb dL_ended_37 rfl (lv_at hl 1 rfl) ?_
    refine lv_bipush (v := (nI 6)) hx hb dL_ended_38 (by decide) ?_
    refine lv_iload_n hx hb dL_ended_40 rfl (lv_at hl 4 rfl) ?_
    refine lv_imul hx hb dL_ended_41 ?_
    refine tpe (y := (nI (6 * t))) (pk_mul _ _) ?_
    refine lv_iload hx hb dL_ended_42 (lv_at hl 0 rfl) ?_
    refine lv_iadd hx hb dL_ended_44 ?_
    refine tpe (y := (nI (6 * t + 1))) (nI_add _ _) ?_
    refine lv_iconst (v := (-1)) hx hb dL_ended_45 (by decide) ?_
    refine r_ist (k := (6 * t + 1)) hx hb hK hP hD hS 1 rfl (by omega) (by decide) dL_ended_46 (fun H locs hP hD hS => ?_)
    have hP : va_P D vwCl ([(am, .inl (cI, 10, .inl fm8)), (aa, .inl (cI, 48, .inl (upd (upd fa7 (6 * t) (nI 0)) (6 * t + 1) (-1)))), (aq, .inl (cL, 10, .inr (.inl fq7)))]) H := hP
    have hD : va_D A ([(am, .inl (cI, 10, .inl fm8)), (aa, .inl (cI, 48, .inl (upd (upd fa7 (6 * t) (nI 0)) (6 * t + 1) (-1)))), (aq, .inl (cL, 10, .inr (.inl fq7)))]) := hD
    refine lv_iinc (v := (nI 2)) (lv' := [(4, .int (nI 2)), (0, .ref aa), (1, .ref am), (2, .ref aq), (3, .int (nI t))]) hx hb dL_ended_47 hl (k := 0) rfl (by decide) (by decide) rfl (fun ls hl => ?_)
    refine lv_goto (tgt := 31) hx hb dL_ended_50 (by decide) ?_
    refine lv_iload hx hb dL_ended_31 (lv_at hl 0 rfl) ?_
    refine lv_iconst (v := (nI 4)) hx hb dL_ended_33 (by decide) ?_
    refine lv_icmp_ge (tgt := 53) hx hb dL_ended_34 (by decide) (fun h => absurd h (by decide)) (fun _ => ?_)
    refine lv_aload_n hx hb dL_ended_37 rfl (lv_at hl 1 rfl) ?_
    refine lv_bipush (v := (nI 6)) hx hb dL_ended_38 (by decide) ?_
    refine lv_iload_n hx hb dL_ended_40 rfl (lv_at hl 4 rfl) ?_
    refine lv_imul hx hb dL_ended_41 ?_
    refine tpe (y := (nI (6 * t))) (pk_mul _ _) ?_
    refine lv_iload hx hb dL_ended_42 (lv_at hl 0 rfl) ?_
    refine lv_iadd hx hb dL_ended_44 ?_
    refine tpe (y := (nI (6 * t + 2))) (nI_add _ _) ?_
    refine lv_iconst (v := (-1)) hx hb dL_ended_45 (by decide) ?_
    refine r_ist (k := (6 * t + 2)) hx hb hK hP hD hS 1 rfl (by omega) (by decide) dL_ended_46 (fun H locs hP hD hS => ?_)
    have hP : va_P D vwCl ([(am, .inl (cI, 10, .inl fm8)), (aa, .inl (cI, 48, .inl (upd (upd (upd fa7 (6 * t) (nI 0)) (6 * t + 1) (-1)) (6 * t + 2) (-1)))), (aq, .inl (cL, 10, .inr (.inl fq7)))]) H := hP
    have hD : va_D A ([(am, .inl (cI, 10, .inl fm8)), (aa, .inl (cI, 48, .inl (upd (upd (upd fa7 (6 * t) (nI 0)) (6 * t + 1) (-1)) (6 * t + 2) (-1)))), (aq, .inl (cL, 10, .inr (.inl fq7)))]) := hD
    refine lv_iinc (v := (nI 3)) (lv' := [(4, .int (nI 3)), (0, .ref aa), (1, .ref am), (2, .ref aq), (3, .int (nI t))]) hx hb dL_ended_47 hl (k := 0) rfl (by decide) (by decide) rfl (fun ls hl => ?_)
    refine lv_goto (tgt := 31) hx hb dL_ended_50 (by decide) ?_
    refine lv_iload hx hb dL_ended_31 (lv_at hl 0 rfl) ?_
    refine lv_iconst (v := (nI 4)) hx hb dL_ended_33 (by decide) ?_
    refine lv_icmp_ge (tgt := 53) hx hb dL_ended_34 (by decide) (fun h => absurd h (by decide)) (fun _ => ?_)
    refine lv_aload_n hx hb dL_ended_37 rfl (lv_at hl 1 rfl) ?_
    refine lv_bipush (v := (nI 6)) hx hb dL_ended_38 (by decide) ?_
    refine lv_iload_n hx hb dL_ended_40 rfl (lv_at hl 4 rfl) ?_
    refine lv_imul hx hb dL_ended_41 ?_
    refine tpe (y := (nI (6 * t))) (pk_mul _ _) ?_
    refine lv_iload hx hb dL_ended_42 (lv_at hl 0 rfl) ?_
    refine lv_iadd hx hb dL_ended_44 ?_
    refine tpe (y := (nI (6 * t + 3))) (nI_add _ _) ?_
    refine lv_iconst (v := (-1)) hx hb dL_ended_45 (by decide) ?_
    refine r_ist (k := (6 * t + 3)) hx hb hK hP hD hS 1 rfl (by omega) (by decide) dL_ended_46 (fun H locs hP hD hS => ?_)
    have hP : va_P D vwCl ([(am, .inl (cI, 10, .inl fm8)), (aa, .inl (cI, 48, .inl (upd (upd (upd (upd fa7 (6 * t) (nI 0)) (6 * t + 1) (-1)) (6 * t + 2) (-1)) (6 * t + 3) (-1)))), (aq, .inl (cL, 10, .inr (.inl fq7)))]) H := hP
    have hD : va_D A ([(am, .inl (cI, 10, .inl fm8)), (aa, .inl (cI, 48, .inl (upd (upd (upd (upd fa7 (6 * t) (nI 0)) (6 * t + 1) (-1)) (6 * t + 2) (-1)) (6 * t + 3) (-1)))), (aq, .inl (cL, 10, .inr (.inl fq7)))]) := hD
    refine lv_iinc (v := (nI 4)) (lv' := [(4, .int (nI 4)), (0, .ref aa), (1, .ref am), (2, .ref aq), (3, .int (nI t))]) hx hb dL_ended_47 hl (k := 0) rfl (by decide) (by decide) rfl (fun ls hl => ?_)
    refine lv_goto (tgt := 31) hx hb dL_ended_50 (by decide) ?_
    refine lv_iload hx hb dL_ended_31 (lv_at hl 0 rfl) ?_
    refine lv_iconst (v := (nI 4)) hx hb dL_ended_33 (by decide) ?_
    refine lv_icmp_ge (tgt := 53) hx hb dL_ended_34 (by decide) (fun _ => ?_) (fun h => absurd (by decide) h)
    have hMe := MM_end hM8
    have hZe := ZA_end hZr8 ht
    have hJe := JJ_end hJ ht
    have hP : va_P D vwCl ([(am, .inl (cI, 10, .inl fm8)), (aa, .inl (cI, 48, .inl (edA fa7 t))), (aq, .inl (cL, 10, .inr (.inl fq7)))]) H := hP
    have hD : va_D A ([(am, .inl (cI, 10, .inl fm8)), (aa, .inl (cI, 48, .inl (edA fa7 t))), (aq, .inl (cL, 10, .inr (.inl fq7)))]) := hD
    refine lv_aload_n hx hb dL_ended_53 rfl (lv_at hl 1 rfl) ?_
    refine lv_aload_n hx hb dL_ended_54 rfl (lv_at hl 2 rfl) ?_
    refine lv_aload_n hx hb dL_ended_55 rfl (lv_at hl 3 rfl) ?_
    refine call_l (X := []) (Wc := [(am, .inl (cI, 10, .inl fm8)), (aa, .inl (cI, 48, .inl (edA fa7 t))), (aq, .inl (cL, 10, .inr (.inl fq7)))]) (Z := []) (As := [.ref aa, .ref am, .ref aq]) (rest := []) ⟨hx, hb, hml, hown, hts⟩ (c_L_serve l D cI cT cL am aa aq fm8 (edA fa7 t) fq7 (endF F t) (rmQ F Q0 t) hJe hMe hZe hQ7) (va_cwS 3 hts gL_ended_L_serve rfl rfl rfl (by decide +kernel) ⟨Nat.le_of_ble_eq_true rfl, Nat.le_of_ble_eq_true rfl⟩) hKL hP hD hS hA (fun _ => adw3) rfl hl.1 rfl (Nat.le_of_ble_eq_true rfl) ⟨by decide, by decide⟩ dL_ended_56 (fun rv uu H locs hp hP hD hS => ?_)
    obtain ⟨fm9, fa9, fq9⟩ := uu
    obtain ⟨rfl, hM9, hZ9, hQ9⟩ := hp
    dsimp only at hM9 hZ9 hQ9
    have hJ9 := JJ_srv hJe
    have hP : va_P D vwCl ([(am, .inl (cI, 10, .inl fm9)), (aa, .inl (cI, 48, .inl fa9)), (aq, .inl (cL, 10, .inr (.inl fq9)))]) H := hP
    have hD : va_D A ([(am, .inl (cI, 10, .inl fm9)), (aa, .inl (cI, 48, .inl fa9)), (aq, .inl (cL, 10, .inr (.inl fq9)))]) := hD
    exact ret_i (u := (fm9, fa9, fq9)) hQ hx hb hrt hlk hS dL_ended_59 hP ⟨rfl, hM9, hZ9, hQ9⟩

abbrev rL_requested : Room := { frames := 5, cells := 0, slots := 0, locals := 133 }
set_option maxHeartbeats 8000000 in
set_option maxRecDepth 100000 in
theorem c_L_requested (l : Launch) (D : va_G) (cI cT cL : ClassId) (am aa aq ag : Nat) (fm : Nat → Int32) (fa : Nat → Int32) (fq : Nat → Int64) (fg : Nat → Int32) (F : FF) (Q0 : QQ) (t r : Nat) (mo : Int32) (ht : t < 8) (hr : r < 10) (hmo : mo = nI 1 ∨ mo = nI 2) (h3 : F 3 t = -1) (h0 : ¬ F 0 t = -1) (hJ : JJ F Q0) (hM : MM F fm) (hZ : ZA F fa) (hQL : QL Q0 fq) (hG : GG F fg) : CL l D cI cT cL yL_requested wsL_requested rL_requested [.ref aa, .ref am, .ref aq, .ref ag, .int (nI t), .int (nI r), .int mo] ([(am, .inl (cI, 10, .inl fm)), (aa, .inl (cI, 48, .inl fa)), (aq, .inl (cL, 10, .inr (.inl fq))), (ag, .inl (cI, 3, .inl fg))]) (S := (Nat → Int32) × (Nat → Int32) × (Nat → Int64) × (Nat → Int32)) (fun v u => v = nI (8 * askV F Q0 t r mo + outN (askF F Q0 t r mo) t r mo) ∧ MM (askF F Q0 t r mo) u.1 ∧ ZA (askF F Q0 t r mo) u.2.1 ∧ QL (askQ F Q0 t r mo) u.2.2.1 ∧ GG (askF F Q0 t r mo) u.2.2.2) (fun u => [(am, .inl (cI, 10, .inl u.1)), (aa, .inl (cI, 48, .inl u.2.1)), (aq, .inl (cL, 10, .inr (.inl u.2.2.1))), (ag, .inl (cI, 3, .inl u.2.2.2))]) := by
  refine CL.of (cc := cL_requested) (maxL := 14) (ret := (some .int)) (by decide) rfl (Nat.le_of_ble_eq_true rfl) ?_
  intro p e s m args below meth c A Q hQ B hA H locs hP hKL hD hS ls hl
  have hK : va_K D vwCl (TY cI cT) s := hKL.sub (tys' := TY cI cT) [0, 1] rfl
  obtain ⟨hx, hb, hml, hrt, hts, hown, hlk⟩ := B
  have hl : lv_has ls 14 [(0, .ref aa), (1, .ref am), (2, .ref aq), (3, .ref ag), (4, .int (nI t)), (5, .int (nI r)), (6, .int mo)] := hl
  refine lv_aload_n hx hb dL_requested_0 rfl (lv_at hl 1 rfl) ?_
  refine lv_iload hx hb dL_requested_1 (lv_at hl 4 rfl) ?_
  refine lv_iload hx hb dL_requested_3 (lv_at hl 5 rfl) ?_
  refine call_l (X := []) (Wc := [(am, .inl (cI, 10, .inl fm))]) (Z := [(aa, .inl (cI, 48, .inl fa)), (aq, .inl (cL, 10, .inr (.inl fq))), (ag, .inl (cI, 3, .inl fg))]) (As := [.ref am, .int (nI t), .int (nI r)]) (rest := []) ⟨hx, hb, hml, hown, hts⟩ (c_L_lock l D cI cT cL am fm F Q0 t r (by omega) (by omega) hJ hM) (va_cwS 3 hts gL_requested_L_lock rfl rfl rfl (by decide +kernel) ⟨Nat.le_of_ble_eq_true rfl, Nat.le_of_ble_eq_true rfl⟩) hKL hP hD hS hA (fun _ => adw1) rfl hl.1 rfl (Nat.le_of_ble_eq_true rfl) ⟨by decide, by decide⟩ dL_requested_5 (fun rv uu H locs hp hP hD hS => ?_)
  obtain rfl := hp
  have hP : va_P D vwCl ([(am, .inl (cI, 10, .inl fm)), (aa, .inl (cI, 48, .inl fa)), (aq, .inl (cL, 10, .inr (.inl fq))), (ag, .inl (cI, 3, .inl fg))]) H := hP
  have hD : va_D A ([(am, .inl (cI, 10, .inl fm)), (aa, .inl (cI, 48, .inl fa)), (aq, .inl (cL, 10, .inr (.inl fq))), (ag, .inl (cI, 3, .inl fg))]) := hD
  refine lv_istore (lv' := [(7, .int (lk F t r)), (0, .ref aa), (1, .ref am), (2, .ref aq), (3, .ref ag), (4, .int (nI t)), (5, .int (nI r)), (6, .int mo)]) hx hb dL_requested_8 hl (by decide) rfl (fun ls hl => ?_)
  refine lv_iload hx hb dL_requested_10 (lv_at hl 0 rfl) ?_
  refine lv_iconst (v := (nI 2)) hx hb dL_requested_12 (by decide) ?_
  refine lv_icmp_eq (tgt := 23) hx hb dL_requested_13 (by decide) (fun h_1 => ?_) (fun h_1 => ?_)
  · have h_1 := h_1
    refine lv_iconst (v := (nI 1)) hx hb dL_requested_23 (by decide) ?_
    obtain ⟨e1, e2, e3, e4⟩ := rq_same (F := F) (Q := Q0) (pS_t (mo := mo) (Or.inl h_1))
    exact ret_i (u := (fm, fa, fq, fg)) hQ hx hb hrt hlk hS dL_requested_24 hP ⟨congrArg nI (by omega), by rw [e1]; exact hM, by rw [e1]; exact hZ, by rw [e2]; exact hQL, by rw [e1]; exact hG⟩
  · have h_1 := h_1
    refine lv_iload hx hb dL_requested_16 (lv_at hl 0 rfl) ?_
    refine lv_iload hx hb dL_requested_18 (lv_at hl 7 rfl) ?_
    refine lv_icmp_ne (tgt := 25) hx hb dL_requested_20 (by decide) (fun h_2 => ?_) (fun h_2 => ?_)
    · have h_2 := h_2
      have hs := pS_f h_1 h_2
      refine lv_aload_n hx hb dL_requested_25 rfl (lv_at hl 2 rfl) ?_
      refine lv_iload hx hb dL_requested_26 (lv_at hl 6 rfl) ?_
      refine r_ild (k := r) hx hb hK hP 0 rfl (by omega) (by decide) dL_requested_28 ?_
      refine lv_iconst (v := (nI 3)) hx hb dL_requested_29 (by decide) ?_
      refine lv_iconst (v := (nI 2)) hx hb dL_requested_30 (by decide) ?_
      refine lv_iload hx hb dL_requested_31 (lv_at hl 5 rfl) ?_
      refine lv_imul hx hb dL_requested_33 ?_
      refine tpe (y := (nI (2 * t))) (pk_mul _ _) ?_
      refine lv_ishl hx hb dL_requested_34 ?_
      refine lv_iconst (v := (-1)) hx hb dL_requested_35 (by decide) ?_
      refine lv_ixor hx hb dL_requested_36 ?_
      refine lv_iand hx hb dL_requested_37 ?_
      refine lv_if_ne (tgt := 45) hx hb dL_requested_38 (by decide) (fun h_3 => ?_) (fun h_3 => ?_)
      · have h_3 := h_3
        refine lv_iconst (v := (nI 0)) hx hb dL_requested_45 (by decide) ?_
        refine lv_istore (lv' := [(8, .int (nI 0)), (7, .int (lk F t r)), (0, .ref aa), (1, .ref am), (2, .ref aq), (3, .ref ag), (4, .int (nI t)), (5, .int (nI r)), (6, .int mo)]) hx hb dL_requested_46 hl (by decide) rfl (fun ls hl => ?_)
        refine lv_iload hx hb dL_requested_48 (lv_at hl 1 rfl) ?_
        refine lv_iconst (v := (nI 1)) hx hb dL_requested_50 (by decide) ?_
        refine lv_icmp_ne (tgt := 59) hx hb dL_requested_51 (by decide) (fun h_4 => ?_) (fun h_4 => ?_)
        · have h_4 := h_4
          refine lv_iload hx hb dL_requested_59 (lv_at hl 1 rfl) ?_
          refine lv_if_ne (tgt := 99) hx hb dL_requested_61 (by decide) (fun h_5 => absurd (hJ.2.2.2.2.1 t ht r hr) (fun q => q.elim h_5 (fun q => q.elim h_4 h_1))) (fun h_5 => ?_)
          have h_5 := h_5
          refine lv_aload_n hx hb dL_requested_64 rfl (lv_at hl 4 rfl) ?_
          refine lv_iload hx hb dL_requested_65 (lv_at hl 7 rfl) ?_
          refine r_lld (k := r) hx hb hKL hP 2 rfl (by omega) (by decide) dL_requested_67 ?_
          refine tpl (y := (lN (qN (Q0 r)))) (hQL r (by omega)) ?_
          refine lv_lconst (v := lN 0) hx hb dL_requested_68 rfl ?_
          refine W.lcmp hx hb dL_requested_69 ?_
          refine lv_if_ne (tgt := 99) hx hb dL_requested_70 (by decide) (fun h_6 => ?_) (fun h_6 => ?_)
          · have h_6 := h_6
            have hg := plG_3 (mo := mo) h_4 (fun q => h_6 ((len_eq hJ hr).mpr q))
            have h8 := JJ_room hJ ht h3 hr
            have hqq : qlen Q0 r = (Q0 r).length := rfl
            refine lv_iload hx hb dL_requested_99 (lv_at hl 1 rfl) ?_
            refine lv_if_ne (tgt := 114) hx hb dL_requested_101 (by decide) (fun h_7 => absurd h_5 h_7) (fun h_7 => ?_)
            have h_7 := h_7
            refine lv_aload_n hx hb dL_requested_104 rfl (lv_at hl 4 rfl) ?_
            refine lv_iload hx hb dL_requested_105 (lv_at hl 7 rfl) ?_
            refine r_lld (k := r) hx hb hKL hP 2 rfl (by omega) (by decide) dL_requested_107 ?_
            refine tpl (y := (lN (qN (Q0 r)))) (hQL r (by omega)) ?_
            refine call_l (X := [(am, .inl (cI, 10, .inl fm)), (aa, .inl (cI, 48, .inl fa)), (aq, .inl (cL, 10, .inr (.inl fq))), (ag, .inl (cI, 3, .inl fg))]) (Wc := []) (Z := []) (As := [.long (lN (qN (Q0 r)))]) (rest := []) ⟨hx, hb, hml, hown, hts⟩ (c_L_length l D cI cT cL (Q0 r) (Q_8 hJ (show r < 10 by omega)) (JJ_len hJ (show r < 10 by omega))) (va_cwS 1 hts gL_requested_L_length rfl rfl rfl (by decide +kernel) ⟨Nat.le_of_ble_eq_true rfl, Nat.le_of_ble_eq_true rfl⟩) hKL (P_nilr hP) (D_nilr hD) hS hA (fun _ => rfl) rfl hl.1 rfl (Nat.le_of_ble_eq_true rfl) ⟨by decide, by decide⟩ dL_requested_108 (fun rv uu H locs hp hP hD hS => ?_)
            have hP := P_nil2 hP
            have hD := D_nil2 hD
            obtain rfl := hp
            have hP : va_P D vwCl ([(am, .inl (cI, 10, .inl fm)), (aa, .inl (cI, 48, .inl fa)), (aq, .inl (cL, 10, .inr (.inl fq))), (ag, .inl (cI, 3, .inl fg))]) H := hP
            have hD : va_D A ([(am, .inl (cI, 10, .inl fm)), (aa, .inl (cI, 48, .inl fa)), (aq, .inl (cL, 10, .inr (.inl fq))), (ag, .inl (cI, 3, .inl fg))]) := hD
            refine lv_goto (tgt := 115) hx hb dL_requested_111 (by decide) ?_
            refine lv_istore (lv' := [(9, .int (nI ((Q0 r).length))), (8, .int (nI 0)), (7, .int (lk F t r)), (0, .ref aa), (1, .ref am), (2, .ref aq), (3, .ref ag), (4, .int (nI t)), (5, .int (nI r)), (6, .int mo)]) hx hb dL_requested_115 hl (by decide) rfl (fun ls hl => ?_)
            refine lv_iload hx hb dL_requested_117 (lv_at hl 2 rfl) ?_
            refine lv_iconst (v := (nI 1)) hx hb dL_requested_119 (by decide) ?_
            refine lv_icmp_ne (tgt := 160) hx hb dL_requested_120 (by decide) (fun h_8 => ?_) (fun h_8 => absurd h_8 h_4)
            have h_8 := h_8
            have he9 : (Q0 r).length = insN F Q0 t r := ins_2 h_4
            obtain ⟨n9, hn9⟩ : ∃ n, n = insN F Q0 t r := ⟨_, rfl⟩
            rw [he9, ← hn9] at hl
            have hnle : n9 ≤ qlen Q0 r := by rw [hn9]; exact insN_le
            refine lv_aload_n hx hb dL_requested_160 rfl (lv_at hl 5 rfl) ?_
            refine lv_iload hx hb dL_requested_161 (lv_at hl 8 rfl) ?_
            refine r_lld (k := r) hx hb hKL hP 2 rfl (by omega) (by decide) dL_requested_163 ?_
            refine tpl (y := (lN (qN (Q0 r)))) (hQL r (by omega)) ?_
            refine lv_lconst (v := lN 1) hx hb dL_requested_164 rfl ?_
            refine lv_iconst (v := (nI 4)) hx hb dL_requested_165 (by decide) ?_
            refine lv_iload hx hb dL_requested_166 (lv_at hl 0 rfl) ?_
            refine lv_imul hx hb dL_requested_168 ?_
            refine tpe (y := (nI (4 * n9))) (pk_mul _ _) ?_
            refine lv_lshl (v := (lN 1) <<< ((nI (4 * n9)).toInt64 &&& 63)) hx hb dL_requested_169 rfl ?_
            refine lv_lconst (v := lN 1) hx hb dL_requested_170 rfl ?_
            refine lv_lsub hx hb dL_requested_171 ?_
            refine lv_land hx hb dL_requested_172 ?_
            refine lv_lstore (lv' := [(10, .long ((lN (qN (Q0 r))) &&& (((lN 1) <<< ((nI (4 * n9)).toInt64 &&& 63)) - (lN 1)))), (9, .int (nI n9)), (8, .int (nI 0)), (7, .int (lk F t r)), (0, .ref aa), (1, .ref am), (2, .ref aq), (3, .ref ag), (4, .int (nI t)), (5, .int (nI r)), (6, .int mo)]) hx hb dL_requested_173 hl (by decide) rfl (fun ls hl => ?_)
            refine lv_aload_n hx hb dL_requested_175 rfl (lv_at hl 6 rfl) ?_
            refine lv_iload hx hb dL_requested_176 (lv_at hl 9 rfl) ?_
            refine lv_aload_n hx hb dL_requested_178 rfl (lv_at hl 6 rfl) ?_
            refine lv_iload hx hb dL_requested_179 (lv_at hl 9 rfl) ?_
            refine r_lld (k := r) hx hb hKL hP 2 rfl (by omega) (by decide) dL_requested_181 ?_
            refine tpl (y := (lN (qN (Q0 r)))) (hQL r (by omega)) ?_
            refine lv_iconst (v := (nI 4)) hx hb dL_requested_182 (by decide) ?_
            refine lv_iload hx hb dL_requested_183 (lv_at hl 1 rfl) ?_
            refine lv_imul hx hb dL_requested_185 ?_
            refine tpe (y := (nI (4 * n9))) (pk_mul _ _) ?_
            refine lv_lshr (v := (lN (qN (Q0 r))) >>> ((nI (4 * n9)).toInt64 &&& 63)) hx hb dL_requested_186 rfl ?_
            refine lv_iconst (v := (nI 4)) hx hb dL_requested_187 (by decide) ?_
            refine lv_lshl (v := ((lN (qN (Q0 r))) >>> ((nI (4 * n9)).toInt64 &&& 63)) <<< ((nI 4).toInt64 &&& 63)) hx hb dL_requested_188 rfl ?_
            refine lv_lconst (v := lN 1) hx hb dL_requested_189 rfl ?_
            refine lv_iload hx hb dL_requested_190 (lv_at hl 8 rfl) ?_
            refine lv_i2l (v := (nI t).toInt64) hx hb dL_requested_192 rfl ?_
            refine lv_ladd hx hb dL_requested_193 ?_
            refine lv_lor hx hb dL_requested_194 ?_
            refine lv_iconst (v := (nI 4)) hx hb dL_requested_195 (by decide) ?_
            refine lv_iload hx hb dL_requested_196 (lv_at hl 1 rfl) ?_
            refine lv_imul hx hb dL_requested_198 ?_
            refine tpe (y := (nI (4 * n9))) (pk_mul _ _) ?_
            refine lv_lshl (v := ((((lN (qN (Q0 r))) >>> ((nI (4 * n9)).toInt64 &&& 63)) <<< ((nI 4).toInt64 &&& 63)) ||| ((lN 1) + ((nI t).toInt64))) <<< ((nI (4 * n9)).toInt64 &&& 63)) hx hb dL_requested_199 rfl ?_
            refine lv_lload hx hb dL_requested_200 (lv_at hl 0 rfl) ?_
            refine lv_lor hx hb dL_requested_202 ?_
            refine r_lst (k := r) hx hb hKL hP hD hS 2 rfl (by omega) (by decide) dL_requested_203 (fun H locs hP hD hS => ?_)
            have hP : va_P D vwCl ([(am, .inl (cI, 10, .inl fm)), (aa, .inl (cI, 48, .inl fa)), (aq, .inl (cL, 10, .inr (.inl (vp_updL fq r ((((((lN (qN (Q0 r))) >>> ((nI (4 * n9)).toInt64 &&& 63)) <<< ((nI 4).toInt64 &&& 63)) ||| ((lN 1) + ((nI t).toInt64))) <<< ((nI (4 * n9)).toInt64 &&& 63)) ||| ((lN (qN (Q0 r))) &&& (((lN 1) <<< ((nI (4 * n9)).toInt64 &&& 63)) - (lN 1)))))))), (ag, .inl (cI, 3, .inl fg))]) H := hP
            have hD : va_D A ([(am, .inl (cI, 10, .inl fm)), (aa, .inl (cI, 48, .inl fa)), (aq, .inl (cL, 10, .inr (.inl (vp_updL fq r ((((((lN (qN (Q0 r))) >>> ((nI (4 * n9)).toInt64 &&& 63)) <<< ((nI 4).toInt64 &&& 63)) ||| ((lN 1) + ((nI t).toInt64))) <<< ((nI (4 * n9)).toInt64 &&& 63)) ||| ((lN (qN (Q0 r))) &&& (((lN 1) <<< ((nI (4 * n9)).toInt64 &&& 63)) - (lN 1)))))))), (ag, .inl (cI, 3, .inl fg))]) := hD
            refine lv_aload_n hx hb dL_requested_204 rfl (lv_at hl 4 rfl) ?_
            refine lv_bipush (v := (nI 6)) hx hb dL_requested_205 (by decide) ?_
            refine lv_iload hx hb dL_requested_207 (lv_at hl 8 rfl) ?_
            refine lv_imul hx hb dL_requested_209 ?_
            refine tpe (y := (nI (6 * t))) (pk_mul _ _) ?_
            refine lv_iconst (v := (nI 2)) hx hb dL_requested_210 (by decide) ?_
            refine r_ist (k := (6 * t)) hx hb hK hP hD hS 1 rfl (by omega) (by decide) dL_requested_211 (fun H locs hP hD hS => ?_)
            have hP : va_P D vwCl ([(am, .inl (cI, 10, .inl fm)), (aa, .inl (cI, 48, .inl (upd fa (6 * t) (nI 2)))), (aq, .inl (cL, 10, .inr (.inl (vp_updL fq r ((((((lN (qN (Q0 r))) >>> ((nI (4 * n9)).toInt64 &&& 63)) <<< ((nI 4).toInt64 &&& 63)) ||| ((lN 1) + ((nI t).toInt64))) <<< ((nI (4 * n9)).toInt64 &&& 63)) ||| ((lN (qN (Q0 r))) &&& (((lN 1) <<< ((nI (4 * n9)).toInt64 &&& 63)) - (lN 1)))))))), (ag, .inl (cI, 3, .inl fg))]) H := hP
            have hD : va_D A ([(am, .inl (cI, 10, .inl fm)), (aa, .inl (cI, 48, .inl (upd fa (6 * t) (nI 2)))), (aq, .inl (cL, 10, .inr (.inl (vp_updL fq r ((((((lN (qN (Q0 r))) >>> ((nI (4 * n9)).toInt64 &&& 63)) <<< ((nI 4).toInt64 &&& 63)) ||| ((lN 1) + ((nI t).toInt64))) <<< ((nI (4 * n9)).toInt64 &&& 63)) ||| ((lN (qN (Q0 r))) &&& (((lN 1) <<< ((nI (4 * n9)).toInt64 &&& 63)) - (lN 1)))))))), (ag, .inl (cI, 3, .inl fg))]) := hD
            refine lv_aload_n hx hb dL_requested_212 rfl (lv_at hl 4 rfl) ?_
            refine lv_bipush (v := (nI 6)) hx hb dL_requested_213 (by decide) ?_
            refine lv_iload hx hb dL_requested_215 (lv_at hl 8 rfl) ?_
            refine lv_imul hx hb dL_requested_217 ?_
            refine tpe (y := (nI (6 * t))) (pk_mul _ _) ?_
            refine lv_iconst (v := (nI 4)) hx hb dL_requested_218 (by decide) ?_
            refine lv_iadd hx hb dL_requested_219 ?_
            refine tpe (y := (nI (6 * t + 4))) (nI_add _ _) ?_
            refine lv_iload hx hb dL_requested_220 (lv_at hl 9 rfl) ?_
            refine r_ist (k := (6 * t + 4)) hx hb hK hP hD hS 1 rfl (by omega) (by decide) dL_requested_222 (fun H locs hP hD hS => ?_)
            have hP : va_P D vwCl ([(am, .inl (cI, 10, .inl fm)), (aa, .inl (cI, 48, .inl (upd (upd fa (6 * t) (nI 2)) (6 * t + 4) (nI r)))), (aq, .inl (cL, 10, .inr (.inl (vp_updL fq r ((((((lN (qN (Q0 r))) >>> ((nI (4 * n9)).toInt64 &&& 63)) <<< ((nI 4).toInt64 &&& 63)) ||| ((lN 1) + ((nI t).toInt64))) <<< ((nI (4 * n9)).toInt64 &&& 63)) ||| ((lN (qN (Q0 r))) &&& (((lN 1) <<< ((nI (4 * n9)).toInt64 &&& 63)) - (lN 1)))))))), (ag, .inl (cI, 3, .inl fg))]) H := hP
            have hD : va_D A ([(am, .inl (cI, 10, .inl fm)), (aa, .inl (cI, 48, .inl (upd (upd fa (6 * t) (nI 2)) (6 * t + 4) (nI r)))), (aq, .inl (cL, 10, .inr (.inl (vp_updL fq r ((((((lN (qN (Q0 r))) >>> ((nI (4 * n9)).toInt64 &&& 63)) <<< ((nI 4).toInt64 &&& 63)) ||| ((lN 1) + ((nI t).toInt64))) <<< ((nI (4 * n9)).toInt64 &&& 63)) ||| ((lN (qN (Q0 r))) &&& (((lN 1) <<< ((nI (4 * n9)).toInt64 &&& 63)) - (lN 1)))))))), (ag, .inl (cI, 3, .inl fg))]) := hD
            refine lv_aload_n hx hb dL_requested_223 rfl (lv_at hl 4 rfl) ?_
            refine lv_bipush (v := (nI 6)) hx hb dL_requested_224 (by decide) ?_
            refine lv_iload hx hb dL_requested_226 (lv_at hl 8 rfl) ?_
            refine lv_imul hx hb dL_requested_228 ?_
            refine tpe (y := (nI (6 * t))) (pk_mul _ _) ?_
            refine lv_iconst (v := (nI 5)) hx hb dL_requested_229 (by decide) ?_
            refine lv_iadd hx hb dL_requested_230 ?_
            refine tpe (y := (nI (6 * t + 5))) (nI_add _ _) ?_
            refine lv_iload hx hb dL_requested_231 (lv_at hl 10 rfl) ?_
            refine r_ist (k := (6 * t + 5)) hx hb hK hP hD hS 1 rfl (by omega) (by decide) dL_requested_233 (fun H locs hP hD hS => ?_)
            have hP : va_P D vwCl ([(am, .inl (cI, 10, .inl fm)), (aa, .inl (cI, 48, .inl (upd (upd (upd fa (6 * t) (nI 2)) (6 * t + 4) (nI r)) (6 * t + 5) mo))), (aq, .inl (cL, 10, .inr (.inl (vp_updL fq r ((((((lN (qN (Q0 r))) >>> ((nI (4 * n9)).toInt64 &&& 63)) <<< ((nI 4).toInt64 &&& 63)) ||| ((lN 1) + ((nI t).toInt64))) <<< ((nI (4 * n9)).toInt64 &&& 63)) ||| ((lN (qN (Q0 r))) &&& (((lN 1) <<< ((nI (4 * n9)).toInt64 &&& 63)) - (lN 1)))))))), (ag, .inl (cI, 3, .inl fg))]) H := hP
            have hD : va_D A ([(am, .inl (cI, 10, .inl fm)), (aa, .inl (cI, 48, .inl (upd (upd (upd fa (6 * t) (nI 2)) (6 * t + 4) (nI r)) (6 * t + 5) mo))), (aq, .inl (cL, 10, .inr (.inl (vp_updL fq r ((((((lN (qN (Q0 r))) >>> ((nI (4 * n9)).toInt64 &&& 63)) <<< ((nI 4).toInt64 &&& 63)) ||| ((lN 1) + ((nI t).toInt64))) <<< ((nI (4 * n9)).toInt64 &&& 63)) ||| ((lN (qN (Q0 r))) &&& (((lN 1) <<< ((nI (4 * n9)).toInt64 &&& 63)) - (lN 1)))))))), (ag, .inl (cI, 3, .inl fg))]) := hD
            have hP : va_P D vwCl ([(am, .inl (cI, 10, .inl fm)), (aa, .inl (cI, 48, .inl (wtA fa t r mo))), (aq, .inl (cL, 10, .inr (.inl (vp_updL fq r (iQ (lN (qN (Q0 r))) n9 t))))), (ag, .inl (cI, 3, .inl fg))]) H := hP
            have hD : va_D A ([(am, .inl (cI, 10, .inl fm)), (aa, .inl (cI, 48, .inl (wtA fa t r mo))), (aq, .inl (cL, 10, .inr (.inl (vp_updL fq r (iQ (lN (qN (Q0 r))) n9 t))))), (ag, .inl (cI, 3, .inl fg))]) := hD
            have hpw := pl_wait hs hg
            obtain ⟨F1, hF1⟩ : ∃ G, G = plF F Q0 t r mo := ⟨_, rfl⟩
            obtain ⟨Q1, hQ1e⟩ : ∃ G, G = plQ F Q0 t r mo := ⟨_, rfl⟩
            have e1 : F1 = up (up F 3 t (nI r)) 4 t mo := hF1.trans hpw.1
            have e2 : Q1 = updQ Q0 r (insQ (Q0 r) n9 t) := by rw [hQ1e, hpw.2.1, hn9]
            have hJ1 : JJ F1 Q1 := by rw [hF1, hQ1e]; exact JJ_pl hJ ht hr h3 h0 hmo
            have hM1 : MM F1 fm := MM_cg hM (by rw [e1, up_ne (by decide), up_ne (by decide)])
            have hZ1 : ZA F1 (wtA fa t r mo) := by rw [e1]; exact ZA_wt hZ ht hr h0
            have hQ1 : QL Q1 (vp_updL fq r (iQ (lN (qN (Q0 r))) n9 t)) := by rw [e2]; exact QL_ins2 hJ hQL hr ht hnle h8
            have hG1 : GG F1 fg := GG_cg hG (by rw [e1, up_ne (by decide), up_ne (by decide)])
            refine lv_iconst (v := (nI 0)) hx hb dL_requested_234 (by decide) ?_
            refine lv_istore (lv' := [(12, .int (nI 0)), (10, .long ((lN (qN (Q0 r))) &&& (((lN 1) <<< ((nI (4 * n9)).toInt64 &&& 63)) - (lN 1)))), (9, .int (nI n9)), (8, .int (nI 0)), (7, .int (lk F t r)), (0, .ref aa), (1, .ref am), (2, .ref aq), (3, .ref ag), (4, .int (nI t)), (5, .int (nI r)), (6, .int mo)]) hx hb dL_requested_235 hl (by decide) rfl (fun ls hl => ?_)
            have L237 : ∀ (N : Nat) (i : Nat) (V : Nat) (Fc : FF) (Qc : QQ) (fm2 : Nat → Int32) (fa2 : Nat → Int32) (fq2 : Nat → Int64) (fg2 : Nat → Int32), (brI t F1 Q1 i Fc Qc V) → (i + nW Fc 8 ≤ 8) → (V < 2 ^ 8) → (JJ Fc Qc) → (MM Fc fm2) → (ZA Fc fa2) → (QL Qc fq2) → (GG Fc fg2) → (nW Fc 8) < N → ∀ (H : Heap) (locs : List Loc), va_P D vwCl ([(am, .inl (cI, 10, .inl fm2)), (aa, .inl (cI, 48, .inl fa2)), (aq, .inl (cL, 10, .inr (.inl fq2))), (ag, .inl (cI, 3, .inl fg2))]) H → va_D A ([(am, .inl (cI, 10, .inl fm2)), (aa, .inl (cI, 48, .inl fa2)), (aq, .inl (cL, 10, .inr (.inl fq2))), (ag, .inl (cI, 3, .inl fg2))]) → va_S A s.heap H locs → ∀ ls : Array Slot, lv_has ls 14 [(0, .ref aa), (1, .ref am), (2, .ref aq), (3, .ref ag), (4, .int (nI t)), (5, .int (nI r)), (6, .int mo), (12, .int (nI V))] → W p l e rL_requested s m args below meth c H locs 0 0 Q (F0 m 237 ls []) := by
              intro N237
              induction N237 with
              | zero => intro i V Fc Qc fm2 fa2 fq2 fg2 hI hc hV8 hJc hM2 hZ2 hQ2 hG2 hN; exact absurd hN (Nat.not_lt_zero _)
              | succ N237 ih237 =>
                intro i V Fc Qc fm2 fa2 fq2 fg2 hI hc hV8 hJc hM2 hZ2 hQ2 hG2 hN H locs hP hD hS ls hl
                have hV31 : V < 2 ^ 31 := by omega
                refine lv_aload_n hx hb dL_requested_237 rfl (lv_at hl 0 rfl) ?_
                refine lv_bipush (v := (nI 6)) hx hb dL_requested_238 (by decide) ?_
                refine lv_iload hx hb dL_requested_240 (lv_at hl 4 rfl) ?_
                refine lv_imul hx hb dL_requested_242 ?_
                refine tpe (y := (nI (6 * t))) (pk_mul _ _) ?_
                refine r_ild (k := (6 * t)) hx hb hK hP 1 rfl (by omega) (by decide) dL_requested_243 ?_
                refine tpe (y := (stI Fc t)) (ZA0 hZ2 (by omega)) ?_
                refine lv_iconst (v := (nI 2)) hx hb dL_requested_244 (by decide) ?_
                refine lv_icmp_ne (tgt := 343) hx hb dL_requested_245 (by decide) (fun h_9 => ?_) (fun h_9 => ?_)
                · have h_9 := h_9
                  have hv9e : vic Fc Qc t = 8 := vic_n (SR_none hJc ht (Decidable.byContradiction (fun q => h_9 ((st_w hJc ht).mpr q))))
                  have hbe := brI_e (Or.inr hv9e) hI
                  have haw := ask_y (pl_wait hs hg).2.2
                  have hao := ask_out hJ ht hr h3 h0 hmo hs hg
                  rw [← hF1, ← hQ1e] at haw hao
                  have ea1 : Fc = askF F Q0 t r mo := hbe.1.trans haw.1.symm
                  have ea2 : Qc = askQ F Q0 t r mo := hbe.2.1.trans haw.2.1.symm
                  have ea3 : V = askV F Q0 t r mo := hbe.2.2.trans haw.2.2.symm
                  rw [← hbe.1, ← hbe.2.2] at hao
                  refine lv_bipush (v := (nI 8)) hx hb dL_requested_343 (by decide) ?_
                  refine lv_iload hx hb dL_requested_345 (lv_at hl 7 rfl) ?_
                  refine lv_imul hx hb dL_requested_347 ?_
                  refine tpe (y := (nI (8 * V))) (pk_mul _ _) ?_
                  refine lv_iload hx hb dL_requested_348 (lv_at hl 7 rfl) ?_
                  refine lv_iload hx hb dL_requested_350 (lv_at hl 4 rfl) ?_
                  refine lv_ishr hx hb dL_requested_352 ?_
                  refine lv_iconst (v := (nI 1)) hx hb dL_requested_353 (by decide) ?_
                  refine lv_iand hx hb dL_requested_354 ?_
                  refine tpe (y := (nI (bitN V t))) (tb_I hV31 ht) ?_
                  refine lv_iconst (v := (nI 1)) hx hb dL_requested_355 (by decide) ?_
                  refine lv_icmp_ne (tgt := 363) hx hb dL_requested_356 (by decide) (fun h_10 => ?_) (fun h_10 => ?_)
                  · have h_10 := mt (nI_eq (a := (bitN V t)) (b := 1) (bitN_lt _ _) (by decide)).mpr h_10
                    refine lv_aload_n hx hb dL_requested_363 rfl (lv_at hl 0 rfl) ?_
                    refine lv_bipush (v := (nI 6)) hx hb dL_requested_364 (by decide) ?_
                    refine lv_iload hx hb dL_requested_366 (lv_at hl 4 rfl) ?_
                    refine lv_imul hx hb dL_requested_368 ?_
                    refine tpe (y := (nI (6 * t))) (pk_mul _ _) ?_
                    refine r_ild (k := (6 * t)) hx hb hK hP 1 rfl (by omega) (by decide) dL_requested_369 ?_
                    refine tpe (y := (stI Fc t)) (ZA0 hZ2 (by omega)) ?_
                    refine lv_iconst (v := (nI 2)) hx hb dL_requested_370 (by decide) ?_
                    refine lv_icmp_ne (tgt := 378) hx hb dL_requested_371 (by decide) (fun h_11 => ?_) (fun h_11 => ?_)
                    · have h_11 := h_11
                      refine lv_iconst (v := (nI 1)) hx hb dL_requested_378 (by decide) ?_
                      refine lv_iadd hx hb dL_requested_379 ?_
                      refine tpe (y := (nI (8 * V + 1))) (nI_add _ _) ?_
                      have eo := outN_of (hao.2.2 h_10 h_11) (by decide)
                      exact ret_i (u := (fm2, fa2, fq2, fg2)) hQ hx hb hrt hlk hS dL_requested_380 hP ⟨by rw [← ea1, ← ea3, eo], by rw [← ea1]; exact hM2, by rw [← ea1]; exact hZ2, by rw [← ea2]; exact hQ2, by rw [← ea1]; exact hG2⟩
                    · have h_11 := h_11
                      refine lv_iconst (v := (nI 2)) hx hb dL_requested_374 (by decide) ?_
                      refine lv_goto (tgt := 379) hx hb dL_requested_375 (by decide) ?_
                      refine lv_iadd hx hb dL_requested_379 ?_
                      refine tpe (y := (nI (8 * V + 2))) (nI_add _ _) ?_
                      have eo := outN_of (hao.2.1 h_10 h_11) (by decide)
                      exact ret_i (u := (fm2, fa2, fq2, fg2)) hQ hx hb hrt hlk hS dL_requested_380 hP ⟨by rw [← ea1, ← ea3, eo], by rw [← ea1]; exact hM2, by rw [← ea1]; exact hZ2, by rw [← ea2]; exact hQ2, by rw [← ea1]; exact hG2⟩
                  · have h_10 := (nI_eq (a := (bitN V t)) (b := 1) (bitN_lt _ _) (by decide)).mp h_10
                    refine lv_iconst (v := (nI 3)) hx hb dL_requested_359 (by decide) ?_
                    refine lv_goto (tgt := 379) hx hb dL_requested_360 (by decide) ?_
                    refine lv_iadd hx hb dL_requested_379 ?_
                    refine tpe (y := (nI (8 * V + 3))) (nI_add _ _) ?_
                    have eo := outN_of (hao.1 h_10) (by decide)
                    exact ret_i (u := (fm2, fa2, fq2, fg2)) hQ hx hb hrt hlk hS dL_requested_380 hP ⟨by rw [← ea1, ← ea3, eo], by rw [← ea1]; exact hM2, by rw [← ea1]; exact hZ2, by rw [← ea2]; exact hQ2, by rw [← ea1]; exact hG2⟩
                · have h_9 := h_9
                  refine lv_aload_n hx hb dL_requested_248 rfl (lv_at hl 0 rfl) ?_
                  refine lv_aload_n hx hb dL_requested_249 rfl (lv_at hl 1 rfl) ?_
                  refine lv_aload_n hx hb dL_requested_250 rfl (lv_at hl 2 rfl) ?_
                  refine lv_iload hx hb dL_requested_251 (lv_at hl 4 rfl) ?_
                  refine call_l (X := []) (Wc := [(am, .inl (cI, 10, .inl fm2)), (aa, .inl (cI, 48, .inl fa2)), (aq, .inl (cL, 10, .inr (.inl fq2)))]) (Z := [(ag, .inl (cI, 3, .inl fg2))]) (As := [.ref aa, .ref am, .ref aq, .int (nI t)]) (rest := []) ⟨hx, hb, hml, hown, hts⟩ (c_L_victim l D cI cT cL am aa aq fm2 fa2 fq2 Fc Qc t (by omega) hJc hM2 hZ2 hQ2) (va_cwS 4 hts gL_requested_L_victim rfl rfl rfl (by decide +kernel) ⟨Nat.le_of_ble_eq_true rfl, Nat.le_of_ble_eq_true rfl⟩) hKL hP hD hS hA (fun _ => adw3) rfl hl.1 rfl (Nat.le_of_ble_eq_true rfl) ⟨by decide, by decide⟩ dL_requested_253 (fun rv uu H locs hp hP hD hS => ?_)
                  obtain rfl := hp
                  have hP : va_P D vwCl ([(am, .inl (cI, 10, .inl fm2)), (aa, .inl (cI, 48, .inl fa2)), (aq, .inl (cL, 10, .inr (.inl fq2))), (ag, .inl (cI, 3, .inl fg2))]) H := hP
                  have hD : va_D A ([(am, .inl (cI, 10, .inl fm2)), (aa, .inl (cI, 48, .inl fa2)), (aq, .inl (cL, 10, .inr (.inl fq2))), (ag, .inl (cI, 3, .inl fg2))]) := hD
                  refine lv_istore (lv' := [(13, .int (bI (vic Fc Qc t))), (0, .ref aa), (1, .ref am), (2, .ref aq), (3, .ref ag), (4, .int (nI t)), (5, .int (nI r)), (6, .int mo), (12, .int (nI V))]) hx hb dL_requested_256 hl (by decide) rfl (fun ls hl => ?_)
                  refine lv_iload hx hb dL_requested_258 (lv_at hl 0 rfl) ?_
                  refine lv_if_ge (tgt := 266) hx hb dL_requested_260 (by decide) (fun h_12 => ?_) (fun h_12 => ?_)
                  · have h_12 := h_12
                    have hvn := (bI_nn (vic_le Fc Qc t)).mp h_12
                    rw [bI_some hvn] at hl
                    have hvy := vic_y hJc ht (fun q => hvn (vic_n q))
                    have hnb := nW_br hJc hvy.1 hvy.2
                    have hbs : i < 8 := by omega
                    have hbr := brI_s hbs hvn hI
                    obtain ⟨v9, hv9⟩ : ∃ v, v = vic Fc Qc t := ⟨_, rfl⟩
                    rw [← hv9] at hl hvn hvy hnb hbr
                    have hv8 := hvy.1
                    refine lv_iload hx hb dL_requested_266 (lv_at hl 8 rfl) ?_
                    refine lv_iconst (v := (nI 1)) hx hb dL_requested_268 (by decide) ?_
                    refine lv_iload hx hb dL_requested_269 (lv_at hl 0 rfl) ?_
                    refine lv_ishl hx hb dL_requested_271 ?_
                    refine lv_ior hx hb dL_requested_272 ?_
                    refine tpe (y := (nI (V ||| 2 ^ v9))) (or_sh hv8) ?_
                    refine lv_istore (lv' := [(12, .int (nI (V ||| 2 ^ v9))), (13, .int (nI v9)), (0, .ref aa), (1, .ref am), (2, .ref aq), (3, .ref ag), (4, .int (nI t)), (5, .int (nI r)), (6, .int mo)]) hx hb dL_requested_273 hl (by decide) rfl (fun ls hl => ?_)
                    refine lv_aload_n hx hb dL_requested_275 rfl (lv_at hl 5 rfl) ?_
                    refine lv_iconst (v := (nI 1)) hx hb dL_requested_276 (by decide) ?_
                    refine lv_dup2_11 hx hb dL_requested_277 rfl rfl ?_
                    refine r_ild (k := 1) hx hb hK hP 3 rfl (by omega) (by decide) dL_requested_278 ?_
                    refine lv_iconst (v := (nI 1)) hx hb dL_requested_279 (by decide) ?_
                    refine lv_iadd hx hb dL_requested_280 ?_
                    refine r_ist (k := 1) hx hb hK hP hD hS 3 rfl (by omega) (by decide) dL_requested_281 (fun H locs hP hD hS => ?_)
                    have hP : va_P D vwCl ([(am, .inl (cI, 10, .inl fm2)), (aa, .inl (cI, 48, .inl fa2)), (aq, .inl (cL, 10, .inr (.inl fq2))), (ag, .inl (cI, 3, .inl (upd fg2 1 ((fg2 1) + (nI 1)))))]) H := hP
                    have hD : va_D A ([(am, .inl (cI, 10, .inl fm2)), (aa, .inl (cI, 48, .inl fa2)), (aq, .inl (cL, 10, .inr (.inl fq2))), (ag, .inl (cI, 3, .inl (upd fg2 1 ((fg2 1) + (nI 1)))))]) := hD
                    refine lv_aload_n hx hb dL_requested_282 rfl (lv_at hl 5 rfl) ?_
                    refine lv_iconst (v := (nI 2)) hx hb dL_requested_283 (by decide) ?_
                    refine lv_dup2_11 hx hb dL_requested_284 rfl rfl ?_
                    refine r_ild (k := 2) hx hb hK hP 3 rfl (by omega) (by decide) dL_requested_285 ?_
                    refine lv_aload_n hx hb dL_requested_286 rfl (lv_at hl 2 rfl) ?_
                    refine lv_bipush (v := (nI 6)) hx hb dL_requested_287 (by decide) ?_
                    refine lv_iload hx hb dL_requested_289 (lv_at hl 1 rfl) ?_
                    refine lv_imul hx hb dL_requested_291 ?_
                    refine tpe (y := (nI (6 * v9))) (pk_mul _ _) ?_
                    refine lv_iconst (v := (nI 1)) hx hb dL_requested_292 (by decide) ?_
                    refine lv_iadd hx hb dL_requested_293 ?_
                    refine tpe (y := (nI (6 * v9 + 1))) (nI_add _ _) ?_
                    refine r_ild (k := (6 * v9 + 1)) hx hb hK hP 1 rfl (by omega) (by decide) dL_requested_294 ?_
                    refine tpe (y := (Fc 1 v9)) (ZA1 hZ2 (by omega)) ?_
                    refine lv_iadd hx hb dL_requested_295 ?_
                    refine r_ist (k := 2) hx hb hK hP hD hS 3 rfl (by omega) (by decide) dL_requested_296 (fun H locs hP hD hS => ?_)
                    have hP : va_P D vwCl ([(am, .inl (cI, 10, .inl fm2)), (aa, .inl (cI, 48, .inl fa2)), (aq, .inl (cL, 10, .inr (.inl fq2))), (ag, .inl (cI, 3, .inl (upd (upd fg2 1 ((fg2 1) + (nI 1))) 2 (((upd fg2 1 ((fg2 1) + (nI 1))) 2) + (Fc 1 v9)))))]) H := hP
                    have hD : va_D A ([(am, .inl (cI, 10, .inl fm2)), (aa, .inl (cI, 48, .inl fa2)), (aq, .inl (cL, 10, .inr (.inl fq2))), (ag, .inl (cI, 3, .inl (upd (upd fg2 1 ((fg2 1) + (nI 1))) 2 (((upd fg2 1 ((fg2 1) + (nI 1))) 2) + (Fc 1 v9)))))]) := hD
                    have hP : va_P D vwCl ([(am, .inl (cI, 10, .inl fm2)), (aa, .inl (cI, 48, .inl fa2)), (aq, .inl (cL, 10, .inr (.inl fq2))), (ag, .inl (cI, 3, .inl (bkG fg2 (Fc 1 v9))))]) H := hP
                    have hD : va_D A ([(am, .inl (cI, 10, .inl fm2)), (aa, .inl (cI, 48, .inl fa2)), (aq, .inl (cL, 10, .inr (.inl fq2))), (ag, .inl (cI, 3, .inl (bkG fg2 (Fc 1 v9))))]) := hD
                    refine lv_aload_n hx hb dL_requested_297 rfl (lv_at hl 2 rfl) ?_
                    refine lv_aload_n hx hb dL_requested_298 rfl (lv_at hl 4 rfl) ?_
                    refine lv_iload hx hb dL_requested_299 (lv_at hl 1 rfl) ?_
                    refine call_lv (X := [(am, .inl (cI, 10, .inl fm2))]) (Wc := [(aa, .inl (cI, 48, .inl fa2)), (aq, .inl (cL, 10, .inr (.inl fq2)))]) (Z := [(ag, .inl (cI, 3, .inl (bkG fg2 (Fc 1 v9))))]) (As := [.ref aa, .ref aq, .int (nI v9)]) (rest := []) ⟨hx, hb, hml, hown, hts⟩ (c_L_remove l D cI cT cL aa aq fa2 fq2 Fc Qc v9 (by omega) hvy.2 hJc hZ2 hQ2) (va_cwS 3 hts gL_requested_L_remove rfl rfl rfl (by decide +kernel) ⟨Nat.le_of_ble_eq_true rfl, Nat.le_of_ble_eq_true rfl⟩) hKL hP hD hS hA (fun _ => adw2) rfl hl.1 rfl (Nat.le_of_ble_eq_true rfl) ⟨by decide, by decide⟩ dL_requested_301 (fun uu H locs hp hP hD hS => ?_)
                    obtain ⟨fa10, fq10⟩ := uu
                    obtain ⟨hZ10, hQ10⟩ := hp
                    dsimp only at hZ10 hQ10
                    have hJ10 := JJ_rm hJc (show v9 < 8 by omega)
                    have hMr10 := MM_cg (F' := rmF Fc v9) hM2 (rmF_ne (by decide))
                    have hP : va_P D vwCl ([(am, .inl (cI, 10, .inl fm2)), (aa, .inl (cI, 48, .inl fa10)), (aq, .inl (cL, 10, .inr (.inl fq10))), (ag, .inl (cI, 3, .inl (bkG fg2 (Fc 1 v9))))]) H := hP
                    have hD : va_D A ([(am, .inl (cI, 10, .inl fm2)), (aa, .inl (cI, 48, .inl fa10)), (aq, .inl (cL, 10, .inr (.inl fq10))), (ag, .inl (cI, 3, .inl (bkG fg2 (Fc 1 v9))))]) := hD
                    refine lv_aload_n hx hb dL_requested_304 rfl (lv_at hl 3 rfl) ?_
                    refine lv_iload hx hb dL_requested_305 (lv_at hl 1 rfl) ?_
                    refine call_lv (X := []) (Wc := [(am, .inl (cI, 10, .inl fm2))]) (Z := [(aa, .inl (cI, 48, .inl fa10)), (aq, .inl (cL, 10, .inr (.inl fq10))), (ag, .inl (cI, 3, .inl (bkG fg2 (Fc 1 v9))))]) (As := [.ref am, .int (nI v9)]) (rest := []) ⟨hx, hb, hml, hown, hts⟩ (c_L_release l D cI cT cL am fm2 (rmF Fc v9) v9 (by omega) hMr10) (va_cwS 2 hts gL_requested_L_release rfl rfl rfl (by decide +kernel) ⟨Nat.le_of_ble_eq_true rfl, Nat.le_of_ble_eq_true rfl⟩) hKL hP hD hS hA (fun _ => adw1) rfl hl.1 rfl (Nat.le_of_ble_eq_true rfl) ⟨by decide, by decide⟩ dL_requested_307 (fun uu H locs hp hP hD hS => ?_)
                    obtain ⟨fm11, efm11⟩ : ∃ f, f = uu := ⟨_, rfl⟩
                    rw [← efm11] at hP hD hp
                    have hM11 := hp
                    have hZr11 := ZA_rel (t := v9) hZ10
                    have hP : va_P D vwCl ([(am, .inl (cI, 10, .inl fm11)), (aa, .inl (cI, 48, .inl fa10)), (aq, .inl (cL, 10, .inr (.inl fq10))), (ag, .inl (cI, 3, .inl (bkG fg2 (Fc 1 v9))))]) H := hP
                    have hD : va_D A ([(am, .inl (cI, 10, .inl fm11)), (aa, .inl (cI, 48, .inl fa10)), (aq, .inl (cL, 10, .inr (.inl fq10))), (ag, .inl (cI, 3, .inl (bkG fg2 (Fc 1 v9))))]) := hD
                    refine lv_aload_n hx hb dL_requested_310 rfl (lv_at hl 2 rfl) ?_
                    refine lv_bipush (v := (nI 6)) hx hb dL_requested_311 (by decide) ?_
                    refine lv_iload hx hb dL_requested_313 (lv_at hl 1 rfl) ?_
                    refine lv_imul hx hb dL_requested_315 ?_
                    refine tpe (y := (nI (6 * v9))) (pk_mul _ _) ?_
                    refine lv_iconst (v := (nI 1)) hx hb dL_requested_316 (by decide) ?_
                    refine lv_iadd hx hb dL_requested_317 ?_
                    refine tpe (y := (nI (6 * v9 + 1))) (nI_add _ _) ?_
                    refine lv_iconst (v := (nI 0)) hx hb dL_requested_318 (by decide) ?_
                    refine r_ist (k := (6 * v9 + 1)) hx hb hK hP hD hS 1 rfl (by omega) (by decide) dL_requested_319 (fun H locs hP hD hS => ?_)
                    have hP : va_P D vwCl ([(am, .inl (cI, 10, .inl fm11)), (aa, .inl (cI, 48, .inl (upd fa10 (6 * v9 + 1) (nI 0)))), (aq, .inl (cL, 10, .inr (.inl fq10))), (ag, .inl (cI, 3, .inl (bkG fg2 (Fc 1 v9))))]) H := hP
                    have hD : va_D A ([(am, .inl (cI, 10, .inl fm11)), (aa, .inl (cI, 48, .inl (upd fa10 (6 * v9 + 1) (nI 0)))), (aq, .inl (cL, 10, .inr (.inl fq10))), (ag, .inl (cI, 3, .inl (bkG fg2 (Fc 1 v9))))]) := hD
                    refine lv_aload_n hx hb dL_requested_320 rfl (lv_at hl 2 rfl) ?_
                    refine lv_bipush (v := (nI 6)) hx hb dL_requested_321 (by decide) ?_
                    refine lv_iload hx hb dL_requested_323 (lv_at hl 1 rfl) ?_
                    refine lv_imul hx hb dL_requested_325 ?_
                    refine tpe (y := (nI (6 * v9))) (pk_mul _ _) ?_
                    refine lv_iconst (v := (nI 2)) hx hb dL_requested_326 (by decide) ?_
                    refine lv_iadd hx hb dL_requested_327 ?_
                    refine tpe (y := (nI (6 * v9 + 2))) (nI_add _ _) ?_
                    refine lv_dup2_11 hx hb dL_requested_328 rfl rfl ?_
                    refine r_ild (k := (6 * v9 + 2)) hx hb hK hP 1 rfl (by omega) (by decide) dL_requested_329 ?_
                    refine lv_iconst (v := (nI 1)) hx hb dL_requested_330 (by decide) ?_
                    refine lv_iadd hx hb dL_requested_331 ?_
                    refine r_ist (k := (6 * v9 + 2)) hx hb hK hP hD hS 1 rfl (by omega) (by decide) dL_requested_332 (fun H locs hP hD hS => ?_)
                    have hP : va_P D vwCl ([(am, .inl (cI, 10, .inl fm11)), (aa, .inl (cI, 48, .inl (upd (upd fa10 (6 * v9 + 1) (nI 0)) (6 * v9 + 2) (((upd fa10 (6 * v9 + 1) (nI 0)) (6 * v9 + 2)) + (nI 1))))), (aq, .inl (cL, 10, .inr (.inl fq10))), (ag, .inl (cI, 3, .inl (bkG fg2 (Fc 1 v9))))]) H := hP
                    have hD : va_D A ([(am, .inl (cI, 10, .inl fm11)), (aa, .inl (cI, 48, .inl (upd (upd fa10 (6 * v9 + 1) (nI 0)) (6 * v9 + 2) (((upd fa10 (6 * v9 + 1) (nI 0)) (6 * v9 + 2)) + (nI 1))))), (aq, .inl (cL, 10, .inr (.inl fq10))), (ag, .inl (cI, 3, .inl (bkG fg2 (Fc 1 v9))))]) := hD
                    have hP : va_P D vwCl ([(am, .inl (cI, 10, .inl fm11)), (aa, .inl (cI, 48, .inl (abA fa10 v9))), (aq, .inl (cL, 10, .inr (.inl fq10))), (ag, .inl (cI, 3, .inl (bkG fg2 (Fc 1 v9))))]) H := hP
                    have hD : va_D A ([(am, .inl (cI, 10, .inl fm11)), (aa, .inl (cI, 48, .inl (abA fa10 v9))), (aq, .inl (cL, 10, .inr (.inl fq10))), (ag, .inl (cI, 3, .inl (bkG fg2 (Fc 1 v9))))]) := hD
                    have hMb := MM_ab hM11
                    have hZb := ZA_ab hZr11 hv8
                    have hJb := JJ_ab hJc hv8
                    have hGb := GG_srv hJb (GG_bk (v := v9) hG2)
                    refine lv_aload_n hx hb dL_requested_333 rfl (lv_at hl 2 rfl) ?_
                    refine lv_aload_n hx hb dL_requested_334 rfl (lv_at hl 3 rfl) ?_
                    refine lv_aload_n hx hb dL_requested_335 rfl (lv_at hl 4 rfl) ?_
                    refine call_l (X := []) (Wc := [(am, .inl (cI, 10, .inl fm11)), (aa, .inl (cI, 48, .inl (abA fa10 v9))), (aq, .inl (cL, 10, .inr (.inl fq10)))]) (Z := [(ag, .inl (cI, 3, .inl (bkG fg2 (Fc 1 v9))))]) (As := [.ref aa, .ref am, .ref aq]) (rest := []) ⟨hx, hb, hml, hown, hts⟩ (c_L_serve l D cI cT cL am aa aq fm11 (abA fa10 v9) fq10 (abF Fc v9) (rmQ Fc Qc v9) hJb hMb hZb hQ10) (va_cwS 3 hts gL_requested_L_serve rfl rfl rfl (by decide +kernel) ⟨Nat.le_of_ble_eq_true rfl, Nat.le_of_ble_eq_true rfl⟩) hKL hP hD hS hA (fun _ => adw3) rfl hl.1 rfl (Nat.le_of_ble_eq_true rfl) ⟨by decide, by decide⟩ dL_requested_336 (fun rv uu H locs hp hP hD hS => ?_)
                    obtain ⟨fm12, fa12, fq12⟩ := uu
                    obtain ⟨rfl, hM12, hZ12, hQ12⟩ := hp
                    dsimp only at hM12 hZ12 hQ12
                    have hJ12 := JJ_srv hJb
                    have hP : va_P D vwCl ([(am, .inl (cI, 10, .inl fm12)), (aa, .inl (cI, 48, .inl fa12)), (aq, .inl (cL, 10, .inr (.inl fq12))), (ag, .inl (cI, 3, .inl (bkG fg2 (Fc 1 v9))))]) H := hP
                    have hD : va_D A ([(am, .inl (cI, 10, .inl fm12)), (aa, .inl (cI, 48, .inl fa12)), (aq, .inl (cL, 10, .inr (.inl fq12))), (ag, .inl (cI, 3, .inl (bkG fg2 (Fc 1 v9))))]) := hD
                    refine lv_pop hx hb dL_requested_339 rfl ?_
                    refine lv_goto (tgt := 237) hx hb dL_requested_340 (by decide) ?_
                    exact ih237 (i + 1) (V ||| 2 ^ v9) (srvF (abF Fc v9) (rmQ Fc Qc v9)) (srvQ (abF Fc v9) (rmQ Fc Qc v9)) fm12 fa12 fq12 (bkG fg2 (Fc 1 v9)) hbr (by omega) (Nat.or_lt_two_pow hV8 (Nat.pow_lt_pow_right (by decide) hv8)) hJ12 hM12 hZ12 hQ12 hGb (by omega) _ _ hP hD hS _ (lv_sub hl [2, 3, 4, 5, 6, 7, 8, 0] rfl)
                  · have h_12 := h_12
                    refine lv_goto (tgt := 343) hx hb dL_requested_263 (by decide) ?_
                    have hv9e : vic Fc Qc t = 8 := Decidable.byContradiction (fun q => h_12 ((bI_nn (vic_le Fc Qc t)).mpr q))
                    have hbe := brI_e (Or.inr hv9e) hI
                    have haw := ask_y (pl_wait hs hg).2.2
                    have hao := ask_out hJ ht hr h3 h0 hmo hs hg
                    rw [← hF1, ← hQ1e] at haw hao
                    have ea1 : Fc = askF F Q0 t r mo := hbe.1.trans haw.1.symm
                    have ea2 : Qc = askQ F Q0 t r mo := hbe.2.1.trans haw.2.1.symm
                    have ea3 : V = askV F Q0 t r mo := hbe.2.2.trans haw.2.2.symm
                    rw [← hbe.1, ← hbe.2.2] at hao
                    refine lv_bipush (v := (nI 8)) hx hb dL_requested_343 (by decide) ?_
                    refine lv_iload hx hb dL_requested_345 (lv_at hl 8 rfl) ?_
                    refine lv_imul hx hb dL_requested_347 ?_
                    refine tpe (y := (nI (8 * V))) (pk_mul _ _) ?_
                    refine lv_iload hx hb dL_requested_348 (lv_at hl 8 rfl) ?_
                    refine lv_iload hx hb dL_requested_350 (lv_at hl 5 rfl) ?_
                    refine lv_ishr hx hb dL_requested_352 ?_
                    refine lv_iconst (v := (nI 1)) hx hb dL_requested_353 (by decide) ?_
                    refine lv_iand hx hb dL_requested_354 ?_
                    refine tpe (y := (nI (bitN V t))) (tb_I hV31 ht) ?_
                    refine lv_iconst (v := (nI 1)) hx hb dL_requested_355 (by decide) ?_
                    refine lv_icmp_ne (tgt := 363) hx hb dL_requested_356 (by decide) (fun h_13 => ?_) (fun h_13 => ?_)
                    · have h_13 := mt (nI_eq (a := (bitN V t)) (b := 1) (bitN_lt _ _) (by decide)).mpr h_13
                      refine lv_aload_n hx hb dL_requested_363 rfl (lv_at hl 1 rfl) ?_
                      refine lv_bipush (v := (nI 6)) hx hb dL_requested_364 (by decide) ?_
                      refine lv_iload hx hb dL_requested_366 (lv_at hl 5 rfl) ?_
                      refine lv_imul hx hb dL_requested_368 ?_
                      refine tpe (y := (nI (6 * t))) (pk_mul _ _) ?_
                      refine r_ild (k := (6 * t)) hx hb hK hP 1 rfl (by omega) (by decide) dL_requested_369 ?_
                      refine tpe (y := (stI Fc t)) (ZA0 hZ2 (by omega)) ?_
                      refine lv_iconst (v := (nI 2)) hx hb dL_requested_370 (by decide) ?_
                      refine lv_icmp_ne (tgt := 378) hx hb dL_requested_371 (by decide) (fun h_14 => ?_) (fun h_14 => ?_)
                      · have h_14 := h_14
                        refine lv_iconst (v := (nI 1)) hx hb dL_requested_378 (by decide) ?_
                        refine lv_iadd hx hb dL_requested_379 ?_
                        refine tpe (y := (nI (8 * V + 1))) (nI_add _ _) ?_
                        have eo := outN_of (hao.2.2 h_13 h_14) (by decide)
                        exact ret_i (u := (fm2, fa2, fq2, fg2)) hQ hx hb hrt hlk hS dL_requested_380 hP ⟨by rw [← ea1, ← ea3, eo], by rw [← ea1]; exact hM2, by rw [← ea1]; exact hZ2, by rw [← ea2]; exact hQ2, by rw [← ea1]; exact hG2⟩
                      · have h_14 := h_14
                        refine lv_iconst (v := (nI 2)) hx hb dL_requested_374 (by decide) ?_
                        refine lv_goto (tgt := 379) hx hb dL_requested_375 (by decide) ?_
                        refine lv_iadd hx hb dL_requested_379 ?_
                        refine tpe (y := (nI (8 * V + 2))) (nI_add _ _) ?_
                        have eo := outN_of (hao.2.1 h_13 h_14) (by decide)
                        exact ret_i (u := (fm2, fa2, fq2, fg2)) hQ hx hb hrt hlk hS dL_requested_380 hP ⟨by rw [← ea1, ← ea3, eo], by rw [← ea1]; exact hM2, by rw [← ea1]; exact hZ2, by rw [← ea2]; exact hQ2, by rw [← ea1]; exact hG2⟩
                    · have h_13 := (nI_eq (a := (bitN V t)) (b := 1) (bitN_lt _ _) (by decide)).mp h_13
                      refine lv_iconst (v := (nI 3)) hx hb dL_requested_359 (by decide) ?_
                      refine lv_goto (tgt := 379) hx hb dL_requested_360 (by decide) ?_
                      refine lv_iadd hx hb dL_requested_379 ?_
                      refine tpe (y := (nI (8 * V + 3))) (nI_add _ _) ?_
                      have eo := outN_of (hao.1 h_13) (by decide)
                      exact ret_i (u := (fm2, fa2, fq2, fg2)) hQ hx hb hrt hlk hS dL_requested_380 hP ⟨by rw [← ea1, ← ea3, eo], by rw [← ea1]; exact hM2, by rw [← ea1]; exact hZ2, by rw [← ea2]; exact hQ2, by rw [← ea1]; exact hG2⟩
            exact L237 _ 0 0 F1 Q1 fm (wtA fa t r mo) (vp_updL fq r (iQ (lN (qN (Q0 r))) n9 t)) fg brI_0 (by have := nW_le (F := F1) 8; omega) (by decide) hJ1 hM1 hZ1 hQ1 hG1 (Nat.lt_succ_self _) _ _ hP hD hS _ (lv_sub hl [5, 6, 7, 8, 9, 10, 11, 0] rfl)
          · have h_6 := h_6
            refine lv_aload_n hx hb dL_requested_73 rfl (lv_at hl 3 rfl) ?_
            refine lv_iload hx hb dL_requested_74 (lv_at hl 6 rfl) ?_
            refine lv_iload hx hb dL_requested_76 (lv_at hl 7 rfl) ?_
            refine lv_iload hx hb dL_requested_78 (lv_at hl 8 rfl) ?_
            refine call_l (X := []) (Wc := [(am, .inl (cI, 10, .inl fm))]) (Z := [(aa, .inl (cI, 48, .inl fa)), (aq, .inl (cL, 10, .inr (.inl fq))), (ag, .inl (cI, 3, .inl fg))]) (As := [.ref am, .int (nI t), .int (nI r), .int mo]) (rest := []) ⟨hx, hb, hml, hown, hts⟩ (c_L_canHold l D cI cT cL am fm F Q0 t r mo (by omega) (by omega) hJ hM) (va_cwS 4 hts gL_requested_L_canHold rfl rfl rfl (by decide +kernel) ⟨Nat.le_of_ble_eq_true rfl, Nat.le_of_ble_eq_true rfl⟩) hKL hP hD hS hA (fun _ => adw1) rfl hl.1 rfl (Nat.le_of_ble_eq_true rfl) ⟨by decide, by decide⟩ dL_requested_80 (fun rv uu H locs hp hP hD hS => ?_)
            obtain rfl := hp
            have hP : va_P D vwCl ([(am, .inl (cI, 10, .inl fm)), (aa, .inl (cI, 48, .inl fa)), (aq, .inl (cL, 10, .inr (.inl fq))), (ag, .inl (cI, 3, .inl fg))]) H := hP
            have hD : va_D A ([(am, .inl (cI, 10, .inl fm)), (aa, .inl (cI, 48, .inl fa)), (aq, .inl (cL, 10, .inr (.inl fq))), (ag, .inl (cI, 3, .inl fg))]) := hD
            refine lv_if_eq (tgt := 99) hx hb dL_requested_83 (by decide) (fun h_15 => ?_) (fun h_15 => ?_)
            · have h_15 := (nI_eq (a := ((alN (fun w => !rivB F t r mo w) 8).toNat)) (b := 0) (bool_lt _) (by decide)).mp h_15
              have hg := plG_2 ((len_eq hJ hr).mp h_6) (b0 h_15)
              have h8 := JJ_room hJ ht h3 hr
              have hqq : qlen Q0 r = (Q0 r).length := rfl
              refine lv_iload hx hb dL_requested_99 (lv_at hl 1 rfl) ?_
              refine lv_if_ne (tgt := 114) hx hb dL_requested_101 (by decide) (fun h_16 => absurd h_5 h_16) (fun h_16 => ?_)
              have h_16 := h_16
              refine lv_aload_n hx hb dL_requested_104 rfl (lv_at hl 4 rfl) ?_
              refine lv_iload hx hb dL_requested_105 (lv_at hl 7 rfl) ?_
              refine r_lld (k := r) hx hb hKL hP 2 rfl (by omega) (by decide) dL_requested_107 ?_
              refine tpl (y := (lN (qN (Q0 r)))) (hQL r (by omega)) ?_
              refine call_l (X := [(am, .inl (cI, 10, .inl fm)), (aa, .inl (cI, 48, .inl fa)), (aq, .inl (cL, 10, .inr (.inl fq))), (ag, .inl (cI, 3, .inl fg))]) (Wc := []) (Z := []) (As := [.long (lN (qN (Q0 r)))]) (rest := []) ⟨hx, hb, hml, hown, hts⟩ (c_L_length l D cI cT cL (Q0 r) (Q_8 hJ (show r < 10 by omega)) (JJ_len hJ (show r < 10 by omega))) (va_cwS 1 hts gL_requested_L_length rfl rfl rfl (by decide +kernel) ⟨Nat.le_of_ble_eq_true rfl, Nat.le_of_ble_eq_true rfl⟩) hKL (P_nilr hP) (D_nilr hD) hS hA (fun _ => rfl) rfl hl.1 rfl (Nat.le_of_ble_eq_true rfl) ⟨by decide, by decide⟩ dL_requested_108 (fun rv uu H locs hp hP hD hS => ?_)
              have hP := P_nil2 hP
              have hD := D_nil2 hD
              obtain rfl := hp
              have hP : va_P D vwCl ([(am, .inl (cI, 10, .inl fm)), (aa, .inl (cI, 48, .inl fa)), (aq, .inl (cL, 10, .inr (.inl fq))), (ag, .inl (cI, 3, .inl fg))]) H := hP
              have hD : va_D A ([(am, .inl (cI, 10, .inl fm)), (aa, .inl (cI, 48, .inl fa)), (aq, .inl (cL, 10, .inr (.inl fq))), (ag, .inl (cI, 3, .inl fg))]) := hD
              refine lv_goto (tgt := 115) hx hb dL_requested_111 (by decide) ?_
              refine lv_istore (lv' := [(9, .int (nI ((Q0 r).length))), (8, .int (nI 0)), (7, .int (lk F t r)), (0, .ref aa), (1, .ref am), (2, .ref aq), (3, .ref ag), (4, .int (nI t)), (5, .int (nI r)), (6, .int mo)]) hx hb dL_requested_115 hl (by decide) rfl (fun ls hl => ?_)
              refine lv_iload hx hb dL_requested_117 (lv_at hl 2 rfl) ?_
              refine lv_iconst (v := (nI 1)) hx hb dL_requested_119 (by decide) ?_
              refine lv_icmp_ne (tgt := 160) hx hb dL_requested_120 (by decide) (fun h_17 => ?_) (fun h_17 => absurd h_17 h_4)
              have h_17 := h_17
              have he9 : (Q0 r).length = insN F Q0 t r := ins_2 h_4
              obtain ⟨n9, hn9⟩ : ∃ n, n = insN F Q0 t r := ⟨_, rfl⟩
              rw [he9, ← hn9] at hl
              have hnle : n9 ≤ qlen Q0 r := by rw [hn9]; exact insN_le
              refine lv_aload_n hx hb dL_requested_160 rfl (lv_at hl 5 rfl) ?_
              refine lv_iload hx hb dL_requested_161 (lv_at hl 8 rfl) ?_
              refine r_lld (k := r) hx hb hKL hP 2 rfl (by omega) (by decide) dL_requested_163 ?_
              refine tpl (y := (lN (qN (Q0 r)))) (hQL r (by omega)) ?_
              refine lv_lconst (v := lN 1) hx hb dL_requested_164 rfl ?_
              refine lv_iconst (v := (nI 4)) hx hb dL_requested_165 (by decide) ?_
              refine lv_iload hx hb dL_requested_166 (lv_at hl 0 rfl) ?_
              refine lv_imul hx hb dL_requested_168 ?_
              refine tpe (y := (nI (4 * n9))) (pk_mul _ _) ?_
              refine lv_lshl (v := (lN 1) <<< ((nI (4 * n9)).toInt64 &&& 63)) hx hb dL_requested_169 rfl ?_
              refine lv_lconst (v := lN 1) hx hb dL_requested_170 rfl ?_
              refine lv_lsub hx hb dL_requested_171 ?_
              refine lv_land hx hb dL_requested_172 ?_
              refine lv_lstore (lv' := [(10, .long ((lN (qN (Q0 r))) &&& (((lN 1) <<< ((nI (4 * n9)).toInt64 &&& 63)) - (lN 1)))), (9, .int (nI n9)), (8, .int (nI 0)), (7, .int (lk F t r)), (0, .ref aa), (1, .ref am), (2, .ref aq), (3, .ref ag), (4, .int (nI t)), (5, .int (nI r)), (6, .int mo)]) hx hb dL_requested_173 hl (by decide) rfl (fun ls hl => ?_)
              refine lv_aload_n hx hb dL_requested_175 rfl (lv_at hl 6 rfl) ?_
              refine lv_iload hx hb dL_requested_176 (lv_at hl 9 rfl) ?_
              refine lv_aload_n hx hb dL_requested_178 rfl (lv_at hl 6 rfl) ?_
              refine lv_iload hx hb dL_requested_179 (lv_at hl 9 rfl) ?_
              refine r_lld (k := r) hx hb hKL hP 2 rfl (by omega) (by decide) dL_requested_181 ?_
              refine tpl (y := (lN (qN (Q0 r)))) (hQL r (by omega)) ?_
              refine lv_iconst (v := (nI 4)) hx hb dL_requested_182 (by decide) ?_
              refine lv_iload hx hb dL_requested_183 (lv_at hl 1 rfl) ?_
              refine lv_imul hx hb dL_requested_185 ?_
              refine tpe (y := (nI (4 * n9))) (pk_mul _ _) ?_
              refine lv_lshr (v := (lN (qN (Q0 r))) >>> ((nI (4 * n9)).toInt64 &&& 63)) hx hb dL_requested_186 rfl ?_
              refine lv_iconst (v := (nI 4)) hx hb dL_requested_187 (by decide) ?_
              refine lv_lshl (v := ((lN (qN (Q0 r))) >>> ((nI (4 * n9)).toInt64 &&& 63)) <<< ((nI 4).toInt64 &&& 63)) hx hb dL_requested_188 rfl ?_
              refine lv_lconst (v := lN 1) hx hb dL_requested_189 rfl ?_
              refine lv_iload hx hb dL_requested_190 (lv_at hl 8 rfl) ?_
              refine lv_i2l (v := (nI t).toInt64) hx hb dL_requested_192 rfl ?_
              refine lv_ladd hx hb dL_requested_193 ?_
              refine lv_lor hx hb dL_requested_194 ?_
              refine lv_iconst (v := (nI 4)) hx hb dL_requested_195 (by decide) ?_
              refine lv_iload hx hb dL_requested_196 (lv_at hl 1 rfl) ?_
              refine lv_imul hx hb dL_requested_198 ?_
              refine tpe (y := (nI (4 * n9))) (pk_mul _ _) ?_
              refine lv_lshl (v := ((((lN (qN (Q0 r))) >>> ((nI (4 * n9)).toInt64 &&& 63)) <<< ((nI 4).toInt64 &&& 63)) ||| ((lN 1) + ((nI t).toInt64))) <<< ((nI (4 * n9)).toInt64 &&& 63)) hx hb dL_requested_199 rfl ?_
              refine lv_lload hx hb dL_requested_200 (lv_at hl 0 rfl) ?_
              refine lv_lor hx hb dL_requested_202 ?_
              refine r_lst (k := r) hx hb hKL hP hD hS 2 rfl (by omega) (by decide) dL_requested_203 (fun H locs hP hD hS => ?_)
              have hP : va_P D vwCl ([(am, .inl (cI, 10, .inl fm)), (aa, .inl (cI, 48, .inl fa)), (aq, .inl (cL, 10, .inr (.inl (vp_updL fq r ((((((lN (qN (Q0 r))) >>> ((nI (4 * n9)).toInt64 &&& 63)) <<< ((nI 4).toInt64 &&& 63)) ||| ((lN 1) + ((nI t).toInt64))) <<< ((nI (4 * n9)).toInt64 &&& 63)) ||| ((lN (qN (Q0 r))) &&& (((lN 1) <<< ((nI (4 * n9)).toInt64 &&& 63)) - (lN 1)))))))), (ag, .inl (cI, 3, .inl fg))]) H := hP
              have hD : va_D A ([(am, .inl (cI, 10, .inl fm)), (aa, .inl (cI, 48, .inl fa)), (aq, .inl (cL, 10, .inr (.inl (vp_updL fq r ((((((lN (qN (Q0 r))) >>> ((nI (4 * n9)).toInt64 &&& 63)) <<< ((nI 4).toInt64 &&& 63)) ||| ((lN 1) + ((nI t).toInt64))) <<< ((nI (4 * n9)).toInt64 &&& 63)) ||| ((lN (qN (Q0 r))) &&& (((lN 1) <<< ((nI (4 * n9)).toInt64 &&& 63)) - (lN 1)))))))), (ag, .inl (cI, 3, .inl fg))]) := hD
              refine lv_aload_n hx hb dL_requested_204 rfl (lv_at hl 4 rfl) ?_
              refine lv_bipush (v := (nI 6)) hx hb dL_requested_205 (by decide) ?_
              refine lv_iload hx hb dL_requested_207 (lv_at hl 8 rfl) ?_
              refine lv_imul hx hb dL_requested_209 ?_
              refine tpe (y := (nI (6 * t))) (pk_mul _ _) ?_
              refine lv_iconst (v := (nI 2)) hx hb dL_requested_210 (by decide) ?_
              refine r_ist (k := (6 * t)) hx hb hK hP hD hS 1 rfl (by omega) (by decide) dL_requested_211 (fun H locs hP hD hS => ?_)
              have hP : va_P D vwCl ([(am, .inl (cI, 10, .inl fm)), (aa, .inl (cI, 48, .inl (upd fa (6 * t) (nI 2)))), (aq, .inl (cL, 10, .inr (.inl (vp_updL fq r ((((((lN (qN (Q0 r))) >>> ((nI (4 * n9)).toInt64 &&& 63)) <<< ((nI 4).toInt64 &&& 63)) ||| ((lN 1) + ((nI t).toInt64))) <<< ((nI (4 * n9)).toInt64 &&& 63)) ||| ((lN (qN (Q0 r))) &&& (((lN 1) <<< ((nI (4 * n9)).toInt64 &&& 63)) - (lN 1)))))))), (ag, .inl (cI, 3, .inl fg))]) H := hP
              have hD : va_D A ([(am, .inl (cI, 10, .inl fm)), (aa, .inl (cI, 48, .inl (upd fa (6 * t) (nI 2)))), (aq, .inl (cL, 10, .inr (.inl (vp_updL fq r ((((((lN (qN (Q0 r))) >>> ((nI (4 * n9)).toInt64 &&& 63)) <<< ((nI 4).toInt64 &&& 63)) ||| ((lN 1) + ((nI t).toInt64))) <<< ((nI (4 * n9)).toInt64 &&& 63)) ||| ((lN (qN (Q0 r))) &&& (((lN 1) <<< ((nI (4 * n9)).toInt64 &&& 63)) - (lN 1)))))))), (ag, .inl (cI, 3, .inl fg))]) := hD
              refine lv_aload_n hx hb dL_requested_212 rfl (lv_at hl 4 rfl) ?_
              refine lv_bipush (v := (nI 6)) hx hb dL_requested_213 (by decide) ?_
              refine lv_iload hx hb dL_requested_215 (lv_at hl 8 rfl) ?_
              refine lv_imul hx hb dL_requested_217 ?_
              refine tpe (y := (nI (6 * t))) (pk_mul _ _) ?_
              refine lv_iconst (v := (nI 4)) hx hb dL_requested_218 (by decide) ?_
              refine lv_iadd hx hb dL_requested_219 ?_
              refine tpe (y := (nI (6 * t + 4))) (nI_add _ _) ?_
              refine lv_iload hx hb dL_requested_220 (lv_at hl 9 rfl) ?_
              refine r_ist (k := (6 * t + 4)) hx hb hK hP hD hS 1 rfl (by omega) (by decide) dL_requested_222 (fun H locs hP hD hS => ?_)
              have hP : va_P D vwCl ([(am, .inl (cI, 10, .inl fm)), (aa, .inl (cI, 48, .inl (upd (upd fa (6 * t) (nI 2)) (6 * t + 4) (nI r)))), (aq, .inl (cL, 10, .inr (.inl (vp_updL fq r ((((((lN (qN (Q0 r))) >>> ((nI (4 * n9)).toInt64 &&& 63)) <<< ((nI 4).toInt64 &&& 63)) ||| ((lN 1) + ((nI t).toInt64))) <<< ((nI (4 * n9)).toInt64 &&& 63)) ||| ((lN (qN (Q0 r))) &&& (((lN 1) <<< ((nI (4 * n9)).toInt64 &&& 63)) - (lN 1)))))))), (ag, .inl (cI, 3, .inl fg))]) H := hP
              have hD : va_D A ([(am, .inl (cI, 10, .inl fm)), (aa, .inl (cI, 48, .inl (upd (upd fa (6 * t) (nI 2)) (6 * t + 4) (nI r)))), (aq, .inl (cL, 10, .inr (.inl (vp_updL fq r ((((((lN (qN (Q0 r))) >>> ((nI (4 * n9)).toInt64 &&& 63)) <<< ((nI 4).toInt64 &&& 63)) ||| ((lN 1) + ((nI t).toInt64))) <<< ((nI (4 * n9)).toInt64 &&& 63)) ||| ((lN (qN (Q0 r))) &&& (((lN 1) <<< ((nI (4 * n9)).toInt64 &&& 63)) - (lN 1)))))))), (ag, .inl (cI, 3, .inl fg))]) := hD
              refine lv_aload_n hx hb dL_requested_223 rfl (lv_at hl 4 rfl) ?_
              refine lv_bipush (v := (nI 6)) hx hb dL_requested_224 (by decide) ?_
              refine lv_iload hx hb dL_requested_226 (lv_at hl 8 rfl) ?_
              refine lv_imul hx hb dL_requested_228 ?_
              refine tpe (y := (nI (6 * t))) (pk_mul _ _) ?_
              refine lv_iconst (v := (nI 5)) hx hb dL_requested_229 (by decide) ?_
              refine lv_iadd hx hb dL_requested_230 ?_
              refine tpe (y := (nI (6 * t + 5))) (nI_add _ _) ?_
              refine lv_iload hx hb dL_requested_231 (lv_at hl 10 rfl) ?_
              refine r_ist (k := (6 * t + 5)) hx hb hK hP hD hS 1 rfl (by omega) (by decide) dL_requested_233 (fun H locs hP hD hS => ?_)
              have hP : va_P D vwCl ([(am, .inl (cI, 10, .inl fm)), (aa, .inl (cI, 48, .inl (upd (upd (upd fa (6 * t) (nI 2)) (6 * t + 4) (nI r)) (6 * t + 5) mo))), (aq, .inl (cL, 10, .inr (.inl (vp_updL fq r ((((((lN (qN (Q0 r))) >>> ((nI (4 * n9)).toInt64 &&& 63)) <<< ((nI 4).toInt64 &&& 63)) ||| ((lN 1) + ((nI t).toInt64))) <<< ((nI (4 * n9)).toInt64 &&& 63)) ||| ((lN (qN (Q0 r))) &&& (((lN 1) <<< ((nI (4 * n9)).toInt64 &&& 63)) - (lN 1)))))))), (ag, .inl (cI, 3, .inl fg))]) H := hP
              have hD : va_D A ([(am, .inl (cI, 10, .inl fm)), (aa, .inl (cI, 48, .inl (upd (upd (upd fa (6 * t) (nI 2)) (6 * t + 4) (nI r)) (6 * t + 5) mo))), (aq, .inl (cL, 10, .inr (.inl (vp_updL fq r ((((((lN (qN (Q0 r))) >>> ((nI (4 * n9)).toInt64 &&& 63)) <<< ((nI 4).toInt64 &&& 63)) ||| ((lN 1) + ((nI t).toInt64))) <<< ((nI (4 * n9)).toInt64 &&& 63)) ||| ((lN (qN (Q0 r))) &&& (((lN 1) <<< ((nI (4 * n9)).toInt64 &&& 63)) - (lN 1)))))))), (ag, .inl (cI, 3, .inl fg))]) := hD
              have hP : va_P D vwCl ([(am, .inl (cI, 10, .inl fm)), (aa, .inl (cI, 48, .inl (wtA fa t r mo))), (aq, .inl (cL, 10, .inr (.inl (vp_updL fq r (iQ (lN (qN (Q0 r))) n9 t))))), (ag, .inl (cI, 3, .inl fg))]) H := hP
              have hD : va_D A ([(am, .inl (cI, 10, .inl fm)), (aa, .inl (cI, 48, .inl (wtA fa t r mo))), (aq, .inl (cL, 10, .inr (.inl (vp_updL fq r (iQ (lN (qN (Q0 r))) n9 t))))), (ag, .inl (cI, 3, .inl fg))]) := hD
              have hpw := pl_wait hs hg
              obtain ⟨F1, hF1⟩ : ∃ G, G = plF F Q0 t r mo := ⟨_, rfl⟩
              obtain ⟨Q1, hQ1e⟩ : ∃ G, G = plQ F Q0 t r mo := ⟨_, rfl⟩
              have e1 : F1 = up (up F 3 t (nI r)) 4 t mo := hF1.trans hpw.1
              have e2 : Q1 = updQ Q0 r (insQ (Q0 r) n9 t) := by rw [hQ1e, hpw.2.1, hn9]
              have hJ1 : JJ F1 Q1 := by rw [hF1, hQ1e]; exact JJ_pl hJ ht hr h3 h0 hmo
              have hM1 : MM F1 fm := MM_cg hM (by rw [e1, up_ne (by decide), up_ne (by decide)])
              have hZ1 : ZA F1 (wtA fa t r mo) := by rw [e1]; exact ZA_wt hZ ht hr h0
              have hQ1 : QL Q1 (vp_updL fq r (iQ (lN (qN (Q0 r))) n9 t)) := by rw [e2]; exact QL_ins2 hJ hQL hr ht hnle h8
              have hG1 : GG F1 fg := GG_cg hG (by rw [e1, up_ne (by decide), up_ne (by decide)])
              refine lv_iconst (v := (nI 0)) hx hb dL_requested_234 (by decide) ?_
              refine lv_istore (lv' := [(12, .int (nI 0)), (10, .long ((lN (qN (Q0 r))) &&& (((lN 1) <<< ((nI (4 * n9)).toInt64 &&& 63)) - (lN 1)))), (9, .int (nI n9)), (8, .int (nI 0)), (7, .int (lk F t r)), (0, .ref aa), (1, .ref am), (2, .ref aq), (3, .ref ag), (4, .int (nI t)), (5, .int (nI r)), (6, .int mo)]) hx hb dL_requested_235 hl (by decide) rfl (fun ls hl => ?_)
              have L237 : ∀ (N : Nat) (i : Nat) (V : Nat) (Fc : FF) (Qc : QQ) (fm2 : Nat → Int32) (fa2 : Nat → Int32) (fq2 : Nat → Int64) (fg2 : Nat → Int32), (brI t F1 Q1 i Fc Qc V) → (i + nW Fc 8 ≤ 8) → (V < 2 ^ 8) → (JJ Fc Qc) → (MM Fc fm2) → (ZA Fc fa2) → (QL Qc fq2) → (GG Fc fg2) → (nW Fc 8) < N → ∀ (H : Heap) (locs : List Loc), va_P D vwCl ([(am, .inl (cI, 10, .inl fm2)), (aa, .inl (cI, 48, .inl fa2)), (aq, .inl (cL, 10, .inr (.inl fq2))), (ag, .inl (cI, 3, .inl fg2))]) H → va_D A ([(am, .inl (cI, 10, .inl fm2)), (aa, .inl (cI, 48, .inl fa2)), (aq, .inl (cL, 10, .inr (.inl fq2))), (ag, .inl (cI, 3, .inl fg2))]) → va_S A s.heap H locs → ∀ ls : Array Slot, lv_has ls 14 [(0, .ref aa), (1, .ref am), (2, .ref aq), (3, .ref ag), (4, .int (nI t)), (5, .int (nI r)), (6, .int mo), (12, .int (nI V))] → W p l e rL_requested s m args below meth c H locs 0 0 Q (F0 m 237 ls []) := by
                intro N237
                induction N237 with
                | zero => intro i V Fc Qc fm2 fa2 fq2 fg2 hI hc hV8 hJc hM2 hZ2 hQ2 hG2 hN; exact absurd hN (Nat.not_lt_zero _)
                | succ N237 ih237 =>
                  intro i V Fc Qc fm2 fa2 fq2 fg2 hI hc hV8 hJc hM2 hZ2 hQ2 hG2 hN H locs hP hD hS ls hl
                  have hV31 : V < 2 ^ 31 := by omega
                  refine lv_aload_n hx hb dL_requested_237 rfl (lv_at hl 0 rfl) ?_
                  refine lv_bipush (v := (nI 6)) hx hb dL_requested_238 (by decide) ?_
                  refine lv_iload hx hb dL_requested_240 (lv_at hl 4 rfl) ?_
                  refine lv_imul hx hb dL_requested_242 ?_
                  refine tpe (y := (nI (6 * t))) (pk_mul _ _) ?_
                  refine r_ild (k := (6 * t)) hx hb hK hP 1 rfl (by omega) (by decide) dL_requested_243 ?_
                  refine tpe (y := (stI Fc t)) (ZA0 hZ2 (by omega)) ?_
                  refine lv_iconst (v := (nI 2)) hx hb dL_requested_244 (by decide) ?_
                  refine lv_icmp_ne (tgt := 343) hx hb dL_requested_245 (by decide) (fun h_18 => ?_) (fun h_18 => ?_)
                  · have h_18 := h_18
                    have hv9e : vic Fc Qc t = 8 := vic_n (SR_none hJc ht (Decidable.byContradiction (fun q => h_18 ((st_w hJc ht).mpr q))))
                    have hbe := brI_e (Or.inr hv9e) hI
                    have haw := ask_y (pl_wait hs hg).2.2
                    have hao := ask_out hJ ht hr h3 h0 hmo hs hg
                    rw [← hF1, ← hQ1e] at haw hao
                    have ea1 : Fc = askF F Q0 t r mo := hbe.1.trans haw.1.symm
                    have ea2 : Qc = askQ F Q0 t r mo := hbe.2.1.trans haw.2.1.symm
                    have ea3 : V = askV F Q0 t r mo := hbe.2.2.trans haw.2.2.symm
                    rw [← hbe.1, ← hbe.2.2] at hao
                    refine lv_bipush (v := (nI 8)) hx hb dL_requested_343 (by decide) ?_
                    refine lv_iload hx hb dL_requested_345 (lv_at hl 7 rfl) ?_
                    refine lv_imul hx hb dL_requested_347 ?_
                    refine tpe (y := (nI (8 * V))) (pk_mul _ _) ?_
                    refine lv_iload hx hb dL_requested_348 (lv_at hl 7 rfl) ?_
                    refine lv_iload hx hb dL_requested_350 (lv_at hl 4 rfl) ?_
                    refine lv_ishr hx hb dL_requested_352 ?_
                    refine lv_iconst (v := (nI 1)) hx hb dL_requested_353 (by decide) ?_
                    refine lv_iand hx hb dL_requested_354 ?_
                    refine tpe (y := (nI (bitN V t))) (tb_I hV31 ht) ?_
                    refine lv_iconst (v := (nI 1)) hx hb dL_requested_355 (by decide) ?_
                    refine lv_icmp_ne (tgt := 363) hx hb dL_requested_356 (by decide) (fun h_19 => ?_) (fun h_19 => ?_)
                    · have h_19 := mt (nI_eq (a := (bitN V t)) (b := 1) (bitN_lt _ _) (by decide)).mpr h_19
                      refine lv_aload_n hx hb dL_requested_363 rfl (lv_at hl 0 rfl) ?_
                      refine lv_bipush (v := (nI 6)) hx hb dL_requested_364 (by decide) ?_
                      refine lv_iload hx hb dL_requested_366 (lv_at hl 4 rfl) ?_
                      refine lv_imul hx hb dL_requested_368 ?_
                      refine tpe (y := (nI (6 * t))) (pk_mul _ _) ?_
                      refine r_ild (k := (6 * t)) hx hb hK hP 1 rfl (by omega) (by decide) dL_requested_369 ?_
                      refine tpe (y := (stI Fc t)) (ZA0 hZ2 (by omega)) ?_
                      refine lv_iconst (v := (nI 2)) hx hb dL_requested_370 (by decide) ?_
                      refine lv_icmp_ne (tgt := 378) hx hb dL_requested_371 (by decide) (fun h_20 => ?_) (fun h_20 => ?_)
                      · have h_20 := h_20
                        refine lv_iconst (v := (nI 1)) hx hb dL_requested_378 (by decide) ?_
                        refine lv_iadd hx hb dL_requested_379 ?_
                        refine tpe (y := (nI (8 * V + 1))) (nI_add _ _) ?_
                        have eo := outN_of (hao.2.2 h_19 h_20) (by decide)
                        exact ret_i (u := (fm2, fa2, fq2, fg2)) hQ hx hb hrt hlk hS dL_requested_380 hP ⟨by rw [← ea1, ← ea3, eo], by rw [← ea1]; exact hM2, by rw [← ea1]; exact hZ2, by rw [← ea2]; exact hQ2, by rw [← ea1]; exact hG2⟩
                      · have h_20 := h_20
                        refine lv_iconst (v := (nI 2)) hx hb dL_requested_374 (by decide) ?_
                        refine lv_goto (tgt := 379) hx hb dL_requested_375 (by decide) ?_
                        refine lv_iadd hx hb dL_requested_379 ?_
                        refine tpe (y := (nI (8 * V + 2))) (nI_add _ _) ?_
                        have eo := outN_of (hao.2.1 h_19 h_20) (by decide)
                        exact ret_i (u := (fm2, fa2, fq2, fg2)) hQ hx hb hrt hlk hS dL_requested_380 hP ⟨by rw [← ea1, ← ea3, eo], by rw [← ea1]; exact hM2, by rw [← ea1]; exact hZ2, by rw [← ea2]; exact hQ2, by rw [← ea1]; exact hG2⟩
                    · have h_19 := (nI_eq (a := (bitN V t)) (b := 1) (bitN_lt _ _) (by decide)).mp h_19
                      refine lv_iconst (v := (nI 3)) hx hb dL_requested_359 (by decide) ?_
                      refine lv_goto (tgt := 379) hx hb dL_requested_360 (by decide) ?_
                      refine lv_iadd hx hb dL_requested_379 ?_
                      refine tpe (y := (nI (8 * V + 3))) (nI_add _ _) ?_
                      have eo := outN_of (hao.1 h_19) (by decide)
                      exact ret_i (u := (fm2, fa2, fq2, fg2)) hQ hx hb hrt hlk hS dL_requested_380 hP ⟨by rw [← ea1, ← ea3, eo], by rw [← ea1]; exact hM2, by rw [← ea1]; exact hZ2, by rw [← ea2]; exact hQ2, by rw [← ea1]; exact hG2⟩
                  · have h_18 := h_18
                    refine lv_aload_n hx hb dL_requested_248 rfl (lv_at hl 0 rfl) ?_
                    refine lv_aload_n hx hb dL_requested_249 rfl (lv_at hl 1 rfl) ?_
                    refine lv_aload_n hx hb dL_requested_250 rfl (lv_at hl 2 rfl) ?_
                    refine lv_iload hx hb dL_requested_251 (lv_at hl 4 rfl) ?_
                    refine call_l (X := []) (Wc := [(am, .inl (cI, 10, .inl fm2)), (aa, .inl (cI, 48, .inl fa2)), (aq, .inl (cL, 10, .inr (.inl fq2)))]) (Z := [(ag, .inl (cI, 3, .inl fg2))]) (As := [.ref aa, .ref am, .ref aq, .int (nI t)]) (rest := []) ⟨hx, hb, hml, hown, hts⟩ (c_L_victim l D cI cT cL am aa aq fm2 fa2 fq2 Fc Qc t (by omega) hJc hM2 hZ2 hQ2) (va_cwS 4 hts gL_requested_L_victim rfl rfl rfl (by decide +kernel) ⟨Nat.le_of_ble_eq_true rfl, Nat.le_of_ble_eq_true rfl⟩) hKL hP hD hS hA (fun _ => adw3) rfl hl.1 rfl (Nat.le_of_ble_eq_true rfl) ⟨by decide, by decide⟩ dL_requested_253 (fun rv uu H locs hp hP hD hS => ?_)
                    obtain rfl := hp
                    have hP : va_P D vwCl ([(am, .inl (cI, 10, .inl fm2)), (aa, .inl (cI, 48, .inl fa2)), (aq, .inl (cL, 10, .inr (.inl fq2))), (ag, .inl (cI, 3, .inl fg2))]) H := hP
                    have hD : va_D A ([(am, .inl (cI, 10, .inl fm2)), (aa, .inl (cI, 48, .inl fa2)), (aq, .inl (cL, 10, .inr (.inl fq2))), (ag, .inl (cI, 3, .inl fg2))]) := hD
                    refine lv_istore (lv' := [(13, .int (bI (vic Fc Qc t))), (0, .ref aa), (1, .ref am), (2, .ref aq), (3, .ref ag), (4, .int (nI t)), (5, .int (nI r)), (6, .int mo), (12, .int (nI V))]) hx hb dL_requested_256 hl (by decide) rfl (fun ls hl => ?_)
                    refine lv_iload hx hb dL_requested_258 (lv_at hl 0 rfl) ?_
                    refine lv_if_ge (tgt := 266) hx hb dL_requested_260 (by decide) (fun h_21 => ?_) (fun h_21 => ?_)
                    · have h_21 := h_21
                      have hvn := (bI_nn (vic_le Fc Qc t)).mp h_21
                      rw [bI_some hvn] at hl
                      have hvy := vic_y hJc ht (fun q => hvn (vic_n q))
                      have hnb := nW_br hJc hvy.1 hvy.2
                      have hbs : i < 8 := by omega
                      have hbr := brI_s hbs hvn hI
                      obtain ⟨v9, hv9⟩ : ∃ v, v = vic Fc Qc t := ⟨_, rfl⟩
                      rw [← hv9] at hl hvn hvy hnb hbr
                      have hv8 := hvy.1
                      refine lv_iload hx hb dL_requested_266 (lv_at hl 8 rfl) ?_
                      refine lv_iconst (v := (nI 1)) hx hb dL_requested_268 (by decide) ?_
                      refine lv_iload hx hb dL_requested_269 (lv_at hl 0 rfl) ?_
                      refine lv_ishl hx hb dL_requested_271 ?_
                      refine lv_ior hx hb dL_requested_272 ?_
                      refine tpe (y := (nI (V ||| 2 ^ v9))) (or_sh hv8) ?_
                      refine lv_istore (lv' := [(12, .int (nI (V ||| 2 ^ v9))), (13, .int (nI v9)), (0, .ref aa), (1, .ref am), (2, .ref aq), (3, .ref ag), (4, .int (nI t)), (5, .int (nI r)), (6, .int mo)]) hx hb dL_requested_273 hl (by decide) rfl (fun ls hl => ?_)
                      refine lv_aload_n hx hb dL_requested_275 rfl (lv_at hl 5 rfl) ?_
                      refine lv_iconst (v := (nI 1)) hx hb dL_requested_276 (by decide) ?_
                      refine lv_dup2_11 hx hb dL_requested_277 rfl rfl ?_
                      refine r_ild (k := 1) hx hb hK hP 3 rfl (by omega) (by decide) dL_requested_278 ?_
                      refine lv_iconst (v := (nI 1)) hx hb dL_requested_279 (by decide) ?_
                      refine lv_iadd hx hb dL_requested_280 ?_
                      refine r_ist (k := 1) hx hb hK hP hD hS 3 rfl (by omega) (by decide) dL_requested_281 (fun H locs hP hD hS => ?_)
                      have hP : va_P D vwCl ([(am, .inl (cI, 10, .inl fm2)), (aa, .inl (cI, 48, .inl fa2)), (aq, .inl (cL, 10, .inr (.inl fq2))), (ag, .inl (cI, 3, .inl (upd fg2 1 ((fg2 1) + (nI 1)))))]) H := hP
                      have hD : va_D A ([(am, .inl (cI, 10, .inl fm2)), (aa, .inl (cI, 48, .inl fa2)), (aq, .inl (cL, 10, .inr (.inl fq2))), (ag, .inl (cI, 3, .inl (upd fg2 1 ((fg2 1) + (nI 1)))))]) := hD
                      refine lv_aload_n hx hb dL_requested_282 rfl (lv_at hl 5 rfl) ?_
                      refine lv_iconst (v := (nI 2)) hx hb dL_requested_283 (by decide) ?_
                      refine lv_dup2_11 hx hb dL_requested_284 rfl rfl ?_
                      refine r_ild (k := 2) hx hb hK hP 3 rfl (by omega) (by decide) dL_requested_285 ?_
                      refine lv_aload_n hx hb dL_requested_286 rfl (lv_at hl 2 rfl) ?_
                      refine lv_bipush (v := (nI 6)) hx hb dL_requested_287 (by decide) ?_
                      refine lv_iload hx hb dL_requested_289 (lv_at hl 1 rfl) ?_
                      refine lv_imul hx hb dL_requested_291 ?_
                      refine tpe (y := (nI (6 * v9))) (pk_mul _ _) ?_
                      refine lv_iconst (v := (nI 1)) hx hb dL_requested_292 (by decide) ?_
                      refine lv_iadd hx hb dL_requested_293 ?_
                      refine tpe (y := (nI (6 * v9 + 1))) (nI_add _ _) ?_
                      refine r_ild (k := (6 * v9 + 1)) hx hb hK hP 1 rfl (by omega) (by decide) dL_requested_294 ?_
                      refine tpe (y := (Fc 1 v9)) (ZA1 hZ2 (by omega)) ?_
                      refine lv_iadd hx hb dL_requested_295 ?_
                      refine r_ist (k := 2) hx hb hK hP hD hS 3 rfl (by omega) (by decide) dL_requested_296 (fun H locs hP hD hS => ?_)
                      have hP : va_P D vwCl ([(am, .inl (cI, 10, .inl fm2)), (aa, .inl (cI, 48, .inl fa2)), (aq, .inl (cL, 10, .inr (.inl fq2))), (ag, .inl (cI, 3, .inl (upd (upd fg2 1 ((fg2 1) + (nI 1))) 2 (((upd fg2 1 ((fg2 1) + (nI 1))) 2) + (Fc 1 v9)))))]) H := hP
                      have hD : va_D A ([(am, .inl (cI, 10, .inl fm2)), (aa, .inl (cI, 48, .inl fa2)), (aq, .inl (cL, 10, .inr (.inl fq2))), (ag, .inl (cI, 3, .inl (upd (upd fg2 1 ((fg2 1) + (nI 1))) 2 (((upd fg2 1 ((fg2 1) + (nI 1))) 2) + (Fc 1 v9)))))]) := hD
                      have hP : va_P D vwCl ([(am, .inl (cI, 10, .inl fm2)), (aa, .inl (cI, 48, .inl fa2)), (aq, .inl (cL, 10, .inr (.inl fq2))), (ag, .inl (cI, 3, .inl (bkG fg2 (Fc 1 v9))))]) H := hP
                      have hD : va_D A ([(am, .inl (cI, 10, .inl fm2)), (aa, .inl (cI, 48, .inl fa2)), (aq, .inl (cL, 10, .inr (.inl fq2))), (ag, .inl (cI, 3, .inl (bkG fg2 (Fc 1 v9))))]) := hD
                      refine lv_aload_n hx hb dL_requested_297 rfl (lv_at hl 2 rfl) ?_
                      refine lv_aload_n hx hb dL_requested_298 rfl (lv_at hl 4 rfl) ?_
                      refine lv_iload hx hb dL_requested_299 (lv_at hl 1 rfl) ?_
                      refine call_lv (X := [(am, .inl (cI, 10, .inl fm2))]) (Wc := [(aa, .inl (cI, 48, .inl fa2)), (aq, .inl (cL, 10, .inr (.inl fq2)))]) (Z := [(ag, .inl (cI, 3, .inl (bkG fg2 (Fc 1 v9))))]) (As := [.ref aa, .ref aq, .int (nI v9)]) (rest := []) ⟨hx, hb, hml, hown, hts⟩ (c_L_remove l D cI cT cL aa aq fa2 fq2 Fc Qc v9 (by omega) hvy.2 hJc hZ2 hQ2) (va_cwS 3 hts gL_requested_L_remove rfl rfl rfl (by decide +kernel) ⟨Nat.le_of_ble_eq_true rfl, Nat.le_of_ble_eq_true rfl⟩) hKL hP hD hS hA (fun _ => adw2) rfl hl.1 rfl (Nat.le_of_ble_eq_true rfl) ⟨by decide, by decide⟩ dL_requested_301 (fun uu H locs hp hP hD hS => ?_)
                      obtain ⟨fa13, fq13⟩ := uu
                      obtain ⟨hZ13, hQ13⟩ := hp
                      dsimp only at hZ13 hQ13
                      have hJ13 := JJ_rm hJc (show v9 < 8 by omega)
                      have hMr13 := MM_cg (F' := rmF Fc v9) hM2 (rmF_ne (by decide))
                      have hP : va_P D vwCl ([(am, .inl (cI, 10, .inl fm2)), (aa, .inl (cI, 48, .inl fa13)), (aq, .inl (cL, 10, .inr (.inl fq13))), (ag, .inl (cI, 3, .inl (bkG fg2 (Fc 1 v9))))]) H := hP
                      have hD : va_D A ([(am, .inl (cI, 10, .inl fm2)), (aa, .inl (cI, 48, .inl fa13)), (aq, .inl (cL, 10, .inr (.inl fq13))), (ag, .inl (cI, 3, .inl (bkG fg2 (Fc 1 v9))))]) := hD
                      refine lv_aload_n hx hb dL_requested_304 rfl (lv_at hl 3 rfl) ?_
                      refine lv_iload hx hb dL_requested_305 (lv_at hl 1 rfl) ?_
                      refine call_lv (X := []) (Wc := [(am, .inl (cI, 10, .inl fm2))]) (Z := [(aa, .inl (cI, 48, .inl fa13)), (aq, .inl (cL, 10, .inr (.inl fq13))), (ag, .inl (cI, 3, .inl (bkG fg2 (Fc 1 v9))))]) (As := [.ref am, .int (nI v9)]) (rest := []) ⟨hx, hb, hml, hown, hts⟩ (c_L_release l D cI cT cL am fm2 (rmF Fc v9) v9 (by omega) hMr13) (va_cwS 2 hts gL_requested_L_release rfl rfl rfl (by decide +kernel) ⟨Nat.le_of_ble_eq_true rfl, Nat.le_of_ble_eq_true rfl⟩) hKL hP hD hS hA (fun _ => adw1) rfl hl.1 rfl (Nat.le_of_ble_eq_true rfl) ⟨by decide, by decide⟩ dL_requested_307 (fun uu H locs hp hP hD hS => ?_)
                      obtain ⟨fm14, efm14⟩ : ∃ f, f = uu := ⟨_, rfl⟩
                      rw [← efm14] at hP hD hp
                      have hM14 := hp
                      have hZr14 := ZA_rel (t := v9) hZ13
                      have hP : va_P D vwCl ([(am, .inl (cI, 10, .inl fm14)), (aa, .inl (cI, 48, .inl fa13)), (aq, .inl (cL, 10, .inr (.inl fq13))), (ag, .inl (cI, 3, .inl (bkG fg2 (Fc 1 v9))))]) H := hP
                      have hD : va_D A ([(am, .inl (cI, 10, .inl fm14)), (aa, .inl (cI, 48, .inl fa13)), (aq, .inl (cL, 10, .inr (.inl fq13))), (ag, .inl (cI, 3, .inl (bkG fg2 (Fc 1 v9))))]) := hD
                      refine lv_aload_n hx hb dL_requested_310 rfl (lv_at hl 2 rfl) ?_
                      refine lv_bipush (v := (nI 6)) hx hb dL_requested_311 (by decide) ?_
                      refine lv_iload hx hb dL_requested_313 (lv_at hl 1 rfl) ?_
                      refine lv_imul hx hb dL_requested_315 ?_
                      refine tpe (y := (nI (6 * v9))) (pk_mul _ _) ?_
                      refine lv_iconst (v := (nI 1)) hx hb dL_requested_316 (by decide) ?_
                      refine lv_iadd hx hb dL_requested_317 ?_
                      refine tpe (y := (nI (6 * v9 + 1))) (nI_add _ _) ?_
                      refine lv_iconst (v := (nI 0)) hx hb dL_requested_318 (by decide) ?_
                      refine r_ist (k := (6 * v9 + 1)) hx hb hK hP hD hS 1 rfl (by omega) (by decide) dL_requested_319 (fun H locs hP hD hS => ?_)
                      have hP : va_P D vwCl ([(am, .inl (cI, 10, .inl fm14)), (aa, .inl (cI, 48, .inl (upd fa13 (6 * v9 + 1) (nI 0)))), (aq, .inl (cL, 10, .inr (.inl fq13))), (ag, .inl (cI, 3, .inl (bkG fg2 (Fc 1 v9))))]) H := hP
                      have hD : va_D A ([(am, .inl (cI, 10, .inl fm14)), (aa, .inl (cI, 48, .inl (upd fa13 (6 * v9 + 1) (nI 0)))), (aq, .inl (cL, 10, .inr (.inl fq13))), (ag, .inl (cI, 3, .inl (bkG fg2 (Fc 1 v9))))]) := hD
                      refine lv_aload_n hx hb dL_requested_320 rfl (lv_at hl 2 rfl) ?_
                      refine lv_bipush (v := (nI 6)) hx hb dL_requested_321 (by decide) ?_
                      refine lv_iload hx hb dL_requested_323 (lv_at hl 1 rfl) ?_
                      refine lv_imul hx hb dL_requested_325 ?_
                      refine tpe (y := (nI (6 * v9))) (pk_mul _ _) ?_
                      refine lv_iconst (v := (nI 2)) hx hb dL_requested_326 (by decide) ?_
                      refine lv_iadd hx hb dL_requested_327 ?_
                      refine tpe (y := (nI (6 * v9 + 2))) (nI_add _ _) ?_
                      refine lv_dup2_11 hx hb dL_requested_328 rfl rfl ?_
                      refine r_ild (k := (6 * v9 + 2)) hx hb hK hP 1 rfl (by omega) (by decide) dL_requested_329 ?_
                      refine lv_iconst (v := (nI 1)) hx hb dL_requested_330 (by decide) ?_
                      refine lv_iadd hx hb dL_requested_331 ?_
                      refine r_ist (k := (6 * v9 + 2)) hx hb hK hP hD hS 1 rfl (by omega) (by decide) dL_requested_332 (fun H locs hP hD hS => ?_)
                      have hP : va_P D vwCl ([(am, .inl (cI, 10, .inl fm14)), (aa, .inl (cI, 48, .inl (upd (upd fa13 (6 * v9 + 1) (nI 0)) (6 * v9 + 2) (((upd fa13 (6 * v9 + 1) (nI 0)) (6 * v9 + 2)) + (nI 1))))), (aq, .inl (cL, 10, .inr (.inl fq13))), (ag, .inl (cI, 3, .inl (bkG fg2 (Fc 1 v9))))]) H := hP
                      have hD : va_D A ([(am, .inl (cI, 10, .inl fm14)), (aa, .inl (cI, 48, .inl (upd (upd fa13 (6 * v9 + 1) (nI 0)) (6 * v9 + 2) (((upd fa13 (6 * v9 + 1) (nI 0)) (6 * v9 + 2)) + (nI 1))))), (aq, .inl (cL, 10, .inr (.inl fq13))), (ag, .inl (cI, 3, .inl (bkG fg2 (Fc 1 v9))))]) := hD
                      have hP : va_P D vwCl ([(am, .inl (cI, 10, .inl fm14)), (aa, .inl (cI, 48, .inl (abA fa13 v9))), (aq, .inl (cL, 10, .inr (.inl fq13))), (ag, .inl (cI, 3, .inl (bkG fg2 (Fc 1 v9))))]) H := hP
                      have hD : va_D A ([(am, .inl (cI, 10, .inl fm14)), (aa, .inl (cI, 48, .inl (abA fa13 v9))), (aq, .inl (cL, 10, .inr (.inl fq13))), (ag, .inl (cI, 3, .inl (bkG fg2 (Fc 1 v9))))]) := hD
                      have hMb := MM_ab hM14
                      have hZb := ZA_ab hZr14 hv8
                      have hJb := JJ_ab hJc hv8
                      have hGb := GG_srv hJb (GG_bk (v := v9) hG2)
                      refine lv_aload_n hx hb dL_requested_333 rfl (lv_at hl 2 rfl) ?_
                      refine lv_aload_n hx hb dL_requested_334 rfl (lv_at hl 3 rfl) ?_
                      refine lv_aload_n hx hb dL_requested_335 rfl (lv_at hl 4 rfl) ?_
                      refine call_l (X := []) (Wc := [(am, .inl (cI, 10, .inl fm14)), (aa, .inl (cI, 48, .inl (abA fa13 v9))), (aq, .inl (cL, 10, .inr (.inl fq13)))]) (Z := [(ag, .inl (cI, 3, .inl (bkG fg2 (Fc 1 v9))))]) (As := [.ref aa, .ref am, .ref aq]) (rest := []) ⟨hx, hb, hml, hown, hts⟩ (c_L_serve l D cI cT cL am aa aq fm14 (abA fa13 v9) fq13 (abF Fc v9) (rmQ Fc Qc v9) hJb hMb hZb hQ13) (va_cwS 3 hts gL_requested_L_serve rfl rfl rfl (by decide +kernel) ⟨Nat.le_of_ble_eq_true rfl, Nat.le_of_ble_eq_true rfl⟩) hKL hP hD hS hA (fun _ => adw3) rfl hl.1 rfl (Nat.le_of_ble_eq_true rfl) ⟨by decide, by decide⟩ dL_requested_336 (fun rv uu H locs hp hP hD hS => ?_)
                      obtain ⟨fm15, fa15, fq15⟩ := uu
                      obtain ⟨rfl, hM15, hZ15, hQ15⟩ := hp
                      dsimp only at hM15 hZ15 hQ15
                      have hJ15 := JJ_srv hJb
                      have hP : va_P D vwCl ([(am, .inl (cI, 10, .inl fm15)), (aa, .inl (cI, 48, .inl fa15)), (aq, .inl (cL, 10, .inr (.inl fq15))), (ag, .inl (cI, 3, .inl (bkG fg2 (Fc 1 v9))))]) H := hP
                      have hD : va_D A ([(am, .inl (cI, 10, .inl fm15)), (aa, .inl (cI, 48, .inl fa15)), (aq, .inl (cL, 10, .inr (.inl fq15))), (ag, .inl (cI, 3, .inl (bkG fg2 (Fc 1 v9))))]) := hD
                      refine lv_pop hx hb dL_requested_339 rfl ?_
                      refine lv_goto (tgt := 237) hx hb dL_requested_340 (by decide) ?_
                      exact ih237 (i + 1) (V ||| 2 ^ v9) (srvF (abF Fc v9) (rmQ Fc Qc v9)) (srvQ (abF Fc v9) (rmQ Fc Qc v9)) fm15 fa15 fq15 (bkG fg2 (Fc 1 v9)) hbr (by omega) (Nat.or_lt_two_pow hV8 (Nat.pow_lt_pow_right (by decide) hv8)) hJ15 hM15 hZ15 hQ15 hGb (by omega) _ _ hP hD hS _ (lv_sub hl [2, 3, 4, 5, 6, 7, 8, 0] rfl)
                    · have h_21 := h_21
                      refine lv_goto (tgt := 343) hx hb dL_requested_263 (by decide) ?_
                      have hv9e : vic Fc Qc t = 8 := Decidable.byContradiction (fun q => h_21 ((bI_nn (vic_le Fc Qc t)).mpr q))
                      have hbe := brI_e (Or.inr hv9e) hI
                      have haw := ask_y (pl_wait hs hg).2.2
                      have hao := ask_out hJ ht hr h3 h0 hmo hs hg
                      rw [← hF1, ← hQ1e] at haw hao
                      have ea1 : Fc = askF F Q0 t r mo := hbe.1.trans haw.1.symm
                      have ea2 : Qc = askQ F Q0 t r mo := hbe.2.1.trans haw.2.1.symm
                      have ea3 : V = askV F Q0 t r mo := hbe.2.2.trans haw.2.2.symm
                      rw [← hbe.1, ← hbe.2.2] at hao
                      refine lv_bipush (v := (nI 8)) hx hb dL_requested_343 (by decide) ?_
                      refine lv_iload hx hb dL_requested_345 (lv_at hl 8 rfl) ?_
                      refine lv_imul hx hb dL_requested_347 ?_
                      refine tpe (y := (nI (8 * V))) (pk_mul _ _) ?_
                      refine lv_iload hx hb dL_requested_348 (lv_at hl 8 rfl) ?_
                      refine lv_iload hx hb dL_requested_350 (lv_at hl 5 rfl) ?_
                      refine lv_ishr hx hb dL_requested_352 ?_
                      refine lv_iconst (v := (nI 1)) hx hb dL_requested_353 (by decide) ?_
                      refine lv_iand hx hb dL_requested_354 ?_
                      refine tpe (y := (nI (bitN V t))) (tb_I hV31 ht) ?_
                      refine lv_iconst (v := (nI 1)) hx hb dL_requested_355 (by decide) ?_
                      refine lv_icmp_ne (tgt := 363) hx hb dL_requested_356 (by decide) (fun h_22 => ?_) (fun h_22 => ?_)
                      · have h_22 := mt (nI_eq (a := (bitN V t)) (b := 1) (bitN_lt _ _) (by decide)).mpr h_22
                        refine lv_aload_n hx hb dL_requested_363 rfl (lv_at hl 1 rfl) ?_
                        refine lv_bipush (v := (nI 6)) hx hb dL_requested_364 (by decide) ?_
                        refine lv_iload hx hb dL_requested_366 (lv_at hl 5 rfl) ?_
                        refine lv_imul hx hb dL_requested_368 ?_
                        refine tpe (y := (nI (6 * t))) (pk_mul _ _) ?_
                        refine r_ild (k := (6 * t)) hx hb hK hP 1 rfl (by omega) (by decide) dL_requested_369 ?_
                        refine tpe (y := (stI Fc t)) (ZA0 hZ2 (by omega)) ?_
                        refine lv_iconst (v := (nI 2)) hx hb dL_requested_370 (by decide) ?_
                        refine lv_icmp_ne (tgt := 378) hx hb dL_requested_371 (by decide) (fun h_23 => ?_) (fun h_23 => ?_)
                        · have h_23 := h_23
                          refine lv_iconst (v := (nI 1)) hx hb dL_requested_378 (by decide) ?_
                          refine lv_iadd hx hb dL_requested_379 ?_
                          refine tpe (y := (nI (8 * V + 1))) (nI_add _ _) ?_
                          have eo := outN_of (hao.2.2 h_22 h_23) (by decide)
                          exact ret_i (u := (fm2, fa2, fq2, fg2)) hQ hx hb hrt hlk hS dL_requested_380 hP ⟨by rw [← ea1, ← ea3, eo], by rw [← ea1]; exact hM2, by rw [← ea1]; exact hZ2, by rw [← ea2]; exact hQ2, by rw [← ea1]; exact hG2⟩
                        · have h_23 := h_23
                          refine lv_iconst (v := (nI 2)) hx hb dL_requested_374 (by decide) ?_
                          refine lv_goto (tgt := 379) hx hb dL_requested_375 (by decide) ?_
                          refine lv_iadd hx hb dL_requested_379 ?_
                          refine tpe (y := (nI (8 * V + 2))) (nI_add _ _) ?_
                          have eo := outN_of (hao.2.1 h_22 h_23) (by decide)
                          exact ret_i (u := (fm2, fa2, fq2, fg2)) hQ hx hb hrt hlk hS dL_requested_380 hP ⟨by rw [← ea1, ← ea3, eo], by rw [← ea1]; exact hM2, by rw [← ea1]; exact hZ2, by rw [← ea2]; exact hQ2, by rw [← ea1]; exact hG2⟩
                      · have h_22 := (nI_eq (a := (bitN V t)) (b := 1) (bitN_lt _ _) (by decide)).mp h_22
                        refine lv_iconst (v := (nI 3)) hx hb dL_requested_359 (by decide) ?_
                        refine lv_goto (tgt := 379) hx hb dL_requested_360 (by decide) ?_
                        refine lv_iadd hx hb dL_requested_379 ?_
                        refine tpe (y := (nI (8 * V + 3))) (nI_add _ _) ?_
                        have eo := outN_of (hao.1 h_22) (by decide)
                        exact ret_i (u := (fm2, fa2, fq2, fg2)) hQ hx hb hrt hlk hS dL_requested_380 hP ⟨by rw [← ea1, ← ea3, eo], by rw [← ea1]; exact hM2, by rw [← ea1]; exact hZ2, by rw [← ea2]; exact hQ2, by rw [← ea1]; exact hG2⟩
              exact L237 _ 0 0 F1 Q1 fm (wtA fa t r mo) (vp_updL fq r (iQ (lN (qN (Q0 r))) n9 t)) fg brI_0 (by have := nW_le (F := F1) 8; omega) (by decide) hJ1 hM1 hZ1 hQ1 hG1 (Nat.lt_succ_self _) _ _ hP hD hS _ (lv_sub hl [5, 6, 7, 8, 9, 10, 11, 0] rfl)
            · have h_15 := mt (nI_eq (a := ((alN (fun w => !rivB F t r mo w) 8).toNat)) (b := 0) (bool_lt _) (by decide)).mpr h_15
              have hg := plG_2 ((len_eq hJ hr).mp h_6) (b1 h_15)
              refine lv_aload_n hx hb dL_requested_86 rfl (lv_at hl 2 rfl) ?_
              refine lv_aload_n hx hb dL_requested_87 rfl (lv_at hl 3 rfl) ?_
              refine lv_iload hx hb dL_requested_88 (lv_at hl 6 rfl) ?_
              refine lv_iload hx hb dL_requested_90 (lv_at hl 7 rfl) ?_
              refine lv_iload hx hb dL_requested_92 (lv_at hl 8 rfl) ?_
              refine call_lv (X := []) (Wc := [(am, .inl (cI, 10, .inl fm)), (aa, .inl (cI, 48, .inl fa))]) (Z := [(aq, .inl (cL, 10, .inr (.inl fq))), (ag, .inl (cI, 3, .inl fg))]) (As := [.ref aa, .ref am, .int (nI t), .int (nI r), .int mo]) (rest := []) ⟨hx, hb, hml, hown, hts⟩ (c_L_grant l D cI cT cL am aa fm fa F t r mo (by omega) (by omega) hmo hM hZ) (va_cwS 5 hts gL_requested_L_grant rfl rfl rfl (by decide +kernel) ⟨Nat.le_of_ble_eq_true rfl, Nat.le_of_ble_eq_true rfl⟩) hKL hP hD hS hA (fun _ => adw2) rfl hl.1 rfl (Nat.le_of_ble_eq_true rfl) ⟨by decide, by decide⟩ dL_requested_94 (fun uu H locs hp hP hD hS => ?_)
              obtain ⟨fm16, fa16⟩ := uu
              obtain ⟨hM16, hZ16⟩ := hp
              dsimp only at hM16 hZ16
              have hP : va_P D vwCl ([(am, .inl (cI, 10, .inl fm16)), (aa, .inl (cI, 48, .inl fa16)), (aq, .inl (cL, 10, .inr (.inl fq))), (ag, .inl (cI, 3, .inl fg))]) H := hP
              have hD : va_D A ([(am, .inl (cI, 10, .inl fm16)), (aa, .inl (cI, 48, .inl fa16)), (aq, .inl (cL, 10, .inr (.inl fq))), (ag, .inl (cI, 3, .inl fg))]) := hD
              refine lv_iconst (v := (nI 1)) hx hb dL_requested_97 (by decide) ?_
              obtain ⟨e1, e2, e3, e4⟩ := rq_gr hr hs hg
              exact ret_i (u := (fm16, fa16, fq, fg)) hQ hx hb hrt hlk hS dL_requested_98 hP ⟨congrArg nI (by omega), by rw [e1]; exact hM16, by rw [e1]; exact hZ16, by rw [e2]; exact hQL, by rw [e1]; exact GG_cg hG (gr_ne (by decide) (by decide))⟩
        · have h_4 := h_4
          refine lv_iload hx hb dL_requested_54 (lv_at hl 0 rfl) ?_
          refine lv_if_ne (tgt := 86) hx hb dL_requested_56 (by decide) (fun h => absurd (by decide) h) (fun _ => ?_)
          refine lv_iload hx hb dL_requested_59 (lv_at hl 1 rfl) ?_
          refine lv_if_ne (tgt := 99) hx hb dL_requested_61 (by decide) (fun h_24 => ?_) (fun h_24 => absurd (h_4.symm.trans h_24) nI1_0)
          have h_24 := h_24
          have hg := pG_n (Q := Q0) (mo_2 hmo h_4 h_2) h_4 (fun q => h_3 ((alone_I hJ hM ht hr).mpr q))
          have h8 := JJ_room hJ ht h3 hr
          have hqq : qlen Q0 r = (Q0 r).length := rfl
          refine lv_iload hx hb dL_requested_99 (lv_at hl 1 rfl) ?_
          refine lv_if_ne (tgt := 114) hx hb dL_requested_101 (by decide) (fun h_25 => ?_) (fun h_25 => absurd (h_4.symm.trans h_25) nI1_0)
          have h_25 := h_25
          refine lv_iconst (v := (nI 0)) hx hb dL_requested_114 (by decide) ?_
          refine lv_istore (lv' := [(9, .int (nI 0)), (8, .int (nI 0)), (7, .int (lk F t r)), (0, .ref aa), (1, .ref am), (2, .ref aq), (3, .ref ag), (4, .int (nI t)), (5, .int (nI r)), (6, .int mo)]) hx hb dL_requested_115 hl (by decide) rfl (fun ls hl => ?_)
          have L117 : ∀ (N : Nat) (pl : Nat), (pl ≤ qlen Q0 r) → (∀ j, j < pl → lk F ((Q0 r).getD j 0) r = nI 1) → (8 - pl) < N → ∀ (H : Heap) (locs : List Loc), va_P D vwCl ([(am, .inl (cI, 10, .inl fm)), (aa, .inl (cI, 48, .inl fa)), (aq, .inl (cL, 10, .inr (.inl fq))), (ag, .inl (cI, 3, .inl fg))]) H → va_D A ([(am, .inl (cI, 10, .inl fm)), (aa, .inl (cI, 48, .inl fa)), (aq, .inl (cL, 10, .inr (.inl fq))), (ag, .inl (cI, 3, .inl fg))]) → va_S A s.heap H locs → ∀ ls : Array Slot, lv_has ls 14 [(0, .ref aa), (1, .ref am), (2, .ref aq), (3, .ref ag), (4, .int (nI t)), (5, .int (nI r)), (6, .int mo), (7, .int (lk F t r)), (9, .int (nI pl))] → W p l e rL_requested s m args below meth c H locs 0 0 Q (F0 m 117 ls []) := by
            intro N117
            induction N117 with
            | zero => intro pl hpl9 hb9 hN; exact absurd hN (Nat.not_lt_zero _)
            | succ N117 ih117 =>
              intro pl hpl9 hb9 hN H locs hP hD hS ls hl
              refine lv_iload hx hb dL_requested_117 (lv_at hl 7 rfl) ?_
              refine lv_iconst (v := (nI 1)) hx hb dL_requested_119 (by decide) ?_
              refine lv_icmp_ne (tgt := 160) hx hb dL_requested_120 (by decide) (fun h_26 => absurd h_4 h_26) (fun h_26 => ?_)
              have h_26 := h_26
              refine lv_iload hx hb dL_requested_123 (lv_at hl 8 rfl) ?_
              refine lv_aload_n hx hb dL_requested_125 rfl (lv_at hl 2 rfl) ?_
              refine lv_iload hx hb dL_requested_126 (lv_at hl 5 rfl) ?_
              refine r_lld (k := r) hx hb hKL hP 2 rfl (by omega) (by decide) dL_requested_128 ?_
              refine tpl (y := (lN (qN (Q0 r)))) (hQL r (by omega)) ?_
              refine call_l (X := [(am, .inl (cI, 10, .inl fm)), (aa, .inl (cI, 48, .inl fa)), (aq, .inl (cL, 10, .inr (.inl fq))), (ag, .inl (cI, 3, .inl fg))]) (Wc := []) (Z := []) (As := [.long (lN (qN (Q0 r)))]) (rest := [.int (nI pl)]) ⟨hx, hb, hml, hown, hts⟩ (c_L_length l D cI cT cL (Q0 r) (Q_8 hJ (show r < 10 by omega)) (JJ_len hJ (show r < 10 by omega))) (va_cwS 1 hts gL_requested_L_length rfl rfl rfl (by decide +kernel) ⟨Nat.le_of_ble_eq_true rfl, Nat.le_of_ble_eq_true rfl⟩) hKL (P_nilr hP) (D_nilr hD) hS hA (fun _ => rfl) rfl hl.1 rfl (Nat.le_of_ble_eq_true rfl) ⟨by decide, by decide⟩ dL_requested_129 (fun rv uu H locs hp hP hD hS => ?_)
              have hP := P_nil2 hP
              have hD := D_nil2 hD
              obtain rfl := hp
              have hP : va_P D vwCl ([(am, .inl (cI, 10, .inl fm)), (aa, .inl (cI, 48, .inl fa)), (aq, .inl (cL, 10, .inr (.inl fq))), (ag, .inl (cI, 3, .inl fg))]) H := hP
              have hD : va_D A ([(am, .inl (cI, 10, .inl fm)), (aa, .inl (cI, 48, .inl fa)), (aq, .inl (cL, 10, .inr (.inl fq))), (ag, .inl (cI, 3, .inl fg))]) := hD
              refine lv_icmp_ge (tgt := 160) hx hb dL_requested_132 (by decide) (fun h_27 => ?_) (fun h_27 => ?_)
              · have h_27 := (nI_leI (a := ((Q0 r).length)) (b := pl) (by omega) (by omega)).mp h_27
                have he9 : pl = insN F Q0 t r := ins_1 hJ hr h_4 hpl9 hb9 (Or.inl (by omega))
                obtain ⟨n9, hn9⟩ : ∃ n, n = insN F Q0 t r := ⟨_, rfl⟩
                rw [he9, ← hn9] at hl
                have hnle : n9 ≤ qlen Q0 r := by rw [hn9]; exact insN_le
                refine lv_aload_n hx hb dL_requested_160 rfl (lv_at hl 2 rfl) ?_
                refine lv_iload hx hb dL_requested_161 (lv_at hl 5 rfl) ?_
                refine r_lld (k := r) hx hb hKL hP 2 rfl (by omega) (by decide) dL_requested_163 ?_
                refine tpl (y := (lN (qN (Q0 r)))) (hQL r (by omega)) ?_
                refine lv_lconst (v := lN 1) hx hb dL_requested_164 rfl ?_
                refine lv_iconst (v := (nI 4)) hx hb dL_requested_165 (by decide) ?_
                refine lv_iload hx hb dL_requested_166 (lv_at hl 8 rfl) ?_
                refine lv_imul hx hb dL_requested_168 ?_
                refine tpe (y := (nI (4 * n9))) (pk_mul _ _) ?_
                refine lv_lshl (v := (lN 1) <<< ((nI (4 * n9)).toInt64 &&& 63)) hx hb dL_requested_169 rfl ?_
                refine lv_lconst (v := lN 1) hx hb dL_requested_170 rfl ?_
                refine lv_lsub hx hb dL_requested_171 ?_
                refine lv_land hx hb dL_requested_172 ?_
                refine lv_lstore (lv' := [(10, .long ((lN (qN (Q0 r))) &&& (((lN 1) <<< ((nI (4 * n9)).toInt64 &&& 63)) - (lN 1)))), (0, .ref aa), (1, .ref am), (2, .ref aq), (3, .ref ag), (4, .int (nI t)), (5, .int (nI r)), (6, .int mo), (7, .int (lk F t r)), (9, .int (nI n9))]) hx hb dL_requested_173 hl (by decide) rfl (fun ls hl => ?_)
                refine lv_aload_n hx hb dL_requested_175 rfl (lv_at hl 3 rfl) ?_
                refine lv_iload hx hb dL_requested_176 (lv_at hl 6 rfl) ?_
                refine lv_aload_n hx hb dL_requested_178 rfl (lv_at hl 3 rfl) ?_
                refine lv_iload hx hb dL_requested_179 (lv_at hl 6 rfl) ?_
                refine r_lld (k := r) hx hb hKL hP 2 rfl (by omega) (by decide) dL_requested_181 ?_
                refine tpl (y := (lN (qN (Q0 r)))) (hQL r (by omega)) ?_
                refine lv_iconst (v := (nI 4)) hx hb dL_requested_182 (by decide) ?_
                refine lv_iload hx hb dL_requested_183 (lv_at hl 9 rfl) ?_
                refine lv_imul hx hb dL_requested_185 ?_
                refine tpe (y := (nI (4 * n9))) (pk_mul _ _) ?_
                refine lv_lshr (v := (lN (qN (Q0 r))) >>> ((nI (4 * n9)).toInt64 &&& 63)) hx hb dL_requested_186 rfl ?_
                refine lv_iconst (v := (nI 4)) hx hb dL_requested_187 (by decide) ?_
                refine lv_lshl (v := ((lN (qN (Q0 r))) >>> ((nI (4 * n9)).toInt64 &&& 63)) <<< ((nI 4).toInt64 &&& 63)) hx hb dL_requested_188 rfl ?_
                refine lv_lconst (v := lN 1) hx hb dL_requested_189 rfl ?_
                refine lv_iload hx hb dL_requested_190 (lv_at hl 5 rfl) ?_
                refine lv_i2l (v := (nI t).toInt64) hx hb dL_requested_192 rfl ?_
                refine lv_ladd hx hb dL_requested_193 ?_
                refine lv_lor hx hb dL_requested_194 ?_
                refine lv_iconst (v := (nI 4)) hx hb dL_requested_195 (by decide) ?_
                refine lv_iload hx hb dL_requested_196 (lv_at hl 9 rfl) ?_
                refine lv_imul hx hb dL_requested_198 ?_
                refine tpe (y := (nI (4 * n9))) (pk_mul _ _) ?_
                refine lv_lshl (v := ((((lN (qN (Q0 r))) >>> ((nI (4 * n9)).toInt64 &&& 63)) <<< ((nI 4).toInt64 &&& 63)) ||| ((lN 1) + ((nI t).toInt64))) <<< ((nI (4 * n9)).toInt64 &&& 63)) hx hb dL_requested_199 rfl ?_
                refine lv_lload hx hb dL_requested_200 (lv_at hl 0 rfl) ?_
                refine lv_lor hx hb dL_requested_202 ?_
                refine r_lst (k := r) hx hb hKL hP hD hS 2 rfl (by omega) (by decide) dL_requested_203 (fun H locs hP hD hS => ?_)
                have hP : va_P D vwCl ([(am, .inl (cI, 10, .inl fm)), (aa, .inl (cI, 48, .inl fa)), (aq, .inl (cL, 10, .inr (.inl (vp_updL fq r ((((((lN (qN (Q0 r))) >>> ((nI (4 * n9)).toInt64 &&& 63)) <<< ((nI 4).toInt64 &&& 63)) ||| ((lN 1) + ((nI t).toInt64))) <<< ((nI (4 * n9)).toInt64 &&& 63)) ||| ((lN (qN (Q0 r))) &&& (((lN 1) <<< ((nI (4 * n9)).toInt64 &&& 63)) - (lN 1)))))))), (ag, .inl (cI, 3, .inl fg))]) H := hP
                have hD : va_D A ([(am, .inl (cI, 10, .inl fm)), (aa, .inl (cI, 48, .inl fa)), (aq, .inl (cL, 10, .inr (.inl (vp_updL fq r ((((((lN (qN (Q0 r))) >>> ((nI (4 * n9)).toInt64 &&& 63)) <<< ((nI 4).toInt64 &&& 63)) ||| ((lN 1) + ((nI t).toInt64))) <<< ((nI (4 * n9)).toInt64 &&& 63)) ||| ((lN (qN (Q0 r))) &&& (((lN 1) <<< ((nI (4 * n9)).toInt64 &&& 63)) - (lN 1)))))))), (ag, .inl (cI, 3, .inl fg))]) := hD
                refine lv_aload_n hx hb dL_requested_204 rfl (lv_at hl 1 rfl) ?_
                refine lv_bipush (v := (nI 6)) hx hb dL_requested_205 (by decide) ?_
                refine lv_iload hx hb dL_requested_207 (lv_at hl 5 rfl) ?_
                refine lv_imul hx hb dL_requested_209 ?_
                refine tpe (y := (nI (6 * t))) (pk_mul _ _) ?_
                refine lv_iconst (v := (nI 2)) hx hb dL_requested_210 (by decide) ?_
                refine r_ist (k := (6 * t)) hx hb hK hP hD hS 1 rfl (by omega) (by decide) dL_requested_211 (fun H locs hP hD hS => ?_)
                have hP : va_P D vwCl ([(am, .inl (cI, 10, .inl fm)), (aa, .inl (cI, 48, .inl (upd fa (6 * t) (nI 2)))), (aq, .inl (cL, 10, .inr (.inl (vp_updL fq r ((((((lN (qN (Q0 r))) >>> ((nI (4 * n9)).toInt64 &&& 63)) <<< ((nI 4).toInt64 &&& 63)) ||| ((lN 1) + ((nI t).toInt64))) <<< ((nI (4 * n9)).toInt64 &&& 63)) ||| ((lN (qN (Q0 r))) &&& (((lN 1) <<< ((nI (4 * n9)).toInt64 &&& 63)) - (lN 1)))))))), (ag, .inl (cI, 3, .inl fg))]) H := hP
                have hD : va_D A ([(am, .inl (cI, 10, .inl fm)), (aa, .inl (cI, 48, .inl (upd fa (6 * t) (nI 2)))), (aq, .inl (cL, 10, .inr (.inl (vp_updL fq r ((((((lN (qN (Q0 r))) >>> ((nI (4 * n9)).toInt64 &&& 63)) <<< ((nI 4).toInt64 &&& 63)) ||| ((lN 1) + ((nI t).toInt64))) <<< ((nI (4 * n9)).toInt64 &&& 63)) ||| ((lN (qN (Q0 r))) &&& (((lN 1) <<< ((nI (4 * n9)).toInt64 &&& 63)) - (lN 1)))))))), (ag, .inl (cI, 3, .inl fg))]) := hD
                refine lv_aload_n hx hb dL_requested_212 rfl (lv_at hl 1 rfl) ?_
                refine lv_bipush (v := (nI 6)) hx hb dL_requested_213 (by decide) ?_
                refine lv_iload hx hb dL_requested_215 (lv_at hl 5 rfl) ?_
                refine lv_imul hx hb dL_requested_217 ?_
                refine tpe (y := (nI (6 * t))) (pk_mul _ _) ?_
                refine lv_iconst (v := (nI 4)) hx hb dL_requested_218 (by decide) ?_
                refine lv_iadd hx hb dL_requested_219 ?_
                refine tpe (y := (nI (6 * t + 4))) (nI_add _ _) ?_
                refine lv_iload hx hb dL_requested_220 (lv_at hl 6 rfl) ?_
                refine r_ist (k := (6 * t + 4)) hx hb hK hP hD hS 1 rfl (by omega) (by decide) dL_requested_222 (fun H locs hP hD hS => ?_)
                have hP : va_P D vwCl ([(am, .inl (cI, 10, .inl fm)), (aa, .inl (cI, 48, .inl (upd (upd fa (6 * t) (nI 2)) (6 * t + 4) (nI r)))), (aq, .inl (cL, 10, .inr (.inl (vp_updL fq r ((((((lN (qN (Q0 r))) >>> ((nI (4 * n9)).toInt64 &&& 63)) <<< ((nI 4).toInt64 &&& 63)) ||| ((lN 1) + ((nI t).toInt64))) <<< ((nI (4 * n9)).toInt64 &&& 63)) ||| ((lN (qN (Q0 r))) &&& (((lN 1) <<< ((nI (4 * n9)).toInt64 &&& 63)) - (lN 1)))))))), (ag, .inl (cI, 3, .inl fg))]) H := hP
                have hD : va_D A ([(am, .inl (cI, 10, .inl fm)), (aa, .inl (cI, 48, .inl (upd (upd fa (6 * t) (nI 2)) (6 * t + 4) (nI r)))), (aq, .inl (cL, 10, .inr (.inl (vp_updL fq r ((((((lN (qN (Q0 r))) >>> ((nI (4 * n9)).toInt64 &&& 63)) <<< ((nI 4).toInt64 &&& 63)) ||| ((lN 1) + ((nI t).toInt64))) <<< ((nI (4 * n9)).toInt64 &&& 63)) ||| ((lN (qN (Q0 r))) &&& (((lN 1) <<< ((nI (4 * n9)).toInt64 &&& 63)) - (lN 1)))))))), (ag, .inl (cI, 3, .inl fg))]) := hD
                refine lv_aload_n hx hb dL_requested_223 rfl (lv_at hl 1 rfl) ?_
                refine lv_bipush (v := (nI 6)) hx hb dL_requested_224 (by decide) ?_
                refine lv_iload hx hb dL_requested_226 (lv_at hl 5 rfl) ?_
                refine lv_imul hx hb dL_requested_228 ?_
                refine tpe (y := (nI (6 * t))) (pk_mul _ _) ?_
                refine lv_iconst (v := (nI 5)) hx hb dL_requested_229 (by decide) ?_
                refine lv_iadd hx hb dL_requested_230 ?_
                refine tpe (y := (nI (6 * t + 5))) (nI_add _ _) ?_
                refine lv_iload hx hb dL_requested_231 (lv_at hl 7 rfl) ?_
                refine r_ist (k := (6 * t + 5)) hx hb hK hP hD hS 1 rfl (by omega) (by decide) dL_requested_233 (fun H locs hP hD hS => ?_)
                have hP : va_P D vwCl ([(am, .inl (cI, 10, .inl fm)), (aa, .inl (cI, 48, .inl (upd (upd (upd fa (6 * t) (nI 2)) (6 * t + 4) (nI r)) (6 * t + 5) mo))), (aq, .inl (cL, 10, .inr (.inl (vp_updL fq r ((((((lN (qN (Q0 r))) >>> ((nI (4 * n9)).toInt64 &&& 63)) <<< ((nI 4).toInt64 &&& 63)) ||| ((lN 1) + ((nI t).toInt64))) <<< ((nI (4 * n9)).toInt64 &&& 63)) ||| ((lN (qN (Q0 r))) &&& (((lN 1) <<< ((nI (4 * n9)).toInt64 &&& 63)) - (lN 1)))))))), (ag, .inl (cI, 3, .inl fg))]) H := hP
                have hD : va_D A ([(am, .inl (cI, 10, .inl fm)), (aa, .inl (cI, 48, .inl (upd (upd (upd fa (6 * t) (nI 2)) (6 * t + 4) (nI r)) (6 * t + 5) mo))), (aq, .inl (cL, 10, .inr (.inl (vp_updL fq r ((((((lN (qN (Q0 r))) >>> ((nI (4 * n9)).toInt64 &&& 63)) <<< ((nI 4).toInt64 &&& 63)) ||| ((lN 1) + ((nI t).toInt64))) <<< ((nI (4 * n9)).toInt64 &&& 63)) ||| ((lN (qN (Q0 r))) &&& (((lN 1) <<< ((nI (4 * n9)).toInt64 &&& 63)) - (lN 1)))))))), (ag, .inl (cI, 3, .inl fg))]) := hD
                have hP : va_P D vwCl ([(am, .inl (cI, 10, .inl fm)), (aa, .inl (cI, 48, .inl (wtA fa t r mo))), (aq, .inl (cL, 10, .inr (.inl (vp_updL fq r (iQ (lN (qN (Q0 r))) n9 t))))), (ag, .inl (cI, 3, .inl fg))]) H := hP
                have hD : va_D A ([(am, .inl (cI, 10, .inl fm)), (aa, .inl (cI, 48, .inl (wtA fa t r mo))), (aq, .inl (cL, 10, .inr (.inl (vp_updL fq r (iQ (lN (qN (Q0 r))) n9 t))))), (ag, .inl (cI, 3, .inl fg))]) := hD
                have hpw := pl_wait hs hg
                obtain ⟨F1, hF1⟩ : ∃ G, G = plF F Q0 t r mo := ⟨_, rfl⟩
                obtain ⟨Q1, hQ1e⟩ : ∃ G, G = plQ F Q0 t r mo := ⟨_, rfl⟩
                have e1 : F1 = up (up F 3 t (nI r)) 4 t mo := hF1.trans hpw.1
                have e2 : Q1 = updQ Q0 r (insQ (Q0 r) n9 t) := by rw [hQ1e, hpw.2.1, hn9]
                have hJ1 : JJ F1 Q1 := by rw [hF1, hQ1e]; exact JJ_pl hJ ht hr h3 h0 hmo
                have hM1 : MM F1 fm := MM_cg hM (by rw [e1, up_ne (by decide), up_ne (by decide)])
                have hZ1 : ZA F1 (wtA fa t r mo) := by rw [e1]; exact ZA_wt hZ ht hr h0
                have hQ1 : QL Q1 (vp_updL fq r (iQ (lN (qN (Q0 r))) n9 t)) := by rw [e2]; exact QL_ins2 hJ hQL hr ht hnle h8
                have hG1 : GG F1 fg := GG_cg hG (by rw [e1, up_ne (by decide), up_ne (by decide)])
                refine lv_iconst (v := (nI 0)) hx hb dL_requested_234 (by decide) ?_
                refine lv_istore (lv' := [(12, .int (nI 0)), (10, .long ((lN (qN (Q0 r))) &&& (((lN 1) <<< ((nI (4 * n9)).toInt64 &&& 63)) - (lN 1)))), (0, .ref aa), (1, .ref am), (2, .ref aq), (3, .ref ag), (4, .int (nI t)), (5, .int (nI r)), (6, .int mo), (7, .int (lk F t r)), (9, .int (nI n9))]) hx hb dL_requested_235 hl (by decide) rfl (fun ls hl => ?_)
                have L237 : ∀ (N : Nat) (i : Nat) (V : Nat) (Fc : FF) (Qc : QQ) (fm2 : Nat → Int32) (fa2 : Nat → Int32) (fq2 : Nat → Int64) (fg2 : Nat → Int32), (brI t F1 Q1 i Fc Qc V) → (i + nW Fc 8 ≤ 8) → (V < 2 ^ 8) → (JJ Fc Qc) → (MM Fc fm2) → (ZA Fc fa2) → (QL Qc fq2) → (GG Fc fg2) → (nW Fc 8) < N → ∀ (H : Heap) (locs : List Loc), va_P D vwCl ([(am, .inl (cI, 10, .inl fm2)), (aa, .inl (cI, 48, .inl fa2)), (aq, .inl (cL, 10, .inr (.inl fq2))), (ag, .inl (cI, 3, .inl fg2))]) H → va_D A ([(am, .inl (cI, 10, .inl fm2)), (aa, .inl (cI, 48, .inl fa2)), (aq, .inl (cL, 10, .inr (.inl fq2))), (ag, .inl (cI, 3, .inl fg2))]) → va_S A s.heap H locs → ∀ ls : Array Slot, lv_has ls 14 [(0, .ref aa), (1, .ref am), (2, .ref aq), (3, .ref ag), (4, .int (nI t)), (5, .int (nI r)), (6, .int mo), (12, .int (nI V))] → W p l e rL_requested s m args below meth c H locs 0 0 Q (F0 m 237 ls []) := by
                  intro N237
                  induction N237 with
                  | zero => intro i V Fc Qc fm2 fa2 fq2 fg2 hI hc hV8 hJc hM2 hZ2 hQ2 hG2 hN; exact absurd hN (Nat.not_lt_zero _)
                  | succ N237 ih237 =>
                    intro i V Fc Qc fm2 fa2 fq2 fg2 hI hc hV8 hJc hM2 hZ2 hQ2 hG2 hN H locs hP hD hS ls hl
                    have hV31 : V < 2 ^ 31 := by omega
                    refine lv_aload_n hx hb dL_requested_237 rfl (lv_at hl 0 rfl) ?_
                    refine lv_bipush (v := (nI 6)) hx hb dL_requested_238 (by decide) ?_
                    refine lv_iload hx hb dL_requested_240 (lv_at hl 4 rfl) ?_
                    refine lv_imul hx hb dL_requested_242 ?_
                    refine tpe (y := (nI (6 * t))) (pk_mul _ _) ?_
                    refine r_ild (k := (6 * t)) hx hb hK hP 1 rfl (by omega) (by decide) dL_requested_243 ?_
                    refine tpe (y := (stI Fc t)) (ZA0 hZ2 (by omega)) ?_
                    refine lv_iconst (v := (nI 2)) hx hb dL_requested_244 (by decide) ?_
                    refine lv_icmp_ne (tgt := 343) hx hb dL_requested_245 (by decide) (fun h_28 => ?_) (fun h_28 => ?_)
                    · have h_28 := h_28
                      have hv9e : vic Fc Qc t = 8 := vic_n (SR_none hJc ht (Decidable.byContradiction (fun q => h_28 ((st_w hJc ht).mpr q))))
                      have hbe := brI_e (Or.inr hv9e) hI
                      have haw := ask_y (pl_wait hs hg).2.2
                      have hao := ask_out hJ ht hr h3 h0 hmo hs hg
                      rw [← hF1, ← hQ1e] at haw hao
                      have ea1 : Fc = askF F Q0 t r mo := hbe.1.trans haw.1.symm
                      have ea2 : Qc = askQ F Q0 t r mo := hbe.2.1.trans haw.2.1.symm
                      have ea3 : V = askV F Q0 t r mo := hbe.2.2.trans haw.2.2.symm
                      rw [← hbe.1, ← hbe.2.2] at hao
                      refine lv_bipush (v := (nI 8)) hx hb dL_requested_343 (by decide) ?_
                      refine lv_iload hx hb dL_requested_345 (lv_at hl 7 rfl) ?_
                      refine lv_imul hx hb dL_requested_347 ?_
                      refine tpe (y := (nI (8 * V))) (pk_mul _ _) ?_
                      refine lv_iload hx hb dL_requested_348 (lv_at hl 7 rfl) ?_
                      refine lv_iload hx hb dL_requested_350 (lv_at hl 4 rfl) ?_
                      refine lv_ishr hx hb dL_requested_352 ?_
                      refine lv_iconst (v := (nI 1)) hx hb dL_requested_353 (by decide) ?_
                      refine lv_iand hx hb dL_requested_354 ?_
                      refine tpe (y := (nI (bitN V t))) (tb_I hV31 ht) ?_
                      refine lv_iconst (v := (nI 1)) hx hb dL_requested_355 (by decide) ?_
                      refine lv_icmp_ne (tgt := 363) hx hb dL_requested_356 (by decide) (fun h_29 => ?_) (fun h_29 => ?_)
                      · have h_29 := mt (nI_eq (a := (bitN V t)) (b := 1) (bitN_lt _ _) (by decide)).mpr h_29
                        refine lv_aload_n hx hb dL_requested_363 rfl (lv_at hl 0 rfl) ?_
                        refine lv_bipush (v := (nI 6)) hx hb dL_requested_364 (by decide) ?_
                        refine lv_iload hx hb dL_requested_366 (lv_at hl 4 rfl) ?_
                        refine lv_imul hx hb dL_requested_368 ?_
                        refine tpe (y := (nI (6 * t))) (pk_mul _ _) ?_
                        refine r_ild (k := (6 * t)) hx hb hK hP 1 rfl (by omega) (by decide) dL_requested_369 ?_
                        refine tpe (y := (stI Fc t)) (ZA0 hZ2 (by omega)) ?_
                        refine lv_iconst (v := (nI 2)) hx hb dL_requested_370 (by decide) ?_
                        refine lv_icmp_ne (tgt := 378) hx hb dL_requested_371 (by decide) (fun h_30 => ?_) (fun h_30 => ?_)
                        · have h_30 := h_30
                          refine lv_iconst (v := (nI 1)) hx hb dL_requested_378 (by decide) ?_
                          refine lv_iadd hx hb dL_requested_379 ?_
                          refine tpe (y := (nI (8 * V + 1))) (nI_add _ _) ?_
                          have eo := outN_of (hao.2.2 h_29 h_30) (by decide)
                          exact ret_i (u := (fm2, fa2, fq2, fg2)) hQ hx hb hrt hlk hS dL_requested_380 hP ⟨by rw [← ea1, ← ea3, eo], by rw [← ea1]; exact hM2, by rw [← ea1]; exact hZ2, by rw [← ea2]; exact hQ2, by rw [← ea1]; exact hG2⟩
                        · have h_30 := h_30
                          refine lv_iconst (v := (nI 2)) hx hb dL_requested_374 (by decide) ?_
                          refine lv_goto (tgt := 379) hx hb dL_requested_375 (by decide) ?_
                          refine lv_iadd hx hb dL_requested_379 ?_
                          refine tpe (y := (nI (8 * V + 2))) (nI_add _ _) ?_
                          have eo := outN_of (hao.2.1 h_29 h_30) (by decide)
                          exact ret_i (u := (fm2, fa2, fq2, fg2)) hQ hx hb hrt hlk hS dL_requested_380 hP ⟨by rw [← ea1, ← ea3, eo], by rw [← ea1]; exact hM2, by rw [← ea1]; exact hZ2, by rw [← ea2]; exact hQ2, by rw [← ea1]; exact hG2⟩
                      · have h_29 := (nI_eq (a := (bitN V t)) (b := 1) (bitN_lt _ _) (by decide)).mp h_29
                        refine lv_iconst (v := (nI 3)) hx hb dL_requested_359 (by decide) ?_
                        refine lv_goto (tgt := 379) hx hb dL_requested_360 (by decide) ?_
                        refine lv_iadd hx hb dL_requested_379 ?_
                        refine tpe (y := (nI (8 * V + 3))) (nI_add _ _) ?_
                        have eo := outN_of (hao.1 h_29) (by decide)
                        exact ret_i (u := (fm2, fa2, fq2, fg2)) hQ hx hb hrt hlk hS dL_requested_380 hP ⟨by rw [← ea1, ← ea3, eo], by rw [← ea1]; exact hM2, by rw [← ea1]; exact hZ2, by rw [← ea2]; exact hQ2, by rw [← ea1]; exact hG2⟩
                    · have h_28 := h_28
                      refine lv_aload_n hx hb dL_requested_248 rfl (lv_at hl 0 rfl) ?_
                      refine lv_aload_n hx hb dL_requested_249 rfl (lv_at hl 1 rfl) ?_
                      refine lv_aload_n hx hb dL_requested_250 rfl (lv_at hl 2 rfl) ?_
                      refine lv_iload hx hb dL_requested_251 (lv_at hl 4 rfl) ?_
                      refine call_l (X := []) (Wc := [(am, .inl (cI, 10, .inl fm2)), (aa, .inl (cI, 48, .inl fa2)), (aq, .inl (cL, 10, .inr (.inl fq2)))]) (Z := [(ag, .inl (cI, 3, .inl fg2))]) (As := [.ref aa, .ref am, .ref aq, .int (nI t)]) (rest := []) ⟨hx, hb, hml, hown, hts⟩ (c_L_victim l D cI cT cL am aa aq fm2 fa2 fq2 Fc Qc t (by omega) hJc hM2 hZ2 hQ2) (va_cwS 4 hts gL_requested_L_victim rfl rfl rfl (by decide +kernel) ⟨Nat.le_of_ble_eq_true rfl, Nat.le_of_ble_eq_true rfl⟩) hKL hP hD hS hA (fun _ => adw3) rfl hl.1 rfl (Nat.le_of_ble_eq_true rfl) ⟨by decide, by decide⟩ dL_requested_253 (fun rv uu H locs hp hP hD hS => ?_)
                      obtain rfl := hp
                      have hP : va_P D vwCl ([(am, .inl (cI, 10, .inl fm2)), (aa, .inl (cI, 48, .inl fa2)), (aq, .inl (cL, 10, .inr (.inl fq2))), (ag, .inl (cI, 3, .inl fg2))]) H := hP
                      have hD : va_D A ([(am, .inl (cI, 10, .inl fm2)), (aa, .inl (cI, 48, .inl fa2)), (aq, .inl (cL, 10, .inr (.inl fq2))), (ag, .inl (cI, 3, .inl fg2))]) := hD
                      refine lv_istore (lv' := [(13, .int (bI (vic Fc Qc t))), (0, .ref aa), (1, .ref am), (2, .ref aq), (3, .ref ag), (4, .int (nI t)), (5, .int (nI r)), (6, .int mo), (12, .int (nI V))]) hx hb dL_requested_256 hl (by decide) rfl (fun ls hl => ?_)
                      refine lv_iload hx hb dL_requested_258 (lv_at hl 0 rfl) ?_
                      refine lv_if_ge (tgt := 266) hx hb dL_requested_260 (by decide) (fun h_31 => ?_) (fun h_31 => ?_)
                      · have h_31 := h_31
                        have hvn := (bI_nn (vic_le Fc Qc t)).mp h_31
                        rw [bI_some hvn] at hl
                        have hvy := vic_y hJc ht (fun q => hvn (vic_n q))
                        have hnb := nW_br hJc hvy.1 hvy.2
                        have hbs : i < 8 := by omega
                        have hbr := brI_s hbs hvn hI
                        obtain ⟨v9, hv9⟩ : ∃ v, v = vic Fc Qc t := ⟨_, rfl⟩
                        rw [← hv9] at hl hvn hvy hnb hbr
                        have hv8 := hvy.1
                        refine lv_iload hx hb dL_requested_266 (lv_at hl 8 rfl) ?_
                        refine lv_iconst (v := (nI 1)) hx hb dL_requested_268 (by decide) ?_
                        refine lv_iload hx hb dL_requested_269 (lv_at hl 0 rfl) ?_
                        refine lv_ishl hx hb dL_requested_271 ?_
                        refine lv_ior hx hb dL_requested_272 ?_
                        refine tpe (y := (nI (V ||| 2 ^ v9))) (or_sh hv8) ?_
                        refine lv_istore (lv' := [(12, .int (nI (V ||| 2 ^ v9))), (13, .int (nI v9)), (0, .ref aa), (1, .ref am), (2, .ref aq), (3, .ref ag), (4, .int (nI t)), (5, .int (nI r)), (6, .int mo)]) hx hb dL_requested_273 hl (by decide) rfl (fun ls hl => ?_)
                        refine lv_aload_n hx hb dL_requested_275 rfl (lv_at hl 5 rfl) ?_
                        refine lv_iconst (v := (nI 1)) hx hb dL_requested_276 (by decide) ?_
                        refine lv_dup2_11 hx hb dL_requested_277 rfl rfl ?_
                        refine r_ild (k := 1) hx hb hK hP 3 rfl (by omega) (by decide) dL_requested_278 ?_
                        refine lv_iconst (v := (nI 1)) hx hb dL_requested_279 (by decide) ?_
                        refine lv_iadd hx hb dL_requested_280 ?_
                        refine r_ist (k := 1) hx hb hK hP hD hS 3 rfl (by omega) (by decide) dL_requested_281 (fun H locs hP hD hS => ?_)
                        have hP : va_P D vwCl ([(am, .inl (cI, 10, .inl fm2)), (aa, .inl (cI, 48, .inl fa2)), (aq, .inl (cL, 10, .inr (.inl fq2))), (ag, .inl (cI, 3, .inl (upd fg2 1 ((fg2 1) + (nI 1)))))]) H := hP
                        have hD : va_D A ([(am, .inl (cI, 10, .inl fm2)), (aa, .inl (cI, 48, .inl fa2)), (aq, .inl (cL, 10, .inr (.inl fq2))), (ag, .inl (cI, 3, .inl (upd fg2 1 ((fg2 1) + (nI 1)))))]) := hD
                        refine lv_aload_n hx hb dL_requested_282 rfl (lv_at hl 5 rfl) ?_
                        refine lv_iconst (v := (nI 2)) hx hb dL_requested_283 (by decide) ?_
                        refine lv_dup2_11 hx hb dL_requested_284 rfl rfl ?_
                        refine r_ild (k := 2) hx hb hK hP 3 rfl (by omega) (by decide) dL_requested_285 ?_
                        refine lv_aload_n hx hb dL_requested_286 rfl (lv_at hl 2 rfl) ?_
                        refine lv_bipush (v := (nI 6)) hx hb dL_requested_287 (by decide) ?_
                        refine lv_iload hx hb dL_requested_289 (lv_at hl 1 rfl) ?_
                        refine lv_imul hx hb dL_requested_291 ?_
                        refine tpe (y := (nI (6 * v9))) (pk_mul _ _) ?_
                        refine lv_iconst (v := (nI 1)) hx hb dL_requested_292 (by decide) ?_
                        refine lv_iadd hx hb dL_requested_293 ?_
                        refine tpe (y := (nI (6 * v9 + 1))) (nI_add _ _) ?_
                        refine r_ild (k := (6 * v9 + 1)) hx hb hK hP 1 rfl (by omega) (by decide) dL_requested_294 ?_
                        refine tpe (y := (Fc 1 v9)) (ZA1 hZ2 (by omega)) ?_
                        refine lv_iadd hx hb dL_requested_295 ?_
                        refine r_ist (k := 2) hx hb hK hP hD hS 3 rfl (by omega) (by decide) dL_requested_296 (fun H locs hP hD hS => ?_)
                        have hP : va_P D vwCl ([(am, .inl (cI, 10, .inl fm2)), (aa, .inl (cI, 48, .inl fa2)), (aq, .inl (cL, 10, .inr (.inl fq2))), (ag, .inl (cI, 3, .inl (upd (upd fg2 1 ((fg2 1) + (nI 1))) 2 (((upd fg2 1 ((fg2 1) + (nI 1))) 2) + (Fc 1 v9)))))]) H := hP
                        have hD : va_D A ([(am, .inl (cI, 10, .inl fm2)), (aa, .inl (cI, 48, .inl fa2)), (aq, .inl (cL, 10, .inr (.inl fq2))), (ag, .inl (cI, 3, .inl (upd (upd fg2 1 ((fg2 1) + (nI 1))) 2 (((upd fg2 1 ((fg2 1) + (nI 1))) 2) + (Fc 1 v9)))))]) := hD
                        have hP : va_P D vwCl ([(am, .inl (cI, 10, .inl fm2)), (aa, .inl (cI, 48, .inl fa2)), (aq, .inl (cL, 10, .inr (.inl fq2))), (ag, .inl (cI, 3, .inl (bkG fg2 (Fc 1 v9))))]) H := hP
                        have hD : va_D A ([(am, .inl (cI, 10, .inl fm2)), (aa, .inl (cI, 48, .inl fa2)), (aq, .inl (cL, 10, .inr (.inl fq2))), (ag, .inl (cI, 3, .inl (bkG fg2 (Fc 1 v9))))]) := hD
                        refine lv_aload_n hx hb dL_requested_297 rfl (lv_at hl 2 rfl) ?_
                        refine lv_aload_n hx hb dL_requested_298 rfl (lv_at hl 4 rfl) ?_
                        refine lv_iload hx hb dL_requested_299 (lv_at hl 1 rfl) ?_
                        refine call_lv (X := [(am, .inl (cI, 10, .inl fm2))]) (Wc := [(aa, .inl (cI, 48, .inl fa2)), (aq, .inl (cL, 10, .inr (.inl fq2)))]) (Z := [(ag, .inl (cI, 3, .inl (bkG fg2 (Fc 1 v9))))]) (As := [.ref aa, .ref aq, .int (nI v9)]) (rest := []) ⟨hx, hb, hml, hown, hts⟩ (c_L_remove l D cI cT cL aa aq fa2 fq2 Fc Qc v9 (by omega) hvy.2 hJc hZ2 hQ2) (va_cwS 3 hts gL_requested_L_remove rfl rfl rfl (by decide +kernel) ⟨Nat.le_of_ble_eq_true rfl, Nat.le_of_ble_eq_true rfl⟩) hKL hP hD hS hA (fun _ => adw2) rfl hl.1 rfl (Nat.le_of_ble_eq_true rfl) ⟨by decide, by decide⟩ dL_requested_301 (fun uu H locs hp hP hD hS => ?_)
                        obtain ⟨fa17, fq17⟩ := uu
                        obtain ⟨hZ17, hQ17⟩ := hp
                        dsimp only at hZ17 hQ17
                        have hJ17 := JJ_rm hJc (show v9 < 8 by omega)
                        have hMr17 := MM_cg (F' := rmF Fc v9) hM2 (rmF_ne (by decide))
                        have hP : va_P D vwCl ([(am, .inl (cI, 10, .inl fm2)), (aa, .inl (cI, 48, .inl fa17)), (aq, .inl (cL, 10, .inr (.inl fq17))), (ag, .inl (cI, 3, .inl (bkG fg2 (Fc 1 v9))))]) H := hP
                        have hD : va_D A ([(am, .inl (cI, 10, .inl fm2)), (aa, .inl (cI, 48, .inl fa17)), (aq, .inl (cL, 10, .inr (.inl fq17))), (ag, .inl (cI, 3, .inl (bkG fg2 (Fc 1 v9))))]) := hD
                        refine lv_aload_n hx hb dL_requested_304 rfl (lv_at hl 3 rfl) ?_
                        refine lv_iload hx hb dL_requested_305 (lv_at hl 1 rfl) ?_
                        refine call_lv (X := []) (Wc := [(am, .inl (cI, 10, .inl fm2))]) (Z := [(aa, .inl (cI, 48, .inl fa17)), (aq, .inl (cL, 10, .inr (.inl fq17))), (ag, .inl (cI, 3, .inl (bkG fg2 (Fc 1 v9))))]) (As := [.ref am, .int (nI v9)]) (rest := []) ⟨hx, hb, hml, hown, hts⟩ (c_L_release l D cI cT cL am fm2 (rmF Fc v9) v9 (by omega) hMr17) (va_cwS 2 hts gL_requested_L_release rfl rfl rfl (by decide +kernel) ⟨Nat.le_of_ble_eq_true rfl, Nat.le_of_ble_eq_true rfl⟩) hKL hP hD hS hA (fun _ => adw1) rfl hl.1 rfl (Nat.le_of_ble_eq_true rfl) ⟨by decide, by decide⟩ dL_requested_307 (fun uu H locs hp hP hD hS => ?_)
                        obtain ⟨fm18, efm18⟩ : ∃ f, f = uu := ⟨_, rfl⟩
                        rw [← efm18] at hP hD hp
                        have hM18 := hp
                        have hZr18 := ZA_rel (t := v9) hZ17
                        have hP : va_P D vwCl ([(am, .inl (cI, 10, .inl fm18)), (aa, .inl (cI, 48, .inl fa17)), (aq, .inl (cL, 10, .inr (.inl fq17))), (ag, .inl (cI, 3, .inl (bkG fg2 (Fc 1 v9))))]) H := hP
                        have hD : va_D A ([(am, .inl (cI, 10, .inl fm18)), (aa, .inl (cI, 48, .inl fa17)), (aq, .inl (cL, 10, .inr (.inl fq17))), (ag, .inl (cI, 3, .inl (bkG fg2 (Fc 1 v9))))]) := hD
                        refine lv_aload_n hx hb dL_requested_310 rfl (lv_at hl 2 rfl) ?_
                        refine lv_bipush (v := (nI 6)) hx hb dL_requested_311 (by decide) ?_
                        refine lv_iload hx hb dL_requested_313 (lv_at hl 1 rfl) ?_
                        refine lv_imul hx hb dL_requested_315 ?_
                        refine tpe (y := (nI (6 * v9))) (pk_mul _ _) ?_
                        refine lv_iconst (v := (nI 1)) hx hb dL_requested_316 (by decide) ?_
                        refine lv_iadd hx hb dL_requested_317 ?_
                        refine tpe (y := (nI (6 * v9 + 1))) (nI_add _ _) ?_
                        refine lv_iconst (v := (nI 0)) hx hb dL_requested_318 (by decide) ?_
                        refine r_ist (k := (6 * v9 + 1)) hx hb hK hP hD hS 1 rfl (by omega) (by decide) dL_requested_319 (fun H locs hP hD hS => ?_)
                        have hP : va_P D vwCl ([(am, .inl (cI, 10, .inl fm18)), (aa, .inl (cI, 48, .inl (upd fa17 (6 * v9 + 1) (nI 0)))), (aq, .inl (cL, 10, .inr (.inl fq17))), (ag, .inl (cI, 3, .inl (bkG fg2 (Fc 1 v9))))]) H := hP
                        have hD : va_D A ([(am, .inl (cI, 10, .inl fm18)), (aa, .inl (cI, 48, .inl (upd fa17 (6 * v9 + 1) (nI 0)))), (aq, .inl (cL, 10, .inr (.inl fq17))), (ag, .inl (cI, 3, .inl (bkG fg2 (Fc 1 v9))))]) := hD
                        refine lv_aload_n hx hb dL_requested_320 rfl (lv_at hl 2 rfl) ?_
                        refine lv_bipush (v := (nI 6)) hx hb dL_requested_321 (by decide) ?_
                        refine lv_iload hx hb dL_requested_323 (lv_at hl 1 rfl) ?_
                        refine lv_imul hx hb dL_requested_325 ?_
                        refine tpe (y := (nI (6 * v9))) (pk_mul _ _) ?_
                        refine lv_iconst (v := (nI 2)) hx hb dL_requested_326 (by decide) ?_
                        refine lv_iadd hx hb dL_requested_327 ?_
                        refine tpe (y := (nI (6 * v9 + 2))) (nI_add _ _) ?_
                        refine lv_dup2_11 hx hb dL_requested_328 rfl rfl ?_
                        refine r_ild (k := (6 * v9 + 2)) hx hb hK hP 1 rfl (by omega) (by decide) dL_requested_329 ?_
                        refine lv_iconst (v := (nI 1)) hx hb dL_requested_330 (by decide) ?_
                        refine lv_iadd hx hb dL_requested_331 ?_
                        refine r_ist (k := (6 * v9 + 2)) hx hb hK hP hD hS 1 rfl (by omega) (by decide) dL_requested_332 (fun H locs hP hD hS => ?_)
                        have hP : va_P D vwCl ([(am, .inl (cI, 10, .inl fm18)), (aa, .inl (cI, 48, .inl (upd (upd fa17 (6 * v9 + 1) (nI 0)) (6 * v9 + 2) (((upd fa17 (6 * v9 + 1) (nI 0)) (6 * v9 + 2)) + (nI 1))))), (aq, .inl (cL, 10, .inr (.inl fq17))), (ag, .inl (cI, 3, .inl (bkG fg2 (Fc 1 v9))))]) H := hP
                        have hD : va_D A ([(am, .inl (cI, 10, .inl fm18)), (aa, .inl (cI, 48, .inl (upd (upd fa17 (6 * v9 + 1) (nI 0)) (6 * v9 + 2) (((upd fa17 (6 * v9 + 1) (nI 0)) (6 * v9 + 2)) + (nI 1))))), (aq, .inl (cL, 10, .inr (.inl fq17))), (ag, .inl (cI, 3, .inl (bkG fg2 (Fc 1 v9))))]) := hD
                        have hP : va_P D vwCl ([(am, .inl (cI, 10, .inl fm18)), (aa, .inl (cI, 48, .inl (abA fa17 v9))), (aq, .inl (cL, 10, .inr (.inl fq17))), (ag, .inl (cI, 3, .inl (bkG fg2 (Fc 1 v9))))]) H := hP
                        have hD : va_D A ([(am, .inl (cI, 10, .inl fm18)), (aa, .inl (cI, 48, .inl (abA fa17 v9))), (aq, .inl (cL, 10, .inr (.inl fq17))), (ag, .inl (cI, 3, .inl (bkG fg2 (Fc 1 v9))))]) := hD
                        have hMb := MM_ab hM18
                        have hZb := ZA_ab hZr18 hv8
                        have hJb := JJ_ab hJc hv8
                        have hGb := GG_srv hJb (GG_bk (v := v9) hG2)
                        refine lv_aload_n hx hb dL_requested_333 rfl (lv_at hl 2 rfl) ?_
                        refine lv_aload_n hx hb dL_requested_334 rfl (lv_at hl 3 rfl) ?_
                        refine lv_aload_n hx hb dL_requested_335 rfl (lv_at hl 4 rfl) ?_
                        refine call_l (X := []) (Wc := [(am, .inl (cI, 10, .inl fm18)), (aa, .inl (cI, 48, .inl (abA fa17 v9))), (aq, .inl (cL, 10, .inr (.inl fq17)))]) (Z := [(ag, .inl (cI, 3, .inl (bkG fg2 (Fc 1 v9))))]) (As := [.ref aa, .ref am, .ref aq]) (rest := []) ⟨hx, hb, hml, hown, hts⟩ (c_L_serve l D cI cT cL am aa aq fm18 (abA fa17 v9) fq17 (abF Fc v9) (rmQ Fc Qc v9) hJb hMb hZb hQ17) (va_cwS 3 hts gL_requested_L_serve rfl rfl rfl (by decide +kernel) ⟨Nat.le_of_ble_eq_true rfl, Nat.le_of_ble_eq_true rfl⟩) hKL hP hD hS hA (fun _ => adw3) rfl hl.1 rfl (Nat.le_of_ble_eq_true rfl) ⟨by decide, by decide⟩ dL_requested_336 (fun rv uu H locs hp hP hD hS => ?_)
                        obtain ⟨fm19, fa19, fq19⟩ := uu
                        obtain ⟨rfl, hM19, hZ19, hQ19⟩ := hp
                        dsimp only at hM19 hZ19 hQ19
                        have hJ19 := JJ_srv hJb
                        have hP : va_P D vwCl ([(am, .inl (cI, 10, .inl fm19)), (aa, .inl (cI, 48, .inl fa19)), (aq, .inl (cL, 10, .inr (.inl fq19))), (ag, .inl (cI, 3, .inl (bkG fg2 (Fc 1 v9))))]) H := hP
                        have hD : va_D A ([(am, .inl (cI, 10, .inl fm19)), (aa, .inl (cI, 48, .inl fa19)), (aq, .inl (cL, 10, .inr (.inl fq19))), (ag, .inl (cI, 3, .inl (bkG fg2 (Fc 1 v9))))]) := hD
                        refine lv_pop hx hb dL_requested_339 rfl ?_
                        refine lv_goto (tgt := 237) hx hb dL_requested_340 (by decide) ?_
                        exact ih237 (i + 1) (V ||| 2 ^ v9) (srvF (abF Fc v9) (rmQ Fc Qc v9)) (srvQ (abF Fc v9) (rmQ Fc Qc v9)) fm19 fa19 fq19 (bkG fg2 (Fc 1 v9)) hbr (by omega) (Nat.or_lt_two_pow hV8 (Nat.pow_lt_pow_right (by decide) hv8)) hJ19 hM19 hZ19 hQ19 hGb (by omega) _ _ hP hD hS _ (lv_sub hl [2, 3, 4, 5, 6, 7, 8, 0] rfl)
                      · have h_31 := h_31
                        refine lv_goto (tgt := 343) hx hb dL_requested_263 (by decide) ?_
                        have hv9e : vic Fc Qc t = 8 := Decidable.byContradiction (fun q => h_31 ((bI_nn (vic_le Fc Qc t)).mpr q))
                        have hbe := brI_e (Or.inr hv9e) hI
                        have haw := ask_y (pl_wait hs hg).2.2
                        have hao := ask_out hJ ht hr h3 h0 hmo hs hg
                        rw [← hF1, ← hQ1e] at haw hao
                        have ea1 : Fc = askF F Q0 t r mo := hbe.1.trans haw.1.symm
                        have ea2 : Qc = askQ F Q0 t r mo := hbe.2.1.trans haw.2.1.symm
                        have ea3 : V = askV F Q0 t r mo := hbe.2.2.trans haw.2.2.symm
                        rw [← hbe.1, ← hbe.2.2] at hao
                        refine lv_bipush (v := (nI 8)) hx hb dL_requested_343 (by decide) ?_
                        refine lv_iload hx hb dL_requested_345 (lv_at hl 8 rfl) ?_
                        refine lv_imul hx hb dL_requested_347 ?_
                        refine tpe (y := (nI (8 * V))) (pk_mul _ _) ?_
                        refine lv_iload hx hb dL_requested_348 (lv_at hl 8 rfl) ?_
                        refine lv_iload hx hb dL_requested_350 (lv_at hl 5 rfl) ?_
                        refine lv_ishr hx hb dL_requested_352 ?_
                        refine lv_iconst (v := (nI 1)) hx hb dL_requested_353 (by decide) ?_
                        refine lv_iand hx hb dL_requested_354 ?_
                        refine tpe (y := (nI (bitN V t))) (tb_I hV31 ht) ?_
                        refine lv_iconst (v := (nI 1)) hx hb dL_requested_355 (by decide) ?_
                        refine lv_icmp_ne (tgt := 363) hx hb dL_requested_356 (by decide) (fun h_32 => ?_) (fun h_32 => ?_)
                        · have h_32 := mt (nI_eq (a := (bitN V t)) (b := 1) (bitN_lt _ _) (by decide)).mpr h_32
                          refine lv_aload_n hx hb dL_requested_363 rfl (lv_at hl 1 rfl) ?_
                          refine lv_bipush (v := (nI 6)) hx hb dL_requested_364 (by decide) ?_
                          refine lv_iload hx hb dL_requested_366 (lv_at hl 5 rfl) ?_
                          refine lv_imul hx hb dL_requested_368 ?_
                          refine tpe (y := (nI (6 * t))) (pk_mul _ _) ?_
                          refine r_ild (k := (6 * t)) hx hb hK hP 1 rfl (by omega) (by decide) dL_requested_369 ?_
                          refine tpe (y := (stI Fc t)) (ZA0 hZ2 (by omega)) ?_
                          refine lv_iconst (v := (nI 2)) hx hb dL_requested_370 (by decide) ?_
                          refine lv_icmp_ne (tgt := 378) hx hb dL_requested_371 (by decide) (fun h_33 => ?_) (fun h_33 => ?_)
                          · have h_33 := h_33
                            refine lv_iconst (v := (nI 1)) hx hb dL_requested_378 (by decide) ?_
                            refine lv_iadd hx hb dL_requested_379 ?_
                            refine tpe (y := (nI (8 * V + 1))) (nI_add _ _) ?_
                            have eo := outN_of (hao.2.2 h_32 h_33) (by decide)
                            exact ret_i (u := (fm2, fa2, fq2, fg2)) hQ hx hb hrt hlk hS dL_requested_380 hP ⟨by rw [← ea1, ← ea3, eo], by rw [← ea1]; exact hM2, by rw [← ea1]; exact hZ2, by rw [← ea2]; exact hQ2, by rw [← ea1]; exact hG2⟩
                          · have h_33 := h_33
                            refine lv_iconst (v := (nI 2)) hx hb dL_requested_374 (by decide) ?_
                            refine lv_goto (tgt := 379) hx hb dL_requested_375 (by decide) ?_
                            refine lv_iadd hx hb dL_requested_379 ?_
                            refine tpe (y := (nI (8 * V + 2))) (nI_add _ _) ?_
                            have eo := outN_of (hao.2.1 h_32 h_33) (by decide)
                            exact ret_i (u := (fm2, fa2, fq2, fg2)) hQ hx hb hrt hlk hS dL_requested_380 hP ⟨by rw [← ea1, ← ea3, eo], by rw [← ea1]; exact hM2, by rw [← ea1]; exact hZ2, by rw [← ea2]; exact hQ2, by rw [← ea1]; exact hG2⟩
                        · have h_32 := (nI_eq (a := (bitN V t)) (b := 1) (bitN_lt _ _) (by decide)).mp h_32
                          refine lv_iconst (v := (nI 3)) hx hb dL_requested_359 (by decide) ?_
                          refine lv_goto (tgt := 379) hx hb dL_requested_360 (by decide) ?_
                          refine lv_iadd hx hb dL_requested_379 ?_
                          refine tpe (y := (nI (8 * V + 3))) (nI_add _ _) ?_
                          have eo := outN_of (hao.1 h_32) (by decide)
                          exact ret_i (u := (fm2, fa2, fq2, fg2)) hQ hx hb hrt hlk hS dL_requested_380 hP ⟨by rw [← ea1, ← ea3, eo], by rw [← ea1]; exact hM2, by rw [← ea1]; exact hZ2, by rw [← ea2]; exact hQ2, by rw [← ea1]; exact hG2⟩
                exact L237 _ 0 0 F1 Q1 fm (wtA fa t r mo) (vp_updL fq r (iQ (lN (qN (Q0 r))) n9 t)) fg brI_0 (by have := nW_le (F := F1) 8; omega) (by decide) hJ1 hM1 hZ1 hQ1 hG1 (Nat.lt_succ_self _) _ _ hP hD hS _ (lv_sub hl [2, 3, 4, 5, 6, 7, 8, 0] rfl)
              · have h_27 := mt (nI_leI (a := ((Q0 r).length)) (b := pl) (by omega) (by omega)).mpr h_27
                have hpl : pl < (Q0 r).length := Nat.not_le.mp h_27
                have hg8 := getD_8 (Q_8 hJ hr) hpl
                refine lv_aload_n hx hb dL_requested_135 rfl (lv_at hl 1 rfl) ?_
                refine lv_aload_n hx hb dL_requested_136 rfl (lv_at hl 2 rfl) ?_
                refine lv_iload hx hb dL_requested_137 (lv_at hl 5 rfl) ?_
                refine r_lld (k := r) hx hb hKL hP 2 rfl (by omega) (by decide) dL_requested_139 ?_
                refine tpl (y := (lN (qN (Q0 r)))) (hQL r (by omega)) ?_
                refine lv_iload hx hb dL_requested_140 (lv_at hl 8 rfl) ?_
                refine call_l (X := [(am, .inl (cI, 10, .inl fm)), (aa, .inl (cI, 48, .inl fa)), (aq, .inl (cL, 10, .inr (.inl fq))), (ag, .inl (cI, 3, .inl fg))]) (Wc := []) (Z := []) (As := [.long (lN (qN (Q0 r))), .int (nI pl)]) (rest := [.ref am]) ⟨hx, hb, hml, hown, hts⟩ (c_L_at l D cI cT cL (Q0 r) pl (Q_8 hJ (show r < 10 by omega)) (JJ_len hJ (show r < 10 by omega)) hpl) (va_cwS 2 hts gL_requested_L_at rfl rfl rfl (by decide +kernel) ⟨Nat.le_of_ble_eq_true rfl, Nat.le_of_ble_eq_true rfl⟩) hKL (P_nilr hP) (D_nilr hD) hS hA (fun _ => rfl) rfl hl.1 rfl (Nat.le_of_ble_eq_true rfl) ⟨by decide, by decide⟩ dL_requested_142 (fun rv uu H locs hp hP hD hS => ?_)
                have hP := P_nil2 hP
                have hD := D_nil2 hD
                obtain rfl := hp
                have hP : va_P D vwCl ([(am, .inl (cI, 10, .inl fm)), (aa, .inl (cI, 48, .inl fa)), (aq, .inl (cL, 10, .inr (.inl fq))), (ag, .inl (cI, 3, .inl fg))]) H := hP
                have hD : va_D A ([(am, .inl (cI, 10, .inl fm)), (aa, .inl (cI, 48, .inl fa)), (aq, .inl (cL, 10, .inr (.inl fq))), (ag, .inl (cI, 3, .inl fg))]) := hD
                refine lv_iload hx hb dL_requested_145 (lv_at hl 5 rfl) ?_
                refine call_l (X := []) (Wc := [(am, .inl (cI, 10, .inl fm))]) (Z := [(aa, .inl (cI, 48, .inl fa)), (aq, .inl (cL, 10, .inr (.inl fq))), (ag, .inl (cI, 3, .inl fg))]) (As := [.ref am, .int (nI ((Q0 r).getD pl 0)), .int (nI r)]) (rest := []) ⟨hx, hb, hml, hown, hts⟩ (c_L_lock l D cI cT cL am fm F Q0 ((Q0 r).getD pl 0) r hg8 (by omega) hJ hM) (va_cwS 3 hts gL_requested_L_lock rfl rfl rfl (by decide +kernel) ⟨Nat.le_of_ble_eq_true rfl, Nat.le_of_ble_eq_true rfl⟩) hKL hP hD hS hA (fun _ => adw1) rfl hl.1 rfl (Nat.le_of_ble_eq_true rfl) ⟨by decide, by decide⟩ dL_requested_147 (fun rv uu H locs hp hP hD hS => ?_)
                obtain rfl := hp
                have hP : va_P D vwCl ([(am, .inl (cI, 10, .inl fm)), (aa, .inl (cI, 48, .inl fa)), (aq, .inl (cL, 10, .inr (.inl fq))), (ag, .inl (cI, 3, .inl fg))]) H := hP
                have hD : va_D A ([(am, .inl (cI, 10, .inl fm)), (aa, .inl (cI, 48, .inl fa)), (aq, .inl (cL, 10, .inr (.inl fq))), (ag, .inl (cI, 3, .inl fg))]) := hD
                refine lv_iconst (v := (nI 1)) hx hb dL_requested_150 (by decide) ?_
                refine lv_icmp_ne (tgt := 160) hx hb dL_requested_151 (by decide) (fun h_34 => ?_) (fun h_34 => ?_)
                · have h_34 := h_34
                  have he9 : pl = insN F Q0 t r := ins_1 hJ hr h_4 hpl9 hb9 (Or.inr h_34)
                  obtain ⟨n9, hn9⟩ : ∃ n, n = insN F Q0 t r := ⟨_, rfl⟩
                  rw [he9, ← hn9] at hl
                  have hnle : n9 ≤ qlen Q0 r := by rw [hn9]; exact insN_le
                  refine lv_aload_n hx hb dL_requested_160 rfl (lv_at hl 2 rfl) ?_
                  refine lv_iload hx hb dL_requested_161 (lv_at hl 5 rfl) ?_
                  refine r_lld (k := r) hx hb hKL hP 2 rfl (by omega) (by decide) dL_requested_163 ?_
                  refine tpl (y := (lN (qN (Q0 r)))) (hQL r (by omega)) ?_
                  refine lv_lconst (v := lN 1) hx hb dL_requested_164 rfl ?_
                  refine lv_iconst (v := (nI 4)) hx hb dL_requested_165 (by decide) ?_
                  refine lv_iload hx hb dL_requested_166 (lv_at hl 8 rfl) ?_
                  refine lv_imul hx hb dL_requested_168 ?_
                  refine tpe (y := (nI (4 * n9))) (pk_mul _ _) ?_
                  refine lv_lshl (v := (lN 1) <<< ((nI (4 * n9)).toInt64 &&& 63)) hx hb dL_requested_169 rfl ?_
                  refine lv_lconst (v := lN 1) hx hb dL_requested_170 rfl ?_
                  refine lv_lsub hx hb dL_requested_171 ?_
                  refine lv_land hx hb dL_requested_172 ?_
                  refine lv_lstore (lv' := [(10, .long ((lN (qN (Q0 r))) &&& (((lN 1) <<< ((nI (4 * n9)).toInt64 &&& 63)) - (lN 1)))), (0, .ref aa), (1, .ref am), (2, .ref aq), (3, .ref ag), (4, .int (nI t)), (5, .int (nI r)), (6, .int mo), (7, .int (lk F t r)), (9, .int (nI n9))]) hx hb dL_requested_173 hl (by decide) rfl (fun ls hl => ?_)
                  refine lv_aload_n hx hb dL_requested_175 rfl (lv_at hl 3 rfl) ?_
                  refine lv_iload hx hb dL_requested_176 (lv_at hl 6 rfl) ?_
                  refine lv_aload_n hx hb dL_requested_178 rfl (lv_at hl 3 rfl) ?_
                  refine lv_iload hx hb dL_requested_179 (lv_at hl 6 rfl) ?_
                  refine r_lld (k := r) hx hb hKL hP 2 rfl (by omega) (by decide) dL_requested_181 ?_
                  refine tpl (y := (lN (qN (Q0 r)))) (hQL r (by omega)) ?_
                  refine lv_iconst (v := (nI 4)) hx hb dL_requested_182 (by decide) ?_
                  refine lv_iload hx hb dL_requested_183 (lv_at hl 9 rfl) ?_
                  refine lv_imul hx hb dL_requested_185 ?_
                  refine tpe (y := (nI (4 * n9))) (pk_mul _ _) ?_
                  refine lv_lshr (v := (lN (qN (Q0 r))) >>> ((nI (4 * n9)).toInt64 &&& 63)) hx hb dL_requested_186 rfl ?_
                  refine lv_iconst (v := (nI 4)) hx hb dL_requested_187 (by decide) ?_
                  refine lv_lshl (v := ((lN (qN (Q0 r))) >>> ((nI (4 * n9)).toInt64 &&& 63)) <<< ((nI 4).toInt64 &&& 63)) hx hb dL_requested_188 rfl ?_
                  refine lv_lconst (v := lN 1) hx hb dL_requested_189 rfl ?_
                  refine lv_iload hx hb dL_requested_190 (lv_at hl 5 rfl) ?_
                  refine lv_i2l (v := (nI t).toInt64) hx hb dL_requested_192 rfl ?_
                  refine lv_ladd hx hb dL_requested_193 ?_
                  refine lv_lor hx hb dL_requested_194 ?_
                  refine lv_iconst (v := (nI 4)) hx hb dL_requested_195 (by decide) ?_
                  refine lv_iload hx hb dL_requested_196 (lv_at hl 9 rfl) ?_
                  refine lv_imul hx hb dL_requested_198 ?_
                  refine tpe (y := (nI (4 * n9))) (pk_mul _ _) ?_
                  refine lv_lshl (v := ((((lN (qN (Q0 r))) >>> ((nI (4 * n9)).toInt64 &&& 63)) <<< ((nI 4).toInt64 &&& 63)) ||| ((lN 1) + ((nI t).toInt64))) <<< ((nI (4 * n9)).toInt64 &&& 63)) hx hb dL_requested_199 rfl ?_
                  refine lv_lload hx hb dL_requested_200 (lv_at hl 0 rfl) ?_
                  refine lv_lor hx hb dL_requested_202 ?_
                  refine r_lst (k := r) hx hb hKL hP hD hS 2 rfl (by omega) (by decide) dL_requested_203 (fun H locs hP hD hS => ?_)
                  have hP : va_P D vwCl ([(am, .inl (cI, 10, .inl fm)), (aa, .inl (cI, 48, .inl fa)), (aq, .inl (cL, 10, .inr (.inl (vp_updL fq r ((((((lN (qN (Q0 r))) >>> ((nI (4 * n9)).toInt64 &&& 63)) <<< ((nI 4).toInt64 &&& 63)) ||| ((lN 1) + ((nI t).toInt64))) <<< ((nI (4 * n9)).toInt64 &&& 63)) ||| ((lN (qN (Q0 r))) &&& (((lN 1) <<< ((nI (4 * n9)).toInt64 &&& 63)) - (lN 1)))))))), (ag, .inl (cI, 3, .inl fg))]) H := hP
                  have hD : va_D A ([(am, .inl (cI, 10, .inl fm)), (aa, .inl (cI, 48, .inl fa)), (aq, .inl (cL, 10, .inr (.inl (vp_updL fq r ((((((lN (qN (Q0 r))) >>> ((nI (4 * n9)).toInt64 &&& 63)) <<< ((nI 4).toInt64 &&& 63)) ||| ((lN 1) + ((nI t).toInt64))) <<< ((nI (4 * n9)).toInt64 &&& 63)) ||| ((lN (qN (Q0 r))) &&& (((lN 1) <<< ((nI (4 * n9)).toInt64 &&& 63)) - (lN 1)))))))), (ag, .inl (cI, 3, .inl fg))]) := hD
                  refine lv_aload_n hx hb dL_requested_204 rfl (lv_at hl 1 rfl) ?_
                  refine lv_bipush (v := (nI 6)) hx hb dL_requested_205 (by decide) ?_
                  refine lv_iload hx hb dL_requested_207 (lv_at hl 5 rfl) ?_
                  refine lv_imul hx hb dL_requested_209 ?_
                  refine tpe (y := (nI (6 * t))) (pk_mul _ _) ?_
                  refine lv_iconst (v := (nI 2)) hx hb dL_requested_210 (by decide) ?_
                  refine r_ist (k := (6 * t)) hx hb hK hP hD hS 1 rfl (by omega) (by decide) dL_requested_211 (fun H locs hP hD hS => ?_)
                  have hP : va_P D vwCl ([(am, .inl (cI, 10, .inl fm)), (aa, .inl (cI, 48, .inl (upd fa (6 * t) (nI 2)))), (aq, .inl (cL, 10, .inr (.inl (vp_updL fq r ((((((lN (qN (Q0 r))) >>> ((nI (4 * n9)).toInt64 &&& 63)) <<< ((nI 4).toInt64 &&& 63)) ||| ((lN 1) + ((nI t).toInt64))) <<< ((nI (4 * n9)).toInt64 &&& 63)) ||| ((lN (qN (Q0 r))) &&& (((lN 1) <<< ((nI (4 * n9)).toInt64 &&& 63)) - (lN 1)))))))), (ag, .inl (cI, 3, .inl fg))]) H := hP
                  have hD : va_D A ([(am, .inl (cI, 10, .inl fm)), (aa, .inl (cI, 48, .inl (upd fa (6 * t) (nI 2)))), (aq, .inl (cL, 10, .inr (.inl (vp_updL fq r ((((((lN (qN (Q0 r))) >>> ((nI (4 * n9)).toInt64 &&& 63)) <<< ((nI 4).toInt64 &&& 63)) ||| ((lN 1) + ((nI t).toInt64))) <<< ((nI (4 * n9)).toInt64 &&& 63)) ||| ((lN (qN (Q0 r))) &&& (((lN 1) <<< ((nI (4 * n9)).toInt64 &&& 63)) - (lN 1)))))))), (ag, .inl (cI, 3, .inl fg))]) := hD
                  refine lv_aload_n hx hb dL_requested_212 rfl (lv_at hl 1 rfl) ?_
                  refine lv_bipush (v := (nI 6)) hx hb dL_requested_213 (by decide) ?_
                  refine lv_iload hx hb dL_requested_215 (lv_at hl 5 rfl) ?_
                  refine lv_imul hx hb dL_requested_217 ?_
                  refine tpe (y := (nI (6 * t))) (pk_mul _ _) ?_
                  refine lv_iconst (v := (nI 4)) hx hb dL_requested_218 (by decide) ?_
                  refine lv_iadd hx hb dL_requested_219 ?_
                  refine tpe (y := (nI (6 * t + 4))) (nI_add _ _) ?_
                  refine lv_iload hx hb dL_requested_220 (lv_at hl 6 rfl) ?_
                  refine r_ist (k := (6 * t + 4)) hx hb hK hP hD hS 1 rfl (by omega) (by decide) dL_requested_222 (fun H locs hP hD hS => ?_)
                  have hP : va_P D vwCl ([(am, .inl (cI, 10, .inl fm)), (aa, .inl (cI, 48, .inl (upd (upd fa (6 * t) (nI 2)) (6 * t + 4) (nI r)))), (aq, .inl (cL, 10, .inr (.inl (vp_updL fq r ((((((lN (qN (Q0 r))) >>> ((nI (4 * n9)).toInt64 &&& 63)) <<< ((nI 4).toInt64 &&& 63)) ||| ((lN 1) + ((nI t).toInt64))) <<< ((nI (4 * n9)).toInt64 &&& 63)) ||| ((lN (qN (Q0 r))) &&& (((lN 1) <<< ((nI (4 * n9)).toInt64 &&& 63)) - (lN 1)))))))), (ag, .inl (cI, 3, .inl fg))]) H := hP
                  have hD : va_D A ([(am, .inl (cI, 10, .inl fm)), (aa, .inl (cI, 48, .inl (upd (upd fa (6 * t) (nI 2)) (6 * t + 4) (nI r)))), (aq, .inl (cL, 10, .inr (.inl (vp_updL fq r ((((((lN (qN (Q0 r))) >>> ((nI (4 * n9)).toInt64 &&& 63)) <<< ((nI 4).toInt64 &&& 63)) ||| ((lN 1) + ((nI t).toInt64))) <<< ((nI (4 * n9)).toInt64 &&& 63)) ||| ((lN (qN (Q0 r))) &&& (((lN 1) <<< ((nI (4 * n9)).toInt64 &&& 63)) - (lN 1)))))))), (ag, .inl (cI, 3, .inl fg))]) := hD
                  refine lv_aload_n hx hb dL_requested_223 rfl (lv_at hl 1 rfl) ?_
                  refine lv_bipush (v := (nI 6)) hx hb dL_requested_224 (by decide) ?_
                  refine lv_iload hx hb dL_requested_226 (lv_at hl 5 rfl) ?_
                  refine lv_imul hx hb dL_requested_228 ?_
                  refine tpe (y := (nI (6 * t))) (pk_mul _ _) ?_
                  refine lv_iconst (v := (nI 5)) hx hb dL_requested_229 (by decide) ?_
                  refine lv_iadd hx hb dL_requested_230 ?_
                  refine tpe (y := (nI (6 * t + 5))) (nI_add _ _) ?_
                  refine lv_iload hx hb dL_requested_231 (lv_at hl 7 rfl) ?_
                  refine r_ist (k := (6 * t + 5)) hx hb hK hP hD hS 1 rfl (by omega) (by decide) dL_requested_233 (fun H locs hP hD hS => ?_)
                  have hP : va_P D vwCl ([(am, .inl (cI, 10, .inl fm)), (aa, .inl (cI, 48, .inl (upd (upd (upd fa (6 * t) (nI 2)) (6 * t + 4) (nI r)) (6 * t + 5) mo))), (aq, .inl (cL, 10, .inr (.inl (vp_updL fq r ((((((lN (qN (Q0 r))) >>> ((nI (4 * n9)).toInt64 &&& 63)) <<< ((nI 4).toInt64 &&& 63)) ||| ((lN 1) + ((nI t).toInt64))) <<< ((nI (4 * n9)).toInt64 &&& 63)) ||| ((lN (qN (Q0 r))) &&& (((lN 1) <<< ((nI (4 * n9)).toInt64 &&& 63)) - (lN 1)))))))), (ag, .inl (cI, 3, .inl fg))]) H := hP
                  have hD : va_D A ([(am, .inl (cI, 10, .inl fm)), (aa, .inl (cI, 48, .inl (upd (upd (upd fa (6 * t) (nI 2)) (6 * t + 4) (nI r)) (6 * t + 5) mo))), (aq, .inl (cL, 10, .inr (.inl (vp_updL fq r ((((((lN (qN (Q0 r))) >>> ((nI (4 * n9)).toInt64 &&& 63)) <<< ((nI 4).toInt64 &&& 63)) ||| ((lN 1) + ((nI t).toInt64))) <<< ((nI (4 * n9)).toInt64 &&& 63)) ||| ((lN (qN (Q0 r))) &&& (((lN 1) <<< ((nI (4 * n9)).toInt64 &&& 63)) - (lN 1)))))))), (ag, .inl (cI, 3, .inl fg))]) := hD
                  have hP : va_P D vwCl ([(am, .inl (cI, 10, .inl fm)), (aa, .inl (cI, 48, .inl (wtA fa t r mo))), (aq, .inl (cL, 10, .inr (.inl (vp_updL fq r (iQ (lN (qN (Q0 r))) n9 t))))), (ag, .inl (cI, 3, .inl fg))]) H := hP
                  have hD : va_D A ([(am, .inl (cI, 10, .inl fm)), (aa, .inl (cI, 48, .inl (wtA fa t r mo))), (aq, .inl (cL, 10, .inr (.inl (vp_updL fq r (iQ (lN (qN (Q0 r))) n9 t))))), (ag, .inl (cI, 3, .inl fg))]) := hD
                  have hpw := pl_wait hs hg
                  obtain ⟨F1, hF1⟩ : ∃ G, G = plF F Q0 t r mo := ⟨_, rfl⟩
                  obtain ⟨Q1, hQ1e⟩ : ∃ G, G = plQ F Q0 t r mo := ⟨_, rfl⟩
                  have e1 : F1 = up (up F 3 t (nI r)) 4 t mo := hF1.trans hpw.1
                  have e2 : Q1 = updQ Q0 r (insQ (Q0 r) n9 t) := by rw [hQ1e, hpw.2.1, hn9]
                  have hJ1 : JJ F1 Q1 := by rw [hF1, hQ1e]; exact JJ_pl hJ ht hr h3 h0 hmo
                  have hM1 : MM F1 fm := MM_cg hM (by rw [e1, up_ne (by decide), up_ne (by decide)])
                  have hZ1 : ZA F1 (wtA fa t r mo) := by rw [e1]; exact ZA_wt hZ ht hr h0
                  have hQ1 : QL Q1 (vp_updL fq r (iQ (lN (qN (Q0 r))) n9 t)) := by rw [e2]; exact QL_ins2 hJ hQL hr ht hnle h8
                  have hG1 : GG F1 fg := GG_cg hG (by rw [e1, up_ne (by decide), up_ne (by decide)])
                  refine lv_iconst (v := (nI 0)) hx hb dL_requested_234 (by decide) ?_
                  refine lv_istore (lv' := [(12, .int (nI 0)), (10, .long ((lN (qN (Q0 r))) &&& (((lN 1) <<< ((nI (4 * n9)).toInt64 &&& 63)) - (lN 1)))), (0, .ref aa), (1, .ref am), (2, .ref aq), (3, .ref ag), (4, .int (nI t)), (5, .int (nI r)), (6, .int mo), (7, .int (lk F t r)), (9, .int (nI n9))]) hx hb dL_requested_235 hl (by decide) rfl (fun ls hl => ?_)
                  have L237 : ∀ (N : Nat) (i : Nat) (V : Nat) (Fc : FF) (Qc : QQ) (fm2 : Nat → Int32) (fa2 : Nat → Int32) (fq2 : Nat → Int64) (fg2 : Nat → Int32), (brI t F1 Q1 i Fc Qc V) → (i + nW Fc 8 ≤ 8) → (V < 2 ^ 8) → (JJ Fc Qc) → (MM Fc fm2) → (ZA Fc fa2) → (QL Qc fq2) → (GG Fc fg2) → (nW Fc 8) < N → ∀ (H : Heap) (locs : List Loc), va_P D vwCl ([(am, .inl (cI, 10, .inl fm2)), (aa, .inl (cI, 48, .inl fa2)), (aq, .inl (cL, 10, .inr (.inl fq2))), (ag, .inl (cI, 3, .inl fg2))]) H → va_D A ([(am, .inl (cI, 10, .inl fm2)), (aa, .inl (cI, 48, .inl fa2)), (aq, .inl (cL, 10, .inr (.inl fq2))), (ag, .inl (cI, 3, .inl fg2))]) → va_S A s.heap H locs → ∀ ls : Array Slot, lv_has ls 14 [(0, .ref aa), (1, .ref am), (2, .ref aq), (3, .ref ag), (4, .int (nI t)), (5, .int (nI r)), (6, .int mo), (12, .int (nI V))] → W p l e rL_requested s m args below meth c H locs 0 0 Q (F0 m 237 ls []) := by
                    intro N237
                    induction N237 with
                    | zero => intro i V Fc Qc fm2 fa2 fq2 fg2 hI hc hV8 hJc hM2 hZ2 hQ2 hG2 hN; exact absurd hN (Nat.not_lt_zero _)
                    | succ N237 ih237 =>
                      intro i V Fc Qc fm2 fa2 fq2 fg2 hI hc hV8 hJc hM2 hZ2 hQ2 hG2 hN H locs hP hD hS ls hl
                      have hV31 : V < 2 ^ 31 := by omega
                      refine lv_aload_n hx hb dL_requested_237 rfl (lv_at hl 0 rfl) ?_
                      refine lv_bipush (v := (nI 6)) hx hb dL_requested_238 (by decide) ?_
                      refine lv_iload hx hb dL_requested_240 (lv_at hl 4 rfl) ?_
                      refine lv_imul hx hb dL_requested_242 ?_
                      refine tpe (y := (nI (6 * t))) (pk_mul _ _) ?_
                      refine r_ild (k := (6 * t)) hx hb hK hP 1 rfl (by omega) (by decide) dL_requested_243 ?_
                      refine tpe (y := (stI Fc t)) (ZA0 hZ2 (by omega)) ?_
                      refine lv_iconst (v := (nI 2)) hx hb dL_requested_244 (by decide) ?_
                      refine lv_icmp_ne (tgt := 343) hx hb dL_requested_245 (by decide) (fun h_35 => ?_) (fun h_35 => ?_)
                      · have h_35 := h_35
                        have hv9e : vic Fc Qc t = 8 := vic_n (SR_none hJc ht (Decidable.byContradiction (fun q => h_35 ((st_w hJc ht).mpr q))))
                        have hbe := brI_e (Or.inr hv9e) hI
                        have haw := ask_y (pl_wait hs hg).2.2
                        have hao := ask_out hJ ht hr h3 h0 hmo hs hg
                        rw [← hF1, ← hQ1e] at haw hao
                        have ea1 : Fc = askF F Q0 t r mo := hbe.1.trans haw.1.symm
                        have ea2 : Qc = askQ F Q0 t r mo := hbe.2.1.trans haw.2.1.symm
                        have ea3 : V = askV F Q0 t r mo := hbe.2.2.trans haw.2.2.symm
                        rw [← hbe.1, ← hbe.2.2] at hao
                        refine lv_bipush (v := (nI 8)) hx hb dL_requested_343 (by decide) ?_
                        refine lv_iload hx hb dL_requested_345 (lv_at hl 7 rfl) ?_
                        refine lv_imul hx hb dL_requested_347 ?_
                        refine tpe (y := (nI (8 * V))) (pk_mul _ _) ?_
                        refine lv_iload hx hb dL_requested_348 (lv_at hl 7 rfl) ?_
                        refine lv_iload hx hb dL_requested_350 (lv_at hl 4 rfl) ?_
                        refine lv_ishr hx hb dL_requested_352 ?_
                        refine lv_iconst (v := (nI 1)) hx hb dL_requested_353 (by decide) ?_
                        refine lv_iand hx hb dL_requested_354 ?_
                        refine tpe (y := (nI (bitN V t))) (tb_I hV31 ht) ?_
                        refine lv_iconst (v := (nI 1)) hx hb dL_requested_355 (by decide) ?_
                        refine lv_icmp_ne (tgt := 363) hx hb dL_requested_356 (by decide) (fun h_36 => ?_) (fun h_36 => ?_)
                        · have h_36 := mt (nI_eq (a := (bitN V t)) (b := 1) (bitN_lt _ _) (by decide)).mpr h_36
                          refine lv_aload_n hx hb dL_requested_363 rfl (lv_at hl 0 rfl) ?_
                          refine lv_bipush (v := (nI 6)) hx hb dL_requested_364 (by decide) ?_
                          refine lv_iload hx hb dL_requested_366 (lv_at hl 4 rfl) ?_
                          refine lv_imul hx hb dL_requested_368 ?_
                          refine tpe (y := (nI (6 * t))) (pk_mul _ _) ?_
                          refine r_ild (k := (6 * t)) hx hb hK hP 1 rfl (by omega) (by decide) dL_requested_369 ?_
                          refine tpe (y := (stI Fc t)) (ZA0 hZ2 (by omega)) ?_
                          refine lv_iconst (v := (nI 2)) hx hb dL_requested_370 (by decide) ?_
                          refine lv_icmp_ne (tgt := 378) hx hb dL_requested_371 (by decide) (fun h_37 => ?_) (fun h_37 => ?_)
                          · have h_37 := h_37
                            refine lv_iconst (v := (nI 1)) hx hb dL_requested_378 (by decide) ?_
                            refine lv_iadd hx hb dL_requested_379 ?_
                            refine tpe (y := (nI (8 * V + 1))) (nI_add _ _) ?_
                            have eo := outN_of (hao.2.2 h_36 h_37) (by decide)
                            exact ret_i (u := (fm2, fa2, fq2, fg2)) hQ hx hb hrt hlk hS dL_requested_380 hP ⟨by rw [← ea1, ← ea3, eo], by rw [← ea1]; exact hM2, by rw [← ea1]; exact hZ2, by rw [← ea2]; exact hQ2, by rw [← ea1]; exact hG2⟩
                          · have h_37 := h_37
                            refine lv_iconst (v := (nI 2)) hx hb dL_requested_374 (by decide) ?_
                            refine lv_goto (tgt := 379) hx hb dL_requested_375 (by decide) ?_
                            refine lv_iadd hx hb dL_requested_379 ?_
                            refine tpe (y := (nI (8 * V + 2))) (nI_add _ _) ?_
                            have eo := outN_of (hao.2.1 h_36 h_37) (by decide)
                            exact ret_i (u := (fm2, fa2, fq2, fg2)) hQ hx hb hrt hlk hS dL_requested_380 hP ⟨by rw [← ea1, ← ea3, eo], by rw [← ea1]; exact hM2, by rw [← ea1]; exact hZ2, by rw [← ea2]; exact hQ2, by rw [← ea1]; exact hG2⟩
                        · have h_36 := (nI_eq (a := (bitN V t)) (b := 1) (bitN_lt _ _) (by decide)).mp h_36
                          refine lv_iconst (v := (nI 3)) hx hb dL_requested_359 (by decide) ?_
                          refine lv_goto (tgt := 379) hx hb dL_requested_360 (by decide) ?_
                          refine lv_iadd hx hb dL_requested_379 ?_
                          refine tpe (y := (nI (8 * V + 3))) (nI_add _ _) ?_
                          have eo := outN_of (hao.1 h_36) (by decide)
                          exact ret_i (u := (fm2, fa2, fq2, fg2)) hQ hx hb hrt hlk hS dL_requested_380 hP ⟨by rw [← ea1, ← ea3, eo], by rw [← ea1]; exact hM2, by rw [← ea1]; exact hZ2, by rw [← ea2]; exact hQ2, by rw [← ea1]; exact hG2⟩
                      · have h_35 := h_35
                        refine lv_aload_n hx hb dL_requested_248 rfl (lv_at hl 0 rfl) ?_
                        refine lv_aload_n hx hb dL_requested_249 rfl (lv_at hl 1 rfl) ?_
                        refine lv_aload_n hx hb dL_requested_250 rfl (lv_at hl 2 rfl) ?_
                        refine lv_iload hx hb dL_requested_251 (lv_at hl 4 rfl) ?_
                        refine call_l (X := []) (Wc := [(am, .inl (cI, 10, .inl fm2)), (aa, .inl (cI, 48, .inl fa2)), (aq, .inl (cL, 10, .inr (.inl fq2)))]) (Z := [(ag, .inl (cI, 3, .inl fg2))]) (As := [.ref aa, .ref am, .ref aq, .int (nI t)]) (rest := []) ⟨hx, hb, hml, hown, hts⟩ (c_L_victim l D cI cT cL am aa aq fm2 fa2 fq2 Fc Qc t (by omega) hJc hM2 hZ2 hQ2) (va_cwS 4 hts gL_requested_L_victim rfl rfl rfl (by decide +kernel) ⟨Nat.le_of_ble_eq_true rfl, Nat.le_of_ble_eq_true rfl⟩) hKL hP hD hS hA (fun _ => adw3) rfl hl.1 rfl (Nat.le_of_ble_eq_true rfl) ⟨by decide, by decide⟩ dL_requested_253 (fun rv uu H locs hp hP hD hS => ?_)
                        obtain rfl := hp
                        have hP : va_P D vwCl ([(am, .inl (cI, 10, .inl fm2)), (aa, .inl (cI, 48, .inl fa2)), (aq, .inl (cL, 10, .inr (.inl fq2))), (ag, .inl (cI, 3, .inl fg2))]) H := hP
                        have hD : va_D A ([(am, .inl (cI, 10, .inl fm2)), (aa, .inl (cI, 48, .inl fa2)), (aq, .inl (cL, 10, .inr (.inl fq2))), (ag, .inl (cI, 3, .inl fg2))]) := hD
                        refine lv_istore (lv' := [(13, .int (bI (vic Fc Qc t))), (0, .ref aa), (1, .ref am), (2, .ref aq), (3, .ref ag), (4, .int (nI t)), (5, .int (nI r)), (6, .int mo), (12, .int (nI V))]) hx hb dL_requested_256 hl (by decide) rfl (fun ls hl => ?_)
                        refine lv_iload hx hb dL_requested_258 (lv_at hl 0 rfl) ?_
                        refine lv_if_ge (tgt := 266) hx hb dL_requested_260 (by decide) (fun h_38 => ?_) (fun h_38 => ?_)
                        · have h_38 := h_38
                          have hvn := (bI_nn (vic_le Fc Qc t)).mp h_38
                          rw [bI_some hvn] at hl
                          have hvy := vic_y hJc ht (fun q => hvn (vic_n q))
                          have hnb := nW_br hJc hvy.1 hvy.2
                          have hbs : i < 8 := by omega
                          have hbr := brI_s hbs hvn hI
                          obtain ⟨v9, hv9⟩ : ∃ v, v = vic Fc Qc t := ⟨_, rfl⟩
                          rw [← hv9] at hl hvn hvy hnb hbr
                          have hv8 := hvy.1
                          refine lv_iload hx hb dL_requested_266 (lv_at hl 8 rfl) ?_
                          refine lv_iconst (v := (nI 1)) hx hb dL_requested_268 (by decide) ?_
                          refine lv_iload hx hb dL_requested_269 (lv_at hl 0 rfl) ?_
                          refine lv_ishl hx hb dL_requested_271 ?_
                          refine lv_ior hx hb dL_requested_272 ?_
                          refine tpe (y := (nI (V ||| 2 ^ v9))) (or_sh hv8) ?_
                          refine lv_istore (lv' := [(12, .int (nI (V ||| 2 ^ v9))), (13, .int (nI v9)), (0, .ref aa), (1, .ref am), (2, .ref aq), (3, .ref ag), (4, .int (nI t)), (5, .int (nI r)), (6, .int mo)]) hx hb dL_requested_273 hl (by decide) rfl (fun ls hl => ?_)
                          refine lv_aload_n hx hb dL_requested_275 rfl (lv_at hl 5 rfl) ?_
                          refine lv_iconst (v := (nI 1)) hx hb dL_requested_276 (by decide) ?_
                          refine lv_dup2_11 hx hb dL_requested_277 rfl rfl ?_
                          refine r_ild (k := 1) hx hb hK hP 3 rfl (by omega) (by decide) dL_requested_278 ?_
                          refine lv_iconst (v := (nI 1)) hx hb dL_requested_279 (by decide) ?_
                          refine lv_iadd hx hb dL_requested_280 ?_
                          refine r_ist (k := 1) hx hb hK hP hD hS 3 rfl (by omega) (by decide) dL_requested_281 (fun H locs hP hD hS => ?_)
                          have hP : va_P D vwCl ([(am, .inl (cI, 10, .inl fm2)), (aa, .inl (cI, 48, .inl fa2)), (aq, .inl (cL, 10, .inr (.inl fq2))), (ag, .inl (cI, 3, .inl (upd fg2 1 ((fg2 1) + (nI 1)))))]) H := hP
                          have hD : va_D A ([(am, .inl (cI, 10, .inl fm2)), (aa, .inl (cI, 48, .inl fa2)), (aq, .inl (cL, 10, .inr (.inl fq2))), (ag, .inl (cI, 3, .inl (upd fg2 1 ((fg2 1) + (nI 1)))))]) := hD
                          refine lv_aload_n hx hb dL_requested_282 rfl (lv_at hl 5 rfl) ?_
                          refine lv_iconst (v := (nI 2)) hx hb dL_requested_283 (by decide) ?_
                          refine lv_dup2_11 hx hb dL_requested_284 rfl rfl ?_
                          refine r_ild (k := 2) hx hb hK hP 3 rfl (by omega) (by decide) dL_requested_285 ?_
                          refine lv_aload_n hx hb dL_requested_286 rfl (lv_at hl 2 rfl) ?_
                          refine lv_bipush (v := (nI 6)) hx hb dL_requested_287 (by decide) ?_
                          refine lv_iload hx hb dL_requested_289 (lv_at hl 1 rfl) ?_
                          refine lv_imul hx hb dL_requested_291 ?_
                          refine tpe (y := (nI (6 * v9))) (pk_mul _ _) ?_
                          refine lv_iconst (v := (nI 1)) hx hb dL_requested_292 (by decide) ?_
                          refine lv_iadd hx hb dL_requested_293 ?_
                          refine tpe (y := (nI (6 * v9 + 1))) (nI_add _ _) ?_
                          refine r_ild (k := (6 * v9 + 1)) hx hb hK hP 1 rfl (by omega) (by decide) dL_requested_294 ?_
                          refine tpe (y := (Fc 1 v9)) (ZA1 hZ2 (by omega)) ?_
                          refine lv_iadd hx hb dL_requested_295 ?_
                          refine r_ist (k := 2) hx hb hK hP hD hS 3 rfl (by omega) (by decide) dL_requested_296 (fun H locs hP hD hS => ?_)
                          have hP : va_P D vwCl ([(am, .inl (cI, 10, .inl fm2)), (aa, .inl (cI, 48, .inl fa2)), (aq, .inl (cL, 10, .inr (.inl fq2))), (ag, .inl (cI, 3, .inl (upd (upd fg2 1 ((fg2 1) + (nI 1))) 2 (((upd fg2 1 ((fg2 1) + (nI 1))) 2) + (Fc 1 v9)))))]) H := hP
                          have hD : va_D A ([(am, .inl (cI, 10, .inl fm2)), (aa, .inl (cI, 48, .inl fa2)), (aq, .inl (cL, 10, .inr (.inl fq2))), (ag, .inl (cI, 3, .inl (upd (upd fg2 1 ((fg2 1) + (nI 1))) 2 (((upd fg2 1 ((fg2 1) + (nI 1))) 2) + (Fc 1 v9)))))]) := hD
                          have hP : va_P D vwCl ([(am, .inl (cI, 10, .inl fm2)), (aa, .inl (cI, 48, .inl fa2)), (aq, .inl (cL, 10, .inr (.inl fq2))), (ag, .inl (cI, 3, .inl (bkG fg2 (Fc 1 v9))))]) H := hP
                          have hD : va_D A ([(am, .inl (cI, 10, .inl fm2)), (aa, .inl (cI, 48, .inl fa2)), (aq, .inl (cL, 10, .inr (.inl fq2))), (ag, .inl (cI, 3, .inl (bkG fg2 (Fc 1 v9))))]) := hD
                          refine lv_aload_n hx hb dL_requested_297 rfl (lv_at hl 2 rfl) ?_
                          refine lv_aload_n hx hb dL_requested_298 rfl (lv_at hl 4 rfl) ?_
                          refine lv_iload hx hb dL_requested_299 (lv_at hl 1 rfl) ?_
                          refine call_lv (X := [(am, .inl (cI, 10, .inl fm2))]) (Wc := [(aa, .inl (cI, 48, .inl fa2)), (aq, .inl (cL, 10, .inr (.inl fq2)))]) (Z := [(ag, .inl (cI, 3, .inl (bkG fg2 (Fc 1 v9))))]) (As := [.ref aa, .ref aq, .int (nI v9)]) (rest := []) ⟨hx, hb, hml, hown, hts⟩ (c_L_remove l D cI cT cL aa aq fa2 fq2 Fc Qc v9 (by omega) hvy.2 hJc hZ2 hQ2) (va_cwS 3 hts gL_requested_L_remove rfl rfl rfl (by decide +kernel) ⟨Nat.le_of_ble_eq_true rfl, Nat.le_of_ble_eq_true rfl⟩) hKL hP hD hS hA (fun _ => adw2) rfl hl.1 rfl (Nat.le_of_ble_eq_true rfl) ⟨by decide, by decide⟩ dL_requested_301 (fun uu H locs hp hP hD hS => ?_)
                          obtain ⟨fa20, fq20⟩ := uu
                          obtain ⟨hZ20, hQ20⟩ := hp
                          dsimp only at hZ20 hQ20
                          have hJ20 := JJ_rm hJc (show v9 < 8 by omega)
                          have hMr20 := MM_cg (F' := rmF Fc v9) hM2 (rmF_ne (by decide))
                          have hP : va_P D vwCl ([(am, .inl (cI, 10, .inl fm2)), (aa, .inl (cI, 48, .inl fa20)), (aq, .inl (cL, 10, .inr (.inl fq20))), (ag, .inl (cI, 3, .inl (bkG fg2 (Fc 1 v9))))]) H := hP
                          have hD : va_D A ([(am, .inl (cI, 10, .inl fm2)), (aa, .inl (cI, 48, .inl fa20)), (aq, .inl (cL, 10, .inr (.inl fq20))), (ag, .inl (cI, 3, .inl (bkG fg2 (Fc 1 v9))))]) := hD
                          refine lv_aload_n hx hb dL_requested_304 rfl (lv_at hl 3 rfl) ?_
                          refine lv_iload hx hb dL_requested_305 (lv_at hl 1 rfl) ?_
                          refine call_lv (X := []) (Wc := [(am, .inl (cI, 10, .inl fm2))]) (Z := [(aa, .inl (cI, 48, .inl fa20)), (aq, .inl (cL, 10, .inr (.inl fq20))), (ag, .inl (cI, 3, .inl (bkG fg2 (Fc 1 v9))))]) (As := [.ref am, .int (nI v9)]) (rest := []) ⟨hx, hb, hml, hown, hts⟩ (c_L_release l D cI cT cL am fm2 (rmF Fc v9) v9 (by omega) hMr20) (va_cwS 2 hts gL_requested_L_release rfl rfl rfl (by decide +kernel) ⟨Nat.le_of_ble_eq_true rfl, Nat.le_of_ble_eq_true rfl⟩) hKL hP hD hS hA (fun _ => adw1) rfl hl.1 rfl (Nat.le_of_ble_eq_true rfl) ⟨by decide, by decide⟩ dL_requested_307 (fun uu H locs hp hP hD hS => ?_)
                          obtain ⟨fm21, efm21⟩ : ∃ f, f = uu := ⟨_, rfl⟩
                          rw [← efm21] at hP hD hp
                          have hM21 := hp
                          have hZr21 := ZA_rel (t := v9) hZ20
                          have hP : va_P D vwCl ([(am, .inl (cI, 10, .inl fm21)), (aa, .inl (cI, 48, .inl fa20)), (aq, .inl (cL, 10, .inr (.inl fq20))), (ag, .inl (cI, 3, .inl (bkG fg2 (Fc 1 v9))))]) H := hP
                          have hD : va_D A ([(am, .inl (cI, 10, .inl fm21)), (aa, .inl (cI, 48, .inl fa20)), (aq, .inl (cL, 10, .inr (.inl fq20))), (ag, .inl (cI, 3, .inl (bkG fg2 (Fc 1 v9))))]) := hD
                          refine lv_aload_n hx hb dL_requested_310 rfl (lv_at hl 2 rfl) ?_
                          refine lv_bipush (v := (nI 6)) hx hb dL_requested_311 (by decide) ?_
                          refine lv_iload hx hb dL_requested_313 (lv_at hl 1 rfl) ?_
                          refine lv_imul hx hb dL_requested_315 ?_
                          refine tpe (y := (nI (6 * v9))) (pk_mul _ _) ?_
                          refine lv_iconst (v := (nI 1)) hx hb dL_requested_316 (by decide) ?_
                          refine lv_iadd hx hb dL_requested_317 ?_
                          refine tpe (y := (nI (6 * v9 + 1))) (nI_add _ _) ?_
                          refine lv_iconst (v := (nI 0)) hx hb dL_requested_318 (by decide) ?_
                          refine r_ist (k := (6 * v9 + 1)) hx hb hK hP hD hS 1 rfl (by omega) (by decide) dL_requested_319 (fun H locs hP hD hS => ?_)
                          have hP : va_P D vwCl ([(am, .inl (cI, 10, .inl fm21)), (aa, .inl (cI, 48, .inl (upd fa20 (6 * v9 + 1) (nI 0)))), (aq, .inl (cL, 10, .inr (.inl fq20))), (ag, .inl (cI, 3, .inl (bkG fg2 (Fc 1 v9))))]) H := hP
                          have hD : va_D A ([(am, .inl (cI, 10, .inl fm21)), (aa, .inl (cI, 48, .inl (upd fa20 (6 * v9 + 1) (nI 0)))), (aq, .inl (cL, 10, .inr (.inl fq20))), (ag, .inl (cI, 3, .inl (bkG fg2 (Fc 1 v9))))]) := hD
                          refine lv_aload_n hx hb dL_requested_320 rfl (lv_at hl 2 rfl) ?_
                          refine lv_bipush (v := (nI 6)) hx hb dL_requested_321 (by decide) ?_
                          refine lv_iload hx hb dL_requested_323 (lv_at hl 1 rfl) ?_
                          refine lv_imul hx hb dL_requested_325 ?_
                          refine tpe (y := (nI (6 * v9))) (pk_mul _ _) ?_
                          refine lv_iconst (v := (nI 2)) hx hb dL_requested_326 (by decide) ?_
                          refine lv_iadd hx hb dL_requested_327 ?_
                          refine tpe (y := (nI (6 * v9 + 2))) (nI_add _ _) ?_
                          refine lv_dup2_11 hx hb dL_requested_328 rfl rfl ?_
                          refine r_ild (k := (6 * v9 + 2)) hx hb hK hP 1 rfl (by omega) (by decide) dL_requested_329 ?_
                          refine lv_iconst (v := (nI 1)) hx hb dL_requested_330 (by decide) ?_
                          refine lv_iadd hx hb dL_requested_331 ?_
                          refine r_ist (k := (6 * v9 + 2)) hx hb hK hP hD hS 1 rfl (by omega) (by decide) dL_requested_332 (fun H locs hP hD hS => ?_)
                          have hP : va_P D vwCl ([(am, .inl (cI, 10, .inl fm21)), (aa, .inl (cI, 48, .inl (upd (upd fa20 (6 * v9 + 1) (nI 0)) (6 * v9 + 2) (((upd fa20 (6 * v9 + 1) (nI 0)) (6 * v9 + 2)) + (nI 1))))), (aq, .inl (cL, 10, .inr (.inl fq20))), (ag, .inl (cI, 3, .inl (bkG fg2 (Fc 1 v9))))]) H := hP
                          have hD : va_D A ([(am, .inl (cI, 10, .inl fm21)), (aa, .inl (cI, 48, .inl (upd (upd fa20 (6 * v9 + 1) (nI 0)) (6 * v9 + 2) (((upd fa20 (6 * v9 + 1) (nI 0)) (6 * v9 + 2)) + (nI 1))))), (aq, .inl (cL, 10, .inr (.inl fq20))), (ag, .inl (cI, 3, .inl (bkG fg2 (Fc 1 v9))))]) := hD
                          have hP : va_P D vwCl ([(am, .inl (cI, 10, .inl fm21)), (aa, .inl (cI, 48, .inl (abA fa20 v9))), (aq, .inl (cL, 10, .inr (.inl fq20))), (ag, .inl (cI, 3, .inl (bkG fg2 (Fc 1 v9))))]) H := hP
                          have hD : va_D A ([(am, .inl (cI, 10, .inl fm21)), (aa, .inl (cI, 48, .inl (abA fa20 v9))), (aq, .inl (cL, 10, .inr (.inl fq20))), (ag, .inl (cI, 3, .inl (bkG fg2 (Fc 1 v9))))]) := hD
                          have hMb := MM_ab hM21
                          have hZb := ZA_ab hZr21 hv8
                          have hJb := JJ_ab hJc hv8
                          have hGb := GG_srv hJb (GG_bk (v := v9) hG2)
                          refine lv_aload_n hx hb dL_requested_333 rfl (lv_at hl 2 rfl) ?_
                          refine lv_aload_n hx hb dL_requested_334 rfl (lv_at hl 3 rfl) ?_
                          refine lv_aload_n hx hb dL_requested_335 rfl (lv_at hl 4 rfl) ?_
                          refine call_l (X := []) (Wc := [(am, .inl (cI, 10, .inl fm21)), (aa, .inl (cI, 48, .inl (abA fa20 v9))), (aq, .inl (cL, 10, .inr (.inl fq20)))]) (Z := [(ag, .inl (cI, 3, .inl (bkG fg2 (Fc 1 v9))))]) (As := [.ref aa, .ref am, .ref aq]) (rest := []) ⟨hx, hb, hml, hown, hts⟩ (c_L_serve l D cI cT cL am aa aq fm21 (abA fa20 v9) fq20 (abF Fc v9) (rmQ Fc Qc v9) hJb hMb hZb hQ20) (va_cwS 3 hts gL_requested_L_serve rfl rfl rfl (by decide +kernel) ⟨Nat.le_of_ble_eq_true rfl, Nat.le_of_ble_eq_true rfl⟩) hKL hP hD hS hA (fun _ => adw3) rfl hl.1 rfl (Nat.le_of_ble_eq_true rfl) ⟨by decide, by decide⟩ dL_requested_336 (fun rv uu H locs hp hP hD hS => ?_)
                          obtain ⟨fm22, fa22, fq22⟩ := uu
                          obtain ⟨rfl, hM22, hZ22, hQ22⟩ := hp
                          dsimp only at hM22 hZ22 hQ22
                          have hJ22 := JJ_srv hJb
                          have hP : va_P D vwCl ([(am, .inl (cI, 10, .inl fm22)), (aa, .inl (cI, 48, .inl fa22)), (aq, .inl (cL, 10, .inr (.inl fq22))), (ag, .inl (cI, 3, .inl (bkG fg2 (Fc 1 v9))))]) H := hP
                          have hD : va_D A ([(am, .inl (cI, 10, .inl fm22)), (aa, .inl (cI, 48, .inl fa22)), (aq, .inl (cL, 10, .inr (.inl fq22))), (ag, .inl (cI, 3, .inl (bkG fg2 (Fc 1 v9))))]) := hD
                          refine lv_pop hx hb dL_requested_339 rfl ?_
                          refine lv_goto (tgt := 237) hx hb dL_requested_340 (by decide) ?_
                          exact ih237 (i + 1) (V ||| 2 ^ v9) (srvF (abF Fc v9) (rmQ Fc Qc v9)) (srvQ (abF Fc v9) (rmQ Fc Qc v9)) fm22 fa22 fq22 (bkG fg2 (Fc 1 v9)) hbr (by omega) (Nat.or_lt_two_pow hV8 (Nat.pow_lt_pow_right (by decide) hv8)) hJ22 hM22 hZ22 hQ22 hGb (by omega) _ _ hP hD hS _ (lv_sub hl [2, 3, 4, 5, 6, 7, 8, 0] rfl)
                        · have h_38 := h_38
                          refine lv_goto (tgt := 343) hx hb dL_requested_263 (by decide) ?_
                          have hv9e : vic Fc Qc t = 8 := Decidable.byContradiction (fun q => h_38 ((bI_nn (vic_le Fc Qc t)).mpr q))
                          have hbe := brI_e (Or.inr hv9e) hI
                          have haw := ask_y (pl_wait hs hg).2.2
                          have hao := ask_out hJ ht hr h3 h0 hmo hs hg
                          rw [← hF1, ← hQ1e] at haw hao
                          have ea1 : Fc = askF F Q0 t r mo := hbe.1.trans haw.1.symm
                          have ea2 : Qc = askQ F Q0 t r mo := hbe.2.1.trans haw.2.1.symm
                          have ea3 : V = askV F Q0 t r mo := hbe.2.2.trans haw.2.2.symm
                          rw [← hbe.1, ← hbe.2.2] at hao
                          refine lv_bipush (v := (nI 8)) hx hb dL_requested_343 (by decide) ?_
                          refine lv_iload hx hb dL_requested_345 (lv_at hl 8 rfl) ?_
                          refine lv_imul hx hb dL_requested_347 ?_
                          refine tpe (y := (nI (8 * V))) (pk_mul _ _) ?_
                          refine lv_iload hx hb dL_requested_348 (lv_at hl 8 rfl) ?_
                          refine lv_iload hx hb dL_requested_350 (lv_at hl 5 rfl) ?_
                          refine lv_ishr hx hb dL_requested_352 ?_
                          refine lv_iconst (v := (nI 1)) hx hb dL_requested_353 (by decide) ?_
                          refine lv_iand hx hb dL_requested_354 ?_
                          refine tpe (y := (nI (bitN V t))) (tb_I hV31 ht) ?_
                          refine lv_iconst (v := (nI 1)) hx hb dL_requested_355 (by decide) ?_
                          refine lv_icmp_ne (tgt := 363) hx hb dL_requested_356 (by decide) (fun h_39 => ?_) (fun h_39 => ?_)
                          · have h_39 := mt (nI_eq (a := (bitN V t)) (b := 1) (bitN_lt _ _) (by decide)).mpr h_39
                            refine lv_aload_n hx hb dL_requested_363 rfl (lv_at hl 1 rfl) ?_
                            refine lv_bipush (v := (nI 6)) hx hb dL_requested_364 (by decide) ?_
                            refine lv_iload hx hb dL_requested_366 (lv_at hl 5 rfl) ?_
                            refine lv_imul hx hb dL_requested_368 ?_
                            refine tpe (y := (nI (6 * t))) (pk_mul _ _) ?_
                            refine r_ild (k := (6 * t)) hx hb hK hP 1 rfl (by omega) (by decide) dL_requested_369 ?_
                            refine tpe (y := (stI Fc t)) (ZA0 hZ2 (by omega)) ?_
                            refine lv_iconst (v := (nI 2)) hx hb dL_requested_370 (by decide) ?_
                            refine lv_icmp_ne (tgt := 378) hx hb dL_requested_371 (by decide) (fun h_40 => ?_) (fun h_40 => ?_)
                            · have h_40 := h_40
                              refine lv_iconst (v := (nI 1)) hx hb dL_requested_378 (by decide) ?_
                              refine lv_iadd hx hb dL_requested_379 ?_
                              refine tpe (y := (nI (8 * V + 1))) (nI_add _ _) ?_
                              have eo := outN_of (hao.2.2 h_39 h_40) (by decide)
                              exact ret_i (u := (fm2, fa2, fq2, fg2)) hQ hx hb hrt hlk hS dL_requested_380 hP ⟨by rw [← ea1, ← ea3, eo], by rw [← ea1]; exact hM2, by rw [← ea1]; exact hZ2, by rw [← ea2]; exact hQ2, by rw [← ea1]; exact hG2⟩
                            · have h_40 := h_40
                              refine lv_iconst (v := (nI 2)) hx hb dL_requested_374 (by decide) ?_
                              refine lv_goto (tgt := 379) hx hb dL_requested_375 (by decide) ?_
                              refine lv_iadd hx hb dL_requested_379 ?_
                              refine tpe (y := (nI (8 * V + 2))) (nI_add _ _) ?_
                              have eo := outN_of (hao.2.1 h_39 h_40) (by decide)
                              exact ret_i (u := (fm2, fa2, fq2, fg2)) hQ hx hb hrt hlk hS dL_requested_380 hP ⟨by rw [← ea1, ← ea3, eo], by rw [← ea1]; exact hM2, by rw [← ea1]; exact hZ2, by rw [← ea2]; exact hQ2, by rw [← ea1]; exact hG2⟩
                          · have h_39 := (nI_eq (a := (bitN V t)) (b := 1) (bitN_lt _ _) (by decide)).mp h_39
                            refine lv_iconst (v := (nI 3)) hx hb dL_requested_359 (by decide) ?_
                            refine lv_goto (tgt := 379) hx hb dL_requested_360 (by decide) ?_
                            refine lv_iadd hx hb dL_requested_379 ?_
                            refine tpe (y := (nI (8 * V + 3))) (nI_add _ _) ?_
                            have eo := outN_of (hao.1 h_39) (by decide)
                            exact ret_i (u := (fm2, fa2, fq2, fg2)) hQ hx hb hrt hlk hS dL_requested_380 hP ⟨by rw [← ea1, ← ea3, eo], by rw [← ea1]; exact hM2, by rw [← ea1]; exact hZ2, by rw [← ea2]; exact hQ2, by rw [← ea1]; exact hG2⟩
                  exact L237 _ 0 0 F1 Q1 fm (wtA fa t r mo) (vp_updL fq r (iQ (lN (qN (Q0 r))) n9 t)) fg brI_0 (by have := nW_le (F := F1) 8; omega) (by decide) hJ1 hM1 hZ1 hQ1 hG1 (Nat.lt_succ_self _) _ _ hP hD hS _ (lv_sub hl [2, 3, 4, 5, 6, 7, 8, 0] rfl)
                · have h_34 := h_34
                  refine lv_iinc (v := (nI (pl + 1))) (lv' := [(9, .int (nI (pl + 1))), (0, .ref aa), (1, .ref am), (2, .ref aq), (3, .ref ag), (4, .int (nI t)), (5, .int (nI r)), (6, .int mo), (7, .int (lk F t r))]) hx hb dL_requested_154 hl (k := 8) rfl (nI_add _ 1) (by decide) rfl (fun ls hl => ?_)
                  refine lv_goto (tgt := 117) hx hb dL_requested_157 (by decide) ?_
                  exact ih117 (pl + 1) (Nat.succ_le_of_lt hpl) (fun j hj => if e : j = pl then by rw [e]; exact h_34 else hb9 j (by omega)) (by omega) _ _ hP hD hS _ (lv_sub hl [1, 2, 3, 4, 5, 6, 7, 8, 0] rfl)
          exact L117 _ 0 (Nat.zero_le _) (fun j hj => absurd hj (Nat.not_lt_zero _)) (Nat.lt_succ_self _) _ _ hP hD hS _ (lv_sub hl [3, 4, 5, 6, 7, 8, 9, 2, 0] rfl)
      · have h_3 := h_3
        refine lv_iconst (v := (nI 1)) hx hb dL_requested_41 (by decide) ?_
        refine lv_goto (tgt := 46) hx hb dL_requested_42 (by decide) ?_
        refine lv_istore (lv' := [(8, .int (nI 1)), (7, .int (lk F t r)), (0, .ref aa), (1, .ref am), (2, .ref aq), (3, .ref ag), (4, .int (nI t)), (5, .int (nI r)), (6, .int mo)]) hx hb dL_requested_46 hl (by decide) rfl (fun ls hl => ?_)
        refine lv_iload hx hb dL_requested_48 (lv_at hl 1 rfl) ?_
        refine lv_iconst (v := (nI 1)) hx hb dL_requested_50 (by decide) ?_
        refine lv_icmp_ne (tgt := 59) hx hb dL_requested_51 (by decide) (fun h_41 => ?_) (fun h_41 => ?_)
        · have h_41 := h_41
          refine lv_iload hx hb dL_requested_59 (lv_at hl 1 rfl) ?_
          refine lv_if_ne (tgt := 99) hx hb dL_requested_61 (by decide) (fun h_42 => absurd (hJ.2.2.2.2.1 t ht r hr) (fun q => q.elim h_42 (fun q => q.elim h_41 h_1))) (fun h_42 => ?_)
          have h_42 := h_42
          refine lv_aload_n hx hb dL_requested_64 rfl (lv_at hl 4 rfl) ?_
          refine lv_iload hx hb dL_requested_65 (lv_at hl 7 rfl) ?_
          refine r_lld (k := r) hx hb hKL hP 2 rfl (by omega) (by decide) dL_requested_67 ?_
          refine tpl (y := (lN (qN (Q0 r)))) (hQL r (by omega)) ?_
          refine lv_lconst (v := lN 0) hx hb dL_requested_68 rfl ?_
          refine W.lcmp hx hb dL_requested_69 ?_
          refine lv_if_ne (tgt := 99) hx hb dL_requested_70 (by decide) (fun h_43 => ?_) (fun h_43 => ?_)
          · have h_43 := h_43
            have hg := plG_3 (mo := mo) h_41 (fun q => h_43 ((len_eq hJ hr).mpr q))
            have h8 := JJ_room hJ ht h3 hr
            have hqq : qlen Q0 r = (Q0 r).length := rfl
            refine lv_iload hx hb dL_requested_99 (lv_at hl 1 rfl) ?_
            refine lv_if_ne (tgt := 114) hx hb dL_requested_101 (by decide) (fun h_44 => absurd h_42 h_44) (fun h_44 => ?_)
            have h_44 := h_44
            refine lv_aload_n hx hb dL_requested_104 rfl (lv_at hl 4 rfl) ?_
            refine lv_iload hx hb dL_requested_105 (lv_at hl 7 rfl) ?_
            refine r_lld (k := r) hx hb hKL hP 2 rfl (by omega) (by decide) dL_requested_107 ?_
            refine tpl (y := (lN (qN (Q0 r)))) (hQL r (by omega)) ?_
            refine call_l (X := [(am, .inl (cI, 10, .inl fm)), (aa, .inl (cI, 48, .inl fa)), (aq, .inl (cL, 10, .inr (.inl fq))), (ag, .inl (cI, 3, .inl fg))]) (Wc := []) (Z := []) (As := [.long (lN (qN (Q0 r)))]) (rest := []) ⟨hx, hb, hml, hown, hts⟩ (c_L_length l D cI cT cL (Q0 r) (Q_8 hJ (show r < 10 by omega)) (JJ_len hJ (show r < 10 by omega))) (va_cwS 1 hts gL_requested_L_length rfl rfl rfl (by decide +kernel) ⟨Nat.le_of_ble_eq_true rfl, Nat.le_of_ble_eq_true rfl⟩) hKL (P_nilr hP) (D_nilr hD) hS hA (fun _ => rfl) rfl hl.1 rfl (Nat.le_of_ble_eq_true rfl) ⟨by decide, by decide⟩ dL_requested_108 (fun rv uu H locs hp hP hD hS => ?_)
            have hP := P_nil2 hP
            have hD := D_nil2 hD
            obtain rfl := hp
            have hP : va_P D vwCl ([(am, .inl (cI, 10, .inl fm)), (aa, .inl (cI, 48, .inl fa)), (aq, .inl (cL, 10, .inr (.inl fq))), (ag, .inl (cI, 3, .inl fg))]) H := hP
            have hD : va_D A ([(am, .inl (cI, 10, .inl fm)), (aa, .inl (cI, 48, .inl fa)), (aq, .inl (cL, 10, .inr (.inl fq))), (ag, .inl (cI, 3, .inl fg))]) := hD
            refine lv_goto (tgt := 115) hx hb dL_requested_111 (by decide) ?_
            refine lv_istore (lv' := [(9, .int (nI ((Q0 r).length))), (8, .int (nI 1)), (7, .int (lk F t r)), (0, .ref aa), (1, .ref am), (2, .ref aq), (3, .ref ag), (4, .int (nI t)), (5, .int (nI r)), (6, .int mo)]) hx hb dL_requested_115 hl (by decide) rfl (fun ls hl => ?_)
            refine lv_iload hx hb dL_requested_117 (lv_at hl 2 rfl) ?_
            refine lv_iconst (v := (nI 1)) hx hb dL_requested_119 (by decide) ?_
            refine lv_icmp_ne (tgt := 160) hx hb dL_requested_120 (by decide) (fun h_45 => ?_) (fun h_45 => absurd h_45 h_41)
            have h_45 := h_45
            have he9 : (Q0 r).length = insN F Q0 t r := ins_2 h_41
            obtain ⟨n9, hn9⟩ : ∃ n, n = insN F Q0 t r := ⟨_, rfl⟩
            rw [he9, ← hn9] at hl
            have hnle : n9 ≤ qlen Q0 r := by rw [hn9]; exact insN_le
            refine lv_aload_n hx hb dL_requested_160 rfl (lv_at hl 5 rfl) ?_
            refine lv_iload hx hb dL_requested_161 (lv_at hl 8 rfl) ?_
            refine r_lld (k := r) hx hb hKL hP 2 rfl (by omega) (by decide) dL_requested_163 ?_
            refine tpl (y := (lN (qN (Q0 r)))) (hQL r (by omega)) ?_
            refine lv_lconst (v := lN 1) hx hb dL_requested_164 rfl ?_
            refine lv_iconst (v := (nI 4)) hx hb dL_requested_165 (by decide) ?_
            refine lv_iload hx hb dL_requested_166 (lv_at hl 0 rfl) ?_
            refine lv_imul hx hb dL_requested_168 ?_
            refine tpe (y := (nI (4 * n9))) (pk_mul _ _) ?_
            refine lv_lshl (v := (lN 1) <<< ((nI (4 * n9)).toInt64 &&& 63)) hx hb dL_requested_169 rfl ?_
            refine lv_lconst (v := lN 1) hx hb dL_requested_170 rfl ?_
            refine lv_lsub hx hb dL_requested_171 ?_
            refine lv_land hx hb dL_requested_172 ?_
            refine lv_lstore (lv' := [(10, .long ((lN (qN (Q0 r))) &&& (((lN 1) <<< ((nI (4 * n9)).toInt64 &&& 63)) - (lN 1)))), (9, .int (nI n9)), (8, .int (nI 1)), (7, .int (lk F t r)), (0, .ref aa), (1, .ref am), (2, .ref aq), (3, .ref ag), (4, .int (nI t)), (5, .int (nI r)), (6, .int mo)]) hx hb dL_requested_173 hl (by decide) rfl (fun ls hl => ?_)
            refine lv_aload_n hx hb dL_requested_175 rfl (lv_at hl 6 rfl) ?_
            refine lv_iload hx hb dL_requested_176 (lv_at hl 9 rfl) ?_
            refine lv_aload_n hx hb dL_requested_178 rfl (lv_at hl 6 rfl) ?_
            refine lv_iload hx hb dL_requested_179 (lv_at hl 9 rfl) ?_
            refine r_lld (k := r) hx hb hKL hP 2 rfl (by omega) (by decide) dL_requested_181 ?_
            refine tpl (y := (lN (qN (Q0 r)))) (hQL r (by omega)) ?_
            refine lv_iconst (v := (nI 4)) hx hb dL_requested_182 (by decide) ?_
            refine lv_iload hx hb dL_requested_183 (lv_at hl 1 rfl) ?_
            refine lv_imul hx hb dL_requested_185 ?_
            refine tpe (y := (nI (4 * n9))) (pk_mul _ _) ?_
            refine lv_lshr (v := (lN (qN (Q0 r))) >>> ((nI (4 * n9)).toInt64 &&& 63)) hx hb dL_requested_186 rfl ?_
            refine lv_iconst (v := (nI 4)) hx hb dL_requested_187 (by decide) ?_
            refine lv_lshl (v := ((lN (qN (Q0 r))) >>> ((nI (4 * n9)).toInt64 &&& 63)) <<< ((nI 4).toInt64 &&& 63)) hx hb dL_requested_188 rfl ?_
            refine lv_lconst (v := lN 1) hx hb dL_requested_189 rfl ?_
            refine lv_iload hx hb dL_requested_190 (lv_at hl 8 rfl) ?_
            refine lv_i2l (v := (nI t).toInt64) hx hb dL_requested_192 rfl ?_
            refine lv_ladd hx hb dL_requested_193 ?_
            refine lv_lor hx hb dL_requested_194 ?_
            refine lv_iconst (v := (nI 4)) hx hb dL_requested_195 (by decide) ?_
            refine lv_iload hx hb dL_requested_196 (lv_at hl 1 rfl) ?_
            refine lv_imul hx hb dL_requested_198 ?_
            refine tpe (y := (nI (4 * n9))) (pk_mul _ _) ?_
            refine lv_lshl (v := ((((lN (qN (Q0 r))) >>> ((nI (4 * n9)).toInt64 &&& 63)) <<< ((nI 4).toInt64 &&& 63)) ||| ((lN 1) + ((nI t).toInt64))) <<< ((nI (4 * n9)).toInt64 &&& 63)) hx hb dL_requested_199 rfl ?_
            refine lv_lload hx hb dL_requested_200 (lv_at hl 0 rfl) ?_
            refine lv_lor hx hb dL_requested_202 ?_
            refine r_lst (k := r) hx hb hKL hP hD hS 2 rfl (by omega) (by decide) dL_requested_203 (fun H locs hP hD hS => ?_)
            have hP : va_P D vwCl ([(am, .inl (cI, 10, .inl fm)), (aa, .inl (cI, 48, .inl fa)), (aq, .inl (cL, 10, .inr (.inl (vp_updL fq r ((((((lN (qN (Q0 r))) >>> ((nI (4 * n9)).toInt64 &&& 63)) <<< ((nI 4).toInt64 &&& 63)) ||| ((lN 1) + ((nI t).toInt64))) <<< ((nI (4 * n9)).toInt64 &&& 63)) ||| ((lN (qN (Q0 r))) &&& (((lN 1) <<< ((nI (4 * n9)).toInt64 &&& 63)) - (lN 1)))))))), (ag, .inl (cI, 3, .inl fg))]) H := hP
            have hD : va_D A ([(am, .inl (cI, 10, .inl fm)), (aa, .inl (cI, 48, .inl fa)), (aq, .inl (cL, 10, .inr (.inl (vp_updL fq r ((((((lN (qN (Q0 r))) >>> ((nI (4 * n9)).toInt64 &&& 63)) <<< ((nI 4).toInt64 &&& 63)) ||| ((lN 1) + ((nI t).toInt64))) <<< ((nI (4 * n9)).toInt64 &&& 63)) ||| ((lN (qN (Q0 r))) &&& (((lN 1) <<< ((nI (4 * n9)).toInt64 &&& 63)) - (lN 1)))))))), (ag, .inl (cI, 3, .inl fg))]) := hD
            refine lv_aload_n hx hb dL_requested_204 rfl (lv_at hl 4 rfl) ?_
            refine lv_bipush (v := (nI 6)) hx hb dL_requested_205 (by decide) ?_
            refine lv_iload hx hb dL_requested_207 (lv_at hl 8 rfl) ?_
            refine lv_imul hx hb dL_requested_209 ?_
            refine tpe (y := (nI (6 * t))) (pk_mul _ _) ?_
            refine lv_iconst (v := (nI 2)) hx hb dL_requested_210 (by decide) ?_
            refine r_ist (k := (6 * t)) hx hb hK hP hD hS 1 rfl (by omega) (by decide) dL_requested_211 (fun H locs hP hD hS => ?_)
            have hP : va_P D vwCl ([(am, .inl (cI, 10, .inl fm)), (aa, .inl (cI, 48, .inl (upd fa (6 * t) (nI 2)))), (aq, .inl (cL, 10, .inr (.inl (vp_updL fq r ((((((lN (qN (Q0 r))) >>> ((nI (4 * n9)).toInt64 &&& 63)) <<< ((nI 4).toInt64 &&& 63)) ||| ((lN 1) + ((nI t).toInt64))) <<< ((nI (4 * n9)).toInt64 &&& 63)) ||| ((lN (qN (Q0 r))) &&& (((lN 1) <<< ((nI (4 * n9)).toInt64 &&& 63)) - (lN 1)))))))), (ag, .inl (cI, 3, .inl fg))]) H := hP
            have hD : va_D A ([(am, .inl (cI, 10, .inl fm)), (aa, .inl (cI, 48, .inl (upd fa (6 * t) (nI 2)))), (aq, .inl (cL, 10, .inr (.inl (vp_updL fq r ((((((lN (qN (Q0 r))) >>> ((nI (4 * n9)).toInt64 &&& 63)) <<< ((nI 4).toInt64 &&& 63)) ||| ((lN 1) + ((nI t).toInt64))) <<< ((nI (4 * n9)).toInt64 &&& 63)) ||| ((lN (qN (Q0 r))) &&& (((lN 1) <<< ((nI (4 * n9)).toInt64 &&& 63)) - (lN 1)))))))), (ag, .inl (cI, 3, .inl fg))]) := hD
            refine lv_aload_n hx hb dL_requested_212 rfl (lv_at hl 4 rfl) ?_
            refine lv_bipush (v := (nI 6)) hx hb dL_requested_213 (by decide) ?_
            refine lv_iload hx hb dL_requested_215 (lv_at hl 8 rfl) ?_
            refine lv_imul hx hb dL_requested_217 ?_
            refine tpe (y := (nI (6 * t))) (pk_mul _ _) ?_
            refine lv_iconst (v := (nI 4)) hx hb dL_requested_218 (by decide) ?_
            refine lv_iadd hx hb dL_requested_219 ?_
            refine tpe (y := (nI (6 * t + 4))) (nI_add _ _) ?_
            refine lv_iload hx hb dL_requested_220 (lv_at hl 9 rfl) ?_
            refine r_ist (k := (6 * t + 4)) hx hb hK hP hD hS 1 rfl (by omega) (by decide) dL_requested_222 (fun H locs hP hD hS => ?_)
            have hP : va_P D vwCl ([(am, .inl (cI, 10, .inl fm)), (aa, .inl (cI, 48, .inl (upd (upd fa (6 * t) (nI 2)) (6 * t + 4) (nI r)))), (aq, .inl (cL, 10, .inr (.inl (vp_updL fq r ((((((lN (qN (Q0 r))) >>> ((nI (4 * n9)).toInt64 &&& 63)) <<< ((nI 4).toInt64 &&& 63)) ||| ((lN 1) + ((nI t).toInt64))) <<< ((nI (4 * n9)).toInt64 &&& 63)) ||| ((lN (qN (Q0 r))) &&& (((lN 1) <<< ((nI (4 * n9)).toInt64 &&& 63)) - (lN 1)))))))), (ag, .inl (cI, 3, .inl fg))]) H := hP
            have hD : va_D A ([(am, .inl (cI, 10, .inl fm)), (aa, .inl (cI, 48, .inl (upd (upd fa (6 * t) (nI 2)) (6 * t + 4) (nI r)))), (aq, .inl (cL, 10, .inr (.inl (vp_updL fq r ((((((lN (qN (Q0 r))) >>> ((nI (4 * n9)).toInt64 &&& 63)) <<< ((nI 4).toInt64 &&& 63)) ||| ((lN 1) + ((nI t).toInt64))) <<< ((nI (4 * n9)).toInt64 &&& 63)) ||| ((lN (qN (Q0 r))) &&& (((lN 1) <<< ((nI (4 * n9)).toInt64 &&& 63)) - (lN 1)))))))), (ag, .inl (cI, 3, .inl fg))]) := hD
            refine lv_aload_n hx hb dL_requested_223 rfl (lv_at hl 4 rfl) ?_
            refine lv_bipush (v := (nI 6)) hx hb dL_requested_224 (by decide) ?_
            refine lv_iload hx hb dL_requested_226 (lv_at hl 8 rfl) ?_
            refine lv_imul hx hb dL_requested_228 ?_
            refine tpe (y := (nI (6 * t))) (pk_mul _ _) ?_
            refine lv_iconst (v := (nI 5)) hx hb dL_requested_229 (by decide) ?_
            refine lv_iadd hx hb dL_requested_230 ?_
            refine tpe (y := (nI (6 * t + 5))) (nI_add _ _) ?_
            refine lv_iload hx hb dL_requested_231 (lv_at hl 10 rfl) ?_
            refine r_ist (k := (6 * t + 5)) hx hb hK hP hD hS 1 rfl (by omega) (by decide) dL_requested_233 (fun H locs hP hD hS => ?_)
            have hP : va_P D vwCl ([(am, .inl (cI, 10, .inl fm)), (aa, .inl (cI, 48, .inl (upd (upd (upd fa (6 * t) (nI 2)) (6 * t + 4) (nI r)) (6 * t + 5) mo))), (aq, .inl (cL, 10, .inr (.inl (vp_updL fq r ((((((lN (qN (Q0 r))) >>> ((nI (4 * n9)).toInt64 &&& 63)) <<< ((nI 4).toInt64 &&& 63)) ||| ((lN 1) + ((nI t).toInt64))) <<< ((nI (4 * n9)).toInt64 &&& 63)) ||| ((lN (qN (Q0 r))) &&& (((lN 1) <<< ((nI (4 * n9)).toInt64 &&& 63)) - (lN 1)))))))), (ag, .inl (cI, 3, .inl fg))]) H := hP
            have hD : va_D A ([(am, .inl (cI, 10, .inl fm)), (aa, .inl (cI, 48, .inl (upd (upd (upd fa (6 * t) (nI 2)) (6 * t + 4) (nI r)) (6 * t + 5) mo))), (aq, .inl (cL, 10, .inr (.inl (vp_updL fq r ((((((lN (qN (Q0 r))) >>> ((nI (4 * n9)).toInt64 &&& 63)) <<< ((nI 4).toInt64 &&& 63)) ||| ((lN 1) + ((nI t).toInt64))) <<< ((nI (4 * n9)).toInt64 &&& 63)) ||| ((lN (qN (Q0 r))) &&& (((lN 1) <<< ((nI (4 * n9)).toInt64 &&& 63)) - (lN 1)))))))), (ag, .inl (cI, 3, .inl fg))]) := hD
            have hP : va_P D vwCl ([(am, .inl (cI, 10, .inl fm)), (aa, .inl (cI, 48, .inl (wtA fa t r mo))), (aq, .inl (cL, 10, .inr (.inl (vp_updL fq r (iQ (lN (qN (Q0 r))) n9 t))))), (ag, .inl (cI, 3, .inl fg))]) H := hP
            have hD : va_D A ([(am, .inl (cI, 10, .inl fm)), (aa, .inl (cI, 48, .inl (wtA fa t r mo))), (aq, .inl (cL, 10, .inr (.inl (vp_updL fq r (iQ (lN (qN (Q0 r))) n9 t))))), (ag, .inl (cI, 3, .inl fg))]) := hD
            have hpw := pl_wait hs hg
            obtain ⟨F1, hF1⟩ : ∃ G, G = plF F Q0 t r mo := ⟨_, rfl⟩
            obtain ⟨Q1, hQ1e⟩ : ∃ G, G = plQ F Q0 t r mo := ⟨_, rfl⟩
            have e1 : F1 = up (up F 3 t (nI r)) 4 t mo := hF1.trans hpw.1
            have e2 : Q1 = updQ Q0 r (insQ (Q0 r) n9 t) := by rw [hQ1e, hpw.2.1, hn9]
            have hJ1 : JJ F1 Q1 := by rw [hF1, hQ1e]; exact JJ_pl hJ ht hr h3 h0 hmo
            have hM1 : MM F1 fm := MM_cg hM (by rw [e1, up_ne (by decide), up_ne (by decide)])
            have hZ1 : ZA F1 (wtA fa t r mo) := by rw [e1]; exact ZA_wt hZ ht hr h0
            have hQ1 : QL Q1 (vp_updL fq r (iQ (lN (qN (Q0 r))) n9 t)) := by rw [e2]; exact QL_ins2 hJ hQL hr ht hnle h8
            have hG1 : GG F1 fg := GG_cg hG (by rw [e1, up_ne (by decide), up_ne (by decide)])
            refine lv_iconst (v := (nI 0)) hx hb dL_requested_234 (by decide) ?_
            refine lv_istore (lv' := [(12, .int (nI 0)), (10, .long ((lN (qN (Q0 r))) &&& (((lN 1) <<< ((nI (4 * n9)).toInt64 &&& 63)) - (lN 1)))), (9, .int (nI n9)), (8, .int (nI 1)), (7, .int (lk F t r)), (0, .ref aa), (1, .ref am), (2, .ref aq), (3, .ref ag), (4, .int (nI t)), (5, .int (nI r)), (6, .int mo)]) hx hb dL_requested_235 hl (by decide) rfl (fun ls hl => ?_)
            have L237 : ∀ (N : Nat) (i : Nat) (V : Nat) (Fc : FF) (Qc : QQ) (fm2 : Nat → Int32) (fa2 : Nat → Int32) (fq2 : Nat → Int64) (fg2 : Nat → Int32), (brI t F1 Q1 i Fc Qc V) → (i + nW Fc 8 ≤ 8) → (V < 2 ^ 8) → (JJ Fc Qc) → (MM Fc fm2) → (ZA Fc fa2) → (QL Qc fq2) → (GG Fc fg2) → (nW Fc 8) < N → ∀ (H : Heap) (locs : List Loc), va_P D vwCl ([(am, .inl (cI, 10, .inl fm2)), (aa, .inl (cI, 48, .inl fa2)), (aq, .inl (cL, 10, .inr (.inl fq2))), (ag, .inl (cI, 3, .inl fg2))]) H → va_D A ([(am, .inl (cI, 10, .inl fm2)), (aa, .inl (cI, 48, .inl fa2)), (aq, .inl (cL, 10, .inr (.inl fq2))), (ag, .inl (cI, 3, .inl fg2))]) → va_S A s.heap H locs → ∀ ls : Array Slot, lv_has ls 14 [(0, .ref aa), (1, .ref am), (2, .ref aq), (3, .ref ag), (4, .int (nI t)), (5, .int (nI r)), (6, .int mo), (12, .int (nI V))] → W p l e rL_requested s m args below meth c H locs 0 0 Q (F0 m 237 ls []) := by
              intro N237
              induction N237 with
              | zero => intro i V Fc Qc fm2 fa2 fq2 fg2 hI hc hV8 hJc hM2 hZ2 hQ2 hG2 hN; exact absurd hN (Nat.not_lt_zero _)
              | succ N237 ih237 =>
                intro i V Fc Qc fm2 fa2 fq2 fg2 hI hc hV8 hJc hM2 hZ2 hQ2 hG2 hN H locs hP hD hS ls hl
                have hV31 : V < 2 ^ 31 := by omega
                refine lv_aload_n hx hb dL_requested_237 rfl (lv_at hl 0 rfl) ?_
                refine lv_bipush (v := (nI 6)) hx hb dL_requested_238 (by decide) ?_
                refine lv_iload hx hb dL_requested_240 (lv_at hl 4 rfl) ?_
                refine lv_imul hx hb dL_requested_242 ?_
                refine tpe (y := (nI (6 * t))) (pk_mul _ _) ?_
                refine r_ild (k := (6 * t)) hx hb hK hP 1 rfl (by omega) (by decide) dL_requested_243 ?_
                refine tpe (y := (stI Fc t)) (ZA0 hZ2 (by omega)) ?_
                refine lv_iconst (v := (nI 2)) hx hb dL_requested_244 (by decide) ?_
                refine lv_icmp_ne (tgt := 343) hx hb dL_requested_245 (by decide) (fun h_46 => ?_) (fun h_46 => ?_)
                · have h_46 := h_46
                  have hv9e : vic Fc Qc t = 8 := vic_n (SR_none hJc ht (Decidable.byContradiction (fun q => h_46 ((st_w hJc ht).mpr q))))
                  have hbe := brI_e (Or.inr hv9e) hI
                  have haw := ask_y (pl_wait hs hg).2.2
                  have hao := ask_out hJ ht hr h3 h0 hmo hs hg
                  rw [← hF1, ← hQ1e] at haw hao
                  have ea1 : Fc = askF F Q0 t r mo := hbe.1.trans haw.1.symm
                  have ea2 : Qc = askQ F Q0 t r mo := hbe.2.1.trans haw.2.1.symm
                  have ea3 : V = askV F Q0 t r mo := hbe.2.2.trans haw.2.2.symm
                  rw [← hbe.1, ← hbe.2.2] at hao
                  refine lv_bipush (v := (nI 8)) hx hb dL_requested_343 (by decide) ?_
                  refine lv_iload hx hb dL_requested_345 (lv_at hl 7 rfl) ?_
                  refine lv_imul hx hb dL_requested_347 ?_
                  refine tpe (y := (nI (8 * V))) (pk_mul _ _) ?_
                  refine lv_iload hx hb dL_requested_348 (lv_at hl 7 rfl) ?_
                  refine lv_iload hx hb dL_requested_350 (lv_at hl 4 rfl) ?_
                  refine lv_ishr hx hb dL_requested_352 ?_
                  refine lv_iconst (v := (nI 1)) hx hb dL_requested_353 (by decide) ?_
                  refine lv_iand hx hb dL_requested_354 ?_
                  refine tpe (y := (nI (bitN V t))) (tb_I hV31 ht) ?_
                  refine lv_iconst (v := (nI 1)) hx hb dL_requested_355 (by decide) ?_
                  refine lv_icmp_ne (tgt := 363) hx hb dL_requested_356 (by decide) (fun h_47 => ?_) (fun h_47 => ?_)
                  · have h_47 := mt (nI_eq (a := (bitN V t)) (b := 1) (bitN_lt _ _) (by decide)).mpr h_47
                    refine lv_aload_n hx hb dL_requested_363 rfl (lv_at hl 0 rfl) ?_
                    refine lv_bipush (v := (nI 6)) hx hb dL_requested_364 (by decide) ?_
                    refine lv_iload hx hb dL_requested_366 (lv_at hl 4 rfl) ?_
                    refine lv_imul hx hb dL_requested_368 ?_
                    refine tpe (y := (nI (6 * t))) (pk_mul _ _) ?_
                    refine r_ild (k := (6 * t)) hx hb hK hP 1 rfl (by omega) (by decide) dL_requested_369 ?_
                    refine tpe (y := (stI Fc t)) (ZA0 hZ2 (by omega)) ?_
                    refine lv_iconst (v := (nI 2)) hx hb dL_requested_370 (by decide) ?_
                    refine lv_icmp_ne (tgt := 378) hx hb dL_requested_371 (by decide) (fun h_48 => ?_) (fun h_48 => ?_)
                    · have h_48 := h_48
                      refine lv_iconst (v := (nI 1)) hx hb dL_requested_378 (by decide) ?_
                      refine lv_iadd hx hb dL_requested_379 ?_
                      refine tpe (y := (nI (8 * V + 1))) (nI_add _ _) ?_
                      have eo := outN_of (hao.2.2 h_47 h_48) (by decide)
                      exact ret_i (u := (fm2, fa2, fq2, fg2)) hQ hx hb hrt hlk hS dL_requested_380 hP ⟨by rw [← ea1, ← ea3, eo], by rw [← ea1]; exact hM2, by rw [← ea1]; exact hZ2, by rw [← ea2]; exact hQ2, by rw [← ea1]; exact hG2⟩
                    · have h_48 := h_48
                      refine lv_iconst (v := (nI 2)) hx hb dL_requested_374 (by decide) ?_
                      refine lv_goto (tgt := 379) hx hb dL_requested_375 (by decide) ?_
                      refine lv_iadd hx hb dL_requested_379 ?_
                      refine tpe (y := (nI (8 * V + 2))) (nI_add _ _) ?_
                      have eo := outN_of (hao.2.1 h_47 h_48) (by decide)
                      exact ret_i (u := (fm2, fa2, fq2, fg2)) hQ hx hb hrt hlk hS dL_requested_380 hP ⟨by rw [← ea1, ← ea3, eo], by rw [← ea1]; exact hM2, by rw [← ea1]; exact hZ2, by rw [← ea2]; exact hQ2, by rw [← ea1]; exact hG2⟩
                  · have h_47 := (nI_eq (a := (bitN V t)) (b := 1) (bitN_lt _ _) (by decide)).mp h_47
                    refine lv_iconst (v := (nI 3)) hx hb dL_requested_359 (by decide) ?_
                    refine lv_goto (tgt := 379) hx hb dL_requested_360 (by decide) ?_
                    refine lv_iadd hx hb dL_requested_379 ?_
                    refine tpe (y := (nI (8 * V + 3))) (nI_add _ _) ?_
                    have eo := outN_of (hao.1 h_47) (by decide)
                    exact ret_i (u := (fm2, fa2, fq2, fg2)) hQ hx hb hrt hlk hS dL_requested_380 hP ⟨by rw [← ea1, ← ea3, eo], by rw [← ea1]; exact hM2, by rw [← ea1]; exact hZ2, by rw [← ea2]; exact hQ2, by rw [← ea1]; exact hG2⟩
                · have h_46 := h_46
                  refine lv_aload_n hx hb dL_requested_248 rfl (lv_at hl 0 rfl) ?_
                  refine lv_aload_n hx hb dL_requested_249 rfl (lv_at hl 1 rfl) ?_
                  refine lv_aload_n hx hb dL_requested_250 rfl (lv_at hl 2 rfl) ?_
                  refine lv_iload hx hb dL_requested_251 (lv_at hl 4 rfl) ?_
                  refine call_l (X := []) (Wc := [(am, .inl (cI, 10, .inl fm2)), (aa, .inl (cI, 48, .inl fa2)), (aq, .inl (cL, 10, .inr (.inl fq2)))]) (Z := [(ag, .inl (cI, 3, .inl fg2))]) (As := [.ref aa, .ref am, .ref aq, .int (nI t)]) (rest := []) ⟨hx, hb, hml, hown, hts⟩ (c_L_victim l D cI cT cL am aa aq fm2 fa2 fq2 Fc Qc t (by omega) hJc hM2 hZ2 hQ2) (va_cwS 4 hts gL_requested_L_victim rfl rfl rfl (by decide +kernel) ⟨Nat.le_of_ble_eq_true rfl, Nat.le_of_ble_eq_true rfl⟩) hKL hP hD hS hA (fun _ => adw3) rfl hl.1 rfl (Nat.le_of_ble_eq_true rfl) ⟨by decide, by decide⟩ dL_requested_253 (fun rv uu H locs hp hP hD hS => ?_)
                  obtain rfl := hp
                  have hP : va_P D vwCl ([(am, .inl (cI, 10, .inl fm2)), (aa, .inl (cI, 48, .inl fa2)), (aq, .inl (cL, 10, .inr (.inl fq2))), (ag, .inl (cI, 3, .inl fg2))]) H := hP
                  have hD : va_D A ([(am, .inl (cI, 10, .inl fm2)), (aa, .inl (cI, 48, .inl fa2)), (aq, .inl (cL, 10, .inr (.inl fq2))), (ag, .inl (cI, 3, .inl fg2))]) := hD
                  refine lv_istore (lv' := [(13, .int (bI (vic Fc Qc t))), (0, .ref aa), (1, .ref am), (2, .ref aq), (3, .ref ag), (4, .int (nI t)), (5, .int (nI r)), (6, .int mo), (12, .int (nI V))]) hx hb dL_requested_256 hl (by decide) rfl (fun ls hl => ?_)
                  refine lv_iload hx hb dL_requested_258 (lv_at hl 0 rfl) ?_
                  refine lv_if_ge (tgt := 266) hx hb dL_requested_260 (by decide) (fun h_49 => ?_) (fun h_49 => ?_)
                  · have h_49 := h_49
                    have hvn := (bI_nn (vic_le Fc Qc t)).mp h_49
                    rw [bI_some hvn] at hl
                    have hvy := vic_y hJc ht (fun q => hvn (vic_n q))
                    have hnb := nW_br hJc hvy.1 hvy.2
                    have hbs : i < 8 := by omega
                    have hbr := brI_s hbs hvn hI
                    obtain ⟨v9, hv9⟩ : ∃ v, v = vic Fc Qc t := ⟨_, rfl⟩
                    rw [← hv9] at hl hvn hvy hnb hbr
                    have hv8 := hvy.1
                    refine lv_iload hx hb dL_requested_266 (lv_at hl 8 rfl) ?_
                    refine lv_iconst (v := (nI 1)) hx hb dL_requested_268 (by decide) ?_
                    refine lv_iload hx hb dL_requested_269 (lv_at hl 0 rfl) ?_
                    refine lv_ishl hx hb dL_requested_271 ?_
                    refine lv_ior hx hb dL_requested_272 ?_
                    refine tpe (y := (nI (V ||| 2 ^ v9))) (or_sh hv8) ?_
                    refine lv_istore (lv' := [(12, .int (nI (V ||| 2 ^ v9))), (13, .int (nI v9)), (0, .ref aa), (1, .ref am), (2, .ref aq), (3, .ref ag), (4, .int (nI t)), (5, .int (nI r)), (6, .int mo)]) hx hb dL_requested_273 hl (by decide) rfl (fun ls hl => ?_)
                    refine lv_aload_n hx hb dL_requested_275 rfl (lv_at hl 5 rfl) ?_
                    refine lv_iconst (v := (nI 1)) hx hb dL_requested_276 (by decide) ?_
                    refine lv_dup2_11 hx hb dL_requested_277 rfl rfl ?_
                    refine r_ild (k := 1) hx hb hK hP 3 rfl (by omega) (by decide) dL_requested_278 ?_
                    refine lv_iconst (v := (nI 1)) hx hb dL_requested_279 (by decide) ?_
                    refine lv_iadd hx hb dL_requested_280 ?_
                    refine r_ist (k := 1) hx hb hK hP hD hS 3 rfl (by omega) (by decide) dL_requested_281 (fun H locs hP hD hS => ?_)
                    have hP : va_P D vwCl ([(am, .inl (cI, 10, .inl fm2)), (aa, .inl (cI, 48, .inl fa2)), (aq, .inl (cL, 10, .inr (.inl fq2))), (ag, .inl (cI, 3, .inl (upd fg2 1 ((fg2 1) + (nI 1)))))]) H := hP
                    have hD : va_D A ([(am, .inl (cI, 10, .inl fm2)), (aa, .inl (cI, 48, .inl fa2)), (aq, .inl (cL, 10, .inr (.inl fq2))), (ag, .inl (cI, 3, .inl (upd fg2 1 ((fg2 1) + (nI 1)))))]) := hD
                    refine lv_aload_n hx hb dL_requested_282 rfl (lv_at hl 5 rfl) ?_
                    refine lv_iconst (v := (nI 2)) hx hb dL_requested_283 (by decide) ?_
                    refine lv_dup2_11 hx hb dL_requested_284 rfl rfl ?_
                    refine r_ild (k := 2) hx hb hK hP 3 rfl (by omega) (by decide) dL_requested_285 ?_
                    refine lv_aload_n hx hb dL_requested_286 rfl (lv_at hl 2 rfl) ?_
                    refine lv_bipush (v := (nI 6)) hx hb dL_requested_287 (by decide) ?_
                    refine lv_iload hx hb dL_requested_289 (lv_at hl 1 rfl) ?_
                    refine lv_imul hx hb dL_requested_291 ?_
                    refine tpe (y := (nI (6 * v9))) (pk_mul _ _) ?_
                    refine lv_iconst (v := (nI 1)) hx hb dL_requested_292 (by decide) ?_
                    refine lv_iadd hx hb dL_requested_293 ?_
                    refine tpe (y := (nI (6 * v9 + 1))) (nI_add _ _) ?_
                    refine r_ild (k := (6 * v9 + 1)) hx hb hK hP 1 rfl (by omega) (by decide) dL_requested_294 ?_
                    refine tpe (y := (Fc 1 v9)) (ZA1 hZ2 (by omega)) ?_
                    refine lv_iadd hx hb dL_requested_295 ?_
                    refine r_ist (k := 2) hx hb hK hP hD hS 3 rfl (by omega) (by decide) dL_requested_296 (fun H locs hP hD hS => ?_)
                    have hP : va_P D vwCl ([(am, .inl (cI, 10, .inl fm2)), (aa, .inl (cI, 48, .inl fa2)), (aq, .inl (cL, 10, .inr (.inl fq2))), (ag, .inl (cI, 3, .inl (upd (upd fg2 1 ((fg2 1) + (nI 1))) 2 (((upd fg2 1 ((fg2 1) + (nI 1))) 2) + (Fc 1 v9)))))]) H := hP
                    have hD : va_D A ([(am, .inl (cI, 10, .inl fm2)), (aa, .inl (cI, 48, .inl fa2)), (aq, .inl (cL, 10, .inr (.inl fq2))), (ag, .inl (cI, 3, .inl (upd (upd fg2 1 ((fg2 1) + (nI 1))) 2 (((upd fg2 1 ((fg2 1) + (nI 1))) 2) + (Fc 1 v9)))))]) := hD
                    have hP : va_P D vwCl ([(am, .inl (cI, 10, .inl fm2)), (aa, .inl (cI, 48, .inl fa2)), (aq, .inl (cL, 10, .inr (.inl fq2))), (ag, .inl (cI, 3, .inl (bkG fg2 (Fc 1 v9))))]) H := hP
                    have hD : va_D A ([(am, .inl (cI, 10, .inl fm2)), (aa, .inl (cI, 48, .inl fa2)), (aq, .inl (cL, 10, .inr (.inl fq2))), (ag, .inl (cI, 3, .inl (bkG fg2 (Fc 1 v9))))]) := hD
                    refine lv_aload_n hx hb dL_requested_297 rfl (lv_at hl 2 rfl) ?_
                    refine lv_aload_n hx hb dL_requested_298 rfl (lv_at hl 4 rfl) ?_
                    refine lv_iload hx hb dL_requested_299 (lv_at hl 1 rfl) ?_
                    refine call_lv (X := [(am, .inl (cI, 10, .inl fm2))]) (Wc := [(aa, .inl (cI, 48, .inl fa2)), (aq, .inl (cL, 10, .inr (.inl fq2)))]) (Z := [(ag, .inl (cI, 3, .inl (bkG fg2 (Fc 1 v9))))]) (As := [.ref aa, .ref aq, .int (nI v9)]) (rest := []) ⟨hx, hb, hml, hown, hts⟩ (c_L_remove l D cI cT cL aa aq fa2 fq2 Fc Qc v9 (by omega) hvy.2 hJc hZ2 hQ2) (va_cwS 3 hts gL_requested_L_remove rfl rfl rfl (by decide +kernel) ⟨Nat.le_of_ble_eq_true rfl, Nat.le_of_ble_eq_true rfl⟩) hKL hP hD hS hA (fun _ => adw2) rfl hl.1 rfl (Nat.le_of_ble_eq_true rfl) ⟨by decide, by decide⟩ dL_requested_301 (fun uu H locs hp hP hD hS => ?_)
                    obtain ⟨fa23, fq23⟩ := uu
                    obtain ⟨hZ23, hQ23⟩ := hp
                    dsimp only at hZ23 hQ23
                    have hJ23 := JJ_rm hJc (show v9 < 8 by omega)
                    have hMr23 := MM_cg (F' := rmF Fc v9) hM2 (rmF_ne (by decide))
                    have hP : va_P D vwCl ([(am, .inl (cI, 10, .inl fm2)), (aa, .inl (cI, 48, .inl fa23)), (aq, .inl (cL, 10, .inr (.inl fq23))), (ag, .inl (cI, 3, .inl (bkG fg2 (Fc 1 v9))))]) H := hP
                    have hD : va_D A ([(am, .inl (cI, 10, .inl fm2)), (aa, .inl (cI, 48, .inl fa23)), (aq, .inl (cL, 10, .inr (.inl fq23))), (ag, .inl (cI, 3, .inl (bkG fg2 (Fc 1 v9))))]) := hD
                    refine lv_aload_n hx hb dL_requested_304 rfl (lv_at hl 3 rfl) ?_
                    refine lv_iload hx hb dL_requested_305 (lv_at hl 1 rfl) ?_
                    refine call_lv (X := []) (Wc := [(am, .inl (cI, 10, .inl fm2))]) (Z := [(aa, .inl (cI, 48, .inl fa23)), (aq, .inl (cL, 10, .inr (.inl fq23))), (ag, .inl (cI, 3, .inl (bkG fg2 (Fc 1 v9))))]) (As := [.ref am, .int (nI v9)]) (rest := []) ⟨hx, hb, hml, hown, hts⟩ (c_L_release l D cI cT cL am fm2 (rmF Fc v9) v9 (by omega) hMr23) (va_cwS 2 hts gL_requested_L_release rfl rfl rfl (by decide +kernel) ⟨Nat.le_of_ble_eq_true rfl, Nat.le_of_ble_eq_true rfl⟩) hKL hP hD hS hA (fun _ => adw1) rfl hl.1 rfl (Nat.le_of_ble_eq_true rfl) ⟨by decide, by decide⟩ dL_requested_307 (fun uu H locs hp hP hD hS => ?_)
                    obtain ⟨fm24, efm24⟩ : ∃ f, f = uu := ⟨_, rfl⟩
                    rw [← efm24] at hP hD hp
                    have hM24 := hp
                    have hZr24 := ZA_rel (t := v9) hZ23
                    have hP : va_P D vwCl ([(am, .inl (cI, 10, .inl fm24)), (aa, .inl (cI, 48, .inl fa23)), (aq, .inl (cL, 10, .inr (.inl fq23))), (ag, .inl (cI, 3, .inl (bkG fg2 (Fc 1 v9))))]) H := hP
                    have hD : va_D A ([(am, .inl (cI, 10, .inl fm24)), (aa, .inl (cI, 48, .inl fa23)), (aq, .inl (cL, 10, .inr (.inl fq23))), (ag, .inl (cI, 3, .inl (bkG fg2 (Fc 1 v9))))]) := hD
                    refine lv_aload_n hx hb dL_requested_310 rfl (lv_at hl 2 rfl) ?_
                    refine lv_bipush (v := (nI 6)) hx hb dL_requested_311 (by decide) ?_
                    refine lv_iload hx hb dL_requested_313 (lv_at hl 1 rfl) ?_
                    refine lv_imul hx hb dL_requested_315 ?_
                    refine tpe (y := (nI (6 * v9))) (pk_mul _ _) ?_
                    refine lv_iconst (v := (nI 1)) hx hb dL_requested_316 (by decide) ?_
                    refine lv_iadd hx hb dL_requested_317 ?_
                    refine tpe (y := (nI (6 * v9 + 1))) (nI_add _ _) ?_
                    refine lv_iconst (v := (nI 0)) hx hb dL_requested_318 (by decide) ?_
                    refine r_ist (k := (6 * v9 + 1)) hx hb hK hP hD hS 1 rfl (by omega) (by decide) dL_requested_319 (fun H locs hP hD hS => ?_)
                    have hP : va_P D vwCl ([(am, .inl (cI, 10, .inl fm24)), (aa, .inl (cI, 48, .inl (upd fa23 (6 * v9 + 1) (nI 0)))), (aq, .inl (cL, 10, .inr (.inl fq23))), (ag, .inl (cI, 3, .inl (bkG fg2 (Fc 1 v9))))]) H := hP
                    have hD : va_D A ([(am, .inl (cI, 10, .inl fm24)), (aa, .inl (cI, 48, .inl (upd fa23 (6 * v9 + 1) (nI 0)))), (aq, .inl (cL, 10, .inr (.inl fq23))), (ag, .inl (cI, 3, .inl (bkG fg2 (Fc 1 v9))))]) := hD
                    refine lv_aload_n hx hb dL_requested_320 rfl (lv_at hl 2 rfl) ?_
                    refine lv_bipush (v := (nI 6)) hx hb dL_requested_321 (by decide) ?_
                    refine lv_iload hx hb dL_requested_323 (lv_at hl 1 rfl) ?_
                    refine lv_imul hx hb dL_requested_325 ?_
                    refine tpe (y := (nI (6 * v9))) (pk_mul _ _) ?_
                    refine lv_iconst (v := (nI 2)) hx hb dL_requested_326 (by decide) ?_
                    refine lv_iadd hx hb dL_requested_327 ?_
                    refine tpe (y := (nI (6 * v9 + 2))) (nI_add _ _) ?_
                    refine lv_dup2_11 hx hb dL_requested_328 rfl rfl ?_
                    refine r_ild (k := (6 * v9 + 2)) hx hb hK hP 1 rfl (by omega) (by decide) dL_requested_329 ?_
                    refine lv_iconst (v := (nI 1)) hx hb dL_requested_330 (by decide) ?_
                    refine lv_iadd hx hb dL_requested_331 ?_
                    refine r_ist (k := (6 * v9 + 2)) hx hb hK hP hD hS 1 rfl (by omega) (by decide) dL_requested_332 (fun H locs hP hD hS => ?_)
                    have hP : va_P D vwCl ([(am, .inl (cI, 10, .inl fm24)), (aa, .inl (cI, 48, .inl (upd (upd fa23 (6 * v9 + 1) (nI 0)) (6 * v9 + 2) (((upd fa23 (6 * v9 + 1) (nI 0)) (6 * v9 + 2)) + (nI 1))))), (aq, .inl (cL, 10, .inr (.inl fq23))), (ag, .inl (cI, 3, .inl (bkG fg2 (Fc 1 v9))))]) H := hP
                    have hD : va_D A ([(am, .inl (cI, 10, .inl fm24)), (aa, .inl (cI, 48, .inl (upd (upd fa23 (6 * v9 + 1) (nI 0)) (6 * v9 + 2) (((upd fa23 (6 * v9 + 1) (nI 0)) (6 * v9 + 2)) + (nI 1))))), (aq, .inl (cL, 10, .inr (.inl fq23))), (ag, .inl (cI, 3, .inl (bkG fg2 (Fc 1 v9))))]) := hD
                    have hP : va_P D vwCl ([(am, .inl (cI, 10, .inl fm24)), (aa, .inl (cI, 48, .inl (abA fa23 v9))), (aq, .inl (cL, 10, .inr (.inl fq23))), (ag, .inl (cI, 3, .inl (bkG fg2 (Fc 1 v9))))]) H := hP
                    have hD : va_D A ([(am, .inl (cI, 10, .inl fm24)), (aa, .inl (cI, 48, .inl (abA fa23 v9))), (aq, .inl (cL, 10, .inr (.inl fq23))), (ag, .inl (cI, 3, .inl (bkG fg2 (Fc 1 v9))))]) := hD
                    have hMb := MM_ab hM24
                    have hZb := ZA_ab hZr24 hv8
                    have hJb := JJ_ab hJc hv8
                    have hGb := GG_srv hJb (GG_bk (v := v9) hG2)
                    refine lv_aload_n hx hb dL_requested_333 rfl (lv_at hl 2 rfl) ?_
                    refine lv_aload_n hx hb dL_requested_334 rfl (lv_at hl 3 rfl) ?_
                    refine lv_aload_n hx hb dL_requested_335 rfl (lv_at hl 4 rfl) ?_
                    refine call_l (X := []) (Wc := [(am, .inl (cI, 10, .inl fm24)), (aa, .inl (cI, 48, .inl (abA fa23 v9))), (aq, .inl (cL, 10, .inr (.inl fq23)))]) (Z := [(ag, .inl (cI, 3, .inl (bkG fg2 (Fc 1 v9))))]) (As := [.ref aa, .ref am, .ref aq]) (rest := []) ⟨hx, hb, hml, hown, hts⟩ (c_L_serve l D cI cT cL am aa aq fm24 (abA fa23 v9) fq23 (abF Fc v9) (rmQ Fc Qc v9) hJb hMb hZb hQ23) (va_cwS 3 hts gL_requested_L_serve rfl rfl rfl (by decide +kernel) ⟨Nat.le_of_ble_eq_true rfl, Nat.le_of_ble_eq_true rfl⟩) hKL hP hD hS hA (fun _ => adw3) rfl hl.1 rfl (Nat.le_of_ble_eq_true rfl) ⟨by decide, by decide⟩ dL_requested_336 (fun rv uu H locs hp hP hD hS => ?_)
                    obtain ⟨fm25, fa25, fq25⟩ := uu
                    obtain ⟨rfl, hM25, hZ25, hQ25⟩ := hp
                    dsimp only at hM25 hZ25 hQ25
                    have hJ25 := JJ_srv hJb
                    have hP : va_P D vwCl ([(am, .inl (cI, 10, .inl fm25)), (aa, .inl (cI, 48, .inl fa25)), (aq, .inl (cL, 10, .inr (.inl fq25))), (ag, .inl (cI, 3, .inl (bkG fg2 (Fc 1 v9))))]) H := hP
                    have hD : va_D A ([(am, .inl (cI, 10, .inl fm25)), (aa, .inl (cI, 48, .inl fa25)), (aq, .inl (cL, 10, .inr (.inl fq25))), (ag, .inl (cI, 3, .inl (bkG fg2 (Fc 1 v9))))]) := hD
                    refine lv_pop hx hb dL_requested_339 rfl ?_
                    refine lv_goto (tgt := 237) hx hb dL_requested_340 (by decide) ?_
                    exact ih237 (i + 1) (V ||| 2 ^ v9) (srvF (abF Fc v9) (rmQ Fc Qc v9)) (srvQ (abF Fc v9) (rmQ Fc Qc v9)) fm25 fa25 fq25 (bkG fg2 (Fc 1 v9)) hbr (by omega) (Nat.or_lt_two_pow hV8 (Nat.pow_lt_pow_right (by decide) hv8)) hJ25 hM25 hZ25 hQ25 hGb (by omega) _ _ hP hD hS _ (lv_sub hl [2, 3, 4, 5, 6, 7, 8, 0] rfl)
                  · have h_49 := h_49
                    refine lv_goto (tgt := 343) hx hb dL_requested_263 (by decide) ?_
                    have hv9e : vic Fc Qc t = 8 := Decidable.byContradiction (fun q => h_49 ((bI_nn (vic_le Fc Qc t)).mpr q))
                    have hbe := brI_e (Or.inr hv9e) hI
                    have haw := ask_y (pl_wait hs hg).2.2
                    have hao := ask_out hJ ht hr h3 h0 hmo hs hg
                    rw [← hF1, ← hQ1e] at haw hao
                    have ea1 : Fc = askF F Q0 t r mo := hbe.1.trans haw.1.symm
                    have ea2 : Qc = askQ F Q0 t r mo := hbe.2.1.trans haw.2.1.symm
                    have ea3 : V = askV F Q0 t r mo := hbe.2.2.trans haw.2.2.symm
                    rw [← hbe.1, ← hbe.2.2] at hao
                    refine lv_bipush (v := (nI 8)) hx hb dL_requested_343 (by decide) ?_
                    refine lv_iload hx hb dL_requested_345 (lv_at hl 8 rfl) ?_
                    refine lv_imul hx hb dL_requested_347 ?_
                    refine tpe (y := (nI (8 * V))) (pk_mul _ _) ?_
                    refine lv_iload hx hb dL_requested_348 (lv_at hl 8 rfl) ?_
                    refine lv_iload hx hb dL_requested_350 (lv_at hl 5 rfl) ?_
                    refine lv_ishr hx hb dL_requested_352 ?_
                    refine lv_iconst (v := (nI 1)) hx hb dL_requested_353 (by decide) ?_
                    refine lv_iand hx hb dL_requested_354 ?_
                    refine tpe (y := (nI (bitN V t))) (tb_I hV31 ht) ?_
                    refine lv_iconst (v := (nI 1)) hx hb dL_requested_355 (by decide) ?_
                    refine lv_icmp_ne (tgt := 363) hx hb dL_requested_356 (by decide) (fun h_50 => ?_) (fun h_50 => ?_)
                    · have h_50 := mt (nI_eq (a := (bitN V t)) (b := 1) (bitN_lt _ _) (by decide)).mpr h_50
                      refine lv_aload_n hx hb dL_requested_363 rfl (lv_at hl 1 rfl) ?_
                      refine lv_bipush (v := (nI 6)) hx hb dL_requested_364 (by decide) ?_
                      refine lv_iload hx hb dL_requested_366 (lv_at hl 5 rfl) ?_
                      refine lv_imul hx hb dL_requested_368 ?_
                      refine tpe (y := (nI (6 * t))) (pk_mul _ _) ?_
                      refine r_ild (k := (6 * t)) hx hb hK hP 1 rfl (by omega) (by decide) dL_requested_369 ?_
                      refine tpe (y := (stI Fc t)) (ZA0 hZ2 (by omega)) ?_
                      refine lv_iconst (v := (nI 2)) hx hb dL_requested_370 (by decide) ?_
                      refine lv_icmp_ne (tgt := 378) hx hb dL_requested_371 (by decide) (fun h_51 => ?_) (fun h_51 => ?_)
                      · have h_51 := h_51
                        refine lv_iconst (v := (nI 1)) hx hb dL_requested_378 (by decide) ?_
                        refine lv_iadd hx hb dL_requested_379 ?_
                        refine tpe (y := (nI (8 * V + 1))) (nI_add _ _) ?_
                        have eo := outN_of (hao.2.2 h_50 h_51) (by decide)
                        exact ret_i (u := (fm2, fa2, fq2, fg2)) hQ hx hb hrt hlk hS dL_requested_380 hP ⟨by rw [← ea1, ← ea3, eo], by rw [← ea1]; exact hM2, by rw [← ea1]; exact hZ2, by rw [← ea2]; exact hQ2, by rw [← ea1]; exact hG2⟩
                      · have h_51 := h_51
                        refine lv_iconst (v := (nI 2)) hx hb dL_requested_374 (by decide) ?_
                        refine lv_goto (tgt := 379) hx hb dL_requested_375 (by decide) ?_
                        refine lv_iadd hx hb dL_requested_379 ?_
                        refine tpe (y := (nI (8 * V + 2))) (nI_add _ _) ?_
                        have eo := outN_of (hao.2.1 h_50 h_51) (by decide)
                        exact ret_i (u := (fm2, fa2, fq2, fg2)) hQ hx hb hrt hlk hS dL_requested_380 hP ⟨by rw [← ea1, ← ea3, eo], by rw [← ea1]; exact hM2, by rw [← ea1]; exact hZ2, by rw [← ea2]; exact hQ2, by rw [← ea1]; exact hG2⟩
                    · have h_50 := (nI_eq (a := (bitN V t)) (b := 1) (bitN_lt _ _) (by decide)).mp h_50
                      refine lv_iconst (v := (nI 3)) hx hb dL_requested_359 (by decide) ?_
                      refine lv_goto (tgt := 379) hx hb dL_requested_360 (by decide) ?_
                      refine lv_iadd hx hb dL_requested_379 ?_
                      refine tpe (y := (nI (8 * V + 3))) (nI_add _ _) ?_
                      have eo := outN_of (hao.1 h_50) (by decide)
                      exact ret_i (u := (fm2, fa2, fq2, fg2)) hQ hx hb hrt hlk hS dL_requested_380 hP ⟨by rw [← ea1, ← ea3, eo], by rw [← ea1]; exact hM2, by rw [← ea1]; exact hZ2, by rw [← ea2]; exact hQ2, by rw [← ea1]; exact hG2⟩
            exact L237 _ 0 0 F1 Q1 fm (wtA fa t r mo) (vp_updL fq r (iQ (lN (qN (Q0 r))) n9 t)) fg brI_0 (by have := nW_le (F := F1) 8; omega) (by decide) hJ1 hM1 hZ1 hQ1 hG1 (Nat.lt_succ_self _) _ _ hP hD hS _ (lv_sub hl [5, 6, 7, 8, 9, 10, 11, 0] rfl)
          · have h_43 := h_43
            refine lv_aload_n hx hb dL_requested_73 rfl (lv_at hl 3 rfl) ?_
            refine lv_iload hx hb dL_requested_74 (lv_at hl 6 rfl) ?_
            refine lv_iload hx hb dL_requested_76 (lv_at hl 7 rfl) ?_
            refine lv_iload hx hb dL_requested_78 (lv_at hl 8 rfl) ?_
            refine call_l (X := []) (Wc := [(am, .inl (cI, 10, .inl fm))]) (Z := [(aa, .inl (cI, 48, .inl fa)), (aq, .inl (cL, 10, .inr (.inl fq))), (ag, .inl (cI, 3, .inl fg))]) (As := [.ref am, .int (nI t), .int (nI r), .int mo]) (rest := []) ⟨hx, hb, hml, hown, hts⟩ (c_L_canHold l D cI cT cL am fm F Q0 t r mo (by omega) (by omega) hJ hM) (va_cwS 4 hts gL_requested_L_canHold rfl rfl rfl (by decide +kernel) ⟨Nat.le_of_ble_eq_true rfl, Nat.le_of_ble_eq_true rfl⟩) hKL hP hD hS hA (fun _ => adw1) rfl hl.1 rfl (Nat.le_of_ble_eq_true rfl) ⟨by decide, by decide⟩ dL_requested_80 (fun rv uu H locs hp hP hD hS => ?_)
            obtain rfl := hp
            have hP : va_P D vwCl ([(am, .inl (cI, 10, .inl fm)), (aa, .inl (cI, 48, .inl fa)), (aq, .inl (cL, 10, .inr (.inl fq))), (ag, .inl (cI, 3, .inl fg))]) H := hP
            have hD : va_D A ([(am, .inl (cI, 10, .inl fm)), (aa, .inl (cI, 48, .inl fa)), (aq, .inl (cL, 10, .inr (.inl fq))), (ag, .inl (cI, 3, .inl fg))]) := hD
            refine lv_if_eq (tgt := 99) hx hb dL_requested_83 (by decide) (fun h_52 => ?_) (fun h_52 => ?_)
            · have h_52 := (nI_eq (a := ((alN (fun w => !rivB F t r mo w) 8).toNat)) (b := 0) (bool_lt _) (by decide)).mp h_52
              have hg := plG_2 ((len_eq hJ hr).mp h_43) (b0 h_52)
              have h8 := JJ_room hJ ht h3 hr
              have hqq : qlen Q0 r = (Q0 r).length := rfl
              refine lv_iload hx hb dL_requested_99 (lv_at hl 1 rfl) ?_
              refine lv_if_ne (tgt := 114) hx hb dL_requested_101 (by decide) (fun h_53 => absurd h_42 h_53) (fun h_53 => ?_)
              have h_53 := h_53
              refine lv_aload_n hx hb dL_requested_104 rfl (lv_at hl 4 rfl) ?_
              refine lv_iload hx hb dL_requested_105 (lv_at hl 7 rfl) ?_
              refine r_lld (k := r) hx hb hKL hP 2 rfl (by omega) (by decide) dL_requested_107 ?_
              refine tpl (y := (lN (qN (Q0 r)))) (hQL r (by omega)) ?_
              refine call_l (X := [(am, .inl (cI, 10, .inl fm)), (aa, .inl (cI, 48, .inl fa)), (aq, .inl (cL, 10, .inr (.inl fq))), (ag, .inl (cI, 3, .inl fg))]) (Wc := []) (Z := []) (As := [.long (lN (qN (Q0 r)))]) (rest := []) ⟨hx, hb, hml, hown, hts⟩ (c_L_length l D cI cT cL (Q0 r) (Q_8 hJ (show r < 10 by omega)) (JJ_len hJ (show r < 10 by omega))) (va_cwS 1 hts gL_requested_L_length rfl rfl rfl (by decide +kernel) ⟨Nat.le_of_ble_eq_true rfl, Nat.le_of_ble_eq_true rfl⟩) hKL (P_nilr hP) (D_nilr hD) hS hA (fun _ => rfl) rfl hl.1 rfl (Nat.le_of_ble_eq_true rfl) ⟨by decide, by decide⟩ dL_requested_108 (fun rv uu H locs hp hP hD hS => ?_)
              have hP := P_nil2 hP
              have hD := D_nil2 hD
              obtain rfl := hp
              have hP : va_P D vwCl ([(am, .inl (cI, 10, .inl fm)), (aa, .inl (cI, 48, .inl fa)), (aq, .inl (cL, 10, .inr (.inl fq))), (ag, .inl (cI, 3, .inl fg))]) H := hP
              have hD : va_D A ([(am, .inl (cI, 10, .inl fm)), (aa, .inl (cI, 48, .inl fa)), (aq, .inl (cL, 10, .inr (.inl fq))), (ag, .inl (cI, 3, .inl fg))]) := hD
              refine lv_goto (tgt := 115) hx hb dL_requested_111 (by decide) ?_
              refine lv_istore (lv' := [(9, .int (nI ((Q0 r).length))), (8, .int (nI 1)), (7, .int (lk F t r)), (0, .ref aa), (1, .ref am), (2, .ref aq), (3, .ref ag), (4, .int (nI t)), (5, .int (nI r)), (6, .int mo)]) hx hb dL_requested_115 hl (by decide) rfl (fun ls hl => ?_)
              refine lv_iload hx hb dL_requested_117 (lv_at hl 2 rfl) ?_
              refine lv_iconst (v := (nI 1)) hx hb dL_requested_119 (by decide) ?_
              refine lv_icmp_ne (tgt := 160) hx hb dL_requested_120 (by decide) (fun h_54 => ?_) (fun h_54 => absurd h_54 h_41)
              have h_54 := h_54
              have he9 : (Q0 r).length = insN F Q0 t r := ins_2 h_41
              obtain ⟨n9, hn9⟩ : ∃ n, n = insN F Q0 t r := ⟨_, rfl⟩
              rw [he9, ← hn9] at hl
              have hnle : n9 ≤ qlen Q0 r := by rw [hn9]; exact insN_le
              refine lv_aload_n hx hb dL_requested_160 rfl (lv_at hl 5 rfl) ?_
              refine lv_iload hx hb dL_requested_161 (lv_at hl 8 rfl) ?_
              refine r_lld (k := r) hx hb hKL hP 2 rfl (by omega) (by decide) dL_requested_163 ?_
              refine tpl (y := (lN (qN (Q0 r)))) (hQL r (by omega)) ?_
              refine lv_lconst (v := lN 1) hx hb dL_requested_164 rfl ?_
              refine lv_iconst (v := (nI 4)) hx hb dL_requested_165 (by decide) ?_
              refine lv_iload hx hb dL_requested_166 (lv_at hl 0 rfl) ?_
              refine lv_imul hx hb dL_requested_168 ?_
              refine tpe (y := (nI (4 * n9))) (pk_mul _ _) ?_
              refine lv_lshl (v := (lN 1) <<< ((nI (4 * n9)).toInt64 &&& 63)) hx hb dL_requested_169 rfl ?_
              refine lv_lconst (v := lN 1) hx hb dL_requested_170 rfl ?_
              refine lv_lsub hx hb dL_requested_171 ?_
              refine lv_land hx hb dL_requested_172 ?_
              refine lv_lstore (lv' := [(10, .long ((lN (qN (Q0 r))) &&& (((lN 1) <<< ((nI (4 * n9)).toInt64 &&& 63)) - (lN 1)))), (9, .int (nI n9)), (8, .int (nI 1)), (7, .int (lk F t r)), (0, .ref aa), (1, .ref am), (2, .ref aq), (3, .ref ag), (4, .int (nI t)), (5, .int (nI r)), (6, .int mo)]) hx hb dL_requested_173 hl (by decide) rfl (fun ls hl => ?_)
              refine lv_aload_n hx hb dL_requested_175 rfl (lv_at hl 6 rfl) ?_
              refine lv_iload hx hb dL_requested_176 (lv_at hl 9 rfl) ?_
              refine lv_aload_n hx hb dL_requested_178 rfl (lv_at hl 6 rfl) ?_
              refine lv_iload hx hb dL_requested_179 (lv_at hl 9 rfl) ?_
              refine r_lld (k := r) hx hb hKL hP 2 rfl (by omega) (by decide) dL_requested_181 ?_
              refine tpl (y := (lN (qN (Q0 r)))) (hQL r (by omega)) ?_
              refine lv_iconst (v := (nI 4)) hx hb dL_requested_182 (by decide) ?_
              refine lv_iload hx hb dL_requested_183 (lv_at hl 1 rfl) ?_
              refine lv_imul hx hb dL_requested_185 ?_
              refine tpe (y := (nI (4 * n9))) (pk_mul _ _) ?_
              refine lv_lshr (v := (lN (qN (Q0 r))) >>> ((nI (4 * n9)).toInt64 &&& 63)) hx hb dL_requested_186 rfl ?_
              refine lv_iconst (v := (nI 4)) hx hb dL_requested_187 (by decide) ?_
              refine lv_lshl (v := ((lN (qN (Q0 r))) >>> ((nI (4 * n9)).toInt64 &&& 63)) <<< ((nI 4).toInt64 &&& 63)) hx hb dL_requested_188 rfl ?_
              refine lv_lconst (v := lN 1) hx hb dL_requested_189 rfl ?_
              refine lv_iload hx hb dL_requested_190 (lv_at hl 8 rfl) ?_
              refine lv_i2l (v := (nI t).toInt64) hx hb dL_requested_192 rfl ?_
              refine lv_ladd hx hb dL_requested_193 ?_
              refine lv_lor hx hb dL_requested_194 ?_
              refine lv_iconst (v := (nI 4)) hx hb dL_requested_195 (by decide) ?_
              refine lv_iload hx hb dL_requested_196 (lv_at hl 1 rfl) ?_
              refine lv_imul hx hb dL_requested_198 ?_
              refine tpe (y := (nI (4 * n9))) (pk_mul _ _) ?_
              refine lv_lshl (v := ((((lN (qN (Q0 r))) >>> ((nI (4 * n9)).toInt64 &&& 63)) <<< ((nI 4).toInt64 &&& 63)) ||| ((lN 1) + ((nI t).toInt64))) <<< ((nI (4 * n9)).toInt64 &&& 63)) hx hb dL_requested_199 rfl ?_
              refine lv_lload hx hb dL_requested_200 (lv_at hl 0 rfl) ?_
              refine lv_lor hx hb dL_requested_202 ?_
              refine r_lst (k := r) hx hb hKL hP hD hS 2 rfl (by omega) (by decide) dL_requested_203 (fun H locs hP hD hS => ?_)
              have hP : va_P D vwCl ([(am, .inl (cI, 10, .inl fm)), (aa, .inl (cI, 48, .inl fa)), (aq, .inl (cL, 10, .inr (.inl (vp_updL fq r ((((((lN (qN (Q0 r))) >>> ((nI (4 * n9)).toInt64 &&& 63)) <<< ((nI 4).toInt64 &&& 63)) ||| ((lN 1) + ((nI t).toInt64))) <<< ((nI (4 * n9)).toInt64 &&& 63)) ||| ((lN (qN (Q0 r))) &&& (((lN 1) <<< ((nI (4 * n9)).toInt64 &&& 63)) - (lN 1)))))))), (ag, .inl (cI, 3, .inl fg))]) H := hP
              have hD : va_D A ([(am, .inl (cI, 10, .inl fm)), (aa, .inl (cI, 48, .inl fa)), (aq, .inl (cL, 10, .inr (.inl (vp_updL fq r ((((((lN (qN (Q0 r))) >>> ((nI (4 * n9)).toInt64 &&& 63)) <<< ((nI 4).toInt64 &&& 63)) ||| ((lN 1) + ((nI t).toInt64))) <<< ((nI (4 * n9)).toInt64 &&& 63)) ||| ((lN (qN (Q0 r))) &&& (((lN 1) <<< ((nI (4 * n9)).toInt64 &&& 63)) - (lN 1)))))))), (ag, .inl (cI, 3, .inl fg))]) := hD
              refine lv_aload_n hx hb dL_requested_204 rfl (lv_at hl 4 rfl) ?_
              refine lv_bipush (v := (nI 6)) hx hb dL_requested_205 (by decide) ?_
              refine lv_iload hx hb dL_requested_207 (lv_at hl 8 rfl) ?_
              refine lv_imul hx hb dL_requested_209 ?_
              refine tpe (y := (nI (6 * t))) (pk_mul _ _) ?_
              refine lv_iconst (v := (nI 2)) hx hb dL_requested_210 (by decide) ?_
              refine r_ist (k := (6 * t)) hx hb hK hP hD hS 1 rfl (by omega) (by decide) dL_requested_211 (fun H locs hP hD hS => ?_)
              have hP : va_P D vwCl ([(am, .inl (cI, 10, .inl fm)), (aa, .inl (cI, 48, .inl (upd fa (6 * t) (nI 2)))), (aq, .inl (cL, 10, .inr (.inl (vp_updL fq r ((((((lN (qN (Q0 r))) >>> ((nI (4 * n9)).toInt64 &&& 63)) <<< ((nI 4).toInt64 &&& 63)) ||| ((lN 1) + ((nI t).toInt64))) <<< ((nI (4 * n9)).toInt64 &&& 63)) ||| ((lN (qN (Q0 r))) &&& (((lN 1) <<< ((nI (4 * n9)).toInt64 &&& 63)) - (lN 1)))))))), (ag, .inl (cI, 3, .inl fg))]) H := hP
              have hD : va_D A ([(am, .inl (cI, 10, .inl fm)), (aa, .inl (cI, 48, .inl (upd fa (6 * t) (nI 2)))), (aq, .inl (cL, 10, .inr (.inl (vp_updL fq r ((((((lN (qN (Q0 r))) >>> ((nI (4 * n9)).toInt64 &&& 63)) <<< ((nI 4).toInt64 &&& 63)) ||| ((lN 1) + ((nI t).toInt64))) <<< ((nI (4 * n9)).toInt64 &&& 63)) ||| ((lN (qN (Q0 r))) &&& (((lN 1) <<< ((nI (4 * n9)).toInt64 &&& 63)) - (lN 1)))))))), (ag, .inl (cI, 3, .inl fg))]) := hD
              refine lv_aload_n hx hb dL_requested_212 rfl (lv_at hl 4 rfl) ?_
              refine lv_bipush (v := (nI 6)) hx hb dL_requested_213 (by decide) ?_
              refine lv_iload hx hb dL_requested_215 (lv_at hl 8 rfl) ?_
              refine lv_imul hx hb dL_requested_217 ?_
              refine tpe (y := (nI (6 * t))) (pk_mul _ _) ?_
              refine lv_iconst (v := (nI 4)) hx hb dL_requested_218 (by decide) ?_
              refine lv_iadd hx hb dL_requested_219 ?_
              refine tpe (y := (nI (6 * t + 4))) (nI_add _ _) ?_
              refine lv_iload hx hb dL_requested_220 (lv_at hl 9 rfl) ?_
              refine r_ist (k := (6 * t + 4)) hx hb hK hP hD hS 1 rfl (by omega) (by decide) dL_requested_222 (fun H locs hP hD hS => ?_)
              have hP : va_P D vwCl ([(am, .inl (cI, 10, .inl fm)), (aa, .inl (cI, 48, .inl (upd (upd fa (6 * t) (nI 2)) (6 * t + 4) (nI r)))), (aq, .inl (cL, 10, .inr (.inl (vp_updL fq r ((((((lN (qN (Q0 r))) >>> ((nI (4 * n9)).toInt64 &&& 63)) <<< ((nI 4).toInt64 &&& 63)) ||| ((lN 1) + ((nI t).toInt64))) <<< ((nI (4 * n9)).toInt64 &&& 63)) ||| ((lN (qN (Q0 r))) &&& (((lN 1) <<< ((nI (4 * n9)).toInt64 &&& 63)) - (lN 1)))))))), (ag, .inl (cI, 3, .inl fg))]) H := hP
              have hD : va_D A ([(am, .inl (cI, 10, .inl fm)), (aa, .inl (cI, 48, .inl (upd (upd fa (6 * t) (nI 2)) (6 * t + 4) (nI r)))), (aq, .inl (cL, 10, .inr (.inl (vp_updL fq r ((((((lN (qN (Q0 r))) >>> ((nI (4 * n9)).toInt64 &&& 63)) <<< ((nI 4).toInt64 &&& 63)) ||| ((lN 1) + ((nI t).toInt64))) <<< ((nI (4 * n9)).toInt64 &&& 63)) ||| ((lN (qN (Q0 r))) &&& (((lN 1) <<< ((nI (4 * n9)).toInt64 &&& 63)) - (lN 1)))))))), (ag, .inl (cI, 3, .inl fg))]) := hD
              refine lv_aload_n hx hb dL_requested_223 rfl (lv_at hl 4 rfl) ?_
              refine lv_bipush (v := (nI 6)) hx hb dL_requested_224 (by decide) ?_
              refine lv_iload hx hb dL_requested_226 (lv_at hl 8 rfl) ?_
              refine lv_imul hx hb dL_requested_228 ?_
              refine tpe (y := (nI (6 * t))) (pk_mul _ _) ?_
              refine lv_iconst (v := (nI 5)) hx hb dL_requested_229 (by decide) ?_
              refine lv_iadd hx hb dL_requested_230 ?_
              refine tpe (y := (nI (6 * t + 5))) (nI_add _ _) ?_
              refine lv_iload hx hb dL_requested_231 (lv_at hl 10 rfl) ?_
              refine r_ist (k := (6 * t + 5)) hx hb hK hP hD hS 1 rfl (by omega) (by decide) dL_requested_233 (fun H locs hP hD hS => ?_)
              have hP : va_P D vwCl ([(am, .inl (cI, 10, .inl fm)), (aa, .inl (cI, 48, .inl (upd (upd (upd fa (6 * t) (nI 2)) (6 * t + 4) (nI r)) (6 * t + 5) mo))), (aq, .inl (cL, 10, .inr (.inl (vp_updL fq r ((((((lN (qN (Q0 r))) >>> ((nI (4 * n9)).toInt64 &&& 63)) <<< ((nI 4).toInt64 &&& 63)) ||| ((lN 1) + ((nI t).toInt64))) <<< ((nI (4 * n9)).toInt64 &&& 63)) ||| ((lN (qN (Q0 r))) &&& (((lN 1) <<< ((nI (4 * n9)).toInt64 &&& 63)) - (lN 1)))))))), (ag, .inl (cI, 3, .inl fg))]) H := hP
              have hD : va_D A ([(am, .inl (cI, 10, .inl fm)), (aa, .inl (cI, 48, .inl (upd (upd (upd fa (6 * t) (nI 2)) (6 * t + 4) (nI r)) (6 * t + 5) mo))), (aq, .inl (cL, 10, .inr (.inl (vp_updL fq r ((((((lN (qN (Q0 r))) >>> ((nI (4 * n9)).toInt64 &&& 63)) <<< ((nI 4).toInt64 &&& 63)) ||| ((lN 1) + ((nI t).toInt64))) <<< ((nI (4 * n9)).toInt64 &&& 63)) ||| ((lN (qN (Q0 r))) &&& (((lN 1) <<< ((nI (4 * n9)).toInt64 &&& 63)) - (lN 1)))))))), (ag, .inl (cI, 3, .inl fg))]) := hD
              have hP : va_P D vwCl ([(am, .inl (cI, 10, .inl fm)), (aa, .inl (cI, 48, .inl (wtA fa t r mo))), (aq, .inl (cL, 10, .inr (.inl (vp_updL fq r (iQ (lN (qN (Q0 r))) n9 t))))), (ag, .inl (cI, 3, .inl fg))]) H := hP
              have hD : va_D A ([(am, .inl (cI, 10, .inl fm)), (aa, .inl (cI, 48, .inl (wtA fa t r mo))), (aq, .inl (cL, 10, .inr (.inl (vp_updL fq r (iQ (lN (qN (Q0 r))) n9 t))))), (ag, .inl (cI, 3, .inl fg))]) := hD
              have hpw := pl_wait hs hg
              obtain ⟨F1, hF1⟩ : ∃ G, G = plF F Q0 t r mo := ⟨_, rfl⟩
              obtain ⟨Q1, hQ1e⟩ : ∃ G, G = plQ F Q0 t r mo := ⟨_, rfl⟩
              have e1 : F1 = up (up F 3 t (nI r)) 4 t mo := hF1.trans hpw.1
              have e2 : Q1 = updQ Q0 r (insQ (Q0 r) n9 t) := by rw [hQ1e, hpw.2.1, hn9]
              have hJ1 : JJ F1 Q1 := by rw [hF1, hQ1e]; exact JJ_pl hJ ht hr h3 h0 hmo
              have hM1 : MM F1 fm := MM_cg hM (by rw [e1, up_ne (by decide), up_ne (by decide)])
              have hZ1 : ZA F1 (wtA fa t r mo) := by rw [e1]; exact ZA_wt hZ ht hr h0
              have hQ1 : QL Q1 (vp_updL fq r (iQ (lN (qN (Q0 r))) n9 t)) := by rw [e2]; exact QL_ins2 hJ hQL hr ht hnle h8
              have hG1 : GG F1 fg := GG_cg hG (by rw [e1, up_ne (by decide), up_ne (by decide)])
              refine lv_iconst (v := (nI 0)) hx hb dL_requested_234 (by decide) ?_
              refine lv_istore (lv' := [(12, .int (nI 0)), (10, .long ((lN (qN (Q0 r))) &&& (((lN 1) <<< ((nI (4 * n9)).toInt64 &&& 63)) - (lN 1)))), (9, .int (nI n9)), (8, .int (nI 1)), (7, .int (lk F t r)), (0, .ref aa), (1, .ref am), (2, .ref aq), (3, .ref ag), (4, .int (nI t)), (5, .int (nI r)), (6, .int mo)]) hx hb dL_requested_235 hl (by decide) rfl (fun ls hl => ?_)
              have L237 : ∀ (N : Nat) (i : Nat) (V : Nat) (Fc : FF) (Qc : QQ) (fm2 : Nat → Int32) (fa2 : Nat → Int32) (fq2 : Nat → Int64) (fg2 : Nat → Int32), (brI t F1 Q1 i Fc Qc V) → (i + nW Fc 8 ≤ 8) → (V < 2 ^ 8) → (JJ Fc Qc) → (MM Fc fm2) → (ZA Fc fa2) → (QL Qc fq2) → (GG Fc fg2) → (nW Fc 8) < N → ∀ (H : Heap) (locs : List Loc), va_P D vwCl ([(am, .inl (cI, 10, .inl fm2)), (aa, .inl (cI, 48, .inl fa2)), (aq, .inl (cL, 10, .inr (.inl fq2))), (ag, .inl (cI, 3, .inl fg2))]) H → va_D A ([(am, .inl (cI, 10, .inl fm2)), (aa, .inl (cI, 48, .inl fa2)), (aq, .inl (cL, 10, .inr (.inl fq2))), (ag, .inl (cI, 3, .inl fg2))]) → va_S A s.heap H locs → ∀ ls : Array Slot, lv_has ls 14 [(0, .ref aa), (1, .ref am), (2, .ref aq), (3, .ref ag), (4, .int (nI t)), (5, .int (nI r)), (6, .int mo), (12, .int (nI V))] → W p l e rL_requested s m args below meth c H locs 0 0 Q (F0 m 237 ls []) := by
                intro N237
                induction N237 with
                | zero => intro i V Fc Qc fm2 fa2 fq2 fg2 hI hc hV8 hJc hM2 hZ2 hQ2 hG2 hN; exact absurd hN (Nat.not_lt_zero _)
                | succ N237 ih237 =>
                  intro i V Fc Qc fm2 fa2 fq2 fg2 hI hc hV8 hJc hM2 hZ2 hQ2 hG2 hN H locs hP hD hS ls hl
                  have hV31 : V < 2 ^ 31 := by omega
                  refine lv_aload_n hx hb dL_requested_237 rfl (lv_at hl 0 rfl) ?_
                  refine lv_bipush (v := (nI 6)) hx hb dL_requested_238 (by decide) ?_
                  refine lv_iload hx hb dL_requested_240 (lv_at hl 4 rfl) ?_
                  refine lv_imul hx hb dL_requested_242 ?_
                  refine tpe (y := (nI (6 * t))) (pk_mul _ _) ?_
                  refine r_ild (k := (6 * t)) hx hb hK hP 1 rfl (by omega) (by decide) dL_requested_243 ?_
                  refine tpe (y := (stI Fc t)) (ZA0 hZ2 (by omega)) ?_
                  refine lv_iconst (v := (nI 2)) hx hb dL_requested_244 (by decide) ?_
                  refine lv_icmp_ne (tgt := 343) hx hb dL_requested_245 (by decide) (fun h_55 => ?_) (fun h_55 => ?_)
                  · have h_55 := h_55
                    have hv9e : vic Fc Qc t = 8 := vic_n (SR_none hJc ht (Decidable.byContradiction (fun q => h_55 ((st_w hJc ht).mpr q))))
                    have hbe := brI_e (Or.inr hv9e) hI
                    have haw := ask_y (pl_wait hs hg).2.2
                    have hao := ask_out hJ ht hr h3 h0 hmo hs hg
                    rw [← hF1, ← hQ1e] at haw hao
                    have ea1 : Fc = askF F Q0 t r mo := hbe.1.trans haw.1.symm
                    have ea2 : Qc = askQ F Q0 t r mo := hbe.2.1.trans haw.2.1.symm
                    have ea3 : V = askV F Q0 t r mo := hbe.2.2.trans haw.2.2.symm
                    rw [← hbe.1, ← hbe.2.2] at hao
                    refine lv_bipush (v := (nI 8)) hx hb dL_requested_343 (by decide) ?_
                    refine lv_iload hx hb dL_requested_345 (lv_at hl 7 rfl) ?_
                    refine lv_imul hx hb dL_requested_347 ?_
                    refine tpe (y := (nI (8 * V))) (pk_mul _ _) ?_
                    refine lv_iload hx hb dL_requested_348 (lv_at hl 7 rfl) ?_
                    refine lv_iload hx hb dL_requested_350 (lv_at hl 4 rfl) ?_
                    refine lv_ishr hx hb dL_requested_352 ?_
                    refine lv_iconst (v := (nI 1)) hx hb dL_requested_353 (by decide) ?_
                    refine lv_iand hx hb dL_requested_354 ?_
                    refine tpe (y := (nI (bitN V t))) (tb_I hV31 ht) ?_
                    refine lv_iconst (v := (nI 1)) hx hb dL_requested_355 (by decide) ?_
                    refine lv_icmp_ne (tgt := 363) hx hb dL_requested_356 (by decide) (fun h_56 => ?_) (fun h_56 => ?_)
                    · have h_56 := mt (nI_eq (a := (bitN V t)) (b := 1) (bitN_lt _ _) (by decide)).mpr h_56
                      refine lv_aload_n hx hb dL_requested_363 rfl (lv_at hl 0 rfl) ?_
                      refine lv_bipush (v := (nI 6)) hx hb dL_requested_364 (by decide) ?_
                      refine lv_iload hx hb dL_requested_366 (lv_at hl 4 rfl) ?_
                      refine lv_imul hx hb dL_requested_368 ?_
                      refine tpe (y := (nI (6 * t))) (pk_mul _ _) ?_
                      refine r_ild (k := (6 * t)) hx hb hK hP 1 rfl (by omega) (by decide) dL_requested_369 ?_
                      refine tpe (y := (stI Fc t)) (ZA0 hZ2 (by omega)) ?_
                      refine lv_iconst (v := (nI 2)) hx hb dL_requested_370 (by decide) ?_
                      refine lv_icmp_ne (tgt := 378) hx hb dL_requested_371 (by decide) (fun h_57 => ?_) (fun h_57 => ?_)
                      · have h_57 := h_57
                        refine lv_iconst (v := (nI 1)) hx hb dL_requested_378 (by decide) ?_
                        refine lv_iadd hx hb dL_requested_379 ?_
                        refine tpe (y := (nI (8 * V + 1))) (nI_add _ _) ?_
                        have eo := outN_of (hao.2.2 h_56 h_57) (by decide)
                        exact ret_i (u := (fm2, fa2, fq2, fg2)) hQ hx hb hrt hlk hS dL_requested_380 hP ⟨by rw [← ea1, ← ea3, eo], by rw [← ea1]; exact hM2, by rw [← ea1]; exact hZ2, by rw [← ea2]; exact hQ2, by rw [← ea1]; exact hG2⟩
                      · have h_57 := h_57
                        refine lv_iconst (v := (nI 2)) hx hb dL_requested_374 (by decide) ?_
                        refine lv_goto (tgt := 379) hx hb dL_requested_375 (by decide) ?_
                        refine lv_iadd hx hb dL_requested_379 ?_
                        refine tpe (y := (nI (8 * V + 2))) (nI_add _ _) ?_
                        have eo := outN_of (hao.2.1 h_56 h_57) (by decide)
                        exact ret_i (u := (fm2, fa2, fq2, fg2)) hQ hx hb hrt hlk hS dL_requested_380 hP ⟨by rw [← ea1, ← ea3, eo], by rw [← ea1]; exact hM2, by rw [← ea1]; exact hZ2, by rw [← ea2]; exact hQ2, by rw [← ea1]; exact hG2⟩
                    · have h_56 := (nI_eq (a := (bitN V t)) (b := 1) (bitN_lt _ _) (by decide)).mp h_56
                      refine lv_iconst (v := (nI 3)) hx hb dL_requested_359 (by decide) ?_
                      refine lv_goto (tgt := 379) hx hb dL_requested_360 (by decide) ?_
                      refine lv_iadd hx hb dL_requested_379 ?_
                      refine tpe (y := (nI (8 * V + 3))) (nI_add _ _) ?_
                      have eo := outN_of (hao.1 h_56) (by decide)
                      exact ret_i (u := (fm2, fa2, fq2, fg2)) hQ hx hb hrt hlk hS dL_requested_380 hP ⟨by rw [← ea1, ← ea3, eo], by rw [← ea1]; exact hM2, by rw [← ea1]; exact hZ2, by rw [← ea2]; exact hQ2, by rw [← ea1]; exact hG2⟩
                  · have h_55 := h_55
                    refine lv_aload_n hx hb dL_requested_248 rfl (lv_at hl 0 rfl) ?_
                    refine lv_aload_n hx hb dL_requested_249 rfl (lv_at hl 1 rfl) ?_
                    refine lv_aload_n hx hb dL_requested_250 rfl (lv_at hl 2 rfl) ?_
                    refine lv_iload hx hb dL_requested_251 (lv_at hl 4 rfl) ?_
                    refine call_l (X := []) (Wc := [(am, .inl (cI, 10, .inl fm2)), (aa, .inl (cI, 48, .inl fa2)), (aq, .inl (cL, 10, .inr (.inl fq2)))]) (Z := [(ag, .inl (cI, 3, .inl fg2))]) (As := [.ref aa, .ref am, .ref aq, .int (nI t)]) (rest := []) ⟨hx, hb, hml, hown, hts⟩ (c_L_victim l D cI cT cL am aa aq fm2 fa2 fq2 Fc Qc t (by omega) hJc hM2 hZ2 hQ2) (va_cwS 4 hts gL_requested_L_victim rfl rfl rfl (by decide +kernel) ⟨Nat.le_of_ble_eq_true rfl, Nat.le_of_ble_eq_true rfl⟩) hKL hP hD hS hA (fun _ => adw3) rfl hl.1 rfl (Nat.le_of_ble_eq_true rfl) ⟨by decide, by decide⟩ dL_requested_253 (fun rv uu H locs hp hP hD hS => ?_)
                    obtain rfl := hp
                    have hP : va_P D vwCl ([(am, .inl (cI, 10, .inl fm2)), (aa, .inl (cI, 48, .inl fa2)), (aq, .inl (cL, 10, .inr (.inl fq2))), (ag, .inl (cI, 3, .inl fg2))]) H := hP
                    have hD : va_D A ([(am, .inl (cI, 10, .inl fm2)), (aa, .inl (cI, 48, .inl fa2)), (aq, .inl (cL, 10, .inr (.inl fq2))), (ag, .inl (cI, 3, .inl fg2))]) := hD
                    refine lv_istore (lv' := [(13, .int (bI (vic Fc Qc t))), (0, .ref aa), (1, .ref am), (2, .ref aq), (3, .ref ag), (4, .int (nI t)), (5, .int (nI r)), (6, .int mo), (12, .int (nI V))]) hx hb dL_requested_256 hl (by decide) rfl (fun ls hl => ?_)
                    refine lv_iload hx hb dL_requested_258 (lv_at hl 0 rfl) ?_
                    refine lv_if_ge (tgt := 266) hx hb dL_requested_260 (by decide) (fun h_58 => ?_) (fun h_58 => ?_)
                    · have h_58 := h_58
                      have hvn := (bI_nn (vic_le Fc Qc t)).mp h_58
                      rw [bI_some hvn] at hl
                      have hvy := vic_y hJc ht (fun q => hvn (vic_n q))
                      have hnb := nW_br hJc hvy.1 hvy.2
                      have hbs : i < 8 := by omega
                      have hbr := brI_s hbs hvn hI
                      obtain ⟨v9, hv9⟩ : ∃ v, v = vic Fc Qc t := ⟨_, rfl⟩
                      rw [← hv9] at hl hvn hvy hnb hbr
                      have hv8 := hvy.1
                      refine lv_iload hx hb dL_requested_266 (lv_at hl 8 rfl) ?_
                      refine lv_iconst (v := (nI 1)) hx hb dL_requested_268 (by decide) ?_
                      refine lv_iload hx hb dL_requested_269 (lv_at hl 0 rfl) ?_
                      refine lv_ishl hx hb dL_requested_271 ?_
                      refine lv_ior hx hb dL_requested_272 ?_
                      refine tpe (y := (nI (V ||| 2 ^ v9))) (or_sh hv8) ?_
                      refine lv_istore (lv' := [(12, .int (nI (V ||| 2 ^ v9))), (13, .int (nI v9)), (0, .ref aa), (1, .ref am), (2, .ref aq), (3, .ref ag), (4, .int (nI t)), (5, .int (nI r)), (6, .int mo)]) hx hb dL_requested_273 hl (by decide) rfl (fun ls hl => ?_)
                      refine lv_aload_n hx hb dL_requested_275 rfl (lv_at hl 5 rfl) ?_
                      refine lv_iconst (v := (nI 1)) hx hb dL_requested_276 (by decide) ?_
                      refine lv_dup2_11 hx hb dL_requested_277 rfl rfl ?_
                      refine r_ild (k := 1) hx hb hK hP 3 rfl (by omega) (by decide) dL_requested_278 ?_
                      refine lv_iconst (v := (nI 1)) hx hb dL_requested_279 (by decide) ?_
                      refine lv_iadd hx hb dL_requested_280 ?_
                      refine r_ist (k := 1) hx hb hK hP hD hS 3 rfl (by omega) (by decide) dL_requested_281 (fun H locs hP hD hS => ?_)
                      have hP : va_P D vwCl ([(am, .inl (cI, 10, .inl fm2)), (aa, .inl (cI, 48, .inl fa2)), (aq, .inl (cL, 10, .inr (.inl fq2))), (ag, .inl (cI, 3, .inl (upd fg2 1 ((fg2 1) + (nI 1)))))]) H := hP
                      have hD : va_D A ([(am, .inl (cI, 10, .inl fm2)), (aa, .inl (cI, 48, .inl fa2)), (aq, .inl (cL, 10, .inr (.inl fq2))), (ag, .inl (cI, 3, .inl (upd fg2 1 ((fg2 1) + (nI 1)))))]) := hD
                      refine lv_aload_n hx hb dL_requested_282 rfl (lv_at hl 5 rfl) ?_
                      refine lv_iconst (v := (nI 2)) hx hb dL_requested_283 (by decide) ?_
                      refine lv_dup2_11 hx hb dL_requested_284 rfl rfl ?_
                      refine r_ild (k := 2) hx hb hK hP 3 rfl (by omega) (by decide) dL_requested_285 ?_
                      refine lv_aload_n hx hb dL_requested_286 rfl (lv_at hl 2 rfl) ?_
                      refine lv_bipush (v := (nI 6)) hx hb dL_requested_287 (by decide) ?_
                      refine lv_iload hx hb dL_requested_289 (lv_at hl 1 rfl) ?_
                      refine lv_imul hx hb dL_requested_291 ?_
                      refine tpe (y := (nI (6 * v9))) (pk_mul _ _) ?_
                      refine lv_iconst (v := (nI 1)) hx hb dL_requested_292 (by decide) ?_
                      refine lv_iadd hx hb dL_requested_293 ?_
                      refine tpe (y := (nI (6 * v9 + 1))) (nI_add _ _) ?_
                      refine r_ild (k := (6 * v9 + 1)) hx hb hK hP 1 rfl (by omega) (by decide) dL_requested_294 ?_
                      refine tpe (y := (Fc 1 v9)) (ZA1 hZ2 (by omega)) ?_
                      refine lv_iadd hx hb dL_requested_295 ?_
                      refine r_ist (k := 2) hx hb hK hP hD hS 3 rfl (by omega) (by decide) dL_requested_296 (fun H locs hP hD hS => ?_)
                      have hP : va_P D vwCl ([(am, .inl (cI, 10, .inl fm2)), (aa, .inl (cI, 48, .inl fa2)), (aq, .inl (cL, 10, .inr (.inl fq2))), (ag, .inl (cI, 3, .inl (upd (upd fg2 1 ((fg2 1) + (nI 1))) 2 (((upd fg2 1 ((fg2 1) + (nI 1))) 2) + (Fc 1 v9)))))]) H := hP
                      have hD : va_D A ([(am, .inl (cI, 10, .inl fm2)), (aa, .inl (cI, 48, .inl fa2)), (aq, .inl (cL, 10, .inr (.inl fq2))), (ag, .inl (cI, 3, .inl (upd (upd fg2 1 ((fg2 1) + (nI 1))) 2 (((upd fg2 1 ((fg2 1) + (nI 1))) 2) + (Fc 1 v9)))))]) := hD
                      have hP : va_P D vwCl ([(am, .inl (cI, 10, .inl fm2)), (aa, .inl (cI, 48, .inl fa2)), (aq, .inl (cL, 10, .inr (.inl fq2))), (ag, .inl (cI, 3, .inl (bkG fg2 (Fc 1 v9))))]) H := hP
                      have hD : va_D A ([(am, .inl (cI, 10, .inl fm2)), (aa, .inl (cI, 48, .inl fa2)), (aq, .inl (cL, 10, .inr (.inl fq2))), (ag, .inl (cI, 3, .inl (bkG fg2 (Fc 1 v9))))]) := hD
                      refine lv_aload_n hx hb dL_requested_297 rfl (lv_at hl 2 rfl) ?_
                      refine lv_aload_n hx hb dL_requested_298 rfl (lv_at hl 4 rfl) ?_
                      refine lv_iload hx hb dL_requested_299 (lv_at hl 1 rfl) ?_
                      refine call_lv (X := [(am, .inl (cI, 10, .inl fm2))]) (Wc := [(aa, .inl (cI, 48, .inl fa2)), (aq, .inl (cL, 10, .inr (.inl fq2)))]) (Z := [(ag, .inl (cI, 3, .inl (bkG fg2 (Fc 1 v9))))]) (As := [.ref aa, .ref aq, .int (nI v9)]) (rest := []) ⟨hx, hb, hml, hown, hts⟩ (c_L_remove l D cI cT cL aa aq fa2 fq2 Fc Qc v9 (by omega) hvy.2 hJc hZ2 hQ2) (va_cwS 3 hts gL_requested_L_remove rfl rfl rfl (by decide +kernel) ⟨Nat.le_of_ble_eq_true rfl, Nat.le_of_ble_eq_true rfl⟩) hKL hP hD hS hA (fun _ => adw2) rfl hl.1 rfl (Nat.le_of_ble_eq_true rfl) ⟨by decide, by decide⟩ dL_requested_301 (fun uu H locs hp hP hD hS => ?_)
                      obtain ⟨fa26, fq26⟩ := uu
                      obtain ⟨hZ26, hQ26⟩ := hp
                      dsimp only at hZ26 hQ26
                      have hJ26 := JJ_rm hJc (show v9 < 8 by omega)
                      have hMr26 := MM_cg (F' := rmF Fc v9) hM2 (rmF_ne (by decide))
                      have hP : va_P D vwCl ([(am, .inl (cI, 10, .inl fm2)), (aa, .inl (cI, 48, .inl fa26)), (aq, .inl (cL, 10, .inr (.inl fq26))), (ag, .inl (cI, 3, .inl (bkG fg2 (Fc 1 v9))))]) H := hP
                      have hD : va_D A ([(am, .inl (cI, 10, .inl fm2)), (aa, .inl (cI, 48, .inl fa26)), (aq, .inl (cL, 10, .inr (.inl fq26))), (ag, .inl (cI, 3, .inl (bkG fg2 (Fc 1 v9))))]) := hD
                      refine lv_aload_n hx hb dL_requested_304 rfl (lv_at hl 3 rfl) ?_
                      refine lv_iload hx hb dL_requested_305 (lv_at hl 1 rfl) ?_
                      refine call_lv (X := []) (Wc := [(am, .inl (cI, 10, .inl fm2))]) (Z := [(aa, .inl (cI, 48, .inl fa26)), (aq, .inl (cL, 10, .inr (.inl fq26))), (ag, .inl (cI, 3, .inl (bkG fg2 (Fc 1 v9))))]) (As := [.ref am, .int (nI v9)]) (rest := []) ⟨hx, hb, hml, hown, hts⟩ (c_L_release l D cI cT cL am fm2 (rmF Fc v9) v9 (by omega) hMr26) (va_cwS 2 hts gL_requested_L_release rfl rfl rfl (by decide +kernel) ⟨Nat.le_of_ble_eq_true rfl, Nat.le_of_ble_eq_true rfl⟩) hKL hP hD hS hA (fun _ => adw1) rfl hl.1 rfl (Nat.le_of_ble_eq_true rfl) ⟨by decide, by decide⟩ dL_requested_307 (fun uu H locs hp hP hD hS => ?_)
                      obtain ⟨fm27, efm27⟩ : ∃ f, f = uu := ⟨_, rfl⟩
                      rw [← efm27] at hP hD hp
                      have hM27 := hp
                      have hZr27 := ZA_rel (t := v9) hZ26
                      have hP : va_P D vwCl ([(am, .inl (cI, 10, .inl fm27)), (aa, .inl (cI, 48, .inl fa26)), (aq, .inl (cL, 10, .inr (.inl fq26))), (ag, .inl (cI, 3, .inl (bkG fg2 (Fc 1 v9))))]) H := hP
                      have hD : va_D A ([(am, .inl (cI, 10, .inl fm27)), (aa, .inl (cI, 48, .inl fa26)), (aq, .inl (cL, 10, .inr (.inl fq26))), (ag, .inl (cI, 3, .inl (bkG fg2 (Fc 1 v9))))]) := hD
                      refine lv_aload_n hx hb dL_requested_310 rfl (lv_at hl 2 rfl) ?_
                      refine lv_bipush (v := (nI 6)) hx hb dL_requested_311 (by decide) ?_
                      refine lv_iload hx hb dL_requested_313 (lv_at hl 1 rfl) ?_
                      refine lv_imul hx hb dL_requested_315 ?_
                      refine tpe (y := (nI (6 * v9))) (pk_mul _ _) ?_
                      refine lv_iconst (v := (nI 1)) hx hb dL_requested_316 (by decide) ?_
                      refine lv_iadd hx hb dL_requested_317 ?_
                      refine tpe (y := (nI (6 * v9 + 1))) (nI_add _ _) ?_
                      refine lv_iconst (v := (nI 0)) hx hb dL_requested_318 (by decide) ?_
                      refine r_ist (k := (6 * v9 + 1)) hx hb hK hP hD hS 1 rfl (by omega) (by decide) dL_requested_319 (fun H locs hP hD hS => ?_)
                      have hP : va_P D vwCl ([(am, .inl (cI, 10, .inl fm27)), (aa, .inl (cI, 48, .inl (upd fa26 (6 * v9 + 1) (nI 0)))), (aq, .inl (cL, 10, .inr (.inl fq26))), (ag, .inl (cI, 3, .inl (bkG fg2 (Fc 1 v9))))]) H := hP
                      have hD : va_D A ([(am, .inl (cI, 10, .inl fm27)), (aa, .inl (cI, 48, .inl (upd fa26 (6 * v9 + 1) (nI 0)))), (aq, .inl (cL, 10, .inr (.inl fq26))), (ag, .inl (cI, 3, .inl (bkG fg2 (Fc 1 v9))))]) := hD
                      refine lv_aload_n hx hb dL_requested_320 rfl (lv_at hl 2 rfl) ?_
                      refine lv_bipush (v := (nI 6)) hx hb dL_requested_321 (by decide) ?_
                      refine lv_iload hx hb dL_requested_323 (lv_at hl 1 rfl) ?_
                      refine lv_imul hx hb dL_requested_325 ?_
                      refine tpe (y := (nI (6 * v9))) (pk_mul _ _) ?_
                      refine lv_iconst (v := (nI 2)) hx hb dL_requested_326 (by decide) ?_
                      refine lv_iadd hx hb dL_requested_327 ?_
                      refine tpe (y := (nI (6 * v9 + 2))) (nI_add _ _) ?_
                      refine lv_dup2_11 hx hb dL_requested_328 rfl rfl ?_
                      refine r_ild (k := (6 * v9 + 2)) hx hb hK hP 1 rfl (by omega) (by decide) dL_requested_329 ?_
                      refine lv_iconst (v := (nI 1)) hx hb dL_requested_330 (by decide) ?_
                      refine lv_iadd hx hb dL_requested_331 ?_
                      refine r_ist (k := (6 * v9 + 2)) hx hb hK hP hD hS 1 rfl (by omega) (by decide) dL_requested_332 (fun H locs hP hD hS => ?_)
                      have hP : va_P D vwCl ([(am, .inl (cI, 10, .inl fm27)), (aa, .inl (cI, 48, .inl (upd (upd fa26 (6 * v9 + 1) (nI 0)) (6 * v9 + 2) (((upd fa26 (6 * v9 + 1) (nI 0)) (6 * v9 + 2)) + (nI 1))))), (aq, .inl (cL, 10, .inr (.inl fq26))), (ag, .inl (cI, 3, .inl (bkG fg2 (Fc 1 v9))))]) H := hP
                      have hD : va_D A ([(am, .inl (cI, 10, .inl fm27)), (aa, .inl (cI, 48, .inl (upd (upd fa26 (6 * v9 + 1) (nI 0)) (6 * v9 + 2) (((upd fa26 (6 * v9 + 1) (nI 0)) (6 * v9 + 2)) + (nI 1))))), (aq, .inl (cL, 10, .inr (.inl fq26))), (ag, .inl (cI, 3, .inl (bkG fg2 (Fc 1 v9))))]) := hD
                      have hP : va_P D vwCl ([(am, .inl (cI, 10, .inl fm27)), (aa, .inl (cI, 48, .inl (abA fa26 v9))), (aq, .inl (cL, 10, .inr (.inl fq26))), (ag, .inl (cI, 3, .inl (bkG fg2 (Fc 1 v9))))]) H := hP
                      have hD : va_D A ([(am, .inl (cI, 10, .inl fm27)), (aa, .inl (cI, 48, .inl (abA fa26 v9))), (aq, .inl (cL, 10, .inr (.inl fq26))), (ag, .inl (cI, 3, .inl (bkG fg2 (Fc 1 v9))))]) := hD
                      have hMb := MM_ab hM27
                      have hZb := ZA_ab hZr27 hv8
                      have hJb := JJ_ab hJc hv8
                      have hGb := GG_srv hJb (GG_bk (v := v9) hG2)
                      refine lv_aload_n hx hb dL_requested_333 rfl (lv_at hl 2 rfl) ?_
                      refine lv_aload_n hx hb dL_requested_334 rfl (lv_at hl 3 rfl) ?_
                      refine lv_aload_n hx hb dL_requested_335 rfl (lv_at hl 4 rfl) ?_
                      refine call_l (X := []) (Wc := [(am, .inl (cI, 10, .inl fm27)), (aa, .inl (cI, 48, .inl (abA fa26 v9))), (aq, .inl (cL, 10, .inr (.inl fq26)))]) (Z := [(ag, .inl (cI, 3, .inl (bkG fg2 (Fc 1 v9))))]) (As := [.ref aa, .ref am, .ref aq]) (rest := []) ⟨hx, hb, hml, hown, hts⟩ (c_L_serve l D cI cT cL am aa aq fm27 (abA fa26 v9) fq26 (abF Fc v9) (rmQ Fc Qc v9) hJb hMb hZb hQ26) (va_cwS 3 hts gL_requested_L_serve rfl rfl rfl (by decide +kernel) ⟨Nat.le_of_ble_eq_true rfl, Nat.le_of_ble_eq_true rfl⟩) hKL hP hD hS hA (fun _ => adw3) rfl hl.1 rfl (Nat.le_of_ble_eq_true rfl) ⟨by decide, by decide⟩ dL_requested_336 (fun rv uu H locs hp hP hD hS => ?_)
                      obtain ⟨fm28, fa28, fq28⟩ := uu
                      obtain ⟨rfl, hM28, hZ28, hQ28⟩ := hp
                      dsimp only at hM28 hZ28 hQ28
                      have hJ28 := JJ_srv hJb
                      have hP : va_P D vwCl ([(am, .inl (cI, 10, .inl fm28)), (aa, .inl (cI, 48, .inl fa28)), (aq, .inl (cL, 10, .inr (.inl fq28))), (ag, .inl (cI, 3, .inl (bkG fg2 (Fc 1 v9))))]) H := hP
                      have hD : va_D A ([(am, .inl (cI, 10, .inl fm28)), (aa, .inl (cI, 48, .inl fa28)), (aq, .inl (cL, 10, .inr (.inl fq28))), (ag, .inl (cI, 3, .inl (bkG fg2 (Fc 1 v9))))]) := hD
                      refine lv_pop hx hb dL_requested_339 rfl ?_
                      refine lv_goto (tgt := 237) hx hb dL_requested_340 (by decide) ?_
                      exact ih237 (i + 1) (V ||| 2 ^ v9) (srvF (abF Fc v9) (rmQ Fc Qc v9)) (srvQ (abF Fc v9) (rmQ Fc Qc v9)) fm28 fa28 fq28 (bkG fg2 (Fc 1 v9)) hbr (by omega) (Nat.or_lt_two_pow hV8 (Nat.pow_lt_pow_right (by decide) hv8)) hJ28 hM28 hZ28 hQ28 hGb (by omega) _ _ hP hD hS _ (lv_sub hl [2, 3, 4, 5, 6, 7, 8, 0] rfl)
                    · have h_58 := h_58
                      refine lv_goto (tgt := 343) hx hb dL_requested_263 (by decide) ?_
                      have hv9e : vic Fc Qc t = 8 := Decidable.byContradiction (fun q => h_58 ((bI_nn (vic_le Fc Qc t)).mpr q))
                      have hbe := brI_e (Or.inr hv9e) hI
                      have haw := ask_y (pl_wait hs hg).2.2
                      have hao := ask_out hJ ht hr h3 h0 hmo hs hg
                      rw [← hF1, ← hQ1e] at haw hao
                      have ea1 : Fc = askF F Q0 t r mo := hbe.1.trans haw.1.symm
                      have ea2 : Qc = askQ F Q0 t r mo := hbe.2.1.trans haw.2.1.symm
                      have ea3 : V = askV F Q0 t r mo := hbe.2.2.trans haw.2.2.symm
                      rw [← hbe.1, ← hbe.2.2] at hao
                      refine lv_bipush (v := (nI 8)) hx hb dL_requested_343 (by decide) ?_
                      refine lv_iload hx hb dL_requested_345 (lv_at hl 8 rfl) ?_
                      refine lv_imul hx hb dL_requested_347 ?_
                      refine tpe (y := (nI (8 * V))) (pk_mul _ _) ?_
                      refine lv_iload hx hb dL_requested_348 (lv_at hl 8 rfl) ?_
                      refine lv_iload hx hb dL_requested_350 (lv_at hl 5 rfl) ?_
                      refine lv_ishr hx hb dL_requested_352 ?_
                      refine lv_iconst (v := (nI 1)) hx hb dL_requested_353 (by decide) ?_
                      refine lv_iand hx hb dL_requested_354 ?_
                      refine tpe (y := (nI (bitN V t))) (tb_I hV31 ht) ?_
                      refine lv_iconst (v := (nI 1)) hx hb dL_requested_355 (by decide) ?_
                      refine lv_icmp_ne (tgt := 363) hx hb dL_requested_356 (by decide) (fun h_59 => ?_) (fun h_59 => ?_)
                      · have h_59 := mt (nI_eq (a := (bitN V t)) (b := 1) (bitN_lt _ _) (by decide)).mpr h_59
                        refine lv_aload_n hx hb dL_requested_363 rfl (lv_at hl 1 rfl) ?_
                        refine lv_bipush (v := (nI 6)) hx hb dL_requested_364 (by decide) ?_
                        refine lv_iload hx hb dL_requested_366 (lv_at hl 5 rfl) ?_
                        refine lv_imul hx hb dL_requested_368 ?_
                        refine tpe (y := (nI (6 * t))) (pk_mul _ _) ?_
                        refine r_ild (k := (6 * t)) hx hb hK hP 1 rfl (by omega) (by decide) dL_requested_369 ?_
                        refine tpe (y := (stI Fc t)) (ZA0 hZ2 (by omega)) ?_
                        refine lv_iconst (v := (nI 2)) hx hb dL_requested_370 (by decide) ?_
                        refine lv_icmp_ne (tgt := 378) hx hb dL_requested_371 (by decide) (fun h_60 => ?_) (fun h_60 => ?_)
                        · have h_60 := h_60
                          refine lv_iconst (v := (nI 1)) hx hb dL_requested_378 (by decide) ?_
                          refine lv_iadd hx hb dL_requested_379 ?_
                          refine tpe (y := (nI (8 * V + 1))) (nI_add _ _) ?_
                          have eo := outN_of (hao.2.2 h_59 h_60) (by decide)
                          exact ret_i (u := (fm2, fa2, fq2, fg2)) hQ hx hb hrt hlk hS dL_requested_380 hP ⟨by rw [← ea1, ← ea3, eo], by rw [← ea1]; exact hM2, by rw [← ea1]; exact hZ2, by rw [← ea2]; exact hQ2, by rw [← ea1]; exact hG2⟩
                        · have h_60 := h_60
                          refine lv_iconst (v := (nI 2)) hx hb dL_requested_374 (by decide) ?_
                          refine lv_goto (tgt := 379) hx hb dL_requested_375 (by decide) ?_
                          refine lv_iadd hx hb dL_requested_379 ?_
                          refine tpe (y := (nI (8 * V + 2))) (nI_add _ _) ?_
                          have eo := outN_of (hao.2.1 h_59 h_60) (by decide)
                          exact ret_i (u := (fm2, fa2, fq2, fg2)) hQ hx hb hrt hlk hS dL_requested_380 hP ⟨by rw [← ea1, ← ea3, eo], by rw [← ea1]; exact hM2, by rw [← ea1]; exact hZ2, by rw [← ea2]; exact hQ2, by rw [← ea1]; exact hG2⟩
                      · have h_59 := (nI_eq (a := (bitN V t)) (b := 1) (bitN_lt _ _) (by decide)).mp h_59
                        refine lv_iconst (v := (nI 3)) hx hb dL_requested_359 (by decide) ?_
                        refine lv_goto (tgt := 379) hx hb dL_requested_360 (by decide) ?_
                        refine lv_iadd hx hb dL_requested_379 ?_
                        refine tpe (y := (nI (8 * V + 3))) (nI_add _ _) ?_
                        have eo := outN_of (hao.1 h_59) (by decide)
                        exact ret_i (u := (fm2, fa2, fq2, fg2)) hQ hx hb hrt hlk hS dL_requested_380 hP ⟨by rw [← ea1, ← ea3, eo], by rw [← ea1]; exact hM2, by rw [← ea1]; exact hZ2, by rw [← ea2]; exact hQ2, by rw [← ea1]; exact hG2⟩
              exact L237 _ 0 0 F1 Q1 fm (wtA fa t r mo) (vp_updL fq r (iQ (lN (qN (Q0 r))) n9 t)) fg brI_0 (by have := nW_le (F := F1) 8; omega) (by decide) hJ1 hM1 hZ1 hQ1 hG1 (Nat.lt_succ_self _) _ _ hP hD hS _ (lv_sub hl [5, 6, 7, 8, 9, 10, 11, 0] rfl)
            · have h_52 := mt (nI_eq (a := ((alN (fun w => !rivB F t r mo w) 8).toNat)) (b := 0) (bool_lt _) (by decide)).mpr h_52
              have hg := plG_2 ((len_eq hJ hr).mp h_43) (b1 h_52)
              refine lv_aload_n hx hb dL_requested_86 rfl (lv_at hl 2 rfl) ?_
              refine lv_aload_n hx hb dL_requested_87 rfl (lv_at hl 3 rfl) ?_
              refine lv_iload hx hb dL_requested_88 (lv_at hl 6 rfl) ?_
              refine lv_iload hx hb dL_requested_90 (lv_at hl 7 rfl) ?_
              refine lv_iload hx hb dL_requested_92 (lv_at hl 8 rfl) ?_
              refine call_lv (X := []) (Wc := [(am, .inl (cI, 10, .inl fm)), (aa, .inl (cI, 48, .inl fa))]) (Z := [(aq, .inl (cL, 10, .inr (.inl fq))), (ag, .inl (cI, 3, .inl fg))]) (As := [.ref aa, .ref am, .int (nI t), .int (nI r), .int mo]) (rest := []) ⟨hx, hb, hml, hown, hts⟩ (c_L_grant l D cI cT cL am aa fm fa F t r mo (by omega) (by omega) hmo hM hZ) (va_cwS 5 hts gL_requested_L_grant rfl rfl rfl (by decide +kernel) ⟨Nat.le_of_ble_eq_true rfl, Nat.le_of_ble_eq_true rfl⟩) hKL hP hD hS hA (fun _ => adw2) rfl hl.1 rfl (Nat.le_of_ble_eq_true rfl) ⟨by decide, by decide⟩ dL_requested_94 (fun uu H locs hp hP hD hS => ?_)
              obtain ⟨fm29, fa29⟩ := uu
              obtain ⟨hM29, hZ29⟩ := hp
              dsimp only at hM29 hZ29
              have hP : va_P D vwCl ([(am, .inl (cI, 10, .inl fm29)), (aa, .inl (cI, 48, .inl fa29)), (aq, .inl (cL, 10, .inr (.inl fq))), (ag, .inl (cI, 3, .inl fg))]) H := hP
              have hD : va_D A ([(am, .inl (cI, 10, .inl fm29)), (aa, .inl (cI, 48, .inl fa29)), (aq, .inl (cL, 10, .inr (.inl fq))), (ag, .inl (cI, 3, .inl fg))]) := hD
              refine lv_iconst (v := (nI 1)) hx hb dL_requested_97 (by decide) ?_
              obtain ⟨e1, e2, e3, e4⟩ := rq_gr hr hs hg
              exact ret_i (u := (fm29, fa29, fq, fg)) hQ hx hb hrt hlk hS dL_requested_98 hP ⟨congrArg nI (by omega), by rw [e1]; exact hM29, by rw [e1]; exact hZ29, by rw [e2]; exact hQL, by rw [e1]; exact GG_cg hG (gr_ne (by decide) (by decide))⟩
        · have h_41 := h_41
          refine lv_iload hx hb dL_requested_54 (lv_at hl 0 rfl) ?_
          refine lv_if_ne (tgt := 86) hx hb dL_requested_56 (by decide) (fun _ => ?_) (fun h => absurd h (by decide))
          have hg := pG_1 (Q := Q0) (mo_2 hmo h_41 h_2) h_41 ((alone_I hJ hM ht hr).mp h_3)
          refine lv_aload_n hx hb dL_requested_86 rfl (lv_at hl 2 rfl) ?_
          refine lv_aload_n hx hb dL_requested_87 rfl (lv_at hl 3 rfl) ?_
          refine lv_iload hx hb dL_requested_88 (lv_at hl 6 rfl) ?_
          refine lv_iload hx hb dL_requested_90 (lv_at hl 7 rfl) ?_
          refine lv_iload hx hb dL_requested_92 (lv_at hl 8 rfl) ?_
          refine call_lv (X := []) (Wc := [(am, .inl (cI, 10, .inl fm)), (aa, .inl (cI, 48, .inl fa))]) (Z := [(aq, .inl (cL, 10, .inr (.inl fq))), (ag, .inl (cI, 3, .inl fg))]) (As := [.ref aa, .ref am, .int (nI t), .int (nI r), .int mo]) (rest := []) ⟨hx, hb, hml, hown, hts⟩ (c_L_grant l D cI cT cL am aa fm fa F t r mo (by omega) (by omega) hmo hM hZ) (va_cwS 5 hts gL_requested_L_grant rfl rfl rfl (by decide +kernel) ⟨Nat.le_of_ble_eq_true rfl, Nat.le_of_ble_eq_true rfl⟩) hKL hP hD hS hA (fun _ => adw2) rfl hl.1 rfl (Nat.le_of_ble_eq_true rfl) ⟨by decide, by decide⟩ dL_requested_94 (fun uu H locs hp hP hD hS => ?_)
          obtain ⟨fm30, fa30⟩ := uu
          obtain ⟨hM30, hZ30⟩ := hp
          dsimp only at hM30 hZ30
          have hP : va_P D vwCl ([(am, .inl (cI, 10, .inl fm30)), (aa, .inl (cI, 48, .inl fa30)), (aq, .inl (cL, 10, .inr (.inl fq))), (ag, .inl (cI, 3, .inl fg))]) H := hP
          have hD : va_D A ([(am, .inl (cI, 10, .inl fm30)), (aa, .inl (cI, 48, .inl fa30)), (aq, .inl (cL, 10, .inr (.inl fq))), (ag, .inl (cI, 3, .inl fg))]) := hD
          refine lv_iconst (v := (nI 1)) hx hb dL_requested_97 (by decide) ?_
          obtain ⟨e1, e2, e3, e4⟩ := rq_gr hr hs hg
          exact ret_i (u := (fm30, fa30, fq, fg)) hQ hx hb hrt hlk hS dL_requested_98 hP ⟨congrArg nI (by omega), by rw [e1]; exact hM30, by rw [e1]; exact hZ30, by rw [e2]; exact hQL, by rw [e1]; exact GG_cg hG (gr_ne (by decide) (by decide))⟩
    · have h_2 := h_2
      refine lv_iconst (v := (nI 1)) hx hb dL_requested_23 (by decide) ?_
      obtain ⟨e1, e2, e3, e4⟩ := rq_same (F := F) (Q := Q0) (pS_t (mo := mo) (Or.inr h_2))
      exact ret_i (u := (fm, fa, fq, fg)) hQ hx hb hrt hlk hS dL_requested_24 hP ⟨congrArg nI (by omega), by rw [e1]; exact hM, by rw [e1]; exact hZ, by rw [e2]; exact hQL, by rw [e1]; exact hG⟩
