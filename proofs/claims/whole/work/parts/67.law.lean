/-! the law's body -/
abbrev lwW (cI cT cL : ClassId) (x a o b t h : Nat → Nat) (ra : Nat → Nat → Nat) (ad : Nat → Nat) (oa : Nat) (s : ST) (j : JT) (r : JR) (f : Nat → Int64) : va_W := ([(oa, outE cL f)] ++ lmW cI cT x a o b t h ra s j) ++ rfW cI ad s r
theorem adr_ol {cI cT cL : ClassId} {x a o b t h : Nat → Nat} {ra : Nat → Nat → Nat} {oa : Nat} {s s2 : ST} {j j2 : JT} {f f2 : Nat → Int64} : ([(oa, outE cL f)] ++ lmW cI cT x a o b t h ra s j).map Prod.fst = ([(oa, outE cL f2)] ++ lmW cI cT x a o b t h ra s2 j2).map Prod.fst := by
  rw [List.map_append, List.map_append]
  exact congrArg (fun z => [oa] ++ z) adr_lm
theorem adr_rf {cI : ClassId} {ad : Nat → Nat} {s s2 : ST} {u u2 : JR} : (rfW cI ad s u).map Prod.fst = (rfW cI ad s2 u2).map Prod.fst := adr_ref.trans adr_ref.symm
theorem lgc (v : Int64) : lg_cmp v v = 0 := by simp [lg_cmp]
/-- what holds in the law's body -/
def LBx (p : Program) (l : Launch) (s : State) (m : MethodId) (c : Code) (sb L : Nat) (xs : Nat → Int32) (D : va_G) (cI cT cL : ClassId) (A : Nat → Prop) : Prop :=
  p.tables.exec = Jvm.exec ∧ c.code = cL_law ∧ c.maxLocals = 7 ∧ s.vm.findClass RL = some m.cls ∧ (∀ w ∈ wsL_law, w.before #[Value.ref sb] s = true) ∧ va_K D vwCl (TYL cI cT cL) s ∧ va_X sb L xs s s.heap ∧ sb < s.heap.size ∧ ¬ A sb ∧ (∀ q : Nat, s.heap.size ≤ q → A q) ∧ XL A s s.heap ∧ l.stackTraces = false
abbrev lwL (sb x m o k : Nat) : List (Nat × Value) := [(0, .ref sb), (1, .ref x), (2, .ref m), (3, .ref o), (4, .int (nI (4 * k)))]
/-- how the law goes on behind a call -/
def LKo (p : Program) (l : Launch) (e : Env) (s : State) (m : MethodId) (below : List Frame) (meth : Method) (c : Code) (sb : Nat) (D : va_G) (cI cT cL : ClassId) (A : Nat → Prop) (Q : State → Prop) (x a o b t h : Nat → Nat) (ra : Nat → Nat → Nat) (ad : Nat → Nat) (oa k cells slots n : Nat) : Prop :=
  ∀ (s1 : ST) (j1 : JT) (r1 : JR) (f1 : Nat → Int64) (H : Heap) (locs : List Loc), va_P D vwCl (lwW cI cT cL x a o b t h ra ad oa s1 j1 r1 f1) H → va_D A (lwW cI cT cL x a o b t h ra ad oa s1 j1 r1 f1) → va_S A s.heap H locs → LR s1 j1 → LZu n s1 r1 → ∀ ls : Array Slot, lv_has ls 7 (lwL sb (x 0) (ad 0) oa k) → W p l e room_1 s m #[Value.ref sb] below meth c H locs cells slots Q (F0 m 1575 ls [])
set_option maxHeartbeats 1000000 in
set_option maxRecDepth 100000 in
theorem cs_begin {p : Program} {l : Launch} {e : Env} {s : State} {m : MethodId} {below : List Frame} {meth : Method} {c : Code} {sb L : Nat} {xs : Nat → Int32} {D : va_G} {cI cT cL : ClassId} {A : Nat → Prop} {Q : State → Prop} (x a o b t h : Nat → Nat) (ra : Nat → Nat → Nat) (ad : Nat → Nat) (oa k cells slots n : Nat) (LB : LBx p l s m c sb L xs D cI cT cL A) (hkL : 4 * k + 4 ≤ L) (hL2 : L ≤ 2048) (hn : n + 80 < 2 ^ 31) (hce : cells + 4 ≤ 601024) (hsl : slots + 24 ≤ 7293034) (s0 : ST) (j0 : JT) (r0 : JR) (f0 : Nat → Int64) (H : Heap) (locs : List Loc) (hP : va_P D vwCl (lwW cI cT cL x a o b t h ra ad oa s0 j0 r0 f0) H) (hD : va_D A (lwW cI cT cL x a o b t h ra ad oa s0 j0 r0 f0)) (hS : va_S A s.heap H locs) (hR : LR s0 j0) (hZ : LZu n s0 r0) (ls : Array Slot) (hl : lv_has ls 7 (lwL sb (x 0) (ad 0) oa k)) (KO : LKo p l e s m below meth c sb D cI cT cL A Q x a o b t h ra ad oa k (cells + 4) (slots + 24) (n + 80)) : W p l e room_1 s m #[Value.ref sb] below meth c H locs cells slots Q (F0 m 168 ls []) := by
  obtain ⟨hx, hb, hml, hown, hts, hK, hX0, hbl, hbA, hA, hX, hflag⟩ := LB
  have hK2 : va_K D vwCl (TY cI cT) s := hK.sub (tys' := TY cI cT) [0, 1] rfl
  have hro := ro_Begin (s := s0) (p0 := (xs (nI (4 * k + 1)).toNatClampNeg))
  have hro1 : (opBegin s0 (xs (nI (4 * k + 1)).toNatClampNeg)).1 ≤ 3 := Nat.le_trans hro.1 (by decide)
  refine lv_aload_n hx hb dL_law_168 rfl (lv_at hl 1 rfl) ?_
  refine lv_aload_n hx hb dL_law_169 rfl (lv_at hl 0 rfl) ?_
  refine lv_iload hx hb dL_law_170 (lv_at hl 4 rfl) ?_
  refine lv_iconst (v := nI 1) hx hb dL_law_172 (by decide) ?_
  refine lv_iadd hx hb dL_law_173 ?_
  refine tpe (y := nI (4 * k + 1)) (nI_add _ _) ?_
  refine va_sld hx hb hX0 hbl hbA hS (vp_in_nI (by omega) (by omega)) dL_law_174 ?_
  refine lv_aload_n hx hb dL_law_175 rfl (lv_at hl 3 rfl) ?_
  refine call_cw (X := []) (Wc := ([(oa, outE cL f0)] ++ lmW cI cT x a o b t h ra s0 j0)) (Z := rfW cI ad s0 r0) (As := [.ref (x 0), .int (xs (nI (4 * k + 1)).toNatClampNeg), .ref oa]) (rest := []) ⟨hx, hb, hml, hown, hts⟩ (c_L_begin l hflag D cI cT cL x a o b t h ra s0 j0 oa f0 (xs (nI (4 * k + 1)).toNatClampNeg) hR) (vx_cwSW 3 hts gL_law_L_begin rfl rfl rfl (by decide +kernel) ⟨Nat.le_of_ble_eq_true rfl, Nat.le_of_ble_eq_true rfl⟩) hK hP hD hS hA hX (fun _ => adr_ol) rfl hl.1 rfl (Nat.le_of_ble_eq_true rfl) ⟨hce, hsl⟩ dL_law_176 (fun r u H locs hp hP hD hS => ?_)
  obtain ⟨hr, hR1, hv⟩ := hp
  rw [hr]
  have hP : va_P D vwCl (([(oa, outE cL u.2)] ++ lmW cI cT x a o b t h ra (opBegin s0 (xs (nI (4 * k + 1)).toNatClampNeg)).2.2 u.1) ++ rfW cI ad s0 r0) H := hP; have hD : va_D A (([(oa, outE cL u.2)] ++ lmW cI cT x a o b t h ra (opBegin s0 (xs (nI (4 * k + 1)).toNatClampNeg)).2.2 u.1) ++ rfW cI ad s0 r0) := hD
  refine lv_istore (lv' := [(5, .int (nI (opBegin s0 (xs (nI (4 * k + 1)).toNatClampNeg)).1)), (0, .ref sb), (1, .ref (x 0)), (2, .ref (ad 0)), (3, .ref oa), (4, .int (nI (4 * k)))]) hx hb dL_law_179 hl (by decide) rfl (fun ls hl => ?_)
  refine lv_aload_n hx hb dL_law_181 rfl (lv_at hl 3 rfl) ?_
  refine lv_aload_n hx hb dL_law_182 rfl (lv_at hl 1 rfl) ?_
  refine lv_iload hx hb dL_law_183 (lv_at hl 5 rfl) ?_
  refine lv_iconst (v := nI 1) hx hb dL_law_185 (by decide) ?_
  refine lv_iadd hx hb dL_law_186 ?_
  refine tpe (y := nI (4 * k + 1)) (nI_add _ _) ?_
  refine va_sld hx hb hX0 hbl hbA hS (vp_in_nI (by omega) (by omega)) dL_law_187 ?_
  refine call_i (X := ([(oa, outE cL u.2)] ++ lmW cI cT x a o b t h ra (opBegin s0 (xs (nI (4 * k + 1)).toNatClampNeg)).2.2 u.1)) (Wc := rfW cI ad s0 r0) (Z := []) (As := [.int (xs (nI (4 * k + 1)).toNatClampNeg)]) (rest := []) ⟨hx, hb, hml, hown, hts⟩ (c_X5_begin l D cI cT ad _ 0 0 _ _ _ _ _ _ _ _ _ _ _ s0.1 s0.2.1 s0.2.2.1 s0.2.2.2.1 s0.2.2.2.2 n (xs (nI (4 * k + 1)).toNatClampNeg) hZ hn) (cwV 1 hts gL_law_X5_begin rfl rfl rfl (by decide +kernel) ⟨Nat.le_of_ble_eq_true rfl, Nat.le_of_ble_eq_true rfl⟩) hK2 (P_nilE hP) (D_nilE hD) hS hA (va_recv hK2 (sub_mid (P_nilE hP)) (ci := 5) (q0 := 0) rfl rfl) (fun _ => adr_rf) rfl hl.1 rfl (Nat.le_of_ble_eq_true rfl) ⟨Nat.le_trans (by omega) hce, Nat.le_trans (by omega) hsl⟩ dL_law_188 (fun rv u2 H locs hp2 hP hD hS => ?_)
  have hP := P_nilF hP; have hD := D_nilF hD
  have hr2 : rv = (opBegin s0 (xs (nI (4 * k + 1)).toNatClampNeg)).2.1 := hp2.1
  have hth : u2.1 = nI (opBegin s0 (xs (nI (4 * k + 1)).toNatClampNeg)).1 := hp2.2.1
  have hZ1 : LZu (n + 80) (opBegin s0 (xs (nI (4 * k + 1)).toNatClampNeg)).2.2 u2 := hp2.2.2
  rw [hr2]
  have hP : va_P D vwCl (([(oa, outE cL u.2)] ++ lmW cI cT x a o b t h ra (opBegin s0 (xs (nI (4 * k + 1)).toNatClampNeg)).2.2 u.1) ++ rfW cI ad (opBegin s0 (xs (nI (4 * k + 1)).toNatClampNeg)).2.2 u2) H := hP; have hD : va_D A (([(oa, outE cL u.2)] ++ lmW cI cT x a o b t h ra (opBegin s0 (xs (nI (4 * k + 1)).toNatClampNeg)).2.2 u.1) ++ rfW cI ad (opBegin s0 (xs (nI (4 * k + 1)).toNatClampNeg)).2.2 u2) := hD
  refine lv_istore (lv' := [(6, .int (opBegin s0 (xs (nI (4 * k + 1)).toNatClampNeg)).2.1), (5, .int (nI (opBegin s0 (xs (nI (4 * k + 1)).toNatClampNeg)).1)), (0, .ref sb), (1, .ref (x 0)), (2, .ref (ad 0)), (3, .ref oa), (4, .int (nI (4 * k)))]) hx hb dL_law_191 hl (by decide) rfl (fun ls hl => ?_)
  refine lv_aload_n hx hb dL_law_193 rfl (lv_at hl 4 rfl) ?_
  clear hr2 hp2
  refine call_i (X := ([(oa, outE cL u.2)] ++ lmW cI cT x a o b t h ra (opBegin s0 (xs (nI (4 * k + 1)).toNatClampNeg)).2.2 u.1)) (Wc := rfW cI ad (opBegin s0 (xs (nI (4 * k + 1)).toNatClampNeg)).2.2 u2) (Z := []) (As := []) (rest := []) ⟨hx, hb, hml, hown, hts⟩ (c_X5_thrown l D cI cT ad _ _ _ _ _ _ _ _ _ _ _ _ _ _) (cwV 0 hts gL_law_X5_thrown rfl rfl rfl (by decide +kernel) ⟨Nat.le_of_ble_eq_true rfl, Nat.le_of_ble_eq_true rfl⟩) hK2 (P_nilE hP) (D_nilE hD) hS hA (va_recv hK2 (sub_mid (P_nilE hP)) (ci := 5) (q0 := 0) rfl rfl) (fun _ => adr_rf) rfl hl.1 rfl (Nat.le_of_ble_eq_true rfl) ⟨Nat.le_trans (by omega) hce, Nat.le_trans (by omega) hsl⟩ dL_law_194 (fun rv2 u3 H locs hp3 hP hD hS => ?_)
  have hP := P_nilF hP; have hD := D_nilF hD
  have hr3 : rv2 = nI (opBegin s0 (xs (nI (4 * k + 1)).toNatClampNeg)).1 := hp3.trans hth
  rw [hr3]
  have hP : va_P D vwCl (lwW cI cT cL x a o b t h ra ad oa (opBegin s0 (xs (nI (4 * k + 1)).toNatClampNeg)).2.2 u.1 u2 u.2) H := hP; have hD : va_D A (lwW cI cT cL x a o b t h ra ad oa (opBegin s0 (xs (nI (4 * k + 1)).toNatClampNeg)).2.2 u.1 u2 u.2) := hD
  refine lv_iload hx hb dL_law_197 (lv_at hl 1 rfl) ?_
  refine lv_icmp_eq (tgt := 204) hx hb dL_law_199 (by decide) (fun _ => ?_) (fun h => absurd rfl h)
  refine lv_iload hx hb dL_law_204 (lv_at hl 1 rfl) ?_
  refine lv_if_ne (tgt := 221) hx hb dL_law_206 (by decide) (fun h9 => ?_) (fun h9 => ?_)
  · refine lv_goto (tgt := 1575) hx hb dL_law_221 (by decide) ?_
    exact KO (opBegin s0 (xs (nI (4 * k + 1)).toNatClampNeg)).2.2 u.1 u2 u.2 H locs hP hD hS hR1 hZ1 _ (lv_sub hl [2, 3, 4, 5, 6] rfl)
  · have h0 : (opBegin s0 (xs (nI (4 * k + 1)).toNatClampNeg)).1 = 0 := (nI_eq (a := (opBegin s0 (xs (nI (4 * k + 1)).toNatClampNeg)).1) (b := 0) (by omega) (by decide)).mp h9
    refine lv_aload_n hx hb dL_law_209 rfl (lv_at hl 5 rfl) ?_
    refine lv_iconst (v := nI 0) hx hb dL_law_210 (by decide) ?_
    refine va_lald hx hb hK hP 0 2 rfl rfl (vp_in_nI (by decide) (by decide)) dL_law_211 ?_
    rw [show (nI 0).toNatClampNeg = 0 by decide, hv h0]
    refine lv_iload hx hb dL_law_212 (lv_at hl 0 rfl) ?_
    refine lv_i2l (v := (opBegin s0 (xs (nI (4 * k + 1)).toNatClampNeg)).2.1.toInt64) hx hb dL_law_214 rfl ?_
    refine W.lcmp hx hb dL_law_215 ?_
    rw [lgc]
    refine lv_if_eq (tgt := 221) hx hb dL_law_216 (by decide) (fun _ => ?_) (fun h => absurd rfl h)
    refine lv_goto (tgt := 1575) hx hb dL_law_221 (by decide) ?_
    exact KO (opBegin s0 (xs (nI (4 * k + 1)).toNatClampNeg)).2.2 u.1 u2 u.2 H locs hP hD hS hR1 hZ1 _ (lv_sub hl [2, 3, 4, 5, 6] rfl)
set_option maxHeartbeats 1000000 in
set_option maxRecDepth 100000 in
theorem cs_request {p : Program} {l : Launch} {e : Env} {s : State} {m : MethodId} {below : List Frame} {meth : Method} {c : Code} {sb L : Nat} {xs : Nat → Int32} {D : va_G} {cI cT cL : ClassId} {A : Nat → Prop} {Q : State → Prop} (x a o b t h : Nat → Nat) (ra : Nat → Nat → Nat) (ad : Nat → Nat) (oa k cells slots n : Nat) (LB : LBx p l s m c sb L xs D cI cT cL A) (hkL : 4 * k + 4 ≤ L) (hL2 : L ≤ 2048) (hn : n + 80 < 2 ^ 31) (hce : cells + 4 ≤ 601024) (hsl : slots + 24 ≤ 7293034) (s0 : ST) (j0 : JT) (r0 : JR) (f0 : Nat → Int64) (H : Heap) (locs : List Loc) (hP : va_P D vwCl (lwW cI cT cL x a o b t h ra ad oa s0 j0 r0 f0) H) (hD : va_D A (lwW cI cT cL x a o b t h ra ad oa s0 j0 r0 f0)) (hS : va_S A s.heap H locs) (hR : LR s0 j0) (hZ : LZu n s0 r0) (ls : Array Slot) (hl : lv_has ls 7 (lwL sb (x 0) (ad 0) oa k)) (KO : LKo p l e s m below meth c sb D cI cT cL A Q x a o b t h ra ad oa k (cells + 4) (slots + 24) (n + 80)) : W p l e room_1 s m #[Value.ref sb] below meth c H locs cells slots Q (F0 m 224 ls []) := by
  obtain ⟨hx, hb, hml, hown, hts, hK, hX0, hbl, hbA, hA, hX, hflag⟩ := LB
  have hK2 : va_K D vwCl (TY cI cT) s := hK.sub (tys' := TY cI cT) [0, 1] rfl
  have hro := ro_Request (s := s0) (p0 := (xs (nI (4 * k + 1)).toNatClampNeg)) (p1 := (xs (nI (4 * k + 2)).toNatClampNeg)) (p2 := (xs (nI (4 * k + 3)).toNatClampNeg))
  have hro1 : (opRequest s0 (xs (nI (4 * k + 1)).toNatClampNeg) (xs (nI (4 * k + 2)).toNatClampNeg) (xs (nI (4 * k + 3)).toNatClampNeg)).1 ≤ 3 := Nat.le_trans hro.1 (by decide)
  refine lv_aload_n hx hb dL_law_224 rfl (lv_at hl 1 rfl) ?_
  refine lv_aload_n hx hb dL_law_225 rfl (lv_at hl 0 rfl) ?_
  refine lv_iload hx hb dL_law_226 (lv_at hl 4 rfl) ?_
  refine lv_iconst (v := nI 1) hx hb dL_law_228 (by decide) ?_
  refine lv_iadd hx hb dL_law_229 ?_
  refine tpe (y := nI (4 * k + 1)) (nI_add _ _) ?_
  refine va_sld hx hb hX0 hbl hbA hS (vp_in_nI (by omega) (by omega)) dL_law_230 ?_
  refine lv_aload_n hx hb dL_law_231 rfl (lv_at hl 0 rfl) ?_
  refine lv_iload hx hb dL_law_232 (lv_at hl 4 rfl) ?_
  refine lv_iconst (v := nI 2) hx hb dL_law_234 (by decide) ?_
  refine lv_iadd hx hb dL_law_235 ?_
  refine tpe (y := nI (4 * k + 2)) (nI_add _ _) ?_
  refine va_sld hx hb hX0 hbl hbA hS (vp_in_nI (by omega) (by omega)) dL_law_236 ?_
  refine lv_aload_n hx hb dL_law_237 rfl (lv_at hl 0 rfl) ?_
  refine lv_iload hx hb dL_law_238 (lv_at hl 4 rfl) ?_
  refine lv_iconst (v := nI 3) hx hb dL_law_240 (by decide) ?_
  refine lv_iadd hx hb dL_law_241 ?_
  refine tpe (y := nI (4 * k + 3)) (nI_add _ _) ?_
  refine va_sld hx hb hX0 hbl hbA hS (vp_in_nI (by omega) (by omega)) dL_law_242 ?_
  refine lv_aload_n hx hb dL_law_243 rfl (lv_at hl 3 rfl) ?_
  refine call_cw (X := []) (Wc := ([(oa, outE cL f0)] ++ lmW cI cT x a o b t h ra s0 j0)) (Z := rfW cI ad s0 r0) (As := [.ref (x 0), .int (xs (nI (4 * k + 1)).toNatClampNeg), .int (xs (nI (4 * k + 2)).toNatClampNeg), .int (xs (nI (4 * k + 3)).toNatClampNeg), .ref oa]) (rest := []) ⟨hx, hb, hml, hown, hts⟩ (c_L_request l hflag D cI cT cL x a o b t h ra s0 j0 oa f0 (xs (nI (4 * k + 1)).toNatClampNeg) (xs (nI (4 * k + 2)).toNatClampNeg) (xs (nI (4 * k + 3)).toNatClampNeg) hR) (vx_cwSW 5 hts gL_law_L_request rfl rfl rfl (by decide +kernel) ⟨Nat.le_of_ble_eq_true rfl, Nat.le_of_ble_eq_true rfl⟩) hK hP hD hS hA hX (fun _ => adr_ol) rfl hl.1 rfl (Nat.le_of_ble_eq_true rfl) ⟨hce, hsl⟩ dL_law_244 (fun r u H locs hp hP hD hS => ?_)
  obtain ⟨hr, hR1, hv⟩ := hp
  rw [hr]
  have hP : va_P D vwCl (([(oa, outE cL u.2)] ++ lmW cI cT x a o b t h ra (opRequest s0 (xs (nI (4 * k + 1)).toNatClampNeg) (xs (nI (4 * k + 2)).toNatClampNeg) (xs (nI (4 * k + 3)).toNatClampNeg)).2.2 u.1) ++ rfW cI ad s0 r0) H := hP; have hD : va_D A (([(oa, outE cL u.2)] ++ lmW cI cT x a o b t h ra (opRequest s0 (xs (nI (4 * k + 1)).toNatClampNeg) (xs (nI (4 * k + 2)).toNatClampNeg) (xs (nI (4 * k + 3)).toNatClampNeg)).2.2 u.1) ++ rfW cI ad s0 r0) := hD
  refine lv_istore (lv' := [(5, .int (nI (opRequest s0 (xs (nI (4 * k + 1)).toNatClampNeg) (xs (nI (4 * k + 2)).toNatClampNeg) (xs (nI (4 * k + 3)).toNatClampNeg)).1)), (0, .ref sb), (1, .ref (x 0)), (2, .ref (ad 0)), (3, .ref oa), (4, .int (nI (4 * k)))]) hx hb dL_law_247 hl (by decide) rfl (fun ls hl => ?_)
  refine lv_aload_n hx hb dL_law_249 rfl (lv_at hl 3 rfl) ?_
  refine lv_aload_n hx hb dL_law_250 rfl (lv_at hl 1 rfl) ?_
  refine lv_iload hx hb dL_law_251 (lv_at hl 5 rfl) ?_
  refine lv_iconst (v := nI 1) hx hb dL_law_253 (by decide) ?_
  refine lv_iadd hx hb dL_law_254 ?_
  refine tpe (y := nI (4 * k + 1)) (nI_add _ _) ?_
  refine va_sld hx hb hX0 hbl hbA hS (vp_in_nI (by omega) (by omega)) dL_law_255 ?_
  refine lv_aload_n hx hb dL_law_256 rfl (lv_at hl 1 rfl) ?_
  refine lv_iload hx hb dL_law_257 (lv_at hl 5 rfl) ?_
  refine lv_iconst (v := nI 2) hx hb dL_law_259 (by decide) ?_
  refine lv_iadd hx hb dL_law_260 ?_
  refine tpe (y := nI (4 * k + 2)) (nI_add _ _) ?_
  refine va_sld hx hb hX0 hbl hbA hS (vp_in_nI (by omega) (by omega)) dL_law_261 ?_
  refine lv_aload_n hx hb dL_law_262 rfl (lv_at hl 1 rfl) ?_
  refine lv_iload hx hb dL_law_263 (lv_at hl 5 rfl) ?_
  refine lv_iconst (v := nI 3) hx hb dL_law_265 (by decide) ?_
  refine lv_iadd hx hb dL_law_266 ?_
  refine tpe (y := nI (4 * k + 3)) (nI_add _ _) ?_
  refine va_sld hx hb hX0 hbl hbA hS (vp_in_nI (by omega) (by omega)) dL_law_267 ?_
  refine call_i (X := ([(oa, outE cL u.2)] ++ lmW cI cT x a o b t h ra (opRequest s0 (xs (nI (4 * k + 1)).toNatClampNeg) (xs (nI (4 * k + 2)).toNatClampNeg) (xs (nI (4 * k + 3)).toNatClampNeg)).2.2 u.1)) (Wc := rfW cI ad s0 r0) (Z := []) (As := [.int (xs (nI (4 * k + 1)).toNatClampNeg), .int (xs (nI (4 * k + 2)).toNatClampNeg), .int (xs (nI (4 * k + 3)).toNatClampNeg)]) (rest := []) ⟨hx, hb, hml, hown, hts⟩ (c_X5_request l D cI cT ad _ 0 0 _ _ _ _ _ _ _ _ _ _ _ s0.1 s0.2.1 s0.2.2.1 s0.2.2.2.1 s0.2.2.2.2 n (xs (nI (4 * k + 1)).toNatClampNeg) (xs (nI (4 * k + 2)).toNatClampNeg) (xs (nI (4 * k + 3)).toNatClampNeg) hZ hn) (cwV 3 hts gL_law_X5_request rfl rfl rfl (by decide +kernel) ⟨Nat.le_of_ble_eq_true rfl, Nat.le_of_ble_eq_true rfl⟩) hK2 (P_nilE hP) (D_nilE hD) hS hA (va_recv hK2 (sub_mid (P_nilE hP)) (ci := 5) (q0 := 0) rfl rfl) (fun _ => adr_rf) rfl hl.1 rfl (Nat.le_of_ble_eq_true rfl) ⟨Nat.le_trans (by omega) hce, Nat.le_trans (by omega) hsl⟩ dL_law_268 (fun rv u2 H locs hp2 hP hD hS => ?_)
  have hP := P_nilF hP; have hD := D_nilF hD
  have hr2 : rv = (opRequest s0 (xs (nI (4 * k + 1)).toNatClampNeg) (xs (nI (4 * k + 2)).toNatClampNeg) (xs (nI (4 * k + 3)).toNatClampNeg)).2.1 := hp2.1
  have hth : u2.1 = nI (opRequest s0 (xs (nI (4 * k + 1)).toNatClampNeg) (xs (nI (4 * k + 2)).toNatClampNeg) (xs (nI (4 * k + 3)).toNatClampNeg)).1 := hp2.2.1
  have hZ1 : LZu (n + 80) (opRequest s0 (xs (nI (4 * k + 1)).toNatClampNeg) (xs (nI (4 * k + 2)).toNatClampNeg) (xs (nI (4 * k + 3)).toNatClampNeg)).2.2 u2 := hp2.2.2
  rw [hr2]
  have hP : va_P D vwCl (([(oa, outE cL u.2)] ++ lmW cI cT x a o b t h ra (opRequest s0 (xs (nI (4 * k + 1)).toNatClampNeg) (xs (nI (4 * k + 2)).toNatClampNeg) (xs (nI (4 * k + 3)).toNatClampNeg)).2.2 u.1) ++ rfW cI ad (opRequest s0 (xs (nI (4 * k + 1)).toNatClampNeg) (xs (nI (4 * k + 2)).toNatClampNeg) (xs (nI (4 * k + 3)).toNatClampNeg)).2.2 u2) H := hP; have hD : va_D A (([(oa, outE cL u.2)] ++ lmW cI cT x a o b t h ra (opRequest s0 (xs (nI (4 * k + 1)).toNatClampNeg) (xs (nI (4 * k + 2)).toNatClampNeg) (xs (nI (4 * k + 3)).toNatClampNeg)).2.2 u.1) ++ rfW cI ad (opRequest s0 (xs (nI (4 * k + 1)).toNatClampNeg) (xs (nI (4 * k + 2)).toNatClampNeg) (xs (nI (4 * k + 3)).toNatClampNeg)).2.2 u2) := hD
  refine lv_istore (lv' := [(6, .int (opRequest s0 (xs (nI (4 * k + 1)).toNatClampNeg) (xs (nI (4 * k + 2)).toNatClampNeg) (xs (nI (4 * k + 3)).toNatClampNeg)).2.1), (5, .int (nI (opRequest s0 (xs (nI (4 * k + 1)).toNatClampNeg) (xs (nI (4 * k + 2)).toNatClampNeg) (xs (nI (4 * k + 3)).toNatClampNeg)).1)), (0, .ref sb), (1, .ref (x 0)), (2, .ref (ad 0)), (3, .ref oa), (4, .int (nI (4 * k)))]) hx hb dL_law_271 hl (by decide) rfl (fun ls hl => ?_)
  refine lv_aload_n hx hb dL_law_273 rfl (lv_at hl 4 rfl) ?_
  clear hr2 hp2
  refine call_i (X := ([(oa, outE cL u.2)] ++ lmW cI cT x a o b t h ra (opRequest s0 (xs (nI (4 * k + 1)).toNatClampNeg) (xs (nI (4 * k + 2)).toNatClampNeg) (xs (nI (4 * k + 3)).toNatClampNeg)).2.2 u.1)) (Wc := rfW cI ad (opRequest s0 (xs (nI (4 * k + 1)).toNatClampNeg) (xs (nI (4 * k + 2)).toNatClampNeg) (xs (nI (4 * k + 3)).toNatClampNeg)).2.2 u2) (Z := []) (As := []) (rest := []) ⟨hx, hb, hml, hown, hts⟩ (c_X5_thrown l D cI cT ad _ _ _ _ _ _ _ _ _ _ _ _ _ _) (cwV 0 hts gL_law_X5_thrown rfl rfl rfl (by decide +kernel) ⟨Nat.le_of_ble_eq_true rfl, Nat.le_of_ble_eq_true rfl⟩) hK2 (P_nilE hP) (D_nilE hD) hS hA (va_recv hK2 (sub_mid (P_nilE hP)) (ci := 5) (q0 := 0) rfl rfl) (fun _ => adr_rf) rfl hl.1 rfl (Nat.le_of_ble_eq_true rfl) ⟨Nat.le_trans (by omega) hce, Nat.le_trans (by omega) hsl⟩ dL_law_274 (fun rv2 u3 H locs hp3 hP hD hS => ?_)
  have hP := P_nilF hP; have hD := D_nilF hD
  have hr3 : rv2 = nI (opRequest s0 (xs (nI (4 * k + 1)).toNatClampNeg) (xs (nI (4 * k + 2)).toNatClampNeg) (xs (nI (4 * k + 3)).toNatClampNeg)).1 := hp3.trans hth
  rw [hr3]
  have hP : va_P D vwCl (lwW cI cT cL x a o b t h ra ad oa (opRequest s0 (xs (nI (4 * k + 1)).toNatClampNeg) (xs (nI (4 * k + 2)).toNatClampNeg) (xs (nI (4 * k + 3)).toNatClampNeg)).2.2 u.1 u2 u.2) H := hP; have hD : va_D A (lwW cI cT cL x a o b t h ra ad oa (opRequest s0 (xs (nI (4 * k + 1)).toNatClampNeg) (xs (nI (4 * k + 2)).toNatClampNeg) (xs (nI (4 * k + 3)).toNatClampNeg)).2.2 u.1 u2 u.2) := hD
  refine lv_iload hx hb dL_law_277 (lv_at hl 1 rfl) ?_
  refine lv_icmp_eq (tgt := 284) hx hb dL_law_279 (by decide) (fun _ => ?_) (fun h => absurd rfl h)
  refine lv_iload hx hb dL_law_284 (lv_at hl 1 rfl) ?_
  refine lv_if_ne (tgt := 301) hx hb dL_law_286 (by decide) (fun h9 => ?_) (fun h9 => ?_)
  · refine lv_goto (tgt := 1575) hx hb dL_law_301 (by decide) ?_
    exact KO (opRequest s0 (xs (nI (4 * k + 1)).toNatClampNeg) (xs (nI (4 * k + 2)).toNatClampNeg) (xs (nI (4 * k + 3)).toNatClampNeg)).2.2 u.1 u2 u.2 H locs hP hD hS hR1 hZ1 _ (lv_sub hl [2, 3, 4, 5, 6] rfl)
  · have h0 : (opRequest s0 (xs (nI (4 * k + 1)).toNatClampNeg) (xs (nI (4 * k + 2)).toNatClampNeg) (xs (nI (4 * k + 3)).toNatClampNeg)).1 = 0 := (nI_eq (a := (opRequest s0 (xs (nI (4 * k + 1)).toNatClampNeg) (xs (nI (4 * k + 2)).toNatClampNeg) (xs (nI (4 * k + 3)).toNatClampNeg)).1) (b := 0) (by omega) (by decide)).mp h9
    refine lv_aload_n hx hb dL_law_289 rfl (lv_at hl 5 rfl) ?_
    refine lv_iconst (v := nI 0) hx hb dL_law_290 (by decide) ?_
    refine va_lald hx hb hK hP 0 2 rfl rfl (vp_in_nI (by decide) (by decide)) dL_law_291 ?_
    rw [show (nI 0).toNatClampNeg = 0 by decide, hv h0]
    refine lv_iload hx hb dL_law_292 (lv_at hl 0 rfl) ?_
    refine lv_i2l (v := (opRequest s0 (xs (nI (4 * k + 1)).toNatClampNeg) (xs (nI (4 * k + 2)).toNatClampNeg) (xs (nI (4 * k + 3)).toNatClampNeg)).2.1.toInt64) hx hb dL_law_294 rfl ?_
    refine W.lcmp hx hb dL_law_295 ?_
    rw [lgc]
    refine lv_if_eq (tgt := 301) hx hb dL_law_296 (by decide) (fun _ => ?_) (fun h => absurd rfl h)
    refine lv_goto (tgt := 1575) hx hb dL_law_301 (by decide) ?_
    exact KO (opRequest s0 (xs (nI (4 * k + 1)).toNatClampNeg) (xs (nI (4 * k + 2)).toNatClampNeg) (xs (nI (4 * k + 3)).toNatClampNeg)).2.2 u.1 u2 u.2 H locs hP hD hS hR1 hZ1 _ (lv_sub hl [2, 3, 4, 5, 6] rfl)
set_option maxHeartbeats 1000000 in
set_option maxRecDepth 100000 in
theorem cs_work {p : Program} {l : Launch} {e : Env} {s : State} {m : MethodId} {below : List Frame} {meth : Method} {c : Code} {sb L : Nat} {xs : Nat → Int32} {D : va_G} {cI cT cL : ClassId} {A : Nat → Prop} {Q : State → Prop} (x a o b t h : Nat → Nat) (ra : Nat → Nat → Nat) (ad : Nat → Nat) (oa k cells slots n : Nat) (LB : LBx p l s m c sb L xs D cI cT cL A) (hkL : 4 * k + 4 ≤ L) (hL2 : L ≤ 2048) (hn : n + 80 < 2 ^ 31) (hce : cells + 4 ≤ 601024) (hsl : slots + 24 ≤ 7293034) (s0 : ST) (j0 : JT) (r0 : JR) (f0 : Nat → Int64) (H : Heap) (locs : List Loc) (hP : va_P D vwCl (lwW cI cT cL x a o b t h ra ad oa s0 j0 r0 f0) H) (hD : va_D A (lwW cI cT cL x a o b t h ra ad oa s0 j0 r0 f0)) (hS : va_S A s.heap H locs) (hR : LR s0 j0) (hZ : LZu n s0 r0) (ls : Array Slot) (hl : lv_has ls 7 (lwL sb (x 0) (ad 0) oa k)) (KO : LKo p l e s m below meth c sb D cI cT cL A Q x a o b t h ra ad oa k (cells + 4) (slots + 24) (n + 80)) : W p l e room_1 s m #[Value.ref sb] below meth c H locs cells slots Q (F0 m 304 ls []) := by
  obtain ⟨hx, hb, hml, hown, hts, hK, hX0, hbl, hbA, hA, hX, hflag⟩ := LB
  have hK2 : va_K D vwCl (TY cI cT) s := hK.sub (tys' := TY cI cT) [0, 1] rfl
  have hro := ro_Work (s := s0) (p0 := (xs (nI (4 * k + 1)).toNatClampNeg)) (p1 := (xs (nI (4 * k + 2)).toNatClampNeg))
  have hro1 : (opWork s0 (xs (nI (4 * k + 1)).toNatClampNeg) (xs (nI (4 * k + 2)).toNatClampNeg)).1 ≤ 3 := Nat.le_trans hro.1 (by decide)
  refine lv_aload_n hx hb dL_law_304 rfl (lv_at hl 1 rfl) ?_
  refine lv_aload_n hx hb dL_law_305 rfl (lv_at hl 0 rfl) ?_
  refine lv_iload hx hb dL_law_306 (lv_at hl 4 rfl) ?_
  refine lv_iconst (v := nI 1) hx hb dL_law_308 (by decide) ?_
  refine lv_iadd hx hb dL_law_309 ?_
  refine tpe (y := nI (4 * k + 1)) (nI_add _ _) ?_
  refine va_sld hx hb hX0 hbl hbA hS (vp_in_nI (by omega) (by omega)) dL_law_310 ?_
  refine lv_aload_n hx hb dL_law_311 rfl (lv_at hl 0 rfl) ?_
  refine lv_iload hx hb dL_law_312 (lv_at hl 4 rfl) ?_
  refine lv_iconst (v := nI 2) hx hb dL_law_314 (by decide) ?_
  refine lv_iadd hx hb dL_law_315 ?_
  refine tpe (y := nI (4 * k + 2)) (nI_add _ _) ?_
  refine va_sld hx hb hX0 hbl hbA hS (vp_in_nI (by omega) (by omega)) dL_law_316 ?_
  refine lv_aload_n hx hb dL_law_317 rfl (lv_at hl 3 rfl) ?_
  refine call_cw (X := []) (Wc := ([(oa, outE cL f0)] ++ lmW cI cT x a o b t h ra s0 j0)) (Z := rfW cI ad s0 r0) (As := [.ref (x 0), .int (xs (nI (4 * k + 1)).toNatClampNeg), .int (xs (nI (4 * k + 2)).toNatClampNeg), .ref oa]) (rest := []) ⟨hx, hb, hml, hown, hts⟩ (c_L_work l hflag D cI cT cL x a o b t h ra s0 j0 oa f0 (xs (nI (4 * k + 1)).toNatClampNeg) (xs (nI (4 * k + 2)).toNatClampNeg) hR) (vx_cwSW 4 hts gL_law_L_work rfl rfl rfl (by decide +kernel) ⟨Nat.le_of_ble_eq_true rfl, Nat.le_of_ble_eq_true rfl⟩) hK hP hD hS hA hX (fun _ => adr_ol) rfl hl.1 rfl (Nat.le_of_ble_eq_true rfl) ⟨hce, hsl⟩ dL_law_318 (fun r u H locs hp hP hD hS => ?_)
  obtain ⟨hr, hR1, hv⟩ := hp
  rw [hr]
  have hP : va_P D vwCl (([(oa, outE cL u.2)] ++ lmW cI cT x a o b t h ra (opWork s0 (xs (nI (4 * k + 1)).toNatClampNeg) (xs (nI (4 * k + 2)).toNatClampNeg)).2.2 u.1) ++ rfW cI ad s0 r0) H := hP; have hD : va_D A (([(oa, outE cL u.2)] ++ lmW cI cT x a o b t h ra (opWork s0 (xs (nI (4 * k + 1)).toNatClampNeg) (xs (nI (4 * k + 2)).toNatClampNeg)).2.2 u.1) ++ rfW cI ad s0 r0) := hD
  refine lv_istore (lv' := [(5, .int (nI (opWork s0 (xs (nI (4 * k + 1)).toNatClampNeg) (xs (nI (4 * k + 2)).toNatClampNeg)).1)), (0, .ref sb), (1, .ref (x 0)), (2, .ref (ad 0)), (3, .ref oa), (4, .int (nI (4 * k)))]) hx hb dL_law_321 hl (by decide) rfl (fun ls hl => ?_)
  refine lv_aload_n hx hb dL_law_323 rfl (lv_at hl 3 rfl) ?_
  refine lv_aload_n hx hb dL_law_324 rfl (lv_at hl 1 rfl) ?_
  refine lv_iload hx hb dL_law_325 (lv_at hl 5 rfl) ?_
  refine lv_iconst (v := nI 1) hx hb dL_law_327 (by decide) ?_
  refine lv_iadd hx hb dL_law_328 ?_
  refine tpe (y := nI (4 * k + 1)) (nI_add _ _) ?_
  refine va_sld hx hb hX0 hbl hbA hS (vp_in_nI (by omega) (by omega)) dL_law_329 ?_
  refine lv_aload_n hx hb dL_law_330 rfl (lv_at hl 1 rfl) ?_
  refine lv_iload hx hb dL_law_331 (lv_at hl 5 rfl) ?_
  refine lv_iconst (v := nI 2) hx hb dL_law_333 (by decide) ?_
  refine lv_iadd hx hb dL_law_334 ?_
  refine tpe (y := nI (4 * k + 2)) (nI_add _ _) ?_
  refine va_sld hx hb hX0 hbl hbA hS (vp_in_nI (by omega) (by omega)) dL_law_335 ?_
  refine call_i (X := ([(oa, outE cL u.2)] ++ lmW cI cT x a o b t h ra (opWork s0 (xs (nI (4 * k + 1)).toNatClampNeg) (xs (nI (4 * k + 2)).toNatClampNeg)).2.2 u.1)) (Wc := rfW cI ad s0 r0) (Z := []) (As := [.int (xs (nI (4 * k + 1)).toNatClampNeg), .int (xs (nI (4 * k + 2)).toNatClampNeg)]) (rest := []) ⟨hx, hb, hml, hown, hts⟩ (c_X5_work l D cI cT ad _ 0 0 _ _ _ _ _ _ _ _ _ _ _ s0.1 s0.2.1 s0.2.2.1 s0.2.2.2.1 s0.2.2.2.2 n (xs (nI (4 * k + 1)).toNatClampNeg) (xs (nI (4 * k + 2)).toNatClampNeg) hZ hn) (cwV 2 hts gL_law_X5_work rfl rfl rfl (by decide +kernel) ⟨Nat.le_of_ble_eq_true rfl, Nat.le_of_ble_eq_true rfl⟩) hK2 (P_nilE hP) (D_nilE hD) hS hA (va_recv hK2 (sub_mid (P_nilE hP)) (ci := 5) (q0 := 0) rfl rfl) (fun _ => adr_rf) rfl hl.1 rfl (Nat.le_of_ble_eq_true rfl) ⟨Nat.le_trans (by omega) hce, Nat.le_trans (by omega) hsl⟩ dL_law_336 (fun rv u2 H locs hp2 hP hD hS => ?_)
  have hP := P_nilF hP; have hD := D_nilF hD
  have hr2 : rv = (opWork s0 (xs (nI (4 * k + 1)).toNatClampNeg) (xs (nI (4 * k + 2)).toNatClampNeg)).2.1 := hp2.1
  have hth : u2.1 = nI (opWork s0 (xs (nI (4 * k + 1)).toNatClampNeg) (xs (nI (4 * k + 2)).toNatClampNeg)).1 := hp2.2.1
  have hZ1 : LZu (n + 80) (opWork s0 (xs (nI (4 * k + 1)).toNatClampNeg) (xs (nI (4 * k + 2)).toNatClampNeg)).2.2 u2 := hp2.2.2
  rw [hr2]
  have hP : va_P D vwCl (([(oa, outE cL u.2)] ++ lmW cI cT x a o b t h ra (opWork s0 (xs (nI (4 * k + 1)).toNatClampNeg) (xs (nI (4 * k + 2)).toNatClampNeg)).2.2 u.1) ++ rfW cI ad (opWork s0 (xs (nI (4 * k + 1)).toNatClampNeg) (xs (nI (4 * k + 2)).toNatClampNeg)).2.2 u2) H := hP; have hD : va_D A (([(oa, outE cL u.2)] ++ lmW cI cT x a o b t h ra (opWork s0 (xs (nI (4 * k + 1)).toNatClampNeg) (xs (nI (4 * k + 2)).toNatClampNeg)).2.2 u.1) ++ rfW cI ad (opWork s0 (xs (nI (4 * k + 1)).toNatClampNeg) (xs (nI (4 * k + 2)).toNatClampNeg)).2.2 u2) := hD
  refine lv_istore (lv' := [(6, .int (opWork s0 (xs (nI (4 * k + 1)).toNatClampNeg) (xs (nI (4 * k + 2)).toNatClampNeg)).2.1), (5, .int (nI (opWork s0 (xs (nI (4 * k + 1)).toNatClampNeg) (xs (nI (4 * k + 2)).toNatClampNeg)).1)), (0, .ref sb), (1, .ref (x 0)), (2, .ref (ad 0)), (3, .ref oa), (4, .int (nI (4 * k)))]) hx hb dL_law_339 hl (by decide) rfl (fun ls hl => ?_)
  refine lv_aload_n hx hb dL_law_341 rfl (lv_at hl 4 rfl) ?_
  clear hr2 hp2
  refine call_i (X := ([(oa, outE cL u.2)] ++ lmW cI cT x a o b t h ra (opWork s0 (xs (nI (4 * k + 1)).toNatClampNeg) (xs (nI (4 * k + 2)).toNatClampNeg)).2.2 u.1)) (Wc := rfW cI ad (opWork s0 (xs (nI (4 * k + 1)).toNatClampNeg) (xs (nI (4 * k + 2)).toNatClampNeg)).2.2 u2) (Z := []) (As := []) (rest := []) ⟨hx, hb, hml, hown, hts⟩ (c_X5_thrown l D cI cT ad _ _ _ _ _ _ _ _ _ _ _ _ _ _) (cwV 0 hts gL_law_X5_thrown rfl rfl rfl (by decide +kernel) ⟨Nat.le_of_ble_eq_true rfl, Nat.le_of_ble_eq_true rfl⟩) hK2 (P_nilE hP) (D_nilE hD) hS hA (va_recv hK2 (sub_mid (P_nilE hP)) (ci := 5) (q0 := 0) rfl rfl) (fun _ => adr_rf) rfl hl.1 rfl (Nat.le_of_ble_eq_true rfl) ⟨Nat.le_trans (by omega) hce, Nat.le_trans (by omega) hsl⟩ dL_law_342 (fun rv2 u3 H locs hp3 hP hD hS => ?_)
  have hP := P_nilF hP; have hD := D_nilF hD
  have hr3 : rv2 = nI (opWork s0 (xs (nI (4 * k + 1)).toNatClampNeg) (xs (nI (4 * k + 2)).toNatClampNeg)).1 := hp3.trans hth
  rw [hr3]
  have hP : va_P D vwCl (lwW cI cT cL x a o b t h ra ad oa (opWork s0 (xs (nI (4 * k + 1)).toNatClampNeg) (xs (nI (4 * k + 2)).toNatClampNeg)).2.2 u.1 u2 u.2) H := hP; have hD : va_D A (lwW cI cT cL x a o b t h ra ad oa (opWork s0 (xs (nI (4 * k + 1)).toNatClampNeg) (xs (nI (4 * k + 2)).toNatClampNeg)).2.2 u.1 u2 u.2) := hD
  refine lv_iload hx hb dL_law_345 (lv_at hl 1 rfl) ?_
  refine lv_icmp_eq (tgt := 352) hx hb dL_law_347 (by decide) (fun _ => ?_) (fun h => absurd rfl h)
  refine lv_iload hx hb dL_law_352 (lv_at hl 1 rfl) ?_
  refine lv_if_ne (tgt := 369) hx hb dL_law_354 (by decide) (fun h9 => ?_) (fun h9 => ?_)
  · refine lv_goto (tgt := 1575) hx hb dL_law_369 (by decide) ?_
    exact KO (opWork s0 (xs (nI (4 * k + 1)).toNatClampNeg) (xs (nI (4 * k + 2)).toNatClampNeg)).2.2 u.1 u2 u.2 H locs hP hD hS hR1 hZ1 _ (lv_sub hl [2, 3, 4, 5, 6] rfl)
  · have h0 : (opWork s0 (xs (nI (4 * k + 1)).toNatClampNeg) (xs (nI (4 * k + 2)).toNatClampNeg)).1 = 0 := (nI_eq (a := (opWork s0 (xs (nI (4 * k + 1)).toNatClampNeg) (xs (nI (4 * k + 2)).toNatClampNeg)).1) (b := 0) (by omega) (by decide)).mp h9
    refine lv_aload_n hx hb dL_law_357 rfl (lv_at hl 5 rfl) ?_
    refine lv_iconst (v := nI 0) hx hb dL_law_358 (by decide) ?_
    refine va_lald hx hb hK hP 0 2 rfl rfl (vp_in_nI (by decide) (by decide)) dL_law_359 ?_
    rw [show (nI 0).toNatClampNeg = 0 by decide, hv h0]
    refine lv_iload hx hb dL_law_360 (lv_at hl 0 rfl) ?_
    refine lv_i2l (v := (opWork s0 (xs (nI (4 * k + 1)).toNatClampNeg) (xs (nI (4 * k + 2)).toNatClampNeg)).2.1.toInt64) hx hb dL_law_362 rfl ?_
    refine W.lcmp hx hb dL_law_363 ?_
    rw [lgc]
    refine lv_if_eq (tgt := 369) hx hb dL_law_364 (by decide) (fun _ => ?_) (fun h => absurd rfl h)
    refine lv_goto (tgt := 1575) hx hb dL_law_369 (by decide) ?_
    exact KO (opWork s0 (xs (nI (4 * k + 1)).toNatClampNeg) (xs (nI (4 * k + 2)).toNatClampNeg)).2.2 u.1 u2 u.2 H locs hP hD hS hR1 hZ1 _ (lv_sub hl [2, 3, 4, 5, 6] rfl)
set_option maxHeartbeats 1000000 in
set_option maxRecDepth 100000 in
theorem cs_withdraw {p : Program} {l : Launch} {e : Env} {s : State} {m : MethodId} {below : List Frame} {meth : Method} {c : Code} {sb L : Nat} {xs : Nat → Int32} {D : va_G} {cI cT cL : ClassId} {A : Nat → Prop} {Q : State → Prop} (x a o b t h : Nat → Nat) (ra : Nat → Nat → Nat) (ad : Nat → Nat) (oa k cells slots n : Nat) (LB : LBx p l s m c sb L xs D cI cT cL A) (hkL : 4 * k + 4 ≤ L) (hL2 : L ≤ 2048) (hn : n + 80 < 2 ^ 31) (hce : cells + 4 ≤ 601024) (hsl : slots + 24 ≤ 7293034) (s0 : ST) (j0 : JT) (r0 : JR) (f0 : Nat → Int64) (H : Heap) (locs : List Loc) (hP : va_P D vwCl (lwW cI cT cL x a o b t h ra ad oa s0 j0 r0 f0) H) (hD : va_D A (lwW cI cT cL x a o b t h ra ad oa s0 j0 r0 f0)) (hS : va_S A s.heap H locs) (hR : LR s0 j0) (hZ : LZu n s0 r0) (ls : Array Slot) (hl : lv_has ls 7 (lwL sb (x 0) (ad 0) oa k)) (KO : LKo p l e s m below meth c sb D cI cT cL A Q x a o b t h ra ad oa k (cells + 4) (slots + 24) (n + 80)) : W p l e room_1 s m #[Value.ref sb] below meth c H locs cells slots Q (F0 m 372 ls []) := by
  obtain ⟨hx, hb, hml, hown, hts, hK, hX0, hbl, hbA, hA, hX, hflag⟩ := LB
  have hK2 : va_K D vwCl (TY cI cT) s := hK.sub (tys' := TY cI cT) [0, 1] rfl
  have hro := ro_Withdraw (s := s0) (p0 := (xs (nI (4 * k + 1)).toNatClampNeg))
  have hro1 : (opWithdraw s0 (xs (nI (4 * k + 1)).toNatClampNeg)).1 ≤ 3 := Nat.le_trans hro.1 (by decide)
  refine lv_aload_n hx hb dL_law_372 rfl (lv_at hl 1 rfl) ?_
  refine lv_aload_n hx hb dL_law_373 rfl (lv_at hl 0 rfl) ?_
  refine lv_iload hx hb dL_law_374 (lv_at hl 4 rfl) ?_
  refine lv_iconst (v := nI 1) hx hb dL_law_376 (by decide) ?_
  refine lv_iadd hx hb dL_law_377 ?_
  refine tpe (y := nI (4 * k + 1)) (nI_add _ _) ?_
  refine va_sld hx hb hX0 hbl hbA hS (vp_in_nI (by omega) (by omega)) dL_law_378 ?_
  refine lv_aload_n hx hb dL_law_379 rfl (lv_at hl 3 rfl) ?_
  refine call_cw (X := []) (Wc := ([(oa, outE cL f0)] ++ lmW cI cT x a o b t h ra s0 j0)) (Z := rfW cI ad s0 r0) (As := [.ref (x 0), .int (xs (nI (4 * k + 1)).toNatClampNeg), .ref oa]) (rest := []) ⟨hx, hb, hml, hown, hts⟩ (c_L_withdraw l hflag D cI cT cL x a o b t h ra s0 j0 oa f0 (xs (nI (4 * k + 1)).toNatClampNeg) hR) (vx_cwSW 3 hts gL_law_L_withdraw rfl rfl rfl (by decide +kernel) ⟨Nat.le_of_ble_eq_true rfl, Nat.le_of_ble_eq_true rfl⟩) hK hP hD hS hA hX (fun _ => adr_ol) rfl hl.1 rfl (Nat.le_of_ble_eq_true rfl) ⟨hce, hsl⟩ dL_law_380 (fun r u H locs hp hP hD hS => ?_)
  obtain ⟨hr, hR1, hv⟩ := hp
  rw [hr]
  have hP : va_P D vwCl (([(oa, outE cL u.2)] ++ lmW cI cT x a o b t h ra (opWithdraw s0 (xs (nI (4 * k + 1)).toNatClampNeg)).2.2 u.1) ++ rfW cI ad s0 r0) H := hP; have hD : va_D A (([(oa, outE cL u.2)] ++ lmW cI cT x a o b t h ra (opWithdraw s0 (xs (nI (4 * k + 1)).toNatClampNeg)).2.2 u.1) ++ rfW cI ad s0 r0) := hD
  refine lv_istore (lv' := [(5, .int (nI (opWithdraw s0 (xs (nI (4 * k + 1)).toNatClampNeg)).1)), (0, .ref sb), (1, .ref (x 0)), (2, .ref (ad 0)), (3, .ref oa), (4, .int (nI (4 * k)))]) hx hb dL_law_383 hl (by decide) rfl (fun ls hl => ?_)
  refine lv_aload_n hx hb dL_law_385 rfl (lv_at hl 3 rfl) ?_
  refine lv_aload_n hx hb dL_law_386 rfl (lv_at hl 1 rfl) ?_
  refine lv_iload hx hb dL_law_387 (lv_at hl 5 rfl) ?_
  refine lv_iconst (v := nI 1) hx hb dL_law_389 (by decide) ?_
  refine lv_iadd hx hb dL_law_390 ?_
  refine tpe (y := nI (4 * k + 1)) (nI_add _ _) ?_
  refine va_sld hx hb hX0 hbl hbA hS (vp_in_nI (by omega) (by omega)) dL_law_391 ?_
  refine call_i (X := ([(oa, outE cL u.2)] ++ lmW cI cT x a o b t h ra (opWithdraw s0 (xs (nI (4 * k + 1)).toNatClampNeg)).2.2 u.1)) (Wc := rfW cI ad s0 r0) (Z := []) (As := [.int (xs (nI (4 * k + 1)).toNatClampNeg)]) (rest := []) ⟨hx, hb, hml, hown, hts⟩ (c_X5_withdraw l D cI cT ad _ 0 0 _ _ _ _ _ _ _ _ _ _ _ s0.1 s0.2.1 s0.2.2.1 s0.2.2.2.1 s0.2.2.2.2 n (xs (nI (4 * k + 1)).toNatClampNeg) hZ hn) (cwV 1 hts gL_law_X5_withdraw rfl rfl rfl (by decide +kernel) ⟨Nat.le_of_ble_eq_true rfl, Nat.le_of_ble_eq_true rfl⟩) hK2 (P_nilE hP) (D_nilE hD) hS hA (va_recv hK2 (sub_mid (P_nilE hP)) (ci := 5) (q0 := 0) rfl rfl) (fun _ => adr_rf) rfl hl.1 rfl (Nat.le_of_ble_eq_true rfl) ⟨Nat.le_trans (by omega) hce, Nat.le_trans (by omega) hsl⟩ dL_law_392 (fun rv u2 H locs hp2 hP hD hS => ?_)
  have hP := P_nilF hP; have hD := D_nilF hD
  have hr2 : rv = (opWithdraw s0 (xs (nI (4 * k + 1)).toNatClampNeg)).2.1 := hp2.1
  have hth : u2.1 = nI (opWithdraw s0 (xs (nI (4 * k + 1)).toNatClampNeg)).1 := hp2.2.1
  have hZ1 : LZu (n + 80) (opWithdraw s0 (xs (nI (4 * k + 1)).toNatClampNeg)).2.2 u2 := hp2.2.2
  rw [hr2]
  have hP : va_P D vwCl (([(oa, outE cL u.2)] ++ lmW cI cT x a o b t h ra (opWithdraw s0 (xs (nI (4 * k + 1)).toNatClampNeg)).2.2 u.1) ++ rfW cI ad (opWithdraw s0 (xs (nI (4 * k + 1)).toNatClampNeg)).2.2 u2) H := hP; have hD : va_D A (([(oa, outE cL u.2)] ++ lmW cI cT x a o b t h ra (opWithdraw s0 (xs (nI (4 * k + 1)).toNatClampNeg)).2.2 u.1) ++ rfW cI ad (opWithdraw s0 (xs (nI (4 * k + 1)).toNatClampNeg)).2.2 u2) := hD
  refine lv_istore (lv' := [(6, .int (opWithdraw s0 (xs (nI (4 * k + 1)).toNatClampNeg)).2.1), (5, .int (nI (opWithdraw s0 (xs (nI (4 * k + 1)).toNatClampNeg)).1)), (0, .ref sb), (1, .ref (x 0)), (2, .ref (ad 0)), (3, .ref oa), (4, .int (nI (4 * k)))]) hx hb dL_law_395 hl (by decide) rfl (fun ls hl => ?_)
  refine lv_aload_n hx hb dL_law_397 rfl (lv_at hl 4 rfl) ?_
  clear hr2 hp2
  refine call_i (X := ([(oa, outE cL u.2)] ++ lmW cI cT x a o b t h ra (opWithdraw s0 (xs (nI (4 * k + 1)).toNatClampNeg)).2.2 u.1)) (Wc := rfW cI ad (opWithdraw s0 (xs (nI (4 * k + 1)).toNatClampNeg)).2.2 u2) (Z := []) (As := []) (rest := []) ⟨hx, hb, hml, hown, hts⟩ (c_X5_thrown l D cI cT ad _ _ _ _ _ _ _ _ _ _ _ _ _ _) (cwV 0 hts gL_law_X5_thrown rfl rfl rfl (by decide +kernel) ⟨Nat.le_of_ble_eq_true rfl, Nat.le_of_ble_eq_true rfl⟩) hK2 (P_nilE hP) (D_nilE hD) hS hA (va_recv hK2 (sub_mid (P_nilE hP)) (ci := 5) (q0 := 0) rfl rfl) (fun _ => adr_rf) rfl hl.1 rfl (Nat.le_of_ble_eq_true rfl) ⟨Nat.le_trans (by omega) hce, Nat.le_trans (by omega) hsl⟩ dL_law_398 (fun rv2 u3 H locs hp3 hP hD hS => ?_)
  have hP := P_nilF hP; have hD := D_nilF hD
  have hr3 : rv2 = nI (opWithdraw s0 (xs (nI (4 * k + 1)).toNatClampNeg)).1 := hp3.trans hth
  rw [hr3]
  have hP : va_P D vwCl (lwW cI cT cL x a o b t h ra ad oa (opWithdraw s0 (xs (nI (4 * k + 1)).toNatClampNeg)).2.2 u.1 u2 u.2) H := hP; have hD : va_D A (lwW cI cT cL x a o b t h ra ad oa (opWithdraw s0 (xs (nI (4 * k + 1)).toNatClampNeg)).2.2 u.1 u2 u.2) := hD
  refine lv_iload hx hb dL_law_401 (lv_at hl 1 rfl) ?_
  refine lv_icmp_eq (tgt := 408) hx hb dL_law_403 (by decide) (fun _ => ?_) (fun h => absurd rfl h)
  refine lv_iload hx hb dL_law_408 (lv_at hl 1 rfl) ?_
  refine lv_if_ne (tgt := 425) hx hb dL_law_410 (by decide) (fun h9 => ?_) (fun h9 => ?_)
  · refine lv_goto (tgt := 1575) hx hb dL_law_425 (by decide) ?_
    exact KO (opWithdraw s0 (xs (nI (4 * k + 1)).toNatClampNeg)).2.2 u.1 u2 u.2 H locs hP hD hS hR1 hZ1 _ (lv_sub hl [2, 3, 4, 5, 6] rfl)
  · have h0 : (opWithdraw s0 (xs (nI (4 * k + 1)).toNatClampNeg)).1 = 0 := (nI_eq (a := (opWithdraw s0 (xs (nI (4 * k + 1)).toNatClampNeg)).1) (b := 0) (by omega) (by decide)).mp h9
    refine lv_aload_n hx hb dL_law_413 rfl (lv_at hl 5 rfl) ?_
    refine lv_iconst (v := nI 0) hx hb dL_law_414 (by decide) ?_
    refine va_lald hx hb hK hP 0 2 rfl rfl (vp_in_nI (by decide) (by decide)) dL_law_415 ?_
    rw [show (nI 0).toNatClampNeg = 0 by decide, hv h0]
    refine lv_iload hx hb dL_law_416 (lv_at hl 0 rfl) ?_
    refine lv_i2l (v := (opWithdraw s0 (xs (nI (4 * k + 1)).toNatClampNeg)).2.1.toInt64) hx hb dL_law_418 rfl ?_
    refine W.lcmp hx hb dL_law_419 ?_
    rw [lgc]
    refine lv_if_eq (tgt := 425) hx hb dL_law_420 (by decide) (fun _ => ?_) (fun h => absurd rfl h)
    refine lv_goto (tgt := 1575) hx hb dL_law_425 (by decide) ?_
    exact KO (opWithdraw s0 (xs (nI (4 * k + 1)).toNatClampNeg)).2.2 u.1 u2 u.2 H locs hP hD hS hR1 hZ1 _ (lv_sub hl [2, 3, 4, 5, 6] rfl)
set_option maxHeartbeats 1000000 in
set_option maxRecDepth 100000 in
theorem cs_commit {p : Program} {l : Launch} {e : Env} {s : State} {m : MethodId} {below : List Frame} {meth : Method} {c : Code} {sb L : Nat} {xs : Nat → Int32} {D : va_G} {cI cT cL : ClassId} {A : Nat → Prop} {Q : State → Prop} (x a o b t h : Nat → Nat) (ra : Nat → Nat → Nat) (ad : Nat → Nat) (oa k cells slots n : Nat) (LB : LBx p l s m c sb L xs D cI cT cL A) (hkL : 4 * k + 4 ≤ L) (hL2 : L ≤ 2048) (hn : n + 80 < 2 ^ 31) (hce : cells + 4 ≤ 601024) (hsl : slots + 24 ≤ 7293034) (s0 : ST) (j0 : JT) (r0 : JR) (f0 : Nat → Int64) (H : Heap) (locs : List Loc) (hP : va_P D vwCl (lwW cI cT cL x a o b t h ra ad oa s0 j0 r0 f0) H) (hD : va_D A (lwW cI cT cL x a o b t h ra ad oa s0 j0 r0 f0)) (hS : va_S A s.heap H locs) (hR : LR s0 j0) (hZ : LZu n s0 r0) (ls : Array Slot) (hl : lv_has ls 7 (lwL sb (x 0) (ad 0) oa k)) (KO : LKo p l e s m below meth c sb D cI cT cL A Q x a o b t h ra ad oa k (cells + 4) (slots + 24) (n + 80)) : W p l e room_1 s m #[Value.ref sb] below meth c H locs cells slots Q (F0 m 428 ls []) := by
  obtain ⟨hx, hb, hml, hown, hts, hK, hX0, hbl, hbA, hA, hX, hflag⟩ := LB
  have hK2 : va_K D vwCl (TY cI cT) s := hK.sub (tys' := TY cI cT) [0, 1] rfl
  have hro := ro_Commit (s := s0) (p0 := (xs (nI (4 * k + 1)).toNatClampNeg))
  have hro1 : (opCommit s0 (xs (nI (4 * k + 1)).toNatClampNeg)).1 ≤ 3 := Nat.le_trans hro.1 (by decide)
  refine lv_aload_n hx hb dL_law_428 rfl (lv_at hl 1 rfl) ?_
  refine lv_aload_n hx hb dL_law_429 rfl (lv_at hl 0 rfl) ?_
  refine lv_iload hx hb dL_law_430 (lv_at hl 4 rfl) ?_
  refine lv_iconst (v := nI 1) hx hb dL_law_432 (by decide) ?_
  refine lv_iadd hx hb dL_law_433 ?_
  refine tpe (y := nI (4 * k + 1)) (nI_add _ _) ?_
  refine va_sld hx hb hX0 hbl hbA hS (vp_in_nI (by omega) (by omega)) dL_law_434 ?_
  refine lv_aload_n hx hb dL_law_435 rfl (lv_at hl 3 rfl) ?_
  refine call_cw (X := []) (Wc := ([(oa, outE cL f0)] ++ lmW cI cT x a o b t h ra s0 j0)) (Z := rfW cI ad s0 r0) (As := [.ref (x 0), .int (xs (nI (4 * k + 1)).toNatClampNeg), .ref oa]) (rest := []) ⟨hx, hb, hml, hown, hts⟩ (c_L_commit l hflag D cI cT cL x a o b t h ra s0 j0 oa f0 (xs (nI (4 * k + 1)).toNatClampNeg) hR) (vx_cwSW 3 hts gL_law_L_commit rfl rfl rfl (by decide +kernel) ⟨Nat.le_of_ble_eq_true rfl, Nat.le_of_ble_eq_true rfl⟩) hK hP hD hS hA hX (fun _ => adr_ol) rfl hl.1 rfl (Nat.le_of_ble_eq_true rfl) ⟨hce, hsl⟩ dL_law_436 (fun r u H locs hp hP hD hS => ?_)
  obtain ⟨hr, hR1, hv⟩ := hp
  rw [hr]
  have hP : va_P D vwCl (([(oa, outE cL u.2)] ++ lmW cI cT x a o b t h ra (opCommit s0 (xs (nI (4 * k + 1)).toNatClampNeg)).2.2 u.1) ++ rfW cI ad s0 r0) H := hP; have hD : va_D A (([(oa, outE cL u.2)] ++ lmW cI cT x a o b t h ra (opCommit s0 (xs (nI (4 * k + 1)).toNatClampNeg)).2.2 u.1) ++ rfW cI ad s0 r0) := hD
  refine lv_istore (lv' := [(5, .int (nI (opCommit s0 (xs (nI (4 * k + 1)).toNatClampNeg)).1)), (0, .ref sb), (1, .ref (x 0)), (2, .ref (ad 0)), (3, .ref oa), (4, .int (nI (4 * k)))]) hx hb dL_law_439 hl (by decide) rfl (fun ls hl => ?_)
  refine lv_aload_n hx hb dL_law_441 rfl (lv_at hl 3 rfl) ?_
  refine lv_aload_n hx hb dL_law_442 rfl (lv_at hl 1 rfl) ?_
  refine lv_iload hx hb dL_law_443 (lv_at hl 5 rfl) ?_
  refine lv_iconst (v := nI 1) hx hb dL_law_445 (by decide) ?_
  refine lv_iadd hx hb dL_law_446 ?_
  refine tpe (y := nI (4 * k + 1)) (nI_add _ _) ?_
  refine va_sld hx hb hX0 hbl hbA hS (vp_in_nI (by omega) (by omega)) dL_law_447 ?_
  refine call_i (X := ([(oa, outE cL u.2)] ++ lmW cI cT x a o b t h ra (opCommit s0 (xs (nI (4 * k + 1)).toNatClampNeg)).2.2 u.1)) (Wc := rfW cI ad s0 r0) (Z := []) (As := [.int (xs (nI (4 * k + 1)).toNatClampNeg)]) (rest := []) ⟨hx, hb, hml, hown, hts⟩ (c_X5_commit l D cI cT ad _ 0 0 _ _ _ _ _ _ _ _ _ _ _ s0.1 s0.2.1 s0.2.2.1 s0.2.2.2.1 s0.2.2.2.2 n (xs (nI (4 * k + 1)).toNatClampNeg) hZ hn) (cwV 1 hts gL_law_X5_commit rfl rfl rfl (by decide +kernel) ⟨Nat.le_of_ble_eq_true rfl, Nat.le_of_ble_eq_true rfl⟩) hK2 (P_nilE hP) (D_nilE hD) hS hA (va_recv hK2 (sub_mid (P_nilE hP)) (ci := 5) (q0 := 0) rfl rfl) (fun _ => adr_rf) rfl hl.1 rfl (Nat.le_of_ble_eq_true rfl) ⟨Nat.le_trans (by omega) hce, Nat.le_trans (by omega) hsl⟩ dL_law_448 (fun rv u2 H locs hp2 hP hD hS => ?_)
  have hP := P_nilF hP; have hD := D_nilF hD
  have hr2 : rv = (opCommit s0 (xs (nI (4 * k + 1)).toNatClampNeg)).2.1 := hp2.1
  have hth : u2.1 = nI (opCommit s0 (xs (nI (4 * k + 1)).toNatClampNeg)).1 := hp2.2.1
  have hZ1 : LZu (n + 80) (opCommit s0 (xs (nI (4 * k + 1)).toNatClampNeg)).2.2 u2 := hp2.2.2
  rw [hr2]
  have hP : va_P D vwCl (([(oa, outE cL u.2)] ++ lmW cI cT x a o b t h ra (opCommit s0 (xs (nI (4 * k + 1)).toNatClampNeg)).2.2 u.1) ++ rfW cI ad (opCommit s0 (xs (nI (4 * k + 1)).toNatClampNeg)).2.2 u2) H := hP; have hD : va_D A (([(oa, outE cL u.2)] ++ lmW cI cT x a o b t h ra (opCommit s0 (xs (nI (4 * k + 1)).toNatClampNeg)).2.2 u.1) ++ rfW cI ad (opCommit s0 (xs (nI (4 * k + 1)).toNatClampNeg)).2.2 u2) := hD
  refine lv_istore (lv' := [(6, .int (opCommit s0 (xs (nI (4 * k + 1)).toNatClampNeg)).2.1), (5, .int (nI (opCommit s0 (xs (nI (4 * k + 1)).toNatClampNeg)).1)), (0, .ref sb), (1, .ref (x 0)), (2, .ref (ad 0)), (3, .ref oa), (4, .int (nI (4 * k)))]) hx hb dL_law_451 hl (by decide) rfl (fun ls hl => ?_)
  refine lv_aload_n hx hb dL_law_453 rfl (lv_at hl 4 rfl) ?_
  clear hr2 hp2
  refine call_i (X := ([(oa, outE cL u.2)] ++ lmW cI cT x a o b t h ra (opCommit s0 (xs (nI (4 * k + 1)).toNatClampNeg)).2.2 u.1)) (Wc := rfW cI ad (opCommit s0 (xs (nI (4 * k + 1)).toNatClampNeg)).2.2 u2) (Z := []) (As := []) (rest := []) ⟨hx, hb, hml, hown, hts⟩ (c_X5_thrown l D cI cT ad _ _ _ _ _ _ _ _ _ _ _ _ _ _) (cwV 0 hts gL_law_X5_thrown rfl rfl rfl (by decide +kernel) ⟨Nat.le_of_ble_eq_true rfl, Nat.le_of_ble_eq_true rfl⟩) hK2 (P_nilE hP) (D_nilE hD) hS hA (va_recv hK2 (sub_mid (P_nilE hP)) (ci := 5) (q0 := 0) rfl rfl) (fun _ => adr_rf) rfl hl.1 rfl (Nat.le_of_ble_eq_true rfl) ⟨Nat.le_trans (by omega) hce, Nat.le_trans (by omega) hsl⟩ dL_law_454 (fun rv2 u3 H locs hp3 hP hD hS => ?_)
  have hP := P_nilF hP; have hD := D_nilF hD
  have hr3 : rv2 = nI (opCommit s0 (xs (nI (4 * k + 1)).toNatClampNeg)).1 := hp3.trans hth
  rw [hr3]
  have hP : va_P D vwCl (lwW cI cT cL x a o b t h ra ad oa (opCommit s0 (xs (nI (4 * k + 1)).toNatClampNeg)).2.2 u.1 u2 u.2) H := hP; have hD : va_D A (lwW cI cT cL x a o b t h ra ad oa (opCommit s0 (xs (nI (4 * k + 1)).toNatClampNeg)).2.2 u.1 u2 u.2) := hD
  refine lv_iload hx hb dL_law_457 (lv_at hl 1 rfl) ?_
  refine lv_icmp_eq (tgt := 464) hx hb dL_law_459 (by decide) (fun _ => ?_) (fun h => absurd rfl h)
  refine lv_iload hx hb dL_law_464 (lv_at hl 1 rfl) ?_
  refine lv_if_ne (tgt := 481) hx hb dL_law_466 (by decide) (fun h9 => ?_) (fun h9 => ?_)
  · refine lv_goto (tgt := 1575) hx hb dL_law_481 (by decide) ?_
    exact KO (opCommit s0 (xs (nI (4 * k + 1)).toNatClampNeg)).2.2 u.1 u2 u.2 H locs hP hD hS hR1 hZ1 _ (lv_sub hl [2, 3, 4, 5, 6] rfl)
  · have h0 : (opCommit s0 (xs (nI (4 * k + 1)).toNatClampNeg)).1 = 0 := (nI_eq (a := (opCommit s0 (xs (nI (4 * k + 1)).toNatClampNeg)).1) (b := 0) (by omega) (by decide)).mp h9
    refine lv_aload_n hx hb dL_law_469 rfl (lv_at hl 5 rfl) ?_
    refine lv_iconst (v := nI 0) hx hb dL_law_470 (by decide) ?_
    refine va_lald hx hb hK hP 0 2 rfl rfl (vp_in_nI (by decide) (by decide)) dL_law_471 ?_
    rw [show (nI 0).toNatClampNeg = 0 by decide, hv h0]
    refine lv_iload hx hb dL_law_472 (lv_at hl 0 rfl) ?_
    refine lv_i2l (v := (opCommit s0 (xs (nI (4 * k + 1)).toNatClampNeg)).2.1.toInt64) hx hb dL_law_474 rfl ?_
    refine W.lcmp hx hb dL_law_475 ?_
    rw [lgc]
    refine lv_if_eq (tgt := 481) hx hb dL_law_476 (by decide) (fun _ => ?_) (fun h => absurd rfl h)
    refine lv_goto (tgt := 1575) hx hb dL_law_481 (by decide) ?_
    exact KO (opCommit s0 (xs (nI (4 * k + 1)).toNatClampNeg)).2.2 u.1 u2 u.2 H locs hP hD hS hR1 hZ1 _ (lv_sub hl [2, 3, 4, 5, 6] rfl)
set_option maxHeartbeats 1000000 in
set_option maxRecDepth 100000 in
theorem cs_rollBack {p : Program} {l : Launch} {e : Env} {s : State} {m : MethodId} {below : List Frame} {meth : Method} {c : Code} {sb L : Nat} {xs : Nat → Int32} {D : va_G} {cI cT cL : ClassId} {A : Nat → Prop} {Q : State → Prop} (x a o b t h : Nat → Nat) (ra : Nat → Nat → Nat) (ad : Nat → Nat) (oa k cells slots n : Nat) (LB : LBx p l s m c sb L xs D cI cT cL A) (hkL : 4 * k + 4 ≤ L) (hL2 : L ≤ 2048) (hn : n + 80 < 2 ^ 31) (hce : cells + 4 ≤ 601024) (hsl : slots + 24 ≤ 7293034) (s0 : ST) (j0 : JT) (r0 : JR) (f0 : Nat → Int64) (H : Heap) (locs : List Loc) (hP : va_P D vwCl (lwW cI cT cL x a o b t h ra ad oa s0 j0 r0 f0) H) (hD : va_D A (lwW cI cT cL x a o b t h ra ad oa s0 j0 r0 f0)) (hS : va_S A s.heap H locs) (hR : LR s0 j0) (hZ : LZu n s0 r0) (ls : Array Slot) (hl : lv_has ls 7 (lwL sb (x 0) (ad 0) oa k)) (KO : LKo p l e s m below meth c sb D cI cT cL A Q x a o b t h ra ad oa k (cells + 4) (slots + 24) (n + 80)) : W p l e room_1 s m #[Value.ref sb] below meth c H locs cells slots Q (F0 m 484 ls []) := by
  obtain ⟨hx, hb, hml, hown, hts, hK, hX0, hbl, hbA, hA, hX, hflag⟩ := LB
  have hK2 : va_K D vwCl (TY cI cT) s := hK.sub (tys' := TY cI cT) [0, 1] rfl
  have hro := ro_RollBack (s := s0) (p0 := (xs (nI (4 * k + 1)).toNatClampNeg))
  have hro1 : (opRollBack s0 (xs (nI (4 * k + 1)).toNatClampNeg)).1 ≤ 3 := Nat.le_trans hro.1 (by decide)
  refine lv_aload_n hx hb dL_law_484 rfl (lv_at hl 1 rfl) ?_
  refine lv_aload_n hx hb dL_law_485 rfl (lv_at hl 0 rfl) ?_
  refine lv_iload hx hb dL_law_486 (lv_at hl 4 rfl) ?_
  refine lv_iconst (v := nI 1) hx hb dL_law_488 (by decide) ?_
  refine lv_iadd hx hb dL_law_489 ?_
  refine tpe (y := nI (4 * k + 1)) (nI_add _ _) ?_
  refine va_sld hx hb hX0 hbl hbA hS (vp_in_nI (by omega) (by omega)) dL_law_490 ?_
  refine lv_aload_n hx hb dL_law_491 rfl (lv_at hl 3 rfl) ?_
  refine call_cw (X := []) (Wc := ([(oa, outE cL f0)] ++ lmW cI cT x a o b t h ra s0 j0)) (Z := rfW cI ad s0 r0) (As := [.ref (x 0), .int (xs (nI (4 * k + 1)).toNatClampNeg), .ref oa]) (rest := []) ⟨hx, hb, hml, hown, hts⟩ (c_L_rollBack l hflag D cI cT cL x a o b t h ra s0 j0 oa f0 (xs (nI (4 * k + 1)).toNatClampNeg) hR) (vx_cwSW 3 hts gL_law_L_rollBack rfl rfl rfl (by decide +kernel) ⟨Nat.le_of_ble_eq_true rfl, Nat.le_of_ble_eq_true rfl⟩) hK hP hD hS hA hX (fun _ => adr_ol) rfl hl.1 rfl (Nat.le_of_ble_eq_true rfl) ⟨hce, hsl⟩ dL_law_492 (fun r u H locs hp hP hD hS => ?_)
  obtain ⟨hr, hR1, hv⟩ := hp
  rw [hr]
  have hP : va_P D vwCl (([(oa, outE cL u.2)] ++ lmW cI cT x a o b t h ra (opRollBack s0 (xs (nI (4 * k + 1)).toNatClampNeg)).2.2 u.1) ++ rfW cI ad s0 r0) H := hP; have hD : va_D A (([(oa, outE cL u.2)] ++ lmW cI cT x a o b t h ra (opRollBack s0 (xs (nI (4 * k + 1)).toNatClampNeg)).2.2 u.1) ++ rfW cI ad s0 r0) := hD
  refine lv_istore (lv' := [(5, .int (nI (opRollBack s0 (xs (nI (4 * k + 1)).toNatClampNeg)).1)), (0, .ref sb), (1, .ref (x 0)), (2, .ref (ad 0)), (3, .ref oa), (4, .int (nI (4 * k)))]) hx hb dL_law_495 hl (by decide) rfl (fun ls hl => ?_)
  refine lv_aload_n hx hb dL_law_497 rfl (lv_at hl 3 rfl) ?_
  refine lv_aload_n hx hb dL_law_498 rfl (lv_at hl 1 rfl) ?_
  refine lv_iload hx hb dL_law_499 (lv_at hl 5 rfl) ?_
  refine lv_iconst (v := nI 1) hx hb dL_law_501 (by decide) ?_
  refine lv_iadd hx hb dL_law_502 ?_
  refine tpe (y := nI (4 * k + 1)) (nI_add _ _) ?_
  refine va_sld hx hb hX0 hbl hbA hS (vp_in_nI (by omega) (by omega)) dL_law_503 ?_
  refine call_i (X := ([(oa, outE cL u.2)] ++ lmW cI cT x a o b t h ra (opRollBack s0 (xs (nI (4 * k + 1)).toNatClampNeg)).2.2 u.1)) (Wc := rfW cI ad s0 r0) (Z := []) (As := [.int (xs (nI (4 * k + 1)).toNatClampNeg)]) (rest := []) ⟨hx, hb, hml, hown, hts⟩ (c_X5_rollBack l D cI cT ad _ 0 0 _ _ _ _ _ _ _ _ _ _ _ s0.1 s0.2.1 s0.2.2.1 s0.2.2.2.1 s0.2.2.2.2 n (xs (nI (4 * k + 1)).toNatClampNeg) hZ hn) (cwV 1 hts gL_law_X5_rollBack rfl rfl rfl (by decide +kernel) ⟨Nat.le_of_ble_eq_true rfl, Nat.le_of_ble_eq_true rfl⟩) hK2 (P_nilE hP) (D_nilE hD) hS hA (va_recv hK2 (sub_mid (P_nilE hP)) (ci := 5) (q0 := 0) rfl rfl) (fun _ => adr_rf) rfl hl.1 rfl (Nat.le_of_ble_eq_true rfl) ⟨Nat.le_trans (by omega) hce, Nat.le_trans (by omega) hsl⟩ dL_law_504 (fun rv u2 H locs hp2 hP hD hS => ?_)
  have hP := P_nilF hP; have hD := D_nilF hD
  have hr2 : rv = (opRollBack s0 (xs (nI (4 * k + 1)).toNatClampNeg)).2.1 := hp2.1
  have hth : u2.1 = nI (opRollBack s0 (xs (nI (4 * k + 1)).toNatClampNeg)).1 := hp2.2.1
  have hZ1 : LZu (n + 80) (opRollBack s0 (xs (nI (4 * k + 1)).toNatClampNeg)).2.2 u2 := hp2.2.2
  rw [hr2]
  have hP : va_P D vwCl (([(oa, outE cL u.2)] ++ lmW cI cT x a o b t h ra (opRollBack s0 (xs (nI (4 * k + 1)).toNatClampNeg)).2.2 u.1) ++ rfW cI ad (opRollBack s0 (xs (nI (4 * k + 1)).toNatClampNeg)).2.2 u2) H := hP; have hD : va_D A (([(oa, outE cL u.2)] ++ lmW cI cT x a o b t h ra (opRollBack s0 (xs (nI (4 * k + 1)).toNatClampNeg)).2.2 u.1) ++ rfW cI ad (opRollBack s0 (xs (nI (4 * k + 1)).toNatClampNeg)).2.2 u2) := hD
  refine lv_istore (lv' := [(6, .int (opRollBack s0 (xs (nI (4 * k + 1)).toNatClampNeg)).2.1), (5, .int (nI (opRollBack s0 (xs (nI (4 * k + 1)).toNatClampNeg)).1)), (0, .ref sb), (1, .ref (x 0)), (2, .ref (ad 0)), (3, .ref oa), (4, .int (nI (4 * k)))]) hx hb dL_law_507 hl (by decide) rfl (fun ls hl => ?_)
  refine lv_aload_n hx hb dL_law_509 rfl (lv_at hl 4 rfl) ?_
  clear hr2 hp2
  refine call_i (X := ([(oa, outE cL u.2)] ++ lmW cI cT x a o b t h ra (opRollBack s0 (xs (nI (4 * k + 1)).toNatClampNeg)).2.2 u.1)) (Wc := rfW cI ad (opRollBack s0 (xs (nI (4 * k + 1)).toNatClampNeg)).2.2 u2) (Z := []) (As := []) (rest := []) ⟨hx, hb, hml, hown, hts⟩ (c_X5_thrown l D cI cT ad _ _ _ _ _ _ _ _ _ _ _ _ _ _) (cwV 0 hts gL_law_X5_thrown rfl rfl rfl (by decide +kernel) ⟨Nat.le_of_ble_eq_true rfl, Nat.le_of_ble_eq_true rfl⟩) hK2 (P_nilE hP) (D_nilE hD) hS hA (va_recv hK2 (sub_mid (P_nilE hP)) (ci := 5) (q0 := 0) rfl rfl) (fun _ => adr_rf) rfl hl.1 rfl (Nat.le_of_ble_eq_true rfl) ⟨Nat.le_trans (by omega) hce, Nat.le_trans (by omega) hsl⟩ dL_law_510 (fun rv2 u3 H locs hp3 hP hD hS => ?_)
  have hP := P_nilF hP; have hD := D_nilF hD
  have hr3 : rv2 = nI (opRollBack s0 (xs (nI (4 * k + 1)).toNatClampNeg)).1 := hp3.trans hth
  rw [hr3]
  have hP : va_P D vwCl (lwW cI cT cL x a o b t h ra ad oa (opRollBack s0 (xs (nI (4 * k + 1)).toNatClampNeg)).2.2 u.1 u2 u.2) H := hP; have hD : va_D A (lwW cI cT cL x a o b t h ra ad oa (opRollBack s0 (xs (nI (4 * k + 1)).toNatClampNeg)).2.2 u.1 u2 u.2) := hD
  refine lv_iload hx hb dL_law_513 (lv_at hl 1 rfl) ?_
  refine lv_icmp_eq (tgt := 520) hx hb dL_law_515 (by decide) (fun _ => ?_) (fun h => absurd rfl h)
  refine lv_iload hx hb dL_law_520 (lv_at hl 1 rfl) ?_
  refine lv_if_ne (tgt := 537) hx hb dL_law_522 (by decide) (fun h9 => ?_) (fun h9 => ?_)
  · refine lv_goto (tgt := 1575) hx hb dL_law_537 (by decide) ?_
    exact KO (opRollBack s0 (xs (nI (4 * k + 1)).toNatClampNeg)).2.2 u.1 u2 u.2 H locs hP hD hS hR1 hZ1 _ (lv_sub hl [2, 3, 4, 5, 6] rfl)
  · have h0 : (opRollBack s0 (xs (nI (4 * k + 1)).toNatClampNeg)).1 = 0 := (nI_eq (a := (opRollBack s0 (xs (nI (4 * k + 1)).toNatClampNeg)).1) (b := 0) (by omega) (by decide)).mp h9
    refine lv_aload_n hx hb dL_law_525 rfl (lv_at hl 5 rfl) ?_
    refine lv_iconst (v := nI 0) hx hb dL_law_526 (by decide) ?_
    refine va_lald hx hb hK hP 0 2 rfl rfl (vp_in_nI (by decide) (by decide)) dL_law_527 ?_
    rw [show (nI 0).toNatClampNeg = 0 by decide, hv h0]
    refine lv_iload hx hb dL_law_528 (lv_at hl 0 rfl) ?_
    refine lv_i2l (v := (opRollBack s0 (xs (nI (4 * k + 1)).toNatClampNeg)).2.1.toInt64) hx hb dL_law_530 rfl ?_
    refine W.lcmp hx hb dL_law_531 ?_
    rw [lgc]
    refine lv_if_eq (tgt := 537) hx hb dL_law_532 (by decide) (fun _ => ?_) (fun h => absurd rfl h)
    refine lv_goto (tgt := 1575) hx hb dL_law_537 (by decide) ?_
    exact KO (opRollBack s0 (xs (nI (4 * k + 1)).toNatClampNeg)).2.2 u.1 u2 u.2 H locs hP hD hS hR1 hZ1 _ (lv_sub hl [2, 3, 4, 5, 6] rfl)
set_option maxHeartbeats 1000000 in
set_option maxRecDepth 100000 in
theorem cs_appendText {p : Program} {l : Launch} {e : Env} {s : State} {m : MethodId} {below : List Frame} {meth : Method} {c : Code} {sb L : Nat} {xs : Nat → Int32} {D : va_G} {cI cT cL : ClassId} {A : Nat → Prop} {Q : State → Prop} (x a o b t h : Nat → Nat) (ra : Nat → Nat → Nat) (ad : Nat → Nat) (oa k cells slots n : Nat) (LB : LBx p l s m c sb L xs D cI cT cL A) (hkL : 4 * k + 4 ≤ L) (hL2 : L ≤ 2048) (hn : n + 80 < 2 ^ 31) (hce : cells + 4 ≤ 601024) (hsl : slots + 24 ≤ 7293034) (s0 : ST) (j0 : JT) (r0 : JR) (f0 : Nat → Int64) (H : Heap) (locs : List Loc) (hP : va_P D vwCl (lwW cI cT cL x a o b t h ra ad oa s0 j0 r0 f0) H) (hD : va_D A (lwW cI cT cL x a o b t h ra ad oa s0 j0 r0 f0)) (hS : va_S A s.heap H locs) (hR : LR s0 j0) (hZ : LZu n s0 r0) (ls : Array Slot) (hl : lv_has ls 7 (lwL sb (x 0) (ad 0) oa k)) (KO : LKo p l e s m below meth c sb D cI cT cL A Q x a o b t h ra ad oa k (cells + 4) (slots + 24) (n + 80)) : W p l e room_1 s m #[Value.ref sb] below meth c H locs cells slots Q (F0 m 540 ls []) := by
  obtain ⟨hx, hb, hml, hown, hts, hK, hX0, hbl, hbA, hA, hX, hflag⟩ := LB
  have hK2 : va_K D vwCl (TY cI cT) s := hK.sub (tys' := TY cI cT) [0, 1] rfl
  have hro := ro_Append (s := s0) (p0 := (xs (nI (4 * k + 1)).toNatClampNeg))
  have hro1 : (opAppend s0 (xs (nI (4 * k + 1)).toNatClampNeg)).1 ≤ 3 := Nat.le_trans hro.1 (by decide)
  refine lv_aload_n hx hb dL_law_540 rfl (lv_at hl 1 rfl) ?_
  refine lv_aload_n hx hb dL_law_541 rfl (lv_at hl 0 rfl) ?_
  refine lv_iload hx hb dL_law_542 (lv_at hl 4 rfl) ?_
  refine lv_iconst (v := nI 1) hx hb dL_law_544 (by decide) ?_
  refine lv_iadd hx hb dL_law_545 ?_
  refine tpe (y := nI (4 * k + 1)) (nI_add _ _) ?_
  refine va_sld hx hb hX0 hbl hbA hS (vp_in_nI (by omega) (by omega)) dL_law_546 ?_
  refine lv_aload_n hx hb dL_law_547 rfl (lv_at hl 3 rfl) ?_
  refine call_cw (X := []) (Wc := ([(oa, outE cL f0)] ++ lmW cI cT x a o b t h ra s0 j0)) (Z := rfW cI ad s0 r0) (As := [.ref (x 0), .int (xs (nI (4 * k + 1)).toNatClampNeg), .ref oa]) (rest := []) ⟨hx, hb, hml, hown, hts⟩ (c_L_appendText l hflag D cI cT cL x a o b t h ra s0 j0 oa f0 (xs (nI (4 * k + 1)).toNatClampNeg) hR) (vx_cwSW 3 hts gL_law_L_appendText rfl rfl rfl (by decide +kernel) ⟨Nat.le_of_ble_eq_true rfl, Nat.le_of_ble_eq_true rfl⟩) hK hP hD hS hA hX (fun _ => adr_ol) rfl hl.1 rfl (Nat.le_of_ble_eq_true rfl) ⟨hce, hsl⟩ dL_law_548 (fun r u H locs hp hP hD hS => ?_)
  obtain ⟨hr, hR1, hv⟩ := hp
  rw [hr]
  have hP : va_P D vwCl (([(oa, outE cL u.2)] ++ lmW cI cT x a o b t h ra (opAppend s0 (xs (nI (4 * k + 1)).toNatClampNeg)).2.2 u.1) ++ rfW cI ad s0 r0) H := hP; have hD : va_D A (([(oa, outE cL u.2)] ++ lmW cI cT x a o b t h ra (opAppend s0 (xs (nI (4 * k + 1)).toNatClampNeg)).2.2 u.1) ++ rfW cI ad s0 r0) := hD
  refine lv_istore (lv' := [(5, .int (nI (opAppend s0 (xs (nI (4 * k + 1)).toNatClampNeg)).1)), (0, .ref sb), (1, .ref (x 0)), (2, .ref (ad 0)), (3, .ref oa), (4, .int (nI (4 * k)))]) hx hb dL_law_551 hl (by decide) rfl (fun ls hl => ?_)
  refine lv_aload_n hx hb dL_law_553 rfl (lv_at hl 3 rfl) ?_
  refine lv_aload_n hx hb dL_law_554 rfl (lv_at hl 1 rfl) ?_
  refine lv_iload hx hb dL_law_555 (lv_at hl 5 rfl) ?_
  refine lv_iconst (v := nI 1) hx hb dL_law_557 (by decide) ?_
  refine lv_iadd hx hb dL_law_558 ?_
  refine tpe (y := nI (4 * k + 1)) (nI_add _ _) ?_
  refine va_sld hx hb hX0 hbl hbA hS (vp_in_nI (by omega) (by omega)) dL_law_559 ?_
  refine call_i (X := ([(oa, outE cL u.2)] ++ lmW cI cT x a o b t h ra (opAppend s0 (xs (nI (4 * k + 1)).toNatClampNeg)).2.2 u.1)) (Wc := rfW cI ad s0 r0) (Z := []) (As := [.int (xs (nI (4 * k + 1)).toNatClampNeg)]) (rest := []) ⟨hx, hb, hml, hown, hts⟩ (c_X5_appendText l D cI cT ad _ 0 0 _ _ _ _ _ _ _ _ _ _ _ s0.1 s0.2.1 s0.2.2.1 s0.2.2.2.1 s0.2.2.2.2 n (xs (nI (4 * k + 1)).toNatClampNeg) hZ hn) (cwV 1 hts gL_law_X5_appendText rfl rfl rfl (by decide +kernel) ⟨Nat.le_of_ble_eq_true rfl, Nat.le_of_ble_eq_true rfl⟩) hK2 (P_nilE hP) (D_nilE hD) hS hA (va_recv hK2 (sub_mid (P_nilE hP)) (ci := 5) (q0 := 0) rfl rfl) (fun _ => adr_rf) rfl hl.1 rfl (Nat.le_of_ble_eq_true rfl) ⟨Nat.le_trans (by omega) hce, Nat.le_trans (by omega) hsl⟩ dL_law_560 (fun rv u2 H locs hp2 hP hD hS => ?_)
  have hP := P_nilF hP; have hD := D_nilF hD
  have hr2 : rv = (opAppend s0 (xs (nI (4 * k + 1)).toNatClampNeg)).2.1 := hp2.1
  have hth : u2.1 = nI (opAppend s0 (xs (nI (4 * k + 1)).toNatClampNeg)).1 := hp2.2.1
  have hZ1 : LZu (n + 80) (opAppend s0 (xs (nI (4 * k + 1)).toNatClampNeg)).2.2 u2 := hp2.2.2
  rw [hr2]
  have hP : va_P D vwCl (([(oa, outE cL u.2)] ++ lmW cI cT x a o b t h ra (opAppend s0 (xs (nI (4 * k + 1)).toNatClampNeg)).2.2 u.1) ++ rfW cI ad (opAppend s0 (xs (nI (4 * k + 1)).toNatClampNeg)).2.2 u2) H := hP; have hD : va_D A (([(oa, outE cL u.2)] ++ lmW cI cT x a o b t h ra (opAppend s0 (xs (nI (4 * k + 1)).toNatClampNeg)).2.2 u.1) ++ rfW cI ad (opAppend s0 (xs (nI (4 * k + 1)).toNatClampNeg)).2.2 u2) := hD
  refine lv_istore (lv' := [(6, .int (opAppend s0 (xs (nI (4 * k + 1)).toNatClampNeg)).2.1), (5, .int (nI (opAppend s0 (xs (nI (4 * k + 1)).toNatClampNeg)).1)), (0, .ref sb), (1, .ref (x 0)), (2, .ref (ad 0)), (3, .ref oa), (4, .int (nI (4 * k)))]) hx hb dL_law_563 hl (by decide) rfl (fun ls hl => ?_)
  refine lv_aload_n hx hb dL_law_565 rfl (lv_at hl 4 rfl) ?_
  clear hr2 hp2
  refine call_i (X := ([(oa, outE cL u.2)] ++ lmW cI cT x a o b t h ra (opAppend s0 (xs (nI (4 * k + 1)).toNatClampNeg)).2.2 u.1)) (Wc := rfW cI ad (opAppend s0 (xs (nI (4 * k + 1)).toNatClampNeg)).2.2 u2) (Z := []) (As := []) (rest := []) ⟨hx, hb, hml, hown, hts⟩ (c_X5_thrown l D cI cT ad _ _ _ _ _ _ _ _ _ _ _ _ _ _) (cwV 0 hts gL_law_X5_thrown rfl rfl rfl (by decide +kernel) ⟨Nat.le_of_ble_eq_true rfl, Nat.le_of_ble_eq_true rfl⟩) hK2 (P_nilE hP) (D_nilE hD) hS hA (va_recv hK2 (sub_mid (P_nilE hP)) (ci := 5) (q0 := 0) rfl rfl) (fun _ => adr_rf) rfl hl.1 rfl (Nat.le_of_ble_eq_true rfl) ⟨Nat.le_trans (by omega) hce, Nat.le_trans (by omega) hsl⟩ dL_law_566 (fun rv2 u3 H locs hp3 hP hD hS => ?_)
  have hP := P_nilF hP; have hD := D_nilF hD
  have hr3 : rv2 = nI (opAppend s0 (xs (nI (4 * k + 1)).toNatClampNeg)).1 := hp3.trans hth
  rw [hr3]
  have hP : va_P D vwCl (lwW cI cT cL x a o b t h ra ad oa (opAppend s0 (xs (nI (4 * k + 1)).toNatClampNeg)).2.2 u.1 u2 u.2) H := hP; have hD : va_D A (lwW cI cT cL x a o b t h ra ad oa (opAppend s0 (xs (nI (4 * k + 1)).toNatClampNeg)).2.2 u.1 u2 u.2) := hD
  refine lv_iload hx hb dL_law_569 (lv_at hl 1 rfl) ?_
  refine lv_icmp_eq (tgt := 576) hx hb dL_law_571 (by decide) (fun _ => ?_) (fun h => absurd rfl h)
  refine lv_iload hx hb dL_law_576 (lv_at hl 1 rfl) ?_
  refine lv_if_ne (tgt := 593) hx hb dL_law_578 (by decide) (fun h9 => ?_) (fun h9 => ?_)
  · refine lv_goto (tgt := 1575) hx hb dL_law_593 (by decide) ?_
    exact KO (opAppend s0 (xs (nI (4 * k + 1)).toNatClampNeg)).2.2 u.1 u2 u.2 H locs hP hD hS hR1 hZ1 _ (lv_sub hl [2, 3, 4, 5, 6] rfl)
  · have h0 : (opAppend s0 (xs (nI (4 * k + 1)).toNatClampNeg)).1 = 0 := (nI_eq (a := (opAppend s0 (xs (nI (4 * k + 1)).toNatClampNeg)).1) (b := 0) (by omega) (by decide)).mp h9
    refine lv_aload_n hx hb dL_law_581 rfl (lv_at hl 5 rfl) ?_
    refine lv_iconst (v := nI 0) hx hb dL_law_582 (by decide) ?_
    refine va_lald hx hb hK hP 0 2 rfl rfl (vp_in_nI (by decide) (by decide)) dL_law_583 ?_
    rw [show (nI 0).toNatClampNeg = 0 by decide, hv h0]
    refine lv_iload hx hb dL_law_584 (lv_at hl 0 rfl) ?_
    refine lv_i2l (v := (opAppend s0 (xs (nI (4 * k + 1)).toNatClampNeg)).2.1.toInt64) hx hb dL_law_586 rfl ?_
    refine W.lcmp hx hb dL_law_587 ?_
    rw [lgc]
    refine lv_if_eq (tgt := 593) hx hb dL_law_588 (by decide) (fun _ => ?_) (fun h => absurd rfl h)
    refine lv_goto (tgt := 1575) hx hb dL_law_593 (by decide) ?_
    exact KO (opAppend s0 (xs (nI (4 * k + 1)).toNatClampNeg)).2.2 u.1 u2 u.2 H locs hP hD hS hR1 hZ1 _ (lv_sub hl [2, 3, 4, 5, 6] rfl)
set_option maxHeartbeats 1000000 in
set_option maxRecDepth 100000 in
theorem cs_clearText {p : Program} {l : Launch} {e : Env} {s : State} {m : MethodId} {below : List Frame} {meth : Method} {c : Code} {sb L : Nat} {xs : Nat → Int32} {D : va_G} {cI cT cL : ClassId} {A : Nat → Prop} {Q : State → Prop} (x a o b t h : Nat → Nat) (ra : Nat → Nat → Nat) (ad : Nat → Nat) (oa k cells slots n : Nat) (LB : LBx p l s m c sb L xs D cI cT cL A) (hkL : 4 * k + 4 ≤ L) (hL2 : L ≤ 2048) (hn : n + 80 < 2 ^ 31) (hce : cells + 4 ≤ 601024) (hsl : slots + 24 ≤ 7293034) (s0 : ST) (j0 : JT) (r0 : JR) (f0 : Nat → Int64) (H : Heap) (locs : List Loc) (hP : va_P D vwCl (lwW cI cT cL x a o b t h ra ad oa s0 j0 r0 f0) H) (hD : va_D A (lwW cI cT cL x a o b t h ra ad oa s0 j0 r0 f0)) (hS : va_S A s.heap H locs) (hR : LR s0 j0) (hZ : LZu n s0 r0) (ls : Array Slot) (hl : lv_has ls 7 (lwL sb (x 0) (ad 0) oa k)) (KO : LKo p l e s m below meth c sb D cI cT cL A Q x a o b t h ra ad oa k (cells + 4) (slots + 24) (n + 80)) : W p l e room_1 s m #[Value.ref sb] below meth c H locs cells slots Q (F0 m 596 ls []) := by
  obtain ⟨hx, hb, hml, hown, hts, hK, hX0, hbl, hbA, hA, hX, hflag⟩ := LB
  have hK2 : va_K D vwCl (TY cI cT) s := hK.sub (tys' := TY cI cT) [0, 1] rfl
  refine lv_aload_n hx hb dL_law_596 rfl (lv_at hl 1 rfl) ?_
  refine call_i (X := [(oa, outE cL f0)]) (Wc := lmW cI cT x a o b t h ra s0 j0) (Z := rfW cI ad s0 r0) (As := []) (rest := []) ⟨hx, hb, hml, hown, hts⟩ (c_X4_clearText l D cI cT x a o b t h ra s0 j0 hR) (cwV 0 hts gL_law_X4_clearText rfl rfl rfl (by decide +kernel) ⟨Nat.le_of_ble_eq_true rfl, Nat.le_of_ble_eq_true rfl⟩) hK2 hP hD hS hA (va_recv hK2 (sub_mid hP) (ci := 4) (q0 := 0) rfl rfl) (fun _ => adr_lm) rfl hl.1 rfl (Nat.le_of_ble_eq_true rfl) ⟨Nat.le_trans (by omega) hce, Nat.le_trans (by omega) hsl⟩ dL_law_597 (fun r u H locs hp hP hD hS => ?_)
  have hr : r = (opClear s0).2.1 := hp.1
  have hR1 : LR (opClear s0).2.2 u := hp.2
  rw [hr]
  have hP : va_P D vwCl (([(oa, outE cL f0)] ++ lmW cI cT x a o b t h ra (opClear s0).2.2 u) ++ rfW cI ad s0 r0) H := hP; have hD : va_D A (([(oa, outE cL f0)] ++ lmW cI cT x a o b t h ra (opClear s0).2.2 u) ++ rfW cI ad s0 r0) := hD
  refine lv_aload_n hx hb dL_law_600 rfl (lv_at hl 2 rfl) ?_
  refine call_i (X := ([(oa, outE cL f0)] ++ lmW cI cT x a o b t h ra (opClear s0).2.2 u)) (Wc := rfW cI ad s0 r0) (Z := []) (As := []) (rest := [.int (opClear s0).2.1]) ⟨hx, hb, hml, hown, hts⟩ (c_X5_clearText l D cI cT ad _ 0 0 _ _ _ _ _ _ _ _ _ _ _ s0.1 s0.2.1 s0.2.2.1 s0.2.2.2.1 s0.2.2.2.2 n hZ hn) (cwV 0 hts gL_law_X5_clearText rfl rfl rfl (by decide +kernel) ⟨Nat.le_of_ble_eq_true rfl, Nat.le_of_ble_eq_true rfl⟩) hK2 (P_nilE hP) (D_nilE hD) hS hA (va_recv hK2 (sub_mid (P_nilE hP)) (ci := 5) (q0 := 0) rfl rfl) (fun _ => adr_rf) rfl hl.1 rfl (Nat.le_of_ble_eq_true rfl) ⟨Nat.le_trans (by omega) hce, Nat.le_trans (by omega) hsl⟩ dL_law_601 (fun rv u2 H locs hp2 hP hD hS => ?_)
  have hP := P_nilF hP; have hD := D_nilF hD
  have hr2 : rv = (opClear s0).2.1 := hp2.1
  have hZ1 : LZu (n + 80) (opClear s0).2.2 u2 := hp2.2.2
  rw [hr2]
  have hP : va_P D vwCl (lwW cI cT cL x a o b t h ra ad oa (opClear s0).2.2 u u2 f0) H := hP; have hD : va_D A (lwW cI cT cL x a o b t h ra ad oa (opClear s0).2.2 u u2 f0) := hD
  refine lv_icmp_eq (tgt := 1575) hx hb dL_law_604 (by decide) (fun _ => ?_) (fun h => absurd rfl h)
  refine W.widen (k := cells + 4) (n := slots + 24) (by omega) (by omega) ?_
  exact KO (opClear s0).2.2 u u2 f0 H locs hP hD hS hR1 hZ1 _ hl
set_option maxHeartbeats 1000000 in
set_option maxRecDepth 100000 in
theorem cs_errorPosition {p : Program} {l : Launch} {e : Env} {s : State} {m : MethodId} {below : List Frame} {meth : Method} {c : Code} {sb L : Nat} {xs : Nat → Int32} {D : va_G} {cI cT cL : ClassId} {A : Nat → Prop} {Q : State → Prop} (x a o b t h : Nat → Nat) (ra : Nat → Nat → Nat) (ad : Nat → Nat) (oa k cells slots n : Nat) (LB : LBx p l s m c sb L xs D cI cT cL A) (hkL : 4 * k + 4 ≤ L) (hL2 : L ≤ 2048) (hn : n + 80 < 2 ^ 31) (hce : cells + 4 ≤ 601024) (hsl : slots + 24 ≤ 7293034) (s0 : ST) (j0 : JT) (r0 : JR) (f0 : Nat → Int64) (H : Heap) (locs : List Loc) (hP : va_P D vwCl (lwW cI cT cL x a o b t h ra ad oa s0 j0 r0 f0) H) (hD : va_D A (lwW cI cT cL x a o b t h ra ad oa s0 j0 r0 f0)) (hS : va_S A s.heap H locs) (hR : LR s0 j0) (hZ : LZu n s0 r0) (ls : Array Slot) (hl : lv_has ls 7 (lwL sb (x 0) (ad 0) oa k)) (KO : LKo p l e s m below meth c sb D cI cT cL A Q x a o b t h ra ad oa k (cells + 4) (slots + 24) (n + 80)) : W p l e room_1 s m #[Value.ref sb] below meth c H locs cells slots Q (F0 m 609 ls []) := by
  obtain ⟨hx, hb, hml, hown, hts, hK, hX0, hbl, hbA, hA, hX, hflag⟩ := LB
  have hK2 : va_K D vwCl (TY cI cT) s := hK.sub (tys' := TY cI cT) [0, 1] rfl
  refine lv_aload_n hx hb dL_law_609 rfl (lv_at hl 1 rfl) ?_
  refine call_i (X := [(oa, outE cL f0)]) (Wc := lmW cI cT x a o b t h ra s0 j0) (Z := rfW cI ad s0 r0) (As := []) (rest := []) ⟨hx, hb, hml, hown, hts⟩ (c_X4_errorPosition l D cI cT x a o b t h ra s0 j0 hR) (cwV 0 hts gL_law_X4_errorPosition rfl rfl rfl (by decide +kernel) ⟨Nat.le_of_ble_eq_true rfl, Nat.le_of_ble_eq_true rfl⟩) hK2 hP hD hS hA (va_recv hK2 (sub_mid hP) (ci := 4) (q0 := 0) rfl rfl) (fun _ => adr_lm) rfl hl.1 rfl (Nat.le_of_ble_eq_true rfl) ⟨Nat.le_trans (by omega) hce, Nat.le_trans (by omega) hsl⟩ dL_law_610 (fun r u H locs hp hP hD hS => ?_)
  have hr : r = (opError s0).2.1 := hp.1
  have hR1 : LR (opError s0).2.2 u := hp.2
  rw [hr]
  have hP : va_P D vwCl (([(oa, outE cL f0)] ++ lmW cI cT x a o b t h ra (opError s0).2.2 u) ++ rfW cI ad s0 r0) H := hP; have hD : va_D A (([(oa, outE cL f0)] ++ lmW cI cT x a o b t h ra (opError s0).2.2 u) ++ rfW cI ad s0 r0) := hD
  refine lv_aload_n hx hb dL_law_613 rfl (lv_at hl 2 rfl) ?_
  refine call_i (X := ([(oa, outE cL f0)] ++ lmW cI cT x a o b t h ra (opError s0).2.2 u)) (Wc := rfW cI ad s0 r0) (Z := []) (As := []) (rest := [.int (opError s0).2.1]) ⟨hx, hb, hml, hown, hts⟩ (c_X5_errorPosition l D cI cT ad _ 0 0 _ _ _ _ _ _ _ _ _ _ _ s0.1 s0.2.1 s0.2.2.1 s0.2.2.2.1 s0.2.2.2.2 n hZ hn) (cwV 0 hts gL_law_X5_errorPosition rfl rfl rfl (by decide +kernel) ⟨Nat.le_of_ble_eq_true rfl, Nat.le_of_ble_eq_true rfl⟩) hK2 (P_nilE hP) (D_nilE hD) hS hA (va_recv hK2 (sub_mid (P_nilE hP)) (ci := 5) (q0 := 0) rfl rfl) (fun _ => adr_rf) rfl hl.1 rfl (Nat.le_of_ble_eq_true rfl) ⟨Nat.le_trans (by omega) hce, Nat.le_trans (by omega) hsl⟩ dL_law_614 (fun rv u2 H locs hp2 hP hD hS => ?_)
  have hP := P_nilF hP; have hD := D_nilF hD
  have hr2 : rv = (opError s0).2.1 := hp2.1
  have hZ1 : LZu (n + 80) (opError s0).2.2 u2 := hp2.2.2
  rw [hr2]
  have hP : va_P D vwCl (lwW cI cT cL x a o b t h ra ad oa (opError s0).2.2 u u2 f0) H := hP; have hD : va_D A (lwW cI cT cL x a o b t h ra ad oa (opError s0).2.2 u u2 f0) := hD
  refine lv_icmp_eq (tgt := 1575) hx hb dL_law_617 (by decide) (fun _ => ?_) (fun h => absurd rfl h)
  refine W.widen (k := cells + 4) (n := slots + 24) (by omega) (by omega) ?_
  exact KO (opError s0).2.2 u u2 f0 H locs hP hD hS hR1 hZ1 _ hl
set_option maxHeartbeats 1000000 in
set_option maxRecDepth 100000 in
theorem cs_runText {p : Program} {l : Launch} {e : Env} {s : State} {m : MethodId} {below : List Frame} {meth : Method} {c : Code} {sb L : Nat} {xs : Nat → Int32} {D : va_G} {cI cT cL : ClassId} {A : Nat → Prop} {Q : State → Prop} (x a o b t h : Nat → Nat) (ra : Nat → Nat → Nat) (ad : Nat → Nat) (oa k cells slots n : Nat) (LB : LBx p l s m c sb L xs D cI cT cL A) (hkL : 4 * k + 4 ≤ L) (hL2 : L ≤ 2048) (hn : n + 80 < 2 ^ 31) (hce : cells + 4 ≤ 601024) (hsl : slots + 24 ≤ 7293034) (s0 : ST) (j0 : JT) (r0 : JR) (f0 : Nat → Int64) (H : Heap) (locs : List Loc) (hP : va_P D vwCl (lwW cI cT cL x a o b t h ra ad oa s0 j0 r0 f0) H) (hD : va_D A (lwW cI cT cL x a o b t h ra ad oa s0 j0 r0 f0)) (hS : va_S A s.heap H locs) (hR : LR s0 j0) (hZ : LZu n s0 r0) (ls : Array Slot) (hl : lv_has ls 7 (lwL sb (x 0) (ad 0) oa k)) (KO : LKo p l e s m below meth c sb D cI cT cL A Q x a o b t h ra ad oa k (cells + 4) (slots + 24) (n + 80)) : W p l e room_1 s m #[Value.ref sb] below meth c H locs cells slots Q (F0 m 622 ls []) := by
  obtain ⟨hx, hb, hml, hown, hts, hK, hX0, hbl, hbA, hA, hX, hflag⟩ := LB
  have hK2 : va_K D vwCl (TY cI cT) s := hK.sub (tys' := TY cI cT) [0, 1] rfl
  have hro := ro_Run (s := s0)
  have hro1 : (opRun s0).1 ≤ 3 := Nat.le_trans hro.1 (by decide)
  refine lv_aload_n hx hb dL_law_622 rfl (lv_at hl 1 rfl) ?_
  refine lv_aload_n hx hb dL_law_623 rfl (lv_at hl 3 rfl) ?_
  refine call_cw (X := []) (Wc := ([(oa, outE cL f0)] ++ lmW cI cT x a o b t h ra s0 j0)) (Z := rfW cI ad s0 r0) (As := [.ref (x 0), .ref oa]) (rest := []) ⟨hx, hb, hml, hown, hts⟩ (c_L_runText l hflag D cI cT cL x a o b t h ra s0 j0 oa f0 hR) (vx_cwSW 2 hts gL_law_L_runText rfl rfl rfl (by decide +kernel) ⟨Nat.le_of_ble_eq_true rfl, Nat.le_of_ble_eq_true rfl⟩) hK hP hD hS hA hX (fun _ => adr_ol) rfl hl.1 rfl (Nat.le_of_ble_eq_true rfl) ⟨hce, hsl⟩ dL_law_624 (fun r u H locs hp hP hD hS => ?_)
  obtain ⟨hr, hR1, hv⟩ := hp
  rw [hr]
  have hP : va_P D vwCl (([(oa, outE cL u.2)] ++ lmW cI cT x a o b t h ra (opRun s0).2.2 u.1) ++ rfW cI ad s0 r0) H := hP; have hD : va_D A (([(oa, outE cL u.2)] ++ lmW cI cT x a o b t h ra (opRun s0).2.2 u.1) ++ rfW cI ad s0 r0) := hD
  refine lv_istore (lv' := [(5, .int (nI (opRun s0).1)), (0, .ref sb), (1, .ref (x 0)), (2, .ref (ad 0)), (3, .ref oa), (4, .int (nI (4 * k)))]) hx hb dL_law_627 hl (by decide) rfl (fun ls hl => ?_)
  refine lv_aload_n hx hb dL_law_629 rfl (lv_at hl 3 rfl) ?_
  refine call_i (X := ([(oa, outE cL u.2)] ++ lmW cI cT x a o b t h ra (opRun s0).2.2 u.1)) (Wc := rfW cI ad s0 r0) (Z := []) (As := []) (rest := []) ⟨hx, hb, hml, hown, hts⟩ (c_X5_runText l D cI cT ad _ 0 0 _ _ _ _ _ _ _ _ _ _ _ s0.1 s0.2.1 s0.2.2.1 s0.2.2.2.1 s0.2.2.2.2 n hZ hn) (cwV 0 hts gL_law_X5_runText rfl rfl rfl (by decide +kernel) ⟨Nat.le_of_ble_eq_true rfl, Nat.le_of_ble_eq_true rfl⟩) hK2 (P_nilE hP) (D_nilE hD) hS hA (va_recv hK2 (sub_mid (P_nilE hP)) (ci := 5) (q0 := 0) rfl rfl) (fun _ => adr_rf) rfl hl.1 rfl (Nat.le_of_ble_eq_true rfl) ⟨Nat.le_trans (by omega) hce, Nat.le_trans (by omega) hsl⟩ dL_law_630 (fun rv u2 H locs hp2 hP hD hS => ?_)
  have hP := P_nilF hP; have hD := D_nilF hD
  have hr2 : rv = (opRun s0).2.1 := hp2.1
  have hth : u2.1 = nI (opRun s0).1 := hp2.2.1
  have hZ1 : LZu (n + 80) (opRun s0).2.2 u2 := hp2.2.2
  rw [hr2]
  have hP : va_P D vwCl (([(oa, outE cL u.2)] ++ lmW cI cT x a o b t h ra (opRun s0).2.2 u.1) ++ rfW cI ad (opRun s0).2.2 u2) H := hP; have hD : va_D A (([(oa, outE cL u.2)] ++ lmW cI cT x a o b t h ra (opRun s0).2.2 u.1) ++ rfW cI ad (opRun s0).2.2 u2) := hD
  refine lv_istore (lv' := [(6, .int (opRun s0).2.1), (5, .int (nI (opRun s0).1)), (0, .ref sb), (1, .ref (x 0)), (2, .ref (ad 0)), (3, .ref oa), (4, .int (nI (4 * k)))]) hx hb dL_law_633 hl (by decide) rfl (fun ls hl => ?_)
  refine lv_aload_n hx hb dL_law_635 rfl (lv_at hl 4 rfl) ?_
  clear hr2 hp2
  refine call_i (X := ([(oa, outE cL u.2)] ++ lmW cI cT x a o b t h ra (opRun s0).2.2 u.1)) (Wc := rfW cI ad (opRun s0).2.2 u2) (Z := []) (As := []) (rest := []) ⟨hx, hb, hml, hown, hts⟩ (c_X5_thrown l D cI cT ad _ _ _ _ _ _ _ _ _ _ _ _ _ _) (cwV 0 hts gL_law_X5_thrown rfl rfl rfl (by decide +kernel) ⟨Nat.le_of_ble_eq_true rfl, Nat.le_of_ble_eq_true rfl⟩) hK2 (P_nilE hP) (D_nilE hD) hS hA (va_recv hK2 (sub_mid (P_nilE hP)) (ci := 5) (q0 := 0) rfl rfl) (fun _ => adr_rf) rfl hl.1 rfl (Nat.le_of_ble_eq_true rfl) ⟨Nat.le_trans (by omega) hce, Nat.le_trans (by omega) hsl⟩ dL_law_636 (fun rv2 u3 H locs hp3 hP hD hS => ?_)
  have hP := P_nilF hP; have hD := D_nilF hD
  have hr3 : rv2 = nI (opRun s0).1 := hp3.trans hth
  rw [hr3]
  have hP : va_P D vwCl (lwW cI cT cL x a o b t h ra ad oa (opRun s0).2.2 u.1 u2 u.2) H := hP; have hD : va_D A (lwW cI cT cL x a o b t h ra ad oa (opRun s0).2.2 u.1 u2 u.2) := hD
  refine lv_iload hx hb dL_law_639 (lv_at hl 1 rfl) ?_
  refine lv_icmp_eq (tgt := 646) hx hb dL_law_641 (by decide) (fun _ => ?_) (fun h => absurd rfl h)
  refine lv_iload hx hb dL_law_646 (lv_at hl 1 rfl) ?_
  refine lv_if_ne (tgt := 663) hx hb dL_law_648 (by decide) (fun h9 => ?_) (fun h9 => ?_)
  · refine lv_goto (tgt := 1575) hx hb dL_law_663 (by decide) ?_
    exact KO (opRun s0).2.2 u.1 u2 u.2 H locs hP hD hS hR1 hZ1 _ (lv_sub hl [2, 3, 4, 5, 6] rfl)
  · have h0 : (opRun s0).1 = 0 := (nI_eq (a := (opRun s0).1) (b := 0) (by omega) (by decide)).mp h9
    refine lv_aload_n hx hb dL_law_651 rfl (lv_at hl 5 rfl) ?_
    refine lv_iconst (v := nI 0) hx hb dL_law_652 (by decide) ?_
    refine va_lald hx hb hK hP 0 2 rfl rfl (vp_in_nI (by decide) (by decide)) dL_law_653 ?_
    rw [show (nI 0).toNatClampNeg = 0 by decide, hv h0]
    refine lv_iload hx hb dL_law_654 (lv_at hl 0 rfl) ?_
    refine lv_i2l (v := (opRun s0).2.1.toInt64) hx hb dL_law_656 rfl ?_
    refine W.lcmp hx hb dL_law_657 ?_
    rw [lgc]
    refine lv_if_eq (tgt := 663) hx hb dL_law_658 (by decide) (fun _ => ?_) (fun h => absurd rfl h)
    refine lv_goto (tgt := 1575) hx hb dL_law_663 (by decide) ?_
    exact KO (opRun s0).2.2 u.1 u2 u.2 H locs hP hD hS hR1 hZ1 _ (lv_sub hl [2, 3, 4, 5, 6] rfl)
set_option maxHeartbeats 1000000 in
set_option maxRecDepth 100000 in
theorem cs_undo {p : Program} {l : Launch} {e : Env} {s : State} {m : MethodId} {below : List Frame} {meth : Method} {c : Code} {sb L : Nat} {xs : Nat → Int32} {D : va_G} {cI cT cL : ClassId} {A : Nat → Prop} {Q : State → Prop} (x a o b t h : Nat → Nat) (ra : Nat → Nat → Nat) (ad : Nat → Nat) (oa k cells slots n : Nat) (LB : LBx p l s m c sb L xs D cI cT cL A) (hkL : 4 * k + 4 ≤ L) (hL2 : L ≤ 2048) (hn : n + 80 < 2 ^ 31) (hce : cells + 4 ≤ 601024) (hsl : slots + 24 ≤ 7293034) (s0 : ST) (j0 : JT) (r0 : JR) (f0 : Nat → Int64) (H : Heap) (locs : List Loc) (hP : va_P D vwCl (lwW cI cT cL x a o b t h ra ad oa s0 j0 r0 f0) H) (hD : va_D A (lwW cI cT cL x a o b t h ra ad oa s0 j0 r0 f0)) (hS : va_S A s.heap H locs) (hR : LR s0 j0) (hZ : LZu n s0 r0) (ls : Array Slot) (hl : lv_has ls 7 (lwL sb (x 0) (ad 0) oa k)) (KO : LKo p l e s m below meth c sb D cI cT cL A Q x a o b t h ra ad oa k (cells + 4) (slots + 24) (n + 80)) : W p l e room_1 s m #[Value.ref sb] below meth c H locs cells slots Q (F0 m 666 ls []) := by
  obtain ⟨hx, hb, hml, hown, hts, hK, hX0, hbl, hbA, hA, hX, hflag⟩ := LB
  have hK2 : va_K D vwCl (TY cI cT) s := hK.sub (tys' := TY cI cT) [0, 1] rfl
  have hro := ro_Undo (s := s0)
  have hro1 : (opUndo s0).1 ≤ 3 := Nat.le_trans hro.1 (by decide)
  refine lv_aload_n hx hb dL_law_666 rfl (lv_at hl 1 rfl) ?_
  refine lv_aload_n hx hb dL_law_667 rfl (lv_at hl 3 rfl) ?_
  refine call_cw (X := []) (Wc := ([(oa, outE cL f0)] ++ lmW cI cT x a o b t h ra s0 j0)) (Z := rfW cI ad s0 r0) (As := [.ref (x 0), .ref oa]) (rest := []) ⟨hx, hb, hml, hown, hts⟩ (c_L_undo l hflag D cI cT cL x a o b t h ra s0 j0 oa f0 hR) (vx_cwSW 2 hts gL_law_L_undo rfl rfl rfl (by decide +kernel) ⟨Nat.le_of_ble_eq_true rfl, Nat.le_of_ble_eq_true rfl⟩) hK hP hD hS hA hX (fun _ => adr_ol) rfl hl.1 rfl (Nat.le_of_ble_eq_true rfl) ⟨hce, hsl⟩ dL_law_668 (fun r u H locs hp hP hD hS => ?_)
  obtain ⟨hr, hR1, hv⟩ := hp
  rw [hr]
  have hP : va_P D vwCl (([(oa, outE cL u.2)] ++ lmW cI cT x a o b t h ra (opUndo s0).2.2 u.1) ++ rfW cI ad s0 r0) H := hP; have hD : va_D A (([(oa, outE cL u.2)] ++ lmW cI cT x a o b t h ra (opUndo s0).2.2 u.1) ++ rfW cI ad s0 r0) := hD
  refine lv_istore (lv' := [(5, .int (nI (opUndo s0).1)), (0, .ref sb), (1, .ref (x 0)), (2, .ref (ad 0)), (3, .ref oa), (4, .int (nI (4 * k)))]) hx hb dL_law_671 hl (by decide) rfl (fun ls hl => ?_)
  refine lv_aload_n hx hb dL_law_673 rfl (lv_at hl 3 rfl) ?_
  refine call_i (X := ([(oa, outE cL u.2)] ++ lmW cI cT x a o b t h ra (opUndo s0).2.2 u.1)) (Wc := rfW cI ad s0 r0) (Z := []) (As := []) (rest := []) ⟨hx, hb, hml, hown, hts⟩ (c_X5_undo l D cI cT ad _ 0 0 _ _ _ _ _ _ _ _ _ _ _ s0.1 s0.2.1 s0.2.2.1 s0.2.2.2.1 s0.2.2.2.2 n hZ hn) (cwV 0 hts gL_law_X5_undo rfl rfl rfl (by decide +kernel) ⟨Nat.le_of_ble_eq_true rfl, Nat.le_of_ble_eq_true rfl⟩) hK2 (P_nilE hP) (D_nilE hD) hS hA (va_recv hK2 (sub_mid (P_nilE hP)) (ci := 5) (q0 := 0) rfl rfl) (fun _ => adr_rf) rfl hl.1 rfl (Nat.le_of_ble_eq_true rfl) ⟨Nat.le_trans (by omega) hce, Nat.le_trans (by omega) hsl⟩ dL_law_674 (fun rv u2 H locs hp2 hP hD hS => ?_)
  have hP := P_nilF hP; have hD := D_nilF hD
  have hr2 : rv = (opUndo s0).2.1 := hp2.1
  have hth : u2.1 = nI (opUndo s0).1 := hp2.2.1
  have hZ1 : LZu (n + 80) (opUndo s0).2.2 u2 := hp2.2.2
  rw [hr2]
  have hP : va_P D vwCl (([(oa, outE cL u.2)] ++ lmW cI cT x a o b t h ra (opUndo s0).2.2 u.1) ++ rfW cI ad (opUndo s0).2.2 u2) H := hP; have hD : va_D A (([(oa, outE cL u.2)] ++ lmW cI cT x a o b t h ra (opUndo s0).2.2 u.1) ++ rfW cI ad (opUndo s0).2.2 u2) := hD
  refine lv_istore (lv' := [(6, .int (opUndo s0).2.1), (5, .int (nI (opUndo s0).1)), (0, .ref sb), (1, .ref (x 0)), (2, .ref (ad 0)), (3, .ref oa), (4, .int (nI (4 * k)))]) hx hb dL_law_677 hl (by decide) rfl (fun ls hl => ?_)
  refine lv_aload_n hx hb dL_law_679 rfl (lv_at hl 4 rfl) ?_
  clear hr2 hp2
  refine call_i (X := ([(oa, outE cL u.2)] ++ lmW cI cT x a o b t h ra (opUndo s0).2.2 u.1)) (Wc := rfW cI ad (opUndo s0).2.2 u2) (Z := []) (As := []) (rest := []) ⟨hx, hb, hml, hown, hts⟩ (c_X5_thrown l D cI cT ad _ _ _ _ _ _ _ _ _ _ _ _ _ _) (cwV 0 hts gL_law_X5_thrown rfl rfl rfl (by decide +kernel) ⟨Nat.le_of_ble_eq_true rfl, Nat.le_of_ble_eq_true rfl⟩) hK2 (P_nilE hP) (D_nilE hD) hS hA (va_recv hK2 (sub_mid (P_nilE hP)) (ci := 5) (q0 := 0) rfl rfl) (fun _ => adr_rf) rfl hl.1 rfl (Nat.le_of_ble_eq_true rfl) ⟨Nat.le_trans (by omega) hce, Nat.le_trans (by omega) hsl⟩ dL_law_680 (fun rv2 u3 H locs hp3 hP hD hS => ?_)
  have hP := P_nilF hP; have hD := D_nilF hD
  have hr3 : rv2 = nI (opUndo s0).1 := hp3.trans hth
  rw [hr3]
  have hP : va_P D vwCl (lwW cI cT cL x a o b t h ra ad oa (opUndo s0).2.2 u.1 u2 u.2) H := hP; have hD : va_D A (lwW cI cT cL x a o b t h ra ad oa (opUndo s0).2.2 u.1 u2 u.2) := hD
  refine lv_iload hx hb dL_law_683 (lv_at hl 1 rfl) ?_
  refine lv_icmp_eq (tgt := 690) hx hb dL_law_685 (by decide) (fun _ => ?_) (fun h => absurd rfl h)
  refine lv_iload hx hb dL_law_690 (lv_at hl 1 rfl) ?_
  refine lv_if_ne (tgt := 707) hx hb dL_law_692 (by decide) (fun h9 => ?_) (fun h9 => ?_)
  · refine lv_goto (tgt := 1575) hx hb dL_law_707 (by decide) ?_
    exact KO (opUndo s0).2.2 u.1 u2 u.2 H locs hP hD hS hR1 hZ1 _ (lv_sub hl [2, 3, 4, 5, 6] rfl)
  · have h0 : (opUndo s0).1 = 0 := (nI_eq (a := (opUndo s0).1) (b := 0) (by omega) (by decide)).mp h9
    refine lv_aload_n hx hb dL_law_695 rfl (lv_at hl 5 rfl) ?_
    refine lv_iconst (v := nI 0) hx hb dL_law_696 (by decide) ?_
    refine va_lald hx hb hK hP 0 2 rfl rfl (vp_in_nI (by decide) (by decide)) dL_law_697 ?_
    rw [show (nI 0).toNatClampNeg = 0 by decide, hv h0]
    refine lv_iload hx hb dL_law_698 (lv_at hl 0 rfl) ?_
    refine lv_i2l (v := (opUndo s0).2.1.toInt64) hx hb dL_law_700 rfl ?_
    refine W.lcmp hx hb dL_law_701 ?_
    rw [lgc]
    refine lv_if_eq (tgt := 707) hx hb dL_law_702 (by decide) (fun _ => ?_) (fun h => absurd rfl h)
    refine lv_goto (tgt := 1575) hx hb dL_law_707 (by decide) ?_
    exact KO (opUndo s0).2.2 u.1 u2 u.2 H locs hP hD hS hR1 hZ1 _ (lv_sub hl [2, 3, 4, 5, 6] rfl)
set_option maxHeartbeats 1000000 in
set_option maxRecDepth 100000 in
theorem cs_state {p : Program} {l : Launch} {e : Env} {s : State} {m : MethodId} {below : List Frame} {meth : Method} {c : Code} {sb L : Nat} {xs : Nat → Int32} {D : va_G} {cI cT cL : ClassId} {A : Nat → Prop} {Q : State → Prop} (x a o b t h : Nat → Nat) (ra : Nat → Nat → Nat) (ad : Nat → Nat) (oa k cells slots n : Nat) (LB : LBx p l s m c sb L xs D cI cT cL A) (hkL : 4 * k + 4 ≤ L) (hL2 : L ≤ 2048) (hn : n + 80 < 2 ^ 31) (hce : cells + 4 ≤ 601024) (hsl : slots + 24 ≤ 7293034) (s0 : ST) (j0 : JT) (r0 : JR) (f0 : Nat → Int64) (H : Heap) (locs : List Loc) (hP : va_P D vwCl (lwW cI cT cL x a o b t h ra ad oa s0 j0 r0 f0) H) (hD : va_D A (lwW cI cT cL x a o b t h ra ad oa s0 j0 r0 f0)) (hS : va_S A s.heap H locs) (hR : LR s0 j0) (hZ : LZu n s0 r0) (ls : Array Slot) (hl : lv_has ls 7 (lwL sb (x 0) (ad 0) oa k)) (KO : LKo p l e s m below meth c sb D cI cT cL A Q x a o b t h ra ad oa k (cells + 4) (slots + 24) (n + 80)) : W p l e room_1 s m #[Value.ref sb] below meth c H locs cells slots Q (F0 m 710 ls []) := by
  obtain ⟨hx, hb, hml, hown, hts, hK, hX0, hbl, hbA, hA, hX, hflag⟩ := LB
  have hK2 : va_K D vwCl (TY cI cT) s := hK.sub (tys' := TY cI cT) [0, 1] rfl
  have hro := ro_T (s := s0) (p0 := (xs (nI (4 * k + 1)).toNatClampNeg)) (f := (stI s0.1))
  have hro1 : (opT s0 (xs (nI (4 * k + 1)).toNatClampNeg) (stI s0.1)).1 ≤ 3 := Nat.le_trans hro.1 (by decide)
  refine lv_aload_n hx hb dL_law_710 rfl (lv_at hl 1 rfl) ?_
  refine lv_aload_n hx hb dL_law_711 rfl (lv_at hl 0 rfl) ?_
  refine lv_iload hx hb dL_law_712 (lv_at hl 4 rfl) ?_
  refine lv_iconst (v := nI 1) hx hb dL_law_714 (by decide) ?_
  refine lv_iadd hx hb dL_law_715 ?_
  refine tpe (y := nI (4 * k + 1)) (nI_add _ _) ?_
  refine va_sld hx hb hX0 hbl hbA hS (vp_in_nI (by omega) (by omega)) dL_law_716 ?_
  refine lv_aload_n hx hb dL_law_717 rfl (lv_at hl 3 rfl) ?_
  refine call_cw (X := []) (Wc := ([(oa, outE cL f0)] ++ lmW cI cT x a o b t h ra s0 j0)) (Z := rfW cI ad s0 r0) (As := [.ref (x 0), .int (xs (nI (4 * k + 1)).toNatClampNeg), .ref oa]) (rest := []) ⟨hx, hb, hml, hown, hts⟩ (c_L_state l hflag D cI cT cL x a o b t h ra s0 j0 oa f0 (xs (nI (4 * k + 1)).toNatClampNeg) hR) (vx_cwSW 3 hts gL_law_L_state rfl rfl rfl (by decide +kernel) ⟨Nat.le_of_ble_eq_true rfl, Nat.le_of_ble_eq_true rfl⟩) hK hP hD hS hA hX (fun _ => adr_ol) rfl hl.1 rfl (Nat.le_of_ble_eq_true rfl) ⟨hce, hsl⟩ dL_law_718 (fun r u H locs hp hP hD hS => ?_)
  obtain ⟨hr, hR1, hv⟩ := hp
  rw [hr]
  have hP : va_P D vwCl (([(oa, outE cL u.2)] ++ lmW cI cT x a o b t h ra (opT s0 (xs (nI (4 * k + 1)).toNatClampNeg) (stI s0.1)).2.2 u.1) ++ rfW cI ad s0 r0) H := hP; have hD : va_D A (([(oa, outE cL u.2)] ++ lmW cI cT x a o b t h ra (opT s0 (xs (nI (4 * k + 1)).toNatClampNeg) (stI s0.1)).2.2 u.1) ++ rfW cI ad s0 r0) := hD
  refine lv_istore (lv' := [(5, .int (nI (opT s0 (xs (nI (4 * k + 1)).toNatClampNeg) (stI s0.1)).1)), (0, .ref sb), (1, .ref (x 0)), (2, .ref (ad 0)), (3, .ref oa), (4, .int (nI (4 * k)))]) hx hb dL_law_721 hl (by decide) rfl (fun ls hl => ?_)
  refine lv_aload_n hx hb dL_law_723 rfl (lv_at hl 3 rfl) ?_
  refine lv_aload_n hx hb dL_law_724 rfl (lv_at hl 1 rfl) ?_
  refine lv_iload hx hb dL_law_725 (lv_at hl 5 rfl) ?_
  refine lv_iconst (v := nI 1) hx hb dL_law_727 (by decide) ?_
  refine lv_iadd hx hb dL_law_728 ?_
  refine tpe (y := nI (4 * k + 1)) (nI_add _ _) ?_
  refine va_sld hx hb hX0 hbl hbA hS (vp_in_nI (by omega) (by omega)) dL_law_729 ?_
  refine call_i (X := ([(oa, outE cL u.2)] ++ lmW cI cT x a o b t h ra (opT s0 (xs (nI (4 * k + 1)).toNatClampNeg) (stI s0.1)).2.2 u.1)) (Wc := rfW cI ad s0 r0) (Z := []) (As := [.int (xs (nI (4 * k + 1)).toNatClampNeg)]) (rest := []) ⟨hx, hb, hml, hown, hts⟩ (c_X5_state l D cI cT ad _ 0 0 _ _ _ _ _ _ _ _ _ _ _ s0.1 s0.2.1 s0.2.2.1 s0.2.2.2.1 s0.2.2.2.2 n (xs (nI (4 * k + 1)).toNatClampNeg) hZ hn) (cwV 1 hts gL_law_X5_state rfl rfl rfl (by decide +kernel) ⟨Nat.le_of_ble_eq_true rfl, Nat.le_of_ble_eq_true rfl⟩) hK2 (P_nilE hP) (D_nilE hD) hS hA (va_recv hK2 (sub_mid (P_nilE hP)) (ci := 5) (q0 := 0) rfl rfl) (fun _ => adr_rf) rfl hl.1 rfl (Nat.le_of_ble_eq_true rfl) ⟨Nat.le_trans (by omega) hce, Nat.le_trans (by omega) hsl⟩ dL_law_730 (fun rv u2 H locs hp2 hP hD hS => ?_)
  have hP := P_nilF hP; have hD := D_nilF hD
  have hr2 : rv = (opT s0 (xs (nI (4 * k + 1)).toNatClampNeg) (stI s0.1)).2.1 := hp2.1
  have hth : u2.1 = nI (opT s0 (xs (nI (4 * k + 1)).toNatClampNeg) (stI s0.1)).1 := hp2.2.1
  have hZ1 : LZu (n + 80) (opT s0 (xs (nI (4 * k + 1)).toNatClampNeg) (stI s0.1)).2.2 u2 := hp2.2.2
  rw [hr2]
  have hP : va_P D vwCl (([(oa, outE cL u.2)] ++ lmW cI cT x a o b t h ra (opT s0 (xs (nI (4 * k + 1)).toNatClampNeg) (stI s0.1)).2.2 u.1) ++ rfW cI ad (opT s0 (xs (nI (4 * k + 1)).toNatClampNeg) (stI s0.1)).2.2 u2) H := hP; have hD : va_D A (([(oa, outE cL u.2)] ++ lmW cI cT x a o b t h ra (opT s0 (xs (nI (4 * k + 1)).toNatClampNeg) (stI s0.1)).2.2 u.1) ++ rfW cI ad (opT s0 (xs (nI (4 * k + 1)).toNatClampNeg) (stI s0.1)).2.2 u2) := hD
  refine lv_istore (lv' := [(6, .int (opT s0 (xs (nI (4 * k + 1)).toNatClampNeg) (stI s0.1)).2.1), (5, .int (nI (opT s0 (xs (nI (4 * k + 1)).toNatClampNeg) (stI s0.1)).1)), (0, .ref sb), (1, .ref (x 0)), (2, .ref (ad 0)), (3, .ref oa), (4, .int (nI (4 * k)))]) hx hb dL_law_733 hl (by decide) rfl (fun ls hl => ?_)
  refine lv_aload_n hx hb dL_law_735 rfl (lv_at hl 4 rfl) ?_
  clear hr2 hp2
  refine call_i (X := ([(oa, outE cL u.2)] ++ lmW cI cT x a o b t h ra (opT s0 (xs (nI (4 * k + 1)).toNatClampNeg) (stI s0.1)).2.2 u.1)) (Wc := rfW cI ad (opT s0 (xs (nI (4 * k + 1)).toNatClampNeg) (stI s0.1)).2.2 u2) (Z := []) (As := []) (rest := []) ⟨hx, hb, hml, hown, hts⟩ (c_X5_thrown l D cI cT ad _ _ _ _ _ _ _ _ _ _ _ _ _ _) (cwV 0 hts gL_law_X5_thrown rfl rfl rfl (by decide +kernel) ⟨Nat.le_of_ble_eq_true rfl, Nat.le_of_ble_eq_true rfl⟩) hK2 (P_nilE hP) (D_nilE hD) hS hA (va_recv hK2 (sub_mid (P_nilE hP)) (ci := 5) (q0 := 0) rfl rfl) (fun _ => adr_rf) rfl hl.1 rfl (Nat.le_of_ble_eq_true rfl) ⟨Nat.le_trans (by omega) hce, Nat.le_trans (by omega) hsl⟩ dL_law_736 (fun rv2 u3 H locs hp3 hP hD hS => ?_)
  have hP := P_nilF hP; have hD := D_nilF hD
  have hr3 : rv2 = nI (opT s0 (xs (nI (4 * k + 1)).toNatClampNeg) (stI s0.1)).1 := hp3.trans hth
  rw [hr3]
  have hP : va_P D vwCl (lwW cI cT cL x a o b t h ra ad oa (opT s0 (xs (nI (4 * k + 1)).toNatClampNeg) (stI s0.1)).2.2 u.1 u2 u.2) H := hP; have hD : va_D A (lwW cI cT cL x a o b t h ra ad oa (opT s0 (xs (nI (4 * k + 1)).toNatClampNeg) (stI s0.1)).2.2 u.1 u2 u.2) := hD
  refine lv_iload hx hb dL_law_739 (lv_at hl 1 rfl) ?_
  refine lv_icmp_eq (tgt := 746) hx hb dL_law_741 (by decide) (fun _ => ?_) (fun h => absurd rfl h)
  refine lv_iload hx hb dL_law_746 (lv_at hl 1 rfl) ?_
  refine lv_if_ne (tgt := 763) hx hb dL_law_748 (by decide) (fun h9 => ?_) (fun h9 => ?_)
  · refine lv_goto (tgt := 1575) hx hb dL_law_763 (by decide) ?_
    exact KO (opT s0 (xs (nI (4 * k + 1)).toNatClampNeg) (stI s0.1)).2.2 u.1 u2 u.2 H locs hP hD hS hR1 hZ1 _ (lv_sub hl [2, 3, 4, 5, 6] rfl)
  · have h0 : (opT s0 (xs (nI (4 * k + 1)).toNatClampNeg) (stI s0.1)).1 = 0 := (nI_eq (a := (opT s0 (xs (nI (4 * k + 1)).toNatClampNeg) (stI s0.1)).1) (b := 0) (by omega) (by decide)).mp h9
    refine lv_aload_n hx hb dL_law_751 rfl (lv_at hl 5 rfl) ?_
    refine lv_iconst (v := nI 0) hx hb dL_law_752 (by decide) ?_
    refine va_lald hx hb hK hP 0 2 rfl rfl (vp_in_nI (by decide) (by decide)) dL_law_753 ?_
    rw [show (nI 0).toNatClampNeg = 0 by decide, hv h0]
    refine lv_iload hx hb dL_law_754 (lv_at hl 0 rfl) ?_
    refine lv_i2l (v := (opT s0 (xs (nI (4 * k + 1)).toNatClampNeg) (stI s0.1)).2.1.toInt64) hx hb dL_law_756 rfl ?_
    refine W.lcmp hx hb dL_law_757 ?_
    rw [lgc]
    refine lv_if_eq (tgt := 763) hx hb dL_law_758 (by decide) (fun _ => ?_) (fun h => absurd rfl h)
    refine lv_goto (tgt := 1575) hx hb dL_law_763 (by decide) ?_
    exact KO (opT s0 (xs (nI (4 * k + 1)).toNatClampNeg) (stI s0.1)).2.2 u.1 u2 u.2 H locs hP hD hS hR1 hZ1 _ (lv_sub hl [2, 3, 4, 5, 6] rfl)
set_option maxHeartbeats 1000000 in
set_option maxRecDepth 100000 in
theorem cs_workOf {p : Program} {l : Launch} {e : Env} {s : State} {m : MethodId} {below : List Frame} {meth : Method} {c : Code} {sb L : Nat} {xs : Nat → Int32} {D : va_G} {cI cT cL : ClassId} {A : Nat → Prop} {Q : State → Prop} (x a o b t h : Nat → Nat) (ra : Nat → Nat → Nat) (ad : Nat → Nat) (oa k cells slots n : Nat) (LB : LBx p l s m c sb L xs D cI cT cL A) (hkL : 4 * k + 4 ≤ L) (hL2 : L ≤ 2048) (hn : n + 80 < 2 ^ 31) (hce : cells + 4 ≤ 601024) (hsl : slots + 24 ≤ 7293034) (s0 : ST) (j0 : JT) (r0 : JR) (f0 : Nat → Int64) (H : Heap) (locs : List Loc) (hP : va_P D vwCl (lwW cI cT cL x a o b t h ra ad oa s0 j0 r0 f0) H) (hD : va_D A (lwW cI cT cL x a o b t h ra ad oa s0 j0 r0 f0)) (hS : va_S A s.heap H locs) (hR : LR s0 j0) (hZ : LZu n s0 r0) (ls : Array Slot) (hl : lv_has ls 7 (lwL sb (x 0) (ad 0) oa k)) (KO : LKo p l e s m below meth c sb D cI cT cL A Q x a o b t h ra ad oa k (cells + 4) (slots + 24) (n + 80)) : W p l e room_1 s m #[Value.ref sb] below meth c H locs cells slots Q (F0 m 766 ls []) := by
  obtain ⟨hx, hb, hml, hown, hts, hK, hX0, hbl, hbA, hA, hX, hflag⟩ := LB
  have hK2 : va_K D vwCl (TY cI cT) s := hK.sub (tys' := TY cI cT) [0, 1] rfl
  have hro := ro_T (s := s0) (p0 := (xs (nI (4 * k + 1)).toNatClampNeg)) (f := (s0.1 1))
  have hro1 : (opT s0 (xs (nI (4 * k + 1)).toNatClampNeg) (s0.1 1)).1 ≤ 3 := Nat.le_trans hro.1 (by decide)
  refine lv_aload_n hx hb dL_law_766 rfl (lv_at hl 1 rfl) ?_
  refine lv_aload_n hx hb dL_law_767 rfl (lv_at hl 0 rfl) ?_
  refine lv_iload hx hb dL_law_768 (lv_at hl 4 rfl) ?_
  refine lv_iconst (v := nI 1) hx hb dL_law_770 (by decide) ?_
  refine lv_iadd hx hb dL_law_771 ?_
  refine tpe (y := nI (4 * k + 1)) (nI_add _ _) ?_
  refine va_sld hx hb hX0 hbl hbA hS (vp_in_nI (by omega) (by omega)) dL_law_772 ?_
  refine lv_aload_n hx hb dL_law_773 rfl (lv_at hl 3 rfl) ?_
  refine call_cw (X := []) (Wc := ([(oa, outE cL f0)] ++ lmW cI cT x a o b t h ra s0 j0)) (Z := rfW cI ad s0 r0) (As := [.ref (x 0), .int (xs (nI (4 * k + 1)).toNatClampNeg), .ref oa]) (rest := []) ⟨hx, hb, hml, hown, hts⟩ (c_L_workOf l hflag D cI cT cL x a o b t h ra s0 j0 oa f0 (xs (nI (4 * k + 1)).toNatClampNeg) hR) (vx_cwSW 3 hts gL_law_L_workOf rfl rfl rfl (by decide +kernel) ⟨Nat.le_of_ble_eq_true rfl, Nat.le_of_ble_eq_true rfl⟩) hK hP hD hS hA hX (fun _ => adr_ol) rfl hl.1 rfl (Nat.le_of_ble_eq_true rfl) ⟨hce, hsl⟩ dL_law_774 (fun r u H locs hp hP hD hS => ?_)
  obtain ⟨hr, hR1, hv⟩ := hp
  rw [hr]
  have hP : va_P D vwCl (([(oa, outE cL u.2)] ++ lmW cI cT x a o b t h ra (opT s0 (xs (nI (4 * k + 1)).toNatClampNeg) (s0.1 1)).2.2 u.1) ++ rfW cI ad s0 r0) H := hP; have hD : va_D A (([(oa, outE cL u.2)] ++ lmW cI cT x a o b t h ra (opT s0 (xs (nI (4 * k + 1)).toNatClampNeg) (s0.1 1)).2.2 u.1) ++ rfW cI ad s0 r0) := hD
  refine lv_istore (lv' := [(5, .int (nI (opT s0 (xs (nI (4 * k + 1)).toNatClampNeg) (s0.1 1)).1)), (0, .ref sb), (1, .ref (x 0)), (2, .ref (ad 0)), (3, .ref oa), (4, .int (nI (4 * k)))]) hx hb dL_law_777 hl (by decide) rfl (fun ls hl => ?_)
  refine lv_aload_n hx hb dL_law_779 rfl (lv_at hl 3 rfl) ?_
  refine lv_aload_n hx hb dL_law_780 rfl (lv_at hl 1 rfl) ?_
  refine lv_iload hx hb dL_law_781 (lv_at hl 5 rfl) ?_
  refine lv_iconst (v := nI 1) hx hb dL_law_783 (by decide) ?_
  refine lv_iadd hx hb dL_law_784 ?_
  refine tpe (y := nI (4 * k + 1)) (nI_add _ _) ?_
  refine va_sld hx hb hX0 hbl hbA hS (vp_in_nI (by omega) (by omega)) dL_law_785 ?_
  refine call_i (X := ([(oa, outE cL u.2)] ++ lmW cI cT x a o b t h ra (opT s0 (xs (nI (4 * k + 1)).toNatClampNeg) (s0.1 1)).2.2 u.1)) (Wc := rfW cI ad s0 r0) (Z := []) (As := [.int (xs (nI (4 * k + 1)).toNatClampNeg)]) (rest := []) ⟨hx, hb, hml, hown, hts⟩ (c_X5_workOf l D cI cT ad _ 0 0 _ _ _ _ _ _ _ _ _ _ _ s0.1 s0.2.1 s0.2.2.1 s0.2.2.2.1 s0.2.2.2.2 n (xs (nI (4 * k + 1)).toNatClampNeg) hZ hn) (cwV 1 hts gL_law_X5_workOf rfl rfl rfl (by decide +kernel) ⟨Nat.le_of_ble_eq_true rfl, Nat.le_of_ble_eq_true rfl⟩) hK2 (P_nilE hP) (D_nilE hD) hS hA (va_recv hK2 (sub_mid (P_nilE hP)) (ci := 5) (q0 := 0) rfl rfl) (fun _ => adr_rf) rfl hl.1 rfl (Nat.le_of_ble_eq_true rfl) ⟨Nat.le_trans (by omega) hce, Nat.le_trans (by omega) hsl⟩ dL_law_786 (fun rv u2 H locs hp2 hP hD hS => ?_)
  have hP := P_nilF hP; have hD := D_nilF hD
  have hr2 : rv = (opT s0 (xs (nI (4 * k + 1)).toNatClampNeg) (s0.1 1)).2.1 := hp2.1
  have hth : u2.1 = nI (opT s0 (xs (nI (4 * k + 1)).toNatClampNeg) (s0.1 1)).1 := hp2.2.1
  have hZ1 : LZu (n + 80) (opT s0 (xs (nI (4 * k + 1)).toNatClampNeg) (s0.1 1)).2.2 u2 := hp2.2.2
  rw [hr2]
  have hP : va_P D vwCl (([(oa, outE cL u.2)] ++ lmW cI cT x a o b t h ra (opT s0 (xs (nI (4 * k + 1)).toNatClampNeg) (s0.1 1)).2.2 u.1) ++ rfW cI ad (opT s0 (xs (nI (4 * k + 1)).toNatClampNeg) (s0.1 1)).2.2 u2) H := hP; have hD : va_D A (([(oa, outE cL u.2)] ++ lmW cI cT x a o b t h ra (opT s0 (xs (nI (4 * k + 1)).toNatClampNeg) (s0.1 1)).2.2 u.1) ++ rfW cI ad (opT s0 (xs (nI (4 * k + 1)).toNatClampNeg) (s0.1 1)).2.2 u2) := hD
  refine lv_istore (lv' := [(6, .int (opT s0 (xs (nI (4 * k + 1)).toNatClampNeg) (s0.1 1)).2.1), (5, .int (nI (opT s0 (xs (nI (4 * k + 1)).toNatClampNeg) (s0.1 1)).1)), (0, .ref sb), (1, .ref (x 0)), (2, .ref (ad 0)), (3, .ref oa), (4, .int (nI (4 * k)))]) hx hb dL_law_789 hl (by decide) rfl (fun ls hl => ?_)
  refine lv_aload_n hx hb dL_law_791 rfl (lv_at hl 4 rfl) ?_
  clear hr2 hp2
  refine call_i (X := ([(oa, outE cL u.2)] ++ lmW cI cT x a o b t h ra (opT s0 (xs (nI (4 * k + 1)).toNatClampNeg) (s0.1 1)).2.2 u.1)) (Wc := rfW cI ad (opT s0 (xs (nI (4 * k + 1)).toNatClampNeg) (s0.1 1)).2.2 u2) (Z := []) (As := []) (rest := []) ⟨hx, hb, hml, hown, hts⟩ (c_X5_thrown l D cI cT ad _ _ _ _ _ _ _ _ _ _ _ _ _ _) (cwV 0 hts gL_law_X5_thrown rfl rfl rfl (by decide +kernel) ⟨Nat.le_of_ble_eq_true rfl, Nat.le_of_ble_eq_true rfl⟩) hK2 (P_nilE hP) (D_nilE hD) hS hA (va_recv hK2 (sub_mid (P_nilE hP)) (ci := 5) (q0 := 0) rfl rfl) (fun _ => adr_rf) rfl hl.1 rfl (Nat.le_of_ble_eq_true rfl) ⟨Nat.le_trans (by omega) hce, Nat.le_trans (by omega) hsl⟩ dL_law_792 (fun rv2 u3 H locs hp3 hP hD hS => ?_)
  have hP := P_nilF hP; have hD := D_nilF hD
  have hr3 : rv2 = nI (opT s0 (xs (nI (4 * k + 1)).toNatClampNeg) (s0.1 1)).1 := hp3.trans hth
  rw [hr3]
  have hP : va_P D vwCl (lwW cI cT cL x a o b t h ra ad oa (opT s0 (xs (nI (4 * k + 1)).toNatClampNeg) (s0.1 1)).2.2 u.1 u2 u.2) H := hP; have hD : va_D A (lwW cI cT cL x a o b t h ra ad oa (opT s0 (xs (nI (4 * k + 1)).toNatClampNeg) (s0.1 1)).2.2 u.1 u2 u.2) := hD
  refine lv_iload hx hb dL_law_795 (lv_at hl 1 rfl) ?_
  refine lv_icmp_eq (tgt := 802) hx hb dL_law_797 (by decide) (fun _ => ?_) (fun h => absurd rfl h)
  refine lv_iload hx hb dL_law_802 (lv_at hl 1 rfl) ?_
  refine lv_if_ne (tgt := 819) hx hb dL_law_804 (by decide) (fun h9 => ?_) (fun h9 => ?_)
  · refine lv_goto (tgt := 1575) hx hb dL_law_819 (by decide) ?_
    exact KO (opT s0 (xs (nI (4 * k + 1)).toNatClampNeg) (s0.1 1)).2.2 u.1 u2 u.2 H locs hP hD hS hR1 hZ1 _ (lv_sub hl [2, 3, 4, 5, 6] rfl)
  · have h0 : (opT s0 (xs (nI (4 * k + 1)).toNatClampNeg) (s0.1 1)).1 = 0 := (nI_eq (a := (opT s0 (xs (nI (4 * k + 1)).toNatClampNeg) (s0.1 1)).1) (b := 0) (by omega) (by decide)).mp h9
    refine lv_aload_n hx hb dL_law_807 rfl (lv_at hl 5 rfl) ?_
    refine lv_iconst (v := nI 0) hx hb dL_law_808 (by decide) ?_
    refine va_lald hx hb hK hP 0 2 rfl rfl (vp_in_nI (by decide) (by decide)) dL_law_809 ?_
    rw [show (nI 0).toNatClampNeg = 0 by decide, hv h0]
    refine lv_iload hx hb dL_law_810 (lv_at hl 0 rfl) ?_
    refine lv_i2l (v := (opT s0 (xs (nI (4 * k + 1)).toNatClampNeg) (s0.1 1)).2.1.toInt64) hx hb dL_law_812 rfl ?_
    refine W.lcmp hx hb dL_law_813 ?_
    rw [lgc]
    refine lv_if_eq (tgt := 819) hx hb dL_law_814 (by decide) (fun _ => ?_) (fun h => absurd rfl h)
    refine lv_goto (tgt := 1575) hx hb dL_law_819 (by decide) ?_
    exact KO (opT s0 (xs (nI (4 * k + 1)).toNatClampNeg) (s0.1 1)).2.2 u.1 u2 u.2 H locs hP hD hS hR1 hZ1 _ (lv_sub hl [2, 3, 4, 5, 6] rfl)
set_option maxHeartbeats 1000000 in
set_option maxRecDepth 100000 in
theorem cs_abortsOf {p : Program} {l : Launch} {e : Env} {s : State} {m : MethodId} {below : List Frame} {meth : Method} {c : Code} {sb L : Nat} {xs : Nat → Int32} {D : va_G} {cI cT cL : ClassId} {A : Nat → Prop} {Q : State → Prop} (x a o b t h : Nat → Nat) (ra : Nat → Nat → Nat) (ad : Nat → Nat) (oa k cells slots n : Nat) (LB : LBx p l s m c sb L xs D cI cT cL A) (hkL : 4 * k + 4 ≤ L) (hL2 : L ≤ 2048) (hn : n + 80 < 2 ^ 31) (hce : cells + 4 ≤ 601024) (hsl : slots + 24 ≤ 7293034) (s0 : ST) (j0 : JT) (r0 : JR) (f0 : Nat → Int64) (H : Heap) (locs : List Loc) (hP : va_P D vwCl (lwW cI cT cL x a o b t h ra ad oa s0 j0 r0 f0) H) (hD : va_D A (lwW cI cT cL x a o b t h ra ad oa s0 j0 r0 f0)) (hS : va_S A s.heap H locs) (hR : LR s0 j0) (hZ : LZu n s0 r0) (ls : Array Slot) (hl : lv_has ls 7 (lwL sb (x 0) (ad 0) oa k)) (KO : LKo p l e s m below meth c sb D cI cT cL A Q x a o b t h ra ad oa k (cells + 4) (slots + 24) (n + 80)) : W p l e room_1 s m #[Value.ref sb] below meth c H locs cells slots Q (F0 m 822 ls []) := by
  obtain ⟨hx, hb, hml, hown, hts, hK, hX0, hbl, hbA, hA, hX, hflag⟩ := LB
  have hK2 : va_K D vwCl (TY cI cT) s := hK.sub (tys' := TY cI cT) [0, 1] rfl
  have hro := ro_T (s := s0) (p0 := (xs (nI (4 * k + 1)).toNatClampNeg)) (f := (s0.1 2))
  have hro1 : (opT s0 (xs (nI (4 * k + 1)).toNatClampNeg) (s0.1 2)).1 ≤ 3 := Nat.le_trans hro.1 (by decide)
  refine lv_aload_n hx hb dL_law_822 rfl (lv_at hl 1 rfl) ?_
  refine lv_aload_n hx hb dL_law_823 rfl (lv_at hl 0 rfl) ?_
  refine lv_iload hx hb dL_law_824 (lv_at hl 4 rfl) ?_
  refine lv_iconst (v := nI 1) hx hb dL_law_826 (by decide) ?_
  refine lv_iadd hx hb dL_law_827 ?_
  refine tpe (y := nI (4 * k + 1)) (nI_add _ _) ?_
  refine va_sld hx hb hX0 hbl hbA hS (vp_in_nI (by omega) (by omega)) dL_law_828 ?_
  refine lv_aload_n hx hb dL_law_829 rfl (lv_at hl 3 rfl) ?_
  refine call_cw (X := []) (Wc := ([(oa, outE cL f0)] ++ lmW cI cT x a o b t h ra s0 j0)) (Z := rfW cI ad s0 r0) (As := [.ref (x 0), .int (xs (nI (4 * k + 1)).toNatClampNeg), .ref oa]) (rest := []) ⟨hx, hb, hml, hown, hts⟩ (c_L_abortsOf l hflag D cI cT cL x a o b t h ra s0 j0 oa f0 (xs (nI (4 * k + 1)).toNatClampNeg) hR) (vx_cwSW 3 hts gL_law_L_abortsOf rfl rfl rfl (by decide +kernel) ⟨Nat.le_of_ble_eq_true rfl, Nat.le_of_ble_eq_true rfl⟩) hK hP hD hS hA hX (fun _ => adr_ol) rfl hl.1 rfl (Nat.le_of_ble_eq_true rfl) ⟨hce, hsl⟩ dL_law_830 (fun r u H locs hp hP hD hS => ?_)
  obtain ⟨hr, hR1, hv⟩ := hp
  rw [hr]
  have hP : va_P D vwCl (([(oa, outE cL u.2)] ++ lmW cI cT x a o b t h ra (opT s0 (xs (nI (4 * k + 1)).toNatClampNeg) (s0.1 2)).2.2 u.1) ++ rfW cI ad s0 r0) H := hP; have hD : va_D A (([(oa, outE cL u.2)] ++ lmW cI cT x a o b t h ra (opT s0 (xs (nI (4 * k + 1)).toNatClampNeg) (s0.1 2)).2.2 u.1) ++ rfW cI ad s0 r0) := hD
  refine lv_istore (lv' := [(5, .int (nI (opT s0 (xs (nI (4 * k + 1)).toNatClampNeg) (s0.1 2)).1)), (0, .ref sb), (1, .ref (x 0)), (2, .ref (ad 0)), (3, .ref oa), (4, .int (nI (4 * k)))]) hx hb dL_law_833 hl (by decide) rfl (fun ls hl => ?_)
  refine lv_aload_n hx hb dL_law_835 rfl (lv_at hl 3 rfl) ?_
  refine lv_aload_n hx hb dL_law_836 rfl (lv_at hl 1 rfl) ?_
  refine lv_iload hx hb dL_law_837 (lv_at hl 5 rfl) ?_
  refine lv_iconst (v := nI 1) hx hb dL_law_839 (by decide) ?_
  refine lv_iadd hx hb dL_law_840 ?_
  refine tpe (y := nI (4 * k + 1)) (nI_add _ _) ?_
  refine va_sld hx hb hX0 hbl hbA hS (vp_in_nI (by omega) (by omega)) dL_law_841 ?_
  refine call_i (X := ([(oa, outE cL u.2)] ++ lmW cI cT x a o b t h ra (opT s0 (xs (nI (4 * k + 1)).toNatClampNeg) (s0.1 2)).2.2 u.1)) (Wc := rfW cI ad s0 r0) (Z := []) (As := [.int (xs (nI (4 * k + 1)).toNatClampNeg)]) (rest := []) ⟨hx, hb, hml, hown, hts⟩ (c_X5_abortsOf l D cI cT ad _ 0 0 _ _ _ _ _ _ _ _ _ _ _ s0.1 s0.2.1 s0.2.2.1 s0.2.2.2.1 s0.2.2.2.2 n (xs (nI (4 * k + 1)).toNatClampNeg) hZ hn) (cwV 1 hts gL_law_X5_abortsOf rfl rfl rfl (by decide +kernel) ⟨Nat.le_of_ble_eq_true rfl, Nat.le_of_ble_eq_true rfl⟩) hK2 (P_nilE hP) (D_nilE hD) hS hA (va_recv hK2 (sub_mid (P_nilE hP)) (ci := 5) (q0 := 0) rfl rfl) (fun _ => adr_rf) rfl hl.1 rfl (Nat.le_of_ble_eq_true rfl) ⟨Nat.le_trans (by omega) hce, Nat.le_trans (by omega) hsl⟩ dL_law_842 (fun rv u2 H locs hp2 hP hD hS => ?_)
  have hP := P_nilF hP; have hD := D_nilF hD
  have hr2 : rv = (opT s0 (xs (nI (4 * k + 1)).toNatClampNeg) (s0.1 2)).2.1 := hp2.1
  have hth : u2.1 = nI (opT s0 (xs (nI (4 * k + 1)).toNatClampNeg) (s0.1 2)).1 := hp2.2.1
  have hZ1 : LZu (n + 80) (opT s0 (xs (nI (4 * k + 1)).toNatClampNeg) (s0.1 2)).2.2 u2 := hp2.2.2
  rw [hr2]
  have hP : va_P D vwCl (([(oa, outE cL u.2)] ++ lmW cI cT x a o b t h ra (opT s0 (xs (nI (4 * k + 1)).toNatClampNeg) (s0.1 2)).2.2 u.1) ++ rfW cI ad (opT s0 (xs (nI (4 * k + 1)).toNatClampNeg) (s0.1 2)).2.2 u2) H := hP; have hD : va_D A (([(oa, outE cL u.2)] ++ lmW cI cT x a o b t h ra (opT s0 (xs (nI (4 * k + 1)).toNatClampNeg) (s0.1 2)).2.2 u.1) ++ rfW cI ad (opT s0 (xs (nI (4 * k + 1)).toNatClampNeg) (s0.1 2)).2.2 u2) := hD
  refine lv_istore (lv' := [(6, .int (opT s0 (xs (nI (4 * k + 1)).toNatClampNeg) (s0.1 2)).2.1), (5, .int (nI (opT s0 (xs (nI (4 * k + 1)).toNatClampNeg) (s0.1 2)).1)), (0, .ref sb), (1, .ref (x 0)), (2, .ref (ad 0)), (3, .ref oa), (4, .int (nI (4 * k)))]) hx hb dL_law_845 hl (by decide) rfl (fun ls hl => ?_)
  refine lv_aload_n hx hb dL_law_847 rfl (lv_at hl 4 rfl) ?_
  clear hr2 hp2
  refine call_i (X := ([(oa, outE cL u.2)] ++ lmW cI cT x a o b t h ra (opT s0 (xs (nI (4 * k + 1)).toNatClampNeg) (s0.1 2)).2.2 u.1)) (Wc := rfW cI ad (opT s0 (xs (nI (4 * k + 1)).toNatClampNeg) (s0.1 2)).2.2 u2) (Z := []) (As := []) (rest := []) ⟨hx, hb, hml, hown, hts⟩ (c_X5_thrown l D cI cT ad _ _ _ _ _ _ _ _ _ _ _ _ _ _) (cwV 0 hts gL_law_X5_thrown rfl rfl rfl (by decide +kernel) ⟨Nat.le_of_ble_eq_true rfl, Nat.le_of_ble_eq_true rfl⟩) hK2 (P_nilE hP) (D_nilE hD) hS hA (va_recv hK2 (sub_mid (P_nilE hP)) (ci := 5) (q0 := 0) rfl rfl) (fun _ => adr_rf) rfl hl.1 rfl (Nat.le_of_ble_eq_true rfl) ⟨Nat.le_trans (by omega) hce, Nat.le_trans (by omega) hsl⟩ dL_law_848 (fun rv2 u3 H locs hp3 hP hD hS => ?_)
  have hP := P_nilF hP; have hD := D_nilF hD
  have hr3 : rv2 = nI (opT s0 (xs (nI (4 * k + 1)).toNatClampNeg) (s0.1 2)).1 := hp3.trans hth
  rw [hr3]
  have hP : va_P D vwCl (lwW cI cT cL x a o b t h ra ad oa (opT s0 (xs (nI (4 * k + 1)).toNatClampNeg) (s0.1 2)).2.2 u.1 u2 u.2) H := hP; have hD : va_D A (lwW cI cT cL x a o b t h ra ad oa (opT s0 (xs (nI (4 * k + 1)).toNatClampNeg) (s0.1 2)).2.2 u.1 u2 u.2) := hD
  refine lv_iload hx hb dL_law_851 (lv_at hl 1 rfl) ?_
  refine lv_icmp_eq (tgt := 858) hx hb dL_law_853 (by decide) (fun _ => ?_) (fun h => absurd rfl h)
  refine lv_iload hx hb dL_law_858 (lv_at hl 1 rfl) ?_
  refine lv_if_ne (tgt := 875) hx hb dL_law_860 (by decide) (fun h9 => ?_) (fun h9 => ?_)
  · refine lv_goto (tgt := 1575) hx hb dL_law_875 (by decide) ?_
    exact KO (opT s0 (xs (nI (4 * k + 1)).toNatClampNeg) (s0.1 2)).2.2 u.1 u2 u.2 H locs hP hD hS hR1 hZ1 _ (lv_sub hl [2, 3, 4, 5, 6] rfl)
  · have h0 : (opT s0 (xs (nI (4 * k + 1)).toNatClampNeg) (s0.1 2)).1 = 0 := (nI_eq (a := (opT s0 (xs (nI (4 * k + 1)).toNatClampNeg) (s0.1 2)).1) (b := 0) (by omega) (by decide)).mp h9
    refine lv_aload_n hx hb dL_law_863 rfl (lv_at hl 5 rfl) ?_
    refine lv_iconst (v := nI 0) hx hb dL_law_864 (by decide) ?_
    refine va_lald hx hb hK hP 0 2 rfl rfl (vp_in_nI (by decide) (by decide)) dL_law_865 ?_
    rw [show (nI 0).toNatClampNeg = 0 by decide, hv h0]
    refine lv_iload hx hb dL_law_866 (lv_at hl 0 rfl) ?_
    refine lv_i2l (v := (opT s0 (xs (nI (4 * k + 1)).toNatClampNeg) (s0.1 2)).2.1.toInt64) hx hb dL_law_868 rfl ?_
    refine W.lcmp hx hb dL_law_869 ?_
    rw [lgc]
    refine lv_if_eq (tgt := 875) hx hb dL_law_870 (by decide) (fun _ => ?_) (fun h => absurd rfl h)
    refine lv_goto (tgt := 1575) hx hb dL_law_875 (by decide) ?_
    exact KO (opT s0 (xs (nI (4 * k + 1)).toNatClampNeg) (s0.1 2)).2.2 u.1 u2 u.2 H locs hP hD hS hR1 hZ1 _ (lv_sub hl [2, 3, 4, 5, 6] rfl)
set_option maxHeartbeats 1000000 in
set_option maxRecDepth 100000 in
theorem cs_birthOf {p : Program} {l : Launch} {e : Env} {s : State} {m : MethodId} {below : List Frame} {meth : Method} {c : Code} {sb L : Nat} {xs : Nat → Int32} {D : va_G} {cI cT cL : ClassId} {A : Nat → Prop} {Q : State → Prop} (x a o b t h : Nat → Nat) (ra : Nat → Nat → Nat) (ad : Nat → Nat) (oa k cells slots n : Nat) (LB : LBx p l s m c sb L xs D cI cT cL A) (hkL : 4 * k + 4 ≤ L) (hL2 : L ≤ 2048) (hn : n + 80 < 2 ^ 31) (hce : cells + 4 ≤ 601024) (hsl : slots + 24 ≤ 7293034) (s0 : ST) (j0 : JT) (r0 : JR) (f0 : Nat → Int64) (H : Heap) (locs : List Loc) (hP : va_P D vwCl (lwW cI cT cL x a o b t h ra ad oa s0 j0 r0 f0) H) (hD : va_D A (lwW cI cT cL x a o b t h ra ad oa s0 j0 r0 f0)) (hS : va_S A s.heap H locs) (hR : LR s0 j0) (hZ : LZu n s0 r0) (ls : Array Slot) (hl : lv_has ls 7 (lwL sb (x 0) (ad 0) oa k)) (KO : LKo p l e s m below meth c sb D cI cT cL A Q x a o b t h ra ad oa k (cells + 4) (slots + 24) (n + 80)) : W p l e room_1 s m #[Value.ref sb] below meth c H locs cells slots Q (F0 m 878 ls []) := by
  obtain ⟨hx, hb, hml, hown, hts, hK, hX0, hbl, hbA, hA, hX, hflag⟩ := LB
  have hK2 : va_K D vwCl (TY cI cT) s := hK.sub (tys' := TY cI cT) [0, 1] rfl
  have hro := ro_T (s := s0) (p0 := (xs (nI (4 * k + 1)).toNatClampNeg)) (f := (s0.1 0))
  have hro1 : (opT s0 (xs (nI (4 * k + 1)).toNatClampNeg) (s0.1 0)).1 ≤ 3 := Nat.le_trans hro.1 (by decide)
  refine lv_aload_n hx hb dL_law_878 rfl (lv_at hl 1 rfl) ?_
  refine lv_aload_n hx hb dL_law_879 rfl (lv_at hl 0 rfl) ?_
  refine lv_iload hx hb dL_law_880 (lv_at hl 4 rfl) ?_
  refine lv_iconst (v := nI 1) hx hb dL_law_882 (by decide) ?_
  refine lv_iadd hx hb dL_law_883 ?_
  refine tpe (y := nI (4 * k + 1)) (nI_add _ _) ?_
  refine va_sld hx hb hX0 hbl hbA hS (vp_in_nI (by omega) (by omega)) dL_law_884 ?_
  refine lv_aload_n hx hb dL_law_885 rfl (lv_at hl 3 rfl) ?_
  refine call_cw (X := []) (Wc := ([(oa, outE cL f0)] ++ lmW cI cT x a o b t h ra s0 j0)) (Z := rfW cI ad s0 r0) (As := [.ref (x 0), .int (xs (nI (4 * k + 1)).toNatClampNeg), .ref oa]) (rest := []) ⟨hx, hb, hml, hown, hts⟩ (c_L_birthOf l hflag D cI cT cL x a o b t h ra s0 j0 oa f0 (xs (nI (4 * k + 1)).toNatClampNeg) hR) (vx_cwSW 3 hts gL_law_L_birthOf rfl rfl rfl (by decide +kernel) ⟨Nat.le_of_ble_eq_true rfl, Nat.le_of_ble_eq_true rfl⟩) hK hP hD hS hA hX (fun _ => adr_ol) rfl hl.1 rfl (Nat.le_of_ble_eq_true rfl) ⟨hce, hsl⟩ dL_law_886 (fun r u H locs hp hP hD hS => ?_)
  obtain ⟨hr, hR1, hv⟩ := hp
  rw [hr]
  have hP : va_P D vwCl (([(oa, outE cL u.2)] ++ lmW cI cT x a o b t h ra (opT s0 (xs (nI (4 * k + 1)).toNatClampNeg) (s0.1 0)).2.2 u.1) ++ rfW cI ad s0 r0) H := hP; have hD : va_D A (([(oa, outE cL u.2)] ++ lmW cI cT x a o b t h ra (opT s0 (xs (nI (4 * k + 1)).toNatClampNeg) (s0.1 0)).2.2 u.1) ++ rfW cI ad s0 r0) := hD
  refine lv_istore (lv' := [(5, .int (nI (opT s0 (xs (nI (4 * k + 1)).toNatClampNeg) (s0.1 0)).1)), (0, .ref sb), (1, .ref (x 0)), (2, .ref (ad 0)), (3, .ref oa), (4, .int (nI (4 * k)))]) hx hb dL_law_889 hl (by decide) rfl (fun ls hl => ?_)
  refine lv_aload_n hx hb dL_law_891 rfl (lv_at hl 3 rfl) ?_
  refine lv_aload_n hx hb dL_law_892 rfl (lv_at hl 1 rfl) ?_
  refine lv_iload hx hb dL_law_893 (lv_at hl 5 rfl) ?_
  refine lv_iconst (v := nI 1) hx hb dL_law_895 (by decide) ?_
  refine lv_iadd hx hb dL_law_896 ?_
  refine tpe (y := nI (4 * k + 1)) (nI_add _ _) ?_
  refine va_sld hx hb hX0 hbl hbA hS (vp_in_nI (by omega) (by omega)) dL_law_897 ?_
  refine call_i (X := ([(oa, outE cL u.2)] ++ lmW cI cT x a o b t h ra (opT s0 (xs (nI (4 * k + 1)).toNatClampNeg) (s0.1 0)).2.2 u.1)) (Wc := rfW cI ad s0 r0) (Z := []) (As := [.int (xs (nI (4 * k + 1)).toNatClampNeg)]) (rest := []) ⟨hx, hb, hml, hown, hts⟩ (c_X5_birthOf l D cI cT ad _ 0 0 _ _ _ _ _ _ _ _ _ _ _ s0.1 s0.2.1 s0.2.2.1 s0.2.2.2.1 s0.2.2.2.2 n (xs (nI (4 * k + 1)).toNatClampNeg) hZ hn) (cwV 1 hts gL_law_X5_birthOf rfl rfl rfl (by decide +kernel) ⟨Nat.le_of_ble_eq_true rfl, Nat.le_of_ble_eq_true rfl⟩) hK2 (P_nilE hP) (D_nilE hD) hS hA (va_recv hK2 (sub_mid (P_nilE hP)) (ci := 5) (q0 := 0) rfl rfl) (fun _ => adr_rf) rfl hl.1 rfl (Nat.le_of_ble_eq_true rfl) ⟨Nat.le_trans (by omega) hce, Nat.le_trans (by omega) hsl⟩ dL_law_898 (fun rv u2 H locs hp2 hP hD hS => ?_)
  have hP := P_nilF hP; have hD := D_nilF hD
  have hr2 : rv = (opT s0 (xs (nI (4 * k + 1)).toNatClampNeg) (s0.1 0)).2.1 := hp2.1
  have hth : u2.1 = nI (opT s0 (xs (nI (4 * k + 1)).toNatClampNeg) (s0.1 0)).1 := hp2.2.1
  have hZ1 : LZu (n + 80) (opT s0 (xs (nI (4 * k + 1)).toNatClampNeg) (s0.1 0)).2.2 u2 := hp2.2.2
  rw [hr2]
  have hP : va_P D vwCl (([(oa, outE cL u.2)] ++ lmW cI cT x a o b t h ra (opT s0 (xs (nI (4 * k + 1)).toNatClampNeg) (s0.1 0)).2.2 u.1) ++ rfW cI ad (opT s0 (xs (nI (4 * k + 1)).toNatClampNeg) (s0.1 0)).2.2 u2) H := hP; have hD : va_D A (([(oa, outE cL u.2)] ++ lmW cI cT x a o b t h ra (opT s0 (xs (nI (4 * k + 1)).toNatClampNeg) (s0.1 0)).2.2 u.1) ++ rfW cI ad (opT s0 (xs (nI (4 * k + 1)).toNatClampNeg) (s0.1 0)).2.2 u2) := hD
  refine lv_istore (lv' := [(6, .int (opT s0 (xs (nI (4 * k + 1)).toNatClampNeg) (s0.1 0)).2.1), (5, .int (nI (opT s0 (xs (nI (4 * k + 1)).toNatClampNeg) (s0.1 0)).1)), (0, .ref sb), (1, .ref (x 0)), (2, .ref (ad 0)), (3, .ref oa), (4, .int (nI (4 * k)))]) hx hb dL_law_901 hl (by decide) rfl (fun ls hl => ?_)
  refine lv_aload_n hx hb dL_law_903 rfl (lv_at hl 4 rfl) ?_
  clear hr2 hp2
  refine call_i (X := ([(oa, outE cL u.2)] ++ lmW cI cT x a o b t h ra (opT s0 (xs (nI (4 * k + 1)).toNatClampNeg) (s0.1 0)).2.2 u.1)) (Wc := rfW cI ad (opT s0 (xs (nI (4 * k + 1)).toNatClampNeg) (s0.1 0)).2.2 u2) (Z := []) (As := []) (rest := []) ⟨hx, hb, hml, hown, hts⟩ (c_X5_thrown l D cI cT ad _ _ _ _ _ _ _ _ _ _ _ _ _ _) (cwV 0 hts gL_law_X5_thrown rfl rfl rfl (by decide +kernel) ⟨Nat.le_of_ble_eq_true rfl, Nat.le_of_ble_eq_true rfl⟩) hK2 (P_nilE hP) (D_nilE hD) hS hA (va_recv hK2 (sub_mid (P_nilE hP)) (ci := 5) (q0 := 0) rfl rfl) (fun _ => adr_rf) rfl hl.1 rfl (Nat.le_of_ble_eq_true rfl) ⟨Nat.le_trans (by omega) hce, Nat.le_trans (by omega) hsl⟩ dL_law_904 (fun rv2 u3 H locs hp3 hP hD hS => ?_)
  have hP := P_nilF hP; have hD := D_nilF hD
  have hr3 : rv2 = nI (opT s0 (xs (nI (4 * k + 1)).toNatClampNeg) (s0.1 0)).1 := hp3.trans hth
  rw [hr3]
  have hP : va_P D vwCl (lwW cI cT cL x a o b t h ra ad oa (opT s0 (xs (nI (4 * k + 1)).toNatClampNeg) (s0.1 0)).2.2 u.1 u2 u.2) H := hP; have hD : va_D A (lwW cI cT cL x a o b t h ra ad oa (opT s0 (xs (nI (4 * k + 1)).toNatClampNeg) (s0.1 0)).2.2 u.1 u2 u.2) := hD
  refine lv_iload hx hb dL_law_907 (lv_at hl 1 rfl) ?_
  refine lv_icmp_eq (tgt := 914) hx hb dL_law_909 (by decide) (fun _ => ?_) (fun h => absurd rfl h)
  refine lv_iload hx hb dL_law_914 (lv_at hl 1 rfl) ?_
  refine lv_if_ne (tgt := 931) hx hb dL_law_916 (by decide) (fun h9 => ?_) (fun h9 => ?_)
  · refine lv_goto (tgt := 1575) hx hb dL_law_931 (by decide) ?_
    exact KO (opT s0 (xs (nI (4 * k + 1)).toNatClampNeg) (s0.1 0)).2.2 u.1 u2 u.2 H locs hP hD hS hR1 hZ1 _ (lv_sub hl [2, 3, 4, 5, 6] rfl)
  · have h0 : (opT s0 (xs (nI (4 * k + 1)).toNatClampNeg) (s0.1 0)).1 = 0 := (nI_eq (a := (opT s0 (xs (nI (4 * k + 1)).toNatClampNeg) (s0.1 0)).1) (b := 0) (by omega) (by decide)).mp h9
    refine lv_aload_n hx hb dL_law_919 rfl (lv_at hl 5 rfl) ?_
    refine lv_iconst (v := nI 0) hx hb dL_law_920 (by decide) ?_
    refine va_lald hx hb hK hP 0 2 rfl rfl (vp_in_nI (by decide) (by decide)) dL_law_921 ?_
    rw [show (nI 0).toNatClampNeg = 0 by decide, hv h0]
    refine lv_iload hx hb dL_law_922 (lv_at hl 0 rfl) ?_
    refine lv_i2l (v := (opT s0 (xs (nI (4 * k + 1)).toNatClampNeg) (s0.1 0)).2.1.toInt64) hx hb dL_law_924 rfl ?_
    refine W.lcmp hx hb dL_law_925 ?_
    rw [lgc]
    refine lv_if_eq (tgt := 931) hx hb dL_law_926 (by decide) (fun _ => ?_) (fun h => absurd rfl h)
    refine lv_goto (tgt := 1575) hx hb dL_law_931 (by decide) ?_
    exact KO (opT s0 (xs (nI (4 * k + 1)).toNatClampNeg) (s0.1 0)).2.2 u.1 u2 u.2 H locs hP hD hS hR1 hZ1 _ (lv_sub hl [2, 3, 4, 5, 6] rfl)
set_option maxHeartbeats 1000000 in
set_option maxRecDepth 100000 in
theorem cs_held {p : Program} {l : Launch} {e : Env} {s : State} {m : MethodId} {below : List Frame} {meth : Method} {c : Code} {sb L : Nat} {xs : Nat → Int32} {D : va_G} {cI cT cL : ClassId} {A : Nat → Prop} {Q : State → Prop} (x a o b t h : Nat → Nat) (ra : Nat → Nat → Nat) (ad : Nat → Nat) (oa k cells slots n : Nat) (LB : LBx p l s m c sb L xs D cI cT cL A) (hkL : 4 * k + 4 ≤ L) (hL2 : L ≤ 2048) (hn : n + 80 < 2 ^ 31) (hce : cells + 4 ≤ 601024) (hsl : slots + 24 ≤ 7293034) (s0 : ST) (j0 : JT) (r0 : JR) (f0 : Nat → Int64) (H : Heap) (locs : List Loc) (hP : va_P D vwCl (lwW cI cT cL x a o b t h ra ad oa s0 j0 r0 f0) H) (hD : va_D A (lwW cI cT cL x a o b t h ra ad oa s0 j0 r0 f0)) (hS : va_S A s.heap H locs) (hR : LR s0 j0) (hZ : LZu n s0 r0) (ls : Array Slot) (hl : lv_has ls 7 (lwL sb (x 0) (ad 0) oa k)) (KO : LKo p l e s m below meth c sb D cI cT cL A Q x a o b t h ra ad oa k (cells + 4) (slots + 24) (n + 80)) : W p l e room_1 s m #[Value.ref sb] below meth c H locs cells slots Q (F0 m 934 ls []) := by
  obtain ⟨hx, hb, hml, hown, hts, hK, hX0, hbl, hbA, hA, hX, hflag⟩ := LB
  have hK2 : va_K D vwCl (TY cI cT) s := hK.sub (tys' := TY cI cT) [0, 1] rfl
  have hro := ro_Held (s := s0) (p0 := (xs (nI (4 * k + 1)).toNatClampNeg)) (p1 := (xs (nI (4 * k + 2)).toNatClampNeg))
  have hro1 : (opHeld s0 (xs (nI (4 * k + 1)).toNatClampNeg) (xs (nI (4 * k + 2)).toNatClampNeg)).1 ≤ 3 := Nat.le_trans hro.1 (by decide)
  refine lv_aload_n hx hb dL_law_934 rfl (lv_at hl 1 rfl) ?_
  refine lv_aload_n hx hb dL_law_935 rfl (lv_at hl 0 rfl) ?_
  refine lv_iload hx hb dL_law_936 (lv_at hl 4 rfl) ?_
  refine lv_iconst (v := nI 1) hx hb dL_law_938 (by decide) ?_
  refine lv_iadd hx hb dL_law_939 ?_
  refine tpe (y := nI (4 * k + 1)) (nI_add _ _) ?_
  refine va_sld hx hb hX0 hbl hbA hS (vp_in_nI (by omega) (by omega)) dL_law_940 ?_
  refine lv_aload_n hx hb dL_law_941 rfl (lv_at hl 0 rfl) ?_
  refine lv_iload hx hb dL_law_942 (lv_at hl 4 rfl) ?_
  refine lv_iconst (v := nI 2) hx hb dL_law_944 (by decide) ?_
  refine lv_iadd hx hb dL_law_945 ?_
  refine tpe (y := nI (4 * k + 2)) (nI_add _ _) ?_
  refine va_sld hx hb hX0 hbl hbA hS (vp_in_nI (by omega) (by omega)) dL_law_946 ?_
  refine lv_aload_n hx hb dL_law_947 rfl (lv_at hl 3 rfl) ?_
  refine call_cw (X := []) (Wc := ([(oa, outE cL f0)] ++ lmW cI cT x a o b t h ra s0 j0)) (Z := rfW cI ad s0 r0) (As := [.ref (x 0), .int (xs (nI (4 * k + 1)).toNatClampNeg), .int (xs (nI (4 * k + 2)).toNatClampNeg), .ref oa]) (rest := []) ⟨hx, hb, hml, hown, hts⟩ (c_L_held l hflag D cI cT cL x a o b t h ra s0 j0 oa f0 (xs (nI (4 * k + 1)).toNatClampNeg) (xs (nI (4 * k + 2)).toNatClampNeg) hR) (vx_cwSW 4 hts gL_law_L_held rfl rfl rfl (by decide +kernel) ⟨Nat.le_of_ble_eq_true rfl, Nat.le_of_ble_eq_true rfl⟩) hK hP hD hS hA hX (fun _ => adr_ol) rfl hl.1 rfl (Nat.le_of_ble_eq_true rfl) ⟨hce, hsl⟩ dL_law_948 (fun r u H locs hp hP hD hS => ?_)
  obtain ⟨hr, hR1, hv⟩ := hp
  rw [hr]
  have hP : va_P D vwCl (([(oa, outE cL u.2)] ++ lmW cI cT x a o b t h ra (opHeld s0 (xs (nI (4 * k + 1)).toNatClampNeg) (xs (nI (4 * k + 2)).toNatClampNeg)).2.2 u.1) ++ rfW cI ad s0 r0) H := hP; have hD : va_D A (([(oa, outE cL u.2)] ++ lmW cI cT x a o b t h ra (opHeld s0 (xs (nI (4 * k + 1)).toNatClampNeg) (xs (nI (4 * k + 2)).toNatClampNeg)).2.2 u.1) ++ rfW cI ad s0 r0) := hD
  refine lv_istore (lv' := [(5, .int (nI (opHeld s0 (xs (nI (4 * k + 1)).toNatClampNeg) (xs (nI (4 * k + 2)).toNatClampNeg)).1)), (0, .ref sb), (1, .ref (x 0)), (2, .ref (ad 0)), (3, .ref oa), (4, .int (nI (4 * k)))]) hx hb dL_law_951 hl (by decide) rfl (fun ls hl => ?_)
  refine lv_aload_n hx hb dL_law_953 rfl (lv_at hl 3 rfl) ?_
  refine lv_aload_n hx hb dL_law_954 rfl (lv_at hl 1 rfl) ?_
  refine lv_iload hx hb dL_law_955 (lv_at hl 5 rfl) ?_
  refine lv_iconst (v := nI 1) hx hb dL_law_957 (by decide) ?_
  refine lv_iadd hx hb dL_law_958 ?_
  refine tpe (y := nI (4 * k + 1)) (nI_add _ _) ?_
  refine va_sld hx hb hX0 hbl hbA hS (vp_in_nI (by omega) (by omega)) dL_law_959 ?_
  refine lv_aload_n hx hb dL_law_960 rfl (lv_at hl 1 rfl) ?_
  refine lv_iload hx hb dL_law_961 (lv_at hl 5 rfl) ?_
  refine lv_iconst (v := nI 2) hx hb dL_law_963 (by decide) ?_
  refine lv_iadd hx hb dL_law_964 ?_
  refine tpe (y := nI (4 * k + 2)) (nI_add _ _) ?_
  refine va_sld hx hb hX0 hbl hbA hS (vp_in_nI (by omega) (by omega)) dL_law_965 ?_
  refine call_i (X := ([(oa, outE cL u.2)] ++ lmW cI cT x a o b t h ra (opHeld s0 (xs (nI (4 * k + 1)).toNatClampNeg) (xs (nI (4 * k + 2)).toNatClampNeg)).2.2 u.1)) (Wc := rfW cI ad s0 r0) (Z := []) (As := [.int (xs (nI (4 * k + 1)).toNatClampNeg), .int (xs (nI (4 * k + 2)).toNatClampNeg)]) (rest := []) ⟨hx, hb, hml, hown, hts⟩ (c_X5_held l D cI cT ad _ 0 0 _ _ _ _ _ _ _ _ _ _ _ s0.1 s0.2.1 s0.2.2.1 s0.2.2.2.1 s0.2.2.2.2 n (xs (nI (4 * k + 1)).toNatClampNeg) (xs (nI (4 * k + 2)).toNatClampNeg) hZ hn) (cwV 2 hts gL_law_X5_held rfl rfl rfl (by decide +kernel) ⟨Nat.le_of_ble_eq_true rfl, Nat.le_of_ble_eq_true rfl⟩) hK2 (P_nilE hP) (D_nilE hD) hS hA (va_recv hK2 (sub_mid (P_nilE hP)) (ci := 5) (q0 := 0) rfl rfl) (fun _ => adr_rf) rfl hl.1 rfl (Nat.le_of_ble_eq_true rfl) ⟨Nat.le_trans (by omega) hce, Nat.le_trans (by omega) hsl⟩ dL_law_966 (fun rv u2 H locs hp2 hP hD hS => ?_)
  have hP := P_nilF hP; have hD := D_nilF hD
  have hr2 : rv = (opHeld s0 (xs (nI (4 * k + 1)).toNatClampNeg) (xs (nI (4 * k + 2)).toNatClampNeg)).2.1 := hp2.1
  have hth : u2.1 = nI (opHeld s0 (xs (nI (4 * k + 1)).toNatClampNeg) (xs (nI (4 * k + 2)).toNatClampNeg)).1 := hp2.2.1
  have hZ1 : LZu (n + 80) (opHeld s0 (xs (nI (4 * k + 1)).toNatClampNeg) (xs (nI (4 * k + 2)).toNatClampNeg)).2.2 u2 := hp2.2.2
  rw [hr2]
  have hP : va_P D vwCl (([(oa, outE cL u.2)] ++ lmW cI cT x a o b t h ra (opHeld s0 (xs (nI (4 * k + 1)).toNatClampNeg) (xs (nI (4 * k + 2)).toNatClampNeg)).2.2 u.1) ++ rfW cI ad (opHeld s0 (xs (nI (4 * k + 1)).toNatClampNeg) (xs (nI (4 * k + 2)).toNatClampNeg)).2.2 u2) H := hP; have hD : va_D A (([(oa, outE cL u.2)] ++ lmW cI cT x a o b t h ra (opHeld s0 (xs (nI (4 * k + 1)).toNatClampNeg) (xs (nI (4 * k + 2)).toNatClampNeg)).2.2 u.1) ++ rfW cI ad (opHeld s0 (xs (nI (4 * k + 1)).toNatClampNeg) (xs (nI (4 * k + 2)).toNatClampNeg)).2.2 u2) := hD
  refine lv_istore (lv' := [(6, .int (opHeld s0 (xs (nI (4 * k + 1)).toNatClampNeg) (xs (nI (4 * k + 2)).toNatClampNeg)).2.1), (5, .int (nI (opHeld s0 (xs (nI (4 * k + 1)).toNatClampNeg) (xs (nI (4 * k + 2)).toNatClampNeg)).1)), (0, .ref sb), (1, .ref (x 0)), (2, .ref (ad 0)), (3, .ref oa), (4, .int (nI (4 * k)))]) hx hb dL_law_969 hl (by decide) rfl (fun ls hl => ?_)
  refine lv_aload_n hx hb dL_law_971 rfl (lv_at hl 4 rfl) ?_
  clear hr2 hp2
  refine call_i (X := ([(oa, outE cL u.2)] ++ lmW cI cT x a o b t h ra (opHeld s0 (xs (nI (4 * k + 1)).toNatClampNeg) (xs (nI (4 * k + 2)).toNatClampNeg)).2.2 u.1)) (Wc := rfW cI ad (opHeld s0 (xs (nI (4 * k + 1)).toNatClampNeg) (xs (nI (4 * k + 2)).toNatClampNeg)).2.2 u2) (Z := []) (As := []) (rest := []) ⟨hx, hb, hml, hown, hts⟩ (c_X5_thrown l D cI cT ad _ _ _ _ _ _ _ _ _ _ _ _ _ _) (cwV 0 hts gL_law_X5_thrown rfl rfl rfl (by decide +kernel) ⟨Nat.le_of_ble_eq_true rfl, Nat.le_of_ble_eq_true rfl⟩) hK2 (P_nilE hP) (D_nilE hD) hS hA (va_recv hK2 (sub_mid (P_nilE hP)) (ci := 5) (q0 := 0) rfl rfl) (fun _ => adr_rf) rfl hl.1 rfl (Nat.le_of_ble_eq_true rfl) ⟨Nat.le_trans (by omega) hce, Nat.le_trans (by omega) hsl⟩ dL_law_972 (fun rv2 u3 H locs hp3 hP hD hS => ?_)
  have hP := P_nilF hP; have hD := D_nilF hD
  have hr3 : rv2 = nI (opHeld s0 (xs (nI (4 * k + 1)).toNatClampNeg) (xs (nI (4 * k + 2)).toNatClampNeg)).1 := hp3.trans hth
  rw [hr3]
  have hP : va_P D vwCl (lwW cI cT cL x a o b t h ra ad oa (opHeld s0 (xs (nI (4 * k + 1)).toNatClampNeg) (xs (nI (4 * k + 2)).toNatClampNeg)).2.2 u.1 u2 u.2) H := hP; have hD : va_D A (lwW cI cT cL x a o b t h ra ad oa (opHeld s0 (xs (nI (4 * k + 1)).toNatClampNeg) (xs (nI (4 * k + 2)).toNatClampNeg)).2.2 u.1 u2 u.2) := hD
  refine lv_iload hx hb dL_law_975 (lv_at hl 1 rfl) ?_
  refine lv_icmp_eq (tgt := 982) hx hb dL_law_977 (by decide) (fun _ => ?_) (fun h => absurd rfl h)
  refine lv_iload hx hb dL_law_982 (lv_at hl 1 rfl) ?_
  refine lv_if_ne (tgt := 999) hx hb dL_law_984 (by decide) (fun h9 => ?_) (fun h9 => ?_)
  · refine lv_goto (tgt := 1575) hx hb dL_law_999 (by decide) ?_
    exact KO (opHeld s0 (xs (nI (4 * k + 1)).toNatClampNeg) (xs (nI (4 * k + 2)).toNatClampNeg)).2.2 u.1 u2 u.2 H locs hP hD hS hR1 hZ1 _ (lv_sub hl [2, 3, 4, 5, 6] rfl)
  · have h0 : (opHeld s0 (xs (nI (4 * k + 1)).toNatClampNeg) (xs (nI (4 * k + 2)).toNatClampNeg)).1 = 0 := (nI_eq (a := (opHeld s0 (xs (nI (4 * k + 1)).toNatClampNeg) (xs (nI (4 * k + 2)).toNatClampNeg)).1) (b := 0) (by omega) (by decide)).mp h9
    refine lv_aload_n hx hb dL_law_987 rfl (lv_at hl 5 rfl) ?_
    refine lv_iconst (v := nI 0) hx hb dL_law_988 (by decide) ?_
    refine va_lald hx hb hK hP 0 2 rfl rfl (vp_in_nI (by decide) (by decide)) dL_law_989 ?_
    rw [show (nI 0).toNatClampNeg = 0 by decide, hv h0]
    refine lv_iload hx hb dL_law_990 (lv_at hl 0 rfl) ?_
    refine lv_i2l (v := (opHeld s0 (xs (nI (4 * k + 1)).toNatClampNeg) (xs (nI (4 * k + 2)).toNatClampNeg)).2.1.toInt64) hx hb dL_law_992 rfl ?_
    refine W.lcmp hx hb dL_law_993 ?_
    rw [lgc]
    refine lv_if_eq (tgt := 999) hx hb dL_law_994 (by decide) (fun _ => ?_) (fun h => absurd rfl h)
    refine lv_goto (tgt := 1575) hx hb dL_law_999 (by decide) ?_
    exact KO (opHeld s0 (xs (nI (4 * k + 1)).toNatClampNeg) (xs (nI (4 * k + 2)).toNatClampNeg)).2.2 u.1 u2 u.2 H locs hP hD hS hR1 hZ1 _ (lv_sub hl [2, 3, 4, 5, 6] rfl)
set_option maxHeartbeats 1000000 in
set_option maxRecDepth 100000 in
theorem cs_awaited {p : Program} {l : Launch} {e : Env} {s : State} {m : MethodId} {below : List Frame} {meth : Method} {c : Code} {sb L : Nat} {xs : Nat → Int32} {D : va_G} {cI cT cL : ClassId} {A : Nat → Prop} {Q : State → Prop} (x a o b t h : Nat → Nat) (ra : Nat → Nat → Nat) (ad : Nat → Nat) (oa k cells slots n : Nat) (LB : LBx p l s m c sb L xs D cI cT cL A) (hkL : 4 * k + 4 ≤ L) (hL2 : L ≤ 2048) (hn : n + 80 < 2 ^ 31) (hce : cells + 4 ≤ 601024) (hsl : slots + 24 ≤ 7293034) (s0 : ST) (j0 : JT) (r0 : JR) (f0 : Nat → Int64) (H : Heap) (locs : List Loc) (hP : va_P D vwCl (lwW cI cT cL x a o b t h ra ad oa s0 j0 r0 f0) H) (hD : va_D A (lwW cI cT cL x a o b t h ra ad oa s0 j0 r0 f0)) (hS : va_S A s.heap H locs) (hR : LR s0 j0) (hZ : LZu n s0 r0) (ls : Array Slot) (hl : lv_has ls 7 (lwL sb (x 0) (ad 0) oa k)) (KO : LKo p l e s m below meth c sb D cI cT cL A Q x a o b t h ra ad oa k (cells + 4) (slots + 24) (n + 80)) : W p l e room_1 s m #[Value.ref sb] below meth c H locs cells slots Q (F0 m 1002 ls []) := by
  obtain ⟨hx, hb, hml, hown, hts, hK, hX0, hbl, hbA, hA, hX, hflag⟩ := LB
  have hK2 : va_K D vwCl (TY cI cT) s := hK.sub (tys' := TY cI cT) [0, 1] rfl
  have hro := ro_T (s := s0) (p0 := (xs (nI (4 * k + 1)).toNatClampNeg)) (f := (s0.1 3))
  have hro1 : (opT s0 (xs (nI (4 * k + 1)).toNatClampNeg) (s0.1 3)).1 ≤ 3 := Nat.le_trans hro.1 (by decide)
  refine lv_aload_n hx hb dL_law_1002 rfl (lv_at hl 1 rfl) ?_
  refine lv_aload_n hx hb dL_law_1003 rfl (lv_at hl 0 rfl) ?_
  refine lv_iload hx hb dL_law_1004 (lv_at hl 4 rfl) ?_
  refine lv_iconst (v := nI 1) hx hb dL_law_1006 (by decide) ?_
  refine lv_iadd hx hb dL_law_1007 ?_
  refine tpe (y := nI (4 * k + 1)) (nI_add _ _) ?_
  refine va_sld hx hb hX0 hbl hbA hS (vp_in_nI (by omega) (by omega)) dL_law_1008 ?_
  refine lv_aload_n hx hb dL_law_1009 rfl (lv_at hl 3 rfl) ?_
  refine call_cw (X := []) (Wc := ([(oa, outE cL f0)] ++ lmW cI cT x a o b t h ra s0 j0)) (Z := rfW cI ad s0 r0) (As := [.ref (x 0), .int (xs (nI (4 * k + 1)).toNatClampNeg), .ref oa]) (rest := []) ⟨hx, hb, hml, hown, hts⟩ (c_L_awaited l hflag D cI cT cL x a o b t h ra s0 j0 oa f0 (xs (nI (4 * k + 1)).toNatClampNeg) hR) (vx_cwSW 3 hts gL_law_L_awaited rfl rfl rfl (by decide +kernel) ⟨Nat.le_of_ble_eq_true rfl, Nat.le_of_ble_eq_true rfl⟩) hK hP hD hS hA hX (fun _ => adr_ol) rfl hl.1 rfl (Nat.le_of_ble_eq_true rfl) ⟨hce, hsl⟩ dL_law_1010 (fun r u H locs hp hP hD hS => ?_)
  obtain ⟨hr, hR1, hv⟩ := hp
  rw [hr]
  have hP : va_P D vwCl (([(oa, outE cL u.2)] ++ lmW cI cT x a o b t h ra (opT s0 (xs (nI (4 * k + 1)).toNatClampNeg) (s0.1 3)).2.2 u.1) ++ rfW cI ad s0 r0) H := hP; have hD : va_D A (([(oa, outE cL u.2)] ++ lmW cI cT x a o b t h ra (opT s0 (xs (nI (4 * k + 1)).toNatClampNeg) (s0.1 3)).2.2 u.1) ++ rfW cI ad s0 r0) := hD
  refine lv_istore (lv' := [(5, .int (nI (opT s0 (xs (nI (4 * k + 1)).toNatClampNeg) (s0.1 3)).1)), (0, .ref sb), (1, .ref (x 0)), (2, .ref (ad 0)), (3, .ref oa), (4, .int (nI (4 * k)))]) hx hb dL_law_1013 hl (by decide) rfl (fun ls hl => ?_)
  refine lv_aload_n hx hb dL_law_1015 rfl (lv_at hl 3 rfl) ?_
  refine lv_aload_n hx hb dL_law_1016 rfl (lv_at hl 1 rfl) ?_
  refine lv_iload hx hb dL_law_1017 (lv_at hl 5 rfl) ?_
  refine lv_iconst (v := nI 1) hx hb dL_law_1019 (by decide) ?_
  refine lv_iadd hx hb dL_law_1020 ?_
  refine tpe (y := nI (4 * k + 1)) (nI_add _ _) ?_
  refine va_sld hx hb hX0 hbl hbA hS (vp_in_nI (by omega) (by omega)) dL_law_1021 ?_
  refine call_i (X := ([(oa, outE cL u.2)] ++ lmW cI cT x a o b t h ra (opT s0 (xs (nI (4 * k + 1)).toNatClampNeg) (s0.1 3)).2.2 u.1)) (Wc := rfW cI ad s0 r0) (Z := []) (As := [.int (xs (nI (4 * k + 1)).toNatClampNeg)]) (rest := []) ⟨hx, hb, hml, hown, hts⟩ (c_X5_awaited l D cI cT ad _ 0 0 _ _ _ _ _ _ _ _ _ _ _ s0.1 s0.2.1 s0.2.2.1 s0.2.2.2.1 s0.2.2.2.2 n (xs (nI (4 * k + 1)).toNatClampNeg) hZ hn) (cwV 1 hts gL_law_X5_awaited rfl rfl rfl (by decide +kernel) ⟨Nat.le_of_ble_eq_true rfl, Nat.le_of_ble_eq_true rfl⟩) hK2 (P_nilE hP) (D_nilE hD) hS hA (va_recv hK2 (sub_mid (P_nilE hP)) (ci := 5) (q0 := 0) rfl rfl) (fun _ => adr_rf) rfl hl.1 rfl (Nat.le_of_ble_eq_true rfl) ⟨Nat.le_trans (by omega) hce, Nat.le_trans (by omega) hsl⟩ dL_law_1022 (fun rv u2 H locs hp2 hP hD hS => ?_)
  have hP := P_nilF hP; have hD := D_nilF hD
  have hr2 : rv = (opT s0 (xs (nI (4 * k + 1)).toNatClampNeg) (s0.1 3)).2.1 := hp2.1
  have hth : u2.1 = nI (opT s0 (xs (nI (4 * k + 1)).toNatClampNeg) (s0.1 3)).1 := hp2.2.1
  have hZ1 : LZu (n + 80) (opT s0 (xs (nI (4 * k + 1)).toNatClampNeg) (s0.1 3)).2.2 u2 := hp2.2.2
  rw [hr2]
  have hP : va_P D vwCl (([(oa, outE cL u.2)] ++ lmW cI cT x a o b t h ra (opT s0 (xs (nI (4 * k + 1)).toNatClampNeg) (s0.1 3)).2.2 u.1) ++ rfW cI ad (opT s0 (xs (nI (4 * k + 1)).toNatClampNeg) (s0.1 3)).2.2 u2) H := hP; have hD : va_D A (([(oa, outE cL u.2)] ++ lmW cI cT x a o b t h ra (opT s0 (xs (nI (4 * k + 1)).toNatClampNeg) (s0.1 3)).2.2 u.1) ++ rfW cI ad (opT s0 (xs (nI (4 * k + 1)).toNatClampNeg) (s0.1 3)).2.2 u2) := hD
  refine lv_istore (lv' := [(6, .int (opT s0 (xs (nI (4 * k + 1)).toNatClampNeg) (s0.1 3)).2.1), (5, .int (nI (opT s0 (xs (nI (4 * k + 1)).toNatClampNeg) (s0.1 3)).1)), (0, .ref sb), (1, .ref (x 0)), (2, .ref (ad 0)), (3, .ref oa), (4, .int (nI (4 * k)))]) hx hb dL_law_1025 hl (by decide) rfl (fun ls hl => ?_)
  refine lv_aload_n hx hb dL_law_1027 rfl (lv_at hl 4 rfl) ?_
  clear hr2 hp2
  refine call_i (X := ([(oa, outE cL u.2)] ++ lmW cI cT x a o b t h ra (opT s0 (xs (nI (4 * k + 1)).toNatClampNeg) (s0.1 3)).2.2 u.1)) (Wc := rfW cI ad (opT s0 (xs (nI (4 * k + 1)).toNatClampNeg) (s0.1 3)).2.2 u2) (Z := []) (As := []) (rest := []) ⟨hx, hb, hml, hown, hts⟩ (c_X5_thrown l D cI cT ad _ _ _ _ _ _ _ _ _ _ _ _ _ _) (cwV 0 hts gL_law_X5_thrown rfl rfl rfl (by decide +kernel) ⟨Nat.le_of_ble_eq_true rfl, Nat.le_of_ble_eq_true rfl⟩) hK2 (P_nilE hP) (D_nilE hD) hS hA (va_recv hK2 (sub_mid (P_nilE hP)) (ci := 5) (q0 := 0) rfl rfl) (fun _ => adr_rf) rfl hl.1 rfl (Nat.le_of_ble_eq_true rfl) ⟨Nat.le_trans (by omega) hce, Nat.le_trans (by omega) hsl⟩ dL_law_1028 (fun rv2 u3 H locs hp3 hP hD hS => ?_)
  have hP := P_nilF hP; have hD := D_nilF hD
  have hr3 : rv2 = nI (opT s0 (xs (nI (4 * k + 1)).toNatClampNeg) (s0.1 3)).1 := hp3.trans hth
  rw [hr3]
  have hP : va_P D vwCl (lwW cI cT cL x a o b t h ra ad oa (opT s0 (xs (nI (4 * k + 1)).toNatClampNeg) (s0.1 3)).2.2 u.1 u2 u.2) H := hP; have hD : va_D A (lwW cI cT cL x a o b t h ra ad oa (opT s0 (xs (nI (4 * k + 1)).toNatClampNeg) (s0.1 3)).2.2 u.1 u2 u.2) := hD
  refine lv_iload hx hb dL_law_1031 (lv_at hl 1 rfl) ?_
  refine lv_icmp_eq (tgt := 1038) hx hb dL_law_1033 (by decide) (fun _ => ?_) (fun h => absurd rfl h)
  refine lv_iload hx hb dL_law_1038 (lv_at hl 1 rfl) ?_
  refine lv_if_ne (tgt := 1055) hx hb dL_law_1040 (by decide) (fun h9 => ?_) (fun h9 => ?_)
  · refine lv_goto (tgt := 1575) hx hb dL_law_1055 (by decide) ?_
    exact KO (opT s0 (xs (nI (4 * k + 1)).toNatClampNeg) (s0.1 3)).2.2 u.1 u2 u.2 H locs hP hD hS hR1 hZ1 _ (lv_sub hl [2, 3, 4, 5, 6] rfl)
  · have h0 : (opT s0 (xs (nI (4 * k + 1)).toNatClampNeg) (s0.1 3)).1 = 0 := (nI_eq (a := (opT s0 (xs (nI (4 * k + 1)).toNatClampNeg) (s0.1 3)).1) (b := 0) (by omega) (by decide)).mp h9
    refine lv_aload_n hx hb dL_law_1043 rfl (lv_at hl 5 rfl) ?_
    refine lv_iconst (v := nI 0) hx hb dL_law_1044 (by decide) ?_
    refine va_lald hx hb hK hP 0 2 rfl rfl (vp_in_nI (by decide) (by decide)) dL_law_1045 ?_
    rw [show (nI 0).toNatClampNeg = 0 by decide, hv h0]
    refine lv_iload hx hb dL_law_1046 (lv_at hl 0 rfl) ?_
    refine lv_i2l (v := (opT s0 (xs (nI (4 * k + 1)).toNatClampNeg) (s0.1 3)).2.1.toInt64) hx hb dL_law_1048 rfl ?_
    refine W.lcmp hx hb dL_law_1049 ?_
    rw [lgc]
    refine lv_if_eq (tgt := 1055) hx hb dL_law_1050 (by decide) (fun _ => ?_) (fun h => absurd rfl h)
    refine lv_goto (tgt := 1575) hx hb dL_law_1055 (by decide) ?_
    exact KO (opT s0 (xs (nI (4 * k + 1)).toNatClampNeg) (s0.1 3)).2.2 u.1 u2 u.2 H locs hP hD hS hR1 hZ1 _ (lv_sub hl [2, 3, 4, 5, 6] rfl)
set_option maxHeartbeats 1000000 in
set_option maxRecDepth 100000 in
theorem cs_waitsFor {p : Program} {l : Launch} {e : Env} {s : State} {m : MethodId} {below : List Frame} {meth : Method} {c : Code} {sb L : Nat} {xs : Nat → Int32} {D : va_G} {cI cT cL : ClassId} {A : Nat → Prop} {Q : State → Prop} (x a o b t h : Nat → Nat) (ra : Nat → Nat → Nat) (ad : Nat → Nat) (oa k cells slots n : Nat) (LB : LBx p l s m c sb L xs D cI cT cL A) (hkL : 4 * k + 4 ≤ L) (hL2 : L ≤ 2048) (hn : n + 80 < 2 ^ 31) (hce : cells + 4 ≤ 601024) (hsl : slots + 24 ≤ 7293034) (s0 : ST) (j0 : JT) (r0 : JR) (f0 : Nat → Int64) (H : Heap) (locs : List Loc) (hP : va_P D vwCl (lwW cI cT cL x a o b t h ra ad oa s0 j0 r0 f0) H) (hD : va_D A (lwW cI cT cL x a o b t h ra ad oa s0 j0 r0 f0)) (hS : va_S A s.heap H locs) (hR : LR s0 j0) (hZ : LZu n s0 r0) (ls : Array Slot) (hl : lv_has ls 7 (lwL sb (x 0) (ad 0) oa k)) (KO : LKo p l e s m below meth c sb D cI cT cL A Q x a o b t h ra ad oa k (cells + 4) (slots + 24) (n + 80)) : W p l e room_1 s m #[Value.ref sb] below meth c H locs cells slots Q (F0 m 1058 ls []) := by
  obtain ⟨hx, hb, hml, hown, hts, hK, hX0, hbl, hbA, hA, hX, hflag⟩ := LB
  have hK2 : va_K D vwCl (TY cI cT) s := hK.sub (tys' := TY cI cT) [0, 1] rfl
  have hro := ro_T (s := s0) (p0 := (xs (nI (4 * k + 1)).toNatClampNeg)) (f := (fun u => nI (aWS s0.1 s0.2.1 u)))
  have hro1 : (opT s0 (xs (nI (4 * k + 1)).toNatClampNeg) (fun u => nI (aWS s0.1 s0.2.1 u))).1 ≤ 3 := Nat.le_trans hro.1 (by decide)
  refine lv_aload_n hx hb dL_law_1058 rfl (lv_at hl 1 rfl) ?_
  refine lv_aload_n hx hb dL_law_1059 rfl (lv_at hl 0 rfl) ?_
  refine lv_iload hx hb dL_law_1060 (lv_at hl 4 rfl) ?_
  refine lv_iconst (v := nI 1) hx hb dL_law_1062 (by decide) ?_
  refine lv_iadd hx hb dL_law_1063 ?_
  refine tpe (y := nI (4 * k + 1)) (nI_add _ _) ?_
  refine va_sld hx hb hX0 hbl hbA hS (vp_in_nI (by omega) (by omega)) dL_law_1064 ?_
  refine lv_aload_n hx hb dL_law_1065 rfl (lv_at hl 3 rfl) ?_
  refine call_cw (X := []) (Wc := ([(oa, outE cL f0)] ++ lmW cI cT x a o b t h ra s0 j0)) (Z := rfW cI ad s0 r0) (As := [.ref (x 0), .int (xs (nI (4 * k + 1)).toNatClampNeg), .ref oa]) (rest := []) ⟨hx, hb, hml, hown, hts⟩ (c_L_waitsFor l hflag D cI cT cL x a o b t h ra s0 j0 oa f0 (xs (nI (4 * k + 1)).toNatClampNeg) hR) (vx_cwSW 3 hts gL_law_L_waitsFor rfl rfl rfl (by decide +kernel) ⟨Nat.le_of_ble_eq_true rfl, Nat.le_of_ble_eq_true rfl⟩) hK hP hD hS hA hX (fun _ => adr_ol) rfl hl.1 rfl (Nat.le_of_ble_eq_true rfl) ⟨hce, hsl⟩ dL_law_1066 (fun r u H locs hp hP hD hS => ?_)
  obtain ⟨hr, hR1, hv⟩ := hp
  rw [hr]
  have hP : va_P D vwCl (([(oa, outE cL u.2)] ++ lmW cI cT x a o b t h ra (opT s0 (xs (nI (4 * k + 1)).toNatClampNeg) (fun u => nI (aWS s0.1 s0.2.1 u))).2.2 u.1) ++ rfW cI ad s0 r0) H := hP; have hD : va_D A (([(oa, outE cL u.2)] ++ lmW cI cT x a o b t h ra (opT s0 (xs (nI (4 * k + 1)).toNatClampNeg) (fun u => nI (aWS s0.1 s0.2.1 u))).2.2 u.1) ++ rfW cI ad s0 r0) := hD
  refine lv_istore (lv' := [(5, .int (nI (opT s0 (xs (nI (4 * k + 1)).toNatClampNeg) (fun u => nI (aWS s0.1 s0.2.1 u))).1)), (0, .ref sb), (1, .ref (x 0)), (2, .ref (ad 0)), (3, .ref oa), (4, .int (nI (4 * k)))]) hx hb dL_law_1069 hl (by decide) rfl (fun ls hl => ?_)
  refine lv_aload_n hx hb dL_law_1071 rfl (lv_at hl 3 rfl) ?_
  refine lv_aload_n hx hb dL_law_1072 rfl (lv_at hl 1 rfl) ?_
  refine lv_iload hx hb dL_law_1073 (lv_at hl 5 rfl) ?_
  refine lv_iconst (v := nI 1) hx hb dL_law_1075 (by decide) ?_
  refine lv_iadd hx hb dL_law_1076 ?_
  refine tpe (y := nI (4 * k + 1)) (nI_add _ _) ?_
  refine va_sld hx hb hX0 hbl hbA hS (vp_in_nI (by omega) (by omega)) dL_law_1077 ?_
  refine call_i (X := ([(oa, outE cL u.2)] ++ lmW cI cT x a o b t h ra (opT s0 (xs (nI (4 * k + 1)).toNatClampNeg) (fun u => nI (aWS s0.1 s0.2.1 u))).2.2 u.1)) (Wc := rfW cI ad s0 r0) (Z := []) (As := [.int (xs (nI (4 * k + 1)).toNatClampNeg)]) (rest := []) ⟨hx, hb, hml, hown, hts⟩ (c_X5_waitsFor l D cI cT ad _ 0 0 _ _ _ _ _ _ _ _ _ _ _ s0.1 s0.2.1 s0.2.2.1 s0.2.2.2.1 s0.2.2.2.2 n (xs (nI (4 * k + 1)).toNatClampNeg) hZ hn) (cwV 1 hts gL_law_X5_waitsFor rfl rfl rfl (by decide +kernel) ⟨Nat.le_of_ble_eq_true rfl, Nat.le_of_ble_eq_true rfl⟩) hK2 (P_nilE hP) (D_nilE hD) hS hA (va_recv hK2 (sub_mid (P_nilE hP)) (ci := 5) (q0 := 0) rfl rfl) (fun _ => adr_rf) rfl hl.1 rfl (Nat.le_of_ble_eq_true rfl) ⟨Nat.le_trans (by omega) hce, Nat.le_trans (by omega) hsl⟩ dL_law_1078 (fun rv u2 H locs hp2 hP hD hS => ?_)
  have hP := P_nilF hP; have hD := D_nilF hD
  have hr2 : rv = (opT s0 (xs (nI (4 * k + 1)).toNatClampNeg) (fun u => nI (aWS s0.1 s0.2.1 u))).2.1 := hp2.1
  have hth : u2.1 = nI (opT s0 (xs (nI (4 * k + 1)).toNatClampNeg) (fun u => nI (aWS s0.1 s0.2.1 u))).1 := hp2.2.1
  have hZ1 : LZu (n + 80) (opT s0 (xs (nI (4 * k + 1)).toNatClampNeg) (fun u => nI (aWS s0.1 s0.2.1 u))).2.2 u2 := hp2.2.2
  rw [hr2]
  have hP : va_P D vwCl (([(oa, outE cL u.2)] ++ lmW cI cT x a o b t h ra (opT s0 (xs (nI (4 * k + 1)).toNatClampNeg) (fun u => nI (aWS s0.1 s0.2.1 u))).2.2 u.1) ++ rfW cI ad (opT s0 (xs (nI (4 * k + 1)).toNatClampNeg) (fun u => nI (aWS s0.1 s0.2.1 u))).2.2 u2) H := hP; have hD : va_D A (([(oa, outE cL u.2)] ++ lmW cI cT x a o b t h ra (opT s0 (xs (nI (4 * k + 1)).toNatClampNeg) (fun u => nI (aWS s0.1 s0.2.1 u))).2.2 u.1) ++ rfW cI ad (opT s0 (xs (nI (4 * k + 1)).toNatClampNeg) (fun u => nI (aWS s0.1 s0.2.1 u))).2.2 u2) := hD
  refine lv_istore (lv' := [(6, .int (opT s0 (xs (nI (4 * k + 1)).toNatClampNeg) (fun u => nI (aWS s0.1 s0.2.1 u))).2.1), (5, .int (nI (opT s0 (xs (nI (4 * k + 1)).toNatClampNeg) (fun u => nI (aWS s0.1 s0.2.1 u))).1)), (0, .ref sb), (1, .ref (x 0)), (2, .ref (ad 0)), (3, .ref oa), (4, .int (nI (4 * k)))]) hx hb dL_law_1081 hl (by decide) rfl (fun ls hl => ?_)
  refine lv_aload_n hx hb dL_law_1083 rfl (lv_at hl 4 rfl) ?_
  clear hr2 hp2
  refine call_i (X := ([(oa, outE cL u.2)] ++ lmW cI cT x a o b t h ra (opT s0 (xs (nI (4 * k + 1)).toNatClampNeg) (fun u => nI (aWS s0.1 s0.2.1 u))).2.2 u.1)) (Wc := rfW cI ad (opT s0 (xs (nI (4 * k + 1)).toNatClampNeg) (fun u => nI (aWS s0.1 s0.2.1 u))).2.2 u2) (Z := []) (As := []) (rest := []) ⟨hx, hb, hml, hown, hts⟩ (c_X5_thrown l D cI cT ad _ _ _ _ _ _ _ _ _ _ _ _ _ _) (cwV 0 hts gL_law_X5_thrown rfl rfl rfl (by decide +kernel) ⟨Nat.le_of_ble_eq_true rfl, Nat.le_of_ble_eq_true rfl⟩) hK2 (P_nilE hP) (D_nilE hD) hS hA (va_recv hK2 (sub_mid (P_nilE hP)) (ci := 5) (q0 := 0) rfl rfl) (fun _ => adr_rf) rfl hl.1 rfl (Nat.le_of_ble_eq_true rfl) ⟨Nat.le_trans (by omega) hce, Nat.le_trans (by omega) hsl⟩ dL_law_1084 (fun rv2 u3 H locs hp3 hP hD hS => ?_)
  have hP := P_nilF hP; have hD := D_nilF hD
  have hr3 : rv2 = nI (opT s0 (xs (nI (4 * k + 1)).toNatClampNeg) (fun u => nI (aWS s0.1 s0.2.1 u))).1 := hp3.trans hth
  rw [hr3]
  have hP : va_P D vwCl (lwW cI cT cL x a o b t h ra ad oa (opT s0 (xs (nI (4 * k + 1)).toNatClampNeg) (fun u => nI (aWS s0.1 s0.2.1 u))).2.2 u.1 u2 u.2) H := hP; have hD : va_D A (lwW cI cT cL x a o b t h ra ad oa (opT s0 (xs (nI (4 * k + 1)).toNatClampNeg) (fun u => nI (aWS s0.1 s0.2.1 u))).2.2 u.1 u2 u.2) := hD
  refine lv_iload hx hb dL_law_1087 (lv_at hl 1 rfl) ?_
  refine lv_icmp_eq (tgt := 1094) hx hb dL_law_1089 (by decide) (fun _ => ?_) (fun h => absurd rfl h)
  refine lv_iload hx hb dL_law_1094 (lv_at hl 1 rfl) ?_
  refine lv_if_ne (tgt := 1111) hx hb dL_law_1096 (by decide) (fun h9 => ?_) (fun h9 => ?_)
  · refine lv_goto (tgt := 1575) hx hb dL_law_1111 (by decide) ?_
    exact KO (opT s0 (xs (nI (4 * k + 1)).toNatClampNeg) (fun u => nI (aWS s0.1 s0.2.1 u))).2.2 u.1 u2 u.2 H locs hP hD hS hR1 hZ1 _ (lv_sub hl [2, 3, 4, 5, 6] rfl)
  · have h0 : (opT s0 (xs (nI (4 * k + 1)).toNatClampNeg) (fun u => nI (aWS s0.1 s0.2.1 u))).1 = 0 := (nI_eq (a := (opT s0 (xs (nI (4 * k + 1)).toNatClampNeg) (fun u => nI (aWS s0.1 s0.2.1 u))).1) (b := 0) (by omega) (by decide)).mp h9
    refine lv_aload_n hx hb dL_law_1099 rfl (lv_at hl 5 rfl) ?_
    refine lv_iconst (v := nI 0) hx hb dL_law_1100 (by decide) ?_
    refine va_lald hx hb hK hP 0 2 rfl rfl (vp_in_nI (by decide) (by decide)) dL_law_1101 ?_
    rw [show (nI 0).toNatClampNeg = 0 by decide, hv h0]
    refine lv_iload hx hb dL_law_1102 (lv_at hl 0 rfl) ?_
    refine lv_i2l (v := (opT s0 (xs (nI (4 * k + 1)).toNatClampNeg) (fun u => nI (aWS s0.1 s0.2.1 u))).2.1.toInt64) hx hb dL_law_1104 rfl ?_
    refine W.lcmp hx hb dL_law_1105 ?_
    rw [lgc]
    refine lv_if_eq (tgt := 1111) hx hb dL_law_1106 (by decide) (fun _ => ?_) (fun h => absurd rfl h)
    refine lv_goto (tgt := 1575) hx hb dL_law_1111 (by decide) ?_
    exact KO (opT s0 (xs (nI (4 * k + 1)).toNatClampNeg) (fun u => nI (aWS s0.1 s0.2.1 u))).2.2 u.1 u2 u.2 H locs hP hD hS hR1 hZ1 _ (lv_sub hl [2, 3, 4, 5, 6] rfl)
set_option maxHeartbeats 1000000 in
set_option maxRecDepth 100000 in
theorem cs_blockers {p : Program} {l : Launch} {e : Env} {s : State} {m : MethodId} {below : List Frame} {meth : Method} {c : Code} {sb L : Nat} {xs : Nat → Int32} {D : va_G} {cI cT cL : ClassId} {A : Nat → Prop} {Q : State → Prop} (x a o b t h : Nat → Nat) (ra : Nat → Nat → Nat) (ad : Nat → Nat) (oa k cells slots n : Nat) (LB : LBx p l s m c sb L xs D cI cT cL A) (hkL : 4 * k + 4 ≤ L) (hL2 : L ≤ 2048) (hn : n + 80 < 2 ^ 31) (hce : cells + 4 ≤ 601024) (hsl : slots + 24 ≤ 7293034) (s0 : ST) (j0 : JT) (r0 : JR) (f0 : Nat → Int64) (H : Heap) (locs : List Loc) (hP : va_P D vwCl (lwW cI cT cL x a o b t h ra ad oa s0 j0 r0 f0) H) (hD : va_D A (lwW cI cT cL x a o b t h ra ad oa s0 j0 r0 f0)) (hS : va_S A s.heap H locs) (hR : LR s0 j0) (hZ : LZu n s0 r0) (ls : Array Slot) (hl : lv_has ls 7 (lwL sb (x 0) (ad 0) oa k)) (KO : LKo p l e s m below meth c sb D cI cT cL A Q x a o b t h ra ad oa k (cells + 4) (slots + 24) (n + 80)) : W p l e room_1 s m #[Value.ref sb] below meth c H locs cells slots Q (F0 m 1114 ls []) := by
  obtain ⟨hx, hb, hml, hown, hts, hK, hX0, hbl, hbA, hA, hX, hflag⟩ := LB
  have hK2 : va_K D vwCl (TY cI cT) s := hK.sub (tys' := TY cI cT) [0, 1] rfl
  have hro := ro_T (s := s0) (p0 := (xs (nI (4 * k + 1)).toNatClampNeg)) (f := (fun t => nI (pcN (bits (fun u => (clR s0.1 s0.2.1 (aWS s0.1 s0.2.1 t) 7).testBit u && decide (u ≠ t)) 8) 8)))
  have hro1 : (opT s0 (xs (nI (4 * k + 1)).toNatClampNeg) (fun t => nI (pcN (bits (fun u => (clR s0.1 s0.2.1 (aWS s0.1 s0.2.1 t) 7).testBit u && decide (u ≠ t)) 8) 8))).1 ≤ 3 := Nat.le_trans hro.1 (by decide)
  refine lv_aload_n hx hb dL_law_1114 rfl (lv_at hl 1 rfl) ?_
  refine lv_aload_n hx hb dL_law_1115 rfl (lv_at hl 0 rfl) ?_
  refine lv_iload hx hb dL_law_1116 (lv_at hl 4 rfl) ?_
  refine lv_iconst (v := nI 1) hx hb dL_law_1118 (by decide) ?_
  refine lv_iadd hx hb dL_law_1119 ?_
  refine tpe (y := nI (4 * k + 1)) (nI_add _ _) ?_
  refine va_sld hx hb hX0 hbl hbA hS (vp_in_nI (by omega) (by omega)) dL_law_1120 ?_
  refine lv_aload_n hx hb dL_law_1121 rfl (lv_at hl 3 rfl) ?_
  refine call_cw (X := []) (Wc := ([(oa, outE cL f0)] ++ lmW cI cT x a o b t h ra s0 j0)) (Z := rfW cI ad s0 r0) (As := [.ref (x 0), .int (xs (nI (4 * k + 1)).toNatClampNeg), .ref oa]) (rest := []) ⟨hx, hb, hml, hown, hts⟩ (c_L_blockers l hflag D cI cT cL x a o b t h ra s0 j0 oa f0 (xs (nI (4 * k + 1)).toNatClampNeg) hR) (vx_cwSW 3 hts gL_law_L_blockers rfl rfl rfl (by decide +kernel) ⟨Nat.le_of_ble_eq_true rfl, Nat.le_of_ble_eq_true rfl⟩) hK hP hD hS hA hX (fun _ => adr_ol) rfl hl.1 rfl (Nat.le_of_ble_eq_true rfl) ⟨hce, hsl⟩ dL_law_1122 (fun r u H locs hp hP hD hS => ?_)
  obtain ⟨hr, hR1, hv⟩ := hp
  rw [hr]
  have hP : va_P D vwCl (([(oa, outE cL u.2)] ++ lmW cI cT x a o b t h ra (opT s0 (xs (nI (4 * k + 1)).toNatClampNeg) (fun t => nI (pcN (bits (fun u => (clR s0.1 s0.2.1 (aWS s0.1 s0.2.1 t) 7).testBit u && decide (u ≠ t)) 8) 8))).2.2 u.1) ++ rfW cI ad s0 r0) H := hP; have hD : va_D A (([(oa, outE cL u.2)] ++ lmW cI cT x a o b t h ra (opT s0 (xs (nI (4 * k + 1)).toNatClampNeg) (fun t => nI (pcN (bits (fun u => (clR s0.1 s0.2.1 (aWS s0.1 s0.2.1 t) 7).testBit u && decide (u ≠ t)) 8) 8))).2.2 u.1) ++ rfW cI ad s0 r0) := hD
  refine lv_istore (lv' := [(5, .int (nI (opT s0 (xs (nI (4 * k + 1)).toNatClampNeg) (fun t => nI (pcN (bits (fun u => (clR s0.1 s0.2.1 (aWS s0.1 s0.2.1 t) 7).testBit u && decide (u ≠ t)) 8) 8))).1)), (0, .ref sb), (1, .ref (x 0)), (2, .ref (ad 0)), (3, .ref oa), (4, .int (nI (4 * k)))]) hx hb dL_law_1125 hl (by decide) rfl (fun ls hl => ?_)
  refine lv_aload_n hx hb dL_law_1127 rfl (lv_at hl 3 rfl) ?_
  refine lv_aload_n hx hb dL_law_1128 rfl (lv_at hl 1 rfl) ?_
  refine lv_iload hx hb dL_law_1129 (lv_at hl 5 rfl) ?_
  refine lv_iconst (v := nI 1) hx hb dL_law_1131 (by decide) ?_
  refine lv_iadd hx hb dL_law_1132 ?_
  refine tpe (y := nI (4 * k + 1)) (nI_add _ _) ?_
  refine va_sld hx hb hX0 hbl hbA hS (vp_in_nI (by omega) (by omega)) dL_law_1133 ?_
  refine call_i (X := ([(oa, outE cL u.2)] ++ lmW cI cT x a o b t h ra (opT s0 (xs (nI (4 * k + 1)).toNatClampNeg) (fun t => nI (pcN (bits (fun u => (clR s0.1 s0.2.1 (aWS s0.1 s0.2.1 t) 7).testBit u && decide (u ≠ t)) 8) 8))).2.2 u.1)) (Wc := rfW cI ad s0 r0) (Z := []) (As := [.int (xs (nI (4 * k + 1)).toNatClampNeg)]) (rest := []) ⟨hx, hb, hml, hown, hts⟩ (c_X5_blockers l D cI cT ad _ 0 0 _ _ _ _ _ _ _ _ _ _ _ s0.1 s0.2.1 s0.2.2.1 s0.2.2.2.1 s0.2.2.2.2 n (xs (nI (4 * k + 1)).toNatClampNeg) hZ hn) (cwV 1 hts gL_law_X5_blockers rfl rfl rfl (by decide +kernel) ⟨Nat.le_of_ble_eq_true rfl, Nat.le_of_ble_eq_true rfl⟩) hK2 (P_nilE hP) (D_nilE hD) hS hA (va_recv hK2 (sub_mid (P_nilE hP)) (ci := 5) (q0 := 0) rfl rfl) (fun _ => adr_rf) rfl hl.1 rfl (Nat.le_of_ble_eq_true rfl) ⟨Nat.le_trans (by omega) hce, Nat.le_trans (by omega) hsl⟩ dL_law_1134 (fun rv u2 H locs hp2 hP hD hS => ?_)
  have hP := P_nilF hP; have hD := D_nilF hD
  have hr2 : rv = (opT s0 (xs (nI (4 * k + 1)).toNatClampNeg) (fun t => nI (pcN (bits (fun u => (clR s0.1 s0.2.1 (aWS s0.1 s0.2.1 t) 7).testBit u && decide (u ≠ t)) 8) 8))).2.1 := hp2.1
  have hth : u2.1 = nI (opT s0 (xs (nI (4 * k + 1)).toNatClampNeg) (fun t => nI (pcN (bits (fun u => (clR s0.1 s0.2.1 (aWS s0.1 s0.2.1 t) 7).testBit u && decide (u ≠ t)) 8) 8))).1 := hp2.2.1
  have hZ1 : LZu (n + 80) (opT s0 (xs (nI (4 * k + 1)).toNatClampNeg) (fun t => nI (pcN (bits (fun u => (clR s0.1 s0.2.1 (aWS s0.1 s0.2.1 t) 7).testBit u && decide (u ≠ t)) 8) 8))).2.2 u2 := hp2.2.2
  rw [hr2]
  have hP : va_P D vwCl (([(oa, outE cL u.2)] ++ lmW cI cT x a o b t h ra (opT s0 (xs (nI (4 * k + 1)).toNatClampNeg) (fun t => nI (pcN (bits (fun u => (clR s0.1 s0.2.1 (aWS s0.1 s0.2.1 t) 7).testBit u && decide (u ≠ t)) 8) 8))).2.2 u.1) ++ rfW cI ad (opT s0 (xs (nI (4 * k + 1)).toNatClampNeg) (fun t => nI (pcN (bits (fun u => (clR s0.1 s0.2.1 (aWS s0.1 s0.2.1 t) 7).testBit u && decide (u ≠ t)) 8) 8))).2.2 u2) H := hP; have hD : va_D A (([(oa, outE cL u.2)] ++ lmW cI cT x a o b t h ra (opT s0 (xs (nI (4 * k + 1)).toNatClampNeg) (fun t => nI (pcN (bits (fun u => (clR s0.1 s0.2.1 (aWS s0.1 s0.2.1 t) 7).testBit u && decide (u ≠ t)) 8) 8))).2.2 u.1) ++ rfW cI ad (opT s0 (xs (nI (4 * k + 1)).toNatClampNeg) (fun t => nI (pcN (bits (fun u => (clR s0.1 s0.2.1 (aWS s0.1 s0.2.1 t) 7).testBit u && decide (u ≠ t)) 8) 8))).2.2 u2) := hD
  refine lv_istore (lv' := [(6, .int (opT s0 (xs (nI (4 * k + 1)).toNatClampNeg) (fun t => nI (pcN (bits (fun u => (clR s0.1 s0.2.1 (aWS s0.1 s0.2.1 t) 7).testBit u && decide (u ≠ t)) 8) 8))).2.1), (5, .int (nI (opT s0 (xs (nI (4 * k + 1)).toNatClampNeg) (fun t => nI (pcN (bits (fun u => (clR s0.1 s0.2.1 (aWS s0.1 s0.2.1 t) 7).testBit u && decide (u ≠ t)) 8) 8))).1)), (0, .ref sb), (1, .ref (x 0)), (2, .ref (ad 0)), (3, .ref oa), (4, .int (nI (4 * k)))]) hx hb dL_law_1137 hl (by decide) rfl (fun ls hl => ?_)
  refine lv_aload_n hx hb dL_law_1139 rfl (lv_at hl 4 rfl) ?_
  clear hr2 hp2
  refine call_i (X := ([(oa, outE cL u.2)] ++ lmW cI cT x a o b t h ra (opT s0 (xs (nI (4 * k + 1)).toNatClampNeg) (fun t => nI (pcN (bits (fun u => (clR s0.1 s0.2.1 (aWS s0.1 s0.2.1 t) 7).testBit u && decide (u ≠ t)) 8) 8))).2.2 u.1)) (Wc := rfW cI ad (opT s0 (xs (nI (4 * k + 1)).toNatClampNeg) (fun t => nI (pcN (bits (fun u => (clR s0.1 s0.2.1 (aWS s0.1 s0.2.1 t) 7).testBit u && decide (u ≠ t)) 8) 8))).2.2 u2) (Z := []) (As := []) (rest := []) ⟨hx, hb, hml, hown, hts⟩ (c_X5_thrown l D cI cT ad _ _ _ _ _ _ _ _ _ _ _ _ _ _) (cwV 0 hts gL_law_X5_thrown rfl rfl rfl (by decide +kernel) ⟨Nat.le_of_ble_eq_true rfl, Nat.le_of_ble_eq_true rfl⟩) hK2 (P_nilE hP) (D_nilE hD) hS hA (va_recv hK2 (sub_mid (P_nilE hP)) (ci := 5) (q0 := 0) rfl rfl) (fun _ => adr_rf) rfl hl.1 rfl (Nat.le_of_ble_eq_true rfl) ⟨Nat.le_trans (by omega) hce, Nat.le_trans (by omega) hsl⟩ dL_law_1140 (fun rv2 u3 H locs hp3 hP hD hS => ?_)
  have hP := P_nilF hP; have hD := D_nilF hD
  have hr3 : rv2 = nI (opT s0 (xs (nI (4 * k + 1)).toNatClampNeg) (fun t => nI (pcN (bits (fun u => (clR s0.1 s0.2.1 (aWS s0.1 s0.2.1 t) 7).testBit u && decide (u ≠ t)) 8) 8))).1 := hp3.trans hth
  rw [hr3]
  have hP : va_P D vwCl (lwW cI cT cL x a o b t h ra ad oa (opT s0 (xs (nI (4 * k + 1)).toNatClampNeg) (fun t => nI (pcN (bits (fun u => (clR s0.1 s0.2.1 (aWS s0.1 s0.2.1 t) 7).testBit u && decide (u ≠ t)) 8) 8))).2.2 u.1 u2 u.2) H := hP; have hD : va_D A (lwW cI cT cL x a o b t h ra ad oa (opT s0 (xs (nI (4 * k + 1)).toNatClampNeg) (fun t => nI (pcN (bits (fun u => (clR s0.1 s0.2.1 (aWS s0.1 s0.2.1 t) 7).testBit u && decide (u ≠ t)) 8) 8))).2.2 u.1 u2 u.2) := hD
  refine lv_iload hx hb dL_law_1143 (lv_at hl 1 rfl) ?_
  refine lv_icmp_eq (tgt := 1150) hx hb dL_law_1145 (by decide) (fun _ => ?_) (fun h => absurd rfl h)
  refine lv_iload hx hb dL_law_1150 (lv_at hl 1 rfl) ?_
  refine lv_if_ne (tgt := 1167) hx hb dL_law_1152 (by decide) (fun h9 => ?_) (fun h9 => ?_)
  · refine lv_goto (tgt := 1575) hx hb dL_law_1167 (by decide) ?_
    exact KO (opT s0 (xs (nI (4 * k + 1)).toNatClampNeg) (fun t => nI (pcN (bits (fun u => (clR s0.1 s0.2.1 (aWS s0.1 s0.2.1 t) 7).testBit u && decide (u ≠ t)) 8) 8))).2.2 u.1 u2 u.2 H locs hP hD hS hR1 hZ1 _ (lv_sub hl [2, 3, 4, 5, 6] rfl)
  · have h0 : (opT s0 (xs (nI (4 * k + 1)).toNatClampNeg) (fun t => nI (pcN (bits (fun u => (clR s0.1 s0.2.1 (aWS s0.1 s0.2.1 t) 7).testBit u && decide (u ≠ t)) 8) 8))).1 = 0 := (nI_eq (a := (opT s0 (xs (nI (4 * k + 1)).toNatClampNeg) (fun t => nI (pcN (bits (fun u => (clR s0.1 s0.2.1 (aWS s0.1 s0.2.1 t) 7).testBit u && decide (u ≠ t)) 8) 8))).1) (b := 0) (by omega) (by decide)).mp h9
    refine lv_aload_n hx hb dL_law_1155 rfl (lv_at hl 5 rfl) ?_
    refine lv_iconst (v := nI 0) hx hb dL_law_1156 (by decide) ?_
    refine va_lald hx hb hK hP 0 2 rfl rfl (vp_in_nI (by decide) (by decide)) dL_law_1157 ?_
    rw [show (nI 0).toNatClampNeg = 0 by decide, hv h0]
    refine lv_iload hx hb dL_law_1158 (lv_at hl 0 rfl) ?_
    refine lv_i2l (v := (opT s0 (xs (nI (4 * k + 1)).toNatClampNeg) (fun t => nI (pcN (bits (fun u => (clR s0.1 s0.2.1 (aWS s0.1 s0.2.1 t) 7).testBit u && decide (u ≠ t)) 8) 8))).2.1.toInt64) hx hb dL_law_1160 rfl ?_
    refine W.lcmp hx hb dL_law_1161 ?_
    rw [lgc]
    refine lv_if_eq (tgt := 1167) hx hb dL_law_1162 (by decide) (fun _ => ?_) (fun h => absurd rfl h)
    refine lv_goto (tgt := 1575) hx hb dL_law_1167 (by decide) ?_
    exact KO (opT s0 (xs (nI (4 * k + 1)).toNatClampNeg) (fun t => nI (pcN (bits (fun u => (clR s0.1 s0.2.1 (aWS s0.1 s0.2.1 t) 7).testBit u && decide (u ≠ t)) 8) 8))).2.2 u.1 u2 u.2 H locs hP hD hS hR1 hZ1 _ (lv_sub hl [2, 3, 4, 5, 6] rfl)
set_option maxHeartbeats 1000000 in
set_option maxRecDepth 100000 in
theorem cs_holders {p : Program} {l : Launch} {e : Env} {s : State} {m : MethodId} {below : List Frame} {meth : Method} {c : Code} {sb L : Nat} {xs : Nat → Int32} {D : va_G} {cI cT cL : ClassId} {A : Nat → Prop} {Q : State → Prop} (x a o b t h : Nat → Nat) (ra : Nat → Nat → Nat) (ad : Nat → Nat) (oa k cells slots n : Nat) (LB : LBx p l s m c sb L xs D cI cT cL A) (hkL : 4 * k + 4 ≤ L) (hL2 : L ≤ 2048) (hn : n + 80 < 2 ^ 31) (hce : cells + 4 ≤ 601024) (hsl : slots + 24 ≤ 7293034) (s0 : ST) (j0 : JT) (r0 : JR) (f0 : Nat → Int64) (H : Heap) (locs : List Loc) (hP : va_P D vwCl (lwW cI cT cL x a o b t h ra ad oa s0 j0 r0 f0) H) (hD : va_D A (lwW cI cT cL x a o b t h ra ad oa s0 j0 r0 f0)) (hS : va_S A s.heap H locs) (hR : LR s0 j0) (hZ : LZu n s0 r0) (ls : Array Slot) (hl : lv_has ls 7 (lwL sb (x 0) (ad 0) oa k)) (KO : LKo p l e s m below meth c sb D cI cT cL A Q x a o b t h ra ad oa k (cells + 4) (slots + 24) (n + 80)) : W p l e room_1 s m #[Value.ref sb] below meth c H locs cells slots Q (F0 m 1170 ls []) := by
  obtain ⟨hx, hb, hml, hown, hts, hK, hX0, hbl, hbA, hA, hX, hflag⟩ := LB
  have hK2 : va_K D vwCl (TY cI cT) s := hK.sub (tys' := TY cI cT) [0, 1] rfl
  have hro := ro_R (s := s0) (p0 := (xs (nI (4 * k + 1)).toNatClampNeg)) (f := (fun r => nI (bits (hldB s0.1 r) 8)))
  have hro1 : (opR s0 (xs (nI (4 * k + 1)).toNatClampNeg) (fun r => nI (bits (hldB s0.1 r) 8))).1 ≤ 3 := Nat.le_trans hro.1 (by decide)
  refine lv_aload_n hx hb dL_law_1170 rfl (lv_at hl 1 rfl) ?_
  refine lv_aload_n hx hb dL_law_1171 rfl (lv_at hl 0 rfl) ?_
  refine lv_iload hx hb dL_law_1172 (lv_at hl 4 rfl) ?_
  refine lv_iconst (v := nI 1) hx hb dL_law_1174 (by decide) ?_
  refine lv_iadd hx hb dL_law_1175 ?_
  refine tpe (y := nI (4 * k + 1)) (nI_add _ _) ?_
  refine va_sld hx hb hX0 hbl hbA hS (vp_in_nI (by omega) (by omega)) dL_law_1176 ?_
  refine lv_aload_n hx hb dL_law_1177 rfl (lv_at hl 3 rfl) ?_
  refine call_cw (X := []) (Wc := ([(oa, outE cL f0)] ++ lmW cI cT x a o b t h ra s0 j0)) (Z := rfW cI ad s0 r0) (As := [.ref (x 0), .int (xs (nI (4 * k + 1)).toNatClampNeg), .ref oa]) (rest := []) ⟨hx, hb, hml, hown, hts⟩ (c_L_holders l hflag D cI cT cL x a o b t h ra s0 j0 oa f0 (xs (nI (4 * k + 1)).toNatClampNeg) hR) (vx_cwSW 3 hts gL_law_L_holders rfl rfl rfl (by decide +kernel) ⟨Nat.le_of_ble_eq_true rfl, Nat.le_of_ble_eq_true rfl⟩) hK hP hD hS hA hX (fun _ => adr_ol) rfl hl.1 rfl (Nat.le_of_ble_eq_true rfl) ⟨hce, hsl⟩ dL_law_1178 (fun r u H locs hp hP hD hS => ?_)
  obtain ⟨hr, hR1, hv⟩ := hp
  rw [hr]
  have hP : va_P D vwCl (([(oa, outE cL u.2)] ++ lmW cI cT x a o b t h ra (opR s0 (xs (nI (4 * k + 1)).toNatClampNeg) (fun r => nI (bits (hldB s0.1 r) 8))).2.2 u.1) ++ rfW cI ad s0 r0) H := hP; have hD : va_D A (([(oa, outE cL u.2)] ++ lmW cI cT x a o b t h ra (opR s0 (xs (nI (4 * k + 1)).toNatClampNeg) (fun r => nI (bits (hldB s0.1 r) 8))).2.2 u.1) ++ rfW cI ad s0 r0) := hD
  refine lv_istore (lv' := [(5, .int (nI (opR s0 (xs (nI (4 * k + 1)).toNatClampNeg) (fun r => nI (bits (hldB s0.1 r) 8))).1)), (0, .ref sb), (1, .ref (x 0)), (2, .ref (ad 0)), (3, .ref oa), (4, .int (nI (4 * k)))]) hx hb dL_law_1181 hl (by decide) rfl (fun ls hl => ?_)
  refine lv_aload_n hx hb dL_law_1183 rfl (lv_at hl 3 rfl) ?_
  refine lv_aload_n hx hb dL_law_1184 rfl (lv_at hl 1 rfl) ?_
  refine lv_iload hx hb dL_law_1185 (lv_at hl 5 rfl) ?_
  refine lv_iconst (v := nI 1) hx hb dL_law_1187 (by decide) ?_
  refine lv_iadd hx hb dL_law_1188 ?_
  refine tpe (y := nI (4 * k + 1)) (nI_add _ _) ?_
  refine va_sld hx hb hX0 hbl hbA hS (vp_in_nI (by omega) (by omega)) dL_law_1189 ?_
  refine call_i (X := ([(oa, outE cL u.2)] ++ lmW cI cT x a o b t h ra (opR s0 (xs (nI (4 * k + 1)).toNatClampNeg) (fun r => nI (bits (hldB s0.1 r) 8))).2.2 u.1)) (Wc := rfW cI ad s0 r0) (Z := []) (As := [.int (xs (nI (4 * k + 1)).toNatClampNeg)]) (rest := []) ⟨hx, hb, hml, hown, hts⟩ (c_X5_holders l D cI cT ad _ 0 0 _ _ _ _ _ _ _ _ _ _ _ s0.1 s0.2.1 s0.2.2.1 s0.2.2.2.1 s0.2.2.2.2 n (xs (nI (4 * k + 1)).toNatClampNeg) hZ hn) (cwV 1 hts gL_law_X5_holders rfl rfl rfl (by decide +kernel) ⟨Nat.le_of_ble_eq_true rfl, Nat.le_of_ble_eq_true rfl⟩) hK2 (P_nilE hP) (D_nilE hD) hS hA (va_recv hK2 (sub_mid (P_nilE hP)) (ci := 5) (q0 := 0) rfl rfl) (fun _ => adr_rf) rfl hl.1 rfl (Nat.le_of_ble_eq_true rfl) ⟨Nat.le_trans (by omega) hce, Nat.le_trans (by omega) hsl⟩ dL_law_1190 (fun rv u2 H locs hp2 hP hD hS => ?_)
  have hP := P_nilF hP; have hD := D_nilF hD
  have hr2 : rv = (opR s0 (xs (nI (4 * k + 1)).toNatClampNeg) (fun r => nI (bits (hldB s0.1 r) 8))).2.1 := hp2.1
  have hth : u2.1 = nI (opR s0 (xs (nI (4 * k + 1)).toNatClampNeg) (fun r => nI (bits (hldB s0.1 r) 8))).1 := hp2.2.1
  have hZ1 : LZu (n + 80) (opR s0 (xs (nI (4 * k + 1)).toNatClampNeg) (fun r => nI (bits (hldB s0.1 r) 8))).2.2 u2 := hp2.2.2
  rw [hr2]
  have hP : va_P D vwCl (([(oa, outE cL u.2)] ++ lmW cI cT x a o b t h ra (opR s0 (xs (nI (4 * k + 1)).toNatClampNeg) (fun r => nI (bits (hldB s0.1 r) 8))).2.2 u.1) ++ rfW cI ad (opR s0 (xs (nI (4 * k + 1)).toNatClampNeg) (fun r => nI (bits (hldB s0.1 r) 8))).2.2 u2) H := hP; have hD : va_D A (([(oa, outE cL u.2)] ++ lmW cI cT x a o b t h ra (opR s0 (xs (nI (4 * k + 1)).toNatClampNeg) (fun r => nI (bits (hldB s0.1 r) 8))).2.2 u.1) ++ rfW cI ad (opR s0 (xs (nI (4 * k + 1)).toNatClampNeg) (fun r => nI (bits (hldB s0.1 r) 8))).2.2 u2) := hD
  refine lv_istore (lv' := [(6, .int (opR s0 (xs (nI (4 * k + 1)).toNatClampNeg) (fun r => nI (bits (hldB s0.1 r) 8))).2.1), (5, .int (nI (opR s0 (xs (nI (4 * k + 1)).toNatClampNeg) (fun r => nI (bits (hldB s0.1 r) 8))).1)), (0, .ref sb), (1, .ref (x 0)), (2, .ref (ad 0)), (3, .ref oa), (4, .int (nI (4 * k)))]) hx hb dL_law_1193 hl (by decide) rfl (fun ls hl => ?_)
  refine lv_aload_n hx hb dL_law_1195 rfl (lv_at hl 4 rfl) ?_
  clear hr2 hp2
  refine call_i (X := ([(oa, outE cL u.2)] ++ lmW cI cT x a o b t h ra (opR s0 (xs (nI (4 * k + 1)).toNatClampNeg) (fun r => nI (bits (hldB s0.1 r) 8))).2.2 u.1)) (Wc := rfW cI ad (opR s0 (xs (nI (4 * k + 1)).toNatClampNeg) (fun r => nI (bits (hldB s0.1 r) 8))).2.2 u2) (Z := []) (As := []) (rest := []) ⟨hx, hb, hml, hown, hts⟩ (c_X5_thrown l D cI cT ad _ _ _ _ _ _ _ _ _ _ _ _ _ _) (cwV 0 hts gL_law_X5_thrown rfl rfl rfl (by decide +kernel) ⟨Nat.le_of_ble_eq_true rfl, Nat.le_of_ble_eq_true rfl⟩) hK2 (P_nilE hP) (D_nilE hD) hS hA (va_recv hK2 (sub_mid (P_nilE hP)) (ci := 5) (q0 := 0) rfl rfl) (fun _ => adr_rf) rfl hl.1 rfl (Nat.le_of_ble_eq_true rfl) ⟨Nat.le_trans (by omega) hce, Nat.le_trans (by omega) hsl⟩ dL_law_1196 (fun rv2 u3 H locs hp3 hP hD hS => ?_)
  have hP := P_nilF hP; have hD := D_nilF hD
  have hr3 : rv2 = nI (opR s0 (xs (nI (4 * k + 1)).toNatClampNeg) (fun r => nI (bits (hldB s0.1 r) 8))).1 := hp3.trans hth
  rw [hr3]
  have hP : va_P D vwCl (lwW cI cT cL x a o b t h ra ad oa (opR s0 (xs (nI (4 * k + 1)).toNatClampNeg) (fun r => nI (bits (hldB s0.1 r) 8))).2.2 u.1 u2 u.2) H := hP; have hD : va_D A (lwW cI cT cL x a o b t h ra ad oa (opR s0 (xs (nI (4 * k + 1)).toNatClampNeg) (fun r => nI (bits (hldB s0.1 r) 8))).2.2 u.1 u2 u.2) := hD
  refine lv_iload hx hb dL_law_1199 (lv_at hl 1 rfl) ?_
  refine lv_icmp_eq (tgt := 1206) hx hb dL_law_1201 (by decide) (fun _ => ?_) (fun h => absurd rfl h)
  refine lv_iload hx hb dL_law_1206 (lv_at hl 1 rfl) ?_
  refine lv_if_ne (tgt := 1223) hx hb dL_law_1208 (by decide) (fun h9 => ?_) (fun h9 => ?_)
  · refine lv_goto (tgt := 1575) hx hb dL_law_1223 (by decide) ?_
    exact KO (opR s0 (xs (nI (4 * k + 1)).toNatClampNeg) (fun r => nI (bits (hldB s0.1 r) 8))).2.2 u.1 u2 u.2 H locs hP hD hS hR1 hZ1 _ (lv_sub hl [2, 3, 4, 5, 6] rfl)
  · have h0 : (opR s0 (xs (nI (4 * k + 1)).toNatClampNeg) (fun r => nI (bits (hldB s0.1 r) 8))).1 = 0 := (nI_eq (a := (opR s0 (xs (nI (4 * k + 1)).toNatClampNeg) (fun r => nI (bits (hldB s0.1 r) 8))).1) (b := 0) (by omega) (by decide)).mp h9
    refine lv_aload_n hx hb dL_law_1211 rfl (lv_at hl 5 rfl) ?_
    refine lv_iconst (v := nI 0) hx hb dL_law_1212 (by decide) ?_
    refine va_lald hx hb hK hP 0 2 rfl rfl (vp_in_nI (by decide) (by decide)) dL_law_1213 ?_
    rw [show (nI 0).toNatClampNeg = 0 by decide, hv h0]
    refine lv_iload hx hb dL_law_1214 (lv_at hl 0 rfl) ?_
    refine lv_i2l (v := (opR s0 (xs (nI (4 * k + 1)).toNatClampNeg) (fun r => nI (bits (hldB s0.1 r) 8))).2.1.toInt64) hx hb dL_law_1216 rfl ?_
    refine W.lcmp hx hb dL_law_1217 ?_
    rw [lgc]
    refine lv_if_eq (tgt := 1223) hx hb dL_law_1218 (by decide) (fun _ => ?_) (fun h => absurd rfl h)
    refine lv_goto (tgt := 1575) hx hb dL_law_1223 (by decide) ?_
    exact KO (opR s0 (xs (nI (4 * k + 1)).toNatClampNeg) (fun r => nI (bits (hldB s0.1 r) 8))).2.2 u.1 u2 u.2 H locs hP hD hS hR1 hZ1 _ (lv_sub hl [2, 3, 4, 5, 6] rfl)
set_option maxHeartbeats 1000000 in
set_option maxRecDepth 100000 in
theorem cs_queueLength {p : Program} {l : Launch} {e : Env} {s : State} {m : MethodId} {below : List Frame} {meth : Method} {c : Code} {sb L : Nat} {xs : Nat → Int32} {D : va_G} {cI cT cL : ClassId} {A : Nat → Prop} {Q : State → Prop} (x a o b t h : Nat → Nat) (ra : Nat → Nat → Nat) (ad : Nat → Nat) (oa k cells slots n : Nat) (LB : LBx p l s m c sb L xs D cI cT cL A) (hkL : 4 * k + 4 ≤ L) (hL2 : L ≤ 2048) (hn : n + 80 < 2 ^ 31) (hce : cells + 4 ≤ 601024) (hsl : slots + 24 ≤ 7293034) (s0 : ST) (j0 : JT) (r0 : JR) (f0 : Nat → Int64) (H : Heap) (locs : List Loc) (hP : va_P D vwCl (lwW cI cT cL x a o b t h ra ad oa s0 j0 r0 f0) H) (hD : va_D A (lwW cI cT cL x a o b t h ra ad oa s0 j0 r0 f0)) (hS : va_S A s.heap H locs) (hR : LR s0 j0) (hZ : LZu n s0 r0) (ls : Array Slot) (hl : lv_has ls 7 (lwL sb (x 0) (ad 0) oa k)) (KO : LKo p l e s m below meth c sb D cI cT cL A Q x a o b t h ra ad oa k (cells + 4) (slots + 24) (n + 80)) : W p l e room_1 s m #[Value.ref sb] below meth c H locs cells slots Q (F0 m 1226 ls []) := by
  obtain ⟨hx, hb, hml, hown, hts, hK, hX0, hbl, hbA, hA, hX, hflag⟩ := LB
  have hK2 : va_K D vwCl (TY cI cT) s := hK.sub (tys' := TY cI cT) [0, 1] rfl
  have hro := ro_R (s := s0) (p0 := (xs (nI (4 * k + 1)).toNatClampNeg)) (f := (fun r => nI (qlen s0.2.1 r)))
  have hro1 : (opR s0 (xs (nI (4 * k + 1)).toNatClampNeg) (fun r => nI (qlen s0.2.1 r))).1 ≤ 3 := Nat.le_trans hro.1 (by decide)
  refine lv_aload_n hx hb dL_law_1226 rfl (lv_at hl 1 rfl) ?_
  refine lv_aload_n hx hb dL_law_1227 rfl (lv_at hl 0 rfl) ?_
  refine lv_iload hx hb dL_law_1228 (lv_at hl 4 rfl) ?_
  refine lv_iconst (v := nI 1) hx hb dL_law_1230 (by decide) ?_
  refine lv_iadd hx hb dL_law_1231 ?_
  refine tpe (y := nI (4 * k + 1)) (nI_add _ _) ?_
  refine va_sld hx hb hX0 hbl hbA hS (vp_in_nI (by omega) (by omega)) dL_law_1232 ?_
  refine lv_aload_n hx hb dL_law_1233 rfl (lv_at hl 3 rfl) ?_
  refine call_cw (X := []) (Wc := ([(oa, outE cL f0)] ++ lmW cI cT x a o b t h ra s0 j0)) (Z := rfW cI ad s0 r0) (As := [.ref (x 0), .int (xs (nI (4 * k + 1)).toNatClampNeg), .ref oa]) (rest := []) ⟨hx, hb, hml, hown, hts⟩ (c_L_queueLength l hflag D cI cT cL x a o b t h ra s0 j0 oa f0 (xs (nI (4 * k + 1)).toNatClampNeg) hR) (vx_cwSW 3 hts gL_law_L_queueLength rfl rfl rfl (by decide +kernel) ⟨Nat.le_of_ble_eq_true rfl, Nat.le_of_ble_eq_true rfl⟩) hK hP hD hS hA hX (fun _ => adr_ol) rfl hl.1 rfl (Nat.le_of_ble_eq_true rfl) ⟨hce, hsl⟩ dL_law_1234 (fun r u H locs hp hP hD hS => ?_)
  obtain ⟨hr, hR1, hv⟩ := hp
  rw [hr]
  have hP : va_P D vwCl (([(oa, outE cL u.2)] ++ lmW cI cT x a o b t h ra (opR s0 (xs (nI (4 * k + 1)).toNatClampNeg) (fun r => nI (qlen s0.2.1 r))).2.2 u.1) ++ rfW cI ad s0 r0) H := hP; have hD : va_D A (([(oa, outE cL u.2)] ++ lmW cI cT x a o b t h ra (opR s0 (xs (nI (4 * k + 1)).toNatClampNeg) (fun r => nI (qlen s0.2.1 r))).2.2 u.1) ++ rfW cI ad s0 r0) := hD
  refine lv_istore (lv' := [(5, .int (nI (opR s0 (xs (nI (4 * k + 1)).toNatClampNeg) (fun r => nI (qlen s0.2.1 r))).1)), (0, .ref sb), (1, .ref (x 0)), (2, .ref (ad 0)), (3, .ref oa), (4, .int (nI (4 * k)))]) hx hb dL_law_1237 hl (by decide) rfl (fun ls hl => ?_)
  refine lv_aload_n hx hb dL_law_1239 rfl (lv_at hl 3 rfl) ?_
  refine lv_aload_n hx hb dL_law_1240 rfl (lv_at hl 1 rfl) ?_
  refine lv_iload hx hb dL_law_1241 (lv_at hl 5 rfl) ?_
  refine lv_iconst (v := nI 1) hx hb dL_law_1243 (by decide) ?_
  refine lv_iadd hx hb dL_law_1244 ?_
  refine tpe (y := nI (4 * k + 1)) (nI_add _ _) ?_
  refine va_sld hx hb hX0 hbl hbA hS (vp_in_nI (by omega) (by omega)) dL_law_1245 ?_
  refine call_i (X := ([(oa, outE cL u.2)] ++ lmW cI cT x a o b t h ra (opR s0 (xs (nI (4 * k + 1)).toNatClampNeg) (fun r => nI (qlen s0.2.1 r))).2.2 u.1)) (Wc := rfW cI ad s0 r0) (Z := []) (As := [.int (xs (nI (4 * k + 1)).toNatClampNeg)]) (rest := []) ⟨hx, hb, hml, hown, hts⟩ (c_X5_queueLength l D cI cT ad _ 0 0 _ _ _ _ _ _ _ _ _ _ _ s0.1 s0.2.1 s0.2.2.1 s0.2.2.2.1 s0.2.2.2.2 n (xs (nI (4 * k + 1)).toNatClampNeg) hZ hn) (cwV 1 hts gL_law_X5_queueLength rfl rfl rfl (by decide +kernel) ⟨Nat.le_of_ble_eq_true rfl, Nat.le_of_ble_eq_true rfl⟩) hK2 (P_nilE hP) (D_nilE hD) hS hA (va_recv hK2 (sub_mid (P_nilE hP)) (ci := 5) (q0 := 0) rfl rfl) (fun _ => adr_rf) rfl hl.1 rfl (Nat.le_of_ble_eq_true rfl) ⟨Nat.le_trans (by omega) hce, Nat.le_trans (by omega) hsl⟩ dL_law_1246 (fun rv u2 H locs hp2 hP hD hS => ?_)
  have hP := P_nilF hP; have hD := D_nilF hD
  have hr2 : rv = (opR s0 (xs (nI (4 * k + 1)).toNatClampNeg) (fun r => nI (qlen s0.2.1 r))).2.1 := hp2.1
  have hth : u2.1 = nI (opR s0 (xs (nI (4 * k + 1)).toNatClampNeg) (fun r => nI (qlen s0.2.1 r))).1 := hp2.2.1
  have hZ1 : LZu (n + 80) (opR s0 (xs (nI (4 * k + 1)).toNatClampNeg) (fun r => nI (qlen s0.2.1 r))).2.2 u2 := hp2.2.2
  rw [hr2]
  have hP : va_P D vwCl (([(oa, outE cL u.2)] ++ lmW cI cT x a o b t h ra (opR s0 (xs (nI (4 * k + 1)).toNatClampNeg) (fun r => nI (qlen s0.2.1 r))).2.2 u.1) ++ rfW cI ad (opR s0 (xs (nI (4 * k + 1)).toNatClampNeg) (fun r => nI (qlen s0.2.1 r))).2.2 u2) H := hP; have hD : va_D A (([(oa, outE cL u.2)] ++ lmW cI cT x a o b t h ra (opR s0 (xs (nI (4 * k + 1)).toNatClampNeg) (fun r => nI (qlen s0.2.1 r))).2.2 u.1) ++ rfW cI ad (opR s0 (xs (nI (4 * k + 1)).toNatClampNeg) (fun r => nI (qlen s0.2.1 r))).2.2 u2) := hD
  refine lv_istore (lv' := [(6, .int (opR s0 (xs (nI (4 * k + 1)).toNatClampNeg) (fun r => nI (qlen s0.2.1 r))).2.1), (5, .int (nI (opR s0 (xs (nI (4 * k + 1)).toNatClampNeg) (fun r => nI (qlen s0.2.1 r))).1)), (0, .ref sb), (1, .ref (x 0)), (2, .ref (ad 0)), (3, .ref oa), (4, .int (nI (4 * k)))]) hx hb dL_law_1249 hl (by decide) rfl (fun ls hl => ?_)
  refine lv_aload_n hx hb dL_law_1251 rfl (lv_at hl 4 rfl) ?_
  clear hr2 hp2
  refine call_i (X := ([(oa, outE cL u.2)] ++ lmW cI cT x a o b t h ra (opR s0 (xs (nI (4 * k + 1)).toNatClampNeg) (fun r => nI (qlen s0.2.1 r))).2.2 u.1)) (Wc := rfW cI ad (opR s0 (xs (nI (4 * k + 1)).toNatClampNeg) (fun r => nI (qlen s0.2.1 r))).2.2 u2) (Z := []) (As := []) (rest := []) ⟨hx, hb, hml, hown, hts⟩ (c_X5_thrown l D cI cT ad _ _ _ _ _ _ _ _ _ _ _ _ _ _) (cwV 0 hts gL_law_X5_thrown rfl rfl rfl (by decide +kernel) ⟨Nat.le_of_ble_eq_true rfl, Nat.le_of_ble_eq_true rfl⟩) hK2 (P_nilE hP) (D_nilE hD) hS hA (va_recv hK2 (sub_mid (P_nilE hP)) (ci := 5) (q0 := 0) rfl rfl) (fun _ => adr_rf) rfl hl.1 rfl (Nat.le_of_ble_eq_true rfl) ⟨Nat.le_trans (by omega) hce, Nat.le_trans (by omega) hsl⟩ dL_law_1252 (fun rv2 u3 H locs hp3 hP hD hS => ?_)
  have hP := P_nilF hP; have hD := D_nilF hD
  have hr3 : rv2 = nI (opR s0 (xs (nI (4 * k + 1)).toNatClampNeg) (fun r => nI (qlen s0.2.1 r))).1 := hp3.trans hth
  rw [hr3]
  have hP : va_P D vwCl (lwW cI cT cL x a o b t h ra ad oa (opR s0 (xs (nI (4 * k + 1)).toNatClampNeg) (fun r => nI (qlen s0.2.1 r))).2.2 u.1 u2 u.2) H := hP; have hD : va_D A (lwW cI cT cL x a o b t h ra ad oa (opR s0 (xs (nI (4 * k + 1)).toNatClampNeg) (fun r => nI (qlen s0.2.1 r))).2.2 u.1 u2 u.2) := hD
  refine lv_iload hx hb dL_law_1255 (lv_at hl 1 rfl) ?_
  refine lv_icmp_eq (tgt := 1262) hx hb dL_law_1257 (by decide) (fun _ => ?_) (fun h => absurd rfl h)
  refine lv_iload hx hb dL_law_1262 (lv_at hl 1 rfl) ?_
  refine lv_if_ne (tgt := 1279) hx hb dL_law_1264 (by decide) (fun h9 => ?_) (fun h9 => ?_)
  · refine lv_goto (tgt := 1575) hx hb dL_law_1279 (by decide) ?_
    exact KO (opR s0 (xs (nI (4 * k + 1)).toNatClampNeg) (fun r => nI (qlen s0.2.1 r))).2.2 u.1 u2 u.2 H locs hP hD hS hR1 hZ1 _ (lv_sub hl [2, 3, 4, 5, 6] rfl)
  · have h0 : (opR s0 (xs (nI (4 * k + 1)).toNatClampNeg) (fun r => nI (qlen s0.2.1 r))).1 = 0 := (nI_eq (a := (opR s0 (xs (nI (4 * k + 1)).toNatClampNeg) (fun r => nI (qlen s0.2.1 r))).1) (b := 0) (by omega) (by decide)).mp h9
    refine lv_aload_n hx hb dL_law_1267 rfl (lv_at hl 5 rfl) ?_
    refine lv_iconst (v := nI 0) hx hb dL_law_1268 (by decide) ?_
    refine va_lald hx hb hK hP 0 2 rfl rfl (vp_in_nI (by decide) (by decide)) dL_law_1269 ?_
    rw [show (nI 0).toNatClampNeg = 0 by decide, hv h0]
    refine lv_iload hx hb dL_law_1270 (lv_at hl 0 rfl) ?_
    refine lv_i2l (v := (opR s0 (xs (nI (4 * k + 1)).toNatClampNeg) (fun r => nI (qlen s0.2.1 r))).2.1.toInt64) hx hb dL_law_1272 rfl ?_
    refine W.lcmp hx hb dL_law_1273 ?_
    rw [lgc]
    refine lv_if_eq (tgt := 1279) hx hb dL_law_1274 (by decide) (fun _ => ?_) (fun h => absurd rfl h)
    refine lv_goto (tgt := 1575) hx hb dL_law_1279 (by decide) ?_
    exact KO (opR s0 (xs (nI (4 * k + 1)).toNatClampNeg) (fun r => nI (qlen s0.2.1 r))).2.2 u.1 u2 u.2 H locs hP hD hS hR1 hZ1 _ (lv_sub hl [2, 3, 4, 5, 6] rfl)
set_option maxHeartbeats 1000000 in
set_option maxRecDepth 100000 in
theorem cs_queued {p : Program} {l : Launch} {e : Env} {s : State} {m : MethodId} {below : List Frame} {meth : Method} {c : Code} {sb L : Nat} {xs : Nat → Int32} {D : va_G} {cI cT cL : ClassId} {A : Nat → Prop} {Q : State → Prop} (x a o b t h : Nat → Nat) (ra : Nat → Nat → Nat) (ad : Nat → Nat) (oa k cells slots n : Nat) (LB : LBx p l s m c sb L xs D cI cT cL A) (hkL : 4 * k + 4 ≤ L) (hL2 : L ≤ 2048) (hn : n + 80 < 2 ^ 31) (hce : cells + 4 ≤ 601024) (hsl : slots + 24 ≤ 7293034) (s0 : ST) (j0 : JT) (r0 : JR) (f0 : Nat → Int64) (H : Heap) (locs : List Loc) (hP : va_P D vwCl (lwW cI cT cL x a o b t h ra ad oa s0 j0 r0 f0) H) (hD : va_D A (lwW cI cT cL x a o b t h ra ad oa s0 j0 r0 f0)) (hS : va_S A s.heap H locs) (hR : LR s0 j0) (hZ : LZu n s0 r0) (ls : Array Slot) (hl : lv_has ls 7 (lwL sb (x 0) (ad 0) oa k)) (KO : LKo p l e s m below meth c sb D cI cT cL A Q x a o b t h ra ad oa k (cells + 4) (slots + 24) (n + 80)) : W p l e room_1 s m #[Value.ref sb] below meth c H locs cells slots Q (F0 m 1282 ls []) := by
  obtain ⟨hx, hb, hml, hown, hts, hK, hX0, hbl, hbA, hA, hX, hflag⟩ := LB
  have hK2 : va_K D vwCl (TY cI cT) s := hK.sub (tys' := TY cI cT) [0, 1] rfl
  have hro := ro_Queued (s := s0) (p0 := (xs (nI (4 * k + 1)).toNatClampNeg)) (p1 := (xs (nI (4 * k + 2)).toNatClampNeg))
  have hro1 : (opQueued s0 (xs (nI (4 * k + 1)).toNatClampNeg) (xs (nI (4 * k + 2)).toNatClampNeg)).1 ≤ 3 := Nat.le_trans hro.1 (by decide)
  refine lv_aload_n hx hb dL_law_1282 rfl (lv_at hl 1 rfl) ?_
  refine lv_aload_n hx hb dL_law_1283 rfl (lv_at hl 0 rfl) ?_
  refine lv_iload hx hb dL_law_1284 (lv_at hl 4 rfl) ?_
  refine lv_iconst (v := nI 1) hx hb dL_law_1286 (by decide) ?_
  refine lv_iadd hx hb dL_law_1287 ?_
  refine tpe (y := nI (4 * k + 1)) (nI_add _ _) ?_
  refine va_sld hx hb hX0 hbl hbA hS (vp_in_nI (by omega) (by omega)) dL_law_1288 ?_
  refine lv_aload_n hx hb dL_law_1289 rfl (lv_at hl 0 rfl) ?_
  refine lv_iload hx hb dL_law_1290 (lv_at hl 4 rfl) ?_
  refine lv_iconst (v := nI 2) hx hb dL_law_1292 (by decide) ?_
  refine lv_iadd hx hb dL_law_1293 ?_
  refine tpe (y := nI (4 * k + 2)) (nI_add _ _) ?_
  refine va_sld hx hb hX0 hbl hbA hS (vp_in_nI (by omega) (by omega)) dL_law_1294 ?_
  refine lv_aload_n hx hb dL_law_1295 rfl (lv_at hl 3 rfl) ?_
  refine call_cw (X := []) (Wc := ([(oa, outE cL f0)] ++ lmW cI cT x a o b t h ra s0 j0)) (Z := rfW cI ad s0 r0) (As := [.ref (x 0), .int (xs (nI (4 * k + 1)).toNatClampNeg), .int (xs (nI (4 * k + 2)).toNatClampNeg), .ref oa]) (rest := []) ⟨hx, hb, hml, hown, hts⟩ (c_L_queued l hflag D cI cT cL x a o b t h ra s0 j0 oa f0 (xs (nI (4 * k + 1)).toNatClampNeg) (xs (nI (4 * k + 2)).toNatClampNeg) hR) (vx_cwSW 4 hts gL_law_L_queued rfl rfl rfl (by decide +kernel) ⟨Nat.le_of_ble_eq_true rfl, Nat.le_of_ble_eq_true rfl⟩) hK hP hD hS hA hX (fun _ => adr_ol) rfl hl.1 rfl (Nat.le_of_ble_eq_true rfl) ⟨hce, hsl⟩ dL_law_1296 (fun r u H locs hp hP hD hS => ?_)
  obtain ⟨hr, hR1, hv⟩ := hp
  rw [hr]
  have hP : va_P D vwCl (([(oa, outE cL u.2)] ++ lmW cI cT x a o b t h ra (opQueued s0 (xs (nI (4 * k + 1)).toNatClampNeg) (xs (nI (4 * k + 2)).toNatClampNeg)).2.2 u.1) ++ rfW cI ad s0 r0) H := hP; have hD : va_D A (([(oa, outE cL u.2)] ++ lmW cI cT x a o b t h ra (opQueued s0 (xs (nI (4 * k + 1)).toNatClampNeg) (xs (nI (4 * k + 2)).toNatClampNeg)).2.2 u.1) ++ rfW cI ad s0 r0) := hD
  refine lv_istore (lv' := [(5, .int (nI (opQueued s0 (xs (nI (4 * k + 1)).toNatClampNeg) (xs (nI (4 * k + 2)).toNatClampNeg)).1)), (0, .ref sb), (1, .ref (x 0)), (2, .ref (ad 0)), (3, .ref oa), (4, .int (nI (4 * k)))]) hx hb dL_law_1299 hl (by decide) rfl (fun ls hl => ?_)
  refine lv_aload_n hx hb dL_law_1301 rfl (lv_at hl 3 rfl) ?_
  refine lv_aload_n hx hb dL_law_1302 rfl (lv_at hl 1 rfl) ?_
  refine lv_iload hx hb dL_law_1303 (lv_at hl 5 rfl) ?_
  refine lv_iconst (v := nI 1) hx hb dL_law_1305 (by decide) ?_
  refine lv_iadd hx hb dL_law_1306 ?_
  refine tpe (y := nI (4 * k + 1)) (nI_add _ _) ?_
  refine va_sld hx hb hX0 hbl hbA hS (vp_in_nI (by omega) (by omega)) dL_law_1307 ?_
  refine lv_aload_n hx hb dL_law_1308 rfl (lv_at hl 1 rfl) ?_
  refine lv_iload hx hb dL_law_1309 (lv_at hl 5 rfl) ?_
  refine lv_iconst (v := nI 2) hx hb dL_law_1311 (by decide) ?_
  refine lv_iadd hx hb dL_law_1312 ?_
  refine tpe (y := nI (4 * k + 2)) (nI_add _ _) ?_
  refine va_sld hx hb hX0 hbl hbA hS (vp_in_nI (by omega) (by omega)) dL_law_1313 ?_
  refine call_i (X := ([(oa, outE cL u.2)] ++ lmW cI cT x a o b t h ra (opQueued s0 (xs (nI (4 * k + 1)).toNatClampNeg) (xs (nI (4 * k + 2)).toNatClampNeg)).2.2 u.1)) (Wc := rfW cI ad s0 r0) (Z := []) (As := [.int (xs (nI (4 * k + 1)).toNatClampNeg), .int (xs (nI (4 * k + 2)).toNatClampNeg)]) (rest := []) ⟨hx, hb, hml, hown, hts⟩ (c_X5_queued l D cI cT ad _ 0 0 _ _ _ _ _ _ _ _ _ _ _ s0.1 s0.2.1 s0.2.2.1 s0.2.2.2.1 s0.2.2.2.2 n (xs (nI (4 * k + 1)).toNatClampNeg) (xs (nI (4 * k + 2)).toNatClampNeg) hZ hn) (cwV 2 hts gL_law_X5_queued rfl rfl rfl (by decide +kernel) ⟨Nat.le_of_ble_eq_true rfl, Nat.le_of_ble_eq_true rfl⟩) hK2 (P_nilE hP) (D_nilE hD) hS hA (va_recv hK2 (sub_mid (P_nilE hP)) (ci := 5) (q0 := 0) rfl rfl) (fun _ => adr_rf) rfl hl.1 rfl (Nat.le_of_ble_eq_true rfl) ⟨Nat.le_trans (by omega) hce, Nat.le_trans (by omega) hsl⟩ dL_law_1314 (fun rv u2 H locs hp2 hP hD hS => ?_)
  have hP := P_nilF hP; have hD := D_nilF hD
  have hr2 : rv = (opQueued s0 (xs (nI (4 * k + 1)).toNatClampNeg) (xs (nI (4 * k + 2)).toNatClampNeg)).2.1 := hp2.1
  have hth : u2.1 = nI (opQueued s0 (xs (nI (4 * k + 1)).toNatClampNeg) (xs (nI (4 * k + 2)).toNatClampNeg)).1 := hp2.2.1
  have hZ1 : LZu (n + 80) (opQueued s0 (xs (nI (4 * k + 1)).toNatClampNeg) (xs (nI (4 * k + 2)).toNatClampNeg)).2.2 u2 := hp2.2.2
  rw [hr2]
  have hP : va_P D vwCl (([(oa, outE cL u.2)] ++ lmW cI cT x a o b t h ra (opQueued s0 (xs (nI (4 * k + 1)).toNatClampNeg) (xs (nI (4 * k + 2)).toNatClampNeg)).2.2 u.1) ++ rfW cI ad (opQueued s0 (xs (nI (4 * k + 1)).toNatClampNeg) (xs (nI (4 * k + 2)).toNatClampNeg)).2.2 u2) H := hP; have hD : va_D A (([(oa, outE cL u.2)] ++ lmW cI cT x a o b t h ra (opQueued s0 (xs (nI (4 * k + 1)).toNatClampNeg) (xs (nI (4 * k + 2)).toNatClampNeg)).2.2 u.1) ++ rfW cI ad (opQueued s0 (xs (nI (4 * k + 1)).toNatClampNeg) (xs (nI (4 * k + 2)).toNatClampNeg)).2.2 u2) := hD
  refine lv_istore (lv' := [(6, .int (opQueued s0 (xs (nI (4 * k + 1)).toNatClampNeg) (xs (nI (4 * k + 2)).toNatClampNeg)).2.1), (5, .int (nI (opQueued s0 (xs (nI (4 * k + 1)).toNatClampNeg) (xs (nI (4 * k + 2)).toNatClampNeg)).1)), (0, .ref sb), (1, .ref (x 0)), (2, .ref (ad 0)), (3, .ref oa), (4, .int (nI (4 * k)))]) hx hb dL_law_1317 hl (by decide) rfl (fun ls hl => ?_)
  refine lv_aload_n hx hb dL_law_1319 rfl (lv_at hl 4 rfl) ?_
  clear hr2 hp2
  refine call_i (X := ([(oa, outE cL u.2)] ++ lmW cI cT x a o b t h ra (opQueued s0 (xs (nI (4 * k + 1)).toNatClampNeg) (xs (nI (4 * k + 2)).toNatClampNeg)).2.2 u.1)) (Wc := rfW cI ad (opQueued s0 (xs (nI (4 * k + 1)).toNatClampNeg) (xs (nI (4 * k + 2)).toNatClampNeg)).2.2 u2) (Z := []) (As := []) (rest := []) ⟨hx, hb, hml, hown, hts⟩ (c_X5_thrown l D cI cT ad _ _ _ _ _ _ _ _ _ _ _ _ _ _) (cwV 0 hts gL_law_X5_thrown rfl rfl rfl (by decide +kernel) ⟨Nat.le_of_ble_eq_true rfl, Nat.le_of_ble_eq_true rfl⟩) hK2 (P_nilE hP) (D_nilE hD) hS hA (va_recv hK2 (sub_mid (P_nilE hP)) (ci := 5) (q0 := 0) rfl rfl) (fun _ => adr_rf) rfl hl.1 rfl (Nat.le_of_ble_eq_true rfl) ⟨Nat.le_trans (by omega) hce, Nat.le_trans (by omega) hsl⟩ dL_law_1320 (fun rv2 u3 H locs hp3 hP hD hS => ?_)
  have hP := P_nilF hP; have hD := D_nilF hD
  have hr3 : rv2 = nI (opQueued s0 (xs (nI (4 * k + 1)).toNatClampNeg) (xs (nI (4 * k + 2)).toNatClampNeg)).1 := hp3.trans hth
  rw [hr3]
  have hP : va_P D vwCl (lwW cI cT cL x a o b t h ra ad oa (opQueued s0 (xs (nI (4 * k + 1)).toNatClampNeg) (xs (nI (4 * k + 2)).toNatClampNeg)).2.2 u.1 u2 u.2) H := hP; have hD : va_D A (lwW cI cT cL x a o b t h ra ad oa (opQueued s0 (xs (nI (4 * k + 1)).toNatClampNeg) (xs (nI (4 * k + 2)).toNatClampNeg)).2.2 u.1 u2 u.2) := hD
  refine lv_iload hx hb dL_law_1323 (lv_at hl 1 rfl) ?_
  refine lv_icmp_eq (tgt := 1330) hx hb dL_law_1325 (by decide) (fun _ => ?_) (fun h => absurd rfl h)
  refine lv_iload hx hb dL_law_1330 (lv_at hl 1 rfl) ?_
  refine lv_if_ne (tgt := 1347) hx hb dL_law_1332 (by decide) (fun h9 => ?_) (fun h9 => ?_)
  · refine lv_goto (tgt := 1575) hx hb dL_law_1347 (by decide) ?_
    exact KO (opQueued s0 (xs (nI (4 * k + 1)).toNatClampNeg) (xs (nI (4 * k + 2)).toNatClampNeg)).2.2 u.1 u2 u.2 H locs hP hD hS hR1 hZ1 _ (lv_sub hl [2, 3, 4, 5, 6] rfl)
  · have h0 : (opQueued s0 (xs (nI (4 * k + 1)).toNatClampNeg) (xs (nI (4 * k + 2)).toNatClampNeg)).1 = 0 := (nI_eq (a := (opQueued s0 (xs (nI (4 * k + 1)).toNatClampNeg) (xs (nI (4 * k + 2)).toNatClampNeg)).1) (b := 0) (by omega) (by decide)).mp h9
    refine lv_aload_n hx hb dL_law_1335 rfl (lv_at hl 5 rfl) ?_
    refine lv_iconst (v := nI 0) hx hb dL_law_1336 (by decide) ?_
    refine va_lald hx hb hK hP 0 2 rfl rfl (vp_in_nI (by decide) (by decide)) dL_law_1337 ?_
    rw [show (nI 0).toNatClampNeg = 0 by decide, hv h0]
    refine lv_iload hx hb dL_law_1338 (lv_at hl 0 rfl) ?_
    refine lv_i2l (v := (opQueued s0 (xs (nI (4 * k + 1)).toNatClampNeg) (xs (nI (4 * k + 2)).toNatClampNeg)).2.1.toInt64) hx hb dL_law_1340 rfl ?_
    refine W.lcmp hx hb dL_law_1341 ?_
    rw [lgc]
    refine lv_if_eq (tgt := 1347) hx hb dL_law_1342 (by decide) (fun _ => ?_) (fun h => absurd rfl h)
    refine lv_goto (tgt := 1575) hx hb dL_law_1347 (by decide) ?_
    exact KO (opQueued s0 (xs (nI (4 * k + 1)).toNatClampNeg) (xs (nI (4 * k + 2)).toNatClampNeg)).2.2 u.1 u2 u.2 H locs hP hD hS hR1 hZ1 _ (lv_sub hl [2, 3, 4, 5, 6] rfl)
set_option maxHeartbeats 1000000 in
set_option maxRecDepth 100000 in
theorem cs_ifRequested {p : Program} {l : Launch} {e : Env} {s : State} {m : MethodId} {below : List Frame} {meth : Method} {c : Code} {sb L : Nat} {xs : Nat → Int32} {D : va_G} {cI cT cL : ClassId} {A : Nat → Prop} {Q : State → Prop} (x a o b t h : Nat → Nat) (ra : Nat → Nat → Nat) (ad : Nat → Nat) (oa k cells slots n : Nat) (LB : LBx p l s m c sb L xs D cI cT cL A) (hkL : 4 * k + 4 ≤ L) (hL2 : L ≤ 2048) (hn : n + 80 < 2 ^ 31) (hce : cells + 4 ≤ 601024) (hsl : slots + 24 ≤ 7293034) (s0 : ST) (j0 : JT) (r0 : JR) (f0 : Nat → Int64) (H : Heap) (locs : List Loc) (hP : va_P D vwCl (lwW cI cT cL x a o b t h ra ad oa s0 j0 r0 f0) H) (hD : va_D A (lwW cI cT cL x a o b t h ra ad oa s0 j0 r0 f0)) (hS : va_S A s.heap H locs) (hR : LR s0 j0) (hZ : LZu n s0 r0) (ls : Array Slot) (hl : lv_has ls 7 (lwL sb (x 0) (ad 0) oa k)) (KO : LKo p l e s m below meth c sb D cI cT cL A Q x a o b t h ra ad oa k (cells + 4) (slots + 24) (n + 80)) : W p l e room_1 s m #[Value.ref sb] below meth c H locs cells slots Q (F0 m 1350 ls []) := by
  obtain ⟨hx, hb, hml, hown, hts, hK, hX0, hbl, hbA, hA, hX, hflag⟩ := LB
  have hK2 : va_K D vwCl (TY cI cT) s := hK.sub (tys' := TY cI cT) [0, 1] rfl
  have hro := ro_If (s := s0) (p0 := (xs (nI (4 * k + 1)).toNatClampNeg)) (p1 := (xs (nI (4 * k + 2)).toNatClampNeg)) (p2 := (xs (nI (4 * k + 3)).toNatClampNeg))
  have hro1 : (opIf s0 (xs (nI (4 * k + 1)).toNatClampNeg) (xs (nI (4 * k + 2)).toNatClampNeg) (xs (nI (4 * k + 3)).toNatClampNeg)).1 ≤ 3 := Nat.le_trans hro.1 (by decide)
  refine lv_aload_n hx hb dL_law_1350 rfl (lv_at hl 1 rfl) ?_
  refine lv_aload_n hx hb dL_law_1351 rfl (lv_at hl 0 rfl) ?_
  refine lv_iload hx hb dL_law_1352 (lv_at hl 4 rfl) ?_
  refine lv_iconst (v := nI 1) hx hb dL_law_1354 (by decide) ?_
  refine lv_iadd hx hb dL_law_1355 ?_
  refine tpe (y := nI (4 * k + 1)) (nI_add _ _) ?_
  refine va_sld hx hb hX0 hbl hbA hS (vp_in_nI (by omega) (by omega)) dL_law_1356 ?_
  refine lv_aload_n hx hb dL_law_1357 rfl (lv_at hl 0 rfl) ?_
  refine lv_iload hx hb dL_law_1358 (lv_at hl 4 rfl) ?_
  refine lv_iconst (v := nI 2) hx hb dL_law_1360 (by decide) ?_
  refine lv_iadd hx hb dL_law_1361 ?_
  refine tpe (y := nI (4 * k + 2)) (nI_add _ _) ?_
  refine va_sld hx hb hX0 hbl hbA hS (vp_in_nI (by omega) (by omega)) dL_law_1362 ?_
  refine lv_aload_n hx hb dL_law_1363 rfl (lv_at hl 0 rfl) ?_
  refine lv_iload hx hb dL_law_1364 (lv_at hl 4 rfl) ?_
  refine lv_iconst (v := nI 3) hx hb dL_law_1366 (by decide) ?_
  refine lv_iadd hx hb dL_law_1367 ?_
  refine tpe (y := nI (4 * k + 3)) (nI_add _ _) ?_
  refine va_sld hx hb hX0 hbl hbA hS (vp_in_nI (by omega) (by omega)) dL_law_1368 ?_
  refine lv_aload_n hx hb dL_law_1369 rfl (lv_at hl 3 rfl) ?_
  refine call_cw (X := []) (Wc := ([(oa, outE cL f0)] ++ lmW cI cT x a o b t h ra s0 j0)) (Z := rfW cI ad s0 r0) (As := [.ref (x 0), .int (xs (nI (4 * k + 1)).toNatClampNeg), .int (xs (nI (4 * k + 2)).toNatClampNeg), .int (xs (nI (4 * k + 3)).toNatClampNeg), .ref oa]) (rest := []) ⟨hx, hb, hml, hown, hts⟩ (c_L_ifRequested l hflag D cI cT cL x a o b t h ra s0 j0 oa f0 (xs (nI (4 * k + 1)).toNatClampNeg) (xs (nI (4 * k + 2)).toNatClampNeg) (xs (nI (4 * k + 3)).toNatClampNeg) hR) (vx_cwSW 5 hts gL_law_L_ifRequested rfl rfl rfl (by decide +kernel) ⟨Nat.le_of_ble_eq_true rfl, Nat.le_of_ble_eq_true rfl⟩) hK hP hD hS hA hX (fun _ => adr_ol) rfl hl.1 rfl (Nat.le_of_ble_eq_true rfl) ⟨hce, hsl⟩ dL_law_1370 (fun r u H locs hp hP hD hS => ?_)
  obtain ⟨hr, hR1, hv⟩ := hp
  rw [hr]
  have hP : va_P D vwCl (([(oa, outE cL u.2)] ++ lmW cI cT x a o b t h ra (opIf s0 (xs (nI (4 * k + 1)).toNatClampNeg) (xs (nI (4 * k + 2)).toNatClampNeg) (xs (nI (4 * k + 3)).toNatClampNeg)).2.2 u.1) ++ rfW cI ad s0 r0) H := hP; have hD : va_D A (([(oa, outE cL u.2)] ++ lmW cI cT x a o b t h ra (opIf s0 (xs (nI (4 * k + 1)).toNatClampNeg) (xs (nI (4 * k + 2)).toNatClampNeg) (xs (nI (4 * k + 3)).toNatClampNeg)).2.2 u.1) ++ rfW cI ad s0 r0) := hD
  refine lv_istore (lv' := [(5, .int (nI (opIf s0 (xs (nI (4 * k + 1)).toNatClampNeg) (xs (nI (4 * k + 2)).toNatClampNeg) (xs (nI (4 * k + 3)).toNatClampNeg)).1)), (0, .ref sb), (1, .ref (x 0)), (2, .ref (ad 0)), (3, .ref oa), (4, .int (nI (4 * k)))]) hx hb dL_law_1373 hl (by decide) rfl (fun ls hl => ?_)
  refine lv_aload_n hx hb dL_law_1375 rfl (lv_at hl 3 rfl) ?_
  refine lv_aload_n hx hb dL_law_1376 rfl (lv_at hl 1 rfl) ?_
  refine lv_iload hx hb dL_law_1377 (lv_at hl 5 rfl) ?_
  refine lv_iconst (v := nI 1) hx hb dL_law_1379 (by decide) ?_
  refine lv_iadd hx hb dL_law_1380 ?_
  refine tpe (y := nI (4 * k + 1)) (nI_add _ _) ?_
  refine va_sld hx hb hX0 hbl hbA hS (vp_in_nI (by omega) (by omega)) dL_law_1381 ?_
  refine lv_aload_n hx hb dL_law_1382 rfl (lv_at hl 1 rfl) ?_
  refine lv_iload hx hb dL_law_1383 (lv_at hl 5 rfl) ?_
  refine lv_iconst (v := nI 2) hx hb dL_law_1385 (by decide) ?_
  refine lv_iadd hx hb dL_law_1386 ?_
  refine tpe (y := nI (4 * k + 2)) (nI_add _ _) ?_
  refine va_sld hx hb hX0 hbl hbA hS (vp_in_nI (by omega) (by omega)) dL_law_1387 ?_
  refine lv_aload_n hx hb dL_law_1388 rfl (lv_at hl 1 rfl) ?_
  refine lv_iload hx hb dL_law_1389 (lv_at hl 5 rfl) ?_
  refine lv_iconst (v := nI 3) hx hb dL_law_1391 (by decide) ?_
  refine lv_iadd hx hb dL_law_1392 ?_
  refine tpe (y := nI (4 * k + 3)) (nI_add _ _) ?_
  refine va_sld hx hb hX0 hbl hbA hS (vp_in_nI (by omega) (by omega)) dL_law_1393 ?_
  refine call_i (X := ([(oa, outE cL u.2)] ++ lmW cI cT x a o b t h ra (opIf s0 (xs (nI (4 * k + 1)).toNatClampNeg) (xs (nI (4 * k + 2)).toNatClampNeg) (xs (nI (4 * k + 3)).toNatClampNeg)).2.2 u.1)) (Wc := rfW cI ad s0 r0) (Z := []) (As := [.int (xs (nI (4 * k + 1)).toNatClampNeg), .int (xs (nI (4 * k + 2)).toNatClampNeg), .int (xs (nI (4 * k + 3)).toNatClampNeg)]) (rest := []) ⟨hx, hb, hml, hown, hts⟩ (c_X5_ifRequested l D cI cT ad _ 0 0 _ _ _ _ _ _ _ _ _ _ _ s0.1 s0.2.1 s0.2.2.1 s0.2.2.2.1 s0.2.2.2.2 n (xs (nI (4 * k + 1)).toNatClampNeg) (xs (nI (4 * k + 2)).toNatClampNeg) (xs (nI (4 * k + 3)).toNatClampNeg) hZ hn) (cwV 3 hts gL_law_X5_ifRequested rfl rfl rfl (by decide +kernel) ⟨Nat.le_of_ble_eq_true rfl, Nat.le_of_ble_eq_true rfl⟩) hK2 (P_nilE hP) (D_nilE hD) hS hA (va_recv hK2 (sub_mid (P_nilE hP)) (ci := 5) (q0 := 0) rfl rfl) (fun _ => adr_rf) rfl hl.1 rfl (Nat.le_of_ble_eq_true rfl) ⟨Nat.le_trans (by omega) hce, Nat.le_trans (by omega) hsl⟩ dL_law_1394 (fun rv u2 H locs hp2 hP hD hS => ?_)
  have hP := P_nilF hP; have hD := D_nilF hD
  have hr2 : rv = (opIf s0 (xs (nI (4 * k + 1)).toNatClampNeg) (xs (nI (4 * k + 2)).toNatClampNeg) (xs (nI (4 * k + 3)).toNatClampNeg)).2.1 := hp2.1
  have hth : u2.1 = nI (opIf s0 (xs (nI (4 * k + 1)).toNatClampNeg) (xs (nI (4 * k + 2)).toNatClampNeg) (xs (nI (4 * k + 3)).toNatClampNeg)).1 := hp2.2.1
  have hZ1 : LZu (n + 80) (opIf s0 (xs (nI (4 * k + 1)).toNatClampNeg) (xs (nI (4 * k + 2)).toNatClampNeg) (xs (nI (4 * k + 3)).toNatClampNeg)).2.2 u2 := hp2.2.2
  rw [hr2]
  have hP : va_P D vwCl (([(oa, outE cL u.2)] ++ lmW cI cT x a o b t h ra (opIf s0 (xs (nI (4 * k + 1)).toNatClampNeg) (xs (nI (4 * k + 2)).toNatClampNeg) (xs (nI (4 * k + 3)).toNatClampNeg)).2.2 u.1) ++ rfW cI ad (opIf s0 (xs (nI (4 * k + 1)).toNatClampNeg) (xs (nI (4 * k + 2)).toNatClampNeg) (xs (nI (4 * k + 3)).toNatClampNeg)).2.2 u2) H := hP; have hD : va_D A (([(oa, outE cL u.2)] ++ lmW cI cT x a o b t h ra (opIf s0 (xs (nI (4 * k + 1)).toNatClampNeg) (xs (nI (4 * k + 2)).toNatClampNeg) (xs (nI (4 * k + 3)).toNatClampNeg)).2.2 u.1) ++ rfW cI ad (opIf s0 (xs (nI (4 * k + 1)).toNatClampNeg) (xs (nI (4 * k + 2)).toNatClampNeg) (xs (nI (4 * k + 3)).toNatClampNeg)).2.2 u2) := hD
  refine lv_istore (lv' := [(6, .int (opIf s0 (xs (nI (4 * k + 1)).toNatClampNeg) (xs (nI (4 * k + 2)).toNatClampNeg) (xs (nI (4 * k + 3)).toNatClampNeg)).2.1), (5, .int (nI (opIf s0 (xs (nI (4 * k + 1)).toNatClampNeg) (xs (nI (4 * k + 2)).toNatClampNeg) (xs (nI (4 * k + 3)).toNatClampNeg)).1)), (0, .ref sb), (1, .ref (x 0)), (2, .ref (ad 0)), (3, .ref oa), (4, .int (nI (4 * k)))]) hx hb dL_law_1397 hl (by decide) rfl (fun ls hl => ?_)
  refine lv_aload_n hx hb dL_law_1399 rfl (lv_at hl 4 rfl) ?_
  clear hr2 hp2
  refine call_i (X := ([(oa, outE cL u.2)] ++ lmW cI cT x a o b t h ra (opIf s0 (xs (nI (4 * k + 1)).toNatClampNeg) (xs (nI (4 * k + 2)).toNatClampNeg) (xs (nI (4 * k + 3)).toNatClampNeg)).2.2 u.1)) (Wc := rfW cI ad (opIf s0 (xs (nI (4 * k + 1)).toNatClampNeg) (xs (nI (4 * k + 2)).toNatClampNeg) (xs (nI (4 * k + 3)).toNatClampNeg)).2.2 u2) (Z := []) (As := []) (rest := []) ⟨hx, hb, hml, hown, hts⟩ (c_X5_thrown l D cI cT ad _ _ _ _ _ _ _ _ _ _ _ _ _ _) (cwV 0 hts gL_law_X5_thrown rfl rfl rfl (by decide +kernel) ⟨Nat.le_of_ble_eq_true rfl, Nat.le_of_ble_eq_true rfl⟩) hK2 (P_nilE hP) (D_nilE hD) hS hA (va_recv hK2 (sub_mid (P_nilE hP)) (ci := 5) (q0 := 0) rfl rfl) (fun _ => adr_rf) rfl hl.1 rfl (Nat.le_of_ble_eq_true rfl) ⟨Nat.le_trans (by omega) hce, Nat.le_trans (by omega) hsl⟩ dL_law_1400 (fun rv2 u3 H locs hp3 hP hD hS => ?_)
  have hP := P_nilF hP; have hD := D_nilF hD
  have hr3 : rv2 = nI (opIf s0 (xs (nI (4 * k + 1)).toNatClampNeg) (xs (nI (4 * k + 2)).toNatClampNeg) (xs (nI (4 * k + 3)).toNatClampNeg)).1 := hp3.trans hth
  rw [hr3]
  have hP : va_P D vwCl (lwW cI cT cL x a o b t h ra ad oa (opIf s0 (xs (nI (4 * k + 1)).toNatClampNeg) (xs (nI (4 * k + 2)).toNatClampNeg) (xs (nI (4 * k + 3)).toNatClampNeg)).2.2 u.1 u2 u.2) H := hP; have hD : va_D A (lwW cI cT cL x a o b t h ra ad oa (opIf s0 (xs (nI (4 * k + 1)).toNatClampNeg) (xs (nI (4 * k + 2)).toNatClampNeg) (xs (nI (4 * k + 3)).toNatClampNeg)).2.2 u.1 u2 u.2) := hD
  refine lv_iload hx hb dL_law_1403 (lv_at hl 1 rfl) ?_
  refine lv_icmp_eq (tgt := 1410) hx hb dL_law_1405 (by decide) (fun _ => ?_) (fun h => absurd rfl h)
  refine lv_iload hx hb dL_law_1410 (lv_at hl 1 rfl) ?_
  refine lv_if_ne (tgt := 1427) hx hb dL_law_1412 (by decide) (fun h9 => ?_) (fun h9 => ?_)
  · refine lv_goto (tgt := 1575) hx hb dL_law_1427 (by decide) ?_
    exact KO (opIf s0 (xs (nI (4 * k + 1)).toNatClampNeg) (xs (nI (4 * k + 2)).toNatClampNeg) (xs (nI (4 * k + 3)).toNatClampNeg)).2.2 u.1 u2 u.2 H locs hP hD hS hR1 hZ1 _ (lv_sub hl [2, 3, 4, 5, 6] rfl)
  · have h0 : (opIf s0 (xs (nI (4 * k + 1)).toNatClampNeg) (xs (nI (4 * k + 2)).toNatClampNeg) (xs (nI (4 * k + 3)).toNatClampNeg)).1 = 0 := (nI_eq (a := (opIf s0 (xs (nI (4 * k + 1)).toNatClampNeg) (xs (nI (4 * k + 2)).toNatClampNeg) (xs (nI (4 * k + 3)).toNatClampNeg)).1) (b := 0) (by omega) (by decide)).mp h9
    refine lv_aload_n hx hb dL_law_1415 rfl (lv_at hl 5 rfl) ?_
    refine lv_iconst (v := nI 0) hx hb dL_law_1416 (by decide) ?_
    refine va_lald hx hb hK hP 0 2 rfl rfl (vp_in_nI (by decide) (by decide)) dL_law_1417 ?_
    rw [show (nI 0).toNatClampNeg = 0 by decide, hv h0]
    refine lv_iload hx hb dL_law_1418 (lv_at hl 0 rfl) ?_
    refine lv_i2l (v := (opIf s0 (xs (nI (4 * k + 1)).toNatClampNeg) (xs (nI (4 * k + 2)).toNatClampNeg) (xs (nI (4 * k + 3)).toNatClampNeg)).2.1.toInt64) hx hb dL_law_1420 rfl ?_
    refine W.lcmp hx hb dL_law_1421 ?_
    rw [lgc]
    refine lv_if_eq (tgt := 1427) hx hb dL_law_1422 (by decide) (fun _ => ?_) (fun h => absurd rfl h)
    refine lv_goto (tgt := 1575) hx hb dL_law_1427 (by decide) ?_
    exact KO (opIf s0 (xs (nI (4 * k + 1)).toNatClampNeg) (xs (nI (4 * k + 2)).toNatClampNeg) (xs (nI (4 * k + 3)).toNatClampNeg)).2.2 u.1 u2 u.2 H locs hP hD hS hR1 hZ1 _ (lv_sub hl [2, 3, 4, 5, 6] rfl)
set_option maxHeartbeats 1000000 in
set_option maxRecDepth 100000 in
theorem cs_victimsOf {p : Program} {l : Launch} {e : Env} {s : State} {m : MethodId} {below : List Frame} {meth : Method} {c : Code} {sb L : Nat} {xs : Nat → Int32} {D : va_G} {cI cT cL : ClassId} {A : Nat → Prop} {Q : State → Prop} (x a o b t h : Nat → Nat) (ra : Nat → Nat → Nat) (ad : Nat → Nat) (oa k cells slots n : Nat) (LB : LBx p l s m c sb L xs D cI cT cL A) (hkL : 4 * k + 4 ≤ L) (hL2 : L ≤ 2048) (hn : n + 80 < 2 ^ 31) (hce : cells + 4 ≤ 601024) (hsl : slots + 24 ≤ 7293034) (s0 : ST) (j0 : JT) (r0 : JR) (f0 : Nat → Int64) (H : Heap) (locs : List Loc) (hP : va_P D vwCl (lwW cI cT cL x a o b t h ra ad oa s0 j0 r0 f0) H) (hD : va_D A (lwW cI cT cL x a o b t h ra ad oa s0 j0 r0 f0)) (hS : va_S A s.heap H locs) (hR : LR s0 j0) (hZ : LZu n s0 r0) (ls : Array Slot) (hl : lv_has ls 7 (lwL sb (x 0) (ad 0) oa k)) (KO : LKo p l e s m below meth c sb D cI cT cL A Q x a o b t h ra ad oa k (cells + 4) (slots + 24) (n + 80)) : W p l e room_1 s m #[Value.ref sb] below meth c H locs cells slots Q (F0 m 1430 ls []) := by
  obtain ⟨hx, hb, hml, hown, hts, hK, hX0, hbl, hbA, hA, hX, hflag⟩ := LB
  have hK2 : va_K D vwCl (TY cI cT) s := hK.sub (tys' := TY cI cT) [0, 1] rfl
  have hro := ro_Vic (s := s0) (p0 := (xs (nI (4 * k + 1)).toNatClampNeg)) (p1 := (xs (nI (4 * k + 2)).toNatClampNeg)) (p2 := (xs (nI (4 * k + 3)).toNatClampNeg))
  have hro1 : (opVic s0 (xs (nI (4 * k + 1)).toNatClampNeg) (xs (nI (4 * k + 2)).toNatClampNeg) (xs (nI (4 * k + 3)).toNatClampNeg)).1 ≤ 3 := Nat.le_trans hro.1 (by decide)
  refine lv_aload_n hx hb dL_law_1430 rfl (lv_at hl 1 rfl) ?_
  refine lv_aload_n hx hb dL_law_1431 rfl (lv_at hl 0 rfl) ?_
  refine lv_iload hx hb dL_law_1432 (lv_at hl 4 rfl) ?_
  refine lv_iconst (v := nI 1) hx hb dL_law_1434 (by decide) ?_
  refine lv_iadd hx hb dL_law_1435 ?_
  refine tpe (y := nI (4 * k + 1)) (nI_add _ _) ?_
  refine va_sld hx hb hX0 hbl hbA hS (vp_in_nI (by omega) (by omega)) dL_law_1436 ?_
  refine lv_aload_n hx hb dL_law_1437 rfl (lv_at hl 0 rfl) ?_
  refine lv_iload hx hb dL_law_1438 (lv_at hl 4 rfl) ?_
  refine lv_iconst (v := nI 2) hx hb dL_law_1440 (by decide) ?_
  refine lv_iadd hx hb dL_law_1441 ?_
  refine tpe (y := nI (4 * k + 2)) (nI_add _ _) ?_
  refine va_sld hx hb hX0 hbl hbA hS (vp_in_nI (by omega) (by omega)) dL_law_1442 ?_
  refine lv_aload_n hx hb dL_law_1443 rfl (lv_at hl 0 rfl) ?_
  refine lv_iload hx hb dL_law_1444 (lv_at hl 4 rfl) ?_
  refine lv_iconst (v := nI 3) hx hb dL_law_1446 (by decide) ?_
  refine lv_iadd hx hb dL_law_1447 ?_
  refine tpe (y := nI (4 * k + 3)) (nI_add _ _) ?_
  refine va_sld hx hb hX0 hbl hbA hS (vp_in_nI (by omega) (by omega)) dL_law_1448 ?_
  refine lv_aload_n hx hb dL_law_1449 rfl (lv_at hl 3 rfl) ?_
  refine call_cw (X := []) (Wc := ([(oa, outE cL f0)] ++ lmW cI cT x a o b t h ra s0 j0)) (Z := rfW cI ad s0 r0) (As := [.ref (x 0), .int (xs (nI (4 * k + 1)).toNatClampNeg), .int (xs (nI (4 * k + 2)).toNatClampNeg), .int (xs (nI (4 * k + 3)).toNatClampNeg), .ref oa]) (rest := []) ⟨hx, hb, hml, hown, hts⟩ (c_L_victimsOf l hflag D cI cT cL x a o b t h ra s0 j0 oa f0 (xs (nI (4 * k + 1)).toNatClampNeg) (xs (nI (4 * k + 2)).toNatClampNeg) (xs (nI (4 * k + 3)).toNatClampNeg) hR) (vx_cwSW 5 hts gL_law_L_victimsOf rfl rfl rfl (by decide +kernel) ⟨Nat.le_of_ble_eq_true rfl, Nat.le_of_ble_eq_true rfl⟩) hK hP hD hS hA hX (fun _ => adr_ol) rfl hl.1 rfl (Nat.le_of_ble_eq_true rfl) ⟨hce, hsl⟩ dL_law_1450 (fun r u H locs hp hP hD hS => ?_)
  obtain ⟨hr, hR1, hv⟩ := hp
  rw [hr]
  have hP : va_P D vwCl (([(oa, outE cL u.2)] ++ lmW cI cT x a o b t h ra (opVic s0 (xs (nI (4 * k + 1)).toNatClampNeg) (xs (nI (4 * k + 2)).toNatClampNeg) (xs (nI (4 * k + 3)).toNatClampNeg)).2.2 u.1) ++ rfW cI ad s0 r0) H := hP; have hD : va_D A (([(oa, outE cL u.2)] ++ lmW cI cT x a o b t h ra (opVic s0 (xs (nI (4 * k + 1)).toNatClampNeg) (xs (nI (4 * k + 2)).toNatClampNeg) (xs (nI (4 * k + 3)).toNatClampNeg)).2.2 u.1) ++ rfW cI ad s0 r0) := hD
  refine lv_istore (lv' := [(5, .int (nI (opVic s0 (xs (nI (4 * k + 1)).toNatClampNeg) (xs (nI (4 * k + 2)).toNatClampNeg) (xs (nI (4 * k + 3)).toNatClampNeg)).1)), (0, .ref sb), (1, .ref (x 0)), (2, .ref (ad 0)), (3, .ref oa), (4, .int (nI (4 * k)))]) hx hb dL_law_1453 hl (by decide) rfl (fun ls hl => ?_)
  refine lv_aload_n hx hb dL_law_1455 rfl (lv_at hl 3 rfl) ?_
  refine lv_aload_n hx hb dL_law_1456 rfl (lv_at hl 1 rfl) ?_
  refine lv_iload hx hb dL_law_1457 (lv_at hl 5 rfl) ?_
  refine lv_iconst (v := nI 1) hx hb dL_law_1459 (by decide) ?_
  refine lv_iadd hx hb dL_law_1460 ?_
  refine tpe (y := nI (4 * k + 1)) (nI_add _ _) ?_
  refine va_sld hx hb hX0 hbl hbA hS (vp_in_nI (by omega) (by omega)) dL_law_1461 ?_
  refine lv_aload_n hx hb dL_law_1462 rfl (lv_at hl 1 rfl) ?_
  refine lv_iload hx hb dL_law_1463 (lv_at hl 5 rfl) ?_
  refine lv_iconst (v := nI 2) hx hb dL_law_1465 (by decide) ?_
  refine lv_iadd hx hb dL_law_1466 ?_
  refine tpe (y := nI (4 * k + 2)) (nI_add _ _) ?_
  refine va_sld hx hb hX0 hbl hbA hS (vp_in_nI (by omega) (by omega)) dL_law_1467 ?_
  refine lv_aload_n hx hb dL_law_1468 rfl (lv_at hl 1 rfl) ?_
  refine lv_iload hx hb dL_law_1469 (lv_at hl 5 rfl) ?_
  refine lv_iconst (v := nI 3) hx hb dL_law_1471 (by decide) ?_
  refine lv_iadd hx hb dL_law_1472 ?_
  refine tpe (y := nI (4 * k + 3)) (nI_add _ _) ?_
  refine va_sld hx hb hX0 hbl hbA hS (vp_in_nI (by omega) (by omega)) dL_law_1473 ?_
  refine call_i (X := ([(oa, outE cL u.2)] ++ lmW cI cT x a o b t h ra (opVic s0 (xs (nI (4 * k + 1)).toNatClampNeg) (xs (nI (4 * k + 2)).toNatClampNeg) (xs (nI (4 * k + 3)).toNatClampNeg)).2.2 u.1)) (Wc := rfW cI ad s0 r0) (Z := []) (As := [.int (xs (nI (4 * k + 1)).toNatClampNeg), .int (xs (nI (4 * k + 2)).toNatClampNeg), .int (xs (nI (4 * k + 3)).toNatClampNeg)]) (rest := []) ⟨hx, hb, hml, hown, hts⟩ (c_X5_victimsOf l D cI cT ad _ 0 0 _ _ _ _ _ _ _ _ _ _ _ s0.1 s0.2.1 s0.2.2.1 s0.2.2.2.1 s0.2.2.2.2 n (xs (nI (4 * k + 1)).toNatClampNeg) (xs (nI (4 * k + 2)).toNatClampNeg) (xs (nI (4 * k + 3)).toNatClampNeg) hZ hn) (cwV 3 hts gL_law_X5_victimsOf rfl rfl rfl (by decide +kernel) ⟨Nat.le_of_ble_eq_true rfl, Nat.le_of_ble_eq_true rfl⟩) hK2 (P_nilE hP) (D_nilE hD) hS hA (va_recv hK2 (sub_mid (P_nilE hP)) (ci := 5) (q0 := 0) rfl rfl) (fun _ => adr_rf) rfl hl.1 rfl (Nat.le_of_ble_eq_true rfl) ⟨Nat.le_trans (by omega) hce, Nat.le_trans (by omega) hsl⟩ dL_law_1474 (fun rv u2 H locs hp2 hP hD hS => ?_)
  have hP := P_nilF hP; have hD := D_nilF hD
  have hr2 : rv = (opVic s0 (xs (nI (4 * k + 1)).toNatClampNeg) (xs (nI (4 * k + 2)).toNatClampNeg) (xs (nI (4 * k + 3)).toNatClampNeg)).2.1 := hp2.1
  have hth : u2.1 = nI (opVic s0 (xs (nI (4 * k + 1)).toNatClampNeg) (xs (nI (4 * k + 2)).toNatClampNeg) (xs (nI (4 * k + 3)).toNatClampNeg)).1 := hp2.2.1
  have hZ1 : LZu (n + 80) (opVic s0 (xs (nI (4 * k + 1)).toNatClampNeg) (xs (nI (4 * k + 2)).toNatClampNeg) (xs (nI (4 * k + 3)).toNatClampNeg)).2.2 u2 := hp2.2.2
  rw [hr2]
  have hP : va_P D vwCl (([(oa, outE cL u.2)] ++ lmW cI cT x a o b t h ra (opVic s0 (xs (nI (4 * k + 1)).toNatClampNeg) (xs (nI (4 * k + 2)).toNatClampNeg) (xs (nI (4 * k + 3)).toNatClampNeg)).2.2 u.1) ++ rfW cI ad (opVic s0 (xs (nI (4 * k + 1)).toNatClampNeg) (xs (nI (4 * k + 2)).toNatClampNeg) (xs (nI (4 * k + 3)).toNatClampNeg)).2.2 u2) H := hP; have hD : va_D A (([(oa, outE cL u.2)] ++ lmW cI cT x a o b t h ra (opVic s0 (xs (nI (4 * k + 1)).toNatClampNeg) (xs (nI (4 * k + 2)).toNatClampNeg) (xs (nI (4 * k + 3)).toNatClampNeg)).2.2 u.1) ++ rfW cI ad (opVic s0 (xs (nI (4 * k + 1)).toNatClampNeg) (xs (nI (4 * k + 2)).toNatClampNeg) (xs (nI (4 * k + 3)).toNatClampNeg)).2.2 u2) := hD
  refine lv_istore (lv' := [(6, .int (opVic s0 (xs (nI (4 * k + 1)).toNatClampNeg) (xs (nI (4 * k + 2)).toNatClampNeg) (xs (nI (4 * k + 3)).toNatClampNeg)).2.1), (5, .int (nI (opVic s0 (xs (nI (4 * k + 1)).toNatClampNeg) (xs (nI (4 * k + 2)).toNatClampNeg) (xs (nI (4 * k + 3)).toNatClampNeg)).1)), (0, .ref sb), (1, .ref (x 0)), (2, .ref (ad 0)), (3, .ref oa), (4, .int (nI (4 * k)))]) hx hb dL_law_1477 hl (by decide) rfl (fun ls hl => ?_)
  refine lv_aload_n hx hb dL_law_1479 rfl (lv_at hl 4 rfl) ?_
  clear hr2 hp2
  refine call_i (X := ([(oa, outE cL u.2)] ++ lmW cI cT x a o b t h ra (opVic s0 (xs (nI (4 * k + 1)).toNatClampNeg) (xs (nI (4 * k + 2)).toNatClampNeg) (xs (nI (4 * k + 3)).toNatClampNeg)).2.2 u.1)) (Wc := rfW cI ad (opVic s0 (xs (nI (4 * k + 1)).toNatClampNeg) (xs (nI (4 * k + 2)).toNatClampNeg) (xs (nI (4 * k + 3)).toNatClampNeg)).2.2 u2) (Z := []) (As := []) (rest := []) ⟨hx, hb, hml, hown, hts⟩ (c_X5_thrown l D cI cT ad _ _ _ _ _ _ _ _ _ _ _ _ _ _) (cwV 0 hts gL_law_X5_thrown rfl rfl rfl (by decide +kernel) ⟨Nat.le_of_ble_eq_true rfl, Nat.le_of_ble_eq_true rfl⟩) hK2 (P_nilE hP) (D_nilE hD) hS hA (va_recv hK2 (sub_mid (P_nilE hP)) (ci := 5) (q0 := 0) rfl rfl) (fun _ => adr_rf) rfl hl.1 rfl (Nat.le_of_ble_eq_true rfl) ⟨Nat.le_trans (by omega) hce, Nat.le_trans (by omega) hsl⟩ dL_law_1480 (fun rv2 u3 H locs hp3 hP hD hS => ?_)
  have hP := P_nilF hP; have hD := D_nilF hD
  have hr3 : rv2 = nI (opVic s0 (xs (nI (4 * k + 1)).toNatClampNeg) (xs (nI (4 * k + 2)).toNatClampNeg) (xs (nI (4 * k + 3)).toNatClampNeg)).1 := hp3.trans hth
  rw [hr3]
  have hP : va_P D vwCl (lwW cI cT cL x a o b t h ra ad oa (opVic s0 (xs (nI (4 * k + 1)).toNatClampNeg) (xs (nI (4 * k + 2)).toNatClampNeg) (xs (nI (4 * k + 3)).toNatClampNeg)).2.2 u.1 u2 u.2) H := hP; have hD : va_D A (lwW cI cT cL x a o b t h ra ad oa (opVic s0 (xs (nI (4 * k + 1)).toNatClampNeg) (xs (nI (4 * k + 2)).toNatClampNeg) (xs (nI (4 * k + 3)).toNatClampNeg)).2.2 u.1 u2 u.2) := hD
  refine lv_iload hx hb dL_law_1483 (lv_at hl 1 rfl) ?_
  refine lv_icmp_eq (tgt := 1490) hx hb dL_law_1485 (by decide) (fun _ => ?_) (fun h => absurd rfl h)
  refine lv_iload hx hb dL_law_1490 (lv_at hl 1 rfl) ?_
  refine lv_if_ne (tgt := 1507) hx hb dL_law_1492 (by decide) (fun h9 => ?_) (fun h9 => ?_)
  · refine lv_goto (tgt := 1575) hx hb dL_law_1507 (by decide) ?_
    exact KO (opVic s0 (xs (nI (4 * k + 1)).toNatClampNeg) (xs (nI (4 * k + 2)).toNatClampNeg) (xs (nI (4 * k + 3)).toNatClampNeg)).2.2 u.1 u2 u.2 H locs hP hD hS hR1 hZ1 _ (lv_sub hl [2, 3, 4, 5, 6] rfl)
  · have h0 : (opVic s0 (xs (nI (4 * k + 1)).toNatClampNeg) (xs (nI (4 * k + 2)).toNatClampNeg) (xs (nI (4 * k + 3)).toNatClampNeg)).1 = 0 := (nI_eq (a := (opVic s0 (xs (nI (4 * k + 1)).toNatClampNeg) (xs (nI (4 * k + 2)).toNatClampNeg) (xs (nI (4 * k + 3)).toNatClampNeg)).1) (b := 0) (by omega) (by decide)).mp h9
    refine lv_aload_n hx hb dL_law_1495 rfl (lv_at hl 5 rfl) ?_
    refine lv_iconst (v := nI 0) hx hb dL_law_1496 (by decide) ?_
    refine va_lald hx hb hK hP 0 2 rfl rfl (vp_in_nI (by decide) (by decide)) dL_law_1497 ?_
    rw [show (nI 0).toNatClampNeg = 0 by decide, hv h0]
    refine lv_iload hx hb dL_law_1498 (lv_at hl 0 rfl) ?_
    refine lv_i2l (v := (opVic s0 (xs (nI (4 * k + 1)).toNatClampNeg) (xs (nI (4 * k + 2)).toNatClampNeg) (xs (nI (4 * k + 3)).toNatClampNeg)).2.1.toInt64) hx hb dL_law_1500 rfl ?_
    refine W.lcmp hx hb dL_law_1501 ?_
    rw [lgc]
    refine lv_if_eq (tgt := 1507) hx hb dL_law_1502 (by decide) (fun _ => ?_) (fun h => absurd rfl h)
    refine lv_goto (tgt := 1575) hx hb dL_law_1507 (by decide) ?_
    exact KO (opVic s0 (xs (nI (4 * k + 1)).toNatClampNeg) (xs (nI (4 * k + 2)).toNatClampNeg) (xs (nI (4 * k + 3)).toNatClampNeg)).2.2 u.1 u2 u.2 H locs hP hD hS hR1 hZ1 _ (lv_sub hl [2, 3, 4, 5, 6] rfl)
set_option maxHeartbeats 1000000 in
set_option maxRecDepth 100000 in
theorem cs_brokenRings {p : Program} {l : Launch} {e : Env} {s : State} {m : MethodId} {below : List Frame} {meth : Method} {c : Code} {sb L : Nat} {xs : Nat → Int32} {D : va_G} {cI cT cL : ClassId} {A : Nat → Prop} {Q : State → Prop} (x a o b t h : Nat → Nat) (ra : Nat → Nat → Nat) (ad : Nat → Nat) (oa k cells slots n : Nat) (LB : LBx p l s m c sb L xs D cI cT cL A) (hkL : 4 * k + 4 ≤ L) (hL2 : L ≤ 2048) (hn : n + 80 < 2 ^ 31) (hce : cells + 4 ≤ 601024) (hsl : slots + 24 ≤ 7293034) (s0 : ST) (j0 : JT) (r0 : JR) (f0 : Nat → Int64) (H : Heap) (locs : List Loc) (hP : va_P D vwCl (lwW cI cT cL x a o b t h ra ad oa s0 j0 r0 f0) H) (hD : va_D A (lwW cI cT cL x a o b t h ra ad oa s0 j0 r0 f0)) (hS : va_S A s.heap H locs) (hR : LR s0 j0) (hZ : LZu n s0 r0) (ls : Array Slot) (hl : lv_has ls 7 (lwL sb (x 0) (ad 0) oa k)) (KO : LKo p l e s m below meth c sb D cI cT cL A Q x a o b t h ra ad oa k (cells + 4) (slots + 24) (n + 80)) : W p l e room_1 s m #[Value.ref sb] below meth c H locs cells slots Q (F0 m 1510 ls []) := by
  obtain ⟨hx, hb, hml, hown, hts, hK, hX0, hbl, hbA, hA, hX, hflag⟩ := LB
  have hK2 : va_K D vwCl (TY cI cT) s := hK.sub (tys' := TY cI cT) [0, 1] rfl
  refine lv_aload_n hx hb dL_law_1510 rfl (lv_at hl 1 rfl) ?_
  refine call_i (X := [(oa, outE cL f0)]) (Wc := lmW cI cT x a o b t h ra s0 j0) (Z := rfW cI ad s0 r0) (As := []) (rest := []) ⟨hx, hb, hml, hown, hts⟩ (c_X4_brokenRings l D cI cT x a o b t h ra s0 j0 hR) (cwV 0 hts gL_law_X4_brokenRings rfl rfl rfl (by decide +kernel) ⟨Nat.le_of_ble_eq_true rfl, Nat.le_of_ble_eq_true rfl⟩) hK2 hP hD hS hA (va_recv hK2 (sub_mid hP) (ci := 4) (q0 := 0) rfl rfl) (fun _ => adr_lm) rfl hl.1 rfl (Nat.le_of_ble_eq_true rfl) ⟨Nat.le_trans (by omega) hce, Nat.le_trans (by omega) hsl⟩ dL_law_1511 (fun r u H locs hp hP hD hS => ?_)
  have hr : r = (opV s0 (s0.1 8 1)).2.1 := hp.1
  have hR1 : LR (opV s0 (s0.1 8 1)).2.2 u := hp.2
  rw [hr]
  have hP : va_P D vwCl (([(oa, outE cL f0)] ++ lmW cI cT x a o b t h ra (opV s0 (s0.1 8 1)).2.2 u) ++ rfW cI ad s0 r0) H := hP; have hD : va_D A (([(oa, outE cL f0)] ++ lmW cI cT x a o b t h ra (opV s0 (s0.1 8 1)).2.2 u) ++ rfW cI ad s0 r0) := hD
  refine lv_aload_n hx hb dL_law_1514 rfl (lv_at hl 2 rfl) ?_
  refine call_i (X := ([(oa, outE cL f0)] ++ lmW cI cT x a o b t h ra (opV s0 (s0.1 8 1)).2.2 u)) (Wc := rfW cI ad s0 r0) (Z := []) (As := []) (rest := [.int (opV s0 (s0.1 8 1)).2.1]) ⟨hx, hb, hml, hown, hts⟩ (c_X5_brokenRings l D cI cT ad _ 0 0 _ _ _ _ _ _ _ _ _ _ _ s0.1 s0.2.1 s0.2.2.1 s0.2.2.2.1 s0.2.2.2.2 n hZ hn) (cwV 0 hts gL_law_X5_brokenRings rfl rfl rfl (by decide +kernel) ⟨Nat.le_of_ble_eq_true rfl, Nat.le_of_ble_eq_true rfl⟩) hK2 (P_nilE hP) (D_nilE hD) hS hA (va_recv hK2 (sub_mid (P_nilE hP)) (ci := 5) (q0 := 0) rfl rfl) (fun _ => adr_rf) rfl hl.1 rfl (Nat.le_of_ble_eq_true rfl) ⟨Nat.le_trans (by omega) hce, Nat.le_trans (by omega) hsl⟩ dL_law_1515 (fun rv u2 H locs hp2 hP hD hS => ?_)
  have hP := P_nilF hP; have hD := D_nilF hD
  have hr2 : rv = (opV s0 (s0.1 8 1)).2.1 := hp2.1
  have hZ1 : LZu (n + 80) (opV s0 (s0.1 8 1)).2.2 u2 := hp2.2.2
  rw [hr2]
  have hP : va_P D vwCl (lwW cI cT cL x a o b t h ra ad oa (opV s0 (s0.1 8 1)).2.2 u u2 f0) H := hP; have hD : va_D A (lwW cI cT cL x a o b t h ra ad oa (opV s0 (s0.1 8 1)).2.2 u u2 f0) := hD
  refine lv_icmp_eq (tgt := 1575) hx hb dL_law_1518 (by decide) (fun _ => ?_) (fun h => absurd rfl h)
  refine W.widen (k := cells + 4) (n := slots + 24) (by omega) (by omega) ?_
  exact KO (opV s0 (s0.1 8 1)).2.2 u u2 f0 H locs hP hD hS hR1 hZ1 _ hl
set_option maxHeartbeats 1000000 in
set_option maxRecDepth 100000 in
theorem cs_lostWork {p : Program} {l : Launch} {e : Env} {s : State} {m : MethodId} {below : List Frame} {meth : Method} {c : Code} {sb L : Nat} {xs : Nat → Int32} {D : va_G} {cI cT cL : ClassId} {A : Nat → Prop} {Q : State → Prop} (x a o b t h : Nat → Nat) (ra : Nat → Nat → Nat) (ad : Nat → Nat) (oa k cells slots n : Nat) (LB : LBx p l s m c sb L xs D cI cT cL A) (hkL : 4 * k + 4 ≤ L) (hL2 : L ≤ 2048) (hn : n + 80 < 2 ^ 31) (hce : cells + 4 ≤ 601024) (hsl : slots + 24 ≤ 7293034) (s0 : ST) (j0 : JT) (r0 : JR) (f0 : Nat → Int64) (H : Heap) (locs : List Loc) (hP : va_P D vwCl (lwW cI cT cL x a o b t h ra ad oa s0 j0 r0 f0) H) (hD : va_D A (lwW cI cT cL x a o b t h ra ad oa s0 j0 r0 f0)) (hS : va_S A s.heap H locs) (hR : LR s0 j0) (hZ : LZu n s0 r0) (ls : Array Slot) (hl : lv_has ls 7 (lwL sb (x 0) (ad 0) oa k)) (KO : LKo p l e s m below meth c sb D cI cT cL A Q x a o b t h ra ad oa k (cells + 4) (slots + 24) (n + 80)) : W p l e room_1 s m #[Value.ref sb] below meth c H locs cells slots Q (F0 m 1523 ls []) := by
  obtain ⟨hx, hb, hml, hown, hts, hK, hX0, hbl, hbA, hA, hX, hflag⟩ := LB
  have hK2 : va_K D vwCl (TY cI cT) s := hK.sub (tys' := TY cI cT) [0, 1] rfl
  refine lv_aload_n hx hb dL_law_1523 rfl (lv_at hl 1 rfl) ?_
  refine call_i (X := [(oa, outE cL f0)]) (Wc := lmW cI cT x a o b t h ra s0 j0) (Z := rfW cI ad s0 r0) (As := []) (rest := []) ⟨hx, hb, hml, hown, hts⟩ (c_X4_lostWork l D cI cT x a o b t h ra s0 j0 hR) (cwV 0 hts gL_law_X4_lostWork rfl rfl rfl (by decide +kernel) ⟨Nat.le_of_ble_eq_true rfl, Nat.le_of_ble_eq_true rfl⟩) hK2 hP hD hS hA (va_recv hK2 (sub_mid hP) (ci := 4) (q0 := 0) rfl rfl) (fun _ => adr_lm) rfl hl.1 rfl (Nat.le_of_ble_eq_true rfl) ⟨Nat.le_trans (by omega) hce, Nat.le_trans (by omega) hsl⟩ dL_law_1524 (fun r u H locs hp hP hD hS => ?_)
  have hr : r = (opV s0 (s0.1 8 2)).2.1 := hp.1
  have hR1 : LR (opV s0 (s0.1 8 2)).2.2 u := hp.2
  rw [hr]
  have hP : va_P D vwCl (([(oa, outE cL f0)] ++ lmW cI cT x a o b t h ra (opV s0 (s0.1 8 2)).2.2 u) ++ rfW cI ad s0 r0) H := hP; have hD : va_D A (([(oa, outE cL f0)] ++ lmW cI cT x a o b t h ra (opV s0 (s0.1 8 2)).2.2 u) ++ rfW cI ad s0 r0) := hD
  refine lv_aload_n hx hb dL_law_1527 rfl (lv_at hl 2 rfl) ?_
  refine call_i (X := ([(oa, outE cL f0)] ++ lmW cI cT x a o b t h ra (opV s0 (s0.1 8 2)).2.2 u)) (Wc := rfW cI ad s0 r0) (Z := []) (As := []) (rest := [.int (opV s0 (s0.1 8 2)).2.1]) ⟨hx, hb, hml, hown, hts⟩ (c_X5_lostWork l D cI cT ad _ 0 0 _ _ _ _ _ _ _ _ _ _ _ s0.1 s0.2.1 s0.2.2.1 s0.2.2.2.1 s0.2.2.2.2 n hZ hn) (cwV 0 hts gL_law_X5_lostWork rfl rfl rfl (by decide +kernel) ⟨Nat.le_of_ble_eq_true rfl, Nat.le_of_ble_eq_true rfl⟩) hK2 (P_nilE hP) (D_nilE hD) hS hA (va_recv hK2 (sub_mid (P_nilE hP)) (ci := 5) (q0 := 0) rfl rfl) (fun _ => adr_rf) rfl hl.1 rfl (Nat.le_of_ble_eq_true rfl) ⟨Nat.le_trans (by omega) hce, Nat.le_trans (by omega) hsl⟩ dL_law_1528 (fun rv u2 H locs hp2 hP hD hS => ?_)
  have hP := P_nilF hP; have hD := D_nilF hD
  have hr2 : rv = (opV s0 (s0.1 8 2)).2.1 := hp2.1
  have hZ1 : LZu (n + 80) (opV s0 (s0.1 8 2)).2.2 u2 := hp2.2.2
  rw [hr2]
  have hP : va_P D vwCl (lwW cI cT cL x a o b t h ra ad oa (opV s0 (s0.1 8 2)).2.2 u u2 f0) H := hP; have hD : va_D A (lwW cI cT cL x a o b t h ra ad oa (opV s0 (s0.1 8 2)).2.2 u u2 f0) := hD
  refine lv_icmp_eq (tgt := 1575) hx hb dL_law_1531 (by decide) (fun _ => ?_) (fun h => absurd rfl h)
  refine W.widen (k := cells + 4) (n := slots + 24) (by omega) (by omega) ?_
  exact KO (opV s0 (s0.1 8 2)).2.2 u u2 f0 H locs hP hD hS hR1 hZ1 _ hl
set_option maxHeartbeats 1000000 in
set_option maxRecDepth 100000 in
theorem cs_locksHeld {p : Program} {l : Launch} {e : Env} {s : State} {m : MethodId} {below : List Frame} {meth : Method} {c : Code} {sb L : Nat} {xs : Nat → Int32} {D : va_G} {cI cT cL : ClassId} {A : Nat → Prop} {Q : State → Prop} (x a o b t h : Nat → Nat) (ra : Nat → Nat → Nat) (ad : Nat → Nat) (oa k cells slots n : Nat) (LB : LBx p l s m c sb L xs D cI cT cL A) (hkL : 4 * k + 4 ≤ L) (hL2 : L ≤ 2048) (hn : n + 80 < 2 ^ 31) (hce : cells + 4 ≤ 601024) (hsl : slots + 24 ≤ 7293034) (s0 : ST) (j0 : JT) (r0 : JR) (f0 : Nat → Int64) (H : Heap) (locs : List Loc) (hP : va_P D vwCl (lwW cI cT cL x a o b t h ra ad oa s0 j0 r0 f0) H) (hD : va_D A (lwW cI cT cL x a o b t h ra ad oa s0 j0 r0 f0)) (hS : va_S A s.heap H locs) (hR : LR s0 j0) (hZ : LZu n s0 r0) (ls : Array Slot) (hl : lv_has ls 7 (lwL sb (x 0) (ad 0) oa k)) (KO : LKo p l e s m below meth c sb D cI cT cL A Q x a o b t h ra ad oa k (cells + 4) (slots + 24) (n + 80)) : W p l e room_1 s m #[Value.ref sb] below meth c H locs cells slots Q (F0 m 1536 ls []) := by
  obtain ⟨hx, hb, hml, hown, hts, hK, hX0, hbl, hbA, hA, hX, hflag⟩ := LB
  have hK2 : va_K D vwCl (TY cI cT) s := hK.sub (tys' := TY cI cT) [0, 1] rfl
  refine lv_aload_n hx hb dL_law_1536 rfl (lv_at hl 1 rfl) ?_
  refine call_i (X := [(oa, outE cL f0)]) (Wc := lmW cI cT x a o b t h ra s0 j0) (Z := rfW cI ad s0 r0) (As := []) (rest := []) ⟨hx, hb, hml, hown, hts⟩ (c_X4_locksHeld l D cI cT x a o b t h ra s0 j0 hR) (cwV 0 hts gL_law_X4_locksHeld rfl rfl rfl (by decide +kernel) ⟨Nat.le_of_ble_eq_true rfl, Nat.le_of_ble_eq_true rfl⟩) hK2 hP hD hS hA (va_recv hK2 (sub_mid hP) (ci := 4) (q0 := 0) rfl rfl) (fun _ => adr_lm) rfl hl.1 rfl (Nat.le_of_ble_eq_true rfl) ⟨Nat.le_trans (by omega) hce, Nat.le_trans (by omega) hsl⟩ dL_law_1537 (fun r u H locs hp hP hD hS => ?_)
  have hr : r = (opV s0 (nI (lkN s0.1 10))).2.1 := hp.1
  have hR1 : LR (opV s0 (nI (lkN s0.1 10))).2.2 u := hp.2
  rw [hr]
  have hP : va_P D vwCl (([(oa, outE cL f0)] ++ lmW cI cT x a o b t h ra (opV s0 (nI (lkN s0.1 10))).2.2 u) ++ rfW cI ad s0 r0) H := hP; have hD : va_D A (([(oa, outE cL f0)] ++ lmW cI cT x a o b t h ra (opV s0 (nI (lkN s0.1 10))).2.2 u) ++ rfW cI ad s0 r0) := hD
  refine lv_aload_n hx hb dL_law_1540 rfl (lv_at hl 2 rfl) ?_
  refine call_i (X := ([(oa, outE cL f0)] ++ lmW cI cT x a o b t h ra (opV s0 (nI (lkN s0.1 10))).2.2 u)) (Wc := rfW cI ad s0 r0) (Z := []) (As := []) (rest := [.int (opV s0 (nI (lkN s0.1 10))).2.1]) ⟨hx, hb, hml, hown, hts⟩ (c_X5_locksHeld l D cI cT ad _ 0 0 _ _ _ _ _ _ _ _ _ _ _ s0.1 s0.2.1 s0.2.2.1 s0.2.2.2.1 s0.2.2.2.2 n hZ hn) (cwV 0 hts gL_law_X5_locksHeld rfl rfl rfl (by decide +kernel) ⟨Nat.le_of_ble_eq_true rfl, Nat.le_of_ble_eq_true rfl⟩) hK2 (P_nilE hP) (D_nilE hD) hS hA (va_recv hK2 (sub_mid (P_nilE hP)) (ci := 5) (q0 := 0) rfl rfl) (fun _ => adr_rf) rfl hl.1 rfl (Nat.le_of_ble_eq_true rfl) ⟨Nat.le_trans (by omega) hce, Nat.le_trans (by omega) hsl⟩ dL_law_1541 (fun rv u2 H locs hp2 hP hD hS => ?_)
  have hP := P_nilF hP; have hD := D_nilF hD
  have hr2 : rv = (opV s0 (nI (lkN s0.1 10))).2.1 := hp2.1
  have hZ1 : LZu (n + 80) (opV s0 (nI (lkN s0.1 10))).2.2 u2 := hp2.2.2
  rw [hr2]
  have hP : va_P D vwCl (lwW cI cT cL x a o b t h ra ad oa (opV s0 (nI (lkN s0.1 10))).2.2 u u2 f0) H := hP; have hD : va_D A (lwW cI cT cL x a o b t h ra ad oa (opV s0 (nI (lkN s0.1 10))).2.2 u u2 f0) := hD
  refine lv_icmp_eq (tgt := 1575) hx hb dL_law_1544 (by decide) (fun _ => ?_) (fun h => absurd rfl h)
  refine W.widen (k := cells + 4) (n := slots + 24) (by omega) (by omega) ?_
  exact KO (opV s0 (nI (lkN s0.1 10))).2.2 u u2 f0 H locs hP hD hS hR1 hZ1 _ hl
set_option maxHeartbeats 1000000 in
set_option maxRecDepth 100000 in
theorem cs_savedStates {p : Program} {l : Launch} {e : Env} {s : State} {m : MethodId} {below : List Frame} {meth : Method} {c : Code} {sb L : Nat} {xs : Nat → Int32} {D : va_G} {cI cT cL : ClassId} {A : Nat → Prop} {Q : State → Prop} (x a o b t h : Nat → Nat) (ra : Nat → Nat → Nat) (ad : Nat → Nat) (oa k cells slots n : Nat) (LB : LBx p l s m c sb L xs D cI cT cL A) (hkL : 4 * k + 4 ≤ L) (hL2 : L ≤ 2048) (hn : n + 80 < 2 ^ 31) (hce : cells + 4 ≤ 601024) (hsl : slots + 24 ≤ 7293034) (s0 : ST) (j0 : JT) (r0 : JR) (f0 : Nat → Int64) (H : Heap) (locs : List Loc) (hP : va_P D vwCl (lwW cI cT cL x a o b t h ra ad oa s0 j0 r0 f0) H) (hD : va_D A (lwW cI cT cL x a o b t h ra ad oa s0 j0 r0 f0)) (hS : va_S A s.heap H locs) (hR : LR s0 j0) (hZ : LZu n s0 r0) (ls : Array Slot) (hl : lv_has ls 7 (lwL sb (x 0) (ad 0) oa k)) (KO : LKo p l e s m below meth c sb D cI cT cL A Q x a o b t h ra ad oa k (cells + 4) (slots + 24) (n + 80)) : W p l e room_1 s m #[Value.ref sb] below meth c H locs cells slots Q (F0 m 1549 ls []) := by
  obtain ⟨hx, hb, hml, hown, hts, hK, hX0, hbl, hbA, hA, hX, hflag⟩ := LB
  have hK2 : va_K D vwCl (TY cI cT) s := hK.sub (tys' := TY cI cT) [0, 1] rfl
  refine lv_aload_n hx hb dL_law_1549 rfl (lv_at hl 1 rfl) ?_
  refine call_i (X := [(oa, outE cL f0)]) (Wc := lmW cI cT x a o b t h ra s0 j0) (Z := rfW cI ad s0 r0) (As := []) (rest := []) ⟨hx, hb, hml, hown, hts⟩ (c_X4_savedStates l D cI cT x a o b t h ra s0 j0 hR) (cwV 0 hts gL_law_X4_savedStates rfl rfl rfl (by decide +kernel) ⟨Nat.le_of_ble_eq_true rfl, Nat.le_of_ble_eq_true rfl⟩) hK2 hP hD hS hA (va_recv hK2 (sub_mid hP) (ci := 4) (q0 := 0) rfl rfl) (fun _ => adr_lm) rfl hl.1 rfl (Nat.le_of_ble_eq_true rfl) ⟨Nat.le_trans (by omega) hce, Nat.le_trans (by omega) hsl⟩ dL_law_1550 (fun r u H locs hp hP hD hS => ?_)
  have hr : r = (opV s0 (nI s0.2.2.1.length)).2.1 := hp.1
  have hR1 : LR (opV s0 (nI s0.2.2.1.length)).2.2 u := hp.2
  rw [hr]
  have hP : va_P D vwCl (([(oa, outE cL f0)] ++ lmW cI cT x a o b t h ra (opV s0 (nI s0.2.2.1.length)).2.2 u) ++ rfW cI ad s0 r0) H := hP; have hD : va_D A (([(oa, outE cL f0)] ++ lmW cI cT x a o b t h ra (opV s0 (nI s0.2.2.1.length)).2.2 u) ++ rfW cI ad s0 r0) := hD
  refine lv_aload_n hx hb dL_law_1553 rfl (lv_at hl 2 rfl) ?_
  refine call_i (X := ([(oa, outE cL f0)] ++ lmW cI cT x a o b t h ra (opV s0 (nI s0.2.2.1.length)).2.2 u)) (Wc := rfW cI ad s0 r0) (Z := []) (As := []) (rest := [.int (opV s0 (nI s0.2.2.1.length)).2.1]) ⟨hx, hb, hml, hown, hts⟩ (c_X5_savedStates l D cI cT ad _ 0 0 _ _ _ _ _ _ _ _ _ _ _ s0.1 s0.2.1 s0.2.2.1 s0.2.2.2.1 s0.2.2.2.2 n hZ hn) (cwV 0 hts gL_law_X5_savedStates rfl rfl rfl (by decide +kernel) ⟨Nat.le_of_ble_eq_true rfl, Nat.le_of_ble_eq_true rfl⟩) hK2 (P_nilE hP) (D_nilE hD) hS hA (va_recv hK2 (sub_mid (P_nilE hP)) (ci := 5) (q0 := 0) rfl rfl) (fun _ => adr_rf) rfl hl.1 rfl (Nat.le_of_ble_eq_true rfl) ⟨Nat.le_trans (by omega) hce, Nat.le_trans (by omega) hsl⟩ dL_law_1554 (fun rv u2 H locs hp2 hP hD hS => ?_)
  have hP := P_nilF hP; have hD := D_nilF hD
  have hr2 : rv = (opV s0 (nI s0.2.2.1.length)).2.1 := hp2.1
  have hZ1 : LZu (n + 80) (opV s0 (nI s0.2.2.1.length)).2.2 u2 := hp2.2.2
  rw [hr2]
  have hP : va_P D vwCl (lwW cI cT cL x a o b t h ra ad oa (opV s0 (nI s0.2.2.1.length)).2.2 u u2 f0) H := hP; have hD : va_D A (lwW cI cT cL x a o b t h ra ad oa (opV s0 (nI s0.2.2.1.length)).2.2 u u2 f0) := hD
  refine lv_icmp_eq (tgt := 1575) hx hb dL_law_1557 (by decide) (fun _ => ?_) (fun h => absurd rfl h)
  refine W.widen (k := cells + 4) (n := slots + 24) (by omega) (by omega) ?_
  exact KO (opV s0 (nI s0.2.2.1.length)).2.2 u u2 f0 H locs hP hD hS hR1 hZ1 _ hl
set_option maxHeartbeats 1000000 in
set_option maxRecDepth 100000 in
theorem cs_textLength {p : Program} {l : Launch} {e : Env} {s : State} {m : MethodId} {below : List Frame} {meth : Method} {c : Code} {sb L : Nat} {xs : Nat → Int32} {D : va_G} {cI cT cL : ClassId} {A : Nat → Prop} {Q : State → Prop} (x a o b t h : Nat → Nat) (ra : Nat → Nat → Nat) (ad : Nat → Nat) (oa k cells slots n : Nat) (LB : LBx p l s m c sb L xs D cI cT cL A) (hkL : 4 * k + 4 ≤ L) (hL2 : L ≤ 2048) (hn : n + 80 < 2 ^ 31) (hce : cells + 4 ≤ 601024) (hsl : slots + 24 ≤ 7293034) (s0 : ST) (j0 : JT) (r0 : JR) (f0 : Nat → Int64) (H : Heap) (locs : List Loc) (hP : va_P D vwCl (lwW cI cT cL x a o b t h ra ad oa s0 j0 r0 f0) H) (hD : va_D A (lwW cI cT cL x a o b t h ra ad oa s0 j0 r0 f0)) (hS : va_S A s.heap H locs) (hR : LR s0 j0) (hZ : LZu n s0 r0) (ls : Array Slot) (hl : lv_has ls 7 (lwL sb (x 0) (ad 0) oa k)) (KO : LKo p l e s m below meth c sb D cI cT cL A Q x a o b t h ra ad oa k (cells + 4) (slots + 24) (n + 80)) : W p l e room_1 s m #[Value.ref sb] below meth c H locs cells slots Q (F0 m 1562 ls []) := by
  obtain ⟨hx, hb, hml, hown, hts, hK, hX0, hbl, hbA, hA, hX, hflag⟩ := LB
  have hK2 : va_K D vwCl (TY cI cT) s := hK.sub (tys' := TY cI cT) [0, 1] rfl
  refine lv_aload_n hx hb dL_law_1562 rfl (lv_at hl 1 rfl) ?_
  refine call_i (X := [(oa, outE cL f0)]) (Wc := lmW cI cT x a o b t h ra s0 j0) (Z := rfW cI ad s0 r0) (As := []) (rest := []) ⟨hx, hb, hml, hown, hts⟩ (c_X4_textLength l D cI cT x a o b t h ra s0 j0 hR) (cwV 0 hts gL_law_X4_textLength rfl rfl rfl (by decide +kernel) ⟨Nat.le_of_ble_eq_true rfl, Nat.le_of_ble_eq_true rfl⟩) hK2 hP hD hS hA (va_recv hK2 (sub_mid hP) (ci := 4) (q0 := 0) rfl rfl) (fun _ => adr_lm) rfl hl.1 rfl (Nat.le_of_ble_eq_true rfl) ⟨Nat.le_trans (by omega) hce, Nat.le_trans (by omega) hsl⟩ dL_law_1563 (fun r u H locs hp hP hD hS => ?_)
  have hr : r = (opV s0 (nI s0.2.2.2.2)).2.1 := hp.1
  have hR1 : LR (opV s0 (nI s0.2.2.2.2)).2.2 u := hp.2
  rw [hr]
  have hP : va_P D vwCl (([(oa, outE cL f0)] ++ lmW cI cT x a o b t h ra (opV s0 (nI s0.2.2.2.2)).2.2 u) ++ rfW cI ad s0 r0) H := hP; have hD : va_D A (([(oa, outE cL f0)] ++ lmW cI cT x a o b t h ra (opV s0 (nI s0.2.2.2.2)).2.2 u) ++ rfW cI ad s0 r0) := hD
  refine lv_aload_n hx hb dL_law_1566 rfl (lv_at hl 2 rfl) ?_
  refine call_i (X := ([(oa, outE cL f0)] ++ lmW cI cT x a o b t h ra (opV s0 (nI s0.2.2.2.2)).2.2 u)) (Wc := rfW cI ad s0 r0) (Z := []) (As := []) (rest := [.int (opV s0 (nI s0.2.2.2.2)).2.1]) ⟨hx, hb, hml, hown, hts⟩ (c_X5_textLength l D cI cT ad _ 0 0 _ _ _ _ _ _ _ _ _ _ _ s0.1 s0.2.1 s0.2.2.1 s0.2.2.2.1 s0.2.2.2.2 n hZ hn) (cwV 0 hts gL_law_X5_textLength rfl rfl rfl (by decide +kernel) ⟨Nat.le_of_ble_eq_true rfl, Nat.le_of_ble_eq_true rfl⟩) hK2 (P_nilE hP) (D_nilE hD) hS hA (va_recv hK2 (sub_mid (P_nilE hP)) (ci := 5) (q0 := 0) rfl rfl) (fun _ => adr_rf) rfl hl.1 rfl (Nat.le_of_ble_eq_true rfl) ⟨Nat.le_trans (by omega) hce, Nat.le_trans (by omega) hsl⟩ dL_law_1567 (fun rv u2 H locs hp2 hP hD hS => ?_)
  have hP := P_nilF hP; have hD := D_nilF hD
  have hr2 : rv = (opV s0 (nI s0.2.2.2.2)).2.1 := hp2.1
  have hZ1 : LZu (n + 80) (opV s0 (nI s0.2.2.2.2)).2.2 u2 := hp2.2.2
  rw [hr2]
  have hP : va_P D vwCl (lwW cI cT cL x a o b t h ra ad oa (opV s0 (nI s0.2.2.2.2)).2.2 u u2 f0) H := hP; have hD : va_D A (lwW cI cT cL x a o b t h ra ad oa (opV s0 (nI s0.2.2.2.2)).2.2 u u2 f0) := hD
  refine lv_icmp_eq (tgt := 1575) hx hb dL_law_1570 (by decide) (fun _ => ?_) (fun h => absurd rfl h)
  refine W.widen (k := cells + 4) (n := slots + 24) (by omega) (by omega) ?_
  exact KO (opV s0 (nI s0.2.2.2.2)).2.2 u u2 f0 H locs hP hD hS hR1 hZ1 _ hl
