theorem XW_of {s : State} {args : Array Value} {E : String} (h1 : (Cond.castable E E).before args s = true) (h2 : (xDecl "java/lang/RuntimeException").before args s = true) (h3 : (xDecl "java/lang/Exception").before args s = true) (h4 : (xDecl "java/lang/Throwable").before args s = true) : XW E s := fun w hw => by
  rcases List.mem_cons.mp hw with rfl | hw
  · exact va_Nw.of rfl h1
  · rcases List.mem_cons.mp hw with rfl | hw
    · exact va_Nw.of rfl h2
    · rcases List.mem_cons.mp hw with rfl | hw
      · exact va_Nw.of rfl h3
      · rcases List.mem_cons.mp hw with rfl | hw
        · exact va_Nw.of rfl h4
        · cases hw
theorem vkr_of {s : State} {args : Array Value} {k : Nat} {tx : String} {cur : Nat} (hc : s.vm.findClass RX4 = some cur) (h : (Cond.stringRef RX4 k tx).before args s = true) : ∃ sa : Nat, vk_R RX4 k tx sa s := by
  obtain ⟨_, _, _, sa, _, _, _, _, _, he⟩ := Cond.stringRef_spec hc h
  exact ⟨sa, vk_R.of h he⟩
/-- what the Statement says of the start, for exceptions -/
theorem XL_start {s : State} {b : Nat} (hts : ∀ w ∈ lw_tbl, w.before #[Value.ref b] s = true) (hgv : (Jvm.Cond.and given_1 narrow_1).before #[Value.ref b] s = true) {cur : Nat} (hc : s.vm.findClass RX4 = some cur) : XL (fun q => s.heap.size ≤ q) s s.heap := by
  have mt : ∀ (i : Nat) (w : Cond), lw_tbl[i]? = some w → w.before #[Value.ref b] s = true := fun i w h => hts w (List.mem_of_getElem? h)
  have hA : ∀ q : Nat, q < s.heap.size → ¬ s.heap.size ≤ q := fun q h => Nat.not_le.mpr h
  have d1 := mt 187 (xDecl "java/lang/RuntimeException") (by decide +kernel)
  have d2 := mt 189 (xDecl "java/lang/Exception") (by decide +kernel)
  have d3 := mt 191 (xDecl "java/lang/Throwable") (by decide +kernel)
  refine ⟨⟨vx_Zqof (mt 210 (.laysStatic Bundle.tN "UNASSIGNED_STACK" Bundle.steD) (by decide +kernel)) (mt 21 (.initialized Bundle.tN) (by decide +kernel)) (flat_of_before _ hgv (.isRef (.static Bundle.tN "UNASSIGNED_STACK" Bundle.steD)) (by decide +kernel)) hA, vx_Zqof (mt 212 (.laysStatic Bundle.tN "SUPPRESSED_SENTINEL" Bundle.listD) (by decide +kernel)) (mt 21 (.initialized Bundle.tN) (by decide +kernel)) (flat_of_before _ hgv (.isRef (.static Bundle.tN "SUPPRESSED_SENTINEL" Bundle.listD)) (by decide +kernel)) hA, XW_of (mt 185 (.castable xI xI) (by decide +kernel)) d1 d2 d3, XW_of (mt 306 (.castable xA xA) (by decide +kernel)) d1 d2 d3, XW_of (mt 260 (.castable xS xS) (by decide +kernel)) d1 d2 d3, fun q hq => ?_⟩,
    va_Nc.of (flat_of_before _ hgv (.not (.castable xA xI)) (by decide +kernel)), va_Nc.of (flat_of_before _ hgv (.not (.castable xS xI)) (by decide +kernel)), va_Nc.of (flat_of_before _ hgv (.not (.castable xS xA)) (by decide +kernel))⟩
  have st : ∀ (i k : Nat) (tx : String), lw_tbl[i]? = some (.stringRef RX4 k tx) → ∃ sa : Nat, vk_R RX4 k tx sa s := fun i k tx h => vkr_of hc (mt i _ h)
  rcases List.mem_cons.mp hq with rfl | hq
  · exact st 407 77 "the amount is not 1 to 1000" (by decide +kernel)
  rcases List.mem_cons.mp hq with rfl | hq
  · exact st 452 177 "the index is negative" (by decide +kernel)
  rcases List.mem_cons.mp hq with rfl | hq
  · exact st 224 195 "there is no such transaction" (by decide +kernel)
  rcases List.mem_cons.mp hq with rfl | hq
  · exact st 303 197 "there is no such resource" (by decide +kernel)
  rcases List.mem_cons.mp hq with rfl | hq
  · exact st 313 199 "the mode is neither SHARED nor EXCLUSIVE" (by decide +kernel)
  rcases List.mem_cons.mp hq with rfl | hq
  · exact st 267 201 "the transaction is in another state" (by decide +kernel)
  cases hq

set_option maxHeartbeats 4000000 in
set_option maxRecDepth 100000 in
theorem whole_start {p : Program} {e : Env} {s : State} {m : MethodId} {below : List Frame} {meth : Method} {c : Code} (l : Launch) (hflags : l.flags = flags0) {b L : Nat} {xs : Nat → Int32} (hL : L ≤ 260) (C0 : lw_At p s m meth c b L xs) : W p l e room_1 s m #[Value.ref b] below meth c s.heap [] 0 0 (lw_Z below #[Value.ref b] s) (entryFrame m ([Value.ref b] : List Value).toArray 10) := by
  obtain ⟨hx, hb, hr, hml, hown, hts, hX0, hbl, hlocks, hgv⟩ := id C0
  have hflag : l.stackTraces = false := by rw [Launch.stackTraces, hflags]; decide
  have mt : ∀ (i : Nat) (w : Cond), lw_tbl[i]? = some w → w.before #[Value.ref b] s = true := fun i w h => hts w (List.mem_of_getElem? h)
  have htl : ∀ w ∈ wsL_law, w.before #[Value.ref b] s = true := fun w hw => hts w (wsL_law_in w hw)
  have hown : s.vm.findClass RL = some m.cls := hown
  have hb : c.code = cL_law := hb
  have hA : ∀ q : Nat, s.heap.size ≤ q → (fun q : Nat => s.heap.size ≤ q) q := fun _ h => h
  have hbA : ¬ (fun q : Nat => s.heap.size ≤ q) b := Nat.not_le.mpr hbl
  obtain ⟨c0, iS0, hKn0⟩ := u_known (C := RX0) (T := TX0) (N := 6) (n := 6) hts inX0 (mt 125 (.instantiable RX0 6) (by decide +kernel))
  obtain ⟨c1, iS1, hKn1⟩ := u_known (C := RX1) (T := TX1) (N := 3) (n := 3) hts inX1 (mt 105 (.instantiable RX1 3) (by decide +kernel))
  obtain ⟨c2, iS2, hKn2⟩ := u_known (C := RX2) (T := TX2) (N := 11) (n := 11) hts inX2 (mt 38 (.instantiable RX2 11) (by decide +kernel))
  obtain ⟨c3, iS3, hKn3⟩ := u_known (C := RX3) (T := TX3) (N := 2) (n := 2) hts inX3 (mt 92 (.instantiable RX3 2) (by decide +kernel))
  obtain ⟨c4, iS4, hKn4⟩ := u_known (C := RX4) (T := TX4) (N := 5) (n := 5) hts inX4 (mt 30 (.instantiable RX4 5) (by decide +kernel))
  obtain ⟨cI, hcI⟩ := K_int (mt 90 (.arrayClass .int) (by decide +kernel))
  have hAO : va_AO RX2 s := va_AO.of (mt 111 (.arrayOver (.object RX2)) (by decide +kernel))
  obtain ⟨cT, hcT⟩ := K_obj hAO
  have hNw : NwX4 s := ⟨hAO, va_Nw.of rfl (mt 93 (.methodLinkNest RX4 21 yX3_init RX4) (by decide +kernel)), va_Nw.of rfl (mt 126 (.methodLinkNest RX4 35 yX0_init RX4) (by decide +kernel))⟩
  have hXL := XL_start hts hgv hKn4.2.1
  obtain ⟨D, hKc⟩ : ∃ D : va_G, ∀ (k : Nat) (q : vw_C), vwCl[k]? = some q → u_Kn s q.1 q.2.1 q.2.2 (D.1 k) (D.2 k) := by
    refine ⟨(fun k => match k with | 0 => c0 | 1 => c1 | 2 => c2 | 3 => c3 | _ => c4, fun k => match k with | 0 => iS0 | 1 => iS1 | 2 => iS2 | 3 => iS3 | _ => iS4), ?_⟩
    intro k q hq
    match k, hq with
    | 0, hq => cases hq; exact hKn0
    | 1, hq => cases hq; exact hKn1
    | 2, hq => cases hq; exact hKn2
    | 3, hq => cases hq; exact hKn3
    | 4, hq => cases hq; exact hKn4
    | k + 5, hq => simp [vwCl] at hq
  have hK : va_K D vwCl (TY cI cT) s := ⟨hKc, fun k q h => by
    match k, h with
    | 0, h => cases h; exact hcI
    | 1, h => cases h; exact hcT
    | k + 2, h => simp [TY] at h⟩
  have hS : va_S (fun q : Nat => s.heap.size ≤ q) s.heap s.heap [] := va_S.rf
  have hP : va_P D vwCl [] s.heap := fun k q h => by simp at h
  have hD : va_D (fun q : Nat => s.heap.size ≤ q) [] := ⟨fun i j p q h => by simp at h, fun k q h => by simp at h⟩
  have hl := lv_entry ([.ref b]) (n := 10) (Nat.le_of_ble_eq_true rfl)
  rw [lg_entry_eq]
  generalize (lg_sl ([.ref b]) ++ List.replicate (10 - (lg_sl ([.ref b])).length) Slot.unset).toArray = ls at hl ⊢
  have hl : lv_has ls 10 [(0, .ref b)] := hl
  refine va_new (ci := 4) (fs := [.null, .null, .null, .null, .null]) (C := RX4) (T := TX4) (N := 5) hx hb htl inlX4 tyX4 tyX4_ok hown (htl (.classLink RL 10 RX4) (by decide +kernel)) (htl (.instantiable RX4 5) (by decide +kernel)) (htl (.initialized RX4) (by decide +kernel)) hK hP hD hS hA rfl (fun j hj => by rcases (show j = 0 ∨ j = 1 ∨ j = 2 ∨ j = 3 ∨ j = 4 by omega) with rfl | rfl | rfl | rfl | rfl <;> rfl) (Nat.le_of_ble_eq_true rfl) (Nat.le_of_ble_eq_true rfl) dL_law_0 (fun qx H hP hD hS => ?_)
  refine lv_dup hx hb dL_law_3 rfl ?_
  refine call_c (X := []) (Wc := [(qx, .inr (4, [.null, .null, .null, .null, .null]))]) (As := []) (rest := [.ref qx]) ⟨hx, hb, hml, hown, htl⟩ (c_X4_init l D cI cT (fun _ => qx)) (cwI 0 htl gL_law_X4_init rfl rfl rfl (htl (.initialized RX4) (by decide +kernel)) (htl (.methodLink RL 172 yX4_init) (by decide +kernel)) (htl (.instanceMethod yX4_init) (by decide +kernel)) rfl (by decide +kernel) ⟨Nat.le_of_ble_eq_true rfl, Nat.le_of_ble_eq_true rfl⟩) (fun u U h9 hE => ⟨va_AO.moved (by rw [h9]; exact Vm.Alike.refl _) hE.1, va_Nw.same rfl h9 hE.2.1, va_Nw.same rfl h9 hE.2.2⟩) (fun U hW => ⟨va_AO.moved hW.alike hNw.1, va_Nw.warmM hW hNw.2.1, va_Nw.warmM hW hNw.2.2⟩) hK hP hD hS hA rfl hl.1 rfl (Nat.le_of_ble_eq_true rfl) ⟨Nat.le_of_ble_eq_true rfl, Nat.le_of_ble_eq_true rfl⟩ dL_law_4 (fun u H locs _ hP hD hS => ?_)
  obtain ⟨ta, tr, br, tx, hi, ra⟩ := u
  have hP : va_P D vwCl (lmW cI cT (fun _ => qx) ta tr br tx hi ra iniS iniJ) H := hP
  have hD : va_D (fun q : Nat => s.heap.size ≤ q) (lmW cI cT (fun _ => qx) ta tr br tx hi ra iniS iniJ) := hD
  refine lv_astore_n (lv' := [(1, .ref qx), (0, .ref b)]) hx hb dL_law_7 rfl hl (by decide) rfl (fun ls hl => ?_)
  refine lv_iconst (v := nI 3) hx hb dL_law_8 (by decide) ?_
  refine r_newI hx hb (htl (.arrayClass .int) (by decide +kernel)) hK hP hD hS hA (n := 3) (by decide) (Nat.le_of_ble_eq_true rfl) (Nat.le_of_ble_eq_true rfl) dL_law_9 (fun ag H hP hD hS => ?_)
  refine lv_astore_n (lv' := [(2, .ref ag), (1, .ref qx), (0, .ref b)]) hx hb dL_law_11 rfl hl (by decide) rfl (fun ls hl => ?_)
  refine lv_bipush (v := nI 48) hx hb dL_law_12 (by decide) ?_
  refine r_newI hx hb (htl (.arrayClass .int) (by decide +kernel)) hK hP hD hS hA (n := 48) (by decide) (Nat.le_of_ble_eq_true rfl) (Nat.le_of_ble_eq_true rfl) dL_law_14 (fun aa H hP hD hS => ?_)
  refine lv_astore_n (lv' := [(3, .ref aa), (2, .ref ag), (1, .ref qx), (0, .ref b)]) hx hb dL_law_16 rfl hl (by decide) rfl (fun ls hl => ?_)
  refine lv_bipush (v := nI 10) hx hb dL_law_17 (by decide) ?_
  refine r_newI hx hb (htl (.arrayClass .int) (by decide +kernel)) hK hP hD hS hA (n := 10) (by decide) (Nat.le_of_ble_eq_true rfl) (Nat.le_of_ble_eq_true rfl) dL_law_19 (fun am H hP hD hS => ?_)
  refine lv_astore (lv' := [(4, .ref am), (3, .ref aa), (2, .ref ag), (1, .ref qx), (0, .ref b)]) hx hb dL_law_21 hl (by decide) rfl (fun ls hl => ?_)
  refine lv_bipush (v := nI 10) hx hb dL_law_23 (by decide) ?_
  refine va_newa (atype := .long) (ty := .long) (a0 := (10, .inr (.inl (fun _ => 0)))) hx hb (htl (.arrayClass .long) (by decide +kernel)) rfl hK hP hD hS hA (fun cA => rfl) (by decide) (by decide) (by decide) (Nat.le_of_ble_eq_true rfl) (Nat.le_of_ble_eq_true rfl) dL_law_25 (fun aq cL H hK2 hP hD hS => ?_)
  refine lv_astore (lv' := [(5, .ref aq), (4, .ref am), (3, .ref aa), (2, .ref ag), (1, .ref qx), (0, .ref b)]) hx hb dL_law_27 hl (by decide) rfl (fun ls hl => ?_)
  have hP := P_perm pmW hP
  have hD := D_perm pmW hD
  refine law_ini (cI := cI) (cT := cT) (cL := cL) b (fun _ => qx) am aa aq ag hx hb hK (fun H locs hP hD hS ls hl => ?_) H locs hP hD hS ls hl
  refine lv_aload_n hx hb dL_law_71 rfl (lv_at hl 1 rfl) ?_
  refine lv_aload_n hx hb dL_law_72 rfl (lv_at hl 3 rfl) ?_
  refine lv_aload hx hb dL_law_73 (lv_at hl 4 rfl) ?_
  refine lv_aload hx hb dL_law_75 (lv_at hl 5 rfl) ?_
  refine lv_aload_n hx hb dL_law_77 rfl (lv_at hl 2 rfl) ?_
  refine call_cu (X := []) (Z := []) (As := [.ref qx, .ref aa, .ref am, .ref aq, .ref ag]) (rest := []) ⟨hx, hb, hml, hown, htl⟩ (c_L_isSo l hflag D cI cT cL (fun _ => qx) ta tr br tx hi ra iniS iniJ am aa aq ag (fun _ => 0) (iaA 8 1) (fun _ => 0) (fun _ => 0) LR_ini MM_ini ZA_ini QL_ini GG_ini) (va_cwS 5 htl gL_law_L_isSo rfl rfl rfl (by decide +kernel) ⟨Nat.le_of_ble_eq_true rfl, Nat.le_of_ble_eq_true rfl⟩) hK2 (P_nilE hP) (D_nilE hD) hS hA hXL (fun _ => adr_g) rfl hl.1 rfl (Nat.le_of_ble_eq_true rfl) ⟨Nat.le_of_ble_eq_true rfl, Nat.le_of_ble_eq_true rfl⟩ dL_law_78 (fun r j2 H locs hp hP hD hS => ?_)
  obtain ⟨rfl, hR2⟩ := hp
  have hP := P_nil hP; have hD := D_nil hD
  refine lv_if_ne (tgt := 86) hx hb dL_law_81 (by decide) (fun _ => ?_) (fun h => absurd h (by decide))
  refine lv_iconst (v := nI 0) hx hb dL_law_86 (by decide) ?_
  refine lv_istore (lv' := [(6, .int (nI 0)), (0, .ref b), (1, .ref qx), (2, .ref ag), (3, .ref aa), (4, .ref am), (5, .ref aq)]) hx hb dL_law_87 hl (by decide) rfl (fun ls hl => ?_)
  exact law_loop (fun _ => qx) ta tr br tx hi ra am aa aq ag hL ⟨hx, hb, hml, hown, hts, hK2, hX0, hbl, hbA, hA, hXL, hflag⟩ hr hlocks 53 0 _ _ (by decide) (by decide) (by decide) (by decide) iniS j2 (fun _ => 0) (iaA 8 1) (fun _ => 0) (fun _ => 0) H locs hP hD hS hR2 MM_ini ZA_ini QL_ini GG_ini BB_ini ls (lv_sub hl [1, 2, 3, 4, 5, 6, 0] rfl)
set_option maxHeartbeats 4000000 in
theorem lw_walk (l : Launch) (hflags : l.flags = flags0) (b : Addr) (xs : List Int32) : MetFree l x (headSpec (Jvm.Cond.code x code maxLocals ret :: tables_1) room_1) (lw_P b xs) (fun _ _ _ _ _ => True) lw_Q := by
  refine MetFree.of_bodyS (code := code) (maxLocals := maxLocals) (ret := ret) (by decide) ?_ ?_
  · intro args s m h hn
    obtain ⟨meth, c, h1, h2, h3, h4, h5, h6, -, -⟩ := Cond.code_spec hn (atoms_spec (ws := Jvm.Cond.code x code maxLocals ret :: tables_1) h _ List.mem_cons_self)
    exact ⟨meth, c, h1, h2, h3, h4, h5, h6⟩
  · intro p e s m args below meth c s₁ B hml0 hP _
    obtain ⟨rfl, hx, hbd, hgv⟩ := hP
    obtain ⟨scr, harrAt, hlist, hof, hsmall⟩ := hx
    obtain ⟨hcb, hkn, -, -⟩ := State.arrayAt?_spec harrAt
    have hown : s.vm.findClass R_law = some m.cls := findClass_of_methodNamed B.named
    have hts0 : ∀ c ∈ (Jvm.Cond.code x code maxLocals ret :: tables_1), c.before #[Value.ref b] s = true := atoms_spec (ws := Jvm.Cond.code x code maxLocals ret :: tables_1) B.pre
    have hts : ∀ w ∈ lw_tbl, w.before #[Value.ref b] s = true := k2_hts_sels lw_privs (fun w hw => hts0 w (List.mem_cons_of_mem _ hw)) lw_privs_ok
    have hml : c.maxLocals = 10 := B.maxLocals_eq (hts0 _ List.mem_cons_self)
    have X₀ : Stand p l e room_1 s m #[Value.ref b] below meth c s₁ [] 0 0 := Stand.of_body B
    have hh0 : s₁.heap = s.heap := by rw [B.state]; rfl
    have hsz : scr.slots.size = xs.length := by rw [← Array.length_toList, hlist, List.length_map]
    have hval : ∀ j : Nat, j < xs.length → scr.slots[j]? = some (.int (xs.getD j 0)) := fun j hj => by
      rw [← Array.getElem?_toList, hlist]
      simp [hj]
    have hbl : b < s.heap.size := (Array.getElem?_eq_some_iff.mp hcb).1
    have hX : va_X b xs.length (fun j => xs.getD j 0) s s.heap := ⟨scr, hcb, hof, hkn, hsz, hval⟩
    have K : W p l e room_1 s m #[Value.ref b] below meth c s₁.heap [] 0 0 (lw_Z below #[Value.ref b] s) (entryFrame m ([Value.ref b] : List Value).toArray 10) := by
      rw [hh0]
      exact whole_start l hflags hbd ⟨B.exec, B.bytes, B.returns, hml, hown, hts, hX, hbl, B.notSynchronized, hgv⟩
    obtain ⟨t, a1, o, b1, b2, b3⟩ := K s₁ rfl X₀
    exact ⟨t, o, a1, b1, b2, b3⟩
theorem lw_pre_spec {args : Array Value} {s : State} (h : (Jvm.Cond.and given_1 narrow_1).before args s = true) (hr : rest_1_c.before args s = true) : ∃ (b : Addr) (xs : List Int32), lw_P b xs args s := by
  have hs := flat_of_before _ h
  have hq := flat_of_before _ hr
  have hc : (Cond.count 1).before args s = true := hs _ (by decide +kernel)
  have harr : (Cond.arrayOf (.arg 0) .int).before args s = true := hs _ (by decide +kernel)
  have hle : (Cond.le (.length (.arg 0)) (.int 260)).before args s = true := hs _ (by decide +kernel)
  have hlen : (Cond.isInt (.length (.arg 0))).before args s = true := hq _ (by decide +kernel)
  have hall : (Cond.all (.arg 0) (.isInt (.elem (.arg 0) (.index 0)))).before args s = true := hq _ (by decide +kernel)
  obtain ⟨b, xs, hb, hx⟩ := State.ints_of_pre rfl harr hlen hall
  have hsm : xs.length < 2 ^ 31 := hx.choose_spec.2.2.2
  have hev : (Term.length (.arg 0)).eval args s none [] s = some (.int xs.length.toInt32) := hx.length_eval hb
  have hv := Cond.le_ints hev (show (Term.int 260).eval args s none [] s = some (.int 260) from rfl)
  have hd : xs.length.toInt32 ≤ 260 := by
    simpa [Cond.before, Cond.holds, hv] using hle
  have hN : xs.length ≤ 260 := (Int32.ofNat_le_ofNat hsm (by decide)).mp (show Int32.ofNat xs.length ≤ Int32.ofNat 260 from hd)
  exact ⟨b, xs, Cond.one_arg hc (show args[0]? = some (.ref b) from hb), hx, hN, h⟩
theorem lw_comes (l : Launch) (hflags : l.flags = flags0) : Comes l x (Jvm.Cond.code x code maxLocals ret :: tables_1) room_1 (fun tb e args s => Calls_1 tb e args s ∧ rest_1 tb e args s ∧ Pre_1 tb e args s)
    (fun _ _ args s o t => lw_Q args s o t) := by
  intro p e ha hc hk s m args below hf hfit hheap happ hpre
  obtain ⟨b, xs, hP⟩ := lw_pre_spec hpre.2.2 hpre.2.1
  obtain ⟨k, o, h1, h2, h3, hQ⟩ := lw_walk l hflags b xs p e ha hc hk s m args below hf ((Spec.applies_iff_loose hf).mp happ).1 hP trivial
  exact ⟨k, o, h1, h2, h3, hQ⟩
theorem lw_frame {s t : State} {o : Outcome} {args : Array Value} (h : Framed s o t [] 894169 6418962) :
    Framed s o t (fieldLocs frame_1_writes args s ++ arrayLocs frame_1_arrays args s ++ staticLocs frame_1_statics s) 894169 6418962 := h
theorem lw_limb (L : Cond) (hL : ∀ (args : Array Value) (s t : State), L.after args s (.returned (some (.int 1))) t = true) :
    ArmFor flags0 classFile x code maxLocals ret World_1 tables_1 room_1 Calls_1 rest_1 Pre_1
      (fun tb e a s o t => postC L tb e a s o t ∧ Framed s o t (fieldLocs frame_1_writes a s ++ arrayLocs frame_1_arrays a s ++ staticLocs frame_1_statics s) 894169 6418962) := by
  intro l hflags _ _ p e ha hc hk s m args below hf hfit hheap happ hpre
  obtain ⟨k, o, h1, h2, h3, rfl, hF⟩ := lw_comes l hflags p e ha hc hk s m args below hf hfit hheap happ hpre
  exact ⟨k, _, h1, h2, h3, hL args s _, lw_frame hF⟩
theorem i_vc : Claimed_1_1 ∧ Claimed_1_2 := ⟨lw_limb limb_1_1 (fun args s t => by simp [limb_1_1, Cond.after, Cond.holds, Cond.value]), lw_limb limb_1_2 (fun args s t => Cond.after_iff.mpr (by
  first | (rw [show limb_1_2 = Cond.eq .result (.int 1) from rfl, Cond.eq_ints (x := 1) (y := 1) rfl rfl]; simp; done) | (simp [limb_1_2, Cond.value, Term.eval]; done)))⟩
