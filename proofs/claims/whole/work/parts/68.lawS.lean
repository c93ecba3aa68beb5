/-! THE CLAIM OUT OF ONE WALK OF THE LAW'S BODY. Your part is whole_start (and what it stands on); all else here is the same for every law, but numbers. -/
def R_law : String := "LockManagerLaw"
def lw_P (b : Addr) (xs : List Int32) (args : Array Value) (s : State) : Prop := args = #[.ref b] ∧ s.IntsAt b xs ∧ xs.length ≤ 2048 ∧ (Jvm.Cond.and given_1 narrow_1).before args s = true
def lw_Q (_ : Array Value) (s : State) (o : Outcome) (t : State) : Prop := o = .returned (some (.int 1)) ∧ Framed s o t [] 601024 7293034
def lw_Z (below : List Frame) (a : Array Value) (s : State) : State → Prop := fun t => ∃ o, t.status = .running ∧ Ended t below o ∧ lw_Q a s o t
/-- the law's own end, with 1 on the stack, nothing written that was there before, its room as the claim has it -/
theorem lw_ret {p : Program} {l : Launch} {e : Env} {s : State} {m : MethodId} {below : List Frame} {meth : Method} {c : Code} {b : Nat} (hx : p.tables.exec = Jvm.exec) (hb : c.code = code) (hr : meth.sig.returnType = ret) (hlocks : meth.locks = false) {pc : Nat} {H : Heap} {ls : Array Slot} (hdg : decode code pc = .ok (.ireturn, 1)) : W p l e room_1 s m #[Value.ref b] below meth c H [] 601024 7293034 (lw_Z below #[Value.ref b] s) (F0 m pc ls [.int 1]) := by
  intro T hT X
  obtain ⟨fs, hret, hrun, hended, hW, hframe⟩ := X.leave (v := some (.int 1)) (hlocks := hlocks) (fun h => by rw [hr] at h; cases h)
  have hmeth' : T.vm.method? m = some meth := X.method'
  refine ⟨T.setFrames fs, ?_, .returned (some (.int 1)), hrun, hended, rfl, ⟨_, rfl⟩, hW, hframe⟩
  jvm_step X.here [X.here.top, hx, hb, hdg, hmeth', hr, ret, narrow_b1]
  (try refine ⟨rfl, ?_⟩); (try refine ⟨rfl, ?_⟩)
  first | (intro acts; rw [hret _ acts rfl rfl rfl]) | rw [hret _ _ rfl rfl rfl]
  exact Steps.refl _
/-- what holds at the law's entry: the machine, the code, the tables' words (any of lw_tbl by 'hts w (by decide +kernel)'), the script of L ints xs at the cell b, what the Statement gives of the start (any of its parts by flat_of_before) -/
def lw_At (p : Program) (s : State) (m : MethodId) (meth : Method) (c : Code) (b L : Nat) (xs : Nat → Int32) : Prop :=
  p.tables.exec = Jvm.exec ∧ c.code = code ∧ meth.sig.returnType = ret ∧ c.maxLocals = 7 ∧ s.vm.findClass R_law = some m.cls ∧ (∀ w ∈ lw_tbl, w.before #[Value.ref b] s = true) ∧ va_X b L xs s s.heap ∧ b < s.heap.size ∧ meth.locks = false ∧ (Jvm.Cond.and given_1 narrow_1).before #[Value.ref b] s = true
theorem and31 (v : Int32) : ∃ d, d < 32 ∧ v &&& nI 31 = nI d := by
  refine ⟨(v &&& nI 31).toBitVec.toNat, ?_, ?_⟩
  · have h : (v &&& nI 31).toBitVec.toNat = v.toBitVec.toNat &&& 31 := by
      rw [Int32.toBitVec_and, BitVec.toNat_and]; rfl
    rw [h]
    exact Nat.lt_succ_of_le Nat.and_le_right
  · apply Int32.toBitVec_inj.mp
    show (v &&& nI 31).toBitVec = BitVec.ofNat 32 (v &&& nI 31).toBitVec.toNat
    rw [BitVec.ofNat_toNat, BitVec.setWidth_eq]
theorem len_no {L k : Nat} (hL : L ≤ 2048) (hk : 4 * k ≤ 4096) (h : ¬ nI L - nI 4 < nI (4 * k)) : 4 * k + 4 ≤ L := by
  rw [Int32.lt_iff_toInt_lt, pk_sub_toInt (by omega) (by decide), nI_toInt (by omega)] at h
  omega
set_option maxHeartbeats 1000000 in
set_option maxRecDepth 100000 in
theorem law_loop {p : Program} {l : Launch} {e : Env} {s : State} {m : MethodId} {below : List Frame} {meth : Method} {c : Code} {sb L : Nat} {xs : Nat → Int32} {D : va_G} {cI cT cL : ClassId} (x a o b t h : Nat → Nat) (ra : Nat → Nat → Nat) (ad : Nat → Nat) (oa : Nat) (hL2 : L ≤ 2048) (LB : LBx p l s m c sb L xs D cI cT cL (fun q => s.heap.size ≤ q)) (hr : meth.sig.returnType = ret) (hlocks : meth.locks = false) :
    ∀ (N k cells slots : Nat), L + 4 < 4 * k + 4 * N → 4 * k ≤ L + 4 → cells ≤ 106 + 4 * k → slots ≤ 4651 + 24 * k → ∀ (s0 : ST) (j0 : JT) (r0 : JR) (f0 : Nat → Int64) (H : Heap) (locs : List Loc), va_P D vwCl (lwW cI cT cL x a o b t h ra ad oa s0 j0 r0 f0) H → va_D (fun q => s.heap.size ≤ q) (lwW cI cT cL x a o b t h ra ad oa s0 j0 r0 f0) → va_S (fun q => s.heap.size ≤ q) s.heap H locs → LR s0 j0 → LZu (80 * k) s0 r0 → ∀ ls : Array Slot, lv_has ls 7 (lwL sb (x 0) (ad 0) oa k) → W p l e room_1 s m #[Value.ref sb] below meth c H locs cells slots (lw_Z below #[Value.ref sb] s) (F0 m 23 ls []) := by
  intro N
  induction N with
  | zero => intro k cells slots hN hk; omega
  | succ N ih =>
    intro k cells slots hN hk hce hsl s0 j0 r0 f0 H locs hP hD hS hR hZ ls hl
    have LB2 := LB
    obtain ⟨hx, hb, hml, hown, hts, hK, hX0, hbl, hbA, hA, hX, hflag⟩ := LB2
    refine lv_iload hx hb dL_law_23 (lv_at hl 4 rfl) ?_
    refine lv_aload_n hx hb dL_law_25 rfl (lv_at hl 0 rfl) ?_
    refine va_slen hx hb hX0 hbl hbA hS dL_law_26 ?_
    refine lv_iconst (v := nI 4) hx hb dL_law_27 (by decide) ?_
    refine lv_isub hx hb dL_law_28 ?_
    refine lv_icmp_gt (tgt := 1581) hx hb dL_law_29 (by decide) (fun _ => ?_) (fun h9 => ?_)
    · refine lv_iconst (v := 1) hx hb dL_law_1581 (by decide) ?_
      refine va_forget (fun q hq => hS.2.2 q hq) (W.widen (k := 601024) (n := 7293034) (by omega) (by omega) ?_)
      exact lw_ret hx hb hr hlocks dL_law_1582
    · have hkL : 4 * k + 4 ≤ L := len_no hL2 (by omega) h9
      refine lv_aload_n hx hb dL_law_32 rfl (lv_at hl 0 rfl) ?_
      refine lv_iload hx hb dL_law_33 (lv_at hl 4 rfl) ?_
      refine va_sld hx hb hX0 hbl hbA hS (vp_in_nI (by omega) (by omega)) dL_law_35 ?_
      refine lv_bipush (v := nI 31) hx hb dL_law_36 (by decide) ?_
      refine lv_iand hx hb dL_law_38 ?_
      obtain ⟨d9, hd9, e9⟩ := and31 (xs (nI (4 * k)).toNatClampNeg)
      refine tpe (y := nI d9) e9 ?_
      have KO : LKo p l e s m below meth c sb D cI cT cL (fun q => s.heap.size ≤ q) (lw_Z below #[Value.ref sb] s) x a o b t h ra ad oa k (cells + 4) (slots + 24) (80 * k + 80) := by
        intro s1 j1 r1 f1 H locs hP hD hS hR hZ ls hl
        refine lv_iinc (v := nI (4 * (k + 1))) (lv' := [(4, .int (nI (4 * (k + 1)))), (0, .ref sb), (1, .ref (x 0)), (2, .ref (ad 0)), (3, .ref oa)]) hx hb dL_law_1575 hl (k := 4) rfl (nI_add _ 4) (by decide) rfl (fun ls hl => ?_)
        refine lv_goto (tgt := 23) hx hb dL_law_1578 (by decide) ?_
        exact ih (k + 1) (cells + 4) (slots + 24) (by omega) (by omega) (by omega) (by omega) s1 j1 r1 f1 H locs hP hD hS hR (LZ.mono hZ (by omega)) ls (lv_sub hl [1, 2, 3, 4, 0] rfl)
      rcases (show d9 = 0 ∨ d9 = 1 ∨ d9 = 2 ∨ d9 = 3 ∨ d9 = 4 ∨ d9 = 5 ∨ d9 = 6 ∨ d9 = 7 ∨ d9 = 8 ∨ d9 = 9 ∨ d9 = 10 ∨ d9 = 11 ∨ d9 = 12 ∨ d9 = 13 ∨ d9 = 14 ∨ d9 = 15 ∨ d9 = 16 ∨ d9 = 17 ∨ d9 = 18 ∨ d9 = 19 ∨ d9 = 20 ∨ d9 = 21 ∨ d9 = 22 ∨ d9 = 23 ∨ d9 = 24 ∨ d9 = 25 ∨ d9 = 26 ∨ d9 = 27 ∨ d9 = 28 ∨ 29 ≤ d9 by omega) with e8 | e8 | e8 | e8 | e8 | e8 | e8 | e8 | e8 | e8 | e8 | e8 | e8 | e8 | e8 | e8 | e8 | e8 | e8 | e8 | e8 | e8 | e8 | e8 | e8 | e8 | e8 | e8 | e8 | e8
      · rw [e8]
        refine lv_tableIn (off := 129) (tgt := 168) hx hb dL_law_39 (by decide) (by decide) rfl (by decide) ?_
        exact cs_begin x a o b t h ra ad oa k cells slots (80 * k) LB hkL hL2 (by omega) (by omega) (by omega) s0 j0 r0 f0 H locs hP hD hS hR hZ ls hl KO
      · rw [e8]
        refine lv_tableIn (off := 185) (tgt := 224) hx hb dL_law_39 (by decide) (by decide) rfl (by decide) ?_
        exact cs_request x a o b t h ra ad oa k cells slots (80 * k) LB hkL hL2 (by omega) (by omega) (by omega) s0 j0 r0 f0 H locs hP hD hS hR hZ ls hl KO
      · rw [e8]
        refine lv_tableIn (off := 265) (tgt := 304) hx hb dL_law_39 (by decide) (by decide) rfl (by decide) ?_
        exact cs_work x a o b t h ra ad oa k cells slots (80 * k) LB hkL hL2 (by omega) (by omega) (by omega) s0 j0 r0 f0 H locs hP hD hS hR hZ ls hl KO
      · rw [e8]
        refine lv_tableIn (off := 333) (tgt := 372) hx hb dL_law_39 (by decide) (by decide) rfl (by decide) ?_
        exact cs_withdraw x a o b t h ra ad oa k cells slots (80 * k) LB hkL hL2 (by omega) (by omega) (by omega) s0 j0 r0 f0 H locs hP hD hS hR hZ ls hl KO
      · rw [e8]
        refine lv_tableIn (off := 389) (tgt := 428) hx hb dL_law_39 (by decide) (by decide) rfl (by decide) ?_
        exact cs_commit x a o b t h ra ad oa k cells slots (80 * k) LB hkL hL2 (by omega) (by omega) (by omega) s0 j0 r0 f0 H locs hP hD hS hR hZ ls hl KO
      · rw [e8]
        refine lv_tableIn (off := 445) (tgt := 484) hx hb dL_law_39 (by decide) (by decide) rfl (by decide) ?_
        exact cs_rollBack x a o b t h ra ad oa k cells slots (80 * k) LB hkL hL2 (by omega) (by omega) (by omega) s0 j0 r0 f0 H locs hP hD hS hR hZ ls hl KO
      · rw [e8]
        refine lv_tableIn (off := 501) (tgt := 540) hx hb dL_law_39 (by decide) (by decide) rfl (by decide) ?_
        exact cs_appendText x a o b t h ra ad oa k cells slots (80 * k) LB hkL hL2 (by omega) (by omega) (by omega) s0 j0 r0 f0 H locs hP hD hS hR hZ ls hl KO
      · rw [e8]
        refine lv_tableIn (off := 557) (tgt := 596) hx hb dL_law_39 (by decide) (by decide) rfl (by decide) ?_
        exact cs_clearText x a o b t h ra ad oa k cells slots (80 * k) LB hkL hL2 (by omega) (by omega) (by omega) s0 j0 r0 f0 H locs hP hD hS hR hZ ls hl KO
      · rw [e8]
        refine lv_tableIn (off := 570) (tgt := 609) hx hb dL_law_39 (by decide) (by decide) rfl (by decide) ?_
        exact cs_errorPosition x a o b t h ra ad oa k cells slots (80 * k) LB hkL hL2 (by omega) (by omega) (by omega) s0 j0 r0 f0 H locs hP hD hS hR hZ ls hl KO
      · rw [e8]
        refine lv_tableIn (off := 583) (tgt := 622) hx hb dL_law_39 (by decide) (by decide) rfl (by decide) ?_
        exact cs_runText x a o b t h ra ad oa k cells slots (80 * k) LB hkL hL2 (by omega) (by omega) (by omega) s0 j0 r0 f0 H locs hP hD hS hR hZ ls hl KO
      · rw [e8]
        refine lv_tableIn (off := 627) (tgt := 666) hx hb dL_law_39 (by decide) (by decide) rfl (by decide) ?_
        exact cs_undo x a o b t h ra ad oa k cells slots (80 * k) LB hkL hL2 (by omega) (by omega) (by omega) s0 j0 r0 f0 H locs hP hD hS hR hZ ls hl KO
      · rw [e8]
        refine lv_tableIn (off := 671) (tgt := 710) hx hb dL_law_39 (by decide) (by decide) rfl (by decide) ?_
        exact cs_state x a o b t h ra ad oa k cells slots (80 * k) LB hkL hL2 (by omega) (by omega) (by omega) s0 j0 r0 f0 H locs hP hD hS hR hZ ls hl KO
      · rw [e8]
        refine lv_tableIn (off := 727) (tgt := 766) hx hb dL_law_39 (by decide) (by decide) rfl (by decide) ?_
        exact cs_workOf x a o b t h ra ad oa k cells slots (80 * k) LB hkL hL2 (by omega) (by omega) (by omega) s0 j0 r0 f0 H locs hP hD hS hR hZ ls hl KO
      · rw [e8]
        refine lv_tableIn (off := 783) (tgt := 822) hx hb dL_law_39 (by decide) (by decide) rfl (by decide) ?_
        exact cs_abortsOf x a o b t h ra ad oa k cells slots (80 * k) LB hkL hL2 (by omega) (by omega) (by omega) s0 j0 r0 f0 H locs hP hD hS hR hZ ls hl KO
      · rw [e8]
        refine lv_tableIn (off := 839) (tgt := 878) hx hb dL_law_39 (by decide) (by decide) rfl (by decide) ?_
        exact cs_birthOf x a o b t h ra ad oa k cells slots (80 * k) LB hkL hL2 (by omega) (by omega) (by omega) s0 j0 r0 f0 H locs hP hD hS hR hZ ls hl KO
      · rw [e8]
        refine lv_tableIn (off := 895) (tgt := 934) hx hb dL_law_39 (by decide) (by decide) rfl (by decide) ?_
        exact cs_held x a o b t h ra ad oa k cells slots (80 * k) LB hkL hL2 (by omega) (by omega) (by omega) s0 j0 r0 f0 H locs hP hD hS hR hZ ls hl KO
      · rw [e8]
        refine lv_tableIn (off := 963) (tgt := 1002) hx hb dL_law_39 (by decide) (by decide) rfl (by decide) ?_
        exact cs_awaited x a o b t h ra ad oa k cells slots (80 * k) LB hkL hL2 (by omega) (by omega) (by omega) s0 j0 r0 f0 H locs hP hD hS hR hZ ls hl KO
      · rw [e8]
        refine lv_tableIn (off := 1019) (tgt := 1058) hx hb dL_law_39 (by decide) (by decide) rfl (by decide) ?_
        exact cs_waitsFor x a o b t h ra ad oa k cells slots (80 * k) LB hkL hL2 (by omega) (by omega) (by omega) s0 j0 r0 f0 H locs hP hD hS hR hZ ls hl KO
      · rw [e8]
        refine lv_tableIn (off := 1075) (tgt := 1114) hx hb dL_law_39 (by decide) (by decide) rfl (by decide) ?_
        exact cs_blockers x a o b t h ra ad oa k cells slots (80 * k) LB hkL hL2 (by omega) (by omega) (by omega) s0 j0 r0 f0 H locs hP hD hS hR hZ ls hl KO
      · rw [e8]
        refine lv_tableIn (off := 1131) (tgt := 1170) hx hb dL_law_39 (by decide) (by decide) rfl (by decide) ?_
        exact cs_holders x a o b t h ra ad oa k cells slots (80 * k) LB hkL hL2 (by omega) (by omega) (by omega) s0 j0 r0 f0 H locs hP hD hS hR hZ ls hl KO
      · rw [e8]
        refine lv_tableIn (off := 1187) (tgt := 1226) hx hb dL_law_39 (by decide) (by decide) rfl (by decide) ?_
        exact cs_queueLength x a o b t h ra ad oa k cells slots (80 * k) LB hkL hL2 (by omega) (by omega) (by omega) s0 j0 r0 f0 H locs hP hD hS hR hZ ls hl KO
      · rw [e8]
        refine lv_tableIn (off := 1243) (tgt := 1282) hx hb dL_law_39 (by decide) (by decide) rfl (by decide) ?_
        exact cs_queued x a o b t h ra ad oa k cells slots (80 * k) LB hkL hL2 (by omega) (by omega) (by omega) s0 j0 r0 f0 H locs hP hD hS hR hZ ls hl KO
      · rw [e8]
        refine lv_tableIn (off := 1311) (tgt := 1350) hx hb dL_law_39 (by decide) (by decide) rfl (by decide) ?_
        exact cs_ifRequested x a o b t h ra ad oa k cells slots (80 * k) LB hkL hL2 (by omega) (by omega) (by omega) s0 j0 r0 f0 H locs hP hD hS hR hZ ls hl KO
      · rw [e8]
        refine lv_tableIn (off := 1391) (tgt := 1430) hx hb dL_law_39 (by decide) (by decide) rfl (by decide) ?_
        exact cs_victimsOf x a o b t h ra ad oa k cells slots (80 * k) LB hkL hL2 (by omega) (by omega) (by omega) s0 j0 r0 f0 H locs hP hD hS hR hZ ls hl KO
      · rw [e8]
        refine lv_tableIn (off := 1471) (tgt := 1510) hx hb dL_law_39 (by decide) (by decide) rfl (by decide) ?_
        exact cs_brokenRings x a o b t h ra ad oa k cells slots (80 * k) LB hkL hL2 (by omega) (by omega) (by omega) s0 j0 r0 f0 H locs hP hD hS hR hZ ls hl KO
      · rw [e8]
        refine lv_tableIn (off := 1484) (tgt := 1523) hx hb dL_law_39 (by decide) (by decide) rfl (by decide) ?_
        exact cs_lostWork x a o b t h ra ad oa k cells slots (80 * k) LB hkL hL2 (by omega) (by omega) (by omega) s0 j0 r0 f0 H locs hP hD hS hR hZ ls hl KO
      · rw [e8]
        refine lv_tableIn (off := 1497) (tgt := 1536) hx hb dL_law_39 (by decide) (by decide) rfl (by decide) ?_
        exact cs_locksHeld x a o b t h ra ad oa k cells slots (80 * k) LB hkL hL2 (by omega) (by omega) (by omega) s0 j0 r0 f0 H locs hP hD hS hR hZ ls hl KO
      · rw [e8]
        refine lv_tableIn (off := 1510) (tgt := 1549) hx hb dL_law_39 (by decide) (by decide) rfl (by decide) ?_
        exact cs_savedStates x a o b t h ra ad oa k cells slots (80 * k) LB hkL hL2 (by omega) (by omega) (by omega) s0 j0 r0 f0 H locs hP hD hS hR hZ ls hl KO
      · rw [e8]
        refine lv_tableIn (off := 1523) (tgt := 1562) hx hb dL_law_39 (by decide) (by decide) rfl (by decide) ?_
        exact cs_textLength x a o b t h ra ad oa k cells slots (80 * k) LB hkL hL2 (by omega) (by omega) (by omega) s0 j0 r0 f0 H locs hP hD hS hR hZ ls hl KO
      · refine lv_tableOut (tgt := 1575) hx hb dL_law_39 (Or.inr (by rw [nI_toInt (by omega)]; omega)) (by decide) ?_
        exact W.widen (k := cells + 4) (n := slots + 24) (by omega) (by omega) (KO s0 j0 r0 f0 H locs hP hD hS hR (LZ.mono hZ (by omega)) ls hl)
theorem pmZ {α : Type} {X Y : List α} {v : α} : ((X ++ Y) ++ [v]).Perm (([v] ++ X) ++ Y) := by
  have h : ((X ++ Y) ++ [v]).Perm ([v] ++ (X ++ Y)) := List.perm_append_comm
  have h2 : [v] ++ (X ++ Y) = ([v] ++ X) ++ Y := (List.append_assoc _ _ _).symm
  rw [← h2]; exact h
theorem XW_of {s : State} {args : Array Value} {E : String} (h1 : (Cond.castable E E).before args s = true) (h2 : (xDecl "java/lang/RuntimeException").before args s = true) (h3 : (xDecl "java/lang/Exception").before args s = true) (h4 : (xDecl "java/lang/Throwable").before args s = true) : XW E s := fun w hw => by
  rcases List.mem_cons.mp hw with rfl | hw
  · exact va_Nw.of rfl h1
  · rcases List.mem_cons.mp hw with rfl | hw
    · exact va_Nw.of rfl h2
    · rcases List.mem_cons.mp hw with rfl | hw
      · exact va_Nw.of rfl h3
      · rcases List.mem_cons.mp hw with rfl | hw
        · exact va_Nw.of rfl h4
        · cases hw
theorem vkr_of {s : State} {args : Array Value} {k : Nat} {tx : String} {cur : Nat} (hc : s.vm.findClass RX4 = some cur) (h : (Cond.stringRef RX4 k tx).before args s = true) : ∃ sa : Nat, vk_R RX4 k tx sa s := by
  obtain ⟨_, _, _, sa, _, _, _, _, _, he⟩ := Cond.stringRef_spec hc h
  exact ⟨sa, vk_R.of h he⟩
/-- what the Statement says of the start, for exceptions -/
theorem XL_start {s : State} {b : Nat} (hts : ∀ w ∈ lw_tbl, w.before #[Value.ref b] s = true) (hgv : (Jvm.Cond.and given_1 narrow_1).before #[Value.ref b] s = true) {cur : Nat} (hc : s.vm.findClass RX4 = some cur) : XL (fun q => s.heap.size ≤ q) s s.heap := by
  have mt : ∀ (i : Nat) (w : Cond), lw_tbl[i]? = some w → w.before #[Value.ref b] s = true := fun i w h => hts w (List.mem_of_getElem? h)
  have hA : ∀ q : Nat, q < s.heap.size → ¬ s.heap.size ≤ q := fun q h => Nat.not_le.mpr h
  have d1 := mt 305 (xDecl "java/lang/RuntimeException") (by decide +kernel)
  have d2 := mt 307 (xDecl "java/lang/Exception") (by decide +kernel)
  have d3 := mt 309 (xDecl "java/lang/Throwable") (by decide +kernel)
  refine ⟨⟨vx_Zqof (mt 328 (.laysStatic Bundle.tN "UNASSIGNED_STACK" Bundle.steD) (by decide +kernel)) (mt 71 (.initialized Bundle.tN) (by decide +kernel)) (flat_of_before _ hgv (.isRef (.static Bundle.tN "UNASSIGNED_STACK" Bundle.steD)) (by decide +kernel)) hA, vx_Zqof (mt 330 (.laysStatic Bundle.tN "SUPPRESSED_SENTINEL" Bundle.listD) (by decide +kernel)) (mt 71 (.initialized Bundle.tN) (by decide +kernel)) (flat_of_before _ hgv (.isRef (.static Bundle.tN "SUPPRESSED_SENTINEL" Bundle.listD)) (by decide +kernel)) hA, XW_of (mt 303 (.castable xI xI) (by decide +kernel)) d1 d2 d3, XW_of (mt 424 (.castable xA xA) (by decide +kernel)) d1 d2 d3, XW_of (mt 378 (.castable xS xS) (by decide +kernel)) d1 d2 d3, fun q hq => ?_⟩,
    va_Nc.of (flat_of_before _ hgv (.not (.castable xA xI)) (by decide +kernel)), va_Nc.of (flat_of_before _ hgv (.not (.castable xS xI)) (by decide +kernel)), va_Nc.of (flat_of_before _ hgv (.not (.castable xS xA)) (by decide +kernel))⟩
  have st : ∀ (i k : Nat) (tx : String), lw_tbl[i]? = some (.stringRef RX4 k tx) → ∃ sa : Nat, vk_R RX4 k tx sa s := fun i k tx h => vkr_of hc (mt i _ h)
  rcases List.mem_cons.mp hq with rfl | hq
  · exact st 525 77 "the amount is not 1 to 1000" (by decide +kernel)
  rcases List.mem_cons.mp hq with rfl | hq
  · exact st 563 91 "the character code is not 32 to 126" (by decide +kernel)
  rcases List.mem_cons.mp hq with rfl | hq
  · exact st 564 99 "the text has 80 characters" (by decide +kernel)
  rcases List.mem_cons.mp hq with rfl | hq
  · exact st 576 109 "the text is not valid" (by decide +kernel)
  rcases List.mem_cons.mp hq with rfl | hq
  · exact st 595 141 "there is no saved state" (by decide +kernel)
  rcases List.mem_cons.mp hq with rfl | hq
  · exact st 683 177 "the index is negative" (by decide +kernel)
  rcases List.mem_cons.mp hq with rfl | hq
  · exact st 342 195 "there is no such transaction" (by decide +kernel)
  rcases List.mem_cons.mp hq with rfl | hq
  · exact st 421 197 "there is no such resource" (by decide +kernel)
  rcases List.mem_cons.mp hq with rfl | hq
  · exact st 431 199 "the mode is neither SHARED nor EXCLUSIVE" (by decide +kernel)
  rcases List.mem_cons.mp hq with rfl | hq
  · exact st 385 201 "the transaction is in another state" (by decide +kernel)
  cases hq

