section EXC
variable {p : Program} {l : Launch} {e : Env} {R : Room} {s : State} {m : MethodId} {args : Array Value} {below : List Frame} {meth : Method} {c : Code} {H : Heap} {locs : List Loc} {cells slots : Nat} {Q : State → Prop}
variable {cc : ByteArray} {pc : Nat} {ls : Array Slot} {rest : List Value} {D : va_G} {cI cT : ClassId} {A : Nat → Prop} {H0 : Heap} {ws : va_W}
abbrev xNm : List String := ["java/lang/RuntimeException", "java/lang/Exception"]
abbrev xI : String := "java/lang/IndexOutOfBoundsException"
abbrev xA : String := "java/lang/IllegalArgumentException"
abbrev xS : String := "java/lang/IllegalStateException"
def xDecl (Y : String) : Cond := .declares ⟨Y, "<init>", "(Ljava/lang/String;)V"⟩
abbrev xBad (X : String) : List Cond := [.castable X X, xDecl "java/lang/RuntimeException", xDecl "java/lang/Exception", xDecl "java/lang/Throwable"]
def XW (X : String) (U : State) : Prop := ∀ w ∈ xBad X, va_Nw w U
theorem XW.warm {X : String} {U : State} (hW : s.WarmedH U.vm) (h : XW X s) : XW X U := fun w hw => by
  have h1 := h w hw
  rcases List.mem_cons.mp hw with rfl | hw
  · exact va_Nw.warmC hW h1
  · rcases List.mem_cons.mp hw with rfl | hw
    · exact va_Nw.warmD hW h1
    · rcases List.mem_cons.mp hw with rfl | hw
      · exact va_Nw.warmD hW h1
      · rcases List.mem_cons.mp hw with rfl | hw
        · exact va_Nw.warmD hW h1
        · cases hw
/-- the texts of the class's exceptions -/
abbrev xTx : List (Nat × String) := [(77, "the amount is not 1 to 1000"), (177, "the index is negative"), (195, "there is no such transaction"), (197, "there is no such resource"), (199, "the mode is neither SHARED nor EXCLUSIVE"), (201, "the transaction is in another state")]
def XP (A : Nat → Prop) (U : State) (H : Heap) : Prop :=
  vx_Zq Bundle.tN "UNASSIGNED_STACK" Bundle.steD A U H ∧ vx_Zq Bundle.tN "SUPPRESSED_SENTINEL" Bundle.listD A U H ∧ XW xI U ∧ XW xA U ∧ XW xS U ∧ ∀ q ∈ xTx, ∃ sa : Nat, vk_R RX4 q.1 q.2 sa U
theorem XP.go {A B : Nat → Prop} {U : State} (h : XP A s s.heap) (hS : va_S A s.heap H locs) (hW : s.WarmedH U.vm) (hBA : ∀ q, B q → A q) : XP B U H := by
  obtain ⟨h1, h2, h3, h4, h5, h6⟩ := h
  refine ⟨((h1.kept (fun a ha hn => hS.2.1 a ha hn)).narrow hBA).moved hW.alike, ((h2.kept (fun a ha hn => hS.2.1 a ha hn)).narrow hBA).moved hW.alike, h3.warm hW, h4.warm hW, h5.warm hW, fun q hq => ?_⟩
  obtain ⟨sa, hsa⟩ := h6 q hq
  exact ⟨sa, hsa.warm hW⟩
theorem XP.blind {B : Nat → Prop} {U : State} {g : JFrame} {mk : MethodId} {a : Array Value} (h : XP B U U.heap) : XP B (U.calling g mk a) (U.calling g mk a).heap := by
  obtain ⟨h1, h2, h3, h4, h5, h6⟩ := h
  refine ⟨h1.moved (u := U) (U := U.calling g mk a) (Vm.Alike.refl U.vm), h2.moved (u := U) (U := U.calling g mk a) (Vm.Alike.refl U.vm), fun w hw => va_Nw.same (u := U) (U := U.calling g mk a) ?_ rfl (h3 w hw), fun w hw => va_Nw.same (u := U) (U := U.calling g mk a) ?_ rfl (h4 w hw), fun w hw => va_Nw.same (u := U) (U := U.calling g mk a) ?_ rfl (h5 w hw), fun q hq => ?_⟩
  · revert w; decide +kernel
  · revert w; decide +kernel
  · revert w; decide +kernel
  · obtain ⟨sa, hsa⟩ := h6 q hq
    exact ⟨sa, vk_R.same (u := U) (U := U.calling g mk a) rfl hsa⟩
/-- a contract that may throw: what is thrown, by its name, and then the world is as it was -/
def CX (l : Launch) (D : va_G) (cI cT : ClassId) (y : MethodName) (ws : List Cond) (rm : Room) (av : List Value) (Wd : va_W) {S : Type} (post : Int32 → S → Prop) (Wd' : S → va_W) (px : String → Prop) (mc ms : Nat) : Prop :=
  ∀ sz : Nat, vx_Met l y ws rm (va_Pc av (fun U => U.heap.size = sz ∧ va_P D vwCl Wd U.heap ∧ va_K D vwCl (TY cI cT) U ∧ va_D (fun _ => True) Wd ∧ XP (va_A Wd sz) U U.heap)) (va_Qi post (fun u t => va_P D vwCl (Wd' u) t.heap) (va_A Wd sz)) (vx_X (S := Unit) (fun _ => True) (fun E _ t => px E ∧ va_P D vwCl Wd t.heap) (va_A Wd sz)) mc ms (va_A Wd sz)
def CXv (l : Launch) (D : va_G) (cI cT : ClassId) (y : MethodName) (ws : List Cond) (rm : Room) (av : List Value) (Wd : va_W) {S : Type} (post : S → Prop) (Wd' : S → va_W) (px : String → Prop) (mc ms : Nat) : Prop :=
  ∀ sz : Nat, vx_Met l y ws rm (va_Pc av (fun U => U.heap.size = sz ∧ va_P D vwCl Wd U.heap ∧ va_K D vwCl (TY cI cT) U ∧ va_D (fun _ => True) Wd ∧ XP (va_A Wd sz) U U.heap)) (va_Qv post (fun u t => va_P D vwCl (Wd' u) t.heap) (va_A Wd sz)) (vx_X (S := Unit) (fun _ => True) (fun E _ t => px E ∧ va_P D vwCl Wd t.heap) (va_A Wd sz)) mc ms (va_A Wd sz)
abbrev xQi {S : Type} (below : List Frame) (D : va_G) (Wd : va_W) (post : Int32 → S → Prop) (Wd' : S → va_W) (px : String → Prop) (A : Nat → Prop) (args : Array Value) (s : State) (mc ms : Nat) : State → Prop :=
  vx_MQ below (va_Qi post (fun u t => va_P D vwCl (Wd' u) t.heap) A) (vx_X (S := Unit) (fun _ => True) (fun E _ t => px E ∧ va_P D vwCl Wd t.heap) A) args s mc ms A
abbrev xQv {S : Type} (below : List Frame) (D : va_G) (Wd : va_W) (post : S → Prop) (Wd' : S → va_W) (px : String → Prop) (A : Nat → Prop) (args : Array Value) (s : State) (mc ms : Nat) : State → Prop :=
  vx_MQ below (va_Qv post (fun u t => va_P D vwCl (Wd' u) t.heap) A) (vx_X (S := Unit) (fun _ => True) (fun E _ t => px E ∧ va_P D vwCl Wd t.heap) A) args s mc ms A
theorem CX.of {y : MethodName} {ws ws' : List Cond} {rm : Room} {av : List Value} {Wd : va_W} {S : Type} {post : Int32 → S → Prop} {Wd' : S → va_W} {px : String → Prop} {mc ms : Nat} {cc : ByteArray} {maxL : Nat} {ret : Option FieldType} (hy : plainName y.cls = true) (hw : ws = Cond.code y cc maxL ret :: ws') (hav : (lg_sl av).length ≤ maxL)
    (body : ∀ (p : Program) (e : Env) (s : State) (m : MethodId) (args : Array Value) (below : List Frame) (meth : Method) (c : Code) (A : Nat → Prop) (Q : State → Prop), Q = xQi below D Wd post Wd' px A args s mc ms → Bx p s m args meth c y ws cc maxL ret → (∀ x ∈ c.exceptionTable.toList, False) → (∀ q : Nat, s.heap.size ≤ q → A q) → XP A s s.heap → ∀ (H : Heap) (locs : List Loc), va_P D vwCl Wd H → va_K D vwCl (TY cI cT) s → va_D A Wd → va_S A s.heap H locs → ∀ ls : Array Slot, lv_has ls maxL (lv_args 0 av) → W p l e rm s m args below meth c H locs 0 0 Q (F0 m 0 ls [])) : CX l D cI cT y ws rm av Wd post Wd' px mc ms := by
  intro sz
  refine vx_ofW (cc := cc) (maxL := maxL) (ret := ret) hy hw ?_
  intro p e s m args below meth c s₁ B hml hout hv
  obtain ⟨rfl, hsz, hP, hK, hD0, hX⟩ := hv
  subst hsz
  rw [lg_entry_eq]
  exact body p e s m _ below meth c _ _ rfl ⟨B.exec, B.bytes, hml, B.returns, atoms_spec (ws := ws) B.pre, findClass_of_methodNamed B.named, B.notSynchronized⟩ hout (fun q h => Or.inr h) hX _ _ hP hK hD0.self va_S.rf _ (lv_entry av hav)
theorem CXv.of {y : MethodName} {ws ws' : List Cond} {rm : Room} {av : List Value} {Wd : va_W} {S : Type} {post : S → Prop} {Wd' : S → va_W} {px : String → Prop} {mc ms : Nat} {cc : ByteArray} {maxL : Nat} {ret : Option FieldType} (hy : plainName y.cls = true) (hw : ws = Cond.code y cc maxL ret :: ws') (hav : (lg_sl av).length ≤ maxL)
    (body : ∀ (p : Program) (e : Env) (s : State) (m : MethodId) (args : Array Value) (below : List Frame) (meth : Method) (c : Code) (A : Nat → Prop) (Q : State → Prop), Q = xQv below D Wd post Wd' px A args s mc ms → Bx p s m args meth c y ws cc maxL ret → (∀ x ∈ c.exceptionTable.toList, False) → (∀ q : Nat, s.heap.size ≤ q → A q) → XP A s s.heap → ∀ (H : Heap) (locs : List Loc), va_P D vwCl Wd H → va_K D vwCl (TY cI cT) s → va_D A Wd → va_S A s.heap H locs → ∀ ls : Array Slot, lv_has ls maxL (lv_args 0 av) → W p l e rm s m args below meth c H locs 0 0 Q (F0 m 0 ls [])) : CXv l D cI cT y ws rm av Wd post Wd' px mc ms := by
  intro sz
  refine vx_ofW (cc := cc) (maxL := maxL) (ret := ret) hy hw ?_
  intro p e s m args below meth c s₁ B hml hout hv
  obtain ⟨rfl, hsz, hP, hK, hD0, hX⟩ := hv
  subst hsz
  rw [lg_entry_eq]
  exact body p e s m _ below meth c _ _ rfl ⟨B.exec, B.bytes, hml, B.returns, atoms_spec (ws := ws) B.pre, findClass_of_methodNamed B.named, B.notSynchronized⟩ hout (fun q h => Or.inr h) hX _ _ hP hK hD0.self va_S.rf _ (lv_entry av hav)
theorem xret_i {S : Type} {Wd : va_W} {post : Int32 → S → Prop} {Wd' : S → va_W} {px : String → Prop} {mc ms : Nat} {v : Int32} (u : S) (hQ : Q = xQi below D Wd post Wd' px A args s mc ms) (hx : p.tables.exec = Jvm.exec) (hb : c.code = cc) (hr : meth.sig.returnType = some .int) (hlk : meth.locks = false) (hS : va_S A s.heap H locs) (hdg : decode cc pc = .ok (.ireturn, 1)) (hP : va_P D vwCl (Wd' u) H) (hp : post v u) (hc : cells ≤ mc ∧ slots ≤ ms) :
    W p l e R s m args below meth c H locs cells slots Q (F0 m pc ls [.int v]) := by
  subst hQ
  refine W.widen hc.1 hc.2 (vx_ret ?_)
  exact W.iret hx hb hr (fun t ht hW => ⟨⟨v, u, rfl, hp, by show va_P D vwCl (Wd' u) t.heap; rw [ht]; exact hP⟩, hS.F ht⟩) hS.2.2 hdg hlk
theorem xret_v {S : Type} {Wd : va_W} {post : S → Prop} {Wd' : S → va_W} {px : String → Prop} {mc ms : Nat} (u : S) (hQ : Q = xQv below D Wd post Wd' px A args s mc ms) (hx : p.tables.exec = Jvm.exec) (hb : c.code = cc) (hr : meth.sig.returnType = none) (hlk : meth.locks = false) (hS : va_S A s.heap H locs) (hdg : decode cc pc = .ok (.return_, 1)) (hP : va_P D vwCl (Wd' u) H) (hp : post u) (hc : cells ≤ mc ∧ slots ≤ ms) :
    W p l e R s m args below meth c H locs cells slots Q (F0 m pc ls []) := by
  subst hQ
  refine W.widen hc.1 hc.2 (vx_ret ?_)
  exact W.vret hx hb hr (fun t ht hW => ⟨⟨u, rfl, hp, by show va_P D vwCl (Wd' u) t.heap; rw [ht]; exact hP⟩, hS.F ht⟩) hS.2.2 hdg hlk
/-- throw new E("text") -/
theorem thr {Qc : Array Value → State → Outcome → State → Prop} {Wd : va_W} {px : String → Prop} {mc ms ik is ic : Nat} {cls text : String} {Ts : List Cond}
    (hx : p.tables.exec = Jvm.exec) (hb : c.code = cc) (hl : l.stackTraces = false) (hown : s.vm.findClass RX4 = some m.cls) (hts : ∀ w ∈ Ts, w.before args s = true) (hXP : XP A s s.heap) (hS : va_S A s.heap H locs) (hsz : ls.size = c.maxLocals) (hout : ∀ x ∈ c.exceptionTable.toList, False) (hlk : meth.locks = false) (hA : ∀ q : Nat, s.heap.size ≤ q → A q)
    (hcls : Bundle.fit cls = true) (hXW : XW cls s) (htx : (is, text) ∈ xTx) (hk : (Cond.classLink RX4 ik cls).before args s = true) (hini : (Cond.initialized cls).before args s = true)
    (hgd : ∀ w ∈ (vx_atS RX4 ic cls xNm).filter goodWord, w ∈ Ts) (hbd : ∀ w ∈ (vx_atS RX4 ic cls xNm).filter (fun w => !goodWord w), w ∈ xBad cls) (hot : ∀ w ∈ Cond.classLink RX4 ik cls :: Cond.initialized cls :: vx_atS RX4 ic cls xNm, vx_ot w = true)
    (d0 : decode cc pc = .ok (.new ik, 3)) (d3 : decode cc (pc + 3) = .ok (.dup, 1)) (d4 : decode cc (pc + 4) = .ok (.ldc is, 2)) (d6 : decode cc (pc + 6) = .ok (.invokespecial ic, 3)) (d9 : decode cc (pc + 9) = .ok (.athrow, 1))
    (hR : 5 < R.frames ∧ (rest.map fun v => v.category).sum + 82 ≤ R.locals ∧ cells + 1 ≤ R.cells ∧ slots + 6 ≤ R.slots) (hP : va_P D vwCl Wd H) (hpx : px cls) (hc : cells + 1 ≤ mc ∧ slots + 6 ≤ ms) :
    W p l e R s m args below meth c H locs cells slots (vx_MQ below Qc (vx_X (S := Unit) (fun _ => True) (fun E _ t => px E ∧ va_P D vwCl Wd t.heap) A) args s mc ms A) (F0 m pc ls rest) := by
  obtain ⟨sa, hsa⟩ := hXP.2.2.2.2.2 _ htx
  refine vx_throwS hx hb hl hown hcls (by decide) hk hini hsa ?_ hot hXP.1 hXP.2.1 hS hsz d0 d3 d4 d6 d9 (fun x hx' => (hout x hx').elim) hR.1 hR.2.1 hR.2.2.1 hR.2.2.2 hlk (fun t hvm hz hq => ?_) hS.2.2 hc.1 hc.2
  · refine vx_hat (fun w hw => hts w (hgd w hw)) hbd (fun w hw => ?_)
    refine va_Nw.use ?_ (hXW w hw)
    rcases List.mem_cons.mp hw with rfl | hw
    · rfl
    · rcases List.mem_cons.mp hw with rfl | hw
      · rfl
      · rcases List.mem_cons.mp hw with rfl | hw
        · rfl
        · rcases List.mem_cons.mp hw with rfl | hw
          · rfl
          · cases hw
  · refine ⟨(), trivial, ⟨hpx, hP.kept (fun k q hk => hq q.1 (hP k q hk).lt)⟩, Nat.le_trans hS.1 hz, fun q h1 h2 => ?_⟩
    rw [hq q (Nat.lt_of_lt_of_le h1 hS.1)]
    exact hS.2.1 q h1 h2
theorem xblind {av : List Value} {sz : Nat} {Wd : va_W} : FrameBlind (va_Pc av (fun U => U.heap.size = sz ∧ va_P D vwCl Wd U.heap ∧ va_K D vwCl (TY cI cT) U ∧ va_D (fun _ => True) Wd ∧ XP (va_A Wd sz) U U.heap)) :=
  fun a U g mk q => by obtain ⟨q0, q1, qP, qK, qD, qX⟩ := q; exact ⟨q0, q1, qP, va_K.moved (u := U) (U := U.calling g mk a) (Vm.Alike.refl U.vm) qK, qD, XP.blind qX⟩
/-- a call of a static method that may throw, where nothing has changed yet: what it throws goes on -/
theorem call_xs {S : Type} {post : S → Prop} {Wd Wd1 : va_W} {pxC px : String → Prop} {Qc : Array Value → State → Outcome → State → Prop} {wsC Ts : List Cond} {rm : Room} {y : MethodName} {bytes : ByteArray} {nL maxL n index mc ms mc1 ms1 : Nat} {own : String} {ret : Option FieldType} {As st0 : List Value}
    (CF : CallFix p m c cc nL s args Ts own) (hC : CXv l D cI cT y wsC rm As [] post (fun _ : S => []) pxC mc1 ms1) (cw : CallB R s args own index y bytes maxL ret wsC rm mc1 ms1 n ∧ (Cond.static y).before args s = true)
    (hK : va_K D vwCl (TY cI cT) s) (hP : va_P D vwCl Wd H) (hP1 : va_P D vwCl Wd1 H) (hS : va_S A s.heap H locs) (hA : ∀ q : Nat, s.heap.size ≤ q → A q) (hXP : XP A s s.heap) (hout : ∀ x ∈ c.exceptionTable.toList, False) (hlk : meth.locks = false)
    (hn : As.length = n) (hls : ls.size = nL) (hst : st0 = As.reverse ++ rest) (hroom : (rest.map fun v => v.category).sum ≤ 8) (hf : cells + mc1 ≤ R.cells ∧ slots + ms1 ≤ R.slots) (hdg : decode cc pc = .ok (.invokestatic index, 3)) (hc : cells + mc1 ≤ mc ∧ slots + ms1 ≤ ms) (hpx : ∀ E, pxC E → px E)
    (kk : ∀ (u : S) (H1 : Heap) (locs1 : List Loc), post u → va_P D vwCl Wd H1 → va_P D vwCl Wd1 H1 → va_S A s.heap H1 locs1 → W p l e R s m args below meth c H1 locs1 (cells + mc1) (slots + ms1) (vx_MQ below Qc (vx_X (S := Unit) (fun _ => True) (fun E _ t => px E ∧ va_P D vwCl Wd t.heap) A) args s mc ms A) (F0 m (pc + 3) ls rest)) :
    W p l e R s m args below meth c H locs cells slots (vx_MQ below Qc (vx_X (S := Unit) (fun _ => True) (fun E _ t => px E ∧ va_P D vwCl Wd t.heap) A) args s mc ms A) (F0 m pc ls st0) := by
  have hB : ∀ q : Nat, va_A [] H.size q → A q := fun q hq => by
    rcases hq with ⟨k, e, h⟩ | h
    · simp at h
    · exact hA q (Nat.le_trans hS.1 h)
  have kp : ∀ {w : va_W} {H1 : Heap}, va_P D vwCl w H → (∀ q : Nat, q < H.size → ¬ va_A [] H.size q → H1[q]? = H[q]?) → va_P D vwCl w H1 := fun hw hk => hw.kept (fun k q hq => hk q.1 (hw k q hq).lt (fun h => by
    rcases h with ⟨k2, e2, h2⟩ | h2
    · simp at h2
    · exact absurd (hw k q hq).lt (by omega)))
  refine vx_callv (vx_runS (As := As) (rest := rest) CF (hC H.size) cw ⟨xblind, fun U hU hW => ⟨rfl, by rw [hU], fun k q h => by simp at h, va_K.moved hW.alike hK, ⟨fun i j p q h => by simp at h, fun k q h => by simp at h⟩, by rw [hU]; exact hXP.go hS hW hB⟩⟩ rfl hn hls hst (lv_room hroom) hdg hf) hS (fun q _ h => hB q h) hB (fun q _ h => hB q h)
    (fun E ce q9 u t H1 locs1 ht hvm hp hb hz hk hS1 hce hv hcl => vx_out (fun x hx' => (hout x hx').elim) hlk hce hv hcl (fun t2 ht2 hvm2 => ⟨(), trivial, ⟨hpx E hb.1, by rw [ht2]; exact kp hP hk⟩, hS1.F ht2⟩) hS1.2.2 hc.1 hc.2)
    (fun u t H1 locs1 ht hvm hp hb hz hk hS1 => kk u H1 locs1 hp (kp hP hk) (kp hP1 hk) hS1)
end EXC
