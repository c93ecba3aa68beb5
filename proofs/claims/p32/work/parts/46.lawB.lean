/-! the law's calls of the class: what is thrown is caught -/
section LAWB
variable {p : Program} {l : Launch} {e : Env} {R : Room} {s : State} {m : MethodId} {args : Array Value} {below : List Frame} {meth : Method} {c : Code} {H : Heap} {locs : List Loc} {cells slots : Nat} {Q : State → Prop}
variable {cc : ByteArray} {pc : Nat} {ls : Array Slot} {rest : List Value} {D : va_G} {cI cT cL : ClassId} {A : Nat → Prop} {H0 : Heap} {ws : va_W}
theorem K_int (h : (Cond.arrayClass .int).before args s = true) : ∃ c1 : ClassId, ArrOfT s c1 .int ∧ va_RA s c1 .int := by
  obtain ⟨c1, k, comp, h1, h2, h3⟩ := Cond.arrayClass_spec h
  exact ⟨c1, fun n z => ⟨(fun k h => (by cases h)), k, h2, comp, h3⟩, h1⟩
theorem K_obj (h : va_AO RX2 s) : ∃ c1 : ClassId, ArrOfT s c1 (.object RX2) ∧ va_RA s c1 (.object RX2) := by
  obtain ⟨comp, c1, k, h1, h2, h3, h4, h5⟩ := Cond.arrayOver_spec h
  exact ⟨c1, fun n z => ⟨(fun k h => (by cases h)), k, h3, comp, h4⟩, k, comp, h3, h4, h1, h5⟩
def XN (U : State) : Prop := va_Nc xA xI U ∧ va_Nc xS xI U ∧ va_Nc xS xA U
theorem XN.moved {u U : State} (hvm : u.vm.Alike U.vm) (h : XN u) : XN U := ⟨va_Nc.moved hvm h.1, va_Nc.moved hvm h.2.1, va_Nc.moved hvm h.2.2⟩
def XL (A : Nat → Prop) (U : State) (H : Heap) : Prop := XP A U H ∧ XN U
theorem XL.go {A B : Nat → Prop} {U : State} (h : XL A s s.heap) (hS : va_S A s.heap H locs) (hW : s.WarmedH U.vm) (hBA : ∀ q, B q → A q) : XL B U H := ⟨h.1.go hS hW hBA, XN.moved hW.alike h.2⟩
theorem XL.blind {B : Nat → Prop} {U : State} {g : JFrame} {mk : MethodId} {a : Array Value} (h : XL B U U.heap) : XL B (U.calling g mk a) (U.calling g mk a).heap := ⟨XP.blind h.1, XN.moved (u := U) (U := U.calling g mk a) (Vm.Alike.refl U.vm) h.2⟩
/-- a contract of a method of the law's that calls the class: it does not throw -/
def CW (l : Launch) (D : va_G) (cI cT cL : ClassId) (y : MethodName) (ws : List Cond) (rm : Room) (av : List Value) (Wd : va_W) {S : Type} (post : Int32 → S → Prop) (Wd' : S → va_W) (mc ms : Nat) : Prop :=
  ∀ sz : Nat, vx_Met l y ws rm (va_Pc av (fun U => U.heap.size = sz ∧ va_P D vwCl Wd U.heap ∧ va_K D vwCl (TYL cI cT cL) U ∧ va_D (fun _ => True) Wd ∧ XL (va_A Wd sz) U U.heap)) (va_Qi post (fun u t => va_P D vwCl (Wd' u) t.heap) (va_A Wd sz)) (vx_X (S := Unit) (fun _ => False) (fun _ _ _ => True) (va_A Wd sz)) mc ms (va_A Wd sz)
theorem CW.of {y : MethodName} {ws ws' : List Cond} {rm : Room} {av : List Value} {Wd : va_W} {S : Type} {post : Int32 → S → Prop} {Wd' : S → va_W} {mc ms : Nat} {cc : ByteArray} {maxL : Nat} {ret : Option FieldType} {hh : List (Nat × Nat × Nat × Nat)} (hy : plainName y.cls = true) (hw : ws = Cond.codeWith y cc maxL ret hh :: ws') (hav : (lg_sl av).length ≤ maxL)
    (body : ∀ (p : Program) (e : Env) (s : State) (m : MethodId) (args : Array Value) (below : List Frame) (meth : Method) (c : Code) (A : Nat → Prop) (Q : State → Prop), Q = vx_MQ below (va_Qi post (fun u t => va_P D vwCl (Wd' u) t.heap) A) (vx_X (S := Unit) (fun _ => False) (fun _ _ _ => True) A) args s mc ms A → Bx p s m args meth c y ws cc maxL ret → c.exceptionTable.toList = tableOf hh → (∀ q : Nat, s.heap.size ≤ q → A q) → XL A s s.heap → ∀ (H : Heap) (locs : List Loc), va_P D vwCl Wd H → va_K D vwCl (TYL cI cT cL) s → va_D A Wd → va_S A s.heap H locs → ∀ ls : Array Slot, lv_has ls maxL (lv_args 0 av) → W p l e rm s m args below meth c H locs 0 0 Q (F0 m 0 ls [])) : CW l D cI cT cL y ws rm av Wd post Wd' mc ms := by
  intro sz
  refine vx_ofWH (cc := cc) (maxL := maxL) (ret := ret) (hh := hh) hy hw ?_
  intro p e s m args below meth c s₁ B hml hv
  obtain ⟨rfl, hsz, hP, hK, hD0, hX⟩ := hv
  subst hsz
  have hat := atoms_spec (ws := ws) B.pre
  rw [lg_entry_eq]
  exact body p e s m _ below meth c _ _ rfl ⟨B.exec, B.bytes, hml, B.returns, hat, findClass_of_methodNamed B.named, B.notSynchronized⟩ (vx_table (x := y) B (hat _ (by rw [hw]; exact List.mem_cons_self))) (fun q h => Or.inr h) hX _ _ hP hK hD0.self va_S.rf _ (lv_entry av hav)
theorem wret {S : Type} {post : Int32 → S → Prop} {Wd' : S → va_W} {mc ms : Nat} {v : Int32} (u : S) (hQ : Q = vx_MQ below (va_Qi post (fun u t => va_P D vwCl (Wd' u) t.heap) A) (vx_X (S := Unit) (fun _ => False) (fun _ _ _ => True) A) args s mc ms A) (hx : p.tables.exec = Jvm.exec) (hb : c.code = cc) (hr : meth.sig.returnType = some .int) (hlk : meth.locks = false) (hS : va_S A s.heap H locs) (hdg : decode cc pc = .ok (.ireturn, 1)) (hP : va_P D vwCl (Wd' u) H) (hp : post v u) (hc : cells ≤ mc ∧ slots ≤ ms) :
    W p l e R s m args below meth c H locs cells slots Q (F0 m pc ls [.int v]) := by
  subst hQ
  refine W.widen hc.1 hc.2 (vx_ret ?_)
  exact W.iret hx hb hr (fun t ht hW => ⟨⟨v, u, rfl, hp, by show va_P D vwCl (Wd' u) t.heap; rw [ht]; exact hP⟩, hS.F ht⟩) hS.2.2 hdg hlk
/-- a call of a method of the class that may throw -/
theorem call_cj {S SX : Type} {post : Int32 → S → Prop} {Wd' : S → va_W} {pj : SX → String → Prop} {Wx : SX → va_W} {X Wc Z : va_W} {wsC Ts : List Cond} {rm : Room} {y : MethodName} {bytes : ByteArray} {nL maxL n index mc ms : Nat} {own C : String} {ret : Option FieldType} {b : Nat} {As st0 : List Value}
    (CF : CallFix p m c cc nL s args Ts own) (hC : CJ l D cI cT y wsC rm (.ref b :: As) Wc post Wd' pj Wx mc ms) (cw : CallW R s args own C index y bytes maxL ret wsC rm mc ms n)
    (hK : va_K D vwCl (TY cI cT) s) (hP : va_P D vwCl (X ++ Wc ++ Z) H) (hD : va_D A (X ++ Wc ++ Z)) (hS : va_S A s.heap H locs) (hA : ∀ q : Nat, s.heap.size ≤ q → A q) (hXP : XP A s s.heap)
    (hrecv : ∃ cell : Cell, H[b]? = some cell ∧ cell.vm.isStatics = false ∧ s.vm.findClass C = some cell.cls)
    (hadr : ∀ u, (Wd' u).map Prod.fst = Wc.map Prod.fst) (hadx : ∀ u, (Wx u).map Prod.fst = Wc.map Prod.fst) (hn : As.length = n) (hls : ls.size = nL) (hst : st0 = As.reverse ++ .ref b :: rest) (hroom : (rest.map fun v => v.category).sum ≤ 8) (hf : cells + mc ≤ R.cells ∧ slots + ms ≤ R.slots) (hdg : decode cc pc = .ok (.invokevirtual index, 3))
    (kx : ∀ (E : String) (ce : Cell) (q9 : Addr) (u : SX) (H1 : Heap) (locs1 : List Loc), pj u E → va_P D vwCl (X ++ Wx u ++ Z) H1 → va_D A (X ++ Wx u ++ Z) → va_S A s.heap H1 locs1 → H1[q9]? = some ce → ce.vm = .none → s.vm.findClass E = some ce.cls → vx_W p l e R s m args below meth c H1 locs1 (cells + mc) (slots + ms) Q (F0 m pc ls rest) q9)
    (kk : ∀ (r : Int32) (u : S) (H1 : Heap) (locs1 : List Loc), post r u → va_P D vwCl (X ++ Wd' u ++ Z) H1 → va_D A (X ++ Wd' u ++ Z) → va_S A s.heap H1 locs1 → W p l e R s m args below meth c H1 locs1 (cells + mc) (slots + ms) Q (F0 m (pc + 3) ls (.int r :: rest))) :
    W p l e R s m args below meth c H locs cells slots Q (F0 m pc ls st0) := by
  have hF := free_mid hD hA hS
  refine vx_calli (vx_runV (As := As) (rest := rest) CF (hC H.size) cw ⟨xblind, hrecv, fun U hU hW => ⟨rfl, by rw [hU], by rw [hU]; exact sub_mid hP, va_K.moved hW.alike hK, (subD_mid hD).weaken (fun _ _ _ _ => trivial), by rw [hU]; exact hXP.go hS hW hF⟩⟩ rfl hn hls hst (lv_room hroom) hdg hf) hS (fun q _ h => hF q h) hF (fun q _ h => hF q h)
    (fun E ce q9 u t H1 locs1 ht hvm hp hb hz hk hS1 hce hv hcl => ?_) (fun r u t H1 locs1 ht hvm hp hb hz hk hS1 => ?_)
  · have hB := hb.2
    rw [ht] at hB
    obtain ⟨hP1, hD1⟩ := jn hP hD hk hB (hadx u)
    exact kx E ce q9 u H1 locs1 hb.1 hP1 hD1 hS1 hce hv hcl
  · rw [ht] at hb
    obtain ⟨hP1, hD1⟩ := jn hP hD hk hb (hadr u)
    exact kk r u H1 locs1 hp hP1 hD1 hS1
/-- a call of a method of the law's own -/
theorem call_cw {S : Type} {post : Int32 → S → Prop} {Wd' : S → va_W} {X Wc Z : va_W} {wsC Ts : List Cond} {rm : Room} {y : MethodName} {bytes : ByteArray} {nL maxL n index mc ms : Nat} {own : String} {ret : Option FieldType} {hh : List (Nat × Nat × Nat × Nat)} {As st0 : List Value}
    (CF : CallFix p m c cc nL s args Ts own) (hC : CW l D cI cT cL y wsC rm As Wc post Wd' mc ms) (cw : vx_CSW R s args own index y bytes maxL ret hh wsC rm mc ms n)
    (hK : va_K D vwCl (TYL cI cT cL) s) (hP : va_P D vwCl (X ++ Wc ++ Z) H) (hD : va_D A (X ++ Wc ++ Z)) (hS : va_S A s.heap H locs) (hA : ∀ q : Nat, s.heap.size ≤ q → A q) (hX : XL A s s.heap)
    (hadr : ∀ u, (Wd' u).map Prod.fst = Wc.map Prod.fst) (hn : As.length = n) (hls : ls.size = nL) (hst : st0 = As.reverse ++ rest) (hroom : (rest.map fun v => v.category).sum ≤ 8) (hf : cells + mc ≤ R.cells ∧ slots + ms ≤ R.slots) (hdg : decode cc pc = .ok (.invokestatic index, 3))
    (kk : ∀ (r : Int32) (u : S) (H1 : Heap) (locs1 : List Loc), post r u → va_P D vwCl (X ++ Wd' u ++ Z) H1 → va_D A (X ++ Wd' u ++ Z) → va_S A s.heap H1 locs1 → W p l e R s m args below meth c H1 locs1 (cells + mc) (slots + ms) Q (F0 m (pc + 3) ls (.int r :: rest))) :
    W p l e R s m args below meth c H locs cells slots Q (F0 m pc ls st0) := by
  have hF := free_mid hD hA hS
  have hbl : FrameBlind (va_Pc As (fun U => U.heap.size = H.size ∧ va_P D vwCl Wc U.heap ∧ va_K D vwCl (TYL cI cT cL) U ∧ va_D (fun _ => True) Wc ∧ XL (va_A Wc H.size) U U.heap)) :=
    fun a U g mk q => by obtain ⟨q0, q1, qP, qK, qD, qX⟩ := q; exact ⟨q0, q1, qP, va_K.moved (u := U) (U := U.calling g mk a) (Vm.Alike.refl U.vm) qK, qD, XL.blind qX⟩
  refine vx_calli (vx_runSX (As := As) (rest := rest) (hh := hh) CF (hC H.size) cw ⟨hbl, fun U hU hW => ⟨rfl, by rw [hU], by rw [hU]; exact sub_mid hP, va_K.moved hW.alike hK, (subD_mid hD).weaken (fun _ _ _ _ => trivial), by rw [hU]; exact hX.go hS hW hF⟩⟩ rfl hn hls hst (lv_room hroom) hdg hf) hS (fun q _ h => hF q h) hF (fun q _ h => hF q h)
    (fun E ce q9 u t H1 locs1 ht hvm hp hb hz hk hS1 hce hv hcl => hp.elim) (fun r u t H1 locs1 ht hvm hp hb hz hk hS1 => ?_)
  rw [ht] at hb
  obtain ⟨hP1, hD1⟩ := jn hP hD hk hb (hadr u)
  exact kk r u H1 locs1 hp hP1 hD1 hS1
theorem catI {own : String} {q9 : Addr} {ce : Cell} (hown : s.vm.findClass own = some m.cls) (hX : XL A s s.heap) {a1 z1 h1 c1 : Nat} {suf : List ExceptionTableEntry} (ht : c.exceptionTable.toList = ⟨a1, z1, h1, c1⟩ :: suf) (hcv : covers ⟨a1, z1, h1, c1⟩ pc = true) (h0 : c1 ≠ 0) (hlk : (Cond.classLink own c1 xI).before args s = true)
    (hce : H[q9]? = some ce) (hv : ce.vm = .none) (hcl : s.vm.findClass xI = some ce.cls) (kk : W p l e R s m args below meth c H locs cells slots Q (F0 m h1 ls [.ref q9])) : vx_W p l e R s m args below meth c H locs cells slots Q (F0 m pc ls rest) q9 :=
  vx_catch hown [] ⟨a1, z1, h1, c1⟩ suf ht (fun z hz => by cases hz) hcv h0 hlk (va_Nw.use rfl (hX.1.2.2.1 _ List.mem_cons_self)) hce hv hcl kk
theorem catA0 {own : String} {q9 : Addr} {ce : Cell} (hown : s.vm.findClass own = some m.cls) (hX : XL A s s.heap) {a1 z1 h1 c1 : Nat} {suf : List ExceptionTableEntry} (ht : c.exceptionTable.toList = ⟨a1, z1, h1, c1⟩ :: suf) (hcv : covers ⟨a1, z1, h1, c1⟩ pc = true) (h0 : c1 ≠ 0) (hlk : (Cond.classLink own c1 xA).before args s = true)
    (hce : H[q9]? = some ce) (hv : ce.vm = .none) (hcl : s.vm.findClass xA = some ce.cls) (kk : W p l e R s m args below meth c H locs cells slots Q (F0 m h1 ls [.ref q9])) : vx_W p l e R s m args below meth c H locs cells slots Q (F0 m pc ls rest) q9 :=
  vx_catch hown [] ⟨a1, z1, h1, c1⟩ suf ht (fun z hz => by cases hz) hcv h0 hlk (va_Nw.use rfl (hX.1.2.2.2.1 _ List.mem_cons_self)) hce hv hcl kk
theorem catS0 {own : String} {q9 : Addr} {ce : Cell} (hown : s.vm.findClass own = some m.cls) (hX : XL A s s.heap) {a1 z1 h1 c1 : Nat} {suf : List ExceptionTableEntry} (ht : c.exceptionTable.toList = ⟨a1, z1, h1, c1⟩ :: suf) (hcv : covers ⟨a1, z1, h1, c1⟩ pc = true) (h0 : c1 ≠ 0) (hlk : (Cond.classLink own c1 xS).before args s = true)
    (hce : H[q9]? = some ce) (hv : ce.vm = .none) (hcl : s.vm.findClass xS = some ce.cls) (kk : W p l e R s m args below meth c H locs cells slots Q (F0 m h1 ls [.ref q9])) : vx_W p l e R s m args below meth c H locs cells slots Q (F0 m pc ls rest) q9 :=
  vx_catch hown [] ⟨a1, z1, h1, c1⟩ suf ht (fun z hz => by cases hz) hcv h0 hlk (va_Nw.use rfl (hX.1.2.2.2.2.1 _ List.mem_cons_self)) hce hv hcl kk
/-- the second row of the table takes it; the first names another class n1 -/
theorem cat2 {own E n1 : String} {q9 : Addr} {ce : Cell} (hown : s.vm.findClass own = some m.cls) (hN : va_Nc E n1 s) (hcs : (Cond.castable E E).before args s = true) {a1 z1 h1 c1 a2 z2 h2 c2 : Nat} {suf : List ExceptionTableEntry} (ht : c.exceptionTable.toList = ⟨a1, z1, h1, c1⟩ :: ⟨a2, z2, h2, c2⟩ :: suf) (hcv : covers ⟨a2, z2, h2, c2⟩ pc = true) (h01 : c1 ≠ 0) (h0 : c2 ≠ 0) (hlk1 : (Cond.classLink own c1 n1).before args s = true) (hlk : (Cond.classLink own c2 E).before args s = true)
    (hce : H[q9]? = some ce) (hv : ce.vm = .none) (hcl : s.vm.findClass E = some ce.cls) (kk : W p l e R s m args below meth c H locs cells slots Q (F0 m h2 ls [.ref q9])) : vx_W p l e R s m args below meth c H locs cells slots Q (F0 m pc ls rest) q9 :=
  vx_catch hown [⟨a1, z1, h1, c1⟩] ⟨a2, z2, h2, c2⟩ suf ht (fun z hz => by rcases List.mem_cons.mp hz with e | e; rw [e]; exact Or.inr ⟨h01, n1, hlk1, hN⟩; cases e) hcv h0 hlk hcs hce hv hcl kk
theorem cat3 {own E n1 n2 : String} {q9 : Addr} {ce : Cell} (hown : s.vm.findClass own = some m.cls) (hN : va_Nc E n1 s) (hN2 : va_Nc E n2 s) (hcs : (Cond.castable E E).before args s = true) {a1 z1 h1 c1 a2 z2 h2 c2 a3 z3 h3 c3 : Nat} {suf : List ExceptionTableEntry} (ht : c.exceptionTable.toList = ⟨a1, z1, h1, c1⟩ :: ⟨a2, z2, h2, c2⟩ :: ⟨a3, z3, h3, c3⟩ :: suf) (hcv : covers ⟨a3, z3, h3, c3⟩ pc = true) (h01 : c1 ≠ 0) (h02 : c2 ≠ 0) (h0 : c3 ≠ 0) (hlk1 : (Cond.classLink own c1 n1).before args s = true) (hlk2 : (Cond.classLink own c2 n2).before args s = true) (hlk : (Cond.classLink own c3 E).before args s = true)
    (hce : H[q9]? = some ce) (hv : ce.vm = .none) (hcl : s.vm.findClass E = some ce.cls) (kk : W p l e R s m args below meth c H locs cells slots Q (F0 m h3 ls [.ref q9])) : vx_W p l e R s m args below meth c H locs cells slots Q (F0 m pc ls rest) q9 :=
  vx_catch hown [⟨a1, z1, h1, c1⟩, ⟨a2, z2, h2, c2⟩] ⟨a3, z3, h3, c3⟩ suf ht (fun z hz => by rcases List.mem_cons.mp hz with e | e; rw [e]; exact Or.inr ⟨h01, n1, hlk1, hN⟩; rcases List.mem_cons.mp e with e | e; rw [e]; exact Or.inr ⟨h02, n2, hlk2, hN2⟩; cases e) hcv h0 hlk hcs hce hv hcl kk
/-- the same contract of a method without handlers -/
theorem CU.of {y : MethodName} {ws ws' : List Cond} {rm : Room} {av : List Value} {Wd : va_W} {S : Type} {post : Int32 → S → Prop} {Wd' : S → va_W} {mc ms : Nat} {cc : ByteArray} {maxL : Nat} {ret : Option FieldType} (hy : plainName y.cls = true) (hw : ws = Cond.code y cc maxL ret :: ws') (hav : (lg_sl av).length ≤ maxL)
    (body : ∀ (p : Program) (e : Env) (s : State) (m : MethodId) (args : Array Value) (below : List Frame) (meth : Method) (c : Code) (A : Nat → Prop) (Q : State → Prop), Q = vx_MQ below (va_Qi post (fun u t => va_P D vwCl (Wd' u) t.heap) A) (vx_X (S := Unit) (fun _ => False) (fun _ _ _ => True) A) args s mc ms A → Bx p s m args meth c y ws cc maxL ret → (∀ x ∈ c.exceptionTable.toList, False) → (∀ q : Nat, s.heap.size ≤ q → A q) → XL A s s.heap → ∀ (H : Heap) (locs : List Loc), va_P D vwCl Wd H → va_K D vwCl (TYL cI cT cL) s → va_D A Wd → va_S A s.heap H locs → ∀ ls : Array Slot, lv_has ls maxL (lv_args 0 av) → W p l e rm s m args below meth c H locs 0 0 Q (F0 m 0 ls [])) : CW l D cI cT cL y ws rm av Wd post Wd' mc ms := by
  intro sz
  refine vx_ofW (cc := cc) (maxL := maxL) (ret := ret) hy hw ?_
  intro p e s m args below meth c s₁ B hml hout hv
  obtain ⟨rfl, hsz, hP, hK, hD0, hX⟩ := hv
  subst hsz
  rw [lg_entry_eq]
  exact body p e s m _ below meth c _ _ rfl ⟨B.exec, B.bytes, hml, B.returns, atoms_spec (ws := ws) B.pre, findClass_of_methodNamed B.named, B.notSynchronized⟩ hout (fun q h => Or.inr h) hX _ _ hP hK hD0.self va_S.rf _ (lv_entry av hav)
theorem wretz {S : Type} {post : Int32 → S → Prop} {Wd' : S → va_W} {mc ms : Nat} {v : Int32} (u : S) (hQ : Q = vx_MQ below (va_Qi post (fun u t => va_P D vwCl (Wd' u) t.heap) A) (vx_X (S := Unit) (fun _ => False) (fun _ _ _ => True) A) args s mc ms A) (hx : p.tables.exec = Jvm.exec) (hb : c.code = cc) (hr : meth.sig.returnType = some .boolean) (hlk : meth.locks = false) (hS : va_S A s.heap H locs) (hdg : decode cc pc = .ok (.ireturn, 1)) (hn : narrow .boolean (.int v) = .int v) (hP : va_P D vwCl (Wd' u) H) (hp : post v u) (hc : cells ≤ mc ∧ slots ≤ ms) :
    W p l e R s m args below meth c H locs cells slots Q (F0 m pc ls [.int v]) := by
  subst hQ
  refine W.widen hc.1 hc.2 (vx_ret ?_)
  exact W.zret hx hb hr hn (fun t ht hW => ⟨⟨v, u, rfl, hp, by show va_P D vwCl (Wd' u) t.heap; rw [ht]; exact hP⟩, hS.F ht⟩) hS.2.2 hdg hlk
/-- a call of such a method without handlers -/
theorem call_cu {S : Type} {post : Int32 → S → Prop} {Wd' : S → va_W} {X Wc Z : va_W} {wsC Ts : List Cond} {rm : Room} {y : MethodName} {bytes : ByteArray} {nL maxL n index mc ms : Nat} {own : String} {ret : Option FieldType} {As st0 : List Value}
    (CF : CallFix p m c cc nL s args Ts own) (hC : CW l D cI cT cL y wsC rm As Wc post Wd' mc ms) (cw : CallB R s args own index y bytes maxL ret wsC rm mc ms n ∧ (Cond.static y).before args s = true)
    (hK : va_K D vwCl (TYL cI cT cL) s) (hP : va_P D vwCl (X ++ Wc ++ Z) H) (hD : va_D A (X ++ Wc ++ Z)) (hS : va_S A s.heap H locs) (hA : ∀ q : Nat, s.heap.size ≤ q → A q) (hX : XL A s s.heap)
    (hadr : ∀ u, (Wd' u).map Prod.fst = Wc.map Prod.fst) (hn : As.length = n) (hls : ls.size = nL) (hst : st0 = As.reverse ++ rest) (hroom : (rest.map fun v => v.category).sum ≤ 8) (hf : cells + mc ≤ R.cells ∧ slots + ms ≤ R.slots) (hdg : decode cc pc = .ok (.invokestatic index, 3))
    (kk : ∀ (r : Int32) (u : S) (H1 : Heap) (locs1 : List Loc), post r u → va_P D vwCl (X ++ Wd' u ++ Z) H1 → va_D A (X ++ Wd' u ++ Z) → va_S A s.heap H1 locs1 → W p l e R s m args below meth c H1 locs1 (cells + mc) (slots + ms) Q (F0 m (pc + 3) ls (.int r :: rest))) :
    W p l e R s m args below meth c H locs cells slots Q (F0 m pc ls st0) := by
  have hF := free_mid hD hA hS
  have hbl : FrameBlind (va_Pc As (fun U => U.heap.size = H.size ∧ va_P D vwCl Wc U.heap ∧ va_K D vwCl (TYL cI cT cL) U ∧ va_D (fun _ => True) Wc ∧ XL (va_A Wc H.size) U U.heap)) :=
    fun a U g mk q => by obtain ⟨q0, q1, qP, qK, qD, qX⟩ := q; exact ⟨q0, q1, qP, va_K.moved (u := U) (U := U.calling g mk a) (Vm.Alike.refl U.vm) qK, qD, XL.blind qX⟩
  refine vx_calli (vx_runS (As := As) (rest := rest) CF (hC H.size) cw ⟨hbl, fun U hU hW => ⟨rfl, by rw [hU], by rw [hU]; exact sub_mid hP, va_K.moved hW.alike hK, (subD_mid hD).weaken (fun _ _ _ _ => trivial), by rw [hU]; exact hX.go hS hW hF⟩⟩ rfl hn hls hst (lv_room hroom) hdg hf) hS (fun q _ h => hF q h) hF (fun q _ h => hF q h)
    (fun E ce q9 u t H1 locs1 ht hvm hp hb hz hk hS1 hce hv hcl => hp.elim) (fun r u t H1 locs1 ht hvm hp hb hz hk hS1 => ?_)
  rw [ht] at hb
  obtain ⟨hP1, hD1⟩ := jn hP hD hk hb (hadr u)
  exact kk r u H1 locs1 hp hP1 hD1 hS1
/-- a call of the law's own method over a part of its rows, the class's world behind them -/
theorem call_lB {S : Type} {post : Int32 → S → Prop} {Wd' : S → va_W} {X Wc Z LM : va_W} {wsC Ts : List Cond} {rm : Room} {y : MethodName} {bytes : ByteArray} {nL maxL n index : Nat} {own : String} {ret : Option FieldType} {As st0 : List Value}
    (CF : CallFix p m c cc nL s args Ts own) (hC : CL l D cI cT cL y wsC rm As Wc post Wd') (cw : CallB R s args own index y bytes maxL ret wsC rm 0 0 n ∧ (Cond.static y).before args s = true)
    (hK : va_K D vwCl (TYL cI cT cL) s) (hP : va_P D vwCl ((X ++ Wc ++ Z) ++ LM) H) (hD : va_D A ((X ++ Wc ++ Z) ++ LM)) (hS : va_S A H0 H locs) (hA : ∀ q : Nat, H0.size ≤ q → A q)
    (hadr : ∀ u, (Wd' u).map Prod.fst = Wc.map Prod.fst) (hn : As.length = n) (hls : ls.size = nL) (hst : st0 = As.reverse ++ rest) (hroom : (rest.map fun v => v.category).sum ≤ 8) (hf : cells ≤ R.cells ∧ slots ≤ R.slots) (hdg : decode cc pc = .ok (.invokestatic index, 3))
    (kk : ∀ (r : Int32) (u : S) (H1 : Heap) (locs1 : List Loc), post r u → va_P D vwCl ((X ++ Wd' u ++ Z) ++ LM) H1 → va_D A ((X ++ Wd' u ++ Z) ++ LM) → va_S A H0 H1 locs1 → W p l e R s m args below meth c H1 locs1 cells slots Q (F0 m (pc + 3) ls (.int r :: rest))) :
    W p l e R s m args below meth c H locs cells slots Q (F0 m pc ls st0) := by
  rw [List.append_assoc] at hP hD
  refine call_l (Z := Z ++ LM) CF hC cw hK hP hD hS hA hadr hn hls hst hroom hf hdg (fun r u H1 locs1 hp hP hD hS => ?_)
  rw [← List.append_assoc] at hP hD
  exact kk r u H1 locs1 hp hP hD hS
theorem call_lvB {S : Type} {post : S → Prop} {Wd' : S → va_W} {X Wc Z LM : va_W} {wsC Ts : List Cond} {rm : Room} {y : MethodName} {bytes : ByteArray} {nL maxL n index : Nat} {own : String} {ret : Option FieldType} {As st0 : List Value}
    (CF : CallFix p m c cc nL s args Ts own) (hC : CLv l D cI cT cL y wsC rm As Wc post Wd') (cw : CallB R s args own index y bytes maxL ret wsC rm 0 0 n ∧ (Cond.static y).before args s = true)
    (hK : va_K D vwCl (TYL cI cT cL) s) (hP : va_P D vwCl ((X ++ Wc ++ Z) ++ LM) H) (hD : va_D A ((X ++ Wc ++ Z) ++ LM)) (hS : va_S A H0 H locs) (hA : ∀ q : Nat, H0.size ≤ q → A q)
    (hadr : ∀ u, (Wd' u).map Prod.fst = Wc.map Prod.fst) (hn : As.length = n) (hls : ls.size = nL) (hst : st0 = As.reverse ++ rest) (hroom : (rest.map fun v => v.category).sum ≤ 8) (hf : cells ≤ R.cells ∧ slots ≤ R.slots) (hdg : decode cc pc = .ok (.invokestatic index, 3))
    (kk : ∀ (u : S) (H1 : Heap) (locs1 : List Loc), post u → va_P D vwCl ((X ++ Wd' u ++ Z) ++ LM) H1 → va_D A ((X ++ Wd' u ++ Z) ++ LM) → va_S A H0 H1 locs1 → W p l e R s m args below meth c H1 locs1 cells slots Q (F0 m (pc + 3) ls rest)) :
    W p l e R s m args below meth c H locs cells slots Q (F0 m pc ls st0) := by
  rw [List.append_assoc] at hP hD
  refine call_lv (Z := Z ++ LM) CF hC cw hK hP hD hS hA hadr hn hls hst hroom hf hdg (fun u H1 locs1 hp hP hD hS => ?_)
  rw [← List.append_assoc] at hP hD
  exact kk u H1 locs1 hp hP hD hS
theorem XL.kI (h : XL A s s.heap) : (Cond.castable xI xI).before args s = true := va_Nw.use rfl (h.1.2.2.1 _ List.mem_cons_self)
theorem XL.kA (h : XL A s s.heap) : (Cond.castable xA xA).before args s = true := va_Nw.use rfl (h.1.2.2.2.1 _ List.mem_cons_self)
theorem XL.kS (h : XL A s s.heap) : (Cond.castable xS xS).before args s = true := va_Nw.use rfl (h.1.2.2.2.2.1 _ List.mem_cons_self)
end LAWB
/-! what each call answers when it is refused -/
def RO (n : Nat) (s : ST) (r : RS) : Prop := r.1 ≤ n ∧ (¬ r.1 = 0 → r.2.2 = s)
theorem RO_0 {n : Nat} {s s2 : ST} {v : Int32} : RO n s (0, v, s2) := ⟨Nat.zero_le _, fun h => absurd rfl h⟩
theorem RO_k {n k : Nat} {s : ST} {v : Int32} (h : k ≤ n) : RO n s (k, v, s) := ⟨h, fun _ => rfl⟩
theorem RO_if {n : Nat} {s : ST} {P : Prop} [Decidable P] {a b : RS} (ha : RO n s a) (hb : RO n s b) : RO n s (if P then a else b) := by split; exact ha; exact hb
theorem ro_Begin {s : ST} {p0 : Int32} : RO 2 s (opBegin s p0) := RO_if (RO_k (by decide)) (RO_if (RO_k (by decide)) RO_0)
theorem ro_Request {s : ST} {p0 p1 p2 : Int32} : RO 3 s (opRequest s p0 p1 p2) := RO_if (RO_k (by decide)) (RO_if (RO_k (by decide)) (RO_if (RO_k (by decide)) (RO_if (RO_k (by decide)) RO_0)))
theorem ro_Work {s : ST} {p0 p1 : Int32} : RO 3 s (opWork s p0 p1) := RO_if (RO_k (by decide)) (RO_if (RO_k (by decide)) (RO_if (RO_k (by decide)) RO_0))
theorem ro_Withdraw {s : ST} {p0 : Int32} : RO 2 s (opWithdraw s p0) := RO_if (RO_k (by decide)) (RO_if (RO_k (by decide)) RO_0)
theorem ro_Commit {s : ST} {p0 : Int32} : RO 2 s (opCommit s p0) := RO_if (RO_k (by decide)) (RO_if (RO_k (by decide)) RO_0)
theorem ro_RollBack {s : ST} {p0 : Int32} : RO 2 s (opRollBack s p0) := RO_if (RO_k (by decide)) (RO_if (RO_k (by decide)) RO_0)
theorem ro_Append {s : ST} {p0 : Int32} : RO 2 s (opAppend s p0) := RO_if (RO_k (by decide)) (RO_if (RO_k (by decide)) RO_0)
theorem ro_Run {s : ST} : RO 1 s (opRun s) := RO_if (RO_k (by decide)) RO_0
theorem ro_Undo {s : ST} : RO 1 s (opUndo s) := by unfold opUndo; split; exact RO_k (by decide); exact RO_0
theorem ro_T {s : ST} {p0 : Int32} {f : Nat → Int32} : RO 1 s (opT s p0 f) := RO_if (RO_k (by decide)) RO_0
theorem ro_R {s : ST} {p0 : Int32} {f : Nat → Int32} : RO 1 s (opR s p0 f) := RO_if (RO_k (by decide)) RO_0
theorem ro_Held {s : ST} {p0 p1 : Int32} : RO 1 s (opHeld s p0 p1) := RO_if (RO_k (by decide)) (RO_if (RO_k (by decide)) RO_0)
theorem ro_Queued {s : ST} {p0 p1 : Int32} : RO 1 s (opQueued s p0 p1) := RO_if (RO_k (by decide)) (RO_if (RO_k (by decide)) RO_0)
theorem ro_If {s : ST} {p0 p1 p2 : Int32} : RO 2 s (opIf s p0 p1 p2) := RO_if (RO_k (by decide)) (RO_if (RO_k (by decide)) (RO_if (RO_k (by decide)) (RO_if RO_0 RO_0)))
theorem ro_Vic {s : ST} {p0 p1 p2 : Int32} : RO 2 s (opVic s p0 p1 p2) := RO_if (RO_k (by decide)) (RO_if (RO_k (by decide)) (RO_if (RO_k (by decide)) (RO_if RO_0 RO_0)))

/-- what the law's wrapper answers -/
def wv (e1 e2 e3 : Int32) (r : RS) : Int32 := if r.1 = 0 then r.2.1 else if r.1 = 1 then e1 else if r.1 = 2 then e2 else e3
theorem wv_0 {e1 e2 e3 : Int32} {r : RS} (h : r.1 = 0) : wv e1 e2 e3 r = r.2.1 := if_pos h
theorem wv_1 {e1 e2 e3 : Int32} {r : RS} (h : r.1 = 1) : wv e1 e2 e3 r = e1 := by rw [wv, h]; rfl
theorem wv_2 {e1 e2 e3 : Int32} {r : RS} (h : r.1 = 2) : wv e1 e2 e3 r = e2 := by rw [wv, h]; rfl
theorem wv_3 {e1 e2 e3 : Int32} {r : RS} (h : r.1 = 3) : wv e1 e2 e3 r = e3 := by rw [wv, h]; rfl
theorem P_nilE {D : va_G} {w : va_W} {H : Heap} (h : va_P D vwCl w H) : va_P D vwCl ([] ++ w ++ []) H := by rw [List.nil_append, List.append_nil]; exact h
theorem D_nilE {A : Nat → Prop} {w : va_W} (h : va_D A w) : va_D A ([] ++ w ++ []) := by rw [List.nil_append, List.append_nil]; exact h
theorem P_nilG {D : va_G} {w v : va_W} {H : Heap} (h : va_P D vwCl (w ++ v) H) : va_P D vwCl (w ++ v ++ []) H := by rw [List.append_nil]; exact h
theorem D_nilG {A : Nat → Prop} {w v : va_W} (h : va_D A (w ++ v)) : va_D A (w ++ v ++ []) := by rw [List.append_nil]; exact h
theorem P_nilF {D : va_G} {w v : va_W} {H : Heap} (h : va_P D vwCl (w ++ v ++ []) H) : va_P D vwCl (w ++ v) H := by rw [List.append_nil] at h; exact h
theorem D_nilF {A : Nat → Prop} {w v : va_W} (h : va_D A (w ++ v ++ [])) : va_D A (w ++ v) := by rw [List.append_nil] at h; exact h
