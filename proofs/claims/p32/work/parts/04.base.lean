section BASE
variable {p : Program} {l : Launch} {e : Env} {R : Room} {s : State} {m : MethodId} {args : Array Value} {below : List Frame} {meth : Method} {c : Code} {H : Heap} {locs : List Loc} {cells slots : Nat} {Q : State → Prop}
variable {cc : ByteArray} {pc : Nat} {ls : Array Slot} {rest : List Value} {D : va_G} {cI cT : ClassId} {A : Nat → Prop} {H0 : Heap} {ws : va_W} {tys : List (ClassId × FieldType)}
/-- the array classes that the worlds name -/
abbrev TY (cI cT : ClassId) : List (ClassId × FieldType) := [(cI, .int), (cT, .object RX2)]
/-- a contract over one world: an int (or boolean) comes back -/
def CN (l : Launch) (D : va_G) (cI cT : ClassId) (y : MethodName) (ws : List Cond) (rm : Room) (av : List Value) (Wd : va_W) {S : Type} (post : Int32 → S → Prop) (Wd' : S → va_W) : Prop :=
  ∀ sz : Nat, Met l y ws rm (va_Pc av (fun U => U.heap.size = sz ∧ va_P D vwCl Wd U.heap ∧ va_K D vwCl (TY cI cT) U ∧ va_D (fun _ => True) Wd)) (va_Qi post (fun u t => va_P D vwCl (Wd' u) t.heap) (va_A Wd sz)) 0 0 (va_A Wd sz)
/-- a contract over one world: nothing comes back -/
def CV (l : Launch) (D : va_G) (cI cT : ClassId) (y : MethodName) (ws : List Cond) (rm : Room) (av : List Value) (Wd : va_W) {S : Type} (post : S → Prop) (Wd' : S → va_W) : Prop :=
  ∀ sz : Nat, Met l y ws rm (va_Pc av (fun U => U.heap.size = sz ∧ va_P D vwCl Wd U.heap ∧ va_K D vwCl (TY cI cT) U ∧ va_D (fun _ => True) Wd)) (va_Qv post (fun u t => va_P D vwCl (Wd' u) t.heap) (va_A Wd sz)) 0 0 (va_A Wd sz)
/-- what a body has -/
def Bx (p : Program) (s : State) (m : MethodId) (args : Array Value) (meth : Method) (c : Code) (y : MethodName) (ws : List Cond) (cc : ByteArray) (maxL : Nat) (ret : Option FieldType) : Prop :=
  p.tables.exec = Jvm.exec ∧ c.code = cc ∧ c.maxLocals = maxL ∧ meth.sig.returnType = ret ∧ (∀ w ∈ ws, w.before args s = true) ∧ s.vm.findClass y.cls = some m.cls ∧ meth.locks = false
theorem CN.of {y : MethodName} {ws ws' : List Cond} {rm : Room} {av : List Value} {Wd : va_W} {S : Type} {post : Int32 → S → Prop} {Wd' : S → va_W} {cc : ByteArray} {maxL : Nat} {ret : Option FieldType} (hy : plainName y.cls = true) (hw : ws = Cond.code y cc maxL ret :: ws') (hav : (lg_sl av).length ≤ maxL)
    (body : ∀ (p : Program) (e : Env) (s : State) (m : MethodId) (args : Array Value) (below : List Frame) (meth : Method) (c : Code) (A : Nat → Prop) (Q : State → Prop), Q = MQ below (va_Qi post (fun u t => va_P D vwCl (Wd' u) t.heap) A) args s 0 0 A → Bx p s m args meth c y ws cc maxL ret → (∀ q : Nat, s.heap.size ≤ q → A q) → ∀ (H : Heap) (locs : List Loc), va_P D vwCl Wd H → va_K D vwCl (TY cI cT) s → va_D A Wd → va_S A s.heap H locs → ∀ ls : Array Slot, lv_has ls maxL (lv_args 0 av) → W p l e rm s m args below meth c H locs 0 0 Q (F0 m 0 ls [])) : CN l D cI cT y ws rm av Wd post Wd' := by
  intro sz
  refine Met.ofW (cc := cc) (maxL := maxL) (ret := ret) hy hw ?_
  intro p e s m args below meth c s₁ B hml hv
  obtain ⟨rfl, hsz, hP, hK, hD0⟩ := hv
  subst hsz
  rw [lg_entry_eq]
  exact body p e s m _ below meth c _ _ rfl ⟨B.exec, B.bytes, hml, B.returns, atoms_spec (ws := ws) B.pre, findClass_of_methodNamed B.named, B.notSynchronized⟩ (fun q h => Or.inr h) _ _ hP hK hD0.self va_S.rf _ (lv_entry av hav)
theorem CV.of {y : MethodName} {ws ws' : List Cond} {rm : Room} {av : List Value} {Wd : va_W} {S : Type} {post : S → Prop} {Wd' : S → va_W} {cc : ByteArray} {maxL : Nat} {ret : Option FieldType} (hy : plainName y.cls = true) (hw : ws = Cond.code y cc maxL ret :: ws') (hav : (lg_sl av).length ≤ maxL)
    (body : ∀ (p : Program) (e : Env) (s : State) (m : MethodId) (args : Array Value) (below : List Frame) (meth : Method) (c : Code) (A : Nat → Prop) (Q : State → Prop), Q = MQ below (va_Qv post (fun u t => va_P D vwCl (Wd' u) t.heap) A) args s 0 0 A → Bx p s m args meth c y ws cc maxL ret → (∀ q : Nat, s.heap.size ≤ q → A q) → ∀ (H : Heap) (locs : List Loc), va_P D vwCl Wd H → va_K D vwCl (TY cI cT) s → va_D A Wd → va_S A s.heap H locs → ∀ ls : Array Slot, lv_has ls maxL (lv_args 0 av) → W p l e rm s m args below meth c H locs 0 0 Q (F0 m 0 ls [])) : CV l D cI cT y ws rm av Wd post Wd' := by
  intro sz
  refine Met.ofW (cc := cc) (maxL := maxL) (ret := ret) hy hw ?_
  intro p e s m args below meth c s₁ B hml hv
  obtain ⟨rfl, hsz, hP, hK, hD0⟩ := hv
  subst hsz
  rw [lg_entry_eq]
  exact body p e s m _ below meth c _ _ rfl ⟨B.exec, B.bytes, hml, B.returns, atoms_spec (ws := ws) B.pre, findClass_of_methodNamed B.named, B.notSynchronized⟩ (fun q h => Or.inr h) _ _ hP hK hD0.self va_S.rf _ (lv_entry av hav)
/-- ends -/
theorem ret_i {S : Type} {post : Int32 → S → Prop} {Wd' : S → va_W} {v : Int32} (u : S) (hQ : Q = MQ below (va_Qi post (fun u t => va_P D vwCl (Wd' u) t.heap) A) args s 0 0 A) (hx : p.tables.exec = Jvm.exec) (hb : c.code = cc) (hr : meth.sig.returnType = some .int) (hlk : meth.locks = false) (hS : va_S A s.heap H locs) (hdg : decode cc pc = .ok (.ireturn, 1)) (hP : va_P D vwCl (Wd' u) H) (hp : post v u) :
    W p l e R s m args below meth c H locs 0 0 Q (F0 m pc ls [.int v]) := by
  subst hQ
  exact W.iret hx hb hr (fun t ht hW => ⟨⟨v, u, rfl, hp, by show va_P D vwCl (Wd' u) t.heap; rw [ht]; exact hP⟩, hS.F ht⟩) hS.2.2 hdg hlk
theorem ret_z {S : Type} {post : Int32 → S → Prop} {Wd' : S → va_W} {v : Int32} (u : S) (hQ : Q = MQ below (va_Qi post (fun u t => va_P D vwCl (Wd' u) t.heap) A) args s 0 0 A) (hx : p.tables.exec = Jvm.exec) (hb : c.code = cc) (hr : meth.sig.returnType = some .boolean) (hlk : meth.locks = false) (hS : va_S A s.heap H locs) (hdg : decode cc pc = .ok (.ireturn, 1)) (hn : narrow .boolean (.int v) = .int v) (hP : va_P D vwCl (Wd' u) H) (hp : post v u) :
    W p l e R s m args below meth c H locs 0 0 Q (F0 m pc ls [.int v]) := by
  subst hQ
  exact W.zret hx hb hr hn (fun t ht hW => ⟨⟨v, u, rfl, hp, by show va_P D vwCl (Wd' u) t.heap; rw [ht]; exact hP⟩, hS.F ht⟩) hS.2.2 hdg hlk
theorem ret_v {S : Type} {post : S → Prop} {Wd' : S → va_W} (u : S) (hQ : Q = MQ below (va_Qv post (fun u t => va_P D vwCl (Wd' u) t.heap) A) args s 0 0 A) (hx : p.tables.exec = Jvm.exec) (hb : c.code = cc) (hr : meth.sig.returnType = none) (hlk : meth.locks = false) (hS : va_S A s.heap H locs) (hdg : decode cc pc = .ok (.return_, 1)) (hP : va_P D vwCl (Wd' u) H) (hp : post u) :
    W p l e R s m args below meth c H locs 0 0 Q (F0 m pc ls []) := by
  subst hQ
  exact W.vret hx hb hr (fun t ht hW => ⟨⟨u, rfl, hp, by show va_P D vwCl (Wd' u) t.heap; rw [ht]; exact hP⟩, hS.F ht⟩) hS.2.2 hdg hlk
/-- the top of the stack, written otherwise -/
theorem tpe {x y : Int32} (h : x = y) (k : W p l e R s m args below meth c H locs cells slots Q (F0 m pc ls (.int y :: rest))) : W p l e R s m args below meth c H locs cells slots Q (F0 m pc ls (.int x :: rest)) := h ▸ k
/-- a load and a store at a place that is a number -/
theorem r_ild (hx : p.tables.exec = Jvm.exec) (hb : c.code = cc) (hK : va_K D vwCl (TY cI cT) s) (hP : va_P D vwCl ws H) (q0 : Nat) {a n : Nat} {f : Nat → Int32} (ha : ws[q0]? = some (a, .inl (cI, n, .inl f))) {k : Nat} (hk : k < n) (hn : n < 2 ^ 31) (hdg : decode cc pc = .ok (.iaload, 1))
    (kk : W p l e R s m args below meth c H locs cells slots Q (F0 m (pc + 1) ls (.int (f k) :: rest))) : W p l e R s m args below meth c H locs cells slots Q (F0 m pc ls (.int (nI k) :: .ref a :: rest)) := by
  refine va_iald hx hb hK hP q0 0 ha rfl (vp_in_nI hk hn) hdg ?_
  rw [nI_clamp (Nat.lt_trans hk hn)]
  exact kk
theorem r_ist (hx : p.tables.exec = Jvm.exec) (hb : c.code = cc) (hK : va_K D vwCl (TY cI cT) s) (hP : va_P D vwCl ws H) (hD : va_D A ws) (hS : va_S A H0 H locs) (q0 : Nat) {a n : Nat} {f : Nat → Int32} (ha : ws[q0]? = some (a, .inl (cI, n, .inl f))) {k : Nat} {x : Int32} (hk : k < n) (hn : n < 2 ^ 31) (hdg : decode cc pc = .ok (.iastore, 1))
    (kk : ∀ (H1 : Heap) (locs1 : List Loc), va_P D vwCl (ws.set q0 (a, .inl (cI, n, .inl (upd f k x)))) H1 → va_D A (ws.set q0 (a, .inl (cI, n, .inl (upd f k x)))) → va_S A H0 H1 locs1 → W p l e R s m args below meth c H1 locs1 cells slots Q (F0 m (pc + 1) ls rest)) : W p l e R s m args below meth c H locs cells slots Q (F0 m pc ls (.int x :: .int (nI k) :: .ref a :: rest)) := by
  refine va_iast hx hb hK hP hD hS q0 0 ha rfl (vp_in_nI hk hn) hdg (fun H1 locs1 hP hD hS => ?_)
  rw [nI_clamp (Nat.lt_trans hk hn)] at hP hD
  exact kk H1 locs1 hP hD hS
/-- a world's part comes back from a call -/
theorem fst_at {w1 w2 : va_W} (h : w1.map Prod.fst = w2.map Prod.fst) {k : Nat} {q : Nat × va_E} (hq : w1[k]? = some q) : ∃ q2 : Nat × va_E, w2[k]? = some q2 ∧ q2.1 = q.1 := by
  have h1 : (w1.map Prod.fst)[k]? = some q.1 := by rw [List.getElem?_map, hq]; rfl
  rw [h, List.getElem?_map] at h1
  cases h2 : w2[k]? with
  | none => rw [h2] at h1; cases h1
  | some q2 => rw [h2] at h1; exact ⟨q2, rfl, Option.some.inj h1⟩
theorem va_D.cg {w1 w2 : va_W} (h : w1.map Prod.fst = w2.map Prod.fst) (hD : va_D A w2) : va_D A w1 := by
  refine ⟨fun i j x y hi hj hxy => ?_, fun k q hk => ?_⟩
  · obtain ⟨x2, hx2, ex⟩ := fst_at h hi
    obtain ⟨y2, hy2, ey⟩ := fst_at h hj
    exact hD.1 i j x2 y2 hx2 hy2 (by rw [ex, ey, hxy])
  · obtain ⟨q2, hq2, eq⟩ := fst_at h hk
    rw [← eq]
    exact hD.2 k q2 hq2
theorem jn {A0 : Nat → Prop} {X Wc Z Wc1 : va_W} {H1 : Heap} (hP : va_P D vwCl (X ++ Wc ++ Z) H) (hD : va_D A0 (X ++ Wc ++ Z)) (hk : ∀ q : Nat, q < H.size → ¬ va_A Wc H.size q → H1[q]? = H[q]?) (hP1 : va_P D vwCl Wc1 H1) (ha : Wc1.map Prod.fst = Wc.map Prod.fst) : va_P D vwCl (X ++ Wc1 ++ Z) H1 ∧ va_D A0 (X ++ Wc1 ++ Z) := by
  have hlen : Wc1.length = Wc.length := by have := congrArg List.length ha; simpa using this
  have keep : ∀ (k : Nat) (q : Nat × va_E), (X ++ Wc ++ Z)[k]? = some q → (k < X.length ∨ X.length + Wc.length ≤ k) → va_at D vwCl q H1 := by
    intro k q hq hko
    refine (hP k q hq).kept (hk q.1 (hP k q hq).lt (fun h => ?_))
    rcases h with ⟨k2, e2, h2⟩ | h2
    · have hk2 : k2 < Wc.length := (List.getElem?_eq_some_iff.mp h2).1
      have h3 : (X ++ Wc ++ Z)[X.length + k2]? = some (q.1, e2) := by
        rw [List.append_assoc, List.getElem?_append_right (by omega), List.getElem?_append_left (by omega)]
        rw [show X.length + k2 - X.length = k2 by omega]
        exact h2
      have := hD.1 k (X.length + k2) q (q.1, e2) hq h3 rfl
      omega
    · exact absurd (hP k q hq).lt (by omega)
  refine ⟨fun k q hq => ?_, va_D.cg (by simp [ha]) hD⟩
  rw [List.append_assoc] at hq
  by_cases h1 : k < X.length
  · rw [List.getElem?_append_left h1] at hq
    refine keep k q ?_ (Or.inl h1)
    rw [List.append_assoc, List.getElem?_append_left h1]
    exact hq
  · rw [List.getElem?_append_right (by omega)] at hq
    by_cases h2 : k - X.length < Wc1.length
    · rw [List.getElem?_append_left h2] at hq
      exact hP1 _ _ hq
    · rw [List.getElem?_append_right (by omega)] at hq
      refine keep k q ?_ (Or.inr (by omega))
      rw [List.append_assoc, List.getElem?_append_right (by omega), List.getElem?_append_right (by omega), ← hlen]
      exact hq
theorem sub_mid {X Wc Z : va_W} (hP : va_P D vwCl (X ++ Wc ++ Z) H) : va_P D vwCl Wc H := by
  refine hP.by (fun k => X.length + k) (fun k q hq => ?_)
  have hk2 : k < Wc.length := (List.getElem?_eq_some_iff.mp hq).1
  rw [List.append_assoc, List.getElem?_append_right (by omega), List.getElem?_append_left (by omega)]
  rw [show X.length + k - X.length = k by omega]
  exact hq
theorem subD_mid {X Wc Z : va_W} (hD : va_D A (X ++ Wc ++ Z)) : va_D A Wc := by
  refine hD.by (fun k => X.length + k) (fun k q hq => ?_) (fun i j _ _ h => by omega)
  have hk2 : k < Wc.length := (List.getElem?_eq_some_iff.mp hq).1
  rw [List.append_assoc, List.getElem?_append_right (by omega), List.getElem?_append_left (by omega)]
  rw [show X.length + k - X.length = k by omega]
  exact hq
theorem free_mid {X Wc Z : va_W} (hD : va_D A (X ++ Wc ++ Z)) (hA : ∀ q : Nat, H0.size ≤ q → A q) (hS : va_S A H0 H locs) : ∀ q, va_A Wc H.size q → A q := by
  intro q h
  rcases h with ⟨k, e, h⟩ | h
  · exact (subD_mid hD).2 k (q, e) h
  · exact hA q (Nat.le_trans hS.1 h)
theorem blind {av : List Value} {sz : Nat} {Wd : va_W} : FrameBlind (va_Pc av (fun U => U.heap.size = sz ∧ va_P D vwCl Wd U.heap ∧ va_K D vwCl (TY cI cT) U ∧ va_D (fun _ => True) Wd)) :=
  fun a U g mk q => by obtain ⟨q0, q1, qP, qK, qD⟩ := q; exact ⟨q0, q1, qP, va_K.moved (u := U) (U := U.calling g mk a) (Vm.Alike.refl U.vm) qK, qD⟩
/-- a call of an instance method over a part of the world -/
theorem call_i {S : Type} {post : Int32 → S → Prop} {Wd' : S → va_W} {X Wc Z : va_W} {wsC Ts : List Cond} {rm : Room} {y : MethodName} {bytes : ByteArray} {nL maxL n index : Nat} {own C : String} {ret : Option FieldType} {b : Nat} {As st0 : List Value}
    (CF : CallFix p m c cc nL s args Ts own) (hC : CN l D cI cT y wsC rm (.ref b :: As) Wc post Wd') (cw : CallW R s args own C index y bytes maxL ret wsC rm 0 0 n)
    (hK : va_K D vwCl (TY cI cT) s) (hP : va_P D vwCl (X ++ Wc ++ Z) H) (hD : va_D A (X ++ Wc ++ Z)) (hS : va_S A H0 H locs) (hA : ∀ q : Nat, H0.size ≤ q → A q)
    (hrecv : ∃ cell : Cell, H[b]? = some cell ∧ cell.vm.isStatics = false ∧ s.vm.findClass C = some cell.cls)
    (hadr : ∀ u, (Wd' u).map Prod.fst = Wc.map Prod.fst) (hn : As.length = n) (hls : ls.size = nL) (hst : st0 = As.reverse ++ .ref b :: rest) (hroom : (rest.map fun v => v.category).sum ≤ 8) (hf : cells ≤ R.cells ∧ slots ≤ R.slots) (hdg : decode cc pc = .ok (.invokevirtual index, 3))
    (kk : ∀ (r : Int32) (u : S) (H1 : Heap) (locs1 : List Loc), post r u → va_P D vwCl (X ++ Wd' u ++ Z) H1 → va_D A (X ++ Wd' u ++ Z) → va_S A H0 H1 locs1 → W p l e R s m args below meth c H1 locs1 cells slots Q (F0 m (pc + 3) ls (.int r :: rest))) :
    W p l e R s m args below meth c H locs cells slots Q (F0 m pc ls st0) := by
  have hF := free_mid hD hA hS
  refine va_calli (va_runV (As := As) (rest := rest) CF (hC H.size) cw ⟨blind, hrecv, fun U hU hW => ⟨rfl, by rw [hU], by rw [hU]; exact sub_mid hP, va_K.moved hW.alike hK, (subD_mid hD).weaken (fun _ _ _ _ => trivial)⟩⟩ rfl hn hls hst (lv_room hroom) hdg hf) hS (fun q _ h => hF q h) hF (fun r u t H1 locs1 ht hvm hp hB hz hk hS1 => ?_)
  rw [ht] at hB
  obtain ⟨hP1, hD1⟩ := jn hP hD hk hB (hadr u)
  exact kk r u H1 locs1 hp hP1 hD1 hS1
theorem call_v {S : Type} {post : S → Prop} {Wd' : S → va_W} {X Wc Z : va_W} {wsC Ts : List Cond} {rm : Room} {y : MethodName} {bytes : ByteArray} {nL maxL n index : Nat} {own C : String} {ret : Option FieldType} {b : Nat} {As st0 : List Value}
    (CF : CallFix p m c cc nL s args Ts own) (hC : CV l D cI cT y wsC rm (.ref b :: As) Wc post Wd') (cw : CallW R s args own C index y bytes maxL ret wsC rm 0 0 n)
    (hK : va_K D vwCl (TY cI cT) s) (hP : va_P D vwCl (X ++ Wc ++ Z) H) (hD : va_D A (X ++ Wc ++ Z)) (hS : va_S A H0 H locs) (hA : ∀ q : Nat, H0.size ≤ q → A q)
    (hrecv : ∃ cell : Cell, H[b]? = some cell ∧ cell.vm.isStatics = false ∧ s.vm.findClass C = some cell.cls)
    (hadr : ∀ u, (Wd' u).map Prod.fst = Wc.map Prod.fst) (hn : As.length = n) (hls : ls.size = nL) (hst : st0 = As.reverse ++ .ref b :: rest) (hroom : (rest.map fun v => v.category).sum ≤ 8) (hf : cells ≤ R.cells ∧ slots ≤ R.slots) (hdg : decode cc pc = .ok (.invokevirtual index, 3))
    (kk : ∀ (u : S) (H1 : Heap) (locs1 : List Loc), post u → va_P D vwCl (X ++ Wd' u ++ Z) H1 → va_D A (X ++ Wd' u ++ Z) → va_S A H0 H1 locs1 → W p l e R s m args below meth c H1 locs1 cells slots Q (F0 m (pc + 3) ls rest)) :
    W p l e R s m args below meth c H locs cells slots Q (F0 m pc ls st0) := by
  have hF := free_mid hD hA hS
  refine va_callv (va_runV (As := As) (rest := rest) CF (hC H.size) cw ⟨blind, hrecv, fun U hU hW => ⟨rfl, by rw [hU], by rw [hU]; exact sub_mid hP, va_K.moved hW.alike hK, (subD_mid hD).weaken (fun _ _ _ _ => trivial)⟩⟩ rfl hn hls hst (lv_room hroom) hdg hf) hS (fun q _ h => hF q h) hF (fun u t H1 locs1 ht hvm hp hB hz hk hS1 => ?_)
  rw [ht] at hB
  obtain ⟨hP1, hD1⟩ := jn hP hD hk hB (hadr u)
  exact kk u H1 locs1 hp hP1 hD1 hS1
/-- a call of a static method over a part of the world -/
theorem call_s {S : Type} {post : Int32 → S → Prop} {Wd' : S → va_W} {X Wc Z : va_W} {wsC Ts : List Cond} {rm : Room} {y : MethodName} {bytes : ByteArray} {nL maxL n index : Nat} {own : String} {ret : Option FieldType} {As st0 : List Value}
    (CF : CallFix p m c cc nL s args Ts own) (hC : CN l D cI cT y wsC rm As Wc post Wd') (cw : CallB R s args own index y bytes maxL ret wsC rm 0 0 n ∧ (Cond.static y).before args s = true)
    (hK : va_K D vwCl (TY cI cT) s) (hP : va_P D vwCl (X ++ Wc ++ Z) H) (hD : va_D A (X ++ Wc ++ Z)) (hS : va_S A H0 H locs) (hA : ∀ q : Nat, H0.size ≤ q → A q)
    (hadr : ∀ u, (Wd' u).map Prod.fst = Wc.map Prod.fst) (hn : As.length = n) (hls : ls.size = nL) (hst : st0 = As.reverse ++ rest) (hroom : (rest.map fun v => v.category).sum ≤ 8) (hf : cells ≤ R.cells ∧ slots ≤ R.slots) (hdg : decode cc pc = .ok (.invokestatic index, 3))
    (kk : ∀ (r : Int32) (u : S) (H1 : Heap) (locs1 : List Loc), post r u → va_P D vwCl (X ++ Wd' u ++ Z) H1 → va_D A (X ++ Wd' u ++ Z) → va_S A H0 H1 locs1 → W p l e R s m args below meth c H1 locs1 cells slots Q (F0 m (pc + 3) ls (.int r :: rest))) :
    W p l e R s m args below meth c H locs cells slots Q (F0 m pc ls st0) := by
  have hF := free_mid hD hA hS
  refine va_calli (va_runS (As := As) (rest := rest) CF (hC H.size) cw ⟨blind, fun U hU hW => ⟨rfl, by rw [hU], by rw [hU]; exact sub_mid hP, va_K.moved hW.alike hK, (subD_mid hD).weaken (fun _ _ _ _ => trivial)⟩⟩ rfl hn hls hst (lv_room hroom) hdg hf) hS (fun q _ h => hF q h) hF (fun r u t H1 locs1 ht hvm hp hB hz hk hS1 => ?_)
  rw [ht] at hB
  obtain ⟨hP1, hD1⟩ := jn hP hD hk hB (hadr u)
  exact kk r u H1 locs1 hp hP1 hD1 hS1
theorem nupd {g : Nat → Nat} {k v : Nat} : upd (fun z => nI (g z)) k (nI v) = fun z => nI (va_up g k v z) := by
  funext z
  by_cases h : z = k <;> simp [upd, va_up, h]
theorem iinc_m1 {a : Nat} (h : 1 ≤ a) : nI a + Int32.ofInt (-1) = nI (a - 1) := by
  obtain ⟨b, rfl⟩ : ∃ b, a = b + 1 := ⟨a - 1, by omega⟩
  rw [show Int32.ofInt (-1) = -1 from by decide, pk_m1]
  rfl
end BASE
