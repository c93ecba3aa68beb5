/-! contracts of the law's own methods: worlds with numbers of two kinds -/
section BASEL
variable {p : Program} {l : Launch} {e : Env} {R : Room} {s : State} {m : MethodId} {args : Array Value} {below : List Frame} {meth : Method} {c : Code} {H : Heap} {locs : List Loc} {cells slots : Nat} {Q : State → Prop}
variable {cc : ByteArray} {pc : Nat} {ls : Array Slot} {rest : List Value} {D : va_G} {cI cT cL : ClassId} {A : Nat → Prop} {H0 : Heap} {ws : va_W}
abbrev TYL (cI cT cL : ClassId) : List (ClassId × FieldType) := TY cI cT ++ [(cL, .long)]
/-- an int (or boolean) comes back -/
def CL (l : Launch) (D : va_G) (cI cT cL : ClassId) (y : MethodName) (ws : List Cond) (rm : Room) (av : List Value) (Wd : va_W) {S : Type} (post : Int32 → S → Prop) (Wd' : S → va_W) : Prop :=
  ∀ sz : Nat, Met l y ws rm (va_Pc av (fun U => U.heap.size = sz ∧ va_P D vwCl Wd U.heap ∧ va_K D vwCl (TYL cI cT cL) U ∧ va_D (fun _ => True) Wd)) (va_Qi post (fun u t => va_P D vwCl (Wd' u) t.heap) (va_A Wd sz)) 0 0 (va_A Wd sz)
/-- nothing comes back -/
def CLv (l : Launch) (D : va_G) (cI cT cL : ClassId) (y : MethodName) (ws : List Cond) (rm : Room) (av : List Value) (Wd : va_W) {S : Type} (post : S → Prop) (Wd' : S → va_W) : Prop :=
  ∀ sz : Nat, Met l y ws rm (va_Pc av (fun U => U.heap.size = sz ∧ va_P D vwCl Wd U.heap ∧ va_K D vwCl (TYL cI cT cL) U ∧ va_D (fun _ => True) Wd)) (va_Qv post (fun u t => va_P D vwCl (Wd' u) t.heap) (va_A Wd sz)) 0 0 (va_A Wd sz)
theorem CL.of {y : MethodName} {ws ws' : List Cond} {rm : Room} {av : List Value} {Wd : va_W} {S : Type} {post : Int32 → S → Prop} {Wd' : S → va_W} {cc : ByteArray} {maxL : Nat} {ret : Option FieldType} (hy : plainName y.cls = true) (hw : ws = Cond.code y cc maxL ret :: ws') (hav : (lg_sl av).length ≤ maxL)
    (body : ∀ (p : Program) (e : Env) (s : State) (m : MethodId) (args : Array Value) (below : List Frame) (meth : Method) (c : Code) (A : Nat → Prop) (Q : State → Prop), Q = MQ below (va_Qi post (fun u t => va_P D vwCl (Wd' u) t.heap) A) args s 0 0 A → Bx p s m args meth c y ws cc maxL ret → (∀ q : Nat, s.heap.size ≤ q → A q) → ∀ (H : Heap) (locs : List Loc), va_P D vwCl Wd H → va_K D vwCl (TYL cI cT cL) s → va_D A Wd → va_S A s.heap H locs → ∀ ls : Array Slot, lv_has ls maxL (lv_args 0 av) → W p l e rm s m args below meth c H locs 0 0 Q (F0 m 0 ls [])) : CL l D cI cT cL y ws rm av Wd post Wd' := by
  intro sz
  refine Met.ofW (cc := cc) (maxL := maxL) (ret := ret) hy hw ?_
  intro p e s m args below meth c s₁ B hml hv
  obtain ⟨rfl, hsz, hP, hK, hD0⟩ := hv
  subst hsz
  rw [lg_entry_eq]
  exact body p e s m _ below meth c _ _ rfl ⟨B.exec, B.bytes, hml, B.returns, atoms_spec (ws := ws) B.pre, findClass_of_methodNamed B.named, B.notSynchronized⟩ (fun q h => Or.inr h) _ _ hP hK hD0.self va_S.rf _ (lv_entry av hav)
theorem CLv.of {y : MethodName} {ws ws' : List Cond} {rm : Room} {av : List Value} {Wd : va_W} {S : Type} {post : S → Prop} {Wd' : S → va_W} {cc : ByteArray} {maxL : Nat} {ret : Option FieldType} (hy : plainName y.cls = true) (hw : ws = Cond.code y cc maxL ret :: ws') (hav : (lg_sl av).length ≤ maxL)
    (body : ∀ (p : Program) (e : Env) (s : State) (m : MethodId) (args : Array Value) (below : List Frame) (meth : Method) (c : Code) (A : Nat → Prop) (Q : State → Prop), Q = MQ below (va_Qv post (fun u t => va_P D vwCl (Wd' u) t.heap) A) args s 0 0 A → Bx p s m args meth c y ws cc maxL ret → (∀ q : Nat, s.heap.size ≤ q → A q) → ∀ (H : Heap) (locs : List Loc), va_P D vwCl Wd H → va_K D vwCl (TYL cI cT cL) s → va_D A Wd → va_S A s.heap H locs → ∀ ls : Array Slot, lv_has ls maxL (lv_args 0 av) → W p l e rm s m args below meth c H locs 0 0 Q (F0 m 0 ls [])) : CLv l D cI cT cL y ws rm av Wd post Wd' := by
  intro sz
  refine Met.ofW (cc := cc) (maxL := maxL) (ret := ret) hy hw ?_
  intro p e s m args below meth c s₁ B hml hv
  obtain ⟨rfl, hsz, hP, hK, hD0⟩ := hv
  subst hsz
  rw [lg_entry_eq]
  exact body p e s m _ below meth c _ _ rfl ⟨B.exec, B.bytes, hml, B.returns, atoms_spec (ws := ws) B.pre, findClass_of_methodNamed B.named, B.notSynchronized⟩ (fun q h => Or.inr h) _ _ hP hK hD0.self va_S.rf _ (lv_entry av hav)
theorem blindL {av : List Value} {sz : Nat} {Wd : va_W} : FrameBlind (va_Pc av (fun U => U.heap.size = sz ∧ va_P D vwCl Wd U.heap ∧ va_K D vwCl (TYL cI cT cL) U ∧ va_D (fun _ => True) Wd)) :=
  fun a U g mk q => by obtain ⟨q0, q1, qP, qK, qD⟩ := q; exact ⟨q0, q1, qP, va_K.moved (u := U) (U := U.calling g mk a) (Vm.Alike.refl U.vm) qK, qD⟩
/-- a call of the law's own method over a part of the world -/
theorem call_l {S : Type} {post : Int32 → S → Prop} {Wd' : S → va_W} {X Wc Z : va_W} {wsC Ts : List Cond} {rm : Room} {y : MethodName} {bytes : ByteArray} {nL maxL n index : Nat} {own : String} {ret : Option FieldType} {As st0 : List Value}
    (CF : CallFix p m c cc nL s args Ts own) (hC : CL l D cI cT cL y wsC rm As Wc post Wd') (cw : CallB R s args own index y bytes maxL ret wsC rm 0 0 n ∧ (Cond.static y).before args s = true)
    (hK : va_K D vwCl (TYL cI cT cL) s) (hP : va_P D vwCl (X ++ Wc ++ Z) H) (hD : va_D A (X ++ Wc ++ Z)) (hS : va_S A H0 H locs) (hA : ∀ q : Nat, H0.size ≤ q → A q)
    (hadr : ∀ u, (Wd' u).map Prod.fst = Wc.map Prod.fst) (hn : As.length = n) (hls : ls.size = nL) (hst : st0 = As.reverse ++ rest) (hroom : (rest.map fun v => v.category).sum ≤ 8) (hf : cells ≤ R.cells ∧ slots ≤ R.slots) (hdg : decode cc pc = .ok (.invokestatic index, 3))
    (kk : ∀ (r : Int32) (u : S) (H1 : Heap) (locs1 : List Loc), post r u → va_P D vwCl (X ++ Wd' u ++ Z) H1 → va_D A (X ++ Wd' u ++ Z) → va_S A H0 H1 locs1 → W p l e R s m args below meth c H1 locs1 cells slots Q (F0 m (pc + 3) ls (.int r :: rest))) :
    W p l e R s m args below meth c H locs cells slots Q (F0 m pc ls st0) := by
  have hF := free_mid hD hA hS
  refine va_calli (va_runS (As := As) (rest := rest) CF (hC H.size) cw ⟨blindL, fun U hU hW => ⟨rfl, by rw [hU], by rw [hU]; exact sub_mid hP, va_K.moved hW.alike hK, (subD_mid hD).weaken (fun _ _ _ _ => trivial)⟩⟩ rfl hn hls hst (lv_room hroom) hdg hf) hS (fun q _ h => hF q h) hF (fun r u t H1 locs1 ht hvm hp hB hz hk hS1 => ?_)
  rw [ht] at hB
  obtain ⟨hP1, hD1⟩ := jn hP hD hk hB (hadr u)
  exact kk r u H1 locs1 hp hP1 hD1 hS1
theorem call_lv {S : Type} {post : S → Prop} {Wd' : S → va_W} {X Wc Z : va_W} {wsC Ts : List Cond} {rm : Room} {y : MethodName} {bytes : ByteArray} {nL maxL n index : Nat} {own : String} {ret : Option FieldType} {As st0 : List Value}
    (CF : CallFix p m c cc nL s args Ts own) (hC : CLv l D cI cT cL y wsC rm As Wc post Wd') (cw : CallB R s args own index y bytes maxL ret wsC rm 0 0 n ∧ (Cond.static y).before args s = true)
    (hK : va_K D vwCl (TYL cI cT cL) s) (hP : va_P D vwCl (X ++ Wc ++ Z) H) (hD : va_D A (X ++ Wc ++ Z)) (hS : va_S A H0 H locs) (hA : ∀ q : Nat, H0.size ≤ q → A q)
    (hadr : ∀ u, (Wd' u).map Prod.fst = Wc.map Prod.fst) (hn : As.length = n) (hls : ls.size = nL) (hst : st0 = As.reverse ++ rest) (hroom : (rest.map fun v => v.category).sum ≤ 8) (hf : cells ≤ R.cells ∧ slots ≤ R.slots) (hdg : decode cc pc = .ok (.invokestatic index, 3))
    (kk : ∀ (u : S) (H1 : Heap) (locs1 : List Loc), post u → va_P D vwCl (X ++ Wd' u ++ Z) H1 → va_D A (X ++ Wd' u ++ Z) → va_S A H0 H1 locs1 → W p l e R s m args below meth c H1 locs1 cells slots Q (F0 m (pc + 3) ls rest)) :
    W p l e R s m args below meth c H locs cells slots Q (F0 m pc ls st0) := by
  have hF := free_mid hD hA hS
  refine va_callv (va_runS (As := As) (rest := rest) CF (hC H.size) cw ⟨blindL, fun U hU hW => ⟨rfl, by rw [hU], by rw [hU]; exact sub_mid hP, va_K.moved hW.alike hK, (subD_mid hD).weaken (fun _ _ _ _ => trivial)⟩⟩ rfl hn hls hst (lv_room hroom) hdg hf) hS (fun q _ h => hF q h) hF (fun u t H1 locs1 ht hvm hp hB hz hk hS1 => ?_)
  rw [ht] at hB
  obtain ⟨hP1, hD1⟩ := jn hP hD hk hB (hadr u)
  exact kk u H1 locs1 hp hP1 hD1 hS1
/-- longs at a place that is a number -/
theorem r_lld (hx : p.tables.exec = Jvm.exec) (hb : c.code = cc) (hK : va_K D vwCl (TYL cI cT cL) s) (hP : va_P D vwCl ws H) (q0 : Nat) {a n : Nat} {f : Nat → Int64} (ha : ws[q0]? = some (a, .inl (cL, n, .inr (.inl f)))) {k : Nat} (hk : k < n) (hn : n < 2 ^ 31) (hdg : decode cc pc = .ok (.laload, 1))
    (kk : W p l e R s m args below meth c H locs cells slots Q (F0 m (pc + 1) ls (.long (f k) :: rest))) : W p l e R s m args below meth c H locs cells slots Q (F0 m pc ls (.int (nI k) :: .ref a :: rest)) := by
  refine va_lald hx hb hK hP q0 2 ha rfl (vp_in_nI hk hn) hdg ?_
  rw [nI_clamp (Nat.lt_trans hk hn)]
  exact kk
theorem r_lst (hx : p.tables.exec = Jvm.exec) (hb : c.code = cc) (hK : va_K D vwCl (TYL cI cT cL) s) (hP : va_P D vwCl ws H) (hD : va_D A ws) (hS : va_S A H0 H locs) (q0 : Nat) {a n : Nat} {f : Nat → Int64} (ha : ws[q0]? = some (a, .inl (cL, n, .inr (.inl f)))) {k : Nat} {x : Int64} (hk : k < n) (hn : n < 2 ^ 31) (hdg : decode cc pc = .ok (.lastore, 1))
    (kk : ∀ (H1 : Heap) (locs1 : List Loc), va_P D vwCl (ws.set q0 (a, .inl (cL, n, .inr (.inl (vp_updL f k x))))) H1 → va_D A (ws.set q0 (a, .inl (cL, n, .inr (.inl (vp_updL f k x))))) → va_S A H0 H1 locs1 → W p l e R s m args below meth c H1 locs1 cells slots Q (F0 m (pc + 1) ls rest)) : W p l e R s m args below meth c H locs cells slots Q (F0 m pc ls (.long x :: .int (nI k) :: .ref a :: rest)) := by
  refine va_last hx hb hK hP hD hS q0 2 ha rfl (vp_in_nI hk hn) hdg (fun H1 locs1 hP hD hS => ?_)
  rw [nI_clamp (Nat.lt_trans hk hn)] at hP hD
  exact kk H1 locs1 hP hD hS
theorem tpl {x y : Int64} (h : x = y) (k : W p l e R s m args below meth c H locs cells slots Q (F0 m pc ls (.long y :: rest))) : W p l e R s m args below meth c H locs cells slots Q (F0 m pc ls (.long x :: rest)) := h ▸ k
end BASEL
