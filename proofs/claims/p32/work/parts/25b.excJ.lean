section EXCJ
variable {p : Program} {l : Launch} {e : Env} {R : Room} {s : State} {m : MethodId} {args : Array Value} {below : List Frame} {meth : Method} {c : Code} {H : Heap} {locs : List Loc} {cells slots : Nat} {Q : State → Prop}
variable {cc : ByteArray} {pc : Nat} {ls : Array Slot} {rest : List Value} {D : va_G} {cI cT : ClassId} {A : Nat → Prop}
/-- a contract that may throw, behind which what is held beside the state may be another -/
def CJ (l : Launch) (D : va_G) (cI cT : ClassId) (y : MethodName) (ws : List Cond) (rm : Room) (av : List Value) (Wd : va_W) {S SX : Type} (post : Int32 → S → Prop) (Wd' : S → va_W) (pj : SX → String → Prop) (Wx : SX → va_W) (mc ms : Nat) : Prop :=
  ∀ sz : Nat, vx_Met l y ws rm (va_Pc av (fun U => U.heap.size = sz ∧ va_P D vwCl Wd U.heap ∧ va_K D vwCl (TY cI cT) U ∧ va_D (fun _ => True) Wd ∧ XP (va_A Wd sz) U U.heap)) (va_Qi post (fun u t => va_P D vwCl (Wd' u) t.heap) (va_A Wd sz)) (vx_X (S := SX) (fun _ => True) (fun E u t => pj u E ∧ va_P D vwCl (Wx u) t.heap) (va_A Wd sz)) mc ms (va_A Wd sz)
theorem CJ.of {y : MethodName} {ws ws' : List Cond} {rm : Room} {av : List Value} {Wd : va_W} {S SX : Type} {post : Int32 → S → Prop} {Wd' : S → va_W} {pj : SX → String → Prop} {Wx : SX → va_W} {mc ms : Nat} {cc : ByteArray} {maxL : Nat} {ret : Option FieldType} (hy : plainName y.cls = true) (hw : ws = Cond.code y cc maxL ret :: ws') (hav : (lg_sl av).length ≤ maxL)
    (body : ∀ (p : Program) (e : Env) (s : State) (m : MethodId) (args : Array Value) (below : List Frame) (meth : Method) (c : Code) (A : Nat → Prop) (Q : State → Prop), Q = vx_MQ below (va_Qi post (fun u t => va_P D vwCl (Wd' u) t.heap) A) (vx_X (S := SX) (fun _ => True) (fun E u t => pj u E ∧ va_P D vwCl (Wx u) t.heap) A) args s mc ms A → Bx p s m args meth c y ws cc maxL ret → (∀ x ∈ c.exceptionTable.toList, False) → (∀ q : Nat, s.heap.size ≤ q → A q) → XP A s s.heap → ∀ (H : Heap) (locs : List Loc), va_P D vwCl Wd H → va_K D vwCl (TY cI cT) s → va_D A Wd → va_S A s.heap H locs → ∀ ls : Array Slot, lv_has ls maxL (lv_args 0 av) → W p l e rm s m args below meth c H locs 0 0 Q (F0 m 0 ls [])) : CJ l D cI cT y ws rm av Wd post Wd' pj Wx mc ms := by
  intro sz
  refine vx_ofW (cc := cc) (maxL := maxL) (ret := ret) hy hw ?_
  intro p e s m args below meth c s₁ B hml hout hv
  obtain ⟨rfl, hsz, hP, hK, hD0, hX⟩ := hv
  subst hsz
  rw [lg_entry_eq]
  exact body p e s m _ below meth c _ _ rfl ⟨B.exec, B.bytes, hml, B.returns, atoms_spec (ws := ws) B.pre, findClass_of_methodNamed B.named, B.notSynchronized⟩ hout (fun q h => Or.inr h) hX _ _ hP hK hD0.self va_S.rf _ (lv_entry av hav)
theorem xret_j {S : Type} {post : Int32 → S → Prop} {Wd' : S → va_W} {XC : String → State → State → Prop} {mc ms : Nat} {v : Int32} (u : S) (hQ : Q = vx_MQ below (va_Qi post (fun u t => va_P D vwCl (Wd' u) t.heap) A) XC args s mc ms A) (hx : p.tables.exec = Jvm.exec) (hb : c.code = cc) (hr : meth.sig.returnType = some .int) (hlk : meth.locks = false) (hS : va_S A s.heap H locs) (hdg : decode cc pc = .ok (.ireturn, 1)) (hP : va_P D vwCl (Wd' u) H) (hp : post v u) (hc : cells ≤ mc ∧ slots ≤ ms) :
    W p l e R s m args below meth c H locs cells slots Q (F0 m pc ls [.int v]) := by
  subst hQ
  refine W.widen hc.1 hc.2 (vx_ret ?_)
  exact W.iret hx hb hr (fun t ht hW => ⟨⟨v, u, rfl, hp, by show va_P D vwCl (Wd' u) t.heap; rw [ht]; exact hP⟩, hS.F ht⟩) hS.2.2 hdg hlk
theorem thrJ {Qc : Array Value → State → Outcome → State → Prop} {SX : Type} {pj : SX → String → Prop} {Wx : SX → va_W} {mc ms ik is ic : Nat} {cls text : String} {Ts : List Cond} (u : SX)
    (hx : p.tables.exec = Jvm.exec) (hb : c.code = cc) (hl : l.stackTraces = false) (hown : s.vm.findClass RX4 = some m.cls) (hts : ∀ w ∈ Ts, w.before args s = true) (hXP : XP A s s.heap) (hS : va_S A s.heap H locs) (hsz : ls.size = c.maxLocals) (hout : ∀ x ∈ c.exceptionTable.toList, False) (hlk : meth.locks = false) (hA : ∀ q : Nat, s.heap.size ≤ q → A q)
    (hcls : Bundle.fit cls = true) (hXW : XW cls s) (htx : (is, text) ∈ xTx) (hk : (Cond.classLink RX4 ik cls).before args s = true) (hini : (Cond.initialized cls).before args s = true)
    (hgd : ∀ w ∈ (vx_atS RX4 ic cls xNm).filter goodWord, w ∈ Ts) (hbd : ∀ w ∈ (vx_atS RX4 ic cls xNm).filter (fun w => !goodWord w), w ∈ xBad cls) (hot : ∀ w ∈ Cond.classLink RX4 ik cls :: Cond.initialized cls :: vx_atS RX4 ic cls xNm, vx_ot w = true)
    (d0 : decode cc pc = .ok (.new ik, 3)) (d3 : decode cc (pc + 3) = .ok (.dup, 1)) (d4 : decode cc (pc + 4) = .ok (.ldc is, 2)) (d6 : decode cc (pc + 6) = .ok (.invokespecial ic, 3)) (d9 : decode cc (pc + 9) = .ok (.athrow, 1))
    (hR : 5 < R.frames ∧ (rest.map fun v => v.category).sum + 82 ≤ R.locals ∧ cells + 1 ≤ R.cells ∧ slots + 6 ≤ R.slots) (hP : va_P D vwCl (Wx u) H) (hpx : pj u cls) (hc : cells + 1 ≤ mc ∧ slots + 6 ≤ ms) :
    W p l e R s m args below meth c H locs cells slots (vx_MQ below Qc (vx_X (S := SX) (fun _ => True) (fun E u t => pj u E ∧ va_P D vwCl (Wx u) t.heap) A) args s mc ms A) (F0 m pc ls rest) := by
  obtain ⟨sa, hsa⟩ := hXP.2.2.2.2.2 _ htx
  refine vx_throwS hx hb hl hown hcls (by decide) hk hini hsa ?_ hot hXP.1 hXP.2.1 hS hsz d0 d3 d4 d6 d9 (fun x hx' => (hout x hx').elim) hR.1 hR.2.1 hR.2.2.1 hR.2.2.2 hlk (fun t hvm hz hq => ?_) hS.2.2 hc.1 hc.2
  · refine vx_hat (fun w hw => hts w (hgd w hw)) hbd (fun w hw => ?_)
    refine va_Nw.use ?_ (hXW w hw)
    rcases List.mem_cons.mp hw with rfl | hw
    · rfl
    · rcases List.mem_cons.mp hw with rfl | hw
      · rfl
      · rcases List.mem_cons.mp hw with rfl | hw
        · rfl
        · rcases List.mem_cons.mp hw with rfl | hw
          · rfl
          · cases hw
  · refine ⟨u, trivial, ⟨hpx, hP.kept (fun k q hk => hq q.1 (hP k q hk).lt)⟩, Nat.le_trans hS.1 hz, fun q h1 h2 => ?_⟩
    rw [hq q (Nat.lt_of_lt_of_le h1 hS.1)]
    exact hS.2.1 q h1 h2
end EXCJ
