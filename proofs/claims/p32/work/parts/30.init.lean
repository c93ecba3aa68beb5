section INITB
variable {p : Program} {l : Launch} {e : Env} {R : Room} {s : State} {m : MethodId} {args : Array Value} {below : List Frame} {meth : Method} {c : Code} {H : Heap} {locs : List Loc} {cells slots : Nat} {Q : State → Prop}
variable {cc : ByteArray} {pc : Nat} {ls : Array Slot} {rest : List Value} {D : va_G} {cI cT : ClassId} {A : Nat → Prop} {H0 : Heap} {ws : va_W} {tys : List (ClassId × FieldType)}
/-- a contract of a constructor: it makes cells -/
def CI (l : Launch) (D : va_G) (cI cT : ClassId) (y : MethodName) (ws : List Cond) (rm : Room) (mc ms : Nat) (Ex : State → Prop) (av : List Value) (Wd : va_W) {S : Type} (post : S → Prop) (Wd' : S → va_W) : Prop :=
  ∀ sz : Nat, Met l y ws rm (va_Pc av (fun U => U.heap.size = sz ∧ va_P D vwCl Wd U.heap ∧ (va_K D vwCl (TY cI cT) U ∧ Ex U) ∧ va_D (fun _ => True) Wd)) (va_Qv post (fun u t => va_P D vwCl (Wd' u) t.heap ∧ va_D (va_A Wd sz) (Wd' u)) (va_A Wd sz)) mc ms (va_A Wd sz)
theorem CI.of {y : MethodName} {ws ws' : List Cond} {rm : Room} {mc ms : Nat} {Ex : State → Prop} {av : List Value} {Wd : va_W} {S : Type} {post : S → Prop} {Wd' : S → va_W} {cc : ByteArray} {maxL : Nat} {ret : Option FieldType} (hy : plainName y.cls = true) (hw : ws = Cond.code y cc maxL ret :: ws') (hav : (lg_sl av).length ≤ maxL) (hyn : y.name = "<init>")
    (body : ∀ (p : Program) (e : Env) (s : State) (m : MethodId) (args : Array Value) (below : List Frame) (meth : Method) (c : Code) (A : Nat → Prop) (Q : State → Prop), Q = MQ below (va_Qv post (fun u t => va_P D vwCl (Wd' u) t.heap ∧ va_D A (Wd' u)) A) args s mc ms A → Bx p s m args meth c y ws cc maxL ret → meth.name = "<init>" → (∀ q : Nat, s.heap.size ≤ q → A q) → ∀ (H : Heap) (locs : List Loc), va_P D vwCl Wd H → va_K D vwCl (TY cI cT) s → Ex s → va_D A Wd → va_S A s.heap H locs → ∀ ls : Array Slot, lv_has ls maxL (lv_args 0 av) → W p l e rm s m args below meth c H locs 0 0 Q (F0 m 0 ls [])) : CI l D cI cT y ws rm mc ms Ex av Wd post Wd' := by
  intro sz
  refine Met.ofW (cc := cc) (maxL := maxL) (ret := ret) hy hw ?_
  intro p e s m args below meth c s₁ B hml hv
  obtain ⟨rfl, hsz, hP, ⟨hK, hE⟩, hD0⟩ := hv
  subst hsz
  rw [lg_entry_eq]
  exact body p e s m _ below meth c _ _ rfl ⟨B.exec, B.bytes, hml, B.returns, atoms_spec (ws := ws) B.pre, findClass_of_methodNamed B.named, B.notSynchronized⟩ (hyn ▸ (name_of_methodNamed B.named B.method).1) (fun q h => Or.inr h) _ _ hP hK hE hD0.self va_S.rf _ (lv_entry av hav)
theorem ret_c {S : Type} {post : S → Prop} {Wd' : S → va_W} {mc ms : Nat} (u : S) (hQ : Q = MQ below (va_Qv post (fun u t => va_P D vwCl (Wd' u) t.heap ∧ va_D A (Wd' u)) A) args s mc ms A) (hx : p.tables.exec = Jvm.exec) (hb : c.code = cc) (hr : meth.sig.returnType = none) (hlk : meth.locks = false) (hS : va_S A s.heap H locs) (hdg : decode cc pc = .ok (.return_, 1)) (hP : va_P D vwCl (Wd' u) H) (hD : va_D A (Wd' u)) (hp : post u) :
    W p l e R s m args below meth c H locs mc ms Q (F0 m pc ls []) := by
  subst hQ
  exact W.vret hx hb hr (fun t ht hW => ⟨⟨u, rfl, hp, by rw [ht]; exact hP, hD⟩, hS.F ht⟩) hS.2.2 hdg hlk
theorem cA_eq {cA : ClassId} (hK : va_K D vwCl (TY cI cT ++ [(cA, .int)]) s) : cA = cI := by
  have h1 : s.vm.findClass _ = some cI := (hK.2 0 _ rfl).2
  have h2 : s.vm.findClass _ = some cA := (hK.2 2 _ rfl).2
  exact Option.some.inj (h2.symm.trans h1)
/-- an array of ints is made -/
theorem r_newI (hx : p.tables.exec = Jvm.exec) (hb : c.code = cc) (harr : (Cond.arrayClass .int).before args s = true) (hK : va_K D vwCl (TY cI cT) s) (hP : va_P D vwCl ws H) (hD : va_D A ws) (hS : va_S A H0 H locs) (hA : ∀ q, H0.size ≤ q → A q)
    {n : Nat} (hn : n < 1000) (hcells : cells + 1 ≤ R.cells) (hslots : slots + n ≤ R.slots) (hdg : decode cc pc = .ok (.newarray .int, 2))
    (kk : ∀ (q : Nat) (H1 : Heap), va_P D vwCl (ws ++ [(q, .inl (cI, n, .inl (fun _ => 0)))]) H1 → va_D A (ws ++ [(q, .inl (cI, n, .inl (fun _ => 0)))]) → va_S A H0 H1 locs →
      W p l e R s m args below meth c H1 locs (cells + 1) (slots + n) Q (F0 m (pc + 2) ls (.ref q :: rest))) : W p l e R s m args below meth c H locs cells slots Q (F0 m pc ls (.int (nI n) :: rest)) := by
  refine va_newa (atype := .int) (ty := .int) (a0 := (n, .inl (fun _ => 0))) hx hb harr rfl hK hP hD hS hA (fun cA => rfl) (by rw [Int32.lt_iff_toInt_lt]; rw [nI_toInt (by omega)]; simp) (nI_clamp (by omega)) (by show n * 4 ≤ _; omega) hcells hslots hdg (fun q cA H1 hK1 hP1 hD1 hS1 => ?_)
  obtain rfl := cA_eq hK1
  exact kk q H1 hP1 hD1 hS1
theorem cT_eq {cA : ClassId} (hK : va_K D vwCl (TY cI cT ++ [(cA, .object RX2)]) s) : cA = cT := by
  obtain ⟨_, _, _, _, _, h1⟩ := (hK.2 1 _ rfl).2
  obtain ⟨_, _, _, _, _, h2⟩ := (hK.2 2 _ rfl).2
  exact Option.some.inj (h2.symm.trans h1)
theorem jnC {A0 : Nat → Prop} {X Wc W1 : va_W} {H1 : Heap} (hP : va_P D vwCl (X ++ Wc) H) (hD : va_D A0 (X ++ Wc)) (hk : ∀ q : Nat, q < H.size → ¬ va_A Wc H.size q → H1[q]? = H[q]?) (hP1 : va_P D vwCl W1 H1) (hD1 : va_D (va_A Wc H.size) W1) (hF : ∀ q, va_A Wc H.size q → A0 q) : va_P D vwCl (X ++ W1) H1 ∧ va_D A0 (X ++ W1) := by
  have hl : ∀ (k : Nat) (q : Nat × va_E), X[k]? = some q → (X ++ Wc)[k]? = some q := by
    intro k q hq
    rw [List.getElem?_append_left (List.getElem?_eq_some_iff.mp hq).1]
    exact hq
  have hx : ∀ (k : Nat) (q : Nat × va_E), X[k]? = some q → ¬ va_A Wc H.size q.1 := by
    intro k q hq h
    have hkl : k < X.length := (List.getElem?_eq_some_iff.mp hq).1
    rcases h with ⟨k2, e2, h2⟩ | h2
    · have h3 : (X ++ Wc)[X.length + k2]? = some (q.1, e2) := by
        rw [List.getElem?_append_right (by omega), show X.length + k2 - X.length = k2 by omega]
        exact h2
      have := hD.1 k (X.length + k2) q (q.1, e2) (hl k q hq) h3 rfl
      omega
    · exact absurd (hP k q (hl k q hq)).lt (by omega)
  refine ⟨fun k q hq => ?_, fun i j x y hi hj hxy => ?_, fun k q hq => ?_⟩
  · by_cases h1 : k < X.length
    · rw [List.getElem?_append_left h1] at hq
      exact (hP k q (hl k q hq)).kept (hk q.1 (hP k q (hl k q hq)).lt (hx k q hq))
    · rw [List.getElem?_append_right (by omega)] at hq
      exact hP1 _ _ hq
  · by_cases h1 : i < X.length <;> by_cases h2 : j < X.length
    · rw [List.getElem?_append_left h1] at hi
      rw [List.getElem?_append_left h2] at hj
      exact hD.1 i j x y (hl i x hi) (hl j y hj) hxy
    · rw [List.getElem?_append_left h1] at hi
      rw [List.getElem?_append_right (by omega)] at hj
      exact absurd (hxy ▸ hD1.2 _ _ hj) (hx i x hi)
    · rw [List.getElem?_append_right (by omega)] at hi
      rw [List.getElem?_append_left h2] at hj
      exact absurd (hxy.symm ▸ hD1.2 _ _ hi) (hx j y hj)
    · rw [List.getElem?_append_right (by omega)] at hi
      rw [List.getElem?_append_right (by omega)] at hj
      have := hD1.1 _ _ x y hi hj hxy
      omega
  · by_cases h1 : k < X.length
    · rw [List.getElem?_append_left h1] at hq
      exact hD.2 k q (hl k q hq)
    · rw [List.getElem?_append_right (by omega)] at hq
      exact hF _ (hD1.2 _ _ hq)
theorem call_cN {S : Type} {post : S → Prop} {Wd' : S → va_W} {X Wc : va_W} {wsC Ts : List Cond} {rm : Room} {y : MethodName} {bytes : ByteArray} {nL maxL n index mc ms : Nat} {Ex : State → Prop} {own host : String} {b : Nat} {As st0 : List Value}
    (CF : CallFix p m c cc nL s args Ts own) (hC : CI l D cI cT y wsC rm mc ms Ex (.ref b :: As) Wc post Wd') (cw : va_CN R s args own index y host bytes maxL none wsC rm mc ms n ∧ y.name = "<init>" ∧ (Cond.instanceMethod y).before args s = true)
    (hExm : ∀ u U : State, u.vm = U.vm → Ex u → Ex U) (hE : ∀ U : State, s.WarmedH U.vm → Ex U) (hK : va_K D vwCl (TY cI cT) s) (hP : va_P D vwCl (X ++ Wc) H) (hD : va_D A (X ++ Wc)) (hS : va_S A H0 H locs) (hA : ∀ q : Nat, H0.size ≤ q → A q)
    (hn : As.length = n) (hls : ls.size = nL) (hst : st0 = As.reverse ++ .ref b :: rest) (hroom : (rest.map fun v => v.category).sum ≤ 8) (hf : cells + mc ≤ R.cells ∧ slots + ms ≤ R.slots) (hdg : decode cc pc = .ok (.invokespecial index, 3))
    (kk : ∀ (u : S) (H1 : Heap) (locs1 : List Loc), post u → va_P D vwCl (X ++ Wd' u) H1 → va_D A (X ++ Wd' u) → va_S A H0 H1 locs1 → W p l e R s m args below meth c H1 locs1 (cells + mc) (slots + ms) Q (F0 m (pc + 3) ls rest)) :
    W p l e R s m args below meth c H locs cells slots Q (F0 m pc ls st0) := by
  have hP0 : va_P D vwCl (X ++ Wc ++ []) H := by rw [List.append_nil]; exact hP
  have hD0 : va_D A (X ++ Wc ++ []) := by rw [List.append_nil]; exact hD
  have hF := free_mid hD0 hA hS
  refine va_callv (va_runIN (As := As) (rest := rest) CF (hC H.size) cw ⟨fun a U g mk q => by obtain ⟨q0, q1, qP, ⟨qK, qE⟩, qD⟩ := q; exact ⟨q0, q1, qP, ⟨va_K.moved (u := U) (U := U.calling g mk a) (Vm.Alike.refl U.vm) qK, hExm U _ rfl qE⟩, qD⟩, fun U hU hW => ⟨rfl, by rw [hU], by rw [hU]; exact sub_mid hP0, ⟨va_K.moved hW.alike hK, hE _ hW⟩, (subD_mid hD0).weaken (fun _ _ _ _ => trivial)⟩⟩ rfl hn hls hst (lv_room hroom) hdg hf) hS (fun q _ h => hF q h) hF (fun u t H1 locs1 ht hvm hp hB hz hk hS1 => ?_)
  rw [ht] at hB
  obtain ⟨hP1, hD1⟩ := jnC hP hD hk hB.1 hB.2 hF
  exact kk u H1 locs1 hp hP1 hD1 hS1
/-- a call of a constructor over the last part of the world -/
theorem call_c {S : Type} {post : S → Prop} {Wd' : S → va_W} {X Wc : va_W} {wsC Ts : List Cond} {rm : Room} {y : MethodName} {bytes : ByteArray} {nL maxL n index mc ms : Nat} {Ex : State → Prop} {own : String} {b : Nat} {As st0 : List Value}
    (CF : CallFix p m c cc nL s args Ts own) (hC : CI l D cI cT y wsC rm mc ms Ex (.ref b :: As) Wc post Wd') (cw : CallB R s args own index y bytes maxL none wsC rm mc ms n ∧ y.name = "<init>" ∧ (Cond.instanceMethod y).before args s = true)
    (hExm : ∀ u U : State, u.vm = U.vm → Ex u → Ex U) (hE : ∀ U : State, s.WarmedH U.vm → Ex U) (hK : va_K D vwCl (TY cI cT) s) (hP : va_P D vwCl (X ++ Wc) H) (hD : va_D A (X ++ Wc)) (hS : va_S A H0 H locs) (hA : ∀ q : Nat, H0.size ≤ q → A q)
    (hn : As.length = n) (hls : ls.size = nL) (hst : st0 = As.reverse ++ .ref b :: rest) (hroom : (rest.map fun v => v.category).sum ≤ 8) (hf : cells + mc ≤ R.cells ∧ slots + ms ≤ R.slots) (hdg : decode cc pc = .ok (.invokespecial index, 3))
    (kk : ∀ (u : S) (H1 : Heap) (locs1 : List Loc), post u → va_P D vwCl (X ++ Wd' u) H1 → va_D A (X ++ Wd' u) → va_S A H0 H1 locs1 → W p l e R s m args below meth c H1 locs1 (cells + mc) (slots + ms) Q (F0 m (pc + 3) ls rest)) :
    W p l e R s m args below meth c H locs cells slots Q (F0 m pc ls st0) := by
  have hP0 : va_P D vwCl (X ++ Wc ++ []) H := by rw [List.append_nil]; exact hP
  have hD0 : va_D A (X ++ Wc ++ []) := by rw [List.append_nil]; exact hD
  have hF := free_mid hD0 hA hS
  refine va_callv (va_runI (As := As) (rest := rest) CF (hC H.size) cw ⟨fun a U g mk q => by obtain ⟨q0, q1, qP, ⟨qK, qE⟩, qD⟩ := q; exact ⟨q0, q1, qP, ⟨va_K.moved (u := U) (U := U.calling g mk a) (Vm.Alike.refl U.vm) qK, hExm U _ rfl qE⟩, qD⟩, fun U hU hW => ⟨rfl, by rw [hU], by rw [hU]; exact sub_mid hP0, ⟨va_K.moved hW.alike hK, hE _ hW⟩, (subD_mid hD0).weaken (fun _ _ _ _ => trivial)⟩⟩ rfl hn hls hst (lv_room hroom) hdg hf) hS (fun q _ h => hF q h) hF (fun u t H1 locs1 ht hvm hp hB hz hk hS1 => ?_)
  rw [ht] at hB
  obtain ⟨hP1, hD1⟩ := jnC hP hD hk hB.1 hB.2 hF
  exact kk u H1 locs1 hp hP1 hD1 hS1
end INITB
abbrev rX0_init : Room := { frames := 1, cells := 1, slots := 80, locals := 12 }
set_option maxHeartbeats 1000000 in
set_option maxRecDepth 100000 in
/-- the text is made -/
theorem c_X0_init (l : Launch) (D : va_G) (cI cT : ClassId) (h0 : Nat) : CI l D cI cT yX0_init wsX0_init rX0_init 1 80 (fun _ => True) [.ref h0] [(h0, .inr (0, [.null, .int 0, .int 0, .int 0, .int 0, .int 0]))] (S := Nat) (fun _ => True) (fun q => [(h0, .inr (0, [.ref q, .int 0, .int 0, .int 0, .int 0, .int 0])), (q, .inl (cI, 80, .inl (fun _ => 0)))]) := by
  refine CI.of (cc := cX0_init) (maxL := 1) (ret := none) (by decide) rfl (Nat.le_of_ble_eq_true rfl) rfl ?_
  intro p e s m args below meth c A Q hQ B hin hA H locs hP hK hE hD hS ls hl
  obtain ⟨hx, hb, hml, hrt, hts, hown, hlk⟩ := B
  have hl : lv_has ls 1 [(0, .ref h0)] := hl
  have iX0 : ∀ w ∈ u_ws RX0 TX0 6, w ∈ wsX0_init := by decide +kernel
  have harr := hts (.arrayClass .int) (by decide +kernel)
  refine lv_aload_n hx hb dX0_init_0 rfl (lv_at hl 0 rfl) ?_
  refine W.objInit hx hb hown (hts (.methodLink RX0 3 objectInit) (by decide +kernel)) (hts (.instanceMethod objectInit) (by decide +kernel)) (hts _ (List.mem_cons_of_mem _ (List.mem_append_left _ (List.mem_of_getElem? (i := 2) rfl)))) rfl (by rw [hml]; exact hl.1) rfl dX0_init_1 (Nat.le_of_ble_eq_true rfl) (Nat.le_of_ble_eq_true rfl) ?_
  refine W.eq (g2 := F0 m 4 ls []) rfl ?_
  refine lv_aload_n hx hb dX0_init_4 rfl (lv_at hl 0 rfl) ?_
  refine lv_bipush (v := (nI 80)) hx hb dX0_init_5 (by decide) ?_
  refine r_newI hx hb harr hK hP hD hS hA (by decide) (Nat.le_of_ble_eq_true rfl) (Nat.le_of_ble_eq_true rfl) dX0_init_7 (fun q0 H hP hD hS => ?_)
  refine va_putF (D := D) (ci := 0) (v := .ref q0) (ty := .array .int) (C := RX0) (T := TX0) (N := 6) hx hb hts iX0 tyX0 tyX0_ok nmX0 hown hK hP hD hS 0 rfl rfl 0 (by decide) (hts (.fieldLink RX0 9 "LockManager$CommandText" "signs" "[I") (by decide +kernel)) (fun _ h9 => h9) rfl hin rfl (by decide +kernel) rfl rfl (Nat.le_of_ble_eq_true rfl) dX0_init_9 (fun H locs hP hD hS => ?_)
  exact ret_c q0 hQ hx hb hrt hlk hS dX0_init_12 hP hD trivial
abbrev rX3_init : Room := { frames := 1, cells := 2, slots := 16, locals := 12 }
set_option maxHeartbeats 1000000 in
set_option maxRecDepth 100000 in
/-- the breaker is made -/
theorem c_X3_init (l : Launch) (D : va_G) (cI cT : ClassId) (h0 : Nat) : CI l D cI cT yX3_init wsX3_init rX3_init 2 16 (fun _ => True) [.ref h0] [(h0, .inr (3, [.null, .null]))] (S := Nat × Nat) (fun _ => True) (fun q => [(h0, .inr (3, [.ref q.1, .ref q.2])), (q.1, .inl (cI, 8, .inl (fun _ => 0))), (q.2, .inl (cI, 8, .inl (fun _ => 0)))]) := by
  refine CI.of (cc := cX3_init) (maxL := 1) (ret := none) (by decide) rfl (Nat.le_of_ble_eq_true rfl) rfl ?_
  intro p e s m args below meth c A Q hQ B hin hA H locs hP hK hE hD hS ls hl
  obtain ⟨hx, hb, hml, hrt, hts, hown, hlk⟩ := B
  have hl : lv_has ls 1 [(0, .ref h0)] := hl
  have iX3 : ∀ w ∈ u_ws RX3 TX3 2, w ∈ wsX3_init := by decide +kernel
  have harr := hts (.arrayClass .int) (by decide +kernel)
  refine lv_aload_n hx hb dX3_init_0 rfl (lv_at hl 0 rfl) ?_
  refine W.objInit hx hb hown (hts (.methodLink RX3 3 objectInit) (by decide +kernel)) (hts (.instanceMethod objectInit) (by decide +kernel)) (hts _ (List.mem_cons_of_mem _ (List.mem_append_left _ (List.mem_of_getElem? (i := 2) rfl)))) rfl (by rw [hml]; exact hl.1) rfl dX3_init_1 (Nat.le_of_ble_eq_true rfl) (Nat.le_of_ble_eq_true rfl) ?_
  refine W.eq (g2 := F0 m 4 ls []) rfl ?_
  refine lv_aload_n hx hb dX3_init_4 rfl (lv_at hl 0 rfl) ?_
  refine lv_bipush (v := (nI 8)) hx hb dX3_init_5 (by decide) ?_
  refine r_newI hx hb harr hK hP hD hS hA (by decide) (Nat.le_of_ble_eq_true rfl) (Nat.le_of_ble_eq_true rfl) dX3_init_7 (fun q0 H hP hD hS => ?_)
  refine va_putF (D := D) (ci := 3) (v := .ref q0) (ty := .array .int) (C := RX3) (T := TX3) (N := 2) hx hb hts iX3 tyX3 tyX3_ok nmX3 hown hK hP hD hS 0 rfl rfl 0 (by decide) (hts (.fieldLink RX3 9 "LockManager$RingBreaker" "waits" "[I") (by decide +kernel)) (fun _ h9 => h9) rfl hin rfl (by decide +kernel) rfl rfl (Nat.le_of_ble_eq_true rfl) dX3_init_9 (fun H locs hP hD hS => ?_)
  refine lv_aload_n hx hb dX3_init_12 rfl (lv_at hl 0 rfl) ?_
  refine lv_bipush (v := (nI 8)) hx hb dX3_init_13 (by decide) ?_
  refine r_newI hx hb harr hK hP hD hS hA (by decide) (Nat.le_of_ble_eq_true rfl) (Nat.le_of_ble_eq_true rfl) dX3_init_15 (fun q1 H hP hD hS => ?_)
  refine va_putF (D := D) (ci := 3) (v := .ref q1) (ty := .array .int) (C := RX3) (T := TX3) (N := 2) hx hb hts iX3 tyX3 tyX3_ok nmX3 hown hK hP hD hS 0 rfl rfl 1 (by decide) (hts (.fieldLink RX3 15 "LockManager$RingBreaker" "distances" "[I") (by decide +kernel)) (fun _ h9 => h9) rfl hin rfl (by decide +kernel) rfl rfl (Nat.le_of_ble_eq_true rfl) dX3_init_17 (fun H locs hP hD hS => ?_)
  exact ret_c (q0, q1) hQ hx hb hrt hlk hS dX3_init_20 hP hD trivial
