/-! a number of the script, or another -/
section CELL
variable {p : Program} {l : Launch} {e : Env} {R : Room} {s : State} {m : MethodId} {args : Array Value} {below : List Frame} {meth : Method} {c : Code} {H : Heap} {locs : List Loc} {cells slots : Nat} {Q : State → Prop}
variable {cc : ByteArray} {pc : Nat} {ls : Array Slot} {rest : List Value} {D : va_G} {A : Nat → Prop}
abbrev rL_cell : Room := { frames := 0, cells := 0, slots := 0, locals := 0 }
abbrev celP (sb L : Nat) (xs : Nat → Int32) (av : List Value) (sz : Nat) : Array Value → State → Prop := va_Pc av (fun U => U.heap.size = sz ∧ va_X sb L xs U U.heap ∧ sb < U.heap.size)
set_option maxHeartbeats 1000000 in
theorem c_L_cell (l : Launch) (D : va_G) (sb L k : Nat) (xs : Nat → Int32) (hL : L ≤ 260) (hk : k < 2 ^ 30) : ∀ sz : Nat, Met l yL_cell wsL_cell rL_cell (celP sb L xs [.ref sb, .int (nI k)] sz) (va_Qi (S := Unit) (fun _ _ => True) (fun _ t => va_P D vwCl [] t.heap) (va_A [] sz)) 0 0 (va_A [] sz) := by
  intro sz
  refine Met.ofW (cc := cL_cell) (maxL := 2) (ret := some .int) (by decide) rfl ?_
  intro p e s m args below meth c s₁ B hml hv
  obtain ⟨rfl, hsz, hX, hbl⟩ := hv
  subst hsz
  have hx := B.exec
  have hb : c.code = cL_cell := B.bytes
  have hrt : meth.sig.returnType = some .int := B.returns
  have hlk : meth.locks = false := B.notSynchronized
  have hts : ∀ w ∈ wsL_cell, w.before (([.ref sb, .int (nI k)] : List Value).toArray) s = true := atoms_spec (ws := wsL_cell) B.pre
  have hown : s.vm.findClass RL = some m.cls := findClass_of_methodNamed B.named
  have hbA : ¬ va_A [] s.heap.size sb := fun h => by
    rcases h with ⟨k2, e2, h⟩ | h
    · simp at h
    · omega
  have hS : va_S (va_A [] s.heap.size) s.heap s.heap [] := va_S.rf
  have hP : va_P D vwCl [] s.heap := fun k q h => by simp at h
  have hl := lv_entry ([.ref sb, .int (nI k)]) (n := 2) (Nat.le_of_ble_eq_true rfl)
  rw [lg_entry_eq]
  generalize (lg_sl ([.ref sb, .int (nI k)]) ++ List.replicate (2 - (lg_sl ([.ref sb, .int (nI k)])).length) Slot.unset).toArray = ls at hl ⊢
  have hl : lv_has ls 2 [(0, .ref sb), (1, .int (nI k))] := hl
  refine lv_iload_n hx hb dL_cell_0 rfl (lv_at hl 1 rfl) ?_
  refine lv_aload_n hx hb dL_cell_1 rfl (lv_at hl 0 rfl) ?_
  refine va_slen hx hb hX hbl hbA hS dL_cell_2 ?_
  refine lv_icmp_ge (tgt := 12) hx hb dL_cell_3 (by decide) (fun h_1 => ?_) (fun h_1 => ?_)
  · refine lv_ldc (v := 476689399) hx hb hown (hts (.constant RL 7 (476689399)) (by decide +kernel)) dL_cell_12 ?_
    refine lv_iload_n hx hb dL_cell_14 rfl (lv_at hl 1 rfl) ?_
    refine lv_iconst (v := nI 1) hx hb dL_cell_15 (by decide) ?_
    refine lv_iadd hx hb dL_cell_16 ?_
    refine lv_imul hx hb dL_cell_17 ?_
    exact ret_i (Wd' := fun _ : Unit => []) (u := ()) rfl hx hb hrt hlk hS dL_cell_18 hP trivial
  · have hkL : k < L := Nat.not_le.mp (fun q => h_1 ((nI_leI (by omega) (by omega)).mpr q))
    refine lv_aload_n hx hb dL_cell_6 rfl (lv_at hl 0 rfl) ?_
    refine lv_iload_n hx hb dL_cell_7 rfl (lv_at hl 1 rfl) ?_
    refine va_sld hx hb hX hbl hbA hS (vp_in_nI hkL (by omega)) dL_cell_8 ?_
    refine lv_goto (tgt := 18) hx hb dL_cell_9 (by decide) ?_
    exact ret_i (Wd' := fun _ : Unit => []) (u := ()) rfl hx hb hrt hlk hS dL_cell_18 hP trivial
theorem blindC {sb L sz : Nat} {xs : Nat → Int32} {av : List Value} : FrameBlind (celP sb L xs av sz) :=
  fun a U g mk q => by obtain ⟨q0, q1, q2, q3⟩ := q; exact ⟨q0, q1, va_X.moved (u := U) (U := U.calling g mk a) (Vm.Alike.refl U.vm) q2, q3⟩
theorem call_cell {w : va_W} {Ts : List Cond} {nL index : Nat} {own : String} {sb L k : Nat} {xs : Nat → Int32} {st0 : List Value} (hL : L ≤ 260) (hk : k < 2 ^ 30)
    (CF : CallFix p m c cc nL s args Ts own) (cw : CallB R s args own index yL_cell cL_cell 2 (some .int) wsL_cell rL_cell 0 0 2 ∧ (Cond.static yL_cell).before args s = true)
    (hX : va_X sb L xs s s.heap) (hbl : sb < s.heap.size) (hbA : ¬ A sb) (hP : va_P D vwCl w H) (hD : va_D A w) (hS : va_S A s.heap H locs) (hA : ∀ q : Nat, s.heap.size ≤ q → A q)
    (hls : ls.size = nL) (hst : st0 = [.int (nI k), .ref sb] ++ rest) (hroom : (rest.map fun v => v.category).sum ≤ 8) (hf : cells ≤ R.cells ∧ slots ≤ R.slots) (hdg : decode cc pc = .ok (.invokestatic index, 3))
    (kk : ∀ (r : Int32) (H1 : Heap) (locs1 : List Loc), va_P D vwCl w H1 → va_D A w → va_S A s.heap H1 locs1 → W p l e R s m args below meth c H1 locs1 cells slots Q (F0 m (pc + 3) ls (.int r :: rest))) :
    W p l e R s m args below meth c H locs cells slots Q (F0 m pc ls st0) := by
  have hB : ∀ q : Nat, va_A [] H.size q → A q := fun q hq => by
    rcases hq with ⟨k, e, h⟩ | h
    · simp at h
    · exact hA q (Nat.le_trans hS.1 h)
  have kp : ∀ {w : va_W} {H1 : Heap}, va_P D vwCl w H → (∀ q : Nat, q < H.size → ¬ va_A [] H.size q → H1[q]? = H[q]?) → va_P D vwCl w H1 := fun hw hk => hw.kept (fun k q hq => hk q.1 (hw k q hq).lt (fun h => by
    rcases h with ⟨k2, e2, h2⟩ | h2
    · simp at h2
    · exact absurd (hw k q hq).lt (by omega)))
  refine va_calli (va_runS (As := [.ref sb, .int (nI k)]) (rest := rest) CF (c_L_cell l D sb L k xs hL hk H.size) cw ⟨blindC, fun U hU hW => ⟨rfl, by rw [hU], ?_, by rw [hU]; exact Nat.lt_of_lt_of_le hbl hS.1⟩⟩ rfl rfl hls hst (lv_room hroom) hdg hf) hS (fun q _ h => hB q h) hB (fun r u t H1 locs1 ht hvm hp hb hz hk hS1 => kk r H1 locs1 (kp hP hk) hD hS1)
  rw [hU]
  exact (hX.moved hW.alike).kept (hS.2.1 sb hbl hbA)
end CELL
/-- the law's numbers as they begin -/
def iaA (t k : Nat) : Nat → Int32 := fun j => if (j / 6 < t ∧ 1 ≤ j % 6 ∧ j % 6 ≤ 4) ∨ (j / 6 = t ∧ 1 ≤ j % 6 ∧ j % 6 < k) then -1 else 0
theorem ia_0 : iaA 0 1 = fun _ => 0 := by
  funext j; rw [iaA, if_neg (by omega)]
theorem ia_s {t k : Nat} (hk : 1 ≤ k ∧ k < 5) : upd (iaA t k) (6 * t + k) (-1) = iaA t (k + 1) := by
  funext j
  by_cases e : j = 6 * t + k
  · subst e
    rw [pk_us, iaA, if_pos (Or.inr (by omega))]
  · rw [pk_un e, iaA, iaA]
    by_cases h : (j / 6 < t ∧ 1 ≤ j % 6 ∧ j % 6 ≤ 4) ∨ (j / 6 = t ∧ 1 ≤ j % 6 ∧ j % 6 < k)
    · rw [if_pos h, if_pos (by omega)]
    · rw [if_neg h, if_neg (by omega)]
theorem ia_n {t : Nat} : iaA t 5 = iaA (t + 1) 1 := by
  funext j
  rw [iaA, iaA]
  by_cases h : (j / 6 < t ∧ 1 ≤ j % 6 ∧ j % 6 ≤ 4) ∨ (j / 6 = t ∧ 1 ≤ j % 6 ∧ j % 6 < 5)
  · rw [if_pos h, if_pos (by omega)]
  · rw [if_neg h, if_neg (by omega)]
theorem ZA_ini : ZA iniF (iaA 8 1) := by
  intro t ht w hw
  have e0 : iniF 0 t = -1 := if_pos ht
  have e1 : iniF 1 t = -1 := if_pos ht
  have e2 : iniF 2 t = -1 := if_pos ht
  have e3 : iniF 3 t = -1 := if_pos ht
  rcases (show w = 0 ∨ w = 1 ∨ w = 2 ∨ w = 3 ∨ w = 4 ∨ w = 5 by omega) with q | q | q | q | q | q <;> subst q
  · show iaA 8 1 (6 * t + 0) = stI iniF t
    rw [iaA, if_neg (by omega), stI, e0, if_pos rfl]; rfl
  · show iaA 8 1 (6 * t + 1) = iniF 1 t
    rw [iaA, if_pos (by omega), e1]
  · show iaA 8 1 (6 * t + 2) = iniF 2 t
    rw [iaA, if_pos (by omega), e2]
  · show iaA 8 1 (6 * t + 3) = iniF 0 t
    rw [iaA, if_pos (by omega), e0]
  · show iaA 8 1 (6 * t + 4) = iniF 3 t
    rw [iaA, if_pos (by omega), e3]
  · show iaA 8 1 (6 * t + 5) = mdZ iniF t
    rw [iaA, if_neg (by omega), mdZ_n e3]
theorem MM_ini : MM iniF (fun _ => 0) := fun r hr => by
  have : mN iniF r = 0 := (dig4_0 lkn_lt).mpr (fun u _ => lkn_0 rfl)
  rw [this]; rfl
theorem QL_ini : QL iniQ (fun _ => 0) := fun r hr => rfl
theorem GG_ini : GG iniF (fun _ => 0) := fun k hk => rfl
theorem BB_ini : BB 0 iniF := ⟨0, Nat.le_refl _, rfl⟩
theorem map_app {A B : va_W} : (A ++ B).map Prod.fst = A.map Prod.fst ++ B.map Prod.fst := List.map_append
theorem adr_g {cI cT : ClassId} {x a o b t h : Nat → Nat} {ra : Nat → Nat → Nat} {s s2 : ST} {j j2 : JT} {p q r u : Nat} {x1 x2 x3 x4 y1 y2 y3 y4 : va_E} : ([(p, x1), (q, x2), (r, x3), (u, x4)] ++ lmW cI cT x a o b t h ra s j).map Prod.fst = ([(p, y1), (q, y2), (r, y3), (u, y4)] ++ lmW cI cT x a o b t h ra s2 j2).map Prod.fst :=
  (map_app (A := [(p, x1), (q, x2), (r, x3), (u, x4)]) (B := lmW cI cT x a o b t h ra s j)).trans ((congrArg (fun z => [p, q, r, u] ++ z) (adr_lm (s := s) (s2 := s2) (j := j) (j2 := j2))).trans (map_app (A := [(p, y1), (q, y2), (r, y3), (u, y4)]) (B := lmW cI cT x a o b t h ra s2 j2)).symm)
theorem pmW {α : Type} {L : List α} {g a m q : α} : ((((L ++ [g]) ++ [a]) ++ [m]) ++ [q]).Perm ([m, a, q, g] ++ L) := by
  have h1 : ((((L ++ [g]) ++ [a]) ++ [m]) ++ [q]) = L ++ [g, a, m, q] := by simp
  rw [h1]
  refine List.perm_append_comm.trans (List.Perm.append_right L ?_)
  have p1 : [g, a, m, q].Perm [g, m, a, q] := List.Perm.cons g (List.Perm.swap m a [q])
  have p2 : [g, m, a, q].Perm [m, g, a, q] := List.Perm.swap m g [a, q]
  have p3 : [m, g, a, q].Perm [m, a, g, q] := List.Perm.cons m (List.Perm.swap a g [q])
  have p4 : [m, a, g, q].Perm [m, a, q, g] := List.Perm.cons m (List.Perm.cons a (List.Perm.swap q g []))
  exact ((p1.trans p2).trans p3).trans p4
set_option maxHeartbeats 4000000 in
set_option maxRecDepth 100000 in
theorem law_ini {p : Program} {l : Launch} {e : Env} {s : State} {m : MethodId} {args : Array Value} {below : List Frame} {meth : Method} {c : Code} {Q : State → Prop} {A : Nat → Prop} {D : va_G} {cI cT cL : ClassId} {LM : va_W} {cells slots : Nat} (sb : Nat) (xo : Nat → Nat) (am aa aq ag : Nat) (hx : p.tables.exec = Jvm.exec) (hb : c.code = cL_law) (hK : va_K D vwCl (TY cI cT) s)
    (kk : ∀ (H : Heap) (locs : List Loc), va_P D vwCl ([(am, .inl (cI, 10, .inl (fun _ => 0))), (aa, .inl (cI, 48, .inl (iaA 8 1))), (aq, .inl (cL, 10, .inr (.inl (fun _ => 0)))), (ag, .inl (cI, 3, .inl (fun _ => 0)))] ++ LM) H → va_D A ([(am, .inl (cI, 10, .inl (fun _ => 0))), (aa, .inl (cI, 48, .inl (iaA 8 1))), (aq, .inl (cL, 10, .inr (.inl (fun _ => 0)))), (ag, .inl (cI, 3, .inl (fun _ => 0)))] ++ LM) → va_S A s.heap H locs → ∀ ls : Array Slot, lv_has ls 10 [(0, .ref sb), (1, .ref (xo 0)), (2, .ref ag), (3, .ref aa), (4, .ref am), (5, .ref aq)] → W p l e room_1 s m args below meth c H locs cells slots Q (F0 m 71 ls []))
    (H : Heap) (locs : List Loc) (hP : va_P D vwCl ([(am, .inl (cI, 10, .inl (fun _ => 0))), (aa, .inl (cI, 48, .inl (fun _ => 0))), (aq, .inl (cL, 10, .inr (.inl (fun _ => 0)))), (ag, .inl (cI, 3, .inl (fun _ => 0)))] ++ LM) H) (hD : va_D A ([(am, .inl (cI, 10, .inl (fun _ => 0))), (aa, .inl (cI, 48, .inl (fun _ => 0))), (aq, .inl (cL, 10, .inr (.inl (fun _ => 0)))), (ag, .inl (cI, 3, .inl (fun _ => 0)))] ++ LM)) (hS : va_S A s.heap H locs) (ls : Array Slot) (hl : lv_has ls 10 [(5, .ref aq), (4, .ref am), (3, .ref aa), (2, .ref ag), (1, .ref (xo 0)), (0, .ref sb)]) : W p l e room_1 s m args below meth c H locs cells slots Q (F0 m 29 ls []) := by
  refine lv_iconst (v := (nI 0)) hx hb dL_law_29 (by decide) ?_
  refine lv_istore (lv' := [(6, .int (nI 0)), (5, .ref aq), (4, .ref am), (3, .ref aa), (2, .ref ag), (1, .ref (xo 0)), (0, .ref sb)]) hx hb dL_law_30 hl (by decide) rfl (fun ls hl => ?_)
  have L32 : ∀ (N : Nat) (t9 : Nat), (t9 ≤ 8) → (8 - t9) < N → ∀ (H : Heap) (locs : List Loc), va_P D vwCl ([(am, .inl (cI, 10, .inl (fun _ => 0))), (aa, .inl (cI, 48, .inl (iaA t9 1))), (aq, .inl (cL, 10, .inr (.inl (fun _ => 0)))), (ag, .inl (cI, 3, .inl (fun _ => 0)))] ++ LM) H → va_D A ([(am, .inl (cI, 10, .inl (fun _ => 0))), (aa, .inl (cI, 48, .inl (iaA t9 1))), (aq, .inl (cL, 10, .inr (.inl (fun _ => 0)))), (ag, .inl (cI, 3, .inl (fun _ => 0)))] ++ LM) → va_S A s.heap H locs → ∀ ls : Array Slot, lv_has ls 10 [(0, .ref sb), (1, .ref (xo 0)), (2, .ref ag), (3, .ref aa), (4, .ref am), (5, .ref aq), (6, .int (nI t9))] → W p l e room_1 s m args below meth c H locs cells slots Q (F0 m 32 ls []) := by
    intro N32
    induction N32 with
    | zero => intro t9 ht9 hN; exact absurd hN (Nat.not_lt_zero _)
    | succ N32 ih32 =>
      intro t9 ht9 hN H locs hP hD hS ls hl
      refine lv_iload hx hb dL_law_32 (lv_at hl 6 rfl) ?_
      refine lv_bipush (v := (nI 8)) hx hb dL_law_34 (by decide) ?_
      refine lv_icmp_ge (tgt := 71) hx hb dL_law_36 (by decide) (fun h_1 => ?_) (fun h_1 => ?_)
      · have h_1 := (nI_leI (a := 8) (b := t9) (by decide) (by omega)).mp h_1
        have h8 : t9 = 8 := by omega
        rw [h8] at hP hD
        exact kk H locs hP hD hS ls (lv_sub hl [0, 1, 2, 3, 4, 5] rfl)
      · have h_1 := mt (nI_leI (a := 8) (b := t9) (by decide) (by omega)).mpr h_1
        refine lv_iconst (v := (nI 1)) hx hb dL_law_39 (by decide) ?_
        refine lv_istore (lv' := [(7, .int (nI 1)), (0, .ref sb), (1, .ref (xo 0)), (2, .ref ag), (3, .ref aa), (4, .ref am), (5, .ref aq), (6, .int (nI t9))]) hx hb dL_law_40 hl (by decide) rfl (fun ls hl => ?_)
        have L42 : ∀ (N : Nat) (k9 : Nat), (1 ≤ k9 ∧ k9 ≤ 5) → (5 - k9) < N → ∀ (H : Heap) (locs : List Loc), va_P D vwCl ([(am, .inl (cI, 10, .inl (fun _ => 0))), (aa, .inl (cI, 48, .inl (iaA t9 k9))), (aq, .inl (cL, 10, .inr (.inl (fun _ => 0)))), (ag, .inl (cI, 3, .inl (fun _ => 0)))] ++ LM) H → va_D A ([(am, .inl (cI, 10, .inl (fun _ => 0))), (aa, .inl (cI, 48, .inl (iaA t9 k9))), (aq, .inl (cL, 10, .inr (.inl (fun _ => 0)))), (ag, .inl (cI, 3, .inl (fun _ => 0)))] ++ LM) → va_S A s.heap H locs → ∀ ls : Array Slot, lv_has ls 10 [(0, .ref sb), (1, .ref (xo 0)), (2, .ref ag), (3, .ref aa), (4, .ref am), (5, .ref aq), (6, .int (nI t9)), (7, .int (nI k9))] → W p l e room_1 s m args below meth c H locs cells slots Q (F0 m 42 ls []) := by
          intro N42
          induction N42 with
          | zero => intro k9 hk9 hN; exact absurd hN (Nat.not_lt_zero _)
          | succ N42 ih42 =>
            intro k9 hk9 hN H locs hP hD hS ls hl
            refine lv_iload hx hb dL_law_42 (lv_at hl 7 rfl) ?_
            refine lv_iconst (v := (nI 5)) hx hb dL_law_44 (by decide) ?_
            refine lv_icmp_ge (tgt := 65) hx hb dL_law_45 (by decide) (fun h_2 => ?_) (fun h_2 => ?_)
            · have h_2 := (nI_leI (a := 5) (b := k9) (by decide) (by omega)).mp h_2
              refine lv_iinc (v := (nI (t9 + 1))) (lv' := [(6, .int (nI (t9 + 1))), (0, .ref sb), (1, .ref (xo 0)), (2, .ref ag), (3, .ref aa), (4, .ref am), (5, .ref aq), (7, .int (nI k9))]) hx hb dL_law_65 hl (k := 6) rfl (nI_add _ 1) (by decide) rfl (fun ls hl => ?_)
              refine lv_goto (tgt := 32) hx hb dL_law_68 (by decide) ?_
              exact ih32 (t9 + 1) (by omega) (by omega) _ _ (by rw [← ia_n, ← show k9 = 5 by omega]; exact hP) (by rw [← ia_n, ← show k9 = 5 by omega]; exact hD) hS _ (lv_sub hl [1, 2, 3, 4, 5, 6, 0] rfl)
            · have h_2 := mt (nI_leI (a := 5) (b := k9) (by decide) (by omega)).mpr h_2
              refine lv_aload_n hx hb dL_law_48 rfl (lv_at hl 3 rfl) ?_
              refine lv_bipush (v := (nI 6)) hx hb dL_law_49 (by decide) ?_
              refine lv_iload hx hb dL_law_51 (lv_at hl 6 rfl) ?_
              refine lv_imul hx hb dL_law_53 ?_
              refine tpe (y := (nI (6 * t9))) (pk_mul _ _) ?_
              refine lv_iload hx hb dL_law_54 (lv_at hl 7 rfl) ?_
              refine lv_iadd hx hb dL_law_56 ?_
              refine tpe (y := (nI (6 * t9 + k9))) (nI_add _ _) ?_
              refine lv_iconst (v := (-1)) hx hb dL_law_57 (by decide) ?_
              refine r_ist (k := (6 * t9 + k9)) hx hb hK hP hD hS 1 rfl (by omega) (by decide) dL_law_58 (fun H locs hP hD hS => ?_)
              have hP : va_P D vwCl ([(am, .inl (cI, 10, .inl (fun _ => 0))), (aa, .inl (cI, 48, .inl (upd (iaA t9 k9) (6 * t9 + k9) (-1)))), (aq, .inl (cL, 10, .inr (.inl (fun _ => 0)))), (ag, .inl (cI, 3, .inl (fun _ => 0)))] ++ LM) H := hP
              have hD : va_D A ([(am, .inl (cI, 10, .inl (fun _ => 0))), (aa, .inl (cI, 48, .inl (upd (iaA t9 k9) (6 * t9 + k9) (-1)))), (aq, .inl (cL, 10, .inr (.inl (fun _ => 0)))), (ag, .inl (cI, 3, .inl (fun _ => 0)))] ++ LM) := hD
              refine lv_iinc (v := (nI (k9 + 1))) (lv' := [(7, .int (nI (k9 + 1))), (0, .ref sb), (1, .ref (xo 0)), (2, .ref ag), (3, .ref aa), (4, .ref am), (5, .ref aq), (6, .int (nI t9))]) hx hb dL_law_59 hl (k := 7) rfl (nI_add _ 1) (by decide) rfl (fun ls hl => ?_)
              refine lv_goto (tgt := 42) hx hb dL_law_62 (by decide) ?_
              exact ih42 (k9 + 1) (by omega) (by omega) _ _ (by rw [← ia_s (by omega)]; exact hP) (by rw [← ia_s (by omega)]; exact hD) hS _ (lv_sub hl [1, 2, 3, 4, 5, 6, 7, 0] rfl)
        exact L42 _ 1 ⟨by decide, by decide⟩ (Nat.lt_succ_self _) _ _ hP hD hS _ (lv_sub hl [1, 2, 3, 4, 5, 6, 7, 0] rfl)
  exact L32 _ 0 (Nat.zero_le _) (Nat.lt_succ_self _) _ _ (by rw [ia_0]; exact hP) (by rw [ia_0]; exact hD) hS _ (lv_sub hl [6, 5, 4, 3, 2, 1, 0] rfl)
/-! THE CLAIM OUT OF ONE WALK OF THE LAW'S BODY. Your part is whole_start (and what it stands on); all else here is the same for every law, but numbers. -/
def R_law : String := "LockManagerLaw"
def lw_P (b : Addr) (xs : List Int32) (args : Array Value) (s : State) : Prop := args = #[.ref b] ∧ s.IntsAt b xs ∧ xs.length ≤ 260 ∧ (Jvm.Cond.and given_1 narrow_1).before args s = true
def lw_Q (_ : Array Value) (s : State) (o : Outcome) (t : State) : Prop := o = .returned (some (.int 1)) ∧ Framed s o t [] 894169 6418962
def lw_Z (below : List Frame) (a : Array Value) (s : State) : State → Prop := fun t => ∃ o, t.status = .running ∧ Ended t below o ∧ lw_Q a s o t
/-- the law's own end, with 1 on the stack, nothing written that was there before, its room as the claim has it -/
theorem lw_ret {p : Program} {l : Launch} {e : Env} {s : State} {m : MethodId} {below : List Frame} {meth : Method} {c : Code} {b : Nat} (hx : p.tables.exec = Jvm.exec) (hb : c.code = code) (hr : meth.sig.returnType = ret) (hlocks : meth.locks = false) {pc : Nat} {H : Heap} {ls : Array Slot} (hdg : decode code pc = .ok (.ireturn, 1)) : W p l e room_1 s m #[Value.ref b] below meth c H [] 894169 6418962 (lw_Z below #[Value.ref b] s) (F0 m pc ls [.int 1]) := by
  intro T hT X
  obtain ⟨fs, hret, hrun, hended, hW, hframe⟩ := X.leave (v := some (.int 1)) (hlocks := hlocks) (fun h => by rw [hr] at h; cases h)
  have hmeth' : T.vm.method? m = some meth := X.method'
  refine ⟨T.setFrames fs, ?_, .returned (some (.int 1)), hrun, hended, rfl, ⟨_, rfl⟩, hW, hframe⟩
  jvm_step X.here [X.here.top, hx, hb, hdg, hmeth', hr, ret, narrow_b1]
  (try refine ⟨rfl, ?_⟩); (try refine ⟨rfl, ?_⟩)
  first | (intro acts; rw [hret _ acts rfl rfl rfl]) | rw [hret _ _ rfl rfl rfl]
  exact Steps.refl _
/-- what holds at the law's entry: the machine, the code, the tables' words (any of lw_tbl by 'hts w (by decide +kernel)'), the script of L ints xs at the cell b, what the Statement gives of the start (any of its parts by flat_of_before) -/
def lw_At (p : Program) (s : State) (m : MethodId) (meth : Method) (c : Code) (b L : Nat) (xs : Nat → Int32) : Prop :=
  p.tables.exec = Jvm.exec ∧ c.code = code ∧ meth.sig.returnType = ret ∧ c.maxLocals = 10 ∧ s.vm.findClass R_law = some m.cls ∧ (∀ w ∈ lw_tbl, w.before #[Value.ref b] s = true) ∧ va_X b L xs s s.heap ∧ b < s.heap.size ∧ meth.locks = false ∧ (Jvm.Cond.and given_1 narrow_1).before #[Value.ref b] s = true
/-! the turns -/
def LBx (p : Program) (l : Launch) (s : State) (m : MethodId) (c : Code) (sb L : Nat) (xs : Nat → Int32) (D : va_G) (cI cT cL : ClassId) (A : Nat → Prop) : Prop :=
  p.tables.exec = Jvm.exec ∧ c.code = cL_law ∧ c.maxLocals = 10 ∧ s.vm.findClass RL = some m.cls ∧ (∀ w ∈ lw_tbl, w.before #[Value.ref sb] s = true) ∧ va_K D vwCl (TYL cI cT cL) s ∧ va_X sb L xs s s.heap ∧ sb < s.heap.size ∧ ¬ A sb ∧ (∀ q : Nat, s.heap.size ≤ q → A q) ∧ XL A s s.heap ∧ l.stackTraces = false
set_option maxHeartbeats 4000000 in
set_option maxRecDepth 100000 in
theorem law_loop {p : Program} {l : Launch} {e : Env} {s : State} {m : MethodId} {below : List Frame} {meth : Method} {c : Code} {sb L : Nat} {xs : Nat → Int32} {D : va_G} {cI cT cL : ClassId} (xo ta tr br tx hi : Nat → Nat) (ra : Nat → Nat → Nat) (am aa aq ag : Nat) (hL2 : L ≤ 260) (LB : LBx p l s m c sb L xs D cI cT cL (fun q => s.heap.size ≤ q)) (hr : meth.sig.returnType = ret) (hlocks : meth.locks = false) :
    ∀ (N k cells slots : Nat), 52 < k + N → k ≤ 52 → cells ≤ 520 + 456 * k → slots ≤ 4910 + 2736 * k → ∀ (s0 : ST) (j0 : JT) (fm fa : Nat → Int32) (fq : Nat → Int64) (fg : Nat → Int32) (H : Heap) (locs : List Loc), va_P D vwCl ([(am, .inl (cI, 10, .inl fm)), (aa, .inl (cI, 48, .inl fa)), (aq, .inl (cL, 10, .inr (.inl fq))), (ag, .inl (cI, 3, .inl fg))] ++ lmW cI cT xo ta tr br tx hi ra s0 j0) H → va_D (fun q => s.heap.size ≤ q) ([(am, .inl (cI, 10, .inl fm)), (aa, .inl (cI, 48, .inl fa)), (aq, .inl (cL, 10, .inr (.inl fq))), (ag, .inl (cI, 3, .inl fg))] ++ lmW cI cT xo ta tr br tx hi ra s0 j0) → va_S (fun q => s.heap.size ≤ q) s.heap H locs → LR s0 j0 → MM s0.1 fm → ZA s0.1 fa → QL s0.2.1 fq → GG s0.1 fg → BB k s0.1 → ∀ ls : Array Slot, lv_has ls 10 [(0, .ref sb), (1, .ref (xo 0)), (2, .ref ag), (3, .ref aa), (4, .ref am), (5, .ref aq), (6, .int (nI k))] → W p l e room_1 s m #[Value.ref sb] below meth c H locs cells slots (lw_Z below #[Value.ref sb] s) (F0 m 89 ls []) := by
  intro N
  induction N with
  | zero => intro k cells slots hN hk; omega
  | succ N ih =>
    intro k cells slots hN hk hce hsl s0 j0 fm fa fq fg H locs hP hD hS hR hM hZ hQL hG hBB ls hl
    have LB2 := LB
    obtain ⟨hx, hb, hml, hown, htT, hKL, hX0, hbl, hbA, hA, hX, hflag⟩ := LB2
    have hts : ∀ w ∈ wsL_law, w.before #[Value.ref sb] s = true := fun w hw => htT w (wsL_law_in w hw)
    refine lv_iload hx hb dL_law_89 (lv_at hl 6 rfl) ?_
    refine lv_bipush (v := nI 52) hx hb dL_law_91 (by decide) ?_
    refine lv_icmp_ge (tgt := 195) hx hb dL_law_93 (by decide) (fun _ => ?_) (fun h9 => ?_)
    · refine lv_iconst (v := 1) hx hb dL_law_195 (by decide) ?_
      refine va_forget (fun q hq => hS.2.2 q hq) (W.widen (k := 894169) (n := 6418962) (by omega) (by omega) ?_)
      exact lw_ret hx hb hr hlocks dL_law_196
    · have hk52 : k < 52 := Nat.not_le.mp (fun q => h9 ((nI_leI (by omega) (by omega)).mpr q))
      refine lv_aload_n hx hb dL_law_96 rfl (lv_at hl 0 rfl) ?_
      refine lv_iconst (v := nI 2) hx hb dL_law_97 (by decide) ?_
      refine lv_iload hx hb dL_law_98 (lv_at hl 6 rfl) ?_
      refine lv_imul hx hb dL_law_100 ?_
      refine tpe (y := nI (2 * k)) (pk_mul _ _) ?_
      refine call_cell (xs := xs) (L := L) hL2 (show 2 * k < 2 ^ 30 by omega) ⟨hx, hb, hml, hown, hts⟩ (va_cwS 2 hts gL_law_L_cell rfl rfl rfl (by decide +kernel) ⟨Nat.le_of_ble_eq_true rfl, Nat.le_of_ble_eq_true rfl⟩) hX0 hbl hbA hP hD hS hA hl.1 rfl (Nat.le_of_ble_eq_true rfl) ⟨(show cells ≤ 894169 by omega), (show slots ≤ 6418962 by omega)⟩ dL_law_101 (fun xv H locs hP hD hS => ?_)
      refine lv_istore (lv' := [(7, .int xv), (0, .ref sb), (1, .ref (xo 0)), (2, .ref ag), (3, .ref aa), (4, .ref am), (5, .ref aq), (6, .int (nI k))]) hx hb dL_law_104 hl (by decide) rfl (fun ls hl => ?_)
      refine lv_aload_n hx hb dL_law_106 rfl (lv_at hl 1 rfl) ?_
      refine lv_iconst (v := nI 2) hx hb dL_law_107 (by decide) ?_
      refine lv_iload hx hb dL_law_108 (lv_at hl 7 rfl) ?_
      refine lv_imul hx hb dL_law_110 ?_
      refine tpe (y := nI (2 * k)) (pk_mul _ _) ?_
      refine lv_iconst (v := nI 1) hx hb dL_law_111 (by decide) ?_
      refine lv_iadd hx hb dL_law_112 ?_
      refine tpe (y := nI (2 * k + 1)) (nI_add _ _) ?_
      refine call_cell (xs := xs) (L := L) hL2 (show 2 * k + 1 < 2 ^ 30 by omega) ⟨hx, hb, hml, hown, hts⟩ (va_cwS 2 hts gL_law_L_cell rfl rfl rfl (by decide +kernel) ⟨Nat.le_of_ble_eq_true rfl, Nat.le_of_ble_eq_true rfl⟩) hX0 hbl hbA hP hD hS hA hl.1 rfl (Nat.le_of_ble_eq_true rfl) ⟨(show cells ≤ 894169 by omega), (show slots ≤ 6418962 by omega)⟩ dL_law_113 (fun yv H locs hP hD hS => ?_)
      refine lv_istore (lv' := [(8, .int yv), (7, .int xv), (0, .ref sb), (1, .ref (xo 0)), (2, .ref ag), (3, .ref aa), (4, .ref am), (5, .ref aq), (6, .int (nI k))]) hx hb dL_law_116 hl (by decide) rfl (fun ls hl => ?_)
      have K167 : ∀ (s1 : ST) (j1 : JT) (fm fa : Nat → Int32) (fq : Nat → Int64) (fg : Nat → Int32) (H : Heap) (locs : List Loc), va_P D vwCl ([(am, .inl (cI, 10, .inl fm)), (aa, .inl (cI, 48, .inl fa)), (aq, .inl (cL, 10, .inr (.inl fq))), (ag, .inl (cI, 3, .inl fg))] ++ lmW cI cT xo ta tr br tx hi ra s1 j1) H → va_D (fun q => s.heap.size ≤ q) ([(am, .inl (cI, 10, .inl fm)), (aa, .inl (cI, 48, .inl fa)), (aq, .inl (cL, 10, .inr (.inl fq))), (ag, .inl (cI, 3, .inl fg))] ++ lmW cI cT xo ta tr br tx hi ra s1 j1) → va_S (fun q => s.heap.size ≤ q) s.heap H locs → LR s1 j1 → MM s1.1 fm → ZA s1.1 fa → QL s1.2.1 fq → GG s1.1 fg → BB (k + 1) s1.1 → W p l e room_1 s m #[Value.ref sb] below meth c H locs (cells + 40) (slots + 240) (lw_Z below #[Value.ref sb] s) (F0 m 167 ls [.int (nI 1)]) := by
        intro s1 j1 fm fa fq fg H locs hP hD hS hR hM hZ hQL hG hBB
        refine lv_istore (lv' := (9, .int (nI 1)) :: [(8, .int yv), (7, .int xv), (0, .ref sb), (1, .ref (xo 0)), (2, .ref ag), (3, .ref aa), (4, .ref am), (5, .ref aq), (6, .int (nI k))]) hx hb dL_law_167 hl (by decide) rfl (fun ls hl => ?_)
        refine lv_iload hx hb dL_law_169 (lv_at hl 0 rfl) ?_
        refine lv_if_eq (tgt := 187) hx hb dL_law_171 (by decide) (fun h => absurd h (by decide)) (fun _ => ?_)
        refine lv_aload_n hx hb dL_law_174 rfl (lv_at hl 4 rfl) ?_
        refine lv_aload_n hx hb dL_law_175 rfl (lv_at hl 6 rfl) ?_
        refine lv_aload hx hb dL_law_176 (lv_at hl 7 rfl) ?_
        refine lv_aload hx hb dL_law_178 (lv_at hl 8 rfl) ?_
        refine lv_aload_n hx hb dL_law_180 rfl (lv_at hl 5 rfl) ?_
        refine call_cu (X := []) (Wc := [(am, .inl (cI, 10, .inl fm)), (aa, .inl (cI, 48, .inl fa)), (aq, .inl (cL, 10, .inr (.inl fq))), (ag, .inl (cI, 3, .inl fg))] ++ lmW cI cT xo ta tr br tx hi ra s1 j1) (Z := []) (As := [.ref (xo 0), .ref aa, .ref am, .ref aq, .ref ag]) (rest := []) ⟨hx, hb, hml, hown, hts⟩ (c_L_isSo l hflag D cI cT cL xo ta tr br tx hi ra s1 j1 am aa aq ag fm fa fq fg hR hM hZ hQL hG) (va_cwS 5 hts gL_law_L_isSo rfl rfl rfl (by decide +kernel) ⟨Nat.le_of_ble_eq_true rfl, Nat.le_of_ble_eq_true rfl⟩) hKL (P_nilE hP) (D_nilE hD) hS hA hX (fun _ => adr_g) rfl hl.1 rfl (Nat.le_of_ble_eq_true rfl) ⟨(show cells + 40 + 416 ≤ 894169 by omega), (show slots + 240 + 2496 ≤ 6418962 by omega)⟩ dL_law_181 (fun r j2 H locs hp hP hD hS => ?_)
        obtain ⟨rfl, hR2⟩ := hp
        have hP := P_nil hP; have hD := D_nil hD
        refine lv_if_ne (tgt := 189) hx hb dL_law_184 (by decide) (fun _ => ?_) (fun h => absurd h (by decide))
        refine lv_iinc (v := nI (k + 1)) (lv' := [(6, .int (nI (k + 1))), (9, .int (nI 1)), (8, .int yv), (7, .int xv), (0, .ref sb), (1, .ref (xo 0)), (2, .ref ag), (3, .ref aa), (4, .ref am), (5, .ref aq)]) hx hb dL_law_189 hl (k := 9) rfl (nI_add _ 1) (by decide) rfl (fun ls hl => ?_)
        refine lv_goto (tgt := 89) hx hb dL_law_192 (by decide) ?_
        exact ih (k + 1) (cells + 40 + 416) (slots + 240 + 2496) (by omega) (by omega) (by omega) (by omega) s1 j2 fm fa fq fg H locs hP hD hS hR2 hM hZ hQL hG hBB ls (lv_sub hl [4, 5, 6, 7, 8, 9, 0] rfl)
      refine lv_iload hx hb dL_law_118 (lv_at hl 8 rfl) ?_
      refine lv_iconst (v := nI 4) hx hb dL_law_120 (by decide) ?_
      refine lv_icmp_ge (tgt := 153) hx hb dL_law_121 (by decide) (fun _ => ?_) (fun _ => ?_)
      · refine lv_aload_n hx hb dL_law_153 rfl (lv_at hl 3 rfl) ?_
        refine lv_iload hx hb dL_law_154 (lv_at hl 1 rfl) ?_
        refine lv_iload hx hb dL_law_156 (lv_at hl 0 rfl) ?_
        refine lv_aload_n hx hb dL_law_158 rfl (lv_at hl 5 rfl) ?_
        refine lv_aload hx hb dL_law_159 (lv_at hl 6 rfl) ?_
        refine lv_aload hx hb dL_law_161 (lv_at hl 7 rfl) ?_
        refine lv_aload_n hx hb dL_law_163 rfl (lv_at hl 4 rfl) ?_
        refine call_cu (X := []) (Wc := [(am, .inl (cI, 10, .inl fm)), (aa, .inl (cI, 48, .inl fa)), (aq, .inl (cL, 10, .inr (.inl fq))), (ag, .inl (cI, 3, .inl fg))] ++ lmW cI cT xo ta tr br tx hi ra s0 j0) (Z := []) (As := [.ref (xo 0), .int xv, .int yv, .ref aa, .ref am, .ref aq, .ref ag]) (rest := []) ⟨hx, hb, hml, hown, htT⟩ (c_L_act l hflag D cI cT cL xo ta tr br tx hi ra s0 j0 am aa aq ag fm fa fq fg xv yv k hR hM hZ hQL hG hBB (by omega)) (va_cwS 7 htT gT_law_L_act rfl rfl rfl (by decide +kernel) ⟨Nat.le_of_ble_eq_true rfl, Nat.le_of_ble_eq_true rfl⟩) hKL (P_nilE hP) (D_nilE hD) hS hA hX (fun _ => adr_g) rfl hl.1 rfl (Nat.le_of_ble_eq_true rfl) ⟨(show cells + 40 ≤ 894169 by omega), (show slots + 240 ≤ 6418962 by omega)⟩ dL_law_164 (fun r u H locs hp hP hD hS => ?_)
        obtain ⟨s1, j1, fm1, fa1, fq1, fg1⟩ := u
        obtain ⟨rfl, hR1, hM1, hZ1, hQ1, hG1, hB1⟩ := hp
        have hP := P_nil hP; have hD := D_nil hD
        exact K167 s1 j1 fm1 fa1 fq1 fg1 H locs hP hD hS hR1 hM1 hZ1 hQ1 hG1 hB1
      · refine lv_aload_n hx hb dL_law_124 rfl (lv_at hl 3 rfl) ?_
        refine lv_iconst (v := nI 0) hx hb dL_law_125 (by decide) ?_
        refine lv_iconst (v := nI 5) hx hb dL_law_126 (by decide) ?_
        refine lv_iload hx hb dL_law_127 (lv_at hl 0 rfl) ?_
        refine lv_iconst (v := nI 4) hx hb dL_law_129 (by decide) ?_
        refine lv_ishr hx hb dL_law_130 ?_
        refine lv_sipush (v := nI 255) hx hb dL_law_131 (by decide) ?_
        refine lv_iand hx hb dL_law_134 ?_
        refine lv_imul hx hb dL_law_135 ?_
        refine lv_iconst (v := nI 4) hx hb dL_law_136 (by decide) ?_
        refine lv_ishl hx hb dL_law_137 ?_
        refine lv_iload hx hb dL_law_138 (lv_at hl 8 rfl) ?_
        refine lv_ior hx hb dL_law_140 ?_
        refine lv_aload_n hx hb dL_law_141 rfl (lv_at hl 5 rfl) ?_
        refine lv_aload hx hb dL_law_142 (lv_at hl 6 rfl) ?_
        refine lv_aload hx hb dL_law_144 (lv_at hl 7 rfl) ?_
        refine lv_aload_n hx hb dL_law_146 rfl (lv_at hl 4 rfl) ?_
        refine call_cu (X := []) (Wc := [(am, .inl (cI, 10, .inl fm)), (aa, .inl (cI, 48, .inl fa)), (aq, .inl (cL, 10, .inr (.inl fq))), (ag, .inl (cI, 3, .inl fg))] ++ lmW cI cT xo ta tr br tx hi ra s0 j0) (Z := []) (As := [.ref (xo 0), .int (nI 0), .int ((((nI 5 * ((yv >>> (nI 4 &&& 31)) &&& nI 255)) <<< (nI 4 &&& 31)) ||| nI k)), .ref aa, .ref am, .ref aq, .ref ag]) (rest := []) ⟨hx, hb, hml, hown, htT⟩ (c_L_act l hflag D cI cT cL xo ta tr br tx hi ra s0 j0 am aa aq ag fm fa fq fg (nI 0) ((((nI 5 * ((yv >>> (nI 4 &&& 31)) &&& nI 255)) <<< (nI 4 &&& 31)) ||| nI k)) k hR hM hZ hQL hG hBB (by omega)) (va_cwS 7 htT gT_law_L_act rfl rfl rfl (by decide +kernel) ⟨Nat.le_of_ble_eq_true rfl, Nat.le_of_ble_eq_true rfl⟩) hKL (P_nilE hP) (D_nilE hD) hS hA hX (fun _ => adr_g) rfl hl.1 rfl (Nat.le_of_ble_eq_true rfl) ⟨(show cells + 40 ≤ 894169 by omega), (show slots + 240 ≤ 6418962 by omega)⟩ dL_law_147 (fun r u H locs hp hP hD hS => ?_)
        obtain ⟨s1, j1, fm1, fa1, fq1, fg1⟩ := u
        obtain ⟨rfl, hR1, hM1, hZ1, hQ1, hG1, hB1⟩ := hp
        have hP := P_nil hP; have hD := D_nil hD
        refine lv_goto (tgt := 167) hx hb dL_law_150 (by decide) ?_
        exact K167 s1 j1 fm1 fa1 fq1 fg1 H locs hP hD hS hR1 hM1 hZ1 hQ1 hG1 hB1
