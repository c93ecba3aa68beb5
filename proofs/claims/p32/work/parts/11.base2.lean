section BASE2
variable {p : Program} {l : Launch} {e : Env} {R : Room} {s : State} {m : MethodId} {args : Array Value} {below : List Frame} {meth : Method} {c : Code} {H : Heap} {locs : List Loc} {cells slots : Nat} {Q : State → Prop}
variable {cc : ByteArray} {pc : Nat} {ls : Array Slot} {rest : List Value} {D : va_G} {cI cT : ClassId} {A : Nat → Prop} {H0 : Heap} {ws : va_W} {tys : List (ClassId × FieldType)}
/-- a whole row of numbers is copied -/
theorem r_cpy (hx : p.tables.exec = Jvm.exec) (hb : c.code = cc) (hml : c.maxLocals = ls.size) {own : String} {index : Nat} (hown : s.vm.findClass own = some m.cls) (hlink : (Cond.methodLink own index arraycopyName).before args s = true) (hnat : (Cond.native arraycopyName).before args s = true) (hstat : (Cond.static arraycopyName).before args s = true) (hini : (Cond.initialized "java/lang/System").before args s = true)
    (hK : va_K D vwCl (TY cI cT) s) (hP : va_P D vwCl ws H) (hD : va_D A ws) (hS : va_S A H0 H locs) (q0 q1 : Nat) {a a0 n : Nat} {f g : Nat → Int32} (ha0 : ws[q0]? = some (a0, .inl (cI, n, .inl f))) (ha1 : ws[q1]? = some (a, .inl (cI, n, .inl g))) (hn : n < 2 ^ 31)
    (hframes : 1 ≤ R.frames) (hlocals : (rest.map fun v => v.category).sum + (nativeFrameWords "java/lang/System" "arraycopy" 5 + 11) ≤ R.locals) (hdg : decode cc pc = .ok (.invokestatic index, 3))
    (kk : ∀ (H1 : Heap) (locs1 : List Loc), va_P D vwCl (ws.set q1 (a, .inl (cI, n, .inl f))) H1 → va_D A (ws.set q1 (a, .inl (cI, n, .inl f))) → va_S A H0 H1 locs1 → W p l e R s m args below meth c H1 locs1 cells slots Q (F0 m (pc + 3) ls rest)) : W p l e R s m args below meth c H locs cells slots Q (F0 m pc ls (.int (nI n) :: .int (nI 0) :: .ref a :: .int (nI 0) :: .ref a0 :: rest)) := by
  have e0 : (nI 0).toNatClampNeg = 0 := nI_clamp (by decide)
  have en : (nI n).toNatClampNeg = n := nI_clamp hn
  have z0 : ¬ nI 0 < 0 := by decide
  refine va_copyi hx hb hml hown hlink hnat hstat hini hK hP hD hS q0 q1 0 0 ha0 ha1 rfl rfl rfl z0 z0 (nI_pos hn) (by rw [e0, en]; omega) (by rw [e0, en]; omega) (fun _ _ => rfl) hframes hlocals hdg (fun H1 locs1 hP1 hD1 hS1 => ?_)
  rw [e0, en] at hP1 hD1
  have hq : q1 < ws.length := (List.getElem?_eq_some_iff.mp ha1).1
  have h2 := P_set f hP1 q1 (by rw [List.getElem?_set_self hq]) (fun j hj => by rw [pk_cpy_in (Nat.zero_le _) (by omega)]; congr 1; omega)
  have h3 := va_D.set (p := q1) (e := .inl (cI, n, .inl f)) hD1 (by rw [List.getElem?_set_self hq])
  rw [List.set_set] at h2 h3
  exact kk H1 locs1 h2 h3 hS1
/-- the cells of a world may be told in another order -/
theorem P_perm {w1 w2 : va_W} (h : w1.Perm w2) (hP : va_P D vwCl w1 H) : va_P D vwCl w2 H := fun k q hq => by
  obtain ⟨i, hi⟩ := List.getElem?_of_mem (h.mem_iff.mpr (List.mem_of_getElem? hq))
  exact hP i q hi
theorem D_nodup {w : va_W} : va_D A w ↔ (w.map Prod.fst).Nodup ∧ ∀ q ∈ w, A q.1 := by
  constructor
  · rintro ⟨h1, h2⟩
    refine ⟨?_, fun q hq => ?_⟩
    · refine List.pairwise_iff_getElem.mpr (fun i j hi hj hij => ?_)
      intro he
      rw [List.getElem_map, List.getElem_map] at he
      have hi' : i < w.length := by simpa using hi
      have hj' : j < w.length := by simpa using hj
      have := h1 i j w[i] w[j] (List.getElem?_eq_getElem hi') (List.getElem?_eq_getElem hj') he
      omega
    · obtain ⟨i, hi⟩ := List.getElem?_of_mem hq
      exact h2 i q hi
  · rintro ⟨h1, h2⟩
    refine ⟨fun i j x y hx hy hxy => ?_, fun k q hq => h2 q (List.mem_of_getElem? hq)⟩
    have hi := (List.getElem?_eq_some_iff.mp hx)
    have hj := (List.getElem?_eq_some_iff.mp hy)
    obtain ⟨hi1, hi2⟩ := hi
    obtain ⟨hj1, hj2⟩ := hj
    have hp := List.pairwise_iff_getElem.mp h1
    rcases Nat.lt_trichotomy i j with q | q | q
    · exact absurd (by rw [List.getElem_map, List.getElem_map, hi2, hj2, hxy]) (hp i j (by simpa using hi1) (by simpa using hj1) q)
    · exact q
    · exact absurd (by rw [List.getElem_map, List.getElem_map, hi2, hj2, hxy]) (hp j i (by simpa using hj1) (by simpa using hi1) q)
theorem D_perm {w1 w2 : va_W} (h : w1.Perm w2) (hD : va_D A w1) : va_D A w2 := by
  rw [D_nodup] at hD ⊢
  exact ⟨((h.map Prod.fst).nodup_iff).mp hD.1, fun q hq => hD.2 q (h.mem_iff.mpr hq)⟩
/-- a load out of the rows of the history -/
theorem r_aldq (hx : p.tables.exec = Jvm.exec) (hb : c.code = cc) (hK : va_K D vwCl (TY cI cT) s) (hP : va_P D vwCl ws H) (q0 : Nat) {a n : Nat} {f : Nat → Nat} (ha : ws[q0]? = some (a, .inl (cT, n, .inr (.inr (.inr (.inr (fun z => some (f z)))))))) {k : Nat} (hk : k < n) (hn : n < 2 ^ 31) (hdg : decode cc pc = .ok (.aaload, 1))
    (kk : W p l e R s m args below meth c H locs cells slots Q (F0 m (pc + 1) ls (.ref (f k) :: rest))) : W p l e R s m args below meth c H locs cells slots Q (F0 m pc ls (.int (nI k) :: .ref a :: rest)) := by
  refine va_aldq hx hb hK hP q0 1 ha rfl (vp_in_nI hk hn) hdg ?_
  rw [nI_clamp (Nat.lt_trans hk hn)]
  exact kk
end BASE2
/-! the rows of the history -/
abbrev rowA (ra : Nat → Nat → Nat) (cI : ClassId) (SF : Nat → FF) (SQ : Nat → QQ) (Sa : Nat → Nat → Int32) (i : Nat) : va_W := tblW cI (ra i) (SF i) (SQ i) (Sa i)
def rowsF (ra : Nat → Nat → Nat) (cI : ClassId) (SF : Nat → FF) (SQ : Nat → QQ) (Sa : Nat → Nat → Int32) (lo n : Nat) : va_W := (List.range' lo n).flatMap (rowA ra cI SF SQ Sa)
theorem rows_split {ra : Nat → Nat → Nat} {cI : ClassId} {SF : Nat → FF} {SQ : Nat → QQ} {Sa : Nat → Nat → Int32} {n : Nat} (hn : n < 8) : rowsF ra cI SF SQ Sa 0 8 = rowsF ra cI SF SQ Sa 0 n ++ rowA ra cI SF SQ Sa n ++ rowsF ra cI SF SQ Sa (n + 1) (7 - n) := by
  unfold rowsF
  have e1 : List.range' 0 8 = List.range' 0 n ++ (n :: List.range' (n + 1) (7 - n)) := by
    have h1 : (n :: List.range' (n + 1) (7 - n)) = List.range' n (8 - n) := by
      rw [show 8 - n = (7 - n) + 1 by omega, List.range'_succ]
    rw [h1]
    have := List.range'_append_1 (s := 0) (m := n) (n := 8 - n)
    rw [Nat.zero_add, show n + (8 - n) = 8 by omega] at this
    exact this.symm
  rw [e1, List.flatMap_append, List.flatMap_cons, List.append_assoc]
theorem rows_cg {ra : Nat → Nat → Nat} {cI : ClassId} {SF SF2 : Nat → FF} {SQ SQ2 : Nat → QQ} {Sa Sa2 : Nat → Nat → Int32} {lo n : Nat} (h : ∀ i, lo ≤ i → i < lo + n → SF i = SF2 i ∧ SQ i = SQ2 i ∧ Sa i = Sa2 i) : rowsF ra cI SF SQ Sa lo n = rowsF ra cI SF2 SQ2 Sa2 lo n := by
  unfold rowsF
  refine congrArg List.flatten (List.map_congr_left (fun i hi => ?_))
  rw [List.mem_range'_1] at hi
  obtain ⟨h1, h2, h3⟩ := h i hi.1 (by omega)
  rw [rowA, rowA, h1, h2, h3]
def upT {α : Type} (f : Nat → α) (k : Nat) (v : α) : Nat → α := fun j => if j = k then v else f j
theorem rows_up {ra : Nat → Nat → Nat} {cI : ClassId} {SF : Nat → FF} {SQ : Nat → QQ} {Sa : Nat → Nat → Int32} {n : Nat} (hn : n < 8) (F : FF) (Q : QQ) (qa : Nat → Int32) : rowsF ra cI SF SQ Sa 0 n ++ tblW cI (ra n) F Q qa ++ rowsF ra cI SF SQ Sa (n + 1) (7 - n) = rowsF ra cI (upT SF n F) (upT SQ n Q) (upT Sa n qa) 0 8 := by
  rw [rows_split hn, rowA]
  rw [show upT SF n F n = F from if_pos rfl, show upT SQ n Q n = Q from if_pos rfl, show upT Sa n qa n = qa from if_pos rfl]
  rw [rows_cg (SF := SF) (SQ := SQ) (Sa := Sa) (SF2 := upT SF n F) (SQ2 := upT SQ n Q) (Sa2 := upT Sa n qa) (lo := 0) (fun i _ h2 => ⟨(if_neg (by omega)).symm, (if_neg (by omega)).symm, (if_neg (by omega)).symm⟩)]
  rw [rows_cg (SF := SF) (SQ := SQ) (Sa := Sa) (SF2 := upT SF n F) (SQ2 := upT SQ n Q) (Sa2 := upT Sa n qa) (lo := n + 1) (fun i h1 _ => ⟨(if_neg (by omega)).symm, (if_neg (by omega)).symm, (if_neg (by omega)).symm⟩)]
theorem pm1 {α : Type} {X Lo R Hi T : List α} : (X ++ (Lo ++ R ++ Hi) ++ T).Perm ((X ++ Lo) ++ (T ++ R) ++ Hi) := by
  have h : (R ++ Hi ++ T).Perm (T ++ (R ++ Hi)) := List.perm_append_comm
  have h2 := (h.append_left Lo).append_left X
  simpa [List.append_assoc] using h2
theorem pm2 {α : Type} {X Lo R Hi T : List α} : (X ++ (Lo ++ R ++ Hi) ++ T).Perm ((X ++ Lo) ++ (R ++ T) ++ Hi) := by
  have h : (Hi ++ T).Perm (T ++ Hi) := List.perm_append_comm
  have h2 := ((h.append_left R).append_left Lo).append_left X
  simpa [List.append_assoc] using h2
/-- the saved states: the last one first -/
def RH (n cn : Nat) (SF : Nat → FF) (SQ : Nat → QQ) (Sa : Nat → Nat → Int32) (HS : List (FF × QQ)) : Prop :=
  n < 8 ∧ cn = HS.length ∧ cn ≤ 8 ∧ (∀ k, k < cn → HS[k]? = some (SF ((n + 7 - k) % 8), SQ ((n + 7 - k) % 8))) ∧ ∀ k, k < cn → RQ (SQ ((n + 7 - k) % 8)) (Sa ((n + 7 - k) % 8))
theorem RH_save {n cn : Nat} {SF : Nat → FF} {SQ : Nat → QQ} {Sa : Nat → Nat → Int32} {HS : List (FF × QQ)} (h : RH n cn SF SQ Sa HS) {F : FF} {Q : QQ} {qa : Nat → Int32} (hR : RQ Q qa) : RH (if n = 7 then 0 else n + 1) (if cn < 8 then cn + 1 else cn) (upT SF n F) (upT SQ n Q) (upT Sa n qa) (((F, Q) :: HS).take 8) := by
  obtain ⟨h1, h2, h3, h4, h5⟩ := h
  have e0 : ((if n = 7 then 0 else n + 1) + 7) % 8 = n := by split <;> omega
  have ek : ∀ k, k < 7 → ((if n = 7 then 0 else n + 1) + 7 - (k + 1)) % 8 = (n + 7 - k) % 8 := fun k hk => by split <;> omega
  have en : ∀ k, k < 7 → (n + 7 - k) % 8 ≠ n := fun k hk => by omega
  refine ⟨by split <;> omega, ?_, by split <;> omega, fun k hk => ?_, fun k hk => ?_⟩
  · rw [List.length_take, List.length_cons, ← h2]; split <;> omega
  · have hk8 : k < 8 := by revert hk; split <;> omega
    rw [List.getElem?_take, if_pos hk8]
    cases k with
    | zero => rw [Nat.sub_zero, e0]; simp [upT]
    | succ k =>
      rw [List.getElem?_cons_succ, ek k (by omega), h4 k (by revert hk; split <;> omega)]
      simp [upT, en k (by omega)]
  · have hk8 : k < 8 := by revert hk; split <;> omega
    cases k with
    | zero => rw [Nat.sub_zero, e0]; simpa [upT] using hR
    | succ k =>
      rw [ek k (by omega)]
      have := h5 k (by revert hk; split <;> omega)
      simpa [upT, en k (by omega)] using this
theorem RH_pop {n cn : Nat} {SF : Nat → FF} {SQ : Nat → QQ} {Sa : Nat → Nat → Int32} {x : FF × QQ} {HS : List (FF × QQ)} (h : RH n cn SF SQ Sa (x :: HS)) : RH (if n = 0 then 7 else n - 1) (cn - 1) SF SQ Sa HS ∧ x = (SF (if n = 0 then 7 else n - 1), SQ (if n = 0 then 7 else n - 1)) ∧ RQ (SQ (if n = 0 then 7 else n - 1)) (Sa (if n = 0 then 7 else n - 1)) := by
  obtain ⟨h1, h2, h3, h4, h5⟩ := h
  rw [List.length_cons] at h2
  have e0 : (n + 7 - 0) % 8 = (if n = 0 then 7 else n - 1) := by split <;> omega
  have ek : ∀ k, k < 7 → (n + 7 - (k + 1)) % 8 = ((if n = 0 then 7 else n - 1) + 7 - k) % 8 := fun k hk => by split <;> omega
  refine ⟨⟨by split <;> omega, by omega, by omega, fun k hk => ?_, fun k hk => ?_⟩, ?_, ?_⟩
  · have := h4 (k + 1) (by omega)
    rw [List.getElem?_cons_succ, ek k (by omega)] at this
    exact this
  · have := h5 (k + 1) (by omega)
    rw [ek k (by omega)] at this
    exact this
  · have := h4 0 (by omega)
    rw [e0] at this
    exact Option.some.inj this
  · have := h5 0 (by omega)
    rw [e0] at this
    exact this
abbrev hisW (cT : ClassId) (h : Nat → Nat) (ra : Nat → Nat → Nat) (n cn : Nat) : va_W := [(h 0, .inr (1, [.ref (h 1), .int (nI n), .int (nI cn)])), (h 1, .inl (cT, 8, .inr (.inr (.inr (.inr (fun z => some (ra z 0)))))))]
theorem adr_rows {ra : Nat → Nat → Nat} {cI : ClassId} {SF : Nat → FF} {SQ : Nat → QQ} {Sa : Nat → Nat → Int32} {lo n : Nat} : (rowsF ra cI SF SQ Sa lo n).map Prod.fst = (List.range' lo n).flatMap (fun i => [ra i 0, ra i 1, ra i 2, ra i 3, ra i 4, ra i 5, ra i 6, ra i 7, ra i 8]) := by
  unfold rowsF
  rw [List.map_flatMap]
  rfl
theorem adr_his {cT : ClassId} {h : Nat → Nat} {ra : Nat → Nat → Nat} {n cn : Nat} : (hisW cT h ra n cn).map Prod.fst = [h 0, h 1] := rfl
theorem adr_two {cI : ClassId} {a o : Nat → Nat} {F F2 : FF} {Q Q2 : QQ} {qa qb : Nat → Int32} : (tblW cI o F2 Q2 qb ++ tblW cI a F Q qa).map Prod.fst = [o 0, o 1, o 2, o 3, o 4, o 5, o 6, o 7, o 8, a 0, a 1, a 2, a 3, a 4, a 5, a 6, a 7, a 8] := rfl
theorem adr_hrt {cI cT : ClassId} {h a : Nat → Nat} {ra : Nat → Nat → Nat} {n cn n2 cn2 : Nat} {F F2 : FF} {Q Q2 : QQ} {qa qa2 : Nat → Int32} {SF SF2 : Nat → FF} {SQ SQ2 : Nat → QQ} {Sa Sa2 : Nat → Nat → Int32} : (hisW cT h ra n cn ++ rowsF ra cI SF SQ Sa 0 8 ++ tblW cI a F Q qa).map Prod.fst = (hisW cT h ra n2 cn2 ++ rowsF ra cI SF2 SQ2 Sa2 0 8 ++ tblW cI a F2 Q2 qa2).map Prod.fst := by
  rw [List.map_append, List.map_append, List.map_append, List.map_append, adr_rows, adr_rows, adr_tbl, adr_tbl, adr_his, adr_his]
