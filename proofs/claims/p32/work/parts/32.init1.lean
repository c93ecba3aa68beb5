theorem P_setR {D : va_G} {ws : va_W} {H : Heap} {cA : ClassId} {a n : Nat} {f : Nat → Option Nat} (g : Nat → Option Nat) (hP : va_P D vwCl ws H) (k : Nat) (hk : ws[k]? = some (a, .inl (cA, n, .inr (.inr (.inr (.inr f)))))) (h : ∀ j, j < n → f j = g j) : va_P D vwCl (ws.set k (a, .inl (cA, n, .inr (.inr (.inr (.inr g)))))) H := by
  intro i q hq
  rw [List.getElem?_set] at hq
  by_cases hki : k = i
  · rw [if_pos hki] at hq
    subst hki
    split at hq
    · cases Option.some.inj hq
      have h1 := hP k _ hk
      show H[a]? = some (vp_cell cA (n, .inr (.inr (.inr (.inr g)))))
      have h2 : H[a]? = some (vp_cell cA (n, .inr (.inr (.inr (.inr f))))) := h1
      rw [h2]
      congr 1
      rw [vp_cell_q, vp_cell_q, arrV, arrV]
      congr 1
      apply congrArg
      funext j
      rw [h j.val j.isLt]
    · cases hq
  · rw [if_neg hki] at hq
    exact hP i q hq
abbrev W1 (cT : ClassId) (h0 q : Nat) (f : Nat → Option Nat) : va_W := [(h0, .inr (1, [.ref q, .int 0, .int 0])), (q, .inl (cT, 8, .inr (.inr (.inr (.inr f)))))]
abbrev rsI (ra : Nat → Nat → Nat) (cI : ClassId) (i : Nat) : va_W := rowsF ra cI (fun _ => iniF) (fun _ => iniQ) (fun _ => iniq) 0 i
def raU (ra : Nat → Nat → Nat) (i : Nat) (a : Nat → Nat) : Nat → Nat → Nat := fun z => if z = i then a else ra z
def iniR (ra : Nat → Nat → Nat) (i : Nat) : Nat → Option Nat := fun z => if z < i then some (ra z 0) else none
theorem rsI_succ (ra : Nat → Nat → Nat) (cI : ClassId) (i : Nat) (a : Nat → Nat) : rsI (raU ra i a) cI (i + 1) = rsI ra cI i ++ tblW cI a iniF iniQ iniq := by
  have h : ∀ L : List Nat, (∀ x ∈ L, x < i) → L.flatMap (rowA (raU ra i a) cI (fun _ => iniF) (fun _ => iniQ) (fun _ => iniq)) = L.flatMap (rowA ra cI (fun _ => iniF) (fun _ => iniQ) (fun _ => iniq)) := by
    intro L
    induction L with
    | nil => intro _; rfl
    | cons x L ih =>
      intro hL
      rw [List.flatMap_cons, List.flatMap_cons, ih (fun y hy => hL y (List.mem_cons_of_mem _ hy))]
      have hx : x ≠ i := Nat.ne_of_lt (hL x (List.mem_cons_self))
      have e : raU ra i a x = ra x := if_neg hx
      unfold rowA
      rw [e]
  unfold rsI rowsF
  rw [List.range'_1_concat, List.flatMap_append, h _ (fun x hx => by rw [List.mem_range'_1] at hx; omega), List.flatMap_cons, List.flatMap_nil, List.append_nil]
  have e : raU ra i a (0 + i) = a := if_pos (by omega)
  unfold rowA
  rw [e]
theorem rsI_zero (ra : Nat → Nat → Nat) (cI : ClassId) : rsI ra cI 0 = [] := rfl
theorem iniR_0 (ra : Nat → Nat → Nat) : iniR ra 0 = fun _ => none := by
  funext z
  simp [iniR]
theorem iniR_up (ra : Nat → Nat → Nat) (i : Nat) (a : Nat → Nat) : va_up (iniR ra i) i (some (a 0)) = iniR (raU ra i a) (i + 1) := by
  funext z
  by_cases h : z = i
  · subst h
    simp [va_up, iniR, raU]
  · have h2 : (z < i) = (z < i + 1) := propext (by omega)
    simp [va_up, iniR, raU, h, h2]
def adr1 (h0 q : Nat) : Nat → Nat := fun k => match k with | 0 => h0 | _ => q
abbrev rX1_init : Room := { frames := 3, cells := 73, slots := 1776, locals := 40 }
set_option maxHeartbeats 1000000 in
set_option maxRecDepth 100000 in
/-- the history is made -/
theorem c_X1_init (l : Launch) (D : va_G) (cI cT : ClassId) (h0 : Nat) : CI l D cI cT yX1_init wsX1_init rX1_init 73 1776 (va_AO RX2) [.ref h0] [(h0, .inr (1, [.null, .int 0, .int 0]))] (S := (Nat → Nat) × (Nat → Nat → Nat)) (fun u => u.1 0 = h0) (fun u => hisW cT u.1 u.2 0 0 ++ rsI u.2 cI 8) := by
  refine CI.of (cc := cX1_init) (maxL := 2) (ret := none) (by decide) rfl (Nat.le_of_ble_eq_true rfl) rfl ?_
  intro p e s m args below meth c A Q hQ B hin hA H locs hP hK hE hD hS ls hl
  obtain ⟨hx, hb, hml, hrt, hts, hown, hlk⟩ := B
  have hl : lv_has ls 2 [(0, .ref h0)] := hl
  have iX1 : ∀ w ∈ u_ws RX1 TX1 3, w ∈ wsX1_init := by decide +kernel
  have iX2 : ∀ w ∈ u_ws RX2 TX2 11, w ∈ wsX1_init := by decide +kernel
  refine lv_aload_n hx hb dX1_init_0 rfl (lv_at hl 0 rfl) ?_
  refine W.objInit hx hb hown (hts (.methodLink RX1 3 objectInit) (by decide +kernel)) (hts (.instanceMethod objectInit) (by decide +kernel)) (hts _ (List.mem_cons_of_mem _ (List.mem_append_left _ (List.mem_of_getElem? (i := 2) rfl)))) rfl (by rw [hml]; exact hl.1) rfl dX1_init_1 (Nat.le_of_ble_eq_true rfl) (Nat.le_of_ble_eq_true rfl) ?_
  refine W.eq (g2 := F0 m 4 ls []) rfl ?_
  refine lv_aload_n hx hb dX1_init_4 rfl (lv_at hl 0 rfl) ?_
  refine lv_bipush (v := (nI 8)) hx hb dX1_init_5 (by decide) ?_
  refine va_newq (C := RX2) hx hb hown (hts (.classLink RX1 9 RX2) (by decide +kernel)) hE hK hP hD hS hA (N' := 8) (by decide) (by decide) (by decide) (Nat.le_of_ble_eq_true rfl) (Nat.le_of_ble_eq_true rfl) dX1_init_7 (fun q cA H hK1 hP hD hS => ?_)
  rw [cT_eq hK1] at hP hD
  refine va_putF (D := D) (ci := 1) (v := .ref q) (ty := .array (.object RX2)) (C := RX1) (T := TX1) (N := 3) hx hb hts iX1 tyX1 tyX1_ok nmX1 hown hK hP hD hS 0 rfl rfl 0 (by decide) (hts (.fieldLink RX1 11 "LockManager$History" "rows" "[LLockManager$LockTable;") (by decide +kernel)) (fun _ h9 => h9) rfl hin rfl (by decide +kernel) rfl rfl (Nat.le_of_ble_eq_true rfl) dX1_init_10 (fun H locs hP hD hS => ?_)
  have hP : va_P D vwCl (W1 cT h0 q (iniR (fun _ _ => 0) 0) ++ rsI (fun _ _ => 0) cI 0) H := by rw [iniR_0]; exact hP
  have hD : va_D A (W1 cT h0 q (iniR (fun _ _ => 0) 0) ++ rsI (fun _ _ => 0) cI 0) := by rw [iniR_0]; exact hD
  refine lv_iconst (v := (nI 0)) hx hb dX1_init_13 (by decide) ?_
  refine lv_istore_n (lv' := [(1, .int (nI 0)), (0, .ref h0)]) hx hb dX1_init_14 rfl hl (by decide) rfl (fun ls hl => ?_)
  have L15 : ∀ (N : Nat) (i : Nat), (i ≤ 8) → (8 - i) < N → ∀ (ra : Nat → Nat → Nat) (H : Heap) (locs : List Loc), va_P D vwCl (W1 cT h0 q (iniR ra i) ++ rsI ra cI i) H → va_D A (W1 cT h0 q (iniR ra i) ++ rsI ra cI i) → va_S A s.heap H locs → ∀ ls : Array Slot, lv_has ls 2 [(1, .int (nI i)), (0, .ref h0)] → W p l e rX1_init s m args below meth c H locs (1 + 9 * i) (8 + 221 * i) Q (F0 m 15 ls []) := by
    intro N8
    induction N8 with
    | zero => intro i hi hN; exact absurd hN (Nat.not_lt_zero _)
    | succ N8 ih8 =>
      intro i hi hN ra H locs hP hD hS ls hl
      refine lv_iload_n hx hb dX1_init_15 rfl (lv_at hl 0 rfl) ?_
      refine lv_bipush (v := (nI 8)) hx hb dX1_init_16 (by decide) ?_
      refine lv_icmp_ge (tgt := 40) hx hb dX1_init_18 (by decide) (fun h_1 => ?_) (fun h_1 => ?_)
      · have h_1 := (nI_leI (a := 8) (b := i) (by decide) (by omega)).mp h_1
        obtain rfl : i = 8 := by omega
        have hP := P_setR (fun z => some (ra z 0)) hP 1 rfl (fun j hj => if_pos hj)
        have hD := va_D.set (p := 1) (e := (.inl (cT, 8, .inr (.inr (.inr (.inr (fun z => some (ra z 0)))))))) hD rfl
        exact ret_c (u := (adr1 h0 q, ra)) hQ hx hb hrt hlk hS dX1_init_40 hP hD rfl
      · have h_1 := mt (nI_leI (a := 8) (b := i) (by decide) (by omega)).mpr h_1
        refine lv_aload_n hx hb dX1_init_21 rfl (lv_at hl 1 rfl) ?_
        refine va_get (D := D) (ci := 1) (v := .ref q) (C := RX1) (T := TX1) (N := 3) hx hb hts iX1 hown hK hP 0 rfl rfl 0 (by decide) (hts (.fieldLink RX1 11 "LockManager$History" "rows" "[LLockManager$LockTable;") (by decide +kernel)) (fun _ h9 => h9) rfl dX1_init_22 ?_
        refine lv_iload_n hx hb dX1_init_25 rfl (lv_at hl 0 rfl) ?_
        refine va_new (ci := 2) (fs := [.null, .null, .null, .null, .null, .null, .null, .null, .int 0, .int 0, .int 0]) (C := RX2) (T := TX2) (N := 11) hx hb hts iX2 tyX2 tyX2_ok hown (hts (.classLink RX1 9 RX2) (by decide +kernel)) (hts (.instantiable RX2 11) (by decide +kernel)) (hts (.initialized RX2) (by decide +kernel)) hK hP hD hS hA rfl (fun j hj => by rcases (show j = 0 ∨ j = 1 ∨ j = 2 ∨ j = 3 ∨ j = 4 ∨ j = 5 ∨ j = 6 ∨ j = 7 ∨ j = 8 ∨ j = 9 ∨ j = 10 by omega) with rfl | rfl | rfl | rfl | rfl | rfl | rfl | rfl | rfl | rfl | rfl <;> rfl) (by show 1 + 9 * i + 1 ≤ 73; omega) (by show 8 + 221 * i + 11 ≤ 1776; omega) dX1_init_26 (fun q2 H hP hD hS => ?_)
        refine lv_dup hx hb dX1_init_29 rfl ?_
        refine call_c (As := []) (rest := [.ref q2, .int (nI i), .ref q]) ⟨hx, hb, hml, hown, hts⟩ (c_X2_init l D cI cT q2) (cwI 0 hts gX1_init_X2_init rfl rfl rfl (hts (.initialized RX2) (by decide +kernel)) (hts (.methodLink RX1 17 yX2_init) (by decide +kernel)) (hts (.instanceMethod yX2_init) (by decide +kernel)) rfl (by decide +kernel) ⟨Nat.le_of_ble_eq_true rfl, Nat.le_of_ble_eq_true rfl⟩) (fun _ _ _ _ => trivial) (fun _ _ => trivial) hK hP hD hS hA rfl hl.1 rfl (Nat.le_of_ble_eq_true rfl) ⟨by show 1 + 9 * i + 1 + 8 ≤ 73; omega, by show 8 + 221 * i + 11 + 210 ≤ 1776; omega⟩ dX1_init_30 (fun a H locs ha0 hP hD hS => ?_)
        refine va_astq hx hb hK hP hD hS 1 1 ((W1 cT h0 q (iniR ra i) ++ rsI ra cI i).length) 2 (r := (RX2, TX2, 11)) (vs := [.ref (a 1), .ref (a 2), .ref (a 3), .ref (a 4), .ref (a 5), .ref (a 6), .ref (a 7), .ref (a 8), .int (iniF 8 0), .int (iniF 8 1), .int (iniF 8 2)]) rfl rfl (by rw [List.getElem?_append_right (Nat.le_refl _), Nat.sub_self, ← ha0]; rfl) rfl (vp_in_nI (by omega) (by decide)) dX1_init_33 (fun H locs hP hD hS => ?_)
        rw [nI_clamp (by omega), ← ha0] at hP hD
        have hP : va_P D vwCl (W1 cT h0 q (iniR (raU ra i a) (i + 1)) ++ rsI (raU ra i a) cI (i + 1)) H := by rw [rsI_succ, ← iniR_up]; exact hP
        have hD : va_D A (W1 cT h0 q (iniR (raU ra i a) (i + 1)) ++ rsI (raU ra i a) cI (i + 1)) := by rw [rsI_succ, ← iniR_up]; exact hD
        refine lv_iinc (v := (nI (i + 1))) (lv' := [(1, .int (nI (i + 1))), (0, .ref h0)]) hx hb dX1_init_34 hl (k := 0) rfl (nI_add _ 1) (by decide) rfl (fun ls hl => ?_)
        refine lv_goto (tgt := 15) hx hb dX1_init_37 (by decide) ?_
        have := ih8 (i + 1) (by omega) (by omega) (raU ra i a) H locs hP hD hS ls hl
        rw [show 1 + 9 * (i + 1) = 1 + 9 * i + 1 + 8 by omega, show 8 + 221 * (i + 1) = 8 + 221 * i + 11 + 210 by omega] at this
        exact this
  exact L15 9 0 (by omega) (by omega) _ H locs hP hD hS ls hl
