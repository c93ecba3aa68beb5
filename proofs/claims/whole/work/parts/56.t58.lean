def tW (p : Int32) (n : Nat) : Nat := if inI p n = false then 1 else 0
theorem told_ok {z : Nat → Int32} {s : ST} {p : Int32} {w : Nat} {f : Nat → Int32} (hv : ∀ t, t < 8 → z (6 * t + w) = f t) : (if inI p 8 = false then 0 else z (6 * ix p + w)) = (opT s p f).2.1 ∧ nI (tW p 8) = nI (opT s p f).1 ∧ (opT s p f).2.2 = s := by
  rw [opT, tW]
  by_cases h : inI p 8 = false
  · rw [if_pos h, if_pos h, if_pos h]; exact ⟨rfl, rfl, rfl⟩
  · obtain ⟨t, ht, e⟩ := inI_t (by decide) (nIf h)
    rw [if_neg h, if_neg h, if_neg h, e, ix8 ht]; exact ⟨hv t ht, rfl, rfl⟩
theorem bk_s1 {S t i : Nat} (h : ¬ i = t) : bkN S t i + bitN S i = bkN S t (i + 1) := by
  rw [bkN, smN, bitN]; simp [h]
theorem bk_s0 {S t i : Nat} (h : i = t) : bkN S t i + 0 = bkN S t (i + 1) := by
  rw [bkN, smN]; simp [h]
theorem lk_le {F : FF} {Q : QQ} {t r : Nat} (hJ : JJ F Q) (ht : t < 8) (hr : r < 10) : lk F t r ≤ 0 ↔ lk F t r = 0 := by
  rcases hJ.2.2.2.2.1 t ht r hr with q | q | q <;> rw [q] <;> decide
theorem out_pos {F : FF} {t r : Nat} {m : Int32} : ¬ outI F t r m ≤ 0 := by
  rw [outI]; split
  · decide
  · split <;> decide
theorem RZ_k {F : FF} {Q : QQ} {z : Nat → Int32} (h : RZ F Q z) {k : Nat} (hk : k < 80) : z (48 + k) = lk F (k / 10) (k % 10) := by
  have := RZ_lk h (t := k / 10) (r := k % 10) (by omega) (by omega)
  rw [← this]; congr 1; omega
abbrev lhG (F : FF) : Nat → Nat := fun k => if hldB F (k % 10) (k / 10) then 1 else 0
theorem lh_1 {F : FF} {Q : QQ} {k : Nat} (hJ : JJ F Q) (hk : k < 80) (h : ¬ lk F (k / 10) (k % 10) ≤ 0) : smN (lhG F) k + 1 = smN (lhG F) (k + 1) := by
  have : hldB F (k % 10) (k / 10) = true := by
    rw [hldB, bq_f (fun q => h ((lk_le hJ (by omega) (by omega)).mpr q))]; rfl
  rw [smN, lhG, if_pos this]
theorem lh_0 {F : FF} {Q : QQ} {k : Nat} (hJ : JJ F Q) (hk : k < 80) (h : lk F (k / 10) (k % 10) ≤ 0) : smN (lhG F) k + 0 = smN (lhG F) (k + 1) := by
  have : hldB F (k % 10) (k / 10) = false := by
    rw [hldB, bq_t ((lk_le hJ (by omega) (by omega)).mp h)]; rfl
  rw [smN, lhG, if_neg (by rw [this]; decide)]
theorem wR_ref {s : ST} {t r : Nat} {m : Int32} (ht : t < 8) (hr : r < 10) (hm : mdB m = true) (h : ¬ stI s.1 t = nI 1) : opIf s (nI t) (nI r) m = (0, -1, s) ∧ opVic s (nI t) (nI r) m = (0, 0, s) := ⟨opIf_n ht hr hm h, opVic_n ht hr hm h⟩
abbrev rX5_told : Room := { frames := 2, cells := 0, slots := 0, locals := 42 }
set_option maxHeartbeats 1000000 in
set_option maxRecDepth 100000 in
theorem c_X5_told (l : Launch) (D : va_G) (cI cT : ClassId) (ad : Nat → Nat) (th sv ln vs rl cm fi se : Int32) (z zs sd tx ds rg : Nat → Int32) (p0 : Int32) (w9 : Nat) (h9 : w9 < 6) : CN l D cI cT yX5_told wsX5_told rX5_told [.ref (ad 0), .int p0, .int (nI w9)] (refW cI ad th sv ln vs rl cm fi se z zs sd tx ds rg) (S := Unit) (fun v _ => v = (if inI p0 8 = false then 0 else z (6 * ix p0 + w9))) (fun _ => refW cI ad (nI (tW p0 8)) sv ln vs rl cm fi se z zs sd tx ds rg) := by
  refine CN.of (cc := cX5_told) (maxL := 3) (ret := (some .int)) (by decide) rfl (Nat.le_of_ble_eq_true rfl) ?_
  intro p e s m args below meth c A Q hQ B hA H locs hP hK hD hS ls hl
  obtain ⟨hx, hb, hml, hrt, hts, hown, hlk⟩ := B
  have hP : va_P D vwCl ([(ad 0, .inr (5, [.int th, .ref (ad 1), .ref (ad 2), .ref (ad 3), .int sv, .ref (ad 4), .int ln, .int vs, .ref (ad 5), .ref (ad 6), .int rl, .int cm, .int fi, .int se])), (ad 1, .inl (cI, 221, .inl z)), (ad 2, .inl (cI, 221, .inl zs)), (ad 3, .inl (cI, 1768, .inl sd)), (ad 4, .inl (cI, 80, .inl tx)), (ad 5, .inl (cI, 8, .inl ds)), (ad 6, .inl (cI, 8, .inl rg))]) H := hP
  have hD : va_D A ([(ad 0, .inr (5, [.int th, .ref (ad 1), .ref (ad 2), .ref (ad 3), .int sv, .ref (ad 4), .int ln, .int vs, .ref (ad 5), .ref (ad 6), .int rl, .int cm, .int fi, .int se])), (ad 1, .inl (cI, 221, .inl z)), (ad 2, .inl (cI, 221, .inl zs)), (ad 3, .inl (cI, 1768, .inl sd)), (ad 4, .inl (cI, 80, .inl tx)), (ad 5, .inl (cI, 8, .inl ds)), (ad 6, .inl (cI, 8, .inl rg))]) := hD
  have hl : lv_has ls 3 [(0, .ref (ad 0)), (1, .int p0), (2, .int (nI w9))] := hl
  have iX5 : ∀ w ∈ u_ws RX5 TX5 14, w ∈ wsX5_told := by decide +kernel
  have f32 := hts (.fieldLink RX5 32 "LockManagerModel" "thrown" "I") (by decide +kernel)
  refine lv_aload_n hx hb dX5_told_0 rfl (lv_at hl 0 rfl) ?_
  refine lv_iload_n hx hb dX5_told_1 rfl (lv_at hl 1 rfl) ?_
  refine call_s (X := [(ad 0, .inr (5, [.int th, .ref (ad 1), .ref (ad 2), .ref (ad 3), .int sv, .ref (ad 4), .int ln, .int vs, .ref (ad 5), .ref (ad 6), .int rl, .int cm, .int fi, .int se])), (ad 1, .inl (cI, 221, .inl z)), (ad 2, .inl (cI, 221, .inl zs)), (ad 3, .inl (cI, 1768, .inl sd)), (ad 4, .inl (cI, 80, .inl tx)), (ad 5, .inl (cI, 8, .inl ds)), (ad 6, .inl (cI, 8, .inl rg))]) (Wc := []) (Z := []) (As := [.int p0]) (rest := [.ref (ad 0)]) ⟨hx, hb, hml, hown, hts⟩ (c_X5_isTransaction l D cI cT p0) (va_cwS 1 hts gX5_told_X5_isTransaction rfl rfl rfl (by decide +kernel) ⟨Nat.le_of_ble_eq_true rfl, Nat.le_of_ble_eq_true rfl⟩) hK (P_nilr hP) (D_nilr hD) hS hA (fun _ => rfl) rfl hl.1 rfl (Nat.le_of_ble_eq_true rfl) ⟨by decide, by decide⟩ dX5_told_2 (fun rv _ H locs hp hP hD hS => ?_)
  obtain rfl := hp
  have hP := P_nil2 hP
  have hD := D_nil2 hD
  have hP : va_P D vwCl ([(ad 0, .inr (5, [.int th, .ref (ad 1), .ref (ad 2), .ref (ad 3), .int sv, .ref (ad 4), .int ln, .int vs, .ref (ad 5), .ref (ad 6), .int rl, .int cm, .int fi, .int se])), (ad 1, .inl (cI, 221, .inl z)), (ad 2, .inl (cI, 221, .inl zs)), (ad 3, .inl (cI, 1768, .inl sd)), (ad 4, .inl (cI, 80, .inl tx)), (ad 5, .inl (cI, 8, .inl ds)), (ad 6, .inl (cI, 8, .inl rg))]) H := hP
  have hD : va_D A ([(ad 0, .inr (5, [.int th, .ref (ad 1), .ref (ad 2), .ref (ad 3), .int sv, .ref (ad 4), .int ln, .int vs, .ref (ad 5), .ref (ad 6), .int rl, .int cm, .int fi, .int se])), (ad 1, .inl (cI, 221, .inl z)), (ad 2, .inl (cI, 221, .inl zs)), (ad 3, .inl (cI, 1768, .inl sd)), (ad 4, .inl (cI, 80, .inl tx)), (ad 5, .inl (cI, 8, .inl ds)), (ad 6, .inl (cI, 8, .inl rg))]) := hD
  refine lv_if_eq (tgt := 12) hx hb dX5_told_5 (by decide) (fun h_1 => ?_) (fun h_1 => ?_)
  · have h_1 := (nI_eq (a := ((inI p0 8).toNat)) (b := 0) (by first | omega | exact bits_lt31 _ | exact bitN_lt _ _ | exact bool_lt _ | exact and_lt31 _ _ _ _ | exact Nat.lt_of_le_of_lt (dst_lt _ _ _ (by omega) _) (by decide) | exact Nat.lt_of_le_of_lt (nrB_le _ _ _ (by omega)).2 (by decide) | decide) (by first | omega | exact bits_lt31 _ | exact bitN_lt _ _ | exact bool_lt _ | exact and_lt31 _ _ _ _ | exact Nat.lt_of_le_of_lt (dst_lt _ _ _ (by omega) _) (by decide) | exact Nat.lt_of_le_of_lt (nrB_le _ _ _ (by omega)).2 (by decide) | decide)).mp h_1
    have h_1 := tn_f h_1
    refine lv_iconst (v := (nI 1)) hx hb dX5_told_12 (by decide) ?_
    refine va_put (D := D) (ci := 5) (v := .int (nI 1)) (ty := .int) (C := RX5) (T := TX5) (N := 14) hx hb hts iX5 tyX5 tyX5_ok nmX5 hown hK hP hD hS 0 rfl rfl 0 (by decide) f32 (fun _ h9 => h9) rfl (by decide +kernel) rfl rfl (Nat.le_of_ble_eq_true rfl) dX5_told_13 (fun H locs hP hD hS => ?_)
    have hP : va_P D vwCl ([(ad 0, .inr (5, [.int (nI 1), .ref (ad 1), .ref (ad 2), .ref (ad 3), .int sv, .ref (ad 4), .int ln, .int vs, .ref (ad 5), .ref (ad 6), .int rl, .int cm, .int fi, .int se])), (ad 1, .inl (cI, 221, .inl z)), (ad 2, .inl (cI, 221, .inl zs)), (ad 3, .inl (cI, 1768, .inl sd)), (ad 4, .inl (cI, 80, .inl tx)), (ad 5, .inl (cI, 8, .inl ds)), (ad 6, .inl (cI, 8, .inl rg))]) H := hP
    have hD : va_D A ([(ad 0, .inr (5, [.int (nI 1), .ref (ad 1), .ref (ad 2), .ref (ad 3), .int sv, .ref (ad 4), .int ln, .int vs, .ref (ad 5), .ref (ad 6), .int rl, .int cm, .int fi, .int se])), (ad 1, .inl (cI, 221, .inl z)), (ad 2, .inl (cI, 221, .inl zs)), (ad 3, .inl (cI, 1768, .inl sd)), (ad 4, .inl (cI, 80, .inl tx)), (ad 5, .inl (cI, 8, .inl ds)), (ad 6, .inl (cI, 8, .inl rg))]) := hD
    refine lv_aload_n hx hb dX5_told_16 rfl (lv_at hl 0 rfl) ?_
    refine va_get (D := D) (ci := 5) (v := .int (nI 1)) (C := RX5) (T := TX5) (N := 14) hx hb hts iX5 hown hK hP 0 rfl rfl 0 (by decide) f32 (fun _ h9 => h9) rfl dX5_told_17 ?_
    refine lv_if_le (tgt := 27) hx hb dX5_told_20 (by decide) (fun h => absurd h (by decide)) (fun _ => ?_)
    refine lv_iconst (v := (nI 0)) hx hb dX5_told_23 (by decide) ?_
    refine lv_goto (tgt := 33) hx hb dX5_told_24 (by decide) ?_
    exact ret_i (u := ()) hQ hx hb hrt hlk hS dX5_told_33 (by rw [tW, if_pos h_1]; exact hP) (by rw [if_pos h_1]; rfl)
  · have h_1 := mt (nI_eq (a := ((inI p0 8).toNat)) (b := 0) (by first | omega | exact bits_lt31 _ | exact bitN_lt _ _ | exact bool_lt _ | exact and_lt31 _ _ _ _ | exact Nat.lt_of_le_of_lt (dst_lt _ _ _ (by omega) _) (by decide) | exact Nat.lt_of_le_of_lt (nrB_le _ _ _ (by omega)).2 (by decide) | decide) (by first | omega | exact bits_lt31 _ | exact bitN_lt _ _ | exact bool_lt _ | exact and_lt31 _ _ _ _ | exact Nat.lt_of_le_of_lt (dst_lt _ _ _ (by omega) _) (by decide) | exact Nat.lt_of_le_of_lt (nrB_le _ _ _ (by omega)).2 (by decide) | decide)).mpr h_1
    have h_1 := tn_y h_1
    obtain ⟨t9, ht9, et9⟩ := inI_t (by decide) h_1
    rw [et9] at hl
    refine lv_iconst (v := (nI 0)) hx hb dX5_told_8 (by decide) ?_
    refine lv_goto (tgt := 13) hx hb dX5_told_9 (by decide) ?_
    refine va_put (D := D) (ci := 5) (v := .int (nI 0)) (ty := .int) (C := RX5) (T := TX5) (N := 14) hx hb hts iX5 tyX5 tyX5_ok nmX5 hown hK hP hD hS 0 rfl rfl 0 (by decide) f32 (fun _ h9 => h9) rfl (by decide +kernel) rfl rfl (Nat.le_of_ble_eq_true rfl) dX5_told_13 (fun H locs hP hD hS => ?_)
    have hP : va_P D vwCl ([(ad 0, .inr (5, [.int (nI 0), .ref (ad 1), .ref (ad 2), .ref (ad 3), .int sv, .ref (ad 4), .int ln, .int vs, .ref (ad 5), .ref (ad 6), .int rl, .int cm, .int fi, .int se])), (ad 1, .inl (cI, 221, .inl z)), (ad 2, .inl (cI, 221, .inl zs)), (ad 3, .inl (cI, 1768, .inl sd)), (ad 4, .inl (cI, 80, .inl tx)), (ad 5, .inl (cI, 8, .inl ds)), (ad 6, .inl (cI, 8, .inl rg))]) H := hP
    have hD : va_D A ([(ad 0, .inr (5, [.int (nI 0), .ref (ad 1), .ref (ad 2), .ref (ad 3), .int sv, .ref (ad 4), .int ln, .int vs, .ref (ad 5), .ref (ad 6), .int rl, .int cm, .int fi, .int se])), (ad 1, .inl (cI, 221, .inl z)), (ad 2, .inl (cI, 221, .inl zs)), (ad 3, .inl (cI, 1768, .inl sd)), (ad 4, .inl (cI, 80, .inl tx)), (ad 5, .inl (cI, 8, .inl ds)), (ad 6, .inl (cI, 8, .inl rg))]) := hD
    refine lv_aload_n hx hb dX5_told_16 rfl (lv_at hl 0 rfl) ?_
    refine va_get (D := D) (ci := 5) (v := .int (nI 0)) (C := RX5) (T := TX5) (N := 14) hx hb hts iX5 hown hK hP 0 rfl rfl 0 (by decide) f32 (fun _ h9 => h9) rfl dX5_told_17 ?_
    refine lv_if_le (tgt := 27) hx hb dX5_told_20 (by decide) (fun _ => ?_) (fun h => absurd (by decide) h)
    refine lv_aload_n hx hb dX5_told_27 rfl (lv_at hl 0 rfl) ?_
    refine lv_iload_n hx hb dX5_told_28 rfl (lv_at hl 1 rfl) ?_
    refine lv_iload_n hx hb dX5_told_29 rfl (lv_at hl 2 rfl) ?_
    refine call_i (X := []) (Z := []) (As := [.int (nI t9), .int (nI w9)]) (rest := []) ⟨hx, hb, hml, hown, hts⟩ (c_X5_of l D cI cT ad (nI 0) sv ln vs rl cm fi se z zs sd tx ds rg t9 w9 (by omega)) (cwV 2 hts gX5_told_X5_of rfl rfl rfl (by decide +kernel) ⟨Nat.le_of_ble_eq_true rfl, Nat.le_of_ble_eq_true rfl⟩) hK hP hD hS hA (va_recv hK hP (ci := 5) (q0 := 0) rfl rfl) (fun _ => rfl) rfl hl.1 rfl (Nat.le_of_ble_eq_true rfl) ⟨by decide, by decide⟩ dX5_told_30 (fun rv _ H locs hp hP hD hS => ?_)
    obtain rfl := hp
    have hP : va_P D vwCl ([(ad 0, .inr (5, [.int (nI 0), .ref (ad 1), .ref (ad 2), .ref (ad 3), .int sv, .ref (ad 4), .int ln, .int vs, .ref (ad 5), .ref (ad 6), .int rl, .int cm, .int fi, .int se])), (ad 1, .inl (cI, 221, .inl z)), (ad 2, .inl (cI, 221, .inl zs)), (ad 3, .inl (cI, 1768, .inl sd)), (ad 4, .inl (cI, 80, .inl tx)), (ad 5, .inl (cI, 8, .inl ds)), (ad 6, .inl (cI, 8, .inl rg))]) H := hP
    have hD : va_D A ([(ad 0, .inr (5, [.int (nI 0), .ref (ad 1), .ref (ad 2), .ref (ad 3), .int sv, .ref (ad 4), .int ln, .int vs, .ref (ad 5), .ref (ad 6), .int rl, .int cm, .int fi, .int se])), (ad 1, .inl (cI, 221, .inl z)), (ad 2, .inl (cI, 221, .inl zs)), (ad 3, .inl (cI, 1768, .inl sd)), (ad 4, .inl (cI, 80, .inl tx)), (ad 5, .inl (cI, 8, .inl ds)), (ad 6, .inl (cI, 8, .inl rg))]) := hD
    exact ret_i (u := ()) hQ hx hb hrt hlk hS dX5_told_33 (by rw [tW, if_neg (by rw [h_1]; decide)]; exact hP) (by rw [if_neg (by rw [h_1]; decide), et9, ix8 ht9])

abbrev rX5_state : Room := { frames := 3, cells := 0, slots := 0, locals := 64 }
set_option maxHeartbeats 1000000 in
set_option maxRecDepth 100000 in
theorem c_X5_state (l : Launch) (D : va_G) (cI cT : ClassId) (ad : Nat → Nat) (th sv ln vs rl cm fi se : Int32) (z zs sd tx ds rg : Nat → Int32) (F : FF) (Q0 : QQ) (HS : List (FF × QQ)) (sg : Nat → Nat) (len n : Nat) (p0 : Int32) (hL : LZ n (F, Q0, HS, sg, len) z sd tx) (hn : n + 80 < 2 ^ 31) : CN l D cI cT yX5_state wsX5_state rX5_state [.ref (ad 0), .int p0] (refW cI ad th (nI HS.length) (nI len) vs rl cm fi se z zs sd tx ds rg) (S := JR) (fun v u => v = (opT (F, Q0, HS, sg, len) p0 (stI F)).2.1 ∧ u.1 = nI (opT (F, Q0, HS, sg, len) p0 (stI F)).1 ∧ LZu (n + 80) (opT (F, Q0, HS, sg, len) p0 (stI F)).2.2 u) (fun u => rfW cI ad (opT (F, Q0, HS, sg, len) p0 (stI F)).2.2 u) := by
  refine CN.of (cc := cX5_state) (maxL := 2) (ret := (some .int)) (by decide) rfl (Nat.le_of_ble_eq_true rfl) ?_
  intro p e s m args below meth c A Q hQ B hA H locs hP hK hD hS ls hl
  obtain ⟨hx, hb, hml, hrt, hts, hown, hlk⟩ := B
  have hP : va_P D vwCl ([(ad 0, .inr (5, [.int th, .ref (ad 1), .ref (ad 2), .ref (ad 3), .int (nI HS.length), .ref (ad 4), .int (nI len), .int vs, .ref (ad 5), .ref (ad 6), .int rl, .int cm, .int fi, .int se])), (ad 1, .inl (cI, 221, .inl z)), (ad 2, .inl (cI, 221, .inl zs)), (ad 3, .inl (cI, 1768, .inl sd)), (ad 4, .inl (cI, 80, .inl tx)), (ad 5, .inl (cI, 8, .inl ds)), (ad 6, .inl (cI, 8, .inl rg))]) H := hP
  have hD : va_D A ([(ad 0, .inr (5, [.int th, .ref (ad 1), .ref (ad 2), .ref (ad 3), .int (nI HS.length), .ref (ad 4), .int (nI len), .int vs, .ref (ad 5), .ref (ad 6), .int rl, .int cm, .int fi, .int se])), (ad 1, .inl (cI, 221, .inl z)), (ad 2, .inl (cI, 221, .inl zs)), (ad 3, .inl (cI, 1768, .inl sd)), (ad 4, .inl (cI, 80, .inl tx)), (ad 5, .inl (cI, 8, .inl ds)), (ad 6, .inl (cI, 8, .inl rg))]) := hD
  have hl : lv_has ls 2 [(0, .ref (ad 0)), (1, .int p0)] := hl
  obtain ⟨hJ, hC, hZ, hl8, hH, hHS, hlen, htx, hsg⟩ := hL
  dsimp only at hJ hC hZ hl8 hH hHS hlen htx hsg
  have hL := LZ_mk hJ hC hZ hl8 hH hHS hlen htx hsg
  have hB := hC.jb
  have hn8 := hC.n8 (by omega)
  have hHJ : ∀ q ∈ HS, JJ q.1 q.2 := fun q hq => (hHS q hq).1
  refine lv_aload_n hx hb dX5_state_0 rfl (lv_at hl 0 rfl) ?_
  refine lv_iload_n hx hb dX5_state_1 rfl (lv_at hl 1 rfl) ?_
  refine lv_iconst (v := (nI 0)) hx hb dX5_state_2 (by decide) ?_
  refine call_i (X := []) (Z := []) (As := [.int p0, .int (nI 0)]) (rest := []) ⟨hx, hb, hml, hown, hts⟩ (c_X5_told l D cI cT ad th (nI HS.length) (nI len) vs rl cm fi se z zs sd tx ds rg p0 0 (by omega)) (cwV 2 hts gX5_state_X5_told rfl rfl rfl (by decide +kernel) ⟨Nat.le_of_ble_eq_true rfl, Nat.le_of_ble_eq_true rfl⟩) hK hP hD hS hA (va_recv hK hP (ci := 5) (q0 := 0) rfl rfl) (fun _ => adr_ref.trans adr_ref.symm) rfl hl.1 rfl (Nat.le_of_ble_eq_true rfl) ⟨by decide, by decide⟩ dX5_state_3 (fun rv _ H locs hp hP hD hS => ?_)
  obtain rfl := hp
  have hP : va_P D vwCl ([(ad 0, .inr (5, [.int (nI (tW p0 8)), .ref (ad 1), .ref (ad 2), .ref (ad 3), .int (nI HS.length), .ref (ad 4), .int (nI len), .int vs, .ref (ad 5), .ref (ad 6), .int rl, .int cm, .int fi, .int se])), (ad 1, .inl (cI, 221, .inl z)), (ad 2, .inl (cI, 221, .inl zs)), (ad 3, .inl (cI, 1768, .inl sd)), (ad 4, .inl (cI, 80, .inl tx)), (ad 5, .inl (cI, 8, .inl ds)), (ad 6, .inl (cI, 8, .inl rg))]) H := hP
  have hD : va_D A ([(ad 0, .inr (5, [.int (nI (tW p0 8)), .ref (ad 1), .ref (ad 2), .ref (ad 3), .int (nI HS.length), .ref (ad 4), .int (nI len), .int vs, .ref (ad 5), .ref (ad 6), .int rl, .int cm, .int fi, .int se])), (ad 1, .inl (cI, 221, .inl z)), (ad 2, .inl (cI, 221, .inl zs)), (ad 3, .inl (cI, 1768, .inl sd)), (ad 4, .inl (cI, 80, .inl tx)), (ad 5, .inl (cI, 8, .inl ds)), (ad 6, .inl (cI, 8, .inl rg))]) := hD
  have ho := told_ok (s := (F, Q0, HS, sg, len)) (p := p0) (w := 0) (f := stI F) (fun t ht => RZ_0 hZ ht)
  exact ret_i (u := ((nI (tW p0 8)), vs, rl, cm, fi, se, z, zs, sd, tx, ds, rg)) hQ hx hb hrt hlk hS dX5_state_6 (by rw [ho.2.2]; exact hP) ⟨ho.1, ho.2.1, by rw [ho.2.2]; exact (LZ.mono hL (by omega))⟩

abbrev rX5_workOf : Room := { frames := 3, cells := 0, slots := 0, locals := 64 }
set_option maxHeartbeats 1000000 in
set_option maxRecDepth 100000 in
theorem c_X5_workOf (l : Launch) (D : va_G) (cI cT : ClassId) (ad : Nat → Nat) (th sv ln vs rl cm fi se : Int32) (z zs sd tx ds rg : Nat → Int32) (F : FF) (Q0 : QQ) (HS : List (FF × QQ)) (sg : Nat → Nat) (len n : Nat) (p0 : Int32) (hL : LZ n (F, Q0, HS, sg, len) z sd tx) (hn : n + 80 < 2 ^ 31) : CN l D cI cT yX5_workOf wsX5_workOf rX5_workOf [.ref (ad 0), .int p0] (refW cI ad th (nI HS.length) (nI len) vs rl cm fi se z zs sd tx ds rg) (S := JR) (fun v u => v = (opT (F, Q0, HS, sg, len) p0 (F 1)).2.1 ∧ u.1 = nI (opT (F, Q0, HS, sg, len) p0 (F 1)).1 ∧ LZu (n + 80) (opT (F, Q0, HS, sg, len) p0 (F 1)).2.2 u) (fun u => rfW cI ad (opT (F, Q0, HS, sg, len) p0 (F 1)).2.2 u) := by
  refine CN.of (cc := cX5_workOf) (maxL := 2) (ret := (some .int)) (by decide) rfl (Nat.le_of_ble_eq_true rfl) ?_
  intro p e s m args below meth c A Q hQ B hA H locs hP hK hD hS ls hl
  obtain ⟨hx, hb, hml, hrt, hts, hown, hlk⟩ := B
  have hP : va_P D vwCl ([(ad 0, .inr (5, [.int th, .ref (ad 1), .ref (ad 2), .ref (ad 3), .int (nI HS.length), .ref (ad 4), .int (nI len), .int vs, .ref (ad 5), .ref (ad 6), .int rl, .int cm, .int fi, .int se])), (ad 1, .inl (cI, 221, .inl z)), (ad 2, .inl (cI, 221, .inl zs)), (ad 3, .inl (cI, 1768, .inl sd)), (ad 4, .inl (cI, 80, .inl tx)), (ad 5, .inl (cI, 8, .inl ds)), (ad 6, .inl (cI, 8, .inl rg))]) H := hP
  have hD : va_D A ([(ad 0, .inr (5, [.int th, .ref (ad 1), .ref (ad 2), .ref (ad 3), .int (nI HS.length), .ref (ad 4), .int (nI len), .int vs, .ref (ad 5), .ref (ad 6), .int rl, .int cm, .int fi, .int se])), (ad 1, .inl (cI, 221, .inl z)), (ad 2, .inl (cI, 221, .inl zs)), (ad 3, .inl (cI, 1768, .inl sd)), (ad 4, .inl (cI, 80, .inl tx)), (ad 5, .inl (cI, 8, .inl ds)), (ad 6, .inl (cI, 8, .inl rg))]) := hD
  have hl : lv_has ls 2 [(0, .ref (ad 0)), (1, .int p0)] := hl
  obtain ⟨hJ, hC, hZ, hl8, hH, hHS, hlen, htx, hsg⟩ := hL
  dsimp only at hJ hC hZ hl8 hH hHS hlen htx hsg
  have hL := LZ_mk hJ hC hZ hl8 hH hHS hlen htx hsg
  have hB := hC.jb
  have hn8 := hC.n8 (by omega)
  have hHJ : ∀ q ∈ HS, JJ q.1 q.2 := fun q hq => (hHS q hq).1
  refine lv_aload_n hx hb dX5_workOf_0 rfl (lv_at hl 0 rfl) ?_
  refine lv_iload_n hx hb dX5_workOf_1 rfl (lv_at hl 1 rfl) ?_
  refine lv_iconst (v := (nI 1)) hx hb dX5_workOf_2 (by decide) ?_
  refine call_i (X := []) (Z := []) (As := [.int p0, .int (nI 1)]) (rest := []) ⟨hx, hb, hml, hown, hts⟩ (c_X5_told l D cI cT ad th (nI HS.length) (nI len) vs rl cm fi se z zs sd tx ds rg p0 1 (by omega)) (cwV 2 hts gX5_workOf_X5_told rfl rfl rfl (by decide +kernel) ⟨Nat.le_of_ble_eq_true rfl, Nat.le_of_ble_eq_true rfl⟩) hK hP hD hS hA (va_recv hK hP (ci := 5) (q0 := 0) rfl rfl) (fun _ => adr_ref.trans adr_ref.symm) rfl hl.1 rfl (Nat.le_of_ble_eq_true rfl) ⟨by decide, by decide⟩ dX5_workOf_3 (fun rv _ H locs hp hP hD hS => ?_)
  obtain rfl := hp
  have hP : va_P D vwCl ([(ad 0, .inr (5, [.int (nI (tW p0 8)), .ref (ad 1), .ref (ad 2), .ref (ad 3), .int (nI HS.length), .ref (ad 4), .int (nI len), .int vs, .ref (ad 5), .ref (ad 6), .int rl, .int cm, .int fi, .int se])), (ad 1, .inl (cI, 221, .inl z)), (ad 2, .inl (cI, 221, .inl zs)), (ad 3, .inl (cI, 1768, .inl sd)), (ad 4, .inl (cI, 80, .inl tx)), (ad 5, .inl (cI, 8, .inl ds)), (ad 6, .inl (cI, 8, .inl rg))]) H := hP
  have hD : va_D A ([(ad 0, .inr (5, [.int (nI (tW p0 8)), .ref (ad 1), .ref (ad 2), .ref (ad 3), .int (nI HS.length), .ref (ad 4), .int (nI len), .int vs, .ref (ad 5), .ref (ad 6), .int rl, .int cm, .int fi, .int se])), (ad 1, .inl (cI, 221, .inl z)), (ad 2, .inl (cI, 221, .inl zs)), (ad 3, .inl (cI, 1768, .inl sd)), (ad 4, .inl (cI, 80, .inl tx)), (ad 5, .inl (cI, 8, .inl ds)), (ad 6, .inl (cI, 8, .inl rg))]) := hD
  have ho := told_ok (s := (F, Q0, HS, sg, len)) (p := p0) (w := 1) (f := F 1) (fun t ht => RZ_1 hZ ht)
  exact ret_i (u := ((nI (tW p0 8)), vs, rl, cm, fi, se, z, zs, sd, tx, ds, rg)) hQ hx hb hrt hlk hS dX5_workOf_6 (by rw [ho.2.2]; exact hP) ⟨ho.1, ho.2.1, by rw [ho.2.2]; exact (LZ.mono hL (by omega))⟩

abbrev rX5_abortsOf : Room := { frames := 3, cells := 0, slots := 0, locals := 64 }
set_option maxHeartbeats 1000000 in
set_option maxRecDepth 100000 in
theorem c_X5_abortsOf (l : Launch) (D : va_G) (cI cT : ClassId) (ad : Nat → Nat) (th sv ln vs rl cm fi se : Int32) (z zs sd tx ds rg : Nat → Int32) (F : FF) (Q0 : QQ) (HS : List (FF × QQ)) (sg : Nat → Nat) (len n : Nat) (p0 : Int32) (hL : LZ n (F, Q0, HS, sg, len) z sd tx) (hn : n + 80 < 2 ^ 31) : CN l D cI cT yX5_abortsOf wsX5_abortsOf rX5_abortsOf [.ref (ad 0), .int p0] (refW cI ad th (nI HS.length) (nI len) vs rl cm fi se z zs sd tx ds rg) (S := JR) (fun v u => v = (opT (F, Q0, HS, sg, len) p0 (F 2)).2.1 ∧ u.1 = nI (opT (F, Q0, HS, sg, len) p0 (F 2)).1 ∧ LZu (n + 80) (opT (F, Q0, HS, sg, len) p0 (F 2)).2.2 u) (fun u => rfW cI ad (opT (F, Q0, HS, sg, len) p0 (F 2)).2.2 u) := by
  refine CN.of (cc := cX5_abortsOf) (maxL := 2) (ret := (some .int)) (by decide) rfl (Nat.le_of_ble_eq_true rfl) ?_
  intro p e s m args below meth c A Q hQ B hA H locs hP hK hD hS ls hl
  obtain ⟨hx, hb, hml, hrt, hts, hown, hlk⟩ := B
  have hP : va_P D vwCl ([(ad 0, .inr (5, [.int th, .ref (ad 1), .ref (ad 2), .ref (ad 3), .int (nI HS.length), .ref (ad 4), .int (nI len), .int vs, .ref (ad 5), .ref (ad 6), .int rl, .int cm, .int fi, .int se])), (ad 1, .inl (cI, 221, .inl z)), (ad 2, .inl (cI, 221, .inl zs)), (ad 3, .inl (cI, 1768, .inl sd)), (ad 4, .inl (cI, 80, .inl tx)), (ad 5, .inl (cI, 8, .inl ds)), (ad 6, .inl (cI, 8, .inl rg))]) H := hP
  have hD : va_D A ([(ad 0, .inr (5, [.int th, .ref (ad 1), .ref (ad 2), .ref (ad 3), .int (nI HS.length), .ref (ad 4), .int (nI len), .int vs, .ref (ad 5), .ref (ad 6), .int rl, .int cm, .int fi, .int se])), (ad 1, .inl (cI, 221, .inl z)), (ad 2, .inl (cI, 221, .inl zs)), (ad 3, .inl (cI, 1768, .inl sd)), (ad 4, .inl (cI, 80, .inl tx)), (ad 5, .inl (cI, 8, .inl ds)), (ad 6, .inl (cI, 8, .inl rg))]) := hD
  have hl : lv_has ls 2 [(0, .ref (ad 0)), (1, .int p0)] := hl
  obtain ⟨hJ, hC, hZ, hl8, hH, hHS, hlen, htx, hsg⟩ := hL
  dsimp only at hJ hC hZ hl8 hH hHS hlen htx hsg
  have hL := LZ_mk hJ hC hZ hl8 hH hHS hlen htx hsg
  have hB := hC.jb
  have hn8 := hC.n8 (by omega)
  have hHJ : ∀ q ∈ HS, JJ q.1 q.2 := fun q hq => (hHS q hq).1
  refine lv_aload_n hx hb dX5_abortsOf_0 rfl (lv_at hl 0 rfl) ?_
  refine lv_iload_n hx hb dX5_abortsOf_1 rfl (lv_at hl 1 rfl) ?_
  refine lv_iconst (v := (nI 2)) hx hb dX5_abortsOf_2 (by decide) ?_
  refine call_i (X := []) (Z := []) (As := [.int p0, .int (nI 2)]) (rest := []) ⟨hx, hb, hml, hown, hts⟩ (c_X5_told l D cI cT ad th (nI HS.length) (nI len) vs rl cm fi se z zs sd tx ds rg p0 2 (by omega)) (cwV 2 hts gX5_abortsOf_X5_told rfl rfl rfl (by decide +kernel) ⟨Nat.le_of_ble_eq_true rfl, Nat.le_of_ble_eq_true rfl⟩) hK hP hD hS hA (va_recv hK hP (ci := 5) (q0 := 0) rfl rfl) (fun _ => adr_ref.trans adr_ref.symm) rfl hl.1 rfl (Nat.le_of_ble_eq_true rfl) ⟨by decide, by decide⟩ dX5_abortsOf_3 (fun rv _ H locs hp hP hD hS => ?_)
  obtain rfl := hp
  have hP : va_P D vwCl ([(ad 0, .inr (5, [.int (nI (tW p0 8)), .ref (ad 1), .ref (ad 2), .ref (ad 3), .int (nI HS.length), .ref (ad 4), .int (nI len), .int vs, .ref (ad 5), .ref (ad 6), .int rl, .int cm, .int fi, .int se])), (ad 1, .inl (cI, 221, .inl z)), (ad 2, .inl (cI, 221, .inl zs)), (ad 3, .inl (cI, 1768, .inl sd)), (ad 4, .inl (cI, 80, .inl tx)), (ad 5, .inl (cI, 8, .inl ds)), (ad 6, .inl (cI, 8, .inl rg))]) H := hP
  have hD : va_D A ([(ad 0, .inr (5, [.int (nI (tW p0 8)), .ref (ad 1), .ref (ad 2), .ref (ad 3), .int (nI HS.length), .ref (ad 4), .int (nI len), .int vs, .ref (ad 5), .ref (ad 6), .int rl, .int cm, .int fi, .int se])), (ad 1, .inl (cI, 221, .inl z)), (ad 2, .inl (cI, 221, .inl zs)), (ad 3, .inl (cI, 1768, .inl sd)), (ad 4, .inl (cI, 80, .inl tx)), (ad 5, .inl (cI, 8, .inl ds)), (ad 6, .inl (cI, 8, .inl rg))]) := hD
  have ho := told_ok (s := (F, Q0, HS, sg, len)) (p := p0) (w := 2) (f := F 2) (fun t ht => RZ_2 hZ ht)
  exact ret_i (u := ((nI (tW p0 8)), vs, rl, cm, fi, se, z, zs, sd, tx, ds, rg)) hQ hx hb hrt hlk hS dX5_abortsOf_6 (by rw [ho.2.2]; exact hP) ⟨ho.1, ho.2.1, by rw [ho.2.2]; exact (LZ.mono hL (by omega))⟩

abbrev rX5_birthOf : Room := { frames := 3, cells := 0, slots := 0, locals := 64 }
set_option maxHeartbeats 1000000 in
set_option maxRecDepth 100000 in
theorem c_X5_birthOf (l : Launch) (D : va_G) (cI cT : ClassId) (ad : Nat → Nat) (th sv ln vs rl cm fi se : Int32) (z zs sd tx ds rg : Nat → Int32) (F : FF) (Q0 : QQ) (HS : List (FF × QQ)) (sg : Nat → Nat) (len n : Nat) (p0 : Int32) (hL : LZ n (F, Q0, HS, sg, len) z sd tx) (hn : n + 80 < 2 ^ 31) : CN l D cI cT yX5_birthOf wsX5_birthOf rX5_birthOf [.ref (ad 0), .int p0] (refW cI ad th (nI HS.length) (nI len) vs rl cm fi se z zs sd tx ds rg) (S := JR) (fun v u => v = (opT (F, Q0, HS, sg, len) p0 (F 0)).2.1 ∧ u.1 = nI (opT (F, Q0, HS, sg, len) p0 (F 0)).1 ∧ LZu (n + 80) (opT (F, Q0, HS, sg, len) p0 (F 0)).2.2 u) (fun u => rfW cI ad (opT (F, Q0, HS, sg, len) p0 (F 0)).2.2 u) := by
  refine CN.of (cc := cX5_birthOf) (maxL := 2) (ret := (some .int)) (by decide) rfl (Nat.le_of_ble_eq_true rfl) ?_
  intro p e s m args below meth c A Q hQ B hA H locs hP hK hD hS ls hl
  obtain ⟨hx, hb, hml, hrt, hts, hown, hlk⟩ := B
  have hP : va_P D vwCl ([(ad 0, .inr (5, [.int th, .ref (ad 1), .ref (ad 2), .ref (ad 3), .int (nI HS.length), .ref (ad 4), .int (nI len), .int vs, .ref (ad 5), .ref (ad 6), .int rl, .int cm, .int fi, .int se])), (ad 1, .inl (cI, 221, .inl z)), (ad 2, .inl (cI, 221, .inl zs)), (ad 3, .inl (cI, 1768, .inl sd)), (ad 4, .inl (cI, 80, .inl tx)), (ad 5, .inl (cI, 8, .inl ds)), (ad 6, .inl (cI, 8, .inl rg))]) H := hP
  have hD : va_D A ([(ad 0, .inr (5, [.int th, .ref (ad 1), .ref (ad 2), .ref (ad 3), .int (nI HS.length), .ref (ad 4), .int (nI len), .int vs, .ref (ad 5), .ref (ad 6), .int rl, .int cm, .int fi, .int se])), (ad 1, .inl (cI, 221, .inl z)), (ad 2, .inl (cI, 221, .inl zs)), (ad 3, .inl (cI, 1768, .inl sd)), (ad 4, .inl (cI, 80, .inl tx)), (ad 5, .inl (cI, 8, .inl ds)), (ad 6, .inl (cI, 8, .inl rg))]) := hD
  have hl : lv_has ls 2 [(0, .ref (ad 0)), (1, .int p0)] := hl
  obtain ⟨hJ, hC, hZ, hl8, hH, hHS, hlen, htx, hsg⟩ := hL
  dsimp only at hJ hC hZ hl8 hH hHS hlen htx hsg
  have hL := LZ_mk hJ hC hZ hl8 hH hHS hlen htx hsg
  have hB := hC.jb
  have hn8 := hC.n8 (by omega)
  have hHJ : ∀ q ∈ HS, JJ q.1 q.2 := fun q hq => (hHS q hq).1
  refine lv_aload_n hx hb dX5_birthOf_0 rfl (lv_at hl 0 rfl) ?_
  refine lv_iload_n hx hb dX5_birthOf_1 rfl (lv_at hl 1 rfl) ?_
  refine lv_iconst (v := (nI 3)) hx hb dX5_birthOf_2 (by decide) ?_
  refine call_i (X := []) (Z := []) (As := [.int p0, .int (nI 3)]) (rest := []) ⟨hx, hb, hml, hown, hts⟩ (c_X5_told l D cI cT ad th (nI HS.length) (nI len) vs rl cm fi se z zs sd tx ds rg p0 3 (by omega)) (cwV 2 hts gX5_birthOf_X5_told rfl rfl rfl (by decide +kernel) ⟨Nat.le_of_ble_eq_true rfl, Nat.le_of_ble_eq_true rfl⟩) hK hP hD hS hA (va_recv hK hP (ci := 5) (q0 := 0) rfl rfl) (fun _ => adr_ref.trans adr_ref.symm) rfl hl.1 rfl (Nat.le_of_ble_eq_true rfl) ⟨by decide, by decide⟩ dX5_birthOf_3 (fun rv _ H locs hp hP hD hS => ?_)
  obtain rfl := hp
  have hP : va_P D vwCl ([(ad 0, .inr (5, [.int (nI (tW p0 8)), .ref (ad 1), .ref (ad 2), .ref (ad 3), .int (nI HS.length), .ref (ad 4), .int (nI len), .int vs, .ref (ad 5), .ref (ad 6), .int rl, .int cm, .int fi, .int se])), (ad 1, .inl (cI, 221, .inl z)), (ad 2, .inl (cI, 221, .inl zs)), (ad 3, .inl (cI, 1768, .inl sd)), (ad 4, .inl (cI, 80, .inl tx)), (ad 5, .inl (cI, 8, .inl ds)), (ad 6, .inl (cI, 8, .inl rg))]) H := hP
  have hD : va_D A ([(ad 0, .inr (5, [.int (nI (tW p0 8)), .ref (ad 1), .ref (ad 2), .ref (ad 3), .int (nI HS.length), .ref (ad 4), .int (nI len), .int vs, .ref (ad 5), .ref (ad 6), .int rl, .int cm, .int fi, .int se])), (ad 1, .inl (cI, 221, .inl z)), (ad 2, .inl (cI, 221, .inl zs)), (ad 3, .inl (cI, 1768, .inl sd)), (ad 4, .inl (cI, 80, .inl tx)), (ad 5, .inl (cI, 8, .inl ds)), (ad 6, .inl (cI, 8, .inl rg))]) := hD
  have ho := told_ok (s := (F, Q0, HS, sg, len)) (p := p0) (w := 3) (f := F 0) (fun t ht => RZ_3 hZ ht)
  exact ret_i (u := ((nI (tW p0 8)), vs, rl, cm, fi, se, z, zs, sd, tx, ds, rg)) hQ hx hb hrt hlk hS dX5_birthOf_6 (by rw [ho.2.2]; exact hP) ⟨ho.1, ho.2.1, by rw [ho.2.2]; exact (LZ.mono hL (by omega))⟩

abbrev rX5_awaited : Room := { frames := 3, cells := 0, slots := 0, locals := 64 }
set_option maxHeartbeats 1000000 in
set_option maxRecDepth 100000 in
theorem c_X5_awaited (l : Launch) (D : va_G) (cI cT : ClassId) (ad : Nat → Nat) (th sv ln vs rl cm fi se : Int32) (z zs sd tx ds rg : Nat → Int32) (F : FF) (Q0 : QQ) (HS : List (FF × QQ)) (sg : Nat → Nat) (len n : Nat) (p0 : Int32) (hL : LZ n (F, Q0, HS, sg, len) z sd tx) (hn : n + 80 < 2 ^ 31) : CN l D cI cT yX5_awaited wsX5_awaited rX5_awaited [.ref (ad 0), .int p0] (refW cI ad th (nI HS.length) (nI len) vs rl cm fi se z zs sd tx ds rg) (S := JR) (fun v u => v = (opT (F, Q0, HS, sg, len) p0 (F 3)).2.1 ∧ u.1 = nI (opT (F, Q0, HS, sg, len) p0 (F 3)).1 ∧ LZu (n + 80) (opT (F, Q0, HS, sg, len) p0 (F 3)).2.2 u) (fun u => rfW cI ad (opT (F, Q0, HS, sg, len) p0 (F 3)).2.2 u) := by
  refine CN.of (cc := cX5_awaited) (maxL := 2) (ret := (some .int)) (by decide) rfl (Nat.le_of_ble_eq_true rfl) ?_
  intro p e s m args below meth c A Q hQ B hA H locs hP hK hD hS ls hl
  obtain ⟨hx, hb, hml, hrt, hts, hown, hlk⟩ := B
  have hP : va_P D vwCl ([(ad 0, .inr (5, [.int th, .ref (ad 1), .ref (ad 2), .ref (ad 3), .int (nI HS.length), .ref (ad 4), .int (nI len), .int vs, .ref (ad 5), .ref (ad 6), .int rl, .int cm, .int fi, .int se])), (ad 1, .inl (cI, 221, .inl z)), (ad 2, .inl (cI, 221, .inl zs)), (ad 3, .inl (cI, 1768, .inl sd)), (ad 4, .inl (cI, 80, .inl tx)), (ad 5, .inl (cI, 8, .inl ds)), (ad 6, .inl (cI, 8, .inl rg))]) H := hP
  have hD : va_D A ([(ad 0, .inr (5, [.int th, .ref (ad 1), .ref (ad 2), .ref (ad 3), .int (nI HS.length), .ref (ad 4), .int (nI len), .int vs, .ref (ad 5), .ref (ad 6), .int rl, .int cm, .int fi, .int se])), (ad 1, .inl (cI, 221, .inl z)), (ad 2, .inl (cI, 221, .inl zs)), (ad 3, .inl (cI, 1768, .inl sd)), (ad 4, .inl (cI, 80, .inl tx)), (ad 5, .inl (cI, 8, .inl ds)), (ad 6, .inl (cI, 8, .inl rg))]) := hD
  have hl : lv_has ls 2 [(0, .ref (ad 0)), (1, .int p0)] := hl
  obtain ⟨hJ, hC, hZ, hl8, hH, hHS, hlen, htx, hsg⟩ := hL
  dsimp only at hJ hC hZ hl8 hH hHS hlen htx hsg
  have hL := LZ_mk hJ hC hZ hl8 hH hHS hlen htx hsg
  have hB := hC.jb
  have hn8 := hC.n8 (by omega)
  have hHJ : ∀ q ∈ HS, JJ q.1 q.2 := fun q hq => (hHS q hq).1
  refine lv_aload_n hx hb dX5_awaited_0 rfl (lv_at hl 0 rfl) ?_
  refine lv_iload_n hx hb dX5_awaited_1 rfl (lv_at hl 1 rfl) ?_
  refine lv_iconst (v := (nI 4)) hx hb dX5_awaited_2 (by decide) ?_
  refine call_i (X := []) (Z := []) (As := [.int p0, .int (nI 4)]) (rest := []) ⟨hx, hb, hml, hown, hts⟩ (c_X5_told l D cI cT ad th (nI HS.length) (nI len) vs rl cm fi se z zs sd tx ds rg p0 4 (by omega)) (cwV 2 hts gX5_awaited_X5_told rfl rfl rfl (by decide +kernel) ⟨Nat.le_of_ble_eq_true rfl, Nat.le_of_ble_eq_true rfl⟩) hK hP hD hS hA (va_recv hK hP (ci := 5) (q0 := 0) rfl rfl) (fun _ => adr_ref.trans adr_ref.symm) rfl hl.1 rfl (Nat.le_of_ble_eq_true rfl) ⟨by decide, by decide⟩ dX5_awaited_3 (fun rv _ H locs hp hP hD hS => ?_)
  obtain rfl := hp
  have hP : va_P D vwCl ([(ad 0, .inr (5, [.int (nI (tW p0 8)), .ref (ad 1), .ref (ad 2), .ref (ad 3), .int (nI HS.length), .ref (ad 4), .int (nI len), .int vs, .ref (ad 5), .ref (ad 6), .int rl, .int cm, .int fi, .int se])), (ad 1, .inl (cI, 221, .inl z)), (ad 2, .inl (cI, 221, .inl zs)), (ad 3, .inl (cI, 1768, .inl sd)), (ad 4, .inl (cI, 80, .inl tx)), (ad 5, .inl (cI, 8, .inl ds)), (ad 6, .inl (cI, 8, .inl rg))]) H := hP
  have hD : va_D A ([(ad 0, .inr (5, [.int (nI (tW p0 8)), .ref (ad 1), .ref (ad 2), .ref (ad 3), .int (nI HS.length), .ref (ad 4), .int (nI len), .int vs, .ref (ad 5), .ref (ad 6), .int rl, .int cm, .int fi, .int se])), (ad 1, .inl (cI, 221, .inl z)), (ad 2, .inl (cI, 221, .inl zs)), (ad 3, .inl (cI, 1768, .inl sd)), (ad 4, .inl (cI, 80, .inl tx)), (ad 5, .inl (cI, 8, .inl ds)), (ad 6, .inl (cI, 8, .inl rg))]) := hD
  have ho := told_ok (s := (F, Q0, HS, sg, len)) (p := p0) (w := 4) (f := F 3) (fun t ht => RZ_4 hZ ht)
  exact ret_i (u := ((nI (tW p0 8)), vs, rl, cm, fi, se, z, zs, sd, tx, ds, rg)) hQ hx hb hrt hlk hS dX5_awaited_6 (by rw [ho.2.2]; exact hP) ⟨ho.1, ho.2.1, by rw [ho.2.2]; exact (LZ.mono hL (by omega))⟩

abbrev rX5_held : Room := { frames := 2, cells := 0, slots := 0, locals := 42 }
set_option maxHeartbeats 1000000 in
set_option maxRecDepth 100000 in
theorem c_X5_held (l : Launch) (D : va_G) (cI cT : ClassId) (ad : Nat → Nat) (th sv ln vs rl cm fi se : Int32) (z zs sd tx ds rg : Nat → Int32) (F : FF) (Q0 : QQ) (HS : List (FF × QQ)) (sg : Nat → Nat) (len n : Nat) (p0 p1 : Int32) (hL : LZ n (F, Q0, HS, sg, len) z sd tx) (hn : n + 80 < 2 ^ 31) : CN l D cI cT yX5_held wsX5_held rX5_held [.ref (ad 0), .int p0, .int p1] (refW cI ad th (nI HS.length) (nI len) vs rl cm fi se z zs sd tx ds rg) (S := JR) (fun v u => v = (opHeld (F, Q0, HS, sg, len) p0 p1).2.1 ∧ u.1 = nI (opHeld (F, Q0, HS, sg, len) p0 p1).1 ∧ LZu (n + 80) (opHeld (F, Q0, HS, sg, len) p0 p1).2.2 u) (fun u => rfW cI ad (opHeld (F, Q0, HS, sg, len) p0 p1).2.2 u) := by
  refine CN.of (cc := cX5_held) (maxL := 3) (ret := (some .int)) (by decide) rfl (Nat.le_of_ble_eq_true rfl) ?_
  intro p e s m args below meth c A Q hQ B hA H locs hP hK hD hS ls hl
  obtain ⟨hx, hb, hml, hrt, hts, hown, hlk⟩ := B
  have hP : va_P D vwCl ([(ad 0, .inr (5, [.int th, .ref (ad 1), .ref (ad 2), .ref (ad 3), .int (nI HS.length), .ref (ad 4), .int (nI len), .int vs, .ref (ad 5), .ref (ad 6), .int rl, .int cm, .int fi, .int se])), (ad 1, .inl (cI, 221, .inl z)), (ad 2, .inl (cI, 221, .inl zs)), (ad 3, .inl (cI, 1768, .inl sd)), (ad 4, .inl (cI, 80, .inl tx)), (ad 5, .inl (cI, 8, .inl ds)), (ad 6, .inl (cI, 8, .inl rg))]) H := hP
  have hD : va_D A ([(ad 0, .inr (5, [.int th, .ref (ad 1), .ref (ad 2), .ref (ad 3), .int (nI HS.length), .ref (ad 4), .int (nI len), .int vs, .ref (ad 5), .ref (ad 6), .int rl, .int cm, .int fi, .int se])), (ad 1, .inl (cI, 221, .inl z)), (ad 2, .inl (cI, 221, .inl zs)), (ad 3, .inl (cI, 1768, .inl sd)), (ad 4, .inl (cI, 80, .inl tx)), (ad 5, .inl (cI, 8, .inl ds)), (ad 6, .inl (cI, 8, .inl rg))]) := hD
  have hl : lv_has ls 3 [(0, .ref (ad 0)), (1, .int p0), (2, .int p1)] := hl
  obtain ⟨hJ, hC, hZ, hl8, hH, hHS, hlen, htx, hsg⟩ := hL
  dsimp only at hJ hC hZ hl8 hH hHS hlen htx hsg
  have hL := LZ_mk hJ hC hZ hl8 hH hHS hlen htx hsg
  have hB := hC.jb
  have hn8 := hC.n8 (by omega)
  have hHJ : ∀ q ∈ HS, JJ q.1 q.2 := fun q hq => (hHS q hq).1
  have iX5 : ∀ w ∈ u_ws RX5 TX5 14, w ∈ wsX5_held := by decide +kernel
  have f32 := hts (.fieldLink RX5 32 "LockManagerModel" "thrown" "I") (by decide +kernel)
  refine lv_aload_n hx hb dX5_held_0 rfl (lv_at hl 0 rfl) ?_
  refine lv_iload_n hx hb dX5_held_1 rfl (lv_at hl 1 rfl) ?_
  refine call_s (X := [(ad 0, .inr (5, [.int th, .ref (ad 1), .ref (ad 2), .ref (ad 3), .int (nI HS.length), .ref (ad 4), .int (nI len), .int vs, .ref (ad 5), .ref (ad 6), .int rl, .int cm, .int fi, .int se])), (ad 1, .inl (cI, 221, .inl z)), (ad 2, .inl (cI, 221, .inl zs)), (ad 3, .inl (cI, 1768, .inl sd)), (ad 4, .inl (cI, 80, .inl tx)), (ad 5, .inl (cI, 8, .inl ds)), (ad 6, .inl (cI, 8, .inl rg))]) (Wc := []) (Z := []) (As := [.int p0]) (rest := [.ref (ad 0)]) ⟨hx, hb, hml, hown, hts⟩ (c_X5_isTransaction l D cI cT p0) (va_cwS 1 hts gX5_held_X5_isTransaction rfl rfl rfl (by decide +kernel) ⟨Nat.le_of_ble_eq_true rfl, Nat.le_of_ble_eq_true rfl⟩) hK (P_nilr hP) (D_nilr hD) hS hA (fun _ => rfl) rfl hl.1 rfl (Nat.le_of_ble_eq_true rfl) ⟨by decide, by decide⟩ dX5_held_2 (fun rv _ H locs hp hP hD hS => ?_)
  obtain rfl := hp
  have hP := P_nil2 hP
  have hD := D_nil2 hD
  have hP : va_P D vwCl ([(ad 0, .inr (5, [.int th, .ref (ad 1), .ref (ad 2), .ref (ad 3), .int (nI HS.length), .ref (ad 4), .int (nI len), .int vs, .ref (ad 5), .ref (ad 6), .int rl, .int cm, .int fi, .int se])), (ad 1, .inl (cI, 221, .inl z)), (ad 2, .inl (cI, 221, .inl zs)), (ad 3, .inl (cI, 1768, .inl sd)), (ad 4, .inl (cI, 80, .inl tx)), (ad 5, .inl (cI, 8, .inl ds)), (ad 6, .inl (cI, 8, .inl rg))]) H := hP
  have hD : va_D A ([(ad 0, .inr (5, [.int th, .ref (ad 1), .ref (ad 2), .ref (ad 3), .int (nI HS.length), .ref (ad 4), .int (nI len), .int vs, .ref (ad 5), .ref (ad 6), .int rl, .int cm, .int fi, .int se])), (ad 1, .inl (cI, 221, .inl z)), (ad 2, .inl (cI, 221, .inl zs)), (ad 3, .inl (cI, 1768, .inl sd)), (ad 4, .inl (cI, 80, .inl tx)), (ad 5, .inl (cI, 8, .inl ds)), (ad 6, .inl (cI, 8, .inl rg))]) := hD
  refine lv_if_eq (tgt := 19) hx hb dX5_held_5 (by decide) (fun h_1 => ?_) (fun h_1 => ?_)
  · have h_1 := (nI_eq (a := ((inI p0 8).toNat)) (b := 0) (by first | omega | exact bits_lt31 _ | exact bitN_lt _ _ | exact bool_lt _ | exact and_lt31 _ _ _ _ | exact Nat.lt_of_le_of_lt (dst_lt _ _ _ (by omega) _) (by decide) | exact Nat.lt_of_le_of_lt (nrB_le _ _ _ (by omega)).2 (by decide) | decide) (by first | omega | exact bits_lt31 _ | exact bitN_lt _ _ | exact bool_lt _ | exact and_lt31 _ _ _ _ | exact Nat.lt_of_le_of_lt (dst_lt _ _ _ (by omega) _) (by decide) | exact Nat.lt_of_le_of_lt (nrB_le _ _ _ (by omega)).2 (by decide) | decide)).mp h_1
    have h_1 := tn_f h_1
    refine lv_iconst (v := (nI 1)) hx hb dX5_held_19 (by decide) ?_
    refine va_put (D := D) (ci := 5) (v := .int (nI 1)) (ty := .int) (C := RX5) (T := TX5) (N := 14) hx hb hts iX5 tyX5 tyX5_ok nmX5 hown hK hP hD hS 0 rfl rfl 0 (by decide) f32 (fun _ h9 => h9) rfl (by decide +kernel) rfl rfl (Nat.le_of_ble_eq_true rfl) dX5_held_20 (fun H locs hP hD hS => ?_)
    have hP : va_P D vwCl ([(ad 0, .inr (5, [.int (nI 1), .ref (ad 1), .ref (ad 2), .ref (ad 3), .int (nI HS.length), .ref (ad 4), .int (nI len), .int vs, .ref (ad 5), .ref (ad 6), .int rl, .int cm, .int fi, .int se])), (ad 1, .inl (cI, 221, .inl z)), (ad 2, .inl (cI, 221, .inl zs)), (ad 3, .inl (cI, 1768, .inl sd)), (ad 4, .inl (cI, 80, .inl tx)), (ad 5, .inl (cI, 8, .inl ds)), (ad 6, .inl (cI, 8, .inl rg))]) H := hP
    have hD : va_D A ([(ad 0, .inr (5, [.int (nI 1), .ref (ad 1), .ref (ad 2), .ref (ad 3), .int (nI HS.length), .ref (ad 4), .int (nI len), .int vs, .ref (ad 5), .ref (ad 6), .int rl, .int cm, .int fi, .int se])), (ad 1, .inl (cI, 221, .inl z)), (ad 2, .inl (cI, 221, .inl zs)), (ad 3, .inl (cI, 1768, .inl sd)), (ad 4, .inl (cI, 80, .inl tx)), (ad 5, .inl (cI, 8, .inl ds)), (ad 6, .inl (cI, 8, .inl rg))]) := hD
    refine lv_aload_n hx hb dX5_held_23 rfl (lv_at hl 0 rfl) ?_
    refine va_get (D := D) (ci := 5) (v := .int (nI 1)) (C := RX5) (T := TX5) (N := 14) hx hb hts iX5 hown hK hP 0 rfl rfl 0 (by decide) f32 (fun _ h9 => h9) rfl dX5_held_24 ?_
    refine lv_if_le (tgt := 34) hx hb dX5_held_27 (by decide) (fun h => absurd h (by decide)) (fun _ => ?_)
    refine lv_iconst (v := (nI 0)) hx hb dX5_held_30 (by decide) ?_
    refine lv_goto (tgt := 40) hx hb dX5_held_31 (by decide) ?_
    exact ret_i (u := ((nI 1), vs, rl, cm, fi, se, z, zs, sd, tx, ds, rg)) hQ hx hb hrt hlk hS dX5_held_40 (by rw [opHeld_1 (Or.inl h_1)]; exact hP) (by rw [opHeld_1 (Or.inl h_1)]; exact ⟨rfl, rfl, (LZ.mono hL (by omega))⟩)
  · have h_1 := mt (nI_eq (a := ((inI p0 8).toNat)) (b := 0) (by first | omega | exact bits_lt31 _ | exact bitN_lt _ _ | exact bool_lt _ | exact and_lt31 _ _ _ _ | exact Nat.lt_of_le_of_lt (dst_lt _ _ _ (by omega) _) (by decide) | exact Nat.lt_of_le_of_lt (nrB_le _ _ _ (by omega)).2 (by decide) | decide) (by first | omega | exact bits_lt31 _ | exact bitN_lt _ _ | exact bool_lt _ | exact and_lt31 _ _ _ _ | exact Nat.lt_of_le_of_lt (dst_lt _ _ _ (by omega) _) (by decide) | exact Nat.lt_of_le_of_lt (nrB_le _ _ _ (by omega)).2 (by decide) | decide)).mpr h_1
    have h_1 := tn_y h_1
    obtain ⟨t9, ht9, et9⟩ := inI_t (by decide) h_1
    rw [et9] at hl
    refine lv_iload_n hx hb dX5_held_8 rfl (lv_at hl 2 rfl) ?_
    refine call_s (X := [(ad 0, .inr (5, [.int th, .ref (ad 1), .ref (ad 2), .ref (ad 3), .int (nI HS.length), .ref (ad 4), .int (nI len), .int vs, .ref (ad 5), .ref (ad 6), .int rl, .int cm, .int fi, .int se])), (ad 1, .inl (cI, 221, .inl z)), (ad 2, .inl (cI, 221, .inl zs)), (ad 3, .inl (cI, 1768, .inl sd)), (ad 4, .inl (cI, 80, .inl tx)), (ad 5, .inl (cI, 8, .inl ds)), (ad 6, .inl (cI, 8, .inl rg))]) (Wc := []) (Z := []) (As := [.int p1]) (rest := [.ref (ad 0)]) ⟨hx, hb, hml, hown, hts⟩ (c_X5_isResource l D cI cT p1) (va_cwS 1 hts gX5_held_X5_isResource rfl rfl rfl (by decide +kernel) ⟨Nat.le_of_ble_eq_true rfl, Nat.le_of_ble_eq_true rfl⟩) hK (P_nilr hP) (D_nilr hD) hS hA (fun _ => rfl) rfl hl.1 rfl (Nat.le_of_ble_eq_true rfl) ⟨by decide, by decide⟩ dX5_held_9 (fun rv _ H locs hp hP hD hS => ?_)
    obtain rfl := hp
    have hP := P_nil2 hP
    have hD := D_nil2 hD
    have hP : va_P D vwCl ([(ad 0, .inr (5, [.int th, .ref (ad 1), .ref (ad 2), .ref (ad 3), .int (nI HS.length), .ref (ad 4), .int (nI len), .int vs, .ref (ad 5), .ref (ad 6), .int rl, .int cm, .int fi, .int se])), (ad 1, .inl (cI, 221, .inl z)), (ad 2, .inl (cI, 221, .inl zs)), (ad 3, .inl (cI, 1768, .inl sd)), (ad 4, .inl (cI, 80, .inl tx)), (ad 5, .inl (cI, 8, .inl ds)), (ad 6, .inl (cI, 8, .inl rg))]) H := hP
    have hD : va_D A ([(ad 0, .inr (5, [.int th, .ref (ad 1), .ref (ad 2), .ref (ad 3), .int (nI HS.length), .ref (ad 4), .int (nI len), .int vs, .ref (ad 5), .ref (ad 6), .int rl, .int cm, .int fi, .int se])), (ad 1, .inl (cI, 221, .inl z)), (ad 2, .inl (cI, 221, .inl zs)), (ad 3, .inl (cI, 1768, .inl sd)), (ad 4, .inl (cI, 80, .inl tx)), (ad 5, .inl (cI, 8, .inl ds)), (ad 6, .inl (cI, 8, .inl rg))]) := hD
    refine lv_if_eq (tgt := 19) hx hb dX5_held_12 (by decide) (fun h_2 => ?_) (fun h_2 => ?_)
    · have h_2 := (nI_eq (a := ((inI p1 10).toNat)) (b := 0) (by first | omega | exact bits_lt31 _ | exact bitN_lt _ _ | exact bool_lt _ | exact and_lt31 _ _ _ _ | exact Nat.lt_of_le_of_lt (dst_lt _ _ _ (by omega) _) (by decide) | exact Nat.lt_of_le_of_lt (nrB_le _ _ _ (by omega)).2 (by decide) | decide) (by first | omega | exact bits_lt31 _ | exact bitN_lt _ _ | exact bool_lt _ | exact and_lt31 _ _ _ _ | exact Nat.lt_of_le_of_lt (dst_lt _ _ _ (by omega) _) (by decide) | exact Nat.lt_of_le_of_lt (nrB_le _ _ _ (by omega)).2 (by decide) | decide)).mp h_2
      have h_2 := tn_f h_2
      refine lv_iconst (v := (nI 1)) hx hb dX5_held_19 (by decide) ?_
      refine va_put (D := D) (ci := 5) (v := .int (nI 1)) (ty := .int) (C := RX5) (T := TX5) (N := 14) hx hb hts iX5 tyX5 tyX5_ok nmX5 hown hK hP hD hS 0 rfl rfl 0 (by decide) f32 (fun _ h9 => h9) rfl (by decide +kernel) rfl rfl (Nat.le_of_ble_eq_true rfl) dX5_held_20 (fun H locs hP hD hS => ?_)
      have hP : va_P D vwCl ([(ad 0, .inr (5, [.int (nI 1), .ref (ad 1), .ref (ad 2), .ref (ad 3), .int (nI HS.length), .ref (ad 4), .int (nI len), .int vs, .ref (ad 5), .ref (ad 6), .int rl, .int cm, .int fi, .int se])), (ad 1, .inl (cI, 221, .inl z)), (ad 2, .inl (cI, 221, .inl zs)), (ad 3, .inl (cI, 1768, .inl sd)), (ad 4, .inl (cI, 80, .inl tx)), (ad 5, .inl (cI, 8, .inl ds)), (ad 6, .inl (cI, 8, .inl rg))]) H := hP
      have hD : va_D A ([(ad 0, .inr (5, [.int (nI 1), .ref (ad 1), .ref (ad 2), .ref (ad 3), .int (nI HS.length), .ref (ad 4), .int (nI len), .int vs, .ref (ad 5), .ref (ad 6), .int rl, .int cm, .int fi, .int se])), (ad 1, .inl (cI, 221, .inl z)), (ad 2, .inl (cI, 221, .inl zs)), (ad 3, .inl (cI, 1768, .inl sd)), (ad 4, .inl (cI, 80, .inl tx)), (ad 5, .inl (cI, 8, .inl ds)), (ad 6, .inl (cI, 8, .inl rg))]) := hD
      refine lv_aload_n hx hb dX5_held_23 rfl (lv_at hl 0 rfl) ?_
      refine va_get (D := D) (ci := 5) (v := .int (nI 1)) (C := RX5) (T := TX5) (N := 14) hx hb hts iX5 hown hK hP 0 rfl rfl 0 (by decide) f32 (fun _ h9 => h9) rfl dX5_held_24 ?_
      refine lv_if_le (tgt := 34) hx hb dX5_held_27 (by decide) (fun h => absurd h (by decide)) (fun _ => ?_)
      refine lv_iconst (v := (nI 0)) hx hb dX5_held_30 (by decide) ?_
      refine lv_goto (tgt := 40) hx hb dX5_held_31 (by decide) ?_
      exact ret_i (u := ((nI 1), vs, rl, cm, fi, se, z, zs, sd, tx, ds, rg)) hQ hx hb hrt hlk hS dX5_held_40 (by rw [opHeld_1 (Or.inr h_2)]; exact hP) (by rw [opHeld_1 (Or.inr h_2)]; exact ⟨rfl, rfl, (LZ.mono hL (by omega))⟩)
    · have h_2 := mt (nI_eq (a := ((inI p1 10).toNat)) (b := 0) (by first | omega | exact bits_lt31 _ | exact bitN_lt _ _ | exact bool_lt _ | exact and_lt31 _ _ _ _ | exact Nat.lt_of_le_of_lt (dst_lt _ _ _ (by omega) _) (by decide) | exact Nat.lt_of_le_of_lt (nrB_le _ _ _ (by omega)).2 (by decide) | decide) (by first | omega | exact bits_lt31 _ | exact bitN_lt _ _ | exact bool_lt _ | exact and_lt31 _ _ _ _ | exact Nat.lt_of_le_of_lt (dst_lt _ _ _ (by omega) _) (by decide) | exact Nat.lt_of_le_of_lt (nrB_le _ _ _ (by omega)).2 (by decide) | decide)).mpr h_2
      have h_2 := tn_y h_2
      obtain ⟨r9, hr9, er9⟩ := inI_t (by decide) h_2
      rw [er9] at hl
      refine lv_iconst (v := (nI 0)) hx hb dX5_held_15 (by decide) ?_
      refine lv_goto (tgt := 20) hx hb dX5_held_16 (by decide) ?_
      refine va_put (D := D) (ci := 5) (v := .int (nI 0)) (ty := .int) (C := RX5) (T := TX5) (N := 14) hx hb hts iX5 tyX5 tyX5_ok nmX5 hown hK hP hD hS 0 rfl rfl 0 (by decide) f32 (fun _ h9 => h9) rfl (by decide +kernel) rfl rfl (Nat.le_of_ble_eq_true rfl) dX5_held_20 (fun H locs hP hD hS => ?_)
      have hP : va_P D vwCl ([(ad 0, .inr (5, [.int (nI 0), .ref (ad 1), .ref (ad 2), .ref (ad 3), .int (nI HS.length), .ref (ad 4), .int (nI len), .int vs, .ref (ad 5), .ref (ad 6), .int rl, .int cm, .int fi, .int se])), (ad 1, .inl (cI, 221, .inl z)), (ad 2, .inl (cI, 221, .inl zs)), (ad 3, .inl (cI, 1768, .inl sd)), (ad 4, .inl (cI, 80, .inl tx)), (ad 5, .inl (cI, 8, .inl ds)), (ad 6, .inl (cI, 8, .inl rg))]) H := hP
      have hD : va_D A ([(ad 0, .inr (5, [.int (nI 0), .ref (ad 1), .ref (ad 2), .ref (ad 3), .int (nI HS.length), .ref (ad 4), .int (nI len), .int vs, .ref (ad 5), .ref (ad 6), .int rl, .int cm, .int fi, .int se])), (ad 1, .inl (cI, 221, .inl z)), (ad 2, .inl (cI, 221, .inl zs)), (ad 3, .inl (cI, 1768, .inl sd)), (ad 4, .inl (cI, 80, .inl tx)), (ad 5, .inl (cI, 8, .inl ds)), (ad 6, .inl (cI, 8, .inl rg))]) := hD
      refine lv_aload_n hx hb dX5_held_23 rfl (lv_at hl 0 rfl) ?_
      refine va_get (D := D) (ci := 5) (v := .int (nI 0)) (C := RX5) (T := TX5) (N := 14) hx hb hts iX5 hown hK hP 0 rfl rfl 0 (by decide) f32 (fun _ h9 => h9) rfl dX5_held_24 ?_
      refine lv_if_le (tgt := 34) hx hb dX5_held_27 (by decide) (fun _ => ?_) (fun h => absurd (by decide) h)
      refine lv_aload_n hx hb dX5_held_34 rfl (lv_at hl 0 rfl) ?_
      refine lv_iload_n hx hb dX5_held_35 rfl (lv_at hl 1 rfl) ?_
      refine lv_iload_n hx hb dX5_held_36 rfl (lv_at hl 2 rfl) ?_
      refine call_i (X := []) (Z := []) (As := [.int (nI t9), .int (nI r9)]) (rest := []) ⟨hx, hb, hml, hown, hts⟩ (c_X5_lock l D cI cT ad (nI 0) (nI HS.length) (nI len) vs rl cm fi se z zs sd tx ds rg t9 r9 (by omega)) (cwV 2 hts gX5_held_X5_lock rfl rfl rfl (by decide +kernel) ⟨Nat.le_of_ble_eq_true rfl, Nat.le_of_ble_eq_true rfl⟩) hK hP hD hS hA (va_recv hK hP (ci := 5) (q0 := 0) rfl rfl) (fun _ => rfl) rfl hl.1 rfl (Nat.le_of_ble_eq_true rfl) ⟨by decide, by decide⟩ dX5_held_37 (fun rv _ H locs hp hP hD hS => ?_)
      obtain rfl := hp
      have hP : va_P D vwCl ([(ad 0, .inr (5, [.int (nI 0), .ref (ad 1), .ref (ad 2), .ref (ad 3), .int (nI HS.length), .ref (ad 4), .int (nI len), .int vs, .ref (ad 5), .ref (ad 6), .int rl, .int cm, .int fi, .int se])), (ad 1, .inl (cI, 221, .inl z)), (ad 2, .inl (cI, 221, .inl zs)), (ad 3, .inl (cI, 1768, .inl sd)), (ad 4, .inl (cI, 80, .inl tx)), (ad 5, .inl (cI, 8, .inl ds)), (ad 6, .inl (cI, 8, .inl rg))]) H := hP
      have hD : va_D A ([(ad 0, .inr (5, [.int (nI 0), .ref (ad 1), .ref (ad 2), .ref (ad 3), .int (nI HS.length), .ref (ad 4), .int (nI len), .int vs, .ref (ad 5), .ref (ad 6), .int rl, .int cm, .int fi, .int se])), (ad 1, .inl (cI, 221, .inl z)), (ad 2, .inl (cI, 221, .inl zs)), (ad 3, .inl (cI, 1768, .inl sd)), (ad 4, .inl (cI, 80, .inl tx)), (ad 5, .inl (cI, 8, .inl ds)), (ad 6, .inl (cI, 8, .inl rg))]) := hD
      refine tpe (y := lk F t9 r9) (RZ_lk hZ (by omega) (by omega)) ?_
      exact ret_i (u := ((nI 0), vs, rl, cm, fi, se, z, zs, sd, tx, ds, rg)) hQ hx hb hrt hlk hS dX5_held_40 (by rw [et9, er9, opHeld_0 ht9 hr9]; exact hP) (by rw [et9, er9, opHeld_0 ht9 hr9]; exact ⟨rfl, rfl, (LZ.mono hL (by omega))⟩)

abbrev rX5_waitsFor : Room := { frames := 4, cells := 0, slots := 0, locals := 91 }
set_option maxHeartbeats 1000000 in
set_option maxRecDepth 100000 in
theorem c_X5_waitsFor (l : Launch) (D : va_G) (cI cT : ClassId) (ad : Nat → Nat) (th sv ln vs rl cm fi se : Int32) (z zs sd tx ds rg : Nat → Int32) (F : FF) (Q0 : QQ) (HS : List (FF × QQ)) (sg : Nat → Nat) (len n : Nat) (p0 : Int32) (hL : LZ n (F, Q0, HS, sg, len) z sd tx) (hn : n + 80 < 2 ^ 31) : CN l D cI cT yX5_waitsFor wsX5_waitsFor rX5_waitsFor [.ref (ad 0), .int p0] (refW cI ad th (nI HS.length) (nI len) vs rl cm fi se z zs sd tx ds rg) (S := JR) (fun v u => v = (opT (F, Q0, HS, sg, len) p0 (fun u => nI (aWS F Q0 u))).2.1 ∧ u.1 = nI (opT (F, Q0, HS, sg, len) p0 (fun u => nI (aWS F Q0 u))).1 ∧ LZu (n + 80) (opT (F, Q0, HS, sg, len) p0 (fun u => nI (aWS F Q0 u))).2.2 u) (fun u => rfW cI ad (opT (F, Q0, HS, sg, len) p0 (fun u => nI (aWS F Q0 u))).2.2 u) := by
  refine CN.of (cc := cX5_waitsFor) (maxL := 2) (ret := (some .int)) (by decide) rfl (Nat.le_of_ble_eq_true rfl) ?_
  intro p e s m args below meth c A Q hQ B hA H locs hP hK hD hS ls hl
  obtain ⟨hx, hb, hml, hrt, hts, hown, hlk⟩ := B
  have hP : va_P D vwCl ([(ad 0, .inr (5, [.int th, .ref (ad 1), .ref (ad 2), .ref (ad 3), .int (nI HS.length), .ref (ad 4), .int (nI len), .int vs, .ref (ad 5), .ref (ad 6), .int rl, .int cm, .int fi, .int se])), (ad 1, .inl (cI, 221, .inl z)), (ad 2, .inl (cI, 221, .inl zs)), (ad 3, .inl (cI, 1768, .inl sd)), (ad 4, .inl (cI, 80, .inl tx)), (ad 5, .inl (cI, 8, .inl ds)), (ad 6, .inl (cI, 8, .inl rg))]) H := hP
  have hD : va_D A ([(ad 0, .inr (5, [.int th, .ref (ad 1), .ref (ad 2), .ref (ad 3), .int (nI HS.length), .ref (ad 4), .int (nI len), .int vs, .ref (ad 5), .ref (ad 6), .int rl, .int cm, .int fi, .int se])), (ad 1, .inl (cI, 221, .inl z)), (ad 2, .inl (cI, 221, .inl zs)), (ad 3, .inl (cI, 1768, .inl sd)), (ad 4, .inl (cI, 80, .inl tx)), (ad 5, .inl (cI, 8, .inl ds)), (ad 6, .inl (cI, 8, .inl rg))]) := hD
  have hl : lv_has ls 2 [(0, .ref (ad 0)), (1, .int p0)] := hl
  obtain ⟨hJ, hC, hZ, hl8, hH, hHS, hlen, htx, hsg⟩ := hL
  dsimp only at hJ hC hZ hl8 hH hHS hlen htx hsg
  have hL := LZ_mk hJ hC hZ hl8 hH hHS hlen htx hsg
  have hB := hC.jb
  have hn8 := hC.n8 (by omega)
  have hHJ : ∀ q ∈ HS, JJ q.1 q.2 := fun q hq => (hHS q hq).1
  have iX5 : ∀ w ∈ u_ws RX5 TX5 14, w ∈ wsX5_waitsFor := by decide +kernel
  have f32 := hts (.fieldLink RX5 32 "LockManagerModel" "thrown" "I") (by decide +kernel)
  refine lv_aload_n hx hb dX5_waitsFor_0 rfl (lv_at hl 0 rfl) ?_
  refine lv_iload_n hx hb dX5_waitsFor_1 rfl (lv_at hl 1 rfl) ?_
  refine call_s (X := [(ad 0, .inr (5, [.int th, .ref (ad 1), .ref (ad 2), .ref (ad 3), .int (nI HS.length), .ref (ad 4), .int (nI len), .int vs, .ref (ad 5), .ref (ad 6), .int rl, .int cm, .int fi, .int se])), (ad 1, .inl (cI, 221, .inl z)), (ad 2, .inl (cI, 221, .inl zs)), (ad 3, .inl (cI, 1768, .inl sd)), (ad 4, .inl (cI, 80, .inl tx)), (ad 5, .inl (cI, 8, .inl ds)), (ad 6, .inl (cI, 8, .inl rg))]) (Wc := []) (Z := []) (As := [.int p0]) (rest := [.ref (ad 0)]) ⟨hx, hb, hml, hown, hts⟩ (c_X5_isTransaction l D cI cT p0) (va_cwS 1 hts gX5_waitsFor_X5_isTransaction rfl rfl rfl (by decide +kernel) ⟨Nat.le_of_ble_eq_true rfl, Nat.le_of_ble_eq_true rfl⟩) hK (P_nilr hP) (D_nilr hD) hS hA (fun _ => rfl) rfl hl.1 rfl (Nat.le_of_ble_eq_true rfl) ⟨by decide, by decide⟩ dX5_waitsFor_2 (fun rv _ H locs hp hP hD hS => ?_)
  obtain rfl := hp
  have hP := P_nil2 hP
  have hD := D_nil2 hD
  have hP : va_P D vwCl ([(ad 0, .inr (5, [.int th, .ref (ad 1), .ref (ad 2), .ref (ad 3), .int (nI HS.length), .ref (ad 4), .int (nI len), .int vs, .ref (ad 5), .ref (ad 6), .int rl, .int cm, .int fi, .int se])), (ad 1, .inl (cI, 221, .inl z)), (ad 2, .inl (cI, 221, .inl zs)), (ad 3, .inl (cI, 1768, .inl sd)), (ad 4, .inl (cI, 80, .inl tx)), (ad 5, .inl (cI, 8, .inl ds)), (ad 6, .inl (cI, 8, .inl rg))]) H := hP
  have hD : va_D A ([(ad 0, .inr (5, [.int th, .ref (ad 1), .ref (ad 2), .ref (ad 3), .int (nI HS.length), .ref (ad 4), .int (nI len), .int vs, .ref (ad 5), .ref (ad 6), .int rl, .int cm, .int fi, .int se])), (ad 1, .inl (cI, 221, .inl z)), (ad 2, .inl (cI, 221, .inl zs)), (ad 3, .inl (cI, 1768, .inl sd)), (ad 4, .inl (cI, 80, .inl tx)), (ad 5, .inl (cI, 8, .inl ds)), (ad 6, .inl (cI, 8, .inl rg))]) := hD
  refine lv_if_eq (tgt := 12) hx hb dX5_waitsFor_5 (by decide) (fun h_1 => ?_) (fun h_1 => ?_)
  · have h_1 := (nI_eq (a := ((inI p0 8).toNat)) (b := 0) (by first | omega | exact bits_lt31 _ | exact bitN_lt _ _ | exact bool_lt _ | exact and_lt31 _ _ _ _ | exact Nat.lt_of_le_of_lt (dst_lt _ _ _ (by omega) _) (by decide) | exact Nat.lt_of_le_of_lt (nrB_le _ _ _ (by omega)).2 (by decide) | decide) (by first | omega | exact bits_lt31 _ | exact bitN_lt _ _ | exact bool_lt _ | exact and_lt31 _ _ _ _ | exact Nat.lt_of_le_of_lt (dst_lt _ _ _ (by omega) _) (by decide) | exact Nat.lt_of_le_of_lt (nrB_le _ _ _ (by omega)).2 (by decide) | decide)).mp h_1
    have h_1 := tn_f h_1
    refine lv_iconst (v := (nI 1)) hx hb dX5_waitsFor_12 (by decide) ?_
    refine va_put (D := D) (ci := 5) (v := .int (nI 1)) (ty := .int) (C := RX5) (T := TX5) (N := 14) hx hb hts iX5 tyX5 tyX5_ok nmX5 hown hK hP hD hS 0 rfl rfl 0 (by decide) f32 (fun _ h9 => h9) rfl (by decide +kernel) rfl rfl (Nat.le_of_ble_eq_true rfl) dX5_waitsFor_13 (fun H locs hP hD hS => ?_)
    have hP : va_P D vwCl ([(ad 0, .inr (5, [.int (nI 1), .ref (ad 1), .ref (ad 2), .ref (ad 3), .int (nI HS.length), .ref (ad 4), .int (nI len), .int vs, .ref (ad 5), .ref (ad 6), .int rl, .int cm, .int fi, .int se])), (ad 1, .inl (cI, 221, .inl z)), (ad 2, .inl (cI, 221, .inl zs)), (ad 3, .inl (cI, 1768, .inl sd)), (ad 4, .inl (cI, 80, .inl tx)), (ad 5, .inl (cI, 8, .inl ds)), (ad 6, .inl (cI, 8, .inl rg))]) H := hP
    have hD : va_D A ([(ad 0, .inr (5, [.int (nI 1), .ref (ad 1), .ref (ad 2), .ref (ad 3), .int (nI HS.length), .ref (ad 4), .int (nI len), .int vs, .ref (ad 5), .ref (ad 6), .int rl, .int cm, .int fi, .int se])), (ad 1, .inl (cI, 221, .inl z)), (ad 2, .inl (cI, 221, .inl zs)), (ad 3, .inl (cI, 1768, .inl sd)), (ad 4, .inl (cI, 80, .inl tx)), (ad 5, .inl (cI, 8, .inl ds)), (ad 6, .inl (cI, 8, .inl rg))]) := hD
    refine lv_aload_n hx hb dX5_waitsFor_16 rfl (lv_at hl 0 rfl) ?_
    refine va_get (D := D) (ci := 5) (v := .int (nI 1)) (C := RX5) (T := TX5) (N := 14) hx hb hts iX5 hown hK hP 0 rfl rfl 0 (by decide) f32 (fun _ h9 => h9) rfl dX5_waitsFor_17 ?_
    refine lv_if_le (tgt := 27) hx hb dX5_waitsFor_20 (by decide) (fun h => absurd h (by decide)) (fun _ => ?_)
    refine lv_iconst (v := (nI 0)) hx hb dX5_waitsFor_23 (by decide) ?_
    refine lv_goto (tgt := 32) hx hb dX5_waitsFor_24 (by decide) ?_
    exact ret_i (u := ((nI 1), vs, rl, cm, fi, se, z, zs, sd, tx, ds, rg)) hQ hx hb hrt hlk hS dX5_waitsFor_32 (by rw [opT_1 h_1]; exact hP) (by rw [opT_1 h_1]; exact ⟨rfl, rfl, (LZ.mono hL (by omega))⟩)
  · have h_1 := mt (nI_eq (a := ((inI p0 8).toNat)) (b := 0) (by first | omega | exact bits_lt31 _ | exact bitN_lt _ _ | exact bool_lt _ | exact and_lt31 _ _ _ _ | exact Nat.lt_of_le_of_lt (dst_lt _ _ _ (by omega) _) (by decide) | exact Nat.lt_of_le_of_lt (nrB_le _ _ _ (by omega)).2 (by decide) | decide) (by first | omega | exact bits_lt31 _ | exact bitN_lt _ _ | exact bool_lt _ | exact and_lt31 _ _ _ _ | exact Nat.lt_of_le_of_lt (dst_lt _ _ _ (by omega) _) (by decide) | exact Nat.lt_of_le_of_lt (nrB_le _ _ _ (by omega)).2 (by decide) | decide)).mpr h_1
    have h_1 := tn_y h_1
    obtain ⟨t9, ht9, et9⟩ := inI_t (by decide) h_1
    rw [et9] at hl
    refine lv_iconst (v := (nI 0)) hx hb dX5_waitsFor_8 (by decide) ?_
    refine lv_goto (tgt := 13) hx hb dX5_waitsFor_9 (by decide) ?_
    refine va_put (D := D) (ci := 5) (v := .int (nI 0)) (ty := .int) (C := RX5) (T := TX5) (N := 14) hx hb hts iX5 tyX5 tyX5_ok nmX5 hown hK hP hD hS 0 rfl rfl 0 (by decide) f32 (fun _ h9 => h9) rfl (by decide +kernel) rfl rfl (Nat.le_of_ble_eq_true rfl) dX5_waitsFor_13 (fun H locs hP hD hS => ?_)
    have hP : va_P D vwCl ([(ad 0, .inr (5, [.int (nI 0), .ref (ad 1), .ref (ad 2), .ref (ad 3), .int (nI HS.length), .ref (ad 4), .int (nI len), .int vs, .ref (ad 5), .ref (ad 6), .int rl, .int cm, .int fi, .int se])), (ad 1, .inl (cI, 221, .inl z)), (ad 2, .inl (cI, 221, .inl zs)), (ad 3, .inl (cI, 1768, .inl sd)), (ad 4, .inl (cI, 80, .inl tx)), (ad 5, .inl (cI, 8, .inl ds)), (ad 6, .inl (cI, 8, .inl rg))]) H := hP
    have hD : va_D A ([(ad 0, .inr (5, [.int (nI 0), .ref (ad 1), .ref (ad 2), .ref (ad 3), .int (nI HS.length), .ref (ad 4), .int (nI len), .int vs, .ref (ad 5), .ref (ad 6), .int rl, .int cm, .int fi, .int se])), (ad 1, .inl (cI, 221, .inl z)), (ad 2, .inl (cI, 221, .inl zs)), (ad 3, .inl (cI, 1768, .inl sd)), (ad 4, .inl (cI, 80, .inl tx)), (ad 5, .inl (cI, 8, .inl ds)), (ad 6, .inl (cI, 8, .inl rg))]) := hD
    refine lv_aload_n hx hb dX5_waitsFor_16 rfl (lv_at hl 0 rfl) ?_
    refine va_get (D := D) (ci := 5) (v := .int (nI 0)) (C := RX5) (T := TX5) (N := 14) hx hb hts iX5 hown hK hP 0 rfl rfl 0 (by decide) f32 (fun _ h9 => h9) rfl dX5_waitsFor_17 ?_
    refine lv_if_le (tgt := 27) hx hb dX5_waitsFor_20 (by decide) (fun _ => ?_) (fun h => absurd (by decide) h)
    refine lv_aload_n hx hb dX5_waitsFor_27 rfl (lv_at hl 0 rfl) ?_
    refine lv_iload_n hx hb dX5_waitsFor_28 rfl (lv_at hl 1 rfl) ?_
    refine call_i (X := []) (Z := []) (As := [.int (nI t9)]) (rest := []) ⟨hx, hb, hml, hown, hts⟩ (c_X5_waitedFor l D cI cT ad (nI 0) (nI HS.length) (nI len) vs rl cm fi se z zs sd tx ds rg F Q0 t9 (by omega) hZ hJ) (cwV 1 hts gX5_waitsFor_X5_waitedFor rfl rfl rfl (by decide +kernel) ⟨Nat.le_of_ble_eq_true rfl, Nat.le_of_ble_eq_true rfl⟩) hK hP hD hS hA (va_recv hK hP (ci := 5) (q0 := 0) rfl rfl) (fun _ => rfl) rfl hl.1 rfl (Nat.le_of_ble_eq_true rfl) ⟨by decide, by decide⟩ dX5_waitsFor_29 (fun rv _ H locs hp hP hD hS => ?_)
    obtain rfl := hp
    have hP : va_P D vwCl ([(ad 0, .inr (5, [.int (nI 0), .ref (ad 1), .ref (ad 2), .ref (ad 3), .int (nI HS.length), .ref (ad 4), .int (nI len), .int vs, .ref (ad 5), .ref (ad 6), .int rl, .int cm, .int fi, .int se])), (ad 1, .inl (cI, 221, .inl z)), (ad 2, .inl (cI, 221, .inl zs)), (ad 3, .inl (cI, 1768, .inl sd)), (ad 4, .inl (cI, 80, .inl tx)), (ad 5, .inl (cI, 8, .inl ds)), (ad 6, .inl (cI, 8, .inl rg))]) H := hP
    have hD : va_D A ([(ad 0, .inr (5, [.int (nI 0), .ref (ad 1), .ref (ad 2), .ref (ad 3), .int (nI HS.length), .ref (ad 4), .int (nI len), .int vs, .ref (ad 5), .ref (ad 6), .int rl, .int cm, .int fi, .int se])), (ad 1, .inl (cI, 221, .inl z)), (ad 2, .inl (cI, 221, .inl zs)), (ad 3, .inl (cI, 1768, .inl sd)), (ad 4, .inl (cI, 80, .inl tx)), (ad 5, .inl (cI, 8, .inl ds)), (ad 6, .inl (cI, 8, .inl rg))]) := hD
    exact ret_i (u := ((nI 0), vs, rl, cm, fi, se, z, zs, sd, tx, ds, rg)) hQ hx hb hrt hlk hS dX5_waitsFor_32 (by rw [et9, opT_0 ht9]; exact hP) (by rw [et9, opT_0 ht9]; exact ⟨rfl, rfl, (LZ.mono hL (by omega))⟩)

abbrev rX5_queueLength : Room := { frames := 2, cells := 0, slots := 0, locals := 42 }
set_option maxHeartbeats 1000000 in
set_option maxRecDepth 100000 in
theorem c_X5_queueLength (l : Launch) (D : va_G) (cI cT : ClassId) (ad : Nat → Nat) (th sv ln vs rl cm fi se : Int32) (z zs sd tx ds rg : Nat → Int32) (F : FF) (Q0 : QQ) (HS : List (FF × QQ)) (sg : Nat → Nat) (len n : Nat) (p0 : Int32) (hL : LZ n (F, Q0, HS, sg, len) z sd tx) (hn : n + 80 < 2 ^ 31) : CN l D cI cT yX5_queueLength wsX5_queueLength rX5_queueLength [.ref (ad 0), .int p0] (refW cI ad th (nI HS.length) (nI len) vs rl cm fi se z zs sd tx ds rg) (S := JR) (fun v u => v = (opR (F, Q0, HS, sg, len) p0 (fun r => nI (qlen Q0 r))).2.1 ∧ u.1 = nI (opR (F, Q0, HS, sg, len) p0 (fun r => nI (qlen Q0 r))).1 ∧ LZu (n + 80) (opR (F, Q0, HS, sg, len) p0 (fun r => nI (qlen Q0 r))).2.2 u) (fun u => rfW cI ad (opR (F, Q0, HS, sg, len) p0 (fun r => nI (qlen Q0 r))).2.2 u) := by
  refine CN.of (cc := cX5_queueLength) (maxL := 2) (ret := (some .int)) (by decide) rfl (Nat.le_of_ble_eq_true rfl) ?_
  intro p e s m args below meth c A Q hQ B hA H locs hP hK hD hS ls hl
  obtain ⟨hx, hb, hml, hrt, hts, hown, hlk⟩ := B
  have hP : va_P D vwCl ([(ad 0, .inr (5, [.int th, .ref (ad 1), .ref (ad 2), .ref (ad 3), .int (nI HS.length), .ref (ad 4), .int (nI len), .int vs, .ref (ad 5), .ref (ad 6), .int rl, .int cm, .int fi, .int se])), (ad 1, .inl (cI, 221, .inl z)), (ad 2, .inl (cI, 221, .inl zs)), (ad 3, .inl (cI, 1768, .inl sd)), (ad 4, .inl (cI, 80, .inl tx)), (ad 5, .inl (cI, 8, .inl ds)), (ad 6, .inl (cI, 8, .inl rg))]) H := hP
  have hD : va_D A ([(ad 0, .inr (5, [.int th, .ref (ad 1), .ref (ad 2), .ref (ad 3), .int (nI HS.length), .ref (ad 4), .int (nI len), .int vs, .ref (ad 5), .ref (ad 6), .int rl, .int cm, .int fi, .int se])), (ad 1, .inl (cI, 221, .inl z)), (ad 2, .inl (cI, 221, .inl zs)), (ad 3, .inl (cI, 1768, .inl sd)), (ad 4, .inl (cI, 80, .inl tx)), (ad 5, .inl (cI, 8, .inl ds)), (ad 6, .inl (cI, 8, .inl rg))]) := hD
  have hl : lv_has ls 2 [(0, .ref (ad 0)), (1, .int p0)] := hl
  obtain ⟨hJ, hC, hZ, hl8, hH, hHS, hlen, htx, hsg⟩ := hL
  dsimp only at hJ hC hZ hl8 hH hHS hlen htx hsg
  have hL := LZ_mk hJ hC hZ hl8 hH hHS hlen htx hsg
  have hB := hC.jb
  have hn8 := hC.n8 (by omega)
  have hHJ : ∀ q ∈ HS, JJ q.1 q.2 := fun q hq => (hHS q hq).1
  have iX5 : ∀ w ∈ u_ws RX5 TX5 14, w ∈ wsX5_queueLength := by decide +kernel
  have f32 := hts (.fieldLink RX5 32 "LockManagerModel" "thrown" "I") (by decide +kernel)
  refine lv_aload_n hx hb dX5_queueLength_0 rfl (lv_at hl 0 rfl) ?_
  refine lv_iload_n hx hb dX5_queueLength_1 rfl (lv_at hl 1 rfl) ?_
  refine call_s (X := [(ad 0, .inr (5, [.int th, .ref (ad 1), .ref (ad 2), .ref (ad 3), .int (nI HS.length), .ref (ad 4), .int (nI len), .int vs, .ref (ad 5), .ref (ad 6), .int rl, .int cm, .int fi, .int se])), (ad 1, .inl (cI, 221, .inl z)), (ad 2, .inl (cI, 221, .inl zs)), (ad 3, .inl (cI, 1768, .inl sd)), (ad 4, .inl (cI, 80, .inl tx)), (ad 5, .inl (cI, 8, .inl ds)), (ad 6, .inl (cI, 8, .inl rg))]) (Wc := []) (Z := []) (As := [.int p0]) (rest := [.ref (ad 0)]) ⟨hx, hb, hml, hown, hts⟩ (c_X5_isResource l D cI cT p0) (va_cwS 1 hts gX5_queueLength_X5_isResource rfl rfl rfl (by decide +kernel) ⟨Nat.le_of_ble_eq_true rfl, Nat.le_of_ble_eq_true rfl⟩) hK (P_nilr hP) (D_nilr hD) hS hA (fun _ => rfl) rfl hl.1 rfl (Nat.le_of_ble_eq_true rfl) ⟨by decide, by decide⟩ dX5_queueLength_2 (fun rv _ H locs hp hP hD hS => ?_)
  obtain rfl := hp
  have hP := P_nil2 hP
  have hD := D_nil2 hD
  have hP : va_P D vwCl ([(ad 0, .inr (5, [.int th, .ref (ad 1), .ref (ad 2), .ref (ad 3), .int (nI HS.length), .ref (ad 4), .int (nI len), .int vs, .ref (ad 5), .ref (ad 6), .int rl, .int cm, .int fi, .int se])), (ad 1, .inl (cI, 221, .inl z)), (ad 2, .inl (cI, 221, .inl zs)), (ad 3, .inl (cI, 1768, .inl sd)), (ad 4, .inl (cI, 80, .inl tx)), (ad 5, .inl (cI, 8, .inl ds)), (ad 6, .inl (cI, 8, .inl rg))]) H := hP
  have hD : va_D A ([(ad 0, .inr (5, [.int th, .ref (ad 1), .ref (ad 2), .ref (ad 3), .int (nI HS.length), .ref (ad 4), .int (nI len), .int vs, .ref (ad 5), .ref (ad 6), .int rl, .int cm, .int fi, .int se])), (ad 1, .inl (cI, 221, .inl z)), (ad 2, .inl (cI, 221, .inl zs)), (ad 3, .inl (cI, 1768, .inl sd)), (ad 4, .inl (cI, 80, .inl tx)), (ad 5, .inl (cI, 8, .inl ds)), (ad 6, .inl (cI, 8, .inl rg))]) := hD
  refine lv_if_eq (tgt := 12) hx hb dX5_queueLength_5 (by decide) (fun h_1 => ?_) (fun h_1 => ?_)
  · have h_1 := (nI_eq (a := ((inI p0 10).toNat)) (b := 0) (by first | omega | exact bits_lt31 _ | exact bitN_lt _ _ | exact bool_lt _ | exact and_lt31 _ _ _ _ | exact Nat.lt_of_le_of_lt (dst_lt _ _ _ (by omega) _) (by decide) | exact Nat.lt_of_le_of_lt (nrB_le _ _ _ (by omega)).2 (by decide) | decide) (by first | omega | exact bits_lt31 _ | exact bitN_lt _ _ | exact bool_lt _ | exact and_lt31 _ _ _ _ | exact Nat.lt_of_le_of_lt (dst_lt _ _ _ (by omega) _) (by decide) | exact Nat.lt_of_le_of_lt (nrB_le _ _ _ (by omega)).2 (by decide) | decide)).mp h_1
    have h_1 := tn_f h_1
    refine lv_iconst (v := (nI 1)) hx hb dX5_queueLength_12 (by decide) ?_
    refine va_put (D := D) (ci := 5) (v := .int (nI 1)) (ty := .int) (C := RX5) (T := TX5) (N := 14) hx hb hts iX5 tyX5 tyX5_ok nmX5 hown hK hP hD hS 0 rfl rfl 0 (by decide) f32 (fun _ h9 => h9) rfl (by decide +kernel) rfl rfl (Nat.le_of_ble_eq_true rfl) dX5_queueLength_13 (fun H locs hP hD hS => ?_)
    have hP : va_P D vwCl ([(ad 0, .inr (5, [.int (nI 1), .ref (ad 1), .ref (ad 2), .ref (ad 3), .int (nI HS.length), .ref (ad 4), .int (nI len), .int vs, .ref (ad 5), .ref (ad 6), .int rl, .int cm, .int fi, .int se])), (ad 1, .inl (cI, 221, .inl z)), (ad 2, .inl (cI, 221, .inl zs)), (ad 3, .inl (cI, 1768, .inl sd)), (ad 4, .inl (cI, 80, .inl tx)), (ad 5, .inl (cI, 8, .inl ds)), (ad 6, .inl (cI, 8, .inl rg))]) H := hP
    have hD : va_D A ([(ad 0, .inr (5, [.int (nI 1), .ref (ad 1), .ref (ad 2), .ref (ad 3), .int (nI HS.length), .ref (ad 4), .int (nI len), .int vs, .ref (ad 5), .ref (ad 6), .int rl, .int cm, .int fi, .int se])), (ad 1, .inl (cI, 221, .inl z)), (ad 2, .inl (cI, 221, .inl zs)), (ad 3, .inl (cI, 1768, .inl sd)), (ad 4, .inl (cI, 80, .inl tx)), (ad 5, .inl (cI, 8, .inl ds)), (ad 6, .inl (cI, 8, .inl rg))]) := hD
    refine lv_aload_n hx hb dX5_queueLength_16 rfl (lv_at hl 0 rfl) ?_
    refine va_get (D := D) (ci := 5) (v := .int (nI 1)) (C := RX5) (T := TX5) (N := 14) hx hb hts iX5 hown hK hP 0 rfl rfl 0 (by decide) f32 (fun _ h9 => h9) rfl dX5_queueLength_17 ?_
    refine lv_if_le (tgt := 27) hx hb dX5_queueLength_20 (by decide) (fun h => absurd h (by decide)) (fun _ => ?_)
    refine lv_iconst (v := (nI 0)) hx hb dX5_queueLength_23 (by decide) ?_
    refine lv_goto (tgt := 32) hx hb dX5_queueLength_24 (by decide) ?_
    exact ret_i (u := ((nI 1), vs, rl, cm, fi, se, z, zs, sd, tx, ds, rg)) hQ hx hb hrt hlk hS dX5_queueLength_32 (by rw [opR_1 h_1]; exact hP) (by rw [opR_1 h_1]; exact ⟨rfl, rfl, (LZ.mono hL (by omega))⟩)
  · have h_1 := mt (nI_eq (a := ((inI p0 10).toNat)) (b := 0) (by first | omega | exact bits_lt31 _ | exact bitN_lt _ _ | exact bool_lt _ | exact and_lt31 _ _ _ _ | exact Nat.lt_of_le_of_lt (dst_lt _ _ _ (by omega) _) (by decide) | exact Nat.lt_of_le_of_lt (nrB_le _ _ _ (by omega)).2 (by decide) | decide) (by first | omega | exact bits_lt31 _ | exact bitN_lt _ _ | exact bool_lt _ | exact and_lt31 _ _ _ _ | exact Nat.lt_of_le_of_lt (dst_lt _ _ _ (by omega) _) (by decide) | exact Nat.lt_of_le_of_lt (nrB_le _ _ _ (by omega)).2 (by decide) | decide)).mpr h_1
    have h_1 := tn_y h_1
    obtain ⟨r9, hr9, er9⟩ := inI_t (by decide) h_1
    rw [er9] at hl
    refine lv_iconst (v := (nI 0)) hx hb dX5_queueLength_8 (by decide) ?_
    refine lv_goto (tgt := 13) hx hb dX5_queueLength_9 (by decide) ?_
    refine va_put (D := D) (ci := 5) (v := .int (nI 0)) (ty := .int) (C := RX5) (T := TX5) (N := 14) hx hb hts iX5 tyX5 tyX5_ok nmX5 hown hK hP hD hS 0 rfl rfl 0 (by decide) f32 (fun _ h9 => h9) rfl (by decide +kernel) rfl rfl (Nat.le_of_ble_eq_true rfl) dX5_queueLength_13 (fun H locs hP hD hS => ?_)
    have hP : va_P D vwCl ([(ad 0, .inr (5, [.int (nI 0), .ref (ad 1), .ref (ad 2), .ref (ad 3), .int (nI HS.length), .ref (ad 4), .int (nI len), .int vs, .ref (ad 5), .ref (ad 6), .int rl, .int cm, .int fi, .int se])), (ad 1, .inl (cI, 221, .inl z)), (ad 2, .inl (cI, 221, .inl zs)), (ad 3, .inl (cI, 1768, .inl sd)), (ad 4, .inl (cI, 80, .inl tx)), (ad 5, .inl (cI, 8, .inl ds)), (ad 6, .inl (cI, 8, .inl rg))]) H := hP
    have hD : va_D A ([(ad 0, .inr (5, [.int (nI 0), .ref (ad 1), .ref (ad 2), .ref (ad 3), .int (nI HS.length), .ref (ad 4), .int (nI len), .int vs, .ref (ad 5), .ref (ad 6), .int rl, .int cm, .int fi, .int se])), (ad 1, .inl (cI, 221, .inl z)), (ad 2, .inl (cI, 221, .inl zs)), (ad 3, .inl (cI, 1768, .inl sd)), (ad 4, .inl (cI, 80, .inl tx)), (ad 5, .inl (cI, 8, .inl ds)), (ad 6, .inl (cI, 8, .inl rg))]) := hD
    refine lv_aload_n hx hb dX5_queueLength_16 rfl (lv_at hl 0 rfl) ?_
    refine va_get (D := D) (ci := 5) (v := .int (nI 0)) (C := RX5) (T := TX5) (N := 14) hx hb hts iX5 hown hK hP 0 rfl rfl 0 (by decide) f32 (fun _ h9 => h9) rfl dX5_queueLength_17 ?_
    refine lv_if_le (tgt := 27) hx hb dX5_queueLength_20 (by decide) (fun _ => ?_) (fun h => absurd (by decide) h)
    refine lv_aload_n hx hb dX5_queueLength_27 rfl (lv_at hl 0 rfl) ?_
    refine lv_iload_n hx hb dX5_queueLength_28 rfl (lv_at hl 1 rfl) ?_
    refine call_i (X := []) (Z := []) (As := [.int (nI r9)]) (rest := []) ⟨hx, hb, hml, hown, hts⟩ (c_X5_queueOf l D cI cT ad (nI 0) (nI HS.length) (nI len) vs rl cm fi se z zs sd tx ds rg r9 (by omega)) (cwV 1 hts gX5_queueLength_X5_queueOf rfl rfl rfl (by decide +kernel) ⟨Nat.le_of_ble_eq_true rfl, Nat.le_of_ble_eq_true rfl⟩) hK hP hD hS hA (va_recv hK hP (ci := 5) (q0 := 0) rfl rfl) (fun _ => rfl) rfl hl.1 rfl (Nat.le_of_ble_eq_true rfl) ⟨by decide, by decide⟩ dX5_queueLength_29 (fun rv _ H locs hp hP hD hS => ?_)
    obtain rfl := hp
    have hP : va_P D vwCl ([(ad 0, .inr (5, [.int (nI 0), .ref (ad 1), .ref (ad 2), .ref (ad 3), .int (nI HS.length), .ref (ad 4), .int (nI len), .int vs, .ref (ad 5), .ref (ad 6), .int rl, .int cm, .int fi, .int se])), (ad 1, .inl (cI, 221, .inl z)), (ad 2, .inl (cI, 221, .inl zs)), (ad 3, .inl (cI, 1768, .inl sd)), (ad 4, .inl (cI, 80, .inl tx)), (ad 5, .inl (cI, 8, .inl ds)), (ad 6, .inl (cI, 8, .inl rg))]) H := hP
    have hD : va_D A ([(ad 0, .inr (5, [.int (nI 0), .ref (ad 1), .ref (ad 2), .ref (ad 3), .int (nI HS.length), .ref (ad 4), .int (nI len), .int vs, .ref (ad 5), .ref (ad 6), .int rl, .int cm, .int fi, .int se])), (ad 1, .inl (cI, 221, .inl z)), (ad 2, .inl (cI, 221, .inl zs)), (ad 3, .inl (cI, 1768, .inl sd)), (ad 4, .inl (cI, 80, .inl tx)), (ad 5, .inl (cI, 8, .inl ds)), (ad 6, .inl (cI, 8, .inl rg))]) := hD
    have hq8 := JJ_len hJ (show r9 < 10 by omega)
    refine tpe (y := nI (qlen Q0 r9)) (RZ_n hZ (by omega)) ?_
    exact ret_i (u := ((nI 0), vs, rl, cm, fi, se, z, zs, sd, tx, ds, rg)) hQ hx hb hrt hlk hS dX5_queueLength_32 (by rw [er9, opR_0 hr9]; exact hP) (by rw [er9, opR_0 hr9]; exact ⟨rfl, rfl, (LZ.mono hL (by omega))⟩)

abbrev rX5_holders : Room := { frames := 2, cells := 0, slots := 0, locals := 42 }
set_option maxHeartbeats 1000000 in
set_option maxRecDepth 100000 in
theorem c_X5_holders (l : Launch) (D : va_G) (cI cT : ClassId) (ad : Nat → Nat) (th sv ln vs rl cm fi se : Int32) (z zs sd tx ds rg : Nat → Int32) (F : FF) (Q0 : QQ) (HS : List (FF × QQ)) (sg : Nat → Nat) (len n : Nat) (p0 : Int32) (hL : LZ n (F, Q0, HS, sg, len) z sd tx) (hn : n + 80 < 2 ^ 31) : CN l D cI cT yX5_holders wsX5_holders rX5_holders [.ref (ad 0), .int p0] (refW cI ad th (nI HS.length) (nI len) vs rl cm fi se z zs sd tx ds rg) (S := JR) (fun v u => v = (opR (F, Q0, HS, sg, len) p0 (fun r => nI (bits (hldB F r) 8))).2.1 ∧ u.1 = nI (opR (F, Q0, HS, sg, len) p0 (fun r => nI (bits (hldB F r) 8))).1 ∧ LZu (n + 80) (opR (F, Q0, HS, sg, len) p0 (fun r => nI (bits (hldB F r) 8))).2.2 u) (fun u => rfW cI ad (opR (F, Q0, HS, sg, len) p0 (fun r => nI (bits (hldB F r) 8))).2.2 u) := by
  refine CN.of (cc := cX5_holders) (maxL := 4) (ret := (some .int)) (by decide) rfl (Nat.le_of_ble_eq_true rfl) ?_
  intro p e s m args below meth c A Q hQ B hA H locs hP hK hD hS ls hl
  obtain ⟨hx, hb, hml, hrt, hts, hown, hlk⟩ := B
  have hP : va_P D vwCl ([(ad 0, .inr (5, [.int th, .ref (ad 1), .ref (ad 2), .ref (ad 3), .int (nI HS.length), .ref (ad 4), .int (nI len), .int vs, .ref (ad 5), .ref (ad 6), .int rl, .int cm, .int fi, .int se])), (ad 1, .inl (cI, 221, .inl z)), (ad 2, .inl (cI, 221, .inl zs)), (ad 3, .inl (cI, 1768, .inl sd)), (ad 4, .inl (cI, 80, .inl tx)), (ad 5, .inl (cI, 8, .inl ds)), (ad 6, .inl (cI, 8, .inl rg))]) H := hP
  have hD : va_D A ([(ad 0, .inr (5, [.int th, .ref (ad 1), .ref (ad 2), .ref (ad 3), .int (nI HS.length), .ref (ad 4), .int (nI len), .int vs, .ref (ad 5), .ref (ad 6), .int rl, .int cm, .int fi, .int se])), (ad 1, .inl (cI, 221, .inl z)), (ad 2, .inl (cI, 221, .inl zs)), (ad 3, .inl (cI, 1768, .inl sd)), (ad 4, .inl (cI, 80, .inl tx)), (ad 5, .inl (cI, 8, .inl ds)), (ad 6, .inl (cI, 8, .inl rg))]) := hD
  have hl : lv_has ls 4 [(0, .ref (ad 0)), (1, .int p0)] := hl
  obtain ⟨hJ, hC, hZ, hl8, hH, hHS, hlen, htx, hsg⟩ := hL
  dsimp only at hJ hC hZ hl8 hH hHS hlen htx hsg
  have hL := LZ_mk hJ hC hZ hl8 hH hHS hlen htx hsg
  have hB := hC.jb
  have hn8 := hC.n8 (by omega)
  have hHJ : ∀ q ∈ HS, JJ q.1 q.2 := fun q hq => (hHS q hq).1
  have iX5 : ∀ w ∈ u_ws RX5 TX5 14, w ∈ wsX5_holders := by decide +kernel
  have f32 := hts (.fieldLink RX5 32 "LockManagerModel" "thrown" "I") (by decide +kernel)
  refine lv_aload_n hx hb dX5_holders_0 rfl (lv_at hl 0 rfl) ?_
  refine lv_iload_n hx hb dX5_holders_1 rfl (lv_at hl 1 rfl) ?_
  refine call_s (X := [(ad 0, .inr (5, [.int th, .ref (ad 1), .ref (ad 2), .ref (ad 3), .int (nI HS.length), .ref (ad 4), .int (nI len), .int vs, .ref (ad 5), .ref (ad 6), .int rl, .int cm, .int fi, .int se])), (ad 1, .inl (cI, 221, .inl z)), (ad 2, .inl (cI, 221, .inl zs)), (ad 3, .inl (cI, 1768, .inl sd)), (ad 4, .inl (cI, 80, .inl tx)), (ad 5, .inl (cI, 8, .inl ds)), (ad 6, .inl (cI, 8, .inl rg))]) (Wc := []) (Z := []) (As := [.int p0]) (rest := [.ref (ad 0)]) ⟨hx, hb, hml, hown, hts⟩ (c_X5_isResource l D cI cT p0) (va_cwS 1 hts gX5_holders_X5_isResource rfl rfl rfl (by decide +kernel) ⟨Nat.le_of_ble_eq_true rfl, Nat.le_of_ble_eq_true rfl⟩) hK (P_nilr hP) (D_nilr hD) hS hA (fun _ => rfl) rfl hl.1 rfl (Nat.le_of_ble_eq_true rfl) ⟨by decide, by decide⟩ dX5_holders_2 (fun rv _ H locs hp hP hD hS => ?_)
  obtain rfl := hp
  have hP := P_nil2 hP
  have hD := D_nil2 hD
  have hP : va_P D vwCl ([(ad 0, .inr (5, [.int th, .ref (ad 1), .ref (ad 2), .ref (ad 3), .int (nI HS.length), .ref (ad 4), .int (nI len), .int vs, .ref (ad 5), .ref (ad 6), .int rl, .int cm, .int fi, .int se])), (ad 1, .inl (cI, 221, .inl z)), (ad 2, .inl (cI, 221, .inl zs)), (ad 3, .inl (cI, 1768, .inl sd)), (ad 4, .inl (cI, 80, .inl tx)), (ad 5, .inl (cI, 8, .inl ds)), (ad 6, .inl (cI, 8, .inl rg))]) H := hP
  have hD : va_D A ([(ad 0, .inr (5, [.int th, .ref (ad 1), .ref (ad 2), .ref (ad 3), .int (nI HS.length), .ref (ad 4), .int (nI len), .int vs, .ref (ad 5), .ref (ad 6), .int rl, .int cm, .int fi, .int se])), (ad 1, .inl (cI, 221, .inl z)), (ad 2, .inl (cI, 221, .inl zs)), (ad 3, .inl (cI, 1768, .inl sd)), (ad 4, .inl (cI, 80, .inl tx)), (ad 5, .inl (cI, 8, .inl ds)), (ad 6, .inl (cI, 8, .inl rg))]) := hD
  refine lv_if_eq (tgt := 12) hx hb dX5_holders_5 (by decide) (fun h_1 => ?_) (fun h_1 => ?_)
  · have h_1 := (nI_eq (a := ((inI p0 10).toNat)) (b := 0) (by first | omega | exact bits_lt31 _ | exact bitN_lt _ _ | exact bool_lt _ | exact and_lt31 _ _ _ _ | exact Nat.lt_of_le_of_lt (dst_lt _ _ _ (by omega) _) (by decide) | exact Nat.lt_of_le_of_lt (nrB_le _ _ _ (by omega)).2 (by decide) | decide) (by first | omega | exact bits_lt31 _ | exact bitN_lt _ _ | exact bool_lt _ | exact and_lt31 _ _ _ _ | exact Nat.lt_of_le_of_lt (dst_lt _ _ _ (by omega) _) (by decide) | exact Nat.lt_of_le_of_lt (nrB_le _ _ _ (by omega)).2 (by decide) | decide)).mp h_1
    have h_1 := tn_f h_1
    refine lv_iconst (v := (nI 1)) hx hb dX5_holders_12 (by decide) ?_
    refine va_put (D := D) (ci := 5) (v := .int (nI 1)) (ty := .int) (C := RX5) (T := TX5) (N := 14) hx hb hts iX5 tyX5 tyX5_ok nmX5 hown hK hP hD hS 0 rfl rfl 0 (by decide) f32 (fun _ h9 => h9) rfl (by decide +kernel) rfl rfl (Nat.le_of_ble_eq_true rfl) dX5_holders_13 (fun H locs hP hD hS => ?_)
    have hP : va_P D vwCl ([(ad 0, .inr (5, [.int (nI 1), .ref (ad 1), .ref (ad 2), .ref (ad 3), .int (nI HS.length), .ref (ad 4), .int (nI len), .int vs, .ref (ad 5), .ref (ad 6), .int rl, .int cm, .int fi, .int se])), (ad 1, .inl (cI, 221, .inl z)), (ad 2, .inl (cI, 221, .inl zs)), (ad 3, .inl (cI, 1768, .inl sd)), (ad 4, .inl (cI, 80, .inl tx)), (ad 5, .inl (cI, 8, .inl ds)), (ad 6, .inl (cI, 8, .inl rg))]) H := hP
    have hD : va_D A ([(ad 0, .inr (5, [.int (nI 1), .ref (ad 1), .ref (ad 2), .ref (ad 3), .int (nI HS.length), .ref (ad 4), .int (nI len), .int vs, .ref (ad 5), .ref (ad 6), .int rl, .int cm, .int fi, .int se])), (ad 1, .inl (cI, 221, .inl z)), (ad 2, .inl (cI, 221, .inl zs)), (ad 3, .inl (cI, 1768, .inl sd)), (ad 4, .inl (cI, 80, .inl tx)), (ad 5, .inl (cI, 8, .inl ds)), (ad 6, .inl (cI, 8, .inl rg))]) := hD
    refine lv_iconst (v := (nI 0)) hx hb dX5_holders_16 (by decide) ?_
    refine lv_istore_n (lv' := [(2, .int (nI 0)), (0, .ref (ad 0)), (1, .int p0)]) hx hb dX5_holders_17 rfl hl (by decide) rfl (fun ls hl => ?_)
    refine lv_iconst (v := (nI 0)) hx hb dX5_holders_18 (by decide) ?_
    refine lv_istore_n (lv' := [(3, .int (nI 0)), (2, .int (nI 0)), (0, .ref (ad 0)), (1, .int p0)]) hx hb dX5_holders_19 rfl hl (by decide) rfl (fun ls hl => ?_)
    refine lv_iload_n hx hb dX5_holders_20 rfl (lv_at hl 0 rfl) ?_
    refine lv_bipush (v := (nI 8)) hx hb dX5_holders_21 (by decide) ?_
    refine lv_icmp_ge (tgt := 58) hx hb dX5_holders_23 (by decide) (fun h => absurd h (by decide)) (fun _ => ?_)
    refine lv_aload_n hx hb dX5_holders_26 rfl (lv_at hl 2 rfl) ?_
    refine va_get (D := D) (ci := 5) (v := .int (nI 1)) (C := RX5) (T := TX5) (N := 14) hx hb hts iX5 hown hK hP 0 rfl rfl 0 (by decide) f32 (fun _ h9 => h9) rfl dX5_holders_27 ?_
    refine lv_if_ne (tgt := 58) hx hb dX5_holders_30 (by decide) (fun _ => ?_) (fun h => absurd h (by decide))
    refine lv_iload_n hx hb dX5_holders_58 rfl (lv_at hl 1 rfl) ?_
    exact ret_i (u := ((nI 1), vs, rl, cm, fi, se, z, zs, sd, tx, ds, rg)) hQ hx hb hrt hlk hS dX5_holders_59 (by rw [opR_1 h_1]; exact hP) (by rw [opR_1 h_1]; exact ⟨rfl, rfl, (LZ.mono hL (by omega))⟩)
  · have h_1 := mt (nI_eq (a := ((inI p0 10).toNat)) (b := 0) (by first | omega | exact bits_lt31 _ | exact bitN_lt _ _ | exact bool_lt _ | exact and_lt31 _ _ _ _ | exact Nat.lt_of_le_of_lt (dst_lt _ _ _ (by omega) _) (by decide) | exact Nat.lt_of_le_of_lt (nrB_le _ _ _ (by omega)).2 (by decide) | decide) (by first | omega | exact bits_lt31 _ | exact bitN_lt _ _ | exact bool_lt _ | exact and_lt31 _ _ _ _ | exact Nat.lt_of_le_of_lt (dst_lt _ _ _ (by omega) _) (by decide) | exact Nat.lt_of_le_of_lt (nrB_le _ _ _ (by omega)).2 (by decide) | decide)).mpr h_1
    have h_1 := tn_y h_1
    obtain ⟨r9, hr9, er9⟩ := inI_t (by decide) h_1
    rw [er9] at hl
    refine lv_iconst (v := (nI 0)) hx hb dX5_holders_8 (by decide) ?_
    refine lv_goto (tgt := 13) hx hb dX5_holders_9 (by decide) ?_
    refine va_put (D := D) (ci := 5) (v := .int (nI 0)) (ty := .int) (C := RX5) (T := TX5) (N := 14) hx hb hts iX5 tyX5 tyX5_ok nmX5 hown hK hP hD hS 0 rfl rfl 0 (by decide) f32 (fun _ h9 => h9) rfl (by decide +kernel) rfl rfl (Nat.le_of_ble_eq_true rfl) dX5_holders_13 (fun H locs hP hD hS => ?_)
    have hP : va_P D vwCl ([(ad 0, .inr (5, [.int (nI 0), .ref (ad 1), .ref (ad 2), .ref (ad 3), .int (nI HS.length), .ref (ad 4), .int (nI len), .int vs, .ref (ad 5), .ref (ad 6), .int rl, .int cm, .int fi, .int se])), (ad 1, .inl (cI, 221, .inl z)), (ad 2, .inl (cI, 221, .inl zs)), (ad 3, .inl (cI, 1768, .inl sd)), (ad 4, .inl (cI, 80, .inl tx)), (ad 5, .inl (cI, 8, .inl ds)), (ad 6, .inl (cI, 8, .inl rg))]) H := hP
    have hD : va_D A ([(ad 0, .inr (5, [.int (nI 0), .ref (ad 1), .ref (ad 2), .ref (ad 3), .int (nI HS.length), .ref (ad 4), .int (nI len), .int vs, .ref (ad 5), .ref (ad 6), .int rl, .int cm, .int fi, .int se])), (ad 1, .inl (cI, 221, .inl z)), (ad 2, .inl (cI, 221, .inl zs)), (ad 3, .inl (cI, 1768, .inl sd)), (ad 4, .inl (cI, 80, .inl tx)), (ad 5, .inl (cI, 8, .inl ds)), (ad 6, .inl (cI, 8, .inl rg))]) := hD
    refine lv_iconst (v := (nI 0)) hx hb dX5_holders_16 (by decide) ?_
    refine lv_istore_n (lv' := [(2, .int (nI 0)), (0, .ref (ad 0)), (1, .int (nI r9))]) hx hb dX5_holders_17 rfl hl (by decide) rfl (fun ls hl => ?_)
    refine lv_iconst (v := (nI 0)) hx hb dX5_holders_18 (by decide) ?_
    refine lv_istore_n (lv' := [(3, .int (nI 0)), (2, .int (nI 0)), (0, .ref (ad 0)), (1, .int (nI r9))]) hx hb dX5_holders_19 rfl hl (by decide) rfl (fun ls hl => ?_)
    have L20 : ∀ (N : Nat) (i : Nat), (i ≤ 8) → (8 - i) < N → ∀ (H : Heap) (locs : List Loc), va_P D vwCl ([(ad 0, .inr (5, [.int (nI 0), .ref (ad 1), .ref (ad 2), .ref (ad 3), .int (nI HS.length), .ref (ad 4), .int (nI len), .int vs, .ref (ad 5), .ref (ad 6), .int rl, .int cm, .int fi, .int se])), (ad 1, .inl (cI, 221, .inl z)), (ad 2, .inl (cI, 221, .inl zs)), (ad 3, .inl (cI, 1768, .inl sd)), (ad 4, .inl (cI, 80, .inl tx)), (ad 5, .inl (cI, 8, .inl ds)), (ad 6, .inl (cI, 8, .inl rg))]) H → va_D A ([(ad 0, .inr (5, [.int (nI 0), .ref (ad 1), .ref (ad 2), .ref (ad 3), .int (nI HS.length), .ref (ad 4), .int (nI len), .int vs, .ref (ad 5), .ref (ad 6), .int rl, .int cm, .int fi, .int se])), (ad 1, .inl (cI, 221, .inl z)), (ad 2, .inl (cI, 221, .inl zs)), (ad 3, .inl (cI, 1768, .inl sd)), (ad 4, .inl (cI, 80, .inl tx)), (ad 5, .inl (cI, 8, .inl ds)), (ad 6, .inl (cI, 8, .inl rg))]) → va_S A s.heap H locs → ∀ ls : Array Slot, lv_has ls 4 [(0, .ref (ad 0)), (1, .int (nI r9)), (2, .int (nI (bits (hldB F r9) i))), (3, .int (nI i))] → W p l e rX5_holders s m args below meth c H locs 0 0 Q (F0 m 20 ls []) := by
      intro N20
      induction N20 with
      | zero => intro i hi hN; exact absurd hN (Nat.not_lt_zero _)
      | succ N20 ih20 =>
        intro i hi hN H locs hP hD hS ls hl
        refine lv_iload_n hx hb dX5_holders_20 rfl (lv_at hl 3 rfl) ?_
        refine lv_bipush (v := (nI 8)) hx hb dX5_holders_21 (by decide) ?_
        refine lv_icmp_ge (tgt := 58) hx hb dX5_holders_23 (by decide) (fun h_2 => ?_) (fun h_2 => ?_)
        · have h_2 := (nI_leI (a := 8) (b := i) (by first | omega | exact bits_lt31 _ | exact bitN_lt _ _ | exact bool_lt _ | exact and_lt31 _ _ _ _ | exact Nat.lt_of_le_of_lt (dst_lt _ _ _ (by omega) _) (by decide) | exact Nat.lt_of_le_of_lt (nrB_le _ _ _ (by omega)).2 (by decide) | decide) (by first | omega | exact bits_lt31 _ | exact bitN_lt _ _ | exact bool_lt _ | exact and_lt31 _ _ _ _ | exact Nat.lt_of_le_of_lt (dst_lt _ _ _ (by omega) _) (by decide) | exact Nat.lt_of_le_of_lt (nrB_le _ _ _ (by omega)).2 (by decide) | decide)).mp h_2
          refine lv_iload_n hx hb dX5_holders_58 rfl (lv_at hl 2 rfl) ?_
          exact ret_i (u := ((nI 0), vs, rl, cm, fi, se, z, zs, sd, tx, ds, rg)) hQ hx hb hrt hlk hS dX5_holders_59 (by rw [er9, opR_0 hr9]; exact hP) (by rw [er9, opR_0 hr9]; exact ⟨(by rw [show i = 8 by omega]), rfl, (LZ.mono hL (by omega))⟩)
        · have h_2 := mt (nI_leI (a := 8) (b := i) (by first | omega | exact bits_lt31 _ | exact bitN_lt _ _ | exact bool_lt _ | exact and_lt31 _ _ _ _ | exact Nat.lt_of_le_of_lt (dst_lt _ _ _ (by omega) _) (by decide) | exact Nat.lt_of_le_of_lt (nrB_le _ _ _ (by omega)).2 (by decide) | decide) (by first | omega | exact bits_lt31 _ | exact bitN_lt _ _ | exact bool_lt _ | exact and_lt31 _ _ _ _ | exact Nat.lt_of_le_of_lt (dst_lt _ _ _ (by omega) _) (by decide) | exact Nat.lt_of_le_of_lt (nrB_le _ _ _ (by omega)).2 (by decide) | decide)).mpr h_2
          refine lv_aload_n hx hb dX5_holders_26 rfl (lv_at hl 0 rfl) ?_
          refine va_get (D := D) (ci := 5) (v := .int (nI 0)) (C := RX5) (T := TX5) (N := 14) hx hb hts iX5 hown hK hP 0 rfl rfl 0 (by decide) f32 (fun _ h9 => h9) rfl dX5_holders_27 ?_
          refine lv_if_ne (tgt := 58) hx hb dX5_holders_30 (by decide) (fun h => absurd (by decide) h) (fun _ => ?_)
          refine lv_iload_n hx hb dX5_holders_33 rfl (lv_at hl 2 rfl) ?_
          refine lv_aload_n hx hb dX5_holders_34 rfl (lv_at hl 0 rfl) ?_
          refine lv_iload_n hx hb dX5_holders_35 rfl (lv_at hl 3 rfl) ?_
          refine lv_iload_n hx hb dX5_holders_36 rfl (lv_at hl 1 rfl) ?_
          refine call_i (X := []) (Z := []) (As := [.int (nI i), .int (nI r9)]) (rest := [.int (nI (bits (hldB F r9) i))]) ⟨hx, hb, hml, hown, hts⟩ (c_X5_lock l D cI cT ad (nI 0) (nI HS.length) (nI len) vs rl cm fi se z zs sd tx ds rg i r9 (by omega)) (cwV 2 hts gX5_holders_X5_lock rfl rfl rfl (by decide +kernel) ⟨Nat.le_of_ble_eq_true rfl, Nat.le_of_ble_eq_true rfl⟩) hK hP hD hS hA (va_recv hK hP (ci := 5) (q0 := 0) rfl rfl) (fun _ => rfl) rfl hl.1 rfl (Nat.le_of_ble_eq_true rfl) ⟨by decide, by decide⟩ dX5_holders_37 (fun rv _ H locs hp hP hD hS => ?_)
          obtain rfl := hp
          have hP : va_P D vwCl ([(ad 0, .inr (5, [.int (nI 0), .ref (ad 1), .ref (ad 2), .ref (ad 3), .int (nI HS.length), .ref (ad 4), .int (nI len), .int vs, .ref (ad 5), .ref (ad 6), .int rl, .int cm, .int fi, .int se])), (ad 1, .inl (cI, 221, .inl z)), (ad 2, .inl (cI, 221, .inl zs)), (ad 3, .inl (cI, 1768, .inl sd)), (ad 4, .inl (cI, 80, .inl tx)), (ad 5, .inl (cI, 8, .inl ds)), (ad 6, .inl (cI, 8, .inl rg))]) H := hP
          have hD : va_D A ([(ad 0, .inr (5, [.int (nI 0), .ref (ad 1), .ref (ad 2), .ref (ad 3), .int (nI HS.length), .ref (ad 4), .int (nI len), .int vs, .ref (ad 5), .ref (ad 6), .int rl, .int cm, .int fi, .int se])), (ad 1, .inl (cI, 221, .inl z)), (ad 2, .inl (cI, 221, .inl zs)), (ad 3, .inl (cI, 1768, .inl sd)), (ad 4, .inl (cI, 80, .inl tx)), (ad 5, .inl (cI, 8, .inl ds)), (ad 6, .inl (cI, 8, .inl rg))]) := hD
          refine tpe (y := lk F i r9) (RZ_lk hZ (by omega) (by omega)) ?_
          refine lv_if_le (tgt := 49) hx hb dX5_holders_40 (by decide) (fun h_3 => ?_) (fun h_3 => ?_)
          · have h_3 := h_3
            refine lv_iconst (v := (nI 0)) hx hb dX5_holders_49 (by decide) ?_
            refine lv_ior hx hb dX5_holders_50 ?_
            refine lv_istore_n (lv' := [(2, .int ((nI (bits (hldB F r9) i)) ||| (nI 0))), (0, .ref (ad 0)), (1, .int (nI r9)), (3, .int (nI i))]) hx hb dX5_holders_51 rfl hl (by decide) rfl (fun ls hl => ?_)
            refine lv_iinc (v := (nI (i + 1))) (lv' := [(3, .int (nI (i + 1))), (2, .int ((nI (bits (hldB F r9) i)) ||| (nI 0))), (0, .ref (ad 0)), (1, .int (nI r9))]) hx hb dX5_holders_52 hl (k := 3) rfl (nI_add _ 1) (by decide) rfl (fun ls hl => ?_)
            refine lv_goto (tgt := 20) hx hb dX5_holders_55 (by decide) ?_
            rw [show ((nI (bits (hldB F r9) i)) ||| (nI 0)) = (nI (bits (hldB F r9) (i + 1))) from ((or_z _).trans (bits_f (by rw [hldB, bq_t ((lk_le hJ (by omega) hr9).mp h_3)]; rfl)))] at hl
            exact ih20 (i + 1) (by omega) (by omega) _ _ hP hD hS _ (lv_sub hl [2, 3, 1, 0] rfl)
          · have h_3 := h_3
            refine lv_iconst (v := (nI 1)) hx hb dX5_holders_43 (by decide) ?_
            refine lv_iload_n hx hb dX5_holders_44 rfl (lv_at hl 3 rfl) ?_
            refine lv_ishl hx hb dX5_holders_45 ?_
            refine lv_goto (tgt := 50) hx hb dX5_holders_46 (by decide) ?_
            refine lv_ior hx hb dX5_holders_50 ?_
            refine lv_istore_n (lv' := [(2, .int ((nI (bits (hldB F r9) i)) ||| ((nI 1) <<< ((nI i) &&& 31)))), (0, .ref (ad 0)), (1, .int (nI r9)), (3, .int (nI i))]) hx hb dX5_holders_51 rfl hl (by decide) rfl (fun ls hl => ?_)
            refine lv_iinc (v := (nI (i + 1))) (lv' := [(3, .int (nI (i + 1))), (2, .int ((nI (bits (hldB F r9) i)) ||| ((nI 1) <<< ((nI i) &&& 31)))), (0, .ref (ad 0)), (1, .int (nI r9))]) hx hb dX5_holders_52 hl (k := 3) rfl (nI_add _ 1) (by decide) rfl (fun ls hl => ?_)
            refine lv_goto (tgt := 20) hx hb dX5_holders_55 (by decide) ?_
            rw [show ((nI (bits (hldB F r9) i)) ||| ((nI 1) <<< ((nI i) &&& 31))) = (nI (bits (hldB F r9) (i + 1))) from (bits_t (by omega) (by rw [hldB, bq_f (fun q => h_3 ((lk_le hJ (by omega) hr9).mpr q))]; rfl))] at hl
            exact ih20 (i + 1) (by omega) (by omega) _ _ hP hD hS _ (lv_sub hl [2, 3, 1, 0] rfl)
    rw [show (nI 0) = (nI (bits (hldB F r9) 0)) from rfl] at hl
    exact L20 _ 0 (Nat.zero_le _) (Nat.lt_succ_self _) _ _ hP hD hS _ (lv_sub hl [2, 3, 1, 0] rfl)

abbrev rX5_queued : Room := { frames := 2, cells := 0, slots := 0, locals := 42 }
set_option maxHeartbeats 1000000 in
set_option maxRecDepth 100000 in
theorem c_X5_queued (l : Launch) (D : va_G) (cI cT : ClassId) (ad : Nat → Nat) (th sv ln vs rl cm fi se : Int32) (z zs sd tx ds rg : Nat → Int32) (F : FF) (Q0 : QQ) (HS : List (FF × QQ)) (sg : Nat → Nat) (len n : Nat) (p0 p1 : Int32) (hL : LZ n (F, Q0, HS, sg, len) z sd tx) (hn : n + 80 < 2 ^ 31) : CN l D cI cT yX5_queued wsX5_queued rX5_queued [.ref (ad 0), .int p0, .int p1] (refW cI ad th (nI HS.length) (nI len) vs rl cm fi se z zs sd tx ds rg) (S := JR) (fun v u => v = (opQueued (F, Q0, HS, sg, len) p0 p1).2.1 ∧ u.1 = nI (opQueued (F, Q0, HS, sg, len) p0 p1).1 ∧ LZu (n + 80) (opQueued (F, Q0, HS, sg, len) p0 p1).2.2 u) (fun u => rfW cI ad (opQueued (F, Q0, HS, sg, len) p0 p1).2.2 u) := by
  refine CN.of (cc := cX5_queued) (maxL := 4) (ret := (some .int)) (by decide) rfl (Nat.le_of_ble_eq_true rfl) ?_
  intro p e s m args below meth c A Q hQ B hA H locs hP hK hD hS ls hl
  obtain ⟨hx, hb, hml, hrt, hts, hown, hlk⟩ := B
  have hP : va_P D vwCl ([(ad 0, .inr (5, [.int th, .ref (ad 1), .ref (ad 2), .ref (ad 3), .int (nI HS.length), .ref (ad 4), .int (nI len), .int vs, .ref (ad 5), .ref (ad 6), .int rl, .int cm, .int fi, .int se])), (ad 1, .inl (cI, 221, .inl z)), (ad 2, .inl (cI, 221, .inl zs)), (ad 3, .inl (cI, 1768, .inl sd)), (ad 4, .inl (cI, 80, .inl tx)), (ad 5, .inl (cI, 8, .inl ds)), (ad 6, .inl (cI, 8, .inl rg))]) H := hP
  have hD : va_D A ([(ad 0, .inr (5, [.int th, .ref (ad 1), .ref (ad 2), .ref (ad 3), .int (nI HS.length), .ref (ad 4), .int (nI len), .int vs, .ref (ad 5), .ref (ad 6), .int rl, .int cm, .int fi, .int se])), (ad 1, .inl (cI, 221, .inl z)), (ad 2, .inl (cI, 221, .inl zs)), (ad 3, .inl (cI, 1768, .inl sd)), (ad 4, .inl (cI, 80, .inl tx)), (ad 5, .inl (cI, 8, .inl ds)), (ad 6, .inl (cI, 8, .inl rg))]) := hD
  have hl : lv_has ls 4 [(0, .ref (ad 0)), (1, .int p0), (2, .int p1)] := hl
  obtain ⟨hJ, hC, hZ, hl8, hH, hHS, hlen, htx, hsg⟩ := hL
  dsimp only at hJ hC hZ hl8 hH hHS hlen htx hsg
  have hL := LZ_mk hJ hC hZ hl8 hH hHS hlen htx hsg
  have hB := hC.jb
  have hn8 := hC.n8 (by omega)
  have hHJ : ∀ q ∈ HS, JJ q.1 q.2 := fun q hq => (hHS q hq).1
  have iX5 : ∀ w ∈ u_ws RX5 TX5 14, w ∈ wsX5_queued := by decide +kernel
  have f32 := hts (.fieldLink RX5 32 "LockManagerModel" "thrown" "I") (by decide +kernel)
  refine lv_aload_n hx hb dX5_queued_0 rfl (lv_at hl 0 rfl) ?_
  refine lv_iload_n hx hb dX5_queued_1 rfl (lv_at hl 1 rfl) ?_
  refine call_s (X := [(ad 0, .inr (5, [.int th, .ref (ad 1), .ref (ad 2), .ref (ad 3), .int (nI HS.length), .ref (ad 4), .int (nI len), .int vs, .ref (ad 5), .ref (ad 6), .int rl, .int cm, .int fi, .int se])), (ad 1, .inl (cI, 221, .inl z)), (ad 2, .inl (cI, 221, .inl zs)), (ad 3, .inl (cI, 1768, .inl sd)), (ad 4, .inl (cI, 80, .inl tx)), (ad 5, .inl (cI, 8, .inl ds)), (ad 6, .inl (cI, 8, .inl rg))]) (Wc := []) (Z := []) (As := [.int p0]) (rest := [.ref (ad 0)]) ⟨hx, hb, hml, hown, hts⟩ (c_X5_isResource l D cI cT p0) (va_cwS 1 hts gX5_queued_X5_isResource rfl rfl rfl (by decide +kernel) ⟨Nat.le_of_ble_eq_true rfl, Nat.le_of_ble_eq_true rfl⟩) hK (P_nilr hP) (D_nilr hD) hS hA (fun _ => rfl) rfl hl.1 rfl (Nat.le_of_ble_eq_true rfl) ⟨by decide, by decide⟩ dX5_queued_2 (fun rv _ H locs hp hP hD hS => ?_)
  obtain rfl := hp
  have hP := P_nil2 hP
  have hD := D_nil2 hD
  have hP : va_P D vwCl ([(ad 0, .inr (5, [.int th, .ref (ad 1), .ref (ad 2), .ref (ad 3), .int (nI HS.length), .ref (ad 4), .int (nI len), .int vs, .ref (ad 5), .ref (ad 6), .int rl, .int cm, .int fi, .int se])), (ad 1, .inl (cI, 221, .inl z)), (ad 2, .inl (cI, 221, .inl zs)), (ad 3, .inl (cI, 1768, .inl sd)), (ad 4, .inl (cI, 80, .inl tx)), (ad 5, .inl (cI, 8, .inl ds)), (ad 6, .inl (cI, 8, .inl rg))]) H := hP
  have hD : va_D A ([(ad 0, .inr (5, [.int th, .ref (ad 1), .ref (ad 2), .ref (ad 3), .int (nI HS.length), .ref (ad 4), .int (nI len), .int vs, .ref (ad 5), .ref (ad 6), .int rl, .int cm, .int fi, .int se])), (ad 1, .inl (cI, 221, .inl z)), (ad 2, .inl (cI, 221, .inl zs)), (ad 3, .inl (cI, 1768, .inl sd)), (ad 4, .inl (cI, 80, .inl tx)), (ad 5, .inl (cI, 8, .inl ds)), (ad 6, .inl (cI, 8, .inl rg))]) := hD
  refine lv_if_eq (tgt := 16) hx hb dX5_queued_5 (by decide) (fun h_1 => ?_) (fun h_1 => ?_)
  · have h_1 := (nI_eq (a := ((inI p0 10).toNat)) (b := 0) (by first | omega | exact bits_lt31 _ | exact bitN_lt _ _ | exact bool_lt _ | exact and_lt31 _ _ _ _ | exact Nat.lt_of_le_of_lt (dst_lt _ _ _ (by omega) _) (by decide) | exact Nat.lt_of_le_of_lt (nrB_le _ _ _ (by omega)).2 (by decide) | decide) (by first | omega | exact bits_lt31 _ | exact bitN_lt _ _ | exact bool_lt _ | exact and_lt31 _ _ _ _ | exact Nat.lt_of_le_of_lt (dst_lt _ _ _ (by omega) _) (by decide) | exact Nat.lt_of_le_of_lt (nrB_le _ _ _ (by omega)).2 (by decide) | decide)).mp h_1
    have h_1 := tn_f h_1
    refine lv_iconst (v := (nI 1)) hx hb dX5_queued_16 (by decide) ?_
    refine va_put (D := D) (ci := 5) (v := .int (nI 1)) (ty := .int) (C := RX5) (T := TX5) (N := 14) hx hb hts iX5 tyX5 tyX5_ok nmX5 hown hK hP hD hS 0 rfl rfl 0 (by decide) f32 (fun _ h9 => h9) rfl (by decide +kernel) rfl rfl (Nat.le_of_ble_eq_true rfl) dX5_queued_17 (fun H locs hP hD hS => ?_)
    have hP : va_P D vwCl ([(ad 0, .inr (5, [.int (nI 1), .ref (ad 1), .ref (ad 2), .ref (ad 3), .int (nI HS.length), .ref (ad 4), .int (nI len), .int vs, .ref (ad 5), .ref (ad 6), .int rl, .int cm, .int fi, .int se])), (ad 1, .inl (cI, 221, .inl z)), (ad 2, .inl (cI, 221, .inl zs)), (ad 3, .inl (cI, 1768, .inl sd)), (ad 4, .inl (cI, 80, .inl tx)), (ad 5, .inl (cI, 8, .inl ds)), (ad 6, .inl (cI, 8, .inl rg))]) H := hP
    have hD : va_D A ([(ad 0, .inr (5, [.int (nI 1), .ref (ad 1), .ref (ad 2), .ref (ad 3), .int (nI HS.length), .ref (ad 4), .int (nI len), .int vs, .ref (ad 5), .ref (ad 6), .int rl, .int cm, .int fi, .int se])), (ad 1, .inl (cI, 221, .inl z)), (ad 2, .inl (cI, 221, .inl zs)), (ad 3, .inl (cI, 1768, .inl sd)), (ad 4, .inl (cI, 80, .inl tx)), (ad 5, .inl (cI, 8, .inl ds)), (ad 6, .inl (cI, 8, .inl rg))]) := hD
    refine lv_aload_n hx hb dX5_queued_20 rfl (lv_at hl 0 rfl) ?_
    refine va_get (D := D) (ci := 5) (v := .int (nI 1)) (C := RX5) (T := TX5) (N := 14) hx hb hts iX5 hown hK hP 0 rfl rfl 0 (by decide) f32 (fun _ h9 => h9) rfl dX5_queued_21 ?_
    refine lv_if_le (tgt := 29) hx hb dX5_queued_24 (by decide) (fun h => absurd h (by decide)) (fun _ => ?_)
    refine lv_iconst (v := (nI 0)) hx hb dX5_queued_27 (by decide) ?_
    exact ret_i (u := ((nI 1), vs, rl, cm, fi, se, z, zs, sd, tx, ds, rg)) hQ hx hb hrt hlk hS dX5_queued_28 (by rw [opQueued_1 h_1]; exact hP) (by rw [opQueued_1 h_1]; exact ⟨rfl, rfl, (LZ.mono hL (by omega))⟩)
  · have h_1 := mt (nI_eq (a := ((inI p0 10).toNat)) (b := 0) (by first | omega | exact bits_lt31 _ | exact bitN_lt _ _ | exact bool_lt _ | exact and_lt31 _ _ _ _ | exact Nat.lt_of_le_of_lt (dst_lt _ _ _ (by omega) _) (by decide) | exact Nat.lt_of_le_of_lt (nrB_le _ _ _ (by omega)).2 (by decide) | decide) (by first | omega | exact bits_lt31 _ | exact bitN_lt _ _ | exact bool_lt _ | exact and_lt31 _ _ _ _ | exact Nat.lt_of_le_of_lt (dst_lt _ _ _ (by omega) _) (by decide) | exact Nat.lt_of_le_of_lt (nrB_le _ _ _ (by omega)).2 (by decide) | decide)).mpr h_1
    have h_1 := tn_y h_1
    obtain ⟨r9, hr9, er9⟩ := inI_t (by decide) h_1
    rw [er9] at hl
    refine lv_iload_n hx hb dX5_queued_8 rfl (lv_at hl 2 rfl) ?_
    refine lv_if_lt (tgt := 16) hx hb dX5_queued_9 (by decide) (fun h_2 => ?_) (fun h_2 => ?_)
    · have h_2 := h_2
      refine lv_iconst (v := (nI 1)) hx hb dX5_queued_16 (by decide) ?_
      refine va_put (D := D) (ci := 5) (v := .int (nI 1)) (ty := .int) (C := RX5) (T := TX5) (N := 14) hx hb hts iX5 tyX5 tyX5_ok nmX5 hown hK hP hD hS 0 rfl rfl 0 (by decide) f32 (fun _ h9 => h9) rfl (by decide +kernel) rfl rfl (Nat.le_of_ble_eq_true rfl) dX5_queued_17 (fun H locs hP hD hS => ?_)
      have hP : va_P D vwCl ([(ad 0, .inr (5, [.int (nI 1), .ref (ad 1), .ref (ad 2), .ref (ad 3), .int (nI HS.length), .ref (ad 4), .int (nI len), .int vs, .ref (ad 5), .ref (ad 6), .int rl, .int cm, .int fi, .int se])), (ad 1, .inl (cI, 221, .inl z)), (ad 2, .inl (cI, 221, .inl zs)), (ad 3, .inl (cI, 1768, .inl sd)), (ad 4, .inl (cI, 80, .inl tx)), (ad 5, .inl (cI, 8, .inl ds)), (ad 6, .inl (cI, 8, .inl rg))]) H := hP
      have hD : va_D A ([(ad 0, .inr (5, [.int (nI 1), .ref (ad 1), .ref (ad 2), .ref (ad 3), .int (nI HS.length), .ref (ad 4), .int (nI len), .int vs, .ref (ad 5), .ref (ad 6), .int rl, .int cm, .int fi, .int se])), (ad 1, .inl (cI, 221, .inl z)), (ad 2, .inl (cI, 221, .inl zs)), (ad 3, .inl (cI, 1768, .inl sd)), (ad 4, .inl (cI, 80, .inl tx)), (ad 5, .inl (cI, 8, .inl ds)), (ad 6, .inl (cI, 8, .inl rg))]) := hD
      refine lv_aload_n hx hb dX5_queued_20 rfl (lv_at hl 0 rfl) ?_
      refine va_get (D := D) (ci := 5) (v := .int (nI 1)) (C := RX5) (T := TX5) (N := 14) hx hb hts iX5 hown hK hP 0 rfl rfl 0 (by decide) f32 (fun _ h9 => h9) rfl dX5_queued_21 ?_
      refine lv_if_le (tgt := 29) hx hb dX5_queued_24 (by decide) (fun h => absurd h (by decide)) (fun _ => ?_)
      refine lv_iconst (v := (nI 0)) hx hb dX5_queued_27 (by decide) ?_
      exact ret_i (u := ((nI 1), vs, rl, cm, fi, se, z, zs, sd, tx, ds, rg)) hQ hx hb hrt hlk hS dX5_queued_28 (by rw [er9, opQueued_2 hr9 h_2]; exact hP) (by rw [er9, opQueued_2 hr9 h_2]; exact ⟨rfl, rfl, (LZ.mono hL (by omega))⟩)
    · have h_2 := h_2
      refine lv_iconst (v := (nI 0)) hx hb dX5_queued_12 (by decide) ?_
      refine lv_goto (tgt := 17) hx hb dX5_queued_13 (by decide) ?_
      refine va_put (D := D) (ci := 5) (v := .int (nI 0)) (ty := .int) (C := RX5) (T := TX5) (N := 14) hx hb hts iX5 tyX5 tyX5_ok nmX5 hown hK hP hD hS 0 rfl rfl 0 (by decide) f32 (fun _ h9 => h9) rfl (by decide +kernel) rfl rfl (Nat.le_of_ble_eq_true rfl) dX5_queued_17 (fun H locs hP hD hS => ?_)
      have hP : va_P D vwCl ([(ad 0, .inr (5, [.int (nI 0), .ref (ad 1), .ref (ad 2), .ref (ad 3), .int (nI HS.length), .ref (ad 4), .int (nI len), .int vs, .ref (ad 5), .ref (ad 6), .int rl, .int cm, .int fi, .int se])), (ad 1, .inl (cI, 221, .inl z)), (ad 2, .inl (cI, 221, .inl zs)), (ad 3, .inl (cI, 1768, .inl sd)), (ad 4, .inl (cI, 80, .inl tx)), (ad 5, .inl (cI, 8, .inl ds)), (ad 6, .inl (cI, 8, .inl rg))]) H := hP
      have hD : va_D A ([(ad 0, .inr (5, [.int (nI 0), .ref (ad 1), .ref (ad 2), .ref (ad 3), .int (nI HS.length), .ref (ad 4), .int (nI len), .int vs, .ref (ad 5), .ref (ad 6), .int rl, .int cm, .int fi, .int se])), (ad 1, .inl (cI, 221, .inl z)), (ad 2, .inl (cI, 221, .inl zs)), (ad 3, .inl (cI, 1768, .inl sd)), (ad 4, .inl (cI, 80, .inl tx)), (ad 5, .inl (cI, 8, .inl ds)), (ad 6, .inl (cI, 8, .inl rg))]) := hD
      refine lv_aload_n hx hb dX5_queued_20 rfl (lv_at hl 0 rfl) ?_
      refine va_get (D := D) (ci := 5) (v := .int (nI 0)) (C := RX5) (T := TX5) (N := 14) hx hb hts iX5 hown hK hP 0 rfl rfl 0 (by decide) f32 (fun _ h9 => h9) rfl dX5_queued_21 ?_
      refine lv_if_le (tgt := 29) hx hb dX5_queued_24 (by decide) (fun _ => ?_) (fun h => absurd (by decide) h)
      refine lv_iload_n hx hb dX5_queued_29 rfl (lv_at hl 2 rfl) ?_
      refine lv_aload_n hx hb dX5_queued_30 rfl (lv_at hl 0 rfl) ?_
      refine lv_iload_n hx hb dX5_queued_31 rfl (lv_at hl 1 rfl) ?_
      refine call_i (X := []) (Z := []) (As := [.int (nI r9)]) (rest := [.int p1]) ⟨hx, hb, hml, hown, hts⟩ (c_X5_queueOf l D cI cT ad (nI 0) (nI HS.length) (nI len) vs rl cm fi se z zs sd tx ds rg r9 (by omega)) (cwV 1 hts gX5_queued_X5_queueOf rfl rfl rfl (by decide +kernel) ⟨Nat.le_of_ble_eq_true rfl, Nat.le_of_ble_eq_true rfl⟩) hK hP hD hS hA (va_recv hK hP (ci := 5) (q0 := 0) rfl rfl) (fun _ => rfl) rfl hl.1 rfl (Nat.le_of_ble_eq_true rfl) ⟨by decide, by decide⟩ dX5_queued_32 (fun rv _ H locs hp hP hD hS => ?_)
      obtain rfl := hp
      have hP : va_P D vwCl ([(ad 0, .inr (5, [.int (nI 0), .ref (ad 1), .ref (ad 2), .ref (ad 3), .int (nI HS.length), .ref (ad 4), .int (nI len), .int vs, .ref (ad 5), .ref (ad 6), .int rl, .int cm, .int fi, .int se])), (ad 1, .inl (cI, 221, .inl z)), (ad 2, .inl (cI, 221, .inl zs)), (ad 3, .inl (cI, 1768, .inl sd)), (ad 4, .inl (cI, 80, .inl tx)), (ad 5, .inl (cI, 8, .inl ds)), (ad 6, .inl (cI, 8, .inl rg))]) H := hP
      have hD : va_D A ([(ad 0, .inr (5, [.int (nI 0), .ref (ad 1), .ref (ad 2), .ref (ad 3), .int (nI HS.length), .ref (ad 4), .int (nI len), .int vs, .ref (ad 5), .ref (ad 6), .int rl, .int cm, .int fi, .int se])), (ad 1, .inl (cI, 221, .inl z)), (ad 2, .inl (cI, 221, .inl zs)), (ad 3, .inl (cI, 1768, .inl sd)), (ad 4, .inl (cI, 80, .inl tx)), (ad 5, .inl (cI, 8, .inl ds)), (ad 6, .inl (cI, 8, .inl rg))]) := hD
      have hq8 := JJ_len hJ (show r9 < 10 by omega)
      refine tpe (y := nI (qlen Q0 r9)) (RZ_n hZ (by omega)) ?_
      refine lv_icmp_lt (tgt := 40) hx hb dX5_queued_35 (by decide) (fun h_3 => ?_) (fun h_3 => ?_)
      · have h_3 := h_3
        obtain ⟨j9, hj9, ej9⟩ := nI_of h_2
        have hjq : j9 < qlen Q0 r9 := (nI_ltI hj9 (by omega)).mp (by rw [← ej9]; exact h_3)
        rw [ej9] at hl
        refine lv_aload_n hx hb dX5_queued_40 rfl (lv_at hl 0 rfl) ?_
        refine lv_iload_n hx hb dX5_queued_41 rfl (lv_at hl 1 rfl) ?_
        refine lv_iload_n hx hb dX5_queued_42 rfl (lv_at hl 2 rfl) ?_
        refine call_i (X := []) (Z := []) (As := [.int (nI r9), .int (nI j9)]) (rest := []) ⟨hx, hb, hml, hown, hts⟩ (c_X5_queuedAt l D cI cT ad (nI 0) (nI HS.length) (nI len) vs rl cm fi se z zs sd tx ds rg r9 j9 (by omega)) (cwV 2 hts gX5_queued_X5_queuedAt rfl rfl rfl (by decide +kernel) ⟨Nat.le_of_ble_eq_true rfl, Nat.le_of_ble_eq_true rfl⟩) hK hP hD hS hA (va_recv hK hP (ci := 5) (q0 := 0) rfl rfl) (fun _ => rfl) rfl hl.1 rfl (Nat.le_of_ble_eq_true rfl) ⟨by decide, by decide⟩ dX5_queued_43 (fun rv _ H locs hp hP hD hS => ?_)
        obtain rfl := hp
        have hP : va_P D vwCl ([(ad 0, .inr (5, [.int (nI 0), .ref (ad 1), .ref (ad 2), .ref (ad 3), .int (nI HS.length), .ref (ad 4), .int (nI len), .int vs, .ref (ad 5), .ref (ad 6), .int rl, .int cm, .int fi, .int se])), (ad 1, .inl (cI, 221, .inl z)), (ad 2, .inl (cI, 221, .inl zs)), (ad 3, .inl (cI, 1768, .inl sd)), (ad 4, .inl (cI, 80, .inl tx)), (ad 5, .inl (cI, 8, .inl ds)), (ad 6, .inl (cI, 8, .inl rg))]) H := hP
        have hD : va_D A ([(ad 0, .inr (5, [.int (nI 0), .ref (ad 1), .ref (ad 2), .ref (ad 3), .int (nI HS.length), .ref (ad 4), .int (nI len), .int vs, .ref (ad 5), .ref (ad 6), .int rl, .int cm, .int fi, .int se])), (ad 1, .inl (cI, 221, .inl z)), (ad 2, .inl (cI, 221, .inl zs)), (ad 3, .inl (cI, 1768, .inl sd)), (ad 4, .inl (cI, 80, .inl tx)), (ad 5, .inl (cI, 8, .inl ds)), (ad 6, .inl (cI, 8, .inl rg))]) := hD
        obtain ⟨o9, ho9⟩ : ∃ z, z = (Q0 r9).getD j9 0 := ⟨_, rfl⟩
        have hoq := JJ_at hJ (i := j9) (show r9 < 10 by omega) (by omega)
        rw [← ho9] at hoq
        have ho8 : o9 < 8 := (hJ.2.1 r9 (by omega) _ hoq).1
        have ho3 := (hJ.2.1 r9 (by omega) _ hoq).2
        refine tpe (y := nI o9) (by rw [ho9]; exact RZ_q hZ (by omega) (by omega)) ?_
        refine lv_istore_n (lv' := [(3, .int (nI o9)), (0, .ref (ad 0)), (1, .int (nI r9)), (2, .int (nI j9))]) hx hb dX5_queued_46 rfl hl (by decide) rfl (fun ls hl => ?_)
        have n3o : ¬ F 3 o9 = -1 := by rw [ho3]; exact m1_nI (by omega)
        refine lv_bipush (v := (nI 10)) hx hb dX5_queued_47 (by decide) ?_
        refine lv_iload_n hx hb dX5_queued_49 rfl (lv_at hl 0 rfl) ?_
        refine lv_imul hx hb dX5_queued_50 ?_
        refine tpe (y := (nI (10 * o9))) (pk_mul _ _) ?_
        refine lv_aload_n hx hb dX5_queued_51 rfl (lv_at hl 1 rfl) ?_
        refine lv_iload_n hx hb dX5_queued_52 rfl (lv_at hl 0 rfl) ?_
        refine lv_iconst (v := (nI 5)) hx hb dX5_queued_53 (by decide) ?_
        refine call_i (X := []) (Z := []) (As := [.int (nI o9), .int (nI 5)]) (rest := [.int (nI (10 * o9))]) ⟨hx, hb, hml, hown, hts⟩ (c_X5_of l D cI cT ad (nI 0) (nI HS.length) (nI len) vs rl cm fi se z zs sd tx ds rg o9 5 (by omega)) (cwV 2 hts gX5_queued_X5_of rfl rfl rfl (by decide +kernel) ⟨Nat.le_of_ble_eq_true rfl, Nat.le_of_ble_eq_true rfl⟩) hK hP hD hS hA (va_recv hK hP (ci := 5) (q0 := 0) rfl rfl) (fun _ => rfl) rfl hl.1 rfl (Nat.le_of_ble_eq_true rfl) ⟨by decide, by decide⟩ dX5_queued_54 (fun rv _ H locs hp hP hD hS => ?_)
        obtain rfl := hp
        have hP : va_P D vwCl ([(ad 0, .inr (5, [.int (nI 0), .ref (ad 1), .ref (ad 2), .ref (ad 3), .int (nI HS.length), .ref (ad 4), .int (nI len), .int vs, .ref (ad 5), .ref (ad 6), .int rl, .int cm, .int fi, .int se])), (ad 1, .inl (cI, 221, .inl z)), (ad 2, .inl (cI, 221, .inl zs)), (ad 3, .inl (cI, 1768, .inl sd)), (ad 4, .inl (cI, 80, .inl tx)), (ad 5, .inl (cI, 8, .inl ds)), (ad 6, .inl (cI, 8, .inl rg))]) H := hP
        have hD : va_D A ([(ad 0, .inr (5, [.int (nI 0), .ref (ad 1), .ref (ad 2), .ref (ad 3), .int (nI HS.length), .ref (ad 4), .int (nI len), .int vs, .ref (ad 5), .ref (ad 6), .int rl, .int cm, .int fi, .int se])), (ad 1, .inl (cI, 221, .inl z)), (ad 2, .inl (cI, 221, .inl zs)), (ad 3, .inl (cI, 1768, .inl sd)), (ad 4, .inl (cI, 80, .inl tx)), (ad 5, .inl (cI, 8, .inl ds)), (ad 6, .inl (cI, 8, .inl rg))]) := hD
        refine tpe (y := mdZ F o9) (RZ_5 hZ (by omega)) ?_
        refine tpe (y := (F 4 o9)) (mdZ_w n3o) ?_
        refine lv_iadd hx hb dX5_queued_57 ?_
        exact ret_i (u := ((nI 0), vs, rl, cm, fi, se, z, zs, sd, tx, ds, rg)) hQ hx hb hrt hlk hS dX5_queued_58 (by rw [er9, opQueued_0 hr9 h_2, ej9, qd_y (s := (F, Q0, HS, sg, len)) hjq hq8, ← ho9]; exact hP) (by rw [er9, opQueued_0 hr9 h_2, ej9, qd_y (s := (F, Q0, HS, sg, len)) hjq hq8, ← ho9]; exact ⟨rfl, rfl, (LZ.mono hL (by omega))⟩)
      · have h_3 := h_3
        refine lv_iconst (v := (-1)) hx hb dX5_queued_38 (by decide) ?_
        exact ret_i (u := ((nI 0), vs, rl, cm, fi, se, z, zs, sd, tx, ds, rg)) hQ hx hb hrt hlk hS dX5_queued_39 (by rw [er9, opQueued_0 hr9 h_2, qd_m (s := (F, Q0, HS, sg, len)) h_3]; exact hP) (by rw [er9, opQueued_0 hr9 h_2, qd_m (s := (F, Q0, HS, sg, len)) h_3]; exact ⟨rfl, rfl, (LZ.mono hL (by omega))⟩)

abbrev rX5_brokenRings : Room := { frames := 0, cells := 0, slots := 0, locals := 0 }
set_option maxHeartbeats 1000000 in
set_option maxRecDepth 100000 in
theorem c_X5_brokenRings (l : Launch) (D : va_G) (cI cT : ClassId) (ad : Nat → Nat) (th sv ln vs rl cm fi se : Int32) (z zs sd tx ds rg : Nat → Int32) (F : FF) (Q0 : QQ) (HS : List (FF × QQ)) (sg : Nat → Nat) (len n : Nat) (hL : LZ n (F, Q0, HS, sg, len) z sd tx) (hn : n + 80 < 2 ^ 31) : CN l D cI cT yX5_brokenRings wsX5_brokenRings rX5_brokenRings [.ref (ad 0)] (refW cI ad th (nI HS.length) (nI len) vs rl cm fi se z zs sd tx ds rg) (S := JR) (fun v u => v = (opV (F, Q0, HS, sg, len) (F 8 1)).2.1 ∧ u.1 = nI (opV (F, Q0, HS, sg, len) (F 8 1)).1 ∧ LZu (n + 80) (opV (F, Q0, HS, sg, len) (F 8 1)).2.2 u) (fun u => rfW cI ad (opV (F, Q0, HS, sg, len) (F 8 1)).2.2 u) := by
  refine CN.of (cc := cX5_brokenRings) (maxL := 1) (ret := (some .int)) (by decide) rfl (Nat.le_of_ble_eq_true rfl) ?_
  intro p e s m args below meth c A Q hQ B hA H locs hP hK hD hS ls hl
  obtain ⟨hx, hb, hml, hrt, hts, hown, hlk⟩ := B
  have hP : va_P D vwCl ([(ad 0, .inr (5, [.int th, .ref (ad 1), .ref (ad 2), .ref (ad 3), .int (nI HS.length), .ref (ad 4), .int (nI len), .int vs, .ref (ad 5), .ref (ad 6), .int rl, .int cm, .int fi, .int se])), (ad 1, .inl (cI, 221, .inl z)), (ad 2, .inl (cI, 221, .inl zs)), (ad 3, .inl (cI, 1768, .inl sd)), (ad 4, .inl (cI, 80, .inl tx)), (ad 5, .inl (cI, 8, .inl ds)), (ad 6, .inl (cI, 8, .inl rg))]) H := hP
  have hD : va_D A ([(ad 0, .inr (5, [.int th, .ref (ad 1), .ref (ad 2), .ref (ad 3), .int (nI HS.length), .ref (ad 4), .int (nI len), .int vs, .ref (ad 5), .ref (ad 6), .int rl, .int cm, .int fi, .int se])), (ad 1, .inl (cI, 221, .inl z)), (ad 2, .inl (cI, 221, .inl zs)), (ad 3, .inl (cI, 1768, .inl sd)), (ad 4, .inl (cI, 80, .inl tx)), (ad 5, .inl (cI, 8, .inl ds)), (ad 6, .inl (cI, 8, .inl rg))]) := hD
  have hl : lv_has ls 1 [(0, .ref (ad 0))] := hl
  obtain ⟨hJ, hC, hZ, hl8, hH, hHS, hlen, htx, hsg⟩ := hL
  dsimp only at hJ hC hZ hl8 hH hHS hlen htx hsg
  have hL := LZ_mk hJ hC hZ hl8 hH hHS hlen htx hsg
  have hB := hC.jb
  have hn8 := hC.n8 (by omega)
  have hHJ : ∀ q ∈ HS, JJ q.1 q.2 := fun q hq => (hHS q hq).1
  have iX5 : ∀ w ∈ u_ws RX5 TX5 14, w ∈ wsX5_brokenRings := by decide +kernel
  have f32 := hts (.fieldLink RX5 32 "LockManagerModel" "thrown" "I") (by decide +kernel)
  have f7 := hts (.fieldLink RX5 7 "LockManagerModel" "z" "[I") (by decide +kernel)
  refine lv_aload_n hx hb dX5_brokenRings_0 rfl (lv_at hl 0 rfl) ?_
  refine lv_iconst (v := (nI 0)) hx hb dX5_brokenRings_1 (by decide) ?_
  refine va_put (D := D) (ci := 5) (v := .int (nI 0)) (ty := .int) (C := RX5) (T := TX5) (N := 14) hx hb hts iX5 tyX5 tyX5_ok nmX5 hown hK hP hD hS 0 rfl rfl 0 (by decide) f32 (fun _ h9 => h9) rfl (by decide +kernel) rfl rfl (Nat.le_of_ble_eq_true rfl) dX5_brokenRings_2 (fun H locs hP hD hS => ?_)
  have hP : va_P D vwCl ([(ad 0, .inr (5, [.int (nI 0), .ref (ad 1), .ref (ad 2), .ref (ad 3), .int (nI HS.length), .ref (ad 4), .int (nI len), .int vs, .ref (ad 5), .ref (ad 6), .int rl, .int cm, .int fi, .int se])), (ad 1, .inl (cI, 221, .inl z)), (ad 2, .inl (cI, 221, .inl zs)), (ad 3, .inl (cI, 1768, .inl sd)), (ad 4, .inl (cI, 80, .inl tx)), (ad 5, .inl (cI, 8, .inl ds)), (ad 6, .inl (cI, 8, .inl rg))]) H := hP
  have hD : va_D A ([(ad 0, .inr (5, [.int (nI 0), .ref (ad 1), .ref (ad 2), .ref (ad 3), .int (nI HS.length), .ref (ad 4), .int (nI len), .int vs, .ref (ad 5), .ref (ad 6), .int rl, .int cm, .int fi, .int se])), (ad 1, .inl (cI, 221, .inl z)), (ad 2, .inl (cI, 221, .inl zs)), (ad 3, .inl (cI, 1768, .inl sd)), (ad 4, .inl (cI, 80, .inl tx)), (ad 5, .inl (cI, 8, .inl ds)), (ad 6, .inl (cI, 8, .inl rg))]) := hD
  refine lv_aload_n hx hb dX5_brokenRings_5 rfl (lv_at hl 0 rfl) ?_
  refine va_get (D := D) (ci := 5) (v := .ref (ad 1)) (C := RX5) (T := TX5) (N := 14) hx hb hts iX5 hown hK hP 0 rfl rfl 1 (by decide) f7 (fun _ h9 => h9) rfl dX5_brokenRings_6 ?_
  refine lv_sipush (v := (nI 219)) hx hb dX5_brokenRings_9 (by decide) ?_
  refine r_ild (k := 219) hx hb hK hP 1 rfl (by omega) (by decide) dX5_brokenRings_12 ?_
  exact ret_i (u := ((nI 0), vs, rl, cm, fi, se, z, zs, sd, tx, ds, rg)) hQ hx hb hrt hlk hS dX5_brokenRings_13 hP ⟨(RZ_s hZ (k := 1) (by decide)), rfl, (LZ.mono hL (by omega))⟩

abbrev rX5_lostWork : Room := { frames := 0, cells := 0, slots := 0, locals := 0 }
set_option maxHeartbeats 1000000 in
set_option maxRecDepth 100000 in
theorem c_X5_lostWork (l : Launch) (D : va_G) (cI cT : ClassId) (ad : Nat → Nat) (th sv ln vs rl cm fi se : Int32) (z zs sd tx ds rg : Nat → Int32) (F : FF) (Q0 : QQ) (HS : List (FF × QQ)) (sg : Nat → Nat) (len n : Nat) (hL : LZ n (F, Q0, HS, sg, len) z sd tx) (hn : n + 80 < 2 ^ 31) : CN l D cI cT yX5_lostWork wsX5_lostWork rX5_lostWork [.ref (ad 0)] (refW cI ad th (nI HS.length) (nI len) vs rl cm fi se z zs sd tx ds rg) (S := JR) (fun v u => v = (opV (F, Q0, HS, sg, len) (F 8 2)).2.1 ∧ u.1 = nI (opV (F, Q0, HS, sg, len) (F 8 2)).1 ∧ LZu (n + 80) (opV (F, Q0, HS, sg, len) (F 8 2)).2.2 u) (fun u => rfW cI ad (opV (F, Q0, HS, sg, len) (F 8 2)).2.2 u) := by
  refine CN.of (cc := cX5_lostWork) (maxL := 1) (ret := (some .int)) (by decide) rfl (Nat.le_of_ble_eq_true rfl) ?_
  intro p e s m args below meth c A Q hQ B hA H locs hP hK hD hS ls hl
  obtain ⟨hx, hb, hml, hrt, hts, hown, hlk⟩ := B
  have hP : va_P D vwCl ([(ad 0, .inr (5, [.int th, .ref (ad 1), .ref (ad 2), .ref (ad 3), .int (nI HS.length), .ref (ad 4), .int (nI len), .int vs, .ref (ad 5), .ref (ad 6), .int rl, .int cm, .int fi, .int se])), (ad 1, .inl (cI, 221, .inl z)), (ad 2, .inl (cI, 221, .inl zs)), (ad 3, .inl (cI, 1768, .inl sd)), (ad 4, .inl (cI, 80, .inl tx)), (ad 5, .inl (cI, 8, .inl ds)), (ad 6, .inl (cI, 8, .inl rg))]) H := hP
  have hD : va_D A ([(ad 0, .inr (5, [.int th, .ref (ad 1), .ref (ad 2), .ref (ad 3), .int (nI HS.length), .ref (ad 4), .int (nI len), .int vs, .ref (ad 5), .ref (ad 6), .int rl, .int cm, .int fi, .int se])), (ad 1, .inl (cI, 221, .inl z)), (ad 2, .inl (cI, 221, .inl zs)), (ad 3, .inl (cI, 1768, .inl sd)), (ad 4, .inl (cI, 80, .inl tx)), (ad 5, .inl (cI, 8, .inl ds)), (ad 6, .inl (cI, 8, .inl rg))]) := hD
  have hl : lv_has ls 1 [(0, .ref (ad 0))] := hl
  obtain ⟨hJ, hC, hZ, hl8, hH, hHS, hlen, htx, hsg⟩ := hL
  dsimp only at hJ hC hZ hl8 hH hHS hlen htx hsg
  have hL := LZ_mk hJ hC hZ hl8 hH hHS hlen htx hsg
  have hB := hC.jb
  have hn8 := hC.n8 (by omega)
  have hHJ : ∀ q ∈ HS, JJ q.1 q.2 := fun q hq => (hHS q hq).1
  have iX5 : ∀ w ∈ u_ws RX5 TX5 14, w ∈ wsX5_lostWork := by decide +kernel
  have f32 := hts (.fieldLink RX5 32 "LockManagerModel" "thrown" "I") (by decide +kernel)
  have f7 := hts (.fieldLink RX5 7 "LockManagerModel" "z" "[I") (by decide +kernel)
  refine lv_aload_n hx hb dX5_lostWork_0 rfl (lv_at hl 0 rfl) ?_
  refine lv_iconst (v := (nI 0)) hx hb dX5_lostWork_1 (by decide) ?_
  refine va_put (D := D) (ci := 5) (v := .int (nI 0)) (ty := .int) (C := RX5) (T := TX5) (N := 14) hx hb hts iX5 tyX5 tyX5_ok nmX5 hown hK hP hD hS 0 rfl rfl 0 (by decide) f32 (fun _ h9 => h9) rfl (by decide +kernel) rfl rfl (Nat.le_of_ble_eq_true rfl) dX5_lostWork_2 (fun H locs hP hD hS => ?_)
  have hP : va_P D vwCl ([(ad 0, .inr (5, [.int (nI 0), .ref (ad 1), .ref (ad 2), .ref (ad 3), .int (nI HS.length), .ref (ad 4), .int (nI len), .int vs, .ref (ad 5), .ref (ad 6), .int rl, .int cm, .int fi, .int se])), (ad 1, .inl (cI, 221, .inl z)), (ad 2, .inl (cI, 221, .inl zs)), (ad 3, .inl (cI, 1768, .inl sd)), (ad 4, .inl (cI, 80, .inl tx)), (ad 5, .inl (cI, 8, .inl ds)), (ad 6, .inl (cI, 8, .inl rg))]) H := hP
  have hD : va_D A ([(ad 0, .inr (5, [.int (nI 0), .ref (ad 1), .ref (ad 2), .ref (ad 3), .int (nI HS.length), .ref (ad 4), .int (nI len), .int vs, .ref (ad 5), .ref (ad 6), .int rl, .int cm, .int fi, .int se])), (ad 1, .inl (cI, 221, .inl z)), (ad 2, .inl (cI, 221, .inl zs)), (ad 3, .inl (cI, 1768, .inl sd)), (ad 4, .inl (cI, 80, .inl tx)), (ad 5, .inl (cI, 8, .inl ds)), (ad 6, .inl (cI, 8, .inl rg))]) := hD
  refine lv_aload_n hx hb dX5_lostWork_5 rfl (lv_at hl 0 rfl) ?_
  refine va_get (D := D) (ci := 5) (v := .ref (ad 1)) (C := RX5) (T := TX5) (N := 14) hx hb hts iX5 hown hK hP 0 rfl rfl 1 (by decide) f7 (fun _ h9 => h9) rfl dX5_lostWork_6 ?_
  refine lv_sipush (v := (nI 220)) hx hb dX5_lostWork_9 (by decide) ?_
  refine r_ild (k := 220) hx hb hK hP 1 rfl (by omega) (by decide) dX5_lostWork_12 ?_
  exact ret_i (u := ((nI 0), vs, rl, cm, fi, se, z, zs, sd, tx, ds, rg)) hQ hx hb hrt hlk hS dX5_lostWork_13 hP ⟨(RZ_s hZ (k := 2) (by decide)), rfl, (LZ.mono hL (by omega))⟩

abbrev rX5_savedStates : Room := { frames := 0, cells := 0, slots := 0, locals := 0 }
set_option maxHeartbeats 1000000 in
set_option maxRecDepth 100000 in
theorem c_X5_savedStates (l : Launch) (D : va_G) (cI cT : ClassId) (ad : Nat → Nat) (th sv ln vs rl cm fi se : Int32) (z zs sd tx ds rg : Nat → Int32) (F : FF) (Q0 : QQ) (HS : List (FF × QQ)) (sg : Nat → Nat) (len n : Nat) (hL : LZ n (F, Q0, HS, sg, len) z sd tx) (hn : n + 80 < 2 ^ 31) : CN l D cI cT yX5_savedStates wsX5_savedStates rX5_savedStates [.ref (ad 0)] (refW cI ad th (nI HS.length) (nI len) vs rl cm fi se z zs sd tx ds rg) (S := JR) (fun v u => v = (opV (F, Q0, HS, sg, len) (nI HS.length)).2.1 ∧ u.1 = nI (opV (F, Q0, HS, sg, len) (nI HS.length)).1 ∧ LZu (n + 80) (opV (F, Q0, HS, sg, len) (nI HS.length)).2.2 u) (fun u => rfW cI ad (opV (F, Q0, HS, sg, len) (nI HS.length)).2.2 u) := by
  refine CN.of (cc := cX5_savedStates) (maxL := 1) (ret := (some .int)) (by decide) rfl (Nat.le_of_ble_eq_true rfl) ?_
  intro p e s m args below meth c A Q hQ B hA H locs hP hK hD hS ls hl
  obtain ⟨hx, hb, hml, hrt, hts, hown, hlk⟩ := B
  have hP : va_P D vwCl ([(ad 0, .inr (5, [.int th, .ref (ad 1), .ref (ad 2), .ref (ad 3), .int (nI HS.length), .ref (ad 4), .int (nI len), .int vs, .ref (ad 5), .ref (ad 6), .int rl, .int cm, .int fi, .int se])), (ad 1, .inl (cI, 221, .inl z)), (ad 2, .inl (cI, 221, .inl zs)), (ad 3, .inl (cI, 1768, .inl sd)), (ad 4, .inl (cI, 80, .inl tx)), (ad 5, .inl (cI, 8, .inl ds)), (ad 6, .inl (cI, 8, .inl rg))]) H := hP
  have hD : va_D A ([(ad 0, .inr (5, [.int th, .ref (ad 1), .ref (ad 2), .ref (ad 3), .int (nI HS.length), .ref (ad 4), .int (nI len), .int vs, .ref (ad 5), .ref (ad 6), .int rl, .int cm, .int fi, .int se])), (ad 1, .inl (cI, 221, .inl z)), (ad 2, .inl (cI, 221, .inl zs)), (ad 3, .inl (cI, 1768, .inl sd)), (ad 4, .inl (cI, 80, .inl tx)), (ad 5, .inl (cI, 8, .inl ds)), (ad 6, .inl (cI, 8, .inl rg))]) := hD
  have hl : lv_has ls 1 [(0, .ref (ad 0))] := hl
  obtain ⟨hJ, hC, hZ, hl8, hH, hHS, hlen, htx, hsg⟩ := hL
  dsimp only at hJ hC hZ hl8 hH hHS hlen htx hsg
  have hL := LZ_mk hJ hC hZ hl8 hH hHS hlen htx hsg
  have hB := hC.jb
  have hn8 := hC.n8 (by omega)
  have hHJ : ∀ q ∈ HS, JJ q.1 q.2 := fun q hq => (hHS q hq).1
  have iX5 : ∀ w ∈ u_ws RX5 TX5 14, w ∈ wsX5_savedStates := by decide +kernel
  have f32 := hts (.fieldLink RX5 32 "LockManagerModel" "thrown" "I") (by decide +kernel)
  have f48 := hts (.fieldLink RX5 48 "LockManagerModel" "saves" "I") (by decide +kernel)
  refine lv_aload_n hx hb dX5_savedStates_0 rfl (lv_at hl 0 rfl) ?_
  refine lv_iconst (v := (nI 0)) hx hb dX5_savedStates_1 (by decide) ?_
  refine va_put (D := D) (ci := 5) (v := .int (nI 0)) (ty := .int) (C := RX5) (T := TX5) (N := 14) hx hb hts iX5 tyX5 tyX5_ok nmX5 hown hK hP hD hS 0 rfl rfl 0 (by decide) f32 (fun _ h9 => h9) rfl (by decide +kernel) rfl rfl (Nat.le_of_ble_eq_true rfl) dX5_savedStates_2 (fun H locs hP hD hS => ?_)
  have hP : va_P D vwCl ([(ad 0, .inr (5, [.int (nI 0), .ref (ad 1), .ref (ad 2), .ref (ad 3), .int (nI HS.length), .ref (ad 4), .int (nI len), .int vs, .ref (ad 5), .ref (ad 6), .int rl, .int cm, .int fi, .int se])), (ad 1, .inl (cI, 221, .inl z)), (ad 2, .inl (cI, 221, .inl zs)), (ad 3, .inl (cI, 1768, .inl sd)), (ad 4, .inl (cI, 80, .inl tx)), (ad 5, .inl (cI, 8, .inl ds)), (ad 6, .inl (cI, 8, .inl rg))]) H := hP
  have hD : va_D A ([(ad 0, .inr (5, [.int (nI 0), .ref (ad 1), .ref (ad 2), .ref (ad 3), .int (nI HS.length), .ref (ad 4), .int (nI len), .int vs, .ref (ad 5), .ref (ad 6), .int rl, .int cm, .int fi, .int se])), (ad 1, .inl (cI, 221, .inl z)), (ad 2, .inl (cI, 221, .inl zs)), (ad 3, .inl (cI, 1768, .inl sd)), (ad 4, .inl (cI, 80, .inl tx)), (ad 5, .inl (cI, 8, .inl ds)), (ad 6, .inl (cI, 8, .inl rg))]) := hD
  refine lv_aload_n hx hb dX5_savedStates_5 rfl (lv_at hl 0 rfl) ?_
  refine va_get (D := D) (ci := 5) (v := .int (nI HS.length)) (C := RX5) (T := TX5) (N := 14) hx hb hts iX5 hown hK hP 0 rfl rfl 4 (by decide) f48 (fun _ h9 => h9) rfl dX5_savedStates_6 ?_
  exact ret_i (u := ((nI 0), vs, rl, cm, fi, se, z, zs, sd, tx, ds, rg)) hQ hx hb hrt hlk hS dX5_savedStates_9 hP ⟨rfl, rfl, (LZ.mono hL (by omega))⟩

abbrev rX5_textLength : Room := { frames := 0, cells := 0, slots := 0, locals := 0 }
set_option maxHeartbeats 1000000 in
set_option maxRecDepth 100000 in
theorem c_X5_textLength (l : Launch) (D : va_G) (cI cT : ClassId) (ad : Nat → Nat) (th sv ln vs rl cm fi se : Int32) (z zs sd tx ds rg : Nat → Int32) (F : FF) (Q0 : QQ) (HS : List (FF × QQ)) (sg : Nat → Nat) (len n : Nat) (hL : LZ n (F, Q0, HS, sg, len) z sd tx) (hn : n + 80 < 2 ^ 31) : CN l D cI cT yX5_textLength wsX5_textLength rX5_textLength [.ref (ad 0)] (refW cI ad th (nI HS.length) (nI len) vs rl cm fi se z zs sd tx ds rg) (S := JR) (fun v u => v = (opV (F, Q0, HS, sg, len) (nI len)).2.1 ∧ u.1 = nI (opV (F, Q0, HS, sg, len) (nI len)).1 ∧ LZu (n + 80) (opV (F, Q0, HS, sg, len) (nI len)).2.2 u) (fun u => rfW cI ad (opV (F, Q0, HS, sg, len) (nI len)).2.2 u) := by
  refine CN.of (cc := cX5_textLength) (maxL := 1) (ret := (some .int)) (by decide) rfl (Nat.le_of_ble_eq_true rfl) ?_
  intro p e s m args below meth c A Q hQ B hA H locs hP hK hD hS ls hl
  obtain ⟨hx, hb, hml, hrt, hts, hown, hlk⟩ := B
  have hP : va_P D vwCl ([(ad 0, .inr (5, [.int th, .ref (ad 1), .ref (ad 2), .ref (ad 3), .int (nI HS.length), .ref (ad 4), .int (nI len), .int vs, .ref (ad 5), .ref (ad 6), .int rl, .int cm, .int fi, .int se])), (ad 1, .inl (cI, 221, .inl z)), (ad 2, .inl (cI, 221, .inl zs)), (ad 3, .inl (cI, 1768, .inl sd)), (ad 4, .inl (cI, 80, .inl tx)), (ad 5, .inl (cI, 8, .inl ds)), (ad 6, .inl (cI, 8, .inl rg))]) H := hP
  have hD : va_D A ([(ad 0, .inr (5, [.int th, .ref (ad 1), .ref (ad 2), .ref (ad 3), .int (nI HS.length), .ref (ad 4), .int (nI len), .int vs, .ref (ad 5), .ref (ad 6), .int rl, .int cm, .int fi, .int se])), (ad 1, .inl (cI, 221, .inl z)), (ad 2, .inl (cI, 221, .inl zs)), (ad 3, .inl (cI, 1768, .inl sd)), (ad 4, .inl (cI, 80, .inl tx)), (ad 5, .inl (cI, 8, .inl ds)), (ad 6, .inl (cI, 8, .inl rg))]) := hD
  have hl : lv_has ls 1 [(0, .ref (ad 0))] := hl
  obtain ⟨hJ, hC, hZ, hl8, hH, hHS, hlen, htx, hsg⟩ := hL
  dsimp only at hJ hC hZ hl8 hH hHS hlen htx hsg
  have hL := LZ_mk hJ hC hZ hl8 hH hHS hlen htx hsg
  have hB := hC.jb
  have hn8 := hC.n8 (by omega)
  have hHJ : ∀ q ∈ HS, JJ q.1 q.2 := fun q hq => (hHS q hq).1
  have iX5 : ∀ w ∈ u_ws RX5 TX5 14, w ∈ wsX5_textLength := by decide +kernel
  have f32 := hts (.fieldLink RX5 32 "LockManagerModel" "thrown" "I") (by decide +kernel)
  have f168 := hts (.fieldLink RX5 168 "LockManagerModel" "length" "I") (by decide +kernel)
  refine lv_aload_n hx hb dX5_textLength_0 rfl (lv_at hl 0 rfl) ?_
  refine lv_iconst (v := (nI 0)) hx hb dX5_textLength_1 (by decide) ?_
  refine va_put (D := D) (ci := 5) (v := .int (nI 0)) (ty := .int) (C := RX5) (T := TX5) (N := 14) hx hb hts iX5 tyX5 tyX5_ok nmX5 hown hK hP hD hS 0 rfl rfl 0 (by decide) f32 (fun _ h9 => h9) rfl (by decide +kernel) rfl rfl (Nat.le_of_ble_eq_true rfl) dX5_textLength_2 (fun H locs hP hD hS => ?_)
  have hP : va_P D vwCl ([(ad 0, .inr (5, [.int (nI 0), .ref (ad 1), .ref (ad 2), .ref (ad 3), .int (nI HS.length), .ref (ad 4), .int (nI len), .int vs, .ref (ad 5), .ref (ad 6), .int rl, .int cm, .int fi, .int se])), (ad 1, .inl (cI, 221, .inl z)), (ad 2, .inl (cI, 221, .inl zs)), (ad 3, .inl (cI, 1768, .inl sd)), (ad 4, .inl (cI, 80, .inl tx)), (ad 5, .inl (cI, 8, .inl ds)), (ad 6, .inl (cI, 8, .inl rg))]) H := hP
  have hD : va_D A ([(ad 0, .inr (5, [.int (nI 0), .ref (ad 1), .ref (ad 2), .ref (ad 3), .int (nI HS.length), .ref (ad 4), .int (nI len), .int vs, .ref (ad 5), .ref (ad 6), .int rl, .int cm, .int fi, .int se])), (ad 1, .inl (cI, 221, .inl z)), (ad 2, .inl (cI, 221, .inl zs)), (ad 3, .inl (cI, 1768, .inl sd)), (ad 4, .inl (cI, 80, .inl tx)), (ad 5, .inl (cI, 8, .inl ds)), (ad 6, .inl (cI, 8, .inl rg))]) := hD
  refine lv_aload_n hx hb dX5_textLength_5 rfl (lv_at hl 0 rfl) ?_
  refine va_get (D := D) (ci := 5) (v := .int (nI len)) (C := RX5) (T := TX5) (N := 14) hx hb hts iX5 hown hK hP 0 rfl rfl 6 (by decide) f168 (fun _ h9 => h9) rfl dX5_textLength_6 ?_
  exact ret_i (u := ((nI 0), vs, rl, cm, fi, se, z, zs, sd, tx, ds, rg)) hQ hx hb hrt hlk hS dX5_textLength_9 hP ⟨rfl, rfl, (LZ.mono hL (by omega))⟩

abbrev rX5_locksHeld : Room := { frames := 0, cells := 0, slots := 0, locals := 0 }
set_option maxHeartbeats 1000000 in
set_option maxRecDepth 100000 in
theorem c_X5_locksHeld (l : Launch) (D : va_G) (cI cT : ClassId) (ad : Nat → Nat) (th sv ln vs rl cm fi se : Int32) (z zs sd tx ds rg : Nat → Int32) (F : FF) (Q0 : QQ) (HS : List (FF × QQ)) (sg : Nat → Nat) (len n : Nat) (hL : LZ n (F, Q0, HS, sg, len) z sd tx) (hn : n + 80 < 2 ^ 31) : CN l D cI cT yX5_locksHeld wsX5_locksHeld rX5_locksHeld [.ref (ad 0)] (refW cI ad th (nI HS.length) (nI len) vs rl cm fi se z zs sd tx ds rg) (S := JR) (fun v u => v = (opV (F, Q0, HS, sg, len) (nI (lkN F 10))).2.1 ∧ u.1 = nI (opV (F, Q0, HS, sg, len) (nI (lkN F 10))).1 ∧ LZu (n + 80) (opV (F, Q0, HS, sg, len) (nI (lkN F 10))).2.2 u) (fun u => rfW cI ad (opV (F, Q0, HS, sg, len) (nI (lkN F 10))).2.2 u) := by
  refine CN.of (cc := cX5_locksHeld) (maxL := 3) (ret := (some .int)) (by decide) rfl (Nat.le_of_ble_eq_true rfl) ?_
  intro p e s m args below meth c A Q hQ B hA H locs hP hK hD hS ls hl
  obtain ⟨hx, hb, hml, hrt, hts, hown, hlk⟩ := B
  have hP : va_P D vwCl ([(ad 0, .inr (5, [.int th, .ref (ad 1), .ref (ad 2), .ref (ad 3), .int (nI HS.length), .ref (ad 4), .int (nI len), .int vs, .ref (ad 5), .ref (ad 6), .int rl, .int cm, .int fi, .int se])), (ad 1, .inl (cI, 221, .inl z)), (ad 2, .inl (cI, 221, .inl zs)), (ad 3, .inl (cI, 1768, .inl sd)), (ad 4, .inl (cI, 80, .inl tx)), (ad 5, .inl (cI, 8, .inl ds)), (ad 6, .inl (cI, 8, .inl rg))]) H := hP
  have hD : va_D A ([(ad 0, .inr (5, [.int th, .ref (ad 1), .ref (ad 2), .ref (ad 3), .int (nI HS.length), .ref (ad 4), .int (nI len), .int vs, .ref (ad 5), .ref (ad 6), .int rl, .int cm, .int fi, .int se])), (ad 1, .inl (cI, 221, .inl z)), (ad 2, .inl (cI, 221, .inl zs)), (ad 3, .inl (cI, 1768, .inl sd)), (ad 4, .inl (cI, 80, .inl tx)), (ad 5, .inl (cI, 8, .inl ds)), (ad 6, .inl (cI, 8, .inl rg))]) := hD
  have hl : lv_has ls 3 [(0, .ref (ad 0))] := hl
  obtain ⟨hJ, hC, hZ, hl8, hH, hHS, hlen, htx, hsg⟩ := hL
  dsimp only at hJ hC hZ hl8 hH hHS hlen htx hsg
  have hL := LZ_mk hJ hC hZ hl8 hH hHS hlen htx hsg
  have hB := hC.jb
  have hn8 := hC.n8 (by omega)
  have hHJ : ∀ q ∈ HS, JJ q.1 q.2 := fun q hq => (hHS q hq).1
  have iX5 : ∀ w ∈ u_ws RX5 TX5 14, w ∈ wsX5_locksHeld := by decide +kernel
  have f32 := hts (.fieldLink RX5 32 "LockManagerModel" "thrown" "I") (by decide +kernel)
  have f7 := hts (.fieldLink RX5 7 "LockManagerModel" "z" "[I") (by decide +kernel)
  refine lv_aload_n hx hb dX5_locksHeld_0 rfl (lv_at hl 0 rfl) ?_
  refine lv_iconst (v := (nI 0)) hx hb dX5_locksHeld_1 (by decide) ?_
  refine va_put (D := D) (ci := 5) (v := .int (nI 0)) (ty := .int) (C := RX5) (T := TX5) (N := 14) hx hb hts iX5 tyX5 tyX5_ok nmX5 hown hK hP hD hS 0 rfl rfl 0 (by decide) f32 (fun _ h9 => h9) rfl (by decide +kernel) rfl rfl (Nat.le_of_ble_eq_true rfl) dX5_locksHeld_2 (fun H locs hP hD hS => ?_)
  have hP : va_P D vwCl ([(ad 0, .inr (5, [.int (nI 0), .ref (ad 1), .ref (ad 2), .ref (ad 3), .int (nI HS.length), .ref (ad 4), .int (nI len), .int vs, .ref (ad 5), .ref (ad 6), .int rl, .int cm, .int fi, .int se])), (ad 1, .inl (cI, 221, .inl z)), (ad 2, .inl (cI, 221, .inl zs)), (ad 3, .inl (cI, 1768, .inl sd)), (ad 4, .inl (cI, 80, .inl tx)), (ad 5, .inl (cI, 8, .inl ds)), (ad 6, .inl (cI, 8, .inl rg))]) H := hP
  have hD : va_D A ([(ad 0, .inr (5, [.int (nI 0), .ref (ad 1), .ref (ad 2), .ref (ad 3), .int (nI HS.length), .ref (ad 4), .int (nI len), .int vs, .ref (ad 5), .ref (ad 6), .int rl, .int cm, .int fi, .int se])), (ad 1, .inl (cI, 221, .inl z)), (ad 2, .inl (cI, 221, .inl zs)), (ad 3, .inl (cI, 1768, .inl sd)), (ad 4, .inl (cI, 80, .inl tx)), (ad 5, .inl (cI, 8, .inl ds)), (ad 6, .inl (cI, 8, .inl rg))]) := hD
  refine lv_iconst (v := (nI 0)) hx hb dX5_locksHeld_5 (by decide) ?_
  refine lv_istore_n (lv' := [(1, .int (nI 0)), (0, .ref (ad 0))]) hx hb dX5_locksHeld_6 rfl hl (by decide) rfl (fun ls hl => ?_)
  refine lv_iconst (v := (nI 0)) hx hb dX5_locksHeld_7 (by decide) ?_
  refine lv_istore_n (lv' := [(2, .int (nI 0)), (1, .int (nI 0)), (0, .ref (ad 0))]) hx hb dX5_locksHeld_8 rfl hl (by decide) rfl (fun ls hl => ?_)
  have L9 : ∀ (N : Nat) (k : Nat), (k ≤ 80) → (80 - k) < N → ∀ (H : Heap) (locs : List Loc), va_P D vwCl ([(ad 0, .inr (5, [.int (nI 0), .ref (ad 1), .ref (ad 2), .ref (ad 3), .int (nI HS.length), .ref (ad 4), .int (nI len), .int vs, .ref (ad 5), .ref (ad 6), .int rl, .int cm, .int fi, .int se])), (ad 1, .inl (cI, 221, .inl z)), (ad 2, .inl (cI, 221, .inl zs)), (ad 3, .inl (cI, 1768, .inl sd)), (ad 4, .inl (cI, 80, .inl tx)), (ad 5, .inl (cI, 8, .inl ds)), (ad 6, .inl (cI, 8, .inl rg))]) H → va_D A ([(ad 0, .inr (5, [.int (nI 0), .ref (ad 1), .ref (ad 2), .ref (ad 3), .int (nI HS.length), .ref (ad 4), .int (nI len), .int vs, .ref (ad 5), .ref (ad 6), .int rl, .int cm, .int fi, .int se])), (ad 1, .inl (cI, 221, .inl z)), (ad 2, .inl (cI, 221, .inl zs)), (ad 3, .inl (cI, 1768, .inl sd)), (ad 4, .inl (cI, 80, .inl tx)), (ad 5, .inl (cI, 8, .inl ds)), (ad 6, .inl (cI, 8, .inl rg))]) → va_S A s.heap H locs → ∀ ls : Array Slot, lv_has ls 3 [(0, .ref (ad 0)), (1, .int (nI (smN (lhG F) k))), (2, .int (nI k))] → W p l e rX5_locksHeld s m args below meth c H locs 0 0 Q (F0 m 9 ls []) := by
    intro N9
    induction N9 with
    | zero => intro k hk hN; exact absurd hN (Nat.not_lt_zero _)
    | succ N9 ih9 =>
      intro k hk hN H locs hP hD hS ls hl
      refine lv_iload_n hx hb dX5_locksHeld_9 rfl (lv_at hl 2 rfl) ?_
      refine lv_bipush (v := (nI 80)) hx hb dX5_locksHeld_10 (by decide) ?_
      refine lv_icmp_ge (tgt := 41) hx hb dX5_locksHeld_12 (by decide) (fun h_1 => ?_) (fun h_1 => ?_)
      · have h_1 := (nI_leI (a := 80) (b := k) (by first | omega | exact bits_lt31 _ | exact bitN_lt _ _ | exact bool_lt _ | exact and_lt31 _ _ _ _ | exact Nat.lt_of_le_of_lt (dst_lt _ _ _ (by omega) _) (by decide) | exact Nat.lt_of_le_of_lt (nrB_le _ _ _ (by omega)).2 (by decide) | decide) (by first | omega | exact bits_lt31 _ | exact bitN_lt _ _ | exact bool_lt _ | exact and_lt31 _ _ _ _ | exact Nat.lt_of_le_of_lt (dst_lt _ _ _ (by omega) _) (by decide) | exact Nat.lt_of_le_of_lt (nrB_le _ _ _ (by omega)).2 (by decide) | decide)).mp h_1
        refine lv_iload_n hx hb dX5_locksHeld_41 rfl (lv_at hl 1 rfl) ?_
        exact ret_i (u := ((nI 0), vs, rl, cm, fi, se, z, zs, sd, tx, ds, rg)) hQ hx hb hrt hlk hS dX5_locksHeld_42 hP ⟨(by rw [show k = 80 by omega, ← lkN_ref]; rfl), rfl, (LZ.mono hL (by omega))⟩
      · have h_1 := mt (nI_leI (a := 80) (b := k) (by first | omega | exact bits_lt31 _ | exact bitN_lt _ _ | exact bool_lt _ | exact and_lt31 _ _ _ _ | exact Nat.lt_of_le_of_lt (dst_lt _ _ _ (by omega) _) (by decide) | exact Nat.lt_of_le_of_lt (nrB_le _ _ _ (by omega)).2 (by decide) | decide) (by first | omega | exact bits_lt31 _ | exact bitN_lt _ _ | exact bool_lt _ | exact and_lt31 _ _ _ _ | exact Nat.lt_of_le_of_lt (dst_lt _ _ _ (by omega) _) (by decide) | exact Nat.lt_of_le_of_lt (nrB_le _ _ _ (by omega)).2 (by decide) | decide)).mpr h_1
        refine lv_iload_n hx hb dX5_locksHeld_15 rfl (lv_at hl 1 rfl) ?_
        refine lv_aload_n hx hb dX5_locksHeld_16 rfl (lv_at hl 0 rfl) ?_
        refine va_get (D := D) (ci := 5) (v := .ref (ad 1)) (C := RX5) (T := TX5) (N := 14) hx hb hts iX5 hown hK hP 0 rfl rfl 1 (by decide) f7 (fun _ h9 => h9) rfl dX5_locksHeld_17 ?_
        refine lv_bipush (v := (nI 48)) hx hb dX5_locksHeld_20 (by decide) ?_
        refine lv_iload_n hx hb dX5_locksHeld_22 rfl (lv_at hl 2 rfl) ?_
        refine lv_iadd hx hb dX5_locksHeld_23 ?_
        refine tpe (y := (nI (48 + k))) (nI_add _ _) ?_
        refine r_ild (k := (48 + k)) hx hb hK hP 1 rfl (by omega) (by decide) dX5_locksHeld_24 ?_
        refine tpe (y := lk F (k / 10) (k % 10)) (RZ_k hZ (by omega)) ?_
        refine lv_if_le (tgt := 32) hx hb dX5_locksHeld_25 (by decide) (fun h_2 => ?_) (fun h_2 => ?_)
        · have h_2 := h_2
          refine lv_iconst (v := (nI 0)) hx hb dX5_locksHeld_32 (by decide) ?_
          refine lv_iadd hx hb dX5_locksHeld_33 ?_
          refine tpe (y := (nI (smN (lhG F) k + 0))) (nI_add _ _) ?_
          refine lv_istore_n (lv' := [(1, .int (nI (smN (lhG F) k + 0))), (0, .ref (ad 0)), (2, .int (nI k))]) hx hb dX5_locksHeld_34 rfl hl (by decide) rfl (fun ls hl => ?_)
          refine lv_iinc (v := (nI (k + 1))) (lv' := [(2, .int (nI (k + 1))), (1, .int (nI (smN (lhG F) k + 0))), (0, .ref (ad 0))]) hx hb dX5_locksHeld_35 hl (k := 2) rfl (nI_add _ 1) (by decide) rfl (fun ls hl => ?_)
          refine lv_goto (tgt := 9) hx hb dX5_locksHeld_38 (by decide) ?_
          rw [show (nI (smN (lhG F) k + 0)) = (nI (smN (lhG F) (k + 1))) from (congrArg nI (lh_0 hJ (by omega) h_2))] at hl
          exact ih9 (k + 1) (by omega) (by omega) _ _ hP hD hS _ (lv_sub hl [2, 1, 0] rfl)
        · have h_2 := h_2
          refine lv_iconst (v := (nI 1)) hx hb dX5_locksHeld_28 (by decide) ?_
          refine lv_goto (tgt := 33) hx hb dX5_locksHeld_29 (by decide) ?_
          refine lv_iadd hx hb dX5_locksHeld_33 ?_
          refine tpe (y := (nI (smN (lhG F) k + 1))) (nI_add _ _) ?_
          refine lv_istore_n (lv' := [(1, .int (nI (smN (lhG F) k + 1))), (0, .ref (ad 0)), (2, .int (nI k))]) hx hb dX5_locksHeld_34 rfl hl (by decide) rfl (fun ls hl => ?_)
          refine lv_iinc (v := (nI (k + 1))) (lv' := [(2, .int (nI (k + 1))), (1, .int (nI (smN (lhG F) k + 1))), (0, .ref (ad 0))]) hx hb dX5_locksHeld_35 hl (k := 2) rfl (nI_add _ 1) (by decide) rfl (fun ls hl => ?_)
          refine lv_goto (tgt := 9) hx hb dX5_locksHeld_38 (by decide) ?_
          rw [show (nI (smN (lhG F) k + 1)) = (nI (smN (lhG F) (k + 1))) from (congrArg nI (lh_1 hJ (by omega) h_2))] at hl
          exact ih9 (k + 1) (by omega) (by omega) _ _ hP hD hS _ (lv_sub hl [2, 1, 0] rfl)
  rw [show (nI 0) = (nI (smN (lhG F) 0)) from rfl] at hl
  exact L9 _ 0 (Nat.zero_le _) (Nat.lt_succ_self _) _ _ hP hD hS _ (lv_sub hl [2, 1, 0] rfl)

abbrev rX5_blockers : Room := { frames := 4, cells := 0, slots := 0, locals := 91 }
set_option maxHeartbeats 1000000 in
set_option maxRecDepth 100000 in
theorem c_X5_blockers (l : Launch) (D : va_G) (cI cT : ClassId) (ad : Nat → Nat) (th sv ln vs rl cm fi se : Int32) (z zs sd tx ds rg : Nat → Int32) (F : FF) (Q0 : QQ) (HS : List (FF × QQ)) (sg : Nat → Nat) (len n : Nat) (p0 : Int32) (hL : LZ n (F, Q0, HS, sg, len) z sd tx) (hn : n + 80 < 2 ^ 31) : CN l D cI cT yX5_blockers wsX5_blockers rX5_blockers [.ref (ad 0), .int p0] (refW cI ad th (nI HS.length) (nI len) vs rl cm fi se z zs sd tx ds rg) (S := JR) (fun v u => v = (opT (F, Q0, HS, sg, len) p0 (fun t => nI (pcN (bits (fun u => (clR F Q0 (aWS F Q0 t) 7).testBit u && decide (u ≠ t)) 8) 8))).2.1 ∧ u.1 = nI (opT (F, Q0, HS, sg, len) p0 (fun t => nI (pcN (bits (fun u => (clR F Q0 (aWS F Q0 t) 7).testBit u && decide (u ≠ t)) 8) 8))).1 ∧ LZu (n + 80) (opT (F, Q0, HS, sg, len) p0 (fun t => nI (pcN (bits (fun u => (clR F Q0 (aWS F Q0 t) 7).testBit u && decide (u ≠ t)) 8) 8))).2.2 u) (fun u => rfW cI ad (opT (F, Q0, HS, sg, len) p0 (fun t => nI (pcN (bits (fun u => (clR F Q0 (aWS F Q0 t) 7).testBit u && decide (u ≠ t)) 8) 8))).2.2 u) := by
  refine CN.of (cc := cX5_blockers) (maxL := 5) (ret := (some .int)) (by decide) rfl (Nat.le_of_ble_eq_true rfl) ?_
  intro p e s m args below meth c A Q hQ B hA H locs hP hK hD hS ls hl
  obtain ⟨hx, hb, hml, hrt, hts, hown, hlk⟩ := B
  have hP : va_P D vwCl ([(ad 0, .inr (5, [.int th, .ref (ad 1), .ref (ad 2), .ref (ad 3), .int (nI HS.length), .ref (ad 4), .int (nI len), .int vs, .ref (ad 5), .ref (ad 6), .int rl, .int cm, .int fi, .int se])), (ad 1, .inl (cI, 221, .inl z)), (ad 2, .inl (cI, 221, .inl zs)), (ad 3, .inl (cI, 1768, .inl sd)), (ad 4, .inl (cI, 80, .inl tx)), (ad 5, .inl (cI, 8, .inl ds)), (ad 6, .inl (cI, 8, .inl rg))]) H := hP
  have hD : va_D A ([(ad 0, .inr (5, [.int th, .ref (ad 1), .ref (ad 2), .ref (ad 3), .int (nI HS.length), .ref (ad 4), .int (nI len), .int vs, .ref (ad 5), .ref (ad 6), .int rl, .int cm, .int fi, .int se])), (ad 1, .inl (cI, 221, .inl z)), (ad 2, .inl (cI, 221, .inl zs)), (ad 3, .inl (cI, 1768, .inl sd)), (ad 4, .inl (cI, 80, .inl tx)), (ad 5, .inl (cI, 8, .inl ds)), (ad 6, .inl (cI, 8, .inl rg))]) := hD
  have hl : lv_has ls 5 [(0, .ref (ad 0)), (1, .int p0)] := hl
  obtain ⟨hJ, hC, hZ, hl8, hH, hHS, hlen, htx, hsg⟩ := hL
  dsimp only at hJ hC hZ hl8 hH hHS hlen htx hsg
  have hL := LZ_mk hJ hC hZ hl8 hH hHS hlen htx hsg
  have hB := hC.jb
  have hn8 := hC.n8 (by omega)
  have hHJ : ∀ q ∈ HS, JJ q.1 q.2 := fun q hq => (hHS q hq).1
  have iX5 : ∀ w ∈ u_ws RX5 TX5 14, w ∈ wsX5_blockers := by decide +kernel
  have f32 := hts (.fieldLink RX5 32 "LockManagerModel" "thrown" "I") (by decide +kernel)
  refine lv_aload_n hx hb dX5_blockers_0 rfl (lv_at hl 0 rfl) ?_
  refine lv_iload_n hx hb dX5_blockers_1 rfl (lv_at hl 1 rfl) ?_
  refine call_s (X := [(ad 0, .inr (5, [.int th, .ref (ad 1), .ref (ad 2), .ref (ad 3), .int (nI HS.length), .ref (ad 4), .int (nI len), .int vs, .ref (ad 5), .ref (ad 6), .int rl, .int cm, .int fi, .int se])), (ad 1, .inl (cI, 221, .inl z)), (ad 2, .inl (cI, 221, .inl zs)), (ad 3, .inl (cI, 1768, .inl sd)), (ad 4, .inl (cI, 80, .inl tx)), (ad 5, .inl (cI, 8, .inl ds)), (ad 6, .inl (cI, 8, .inl rg))]) (Wc := []) (Z := []) (As := [.int p0]) (rest := [.ref (ad 0)]) ⟨hx, hb, hml, hown, hts⟩ (c_X5_isTransaction l D cI cT p0) (va_cwS 1 hts gX5_blockers_X5_isTransaction rfl rfl rfl (by decide +kernel) ⟨Nat.le_of_ble_eq_true rfl, Nat.le_of_ble_eq_true rfl⟩) hK (P_nilr hP) (D_nilr hD) hS hA (fun _ => rfl) rfl hl.1 rfl (Nat.le_of_ble_eq_true rfl) ⟨by decide, by decide⟩ dX5_blockers_2 (fun rv _ H locs hp hP hD hS => ?_)
  obtain rfl := hp
  have hP := P_nil2 hP
  have hD := D_nil2 hD
  have hP : va_P D vwCl ([(ad 0, .inr (5, [.int th, .ref (ad 1), .ref (ad 2), .ref (ad 3), .int (nI HS.length), .ref (ad 4), .int (nI len), .int vs, .ref (ad 5), .ref (ad 6), .int rl, .int cm, .int fi, .int se])), (ad 1, .inl (cI, 221, .inl z)), (ad 2, .inl (cI, 221, .inl zs)), (ad 3, .inl (cI, 1768, .inl sd)), (ad 4, .inl (cI, 80, .inl tx)), (ad 5, .inl (cI, 8, .inl ds)), (ad 6, .inl (cI, 8, .inl rg))]) H := hP
  have hD : va_D A ([(ad 0, .inr (5, [.int th, .ref (ad 1), .ref (ad 2), .ref (ad 3), .int (nI HS.length), .ref (ad 4), .int (nI len), .int vs, .ref (ad 5), .ref (ad 6), .int rl, .int cm, .int fi, .int se])), (ad 1, .inl (cI, 221, .inl z)), (ad 2, .inl (cI, 221, .inl zs)), (ad 3, .inl (cI, 1768, .inl sd)), (ad 4, .inl (cI, 80, .inl tx)), (ad 5, .inl (cI, 8, .inl ds)), (ad 6, .inl (cI, 8, .inl rg))]) := hD
  refine lv_if_eq (tgt := 12) hx hb dX5_blockers_5 (by decide) (fun h_1 => ?_) (fun h_1 => ?_)
  · have h_1 := (nI_eq (a := ((inI p0 8).toNat)) (b := 0) (by first | omega | exact bits_lt31 _ | exact bitN_lt _ _ | exact bool_lt _ | exact and_lt31 _ _ _ _ | exact Nat.lt_of_le_of_lt (dst_lt _ _ _ (by omega) _) (by decide) | exact Nat.lt_of_le_of_lt (nrB_le _ _ _ (by omega)).2 (by decide) | decide) (by first | omega | exact bits_lt31 _ | exact bitN_lt _ _ | exact bool_lt _ | exact and_lt31 _ _ _ _ | exact Nat.lt_of_le_of_lt (dst_lt _ _ _ (by omega) _) (by decide) | exact Nat.lt_of_le_of_lt (nrB_le _ _ _ (by omega)).2 (by decide) | decide)).mp h_1
    have h_1 := tn_f h_1
    refine lv_iconst (v := (nI 1)) hx hb dX5_blockers_12 (by decide) ?_
    refine va_put (D := D) (ci := 5) (v := .int (nI 1)) (ty := .int) (C := RX5) (T := TX5) (N := 14) hx hb hts iX5 tyX5 tyX5_ok nmX5 hown hK hP hD hS 0 rfl rfl 0 (by decide) f32 (fun _ h9 => h9) rfl (by decide +kernel) rfl rfl (Nat.le_of_ble_eq_true rfl) dX5_blockers_13 (fun H locs hP hD hS => ?_)
    have hP : va_P D vwCl ([(ad 0, .inr (5, [.int (nI 1), .ref (ad 1), .ref (ad 2), .ref (ad 3), .int (nI HS.length), .ref (ad 4), .int (nI len), .int vs, .ref (ad 5), .ref (ad 6), .int rl, .int cm, .int fi, .int se])), (ad 1, .inl (cI, 221, .inl z)), (ad 2, .inl (cI, 221, .inl zs)), (ad 3, .inl (cI, 1768, .inl sd)), (ad 4, .inl (cI, 80, .inl tx)), (ad 5, .inl (cI, 8, .inl ds)), (ad 6, .inl (cI, 8, .inl rg))]) H := hP
    have hD : va_D A ([(ad 0, .inr (5, [.int (nI 1), .ref (ad 1), .ref (ad 2), .ref (ad 3), .int (nI HS.length), .ref (ad 4), .int (nI len), .int vs, .ref (ad 5), .ref (ad 6), .int rl, .int cm, .int fi, .int se])), (ad 1, .inl (cI, 221, .inl z)), (ad 2, .inl (cI, 221, .inl zs)), (ad 3, .inl (cI, 1768, .inl sd)), (ad 4, .inl (cI, 80, .inl tx)), (ad 5, .inl (cI, 8, .inl ds)), (ad 6, .inl (cI, 8, .inl rg))]) := hD
    refine lv_aload_n hx hb dX5_blockers_16 rfl (lv_at hl 0 rfl) ?_
    refine va_get (D := D) (ci := 5) (v := .int (nI 1)) (C := RX5) (T := TX5) (N := 14) hx hb hts iX5 hown hK hP 0 rfl rfl 0 (by decide) f32 (fun _ h9 => h9) rfl dX5_blockers_17 ?_
    refine lv_if_le (tgt := 25) hx hb dX5_blockers_20 (by decide) (fun h => absurd h (by decide)) (fun _ => ?_)
    refine lv_iconst (v := (nI 0)) hx hb dX5_blockers_23 (by decide) ?_
    exact ret_i (u := ((nI 1), vs, rl, cm, fi, se, z, zs, sd, tx, ds, rg)) hQ hx hb hrt hlk hS dX5_blockers_24 (by rw [opT_1 h_1]; exact hP) (by rw [opT_1 h_1]; exact ⟨rfl, rfl, (LZ.mono hL (by omega))⟩)
  · have h_1 := mt (nI_eq (a := ((inI p0 8).toNat)) (b := 0) (by first | omega | exact bits_lt31 _ | exact bitN_lt _ _ | exact bool_lt _ | exact and_lt31 _ _ _ _ | exact Nat.lt_of_le_of_lt (dst_lt _ _ _ (by omega) _) (by decide) | exact Nat.lt_of_le_of_lt (nrB_le _ _ _ (by omega)).2 (by decide) | decide) (by first | omega | exact bits_lt31 _ | exact bitN_lt _ _ | exact bool_lt _ | exact and_lt31 _ _ _ _ | exact Nat.lt_of_le_of_lt (dst_lt _ _ _ (by omega) _) (by decide) | exact Nat.lt_of_le_of_lt (nrB_le _ _ _ (by omega)).2 (by decide) | decide)).mpr h_1
    have h_1 := tn_y h_1
    obtain ⟨t9, ht9, et9⟩ := inI_t (by decide) h_1
    rw [et9] at hl
    refine lv_iconst (v := (nI 0)) hx hb dX5_blockers_8 (by decide) ?_
    refine lv_goto (tgt := 13) hx hb dX5_blockers_9 (by decide) ?_
    refine va_put (D := D) (ci := 5) (v := .int (nI 0)) (ty := .int) (C := RX5) (T := TX5) (N := 14) hx hb hts iX5 tyX5 tyX5_ok nmX5 hown hK hP hD hS 0 rfl rfl 0 (by decide) f32 (fun _ h9 => h9) rfl (by decide +kernel) rfl rfl (Nat.le_of_ble_eq_true rfl) dX5_blockers_13 (fun H locs hP hD hS => ?_)
    have hP : va_P D vwCl ([(ad 0, .inr (5, [.int (nI 0), .ref (ad 1), .ref (ad 2), .ref (ad 3), .int (nI HS.length), .ref (ad 4), .int (nI len), .int vs, .ref (ad 5), .ref (ad 6), .int rl, .int cm, .int fi, .int se])), (ad 1, .inl (cI, 221, .inl z)), (ad 2, .inl (cI, 221, .inl zs)), (ad 3, .inl (cI, 1768, .inl sd)), (ad 4, .inl (cI, 80, .inl tx)), (ad 5, .inl (cI, 8, .inl ds)), (ad 6, .inl (cI, 8, .inl rg))]) H := hP
    have hD : va_D A ([(ad 0, .inr (5, [.int (nI 0), .ref (ad 1), .ref (ad 2), .ref (ad 3), .int (nI HS.length), .ref (ad 4), .int (nI len), .int vs, .ref (ad 5), .ref (ad 6), .int rl, .int cm, .int fi, .int se])), (ad 1, .inl (cI, 221, .inl z)), (ad 2, .inl (cI, 221, .inl zs)), (ad 3, .inl (cI, 1768, .inl sd)), (ad 4, .inl (cI, 80, .inl tx)), (ad 5, .inl (cI, 8, .inl ds)), (ad 6, .inl (cI, 8, .inl rg))]) := hD
    refine lv_aload_n hx hb dX5_blockers_16 rfl (lv_at hl 0 rfl) ?_
    refine va_get (D := D) (ci := 5) (v := .int (nI 0)) (C := RX5) (T := TX5) (N := 14) hx hb hts iX5 hown hK hP 0 rfl rfl 0 (by decide) f32 (fun _ h9 => h9) rfl dX5_blockers_17 ?_
    refine lv_if_le (tgt := 25) hx hb dX5_blockers_20 (by decide) (fun _ => ?_) (fun h => absurd (by decide) h)
    refine lv_aload_n hx hb dX5_blockers_25 rfl (lv_at hl 0 rfl) ?_
    refine lv_iload_n hx hb dX5_blockers_26 rfl (lv_at hl 1 rfl) ?_
    refine call_i (X := []) (Z := []) (As := [.int (nI t9)]) (rest := []) ⟨hx, hb, hml, hown, hts⟩ (c_X5_waitedFor l D cI cT ad (nI 0) (nI HS.length) (nI len) vs rl cm fi se z zs sd tx ds rg F Q0 t9 (by omega) hZ hJ) (cwV 1 hts gX5_blockers_X5_waitedFor rfl rfl rfl (by decide +kernel) ⟨Nat.le_of_ble_eq_true rfl, Nat.le_of_ble_eq_true rfl⟩) hK hP hD hS hA (va_recv hK hP (ci := 5) (q0 := 0) rfl rfl) (fun _ => rfl) rfl hl.1 rfl (Nat.le_of_ble_eq_true rfl) ⟨by decide, by decide⟩ dX5_blockers_27 (fun rv _ H locs hp hP hD hS => ?_)
    obtain rfl := hp
    have hP : va_P D vwCl ([(ad 0, .inr (5, [.int (nI 0), .ref (ad 1), .ref (ad 2), .ref (ad 3), .int (nI HS.length), .ref (ad 4), .int (nI len), .int vs, .ref (ad 5), .ref (ad 6), .int rl, .int cm, .int fi, .int se])), (ad 1, .inl (cI, 221, .inl z)), (ad 2, .inl (cI, 221, .inl zs)), (ad 3, .inl (cI, 1768, .inl sd)), (ad 4, .inl (cI, 80, .inl tx)), (ad 5, .inl (cI, 8, .inl ds)), (ad 6, .inl (cI, 8, .inl rg))]) H := hP
    have hD : va_D A ([(ad 0, .inr (5, [.int (nI 0), .ref (ad 1), .ref (ad 2), .ref (ad 3), .int (nI HS.length), .ref (ad 4), .int (nI len), .int vs, .ref (ad 5), .ref (ad 6), .int rl, .int cm, .int fi, .int se])), (ad 1, .inl (cI, 221, .inl z)), (ad 2, .inl (cI, 221, .inl zs)), (ad 3, .inl (cI, 1768, .inl sd)), (ad 4, .inl (cI, 80, .inl tx)), (ad 5, .inl (cI, 8, .inl ds)), (ad 6, .inl (cI, 8, .inl rg))]) := hD
    refine lv_istore_n (lv' := [(2, .int (nI (aWS F Q0 t9))), (0, .ref (ad 0)), (1, .int (nI t9))]) hx hb dX5_blockers_30 rfl hl (by decide) rfl (fun ls hl => ?_)
    refine lv_iconst (v := (nI 0)) hx hb dX5_blockers_31 (by decide) ?_
    refine lv_istore_n (lv' := [(3, .int (nI 0)), (2, .int (nI (aWS F Q0 t9))), (0, .ref (ad 0)), (1, .int (nI t9))]) hx hb dX5_blockers_32 rfl hl (by decide) rfl (fun ls hl => ?_)
    have L33 : ∀ (N : Nat) (k : Nat), (k ≤ 8) → (8 - k) < N → ∀ (H : Heap) (locs : List Loc), va_P D vwCl ([(ad 0, .inr (5, [.int (nI 0), .ref (ad 1), .ref (ad 2), .ref (ad 3), .int (nI HS.length), .ref (ad 4), .int (nI len), .int vs, .ref (ad 5), .ref (ad 6), .int rl, .int cm, .int fi, .int se])), (ad 1, .inl (cI, 221, .inl z)), (ad 2, .inl (cI, 221, .inl zs)), (ad 3, .inl (cI, 1768, .inl sd)), (ad 4, .inl (cI, 80, .inl tx)), (ad 5, .inl (cI, 8, .inl ds)), (ad 6, .inl (cI, 8, .inl rg))]) H → va_D A ([(ad 0, .inr (5, [.int (nI 0), .ref (ad 1), .ref (ad 2), .ref (ad 3), .int (nI HS.length), .ref (ad 4), .int (nI len), .int vs, .ref (ad 5), .ref (ad 6), .int rl, .int cm, .int fi, .int se])), (ad 1, .inl (cI, 221, .inl z)), (ad 2, .inl (cI, 221, .inl zs)), (ad 3, .inl (cI, 1768, .inl sd)), (ad 4, .inl (cI, 80, .inl tx)), (ad 5, .inl (cI, 8, .inl ds)), (ad 6, .inl (cI, 8, .inl rg))]) → va_S A s.heap H locs → ∀ ls : Array Slot, lv_has ls 5 [(0, .ref (ad 0)), (1, .int (nI t9)), (2, .int (nI (clR F Q0 (aWS F Q0 t9) k))), (3, .int (nI k))] → W p l e rX5_blockers s m args below meth c H locs 0 0 Q (F0 m 33 ls []) := by
      intro N33
      induction N33 with
      | zero => intro k hk hN; exact absurd hN (Nat.not_lt_zero _)
      | succ N33 ih33 =>
        intro k hk hN H locs hP hD hS ls hl
        refine lv_iload_n hx hb dX5_blockers_33 rfl (lv_at hl 3 rfl) ?_
        refine lv_bipush (v := (nI 8)) hx hb dX5_blockers_34 (by decide) ?_
        refine lv_icmp_ge (tgt := 84) hx hb dX5_blockers_36 (by decide) (fun h_2 => ?_) (fun h_2 => ?_)
        · have h_2 := (nI_leI (a := 8) (b := k) (by first | omega | exact bits_lt31 _ | exact bitN_lt _ _ | exact bool_lt _ | exact and_lt31 _ _ _ _ | exact Nat.lt_of_le_of_lt (dst_lt _ _ _ (by omega) _) (by decide) | exact Nat.lt_of_le_of_lt (nrB_le _ _ _ (by omega)).2 (by decide) | decide) (by first | omega | exact bits_lt31 _ | exact bitN_lt _ _ | exact bool_lt _ | exact and_lt31 _ _ _ _ | exact Nat.lt_of_le_of_lt (dst_lt _ _ _ (by omega) _) (by decide) | exact Nat.lt_of_le_of_lt (nrB_le _ _ _ (by omega)).2 (by decide) | decide)).mp h_2
          rw [show k = 8 by omega] at hl
          refine lv_iconst (v := (nI 0)) hx hb dX5_blockers_84 (by decide) ?_
          refine lv_istore_n (lv' := [(3, .int (nI 0)), (0, .ref (ad 0)), (1, .int (nI t9)), (2, .int (nI (clR F Q0 (aWS F Q0 t9) 8)))]) hx hb dX5_blockers_85 rfl hl (by decide) rfl (fun ls hl => ?_)
          refine lv_iconst (v := (nI 0)) hx hb dX5_blockers_86 (by decide) ?_
          refine lv_istore (lv' := [(4, .int (nI 0)), (3, .int (nI 0)), (0, .ref (ad 0)), (1, .int (nI t9)), (2, .int (nI (clR F Q0 (aWS F Q0 t9) 8)))]) hx hb dX5_blockers_87 hl (by decide) rfl (fun ls hl => ?_)
          have L89 : ∀ (N : Nat) (i : Nat), (i ≤ 8) → (8 - i) < N → ∀ (H : Heap) (locs : List Loc), va_P D vwCl ([(ad 0, .inr (5, [.int (nI 0), .ref (ad 1), .ref (ad 2), .ref (ad 3), .int (nI HS.length), .ref (ad 4), .int (nI len), .int vs, .ref (ad 5), .ref (ad 6), .int rl, .int cm, .int fi, .int se])), (ad 1, .inl (cI, 221, .inl z)), (ad 2, .inl (cI, 221, .inl zs)), (ad 3, .inl (cI, 1768, .inl sd)), (ad 4, .inl (cI, 80, .inl tx)), (ad 5, .inl (cI, 8, .inl ds)), (ad 6, .inl (cI, 8, .inl rg))]) H → va_D A ([(ad 0, .inr (5, [.int (nI 0), .ref (ad 1), .ref (ad 2), .ref (ad 3), .int (nI HS.length), .ref (ad 4), .int (nI len), .int vs, .ref (ad 5), .ref (ad 6), .int rl, .int cm, .int fi, .int se])), (ad 1, .inl (cI, 221, .inl z)), (ad 2, .inl (cI, 221, .inl zs)), (ad 3, .inl (cI, 1768, .inl sd)), (ad 4, .inl (cI, 80, .inl tx)), (ad 5, .inl (cI, 8, .inl ds)), (ad 6, .inl (cI, 8, .inl rg))]) → va_S A s.heap H locs → ∀ ls : Array Slot, lv_has ls 5 [(0, .ref (ad 0)), (1, .int (nI t9)), (2, .int (nI (clR F Q0 (aWS F Q0 t9) 8))), (3, .int (nI (bkN (clR F Q0 (aWS F Q0 t9) 8) t9 i))), (4, .int (nI i))] → W p l e rX5_blockers s m args below meth c H locs 0 0 Q (F0 m 89 ls []) := by
            intro N89
            induction N89 with
            | zero => intro i hi hN; exact absurd hN (Nat.not_lt_zero _)
            | succ N89 ih89 =>
              intro i hi hN H locs hP hD hS ls hl
              refine lv_iload hx hb dX5_blockers_89 (lv_at hl 4 rfl) ?_
              refine lv_bipush (v := (nI 8)) hx hb dX5_blockers_91 (by decide) ?_
              refine lv_icmp_ge (tgt := 121) hx hb dX5_blockers_93 (by decide) (fun h_3 => ?_) (fun h_3 => ?_)
              · have h_3 := (nI_leI (a := 8) (b := i) (by first | omega | exact bits_lt31 _ | exact bitN_lt _ _ | exact bool_lt _ | exact and_lt31 _ _ _ _ | exact Nat.lt_of_le_of_lt (dst_lt _ _ _ (by omega) _) (by decide) | exact Nat.lt_of_le_of_lt (nrB_le _ _ _ (by omega)).2 (by decide) | decide) (by first | omega | exact bits_lt31 _ | exact bitN_lt _ _ | exact bool_lt _ | exact and_lt31 _ _ _ _ | exact Nat.lt_of_le_of_lt (dst_lt _ _ _ (by omega) _) (by decide) | exact Nat.lt_of_le_of_lt (nrB_le _ _ _ (by omega)).2 (by decide) | decide)).mp h_3
                refine lv_iload_n hx hb dX5_blockers_121 rfl (lv_at hl 3 rfl) ?_
                exact ret_i (u := ((nI 0), vs, rl, cm, fi, se, z, zs, sd, tx, ds, rg)) hQ hx hb hrt hlk hS dX5_blockers_122 (by rw [et9, opT_0 ht9]; exact hP) (by rw [et9, opT_0 ht9]; exact ⟨(by rw [show i = 8 by omega, bk_eq, clR_8 (aWS_lt _ _ _)]), rfl, (LZ.mono hL (by omega))⟩)
              · have h_3 := mt (nI_leI (a := 8) (b := i) (by first | omega | exact bits_lt31 _ | exact bitN_lt _ _ | exact bool_lt _ | exact and_lt31 _ _ _ _ | exact Nat.lt_of_le_of_lt (dst_lt _ _ _ (by omega) _) (by decide) | exact Nat.lt_of_le_of_lt (nrB_le _ _ _ (by omega)).2 (by decide) | decide) (by first | omega | exact bits_lt31 _ | exact bitN_lt _ _ | exact bool_lt _ | exact and_lt31 _ _ _ _ | exact Nat.lt_of_le_of_lt (dst_lt _ _ _ (by omega) _) (by decide) | exact Nat.lt_of_le_of_lt (nrB_le _ _ _ (by omega)).2 (by decide) | decide)).mpr h_3
                refine lv_iload_n hx hb dX5_blockers_96 rfl (lv_at hl 3 rfl) ?_
                refine lv_iload hx hb dX5_blockers_97 (lv_at hl 4 rfl) ?_
                refine lv_iload_n hx hb dX5_blockers_99 rfl (lv_at hl 1 rfl) ?_
                refine lv_icmp_eq (tgt := 112) hx hb dX5_blockers_100 (by decide) (fun h_4 => ?_) (fun h_4 => ?_)
                · have h_4 := (nI_eq (a := i) (b := t9) (by first | omega | exact bits_lt31 _ | exact bitN_lt _ _ | exact bool_lt _ | exact and_lt31 _ _ _ _ | exact Nat.lt_of_le_of_lt (dst_lt _ _ _ (by omega) _) (by decide) | exact Nat.lt_of_le_of_lt (nrB_le _ _ _ (by omega)).2 (by decide) | decide) (by first | omega | exact bits_lt31 _ | exact bitN_lt _ _ | exact bool_lt _ | exact and_lt31 _ _ _ _ | exact Nat.lt_of_le_of_lt (dst_lt _ _ _ (by omega) _) (by decide) | exact Nat.lt_of_le_of_lt (nrB_le _ _ _ (by omega)).2 (by decide) | decide)).mp h_4
                  refine lv_iconst (v := (nI 0)) hx hb dX5_blockers_112 (by decide) ?_
                  refine lv_iadd hx hb dX5_blockers_113 ?_
                  refine tpe (y := (nI (bkN (clR F Q0 (aWS F Q0 t9) 8) t9 i + 0))) (nI_add _ _) ?_
                  refine lv_istore_n (lv' := [(3, .int (nI (bkN (clR F Q0 (aWS F Q0 t9) 8) t9 i + 0))), (0, .ref (ad 0)), (1, .int (nI t9)), (2, .int (nI (clR F Q0 (aWS F Q0 t9) 8))), (4, .int (nI i))]) hx hb dX5_blockers_114 rfl hl (by decide) rfl (fun ls hl => ?_)
                  refine lv_iinc (v := (nI (i + 1))) (lv' := [(4, .int (nI (i + 1))), (3, .int (nI (bkN (clR F Q0 (aWS F Q0 t9) 8) t9 i + 0))), (0, .ref (ad 0)), (1, .int (nI t9)), (2, .int (nI (clR F Q0 (aWS F Q0 t9) 8)))]) hx hb dX5_blockers_115 hl (k := 4) rfl (nI_add _ 1) (by decide) rfl (fun ls hl => ?_)
                  refine lv_goto (tgt := 89) hx hb dX5_blockers_118 (by decide) ?_
                  rw [show (nI (bkN (clR F Q0 (aWS F Q0 t9) 8) t9 i + 0)) = (nI (bkN (clR F Q0 (aWS F Q0 t9) 8) t9 (i + 1))) from (congrArg nI (bk_s0 h_4))] at hl
                  exact ih89 (i + 1) (by omega) (by omega) _ _ hP hD hS _ (lv_sub hl [2, 3, 4, 1, 0] rfl)
                · have h_4 := mt (nI_eq (a := i) (b := t9) (by first | omega | exact bits_lt31 _ | exact bitN_lt _ _ | exact bool_lt _ | exact and_lt31 _ _ _ _ | exact Nat.lt_of_le_of_lt (dst_lt _ _ _ (by omega) _) (by decide) | exact Nat.lt_of_le_of_lt (nrB_le _ _ _ (by omega)).2 (by decide) | decide) (by first | omega | exact bits_lt31 _ | exact bitN_lt _ _ | exact bool_lt _ | exact and_lt31 _ _ _ _ | exact Nat.lt_of_le_of_lt (dst_lt _ _ _ (by omega) _) (by decide) | exact Nat.lt_of_le_of_lt (nrB_le _ _ _ (by omega)).2 (by decide) | decide)).mpr h_4
                  refine lv_iload_n hx hb dX5_blockers_103 rfl (lv_at hl 2 rfl) ?_
                  refine lv_iload hx hb dX5_blockers_104 (lv_at hl 4 rfl) ?_
                  refine lv_ishr hx hb dX5_blockers_106 ?_
                  refine lv_iconst (v := (nI 1)) hx hb dX5_blockers_107 (by decide) ?_
                  refine lv_iand hx hb dX5_blockers_108 ?_
                  refine tpe (y := nI (bitN (clR F Q0 (aWS F Q0 t9) 8) i)) (tb_I (Nat.lt_of_lt_of_le (clR_lt (aWS_lt _ _ _) 8) (by decide)) (by omega)) ?_
                  refine lv_goto (tgt := 113) hx hb dX5_blockers_109 (by decide) ?_
                  refine lv_iadd hx hb dX5_blockers_113 ?_
                  refine tpe (y := (nI (bkN (clR F Q0 (aWS F Q0 t9) 8) t9 i + (bitN (clR F Q0 (aWS F Q0 t9) 8) i)))) (nI_add _ _) ?_
                  refine lv_istore_n (lv' := [(3, .int (nI (bkN (clR F Q0 (aWS F Q0 t9) 8) t9 i + (bitN (clR F Q0 (aWS F Q0 t9) 8) i)))), (0, .ref (ad 0)), (1, .int (nI t9)), (2, .int (nI (clR F Q0 (aWS F Q0 t9) 8))), (4, .int (nI i))]) hx hb dX5_blockers_114 rfl hl (by decide) rfl (fun ls hl => ?_)
                  refine lv_iinc (v := (nI (i + 1))) (lv' := [(4, .int (nI (i + 1))), (3, .int (nI (bkN (clR F Q0 (aWS F Q0 t9) 8) t9 i + (bitN (clR F Q0 (aWS F Q0 t9) 8) i)))), (0, .ref (ad 0)), (1, .int (nI t9)), (2, .int (nI (clR F Q0 (aWS F Q0 t9) 8)))]) hx hb dX5_blockers_115 hl (k := 4) rfl (nI_add _ 1) (by decide) rfl (fun ls hl => ?_)
                  refine lv_goto (tgt := 89) hx hb dX5_blockers_118 (by decide) ?_
                  rw [show (nI (bkN (clR F Q0 (aWS F Q0 t9) 8) t9 i + (bitN (clR F Q0 (aWS F Q0 t9) 8) i))) = (nI (bkN (clR F Q0 (aWS F Q0 t9) 8) t9 (i + 1))) from (congrArg nI (bk_s1 h_4))] at hl
                  exact ih89 (i + 1) (by omega) (by omega) _ _ hP hD hS _ (lv_sub hl [2, 3, 4, 1, 0] rfl)
          rw [show (nI 0) = (nI (bkN (clR F Q0 (aWS F Q0 t9) 8) t9 0)) from rfl] at hl
          exact L89 _ 0 (Nat.zero_le _) (Nat.lt_succ_self _) _ _ hP hD hS _ (lv_sub hl [2, 3, 4, 1, 0] rfl)
        · have h_2 := mt (nI_leI (a := 8) (b := k) (by first | omega | exact bits_lt31 _ | exact bitN_lt _ _ | exact bool_lt _ | exact and_lt31 _ _ _ _ | exact Nat.lt_of_le_of_lt (dst_lt _ _ _ (by omega) _) (by decide) | exact Nat.lt_of_le_of_lt (nrB_le _ _ _ (by omega)).2 (by decide) | decide) (by first | omega | exact bits_lt31 _ | exact bitN_lt _ _ | exact bool_lt _ | exact and_lt31 _ _ _ _ | exact Nat.lt_of_le_of_lt (dst_lt _ _ _ (by omega) _) (by decide) | exact Nat.lt_of_le_of_lt (nrB_le _ _ _ (by omega)).2 (by decide) | decide)).mpr h_2
          refine lv_iconst (v := (nI 0)) hx hb dX5_blockers_39 (by decide) ?_
          refine lv_istore (lv' := [(4, .int (nI 0)), (0, .ref (ad 0)), (1, .int (nI t9)), (2, .int (nI (clR F Q0 (aWS F Q0 t9) k))), (3, .int (nI k))]) hx hb dX5_blockers_40 hl (by decide) rfl (fun ls hl => ?_)
          have L42 : ∀ (N : Nat) (i : Nat), (i ≤ 8) → (8 - i) < N → ∀ (H : Heap) (locs : List Loc), va_P D vwCl ([(ad 0, .inr (5, [.int (nI 0), .ref (ad 1), .ref (ad 2), .ref (ad 3), .int (nI HS.length), .ref (ad 4), .int (nI len), .int vs, .ref (ad 5), .ref (ad 6), .int rl, .int cm, .int fi, .int se])), (ad 1, .inl (cI, 221, .inl z)), (ad 2, .inl (cI, 221, .inl zs)), (ad 3, .inl (cI, 1768, .inl sd)), (ad 4, .inl (cI, 80, .inl tx)), (ad 5, .inl (cI, 8, .inl ds)), (ad 6, .inl (cI, 8, .inl rg))]) H → va_D A ([(ad 0, .inr (5, [.int (nI 0), .ref (ad 1), .ref (ad 2), .ref (ad 3), .int (nI HS.length), .ref (ad 4), .int (nI len), .int vs, .ref (ad 5), .ref (ad 6), .int rl, .int cm, .int fi, .int se])), (ad 1, .inl (cI, 221, .inl z)), (ad 2, .inl (cI, 221, .inl zs)), (ad 3, .inl (cI, 1768, .inl sd)), (ad 4, .inl (cI, 80, .inl tx)), (ad 5, .inl (cI, 8, .inl ds)), (ad 6, .inl (cI, 8, .inl rg))]) → va_S A s.heap H locs → ∀ ls : Array Slot, lv_has ls 5 [(0, .ref (ad 0)), (1, .int (nI t9)), (2, .int (nI (clT F Q0 (clR F Q0 (aWS F Q0 t9) k) i))), (3, .int (nI k)), (4, .int (nI i))] → W p l e rX5_blockers s m args below meth c H locs 0 0 Q (F0 m 42 ls []) := by
            intro N42
            induction N42 with
            | zero => intro i hi hN; exact absurd hN (Nat.not_lt_zero _)
            | succ N42 ih42 =>
              intro i hi hN H locs hP hD hS ls hl
              refine lv_iload hx hb dX5_blockers_42 (lv_at hl 4 rfl) ?_
              refine lv_bipush (v := (nI 8)) hx hb dX5_blockers_44 (by decide) ?_
              refine lv_icmp_ge (tgt := 78) hx hb dX5_blockers_46 (by decide) (fun h_5 => ?_) (fun h_5 => ?_)
              · have h_5 := (nI_leI (a := 8) (b := i) (by first | omega | exact bits_lt31 _ | exact bitN_lt _ _ | exact bool_lt _ | exact and_lt31 _ _ _ _ | exact Nat.lt_of_le_of_lt (dst_lt _ _ _ (by omega) _) (by decide) | exact Nat.lt_of_le_of_lt (nrB_le _ _ _ (by omega)).2 (by decide) | decide) (by first | omega | exact bits_lt31 _ | exact bitN_lt _ _ | exact bool_lt _ | exact and_lt31 _ _ _ _ | exact Nat.lt_of_le_of_lt (dst_lt _ _ _ (by omega) _) (by decide) | exact Nat.lt_of_le_of_lt (nrB_le _ _ _ (by omega)).2 (by decide) | decide)).mp h_5
                refine lv_iinc (v := (nI (k + 1))) (lv' := [(3, .int (nI (k + 1))), (0, .ref (ad 0)), (1, .int (nI t9)), (2, .int (nI (clT F Q0 (clR F Q0 (aWS F Q0 t9) k) i))), (4, .int (nI i))]) hx hb dX5_blockers_78 hl (k := 3) rfl (nI_add _ 1) (by decide) rfl (fun ls hl => ?_)
                refine lv_goto (tgt := 33) hx hb dX5_blockers_81 (by decide) ?_
                rw [show (nI (clT F Q0 (clR F Q0 (aWS F Q0 t9) k) i)) = (nI (clR F Q0 (aWS F Q0 t9) (k + 1))) from (by rw [show i = 8 by omega]; rfl)] at hl
                exact ih33 (k + 1) (by omega) (by omega) _ _ hP hD hS _ (lv_sub hl [1, 2, 3, 0] rfl)
              · have h_5 := mt (nI_leI (a := 8) (b := i) (by first | omega | exact bits_lt31 _ | exact bitN_lt _ _ | exact bool_lt _ | exact and_lt31 _ _ _ _ | exact Nat.lt_of_le_of_lt (dst_lt _ _ _ (by omega) _) (by decide) | exact Nat.lt_of_le_of_lt (nrB_le _ _ _ (by omega)).2 (by decide) | decide) (by first | omega | exact bits_lt31 _ | exact bitN_lt _ _ | exact bool_lt _ | exact and_lt31 _ _ _ _ | exact Nat.lt_of_le_of_lt (dst_lt _ _ _ (by omega) _) (by decide) | exact Nat.lt_of_le_of_lt (nrB_le _ _ _ (by omega)).2 (by decide) | decide)).mpr h_5
                refine lv_iload_n hx hb dX5_blockers_49 rfl (lv_at hl 2 rfl) ?_
                refine lv_iload_n hx hb dX5_blockers_50 rfl (lv_at hl 2 rfl) ?_
                refine lv_iload hx hb dX5_blockers_51 (lv_at hl 4 rfl) ?_
                refine lv_ishr hx hb dX5_blockers_53 ?_
                refine lv_iconst (v := (nI 1)) hx hb dX5_blockers_54 (by decide) ?_
                refine lv_iand hx hb dX5_blockers_55 ?_
                refine tpe (y := nI (bitN (clT F Q0 (clR F Q0 (aWS F Q0 t9) k) i) i)) (tb_I (Nat.lt_of_lt_of_le (clT_lt (clR_lt (aWS_lt _ _ _) k) i) (by decide)) (by omega)) ?_
                refine lv_iconst (v := (nI 1)) hx hb dX5_blockers_56 (by decide) ?_
                refine lv_icmp_ne (tgt := 69) hx hb dX5_blockers_57 (by decide) (fun h_6 => ?_) (fun h_6 => ?_)
                · have h_6 := mt (nI_eq (a := (bitN (clT F Q0 (clR F Q0 (aWS F Q0 t9) k) i) i)) (b := 1) (by first | omega | exact bits_lt31 _ | exact bitN_lt _ _ | exact bool_lt _ | exact and_lt31 _ _ _ _ | exact Nat.lt_of_le_of_lt (dst_lt _ _ _ (by omega) _) (by decide) | exact Nat.lt_of_le_of_lt (nrB_le _ _ _ (by omega)).2 (by decide) | decide) (by first | omega | exact bits_lt31 _ | exact bitN_lt _ _ | exact bool_lt _ | exact and_lt31 _ _ _ _ | exact Nat.lt_of_le_of_lt (dst_lt _ _ _ (by omega) _) (by decide) | exact Nat.lt_of_le_of_lt (nrB_le _ _ _ (by omega)).2 (by decide) | decide)).mpr h_6
                  refine lv_iconst (v := (nI 0)) hx hb dX5_blockers_69 (by decide) ?_
                  refine lv_ior hx hb dX5_blockers_70 ?_
                  refine lv_istore_n (lv' := [(2, .int ((nI (clT F Q0 (clR F Q0 (aWS F Q0 t9) k) i)) ||| (nI 0))), (0, .ref (ad 0)), (1, .int (nI t9)), (3, .int (nI k)), (4, .int (nI i))]) hx hb dX5_blockers_71 rfl hl (by decide) rfl (fun ls hl => ?_)
                  refine lv_iinc (v := (nI (i + 1))) (lv' := [(4, .int (nI (i + 1))), (2, .int ((nI (clT F Q0 (clR F Q0 (aWS F Q0 t9) k) i)) ||| (nI 0))), (0, .ref (ad 0)), (1, .int (nI t9)), (3, .int (nI k))]) hx hb dX5_blockers_72 hl (k := 4) rfl (nI_add _ 1) (by decide) rfl (fun ls hl => ?_)
                  refine lv_goto (tgt := 42) hx hb dX5_blockers_75 (by decide) ?_
                  rw [show ((nI (clT F Q0 (clR F Q0 (aWS F Q0 t9) k) i)) ||| (nI 0)) = (nI (clT F Q0 (clR F Q0 (aWS F Q0 t9) k) (i + 1))) from ((or_z _).trans (congrArg nI (by rw [clT, if_neg (fun q => h_6 (bitN_1.mpr q))])))] at hl
                  exact ih42 (i + 1) (by omega) (by omega) _ _ hP hD hS _ (lv_sub hl [2, 3, 1, 4, 0] rfl)
                · have h_6 := (nI_eq (a := (bitN (clT F Q0 (clR F Q0 (aWS F Q0 t9) k) i) i)) (b := 1) (by first | omega | exact bits_lt31 _ | exact bitN_lt _ _ | exact bool_lt _ | exact and_lt31 _ _ _ _ | exact Nat.lt_of_le_of_lt (dst_lt _ _ _ (by omega) _) (by decide) | exact Nat.lt_of_le_of_lt (nrB_le _ _ _ (by omega)).2 (by decide) | decide) (by first | omega | exact bits_lt31 _ | exact bitN_lt _ _ | exact bool_lt _ | exact and_lt31 _ _ _ _ | exact Nat.lt_of_le_of_lt (dst_lt _ _ _ (by omega) _) (by decide) | exact Nat.lt_of_le_of_lt (nrB_le _ _ _ (by omega)).2 (by decide) | decide)).mp h_6
                  refine lv_aload_n hx hb dX5_blockers_60 rfl (lv_at hl 0 rfl) ?_
                  refine lv_iload hx hb dX5_blockers_61 (lv_at hl 4 rfl) ?_
                  refine call_i (X := []) (Z := []) (As := [.int (nI i)]) (rest := [.int (nI (clT F Q0 (clR F Q0 (aWS F Q0 t9) k) i))]) ⟨hx, hb, hml, hown, hts⟩ (c_X5_waitedFor l D cI cT ad (nI 0) (nI HS.length) (nI len) vs rl cm fi se z zs sd tx ds rg F Q0 i (by omega) hZ hJ) (cwV 1 hts gX5_blockers_X5_waitedFor rfl rfl rfl (by decide +kernel) ⟨Nat.le_of_ble_eq_true rfl, Nat.le_of_ble_eq_true rfl⟩) hK hP hD hS hA (va_recv hK hP (ci := 5) (q0 := 0) rfl rfl) (fun _ => rfl) rfl hl.1 rfl (Nat.le_of_ble_eq_true rfl) ⟨by decide, by decide⟩ dX5_blockers_63 (fun rv _ H locs hp hP hD hS => ?_)
                  obtain rfl := hp
                  have hP : va_P D vwCl ([(ad 0, .inr (5, [.int (nI 0), .ref (ad 1), .ref (ad 2), .ref (ad 3), .int (nI HS.length), .ref (ad 4), .int (nI len), .int vs, .ref (ad 5), .ref (ad 6), .int rl, .int cm, .int fi, .int se])), (ad 1, .inl (cI, 221, .inl z)), (ad 2, .inl (cI, 221, .inl zs)), (ad 3, .inl (cI, 1768, .inl sd)), (ad 4, .inl (cI, 80, .inl tx)), (ad 5, .inl (cI, 8, .inl ds)), (ad 6, .inl (cI, 8, .inl rg))]) H := hP
                  have hD : va_D A ([(ad 0, .inr (5, [.int (nI 0), .ref (ad 1), .ref (ad 2), .ref (ad 3), .int (nI HS.length), .ref (ad 4), .int (nI len), .int vs, .ref (ad 5), .ref (ad 6), .int rl, .int cm, .int fi, .int se])), (ad 1, .inl (cI, 221, .inl z)), (ad 2, .inl (cI, 221, .inl zs)), (ad 3, .inl (cI, 1768, .inl sd)), (ad 4, .inl (cI, 80, .inl tx)), (ad 5, .inl (cI, 8, .inl ds)), (ad 6, .inl (cI, 8, .inl rg))]) := hD
                  refine lv_goto (tgt := 70) hx hb dX5_blockers_66 (by decide) ?_
                  refine lv_ior hx hb dX5_blockers_70 ?_
                  refine lv_istore_n (lv' := [(2, .int ((nI (clT F Q0 (clR F Q0 (aWS F Q0 t9) k) i)) ||| (nI (aWS F Q0 i)))), (0, .ref (ad 0)), (1, .int (nI t9)), (3, .int (nI k)), (4, .int (nI i))]) hx hb dX5_blockers_71 rfl hl (by decide) rfl (fun ls hl => ?_)
                  refine lv_iinc (v := (nI (i + 1))) (lv' := [(4, .int (nI (i + 1))), (2, .int ((nI (clT F Q0 (clR F Q0 (aWS F Q0 t9) k) i)) ||| (nI (aWS F Q0 i)))), (0, .ref (ad 0)), (1, .int (nI t9)), (3, .int (nI k))]) hx hb dX5_blockers_72 hl (k := 4) rfl (nI_add _ 1) (by decide) rfl (fun ls hl => ?_)
                  refine lv_goto (tgt := 42) hx hb dX5_blockers_75 (by decide) ?_
                  rw [show ((nI (clT F Q0 (clR F Q0 (aWS F Q0 t9) k) i)) ||| (nI (aWS F Q0 i))) = (nI (clT F Q0 (clR F Q0 (aWS F Q0 t9) k) (i + 1))) from ((or_nI _ _).trans (congrArg nI (by rw [clT, if_pos (bitN_1.mp h_6)])))] at hl
                  exact ih42 (i + 1) (by omega) (by omega) _ _ hP hD hS _ (lv_sub hl [2, 3, 1, 4, 0] rfl)
          rw [show (nI (clR F Q0 (aWS F Q0 t9) k)) = (nI (clT F Q0 (clR F Q0 (aWS F Q0 t9) k) 0)) from rfl] at hl
          exact L42 _ 0 (Nat.zero_le _) (Nat.lt_succ_self _) _ _ hP hD hS _ (lv_sub hl [1, 2, 3, 4, 0] rfl)
    rw [show (nI (aWS F Q0 t9)) = (nI (clR F Q0 (aWS F Q0 t9) 0)) from rfl] at hl
    exact L33 _ 0 (Nat.zero_le _) (Nat.lt_succ_self _) _ _ hP hD hS _ (lv_sub hl [2, 3, 1, 0] rfl)

abbrev rX5_ifRequested : Room := { frames := 8, cells := 0, slots := 0, locals := 188 }
set_option maxHeartbeats 1000000 in
set_option maxRecDepth 100000 in
theorem c_X5_ifRequested (l : Launch) (D : va_G) (cI cT : ClassId) (ad : Nat → Nat) (th sv ln vs rl cm fi se : Int32) (z zs sd tx ds rg : Nat → Int32) (F : FF) (Q0 : QQ) (HS : List (FF × QQ)) (sg : Nat → Nat) (len n : Nat) (p0 p1 p2 : Int32) (hL : LZ n (F, Q0, HS, sg, len) z sd tx) (hn : n + 80 < 2 ^ 31) : CN l D cI cT yX5_ifRequested wsX5_ifRequested rX5_ifRequested [.ref (ad 0), .int p0, .int p1, .int p2] (refW cI ad th (nI HS.length) (nI len) vs rl cm fi se z zs sd tx ds rg) (S := JR) (fun v u => v = (opIf (F, Q0, HS, sg, len) p0 p1 p2).2.1 ∧ u.1 = nI (opIf (F, Q0, HS, sg, len) p0 p1 p2).1 ∧ LZu (n + 80) (opIf (F, Q0, HS, sg, len) p0 p1 p2).2.2 u) (fun u => rfW cI ad (opIf (F, Q0, HS, sg, len) p0 p1 p2).2.2 u) := by
  refine CN.of (cc := cX5_ifRequested) (maxL := 5) (ret := (some .int)) (by decide) rfl (Nat.le_of_ble_eq_true rfl) ?_
  intro p e s m args below meth c A Q hQ B hA H locs hP hK hD hS ls hl
  obtain ⟨hx, hb, hml, hrt, hts, hown, hlk⟩ := B
  have hP : va_P D vwCl ([(ad 0, .inr (5, [.int th, .ref (ad 1), .ref (ad 2), .ref (ad 3), .int (nI HS.length), .ref (ad 4), .int (nI len), .int vs, .ref (ad 5), .ref (ad 6), .int rl, .int cm, .int fi, .int se])), (ad 1, .inl (cI, 221, .inl z)), (ad 2, .inl (cI, 221, .inl zs)), (ad 3, .inl (cI, 1768, .inl sd)), (ad 4, .inl (cI, 80, .inl tx)), (ad 5, .inl (cI, 8, .inl ds)), (ad 6, .inl (cI, 8, .inl rg))]) H := hP
  have hD : va_D A ([(ad 0, .inr (5, [.int th, .ref (ad 1), .ref (ad 2), .ref (ad 3), .int (nI HS.length), .ref (ad 4), .int (nI len), .int vs, .ref (ad 5), .ref (ad 6), .int rl, .int cm, .int fi, .int se])), (ad 1, .inl (cI, 221, .inl z)), (ad 2, .inl (cI, 221, .inl zs)), (ad 3, .inl (cI, 1768, .inl sd)), (ad 4, .inl (cI, 80, .inl tx)), (ad 5, .inl (cI, 8, .inl ds)), (ad 6, .inl (cI, 8, .inl rg))]) := hD
  have hl : lv_has ls 5 [(0, .ref (ad 0)), (1, .int p0), (2, .int p1), (3, .int p2)] := hl
  obtain ⟨hJ, hC, hZ, hl8, hH, hHS, hlen, htx, hsg⟩ := hL
  dsimp only at hJ hC hZ hl8 hH hHS hlen htx hsg
  have hL := LZ_mk hJ hC hZ hl8 hH hHS hlen htx hsg
  have hB := hC.jb
  have hn8 := hC.n8 (by omega)
  have hHJ : ∀ q ∈ HS, JJ q.1 q.2 := fun q hq => (hHS q hq).1
  have iX5 : ∀ w ∈ u_ws RX5 TX5 14, w ∈ wsX5_ifRequested := by decide +kernel
  have f32 := hts (.fieldLink RX5 32 "LockManagerModel" "thrown" "I") (by decide +kernel)
  refine lv_aload_n hx hb dX5_ifRequested_0 rfl (lv_at hl 0 rfl) ?_
  refine lv_iload_n hx hb dX5_ifRequested_1 rfl (lv_at hl 1 rfl) ?_
  refine lv_iload_n hx hb dX5_ifRequested_2 rfl (lv_at hl 2 rfl) ?_
  refine lv_iload_n hx hb dX5_ifRequested_3 rfl (lv_at hl 3 rfl) ?_
  refine call_i (X := []) (Z := []) (As := [.int p0, .int p1, .int p2]) (rest := []) ⟨hx, hb, hml, hown, hts⟩ (c_X5_whyNoRequest l D cI cT ad th (nI HS.length) (nI len) vs rl cm fi se z zs sd tx ds rg F Q0 p0 p1 p2 hZ) (cwV 3 hts gX5_ifRequested_X5_whyNoRequest rfl rfl rfl (by decide +kernel) ⟨Nat.le_of_ble_eq_true rfl, Nat.le_of_ble_eq_true rfl⟩) hK hP hD hS hA (va_recv hK hP (ci := 5) (q0 := 0) rfl rfl) (fun _ => rfl) rfl hl.1 rfl (Nat.le_of_ble_eq_true rfl) ⟨by decide, by decide⟩ dX5_ifRequested_4 (fun rv _ H locs hp hP hD hS => ?_)
  obtain rfl := hp
  have hP : va_P D vwCl ([(ad 0, .inr (5, [.int th, .ref (ad 1), .ref (ad 2), .ref (ad 3), .int (nI HS.length), .ref (ad 4), .int (nI len), .int vs, .ref (ad 5), .ref (ad 6), .int rl, .int cm, .int fi, .int se])), (ad 1, .inl (cI, 221, .inl z)), (ad 2, .inl (cI, 221, .inl zs)), (ad 3, .inl (cI, 1768, .inl sd)), (ad 4, .inl (cI, 80, .inl tx)), (ad 5, .inl (cI, 8, .inl ds)), (ad 6, .inl (cI, 8, .inl rg))]) H := hP
  have hD : va_D A ([(ad 0, .inr (5, [.int th, .ref (ad 1), .ref (ad 2), .ref (ad 3), .int (nI HS.length), .ref (ad 4), .int (nI len), .int vs, .ref (ad 5), .ref (ad 6), .int rl, .int cm, .int fi, .int se])), (ad 1, .inl (cI, 221, .inl z)), (ad 2, .inl (cI, 221, .inl zs)), (ad 3, .inl (cI, 1768, .inl sd)), (ad 4, .inl (cI, 80, .inl tx)), (ad 5, .inl (cI, 8, .inl ds)), (ad 6, .inl (cI, 8, .inl rg))]) := hD
  have hw3 : wR F p0 p1 p2 ≤ 3 := wR_le
  refine lv_istore (lv' := [(4, .int (nI (wR F p0 p1 p2))), (0, .ref (ad 0)), (1, .int p0), (2, .int p1), (3, .int p2)]) hx hb dX5_ifRequested_7 hl (by decide) rfl (fun ls hl => ?_)
  refine lv_aload_n hx hb dX5_ifRequested_9 rfl (lv_at hl 1 rfl) ?_
  refine lv_iload hx hb dX5_ifRequested_10 (lv_at hl 0 rfl) ?_
  refine lv_iconst (v := (nI 3)) hx hb dX5_ifRequested_12 (by decide) ?_
  refine lv_icmp_ne (tgt := 20) hx hb dX5_ifRequested_13 (by decide) (fun h_1 => ?_) (fun h_1 => ?_)
  · have h_1 := mt (nI_eq (a := (wR F p0 p1 p2)) (b := 3) (by first | omega | exact bits_lt31 _ | exact bitN_lt _ _ | exact bool_lt _ | exact and_lt31 _ _ _ _ | exact Nat.lt_of_le_of_lt (dst_lt _ _ _ (by omega) _) (by decide) | exact Nat.lt_of_le_of_lt (nrB_le _ _ _ (by omega)).2 (by decide) | decide) (by first | omega | exact bits_lt31 _ | exact bitN_lt _ _ | exact bool_lt _ | exact and_lt31 _ _ _ _ | exact Nat.lt_of_le_of_lt (dst_lt _ _ _ (by omega) _) (by decide) | exact Nat.lt_of_le_of_lt (nrB_le _ _ _ (by omega)).2 (by decide) | decide)).mpr h_1
    refine lv_iload hx hb dX5_ifRequested_20 (lv_at hl 0 rfl) ?_
    refine va_put (D := D) (ci := 5) (v := .int (nI (wR F p0 p1 p2))) (ty := .int) (C := RX5) (T := TX5) (N := 14) hx hb hts iX5 tyX5 tyX5_ok nmX5 hown hK hP hD hS 0 rfl rfl 0 (by decide) f32 (fun _ h9 => h9) rfl (by decide +kernel) rfl rfl (Nat.le_of_ble_eq_true rfl) dX5_ifRequested_22 (fun H locs hP hD hS => ?_)
    have hP : va_P D vwCl ([(ad 0, .inr (5, [.int (nI (wR F p0 p1 p2)), .ref (ad 1), .ref (ad 2), .ref (ad 3), .int (nI HS.length), .ref (ad 4), .int (nI len), .int vs, .ref (ad 5), .ref (ad 6), .int rl, .int cm, .int fi, .int se])), (ad 1, .inl (cI, 221, .inl z)), (ad 2, .inl (cI, 221, .inl zs)), (ad 3, .inl (cI, 1768, .inl sd)), (ad 4, .inl (cI, 80, .inl tx)), (ad 5, .inl (cI, 8, .inl ds)), (ad 6, .inl (cI, 8, .inl rg))]) H := hP
    have hD : va_D A ([(ad 0, .inr (5, [.int (nI (wR F p0 p1 p2)), .ref (ad 1), .ref (ad 2), .ref (ad 3), .int (nI HS.length), .ref (ad 4), .int (nI len), .int vs, .ref (ad 5), .ref (ad 6), .int rl, .int cm, .int fi, .int se])), (ad 1, .inl (cI, 221, .inl z)), (ad 2, .inl (cI, 221, .inl zs)), (ad 3, .inl (cI, 1768, .inl sd)), (ad 4, .inl (cI, 80, .inl tx)), (ad 5, .inl (cI, 8, .inl ds)), (ad 6, .inl (cI, 8, .inl rg))]) := hD
    refine lv_aload_n hx hb dX5_ifRequested_25 rfl (lv_at hl 1 rfl) ?_
    refine va_get (D := D) (ci := 5) (v := .int (nI (wR F p0 p1 p2))) (C := RX5) (T := TX5) (N := 14) hx hb hts iX5 hown hK hP 0 rfl rfl 0 (by decide) f32 (fun _ h9 => h9) rfl dX5_ifRequested_26 ?_
    refine lv_if_le (tgt := 34) hx hb dX5_ifRequested_29 (by decide) (fun h_2 => ?_) (fun h_2 => ?_)
    · have h_2 := (nI_leI (a := (wR F p0 p1 p2)) (b := 0) (by first | omega | exact bits_lt31 _ | exact bitN_lt _ _ | exact bool_lt _ | exact and_lt31 _ _ _ _ | exact Nat.lt_of_le_of_lt (dst_lt _ _ _ (by omega) _) (by decide) | exact Nat.lt_of_le_of_lt (nrB_le _ _ _ (by omega)).2 (by decide) | decide) (by first | omega | exact bits_lt31 _ | exact bitN_lt _ _ | exact bool_lt _ | exact and_lt31 _ _ _ _ | exact Nat.lt_of_le_of_lt (dst_lt _ _ _ (by omega) _) (by decide) | exact Nat.lt_of_le_of_lt (nrB_le _ _ _ (by omega)).2 (by decide) | decide)).mp h_2
      have hth : wR F p0 p1 p2 = 0 := Nat.le_zero.mp h_2
      rw [hth] at hl hP hD
      have hP : va_P D vwCl ([(ad 0, .inr (5, [.int (nI 0), .ref (ad 1), .ref (ad 2), .ref (ad 3), .int (nI HS.length), .ref (ad 4), .int (nI len), .int vs, .ref (ad 5), .ref (ad 6), .int rl, .int cm, .int fi, .int se])), (ad 1, .inl (cI, 221, .inl z)), (ad 2, .inl (cI, 221, .inl zs)), (ad 3, .inl (cI, 1768, .inl sd)), (ad 4, .inl (cI, 80, .inl tx)), (ad 5, .inl (cI, 8, .inl ds)), (ad 6, .inl (cI, 8, .inl rg))]) H := hP
      have hD : va_D A ([(ad 0, .inr (5, [.int (nI 0), .ref (ad 1), .ref (ad 2), .ref (ad 3), .int (nI HS.length), .ref (ad 4), .int (nI len), .int vs, .ref (ad 5), .ref (ad 6), .int rl, .int cm, .int fi, .int se])), (ad 1, .inl (cI, 221, .inl z)), (ad 2, .inl (cI, 221, .inl zs)), (ad 3, .inl (cI, 1768, .inl sd)), (ad 4, .inl (cI, 80, .inl tx)), (ad 5, .inl (cI, 8, .inl ds)), (ad 6, .inl (cI, 8, .inl rg))]) := hD
      obtain ⟨t9, r9, ht9, hr9, et9, er9, hmd, hsq⟩ := wR_0 (Or.inl h_2)
      rw [et9, er9] at hl
      have hs9 := hsq.mp h_2
      have hm := md_i hmd
      have h3 := (st_1.mp hs9).2
      have h0 := (st_1.mp hs9).1
      refine lv_iload hx hb dX5_ifRequested_34 (lv_at hl 0 rfl) ?_
      refine lv_iconst (v := (nI 3)) hx hb dX5_ifRequested_36 (by decide) ?_
      refine lv_icmp_ne (tgt := 44) hx hb dX5_ifRequested_37 (by decide) (fun _ => ?_) (fun h => absurd h (by decide))
      refine lv_aload_n hx hb dX5_ifRequested_44 rfl (lv_at hl 1 rfl) ?_
      refine lv_iload_n hx hb dX5_ifRequested_45 rfl (lv_at hl 2 rfl) ?_
      refine lv_iload_n hx hb dX5_ifRequested_46 rfl (lv_at hl 3 rfl) ?_
      refine lv_iload_n hx hb dX5_ifRequested_47 rfl (lv_at hl 4 rfl) ?_
      refine call_i (X := []) (Z := []) (As := [.int (nI t9), .int (nI r9), .int p2]) (rest := []) ⟨hx, hb, hml, hown, hts⟩ (c_X5_tryRequest l D cI cT ad (nI 0) (nI HS.length) (nI len) vs rl cm fi se z zs sd tx ds rg F Q0 t9 r9 p2 (by omega) (by omega) hm h3 h0 hB hZ hJ) (cwV 3 hts gX5_ifRequested_X5_tryRequest rfl rfl rfl (by decide +kernel) ⟨Nat.le_of_ble_eq_true rfl, Nat.le_of_ble_eq_true rfl⟩) hK hP hD hS hA (va_recv hK hP (ci := 5) (q0 := 0) rfl rfl) (fun _ => adr_ref.trans adr_ref.symm) rfl hl.1 rfl (Nat.le_of_ble_eq_true rfl) ⟨by decide, by decide⟩ dX5_ifRequested_48 (fun rv u42 H locs hp hP hD hS => ?_)
      obtain ⟨rfl, hZ42⟩ := hp
      have hP : va_P D vwCl ([(ad 0, .inr (5, [.int (nI 0), .ref (ad 1), .ref (ad 2), .ref (ad 3), .int (nI HS.length), .ref (ad 4), .int (nI len), .int (nI (askV F Q0 t9 r9 p2)), .ref (ad 5), .ref (ad 6), .int u42.2.2.2.2, .int cm, .int fi, .int se])), (ad 1, .inl (cI, 221, .inl u42.1)), (ad 2, .inl (cI, 221, .inl u42.2.1)), (ad 3, .inl (cI, 1768, .inl sd)), (ad 4, .inl (cI, 80, .inl tx)), (ad 5, .inl (cI, 8, .inl u42.2.2.1)), (ad 6, .inl (cI, 8, .inl u42.2.2.2.1))]) H := hP
      have hD : va_D A ([(ad 0, .inr (5, [.int (nI 0), .ref (ad 1), .ref (ad 2), .ref (ad 3), .int (nI HS.length), .ref (ad 4), .int (nI len), .int (nI (askV F Q0 t9 r9 p2)), .ref (ad 5), .ref (ad 6), .int u42.2.2.2.2, .int cm, .int fi, .int se])), (ad 1, .inl (cI, 221, .inl u42.1)), (ad 2, .inl (cI, 221, .inl u42.2.1)), (ad 3, .inl (cI, 1768, .inl sd)), (ad 4, .inl (cI, 80, .inl tx)), (ad 5, .inl (cI, 8, .inl u42.2.2.1)), (ad 6, .inl (cI, 8, .inl u42.2.2.2.1))]) := hD
      exact ret_i (u := ((nI 0), (nI (askV F Q0 t9 r9 p2)), u42.2.2.2.2, cm, fi, se, u42.1, u42.2.1, sd, tx, u42.2.2.1, u42.2.2.2.1)) hQ hx hb hrt hlk hS dX5_ifRequested_51 (by rw [et9, er9, opIf_0 ht9 hr9 hmd hs9]; exact hP) (by rw [et9, er9, opIf_0 ht9 hr9 hmd hs9]; exact ⟨rfl, rfl, (LZ_mk hJ (hC.mono (by omega)) hZ42 hl8 hH (all_mono (by omega) hHS) hlen htx hsg)⟩)
    · have h_2 := mt (nI_leI (a := (wR F p0 p1 p2)) (b := 0) (by first | omega | exact bits_lt31 _ | exact bitN_lt _ _ | exact bool_lt _ | exact and_lt31 _ _ _ _ | exact Nat.lt_of_le_of_lt (dst_lt _ _ _ (by omega) _) (by decide) | exact Nat.lt_of_le_of_lt (nrB_le _ _ _ (by omega)).2 (by decide) | decide) (by first | omega | exact bits_lt31 _ | exact bitN_lt _ _ | exact bool_lt _ | exact and_lt31 _ _ _ _ | exact Nat.lt_of_le_of_lt (dst_lt _ _ _ (by omega) _) (by decide) | exact Nat.lt_of_le_of_lt (nrB_le _ _ _ (by omega)).2 (by decide) | decide)).mpr h_2
      refine lv_iconst (v := (nI 0)) hx hb dX5_ifRequested_32 (by decide) ?_
      exact ret_i (u := ((nI (wR F p0 p1 p2)), vs, rl, cm, fi, se, z, zs, sd, tx, ds, rg)) hQ hx hb hrt hlk hS dX5_ifRequested_33 (by rw [(wR_if (s := (F, Q0, HS, sg, len)) h_1 h_2).1]; exact hP) (by rw [(wR_if (s := (F, Q0, HS, sg, len)) h_1 h_2).1]; exact ⟨rfl, rfl, (LZ.mono hL (by omega))⟩)
  · have h_1 := (nI_eq (a := (wR F p0 p1 p2)) (b := 3) (by first | omega | exact bits_lt31 _ | exact bitN_lt _ _ | exact bool_lt _ | exact and_lt31 _ _ _ _ | exact Nat.lt_of_le_of_lt (dst_lt _ _ _ (by omega) _) (by decide) | exact Nat.lt_of_le_of_lt (nrB_le _ _ _ (by omega)).2 (by decide) | decide) (by first | omega | exact bits_lt31 _ | exact bitN_lt _ _ | exact bool_lt _ | exact and_lt31 _ _ _ _ | exact Nat.lt_of_le_of_lt (dst_lt _ _ _ (by omega) _) (by decide) | exact Nat.lt_of_le_of_lt (nrB_le _ _ _ (by omega)).2 (by decide) | decide)).mp h_1
    rw [h_1] at hl
    refine lv_iconst (v := (nI 0)) hx hb dX5_ifRequested_16 (by decide) ?_
    refine lv_goto (tgt := 22) hx hb dX5_ifRequested_17 (by decide) ?_
    refine va_put (D := D) (ci := 5) (v := .int (nI 0)) (ty := .int) (C := RX5) (T := TX5) (N := 14) hx hb hts iX5 tyX5 tyX5_ok nmX5 hown hK hP hD hS 0 rfl rfl 0 (by decide) f32 (fun _ h9 => h9) rfl (by decide +kernel) rfl rfl (Nat.le_of_ble_eq_true rfl) dX5_ifRequested_22 (fun H locs hP hD hS => ?_)
    have hP : va_P D vwCl ([(ad 0, .inr (5, [.int (nI 0), .ref (ad 1), .ref (ad 2), .ref (ad 3), .int (nI HS.length), .ref (ad 4), .int (nI len), .int vs, .ref (ad 5), .ref (ad 6), .int rl, .int cm, .int fi, .int se])), (ad 1, .inl (cI, 221, .inl z)), (ad 2, .inl (cI, 221, .inl zs)), (ad 3, .inl (cI, 1768, .inl sd)), (ad 4, .inl (cI, 80, .inl tx)), (ad 5, .inl (cI, 8, .inl ds)), (ad 6, .inl (cI, 8, .inl rg))]) H := hP
    have hD : va_D A ([(ad 0, .inr (5, [.int (nI 0), .ref (ad 1), .ref (ad 2), .ref (ad 3), .int (nI HS.length), .ref (ad 4), .int (nI len), .int vs, .ref (ad 5), .ref (ad 6), .int rl, .int cm, .int fi, .int se])), (ad 1, .inl (cI, 221, .inl z)), (ad 2, .inl (cI, 221, .inl zs)), (ad 3, .inl (cI, 1768, .inl sd)), (ad 4, .inl (cI, 80, .inl tx)), (ad 5, .inl (cI, 8, .inl ds)), (ad 6, .inl (cI, 8, .inl rg))]) := hD
    refine lv_aload_n hx hb dX5_ifRequested_25 rfl (lv_at hl 1 rfl) ?_
    refine va_get (D := D) (ci := 5) (v := .int (nI 0)) (C := RX5) (T := TX5) (N := 14) hx hb hts iX5 hown hK hP 0 rfl rfl 0 (by decide) f32 (fun _ h9 => h9) rfl dX5_ifRequested_26 ?_
    refine lv_if_le (tgt := 34) hx hb dX5_ifRequested_29 (by decide) (fun _ => ?_) (fun h => absurd (by decide) h)
    refine lv_iload hx hb dX5_ifRequested_34 (lv_at hl 0 rfl) ?_
    refine lv_iconst (v := (nI 3)) hx hb dX5_ifRequested_36 (by decide) ?_
    refine lv_icmp_ne (tgt := 44) hx hb dX5_ifRequested_37 (by decide) (fun h => absurd (by decide) h) (fun _ => ?_)
    refine lv_iconst (v := (-1)) hx hb dX5_ifRequested_40 (by decide) ?_
    refine lv_goto (tgt := 51) hx hb dX5_ifRequested_41 (by decide) ?_
    obtain ⟨t9, r9, ht9, hr9, et9, er9, hmd, hsq⟩ := wR_0 (Or.inr h_1)
    exact ret_i (u := ((nI 0), vs, rl, cm, fi, se, z, zs, sd, tx, ds, rg)) hQ hx hb hrt hlk hS dX5_ifRequested_51 (by rw [et9, er9, (wR_ref (s := (F, Q0, HS, sg, len)) ht9 hr9 hmd (fun q => by have := hsq.mpr q; omega)).1]; exact hP) (by rw [et9, er9, (wR_ref (s := (F, Q0, HS, sg, len)) ht9 hr9 hmd (fun q => by have := hsq.mpr q; omega)).1]; exact ⟨rfl, rfl, (LZ.mono hL (by omega))⟩)

abbrev rX5_victimsOf : Room := { frames := 8, cells := 0, slots := 0, locals := 188 }
set_option maxHeartbeats 1000000 in
set_option maxRecDepth 100000 in
theorem c_X5_victimsOf (l : Launch) (D : va_G) (cI cT : ClassId) (ad : Nat → Nat) (th sv ln vs rl cm fi se : Int32) (z zs sd tx ds rg : Nat → Int32) (F : FF) (Q0 : QQ) (HS : List (FF × QQ)) (sg : Nat → Nat) (len n : Nat) (p0 p1 p2 : Int32) (hL : LZ n (F, Q0, HS, sg, len) z sd tx) (hn : n + 80 < 2 ^ 31) : CN l D cI cT yX5_victimsOf wsX5_victimsOf rX5_victimsOf [.ref (ad 0), .int p0, .int p1, .int p2] (refW cI ad th (nI HS.length) (nI len) vs rl cm fi se z zs sd tx ds rg) (S := JR) (fun v u => v = (opVic (F, Q0, HS, sg, len) p0 p1 p2).2.1 ∧ u.1 = nI (opVic (F, Q0, HS, sg, len) p0 p1 p2).1 ∧ LZu (n + 80) (opVic (F, Q0, HS, sg, len) p0 p1 p2).2.2 u) (fun u => rfW cI ad (opVic (F, Q0, HS, sg, len) p0 p1 p2).2.2 u) := by
  refine CN.of (cc := cX5_victimsOf) (maxL := 6) (ret := (some .int)) (by decide) rfl (Nat.le_of_ble_eq_true rfl) ?_
  intro p e s m args below meth c A Q hQ B hA H locs hP hK hD hS ls hl
  obtain ⟨hx, hb, hml, hrt, hts, hown, hlk⟩ := B
  have hP : va_P D vwCl ([(ad 0, .inr (5, [.int th, .ref (ad 1), .ref (ad 2), .ref (ad 3), .int (nI HS.length), .ref (ad 4), .int (nI len), .int vs, .ref (ad 5), .ref (ad 6), .int rl, .int cm, .int fi, .int se])), (ad 1, .inl (cI, 221, .inl z)), (ad 2, .inl (cI, 221, .inl zs)), (ad 3, .inl (cI, 1768, .inl sd)), (ad 4, .inl (cI, 80, .inl tx)), (ad 5, .inl (cI, 8, .inl ds)), (ad 6, .inl (cI, 8, .inl rg))]) H := hP
  have hD : va_D A ([(ad 0, .inr (5, [.int th, .ref (ad 1), .ref (ad 2), .ref (ad 3), .int (nI HS.length), .ref (ad 4), .int (nI len), .int vs, .ref (ad 5), .ref (ad 6), .int rl, .int cm, .int fi, .int se])), (ad 1, .inl (cI, 221, .inl z)), (ad 2, .inl (cI, 221, .inl zs)), (ad 3, .inl (cI, 1768, .inl sd)), (ad 4, .inl (cI, 80, .inl tx)), (ad 5, .inl (cI, 8, .inl ds)), (ad 6, .inl (cI, 8, .inl rg))]) := hD
  have hl : lv_has ls 6 [(0, .ref (ad 0)), (1, .int p0), (2, .int p1), (3, .int p2)] := hl
  obtain ⟨hJ, hC, hZ, hl8, hH, hHS, hlen, htx, hsg⟩ := hL
  dsimp only at hJ hC hZ hl8 hH hHS hlen htx hsg
  have hL := LZ_mk hJ hC hZ hl8 hH hHS hlen htx hsg
  have hB := hC.jb
  have hn8 := hC.n8 (by omega)
  have hHJ : ∀ q ∈ HS, JJ q.1 q.2 := fun q hq => (hHS q hq).1
  have iX5 : ∀ w ∈ u_ws RX5 TX5 14, w ∈ wsX5_victimsOf := by decide +kernel
  have f32 := hts (.fieldLink RX5 32 "LockManagerModel" "thrown" "I") (by decide +kernel)
  have f97 := hts (.fieldLink RX5 97 "LockManagerModel" "victims" "I") (by decide +kernel)
  refine lv_aload_n hx hb dX5_victimsOf_0 rfl (lv_at hl 0 rfl) ?_
  refine lv_iload_n hx hb dX5_victimsOf_1 rfl (lv_at hl 1 rfl) ?_
  refine lv_iload_n hx hb dX5_victimsOf_2 rfl (lv_at hl 2 rfl) ?_
  refine lv_iload_n hx hb dX5_victimsOf_3 rfl (lv_at hl 3 rfl) ?_
  refine call_i (X := []) (Z := []) (As := [.int p0, .int p1, .int p2]) (rest := []) ⟨hx, hb, hml, hown, hts⟩ (c_X5_whyNoRequest l D cI cT ad th (nI HS.length) (nI len) vs rl cm fi se z zs sd tx ds rg F Q0 p0 p1 p2 hZ) (cwV 3 hts gX5_victimsOf_X5_whyNoRequest rfl rfl rfl (by decide +kernel) ⟨Nat.le_of_ble_eq_true rfl, Nat.le_of_ble_eq_true rfl⟩) hK hP hD hS hA (va_recv hK hP (ci := 5) (q0 := 0) rfl rfl) (fun _ => rfl) rfl hl.1 rfl (Nat.le_of_ble_eq_true rfl) ⟨by decide, by decide⟩ dX5_victimsOf_4 (fun rv _ H locs hp hP hD hS => ?_)
  obtain rfl := hp
  have hP : va_P D vwCl ([(ad 0, .inr (5, [.int th, .ref (ad 1), .ref (ad 2), .ref (ad 3), .int (nI HS.length), .ref (ad 4), .int (nI len), .int vs, .ref (ad 5), .ref (ad 6), .int rl, .int cm, .int fi, .int se])), (ad 1, .inl (cI, 221, .inl z)), (ad 2, .inl (cI, 221, .inl zs)), (ad 3, .inl (cI, 1768, .inl sd)), (ad 4, .inl (cI, 80, .inl tx)), (ad 5, .inl (cI, 8, .inl ds)), (ad 6, .inl (cI, 8, .inl rg))]) H := hP
  have hD : va_D A ([(ad 0, .inr (5, [.int th, .ref (ad 1), .ref (ad 2), .ref (ad 3), .int (nI HS.length), .ref (ad 4), .int (nI len), .int vs, .ref (ad 5), .ref (ad 6), .int rl, .int cm, .int fi, .int se])), (ad 1, .inl (cI, 221, .inl z)), (ad 2, .inl (cI, 221, .inl zs)), (ad 3, .inl (cI, 1768, .inl sd)), (ad 4, .inl (cI, 80, .inl tx)), (ad 5, .inl (cI, 8, .inl ds)), (ad 6, .inl (cI, 8, .inl rg))]) := hD
  have hw3 : wR F p0 p1 p2 ≤ 3 := wR_le
  refine lv_istore (lv' := [(4, .int (nI (wR F p0 p1 p2))), (0, .ref (ad 0)), (1, .int p0), (2, .int p1), (3, .int p2)]) hx hb dX5_victimsOf_7 hl (by decide) rfl (fun ls hl => ?_)
  refine lv_aload_n hx hb dX5_victimsOf_9 rfl (lv_at hl 1 rfl) ?_
  refine lv_iload hx hb dX5_victimsOf_10 (lv_at hl 0 rfl) ?_
  refine lv_iconst (v := (nI 3)) hx hb dX5_victimsOf_12 (by decide) ?_
  refine lv_icmp_ne (tgt := 20) hx hb dX5_victimsOf_13 (by decide) (fun h_1 => ?_) (fun h_1 => ?_)
  · have h_1 := mt (nI_eq (a := (wR F p0 p1 p2)) (b := 3) (by first | omega | exact bits_lt31 _ | exact bitN_lt _ _ | exact bool_lt _ | exact and_lt31 _ _ _ _ | exact Nat.lt_of_le_of_lt (dst_lt _ _ _ (by omega) _) (by decide) | exact Nat.lt_of_le_of_lt (nrB_le _ _ _ (by omega)).2 (by decide) | decide) (by first | omega | exact bits_lt31 _ | exact bitN_lt _ _ | exact bool_lt _ | exact and_lt31 _ _ _ _ | exact Nat.lt_of_le_of_lt (dst_lt _ _ _ (by omega) _) (by decide) | exact Nat.lt_of_le_of_lt (nrB_le _ _ _ (by omega)).2 (by decide) | decide)).mpr h_1
    refine lv_iload hx hb dX5_victimsOf_20 (lv_at hl 0 rfl) ?_
    refine va_put (D := D) (ci := 5) (v := .int (nI (wR F p0 p1 p2))) (ty := .int) (C := RX5) (T := TX5) (N := 14) hx hb hts iX5 tyX5 tyX5_ok nmX5 hown hK hP hD hS 0 rfl rfl 0 (by decide) f32 (fun _ h9 => h9) rfl (by decide +kernel) rfl rfl (Nat.le_of_ble_eq_true rfl) dX5_victimsOf_22 (fun H locs hP hD hS => ?_)
    have hP : va_P D vwCl ([(ad 0, .inr (5, [.int (nI (wR F p0 p1 p2)), .ref (ad 1), .ref (ad 2), .ref (ad 3), .int (nI HS.length), .ref (ad 4), .int (nI len), .int vs, .ref (ad 5), .ref (ad 6), .int rl, .int cm, .int fi, .int se])), (ad 1, .inl (cI, 221, .inl z)), (ad 2, .inl (cI, 221, .inl zs)), (ad 3, .inl (cI, 1768, .inl sd)), (ad 4, .inl (cI, 80, .inl tx)), (ad 5, .inl (cI, 8, .inl ds)), (ad 6, .inl (cI, 8, .inl rg))]) H := hP
    have hD : va_D A ([(ad 0, .inr (5, [.int (nI (wR F p0 p1 p2)), .ref (ad 1), .ref (ad 2), .ref (ad 3), .int (nI HS.length), .ref (ad 4), .int (nI len), .int vs, .ref (ad 5), .ref (ad 6), .int rl, .int cm, .int fi, .int se])), (ad 1, .inl (cI, 221, .inl z)), (ad 2, .inl (cI, 221, .inl zs)), (ad 3, .inl (cI, 1768, .inl sd)), (ad 4, .inl (cI, 80, .inl tx)), (ad 5, .inl (cI, 8, .inl ds)), (ad 6, .inl (cI, 8, .inl rg))]) := hD
    refine lv_iload hx hb dX5_victimsOf_25 (lv_at hl 0 rfl) ?_
    refine lv_if_le (tgt := 32) hx hb dX5_victimsOf_27 (by decide) (fun h_2 => ?_) (fun h_2 => ?_)
    · have h_2 := (nI_leI (a := (wR F p0 p1 p2)) (b := 0) (by first | omega | exact bits_lt31 _ | exact bitN_lt _ _ | exact bool_lt _ | exact and_lt31 _ _ _ _ | exact Nat.lt_of_le_of_lt (dst_lt _ _ _ (by omega) _) (by decide) | exact Nat.lt_of_le_of_lt (nrB_le _ _ _ (by omega)).2 (by decide) | decide) (by first | omega | exact bits_lt31 _ | exact bitN_lt _ _ | exact bool_lt _ | exact and_lt31 _ _ _ _ | exact Nat.lt_of_le_of_lt (dst_lt _ _ _ (by omega) _) (by decide) | exact Nat.lt_of_le_of_lt (nrB_le _ _ _ (by omega)).2 (by decide) | decide)).mp h_2
      have hth : wR F p0 p1 p2 = 0 := Nat.le_zero.mp h_2
      rw [hth] at hl hP hD
      have hP : va_P D vwCl ([(ad 0, .inr (5, [.int (nI 0), .ref (ad 1), .ref (ad 2), .ref (ad 3), .int (nI HS.length), .ref (ad 4), .int (nI len), .int vs, .ref (ad 5), .ref (ad 6), .int rl, .int cm, .int fi, .int se])), (ad 1, .inl (cI, 221, .inl z)), (ad 2, .inl (cI, 221, .inl zs)), (ad 3, .inl (cI, 1768, .inl sd)), (ad 4, .inl (cI, 80, .inl tx)), (ad 5, .inl (cI, 8, .inl ds)), (ad 6, .inl (cI, 8, .inl rg))]) H := hP
      have hD : va_D A ([(ad 0, .inr (5, [.int (nI 0), .ref (ad 1), .ref (ad 2), .ref (ad 3), .int (nI HS.length), .ref (ad 4), .int (nI len), .int vs, .ref (ad 5), .ref (ad 6), .int rl, .int cm, .int fi, .int se])), (ad 1, .inl (cI, 221, .inl z)), (ad 2, .inl (cI, 221, .inl zs)), (ad 3, .inl (cI, 1768, .inl sd)), (ad 4, .inl (cI, 80, .inl tx)), (ad 5, .inl (cI, 8, .inl ds)), (ad 6, .inl (cI, 8, .inl rg))]) := hD
      obtain ⟨t9, r9, ht9, hr9, et9, er9, hmd, hsq⟩ := wR_0 (Or.inl h_2)
      rw [et9, er9] at hl
      have hs9 := hsq.mp h_2
      have hm := md_i hmd
      have h3 := (st_1.mp hs9).2
      have h0 := (st_1.mp hs9).1
      refine lv_aload_n hx hb dX5_victimsOf_32 rfl (lv_at hl 1 rfl) ?_
      refine lv_iload_n hx hb dX5_victimsOf_33 rfl (lv_at hl 2 rfl) ?_
      refine lv_iload_n hx hb dX5_victimsOf_34 rfl (lv_at hl 3 rfl) ?_
      refine lv_iload_n hx hb dX5_victimsOf_35 rfl (lv_at hl 4 rfl) ?_
      refine call_i (X := []) (Z := []) (As := [.int (nI t9), .int (nI r9), .int p2]) (rest := []) ⟨hx, hb, hml, hown, hts⟩ (c_X5_tryRequest l D cI cT ad (nI 0) (nI HS.length) (nI len) vs rl cm fi se z zs sd tx ds rg F Q0 t9 r9 p2 (by omega) (by omega) hm h3 h0 hB hZ hJ) (cwV 3 hts gX5_victimsOf_X5_tryRequest rfl rfl rfl (by decide +kernel) ⟨Nat.le_of_ble_eq_true rfl, Nat.le_of_ble_eq_true rfl⟩) hK hP hD hS hA (va_recv hK hP (ci := 5) (q0 := 0) rfl rfl) (fun _ => adr_ref.trans adr_ref.symm) rfl hl.1 rfl (Nat.le_of_ble_eq_true rfl) ⟨by decide, by decide⟩ dX5_victimsOf_36 (fun rv u43 H locs hp hP hD hS => ?_)
      obtain ⟨rfl, hZ43⟩ := hp
      have hP : va_P D vwCl ([(ad 0, .inr (5, [.int (nI 0), .ref (ad 1), .ref (ad 2), .ref (ad 3), .int (nI HS.length), .ref (ad 4), .int (nI len), .int (nI (askV F Q0 t9 r9 p2)), .ref (ad 5), .ref (ad 6), .int u43.2.2.2.2, .int cm, .int fi, .int se])), (ad 1, .inl (cI, 221, .inl u43.1)), (ad 2, .inl (cI, 221, .inl u43.2.1)), (ad 3, .inl (cI, 1768, .inl sd)), (ad 4, .inl (cI, 80, .inl tx)), (ad 5, .inl (cI, 8, .inl u43.2.2.1)), (ad 6, .inl (cI, 8, .inl u43.2.2.2.1))]) H := hP
      have hD : va_D A ([(ad 0, .inr (5, [.int (nI 0), .ref (ad 1), .ref (ad 2), .ref (ad 3), .int (nI HS.length), .ref (ad 4), .int (nI len), .int (nI (askV F Q0 t9 r9 p2)), .ref (ad 5), .ref (ad 6), .int u43.2.2.2.2, .int cm, .int fi, .int se])), (ad 1, .inl (cI, 221, .inl u43.1)), (ad 2, .inl (cI, 221, .inl u43.2.1)), (ad 3, .inl (cI, 1768, .inl sd)), (ad 4, .inl (cI, 80, .inl tx)), (ad 5, .inl (cI, 8, .inl u43.2.2.1)), (ad 6, .inl (cI, 8, .inl u43.2.2.2.1))]) := hD
      refine lv_istore (lv' := [(5, .int (outI (askF F Q0 t9 r9 p2) t9 r9 p2)), (4, .int (nI 0)), (0, .ref (ad 0)), (1, .int (nI t9)), (2, .int (nI r9)), (3, .int p2)]) hx hb dX5_victimsOf_39 hl (by decide) rfl (fun ls hl => ?_)
      refine lv_iload hx hb dX5_victimsOf_41 (lv_at hl 0 rfl) ?_
      refine lv_if_le (tgt := 53) hx hb dX5_victimsOf_43 (by decide) (fun h_3 => absurd h_3 out_pos) (fun h_3 => ?_)
      have h_3 := h_3
      refine lv_aload_n hx hb dX5_victimsOf_46 rfl (lv_at hl 2 rfl) ?_
      refine va_get (D := D) (ci := 5) (v := .int (nI (askV F Q0 t9 r9 p2))) (C := RX5) (T := TX5) (N := 14) hx hb hts iX5 hown hK hP 0 rfl rfl 7 (by decide) f97 (fun _ h9 => h9) rfl dX5_victimsOf_47 ?_
      refine lv_goto (tgt := 54) hx hb dX5_victimsOf_50 (by decide) ?_
      exact ret_i (u := ((nI 0), (nI (askV F Q0 t9 r9 p2)), u43.2.2.2.2, cm, fi, se, u43.1, u43.2.1, sd, tx, u43.2.2.1, u43.2.2.2.1)) hQ hx hb hrt hlk hS dX5_victimsOf_54 (by rw [et9, er9, opVic_0 ht9 hr9 hmd hs9]; exact hP) (by rw [et9, er9, opVic_0 ht9 hr9 hmd hs9]; exact ⟨rfl, rfl, (LZ_mk hJ (hC.mono (by omega)) hZ43 hl8 hH (all_mono (by omega) hHS) hlen htx hsg)⟩)
    · have h_2 := mt (nI_leI (a := (wR F p0 p1 p2)) (b := 0) (by first | omega | exact bits_lt31 _ | exact bitN_lt _ _ | exact bool_lt _ | exact and_lt31 _ _ _ _ | exact Nat.lt_of_le_of_lt (dst_lt _ _ _ (by omega) _) (by decide) | exact Nat.lt_of_le_of_lt (nrB_le _ _ _ (by omega)).2 (by decide) | decide) (by first | omega | exact bits_lt31 _ | exact bitN_lt _ _ | exact bool_lt _ | exact and_lt31 _ _ _ _ | exact Nat.lt_of_le_of_lt (dst_lt _ _ _ (by omega) _) (by decide) | exact Nat.lt_of_le_of_lt (nrB_le _ _ _ (by omega)).2 (by decide) | decide)).mpr h_2
      refine lv_iconst (v := (nI 0)) hx hb dX5_victimsOf_30 (by decide) ?_
      exact ret_i (u := ((nI (wR F p0 p1 p2)), vs, rl, cm, fi, se, z, zs, sd, tx, ds, rg)) hQ hx hb hrt hlk hS dX5_victimsOf_31 (by rw [(wR_if (s := (F, Q0, HS, sg, len)) h_1 h_2).2]; exact hP) (by rw [(wR_if (s := (F, Q0, HS, sg, len)) h_1 h_2).2]; exact ⟨rfl, rfl, (LZ.mono hL (by omega))⟩)
  · have h_1 := (nI_eq (a := (wR F p0 p1 p2)) (b := 3) (by first | omega | exact bits_lt31 _ | exact bitN_lt _ _ | exact bool_lt _ | exact and_lt31 _ _ _ _ | exact Nat.lt_of_le_of_lt (dst_lt _ _ _ (by omega) _) (by decide) | exact Nat.lt_of_le_of_lt (nrB_le _ _ _ (by omega)).2 (by decide) | decide) (by first | omega | exact bits_lt31 _ | exact bitN_lt _ _ | exact bool_lt _ | exact and_lt31 _ _ _ _ | exact Nat.lt_of_le_of_lt (dst_lt _ _ _ (by omega) _) (by decide) | exact Nat.lt_of_le_of_lt (nrB_le _ _ _ (by omega)).2 (by decide) | decide)).mp h_1
    rw [h_1] at hl
    refine lv_iconst (v := (nI 0)) hx hb dX5_victimsOf_16 (by decide) ?_
    refine lv_goto (tgt := 22) hx hb dX5_victimsOf_17 (by decide) ?_
    refine va_put (D := D) (ci := 5) (v := .int (nI 0)) (ty := .int) (C := RX5) (T := TX5) (N := 14) hx hb hts iX5 tyX5 tyX5_ok nmX5 hown hK hP hD hS 0 rfl rfl 0 (by decide) f32 (fun _ h9 => h9) rfl (by decide +kernel) rfl rfl (Nat.le_of_ble_eq_true rfl) dX5_victimsOf_22 (fun H locs hP hD hS => ?_)
    have hP : va_P D vwCl ([(ad 0, .inr (5, [.int (nI 0), .ref (ad 1), .ref (ad 2), .ref (ad 3), .int (nI HS.length), .ref (ad 4), .int (nI len), .int vs, .ref (ad 5), .ref (ad 6), .int rl, .int cm, .int fi, .int se])), (ad 1, .inl (cI, 221, .inl z)), (ad 2, .inl (cI, 221, .inl zs)), (ad 3, .inl (cI, 1768, .inl sd)), (ad 4, .inl (cI, 80, .inl tx)), (ad 5, .inl (cI, 8, .inl ds)), (ad 6, .inl (cI, 8, .inl rg))]) H := hP
    have hD : va_D A ([(ad 0, .inr (5, [.int (nI 0), .ref (ad 1), .ref (ad 2), .ref (ad 3), .int (nI HS.length), .ref (ad 4), .int (nI len), .int vs, .ref (ad 5), .ref (ad 6), .int rl, .int cm, .int fi, .int se])), (ad 1, .inl (cI, 221, .inl z)), (ad 2, .inl (cI, 221, .inl zs)), (ad 3, .inl (cI, 1768, .inl sd)), (ad 4, .inl (cI, 80, .inl tx)), (ad 5, .inl (cI, 8, .inl ds)), (ad 6, .inl (cI, 8, .inl rg))]) := hD
    refine lv_iload hx hb dX5_victimsOf_25 (lv_at hl 0 rfl) ?_
    refine lv_if_le (tgt := 32) hx hb dX5_victimsOf_27 (by decide) (fun h => absurd h (by decide)) (fun _ => ?_)
    refine lv_iconst (v := (nI 0)) hx hb dX5_victimsOf_30 (by decide) ?_
    obtain ⟨t9, r9, ht9, hr9, et9, er9, hmd, hsq⟩ := wR_0 (Or.inr h_1)
    exact ret_i (u := ((nI 0), vs, rl, cm, fi, se, z, zs, sd, tx, ds, rg)) hQ hx hb hrt hlk hS dX5_victimsOf_31 (by rw [et9, er9, (wR_ref (s := (F, Q0, HS, sg, len)) ht9 hr9 hmd (fun q => by have := hsq.mpr q; omega)).2]; exact hP) (by rw [et9, er9, (wR_ref (s := (F, Q0, HS, sg, len)) ht9 hr9 hmd (fun q => by have := hsq.mpr q; omega)).2]; exact ⟨rfl, rfl, (LZ.mono hL (by omega))⟩)

abbrev rX5_undo : Room := { frames := 0, cells := 0, slots := 0, locals := 0 }
set_option maxHeartbeats 1000000 in
set_option maxRecDepth 100000 in
theorem c_X5_undo (l : Launch) (D : va_G) (cI cT : ClassId) (ad : Nat → Nat) (th sv ln vs rl cm fi se : Int32) (z zs sd tx ds rg : Nat → Int32) (F : FF) (Q0 : QQ) (HS : List (FF × QQ)) (sg : Nat → Nat) (len n : Nat) (hL : LZ n (F, Q0, HS, sg, len) z sd tx) (hn : n + 80 < 2 ^ 31) : CN l D cI cT yX5_undo wsX5_undo rX5_undo [.ref (ad 0)] (refW cI ad th (nI HS.length) (nI len) vs rl cm fi se z zs sd tx ds rg) (S := JR) (fun v u => v = (opUndo (F, Q0, HS, sg, len)).2.1 ∧ u.1 = nI (opUndo (F, Q0, HS, sg, len)).1 ∧ LZu (n + 80) (opUndo (F, Q0, HS, sg, len)).2.2 u) (fun u => rfW cI ad (opUndo (F, Q0, HS, sg, len)).2.2 u) := by
  refine CN.of (cc := cX5_undo) (maxL := 2) (ret := (some .int)) (by decide) rfl (Nat.le_of_ble_eq_true rfl) ?_
  intro p e s m args below meth c A Q hQ B hA H locs hP hK hD hS ls hl
  obtain ⟨hx, hb, hml, hrt, hts, hown, hlk⟩ := B
  have hP : va_P D vwCl ([(ad 0, .inr (5, [.int th, .ref (ad 1), .ref (ad 2), .ref (ad 3), .int (nI HS.length), .ref (ad 4), .int (nI len), .int vs, .ref (ad 5), .ref (ad 6), .int rl, .int cm, .int fi, .int se])), (ad 1, .inl (cI, 221, .inl z)), (ad 2, .inl (cI, 221, .inl zs)), (ad 3, .inl (cI, 1768, .inl sd)), (ad 4, .inl (cI, 80, .inl tx)), (ad 5, .inl (cI, 8, .inl ds)), (ad 6, .inl (cI, 8, .inl rg))]) H := hP
  have hD : va_D A ([(ad 0, .inr (5, [.int th, .ref (ad 1), .ref (ad 2), .ref (ad 3), .int (nI HS.length), .ref (ad 4), .int (nI len), .int vs, .ref (ad 5), .ref (ad 6), .int rl, .int cm, .int fi, .int se])), (ad 1, .inl (cI, 221, .inl z)), (ad 2, .inl (cI, 221, .inl zs)), (ad 3, .inl (cI, 1768, .inl sd)), (ad 4, .inl (cI, 80, .inl tx)), (ad 5, .inl (cI, 8, .inl ds)), (ad 6, .inl (cI, 8, .inl rg))]) := hD
  have hl : lv_has ls 2 [(0, .ref (ad 0))] := hl
  obtain ⟨hJ, hC, hZ, hl8, hH, hHS, hlen, htx, hsg⟩ := hL
  dsimp only at hJ hC hZ hl8 hH hHS hlen htx hsg
  have hL := LZ_mk hJ hC hZ hl8 hH hHS hlen htx hsg
  have hB := hC.jb
  have hn8 := hC.n8 (by omega)
  have hHJ : ∀ q ∈ HS, JJ q.1 q.2 := fun q hq => (hHS q hq).1
  have iX5 : ∀ w ∈ u_ws RX5 TX5 14, w ∈ wsX5_undo := by decide +kernel
  have f48 := hts (.fieldLink RX5 48 "LockManagerModel" "saves" "I") (by decide +kernel)
  have f32 := hts (.fieldLink RX5 32 "LockManagerModel" "thrown" "I") (by decide +kernel)
  have f7 := hts (.fieldLink RX5 7 "LockManagerModel" "z" "[I") (by decide +kernel)
  have f16 := hts (.fieldLink RX5 16 "LockManagerModel" "saved" "[I") (by decide +kernel)
  rcases HS with _ | ⟨q9, HS9⟩
  · have hq0 := hQ
    have hP : va_P D vwCl ([(ad 0, .inr (5, [.int th, .ref (ad 1), .ref (ad 2), .ref (ad 3), .int (nI 0), .ref (ad 4), .int (nI len), .int vs, .ref (ad 5), .ref (ad 6), .int rl, .int cm, .int fi, .int se])), (ad 1, .inl (cI, 221, .inl z)), (ad 2, .inl (cI, 221, .inl zs)), (ad 3, .inl (cI, 1768, .inl sd)), (ad 4, .inl (cI, 80, .inl tx)), (ad 5, .inl (cI, 8, .inl ds)), (ad 6, .inl (cI, 8, .inl rg))]) H := hP
    have hD : va_D A ([(ad 0, .inr (5, [.int th, .ref (ad 1), .ref (ad 2), .ref (ad 3), .int (nI 0), .ref (ad 4), .int (nI len), .int vs, .ref (ad 5), .ref (ad 6), .int rl, .int cm, .int fi, .int se])), (ad 1, .inl (cI, 221, .inl z)), (ad 2, .inl (cI, 221, .inl zs)), (ad 3, .inl (cI, 1768, .inl sd)), (ad 4, .inl (cI, 80, .inl tx)), (ad 5, .inl (cI, 8, .inl ds)), (ad 6, .inl (cI, 8, .inl rg))]) := hD
    refine lv_aload_n hx hb dX5_undo_0 rfl (lv_at hl 0 rfl) ?_
    refine lv_aload_n hx hb dX5_undo_1 rfl (lv_at hl 0 rfl) ?_
    refine va_get (D := D) (ci := 5) (v := .int (nI 0)) (C := RX5) (T := TX5) (N := 14) hx hb hts iX5 hown hK hP 0 rfl rfl 4 (by decide) f48 (fun _ h9 => h9) rfl dX5_undo_2 ?_
    refine lv_if_ne (tgt := 12) hx hb dX5_undo_5 (by decide) (fun h => absurd (by decide) h) (fun _ => ?_)
    refine lv_iconst (v := (nI 1)) hx hb dX5_undo_8 (by decide) ?_
    refine lv_goto (tgt := 13) hx hb dX5_undo_9 (by decide) ?_
    refine va_put (D := D) (ci := 5) (v := .int (nI 1)) (ty := .int) (C := RX5) (T := TX5) (N := 14) hx hb hts iX5 tyX5 tyX5_ok nmX5 hown hK hP hD hS 0 rfl rfl 0 (by decide) f32 (fun _ h9 => h9) rfl (by decide +kernel) rfl rfl (Nat.le_of_ble_eq_true rfl) dX5_undo_13 (fun H locs hP hD hS => ?_)
    have hP : va_P D vwCl ([(ad 0, .inr (5, [.int (nI 1), .ref (ad 1), .ref (ad 2), .ref (ad 3), .int (nI 0), .ref (ad 4), .int (nI len), .int vs, .ref (ad 5), .ref (ad 6), .int rl, .int cm, .int fi, .int se])), (ad 1, .inl (cI, 221, .inl z)), (ad 2, .inl (cI, 221, .inl zs)), (ad 3, .inl (cI, 1768, .inl sd)), (ad 4, .inl (cI, 80, .inl tx)), (ad 5, .inl (cI, 8, .inl ds)), (ad 6, .inl (cI, 8, .inl rg))]) H := hP
    have hD : va_D A ([(ad 0, .inr (5, [.int (nI 1), .ref (ad 1), .ref (ad 2), .ref (ad 3), .int (nI 0), .ref (ad 4), .int (nI len), .int vs, .ref (ad 5), .ref (ad 6), .int rl, .int cm, .int fi, .int se])), (ad 1, .inl (cI, 221, .inl z)), (ad 2, .inl (cI, 221, .inl zs)), (ad 3, .inl (cI, 1768, .inl sd)), (ad 4, .inl (cI, 80, .inl tx)), (ad 5, .inl (cI, 8, .inl ds)), (ad 6, .inl (cI, 8, .inl rg))]) := hD
    refine lv_aload_n hx hb dX5_undo_16 rfl (lv_at hl 0 rfl) ?_
    refine va_get (D := D) (ci := 5) (v := .int (nI 1)) (C := RX5) (T := TX5) (N := 14) hx hb hts iX5 hown hK hP 0 rfl rfl 0 (by decide) f32 (fun _ h9 => h9) rfl dX5_undo_17 ?_
    refine lv_if_le (tgt := 25) hx hb dX5_undo_20 (by decide) (fun h => absurd h (by decide)) (fun _ => ?_)
    refine lv_iconst (v := (nI 0)) hx hb dX5_undo_23 (by decide) ?_
    exact ret_i (u := ((nI 1), vs, rl, cm, fi, se, z, zs, sd, tx, ds, rg)) hQ hx hb hrt hlk hS dX5_undo_24 hP ⟨rfl, rfl, (LZ.mono hL (by omega))⟩
  · have hl9 : HS9.length + 1 ≤ 8 := hl8
    have hP : va_P D vwCl ([(ad 0, .inr (5, [.int th, .ref (ad 1), .ref (ad 2), .ref (ad 3), .int (nI (HS9.length + 1)), .ref (ad 4), .int (nI len), .int vs, .ref (ad 5), .ref (ad 6), .int rl, .int cm, .int fi, .int se])), (ad 1, .inl (cI, 221, .inl z)), (ad 2, .inl (cI, 221, .inl zs)), (ad 3, .inl (cI, 1768, .inl sd)), (ad 4, .inl (cI, 80, .inl tx)), (ad 5, .inl (cI, 8, .inl ds)), (ad 6, .inl (cI, 8, .inl rg))]) H := hP
    have hD : va_D A ([(ad 0, .inr (5, [.int th, .ref (ad 1), .ref (ad 2), .ref (ad 3), .int (nI (HS9.length + 1)), .ref (ad 4), .int (nI len), .int vs, .ref (ad 5), .ref (ad 6), .int rl, .int cm, .int fi, .int se])), (ad 1, .inl (cI, 221, .inl z)), (ad 2, .inl (cI, 221, .inl zs)), (ad 3, .inl (cI, 1768, .inl sd)), (ad 4, .inl (cI, 80, .inl tx)), (ad 5, .inl (cI, 8, .inl ds)), (ad 6, .inl (cI, 8, .inl rg))]) := hD
    refine lv_aload_n hx hb dX5_undo_0 rfl (lv_at hl 0 rfl) ?_
    refine lv_aload_n hx hb dX5_undo_1 rfl (lv_at hl 0 rfl) ?_
    refine va_get (D := D) (ci := 5) (v := .int (nI (HS9.length + 1))) (C := RX5) (T := TX5) (N := 14) hx hb hts iX5 hown hK hP 0 rfl rfl 4 (by decide) f48 (fun _ h9 => h9) rfl dX5_undo_2 ?_
    refine lv_if_ne (tgt := 12) hx hb dX5_undo_5 (by decide) (fun h_1 => ?_) (fun h_1 => absurd ((nI_eq (a := HS9.length + 1) (b := 0) (by omega) (by omega)).mp h_1) (by omega))
    have h_1 := mt (nI_eq (a := (HS9.length + 1)) (b := 0) (by first | omega | exact bits_lt31 _ | exact bitN_lt _ _ | exact bool_lt _ | exact and_lt31 _ _ _ _ | exact Nat.lt_of_le_of_lt (dst_lt _ _ _ (by omega) _) (by decide) | exact Nat.lt_of_le_of_lt (nrB_le _ _ _ (by omega)).2 (by decide) | decide) (by first | omega | exact bits_lt31 _ | exact bitN_lt _ _ | exact bool_lt _ | exact and_lt31 _ _ _ _ | exact Nat.lt_of_le_of_lt (dst_lt _ _ _ (by omega) _) (by decide) | exact Nat.lt_of_le_of_lt (nrB_le _ _ _ (by omega)).2 (by decide) | decide)).mpr h_1
    refine lv_iconst (v := (nI 0)) hx hb dX5_undo_12 (by decide) ?_
    refine va_put (D := D) (ci := 5) (v := .int (nI 0)) (ty := .int) (C := RX5) (T := TX5) (N := 14) hx hb hts iX5 tyX5 tyX5_ok nmX5 hown hK hP hD hS 0 rfl rfl 0 (by decide) f32 (fun _ h9 => h9) rfl (by decide +kernel) rfl rfl (Nat.le_of_ble_eq_true rfl) dX5_undo_13 (fun H locs hP hD hS => ?_)
    have hP : va_P D vwCl ([(ad 0, .inr (5, [.int (nI 0), .ref (ad 1), .ref (ad 2), .ref (ad 3), .int (nI (HS9.length + 1)), .ref (ad 4), .int (nI len), .int vs, .ref (ad 5), .ref (ad 6), .int rl, .int cm, .int fi, .int se])), (ad 1, .inl (cI, 221, .inl z)), (ad 2, .inl (cI, 221, .inl zs)), (ad 3, .inl (cI, 1768, .inl sd)), (ad 4, .inl (cI, 80, .inl tx)), (ad 5, .inl (cI, 8, .inl ds)), (ad 6, .inl (cI, 8, .inl rg))]) H := hP
    have hD : va_D A ([(ad 0, .inr (5, [.int (nI 0), .ref (ad 1), .ref (ad 2), .ref (ad 3), .int (nI (HS9.length + 1)), .ref (ad 4), .int (nI len), .int vs, .ref (ad 5), .ref (ad 6), .int rl, .int cm, .int fi, .int se])), (ad 1, .inl (cI, 221, .inl z)), (ad 2, .inl (cI, 221, .inl zs)), (ad 3, .inl (cI, 1768, .inl sd)), (ad 4, .inl (cI, 80, .inl tx)), (ad 5, .inl (cI, 8, .inl ds)), (ad 6, .inl (cI, 8, .inl rg))]) := hD
    refine lv_aload_n hx hb dX5_undo_16 rfl (lv_at hl 0 rfl) ?_
    refine va_get (D := D) (ci := 5) (v := .int (nI 0)) (C := RX5) (T := TX5) (N := 14) hx hb hts iX5 hown hK hP 0 rfl rfl 0 (by decide) f32 (fun _ h9 => h9) rfl dX5_undo_17 ?_
    refine lv_if_le (tgt := 25) hx hb dX5_undo_20 (by decide) (fun _ => ?_) (fun h => absurd (by decide) h)
    refine lv_aload_n hx hb dX5_undo_25 rfl (lv_at hl 0 rfl) ?_
    refine lv_dup hx hb dX5_undo_26 rfl ?_
    refine va_get (D := D) (ci := 5) (v := .int (nI (HS9.length + 1))) (C := RX5) (T := TX5) (N := 14) hx hb hts iX5 hown hK hP 0 rfl rfl 4 (by decide) f48 (fun _ h9 => h9) rfl dX5_undo_27 ?_
    refine lv_iconst (v := (nI 1)) hx hb dX5_undo_30 (by decide) ?_
    refine lv_isub hx hb dX5_undo_31 ?_
    refine tpe (y := (nI ((HS9.length + 1) - 1))) (pk_sub (by omega)) ?_
    refine va_put (D := D) (ci := 5) (v := .int (nI ((HS9.length + 1) - 1))) (ty := .int) (C := RX5) (T := TX5) (N := 14) hx hb hts iX5 tyX5 tyX5_ok nmX5 hown hK hP hD hS 0 rfl rfl 4 (by decide) f48 (fun _ h9 => h9) rfl (by decide +kernel) rfl rfl (Nat.le_of_ble_eq_true rfl) dX5_undo_32 (fun H locs hP hD hS => ?_)
    have hP : va_P D vwCl ([(ad 0, .inr (5, [.int (nI 0), .ref (ad 1), .ref (ad 2), .ref (ad 3), .int (nI ((HS9.length + 1) - 1)), .ref (ad 4), .int (nI len), .int vs, .ref (ad 5), .ref (ad 6), .int rl, .int cm, .int fi, .int se])), (ad 1, .inl (cI, 221, .inl z)), (ad 2, .inl (cI, 221, .inl zs)), (ad 3, .inl (cI, 1768, .inl sd)), (ad 4, .inl (cI, 80, .inl tx)), (ad 5, .inl (cI, 8, .inl ds)), (ad 6, .inl (cI, 8, .inl rg))]) H := hP
    have hD : va_D A ([(ad 0, .inr (5, [.int (nI 0), .ref (ad 1), .ref (ad 2), .ref (ad 3), .int (nI ((HS9.length + 1) - 1)), .ref (ad 4), .int (nI len), .int vs, .ref (ad 5), .ref (ad 6), .int rl, .int cm, .int fi, .int se])), (ad 1, .inl (cI, 221, .inl z)), (ad 2, .inl (cI, 221, .inl zs)), (ad 3, .inl (cI, 1768, .inl sd)), (ad 4, .inl (cI, 80, .inl tx)), (ad 5, .inl (cI, 8, .inl ds)), (ad 6, .inl (cI, 8, .inl rg))]) := hD
    refine lv_iconst (v := (nI 0)) hx hb dX5_undo_35 (by decide) ?_
    refine lv_istore_n (lv' := [(1, .int (nI 0)), (0, .ref (ad 0))]) hx hb dX5_undo_36 rfl hl (by decide) rfl (fun ls hl => ?_)
    have L37 : ∀ (N : Nat) (k : Nat), (k ≤ 221) → (221 - k) < N → ∀ (H : Heap) (locs : List Loc), va_P D vwCl ([(ad 0, .inr (5, [.int (nI 0), .ref (ad 1), .ref (ad 2), .ref (ad 3), .int (nI ((HS9.length + 1) - 1)), .ref (ad 4), .int (nI len), .int vs, .ref (ad 5), .ref (ad 6), .int rl, .int cm, .int fi, .int se])), (ad 1, .inl (cI, 221, .inl (mixI (fun i => sd (221 * HS9.length + i)) z k))), (ad 2, .inl (cI, 221, .inl zs)), (ad 3, .inl (cI, 1768, .inl sd)), (ad 4, .inl (cI, 80, .inl tx)), (ad 5, .inl (cI, 8, .inl ds)), (ad 6, .inl (cI, 8, .inl rg))]) H → va_D A ([(ad 0, .inr (5, [.int (nI 0), .ref (ad 1), .ref (ad 2), .ref (ad 3), .int (nI ((HS9.length + 1) - 1)), .ref (ad 4), .int (nI len), .int vs, .ref (ad 5), .ref (ad 6), .int rl, .int cm, .int fi, .int se])), (ad 1, .inl (cI, 221, .inl (mixI (fun i => sd (221 * HS9.length + i)) z k))), (ad 2, .inl (cI, 221, .inl zs)), (ad 3, .inl (cI, 1768, .inl sd)), (ad 4, .inl (cI, 80, .inl tx)), (ad 5, .inl (cI, 8, .inl ds)), (ad 6, .inl (cI, 8, .inl rg))]) → va_S A s.heap H locs → ∀ ls : Array Slot, lv_has ls 2 [(0, .ref (ad 0)), (1, .int (nI k))] → W p l e rX5_undo s m args below meth c H locs 0 0 Q (F0 m 37 ls []) := by
      intro N37
      induction N37 with
      | zero => intro k hk hN; exact absurd hN (Nat.not_lt_zero _)
      | succ N37 ih37 =>
        intro k hk hN H locs hP hD hS ls hl
        refine lv_iload_n hx hb dX5_undo_37 rfl (lv_at hl 1 rfl) ?_
        refine lv_sipush (v := (nI 221)) hx hb dX5_undo_38 (by decide) ?_
        refine lv_icmp_ge (tgt := 71) hx hb dX5_undo_41 (by decide) (fun h_2 => ?_) (fun h_2 => ?_)
        · have h_2 := (nI_leI (a := 221) (b := k) (by first | omega | exact bits_lt31 _ | exact bitN_lt _ _ | exact bool_lt _ | exact and_lt31 _ _ _ _ | exact Nat.lt_of_le_of_lt (dst_lt _ _ _ (by omega) _) (by decide) | exact Nat.lt_of_le_of_lt (nrB_le _ _ _ (by omega)).2 (by decide) | decide) (by first | omega | exact bits_lt31 _ | exact bitN_lt _ _ | exact bool_lt _ | exact and_lt31 _ _ _ _ | exact Nat.lt_of_le_of_lt (dst_lt _ _ _ (by omega) _) (by decide) | exact Nat.lt_of_le_of_lt (nrB_le _ _ _ (by omega)).2 (by decide) | decide)).mp h_2
          refine lv_aload_n hx hb dX5_undo_71 rfl (lv_at hl 0 rfl) ?_
          refine va_get (D := D) (ci := 5) (v := .int (nI ((HS9.length + 1) - 1))) (C := RX5) (T := TX5) (N := 14) hx hb hts iX5 hown hK hP 0 rfl rfl 4 (by decide) f48 (fun _ h9 => h9) rfl dX5_undo_72 ?_
          have hk2 : k = 221 := by omega
          rw [hk2] at hP
          have hq9 := hHS q9 (List.mem_cons_self)
          have hun := HZ_un (z := z) hq9.1 hH
          exact ret_i (u := ((nI 0), vs, rl, cm, fi, se, mixI (fun i => sd (221 * HS9.length + i)) z 221, zs, sd, tx, ds, rg)) hQ hx hb hrt hlk hS dX5_undo_75 hP ⟨rfl, rfl, LZ_mk hq9.1 (hq9.2.mono (by omega)) hun.2 (by omega) hun.1 (all_mono (by omega) (fun q hq => hHS q (List.mem_cons_of_mem _ hq))) hlen htx hsg⟩
        · have h_2 := mt (nI_leI (a := 221) (b := k) (by first | omega | exact bits_lt31 _ | exact bitN_lt _ _ | exact bool_lt _ | exact and_lt31 _ _ _ _ | exact Nat.lt_of_le_of_lt (dst_lt _ _ _ (by omega) _) (by decide) | exact Nat.lt_of_le_of_lt (nrB_le _ _ _ (by omega)).2 (by decide) | decide) (by first | omega | exact bits_lt31 _ | exact bitN_lt _ _ | exact bool_lt _ | exact and_lt31 _ _ _ _ | exact Nat.lt_of_le_of_lt (dst_lt _ _ _ (by omega) _) (by decide) | exact Nat.lt_of_le_of_lt (nrB_le _ _ _ (by omega)).2 (by decide) | decide)).mpr h_2
          refine lv_aload_n hx hb dX5_undo_44 rfl (lv_at hl 0 rfl) ?_
          refine va_get (D := D) (ci := 5) (v := .ref (ad 1)) (C := RX5) (T := TX5) (N := 14) hx hb hts iX5 hown hK hP 0 rfl rfl 1 (by decide) f7 (fun _ h9 => h9) rfl dX5_undo_45 ?_
          refine lv_iload_n hx hb dX5_undo_48 rfl (lv_at hl 1 rfl) ?_
          refine lv_aload_n hx hb dX5_undo_49 rfl (lv_at hl 0 rfl) ?_
          refine va_get (D := D) (ci := 5) (v := .ref (ad 3)) (C := RX5) (T := TX5) (N := 14) hx hb hts iX5 hown hK hP 0 rfl rfl 3 (by decide) f16 (fun _ h9 => h9) rfl dX5_undo_50 ?_
          refine lv_sipush (v := (nI 221)) hx hb dX5_undo_53 (by decide) ?_
          refine lv_aload_n hx hb dX5_undo_56 rfl (lv_at hl 0 rfl) ?_
          refine va_get (D := D) (ci := 5) (v := .int (nI ((HS9.length + 1) - 1))) (C := RX5) (T := TX5) (N := 14) hx hb hts iX5 hown hK hP 0 rfl rfl 4 (by decide) f48 (fun _ h9 => h9) rfl dX5_undo_57 ?_
          refine lv_imul hx hb dX5_undo_60 ?_
          refine tpe (y := (nI (221 * ((HS9.length + 1) - 1)))) (pk_mul _ _) ?_
          refine lv_iload_n hx hb dX5_undo_61 rfl (lv_at hl 1 rfl) ?_
          refine lv_iadd hx hb dX5_undo_62 ?_
          refine tpe (y := (nI (221 * ((HS9.length + 1) - 1) + k))) (nI_add _ _) ?_
          refine r_ild (k := (221 * ((HS9.length + 1) - 1) + k)) hx hb hK hP 3 rfl (by omega) (by decide) dX5_undo_63 ?_
          refine r_ist (k := k) hx hb hK hP hD hS 1 rfl (by omega) (by decide) dX5_undo_64 (fun H locs hP hD hS => ?_)
          have hP : va_P D vwCl ([(ad 0, .inr (5, [.int (nI 0), .ref (ad 1), .ref (ad 2), .ref (ad 3), .int (nI ((HS9.length + 1) - 1)), .ref (ad 4), .int (nI len), .int vs, .ref (ad 5), .ref (ad 6), .int rl, .int cm, .int fi, .int se])), (ad 1, .inl (cI, 221, .inl (upd (mixI (fun i => sd (221 * HS9.length + i)) z k) k (sd (221 * ((HS9.length + 1) - 1) + k))))), (ad 2, .inl (cI, 221, .inl zs)), (ad 3, .inl (cI, 1768, .inl sd)), (ad 4, .inl (cI, 80, .inl tx)), (ad 5, .inl (cI, 8, .inl ds)), (ad 6, .inl (cI, 8, .inl rg))]) H := hP
          have hD : va_D A ([(ad 0, .inr (5, [.int (nI 0), .ref (ad 1), .ref (ad 2), .ref (ad 3), .int (nI ((HS9.length + 1) - 1)), .ref (ad 4), .int (nI len), .int vs, .ref (ad 5), .ref (ad 6), .int rl, .int cm, .int fi, .int se])), (ad 1, .inl (cI, 221, .inl (upd (mixI (fun i => sd (221 * HS9.length + i)) z k) k (sd (221 * ((HS9.length + 1) - 1) + k))))), (ad 2, .inl (cI, 221, .inl zs)), (ad 3, .inl (cI, 1768, .inl sd)), (ad 4, .inl (cI, 80, .inl tx)), (ad 5, .inl (cI, 8, .inl ds)), (ad 6, .inl (cI, 8, .inl rg))]) := hD
          refine lv_iinc (v := (nI (k + 1))) (lv' := [(1, .int (nI (k + 1))), (0, .ref (ad 0))]) hx hb dX5_undo_65 hl (k := 1) rfl (nI_add _ 1) (by decide) rfl (fun ls hl => ?_)
          refine lv_goto (tgt := 37) hx hb dX5_undo_68 (by decide) ?_
          exact ih37 (k + 1) (by omega) (by omega) _ _ (by rw [← mixI_v (g := (fun i => sd (221 * HS9.length + i))) rfl]; exact hP) (by rw [← mixI_v (g := (fun i => sd (221 * HS9.length + i))) rfl]; exact hD) hS _ (lv_sub hl [1, 0] rfl)
    exact L37 _ 0 (Nat.zero_le _) (Nat.lt_succ_self _) _ _ (by rw [mixI_0]; exact hP) (by rw [mixI_0]; exact hD) hS _ (lv_sub hl [1, 0] rfl)

