theorem pl_same {F : FF} {Q : QQ} {t r : Nat} {m : Int32} (h : plS F t r m = true) : plF F Q t r m = F ∧ plQ F Q t r m = Q ∧ plW F Q t r m = false := by
  rw [plF, plQ, plW, h]; exact ⟨rfl, rfl, rfl⟩
theorem pl_gr {F : FF} {Q : QQ} {t r : Nat} {m : Int32} (h : plS F t r m = false) (h2 : plG F Q t r m = true) : plF F Q t r m = grF F t r m ∧ plQ F Q t r m = Q ∧ plW F Q t r m = false := by
  rw [plF, plQ, plW, h, h2]; exact ⟨rfl, rfl, rfl⟩
theorem pl_wait {F : FF} {Q : QQ} {t r : Nat} {m : Int32} (h : plS F t r m = false) (h2 : plG F Q t r m = false) : plF F Q t r m = up (up F 3 t (nI r)) 4 t m ∧ plQ F Q t r m = updQ Q r (insQ (Q r) (insN F Q t r) t) ∧ plW F Q t r m = true := by
  rw [plF, plQ, plW, h, h2]; exact ⟨rfl, rfl, rfl⟩
theorem ins_mem {L : List Nat} {n t y : Nat} : y ∈ insQ L n t ↔ y ∈ L ∨ y = t := by
  have e : y ∈ L ↔ y ∈ L.take n ∨ y ∈ L.drop n := by rw [← List.mem_append, List.take_append_drop]
  rw [insQ, e, List.mem_append, List.mem_cons]
  constructor
  · rintro (h | h | h)
    · exact Or.inl (Or.inl h)
    · exact Or.inr h
    · exact Or.inl (Or.inr h)
  · rintro ((h | h) | h)
    · exact Or.inl h
    · exact Or.inr (Or.inr h)
    · exact Or.inr (Or.inl h)
theorem ins_nodup {L : List Nat} {n t : Nat} (h : L.Nodup) (ht : t ∉ L) : (insQ L n t).Nodup := by
  have p : (insQ L n t).Perm (t :: (L.take n ++ L.drop n)) := List.perm_middle
  rw [List.take_append_drop] at p
  exact p.nodup_iff.mpr (List.nodup_cons.mpr ⟨ht, h⟩)
theorem cntU_pre {F : FF} {L : List Nat} {r : Nat} (h : L.Pairwise (fun x y => lk F y r = nI 1 → lk F x r = nI 1)) : ∀ i, i ≤ L.length → ∀ j, j < cntU F L r i → lk F (L.getD j 0) r = nI 1
  | 0, _, j, hj => absurd hj (Nat.not_lt_zero _)
  | i + 1, hi, j, hj => by
    rw [cntU] at hj
    by_cases hl : lk F (L.getD i 0) r = nI 1
    · have hc := cntU_le F L r i
      by_cases hji : j = i
      · rw [hji]; exact hl
      · have hlt : j < i := by
          have : j < cntU F L r i + 1 := by rw [if_pos (beq_iff_eq.mpr hl)] at hj; exact hj
          omega
        have hp := List.pairwise_iff_getElem.mp h j i (by omega) (by omega) hlt
        rw [List.getD_eq_getElem?_getD, List.getElem?_eq_getElem (by omega)] at hl ⊢
        exact hp hl
    · have : j < cntU F L r i := by
        rw [if_neg (by simpa using hl)] at hj
        omega
      exact cntU_pre h i (by omega) j this
theorem JJ_ins {F : FF} {Q : QQ} {t r : Nat} {m : Int32} (h : JJ F Q) (ht : t < 8) (hr : r < 10) (h3 : F 3 t = -1) (h0 : ¬ F 0 t = -1) (hm : m = nI 1 ∨ m = nI 2) (hs : plS F t r m = false) : JJ (up (up F 3 t (nI r)) 4 t m) (updQ Q r (insQ (Q r) (insN F Q t r) t)) := by
  have hn : ∀ x, x < 10 → t ∉ Q x := fun x hx hmm => by
    have := (h.2.1 x hx t hmm).2
    rw [h3] at this
    exact m1_nI (by omega) this.symm
  have hs1 : ¬ lk F t r = m ∧ ¬ lk F t r = nI 2 := by simpa [plS] using hs
  obtain ⟨a1, a2, a3, a4, a5, a6, a7⟩ := h
  have f0 : up (up F 3 t (nI r)) 4 t m 0 = F 0 := by rw [up_ne (by decide), up_ne (by decide)]
  have f5 : up (up F 3 t (nI r)) 4 t m 5 = F 5 := by rw [up_ne (by decide), up_ne (by decide)]
  have f3 : ∀ u, up (up F 3 t (nI r)) 4 t m 3 u = if u = t then nI r else F 3 u := fun u => by
    rw [up_ne (by decide), up_eq]; rfl
  have f4 : ∀ u, up (up F 3 t (nI r)) 4 t m 4 u = if u = t then m else F 4 u := fun u => by
    rw [up_eq, up_ne (by decide)]; rfl
  have fl : ∀ u x, lk (up (up F 3 t (nI r)) 4 t m) u x = lk F u x := fun u x => by rw [lk, f5, lk]
  have mr : ∀ {x y : Nat}, y ∈ updQ Q r (insQ (Q r) (insN F Q t r) t) x ↔ y ∈ Q x ∨ (x = r ∧ y = t) := by
    intro x y
    unfold updQ
    by_cases hxr : x = r
    · rw [if_pos hxr, ins_mem, hxr]; simp
    · rw [if_neg hxr]; simp [hxr]
  refine ⟨fun x hx => ?_, fun x hx y hy => ?_, fun u hu => ?_, fun u hu hu0 => ?_, fun u hu x hx => ?_, fun x hx y hy => ?_, fun x hx => ?_⟩
  · unfold updQ; split
    · exact ins_nodup (a1 r hr) (hn r hr)
    · exact a1 x hx
  · rcases mr.mp hy with q | ⟨q1, q2⟩
    · have hyt : y ≠ t := fun e => hn x hx (e ▸ q)
      rw [f3, if_neg hyt]
      exact a2 x hx y q
    · rw [f3, if_pos q2, q1]; exact ⟨by omega, rfl⟩
  · rw [f3]
    by_cases hut : u = t
    · rw [if_pos hut]; exact Or.inr ⟨r, hr, rfl, mr.mpr (Or.inr ⟨rfl, hut⟩)⟩
    · rw [if_neg hut]
      rcases a3 u hu with q | ⟨x, q1, q2, q3⟩
      · exact Or.inl q
      · exact Or.inr ⟨x, q1, q2, mr.mpr (Or.inl q3)⟩
  · rw [f0] at hu0
    have hut : u ≠ t := fun e => h0 (e ▸ hu0)
    rw [f3, if_neg hut]
    exact a4 u hu hu0
  · rw [fl]; exact a5 u hu x hx
  · rw [f4, fl]
    rcases mr.mp hy with q | ⟨q1, q2⟩
    · have hyt : y ≠ t := fun e => hn x hx (e ▸ q)
      rw [if_neg hyt]
      exact a6 x hx y q
    · rw [if_pos q2, q1, q2]
      rcases hm with e | e
      · refine Or.inl ⟨e, ?_⟩
        rcases a5 t ht r hr with z | z | z
        · exact z
        · exact absurd (z.trans e.symm) hs1.1
        · exact absurd z hs1.2
      · refine Or.inr ⟨e, ?_⟩
        rcases a5 t ht r hr with z | z | z
        · exact Or.inl z
        · exact Or.inr z
        · exact absurd z hs1.2
  · have e : (fun y z => lk (up (up F 3 t (nI r)) 4 t m) z x = nI 1 → lk (up (up F 3 t (nI r)) 4 t m) y x = nI 1) = (fun y z => lk F z x = nI 1 → lk F y x = nI 1) := by
      funext y z; rw [fl, fl]
    rw [e]
    unfold updQ; split
    · rename_i hxr
      subst hxr
      have hp := a7 x hx
      have hp2 := hp
      rw [← List.take_append_drop (insN F Q t x) (Q x)] at hp2
      obtain ⟨p1, p2, p3⟩ := List.pairwise_append.mp hp2
      refine List.pairwise_append.mpr ⟨p1, List.pairwise_cons.mpr ⟨fun y hy hy1 => ?_, p2⟩, fun z hz y hy hy1 => ?_⟩
      · by_cases hl : lk F t x = nI 1
        · exact hl
        · rw [insN, if_neg hl, qlen, List.drop_length] at hy
          cases hy
      · rcases List.mem_cons.mp hy with q | q
        · rw [q] at hy1
          rw [insN, if_pos hy1] at hz
          obtain ⟨j, hj, hjz⟩ := List.mem_iff_getElem.mp hz
          rw [List.length_take] at hj
          have := cntU_pre hp _ (Nat.le_refl _) j (by unfold qlen at hj; omega)
          rw [List.getElem_take] at hjz
          rw [← hjz]
          rw [List.getD_eq_getElem?_getD, List.getElem?_eq_getElem (by omega)] at this
          exact this
        · exact p3 z hz y q hy1
    · exact a7 x hx
theorem JJ_pl {F : FF} {Q : QQ} {t r : Nat} {m : Int32} (h : JJ F Q) (ht : t < 8) (hr : r < 10) (h3 : F 3 t = -1) (h0 : ¬ F 0 t = -1) (hm : m = nI 1 ∨ m = nI 2) : JJ (plF F Q t r m) (plQ F Q t r m) := by
  cases hs : plS F t r m with
  | true => rw [(pl_same (Q := Q) hs).1, (pl_same hs).2.1]; exact h
  | false =>
    cases hg : plG F Q t r m with
    | true => rw [(pl_gr hs hg).1, (pl_gr hs hg).2.1]; exact JJ_gr h hr h3 hm
    | false => rw [(pl_wait hs hg).1, (pl_wait hs hg).2.1]; exact JJ_ins h ht hr h3 h0 hm hs
/-! the content of a row of numbers, within its length -/
theorem P_set {D : va_G} {ws : va_W} {H : Heap} {cI : ClassId} {a n : Nat} {f : Nat → Int32} (g : Nat → Int32) (hP : va_P D vwCl ws H) (k : Nat) (hk : ws[k]? = some (a, .inl (cI, n, .inl f))) (h : ∀ j, j < n → f j = g j) : va_P D vwCl (ws.set k (a, .inl (cI, n, .inl g))) H := by
  intro i q hq
  rw [List.getElem?_set] at hq
  by_cases hki : k = i
  · rw [if_pos hki] at hq
    subst hki
    split at hq
    · cases Option.some.inj hq
      have h1 := hP k _ hk
      show H[a]? = some (vp_cell cI (n, .inl g))
      have h2 : H[a]? = some (vp_cell cI (n, .inl f)) := h1
      rw [h2]
      congr 1
      rw [vp_cell_i, vp_cell_i, arrV, arrV]
      congr 1
      apply congrArg
      funext j
      rw [h j.val j.isLt]
    · cases hq
  · rw [if_neg hki] at hq
    exact hP i q hq
def mixN (g w : Nat → Nat) (i : Nat) : Nat → Nat := fun z => if z < i then g z else w z
theorem mix_0 {g w : Nat → Nat} : mixN g w 0 = w := by
  funext z; rw [mixN, if_neg (Nat.not_lt_zero _)]
theorem mix_v {g w : Nat → Nat} {i v : Nat} (h : g i = v) : va_up (mixN g w i) i v = mixN g w (i + 1) := by
  funext z
  by_cases hz : z = i
  · subst hz; simp [va_up, mixN, h]
  · by_cases h2 : z < i
    · simp [va_up, mixN, hz, h2, show z < i + 1 by omega]
    · simp [va_up, mixN, hz, h2, show ¬ z < i + 1 by omega]
theorem mix_k {g w : Nat → Nat} {i : Nat} (h : g i = w i) : mixN g w i = mixN g w (i + 1) := by
  funext z
  by_cases hz : z = i
  · subst hz; simp [mixN, h]
  · by_cases h2 : z < i
    · simp [mixN, h2, show z < i + 1 by omega]
    · simp [mixN, h2, show ¬ z < i + 1 by omega]
/-! how far from a start -/
abbrev brkW (cI : ClassId) (b : Nat → Nat) (wa da : Nat → Nat) : va_W := [(b 0, .inr (3, [.ref (b 1), .ref (b 2)])), (b 1, .inl (cI, 8, .inl (fun z => nI (wa z)))), (b 2, .inl (cI, 8, .inl (fun z => nI (da z))))]
def dst (F : FF) (Q : QQ) (s : Nat) : Nat → Nat → Nat
  | 0, t => if t = s then 0 else 8
  | d + 1, t => if dst F Q s d t = 8 ∧ ¬ aWS F Q t &&& bits (fun u => dst F Q s d u == d) 8 = 0 then d + 1 else dst F Q s d t
theorem dst_le (F : FF) (Q : QQ) (s : Nat) : ∀ d t, dst F Q s d t ≤ d ∨ dst F Q s d t = 8
  | 0, t => by
    rw [dst]; split
    · exact Or.inl (Nat.le_refl _)
    · exact Or.inr rfl
  | d + 1, t => by
    rw [dst]; split
    · exact Or.inl (Nat.le_refl _)
    · rcases dst_le F Q s d t with h | h
      · exact Or.inl (by omega)
      · exact Or.inr h
theorem dst_lt (F : FF) (Q : QQ) (s : Nat) {d : Nat} (hd : d ≤ 8) (t : Nat) : dst F Q s d t ≤ 8 := by
  rcases dst_le F Q s d t with h | h <;> omega
theorem and_lt31 (F : FF) (Q : QQ) (t S : Nat) : aWS F Q t &&& S < 2 ^ 31 := Nat.lt_of_le_of_lt Nat.and_le_left (Nat.lt_trans (aWS_lt F Q t) (by decide))
theorem bit_start {s : Nat} (hs : s < 8) (F : FF) (Q : QQ) : nI 1 <<< (nI s &&& 31) = nI (bits (fun u => dst F Q s 0 u == 0) 8) := by
  rw [sh_nI hs]
  congr 1
  refine Nat.eq_of_testBit_eq (fun i => ?_)
  rw [bits_tb, Nat.testBit_two_pow]
  by_cases h : s = i
  · subst h; simp [hs, dst]
  · simp [h, dst, show ¬ i = s from fun e => h e.symm]
/-! the nearest -/
def bI (n : Nat) : Int32 := if n = 8 then -1 else nI n
theorem bI_some {n : Nat} (h : ¬ n = 8) : bI n = nI n := by rw [bI, if_neg h]
theorem bI_m1 {n : Nat} (h : n ≤ 8) : bI n = -1 ↔ n = 8 := by
  unfold bI; split
  · rename_i e; simp [e]
  · rename_i e; exact ⟨fun q => absurd q (m1_nI (by omega)), fun q => absurd q e⟩
theorem bI_eq {n s : Nat} (h : n ≤ 8) (hs : s < 8) : bI n = nI s ↔ n = s := by
  unfold bI; split
  · rename_i e; exact ⟨fun q => absurd q.symm (m1_nI (by omega)), fun q => by omega⟩
  · exact ⟨fun q => nI_inj (by omega) (by omega) q, fun q => by rw [q]⟩
def nrB (D : Nat → Nat) (S : Nat) : Nat → Nat × Nat
  | 0 => (8, 8)
  | i + 1 => if S.testBit i = true ∧ D i < (nrB D S i).2 then (i, D i) else nrB D S i
theorem nrB_le (D : Nat → Nat) (S : Nat) : ∀ i, i ≤ 8 → (nrB D S i).1 ≤ 8 ∧ (nrB D S i).2 ≤ 8
  | 0, _ => ⟨Nat.le_refl _, Nat.le_refl _⟩
  | i + 1, h => by
    have ih := nrB_le D S i (by omega)
    rw [nrB]; split
    · rename_i q; exact ⟨by show i ≤ 8; omega, by show D i ≤ 8; omega⟩
    · exact ih
/-! the ring that is examined -/
def srL (W D : Nat → Nat) (s : Nat) : Nat → Nat → Nat → Nat
  | 0, _, _ => 0
  | n + 1, rg, m => if (nrB D (W m) 8).1 = s then rg ||| 2 ^ m else if (nrB D (W m) 8).1 = 8 then 0 else srL W D s n (rg ||| 2 ^ m) (nrB D (W m) 8).1
theorem srL_lt {W D : Nat → Nat} {s : Nat} : ∀ n rg m, rg < 2 ^ 8 → m < 8 → srL W D s n rg m < 2 ^ 8
  | 0, _, _, _, _ => by rw [srL]; decide
  | n + 1, rg, m, hr, hm => by
    have h2 : rg ||| 2 ^ m < 2 ^ 8 := Nat.or_lt_two_pow hr (Nat.pow_lt_pow_right (by decide) hm)
    rw [srL]; split
    · exact h2
    · split
      · decide
      · rename_i q
        have := (nrB_le D (W m) 8 (Nat.le_refl _)).1
        exact srL_lt n _ _ h2 (by omega)
theorem or_sh {S m : Nat} (hm : m < 8) : nI S ||| (nI 1 <<< (nI m &&& 31)) = nI (S ||| 2 ^ m) := by rw [sh_nI hm, or_nI]
/-! the victim -/
def spB (F : FF) (t : Nat) : Bool := !decide (F 2 t < nI 2)
def gbB (F : FF) (x y : Nat) : Bool := if spB F x ≠ spB F y then spB F y else if F 1 x = F 1 y then !decide (F 0 x ≤ F 0 y) else !decide (F 1 y ≤ F 1 x)
def cvB (F : FF) (S : Nat) : Nat → Nat
  | 0 => 8
  | i + 1 => if S.testBit i = true ∧ (cvB F S i = 8 ∨ gbB F i (cvB F S i) = true) then i else cvB F S i
theorem cvB_lt (F : FF) (S : Nat) : ∀ i, cvB F S i < i ∨ cvB F S i = 8
  | 0 => Or.inr rfl
  | i + 1 => by
    rw [cvB]; split
    · exact Or.inl (Nat.lt_succ_self _)
    · rcases cvB_lt F S i with h | h
      · exact Or.inl (by omega)
      · exact Or.inr h
theorem cvB_le (F : FF) (S : Nat) {i : Nat} (h : i ≤ 8) : cvB F S i ≤ 8 := by
  rcases cvB_lt F S i with q | q <;> omega
def vic (F : FF) (Q : QQ) (s : Nat) : Nat := cvB F (srL (aWS F Q) (dst F Q s 7) s 8 0 s) 8
theorem vic_le (F : FF) (Q : QQ) (s : Nat) : vic F Q s ≤ 8 := cvB_le _ _ (Nat.le_refl _)
def brS (s : Nat) : Nat → FF → QQ → Nat → FF × QQ × Nat
  | 0, F, Q, V => (F, Q, V)
  | n + 1, F, Q, V => if vic F Q s = 8 then (F, Q, V) else brS s n (srvF (abF F (vic F Q s)) (rmQ F Q (vic F Q s))) (srvQ (abF F (vic F Q s)) (rmQ F Q (vic F Q s))) (V ||| 2 ^ vic F Q s)
theorem JJ_br {s : Nat} : ∀ n {F : FF} {Q : QQ} {V : Nat}, JJ F Q → JJ (brS s n F Q V).1 (brS s n F Q V).2.1
  | 0, _, _, _, h => h
  | n + 1, F, Q, V, h => by
    rw [brS]; split
    · exact h
    · rename_i q
      have := vic_le F Q s
      exact JJ_br n (JJ_srv (JJ_ab h (by omega)))
def brF (F : FF) (Q : QQ) (s : Nat) : FF := (brS s 8 F Q 0).1
def brQ (F : FF) (Q : QQ) (s : Nat) : QQ := (brS s 8 F Q 0).2.1
def brV (F : FF) (Q : QQ) (s : Nat) : Nat := (brS s 8 F Q 0).2.2
theorem adr_brk {cI : ClassId} {b : Nat → Nat} {wa da : Nat → Nat} : (brkW cI b wa da).map Prod.fst = [b 0, b 1, b 2] := rfl
theorem adr_bt {cI : ClassId} {a b : Nat → Nat} {wa da : Nat → Nat} {F : FF} {Q : QQ} {qa : Nat → Int32} : (brkW cI b wa da ++ tblW cI a F Q qa).map Prod.fst = [b 0, b 1, b 2, a 0, a 1, a 2, a 3, a 4, a 5, a 6, a 7, a 8] := rfl
def brI (s : Nat) (F1 : FF) (Q1 : QQ) (i : Nat) (Fc : FF) (Qc : QQ) (V : Nat) : Prop := brS s (8 - i) Fc Qc V = brS s 8 F1 Q1 0
theorem brI_0 {s : Nat} {F : FF} {Q : QQ} : brI s F Q 0 F Q 0 := rfl
theorem brI_s {s i V : Nat} {F1 Fc : FF} {Q1 Qc : QQ} (hi : i < 8) (hv : ¬ vic Fc Qc s = 8) (h : brI s F1 Q1 i Fc Qc V) : brI s F1 Q1 (i + 1) (srvF (abF Fc (vic Fc Qc s)) (rmQ Fc Qc (vic Fc Qc s))) (srvQ (abF Fc (vic Fc Qc s)) (rmQ Fc Qc (vic Fc Qc s))) (V ||| 2 ^ vic Fc Qc s) := by
  unfold brI at h ⊢
  rw [← h, show 8 - i = (8 - (i + 1)) + 1 by omega, brS, if_neg hv]
theorem brI_e {s i V : Nat} {F1 Fc : FF} {Q1 Qc : QQ} (hv : i = 8 ∨ vic Fc Qc s = 8) (h : brI s F1 Q1 i Fc Qc V) : Fc = brF F1 Q1 s ∧ Qc = brQ F1 Q1 s ∧ V = brV F1 Q1 s := by
  unfold brI at h
  have e : brS s (8 - i) Fc Qc V = (Fc, Qc, V) := by
    rcases hv with q | q
    · subst q; rfl
    · cases hn : 8 - i with
      | zero => rfl
      | succ n => rw [brS, if_pos q]
  rw [e] at h
  rw [brF, brQ, brV, ← h]; exact ⟨rfl, rfl, rfl⟩
def srI (W D : Nat → Nat) (s i rg m : Nat) : Prop := srL W D s (8 - i) rg m = srL W D s 8 0 s
theorem srI_hit {W D : Nat → Nat} {s i rg m : Nat} (hi : i < 8) (h : srI W D s i rg m) (hn : (nrB D (W m) 8).1 = s) : rg ||| 2 ^ m = srL W D s 8 0 s := by
  unfold srI at h
  rw [← h, show 8 - i = (8 - (i + 1)) + 1 by omega, srL, if_pos hn]
theorem srI_none {W D : Nat → Nat} {s i rg m : Nat} (hi : i < 8) (h : srI W D s i rg m) (hn : ¬ (nrB D (W m) 8).1 = s) (h8 : (nrB D (W m) 8).1 = 8) : 0 = srL W D s 8 0 s := by
  unfold srI at h
  rw [← h, show 8 - i = (8 - (i + 1)) + 1 by omega, srL, if_neg hn, if_pos h8]
theorem srI_s {W D : Nat → Nat} {s i rg m : Nat} (hi : i < 8) (h : srI W D s i rg m) (hn : ¬ (nrB D (W m) 8).1 = s) (h8 : ¬ (nrB D (W m) 8).1 = 8) : srI W D s (i + 1) (rg ||| 2 ^ m) (nrB D (W m) 8).1 := by
  unfold srI at h ⊢
  rw [← h, show 8 - i = (8 - (i + 1)) + 1 by omega, srL, if_neg hn, if_neg h8]
theorem nrB_y {D : Nat → Nat} {S i : Nat} (h : S.testBit i = true) (h2 : D i < (nrB D S i).2) : nrB D S (i + 1) = (i, D i) := by rw [nrB, if_pos ⟨h, h2⟩]
theorem nrB_n {D : Nat → Nat} {S i : Nat} (h : ¬ (S.testBit i = true ∧ D i < (nrB D S i).2)) : nrB D S (i + 1) = nrB D S i := by rw [nrB, if_neg h]
theorem dst_y {F : FF} {Q : QQ} {s d t : Nat} (h1 : dst F Q s d t = 8) (h2 : ¬ aWS F Q t &&& bits (fun u => dst F Q s d u == d) 8 = 0) : dst F Q s (d + 1) t = d + 1 := by rw [dst, if_pos ⟨h1, h2⟩]
theorem dst_n {F : FF} {Q : QQ} {s d t : Nat} (h : ¬ (dst F Q s d t = 8 ∧ ¬ aWS F Q t &&& bits (fun u => dst F Q s d u == d) 8 = 0)) : dst F Q s (d + 1) t = dst F Q s d t := by rw [dst, if_neg h]
