theorem up_ne {F : FF} {j i k : Nat} {v : Int32} (h : k ≠ j) : up F j i v k = F k := by rw [up, if_neg h]
theorem up_eq {F : FF} {k i : Nat} {v : Int32} : up F k i v k = upd (F k) i v := by rw [up, if_pos rfl]
theorem mem_rm {F : FF} {Q : QQ} {t r : Nat} (h : JJ F Q) (hr : r < 10) (h3 : F 3 t = nI r) {x y : Nat} (hx : x < 10) : y ∈ updQ Q r (fltQ (Q r) t) x ↔ y ∈ Q x ∧ y ≠ t := by
  unfold updQ
  by_cases hxr : x = r
  · rw [if_pos hxr, flt_mem, hxr]
  · rw [if_neg hxr]
    refine ⟨fun hy => ⟨hy, fun e => ?_⟩, fun hy => hy.1⟩
    subst e
    have := (h.2.1 x hx y hy).2
    rw [h3] at this
    exact hxr (nI_inj (by omega) (by omega) this).symm
theorem rm_some {F : FF} {Q : QQ} {t r : Nat} (h : ¬ F 3 t = -1) (hw : wr F t = r) : rmF F t = up F 3 t (-1) ∧ rmQ F Q t = updQ Q r (fltQ (Q r) t) := by
  rw [rmF, rmQ, if_neg h, if_neg h, hw]; exact ⟨rfl, rfl⟩
theorem rm_none {F : FF} {Q : QQ} {t : Nat} (h : F 3 t = -1) : rmF F t = F ∧ rmQ F Q t = Q := by
  rw [rmF, rmQ, if_pos h, if_pos h]; exact ⟨rfl, rfl⟩
theorem rmF_ne {F : FF} {t k : Nat} (hk : k ≠ 3) : rmF F t k = F k := by
  unfold rmF; split
  · rfl
  · exact up_ne hk
theorem rmF_3 {F : FF} {t u : Nat} : rmF F t 3 u = if u = t then -1 else F 3 u := by
  unfold rmF; split
  · rename_i h
    split
    · rename_i e; rw [e, h]
    · rfl
  · rw [up_eq]; rfl
theorem lk_rm {F : FF} {t u r : Nat} : lk (rmF F t) u r = lk F u r := by rw [lk, rmF_ne (by decide), lk]
theorem JJ_rm {F : FF} {Q : QQ} {t : Nat} (h : JJ F Q) (ht : t < 8) : JJ (rmF F t) (rmQ F Q t) := by
  by_cases h3 : F 3 t = -1
  · rw [(rm_none (Q := Q) h3).1, (rm_none h3).2]; exact h
  · obtain ⟨r, hr, h3r, hw, hm⟩ := JJ_want h ht h3
    rw [(rm_some (Q := Q) h3 hw).2]
    have mr : ∀ {x y : Nat}, x < 10 → (y ∈ updQ Q r (fltQ (Q r) t) x ↔ y ∈ Q x ∧ y ≠ t) := fun hx => mem_rm h hr h3r hx
    obtain ⟨a1, a2, a3, a4, a5, a6, a7⟩ := h
    refine ⟨fun x hx => ?_, fun x hx y hy => ?_, fun u hu => ?_, fun u hu hu0 => ?_, fun u hu x hx => ?_, fun x hx y hy => ?_, fun x hx => ?_⟩
    · unfold updQ; split
      · exact flt_nodup _ (a1 r hr)
      · exact a1 x hx
    · have := (mr hx).mp hy
      rw [rmF_3, if_neg this.2]
      exact a2 x hx y this.1
    · rw [rmF_3]
      by_cases hut : u = t
      · rw [if_pos hut]; exact Or.inl rfl
      · rw [if_neg hut]
        rcases a3 u hu with q | ⟨x, h1, h2, h4⟩
        · exact Or.inl q
        · exact Or.inr ⟨x, h1, h2, (mr h1).mpr ⟨h4, hut⟩⟩
    · rw [rmF_ne (by decide)] at hu0
      rw [rmF_3]
      split
      · rfl
      · exact a4 u hu hu0
    · rw [lk_rm]; exact a5 u hu x hx
    · have := (mr hx).mp hy
      rw [rmF_ne (by decide), lk_rm]
      exact a6 x hx y this.1
    · have e : (fun y z => lk (rmF F t) z x = nI 1 → lk (rmF F t) y x = nI 1) = (fun y z => lk F z x = nI 1 → lk F y x = nI 1) := by
        funext y z; rw [lk_rm, lk_rm]
      rw [e]
      unfold updQ; split
      · rename_i hxr
        subst hxr
        exact List.Pairwise.filter _ (a7 x hx)
      · exact a7 x hx
theorem JJ_lock {F F' : FF} {Q : QQ} {t : Nat} (h : JJ F Q) (h3 : F' 3 = F 3) (h4 : F' 4 = F 4) (h0 : ∀ u, u < 8 → F' 0 u = -1 → F 3 u = -1) (hl : ∀ u, u < 8 → u ≠ t → ∀ r, r < 10 → lk F' u r = lk F u r) (ht3 : F 3 t = -1) (h5 : t < 8 → ∀ r, r < 10 → lk F' t r = 0 ∨ lk F' t r = nI 1 ∨ lk F' t r = nI 2) : JJ F' Q := by
  obtain ⟨a1, a2, a3, a4, a5, a6, a7⟩ := h
  have nt : ∀ x, x < 10 → ∀ y ∈ Q x, y < 8 ∧ y ≠ t := fun x hx y hy => ⟨(a2 x hx y hy).1, fun e => by
    subst e
    have := (a2 x hx y hy).2
    rw [ht3] at this
    exact m1_nI (by omega) this.symm⟩
  refine ⟨a1, fun x hx y hy => ?_, fun u hu => ?_, fun u hu hu0 => ?_, fun u hu x hx => ?_, fun x hx y hy => ?_, fun x hx => ?_⟩
  · rw [h3]; exact a2 x hx y hy
  · rw [h3]; exact a3 u hu
  · rw [h3]; exact h0 u hu hu0
  · by_cases hut : u = t
    · subst hut; exact h5 hu x hx
    · rw [hl u hu hut x hx]; exact a5 u hu x hx
  · obtain ⟨b1, b2⟩ := nt x hx y hy
    rw [h4, hl y b1 b2 x hx]
    exact a6 x hx y hy
  · refine List.Pairwise.imp_of_mem ?_ (a7 x hx)
    intro y z hy hz hyz
    obtain ⟨b1, b2⟩ := nt x hx y hy
    obtain ⟨c1, c2⟩ := nt x hx z hz
    rw [hl y b1 b2 x hx, hl z c1 c2 x hx]
    exact hyz
theorem lk_up5 {F : FF} {t r u x : Nat} {m : Int32} (hr : r < 10) (hx : x < 10) : lk (up F 5 (t * 10 + r) m) u x = if u = t ∧ x = r then m else lk F u x := by
  rw [lk, up_eq]
  by_cases h : u = t ∧ x = r
  · obtain ⟨rfl, rfl⟩ := h
    rw [pk_us, if_pos ⟨rfl, rfl⟩]
  · rw [if_neg h, pk_un (fun e => h (by constructor <;> omega)), lk]
theorem lk_gr {F : FF} {t r u x : Nat} {m : Int32} (hr : r < 10) (hx : x < 10) : lk (grF F t r m) u x = if u = t ∧ x = r then m else lk F u x := by
  show (grF F t r m) 5 (u * 10 + x) = _
  rw [grF, up_ne (by decide)]
  exact lk_up5 hr hx
theorem gr_ne {F : FF} {t r k : Nat} {m : Int32} (h1 : k ≠ 1) (h5 : k ≠ 5) : grF F t r m k = F k := by
  rw [grF, up_ne h1, up_ne h5]
theorem JJ_gr {F : FF} {Q : QQ} {t r : Nat} {m : Int32} (h : JJ F Q) (hr : r < 10) (ht3 : F 3 t = -1) (hm : m = nI 1 ∨ m = nI 2) : JJ (grF F t r m) Q := by
  have a4 := h.2.2.2.1
  have a5 := h.2.2.2.2.1
  refine JJ_lock h (gr_ne (by decide) (by decide)) (gr_ne (by decide) (by decide)) (fun u hu h0 => ?_) (fun u hu hut x hx => ?_) ht3 (fun ht x hx => ?_)
  · rw [gr_ne (by decide) (by decide)] at h0; exact a4 u hu h0
  · rw [lk_gr hr hx, if_neg (fun e => hut e.1)]
  · rw [lk_gr hr hx]
    split
    · exact Or.inr hm
    · exact a5 t ht x hx
theorem sf_no {F : FF} {Q : QQ} {r : Nat} (h : sfR F Q r = false) : sfF F Q r = F ∧ sfQ F Q r = Q := by
  rw [sfF, sfQ, h]; exact ⟨rfl, rfl⟩
theorem sf_yes {F : FF} {Q : QQ} {r : Nat} (h : sfR F Q r = true) : sfF F Q r = grF (rmF F ((Q r).getD 0 0)) ((Q r).getD 0 0) r (F 4 ((Q r).getD 0 0)) ∧ sfQ F Q r = rmQ F Q ((Q r).getD 0 0) := by
  rw [sfF, sfQ, h]; exact ⟨rfl, rfl⟩
theorem JJ_sf {F : FF} {Q : QQ} {r : Nat} (h : JJ F Q) (hr : r < 10) : JJ (sfF F Q r) (sfQ F Q r) := by
  cases hs : sfR F Q r with
  | false => rw [(sf_no hs).1, (sf_no hs).2]; exact h
  | true =>
    rw [(sf_yes hs).1, (sf_yes hs).2]
    have hq : 0 < qlen Q r := by
      simp [sfR] at hs
      omega
    have ho := JJ_mem h hr hq
    have ha := JJ_at h hr hq
    refine JJ_gr (JJ_rm h ho) hr (by rw [rmF_3, if_pos rfl]) ?_
    rcases h.2.2.2.2.2.1 r hr _ ha with q | q
    · exact Or.inl q.1
    · exact Or.inr q.1
/-! the queues are served -/
def serN (r : Nat) : Nat → FF → QQ → FF × QQ × Nat
  | 0, F, Q => (F, Q, 0)
  | n + 1, F, Q => if sfR F Q r then ((serN r n (sfF F Q r) (sfQ F Q r)).1, (serN r n (sfF F Q r) (sfQ F Q r)).2.1, (serN r n (sfF F Q r) (sfQ F Q r)).2.2 + 1) else (F, Q, 0)
def serA (F : FF) (Q : QQ) : Nat → FF × QQ × Nat
  | 0 => (F, Q, 0)
  | k + 1 => ((serN k 8 (serA F Q k).1 (serA F Q k).2.1).1, (serN k 8 (serA F Q k).1 (serA F Q k).2.1).2.1, (serA F Q k).2.2 + (serN k 8 (serA F Q k).1 (serA F Q k).2.1).2.2)
theorem JJ_serN {r : Nat} (hr : r < 10) : ∀ (n : Nat) {F : FF} {Q : QQ}, JJ F Q → JJ (serN r n F Q).1 (serN r n F Q).2.1
  | 0, _, _, h => h
  | n + 1, F, Q, h => by
    rw [serN]
    split
    · exact JJ_serN hr n (JJ_sf h hr)
    · exact h
theorem JJ_serA {F : FF} {Q : QQ} (h : JJ F Q) : ∀ k, k ≤ 10 → JJ (serA F Q k).1 (serA F Q k).2.1
  | 0, _ => h
  | k + 1, hk => JJ_serN (by omega) 8 (JJ_serA h k (by omega))
def srvF (F : FF) (Q : QQ) : FF := (serA F Q 10).1
def srvQ (F : FF) (Q : QQ) : QQ := (serA F Q 10).2.1
def srvN (F : FF) (Q : QQ) : Nat := (serA F Q 10).2.2
theorem JJ_srv {F : FF} {Q : QQ} (h : JJ F Q) : JJ (srvF F Q) (srvQ F Q) := JJ_serA h 10 (Nat.le_refl _)
theorem bits_lt31 (p : Nat → Bool) : bits p 8 < 2 ^ 31 := Nat.lt_trans (bits_lt8 p) (by decide)
theorem bool_lt (b : Bool) : b.toNat < 2 ^ 31 := by cases b <;> decide
def serI (r : Nat) (F1 : FF) (Q1 : QQ) (Fc : FF) (Qc : QQ) (i : Nat) : Prop :=
  serN r 8 F1 Q1 = ((serN r (8 - i) Fc Qc).1, (serN r (8 - i) Fc Qc).2.1, (serN r (8 - i) Fc Qc).2.2 + i)
theorem serI_0 {r : Nat} {F : FF} {Q : QQ} : serI r F Q F Q 0 := rfl
theorem serN_no {r n : Nat} {F : FF} {Q : QQ} (h : sfR F Q r = false) : serN r n F Q = (F, Q, 0) := by
  cases n with
  | zero => rfl
  | succ n => rw [serN, if_neg (by simp [h])]
theorem serI_s {r i : Nat} {F1 Fc : FF} {Q1 Qc : QQ} (hi : i < 8) (h : sfR Fc Qc r = true) (hI : serI r F1 Q1 Fc Qc i) : serI r F1 Q1 (sfF Fc Qc r) (sfQ Fc Qc r) (i + 1) := by
  unfold serI at hI ⊢
  rw [hI, show 8 - i = (8 - (i + 1)) + 1 by omega, serN, if_pos h]
  simp only [Prod.mk.injEq, true_and]
  omega
theorem serI_e {r i : Nat} {F1 Fc : FF} {Q1 Qc : QQ} (h : i = 8 ∨ sfR Fc Qc r = false) (hI : serI r F1 Q1 Fc Qc i) : serN r 8 F1 Q1 = (Fc, Qc, i) := by
  unfold serI at hI
  rcases h with h | h
  · subst h
    rw [hI]
    simp [serN]
  · rw [hI, serN_no h]
    simp
theorem serA_s {F Fc : FF} {Q Qc : QQ} {k i : Nat} (h : serN k 8 (serA F Q k).1 (serA F Q k).2.1 = (Fc, Qc, i)) : Fc = (serA F Q (k + 1)).1 ∧ Qc = (serA F Q (k + 1)).2.1 ∧ (serA F Q k).2.2 + i = (serA F Q (k + 1)).2.2 := by
  rw [serA, h]; exact ⟨rfl, rfl, rfl⟩
def endF (F : FF) (t : Nat) : FF := up (up (up (relF (rmF F t) t) 0 t (-1)) 1 t (-1)) 2 t (-1)
def abF (F : FF) (v : Nat) : FF := up (up (up (up (relF (rmF F v) v) 8 1 (F 8 1 + nI 1)) 8 2 (F 8 2 + F 1 v)) 1 v (nI 0)) 2 v (F 2 v + nI 1)
theorem lk_rel {F : FF} {t u r : Nat} (hr : r < 10) : lk (relF F t) u r = if u = t then 0 else lk F u r := by
  rw [lk, relF, if_pos rfl, relU]
  by_cases h : u = t
  · subst h; rw [if_pos (by omega), if_pos rfl]; rfl
  · rw [if_neg (by omega), if_neg h, lk]
theorem rel_ne {F : FF} {t k : Nat} (h : k ≠ 5) : relF F t k = F k := by rw [relF, if_neg h]
theorem JJ_rel {F F' : FF} {Q : QQ} {t : Nat} (h : JJ F Q) (ht : t < 8) (h3 : F' 3 = rmF F t 3) (h4 : F' 4 = F 4) (h5 : F' 5 = relF (rmF F t) t 5) (h0 : ∀ u, u < 8 → u ≠ t → F' 0 u = -1 → F 0 u = -1) : JJ F' (rmQ F Q t) := by
  have hl : ∀ u x, x < 10 → lk F' u x = if u = t then 0 else lk F u x := fun u x hx => by
    show F' 5 (u * 10 + x) = _
    rw [h5]
    show lk (relF (rmF F t) t) u x = _
    rw [lk_rel hx, lk_rm]
  have hJ := JJ_rm h ht
  refine JJ_lock (t := t) hJ h3 (by rw [h4, rmF_ne (by decide)]) (fun u hu hu0 => ?_) (fun u hu hut x hx => ?_) (by rw [rmF_3, if_pos rfl]) (fun _ x hx => ?_)
  · by_cases hut : u = t
    · rw [rmF_3, if_pos hut]
    · rw [rmF_3, if_neg hut]
      exact h.2.2.2.1 u hu (h0 u hu hut hu0)
  · rw [hl u x hx, if_neg hut, lk_rm]
  · rw [hl t x hx, if_pos rfl]; exact Or.inl rfl
theorem JJ_end {F : FF} {Q : QQ} {t : Nat} (h : JJ F Q) (ht : t < 8) : JJ (endF F t) (rmQ F Q t) := by
  refine JJ_rel h ht ?_ ?_ ?_ (fun u hu hut hu0 => ?_)
  · rw [endF, up_ne (by decide), up_ne (by decide), up_ne (by decide), rel_ne (by decide)]
  · rw [endF, up_ne (by decide), up_ne (by decide), up_ne (by decide), rel_ne (by decide), rmF_ne (by decide)]
  · rw [endF, up_ne (by decide), up_ne (by decide), up_ne (by decide)]
  · rw [endF, up_ne (by decide), up_ne (by decide), up_eq, pk_un hut, rel_ne (by decide), rmF_ne (by decide)] at hu0
    exact hu0
theorem JJ_ab {F : FF} {Q : QQ} {t : Nat} (h : JJ F Q) (ht : t < 8) : JJ (abF F t) (rmQ F Q t) := by
  refine JJ_rel h ht ?_ ?_ ?_ (fun u hu hut hu0 => ?_)
  · rw [abF, up_ne (by decide), up_ne (by decide), up_ne (by decide), up_ne (by decide), rel_ne (by decide)]
  · rw [abF, up_ne (by decide), up_ne (by decide), up_ne (by decide), up_ne (by decide), rel_ne (by decide), rmF_ne (by decide)]
  · rw [abF, up_ne (by decide), up_ne (by decide), up_ne (by decide), up_ne (by decide)]
  · rw [abF, up_ne (by decide), up_ne (by decide), up_ne (by decide), up_ne (by decide), rel_ne (by decide), rmF_ne (by decide)] at hu0
    exact hu0
theorem JJ_room {F : FF} {Q : QQ} {t r : Nat} (h : JJ F Q) (ht : t < 8) (h3 : F 3 t = -1) (hr : r < 10) : qlen Q r < 8 := by
  have hn : t ∉ Q r := fun hm => by
    have := (h.2.1 r hr t hm).2
    rw [h3] at this
    exact m1_nI (by omega) this.symm
  have := pig 8 (t :: Q r) (List.nodup_cons.mpr ⟨hn, h.1 r hr⟩) (fun x hx => by
    rcases List.mem_cons.mp hx with q | q
    · omega
    · exact (h.2.1 r hr x q).1)
  have h2 : (Q r).length + 1 ≤ 8 := by simpa using this
  exact h2
/-- the place of a request that must wait -/
def insN (F : FF) (Q : QQ) (t r : Nat) : Nat := if lk F t r = nI 1 then cntU F (Q r) r (qlen Q r) else qlen Q r
theorem insN_le {F : FF} {Q : QQ} {t r : Nat} : insN F Q t r ≤ qlen Q r := by
  unfold insN; split
  · exact cntU_le _ _ _ _
  · exact Nat.le_refl _
def plS (F : FF) (t r : Nat) (m : Int32) : Bool := lk F t r == m || lk F t r == nI 2
def plG (F : FF) (Q : QQ) (t r : Nat) (m : Int32) : Bool := (lk F t r == nI 1 || qlen Q r == 0) && bits (rivB F t r m) 8 == 0
def plW (F : FF) (Q : QQ) (t r : Nat) (m : Int32) : Bool := !plS F t r m && !plG F Q t r m
def plF (F : FF) (Q : QQ) (t r : Nat) (m : Int32) : FF := if plS F t r m then F else if plG F Q t r m then grF F t r m else up (up F 3 t (nI r)) 4 t m
def plQ (F : FF) (Q : QQ) (t r : Nat) (m : Int32) : QQ := if plS F t r m then Q else if plG F Q t r m then Q else updQ Q r (insQ (Q r) (insN F Q t r) t)
theorem abF_eq {F : FF} {v : Nat} : abF F v = up (up (up (up (relF (rmF F v) v) 8 1 (relF (rmF F v) v 8 1 + nI 1)) 8 2 (relF (rmF F v) v 8 2 + relF (rmF F v) v 1 v)) 1 v (nI 0)) 2 v (relF (rmF F v) v 2 v + nI 1) := by
  rw [rel_ne (by decide), rmF_ne (by decide), rel_ne (by decide), rmF_ne (by decide), rel_ne (by decide), rmF_ne (by decide)]
  rfl
theorem adr_tbl {cI : ClassId} {a : Nat → Nat} {F : FF} {Q : QQ} {qa : Nat → Int32} : (tblW cI a F Q qa).map Prod.fst = [a 0, a 1, a 2, a 3, a 4, a 5, a 6, a 7, a 8] := rfl
