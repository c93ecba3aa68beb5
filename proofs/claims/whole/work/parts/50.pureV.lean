/-! the victim -/
def betB (F : FF) (x y : Nat) : Bool := decide (F 1 x < F 1 y) || (F 1 x == F 1 y && decide (F 0 y < F 0 x))
def vbN (F : FF) (rr : Nat → Nat) (al : Bool) : Nat → Nat
  | 0 => 8
  | k + 1 => if (al || !spB F (rr k)) = true ∧ (vbN F rr al k = 8 ∨ betB F (rr k) (vbN F rr al k) = true) then rr k else vbN F rr al k
theorem vbN_le {F : FF} {rr : Nat → Nat} {al : Bool} {m : Nat} (hr : ∀ j, j < m → rr j < 8) : ∀ {k : Nat}, k ≤ m → vbN F rr al k ≤ 8
  | 0, _ => Nat.le_refl _
  | k + 1, h => by
    rw [vbN]; split
    · exact Nat.le_of_lt (hr k (by omega))
    · exact vbN_le hr (by omega)
theorem bet_i {F : FF} {x y : Nat} : betB F x y = true ↔ (F 1 x).toInt < (F 1 y).toInt ∨ ((F 1 x).toInt = (F 1 y).toInt ∧ (F 0 y).toInt < (F 0 x).toInt) := by
  rw [betB, Bool.or_eq_true, Bool.and_eq_true, decide_eq_true_iff, decide_eq_true_iff, beq_iff_eq, Int32.lt_iff_toInt_lt, Int32.lt_iff_toInt_lt, ← Int32.toInt_inj]
theorem gbB_i {F : FF} {x y : Nat} : gbB F x y = true ↔ (spB F x).toNat < (spB F y).toNat ∨ ((spB F x).toNat = (spB F y).toNat ∧ betB F x y = true) := by
  rw [bet_i, gbB]
  by_cases h : spB F x = spB F y
  · rw [if_neg (by simp [h]), h]
    by_cases h1 : F 1 x = F 1 y
    · rw [if_pos h1, h1]
      have : (!decide (F 0 x ≤ F 0 y)) = true ↔ (F 0 y).toInt < (F 0 x).toInt := by
        rw [Bool.not_eq_true', decide_eq_false_iff_not, Int32.not_le, Int32.lt_iff_toInt_lt]
      rw [this]; omega
    · rw [if_neg h1]
      have : (!decide (F 1 y ≤ F 1 x)) = true ↔ (F 1 x).toInt < (F 1 y).toInt := by
        rw [Bool.not_eq_true', decide_eq_false_iff_not, Int32.not_le, Int32.lt_iff_toInt_lt]
      rw [this]
      have h2 : ¬ (F 1 x).toInt = (F 1 y).toInt := fun q => h1 (Int32.toInt_inj.mp q)
      omega
  · rw [if_pos h]
    cases hx : spB F x <;> cases hy : spB F y <;> simp_all
/-- no two that are begun have one birth -/
def JB (F : FF) : Prop := ∀ x, x < 8 → ∀ y, y < 8 → ¬ F 0 x = -1 → F 0 x = F 0 y → x = y
theorem cvB_ch {F : FF} {S : Nat} : ∀ {n : Nat}, n ≤ 8 → (cvB F S n = 8 ∧ ∀ i, i < n → ¬ S.testBit i = true) ∨ (cvB F S n < n ∧ S.testBit (cvB F S n) = true ∧ ∀ i, i < n → S.testBit i = true → ¬ gbB F i (cvB F S n) = true)
  | 0, _ => Or.inl ⟨rfl, fun i h => absurd h (Nat.not_lt_zero _)⟩
  | n + 1, hn => by
    by_cases h : S.testBit n = true ∧ (cvB F S n = 8 ∨ gbB F n (cvB F S n) = true)
    · rw [cvB, if_pos h]
      refine Or.inr ⟨Nat.lt_succ_self _, h.1, fun i hi hS => ?_⟩
      by_cases e : i = n
      · subst e; rw [gbB_i, bet_i]; omega
      · rcases cvB_ch (F := F) (S := S) (n := n) (by omega) with q | q
        · exact absurd hS (q.2 i (by omega))
        · have h1 := q.2.2 i (by omega) hS
          rcases h.2 with z | z
          · omega
          · rw [gbB_i, bet_i] at h1 z ⊢; omega
    · rw [cvB, if_neg h]
      rcases cvB_ch (F := F) (S := S) (n := n) (by omega) with q | q
      · refine Or.inl ⟨q.1, fun i hi hS => ?_⟩
        by_cases e : i = n
        · subst e; exact h ⟨hS, Or.inl q.1⟩
        · exact q.2 i (by omega) hS
      · refine Or.inr ⟨by omega, q.2.1, fun i hi hS => ?_⟩
        by_cases e : i = n
        · subst e; exact fun z => h ⟨hS, Or.inr z⟩
        · exact q.2.2 i (by omega) hS
theorem vbN_ch {F : FF} {rr : Nat → Nat} {al : Bool} {m : Nat} (hr : ∀ j, j < m → rr j < 8) : ∀ {k : Nat}, k ≤ m → (vbN F rr al k = 8 ∧ ∀ j, j < k → ¬ (al || !spB F (rr j)) = true) ∨ ((∃ j, j < k ∧ vbN F rr al k = rr j ∧ (al || !spB F (rr j)) = true) ∧ ∀ j, j < k → (al || !spB F (rr j)) = true → ¬ betB F (rr j) (vbN F rr al k) = true)
  | 0, _ => Or.inl ⟨rfl, fun i h => absurd h (Nat.not_lt_zero _)⟩
  | k + 1, hk => by
    by_cases h : (al || !spB F (rr k)) = true ∧ (vbN F rr al k = 8 ∨ betB F (rr k) (vbN F rr al k) = true)
    · rw [vbN, if_pos h]
      refine Or.inr ⟨⟨k, Nat.lt_succ_self _, rfl, h.1⟩, fun j hj hc => ?_⟩
      by_cases e : j = k
      · subst e; rw [bet_i]; omega
      · rcases vbN_ch (F := F) (al := al) hr (k := k) (by omega) with q | q
        · exact absurd hc (q.2 j (by omega))
        · have h1 := q.2 j (by omega) hc
          obtain ⟨⟨i, hi, he, _⟩, _⟩ := q
          have hi8 := hr i (by omega)
          rcases h.2 with z | z
          · omega
          · rw [bet_i] at h1 z ⊢; omega
    · rw [vbN, if_neg h]
      rcases vbN_ch (F := F) (al := al) hr (k := k) (by omega) with q | q
      · refine Or.inl ⟨q.1, fun j hj hc => ?_⟩
        by_cases e : j = k
        · subst e; exact h ⟨hc, Or.inl q.1⟩
        · exact q.2 j (by omega) hc
      · obtain ⟨⟨i, hi, he, hc2⟩, q2⟩ := q
        refine Or.inr ⟨⟨i, by omega, he, hc2⟩, fun j hj hc => ?_⟩
        by_cases e : j = k
        · subst e; exact fun z => h ⟨hc, Or.inr z⟩
        · exact q2 j (by omega) hc
theorem alN_iff {p : Nat → Bool} : ∀ {n : Nat}, alN p n = true ↔ ∀ j, j < n → p j = true
  | 0 => by simp [alN]
  | n + 1 => by
    rw [alN, Bool.and_eq_true, alN_iff]
    refine ⟨fun h j hj => ?_, fun h => ⟨fun j hj => h j (by omega), h n (by omega)⟩⟩
    by_cases e : j = n
    · subst e; exact h.2
    · exact h.1 j (by omega)
theorem vic_eq {F : FF} {rr : Nat → Nat} {m S : Nat} (hr : ∀ j, j < m → rr j < 8) (hS : ∀ v, S.testBit v = true ↔ ∃ j, j < m ∧ rr j = v) (hm : 0 < m) (hB : ∀ x, S.testBit x = true → ∀ y, S.testBit y = true → F 0 x = F 0 y → x = y) : vbN F rr (alN (fun j => spB F (rr j)) m) m = cvB F S 8 := by
  obtain ⟨al, hal⟩ : ∃ al, al = alN (fun j => spB F (rr j)) m := ⟨_, rfl⟩
  rw [← hal]
  have hex : ∃ j, j < m ∧ (al || !spB F (rr j)) = true := by
    cases ha : al with
    | true => exact ⟨0, hm, rfl⟩
    | false =>
      refine Decidable.byContradiction (fun q => ?_)
      have : alN (fun j => spB F (rr j)) m = true := alN_iff.mpr (fun j hj => by
        cases hs : spB F (rr j) with
        | true => rfl
        | false => exact absurd ⟨j, hj, by rw [hs]; rfl⟩ q)
      rw [← hal, ha] at this; cases this
  rcases vbN_ch (F := F) (al := al) hr (k := m) (Nat.le_refl _) with q | ⟨⟨j0, hj0, he, hc0⟩, q⟩
  · obtain ⟨j, hj, hc⟩ := hex; exact absurd hc (q.2 j hj)
  · rw [he] at q ⊢
    have hb8 := hr j0 hj0
    have hbS : S.testBit (rr j0) = true := (hS _).mpr ⟨j0, hj0, rfl⟩
    have key : ∀ i, S.testBit i = true → ¬ gbB F i (rr j0) = true := fun i hi => by
      obtain ⟨j, hj, hji⟩ := (hS i).mp hi
      subst hji
      rw [gbB_i]
      by_cases hc : (al || !spB F (rr j)) = true
      · have h1 := q j hj hc
        cases ha : al with
        | true =>
          have h2 := alN_iff.mp (hal.symm.trans ha)
          have a1 := h2 j hj; have a2 := h2 j0 hj0
          rw [a1, a2]; simp [h1]
        | false =>
          rw [ha] at hc hc0
          have a1 : spB F (rr j) = false := by simpa using hc
          have a2 : spB F (rr j0) = false := by simpa using hc0
          rw [a1, a2]; simp [h1]
      · have a0 : al = false := by cases al; rfl; exact absurd rfl hc
        rw [a0] at hc hc0
        have a1 : spB F (rr j) = true := by simpa using hc
        have a2 : spB F (rr j0) = false := by simpa using hc0
        rw [a1, a2]; simp
    rcases cvB_ch (F := F) (S := S) (n := 8) (Nat.le_refl _) with c | c
    · exact absurd hbS (c.2 _ hb8)
    · have k1 := key _ c.2.1
      have k2 := c.2.2 _ hb8 hbS
      rw [gbB_i, bet_i] at k1 k2
      exact hB _ hbS _ c.2.1 (Int32.toInt_inj.mp (by omega))
/-- those of the ring all wait -/
theorem srL_w {F : FF} {Q : QQ} {s : Nat} (hs : s < 8) : ∀ n rg m, m < 8 → (∀ v, rg.testBit v = true → v < 8 ∧ ¬ aWS F Q v = 0) → ∀ v, (srL (aWS F Q) (dst F Q s 7) s n rg m).testBit v = true → v < 8 ∧ ¬ aWS F Q v = 0
  | 0, rg, m, _, _, v, hv => by rw [srL, Nat.zero_testBit] at hv; cases hv
  | n + 1, rg, m, hm, hrg, v, hv => by
    have hnz : ¬ (nrB (dst F Q s 7) (aWS F Q m) 8).1 = 8 → ¬ aWS F Q m = 0 := fun h e => by
      rcases nrB_ch (D := dst F Q s 7) (S := aWS F Q m) (n := 8) with r | r
      · exact h (by rw [r.1])
      · have := r.2.1; rw [e, Nat.zero_testBit] at this; cases this
    have hor : ¬ aWS F Q m = 0 → ∀ v, (rg ||| 2 ^ m).testBit v = true → v < 8 ∧ ¬ aWS F Q v = 0 := fun h v hv => by
      rw [Nat.testBit_or, Bool.or_eq_true, Nat.testBit_two_pow] at hv
      rcases hv with q | q
      · exact hrg v q
      · have := of_decide_eq_true q; subst this; exact ⟨hm, h⟩
    rw [srL] at hv
    split at hv
    · rename_i q; exact hor (hnz (by omega)) v hv
    · split at hv
      · rw [Nat.zero_testBit] at hv; cases hv
      · rename_i q
        have := (nrB_le (dst F Q s 7) (aWS F Q m) 8 (Nat.le_refl _)).1
        exact srL_w hs n _ _ (by omega) (hor (hnz q)) v hv
theorem SR_w {F : FF} {Q : QQ} {t v : Nat} (hJ : JJ F Q) (ht : t < 8) (h : (SRn F Q t).testBit v = true) : v < 8 ∧ ¬ F 3 v = -1 ∧ ¬ F 0 v = -1 := by
  obtain ⟨h1, h2⟩ := srL_w ht 8 0 t ht (fun v hv => by rw [Nat.zero_testBit] at hv; cases hv) v h
  have h3 : ¬ F 3 v = -1 := fun q => h2 (aw_none q)
  exact ⟨h1, h3, fun q => h3 (hJ.2.2.2.1 v h1 q)⟩
theorem vic_ring {F : FF} {Q : QQ} {t m : Nat} {y : Nat → Int32} {rr : Nat → Nat} (hJ : JJ F Q) (hB : JB F) (ht : t < 8) (hR : RG F Q t y m rr) (h0 : ¬ SRn F Q t = 0) : vbN F rr (alN (fun j => spB F (rr j)) m) m = vic F Q t := by
  have hS := hR.2.2 h0
  have hm : 0 < m := Decidable.byContradiction (fun q => h0 (Nat.eq_of_testBit_eq (fun i => by
    rw [Nat.zero_testBit]
    cases hi : (SRn F Q t).testBit i with
    | false => rfl
    | true => obtain ⟨j, hj, _⟩ := (hS i).mp hi; omega)))
  exact vic_eq (fun j hj => (hR.2.1 j hj).2) hS hm (fun x hx z hz e => hB x (SR_w hJ ht hx).1 z (SR_w hJ ht hz).1 (SR_w hJ ht hx).2.2 e)
theorem cvB_0 {F : FF} : ∀ n, cvB F 0 n = 8
  | 0 => rfl
  | n + 1 => by rw [cvB, if_neg (fun h => by rw [Nat.zero_testBit] at h; cases h.1), cvB_0 n]
theorem vic_n {F : FF} {Q : QQ} {t : Nat} (h : SRn F Q t = 0) : vic F Q t = 8 := by
  show cvB F (SRn F Q t) 8 = 8
  rw [h, cvB_0]
theorem vic_y {F : FF} {Q : QQ} {t : Nat} (hJ : JJ F Q) (ht : t < 8) (h : ¬ SRn F Q t = 0) : vic F Q t < 8 ∧ ¬ F 3 (vic F Q t) = -1 := by
  rcases cvB_ch (F := F) (S := SRn F Q t) (n := 8) (Nat.le_refl _) with c | c
  · refine absurd (Nat.eq_of_testBit_eq (fun i => ?_)) h
    rw [Nat.zero_testBit]
    cases hi : (SRn F Q t).testBit i with
    | false => rfl
    | true => exact absurd hi (c.2 i (SR_w hJ ht hi).1)
  · exact ⟨c.1, (SR_w hJ ht c.2.1).2.1⟩
theorem SR_none {F : FF} {Q : QQ} {t : Nat} (hJ : JJ F Q) (ht : t < 8) (h : F 3 t = -1) : SRn F Q t = 0 := by
  show srL (aWS F Q) (dst F Q t 7) t (7 + 1) 0 t = 0
  have e : (nrB (dst F Q t 7) (aWS F Q t) 8).1 = 8 := by
    rcases nrB_ch (D := dst F Q t 7) (S := aWS F Q t) (n := 8) with r | r
    · rw [r.1]
    · have := r.2.1; rw [aw_none h, Nat.zero_testBit] at this; cases this
  rw [srL, if_neg (by omega), if_pos e]
/-! what serving leaves -/
theorem sf_3 {F : FF} {Q : QQ} {x u : Nat} : sfF F Q x 3 u = F 3 u ∨ sfF F Q x 3 u = -1 := by
  cases hs : sfR F Q x with
  | false => rw [(sf_no hs).1]; exact Or.inl rfl
  | true =>
    rw [(sf_yes hs).1, gr_ne (by decide) (by decide), rmF_3]
    split
    · exact Or.inr rfl
    · exact Or.inl rfl
theorem sf_k {F : FF} {Q : QQ} {x k : Nat} (h1 : k ≠ 1) (h3 : k ≠ 3) (h5 : k ≠ 5) : sfF F Q x k = F k := by
  cases hs : sfR F Q x with
  | false => rw [(sf_no hs).1]
  | true => rw [(sf_yes hs).1, gr_ne h1 h5, rmF_ne h3]
/-- what each step of serving keeps, serving keeps -/
theorem srv_ind {P : FF → Prop} (hstep : ∀ F Q r, r < 10 → JJ F Q → P F → P (sfF F Q r)) {F : FF} {Q : QQ} (hJ : JJ F Q) (h : P F) : P (srvF F Q) := by
  have hN : ∀ r, r < 10 → ∀ n F Q, JJ F Q → P F → P (serN r n F Q).1 := fun r hr n => by
    induction n with
    | zero => intro F Q _ h; exact h
    | succ n ih =>
      intro F Q hJ h
      rw [serN]; split
      · exact ih _ _ (JJ_sf hJ hr) (hstep F Q r hr hJ h)
      · exact h
  have hA : ∀ k, k ≤ 10 → P (serA F Q k).1 := fun k => by
    induction k with
    | zero => intro _; exact h
    | succ k ih => intro hk; exact hN k (by omega) 8 _ _ (JJ_serA hJ k (by omega)) (ih (by omega))
  exact hA 10 (Nat.le_refl _)
theorem srv_k {F : FF} {Q : QQ} {k : Nat} (hJ : JJ F Q) (h1 : k ≠ 1) (h3 : k ≠ 3) (h5 : k ≠ 5) : srvF F Q k = F k :=
  srv_ind (P := fun G => G k = F k) (fun G Q r _ _ h => by rw [sf_k h1 h3 h5]; exact h) hJ rfl
theorem srv_3 {F : FF} {Q : QQ} {u : Nat} (hJ : JJ F Q) (h : F 3 u = -1) : srvF F Q 3 u = -1 :=
  srv_ind (P := fun G => G 3 u = -1) (fun G Q r _ _ h => by rcases sf_3 (F := G) (Q := Q) (x := r) (u := u) with q | q; exact q.trans h; exact q) hJ h
theorem sf_free {F : FF} {Q : QQ} {x t r : Nat} {c : Int32} (hJ : JJ F Q) (hx : x < 10) (hr : r < 10) (h : F 3 t = -1 ∧ lk F t r = c) : sfF F Q x 3 t = -1 ∧ lk (sfF F Q x) t r = c := by
  cases hs : sfR F Q x with
  | false => rw [(sf_no hs).1]; exact h
  | true =>
    have hq : 0 < qlen Q x := Decidable.byContradiction (fun q => by rw [sf_emp q] at hs; cases hs)
    have ho := (hJ.2.1 x hx _ (JJ_at hJ hx hq)).2
    have hne : ¬ t = (Q x).getD 0 0 := fun e => by rw [← e, h.1] at ho; exact m1_nI (by omega) ho.symm
    rw [(sf_yes hs).1, gr_ne (by decide) (by decide), rmF_3, if_neg hne, lk_gr hx hr, if_neg (fun q => hne q.1), lk_rm]
    exact h
theorem sf_wait {F : FF} {Q : QQ} {x t r : Nat} {c : Int32} (hJ : JJ F Q) (hx : x < 10) (hr : r < 10) (h : (F 3 t = nI r ∧ F 4 t = c) ∨ (F 3 t = -1 ∧ lk F t r = c)) : (sfF F Q x 3 t = nI r ∧ sfF F Q x 4 t = c) ∨ (sfF F Q x 3 t = -1 ∧ lk (sfF F Q x) t r = c) := by
  rcases h with h | h
  · cases hs : sfR F Q x with
    | false => rw [(sf_no hs).1]; exact Or.inl h
    | true =>
      have hq : 0 < qlen Q x := Decidable.byContradiction (fun q => by rw [sf_emp q] at hs; cases hs)
      have ho := (hJ.2.1 x hx _ (JJ_at hJ hx hq)).2
      rw [(sf_yes hs).1, gr_ne (by decide) (by decide), gr_ne (by decide) (by decide), rmF_3, rmF_ne (show 4 ≠ 3 by decide), lk_gr hx hr]
      by_cases e : t = (Q x).getD 0 0
      · rw [← e] at ho ⊢
        have hxr : r = x := nI_inj (by omega) (by omega) (h.1.symm.trans ho)
        rw [if_pos rfl, if_pos ⟨rfl, hxr⟩]
        exact Or.inr ⟨rfl, h.2⟩
      · rw [if_neg e]; exact Or.inl h
  · exact Or.inr (sf_free hJ hx hr h)
theorem srv_free {F : FF} {Q : QQ} {t r : Nat} {c : Int32} (hJ : JJ F Q) (hr : r < 10) (h : F 3 t = -1 ∧ lk F t r = c) : srvF F Q 3 t = -1 ∧ lk (srvF F Q) t r = c :=
  srv_ind (P := fun G => G 3 t = -1 ∧ lk G t r = c) (fun G Q x hx hJ h => sf_free hJ hx hr h) hJ h
theorem srv_wait {F : FF} {Q : QQ} {t r : Nat} {c : Int32} (hJ : JJ F Q) (hr : r < 10) (h : (F 3 t = nI r ∧ F 4 t = c) ∨ (F 3 t = -1 ∧ lk F t r = c)) : (srvF F Q 3 t = nI r ∧ srvF F Q 4 t = c) ∨ (srvF F Q 3 t = -1 ∧ lk (srvF F Q) t r = c) :=
  srv_ind (P := fun G => (G 3 t = nI r ∧ G 4 t = c) ∨ (G 3 t = -1 ∧ lk G t r = c)) (fun G Q x hx hJ h => sf_wait hJ hx hr h) hJ h
/-! an abort -/
theorem ab_k {F : FF} {v k : Nat} (h1 : k ≠ 1) (h2 : k ≠ 2) (h3 : k ≠ 3) (h5 : k ≠ 5) (h8 : k ≠ 8) : abF F v k = F k := by
  rw [abF, up_ne h2, up_ne h1, up_ne h8, up_ne h8, rel_ne h5, rmF_ne h3]
theorem ab_3 {F : FF} {v u : Nat} : abF F v 3 u = if u = v then -1 else F 3 u := by
  rw [abF, up_ne (by decide), up_ne (by decide), up_ne (by decide), up_ne (by decide), rel_ne (by decide), rmF_3]
theorem ab_lk {F : FF} {v u r : Nat} (hr : r < 10) : lk (abF F v) u r = if u = v then 0 else lk F u r := by
  have : lk (abF F v) u r = lk (relF (rmF F v) v) u r := by
    rw [lk, lk, abF, up_ne (by decide), up_ne (by decide), up_ne (by decide), up_ne (by decide)]
  rw [this, lk_rel hr, lk_rm]
/-! how many wait -/
def nW (F : FF) : Nat → Nat
  | 0 => 0
  | n + 1 => nW F n + (if F 3 n = -1 then 0 else 1)
theorem nW_le {F : FF} : ∀ n, nW F n ≤ n
  | 0 => Nat.le_refl _
  | n + 1 => by have := nW_le (F := F) n; rw [nW]; split <;> omega
theorem nW_mono {F G : FF} (h : ∀ u, F 3 u = -1 → G 3 u = -1) : ∀ n, nW G n ≤ nW F n
  | 0 => Nat.le_refl _
  | n + 1 => by
    have := nW_mono h n
    rw [nW, nW]
    by_cases e : F 3 n = -1
    · rw [if_pos e, if_pos (h n e)]; omega
    · rw [if_neg e]; split <;> omega
theorem nW_lt {F G : FF} {v : Nat} (h : ∀ u, F 3 u = -1 → G 3 u = -1) (hv : ¬ F 3 v = -1) (hg : G 3 v = -1) : ∀ n, v < n → nW G n + 1 ≤ nW F n
  | 0, hn => absurd hn (Nat.not_lt_zero _)
  | n + 1, hn => by
    rw [nW, nW]
    by_cases e : v = n
    · subst e
      have := nW_mono h v
      rw [if_pos hg, if_neg hv]; omega
    · have := nW_lt h hv hg n (by omega)
      by_cases q : F 3 n = -1
      · rw [if_pos q, if_pos (h n q)]; omega
      · rw [if_neg q]; split <;> omega
theorem nW_br {F : FF} {Q : QQ} {v : Nat} (hJ : JJ F Q) (hv8 : v < 8) (hv : ¬ F 3 v = -1) : nW (srvF (abF F v) (rmQ F Q v)) 8 + 1 ≤ nW F 8 :=
  nW_lt (fun u hu => srv_3 (JJ_ab hJ hv8) (by rw [ab_3]; split; rfl; exact hu)) hv (srv_3 (JJ_ab hJ hv8) (by rw [ab_3, if_pos rfl])) 8 hv8
theorem JB_br {F : FF} {Q : QQ} {v : Nat} (hJ : JJ F Q) (hv : v < 8) (hB : JB F) : JB (srvF (abF F v) (rmQ F Q v)) := by
  have e : srvF (abF F v) (rmQ F Q v) 0 = F 0 := by
    rw [srv_k (JJ_ab hJ hv) (by decide) (by decide) (by decide), ab_k (by decide) (by decide) (by decide) (by decide) (by decide)]
  unfold JB; rw [e]; exact hB
/-! the reference's abort -/
theorem JJ_8 {F : FF} {Q : QQ} {k : Nat} {v : Int32} (h : JJ F Q) : JJ (up F 8 k v) Q := by
  have fl : ∀ u x, lk (up F 8 k v) u x = lk F u x := fun u x => by rw [lk, up_ne (by decide), lk]
  obtain ⟨a1, a2, a3, a4, a5, a6, a7⟩ := h
  refine ⟨a1, fun x hx y hy => by rw [up_ne (by decide)]; exact a2 x hx y hy, fun u hu => by rw [up_ne (by decide)]; exact a3 u hu, fun u hu hu0 => ?_, fun u hu x hx => by rw [fl]; exact a5 u hu x hx, fun x hx y hy => by rw [up_ne (by decide), fl]; exact a6 x hx y hy, fun x hx => ?_⟩
  · rw [up_ne (by decide)] at hu0 ⊢; exact a4 u hu hu0
  · have e : (fun y z => lk (up F 8 k v) z x = nI 1 → lk (up F 8 k v) y x = nI 1) = (fun y z => lk F z x = nI 1 → lk F y x = nI 1) := by
      funext y z; rw [fl, fl]
    rw [e]; exact a7 x hx
theorem RZ_u8 {F : FF} {Q : QQ} {z : Nat → Int32} {k : Nat} {v : Int32} (hJ : JJ F Q) (h : RZ F Q z) (hk : k < 3) : RZ (up F 8 k v) Q (upd z (218 + k) v) :=
  ⟨ZA_fr h.1 (fun j hj => pk_un (by omega)) (fun j hj => up_ne (by omega)), ZL_fr h.2.1 (fun j h1 h2 => pk_un (by omega)) (up_ne (by decide)), ZN_fr h.2.2.1 (fun j h1 h2 => pk_un (by omega)), ZQ_fr h.2.2.2.1 (fun r hr => JJ_len hJ hr) (fun j h1 h2 => pk_un (by omega)), fun i hi => by
    by_cases e : i = k
    · rw [e, pk_us, up_eq, pk_us]
    · rw [pk_un (by omega), up_eq, pk_un e]; exact h.2.2.2.2 i hi⟩
/-- works (w = 1) and aborts (w = 2) -/
theorem RZ_uw {F : FF} {Q : QQ} {z : Nat → Int32} {w t : Nat} {v : Int32} (hJ : ∀ r, r < 10 → qlen Q r ≤ 8) (h : RZ F Q z) (ht : t < 8) (hw : w = 1 ∨ w = 2) : RZ (up F w t v) Q (upd z (6 * t + w) v) := by
  have n0 : (0 : Nat) ≠ w := by omega
  have n3 : (3 : Nat) ≠ w := by omega
  have n4 : (4 : Nat) ≠ w := by omega
  refine ⟨fun u hu x hx => ?_, ZL_fr h.2.1 (fun j h1 h2 => pk_un (by omega)) (up_ne (by omega)), ZN_fr h.2.2.1 (fun j h1 h2 => pk_un (by omega)), ZQ_fr h.2.2.2.1 hJ (fun j h1 h2 => pk_un (by omega)), ZS_fr h.2.2.2.2 (fun j h1 h2 => pk_un (by omega)) (up_ne (by omega))⟩
  by_cases e : 6 * u + x = 6 * t + w
  · have e1 : u = t := by omega
    have e2 : x = w := by omega
    subst e1; subst e2
    rw [pk_us]
    rcases hw with q | q
    · subst q; show v = up F 1 u v 1 u; rw [up_ap, if_pos ⟨rfl, rfl⟩]
    · subst q; show v = up F 2 u v 2 u; rw [up_ap, if_pos ⟨rfl, rfl⟩]
  · rw [pk_un e, h.1 u hu x hx]
    match x with
    | 0 => simp only [cA, stI, up_ne n0, up_ne n3]
    | 1 => show F 1 u = up F w t v 1 u; rw [up_ap, if_neg (by omega)]
    | 2 => show F 2 u = up F w t v 2 u; rw [up_ap, if_neg (by omega)]
    | 3 => simp only [cA, up_ne n0]
    | 4 => simp only [cA, up_ne n3]
    | _ + 5 => simp only [cA, mdZ, up_ne n3, up_ne n4]
/-- the books of an abort -/
def bkF (F : FF) (v : Nat) : FF := up (up F 8 1 (F 8 1 + nI 1)) 8 2 (F 8 2 + F 1 v)
theorem bk_ne {F : FF} {v k : Nat} (h : k ≠ 8) : bkF F v k = F k := by rw [bkF, up_ne h, up_ne h]
theorem bk_rmQ {F : FF} {Q : QQ} {v : Nat} : rmQ (bkF F v) Q v = rmQ F Q v := by
  rw [rmQ, rmQ, wr, wr, bk_ne (by decide)]
theorem bk_ab {F : FF} {v : Nat} : up (up (relF (rmF (bkF F v) v) v) 1 v (nI 0)) 2 v (relF (rmF (bkF F v) v) v 2 v + nI 1) = abF F v := by
  funext k u
  have e3 : bkF F v 3 v = F 3 v := by rw [bk_ne (by decide)]
  have r2 : relF (rmF (bkF F v) v) v 2 v = F 2 v := by rw [rel_ne (by decide), rmF_ne (by decide), bk_ne (by decide)]
  rw [r2, abF, up_ap, up_ap, up_ap, up_ap, up_ap, up_ap]
  by_cases h2 : k = 2 ∧ u = v
  · rw [if_pos h2, if_pos h2]
  rw [if_neg h2, if_neg h2]
  by_cases h1 : k = 1 ∧ u = v
  · rw [if_pos h1, if_pos h1]
  rw [if_neg h1, if_neg h1]
  by_cases h8 : k = 8
  · subst h8
    rw [rel_ne (by decide), rmF_ne (by decide), rel_ne (by decide), rmF_ne (by decide), bkF, up_ap, up_ap]
  · rw [if_neg (fun q => h8 q.1), if_neg (fun q => h8 q.1)]
    by_cases h5 : k = 5
    · subst h5
      show relU (rmF (bkF F v) v 5) v 10 u = relU (rmF F v 5) v 10 u
      rw [rmF_ne (by decide), rmF_ne (by decide), bk_ne (by decide)]
    · rw [rel_ne h5, rel_ne h5]
      by_cases h3 : k = 3
      · subst h3; rw [rmF_3, rmF_3, bk_ne (by decide)]
      · rw [rmF_ne h3, rmF_ne h3, bk_ne h8]
theorem RZ_bk {F : FF} {Q : QQ} {z : Nat → Int32} {v : Nat} (hJ : JJ F Q) (h : RZ F Q z) (hv : v < 8) : RZ (bkF F v) Q (upd (upd z 219 (z 219 + nI 1)) 220 (upd z 219 (z 219 + nI 1) 220 + upd z 219 (z 219 + nI 1) (6 * v + 1))) := by
  have h1 := RZ_u8 (k := 1) (v := F 8 1 + nI 1) hJ h (by decide)
  have e1 : z 219 = F 8 1 := h.2.2.2.2 1 (by decide)
  have e2 : z 220 = F 8 2 := h.2.2.2.2 2 (by decide)
  have e3 := RZ_1 h hv
  rw [e1, pk_un (by decide), pk_un (show 6 * v + 1 ≠ 219 by omega), e2, e3]
  exact RZ_u8 (k := 2) (JJ_8 hJ) h1 (by decide)
/-! what becomes of one that waits while rings are broken -/
theorem br_out {t r : Nat} {mo : Int32} (ht : t < 8) (hr : r < 10) : ∀ n {F : FF} {Q : QQ} {V : Nat}, JJ F Q → ((F 3 t = nI r ∧ F 4 t = mo ∧ ¬ V.testBit t = true) ∨ (F 3 t = -1 ∧ V.testBit t = true ∧ lk F t r = 0) ∨ (F 3 t = -1 ∧ ¬ V.testBit t = true ∧ lk F t r = mo)) →
    (((brS t n F Q V).1 3 t = nI r ∧ (brS t n F Q V).1 4 t = mo ∧ ¬ (brS t n F Q V).2.2.testBit t = true) ∨ ((brS t n F Q V).1 3 t = -1 ∧ (brS t n F Q V).2.2.testBit t = true ∧ lk (brS t n F Q V).1 t r = 0) ∨ ((brS t n F Q V).1 3 t = -1 ∧ ¬ (brS t n F Q V).2.2.testBit t = true ∧ lk (brS t n F Q V).1 t r = mo))
  | 0, _, _, _, _, h => h
  | n + 1, F, Q, V, hJ, h => by
    rw [brS]
    by_cases hv : vic F Q t = 8
    · rw [if_pos hv]; exact h
    · rw [if_neg hv]
      have hv8 : vic F Q t < 8 := by have := vic_le F Q t; omega
      have hJ2 := JJ_ab hJ hv8
      refine br_out ht hr n (JJ_srv hJ2) ?_
      rcases h with h | h | h
      · by_cases e : t = vic F Q t
        · have h1 := srv_free (c := 0) hJ2 hr ⟨by rw [ab_3, if_pos e], by rw [ab_lk hr, if_pos e]⟩
          refine Or.inr (Or.inl ⟨h1.1, ?_, h1.2⟩)
          rw [Nat.testBit_or, ← e, Nat.testBit_two_pow_self, Bool.or_true]
        · have h1 := srv_wait (c := mo) hJ2 hr (Or.inl ⟨by rw [ab_3, if_neg e]; exact h.1, by rw [ab_k (by decide) (by decide) (by decide) (by decide) (by decide)]; exact h.2.1⟩)
          have hb : ¬ (V ||| 2 ^ vic F Q t).testBit t = true := by
            rw [Nat.testBit_or, Nat.testBit_two_pow, Bool.or_eq_true]
            exact fun q => q.elim h.2.2 (fun z => e (of_decide_eq_true z).symm)
          rcases h1 with h1 | h1
          · exact Or.inl ⟨h1.1, h1.2, hb⟩
          · exact Or.inr (Or.inr ⟨h1.1, hb, h1.2⟩)
      · exact absurd (vic_n (SR_none hJ ht h.1)) hv
      · exact absurd (vic_n (SR_none hJ ht h.1)) hv
