/-! pure rows taken over from whole: queues, distances, victims, rings, counts -/
def mdZ (F : FF) (t : Nat) : Int32 := if F 3 t = -1 then 0 else F 4 t
def cA (F : FF) (t : Nat) : Nat → Int32
  | 0 => stI F t
  | 1 => F 1 t
  | 2 => F 2 t
  | 3 => F 0 t
  | 4 => F 3 t
  | _ => mdZ F t
def ZA (F : FF) (z : Nat → Int32) : Prop := ∀ t, t < 8 → ∀ w, w < 6 → z (6 * t + w) = cA F t w
def ZL (F : FF) (z : Nat → Int32) : Prop := ∀ t, t < 8 → ∀ r, r < 10 → z (48 + 10 * t + r) = lk F t r
def ZN (Q : QQ) (z : Nat → Int32) : Prop := ∀ r, r < 10 → z (128 + 9 * r) = nI (qlen Q r)
def ZQ (Q : QQ) (z : Nat → Int32) : Prop := ∀ r, r < 10 → ∀ i, i < qlen Q r → z (128 + 9 * r + 1 + i) = nI ((Q r).getD i 0)
def ZS (F : FF) (z : Nat → Int32) : Prop := ∀ k, k < 3 → z (218 + k) = F 8 k
def RZ (F : FF) (Q : QQ) (z : Nat → Int32) : Prop := ZA F z ∧ ZL F z ∧ ZN Q z ∧ ZQ Q z ∧ ZS F z
theorem mdZ_w {F : FF} {t : Nat} (h : ¬ F 3 t = -1) : mdZ F t = F 4 t := if_neg h
theorem mdZ_n {F : FF} {t : Nat} (h : F 3 t = -1) : mdZ F t = 0 := if_pos h
theorem ZA_fr {F F' : FF} {z z' : Nat → Int32} (h : ZA F z) (hz : ∀ j, j < 48 → z' j = z j) (hF : ∀ k, k < 5 → F' k = F k) : ZA F' z' := fun t ht w hw => by
  rw [hz _ (by omega), h t ht w hw]
  have e0 := hF 0 (by decide); have e1 := hF 1 (by decide); have e2 := hF 2 (by decide); have e3 := hF 3 (by decide); have e4 := hF 4 (by decide)
  match w with
  | 0 => simp only [cA, stI, e0, e3]
  | 1 => simp only [cA, e1]
  | 2 => simp only [cA, e2]
  | 3 => simp only [cA, e0]
  | 4 => simp only [cA, e3]
  | _ + 5 => simp only [cA, mdZ, e3, e4]
theorem up_ap {F : FF} {k i k' j : Nat} {v : Int32} : up F k i v k' j = if k' = k ∧ j = i then v else F k' j := by
  unfold up
  by_cases h : k' = k
  · subst h
    rw [if_pos rfl]
    by_cases hj : j = i
    · subst hj; rw [pk_us, if_pos ⟨rfl, rfl⟩]
    · rw [pk_un hj, if_neg (fun q => hj q.2)]
  · rw [if_neg h, if_neg (fun q => h q.1)]
theorem ix_ne {x t : Nat} {l : List Nat} (h : x ≠ t) : (x :: l).idxOf t = l.idxOf t + 1 := by
  rw [List.idxOf_cons, beq_false_of_ne h]; rfl
theorem ix_at {l : List Nat} {t i : Nat} (hi : i < l.length) (h : l.getD i 0 = t) (hb : ∀ j, j < i → l.getD j 0 ≠ t) : i = l.idxOf t := by
  induction l generalizing i with
  | nil => exact absurd hi (Nat.not_lt_zero _)
  | cons x l ih =>
    cases i with
    | zero =>
      have : x = t := h
      rw [this, List.idxOf_cons_self]
    | succ i =>
      have hx : x ≠ t := hb 0 (by omega)
      rw [ix_ne hx, ← ih (by simpa using hi) (by simpa using h) (fun j hj => by simpa using hb (j + 1) (by omega))]
theorem ix_lt {l : List Nat} {t i : Nat} (hm : t ∈ l) (hb : ∀ j, j < i → l.getD j 0 ≠ t) : i < l.length := by
  rcases Nat.lt_or_ge i l.length with h | h
  · exact h
  · obtain ⟨j, hj, he⟩ := List.mem_iff_getElem.mp hm
    refine absurd ?_ (hb j (by omega))
    rw [List.getD_eq_getElem?_getD, List.getElem?_eq_getElem hj]; exact he
theorem flt_at {t : Nat} : ∀ {l : List Nat} {i : Nat}, l.Nodup → t ∈ l → (fltQ l t).length + 1 = l.length ∧ (fltQ l t).getD i 0 = if i < l.idxOf t then l.getD i 0 else l.getD (i + 1) 0
  | [], _, _, hm => by cases hm
  | x :: l, i, hd, hm => by
    have hd2 := List.nodup_cons.mp hd
    by_cases hx : x = t
    · subst hx
      have e : fltQ (x :: l) x = l := by
        unfold fltQ
        rw [List.filter_cons_of_neg (by simp)]
        exact List.filter_eq_self.mpr (fun y hy => by
          have : y ≠ x := fun e => hd2.1 (e ▸ hy)
          simpa using this)
      rw [e, List.idxOf_cons_self, if_neg (Nat.not_lt_zero _)]
      exact ⟨rfl, by simp⟩
    · have hm2 : t ∈ l := by
        rcases List.mem_cons.mp hm with q | q
        · exact absurd q.symm hx
        · exact q
      have e : fltQ (x :: l) t = x :: fltQ l t := by
        unfold fltQ
        rw [List.filter_cons_of_pos (by simpa using hx)]
      obtain ⟨h1, _⟩ := flt_at (i := 0) hd2.2 hm2
      rw [e, ix_ne hx]
      refine ⟨by simpa using h1, ?_⟩
      cases i with
      | zero => rw [if_pos (by omega)]; rfl
      | succ i =>
        have h2 := (flt_at (i := i) hd2.2 hm2).2
        rw [List.getD_cons_succ, h2, List.getD_cons_succ, List.getD_cons_succ]
        by_cases hc : i < l.idxOf t
        · rw [if_pos hc, if_pos (by omega)]
        · rw [if_neg hc, if_neg (by omega)]
def alN (p : Nat → Bool) : Nat → Bool
  | 0 => true
  | n + 1 => alN p n && p n
theorem alN_bits {p : Nat → Bool} : ∀ n, alN (fun u => !p u) n = (bits p n == 0)
  | 0 => rfl
  | n + 1 => by
    rw [alN, alN_bits n, bits]
    cases h : p n with
    | true => simp
    | false => simp
theorem st_w {F : FF} {Q : QQ} {t : Nat} (hJ : JJ F Q) (ht : t < 8) : stI F t = nI 2 ↔ ¬ F 3 t = -1 := by
  rw [st_2]
  exact ⟨fun h => h.2, fun h => ⟨fun q => h (hJ.2.2.2.1 t ht q), h⟩⟩
theorem JJ_in {F : FF} {Q : QQ} {t r : Nat} (hJ : JJ F Q) (ht : t < 8) (hr : r < 10) (h3 : F 3 t = nI r) : t ∈ Q r := by
  rcases hJ.2.2.1 t ht with h | ⟨x, hx, h, hm⟩
  · rw [h3] at h; exact absurd h (m1_nI (by omega))
  · rw [h3] at h
    rw [nI_inj (by omega) (by omega) h]; exact hm
theorem JJ_nin1 {F : FF} {Q : QQ} {t r : Nat} (hJ : JJ F Q) (ht : t < 8) (hr : r < 10) (h : ¬ stI F t = nI 2) : ¬ t ∈ Q r := fun hm => by
  have := (hJ.2.1 r hr t hm).2
  exact h ((st_w hJ ht).mpr (by rw [this]; exact m1_nI (by omega)))
theorem JJ_nin2 {F : FF} {Q : QQ} {t r : Nat} (hJ : JJ F Q) (hr : r < 10) (h : ¬ F 3 t = nI r) : ¬ t ∈ Q r := fun hm => h (hJ.2.1 r hr t hm).2
theorem tw_mem {t u : Nat} : ∀ {l : List Nat}, t ∈ l → (u ∈ l.takeWhile (fun x => decide (x ≠ t)) ↔ u ∈ l ∧ l.idxOf u < l.idxOf t)
  | [], h => by cases h
  | x :: l, h => by
    by_cases hx : x = t
    · subst hx
      rw [List.takeWhile_cons_of_neg (by simp), List.idxOf_cons_self]
      simp
    · have hm : t ∈ l := by
        rcases List.mem_cons.mp h with q | q
        · exact absurd q.symm hx
        · exact q
      rw [List.takeWhile_cons_of_pos (by simpa using hx), ix_ne hx]
      by_cases hu : x = u
      · subst hu
        rw [List.idxOf_cons_self]; simp
      · rw [ix_ne hu, List.mem_cons, List.mem_cons, tw_mem hm]
        have : ¬ u = x := fun e => hu e.symm
        simp [this]
theorem awB_eq {F : FF} {Q : QQ} {t r u : Nat} (h : ¬ F 3 t = -1) (hw : wr F t = r) : awB F Q t u = (rivB F t r (F 4 t) u || ahB F Q t r u) := by
  simp [awB, h, hw]
theorem ahB_in {F : FF} {Q : QQ} {t r u : Nat} (hm : t ∈ Q r) : ahB F Q t r u = (decide (u ∈ Q r ∧ (Q r).idxOf u < (Q r).idxOf t) && (F 4 t == nI 2 || F 4 u == nI 2)) := by
  rw [ahB, decide_eq_decide.mpr (tw_mem hm)]
theorem awB_n {F : FF} {Q : QQ} {t u : Nat} (hJ : JJ F Q) (ht : t < 8) (h : ¬ stI F t = nI 2) : awB F Q t u = false := by
  have : F 3 t = -1 := Decidable.byContradiction (fun q => h ((st_w hJ ht).mpr q))
  simp [awB, this]
theorem awB_self {F : FF} {Q : QQ} {t : Nat} (hJ : JJ F Q) (ht : t < 8) : awB F Q t t = false := by
  by_cases h3 : F 3 t = -1
  · simp [awB, h3]
  · obtain ⟨r, hr, _, hw, hm⟩ := JJ_want hJ ht h3
    rw [awB_eq h3 hw, ahB_in hm, rivB]
    simp
theorem or_z (a : Nat) : nI a ||| nI 0 = nI a := by rw [or_nI, Nat.or_zero]
theorem sf_alN {F : FF} {Q : QQ} {r o : Nat} (ho : o = (Q r).getD 0 0) (hq : 0 < qlen Q r) {b : Bool} (h : alN (fun u => !rivB F o r (F 4 o) u) 8 = b) : sfR F Q r = b := by
  rw [sfR, ← ho, ← alN_bits, h]
  have : (qlen Q r == 0) = false := by simp; omega
  rw [this]; rfl
theorem qlen_rm {F : FF} {Q : QQ} {r o : Nat} (hJ : JJ F Q) (hr : r < 10) (hm : o ∈ Q r) : qlen (rmQ F Q o) r + 1 = qlen Q r := by
  have h3 := (hJ.2.1 r hr o hm).2
  have n3 : ¬ F 3 o = -1 := by rw [h3]; exact m1_nI (by omega)
  have hw : wr F o = r := by rw [wr, h3]; exact nI_clamp (by omega)
  rw [(rm_some n3 hw).2, qlen, qlen, updQ, if_pos rfl]
  exact (flt_at (i := 0) (hJ.1 r hr) hm).1
theorem sf_emp {F : FF} {Q : QQ} {r : Nat} (h : ¬ 0 < qlen Q r) : sfR F Q r = false := by
  have : (qlen Q r == 0) = true := by simp; omega
  rw [sfR, this]; rfl
theorem ws_ex {p q : Nat → Bool} : ¬ bits p 8 &&& bits q 8 = 0 ↔ ∃ u, u < 8 ∧ p u = true ∧ q u = true := by
  refine ⟨fun h => ?_, fun ⟨u, hu, h1, h2⟩ e => ?_⟩
  · refine Decidable.byContradiction (fun q2 => h (Nat.eq_of_testBit_eq (fun i => ?_)))
    rw [Nat.testBit_and, bits_tb, bits_tb, Nat.zero_testBit]
    cases hp : p i with
    | false => simp
    | true =>
      cases hq : q i with
      | false => simp
      | true =>
        by_cases hi : i < 8
        · exact absurd ⟨i, hi, hp, hq⟩ q2
        · simp [hi]
  · have := congrArg (fun x => x.testBit u) e
    simp only [Nat.testBit_and, bits_tb, Nat.zero_testBit, h1, h2, hu, decide_true, Bool.and_self] at this
    cases this
def exN (p : Nat → Bool) : Nat → Bool
  | 0 => false
  | n + 1 => exN p n || p n
theorem exN_iff {p : Nat → Bool} : ∀ {n : Nat}, exN p n = true ↔ ∃ u, u < n ∧ p u = true
  | 0 => by simp [exN]
  | n + 1 => by
    rw [exN, Bool.or_eq_true, exN_iff]
    refine ⟨fun h => ?_, fun ⟨u, hu, h⟩ => ?_⟩
    · rcases h with ⟨u, hu, h⟩ | h
      · exact ⟨u, by omega, h⟩
      · exact ⟨n, by omega, h⟩
    · by_cases e : u = n
      · subst e; exact Or.inr h
      · exact Or.inl ⟨u, by omega, h⟩
theorem dst_ex {F : FF} {Q : QQ} {s k t : Nat} : (¬ aWS F Q t &&& bits (fun u => dst F Q s k u == k) 8 = 0) ↔ exN (fun u => dst F Q s k u == k && awB F Q t u) 8 = true := by
  rw [aWS, ws_ex, exN_iff]
  refine ⟨fun ⟨u, hu, h1, h2⟩ => ⟨u, hu, by rw [h1, h2]; rfl⟩, fun ⟨u, hu, h⟩ => ⟨u, hu, ?_⟩⟩
  rw [Bool.and_eq_true] at h; exact ⟨h.2, h.1⟩
theorem dst_keep {F : FF} {Q : QQ} {s k t : Nat} (h : ¬ dst F Q s k t = 8) : dst F Q s (k + 1) t = dst F Q s k t := dst_n (fun q => h q.1)
theorem dst_keeps {F : FF} {Q : QQ} {s k t : Nat} (h : ¬ dst F Q s k t = 8) : ∀ n, dst F Q s (k + n) t = dst F Q s k t
  | 0 => rfl
  | n + 1 => by
    have e := dst_keeps h n
    rw [← Nat.add_assoc, dst_keep (by rw [e]; exact h), e]
theorem dst_up {F : FF} {Q : QQ} {s k t : Nat} : dst F Q s (k + 1) t = dst F Q s k t ∨ (dst F Q s (k + 1) t = k + 1 ∧ dst F Q s k t = 8 ∧ ∃ u, u < 8 ∧ dst F Q s k u = k ∧ awB F Q t u = true) := by
  by_cases h : dst F Q s k t = 8 ∧ ¬ aWS F Q t &&& bits (fun u => dst F Q s k u == k) 8 = 0
  · refine Or.inr ⟨dst_y h.1 h.2, h.1, ?_⟩
    obtain ⟨u, hu, h2⟩ := exN_iff.mp (dst_ex.mp h.2)
    rw [Bool.and_eq_true] at h2
    exact ⟨u, hu, beq_iff_eq.mp h2.1, h2.2⟩
  · exact Or.inl (dst_n h)
theorem dst_zero {F : FF} {Q : QQ} {s t : Nat} : ∀ k, dst F Q s k t = 0 ↔ t = s
  | 0 => by rw [dst]; split <;> simp_all
  | k + 1 => by
    rcases dst_up (F := F) (Q := Q) (s := s) (k := k) (t := t) with h | h
    · rw [h]; exact dst_zero k
    · refine ⟨fun q => by omega, fun q => ?_⟩
      have := (dst_zero (F := F) (Q := Q) k).mpr q
      omega
theorem dst_at {F : FF} {Q : QQ} {s v : Nat} : ∀ {k d : Nat}, dst F Q s k v = d → ¬ d = 8 → d ≤ k ∧ dst F Q s d v = d
  | 0, d, h, h8 => by
    rcases dst_le F Q s 0 v with q | q
    · have : d = 0 := by omega
      subst this; exact ⟨Nat.le_refl _, h⟩
    · omega
  | k + 1, d, h, h8 => by
    rcases dst_up (F := F) (Q := Q) (s := s) (k := k) (t := v) with q | q
    · rw [q] at h
      have := dst_at h h8
      exact ⟨by omega, this.2⟩
    · have : d = k + 1 := by omega
      subst this; exact ⟨Nat.le_refl _, h⟩
theorem dst_back {F : FF} {Q : QQ} {s u d : Nat} : ∀ {k : Nat}, k ≤ 7 → dst F Q s k u = d + 1 → ¬ d + 1 = 8 → ∃ v, v < 8 ∧ awB F Q u v = true ∧ dst F Q s k v = d
  | 0, _, h, _ => by
    rcases dst_le F Q s 0 u with q | q <;> omega
  | k + 1, hk, h, h8 => by
    rcases dst_up (F := F) (Q := Q) (s := s) (k := k) (t := u) with q | q
    · rw [q] at h
      obtain ⟨v, hv, h1, h2⟩ := dst_back (by omega) h h8
      have hdl := dst_lt F Q s (d := k) (by omega) u
      exact ⟨v, hv, h1, by rw [dst_keep (by rw [h2]; omega), h2]⟩
    · obtain ⟨q1, q2, v, hv, h1, h2⟩ := q
      have : d = k := by omega
      subst this
      exact ⟨v, hv, h2, by rw [dst_keep (by rw [h1]; omega), h1]⟩
theorem chain {f : Nat → Nat} : ∀ n : Nat, (∀ d, d < n → ∃ u, u < 8 ∧ f u = d) → ∃ l : List Nat, l.Nodup ∧ l.length = n ∧ ∀ x ∈ l, x < 8 ∧ f x < n
  | 0, _ => ⟨[], List.nodup_nil, rfl, fun x h => by cases h⟩
  | n + 1, h => by
    obtain ⟨l, h1, h2, h3⟩ := chain n (fun d hd => h d (by omega))
    obtain ⟨u, hu, hf⟩ := h n (by omega)
    refine ⟨u :: l, List.nodup_cons.mpr ⟨fun hm => ?_, h1⟩, by simp [h2], fun x hx => ?_⟩
    · have := (h3 u hm).2; omega
    · rcases List.mem_cons.mp hx with q | q
      · rw [q]; exact ⟨hu, by omega⟩
      · have := h3 x q; exact ⟨this.1, by omega⟩
theorem dst_all {F : FF} {Q : QQ} {s k : Nat} (hk : k ≤ 7) : ∀ {d : Nat}, (∃ u, u < 8 ∧ dst F Q s k u = d) → ¬ d = 8 → ∀ c, c ≤ d → ∃ u, u < 8 ∧ dst F Q s k u = c
  | 0, h, _, c, hc => by
    have : c = 0 := by omega
    subst this; exact h
  | d + 1, h, h8, c, hc => by
    by_cases e : c = d + 1
    · subst e; exact h
    · obtain ⟨u, hu, h1⟩ := h
      obtain ⟨v, hv, _, h2⟩ := dst_back hk h1 h8
      have h7 := dst_at h1 h8
      exact dst_all hk ⟨v, hv, h2⟩ (by omega) c (by omega)
theorem dst_pig {F : FF} {Q : QQ} {s k t v : Nat} (hk : k ≤ 7) (ht : t < 8) (h8 : dst F Q s k t = 8) (hv : v < 8) (hd : dst F Q s k v = k) : k < 7 := by
  refine Decidable.byContradiction (fun q => ?_)
  have hk7 : k = 7 := by omega
  subst hk7
  obtain ⟨l, h1, h2, h3⟩ := chain (f := dst F Q s 7) 8 (fun d hd2 => dst_all (Nat.le_refl _) ⟨v, hv, hd⟩ (by decide) d (by omega))
  have := pig 8 (t :: l) (List.nodup_cons.mpr ⟨fun hm => by have := (h3 t hm).2; omega, h1⟩) (fun x hx => by
    rcases List.mem_cons.mp hx with q2 | q2
    · rw [q2]; exact ht
    · exact (h3 x q2).1)
  simp [h2] at this
theorem dst_fwd {F : FF} {Q : QQ} {s u v : Nat} (hu : u < 8) (hv : v < 8) (hw : awB F Q u v = true) (h : dst F Q s 7 v < 8) : dst F Q s 7 u ≤ dst F Q s 7 v + 1 ∧ dst F Q s 7 u < 8 := by
  obtain ⟨h1, h2⟩ := dst_at (d := dst F Q s 7 v) rfl (by omega)
  obtain ⟨d, hd⟩ : ∃ d, d = dst F Q s 7 v := ⟨_, rfl⟩
  rw [← hd] at h1 h2 h ⊢
  have hdu : dst F Q s 7 u < 8 := by
    by_cases e : dst F Q s 7 u = 8
    · refine absurd ?_ (show ¬ (8 : Nat) = 8 + 0 + 1 by decide)
      have h7 : d = 7 ∨ d < 7 := by omega
      rcases h7 with q | q
      · subst q; exact absurd (dst_pig (Nat.le_refl _) hu e hv hd.symm) (by decide)
      · have e2 : dst F Q s (d + 1) u = 8 := Decidable.byContradiction (fun q2 => by
          have := dst_keeps q2 (7 - (d + 1))
          rw [show d + 1 + (7 - (d + 1)) = 7 by omega, e] at this
          exact q2 this.symm)
        have e3 : dst F Q s d u = 8 := Decidable.byContradiction (fun q2 => q2 (by rw [← dst_keep q2]; exact e2))
        have := dst_y e3 (dst_ex.mpr (exN_iff.mpr ⟨v, hv, by rw [h2, hw]; simp⟩))
        omega
    · have := dst_lt F Q s (d := 7) (by decide) u; omega
  refine ⟨?_, hdu⟩
  by_cases e : dst F Q s d u = 8
  · have h8 : d < 8 := h
    have e2 := dst_y e (dst_ex.mpr (exN_iff.mpr ⟨v, hv, by rw [h2, hw]; simp⟩))
    rcases Nat.lt_or_ge d 7 with q | q
    · have := dst_keeps (k := d + 1) (t := u) (F := F) (Q := Q) (s := s) (by omega) (7 - (d + 1))
      rw [show d + 1 + (7 - (d + 1)) = 7 by omega] at this
      omega
    · omega
  · have := dst_keeps e (7 - d)
    rw [show d + (7 - d) = 7 by omega] at this
    rcases dst_le F Q s d u with q | q
    · omega
    · exact absurd q e
theorem bI_neg {n : Nat} (h : n ≤ 8) : bI n < 0 ↔ n = 8 := by
  rw [bI]; split
  · rename_i q; simp only [q, iff_true]; decide
  · rename_i q
    refine ⟨fun r => absurd r ?_, fun r => absurd r q⟩
    exact Int32.not_lt.mpr (nI_pos' (by omega))
theorem nrB_ch {D : Nat → Nat} {S : Nat} : ∀ {n : Nat}, ((nrB D S n) = (8, 8) ∧ ∀ i, i < n → S.testBit i = true → 8 ≤ D i) ∨ ((nrB D S n).1 < n ∧ S.testBit (nrB D S n).1 = true ∧ (nrB D S n).2 = D (nrB D S n).1 ∧ D (nrB D S n).1 < 8 ∧ ∀ i, i < n → S.testBit i = true → D (nrB D S n).1 < D i ∨ (D (nrB D S n).1 = D i ∧ (nrB D S n).1 ≤ i))
  | 0 => Or.inl ⟨rfl, fun i h => absurd h (Nat.not_lt_zero _)⟩
  | n + 1 => by
    by_cases h : S.testBit n = true ∧ D n < (nrB D S n).2
    · rw [nrB_y h.1 h.2]
      refine Or.inr ⟨Nat.lt_succ_self _, h.1, rfl, ?_, fun i hi hS => ?_⟩
      · rcases nrB_ch (D := D) (S := S) (n := n) with q | q
        · rw [q.1] at h; exact h.2
        · have := q.2.2.1; have := q.2.2.2.1; have := h.2; show D n < 8; omega
      · show D n < D i ∨ (D n = D i ∧ n ≤ i)
        by_cases e : i = n
        · subst e; exact Or.inr ⟨rfl, Nat.le_refl _⟩
        · rcases nrB_ch (D := D) (S := S) (n := n) with q | q
          · have := q.2 i (by omega) hS
            rw [q.1] at h
            have := h.2
            exact Or.inl (by simp at this; omega)
          · have h1 := q.2.2.2.2 i (by omega) hS
            have h2 := q.2.2.1
            have h3 := h.2
            exact Or.inl (by omega)
    · rw [nrB_n h]
      rcases nrB_ch (D := D) (S := S) (n := n) with q | q
      · refine Or.inl ⟨q.1, fun i hi hS => ?_⟩
        by_cases e : i = n
        · subst e
          refine Decidable.byContradiction (fun z => h ⟨hS, ?_⟩)
          rw [q.1]; show D i < 8; omega
        · exact q.2 i (by omega) hS
      · refine Or.inr ⟨by omega, q.2.1, q.2.2.1, q.2.2.2.1, fun i hi hS => ?_⟩
        by_cases e : i = n
        · subst e
          have : ¬ D i < (nrB D S i).2 := fun z => h ⟨hS, z⟩
          have h2 := q.2.2.1
          have h1 := q.1
          omega
        · exact q.2.2.2.2 i (by omega) hS
def ndU (p : Nat → Bool) (x : Nat) : Nat → Nat
  | 0 => x
  | n + 1 => if p (7 - n) = true then 7 - n else ndU p x n
theorem ndU_ch {p : Nat → Bool} {x : Nat} : ∀ {n : Nat}, n ≤ 8 → (∃ i, 8 - n ≤ i ∧ i < 8 ∧ p i = true) → 8 - n ≤ ndU p x n ∧ ndU p x n < 8 ∧ p (ndU p x n) = true ∧ ∀ i, 8 - n ≤ i → i < 8 → p i = true → ndU p x n ≤ i
  | 0, _, ⟨i, h1, h2, _⟩ => by omega
  | n + 1, hn, ⟨i, h1, h2, h3⟩ => by
    by_cases h : p (7 - n) = true
    · rw [ndU, if_pos h]
      exact ⟨by omega, by omega, h, fun j a1 a2 a3 => by omega⟩
    · rw [ndU, if_neg h]
      have ne : ∀ j, p j = true → ¬ j = 7 - n := fun j hj e => h (e ▸ hj)
      have hi := ne i h3
      have q := ndU_ch (p := p) (x := x) (n := n) (by omega) ⟨i, by omega, h2, h3⟩
      exact ⟨by omega, q.2.1, q.2.2.1, fun j a1 a2 a3 => q.2.2.2 j (by have := ne j a3; omega) a2 a3⟩
theorem ndU_eq {F : FF} {Q : QQ} {s m d x : Nat} (hm : m < 8) (hd : dst F Q s 7 m = d + 1) (h8 : d + 1 < 8) : ndU (fun u => dst F Q s 7 u == d && awB F Q m u) x 8 = (nrB (dst F Q s 7) (aWS F Q m) 8).1 ∧ (nrB (dst F Q s 7) (aWS F Q m) 8).1 < 8 ∧ dst F Q s 7 (nrB (dst F Q s 7) (aWS F Q m) 8).1 = d := by
  obtain ⟨v, hv, hw, hdv⟩ := dst_back (Nat.le_refl _) hd (by omega)
  obtain ⟨_, a2, a3, a4⟩ := ndU_ch (p := fun u => dst F Q s 7 u == d && awB F Q m u) (x := x) (n := 8) (Nat.le_refl _) ⟨v, by omega, hv, by rw [hdv, hw]; simp⟩
  have hS : ∀ i, i < 8 → (aWS F Q m).testBit i = awB F Q m i := fun i hi => by rw [aWS, bits_tb]; simp [hi]
  generalize ndU (fun u => dst F Q s 7 u == d && awB F Q m u) x 8 = y at a2 a3 a4 ⊢
  rw [Bool.and_eq_true] at a3
  have b1 := beq_iff_eq.mp a3.1
  rcases nrB_ch (D := dst F Q s 7) (S := aWS F Q m) (n := 8) with r | r
  · have := r.2 v hv (by rw [hS v hv]; exact hw)
    omega
  · have c1 := dst_fwd (s := s) hm r.1 (by rw [← hS _ r.1]; exact r.2.1) r.2.2.2.1
    have c2 := r.2.2.2.2 y a2 (by rw [hS y a2]; exact a3.2)
    have c3 : dst F Q s 7 (nrB (dst F Q s 7) (aWS F Q m) 8).1 = d := by omega
    have c4 := a4 _ (by omega) r.1 (by rw [c3, ← hS _ r.1, r.2.1]; simp)
    exact ⟨by omega, r.1, c3⟩
theorem bI_nn {n : Nat} (h : n ≤ 8) : 0 ≤ bI n ↔ ¬ n = 8 := by
  rw [← Int32.not_lt, bI_neg h]
theorem bI_lt {a b : Nat} (ha : a < 8) (hb : b < 8) : bI a < bI b ↔ a < b := by
  rw [bI_some (by omega), bI_some (by omega), nI_ltI (by omega) (by omega)]
theorem aWS_tb {F : FF} {Q : QQ} {t i : Nat} (hi : i < 8) : (aWS F Q t).testBit i = awB F Q t i := by rw [aWS, bits_tb]; simp [hi]
theorem or_ne {R a : Nat} : ¬ R ||| 2 ^ a = 0 := fun h => by
  have := congrArg (fun x => x.testBit a) h
  simp [Nat.testBit_or, Nat.testBit_two_pow] at this
abbrev SRn (F : FF) (Q : QQ) (t : Nat) : Nat := srL (aWS F Q) (dst F Q t 7) t 8 0 t
def betB (F : FF) (x y : Nat) : Bool := decide (F 1 x < F 1 y) || (F 1 x == F 1 y && decide (F 0 y < F 0 x))
theorem bet_i {F : FF} {x y : Nat} : betB F x y = true ↔ (F 1 x).toInt < (F 1 y).toInt ∨ ((F 1 x).toInt = (F 1 y).toInt ∧ (F 0 y).toInt < (F 0 x).toInt) := by
  rw [betB, Bool.or_eq_true, Bool.and_eq_true, decide_eq_true_iff, decide_eq_true_iff, beq_iff_eq, Int32.lt_iff_toInt_lt, Int32.lt_iff_toInt_lt, ← Int32.toInt_inj]
theorem gbB_i {F : FF} {x y : Nat} : gbB F x y = true ↔ (spB F x).toNat < (spB F y).toNat ∨ ((spB F x).toNat = (spB F y).toNat ∧ betB F x y = true) := by
  rw [bet_i, gbB]
  by_cases h : spB F x = spB F y
  · rw [if_neg (by simp [h]), h]
    by_cases h1 : F 1 x = F 1 y
    · rw [if_pos h1, h1]
      have : (!decide (F 0 x ≤ F 0 y)) = true ↔ (F 0 y).toInt < (F 0 x).toInt := by
        rw [Bool.not_eq_true', decide_eq_false_iff_not, Int32.not_le, Int32.lt_iff_toInt_lt]
      rw [this]; omega
    · rw [if_neg h1]
      have : (!decide (F 1 y ≤ F 1 x)) = true ↔ (F 1 x).toInt < (F 1 y).toInt := by
        rw [Bool.not_eq_true', decide_eq_false_iff_not, Int32.not_le, Int32.lt_iff_toInt_lt]
      rw [this]
      have h2 : ¬ (F 1 x).toInt = (F 1 y).toInt := fun q => h1 (Int32.toInt_inj.mp q)
      omega
  · rw [if_pos h]
    cases hx : spB F x <;> cases hy : spB F y <;> simp_all
def JB (F : FF) : Prop := ∀ x, x < 8 → ∀ y, y < 8 → ¬ F 0 x = -1 → F 0 x = F 0 y → x = y
theorem cvB_ch {F : FF} {S : Nat} : ∀ {n : Nat}, n ≤ 8 → (cvB F S n = 8 ∧ ∀ i, i < n → ¬ S.testBit i = true) ∨ (cvB F S n < n ∧ S.testBit (cvB F S n) = true ∧ ∀ i, i < n → S.testBit i = true → ¬ gbB F i (cvB F S n) = true)
  | 0, _ => Or.inl ⟨rfl, fun i h => absurd h (Nat.not_lt_zero _)⟩
  | n + 1, hn => by
    by_cases h : S.testBit n = true ∧ (cvB F S n = 8 ∨ gbB F n (cvB F S n) = true)
    · rw [cvB, if_pos h]
      refine Or.inr ⟨Nat.lt_succ_self _, h.1, fun i hi hS => ?_⟩
      by_cases e : i = n
      · subst e; rw [gbB_i, bet_i]; omega
      · rcases cvB_ch (F := F) (S := S) (n := n) (by omega) with q | q
        · exact absurd hS (q.2 i (by omega))
        · have h1 := q.2.2 i (by omega) hS
          rcases h.2 with z | z
          · omega
          · rw [gbB_i, bet_i] at h1 z ⊢; omega
    · rw [cvB, if_neg h]
      rcases cvB_ch (F := F) (S := S) (n := n) (by omega) with q | q
      · refine Or.inl ⟨q.1, fun i hi hS => ?_⟩
        by_cases e : i = n
        · subst e; exact h ⟨hS, Or.inl q.1⟩
        · exact q.2 i (by omega) hS
      · refine Or.inr ⟨by omega, q.2.1, fun i hi hS => ?_⟩
        by_cases e : i = n
        · subst e; exact fun z => h ⟨hS, Or.inr z⟩
        · exact q.2.2 i (by omega) hS
theorem alN_iff {p : Nat → Bool} : ∀ {n : Nat}, alN p n = true ↔ ∀ j, j < n → p j = true
  | 0 => by simp [alN]
  | n + 1 => by
    rw [alN, Bool.and_eq_true, alN_iff]
    refine ⟨fun h j hj => ?_, fun h => ⟨fun j hj => h j (by omega), h n (by omega)⟩⟩
    by_cases e : j = n
    · subst e; exact h.2
    · exact h.1 j (by omega)
theorem srL_w {F : FF} {Q : QQ} {s : Nat} (hs : s < 8) : ∀ n rg m, m < 8 → (∀ v, rg.testBit v = true → v < 8 ∧ ¬ aWS F Q v = 0) → ∀ v, (srL (aWS F Q) (dst F Q s 7) s n rg m).testBit v = true → v < 8 ∧ ¬ aWS F Q v = 0
  | 0, rg, m, _, _, v, hv => by rw [srL, Nat.zero_testBit] at hv; cases hv
  | n + 1, rg, m, hm, hrg, v, hv => by
    have hnz : ¬ (nrB (dst F Q s 7) (aWS F Q m) 8).1 = 8 → ¬ aWS F Q m = 0 := fun h e => by
      rcases nrB_ch (D := dst F Q s 7) (S := aWS F Q m) (n := 8) with r | r
      · exact h (by rw [r.1])
      · have := r.2.1; rw [e, Nat.zero_testBit] at this; cases this
    have hor : ¬ aWS F Q m = 0 → ∀ v, (rg ||| 2 ^ m).testBit v = true → v < 8 ∧ ¬ aWS F Q v = 0 := fun h v hv => by
      rw [Nat.testBit_or, Bool.or_eq_true, Nat.testBit_two_pow] at hv
      rcases hv with q | q
      · exact hrg v q
      · have := of_decide_eq_true q; subst this; exact ⟨hm, h⟩
    rw [srL] at hv
    split at hv
    · rename_i q; exact hor (hnz (by omega)) v hv
    · split at hv
      · rw [Nat.zero_testBit] at hv; cases hv
      · rename_i q
        have := (nrB_le (dst F Q s 7) (aWS F Q m) 8 (Nat.le_refl _)).1
        exact srL_w hs n _ _ (by omega) (hor (hnz q)) v hv
theorem SR_w {F : FF} {Q : QQ} {t v : Nat} (hJ : JJ F Q) (ht : t < 8) (h : (SRn F Q t).testBit v = true) : v < 8 ∧ ¬ F 3 v = -1 ∧ ¬ F 0 v = -1 := by
  obtain ⟨h1, h2⟩ := srL_w ht 8 0 t ht (fun v hv => by rw [Nat.zero_testBit] at hv; cases hv) v h
  have h3 : ¬ F 3 v = -1 := fun q => h2 (aw_none q)
  exact ⟨h1, h3, fun q => h3 (hJ.2.2.2.1 v h1 q)⟩
theorem cvB_0 {F : FF} : ∀ n, cvB F 0 n = 8
  | 0 => rfl
  | n + 1 => by rw [cvB, if_neg (fun h => by rw [Nat.zero_testBit] at h; cases h.1), cvB_0 n]
theorem vic_n {F : FF} {Q : QQ} {t : Nat} (h : SRn F Q t = 0) : vic F Q t = 8 := by
  show cvB F (SRn F Q t) 8 = 8
  rw [h, cvB_0]
theorem vic_y {F : FF} {Q : QQ} {t : Nat} (hJ : JJ F Q) (ht : t < 8) (h : ¬ SRn F Q t = 0) : vic F Q t < 8 ∧ ¬ F 3 (vic F Q t) = -1 := by
  rcases cvB_ch (F := F) (S := SRn F Q t) (n := 8) (Nat.le_refl _) with c | c
  · refine absurd (Nat.eq_of_testBit_eq (fun i => ?_)) h
    rw [Nat.zero_testBit]
    cases hi : (SRn F Q t).testBit i with
    | false => rfl
    | true => exact absurd hi (c.2 i (SR_w hJ ht hi).1)
  · exact ⟨c.1, (SR_w hJ ht c.2.1).2.1⟩
theorem SR_none {F : FF} {Q : QQ} {t : Nat} (hJ : JJ F Q) (ht : t < 8) (h : F 3 t = -1) : SRn F Q t = 0 := by
  show srL (aWS F Q) (dst F Q t 7) t (7 + 1) 0 t = 0
  have e : (nrB (dst F Q t 7) (aWS F Q t) 8).1 = 8 := by
    rcases nrB_ch (D := dst F Q t 7) (S := aWS F Q t) (n := 8) with r | r
    · rw [r.1]
    · have := r.2.1; rw [aw_none h, Nat.zero_testBit] at this; cases this
  rw [srL, if_neg (by omega), if_pos e]
theorem sf_3 {F : FF} {Q : QQ} {x u : Nat} : sfF F Q x 3 u = F 3 u ∨ sfF F Q x 3 u = -1 := by
  cases hs : sfR F Q x with
  | false => rw [(sf_no hs).1]; exact Or.inl rfl
  | true =>
    rw [(sf_yes hs).1, gr_ne (by decide) (by decide), rmF_3]
    split
    · exact Or.inr rfl
    · exact Or.inl rfl
theorem sf_k {F : FF} {Q : QQ} {x k : Nat} (h1 : k ≠ 1) (h3 : k ≠ 3) (h5 : k ≠ 5) : sfF F Q x k = F k := by
  cases hs : sfR F Q x with
  | false => rw [(sf_no hs).1]
  | true => rw [(sf_yes hs).1, gr_ne h1 h5, rmF_ne h3]
theorem srv_ind {P : FF → Prop} (hstep : ∀ F Q r, r < 10 → JJ F Q → P F → P (sfF F Q r)) {F : FF} {Q : QQ} (hJ : JJ F Q) (h : P F) : P (srvF F Q) := by
  have hN : ∀ r, r < 10 → ∀ n F Q, JJ F Q → P F → P (serN r n F Q).1 := fun r hr n => by
    induction n with
    | zero => intro F Q _ h; exact h
    | succ n ih =>
      intro F Q hJ h
      rw [serN]; split
      · exact ih _ _ (JJ_sf hJ hr) (hstep F Q r hr hJ h)
      · exact h
  have hA : ∀ k, k ≤ 10 → P (serA F Q k).1 := fun k => by
    induction k with
    | zero => intro _; exact h
    | succ k ih => intro hk; exact hN k (by omega) 8 _ _ (JJ_serA hJ k (by omega)) (ih (by omega))
  exact hA 10 (Nat.le_refl _)
theorem srv_k {F : FF} {Q : QQ} {k : Nat} (hJ : JJ F Q) (h1 : k ≠ 1) (h3 : k ≠ 3) (h5 : k ≠ 5) : srvF F Q k = F k :=
  srv_ind (P := fun G => G k = F k) (fun G Q r _ _ h => by rw [sf_k h1 h3 h5]; exact h) hJ rfl
theorem srv_3 {F : FF} {Q : QQ} {u : Nat} (hJ : JJ F Q) (h : F 3 u = -1) : srvF F Q 3 u = -1 :=
  srv_ind (P := fun G => G 3 u = -1) (fun G Q r _ _ h => by rcases sf_3 (F := G) (Q := Q) (x := r) (u := u) with q | q; exact q.trans h; exact q) hJ h
theorem sf_free {F : FF} {Q : QQ} {x t r : Nat} {c : Int32} (hJ : JJ F Q) (hx : x < 10) (hr : r < 10) (h : F 3 t = -1 ∧ lk F t r = c) : sfF F Q x 3 t = -1 ∧ lk (sfF F Q x) t r = c := by
  cases hs : sfR F Q x with
  | false => rw [(sf_no hs).1]; exact h
  | true =>
    have hq : 0 < qlen Q x := Decidable.byContradiction (fun q => by rw [sf_emp q] at hs; cases hs)
    have ho := (hJ.2.1 x hx _ (JJ_at hJ hx hq)).2
    have hne : ¬ t = (Q x).getD 0 0 := fun e => by rw [← e, h.1] at ho; exact m1_nI (by omega) ho.symm
    rw [(sf_yes hs).1, gr_ne (by decide) (by decide), rmF_3, if_neg hne, lk_gr hx hr, if_neg (fun q => hne q.1), lk_rm]
    exact h
theorem sf_wait {F : FF} {Q : QQ} {x t r : Nat} {c : Int32} (hJ : JJ F Q) (hx : x < 10) (hr : r < 10) (h : (F 3 t = nI r ∧ F 4 t = c) ∨ (F 3 t = -1 ∧ lk F t r = c)) : (sfF F Q x 3 t = nI r ∧ sfF F Q x 4 t = c) ∨ (sfF F Q x 3 t = -1 ∧ lk (sfF F Q x) t r = c) := by
  rcases h with h | h
  · cases hs : sfR F Q x with
    | false => rw [(sf_no hs).1]; exact Or.inl h
    | true =>
      have hq : 0 < qlen Q x := Decidable.byContradiction (fun q => by rw [sf_emp q] at hs; cases hs)
      have ho := (hJ.2.1 x hx _ (JJ_at hJ hx hq)).2
      rw [(sf_yes hs).1, gr_ne (by decide) (by decide), gr_ne (by decide) (by decide), rmF_3, rmF_ne (show 4 ≠ 3 by decide), lk_gr hx hr]
      by_cases e : t = (Q x).getD 0 0
      · rw [← e] at ho ⊢
        have hxr : r = x := nI_inj (by omega) (by omega) (h.1.symm.trans ho)
        rw [if_pos rfl, if_pos ⟨rfl, hxr⟩]
        exact Or.inr ⟨rfl, h.2⟩
      · rw [if_neg e]; exact Or.inl h
  · exact Or.inr (sf_free hJ hx hr h)
theorem srv_free {F : FF} {Q : QQ} {t r : Nat} {c : Int32} (hJ : JJ F Q) (hr : r < 10) (h : F 3 t = -1 ∧ lk F t r = c) : srvF F Q 3 t = -1 ∧ lk (srvF F Q) t r = c :=
  srv_ind (P := fun G => G 3 t = -1 ∧ lk G t r = c) (fun G Q x hx hJ h => sf_free hJ hx hr h) hJ h
theorem srv_wait {F : FF} {Q : QQ} {t r : Nat} {c : Int32} (hJ : JJ F Q) (hr : r < 10) (h : (F 3 t = nI r ∧ F 4 t = c) ∨ (F 3 t = -1 ∧ lk F t r = c)) : (srvF F Q 3 t = nI r ∧ srvF F Q 4 t = c) ∨ (srvF F Q 3 t = -1 ∧ lk (srvF F Q) t r = c) :=
  srv_ind (P := fun G => (G 3 t = nI r ∧ G 4 t = c) ∨ (G 3 t = -1 ∧ lk G t r = c)) (fun G Q x hx hJ h => sf_wait hJ hx hr h) hJ h
theorem ab_k {F : FF} {v k : Nat} (h1 : k ≠ 1) (h2 : k ≠ 2) (h3 : k ≠ 3) (h5 : k ≠ 5) (h8 : k ≠ 8) : abF F v k = F k := by
  rw [abF, up_ne h2, up_ne h1, up_ne h8, up_ne h8, rel_ne h5, rmF_ne h3]
theorem ab_3 {F : FF} {v u : Nat} : abF F v 3 u = if u = v then -1 else F 3 u := by
  rw [abF, up_ne (by decide), up_ne (by decide), up_ne (by decide), up_ne (by decide), rel_ne (by decide), rmF_3]
theorem ab_lk {F : FF} {v u r : Nat} (hr : r < 10) : lk (abF F v) u r = if u = v then 0 else lk F u r := by
  have : lk (abF F v) u r = lk (relF (rmF F v) v) u r := by
    rw [lk, lk, abF, up_ne (by decide), up_ne (by decide), up_ne (by decide), up_ne (by decide)]
  rw [this, lk_rel hr, lk_rm]
def nW (F : FF) : Nat → Nat
  | 0 => 0
  | n + 1 => nW F n + (if F 3 n = -1 then 0 else 1)
theorem nW_le {F : FF} : ∀ n, nW F n ≤ n
  | 0 => Nat.le_refl _
  | n + 1 => by have := nW_le (F := F) n; rw [nW]; split <;> omega
theorem nW_mono {F G : FF} (h : ∀ u, F 3 u = -1 → G 3 u = -1) : ∀ n, nW G n ≤ nW F n
  | 0 => Nat.le_refl _
  | n + 1 => by
    have := nW_mono h n
    rw [nW, nW]
    by_cases e : F 3 n = -1
    · rw [if_pos e, if_pos (h n e)]; omega
    · rw [if_neg e]; split <;> omega
theorem nW_lt {F G : FF} {v : Nat} (h : ∀ u, F 3 u = -1 → G 3 u = -1) (hv : ¬ F 3 v = -1) (hg : G 3 v = -1) : ∀ n, v < n → nW G n + 1 ≤ nW F n
  | 0, hn => absurd hn (Nat.not_lt_zero _)
  | n + 1, hn => by
    rw [nW, nW]
    by_cases e : v = n
    · subst e
      have := nW_mono h v
      rw [if_pos hg, if_neg hv]; omega
    · have := nW_lt h hv hg n (by omega)
      by_cases q : F 3 n = -1
      · rw [if_pos q, if_pos (h n q)]; omega
      · rw [if_neg q]; split <;> omega
theorem nW_br {F : FF} {Q : QQ} {v : Nat} (hJ : JJ F Q) (hv8 : v < 8) (hv : ¬ F 3 v = -1) : nW (srvF (abF F v) (rmQ F Q v)) 8 + 1 ≤ nW F 8 :=
  nW_lt (fun u hu => srv_3 (JJ_ab hJ hv8) (by rw [ab_3]; split; rfl; exact hu)) hv (srv_3 (JJ_ab hJ hv8) (by rw [ab_3, if_pos rfl])) 8 hv8
theorem JJ_8 {F : FF} {Q : QQ} {k : Nat} {v : Int32} (h : JJ F Q) : JJ (up F 8 k v) Q := by
  have fl : ∀ u x, lk (up F 8 k v) u x = lk F u x := fun u x => by rw [lk, up_ne (by decide), lk]
  obtain ⟨a1, a2, a3, a4, a5, a6, a7⟩ := h
  refine ⟨a1, fun x hx y hy => by rw [up_ne (by decide)]; exact a2 x hx y hy, fun u hu => by rw [up_ne (by decide)]; exact a3 u hu, fun u hu hu0 => ?_, fun u hu x hx => by rw [fl]; exact a5 u hu x hx, fun x hx y hy => by rw [up_ne (by decide), fl]; exact a6 x hx y hy, fun x hx => ?_⟩
  · rw [up_ne (by decide)] at hu0 ⊢; exact a4 u hu hu0
  · have e : (fun y z => lk (up F 8 k v) z x = nI 1 → lk (up F 8 k v) y x = nI 1) = (fun y z => lk F z x = nI 1 → lk F y x = nI 1) := by
      funext y z; rw [fl, fl]
    rw [e]; exact a7 x hx
def bkF (F : FF) (v : Nat) : FF := up (up F 8 1 (F 8 1 + nI 1)) 8 2 (F 8 2 + F 1 v)
theorem bk_ne {F : FF} {v k : Nat} (h : k ≠ 8) : bkF F v k = F k := by rw [bkF, up_ne h, up_ne h]
theorem bk_rmQ {F : FF} {Q : QQ} {v : Nat} : rmQ (bkF F v) Q v = rmQ F Q v := by
  rw [rmQ, rmQ, wr, wr, bk_ne (by decide)]
theorem bk_ab {F : FF} {v : Nat} : up (up (relF (rmF (bkF F v) v) v) 1 v (nI 0)) 2 v (relF (rmF (bkF F v) v) v 2 v + nI 1) = abF F v := by
  funext k u
  have e3 : bkF F v 3 v = F 3 v := by rw [bk_ne (by decide)]
  have r2 : relF (rmF (bkF F v) v) v 2 v = F 2 v := by rw [rel_ne (by decide), rmF_ne (by decide), bk_ne (by decide)]
  rw [r2, abF, up_ap, up_ap, up_ap, up_ap, up_ap, up_ap]
  by_cases h2 : k = 2 ∧ u = v
  · rw [if_pos h2, if_pos h2]
  rw [if_neg h2, if_neg h2]
  by_cases h1 : k = 1 ∧ u = v
  · rw [if_pos h1, if_pos h1]
  rw [if_neg h1, if_neg h1]
  by_cases h8 : k = 8
  · subst h8
    rw [rel_ne (by decide), rmF_ne (by decide), rel_ne (by decide), rmF_ne (by decide), bkF, up_ap, up_ap]
  · rw [if_neg (fun q => h8 q.1), if_neg (fun q => h8 q.1)]
    by_cases h5 : k = 5
    · subst h5
      show relU (rmF (bkF F v) v 5) v 10 u = relU (rmF F v 5) v 10 u
      rw [rmF_ne (by decide), rmF_ne (by decide), bk_ne (by decide)]
    · rw [rel_ne h5, rel_ne h5]
      by_cases h3 : k = 3
      · subst h3; rw [rmF_3, rmF_3, bk_ne (by decide)]
      · rw [rmF_ne h3, rmF_ne h3, bk_ne h8]
theorem br_out {t r : Nat} {mo : Int32} (ht : t < 8) (hr : r < 10) : ∀ n {F : FF} {Q : QQ} {V : Nat}, JJ F Q → ((F 3 t = nI r ∧ F 4 t = mo ∧ ¬ V.testBit t = true) ∨ (F 3 t = -1 ∧ V.testBit t = true ∧ lk F t r = 0) ∨ (F 3 t = -1 ∧ ¬ V.testBit t = true ∧ lk F t r = mo)) →
    (((brS t n F Q V).1 3 t = nI r ∧ (brS t n F Q V).1 4 t = mo ∧ ¬ (brS t n F Q V).2.2.testBit t = true) ∨ ((brS t n F Q V).1 3 t = -1 ∧ (brS t n F Q V).2.2.testBit t = true ∧ lk (brS t n F Q V).1 t r = 0) ∨ ((brS t n F Q V).1 3 t = -1 ∧ ¬ (brS t n F Q V).2.2.testBit t = true ∧ lk (brS t n F Q V).1 t r = mo))
  | 0, _, _, _, _, h => h
  | n + 1, F, Q, V, hJ, h => by
    rw [brS]
    by_cases hv : vic F Q t = 8
    · rw [if_pos hv]; exact h
    · rw [if_neg hv]
      have hv8 : vic F Q t < 8 := by have := vic_le F Q t; omega
      have hJ2 := JJ_ab hJ hv8
      refine br_out ht hr n (JJ_srv hJ2) ?_
      rcases h with h | h | h
      · by_cases e : t = vic F Q t
        · have h1 := srv_free (c := 0) hJ2 hr ⟨by rw [ab_3, if_pos e], by rw [ab_lk hr, if_pos e]⟩
          refine Or.inr (Or.inl ⟨h1.1, ?_, h1.2⟩)
          rw [Nat.testBit_or, ← e, Nat.testBit_two_pow_self, Bool.or_true]
        · have h1 := srv_wait (c := mo) hJ2 hr (Or.inl ⟨by rw [ab_3, if_neg e]; exact h.1, by rw [ab_k (by decide) (by decide) (by decide) (by decide) (by decide)]; exact h.2.1⟩)
          have hb : ¬ (V ||| 2 ^ vic F Q t).testBit t = true := by
            rw [Nat.testBit_or, Nat.testBit_two_pow, Bool.or_eq_true]
            exact fun q => q.elim h.2.2 (fun z => e (of_decide_eq_true z).symm)
          rcases h1 with h1 | h1
          · exact Or.inl ⟨h1.1, h1.2, hb⟩
          · exact Or.inr (Or.inr ⟨h1.1, hb, h1.2⟩)
      · exact absurd (vic_n (SR_none hJ ht h.1)) hv
      · exact absurd (vic_n (SR_none hJ ht h.1)) hv
theorem i8 {t : Nat} (h : t < 8) : inI (nI t) 8 = true := inI_n h (by decide)
theorem i10 {r : Nat} (h : r < 10) : inI (nI r) 10 = true := inI_n h (by decide)
theorem pl_ge {F : FF} {Q : QQ} {t r : Nat} {mo : Int32} (hJ : JJ F Q) (ht : t < 8) (hr : r < 10) (hm : mo = nI 1 ∨ mo = nI 2) : (¬ lk F t r < mo → plS F t r mo = true) ∧ (lk F t r < mo → plS F t r mo = false ∧ (lk F t r = nI 1 → mo = nI 2)) := by
  rw [plS]
  rcases hm with e | e <;> rcases hJ.2.2.2.2.1 t ht r hr with q | q | q <;> rw [e, q] <;> decide
theorem oh_eq {F : FF} {t r : Nat} : alN (fun u => decide (u = t) || lk F u r == 0) 8 = (bits (rivB F t r (nI 2)) 8 == 0) := by
  rw [← alN_bits]
  congr 1
  funext u
  rw [rivB, compB]
  by_cases e : u = t
  · simp [e]
  · simp [e, nI2_1]
theorem plG_1 {F : FF} {Q : QQ} {t r : Nat} {mo : Int32} {b : Bool} (hm : mo = nI 2) (h1 : lk F t r = nI 1) (h : alN (fun u => decide (u = t) || lk F u r == 0) 8 = b) : plG F Q t r mo = b := by
  rw [plG, hm, ← oh_eq, h, h1]; simp
theorem plG_2 {F : FF} {Q : QQ} {t r : Nat} {mo : Int32} {b : Bool} (hq : qlen Q r = 0) (h : alN (fun u => !rivB F t r mo u) 8 = b) : plG F Q t r mo = b := by
  rw [plG, ← alN_bits, h, hq]; simp
theorem plG_3 {F : FF} {Q : QQ} {t r : Nat} {mo : Int32} (h1 : ¬ lk F t r = nI 1) (hq : ¬ qlen Q r = 0) : plG F Q t r mo = false := by
  rw [plG, bq_f h1]
  have : (qlen Q r == 0) = false := by simpa using hq
  rw [this]; rfl
theorem out_same {F : FF} {t r : Nat} {mo : Int32} (h : plS F t r mo = true) : outI F t r mo = nI 1 := by
  rw [plS, Bool.or_eq_true, beq_iff_eq, beq_iff_eq] at h
  rw [outI, if_pos h]
theorem out_gr {F : FF} {t r : Nat} {mo : Int32} (hr : r < 10) : outI (grF F t r mo) t r mo = nI 1 := by
  have h : lk (grF F t r mo) t r = mo := by rw [lk_gr hr hr, if_pos ⟨rfl, rfl⟩]
  rw [outI, if_pos (Or.inl h)]
theorem cnt_le {F : FF} {L : List Nat} {r p : Nat} (h : ∀ j, j < p → lk F (L.getD j 0) r = nI 1) : ∀ i, i ≤ p → cntU F L r i = i
  | 0, _ => rfl
  | i + 1, hi => by rw [cntU, cnt_le h i (by omega), h i (by omega)]; simp
theorem cnt_at {F : FF} {L : List Nat} {r p : Nat} (hp : L.Pairwise (fun x y => lk F y r = nI 1 → lk F x r = nI 1)) (h : ∀ j, j < p → lk F (L.getD j 0) r = nI 1) (he : ¬ lk F (L.getD p 0) r = nI 1) : ∀ i, p ≤ i → i ≤ L.length → cntU F L r i = p
  | 0, h0, _ => by
    have : p = 0 := by omega
    rw [this]; rfl
  | i + 1, hi, hl => by
    by_cases e : p = i + 1
    · rw [e]; exact cnt_le (p := i + 1) (fun j hj => h j (by omega)) _ (Nat.le_refl _)
    · rw [cntU, cnt_at hp h he i (by omega) (by omega)]
      have hf : ¬ lk F (L.getD i 0) r = nI 1 := fun q => by
        by_cases e2 : p = i
        · subst e2; exact he q
        · have h1 := List.pairwise_iff_getElem.mp hp p i (by omega) (by omega) (by omega)
          rw [List.getD_eq_getElem?_getD, List.getElem?_eq_getElem (by omega)] at he q
          exact he (h1 q)
      rw [bq_f hf]; rfl
theorem ins_1 {F : FF} {Q : QQ} {t r p : Nat} (hJ : JJ F Q) (hr : r < 10) (h1 : lk F t r = nI 1) (hp : p ≤ qlen Q r) (h : ∀ j, j < p → lk F ((Q r).getD j 0) r = nI 1) (he : p = qlen Q r ∨ ¬ lk F ((Q r).getD p 0) r = nI 1) : p = insN F Q t r := by
  rw [insN, if_pos h1]
  rcases he with e | e
  · rw [← e]; exact (cnt_le h p (Nat.le_refl _)).symm
  · exact (cnt_at (hJ.2.2.2.2.2.2 r hr) h e _ hp (Nat.le_refl _)).symm
theorem ins_2 {F : FF} {Q : QQ} {t r : Nat} (h1 : ¬ lk F t r = nI 1) : qlen Q r = insN F Q t r := by rw [insN, if_neg h1]
theorem brS_lt {t : Nat} : ∀ n {F : FF} {Q : QQ} {V : Nat}, V < 2 ^ 8 → (brS t n F Q V).2.2 < 2 ^ 8
  | 0, _, _, _, h => h
  | n + 1, F, Q, V, h => by
    rw [brS]; split
    · exact h
    · rename_i q
      have := vic_le F Q t
      exact brS_lt n (Nat.or_lt_two_pow h (Nat.pow_lt_pow_right (by decide) (by omega)))
theorem brV_lt {F : FF} {Q : QQ} {t : Nat} : brV F Q t < 2 ^ 8 := brS_lt 8 (by decide)
theorem out_w {F : FF} {Q : QQ} {t r : Nat} {mo : Int32} (hJ : JJ F Q) (ht : t < 8) (hr : r < 10) (hm : mo = nI 1 ∨ mo = nI 2) (h3 : F 3 t = nI r) (h4 : F 4 t = mo) : outI F t r mo = nI 2 := by
  have h6 := hJ.2.2.2.2.2.1 r hr t (JJ_in hJ ht hr h3)
  rw [h4] at h6
  have hn : ¬ F 3 t = -1 := by rw [h3]; exact m1_nI (by omega)
  rw [outI, if_neg hn, if_neg]
  rcases h6 with ⟨e1, e2⟩ | ⟨e1, e2 | e2⟩ <;> rw [e1, e2] <;> decide
theorem out_a {F : FF} {t r : Nat} {mo : Int32} (hm : mo = nI 1 ∨ mo = nI 2) (h3 : F 3 t = -1) (hl : lk F t r = 0) : outI F t r mo = nI 3 := by
  rw [outI, hl, if_pos h3, if_neg]
  rcases hm with e | e <;> rw [e] <;> decide
theorem out_g {F : FF} {t r : Nat} {mo : Int32} (hl : lk F t r = mo) : outI F t r mo = nI 1 := by
  rw [outI, if_pos (Or.inl hl)]
theorem ask_out {F : FF} {Q : QQ} {t r : Nat} {mo : Int32} (hJ : JJ F Q) (ht : t < 8) (hr : r < 10) (h3 : F 3 t = -1) (h0 : ¬ F 0 t = -1) (hm : mo = nI 1 ∨ mo = nI 2) (es : plS F t r mo = false) (eg : plG F Q t r mo = false) :
    (bitN (brV (plF F Q t r mo) (plQ F Q t r mo) t) t = 1 → outI (brF (plF F Q t r mo) (plQ F Q t r mo) t) t r mo = nI 3) ∧ (¬ bitN (brV (plF F Q t r mo) (plQ F Q t r mo) t) t = 1 → stI (brF (plF F Q t r mo) (plQ F Q t r mo) t) t = nI 2 → outI (brF (plF F Q t r mo) (plQ F Q t r mo) t) t r mo = nI 2) ∧ (¬ bitN (brV (plF F Q t r mo) (plQ F Q t r mo) t) t = 1 → ¬ stI (brF (plF F Q t r mo) (plQ F Q t r mo) t) t = nI 2 → outI (brF (plF F Q t r mo) (plQ F Q t r mo) t) t r mo = nI 1) := by
  have hJ1 := JJ_pl hJ ht hr h3 h0 hm
  have hJ2 : JJ (brF (plF F Q t r mo) (plQ F Q t r mo) t) (brQ (plF F Q t r mo) (plQ F Q t r mo) t) := JJ_br (s := t) 8 (V := 0) hJ1
  have h := br_out (mo := mo) ht hr 8 (V := 0) hJ1 (Or.inl (by
    rw [(pl_wait es eg).1, up_ne (by decide), up_eq, pk_us, up_eq, pk_us, Nat.zero_testBit]; exact ⟨rfl, rfl, by decide⟩))
  generalize hG : brS t 8 (plF F Q t r mo) (plQ F Q t r mo) 0 = G at h
  have gF : brF (plF F Q t r mo) (plQ F Q t r mo) t = G.1 := by rw [brF, hG]
  have gQ : brQ (plF F Q t r mo) (plQ F Q t r mo) t = G.2.1 := by rw [brQ, hG]
  have gV : brV (plF F Q t r mo) (plQ F Q t r mo) t = G.2.2 := by rw [brV, hG]
  rw [gF, gQ] at hJ2
  rw [gF, gV, bitN_1]
  have hj3 := st_w hJ2 ht
  rcases h with ⟨a, b, c⟩ | ⟨a, b, c⟩ | ⟨a, b, c⟩
  · exact ⟨fun q => absurd q c, fun _ _ => out_w hJ2 ht hr hm a b, fun _ q => absurd (hj3.mpr (by rw [a]; exact m1_nI (by omega))) q⟩
  · exact ⟨fun _ => out_a hm a c, fun q => absurd b q, fun q => absurd b q⟩
  · exact ⟨fun q => absurd q b, fun _ q => absurd a (hj3.mp q), fun _ _ => out_g c⟩
theorem nIf {x : Int32} {n : Nat} (h : ¬ inI x n = false) : inI x n = true := by simpa using h
def smN (g : Nat → Nat) : Nat → Nat
  | 0 => 0
  | n + 1 => smN g n + g n
theorem smN_cg {f g : Nat → Nat} : ∀ {n : Nat}, (∀ i, i < n → f i = g i) → smN f n = smN g n
  | 0, _ => rfl
  | n + 1, h => by rw [smN, smN, smN_cg (fun i hi => h i (by omega)), h n (by omega)]
theorem pcN_bits {p : Nat → Bool} {m : Nat} : ∀ n, n ≤ m → pcN (bits p m) n = smN (fun u => if p u then 1 else 0) n
  | 0, _ => rfl
  | n + 1, h => by
    rw [pcN, smN, pcN_bits n (by omega), bits_tb]
    simp [show n < m by omega]
theorem smN_add {f g : Nat → Nat} : ∀ n, smN f n + smN g n = smN (fun i => f i + g i) n
  | 0 => rfl
  | n + 1 => by have := smN_add (f := f) (g := g) n; rw [smN, smN, smN]; omega
theorem smN_z : ∀ n, smN (fun _ => 0) n = 0
  | 0 => rfl
  | n + 1 => by rw [smN, smN_z n]
theorem smN_ex {g : Nat → Nat → Nat} {m : Nat} : ∀ n, smN (fun t => smN (fun r => g t r) m) n = smN (fun r => smN (fun t => g t r) n) m
  | 0 => (smN_z m).symm
  | n + 1 => by
    rw [smN, smN_ex n, smN_add]; rfl
theorem lkN_sm {F : FF} : ∀ n, lkN F n = smN (fun r => smN (fun t => if hldB F r t then 1 else 0) 8) n
  | 0 => rfl
  | n + 1 => by rw [lkN, smN, lkN_sm n, pcN_bits 8 (Nat.le_refl _)]
theorem clT_sub {F : FF} {Q : QQ} {S : Nat} : ∀ n, ∀ i, S.testBit i = true → (clT F Q S n).testBit i = true
  | 0, i, h => h
  | n + 1, i, h => by
    rw [clT]; split
    · rw [Nat.testBit_or, clT_sub n i h]; rfl
    · exact clT_sub n i h
theorem pcN_le {S T : Nat} (h : ∀ i, S.testBit i = true → T.testBit i = true) : ∀ n, pcN S n ≤ pcN T n
  | 0 => Nat.le_refl _
  | n + 1 => by
    have := pcN_le h n
    rw [pcN, pcN]
    by_cases e : S.testBit n = true
    · rw [if_pos e, if_pos (h n e)]; omega
    · rw [if_neg e]; split <;> omega
theorem pcN_lt {S T i : Nat} (h : ∀ j, S.testBit j = true → T.testBit j = true) (h1 : ¬ S.testBit i = true) (h2 : T.testBit i = true) : ∀ n, i < n → pcN S n + 1 ≤ pcN T n
  | 0, hn => absurd hn (Nat.not_lt_zero _)
  | n + 1, hn => by
    rw [pcN, pcN]
    by_cases e : i = n
    · rw [e] at h1 h2
      have h3 := pcN_le (S := S) (T := T) h n
      rw [if_neg h1, if_pos h2]; omega
    · have := pcN_lt h h1 h2 n (by omega)
      by_cases q : S.testBit n = true
      · rw [if_pos q, if_pos (h n q)]; omega
      · rw [if_neg q]; split <;> omega
theorem pcN_le8 {S : Nat} : ∀ n, pcN S n ≤ n
  | 0 => Nat.le_refl _
  | n + 1 => by have := pcN_le8 (S := S) n; rw [pcN]; split <;> omega
theorem low_eq {S T : Nat} (hS : S < 2 ^ 8) (hT : T < 2 ^ 8) (h : ∀ i, i < 8 → S.testBit i = T.testBit i) : S = T :=
  Nat.eq_of_testBit_eq (fun i => by
    by_cases hi : i < 8
    · exact h i hi
    · rw [Nat.testBit_lt_two_pow (Nat.lt_of_lt_of_le hS (Nat.pow_le_pow_right (by decide) (by omega))), Nat.testBit_lt_two_pow (Nat.lt_of_lt_of_le hT (Nat.pow_le_pow_right (by decide) (by omega)))])
theorem clR_fix {F : FF} {Q : QQ} {S : Nat} (hS : S < 2 ^ 8) : ∀ k, clT F Q (clR F Q S k) 8 = clR F Q S k ∨ k + pcN S 8 + 1 ≤ pcN (clR F Q S (k + 1)) 8
  | 0 => by
    by_cases e : clT F Q S 8 = S
    · exact Or.inl e
    · refine Or.inr ?_
      obtain ⟨i, hi, h1, h2⟩ : ∃ i, i < 8 ∧ ¬ S.testBit i = true ∧ (clT F Q S 8).testBit i = true := Classical.byContradiction (fun q => e (low_eq (clT_lt hS 8) hS (fun i hi => by
        cases hs : S.testBit i with
        | true => exact clT_sub 8 i hs
        | false =>
          cases hc : (clT F Q S 8).testBit i with
          | false => rfl
          | true => exact absurd ⟨i, hi, by rw [hs]; decide, hc⟩ q)))
      have := pcN_lt (clT_sub (F := F) (Q := Q) (S := S) 8) h1 h2 8 hi
      show 0 + pcN S 8 + 1 ≤ pcN (clT F Q S 8) 8
      omega
  | k + 1 => by
    have hS2 := clR_lt (F := F) (Q := Q) hS (k + 1)
    by_cases e : clT F Q (clR F Q S (k + 1)) 8 = clR F Q S (k + 1)
    · exact Or.inl e
    · refine Or.inr ?_
      obtain ⟨i, hi, h1, h2⟩ : ∃ i, i < 8 ∧ ¬ (clR F Q S (k + 1)).testBit i = true ∧ (clT F Q (clR F Q S (k + 1)) 8).testBit i = true := Classical.byContradiction (fun q => e (low_eq (clT_lt hS2 8) hS2 (fun i hi => by
        cases hs : (clR F Q S (k + 1)).testBit i with
        | true => exact clT_sub 8 i hs
        | false =>
          cases hc : (clT F Q (clR F Q S (k + 1)) 8).testBit i with
          | false => rfl
          | true => exact absurd ⟨i, hi, by rw [hs]; decide, hc⟩ q)))
      have h3 := pcN_lt (clT_sub (F := F) (Q := Q) (S := clR F Q S (k + 1)) 8) h1 h2 8 hi
      rcases clR_fix (F := F) (Q := Q) hS k with q | q
      · have : clR F Q S (k + 1) = clR F Q S k := q
        rw [this] at e
        exact absurd q e
      · show k + 1 + pcN S 8 + 1 ≤ pcN (clT F Q (clR F Q S (k + 1)) 8) 8
        omega
theorem clT_0 {F : FF} {Q : QQ} : ∀ n, clT F Q 0 n = 0
  | 0 => rfl
  | n + 1 => by rw [clT, clT_0 n, if_neg (by rw [Nat.zero_testBit]; decide)]
theorem clR_8 {F : FF} {Q : QQ} {S : Nat} (hS : S < 2 ^ 8) : clR F Q S 8 = clR F Q S 7 := by
  rcases clR_fix (F := F) (Q := Q) hS 7 with q | q
  · exact q
  · by_cases h0 : pcN S 8 = 0
    · have hz : S = 0 := low_eq hS (by decide) (fun i hi => by
        rw [Nat.zero_testBit]
        cases hs : S.testBit i with
        | false => rfl
        | true =>
          have := pcN_lt (S := 0) (T := S) (i := i) (fun j hj => by rw [Nat.zero_testBit] at hj; cases hj) (by rw [Nat.zero_testBit]; decide) hs 8 hi
          omega)
      subst hz
      have : ∀ k, clR F Q 0 k = 0 := fun k => by
        induction k with
        | zero => rfl
        | succ k ih => show clT F Q (clR F Q 0 k) 8 = 0; rw [ih, clT_0]
      rw [this, this]
    · have := pcN_le8 (S := clR F Q S (7 + 1)) 8
      exact absurd q (by omega)
def bkN (S t : Nat) : Nat → Nat := smN (fun u => if S.testBit u && decide (u ≠ t) then 1 else 0)
theorem bk_eq {S t : Nat} : pcN (bits (fun u => S.testBit u && decide (u ≠ t)) 8) 8 = bkN S t 8 := pcN_bits 8 (Nat.le_refl _)
