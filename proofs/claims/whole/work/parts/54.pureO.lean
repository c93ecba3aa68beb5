/-! the reference's state, whole -/
abbrev JR : Type := Int32 × Int32 × Int32 × Int32 × Int32 × Int32 × (Nat → Int32) × (Nat → Int32) × (Nat → Int32) × (Nat → Int32) × (Nat → Int32) × (Nat → Int32)
abbrev rfW (cI : ClassId) (ad : Nat → Nat) (s : ST) (u : JR) : va_W := refW cI ad u.1 (nI s.2.2.1.length) (nI s.2.2.2.2) u.2.1 u.2.2.1 u.2.2.2.1 u.2.2.2.2.1 u.2.2.2.2.2.1 u.2.2.2.2.2.2.1 u.2.2.2.2.2.2.2.1 u.2.2.2.2.2.2.2.2.1 u.2.2.2.2.2.2.2.2.2.1 u.2.2.2.2.2.2.2.2.2.2.1 u.2.2.2.2.2.2.2.2.2.2.2
def LZ (n : Nat) (s : ST) (z sd tx : Nat → Int32) : Prop :=
  JJ s.1 s.2.1 ∧ JC n s.1 ∧ RZ s.1 s.2.1 z ∧ s.2.2.1.length ≤ 8 ∧ HZ s.2.2.1 sd ∧ (∀ q ∈ s.2.2.1, JJ q.1 q.2 ∧ JC n q.1) ∧ s.2.2.2.2 ≤ 80 ∧ (∀ i, i < s.2.2.2.2 → tx i = nI (s.2.2.2.1 i)) ∧ ∀ z, s.2.2.2.1 z < 128
abbrev LZu (n : Nat) (s : ST) (u : JR) : Prop := LZ n s u.2.2.2.2.2.2.1 u.2.2.2.2.2.2.2.2.1 u.2.2.2.2.2.2.2.2.2.1
theorem LZ.mono {n n' : Nat} {s : ST} {z sd tx : Nat → Int32} (h : LZ n s z sd tx) (hn : n ≤ n') : LZ n' s z sd tx := by
  obtain ⟨a, b, c, d, e, f, g⟩ := h
  exact ⟨a, b.mono hn, c, d, e, fun q hq => ⟨(f q hq).1, (f q hq).2.mono hn⟩, g⟩
theorem LZ_mk {n : Nat} {F : FF} {Q : QQ} {HS : List (FF × QQ)} {sg : Nat → Nat} {len : Nat} {z sd tx : Nat → Int32} (hJ : JJ F Q) (hC : JC n F) (hZ : RZ F Q z) (hl8 : HS.length ≤ 8) (hH : HZ HS sd) (hHS : ∀ q ∈ HS, JJ q.1 q.2 ∧ JC n q.1) (hlen : len ≤ 80) (htx : ∀ i, i < len → tx i = nI (sg i)) (hsg : ∀ z, sg z < 128) : LZ n (F, Q, HS, sg, len) z sd tx := ⟨hJ, hC, hZ, hl8, hH, hHS, hlen, htx, hsg⟩
theorem pu_le {F : FF} {Q : QQ} {HS : List (FF × QQ)} : (pu F Q HS).length ≤ 8 := by
  rw [pu, List.length_take]; omega
theorem pu_all {n : Nat} {F : FF} {Q : QQ} {HS : List (FF × QQ)} (hJ : JJ F Q) (hC : JC n F) (h : ∀ q ∈ HS, JJ q.1 q.2 ∧ JC n q.1) : ∀ q ∈ pu F Q HS, JJ q.1 q.2 ∧ JC n q.1 := fun q hq => by
  rcases List.mem_cons.mp (List.mem_of_mem_take hq) with e | e
  · rw [e]; exact ⟨hJ, hC⟩
  · exact h q e
theorem all_mono {n n' : Nat} {HS : List (FF × QQ)} (hn : n ≤ n') (h : ∀ q ∈ HS, JJ q.1 q.2 ∧ JC n q.1) : ∀ q ∈ HS, JJ q.1 q.2 ∧ JC n' q.1 := fun q hq => ⟨(h q hq).1, (h q hq).2.mono hn⟩
theorem wB_le {F : FF} {p : Int32} : wB F p ≤ 3 := by unfold wB; split; decide; split <;> decide
theorem wR_le {F : FF} {p q m : Int32} : wR F p q m ≤ 3 := by unfold wR; split; decide; split; decide; split; decide; split <;> decide
theorem wW_le {F : FF} {p a : Int32} : wW F p a ≤ 3 := by unfold wW; split; decide; split; decide; split <;> decide
theorem wD_le {F : FF} {p : Int32} : wD F p ≤ 3 := by unfold wD; split; decide; split <;> decide
theorem wC_le {F : FF} {p : Int32} : wC F p ≤ 3 := by unfold wC; split; decide; split <;> decide
theorem wA_le {F : FF} {p : Int32} : wA F p ≤ 3 := by unfold wA; split; decide; split <;> decide
theorem nIf {x : Int32} {n : Nat} (h : ¬ inI x n = false) : inI x n = true := by simpa using h
theorem wB_op {s : ST} {p : Int32} (h : ¬ wB s.1 p ≤ 0) : opBegin s p = (wB s.1 p, 0, s) := by
  rw [opBegin, wB] at *
  split
  · rfl
  · rename_i h1; rw [if_neg h1] at h; split at h
    · omega
    · rename_i h2; rw [if_pos h2, if_neg h2]
theorem wB_0 {F : FF} {p : Int32} (h : wB F p ≤ 0) : ∃ t, t < 8 ∧ p = nI t ∧ stI F t = 0 := by
  rw [wB] at h
  split at h
  · omega
  · rename_i h1; split at h
    · rename_i h2
      obtain ⟨t, ht, e⟩ := inI_t (by decide) (nIf h1)
      rw [e, ix8 ht] at h2; exact ⟨t, ht, e, h2⟩
    · omega
theorem wC_op {s : ST} {p : Int32} (h : ¬ wC s.1 p ≤ 0) : opCommit s p = (wC s.1 p, 0, s) := by
  rw [opCommit, wC] at *
  split
  · rfl
  · rename_i h1; rw [if_neg h1] at h; split at h
    · omega
    · rename_i h2; rw [if_pos h2, if_neg h2]
theorem wC_0 {F : FF} {p : Int32} (h : wC F p ≤ 0) : ∃ t, t < 8 ∧ p = nI t ∧ stI F t = nI 1 := by
  rw [wC] at h
  split at h
  · omega
  · rename_i h1; split at h
    · rename_i h2
      obtain ⟨t, ht, e⟩ := inI_t (by decide) (nIf h1)
      rw [e, ix8 ht] at h2; exact ⟨t, ht, e, h2⟩
    · omega
theorem wD_op {s : ST} {p : Int32} (h : ¬ wD s.1 p ≤ 0) : opWithdraw s p = (wD s.1 p, 0, s) := by
  rw [opWithdraw, wD] at *
  split
  · rfl
  · rename_i h1; rw [if_neg h1] at h; split at h
    · omega
    · rename_i h2; rw [if_pos h2, if_neg h2]
theorem wD_0 {F : FF} {p : Int32} (h : wD F p ≤ 0) : ∃ t, t < 8 ∧ p = nI t ∧ stI F t = nI 2 := by
  rw [wD] at h
  split at h
  · omega
  · rename_i h1; split at h
    · rename_i h2
      obtain ⟨t, ht, e⟩ := inI_t (by decide) (nIf h1)
      rw [e, ix8 ht] at h2; exact ⟨t, ht, e, h2⟩
    · omega
theorem wA_op {s : ST} {p : Int32} (h : ¬ wA s.1 p ≤ 0) : opRollBack s p = (wA s.1 p, 0, s) := by
  rw [opRollBack, wA] at *
  split
  · rfl
  · rename_i h1; rw [if_neg h1] at h; split at h
    · rename_i h2; rw [if_pos h2, if_pos h2]
    · omega
theorem wA_0 {F : FF} {p : Int32} (h : wA F p ≤ 0) : ∃ t, t < 8 ∧ p = nI t ∧ ¬ stI F t = 0 := by
  rw [wA] at h
  split at h
  · omega
  · rename_i h1; split at h
    · omega
    · rename_i h2
      obtain ⟨t, ht, e⟩ := inI_t (by decide) (nIf h1)
      rw [e, ix8 ht] at h2; exact ⟨t, ht, e, h2⟩
theorem inB_a {a : Int32} : inB a (nI 1) (nI 1000) = false ↔ a < nI 1 ∨ nI 1000 < a := by
  rw [inB]
  by_cases h : a < nI 1
  · rw [decide_eq_true h]; simp [h]
  · rw [decide_eq_false h]; simp [h]
theorem wW_op {s : ST} {p a : Int32} (h : ¬ wW s.1 p a ≤ 0) : opWork s p a = (wW s.1 p a, 0, s) := by
  rw [opWork, wW] at *
  split
  · rfl
  · rename_i h1; rw [if_neg h1] at h
    split at h
    · rename_i h2; rw [if_pos (inB_a.mp h2), if_pos h2]
    · rename_i h2; rw [if_neg (fun q => h2 (inB_a.mpr q)), if_neg h2]
      split at h
      · omega
      · rename_i h3; rw [if_pos h3, if_neg h3]
theorem wW_0 {F : FF} {p a : Int32} (h : wW F p a ≤ 0) : ∃ t, t < 8 ∧ p = nI t ∧ ¬ a < nI 1 ∧ ¬ nI 1000 < a ∧ stI F t = nI 1 := by
  rw [wW] at h
  split at h
  · omega
  · rename_i h1; split at h
    · omega
    · rename_i h2; split at h
      · rename_i h3
        obtain ⟨t, ht, e⟩ := inI_t (by decide) (nIf h1)
        rw [e, ix8 ht] at h3; exact ⟨t, ht, e, fun q => h2 (inB_a.mpr (Or.inl q)), fun q => h2 (inB_a.mpr (Or.inr q)), h3⟩
      · omega
theorem wR_op {s : ST} {p q m : Int32} (h : ¬ wR s.1 p q m ≤ 0) : opRequest s p q m = (wR s.1 p q m, 0, s) := by
  rw [opRequest, wR] at *
  split
  · rfl
  · rename_i h1; rw [if_neg h1] at h
    split
    · rfl
    · rename_i h2; rw [if_neg h2] at h
      split
      · rfl
      · rename_i h3; rw [if_neg h3] at h
        split at h
        · omega
        · rename_i h4; rw [if_pos h4, if_neg h4]
theorem wR_0 {F : FF} {p q m : Int32} (h : wR F p q m ≤ 0 ∨ wR F p q m = 3) : ∃ t r, t < 8 ∧ r < 10 ∧ p = nI t ∧ q = nI r ∧ mdB m = true ∧ (wR F p q m ≤ 0 ↔ stI F t = nI 1) := by
  rw [wR] at h
  split at h
  · omega
  · rename_i h1; split at h
    · omega
    · rename_i h2; split at h
      · omega
      · rename_i h3
        obtain ⟨t, ht, e⟩ := inI_t (by decide) (nIf h1)
        obtain ⟨r, hr, e2⟩ := inI_t (by decide) (nIf h2)
        refine ⟨t, r, ht, hr, e, e2, by simpa using h3, ?_⟩
        rw [wR, if_neg h1, if_neg h2, if_neg h3, e, ix8 ht]
        split
        · rename_i h4; simp [h4]
        · rename_i h4; simp [h4]
theorem wR_if {s : ST} {p q m : Int32} (h : ¬ wR s.1 p q m = 3) (h0 : ¬ wR s.1 p q m ≤ 0) : opIf s p q m = (wR s.1 p q m, 0, s) ∧ opVic s p q m = (wR s.1 p q m, 0, s) := by
  rw [opIf, opVic, wR] at *
  split
  · exact ⟨rfl, rfl⟩
  · rename_i h1; rw [if_neg h1] at h h0
    split
    · exact ⟨rfl, rfl⟩
    · rename_i h2; rw [if_neg h2] at h h0
      split
      · exact ⟨rfl, rfl⟩
      · rename_i h3; rw [if_neg h3] at h h0
        split at h
        · rename_i h4; rw [if_pos h4] at h0; omega
        · omega
/-! what the state's changes keep of the births -/
theorem JC_srv {n : Nat} {F : FF} {Q : QQ} (hJ : JJ F Q) (h : JC n F) : JC n (srvF F Q) :=
  h.cg (fun x _ => Or.inl (by rw [srv_k hJ (by decide) (by decide) (by decide)])) (by rw [srv_k hJ (by decide) (by decide) (by decide)])
theorem JC_rm {n t : Nat} {F : FF} (h : JC n F) : JC n (rmF F t) := h.cg (fun x _ => Or.inl (by rw [rmF_ne (by decide)])) (by rw [rmF_ne (by decide)])
theorem JC_end {n t : Nat} {F : FF} (h : JC n F) : JC n (endF F t) := h.cg (fun x _ => by
  rw [endF, up_ap, if_neg (by omega), up_ap, if_neg (by omega), up_ap, rel_ne (by decide), rmF_ne (by decide)]
  by_cases e : x = t
  · rw [if_pos ⟨rfl, e⟩]; exact Or.inr rfl
  · rw [if_neg (fun q => e q.2)]; exact Or.inl rfl) (by rw [endF, up_ne (by decide), up_ne (by decide), up_ne (by decide), rel_ne (by decide), rmF_ne (by decide)])
theorem JC_br {n t : Nat} : ∀ k {F : FF} {Q : QQ} {V : Nat}, JJ F Q → JC n F → JC n (brS t k F Q V).1
  | 0, _, _, _, _, h => h
  | k + 1, F, Q, V, hJ, h => by
    rw [brS]; split
    · exact h
    · rename_i q
      have hv := vic_le F Q t
      have hJ2 := JJ_ab (F := F) (Q := Q) hJ (show vic F Q t < 8 by omega)
      refine JC_br k (JJ_srv hJ2) (JC_srv hJ2 ?_)
      obtain ⟨b, h1, h2, h3, h4⟩ := h
      have e0 : abF F (vic F Q t) 0 = F 0 := ab_k (by decide) (by decide) (by decide) (by decide) (by decide)
      refine ⟨b, h1, ?_, by rw [e0]; exact h3, by unfold JB; rw [e0]; exact h4⟩
      rw [abF, up_ap, if_neg (by omega), up_ap, if_neg (by omega), up_ap, if_neg (by omega), up_ap, if_neg (by omega), rel_ne (by decide), rmF_ne (by decide)]
      exact h2
theorem JC_pl {n t r : Nat} {F : FF} {Q : QQ} {m : Int32} (h : JC n F) : JC n (plF F Q t r m) := by
  unfold plF
  split
  · exact h
  · split
    · exact h.cg (fun x _ => Or.inl (by rw [gr_ne (by decide) (by decide)])) (by rw [gr_ne (by decide) (by decide)])
    · exact h.cg (fun x _ => Or.inl (by rw [up_ne (by decide), up_ne (by decide)])) (by rw [up_ne (by decide), up_ne (by decide)])
theorem JC_ask {n t r : Nat} {F : FF} {Q : QQ} {m : Int32} (hJ : JJ (plF F Q t r m) (plQ F Q t r m)) (h : JC n F) : JC n (askF F Q t r m) := by
  unfold askF; split
  · exact JC_br 8 hJ (JC_pl h)
  · exact JC_pl h
theorem JC_work {n t : Nat} {F : FF} {v : Int32} (h : JC n F) : JC n (up F 1 t v) := h.cg (fun x _ => Or.inl (by rw [up_ne (by decide)])) (by rw [up_ne (by decide)])
/-! sums -/
def smN (g : Nat → Nat) : Nat → Nat
  | 0 => 0
  | n + 1 => smN g n + g n
theorem smN_cg {f g : Nat → Nat} : ∀ {n : Nat}, (∀ i, i < n → f i = g i) → smN f n = smN g n
  | 0, _ => rfl
  | n + 1, h => by rw [smN, smN, smN_cg (fun i hi => h i (by omega)), h n (by omega)]
theorem pcN_bits {p : Nat → Bool} {m : Nat} : ∀ n, n ≤ m → pcN (bits p m) n = smN (fun u => if p u then 1 else 0) n
  | 0, _ => rfl
  | n + 1, h => by
    rw [pcN, smN, pcN_bits n (by omega), bits_tb]
    simp [show n < m by omega]
theorem smN_add {f g : Nat → Nat} : ∀ n, smN f n + smN g n = smN (fun i => f i + g i) n
  | 0 => rfl
  | n + 1 => by have := smN_add (f := f) (g := g) n; rw [smN, smN, smN]; omega
theorem smN_z : ∀ n, smN (fun _ => 0) n = 0
  | 0 => rfl
  | n + 1 => by rw [smN, smN_z n]
theorem smN_ex {g : Nat → Nat → Nat} {m : Nat} : ∀ n, smN (fun t => smN (fun r => g t r) m) n = smN (fun r => smN (fun t => g t r) n) m
  | 0 => (smN_z m).symm
  | n + 1 => by
    rw [smN, smN_ex n, smN_add]; rfl
theorem smN_ten {g : Nat → Nat} : ∀ t, smN g (10 * t) = smN (fun t => smN (fun r => g (10 * t + r)) 10) t
  | 0 => rfl
  | t + 1 => by
    rw [show 10 * (t + 1) = 10 * t + 10 by omega, smN, smN, smN, smN, smN, smN, smN, smN, smN, smN, smN_ten t, smN]
    simp only [smN, Nat.add_zero, Nat.zero_add]
    omega
theorem lkN_sm {F : FF} : ∀ n, lkN F n = smN (fun r => smN (fun t => if hldB F r t then 1 else 0) 8) n
  | 0 => rfl
  | n + 1 => by rw [lkN, smN, lkN_sm n, pcN_bits 8 (Nat.le_refl _)]
theorem lkN_ref {F : FF} : lkN F 10 = smN (fun k => if hldB F (k % 10) (k / 10) then 1 else 0) 80 := by
  rw [lkN_sm, ← smN_ex, show (80 : Nat) = 10 * 8 from rfl, smN_ten]
  refine smN_cg (fun t _ => smN_cg (fun r hr => ?_))
  rw [show (10 * t + r) % 10 = r by omega, show (10 * t + r) / 10 = t by omega]
/-! who is in the way, directly or not -/
theorem clT_sub {F : FF} {Q : QQ} {S : Nat} : ∀ n, ∀ i, S.testBit i = true → (clT F Q S n).testBit i = true
  | 0, i, h => h
  | n + 1, i, h => by
    rw [clT]; split
    · rw [Nat.testBit_or, clT_sub n i h]; rfl
    · exact clT_sub n i h
theorem pcN_le {S T : Nat} (h : ∀ i, S.testBit i = true → T.testBit i = true) : ∀ n, pcN S n ≤ pcN T n
  | 0 => Nat.le_refl _
  | n + 1 => by
    have := pcN_le h n
    rw [pcN, pcN]
    by_cases e : S.testBit n = true
    · rw [if_pos e, if_pos (h n e)]; omega
    · rw [if_neg e]; split <;> omega
theorem pcN_lt {S T i : Nat} (h : ∀ j, S.testBit j = true → T.testBit j = true) (h1 : ¬ S.testBit i = true) (h2 : T.testBit i = true) : ∀ n, i < n → pcN S n + 1 ≤ pcN T n
  | 0, hn => absurd hn (Nat.not_lt_zero _)
  | n + 1, hn => by
    rw [pcN, pcN]
    by_cases e : i = n
    · rw [e] at h1 h2
      have h3 := pcN_le (S := S) (T := T) h n
      rw [if_neg h1, if_pos h2]; omega
    · have := pcN_lt h h1 h2 n (by omega)
      by_cases q : S.testBit n = true
      · rw [if_pos q, if_pos (h n q)]; omega
      · rw [if_neg q]; split <;> omega
theorem pcN_le8 {S : Nat} : ∀ n, pcN S n ≤ n
  | 0 => Nat.le_refl _
  | n + 1 => by have := pcN_le8 (S := S) n; rw [pcN]; split <;> omega
theorem pcN_full {S : Nat} : ∀ {n : Nat}, pcN S n = n → ∀ i, i < n → S.testBit i = true
  | 0, _, i, hi => absurd hi (Nat.not_lt_zero _)
  | n + 1, h, i, hi => by
    have := pcN_le8 (S := S) n
    rw [pcN] at h
    split at h
    · rename_i q
      by_cases e : i = n
      · rw [e]; exact q
      · exact pcN_full (n := n) (by omega) i (by omega)
    · omega
theorem low_eq {S T : Nat} (hS : S < 2 ^ 8) (hT : T < 2 ^ 8) (h : ∀ i, i < 8 → S.testBit i = T.testBit i) : S = T :=
  Nat.eq_of_testBit_eq (fun i => by
    by_cases hi : i < 8
    · exact h i hi
    · rw [Nat.testBit_lt_two_pow (Nat.lt_of_lt_of_le hS (Nat.pow_le_pow_right (by decide) (by omega))), Nat.testBit_lt_two_pow (Nat.lt_of_lt_of_le hT (Nat.pow_le_pow_right (by decide) (by omega)))])
theorem clR_fix {F : FF} {Q : QQ} {S : Nat} (hS : S < 2 ^ 8) : ∀ k, clT F Q (clR F Q S k) 8 = clR F Q S k ∨ k + pcN S 8 + 1 ≤ pcN (clR F Q S (k + 1)) 8
  | 0 => by
    by_cases e : clT F Q S 8 = S
    · exact Or.inl e
    · refine Or.inr ?_
      obtain ⟨i, hi, h1, h2⟩ : ∃ i, i < 8 ∧ ¬ S.testBit i = true ∧ (clT F Q S 8).testBit i = true := Classical.byContradiction (fun q => e (low_eq (clT_lt hS 8) hS (fun i hi => by
        cases hs : S.testBit i with
        | true => exact clT_sub 8 i hs
        | false =>
          cases hc : (clT F Q S 8).testBit i with
          | false => rfl
          | true => exact absurd ⟨i, hi, by rw [hs]; decide, hc⟩ q)))
      have := pcN_lt (clT_sub (F := F) (Q := Q) (S := S) 8) h1 h2 8 hi
      show 0 + pcN S 8 + 1 ≤ pcN (clT F Q S 8) 8
      omega
  | k + 1 => by
    have hS2 := clR_lt (F := F) (Q := Q) hS (k + 1)
    by_cases e : clT F Q (clR F Q S (k + 1)) 8 = clR F Q S (k + 1)
    · exact Or.inl e
    · refine Or.inr ?_
      obtain ⟨i, hi, h1, h2⟩ : ∃ i, i < 8 ∧ ¬ (clR F Q S (k + 1)).testBit i = true ∧ (clT F Q (clR F Q S (k + 1)) 8).testBit i = true := Classical.byContradiction (fun q => e (low_eq (clT_lt hS2 8) hS2 (fun i hi => by
        cases hs : (clR F Q S (k + 1)).testBit i with
        | true => exact clT_sub 8 i hs
        | false =>
          cases hc : (clT F Q (clR F Q S (k + 1)) 8).testBit i with
          | false => rfl
          | true => exact absurd ⟨i, hi, by rw [hs]; decide, hc⟩ q)))
      have h3 := pcN_lt (clT_sub (F := F) (Q := Q) (S := clR F Q S (k + 1)) 8) h1 h2 8 hi
      rcases clR_fix (F := F) (Q := Q) hS k with q | q
      · have : clR F Q S (k + 1) = clR F Q S k := q
        rw [this] at e
        exact absurd q e
      · show k + 1 + pcN S 8 + 1 ≤ pcN (clT F Q (clR F Q S (k + 1)) 8) 8
        omega
theorem clT_0 {F : FF} {Q : QQ} : ∀ n, clT F Q 0 n = 0
  | 0 => rfl
  | n + 1 => by rw [clT, clT_0 n, if_neg (by rw [Nat.zero_testBit]; decide)]
theorem clR_8 {F : FF} {Q : QQ} {S : Nat} (hS : S < 2 ^ 8) : clR F Q S 8 = clR F Q S 7 := by
  rcases clR_fix (F := F) (Q := Q) hS 7 with q | q
  · exact q
  · by_cases h0 : pcN S 8 = 0
    · have hz : S = 0 := low_eq hS (by decide) (fun i hi => by
        rw [Nat.zero_testBit]
        cases hs : S.testBit i with
        | false => rfl
        | true =>
          have := pcN_lt (S := 0) (T := S) (i := i) (fun j hj => by rw [Nat.zero_testBit] at hj; cases hj) (by rw [Nat.zero_testBit]; decide) hs 8 hi
          omega)
      subst hz
      have : ∀ k, clR F Q 0 k = 0 := fun k => by
        induction k with
        | zero => rfl
        | succ k ih => show clT F Q (clR F Q 0 k) 8 = 0; rw [ih, clT_0]
      rw [this, this]
    · have := pcN_le8 (S := clR F Q S (7 + 1)) 8
      exact absurd q (by omega)
def bkN (S t : Nat) : Nat → Nat := smN (fun u => if S.testBit u && decide (u ≠ t) then 1 else 0)
theorem bk_eq {S t : Nat} : pcN (bits (fun u => S.testBit u && decide (u ≠ t)) 8) 8 = bkN S t 8 := pcN_bits 8 (Nat.le_refl _)
