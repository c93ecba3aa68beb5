/-! distances -/
theorem ws_ex {p q : Nat → Bool} : ¬ bits p 8 &&& bits q 8 = 0 ↔ ∃ u, u < 8 ∧ p u = true ∧ q u = true := by
  refine ⟨fun h => ?_, fun ⟨u, hu, h1, h2⟩ e => ?_⟩
  · refine Decidable.byContradiction (fun q2 => h (Nat.eq_of_testBit_eq (fun i => ?_)))
    rw [Nat.testBit_and, bits_tb, bits_tb, Nat.zero_testBit]
    cases hp : p i with
    | false => simp
    | true =>
      cases hq : q i with
      | false => simp
      | true =>
        by_cases hi : i < 8
        · exact absurd ⟨i, hi, hp, hq⟩ q2
        · simp [hi]
  · have := congrArg (fun x => x.testBit u) e
    simp only [Nat.testBit_and, bits_tb, Nat.zero_testBit, h1, h2, hu, decide_true, Bool.and_self] at this
    cases this
def exN (p : Nat → Bool) : Nat → Bool
  | 0 => false
  | n + 1 => exN p n || p n
theorem exN_iff {p : Nat → Bool} : ∀ {n : Nat}, exN p n = true ↔ ∃ u, u < n ∧ p u = true
  | 0 => by simp [exN]
  | n + 1 => by
    rw [exN, Bool.or_eq_true, exN_iff]
    refine ⟨fun h => ?_, fun ⟨u, hu, h⟩ => ?_⟩
    · rcases h with ⟨u, hu, h⟩ | h
      · exact ⟨u, by omega, h⟩
      · exact ⟨n, by omega, h⟩
    · by_cases e : u = n
      · subst e; exact Or.inr h
      · exact Or.inl ⟨u, by omega, h⟩
def dnN (F : FF) (Q : QQ) (s k t n : Nat) : Nat := if dst F Q s k t = 8 ∧ exN (fun u => dst F Q s k u == k && awB F Q t u) n = true then k + 1 else dst F Q s k t
theorem dnN_0 {F : FF} {Q : QQ} {s k t : Nat} : dnN F Q s k t 0 = dst F Q s k t := by
  rw [dnN, if_neg (fun h => by cases h.2)]
theorem dst_ex {F : FF} {Q : QQ} {s k t : Nat} : (¬ aWS F Q t &&& bits (fun u => dst F Q s k u == k) 8 = 0) ↔ exN (fun u => dst F Q s k u == k && awB F Q t u) 8 = true := by
  rw [aWS, ws_ex, exN_iff]
  refine ⟨fun ⟨u, hu, h1, h2⟩ => ⟨u, hu, by rw [h1, h2]; rfl⟩, fun ⟨u, hu, h⟩ => ⟨u, hu, ?_⟩⟩
  rw [Bool.and_eq_true] at h; exact ⟨h.2, h.1⟩
theorem dnN_8 {F : FF} {Q : QQ} {s k t : Nat} : dnN F Q s k t 8 = dst F Q s (k + 1) t := by
  rw [dnN, dst]
  by_cases h : dst F Q s k t = 8 ∧ exN (fun u => dst F Q s k u == k && awB F Q t u) 8 = true
  · rw [if_pos h, if_pos ⟨h.1, dst_ex.mpr h.2⟩]
  · rw [if_neg h, if_neg (fun q => h ⟨q.1, dst_ex.mp q.2⟩)]
theorem dst_keep {F : FF} {Q : QQ} {s k t : Nat} (h : ¬ dst F Q s k t = 8) : dst F Q s (k + 1) t = dst F Q s k t := dst_n (fun q => h q.1)
theorem dst_keeps {F : FF} {Q : QQ} {s k t : Nat} (h : ¬ dst F Q s k t = 8) : ∀ n, dst F Q s (k + n) t = dst F Q s k t
  | 0 => rfl
  | n + 1 => by
    have e := dst_keeps h n
    rw [← Nat.add_assoc, dst_keep (by rw [e]; exact h), e]
theorem dst_up {F : FF} {Q : QQ} {s k t : Nat} : dst F Q s (k + 1) t = dst F Q s k t ∨ (dst F Q s (k + 1) t = k + 1 ∧ dst F Q s k t = 8 ∧ ∃ u, u < 8 ∧ dst F Q s k u = k ∧ awB F Q t u = true) := by
  by_cases h : dst F Q s k t = 8 ∧ ¬ aWS F Q t &&& bits (fun u => dst F Q s k u == k) 8 = 0
  · refine Or.inr ⟨dst_y h.1 h.2, h.1, ?_⟩
    obtain ⟨u, hu, h2⟩ := exN_iff.mp (dst_ex.mp h.2)
    rw [Bool.and_eq_true] at h2
    exact ⟨u, hu, beq_iff_eq.mp h2.1, h2.2⟩
  · exact Or.inl (dst_n h)
theorem dst_zero {F : FF} {Q : QQ} {s t : Nat} : ∀ k, dst F Q s k t = 0 ↔ t = s
  | 0 => by rw [dst]; split <;> simp_all
  | k + 1 => by
    rcases dst_up (F := F) (Q := Q) (s := s) (k := k) (t := t) with h | h
    · rw [h]; exact dst_zero k
    · refine ⟨fun q => by omega, fun q => ?_⟩
      have := (dst_zero (F := F) (Q := Q) k).mpr q
      omega
/-- a number that is not none was given at its own step -/
theorem dst_at {F : FF} {Q : QQ} {s v : Nat} : ∀ {k d : Nat}, dst F Q s k v = d → ¬ d = 8 → d ≤ k ∧ dst F Q s d v = d
  | 0, d, h, h8 => by
    rcases dst_le F Q s 0 v with q | q
    · have : d = 0 := by omega
      subst this; exact ⟨Nat.le_refl _, h⟩
    · omega
  | k + 1, d, h, h8 => by
    rcases dst_up (F := F) (Q := Q) (s := s) (k := k) (t := v) with q | q
    · rw [q] at h
      have := dst_at h h8
      exact ⟨by omega, this.2⟩
    · have : d = k + 1 := by omega
      subst this; exact ⟨Nat.le_refl _, h⟩
theorem dst_back {F : FF} {Q : QQ} {s u d : Nat} : ∀ {k : Nat}, k ≤ 7 → dst F Q s k u = d + 1 → ¬ d + 1 = 8 → ∃ v, v < 8 ∧ awB F Q u v = true ∧ dst F Q s k v = d
  | 0, _, h, _ => by
    rcases dst_le F Q s 0 u with q | q <;> omega
  | k + 1, hk, h, h8 => by
    rcases dst_up (F := F) (Q := Q) (s := s) (k := k) (t := u) with q | q
    · rw [q] at h
      obtain ⟨v, hv, h1, h2⟩ := dst_back (by omega) h h8
      have hdl := dst_lt F Q s (d := k) (by omega) u
      exact ⟨v, hv, h1, by rw [dst_keep (by rw [h2]; omega), h2]⟩
    · obtain ⟨q1, q2, v, hv, h1, h2⟩ := q
      have : d = k := by omega
      subst this
      exact ⟨v, hv, h2, by rw [dst_keep (by rw [h1]; omega), h1]⟩
theorem chain {f : Nat → Nat} : ∀ n : Nat, (∀ d, d < n → ∃ u, u < 8 ∧ f u = d) → ∃ l : List Nat, l.Nodup ∧ l.length = n ∧ ∀ x ∈ l, x < 8 ∧ f x < n
  | 0, _ => ⟨[], List.nodup_nil, rfl, fun x h => by cases h⟩
  | n + 1, h => by
    obtain ⟨l, h1, h2, h3⟩ := chain n (fun d hd => h d (by omega))
    obtain ⟨u, hu, hf⟩ := h n (by omega)
    refine ⟨u :: l, List.nodup_cons.mpr ⟨fun hm => ?_, h1⟩, by simp [h2], fun x hx => ?_⟩
    · have := (h3 u hm).2; omega
    · rcases List.mem_cons.mp hx with q | q
      · rw [q]; exact ⟨hu, by omega⟩
      · have := h3 x q; exact ⟨this.1, by omega⟩
theorem dst_all {F : FF} {Q : QQ} {s k : Nat} (hk : k ≤ 7) : ∀ {d : Nat}, (∃ u, u < 8 ∧ dst F Q s k u = d) → ¬ d = 8 → ∀ c, c ≤ d → ∃ u, u < 8 ∧ dst F Q s k u = c
  | 0, h, _, c, hc => by
    have : c = 0 := by omega
    subst this; exact h
  | d + 1, h, h8, c, hc => by
    by_cases e : c = d + 1
    · subst e; exact h
    · obtain ⟨u, hu, h1⟩ := h
      obtain ⟨v, hv, _, h2⟩ := dst_back hk h1 h8
      have h7 := dst_at h1 h8
      exact dst_all hk ⟨v, hv, h2⟩ (by omega) c (by omega)
theorem dst_pig {F : FF} {Q : QQ} {s k t v : Nat} (hk : k ≤ 7) (ht : t < 8) (h8 : dst F Q s k t = 8) (hv : v < 8) (hd : dst F Q s k v = k) : k < 7 := by
  refine Decidable.byContradiction (fun q => ?_)
  have hk7 : k = 7 := by omega
  subst hk7
  obtain ⟨l, h1, h2, h3⟩ := chain (f := dst F Q s 7) 8 (fun d hd2 => dst_all (Nat.le_refl _) ⟨v, hv, hd⟩ (by decide) d (by omega))
  have := pig 8 (t :: l) (List.nodup_cons.mpr ⟨fun hm => by have := (h3 t hm).2; omega, h1⟩) (fun x hx => by
    rcases List.mem_cons.mp hx with q2 | q2
    · rw [q2]; exact ht
    · exact (h3 x q2).1)
  simp [h2] at this
theorem dst_8 {F : FF} {Q : QQ} {s j : Nat} (hj : j < 8) : dst F Q s 8 j = dst F Q s 7 j := by
  rcases dst_up (F := F) (Q := Q) (s := s) (k := 7) (t := j) with h | ⟨h1, h2, u, hu, h3, _⟩
  · exact h
  · exact absurd (dst_pig (Nat.le_refl _) hj h2 hu h3) (by decide)
/-- who waits for one that is near is near -/
theorem dst_fwd {F : FF} {Q : QQ} {s u v : Nat} (hu : u < 8) (hv : v < 8) (hw : awB F Q u v = true) (h : dst F Q s 7 v < 8) : dst F Q s 7 u ≤ dst F Q s 7 v + 1 ∧ dst F Q s 7 u < 8 := by
  obtain ⟨h1, h2⟩ := dst_at (d := dst F Q s 7 v) rfl (by omega)
  obtain ⟨d, hd⟩ : ∃ d, d = dst F Q s 7 v := ⟨_, rfl⟩
  rw [← hd] at h1 h2 h ⊢
  have hdu : dst F Q s 7 u < 8 := by
    by_cases e : dst F Q s 7 u = 8
    · refine absurd ?_ (show ¬ (8 : Nat) = 8 + 0 + 1 by decide)
      have h7 : d = 7 ∨ d < 7 := by omega
      rcases h7 with q | q
      · subst q; exact absurd (dst_pig (Nat.le_refl _) hu e hv hd.symm) (by decide)
      · have e2 : dst F Q s (d + 1) u = 8 := Decidable.byContradiction (fun q2 => by
          have := dst_keeps q2 (7 - (d + 1))
          rw [show d + 1 + (7 - (d + 1)) = 7 by omega, e] at this
          exact q2 this.symm)
        have e3 : dst F Q s d u = 8 := Decidable.byContradiction (fun q2 => q2 (by rw [← dst_keep q2]; exact e2))
        have := dst_y e3 (dst_ex.mpr (exN_iff.mpr ⟨v, hv, by rw [h2, hw]; simp⟩))
        omega
    · have := dst_lt F Q s (d := 7) (by decide) u; omega
  refine ⟨?_, hdu⟩
  by_cases e : dst F Q s d u = 8
  · have h8 : d < 8 := h
    have e2 := dst_y e (dst_ex.mpr (exN_iff.mpr ⟨v, hv, by rw [h2, hw]; simp⟩))
    rcases Nat.lt_or_ge d 7 with q | q
    · have := dst_keeps (k := d + 1) (t := u) (F := F) (Q := Q) (s := s) (by omega) (7 - (d + 1))
      rw [show d + 1 + (7 - (d + 1)) = 7 by omega] at this
      omega
    · omega
  · have := dst_keeps e (7 - d)
    rw [show d + (7 - d) = 7 by omega] at this
    rcases dst_le F Q s d u with q | q
    · omega
    · exact absurd q e
/-- the distances as the reference keeps them, in the middle of its work -/
def dsA (F : FF) (Q : QQ) (s k i n : Nat) : Nat → Int32 := fun j => bI (if j < i then dst F Q s (k + 1) j else if j = i then dnN F Q s k i n else dst F Q s k j)
def dsF (F : FF) (Q : QQ) (s k : Nat) : Nat → Int32 := fun j => bI (dst F Q s k j)
theorem dsA_0 {F : FF} {Q : QQ} {s k : Nat} : dsA F Q s k 0 0 = dsF F Q s k := by
  funext j
  rw [dsA, dsF, if_neg (Nat.not_lt_zero _)]
  by_cases h : j = 0
  · rw [if_pos h, dnN_0, h]
  · rw [if_neg h]
theorem dsA_at {F : FF} {Q : QQ} {s k i n : Nat} : dsA F Q s k i n i = bI (dnN F Q s k i n) := by
  rw [dsA, if_neg (Nat.lt_irrefl _), if_pos rfl]
theorem dnN_le {F : FF} {Q : QQ} {s k t n : Nat} (hk : k ≤ 7) : dnN F Q s k t n ≤ 8 := by
  rw [dnN]; split
  · omega
  · exact dst_lt F Q s (by omega) t
theorem dn_8 {F : FF} {Q : QQ} {s k i n : Nat} (h : dnN F Q s k i n = 8) : dst F Q s k i = 8 := by
  rw [dnN] at h
  split at h
  · rename_i q; exact q.1
  · exact h
theorem bI_neg {n : Nat} (h : n ≤ 8) : bI n < 0 ↔ n = 8 := by
  rw [bI]; split
  · rename_i q; simp only [q, iff_true]; decide
  · rename_i q
    refine ⟨fun r => absurd r ?_, fun r => absurd r q⟩
    exact Int32.not_lt.mpr (nI_pos' (by omega))
theorem dsA_k {F : FF} {Q : QQ} {s k i n m : Nat} (hk : k < 8) (h8 : dnN F Q s k i n = 8) : dsA F Q s k i n m = nI k ↔ dst F Q s k m = k := by
  rw [dsA]
  by_cases h1 : m < i
  · rw [if_pos h1]
    have hle := dst_lt F Q s (d := k + 1) (by omega) m
    rw [bI_eq hle hk]
    rcases dst_up (F := F) (Q := Q) (s := s) (k := k) (t := m) with q | ⟨q1, q2, _⟩
    · rw [q]
    · omega
  · rw [if_neg h1]
    by_cases h2 : m = i
    · rw [if_pos h2, h8, h2, dn_8 h8, bI_eq (by decide) hk]
    · rw [if_neg h2, bI_eq (dst_lt F Q s (by omega) m) hk]
theorem dsA_y {F : FF} {Q : QQ} {s k i n : Nat} (hk : k < 8) (hi : i < 8) (hn : n < 8) (h8 : dnN F Q s k i n = 8) (hd : dst F Q s k n = k) (hw : awB F Q i n = true) : upd (dsA F Q s k i n) i (nI (k + 1)) = dsA F Q s k i (n + 1) := by
  funext j
  have hp := dst_pig (by omega) hi (dn_8 h8) hn hd
  have e : dnN F Q s k i (n + 1) = k + 1 := by
    rw [dnN, if_pos ⟨dn_8 h8, exN_iff.mpr ⟨n, by omega, by rw [hd, hw]; simp⟩⟩]
  by_cases h : j = i
  · subst h
    rw [pk_us, dsA_at, e, bI_some (by omega)]
  · rw [pk_un h, dsA, dsA, if_neg h, if_neg h]
theorem dsA_n {F : FF} {Q : QQ} {s k i n : Nat} (h : ¬ (dst F Q s k n = k ∧ awB F Q i n = true)) : upd (dsA F Q s k i n) i (dsA F Q s k i n i) = dsA F Q s k i (n + 1) := by
  have e : dnN F Q s k i (n + 1) = dnN F Q s k i n := by
    have hf : (dst F Q s k n == k && awB F Q i n) = false := by
      cases hw : awB F Q i n with
      | false => simp
      | true => simp; exact fun q => h ⟨q, hw⟩
    simp [dnN, exN, hf]
  funext j
  by_cases hj : j = i
  · subst hj; rw [pk_us, dsA_at, dsA_at, e]
  · rw [pk_un hj, dsA, dsA, if_neg hj, if_neg hj]
theorem dsA_e {F : FF} {Q : QQ} {s k i n : Nat} (hn : n ≤ 8) (h : n = 8 ∨ ¬ dnN F Q s k i n = 8) : dsA F Q s k i n = dsA F Q s k (i + 1) 0 := by
  have e : dnN F Q s k i n = dst F Q s (k + 1) i := by
    rcases h with h | h
    · rw [h, dnN_8]
    · rw [← dnN_8]
      by_cases h0 : dst F Q s k i = 8
      · have hx : exN (fun u => dst F Q s k u == k && awB F Q i u) n = true := Decidable.byContradiction (fun q => h (by rw [dnN, if_neg (fun z => q z.2)]; exact h0))
        obtain ⟨u, hu, hu2⟩ := exN_iff.mp hx
        rw [dnN, dnN, if_pos ⟨h0, hx⟩, if_pos ⟨h0, exN_iff.mpr ⟨u, by omega, hu2⟩⟩]
      · rw [dnN, dnN, if_neg (fun z => h0 z.1), if_neg (fun z => h0 z.1)]
  funext j
  rw [dsA, dsA]
  by_cases h1 : j < i
  · rw [if_pos h1, if_pos (by omega)]
  · rw [if_neg h1]
    by_cases h2 : j = i
    · rw [if_pos h2, if_pos (by omega), e, h2]
    · rw [if_neg h2, if_neg (by omega)]
      by_cases h3 : j = i + 1
      · rw [if_pos h3, dnN_0, h3]
      · rw [if_neg h3]
theorem dsA_r {F : FF} {Q : QQ} {s k j : Nat} (hj : j < 8) : dsA F Q s k 8 0 j = dsF F Q s (k + 1) j := by rw [dsA, dsF, if_pos hj]
def mixI (g w : Nat → Int32) (i : Nat) : Nat → Int32 := fun z => if z < i then g z else w z
theorem mixI_0 {g w : Nat → Int32} : mixI g w 0 = w := by
  funext z; rw [mixI, if_neg (Nat.not_lt_zero _)]
theorem mixI_v {g w : Nat → Int32} {i : Nat} {v : Int32} (h : g i = v) : upd (mixI g w i) i v = mixI g w (i + 1) := by
  funext z
  by_cases hz : z = i
  · rw [hz, pk_us, mixI, if_pos (by omega), h]
  · rw [pk_un hz, mixI, mixI]
    by_cases h2 : z < i
    · rw [if_pos h2, if_pos (by omega)]
    · rw [if_neg h2, if_neg (by omega)]
theorem dsF_0 {F : FF} {Q : QQ} {s i : Nat} : dsF F Q s 0 i = if i = s then 0 else -1 := by
  rw [dsF, dst]
  by_cases h : i = s
  · rw [if_pos h, if_pos h]; rfl
  · rw [if_neg h, if_neg h]; rfl
/-! the nearest, from above -/
theorem nrB_ch {D : Nat → Nat} {S : Nat} : ∀ {n : Nat}, ((nrB D S n) = (8, 8) ∧ ∀ i, i < n → S.testBit i = true → 8 ≤ D i) ∨ ((nrB D S n).1 < n ∧ S.testBit (nrB D S n).1 = true ∧ (nrB D S n).2 = D (nrB D S n).1 ∧ D (nrB D S n).1 < 8 ∧ ∀ i, i < n → S.testBit i = true → D (nrB D S n).1 < D i ∨ (D (nrB D S n).1 = D i ∧ (nrB D S n).1 ≤ i))
  | 0 => Or.inl ⟨rfl, fun i h => absurd h (Nat.not_lt_zero _)⟩
  | n + 1 => by
    by_cases h : S.testBit n = true ∧ D n < (nrB D S n).2
    · rw [nrB_y h.1 h.2]
      refine Or.inr ⟨Nat.lt_succ_self _, h.1, rfl, ?_, fun i hi hS => ?_⟩
      · rcases nrB_ch (D := D) (S := S) (n := n) with q | q
        · rw [q.1] at h; exact h.2
        · have := q.2.2.1; have := q.2.2.2.1; have := h.2; show D n < 8; omega
      · show D n < D i ∨ (D n = D i ∧ n ≤ i)
        by_cases e : i = n
        · subst e; exact Or.inr ⟨rfl, Nat.le_refl _⟩
        · rcases nrB_ch (D := D) (S := S) (n := n) with q | q
          · have := q.2 i (by omega) hS
            rw [q.1] at h
            have := h.2
            exact Or.inl (by simp at this; omega)
          · have h1 := q.2.2.2.2 i (by omega) hS
            have h2 := q.2.2.1
            have h3 := h.2
            exact Or.inl (by omega)
    · rw [nrB_n h]
      rcases nrB_ch (D := D) (S := S) (n := n) with q | q
      · refine Or.inl ⟨q.1, fun i hi hS => ?_⟩
        by_cases e : i = n
        · subst e
          refine Decidable.byContradiction (fun z => h ⟨hS, ?_⟩)
          rw [q.1]; show D i < 8; omega
        · exact q.2 i (by omega) hS
      · refine Or.inr ⟨by omega, q.2.1, q.2.2.1, q.2.2.2.1, fun i hi hS => ?_⟩
        by_cases e : i = n
        · subst e
          have : ¬ D i < (nrB D S i).2 := fun z => h ⟨hS, z⟩
          have h2 := q.2.2.1
          have h1 := q.1
          omega
        · exact q.2.2.2.2 i (by omega) hS
def nrU (D : Nat → Nat) (p : Nat → Bool) : Nat → Nat
  | 0 => 8
  | n + 1 => if p (7 - n) = true ∧ D (7 - n) < 8 ∧ (nrU D p n = 8 ∨ D (7 - n) ≤ D (nrU D p n)) then 7 - n else nrU D p n
theorem nrU_ch {D : Nat → Nat} {p : Nat → Bool} : ∀ {n : Nat}, n ≤ 8 → (nrU D p n = 8 ∧ ∀ i, 8 - n ≤ i → i < 8 → p i = true → 8 ≤ D i) ∨ (8 - n ≤ nrU D p n ∧ nrU D p n < 8 ∧ p (nrU D p n) = true ∧ D (nrU D p n) < 8 ∧ ∀ i, 8 - n ≤ i → i < 8 → p i = true → D (nrU D p n) < D i ∨ (D (nrU D p n) = D i ∧ nrU D p n ≤ i))
  | 0, _ => Or.inl ⟨rfl, fun i h1 h2 => by omega⟩
  | n + 1, hn => by
    by_cases h : p (7 - n) = true ∧ D (7 - n) < 8 ∧ (nrU D p n = 8 ∨ D (7 - n) ≤ D (nrU D p n))
    · rw [nrU, if_pos h]
      refine Or.inr ⟨by omega, by omega, h.1, h.2.1, fun i h1 h2 h3 => ?_⟩
      by_cases e : i = 7 - n
      · subst e; exact Or.inr ⟨rfl, Nat.le_refl _⟩
      · rcases nrU_ch (D := D) (p := p) (n := n) (by omega) with q | q
        · have := q.2 i (by omega) h2 h3
          have := h.2.1
          omega
        · have h4 := q.2.2.2.2 i (by omega) h2 h3
          rcases h.2.2 with z | z <;> omega
    · rw [nrU, if_neg h]
      rcases nrU_ch (D := D) (p := p) (n := n) (by omega) with q | q
      · refine Or.inl ⟨q.1, fun i h1 h2 h3 => ?_⟩
        by_cases e : i = 7 - n
        · subst e
          refine Decidable.byContradiction (fun z => h ⟨h3, by omega, Or.inl q.1⟩)
        · exact q.2 i (by omega) h2 h3
      · refine Or.inr ⟨by omega, q.2.1, q.2.2.1, q.2.2.2.1, fun i h1 h2 h3 => ?_⟩
        by_cases e : i = 7 - n
        · subst e
          refine Or.inl (Decidable.byContradiction (fun z => h ⟨h3, ?_, Or.inr (by omega)⟩))
          have := q.2.2.2.1
          omega
        · exact q.2.2.2.2 i (by omega) h2 h3
theorem nrU_eq {D : Nat → Nat} {p : Nat → Bool} {S : Nat} (hS : ∀ i, i < 8 → S.testBit i = p i) : nrU D p 8 = (nrB D S 8).1 := by
  rcases nrU_ch (D := D) (p := p) (n := 8) (Nat.le_refl _) with q | q
  · rcases nrB_ch (D := D) (S := S) (n := 8) with r | r
    · rw [q.1, r.1]
    · have := q.2 _ (by omega) r.1 (by rw [← hS _ r.1]; exact r.2.1)
      have := r.2.2.2.1
      omega
  · rcases nrB_ch (D := D) (S := S) (n := 8) with r | r
    · have := r.2 _ q.2.1 (by rw [hS _ q.2.1]; exact q.2.2.1)
      have := q.2.2.2.1
      omega
    · have h1 := q.2.2.2.2 _ (by omega) r.1 (by rw [← hS _ r.1]; exact r.2.1)
      have h2 := r.2.2.2.2 _ q.2.1 (by rw [hS _ q.2.1]; exact q.2.2.1)
      omega
def ndU (p : Nat → Bool) (x : Nat) : Nat → Nat
  | 0 => x
  | n + 1 => if p (7 - n) = true then 7 - n else ndU p x n
theorem ndU_ch {p : Nat → Bool} {x : Nat} : ∀ {n : Nat}, n ≤ 8 → (∃ i, 8 - n ≤ i ∧ i < 8 ∧ p i = true) → 8 - n ≤ ndU p x n ∧ ndU p x n < 8 ∧ p (ndU p x n) = true ∧ ∀ i, 8 - n ≤ i → i < 8 → p i = true → ndU p x n ≤ i
  | 0, _, ⟨i, h1, h2, _⟩ => by omega
  | n + 1, hn, ⟨i, h1, h2, h3⟩ => by
    by_cases h : p (7 - n) = true
    · rw [ndU, if_pos h]
      exact ⟨by omega, by omega, h, fun j a1 a2 a3 => by omega⟩
    · rw [ndU, if_neg h]
      have ne : ∀ j, p j = true → ¬ j = 7 - n := fun j hj e => h (e ▸ hj)
      have hi := ne i h3
      have q := ndU_ch (p := p) (x := x) (n := n) (by omega) ⟨i, by omega, h2, h3⟩
      exact ⟨by omega, q.2.1, q.2.2.1, fun j a1 a2 a3 => q.2.2.2 j (by have := ne j a3; omega) a2 a3⟩
theorem ndU_eq {F : FF} {Q : QQ} {s m d x : Nat} (hm : m < 8) (hd : dst F Q s 7 m = d + 1) (h8 : d + 1 < 8) : ndU (fun u => dst F Q s 7 u == d && awB F Q m u) x 8 = (nrB (dst F Q s 7) (aWS F Q m) 8).1 ∧ (nrB (dst F Q s 7) (aWS F Q m) 8).1 < 8 ∧ dst F Q s 7 (nrB (dst F Q s 7) (aWS F Q m) 8).1 = d := by
  obtain ⟨v, hv, hw, hdv⟩ := dst_back (Nat.le_refl _) hd (by omega)
  obtain ⟨_, a2, a3, a4⟩ := ndU_ch (p := fun u => dst F Q s 7 u == d && awB F Q m u) (x := x) (n := 8) (Nat.le_refl _) ⟨v, by omega, hv, by rw [hdv, hw]; simp⟩
  have hS : ∀ i, i < 8 → (aWS F Q m).testBit i = awB F Q m i := fun i hi => by rw [aWS, bits_tb]; simp [hi]
  generalize ndU (fun u => dst F Q s 7 u == d && awB F Q m u) x 8 = y at a2 a3 a4 ⊢
  rw [Bool.and_eq_true] at a3
  have b1 := beq_iff_eq.mp a3.1
  rcases nrB_ch (D := dst F Q s 7) (S := aWS F Q m) (n := 8) with r | r
  · have := r.2 v hv (by rw [hS v hv]; exact hw)
    omega
  · have c1 := dst_fwd (s := s) hm r.1 (by rw [← hS _ r.1]; exact r.2.1) r.2.2.2.1
    have c2 := r.2.2.2.2 y a2 (by rw [hS y a2]; exact a3.2)
    have c3 : dst F Q s 7 (nrB (dst F Q s 7) (aWS F Q m) 8).1 = d := by omega
    have c4 := a4 _ (by omega) r.1 (by rw [c3, ← hS _ r.1, r.2.1]; simp)
    exact ⟨by omega, r.1, c3⟩
