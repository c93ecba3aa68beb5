/-! how far: steps along those for whom one waits -/
def unN (F : FF) (Q : QQ) (S : Nat) : Nat → Nat
  | 0 => 0
  | n + 1 => if S.testBit n = true then unN F Q S n ||| aWS F Q n else unN F Q S n
def wkS (F : FF) (Q : QQ) (u : Nat) : Nat → Nat
  | 0 => 2 ^ u
  | n + 1 => unN F Q (wkS F Q u n) 8
theorem unN_lt {F : FF} {Q : QQ} {S : Nat} : ∀ n, unN F Q S n < 2 ^ 8
  | 0 => by rw [unN]; decide
  | n + 1 => by
    rw [unN]; split
    · exact Nat.or_lt_two_pow (unN_lt n) (aWS_lt F Q n)
    · exact unN_lt n
theorem wkS_lt {F : FF} {Q : QQ} {u : Nat} (hu : u < 8) : ∀ n, wkS F Q u n < 2 ^ 8
  | 0 => Nat.pow_lt_pow_right (by decide) hu
  | n + 1 => unN_lt 8
theorem unN_tb {F : FF} {Q : QQ} {S v : Nat} : ∀ n, (unN F Q S n).testBit v = true ↔ ∃ x, x < n ∧ S.testBit x = true ∧ (aWS F Q x).testBit v = true
  | 0 => by simp [unN]
  | n + 1 => by
    rw [unN]
    by_cases h : S.testBit n = true
    · rw [if_pos h, Nat.testBit_or, Bool.or_eq_true, unN_tb n]
      constructor
      · rintro (⟨x, h1, h2⟩ | h1)
        · exact ⟨x, by omega, h2⟩
        · exact ⟨n, by omega, h, h1⟩
      · rintro ⟨x, h1, h2, h3⟩
        by_cases e : x = n
        · subst e; exact Or.inr h3
        · exact Or.inl ⟨x, by omega, h2, h3⟩
    · rw [if_neg h, unN_tb n]
      constructor
      · rintro ⟨x, h1, h2⟩; exact ⟨x, by omega, h2⟩
      · rintro ⟨x, h1, h2, h3⟩
        have hx : x ≠ n := fun e => h (e ▸ h2)
        exact ⟨x, by omega, h2, h3⟩
theorem wk_s {F : FF} {Q : QQ} {u v n : Nat} : (wkS F Q u (n + 1)).testBit v = true ↔ ∃ x, x < 8 ∧ (wkS F Q u n).testBit x = true ∧ (aWS F Q x).testBit v = true := unN_tb 8
theorem aWS_8 {F : FF} {Q : QQ} {x v : Nat} (h : (aWS F Q x).testBit v = true) : v < 8 ∧ awB F Q x v = true := by
  rw [aWS, bits_tb] at h; simpa using h
theorem wk_0 {F : FF} {Q : QQ} {u v : Nat} : (wkS F Q u 0).testBit v = true ↔ u = v := by
  rw [wkS, Nat.testBit_two_pow]; simp
theorem dst_self {F : FF} {Q : QQ} {t : Nat} : dst F Q t 7 t = 0 := (dst_zero 7).mpr rfl
theorem wk_dst {F : FF} {Q : QQ} {u : Nat} (hu : u < 8) : ∀ n v, (wkS F Q u n).testBit v = true → ∀ t, dst F Q t 7 v < 8 → dst F Q t 7 u ≤ dst F Q t 7 v + n ∧ dst F Q t 7 u < 8
  | 0, v, h, t, hd => by
    have := wk_0.mp h
    subst this
    exact ⟨Nat.le_refl _, hd⟩
  | n + 1, v, h, t, hd => by
    obtain ⟨x, hx, h1, h2⟩ := wk_s.mp h
    obtain ⟨hv, hw⟩ := aWS_8 h2
    have h3 := dst_fwd (s := t) hx hv hw hd
    have h4 := wk_dst hu n x h1 t h3.2
    exact ⟨by omega, h4.2⟩
theorem wk_to {F : FF} {Q : QQ} {u t : Nat} : ∀ d k v, v < 8 → (wkS F Q u k).testBit v = true → dst F Q t 7 v = d → d < 8 → (wkS F Q u (k + d)).testBit t = true
  | 0, k, v, _, h, hd, _ => by
    have := (dst_zero 7).mp hd
    subst this
    exact h
  | d + 1, k, v, hv, h, hd, h8 => by
    obtain ⟨x, hx, hw, hxd⟩ := dst_back (Nat.le_refl 7) hd (by omega)
    have h1 : (wkS F Q u (k + 1)).testBit x = true := wk_s.mpr ⟨v, hv, h, by rw [aWS_tb hx]; exact hw⟩
    have := wk_to d (k + 1) x hx h1 hxd (by omega)
    rw [show k + (d + 1) = k + 1 + d by omega]
    exact this
def farN (F : FF) (Q : QQ) (u t : Nat) : Nat := if dst F Q t 7 u < 8 then dst F Q t 7 u else 99
theorem far_le {F : FF} {Q : QQ} {u t : Nat} : farN F Q u t ≤ 99 := by unfold farN; split <;> omega
theorem far_hit {F : FF} {Q : QQ} {u t n : Nat} (hn : n < 8) (hu : u < 8) (h : (wkS F Q u n).testBit t = true) (hb : ∀ k, k < n → ¬ (wkS F Q u k).testBit t = true) : farN F Q u t = n := by
  have h1 := wk_dst hu n t h t (by rw [dst_self]; decide)
  rw [dst_self] at h1
  have h2 := wk_to (F := F) (Q := Q) (u := u) (t := t) _ 0 u hu (wk_0.mpr rfl) rfl h1.2
  rw [Nat.zero_add] at h2
  have h3 : ¬ dst F Q t 7 u < n := fun q => hb _ q h2
  rw [farN, if_pos h1.2]
  omega
theorem far_miss {F : FF} {Q : QQ} {u t : Nat} (hu : u < 8) (hb : ∀ k, k < 8 → ¬ (wkS F Q u k).testBit t = true) : farN F Q u t = 99 := by
  rw [farN, if_neg]
  intro h
  have h2 := wk_to (F := F) (Q := Q) (u := u) (t := t) _ 0 u hu (wk_0.mpr rfl) rfl h
  rw [Nat.zero_add] at h2
  exact hb _ h h2
/-! the next one of a ring, looked for from the highest number down -/
def nxL (E : Nat → Nat) (p : Nat → Bool) : Nat → Nat
  | 0 => 8
  | n + 1 => if p (7 - n) = true ∧ (nxL E p n = 8 ∨ E (7 - n) ≤ E (nxL E p n)) then 7 - n else nxL E p n
theorem nxL_ch {E : Nat → Nat} {p : Nat → Bool} : ∀ {n : Nat}, n ≤ 8 → (nxL E p n = 8 ∧ ∀ i, 8 - n ≤ i → i < 8 → ¬ p i = true) ∨ (8 - n ≤ nxL E p n ∧ nxL E p n < 8 ∧ p (nxL E p n) = true ∧ ∀ i, 8 - n ≤ i → i < 8 → p i = true → E (nxL E p n) < E i ∨ (E (nxL E p n) = E i ∧ nxL E p n ≤ i))
  | 0, _ => Or.inl ⟨rfl, fun i h1 h2 => by omega⟩
  | n + 1, hn => by
    have ih := nxL_ch (E := E) (p := p) (n := n) (by omega)
    rw [nxL]
    by_cases h : p (7 - n) = true ∧ (nxL E p n = 8 ∨ E (7 - n) ≤ E (nxL E p n))
    · rw [if_pos h]
      refine Or.inr ⟨by omega, by omega, h.1, fun i h1 h2 h3 => ?_⟩
      by_cases e : i = 7 - n
      · subst e; exact Or.inr ⟨rfl, Nat.le_refl _⟩
      · rcases ih with ih | ih
        · exact absurd h3 (ih.2 i (by omega) h2)
        · have h4 := ih.2.2.2 i (by omega) h2 h3
          have h5 : E (7 - n) ≤ E (nxL E p n) := h.2.resolve_left (by omega)
          by_cases h6 : E (7 - n) < E i
          · exact Or.inl h6
          · exact Or.inr ⟨by omega, by omega⟩
    · rw [if_neg h]
      rcases ih with ih | ih
      · refine Or.inl ⟨ih.1, fun i h1 h2 h3 => ?_⟩
        by_cases e : i = 7 - n
        · subst e; exact h ⟨h3, Or.inl ih.1⟩
        · exact ih.2 i (by omega) h2 h3
      · refine Or.inr ⟨by omega, ih.2.1, ih.2.2.1, fun i h1 h2 h3 => ?_⟩
        by_cases e : i = 7 - n
        · subst e
          exact Or.inl (Nat.not_le.mp (fun q => h ⟨h3, Or.inr q⟩))
        · exact ih.2.2.2 i (by omega) h2 h3
theorem nxL_le {E : Nat → Nat} {p : Nat → Bool} {n : Nat} (hn : n ≤ 8) : nxL E p n ≤ 8 := by
  rcases nxL_ch (E := E) (p := p) hn with h | h <;> omega
theorem nxL_y {E : Nat → Nat} {p : Nat → Bool} {n c : Nat} (hc : n + (c + 1) = 8) (hp : p c = true) (h : nxL E p n = 8 ∨ E c ≤ E (nxL E p n)) : nxL E p (n + 1) = c := by
  have e : 7 - n = c := by omega
  rw [nxL, e, if_pos ⟨hp, h⟩]
theorem nxL_n {E : Nat → Nat} {p : Nat → Bool} {n c : Nat} (hc : n + (c + 1) = 8) (h : ¬ (p c = true ∧ (nxL E p n = 8 ∨ E c ≤ E (nxL E p n)))) : nxL E p (n + 1) = nxL E p n := by
  have e : 7 - n = c := by omega
  rw [nxL, e, if_neg h]
theorem nx_eq {F : FF} {Q : QQ} {t a : Nat} : ((nrB (dst F Q t 7) (aWS F Q a) 8).1 = 8 ∧ (nxL (fun u => farN F Q u t) (fun u => (aWS F Q a).testBit u) 8 = 8 ∨ farN F Q (nxL (fun u => farN F Q u t) (fun u => (aWS F Q a).testBit u) 8) t = 99)) ∨ ((nrB (dst F Q t 7) (aWS F Q a) 8).1 < 8 ∧ nxL (fun u => farN F Q u t) (fun u => (aWS F Q a).testBit u) 8 = (nrB (dst F Q t 7) (aWS F Q a) 8).1 ∧ dst F Q t 7 (nrB (dst F Q t 7) (aWS F Q a) 8).1 < 8) := by
  have h1 := nxL_ch (E := fun u => farN F Q u t) (p := fun u => (aWS F Q a).testBit u) (Nat.le_refl 8)
  have h2 := nrB_ch (D := dst F Q t 7) (S := aWS F Q a) (n := 8)
  rcases h2 with h2 | h2
  · refine Or.inl ⟨by rw [h2.1], ?_⟩
    rcases h1 with h1 | h1
    · exact Or.inl h1.1
    · have h3 := h2.2 _ h1.2.1 h1.2.2.1
      exact Or.inr (by rw [farN, if_neg (by omega)])
  · refine Or.inr ⟨h2.1, ?_, h2.2.2.2.1⟩
    rcases h1 with h1 | h1
    · exact absurd h2.2.1 (h1.2 _ (by omega) h2.1)
    · have h3 := h1.2.2.2 _ (by omega) h2.1 h2.2.1
      have h4 := h2.2.2.2.2 _ h1.2.1 h1.2.2.1
      have h5 : farN F Q (nrB (dst F Q t 7) (aWS F Q a) 8).1 t = dst F Q t 7 (nrB (dst F Q t 7) (aWS F Q a) 8).1 := by rw [farN, if_pos h2.2.2.2.1]
      have h6 := h2.2.2.2.1
      simp only [h5] at h3
      generalize hx : nxL (fun u => farN F Q u t) (fun u => (aWS F Q a).testBit u) 8 = x at *
      have h7 : farN F Q x t = dst F Q t 7 x := by
        rw [farN]; split
        · rfl
        · rename_i q
          rw [farN, if_neg q] at h3
          omega
      rw [h7] at h3
      omega
/-! the ring that is examined, as the law walks it: i steps made, R those gone through, at a, left to go -/
def VW (F : FF) (Q : QQ) (t i R a lf : Nat) : Prop := a < 8 ∧ R < 2 ^ 8 ∧ ((lf = 0 ∧ R = SRn F Q t) ∨ (¬ lf = 0 ∧ i < 8 ∧ srI (aWS F Q) (dst F Q t 7) t i R a ∧ ((i = 0 ∧ a = t ∧ lf = 100) ∨ (1 ≤ i ∧ lf = dst F Q t 7 a ∧ i + lf ≤ 8))))
theorem VW_0 {F : FF} {Q : QQ} {t : Nat} (ht : t < 8) : VW F Q t 0 0 t 100 := ⟨ht, by decide, Or.inr ⟨by decide, by decide, rfl, Or.inl ⟨rfl, rfl, rfl⟩⟩⟩
theorem VW_s {F : FF} {Q : QQ} {t i R a lf x : Nat} (ht : t < 8) (h : VW F Q t i R a lf) (hlf : ¬ lf = 0) (hx : x = nxL (fun u => farN F Q u t) (fun u => (aWS F Q a).testBit u) 8) :
    ((x = 8 ∨ farN F Q x t = 99) ∧ SRn F Q t = 0) ∨ (x < 8 ∧ farN F Q x t < 8 ∧ farN F Q x t < lf ∧ VW F Q t (i + 1) (R ||| 2 ^ a) x (farN F Q x t)) := by
  obtain ⟨ha, hR, h⟩ := h
  rcases h with h | ⟨_, hi, hI, hc⟩
  · exact absurd h.1 hlf
  · rcases nx_eq (F := F) (Q := Q) (t := t) (a := a) with h1 | ⟨h1, h2, h3⟩
    · rw [← hx] at h1
      exact Or.inl ⟨h1.2, (srI_none hi hI (by omega) h1.1).symm⟩
    · rw [← hx] at h2
      have h4 : farN F Q x t = dst F Q t 7 x := by rw [h2, farN, if_pos h3]
      have h5 : x < 8 := by omega
      rw [← h2] at h1 h3
      have hR2 : R ||| 2 ^ a < 2 ^ 8 := Nat.or_lt_two_pow hR (Nat.pow_lt_pow_right (by decide) ha)
      have hlt : dst F Q t 7 x < lf ∧ (i + 1) + dst F Q t 7 x ≤ 8 := by
        rcases hc with ⟨c1, c2, c3⟩ | ⟨c1, c2, c3⟩
        · omega
        · obtain ⟨d, hd⟩ : ∃ d, dst F Q t 7 a = d + 1 := ⟨dst F Q t 7 a - 1, by omega⟩
          have h6 := (ndU_eq (x := 0) ha hd (by omega)).2.2
          rw [← h2] at h6
          omega
      refine Or.inr ⟨h5, by omega, by omega, h5, hR2, ?_⟩
      rw [h4]
      by_cases h0 : dst F Q t 7 x = 0
      · refine Or.inl ⟨h0, ?_⟩
        have h7 := (dst_zero 7).mp h0
        exact srI_hit hi hI (by rw [← h2]; exact h7)
      · refine Or.inr ⟨h0, by omega, ?_, Or.inr ⟨by omega, rfl, hlt.2⟩⟩
        have h8 : ¬ x = t := fun q => h0 ((dst_zero 7).mpr q)
        have := srI_s hi hI (by rw [← h2]; exact h8) (by rw [← h2]; omega)
        rw [← h2] at this
        exact this
theorem VW_e {F : FF} {Q : QQ} {t i R a lf : Nat} (h : VW F Q t i R a lf) (h0 : lf = 0) : R = SRn F Q t := by
  rcases h.2.2 with q | q
  · exact q.2
  · exact absurd h0 q.1
/-! the victim, chosen in two rounds -/
def bsN (F : FF) (S : Nat) (al : Bool) : Nat → Nat
  | 0 => 8
  | n + 1 => if S.testBit n = true ∧ (al || !spB F n) = true ∧ (bsN F S al n = 8 ∨ betB F n (bsN F S al n) = true) then n else bsN F S al n
theorem bs_ch {F : FF} {S : Nat} {al : Bool} : ∀ {n : Nat}, n ≤ 8 → (bsN F S al n = 8 ∧ ∀ i, i < n → S.testBit i = true → (al || !spB F i) = false) ∨ (bsN F S al n < n ∧ S.testBit (bsN F S al n) = true ∧ (al || !spB F (bsN F S al n)) = true)
  | 0, _ => Or.inl ⟨rfl, fun i h => absurd h (Nat.not_lt_zero _)⟩
  | n + 1, hn => by
    have ih := bs_ch (F := F) (S := S) (al := al) (n := n) (by omega)
    rw [bsN]
    by_cases h : S.testBit n = true ∧ (al || !spB F n) = true ∧ (bsN F S al n = 8 ∨ betB F n (bsN F S al n) = true)
    · rw [if_pos h]
      exact Or.inr ⟨Nat.lt_succ_self _, h.1, h.2.1⟩
    · rw [if_neg h]
      rcases ih with ih | ih
      · refine Or.inl ⟨ih.1, fun i h1 h2 => ?_⟩
        by_cases e : i = n
        · subst e
          exact Bool.eq_false_iff.mpr (fun q => h ⟨h2, q, Or.inl ih.1⟩)
        · exact ih.2 i (by omega) h2
      · exact Or.inr ⟨by omega, ih.2⟩
theorem bs_le {F : FF} {S : Nat} {al : Bool} {n : Nat} (hn : n ≤ 8) : bsN F S al n ≤ 8 := by
  rcases bs_ch (F := F) (S := S) (al := al) hn with h | h <;> omega
theorem gb_bet {F : FF} {x y : Nat} (h : spB F x = spB F y) : gbB F x y = betB F x y := by
  rw [Bool.eq_iff_iff, gbB_i, h]
  constructor
  · rintro (q | q)
    · exact absurd q (Nat.lt_irrefl _)
    · exact q.2
  · exact fun q => Or.inr ⟨rfl, q⟩
theorem gb_sp {F : FF} {x y : Nat} (h : ¬ spB F x = spB F y) : gbB F x y = spB F y := by rw [gbB, if_pos h]
theorem cv_bs {F : FF} {S : Nat} : ∀ {n : Nat}, n ≤ 8 → cvB F S n = if bsN F S false n = 8 then bsN F S true n else bsN F S false n
  | 0, _ => rfl
  | n + 1, hn => by
    have ih := cv_bs (F := F) (S := S) (n := n) (by omega)
    have hf := bs_ch (F := F) (S := S) (al := false) (n := n) (by omega)
    have ht := bs_ch (F := F) (S := S) (al := true) (n := n) (by omega)
    rw [cvB, bsN, bsN]
    simp only [Bool.true_or, Bool.false_or, true_and] at hf ht ⊢
    by_cases hm : S.testBit n = true
    · cases hs : spB F n with
      | true =>
        simp only [hm, Bool.not_true, Bool.false_eq_true, false_and, and_false, if_false, true_and]
        rcases hf with hf | hf
        · rw [if_pos hf.1] at ih ⊢
          rw [ih]
          rcases ht with ht | ht
          · rw [if_pos (Or.inl ht.1), if_pos (Or.inl ht.1)]
          · have h1 : spB F (bsN F S true n) = true := by
              have := hf.2 _ ht.1 ht.2.1
              simpa using this
            rw [gb_bet (by rw [hs, h1])]
        · have h1 : spB F (bsN F S false n) = false := by simpa using hf.2.2
          have h2 : ¬ bsN F S false n = 8 := by omega
          rw [if_neg h2] at ih ⊢
          rw [ih, gb_sp (by rw [hs, h1]; decide), h1]
          simp [h2]
      | false =>
        simp only [hm, Bool.not_false, true_and]
        rcases hf with hf | hf
        · rw [if_pos hf.1] at ih
          rw [ih, if_pos (Or.inl hf.1), if_neg (show ¬ n = 8 by omega)]
          rcases ht with ht | ht
          · rw [if_pos (Or.inl ht.1)]
          · have h1 : spB F (bsN F S true n) = true := by
              have := hf.2 _ ht.1 ht.2.1
              simpa using this
            rw [if_pos (Or.inr (by rw [gb_sp (by rw [hs, h1]; decide), h1]))]
        · have h1 : spB F (bsN F S false n) = false := by simpa using hf.2.2
          have h2 : ¬ bsN F S false n = 8 := by omega
          rw [if_neg h2] at ih
          rw [ih, gb_bet (by rw [hs, h1])]
          by_cases hb : bsN F S false n = 8 ∨ betB F n (bsN F S false n) = true
          · rw [if_pos hb, if_neg (show ¬ n = 8 by omega)]
          · rw [if_neg hb, if_neg h2]
    · simp only [hm, false_and, if_false]
      exact ih
/-! the blockers -/
theorem clT_s {F : FF} {Q : QQ} {S n x : Nat} (h : (clT F Q S n).testBit x = true) : (clT F Q S (n + 1)).testBit x = true := by
  rw [clT]; split
  · rw [Nat.testBit_or, h, Bool.true_or]
  · exact h
theorem clT_in {F : FF} {Q : QQ} {S v x : Nat} (hv : S.testBit v = true) (hx : (aWS F Q v).testBit x = true) : ∀ n, v < n → (clT F Q S n).testBit x = true
  | 0, h => absurd h (Nat.not_lt_zero _)
  | n + 1, h => by
    by_cases e : v = n
    · subst e
      rw [clT, if_pos (clT_sub v v hv), Nat.testBit_or, hx, Bool.or_true]
    · exact clT_s (clT_in hv hx n (by omega))
theorem clR_up {F : FF} {Q : QQ} {S i : Nat} : ∀ {k m : Nat}, k ≤ m → (clR F Q S k).testBit i = true → (clR F Q S m).testBit i = true := by
  intro k m hkm h
  obtain ⟨d, rfl⟩ : ∃ d, m = k + d := ⟨m - k, by omega⟩
  clear hkm
  induction d with
  | zero => exact h
  | succ d ih => rw [show k + (d + 1) = (k + d) + 1 by omega, clR]; exact clT_sub 8 i ih
theorem wk_cl {F : FF} {Q : QQ} {t : Nat} : ∀ k v, (wkS F Q t (k + 1)).testBit v = true → (clR F Q (aWS F Q t) k).testBit v = true
  | 0, v, h => by
    obtain ⟨x, hx, h1, h2⟩ := wk_s.mp h
    have := wk_0.mp h1
    subst this
    exact h2
  | k + 1, v, h => by
    obtain ⟨x, hx, h1, h2⟩ := wk_s.mp h
    exact clT_in (wk_cl k x h1) h2 8 hx
theorem dst_ext {F : FF} {Q : QQ} {x v : Nat} (hx : x < 8) (hv : v < 8) (hw : awB F Q x v = true) : ∀ d w, w < 8 → dst F Q x 7 w = d → d < 8 → dst F Q v 7 w < 8
  | 0, w, _, hd, _ => by
    have := (dst_zero 7).mp hd
    subst this
    exact (dst_fwd hx hv hw (by rw [dst_self]; decide)).2
  | d + 1, w, hw8, hd, h8 => by
    obtain ⟨y, hy, h1, h2⟩ := dst_back (Nat.le_refl 7) hd (by omega)
    exact (dst_fwd hw8 hy h1 (dst_ext hx hv hw d y hy h2 (by omega))).2
theorem cl_P {F : FF} {Q : QQ} {S t : Nat} (ht : t < 8) (h : ∀ v, S.testBit v = true → v < 8 ∧ dst F Q v 7 t < 8) : ∀ n, ∀ v, (clT F Q S n).testBit v = true → v < 8 ∧ dst F Q v 7 t < 8
  | 0, v, hv => h v hv
  | n + 1, v, hv => by
    rw [clT] at hv
    by_cases hn : (clT F Q S n).testBit n = true
    · rw [if_pos hn, Nat.testBit_or, Bool.or_eq_true] at hv
      rcases hv with hv | hv
      · exact cl_P ht h n v hv
      · obtain ⟨h1, h2⟩ := aWS_8 hv
        obtain ⟨h3, h4⟩ := cl_P ht h n n hn
        exact ⟨h1, dst_ext h3 h1 h2 _ t ht rfl h4⟩
    · rw [if_neg hn] at hv
      exact cl_P ht h n v hv
theorem cl_reach {F : FF} {Q : QQ} {t : Nat} (ht : t < 8) : ∀ k v, (clR F Q (aWS F Q t) k).testBit v = true → v < 8 ∧ dst F Q v 7 t < 8
  | 0, v, h => by
    obtain ⟨h1, h2⟩ := aWS_8 h
    exact ⟨h1, (dst_fwd ht h1 h2 (by rw [dst_self]; decide)).2⟩
  | k + 1, v, h => cl_P ht (cl_reach ht k) 8 v h
def blB (F : FF) (Q : QQ) (t u : Nat) : Bool := decide (u ≠ t) && decide (farN F Q t u < 99)
theorem blk_eq {F : FF} {Q : QQ} {t : Nat} (ht : t < 8) : pcN (bits (fun u => (clR F Q (aWS F Q t) 7).testBit u && decide (u ≠ t)) 8) 8 = smN (fun u => if blB F Q t u then 1 else 0) 8 := by
  rw [bk_eq, bkN]
  refine smN_cg (fun u hu => ?_)
  have e : ((clR F Q (aWS F Q t) 7).testBit u && decide (u ≠ t)) = blB F Q t u := by
    rw [Bool.eq_iff_iff, blB, Bool.and_eq_true, Bool.and_eq_true, decide_eq_true_iff, decide_eq_true_iff]
    constructor
    · rintro ⟨h1, h2⟩
      have h3 := (cl_reach ht 7 u h1).2
      exact ⟨h2, by rw [farN, if_pos h3]; omega⟩
    · rintro ⟨h1, h2⟩
      refine ⟨?_, h1⟩
      have h3 : dst F Q u 7 t < 8 := Decidable.byContradiction (fun q => by rw [farN, if_neg q] at h2; omega)
      have h4 := wk_to (F := F) (Q := Q) (u := t) (t := u) _ 0 t ht (wk_0.mpr rfl) rfl h3
      rw [Nat.zero_add] at h4
      have h5 : ¬ dst F Q u 7 t = 0 := fun q => h1 ((dst_zero 7).mp q).symm
      obtain ⟨d, hd⟩ : ∃ d, dst F Q u 7 t = d + 1 := ⟨dst F Q u 7 t - 1, by omega⟩
      rw [hd] at h4
      exact clR_up (show d ≤ 7 by omega) (wk_cl d u h4)
  rw [e]
theorem lkN_law {F : FF} : lkN F 10 = smN (fun t => smN (fun r => if hldB F r t then 1 else 0) 10) 8 := by
  rw [lkN_sm, smN_ex]
/-! the law's numbers of the transactions -/
theorem ZA_at {F F' : FF} {z z' : Nat → Int32} {t : Nat} (h : ZA F z) (hz : ∀ j, (j < 6 * t ∨ 6 * t + 6 ≤ j) → z' j = z j) (hF : ∀ k, k < 5 → ∀ u, u ≠ t → F' k u = F k u)
    (e0 : z' (6 * t) = stI F' t) (e1 : z' (6 * t + 1) = F' 1 t) (e2 : z' (6 * t + 2) = F' 2 t) (e3 : z' (6 * t + 3) = F' 0 t) (e4 : z' (6 * t + 4) = F' 3 t) (e5 : z' (6 * t + 5) = mdZ F' t) : ZA F' z' := by
  intro u hu w hw
  by_cases e : u = t
  · subst e
    rcases (show w = 0 ∨ w = 1 ∨ w = 2 ∨ w = 3 ∨ w = 4 ∨ w = 5 by omega) with q | q | q | q | q | q <;> subst q
    · exact e0
    · exact e1
    · exact e2
    · exact e3
    · exact e4
    · exact e5
  · rw [hz _ (by omega), h u hu w hw]
    have f := fun k hk => hF k hk u e
    rcases (show w = 0 ∨ w = 1 ∨ w = 2 ∨ w = 3 ∨ w = 4 ∨ w = 5 by omega) with q | q | q | q | q | q <;> subst q
    · show stI F u = stI F' u
      rw [stI, stI, f 0 (by decide), f 3 (by decide)]
    · exact (f 1 (by decide)).symm
    · exact (f 2 (by decide)).symm
    · exact (f 0 (by decide)).symm
    · exact (f 3 (by decide)).symm
    · show mdZ F u = mdZ F' u
      rw [mdZ, mdZ, f 3 (by decide), f 4 (by decide)]
theorem ZA0 {F : FF} {z : Nat → Int32} {t : Nat} (h : ZA F z) (ht : t < 8) : z (6 * t) = stI F t := h t ht 0 (by decide)
theorem ZA1 {F : FF} {z : Nat → Int32} {t : Nat} (h : ZA F z) (ht : t < 8) : z (6 * t + 1) = F 1 t := h t ht 1 (by decide)
theorem ZA2 {F : FF} {z : Nat → Int32} {t : Nat} (h : ZA F z) (ht : t < 8) : z (6 * t + 2) = F 2 t := h t ht 2 (by decide)
theorem ZA3 {F : FF} {z : Nat → Int32} {t : Nat} (h : ZA F z) (ht : t < 8) : z (6 * t + 3) = F 0 t := h t ht 3 (by decide)
theorem ZA4 {F : FF} {z : Nat → Int32} {t : Nat} (h : ZA F z) (ht : t < 8) : z (6 * t + 4) = F 3 t := h t ht 4 (by decide)
theorem ZA5 {F : FF} {z : Nat → Int32} {t : Nat} (h : ZA F z) (ht : t < 8) : z (6 * t + 5) = mdZ F t := h t ht 5 (by decide)
theorem ud {f : Nat → Int32} {k j : Nat} {x : Int32} : upd f k x j = if j = k then x else f j := rfl
def rmA (z : Nat → Int32) (t : Nat) : Nat → Int32 := upd (upd (upd z (6 * t) (nI 1)) (6 * t + 4) (-1)) (6 * t + 5) (nI 0)
theorem ZA_rm {F : FF} {z : Nat → Int32} {t : Nat} (h : ZA F z) (ht : t < 8) (h0 : ¬ F 0 t = -1) : ZA (rmF F t) (rmA z t) := by
  have h3 : rmF F t 3 t = -1 := by rw [rmF_3, if_pos rfl]
  refine ZA_at h (t := t) (fun j hj => ?_) (fun k hk u hu => ?_) ?_ ?_ ?_ ?_ ?_ ?_
  · rw [rmA, pk_un (by omega), pk_un (by omega), pk_un (by omega)]
  · by_cases e : k = 3
    · subst e; rw [rmF_3, if_neg hu]
    · rw [rmF_ne e]
  · rw [rmA, pk_un (by omega), pk_un (by omega), pk_us, stI, rmF_ne (by decide), if_neg h0, h3, if_pos rfl]
  · rw [rmA, pk_un (by omega), pk_un (by omega), pk_un (by omega), ZA1 h ht, rmF_ne (by decide)]
  · rw [rmA, pk_un (by omega), pk_un (by omega), pk_un (by omega), ZA2 h ht, rmF_ne (by decide)]
  · rw [rmA, pk_un (by omega), pk_un (by omega), pk_un (by omega), ZA3 h ht, rmF_ne (by decide)]
  · rw [rmA, pk_un (by omega), pk_us, h3]
  · rw [rmA, pk_us, mdZ_n h3]; rfl
def grA (z : Nat → Int32) (t : Nat) : Nat → Int32 := upd z (6 * t + 1) (z (6 * t + 1) + nI 1)
theorem ZA_gr {F : FF} {z : Nat → Int32} {t r : Nat} {m : Int32} (h : ZA F z) (ht : t < 8) : ZA (grF F t r m) (grA z t) := by
  have g : ∀ k, k ≠ 1 → k ≠ 5 → grF F t r m k = F k := fun k h1 h5 => gr_ne h1 h5
  have g1 : ∀ u, grF F t r m 1 u = if u = t then F 1 t + nI 1 else F 1 u := fun u => by rw [grF, up_eq, up_ne (by decide)]; rfl
  refine ZA_at h (t := t) (fun j hj => ?_) (fun k hk u hu => ?_) ?_ ?_ ?_ ?_ ?_ ?_
  · rw [grA, pk_un (by omega)]
  · by_cases e : k = 1
    · subst e; rw [g1, if_neg hu]
    · rw [g k e (by omega)]
  · rw [grA, pk_un (by omega), ZA0 h ht, stI, stI, g 0 (by decide) (by decide), g 3 (by decide) (by decide)]
  · rw [grA, pk_us, ZA1 h ht, g1, if_pos rfl]
  · rw [grA, pk_un (by omega), ZA2 h ht, g 2 (by decide) (by decide)]
  · rw [grA, pk_un (by omega), ZA3 h ht, g 0 (by decide) (by decide)]
  · rw [grA, pk_un (by omega), ZA4 h ht, g 3 (by decide) (by decide)]
  · rw [grA, pk_un (by omega), ZA5 h ht, mdZ, mdZ, g 3 (by decide) (by decide), g 4 (by decide) (by decide)]
theorem ZA_rel {F : FF} {z : Nat → Int32} {t : Nat} (h : ZA F z) : ZA (relF F t) z := ZA_fr h (fun _ _ => rfl) (fun k hk => rel_ne (by omega))
def edA (z : Nat → Int32) (t : Nat) : Nat → Int32 := upd (upd (upd (upd z (6 * t) (nI 0)) (6 * t + 1) (-1)) (6 * t + 2) (-1)) (6 * t + 3) (-1)
theorem ZA_ed {F : FF} {z : Nat → Int32} {t : Nat} (h : ZA F z) (ht : t < 8) (h3 : F 3 t = -1) : ZA (up (up (up F 0 t (-1)) 1 t (-1)) 2 t (-1)) (edA z t) := by
  have g : ∀ k, k ≠ 0 → k ≠ 1 → k ≠ 2 → up (up (up F 0 t (-1)) 1 t (-1)) 2 t (-1) k = F k := fun k h0 h1 h2 => by rw [up_ne h2, up_ne h1, up_ne h0]
  have gt : ∀ k, k < 3 → up (up (up F 0 t (-1)) 1 t (-1)) 2 t (-1) k t = -1 := fun k hk => by
    rcases (show k = 0 ∨ k = 1 ∨ k = 2 by omega) with q | q | q <;> subst q <;> simp [up_ap]
  refine ZA_at h (t := t) (fun j hj => ?_) (fun k hk u hu => ?_) ?_ ?_ ?_ ?_ ?_ ?_
  · rw [edA, pk_un (by omega), pk_un (by omega), pk_un (by omega), pk_un (by omega)]
  · simp [up_ap, hu]
  · rw [edA, pk_un (by omega), pk_un (by omega), pk_un (by omega), pk_us, stI, gt 0 (by decide), if_pos rfl]
  · rw [edA, pk_un (by omega), pk_un (by omega), pk_us, gt 1 (by decide)]
  · rw [edA, pk_un (by omega), pk_us, gt 2 (by decide)]
  · rw [edA, pk_us, gt 0 (by decide)]
  · rw [edA, pk_un (by omega), pk_un (by omega), pk_un (by omega), pk_un (by omega), ZA4 h ht, g 3 (by decide) (by decide) (by decide)]
  · rw [edA, pk_un (by omega), pk_un (by omega), pk_un (by omega), pk_un (by omega), ZA5 h ht, mdZ, mdZ, g 3 (by decide) (by decide) (by decide), g 4 (by decide) (by decide) (by decide)]
def wtA (z : Nat → Int32) (t r : Nat) (m : Int32) : Nat → Int32 := upd (upd (upd z (6 * t) (nI 2)) (6 * t + 4) (nI r)) (6 * t + 5) m
theorem ZA_wt {F : FF} {z : Nat → Int32} {t r : Nat} {m : Int32} (h : ZA F z) (ht : t < 8) (hr : r < 10) (h0 : ¬ F 0 t = -1) : ZA (up (up F 3 t (nI r)) 4 t m) (wtA z t r m) := by
  have g : ∀ k, k ≠ 3 → k ≠ 4 → up (up F 3 t (nI r)) 4 t m k = F k := fun k h3 h4 => by rw [up_ne h4, up_ne h3]
  have g3 : up (up F 3 t (nI r)) 4 t m 3 t = nI r := by simp [up_ap]
  have g4 : up (up F 3 t (nI r)) 4 t m 4 t = m := by simp [up_ap]
  refine ZA_at h (t := t) (fun j hj => ?_) (fun k hk u hu => ?_) ?_ ?_ ?_ ?_ ?_ ?_
  · rw [wtA, pk_un (by omega), pk_un (by omega), pk_un (by omega)]
  · simp [up_ap, hu]
  · rw [wtA, pk_un (by omega), pk_un (by omega), pk_us, stI, g 0 (by decide) (by decide), if_neg h0, g3, if_neg (m1_nI (by omega))]
  · rw [wtA, pk_un (by omega), pk_un (by omega), pk_un (by omega), ZA1 h ht, g 1 (by decide) (by decide)]
  · rw [wtA, pk_un (by omega), pk_un (by omega), pk_un (by omega), ZA2 h ht, g 2 (by decide) (by decide)]
  · rw [wtA, pk_un (by omega), pk_un (by omega), pk_un (by omega), ZA3 h ht, g 0 (by decide) (by decide)]
  · rw [wtA, pk_un (by omega), pk_us, g3]
  · rw [wtA, pk_us, mdZ_w (by rw [g3]; exact m1_nI (by omega)), g4]
def stA (z : Nat → Int32) (t : Nat) (b : Int32) : Nat → Int32 := upd (upd (upd (upd z (6 * t) (nI 1)) (6 * t + 1) (nI 0)) (6 * t + 2) (nI 0)) (6 * t + 3) b
theorem ZA_st {F : FF} {z : Nat → Int32} {t : Nat} (h : ZA F z) (ht : t < 8) (h3 : F 3 t = -1) (hb : ¬ F 8 0 = -1) : ZA (startF F t) (stA z t (F 8 0)) := by
  have g : ∀ k, k ≠ 0 → k ≠ 1 → k ≠ 2 → k ≠ 8 → startF F t k = F k := fun k h0 h1 h2 h8 => by rw [startF, up_ne h8, up_ne h2, up_ne h1, up_ne h0]
  have g0 : startF F t 0 t = F 8 0 := by simp [startF, up_ap]
  have g1 : startF F t 1 t = nI 0 := by simp [startF, up_ap]
  have g2 : startF F t 2 t = nI 0 := by simp [startF, up_ap]
  refine ZA_at h (t := t) (fun j hj => ?_) (fun k hk u hu => ?_) ?_ ?_ ?_ ?_ ?_ ?_
  · rw [stA, pk_un (by omega), pk_un (by omega), pk_un (by omega), pk_un (by omega)]
  · have : k ≠ 8 := by omega
    simp [startF, up_ap, hu, this]
  · rw [stA, pk_un (by omega), pk_un (by omega), pk_un (by omega), pk_us, stI, g0, if_neg hb, g 3 (by decide) (by decide) (by decide) (by decide), h3, if_pos rfl]
  · rw [stA, pk_un (by omega), pk_un (by omega), pk_us, g1]
  · rw [stA, pk_un (by omega), pk_us, g2]
  · rw [stA, pk_us, g0]
  · rw [stA, pk_un (by omega), pk_un (by omega), pk_un (by omega), pk_un (by omega), ZA4 h ht, g 3 (by decide) (by decide) (by decide) (by decide)]
  · rw [stA, pk_un (by omega), pk_un (by omega), pk_un (by omega), pk_un (by omega), ZA5 h ht, mdZ, mdZ, g 3 (by decide) (by decide) (by decide) (by decide), g 4 (by decide) (by decide) (by decide) (by decide)]
/-- one of the counts of a transaction -/
theorem ZA_k {F : FF} {z : Nat → Int32} {t k : Nat} {v : Int32} (h : ZA F z) (ht : t < 8) (hk : k = 1 ∨ k = 2) : ZA (up F k t v) (upd z (6 * t + k) v) := by
  refine ZA_at h (t := t) (fun j hj => pk_un (by omega)) (fun q hq u hu => by simp [up_ap, hu]) ?_ ?_ ?_ ?_ ?_ ?_
  · rw [pk_un (by omega), ZA0 h ht, stI, stI, up_ne (by omega), up_ne (by omega)]
  · rcases hk with q | q <;> subst q
    · rw [pk_us, up_eq, pk_us]
    · rw [pk_un (by omega), ZA1 h ht, up_ne (by decide)]
  · rcases hk with q | q <;> subst q
    · rw [pk_un (by omega), ZA2 h ht, up_ne (by decide)]
    · rw [pk_us, up_eq, pk_us]
  · rw [pk_un (by omega), ZA3 h ht, up_ne (by omega)]
  · rw [pk_un (by omega), ZA4 h ht, up_ne (by omega)]
  · rw [pk_un (by omega), ZA5 h ht, mdZ, mdZ, up_ne (by omega), up_ne (by omega)]
theorem ZA_8 {F : FF} {z : Nat → Int32} {k : Nat} {v : Int32} (h : ZA F z) : ZA (up F 8 k v) z := ZA_fr h (fun _ _ => rfl) (fun k hk => up_ne (by omega))
/-- the law's three counts -/
def GG (F : FF) (f : Nat → Int32) : Prop := ∀ k, k < 3 → f k = F 8 k
theorem GG_cg {F F' : FF} {f : Nat → Int32} (h : GG F f) (h8 : F' 8 = F 8) : GG F' f := fun k hk => by rw [h k hk, h8]
theorem GG_up {F : FF} {f : Nat → Int32} {k : Nat} {v : Int32} (h : GG F f) : GG (up F 8 k v) (upd f k v) := fun j hj => by
  rw [ud, up_ap]
  by_cases e : j = k
  · simp [e]
  · simp [e, h j hj]
