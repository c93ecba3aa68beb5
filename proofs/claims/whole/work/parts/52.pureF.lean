/-! why a call is refused -/
def wB (F : FF) (p : Int32) : Nat := if inI p 8 = false then 1 else if stI F (ix p) = 0 then 0 else 2
def wR (F : FF) (p q m : Int32) : Nat := if inI p 8 = false then 1 else if inI q 10 = false then 1 else if mdB m = false then 2 else if stI F (ix p) = nI 1 then 0 else 3
def wW (F : FF) (p a : Int32) : Nat := if inI p 8 = false then 1 else if inB a (nI 1) (nI 1000) = false then 2 else if stI F (ix p) = nI 1 then 0 else 3
def wD (F : FF) (p : Int32) : Nat := if inI p 8 = false then 1 else if stI F (ix p) = nI 2 then 0 else 2
def wC (F : FF) (p : Int32) : Nat := if inI p 8 = false then 1 else if stI F (ix p) = nI 1 then 0 else 2
def wA (F : FF) (p : Int32) : Nat := if inI p 8 = false then 1 else if stI F (ix p) = 0 then 2 else 0
theorem i8 {t : Nat} (h : t < 8) : inI (nI t) 8 = true := inI_n h (by decide)
theorem i10 {r : Nat} (h : r < 10) : inI (nI r) 10 = true := inI_n h (by decide)
/-! a transaction begins -/
def stZ0 (z : Nat → Int32) (t : Nat) : Nat → Int32 := upd (upd (upd z (6 * t + 0) (nI 1)) (6 * t + 1) (nI 0)) (6 * t + 2) (nI 0)
def stZ (z : Nat → Int32) (t : Nat) : Nat → Int32 := upd (upd (stZ0 z t) (6 * t + 3) (stZ0 z t 218)) 218 (upd (stZ0 z t) (6 * t + 3) (stZ0 z t 218) 218 + nI 1)
theorem stZ_ap {z : Nat → Int32} {t j : Nat} (ht : t < 8) : stZ z t j = if j = 6 * t then nI 1 else if j = 6 * t + 1 ∨ j = 6 * t + 2 then nI 0 else if j = 6 * t + 3 then z 218 else if j = 218 then z 218 + nI 1 else z j := by
  have e0 : stZ0 z t 218 = z 218 := by rw [stZ0, pk_un (by omega), pk_un (by omega), pk_un (by omega)]
  rw [stZ, e0, pk_un (show 218 ≠ 6 * t + 3 by omega), e0]
  by_cases h5 : j = 218
  · rw [h5, pk_us, if_neg (by omega), if_neg (by omega), if_neg (by omega), if_pos rfl]
  rw [pk_un h5]
  by_cases h4 : j = 6 * t + 3
  · rw [h4, pk_us, if_neg (by omega), if_neg (by omega), if_pos rfl]
  rw [pk_un h4, stZ0]
  by_cases h3 : j = 6 * t + 2
  · rw [h3, pk_us, if_neg (by omega), if_pos (Or.inr rfl)]
  rw [pk_un h3]
  by_cases h2 : j = 6 * t + 1
  · rw [h2, pk_us, if_neg (by omega), if_pos (Or.inl rfl)]
  rw [pk_un h2]
  by_cases h1 : j = 6 * t + 0
  · rw [h1, pk_us, if_pos (by omega)]
  rw [pk_un h1, if_neg (by omega), if_neg (by omega), if_neg h4, if_neg h5]
theorem RZ_st {F : FF} {Q : QQ} {z : Nat → Int32} {t : Nat} (hJ : JJ F Q) (h : RZ F Q z) (ht : t < 8) (h0 : F 0 t = -1) (hn : ¬ F 8 0 = -1) : RZ (startF F t) Q (stZ z t) := by
  obtain ⟨a, b, c, d, s⟩ := h
  have h3 := hJ.2.2.2.1 t ht h0
  have e8 : z 218 = F 8 0 := s 0 (by decide)
  refine ⟨fun u hu w hw => ?_, ZL_fr b (fun j h1 h2 => by rw [stZ_ap ht, if_neg (by omega), if_neg (by omega), if_neg (by omega), if_neg (by omega)]) (by rw [startF, up_ne (by decide), up_ne (by decide), up_ne (by decide), up_ne (by decide)]), ZN_fr c (fun j h1 h2 => by rw [stZ_ap ht, if_neg (by omega), if_neg (by omega), if_neg (by omega), if_neg (by omega)]), ZQ_fr d (fun r hr => JJ_len hJ hr) (fun j h1 h2 => by rw [stZ_ap ht, if_neg (by omega), if_neg (by omega), if_neg (by omega), if_neg (by omega)]), fun k hk => ?_⟩
  · rw [stZ_ap ht, e8]
    by_cases e : u = t
    · subst e
      match w with
      | 0 => rw [if_pos (by omega)]; simp [cA, stI, startF, up_ap, h3, hn]
      | 1 => rw [if_neg (by omega), if_pos (by omega)]; simp [cA, startF, up_ap]
      | 2 => rw [if_neg (by omega), if_pos (by omega)]; simp [cA, startF, up_ap]
      | 3 => rw [if_neg (by omega), if_neg (by omega), if_pos (by omega)]; simp [cA, startF, up_ap]
      | 4 => rw [if_neg (by omega), if_neg (by omega), if_neg (by omega), if_neg (by omega), a u hu 4 hw]; simp [cA, startF, up_ap]
      | 5 => rw [if_neg (by omega), if_neg (by omega), if_neg (by omega), if_neg (by omega), a u hu 5 hw]; simp [cA, mdZ, startF, up_ap]
    · rw [if_neg (by omega), if_neg (by omega), if_neg (by omega), if_neg (by omega), a u hu w hw]
      match w with
      | 0 => simp [cA, stI, startF, up_ap, e]
      | 1 => simp [cA, startF, up_ap, e]
      | 2 => simp [cA, startF, up_ap, e]
      | 3 => simp [cA, startF, up_ap, e]
      | 4 => simp [cA, startF, up_ap]
      | _ + 5 => simp [cA, mdZ, startF, up_ap]
  · rw [stZ_ap ht, if_neg (by omega), if_neg (by omega), if_neg (by omega)]
    by_cases e : k = 0
    · subst e
      rw [if_pos rfl, e8, startF, up_ap, if_pos ⟨rfl, rfl⟩]
    · rw [if_neg (by omega), s k hk, startF, up_ap, if_neg (by omega), up_ap, if_neg (by omega), up_ap, if_neg (by omega), up_ap, if_neg (by omega)]
theorem st_birth {z : Nat → Int32} {t : Nat} (ht : t < 8) : stZ z t (6 * t + 3) = z 218 := by
  rw [stZ_ap ht, if_neg (by omega), if_neg (by omega), if_pos rfl]
/-- births are below a bound, and told apart -/
def JC (n : Nat) (F : FF) : Prop := ∃ b, b ≤ n ∧ F 8 0 = nI b ∧ (∀ x, x < 8 → F 0 x = -1 ∨ ∃ c, c < b ∧ F 0 x = nI c) ∧ JB F
theorem JC.mono {n n' : Nat} {F : FF} (h : JC n F) (hn : n ≤ n') : JC n' F := by
  obtain ⟨b, h1, h2, h3, h4⟩ := h; exact ⟨b, by omega, h2, h3, h4⟩
theorem JC.jb {n : Nat} {F : FF} (h : JC n F) : JB F := h.choose_spec.2.2.2
theorem JC.cg {n : Nat} {F G : FF} (h : JC n F) (h0 : ∀ x, x < 8 → G 0 x = F 0 x ∨ G 0 x = -1) (h8 : G 8 0 = F 8 0) : JC n G := by
  obtain ⟨b, h1, h2, h3, h4⟩ := h
  refine ⟨b, h1, h8.trans h2, fun x hx => ?_, fun x hx y hy hn e => ?_⟩
  · rcases h0 x hx with q | q
    · rw [q]; exact h3 x hx
    · exact Or.inl q
  · rcases h0 x hx with q | q
    · rcases h0 y hy with r | r
      · rw [q, r] at e; rw [q] at hn; exact h4 x hx y hy hn e
      · exact absurd (e.trans r) hn
    · exact absurd q hn
theorem JC.n8 {n : Nat} {F : FF} (h : JC n F) (hn : n < 2 ^ 31) : ¬ F 8 0 = -1 := by
  obtain ⟨b, h1, h2, _⟩ := h
  rw [h2]; exact m1_nI (by omega)
theorem JC.st {n t : Nat} {F : FF} (h : JC n F) (hn : n < 2 ^ 31) : JC (n + 1) (startF F t) := by
  obtain ⟨b, h1, h2, h3, h4⟩ := h
  have e0 : ∀ x, startF F t 0 x = if x = t then nI b else F 0 x := fun x => by
    rw [startF, up_ap, if_neg (by omega), up_ap, if_neg (by omega), up_ap, if_neg (by omega), up_ap, h2]
    by_cases e : x = t
    · rw [if_pos ⟨rfl, e⟩, if_pos e]
    · rw [if_neg (fun q => e q.2), if_neg e]
  refine ⟨b + 1, by omega, by rw [startF, up_ap, if_pos ⟨rfl, rfl⟩, h2, nI_add], fun x hx => ?_, fun x hx y hy hx0 e => ?_⟩
  · rw [e0]
    by_cases q : x = t
    · rw [if_pos q]; exact Or.inr ⟨b, by omega, rfl⟩
    · rw [if_neg q]
      rcases h3 x hx with r | ⟨c, r1, r2⟩
      · exact Or.inl r
      · exact Or.inr ⟨c, by omega, r2⟩
  · rw [e0] at hx0 e
    rw [e0] at e
    by_cases qx : x = t
    · by_cases qy : y = t
      · rw [qx, qy]
      · rw [if_pos qx, if_neg qy] at e
        rcases h3 y hy with r | ⟨c, r1, r2⟩
        · rw [r] at e; exact absurd e (m1_nI (by omega))
        · rw [r2] at e; have := nI_inj (by omega) (by omega) e; omega
    · rw [if_neg qx] at hx0 e
      by_cases qy : y = t
      · rw [if_pos qy] at e
        rcases h3 x hx with r | ⟨c, r1, r2⟩
        · exact absurd r hx0
        · rw [r2] at e; have := nI_inj (by omega) (by omega) e; omega
      · rw [if_neg qy] at e; exact h4 x hx y hy hx0 e
/-! a request -/
theorem pl_ge {F : FF} {Q : QQ} {t r : Nat} {mo : Int32} (hJ : JJ F Q) (ht : t < 8) (hr : r < 10) (hm : mo = nI 1 ∨ mo = nI 2) : (¬ lk F t r < mo → plS F t r mo = true) ∧ (lk F t r < mo → plS F t r mo = false ∧ (lk F t r = nI 1 → mo = nI 2)) := by
  rw [plS]
  rcases hm with e | e <;> rcases hJ.2.2.2.2.1 t ht r hr with q | q | q <;> rw [e, q] <;> decide
theorem oh_eq {F : FF} {t r : Nat} : alN (fun u => decide (u = t) || lk F u r == 0) 8 = (bits (rivB F t r (nI 2)) 8 == 0) := by
  rw [← alN_bits]
  congr 1
  funext u
  rw [rivB, compB]
  by_cases e : u = t
  · simp [e]
  · simp [e, nI2_1]
theorem plG_1 {F : FF} {Q : QQ} {t r : Nat} {mo : Int32} {b : Bool} (hm : mo = nI 2) (h1 : lk F t r = nI 1) (h : alN (fun u => decide (u = t) || lk F u r == 0) 8 = b) : plG F Q t r mo = b := by
  rw [plG, hm, ← oh_eq, h, h1]; simp
theorem plG_2 {F : FF} {Q : QQ} {t r : Nat} {mo : Int32} {b : Bool} (hq : qlen Q r = 0) (h : alN (fun u => !rivB F t r mo u) 8 = b) : plG F Q t r mo = b := by
  rw [plG, ← alN_bits, h, hq]; simp
theorem plG_3 {F : FF} {Q : QQ} {t r : Nat} {mo : Int32} (h1 : ¬ lk F t r = nI 1) (hq : ¬ qlen Q r = 0) : plG F Q t r mo = false := by
  rw [plG, bq_f h1]
  have : (qlen Q r == 0) = false := by simpa using hq
  rw [this]; rfl
theorem out_same {F : FF} {t r : Nat} {mo : Int32} (h : plS F t r mo = true) : outI F t r mo = nI 1 := by
  rw [plS, Bool.or_eq_true, beq_iff_eq, beq_iff_eq] at h
  rw [outI, if_pos h]
theorem out_gr {F : FF} {t r : Nat} {mo : Int32} (hr : r < 10) : outI (grF F t r mo) t r mo = nI 1 := by
  have h : lk (grF F t r mo) t r = mo := by rw [lk_gr hr hr, if_pos ⟨rfl, rfl⟩]
  rw [outI, if_pos (Or.inl h)]
theorem cnt_le {F : FF} {L : List Nat} {r p : Nat} (h : ∀ j, j < p → lk F (L.getD j 0) r = nI 1) : ∀ i, i ≤ p → cntU F L r i = i
  | 0, _ => rfl
  | i + 1, hi => by rw [cntU, cnt_le h i (by omega), h i (by omega)]; simp
theorem cnt_at {F : FF} {L : List Nat} {r p : Nat} (hp : L.Pairwise (fun x y => lk F y r = nI 1 → lk F x r = nI 1)) (h : ∀ j, j < p → lk F (L.getD j 0) r = nI 1) (he : ¬ lk F (L.getD p 0) r = nI 1) : ∀ i, p ≤ i → i ≤ L.length → cntU F L r i = p
  | 0, h0, _ => by
    have : p = 0 := by omega
    rw [this]; rfl
  | i + 1, hi, hl => by
    by_cases e : p = i + 1
    · rw [e]; exact cnt_le (p := i + 1) (fun j hj => h j (by omega)) _ (Nat.le_refl _)
    · rw [cntU, cnt_at hp h he i (by omega) (by omega)]
      have hf : ¬ lk F (L.getD i 0) r = nI 1 := fun q => by
        by_cases e2 : p = i
        · subst e2; exact he q
        · have h1 := List.pairwise_iff_getElem.mp hp p i (by omega) (by omega) (by omega)
          rw [List.getD_eq_getElem?_getD, List.getElem?_eq_getElem (by omega)] at he q
          exact he (h1 q)
      rw [bq_f hf]; rfl
theorem ins_1 {F : FF} {Q : QQ} {t r p : Nat} (hJ : JJ F Q) (hr : r < 10) (h1 : lk F t r = nI 1) (hp : p ≤ qlen Q r) (h : ∀ j, j < p → lk F ((Q r).getD j 0) r = nI 1) (he : p = qlen Q r ∨ ¬ lk F ((Q r).getD p 0) r = nI 1) : p = insN F Q t r := by
  rw [insN, if_pos h1]
  rcases he with e | e
  · rw [← e]; exact (cnt_le h p (Nat.le_refl _)).symm
  · exact (cnt_at (hJ.2.2.2.2.2.2 r hr) h e _ hp (Nat.le_refl _)).symm
theorem ins_2 {F : FF} {Q : QQ} {t r : Nat} (h1 : ¬ lk F t r = nI 1) : qlen Q r = insN F Q t r := by rw [insN, if_neg h1]
theorem brS_lt {t : Nat} : ∀ n {F : FF} {Q : QQ} {V : Nat}, V < 2 ^ 8 → (brS t n F Q V).2.2 < 2 ^ 8
  | 0, _, _, _, h => h
  | n + 1, F, Q, V, h => by
    rw [brS]; split
    · exact h
    · rename_i q
      have := vic_le F Q t
      exact brS_lt n (Nat.or_lt_two_pow h (Nat.pow_lt_pow_right (by decide) (by omega)))
theorem brV_lt {F : FF} {Q : QQ} {t : Nat} : brV F Q t < 2 ^ 8 := brS_lt 8 (by decide)
theorem out_w {F : FF} {Q : QQ} {t r : Nat} {mo : Int32} (hJ : JJ F Q) (ht : t < 8) (hr : r < 10) (hm : mo = nI 1 ∨ mo = nI 2) (h3 : F 3 t = nI r) (h4 : F 4 t = mo) : outI F t r mo = nI 2 := by
  have h6 := hJ.2.2.2.2.2.1 r hr t (JJ_in hJ ht hr h3)
  rw [h4] at h6
  have hn : ¬ F 3 t = -1 := by rw [h3]; exact m1_nI (by omega)
  rw [outI, if_neg hn, if_neg]
  rcases h6 with ⟨e1, e2⟩ | ⟨e1, e2 | e2⟩ <;> rw [e1, e2] <;> decide
theorem out_a {F : FF} {t r : Nat} {mo : Int32} (hm : mo = nI 1 ∨ mo = nI 2) (h3 : F 3 t = -1) (hl : lk F t r = 0) : outI F t r mo = nI 3 := by
  rw [outI, hl, if_pos h3, if_neg]
  rcases hm with e | e <;> rw [e] <;> decide
theorem out_g {F : FF} {t r : Nat} {mo : Int32} (hl : lk F t r = mo) : outI F t r mo = nI 1 := by
  rw [outI, if_pos (Or.inl hl)]
theorem ask_out {F : FF} {Q : QQ} {t r : Nat} {mo : Int32} (hJ : JJ F Q) (ht : t < 8) (hr : r < 10) (h3 : F 3 t = -1) (h0 : ¬ F 0 t = -1) (hm : mo = nI 1 ∨ mo = nI 2) (es : plS F t r mo = false) (eg : plG F Q t r mo = false) :
    (bitN (brV (plF F Q t r mo) (plQ F Q t r mo) t) t = 1 → outI (brF (plF F Q t r mo) (plQ F Q t r mo) t) t r mo = nI 3) ∧ (¬ bitN (brV (plF F Q t r mo) (plQ F Q t r mo) t) t = 1 → stI (brF (plF F Q t r mo) (plQ F Q t r mo) t) t = nI 2 → outI (brF (plF F Q t r mo) (plQ F Q t r mo) t) t r mo = nI 2) ∧ (¬ bitN (brV (plF F Q t r mo) (plQ F Q t r mo) t) t = 1 → ¬ stI (brF (plF F Q t r mo) (plQ F Q t r mo) t) t = nI 2 → outI (brF (plF F Q t r mo) (plQ F Q t r mo) t) t r mo = nI 1) := by
  have hJ1 := JJ_pl hJ ht hr h3 h0 hm
  have hJ2 : JJ (brF (plF F Q t r mo) (plQ F Q t r mo) t) (brQ (plF F Q t r mo) (plQ F Q t r mo) t) := JJ_br (s := t) 8 (V := 0) hJ1
  have h := br_out (mo := mo) ht hr 8 (V := 0) hJ1 (Or.inl (by
    rw [(pl_wait es eg).1, up_ne (by decide), up_eq, pk_us, up_eq, pk_us, Nat.zero_testBit]; exact ⟨rfl, rfl, by decide⟩))
  generalize hG : brS t 8 (plF F Q t r mo) (plQ F Q t r mo) 0 = G at h
  have gF : brF (plF F Q t r mo) (plQ F Q t r mo) t = G.1 := by rw [brF, hG]
  have gQ : brQ (plF F Q t r mo) (plQ F Q t r mo) t = G.2.1 := by rw [brQ, hG]
  have gV : brV (plF F Q t r mo) (plQ F Q t r mo) t = G.2.2 := by rw [brV, hG]
  rw [gF, gQ] at hJ2
  rw [gF, gV, bitN_1]
  have hj3 := st_w hJ2 ht
  rcases h with ⟨a, b, c⟩ | ⟨a, b, c⟩ | ⟨a, b, c⟩
  · exact ⟨fun q => absurd q c, fun _ _ => out_w hJ2 ht hr hm a b, fun _ q => absurd (hj3.mpr (by rw [a]; exact m1_nI (by omega))) q⟩
  · exact ⟨fun _ => out_a hm a c, fun q => absurd b q, fun q => absurd b q⟩
  · exact ⟨fun q => absurd q b, fun _ q => absurd a (hj3.mp q), fun _ _ => out_g c⟩
/-! what is saved -/
def HZ (HS : List (FF × QQ)) (sd : Nat → Int32) : Prop := ∀ k q, HS[k]? = some q → RZ q.1 q.2 (fun i => sd (221 * (HS.length - 1 - k) + i))
def shS (sd : Nat → Int32) (k : Nat) : Nat → Int32 := fun j => if j < k then sd (221 + j) else sd j
theorem shS_0 {sd : Nat → Int32} : shS sd 0 = sd := by funext j; rw [shS, if_neg (Nat.not_lt_zero _)]
theorem shS_s {sd : Nat → Int32} {k : Nat} : upd (shS sd k) k (shS sd k (221 + k)) = shS sd (k + 1) := by
  funext j
  by_cases h : j = k
  · rw [h, pk_us, shS, if_neg (by omega), shS, if_pos (by omega)]
  · rw [pk_un h, shS, shS]
    by_cases h2 : j < k
    · rw [if_pos h2, if_pos (by omega)]
    · rw [if_neg h2, if_neg (by omega)]
def cpS (z sd : Nat → Int32) (o k : Nat) : Nat → Int32 := fun j => if o ≤ j ∧ j < o + k then z (j - o) else sd j
theorem cpS_0 {z sd : Nat → Int32} {o : Nat} : cpS z sd o 0 = sd := by funext j; rw [cpS, if_neg (by omega)]
theorem cpS_s {z sd : Nat → Int32} {o k : Nat} : upd (cpS z sd o k) (o + k) (z k) = cpS z sd o (k + 1) := by
  funext j
  by_cases h : j = o + k
  · rw [h, pk_us, cpS, if_pos (by omega)]; congr 1; omega
  · rw [pk_un h, cpS, cpS]
    by_cases h2 : o ≤ j ∧ j < o + k
    · rw [if_pos h2, if_pos (by omega)]
    · rw [if_neg h2, if_neg (by omega)]
theorem HZ_push {F : FF} {Q : QQ} {z sd : Nat → Int32} {HS : List (FF × QQ)} (hJ : JJ F Q) (hZ : RZ F Q z) (hHJ : ∀ q ∈ HS, JJ q.1 q.2) (h : HZ HS sd) (hl : HS.length < 8) : HZ ((F, Q) :: HS) (cpS z sd (221 * HS.length) 221) := fun k q hq => by
  cases k with
  | zero =>
    cases Option.some.inj hq
    refine RZ_cg hJ hZ (fun j hj => ?_)
    show cpS z sd (221 * HS.length) 221 (221 * (HS.length + 1 - 1 - 0) + j) = z j
    rw [cpS, if_pos (by omega)]; congr 1; omega
  | succ k =>
    have hq2 : HS[k]? = some q := hq
    have hk : k < HS.length := (List.getElem?_eq_some_iff.mp hq2).1
    refine RZ_cg (hHJ q (List.mem_of_getElem? hq2)) (h k q hq2) (fun j hj => ?_)
    show cpS z sd (221 * HS.length) 221 (221 * (HS.length + 1 - 1 - (k + 1)) + j) = sd (221 * (HS.length - 1 - k) + j)
    have e : HS.length + 1 - 1 - (k + 1) = HS.length - 1 - k := by omega
    rw [e, cpS, if_neg (by omega)]
theorem HZ_drop {sd : Nat → Int32} {HS : List (FF × QQ)} (hHJ : ∀ q ∈ HS, JJ q.1 q.2) (h : HZ HS sd) (hl : HS.length = 8) : HZ (HS.take 7) (shS sd 1547) := fun k q hq => by
  have hlt : (HS.take 7).length = 7 := by rw [List.length_take, hl]; rfl
  have hk : k < 7 := by have := (List.getElem?_eq_some_iff.mp hq).1; omega
  have hq2 : HS[k]? = some q := by rw [← hq, List.getElem?_take, if_pos hk]
  refine RZ_cg (hHJ q (List.mem_of_getElem? hq2)) (h k q hq2) (fun j hj => ?_)
  show shS sd 1547 (221 * ((HS.take 7).length - 1 - k) + j) = sd (221 * (HS.length - 1 - k) + j)
  rw [hlt, hl, shS, if_pos (by omega)]; congr 1; omega
def pu (F : FF) (Q : QQ) (HS : List (FF × QQ)) : List (FF × QQ) := ((F, Q) :: HS).take 8
theorem pu_lt {F : FF} {Q : QQ} {HS : List (FF × QQ)} (h : HS.length < 8) : pu F Q HS = (F, Q) :: HS := List.take_of_length_le (by simp; omega)
theorem pu_8 {F : FF} {Q : QQ} {HS : List (FF × QQ)} : pu F Q HS = (F, Q) :: HS.take 7 := rfl
theorem HJ_take {HS : List (FF × QQ)} {n : Nat} (h : ∀ q ∈ HS, JJ q.1 q.2) : ∀ q ∈ HS.take n, JJ q.1 q.2 := fun q hq => h q (List.mem_of_mem_take hq)
theorem HZ_un {sd z : Nat → Int32} {x : FF × QQ} {HS : List (FF × QQ)} (hJ : JJ x.1 x.2) (h : HZ (x :: HS) sd) : HZ HS sd ∧ RZ x.1 x.2 (mixI (fun i => sd (221 * HS.length + i)) z 221) := by
  refine ⟨fun k q hq => ?_, ?_⟩
  · have hk : k < HS.length := (List.getElem?_eq_some_iff.mp hq).1
    have := h (k + 1) q hq
    rw [show (x :: HS).length - 1 - (k + 1) = HS.length - 1 - k by simp; omega] at this
    exact this
  · have := h 0 x rfl
    refine RZ_cg hJ this (fun j hj => ?_)
    rw [mixI, if_pos hj]
    rfl
