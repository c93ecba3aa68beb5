abbrev FF : Type := Nat → Nat → Int32
abbrev QQ : Type := Nat → List Nat
def up (F : FF) (k i : Nat) (v : Int32) : FF := fun k' => if k' = k then upd (F k) i v else F k'
def qlen (Q : QQ) (x : Nat) : Nat := (Q x).length
/-- a lock table's cells: births, works, aborts, wantedResources, wantedModes, locks, queues, lengths; the numbers are F 8 -/
abbrev tblW (cI : ClassId) (a : Nat → Nat) (F : FF) (Q : QQ) (qa : Nat → Int32) : va_W :=
  [(a 0, .inr (2, [.ref (a 1), .ref (a 2), .ref (a 3), .ref (a 4), .ref (a 5), .ref (a 6), .ref (a 7), .ref (a 8), .int (F 8 0), .int (F 8 1), .int (F 8 2)])),
   (a 1, .inl (cI, 8, .inl (F 0))), (a 2, .inl (cI, 8, .inl (F 1))), (a 3, .inl (cI, 8, .inl (F 2))), (a 4, .inl (cI, 8, .inl (F 3))), (a 5, .inl (cI, 8, .inl (F 4))),
   (a 6, .inl (cI, 80, .inl (F 5))), (a 7, .inl (cI, 80, .inl qa)), (a 8, .inl (cI, 10, .inl (fun z => nI (qlen Q z))))]
/-! sets of numbers -/
def bits (p : Nat → Bool) : Nat → Nat
  | 0 => 0
  | n + 1 => if p n then bits p n + 2 ^ n else bits p n
theorem bits_lt (p : Nat → Bool) : ∀ n, bits p n < 2 ^ n
  | 0 => by simp [bits]
  | n + 1 => by
    have h := bits_lt p n
    rw [bits, Nat.pow_succ]
    split <;> omega
theorem bits_tb (p : Nat → Bool) (i : Nat) : ∀ n, (bits p n).testBit i = (decide (i < n) && p i)
  | 0 => by simp [bits]
  | n + 1 => by
    have h := bits_tb p i n
    have hl := bits_lt p n
    rw [bits]
    by_cases hp : p n = true
    · rw [if_pos hp]
      have e := Nat.two_pow_add_eq_or_of_lt hl 1
      rw [Nat.mul_one] at e
      rw [Nat.add_comm, e, Nat.testBit_or, h, Nat.testBit_two_pow]
      rcases Nat.lt_trichotomy i n with q | q | q
      · simp [q, Nat.lt_succ_of_lt q, show ¬ n = i by omega]
      · subst q
        simp [hp]
      · simp [Nat.not_lt.mpr (Nat.le_of_lt q), show ¬ i < n + 1 by omega, show ¬ n = i by omega]
    · rw [if_neg hp, h]
      rcases Nat.lt_trichotomy i n with q | q | q
      · simp [q, Nat.lt_succ_of_lt q]
      · subst q
        simp [Bool.eq_false_iff.mpr hp]
      · simp [Nat.not_lt.mpr (Nat.le_of_lt q), show ¬ i < n + 1 by omega]
theorem bits_cong {p q : Nat → Bool} : ∀ {n : Nat}, (∀ k, k < n → p k = q k) → bits p n = bits q n
  | 0, _ => rfl
  | n + 1, h => by rw [bits, bits, bits_cong (fun k hk => h k (by omega)), h n (by omega)]
theorem or_nI (a b : Nat) : nI a ||| nI b = nI (a ||| b) := by
  apply Int32.toBitVec_inj.1
  show BitVec.ofNat 32 a ||| BitVec.ofNat 32 b = BitVec.ofNat 32 (a ||| b)
  apply BitVec.eq_of_getLsbD_eq
  intro i hi
  simp [hi]
theorem and_nI (a b : Nat) : nI a &&& nI b = nI (a &&& b) := by
  apply Int32.toBitVec_inj.1
  show BitVec.ofNat 32 a &&& BitVec.ofNat 32 b = BitVec.ofNat 32 (a &&& b)
  apply BitVec.eq_of_getLsbD_eq
  intro i hi
  simp [hi]
theorem sh_nI {i : Nat} (hi : i < 8) : nI 1 <<< (nI i &&& 31) = nI (2 ^ i) :=
  (by decide +kernel : ∀ i, i < 8 → nI 1 <<< (nI i &&& 31) = nI (2 ^ i)) i hi
theorem bits_t {p : Nat → Bool} {i : Nat} (hi : i < 8) (h : p i = true) : nI (bits p i) ||| (nI 1 <<< (nI i &&& 31)) = nI (bits p (i + 1)) := by
  rw [sh_nI hi, or_nI, bits, if_pos h]
  have := Nat.two_pow_add_eq_or_of_lt (bits_lt p i) 1
  rw [Nat.mul_one] at this
  rw [Nat.or_comm, ← this, Nat.add_comm]
theorem bits_f {p : Nat → Bool} {i : Nat} (h : p i = false) : nI (bits p i) = nI (bits p (i + 1)) := by
  rw [bits, if_neg (by simp [h])]
/-! who is in the way -/
def compB (m o : Int32) : Bool := o == 0 || (o == nI 1 && m == nI 1)
def lk (F : FF) (t r : Nat) : Int32 := F 5 (t * 10 + r)
def rivB (F : FF) (t r : Nat) (m : Int32) : Nat → Bool := fun u => decide (u ≠ t) && !compB m (lk F u r)

theorem nI1_0 : ¬ nI 1 = 0 := by decide
theorem nI2_0 : ¬ nI 2 = 0 := by decide
theorem nI1_2 : ¬ nI 1 = nI 2 := by decide
theorem nI2_1 : ¬ nI 2 = nI 1 := by decide
theorem n0_1 : ¬ (0 : Int32) = nI 1 := by decide
theorem n0_2 : ¬ (0 : Int32) = nI 2 := by decide
theorem m1_nI {r : Nat} (h : r < 2 ^ 31) : ¬ nI r = (-1 : Int32) := fun e => by
  have := congrArg Int32.toInt e
  rw [nI_toInt h] at this
  have h2 : (-1 : Int32).toInt = -1 := by decide
  omega
theorem nI_inj {a b : Nat} (ha : a < 2 ^ 31) (hb : b < 2 ^ 31) (h : nI a = nI b) : a = b := (nI_eq ha hb).mp h
def stI (F : FF) (t : Nat) : Int32 := if F 0 t = -1 then nI 0 else if F 3 t = -1 then nI 1 else nI 2
def outI (F : FF) (t r : Nat) (m : Int32) : Int32 := if lk F t r = m ∨ lk F t r = nI 2 then nI 1 else if F 3 t = -1 then nI 3 else nI 2
def hldB (F : FF) (r : Nat) : Nat → Bool := fun u => !(lk F u r == 0)
def wr (F : FF) (t : Nat) : Nat := (F 3 t).toNatClampNeg
def ahB (F : FF) (Q : QQ) (t r : Nat) : Nat → Bool := fun u => decide (u ∈ (Q r).takeWhile (fun x => decide (x ≠ t))) && (F 4 t == nI 2 || F 4 u == nI 2)
def awB (F : FF) (Q : QQ) (t : Nat) : Nat → Bool := fun u => decide (F 3 t ≠ -1) && (rivB F t (wr F t) (F 4 t) u || ahB F Q t (wr F t) u)
def updQ (Q : QQ) (r : Nat) (L : List Nat) : QQ := fun x => if x = r then L else Q x
def fltQ (L : List Nat) (t : Nat) : List Nat := L.filter (fun x => decide (x ≠ t))
/-- the queues' rows hold the lists -/
def RQ (Q : QQ) (qa : Nat → Int32) : Prop := ∀ r, r < 10 → ∀ i, i < qlen Q r → qa (r * 8 + i) = nI ((Q r).getD i 0)
def J1 (Q : QQ) : Prop := ∀ r, r < 10 → (Q r).Nodup
def J2 (F : FF) (Q : QQ) : Prop := ∀ r, r < 10 → ∀ x ∈ Q r, x < 8 ∧ F 3 x = nI r
def J3 (F : FF) (Q : QQ) : Prop := ∀ t, t < 8 → F 3 t = -1 ∨ ∃ r, r < 10 ∧ F 3 t = nI r ∧ t ∈ Q r
def J4 (F : FF) : Prop := ∀ t, t < 8 → F 0 t = -1 → F 3 t = -1
def J5 (F : FF) : Prop := ∀ t, t < 8 → ∀ r, r < 10 → lk F t r = 0 ∨ lk F t r = nI 1 ∨ lk F t r = nI 2
def J6 (F : FF) (Q : QQ) : Prop := ∀ r, r < 10 → ∀ x ∈ Q r, (F 4 x = nI 1 ∧ lk F x r = 0) ∨ (F 4 x = nI 2 ∧ (lk F x r = 0 ∨ lk F x r = nI 1))
def J7 (F : FF) (Q : QQ) : Prop := ∀ r, r < 10 → (Q r).Pairwise (fun x y => lk F y r = nI 1 → lk F x r = nI 1)
/-- what holds of every state that calls can reach -/
def JJ (F : FF) (Q : QQ) : Prop := J1 Q ∧ J2 F Q ∧ J3 F Q ∧ J4 F ∧ J5 F ∧ J6 F Q ∧ J7 F Q
theorem flt_len (a : Nat) : ∀ l : List Nat, l.Nodup → l.length ≤ (fltQ l a).length + 1
  | [], _ => by simp
  | x :: l, h => by
    have h2 := List.nodup_cons.mp h
    by_cases hx : x = a
    · subst hx
      have : fltQ (x :: l) x = l := by
        unfold fltQ
        rw [List.filter_cons_of_neg (by simp)]
        exact List.filter_eq_self.mpr (fun y hy => by
          have : y ≠ x := fun e => h2.1 (e ▸ hy)
          simpa using this)
      rw [this]; simp
    · have := flt_len a l h2.2
      unfold fltQ at this ⊢
      rw [List.filter_cons_of_pos (by simpa using hx)]
      simp only [List.length_cons]
      omega
theorem flt_nodup {l : List Nat} (a : Nat) (h : l.Nodup) : (fltQ l a).Nodup := List.Pairwise.filter _ h
theorem flt_mem {l : List Nat} {a x : Nat} : x ∈ fltQ l a ↔ x ∈ l ∧ x ≠ a := by simp [fltQ]
theorem pig : ∀ (n : Nat) (l : List Nat), l.Nodup → (∀ x ∈ l, x < n) → l.length ≤ n
  | 0, l, _, h => by
    cases l with
    | nil => simp
    | cons x l => exact absurd (h x (List.mem_cons_self)) (Nat.not_lt_zero _)
  | n + 1, l, hd, h => by
    have h1 := flt_len n l hd
    have h2 := pig n (fltQ l n) (flt_nodup n hd) (fun x hx => by
      have := flt_mem.mp hx
      have := h x this.1
      omega)
    omega
theorem JJ_len {F : FF} {Q : QQ} (h : JJ F Q) {r : Nat} (hr : r < 10) : qlen Q r ≤ 8 := pig 8 _ (h.1 r hr) (fun x hx => (h.2.1 r hr x hx).1)
theorem getD_mem {l : List Nat} {i : Nat} (h : i < l.length) : l.getD i 0 ∈ l := by
  rw [List.getD_eq_getElem?_getD, List.getElem?_eq_getElem h]
  exact List.getElem_mem h
theorem JJ_at {F : FF} {Q : QQ} (h : JJ F Q) {r i : Nat} (hr : r < 10) (hi : i < qlen Q r) : (Q r).getD i 0 ∈ Q r := getD_mem hi
theorem JJ_mem {F : FF} {Q : QQ} (h : JJ F Q) {r i : Nat} (hr : r < 10) (hi : i < qlen Q r) : (Q r).getD i 0 < 8 := (h.2.1 r hr _ (getD_mem hi)).1
theorem JJ_want {F : FF} {Q : QQ} (h : JJ F Q) {t : Nat} (ht : t < 8) (hw : ¬ F 3 t = -1) : ∃ r, r < 10 ∧ F 3 t = nI r ∧ wr F t = r ∧ t ∈ Q r := by
  rcases h.2.2.1 t ht with q | ⟨r, h1, h2, h3⟩
  · exact absurd q hw
  · exact ⟨r, h1, h2, by rw [wr, h2, nI_clamp (by omega)], h3⟩
theorem qlen_up {Q : QQ} {r n : Nat} (L : List Nat) (h : L.length = n) : va_up (qlen Q) r n = qlen (updQ Q r L) := by
  funext z
  by_cases hz : z = r <;> simp [va_up, qlen, updQ, hz, h]
/-! the sets, as they are gathered -/
theorem bits_set {p : Nat → Bool} {j : Nat} (hj : j < 8) : nI (bits p 8) ||| (nI 1 <<< (nI j &&& 31)) = nI (bits (fun u => p u || u == j) 8) := by
  rw [sh_nI hj, or_nI]
  congr 1
  refine Nat.eq_of_testBit_eq (fun i => ?_)
  rw [Nat.testBit_or, bits_tb, bits_tb, Nat.testBit_two_pow]
  by_cases h : j = i
  · subst h; simp [hj]
  · have e : (i == j) = false := by simpa using (fun e => h e.symm : ¬ i = j)
    simp [h, e]
theorem bits_or {p q : Nat → Bool} {n : Nat} : nI (bits p n) ||| nI (bits q n) = nI (bits (fun u => p u || q u) n) := by
  rw [or_nI]
  congr 1
  refine Nat.eq_of_testBit_eq (fun i => ?_)
  rw [Nat.testBit_or, bits_tb, bits_tb, bits_tb]
  cases decide (i < n) <;> simp
theorem bits_0 {p : Nat → Bool} {n : Nat} : bits p n = 0 ↔ ∀ k, k < n → p k = false := by
  constructor
  · intro h k hk
    have := bits_tb p k n
    rw [h] at this
    simpa [hk] using this.symm
  · intro h
    refine Nat.eq_of_testBit_eq (fun i => ?_)
    rw [bits_tb]
    by_cases hi : i < n
    · simp [h i hi]
    · simp [hi]
theorem bits_empty {n : Nat} : bits (fun _ => false) n = 0 := bits_0.mpr (fun _ _ => rfl)
theorem bits_lt8 (p : Nat → Bool) : bits p 8 < 256 := bits_lt p 8
theorem take_succ_getD {l : List Nat} {i : Nat} (h : i < l.length) : l.take (i + 1) = l.take i ++ [l.getD i 0] := by
  rw [List.take_succ, List.getElem?_eq_getElem h, List.getD_eq_getElem?_getD, List.getElem?_eq_getElem h]
  rfl
theorem tw_take {t : Nat} : ∀ {l : List Nat} {i : Nat}, (∀ j, j < i → l.getD j 0 ≠ t) → i ≤ l.length → (i = l.length ∨ l.getD i 0 = t) → l.takeWhile (fun x => decide (x ≠ t)) = l.take i
  | [], i, _, _, _ => by simp
  | x :: l, 0, _, _, h => by
    rcases h with h | h
    · simp at h
    · have : x = t := by simpa using h
      subst this
      simp
  | x :: l, i + 1, h1, h2, h3 => by
    have hx : x ≠ t := by simpa using h1 0 (by omega)
    have ih := tw_take (t := t) (l := l) (i := i) (fun j hj => by simpa using h1 (j + 1) (by omega)) (by simpa using h2) (by simpa using h3)
    simp only [List.take_succ_cons]
    rw [List.takeWhile_cons_of_pos (by simpa using hx), ih]
/-- those ahead, as far as looked at -/
def ahI (F : FF) (L : List Nat) (t i : Nat) : Nat → Bool := fun u => decide (u ∈ L.take i) && (F 4 t == nI 2 || F 4 u == nI 2)
theorem ahI_t {F : FF} {L : List Nat} {t i j : Nat} (hi : i < L.length) (hj : j = L.getD i 0) (hj8 : j < 8) (h : (F 4 t == nI 2 || F 4 j == nI 2) = true) : nI (bits (ahI F L t i) 8) ||| (nI 1 <<< (nI j &&& 31)) = nI (bits (ahI F L t (i + 1)) 8) := by
  rw [bits_set hj8]
  congr 1
  refine bits_cong (fun u _ => ?_)
  simp only [ahI, take_succ_getD hi, ← hj, List.mem_append, List.mem_singleton]
  by_cases hu : u = j
  · subst hu; simp only [h]; simp
  · simp [hu]
theorem ahI_f {F : FF} {L : List Nat} {t i j : Nat} (hi : i < L.length) (hj : j = L.getD i 0) (h : (F 4 t == nI 2 || F 4 j == nI 2) = false) : nI (bits (ahI F L t i) 8) = nI (bits (ahI F L t (i + 1)) 8) := by
  congr 1
  refine bits_cong (fun u _ => ?_)
  simp only [ahI, take_succ_getD hi, ← hj, List.mem_append, List.mem_singleton]
  by_cases hu : u = j
  · subst hu; simp only [h]; simp
  · simp [hu]
theorem ah_end {F : FF} {Q : QQ} {t r i : Nat} (h1 : ∀ j, j < i → (Q r).getD j 0 ≠ t) (h2 : i ≤ qlen Q r) (h3 : i = qlen Q r ∨ (Q r).getD i 0 = t) : nI (bits (ahI F (Q r) t i) 8) = nI (bits (ahB F Q t r) 8) := by
  congr 1
  refine bits_cong (fun u _ => ?_)
  simp only [ahI, ahB, tw_take h1 h2 h3]
/-! upgrades -/
def cntU (F : FF) (L : List Nat) (r : Nat) : Nat → Nat
  | 0 => 0
  | i + 1 => cntU F L r i + (if lk F (L.getD i 0) r == nI 1 then 1 else 0)
theorem cntU_le (F : FF) (L : List Nat) (r : Nat) : ∀ i, cntU F L r i ≤ i
  | 0 => Nat.le_refl _
  | i + 1 => by
    have := cntU_le F L r i
    rw [cntU]
    split <;> omega
/-! the shifts of the queues -/
theorem getD_app {l1 l2 : List Nat} {i : Nat} : (l1 ++ l2).getD i 0 = if i < l1.length then l1.getD i 0 else l2.getD (i - l1.length) 0 := by
  simp only [List.getD_eq_getElem?_getD]
  split
  · rename_i h; rw [List.getElem?_append_left h]
  · rename_i h; rw [List.getElem?_append_right (by omega)]
theorem getD_take {l : List Nat} {i n : Nat} (h : i < n) : (l.take n).getD i 0 = l.getD i 0 := by
  simp only [List.getD_eq_getElem?_getD, List.getElem?_take, h, if_true]
theorem getD_drop {l : List Nat} {i n : Nat} : (l.drop n).getD i 0 = l.getD (n + i) 0 := by
  simp only [List.getD_eq_getElem?_getD, List.getElem?_drop]
def rmI (qa q : Nat → Int32) (L : List Nat) (t r i k : Nat) : Prop :=
  k = (fltQ (L.take i) t).length ∧ (∀ j, j < 80 → (j < r * 8 ∨ r * 8 + i ≤ j) → q j = qa j) ∧ ∀ j, j < k → q (r * 8 + j) = nI ((fltQ (L.take i) t).getD j 0)
theorem rmI_0 {qa : Nat → Int32} {L : List Nat} {t r : Nat} : rmI qa qa L t r 0 0 := ⟨by simp [fltQ], fun _ _ _ => rfl, fun j hj => absurd hj (Nat.not_lt_zero _)⟩
theorem rmI_le {qa q : Nat → Int32} {L : List Nat} {t r i k : Nat} (h : rmI qa q L t r i k) (hi : i ≤ L.length) : k ≤ i := by
  rw [h.1]
  refine Nat.le_trans (List.length_filter_le _ _) ?_
  rw [List.length_take]; omega
theorem rmI_eq {qa q : Nat → Int32} {L : List Nat} {t r i k : Nat} (h : rmI qa q L t r i k) (hi : i < L.length) (he : L.getD i 0 = t) : rmI qa q L t r (i + 1) k := by
  have e : fltQ (L.take (i + 1)) t = fltQ (L.take i) t := by
    rw [take_succ_getD hi, he]
    simp [fltQ]
  refine ⟨by rw [e]; exact h.1, fun j hj hjj => h.2.1 j hj (by omega), fun j hj => by rw [e]; exact h.2.2 j hj⟩
theorem rmI_ne {qa q : Nat → Int32} {L : List Nat} {t r i k o : Nat} (h : rmI qa q L t r i k) (hi : i < L.length) (ho : o = L.getD i 0) (he : o ≠ t) : rmI qa (upd q (r * 8 + k) (nI o)) L t r (i + 1) (k + 1) := by
  have hk := rmI_le h (Nat.le_of_lt hi)
  have e : fltQ (L.take (i + 1)) t = fltQ (L.take i) t ++ [o] := by
    rw [take_succ_getD hi, ← ho]
    simp [fltQ, he]
  refine ⟨by rw [e, List.length_append, ← h.1]; rfl, fun j hj hjj => ?_, fun j hj => ?_⟩
  · rw [pk_un (by omega)]
    exact h.2.1 j hj (by omega)
  · rw [e, getD_app, ← h.1]
    by_cases hjk : j = k
    · subst hjk
      rw [pk_us, if_neg (Nat.lt_irrefl _), Nat.sub_self]
      rfl
    · rw [pk_un (by omega), if_pos (by omega)]
      exact h.2.2 j (by omega)
theorem rmI_end {F : FF} {Q : QQ} {qa q : Nat → Int32} {t r k : Nat} (hJ : JJ F Q) (hr : r < 10) (hR : RQ Q qa) (h : rmI qa q (Q r) t r (qlen Q r) k) : k = (fltQ (Q r) t).length ∧ RQ (updQ Q r (fltQ (Q r) t)) q := by
  have e : (Q r).take (qlen Q r) = Q r := List.take_length
  obtain ⟨h1, h2, h3⟩ := h
  rw [e] at h1 h3
  refine ⟨h1, fun r2 hr2 i hi => ?_⟩
  by_cases hrr : r2 = r
  · subst hrr
    have hu : updQ Q r2 (fltQ (Q r2) t) r2 = fltQ (Q r2) t := by simp [updQ]
    rw [hu]
    refine h3 i ?_
    rw [qlen, hu] at hi
    omega
  · have hu : updQ Q r (fltQ (Q r) t) r2 = Q r2 := by simp [updQ, hrr]
    have hl : qlen (updQ Q r (fltQ (Q r) t)) r2 = qlen Q r2 := by rw [qlen, hu, qlen]
    rw [hl] at hi
    rw [hu]
    have a1 := JJ_len hJ hr2
    have a2 := JJ_len hJ hr
    rw [h2 (r2 * 8 + i) (by omega) (by omega)]
    exact hR r2 hr2 i hi
def insQ (L : List Nat) (n t : Nat) : List Nat := L.take n ++ t :: L.drop n
def insI (qa q : Nat → Int32) (r i len : Nat) : Prop := ∀ j, j < 80 → q j = if r * 8 + i < j ∧ j ≤ r * 8 + len then qa (j - 1) else qa j
theorem insI_0 {qa : Nat → Int32} {r len : Nat} : insI qa qa r len len := fun j _ => by rw [if_neg (by omega)]
theorem insI_s {qa q : Nat → Int32} {r i len : Nat} (h : insI qa q r i len) (h0 : 0 < i) (hl : i ≤ len) (h80 : r * 8 + i < 80) : insI qa (upd q (r * 8 + i) (q (r * 8 + i - 1))) r (i - 1) len := by
  intro j hj
  by_cases hji : j = r * 8 + i
  · subst hji
    rw [pk_us, h _ (by omega), if_neg (by omega), if_pos (by omega)]
  · rw [pk_un hji, h j hj]
    by_cases hc : r * 8 + i < j ∧ j ≤ r * 8 + len
    · rw [if_pos hc, if_pos (by omega)]
    · rw [if_neg hc, if_neg (by omega)]
theorem insQ_len (L : List Nat) {n t : Nat} (h : n ≤ L.length) : (insQ L n t).length = L.length + 1 := by
  simp only [insQ, List.length_append, List.length_take, List.length_cons, List.length_drop]; omega
theorem insI_end {F : FF} {Q : QQ} {qa q : Nat → Int32} {t r n : Nat} (hJ : JJ F Q) (hr : r < 10) (hR : RQ Q qa) (h : insI qa q r n (qlen Q r)) (hn : n ≤ qlen Q r) (h8 : qlen Q r < 8) : RQ (updQ Q r (insQ (Q r) n t)) (upd q (r * 8 + n) (nI t)) := by
  intro r2 hr2 i hi
  by_cases hrr : r2 = r
  · subst hrr
    have hu : updQ Q r2 (insQ (Q r2) n t) r2 = insQ (Q r2) n t := by simp [updQ]
    rw [qlen, hu, insQ_len _ hn] at hi
    have hq : qlen Q r2 = (Q r2).length := rfl
    rw [hu, insQ, getD_app]
    have hlt : ((Q r2).take n).length = n := by rw [List.length_take]; omega
    rw [hlt]
    rcases Nat.lt_trichotomy i n with c | c | c
    · rw [if_pos c, pk_un (by omega), h _ (by omega), if_neg (by omega), getD_take c]
      exact hR r2 hr i (by omega)
    · subst c
      rw [pk_us, if_neg (Nat.lt_irrefl _), Nat.sub_self]
      rfl
    · rw [if_neg (by omega), pk_un (by omega), h _ (by omega), if_pos (by omega)]
      obtain ⟨d, hd⟩ : ∃ d, i = n + (d + 1) := ⟨i - n - 1, by omega⟩
      subst hd
      rw [show n + (d + 1) - n = d + 1 by omega, List.getD_cons_succ, getD_drop]
      rw [show r2 * 8 + (n + (d + 1)) - 1 = r2 * 8 + (n + d) by omega]
      exact hR r2 hr (n + d) (by omega)
  · have hu : updQ Q r (insQ (Q r) n t) r2 = Q r2 := by simp [updQ, hrr]
    have hl : qlen (updQ Q r (insQ (Q r) n t)) r2 = qlen Q r2 := by rw [qlen, hu, qlen]
    rw [hl] at hi
    rw [hu]
    have a1 := JJ_len hJ hr2
    rw [pk_un (by omega), h _ (by omega), if_neg (by omega)]
    exact hR r2 hr2 i hi
/-! what the methods of the lock table do -/
def grF (F : FF) (t r : Nat) (m : Int32) : FF := up (up F 5 (t * 10 + r) m) 1 t (F 1 t + nI 1)
def relU (f : Nat → Int32) (t i : Nat) : Nat → Int32 := fun j => if t * 10 ≤ j ∧ j < t * 10 + i then nI 0 else f j
theorem relU_0 {f : Nat → Int32} {t : Nat} : relU f t 0 = f := by
  funext j
  rw [relU, if_neg (by omega)]
theorem relU_s {f : Nat → Int32} {t i : Nat} : upd (relU f t i) (t * 10 + i) (nI 0) = relU f t (i + 1) := by
  funext j
  by_cases h : j = t * 10 + i
  · subst h; rw [pk_us, relU, if_pos (by omega)]
  · rw [pk_un h, relU, relU]
    by_cases h2 : t * 10 ≤ j ∧ j < t * 10 + i
    · rw [if_pos h2, if_pos (by omega)]
    · rw [if_neg h2, if_neg (by omega)]
def relF (F : FF) (t : Nat) : FF := fun k => if k = 5 then relU (F 5) t 10 else F k
def startF (F : FF) (t : Nat) : FF := up (up (up (up F 0 t (F 8 0)) 1 t (nI 0)) 2 t (nI 0)) 8 0 (F 8 0 + nI 1)
def rmF (F : FF) (t : Nat) : FF := if F 3 t = -1 then F else up F 3 t (-1)
def rmQ (F : FF) (Q : QQ) (t : Nat) : QQ := if F 3 t = -1 then Q else updQ Q (wr F t) (fltQ (Q (wr F t)) t)
def sfR (F : FF) (Q : QQ) (r : Nat) : Bool := !(qlen Q r == 0) && bits (rivB F ((Q r).getD 0 0) r (F 4 ((Q r).getD 0 0))) 8 == 0
def sfF (F : FF) (Q : QQ) (r : Nat) : FF := if sfR F Q r then grF (rmF F ((Q r).getD 0 0)) ((Q r).getD 0 0) r (F 4 ((Q r).getD 0 0)) else F
def sfQ (F : FF) (Q : QQ) (r : Nat) : QQ := if sfR F Q r then rmQ F Q ((Q r).getD 0 0) else Q
def bitN (S i : Nat) : Nat := if S.testBit i then 1 else 0
theorem bitN_lt (S i : Nat) : bitN S i < 2 ^ 31 := by
  unfold bitN; split <;> decide
theorem bitN_1 {S i : Nat} : bitN S i = 1 ↔ S.testBit i = true := by
  unfold bitN; split <;> simp_all
theorem tb_I {S i : Nat} (hS : S < 2 ^ 31) (hi : i < 8) : (nI S >>> (nI i &&& 31)) &&& nI 1 = nI (bitN S i) := by
  rw [pk_shrN hS _ i ((by decide +kernel : ∀ i, i < 8 → ((nI i &&& 31).toBitVec.smod 32).toNat = i) i hi), and_nI, Nat.and_one_is_mod]
  congr 1
  unfold bitN
  rw [Nat.testBit_eq_decide_div_mod_eq]
  have := Nat.mod_two_eq_zero_or_one (S / 2 ^ i)
  by_cases h : S / 2 ^ i % 2 = 1
  · simp [h]
  · simp [h]; omega
def aWS (F : FF) (Q : QQ) (t : Nat) : Nat := bits (awB F Q t) 8
def clT (F : FF) (Q : QQ) (S : Nat) : Nat → Nat
  | 0 => S
  | n + 1 => if (clT F Q S n).testBit n then clT F Q S n ||| aWS F Q n else clT F Q S n
def clR (F : FF) (Q : QQ) (S : Nat) : Nat → Nat
  | 0 => S
  | k + 1 => clT F Q (clR F Q S k) 8
theorem aWS_lt (F : FF) (Q : QQ) (t : Nat) : aWS F Q t < 2 ^ 8 := bits_lt _ 8
theorem clT_lt {F : FF} {Q : QQ} {S : Nat} (h : S < 2 ^ 8) : ∀ n, clT F Q S n < 2 ^ 8
  | 0 => h
  | n + 1 => by
    rw [clT]
    split
    · exact Nat.or_lt_two_pow (clT_lt h n) (aWS_lt F Q n)
    · exact clT_lt h n
theorem clR_lt {F : FF} {Q : QQ} {S : Nat} (h : S < 2 ^ 8) : ∀ n, clR F Q S n < 2 ^ 8
  | 0 => h
  | n + 1 => clT_lt (clR_lt h n) 8
theorem aw_some {F : FF} {Q : QQ} {t r : Nat} (h : ¬ F 3 t = -1) (hw : wr F t = r) : nI (bits (rivB F t r (F 4 t)) 8) ||| nI (bits (ahB F Q t r) 8) = nI (aWS F Q t) := by
  rw [bits_or, aWS]
  congr 1
  refine bits_cong (fun u _ => ?_)
  simp [awB, h, hw]
theorem aw_none {F : FF} {Q : QQ} {t : Nat} (h : F 3 t = -1) : aWS F Q t = 0 := bits_0.mpr (fun u _ => by simp [awB, h])
