/-! the reference: its one array of numbers -/
def mdZ (F : FF) (t : Nat) : Int32 := if F 3 t = -1 then 0 else F 4 t
/-- what stands in the array of one transaction -/
def cA (F : FF) (t : Nat) : Nat → Int32
  | 0 => stI F t
  | 1 => F 1 t
  | 2 => F 2 t
  | 3 => F 0 t
  | 4 => F 3 t
  | _ => mdZ F t
def ZA (F : FF) (z : Nat → Int32) : Prop := ∀ t, t < 8 → ∀ w, w < 6 → z (6 * t + w) = cA F t w
def ZL (F : FF) (z : Nat → Int32) : Prop := ∀ t, t < 8 → ∀ r, r < 10 → z (48 + 10 * t + r) = lk F t r
def ZN (Q : QQ) (z : Nat → Int32) : Prop := ∀ r, r < 10 → z (128 + 9 * r) = nI (qlen Q r)
def ZQ (Q : QQ) (z : Nat → Int32) : Prop := ∀ r, r < 10 → ∀ i, i < qlen Q r → z (128 + 9 * r + 1 + i) = nI ((Q r).getD i 0)
def ZS (F : FF) (z : Nat → Int32) : Prop := ∀ k, k < 3 → z (218 + k) = F 8 k
def RZ (F : FF) (Q : QQ) (z : Nat → Int32) : Prop := ZA F z ∧ ZL F z ∧ ZN Q z ∧ ZQ Q z ∧ ZS F z
theorem RZ_0 {F : FF} {Q : QQ} {z : Nat → Int32} (h : RZ F Q z) {t : Nat} (ht : t < 8) : z (6 * t + 0) = stI F t := h.1 t ht 0 (by decide)
theorem RZ_1 {F : FF} {Q : QQ} {z : Nat → Int32} (h : RZ F Q z) {t : Nat} (ht : t < 8) : z (6 * t + 1) = F 1 t := h.1 t ht 1 (by decide)
theorem RZ_2 {F : FF} {Q : QQ} {z : Nat → Int32} (h : RZ F Q z) {t : Nat} (ht : t < 8) : z (6 * t + 2) = F 2 t := h.1 t ht 2 (by decide)
theorem RZ_3 {F : FF} {Q : QQ} {z : Nat → Int32} (h : RZ F Q z) {t : Nat} (ht : t < 8) : z (6 * t + 3) = F 0 t := h.1 t ht 3 (by decide)
theorem RZ_4 {F : FF} {Q : QQ} {z : Nat → Int32} (h : RZ F Q z) {t : Nat} (ht : t < 8) : z (6 * t + 4) = F 3 t := h.1 t ht 4 (by decide)
theorem RZ_5 {F : FF} {Q : QQ} {z : Nat → Int32} (h : RZ F Q z) {t : Nat} (ht : t < 8) : z (6 * t + 5) = mdZ F t := h.1 t ht 5 (by decide)
theorem RZ_lk {F : FF} {Q : QQ} {z : Nat → Int32} (h : RZ F Q z) {t r : Nat} (ht : t < 8) (hr : r < 10) : z (48 + 10 * t + r) = lk F t r := h.2.1 t ht r hr
theorem RZ_n {F : FF} {Q : QQ} {z : Nat → Int32} (h : RZ F Q z) {r : Nat} (hr : r < 10) : z (128 + 9 * r) = nI (qlen Q r) := h.2.2.1 r hr
theorem RZ_q {F : FF} {Q : QQ} {z : Nat → Int32} (h : RZ F Q z) {r i : Nat} (hr : r < 10) (hi : i < qlen Q r) : z (128 + 9 * r + 1 + i) = nI ((Q r).getD i 0) := h.2.2.2.1 r hr i hi
theorem RZ_s {F : FF} {Q : QQ} {z : Nat → Int32} (h : RZ F Q z) {k : Nat} (hk : k < 3) : z (218 + k) = F 8 k := h.2.2.2.2 k hk
theorem mdZ_w {F : FF} {t : Nat} (h : ¬ F 3 t = -1) : mdZ F t = F 4 t := if_neg h
theorem mdZ_n {F : FF} {t : Nat} (h : F 3 t = -1) : mdZ F t = 0 := if_pos h
/-! frames -/
theorem ZA_fr {F F' : FF} {z z' : Nat → Int32} (h : ZA F z) (hz : ∀ j, j < 48 → z' j = z j) (hF : ∀ k, k < 5 → F' k = F k) : ZA F' z' := fun t ht w hw => by
  rw [hz _ (by omega), h t ht w hw]
  have e0 := hF 0 (by decide); have e1 := hF 1 (by decide); have e2 := hF 2 (by decide); have e3 := hF 3 (by decide); have e4 := hF 4 (by decide)
  match w with
  | 0 => simp only [cA, stI, e0, e3]
  | 1 => simp only [cA, e1]
  | 2 => simp only [cA, e2]
  | 3 => simp only [cA, e0]
  | 4 => simp only [cA, e3]
  | _ + 5 => simp only [cA, mdZ, e3, e4]
theorem ZL_fr {F F' : FF} {z z' : Nat → Int32} (h : ZL F z) (hz : ∀ j, 48 ≤ j → j < 128 → z' j = z j) (hF : F' 5 = F 5) : ZL F' z' := fun t ht r hr => by
  rw [hz _ (by omega) (by omega), h t ht r hr, lk, lk, hF]
theorem ZN_fr {Q : QQ} {z z' : Nat → Int32} (h : ZN Q z) (hz : ∀ j, 128 ≤ j → j < 218 → z' j = z j) : ZN Q z' := fun r hr => by
  rw [hz _ (by omega) (by omega), h r hr]
theorem ZQ_fr {Q : QQ} {z z' : Nat → Int32} (h : ZQ Q z) (hl : ∀ r, r < 10 → qlen Q r ≤ 8) (hz : ∀ j, 128 ≤ j → j < 218 → z' j = z j) : ZQ Q z' := fun r hr i hi => by
  have := hl r hr
  rw [hz _ (by omega) (by omega), h r hr i hi]
theorem ZS_fr {F F' : FF} {z z' : Nat → Int32} (h : ZS F z) (hz : ∀ j, 218 ≤ j → j < 221 → z' j = z j) (hF : F' 8 = F 8) : ZS F' z' := fun k hk => by
  rw [hz _ (by omega) (by omega), h k hk, hF]
/-- only the content below 221 counts -/
theorem RZ_cg {F : FF} {Q : QQ} {z z' : Nat → Int32} (hJ : JJ F Q) (h : RZ F Q z) (hz : ∀ j, j < 221 → z' j = z j) : RZ F Q z' :=
  ⟨ZA_fr h.1 (fun j hj => hz j (by omega)) (fun _ _ => rfl), ZL_fr h.2.1 (fun j _ hj => hz j (by omega)) rfl, ZN_fr h.2.2.1 (fun j _ hj => hz j (by omega)), ZQ_fr h.2.2.2.1 (fun r hr => JJ_len hJ hr) (fun j _ hj => hz j (by omega)), ZS_fr h.2.2.2.2 (fun j _ hj => hz j (by omega)) rfl⟩
theorem up_ap {F : FF} {k i k' j : Nat} {v : Int32} : up F k i v k' j = if k' = k ∧ j = i then v else F k' j := by
  unfold up
  by_cases h : k' = k
  · subst h
    rw [if_pos rfl]
    by_cases hj : j = i
    · subst hj; rw [pk_us, if_pos ⟨rfl, rfl⟩]
    · rw [pk_un hj, if_neg (fun q => hj q.2)]
  · rw [if_neg h, if_neg (fun q => h q.1)]
/-! a grant -/
def grZ (z : Nat → Int32) (t r : Nat) (m : Int32) : Nat → Int32 := upd (upd z (48 + 10 * t + r) m) (6 * t + 1) (upd z (48 + 10 * t + r) m (6 * t + 1) + nI 1)
theorem RZ_gr {F : FF} {Q : QQ} {z : Nat → Int32} {t r : Nat} {m : Int32} (hJ : JJ F Q) (h : RZ F Q z) (ht : t < 8) (hr : r < 10) : RZ (grF F t r m) Q (grZ z t r m) := by
  obtain ⟨a, b, c, d, s⟩ := h
  refine ⟨fun u hu w hw => ?_, fun u hu x hx => ?_, ZN_fr c (fun j h1 h2 => ?_), ZQ_fr d (fun r hr => JJ_len hJ hr) (fun j h1 h2 => ?_), ZS_fr s (fun j h1 h2 => ?_) (gr_ne (by decide) (by decide))⟩
  · rw [grZ]
    by_cases e : 6 * u + w = 6 * t + 1
    · have e1 : u = t := by omega
      have e2 : w = 1 := by omega
      subst e1; subst e2
      rw [pk_us, pk_un (by omega), a u hu 1 (by decide)]
      show F 1 u + nI 1 = grF F u r m 1 u
      rw [grF, up_ap, if_pos ⟨rfl, rfl⟩]
    · rw [pk_un e, pk_un (by omega), a u hu w hw]
      match w with
      | 0 => simp only [cA, stI, gr_ne (show 0 ≠ 1 by decide) (show 0 ≠ 5 by decide), gr_ne (show 3 ≠ 1 by decide) (show 3 ≠ 5 by decide)]
      | 1 =>
        show F 1 u = grF F t r m 1 u
        rw [grF, up_ap, if_neg (by omega), up_ap, if_neg (by omega)]
      | 2 => simp only [cA, gr_ne (show 2 ≠ 1 by decide) (show 2 ≠ 5 by decide)]
      | 3 => simp only [cA, gr_ne (show 0 ≠ 1 by decide) (show 0 ≠ 5 by decide)]
      | 4 => simp only [cA, gr_ne (show 3 ≠ 1 by decide) (show 3 ≠ 5 by decide)]
      | _ + 5 => simp only [cA, mdZ, gr_ne (show 3 ≠ 1 by decide) (show 3 ≠ 5 by decide), gr_ne (show 4 ≠ 1 by decide) (show 4 ≠ 5 by decide)]
  · rw [grZ, pk_un (by omega), lk_gr hr hx]
    by_cases e : 48 + 10 * u + x = 48 + 10 * t + r
    · rw [e, pk_us, if_pos (by omega)]
    · rw [pk_un e, b u hu x hx, if_neg (by omega)]
  · rw [grZ, pk_un (by omega), pk_un (by omega)]
  · rw [grZ, pk_un (by omega), pk_un (by omega)]
  · rw [grZ, pk_un (by omega), pk_un (by omega)]
/-! the locks of one are given back -/
def rlZ (z : Nat → Int32) (t i : Nat) : Nat → Int32 := fun j => if 48 + 10 * t ≤ j ∧ j < 48 + 10 * t + i then nI 0 else z j
theorem rlZ_0 {z : Nat → Int32} {t : Nat} : rlZ z t 0 = z := by
  funext j; rw [rlZ, if_neg (by omega)]
theorem rlZ_s {z : Nat → Int32} {t i : Nat} : upd (rlZ z t i) (48 + 10 * t + i) (nI 0) = rlZ z t (i + 1) := by
  funext j
  by_cases h : j = 48 + 10 * t + i
  · rw [h, pk_us, rlZ, if_pos (by omega)]
  · rw [pk_un h, rlZ, rlZ]
    by_cases h2 : 48 + 10 * t ≤ j ∧ j < 48 + 10 * t + i
    · rw [if_pos h2, if_pos (by omega)]
    · rw [if_neg h2, if_neg (by omega)]
theorem RZ_rl {F : FF} {Q : QQ} {z : Nat → Int32} {t : Nat} (hJ : ∀ r, r < 10 → qlen Q r ≤ 8) (h : RZ F Q z) (ht : t < 8) : RZ (relF F t) Q (rlZ z t 10) := by
  obtain ⟨a, b, c, d, s⟩ := h
  refine ⟨ZA_fr a (fun j hj => by rw [rlZ, if_neg (by omega)]) (fun k hk => rel_ne (by omega)), fun u hu x hx => ?_, ZN_fr c (fun j h1 h2 => by rw [rlZ, if_neg (by omega)]), ZQ_fr d hJ (fun j h1 h2 => by rw [rlZ, if_neg (by omega)]), ZS_fr s (fun j h1 h2 => by rw [rlZ, if_neg (by omega)]) (rel_ne (by decide))⟩
  rw [lk_rel hx, rlZ]
  by_cases e : u = t
  · rw [if_pos (by omega), if_pos e]; rfl
  · rw [if_neg (by omega), if_neg e, b u hu x hx]
/-! a transaction has ended -/
def enZ (z : Nat → Int32) (t i : Nat) : Nat → Int32 := fun j => if 6 * t ≤ j ∧ j < 6 * t + i then nI 0 else z j
theorem enZ_0 {z : Nat → Int32} {t : Nat} : enZ z t 0 = z := by
  funext j; rw [enZ, if_neg (by omega)]
theorem enZ_s {z : Nat → Int32} {t i : Nat} : upd (enZ z t i) (6 * t + i) (nI 0) = enZ z t (i + 1) := by
  funext j
  by_cases h : j = 6 * t + i
  · rw [h, pk_us, enZ, if_pos (by omega)]
  · rw [pk_un h, enZ, enZ]
    by_cases h2 : 6 * t ≤ j ∧ j < 6 * t + i
    · rw [if_pos h2, if_pos (by omega)]
    · rw [if_neg h2, if_neg (by omega)]
def edZ (z : Nat → Int32) (t : Nat) : Nat → Int32 := upd (upd (upd (upd (enZ z t 6) (6 * t + 1) (-1)) (6 * t + 2) (-1)) (6 * t + 3) (-1)) (6 * t + 4) (-1)
theorem edZ_ap {z : Nat → Int32} {t : Nat} {j : Nat} : edZ z t j = if j = 6 * t ∨ j = 6 * t + 5 then nI 0 else if 6 * t < j ∧ j < 6 * t + 5 then -1 else z j := by
  rw [edZ]
  by_cases h4 : j = 6 * t + 4
  · rw [h4, pk_us, if_neg (by omega), if_pos (by omega)]
  rw [pk_un h4]
  by_cases h3 : j = 6 * t + 3
  · rw [h3, pk_us, if_neg (by omega), if_pos (by omega)]
  rw [pk_un h3]
  by_cases h2 : j = 6 * t + 2
  · rw [h2, pk_us, if_neg (by omega), if_pos (by omega)]
  rw [pk_un h2]
  by_cases h1 : j = 6 * t + 1
  · rw [h1, pk_us, if_neg (by omega), if_pos (by omega)]
  rw [pk_un h1, enZ]
  by_cases h0 : j = 6 * t ∨ j = 6 * t + 5
  · rw [if_pos (by omega), if_pos h0]
  · rw [if_neg (by omega), if_neg h0, if_neg (by omega)]
theorem RZ_ed {F : FF} {Q : QQ} {z : Nat → Int32} {t : Nat} (hJ : ∀ r, r < 10 → qlen Q r ≤ 8) (h : RZ F Q z) (ht : t < 8) (h3 : F 3 t = -1) : RZ (up (up (up F 0 t (-1)) 1 t (-1)) 2 t (-1)) Q (edZ z t) := by
  obtain ⟨a, b, c, d, s⟩ := h
  refine ⟨fun u hu w hw => ?_, ZL_fr b (fun j h1 h2 => by rw [edZ_ap, if_neg (by omega), if_neg (by omega)]) (by rw [up_ne (by decide), up_ne (by decide), up_ne (by decide)]), ZN_fr c (fun j h1 h2 => by rw [edZ_ap, if_neg (by omega), if_neg (by omega)]), ZQ_fr d hJ (fun j h1 h2 => by rw [edZ_ap, if_neg (by omega), if_neg (by omega)]), ZS_fr s (fun j h1 h2 => by rw [edZ_ap, if_neg (by omega), if_neg (by omega)]) (by rw [up_ne (by decide), up_ne (by decide), up_ne (by decide)])⟩
  rw [edZ_ap]
  by_cases e : u = t
  · subst e
    match w with
    | 0 => rw [if_pos (by omega)]; simp [cA, stI, up_ap]
    | 1 => rw [if_neg (by omega), if_pos (by omega)]; simp [cA, up_ap]
    | 2 => rw [if_neg (by omega), if_pos (by omega)]; simp [cA, up_ap]
    | 3 => rw [if_neg (by omega), if_pos (by omega)]; simp [cA, up_ap]
    | 4 => rw [if_neg (by omega), if_pos (by omega)]; simp [cA, up_ap, h3]
    | 5 => rw [if_pos (by omega)]; simp [cA, mdZ, up_ap, h3, nI_0]
  · rw [if_neg (by omega), if_neg (by omega), a u hu w hw]
    match w with
    | 0 => simp [cA, stI, up_ap, e]
    | 1 => simp [cA, up_ap, e]
    | 2 => simp [cA, up_ap, e]
    | 3 => simp [cA, up_ap, e]
    | 4 => simp [cA, up_ap]
    | _ + 5 => simp [cA, mdZ, up_ap]
/-! places in a queue -/
theorem ix_ne {x t : Nat} {l : List Nat} (h : x ≠ t) : (x :: l).idxOf t = l.idxOf t + 1 := by
  rw [List.idxOf_cons, beq_false_of_ne h]; rfl
theorem ix_at {l : List Nat} {t i : Nat} (hi : i < l.length) (h : l.getD i 0 = t) (hb : ∀ j, j < i → l.getD j 0 ≠ t) : i = l.idxOf t := by
  induction l generalizing i with
  | nil => exact absurd hi (Nat.not_lt_zero _)
  | cons x l ih =>
    cases i with
    | zero =>
      have : x = t := h
      rw [this, List.idxOf_cons_self]
    | succ i =>
      have hx : x ≠ t := hb 0 (by omega)
      rw [ix_ne hx, ← ih (by simpa using hi) (by simpa using h) (fun j hj => by simpa using hb (j + 1) (by omega))]
theorem ix_lt {l : List Nat} {t i : Nat} (hm : t ∈ l) (hb : ∀ j, j < i → l.getD j 0 ≠ t) : i < l.length := by
  rcases Nat.lt_or_ge i l.length with h | h
  · exact h
  · obtain ⟨j, hj, he⟩ := List.mem_iff_getElem.mp hm
    refine absurd ?_ (hb j (by omega))
    rw [List.getD_eq_getElem?_getD, List.getElem?_eq_getElem hj]; exact he
theorem flt_at {t : Nat} : ∀ {l : List Nat} {i : Nat}, l.Nodup → t ∈ l → (fltQ l t).length + 1 = l.length ∧ (fltQ l t).getD i 0 = if i < l.idxOf t then l.getD i 0 else l.getD (i + 1) 0
  | [], _, _, hm => by cases hm
  | x :: l, i, hd, hm => by
    have hd2 := List.nodup_cons.mp hd
    by_cases hx : x = t
    · subst hx
      have e : fltQ (x :: l) x = l := by
        unfold fltQ
        rw [List.filter_cons_of_neg (by simp)]
        exact List.filter_eq_self.mpr (fun y hy => by
          have : y ≠ x := fun e => hd2.1 (e ▸ hy)
          simpa using this)
      rw [e, List.idxOf_cons_self, if_neg (Nat.not_lt_zero _)]
      exact ⟨rfl, by simp⟩
    · have hm2 : t ∈ l := by
        rcases List.mem_cons.mp hm with q | q
        · exact absurd q.symm hx
        · exact q
      have e : fltQ (x :: l) t = x :: fltQ l t := by
        unfold fltQ
        rw [List.filter_cons_of_pos (by simpa using hx)]
      obtain ⟨h1, _⟩ := flt_at (i := 0) hd2.2 hm2
      rw [e, ix_ne hx]
      refine ⟨by simpa using h1, ?_⟩
      cases i with
      | zero => rw [if_pos (by omega)]; rfl
      | succ i =>
        have h2 := (flt_at (i := i) hd2.2 hm2).2
        rw [List.getD_cons_succ, h2, List.getD_cons_succ, List.getD_cons_succ]
        by_cases hc : i < l.idxOf t
        · rw [if_pos hc, if_pos (by omega)]
        · rw [if_neg hc, if_neg (by omega)]
/-! a request is taken out -/
def dqI (z y : Nat → Int32) (r a k : Nat) : Prop := ∀ j, y j = if 129 + 9 * r + a ≤ j ∧ j < 129 + 9 * r + k then z (j + 1) else z j
theorem dqI_0 {z : Nat → Int32} {r a : Nat} : dqI z z r a a := fun j => by rw [if_neg (by omega)]
theorem dqI_s {z y : Nat → Int32} {r a k : Nat} (h : dqI z y r a k) (ha : a ≤ k) : dqI z (upd y (128 + 9 * r + 1 + k) (y (128 + 9 * r + 2 + k))) r a (k + 1) := fun j => by
  by_cases e : j = 128 + 9 * r + 1 + k
  · rw [e, pk_us, h, if_neg (by omega), if_pos (by omega)]
    congr 1; omega
  · rw [pk_un e, h]
    by_cases c : 129 + 9 * r + a ≤ j ∧ j < 129 + 9 * r + k
    · rw [if_pos c, if_pos (by omega)]
    · rw [if_neg c, if_neg (by omega)]
def dqZ (y : Nat → Int32) (t : Nat) : Nat → Int32 := upd (upd (upd y (6 * t + 0) (nI 1)) (6 * t + 4) (-1)) (6 * t + 5) (nI 0)
theorem dqZ_ap {y : Nat → Int32} {t j : Nat} : dqZ y t j = if j = 6 * t then nI 1 else if j = 6 * t + 4 then -1 else if j = 6 * t + 5 then nI 0 else y j := by
  rw [dqZ]
  by_cases h5 : j = 6 * t + 5
  · rw [h5, pk_us, if_neg (by omega), if_neg (by omega), if_pos rfl]
  rw [pk_un h5]
  by_cases h4 : j = 6 * t + 4
  · rw [h4, pk_us, if_neg (by omega), if_pos rfl]
  rw [pk_un h4]
  by_cases h0 : j = 6 * t + 0
  · rw [h0, pk_us, if_pos (by omega)]
  rw [pk_un h0, if_neg (by omega), if_neg h4, if_neg h5]
theorem RZ_dq {F : FF} {Q : QQ} {z y : Nat → Int32} {t r k : Nat} (hJ : JJ F Q) (h : RZ F Q z) (ht : t < 8) (hr : r < 10) (h3 : F 3 t = nI r) (hm : t ∈ Q r) (hk : k + 1 = qlen Q r) (hy : dqI (upd z (128 + 9 * r) (nI k)) y r ((Q r).idxOf t) k) : RZ (rmF F t) (rmQ F Q t) (dqZ y t) := by
  obtain ⟨a, b, c, d, s⟩ := h
  have n3 : ¬ F 3 t = -1 := by rw [h3]; exact m1_nI (by omega)
  have hw : wr F t = r := by rw [wr, h3]; exact nI_clamp (by omega)
  have n0 : ¬ F 0 t = -1 := fun q => n3 (hJ.2.2.2.1 t ht q)
  have hnd := hJ.1 r hr
  have hl8 := JJ_len hJ hr
  have hid : (Q r).idxOf t < (Q r).length := List.idxOf_lt_length_of_mem hm
  have hq : qlen Q r = (Q r).length := rfl
  rw [(rm_some n3 hw).2]
  have hyj : ∀ j, j < 128 + 9 * r ∨ 128 + 9 * r + 9 ≤ j → y j = z j := fun j hj => by
    rw [hy, if_neg (by omega), pk_un (by omega)]
  have hyj2 : ∀ j, (j < 128 + 9 * r ∨ 128 + 9 * r + 9 ≤ j) → 48 ≤ j → dqZ y t j = z j := fun j hj h2 => by
    rw [dqZ_ap, if_neg (by omega), if_neg (by omega), if_neg (by omega), hyj j hj]
  have hql : ∀ x, x ≠ r → updQ Q r (fltQ (Q r) t) x = Q x := fun x hx => by rw [updQ, if_neg hx]
  have hqr : updQ Q r (fltQ (Q r) t) r = fltQ (Q r) t := by rw [updQ, if_pos rfl]
  have hfl := (flt_at (i := 0) hnd hm).1
  refine ⟨fun u hu w hw => ?_, fun u hu x hx => ?_, fun x hx => ?_, fun x hx i hi => ?_, fun i hi => ?_⟩
  · rw [dqZ_ap]
    by_cases e : u = t
    · subst e
      match w with
      | 0 => rw [if_pos (by omega)]; simp [cA, stI, rmF_ne (show 0 ≠ 3 by decide), rmF_3, n0]
      | 1 => rw [if_neg (by omega), if_neg (by omega), if_neg (by omega), hyj _ (by omega), a u hu 1 hw]; simp only [cA, rmF_ne (show 1 ≠ 3 by decide)]
      | 2 => rw [if_neg (by omega), if_neg (by omega), if_neg (by omega), hyj _ (by omega), a u hu 2 hw]; simp only [cA, rmF_ne (show 2 ≠ 3 by decide)]
      | 3 => rw [if_neg (by omega), if_neg (by omega), if_neg (by omega), hyj _ (by omega), a u hu 3 hw]; simp only [cA, rmF_ne (show 0 ≠ 3 by decide)]
      | 4 => rw [if_neg (by omega), if_pos (by omega)]; simp [cA, rmF_3]
      | 5 => rw [if_neg (by omega), if_neg (by omega), if_pos (by omega)]; simp [cA, mdZ, rmF_3, nI_0]
    · rw [if_neg (by omega), if_neg (by omega), if_neg (by omega), hyj _ (by omega), a u hu w hw]
      match w with
      | 0 => simp only [cA, stI, rmF_ne (show 0 ≠ 3 by decide), rmF_3, if_neg e]
      | 1 => simp only [cA, rmF_ne (show 1 ≠ 3 by decide)]
      | 2 => simp only [cA, rmF_ne (show 2 ≠ 3 by decide)]
      | 3 => simp only [cA, rmF_ne (show 0 ≠ 3 by decide)]
      | 4 => simp only [cA, rmF_3, if_neg e]
      | _ + 5 => simp only [cA, mdZ, rmF_3, if_neg e, rmF_ne (show 4 ≠ 3 by decide)]
  · rw [hyj2 _ (by omega) (by omega), b u hu x hx, lk_rm]
  · by_cases e : x = r
    · subst e
      rw [dqZ_ap, if_neg (by omega), if_neg (by omega), if_neg (by omega), hy, if_neg (by omega), pk_us, qlen, hqr]
      congr 1; omega
    · rw [hyj2 _ (by omega) (by omega), c x hx, qlen, qlen, hql x e]
  · by_cases e : x = r
    · subst e
      rw [qlen, hqr] at hi
      rw [hqr, (flt_at (i := i) hnd hm).2, dqZ_ap, if_neg (by omega), if_neg (by omega), if_neg (by omega), hy]
      by_cases q : i < (Q x).idxOf t
      · rw [if_neg (by omega), if_pos q, pk_un (by omega)]
        exact d x hx i (by omega)
      · rw [if_pos (by omega), if_neg q, pk_un (by omega)]
        exact d x hx (i + 1) (by omega)
    · have hl := JJ_len hJ hx
      rw [qlen, hql x e] at hi
      rw [hql x e, hyj2 _ (by unfold qlen at hl; omega) (by omega)]
      exact d x hx i hi
  · rw [hyj2 _ (by omega) (by omega), s i hi, rmF_ne (by decide)]
/-! a request is put into a queue -/
def eqI (z y : Nat → Int32) (r i len : Nat) : Prop := ∀ j, y j = if 129 + 9 * r + i < j ∧ j ≤ 129 + 9 * r + len then z (j - 1) else z j
theorem eqI_0 {z : Nat → Int32} {r len : Nat} : eqI z z r len len := fun j => by rw [if_neg (by omega)]
theorem eqI_s {z y : Nat → Int32} {r i len : Nat} (h : eqI z y r i len) (h0 : 0 < i) (hi : i ≤ len) : eqI z (upd y (128 + 9 * r + 1 + i) (y (128 + 9 * r + i))) r (i - 1) len := fun j => by
  by_cases e : j = 128 + 9 * r + 1 + i
  · rw [e, pk_us, h, if_neg (by omega), if_pos (by omega)]
    congr 1; omega
  · rw [pk_un e, h]
    by_cases c : 129 + 9 * r + i < j ∧ j ≤ 129 + 9 * r + len
    · rw [if_pos c, if_pos (by omega)]
    · rw [if_neg c, if_neg (by omega)]
def eqZ (y : Nat → Int32) (t r n len : Nat) (m : Int32) : Nat → Int32 := upd (upd (upd (upd (upd y (128 + 9 * r + 1 + n) (nI t)) (128 + 9 * r) (nI (len + 1))) (6 * t + 0) (nI 2)) (6 * t + 4) (nI r)) (6 * t + 5) m
theorem eqZ_ap {y : Nat → Int32} {t r n len : Nat} {m : Int32} {j : Nat} (ht : t < 8) : eqZ y t r n len m j = if j = 6 * t then nI 2 else if j = 6 * t + 4 then nI r else if j = 6 * t + 5 then m else if j = 128 + 9 * r then nI (len + 1) else if j = 128 + 9 * r + 1 + n then nI t else y j := by
  rw [eqZ]
  by_cases h5 : j = 6 * t + 5
  · rw [h5, pk_us, if_neg (by omega), if_neg (by omega), if_pos rfl]
  rw [pk_un h5]
  by_cases h4 : j = 6 * t + 4
  · rw [h4, pk_us, if_neg (by omega), if_pos rfl]
  rw [pk_un h4]
  by_cases h0 : j = 6 * t + 0
  · rw [h0, pk_us, if_pos (by omega)]
  rw [pk_un h0, if_neg (by omega), if_neg h4, if_neg h5]
  by_cases h1 : j = 128 + 9 * r
  · rw [h1, pk_us, if_pos rfl]
  rw [pk_un h1, if_neg h1]
  by_cases h2 : j = 128 + 9 * r + 1 + n
  · rw [h2, pk_us, if_pos rfl]
  rw [pk_un h2, if_neg h2]
theorem RZ_eq {F : FF} {Q : QQ} {z y : Nat → Int32} {t r n : Nat} {m : Int32} (hJ : JJ F Q) (h : RZ F Q z) (ht : t < 8) (hr : r < 10) (h0 : ¬ F 0 t = -1) (hn : n ≤ qlen Q r) (h8 : qlen Q r < 8) (hy : eqI z y r n (qlen Q r)) : RZ (up (up F 3 t (nI r)) 4 t m) (updQ Q r (insQ (Q r) n t)) (eqZ y t r n (qlen Q r) m) := by
  obtain ⟨a, b, c, d, s⟩ := h
  have hnr : ¬ nI r = -1 := m1_nI (by omega)
  have hq : qlen Q r = (Q r).length := rfl
  have hyj : ∀ j, j < 128 + 9 * r ∨ 128 + 9 * r + 9 ≤ j → y j = z j := fun j hj => by
    rw [hy, if_neg (by omega)]
  have hyj2 : ∀ j, (j < 128 + 9 * r ∨ 128 + 9 * r + 9 ≤ j) → 48 ≤ j → eqZ y t r n (qlen Q r) m j = z j := fun j hj h2 => by
    rw [eqZ_ap ht, if_neg (by omega), if_neg (by omega), if_neg (by omega), if_neg (by omega), if_neg (by omega), hyj j hj]
  have hql : ∀ x, x ≠ r → updQ Q r (insQ (Q r) n t) x = Q x := fun x hx => by rw [updQ, if_neg hx]
  have hqr : updQ Q r (insQ (Q r) n t) r = insQ (Q r) n t := by rw [updQ, if_pos rfl]
  refine ⟨fun u hu w hw => ?_, fun u hu x hx => ?_, fun x hx => ?_, fun x hx i hi => ?_, fun i hi => ?_⟩
  · rw [eqZ_ap ht]
    by_cases e : u = t
    · subst e
      match w with
      | 0 => rw [if_pos (by omega)]; simp [cA, stI, up_ap, h0, hnr]
      | 1 => rw [if_neg (by omega), if_neg (by omega), if_neg (by omega), if_neg (by omega), if_neg (by omega), hyj _ (by omega), a u hu 1 hw]; simp [cA, up_ap]
      | 2 => rw [if_neg (by omega), if_neg (by omega), if_neg (by omega), if_neg (by omega), if_neg (by omega), hyj _ (by omega), a u hu 2 hw]; simp [cA, up_ap]
      | 3 => rw [if_neg (by omega), if_neg (by omega), if_neg (by omega), if_neg (by omega), if_neg (by omega), hyj _ (by omega), a u hu 3 hw]; simp [cA, up_ap]
      | 4 => rw [if_neg (by omega), if_pos (by omega)]; simp [cA, up_ap]
      | 5 => rw [if_neg (by omega), if_neg (by omega), if_pos (by omega)]; simp [cA, mdZ, up_ap, hnr]
    · rw [if_neg (by omega), if_neg (by omega), if_neg (by omega), if_neg (by omega), if_neg (by omega), hyj _ (by omega), a u hu w hw]
      match w with
      | 0 => simp [cA, stI, up_ap, e]
      | 1 => simp [cA, up_ap]
      | 2 => simp [cA, up_ap]
      | 3 => simp [cA, up_ap]
      | 4 => simp [cA, up_ap, e]
      | _ + 5 => simp [cA, mdZ, up_ap, e]
  · rw [hyj2 _ (by omega) (by omega), b u hu x hx, lk, lk, up_ne (by decide), up_ne (by decide)]
  · by_cases e : x = r
    · subst e
      rw [eqZ_ap ht, if_neg (by omega), if_neg (by omega), if_neg (by omega), if_pos rfl, qlen, qlen, hqr, insQ_len _ hn]
    · rw [hyj2 _ (by omega) (by omega), c x hx, qlen, qlen, hql x e]
  · by_cases e : x = r
    · subst e
      rw [qlen, hqr, insQ_len _ hn] at hi
      rw [hqr, eqZ_ap ht, if_neg (by omega), if_neg (by omega), if_neg (by omega), if_neg (by omega), insQ, getD_app]
      have hlt : ((Q x).take n).length = n := by rw [List.length_take]; omega
      rw [hlt]
      rcases Nat.lt_trichotomy i n with q | q | q
      · rw [if_neg (by omega), if_pos q, hy, if_neg (by omega), getD_take q]
        exact d x hx i (by omega)
      · subst q
        rw [if_pos rfl, if_neg (Nat.lt_irrefl _), Nat.sub_self]; rfl
      · obtain ⟨g, hg⟩ : ∃ g, i = n + (g + 1) := ⟨i - n - 1, by omega⟩
        subst hg
        rw [if_neg (by omega), if_neg (by omega), hy, if_pos (by omega), show n + (g + 1) - n = g + 1 by omega, List.getD_cons_succ, getD_drop, show 128 + 9 * x + 1 + (n + (g + 1)) - 1 = 128 + 9 * x + 1 + (n + g) by omega]
        exact d x hx (n + g) (by omega)
    · have hl := JJ_len hJ hx
      rw [qlen, hql x e] at hi
      rw [hql x e, hyj2 _ (by unfold qlen at hl; omega) (by omega)]
      exact d x hx i hi
  · rw [hyj2 _ (by omega) (by omega), s i hi, up_ne (by decide), up_ne (by decide)]
