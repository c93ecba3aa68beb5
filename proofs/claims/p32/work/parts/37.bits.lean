/-! the law's locks: two bits each in one number -/
def dig4 (d : Nat → Nat) : Nat → Nat
  | 0 => 0
  | n + 1 => 2 ^ (2 * n) * d n + dig4 d n
theorem dig4_lt {d : Nat → Nat} (h : ∀ u, d u < 4) : ∀ n, dig4 d n < 2 ^ (2 * n)
  | 0 => by simp [dig4]
  | n + 1 => by
    have ih := dig4_lt h n
    have h1 := h n
    rw [dig4, show 2 ^ (2 * (n + 1)) = 2 ^ (2 * n) * 4 by rw [show 2 * (n + 1) = 2 * n + 2 by omega, Nat.pow_add]]
    have h2 := Nat.mul_le_mul_left (2 ^ (2 * n)) (show d n ≤ 3 by omega)
    omega
theorem dig4_tb {d : Nat → Nat} (h : ∀ u, d u < 4) (j : Nat) : ∀ n, (dig4 d n).testBit j = (decide (j / 2 < n) && (d (j / 2)).testBit (j % 2))
  | 0 => by simp [dig4]
  | n + 1 => by
    have ih := dig4_tb h j n
    rw [dig4, Nat.testBit_two_pow_mul_add _ (dig4_lt h n)]
    by_cases hj : j < 2 * n
    · rw [if_pos hj, ih, decide_eq_true (show j / 2 < n by omega), decide_eq_true (show j / 2 < n + 1 by omega)]
    · rw [if_neg hj]
      by_cases h2 : j / 2 = n
      · rw [decide_eq_true (show j / 2 < n + 1 by omega), Bool.true_and, h2, show j - 2 * n = j % 2 by omega]
      · rw [decide_eq_false (show ¬ j / 2 < n + 1 by omega), Bool.false_and]
        refine Nat.testBit_lt_two_pow (Nat.lt_of_lt_of_le (h n) ?_)
        show 2 ^ 2 ≤ 2 ^ (j - 2 * n)
        exact Nat.pow_le_pow_right (by decide) (by omega)
theorem dig4_get {d : Nat → Nat} (h : ∀ u, d u < 4) {t : Nat} : ∀ n, t < n → dig4 d n / 2 ^ (2 * t) % 4 = d t
  | 0, hn => absurd hn (Nat.not_lt_zero _)
  | n + 1, hn => by
    rw [dig4]
    by_cases e : t = n
    · subst e
      rw [Nat.mul_add_div (Nat.two_pow_pos _), Nat.div_eq_of_lt (dig4_lt h t), Nat.add_zero, Nat.mod_eq_of_lt (h t)]
    · obtain ⟨k, rfl⟩ : ∃ k, n = t + 1 + k := ⟨n - t - 1, by omega⟩
      have e2 : 2 ^ (2 * (t + 1 + k)) * d (t + 1 + k) = 2 ^ (2 * t) * (4 * (2 ^ (2 * k) * d (t + 1 + k))) := by
        rw [show 2 * (t + 1 + k) = 2 * t + 2 + 2 * k by omega, Nat.pow_add, Nat.pow_add, Nat.mul_assoc, Nat.mul_assoc]
      rw [e2, Nat.mul_add_div (Nat.two_pow_pos _), Nat.mul_add_mod]
      exact dig4_get h (t + 1 + k) (by omega)
theorem dig4_cg {d d' : Nat → Nat} : ∀ n, (∀ u, u < n → d u = d' u) → dig4 d n = dig4 d' n
  | 0, _ => rfl
  | n + 1, h => by rw [dig4, dig4, h n (Nat.lt_succ_self _), dig4_cg n (fun u hu => h u (Nat.lt_succ_of_lt hu))]
theorem dig4_0 {d : Nat → Nat} (h : ∀ u, d u < 4) {n : Nat} : dig4 d n = 0 ↔ ∀ u, u < n → d u = 0 := by
  constructor
  · intro e u hu
    have := dig4_get h n hu
    rw [e, Nat.zero_div, Nat.zero_mod] at this
    exact this.symm
  · intro e
    rw [dig4_cg (d' := fun _ => 0) n e]
    clear e h
    induction n with
    | zero => rfl
    | succ n ih => rw [dig4, ih, Nat.mul_zero]
theorem mN_get {d : Nat → Nat} (h : ∀ u, d u < 4) {t : Nat} (ht : t < 8) : (nI (dig4 d 8) >>> (nI (2 * t) &&& 31)) &&& nI 3 = nI (d t) := by
  have hlt : dig4 d 8 < 2 ^ 31 := Nat.lt_trans (dig4_lt h 8) (by decide)
  rw [pk_shrN hlt _ (2 * t) ((by decide +kernel : ∀ t, t < 8 → ((nI (2 * t) &&& 31).toBitVec.smod 32).toNat = 2 * t) t ht)]
  rw [pk_andN (Nat.lt_of_le_of_lt (Nat.div_le_self _ _) (Nat.lt_trans hlt (by decide))) 2 (by decide)]
  congr 1
  exact dig4_get h 8 ht
def clrM (t : Nat) : Nat := 4294967295 - 3 * 4 ^ t
theorem clr_I {t : Nat} (ht : t < 8) : (nI 3 <<< (nI (2 * t) &&& 31)) ^^^ (-1) = nI (clrM t) := (by decide +kernel : ∀ t, t < 8 → (nI 3 <<< (nI (2 * t) &&& 31)) ^^^ (-1) = nI (clrM t)) t ht
theorem clr_tb {t j : Nat} (ht : t < 8) (hj : j < 32) : (clrM t).testBit j = !decide (j / 2 = t) := (by decide +kernel : ∀ t, t < 8 → ∀ j, j < 32 → (clrM t).testBit j = !decide (j / 2 = t)) t ht j hj
theorem set_lt {d : Nat → Nat} (h : ∀ u, d u < 4) {t v : Nat} (hv : v < 4) : ∀ u, va_up d t v u < 4 := fun u => by
  unfold va_up; split
  · exact hv
  · exact h u
theorem dig4_cl {d : Nat → Nat} (h : ∀ u, d u < 4) {t : Nat} (ht : t < 8) : dig4 d 8 &&& clrM t = dig4 (va_up d t 0) 8 := by
  refine Nat.eq_of_testBit_eq (fun j => ?_)
  rw [Nat.testBit_and, dig4_tb h, dig4_tb (set_lt h (show 0 < 4 by decide))]
  by_cases hj : j / 2 < 8
  · rw [clr_tb ht (by omega), decide_eq_true hj, Bool.true_and, Bool.true_and]
    by_cases e : j / 2 = t
    · simp [e, va_up]
    · simp [e, va_up]
  · simp [hj]
theorem pow4 (t : Nat) : 4 ^ t = 2 ^ (2 * t) := by rw [Nat.pow_mul]
theorem val_tb {t v j : Nat} (ht : t < 8) (hv : v < 4) : (v * 4 ^ t).testBit j = (decide (j / 2 = t) && v.testBit (j % 2)) := by
  by_cases hj : j < 16
  · exact (by decide +kernel : ∀ t, t < 8 → ∀ v, v < 4 → ∀ j, j < 16 → (v * 4 ^ t).testBit j = (decide (j / 2 = t) && v.testBit (j % 2))) t ht v hv j hj
  · rw [decide_eq_false (show ¬ j / 2 = t by omega), Bool.false_and]
    refine Nat.testBit_lt_two_pow (Nat.lt_of_lt_of_le ((by decide +kernel : ∀ t, t < 8 → ∀ v, v < 4 → v * 4 ^ t < 2 ^ 16) t ht v hv) ?_)
    exact Nat.pow_le_pow_right (by decide) (by omega)
theorem dig4_set {d : Nat → Nat} (h : ∀ u, d u < 4) {t v : Nat} (ht : t < 8) (hv : v < 4) : dig4 (va_up d t 0) 8 ||| v * 4 ^ t = dig4 (va_up d t v) 8 := by
  refine Nat.eq_of_testBit_eq (fun j => ?_)
  rw [Nat.testBit_or, dig4_tb (set_lt h (show 0 < 4 by decide)), dig4_tb (set_lt h hv), val_tb ht hv]
  by_cases e : j / 2 = t
  · simp [e, va_up, ht]
  · simp [e, va_up]
theorem shv_I {t v : Nat} (ht : t < 8) (hv : v < 4) : nI v <<< (nI (2 * t) &&& 31) = nI (v * 4 ^ t) := (by decide +kernel : ∀ t, t < 8 → ∀ v, v < 4 → nI v <<< (nI (2 * t) &&& 31) = nI (v * 4 ^ t)) t ht v hv
theorem cl_I {d : Nat → Nat} (h : ∀ u, d u < 4) {t : Nat} (ht : t < 8) : nI (dig4 d 8) &&& ((nI 3 <<< (nI (2 * t) &&& 31)) ^^^ (-1)) = nI (dig4 (va_up d t 0) 8) := by
  rw [clr_I ht, and_nI, dig4_cl h ht]
theorem set_I {d : Nat → Nat} (h : ∀ u, d u < 4) {t v : Nat} (ht : t < 8) (hv : v < 4) : (nI (dig4 d 8) &&& ((nI 3 <<< (nI (2 * t) &&& 31)) ^^^ (-1))) ||| (nI v <<< (nI (2 * t) &&& 31)) = nI (dig4 (va_up d t v) 8) := by
  rw [cl_I h ht, shv_I ht hv, or_nI, dig4_set h ht hv]
def lkn (F : FF) (r u : Nat) : Nat := if lk F u r = nI 1 then 1 else if lk F u r = nI 2 then 2 else 0
theorem lkn_lt {F : FF} {r : Nat} : ∀ u, lkn F r u < 4 := fun u => by
  unfold lkn; split
  · decide
  · split <;> decide
theorem lkn_I {F : FF} {Q : QQ} (hJ : JJ F Q) {u r : Nat} (hu : u < 8) (hr : r < 10) : nI (lkn F r u) = lk F u r := by
  rcases hJ.2.2.2.2.1 u hu r hr with h | h | h <;> rw [lkn, h]
  · rw [if_neg n0_1, if_neg n0_2]; rfl
  · rw [if_pos rfl]
  · rw [if_neg nI2_1, if_pos rfl]
theorem lkn_0 {F : FF} {r u : Nat} (h : lk F u r = 0) : lkn F r u = 0 := by rw [lkn, h, if_neg n0_1, if_neg n0_2]
theorem lkn_z {F : FF} {Q : QQ} (hJ : JJ F Q) {u r : Nat} (hu : u < 8) (hr : r < 10) : lkn F r u = 0 ↔ lk F u r = 0 := by
  constructor
  · intro h; rw [← lkn_I hJ hu hr, h]; rfl
  · exact lkn_0
theorem lkn_mo {F : FF} {r u v : Nat} (h : lk F u r = nI v) (hv : v = 1 ∨ v = 2) : lkn F r u = v := by
  rcases hv with rfl | rfl
  · rw [lkn, h, if_pos rfl]
  · rw [lkn, h, if_neg nI2_1, if_pos rfl]
theorem lkn_cg {F F' : FF} {r u : Nat} (h : lk F u r = lk F' u r) : lkn F r u = lkn F' r u := by rw [lkn, lkn, h]
def mN (F : FF) (r : Nat) : Nat := dig4 (lkn F r) 8
/-- the numbers of the locks -/
def MM (F : FF) (f : Nat → Int32) : Prop := ∀ r, r < 10 → f r = nI (mN F r)
theorem MM_get {F : FF} {Q : QQ} {f : Nat → Int32} (hJ : JJ F Q) (h : MM F f) {t r : Nat} (ht : t < 8) (hr : r < 10) : (f r >>> (nI (2 * t) &&& 31)) &&& nI 3 = lk F t r := by
  rw [h r hr, mN, mN_get lkn_lt ht, lkn_I hJ ht hr]
def cM (x : Int32) (t : Nat) : Int32 := x &&& ((nI 3 <<< (nI (2 * t) &&& 31)) ^^^ (-1))
def gM (f : Nat → Int32) (t r : Nat) (m : Int32) : Nat → Int32 := upd f r (cM (f r) t ||| (m <<< (nI (2 * t) &&& 31)))
theorem MM_cg {F F' : FF} {f : Nat → Int32} (h : MM F f) (h5 : F' 5 = F 5) : MM F' f := fun r hr => by
  rw [h r hr, mN, mN, show lkn F' r = lkn F r from funext (fun u => by rw [lkn, lkn, lk, h5, lk])]
theorem MM_gr {F : FF} {f : Nat → Int32} {t r : Nat} {m : Int32} (h : MM F f) (ht : t < 8) (hr : r < 10) (hm : m = nI 1 ∨ m = nI 2) : MM (grF F t r m) (gM f t r m) := fun x hx => by
  obtain ⟨v, hv, hmv⟩ : ∃ v, (v = 1 ∨ v = 2) ∧ m = nI v := hm.elim (fun q => ⟨1, Or.inl rfl, q⟩) (fun q => ⟨2, Or.inr rfl, q⟩)
  by_cases e : x = r
  · subst e
    rw [gM, pk_us, cM, h x hx, mN, hmv, set_I lkn_lt ht (by omega), mN]
    congr 1
    refine dig4_cg 8 (fun u hu => ?_)
    unfold va_up
    split
    · rename_i e; subst e
      rw [lkn_mo (v := v) (by rw [lk_gr hx hx, if_pos ⟨rfl, rfl⟩]) hv]
    · rename_i e
      exact lkn_cg (by rw [lk_gr hx hx, if_neg (fun q => e q.1)])
  · rw [gM, pk_un e, h x hx, mN, mN]
    congr 1
    refine dig4_cg 8 (fun u hu => ?_)
    exact lkn_cg (by rw [lk_gr hr hx, if_neg (fun q => e q.2)])
def rM (f : Nat → Int32) (t i : Nat) : Nat → Int32 := fun r => if r < i then cM (f r) t else f r
theorem rM_0 {f : Nat → Int32} {t : Nat} : rM f t 0 = f := by funext r; rw [rM, if_neg (Nat.not_lt_zero _)]
theorem rM_s {f : Nat → Int32} {t i : Nat} : upd (rM f t i) i (cM (rM f t i i) t) = rM f t (i + 1) := by
  funext r
  by_cases e : r = i
  · subst e; rw [pk_us, rM, if_neg (Nat.lt_irrefl _), rM, if_pos (Nat.lt_succ_self _)]
  · rw [pk_un e, rM, rM]
    by_cases h : r < i
    · rw [if_pos h, if_pos (by omega)]
    · rw [if_neg h, if_neg (by omega)]
theorem MM_rel {F : FF} {f : Nat → Int32} {t : Nat} (h : MM F f) (ht : t < 8) : MM (relF F t) (rM f t 10) := fun r hr => by
  rw [rM, if_pos hr, cM, h r hr, mN, cl_I lkn_lt ht, mN]
  congr 1
  refine dig4_cg 8 (fun u hu => ?_)
  unfold va_up
  split
  · rename_i e; rw [lkn_0 (by rw [lk_rel hr, if_pos e])]
  · rename_i e
    exact lkn_cg (by rw [lk_rel hr, if_neg e])
/-- no other transaction holds a lock -/
theorem alone_I {F : FF} {Q : QQ} {f : Nat → Int32} (hJ : JJ F Q) (h : MM F f) {t r : Nat} (ht : t < 8) (hr : r < 10) : cM (f r) t = 0 ↔ bits (rivB F t r (nI 2)) 8 = 0 := by
  rw [cM, h r hr, mN, cl_I lkn_lt ht, bits_0]
  have hlt : dig4 (va_up (lkn F r) t 0) 8 < 2 ^ 31 := Nat.lt_trans (dig4_lt (set_lt lkn_lt (by decide)) 8) (by decide)
  rw [show (0 : Int32) = nI 0 from rfl, nI_eq hlt (by decide), dig4_0 (set_lt lkn_lt (by decide))]
  constructor
  · intro h1 u hu
    have := h1 u hu
    unfold va_up at this
    rw [rivB, compB]
    by_cases e : u = t
    · simp [e]
    · rw [if_neg e] at this
      rw [(lkn_z hJ hu hr).mp this]
      simp
  · intro h1 u hu
    have := h1 u hu
    unfold va_up
    split
    · rfl
    · rename_i e
      rw [lkn_z hJ hu hr]
      simp only [rivB, compB] at this
      rcases hJ.2.2.2.2.1 u hu r hr with q | q | q
      · exact q
      · rw [q] at this; simp [e] at this; exact absurd this (by decide)
      · rw [q] at this; simp [e] at this; exact absurd this (by decide)
/-! longs that are small numbers -/
theorem lN_shr {x k : Nat} (hx : x < 2 ^ 63) (hk : k < 64) : lN x >>> ((nI k).toInt64 &&& 63) = lN (x / 2 ^ k) := by
  apply Int64.toInt_inj.mp
  rw [Kit.i64_shr _ _ ((by decide +kernel : ∀ k, k < 64 → (((nI k).toInt64 &&& 63).toBitVec.smod 64).toNat = k) k hk), pk_lT hx, pk_lT (Nat.lt_of_le_of_lt (Nat.div_le_self _ _) hx)]
  rw [show ((2 : Int) ^ k) = ((2 ^ k : Nat) : Int) by simp]
  rfl
theorem lN_shl {x k : Nat} (hx : x * 2 ^ k < 2 ^ 63) (hk : k < 64) : lN x <<< ((nI k).toInt64 &&& 63) = lN (x * 2 ^ k) := by
  apply Int64.toInt_inj.mp
  have h1 : x < 2 ^ 63 := Nat.lt_of_le_of_lt (Nat.le_mul_of_pos_right _ (Nat.two_pow_pos _)) hx
  have e : (x : Int) * 2 ^ k = ((x * 2 ^ k : Nat) : Int) := by simp
  rw [Kit.i64_shl _ _ ((by decide +kernel : ∀ k, k < 64 → (((nI k).toInt64 &&& 63).toBitVec.smod 64).toNat = k) k hk) (by rw [pk_lT h1, e]; omega) (by rw [pk_lT h1, e]; omega), pk_lT h1, pk_lT hx, e]
theorem lN_mask {x k : Nat} (hx : x < 2 ^ 63) (hk : k < 63) : lN x &&& (lN (2 ^ k) - lN 1) = lN (x % 2 ^ k) := by
  apply Int64.toInt_inj.mp
  rw [Kit.i64_mask _ _ (by omega) ((by decide +kernel : ∀ k, k < 63 → (lN (2 ^ k) - lN 1).toBitVec.toNat = 2 ^ k - 1) k hk), pk_lT hx, pk_lT (Nat.lt_of_le_of_lt (Nat.mod_le _ _) hx)]
  rw [show ((2 : Int) ^ k) = ((2 ^ k : Nat) : Int) by simp]
  rfl
theorem lN_m15 {x : Nat} (hx : x < 2 ^ 63) : lN x &&& 15 = lN (x % 16) := by
  have := lN_mask hx (show 4 < 63 by decide)
  rw [show lN (2 ^ 4) - lN 1 = 15 by decide +kernel] at this
  exact this
theorem lN_or (a b : Nat) : lN a ||| lN b = lN (a ||| b) := by
  apply Int64.toBitVec_inj.1
  show BitVec.ofNat 64 a ||| BitVec.ofNat 64 b = BitVec.ofNat 64 (a ||| b)
  apply BitVec.eq_of_getLsbD_eq
  intro i hi
  simp [hi]
theorem lN_pos {x : Nat} (hx : x < 2 ^ 63) : lg_cmp (lN x) (lN 0) ≤ 0 ↔ x = 0 := by
  rw [lg_cmp_le, pk_lLE hx (by decide)]; omega
theorem lN_eq0 {x : Nat} (hx : x < 2 ^ 63) : lg_cmp (lN x) (lN 0) = 0 ↔ x = 0 := by
  rw [lg_cmp_eq, pk_lEQ hx (by decide)]
/-! the law's queues: four bits each in one number -/
def qN : List Nat → Nat
  | [] => 0
  | x :: l => (x + 1) + 16 * qN l
theorem qN_lt : ∀ {l : List Nat}, (∀ x ∈ l, x < 8) → qN l < 2 ^ (4 * l.length)
  | [], _ => by decide
  | x :: l, h => by
    have h1 := h x List.mem_cons_self
    have h2 := qN_lt (fun y hy => h y (List.mem_cons_of_mem _ hy)) (l := l)
    rw [qN, List.length_cons, show 2 ^ (4 * (l.length + 1)) = 16 * 2 ^ (4 * l.length) by rw [show 4 * (l.length + 1) = 4 + 4 * l.length by omega, Nat.pow_add]]
    omega
theorem qN_app : ∀ {a b : List Nat}, qN (a ++ b) = qN a + 2 ^ (4 * a.length) * qN b
  | [], b => by simp [qN]
  | x :: a, b => by
    rw [List.cons_append, qN, qN_app, qN, List.length_cons, show 2 ^ (4 * (a.length + 1)) = 16 * 2 ^ (4 * a.length) by rw [show 4 * (a.length + 1) = 4 + 4 * a.length by omega, Nat.pow_add], Nat.mul_add, Nat.mul_assoc]
    omega
theorem qN_cut {l : List Nat} {i : Nat} (hi : i ≤ l.length) : qN l = qN (l.take i) + 2 ^ (4 * i) * qN (l.drop i) := by
  have h := qN_app (a := l.take i) (b := l.drop i)
  rw [List.take_append_drop, List.length_take, Nat.min_eq_left hi] at h
  exact h
theorem mem_take {l : List Nat} {i : Nat} (h : ∀ x ∈ l, x < 8) : ∀ x ∈ l.take i, x < 8 := fun x hx => h x (List.mem_of_mem_take hx)
theorem mem_drop {l : List Nat} {i : Nat} (h : ∀ x ∈ l, x < 8) : ∀ x ∈ l.drop i, x < 8 := fun x hx => h x (List.mem_of_mem_drop hx)
theorem take_lt {l : List Nat} {i : Nat} (h : ∀ x ∈ l, x < 8) (hi : i ≤ l.length) : qN (l.take i) < 2 ^ (4 * i) := by
  have := qN_lt (mem_take h (i := i))
  rw [List.length_take, Nat.min_eq_left hi] at this
  exact this
theorem qN_div {l : List Nat} {i : Nat} (h : ∀ x ∈ l, x < 8) (hi : i ≤ l.length) : qN l / 2 ^ (4 * i) = qN (l.drop i) := by
  rw [qN_cut hi, Nat.add_mul_div_left _ _ (Nat.two_pow_pos _), Nat.div_eq_of_lt (take_lt h hi), Nat.zero_add]
theorem qN_mod {l : List Nat} {i : Nat} (h : ∀ x ∈ l, x < 8) (hi : i ≤ l.length) : qN l % 2 ^ (4 * i) = qN (l.take i) := by
  rw [qN_cut hi, Nat.add_mul_mod_self_left, Nat.mod_eq_of_lt (take_lt h hi)]
theorem qN_at {l : List Nat} {i : Nat} (h : ∀ x ∈ l, x < 8) (hi : i < l.length) : qN l / 2 ^ (4 * i) % 16 = l.getD i 0 + 1 := by
  rw [qN_div h (Nat.le_of_lt hi), List.drop_eq_getElem_cons hi, qN, Nat.add_mul_mod_self_left]
  have := h l[i] (List.getElem_mem hi)
  rw [Nat.mod_eq_of_lt (by omega), List.getD_eq_getElem?_getD, List.getElem?_eq_getElem hi]
  rfl
theorem qN_0 {l : List Nat} : qN l = 0 ↔ l = [] := by
  cases l with
  | nil => simp [qN]
  | cons x l => simp only [qN, reduceCtorEq, iff_false]; omega
theorem qN_8 {l : List Nat} (h : ∀ x ∈ l, x < 8) (h8 : l.length ≤ 8) : qN l < 2 ^ 32 :=
  Nat.lt_of_lt_of_le (qN_lt h) (Nat.pow_le_pow_right (by decide) (by omega))
/-- one is taken out -/
theorem qN_rm {l : List Nat} {i : Nat} (h : ∀ x ∈ l, x < 8) (hi : i < l.length) : qN l / 2 ^ (4 * i + 4) * 2 ^ (4 * i) ||| qN l % 2 ^ (4 * i) = qN (l.take i ++ l.drop (i + 1)) := by
  rw [show 4 * i + 4 = 4 * (i + 1) by omega, qN_div h (by omega), qN_mod h (by omega), qN_app, List.length_take, Nat.min_eq_left (by omega), Nat.mul_comm, ← Nat.two_pow_add_eq_or_of_lt (take_lt h (by omega)), Nat.add_comm]
/-- one is put in -/
theorem qN_ins {l : List Nat} {i t : Nat} (h : ∀ x ∈ l, x < 8) (hi : i ≤ l.length) (ht : t < 8) : (qN l / 2 ^ (4 * i) * 2 ^ 4 ||| (1 + t)) * 2 ^ (4 * i) ||| qN l % 2 ^ (4 * i) = qN (insQ l i t) := by
  rw [qN_div h hi, qN_mod h hi, insQ, qN_app, List.length_take, Nat.min_eq_left hi, qN, Nat.mul_comm (qN (l.drop i)) (2 ^ 4), ← Nat.two_pow_add_eq_or_of_lt (show 1 + t < 2 ^ 4 by omega), Nat.mul_comm _ (2 ^ (4 * i)), ← Nat.two_pow_add_eq_or_of_lt (take_lt h hi), Nat.add_comm]
  congr 2
  omega
def QL (Q : QQ) (f : Nat → Int64) : Prop := ∀ r, r < 10 → f r = lN (qN (Q r))
theorem Q_8 {F : FF} {Q : QQ} (hJ : JJ F Q) {r : Nat} (hr : r < 10) : ∀ x ∈ Q r, x < 8 := fun x hx => (hJ.2.1 r hr x hx).1
theorem Q_lt {F : FF} {Q : QQ} (hJ : JJ F Q) {r : Nat} (hr : r < 10) : qN (Q r) < 2 ^ 32 := qN_8 (Q_8 hJ hr) (JJ_len hJ hr)
theorem Q_l63 {F : FF} {Q : QQ} (hJ : JJ F Q) {r : Nat} (hr : r < 10) : qN (Q r) < 2 ^ 63 := Nat.lt_trans (Q_lt hJ hr) (by decide)
theorem flt_ix {l : List Nat} {t : Nat} (h : l.Nodup) (hm : t ∈ l) : l.take (l.idxOf t) ++ l.drop (l.idxOf t + 1) = fltQ l t := by
  induction l with
  | nil => cases hm
  | cons x l ih =>
    have h2 := List.nodup_cons.mp h
    by_cases e : x = t
    · subst e
      have : (x :: l).idxOf x = 0 := by simp [List.idxOf_cons]
      rw [this]
      show [] ++ l = fltQ (x :: l) x
      unfold fltQ
      rw [List.filter_cons_of_neg (by simp), List.nil_append]
      exact (List.filter_eq_self.mpr (fun y hy => by
        have : y ≠ x := fun e => h2.1 (e ▸ hy)
        simpa using this)).symm
    · have h3 : t ∈ l := (List.mem_cons.mp hm).resolve_left (fun q => e q.symm)
      rw [ix_ne e, List.take_succ_cons, List.drop_succ_cons, List.cons_append, ih h2.2 h3]
      unfold fltQ
      rw [List.filter_cons_of_pos (by simpa using e)]
/-- the queue's number behind a removal -/
def rQ (x : Int64) (i : Nat) : Int64 := ((x >>> ((nI (4 * i + 4)).toInt64 &&& 63)) <<< ((nI (4 * i)).toInt64 &&& 63)) ||| (x &&& ((lN 1 <<< ((nI (4 * i)).toInt64 &&& 63)) - lN 1))
theorem QL_rm {F : FF} {Q : QQ} {f : Nat → Int64} {t r : Nat} (hJ : JJ F Q) (h : QL Q f) (hr : r < 10) (hm : t ∈ Q r) : QL (updQ Q r (fltQ (Q r) t)) (vp_updL f r (rQ (f r) ((Q r).idxOf t))) := fun x hx => by
  by_cases e : x = r
  · subst e
    have h8 := Q_8 hJ hx
    have hl := JJ_len hJ hx
    have hi : (Q x).idxOf t < (Q x).length := List.idxOf_lt_length_of_mem hm
    have hb := Q_lt hJ hx
    have hi8 : (Q x).idxOf t < 8 := Nat.lt_of_lt_of_le hi hl
    rw [pk_uLs, rQ, h x hx, lN_shr (Nat.lt_trans hb (by decide)) (by omega)]
    rw [lN_shl (x := 1) (Nat.lt_of_le_of_lt (Nat.le_of_eq (Nat.one_mul _)) (Nat.pow_lt_pow_right (by decide) (by omega))) (by omega), Nat.one_mul, lN_mask (Nat.lt_trans hb (by decide)) (by omega)]
    have hc : qN (Q x) / 2 ^ (4 * (Q x).idxOf t + 4) * 2 ^ (4 * (Q x).idxOf t) < 2 ^ 63 := by
      have h1 : qN (Q x) / 2 ^ (4 * (Q x).idxOf t + 4) * 2 ^ (4 * (Q x).idxOf t) ≤ qN (Q x) := by
        refine Nat.le_trans (Nat.mul_le_mul_left _ (Nat.pow_le_pow_right (by decide) (show 4 * (Q x).idxOf t ≤ 4 * (Q x).idxOf t + 4 by omega))) (Nat.div_mul_le_self _ _)
      exact Nat.lt_of_le_of_lt h1 (Nat.lt_trans hb (by decide))
    rw [lN_shl hc (by omega), lN_or, qN_rm h8 hi, flt_ix (hJ.1 x hx) hm]
    simp [updQ]
  · rw [pk_uLn e, h x hx]
    simp [updQ, e]
/-- .. and behind an insertion -/
def iQ (x : Int64) (i t : Nat) : Int64 := ((((x >>> ((nI (4 * i)).toInt64 &&& 63)) <<< ((nI 4).toInt64 &&& 63)) ||| (lN 1 + (nI t).toInt64)) <<< ((nI (4 * i)).toInt64 &&& 63)) ||| (x &&& ((lN 1 <<< ((nI (4 * i)).toInt64 &&& 63)) - lN 1))
theorem QL_ins {F : FF} {Q : QQ} {f : Nat → Int64} {t r i : Nat} (hJ : JJ F Q) (h : QL Q f) (hr : r < 10) (ht : t < 8) (hi : i ≤ qlen Q r) (h8 : qlen Q r < 8) : QL (updQ Q r (insQ (Q r) i t)) (vp_updL f r (iQ (f r) i t)) := fun x hx => by
  by_cases e : x = r
  · subst e
    have hq := Q_8 hJ hx
    have hb := Q_lt hJ hx
    have hi2 : i ≤ (Q x).length := hi
    have h82 : (Q x).length < 8 := h8
    rw [pk_uLs, iQ, h x hx, lN_shr (Nat.lt_trans hb (by decide)) (by omega), nI_l (n := t) (by omega), lN_add]
    rw [lN_shl (x := 1) (Nat.lt_of_le_of_lt (Nat.le_of_eq (Nat.one_mul _)) (Nat.pow_lt_pow_right (by decide) (by omega))) (by omega), Nat.one_mul, lN_mask (Nat.lt_trans hb (by decide)) (by omega)]
    have h1 : qN (Q x) / 2 ^ (4 * i) < 2 ^ 32 := Nat.lt_of_le_of_lt (Nat.div_le_self _ _) hb
    rw [lN_shl (by omega) (by decide), lN_or]
    have h2 := qN_ins hq hi2 ht
    have h3 : qN (insQ (Q x) i t) < 2 ^ (4 * (insQ (Q x) i t).length) := qN_lt (fun y hy => by
      rcases ins_mem.mp hy with q | q
      · exact hq y q
      · omega)
    rw [insQ_len _ hi2] at h3
    have h4 : qN (insQ (Q x) i t) < 2 ^ 63 := Nat.lt_of_lt_of_le h3 (Nat.pow_le_pow_right (by decide) (by omega))
    have h5 : (qN (Q x) / 2 ^ (4 * i) * 2 ^ 4 ||| (1 + t)) * 2 ^ (4 * i) < 2 ^ 63 := Nat.lt_of_le_of_lt (by rw [← h2]; exact Nat.left_le_or) h4
    rw [lN_shl h5 (by omega), lN_or, h2]
    simp [updQ]
  · rw [pk_uLn e, h x hx]
    simp [updQ, e]
