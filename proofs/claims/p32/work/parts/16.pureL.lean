/-! the whole manager: what each call answers and leaves -/
def ix (x : Int32) : Nat := x.toNatClampNeg
theorem ix_nI {n : Nat} (h : n < 2 ^ 31) : ix (nI n) = n := nI_clamp h
/-- one place below the number n -/
def inI (x : Int32) (n : Nat) : Bool := decide (¬ (x < 0 ∨ n ≤ x.toNatClampNeg))
def askF (F : FF) (Q : QQ) (t r : Nat) (m : Int32) : FF := if plW F Q t r m then brF (plF F Q t r m) (plQ F Q t r m) t else plF F Q t r m
def askQ (F : FF) (Q : QQ) (t r : Nat) (m : Int32) : QQ := if plW F Q t r m then brQ (plF F Q t r m) (plQ F Q t r m) t else plQ F Q t r m
def askV (F : FF) (Q : QQ) (t r : Nat) (m : Int32) : Nat := if plW F Q t r m then brV (plF F Q t r m) (plQ F Q t r m) t else 0
theorem JJ_ask {F : FF} {Q : QQ} {t r : Nat} {m : Int32} (h : JJ F Q) (ht : t < 8) (hr : r < 10) (h3 : F 3 t = -1) (h0 : ¬ F 0 t = -1) (hm : m = nI 1 ∨ m = nI 2) : JJ (askF F Q t r m) (askQ F Q t r m) := by
  have hp := JJ_pl h ht hr h3 h0 hm
  rw [askF, askQ]
  cases plW F Q t r m with
  | true => exact JJ_br 8 hp
  | false => exact hp
theorem ask_y {F : FF} {Q : QQ} {t r : Nat} {m : Int32} (h : plW F Q t r m = true) : askF F Q t r m = brF (plF F Q t r m) (plQ F Q t r m) t ∧ askQ F Q t r m = brQ (plF F Q t r m) (plQ F Q t r m) t ∧ askV F Q t r m = brV (plF F Q t r m) (plQ F Q t r m) t := by
  rw [askF, askQ, askV, h]; exact ⟨rfl, rfl, rfl⟩
theorem ask_n {F : FF} {Q : QQ} {t r : Nat} {m : Int32} (h : plW F Q t r m = false) : askF F Q t r m = plF F Q t r m ∧ askQ F Q t r m = plQ F Q t r m ∧ askV F Q t r m = 0 := by
  rw [askF, askQ, askV, h]; exact ⟨rfl, rfl, rfl⟩
theorem JJ_start {F : FF} {Q : QQ} {t : Nat} (h : JJ F Q) (h0 : F 0 t = -1) : JJ (startF F t) Q := by
  have f3 : startF F t 3 = F 3 := by rw [startF, up_ne (by decide), up_ne (by decide), up_ne (by decide), up_ne (by decide)]
  have f4 : startF F t 4 = F 4 := by rw [startF, up_ne (by decide), up_ne (by decide), up_ne (by decide), up_ne (by decide)]
  have f5 : startF F t 5 = F 5 := by rw [startF, up_ne (by decide), up_ne (by decide), up_ne (by decide), up_ne (by decide)]
  obtain ⟨a1, a2, a3, a4, a5, a6, a7⟩ := h
  have fl : ∀ u x, lk (startF F t) u x = lk F u x := fun u x => by rw [lk, f5, lk]
  refine ⟨a1, fun x hx y hy => by rw [f3]; exact a2 x hx y hy, fun u hu => by rw [f3]; exact a3 u hu, fun u hu hu0 => ?_, fun u hu x hx => by rw [fl]; exact a5 u hu x hx, fun x hx y hy => by rw [f4, fl]; exact a6 x hx y hy, fun x hx => ?_⟩
  · rw [f3]
    by_cases hut : u = t
    · rw [hut]; rw [hut] at hu; exact a4 t hu h0
    · refine a4 u hu ?_
      rw [startF, up_ne (by decide), up_ne (by decide), up_ne (by decide), up_eq, pk_un hut] at hu0
      exact hu0
  · have e : (fun y z => lk (startF F t) z x = nI 1 → lk (startF F t) y x = nI 1) = (fun y z => lk F z x = nI 1 → lk F y x = nI 1) := by
      funext y z; rw [fl, fl]
    rw [e]; exact a7 x hx
theorem JJ_work {F : FF} {Q : QQ} {t : Nat} {v : Int32} (h : JJ F Q) : JJ (up F 1 t v) Q := by
  have fl : ∀ u x, lk (up F 1 t v) u x = lk F u x := fun u x => by rw [lk, up_ne (by decide), lk]
  obtain ⟨a1, a2, a3, a4, a5, a6, a7⟩ := h
  refine ⟨a1, fun x hx y hy => by rw [up_ne (by decide)]; exact a2 x hx y hy, fun u hu => by rw [up_ne (by decide)]; exact a3 u hu, fun u hu hu0 => ?_, fun u hu x hx => by rw [fl]; exact a5 u hu x hx, fun x hx y hy => by rw [up_ne (by decide), fl]; exact a6 x hx y hy, fun x hx => ?_⟩
  · rw [up_ne (by decide)] at hu0 ⊢; exact a4 u hu hu0
  · have e : (fun y z => lk (up F 1 t v) z x = nI 1 → lk (up F 1 t v) y x = nI 1) = (fun y z => lk F z x = nI 1 → lk F y x = nI 1) := by
      funext y z; rw [fl, fl]
    rw [e]; exact a7 x hx
theorem st_0 {F : FF} {t : Nat} : stI F t = 0 ↔ F 0 t = -1 := by
  unfold stI; split
  · rename_i h; simp [h, nI_0]
  · rename_i h; split <;> simp [h, nI1_0, nI2_0]
theorem st_1 {F : FF} {t : Nat} : stI F t = nI 1 ↔ ¬ F 0 t = -1 ∧ F 3 t = -1 := by
  unfold stI; split
  · rename_i h; simp [h, nI_0, n0_1]
  · rename_i h; split
    · rename_i h2; simp [h, h2]
    · rename_i h2; simp [h2, nI2_1]
theorem st_2 {F : FF} {t : Nat} : stI F t = nI 2 ↔ ¬ F 0 t = -1 ∧ ¬ F 3 t = -1 := by
  unfold stI; split
  · rename_i h; simp [h, nI_0, n0_2]
  · rename_i h; split
    · rename_i h2; simp [h2, nI1_2]
    · rename_i h2; simp [h, h2]
/-! commands of a text -/
def alB (F : FF) (k t : Nat) : Bool := if k = 98 then stI F t == 0 else if k = 107 then stI F t == nI 2 else if k = 97 then !(stI F t == 0) else stI F t == nI 1
def coF (F : FF) (Q : QQ) (k t x : Nat) : FF := if k = 98 then startF F t else if k = 115 then askF F Q t x (nI 1) else if k = 120 then askF F Q t x (nI 2) else if k = 119 then up F 1 t (F 1 t + nI x) else if k = 107 then srvF (rmF F t) (rmQ F Q t) else srvF (endF F t) (rmQ F Q t)
def coQ (F : FF) (Q : QQ) (k t x : Nat) : QQ := if k = 98 then Q else if k = 115 then askQ F Q t x (nI 1) else if k = 120 then askQ F Q t x (nI 2) else if k = 119 then Q else if k = 107 then srvQ (rmF F t) (rmQ F Q t) else srvQ (endF F t) (rmQ F Q t)
theorem JJ_co {F : FF} {Q : QQ} {k t x : Nat} (h : JJ F Q) (hk : isK k = true) (ht : t < 8) (hx : k = 115 ∨ k = 120 → x < 10) (ha : alB F k t = true) : JJ (coF F Q k t x) (coQ F Q k t x) := by
  rcases isK_or hk with rfl | rfl | rfl | rfl | rfl | rfl | rfl
  · exact JJ_srv (JJ_end h ht)
  · simp [alB] at ha; exact JJ_start h (st_0.mp ha)
  · exact JJ_srv (JJ_end h ht)
  · exact JJ_srv (JJ_rm h ht)
  · simp [alB] at ha; exact JJ_ask h ht (hx (Or.inl rfl)) (st_1.mp ha).2 (st_1.mp ha).1 (Or.inl rfl)
  · exact JJ_work h
  · simp [alB] at ha; exact JJ_ask h ht (hx (Or.inr rfl)) (st_1.mp ha).2 (st_1.mp ha).1 (Or.inr rfl)
def nxP (sg : Nat → Nat) (len p : Nat) : Nat := if sgB sg len (rcR sg len p).2 59 = true then (rcR sg len p).2 + 1 else (rcR sg len p).2
def ruN (sg : Nat → Nat) (len : Nat) : Nat → Nat → FF → QQ → Nat → FF × QQ × Nat
  | 0, _, F, Q, k => (F, Q, k)
  | n + 1, p, F, Q, k => if (rcR sg len p).1 = true ∧ alB F (sg p) (sg (p + 1) - 48) = true then ruN sg len n (nxP sg len p) (coF F Q (sg p) (sg (p + 1) - 48) (rcO sg len p)) (coQ F Q (sg p) (sg (p + 1) - 48) (rcO sg len p)) (k + 1) else (F, Q, k)
abbrev ST : Type := FF × QQ × List (FF × QQ) × (Nat → Nat) × Nat
/-- what is held beside the state -/
abbrev JT : Type := (Nat → Int32) × FF × QQ × (Nat → Int32) × (Nat → Nat) × (Nat → Nat) × (Nat × Int32 × Int32 × Int32) × (Nat × Nat × (Nat → FF) × (Nat → QQ) × (Nat → Nat → Int32))
abbrev AD : Type := (Nat → Nat) × (Nat → Nat) × (Nat → Nat) × (Nat → Nat) × (Nat → Nat) × (Nat → Nat) × (Nat → Nat → Nat)
abbrev lmW (cI cT : ClassId) (x a o b t h : Nat → Nat) (ra : Nat → Nat → Nat) (s : ST) (j : JT) : va_W :=
  ([(x 0, .inr (4, [.ref (a 0), .ref (o 0), .ref (b 0), .ref (h 0), .ref (t 0)]))] ++ tblW cI a s.1 s.2.1 j.1 ++ tblW cI o j.2.1 j.2.2.1 j.2.2.2.1 ++ brkW cI b j.2.2.2.2.1 j.2.2.2.2.2.1 ++ txtW cI t s.2.2.2.1 s.2.2.2.2 j.2.2.2.2.2.2.1.1 j.2.2.2.2.2.2.1.2.1 j.2.2.2.2.2.2.1.2.2.1 j.2.2.2.2.2.2.1.2.2.2 ++ hisW cT h ra j.2.2.2.2.2.2.2.1 j.2.2.2.2.2.2.2.2.1) ++ rowsF ra cI j.2.2.2.2.2.2.2.2.2.1 j.2.2.2.2.2.2.2.2.2.2.1 j.2.2.2.2.2.2.2.2.2.2.2 0 8
theorem adr_lm {cI cT : ClassId} {x a o b t h : Nat → Nat} {ra : Nat → Nat → Nat} {s s2 : ST} {j j2 : JT} : (lmW cI cT x a o b t h ra s j).map Prod.fst = (lmW cI cT x a o b t h ra s2 j2).map Prod.fst := by
  unfold lmW
  simp only [List.map_append, adr_rows, adr_tbl, adr_his, adr_brk, adr_txt]
/-- the state is one that calls can reach, and what is held beside it fits -/
def LR (s : ST) (j : JT) : Prop :=
  JJ s.1 s.2.1 ∧ RQ s.2.1 j.1 ∧ RH j.2.2.2.2.2.2.2.1 j.2.2.2.2.2.2.2.2.1 j.2.2.2.2.2.2.2.2.2.1 j.2.2.2.2.2.2.2.2.2.2.1 j.2.2.2.2.2.2.2.2.2.2.2 s.2.2.1 ∧ (∀ q ∈ s.2.2.1, JJ q.1 q.2) ∧ s.2.2.2.2 ≤ 80 ∧ (∀ z, s.2.2.2.1 z < 128) ∧ True
def push (s : ST) : List (FF × QQ) := ((s.1, s.2.1) :: s.2.2.1).take 8
abbrev RS : Type := Nat × Int32 × ST
def opBegin (s : ST) (p0 : Int32) : RS := if inI p0 8 = false then (1, 0, s) else if ¬ stI s.1 (ix p0) = 0 then (2, 0, s) else (0, s.1 8 0, (startF s.1 (ix p0), s.2.1, push s, s.2.2.2))
def mdB (m : Int32) : Bool := m == nI 1 || m == nI 2
def opRequest (s : ST) (p0 p1 p2 : Int32) : RS := if inI p0 8 = false then (1, 0, s) else if inI p1 10 = false then (1, 0, s) else if mdB p2 = false then (2, 0, s) else if ¬ stI s.1 (ix p0) = nI 1 then (3, 0, s) else (0, outI (askF s.1 s.2.1 (ix p0) (ix p1) p2) (ix p0) (ix p1) p2, (askF s.1 s.2.1 (ix p0) (ix p1) p2, askQ s.1 s.2.1 (ix p0) (ix p1) p2, push s, s.2.2.2))
def opWork (s : ST) (p0 p1 : Int32) : RS := if inI p0 8 = false then (1, 0, s) else if p1 < nI 1 ∨ nI 1000 < p1 then (2, 0, s) else if ¬ stI s.1 (ix p0) = nI 1 then (3, 0, s) else (0, s.1 1 (ix p0) + p1, (up s.1 1 (ix p0) (s.1 1 (ix p0) + p1), s.2.1, push s, s.2.2.2))
def opWithdraw (s : ST) (p0 : Int32) : RS := if inI p0 8 = false then (1, 0, s) else if ¬ stI s.1 (ix p0) = nI 2 then (2, 0, s) else (0, nI (srvN (rmF s.1 (ix p0)) (rmQ s.1 s.2.1 (ix p0))), (srvF (rmF s.1 (ix p0)) (rmQ s.1 s.2.1 (ix p0)), srvQ (rmF s.1 (ix p0)) (rmQ s.1 s.2.1 (ix p0)), push s, s.2.2.2))
def endR (s : ST) (t : Nat) : RS := (0, nI (srvN (endF s.1 t) (rmQ s.1 s.2.1 t)), (srvF (endF s.1 t) (rmQ s.1 s.2.1 t), srvQ (endF s.1 t) (rmQ s.1 s.2.1 t), push s, s.2.2.2))
def opCommit (s : ST) (p0 : Int32) : RS := if inI p0 8 = false then (1, 0, s) else if ¬ stI s.1 (ix p0) = nI 1 then (2, 0, s) else endR s (ix p0)
def opRollBack (s : ST) (p0 : Int32) : RS := if inI p0 8 = false then (1, 0, s) else if stI s.1 (ix p0) = 0 then (2, 0, s) else endR s (ix p0)
def opAppend (s : ST) (p0 : Int32) : RS := if p0 < nI 32 ∨ nI 126 < p0 then (1, 0, s) else if 80 ≤ s.2.2.2.2 then (2, 0, s) else (0, nI (s.2.2.2.2 + 1), (s.1, s.2.1, s.2.2.1, va_up s.2.2.2.1 s.2.2.2.2 (ix p0), s.2.2.2.2 + 1))
def opClear (s : ST) : RS := (0, nI s.2.2.2.2, (s.1, s.2.1, s.2.2.1, s.2.2.2.1, 0))
def opError (s : ST) : RS := (0, oI (feN s.2.2.2.1 s.2.2.2.2 80 0), s)
def ruR (s : ST) : FF × QQ × Nat := ruN s.2.2.2.1 s.2.2.2.2 80 0 s.1 s.2.1 0
def opRun (s : ST) : RS := if ¬ oI (feN s.2.2.2.1 s.2.2.2.2 80 0) = -1 then (1, 0, s) else (0, nI (ruR s).2.2, ((ruR s).1, (ruR s).2.1, push s, s.2.2.2))
def opUndo (s : ST) : RS := match s.2.2.1 with | [] => (1, 0, s) | q :: HS => (0, nI HS.length, (q.1, q.2, HS, s.2.2.2))
def opT (s : ST) (p0 : Int32) (f : Nat → Int32) : RS := if inI p0 8 = false then (1, 0, s) else (0, f (ix p0), s)
def opR (s : ST) (p0 : Int32) (f : Nat → Int32) : RS := if inI p0 10 = false then (1, 0, s) else (0, f (ix p0), s)
def opHeld (s : ST) (p0 p1 : Int32) : RS := if inI p0 8 = false then (1, 0, s) else if inI p1 10 = false then (1, 0, s) else (0, lk s.1 (ix p0) (ix p1), s)
def pcN (S : Nat) : Nat → Nat | 0 => 0 | n + 1 => pcN S n + (if S.testBit n then 1 else 0)
def clB (s : ST) (t : Nat) : Nat := clR s.1 s.2.1 (aWS s.1 s.2.1 t) 7
def blkN (S t : Nat) : Nat → Nat | 0 => 0 | n + 1 => blkN S t n + (if n ≠ t ∧ S.testBit n = true then 1 else 0)
def qdI (s : ST) (r : Nat) (i : Int32) : Int32 := if nI (qlen s.2.1 r) ≤ i then -1 else nI (10 * (s.2.1 r).getD (ix i) 0) + s.1 4 ((s.2.1 r).getD (ix i) 0)
def opQueued (s : ST) (p0 p1 : Int32) : RS := if inI p0 10 = false then (1, 0, s) else if p1 < 0 then (1, 0, s) else (0, qdI s (ix p0) p1, s)
def opIf (s : ST) (p0 p1 p2 : Int32) : RS := if inI p0 8 = false then (1, 0, s) else if inI p1 10 = false then (1, 0, s) else if mdB p2 = false then (2, 0, s) else if ¬ stI s.1 (ix p0) = nI 1 then (0, -1, s) else (0, outI (askF s.1 s.2.1 (ix p0) (ix p1) p2) (ix p0) (ix p1) p2, s)
def opVic (s : ST) (p0 p1 p2 : Int32) : RS := if inI p0 8 = false then (1, 0, s) else if inI p1 10 = false then (1, 0, s) else if mdB p2 = false then (2, 0, s) else if ¬ stI s.1 (ix p0) = nI 1 then (0, 0, s) else (0, nI (askV s.1 s.2.1 (ix p0) (ix p1) p2), s)
def lkN (F : FF) : Nat → Nat | 0 => 0 | n + 1 => lkN F n + pcN (bits (hldB F n) 8) 8
def opV (s : ST) (v : Int32) : RS := (0, v, s)
theorem inI_t {x : Int32} {n : Nat} (hn : n < 2 ^ 31) (h : inI x n = true) : ∃ j, j < n ∧ x = nI j := vp_in_of (show ¬ (x < 0 ∨ n ≤ x.toNatClampNeg) from of_decide_eq_true h) hn
theorem inI_n {n j : Nat} (hj : j < n) (hn : n < 2 ^ 31) : inI (nI j) n = true := by
  exact decide_eq_true (vp_in_nI hj hn)
theorem LR_push {s : ST} {j : JT} (h : LR s j) : ∀ q ∈ push s, JJ q.1 q.2 := fun q hq => by
  rcases List.mem_cons.mp (List.mem_of_mem_take hq) with e | e
  · rw [e]; exact h.1
  · exact h.2.2.2.1 q e
theorem pmS {α : Type} {X TA M hs R : List α} : (X ++ TA ++ (M ++ (hs ++ R))).Perm ((X ++ M) ++ (hs ++ R ++ TA) ++ []) := by
  have h : (TA ++ (M ++ (hs ++ R))).Perm (M ++ (hs ++ R) ++ TA) := List.perm_append_comm
  have h2 := h.append_left X
  simpa [List.append_assoc] using h2
theorem pmA {α : Type} {X TA TO B Z : List α} : (X ++ TA ++ TO ++ B ++ Z).Perm ((X ++ TO) ++ (B ++ TA) ++ Z) := by
  have h : (TA ++ (TO ++ B)).Perm (TO ++ B ++ TA) := List.perm_append_comm
  have h2 := (h.append_left X).append_right Z
  simpa [List.append_assoc] using h2
theorem pmO {α : Type} {X TA TO B Z : List α} : (X ++ TA ++ TO ++ B ++ Z).Perm ((X ++ TA) ++ (B ++ TO) ++ Z) := by
  have h : (TO ++ B).Perm (B ++ TO) := List.perm_append_comm
  have h2 := (h.append_left (X ++ TA)).append_right Z
  simpa [List.append_assoc] using h2
