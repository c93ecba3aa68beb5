theorem inB_c {x : Int32} : inB x (nI 32) (nI 126) = false ↔ x < nI 32 ∨ nI 126 < x := by
  rw [inB]
  by_cases h : x < nI 32
  · rw [decide_eq_true h]; simp [h]
  · rw [decide_eq_false h]; simp [h]
theorem inB_cy {x : Int32} (h : inB x (nI 32) (nI 126) = true) : ¬ x < nI 32 ∧ ¬ nI 126 < x := by
  have h2 := mt inB_c.mpr (show ¬ inB x (nI 32) (nI 126) = false by rw [h]; decide)
  exact ⟨fun q => h2 (Or.inl q), fun q => h2 (Or.inr q)⟩
theorem tx_s {sg : Nat → Nat} {tx : Nat → Int32} {len ch : Nat} (h : ∀ i, i < len → tx i = nI (sg i)) : ∀ i, i < len + 1 → upd tx len (nI ch) i = nI (va_up sg len ch i) := fun i hi => by
  by_cases e : i = len
  · rw [e, pk_us, va_up, if_pos rfl]
  · rw [pk_un e, va_up, if_neg e]; exact h i (by omega)
theorem sg_s {sg : Nat → Nat} {len ch : Nat} (h : ∀ z, sg z < 128) (hc : ch < 128) : ∀ z, va_up sg len ch z < 128 := fun z => by
  unfold va_up; split
  · exact hc
  · exact h z
theorem JC_co {n k t x : Nat} {F : FF} {Q : QQ} (hJ : JJ F Q) (h : JC n F) (hn : n < 2 ^ 31) (hk : isK k = true) (ht : t < 8) (hx : k = 115 ∨ k = 120 → x < 10) (ha : alB F k t = true) : JC (n + 1) (coF F Q k t x) := by
  rcases isK_or hk with rfl | rfl | rfl | rfl | rfl | rfl | rfl
  · rw [coF_97]; exact (JC_srv (JJ_end hJ ht) (JC_end h)).mono (by omega)
  · rw [coF_98]; exact h.st hn
  · rw [coF_99]; exact (JC_srv (JJ_end hJ ht) (JC_end h)).mono (by omega)
  · rw [coF_107]; exact (JC_srv (JJ_rm hJ ht) (JC_rm h)).mono (by omega)
  · simp [alB] at ha
    rw [coF_115]; exact (JC_ask (JJ_pl hJ ht (hx (Or.inl rfl)) (st_1.mp ha).2 (st_1.mp ha).1 (Or.inl rfl)) h).mono (by omega)
  · rw [coF_119]; exact (JC_work h).mono (by omega)
  · simp [alB] at ha
    rw [coF_120]; exact (JC_ask (JJ_pl hJ ht (hx (Or.inr rfl)) (st_1.mp ha).2 (st_1.mp ha).1 (Or.inr rfl)) h).mono (by omega)
def nxQ (sg : Nat → Nat) (len p : Nat) : Nat := if sgB sg len (rcR sg len p).2 59 = true then (rcR sg len p).2 + 1 else (rcR sg len p).2
theorem nx_all {sg : Nat → Nat} {len p : Nat} (hp : p ≤ len) (h : (rcR sg len p).2 = len ∨ (sgB sg len (rcR sg len p).2 59 = true ∧ ∃ m2, feN sg len m2 ((rcR sg len p).2 + 1) = none)) :
    ((rcR sg len p).2 + 1 = nxQ sg len p ∨ ((rcR sg len p).2 + 1 = len + 1 ∧ nxQ sg len p = len)) ∧ nxQ sg len p ≤ len ∧ (rcR sg len p).2 ≤ nxQ sg len p ∧ (nxQ sg len p = len ∨ ∃ m, feN sg len m (nxQ sg len p) = none) := by
  have h1 := nx_le (sg := sg) hp
  rcases h with h | ⟨h, m, hm⟩
  · have e : nxQ sg len p = len := nx_e h
    exact ⟨Or.inr ⟨by omega, e⟩, by omega, by omega, Or.inl e⟩
  · have e : nxQ sg len p = (rcR sg len p).2 + 1 := nx_s h
    exact ⟨Or.inl e.symm, h1, by omega, Or.inr ⟨m, by rw [e]; exact hm⟩⟩
