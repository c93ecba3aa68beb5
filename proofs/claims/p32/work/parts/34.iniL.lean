theorem JJ_ini : JJ iniF iniQ := by
  refine ⟨fun r _ => List.nodup_nil, fun r _ x h => (nomatch h), fun t ht => Or.inl ?_, fun t ht _ => ?_, fun t _ r _ => Or.inl rfl, fun r _ x h => (nomatch h), fun r _ => List.Pairwise.nil⟩
  · show (if t < 8 then (-1 : Int32) else 0) = -1
    rw [if_pos ht]
  · show (if t < 8 then (-1 : Int32) else 0) = -1
    rw [if_pos ht]
/-- the manager as it is made is one that calls can reach -/
theorem LR_ini : LR iniS iniJ := by
  refine ⟨JJ_ini, fun r _ i hi => absurd hi (Nat.not_lt_zero _), ⟨by decide, rfl, by decide, fun k hk => absurd hk (Nat.not_lt_zero _), fun k hk => absurd hk (Nat.not_lt_zero _)⟩, fun q h => (nomatch h), by decide, fun z => (by decide : (0 : Nat) < 128), trivial⟩
