def wb (a b : Nat) : Nat := if ah a 1 = b then 1 else if ah a 2 = b then 2 else if ah a 3 = b then 3 else if ah a 4 = b then 4 else 0
def op (w : Nat) : Nat := if w = 1 then 3 else if w = 2 then 4 else if w = 3 then 1 else if w = 4 then 2 else 0
theorem wb_eq : ∀ a, a < 96 → ∀ b, b < 96 → f_X2_wayBeside (nI a) (nI b) = some (nI (wb a b)) ∧ f_X9_areSide (nI a) (nI b) = some (if wb a b = 0 then 0 else 1) := by decide +kernel
theorem wb_le (a b : Nat) : wb a b ≤ 4 := by unfold wb; repeat' split
                                             all_goals omega
theorem wb_ah {a b : Nat} (h : wb a b ≠ 0) : ah a (wb a b) = b := by
  unfold wb at h ⊢
  split
  · assumption
  · split
    · assumption
    · split
      · assumption
      · split
        · assumption
        · rename_i h1 h2 h3 h4; rw [if_neg h1, if_neg h2, if_neg h3, if_neg h4] at h; exact absurd rfl h
theorem op_eq : ∀ w, w < 5 → f_X2_opposite (nI w) = some (nI (op w)) := by decide +kernel
theorem op_rng : ∀ w, w < 5 → 1 ≤ w → 1 ≤ op w ∧ op w ≤ 4 := by decide +kernel
theorem op_ah : ∀ c, c < 96 → ∀ w, w < 5 → ah c w < 96 → ah (ah c w) (op w) = c := by decide +kernel
theorem ah_injw : ∀ c, c < 96 → ∀ w, w < 5 → ∀ v, v < 5 → ah c w < 96 → ah c w = ah c v → w = v := by decide +kernel
