theorem pure_all : ∀ sc : Nat × (Nat → Int32), sc.1 ≤ 3073 → PureLaw sc := by
  sorry
