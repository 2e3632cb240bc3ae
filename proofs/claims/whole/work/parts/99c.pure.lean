theorem pure_all : ∀ sc : Nat × (Nat → Int32), sc.1 ≤ 3073 → PureLaw sc := by
  intro sc hsc
  obtain ⟨x, hx⟩ : ∃ x : Int32, (if 0 < sc.1 then sc.2 0 else 0) = x := ⟨_, rfl⟩
  have z := enN_Z
  have y := enN_Y
  obtain ⟨X2, σ2, e, e1, e2⟩ := law_go sc hsc 513 1 FU enN (stN x) (by omega) (by omega) (by omega) (by unfold FU; omega) (Rel_start x) (by omega) (by omega)
  refine ⟨enN, X2, stN x, σ2, ?_, e, by omega, by omega⟩
  rw [mk_enN]
  exact iv_pre sc x hx
