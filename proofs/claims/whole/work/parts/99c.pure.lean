theorem pure_all : ∀ sc : Nat × (Nat → Int32), sc.1 ≤ 3073 → PureLaw sc := by
  intro sc hsc
  obtain ⟨x, hx⟩ : ∃ x : Int32, (if 0 < sc.1 then sc.2 0 else 0) = x := ⟨_, rfl⟩
  have pre : e_L_pre_z sc E00 σ00 = some (0, 38, 71, enN, stN x) := iv_pre sc x hx
  have mk1 := mk_enN
  have rel := Rel_start x
  have z := enN_Z
  have y := enN_Y
  revert pre mk1 rel z y
  generalize enN = E
  generalize stN x = s
  intro pre mk1 rel z y
  obtain ⟨X2, σ2, e, e1, e2⟩ := law_go sc hsc 513 1 FU E s (by omega) (by omega) (by omega) (by unfold FU; omega) rel (by omega) (by omega)
  exact ⟨E, X2, s, σ2, by rw [mk1]; exact pre, e, by omega, by omega⟩
