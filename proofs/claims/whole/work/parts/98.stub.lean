def lawE (e : Ent) : Prop := decode code e.1 = .ok (e.2.1, e.2.2.1) ∧ ∃ wl : List Cond, (∀ w ∈ wl, w ∈ gW) ∧ okx MT wl "GoatAbacusLaw" false e = true
theorem law_E : ∀ q ∈ mr_L_law.2.2.2.2.2, ∀ e ∈ q.2, lawE e := by
  sorry
theorem MT_ok : TabP MT := by
  sorry
