/-! the law's row is true -/
def lawE (e : Ent) : Prop := decode code e.1 = .ok (e.2.1, e.2.2.1) ∧ ∃ wl : List Cond, (∀ w ∈ wl, w ∈ gW) ∧ okx MT wl "GoatAbacusLaw" false e = true
theorem lawE_of {l : List (Nat × List Ent)} {wl : List Cond} (hw : ∀ w ∈ wl, w ∈ gW) (h : l.all (fun q => q.2.all (fun e => decide (decode code e.1 = .ok (e.2.1, e.2.2.1)) && okx MT wl "GoatAbacusLaw" false e)) = true) : ∀ q ∈ l, ∀ e ∈ q.2, lawE e := by
  intro q hq e he
  have h1 := List.all_eq_true.mp (List.all_eq_true.mp h q hq) e he
  simp only [Bool.and_eq_true, decide_eq_true_eq] at h1
  exact ⟨h1.1, wl, hw, h1.2⟩
theorem law_E : ∀ q ∈ mr_L_law.2.2.2.2.2, ∀ e ∈ q.2, lawE e := by
  rw [lawB_eq]
  exact List.forall_mem_append.mpr ⟨lawE_of wg_law_0 ok_law_0, List.forall_mem_append.mpr ⟨lawE_of wg_law_1 ok_law_1, List.forall_mem_append.mpr ⟨lawE_of wg_law_2 ok_law_2, List.forall_mem_append.mpr ⟨lawE_of wg_law_3 ok_law_3, List.forall_mem_append.mpr ⟨lawE_of wg_law_4 ok_law_4, List.forall_mem_append.mpr ⟨lawE_of wg_law_5 ok_law_5, List.forall_mem_append.mpr ⟨lawE_of wg_law_6 ok_law_6, List.forall_mem_append.mpr ⟨lawE_of wg_law_7 ok_law_7, List.forall_mem_append.mpr ⟨lawE_of wg_law_8 ok_law_8, List.forall_mem_append.mpr ⟨lawE_of wg_law_9 ok_law_9, List.forall_mem_append.mpr ⟨lawE_of wg_law_10 ok_law_10, List.forall_mem_append.mpr ⟨lawE_of wg_law_11 ok_law_11, List.forall_mem_append.mpr ⟨lawE_of wg_law_12 ok_law_12, List.forall_mem_append.mpr ⟨lawE_of wg_law_13 ok_law_13, List.forall_mem_append.mpr ⟨lawE_of wg_law_14 ok_law_14, List.forall_mem_append.mpr ⟨lawE_of wg_law_15 ok_law_15, List.forall_mem_append.mpr ⟨lawE_of wg_law_16 ok_law_16, lawE_of wg_law_17 ok_law_17⟩⟩⟩⟩⟩⟩⟩⟩⟩⟩⟩⟩⟩⟩⟩⟩⟩
