theorem fr_X9_topPlace_30 (x2 : Int32) (σ : St) {r : Int32 × St} (h : f_X9_topPlace_30 x2 σ = some r) : frm [] [] σ r.2 := by
  unfold f_X9_topPlace_30 at h
  cases h
  exact (frm.rf _)
theorem fr_X9_topPlace_4 : ∀ (n : Nat) (x0 : Int64) (x2 : Int32) (x3 : Int32) (σ : St) {r : Int32 × St}, f_X9_topPlace_4 n x0 x2 x3 σ = some r → frm [] [] σ r.2 := by
  intro n
  induction n with
  | zero =>
    intro x0 x2 x3 σ r h
    cases h
  | succ n ih =>
    intro x0 x2 x3 σ r h
    simp only [f_X9_topPlace_4] at h
    rcases ite_sp h with ⟨-, h⟩ | ⟨-, h⟩
    · exact fr_X9_topPlace_30 _ _ h
    · obtain ⟨-, h⟩ := gd_some h
      rcases ite_sp h with ⟨-, h⟩ | ⟨-, h⟩
      · exact fr_X9_topPlace_30 _ _ h
      · exact ih _ _ _ _ h
theorem fr_X9_topPlace {x0 : Int64} {σ : St} {r : Int32 × St} (h : f_X9_topPlace x0 σ = some r) : frm [] [] σ r.2 := by
  unfold f_X9_topPlace at h
  exact fr_X9_topPlace_4 FU _ _ _ _ h
theorem fr_X7_topRope (o : Nat) {x1 : Int32} {σ : St} {r : Int32 × St} (h : f_X7_topRope o x1 σ = some r) : frm [] [] σ r.2 := by
  unfold f_X7_topRope at h
  obtain ⟨-, h⟩ := gd_some h
  obtain ⟨-, h⟩ := gd_some h
  obtain ⟨p1, hp1, h⟩ := bind_sp h
  refine frm.tr (frm.rf _) (frm.tr (frm.mo (fr_X9_topPlace hp1) (by decide) (by decide)) ?_)
  cases h
  exact (frm.rf _)
theorem fr_X9_digitOf_28 (y0 : Int32) (σ : St) {r : Int32 × St} (h : f_X9_digitOf_28 y0 σ = some r) : frm [] [] σ r.2 := by
  unfold f_X9_digitOf_28 at h
  cases h
  exact (frm.rf _)
theorem fr_X9_digitOf_12 (σ : St) {r : Int32 × St} (h : f_X9_digitOf_12 σ = some r) : frm [] [] σ r.2 := by
  unfold f_X9_digitOf_12 at h
  exact fr_X9_digitOf_28 _ _ h
theorem fr_X9_digitOf {x0 : Int64} {x2 : Int32} {σ : St} {r : Int32 × St} (h : f_X9_digitOf x0 x2 σ = some r) : frm [] [] σ r.2 := by
  unfold f_X9_digitOf at h
  rcases ite_sp h with ⟨-, h⟩ | ⟨-, h⟩
  · exact fr_X9_digitOf_12 _ h
  · rcases ite_sp h with ⟨-, h⟩ | ⟨-, h⟩
    · obtain ⟨-, h⟩ := gd_some h
      obtain ⟨-, h⟩ := gd_some h
      exact fr_X9_digitOf_28 _ _ h
    · exact fr_X9_digitOf_12 _ h
theorem fr_X0_setOut_151 (q : Nat) (k49 : Int32 → Int32 → Int32 → St → Option (St)) (hk49 : ∀ (x2 : Int32) (x4 : Int32) (x5 : Int32) (σ : St) {r : St}, k49 x2 x4 x5 σ = some r → frm [28, 29, 30, 31, 32, 35, 36, 37] [(27, 10), (27, 11), (27, 12)] σ r) (x2 : Int32) (x4 : Int32) (x5 : Int32) (σ : St) {r : St} (h : f_X0_setOut_151 q k49 x2 x4 x5 σ = some r) : frm [28, 29, 30, 31, 32, 35, 36, 37] [(27, 10), (27, 11), (27, 12)] σ r := by
  unfold f_X0_setOut_151 at h
  exact hk49 _ _ _ _ h
theorem fr_X0_setOut_127 (q : Nat) (k49 : Int32 → Int32 → Int32 → St → Option (St)) (hk49 : ∀ (x2 : Int32) (x4 : Int32) (x5 : Int32) (σ : St) {r : St}, k49 x2 x4 x5 σ = some r → frm [28, 29, 30, 31, 32, 35, 36, 37] [(27, 10), (27, 11), (27, 12)] σ r) (x2 : Int32) (x4 : Int32) (x5 : Int32) (σ : St) {r : St} (h : f_X0_setOut_127 q k49 x2 x4 x5 σ = some r) : frm [28, 29, 30, 31, 32, 35, 36, 37] [(27, 10), (27, 11), (27, 12)] σ r := by
  unfold f_X0_setOut_127 at h
  obtain ⟨-, h⟩ := gd_some h
  obtain ⟨-, h⟩ := gd_some h
  obtain ⟨-, h⟩ := gd_some h
  exact frm.tr (frm_sI (frm_sI (frm_sI (frm.rf _) (by simp)) (by simp)) (by simp)) (fr_X0_setOut_151 q _ hk49 _ _ _ _ h)
theorem fr_X0_setOut_110 (q : Nat) (k49 : Int32 → Int32 → Int32 → St → Option (St)) (hk49 : ∀ (x2 : Int32) (x4 : Int32) (x5 : Int32) (σ : St) {r : St}, k49 x2 x4 x5 σ = some r → frm [28, 29, 30, 31, 32, 35, 36, 37] [(27, 10), (27, 11), (27, 12)] σ r) (x2 : Int32) (x4 : Int32) (x5 : Int32) (y0 : Int32) (y1 : Int32) (σ : St) {r : St} (h : f_X0_setOut_110 q k49 x2 x4 x5 y0 y1 σ = some r) : frm [28, 29, 30, 31, 32, 35, 36, 37] [(27, 10), (27, 11), (27, 12)] σ r := by
  unfold f_X0_setOut_110 at h
  obtain ⟨-, h⟩ := gd_some h
  obtain ⟨-, h⟩ := gd_some h
  obtain ⟨-, h⟩ := gd_some h
  exact frm.tr (frm_sI (frm_sI (frm_sI (frm.rf _) (by simp)) (by simp)) (by simp)) (fr_X0_setOut_127 q _ hk49 _ _ _ _ h)
theorem fr_X0_setOut_86 (q : Nat) (k49 : Int32 → Int32 → Int32 → St → Option (St)) (hk49 : ∀ (x2 : Int32) (x4 : Int32) (x5 : Int32) (σ : St) {r : St}, k49 x2 x4 x5 σ = some r → frm [28, 29, 30, 31, 32, 35, 36, 37] [(27, 10), (27, 11), (27, 12)] σ r) (x2 : Int32) (x4 : Int32) (x5 : Int32) (σ : St) {r : St} (h : f_X0_setOut_86 q k49 x2 x4 x5 σ = some r) : frm [28, 29, 30, 31, 32, 35, 36, 37] [(27, 10), (27, 11), (27, 12)] σ r := by
  unfold f_X0_setOut_86 at h
  rcases ite_sp h with ⟨-, h⟩ | ⟨-, h⟩
  · exact fr_X0_setOut_110 q _ hk49 _ _ _ _ _ _ h
  · obtain ⟨p2, hp2, h⟩ := bind_sp h
    refine frm.tr (frm.rf _) (frm.tr (frm.mo (fr_X9_digitOf hp2) (by decide) (by decide)) ?_)
    exact fr_X0_setOut_110 q _ hk49 _ _ _ _ _ _ h
theorem fr_X0_setOut_49 (q : Nat) : ∀ (n : Nat) (x2 : Int32) (x4 : Int32) (x5 : Int32) (σ : St) {r : St}, f_X0_setOut_49 q n x2 x4 x5 σ = some r → frm [28, 29, 30, 31, 32, 35, 36, 37] [(27, 10), (27, 11), (27, 12)] σ r := by
  intro n
  induction n with
  | zero =>
    intro x2 x4 x5 σ r h
    cases h
  | succ n ih =>
    intro x2 x4 x5 σ r h
    simp only [f_X0_setOut_49] at h
    rcases ite_sp h with ⟨-, h⟩ | ⟨-, h⟩
    · cases h
      exact (frm.rf _)
    · obtain ⟨-, h⟩ := gd_some h
      obtain ⟨-, h⟩ := gd_some h
      obtain ⟨-, h⟩ := gd_some h
      obtain ⟨-, h⟩ := gd_some h
      exact frm.tr (frm_sI (frm_sI (frm.rf _) (by simp)) (by simp)) (fr_X0_setOut_86 q _ ih _ _ _ _ h)
theorem fr_X0_setOut_43 (q : Nat) (x2 : Int32) (x4 : Int32) (y0 : Int32) (σ : St) {r : St} (h : f_X0_setOut_43 q x2 x4 y0 σ = some r) : frm [28, 29, 30, 31, 32, 35, 36, 37] [(27, 10), (27, 11), (27, 12)] σ r := by
  unfold f_X0_setOut_43 at h
  exact frm.tr (frm_sIf (frm.rf _) (by simp)) (fr_X0_setOut_49 q FU _ _ _ _ h)
theorem fr_X0_setOut (q : Nat) {x2 : Int32} {x3 : Int32} {σ : St} {r : St} (h : f_X0_setOut q x2 x3 σ = some r) : frm [28, 29, 30, 31, 32, 35, 36, 37] [(27, 10), (27, 11), (27, 12)] σ r := by
  unfold f_X0_setOut at h
  obtain ⟨p1, hp1, h⟩ := bind_sp h
  refine frm.tr (frm_sIf (frm_sIf (frm.rf _) (by simp)) (by simp)) (frm.tr (frm.mo (fr_X7_topRope q hp1) (by decide) (by decide)) ?_)
  rcases ite_sp h with ⟨-, h⟩ | ⟨-, h⟩
  · exact fr_X0_setOut_43 q _ _ _ _ h
  · exact fr_X0_setOut_43 q _ _ _ _ h
theorem fr_X0_comeBack_59 (k2 : Int32 → Int32 → St → Option (St)) (hk2 : ∀ (x1 : Int32) (x2 : Int32) (σ : St) {r : St}, k2 x1 x2 σ = some r → frm [31, 37] [(27, 14)] σ r) (x1 : Int32) (x2 : Int32) (σ : St) {r : St} (h : f_X0_comeBack_59 k2 x1 x2 σ = some r) : frm [31, 37] [(27, 14)] σ r := by
  unfold f_X0_comeBack_59 at h
  exact hk2 _ _ _ h
theorem fr_X0_comeBack_37 (k2 : Int32 → Int32 → St → Option (St)) (hk2 : ∀ (x1 : Int32) (x2 : Int32) (σ : St) {r : St}, k2 x1 x2 σ = some r → frm [31, 37] [(27, 14)] σ r) (x1 : Int32) (x2 : Int32) (σ : St) {r : St} (h : f_X0_comeBack_37 k2 x1 x2 σ = some r) : frm [31, 37] [(27, 14)] σ r := by
  unfold f_X0_comeBack_37 at h
  rcases ite_sp h with ⟨-, h⟩ | ⟨-, h⟩
  · exact fr_X0_comeBack_59 _ hk2 _ _ _ h
  · obtain ⟨-, h⟩ := gd_some h
    obtain ⟨-, h⟩ := gd_some h
    exact frm.tr (frm_sI (frm.rf _) (by simp)) (fr_X0_comeBack_59 _ hk2 _ _ _ h)
theorem fr_X0_comeBack_2 : ∀ (n : Nat) (x1 : Int32) (x2 : Int32) (σ : St) {r : St}, f_X0_comeBack_2 n x1 x2 σ = some r → frm [31, 37] [(27, 14)] σ r := by
  intro n
  induction n with
  | zero =>
    intro x1 x2 σ r h
    cases h
  | succ n ih =>
    intro x1 x2 σ r h
    simp only [f_X0_comeBack_2] at h
    rcases ite_sp h with ⟨-, h⟩ | ⟨-, h⟩
    · cases h
      exact (frm.rf _)
    · obtain ⟨-, h⟩ := gd_some h
      rcases ite_sp h with ⟨-, h⟩ | ⟨-, h⟩
      · obtain ⟨-, h⟩ := gd_some h
        exact frm.tr (frm_sIf (frm_sI (frm.rf _) (by simp)) (by simp)) (fr_X0_comeBack_37 _ ih _ _ _ h)
      · exact fr_X0_comeBack_59 _ ih _ _ _ h
theorem fr_X0_comeBack {x1 : Int32} {σ : St} {r : St} (h : f_X0_comeBack x1 σ = some r) : frm [31, 37] [(27, 14)] σ r := by
  unfold f_X0_comeBack at h
  exact fr_X0_comeBack_2 FU _ _ _ h
theorem fr_X0_endDrive_35 (σ : St) {r : St} (h : f_X0_endDrive_35 σ = some r) : frm [28, 32, 36] [] σ r := by
  unfold f_X0_endDrive_35 at h
  cases h
  exact (frm.rf _)
theorem fr_X0_endDrive_19 (x1 : Int32) (σ : St) {r : St} (h : f_X0_endDrive_19 x1 σ = some r) : frm [28, 32, 36] [] σ r := by
  unfold f_X0_endDrive_19 at h
  obtain ⟨-, h⟩ := gd_some h
  rcases ite_sp h with ⟨-, h⟩ | ⟨-, h⟩
  · exact fr_X0_endDrive_35 _ h
  · obtain ⟨-, h⟩ := gd_some h
    exact frm.tr (frm_sI (frm.rf _) (by simp)) (fr_X0_endDrive_35 _ h)
theorem fr_X0_endDrive {x1 : Int32} {σ : St} {r : St} (h : f_X0_endDrive x1 σ = some r) : frm [28, 32, 36] [] σ r := by
  unfold f_X0_endDrive at h
  obtain ⟨-, h⟩ := gd_some h
  obtain ⟨-, h⟩ := gd_some h
  obtain ⟨-, h⟩ := gd_some h
  exact frm.tr (frm_sI (frm_sI (frm.rf _) (by simp)) (by simp)) (fr_X0_endDrive_19 _ _ h)
theorem fr_X0_nextDrive_60 (x3 : Int32) (σ : St) {r : Int32 × St} (h : f_X0_nextDrive_60 x3 σ = some r) : frm [30, 31] [] σ r.2 := by
  unfold f_X0_nextDrive_60 at h
  cases h
  exact (frm.rf _)
theorem fr_X0_nextDrive_39 (x1 : Int32) (x3 : Int32) (σ : St) {r : Int32 × St} (h : f_X0_nextDrive_39 x1 x3 σ = some r) : frm [30, 31] [] σ r.2 := by
  unfold f_X0_nextDrive_39 at h
  obtain ⟨-, h⟩ := gd_some h
  rcases ite_sp h with ⟨-, h⟩ | ⟨-, h⟩
  · exact fr_X0_nextDrive_60 _ _ h
  · obtain ⟨-, h⟩ := gd_some h
    obtain ⟨-, h⟩ := gd_some h
    exact frm.tr (frm_sI (frm.rf _) (by simp)) (fr_X0_nextDrive_60 _ _ h)
theorem fr_X0_nextDrive_29 (x1 : Int32) (x3 : Int32) (σ : St) {r : Int32 × St} (h : f_X0_nextDrive_29 x1 x3 σ = some r) : frm [30, 31] [] σ r.2 := by
  unfold f_X0_nextDrive_29 at h
  obtain ⟨-, h⟩ := gd_some h
  exact frm.tr (frm_sI (frm.rf _) (by simp)) (fr_X0_nextDrive_60 _ _ h)
theorem fr_X0_nextDrive {x1 : Int32} {x2 : Int32} {σ : St} {r : Int32 × St} (h : f_X0_nextDrive x1 x2 σ = some r) : frm [30, 31] [] σ r.2 := by
  unfold f_X0_nextDrive at h
  obtain ⟨-, h⟩ := gd_some h
  rcases ite_sp h with ⟨-, h⟩ | ⟨-, h⟩
  · exact fr_X0_nextDrive_39 _ _ _ h
  · rcases ite_sp h with ⟨-, h⟩ | ⟨-, h⟩
    · exact fr_X0_nextDrive_39 _ _ _ h
    · obtain ⟨-, h⟩ := gd_some h
      exact fr_X0_nextDrive_29 _ _ _ h
theorem fr_X9_isDigit_15 (y0 : Int32) (σ : St) {r : Int32 × St} (h : f_X9_isDigit_15 y0 σ = some r) : frm [] [] σ r.2 := by
  unfold f_X9_isDigit_15 at h
  obtain ⟨-, h⟩ := gd_some h
  cases h
  exact (frm.rf _)
theorem fr_X9_isDigit_14 (σ : St) {r : Int32 × St} (h : f_X9_isDigit_14 σ = some r) : frm [] [] σ r.2 := by
  unfold f_X9_isDigit_14 at h
  exact fr_X9_isDigit_15 _ _ h
theorem fr_X9_isDigit {x0 : Int32} {σ : St} {r : Int32 × St} (h : f_X9_isDigit x0 σ = some r) : frm [] [] σ r.2 := by
  unfold f_X9_isDigit at h
  rcases ite_sp h with ⟨-, h⟩ | ⟨-, h⟩
  · exact fr_X9_isDigit_14 _ h
  · rcases ite_sp h with ⟨-, h⟩ | ⟨-, h⟩
    · exact fr_X9_isDigit_14 _ h
    · exact fr_X9_isDigit_15 _ _ h
theorem fr_X0_beginDrive_113 (σ : St) {r : St} (h : f_X0_beginDrive_113 σ = some r) : frm [28, 32, 33, 34, 35, 36] [] σ r := by
  unfold f_X0_beginDrive_113 at h
  cases h
  exact (frm.rf _)
theorem fr_X0_beginDrive_103 (x1 : Int32) (x5 : Int32) (σ : St) {r : St} (h : f_X0_beginDrive_103 x1 x5 σ = some r) : frm [28, 32, 33, 34, 35, 36] [] σ r := by
  unfold f_X0_beginDrive_103 at h
  rcases ite_sp h with ⟨-, h⟩ | ⟨-, h⟩
  · obtain ⟨p2, hp2, h⟩ := bind_sp h
    refine frm.tr (frm.rf _) (frm.tr (frm.mo (fr_X0_endDrive hp2) (by decide) (by decide)) ?_)
    exact fr_X0_beginDrive_113 _ h
  · exact fr_X0_beginDrive_113 _ h
theorem fr_X0_beginDrive_81 (x1 : Int32) (x3 : Int32) (x5 : Int32) (σ : St) {r : St} (h : f_X0_beginDrive_81 x1 x3 x5 σ = some r) : frm [28, 32, 33, 34, 35, 36] [] σ r := by
  unfold f_X0_beginDrive_81 at h
  obtain ⟨-, h⟩ := gd_some h
  obtain ⟨-, h⟩ := gd_some h
  exact frm.tr (frm_sI (frm_sI (frm.rf _) (by simp)) (by simp)) (fr_X0_beginDrive_103 _ _ _ h)
theorem fr_X0_beginDrive_63 (x1 : Int32) (x3 : Int32) (σ : St) {r : St} (h : f_X0_beginDrive_63 x1 x3 σ = some r) : frm [28, 32, 33, 34, 35, 36] [] σ r := by
  unfold f_X0_beginDrive_63 at h
  obtain ⟨-, h⟩ := gd_some h
  obtain ⟨-, h⟩ := gd_some h
  exact fr_X0_beginDrive_81 _ _ _ _ h
theorem fr_X0_beginDrive_53 (x1 : Int32) (x3 : Int32) (y0 : Int32) (y1 : Int32) (σ : St) {r : St} (h : f_X0_beginDrive_53 x1 x3 y0 y1 σ = some r) : frm [28, 32, 33, 34, 35, 36] [] σ r := by
  unfold f_X0_beginDrive_53 at h
  obtain ⟨-, h⟩ := gd_some h
  obtain ⟨-, h⟩ := gd_some h
  exact frm.tr (frm_sI (frm.rf _) (by simp)) (fr_X0_beginDrive_63 _ _ _ h)
theorem fr_X0_beginDrive_28 (x1 : Int32) (x3 : Int32) (x4 : Int32) (y0 : Int32) (y1 : Int32) (σ : St) {r : St} (h : f_X0_beginDrive_28 x1 x3 x4 y0 y1 σ = some r) : frm [28, 32, 33, 34, 35, 36] [] σ r := by
  unfold f_X0_beginDrive_28 at h
  obtain ⟨-, h⟩ := gd_some h
  obtain ⟨-, h⟩ := gd_some h
  rcases ite_sp h with ⟨-, h⟩ | ⟨-, h⟩
  · exact frm.tr (frm_sI (frm.rf _) (by simp)) (fr_X0_beginDrive_53 _ _ _ _ _ h)
  · exact frm.tr (frm_sI (frm.rf _) (by simp)) (fr_X0_beginDrive_53 _ _ _ _ _ h)
theorem fr_X0_beginDrive_10 (x1 : Int32) (x3 : Int32) (x4 : Int32) (σ : St) {r : St} (h : f_X0_beginDrive_10 x1 x3 x4 σ = some r) : frm [28, 32, 33, 34, 35, 36] [] σ r := by
  unfold f_X0_beginDrive_10 at h
  obtain ⟨p1, hp1, h⟩ := bind_sp h
  refine frm.tr (frm.rf _) (frm.tr (frm.mo (fr_X9_isDigit hp1) (by decide) (by decide)) ?_)
  rcases ite_sp h with ⟨-, h⟩ | ⟨-, h⟩
  · exact fr_X0_beginDrive_28 _ _ _ _ _ _ h
  · exact fr_X0_beginDrive_28 _ _ _ _ _ _ h
theorem fr_X0_beginDrive {x1 : Int32} {x2 : Int32} {x3 : Int32} {σ : St} {r : St} (h : f_X0_beginDrive x1 x2 x3 σ = some r) : frm [28, 32, 33, 34, 35, 36] [] σ r := by
  unfold f_X0_beginDrive at h
  obtain ⟨-, h⟩ := gd_some h
  exact fr_X0_beginDrive_10 _ _ _ _ h
theorem fr_X0_work_70 (σ : St) {r : St} (h : f_X0_work_70 σ = some r) : frm [28, 30, 31, 32, 33, 34, 35, 36] [] σ r := by
  unfold f_X0_work_70 at h
  cases h
  exact (frm.rf _)
theorem fr_X0_work_27 : ∀ (n : Nat) (x1 : Int32) (x2 : Int32) (x3 : Int32) (σ : St) {r : St}, f_X0_work_27 n x1 x2 x3 σ = some r → frm [28, 30, 31, 32, 33, 34, 35, 36] [] σ r := by
  intro n
  induction n with
  | zero =>
    intro x1 x2 x3 σ r h
    cases h
  | succ n ih =>
    intro x1 x2 x3 σ r h
    simp only [f_X0_work_27] at h
    rcases ite_sp h with ⟨-, h⟩ | ⟨-, h⟩
    · exact fr_X0_work_70 _ h
    · obtain ⟨-, h⟩ := gd_some h
      rcases ite_sp h with ⟨-, h⟩ | ⟨-, h⟩
      · obtain ⟨p1, hp1, h⟩ := bind_sp h
        refine frm.tr (frm.rf _) (frm.tr (frm.mo (fr_X0_nextDrive hp1) (by decide) (by decide)) ?_)
        rcases ite_sp h with ⟨-, h⟩ | ⟨-, h⟩
        · cases h
          exact (frm.rf _)
        · obtain ⟨p2, hp2, h⟩ := bind_sp h
          refine frm.tr (frm.rf _) (frm.tr (frm.mo (fr_X0_beginDrive hp2) (by decide) (by decide)) ?_)
          exact ih _ _ _ _ h
      · exact fr_X0_work_70 _ h
theorem fr_X0_work_25 (x1 : Int32) (x2 : Int32) (σ : St) {r : St} (h : f_X0_work_25 x1 x2 σ = some r) : frm [28, 30, 31, 32, 33, 34, 35, 36] [] σ r := by
  unfold f_X0_work_25 at h
  exact fr_X0_work_27 FU _ _ _ _ h
theorem fr_X0_work {x1 : Int32} {x2 : Int32} {σ : St} {r : St} (h : f_X0_work x1 x2 σ = some r) : frm [28, 30, 31, 32, 33, 34, 35, 36] [] σ r := by
  unfold f_X0_work at h
  obtain ⟨-, h⟩ := gd_some h
  rcases ite_sp h with ⟨-, h⟩ | ⟨-, h⟩
  · exact fr_X0_work_25 _ _ _ h
  · obtain ⟨-, h⟩ := gd_some h
    rcases ite_sp h with ⟨-, h⟩ | ⟨-, h⟩
    · obtain ⟨p3, hp3, h⟩ := bind_sp h
      refine frm.tr (frm.rf _) (frm.tr (frm.mo (fr_X0_endDrive hp3) (by decide) (by decide)) ?_)
      exact fr_X0_work_25 _ _ _ h
    · cases h
      exact (frm.rf _)
theorem fr_X0_sendOut_77 (σ : St) {r : St} (h : f_X0_sendOut_77 σ = some r) : frm [36, 37] [(27, 14)] σ r := by
  unfold f_X0_sendOut_77 at h
  cases h
  exact (frm.rf _)
theorem fr_X0_sendOut_71 (k2 : Int32 → Int32 → Int32 → St → Option (St)) (hk2 : ∀ (x1 : Int32) (x2 : Int32) (x3 : Int32) (σ : St) {r : St}, k2 x1 x2 x3 σ = some r → frm [36, 37] [(27, 14)] σ r) (x1 : Int32) (x2 : Int32) (x3 : Int32) (σ : St) {r : St} (h : f_X0_sendOut_71 k2 x1 x2 x3 σ = some r) : frm [36, 37] [(27, 14)] σ r := by
  unfold f_X0_sendOut_71 at h
  exact hk2 _ _ _ _ h
theorem fr_X0_sendOut_33 (k2 : Int32 → Int32 → Int32 → St → Option (St)) (hk2 : ∀ (x1 : Int32) (x2 : Int32) (x3 : Int32) (σ : St) {r : St}, k2 x1 x2 x3 σ = some r → frm [36, 37] [(27, 14)] σ r) (x1 : Int32) (x2 : Int32) (x3 : Int32) (y0 : Int32) (σ : St) {r : St} (h : f_X0_sendOut_33 k2 x1 x2 x3 y0 σ = some r) : frm [36, 37] [(27, 14)] σ r := by
  unfold f_X0_sendOut_33 at h
  obtain ⟨-, h⟩ := gd_some h
  rcases ite_sp h with ⟨-, h⟩ | ⟨-, h⟩
  · exact fr_X0_sendOut_71 _ hk2 _ _ _ _ h
  · obtain ⟨-, h⟩ := gd_some h
    obtain ⟨-, h⟩ := gd_some h
    exact frm.tr (frm_sIf (frm_sI (frm_sI (frm.rf _) (by simp)) (by simp)) (by simp)) (fr_X0_sendOut_71 _ hk2 _ _ _ _ h)
theorem fr_X0_sendOut_2 : ∀ (n : Nat) (x1 : Int32) (x2 : Int32) (x3 : Int32) (σ : St) {r : St}, f_X0_sendOut_2 n x1 x2 x3 σ = some r → frm [36, 37] [(27, 14)] σ r := by
  intro n
  induction n with
  | zero =>
    intro x1 x2 x3 σ r h
    cases h
  | succ n ih =>
    intro x1 x2 x3 σ r h
    simp only [f_X0_sendOut_2] at h
    rcases ite_sp h with ⟨-, h⟩ | ⟨-, h⟩
    · exact fr_X0_sendOut_77 _ h
    · rcases ite_sp h with ⟨-, h⟩ | ⟨-, h⟩
      · exact fr_X0_sendOut_77 _ h
      · rcases ite_sp h with ⟨-, h⟩ | ⟨-, h⟩
        · exact fr_X0_sendOut_33 _ ih _ _ _ _ _ h
        · exact fr_X0_sendOut_33 _ ih _ _ _ _ _ h
theorem fr_X0_sendOut {x1 : Int32} {x2 : Int32} {σ : St} {r : St} (h : f_X0_sendOut x1 x2 σ = some r) : frm [36, 37] [(27, 14)] σ r := by
  unfold f_X0_sendOut at h
  exact fr_X0_sendOut_2 FU _ _ _ _ h
theorem fr_X0_isAtRest_47 (σ : St) {r : Int32 × St} (h : f_X0_isAtRest_47 σ = some r) : frm [] [] σ r.2 := by
  unfold f_X0_isAtRest_47 at h
  cases h
  exact (frm.rf _)
theorem fr_X0_isAtRest_2 : ∀ (n : Nat) (x1 : Int32) (σ : St) {r : Int32 × St}, f_X0_isAtRest_2 n x1 σ = some r → frm [] [] σ r.2 := by
  intro n
  induction n with
  | zero =>
    intro x1 σ r h
    cases h
  | succ n ih =>
    intro x1 σ r h
    simp only [f_X0_isAtRest_2] at h
    rcases ite_sp h with ⟨-, h⟩ | ⟨-, h⟩
    · cases h
      exact (frm.rf _)
    · obtain ⟨-, h⟩ := gd_some h
      rcases ite_sp h with ⟨-, h⟩ | ⟨-, h⟩
      · obtain ⟨-, h⟩ := gd_some h
        rcases ite_sp h with ⟨-, h⟩ | ⟨-, h⟩
        · obtain ⟨-, h⟩ := gd_some h
          rcases ite_sp h with ⟨-, h⟩ | ⟨-, h⟩
          · obtain ⟨-, h⟩ := gd_some h
            rcases ite_sp h with ⟨-, h⟩ | ⟨-, h⟩
            · exact ih _ _ h
            · exact fr_X0_isAtRest_47 _ h
          · exact fr_X0_isAtRest_47 _ h
        · exact fr_X0_isAtRest_47 _ h
      · exact fr_X0_isAtRest_47 _ h
theorem fr_X0_isAtRest {σ : St} {r : Int32 × St} (h : f_X0_isAtRest σ = some r) : frm [] [] σ r.2 := by
  unfold f_X0_isAtRest at h
  exact fr_X0_isAtRest_2 FU _ _ h
theorem fr_X0_minuteOfRest_89 (k21 : Int32 → Int32 → Int32 → St → Option (Int32 × St)) (hk21 : ∀ (x2 : Int32) (x5 : Int32) (x6 : Int32) (σ : St) {r : Int32 × St}, k21 x2 x5 x6 σ = some r → frm [28, 30, 31, 32, 33, 34, 35, 36, 37] [(27, 13), (27, 14)] σ r.2) (x2 : Int32) (x5 : Int32) (x6 : Int32) (σ : St) {r : Int32 × St} (h : f_X0_minuteOfRest_89 k21 x2 x5 x6 σ = some r) : frm [28, 30, 31, 32, 33, 34, 35, 36, 37] [(27, 13), (27, 14)] σ r.2 := by
  unfold f_X0_minuteOfRest_89 at h
  exact hk21 _ _ _ _ h
theorem fr_X0_minuteOfRest_37 (k21 : Int32 → Int32 → Int32 → St → Option (Int32 × St)) (hk21 : ∀ (x2 : Int32) (x5 : Int32) (x6 : Int32) (σ : St) {r : Int32 × St}, k21 x2 x5 x6 σ = some r → frm [28, 30, 31, 32, 33, 34, 35, 36, 37] [(27, 13), (27, 14)] σ r.2) : ∀ (n : Nat) (x2 : Int32) (x5 : Int32) (x6 : Int32) (x7 : Int32) (σ : St) {r : Int32 × St}, f_X0_minuteOfRest_37 k21 n x2 x5 x6 x7 σ = some r → frm [28, 30, 31, 32, 33, 34, 35, 36, 37] [(27, 13), (27, 14)] σ r.2 := by
  intro n
  induction n with
  | zero =>
    intro x2 x5 x6 x7 σ r h
    cases h
  | succ n ih =>
    intro x2 x5 x6 x7 σ r h
    simp only [f_X0_minuteOfRest_37] at h
    rcases ite_sp h with ⟨-, h⟩ | ⟨-, h⟩
    · obtain ⟨p2, hp2, h⟩ := bind_sp h
      refine frm.tr (frm.rf _) (frm.tr (frm.mo (fr_X0_sendOut hp2) (by decide) (by decide)) ?_)
      rcases ite_sp h with ⟨-, h⟩ | ⟨-, h⟩
      · exact fr_X0_minuteOfRest_89 _ hk21 _ _ _ _ h
      · obtain ⟨p3, hp3, h⟩ := bind_sp h
        refine frm.tr (frm.rf _) (frm.tr (frm.mo (fr_X0_isAtRest hp3) (by decide) (by decide)) ?_)
        rcases ite_sp h with ⟨-, h⟩ | ⟨-, h⟩
        · exact fr_X0_minuteOfRest_89 _ hk21 _ _ _ _ h
        · cases h
          exact (frm.rf _)
    · obtain ⟨p4, hp4, h⟩ := bind_sp h
      refine frm.tr (frm.rf _) (frm.tr (frm.mo (fr_X0_work hp4) (by decide) (by decide)) ?_)
      exact ih _ _ _ _ _ h
theorem fr_X0_minuteOfRest_21 : ∀ (n : Nat) (x2 : Int32) (x5 : Int32) (x6 : Int32) (σ : St) {r : Int32 × St}, f_X0_minuteOfRest_21 n x2 x5 x6 σ = some r → frm [28, 30, 31, 32, 33, 34, 35, 36, 37] [(27, 13), (27, 14)] σ r.2 := by
  intro n
  induction n with
  | zero =>
    intro x2 x5 x6 σ r h
    cases h
  | succ n ih =>
    intro x2 x5 x6 σ r h
    simp only [f_X0_minuteOfRest_21] at h
    rcases ite_sp h with ⟨-, h⟩ | ⟨-, h⟩
    · cases h
      exact (frm.rf _)
    · obtain ⟨p1, hp1, h⟩ := bind_sp h
      refine frm.tr (frm.rf _) (frm.tr (frm.mo (fr_X0_comeBack hp1) (by decide) (by decide)) ?_)
      exact fr_X0_minuteOfRest_37 _ ih FU _ _ _ _ _ h
theorem fr_X0_minuteOfRest_18 (x2 : Int32) (x5 : Int32) (σ : St) {r : Int32 × St} (h : f_X0_minuteOfRest_18 x2 x5 σ = some r) : frm [28, 30, 31, 32, 33, 34, 35, 36, 37] [(27, 13), (27, 14)] σ r.2 := by
  unfold f_X0_minuteOfRest_18 at h
  exact fr_X0_minuteOfRest_21 FU _ _ _ _ h
theorem fr_X0_minuteOfRest {x1 : Int32} {x2 : Int32} {x3 : Int32} {x4 : Int32} {σ : St} {r : Int32 × St} (h : f_X0_minuteOfRest x1 x2 x3 x4 σ = some r) : frm [28, 30, 31, 32, 33, 34, 35, 36, 37] [(27, 13), (27, 14)] σ r.2 := by
  unfold f_X0_minuteOfRest at h
  exact frm.tr (frm_sIf (frm_sIf (frm.rf _) (by simp)) (by simp)) (fr_X0_minuteOfRest_18 _ _ _ h)
theorem fr_X1_learn_55 (σ : St) {r : Int32 × St} (h : f_X1_learn_55 σ = some r) : frm [16] [] σ r.2 := by
  unfold f_X1_learn_55 at h
  cases h
  exact (frm.rf _)
theorem fr_X1_learn_25 (x1 : Int32) (x2 : Int32) (x3 : Int32) (x4 : Int32) (σ : St) {r : Int32 × St} (h : f_X1_learn_25 x1 x2 x3 x4 σ = some r) : frm [16] [] σ r.2 := by
  unfold f_X1_learn_25 at h
  rcases ite_sp h with ⟨-, h⟩ | ⟨-, h⟩
  · obtain ⟨-, h⟩ := gd_some h
    obtain ⟨-, h⟩ := gd_some h
    exact frm.tr (frm_sI (frm_sI (frm.rf _) (by simp)) (by simp)) (fr_X1_learn_55 _ h)
  · cases h
    exact (frm.rf _)
theorem fr_X1_learn {x1 : Int32} {x2 : Int32} {x3 : Int32} {σ : St} {r : Int32 × St} (h : f_X1_learn x1 x2 x3 σ = some r) : frm [16] [] σ r.2 := by
  unfold f_X1_learn at h
  obtain ⟨-, h⟩ := gd_some h
  obtain ⟨-, h⟩ := gd_some h
  exact fr_X1_learn_25 _ _ _ _ _ h
theorem fr_X1_hears_41 (k5 : Int32 → Int32 → Int32 → Int32 → St → Option (Int32 × St)) (hk5 : ∀ (x1 : Int32) (x2 : Int32) (x3 : Int32) (x4 : Int32) (σ : St) {r : Int32 × St}, k5 x1 x2 x3 x4 σ = some r → frm [] [] σ r.2) (x1 : Int32) (x2 : Int32) (x3 : Int32) (x4 : Int32) (σ : St) {r : Int32 × St} (h : f_X1_hears_41 k5 x1 x2 x3 x4 σ = some r) : frm [] [] σ r.2 := by
  unfold f_X1_hears_41 at h
  exact hk5 _ _ _ _ _ h
theorem fr_X1_hears_33 (k5 : Int32 → Int32 → Int32 → Int32 → St → Option (Int32 × St)) (hk5 : ∀ (x1 : Int32) (x2 : Int32) (x3 : Int32) (x4 : Int32) (σ : St) {r : Int32 × St}, k5 x1 x2 x3 x4 σ = some r → frm [] [] σ r.2) (x1 : Int32) (x2 : Int32) (x3 : Int32) (x4 : Int32) (σ : St) {r : Int32 × St} (h : f_X1_hears_33 k5 x1 x2 x3 x4 σ = some r) : frm [] [] σ r.2 := by
  unfold f_X1_hears_33 at h
  rcases ite_sp h with ⟨-, h⟩ | ⟨-, h⟩
  · exact fr_X1_hears_41 _ hk5 _ _ _ _ _ h
  · cases h
    exact (frm.rf _)
theorem fr_X1_hears_5 : ∀ (n : Nat) (x1 : Int32) (x2 : Int32) (x3 : Int32) (x4 : Int32) (σ : St) {r : Int32 × St}, f_X1_hears_5 n x1 x2 x3 x4 σ = some r → frm [] [] σ r.2 := by
  intro n
  induction n with
  | zero =>
    intro x1 x2 x3 x4 σ r h
    cases h
  | succ n ih =>
    intro x1 x2 x3 x4 σ r h
    simp only [f_X1_hears_5] at h
    rcases ite_sp h with ⟨-, h⟩ | ⟨-, h⟩
    · cases h
      exact (frm.rf _)
    · rcases ite_sp h with ⟨-, h⟩ | ⟨-, h⟩
      · exact fr_X1_hears_41 _ ih _ _ _ _ _ h
      · obtain ⟨-, h⟩ := gd_some h
        exact fr_X1_hears_33 _ ih _ _ _ _ _ h
theorem fr_X1_hears {x1 : Int32} {x2 : Int32} {σ : St} {r : Int32 × St} (h : f_X1_hears x1 x2 σ = some r) : frm [] [] σ r.2 := by
  unfold f_X1_hears at h
  exact fr_X1_hears_5 FU _ _ _ _ _ h
theorem fr_X1_likely_72 (k24 : Int32 → Int64 → Int32 → Int64 → Int32 → St → Option (Int64 × St)) (hk24 : ∀ (x1 : Int32) (x2 : Int64) (x4 : Int32) (x5 : Int64) (x7 : Int32) (σ : St) {r : Int64 × St}, k24 x1 x2 x4 x5 x7 σ = some r → frm [] [] σ r.2) (x1 : Int32) (x2 : Int64) (x4 : Int32) (x5 : Int64) (x7 : Int32) (σ : St) {r : Int64 × St} (h : f_X1_likely_72 k24 x1 x2 x4 x5 x7 σ = some r) : frm [] [] σ r.2 := by
  unfold f_X1_likely_72 at h
  exact hk24 _ _ _ _ _ _ h
theorem fr_X1_likely_69 (k24 : Int32 → Int64 → Int32 → Int64 → Int32 → St → Option (Int64 × St)) (hk24 : ∀ (x1 : Int32) (x2 : Int64) (x4 : Int32) (x5 : Int64) (x7 : Int32) (σ : St) {r : Int64 × St}, k24 x1 x2 x4 x5 x7 σ = some r → frm [] [] σ r.2) (x1 : Int32) (x2 : Int64) (x4 : Int32) (x7 : Int32) (y0 : Int64) (y1 : Int64) (σ : St) {r : Int64 × St} (h : f_X1_likely_69 k24 x1 x2 x4 x7 y0 y1 σ = some r) : frm [] [] σ r.2 := by
  unfold f_X1_likely_69 at h
  exact fr_X1_likely_72 _ hk24 _ _ _ _ _ _ h
theorem fr_X1_likely_24 : ∀ (n : Nat) (x1 : Int32) (x2 : Int64) (x4 : Int32) (x5 : Int64) (x7 : Int32) (σ : St) {r : Int64 × St}, f_X1_likely_24 n x1 x2 x4 x5 x7 σ = some r → frm [] [] σ r.2 := by
  intro n
  induction n with
  | zero =>
    intro x1 x2 x4 x5 x7 σ r h
    cases h
  | succ n ih =>
    intro x1 x2 x4 x5 x7 σ r h
    simp only [f_X1_likely_24] at h
    rcases ite_sp h with ⟨-, h⟩ | ⟨-, h⟩
    · cases h
      exact (frm.rf _)
    · rcases ite_sp h with ⟨-, h⟩ | ⟨-, h⟩
      · obtain ⟨p3, hp3, h⟩ := bind_sp h
        refine frm.tr (frm.rf _) (frm.tr (frm.mo (fr_X9_digitOf hp3) (by decide) (by decide)) ?_)
        obtain ⟨p4, hp4, h⟩ := bind_sp h
        refine frm.tr (frm.rf _) (frm.tr (frm.mo (fr_X9_digitOf hp4) (by decide) (by decide)) ?_)
        obtain ⟨-, h⟩ := gd_some h
        exact fr_X1_likely_69 _ ih _ _ _ _ _ _ _ h
      · exact fr_X1_likely_69 _ ih _ _ _ _ _ _ _ h
theorem fr_X1_likely {x1 : Int32} {x2 : Int64} {σ : St} {r : Int64 × St} (h : f_X1_likely x1 x2 σ = some r) : frm [] [] σ r.2 := by
  unfold f_X1_likely at h
  obtain ⟨p1, hp1, h⟩ := bind_sp h
  refine frm.tr (frm.rf _) (frm.tr (frm.mo (fr_X9_topPlace hp1) (by decide) (by decide)) ?_)
  obtain ⟨p2, hp2, h⟩ := bind_sp h
  refine frm.tr (frm.rf _) (frm.tr (frm.mo (fr_X9_topPlace hp2) (by decide) (by decide)) ?_)
  rcases ite_sp h with ⟨-, h⟩ | ⟨-, h⟩
  · exact fr_X1_likely_24 FU _ _ _ _ _ _ h
  · cases h
    exact (frm.rf _)
theorem fr_X1_wrong {x1 : Int32} {σ : St} {r : Int32 × St} (h : f_X1_wrong x1 σ = some r) : frm [] [] σ r.2 := by
  unfold f_X1_wrong at h
  obtain ⟨p1, hp1, h⟩ := bind_sp h
  refine frm.tr (frm.rf _) (frm.tr (frm.mo (fr_X1_likely hp1) (by decide) (by decide)) ?_)
  cases h
  exact (frm.rf _)
theorem fr_J7_fill_d0a16_6 (ar : Nat) (ln_ : Nat) : ∀ (n : Nat) (x1 : Int64) (x3 : Int32) (x4 : Int32) (σ : St) {r : St}, f_J7_fill_d0a16_6 ar ln_ n x1 x3 x4 σ = some r → frm [ar] [] σ r := by
  intro n
  induction n with
  | zero =>
    intro x1 x3 x4 σ r h
    cases h
  | succ n ih =>
    intro x1 x3 x4 σ r h
    simp only [f_J7_fill_d0a16_6] at h
    rcases ite_sp h with ⟨-, h⟩ | ⟨-, h⟩
    · cases h
      exact (frm.rf _)
    · obtain ⟨-, h⟩ := gd_some h
      exact frm.tr (frm_sJ (frm.rf _) (by simp)) (ih _ _ _ _ h)
theorem fr_J7_fill_d0a16 (ar : Nat) (ln_ : Nat) {x1 : Int64} {σ : St} {r : St} (h : f_J7_fill_d0a16 ar ln_ x1 σ = some r) : frm [ar] [] σ r := by
  unfold f_J7_fill_d0a16 at h
  exact fr_J7_fill_d0a16_6 ar ln_ FU _ _ _ _ h
theorem fr_X7_value_28 (o : Nat) (k4 : Int64 → Int32 → St → Option (Int64 × St)) (hk4 : ∀ (x1 : Int64) (x3 : Int32) (σ : St) {r : Int64 × St}, k4 x1 x3 σ = some r → frm [] [] σ r.2) (x1 : Int64) (x3 : Int32) (σ : St) {r : Int64 × St} (h : f_X7_value_28 o k4 x1 x3 σ = some r) : frm [] [] σ r.2 := by
  unfold f_X7_value_28 at h
  exact hk4 _ _ _ h
theorem fr_X7_value_4 (o : Nat) : ∀ (n : Nat) (x1 : Int64) (x3 : Int32) (σ : St) {r : Int64 × St}, f_X7_value_4 o n x1 x3 σ = some r → frm [] [] σ r.2 := by
  intro n
  induction n with
  | zero =>
    intro x1 x3 σ r h
    cases h
  | succ n ih =>
    intro x1 x3 σ r h
    simp only [f_X7_value_4] at h
    rcases ite_sp h with ⟨-, h⟩ | ⟨-, h⟩
    · cases h
      exact (frm.rf _)
    · obtain ⟨-, h⟩ := gd_some h
      obtain ⟨-, h⟩ := gd_some h
      exact fr_X7_value_28 o _ ih _ _ _ h
theorem fr_X7_value (o : Nat) {σ : St} {r : Int64 × St} (h : f_X7_value o σ = some r) : frm [] [] σ r.2 := by
  unfold f_X7_value at h
  exact fr_X7_value_4 o FU _ _ _ h
theorem fr_X2_keep_110 (q : Nat) (σ : St) {r : St} (h : f_X2_keep_110 q σ = some r) : frm [10] [(9, 1), (9, 2)] σ r := by
  unfold f_X2_keep_110 at h
  cases h
  exact (frm_sIf (frm_sIf (frm.rf _) (by simp)) (by simp))
theorem fr_X2_keep_82 (q : Nat) (x2 : Int32) (σ : St) {r : St} (h : f_X2_keep_82 q x2 σ = some r) : frm [10] [(9, 1), (9, 2)] σ r := by
  unfold f_X2_keep_82 at h
  obtain ⟨-, h⟩ := gd_some h
  obtain ⟨-, h⟩ := gd_some h
  exact frm.tr (frm_sJ (frm_sJ (frm.rf _) (by simp)) (by simp)) (fr_X2_keep_110 q _ h)
theorem fr_X2_keep_56 (q : Nat) (x2 : Int32) (σ : St) {r : St} (h : f_X2_keep_56 q x2 σ = some r) : frm [10] [(9, 1), (9, 2)] σ r := by
  unfold f_X2_keep_56 at h
  obtain ⟨-, h⟩ := gd_some h
  obtain ⟨-, h⟩ := gd_some h
  exact frm.tr (frm_sJ (frm_sJ (frm.rf _) (by simp)) (by simp)) (fr_X2_keep_82 q _ _ h)
theorem fr_X2_keep_30 (q : Nat) (x2 : Int32) (σ : St) {r : St} (h : f_X2_keep_30 q x2 σ = some r) : frm [10] [(9, 1), (9, 2)] σ r := by
  unfold f_X2_keep_30 at h
  obtain ⟨-, h⟩ := gd_some h
  obtain ⟨-, h⟩ := gd_some h
  exact frm.tr (frm_sJ (frm_sJ (frm.rf _) (by simp)) (by simp)) (fr_X2_keep_56 q _ _ h)
theorem fr_X2_keep_8 (q : Nat) (x2 : Int32) (σ : St) {r : St} (h : f_X2_keep_8 q x2 σ = some r) : frm [10] [(9, 1), (9, 2)] σ r := by
  unfold f_X2_keep_8 at h
  obtain ⟨p1, hp1, h⟩ := bind_sp h
  refine frm.tr (frm.rf _) (frm.tr (frm.mo (fr_X7_value q hp1) (by decide) (by decide)) ?_)
  obtain ⟨-, h⟩ := gd_some h
  obtain ⟨-, h⟩ := gd_some h
  exact frm.tr (frm_sJ (frm_sJ (frm.rf _) (by simp)) (by simp)) (fr_X2_keep_30 q _ _ h)
theorem fr_X2_keep (q : Nat) {σ : St} {r : St} (h : f_X2_keep q σ = some r) : frm [10] [(9, 1), (9, 2)] σ r := by
  unfold f_X2_keep at h
  exact fr_X2_keep_8 q _ _ h
theorem fr_X7_standFor_2 (o : Nat) : ∀ (n : Nat) (x1 : Int64) (x3 : Int32) (σ : St) {r : St}, f_X7_standFor_2 o n x1 x3 σ = some r → frm [o + 1] [] σ r := by
  intro n
  induction n with
  | zero =>
    intro x1 x3 σ r h
    cases h
  | succ n ih =>
    intro x1 x3 σ r h
    simp only [f_X7_standFor_2] at h
    rcases ite_sp h with ⟨-, h⟩ | ⟨-, h⟩
    · cases h
      exact (frm.rf _)
    · obtain ⟨p1, hp1, h⟩ := bind_sp h
      refine frm.tr (frm.rf _) (frm.tr (frm.mo (fr_X9_digitOf hp1) (by simp) (by simp)) ?_)
      obtain ⟨-, h⟩ := gd_some h
      exact frm.tr (frm_sI (frm.rf _) (by simp)) (ih _ _ _ h)
theorem fr_X7_standFor (o : Nat) {x1 : Int64} {σ : St} {r : St} (h : f_X7_standFor o x1 σ = some r) : frm [o + 1] [] σ r := by
  unfold f_X7_standFor at h
  exact fr_X7_standFor_2 o FU _ _ _ h
theorem fr_X2_takeBack_131 (q : Nat) (x2 : Int32) (σ : St) {r : Int32 × St} (h : f_X2_takeBack_131 q x2 σ = some r) : frm [q + 1] [(9, 1), (9, 2), (q, 6), (q, 7), (q, 8), (q, 9), (q, 10), (q, 11), (q, 12)] σ r.2 := by
  unfold f_X2_takeBack_131 at h
  obtain ⟨-, h⟩ := gd_some h
  cases h
  exact (frm_sIf (frm.rf _) (by simp))
theorem fr_X2_takeBack_104 (q : Nat) (x2 : Int32) (σ : St) {r : Int32 × St} (h : f_X2_takeBack_104 q x2 σ = some r) : frm [q + 1] [(9, 1), (9, 2), (q, 6), (q, 7), (q, 8), (q, 9), (q, 10), (q, 11), (q, 12)] σ r.2 := by
  unfold f_X2_takeBack_104 at h
  obtain ⟨-, h⟩ := gd_some h
  obtain ⟨-, h⟩ := gd_some h
  exact frm.tr (frm_sIf (frm_sIf (frm.rf _) (by simp)) (by simp)) (fr_X2_takeBack_131 q _ _ h)
theorem fr_X2_takeBack_78 (q : Nat) (x2 : Int32) (σ : St) {r : Int32 × St} (h : f_X2_takeBack_78 q x2 σ = some r) : frm [q + 1] [(9, 1), (9, 2), (q, 6), (q, 7), (q, 8), (q, 9), (q, 10), (q, 11), (q, 12)] σ r.2 := by
  unfold f_X2_takeBack_78 at h
  obtain ⟨-, h⟩ := gd_some h
  obtain ⟨-, h⟩ := gd_some h
  exact frm.tr (frm_sIf (frm_sIf (frm.rf _) (by simp)) (by simp)) (fr_X2_takeBack_104 q _ _ h)
theorem fr_X2_takeBack_43 (q : Nat) (x2 : Int32) (σ : St) {r : Int32 × St} (h : f_X2_takeBack_43 q x2 σ = some r) : frm [q + 1] [(9, 1), (9, 2), (q, 6), (q, 7), (q, 8), (q, 9), (q, 10), (q, 11), (q, 12)] σ r.2 := by
  unfold f_X2_takeBack_43 at h
  obtain ⟨-, h⟩ := gd_some h
  obtain ⟨p1, hp1, h⟩ := bind_sp h
  refine frm.tr (frm.rf _) (frm.tr (frm.mo (fr_X7_standFor q hp1) (by simp) (by simp)) ?_)
  obtain ⟨-, h⟩ := gd_some h
  obtain ⟨-, h⟩ := gd_some h
  exact frm.tr (frm_sIf (frm_sJf (frm.rf _) (by simp)) (by simp)) (fr_X2_takeBack_78 q _ _ h)
theorem fr_X2_takeBack_35 (q : Nat) (σ : St) {r : Int32 × St} (h : f_X2_takeBack_35 q σ = some r) : frm [q + 1] [(9, 1), (9, 2), (q, 6), (q, 7), (q, 8), (q, 9), (q, 10), (q, 11), (q, 12)] σ r.2 := by
  unfold f_X2_takeBack_35 at h
  exact fr_X2_takeBack_43 q _ _ h
theorem fr_X2_takeBack (q : Nat) {σ : St} {r : Int32 × St} (h : f_X2_takeBack q σ = some r) : frm [q + 1] [(9, 1), (9, 2), (q, 6), (q, 7), (q, 8), (q, 9), (q, 10), (q, 11), (q, 12)] σ r.2 := by
  unfold f_X2_takeBack at h
  rcases ite_sp h with ⟨-, h⟩ | ⟨-, h⟩
  · cases h
    exact (frm.rf _)
  · exact frm.tr (frm_sIf (frm_sIf (frm.rf _) (by simp)) (by simp)) (fr_X2_takeBack_35 q _ h)
theorem fr_X2_forget {σ : St} {r : St} (h : f_X2_forget σ = some r) : frm [] [(9, 2)] σ r := by
  unfold f_X2_forget at h
  cases h
  exact (frm_sIf (frm.rf _) (by simp))
theorem fr_X3_bringIn_29 (σ : St) {r : St} (h : f_X3_bringIn_29 σ = some r) : frm [20] [(19, 1)] σ r := by
  unfold f_X3_bringIn_29 at h
  cases h
  exact (frm.rf _)
theorem fr_X3_bringIn {x1 : Int32} {σ : St} {r : St} (h : f_X3_bringIn x1 σ = some r) : frm [20] [(19, 1)] σ r := by
  unfold f_X3_bringIn at h
  rcases ite_sp h with ⟨-, h⟩ | ⟨-, h⟩
  · exact fr_X3_bringIn_29 _ h
  · obtain ⟨-, h⟩ := gd_some h
    exact frm.tr (frm_sIf (frm_sI (frm.rf _) (by simp)) (by simp)) (fr_X3_bringIn_29 _ h)
theorem fr_X3_sets {σ : St} {r : Int32 × St} (h : f_X3_sets σ = some r) : frm [] [] σ r.2 := by
  unfold f_X3_sets at h
  cases h
  exact (frm.rf _)
theorem fr_X9_hasBit_13 (y0 : Int32) (σ : St) {r : Int32 × St} (h : f_X9_hasBit_13 y0 σ = some r) : frm [] [] σ r.2 := by
  unfold f_X9_hasBit_13 at h
  obtain ⟨-, h⟩ := gd_some h
  cases h
  exact (frm.rf _)
theorem fr_X9_hasBit {x0 : Int32} {x1 : Int32} {σ : St} {r : Int32 × St} (h : f_X9_hasBit x0 x1 σ = some r) : frm [] [] σ r.2 := by
  unfold f_X9_hasBit at h
  rcases ite_sp h with ⟨-, h⟩ | ⟨-, h⟩
  · exact fr_X9_hasBit_13 _ _ h
  · exact fr_X9_hasBit_13 _ _ h
theorem fr_X3_sumOf_38 (k5 : Int32 → Int64 → Int32 → St → Option (Int64 × St)) (hk5 : ∀ (x1 : Int32) (x2 : Int64) (x4 : Int32) (σ : St) {r : Int64 × St}, k5 x1 x2 x4 σ = some r → frm [] [] σ r.2) (x1 : Int32) (x2 : Int64) (x4 : Int32) (σ : St) {r : Int64 × St} (h : f_X3_sumOf_38 k5 x1 x2 x4 σ = some r) : frm [] [] σ r.2 := by
  unfold f_X3_sumOf_38 at h
  exact hk5 _ _ _ _ h
theorem fr_X3_sumOf_36 (k5 : Int32 → Int64 → Int32 → St → Option (Int64 × St)) (hk5 : ∀ (x1 : Int32) (x2 : Int64) (x4 : Int32) (σ : St) {r : Int64 × St}, k5 x1 x2 x4 σ = some r → frm [] [] σ r.2) (x1 : Int32) (x4 : Int32) (y0 : Int64) (y1 : Int64) (σ : St) {r : Int64 × St} (h : f_X3_sumOf_36 k5 x1 x4 y0 y1 σ = some r) : frm [] [] σ r.2 := by
  unfold f_X3_sumOf_36 at h
  exact fr_X3_sumOf_38 _ hk5 _ _ _ _ h
theorem fr_X3_sumOf_5 : ∀ (n : Nat) (x1 : Int32) (x2 : Int64) (x4 : Int32) (σ : St) {r : Int64 × St}, f_X3_sumOf_5 n x1 x2 x4 σ = some r → frm [] [] σ r.2 := by
  intro n
  induction n with
  | zero =>
    intro x1 x2 x4 σ r h
    cases h
  | succ n ih =>
    intro x1 x2 x4 σ r h
    simp only [f_X3_sumOf_5] at h
    rcases ite_sp h with ⟨-, h⟩ | ⟨-, h⟩
    · cases h
      exact (frm.rf _)
    · obtain ⟨p1, hp1, h⟩ := bind_sp h
      refine frm.tr (frm.rf _) (frm.tr (frm.mo (fr_X9_hasBit hp1) (by decide) (by decide)) ?_)
      rcases ite_sp h with ⟨-, h⟩ | ⟨-, h⟩
      · exact fr_X3_sumOf_36 _ ih _ _ _ _ _ h
      · obtain ⟨-, h⟩ := gd_some h
        exact fr_X3_sumOf_36 _ ih _ _ _ _ _ h
theorem fr_X3_sumOf {x1 : Int32} {σ : St} {r : Int64 × St} (h : f_X3_sumOf x1 σ = some r) : frm [] [] σ r.2 := by
  unfold f_X3_sumOf at h
  exact fr_X3_sumOf_5 FU _ _ _ _ h
theorem fr_X7_draw_16 (o : Nat) (σ : St) {r : Int32 × St} (h : f_X7_draw_16 o σ = some r) : frm [] [(o, 6)] σ r.2 := by
  unfold f_X7_draw_16 at h
  cases h
  exact (frm.rf _)
theorem fr_X7_draw (o : Nat) {σ : St} {r : Int32 × St} (h : f_X7_draw o σ = some r) : frm [] [(o, 6)] σ r.2 := by
  unfold f_X7_draw at h
  exact frm.tr (frm_sJf (frm.rf _) (by simp)) (fr_X7_draw_16 o _ h)
theorem fr_X7_stand_59 (o : Nat) (x1 : Int32) (x3 : Int32) (σ : St) {r : St} (h : f_X7_stand_59 o x1 x3 σ = some r) : frm [o + 1, o + 3] [(o, 7), (o, 11)] σ r := by
  unfold f_X7_stand_59 at h
  obtain ⟨-, h⟩ := gd_some h
  cases h
  exact (frm_sI (frm.rf _) (by simp))
theorem fr_X7_stand_27 (o : Nat) (x1 : Int32) (x2 : Int32) (x3 : Int32) (σ : St) {r : St} (h : f_X7_stand_27 o x1 x2 x3 σ = some r) : frm [o + 1, o + 3] [(o, 7), (o, 11)] σ r := by
  unfold f_X7_stand_27 at h
  obtain ⟨-, h⟩ := gd_some h
  exact frm.tr (frm_sIf (frm_sIf (frm.rf _) (by simp)) (by simp)) (fr_X7_stand_59 o _ _ _ h)
theorem fr_X7_stand_16 (o : Nat) (x1 : Int32) (x2 : Int32) (σ : St) {r : St} (h : f_X7_stand_16 o x1 x2 σ = some r) : frm [o + 1, o + 3] [(o, 7), (o, 11)] σ r := by
  unfold f_X7_stand_16 at h
  obtain ⟨-, h⟩ := gd_some h
  exact fr_X7_stand_27 o _ _ _ _ h
theorem fr_X7_stand (o : Nat) {x1 : Int32} {x2 : Int32} {σ : St} {r : St} (h : f_X7_stand o x1 x2 σ = some r) : frm [o + 1, o + 3] [(o, 7), (o, 11)] σ r := by
  unfold f_X7_stand at h
  obtain ⟨-, h⟩ := gd_some h
  obtain ⟨-, h⟩ := gd_some h
  exact frm.tr (frm_sI (frm.rf _) (by simp)) (fr_X7_stand_16 o _ _ _ h)
theorem fr_X7_drive_98 (o : Nat) (k5 : Int32 → Int32 → St → Option (St)) (hk5 : ∀ (x3 : Int32) (x4 : Int32) (σ : St) {r : St}, k5 x3 x4 σ = some r → frm [o + 1, o + 3] [(o, 7), (o, 8), (o, 10), (o, 11)] σ r) (x4 : Int32) (y0 : Int32) (σ : St) {r : St} (h : f_X7_drive_98 o k5 x4 y0 σ = some r) : frm [o + 1, o + 3] [(o, 7), (o, 8), (o, 10), (o, 11)] σ r := by
  unfold f_X7_drive_98 at h
  exact hk5 _ _ _ h
theorem fr_X7_drive_70 (o : Nat) (k5 : Int32 → Int32 → St → Option (St)) (hk5 : ∀ (x3 : Int32) (x4 : Int32) (σ : St) {r : St}, k5 x3 x4 σ = some r → frm [o + 1, o + 3] [(o, 7), (o, 8), (o, 10), (o, 11)] σ r) (x3 : Int32) (x4 : Int32) (x6 : Int32) (y0 : Int32) (y1 : Int32) (σ : St) {r : St} (h : f_X7_drive_70 o k5 x3 x4 x6 y0 y1 σ = some r) : frm [o + 1, o + 3] [(o, 7), (o, 8), (o, 10), (o, 11)] σ r := by
  unfold f_X7_drive_70 at h
  obtain ⟨p2, hp2, h⟩ := bind_sp h
  refine frm.tr (frm.rf _) (frm.tr (frm.mo (fr_X7_stand o hp2) (by simp) (by simp)) ?_)
  rcases ite_sp h with ⟨-, h⟩ | ⟨-, h⟩
  · cases h
    exact (frm.rf _)
  · rcases ite_sp h with ⟨-, h⟩ | ⟨-, h⟩
    · exact frm.tr (frm_sIf (frm.rf _) (by simp)) (fr_X7_drive_98 o _ hk5 _ _ _ h)
    · exact frm.tr (frm_sIf (frm.rf _) (by simp)) (fr_X7_drive_98 o _ hk5 _ _ _ h)
theorem fr_X7_drive_38 (o : Nat) (k5 : Int32 → Int32 → St → Option (St)) (hk5 : ∀ (x3 : Int32) (x4 : Int32) (σ : St) {r : St}, k5 x3 x4 σ = some r → frm [o + 1, o + 3] [(o, 7), (o, 8), (o, 10), (o, 11)] σ r) (x3 : Int32) (x4 : Int32) (x5 : Int32) (y0 : Int32) (σ : St) {r : St} (h : f_X7_drive_38 o k5 x3 x4 x5 y0 σ = some r) : frm [o + 1, o + 3] [(o, 7), (o, 8), (o, 10), (o, 11)] σ r := by
  unfold f_X7_drive_38 at h
  rcases ite_sp h with ⟨-, h⟩ | ⟨-, h⟩
  · exact fr_X7_drive_70 o _ hk5 _ _ _ _ _ _ h
  · rcases ite_sp h with ⟨-, h⟩ | ⟨-, h⟩
    · exact fr_X7_drive_70 o _ hk5 _ _ _ _ _ _ h
    · exact fr_X7_drive_70 o _ hk5 _ _ _ _ _ _ h
theorem fr_X7_drive_25 (o : Nat) (k5 : Int32 → Int32 → St → Option (St)) (hk5 : ∀ (x3 : Int32) (x4 : Int32) (σ : St) {r : St}, k5 x3 x4 σ = some r → frm [o + 1, o + 3] [(o, 7), (o, 8), (o, 10), (o, 11)] σ r) (x3 : Int32) (x4 : Int32) (x5 : Int32) (σ : St) {r : St} (h : f_X7_drive_25 o k5 x3 x4 x5 σ = some r) : frm [o + 1, o + 3] [(o, 7), (o, 8), (o, 10), (o, 11)] σ r := by
  unfold f_X7_drive_25 at h
  obtain ⟨p1, hp1, h⟩ := bind_sp h
  refine frm.tr (frm.rf _) (frm.tr (frm.mo (fr_X9_isDigit hp1) (by simp) (by simp)) ?_)
  rcases ite_sp h with ⟨-, h⟩ | ⟨-, h⟩
  · exact fr_X7_drive_38 o _ hk5 _ _ _ _ _ h
  · exact fr_X7_drive_38 o _ hk5 _ _ _ _ _ h
theorem fr_X7_drive_5 (o : Nat) : ∀ (n : Nat) (x3 : Int32) (x4 : Int32) (σ : St) {r : St}, f_X7_drive_5 o n x3 x4 σ = some r → frm [o + 1, o + 3] [(o, 7), (o, 8), (o, 10), (o, 11)] σ r := by
  intro n
  induction n with
  | zero =>
    intro x3 x4 σ r h
    cases h
  | succ n ih =>
    intro x3 x4 σ r h
    simp only [f_X7_drive_5] at h
    rcases ite_sp h with ⟨-, h⟩ | ⟨-, h⟩
    · cases h
      exact (frm_sIf (frm.rf _) (by simp))
    · obtain ⟨-, h⟩ := gd_some h
      exact fr_X7_drive_25 o _ ih _ _ _ _ h
theorem fr_X7_drive (o : Nat) {x1 : Int32} {x2 : Int32} {σ : St} {r : St} (h : f_X7_drive o x1 x2 σ = some r) : frm [o + 1, o + 3] [(o, 7), (o, 8), (o, 10), (o, 11)] σ r := by
  unfold f_X7_drive at h
  exact fr_X7_drive_5 o FU _ _ _ h
theorem fr_X7_bring_n_104 (o : Nat) (k34 : Int32 → Int32 → Int32 → Int32 → Int32 → St → Option (St)) (hk34 : ∀ (x1 : Int32) (x2 : Int32) (x3 : Int32) (x5 : Int32) (x6 : Int32) (σ : St) {r : St}, k34 x1 x2 x3 x5 x6 σ = some r → frm [o + 1, o + 3] [(o, 7), (o, 8), (o, 10), (o, 11)] σ r) (x1 : Int32) (x2 : Int32) (x3 : Int32) (x5 : Int32) (x6 : Int32) (y0 : Int32) (y1 : Int32) (σ : St) {r : St} (h : f_X7_bring_n_104 o k34 x1 x2 x3 x5 x6 y0 y1 σ = some r) : frm [o + 1, o + 3] [(o, 7), (o, 8), (o, 10), (o, 11)] σ r := by
  unfold f_X7_bring_n_104 at h
  obtain ⟨p3, hp3, h⟩ := bind_sp h
  refine frm.tr (frm.rf _) (frm.tr (frm.mo (fr_X7_drive o hp3) (by simp) (by simp)) ?_)
  exact hk34 _ _ _ _ _ _ h
theorem fr_X7_bring_n_87 (o : Nat) (k34 : Int32 → Int32 → Int32 → Int32 → Int32 → St → Option (St)) (hk34 : ∀ (x1 : Int32) (x2 : Int32) (x3 : Int32) (x5 : Int32) (x6 : Int32) (σ : St) {r : St}, k34 x1 x2 x3 x5 x6 σ = some r → frm [o + 1, o + 3] [(o, 7), (o, 8), (o, 10), (o, 11)] σ r) (x1 : Int32) (x2 : Int32) (x3 : Int32) (x5 : Int32) (x6 : Int32) (x7 : Int32) (y0 : Int32) (σ : St) {r : St} (h : f_X7_bring_n_87 o k34 x1 x2 x3 x5 x6 x7 y0 σ = some r) : frm [o + 1, o + 3] [(o, 7), (o, 8), (o, 10), (o, 11)] σ r := by
  unfold f_X7_bring_n_87 at h
  rcases ite_sp h with ⟨-, h⟩ | ⟨-, h⟩
  · exact fr_X7_bring_n_104 o _ hk34 _ _ _ _ _ _ _ _ h
  · exact fr_X7_bring_n_104 o _ hk34 _ _ _ _ _ _ _ _ h
theorem fr_X7_bring_n_55 (o : Nat) (k34 : Int32 → Int32 → Int32 → Int32 → Int32 → St → Option (St)) (hk34 : ∀ (x1 : Int32) (x2 : Int32) (x3 : Int32) (x5 : Int32) (x6 : Int32) (σ : St) {r : St}, k34 x1 x2 x3 x5 x6 σ = some r → frm [o + 1, o + 3] [(o, 7), (o, 8), (o, 10), (o, 11)] σ r) (x1 : Int32) (x2 : Int32) (x3 : Int32) (x5 : Int32) (x6 : Int32) (y0 : Int32) (σ : St) {r : St} (h : f_X7_bring_n_55 o k34 x1 x2 x3 x5 x6 y0 σ = some r) : frm [o + 1, o + 3] [(o, 7), (o, 8), (o, 10), (o, 11)] σ r := by
  unfold f_X7_bring_n_55 at h
  obtain ⟨p2, hp2, h⟩ := bind_sp h
  refine frm.tr (frm.rf _) (frm.tr (frm.mo (fr_X9_digitOf hp2) (by simp) (by simp)) ?_)
  exact fr_X7_bring_n_87 o _ hk34 _ _ _ _ _ _ _ _ h
theorem fr_X7_bring_n_34 (o : Nat) : ∀ (n : Nat) (x1 : Int32) (x2 : Int32) (x3 : Int32) (x5 : Int32) (x6 : Int32) (σ : St) {r : St}, f_X7_bring_n_34 o n x1 x2 x3 x5 x6 σ = some r → frm [o + 1, o + 3] [(o, 7), (o, 8), (o, 10), (o, 11)] σ r := by
  intro n
  induction n with
  | zero =>
    intro x1 x2 x3 x5 x6 σ r h
    cases h
  | succ n ih =>
    intro x1 x2 x3 x5 x6 σ r h
    simp only [f_X7_bring_n_34] at h
    rcases ite_sp h with ⟨-, h⟩ | ⟨-, h⟩
    · cases h
      exact (frm.rf _)
    · rcases ite_sp h with ⟨-, h⟩ | ⟨-, h⟩
      · exact fr_X7_bring_n_55 o _ ih _ _ _ _ _ _ _ h
      · exact fr_X7_bring_n_55 o _ ih _ _ _ _ _ _ _ h
theorem fr_X7_bring_n_24 (o : Nat) (x1 : Int32) (x2 : Int32) (x3 : Int32) (σ : St) {r : St} (h : f_X7_bring_n_24 o x1 x2 x3 σ = some r) : frm [o + 1, o + 3] [(o, 7), (o, 8), (o, 10), (o, 11)] σ r := by
  unfold f_X7_bring_n_24 at h
  obtain ⟨p1, hp1, h⟩ := bind_sp h
  refine frm.tr (frm.rf _) (frm.tr (frm.mo (fr_X7_topRope o hp1) (by simp) (by simp)) ?_)
  exact fr_X7_bring_n_34 o FU _ _ _ _ _ _ h
theorem fr_X7_bring_n (o : Nat) {x1 : Int32} {x2 : Int32} {x3 : Int32} {σ : St} {r : St} (h : f_X7_bring_n o x1 x2 x3 σ = some r) : frm [o + 1, o + 3] [(o, 7), (o, 8), (o, 10), (o, 11)] σ r := by
  unfold f_X7_bring_n at h
  obtain ⟨-, h⟩ := gd_some h
  rcases ite_sp h with ⟨-, h⟩ | ⟨-, h⟩
  · exact fr_X7_bring_n_24 o _ _ _ _ h
  · exact frm.tr (frm_sIf (frm.rf _) (by simp)) (fr_X7_bring_n_24 o _ _ _ _ h)
theorem fr_X7_bring_e_104 (o : Nat) (k34 : Int32 → Int32 → Int32 → Int32 → Int32 → St → Option (St)) (hk34 : ∀ (x1 : Int32) (x2 : Int32) (x3 : Int32) (x5 : Int32) (x6 : Int32) (σ : St) {r : St}, k34 x1 x2 x3 x5 x6 σ = some r → frm [o + 1, o + 3] [(o, 6), (o, 7), (o, 8), (o, 10), (o, 11)] σ r) (x1 : Int32) (x2 : Int32) (x3 : Int32) (x5 : Int32) (x6 : Int32) (y0 : Int32) (y1 : Int32) (σ : St) {r : St} (h : f_X7_bring_e_104 o k34 x1 x2 x3 x5 x6 y0 y1 σ = some r) : frm [o + 1, o + 3] [(o, 6), (o, 7), (o, 8), (o, 10), (o, 11)] σ r := by
  unfold f_X7_bring_e_104 at h
  obtain ⟨p5, hp5, h⟩ := bind_sp h
  refine frm.tr (frm.rf _) (frm.tr (frm.mo (fr_X7_drive o hp5) (by simp) (by simp)) ?_)
  exact hk34 _ _ _ _ _ _ h
theorem fr_X7_bring_e_87 (o : Nat) (k34 : Int32 → Int32 → Int32 → Int32 → Int32 → St → Option (St)) (hk34 : ∀ (x1 : Int32) (x2 : Int32) (x3 : Int32) (x5 : Int32) (x6 : Int32) (σ : St) {r : St}, k34 x1 x2 x3 x5 x6 σ = some r → frm [o + 1, o + 3] [(o, 6), (o, 7), (o, 8), (o, 10), (o, 11)] σ r) (x1 : Int32) (x2 : Int32) (x3 : Int32) (x5 : Int32) (x6 : Int32) (x7 : Int32) (y0 : Int32) (σ : St) {r : St} (h : f_X7_bring_e_87 o k34 x1 x2 x3 x5 x6 x7 y0 σ = some r) : frm [o + 1, o + 3] [(o, 6), (o, 7), (o, 8), (o, 10), (o, 11)] σ r := by
  unfold f_X7_bring_e_87 at h
  rcases ite_sp h with ⟨-, h⟩ | ⟨-, h⟩
  · exact fr_X7_bring_e_104 o _ hk34 _ _ _ _ _ _ _ _ h
  · exact fr_X7_bring_e_104 o _ hk34 _ _ _ _ _ _ _ _ h
theorem fr_X7_bring_e_55 (o : Nat) (k34 : Int32 → Int32 → Int32 → Int32 → Int32 → St → Option (St)) (hk34 : ∀ (x1 : Int32) (x2 : Int32) (x3 : Int32) (x5 : Int32) (x6 : Int32) (σ : St) {r : St}, k34 x1 x2 x3 x5 x6 σ = some r → frm [o + 1, o + 3] [(o, 6), (o, 7), (o, 8), (o, 10), (o, 11)] σ r) (x1 : Int32) (x2 : Int32) (x3 : Int32) (x5 : Int32) (x6 : Int32) (y0 : Int32) (σ : St) {r : St} (h : f_X7_bring_e_55 o k34 x1 x2 x3 x5 x6 y0 σ = some r) : frm [o + 1, o + 3] [(o, 6), (o, 7), (o, 8), (o, 10), (o, 11)] σ r := by
  unfold f_X7_bring_e_55 at h
  obtain ⟨p2, hp2, h⟩ := bind_sp h
  refine frm.tr (frm.rf _) (frm.tr (frm.mo (fr_X9_digitOf hp2) (by simp) (by simp)) ?_)
  obtain ⟨p3, hp3, h⟩ := bind_sp h
  refine frm.tr (frm.rf _) (frm.tr (frm.mo (fr_X7_draw o hp3) (by simp) (by simp)) ?_)
  obtain ⟨p4, hp4, h⟩ := bind_sp h
  refine frm.tr (frm.rf _) (frm.tr (frm.mo (fr_X1_hears hp4) (by simp) (by simp)) ?_)
  exact fr_X7_bring_e_87 o _ hk34 _ _ _ _ _ _ _ _ h
theorem fr_X7_bring_e_34 (o : Nat) : ∀ (n : Nat) (x1 : Int32) (x2 : Int32) (x3 : Int32) (x5 : Int32) (x6 : Int32) (σ : St) {r : St}, f_X7_bring_e_34 o n x1 x2 x3 x5 x6 σ = some r → frm [o + 1, o + 3] [(o, 6), (o, 7), (o, 8), (o, 10), (o, 11)] σ r := by
  intro n
  induction n with
  | zero =>
    intro x1 x2 x3 x5 x6 σ r h
    cases h
  | succ n ih =>
    intro x1 x2 x3 x5 x6 σ r h
    simp only [f_X7_bring_e_34] at h
    rcases ite_sp h with ⟨-, h⟩ | ⟨-, h⟩
    · cases h
      exact (frm.rf _)
    · rcases ite_sp h with ⟨-, h⟩ | ⟨-, h⟩
      · exact fr_X7_bring_e_55 o _ ih _ _ _ _ _ _ _ h
      · exact fr_X7_bring_e_55 o _ ih _ _ _ _ _ _ _ h
theorem fr_X7_bring_e_24 (o : Nat) (x1 : Int32) (x2 : Int32) (x3 : Int32) (σ : St) {r : St} (h : f_X7_bring_e_24 o x1 x2 x3 σ = some r) : frm [o + 1, o + 3] [(o, 6), (o, 7), (o, 8), (o, 10), (o, 11)] σ r := by
  unfold f_X7_bring_e_24 at h
  obtain ⟨p1, hp1, h⟩ := bind_sp h
  refine frm.tr (frm.rf _) (frm.tr (frm.mo (fr_X7_topRope o hp1) (by simp) (by simp)) ?_)
  exact fr_X7_bring_e_34 o FU _ _ _ _ _ _ h
theorem fr_X7_bring_e (o : Nat) {x1 : Int32} {x2 : Int32} {x3 : Int32} {σ : St} {r : St} (h : f_X7_bring_e o x1 x2 x3 σ = some r) : frm [o + 1, o + 3] [(o, 6), (o, 7), (o, 8), (o, 10), (o, 11)] σ r := by
  unfold f_X7_bring_e at h
  obtain ⟨-, h⟩ := gd_some h
  rcases ite_sp h with ⟨-, h⟩ | ⟨-, h⟩
  · exact fr_X7_bring_e_24 o _ _ _ _ h
  · exact frm.tr (frm_sIf (frm.rf _) (by simp)) (fr_X7_bring_e_24 o _ _ _ _ h)
theorem fr_X3_walksAsTold_2 (q : Nat) : ∀ (n : Nat) (x2 : Int32) (σ : St) {r : Int32 × St}, f_X3_walksAsTold_2 q n x2 σ = some r → frm [q + 1, q + 3] [(q, 7), (q, 8), (q, 10), (q, 11)] σ r.2 := by
  intro n
  induction n with
  | zero =>
    intro x2 σ r h
    cases h
  | succ n ih =>
    intro x2 σ r h
    simp only [f_X3_walksAsTold_2] at h
    rcases ite_sp h with ⟨-, h⟩ | ⟨-, h⟩
    · cases h
      exact (frm.rf _)
    · obtain ⟨-, h⟩ := gd_some h
      obtain ⟨p1, hp1, h⟩ := bind_sp h
      refine frm.tr (frm.rf _) (frm.tr (frm.mo (fr_X7_bring_n q hp1) (by simp) (by simp)) ?_)
      exact ih _ _ h
theorem fr_X3_walksAsTold (q : Nat) {σ : St} {r : Int32 × St} (h : f_X3_walksAsTold q σ = some r) : frm [q + 1, q + 3] [(q, 7), (q, 8), (q, 10), (q, 11)] σ r.2 := by
  unfold f_X3_walksAsTold at h
  exact fr_X3_walksAsTold_2 q FU _ _ h
theorem fr_X5_write_49 (k3 : Int32 → Int32 → St → Option (St)) (hk3 : ∀ (x1 : Int32) (x2 : Int32) (σ : St) {r : St}, k3 x1 x2 σ = some r → frm [12] [(11, 1)] σ r) (x1 : Int32) (x2 : Int32) (σ : St) {r : St} (h : f_X5_write_49 k3 x1 x2 σ = some r) : frm [12] [(11, 1)] σ r := by
  unfold f_X5_write_49 at h
  exact hk3 _ _ _ h
theorem fr_X5_write_15 (k3 : Int32 → Int32 → St → Option (St)) (hk3 : ∀ (x1 : Int32) (x2 : Int32) (σ : St) {r : St}, k3 x1 x2 σ = some r → frm [12] [(11, 1)] σ r) (x1 : Int32) (x2 : Int32) (x3 : Int32) (σ : St) {r : St} (h : f_X5_write_15 k3 x1 x2 x3 σ = some r) : frm [12] [(11, 1)] σ r := by
  unfold f_X5_write_15 at h
  rcases ite_sp h with ⟨-, h⟩ | ⟨-, h⟩
  · exact fr_X5_write_49 _ hk3 _ _ _ h
  · rcases ite_sp h with ⟨-, h⟩ | ⟨-, h⟩
    · exact fr_X5_write_49 _ hk3 _ _ _ h
    · obtain ⟨-, h⟩ := gd_some h
      exact frm.tr (frm_sIf (frm_sI (frm.rf _) (by simp)) (by simp)) (fr_X5_write_49 _ hk3 _ _ _ h)
theorem fr_X5_write_3 : ∀ (n : Nat) (x1 : Int32) (x2 : Int32) (σ : St) {r : St}, f_X5_write_3 n x1 x2 σ = some r → frm [12] [(11, 1)] σ r := by
  intro n
  induction n with
  | zero =>
    intro x1 x2 σ r h
    cases h
  | succ n ih =>
    intro x1 x2 σ r h
    simp only [f_X5_write_3] at h
    rcases ite_sp h with ⟨-, h⟩ | ⟨-, h⟩
    · cases h
      exact (frm.rf _)
    · exact fr_X5_write_15 _ ih _ _ _ _ h
theorem fr_X5_write {x1 : Int32} {σ : St} {r : St} (h : f_X5_write x1 σ = some r) : frm [12] [(11, 1)] σ r := by
  unfold f_X5_write at h
  exact fr_X5_write_3 FU _ _ _ h
theorem fr_X5_isNext_29 (y0 : Int32) (σ : St) {r : Int32 × St} (h : f_X5_isNext_29 y0 σ = some r) : frm [] [] σ r.2 := by
  unfold f_X5_isNext_29 at h
  obtain ⟨-, h⟩ := gd_some h
  cases h
  exact (frm.rf _)
theorem fr_X5_isNext_28 (σ : St) {r : Int32 × St} (h : f_X5_isNext_28 σ = some r) : frm [] [] σ r.2 := by
  unfold f_X5_isNext_28 at h
  exact fr_X5_isNext_29 _ _ h
theorem fr_X5_isNext {x1 : Int32} {σ : St} {r : Int32 × St} (h : f_X5_isNext x1 σ = some r) : frm [] [] σ r.2 := by
  unfold f_X5_isNext at h
  rcases ite_sp h with ⟨-, h⟩ | ⟨-, h⟩
  · exact fr_X5_isNext_28 _ h
  · obtain ⟨-, h⟩ := gd_some h
    rcases ite_sp h with ⟨-, h⟩ | ⟨-, h⟩
    · exact fr_X5_isNext_29 _ _ h
    · exact fr_X5_isNext_28 _ h
theorem fr_X5_skipBlanks_38 (σ : St) {r : St} (h : f_X5_skipBlanks_38 σ = some r) : frm [] [(11, 4)] σ r := by
  unfold f_X5_skipBlanks_38 at h
  cases h
  exact (frm.rf _)
theorem fr_X5_skipBlanks_0 : ∀ (n : Nat) (σ : St) {r : St}, f_X5_skipBlanks_0 n σ = some r → frm [] [(11, 4)] σ r := by
  intro n
  induction n with
  | zero =>
    intro σ r h
    cases h
  | succ n ih =>
    intro σ r h
    simp only [f_X5_skipBlanks_0] at h
    rcases ite_sp h with ⟨-, h⟩ | ⟨-, h⟩
    · exact fr_X5_skipBlanks_38 _ h
    · obtain ⟨-, h⟩ := gd_some h
      rcases ite_sp h with ⟨-, h⟩ | ⟨-, h⟩
      · exact frm.tr (frm_sIf (frm.rf _) (by simp)) (ih _ h)
      · exact fr_X5_skipBlanks_38 _ h
theorem fr_X5_skipBlanks {σ : St} {r : St} (h : f_X5_skipBlanks σ = some r) : frm [] [(11, 4)] σ r := by
  unfold f_X5_skipBlanks at h
  exact fr_X5_skipBlanks_0 FU _ h
theorem fr_X5_readNumber_98 (y0 : Int32) (σ : St) {r : Int32 × St} (h : f_X5_readNumber_98 y0 σ = some r) : frm [13] [(11, 4)] σ r.2 := by
  unfold f_X5_readNumber_98 at h
  obtain ⟨p1, hp1, h⟩ := bind_sp h
  refine frm.tr (frm.rf _) (frm.tr (frm.mo (fr_X5_skipBlanks hp1) (by decide) (by decide)) ?_)
  obtain ⟨-, h⟩ := gd_some h
  cases h
  exact (frm.rf _)
theorem fr_X5_readNumber_78 (x1 : Int32) (x2 : Int32) (x3 : Int32) (σ : St) {r : Int32 × St} (h : f_X5_readNumber_78 x1 x2 x3 σ = some r) : frm [13] [(11, 4)] σ r.2 := by
  unfold f_X5_readNumber_78 at h
  obtain ⟨-, h⟩ := gd_some h
  rcases ite_sp h with ⟨-, h⟩ | ⟨-, h⟩
  · exact frm.tr (frm_sI (frm.rf _) (by simp)) (fr_X5_readNumber_98 _ _ h)
  · exact frm.tr (frm_sI (frm.rf _) (by simp)) (fr_X5_readNumber_98 _ _ h)
theorem fr_X5_readNumber_65 (k7 : Int32 → Int32 → Int32 → St → Option (Int32 × St)) (hk7 : ∀ (x1 : Int32) (x2 : Int32) (x3 : Int32) (σ : St) {r : Int32 × St}, k7 x1 x2 x3 σ = some r → frm [13] [(11, 4)] σ r.2) (x1 : Int32) (x2 : Int32) (x3 : Int32) (σ : St) {r : Int32 × St} (h : f_X5_readNumber_65 k7 x1 x2 x3 σ = some r) : frm [13] [(11, 4)] σ r.2 := by
  unfold f_X5_readNumber_65 at h
  exact frm.tr (frm_sIf (frm.rf _) (by simp)) (hk7 _ _ _ _ h)
theorem fr_X5_readNumber_7 : ∀ (n : Nat) (x1 : Int32) (x2 : Int32) (x3 : Int32) (σ : St) {r : Int32 × St}, f_X5_readNumber_7 n x1 x2 x3 σ = some r → frm [13] [(11, 4)] σ r.2 := by
  intro n
  induction n with
  | zero =>
    intro x1 x2 x3 σ r h
    cases h
  | succ n ih =>
    intro x1 x2 x3 σ r h
    simp only [f_X5_readNumber_7] at h
    rcases ite_sp h with ⟨-, h⟩ | ⟨-, h⟩
    · exact fr_X5_readNumber_78 _ _ _ _ h
    · rcases ite_sp h with ⟨-, h⟩ | ⟨-, h⟩
      · exact fr_X5_readNumber_78 _ _ _ _ h
      · obtain ⟨-, h⟩ := gd_some h
        obtain ⟨p2, hp2, h⟩ := bind_sp h
        refine frm.tr (frm.rf _) (frm.tr (frm.mo (fr_X9_isDigit hp2) (by decide) (by decide)) ?_)
        rcases ite_sp h with ⟨-, h⟩ | ⟨-, h⟩
        · exact fr_X5_readNumber_78 _ _ _ _ h
        · obtain ⟨-, h⟩ := gd_some h
          exact fr_X5_readNumber_65 _ ih _ _ _ _ h
theorem fr_X5_readNumber_5 (x1 : Int32) (x2 : Int32) (σ : St) {r : Int32 × St} (h : f_X5_readNumber_5 x1 x2 σ = some r) : frm [13] [(11, 4)] σ r.2 := by
  unfold f_X5_readNumber_5 at h
  exact fr_X5_readNumber_7 FU _ _ _ _ h
theorem fr_X5_readNumber {x1 : Int32} {σ : St} {r : Int32 × St} (h : f_X5_readNumber x1 σ = some r) : frm [13] [(11, 4)] σ r.2 := by
  unfold f_X5_readNumber at h
  exact fr_X5_readNumber_5 _ _ _ h
theorem fr_X5_readOften_53 (σ : St) {r : Int32 × St} (h : f_X5_readOften_53 σ = some r) : frm [13] [(11, 4)] σ r.2 := by
  unfold f_X5_readOften_53 at h
  cases h
  exact (frm.rf _)
theorem fr_X5_readOften_72 (σ : St) {r : Int32 × St} (h : f_X5_readOften_72 σ = some r) : frm [13] [(11, 4)] σ r.2 := by
  unfold f_X5_readOften_72 at h
  obtain ⟨p2, hp2, h⟩ := bind_sp h
  refine frm.tr (frm.rf _) (frm.tr (frm.mo (fr_X5_skipBlanks hp2) (by decide) (by decide)) ?_)
  cases h
  exact (frm.rf _)
theorem fr_X5_readOften_41 (x1 : Int32) (y0 : Int32) (σ : St) {r : Int32 × St} (h : f_X5_readOften_41 x1 y0 σ = some r) : frm [13] [(11, 4)] σ r.2 := by
  unfold f_X5_readOften_41 at h
  rcases ite_sp h with ⟨-, h⟩ | ⟨-, h⟩
  · exact fr_X5_readOften_53 _ h
  · rcases ite_sp h with ⟨-, h⟩ | ⟨-, h⟩
    · obtain ⟨-, h⟩ := gd_some h
      exact frm.tr (frm_sIf (frm_sI (frm.rf _) (by simp)) (by simp)) (fr_X5_readOften_72 _ h)
    · exact fr_X5_readOften_53 _ h
theorem fr_X5_readOften {x1 : Int32} {σ : St} {r : Int32 × St} (h : f_X5_readOften x1 σ = some r) : frm [13] [(11, 4)] σ r.2 := by
  unfold f_X5_readOften at h
  obtain ⟨p1, hp1, h⟩ := bind_sp h
  refine frm.tr (frm_sIf (frm.rf _) (by simp)) (frm.tr (frm.mo (fr_X5_skipBlanks hp1) (by decide) (by decide)) ?_)
  rcases ite_sp h with ⟨-, h⟩ | ⟨-, h⟩
  · exact fr_X5_readOften_41 _ _ _ h
  · obtain ⟨-, h⟩ := gd_some h
    exact fr_X5_readOften_41 _ _ _ h
theorem fr_X6_driveFrom_174 (σ : St) {r : St} (h : f_X6_driveFrom_174 σ = some r) : frm [22, 23, 24, 25, 26] [(21, 8), (21, 9), (21, 10)] σ r := by
  unfold f_X6_driveFrom_174 at h
  cases h
  exact (frm.rf _)
theorem fr_X6_driveFrom_156 (x6 : Int32) (σ : St) {r : St} (h : f_X6_driveFrom_156 x6 σ = some r) : frm [22, 23, 24, 25, 26] [(21, 8), (21, 9), (21, 10)] σ r := by
  unfold f_X6_driveFrom_156 at h
  rcases ite_sp h with ⟨-, h⟩ | ⟨-, h⟩
  · exact fr_X6_driveFrom_174 _ h
  · exact frm.tr (frm_sIf (frm.rf _) (by simp)) (fr_X6_driveFrom_174 _ h)
theorem fr_X6_driveFrom_126 (x1 : Int32) (x5 : Int32) (x6 : Int32) (x7 : Int32) (x8 : Int32) (σ : St) {r : St} (h : f_X6_driveFrom_126 x1 x5 x6 x7 x8 σ = some r) : frm [22, 23, 24, 25, 26] [(21, 8), (21, 9), (21, 10)] σ r := by
  unfold f_X6_driveFrom_126 at h
  obtain ⟨-, h⟩ := gd_some h
  exact frm.tr (frm_sI (frm_sIf (frm_sIf (frm.rf _) (by simp)) (by simp)) (by simp)) (fr_X6_driveFrom_156 _ _ h)
theorem fr_X6_driveFrom_107 (x1 : Int32) (x5 : Int32) (x6 : Int32) (x7 : Int32) (x8 : Int32) (x9 : Int32) (σ : St) {r : St} (h : f_X6_driveFrom_107 x1 x5 x6 x7 x8 x9 σ = some r) : frm [22, 23, 24, 25, 26] [(21, 8), (21, 9), (21, 10)] σ r := by
  unfold f_X6_driveFrom_107 at h
  obtain ⟨-, h⟩ := gd_some h
  obtain ⟨-, h⟩ := gd_some h
  obtain ⟨-, h⟩ := gd_some h
  exact frm.tr (frm_sI (frm_sI (frm.rf _) (by simp)) (by simp)) (fr_X6_driveFrom_126 _ _ _ _ _ _ h)
theorem fr_X6_driveFrom_87 (x1 : Int32) (x5 : Int32) (x6 : Int32) (x7 : Int32) (x8 : Int32) (x9 : Int32) (σ : St) {r : St} (h : f_X6_driveFrom_87 x1 x5 x6 x7 x8 x9 σ = some r) : frm [22, 23, 24, 25, 26] [(21, 8), (21, 9), (21, 10)] σ r := by
  unfold f_X6_driveFrom_87 at h
  obtain ⟨-, h⟩ := gd_some h
  obtain ⟨-, h⟩ := gd_some h
  exact frm.tr (frm_sI (frm_sI (frm.rf _) (by simp)) (by simp)) (fr_X6_driveFrom_107 _ _ _ _ _ _ _ h)
theorem fr_X6_driveFrom_71 (x1 : Int32) (x5 : Int32) (x6 : Int32) (x7 : Int32) (x8 : Int32) (σ : St) {r : St} (h : f_X6_driveFrom_71 x1 x5 x6 x7 x8 σ = some r) : frm [22, 23, 24, 25, 26] [(21, 8), (21, 9), (21, 10)] σ r := by
  unfold f_X6_driveFrom_71 at h
  obtain ⟨-, h⟩ := gd_some h
  exact fr_X6_driveFrom_87 _ _ _ _ _ _ _ h
theorem fr_X6_driveFrom_59 (x1 : Int32) (x5 : Int32) (x6 : Int32) (x7 : Int32) (σ : St) {r : St} (h : f_X6_driveFrom_59 x1 x5 x6 x7 σ = some r) : frm [22, 23, 24, 25, 26] [(21, 8), (21, 9), (21, 10)] σ r := by
  unfold f_X6_driveFrom_59 at h
  exact fr_X6_driveFrom_71 _ _ _ _ _ _ h
theorem fr_X6_driveFrom_52 (x1 : Int32) (x4 : Int32) (x5 : Int32) (x6 : Int32) (y0 : Int32) (σ : St) {r : St} (h : f_X6_driveFrom_52 x1 x4 x5 x6 y0 σ = some r) : frm [22, 23, 24, 25, 26] [(21, 8), (21, 9), (21, 10)] σ r := by
  unfold f_X6_driveFrom_52 at h
  exact fr_X6_driveFrom_59 _ _ _ _ _ h
theorem fr_X6_driveFrom_27 (x1 : Int32) (x3 : Int32) (x4 : Int32) (x5 : Int32) (y0 : Int32) (σ : St) {r : St} (h : f_X6_driveFrom_27 x1 x3 x4 x5 y0 σ = some r) : frm [22, 23, 24, 25, 26] [(21, 8), (21, 9), (21, 10)] σ r := by
  unfold f_X6_driveFrom_27 at h
  rcases ite_sp h with ⟨-, h⟩ | ⟨-, h⟩
  · exact fr_X6_driveFrom_52 _ _ _ _ _ _ h
  · exact fr_X6_driveFrom_52 _ _ _ _ _ _ h
theorem fr_X6_driveFrom_10 (x1 : Int32) (x3 : Int32) (x4 : Int32) (x5 : Int32) (σ : St) {r : St} (h : f_X6_driveFrom_10 x1 x3 x4 x5 σ = some r) : frm [22, 23, 24, 25, 26] [(21, 8), (21, 9), (21, 10)] σ r := by
  unfold f_X6_driveFrom_10 at h
  obtain ⟨p1, hp1, h⟩ := bind_sp h
  refine frm.tr (frm.rf _) (frm.tr (frm.mo (fr_X9_isDigit hp1) (by decide) (by decide)) ?_)
  rcases ite_sp h with ⟨-, h⟩ | ⟨-, h⟩
  · exact fr_X6_driveFrom_27 _ _ _ _ _ _ h
  · exact fr_X6_driveFrom_27 _ _ _ _ _ _ h
theorem fr_X6_driveFrom {x1 : Int32} {x2 : Int32} {x3 : Int32} {x4 : Int32} {σ : St} {r : St} (h : f_X6_driveFrom x1 x2 x3 x4 σ = some r) : frm [22, 23, 24, 25, 26] [(21, 8), (21, 9), (21, 10)] σ r := by
  unfold f_X6_driveFrom at h
  exact fr_X6_driveFrom_10 _ _ _ _ _ h
theorem fr_X6_planRope_98 (σ : St) {r : Int32 × St} (h : f_X6_planRope_98 σ = some r) : frm [22, 23, 24, 25, 26] [(21, 8), (21, 9), (21, 10)] σ r.2 := by
  unfold f_X6_planRope_98 at h
  cases h
  exact (frm.rf _)
theorem fr_X6_planRope_79 (x1 : Int32) (x3 : Int32) (x4 : Int32) (x6 : Int32) (σ : St) {r : Int32 × St} (h : f_X6_planRope_79 x1 x3 x4 x6 σ = some r) : frm [22, 23, 24, 25, 26] [(21, 8), (21, 9), (21, 10)] σ r.2 := by
  unfold f_X6_planRope_79 at h
  rcases ite_sp h with ⟨-, h⟩ | ⟨-, h⟩
  · exact fr_X6_planRope_98 _ h
  · rcases ite_sp h with ⟨-, h⟩ | ⟨-, h⟩
    · obtain ⟨p1, hp1, h⟩ := bind_sp h
      refine frm.tr (frm.rf _) (frm.tr (frm.mo (fr_X6_driveFrom hp1) (by decide) (by decide)) ?_)
      exact fr_X6_planRope_98 _ h
    · exact fr_X6_planRope_98 _ h
theorem fr_X6_planRope_64 (x1 : Int32) (x2 : Int32) (x3 : Int32) (x4 : Int32) (x5 : Int32) (x6 : Int32) (σ : St) {r : Int32 × St} (h : f_X6_planRope_64 x1 x2 x3 x4 x5 x6 σ = some r) : frm [22, 23, 24, 25, 26] [(21, 8), (21, 9), (21, 10)] σ r.2 := by
  unfold f_X6_planRope_64 at h
  rcases ite_sp h with ⟨-, h⟩ | ⟨-, h⟩
  · exact fr_X6_planRope_79 _ _ _ _ _ h
  · obtain ⟨p2, hp2, h⟩ := bind_sp h
    refine frm.tr (frm.rf _) (frm.tr (frm.mo (fr_X6_driveFrom hp2) (by decide) (by decide)) ?_)
    exact fr_X6_planRope_79 _ _ _ _ _ h
theorem fr_X6_planRope_48 (x1 : Int32) (x2 : Int32) (x3 : Int32) (x4 : Int32) (x5 : Int32) (y0 : Int32) (σ : St) {r : Int32 × St} (h : f_X6_planRope_48 x1 x2 x3 x4 x5 y0 σ = some r) : frm [22, 23, 24, 25, 26] [(21, 8), (21, 9), (21, 10)] σ r.2 := by
  unfold f_X6_planRope_48 at h
  rcases ite_sp h with ⟨-, h⟩ | ⟨-, h⟩
  · exact fr_X6_planRope_64 _ _ _ _ _ _ _ h
  · obtain ⟨p3, hp3, h⟩ := bind_sp h
    refine frm.tr (frm.rf _) (frm.tr (frm.mo (fr_X6_driveFrom hp3) (by decide) (by decide)) ?_)
    exact fr_X6_planRope_64 _ _ _ _ _ _ _ h
theorem fr_X6_planRope_47 (x1 : Int32) (x2 : Int32) (x3 : Int32) (x4 : Int32) (x5 : Int32) (σ : St) {r : Int32 × St} (h : f_X6_planRope_47 x1 x2 x3 x4 x5 σ = some r) : frm [22, 23, 24, 25, 26] [(21, 8), (21, 9), (21, 10)] σ r.2 := by
  unfold f_X6_planRope_47 at h
  exact fr_X6_planRope_48 _ _ _ _ _ _ _ h
theorem fr_X6_planRope_32 (x1 : Int32) (x2 : Int32) (x3 : Int32) (x4 : Int32) (x5 : Int32) (σ : St) {r : Int32 × St} (h : f_X6_planRope_32 x1 x2 x3 x4 x5 σ = some r) : frm [22, 23, 24, 25, 26] [(21, 8), (21, 9), (21, 10)] σ r.2 := by
  unfold f_X6_planRope_32 at h
  rcases ite_sp h with ⟨-, h⟩ | ⟨-, h⟩
  · exact fr_X6_planRope_47 _ _ _ _ _ _ h
  · rcases ite_sp h with ⟨-, h⟩ | ⟨-, h⟩
    · exact fr_X6_planRope_47 _ _ _ _ _ _ h
    · exact fr_X6_planRope_48 _ _ _ _ _ _ _ h
theorem fr_X6_planRope_19 (x1 : Int32) (x2 : Int32) (x3 : Int32) (x4 : Int32) (σ : St) {r : Int32 × St} (h : f_X6_planRope_19 x1 x2 x3 x4 σ = some r) : frm [22, 23, 24, 25, 26] [(21, 8), (21, 9), (21, 10)] σ r.2 := by
  unfold f_X6_planRope_19 at h
  exact frm.tr (frm_sIf (frm.rf _) (by simp)) (fr_X6_planRope_32 _ _ _ _ _ _ h)
theorem fr_X6_planRope {x1 : Int32} {x2 : Int32} {x3 : Int32} {x4 : Int32} {σ : St} {r : Int32 × St} (h : f_X6_planRope x1 x2 x3 x4 σ = some r) : frm [22, 23, 24, 25, 26] [(21, 8), (21, 9), (21, 10)] σ r.2 := by
  unfold f_X6_planRope at h
  obtain ⟨-, h⟩ := gd_some h
  obtain ⟨-, h⟩ := gd_some h
  exact frm.tr (frm_sIf (frm_sI (frm_sI (frm.rf _) (by simp)) (by simp)) (by simp)) (fr_X6_planRope_19 _ _ _ _ _ h)
theorem fr_X6_plan_75 (q : Nat) (k34 : Int32 → Int32 → Int32 → Int32 → St → Option (St)) (hk34 : ∀ (x2 : Int32) (x6 : Int32) (x7 : Int32) (x8 : Int32) (σ : St) {r : St}, k34 x2 x6 x7 x8 σ = some r → frm [22, 23, 24, 25, 26] [(21, 5), (21, 6), (21, 7), (21, 8), (21, 9), (21, 10)] σ r) (x2 : Int32) (x6 : Int32) (x7 : Int32) (x8 : Int32) (y0 : Int32) (y1 : Int32) (σ : St) {r : St} (h : f_X6_plan_75 q k34 x2 x6 x7 x8 y0 y1 σ = some r) : frm [22, 23, 24, 25, 26] [(21, 5), (21, 6), (21, 7), (21, 8), (21, 9), (21, 10)] σ r := by
  unfold f_X6_plan_75 at h
  obtain ⟨-, h⟩ := gd_some h
  obtain ⟨p2, hp2, h⟩ := bind_sp h
  refine frm.tr (frm.rf _) (frm.tr (frm.mo (fr_X6_planRope hp2) (by decide) (by decide)) ?_)
  exact hk34 _ _ _ _ _ h
theorem fr_X6_plan_34 (q : Nat) : ∀ (n : Nat) (x2 : Int32) (x6 : Int32) (x7 : Int32) (x8 : Int32) (σ : St) {r : St}, f_X6_plan_34 q n x2 x6 x7 x8 σ = some r → frm [22, 23, 24, 25, 26] [(21, 5), (21, 6), (21, 7), (21, 8), (21, 9), (21, 10)] σ r := by
  intro n
  induction n with
  | zero =>
    intro x2 x6 x7 x8 σ r h
    cases h
  | succ n ih =>
    intro x2 x6 x7 x8 σ r h
    simp only [f_X6_plan_34] at h
    rcases ite_sp h with ⟨-, h⟩ | ⟨-, h⟩
    · cases h
      exact (frm.rf _)
    · obtain ⟨-, h⟩ := gd_some h
      rcases ite_sp h with ⟨-, h⟩ | ⟨-, h⟩
      · exact frm.tr (frm_sIf (frm.rf _) (by simp)) (fr_X6_plan_75 q _ ih _ _ _ _ _ _ _ h)
      · obtain ⟨p3, hp3, h⟩ := bind_sp h
        refine frm.tr (frm_sIf (frm.rf _) (by simp)) (frm.tr (frm.mo (fr_X9_digitOf hp3) (by decide) (by decide)) ?_)
        exact fr_X6_plan_75 q _ ih _ _ _ _ _ _ _ h
theorem fr_X6_plan (q : Nat) {x2 : Int32} {x3 : Int32} {x4 : Int32} {x5 : Int32} {σ : St} {r : St} (h : f_X6_plan q x2 x3 x4 x5 σ = some r) : frm [22, 23, 24, 25, 26] [(21, 5), (21, 6), (21, 7), (21, 8), (21, 9), (21, 10)] σ r := by
  unfold f_X6_plan at h
  obtain ⟨p1, hp1, h⟩ := bind_sp h
  refine frm.tr (frm_sIf (frm_sIf (frm_sIf (frm.rf _) (by simp)) (by simp)) (by simp)) (frm.tr (frm.mo (fr_X7_topRope q hp1) (by decide) (by decide)) ?_)
  exact fr_X6_plan_34 q FU _ _ _ _ _ h
theorem fr_X6_lastRest_32 (x2 : Int32) (σ : St) {r : Int32 × St} (h : f_X6_lastRest_32 x2 σ = some r) : frm [] [] σ r.2 := by
  unfold f_X6_lastRest_32 at h
  cases h
  exact (frm.rf _)
theorem fr_X6_lastRest_26 (k4 : Int32 → Int32 → Int32 → St → Option (Int32 × St)) (hk4 : ∀ (x1 : Int32) (x2 : Int32) (x3 : Int32) (σ : St) {r : Int32 × St}, k4 x1 x2 x3 σ = some r → frm [] [] σ r.2) (x1 : Int32) (x2 : Int32) (x3 : Int32) (σ : St) {r : Int32 × St} (h : f_X6_lastRest_26 k4 x1 x2 x3 σ = some r) : frm [] [] σ r.2 := by
  unfold f_X6_lastRest_26 at h
  exact hk4 _ _ _ _ h
theorem fr_X6_lastRest_4 : ∀ (n : Nat) (x1 : Int32) (x2 : Int32) (x3 : Int32) (σ : St) {r : Int32 × St}, f_X6_lastRest_4 n x1 x2 x3 σ = some r → frm [] [] σ r.2 := by
  intro n
  induction n with
  | zero =>
    intro x1 x2 x3 σ r h
    cases h
  | succ n ih =>
    intro x1 x2 x3 σ r h
    simp only [f_X6_lastRest_4] at h
    rcases ite_sp h with ⟨-, h⟩ | ⟨-, h⟩
    · exact fr_X6_lastRest_32 _ _ h
    · rcases ite_sp h with ⟨-, h⟩ | ⟨-, h⟩
      · exact fr_X6_lastRest_32 _ _ h
      · obtain ⟨-, h⟩ := gd_some h
        exact fr_X6_lastRest_26 _ ih _ _ _ _ h
theorem fr_X6_lastRest {x1 : Int32} {σ : St} {r : Int32 × St} (h : f_X6_lastRest x1 σ = some r) : frm [] [] σ r.2 := by
  unfold f_X6_lastRest at h
  exact fr_X6_lastRest_4 FU _ _ _ _ h
theorem fr_X6_digitAt_122 (x4 : Int32) (σ : St) {r : Int32 × St} (h : f_X6_digitAt_122 x4 σ = some r) : frm [] [] σ r.2 := by
  unfold f_X6_digitAt_122 at h
  cases h
  exact (frm.rf _)
theorem fr_X6_digitAt_116 (k6 : Int32 → Int32 → Int32 → Int32 → St → Option (Int32 × St)) (hk6 : ∀ (x1 : Int32) (x3 : Int32) (x4 : Int32) (x5 : Int32) (σ : St) {r : Int32 × St}, k6 x1 x3 x4 x5 σ = some r → frm [] [] σ r.2) (x1 : Int32) (x3 : Int32) (x4 : Int32) (x5 : Int32) (σ : St) {r : Int32 × St} (h : f_X6_digitAt_116 k6 x1 x3 x4 x5 σ = some r) : frm [] [] σ r.2 := by
  unfold f_X6_digitAt_116 at h
  exact hk6 _ _ _ _ _ h
theorem fr_X6_digitAt_113 (k6 : Int32 → Int32 → Int32 → Int32 → St → Option (Int32 × St)) (hk6 : ∀ (x1 : Int32) (x3 : Int32) (x4 : Int32) (x5 : Int32) (σ : St) {r : Int32 × St}, k6 x1 x3 x4 x5 σ = some r → frm [] [] σ r.2) (x1 : Int32) (x3 : Int32) (x5 : Int32) (y0 : Int32) (y1 : Int32) (σ : St) {r : Int32 × St} (h : f_X6_digitAt_113 k6 x1 x3 x5 y0 y1 σ = some r) : frm [] [] σ r.2 := by
  unfold f_X6_digitAt_113 at h
  exact fr_X6_digitAt_116 _ hk6 _ _ _ _ _ h
theorem fr_X6_digitAt_81 (k6 : Int32 → Int32 → Int32 → Int32 → St → Option (Int32 × St)) (hk6 : ∀ (x1 : Int32) (x3 : Int32) (x4 : Int32) (x5 : Int32) (σ : St) {r : Int32 × St}, k6 x1 x3 x4 x5 σ = some r → frm [] [] σ r.2) (x1 : Int32) (x3 : Int32) (x5 : Int32) (x6 : Int32) (x7 : Int32) (σ : St) {r : Int32 × St} (h : f_X6_digitAt_81 k6 x1 x3 x5 x6 x7 σ = some r) : frm [] [] σ r.2 := by
  unfold f_X6_digitAt_81 at h
  obtain ⟨-, h⟩ := gd_some h
  obtain ⟨-, h⟩ := gd_some h
  obtain ⟨-, h⟩ := gd_some h
  rcases ite_sp h with ⟨-, h⟩ | ⟨-, h⟩
  · exact fr_X6_digitAt_113 _ hk6 _ _ _ _ _ _ h
  · exact fr_X6_digitAt_113 _ hk6 _ _ _ _ _ _ h
theorem fr_X6_digitAt_31 (k6 : Int32 → Int32 → Int32 → Int32 → St → Option (Int32 × St)) (hk6 : ∀ (x1 : Int32) (x3 : Int32) (x4 : Int32) (x5 : Int32) (σ : St) {r : Int32 × St}, k6 x1 x3 x4 x5 σ = some r → frm [] [] σ r.2) (x1 : Int32) (x3 : Int32) (x4 : Int32) (x5 : Int32) (x6 : Int32) (σ : St) {r : Int32 × St} (h : f_X6_digitAt_31 k6 x1 x3 x4 x5 x6 σ = some r) : frm [] [] σ r.2 := by
  unfold f_X6_digitAt_31 at h
  obtain ⟨-, h⟩ := gd_some h
  rcases ite_sp h with ⟨-, h⟩ | ⟨-, h⟩
  · exact fr_X6_digitAt_116 _ hk6 _ _ _ _ _ h
  · obtain ⟨-, h⟩ := gd_some h
    obtain ⟨-, h⟩ := gd_some h
    obtain ⟨-, h⟩ := gd_some h
    obtain ⟨-, h⟩ := gd_some h
    exact fr_X6_digitAt_81 _ hk6 _ _ _ _ _ _ h
theorem fr_X6_digitAt_6 : ∀ (n : Nat) (x1 : Int32) (x3 : Int32) (x4 : Int32) (x5 : Int32) (σ : St) {r : Int32 × St}, f_X6_digitAt_6 n x1 x3 x4 x5 σ = some r → frm [] [] σ r.2 := by
  intro n
  induction n with
  | zero =>
    intro x1 x3 x4 x5 σ r h
    cases h
  | succ n ih =>
    intro x1 x3 x4 x5 σ r h
    simp only [f_X6_digitAt_6] at h
    obtain ⟨-, h⟩ := gd_some h
    rcases ite_sp h with ⟨-, h⟩ | ⟨-, h⟩
    · exact fr_X6_digitAt_122 _ _ h
    · rcases ite_sp h with ⟨-, h⟩ | ⟨-, h⟩
      · exact fr_X6_digitAt_122 _ _ h
      · exact fr_X6_digitAt_31 _ ih _ _ _ _ _ _ h
theorem fr_X6_digitAt {x1 : Int32} {x2 : Int32} {x3 : Int32} {σ : St} {r : Int32 × St} (h : f_X6_digitAt x1 x2 x3 σ = some r) : frm [] [] σ r.2 := by
  unfold f_X6_digitAt at h
  exact fr_X6_digitAt_6 FU _ _ _ _ _ h
theorem fr_J7_fill_53178_5 (ar : Nat) (ln_ : Nat) : ∀ (n : Nat) (x1 : Int32) (x2 : Int32) (x3 : Int32) (σ : St) {r : St}, f_J7_fill_53178_5 ar ln_ n x1 x2 x3 σ = some r → frm [ar] [] σ r := by
  intro n
  induction n with
  | zero =>
    intro x1 x2 x3 σ r h
    cases h
  | succ n ih =>
    intro x1 x2 x3 σ r h
    simp only [f_J7_fill_53178_5] at h
    rcases ite_sp h with ⟨-, h⟩ | ⟨-, h⟩
    · cases h
      exact (frm.rf _)
    · obtain ⟨-, h⟩ := gd_some h
      exact frm.tr (frm_sI (frm.rf _) (by simp)) (ih _ _ _ _ h)
theorem fr_J7_fill_53178 (ar : Nat) (ln_ : Nat) {x1 : Int32} {σ : St} {r : St} (h : f_J7_fill_53178 ar ln_ x1 σ = some r) : frm [ar] [] σ r := by
  unfold f_J7_fill_53178 at h
  exact fr_J7_fill_53178_5 ar ln_ FU _ _ _ _ h
theorem fr_X7_startCounts (o : Nat) {σ : St} {r : St} (h : f_X7_startCounts o σ = some r) : frm [] [(o, 7), (o, 8), (o, 9), (o, 10), (o, 11), (o, 12)] σ r := by
  unfold f_X7_startCounts at h
  cases h
  exact (frm_sIf (frm_sIf (frm_sIf (frm_sIf (frm_sIf (frm_sIf (frm.rf _) (by simp)) (by simp)) (by simp)) (by simp)) (by simp)) (by simp))
theorem fr_X7_clear (o : Nat) {x1 : Int32} {σ : St} {r : St} (h : f_X7_clear o x1 σ = some r) : frm [o + 1, o + 2, o + 3] [(o, 0), (o, 7), (o, 8), (o, 9), (o, 10), (o, 11), (o, 12)] σ r := by
  unfold f_X7_clear at h
  obtain ⟨p1, hp1, h⟩ := bind_sp h
  refine frm.tr (frm_sIf (frm.rf _) (by simp)) (frm.tr (frm.mo (fr_J7_fill_53178 (o + 1) 12 hp1) (by simp) (by simp)) ?_)
  obtain ⟨p2, hp2, h⟩ := bind_sp h
  refine frm.tr (frm.rf _) (frm.tr (frm.mo (fr_J7_fill_53178 (o + 2) 12 hp2) (by simp) (by simp)) ?_)
  obtain ⟨p3, hp3, h⟩ := bind_sp h
  refine frm.tr (frm.rf _) (frm.tr (frm.mo (fr_J7_fill_53178 (o + 3) 12 hp3) (by simp) (by simp)) ?_)
  obtain ⟨p4, hp4, h⟩ := bind_sp h
  refine frm.tr (frm.rf _) (frm.tr (frm.mo (fr_X7_startCounts o hp4) (by simp) (by simp)) ?_)
  cases h
  exact (frm.rf _)
theorem fr_X7_beginAs_53 (o : Nat) (q : Nat) (σ : St) {r : St} (h : f_X7_beginAs_53 o q σ = some r) : frm [o + 1, o + 2, o + 3] [(o, 0), (o, 7), (o, 8), (o, 9), (o, 10), (o, 11), (o, 12)] σ r := by
  unfold f_X7_beginAs_53 at h
  obtain ⟨p1, hp1, h⟩ := bind_sp h
  refine frm.tr (frm.rf _) (frm.tr (frm.mo (fr_X7_startCounts o hp1) (by simp) (by simp)) ?_)
  cases h
  exact (frm.rf _)
theorem fr_X7_beginAs_38 (o : Nat) (q : Nat) (σ : St) {r : St} (h : f_X7_beginAs_38 o q σ = some r) : frm [o + 1, o + 2, o + 3] [(o, 0), (o, 7), (o, 8), (o, 9), (o, 10), (o, 11), (o, 12)] σ r := by
  unfold f_X7_beginAs_38 at h
  exact frm.tr (frm_cpI (frm.rf _) (by simp)) (fr_X7_beginAs_53 o q _ h)
theorem fr_X7_beginAs_23 (o : Nat) (q : Nat) (σ : St) {r : St} (h : f_X7_beginAs_23 o q σ = some r) : frm [o + 1, o + 2, o + 3] [(o, 0), (o, 7), (o, 8), (o, 9), (o, 10), (o, 11), (o, 12)] σ r := by
  unfold f_X7_beginAs_23 at h
  exact frm.tr (frm_cpI (frm.rf _) (by simp)) (fr_X7_beginAs_38 o q _ h)
theorem fr_X7_beginAs (o : Nat) (q : Nat) {σ : St} {r : St} (h : f_X7_beginAs o q σ = some r) : frm [o + 1, o + 2, o + 3] [(o, 0), (o, 7), (o, 8), (o, 9), (o, 10), (o, 11), (o, 12)] σ r := by
  unfold f_X7_beginAs at h
  exact frm.tr (frm_cpI (frm_sIf (frm.rf _) (by simp)) (by simp)) (fr_X7_beginAs_23 o q _ h)
theorem fr_X7_becomeAs_69 (o : Nat) (q : Nat) (σ : St) {r : St} (h : f_X7_becomeAs_69 o q σ = some r) : frm [o + 1, o + 2, o + 3] [(o, 0), (o, 4), (o, 5), (o, 6), (o, 7), (o, 8), (o, 9), (o, 10), (o, 11), (o, 12)] σ r := by
  unfold f_X7_becomeAs_69 at h
  cases h
  exact (frm_sIf (frm.rf _) (by simp))
theorem fr_X7_becomeAs_53 (o : Nat) (q : Nat) (σ : St) {r : St} (h : f_X7_becomeAs_53 o q σ = some r) : frm [o + 1, o + 2, o + 3] [(o, 0), (o, 4), (o, 5), (o, 6), (o, 7), (o, 8), (o, 9), (o, 10), (o, 11), (o, 12)] σ r := by
  unfold f_X7_becomeAs_53 at h
  exact frm.tr (frm_sIf (frm_sIf (frm.rf _) (by simp)) (by simp)) (fr_X7_becomeAs_69 o q _ h)
theorem fr_X7_becomeAs_37 (o : Nat) (q : Nat) (σ : St) {r : St} (h : f_X7_becomeAs_37 o q σ = some r) : frm [o + 1, o + 2, o + 3] [(o, 0), (o, 4), (o, 5), (o, 6), (o, 7), (o, 8), (o, 9), (o, 10), (o, 11), (o, 12)] σ r := by
  unfold f_X7_becomeAs_37 at h
  exact frm.tr (frm_sIf (frm_sIf (frm.rf _) (by simp)) (by simp)) (fr_X7_becomeAs_53 o q _ h)
theorem fr_X7_becomeAs_21 (o : Nat) (q : Nat) (σ : St) {r : St} (h : f_X7_becomeAs_21 o q σ = some r) : frm [o + 1, o + 2, o + 3] [(o, 0), (o, 4), (o, 5), (o, 6), (o, 7), (o, 8), (o, 9), (o, 10), (o, 11), (o, 12)] σ r := by
  unfold f_X7_becomeAs_21 at h
  exact frm.tr (frm_sIf (frm_sJf (frm.rf _) (by simp)) (by simp)) (fr_X7_becomeAs_37 o q _ h)
theorem fr_X7_becomeAs (o : Nat) (q : Nat) {σ : St} {r : St} (h : f_X7_becomeAs o q σ = some r) : frm [o + 1, o + 2, o + 3] [(o, 0), (o, 4), (o, 5), (o, 6), (o, 7), (o, 8), (o, 9), (o, 10), (o, 11), (o, 12)] σ r := by
  unfold f_X7_becomeAs at h
  obtain ⟨p1, hp1, h⟩ := bind_sp h
  refine frm.tr (frm.rf _) (frm.tr (frm.mo (fr_X7_beginAs o q hp1) (by simp) (by simp)) ?_)
  exact frm.tr (frm_sIf (frm_sIf (frm.rf _) (by simp)) (by simp)) (fr_X7_becomeAs_21 o q _ h)
theorem fr_X7_seen_31 (o : Nat) (y0 : Int32) (y1 : Int32) (σ : St) {r : Int32 × St} (h : f_X7_seen_31 o y0 y1 σ = some r) : frm [] [] σ r.2 := by
  unfold f_X7_seen_31 at h
  cases h
  exact (frm.rf _)
theorem fr_X7_seen_30 (o : Nat) (y0 : Int32) (σ : St) {r : Int32 × St} (h : f_X7_seen_30 o y0 σ = some r) : frm [] [] σ r.2 := by
  unfold f_X7_seen_30 at h
  exact fr_X7_seen_31 o _ _ _ h
theorem fr_X7_seen (o : Nat) {x1 : Int32} {σ : St} {r : Int32 × St} (h : f_X7_seen o x1 σ = some r) : frm [] [] σ r.2 := by
  unfold f_X7_seen at h
  obtain ⟨-, h⟩ := gd_some h
  obtain ⟨p1, hp1, h⟩ := bind_sp h
  refine frm.tr (frm.rf _) (frm.tr (frm.mo (fr_X9_hasBit hp1) (by decide) (by decide)) ?_)
  rcases ite_sp h with ⟨-, h⟩ | ⟨-, h⟩
  · exact fr_X7_seen_30 o _ _ h
  · obtain ⟨-, h⟩ := gd_some h
    rcases ite_sp h with ⟨-, h⟩ | ⟨-, h⟩
    · exact fr_X7_seen_30 o _ _ h
    · exact fr_X7_seen_31 o _ _ _ h
theorem fr_X7_valueSeen_27 (o : Nat) (k4 : Int64 → Int32 → St → Option (Int64 × St)) (hk4 : ∀ (x1 : Int64) (x3 : Int32) (σ : St) {r : Int64 × St}, k4 x1 x3 σ = some r → frm [] [] σ r.2) (x1 : Int64) (x3 : Int32) (σ : St) {r : Int64 × St} (h : f_X7_valueSeen_27 o k4 x1 x3 σ = some r) : frm [] [] σ r.2 := by
  unfold f_X7_valueSeen_27 at h
  exact hk4 _ _ _ h
theorem fr_X7_valueSeen_4 (o : Nat) : ∀ (n : Nat) (x1 : Int64) (x3 : Int32) (σ : St) {r : Int64 × St}, f_X7_valueSeen_4 o n x1 x3 σ = some r → frm [] [] σ r.2 := by
  intro n
  induction n with
  | zero =>
    intro x1 x3 σ r h
    cases h
  | succ n ih =>
    intro x1 x3 σ r h
    simp only [f_X7_valueSeen_4] at h
    rcases ite_sp h with ⟨-, h⟩ | ⟨-, h⟩
    · cases h
      exact (frm.rf _)
    · obtain ⟨p1, hp1, h⟩ := bind_sp h
      refine frm.tr (frm.rf _) (frm.tr (frm.mo (fr_X7_seen o hp1) (by decide) (by decide)) ?_)
      obtain ⟨-, h⟩ := gd_some h
      exact fr_X7_valueSeen_27 o _ ih _ _ _ h
theorem fr_X7_valueSeen (o : Nat) {σ : St} {r : Int64 × St} (h : f_X7_valueSeen o σ = some r) : frm [] [] σ r.2 := by
  unfold f_X7_valueSeen at h
  exact fr_X7_valueSeen_4 o FU _ _ _ h
theorem fr_X7_isFoggy (o : Nat) {x1 : Int32} {σ : St} {r : Int32 × St} (h : f_X7_isFoggy o x1 σ = some r) : frm [] [] σ r.2 := by
  unfold f_X7_isFoggy at h
  obtain ⟨p1, hp1, h⟩ := bind_sp h
  refine frm.tr (frm.rf _) (frm.tr (frm.mo (fr_X9_hasBit hp1) (by decide) (by decide)) ?_)
  obtain ⟨-, h⟩ := gd_some h
  cases h
  exact (frm.rf _)
theorem fr_X7_twice_7 (o : Nat) : ∀ (n : Nat) (x1 : Int32) (σ : St) {r : St}, f_X7_twice_7 o n x1 σ = some r → frm [o + 1, o + 3] [(o, 7), (o, 8), (o, 10), (o, 11)] σ r := by
  intro n
  induction n with
  | zero =>
    intro x1 σ r h
    cases h
  | succ n ih =>
    intro x1 σ r h
    simp only [f_X7_twice_7] at h
    rcases ite_sp h with ⟨-, h⟩ | ⟨-, h⟩
    · cases h
      exact (frm.rf _)
    · obtain ⟨-, h⟩ := gd_some h
      obtain ⟨p1, hp1, h⟩ := bind_sp h
      refine frm.tr (frm.rf _) (frm.tr (frm.mo (fr_X7_drive o hp1) (by simp) (by simp)) ?_)
      exact ih _ _ h
theorem fr_X7_twice (o : Nat) {σ : St} {r : St} (h : f_X7_twice o σ = some r) : frm [o + 1, o + 3] [(o, 7), (o, 8), (o, 10), (o, 11)] σ r := by
  unfold f_X7_twice at h
  exact fr_X7_twice_7 o FU _ _ h
theorem fr_X7_halve_37 (o : Nat) (k9 : Int32 → Int32 → St → Option (St)) (hk9 : ∀ (x1 : Int32) (x2 : Int32) (σ : St) {r : St}, k9 x1 x2 σ = some r → frm [o + 1, o + 3] [(o, 7), (o, 11), (o, 12)] σ r) (x1 : Int32) (x2 : Int32) (σ : St) {r : St} (h : f_X7_halve_37 o k9 x1 x2 σ = some r) : frm [o + 1, o + 3] [(o, 7), (o, 11), (o, 12)] σ r := by
  unfold f_X7_halve_37 at h
  exact hk9 _ _ _ h
theorem fr_X7_halve_25 (o : Nat) (k9 : Int32 → Int32 → St → Option (St)) (hk9 : ∀ (x1 : Int32) (x2 : Int32) (σ : St) {r : St}, k9 x1 x2 σ = some r → frm [o + 1, o + 3] [(o, 7), (o, 11), (o, 12)] σ r) (x2 : Int32) (x3 : Int32) (σ : St) {r : St} (h : f_X7_halve_25 o k9 x2 x3 σ = some r) : frm [o + 1, o + 3] [(o, 7), (o, 11), (o, 12)] σ r := by
  unfold f_X7_halve_25 at h
  obtain ⟨p1, hp1, h⟩ := bind_sp h
  refine frm.tr (frm.rf _) (frm.tr (frm.mo (fr_X7_stand o hp1) (by simp) (by simp)) ?_)
  exact fr_X7_halve_37 o _ hk9 _ _ _ h
theorem fr_X7_halve_9 (o : Nat) : ∀ (n : Nat) (x1 : Int32) (x2 : Int32) (σ : St) {r : St}, f_X7_halve_9 o n x1 x2 σ = some r → frm [o + 1, o + 3] [(o, 7), (o, 11), (o, 12)] σ r := by
  intro n
  induction n with
  | zero =>
    intro x1 x2 σ r h
    cases h
  | succ n ih =>
    intro x1 x2 σ r h
    simp only [f_X7_halve_9] at h
    rcases ite_sp h with ⟨-, h⟩ | ⟨-, h⟩
    · cases h
      exact (frm_sIf (frm.rf _) (by simp))
    · obtain ⟨-, h⟩ := gd_some h
      exact fr_X7_halve_25 o _ ih _ _ _ h
theorem fr_X7_halve (o : Nat) {σ : St} {r : St} (h : f_X7_halve o σ = some r) : frm [o + 1, o + 3] [(o, 7), (o, 11), (o, 12)] σ r := by
  unfold f_X7_halve at h
  exact fr_X7_halve_9 o FU _ _ _ h
theorem fr_X7_empty_2 (o : Nat) : ∀ (n : Nat) (x1 : Int32) (σ : St) {r : St}, f_X7_empty_2 o n x1 σ = some r → frm [o + 1, o + 3] [(o, 7), (o, 11)] σ r := by
  intro n
  induction n with
  | zero =>
    intro x1 σ r h
    cases h
  | succ n ih =>
    intro x1 σ r h
    simp only [f_X7_empty_2] at h
    rcases ite_sp h with ⟨-, h⟩ | ⟨-, h⟩
    · cases h
      exact (frm.rf _)
    · obtain ⟨p1, hp1, h⟩ := bind_sp h
      refine frm.tr (frm.rf _) (frm.tr (frm.mo (fr_X7_stand o hp1) (by simp) (by simp)) ?_)
      exact ih _ _ h
theorem fr_X7_empty (o : Nat) {σ : St} {r : St} (h : f_X7_empty o σ = some r) : frm [o + 1, o + 3] [(o, 7), (o, 11)] σ r := by
  unfold f_X7_empty at h
  exact fr_X7_empty_2 o FU _ _ h
theorem fr_J9_floorMod_f86c9_25 (x4 : Int64) (σ : St) {r : Int64 × St} (h : f_J9_floorMod_f86c9_25 x4 σ = some r) : frm [] [] σ r.2 := by
  unfold f_J9_floorMod_f86c9_25 at h
  cases h
  exact (frm.rf _)
theorem fr_J9_floorMod_f86c9_5 (x0 : Int64) (x2 : Int64) (x4 : Int64) (σ : St) {r : Int64 × St} (h : f_J9_floorMod_f86c9_5 x0 x2 x4 σ = some r) : frm [] [] σ r.2 := by
  unfold f_J9_floorMod_f86c9_5 at h
  rcases ite_sp h with ⟨-, h⟩ | ⟨-, h⟩
  · exact fr_J9_floorMod_f86c9_25 _ _ h
  · rcases ite_sp h with ⟨-, h⟩ | ⟨-, h⟩
    · exact fr_J9_floorMod_f86c9_25 _ _ h
    · cases h
      exact (frm.rf _)
theorem fr_J9_floorMod_f86c9 {x0 : Int64} {x2 : Int64} {σ : St} {r : Int64 × St} (h : f_J9_floorMod_f86c9 x0 x2 σ = some r) : frm [] [] σ r.2 := by
  unfold f_J9_floorMod_f86c9 at h
  obtain ⟨-, h⟩ := gd_some h
  exact fr_J9_floorMod_f86c9_5 _ _ _ _ h
theorem fr_X8_restOf (v : Nat) {x1 : Int64} {σ : St} {r : Int32 × St} (h : f_X8_restOf v x1 σ = some r) : frm [] [] σ r.2 := by
  unfold f_X8_restOf at h
  obtain ⟨p1, hp1, h⟩ := bind_sp h
  refine frm.tr (frm.rf _) (frm.tr (frm.mo (fr_J9_floorMod_f86c9 hp1) (by decide) (by decide)) ?_)
  cases h
  exact (frm.rf _)
theorem fr_X8_countWays_121 (v : Nat) (k17 : Int32 → St → Option (St)) (k27 : Int32 → Int32 → St → Option (St)) (k54 : Int32 → Int32 → Int32 → Int32 → St → Option (St)) (hk17 : ∀ (x1 : Int32) (σ : St) {r : St}, k17 x1 σ = some r → frm [v + 2] [] σ r) (hk27 : ∀ (x1 : Int32) (x2 : Int32) (σ : St) {r : St}, k27 x1 x2 σ = some r → frm [v + 2] [] σ r) (hk54 : ∀ (x1 : Int32) (x2 : Int32) (x3 : Int32) (x4 : Int32) (σ : St) {r : St}, k54 x1 x2 x3 x4 σ = some r → frm [v + 2] [] σ r) (x1 : Int32) (x2 : Int32) (x3 : Int32) (x4 : Int32) (σ : St) {r : St} (h : f_X8_countWays_121 v k17 k27 k54 x1 x2 x3 x4 σ = some r) : frm [v + 2] [] σ r := by
  unfold f_X8_countWays_121 at h
  exact hk54 _ _ _ _ _ h
theorem fr_X8_countWays_90 (v : Nat) (k17 : Int32 → St → Option (St)) (k27 : Int32 → Int32 → St → Option (St)) (k54 : Int32 → Int32 → Int32 → Int32 → St → Option (St)) (hk17 : ∀ (x1 : Int32) (σ : St) {r : St}, k17 x1 σ = some r → frm [v + 2] [] σ r) (hk27 : ∀ (x1 : Int32) (x2 : Int32) (σ : St) {r : St}, k27 x1 x2 σ = some r → frm [v + 2] [] σ r) (hk54 : ∀ (x1 : Int32) (x2 : Int32) (x3 : Int32) (x4 : Int32) (σ : St) {r : St}, k54 x1 x2 x3 x4 σ = some r → frm [v + 2] [] σ r) (x1 : Int32) (x2 : Int32) (x3 : Int32) (x4 : Int32) (y0 : Int32) (σ : St) {r : St} (h : f_X8_countWays_90 v k17 k27 k54 x1 x2 x3 x4 y0 σ = some r) : frm [v + 2] [] σ r := by
  unfold f_X8_countWays_90 at h
  obtain ⟨-, h⟩ := gd_some h
  obtain ⟨-, h⟩ := gd_some h
  obtain ⟨-, h⟩ := gd_some h
  exact frm.tr (frm_sI (frm.rf _) (by simp)) (fr_X8_countWays_121 v _ _ _ hk17 hk27 hk54 _ _ _ _ _ h)
theorem fr_X8_countWays_54 (v : Nat) (k17 : Int32 → St → Option (St)) (k27 : Int32 → Int32 → St → Option (St)) (hk17 : ∀ (x1 : Int32) (σ : St) {r : St}, k17 x1 σ = some r → frm [v + 2] [] σ r) (hk27 : ∀ (x1 : Int32) (x2 : Int32) (σ : St) {r : St}, k27 x1 x2 σ = some r → frm [v + 2] [] σ r) : ∀ (n : Nat) (x1 : Int32) (x2 : Int32) (x3 : Int32) (x4 : Int32) (σ : St) {r : St}, f_X8_countWays_54 v k17 k27 n x1 x2 x3 x4 σ = some r → frm [v + 2] [] σ r := by
  intro n
  induction n with
  | zero =>
    intro x1 x2 x3 x4 σ r h
    cases h
  | succ n ih =>
    intro x1 x2 x3 x4 σ r h
    simp only [f_X8_countWays_54] at h
    rcases ite_sp h with ⟨-, h⟩ | ⟨-, h⟩
    · exact hk27 _ _ _ h
    · rcases ite_sp h with ⟨-, h⟩ | ⟨-, h⟩
      · exact fr_X8_countWays_90 v _ _ _ hk17 hk27 ih _ _ _ _ _ _ h
      · exact fr_X8_countWays_90 v _ _ _ hk17 hk27 ih _ _ _ _ _ _ h
theorem fr_X8_countWays_27 (v : Nat) (k17 : Int32 → St → Option (St)) (hk17 : ∀ (x1 : Int32) (σ : St) {r : St}, k17 x1 σ = some r → frm [v + 2] [] σ r) : ∀ (n : Nat) (x1 : Int32) (x2 : Int32) (σ : St) {r : St}, f_X8_countWays_27 v k17 n x1 x2 σ = some r → frm [v + 2] [] σ r := by
  intro n
  induction n with
  | zero =>
    intro x1 x2 σ r h
    cases h
  | succ n ih =>
    intro x1 x2 σ r h
    simp only [f_X8_countWays_27] at h
    rcases ite_sp h with ⟨-, h⟩ | ⟨-, h⟩
    · exact hk17 _ _ h
    · obtain ⟨-, h⟩ := gd_some h
      obtain ⟨-, h⟩ := gd_some h
      obtain ⟨p2, hp2, h⟩ := bind_sp h
      refine frm.tr (frm.rf _) (frm.tr (frm.mo (fr_X8_restOf v hp2) (by simp) (by simp)) ?_)
      exact fr_X8_countWays_54 v _ _ hk17 ih FU _ _ _ _ _ h
theorem fr_X8_countWays_17 (v : Nat) : ∀ (n : Nat) (x1 : Int32) (σ : St) {r : St}, f_X8_countWays_17 v n x1 σ = some r → frm [v + 2] [] σ r := by
  intro n
  induction n with
  | zero =>
    intro x1 σ r h
    cases h
  | succ n ih =>
    intro x1 σ r h
    simp only [f_X8_countWays_17] at h
    rcases ite_sp h with ⟨-, h⟩ | ⟨-, h⟩
    · cases h
      exact (frm.rf _)
    · exact fr_X8_countWays_27 v _ ih FU _ _ _ h
theorem fr_X8_countWays (v : Nat) {σ : St} {r : St} (h : f_X8_countWays v σ = some r) : frm [v + 2] [] σ r := by
  unfold f_X8_countWays at h
  obtain ⟨p1, hp1, h⟩ := bind_sp h
  refine frm.tr (frm.rf _) (frm.tr (frm.mo (fr_J7_fill_53178 (v + 2) 594 hp1) (by simp) (by simp)) ?_)
  exact frm.tr (frm_sI (frm.rf _) (by simp)) (fr_X8_countWays_17 v FU _ _ h)
theorem fr_X8_look_94 (v : Nat) (q : Nat) (k26 : Int32 → St → Option (St)) (hk26 : ∀ (x3 : Int32) (σ : St) {r : St}, k26 x3 σ = some r → frm [v + 1, v + 2] [(v, 2), (v, 3), (v, 4)] σ r) (x3 : Int32) (σ : St) {r : St} (h : f_X8_look_94 v q k26 x3 σ = some r) : frm [v + 1, v + 2] [(v, 2), (v, 3), (v, 4)] σ r := by
  unfold f_X8_look_94 at h
  exact hk26 _ _ h
theorem fr_X8_look_26 (v : Nat) (q : Nat) : ∀ (n : Nat) (x3 : Int32) (σ : St) {r : St}, f_X8_look_26 v q n x3 σ = some r → frm [v + 1, v + 2] [(v, 2), (v, 3), (v, 4)] σ r := by
  intro n
  induction n with
  | zero =>
    intro x3 σ r h
    cases h
  | succ n ih =>
    intro x3 σ r h
    simp only [f_X8_look_26] at h
    rcases ite_sp h with ⟨-, h⟩ | ⟨-, h⟩
    · obtain ⟨p1, hp1, h⟩ := bind_sp h
      refine frm.tr (frm.rf _) (frm.tr (frm.mo (fr_X8_countWays v hp1) (by simp) (by simp)) ?_)
      cases h
      exact (frm.rf _)
    · obtain ⟨p2, hp2, h⟩ := bind_sp h
      refine frm.tr (frm.rf _) (frm.tr (frm.mo (fr_X7_isFoggy q hp2) (by simp) (by simp)) ?_)
      rcases ite_sp h with ⟨-, h⟩ | ⟨-, h⟩
      · obtain ⟨p3, hp3, h⟩ := bind_sp h
        refine frm.tr (frm.rf _) (frm.tr (frm.mo (fr_X7_seen q hp3) (by simp) (by simp)) ?_)
        obtain ⟨-, h⟩ := gd_some h
        exact frm.tr (frm_sJf (frm.rf _) (by simp)) (fr_X8_look_94 v q _ ih _ _ h)
      · rcases ite_sp h with ⟨-, h⟩ | ⟨-, h⟩
        · exact fr_X8_look_94 v q _ ih _ _ h
        · obtain ⟨-, h⟩ := gd_some h
          exact frm.tr (frm_sIf (frm_sI (frm.rf _) (by simp)) (by simp)) (fr_X8_look_94 v q _ ih _ _ h)
theorem fr_X8_look (v : Nat) (q : Nat) {x2 : Int32} {σ : St} {r : St} (h : f_X8_look v q x2 σ = some r) : frm [v + 1, v + 2] [(v, 2), (v, 3), (v, 4)] σ r := by
  unfold f_X8_look at h
  exact frm.tr (frm_sJf (frm_sIf (frm_sIf (frm.rf _) (by simp)) (by simp)) (by simp)) (fr_X8_look_26 v q FU _ _ h)
theorem fr_X8_howMany (v : Nat) {x1 : Int32} {σ : St} {r : Int32 × St} (h : f_X8_howMany v x1 σ = some r) : frm [] [] σ r.2 := by
  unfold f_X8_howMany at h
  obtain ⟨p1, hp1, h⟩ := bind_sp h
  refine frm.tr (frm.rf _) (frm.tr (frm.mo (fr_X8_restOf v hp1) (by decide) (by decide)) ?_)
  obtain ⟨-, h⟩ := gd_some h
  cases h
  exact (frm.rf _)
theorem fr_X8_outermost_118 (v : Nat) (k13 : Int32 → Int32 → Int64 → Int32 → St → Option (Int64 × St)) (hk13 : ∀ (x1 : Int32) (x2 : Int32) (x3 : Int64) (x5 : Int32) (σ : St) {r : Int64 × St}, k13 x1 x2 x3 x5 σ = some r → frm [] [] σ r.2) (x1 : Int32) (x2 : Int32) (x3 : Int64) (x5 : Int32) (σ : St) {r : Int64 × St} (h : f_X8_outermost_118 v k13 x1 x2 x3 x5 σ = some r) : frm [] [] σ r.2 := by
  unfold f_X8_outermost_118 at h
  exact hk13 _ _ _ _ _ h
theorem fr_X8_outermost_105 (v : Nat) (k13 : Int32 → Int32 → Int64 → Int32 → St → Option (Int64 × St)) (hk13 : ∀ (x1 : Int32) (x2 : Int32) (x3 : Int64) (x5 : Int32) (σ : St) {r : Int64 × St}, k13 x1 x2 x3 x5 σ = some r → frm [] [] σ r.2) (x1 : Int32) (x2 : Int32) (x3 : Int64) (x5 : Int32) (x6 : Int64) (x8 : Int32) (σ : St) {r : Int64 × St} (h : f_X8_outermost_105 v k13 x1 x2 x3 x5 x6 x8 σ = some r) : frm [] [] σ r.2 := by
  unfold f_X8_outermost_105 at h
  exact fr_X8_outermost_118 v _ hk13 _ _ _ _ _ h
theorem fr_X8_outermost_99 (v : Nat) (k13 : Int32 → Int32 → Int64 → Int32 → St → Option (Int64 × St)) (k37 : Int32 → Int32 → Int64 → Int32 → Int64 → Int32 → Int32 → St → Option (Int64 × St)) (hk13 : ∀ (x1 : Int32) (x2 : Int32) (x3 : Int64) (x5 : Int32) (σ : St) {r : Int64 × St}, k13 x1 x2 x3 x5 σ = some r → frm [] [] σ r.2) (hk37 : ∀ (x1 : Int32) (x2 : Int32) (x3 : Int64) (x5 : Int32) (x6 : Int64) (x8 : Int32) (x9 : Int32) (σ : St) {r : Int64 × St}, k37 x1 x2 x3 x5 x6 x8 x9 σ = some r → frm [] [] σ r.2) (x1 : Int32) (x2 : Int32) (x3 : Int64) (x5 : Int32) (x6 : Int64) (x8 : Int32) (x9 : Int32) (σ : St) {r : Int64 × St} (h : f_X8_outermost_99 v k13 k37 x1 x2 x3 x5 x6 x8 x9 σ = some r) : frm [] [] σ r.2 := by
  unfold f_X8_outermost_99 at h
  exact hk37 _ _ _ _ _ _ _ _ h
theorem fr_X8_outermost_64 (v : Nat) (k13 : Int32 → Int32 → Int64 → Int32 → St → Option (Int64 × St)) (k37 : Int32 → Int32 → Int64 → Int32 → Int64 → Int32 → Int32 → St → Option (Int64 × St)) (hk13 : ∀ (x1 : Int32) (x2 : Int32) (x3 : Int64) (x5 : Int32) (σ : St) {r : Int64 × St}, k13 x1 x2 x3 x5 σ = some r → frm [] [] σ r.2) (hk37 : ∀ (x1 : Int32) (x2 : Int32) (x3 : Int64) (x5 : Int32) (x6 : Int64) (x8 : Int32) (x9 : Int32) (σ : St) {r : Int64 × St}, k37 x1 x2 x3 x5 x6 x8 x9 σ = some r → frm [] [] σ r.2) (x1 : Int32) (x2 : Int32) (x3 : Int64) (x5 : Int32) (x6 : Int64) (x8 : Int32) (x9 : Int32) (y0 : Int32) (σ : St) {r : Int64 × St} (h : f_X8_outermost_64 v k13 k37 x1 x2 x3 x5 x6 x8 x9 y0 σ = some r) : frm [] [] σ r.2 := by
  unfold f_X8_outermost_64 at h
  obtain ⟨p1, hp1, h⟩ := bind_sp h
  refine frm.tr (frm.rf _) (frm.tr (frm.mo (fr_X8_restOf v hp1) (by decide) (by decide)) ?_)
  obtain ⟨-, h⟩ := gd_some h
  rcases ite_sp h with ⟨-, h⟩ | ⟨-, h⟩
  · exact fr_X8_outermost_99 v _ _ hk13 hk37 _ _ _ _ _ _ _ _ h
  · exact fr_X8_outermost_99 v _ _ hk13 hk37 _ _ _ _ _ _ _ _ h
theorem fr_X8_outermost_37 (v : Nat) (k13 : Int32 → Int32 → Int64 → Int32 → St → Option (Int64 × St)) (hk13 : ∀ (x1 : Int32) (x2 : Int32) (x3 : Int64) (x5 : Int32) (σ : St) {r : Int64 × St}, k13 x1 x2 x3 x5 σ = some r → frm [] [] σ r.2) : ∀ (n : Nat) (x1 : Int32) (x2 : Int32) (x3 : Int64) (x5 : Int32) (x6 : Int64) (x8 : Int32) (x9 : Int32) (σ : St) {r : Int64 × St}, f_X8_outermost_37 v k13 n x1 x2 x3 x5 x6 x8 x9 σ = some r → frm [] [] σ r.2 := by
  intro n
  induction n with
  | zero =>
    intro x1 x2 x3 x5 x6 x8 x9 σ r h
    cases h
  | succ n ih =>
    intro x1 x2 x3 x5 x6 x8 x9 σ r h
    simp only [f_X8_outermost_37] at h
    rcases ite_sp h with ⟨-, h⟩ | ⟨-, h⟩
    · exact fr_X8_outermost_105 v _ hk13 _ _ _ _ _ _ _ h
    · rcases ite_sp h with ⟨-, h⟩ | ⟨-, h⟩
      · rcases ite_sp h with ⟨-, h⟩ | ⟨-, h⟩
        · exact fr_X8_outermost_64 v _ _ hk13 ih _ _ _ _ _ _ _ _ _ h
        · exact fr_X8_outermost_64 v _ _ hk13 ih _ _ _ _ _ _ _ _ _ h
      · exact fr_X8_outermost_105 v _ hk13 _ _ _ _ _ _ _ h
theorem fr_X8_outermost_31 (v : Nat) (k13 : Int32 → Int32 → Int64 → Int32 → St → Option (Int64 × St)) (hk13 : ∀ (x1 : Int32) (x2 : Int32) (x3 : Int64) (x5 : Int32) (σ : St) {r : Int64 × St}, k13 x1 x2 x3 x5 σ = some r → frm [] [] σ r.2) (x1 : Int32) (x2 : Int32) (x3 : Int64) (x5 : Int32) (x6 : Int64) (σ : St) {r : Int64 × St} (h : f_X8_outermost_31 v k13 x1 x2 x3 x5 x6 σ = some r) : frm [] [] σ r.2 := by
  unfold f_X8_outermost_31 at h
  exact fr_X8_outermost_37 v _ hk13 FU _ _ _ _ _ _ _ _ h
theorem fr_X8_outermost_13 (v : Nat) : ∀ (n : Nat) (x1 : Int32) (x2 : Int32) (x3 : Int64) (x5 : Int32) (σ : St) {r : Int64 × St}, f_X8_outermost_13 v n x1 x2 x3 x5 σ = some r → frm [] [] σ r.2 := by
  intro n
  induction n with
  | zero =>
    intro x1 x2 x3 x5 σ r h
    cases h
  | succ n ih =>
    intro x1 x2 x3 x5 σ r h
    simp only [f_X8_outermost_13] at h
    rcases ite_sp h with ⟨-, h⟩ | ⟨-, h⟩
    · cases h
      exact (frm.rf _)
    · obtain ⟨-, h⟩ := gd_some h
      obtain ⟨-, h⟩ := gd_some h
      exact fr_X8_outermost_31 v _ ih _ _ _ _ _ _ h
theorem fr_X8_outermost_5 (v : Nat) (x1 : Int32) (x2 : Int32) (x3 : Int64) (σ : St) {r : Int64 × St} (h : f_X8_outermost_5 v x1 x2 x3 σ = some r) : frm [] [] σ r.2 := by
  unfold f_X8_outermost_5 at h
  exact fr_X8_outermost_13 v FU _ _ _ _ _ h
theorem fr_X8_outermost (v : Nat) {x1 : Int32} {x2 : Int32} {σ : St} {r : Int64 × St} (h : f_X8_outermost v x1 x2 σ = some r) : frm [] [] σ r.2 := by
  unfold f_X8_outermost at h
  exact fr_X8_outermost_5 v _ _ _ _ h
theorem fr_X9_bytesIn_27 (k5 : Int32 → Int32 → Int32 → St → Option (Int32 × St)) (hk5 : ∀ (x0 : Int32) (x1 : Int32) (x2 : Int32) (σ : St) {r : Int32 × St}, k5 x0 x1 x2 σ = some r → frm [] [] σ r.2) (x0 : Int32) (x1 : Int32) (x2 : Int32) (σ : St) {r : Int32 × St} (h : f_X9_bytesIn_27 k5 x0 x1 x2 σ = some r) : frm [] [] σ r.2 := by
  unfold f_X9_bytesIn_27 at h
  exact hk5 _ _ _ _ h
theorem fr_X9_bytesIn_25 (k5 : Int32 → Int32 → Int32 → St → Option (Int32 × St)) (hk5 : ∀ (x0 : Int32) (x1 : Int32) (x2 : Int32) (σ : St) {r : Int32 × St}, k5 x0 x1 x2 σ = some r → frm [] [] σ r.2) (x0 : Int32) (x2 : Int32) (y0 : Int32) (y1 : Int32) (σ : St) {r : Int32 × St} (h : f_X9_bytesIn_25 k5 x0 x2 y0 y1 σ = some r) : frm [] [] σ r.2 := by
  unfold f_X9_bytesIn_25 at h
  exact fr_X9_bytesIn_27 _ hk5 _ _ _ _ h
theorem fr_X9_bytesIn_5 : ∀ (n : Nat) (x0 : Int32) (x1 : Int32) (x2 : Int32) (σ : St) {r : Int32 × St}, f_X9_bytesIn_5 n x0 x1 x2 σ = some r → frm [] [] σ r.2 := by
  intro n
  induction n with
  | zero =>
    intro x0 x1 x2 σ r h
    cases h
  | succ n ih =>
    intro x0 x1 x2 σ r h
    simp only [f_X9_bytesIn_5] at h
    rcases ite_sp h with ⟨-, h⟩ | ⟨-, h⟩
    · cases h
      exact (frm.rf _)
    · rcases ite_sp h with ⟨-, h⟩ | ⟨-, h⟩
      · exact fr_X9_bytesIn_25 _ ih _ _ _ _ _ h
      · exact fr_X9_bytesIn_25 _ ih _ _ _ _ _ h
theorem fr_X9_bytesIn {x0 : Int32} {σ : St} {r : Int32 × St} (h : f_X9_bytesIn x0 σ = some r) : frm [] [] σ r.2 := by
  unfold f_X9_bytesIn at h
  exact fr_X9_bytesIn_5 FU _ _ _ _ h
theorem fr_X9_feed_28 (x1 : Int32) (x2 : Int32) (x3 : Int32) (x4 : Int32) (x5 : Int32) (x6 : Int32) (σ : St) {r : Int32 × St} (h : f_X9_feed_28 x1 x2 x3 x4 x5 x6 σ = some r) : frm [12] [(11, 1)] σ r.2 := by
  unfold f_X9_feed_28 at h
  rcases ite_sp h with ⟨-, h⟩ | ⟨-, h⟩
  · obtain ⟨p6, hp6, h⟩ := bind_sp h
    refine frm.tr (frm.rf _) (frm.tr (frm.mo (fr_X5_write hp6) (by decide) (by decide)) ?_)
    obtain ⟨p7, hp7, h⟩ := bind_sp h
    refine frm.tr (frm.rf _) (frm.tr (frm.mo (fr_X5_write hp7) (by decide) (by decide)) ?_)
    obtain ⟨p8, hp8, h⟩ := bind_sp h
    refine frm.tr (frm.rf _) (frm.tr (frm.mo (fr_X5_write hp8) (by decide) (by decide)) ?_)
    obtain ⟨p9, hp9, h⟩ := bind_sp h
    refine frm.tr (frm.rf _) (frm.tr (frm.mo (fr_X5_write hp9) (by decide) (by decide)) ?_)
    obtain ⟨p10, hp10, h⟩ := bind_sp h
    refine frm.tr (frm.rf _) (frm.tr (frm.mo (fr_X5_write hp10) (by decide) (by decide)) ?_)
    cases h
    exact (frm.rf _)
  · cases h
    exact (frm.rf _)
theorem fr_X9_feed {x1 : Int32} {x2 : Int32} {x3 : Int32} {x4 : Int32} {x5 : Int32} {σ : St} {r : Int32 × St} (h : f_X9_feed x1 x2 x3 x4 x5 σ = some r) : frm [12] [(11, 1)] σ r.2 := by
  unfold f_X9_feed at h
  obtain ⟨p1, hp1, h⟩ := bind_sp h
  refine frm.tr (frm.rf _) (frm.tr (frm.mo (fr_X9_bytesIn hp1) (by decide) (by decide)) ?_)
  obtain ⟨p2, hp2, h⟩ := bind_sp h
  refine frm.tr (frm.rf _) (frm.tr (frm.mo (fr_X9_bytesIn hp2) (by decide) (by decide)) ?_)
  obtain ⟨p3, hp3, h⟩ := bind_sp h
  refine frm.tr (frm.rf _) (frm.tr (frm.mo (fr_X9_bytesIn hp3) (by decide) (by decide)) ?_)
  obtain ⟨p4, hp4, h⟩ := bind_sp h
  refine frm.tr (frm.rf _) (frm.tr (frm.mo (fr_X9_bytesIn hp4) (by decide) (by decide)) ?_)
  obtain ⟨p5, hp5, h⟩ := bind_sp h
  refine frm.tr (frm.rf _) (frm.tr (frm.mo (fr_X9_bytesIn hp5) (by decide) (by decide)) ?_)
  exact fr_X9_feed_28 _ _ _ _ _ _ _ h
theorem fr_X9_end_15 (σ : St) {r : Int32 × St} (h : f_X9_end_15 σ = some r) : frm [] [(11, 1)] σ r.2 := by
  unfold f_X9_end_15 at h
  cases h
  exact (frm.rf _)
theorem fr_X9_end {x1 : Int32} {σ : St} {r : Int32 × St} (h : f_X9_end x1 σ = some r) : frm [] [(11, 1)] σ r.2 := by
  unfold f_X9_end at h
  rcases ite_sp h with ⟨-, h⟩ | ⟨-, h⟩
  · exact fr_X9_end_15 _ h
  · rcases ite_sp h with ⟨-, h⟩ | ⟨-, h⟩
    · cases h
      exact (frm_sIf (frm.rf _) (by simp))
    · exact fr_X9_end_15 _ h
theorem fr_X9_set_43 (σ : St) {r : Int32 × St} (h : f_X9_set_43 σ = some r) : frm [] [(0, 14), (0, 15), (0, 16), (0, 17)] σ r.2 := by
  unfold f_X9_set_43 at h
  cases h
  exact (frm.rf _)
theorem fr_X9_set_101 (σ : St) {r : Int32 × St} (h : f_X9_set_101 σ = some r) : frm [] [(0, 14), (0, 15), (0, 16), (0, 17)] σ r.2 := by
  unfold f_X9_set_101 at h
  cases h
  exact (frm.rf _)
theorem fr_X9_set_21 (x1 : Int32) (x2 : Int32) (x3 : Int32) (y0 : Int32) (σ : St) {r : Int32 × St} (h : f_X9_set_21 x1 x2 x3 y0 σ = some r) : frm [] [(0, 14), (0, 15), (0, 16), (0, 17)] σ r.2 := by
  unfold f_X9_set_21 at h
  rcases ite_sp h with ⟨-, h⟩ | ⟨-, h⟩
  · exact fr_X9_set_43 _ h
  · rcases ite_sp h with ⟨-, h⟩ | ⟨-, h⟩
    · exact fr_X9_set_43 _ h
    · rcases ite_sp h with ⟨-, h⟩ | ⟨-, h⟩
      · exact fr_X9_set_43 _ h
      · rcases ite_sp h with ⟨-, h⟩ | ⟨-, h⟩
        · rcases ite_sp h with ⟨-, h⟩ | ⟨-, h⟩
          · exact frm.tr (frm_sIf (frm.rf _) (by simp)) (fr_X9_set_101 _ h)
          rcases ite_sp h with ⟨-, h⟩ | ⟨-, h⟩
          · exact frm.tr (frm_sIf (frm.rf _) (by simp)) (fr_X9_set_101 _ h)
          rcases ite_sp h with ⟨-, h⟩ | ⟨-, h⟩
          · exact frm.tr (frm_sIf (frm.rf _) (by simp)) (fr_X9_set_101 _ h)
          exact frm.tr (frm_sIf (frm.rf _) (by simp)) (fr_X9_set_101 _ h)
        · exact fr_X9_set_43 _ h
theorem fr_X9_set_10 (x1 : Int32) (x2 : Int32) (y0 : Int32) (σ : St) {r : Int32 × St} (h : f_X9_set_10 x1 x2 y0 σ = some r) : frm [] [(0, 14), (0, 15), (0, 16), (0, 17)] σ r.2 := by
  unfold f_X9_set_10 at h
  rcases ite_sp h with ⟨-, h⟩ | ⟨-, h⟩
  · exact fr_X9_set_21 _ _ _ _ _ h
  · exact fr_X9_set_21 _ _ _ _ _ h
theorem fr_X9_set {x1 : Int32} {x2 : Int32} {σ : St} {r : Int32 × St} (h : f_X9_set x1 x2 σ = some r) : frm [] [(0, 14), (0, 15), (0, 16), (0, 17)] σ r.2 := by
  unfold f_X9_set at h
  rcases ite_sp h with ⟨-, h⟩ | ⟨-, h⟩
  · exact fr_X9_set_10 _ _ _ _ h
  · exact fr_X9_set_10 _ _ _ _ h
theorem fr_X9_isRope_20 (y0 : Int32) (σ : St) {r : Int32 × St} (h : f_X9_isRope_20 y0 σ = some r) : frm [] [] σ r.2 := by
  unfold f_X9_isRope_20 at h
  obtain ⟨-, h⟩ := gd_some h
  cases h
  exact (frm.rf _)
theorem fr_X9_isRope_19 (σ : St) {r : Int32 × St} (h : f_X9_isRope_19 σ = some r) : frm [] [] σ r.2 := by
  unfold f_X9_isRope_19 at h
  exact fr_X9_isRope_20 _ _ h
theorem fr_X9_isRope {x1 : Int32} {σ : St} {r : Int32 × St} (h : f_X9_isRope x1 σ = some r) : frm [] [] σ r.2 := by
  unfold f_X9_isRope at h
  rcases ite_sp h with ⟨-, h⟩ | ⟨-, h⟩
  · exact fr_X9_isRope_19 _ h
  · rcases ite_sp h with ⟨-, h⟩ | ⟨-, h⟩
    · exact fr_X9_isRope_19 _ h
    · exact fr_X9_isRope_20 _ _ h
theorem fr_X9_goats_31 (σ : St) {r : Int32 × St} (h : f_X9_goats_31 σ = some r) : frm [3] [] σ r.2 := by
  unfold f_X9_goats_31 at h
  cases h
  exact (frm.rf _)
theorem fr_X9_goats {x1 : Int32} {x2 : Int32} {σ : St} {r : Int32 × St} (h : f_X9_goats x1 x2 σ = some r) : frm [3] [] σ r.2 := by
  unfold f_X9_goats at h
  obtain ⟨p1, hp1, h⟩ := bind_sp h
  refine frm.tr (frm.rf _) (frm.tr (frm.mo (fr_X9_isRope hp1) (by decide) (by decide)) ?_)
  rcases ite_sp h with ⟨-, h⟩ | ⟨-, h⟩
  · exact fr_X9_goats_31 _ h
  · rcases ite_sp h with ⟨-, h⟩ | ⟨-, h⟩
    · exact fr_X9_goats_31 _ h
    · rcases ite_sp h with ⟨-, h⟩ | ⟨-, h⟩
      · exact fr_X9_goats_31 _ h
      · obtain ⟨-, h⟩ := gd_some h
        rcases ite_sp h with ⟨-, h⟩ | ⟨-, h⟩
        · obtain ⟨-, h⟩ := gd_some h
          cases h
          exact (frm_sI (frm.rf _) (by simp))
        · exact fr_X9_goats_31 _ h
theorem fr_X9_echo_29 (σ : St) {r : Int32 × St} (h : f_X9_echo_29 σ = some r) : frm [16] [] σ r.2 := by
  unfold f_X9_echo_29 at h
  cases h
  exact (frm.rf _)
theorem fr_X9_echo {x1 : Int32} {x2 : Int32} {x3 : Int32} {σ : St} {r : Int32 × St} (h : f_X9_echo x1 x2 x3 σ = some r) : frm [16] [] σ r.2 := by
  unfold f_X9_echo at h
  obtain ⟨p1, hp1, h⟩ := bind_sp h
  refine frm.tr (frm.rf _) (frm.tr (frm.mo (fr_X9_isDigit hp1) (by decide) (by decide)) ?_)
  rcases ite_sp h with ⟨-, h⟩ | ⟨-, h⟩
  · exact fr_X9_echo_29 _ h
  · obtain ⟨p2, hp2, h⟩ := bind_sp h
    refine frm.tr (frm.rf _) (frm.tr (frm.mo (fr_X9_isDigit hp2) (by decide) (by decide)) ?_)
    rcases ite_sp h with ⟨-, h⟩ | ⟨-, h⟩
    · exact fr_X9_echo_29 _ h
    · rcases ite_sp h with ⟨-, h⟩ | ⟨-, h⟩
      · exact fr_X9_echo_29 _ h
      · rcases ite_sp h with ⟨-, h⟩ | ⟨-, h⟩
        · exact fr_X9_echo_29 _ h
        · rcases ite_sp h with ⟨-, h⟩ | ⟨-, h⟩
          · obtain ⟨p3, hp3, h⟩ := bind_sp h
            refine frm.tr (frm.rf _) (frm.tr (frm.mo (fr_X1_learn hp3) (by decide) (by decide)) ?_)
            obtain ⟨-, h⟩ := gd_some h
            cases h
            exact (frm.rf _)
          · exact fr_X9_echo_29 _ h
theorem fr_X9_wind {x1 : Int64} {σ : St} {r : St} (h : f_X9_wind x1 σ = some r) : frm [] [(1, 6)] σ r := by
  unfold f_X9_wind at h
  cases h
  exact (frm_sJf (frm.rf _) (by simp))
theorem fr_X9_isNumber_16 (y0 : Int32) (σ : St) {r : Int32 × St} (h : f_X9_isNumber_16 y0 σ = some r) : frm [] [] σ r.2 := by
  unfold f_X9_isNumber_16 at h
  obtain ⟨-, h⟩ := gd_some h
  cases h
  exact (frm.rf _)
theorem fr_X9_isNumber_15 (σ : St) {r : Int32 × St} (h : f_X9_isNumber_15 σ = some r) : frm [] [] σ r.2 := by
  unfold f_X9_isNumber_15 at h
  exact fr_X9_isNumber_16 _ _ h
theorem fr_X9_isNumber {x0 : Int32} {σ : St} {r : Int32 × St} (h : f_X9_isNumber x0 σ = some r) : frm [] [] σ r.2 := by
  unfold f_X9_isNumber at h
  rcases ite_sp h with ⟨-, h⟩ | ⟨-, h⟩
  · exact fr_X9_isNumber_15 _ h
  · rcases ite_sp h with ⟨-, h⟩ | ⟨-, h⟩
    · exact fr_X9_isNumber_15 _ h
    · exact fr_X9_isNumber_16 _ _ h
theorem fr_X9_perform_n_92 (q : Nat) (x5 : Int32) (x6 : Int32) (σ : St) {r : St} (h : f_X9_perform_n_92 q x5 x6 σ = some r) : frm [q + 1, q + 3] [(q, 7), (q, 8), (q, 9), (q, 10), (q, 11), (q, 12)] σ r := by
  unfold f_X9_perform_n_92 at h
  cases h
  exact (frm_sIf (frm.rf _) (by simp))
theorem fr_X9_perform_n_12 (q : Nat) (x2 : Int32) (x3 : Int32) (x5 : Int32) (x6 : Int32) (σ : St) {r : St} (h : f_X9_perform_n_12 q x2 x3 x5 x6 σ = some r) : frm [q + 1, q + 3] [(q, 7), (q, 8), (q, 9), (q, 10), (q, 11), (q, 12)] σ r := by
  unfold f_X9_perform_n_12 at h
  rcases ite_sp h with ⟨-, h⟩ | ⟨-, h⟩
  · obtain ⟨p1, hp1, h⟩ := bind_sp h
    refine frm.tr (frm.rf _) (frm.tr (frm.mo (fr_X7_bring_n q hp1) (by simp) (by simp)) ?_)
    exact fr_X9_perform_n_92 q _ _ _ h
  rcases ite_sp h with ⟨-, h⟩ | ⟨-, h⟩
  · obtain ⟨p2, hp2, h⟩ := bind_sp h
    refine frm.tr (frm.rf _) (frm.tr (frm.mo (fr_X7_bring_n q hp2) (by simp) (by simp)) ?_)
    exact fr_X9_perform_n_92 q _ _ _ h
  rcases ite_sp h with ⟨-, h⟩ | ⟨-, h⟩
  · obtain ⟨p3, hp3, h⟩ := bind_sp h
    refine frm.tr (frm.rf _) (frm.tr (frm.mo (fr_X7_twice q hp3) (by simp) (by simp)) ?_)
    exact fr_X9_perform_n_92 q _ _ _ h
  rcases ite_sp h with ⟨-, h⟩ | ⟨-, h⟩
  · obtain ⟨p4, hp4, h⟩ := bind_sp h
    refine frm.tr (frm.rf _) (frm.tr (frm.mo (fr_X7_halve q hp4) (by simp) (by simp)) ?_)
    exact fr_X9_perform_n_92 q _ _ _ h
  obtain ⟨p5, hp5, h⟩ := bind_sp h
  refine frm.tr (frm.rf _) (frm.tr (frm.mo (fr_X7_empty q hp5) (by simp) (by simp)) ?_)
  exact fr_X9_perform_n_92 q _ _ _ h
theorem fr_X9_perform_n_6 (q : Nat) (x2 : Int32) (x3 : Int32) (x5 : Int32) (σ : St) {r : St} (h : f_X9_perform_n_6 q x2 x3 x5 σ = some r) : frm [q + 1, q + 3] [(q, 7), (q, 8), (q, 9), (q, 10), (q, 11), (q, 12)] σ r := by
  unfold f_X9_perform_n_6 at h
  exact fr_X9_perform_n_12 q _ _ _ _ _ h
theorem fr_X9_perform_n (q : Nat) {x2 : Int32} {x3 : Int32} {σ : St} {r : St} (h : f_X9_perform_n q x2 x3 σ = some r) : frm [q + 1, q + 3] [(q, 7), (q, 8), (q, 9), (q, 10), (q, 11), (q, 12)] σ r := by
  unfold f_X9_perform_n at h
  exact fr_X9_perform_n_6 q _ _ _ _ h
theorem fr_X9_perform_e_92 (q : Nat) (x5 : Int32) (x6 : Int32) (σ : St) {r : St} (h : f_X9_perform_e_92 q x5 x6 σ = some r) : frm [q + 1, q + 3] [(q, 6), (q, 7), (q, 8), (q, 9), (q, 10), (q, 11), (q, 12)] σ r := by
  unfold f_X9_perform_e_92 at h
  cases h
  exact (frm_sIf (frm.rf _) (by simp))
theorem fr_X9_perform_e_12 (q : Nat) (x2 : Int32) (x3 : Int32) (x5 : Int32) (x6 : Int32) (σ : St) {r : St} (h : f_X9_perform_e_12 q x2 x3 x5 x6 σ = some r) : frm [q + 1, q + 3] [(q, 6), (q, 7), (q, 8), (q, 9), (q, 10), (q, 11), (q, 12)] σ r := by
  unfold f_X9_perform_e_12 at h
  rcases ite_sp h with ⟨-, h⟩ | ⟨-, h⟩
  · obtain ⟨p1, hp1, h⟩ := bind_sp h
    refine frm.tr (frm.rf _) (frm.tr (frm.mo (fr_X7_bring_e q hp1) (by simp) (by simp)) ?_)
    exact fr_X9_perform_e_92 q _ _ _ h
  rcases ite_sp h with ⟨-, h⟩ | ⟨-, h⟩
  · obtain ⟨p2, hp2, h⟩ := bind_sp h
    refine frm.tr (frm.rf _) (frm.tr (frm.mo (fr_X7_bring_e q hp2) (by simp) (by simp)) ?_)
    exact fr_X9_perform_e_92 q _ _ _ h
  rcases ite_sp h with ⟨-, h⟩ | ⟨-, h⟩
  · obtain ⟨p3, hp3, h⟩ := bind_sp h
    refine frm.tr (frm.rf _) (frm.tr (frm.mo (fr_X7_twice q hp3) (by simp) (by simp)) ?_)
    exact fr_X9_perform_e_92 q _ _ _ h
  rcases ite_sp h with ⟨-, h⟩ | ⟨-, h⟩
  · obtain ⟨p4, hp4, h⟩ := bind_sp h
    refine frm.tr (frm.rf _) (frm.tr (frm.mo (fr_X7_halve q hp4) (by simp) (by simp)) ?_)
    exact fr_X9_perform_e_92 q _ _ _ h
  obtain ⟨p5, hp5, h⟩ := bind_sp h
  refine frm.tr (frm.rf _) (frm.tr (frm.mo (fr_X7_empty q hp5) (by simp) (by simp)) ?_)
  exact fr_X9_perform_e_92 q _ _ _ h
theorem fr_X9_perform_e_6 (q : Nat) (x2 : Int32) (x3 : Int32) (x5 : Int32) (σ : St) {r : St} (h : f_X9_perform_e_6 q x2 x3 x5 σ = some r) : frm [q + 1, q + 3] [(q, 6), (q, 7), (q, 8), (q, 9), (q, 10), (q, 11), (q, 12)] σ r := by
  unfold f_X9_perform_e_6 at h
  exact fr_X9_perform_e_12 q _ _ _ _ _ h
theorem fr_X9_perform_e (q : Nat) {x2 : Int32} {x3 : Int32} {σ : St} {r : St} (h : f_X9_perform_e q x2 x3 σ = some r) : frm [q + 1, q + 3] [(q, 6), (q, 7), (q, 8), (q, 9), (q, 10), (q, 11), (q, 12)] σ r := by
  unfold f_X9_perform_e at h
  exact fr_X9_perform_e_6 q _ _ _ _ h
theorem fr_X9_actOnce {x1 : Int32} {x2 : Int32} {σ : St} {r : Int32 × St} (h : f_X9_actOnce x1 x2 σ = some r) : frm [2, 4, 10] [(0, 13), (1, 6), (1, 7), (1, 8), (1, 9), (1, 10), (1, 11), (1, 12), (9, 1), (9, 2)] σ r.2 := by
  unfold f_X9_actOnce at h
  obtain ⟨p1, hp1, h⟩ := bind_sp h
  refine frm.tr (frm.rf _) (frm.tr (frm.mo (fr_X2_keep 1 hp1) (by decide) (by decide)) ?_)
  obtain ⟨p2, hp2, h⟩ := bind_sp h
  refine frm.tr (frm.rf _) (frm.tr (frm.mo (fr_X9_perform_e 1 hp2) (by decide) (by decide)) ?_)
  cases h
  exact (frm_sIf (frm.rf _) (by simp))
theorem fr_X9_add_19 (x1 : Int32) (y0 : Int32) (σ : St) {r : Int32 × St} (h : f_X9_add_19 x1 y0 σ = some r) : frm [2, 4, 10] [(0, 13), (1, 6), (1, 7), (1, 8), (1, 9), (1, 10), (1, 11), (1, 12), (9, 1), (9, 2)] σ r.2 := by
  unfold f_X9_add_19 at h
  obtain ⟨p2, hp2, h⟩ := bind_sp h
  refine frm.tr (frm.rf _) (frm.tr (frm.mo (fr_X9_actOnce hp2) (by decide) (by decide)) ?_)
  cases h
  exact (frm.rf _)
theorem fr_X9_add {x1 : Int32} {x2 : Int32} {σ : St} {r : Int32 × St} (h : f_X9_add x1 x2 σ = some r) : frm [2, 4, 10] [(0, 13), (1, 6), (1, 7), (1, 8), (1, 9), (1, 10), (1, 11), (1, 12), (9, 1), (9, 2)] σ r.2 := by
  unfold f_X9_add at h
  obtain ⟨p1, hp1, h⟩ := bind_sp h
  refine frm.tr (frm.rf _) (frm.tr (frm.mo (fr_X9_isNumber hp1) (by decide) (by decide)) ?_)
  rcases ite_sp h with ⟨-, h⟩ | ⟨-, h⟩
  · cases h
    exact (frm.rf _)
  · rcases ite_sp h with ⟨-, h⟩ | ⟨-, h⟩
    · exact fr_X9_add_19 _ _ _ h
    · exact fr_X9_add_19 _ _ _ h
theorem fr_X9_act_10 (σ : St) {r : Int32 × St} (h : f_X9_act_10 σ = some r) : frm [2, 4, 10] [(0, 13), (1, 6), (1, 7), (1, 8), (1, 9), (1, 10), (1, 11), (1, 12), (9, 1), (9, 2)] σ r.2 := by
  unfold f_X9_act_10 at h
  cases h
  exact (frm.rf _)
theorem fr_X9_act {x1 : Int32} {σ : St} {r : Int32 × St} (h : f_X9_act x1 σ = some r) : frm [2, 4, 10] [(0, 13), (1, 6), (1, 7), (1, 8), (1, 9), (1, 10), (1, 11), (1, 12), (9, 1), (9, 2)] σ r.2 := by
  unfold f_X9_act at h
  rcases ite_sp h with ⟨-, h⟩ | ⟨-, h⟩
  · exact fr_X9_act_10 _ h
  · rcases ite_sp h with ⟨-, h⟩ | ⟨-, h⟩
    · obtain ⟨p1, hp1, h⟩ := bind_sp h
      refine frm.tr (frm.rf _) (frm.tr (frm.mo (fr_X9_actOnce hp1) (by decide) (by decide)) ?_)
      cases h
      exact (frm.rf _)
    · exact fr_X9_act_10 _ h
theorem fr_X9_undo {σ : St} {r : Int32 × St} (h : f_X9_undo σ = some r) : frm [2] [(0, 13), (1, 6), (1, 7), (1, 8), (1, 9), (1, 10), (1, 11), (1, 12), (9, 1), (9, 2)] σ r.2 := by
  unfold f_X9_undo at h
  obtain ⟨p1, hp1, h⟩ := bind_sp h
  refine frm.tr (frm.rf _) (frm.tr (frm.mo (fr_X2_takeBack 1 hp1) (by decide) (by decide)) ?_)
  rcases ite_sp h with ⟨-, h⟩ | ⟨-, h⟩
  · cases h
    exact (frm.rf _)
  · cases h
    exact (frm_sIf (frm.rf _) (by simp))
theorem fr_X9_rope_80 (y0 : Int32) (σ : St) {r : Int32 × St} (h : f_X9_rope_80 y0 σ = some r) : frm [] [] σ r.2 := by
  unfold f_X9_rope_80 at h
  cases h
  exact (frm.rf _)
theorem fr_X9_rope {x1 : Int32} {x2 : Int32} {σ : St} {r : Int32 × St} (h : f_X9_rope x1 x2 σ = some r) : frm [] [] σ r.2 := by
  unfold f_X9_rope at h
  obtain ⟨p1, hp1, h⟩ := bind_sp h
  refine frm.tr (frm.rf _) (frm.tr (frm.mo (fr_X9_isRope hp1) (by decide) (by decide)) ?_)
  rcases ite_sp h with ⟨-, h⟩ | ⟨-, h⟩
  · cases h
    exact (frm.rf _)
  · rcases ite_sp h with ⟨-, h⟩ | ⟨-, h⟩
    · obtain ⟨-, h⟩ := gd_some h
      cases h
      exact (frm.rf _)
    rcases ite_sp h with ⟨-, h⟩ | ⟨-, h⟩
    · obtain ⟨-, h⟩ := gd_some h
      cases h
      exact (frm.rf _)
    rcases ite_sp h with ⟨-, h⟩ | ⟨-, h⟩
    · obtain ⟨p2, hp2, h⟩ := bind_sp h
      refine frm.tr (frm.rf _) (frm.tr (frm.mo (fr_X7_isFoggy 1 hp2) (by decide) (by decide)) ?_)
      rcases ite_sp h with ⟨-, h⟩ | ⟨-, h⟩
      · obtain ⟨p3, hp3, h⟩ := bind_sp h
        refine frm.tr (frm.rf _) (frm.tr (frm.mo (fr_X7_seen 1 hp3) (by decide) (by decide)) ?_)
        exact fr_X9_rope_80 _ _ h
      · exact fr_X9_rope_80 _ _ h
    cases h
    exact (frm.rf _)
theorem fr_X9_number {σ : St} {r : Int64 × St} (h : f_X9_number σ = some r) : frm [] [] σ r.2 := by
  unfold f_X9_number at h
  obtain ⟨p1, hp1, h⟩ := bind_sp h
  refine frm.tr (frm.rf _) (frm.tr (frm.mo (fr_X7_value 1 hp1) (by decide) (by decide)) ?_)
  cases h
  exact (frm.rf _)
theorem fr_X9_told {x1 : Int32} {σ : St} {r : Int32 × St} (h : f_X9_told x1 σ = some r) : frm [] [] σ r.2 := by
  unfold f_X9_told at h
  rcases ite_sp h with ⟨-, h⟩ | ⟨-, h⟩
  · cases h
    exact (frm.rf _)
  rcases ite_sp h with ⟨-, h⟩ | ⟨-, h⟩
  · cases h
    exact (frm.rf _)
  rcases ite_sp h with ⟨-, h⟩ | ⟨-, h⟩
  · cases h
    exact (frm.rf _)
  rcases ite_sp h with ⟨-, h⟩ | ⟨-, h⟩
  · cases h
    exact (frm.rf _)
  rcases ite_sp h with ⟨-, h⟩ | ⟨-, h⟩
  · cases h
    exact (frm.rf _)
  rcases ite_sp h with ⟨-, h⟩ | ⟨-, h⟩
  · cases h
    exact (frm.rf _)
  rcases ite_sp h with ⟨-, h⟩ | ⟨-, h⟩
  · cases h
    exact (frm.rf _)
  cases h
  exact (frm.rf _)
theorem fr_X9_done_20 (σ : St) {r : Int32 × St} (h : f_X9_done_20 σ = some r) : frm [22, 23, 24, 25, 26] [(21, 5), (21, 6), (21, 7), (21, 8), (21, 9), (21, 10)] σ r.2 := by
  unfold f_X9_done_20 at h
  cases h
  exact (frm.rf _)
theorem fr_X9_done_77 (y0 : Int32) (σ : St) {r : Int32 × St} (h : f_X9_done_77 y0 σ = some r) : frm [22, 23, 24, 25, 26] [(21, 5), (21, 6), (21, 7), (21, 8), (21, 9), (21, 10)] σ r.2 := by
  unfold f_X9_done_77 at h
  cases h
  exact (frm.rf _)
theorem fr_X9_done_22 (x1 : Int32) (x2 : Int32) (σ : St) {r : Int32 × St} (h : f_X9_done_22 x1 x2 σ = some r) : frm [22, 23, 24, 25, 26] [(21, 5), (21, 6), (21, 7), (21, 8), (21, 9), (21, 10)] σ r.2 := by
  unfold f_X9_done_22 at h
  obtain ⟨p2, hp2, h⟩ := bind_sp h
  refine frm.tr (frm.rf _) (frm.tr (frm.mo (fr_X6_plan 1 hp2) (by decide) (by decide)) ?_)
  rcases ite_sp h with ⟨-, h⟩ | ⟨-, h⟩
  · obtain ⟨p3, hp3, h⟩ := bind_sp h
    refine frm.tr (frm.rf _) (frm.tr (frm.mo (fr_X6_lastRest hp3) (by decide) (by decide)) ?_)
    exact fr_X9_done_77 _ _ h
  · obtain ⟨-, h⟩ := gd_some h
    exact fr_X9_done_77 _ _ h
theorem fr_X9_done {x1 : Int32} {x2 : Int32} {σ : St} {r : Int32 × St} (h : f_X9_done x1 x2 σ = some r) : frm [22, 23, 24, 25, 26] [(21, 5), (21, 6), (21, 7), (21, 8), (21, 9), (21, 10)] σ r.2 := by
  unfold f_X9_done at h
  obtain ⟨p1, hp1, h⟩ := bind_sp h
  refine frm.tr (frm.rf _) (frm.tr (frm.mo (fr_X9_isNumber hp1) (by decide) (by decide)) ?_)
  rcases ite_sp h with ⟨-, h⟩ | ⟨-, h⟩
  · exact fr_X9_done_20 _ h
  · rcases ite_sp h with ⟨-, h⟩ | ⟨-, h⟩
    · exact fr_X9_done_22 _ _ _ h
    · obtain ⟨p4, hp4, h⟩ := bind_sp h
      refine frm.tr (frm.rf _) (frm.tr (frm.mo (fr_X9_isRope hp4) (by decide) (by decide)) ?_)
      rcases ite_sp h with ⟨-, h⟩ | ⟨-, h⟩
      · exact fr_X9_done_20 _ h
      · exact fr_X9_done_22 _ _ _ h
theorem fr_X9_standing_26 (σ : St) {r : Int32 × St} (h : f_X9_standing_26 σ = some r) : frm [22, 23, 24, 25, 26] [(21, 5), (21, 6), (21, 7), (21, 8), (21, 9), (21, 10)] σ r.2 := by
  unfold f_X9_standing_26 at h
  cases h
  exact (frm.rf _)
theorem fr_X9_standing {x1 : Int32} {x2 : Int32} {x3 : Int32} {σ : St} {r : Int32 × St} (h : f_X9_standing x1 x2 x3 σ = some r) : frm [22, 23, 24, 25, 26] [(21, 5), (21, 6), (21, 7), (21, 8), (21, 9), (21, 10)] σ r.2 := by
  unfold f_X9_standing at h
  obtain ⟨p1, hp1, h⟩ := bind_sp h
  refine frm.tr (frm.rf _) (frm.tr (frm.mo (fr_X9_isNumber hp1) (by decide) (by decide)) ?_)
  rcases ite_sp h with ⟨-, h⟩ | ⟨-, h⟩
  · exact fr_X9_standing_26 _ h
  · obtain ⟨p2, hp2, h⟩ := bind_sp h
    refine frm.tr (frm.rf _) (frm.tr (frm.mo (fr_X9_isRope hp2) (by decide) (by decide)) ?_)
    rcases ite_sp h with ⟨-, h⟩ | ⟨-, h⟩
    · exact fr_X9_standing_26 _ h
    · rcases ite_sp h with ⟨-, h⟩ | ⟨-, h⟩
      · exact fr_X9_standing_26 _ h
      · rcases ite_sp h with ⟨-, h⟩ | ⟨-, h⟩
        · obtain ⟨p3, hp3, h⟩ := bind_sp h
          refine frm.tr (frm.rf _) (frm.tr (frm.mo (fr_X6_plan 1 hp3) (by decide) (by decide)) ?_)
          obtain ⟨-, h⟩ := gd_some h
          obtain ⟨p4, hp4, h⟩ := bind_sp h
          refine frm.tr (frm.rf _) (frm.tr (frm.mo (fr_X6_digitAt hp4) (by decide) (by decide)) ?_)
          cases h
          exact (frm.rf _)
        · exact fr_X9_standing_26 _ h
theorem fr_X9_withBit_19 (y0 : Int32) (σ : St) {r : Int32 × St} (h : f_X9_withBit_19 y0 σ = some r) : frm [] [] σ r.2 := by
  unfold f_X9_withBit_19 at h
  cases h
  exact (frm.rf _)
theorem fr_X9_withBit {x0 : Int32} {x1 : Int32} {x2 : Int32} {σ : St} {r : Int32 × St} (h : f_X9_withBit x0 x1 x2 σ = some r) : frm [] [] σ r.2 := by
  unfold f_X9_withBit at h
  rcases ite_sp h with ⟨-, h⟩ | ⟨-, h⟩
  · exact fr_X9_withBit_19 _ _ h
  · exact fr_X9_withBit_19 _ _ h
theorem fr_X9_two {x1 : Int32} {x2 : Int32} {σ : St} {r : Int32 × St} (h : f_X9_two x1 x2 σ = some r) : frm [] [(1, 4)] σ r.2 := by
  unfold f_X9_two at h
  obtain ⟨p1, hp1, h⟩ := bind_sp h
  refine frm.tr (frm.rf _) (frm.tr (frm.mo (fr_X9_isRope hp1) (by decide) (by decide)) ?_)
  rcases ite_sp h with ⟨-, h⟩ | ⟨-, h⟩
  · cases h
    exact (frm.rf _)
  · obtain ⟨p2, hp2, h⟩ := bind_sp h
    refine frm.tr (frm.rf _) (frm.tr (frm.mo (fr_X9_withBit hp2) (by decide) (by decide)) ?_)
    cases h
    exact (frm_sIf (frm.rf _) (by simp))
theorem fr_J6_bitCount_0f7a4_48 (x0 : Int32) (σ : St) {r : Int32 × St} (h : f_J6_bitCount_0f7a4_48 x0 σ = some r) : frm [] [] σ r.2 := by
  unfold f_J6_bitCount_0f7a4_48 at h
  cases h
  exact (frm.rf _)
theorem fr_J6_bitCount_0f7a4_41 (x0 : Int32) (σ : St) {r : Int32 × St} (h : f_J6_bitCount_0f7a4_41 x0 σ = some r) : frm [] [] σ r.2 := by
  unfold f_J6_bitCount_0f7a4_41 at h
  exact fr_J6_bitCount_0f7a4_48 _ _ h
theorem fr_J6_bitCount_0f7a4_34 (x0 : Int32) (σ : St) {r : Int32 × St} (h : f_J6_bitCount_0f7a4_34 x0 σ = some r) : frm [] [] σ r.2 := by
  unfold f_J6_bitCount_0f7a4_34 at h
  exact fr_J6_bitCount_0f7a4_41 _ _ h
theorem fr_J6_bitCount_0f7a4_24 (x0 : Int32) (σ : St) {r : Int32 × St} (h : f_J6_bitCount_0f7a4_24 x0 σ = some r) : frm [] [] σ r.2 := by
  unfold f_J6_bitCount_0f7a4_24 at h
  exact fr_J6_bitCount_0f7a4_34 _ _ h
theorem fr_J6_bitCount_0f7a4_10 (x0 : Int32) (σ : St) {r : Int32 × St} (h : f_J6_bitCount_0f7a4_10 x0 σ = some r) : frm [] [] σ r.2 := by
  unfold f_J6_bitCount_0f7a4_10 at h
  exact fr_J6_bitCount_0f7a4_24 _ _ h
theorem fr_J6_bitCount_0f7a4 {x0 : Int32} {σ : St} {r : Int32 × St} (h : f_J6_bitCount_0f7a4 x0 σ = some r) : frm [] [] σ r.2 := by
  unfold f_J6_bitCount_0f7a4 at h
  exact fr_J6_bitCount_0f7a4_10 _ _ h
theorem fr_X9_fog_35 (x1 : Int32) (x2 : Int32) (σ : St) {r : Int32 × St} (h : f_X9_fog_35 x1 x2 σ = some r) : frm [] [(1, 5)] σ r.2 := by
  unfold f_X9_fog_35 at h
  obtain ⟨p2, hp2, h⟩ := bind_sp h
  refine frm.tr (frm.rf _) (frm.tr (frm.mo (fr_X9_withBit hp2) (by decide) (by decide)) ?_)
  cases h
  exact (frm_sIf (frm.rf _) (by simp))
theorem fr_X9_fog {x1 : Int32} {x2 : Int32} {σ : St} {r : Int32 × St} (h : f_X9_fog x1 x2 σ = some r) : frm [] [(1, 5)] σ r.2 := by
  unfold f_X9_fog at h
  obtain ⟨p1, hp1, h⟩ := bind_sp h
  refine frm.tr (frm.rf _) (frm.tr (frm.mo (fr_X9_isRope hp1) (by decide) (by decide)) ?_)
  rcases ite_sp h with ⟨-, h⟩ | ⟨-, h⟩
  · cases h
    exact (frm.rf _)
  · rcases ite_sp h with ⟨-, h⟩ | ⟨-, h⟩
    · exact fr_X9_fog_35 _ _ _ h
    · obtain ⟨p3, hp3, h⟩ := bind_sp h
      refine frm.tr (frm.rf _) (frm.tr (frm.mo (fr_X9_withBit hp3) (by decide) (by decide)) ?_)
      obtain ⟨p4, hp4, h⟩ := bind_sp h
      refine frm.tr (frm.rf _) (frm.tr (frm.mo (fr_J6_bitCount_0f7a4 hp4) (by decide) (by decide)) ?_)
      rcases ite_sp h with ⟨-, h⟩ | ⟨-, h⟩
      · exact fr_X9_fog_35 _ _ _ h
      · cases h
        exact (frm.rf _)
theorem fr_X9_isBell_16 (y0 : Int32) (σ : St) {r : Int32 × St} (h : f_X9_isBell_16 y0 σ = some r) : frm [] [] σ r.2 := by
  unfold f_X9_isBell_16 at h
  obtain ⟨-, h⟩ := gd_some h
  cases h
  exact (frm.rf _)
theorem fr_X9_isBell_15 (σ : St) {r : Int32 × St} (h : f_X9_isBell_15 σ = some r) : frm [] [] σ r.2 := by
  unfold f_X9_isBell_15 at h
  exact fr_X9_isBell_16 _ _ h
theorem fr_X9_isBell {x0 : Int32} {σ : St} {r : Int32 × St} (h : f_X9_isBell x0 σ = some r) : frm [] [] σ r.2 := by
  unfold f_X9_isBell at h
  rcases ite_sp h with ⟨-, h⟩ | ⟨-, h⟩
  · exact fr_X9_isBell_15 _ h
  · rcases ite_sp h with ⟨-, h⟩ | ⟨-, h⟩
    · exact fr_X9_isBell_15 _ h
    · exact fr_X9_isBell_16 _ _ h
theorem fr_X9_bell {x1 : Int32} {σ : St} {r : Int32 × St} (h : f_X9_bell x1 σ = some r) : frm [] [] σ r.2 := by
  unfold f_X9_bell at h
  obtain ⟨p1, hp1, h⟩ := bind_sp h
  refine frm.tr (frm.rf _) (frm.tr (frm.mo (fr_X9_isBell hp1) (by decide) (by decide)) ?_)
  rcases ite_sp h with ⟨-, h⟩ | ⟨-, h⟩
  · cases h
    exact (frm.rf _)
  · rcases ite_sp h with ⟨-, h⟩ | ⟨-, h⟩
    · obtain ⟨p2, hp2, h⟩ := bind_sp h
      refine frm.tr (frm.rf _) (frm.tr (frm.mo (fr_X7_valueSeen 1 hp2) (by decide) (by decide)) ?_)
      obtain ⟨-, h⟩ := gd_some h
      cases h
      exact (frm.rf _)
    · cases h
      exact (frm.rf _)
theorem fr_X9_isRest_25 (y0 : Int32) (σ : St) {r : Int32 × St} (h : f_X9_isRest_25 y0 σ = some r) : frm [] [] σ r.2 := by
  unfold f_X9_isRest_25 at h
  obtain ⟨-, h⟩ := gd_some h
  cases h
  exact (frm.rf _)
theorem fr_X9_isRest_24 (σ : St) {r : Int32 × St} (h : f_X9_isRest_24 σ = some r) : frm [] [] σ r.2 := by
  unfold f_X9_isRest_24 at h
  exact fr_X9_isRest_25 _ _ h
theorem fr_X9_isRest {x0 : Int32} {x1 : Int32} {σ : St} {r : Int32 × St} (h : f_X9_isRest x0 x1 σ = some r) : frm [] [] σ r.2 := by
  unfold f_X9_isRest at h
  rcases ite_sp h with ⟨-, h⟩ | ⟨-, h⟩
  · exact fr_X9_isRest_24 _ h
  · rcases ite_sp h with ⟨-, h⟩ | ⟨-, h⟩
    · exact fr_X9_isRest_24 _ h
    · rcases ite_sp h with ⟨-, h⟩ | ⟨-, h⟩
      · exact fr_X9_isRest_24 _ h
      · rcases ite_sp h with ⟨-, h⟩ | ⟨-, h⟩
        · exact fr_X9_isRest_24 _ h
        · exact fr_X9_isRest_25 _ _ h
theorem fr_X9_astray_13 (σ : St) {r : Int32 × St} (h : f_X9_astray_13 σ = some r) : frm [] [] σ r.2 := by
  unfold f_X9_astray_13 at h
  cases h
  exact (frm.rf _)
theorem fr_X9_astray_164 (y0 : Int32) (σ : St) {r : Int32 × St} (h : f_X9_astray_164 y0 σ = some r) : frm [] [] σ r.2 := by
  unfold f_X9_astray_164 at h
  cases h
  exact (frm.rf _)
theorem fr_X9_astray_141 (k43 : Int32 → Int32 → Int32 → Int64 → Int32 → Int32 → St → Option (Int32 × St)) (k80 : Int32 → Int32 → Int32 → Int64 → Int32 → Int32 → Int64 → Int32 → St → Option (Int32 × St)) (hk43 : ∀ (x1 : Int32) (x2 : Int32) (x3 : Int32) (x4 : Int64) (x6 : Int32) (x7 : Int32) (σ : St) {r : Int32 × St}, k43 x1 x2 x3 x4 x6 x7 σ = some r → frm [] [] σ r.2) (hk80 : ∀ (x1 : Int32) (x2 : Int32) (x3 : Int32) (x4 : Int64) (x6 : Int32) (x7 : Int32) (x8 : Int64) (x10 : Int32) (σ : St) {r : Int32 × St}, k80 x1 x2 x3 x4 x6 x7 x8 x10 σ = some r → frm [] [] σ r.2) (x1 : Int32) (x2 : Int32) (x3 : Int32) (x4 : Int64) (x6 : Int32) (x7 : Int32) (x8 : Int64) (x10 : Int32) (σ : St) {r : Int32 × St} (h : f_X9_astray_141 k43 k80 x1 x2 x3 x4 x6 x7 x8 x10 σ = some r) : frm [] [] σ r.2 := by
  unfold f_X9_astray_141 at h
  exact hk80 _ _ _ _ _ _ _ _ _ h
theorem fr_X9_astray_80 (k43 : Int32 → Int32 → Int32 → Int64 → Int32 → Int32 → St → Option (Int32 × St)) (hk43 : ∀ (x1 : Int32) (x2 : Int32) (x3 : Int32) (x4 : Int64) (x6 : Int32) (x7 : Int32) (σ : St) {r : Int32 × St}, k43 x1 x2 x3 x4 x6 x7 σ = some r → frm [] [] σ r.2) : ∀ (n : Nat) (x1 : Int32) (x2 : Int32) (x3 : Int32) (x4 : Int64) (x6 : Int32) (x7 : Int32) (x8 : Int64) (x10 : Int32) (σ : St) {r : Int32 × St}, f_X9_astray_80 k43 n x1 x2 x3 x4 x6 x7 x8 x10 σ = some r → frm [] [] σ r.2 := by
  intro n
  induction n with
  | zero =>
    intro x1 x2 x3 x4 x6 x7 x8 x10 σ r h
    cases h
  | succ n ih =>
    intro x1 x2 x3 x4 x6 x7 x8 x10 σ r h
    simp only [f_X9_astray_80] at h
    rcases ite_sp h with ⟨-, h⟩ | ⟨-, h⟩
    · exact hk43 _ _ _ _ _ _ _ h
    · obtain ⟨p4, hp4, h⟩ := bind_sp h
      refine frm.tr (frm.rf _) (frm.tr (frm.mo (fr_X7_seen 1 hp4) (by decide) (by decide)) ?_)
      rcases ite_sp h with ⟨-, h⟩ | ⟨-, h⟩
      · exact fr_X9_astray_141 _ _ hk43 ih _ _ _ _ _ _ _ _ _ h
      · obtain ⟨-, h⟩ := gd_some h
        obtain ⟨-, h⟩ := gd_some h
        rcases ite_sp h with ⟨-, h⟩ | ⟨-, h⟩
        · rcases ite_sp h with ⟨-, h⟩ | ⟨-, h⟩
          · cases h
            exact (frm.rf _)
          · exact fr_X9_astray_141 _ _ hk43 ih _ _ _ _ _ _ _ _ _ h
        · exact fr_X9_astray_141 _ _ hk43 ih _ _ _ _ _ _ _ _ _ h
theorem fr_X9_astray_77 (k43 : Int32 → Int32 → Int32 → Int64 → Int32 → Int32 → St → Option (Int32 × St)) (hk43 : ∀ (x1 : Int32) (x2 : Int32) (x3 : Int32) (x4 : Int64) (x6 : Int32) (x7 : Int32) (σ : St) {r : Int32 × St}, k43 x1 x2 x3 x4 x6 x7 σ = some r → frm [] [] σ r.2) (x1 : Int32) (x2 : Int32) (x3 : Int32) (x4 : Int64) (x6 : Int32) (x7 : Int32) (x8 : Int64) (σ : St) {r : Int32 × St} (h : f_X9_astray_77 k43 x1 x2 x3 x4 x6 x7 x8 σ = some r) : frm [] [] σ r.2 := by
  unfold f_X9_astray_77 at h
  exact fr_X9_astray_80 _ hk43 FU _ _ _ _ _ _ _ _ _ h
theorem fr_X9_astray_43 : ∀ (n : Nat) (x1 : Int32) (x2 : Int32) (x3 : Int32) (x4 : Int64) (x6 : Int32) (x7 : Int32) (σ : St) {r : Int32 × St}, f_X9_astray_43 n x1 x2 x3 x4 x6 x7 σ = some r → frm [] [] σ r.2 := by
  intro n
  induction n with
  | zero =>
    intro x1 x2 x3 x4 x6 x7 σ r h
    cases h
  | succ n ih =>
    intro x1 x2 x3 x4 x6 x7 σ r h
    simp only [f_X9_astray_43] at h
    rcases ite_sp h with ⟨-, h⟩ | ⟨-, h⟩
    · rcases ite_sp h with ⟨-, h⟩ | ⟨-, h⟩
      · exact fr_X9_astray_164 _ _ h
      · exact fr_X9_astray_164 _ _ h
    · obtain ⟨p3, hp3, h⟩ := bind_sp h
      refine frm.tr (frm.rf _) (frm.tr (frm.mo (fr_X7_seen 1 hp3) (by decide) (by decide)) ?_)
      obtain ⟨-, h⟩ := gd_some h
      exact fr_X9_astray_77 _ ih _ _ _ _ _ _ _ _ h
theorem fr_X9_astray {x1 : Int32} {x2 : Int32} {x3 : Int32} {σ : St} {r : Int32 × St} (h : f_X9_astray x1 x2 x3 σ = some r) : frm [] [] σ r.2 := by
  unfold f_X9_astray at h
  obtain ⟨p1, hp1, h⟩ := bind_sp h
  refine frm.tr (frm.rf _) (frm.tr (frm.mo (fr_X9_isRest hp1) (by decide) (by decide)) ?_)
  rcases ite_sp h with ⟨-, h⟩ | ⟨-, h⟩
  · exact fr_X9_astray_13 _ h
  · rcases ite_sp h with ⟨-, h⟩ | ⟨-, h⟩
    · rcases ite_sp h with ⟨-, h⟩ | ⟨-, h⟩
      · obtain ⟨p2, hp2, h⟩ := bind_sp h
        refine frm.tr (frm.rf _) (frm.tr (frm.mo (fr_X7_valueSeen 1 hp2) (by decide) (by decide)) ?_)
        exact fr_X9_astray_43 FU _ _ _ _ _ _ _ h
      · cases h
        exact (frm.rf _)
    · exact fr_X9_astray_13 _ h
theorem fr_X9_harvest_19 (σ : St) {r : Int32 × St} (h : f_X9_harvest_19 σ = some r) : frm [20] [(19, 1)] σ r.2 := by
  unfold f_X9_harvest_19 at h
  cases h
  exact (frm.rf _)
theorem fr_X9_harvest {x1 : Int32} {σ : St} {r : Int32 × St} (h : f_X9_harvest x1 σ = some r) : frm [20] [(19, 1)] σ r.2 := by
  unfold f_X9_harvest at h
  obtain ⟨p1, hp1, h⟩ := bind_sp h
  refine frm.tr (frm.rf _) (frm.tr (frm.mo (fr_X9_isNumber hp1) (by decide) (by decide)) ?_)
  rcases ite_sp h with ⟨-, h⟩ | ⟨-, h⟩
  · exact fr_X9_harvest_19 _ h
  · rcases ite_sp h with ⟨-, h⟩ | ⟨-, h⟩
    · obtain ⟨p2, hp2, h⟩ := bind_sp h
      refine frm.tr (frm.rf _) (frm.tr (frm.mo (fr_X3_bringIn hp2) (by decide) (by decide)) ?_)
      cases h
      exact (frm.rf _)
    · exact fr_X9_harvest_19 _ h
theorem fr_X9_added_89 (y0 : Int32) (σ : St) {r : Int32 × St} (h : f_X9_added_89 y0 σ = some r) : frm [] [] σ r.2 := by
  unfold f_X9_added_89 at h
  cases h
  exact (frm.rf _)
theorem fr_X9_added_72 (k34 : Int32 → Int64 → Int32 → Int32 → St → Option (Int32 × St)) (hk34 : ∀ (x1 : Int32) (x2 : Int64) (x4 : Int32) (x5 : Int32) (σ : St) {r : Int32 × St}, k34 x1 x2 x4 x5 σ = some r → frm [] [] σ r.2) (x1 : Int32) (x2 : Int64) (x4 : Int32) (x5 : Int32) (σ : St) {r : Int32 × St} (h : f_X9_added_72 k34 x1 x2 x4 x5 σ = some r) : frm [] [] σ r.2 := by
  unfold f_X9_added_72 at h
  exact hk34 _ _ _ _ _ h
theorem fr_X9_added_34 : ∀ (n : Nat) (x1 : Int32) (x2 : Int64) (x4 : Int32) (x5 : Int32) (σ : St) {r : Int32 × St}, f_X9_added_34 n x1 x2 x4 x5 σ = some r → frm [] [] σ r.2 := by
  intro n
  induction n with
  | zero =>
    intro x1 x2 x4 x5 σ r h
    cases h
  | succ n ih =>
    intro x1 x2 x4 x5 σ r h
    simp only [f_X9_added_34] at h
    obtain ⟨p2, hp2, h⟩ := bind_sp h
    refine frm.tr (frm.rf _) (frm.tr (frm.mo (fr_X3_sets hp2) (by decide) (by decide)) ?_)
    rcases ite_sp h with ⟨-, h⟩ | ⟨-, h⟩
    · rcases ite_sp h with ⟨-, h⟩ | ⟨-, h⟩
      · exact fr_X9_added_89 _ _ h
      · exact fr_X9_added_89 _ _ h
    · obtain ⟨p3, hp3, h⟩ := bind_sp h
      refine frm.tr (frm.rf _) (frm.tr (frm.mo (fr_X3_sumOf hp3) (by decide) (by decide)) ?_)
      rcases ite_sp h with ⟨-, h⟩ | ⟨-, h⟩
      · rcases ite_sp h with ⟨-, h⟩ | ⟨-, h⟩
        · cases h
          exact (frm.rf _)
        · exact fr_X9_added_72 _ ih _ _ _ _ _ h
      · exact fr_X9_added_72 _ ih _ _ _ _ _ h
theorem fr_X9_added {x1 : Int32} {σ : St} {r : Int32 × St} (h : f_X9_added x1 σ = some r) : frm [] [] σ r.2 := by
  unfold f_X9_added at h
  rcases ite_sp h with ⟨-, h⟩ | ⟨-, h⟩
  · rcases ite_sp h with ⟨-, h⟩ | ⟨-, h⟩
    · obtain ⟨p1, hp1, h⟩ := bind_sp h
      refine frm.tr (frm.rf _) (frm.tr (frm.mo (fr_X7_valueSeen 1 hp1) (by decide) (by decide)) ?_)
      exact fr_X9_added_34 FU _ _ _ _ _ h
    · cases h
      exact (frm.rf _)
  · cases h
    exact (frm.rf _)
theorem fr_X9_near_134 (k26 : Int64 → Int32 → Int32 → St → Option (Int32 × St)) (k54 : Int64 → Int32 → Int32 → Int64 → Int32 → St → Option (Int32 × St)) (hk26 : ∀ (x1 : Int64) (x3 : Int32) (x4 : Int32) (σ : St) {r : Int32 × St}, k26 x1 x3 x4 σ = some r → frm [] [] σ r.2) (hk54 : ∀ (x1 : Int64) (x3 : Int32) (x4 : Int32) (x5 : Int64) (x7 : Int32) (σ : St) {r : Int32 × St}, k54 x1 x3 x4 x5 x7 σ = some r → frm [] [] σ r.2) (x1 : Int64) (x3 : Int32) (x4 : Int32) (x5 : Int64) (x7 : Int32) (σ : St) {r : Int32 × St} (h : f_X9_near_134 k26 k54 x1 x3 x4 x5 x7 σ = some r) : frm [] [] σ r.2 := by
  unfold f_X9_near_134 at h
  exact hk54 _ _ _ _ _ _ h
theorem fr_X9_near_101 (k26 : Int64 → Int32 → Int32 → St → Option (Int32 × St)) (k54 : Int64 → Int32 → Int32 → Int64 → Int32 → St → Option (Int32 × St)) (hk26 : ∀ (x1 : Int64) (x3 : Int32) (x4 : Int32) (σ : St) {r : Int32 × St}, k26 x1 x3 x4 σ = some r → frm [] [] σ r.2) (hk54 : ∀ (x1 : Int64) (x3 : Int32) (x4 : Int32) (x5 : Int64) (x7 : Int32) (σ : St) {r : Int32 × St}, k54 x1 x3 x4 x5 x7 σ = some r → frm [] [] σ r.2) (x1 : Int64) (x3 : Int32) (x4 : Int32) (x5 : Int64) (x7 : Int32) (σ : St) {r : Int32 × St} (h : f_X9_near_101 k26 k54 x1 x3 x4 x5 x7 σ = some r) : frm [] [] σ r.2 := by
  unfold f_X9_near_101 at h
  obtain ⟨-, h⟩ := gd_some h
  rcases ite_sp h with ⟨-, h⟩ | ⟨-, h⟩
  · obtain ⟨p4, hp4, h⟩ := bind_sp h
    refine frm.tr (frm.rf _) (frm.tr (frm.mo (fr_X7_seen 1 hp4) (by decide) (by decide)) ?_)
    obtain ⟨p5, hp5, h⟩ := bind_sp h
    refine frm.tr (frm.rf _) (frm.tr (frm.mo (fr_X9_isDigit hp5) (by decide) (by decide)) ?_)
    rcases ite_sp h with ⟨-, h⟩ | ⟨-, h⟩
    · exact fr_X9_near_134 _ _ hk26 hk54 _ _ _ _ _ _ h
    · exact fr_X9_near_134 _ _ hk26 hk54 _ _ _ _ _ _ h
  · exact fr_X9_near_134 _ _ hk26 hk54 _ _ _ _ _ _ h
theorem fr_X9_near_54 (k26 : Int64 → Int32 → Int32 → St → Option (Int32 × St)) (hk26 : ∀ (x1 : Int64) (x3 : Int32) (x4 : Int32) (σ : St) {r : Int32 × St}, k26 x1 x3 x4 σ = some r → frm [] [] σ r.2) : ∀ (n : Nat) (x1 : Int64) (x3 : Int32) (x4 : Int32) (x5 : Int64) (x7 : Int32) (σ : St) {r : Int32 × St}, f_X9_near_54 k26 n x1 x3 x4 x5 x7 σ = some r → frm [] [] σ r.2 := by
  intro n
  induction n with
  | zero =>
    intro x1 x3 x4 x5 x7 σ r h
    cases h
  | succ n ih =>
    intro x1 x3 x4 x5 x7 σ r h
    simp only [f_X9_near_54] at h
    rcases ite_sp h with ⟨-, h⟩ | ⟨-, h⟩
    · exact hk26 _ _ _ _ h
    · obtain ⟨-, h⟩ := gd_some h
      rcases ite_sp h with ⟨-, h⟩ | ⟨-, h⟩
      · obtain ⟨p6, hp6, h⟩ := bind_sp h
        refine frm.tr (frm.rf _) (frm.tr (frm.mo (fr_X7_seen 1 hp6) (by decide) (by decide)) ?_)
        obtain ⟨p7, hp7, h⟩ := bind_sp h
        refine frm.tr (frm.rf _) (frm.tr (frm.mo (fr_X9_isDigit hp7) (by decide) (by decide)) ?_)
        rcases ite_sp h with ⟨-, h⟩ | ⟨-, h⟩
        · exact fr_X9_near_101 _ _ hk26 ih _ _ _ _ _ _ h
        · exact fr_X9_near_134 _ _ hk26 ih _ _ _ _ _ _ h
      · exact fr_X9_near_101 _ _ hk26 ih _ _ _ _ _ _ h
theorem fr_X9_near_51 (k26 : Int64 → Int32 → Int32 → St → Option (Int32 × St)) (hk26 : ∀ (x1 : Int64) (x3 : Int32) (x4 : Int32) (σ : St) {r : Int32 × St}, k26 x1 x3 x4 σ = some r → frm [] [] σ r.2) (x1 : Int64) (x3 : Int32) (x4 : Int32) (x5 : Int64) (σ : St) {r : Int32 × St} (h : f_X9_near_51 k26 x1 x3 x4 x5 σ = some r) : frm [] [] σ r.2 := by
  unfold f_X9_near_51 at h
  exact fr_X9_near_54 _ hk26 FU _ _ _ _ _ _ h
theorem fr_X9_near_26 : ∀ (n : Nat) (x1 : Int64) (x3 : Int32) (x4 : Int32) (σ : St) {r : Int32 × St}, f_X9_near_26 n x1 x3 x4 σ = some r → frm [] [] σ r.2 := by
  intro n
  induction n with
  | zero =>
    intro x1 x3 x4 σ r h
    cases h
  | succ n ih =>
    intro x1 x3 x4 σ r h
    simp only [f_X9_near_26] at h
    obtain ⟨p2, hp2, h⟩ := bind_sp h
    refine frm.tr (frm.rf _) (frm.tr (frm.mo (fr_X3_sets hp2) (by decide) (by decide)) ?_)
    rcases ite_sp h with ⟨-, h⟩ | ⟨-, h⟩
    · cases h
      exact (frm.rf _)
    · obtain ⟨p3, hp3, h⟩ := bind_sp h
      refine frm.tr (frm.rf _) (frm.tr (frm.mo (fr_X3_sumOf hp3) (by decide) (by decide)) ?_)
      exact fr_X9_near_51 _ ih _ _ _ _ _ h
theorem fr_X9_near {σ : St} {r : Int32 × St} (h : f_X9_near σ = some r) : frm [] [] σ r.2 := by
  unfold f_X9_near at h
  rcases ite_sp h with ⟨-, h⟩ | ⟨-, h⟩
  · obtain ⟨p1, hp1, h⟩ := bind_sp h
    refine frm.tr (frm.rf _) (frm.tr (frm.mo (fr_X7_valueSeen 1 hp1) (by decide) (by decide)) ?_)
    exact fr_X9_near_26 FU _ _ _ _ h
  · cases h
    exact (frm.rf _)
theorem fr_X9_as_14 (σ : St) {r : Int32 × St} (h : f_X9_as_14 σ = some r) : frm [] [] σ r.2 := by
  unfold f_X9_as_14 at h
  cases h
  exact (frm.rf _)
theorem fr_X9_as {x1 : Int32} {x2 : Int32} {σ : St} {r : Int32 × St} (h : f_X9_as x1 x2 σ = some r) : frm [] [] σ r.2 := by
  unfold f_X9_as at h
  obtain ⟨p1, hp1, h⟩ := bind_sp h
  refine frm.tr (frm.rf _) (frm.tr (frm.mo (fr_X9_isNumber hp1) (by decide) (by decide)) ?_)
  rcases ite_sp h with ⟨-, h⟩ | ⟨-, h⟩
  · exact fr_X9_as_14 _ h
  · obtain ⟨p2, hp2, h⟩ := bind_sp h
    refine frm.tr (frm.rf _) (frm.tr (frm.mo (fr_X9_isNumber hp2) (by decide) (by decide)) ?_)
    rcases ite_sp h with ⟨-, h⟩ | ⟨-, h⟩
    · exact fr_X9_as_14 _ h
    · obtain ⟨p3, hp3, h⟩ := bind_sp h
      refine frm.tr (frm.rf _) (frm.tr (frm.mo (fr_X1_likely hp3) (by decide) (by decide)) ?_)
      cases h
      exact (frm.rf _)
theorem fr_X9_guess_62 (k16 : Int32 → Int32 → Int64 → Int32 → St → Option (Int32 × St)) (hk16 : ∀ (x1 : Int32) (x2 : Int32) (x3 : Int64) (x5 : Int32) (σ : St) {r : Int32 × St}, k16 x1 x2 x3 x5 σ = some r → frm [] [] σ r.2) (x1 : Int32) (x2 : Int32) (x3 : Int64) (x5 : Int32) (σ : St) {r : Int32 × St} (h : f_X9_guess_62 k16 x1 x2 x3 x5 σ = some r) : frm [] [] σ r.2 := by
  unfold f_X9_guess_62 at h
  exact hk16 _ _ _ _ _ h
theorem fr_X9_guess_16 : ∀ (n : Nat) (x1 : Int32) (x2 : Int32) (x3 : Int64) (x5 : Int32) (σ : St) {r : Int32 × St}, f_X9_guess_16 n x1 x2 x3 x5 σ = some r → frm [] [] σ r.2 := by
  intro n
  induction n with
  | zero =>
    intro x1 x2 x3 x5 σ r h
    cases h
  | succ n ih =>
    intro x1 x2 x3 x5 σ r h
    simp only [f_X9_guess_16] at h
    rcases ite_sp h with ⟨-, h⟩ | ⟨-, h⟩
    · cases h
      exact (frm.rf _)
    · obtain ⟨-, h⟩ := gd_some h
      obtain ⟨p2, hp2, h⟩ := bind_sp h
      refine frm.tr (frm.rf _) (frm.tr (frm.mo (fr_X1_likely hp2) (by decide) (by decide)) ?_)
      rcases ite_sp h with ⟨-, h⟩ | ⟨-, h⟩
      · exact fr_X9_guess_62 _ ih _ _ _ _ _ h
      · exact fr_X9_guess_62 _ ih _ _ _ _ _ h
theorem fr_X9_guess {x1 : Int32} {σ : St} {r : Int32 × St} (h : f_X9_guess x1 σ = some r) : frm [] [] σ r.2 := by
  unfold f_X9_guess at h
  obtain ⟨p1, hp1, h⟩ := bind_sp h
  refine frm.tr (frm.rf _) (frm.tr (frm.mo (fr_X9_isNumber hp1) (by decide) (by decide)) ?_)
  rcases ite_sp h with ⟨-, h⟩ | ⟨-, h⟩
  · cases h
    exact (frm.rf _)
  · exact fr_X9_guess_16 FU _ _ _ _ _ h
theorem fr_X9_confused_95 (k4 : Int32 → Int32 → St → Option (Int32 × St)) (k19 : Int32 → Int32 → Int32 → St → Option (Int32 × St)) (hk4 : ∀ (x1 : Int32) (x2 : Int32) (σ : St) {r : Int32 × St}, k4 x1 x2 σ = some r → frm [] [] σ r.2) (hk19 : ∀ (x1 : Int32) (x2 : Int32) (x3 : Int32) (σ : St) {r : Int32 × St}, k19 x1 x2 x3 σ = some r → frm [] [] σ r.2) (x1 : Int32) (x2 : Int32) (x3 : Int32) (σ : St) {r : Int32 × St} (h : f_X9_confused_95 k4 k19 x1 x2 x3 σ = some r) : frm [] [] σ r.2 := by
  unfold f_X9_confused_95 at h
  exact hk19 _ _ _ _ h
theorem fr_X9_confused_92 (k4 : Int32 → Int32 → St → Option (Int32 × St)) (k19 : Int32 → Int32 → Int32 → St → Option (Int32 × St)) (hk4 : ∀ (x1 : Int32) (x2 : Int32) (σ : St) {r : Int32 × St}, k4 x1 x2 σ = some r → frm [] [] σ r.2) (hk19 : ∀ (x1 : Int32) (x2 : Int32) (x3 : Int32) (σ : St) {r : Int32 × St}, k19 x1 x2 x3 σ = some r → frm [] [] σ r.2) (x1 : Int32) (x2 : Int32) (x3 : Int32) (σ : St) {r : Int32 × St} (h : f_X9_confused_92 k4 k19 x1 x2 x3 σ = some r) : frm [] [] σ r.2 := by
  unfold f_X9_confused_92 at h
  exact fr_X9_confused_95 _ _ hk4 hk19 _ _ _ _ h
theorem fr_X9_confused_19 (k4 : Int32 → Int32 → St → Option (Int32 × St)) (hk4 : ∀ (x1 : Int32) (x2 : Int32) (σ : St) {r : Int32 × St}, k4 x1 x2 σ = some r → frm [] [] σ r.2) : ∀ (n : Nat) (x1 : Int32) (x2 : Int32) (x3 : Int32) (σ : St) {r : Int32 × St}, f_X9_confused_19 k4 n x1 x2 x3 σ = some r → frm [] [] σ r.2 := by
  intro n
  induction n with
  | zero =>
    intro x1 x2 x3 σ r h
    cases h
  | succ n ih =>
    intro x1 x2 x3 σ r h
    simp only [f_X9_confused_19] at h
    rcases ite_sp h with ⟨-, h⟩ | ⟨-, h⟩
    · exact hk4 _ _ _ h
    · obtain ⟨-, h⟩ := gd_some h
      obtain ⟨-, h⟩ := gd_some h
      obtain ⟨p1, hp1, h⟩ := bind_sp h
      refine frm.tr (frm.rf _) (frm.tr (frm.mo (fr_X1_likely hp1) (by decide) (by decide)) ?_)
      rcases ite_sp h with ⟨-, h⟩ | ⟨-, h⟩
      · exact fr_X9_confused_92 _ _ hk4 ih _ _ _ _ h
      · obtain ⟨-, h⟩ := gd_some h
        obtain ⟨-, h⟩ := gd_some h
        obtain ⟨p2, hp2, h⟩ := bind_sp h
        refine frm.tr (frm.rf _) (frm.tr (frm.mo (fr_X1_likely hp2) (by decide) (by decide)) ?_)
        rcases ite_sp h with ⟨-, h⟩ | ⟨-, h⟩
        · exact fr_X9_confused_95 _ _ hk4 ih _ _ _ _ h
        · exact fr_X9_confused_92 _ _ hk4 ih _ _ _ _ h
theorem fr_X9_confused_4 : ∀ (n : Nat) (x1 : Int32) (x2 : Int32) (σ : St) {r : Int32 × St}, f_X9_confused_4 n x1 x2 σ = some r → frm [] [] σ r.2 := by
  intro n
  induction n with
  | zero =>
    intro x1 x2 σ r h
    cases h
  | succ n ih =>
    intro x1 x2 σ r h
    simp only [f_X9_confused_4] at h
    rcases ite_sp h with ⟨-, h⟩ | ⟨-, h⟩
    · cases h
      exact (frm.rf _)
    · exact fr_X9_confused_19 _ ih FU _ _ _ _ h
theorem fr_X9_confused {σ : St} {r : Int32 × St} (h : f_X9_confused σ = some r) : frm [] [] σ r.2 := by
  unfold f_X9_confused at h
  exact fr_X9_confused_4 FU _ _ _ h
theorem fr_X9_millionths_93 (k22 : Int64 → Int32 → Int64 → Int32 → St → Option (Int32 × St)) (hk22 : ∀ (x2 : Int64) (x4 : Int32) (x5 : Int64) (x7 : Int32) (σ : St) {r : Int32 × St}, k22 x2 x4 x5 x7 σ = some r → frm [] [] σ r.2) (x2 : Int64) (x4 : Int32) (x7 : Int32) (x9 : Int64) (σ : St) {r : Int32 × St} (h : f_X9_millionths_93 k22 x2 x4 x7 x9 σ = some r) : frm [] [] σ r.2 := by
  unfold f_X9_millionths_93 at h
  exact hk22 _ _ _ _ _ h
theorem fr_X9_millionths_77 (k22 : Int64 → Int32 → Int64 → Int32 → St → Option (Int32 × St)) (k38 : Int64 → Int32 → Int64 → Int32 → Int32 → Int64 → Int32 → St → Option (Int32 × St)) (hk22 : ∀ (x2 : Int64) (x4 : Int32) (x5 : Int64) (x7 : Int32) (σ : St) {r : Int32 × St}, k22 x2 x4 x5 x7 σ = some r → frm [] [] σ r.2) (hk38 : ∀ (x2 : Int64) (x4 : Int32) (x5 : Int64) (x7 : Int32) (x8 : Int32) (x9 : Int64) (x11 : Int32) (σ : St) {r : Int32 × St}, k38 x2 x4 x5 x7 x8 x9 x11 σ = some r → frm [] [] σ r.2) (x2 : Int64) (x4 : Int32) (x5 : Int64) (x7 : Int32) (x8 : Int32) (x9 : Int64) (x11 : Int32) (σ : St) {r : Int32 × St} (h : f_X9_millionths_77 k22 k38 x2 x4 x5 x7 x8 x9 x11 σ = some r) : frm [] [] σ r.2 := by
  unfold f_X9_millionths_77 at h
  exact hk38 _ _ _ _ _ _ _ _ h
theorem fr_X9_millionths_64 (k22 : Int64 → Int32 → Int64 → Int32 → St → Option (Int32 × St)) (k38 : Int64 → Int32 → Int64 → Int32 → Int32 → Int64 → Int32 → St → Option (Int32 × St)) (hk22 : ∀ (x2 : Int64) (x4 : Int32) (x5 : Int64) (x7 : Int32) (σ : St) {r : Int32 × St}, k22 x2 x4 x5 x7 σ = some r → frm [] [] σ r.2) (hk38 : ∀ (x2 : Int64) (x4 : Int32) (x5 : Int64) (x7 : Int32) (x8 : Int32) (x9 : Int64) (x11 : Int32) (σ : St) {r : Int32 × St}, k38 x2 x4 x5 x7 x8 x9 x11 σ = some r → frm [] [] σ r.2) (x2 : Int64) (x4 : Int32) (x5 : Int64) (x7 : Int32) (x8 : Int32) (x9 : Int64) (x11 : Int32) (σ : St) {r : Int32 × St} (h : f_X9_millionths_64 k22 k38 x2 x4 x5 x7 x8 x9 x11 σ = some r) : frm [] [] σ r.2 := by
  unfold f_X9_millionths_64 at h
  exact fr_X9_millionths_77 _ _ hk22 hk38 _ _ _ _ _ _ _ _ h
theorem fr_X9_millionths_38 (k22 : Int64 → Int32 → Int64 → Int32 → St → Option (Int32 × St)) (hk22 : ∀ (x2 : Int64) (x4 : Int32) (x5 : Int64) (x7 : Int32) (σ : St) {r : Int32 × St}, k22 x2 x4 x5 x7 σ = some r → frm [] [] σ r.2) : ∀ (n : Nat) (x2 : Int64) (x4 : Int32) (x5 : Int64) (x7 : Int32) (x8 : Int32) (x9 : Int64) (x11 : Int32) (σ : St) {r : Int32 × St}, f_X9_millionths_38 k22 n x2 x4 x5 x7 x8 x9 x11 σ = some r → frm [] [] σ r.2 := by
  intro n
  induction n with
  | zero =>
    intro x2 x4 x5 x7 x8 x9 x11 σ r h
    cases h
  | succ n ih =>
    intro x2 x4 x5 x7 x8 x9 x11 σ r h
    simp only [f_X9_millionths_38] at h
    rcases ite_sp h with ⟨-, h⟩ | ⟨-, h⟩
    · exact fr_X9_millionths_93 _ hk22 _ _ _ _ _ h
    · rcases ite_sp h with ⟨-, h⟩ | ⟨-, h⟩
      · exact fr_X9_millionths_77 _ _ hk22 ih _ _ _ _ _ _ _ _ h
      · exact fr_X9_millionths_64 _ _ hk22 ih _ _ _ _ _ _ _ _ h
theorem fr_X9_millionths_22 : ∀ (n : Nat) (x2 : Int64) (x4 : Int32) (x5 : Int64) (x7 : Int32) (σ : St) {r : Int32 × St}, f_X9_millionths_22 n x2 x4 x5 x7 σ = some r → frm [] [] σ r.2 := by
  intro n
  induction n with
  | zero =>
    intro x2 x4 x5 x7 σ r h
    cases h
  | succ n ih =>
    intro x2 x4 x5 x7 σ r h
    simp only [f_X9_millionths_22] at h
    rcases ite_sp h with ⟨-, h⟩ | ⟨-, h⟩
    · cases h
      exact (frm.rf _)
    · exact fr_X9_millionths_38 _ ih FU _ _ _ _ _ _ _ _ h
theorem fr_X9_millionths_19 (x2 : Int64) (x4 : Int32) (x5 : Int64) (σ : St) {r : Int32 × St} (h : f_X9_millionths_19 x2 x4 x5 σ = some r) : frm [] [] σ r.2 := by
  unfold f_X9_millionths_19 at h
  exact fr_X9_millionths_22 FU _ _ _ _ _ h
theorem fr_X9_millionths_14 (x0 : Int64) (x2 : Int64) (x4 : Int32) (σ : St) {r : Int32 × St} (h : f_X9_millionths_14 x0 x2 x4 σ = some r) : frm [] [] σ r.2 := by
  unfold f_X9_millionths_14 at h
  obtain ⟨-, h⟩ := gd_some h
  exact fr_X9_millionths_19 _ _ _ _ h
theorem fr_X9_millionths {x0 : Int64} {x2 : Int64} {σ : St} {r : Int32 × St} (h : f_X9_millionths x0 x2 σ = some r) : frm [] [] σ r.2 := by
  unfold f_X9_millionths at h
  rcases ite_sp h with ⟨-, h⟩ | ⟨-, h⟩
  · obtain ⟨-, h⟩ := gd_some h
    exact fr_X9_millionths_14 _ _ _ _ h
  · cases h
    exact (frm.rf _)
theorem fr_X9_odds_15 (σ : St) {r : Int32 × St} (h : f_X9_odds_15 σ = some r) : frm [] [] σ r.2 := by
  unfold f_X9_odds_15 at h
  cases h
  exact (frm.rf _)
theorem fr_X9_odds_79 (k44 : Int32 → Int64 → Int64 → Int32 → St → Option (Int32 × St)) (hk44 : ∀ (x1 : Int32) (x2 : Int64) (x4 : Int64) (x6 : Int32) (σ : St) {r : Int32 × St}, k44 x1 x2 x4 x6 σ = some r → frm [] [] σ r.2) (x1 : Int32) (x2 : Int64) (x4 : Int64) (x6 : Int32) (σ : St) {r : Int32 × St} (h : f_X9_odds_79 k44 x1 x2 x4 x6 σ = some r) : frm [] [] σ r.2 := by
  unfold f_X9_odds_79 at h
  exact hk44 _ _ _ _ _ h
theorem fr_X9_odds_44 : ∀ (n : Nat) (x1 : Int32) (x2 : Int64) (x4 : Int64) (x6 : Int32) (σ : St) {r : Int32 × St}, f_X9_odds_44 n x1 x2 x4 x6 σ = some r → frm [] [] σ r.2 := by
  intro n
  induction n with
  | zero =>
    intro x1 x2 x4 x6 σ r h
    cases h
  | succ n ih =>
    intro x1 x2 x4 x6 σ r h
    simp only [f_X9_odds_44] at h
    rcases ite_sp h with ⟨-, h⟩ | ⟨-, h⟩
    · obtain ⟨-, h⟩ := gd_some h
      obtain ⟨p2, hp2, h⟩ := bind_sp h
      refine frm.tr (frm.rf _) (frm.tr (frm.mo (fr_X1_likely hp2) (by decide) (by decide)) ?_)
      obtain ⟨p3, hp3, h⟩ := bind_sp h
      refine frm.tr (frm.rf _) (frm.tr (frm.mo (fr_X9_millionths hp3) (by decide) (by decide)) ?_)
      cases h
      exact (frm.rf _)
    · obtain ⟨-, h⟩ := gd_some h
      obtain ⟨p4, hp4, h⟩ := bind_sp h
      refine frm.tr (frm.rf _) (frm.tr (frm.mo (fr_X1_likely hp4) (by decide) (by decide)) ?_)
      exact fr_X9_odds_79 _ ih _ _ _ _ _ h
theorem fr_X9_odds {x1 : Int32} {σ : St} {r : Int32 × St} (h : f_X9_odds x1 σ = some r) : frm [] [] σ r.2 := by
  unfold f_X9_odds at h
  rcases ite_sp h with ⟨-, h⟩ | ⟨-, h⟩
  · exact fr_X9_odds_15 _ h
  · rcases ite_sp h with ⟨-, h⟩ | ⟨-, h⟩
    · rcases ite_sp h with ⟨-, h⟩ | ⟨-, h⟩
      · obtain ⟨p1, hp1, h⟩ := bind_sp h
        refine frm.tr (frm.rf _) (frm.tr (frm.mo (fr_X7_valueSeen 1 hp1) (by decide) (by decide)) ?_)
        exact fr_X9_odds_44 FU _ _ _ _ _ h
      · cases h
        exact (frm.rf _)
    · exact fr_X9_odds_15 _ h
theorem fr_X9_isFactor_16 (y0 : Int32) (σ : St) {r : Int32 × St} (h : f_X9_isFactor_16 y0 σ = some r) : frm [] [] σ r.2 := by
  unfold f_X9_isFactor_16 at h
  obtain ⟨-, h⟩ := gd_some h
  cases h
  exact (frm.rf _)
theorem fr_X9_isFactor_15 (σ : St) {r : Int32 × St} (h : f_X9_isFactor_15 σ = some r) : frm [] [] σ r.2 := by
  unfold f_X9_isFactor_15 at h
  exact fr_X9_isFactor_16 _ _ h
theorem fr_X9_isFactor {x0 : Int32} {σ : St} {r : Int32 × St} (h : f_X9_isFactor x0 σ = some r) : frm [] [] σ r.2 := by
  unfold f_X9_isFactor at h
  rcases ite_sp h with ⟨-, h⟩ | ⟨-, h⟩
  · exact fr_X9_isFactor_15 _ h
  · rcases ite_sp h with ⟨-, h⟩ | ⟨-, h⟩
    · exact fr_X9_isFactor_15 _ h
    · exact fr_X9_isFactor_16 _ _ h
theorem fr_J6_numberOfLeadingZeros_0f7a4_73 (x0 : Int32) (x1 : Int32) (σ : St) {r : Int32 × St} (h : f_J6_numberOfLeadingZeros_0f7a4_73 x0 x1 σ = some r) : frm [] [] σ r.2 := by
  unfold f_J6_numberOfLeadingZeros_0f7a4_73 at h
  cases h
  exact (frm.rf _)
theorem fr_J6_numberOfLeadingZeros_0f7a4_61 (x0 : Int32) (x1 : Int32) (σ : St) {r : Int32 × St} (h : f_J6_numberOfLeadingZeros_0f7a4_61 x0 x1 σ = some r) : frm [] [] σ r.2 := by
  unfold f_J6_numberOfLeadingZeros_0f7a4_61 at h
  rcases ite_sp h with ⟨-, h⟩ | ⟨-, h⟩
  · exact fr_J6_numberOfLeadingZeros_0f7a4_73 _ _ _ h
  · exact fr_J6_numberOfLeadingZeros_0f7a4_73 _ _ _ h
theorem fr_J6_numberOfLeadingZeros_0f7a4_48 (x0 : Int32) (x1 : Int32) (σ : St) {r : Int32 × St} (h : f_J6_numberOfLeadingZeros_0f7a4_48 x0 x1 σ = some r) : frm [] [] σ r.2 := by
  unfold f_J6_numberOfLeadingZeros_0f7a4_48 at h
  rcases ite_sp h with ⟨-, h⟩ | ⟨-, h⟩
  · exact fr_J6_numberOfLeadingZeros_0f7a4_61 _ _ _ h
  · exact fr_J6_numberOfLeadingZeros_0f7a4_61 _ _ _ h
theorem fr_J6_numberOfLeadingZeros_0f7a4_33 (x0 : Int32) (x1 : Int32) (σ : St) {r : Int32 × St} (h : f_J6_numberOfLeadingZeros_0f7a4_33 x0 x1 σ = some r) : frm [] [] σ r.2 := by
  unfold f_J6_numberOfLeadingZeros_0f7a4_33 at h
  rcases ite_sp h with ⟨-, h⟩ | ⟨-, h⟩
  · exact fr_J6_numberOfLeadingZeros_0f7a4_48 _ _ _ h
  · exact fr_J6_numberOfLeadingZeros_0f7a4_48 _ _ _ h
theorem fr_J6_numberOfLeadingZeros_0f7a4_14 (y0 : Int32) (σ : St) {r : Int32 × St} (h : f_J6_numberOfLeadingZeros_0f7a4_14 y0 σ = some r) : frm [] [] σ r.2 := by
  unfold f_J6_numberOfLeadingZeros_0f7a4_14 at h
  cases h
  exact (frm.rf _)
theorem fr_J6_numberOfLeadingZeros_0f7a4 {x0 : Int32} {σ : St} {r : Int32 × St} (h : f_J6_numberOfLeadingZeros_0f7a4 x0 σ = some r) : frm [] [] σ r.2 := by
  unfold f_J6_numberOfLeadingZeros_0f7a4 at h
  rcases ite_sp h with ⟨-, h⟩ | ⟨-, h⟩
  · rcases ite_sp h with ⟨-, h⟩ | ⟨-, h⟩
    · exact fr_J6_numberOfLeadingZeros_0f7a4_33 _ _ _ h
    · exact fr_J6_numberOfLeadingZeros_0f7a4_33 _ _ _ h
  · rcases ite_sp h with ⟨-, h⟩ | ⟨-, h⟩
    · exact fr_J6_numberOfLeadingZeros_0f7a4_14 _ _ h
    · exact fr_J6_numberOfLeadingZeros_0f7a4_14 _ _ h
theorem fr_X9_multiplyByBits_49 (k11 : Int32 → Int32 → Int32 → Int32 → St → Option (Int32 × St)) (hk11 : ∀ (x1 : Int32) (x2 : Int32) (x3 : Int32) (x4 : Int32) (σ : St) {r : Int32 × St}, k11 x1 x2 x3 x4 σ = some r → frm [6, 8] [(5, 7), (5, 8), (5, 10), (5, 11)] σ r.2) (x1 : Int32) (x2 : Int32) (x3 : Int32) (x4 : Int32) (σ : St) {r : Int32 × St} (h : f_X9_multiplyByBits_49 k11 x1 x2 x3 x4 σ = some r) : frm [6, 8] [(5, 7), (5, 8), (5, 10), (5, 11)] σ r.2 := by
  unfold f_X9_multiplyByBits_49 at h
  exact hk11 _ _ _ _ _ h
theorem fr_X9_multiplyByBits_11 : ∀ (n : Nat) (x1 : Int32) (x2 : Int32) (x3 : Int32) (x4 : Int32) (σ : St) {r : Int32 × St}, f_X9_multiplyByBits_11 n x1 x2 x3 x4 σ = some r → frm [6, 8] [(5, 7), (5, 8), (5, 10), (5, 11)] σ r.2 := by
  intro n
  induction n with
  | zero =>
    intro x1 x2 x3 x4 σ r h
    cases h
  | succ n ih =>
    intro x1 x2 x3 x4 σ r h
    simp only [f_X9_multiplyByBits_11] at h
    rcases ite_sp h with ⟨-, h⟩ | ⟨-, h⟩
    · cases h
      exact (frm.rf _)
    · obtain ⟨p2, hp2, h⟩ := bind_sp h
      refine frm.tr (frm.rf _) (frm.tr (frm.mo (fr_X7_twice 5 hp2) (by decide) (by decide)) ?_)
      obtain ⟨p3, hp3, h⟩ := bind_sp h
      refine frm.tr (frm.rf _) (frm.tr (frm.mo (fr_X9_hasBit hp3) (by decide) (by decide)) ?_)
      rcases ite_sp h with ⟨-, h⟩ | ⟨-, h⟩
      · exact fr_X9_multiplyByBits_49 _ ih _ _ _ _ _ h
      · obtain ⟨p4, hp4, h⟩ := bind_sp h
        refine frm.tr (frm.rf _) (frm.tr (frm.mo (fr_X7_bring_n 5 hp4) (by decide) (by decide)) ?_)
        exact fr_X9_multiplyByBits_49 _ ih _ _ _ _ _ h
theorem fr_X9_multiplyByBits {x1 : Int32} {x2 : Int32} {σ : St} {r : Int32 × St} (h : f_X9_multiplyByBits x1 x2 σ = some r) : frm [6, 8] [(5, 7), (5, 8), (5, 10), (5, 11)] σ r.2 := by
  unfold f_X9_multiplyByBits at h
  obtain ⟨p1, hp1, h⟩ := bind_sp h
  refine frm.tr (frm.rf _) (frm.tr (frm.mo (fr_J6_numberOfLeadingZeros_0f7a4 hp1) (by decide) (by decide)) ?_)
  exact fr_X9_multiplyByBits_11 FU _ _ _ _ _ h
theorem fr_X9_multiply_100 (k27 : Int32 → Int32 → Int32 → Int32 → Int32 → St → Option (Int32 × St)) (hk27 : ∀ (x1 : Int32) (x2 : Int32) (x3 : Int32) (x4 : Int32) (x5 : Int32) (σ : St) {r : Int32 × St}, k27 x1 x2 x3 x4 x5 σ = some r → frm [6, 7, 8] [(5, 0), (5, 7), (5, 8), (5, 9), (5, 10), (5, 11), (5, 12)] σ r.2) (x1 : Int32) (x2 : Int32) (x3 : Int32) (x4 : Int32) (x5 : Int32) (σ : St) {r : Int32 × St} (h : f_X9_multiply_100 k27 x1 x2 x3 x4 x5 σ = some r) : frm [6, 7, 8] [(5, 0), (5, 7), (5, 8), (5, 9), (5, 10), (5, 11), (5, 12)] σ r.2 := by
  unfold f_X9_multiply_100 at h
  exact hk27 _ _ _ _ _ _ h
