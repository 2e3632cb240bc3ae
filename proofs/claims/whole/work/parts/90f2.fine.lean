/-! finer frames: what an act writes behind keep -/
theorem fs_X10_addOf_107 (k85 : Int32 → Int32 → Int32 → Int32 → St → Option (St)) (hk85 : ∀ (x1 : Int32) (x2 : Int32) (x3 : Int32) (x5 : Int32) (σ : St) {r : St}, k85 x1 x2 x3 x5 σ = some r → frm [46, 47] [(38, 18)] σ r) (x1 : Int32) (x2 : Int32) (x3 : Int32) (x5 : Int32) (y0 : Int32) (σ : St) {r : St} (h : f_X10_addOf_107 k85 x1 x2 x3 x5 y0 σ = some r) : frm [46, 47] [(38, 18)] σ r := by
  unfold f_X10_addOf_107 at h
  obtain ⟨p2, hp2, h⟩ := bind_sp h
  refine frm.tr (frm.rf _) (frm.tr (frm.mo (fr_X10_digitOf hp2) (by decide) (by decide)) ?_)
  obtain ⟨p3, hp3, h⟩ := bind_sp h
  refine frm.tr (frm.rf _) (frm.tr (frm.mo (fr_X10_heard hp3) (by decide) (by decide)) ?_)
  obtain ⟨p4, hp4, h⟩ := bind_sp h
  refine frm.tr (frm.rf _) (frm.tr (frm.mo (fr_X10_drive hp4) (by decide) (by decide)) ?_)
  exact hk85 _ _ _ _ _ h
theorem fs_X10_addOf_85 : ∀ (n : Nat) (x1 : Int32) (x2 : Int32) (x3 : Int32) (x5 : Int32) (σ : St) {r : St}, f_X10_addOf_85 n x1 x2 x3 x5 σ = some r → frm [46, 47] [(38, 18)] σ r := by
  intro n
  induction n with
  | zero =>
    intro x1 x2 x3 x5 σ r h
    cases h
  | succ n ih =>
    intro x1 x2 x3 x5 σ r h
    simp only [f_X10_addOf_85] at h
    rcases ite_sp h with ⟨-, h⟩ | ⟨-, h⟩
    · cases h
      exact (frm_sI (frm.rf _) (by simp))
    · rcases ite_sp h with ⟨-, h⟩ | ⟨-, h⟩
      · exact fs_X10_addOf_107 _ ih _ _ _ _ _ _ h
      · exact fs_X10_addOf_107 _ ih _ _ _ _ _ _ h
theorem fs_X10_addOf_80 (x1 : Int32) (x2 : Int32) (x3 : Int32) (y0 : Int32) (y1 : Int32) (y2 : Int32) (σ : St) {r : St} (h : f_X10_addOf_80 x1 x2 x3 y0 y1 y2 σ = some r) : frm [46, 47] [(38, 18)] σ r := by
  unfold f_X10_addOf_80 at h
  obtain ⟨-, h⟩ := gd_some h
  exact frm.tr (frm_sI (frm.rf _) (by simp)) (fs_X10_addOf_85 FU _ _ _ _ _ h)
theorem fs_X10_addOf_54 (k27 : Int32 → Int32 → Int32 → Int32 → Int32 → St → Option (St)) (hk27 : ∀ (x1 : Int32) (x2 : Int32) (x3 : Int32) (x4 : Int32) (x5 : Int32) (σ : St) {r : St}, k27 x1 x2 x3 x4 x5 σ = some r → frm [46, 47] [(38, 18)] σ r) (x1 : Int32) (x2 : Int32) (x3 : Int32) (x5 : Int32) (y0 : Int32) (σ : St) {r : St} (h : f_X10_addOf_54 k27 x1 x2 x3 x5 y0 σ = some r) : frm [46, 47] [(38, 18)] σ r := by
  unfold f_X10_addOf_54 at h
  exact hk27 _ _ _ _ _ _ h
theorem fs_X10_addOf_49 (k27 : Int32 → Int32 → Int32 → Int32 → Int32 → St → Option (St)) (hk27 : ∀ (x1 : Int32) (x2 : Int32) (x3 : Int32) (x4 : Int32) (x5 : Int32) (σ : St) {r : St}, k27 x1 x2 x3 x4 x5 σ = some r → frm [46, 47] [(38, 18)] σ r) (x1 : Int32) (x2 : Int32) (x3 : Int32) (x5 : Int32) (σ : St) {r : St} (h : f_X10_addOf_49 k27 x1 x2 x3 x5 σ = some r) : frm [46, 47] [(38, 18)] σ r := by
  unfold f_X10_addOf_49 at h
  exact fs_X10_addOf_54 _ hk27 _ _ _ _ _ _ h
theorem fs_X10_addOf_27 : ∀ (n : Nat) (x1 : Int32) (x2 : Int32) (x3 : Int32) (x4 : Int32) (x5 : Int32) (σ : St) {r : St}, f_X10_addOf_27 n x1 x2 x3 x4 x5 σ = some r → frm [46, 47] [(38, 18)] σ r := by
  intro n
  induction n with
  | zero =>
    intro x1 x2 x3 x4 x5 σ r h
    cases h
  | succ n ih =>
    intro x1 x2 x3 x4 x5 σ r h
    simp only [f_X10_addOf_27] at h
    rcases ite_sp h with ⟨-, h⟩ | ⟨-, h⟩
    · rcases ite_sp h with ⟨-, h⟩ | ⟨-, h⟩
      · exact fs_X10_addOf_80 _ _ _ _ _ _ _ h
      · exact fs_X10_addOf_80 _ _ _ _ _ _ _ h
    · rcases ite_sp h with ⟨-, h⟩ | ⟨-, h⟩
      · obtain ⟨p5, hp5, h⟩ := bind_sp h
        refine frm.tr (frm.rf _) (frm.tr (frm.mo (fr_X10_digitOf hp5) (by decide) (by decide)) ?_)
        rcases ite_sp h with ⟨-, h⟩ | ⟨-, h⟩
        · exact fs_X10_addOf_54 _ ih _ _ _ _ _ _ h
        · exact fs_X10_addOf_49 _ ih _ _ _ _ _ h
      · exact fs_X10_addOf_49 _ ih _ _ _ _ _ h
theorem fs_X10_addOf_11 (x1 : Int32) (x2 : Int32) (σ : St) {r : St} (h : f_X10_addOf_11 x1 x2 σ = some r) : frm [46, 47] [(38, 18)] σ r := by
  unfold f_X10_addOf_11 at h
  obtain ⟨p1, hp1, h⟩ := bind_sp h
  refine frm.tr (frm.rf _) (frm.tr (frm.mo (fr_X10_highest hp1) (by decide) (by decide)) ?_)
  exact fs_X10_addOf_27 FU _ _ _ _ _ _ h
theorem fs_X10_actOf_138 (y0 : Int32) (y1 : Int32) (σ : St) {r : St} (h : f_X10_actOf_138 y0 y1 σ = some r) : frm [46, 47, 48] [] σ r := by
  unfold f_X10_actOf_138 at h
  obtain ⟨-, h⟩ := gd_some h
  cases h
  exact (frm_sI (frm_sI (frm.rf _) (by simp)) (by simp))
theorem fs_X10_actOf_110 (k50 : Int32 → Int32 → Int32 → St → Option (St)) (hk50 : ∀ (x1 : Int32) (x2 : Int32) (x3 : Int32) (σ : St) {r : St}, k50 x1 x2 x3 σ = some r → frm [46, 47, 48] [] σ r) (x1 : Int32) (x2 : Int32) (x3 : Int32) (σ : St) {r : St} (h : f_X10_actOf_110 k50 x1 x2 x3 σ = some r) : frm [46, 47, 48] [] σ r := by
  unfold f_X10_actOf_110 at h
  exact hk50 _ _ _ _ h
theorem fs_X10_actOf_101 (k50 : Int32 → Int32 → Int32 → St → Option (St)) (hk50 : ∀ (x1 : Int32) (x2 : Int32) (x3 : Int32) (σ : St) {r : St}, k50 x1 x2 x3 σ = some r → frm [46, 47, 48] [] σ r) (x1 : Int32) (x2 : Int32) (x3 : Int32) (x4 : Int32) (σ : St) {r : St} (h : f_X10_actOf_101 k50 x1 x2 x3 x4 σ = some r) : frm [46, 47, 48] [] σ r := by
  unfold f_X10_actOf_101 at h
  obtain ⟨p1, hp1, h⟩ := bind_sp h
  refine frm.tr (frm.rf _) (frm.tr (frm.mo (fr_X10_become hp1) (by decide) (by decide)) ?_)
  exact fs_X10_actOf_110 _ hk50 _ _ _ _ h
theorem fs_X10_actOf_94 (k50 : Int32 → Int32 → Int32 → St → Option (St)) (hk50 : ∀ (x1 : Int32) (x2 : Int32) (x3 : Int32) (σ : St) {r : St}, k50 x1 x2 x3 σ = some r → frm [46, 47, 48] [] σ r) (x1 : Int32) (x3 : Int32) (y0 : Int32) (σ : St) {r : St} (h : f_X10_actOf_94 k50 x1 x3 y0 σ = some r) : frm [46, 47, 48] [] σ r := by
  unfold f_X10_actOf_94 at h
  exact fs_X10_actOf_101 _ hk50 _ _ _ _ _ h
theorem fs_X10_actOf_50 : ∀ (n : Nat) (x1 : Int32) (x2 : Int32) (x3 : Int32) (σ : St) {r : St}, f_X10_actOf_50 n x1 x2 x3 σ = some r → frm [46, 47, 48] [] σ r := by
  intro n
  induction n with
  | zero =>
    intro x1 x2 x3 σ r h
    cases h
  | succ n ih =>
    intro x1 x2 x3 σ r h
    simp only [f_X10_actOf_50] at h
    rcases ite_sp h with ⟨-, h⟩ | ⟨-, h⟩
    · rcases ite_sp h with ⟨-, h⟩ | ⟨-, h⟩
      · exact fs_X10_actOf_138 _ _ _ h
      · exact fs_X10_actOf_138 _ _ _ h
    · rcases ite_sp h with ⟨-, h⟩ | ⟨-, h⟩
      · obtain ⟨-, h⟩ := gd_some h
        obtain ⟨p2, hp2, h⟩ := bind_sp h
        refine frm.tr (frm.rf _) (frm.tr (frm.mo (fr_X10_drive hp2) (by decide) (by decide)) ?_)
        exact fs_X10_actOf_110 _ ih _ _ _ _ h
      · rcases ite_sp h with ⟨-, h⟩ | ⟨-, h⟩
        · obtain ⟨-, h⟩ := gd_some h
          exact fs_X10_actOf_94 _ ih _ _ _ _ h
        · exact fs_X10_actOf_94 _ ih _ _ _ _ h
theorem fs_X10_actOf_13 : ∀ (n : Nat) (x1 : Int32) (x2 : Int32) (σ : St) {r : St}, f_X10_actOf_13 n x1 x2 σ = some r → frm [46, 47, 48] [] σ r := by
  intro n
  induction n with
  | zero =>
    intro x1 x2 σ r h
    cases h
  | succ n ih =>
    intro x1 x2 σ r h
    simp only [f_X10_actOf_13] at h
    rcases ite_sp h with ⟨-, h⟩ | ⟨-, h⟩
    · exact fs_X10_actOf_50 FU _ _ _ _ h
    · obtain ⟨-, h⟩ := gd_some h
      obtain ⟨-, h⟩ := gd_some h
      exact frm.tr (frm_sI (frm.rf _) (by simp)) (ih _ _ _ h)
theorem fs_X10_actOf_11 (x1 : Int32) (σ : St) {r : St} (h : f_X10_actOf_11 x1 σ = some r) : frm [46, 47, 48] [] σ r := by
  unfold f_X10_actOf_11 at h
  exact fs_X10_actOf_13 FU _ _ _ h
