theorem fr_X9_multiply_60 (k27 : Int32 → Int32 → Int32 → Int32 → Int32 → St → Option (Int32 × St)) (hk27 : ∀ (x1 : Int32) (x2 : Int32) (x3 : Int32) (x4 : Int32) (x5 : Int32) (σ : St) {r : Int32 × St}, k27 x1 x2 x3 x4 x5 σ = some r → frm [6, 7, 8] [(5, 0), (5, 7), (5, 8), (5, 9), (5, 10), (5, 11), (5, 12)] σ r.2) : ∀ (n : Nat) (x1 : Int32) (x2 : Int32) (x3 : Int32) (x4 : Int32) (x5 : Int32) (x6 : Int32) (x7 : Int32) (x8 : Int32) (σ : St) {r : Int32 × St}, f_X9_multiply_60 k27 n x1 x2 x3 x4 x5 x6 x7 x8 σ = some r → frm [6, 7, 8] [(5, 0), (5, 7), (5, 8), (5, 9), (5, 10), (5, 11), (5, 12)] σ r.2 := by
  intro n
  induction n with
  | zero =>
    intro x1 x2 x3 x4 x5 x6 x7 x8 σ r h
    cases h
  | succ n ih =>
    intro x1 x2 x3 x4 x5 x6 x7 x8 σ r h
    simp only [f_X9_multiply_60] at h
    rcases ite_sp h with ⟨-, h⟩ | ⟨-, h⟩
    · exact fr_X9_multiply_100 _ hk27 _ _ _ _ _ _ h
    · obtain ⟨-, h⟩ := gd_some h
      obtain ⟨p3, hp3, h⟩ := bind_sp h
      refine frm.tr (frm.rf _) (frm.tr (frm.mo (fr_X7_bring_n 5 hp3) (by decide) (by decide)) ?_)
      exact ih _ _ _ _ _ _ _ _ _ h
theorem fr_X9_multiply_46 (k27 : Int32 → Int32 → Int32 → Int32 → Int32 → St → Option (Int32 × St)) (hk27 : ∀ (x1 : Int32) (x2 : Int32) (x3 : Int32) (x4 : Int32) (x5 : Int32) (σ : St) {r : Int32 × St}, k27 x1 x2 x3 x4 x5 σ = some r → frm [6, 7, 8] [(5, 0), (5, 7), (5, 8), (5, 9), (5, 10), (5, 11), (5, 12)] σ r.2) (x1 : Int32) (x2 : Int32) (x3 : Int32) (x4 : Int32) (x5 : Int32) (y0 : Int32) (σ : St) {r : Int32 × St} (h : f_X9_multiply_46 k27 x1 x2 x3 x4 x5 y0 σ = some r) : frm [6, 7, 8] [(5, 0), (5, 7), (5, 8), (5, 9), (5, 10), (5, 11), (5, 12)] σ r.2 := by
  unfold f_X9_multiply_46 at h
  obtain ⟨p2, hp2, h⟩ := bind_sp h
  refine frm.tr (frm.rf _) (frm.tr (frm.mo (fr_X9_digitOf hp2) (by decide) (by decide)) ?_)
  exact fr_X9_multiply_60 _ hk27 FU _ _ _ _ _ _ _ _ _ h
theorem fr_X9_multiply_27 : ∀ (n : Nat) (x1 : Int32) (x2 : Int32) (x3 : Int32) (x4 : Int32) (x5 : Int32) (σ : St) {r : Int32 × St}, f_X9_multiply_27 n x1 x2 x3 x4 x5 σ = some r → frm [6, 7, 8] [(5, 0), (5, 7), (5, 8), (5, 9), (5, 10), (5, 11), (5, 12)] σ r.2 := by
  intro n
  induction n with
  | zero =>
    intro x1 x2 x3 x4 x5 σ r h
    cases h
  | succ n ih =>
    intro x1 x2 x3 x4 x5 σ r h
    simp only [f_X9_multiply_27] at h
    rcases ite_sp h with ⟨-, h⟩ | ⟨-, h⟩
    · cases h
      exact (frm.rf _)
    · rcases ite_sp h with ⟨-, h⟩ | ⟨-, h⟩
      · exact fr_X9_multiply_46 _ ih _ _ _ _ _ _ _ h
      · exact fr_X9_multiply_46 _ ih _ _ _ _ _ _ _ h
theorem fr_X9_multiply {x1 : Int32} {x2 : Int32} {x3 : Int32} {σ : St} {r : Int32 × St} (h : f_X9_multiply x1 x2 x3 σ = some r) : frm [6, 7, 8] [(5, 0), (5, 7), (5, 8), (5, 9), (5, 10), (5, 11), (5, 12)] σ r.2 := by
  unfold f_X9_multiply at h
  obtain ⟨p1, hp1, h⟩ := bind_sp h
  refine frm.tr (frm.rf _) (frm.tr (frm.mo (fr_X7_clear 5 hp1) (by decide) (by decide)) ?_)
  rcases ite_sp h with ⟨-, h⟩ | ⟨-, h⟩
  · obtain ⟨p4, hp4, h⟩ := bind_sp h
    refine frm.tr (frm.rf _) (frm.tr (frm.mo (fr_X9_multiplyByBits hp4) (by decide) (by decide)) ?_)
    cases h
    exact (frm.rf _)
  · exact fr_X9_multiply_27 FU _ _ _ _ _ _ h
theorem fr_X9_product_34 (σ : St) {r : Int64 × St} (h : f_X9_product_34 σ = some r) : frm [6, 7, 8] [(5, 0), (5, 7), (5, 8), (5, 9), (5, 10), (5, 11), (5, 12)] σ r.2 := by
  unfold f_X9_product_34 at h
  cases h
  exact (frm.rf _)
theorem fr_X9_product_82 (y0 : Int64) (σ : St) {r : Int64 × St} (h : f_X9_product_82 y0 σ = some r) : frm [6, 7, 8] [(5, 0), (5, 7), (5, 8), (5, 9), (5, 10), (5, 11), (5, 12)] σ r.2 := by
  unfold f_X9_product_82 at h
  cases h
  exact (frm.rf _)
theorem fr_X9_product {x1 : Int32} {x2 : Int32} {x3 : Int32} {x4 : Int32} {σ : St} {r : Int64 × St} (h : f_X9_product x1 x2 x3 x4 σ = some r) : frm [6, 7, 8] [(5, 0), (5, 7), (5, 8), (5, 9), (5, 10), (5, 11), (5, 12)] σ r.2 := by
  unfold f_X9_product at h
  obtain ⟨p1, hp1, h⟩ := bind_sp h
  refine frm.tr (frm.rf _) (frm.tr (frm.mo (fr_X9_isFactor hp1) (by decide) (by decide)) ?_)
  rcases ite_sp h with ⟨-, h⟩ | ⟨-, h⟩
  · exact fr_X9_product_34 _ h
  · obtain ⟨p2, hp2, h⟩ := bind_sp h
    refine frm.tr (frm.rf _) (frm.tr (frm.mo (fr_X9_isFactor hp2) (by decide) (by decide)) ?_)
    rcases ite_sp h with ⟨-, h⟩ | ⟨-, h⟩
    · exact fr_X9_product_34 _ h
    · rcases ite_sp h with ⟨-, h⟩ | ⟨-, h⟩
      · exact fr_X9_product_34 _ h
      · rcases ite_sp h with ⟨-, h⟩ | ⟨-, h⟩
        · exact fr_X9_product_34 _ h
        · rcases ite_sp h with ⟨-, h⟩ | ⟨-, h⟩
          · exact fr_X9_product_34 _ h
          · rcases ite_sp h with ⟨-, h⟩ | ⟨-, h⟩
            · obtain ⟨p3, hp3, h⟩ := bind_sp h
              refine frm.tr (frm.rf _) (frm.tr (frm.mo (fr_X9_multiply hp3) (by decide) (by decide)) ?_)
              rcases ite_sp h with ⟨-, h⟩ | ⟨-, h⟩
              · exact fr_X9_product_82 _ _ h
              · rcases ite_sp h with ⟨-, h⟩ | ⟨-, h⟩
                · exact fr_X9_product_82 _ _ h
                · obtain ⟨p4, hp4, h⟩ := bind_sp h
                  refine frm.tr (frm.rf _) (frm.tr (frm.mo (fr_X7_value 5 hp4) (by decide) (by decide)) ?_)
                  exact fr_X9_product_82 _ _ h
            · exact fr_X9_product_34 _ h
theorem fr_X9_rival_14 (σ : St) {r : Int32 × St} (h : f_X9_rival_14 σ = some r) : frm [6, 7, 8] [(5, 0), (5, 7), (5, 8), (5, 9), (5, 10), (5, 11), (5, 12)] σ r.2 := by
  unfold f_X9_rival_14 at h
  cases h
  exact (frm.rf _)
theorem fr_X9_rival_65 (k26 : Int32 → Int32 → Int32 → Int32 → Int32 → St → Option (Int32 × St)) (hk26 : ∀ (x1 : Int32) (x2 : Int32) (x3 : Int32) (x4 : Int32) (x5 : Int32) (σ : St) {r : Int32 × St}, k26 x1 x2 x3 x4 x5 σ = some r → frm [6, 7, 8] [(5, 0), (5, 7), (5, 8), (5, 9), (5, 10), (5, 11), (5, 12)] σ r.2) (x1 : Int32) (x2 : Int32) (x3 : Int32) (x4 : Int32) (x5 : Int32) (σ : St) {r : Int32 × St} (h : f_X9_rival_65 k26 x1 x2 x3 x4 x5 σ = some r) : frm [6, 7, 8] [(5, 0), (5, 7), (5, 8), (5, 9), (5, 10), (5, 11), (5, 12)] σ r.2 := by
  unfold f_X9_rival_65 at h
  exact hk26 _ _ _ _ _ _ h
theorem fr_X9_rival_62 (k26 : Int32 → Int32 → Int32 → Int32 → Int32 → St → Option (Int32 × St)) (hk26 : ∀ (x1 : Int32) (x2 : Int32) (x3 : Int32) (x4 : Int32) (x5 : Int32) (σ : St) {r : Int32 × St}, k26 x1 x2 x3 x4 x5 σ = some r → frm [6, 7, 8] [(5, 0), (5, 7), (5, 8), (5, 9), (5, 10), (5, 11), (5, 12)] σ r.2) (x1 : Int32) (x2 : Int32) (x4 : Int32) (x5 : Int32) (σ : St) {r : Int32 × St} (h : f_X9_rival_62 k26 x1 x2 x4 x5 σ = some r) : frm [6, 7, 8] [(5, 0), (5, 7), (5, 8), (5, 9), (5, 10), (5, 11), (5, 12)] σ r.2 := by
  unfold f_X9_rival_62 at h
  exact fr_X9_rival_65 _ hk26 _ _ _ _ _ _ h
theorem fr_X9_rival_26 : ∀ (n : Nat) (x1 : Int32) (x2 : Int32) (x3 : Int32) (x4 : Int32) (x5 : Int32) (σ : St) {r : Int32 × St}, f_X9_rival_26 n x1 x2 x3 x4 x5 σ = some r → frm [6, 7, 8] [(5, 0), (5, 7), (5, 8), (5, 9), (5, 10), (5, 11), (5, 12)] σ r.2 := by
  intro n
  induction n with
  | zero =>
    intro x1 x2 x3 x4 x5 σ r h
    cases h
  | succ n ih =>
    intro x1 x2 x3 x4 x5 σ r h
    simp only [f_X9_rival_26] at h
    rcases ite_sp h with ⟨-, h⟩ | ⟨-, h⟩
    · cases h
      exact (frm.rf _)
    · obtain ⟨p3, hp3, h⟩ := bind_sp h
      refine frm.tr (frm.rf _) (frm.tr (frm.mo (fr_X9_multiply hp3) (by decide) (by decide)) ?_)
      rcases ite_sp h with ⟨-, h⟩ | ⟨-, h⟩
      · exact fr_X9_rival_65 _ ih _ _ _ _ _ _ h
      · exact fr_X9_rival_62 _ ih _ _ _ _ _ h
theorem fr_X9_rival {x1 : Int32} {x2 : Int32} {σ : St} {r : Int32 × St} (h : f_X9_rival x1 x2 σ = some r) : frm [6, 7, 8] [(5, 0), (5, 7), (5, 8), (5, 9), (5, 10), (5, 11), (5, 12)] σ r.2 := by
  unfold f_X9_rival at h
  obtain ⟨p1, hp1, h⟩ := bind_sp h
  refine frm.tr (frm.rf _) (frm.tr (frm.mo (fr_X9_isFactor hp1) (by decide) (by decide)) ?_)
  rcases ite_sp h with ⟨-, h⟩ | ⟨-, h⟩
  · exact fr_X9_rival_14 _ h
  · obtain ⟨p2, hp2, h⟩ := bind_sp h
    refine frm.tr (frm.rf _) (frm.tr (frm.mo (fr_X9_isFactor hp2) (by decide) (by decide)) ?_)
    rcases ite_sp h with ⟨-, h⟩ | ⟨-, h⟩
    · exact fr_X9_rival_14 _ h
    · exact fr_X9_rival_26 FU _ _ _ _ _ _ h
theorem fr_X9_make_20 (σ : St) {r : Int32 × St} (h : f_X9_make_20 σ = some r) : frm [] [] σ r.2 := by
  unfold f_X9_make_20 at h
  cases h
  exact (frm.rf _)
theorem fr_X9_make_60 (k27 : Int32 → Int32 → Int32 → Int32 → St → Option (Int32 × St)) (hk27 : ∀ (x1 : Int32) (x2 : Int32) (x3 : Int32) (x4 : Int32) (σ : St) {r : Int32 × St}, k27 x1 x2 x3 x4 σ = some r → frm [] [] σ r.2) (x1 : Int32) (x2 : Int32) (x3 : Int32) (x4 : Int32) (σ : St) {r : Int32 × St} (h : f_X9_make_60 k27 x1 x2 x3 x4 σ = some r) : frm [] [] σ r.2 := by
  unfold f_X9_make_60 at h
  exact hk27 _ _ _ _ _ h
theorem fr_X9_make_58 (k27 : Int32 → Int32 → Int32 → Int32 → St → Option (Int32 × St)) (hk27 : ∀ (x1 : Int32) (x2 : Int32) (x3 : Int32) (x4 : Int32) (σ : St) {r : Int32 × St}, k27 x1 x2 x3 x4 σ = some r → frm [] [] σ r.2) (x1 : Int32) (x2 : Int32) (x4 : Int32) (y0 : Int32) (y1 : Int32) (σ : St) {r : Int32 × St} (h : f_X9_make_58 k27 x1 x2 x4 y0 y1 σ = some r) : frm [] [] σ r.2 := by
  unfold f_X9_make_58 at h
  exact fr_X9_make_60 _ hk27 _ _ _ _ _ h
theorem fr_X9_make_27 : ∀ (n : Nat) (x1 : Int32) (x2 : Int32) (x3 : Int32) (x4 : Int32) (σ : St) {r : Int32 × St}, f_X9_make_27 n x1 x2 x3 x4 σ = some r → frm [] [] σ r.2 := by
  intro n
  induction n with
  | zero =>
    intro x1 x2 x3 x4 σ r h
    cases h
  | succ n ih =>
    intro x1 x2 x3 x4 σ r h
    simp only [f_X9_make_27] at h
    rcases ite_sp h with ⟨-, h⟩ | ⟨-, h⟩
    · cases h
      exact (frm.rf _)
    · obtain ⟨p1, hp1, h⟩ := bind_sp h
      refine frm.tr (frm.rf _) (frm.tr (frm.mo (fr_X9_digitOf hp1) (by decide) (by decide)) ?_)
      rcases ite_sp h with ⟨-, h⟩ | ⟨-, h⟩
      · exact fr_X9_make_58 _ ih _ _ _ _ _ _ h
      · exact fr_X9_make_58 _ ih _ _ _ _ _ _ h
theorem fr_X9_make {x1 : Int32} {x2 : Int32} {σ : St} {r : Int32 × St} (h : f_X9_make x1 x2 σ = some r) : frm [] [] σ r.2 := by
  unfold f_X9_make at h
  rcases ite_sp h with ⟨-, h⟩ | ⟨-, h⟩
  · exact fr_X9_make_20 _ h
  · rcases ite_sp h with ⟨-, h⟩ | ⟨-, h⟩
    · exact fr_X9_make_20 _ h
    · rcases ite_sp h with ⟨-, h⟩ | ⟨-, h⟩
      · exact fr_X9_make_20 _ h
      · rcases ite_sp h with ⟨-, h⟩ | ⟨-, h⟩
        · exact fr_X9_make_27 FU _ _ _ _ _ h
        · exact fr_X9_make_20 _ h
theorem fr_X9_walksByOrder {x1 : Int32} {x2 : Int32} {σ : St} {r : Int32 × St} (h : f_X9_walksByOrder x1 x2 σ = some r) : frm [6, 7, 8] [(5, 0), (5, 7), (5, 8), (5, 9), (5, 10), (5, 11), (5, 12)] σ r.2 := by
  unfold f_X9_walksByOrder at h
  obtain ⟨p1, hp1, h⟩ := bind_sp h
  refine frm.tr (frm.rf _) (frm.tr (frm.mo (fr_X7_beginAs 5 1 hp1) (by decide) (by decide)) ?_)
  obtain ⟨p2, hp2, h⟩ := bind_sp h
  refine frm.tr (frm.rf _) (frm.tr (frm.mo (fr_X7_bring_n 5 hp2) (by decide) (by decide)) ?_)
  cases h
  exact (frm.rf _)
theorem fr_X9_cheaper_29 (y0 : Int32) (σ : St) {r : Int32 × St} (h : f_X9_cheaper_29 y0 σ = some r) : frm [6, 7, 8] [(5, 0), (5, 7), (5, 8), (5, 9), (5, 10), (5, 11), (5, 12)] σ r.2 := by
  unfold f_X9_cheaper_29 at h
  cases h
  exact (frm.rf _)
theorem fr_X9_cheaper {x1 : Int32} {σ : St} {r : Int32 × St} (h : f_X9_cheaper x1 σ = some r) : frm [6, 7, 8] [(5, 0), (5, 7), (5, 8), (5, 9), (5, 10), (5, 11), (5, 12)] σ r.2 := by
  unfold f_X9_cheaper at h
  obtain ⟨p1, hp1, h⟩ := bind_sp h
  refine frm.tr (frm.rf _) (frm.tr (frm.mo (fr_X9_isNumber hp1) (by decide) (by decide)) ?_)
  rcases ite_sp h with ⟨-, h⟩ | ⟨-, h⟩
  · cases h
    exact (frm.rf _)
  · obtain ⟨p2, hp2, h⟩ := bind_sp h
    refine frm.tr (frm.rf _) (frm.tr (frm.mo (fr_X9_walksByOrder hp2) (by decide) (by decide)) ?_)
    obtain ⟨p3, hp3, h⟩ := bind_sp h
    refine frm.tr (frm.rf _) (frm.tr (frm.mo (fr_X9_walksByOrder hp3) (by decide) (by decide)) ?_)
    rcases ite_sp h with ⟨-, h⟩ | ⟨-, h⟩
    · exact fr_X9_cheaper_29 _ _ h
    · exact fr_X9_cheaper_29 _ _ h
theorem fr_X9_kids_17 (σ : St) {r : Int32 × St} (h : f_X9_kids_17 σ = some r) : frm [3] [] σ r.2 := by
  unfold f_X9_kids_17 at h
  cases h
  exact (frm.rf _)
theorem fr_X9_kids_114 (k66 : Int32 → Int32 → Int32 → St → Option (Int32 × St)) (hk66 : ∀ (x1 : Int32) (x2 : Int32) (x3 : Int32) (σ : St) {r : Int32 × St}, k66 x1 x2 x3 σ = some r → frm [3] [] σ r.2) (x1 : Int32) (x2 : Int32) (x3 : Int32) (σ : St) {r : Int32 × St} (h : f_X9_kids_114 k66 x1 x2 x3 σ = some r) : frm [3] [] σ r.2 := by
  unfold f_X9_kids_114 at h
  exact hk66 _ _ _ _ h
theorem fr_X9_kids_100 (k66 : Int32 → Int32 → Int32 → St → Option (Int32 × St)) (hk66 : ∀ (x1 : Int32) (x2 : Int32) (x3 : Int32) (σ : St) {r : Int32 × St}, k66 x1 x2 x3 σ = some r → frm [3] [] σ r.2) (x1 : Int32) (x2 : Int32) (x3 : Int32) (y0 : Int32) (y1 : Int32) (y2 : Int32) (σ : St) {r : Int32 × St} (h : f_X9_kids_100 k66 x1 x2 x3 y0 y1 y2 σ = some r) : frm [3] [] σ r.2 := by
  unfold f_X9_kids_100 at h
  obtain ⟨-, h⟩ := gd_some h
  obtain ⟨-, h⟩ := gd_some h
  exact frm.tr (frm_sI (frm.rf _) (by simp)) (fr_X9_kids_114 _ hk66 _ _ _ _ h)
theorem fr_X9_kids_66 : ∀ (n : Nat) (x1 : Int32) (x2 : Int32) (x3 : Int32) (σ : St) {r : Int32 × St}, f_X9_kids_66 n x1 x2 x3 σ = some r → frm [3] [] σ r.2 := by
  intro n
  induction n with
  | zero =>
    intro x1 x2 x3 σ r h
    cases h
  | succ n ih =>
    intro x1 x2 x3 σ r h
    simp only [f_X9_kids_66] at h
    rcases ite_sp h with ⟨-, h⟩ | ⟨-, h⟩
    · cases h
      exact (frm.rf _)
    · obtain ⟨-, h⟩ := gd_some h
      obtain ⟨p1, hp1, h⟩ := bind_sp h
      refine frm.tr (frm.rf _) (frm.tr (frm.mo (fr_X9_hasBit hp1) (by decide) (by decide)) ?_)
      rcases ite_sp h with ⟨-, h⟩ | ⟨-, h⟩
      · exact fr_X9_kids_100 _ ih _ _ _ _ _ _ _ h
      · exact fr_X9_kids_100 _ ih _ _ _ _ _ _ _ h
theorem fr_X9_kids_56 (k21 : Int32 → Int32 → St → Option (Int32 × St)) (hk21 : ∀ (x1 : Int32) (x2 : Int32) (σ : St) {r : Int32 × St}, k21 x1 x2 σ = some r → frm [3] [] σ r.2) (x1 : Int32) (x2 : Int32) (σ : St) {r : Int32 × St} (h : f_X9_kids_56 k21 x1 x2 σ = some r) : frm [3] [] σ r.2 := by
  unfold f_X9_kids_56 at h
  exact hk21 _ _ _ h
theorem fr_X9_kids_21 : ∀ (n : Nat) (x1 : Int32) (x2 : Int32) (σ : St) {r : Int32 × St}, f_X9_kids_21 n x1 x2 σ = some r → frm [3] [] σ r.2 := by
  intro n
  induction n with
  | zero =>
    intro x1 x2 σ r h
    cases h
  | succ n ih =>
    intro x1 x2 σ r h
    simp only [f_X9_kids_21] at h
    rcases ite_sp h with ⟨-, h⟩ | ⟨-, h⟩
    · exact fr_X9_kids_66 FU _ _ _ _ h
    · obtain ⟨p2, hp2, h⟩ := bind_sp h
      refine frm.tr (frm.rf _) (frm.tr (frm.mo (fr_X9_hasBit hp2) (by decide) (by decide)) ?_)
      rcases ite_sp h with ⟨-, h⟩ | ⟨-, h⟩
      · exact fr_X9_kids_56 _ ih _ _ _ h
      · obtain ⟨-, h⟩ := gd_some h
        rcases ite_sp h with ⟨-, h⟩ | ⟨-, h⟩
        · exact fr_X9_kids_56 _ ih _ _ _ h
        · cases h
          exact (frm.rf _)
theorem fr_X9_kids {x1 : Int32} {σ : St} {r : Int32 × St} (h : f_X9_kids x1 σ = some r) : frm [3] [] σ r.2 := by
  unfold f_X9_kids at h
  rcases ite_sp h with ⟨-, h⟩ | ⟨-, h⟩
  · exact fr_X9_kids_17 _ h
  · rcases ite_sp h with ⟨-, h⟩ | ⟨-, h⟩
    · exact fr_X9_kids_21 FU _ _ _ h
    · exact fr_X9_kids_17 _ h
theorem fr_X9_isPack_16 (y0 : Int32) (σ : St) {r : Int32 × St} (h : f_X9_isPack_16 y0 σ = some r) : frm [] [] σ r.2 := by
  unfold f_X9_isPack_16 at h
  obtain ⟨-, h⟩ := gd_some h
  cases h
  exact (frm.rf _)
theorem fr_X9_isPack_15 (σ : St) {r : Int32 × St} (h : f_X9_isPack_15 σ = some r) : frm [] [] σ r.2 := by
  unfold f_X9_isPack_15 at h
  exact fr_X9_isPack_16 _ _ h
theorem fr_X9_isPack {x0 : Int32} {σ : St} {r : Int32 × St} (h : f_X9_isPack x0 σ = some r) : frm [] [] σ r.2 := by
  unfold f_X9_isPack at h
  rcases ite_sp h with ⟨-, h⟩ | ⟨-, h⟩
  · exact fr_X9_isPack_15 _ h
  · rcases ite_sp h with ⟨-, h⟩ | ⟨-, h⟩
    · exact fr_X9_isPack_15 _ h
    · exact fr_X9_isPack_16 _ _ h
theorem fr_X9_restByRank {x1 : Int32} {x2 : Int32} {x3 : Int32} {σ : St} {r : Int32 × St} (h : f_X9_restByRank x1 x2 x3 σ = some r) : frm [28, 29, 30, 31, 32, 33, 34, 35, 36, 37] [(27, 10), (27, 11), (27, 12), (27, 13), (27, 14)] σ r.2 := by
  unfold f_X9_restByRank at h
  obtain ⟨p1, hp1, h⟩ := bind_sp h
  refine frm.tr (frm.rf _) (frm.tr (frm.mo (fr_X0_setOut 1 hp1) (by decide) (by decide)) ?_)
  obtain ⟨p2, hp2, h⟩ := bind_sp h
  refine frm.tr (frm.rf _) (frm.tr (frm.mo (fr_X0_minuteOfRest hp2) (by decide) (by decide)) ?_)
  cases h
  exact (frm.rf _)
theorem fr_X9_relay_23 (σ : St) {r : Int32 × St} (h : f_X9_relay_23 σ = some r) : frm [28, 29, 30, 31, 32, 33, 34, 35, 36, 37] [(27, 10), (27, 11), (27, 12), (27, 13), (27, 14)] σ r.2 := by
  unfold f_X9_relay_23 at h
  cases h
  exact (frm.rf _)
theorem fr_X9_relay {x1 : Int32} {x2 : Int32} {x3 : Int32} {σ : St} {r : Int32 × St} (h : f_X9_relay x1 x2 x3 σ = some r) : frm [28, 29, 30, 31, 32, 33, 34, 35, 36, 37] [(27, 10), (27, 11), (27, 12), (27, 13), (27, 14)] σ r.2 := by
  unfold f_X9_relay at h
  obtain ⟨p1, hp1, h⟩ := bind_sp h
  refine frm.tr (frm.rf _) (frm.tr (frm.mo (fr_X9_isNumber hp1) (by decide) (by decide)) ?_)
  rcases ite_sp h with ⟨-, h⟩ | ⟨-, h⟩
  · exact fr_X9_relay_23 _ h
  · obtain ⟨p2, hp2, h⟩ := bind_sp h
    refine frm.tr (frm.rf _) (frm.tr (frm.mo (fr_X9_isPack hp2) (by decide) (by decide)) ?_)
    rcases ite_sp h with ⟨-, h⟩ | ⟨-, h⟩
    · exact fr_X9_relay_23 _ h
    · rcases ite_sp h with ⟨-, h⟩ | ⟨-, h⟩
      · exact fr_X9_relay_23 _ h
      · rcases ite_sp h with ⟨-, h⟩ | ⟨-, h⟩
        · obtain ⟨p3, hp3, h⟩ := bind_sp h
          refine frm.tr (frm.rf _) (frm.tr (frm.mo (fr_X9_restByRank hp3) (by decide) (by decide)) ?_)
          cases h
          exact (frm.rf _)
        · exact fr_X9_relay_23 _ h
theorem fr_X9_ranked_14 (σ : St) {r : Int32 × St} (h : f_X9_ranked_14 σ = some r) : frm [28, 29, 30, 31, 32, 33, 34, 35, 36, 37] [(27, 10), (27, 11), (27, 12), (27, 13), (27, 14)] σ r.2 := by
  unfold f_X9_ranked_14 at h
  cases h
  exact (frm.rf _)
theorem fr_X9_ranked_38 (y0 : Int32) (σ : St) {r : Int32 × St} (h : f_X9_ranked_38 y0 σ = some r) : frm [28, 29, 30, 31, 32, 33, 34, 35, 36, 37] [(27, 10), (27, 11), (27, 12), (27, 13), (27, 14)] σ r.2 := by
  unfold f_X9_ranked_38 at h
  cases h
  exact (frm.rf _)
theorem fr_X9_ranked {x1 : Int32} {x2 : Int32} {σ : St} {r : Int32 × St} (h : f_X9_ranked x1 x2 σ = some r) : frm [28, 29, 30, 31, 32, 33, 34, 35, 36, 37] [(27, 10), (27, 11), (27, 12), (27, 13), (27, 14)] σ r.2 := by
  unfold f_X9_ranked at h
  obtain ⟨p1, hp1, h⟩ := bind_sp h
  refine frm.tr (frm.rf _) (frm.tr (frm.mo (fr_X9_isNumber hp1) (by decide) (by decide)) ?_)
  rcases ite_sp h with ⟨-, h⟩ | ⟨-, h⟩
  · exact fr_X9_ranked_14 _ h
  · obtain ⟨p2, hp2, h⟩ := bind_sp h
    refine frm.tr (frm.rf _) (frm.tr (frm.mo (fr_X9_isPack hp2) (by decide) (by decide)) ?_)
    rcases ite_sp h with ⟨-, h⟩ | ⟨-, h⟩
    · exact fr_X9_ranked_14 _ h
    · obtain ⟨p3, hp3, h⟩ := bind_sp h
      refine frm.tr (frm.rf _) (frm.tr (frm.mo (fr_X9_restByRank hp3) (by decide) (by decide)) ?_)
      obtain ⟨p4, hp4, h⟩ := bind_sp h
      refine frm.tr (frm.rf _) (frm.tr (frm.mo (fr_X9_restByRank hp4) (by decide) (by decide)) ?_)
      rcases ite_sp h with ⟨-, h⟩ | ⟨-, h⟩
      · exact fr_X9_ranked_38 _ _ h
      · exact fr_X9_ranked_38 _ _ h
theorem fr_X9_count {x1 : Int32} {σ : St} {r : Int32 × St} (h : f_X9_count x1 σ = some r) : frm [] [] σ r.2 := by
  unfold f_X9_count at h
  rcases ite_sp h with ⟨-, h⟩ | ⟨-, h⟩
  · cases h
    exact (frm.rf _)
  rcases ite_sp h with ⟨-, h⟩ | ⟨-, h⟩
  · cases h
    exact (frm.rf _)
  rcases ite_sp h with ⟨-, h⟩ | ⟨-, h⟩
  · cases h
    exact (frm.rf _)
  rcases ite_sp h with ⟨-, h⟩ | ⟨-, h⟩
  · cases h
    exact (frm.rf _)
  rcases ite_sp h with ⟨-, h⟩ | ⟨-, h⟩
  · cases h
    exact (frm.rf _)
  cases h
  exact (frm.rf _)
theorem fr_X10_in_18 (y0 : Int32) (σ : St) {r : Int32 × St} (h : f_X10_in_18 y0 σ = some r) : frm [] [] σ r.2 := by
  unfold f_X10_in_18 at h
  obtain ⟨-, h⟩ := gd_some h
  cases h
  exact (frm.rf _)
theorem fr_X10_in_17 (σ : St) {r : Int32 × St} (h : f_X10_in_17 σ = some r) : frm [] [] σ r.2 := by
  unfold f_X10_in_17 at h
  exact fr_X10_in_18 _ _ h
theorem fr_X10_in {x0 : Int64} {x2 : Int64} {x4 : Int64} {σ : St} {r : Int32 × St} (h : f_X10_in x0 x2 x4 σ = some r) : frm [] [] σ r.2 := by
  unfold f_X10_in at h
  rcases ite_sp h with ⟨-, h⟩ | ⟨-, h⟩
  · exact fr_X10_in_17 _ h
  · rcases ite_sp h with ⟨-, h⟩ | ⟨-, h⟩
    · exact fr_X10_in_17 _ h
    · exact fr_X10_in_18 _ _ h
theorem fr_X10_has_14 (y0 : Int32) (σ : St) {r : Int32 × St} (h : f_X10_has_14 y0 σ = some r) : frm [] [] σ r.2 := by
  unfold f_X10_has_14 at h
  obtain ⟨-, h⟩ := gd_some h
  cases h
  exact (frm.rf _)
theorem fr_X10_has {x0 : Int32} {x1 : Int32} {σ : St} {r : Int32 × St} (h : f_X10_has x0 x1 σ = some r) : frm [] [] σ r.2 := by
  unfold f_X10_has at h
  rcases ite_sp h with ⟨-, h⟩ | ⟨-, h⟩
  · exact fr_X10_has_14 _ _ h
  · exact fr_X10_has_14 _ _ h
theorem fr_X10_thrown {σ : St} {r : Int32 × St} (h : f_X10_thrown σ = some r) : frm [] [] σ r.2 := by
  unfold f_X10_thrown at h
  cases h
  exact (frm.rf _)
theorem fr_X10_byteOf_45 (x5 : Int32) (y0 : Int32) (σ : St) {r : Int32 × St} (h : f_X10_byteOf_45 x5 y0 σ = some r) : frm [] [] σ r.2 := by
  unfold f_X10_byteOf_45 at h
  cases h
  exact (frm.rf _)
theorem fr_X10_byteOf {x0 : Int32} {x1 : Int32} {x2 : Int32} {x3 : Int32} {x4 : Int32} {x5 : Int32} {σ : St} {r : Int32 × St} (h : f_X10_byteOf x0 x1 x2 x3 x4 x5 σ = some r) : frm [] [] σ r.2 := by
  unfold f_X10_byteOf at h
  rcases ite_sp h with ⟨-, h⟩ | ⟨-, h⟩
  · rcases ite_sp h with ⟨-, h⟩ | ⟨-, h⟩
    · rcases ite_sp h with ⟨-, h⟩ | ⟨-, h⟩
      · rcases ite_sp h with ⟨-, h⟩ | ⟨-, h⟩
        · exact fr_X10_byteOf_45 _ _ _ h
        · exact fr_X10_byteOf_45 _ _ _ h
      · exact fr_X10_byteOf_45 _ _ _ h
    · exact fr_X10_byteOf_45 _ _ _ h
  · exact fr_X10_byteOf_45 _ _ _ h
theorem fr_X10_feed_109 (k62 : Int32 → Int32 → Int32 → Int32 → Int32 → Int32 → St → Option (Int32 × St)) (hk62 : ∀ (x1 : Int32) (x2 : Int32) (x3 : Int32) (x4 : Int32) (x5 : Int32) (x7 : Int32) (σ : St) {r : Int32 × St}, k62 x1 x2 x3 x4 x5 x7 σ = some r → frm [39] [(38, 3)] σ r.2) (x1 : Int32) (x2 : Int32) (x3 : Int32) (x4 : Int32) (x5 : Int32) (x7 : Int32) (σ : St) {r : Int32 × St} (h : f_X10_feed_109 k62 x1 x2 x3 x4 x5 x7 σ = some r) : frm [39] [(38, 3)] σ r.2 := by
  unfold f_X10_feed_109 at h
  exact hk62 _ _ _ _ _ _ _ h
theorem fr_X10_feed_62 : ∀ (n : Nat) (x1 : Int32) (x2 : Int32) (x3 : Int32) (x4 : Int32) (x5 : Int32) (x7 : Int32) (σ : St) {r : Int32 × St}, f_X10_feed_62 n x1 x2 x3 x4 x5 x7 σ = some r → frm [39] [(38, 3)] σ r.2 := by
  intro n
  induction n with
  | zero =>
    intro x1 x2 x3 x4 x5 x7 σ r h
    cases h
  | succ n ih =>
    intro x1 x2 x3 x4 x5 x7 σ r h
    simp only [f_X10_feed_62] at h
    rcases ite_sp h with ⟨-, h⟩ | ⟨-, h⟩
    · cases h
      exact (frm.rf _)
    · obtain ⟨p1, hp1, h⟩ := bind_sp h
      refine frm.tr (frm.rf _) (frm.tr (frm.mo (fr_X10_byteOf hp1) (by decide) (by decide)) ?_)
      rcases ite_sp h with ⟨-, h⟩ | ⟨-, h⟩
      · exact fr_X10_feed_109 _ ih _ _ _ _ _ _ _ h
      · obtain ⟨-, h⟩ := gd_some h
        exact frm.tr (frm_sIf (frm_sI (frm.rf _) (by simp)) (by simp)) (fr_X10_feed_109 _ ih _ _ _ _ _ _ _ h)
theorem fr_X10_feed_38 (k6 : Int32 → Int32 → Int32 → Int32 → Int32 → Int32 → Int32 → St → Option (Int32 × St)) (hk6 : ∀ (x1 : Int32) (x2 : Int32) (x3 : Int32) (x4 : Int32) (x5 : Int32) (x6 : Int32) (x7 : Int32) (σ : St) {r : Int32 × St}, k6 x1 x2 x3 x4 x5 x6 x7 σ = some r → frm [39] [(38, 3)] σ r.2) (x1 : Int32) (x2 : Int32) (x3 : Int32) (x4 : Int32) (x5 : Int32) (x6 : Int32) (x7 : Int32) (σ : St) {r : Int32 × St} (h : f_X10_feed_38 k6 x1 x2 x3 x4 x5 x6 x7 σ = some r) : frm [39] [(38, 3)] σ r.2 := by
  unfold f_X10_feed_38 at h
  exact hk6 _ _ _ _ _ _ _ _ h
theorem fr_X10_feed_35 (k6 : Int32 → Int32 → Int32 → Int32 → Int32 → Int32 → Int32 → St → Option (Int32 × St)) (hk6 : ∀ (x1 : Int32) (x2 : Int32) (x3 : Int32) (x4 : Int32) (x5 : Int32) (x6 : Int32) (x7 : Int32) (σ : St) {r : Int32 × St}, k6 x1 x2 x3 x4 x5 x6 x7 σ = some r → frm [39] [(38, 3)] σ r.2) (x1 : Int32) (x2 : Int32) (x3 : Int32) (x4 : Int32) (x5 : Int32) (x7 : Int32) (y0 : Int32) (y1 : Int32) (σ : St) {r : Int32 × St} (h : f_X10_feed_35 k6 x1 x2 x3 x4 x5 x7 y0 y1 σ = some r) : frm [39] [(38, 3)] σ r.2 := by
  unfold f_X10_feed_35 at h
  exact fr_X10_feed_38 _ hk6 _ _ _ _ _ _ _ _ h
theorem fr_X10_feed_6 : ∀ (n : Nat) (x1 : Int32) (x2 : Int32) (x3 : Int32) (x4 : Int32) (x5 : Int32) (x6 : Int32) (x7 : Int32) (σ : St) {r : Int32 × St}, f_X10_feed_6 n x1 x2 x3 x4 x5 x6 x7 σ = some r → frm [39] [(38, 3)] σ r.2 := by
  intro n
  induction n with
  | zero =>
    intro x1 x2 x3 x4 x5 x6 x7 σ r h
    cases h
  | succ n ih =>
    intro x1 x2 x3 x4 x5 x6 x7 σ r h
    simp only [f_X10_feed_6] at h
    rcases ite_sp h with ⟨-, h⟩ | ⟨-, h⟩
    · rcases ite_sp h with ⟨-, h⟩ | ⟨-, h⟩
      · exact fr_X10_feed_62 FU _ _ _ _ _ _ _ h
      · cases h
        exact (frm.rf _)
    · obtain ⟨p2, hp2, h⟩ := bind_sp h
      refine frm.tr (frm.rf _) (frm.tr (frm.mo (fr_X10_byteOf hp2) (by decide) (by decide)) ?_)
      rcases ite_sp h with ⟨-, h⟩ | ⟨-, h⟩
      · exact fr_X10_feed_35 _ ih _ _ _ _ _ _ _ _ _ h
      · exact fr_X10_feed_35 _ ih _ _ _ _ _ _ _ _ _ h
theorem fr_X10_feed {x1 : Int32} {x2 : Int32} {x3 : Int32} {x4 : Int32} {x5 : Int32} {σ : St} {r : Int32 × St} (h : f_X10_feed x1 x2 x3 x4 x5 σ = some r) : frm [39] [(38, 3)] σ r.2 := by
  unfold f_X10_feed at h
  exact fr_X10_feed_6 FU _ _ _ _ _ _ _ _ h
theorem fr_X10_end_12 (σ : St) {r : Int32 × St} (h : f_X10_end_12 σ = some r) : frm [] [(38, 3)] σ r.2 := by
  unfold f_X10_end_12 at h
  cases h
  exact (frm.rf _)
theorem fr_X10_end {x1 : Int32} {σ : St} {r : Int32 × St} (h : f_X10_end x1 σ = some r) : frm [] [(38, 3)] σ r.2 := by
  unfold f_X10_end at h
  rcases ite_sp h with ⟨-, h⟩ | ⟨-, h⟩
  · exact fr_X10_end_12 _ h
  · rcases ite_sp h with ⟨-, h⟩ | ⟨-, h⟩
    · cases h
      exact (frm_sIf (frm.rf _) (by simp))
    · exact fr_X10_end_12 _ h
theorem fr_X10_here_24 (y0 : Int32) (σ : St) {r : Int32 × St} (h : f_X10_here_24 y0 σ = some r) : frm [] [] σ r.2 := by
  unfold f_X10_here_24 at h
  cases h
  exact (frm.rf _)
theorem fr_X10_here {σ : St} {r : Int32 × St} (h : f_X10_here σ = some r) : frm [] [] σ r.2 := by
  unfold f_X10_here at h
  rcases ite_sp h with ⟨-, h⟩ | ⟨-, h⟩
  · exact fr_X10_here_24 _ _ h
  · obtain ⟨-, h⟩ := gd_some h
    exact fr_X10_here_24 _ _ h
theorem fr_X10_look_0 : ∀ (n : Nat) (σ : St) {r : Int32 × St}, f_X10_look_0 n σ = some r → frm [] [(38, 4)] σ r.2 := by
  intro n
  induction n with
  | zero =>
    intro σ r h
    cases h
  | succ n ih =>
    intro σ r h
    simp only [f_X10_look_0] at h
    obtain ⟨p1, hp1, h⟩ := bind_sp h
    refine frm.tr (frm.rf _) (frm.tr (frm.mo (fr_X10_here hp1) (by decide) (by decide)) ?_)
    rcases ite_sp h with ⟨-, h⟩ | ⟨-, h⟩
    · exact frm.tr (frm_sIf (frm.rf _) (by simp)) (ih _ h)
    · obtain ⟨p2, hp2, h⟩ := bind_sp h
      refine frm.tr (frm.rf _) (frm.tr (frm.mo (fr_X10_here hp2) (by decide) (by decide)) ?_)
      cases h
      exact (frm.rf _)
theorem fr_X10_look {σ : St} {r : Int32 × St} (h : f_X10_look σ = some r) : frm [] [(38, 4)] σ r.2 := by
  unfold f_X10_look at h
  exact fr_X10_look_0 FU _ h
theorem fr_X10_bad_20 (y0 : Int32) (σ : St) {r : St} (h : f_X10_bad_20 y0 σ = some r) : frm [] [(38, 5)] σ r := by
  unfold f_X10_bad_20 at h
  cases h
  exact (frm_sIf (frm.rf _) (by simp))
theorem fr_X10_bad {σ : St} {r : St} (h : f_X10_bad σ = some r) : frm [] [(38, 5)] σ r := by
  unfold f_X10_bad at h
  rcases ite_sp h with ⟨-, h⟩ | ⟨-, h⟩
  · exact fr_X10_bad_20 _ _ h
  · exact fr_X10_bad_20 _ _ h
theorem fr_X10_isDigit_17 (y0 : Int32) (σ : St) {r : Int32 × St} (h : f_X10_isDigit_17 y0 σ = some r) : frm [] [] σ r.2 := by
  unfold f_X10_isDigit_17 at h
  obtain ⟨-, h⟩ := gd_some h
  cases h
  exact (frm.rf _)
theorem fr_X10_isDigit_16 (σ : St) {r : Int32 × St} (h : f_X10_isDigit_16 σ = some r) : frm [] [] σ r.2 := by
  unfold f_X10_isDigit_16 at h
  exact fr_X10_isDigit_17 _ _ h
theorem fr_X10_isDigit {x0 : Int32} {σ : St} {r : Int32 × St} (h : f_X10_isDigit x0 σ = some r) : frm [] [] σ r.2 := by
  unfold f_X10_isDigit at h
  rcases ite_sp h with ⟨-, h⟩ | ⟨-, h⟩
  · exact fr_X10_isDigit_16 _ h
  · rcases ite_sp h with ⟨-, h⟩ | ⟨-, h⟩
    · exact fr_X10_isDigit_16 _ h
    · exact fr_X10_isDigit_17 _ _ h
theorem fr_X10_numeral_79 (x1 : Int32) (σ : St) {r : Int32 × St} (h : f_X10_numeral_79 x1 σ = some r) : frm [] [(38, 4), (38, 5)] σ r.2 := by
  unfold f_X10_numeral_79 at h
  cases h
  exact (frm.rf _)
theorem fr_X10_numeral_65 (x1 : Int32) (σ : St) {r : Int32 × St} (h : f_X10_numeral_65 x1 σ = some r) : frm [] [(38, 4), (38, 5)] σ r.2 := by
  unfold f_X10_numeral_65 at h
  obtain ⟨p3, hp3, h⟩ := bind_sp h
  refine frm.tr (frm.rf _) (frm.tr (frm.mo (fr_X10_here hp3) (by decide) (by decide)) ?_)
  obtain ⟨p4, hp4, h⟩ := bind_sp h
  refine frm.tr (frm.rf _) (frm.tr (frm.mo (fr_X10_isDigit hp4) (by decide) (by decide)) ?_)
  rcases ite_sp h with ⟨-, h⟩ | ⟨-, h⟩
  · exact fr_X10_numeral_79 _ _ h
  · obtain ⟨p5, hp5, h⟩ := bind_sp h
    refine frm.tr (frm.rf _) (frm.tr (frm.mo (fr_X10_bad hp5) (by decide) (by decide)) ?_)
    exact fr_X10_numeral_79 _ _ h
theorem fr_X10_numeral_49 (k20 : Int32 → Int32 → St → Option (Int32 × St)) (hk20 : ∀ (x1 : Int32) (x2 : Int32) (σ : St) {r : Int32 × St}, k20 x1 x2 σ = some r → frm [] [(38, 4), (38, 5)] σ r.2) (x1 : Int32) (x2 : Int32) (σ : St) {r : Int32 × St} (h : f_X10_numeral_49 k20 x1 x2 σ = some r) : frm [] [(38, 4), (38, 5)] σ r.2 := by
  unfold f_X10_numeral_49 at h
  exact frm.tr (frm_sIf (frm.rf _) (by simp)) (hk20 _ _ _ h)
theorem fr_X10_numeral_20 : ∀ (n : Nat) (x1 : Int32) (x2 : Int32) (σ : St) {r : Int32 × St}, f_X10_numeral_20 n x1 x2 σ = some r → frm [] [(38, 4), (38, 5)] σ r.2 := by
  intro n
  induction n with
  | zero =>
    intro x1 x2 σ r h
    cases h
  | succ n ih =>
    intro x1 x2 σ r h
    simp only [f_X10_numeral_20] at h
    rcases ite_sp h with ⟨-, h⟩ | ⟨-, h⟩
    · exact fr_X10_numeral_65 _ _ h
    · obtain ⟨p6, hp6, h⟩ := bind_sp h
      refine frm.tr (frm.rf _) (frm.tr (frm.mo (fr_X10_here hp6) (by decide) (by decide)) ?_)
      obtain ⟨p7, hp7, h⟩ := bind_sp h
      refine frm.tr (frm.rf _) (frm.tr (frm.mo (fr_X10_isDigit hp7) (by decide) (by decide)) ?_)
      rcases ite_sp h with ⟨-, h⟩ | ⟨-, h⟩
      · exact fr_X10_numeral_65 _ _ h
      · obtain ⟨p8, hp8, h⟩ := bind_sp h
        refine frm.tr (frm.rf _) (frm.tr (frm.mo (fr_X10_here hp8) (by decide) (by decide)) ?_)
        exact fr_X10_numeral_49 _ ih _ _ _ h
theorem fr_X10_numeral {σ : St} {r : Int32 × St} (h : f_X10_numeral σ = some r) : frm [] [(38, 4), (38, 5)] σ r.2 := by
  unfold f_X10_numeral at h
  obtain ⟨p1, hp1, h⟩ := bind_sp h
  refine frm.tr (frm.rf _) (frm.tr (frm.mo (fr_X10_look hp1) (by decide) (by decide)) ?_)
  obtain ⟨p2, hp2, h⟩ := bind_sp h
  refine frm.tr (frm.rf _) (frm.tr (frm.mo (fr_X10_isDigit hp2) (by decide) (by decide)) ?_)
  rcases ite_sp h with ⟨-, h⟩ | ⟨-, h⟩
  · obtain ⟨p9, hp9, h⟩ := bind_sp h
    refine frm.tr (frm.rf _) (frm.tr (frm.mo (fr_X10_bad hp9) (by decide) (by decide)) ?_)
    cases h
    exact (frm.rf _)
  · exact fr_X10_numeral_20 FU _ _ _ h
theorem fr_X10_stepOf_201 (x1 : Int32) (σ : St) {r : St} (h : f_X10_stepOf_201 x1 σ = some r) : frm [40, 41, 42, 43] [(38, 4), (38, 5)] σ r := by
  unfold f_X10_stepOf_201 at h
  obtain ⟨-, h⟩ := gd_some h
  obtain ⟨-, h⟩ := gd_some h
  cases h
  exact (frm_sI (frm.rf _) (by simp))
theorem fr_X10_stepOf_174 (σ : St) {r : St} (h : f_X10_stepOf_174 σ = some r) : frm [40, 41, 42, 43] [(38, 4), (38, 5)] σ r := by
  unfold f_X10_stepOf_174 at h
  obtain ⟨p5, hp5, h⟩ := bind_sp h
  refine frm.tr (frm.rf _) (frm.tr (frm.mo (fr_X10_bad hp5) (by decide) (by decide)) ?_)
  cases h
  exact (frm.rf _)
theorem fr_X10_stepOf_117 (x1 : Int32) (x4 : Int32) (y0 : Int32) (y1 : Int32) (σ : St) {r : St} (h : f_X10_stepOf_117 x1 x4 y0 y1 σ = some r) : frm [40, 41, 42, 43] [(38, 4), (38, 5)] σ r := by
  unfold f_X10_stepOf_117 at h
  obtain ⟨-, h⟩ := gd_some h
  obtain ⟨-, h⟩ := gd_some h
  rcases ite_sp h with ⟨-, h⟩ | ⟨-, h⟩
  · obtain ⟨p2, hp2, h⟩ := bind_sp h
    refine frm.tr (frm_sI (frm_sI (frm.rf _) (by simp)) (by simp)) (frm.tr (frm.mo (fr_X10_look hp2) (by decide) (by decide)) ?_)
    rcases ite_sp h with ⟨-, h⟩ | ⟨-, h⟩
    · obtain ⟨p3, hp3, h⟩ := bind_sp h
      refine frm.tr (frm_sIf (frm.rf _) (by simp)) (frm.tr (frm.mo (fr_X10_look hp3) (by decide) (by decide)) ?_)
      obtain ⟨p4, hp4, h⟩ := bind_sp h
      refine frm.tr (frm.rf _) (frm.tr (frm.mo (fr_X10_isDigit hp4) (by decide) (by decide)) ?_)
      rcases ite_sp h with ⟨-, h⟩ | ⟨-, h⟩
      · exact fr_X10_stepOf_174 _ h
      · rcases ite_sp h with ⟨-, h⟩ | ⟨-, h⟩
        · exact fr_X10_stepOf_174 _ h
        · obtain ⟨-, h⟩ := gd_some h
          exact frm.tr (frm_sIf (frm_sI (frm.rf _) (by simp)) (by simp)) (fr_X10_stepOf_201 _ _ h)
    · exact fr_X10_stepOf_201 _ _ h
  · exact frm.tr (frm_sI (frm_sI (frm.rf _) (by simp)) (by simp)) (fr_X10_stepOf_201 _ _ h)
theorem fr_X10_stepOf_90 (x1 : Int32) (x3 : Int32) (x4 : Int32) (σ : St) {r : St} (h : f_X10_stepOf_90 x1 x3 x4 σ = some r) : frm [40, 41, 42, 43] [(38, 4), (38, 5)] σ r := by
  unfold f_X10_stepOf_90 at h
  obtain ⟨-, h⟩ := gd_some h
  rcases ite_sp h with ⟨-, h⟩ | ⟨-, h⟩
  · exact frm.tr (frm_sI (frm.rf _) (by simp)) (fr_X10_stepOf_117 _ _ _ _ _ h)
  · obtain ⟨p6, hp6, h⟩ := bind_sp h
    refine frm.tr (frm_sI (frm.rf _) (by simp)) (frm.tr (frm.mo (fr_X10_numeral hp6) (by decide) (by decide)) ?_)
    exact fr_X10_stepOf_117 _ _ _ _ _ h
theorem fr_X10_stepOf_56 (x1 : Int32) (y0 : Int32) (σ : St) {r : St} (h : f_X10_stepOf_56 x1 y0 σ = some r) : frm [40, 41, 42, 43] [(38, 4), (38, 5)] σ r := by
  unfold f_X10_stepOf_56 at h
  rcases ite_sp h with ⟨-, h⟩ | ⟨-, h⟩
  · obtain ⟨p7, hp7, h⟩ := bind_sp h
    refine frm.tr (frm.rf _) (frm.tr (frm.mo (fr_X10_bad hp7) (by decide) (by decide)) ?_)
    cases h
    exact (frm.rf _)
  · obtain ⟨-, h⟩ := gd_some h
    exact frm.tr (frm_sIf (frm.rf _) (by simp)) (fr_X10_stepOf_90 _ _ _ _ h)
theorem fr_X10_stepOf {x1 : Int32} {σ : St} {r : St} (h : f_X10_stepOf x1 σ = some r) : frm [40, 41, 42, 43] [(38, 4), (38, 5)] σ r := by
  unfold f_X10_stepOf at h
  obtain ⟨p1, hp1, h⟩ := bind_sp h
  refine frm.tr (frm.rf _) (frm.tr (frm.mo (fr_X10_look hp1) (by decide) (by decide)) ?_)
  rcases ite_sp h with ⟨-, h⟩ | ⟨-, h⟩
  · exact fr_X10_stepOf_56 _ _ _ h
  · rcases ite_sp h with ⟨-, h⟩ | ⟨-, h⟩
    · exact fr_X10_stepOf_56 _ _ _ h
    · rcases ite_sp h with ⟨-, h⟩ | ⟨-, h⟩
      · exact fr_X10_stepOf_56 _ _ _ h
      · rcases ite_sp h with ⟨-, h⟩ | ⟨-, h⟩
        · exact fr_X10_stepOf_56 _ _ _ h
        · rcases ite_sp h with ⟨-, h⟩ | ⟨-, h⟩
          · exact fr_X10_stepOf_56 _ _ _ h
          · exact fr_X10_stepOf_56 _ _ _ h
theorem fr_X10_read_88 (σ : St) {r : Int32 × St} (h : f_X10_read_88 σ = some r) : frm [40, 41, 42, 43] [(38, 4), (38, 5)] σ r.2 := by
  unfold f_X10_read_88 at h
  cases h
  exact (frm.rf _)
theorem fr_X10_read_68 (σ : St) {r : Int32 × St} (h : f_X10_read_68 σ = some r) : frm [40, 41, 42, 43] [(38, 4), (38, 5)] σ r.2 := by
  unfold f_X10_read_68 at h
  rcases ite_sp h with ⟨-, h⟩ | ⟨-, h⟩
  · obtain ⟨p2, hp2, h⟩ := bind_sp h
    refine frm.tr (frm.rf _) (frm.tr (frm.mo (fr_X10_look hp2) (by decide) (by decide)) ?_)
    rcases ite_sp h with ⟨-, h⟩ | ⟨-, h⟩
    · exact fr_X10_read_88 _ h
    · obtain ⟨p3, hp3, h⟩ := bind_sp h
      refine frm.tr (frm.rf _) (frm.tr (frm.mo (fr_X10_bad hp3) (by decide) (by decide)) ?_)
      exact fr_X10_read_88 _ h
  · exact fr_X10_read_88 _ h
theorem fr_X10_read_22 : ∀ (n : Nat) (x1 : Int32) (σ : St) {r : Int32 × St}, f_X10_read_22 n x1 σ = some r → frm [40, 41, 42, 43] [(38, 4), (38, 5)] σ r.2 := by
  intro n
  induction n with
  | zero =>
    intro x1 σ r h
    cases h
  | succ n ih =>
    intro x1 σ r h
    simp only [f_X10_read_22] at h
    rcases ite_sp h with ⟨-, h⟩ | ⟨-, h⟩
    · obtain ⟨p4, hp4, h⟩ := bind_sp h
      refine frm.tr (frm.rf _) (frm.tr (frm.mo (fr_X10_look hp4) (by decide) (by decide)) ?_)
      rcases ite_sp h with ⟨-, h⟩ | ⟨-, h⟩
      · obtain ⟨-, h⟩ := gd_some h
        rcases ite_sp h with ⟨-, h⟩ | ⟨-, h⟩
        · exact fr_X10_read_68 _ h
        · obtain ⟨p5, hp5, h⟩ := bind_sp h
          refine frm.tr (frm_sIf (frm.rf _) (by simp)) (frm.tr (frm.mo (fr_X10_stepOf hp5) (by decide) (by decide)) ?_)
          exact ih _ _ h
      · exact fr_X10_read_68 _ h
    · exact fr_X10_read_68 _ h
theorem fr_X10_read {x1 : Int32} {σ : St} {r : Int32 × St} (h : f_X10_read x1 σ = some r) : frm [40, 41, 42, 43] [(38, 4), (38, 5)] σ r.2 := by
  unfold f_X10_read at h
  obtain ⟨-, h⟩ := gd_some h
  obtain ⟨p1, hp1, h⟩ := bind_sp h
  refine frm.tr (frm_sI (frm_sIf (frm_sIf (frm.rf _) (by simp)) (by simp)) (by simp)) (frm.tr (frm.mo (fr_X10_stepOf hp1) (by decide) (by decide)) ?_)
  exact fr_X10_read_22 FU _ _ h
theorem fr_X10_fault {σ : St} {r : Int32 × St} (h : f_X10_fault σ = some r) : frm [40, 41, 42, 43] [(38, 4), (38, 5)] σ r.2 := by
  unfold f_X10_fault at h
  obtain ⟨p1, hp1, h⟩ := bind_sp h
  refine frm.tr (frm.rf _) (frm.tr (frm.mo (fr_X10_read hp1) (by decide) (by decide)) ?_)
  cases h
  exact (frm.rf _)
theorem fr_X10_text_21 (σ : St) {r : Int32 × St} (h : f_X10_text_21 σ = some r) : frm [40, 41, 42, 43] [(38, 3), (38, 4), (38, 5), (38, 10)] σ r.2 := by
  unfold f_X10_text_21 at h
  cases h
  exact (frm.rf _)
theorem fr_X10_text_38 (σ : St) {r : Int32 × St} (h : f_X10_text_38 σ = some r) : frm [40, 41, 42, 43] [(38, 3), (38, 4), (38, 5), (38, 10)] σ r.2 := by
  unfold f_X10_text_38 at h
  cases h
  exact (frm.rf _)
theorem fr_X10_text {σ : St} {r : Int32 × St} (h : f_X10_text σ = some r) : frm [40, 41, 42, 43] [(38, 3), (38, 4), (38, 5), (38, 10)] σ r.2 := by
  unfold f_X10_text at h
  rcases ite_sp h with ⟨-, h⟩ | ⟨-, h⟩
  · exact fr_X10_text_21 _ h
  · obtain ⟨p1, hp1, h⟩ := bind_sp h
    refine frm.tr (frm.rf _) (frm.tr (frm.mo (fr_X10_read hp1) (by decide) (by decide)) ?_)
    rcases ite_sp h with ⟨-, h⟩ | ⟨-, h⟩
    · exact frm.tr (frm_sIf (frm_sIf (frm.rf _) (by simp)) (by simp)) (fr_X10_text_38 _ h)
    · exact fr_X10_text_21 _ h
theorem fr_X10_isSum {x1 : Int32} {σ : St} {r : Int32 × St} (h : f_X10_isSum x1 σ = some r) : frm [] [] σ r.2 := by
  unfold f_X10_isSum at h
  obtain ⟨p1, hp1, h⟩ := bind_sp h
  refine frm.tr (frm.rf _) (frm.tr (frm.mo (fr_X10_in hp1) (by decide) (by decide)) ?_)
  obtain ⟨-, h⟩ := gd_some h
  cases h
  exact (frm.rf _)
theorem fr_X10_step_136 (y0 : Int32) (σ : St) {r : Int32 × St} (h : f_X10_step_136 y0 σ = some r) : frm [] [(38, 0)] σ r.2 := by
  unfold f_X10_step_136 at h
  cases h
  exact (frm.rf _)
theorem fr_X10_step_86 (x1 : Int32) (x2 : Int32) (x3 : Int32) (x5 : Int32) (σ : St) {r : Int32 × St} (h : f_X10_step_86 x1 x2 x3 x5 σ = some r) : frm [] [(38, 0)] σ r.2 := by
  unfold f_X10_step_86 at h
  rcases ite_sp h with ⟨-, h⟩ | ⟨-, h⟩
  · obtain ⟨-, h⟩ := gd_some h
    exact fr_X10_step_136 _ _ h
  · rcases ite_sp h with ⟨-, h⟩ | ⟨-, h⟩
    · obtain ⟨-, h⟩ := gd_some h
      exact fr_X10_step_136 _ _ h
    · rcases ite_sp h with ⟨-, h⟩ | ⟨-, h⟩
      · obtain ⟨-, h⟩ := gd_some h
        exact fr_X10_step_136 _ _ h
      · obtain ⟨-, h⟩ := gd_some h
        exact fr_X10_step_136 _ _ h
theorem fr_X10_step_68 (x1 : Int32) (x2 : Int32) (x3 : Int32) (x4 : Int32) (y0 : Int32) (σ : St) {r : Int32 × St} (h : f_X10_step_68 x1 x2 x3 x4 y0 σ = some r) : frm [] [(38, 0)] σ r.2 := by
  unfold f_X10_step_68 at h
  rcases ite_sp h with ⟨-, h⟩ | ⟨-, h⟩
  · cases h
    exact (frm_sIf (frm.rf _) (by simp))
  · exact frm.tr (frm_sIf (frm.rf _) (by simp)) (fr_X10_step_86 _ _ _ _ _ h)
theorem fr_X10_step_55 (x1 : Int32) (x2 : Int32) (x3 : Int32) (y0 : Int32) (σ : St) {r : Int32 × St} (h : f_X10_step_55 x1 x2 x3 y0 σ = some r) : frm [] [(38, 0)] σ r.2 := by
  unfold f_X10_step_55 at h
  rcases ite_sp h with ⟨-, h⟩ | ⟨-, h⟩
  · exact fr_X10_step_68 _ _ _ _ _ _ h
  · exact fr_X10_step_68 _ _ _ _ _ _ h
theorem fr_X10_step_54 (x1 : Int32) (x2 : Int32) (x3 : Int32) (σ : St) {r : Int32 × St} (h : f_X10_step_54 x1 x2 x3 σ = some r) : frm [] [(38, 0)] σ r.2 := by
  unfold f_X10_step_54 at h
  exact fr_X10_step_55 _ _ _ _ _ h
theorem fr_X10_step_50 (x1 : Int32) (x2 : Int32) (x3 : Int32) (σ : St) {r : Int32 × St} (h : f_X10_step_50 x1 x2 x3 σ = some r) : frm [] [(38, 0)] σ r.2 := by
  unfold f_X10_step_50 at h
  exact fr_X10_step_55 _ _ _ _ _ h
theorem fr_X10_step {x1 : Int32} {x2 : Int32} {x3 : Int32} {σ : St} {r : Int32 × St} (h : f_X10_step x1 x2 x3 σ = some r) : frm [] [(38, 0)] σ r.2 := by
  unfold f_X10_step at h
  obtain ⟨p1, hp1, h⟩ := bind_sp h
  refine frm.tr (frm.rf _) (frm.tr (frm.mo (fr_X10_isSum hp1) (by decide) (by decide)) ?_)
  rcases ite_sp h with ⟨-, h⟩ | ⟨-, h⟩
  · exact fr_X10_step_54 _ _ _ _ h
  · rcases ite_sp h with ⟨-, h⟩ | ⟨-, h⟩
    · rcases ite_sp h with ⟨-, h⟩ | ⟨-, h⟩
      · exact fr_X10_step_50 _ _ _ _ h
      · exact fr_X10_step_54 _ _ _ _ h
    · obtain ⟨-, h⟩ := gd_some h
      obtain ⟨p2, hp2, h⟩ := bind_sp h
      refine frm.tr (frm.rf _) (frm.tr (frm.mo (fr_X10_in hp2) (by decide) (by decide)) ?_)
      rcases ite_sp h with ⟨-, h⟩ | ⟨-, h⟩
      · exact fr_X10_step_54 _ _ _ _ h
      · obtain ⟨p3, hp3, h⟩ := bind_sp h
        refine frm.tr (frm.rf _) (frm.tr (frm.mo (fr_X10_in hp3) (by decide) (by decide)) ?_)
        rcases ite_sp h with ⟨-, h⟩ | ⟨-, h⟩
        · exact fr_X10_step_54 _ _ _ _ h
        · exact fr_X10_step_50 _ _ _ _ h
theorem fr_X10_set_41 (σ : St) {r : Int32 × St} (h : f_X10_set_41 σ = some r) : frm [] [(38, 11), (38, 12), (38, 13), (38, 14)] σ r.2 := by
  unfold f_X10_set_41 at h
  cases h
  exact (frm.rf _)
theorem fr_X10_set_107 (y0 : Int32) (σ : St) {r : Int32 × St} (h : f_X10_set_107 y0 σ = some r) : frm [] [(38, 11), (38, 12), (38, 13), (38, 14)] σ r.2 := by
  unfold f_X10_set_107 at h
  cases h
  exact (frm_sIf (frm.rf _) (by simp))
theorem fr_X10_set_90 (x1 : Int32) (x2 : Int32) (y0 : Int32) (σ : St) {r : Int32 × St} (h : f_X10_set_90 x1 x2 y0 σ = some r) : frm [] [(38, 11), (38, 12), (38, 13), (38, 14)] σ r.2 := by
  unfold f_X10_set_90 at h
  rcases ite_sp h with ⟨-, h⟩ | ⟨-, h⟩
  · exact frm.tr (frm_sIf (frm.rf _) (by simp)) (fr_X10_set_107 _ _ h)
  · exact frm.tr (frm_sIf (frm.rf _) (by simp)) (fr_X10_set_107 _ _ h)
theorem fr_X10_set_73 (x1 : Int32) (x2 : Int32) (y0 : Int32) (σ : St) {r : Int32 × St} (h : f_X10_set_73 x1 x2 y0 σ = some r) : frm [] [(38, 11), (38, 12), (38, 13), (38, 14)] σ r.2 := by
  unfold f_X10_set_73 at h
  rcases ite_sp h with ⟨-, h⟩ | ⟨-, h⟩
  · exact frm.tr (frm_sIf (frm.rf _) (by simp)) (fr_X10_set_90 _ _ _ _ h)
  · exact frm.tr (frm_sIf (frm.rf _) (by simp)) (fr_X10_set_90 _ _ _ _ h)
theorem fr_X10_set_56 (x1 : Int32) (x2 : Int32) (y0 : Int32) (σ : St) {r : Int32 × St} (h : f_X10_set_56 x1 x2 y0 σ = some r) : frm [] [(38, 11), (38, 12), (38, 13), (38, 14)] σ r.2 := by
  unfold f_X10_set_56 at h
  rcases ite_sp h with ⟨-, h⟩ | ⟨-, h⟩
  · exact frm.tr (frm_sIf (frm.rf _) (by simp)) (fr_X10_set_73 _ _ _ _ h)
  · exact frm.tr (frm_sIf (frm.rf _) (by simp)) (fr_X10_set_73 _ _ _ _ h)
theorem fr_X10_set_35 (x1 : Int32) (x2 : Int32) (y0 : Int64) (y1 : Int64) (y2 : Int64) (σ : St) {r : Int32 × St} (h : f_X10_set_35 x1 x2 y0 y1 y2 σ = some r) : frm [] [(38, 11), (38, 12), (38, 13), (38, 14)] σ r.2 := by
  unfold f_X10_set_35 at h
  obtain ⟨p2, hp2, h⟩ := bind_sp h
  refine frm.tr (frm.rf _) (frm.tr (frm.mo (fr_X10_in hp2) (by decide) (by decide)) ?_)
  rcases ite_sp h with ⟨-, h⟩ | ⟨-, h⟩
  · exact fr_X10_set_41 _ h
  · rcases ite_sp h with ⟨-, h⟩ | ⟨-, h⟩
    · exact fr_X10_set_56 _ _ _ _ h
    · exact fr_X10_set_56 _ _ _ _ h
theorem fr_X10_set_24 (x1 : Int32) (x2 : Int32) (y0 : Int64) (y1 : Int64) (σ : St) {r : Int32 × St} (h : f_X10_set_24 x1 x2 y0 y1 σ = some r) : frm [] [(38, 11), (38, 12), (38, 13), (38, 14)] σ r.2 := by
  unfold f_X10_set_24 at h
  rcases ite_sp h with ⟨-, h⟩ | ⟨-, h⟩
  · exact fr_X10_set_35 _ _ _ _ _ _ h
  · exact fr_X10_set_35 _ _ _ _ _ _ h
theorem fr_X10_set {x1 : Int32} {x2 : Int32} {σ : St} {r : Int32 × St} (h : f_X10_set x1 x2 σ = some r) : frm [] [(38, 11), (38, 12), (38, 13), (38, 14)] σ r.2 := by
  unfold f_X10_set at h
  obtain ⟨p1, hp1, h⟩ := bind_sp h
  refine frm.tr (frm.rf _) (frm.tr (frm.mo (fr_X10_in hp1) (by decide) (by decide)) ?_)
  rcases ite_sp h with ⟨-, h⟩ | ⟨-, h⟩
  · exact fr_X10_set_41 _ h
  · rcases ite_sp h with ⟨-, h⟩ | ⟨-, h⟩
    · exact fr_X10_set_24 _ _ _ _ _ h
    · exact fr_X10_set_24 _ _ _ _ _ h
theorem fr_X10_isRope {x1 : Int32} {σ : St} {r : Int32 × St} (h : f_X10_isRope x1 σ = some r) : frm [] [] σ r.2 := by
  unfold f_X10_isRope at h
  obtain ⟨p1, hp1, h⟩ := bind_sp h
  refine frm.tr (frm.rf _) (frm.tr (frm.mo (fr_X10_in hp1) (by decide) (by decide)) ?_)
  obtain ⟨-, h⟩ := gd_some h
  cases h
  exact (frm.rf _)
theorem fr_X10_goats_32 (σ : St) {r : Int32 × St} (h : f_X10_goats_32 σ = some r) : frm [44] [] σ r.2 := by
  unfold f_X10_goats_32 at h
  cases h
  exact (frm.rf _)
theorem fr_X10_goats {x1 : Int32} {x2 : Int32} {σ : St} {r : Int32 × St} (h : f_X10_goats x1 x2 σ = some r) : frm [44] [] σ r.2 := by
  unfold f_X10_goats at h
  obtain ⟨p1, hp1, h⟩ := bind_sp h
  refine frm.tr (frm.rf _) (frm.tr (frm.mo (fr_X10_isRope hp1) (by decide) (by decide)) ?_)
  rcases ite_sp h with ⟨-, h⟩ | ⟨-, h⟩
  · exact fr_X10_goats_32 _ h
  · obtain ⟨p2, hp2, h⟩ := bind_sp h
    refine frm.tr (frm.rf _) (frm.tr (frm.mo (fr_X10_in hp2) (by decide) (by decide)) ?_)
    rcases ite_sp h with ⟨-, h⟩ | ⟨-, h⟩
    · exact fr_X10_goats_32 _ h
    · obtain ⟨-, h⟩ := gd_some h
      rcases ite_sp h with ⟨-, h⟩ | ⟨-, h⟩
      · obtain ⟨-, h⟩ := gd_some h
        cases h
        exact (frm_sI (frm.rf _) (by simp))
      · exact fr_X10_goats_32 _ h
theorem fr_X10_echo_41 (σ : St) {r : Int32 × St} (h : f_X10_echo_41 σ = some r) : frm [45] [] σ r.2 := by
  unfold f_X10_echo_41 at h
  cases h
  exact (frm.rf _)
theorem fr_X10_echo_85 (k61 : Int32 → Int32 → Int32 → Int32 → Int32 → St → Option (Int32 × St)) (hk61 : ∀ (x1 : Int32) (x2 : Int32) (x3 : Int32) (x4 : Int32) (x5 : Int32) (σ : St) {r : Int32 × St}, k61 x1 x2 x3 x4 x5 σ = some r → frm [45] [] σ r.2) (x1 : Int32) (x2 : Int32) (x3 : Int32) (x4 : Int32) (x5 : Int32) (σ : St) {r : Int32 × St} (h : f_X10_echo_85 k61 x1 x2 x3 x4 x5 σ = some r) : frm [45] [] σ r.2 := by
  unfold f_X10_echo_85 at h
  exact hk61 _ _ _ _ _ _ h
theorem fr_X10_echo_61 : ∀ (n : Nat) (x1 : Int32) (x2 : Int32) (x3 : Int32) (x4 : Int32) (x5 : Int32) (σ : St) {r : Int32 × St}, f_X10_echo_61 n x1 x2 x3 x4 x5 σ = some r → frm [45] [] σ r.2 := by
  intro n
  induction n with
  | zero =>
    intro x1 x2 x3 x4 x5 σ r h
    cases h
  | succ n ih =>
    intro x1 x2 x3 x4 x5 σ r h
    simp only [f_X10_echo_61] at h
    rcases ite_sp h with ⟨-, h⟩ | ⟨-, h⟩
    · rcases ite_sp h with ⟨-, h⟩ | ⟨-, h⟩
      · obtain ⟨-, h⟩ := gd_some h
        cases h
        exact (frm_sI (frm.rf _) (by simp))
      · cases h
        exact (frm.rf _)
    · obtain ⟨-, h⟩ := gd_some h
      exact fr_X10_echo_85 _ ih _ _ _ _ _ _ h
theorem fr_X10_echo_58 (x1 : Int32) (x2 : Int32) (x3 : Int32) (x4 : Int32) (σ : St) {r : Int32 × St} (h : f_X10_echo_58 x1 x2 x3 x4 σ = some r) : frm [45] [] σ r.2 := by
  unfold f_X10_echo_58 at h
  exact fr_X10_echo_61 FU _ _ _ _ _ _ h
theorem fr_X10_echo {x1 : Int32} {x2 : Int32} {x3 : Int32} {σ : St} {r : Int32 × St} (h : f_X10_echo x1 x2 x3 σ = some r) : frm [45] [] σ r.2 := by
  unfold f_X10_echo at h
  obtain ⟨p1, hp1, h⟩ := bind_sp h
  refine frm.tr (frm.rf _) (frm.tr (frm.mo (fr_X10_in hp1) (by decide) (by decide)) ?_)
  rcases ite_sp h with ⟨-, h⟩ | ⟨-, h⟩
  · exact fr_X10_echo_41 _ h
  · obtain ⟨p2, hp2, h⟩ := bind_sp h
    refine frm.tr (frm.rf _) (frm.tr (frm.mo (fr_X10_in hp2) (by decide) (by decide)) ?_)
    rcases ite_sp h with ⟨-, h⟩ | ⟨-, h⟩
    · exact fr_X10_echo_41 _ h
    · rcases ite_sp h with ⟨-, h⟩ | ⟨-, h⟩
      · exact fr_X10_echo_41 _ h
      · obtain ⟨p3, hp3, h⟩ := bind_sp h
        refine frm.tr (frm.rf _) (frm.tr (frm.mo (fr_X10_in hp3) (by decide) (by decide)) ?_)
        rcases ite_sp h with ⟨-, h⟩ | ⟨-, h⟩
        · exact fr_X10_echo_41 _ h
        · obtain ⟨-, h⟩ := gd_some h
          exact fr_X10_echo_58 _ _ _ _ _ h
theorem fr_X10_wind {x1 : Int64} {σ : St} {r : St} (h : f_X10_wind x1 σ = some r) : frm [] [(38, 18)] σ r := by
  unfold f_X10_wind at h
  cases h
  exact (frm_sJf (frm.rf _) (by simp))
theorem fr_X10_draw_16 (σ : St) {r : Int32 × St} (h : f_X10_draw_16 σ = some r) : frm [] [(38, 18)] σ r.2 := by
  unfold f_X10_draw_16 at h
  cases h
  exact (frm.rf _)
theorem fr_X10_draw {σ : St} {r : Int32 × St} (h : f_X10_draw σ = some r) : frm [] [(38, 18)] σ r.2 := by
  unfold f_X10_draw at h
  exact frm.tr (frm_sJf (frm.rf _) (by simp)) (fr_X10_draw_16 _ h)
theorem fr_X10_heard_41 (k19 : Int32 → Int32 → Int32 → Int32 → St → Option (Int32 × St)) (hk19 : ∀ (x1 : Int32) (x2 : Int32) (x3 : Int32) (x4 : Int32) (σ : St) {r : Int32 × St}, k19 x1 x2 x3 x4 σ = some r → frm [] [(38, 18)] σ r.2) (x1 : Int32) (x2 : Int32) (x3 : Int32) (x4 : Int32) (σ : St) {r : Int32 × St} (h : f_X10_heard_41 k19 x1 x2 x3 x4 σ = some r) : frm [] [(38, 18)] σ r.2 := by
  unfold f_X10_heard_41 at h
  rcases ite_sp h with ⟨-, h⟩ | ⟨-, h⟩
  · exact hk19 _ _ _ _ _ h
  · cases h
    exact (frm.rf _)
theorem fr_X10_heard_19 : ∀ (n : Nat) (x1 : Int32) (x2 : Int32) (x3 : Int32) (x4 : Int32) (σ : St) {r : Int32 × St}, f_X10_heard_19 n x1 x2 x3 x4 σ = some r → frm [] [(38, 18)] σ r.2 := by
  intro n
  induction n with
  | zero =>
    intro x1 x2 x3 x4 σ r h
    cases h
  | succ n ih =>
    intro x1 x2 x3 x4 σ r h
    simp only [f_X10_heard_19] at h
    rcases ite_sp h with ⟨-, h⟩ | ⟨-, h⟩
    · cases h
      exact (frm.rf _)
    · obtain ⟨-, h⟩ := gd_some h
      exact fr_X10_heard_41 _ ih _ _ _ _ _ h
theorem fr_X10_heard {x1 : Int32} {σ : St} {r : Int32 × St} (h : f_X10_heard x1 σ = some r) : frm [] [(38, 18)] σ r.2 := by
  unfold f_X10_heard at h
  rcases ite_sp h with ⟨-, h⟩ | ⟨-, h⟩
  · obtain ⟨p1, hp1, h⟩ := bind_sp h
    refine frm.tr (frm.rf _) (frm.tr (frm.mo (fr_X10_draw hp1) (by decide) (by decide)) ?_)
    exact fr_X10_heard_19 FU _ _ _ _ _ h
  · cases h
    exact (frm.rf _)
theorem fr_X10_become_95 (x1 : Int32) (x3 : Int32) (σ : St) {r : St} (h : f_X10_become_95 x1 x3 σ = some r) : frm [46, 47] [] σ r := by
  unfold f_X10_become_95 at h
  obtain ⟨-, h⟩ := gd_some h
  cases h
  exact (frm_sI (frm.rf _) (by simp))
theorem fr_X10_become_78 (x1 : Int32) (x3 : Int32) (x4 : Int32) (σ : St) {r : St} (h : f_X10_become_78 x1 x3 x4 σ = some r) : frm [46, 47] [] σ r := by
  unfold f_X10_become_78 at h
  exact frm.tr (frm_sI (frm.rf _) (by simp)) (fr_X10_become_95 _ _ _ h)
theorem fr_X10_become_66 (x1 : Int32) (x3 : Int32) (x4 : Int32) (σ : St) {r : St} (h : f_X10_become_66 x1 x3 x4 σ = some r) : frm [46, 47] [] σ r := by
  unfold f_X10_become_66 at h
  exact frm.tr (frm_sI (frm.rf _) (by simp)) (fr_X10_become_78 _ _ _ _ h)
theorem fr_X10_become_51 (x1 : Int32) (x3 : Int32) (σ : St) {r : St} (h : f_X10_become_51 x1 x3 σ = some r) : frm [46, 47] [] σ r := by
  unfold f_X10_become_51 at h
  obtain ⟨-, h⟩ := gd_some h
  exact fr_X10_become_66 _ _ _ _ h
theorem fr_X10_become_38 (x1 : Int32) (x2 : Int32) (x3 : Int32) (σ : St) {r : St} (h : f_X10_become_38 x1 x2 x3 σ = some r) : frm [46, 47] [] σ r := by
  unfold f_X10_become_38 at h
  exact frm.tr (frm_sI (frm.rf _) (by simp)) (fr_X10_become_51 _ _ _ h)
theorem fr_X10_become_34 (x1 : Int32) (x2 : Int32) (y0 : Int32) (y1 : Int32) (σ : St) {r : St} (h : f_X10_become_34 x1 x2 y0 y1 σ = some r) : frm [46, 47] [] σ r := by
  unfold f_X10_become_34 at h
  exact fr_X10_become_38 _ _ _ _ h
theorem fr_X10_become_16 (x1 : Int32) (x2 : Int32) (σ : St) {r : St} (h : f_X10_become_16 x1 x2 σ = some r) : frm [46, 47] [] σ r := by
  unfold f_X10_become_16 at h
  rcases ite_sp h with ⟨-, h⟩ | ⟨-, h⟩
  · obtain ⟨-, h⟩ := gd_some h
    exact fr_X10_become_34 _ _ _ _ _ h
  · exact fr_X10_become_34 _ _ _ _ _ h
theorem fr_X10_become {x1 : Int32} {x2 : Int32} {σ : St} {r : St} (h : f_X10_become x1 x2 σ = some r) : frm [46, 47] [] σ r := by
  unfold f_X10_become at h
  obtain ⟨-, h⟩ := gd_some h
  obtain ⟨-, h⟩ := gd_some h
  exact frm.tr (frm_sI (frm.rf _) (by simp)) (fr_X10_become_16 _ _ _ h)
theorem fr_X10_drive_147 (k9 : Int32 → Int32 → Int32 → Int32 → St → Option (St)) (hk9 : ∀ (x3 : Int32) (x4 : Int32) (x5 : Int32) (x6 : Int32) (σ : St) {r : St}, k9 x3 x4 x5 x6 σ = some r → frm [46, 47] [] σ r) (x3 : Int32) (x6 : Int32) (x8 : Int32) (y0 : Int32) (y1 : Int32) (y2 : Int32) (σ : St) {r : St} (h : f_X10_drive_147 k9 x3 x6 x8 y0 y1 y2 σ = some r) : frm [46, 47] [] σ r := by
  unfold f_X10_drive_147 at h
  obtain ⟨-, h⟩ := gd_some h
  exact frm.tr (frm_sI (frm.rf _) (by simp)) (hk9 _ _ _ _ _ h)
theorem fr_X10_drive_124 (k9 : Int32 → Int32 → Int32 → Int32 → St → Option (St)) (hk9 : ∀ (x3 : Int32) (x4 : Int32) (x5 : Int32) (x6 : Int32) (σ : St) {r : St}, k9 x3 x4 x5 x6 σ = some r → frm [46, 47] [] σ r) (x3 : Int32) (x6 : Int32) (x8 : Int32) (y0 : Int32) (y1 : Int32) (y2 : Int32) (σ : St) {r : St} (h : f_X10_drive_124 k9 x3 x6 x8 y0 y1 y2 σ = some r) : frm [46, 47] [] σ r := by
  unfold f_X10_drive_124 at h
  obtain ⟨-, h⟩ := gd_some h
  rcases ite_sp h with ⟨-, h⟩ | ⟨-, h⟩
  · exact frm.tr (frm_sI (frm.rf _) (by simp)) (fr_X10_drive_147 _ hk9 _ _ _ _ _ _ _ h)
  · exact frm.tr (frm_sI (frm.rf _) (by simp)) (fr_X10_drive_147 _ hk9 _ _ _ _ _ _ _ h)
theorem fr_X10_drive_103 (k9 : Int32 → Int32 → Int32 → Int32 → St → Option (St)) (hk9 : ∀ (x3 : Int32) (x4 : Int32) (x5 : Int32) (x6 : Int32) (σ : St) {r : St}, k9 x3 x4 x5 x6 σ = some r → frm [46, 47] [] σ r) (x3 : Int32) (x6 : Int32) (x8 : Int32) (y0 : Int32) (y1 : Int32) (σ : St) {r : St} (h : f_X10_drive_103 k9 x3 x6 x8 y0 y1 σ = some r) : frm [46, 47] [] σ r := by
  unfold f_X10_drive_103 at h
  obtain ⟨p1, hp1, h⟩ := bind_sp h
  refine frm.tr (frm.rf _) (frm.tr (frm.mo (fr_X10_become hp1) (by decide) (by decide)) ?_)
  rcases ite_sp h with ⟨-, h⟩ | ⟨-, h⟩
  · exact fr_X10_drive_124 _ hk9 _ _ _ _ _ _ _ h
  · exact fr_X10_drive_124 _ hk9 _ _ _ _ _ _ _ h
theorem fr_X10_drive_68 (k9 : Int32 → Int32 → Int32 → Int32 → St → Option (St)) (hk9 : ∀ (x3 : Int32) (x4 : Int32) (x5 : Int32) (x6 : Int32) (σ : St) {r : St}, k9 x3 x4 x5 x6 σ = some r → frm [46, 47] [] σ r) (x3 : Int32) (x6 : Int32) (x7 : Int32) (y0 : Int32) (σ : St) {r : St} (h : f_X10_drive_68 k9 x3 x6 x7 y0 σ = some r) : frm [46, 47] [] σ r := by
  unfold f_X10_drive_68 at h
  rcases ite_sp h with ⟨-, h⟩ | ⟨-, h⟩
  · rcases ite_sp h with ⟨-, h⟩ | ⟨-, h⟩
    · exact fr_X10_drive_103 _ hk9 _ _ _ _ _ _ h
    · exact fr_X10_drive_103 _ hk9 _ _ _ _ _ _ h
  · exact fr_X10_drive_103 _ hk9 _ _ _ _ _ _ h
theorem fr_X10_drive_63 (k9 : Int32 → Int32 → Int32 → Int32 → St → Option (St)) (hk9 : ∀ (x3 : Int32) (x4 : Int32) (x5 : Int32) (x6 : Int32) (σ : St) {r : St}, k9 x3 x4 x5 x6 σ = some r → frm [46, 47] [] σ r) (x3 : Int32) (x6 : Int32) (x7 : Int32) (σ : St) {r : St} (h : f_X10_drive_63 k9 x3 x6 x7 σ = some r) : frm [46, 47] [] σ r := by
  unfold f_X10_drive_63 at h
  exact fr_X10_drive_68 _ hk9 _ _ _ _ _ h
theorem fr_X10_drive_51 (k9 : Int32 → Int32 → Int32 → Int32 → St → Option (St)) (hk9 : ∀ (x3 : Int32) (x4 : Int32) (x5 : Int32) (x6 : Int32) (σ : St) {r : St}, k9 x3 x4 x5 x6 σ = some r → frm [46, 47] [] σ r) (x3 : Int32) (x6 : Int32) (x7 : Int32) (σ : St) {r : St} (h : f_X10_drive_51 k9 x3 x6 x7 σ = some r) : frm [46, 47] [] σ r := by
  unfold f_X10_drive_51 at h
  rcases ite_sp h with ⟨-, h⟩ | ⟨-, h⟩
  · exact fr_X10_drive_63 _ hk9 _ _ _ _ h
  · rcases ite_sp h with ⟨-, h⟩ | ⟨-, h⟩
    · exact fr_X10_drive_68 _ hk9 _ _ _ _ _ h
    · exact fr_X10_drive_63 _ hk9 _ _ _ _ h
theorem fr_X10_drive_9 : ∀ (n : Nat) (x3 : Int32) (x4 : Int32) (x5 : Int32) (x6 : Int32) (σ : St) {r : St}, f_X10_drive_9 n x3 x4 x5 x6 σ = some r → frm [46, 47] [] σ r := by
  intro n
  induction n with
  | zero =>
    intro x3 x4 x5 x6 σ r h
    cases h
  | succ n ih =>
    intro x3 x4 x5 x6 σ r h
    simp only [f_X10_drive_9] at h
    rcases ite_sp h with ⟨-, h⟩ | ⟨-, h⟩
    · cases h
      exact (frm.rf _)
    · rcases ite_sp h with ⟨-, h⟩ | ⟨-, h⟩
      · cases h
        exact (frm_sI (frm.rf _) (by simp))
      · obtain ⟨-, h⟩ := gd_some h
        exact fr_X10_drive_51 _ ih _ _ _ _ h
theorem fr_X10_drive {x1 : Int32} {x2 : Int32} {x3 : Int32} {σ : St} {r : St} (h : f_X10_drive x1 x2 x3 σ = some r) : frm [46, 47] [] σ r := by
  unfold f_X10_drive at h
  exact fr_X10_drive_9 FU _ _ _ _ _ h
theorem fr_X10_digitOf_17 (k5 : Int32 → Int64 → Int32 → St → Option (Int32 × St)) (hk5 : ∀ (x2 : Int32) (x3 : Int64) (x5 : Int32) (σ : St) {r : Int32 × St}, k5 x2 x3 x5 σ = some r → frm [] [] σ r.2) (x2 : Int32) (x3 : Int64) (x5 : Int32) (σ : St) {r : Int32 × St} (h : f_X10_digitOf_17 k5 x2 x3 x5 σ = some r) : frm [] [] σ r.2 := by
  unfold f_X10_digitOf_17 at h
  exact hk5 _ _ _ _ h
theorem fr_X10_digitOf_5 : ∀ (n : Nat) (x2 : Int32) (x3 : Int64) (x5 : Int32) (σ : St) {r : Int32 × St}, f_X10_digitOf_5 n x2 x3 x5 σ = some r → frm [] [] σ r.2 := by
  intro n
  induction n with
  | zero =>
    intro x2 x3 x5 σ r h
    cases h
  | succ n ih =>
    intro x2 x3 x5 σ r h
    simp only [f_X10_digitOf_5] at h
    rcases ite_sp h with ⟨-, h⟩ | ⟨-, h⟩
    · cases h
      exact (frm.rf _)
    · exact fr_X10_digitOf_17 _ ih _ _ _ _ h
theorem fr_X10_digitOf {x0 : Int64} {x2 : Int32} {σ : St} {r : Int32 × St} (h : f_X10_digitOf x0 x2 σ = some r) : frm [] [] σ r.2 := by
  unfold f_X10_digitOf at h
  exact fr_X10_digitOf_5 FU _ _ _ _ h
theorem fr_X10_highest_29 (k5 : Int64 → Int32 → Int32 → St → Option (Int32 × St)) (hk5 : ∀ (x1 : Int64) (x3 : Int32) (x4 : Int32) (σ : St) {r : Int32 × St}, k5 x1 x3 x4 σ = some r → frm [] [] σ r.2) (x1 : Int64) (x4 : Int32) (y0 : Int32) (σ : St) {r : Int32 × St} (h : f_X10_highest_29 k5 x1 x4 y0 σ = some r) : frm [] [] σ r.2 := by
  unfold f_X10_highest_29 at h
  exact hk5 _ _ _ _ h
theorem fr_X10_highest_5 : ∀ (n : Nat) (x1 : Int64) (x3 : Int32) (x4 : Int32) (σ : St) {r : Int32 × St}, f_X10_highest_5 n x1 x3 x4 σ = some r → frm [] [] σ r.2 := by
  intro n
  induction n with
  | zero =>
    intro x1 x3 x4 σ r h
    cases h
  | succ n ih =>
    intro x1 x3 x4 σ r h
    simp only [f_X10_highest_5] at h
    rcases ite_sp h with ⟨-, h⟩ | ⟨-, h⟩
    · cases h
      exact (frm.rf _)
    · obtain ⟨p1, hp1, h⟩ := bind_sp h
      refine frm.tr (frm.rf _) (frm.tr (frm.mo (fr_X10_digitOf hp1) (by decide) (by decide)) ?_)
      rcases ite_sp h with ⟨-, h⟩ | ⟨-, h⟩
      · exact fr_X10_highest_29 _ ih _ _ _ _ h
      · exact fr_X10_highest_29 _ ih _ _ _ _ h
theorem fr_X10_highest {x1 : Int64} {σ : St} {r : Int32 × St} (h : f_X10_highest x1 σ = some r) : frm [] [] σ r.2 := by
  unfold f_X10_highest at h
  exact fr_X10_highest_5 FU _ _ _ _ h
theorem fr_X10_keep_60 (σ : St) {r : St} (h : f_X10_keep_60 σ = some r) : frm [49, 50] [(38, 27), (38, 28)] σ r := by
  unfold f_X10_keep_60 at h
  cases h
  exact (frm_sIf (frm.rf _) (by simp))
theorem fr_X10_keep_28 (k2 : Int32 → St → Option (St)) (hk2 : ∀ (x1 : Int32) (σ : St) {r : St}, k2 x1 σ = some r → frm [49, 50] [(38, 27), (38, 28)] σ r) (x1 : Int32) (σ : St) {r : St} (h : f_X10_keep_28 k2 x1 σ = some r) : frm [49, 50] [(38, 27), (38, 28)] σ r := by
  unfold f_X10_keep_28 at h
  exact hk2 _ _ h
theorem fr_X10_keep_2 : ∀ (n : Nat) (x1 : Int32) (σ : St) {r : St}, f_X10_keep_2 n x1 σ = some r → frm [49, 50] [(38, 27), (38, 28)] σ r := by
  intro n
  induction n with
  | zero =>
    intro x1 σ r h
    cases h
  | succ n ih =>
    intro x1 σ r h
    simp only [f_X10_keep_2] at h
    rcases ite_sp h with ⟨-, h⟩ | ⟨-, h⟩
    · obtain ⟨-, h⟩ := gd_some h
      exact frm.tr (frm_sIf (frm_sJ (frm.rf _) (by simp)) (by simp)) (fr_X10_keep_60 _ h)
    · obtain ⟨-, h⟩ := gd_some h
      obtain ⟨-, h⟩ := gd_some h
      exact frm.tr (frm_sI (frm.rf _) (by simp)) (fr_X10_keep_28 _ ih _ _ h)
theorem fr_X10_keep {σ : St} {r : St} (h : f_X10_keep σ = some r) : frm [49, 50] [(38, 27), (38, 28)] σ r := by
  unfold f_X10_keep at h
  exact fr_X10_keep_2 FU _ _ h
theorem fr_X10_addOf_107 (k85 : Int32 → Int32 → Int32 → Int32 → St → Option (St)) (hk85 : ∀ (x1 : Int32) (x2 : Int32) (x3 : Int32) (x5 : Int32) (σ : St) {r : St}, k85 x1 x2 x3 x5 σ = some r → frm [46, 47, 49, 50] [(38, 18), (38, 27), (38, 28)] σ r) (x1 : Int32) (x2 : Int32) (x3 : Int32) (x5 : Int32) (y0 : Int32) (σ : St) {r : St} (h : f_X10_addOf_107 k85 x1 x2 x3 x5 y0 σ = some r) : frm [46, 47, 49, 50] [(38, 18), (38, 27), (38, 28)] σ r := by
  unfold f_X10_addOf_107 at h
  obtain ⟨p2, hp2, h⟩ := bind_sp h
  refine frm.tr (frm.rf _) (frm.tr (frm.mo (fr_X10_digitOf hp2) (by decide) (by decide)) ?_)
  obtain ⟨p3, hp3, h⟩ := bind_sp h
  refine frm.tr (frm.rf _) (frm.tr (frm.mo (fr_X10_heard hp3) (by decide) (by decide)) ?_)
  obtain ⟨p4, hp4, h⟩ := bind_sp h
  refine frm.tr (frm.rf _) (frm.tr (frm.mo (fr_X10_drive hp4) (by decide) (by decide)) ?_)
  exact hk85 _ _ _ _ _ h
theorem fr_X10_addOf_85 : ∀ (n : Nat) (x1 : Int32) (x2 : Int32) (x3 : Int32) (x5 : Int32) (σ : St) {r : St}, f_X10_addOf_85 n x1 x2 x3 x5 σ = some r → frm [46, 47, 49, 50] [(38, 18), (38, 27), (38, 28)] σ r := by
  intro n
  induction n with
  | zero =>
    intro x1 x2 x3 x5 σ r h
    cases h
  | succ n ih =>
    intro x1 x2 x3 x5 σ r h
    simp only [f_X10_addOf_85] at h
    rcases ite_sp h with ⟨-, h⟩ | ⟨-, h⟩
    · cases h
      exact (frm_sI (frm.rf _) (by simp))
    · rcases ite_sp h with ⟨-, h⟩ | ⟨-, h⟩
      · exact fr_X10_addOf_107 _ ih _ _ _ _ _ _ h
      · exact fr_X10_addOf_107 _ ih _ _ _ _ _ _ h
theorem fr_X10_addOf_80 (x1 : Int32) (x2 : Int32) (x3 : Int32) (y0 : Int32) (y1 : Int32) (y2 : Int32) (σ : St) {r : St} (h : f_X10_addOf_80 x1 x2 x3 y0 y1 y2 σ = some r) : frm [46, 47, 49, 50] [(38, 18), (38, 27), (38, 28)] σ r := by
  unfold f_X10_addOf_80 at h
  obtain ⟨-, h⟩ := gd_some h
  exact frm.tr (frm_sI (frm.rf _) (by simp)) (fr_X10_addOf_85 FU _ _ _ _ _ h)
theorem fr_X10_addOf_54 (k27 : Int32 → Int32 → Int32 → Int32 → Int32 → St → Option (St)) (hk27 : ∀ (x1 : Int32) (x2 : Int32) (x3 : Int32) (x4 : Int32) (x5 : Int32) (σ : St) {r : St}, k27 x1 x2 x3 x4 x5 σ = some r → frm [46, 47, 49, 50] [(38, 18), (38, 27), (38, 28)] σ r) (x1 : Int32) (x2 : Int32) (x3 : Int32) (x5 : Int32) (y0 : Int32) (σ : St) {r : St} (h : f_X10_addOf_54 k27 x1 x2 x3 x5 y0 σ = some r) : frm [46, 47, 49, 50] [(38, 18), (38, 27), (38, 28)] σ r := by
  unfold f_X10_addOf_54 at h
  exact hk27 _ _ _ _ _ _ h
theorem fr_X10_addOf_49 (k27 : Int32 → Int32 → Int32 → Int32 → Int32 → St → Option (St)) (hk27 : ∀ (x1 : Int32) (x2 : Int32) (x3 : Int32) (x4 : Int32) (x5 : Int32) (σ : St) {r : St}, k27 x1 x2 x3 x4 x5 σ = some r → frm [46, 47, 49, 50] [(38, 18), (38, 27), (38, 28)] σ r) (x1 : Int32) (x2 : Int32) (x3 : Int32) (x5 : Int32) (σ : St) {r : St} (h : f_X10_addOf_49 k27 x1 x2 x3 x5 σ = some r) : frm [46, 47, 49, 50] [(38, 18), (38, 27), (38, 28)] σ r := by
  unfold f_X10_addOf_49 at h
  exact fr_X10_addOf_54 _ hk27 _ _ _ _ _ _ h
theorem fr_X10_addOf_27 : ∀ (n : Nat) (x1 : Int32) (x2 : Int32) (x3 : Int32) (x4 : Int32) (x5 : Int32) (σ : St) {r : St}, f_X10_addOf_27 n x1 x2 x3 x4 x5 σ = some r → frm [46, 47, 49, 50] [(38, 18), (38, 27), (38, 28)] σ r := by
  intro n
  induction n with
  | zero =>
    intro x1 x2 x3 x4 x5 σ r h
    cases h
  | succ n ih =>
    intro x1 x2 x3 x4 x5 σ r h
    simp only [f_X10_addOf_27] at h
    rcases ite_sp h with ⟨-, h⟩ | ⟨-, h⟩
    · rcases ite_sp h with ⟨-, h⟩ | ⟨-, h⟩
      · exact fr_X10_addOf_80 _ _ _ _ _ _ _ h
      · exact fr_X10_addOf_80 _ _ _ _ _ _ _ h
    · rcases ite_sp h with ⟨-, h⟩ | ⟨-, h⟩
      · obtain ⟨p5, hp5, h⟩ := bind_sp h
        refine frm.tr (frm.rf _) (frm.tr (frm.mo (fr_X10_digitOf hp5) (by decide) (by decide)) ?_)
        rcases ite_sp h with ⟨-, h⟩ | ⟨-, h⟩
        · exact fr_X10_addOf_54 _ ih _ _ _ _ _ _ h
        · exact fr_X10_addOf_49 _ ih _ _ _ _ _ h
      · exact fr_X10_addOf_49 _ ih _ _ _ _ _ h
theorem fr_X10_addOf_11 (x1 : Int32) (x2 : Int32) (σ : St) {r : St} (h : f_X10_addOf_11 x1 x2 σ = some r) : frm [46, 47, 49, 50] [(38, 18), (38, 27), (38, 28)] σ r := by
  unfold f_X10_addOf_11 at h
  obtain ⟨p1, hp1, h⟩ := bind_sp h
  refine frm.tr (frm.rf _) (frm.tr (frm.mo (fr_X10_highest hp1) (by decide) (by decide)) ?_)
  exact fr_X10_addOf_27 FU _ _ _ _ _ _ h
theorem fr_X10_addOf {x1 : Int32} {x2 : Int32} {σ : St} {r : St} (h : f_X10_addOf x1 x2 σ = some r) : frm [46, 47, 49, 50] [(38, 18), (38, 27), (38, 28)] σ r := by
  unfold f_X10_addOf at h
  rcases ite_sp h with ⟨-, h⟩ | ⟨-, h⟩
  · obtain ⟨p6, hp6, h⟩ := bind_sp h
    refine frm.tr (frm.rf _) (frm.tr (frm.mo (fr_X10_keep hp6) (by decide) (by decide)) ?_)
    exact fr_X10_addOf_11 _ _ _ h
  · exact fr_X10_addOf_11 _ _ _ h
theorem fr_X10_actOf_138 (y0 : Int32) (y1 : Int32) (σ : St) {r : St} (h : f_X10_actOf_138 y0 y1 σ = some r) : frm [46, 47, 48, 49, 50] [(38, 27), (38, 28)] σ r := by
  unfold f_X10_actOf_138 at h
  obtain ⟨-, h⟩ := gd_some h
  cases h
  exact (frm_sI (frm_sI (frm.rf _) (by simp)) (by simp))
theorem fr_X10_actOf_110 (k50 : Int32 → Int32 → Int32 → St → Option (St)) (hk50 : ∀ (x1 : Int32) (x2 : Int32) (x3 : Int32) (σ : St) {r : St}, k50 x1 x2 x3 σ = some r → frm [46, 47, 48, 49, 50] [(38, 27), (38, 28)] σ r) (x1 : Int32) (x2 : Int32) (x3 : Int32) (σ : St) {r : St} (h : f_X10_actOf_110 k50 x1 x2 x3 σ = some r) : frm [46, 47, 48, 49, 50] [(38, 27), (38, 28)] σ r := by
  unfold f_X10_actOf_110 at h
  exact hk50 _ _ _ _ h
theorem fr_X10_actOf_101 (k50 : Int32 → Int32 → Int32 → St → Option (St)) (hk50 : ∀ (x1 : Int32) (x2 : Int32) (x3 : Int32) (σ : St) {r : St}, k50 x1 x2 x3 σ = some r → frm [46, 47, 48, 49, 50] [(38, 27), (38, 28)] σ r) (x1 : Int32) (x2 : Int32) (x3 : Int32) (x4 : Int32) (σ : St) {r : St} (h : f_X10_actOf_101 k50 x1 x2 x3 x4 σ = some r) : frm [46, 47, 48, 49, 50] [(38, 27), (38, 28)] σ r := by
  unfold f_X10_actOf_101 at h
  obtain ⟨p1, hp1, h⟩ := bind_sp h
  refine frm.tr (frm.rf _) (frm.tr (frm.mo (fr_X10_become hp1) (by decide) (by decide)) ?_)
  exact fr_X10_actOf_110 _ hk50 _ _ _ _ h
theorem fr_X10_actOf_94 (k50 : Int32 → Int32 → Int32 → St → Option (St)) (hk50 : ∀ (x1 : Int32) (x2 : Int32) (x3 : Int32) (σ : St) {r : St}, k50 x1 x2 x3 σ = some r → frm [46, 47, 48, 49, 50] [(38, 27), (38, 28)] σ r) (x1 : Int32) (x3 : Int32) (y0 : Int32) (σ : St) {r : St} (h : f_X10_actOf_94 k50 x1 x3 y0 σ = some r) : frm [46, 47, 48, 49, 50] [(38, 27), (38, 28)] σ r := by
  unfold f_X10_actOf_94 at h
  exact fr_X10_actOf_101 _ hk50 _ _ _ _ _ h
theorem fr_X10_actOf_50 : ∀ (n : Nat) (x1 : Int32) (x2 : Int32) (x3 : Int32) (σ : St) {r : St}, f_X10_actOf_50 n x1 x2 x3 σ = some r → frm [46, 47, 48, 49, 50] [(38, 27), (38, 28)] σ r := by
  intro n
  induction n with
  | zero =>
    intro x1 x2 x3 σ r h
    cases h
  | succ n ih =>
    intro x1 x2 x3 σ r h
    simp only [f_X10_actOf_50] at h
    rcases ite_sp h with ⟨-, h⟩ | ⟨-, h⟩
    · rcases ite_sp h with ⟨-, h⟩ | ⟨-, h⟩
      · exact fr_X10_actOf_138 _ _ _ h
      · exact fr_X10_actOf_138 _ _ _ h
    · rcases ite_sp h with ⟨-, h⟩ | ⟨-, h⟩
      · obtain ⟨-, h⟩ := gd_some h
        obtain ⟨p2, hp2, h⟩ := bind_sp h
        refine frm.tr (frm.rf _) (frm.tr (frm.mo (fr_X10_drive hp2) (by decide) (by decide)) ?_)
        exact fr_X10_actOf_110 _ ih _ _ _ _ h
      · rcases ite_sp h with ⟨-, h⟩ | ⟨-, h⟩
        · obtain ⟨-, h⟩ := gd_some h
          exact fr_X10_actOf_94 _ ih _ _ _ _ h
        · exact fr_X10_actOf_94 _ ih _ _ _ _ h
theorem fr_X10_actOf_13 : ∀ (n : Nat) (x1 : Int32) (x2 : Int32) (σ : St) {r : St}, f_X10_actOf_13 n x1 x2 σ = some r → frm [46, 47, 48, 49, 50] [(38, 27), (38, 28)] σ r := by
  intro n
  induction n with
  | zero =>
    intro x1 x2 σ r h
    cases h
  | succ n ih =>
    intro x1 x2 σ r h
    simp only [f_X10_actOf_13] at h
    rcases ite_sp h with ⟨-, h⟩ | ⟨-, h⟩
    · exact fr_X10_actOf_50 FU _ _ _ _ h
    · obtain ⟨-, h⟩ := gd_some h
      obtain ⟨-, h⟩ := gd_some h
      exact frm.tr (frm_sI (frm.rf _) (by simp)) (ih _ _ _ h)
theorem fr_X10_actOf_11 (x1 : Int32) (σ : St) {r : St} (h : f_X10_actOf_11 x1 σ = some r) : frm [46, 47, 48, 49, 50] [(38, 27), (38, 28)] σ r := by
  unfold f_X10_actOf_11 at h
  exact fr_X10_actOf_13 FU _ _ _ h
theorem fr_X10_actOf {x1 : Int32} {σ : St} {r : St} (h : f_X10_actOf x1 σ = some r) : frm [46, 47, 48, 49, 50] [(38, 27), (38, 28)] σ r := by
  unfold f_X10_actOf at h
  rcases ite_sp h with ⟨-, h⟩ | ⟨-, h⟩
  · obtain ⟨p3, hp3, h⟩ := bind_sp h
    refine frm.tr (frm.rf _) (frm.tr (frm.mo (fr_X10_keep hp3) (by decide) (by decide)) ?_)
    exact fr_X10_actOf_11 _ _ h
  · exact fr_X10_actOf_11 _ _ h
theorem fr_X10_add_25 (y0 : Int32) (y1 : Int32) (σ : St) {r : Int32 × St} (h : f_X10_add_25 y0 y1 σ = some r) : frm [46, 47, 49, 50] [(38, 18), (38, 27), (38, 28)] σ r.2 := by
  unfold f_X10_add_25 at h
  obtain ⟨p2, hp2, h⟩ := bind_sp h
  refine frm.tr (frm.rf _) (frm.tr (frm.mo (fr_X10_addOf hp2) (by decide) (by decide)) ?_)
  cases h
  exact (frm.rf _)
theorem fr_X10_add {x1 : Int32} {x2 : Int32} {σ : St} {r : Int32 × St} (h : f_X10_add x1 x2 σ = some r) : frm [46, 47, 49, 50] [(38, 18), (38, 27), (38, 28)] σ r.2 := by
  unfold f_X10_add at h
  obtain ⟨p1, hp1, h⟩ := bind_sp h
  refine frm.tr (frm.rf _) (frm.tr (frm.mo (fr_X10_in hp1) (by decide) (by decide)) ?_)
  rcases ite_sp h with ⟨-, h⟩ | ⟨-, h⟩
  · cases h
    exact (frm.rf _)
  · rcases ite_sp h with ⟨-, h⟩ | ⟨-, h⟩
    · exact fr_X10_add_25 _ _ _ h
    · exact fr_X10_add_25 _ _ _ h
theorem fr_X10_act {x1 : Int32} {σ : St} {r : Int32 × St} (h : f_X10_act x1 σ = some r) : frm [46, 47, 48, 49, 50] [(38, 27), (38, 28)] σ r.2 := by
  unfold f_X10_act at h
  obtain ⟨p1, hp1, h⟩ := bind_sp h
  refine frm.tr (frm.rf _) (frm.tr (frm.mo (fr_X10_in hp1) (by decide) (by decide)) ?_)
  rcases ite_sp h with ⟨-, h⟩ | ⟨-, h⟩
  · cases h
    exact (frm.rf _)
  · obtain ⟨p2, hp2, h⟩ := bind_sp h
    refine frm.tr (frm.rf _) (frm.tr (frm.mo (fr_X10_actOf hp2) (by decide) (by decide)) ?_)
    cases h
    exact (frm.rf _)
theorem fr_X10_runOf_79 (k5 : Int32 → Int32 → St → Option (St)) (k22 : Int32 → Int32 → Int32 → St → Option (St)) (hk5 : ∀ (x1 : Int32) (x2 : Int32) (σ : St) {r : St}, k5 x1 x2 σ = some r → frm [46, 47, 48, 49, 50] [(38, 18), (38, 27), (38, 28)] σ r) (hk22 : ∀ (x1 : Int32) (x2 : Int32) (x3 : Int32) (σ : St) {r : St}, k22 x1 x2 x3 σ = some r → frm [46, 47, 48, 49, 50] [(38, 18), (38, 27), (38, 28)] σ r) (x1 : Int32) (x2 : Int32) (x3 : Int32) (σ : St) {r : St} (h : f_X10_runOf_79 k5 k22 x1 x2 x3 σ = some r) : frm [46, 47, 48, 49, 50] [(38, 18), (38, 27), (38, 28)] σ r := by
  unfold f_X10_runOf_79 at h
  exact hk22 _ _ _ _ h
theorem fr_X10_runOf_63 (k5 : Int32 → Int32 → St → Option (St)) (k22 : Int32 → Int32 → Int32 → St → Option (St)) (hk5 : ∀ (x1 : Int32) (x2 : Int32) (σ : St) {r : St}, k5 x1 x2 σ = some r → frm [46, 47, 48, 49, 50] [(38, 18), (38, 27), (38, 28)] σ r) (hk22 : ∀ (x1 : Int32) (x2 : Int32) (x3 : Int32) (σ : St) {r : St}, k22 x1 x2 x3 σ = some r → frm [46, 47, 48, 49, 50] [(38, 18), (38, 27), (38, 28)] σ r) (x1 : Int32) (x2 : Int32) (x3 : Int32) (y0 : Int32) (y1 : Int32) (σ : St) {r : St} (h : f_X10_runOf_63 k5 k22 x1 x2 x3 y0 y1 σ = some r) : frm [46, 47, 48, 49, 50] [(38, 18), (38, 27), (38, 28)] σ r := by
  unfold f_X10_runOf_63 at h
  obtain ⟨p2, hp2, h⟩ := bind_sp h
  refine frm.tr (frm.rf _) (frm.tr (frm.mo (fr_X10_addOf hp2) (by decide) (by decide)) ?_)
  exact fr_X10_runOf_79 _ _ hk5 hk22 _ _ _ _ h
theorem fr_X10_runOf_22 (k5 : Int32 → Int32 → St → Option (St)) (hk5 : ∀ (x1 : Int32) (x2 : Int32) (σ : St) {r : St}, k5 x1 x2 σ = some r → frm [46, 47, 48, 49, 50] [(38, 18), (38, 27), (38, 28)] σ r) : ∀ (n : Nat) (x1 : Int32) (x2 : Int32) (x3 : Int32) (σ : St) {r : St}, f_X10_runOf_22 k5 n x1 x2 x3 σ = some r → frm [46, 47, 48, 49, 50] [(38, 18), (38, 27), (38, 28)] σ r := by
  intro n
  induction n with
  | zero =>
    intro x1 x2 x3 σ r h
    cases h
  | succ n ih =>
    intro x1 x2 x3 σ r h
    simp only [f_X10_runOf_22] at h
    obtain ⟨-, h⟩ := gd_some h
    rcases ite_sp h with ⟨-, h⟩ | ⟨-, h⟩
    · exact hk5 _ _ _ h
    · obtain ⟨-, h⟩ := gd_some h
      rcases ite_sp h with ⟨-, h⟩ | ⟨-, h⟩
      · obtain ⟨-, h⟩ := gd_some h
        obtain ⟨p1, hp1, h⟩ := bind_sp h
        refine frm.tr (frm.rf _) (frm.tr (frm.mo (fr_X10_actOf hp1) (by decide) (by decide)) ?_)
        exact fr_X10_runOf_79 _ _ hk5 ih _ _ _ _ h
      · obtain ⟨-, h⟩ := gd_some h
        obtain ⟨-, h⟩ := gd_some h
        rcases ite_sp h with ⟨-, h⟩ | ⟨-, h⟩
        · exact fr_X10_runOf_63 _ _ hk5 ih _ _ _ _ _ _ h
        · exact fr_X10_runOf_63 _ _ hk5 ih _ _ _ _ _ _ h
theorem fr_X10_runOf_5 : ∀ (n : Nat) (x1 : Int32) (x2 : Int32) (σ : St) {r : St}, f_X10_runOf_5 n x1 x2 σ = some r → frm [46, 47, 48, 49, 50] [(38, 18), (38, 27), (38, 28)] σ r := by
  intro n
  induction n with
  | zero =>
    intro x1 x2 σ r h
    cases h
  | succ n ih =>
    intro x1 x2 σ r h
    simp only [f_X10_runOf_5] at h
    obtain ⟨-, h⟩ := gd_some h
    rcases ite_sp h with ⟨-, h⟩ | ⟨-, h⟩
    · cases h
      exact (frm.rf _)
    · exact fr_X10_runOf_22 _ ih FU _ _ _ _ h
theorem fr_X10_runOf {x1 : Int32} {σ : St} {r : St} (h : f_X10_runOf x1 σ = some r) : frm [46, 47, 48, 49, 50] [(38, 18), (38, 27), (38, 28)] σ r := by
  unfold f_X10_runOf at h
  exact fr_X10_runOf_5 FU _ _ _ h
theorem fr_X10_run {x1 : Int32} {σ : St} {r : Int32 × St} (h : f_X10_run x1 σ = some r) : frm [46, 47, 48, 49, 50] [(38, 18), (38, 27), (38, 28)] σ r.2 := by
  unfold f_X10_run at h
  obtain ⟨p1, hp1, h⟩ := bind_sp h
  refine frm.tr (frm.rf _) (frm.tr (frm.mo (fr_X10_isSum hp1) (by decide) (by decide)) ?_)
  rcases ite_sp h with ⟨-, h⟩ | ⟨-, h⟩
  · cases h
    exact (frm.rf _)
  · obtain ⟨p2, hp2, h⟩ := bind_sp h
    refine frm.tr (frm.rf _) (frm.tr (frm.mo (fr_X10_runOf hp2) (by decide) (by decide)) ?_)
    cases h
    exact (frm.rf _)
theorem fr_X10_undo_63 (k37 : Int32 → St → Option (Int32 × St)) (hk37 : ∀ (x1 : Int32) (σ : St) {r : Int32 × St}, k37 x1 σ = some r → frm [46] [(38, 18), (38, 27), (38, 28)] σ r.2) (x1 : Int32) (σ : St) {r : Int32 × St} (h : f_X10_undo_63 k37 x1 σ = some r) : frm [46] [(38, 18), (38, 27), (38, 28)] σ r.2 := by
  unfold f_X10_undo_63 at h
  exact hk37 _ _ h
theorem fr_X10_undo_37 : ∀ (n : Nat) (x1 : Int32) (σ : St) {r : Int32 × St}, f_X10_undo_37 n x1 σ = some r → frm [46] [(38, 18), (38, 27), (38, 28)] σ r.2 := by
  intro n
  induction n with
  | zero =>
    intro x1 σ r h
    cases h
  | succ n ih =>
    intro x1 σ r h
    simp only [f_X10_undo_37] at h
    rcases ite_sp h with ⟨-, h⟩ | ⟨-, h⟩
    · obtain ⟨-, h⟩ := gd_some h
      cases h
      exact (frm_sJf (frm.rf _) (by simp))
    · obtain ⟨-, h⟩ := gd_some h
      obtain ⟨-, h⟩ := gd_some h
      exact frm.tr (frm_sI (frm.rf _) (by simp)) (fr_X10_undo_63 _ ih _ _ h)
theorem fr_X10_undo_35 (σ : St) {r : Int32 × St} (h : f_X10_undo_35 σ = some r) : frm [46] [(38, 18), (38, 27), (38, 28)] σ r.2 := by
  unfold f_X10_undo_35 at h
  exact fr_X10_undo_37 FU _ _ h
theorem fr_X10_undo {σ : St} {r : Int32 × St} (h : f_X10_undo σ = some r) : frm [46] [(38, 18), (38, 27), (38, 28)] σ r.2 := by
  unfold f_X10_undo at h
  rcases ite_sp h with ⟨-, h⟩ | ⟨-, h⟩
  · cases h
    exact (frm.rf _)
  · exact frm.tr (frm_sIf (frm_sIf (frm.rf _) (by simp)) (by simp)) (fr_X10_undo_35 _ h)
theorem fr_X10_seen_35 (y0 : Int32) (y1 : Int32) (σ : St) {r : Int32 × St} (h : f_X10_seen_35 y0 y1 σ = some r) : frm [] [] σ r.2 := by
  unfold f_X10_seen_35 at h
  cases h
  exact (frm.rf _)
theorem fr_X10_seen_34 (y0 : Int32) (σ : St) {r : Int32 × St} (h : f_X10_seen_34 y0 σ = some r) : frm [] [] σ r.2 := by
  unfold f_X10_seen_34 at h
  exact fr_X10_seen_35 _ _ _ h
theorem fr_X10_seen {x1 : Int32} {σ : St} {r : Int32 × St} (h : f_X10_seen x1 σ = some r) : frm [] [] σ r.2 := by
  unfold f_X10_seen at h
  obtain ⟨-, h⟩ := gd_some h
  obtain ⟨p1, hp1, h⟩ := bind_sp h
  refine frm.tr (frm.rf _) (frm.tr (frm.mo (fr_X10_has hp1) (by decide) (by decide)) ?_)
  rcases ite_sp h with ⟨-, h⟩ | ⟨-, h⟩
  · exact fr_X10_seen_34 _ _ h
  · obtain ⟨-, h⟩ := gd_some h
    rcases ite_sp h with ⟨-, h⟩ | ⟨-, h⟩
    · exact fr_X10_seen_34 _ _ h
    · exact fr_X10_seen_35 _ _ _ h
theorem fr_X10_rope_20 (σ : St) {r : Int32 × St} (h : f_X10_rope_20 σ = some r) : frm [] [] σ r.2 := by
  unfold f_X10_rope_20 at h
  cases h
  exact (frm.rf _)
theorem fr_X10_rope_72 (y0 : Int32) (σ : St) {r : Int32 × St} (h : f_X10_rope_72 y0 σ = some r) : frm [] [] σ r.2 := by
  unfold f_X10_rope_72 at h
  cases h
  exact (frm.rf _)
theorem fr_X10_rope {x1 : Int32} {x2 : Int32} {σ : St} {r : Int32 × St} (h : f_X10_rope x1 x2 σ = some r) : frm [] [] σ r.2 := by
  unfold f_X10_rope at h
  obtain ⟨p1, hp1, h⟩ := bind_sp h
  refine frm.tr (frm.rf _) (frm.tr (frm.mo (fr_X10_isRope hp1) (by decide) (by decide)) ?_)
  rcases ite_sp h with ⟨-, h⟩ | ⟨-, h⟩
  · exact fr_X10_rope_20 _ h
  · obtain ⟨p2, hp2, h⟩ := bind_sp h
    refine frm.tr (frm.rf _) (frm.tr (frm.mo (fr_X10_in hp2) (by decide) (by decide)) ?_)
    rcases ite_sp h with ⟨-, h⟩ | ⟨-, h⟩
    · exact fr_X10_rope_20 _ h
    · rcases ite_sp h with ⟨-, h⟩ | ⟨-, h⟩
      · obtain ⟨-, h⟩ := gd_some h
        exact fr_X10_rope_72 _ _ h
      · rcases ite_sp h with ⟨-, h⟩ | ⟨-, h⟩
        · obtain ⟨-, h⟩ := gd_some h
          exact fr_X10_rope_72 _ _ h
        · obtain ⟨p3, hp3, h⟩ := bind_sp h
          refine frm.tr (frm.rf _) (frm.tr (frm.mo (fr_X10_has hp3) (by decide) (by decide)) ?_)
          rcases ite_sp h with ⟨-, h⟩ | ⟨-, h⟩
          · obtain ⟨p4, hp4, h⟩ := bind_sp h
            refine frm.tr (frm.rf _) (frm.tr (frm.mo (fr_X10_seen hp4) (by decide) (by decide)) ?_)
            exact fr_X10_rope_72 _ _ h
          · exact fr_X10_rope_72 _ _ h
theorem fr_X10_number_29 (k9 : Int64 → Int32 → St → Option (Int64 × St)) (hk9 : ∀ (x1 : Int64) (x3 : Int32) (σ : St) {r : Int64 × St}, k9 x1 x3 σ = some r → frm [] [] σ r.2) (x1 : Int64) (x3 : Int32) (σ : St) {r : Int64 × St} (h : f_X10_number_29 k9 x1 x3 σ = some r) : frm [] [] σ r.2 := by
  unfold f_X10_number_29 at h
  exact hk9 _ _ _ h
theorem fr_X10_number_9 : ∀ (n : Nat) (x1 : Int64) (x3 : Int32) (σ : St) {r : Int64 × St}, f_X10_number_9 n x1 x3 σ = some r → frm [] [] σ r.2 := by
  intro n
  induction n with
  | zero =>
    intro x1 x3 σ r h
    cases h
  | succ n ih =>
    intro x1 x3 σ r h
    simp only [f_X10_number_9] at h
    rcases ite_sp h with ⟨-, h⟩ | ⟨-, h⟩
    · cases h
      exact (frm.rf _)
    · obtain ⟨-, h⟩ := gd_some h
      exact fr_X10_number_29 _ ih _ _ _ h
theorem fr_X10_number {σ : St} {r : Int64 × St} (h : f_X10_number σ = some r) : frm [] [] σ r.2 := by
  unfold f_X10_number at h
  exact fr_X10_number_9 FU _ _ _ h
theorem fr_X10_told_25 (y0 : Int32) (σ : St) {r : Int32 × St} (h : f_X10_told_25 y0 σ = some r) : frm [] [] σ r.2 := by
  unfold f_X10_told_25 at h
  cases h
  exact (frm.rf _)
theorem fr_X10_told {x1 : Int32} {σ : St} {r : Int32 × St} (h : f_X10_told x1 σ = some r) : frm [] [] σ r.2 := by
  unfold f_X10_told at h
  obtain ⟨p1, hp1, h⟩ := bind_sp h
  refine frm.tr (frm.rf _) (frm.tr (frm.mo (fr_X10_in hp1) (by decide) (by decide)) ?_)
  rcases ite_sp h with ⟨-, h⟩ | ⟨-, h⟩
  · exact fr_X10_told_25 _ _ h
  · obtain ⟨-, h⟩ := gd_some h
    exact fr_X10_told_25 _ _ h
theorem fr_X10_workAll_229 (k12 : Int32 → Int32 → Int32 → Int32 → St → Option (St)) (k84 : Int32 → Int32 → Int32 → Int32 → Int32 → Int32 → Int32 → Int32 → Int32 → Int32 → St → Option (St)) (hk12 : ∀ (x1 : Int32) (x2 : Int32) (x3 : Int32) (x4 : Int32) (σ : St) {r : St}, k12 x1 x2 x3 x4 σ = some r → frm [51] [] σ r) (hk84 : ∀ (x1 : Int32) (x2 : Int32) (x3 : Int32) (x4 : Int32) (x5 : Int32) (x6 : Int32) (x7 : Int32) (x8 : Int32) (x9 : Int32) (x10 : Int32) (σ : St) {r : St}, k84 x1 x2 x3 x4 x5 x6 x7 x8 x9 x10 σ = some r → frm [51] [] σ r) (x1 : Int32) (x2 : Int32) (x3 : Int32) (x4 : Int32) (x5 : Int32) (x6 : Int32) (x7 : Int32) (x8 : Int32) (x9 : Int32) (x10 : Int32) (σ : St) {r : St} (h : f_X10_workAll_229 k12 k84 x1 x2 x3 x4 x5 x6 x7 x8 x9 x10 σ = some r) : frm [51] [] σ r := by
  unfold f_X10_workAll_229 at h
  exact hk84 _ _ _ _ _ _ _ _ _ _ _ h
theorem fr_X10_workAll_223 (k12 : Int32 → Int32 → Int32 → Int32 → St → Option (St)) (k84 : Int32 → Int32 → Int32 → Int32 → Int32 → Int32 → Int32 → Int32 → Int32 → Int32 → St → Option (St)) (hk12 : ∀ (x1 : Int32) (x2 : Int32) (x3 : Int32) (x4 : Int32) (σ : St) {r : St}, k12 x1 x2 x3 x4 σ = some r → frm [51] [] σ r) (hk84 : ∀ (x1 : Int32) (x2 : Int32) (x3 : Int32) (x4 : Int32) (x5 : Int32) (x6 : Int32) (x7 : Int32) (x8 : Int32) (x9 : Int32) (x10 : Int32) (σ : St) {r : St}, k84 x1 x2 x3 x4 x5 x6 x7 x8 x9 x10 σ = some r → frm [51] [] σ r) (x1 : Int32) (x2 : Int32) (x3 : Int32) (x4 : Int32) (x5 : Int32) (x7 : Int32) (x9 : Int32) (x10 : Int32) (x14 : Int32) (y0 : Int32) (σ : St) {r : St} (h : f_X10_workAll_223 k12 k84 x1 x2 x3 x4 x5 x7 x9 x10 x14 y0 σ = some r) : frm [51] [] σ r := by
  unfold f_X10_workAll_223 at h
  exact fr_X10_workAll_229 _ _ hk12 hk84 _ _ _ _ _ _ _ _ _ _ _ h
theorem fr_X10_workAll_204 (k12 : Int32 → Int32 → Int32 → Int32 → St → Option (St)) (k84 : Int32 → Int32 → Int32 → Int32 → Int32 → Int32 → Int32 → Int32 → Int32 → Int32 → St → Option (St)) (hk12 : ∀ (x1 : Int32) (x2 : Int32) (x3 : Int32) (x4 : Int32) (σ : St) {r : St}, k12 x1 x2 x3 x4 σ = some r → frm [51] [] σ r) (hk84 : ∀ (x1 : Int32) (x2 : Int32) (x3 : Int32) (x4 : Int32) (x5 : Int32) (x6 : Int32) (x7 : Int32) (x8 : Int32) (x9 : Int32) (x10 : Int32) (σ : St) {r : St}, k84 x1 x2 x3 x4 x5 x6 x7 x8 x9 x10 σ = some r → frm [51] [] σ r) (x1 : Int32) (x2 : Int32) (x3 : Int32) (x4 : Int32) (x5 : Int32) (x7 : Int32) (x8 : Int32) (x9 : Int32) (x10 : Int32) (x13 : Int32) (x14 : Int32) (σ : St) {r : St} (h : f_X10_workAll_204 k12 k84 x1 x2 x3 x4 x5 x7 x8 x9 x10 x13 x14 σ = some r) : frm [51] [] σ r := by
  unfold f_X10_workAll_204 at h
  rcases ite_sp h with ⟨-, h⟩ | ⟨-, h⟩
  · exact fr_X10_workAll_223 _ _ hk12 hk84 _ _ _ _ _ _ _ _ _ _ _ h
  · exact fr_X10_workAll_223 _ _ hk12 hk84 _ _ _ _ _ _ _ _ _ _ _ h
theorem fr_X10_workAll_181 (k12 : Int32 → Int32 → Int32 → Int32 → St → Option (St)) (k84 : Int32 → Int32 → Int32 → Int32 → Int32 → Int32 → Int32 → Int32 → Int32 → Int32 → St → Option (St)) (hk12 : ∀ (x1 : Int32) (x2 : Int32) (x3 : Int32) (x4 : Int32) (σ : St) {r : St}, k12 x1 x2 x3 x4 σ = some r → frm [51] [] σ r) (hk84 : ∀ (x1 : Int32) (x2 : Int32) (x3 : Int32) (x4 : Int32) (x5 : Int32) (x6 : Int32) (x7 : Int32) (x8 : Int32) (x9 : Int32) (x10 : Int32) (σ : St) {r : St}, k84 x1 x2 x3 x4 x5 x6 x7 x8 x9 x10 σ = some r → frm [51] [] σ r) (x1 : Int32) (x2 : Int32) (x3 : Int32) (x4 : Int32) (x5 : Int32) (x6 : Int32) (x7 : Int32) (x8 : Int32) (x9 : Int32) (x10 : Int32) (x12 : Int32) (x13 : Int32) (x14 : Int32) (σ : St) {r : St} (h : f_X10_workAll_181 k12 k84 x1 x2 x3 x4 x5 x6 x7 x8 x9 x10 x12 x13 x14 σ = some r) : frm [51] [] σ r := by
  unfold f_X10_workAll_181 at h
  exact fr_X10_workAll_204 _ _ hk12 hk84 _ _ _ _ _ _ _ _ _ _ _ _ h
theorem fr_X10_workAll_169 (k12 : Int32 → Int32 → Int32 → Int32 → St → Option (St)) (k84 : Int32 → Int32 → Int32 → Int32 → Int32 → Int32 → Int32 → Int32 → Int32 → Int32 → St → Option (St)) (hk12 : ∀ (x1 : Int32) (x2 : Int32) (x3 : Int32) (x4 : Int32) (σ : St) {r : St}, k12 x1 x2 x3 x4 σ = some r → frm [51] [] σ r) (hk84 : ∀ (x1 : Int32) (x2 : Int32) (x3 : Int32) (x4 : Int32) (x5 : Int32) (x6 : Int32) (x7 : Int32) (x8 : Int32) (x9 : Int32) (x10 : Int32) (σ : St) {r : St}, k84 x1 x2 x3 x4 x5 x6 x7 x8 x9 x10 σ = some r → frm [51] [] σ r) (x1 : Int32) (x2 : Int32) (x3 : Int32) (x4 : Int32) (x5 : Int32) (x6 : Int32) (x7 : Int32) (x8 : Int32) (x9 : Int32) (x10 : Int32) (x12 : Int32) (x13 : Int32) (y0 : Int32) (σ : St) {r : St} (h : f_X10_workAll_169 k12 k84 x1 x2 x3 x4 x5 x6 x7 x8 x9 x10 x12 x13 y0 σ = some r) : frm [51] [] σ r := by
  unfold f_X10_workAll_169 at h
  obtain ⟨-, h⟩ := gd_some h
  exact fr_X10_workAll_181 _ _ hk12 hk84 _ _ _ _ _ _ _ _ _ _ _ _ _ _ h
theorem fr_X10_workAll_152 (k12 : Int32 → Int32 → Int32 → Int32 → St → Option (St)) (k84 : Int32 → Int32 → Int32 → Int32 → Int32 → Int32 → Int32 → Int32 → Int32 → Int32 → St → Option (St)) (hk12 : ∀ (x1 : Int32) (x2 : Int32) (x3 : Int32) (x4 : Int32) (σ : St) {r : St}, k12 x1 x2 x3 x4 σ = some r → frm [51] [] σ r) (hk84 : ∀ (x1 : Int32) (x2 : Int32) (x3 : Int32) (x4 : Int32) (x5 : Int32) (x6 : Int32) (x7 : Int32) (x8 : Int32) (x9 : Int32) (x10 : Int32) (σ : St) {r : St}, k84 x1 x2 x3 x4 x5 x6 x7 x8 x9 x10 σ = some r → frm [51] [] σ r) (x1 : Int32) (x2 : Int32) (x3 : Int32) (x4 : Int32) (x5 : Int32) (x6 : Int32) (x7 : Int32) (x8 : Int32) (x9 : Int32) (x10 : Int32) (x12 : Int32) (x13 : Int32) (σ : St) {r : St} (h : f_X10_workAll_152 k12 k84 x1 x2 x3 x4 x5 x6 x7 x8 x9 x10 x12 x13 σ = some r) : frm [51] [] σ r := by
  unfold f_X10_workAll_152 at h
  rcases ite_sp h with ⟨-, h⟩ | ⟨-, h⟩
  · exact fr_X10_workAll_169 _ _ hk12 hk84 _ _ _ _ _ _ _ _ _ _ _ _ _ _ h
  · exact fr_X10_workAll_169 _ _ hk12 hk84 _ _ _ _ _ _ _ _ _ _ _ _ _ _ h
theorem fr_X10_workAll_149 (k12 : Int32 → Int32 → Int32 → Int32 → St → Option (St)) (k84 : Int32 → Int32 → Int32 → Int32 → Int32 → Int32 → Int32 → Int32 → Int32 → Int32 → St → Option (St)) (hk12 : ∀ (x1 : Int32) (x2 : Int32) (x3 : Int32) (x4 : Int32) (σ : St) {r : St}, k12 x1 x2 x3 x4 σ = some r → frm [51] [] σ r) (hk84 : ∀ (x1 : Int32) (x2 : Int32) (x3 : Int32) (x4 : Int32) (x5 : Int32) (x6 : Int32) (x7 : Int32) (x8 : Int32) (x9 : Int32) (x10 : Int32) (σ : St) {r : St}, k84 x1 x2 x3 x4 x5 x6 x7 x8 x9 x10 σ = some r → frm [51] [] σ r) (x1 : Int32) (x2 : Int32) (x3 : Int32) (x4 : Int32) (x5 : Int32) (x6 : Int32) (x7 : Int32) (x8 : Int32) (x9 : Int32) (x10 : Int32) (x12 : Int32) (y0 : Int32) (y1 : Int32) (σ : St) {r : St} (h : f_X10_workAll_149 k12 k84 x1 x2 x3 x4 x5 x6 x7 x8 x9 x10 x12 y0 y1 σ = some r) : frm [51] [] σ r := by
  unfold f_X10_workAll_149 at h
  exact fr_X10_workAll_152 _ _ hk12 hk84 _ _ _ _ _ _ _ _ _ _ _ _ _ h
theorem fr_X10_workAll_123 (k12 : Int32 → Int32 → Int32 → Int32 → St → Option (St)) (k84 : Int32 → Int32 → Int32 → Int32 → Int32 → Int32 → Int32 → Int32 → Int32 → Int32 → St → Option (St)) (hk12 : ∀ (x1 : Int32) (x2 : Int32) (x3 : Int32) (x4 : Int32) (σ : St) {r : St}, k12 x1 x2 x3 x4 σ = some r → frm [51] [] σ r) (hk84 : ∀ (x1 : Int32) (x2 : Int32) (x3 : Int32) (x4 : Int32) (x5 : Int32) (x6 : Int32) (x7 : Int32) (x8 : Int32) (x9 : Int32) (x10 : Int32) (σ : St) {r : St}, k84 x1 x2 x3 x4 x5 x6 x7 x8 x9 x10 σ = some r → frm [51] [] σ r) (x1 : Int32) (x2 : Int32) (x3 : Int32) (x4 : Int32) (x5 : Int32) (x6 : Int32) (x7 : Int32) (x8 : Int32) (x9 : Int32) (x10 : Int32) (x11 : Int32) (y0 : Int32) (σ : St) {r : St} (h : f_X10_workAll_123 k12 k84 x1 x2 x3 x4 x5 x6 x7 x8 x9 x10 x11 y0 σ = some r) : frm [51] [] σ r := by
  unfold f_X10_workAll_123 at h
  rcases ite_sp h with ⟨-, h⟩ | ⟨-, h⟩
  · exact fr_X10_workAll_229 _ _ hk12 hk84 _ _ _ _ _ _ _ _ _ _ _ h
  · rcases ite_sp h with ⟨-, h⟩ | ⟨-, h⟩
    · exact fr_X10_workAll_149 _ _ hk12 hk84 _ _ _ _ _ _ _ _ _ _ _ _ _ _ h
    · obtain ⟨p2, hp2, h⟩ := bind_sp h
      refine frm.tr (frm.rf _) (frm.tr (frm.mo (fr_X10_digitOf hp2) (by decide) (by decide)) ?_)
      exact fr_X10_workAll_149 _ _ hk12 hk84 _ _ _ _ _ _ _ _ _ _ _ _ _ _ h
theorem fr_X10_workAll_110 (k12 : Int32 → Int32 → Int32 → Int32 → St → Option (St)) (k84 : Int32 → Int32 → Int32 → Int32 → Int32 → Int32 → Int32 → Int32 → Int32 → Int32 → St → Option (St)) (hk12 : ∀ (x1 : Int32) (x2 : Int32) (x3 : Int32) (x4 : Int32) (σ : St) {r : St}, k12 x1 x2 x3 x4 σ = some r → frm [51] [] σ r) (hk84 : ∀ (x1 : Int32) (x2 : Int32) (x3 : Int32) (x4 : Int32) (x5 : Int32) (x6 : Int32) (x7 : Int32) (x8 : Int32) (x9 : Int32) (x10 : Int32) (σ : St) {r : St}, k84 x1 x2 x3 x4 x5 x6 x7 x8 x9 x10 σ = some r → frm [51] [] σ r) (x1 : Int32) (x2 : Int32) (x3 : Int32) (x4 : Int32) (x5 : Int32) (x6 : Int32) (x7 : Int32) (x8 : Int32) (x9 : Int32) (x10 : Int32) (y0 : Int32) (σ : St) {r : St} (h : f_X10_workAll_110 k12 k84 x1 x2 x3 x4 x5 x6 x7 x8 x9 x10 y0 σ = some r) : frm [51] [] σ r := by
  unfold f_X10_workAll_110 at h
  rcases ite_sp h with ⟨-, h⟩ | ⟨-, h⟩
  · exact fr_X10_workAll_123 _ _ hk12 hk84 _ _ _ _ _ _ _ _ _ _ _ _ _ h
  · exact fr_X10_workAll_123 _ _ hk12 hk84 _ _ _ _ _ _ _ _ _ _ _ _ _ h
theorem fr_X10_workAll_100 (k12 : Int32 → Int32 → Int32 → Int32 → St → Option (St)) (k84 : Int32 → Int32 → Int32 → Int32 → Int32 → Int32 → Int32 → Int32 → Int32 → Int32 → St → Option (St)) (hk12 : ∀ (x1 : Int32) (x2 : Int32) (x3 : Int32) (x4 : Int32) (σ : St) {r : St}, k12 x1 x2 x3 x4 σ = some r → frm [51] [] σ r) (hk84 : ∀ (x1 : Int32) (x2 : Int32) (x3 : Int32) (x4 : Int32) (x5 : Int32) (x6 : Int32) (x7 : Int32) (x8 : Int32) (x9 : Int32) (x10 : Int32) (σ : St) {r : St}, k84 x1 x2 x3 x4 x5 x6 x7 x8 x9 x10 σ = some r → frm [51] [] σ r) (x1 : Int32) (x2 : Int32) (x3 : Int32) (x4 : Int32) (x5 : Int32) (x6 : Int32) (x7 : Int32) (x8 : Int32) (x9 : Int32) (x10 : Int32) (y0 : Int32) (σ : St) {r : St} (h : f_X10_workAll_100 k12 k84 x1 x2 x3 x4 x5 x6 x7 x8 x9 x10 y0 σ = some r) : frm [51] [] σ r := by
  unfold f_X10_workAll_100 at h
  rcases ite_sp h with ⟨-, h⟩ | ⟨-, h⟩
  · exact fr_X10_workAll_110 _ _ hk12 hk84 _ _ _ _ _ _ _ _ _ _ _ _ h
  · exact fr_X10_workAll_110 _ _ hk12 hk84 _ _ _ _ _ _ _ _ _ _ _ _ h
theorem fr_X10_workAll_84 (k12 : Int32 → Int32 → Int32 → Int32 → St → Option (St)) (hk12 : ∀ (x1 : Int32) (x2 : Int32) (x3 : Int32) (x4 : Int32) (σ : St) {r : St}, k12 x1 x2 x3 x4 σ = some r → frm [51] [] σ r) : ∀ (n : Nat) (x1 : Int32) (x2 : Int32) (x3 : Int32) (x4 : Int32) (x5 : Int32) (x6 : Int32) (x7 : Int32) (x8 : Int32) (x9 : Int32) (x10 : Int32) (σ : St) {r : St}, f_X10_workAll_84 k12 n x1 x2 x3 x4 x5 x6 x7 x8 x9 x10 σ = some r → frm [51] [] σ r := by
  intro n
  induction n with
  | zero =>
    intro x1 x2 x3 x4 x5 x6 x7 x8 x9 x10 σ r h
    cases h
  | succ n ih =>
    intro x1 x2 x3 x4 x5 x6 x7 x8 x9 x10 σ r h
    simp only [f_X10_workAll_84] at h
    rcases ite_sp h with ⟨-, h⟩ | ⟨-, h⟩
    · obtain ⟨-, h⟩ := gd_some h
      exact frm.tr (frm_sI (frm.rf _) (by simp)) (hk12 _ _ _ _ _ h)
    · rcases ite_sp h with ⟨-, h⟩ | ⟨-, h⟩
      · exact fr_X10_workAll_100 _ _ hk12 ih _ _ _ _ _ _ _ _ _ _ _ _ h
      · exact fr_X10_workAll_100 _ _ hk12 ih _ _ _ _ _ _ _ _ _ _ _ _ h
theorem fr_X10_workAll_79 (k12 : Int32 → Int32 → Int32 → Int32 → St → Option (St)) (hk12 : ∀ (x1 : Int32) (x2 : Int32) (x3 : Int32) (x4 : Int32) (σ : St) {r : St}, k12 x1 x2 x3 x4 σ = some r → frm [51] [] σ r) (x1 : Int32) (x2 : Int32) (x3 : Int32) (x4 : Int32) (x5 : Int32) (x6 : Int32) (x7 : Int32) (x8 : Int32) (y0 : Int32) (σ : St) {r : St} (h : f_X10_workAll_79 k12 x1 x2 x3 x4 x5 x6 x7 x8 y0 σ = some r) : frm [51] [] σ r := by
  unfold f_X10_workAll_79 at h
  exact fr_X10_workAll_84 _ hk12 FU _ _ _ _ _ _ _ _ _ _ _ h
theorem fr_X10_workAll_78 (k12 : Int32 → Int32 → Int32 → Int32 → St → Option (St)) (hk12 : ∀ (x1 : Int32) (x2 : Int32) (x3 : Int32) (x4 : Int32) (σ : St) {r : St}, k12 x1 x2 x3 x4 σ = some r → frm [51] [] σ r) (x1 : Int32) (x2 : Int32) (x3 : Int32) (x4 : Int32) (x5 : Int32) (x6 : Int32) (x7 : Int32) (x8 : Int32) (σ : St) {r : St} (h : f_X10_workAll_78 k12 x1 x2 x3 x4 x5 x6 x7 x8 σ = some r) : frm [51] [] σ r := by
  unfold f_X10_workAll_78 at h
  exact fr_X10_workAll_79 _ hk12 _ _ _ _ _ _ _ _ _ _ h
theorem fr_X10_workAll_74 (k12 : Int32 → Int32 → Int32 → Int32 → St → Option (St)) (hk12 : ∀ (x1 : Int32) (x2 : Int32) (x3 : Int32) (x4 : Int32) (σ : St) {r : St}, k12 x1 x2 x3 x4 σ = some r → frm [51] [] σ r) (x1 : Int32) (x2 : Int32) (x3 : Int32) (x4 : Int32) (x5 : Int32) (x6 : Int32) (x7 : Int32) (x8 : Int32) (σ : St) {r : St} (h : f_X10_workAll_74 k12 x1 x2 x3 x4 x5 x6 x7 x8 σ = some r) : frm [51] [] σ r := by
  unfold f_X10_workAll_74 at h
  exact fr_X10_workAll_79 _ hk12 _ _ _ _ _ _ _ _ _ _ h
theorem fr_X10_workAll_51 (k12 : Int32 → Int32 → Int32 → Int32 → St → Option (St)) (hk12 : ∀ (x1 : Int32) (x2 : Int32) (x3 : Int32) (x4 : Int32) (σ : St) {r : St}, k12 x1 x2 x3 x4 σ = some r → frm [51] [] σ r) (x1 : Int32) (x2 : Int32) (x3 : Int32) (x4 : Int32) (x5 : Int32) (x6 : Int32) (σ : St) {r : St} (h : f_X10_workAll_51 k12 x1 x2 x3 x4 x5 x6 σ = some r) : frm [51] [] σ r := by
  unfold f_X10_workAll_51 at h
  rcases ite_sp h with ⟨-, h⟩ | ⟨-, h⟩
  · exact fr_X10_workAll_78 _ hk12 _ _ _ _ _ _ _ _ _ h
  · rcases ite_sp h with ⟨-, h⟩ | ⟨-, h⟩
    · exact fr_X10_workAll_74 _ hk12 _ _ _ _ _ _ _ _ _ h
    · rcases ite_sp h with ⟨-, h⟩ | ⟨-, h⟩
      · exact fr_X10_workAll_78 _ hk12 _ _ _ _ _ _ _ _ _ h
      · exact fr_X10_workAll_74 _ hk12 _ _ _ _ _ _ _ _ _ h
theorem fr_X10_workAll_38 (k12 : Int32 → Int32 → Int32 → Int32 → St → Option (St)) (hk12 : ∀ (x1 : Int32) (x2 : Int32) (x3 : Int32) (x4 : Int32) (σ : St) {r : St}, k12 x1 x2 x3 x4 σ = some r → frm [51] [] σ r) (x1 : Int32) (x2 : Int32) (x3 : Int32) (x4 : Int32) (y0 : Int32) (σ : St) {r : St} (h : f_X10_workAll_38 k12 x1 x2 x3 x4 y0 σ = some r) : frm [51] [] σ r := by
  unfold f_X10_workAll_38 at h
  obtain ⟨-, h⟩ := gd_some h
  exact fr_X10_workAll_51 _ hk12 _ _ _ _ _ _ _ h
theorem fr_X10_workAll_12 : ∀ (n : Nat) (x1 : Int32) (x2 : Int32) (x3 : Int32) (x4 : Int32) (σ : St) {r : St}, f_X10_workAll_12 n x1 x2 x3 x4 σ = some r → frm [51] [] σ r := by
  intro n
  induction n with
  | zero =>
    intro x1 x2 x3 x4 σ r h
    cases h
  | succ n ih =>
    intro x1 x2 x3 x4 σ r h
    simp only [f_X10_workAll_12] at h
    rcases ite_sp h with ⟨-, h⟩ | ⟨-, h⟩
    · cases h
      exact (frm.rf _)
    · rcases ite_sp h with ⟨-, h⟩ | ⟨-, h⟩
      · exact fr_X10_workAll_38 _ ih _ _ _ _ _ _ h
      · exact fr_X10_workAll_38 _ ih _ _ _ _ _ _ h
theorem fr_X10_workAll {x1 : Int32} {σ : St} {r : St} (h : f_X10_workAll x1 σ = some r) : frm [51] [] σ r := by
  unfold f_X10_workAll at h
  obtain ⟨p1, hp1, h⟩ := bind_sp h
  refine frm.tr (frm.rf _) (frm.tr (frm.mo (fr_X10_highest hp1) (by decide) (by decide)) ?_)
  exact fr_X10_workAll_12 FU _ _ _ _ _ h
theorem fr_X10_done_25 (σ : St) {r : Int32 × St} (h : f_X10_done_25 σ = some r) : frm [51] [] σ r.2 := by
  unfold f_X10_done_25 at h
  cases h
  exact (frm.rf _)
theorem fr_X10_done_79 (y0 : Int32) (σ : St) {r : Int32 × St} (h : f_X10_done_79 y0 σ = some r) : frm [51] [] σ r.2 := by
  unfold f_X10_done_79 at h
  cases h
  exact (frm.rf _)
theorem fr_X10_done_58 (k37 : Int32 → Int32 → Int32 → St → Option (Int32 × St)) (hk37 : ∀ (x2 : Int32) (x3 : Int32) (x4 : Int32) (σ : St) {r : Int32 × St}, k37 x2 x3 x4 σ = some r → frm [51] [] σ r.2) (x2 : Int32) (x3 : Int32) (x4 : Int32) (σ : St) {r : Int32 × St} (h : f_X10_done_58 k37 x2 x3 x4 σ = some r) : frm [51] [] σ r.2 := by
  unfold f_X10_done_58 at h
  exact hk37 _ _ _ _ h
theorem fr_X10_done_37 : ∀ (n : Nat) (x2 : Int32) (x3 : Int32) (x4 : Int32) (σ : St) {r : Int32 × St}, f_X10_done_37 n x2 x3 x4 σ = some r → frm [51] [] σ r.2 := by
  intro n
  induction n with
  | zero =>
    intro x2 x3 x4 σ r h
    cases h
  | succ n ih =>
    intro x2 x3 x4 σ r h
    simp only [f_X10_done_37] at h
    rcases ite_sp h with ⟨-, h⟩ | ⟨-, h⟩
    · rcases ite_sp h with ⟨-, h⟩ | ⟨-, h⟩
      · exact fr_X10_done_79 _ _ h
      · obtain ⟨-, h⟩ := gd_some h
        exact fr_X10_done_79 _ _ h
    · obtain ⟨-, h⟩ := gd_some h
      exact fr_X10_done_58 _ ih _ _ _ _ h
theorem fr_X10_done_27 (x1 : Int32) (x2 : Int32) (σ : St) {r : Int32 × St} (h : f_X10_done_27 x1 x2 σ = some r) : frm [51] [] σ r.2 := by
  unfold f_X10_done_27 at h
  obtain ⟨p2, hp2, h⟩ := bind_sp h
  refine frm.tr (frm.rf _) (frm.tr (frm.mo (fr_X10_workAll hp2) (by decide) (by decide)) ?_)
  exact fr_X10_done_37 FU _ _ _ _ h
theorem fr_X10_done {x1 : Int32} {x2 : Int32} {σ : St} {r : Int32 × St} (h : f_X10_done x1 x2 σ = some r) : frm [51] [] σ r.2 := by
  unfold f_X10_done at h
  obtain ⟨p1, hp1, h⟩ := bind_sp h
  refine frm.tr (frm.rf _) (frm.tr (frm.mo (fr_X10_in hp1) (by decide) (by decide)) ?_)
  rcases ite_sp h with ⟨-, h⟩ | ⟨-, h⟩
  · exact fr_X10_done_25 _ h
  · rcases ite_sp h with ⟨-, h⟩ | ⟨-, h⟩
    · exact fr_X10_done_27 _ _ _ h
    · obtain ⟨p3, hp3, h⟩ := bind_sp h
      refine frm.tr (frm.rf _) (frm.tr (frm.mo (fr_X10_isRope hp3) (by decide) (by decide)) ?_)
      rcases ite_sp h with ⟨-, h⟩ | ⟨-, h⟩
      · exact fr_X10_done_25 _ h
      · exact fr_X10_done_27 _ _ _ h
theorem fr_X10_two_36 (y0 : Int32) (σ : St) {r : Int32 × St} (h : f_X10_two_36 y0 σ = some r) : frm [] [(38, 19)] σ r.2 := by
  unfold f_X10_two_36 at h
  cases h
  exact (frm_sIf (frm.rf _) (by simp))
theorem fr_X10_two {x1 : Int32} {x2 : Int32} {σ : St} {r : Int32 × St} (h : f_X10_two x1 x2 σ = some r) : frm [] [(38, 19)] σ r.2 := by
  unfold f_X10_two at h
  obtain ⟨p1, hp1, h⟩ := bind_sp h
  refine frm.tr (frm.rf _) (frm.tr (frm.mo (fr_X10_isRope hp1) (by decide) (by decide)) ?_)
  rcases ite_sp h with ⟨-, h⟩ | ⟨-, h⟩
  · cases h
    exact (frm.rf _)
  · rcases ite_sp h with ⟨-, h⟩ | ⟨-, h⟩
    · exact fr_X10_two_36 _ _ h
    · exact fr_X10_two_36 _ _ h
theorem fr_X10_fog_29 (σ : St) {r : Int32 × St} (h : f_X10_fog_29 σ = some r) : frm [] [(38, 20)] σ r.2 := by
  unfold f_X10_fog_29 at h
  cases h
  exact (frm.rf _)
theorem fr_X10_fog_57 (y0 : Int32) (σ : St) {r : Int32 × St} (h : f_X10_fog_57 y0 σ = some r) : frm [] [(38, 20)] σ r.2 := by
  unfold f_X10_fog_57 at h
  cases h
  exact (frm_sIf (frm.rf _) (by simp))
theorem fr_X10_fog_31 (x1 : Int32) (x2 : Int32) (σ : St) {r : Int32 × St} (h : f_X10_fog_31 x1 x2 σ = some r) : frm [] [(38, 20)] σ r.2 := by
  unfold f_X10_fog_31 at h
  rcases ite_sp h with ⟨-, h⟩ | ⟨-, h⟩
  · exact fr_X10_fog_57 _ _ h
  · exact fr_X10_fog_57 _ _ h
theorem fr_X10_fog {x1 : Int32} {x2 : Int32} {σ : St} {r : Int32 × St} (h : f_X10_fog x1 x2 σ = some r) : frm [] [(38, 20)] σ r.2 := by
  unfold f_X10_fog at h
  obtain ⟨p1, hp1, h⟩ := bind_sp h
  refine frm.tr (frm.rf _) (frm.tr (frm.mo (fr_X10_isRope hp1) (by decide) (by decide)) ?_)
  rcases ite_sp h with ⟨-, h⟩ | ⟨-, h⟩
  · exact fr_X10_fog_29 _ h
  · rcases ite_sp h with ⟨-, h⟩ | ⟨-, h⟩
    · exact fr_X10_fog_31 _ _ _ h
    · obtain ⟨p2, hp2, h⟩ := bind_sp h
      refine frm.tr (frm.rf _) (frm.tr (frm.mo (fr_J6_bitCount_0f7a4 hp2) (by decide) (by decide)) ?_)
      rcases ite_sp h with ⟨-, h⟩ | ⟨-, h⟩
      · exact fr_X10_fog_29 _ h
      · exact fr_X10_fog_31 _ _ _ h
theorem fr_X10_ten_15 (k4 : Int32 → Int64 → Int32 → St → Option (Int64 × St)) (hk4 : ∀ (x0 : Int32) (x1 : Int64) (x3 : Int32) (σ : St) {r : Int64 × St}, k4 x0 x1 x3 σ = some r → frm [] [] σ r.2) (x0 : Int32) (x1 : Int64) (x3 : Int32) (σ : St) {r : Int64 × St} (h : f_X10_ten_15 k4 x0 x1 x3 σ = some r) : frm [] [] σ r.2 := by
  unfold f_X10_ten_15 at h
  exact hk4 _ _ _ _ h
theorem fr_X10_ten_4 : ∀ (n : Nat) (x0 : Int32) (x1 : Int64) (x3 : Int32) (σ : St) {r : Int64 × St}, f_X10_ten_4 n x0 x1 x3 σ = some r → frm [] [] σ r.2 := by
  intro n
  induction n with
  | zero =>
    intro x0 x1 x3 σ r h
    cases h
  | succ n ih =>
    intro x0 x1 x3 σ r h
    simp only [f_X10_ten_4] at h
    rcases ite_sp h with ⟨-, h⟩ | ⟨-, h⟩
    · cases h
      exact (frm.rf _)
    · exact fr_X10_ten_15 _ ih _ _ _ _ h
theorem fr_X10_ten {x0 : Int32} {σ : St} {r : Int64 × St} (h : f_X10_ten x0 σ = some r) : frm [] [] σ r.2 := by
  unfold f_X10_ten at h
  exact fr_X10_ten_4 FU _ _ _ _ h
theorem fr_X10_seenNumber_41 (k4 : Int64 → Int32 → St → Option (Int64 × St)) (hk4 : ∀ (x1 : Int64) (x3 : Int32) (σ : St) {r : Int64 × St}, k4 x1 x3 σ = some r → frm [] [] σ r.2) (x1 : Int64) (x3 : Int32) (σ : St) {r : Int64 × St} (h : f_X10_seenNumber_41 k4 x1 x3 σ = some r) : frm [] [] σ r.2 := by
  unfold f_X10_seenNumber_41 at h
  exact hk4 _ _ _ h
theorem fr_X10_seenNumber_39 (k4 : Int64 → Int32 → St → Option (Int64 × St)) (hk4 : ∀ (x1 : Int64) (x3 : Int32) (σ : St) {r : Int64 × St}, k4 x1 x3 σ = some r → frm [] [] σ r.2) (x3 : Int32) (y0 : Int64) (y1 : Int64) (σ : St) {r : Int64 × St} (h : f_X10_seenNumber_39 k4 x3 y0 y1 σ = some r) : frm [] [] σ r.2 := by
  unfold f_X10_seenNumber_39 at h
  exact fr_X10_seenNumber_41 _ hk4 _ _ _ h
theorem fr_X10_seenNumber_4 : ∀ (n : Nat) (x1 : Int64) (x3 : Int32) (σ : St) {r : Int64 × St}, f_X10_seenNumber_4 n x1 x3 σ = some r → frm [] [] σ r.2 := by
  intro n
  induction n with
  | zero =>
    intro x1 x3 σ r h
    cases h
  | succ n ih =>
    intro x1 x3 σ r h
    simp only [f_X10_seenNumber_4] at h
    rcases ite_sp h with ⟨-, h⟩ | ⟨-, h⟩
    · cases h
      exact (frm.rf _)
    · obtain ⟨p1, hp1, h⟩ := bind_sp h
      refine frm.tr (frm.rf _) (frm.tr (frm.mo (fr_X10_has hp1) (by decide) (by decide)) ?_)
      rcases ite_sp h with ⟨-, h⟩ | ⟨-, h⟩
      · obtain ⟨p2, hp2, h⟩ := bind_sp h
        refine frm.tr (frm.rf _) (frm.tr (frm.mo (fr_X10_seen hp2) (by decide) (by decide)) ?_)
        obtain ⟨p3, hp3, h⟩ := bind_sp h
        refine frm.tr (frm.rf _) (frm.tr (frm.mo (fr_X10_ten hp3) (by decide) (by decide)) ?_)
        exact fr_X10_seenNumber_39 _ ih _ _ _ _ h
      · exact fr_X10_seenNumber_39 _ ih _ _ _ _ h
theorem fr_X10_seenNumber {σ : St} {r : Int64 × St} (h : f_X10_seenNumber σ = some r) : frm [] [] σ r.2 := by
  unfold f_X10_seenNumber at h
  exact fr_X10_seenNumber_4 FU _ _ _ h
theorem fr_X10_bell_38 (y0 : Int32) (σ : St) {r : Int32 × St} (h : f_X10_bell_38 y0 σ = some r) : frm [] [] σ r.2 := by
  unfold f_X10_bell_38 at h
  cases h
  exact (frm.rf _)
theorem fr_X10_bell {x1 : Int32} {σ : St} {r : Int32 × St} (h : f_X10_bell x1 σ = some r) : frm [] [] σ r.2 := by
  unfold f_X10_bell at h
  obtain ⟨p1, hp1, h⟩ := bind_sp h
  refine frm.tr (frm.rf _) (frm.tr (frm.mo (fr_X10_in hp1) (by decide) (by decide)) ?_)
  rcases ite_sp h with ⟨-, h⟩ | ⟨-, h⟩
  · exact fr_X10_bell_38 _ _ h
  · rcases ite_sp h with ⟨-, h⟩ | ⟨-, h⟩
    · obtain ⟨p2, hp2, h⟩ := bind_sp h
      refine frm.tr (frm.rf _) (frm.tr (frm.mo (fr_X10_seenNumber hp2) (by decide) (by decide)) ?_)
      obtain ⟨-, h⟩ := gd_some h
      exact fr_X10_bell_38 _ _ h
    · exact fr_X10_bell_38 _ _ h
theorem fr_X10_itself_25 (k5 : Int32 → Int32 → Int32 → St → Option (Int32 × St)) (hk5 : ∀ (x1 : Int32) (x2 : Int32) (x3 : Int32) (σ : St) {r : Int32 × St}, k5 x1 x2 x3 σ = some r → frm [] [] σ r.2) (x1 : Int32) (x2 : Int32) (x3 : Int32) (σ : St) {r : Int32 × St} (h : f_X10_itself_25 k5 x1 x2 x3 σ = some r) : frm [] [] σ r.2 := by
  unfold f_X10_itself_25 at h
  exact hk5 _ _ _ _ h
theorem fr_X10_itself_5 : ∀ (n : Nat) (x1 : Int32) (x2 : Int32) (x3 : Int32) (σ : St) {r : Int32 × St}, f_X10_itself_5 n x1 x2 x3 σ = some r → frm [] [] σ r.2 := by
  intro n
  induction n with
  | zero =>
    intro x1 x2 x3 σ r h
    cases h
  | succ n ih =>
    intro x1 x2 x3 σ r h
    simp only [f_X10_itself_5] at h
    rcases ite_sp h with ⟨-, h⟩ | ⟨-, h⟩
    · cases h
      exact (frm.rf _)
    · obtain ⟨-, h⟩ := gd_some h
      exact fr_X10_itself_25 _ ih _ _ _ _ h
theorem fr_X10_itself {x1 : Int32} {σ : St} {r : Int32 × St} (h : f_X10_itself x1 σ = some r) : frm [] [] σ r.2 := by
  unfold f_X10_itself at h
  exact fr_X10_itself_5 FU _ _ _ _ h
theorem fr_X10_many_23 (k5 : Int32 → Int64 → St → Option (Int32 × St)) (hk5 : ∀ (x3 : Int32) (x4 : Int64) (σ : St) {r : Int32 × St}, k5 x3 x4 σ = some r → frm [] [] σ r.2) (x3 : Int32) (x4 : Int64) (σ : St) {r : Int32 × St} (h : f_X10_many_23 k5 x3 x4 σ = some r) : frm [] [] σ r.2 := by
  unfold f_X10_many_23 at h
  exact hk5 _ _ _ h
theorem fr_X10_many_5 : ∀ (n : Nat) (x3 : Int32) (x4 : Int64) (σ : St) {r : Int32 × St}, f_X10_many_5 n x3 x4 σ = some r → frm [] [] σ r.2 := by
  intro n
  induction n with
  | zero =>
    intro x3 x4 σ r h
    cases h
  | succ n ih =>
    intro x3 x4 σ r h
    simp only [f_X10_many_5] at h
    rcases ite_sp h with ⟨-, h⟩ | ⟨-, h⟩
    · cases h
      exact (frm.rf _)
    · exact fr_X10_many_23 _ ih _ _ _ h
theorem fr_X10_many {x1 : Int64} {σ : St} {r : Int32 × St} (h : f_X10_many x1 σ = some r) : frm [] [] σ r.2 := by
  unfold f_X10_many at h
  exact fr_X10_many_5 FU _ _ _ h
theorem fr_X10_rightly_31 (k5 : Int32 → Int64 → Int32 → St → Option (Int64 × St)) (hk5 : ∀ (x1 : Int32) (x2 : Int64) (x4 : Int32) (σ : St) {r : Int64 × St}, k5 x1 x2 x4 σ = some r → frm [] [] σ r.2) (x1 : Int32) (x2 : Int64) (x4 : Int32) (σ : St) {r : Int64 × St} (h : f_X10_rightly_31 k5 x1 x2 x4 σ = some r) : frm [] [] σ r.2 := by
  unfold f_X10_rightly_31 at h
  exact hk5 _ _ _ _ h
theorem fr_X10_rightly_5 : ∀ (n : Nat) (x1 : Int32) (x2 : Int64) (x4 : Int32) (σ : St) {r : Int64 × St}, f_X10_rightly_5 n x1 x2 x4 σ = some r → frm [] [] σ r.2 := by
  intro n
  induction n with
  | zero =>
    intro x1 x2 x4 σ r h
    cases h
  | succ n ih =>
    intro x1 x2 x4 σ r h
    simp only [f_X10_rightly_5] at h
    obtain ⟨p1, hp1, h⟩ := bind_sp h
    refine frm.tr (frm.rf _) (frm.tr (frm.mo (fr_X10_many hp1) (by decide) (by decide)) ?_)
    rcases ite_sp h with ⟨-, h⟩ | ⟨-, h⟩
    · cases h
      exact (frm.rf _)
    · obtain ⟨p2, hp2, h⟩ := bind_sp h
      refine frm.tr (frm.rf _) (frm.tr (frm.mo (fr_X10_digitOf hp2) (by decide) (by decide)) ?_)
      obtain ⟨p3, hp3, h⟩ := bind_sp h
      refine frm.tr (frm.rf _) (frm.tr (frm.mo (fr_X10_itself hp3) (by decide) (by decide)) ?_)
      exact fr_X10_rightly_31 _ ih _ _ _ _ h
theorem fr_X10_rightly {x1 : Int32} {σ : St} {r : Int64 × St} (h : f_X10_rightly x1 σ = some r) : frm [] [] σ r.2 := by
  unfold f_X10_rightly at h
  exact fr_X10_rightly_5 FU _ _ _ _ h
theorem fr_X10_alike_171 (k30 : Int32 → Int32 → Int32 → St → Option (Int64 × St)) (hk30 : ∀ (x1 : Int32) (x2 : Int32) (x3 : Int32) (σ : St) {r : Int64 × St}, k30 x1 x2 x3 σ = some r → frm [52, 53] [] σ r.2) : ∀ (n : Nat) (x1 : Int32) (x2 : Int32) (x3 : Int32) (x6 : Int32) (σ : St) {r : Int64 × St}, f_X10_alike_171 k30 n x1 x2 x3 x6 σ = some r → frm [52, 53] [] σ r.2 := by
  intro n
  induction n with
  | zero =>
    intro x1 x2 x3 x6 σ r h
    cases h
  | succ n ih =>
    intro x1 x2 x3 x6 σ r h
    simp only [f_X10_alike_171] at h
    rcases ite_sp h with ⟨-, h⟩ | ⟨-, h⟩
    · exact hk30 _ _ _ _ h
    · obtain ⟨-, h⟩ := gd_some h
      obtain ⟨-, h⟩ := gd_some h
      exact frm.tr (frm_sJ (frm.rf _) (by simp)) (ih _ _ _ _ _ h)
theorem fr_X10_alike_152 (k30 : Int32 → Int32 → Int32 → St → Option (Int64 × St)) (k84 : Int32 → Int32 → Int32 → Int32 → Int32 → Int32 → St → Option (Int64 × St)) (k93 : Int32 → Int32 → Int32 → Int32 → Int32 → Int32 → Int32 → St → Option (Int64 × St)) (hk30 : ∀ (x1 : Int32) (x2 : Int32) (x3 : Int32) (σ : St) {r : Int64 × St}, k30 x1 x2 x3 σ = some r → frm [52, 53] [] σ r.2) (hk84 : ∀ (x1 : Int32) (x2 : Int32) (x3 : Int32) (x4 : Int32) (x5 : Int32) (x6 : Int32) (σ : St) {r : Int64 × St}, k84 x1 x2 x3 x4 x5 x6 σ = some r → frm [52, 53] [] σ r.2) (hk93 : ∀ (x1 : Int32) (x2 : Int32) (x3 : Int32) (x4 : Int32) (x5 : Int32) (x6 : Int32) (x7 : Int32) (σ : St) {r : Int64 × St}, k93 x1 x2 x3 x4 x5 x6 x7 σ = some r → frm [52, 53] [] σ r.2) (x1 : Int32) (x2 : Int32) (x3 : Int32) (x4 : Int32) (x5 : Int32) (x6 : Int32) (x7 : Int32) (y0 : Int32) (y1 : Int64) (y2 : Int64) (y3 : Int32) (σ : St) {r : Int64 × St} (h : f_X10_alike_152 k30 k84 k93 x1 x2 x3 x4 x5 x6 x7 y0 y1 y2 y3 σ = some r) : frm [52, 53] [] σ r.2 := by
  unfold f_X10_alike_152 at h
  obtain ⟨-, h⟩ := gd_some h
  exact frm.tr (frm_sJ (frm.rf _) (by simp)) (hk93 _ _ _ _ _ _ _ _ h)
theorem fr_X10_alike_93 (k30 : Int32 → Int32 → Int32 → St → Option (Int64 × St)) (k84 : Int32 → Int32 → Int32 → Int32 → Int32 → Int32 → St → Option (Int64 × St)) (hk30 : ∀ (x1 : Int32) (x2 : Int32) (x3 : Int32) (σ : St) {r : Int64 × St}, k30 x1 x2 x3 σ = some r → frm [52, 53] [] σ r.2) (hk84 : ∀ (x1 : Int32) (x2 : Int32) (x3 : Int32) (x4 : Int32) (x5 : Int32) (x6 : Int32) (σ : St) {r : Int64 × St}, k84 x1 x2 x3 x4 x5 x6 σ = some r → frm [52, 53] [] σ r.2) : ∀ (n : Nat) (x1 : Int32) (x2 : Int32) (x3 : Int32) (x4 : Int32) (x5 : Int32) (x6 : Int32) (x7 : Int32) (σ : St) {r : Int64 × St}, f_X10_alike_93 k30 k84 n x1 x2 x3 x4 x5 x6 x7 σ = some r → frm [52, 53] [] σ r.2 := by
  intro n
  induction n with
  | zero =>
    intro x1 x2 x3 x4 x5 x6 x7 σ r h
    cases h
  | succ n ih =>
    intro x1 x2 x3 x4 x5 x6 x7 σ r h
    simp only [f_X10_alike_93] at h
    rcases ite_sp h with ⟨-, h⟩ | ⟨-, h⟩
    · exact hk84 _ _ _ _ _ _ _ h
    · obtain ⟨-, h⟩ := gd_some h
      obtain ⟨-, h⟩ := gd_some h
      obtain ⟨-, h⟩ := gd_some h
      rcases ite_sp h with ⟨-, h⟩ | ⟨-, h⟩
      · obtain ⟨p4, hp4, h⟩ := bind_sp h
        refine frm.tr (frm.rf _) (frm.tr (frm.mo (fr_X10_itself hp4) (by decide) (by decide)) ?_)
        exact fr_X10_alike_152 _ _ _ hk30 hk84 ih _ _ _ _ _ _ _ _ _ _ _ _ h
      · obtain ⟨-, h⟩ := gd_some h
        exact fr_X10_alike_152 _ _ _ hk30 hk84 ih _ _ _ _ _ _ _ _ _ _ _ _ h
theorem fr_X10_alike_84 (k30 : Int32 → Int32 → Int32 → St → Option (Int64 × St)) (hk30 : ∀ (x1 : Int32) (x2 : Int32) (x3 : Int32) (σ : St) {r : Int64 × St}, k30 x1 x2 x3 σ = some r → frm [52, 53] [] σ r.2) : ∀ (n : Nat) (x1 : Int32) (x2 : Int32) (x3 : Int32) (x4 : Int32) (x5 : Int32) (x6 : Int32) (σ : St) {r : Int64 × St}, f_X10_alike_84 k30 n x1 x2 x3 x4 x5 x6 σ = some r → frm [52, 53] [] σ r.2 := by
  intro n
  induction n with
  | zero =>
    intro x1 x2 x3 x4 x5 x6 σ r h
    cases h
  | succ n ih =>
    intro x1 x2 x3 x4 x5 x6 σ r h
    simp only [f_X10_alike_84] at h
    rcases ite_sp h with ⟨-, h⟩ | ⟨-, h⟩
    · exact fr_X10_alike_171 _ hk30 FU _ _ _ _ _ h
    · exact fr_X10_alike_93 _ _ hk30 ih FU _ _ _ _ _ _ _ _ h
theorem fr_X10_alike_61 (k30 : Int32 → Int32 → Int32 → St → Option (Int64 × St)) (hk30 : ∀ (x1 : Int32) (x2 : Int32) (x3 : Int32) (σ : St) {r : Int64 × St}, k30 x1 x2 x3 σ = some r → frm [52, 53] [] σ r.2) : ∀ (n : Nat) (x1 : Int32) (x2 : Int32) (x3 : Int32) (x4 : Int32) (x5 : Int32) (x6 : Int32) (σ : St) {r : Int64 × St}, f_X10_alike_61 k30 n x1 x2 x3 x4 x5 x6 σ = some r → frm [52, 53] [] σ r.2 := by
  intro n
  induction n with
  | zero =>
    intro x1 x2 x3 x4 x5 x6 σ r h
    cases h
  | succ n ih =>
    intro x1 x2 x3 x4 x5 x6 σ r h
    simp only [f_X10_alike_61] at h
    rcases ite_sp h with ⟨-, h⟩ | ⟨-, h⟩
    · exact fr_X10_alike_84 _ hk30 FU _ _ _ _ _ _ _ h
    · obtain ⟨-, h⟩ := gd_some h
      exact frm.tr (frm_sJ (frm.rf _) (by simp)) (ih _ _ _ _ _ _ _ h)
theorem fr_X10_alike_58 (k30 : Int32 → Int32 → Int32 → St → Option (Int64 × St)) (hk30 : ∀ (x1 : Int32) (x2 : Int32) (x3 : Int32) (σ : St) {r : Int64 × St}, k30 x1 x2 x3 σ = some r → frm [52, 53] [] σ r.2) (x1 : Int32) (x2 : Int32) (x3 : Int32) (x4 : Int32) (x5 : Int32) (σ : St) {r : Int64 × St} (h : f_X10_alike_58 k30 x1 x2 x3 x4 x5 σ = some r) : frm [52, 53] [] σ r.2 := by
  unfold f_X10_alike_58 at h
  exact fr_X10_alike_61 _ hk30 FU _ _ _ _ _ _ _ h
theorem fr_X10_alike_30 : ∀ (n : Nat) (x1 : Int32) (x2 : Int32) (x3 : Int32) (σ : St) {r : Int64 × St}, f_X10_alike_30 n x1 x2 x3 σ = some r → frm [52, 53] [] σ r.2 := by
  intro n
  induction n with
  | zero =>
    intro x1 x2 x3 σ r h
    cases h
  | succ n ih =>
    intro x1 x2 x3 σ r h
    simp only [f_X10_alike_30] at h
    obtain ⟨p1, hp1, h⟩ := bind_sp h
    refine frm.tr (frm.rf _) (frm.tr (frm.mo (fr_X10_many hp1) (by decide) (by decide)) ?_)
    rcases ite_sp h with ⟨-, h⟩ | ⟨-, h⟩
    · obtain ⟨-, h⟩ := gd_some h
      obtain ⟨-, h⟩ := gd_some h
      cases h
      exact (frm.rf _)
    · obtain ⟨p2, hp2, h⟩ := bind_sp h
      refine frm.tr (frm.rf _) (frm.tr (frm.mo (fr_X10_digitOf hp2) (by decide) (by decide)) ?_)
      obtain ⟨p3, hp3, h⟩ := bind_sp h
      refine frm.tr (frm.rf _) (frm.tr (frm.mo (fr_X10_ten hp3) (by decide) (by decide)) ?_)
      obtain ⟨-, h⟩ := gd_some h
      exact fr_X10_alike_58 _ ih _ _ _ _ _ _ h
theorem fr_X10_alike_21 (k2 : Int32 → Int32 → Int32 → St → Option (Int64 × St)) (hk2 : ∀ (x1 : Int32) (x2 : Int32) (x3 : Int32) (σ : St) {r : Int64 × St}, k2 x1 x2 x3 σ = some r → frm [52, 53] [] σ r.2) (x1 : Int32) (x2 : Int32) (x3 : Int32) (y0 : Int64) (y1 : Int32) (σ : St) {r : Int64 × St} (h : f_X10_alike_21 k2 x1 x2 x3 y0 y1 σ = some r) : frm [52, 53] [] σ r.2 := by
  unfold f_X10_alike_21 at h
  obtain ⟨-, h⟩ := gd_some h
  exact frm.tr (frm_sJ (frm.rf _) (by simp)) (hk2 _ _ _ _ h)
theorem fr_X10_alike_2 : ∀ (n : Nat) (x1 : Int32) (x2 : Int32) (x3 : Int32) (σ : St) {r : Int64 × St}, f_X10_alike_2 n x1 x2 x3 σ = some r → frm [52, 53] [] σ r.2 := by
  intro n
  induction n with
  | zero =>
    intro x1 x2 x3 σ r h
    cases h
  | succ n ih =>
    intro x1 x2 x3 σ r h
    simp only [f_X10_alike_2] at h
    rcases ite_sp h with ⟨-, h⟩ | ⟨-, h⟩
    · exact fr_X10_alike_30 FU _ _ _ _ h
    · rcases ite_sp h with ⟨-, h⟩ | ⟨-, h⟩
      · exact fr_X10_alike_21 _ ih _ _ _ _ _ _ h
      · exact fr_X10_alike_21 _ ih _ _ _ _ _ _ h
theorem fr_X10_alike {x1 : Int32} {x2 : Int32} {σ : St} {r : Int64 × St} (h : f_X10_alike x1 x2 σ = some r) : frm [52, 53] [] σ r.2 := by
  unfold f_X10_alike at h
  exact fr_X10_alike_2 FU _ _ _ _ h
theorem fr_X10_miss_31 (σ : St) {r : Int32 × St} (h : f_X10_miss_31 σ = some r) : frm [52, 53] [] σ r.2 := by
  unfold f_X10_miss_31 at h
  cases h
  exact (frm.rf _)
theorem fr_X10_miss_95 (y0 : Int64) (σ : St) {r : Int32 × St} (h : f_X10_miss_95 y0 σ = some r) : frm [52, 53] [] σ r.2 := by
  unfold f_X10_miss_95 at h
  cases h
  exact (frm.rf _)
theorem fr_X10_miss_68 (x3 : Int64) (x5 : Int64) (σ : St) {r : Int32 × St} (h : f_X10_miss_68 x3 x5 σ = some r) : frm [52, 53] [] σ r.2 := by
  unfold f_X10_miss_68 at h
  rcases ite_sp h with ⟨-, h⟩ | ⟨-, h⟩
  · obtain ⟨-, h⟩ := gd_some h
    exact fr_X10_miss_95 _ _ h
  · obtain ⟨-, h⟩ := gd_some h
    exact fr_X10_miss_95 _ _ h
theorem fr_X10_miss_60 (x1 : Int32) (x3 : Int64) (y0 : Int64) (σ : St) {r : Int32 × St} (h : f_X10_miss_60 x1 x3 y0 σ = some r) : frm [52, 53] [] σ r.2 := by
  unfold f_X10_miss_60 at h
  obtain ⟨p5, hp5, h⟩ := bind_sp h
  refine frm.tr (frm.rf _) (frm.tr (frm.mo (fr_X10_rightly hp5) (by decide) (by decide)) ?_)
  exact fr_X10_miss_68 _ _ _ h
theorem fr_X10_miss_33 (x1 : Int32) (x2 : Int32) (σ : St) {r : Int32 × St} (h : f_X10_miss_33 x1 x2 σ = some r) : frm [52, 53] [] σ r.2 := by
  unfold f_X10_miss_33 at h
  obtain ⟨p2, hp2, h⟩ := bind_sp h
  refine frm.tr (frm.rf _) (frm.tr (frm.mo (fr_X10_many hp2) (by decide) (by decide)) ?_)
  obtain ⟨p3, hp3, h⟩ := bind_sp h
  refine frm.tr (frm.rf _) (frm.tr (frm.mo (fr_X10_ten hp3) (by decide) (by decide)) ?_)
  rcases ite_sp h with ⟨-, h⟩ | ⟨-, h⟩
  · exact fr_X10_miss_60 _ _ _ _ h
  · obtain ⟨p4, hp4, h⟩ := bind_sp h
    refine frm.tr (frm.rf _) (frm.tr (frm.mo (fr_X10_alike hp4) (by decide) (by decide)) ?_)
    exact fr_X10_miss_60 _ _ _ _ h
theorem fr_X10_miss {x1 : Int32} {x2 : Int32} {σ : St} {r : Int32 × St} (h : f_X10_miss x1 x2 σ = some r) : frm [52, 53] [] σ r.2 := by
  unfold f_X10_miss at h
  obtain ⟨p1, hp1, h⟩ := bind_sp h
  refine frm.tr (frm.rf _) (frm.tr (frm.mo (fr_X10_in hp1) (by decide) (by decide)) ?_)
  rcases ite_sp h with ⟨-, h⟩ | ⟨-, h⟩
  · exact fr_X10_miss_31 _ h
  · rcases ite_sp h with ⟨-, h⟩ | ⟨-, h⟩
    · exact fr_X10_miss_33 _ _ _ h
    · obtain ⟨p6, hp6, h⟩ := bind_sp h
      refine frm.tr (frm.rf _) (frm.tr (frm.mo (fr_X10_in hp6) (by decide) (by decide)) ?_)
      rcases ite_sp h with ⟨-, h⟩ | ⟨-, h⟩
      · exact fr_X10_miss_31 _ h
      · exact fr_X10_miss_33 _ _ _ h
theorem fr_X10_isRest_30 (y0 : Int32) (σ : St) {r : Int32 × St} (h : f_X10_isRest_30 y0 σ = some r) : frm [] [] σ r.2 := by
  unfold f_X10_isRest_30 at h
  obtain ⟨-, h⟩ := gd_some h
  cases h
  exact (frm.rf _)
theorem fr_X10_isRest_29 (σ : St) {r : Int32 × St} (h : f_X10_isRest_29 σ = some r) : frm [] [] σ r.2 := by
  unfold f_X10_isRest_29 at h
  exact fr_X10_isRest_30 _ _ h
theorem fr_X10_isRest {x0 : Int32} {x1 : Int32} {σ : St} {r : Int32 × St} (h : f_X10_isRest x0 x1 σ = some r) : frm [] [] σ r.2 := by
  unfold f_X10_isRest at h
  obtain ⟨p1, hp1, h⟩ := bind_sp h
  refine frm.tr (frm.rf _) (frm.tr (frm.mo (fr_X10_in hp1) (by decide) (by decide)) ?_)
  rcases ite_sp h with ⟨-, h⟩ | ⟨-, h⟩
  · exact fr_X10_isRest_29 _ h
  · obtain ⟨p2, hp2, h⟩ := bind_sp h
    refine frm.tr (frm.rf _) (frm.tr (frm.mo (fr_X10_in hp2) (by decide) (by decide)) ?_)
    rcases ite_sp h with ⟨-, h⟩ | ⟨-, h⟩
    · exact fr_X10_isRest_29 _ h
    · exact fr_X10_isRest_30 _ _ h
theorem fr_X10_span_20 (σ : St) {r : Int64 × St} (h : f_X10_span_20 σ = some r) : frm [] [] σ r.2 := by
  unfold f_X10_span_20 at h
  cases h
  exact (frm.rf _)
theorem fr_X10_span_204 (y0 : Int64) (σ : St) {r : Int64 × St} (h : f_X10_span_204 y0 σ = some r) : frm [] [] σ r.2 := by
  unfold f_X10_span_204 at h
  cases h
  exact (frm.rf _)
theorem fr_X10_span_177 (k59 : Int32 → Int32 → Int32 → Int64 → Int32 → Int64 → Int64 → Int64 → Int32 → St → Option (Int64 × St)) (hk59 : ∀ (x1 : Int32) (x2 : Int32) (x3 : Int32) (x4 : Int64) (x6 : Int32) (x7 : Int64) (x9 : Int64) (x11 : Int64) (x13 : Int32) (σ : St) {r : Int64 × St}, k59 x1 x2 x3 x4 x6 x7 x9 x11 x13 σ = some r → frm [] [] σ r.2) (x1 : Int32) (x2 : Int32) (x3 : Int32) (x4 : Int64) (x6 : Int32) (x7 : Int64) (x9 : Int64) (x11 : Int64) (x13 : Int32) (σ : St) {r : Int64 × St} (h : f_X10_span_177 k59 x1 x2 x3 x4 x6 x7 x9 x11 x13 σ = some r) : frm [] [] σ r.2 := by
  unfold f_X10_span_177 at h
  exact hk59 _ _ _ _ _ _ _ _ _ _ h
theorem fr_X10_span_166 (k59 : Int32 → Int32 → Int32 → Int64 → Int32 → Int64 → Int64 → Int64 → Int32 → St → Option (Int64 × St)) (hk59 : ∀ (x1 : Int32) (x2 : Int32) (x3 : Int32) (x4 : Int64) (x6 : Int32) (x7 : Int64) (x9 : Int64) (x11 : Int64) (x13 : Int32) (σ : St) {r : Int64 × St}, k59 x1 x2 x3 x4 x6 x7 x9 x11 x13 σ = some r → frm [] [] σ r.2) (x1 : Int32) (x2 : Int32) (x3 : Int32) (x4 : Int64) (x6 : Int32) (x7 : Int64) (x11 : Int64) (x13 : Int32) (x14 : Int64) (y0 : Int64) (σ : St) {r : Int64 × St} (h : f_X10_span_166 k59 x1 x2 x3 x4 x6 x7 x11 x13 x14 y0 σ = some r) : frm [] [] σ r.2 := by
  unfold f_X10_span_166 at h
  exact fr_X10_span_177 _ hk59 _ _ _ _ _ _ _ _ _ _ h
theorem fr_X10_span_122 (k59 : Int32 → Int32 → Int32 → Int64 → Int32 → Int64 → Int64 → Int64 → Int32 → St → Option (Int64 × St)) (k77 : Int32 → Int32 → Int32 → Int64 → Int32 → Int64 → Int64 → Int64 → Int32 → Int64 → Int32 → Int32 → St → Option (Int64 × St)) (hk59 : ∀ (x1 : Int32) (x2 : Int32) (x3 : Int32) (x4 : Int64) (x6 : Int32) (x7 : Int64) (x9 : Int64) (x11 : Int64) (x13 : Int32) (σ : St) {r : Int64 × St}, k59 x1 x2 x3 x4 x6 x7 x9 x11 x13 σ = some r → frm [] [] σ r.2) (hk77 : ∀ (x1 : Int32) (x2 : Int32) (x3 : Int32) (x4 : Int64) (x6 : Int32) (x7 : Int64) (x9 : Int64) (x11 : Int64) (x13 : Int32) (x14 : Int64) (x16 : Int32) (x17 : Int32) (σ : St) {r : Int64 × St}, k77 x1 x2 x3 x4 x6 x7 x9 x11 x13 x14 x16 x17 σ = some r → frm [] [] σ r.2) (x1 : Int32) (x2 : Int32) (x3 : Int32) (x4 : Int64) (x6 : Int32) (x7 : Int64) (x9 : Int64) (x11 : Int64) (x13 : Int32) (x14 : Int64) (x16 : Int32) (x17 : Int32) (σ : St) {r : Int64 × St} (h : f_X10_span_122 k59 k77 x1 x2 x3 x4 x6 x7 x9 x11 x13 x14 x16 x17 σ = some r) : frm [] [] σ r.2 := by
  unfold f_X10_span_122 at h
  exact hk77 _ _ _ _ _ _ _ _ _ _ _ _ _ h
theorem fr_X10_span_115 (k59 : Int32 → Int32 → Int32 → Int64 → Int32 → Int64 → Int64 → Int64 → Int32 → St → Option (Int64 × St)) (k77 : Int32 → Int32 → Int32 → Int64 → Int32 → Int64 → Int64 → Int64 → Int32 → Int64 → Int32 → Int32 → St → Option (Int64 × St)) (hk59 : ∀ (x1 : Int32) (x2 : Int32) (x3 : Int32) (x4 : Int64) (x6 : Int32) (x7 : Int64) (x9 : Int64) (x11 : Int64) (x13 : Int32) (σ : St) {r : Int64 × St}, k59 x1 x2 x3 x4 x6 x7 x9 x11 x13 σ = some r → frm [] [] σ r.2) (hk77 : ∀ (x1 : Int32) (x2 : Int32) (x3 : Int32) (x4 : Int64) (x6 : Int32) (x7 : Int64) (x9 : Int64) (x11 : Int64) (x13 : Int32) (x14 : Int64) (x16 : Int32) (x17 : Int32) (σ : St) {r : Int64 × St}, k77 x1 x2 x3 x4 x6 x7 x9 x11 x13 x14 x16 x17 σ = some r → frm [] [] σ r.2) (x1 : Int32) (x2 : Int32) (x3 : Int32) (x4 : Int64) (x6 : Int32) (x7 : Int64) (x9 : Int64) (x11 : Int64) (x13 : Int32) (x14 : Int64) (x16 : Int32) (x17 : Int32) (σ : St) {r : Int64 × St} (h : f_X10_span_115 k59 k77 x1 x2 x3 x4 x6 x7 x9 x11 x13 x14 x16 x17 σ = some r) : frm [] [] σ r.2 := by
  unfold f_X10_span_115 at h
  exact fr_X10_span_122 _ _ hk59 hk77 _ _ _ _ _ _ _ _ _ _ _ _ _ h
theorem fr_X10_span_77 (k59 : Int32 → Int32 → Int32 → Int64 → Int32 → Int64 → Int64 → Int64 → Int32 → St → Option (Int64 × St)) (hk59 : ∀ (x1 : Int32) (x2 : Int32) (x3 : Int32) (x4 : Int64) (x6 : Int32) (x7 : Int64) (x9 : Int64) (x11 : Int64) (x13 : Int32) (σ : St) {r : Int64 × St}, k59 x1 x2 x3 x4 x6 x7 x9 x11 x13 σ = some r → frm [] [] σ r.2) : ∀ (n : Nat) (x1 : Int32) (x2 : Int32) (x3 : Int32) (x4 : Int64) (x6 : Int32) (x7 : Int64) (x9 : Int64) (x11 : Int64) (x13 : Int32) (x14 : Int64) (x16 : Int32) (x17 : Int32) (σ : St) {r : Int64 × St}, f_X10_span_77 k59 n x1 x2 x3 x4 x6 x7 x9 x11 x13 x14 x16 x17 σ = some r → frm [] [] σ r.2 := by
  intro n
  induction n with
  | zero =>
    intro x1 x2 x3 x4 x6 x7 x9 x11 x13 x14 x16 x17 σ r h
    cases h
  | succ n ih =>
    intro x1 x2 x3 x4 x6 x7 x9 x11 x13 x14 x16 x17 σ r h
    simp only [f_X10_span_77] at h
    rcases ite_sp h with ⟨-, h⟩ | ⟨-, h⟩
    · obtain ⟨-, h⟩ := gd_some h
      rcases ite_sp h with ⟨-, h⟩ | ⟨-, h⟩
      · rcases ite_sp h with ⟨-, h⟩ | ⟨-, h⟩
        · exact fr_X10_span_166 _ hk59 _ _ _ _ _ _ _ _ _ _ _ h
        · exact fr_X10_span_166 _ hk59 _ _ _ _ _ _ _ _ _ _ _ h
      · exact fr_X10_span_177 _ hk59 _ _ _ _ _ _ _ _ _ _ h
    · obtain ⟨p6, hp6, h⟩ := bind_sp h
      refine frm.tr (frm.rf _) (frm.tr (frm.mo (fr_X10_has hp6) (by decide) (by decide)) ?_)
      rcases ite_sp h with ⟨-, h⟩ | ⟨-, h⟩
      · exact fr_X10_span_122 _ _ hk59 ih _ _ _ _ _ _ _ _ _ _ _ _ _ h
      · obtain ⟨p7, hp7, h⟩ := bind_sp h
        refine frm.tr (frm.rf _) (frm.tr (frm.mo (fr_X10_ten hp7) (by decide) (by decide)) ?_)
        exact fr_X10_span_115 _ _ hk59 ih _ _ _ _ _ _ _ _ _ _ _ _ _ h
theorem fr_X10_span_59 : ∀ (n : Nat) (x1 : Int32) (x2 : Int32) (x3 : Int32) (x4 : Int64) (x6 : Int32) (x7 : Int64) (x9 : Int64) (x11 : Int64) (x13 : Int32) (σ : St) {r : Int64 × St}, f_X10_span_59 n x1 x2 x3 x4 x6 x7 x9 x11 x13 σ = some r → frm [] [] σ r.2 := by
  intro n
  induction n with
  | zero =>
    intro x1 x2 x3 x4 x6 x7 x9 x11 x13 σ r h
    cases h
  | succ n ih =>
    intro x1 x2 x3 x4 x6 x7 x9 x11 x13 σ r h
    simp only [f_X10_span_59] at h
    rcases ite_sp h with ⟨-, h⟩ | ⟨-, h⟩
    · rcases ite_sp h with ⟨-, h⟩ | ⟨-, h⟩
      · exact fr_X10_span_204 _ _ h
      · rcases ite_sp h with ⟨-, h⟩ | ⟨-, h⟩
        · exact fr_X10_span_204 _ _ h
        · exact fr_X10_span_204 _ _ h
    · exact fr_X10_span_77 _ ih FU _ _ _ _ _ _ _ _ _ _ _ _ _ h
theorem fr_X10_span_43 (x1 : Int32) (x2 : Int32) (x3 : Int32) (x4 : Int64) (x6 : Int32) (σ : St) {r : Int64 × St} (h : f_X10_span_43 x1 x2 x3 x4 x6 σ = some r) : frm [] [] σ r.2 := by
  unfold f_X10_span_43 at h
  exact fr_X10_span_59 FU _ _ _ _ _ _ _ _ _ _ h
theorem fr_X10_span {x1 : Int32} {x2 : Int32} {x3 : Int32} {σ : St} {r : Int64 × St} (h : f_X10_span x1 x2 x3 σ = some r) : frm [] [] σ r.2 := by
  unfold f_X10_span at h
  obtain ⟨p1, hp1, h⟩ := bind_sp h
  refine frm.tr (frm.rf _) (frm.tr (frm.mo (fr_X10_isRest hp1) (by decide) (by decide)) ?_)
  rcases ite_sp h with ⟨-, h⟩ | ⟨-, h⟩
  · exact fr_X10_span_20 _ h
  · obtain ⟨p2, hp2, h⟩ := bind_sp h
    refine frm.tr (frm.rf _) (frm.tr (frm.mo (fr_X10_in hp2) (by decide) (by decide)) ?_)
    rcases ite_sp h with ⟨-, h⟩ | ⟨-, h⟩
    · exact fr_X10_span_20 _ h
    · obtain ⟨p3, hp3, h⟩ := bind_sp h
      refine frm.tr (frm.rf _) (frm.tr (frm.mo (fr_X10_seenNumber hp3) (by decide) (by decide)) ?_)
      obtain ⟨p4, hp4, h⟩ := bind_sp h
      refine frm.tr (frm.rf _) (frm.tr (frm.mo (fr_J6_bitCount_0f7a4 hp4) (by decide) (by decide)) ?_)
      obtain ⟨p5, hp5, h⟩ := bind_sp h
      refine frm.tr (frm.rf _) (frm.tr (frm.mo (fr_X10_ten hp5) (by decide) (by decide)) ?_)
      exact fr_X10_span_43 _ _ _ _ _ _ h
theorem fr_X10_astray_13 (σ : St) {r : Int32 × St} (h : f_X10_astray_13 σ = some r) : frm [] [] σ r.2 := by
  unfold f_X10_astray_13 at h
  cases h
  exact (frm.rf _)
theorem fr_X10_astray_146 (y0 : Int32) (σ : St) {r : Int32 × St} (h : f_X10_astray_146 y0 σ = some r) : frm [] [] σ r.2 := by
  unfold f_X10_astray_146 at h
  cases h
  exact (frm.rf _)
theorem fr_X10_astray_122 (k40 : Int32 → Int32 → Int32 → Int64 → Int32 → Int32 → Int32 → St → Option (Int32 × St)) (k52 : Int32 → Int32 → Int32 → Int64 → Int32 → Int32 → Int32 → Int32 → St → Option (Int32 × St)) (hk40 : ∀ (x1 : Int32) (x2 : Int32) (x3 : Int32) (x4 : Int64) (x6 : Int32) (x7 : Int32) (x8 : Int32) (σ : St) {r : Int32 × St}, k40 x1 x2 x3 x4 x6 x7 x8 σ = some r → frm [] [] σ r.2) (hk52 : ∀ (x1 : Int32) (x2 : Int32) (x3 : Int32) (x4 : Int64) (x6 : Int32) (x7 : Int32) (x8 : Int32) (x9 : Int32) (σ : St) {r : Int32 × St}, k52 x1 x2 x3 x4 x6 x7 x8 x9 σ = some r → frm [] [] σ r.2) (x1 : Int32) (x2 : Int32) (x3 : Int32) (x4 : Int64) (x6 : Int32) (x7 : Int32) (x8 : Int32) (x9 : Int32) (σ : St) {r : Int32 × St} (h : f_X10_astray_122 k40 k52 x1 x2 x3 x4 x6 x7 x8 x9 σ = some r) : frm [] [] σ r.2 := by
  unfold f_X10_astray_122 at h
  exact hk52 _ _ _ _ _ _ _ _ _ h
theorem fr_X10_astray_117 (k40 : Int32 → Int32 → Int32 → Int64 → Int32 → Int32 → Int32 → St → Option (Int32 × St)) (k52 : Int32 → Int32 → Int32 → Int64 → Int32 → Int32 → Int32 → Int32 → St → Option (Int32 × St)) (hk40 : ∀ (x1 : Int32) (x2 : Int32) (x3 : Int32) (x4 : Int64) (x6 : Int32) (x7 : Int32) (x8 : Int32) (σ : St) {r : Int32 × St}, k40 x1 x2 x3 x4 x6 x7 x8 σ = some r → frm [] [] σ r.2) (hk52 : ∀ (x1 : Int32) (x2 : Int32) (x3 : Int32) (x4 : Int64) (x6 : Int32) (x7 : Int32) (x8 : Int32) (x9 : Int32) (σ : St) {r : Int32 × St}, k52 x1 x2 x3 x4 x6 x7 x8 x9 σ = some r → frm [] [] σ r.2) (x1 : Int32) (x2 : Int32) (x3 : Int32) (x4 : Int64) (x6 : Int32) (x8 : Int32) (x9 : Int32) (y0 : Int32) (σ : St) {r : Int32 × St} (h : f_X10_astray_117 k40 k52 x1 x2 x3 x4 x6 x8 x9 y0 σ = some r) : frm [] [] σ r.2 := by
  unfold f_X10_astray_117 at h
  exact fr_X10_astray_122 _ _ hk40 hk52 _ _ _ _ _ _ _ _ _ h
theorem fr_X10_astray_52 (k40 : Int32 → Int32 → Int32 → Int64 → Int32 → Int32 → Int32 → St → Option (Int32 × St)) (hk40 : ∀ (x1 : Int32) (x2 : Int32) (x3 : Int32) (x4 : Int64) (x6 : Int32) (x7 : Int32) (x8 : Int32) (σ : St) {r : Int32 × St}, k40 x1 x2 x3 x4 x6 x7 x8 σ = some r → frm [] [] σ r.2) : ∀ (n : Nat) (x1 : Int32) (x2 : Int32) (x3 : Int32) (x4 : Int64) (x6 : Int32) (x7 : Int32) (x8 : Int32) (x9 : Int32) (σ : St) {r : Int32 × St}, f_X10_astray_52 k40 n x1 x2 x3 x4 x6 x7 x8 x9 σ = some r → frm [] [] σ r.2 := by
  intro n
  induction n with
  | zero =>
    intro x1 x2 x3 x4 x6 x7 x8 x9 σ r h
    cases h
  | succ n ih =>
    intro x1 x2 x3 x4 x6 x7 x8 x9 σ r h
    simp only [f_X10_astray_52] at h
    rcases ite_sp h with ⟨-, h⟩ | ⟨-, h⟩
    · exact hk40 _ _ _ _ _ _ _ _ h
    · obtain ⟨p3, hp3, h⟩ := bind_sp h
      refine frm.tr (frm.rf _) (frm.tr (frm.mo (fr_X10_seen hp3) (by decide) (by decide)) ?_)
      rcases ite_sp h with ⟨-, h⟩ | ⟨-, h⟩
      · exact fr_X10_astray_122 _ _ hk40 ih _ _ _ _ _ _ _ _ _ h
      · obtain ⟨p4, hp4, h⟩ := bind_sp h
        refine frm.tr (frm.rf _) (frm.tr (frm.mo (fr_X10_seen hp4) (by decide) (by decide)) ?_)
        obtain ⟨p5, hp5, h⟩ := bind_sp h
        refine frm.tr (frm.rf _) (frm.tr (frm.mo (fr_X10_ten hp5) (by decide) (by decide)) ?_)
        obtain ⟨-, h⟩ := gd_some h
        rcases ite_sp h with ⟨-, h⟩ | ⟨-, h⟩
        · rcases ite_sp h with ⟨-, h⟩ | ⟨-, h⟩
          · exact fr_X10_astray_117 _ _ hk40 ih _ _ _ _ _ _ _ _ _ h
          · exact fr_X10_astray_117 _ _ hk40 ih _ _ _ _ _ _ _ _ _ h
        · exact fr_X10_astray_122 _ _ hk40 ih _ _ _ _ _ _ _ _ _ h
theorem fr_X10_astray_40 : ∀ (n : Nat) (x1 : Int32) (x2 : Int32) (x3 : Int32) (x4 : Int64) (x6 : Int32) (x7 : Int32) (x8 : Int32) (σ : St) {r : Int32 × St}, f_X10_astray_40 n x1 x2 x3 x4 x6 x7 x8 σ = some r → frm [] [] σ r.2 := by
  intro n
  induction n with
  | zero =>
    intro x1 x2 x3 x4 x6 x7 x8 σ r h
    cases h
  | succ n ih =>
    intro x1 x2 x3 x4 x6 x7 x8 σ r h
    simp only [f_X10_astray_40] at h
    rcases ite_sp h with ⟨-, h⟩ | ⟨-, h⟩
    · rcases ite_sp h with ⟨-, h⟩ | ⟨-, h⟩
      · exact fr_X10_astray_146 _ _ h
      · exact fr_X10_astray_146 _ _ h
    · exact fr_X10_astray_52 _ ih FU _ _ _ _ _ _ _ _ _ h
theorem fr_X10_astray {x1 : Int32} {x2 : Int32} {x3 : Int32} {σ : St} {r : Int32 × St} (h : f_X10_astray x1 x2 x3 σ = some r) : frm [] [] σ r.2 := by
  unfold f_X10_astray at h
  obtain ⟨p1, hp1, h⟩ := bind_sp h
  refine frm.tr (frm.rf _) (frm.tr (frm.mo (fr_X10_isRest hp1) (by decide) (by decide)) ?_)
  rcases ite_sp h with ⟨-, h⟩ | ⟨-, h⟩
  · exact fr_X10_astray_13 _ h
  · rcases ite_sp h with ⟨-, h⟩ | ⟨-, h⟩
    · rcases ite_sp h with ⟨-, h⟩ | ⟨-, h⟩
      · obtain ⟨p2, hp2, h⟩ := bind_sp h
        refine frm.tr (frm.rf _) (frm.tr (frm.mo (fr_X10_seenNumber hp2) (by decide) (by decide)) ?_)
        exact fr_X10_astray_40 FU _ _ _ _ _ _ _ _ h
      · cases h
        exact (frm.rf _)
    · exact fr_X10_astray_13 _ h
theorem fr_X10_harvest_21 (σ : St) {r : Int32 × St} (h : f_X10_harvest_21 σ = some r) : frm [54] [(38, 33)] σ r.2 := by
  unfold f_X10_harvest_21 at h
  cases h
  exact (frm.rf _)
theorem fr_X10_harvest_43 (σ : St) {r : Int32 × St} (h : f_X10_harvest_43 σ = some r) : frm [54] [(38, 33)] σ r.2 := by
  unfold f_X10_harvest_43 at h
  cases h
  exact (frm.rf _)
theorem fr_X10_harvest {x1 : Int32} {σ : St} {r : Int32 × St} (h : f_X10_harvest x1 σ = some r) : frm [54] [(38, 33)] σ r.2 := by
  unfold f_X10_harvest at h
  obtain ⟨p1, hp1, h⟩ := bind_sp h
  refine frm.tr (frm.rf _) (frm.tr (frm.mo (fr_X10_in hp1) (by decide) (by decide)) ?_)
  rcases ite_sp h with ⟨-, h⟩ | ⟨-, h⟩
  · exact fr_X10_harvest_21 _ h
  · rcases ite_sp h with ⟨-, h⟩ | ⟨-, h⟩
    · exact fr_X10_harvest_21 _ h
    · obtain ⟨-, h⟩ := gd_some h
      exact frm.tr (frm_sIf (frm_sI (frm.rf _) (by simp)) (by simp)) (fr_X10_harvest_43 _ h)
theorem fr_X10_walksOf_136 (k15 : Int64 → Int32 → Int32 → Int64 → Int32 → St → Option (Int32 × St)) (hk15 : ∀ (x2 : Int64) (x4 : Int32) (x5 : Int32) (x6 : Int64) (x8 : Int32) (σ : St) {r : Int32 × St}, k15 x2 x4 x5 x6 x8 σ = some r → frm [] [] σ r.2) (x2 : Int64) (x4 : Int32) (x5 : Int32) (x6 : Int64) (x8 : Int32) (σ : St) {r : Int32 × St} (h : f_X10_walksOf_136 k15 x2 x4 x5 x6 x8 σ = some r) : frm [] [] σ r.2 := by
  unfold f_X10_walksOf_136 at h
  exact hk15 _ _ _ _ _ _ h
theorem fr_X10_walksOf_128 (k15 : Int64 → Int32 → Int32 → Int64 → Int32 → St → Option (Int32 × St)) (k34 : Int64 → Int32 → Int32 → Int64 → Int32 → Int32 → Int32 → St → Option (Int32 × St)) (hk15 : ∀ (x2 : Int64) (x4 : Int32) (x5 : Int32) (x6 : Int64) (x8 : Int32) (σ : St) {r : Int32 × St}, k15 x2 x4 x5 x6 x8 σ = some r → frm [] [] σ r.2) (hk34 : ∀ (x2 : Int64) (x4 : Int32) (x5 : Int32) (x6 : Int64) (x8 : Int32) (x9 : Int32) (x10 : Int32) (σ : St) {r : Int32 × St}, k34 x2 x4 x5 x6 x8 x9 x10 σ = some r → frm [] [] σ r.2) (x2 : Int64) (x4 : Int32) (x5 : Int32) (x6 : Int64) (x8 : Int32) (x10 : Int32) (y0 : Int32) (σ : St) {r : Int32 × St} (h : f_X10_walksOf_128 k15 k34 x2 x4 x5 x6 x8 x10 y0 σ = some r) : frm [] [] σ r.2 := by
  unfold f_X10_walksOf_128 at h
  exact hk34 _ _ _ _ _ _ _ _ h
theorem fr_X10_walksOf_113 (k15 : Int64 → Int32 → Int32 → Int64 → Int32 → St → Option (Int32 × St)) (k34 : Int64 → Int32 → Int32 → Int64 → Int32 → Int32 → Int32 → St → Option (Int32 × St)) (hk15 : ∀ (x2 : Int64) (x4 : Int32) (x5 : Int32) (x6 : Int64) (x8 : Int32) (σ : St) {r : Int32 × St}, k15 x2 x4 x5 x6 x8 σ = some r → frm [] [] σ r.2) (hk34 : ∀ (x2 : Int64) (x4 : Int32) (x5 : Int32) (x6 : Int64) (x8 : Int32) (x9 : Int32) (x10 : Int32) (σ : St) {r : Int32 × St}, k34 x2 x4 x5 x6 x8 x9 x10 σ = some r → frm [] [] σ r.2) (x2 : Int64) (x4 : Int32) (x5 : Int32) (x6 : Int64) (x8 : Int32) (x9 : Int32) (x10 : Int32) (x11 : Int32) (σ : St) {r : Int32 × St} (h : f_X10_walksOf_113 k15 k34 x2 x4 x5 x6 x8 x9 x10 x11 σ = some r) : frm [] [] σ r.2 := by
  unfold f_X10_walksOf_113 at h
  rcases ite_sp h with ⟨-, h⟩ | ⟨-, h⟩
  · exact fr_X10_walksOf_128 _ _ hk15 hk34 _ _ _ _ _ _ _ _ h
  · exact fr_X10_walksOf_128 _ _ hk15 hk34 _ _ _ _ _ _ _ _ h
theorem fr_X10_walksOf_96 (k15 : Int64 → Int32 → Int32 → Int64 → Int32 → St → Option (Int32 × St)) (k34 : Int64 → Int32 → Int32 → Int64 → Int32 → Int32 → Int32 → St → Option (Int32 × St)) (hk15 : ∀ (x2 : Int64) (x4 : Int32) (x5 : Int32) (x6 : Int64) (x8 : Int32) (σ : St) {r : Int32 × St}, k15 x2 x4 x5 x6 x8 σ = some r → frm [] [] σ r.2) (hk34 : ∀ (x2 : Int64) (x4 : Int32) (x5 : Int32) (x6 : Int64) (x8 : Int32) (x9 : Int32) (x10 : Int32) (σ : St) {r : Int32 × St}, k34 x2 x4 x5 x6 x8 x9 x10 σ = some r → frm [] [] σ r.2) (x2 : Int64) (x4 : Int32) (x5 : Int32) (x6 : Int64) (x8 : Int32) (x9 : Int32) (x10 : Int32) (x11 : Int32) (x12 : Int32) (σ : St) {r : Int32 × St} (h : f_X10_walksOf_96 k15 k34 x2 x4 x5 x6 x8 x9 x10 x11 x12 σ = some r) : frm [] [] σ r.2 := by
  unfold f_X10_walksOf_96 at h
  obtain ⟨p4, hp4, h⟩ := bind_sp h
  refine frm.tr (frm.rf _) (frm.tr (frm.mo (fr_X10_ten hp4) (by decide) (by decide)) ?_)
  exact fr_X10_walksOf_113 _ _ hk15 hk34 _ _ _ _ _ _ _ _ _ h
theorem fr_X10_walksOf_81 (k15 : Int64 → Int32 → Int32 → Int64 → Int32 → St → Option (Int32 × St)) (k34 : Int64 → Int32 → Int32 → Int64 → Int32 → Int32 → Int32 → St → Option (Int32 × St)) (hk15 : ∀ (x2 : Int64) (x4 : Int32) (x5 : Int32) (x6 : Int64) (x8 : Int32) (σ : St) {r : Int32 × St}, k15 x2 x4 x5 x6 x8 σ = some r → frm [] [] σ r.2) (hk34 : ∀ (x2 : Int64) (x4 : Int32) (x5 : Int32) (x6 : Int64) (x8 : Int32) (x9 : Int32) (x10 : Int32) (σ : St) {r : Int32 × St}, k34 x2 x4 x5 x6 x8 x9 x10 σ = some r → frm [] [] σ r.2) (x2 : Int64) (x4 : Int32) (x5 : Int32) (x6 : Int64) (x8 : Int32) (x9 : Int32) (x10 : Int32) (x11 : Int32) (y0 : Int32) (σ : St) {r : Int32 × St} (h : f_X10_walksOf_81 k15 k34 x2 x4 x5 x6 x8 x9 x10 x11 y0 σ = some r) : frm [] [] σ r.2 := by
  unfold f_X10_walksOf_81 at h
  exact fr_X10_walksOf_96 _ _ hk15 hk34 _ _ _ _ _ _ _ _ _ _ h
theorem fr_X10_walksOf_34 (k15 : Int64 → Int32 → Int32 → Int64 → Int32 → St → Option (Int32 × St)) (hk15 : ∀ (x2 : Int64) (x4 : Int32) (x5 : Int32) (x6 : Int64) (x8 : Int32) (σ : St) {r : Int32 × St}, k15 x2 x4 x5 x6 x8 σ = some r → frm [] [] σ r.2) : ∀ (n : Nat) (x2 : Int64) (x4 : Int32) (x5 : Int32) (x6 : Int64) (x8 : Int32) (x9 : Int32) (x10 : Int32) (σ : St) {r : Int32 × St}, f_X10_walksOf_34 k15 n x2 x4 x5 x6 x8 x9 x10 σ = some r → frm [] [] σ r.2 := by
  intro n
  induction n with
  | zero =>
    intro x2 x4 x5 x6 x8 x9 x10 σ r h
    cases h
  | succ n ih =>
    intro x2 x4 x5 x6 x8 x9 x10 σ r h
    simp only [f_X10_walksOf_34] at h
    rcases ite_sp h with ⟨-, h⟩ | ⟨-, h⟩
    · exact fr_X10_walksOf_136 _ hk15 _ _ _ _ _ _ h
    · rcases ite_sp h with ⟨-, h⟩ | ⟨-, h⟩
      · exact fr_X10_walksOf_136 _ hk15 _ _ _ _ _ _ h
      · obtain ⟨p3, hp3, h⟩ := bind_sp h
        refine frm.tr (frm.rf _) (frm.tr (frm.mo (fr_X10_digitOf hp3) (by decide) (by decide)) ?_)
        rcases ite_sp h with ⟨-, h⟩ | ⟨-, h⟩
        · exact fr_X10_walksOf_81 _ _ hk15 ih _ _ _ _ _ _ _ _ _ _ h
        · exact fr_X10_walksOf_81 _ _ hk15 ih _ _ _ _ _ _ _ _ _ _ h
theorem fr_X10_walksOf_15 : ∀ (n : Nat) (x2 : Int64) (x4 : Int32) (x5 : Int32) (x6 : Int64) (x8 : Int32) (σ : St) {r : Int32 × St}, f_X10_walksOf_15 n x2 x4 x5 x6 x8 σ = some r → frm [] [] σ r.2 := by
  intro n
  induction n with
  | zero =>
    intro x2 x4 x5 x6 x8 σ r h
    cases h
  | succ n ih =>
    intro x2 x4 x5 x6 x8 σ r h
    simp only [f_X10_walksOf_15] at h
    rcases ite_sp h with ⟨-, h⟩ | ⟨-, h⟩
    · cases h
      exact (frm.rf _)
    · obtain ⟨p2, hp2, h⟩ := bind_sp h
      refine frm.tr (frm.rf _) (frm.tr (frm.mo (fr_X10_digitOf hp2) (by decide) (by decide)) ?_)
      exact fr_X10_walksOf_34 _ ih FU _ _ _ _ _ _ _ _ h
theorem fr_X10_walksOf_12 (x2 : Int64) (x4 : Int32) (x5 : Int32) (x6 : Int64) (σ : St) {r : Int32 × St} (h : f_X10_walksOf_12 x2 x4 x5 x6 σ = some r) : frm [] [] σ r.2 := by
  unfold f_X10_walksOf_12 at h
  exact fr_X10_walksOf_15 FU _ _ _ _ _ _ h
theorem fr_X10_walksOf {x0 : Int64} {x2 : Int64} {x4 : Int32} {σ : St} {r : Int32 × St} (h : f_X10_walksOf x0 x2 x4 σ = some r) : frm [] [] σ r.2 := by
  unfold f_X10_walksOf at h
  obtain ⟨p1, hp1, h⟩ := bind_sp h
  refine frm.tr (frm.rf _) (frm.tr (frm.mo (fr_X10_ten hp1) (by decide) (by decide)) ?_)
  obtain ⟨-, h⟩ := gd_some h
  exact fr_X10_walksOf_12 _ _ _ _ _ h
theorem fr_X10_sumOf_38 (k5 : Int32 → Int64 → Int32 → St → Option (Int64 × St)) (hk5 : ∀ (x1 : Int32) (x2 : Int64) (x4 : Int32) (σ : St) {r : Int64 × St}, k5 x1 x2 x4 σ = some r → frm [] [] σ r.2) (x1 : Int32) (x2 : Int64) (x4 : Int32) (σ : St) {r : Int64 × St} (h : f_X10_sumOf_38 k5 x1 x2 x4 σ = some r) : frm [] [] σ r.2 := by
  unfold f_X10_sumOf_38 at h
  exact hk5 _ _ _ _ h
theorem fr_X10_sumOf_36 (k5 : Int32 → Int64 → Int32 → St → Option (Int64 × St)) (hk5 : ∀ (x1 : Int32) (x2 : Int64) (x4 : Int32) (σ : St) {r : Int64 × St}, k5 x1 x2 x4 σ = some r → frm [] [] σ r.2) (x1 : Int32) (x4 : Int32) (y0 : Int64) (y1 : Int64) (σ : St) {r : Int64 × St} (h : f_X10_sumOf_36 k5 x1 x4 y0 y1 σ = some r) : frm [] [] σ r.2 := by
  unfold f_X10_sumOf_36 at h
  exact fr_X10_sumOf_38 _ hk5 _ _ _ _ h
theorem fr_X10_sumOf_5 : ∀ (n : Nat) (x1 : Int32) (x2 : Int64) (x4 : Int32) (σ : St) {r : Int64 × St}, f_X10_sumOf_5 n x1 x2 x4 σ = some r → frm [] [] σ r.2 := by
  intro n
  induction n with
  | zero =>
    intro x1 x2 x4 σ r h
    cases h
  | succ n ih =>
    intro x1 x2 x4 σ r h
    simp only [f_X10_sumOf_5] at h
    rcases ite_sp h with ⟨-, h⟩ | ⟨-, h⟩
    · cases h
      exact (frm.rf _)
    · obtain ⟨p1, hp1, h⟩ := bind_sp h
      refine frm.tr (frm.rf _) (frm.tr (frm.mo (fr_X10_has hp1) (by decide) (by decide)) ?_)
      rcases ite_sp h with ⟨-, h⟩ | ⟨-, h⟩
      · exact fr_X10_sumOf_36 _ ih _ _ _ _ _ h
      · obtain ⟨-, h⟩ := gd_some h
        exact fr_X10_sumOf_36 _ ih _ _ _ _ _ h
theorem fr_X10_sumOf {x1 : Int32} {σ : St} {r : Int64 × St} (h : f_X10_sumOf x1 σ = some r) : frm [] [] σ r.2 := by
  unfold f_X10_sumOf at h
  exact fr_X10_sumOf_5 FU _ _ _ _ h
theorem fr_X10_lookOnward_113 (k11 : Int32 → Int32 → St → Option (St)) (k33 : Int32 → Int32 → Int32 → St → Option (St)) (hk11 : ∀ (x1 : Int32) (x2 : Int32) (σ : St) {r : St}, k11 x1 x2 σ = some r → frm [55] [] σ r) (hk33 : ∀ (x1 : Int32) (x2 : Int32) (x3 : Int32) (σ : St) {r : St}, k33 x1 x2 x3 σ = some r → frm [55] [] σ r) (x1 : Int32) (x2 : Int32) (x3 : Int32) (σ : St) {r : St} (h : f_X10_lookOnward_113 k11 k33 x1 x2 x3 σ = some r) : frm [55] [] σ r := by
  unfold f_X10_lookOnward_113 at h
  exact hk33 _ _ _ _ h
theorem fr_X10_lookOnward_112 (k11 : Int32 → Int32 → St → Option (St)) (k33 : Int32 → Int32 → Int32 → St → Option (St)) (hk11 : ∀ (x1 : Int32) (x2 : Int32) (σ : St) {r : St}, k11 x1 x2 σ = some r → frm [55] [] σ r) (hk33 : ∀ (x1 : Int32) (x2 : Int32) (x3 : Int32) (σ : St) {r : St}, k33 x1 x2 x3 σ = some r → frm [55] [] σ r) (x1 : Int32) (x2 : Int32) (x3 : Int32) (y0 : Int32) (y1 : Int32) (σ : St) {r : St} (h : f_X10_lookOnward_112 k11 k33 x1 x2 x3 y0 y1 σ = some r) : frm [55] [] σ r := by
  unfold f_X10_lookOnward_112 at h
  obtain ⟨-, h⟩ := gd_some h
  exact frm.tr (frm_sI (frm.rf _) (by simp)) (fr_X10_lookOnward_113 _ _ hk11 hk33 _ _ _ _ h)
theorem fr_X10_lookOnward_81 (k11 : Int32 → Int32 → St → Option (St)) (k33 : Int32 → Int32 → Int32 → St → Option (St)) (hk11 : ∀ (x1 : Int32) (x2 : Int32) (σ : St) {r : St}, k11 x1 x2 σ = some r → frm [55] [] σ r) (hk33 : ∀ (x1 : Int32) (x2 : Int32) (x3 : Int32) (σ : St) {r : St}, k33 x1 x2 x3 σ = some r → frm [55] [] σ r) (x1 : Int32) (x2 : Int32) (x3 : Int32) (x4 : Int32) (σ : St) {r : St} (h : f_X10_lookOnward_81 k11 k33 x1 x2 x3 x4 σ = some r) : frm [55] [] σ r := by
  unfold f_X10_lookOnward_81 at h
  obtain ⟨-, h⟩ := gd_some h
  rcases ite_sp h with ⟨-, h⟩ | ⟨-, h⟩
  · exact fr_X10_lookOnward_112 _ _ hk11 hk33 _ _ _ _ _ _ h
  · obtain ⟨-, h⟩ := gd_some h
    exact fr_X10_lookOnward_112 _ _ hk11 hk33 _ _ _ _ _ _ h
theorem fr_X10_lookOnward_33 (k11 : Int32 → Int32 → St → Option (St)) (hk11 : ∀ (x1 : Int32) (x2 : Int32) (σ : St) {r : St}, k11 x1 x2 σ = some r → frm [55] [] σ r) : ∀ (n : Nat) (x1 : Int32) (x2 : Int32) (x3 : Int32) (σ : St) {r : St}, f_X10_lookOnward_33 k11 n x1 x2 x3 σ = some r → frm [55] [] σ r := by
  intro n
  induction n with
  | zero =>
    intro x1 x2 x3 σ r h
    cases h
  | succ n ih =>
    intro x1 x2 x3 σ r h
    simp only [f_X10_lookOnward_33] at h
    rcases ite_sp h with ⟨-, h⟩ | ⟨-, h⟩
    · exact hk11 _ _ _ h
    · obtain ⟨p1, hp1, h⟩ := bind_sp h
      refine frm.tr (frm.rf _) (frm.tr (frm.mo (fr_X10_has hp1) (by decide) (by decide)) ?_)
      rcases ite_sp h with ⟨-, h⟩ | ⟨-, h⟩
      · obtain ⟨p2, hp2, h⟩ := bind_sp h
        refine frm.tr (frm.rf _) (frm.tr (frm.mo (fr_X10_sumOf hp2) (by decide) (by decide)) ?_)
        obtain ⟨-, h⟩ := gd_some h
        obtain ⟨p3, hp3, h⟩ := bind_sp h
        refine frm.tr (frm.rf _) (frm.tr (frm.mo (fr_X10_walksOf hp3) (by decide) (by decide)) ?_)
        obtain ⟨-, h⟩ := gd_some h
        exact fr_X10_lookOnward_81 _ _ hk11 ih _ _ _ _ _ h
      · exact fr_X10_lookOnward_113 _ _ hk11 ih _ _ _ _ h
theorem fr_X10_lookOnward_30 (k11 : Int32 → Int32 → St → Option (St)) (hk11 : ∀ (x1 : Int32) (x2 : Int32) (σ : St) {r : St}, k11 x1 x2 σ = some r → frm [55] [] σ r) (x1 : Int32) (x2 : Int32) (y0 : Int32) (y1 : Int32) (σ : St) {r : St} (h : f_X10_lookOnward_30 k11 x1 x2 y0 y1 σ = some r) : frm [55] [] σ r := by
  unfold f_X10_lookOnward_30 at h
  obtain ⟨-, h⟩ := gd_some h
  exact frm.tr (frm_sI (frm.rf _) (by simp)) (fr_X10_lookOnward_33 _ hk11 FU _ _ _ _ h)
theorem fr_X10_lookOnward_11 : ∀ (n : Nat) (x1 : Int32) (x2 : Int32) (σ : St) {r : St}, f_X10_lookOnward_11 n x1 x2 σ = some r → frm [55] [] σ r := by
  intro n
  induction n with
  | zero =>
    intro x1 x2 σ r h
    cases h
  | succ n ih =>
    intro x1 x2 σ r h
    simp only [f_X10_lookOnward_11] at h
    rcases ite_sp h with ⟨-, h⟩ | ⟨-, h⟩
    · cases h
      exact (frm.rf _)
    · rcases ite_sp h with ⟨-, h⟩ | ⟨-, h⟩
      · exact fr_X10_lookOnward_30 _ ih _ _ _ _ _ h
      · exact fr_X10_lookOnward_30 _ ih _ _ _ _ _ h
theorem fr_X10_lookOnward_9 (x1 : Int32) (σ : St) {r : St} (h : f_X10_lookOnward_9 x1 σ = some r) : frm [55] [] σ r := by
  unfold f_X10_lookOnward_9 at h
  exact fr_X10_lookOnward_11 FU _ _ _ h
theorem fr_X10_lookOnward {σ : St} {r : St} (h : f_X10_lookOnward σ = some r) : frm [55] [] σ r := by
  unfold f_X10_lookOnward at h
  exact fr_X10_lookOnward_9 _ _ h
theorem fr_X10_comes_62 (k7 : Int32 → Int32 → Int32 → Int32 → St → Option (Int32 × St)) (k15 : Int32 → Int32 → Int32 → Int32 → St → Option (Int32 × St)) (hk7 : ∀ (x1 : Int32) (x2 : Int32) (x3 : Int32) (x4 : Int32) (σ : St) {r : Int32 × St}, k7 x1 x2 x3 x4 σ = some r → frm [] [] σ r.2) (hk15 : ∀ (x1 : Int32) (x2 : Int32) (x3 : Int32) (x4 : Int32) (σ : St) {r : Int32 × St}, k15 x1 x2 x3 x4 σ = some r → frm [] [] σ r.2) (x1 : Int32) (x2 : Int32) (x3 : Int32) (x4 : Int32) (σ : St) {r : Int32 × St} (h : f_X10_comes_62 k7 k15 x1 x2 x3 x4 σ = some r) : frm [] [] σ r.2 := by
  unfold f_X10_comes_62 at h
  exact hk15 _ _ _ _ _ h
theorem fr_X10_comes_74 (k7 : Int32 → Int32 → Int32 → Int32 → St → Option (Int32 × St)) (hk7 : ∀ (x1 : Int32) (x2 : Int32) (x3 : Int32) (x4 : Int32) (σ : St) {r : Int32 × St}, k7 x1 x2 x3 x4 σ = some r → frm [] [] σ r.2) (x1 : Int32) (x2 : Int32) (x3 : Int32) (x4 : Int32) (σ : St) {r : Int32 × St} (h : f_X10_comes_74 k7 x1 x2 x3 x4 σ = some r) : frm [] [] σ r.2 := by
  unfold f_X10_comes_74 at h
  exact hk7 _ _ _ _ _ h
theorem fr_X10_comes_15 (k7 : Int32 → Int32 → Int32 → Int32 → St → Option (Int32 × St)) (hk7 : ∀ (x1 : Int32) (x2 : Int32) (x3 : Int32) (x4 : Int32) (σ : St) {r : Int32 × St}, k7 x1 x2 x3 x4 σ = some r → frm [] [] σ r.2) : ∀ (n : Nat) (x1 : Int32) (x2 : Int32) (x3 : Int32) (x4 : Int32) (σ : St) {r : Int32 × St}, f_X10_comes_15 k7 n x1 x2 x3 x4 σ = some r → frm [] [] σ r.2 := by
  intro n
  induction n with
  | zero =>
    intro x1 x2 x3 x4 σ r h
    cases h
  | succ n ih =>
    intro x1 x2 x3 x4 σ r h
    simp only [f_X10_comes_15] at h
    obtain ⟨p1, hp1, h⟩ := bind_sp h
    refine frm.tr (frm.rf _) (frm.tr (frm.mo (fr_X10_has hp1) (by decide) (by decide)) ?_)
    rcases ite_sp h with ⟨-, h⟩ | ⟨-, h⟩
    · obtain ⟨p2, hp2, h⟩ := bind_sp h
      refine frm.tr (frm.rf _) (frm.tr (frm.mo (fr_X10_sumOf hp2) (by decide) (by decide)) ?_)
      obtain ⟨-, h⟩ := gd_some h
      obtain ⟨p3, hp3, h⟩ := bind_sp h
      refine frm.tr (frm.rf _) (frm.tr (frm.mo (fr_X10_walksOf hp3) (by decide) (by decide)) ?_)
      obtain ⟨-, h⟩ := gd_some h
      obtain ⟨-, h⟩ := gd_some h
      rcases ite_sp h with ⟨-, h⟩ | ⟨-, h⟩
      · exact fr_X10_comes_74 _ hk7 _ _ _ _ _ h
      · exact fr_X10_comes_62 _ _ hk7 ih _ _ _ _ _ h
    · exact fr_X10_comes_62 _ _ hk7 ih _ _ _ _ _ h
theorem fr_X10_comes_7 : ∀ (n : Nat) (x1 : Int32) (x2 : Int32) (x3 : Int32) (x4 : Int32) (σ : St) {r : Int32 × St}, f_X10_comes_7 n x1 x2 x3 x4 σ = some r → frm [] [] σ r.2 := by
  intro n
  induction n with
  | zero =>
    intro x1 x2 x3 x4 σ r h
    cases h
  | succ n ih =>
    intro x1 x2 x3 x4 σ r h
    simp only [f_X10_comes_7] at h
    rcases ite_sp h with ⟨-, h⟩ | ⟨-, h⟩
    · cases h
      exact (frm.rf _)
    · exact fr_X10_comes_15 _ ih FU _ _ _ _ _ h
theorem fr_X10_comes {x1 : Int32} {σ : St} {r : Int32 × St} (h : f_X10_comes x1 σ = some r) : frm [] [] σ r.2 := by
  unfold f_X10_comes at h
  exact fr_X10_comes_7 FU _ _ _ _ _ h
theorem fr_X10_fewest_23 (σ : St) {r : Int32 × St} (h : f_X10_fewest_23 σ = some r) : frm [55] [] σ r.2 := by
  unfold f_X10_fewest_23 at h
  cases h
  exact (frm.rf _)
theorem fr_X10_fewest_101 (y0 : Int32) (σ : St) {r : Int32 × St} (h : f_X10_fewest_101 y0 σ = some r) : frm [55] [] σ r.2 := by
  unfold f_X10_fewest_101 at h
  cases h
  exact (frm.rf _)
theorem fr_X10_fewest_69 (k35 : Int32 → Int32 → St → Option (Int32 × St)) (hk35 : ∀ (x2 : Int32) (x3 : Int32) (σ : St) {r : Int32 × St}, k35 x2 x3 σ = some r → frm [55] [] σ r.2) (x2 : Int32) (x3 : Int32) (σ : St) {r : Int32 × St} (h : f_X10_fewest_69 k35 x2 x3 σ = some r) : frm [55] [] σ r.2 := by
  unfold f_X10_fewest_69 at h
  exact hk35 _ _ _ h
theorem fr_X10_fewest_35 : ∀ (n : Nat) (x2 : Int32) (x3 : Int32) (σ : St) {r : Int32 × St}, f_X10_fewest_35 n x2 x3 σ = some r → frm [55] [] σ r.2 := by
  intro n
  induction n with
  | zero =>
    intro x2 x3 σ r h
    cases h
  | succ n ih =>
    intro x2 x3 σ r h
    simp only [f_X10_fewest_35] at h
    rcases ite_sp h with ⟨-, h⟩ | ⟨-, h⟩
    · cases h
      exact (frm.rf _)
    · obtain ⟨p4, hp4, h⟩ := bind_sp h
      refine frm.tr (frm.rf _) (frm.tr (frm.mo (fr_X10_sumOf hp4) (by decide) (by decide)) ?_)
      obtain ⟨-, h⟩ := gd_some h
      obtain ⟨p5, hp5, h⟩ := bind_sp h
      refine frm.tr (frm.rf _) (frm.tr (frm.mo (fr_X10_walksOf hp5) (by decide) (by decide)) ?_)
      exact fr_X10_fewest_69 _ ih _ _ _ h
theorem fr_X10_fewest {x1 : Int32} {σ : St} {r : Int32 × St} (h : f_X10_fewest x1 σ = some r) : frm [55] [] σ r.2 := by
  unfold f_X10_fewest at h
  rcases ite_sp h with ⟨-, h⟩ | ⟨-, h⟩
  · exact fr_X10_fewest_23 _ h
  · obtain ⟨p1, hp1, h⟩ := bind_sp h
    refine frm.tr (frm.rf _) (frm.tr (frm.mo (fr_X10_in hp1) (by decide) (by decide)) ?_)
    rcases ite_sp h with ⟨-, h⟩ | ⟨-, h⟩
    · exact fr_X10_fewest_23 _ h
    · rcases ite_sp h with ⟨-, h⟩ | ⟨-, h⟩
      · exact fr_X10_fewest_35 FU _ _ _ h
      · obtain ⟨p2, hp2, h⟩ := bind_sp h
        refine frm.tr (frm.rf _) (frm.tr (frm.mo (fr_X10_lookOnward hp2) (by decide) (by decide)) ?_)
        rcases ite_sp h with ⟨-, h⟩ | ⟨-, h⟩
        · exact fr_X10_fewest_101 _ _ h
        · obtain ⟨p3, hp3, h⟩ := bind_sp h
          refine frm.tr (frm.rf _) (frm.tr (frm.mo (fr_X10_comes hp3) (by decide) (by decide)) ?_)
          exact fr_X10_fewest_101 _ _ h
theorem fr_X10_added_89 (y0 : Int32) (σ : St) {r : Int32 × St} (h : f_X10_added_89 y0 σ = some r) : frm [] [] σ r.2 := by
  unfold f_X10_added_89 at h
  cases h
  exact (frm.rf _)
theorem fr_X10_added_71 (k31 : Int32 → Int64 → Int32 → Int32 → Int32 → St → Option (Int32 × St)) (hk31 : ∀ (x1 : Int32) (x2 : Int64) (x4 : Int32) (x5 : Int32) (x6 : Int32) (σ : St) {r : Int32 × St}, k31 x1 x2 x4 x5 x6 σ = some r → frm [] [] σ r.2) (x1 : Int32) (x2 : Int64) (x4 : Int32) (x5 : Int32) (x6 : Int32) (σ : St) {r : Int32 × St} (h : f_X10_added_71 k31 x1 x2 x4 x5 x6 σ = some r) : frm [] [] σ r.2 := by
  unfold f_X10_added_71 at h
  exact hk31 _ _ _ _ _ _ h
theorem fr_X10_added_66 (k31 : Int32 → Int64 → Int32 → Int32 → Int32 → St → Option (Int32 × St)) (hk31 : ∀ (x1 : Int32) (x2 : Int64) (x4 : Int32) (x5 : Int32) (x6 : Int32) (σ : St) {r : Int32 × St}, k31 x1 x2 x4 x5 x6 σ = some r → frm [] [] σ r.2) (x1 : Int32) (x2 : Int64) (x4 : Int32) (x6 : Int32) (y0 : Int32) (σ : St) {r : Int32 × St} (h : f_X10_added_66 k31 x1 x2 x4 x6 y0 σ = some r) : frm [] [] σ r.2 := by
  unfold f_X10_added_66 at h
  exact fr_X10_added_71 _ hk31 _ _ _ _ _ _ h
theorem fr_X10_added_31 : ∀ (n : Nat) (x1 : Int32) (x2 : Int64) (x4 : Int32) (x5 : Int32) (x6 : Int32) (σ : St) {r : Int32 × St}, f_X10_added_31 n x1 x2 x4 x5 x6 σ = some r → frm [] [] σ r.2 := by
  intro n
  induction n with
  | zero =>
    intro x1 x2 x4 x5 x6 σ r h
    cases h
  | succ n ih =>
    intro x1 x2 x4 x5 x6 σ r h
    simp only [f_X10_added_31] at h
    rcases ite_sp h with ⟨-, h⟩ | ⟨-, h⟩
    · rcases ite_sp h with ⟨-, h⟩ | ⟨-, h⟩
      · exact fr_X10_added_89 _ _ h
      · exact fr_X10_added_89 _ _ h
    · obtain ⟨p2, hp2, h⟩ := bind_sp h
      refine frm.tr (frm.rf _) (frm.tr (frm.mo (fr_X10_sumOf hp2) (by decide) (by decide)) ?_)
      rcases ite_sp h with ⟨-, h⟩ | ⟨-, h⟩
      · rcases ite_sp h with ⟨-, h⟩ | ⟨-, h⟩
        · exact fr_X10_added_66 _ ih _ _ _ _ _ _ h
        · exact fr_X10_added_66 _ ih _ _ _ _ _ _ h
      · exact fr_X10_added_71 _ ih _ _ _ _ _ _ h
theorem fr_X10_added {x1 : Int32} {σ : St} {r : Int32 × St} (h : f_X10_added x1 σ = some r) : frm [] [] σ r.2 := by
  unfold f_X10_added at h
  rcases ite_sp h with ⟨-, h⟩ | ⟨-, h⟩
  · rcases ite_sp h with ⟨-, h⟩ | ⟨-, h⟩
    · obtain ⟨p1, hp1, h⟩ := bind_sp h
      refine frm.tr (frm.rf _) (frm.tr (frm.mo (fr_X10_seenNumber hp1) (by decide) (by decide)) ?_)
      exact fr_X10_added_31 FU _ _ _ _ _ _ h
    · cases h
      exact (frm.rf _)
  · cases h
    exact (frm.rf _)
theorem fr_X10_near_131 (k20 : Int64 → Int32 → Int32 → St → Option (Int32 × St)) (k34 : Int64 → Int32 → Int32 → Int32 → St → Option (Int32 × St)) (hk20 : ∀ (x1 : Int64) (x3 : Int32) (x4 : Int32) (σ : St) {r : Int32 × St}, k20 x1 x3 x4 σ = some r → frm [] [] σ r.2) (hk34 : ∀ (x1 : Int64) (x3 : Int32) (x4 : Int32) (x5 : Int32) (σ : St) {r : Int32 × St}, k34 x1 x3 x4 x5 σ = some r → frm [] [] σ r.2) (x1 : Int64) (x3 : Int32) (x4 : Int32) (x5 : Int32) (σ : St) {r : Int32 × St} (h : f_X10_near_131 k20 k34 x1 x3 x4 x5 σ = some r) : frm [] [] σ r.2 := by
  unfold f_X10_near_131 at h
  exact hk34 _ _ _ _ _ h
