theorem fr_X10_near_129 (k20 : Int64 → Int32 → Int32 → St → Option (Int32 × St)) (k34 : Int64 → Int32 → Int32 → Int32 → St → Option (Int32 × St)) (hk20 : ∀ (x1 : Int64) (x3 : Int32) (x4 : Int32) (σ : St) {r : Int32 × St}, k20 x1 x3 x4 σ = some r → frm [] [] σ r.2) (hk34 : ∀ (x1 : Int64) (x3 : Int32) (x4 : Int32) (x5 : Int32) (σ : St) {r : Int32 × St}, k34 x1 x3 x4 x5 σ = some r → frm [] [] σ r.2) (x1 : Int64) (x4 : Int32) (x5 : Int32) (y0 : Int32) (y1 : Int32) (σ : St) {r : Int32 × St} (h : f_X10_near_129 k20 k34 x1 x4 x5 y0 y1 σ = some r) : frm [] [] σ r.2 := by
  unfold f_X10_near_129 at h
  exact fr_X10_near_131 _ _ hk20 hk34 _ _ _ _ _ h
theorem fr_X10_near_128 (k20 : Int64 → Int32 → Int32 → St → Option (Int32 × St)) (k34 : Int64 → Int32 → Int32 → Int32 → St → Option (Int32 × St)) (hk20 : ∀ (x1 : Int64) (x3 : Int32) (x4 : Int32) (σ : St) {r : Int32 × St}, k20 x1 x3 x4 σ = some r → frm [] [] σ r.2) (hk34 : ∀ (x1 : Int64) (x3 : Int32) (x4 : Int32) (x5 : Int32) (σ : St) {r : Int32 × St}, k34 x1 x3 x4 x5 σ = some r → frm [] [] σ r.2) (x1 : Int64) (x4 : Int32) (x5 : Int32) (y0 : Int32) (σ : St) {r : Int32 × St} (h : f_X10_near_128 k20 k34 x1 x4 x5 y0 σ = some r) : frm [] [] σ r.2 := by
  unfold f_X10_near_128 at h
  exact fr_X10_near_129 _ _ hk20 hk34 _ _ _ _ _ _ h
theorem fr_X10_near_87 (k20 : Int64 → Int32 → Int32 → St → Option (Int32 × St)) (k34 : Int64 → Int32 → Int32 → Int32 → St → Option (Int32 × St)) (hk20 : ∀ (x1 : Int64) (x3 : Int32) (x4 : Int32) (σ : St) {r : Int32 × St}, k20 x1 x3 x4 σ = some r → frm [] [] σ r.2) (hk34 : ∀ (x1 : Int64) (x3 : Int32) (x4 : Int32) (x5 : Int32) (σ : St) {r : Int32 × St}, k34 x1 x3 x4 x5 σ = some r → frm [] [] σ r.2) (x1 : Int64) (x3 : Int32) (x4 : Int32) (x5 : Int32) (σ : St) {r : Int32 × St} (h : f_X10_near_87 k20 k34 x1 x3 x4 x5 σ = some r) : frm [] [] σ r.2 := by
  unfold f_X10_near_87 at h
  obtain ⟨p4, hp4, h⟩ := bind_sp h
  refine frm.tr (frm.rf _) (frm.tr (frm.mo (fr_X10_seen hp4) (by decide) (by decide)) ?_)
  obtain ⟨p5, hp5, h⟩ := bind_sp h
  refine frm.tr (frm.rf _) (frm.tr (frm.mo (fr_X10_in hp5) (by decide) (by decide)) ?_)
  rcases ite_sp h with ⟨-, h⟩ | ⟨-, h⟩
  · exact fr_X10_near_128 _ _ hk20 hk34 _ _ _ _ _ h
  · obtain ⟨p6, hp6, h⟩ := bind_sp h
    refine frm.tr (frm.rf _) (frm.tr (frm.mo (fr_X10_sumOf hp6) (by decide) (by decide)) ?_)
    obtain ⟨p7, hp7, h⟩ := bind_sp h
    refine frm.tr (frm.rf _) (frm.tr (frm.mo (fr_X10_ten hp7) (by decide) (by decide)) ?_)
    rcases ite_sp h with ⟨-, h⟩ | ⟨-, h⟩
    · exact fr_X10_near_129 _ _ hk20 hk34 _ _ _ _ _ _ h
    · exact fr_X10_near_128 _ _ hk20 hk34 _ _ _ _ _ h
theorem fr_X10_near_85 (k20 : Int64 → Int32 → Int32 → St → Option (Int32 × St)) (k34 : Int64 → Int32 → Int32 → Int32 → St → Option (Int32 × St)) (hk20 : ∀ (x1 : Int64) (x3 : Int32) (x4 : Int32) (σ : St) {r : Int32 × St}, k20 x1 x3 x4 σ = some r → frm [] [] σ r.2) (hk34 : ∀ (x1 : Int64) (x3 : Int32) (x4 : Int32) (x5 : Int32) (σ : St) {r : Int32 × St}, k34 x1 x3 x4 x5 σ = some r → frm [] [] σ r.2) (x1 : Int64) (x4 : Int32) (x5 : Int32) (y0 : Int32) (y1 : Int32) (σ : St) {r : Int32 × St} (h : f_X10_near_85 k20 k34 x1 x4 x5 y0 y1 σ = some r) : frm [] [] σ r.2 := by
  unfold f_X10_near_85 at h
  exact fr_X10_near_87 _ _ hk20 hk34 _ _ _ _ _ h
theorem fr_X10_near_84 (k20 : Int64 → Int32 → Int32 → St → Option (Int32 × St)) (k34 : Int64 → Int32 → Int32 → Int32 → St → Option (Int32 × St)) (hk20 : ∀ (x1 : Int64) (x3 : Int32) (x4 : Int32) (σ : St) {r : Int32 × St}, k20 x1 x3 x4 σ = some r → frm [] [] σ r.2) (hk34 : ∀ (x1 : Int64) (x3 : Int32) (x4 : Int32) (x5 : Int32) (σ : St) {r : Int32 × St}, k34 x1 x3 x4 x5 σ = some r → frm [] [] σ r.2) (x1 : Int64) (x4 : Int32) (x5 : Int32) (y0 : Int32) (σ : St) {r : Int32 × St} (h : f_X10_near_84 k20 k34 x1 x4 x5 y0 σ = some r) : frm [] [] σ r.2 := by
  unfold f_X10_near_84 at h
  exact fr_X10_near_85 _ _ hk20 hk34 _ _ _ _ _ _ h
theorem fr_X10_near_34 (k20 : Int64 → Int32 → Int32 → St → Option (Int32 × St)) (hk20 : ∀ (x1 : Int64) (x3 : Int32) (x4 : Int32) (σ : St) {r : Int32 × St}, k20 x1 x3 x4 σ = some r → frm [] [] σ r.2) : ∀ (n : Nat) (x1 : Int64) (x3 : Int32) (x4 : Int32) (x5 : Int32) (σ : St) {r : Int32 × St}, f_X10_near_34 k20 n x1 x3 x4 x5 σ = some r → frm [] [] σ r.2 := by
  intro n
  induction n with
  | zero =>
    intro x1 x3 x4 x5 σ r h
    cases h
  | succ n ih =>
    intro x1 x3 x4 x5 σ r h
    simp only [f_X10_near_34] at h
    rcases ite_sp h with ⟨-, h⟩ | ⟨-, h⟩
    · exact hk20 _ _ _ _ h
    · obtain ⟨p2, hp2, h⟩ := bind_sp h
      refine frm.tr (frm.rf _) (frm.tr (frm.mo (fr_X10_seen hp2) (by decide) (by decide)) ?_)
      obtain ⟨p3, hp3, h⟩ := bind_sp h
      refine frm.tr (frm.rf _) (frm.tr (frm.mo (fr_X10_in hp3) (by decide) (by decide)) ?_)
      rcases ite_sp h with ⟨-, h⟩ | ⟨-, h⟩
      · exact fr_X10_near_84 _ _ hk20 ih _ _ _ _ _ h
      · obtain ⟨p8, hp8, h⟩ := bind_sp h
        refine frm.tr (frm.rf _) (frm.tr (frm.mo (fr_X10_sumOf hp8) (by decide) (by decide)) ?_)
        obtain ⟨p9, hp9, h⟩ := bind_sp h
        refine frm.tr (frm.rf _) (frm.tr (frm.mo (fr_X10_ten hp9) (by decide) (by decide)) ?_)
        rcases ite_sp h with ⟨-, h⟩ | ⟨-, h⟩
        · exact fr_X10_near_85 _ _ hk20 ih _ _ _ _ _ _ h
        · exact fr_X10_near_84 _ _ hk20 ih _ _ _ _ _ h
theorem fr_X10_near_20 : ∀ (n : Nat) (x1 : Int64) (x3 : Int32) (x4 : Int32) (σ : St) {r : Int32 × St}, f_X10_near_20 n x1 x3 x4 σ = some r → frm [] [] σ r.2 := by
  intro n
  induction n with
  | zero =>
    intro x1 x3 x4 σ r h
    cases h
  | succ n ih =>
    intro x1 x3 x4 σ r h
    simp only [f_X10_near_20] at h
    rcases ite_sp h with ⟨-, h⟩ | ⟨-, h⟩
    · cases h
      exact (frm.rf _)
    · exact fr_X10_near_34 _ ih FU _ _ _ _ _ h
theorem fr_X10_near {σ : St} {r : Int32 × St} (h : f_X10_near σ = some r) : frm [] [] σ r.2 := by
  unfold f_X10_near at h
  rcases ite_sp h with ⟨-, h⟩ | ⟨-, h⟩
  · obtain ⟨p1, hp1, h⟩ := bind_sp h
    refine frm.tr (frm.rf _) (frm.tr (frm.mo (fr_X10_seenNumber hp1) (by decide) (by decide)) ?_)
    exact fr_X10_near_20 FU _ _ _ _ h
  · cases h
    exact (frm.rf _)
theorem fr_X10_addTo_29 (σ : St) {r : St} (h : f_X10_addTo_29 σ = some r) : frm [] [(38, 35), (38, 36), (38, 37)] σ r := by
  unfold f_X10_addTo_29 at h
  cases h
  exact (frm_sIf (frm.rf _) (by simp))
theorem fr_X10_addTo {x1 : Int64} {σ : St} {r : St} (h : f_X10_addTo x1 σ = some r) : frm [] [(38, 35), (38, 36), (38, 37)] σ r := by
  unfold f_X10_addTo at h
  obtain ⟨p1, hp1, h⟩ := bind_sp h
  refine frm.tr (frm.rf _) (frm.tr (frm.mo (fr_X10_walksOf hp1) (by decide) (by decide)) ?_)
  exact frm.tr (frm_sJf (frm_sIf (frm.rf _) (by simp)) (by simp)) (fr_X10_addTo_29 _ h)
theorem fr_X10_twice_61 (k8 : Int64 → Int32 → St → Option (St)) (hk8 : ∀ (x1 : Int64) (x3 : Int32) (σ : St) {r : St}, k8 x1 x3 σ = some r → frm [] [(38, 35), (38, 36), (38, 37)] σ r) (x1 : Int64) (x3 : Int32) (σ : St) {r : St} (h : f_X10_twice_61 k8 x1 x3 σ = some r) : frm [] [(38, 35), (38, 36), (38, 37)] σ r := by
  unfold f_X10_twice_61 at h
  exact hk8 _ _ _ h
theorem fr_X10_twice_8 : ∀ (n : Nat) (x1 : Int64) (x3 : Int32) (σ : St) {r : St}, f_X10_twice_8 n x1 x3 σ = some r → frm [] [(38, 35), (38, 36), (38, 37)] σ r := by
  intro n
  induction n with
  | zero =>
    intro x1 x3 σ r h
    cases h
  | succ n ih =>
    intro x1 x3 σ r h
    simp only [f_X10_twice_8] at h
    rcases ite_sp h with ⟨-, h⟩ | ⟨-, h⟩
    · cases h
      exact (frm_sIf (frm.rf _) (by simp))
    · obtain ⟨p1, hp1, h⟩ := bind_sp h
      refine frm.tr (frm.rf _) (frm.tr (frm.mo (fr_X10_digitOf hp1) (by decide) (by decide)) ?_)
      obtain ⟨p2, hp2, h⟩ := bind_sp h
      refine frm.tr (frm.rf _) (frm.tr (frm.mo (fr_X10_ten hp2) (by decide) (by decide)) ?_)
      obtain ⟨p3, hp3, h⟩ := bind_sp h
      refine frm.tr (frm.rf _) (frm.tr (frm.mo (fr_X10_walksOf hp3) (by decide) (by decide)) ?_)
      obtain ⟨p4, hp4, h⟩ := bind_sp h
      refine frm.tr (frm_sIf (frm.rf _) (by simp)) (frm.tr (frm.mo (fr_X10_digitOf hp4) (by decide) (by decide)) ?_)
      obtain ⟨p5, hp5, h⟩ := bind_sp h
      refine frm.tr (frm.rf _) (frm.tr (frm.mo (fr_X10_ten hp5) (by decide) (by decide)) ?_)
      exact frm.tr (frm_sJf (frm.rf _) (by simp)) (fr_X10_twice_61 _ ih _ _ _ h)
theorem fr_X10_twice_5 (x1 : Int64) (σ : St) {r : St} (h : f_X10_twice_5 x1 σ = some r) : frm [] [(38, 35), (38, 36), (38, 37)] σ r := by
  unfold f_X10_twice_5 at h
  exact fr_X10_twice_8 FU _ _ _ h
theorem fr_X10_twice {σ : St} {r : St} (h : f_X10_twice σ = some r) : frm [] [(38, 35), (38, 36), (38, 37)] σ r := by
  unfold f_X10_twice at h
  exact fr_X10_twice_5 _ _ h
theorem fr_X10_multiply_96 (k66 : Int32 → Int32 → Int32 → Int32 → St → Option (St)) (hk66 : ∀ (x1 : Int32) (x2 : Int32) (x3 : Int32) (x4 : Int32) (σ : St) {r : St}, k66 x1 x2 x3 x4 σ = some r → frm [] [(38, 35), (38, 36), (38, 37)] σ r) : ∀ (n : Nat) (x1 : Int32) (x2 : Int32) (x3 : Int32) (x4 : Int32) (x5 : Int32) (x6 : Int32) (σ : St) {r : St}, f_X10_multiply_96 k66 n x1 x2 x3 x4 x5 x6 σ = some r → frm [] [(38, 35), (38, 36), (38, 37)] σ r := by
  intro n
  induction n with
  | zero =>
    intro x1 x2 x3 x4 x5 x6 σ r h
    cases h
  | succ n ih =>
    intro x1 x2 x3 x4 x5 x6 σ r h
    simp only [f_X10_multiply_96] at h
    rcases ite_sp h with ⟨-, h⟩ | ⟨-, h⟩
    · exact hk66 _ _ _ _ _ h
    · obtain ⟨p2, hp2, h⟩ := bind_sp h
      refine frm.tr (frm.rf _) (frm.tr (frm.mo (fr_X10_ten hp2) (by decide) (by decide)) ?_)
      obtain ⟨p3, hp3, h⟩ := bind_sp h
      refine frm.tr (frm.rf _) (frm.tr (frm.mo (fr_X10_addTo hp3) (by decide) (by decide)) ?_)
      exact ih _ _ _ _ _ _ _ h
theorem fr_X10_multiply_85 (k66 : Int32 → Int32 → Int32 → Int32 → St → Option (St)) (hk66 : ∀ (x1 : Int32) (x2 : Int32) (x3 : Int32) (x4 : Int32) (σ : St) {r : St}, k66 x1 x2 x3 x4 σ = some r → frm [] [(38, 35), (38, 36), (38, 37)] σ r) (x1 : Int32) (x2 : Int32) (x3 : Int32) (x4 : Int32) (y0 : Int32) (σ : St) {r : St} (h : f_X10_multiply_85 k66 x1 x2 x3 x4 y0 σ = some r) : frm [] [(38, 35), (38, 36), (38, 37)] σ r := by
  unfold f_X10_multiply_85 at h
  obtain ⟨p1, hp1, h⟩ := bind_sp h
  refine frm.tr (frm.rf _) (frm.tr (frm.mo (fr_X10_digitOf hp1) (by decide) (by decide)) ?_)
  exact fr_X10_multiply_96 _ hk66 FU _ _ _ _ _ _ _ h
theorem fr_X10_multiply_66 : ∀ (n : Nat) (x1 : Int32) (x2 : Int32) (x3 : Int32) (x4 : Int32) (σ : St) {r : St}, f_X10_multiply_66 n x1 x2 x3 x4 σ = some r → frm [] [(38, 35), (38, 36), (38, 37)] σ r := by
  intro n
  induction n with
  | zero =>
    intro x1 x2 x3 x4 σ r h
    cases h
  | succ n ih =>
    intro x1 x2 x3 x4 σ r h
    simp only [f_X10_multiply_66] at h
    rcases ite_sp h with ⟨-, h⟩ | ⟨-, h⟩
    · cases h
      exact (frm.rf _)
    · rcases ite_sp h with ⟨-, h⟩ | ⟨-, h⟩
      · exact fr_X10_multiply_85 _ ih _ _ _ _ _ _ h
      · exact fr_X10_multiply_85 _ ih _ _ _ _ _ _ h
theorem fr_X10_multiply_56 (k24 : Int32 → Int32 → Int32 → St → Option (St)) (hk24 : ∀ (x1 : Int32) (x2 : Int32) (x4 : Int32) (σ : St) {r : St}, k24 x1 x2 x4 σ = some r → frm [] [(38, 35), (38, 36), (38, 37)] σ r) (x1 : Int32) (x2 : Int32) (x4 : Int32) (σ : St) {r : St} (h : f_X10_multiply_56 k24 x1 x2 x4 σ = some r) : frm [] [(38, 35), (38, 36), (38, 37)] σ r := by
  unfold f_X10_multiply_56 at h
  exact hk24 _ _ _ _ h
theorem fr_X10_multiply_24 : ∀ (n : Nat) (x1 : Int32) (x2 : Int32) (x4 : Int32) (σ : St) {r : St}, f_X10_multiply_24 n x1 x2 x4 σ = some r → frm [] [(38, 35), (38, 36), (38, 37)] σ r := by
  intro n
  induction n with
  | zero =>
    intro x1 x2 x4 σ r h
    cases h
  | succ n ih =>
    intro x1 x2 x4 σ r h
    simp only [f_X10_multiply_24] at h
    rcases ite_sp h with ⟨-, h⟩ | ⟨-, h⟩
    · cases h
      exact (frm.rf _)
    · rcases ite_sp h with ⟨-, h⟩ | ⟨-, h⟩
      · exact fr_X10_multiply_56 _ ih _ _ _ _ h
      · obtain ⟨p4, hp4, h⟩ := bind_sp h
        refine frm.tr (frm.rf _) (frm.tr (frm.mo (fr_X10_twice hp4) (by decide) (by decide)) ?_)
        rcases ite_sp h with ⟨-, h⟩ | ⟨-, h⟩
        · obtain ⟨p5, hp5, h⟩ := bind_sp h
          refine frm.tr (frm.rf _) (frm.tr (frm.mo (fr_X10_addTo hp5) (by decide) (by decide)) ?_)
          exact fr_X10_multiply_56 _ ih _ _ _ _ h
        · exact fr_X10_multiply_56 _ ih _ _ _ _ h
theorem fr_X10_multiply {x1 : Int32} {x2 : Int32} {x3 : Int32} {σ : St} {r : St} (h : f_X10_multiply x1 x2 x3 σ = some r) : frm [] [(38, 35), (38, 36), (38, 37)] σ r := by
  unfold f_X10_multiply at h
  rcases ite_sp h with ⟨-, h⟩ | ⟨-, h⟩
  · exact frm.tr (frm_sIf (frm_sIf (frm_sJf (frm.rf _) (by simp)) (by simp)) (by simp)) (fr_X10_multiply_24 FU _ _ _ _ h)
  · exact frm.tr (frm_sIf (frm_sIf (frm_sJf (frm.rf _) (by simp)) (by simp)) (by simp)) (fr_X10_multiply_66 FU _ _ _ _ _ h)
theorem fr_X10_product_49 (σ : St) {r : Int64 × St} (h : f_X10_product_49 σ = some r) : frm [] [(38, 35), (38, 36), (38, 37)] σ r.2 := by
  unfold f_X10_product_49 at h
  cases h
  exact (frm.rf _)
theorem fr_X10_product_91 (y0 : Int64) (σ : St) {r : Int64 × St} (h : f_X10_product_91 y0 σ = some r) : frm [] [(38, 35), (38, 36), (38, 37)] σ r.2 := by
  unfold f_X10_product_91 at h
  cases h
  exact (frm.rf _)
theorem fr_X10_product {x1 : Int32} {x2 : Int32} {x3 : Int32} {x4 : Int32} {σ : St} {r : Int64 × St} (h : f_X10_product x1 x2 x3 x4 σ = some r) : frm [] [(38, 35), (38, 36), (38, 37)] σ r.2 := by
  unfold f_X10_product at h
  obtain ⟨p1, hp1, h⟩ := bind_sp h
  refine frm.tr (frm.rf _) (frm.tr (frm.mo (fr_X10_in hp1) (by decide) (by decide)) ?_)
  rcases ite_sp h with ⟨-, h⟩ | ⟨-, h⟩
  · exact fr_X10_product_49 _ h
  · obtain ⟨p2, hp2, h⟩ := bind_sp h
    refine frm.tr (frm.rf _) (frm.tr (frm.mo (fr_X10_in hp2) (by decide) (by decide)) ?_)
    rcases ite_sp h with ⟨-, h⟩ | ⟨-, h⟩
    · exact fr_X10_product_49 _ h
    · obtain ⟨p3, hp3, h⟩ := bind_sp h
      refine frm.tr (frm.rf _) (frm.tr (frm.mo (fr_X10_in hp3) (by decide) (by decide)) ?_)
      rcases ite_sp h with ⟨-, h⟩ | ⟨-, h⟩
      · exact fr_X10_product_49 _ h
      · obtain ⟨p4, hp4, h⟩ := bind_sp h
        refine frm.tr (frm.rf _) (frm.tr (frm.mo (fr_X10_in hp4) (by decide) (by decide)) ?_)
        rcases ite_sp h with ⟨-, h⟩ | ⟨-, h⟩
        · exact fr_X10_product_49 _ h
        · obtain ⟨p5, hp5, h⟩ := bind_sp h
          refine frm.tr (frm.rf _) (frm.tr (frm.mo (fr_X10_multiply hp5) (by decide) (by decide)) ?_)
          rcases ite_sp h with ⟨-, h⟩ | ⟨-, h⟩
          · exact fr_X10_product_91 _ _ h
          · rcases ite_sp h with ⟨-, h⟩ | ⟨-, h⟩
            · exact fr_X10_product_91 _ _ h
            · exact fr_X10_product_91 _ _ h
theorem fr_X10_rival_24 (σ : St) {r : Int32 × St} (h : f_X10_rival_24 σ = some r) : frm [] [(38, 35), (38, 36), (38, 37)] σ r.2 := by
  unfold f_X10_rival_24 at h
  cases h
  exact (frm.rf _)
theorem fr_X10_rival_71 (k34 : Int32 → Int32 → Int32 → Int32 → Int32 → St → Option (Int32 × St)) (hk34 : ∀ (x1 : Int32) (x2 : Int32) (x3 : Int32) (x4 : Int32) (x5 : Int32) (σ : St) {r : Int32 × St}, k34 x1 x2 x3 x4 x5 σ = some r → frm [] [(38, 35), (38, 36), (38, 37)] σ r.2) (x1 : Int32) (x2 : Int32) (x3 : Int32) (x4 : Int32) (x5 : Int32) (σ : St) {r : Int32 × St} (h : f_X10_rival_71 k34 x1 x2 x3 x4 x5 σ = some r) : frm [] [(38, 35), (38, 36), (38, 37)] σ r.2 := by
  unfold f_X10_rival_71 at h
  exact hk34 _ _ _ _ _ _ h
theorem fr_X10_rival_62 (k34 : Int32 → Int32 → Int32 → Int32 → Int32 → St → Option (Int32 × St)) (hk34 : ∀ (x1 : Int32) (x2 : Int32) (x3 : Int32) (x4 : Int32) (x5 : Int32) (σ : St) {r : Int32 × St}, k34 x1 x2 x3 x4 x5 σ = some r → frm [] [(38, 35), (38, 36), (38, 37)] σ r.2) (x1 : Int32) (x2 : Int32) (x5 : Int32) (σ : St) {r : Int32 × St} (h : f_X10_rival_62 k34 x1 x2 x5 σ = some r) : frm [] [(38, 35), (38, 36), (38, 37)] σ r.2 := by
  unfold f_X10_rival_62 at h
  exact fr_X10_rival_71 _ hk34 _ _ _ _ _ _ h
theorem fr_X10_rival_34 : ∀ (n : Nat) (x1 : Int32) (x2 : Int32) (x3 : Int32) (x4 : Int32) (x5 : Int32) (σ : St) {r : Int32 × St}, f_X10_rival_34 n x1 x2 x3 x4 x5 σ = some r → frm [] [(38, 35), (38, 36), (38, 37)] σ r.2 := by
  intro n
  induction n with
  | zero =>
    intro x1 x2 x3 x4 x5 σ r h
    cases h
  | succ n ih =>
    intro x1 x2 x3 x4 x5 σ r h
    simp only [f_X10_rival_34] at h
    rcases ite_sp h with ⟨-, h⟩ | ⟨-, h⟩
    · cases h
      exact (frm.rf _)
    · obtain ⟨p3, hp3, h⟩ := bind_sp h
      refine frm.tr (frm.rf _) (frm.tr (frm.mo (fr_X10_multiply hp3) (by decide) (by decide)) ?_)
      rcases ite_sp h with ⟨-, h⟩ | ⟨-, h⟩
      · exact fr_X10_rival_62 _ ih _ _ _ _ h
      · rcases ite_sp h with ⟨-, h⟩ | ⟨-, h⟩
        · exact fr_X10_rival_71 _ ih _ _ _ _ _ _ h
        · exact fr_X10_rival_62 _ ih _ _ _ _ h
theorem fr_X10_rival {x1 : Int32} {x2 : Int32} {σ : St} {r : Int32 × St} (h : f_X10_rival x1 x2 σ = some r) : frm [] [(38, 35), (38, 36), (38, 37)] σ r.2 := by
  unfold f_X10_rival at h
  obtain ⟨p1, hp1, h⟩ := bind_sp h
  refine frm.tr (frm.rf _) (frm.tr (frm.mo (fr_X10_in hp1) (by decide) (by decide)) ?_)
  rcases ite_sp h with ⟨-, h⟩ | ⟨-, h⟩
  · exact fr_X10_rival_24 _ h
  · obtain ⟨p2, hp2, h⟩ := bind_sp h
    refine frm.tr (frm.rf _) (frm.tr (frm.mo (fr_X10_in hp2) (by decide) (by decide)) ?_)
    rcases ite_sp h with ⟨-, h⟩ | ⟨-, h⟩
    · exact fr_X10_rival_24 _ h
    · exact fr_X10_rival_34 FU _ _ _ _ _ _ h
theorem fr_X10_makes_68 (y0 : Int32) (σ : St) {r : Int32 × St} (h : f_X10_makes_68 y0 σ = some r) : frm [] [] σ r.2 := by
  unfold f_X10_makes_68 at h
  obtain ⟨-, h⟩ := gd_some h
  cases h
  exact (frm.rf _)
theorem fr_X10_makes_34 (k4 : Int32 → Int32 → Int32 → St → Option (Int32 × St)) (k13 : Int32 → Int32 → Int32 → Int32 → St → Option (Int32 × St)) (hk4 : ∀ (x1 : Int32) (x2 : Int32) (x3 : Int32) (σ : St) {r : Int32 × St}, k4 x1 x2 x3 σ = some r → frm [] [] σ r.2) (hk13 : ∀ (x1 : Int32) (x2 : Int32) (x3 : Int32) (x4 : Int32) (σ : St) {r : Int32 × St}, k13 x1 x2 x3 x4 σ = some r → frm [] [] σ r.2) (x1 : Int32) (x2 : Int32) (x3 : Int32) (x4 : Int32) (σ : St) {r : Int32 × St} (h : f_X10_makes_34 k4 k13 x1 x2 x3 x4 σ = some r) : frm [] [] σ r.2 := by
  unfold f_X10_makes_34 at h
  exact hk13 _ _ _ _ _ h
theorem fr_X10_makes_13 (k4 : Int32 → Int32 → Int32 → St → Option (Int32 × St)) (hk4 : ∀ (x1 : Int32) (x2 : Int32) (x3 : Int32) (σ : St) {r : Int32 × St}, k4 x1 x2 x3 σ = some r → frm [] [] σ r.2) : ∀ (n : Nat) (x1 : Int32) (x2 : Int32) (x3 : Int32) (x4 : Int32) (σ : St) {r : Int32 × St}, f_X10_makes_13 k4 n x1 x2 x3 x4 σ = some r → frm [] [] σ r.2 := by
  intro n
  induction n with
  | zero =>
    intro x1 x2 x3 x4 σ r h
    cases h
  | succ n ih =>
    intro x1 x2 x3 x4 σ r h
    simp only [f_X10_makes_13] at h
    obtain ⟨-, h⟩ := gd_some h
    rcases ite_sp h with ⟨-, h⟩ | ⟨-, h⟩
    · exact hk4 _ _ _ _ h
    · exact fr_X10_makes_34 _ _ hk4 ih _ _ _ _ _ h
theorem fr_X10_makes_4 : ∀ (n : Nat) (x1 : Int32) (x2 : Int32) (x3 : Int32) (σ : St) {r : Int32 × St}, f_X10_makes_4 n x1 x2 x3 σ = some r → frm [] [] σ r.2 := by
  intro n
  induction n with
  | zero =>
    intro x1 x2 x3 σ r h
    cases h
  | succ n ih =>
    intro x1 x2 x3 σ r h
    simp only [f_X10_makes_4] at h
    rcases ite_sp h with ⟨-, h⟩ | ⟨-, h⟩
    · rcases ite_sp h with ⟨-, h⟩ | ⟨-, h⟩
      · exact fr_X10_makes_68 _ _ h
      · exact fr_X10_makes_68 _ _ h
    · exact fr_X10_makes_13 _ ih FU _ _ _ _ _ h
theorem fr_X10_makes {x1 : Int32} {σ : St} {r : Int32 × St} (h : f_X10_makes x1 σ = some r) : frm [] [] σ r.2 := by
  unfold f_X10_makes at h
  exact fr_X10_makes_4 FU _ _ _ _ h
theorem fr_X10_tailFrom_19 (k4 : Int32 → Int32 → St → Option (Int32 × St)) (hk4 : ∀ (x2 : Int32) (x3 : Int32) (σ : St) {r : Int32 × St}, k4 x2 x3 σ = some r → frm [] [] σ r.2) (x2 : Int32) (x3 : Int32) (σ : St) {r : Int32 × St} (h : f_X10_tailFrom_19 k4 x2 x3 σ = some r) : frm [] [] σ r.2 := by
  unfold f_X10_tailFrom_19 at h
  exact hk4 _ _ _ h
theorem fr_X10_tailFrom_4 : ∀ (n : Nat) (x2 : Int32) (x3 : Int32) (σ : St) {r : Int32 × St}, f_X10_tailFrom_4 n x2 x3 σ = some r → frm [] [] σ r.2 := by
  intro n
  induction n with
  | zero =>
    intro x2 x3 σ r h
    cases h
  | succ n ih =>
    intro x2 x3 σ r h
    simp only [f_X10_tailFrom_4] at h
    rcases ite_sp h with ⟨-, h⟩ | ⟨-, h⟩
    · cases h
      exact (frm.rf _)
    · obtain ⟨-, h⟩ := gd_some h
      exact fr_X10_tailFrom_19 _ ih _ _ _ h
theorem fr_X10_tailFrom {x1 : Int32} {σ : St} {r : Int32 × St} (h : f_X10_tailFrom x1 σ = some r) : frm [] [] σ r.2 := by
  unfold f_X10_tailFrom at h
  exact fr_X10_tailFrom_4 FU _ _ _ h
theorem fr_X10_nextRow_106 : ∀ (n : Nat) (x5 : Int32) (x6 : Int32) (σ : St) {r : Int32 × St}, f_X10_nextRow_106 n x5 x6 σ = some r → frm [56] [] σ r.2 := by
  intro n
  induction n with
  | zero =>
    intro x5 x6 σ r h
    cases h
  | succ n ih =>
    intro x5 x6 σ r h
    simp only [f_X10_nextRow_106] at h
    rcases ite_sp h with ⟨-, h⟩ | ⟨-, h⟩
    · cases h
      exact (frm_sI (frm.rf _) (by simp))
    · obtain ⟨-, h⟩ := gd_some h
      exact frm.tr (frm_sI (frm.rf _) (by simp)) (ih _ _ _ h)
theorem fr_X10_nextRow_100 (x4 : Int32) (x5 : Int32) (σ : St) {r : Int32 × St} (h : f_X10_nextRow_100 x4 x5 σ = some r) : frm [56] [] σ r.2 := by
  unfold f_X10_nextRow_100 at h
  exact fr_X10_nextRow_106 FU _ _ _ h
theorem fr_X10_nextRow_71 (k52 : Int32 → Int32 → Int32 → St → Option (Int32 × St)) (hk52 : ∀ (x4 : Int32) (x5 : Int32) (x6 : Int32) (σ : St) {r : Int32 × St}, k52 x4 x5 x6 σ = some r → frm [56] [] σ r.2) (x4 : Int32) (x5 : Int32) (x6 : Int32) (σ : St) {r : Int32 × St} (h : f_X10_nextRow_71 k52 x4 x5 x6 σ = some r) : frm [56] [] σ r.2 := by
  unfold f_X10_nextRow_71 at h
  exact hk52 _ _ _ _ h
theorem fr_X10_nextRow_52 : ∀ (n : Nat) (x4 : Int32) (x5 : Int32) (x6 : Int32) (σ : St) {r : Int32 × St}, f_X10_nextRow_52 n x4 x5 x6 σ = some r → frm [56] [] σ r.2 := by
  intro n
  induction n with
  | zero =>
    intro x4 x5 x6 σ r h
    cases h
  | succ n ih =>
    intro x4 x5 x6 σ r h
    simp only [f_X10_nextRow_52] at h
    rcases ite_sp h with ⟨-, h⟩ | ⟨-, h⟩
    · obtain ⟨-, h⟩ := gd_some h
      obtain ⟨-, h⟩ := gd_some h
      obtain ⟨-, h⟩ := gd_some h
      exact frm.tr (frm_sI (frm.rf _) (by simp)) (fr_X10_nextRow_100 _ _ _ h)
    · obtain ⟨-, h⟩ := gd_some h
      exact fr_X10_nextRow_71 _ ih _ _ _ _ h
theorem fr_X10_nextRow_35 (x1 : Int32) (x2 : Int32) (x3 : Int32) (σ : St) {r : Int32 × St} (h : f_X10_nextRow_35 x1 x2 x3 σ = some r) : frm [56] [] σ r.2 := by
  unfold f_X10_nextRow_35 at h
  rcases ite_sp h with ⟨-, h⟩ | ⟨-, h⟩
  · cases h
    exact (frm.rf _)
  · exact fr_X10_nextRow_52 FU _ _ _ _ h
theorem fr_X10_nextRow_31 (k5 : Int32 → Int32 → Int32 → St → Option (Int32 × St)) (hk5 : ∀ (x1 : Int32) (x2 : Int32) (x3 : Int32) (σ : St) {r : Int32 × St}, k5 x1 x2 x3 σ = some r → frm [56] [] σ r.2) (x1 : Int32) (x3 : Int32) (y0 : Int32) (σ : St) {r : Int32 × St} (h : f_X10_nextRow_31 k5 x1 x3 y0 σ = some r) : frm [56] [] σ r.2 := by
  unfold f_X10_nextRow_31 at h
  exact hk5 _ _ _ _ h
theorem fr_X10_nextRow_5 : ∀ (n : Nat) (x1 : Int32) (x2 : Int32) (x3 : Int32) (σ : St) {r : Int32 × St}, f_X10_nextRow_5 n x1 x2 x3 σ = some r → frm [56] [] σ r.2 := by
  intro n
  induction n with
  | zero =>
    intro x1 x2 x3 σ r h
    cases h
  | succ n ih =>
    intro x1 x2 x3 σ r h
    simp only [f_X10_nextRow_5] at h
    rcases ite_sp h with ⟨-, h⟩ | ⟨-, h⟩
    · exact fr_X10_nextRow_35 _ _ _ _ h
    · rcases ite_sp h with ⟨-, h⟩ | ⟨-, h⟩
      · obtain ⟨p1, hp1, h⟩ := bind_sp h
        refine frm.tr (frm.rf _) (frm.tr (frm.mo (fr_X10_tailFrom hp1) (by decide) (by decide)) ?_)
        rcases ite_sp h with ⟨-, h⟩ | ⟨-, h⟩
        · exact fr_X10_nextRow_31 _ ih _ _ _ _ h
        · exact fr_X10_nextRow_31 _ ih _ _ _ _ h
      · exact fr_X10_nextRow_35 _ _ _ _ h
theorem fr_X10_nextRow {x1 : Int32} {σ : St} {r : Int32 × St} (h : f_X10_nextRow x1 σ = some r) : frm [56] [] σ r.2 := by
  unfold f_X10_nextRow at h
  exact fr_X10_nextRow_5 FU _ _ _ _ h
theorem fr_X10_isOf_29 (k2 : Int32 → Int32 → St → Option (Int32 × St)) (hk2 : ∀ (x1 : Int32) (x2 : Int32) (σ : St) {r : Int32 × St}, k2 x1 x2 σ = some r → frm [] [] σ r.2) (x1 : Int32) (x2 : Int32) (σ : St) {r : Int32 × St} (h : f_X10_isOf_29 k2 x1 x2 σ = some r) : frm [] [] σ r.2 := by
  unfold f_X10_isOf_29 at h
  exact hk2 _ _ _ h
theorem fr_X10_isOf_2 : ∀ (n : Nat) (x1 : Int32) (x2 : Int32) (σ : St) {r : Int32 × St}, f_X10_isOf_2 n x1 x2 σ = some r → frm [] [] σ r.2 := by
  intro n
  induction n with
  | zero =>
    intro x1 x2 σ r h
    cases h
  | succ n ih =>
    intro x1 x2 σ r h
    simp only [f_X10_isOf_2] at h
    rcases ite_sp h with ⟨-, h⟩ | ⟨-, h⟩
    · cases h
      exact (frm.rf _)
    · obtain ⟨-, h⟩ := gd_some h
      rcases ite_sp h with ⟨-, h⟩ | ⟨-, h⟩
      · exact fr_X10_isOf_29 _ ih _ _ _ h
      · obtain ⟨p1, hp1, h⟩ := bind_sp h
        refine frm.tr (frm.rf _) (frm.tr (frm.mo (fr_X10_has hp1) (by decide) (by decide)) ?_)
        rcases ite_sp h with ⟨-, h⟩ | ⟨-, h⟩
        · cases h
          exact (frm.rf _)
        · exact fr_X10_isOf_29 _ ih _ _ _ h
theorem fr_X10_isOf {x1 : Int32} {σ : St} {r : Int32 × St} (h : f_X10_isOf x1 σ = some r) : frm [] [] σ r.2 := by
  unfold f_X10_isOf at h
  exact fr_X10_isOf_2 FU _ _ _ h
theorem fr_X10_all_34 (σ : St) {r : Int32 × St} (h : f_X10_all_34 σ = some r) : frm [56] [] σ r.2 := by
  unfold f_X10_all_34 at h
  cases h
  exact (frm.rf _)
theorem fr_X10_all_166 (y0 : Int32) (σ : St) {r : Int32 × St} (h : f_X10_all_166 y0 σ = some r) : frm [56] [] σ r.2 := by
  unfold f_X10_all_166 at h
  cases h
  exact (frm.rf _)
theorem fr_X10_all_149 (k128 : Int32 → Int32 → Int32 → Int32 → St → Option (Int32 × St)) (hk128 : ∀ (x3 : Int32) (x4 : Int32) (x6 : Int32) (x7 : Int32) (σ : St) {r : Int32 × St}, k128 x3 x4 x6 x7 σ = some r → frm [56] [] σ r.2) (x3 : Int32) (x4 : Int32) (x6 : Int32) (x7 : Int32) (σ : St) {r : Int32 × St} (h : f_X10_all_149 k128 x3 x4 x6 x7 σ = some r) : frm [56] [] σ r.2 := by
  unfold f_X10_all_149 at h
  exact hk128 _ _ _ _ _ h
theorem fr_X10_all_128 : ∀ (n : Nat) (x3 : Int32) (x4 : Int32) (x6 : Int32) (x7 : Int32) (σ : St) {r : Int32 × St}, f_X10_all_128 n x3 x4 x6 x7 σ = some r → frm [56] [] σ r.2 := by
  intro n
  induction n with
  | zero =>
    intro x3 x4 x6 x7 σ r h
    cases h
  | succ n ih =>
    intro x3 x4 x6 x7 σ r h
    simp only [f_X10_all_128] at h
    rcases ite_sp h with ⟨-, h⟩ | ⟨-, h⟩
    · rcases ite_sp h with ⟨-, h⟩ | ⟨-, h⟩
      · exact fr_X10_all_166 _ _ h
      · exact fr_X10_all_166 _ _ h
    · obtain ⟨-, h⟩ := gd_some h
      exact fr_X10_all_149 _ ih _ _ _ _ _ h
theorem fr_X10_all_116 (k39 : Int32 → Int32 → Int32 → Int32 → St → Option (Int32 × St)) (hk39 : ∀ (x1 : Int32) (x2 : Int32) (x3 : Int32) (x4 : Int32) (σ : St) {r : Int32 × St}, k39 x1 x2 x3 x4 σ = some r → frm [56] [] σ r.2) (x1 : Int32) (x2 : Int32) (x3 : Int32) (x4 : Int32) (x5 : Int32) (σ : St) {r : Int32 × St} (h : f_X10_all_116 k39 x1 x2 x3 x4 x5 σ = some r) : frm [56] [] σ r.2 := by
  unfold f_X10_all_116 at h
  rcases ite_sp h with ⟨-, h⟩ | ⟨-, h⟩
  · exact hk39 _ _ _ _ _ h
  · exact fr_X10_all_128 FU _ _ _ _ _ h
theorem fr_X10_all_105 (k39 : Int32 → Int32 → Int32 → Int32 → St → Option (Int32 × St)) (k84 : Int32 → Int32 → Int32 → Int32 → Int32 → St → Option (Int32 × St)) (hk39 : ∀ (x1 : Int32) (x2 : Int32) (x3 : Int32) (x4 : Int32) (σ : St) {r : Int32 × St}, k39 x1 x2 x3 x4 σ = some r → frm [56] [] σ r.2) (hk84 : ∀ (x1 : Int32) (x2 : Int32) (x3 : Int32) (x4 : Int32) (x5 : Int32) (σ : St) {r : Int32 × St}, k84 x1 x2 x3 x4 x5 σ = some r → frm [56] [] σ r.2) (x1 : Int32) (x2 : Int32) (x3 : Int32) (x4 : Int32) (σ : St) {r : Int32 × St} (h : f_X10_all_105 k39 k84 x1 x2 x3 x4 σ = some r) : frm [56] [] σ r.2 := by
  unfold f_X10_all_105 at h
  obtain ⟨p5, hp5, h⟩ := bind_sp h
  refine frm.tr (frm.rf _) (frm.tr (frm.mo (fr_X10_nextRow hp5) (by decide) (by decide)) ?_)
  exact hk84 _ _ _ _ _ _ h
theorem fr_X10_all_84 (k39 : Int32 → Int32 → Int32 → Int32 → St → Option (Int32 × St)) (hk39 : ∀ (x1 : Int32) (x2 : Int32) (x3 : Int32) (x4 : Int32) (σ : St) {r : Int32 × St}, k39 x1 x2 x3 x4 σ = some r → frm [56] [] σ r.2) : ∀ (n : Nat) (x1 : Int32) (x2 : Int32) (x3 : Int32) (x4 : Int32) (x5 : Int32) (σ : St) {r : Int32 × St}, f_X10_all_84 k39 n x1 x2 x3 x4 x5 σ = some r → frm [56] [] σ r.2 := by
  intro n
  induction n with
  | zero =>
    intro x1 x2 x3 x4 x5 σ r h
    cases h
  | succ n ih =>
    intro x1 x2 x3 x4 x5 σ r h
    simp only [f_X10_all_84] at h
    rcases ite_sp h with ⟨-, h⟩ | ⟨-, h⟩
    · exact fr_X10_all_116 _ hk39 _ _ _ _ _ _ h
    · obtain ⟨p4, hp4, h⟩ := bind_sp h
      refine frm.tr (frm.rf _) (frm.tr (frm.mo (fr_X10_isOf hp4) (by decide) (by decide)) ?_)
      rcases ite_sp h with ⟨-, h⟩ | ⟨-, h⟩
      · exact fr_X10_all_105 _ _ hk39 ih _ _ _ _ _ h
      · obtain ⟨p6, hp6, h⟩ := bind_sp h
        refine frm.tr (frm.rf _) (frm.tr (frm.mo (fr_X10_makes hp6) (by decide) (by decide)) ?_)
        rcases ite_sp h with ⟨-, h⟩ | ⟨-, h⟩
        · exact fr_X10_all_105 _ _ hk39 ih _ _ _ _ _ h
        · exact fr_X10_all_116 _ hk39 _ _ _ _ _ _ h
theorem fr_X10_all_74 (k39 : Int32 → Int32 → Int32 → Int32 → St → Option (Int32 × St)) (k48 : Int32 → Int32 → Int32 → Int32 → Int32 → St → Option (Int32 × St)) (hk39 : ∀ (x1 : Int32) (x2 : Int32) (x3 : Int32) (x4 : Int32) (σ : St) {r : Int32 × St}, k39 x1 x2 x3 x4 σ = some r → frm [56] [] σ r.2) (hk48 : ∀ (x1 : Int32) (x2 : Int32) (x3 : Int32) (x4 : Int32) (x5 : Int32) (σ : St) {r : Int32 × St}, k48 x1 x2 x3 x4 x5 σ = some r → frm [56] [] σ r.2) (x1 : Int32) (x2 : Int32) (x3 : Int32) (x4 : Int32) (x5 : Int32) (y0 : Int32) (y1 : Int32) (σ : St) {r : Int32 × St} (h : f_X10_all_74 k39 k48 x1 x2 x3 x4 x5 y0 y1 σ = some r) : frm [56] [] σ r.2 := by
  unfold f_X10_all_74 at h
  obtain ⟨-, h⟩ := gd_some h
  exact frm.tr (frm_sI (frm.rf _) (by simp)) (hk48 _ _ _ _ _ _ h)
theorem fr_X10_all_48 (k39 : Int32 → Int32 → Int32 → Int32 → St → Option (Int32 × St)) (hk39 : ∀ (x1 : Int32) (x2 : Int32) (x3 : Int32) (x4 : Int32) (σ : St) {r : Int32 × St}, k39 x1 x2 x3 x4 σ = some r → frm [56] [] σ r.2) : ∀ (n : Nat) (x1 : Int32) (x2 : Int32) (x3 : Int32) (x4 : Int32) (x5 : Int32) (σ : St) {r : Int32 × St}, f_X10_all_48 k39 n x1 x2 x3 x4 x5 σ = some r → frm [56] [] σ r.2 := by
  intro n
  induction n with
  | zero =>
    intro x1 x2 x3 x4 x5 σ r h
    cases h
  | succ n ih =>
    intro x1 x2 x3 x4 x5 σ r h
    simp only [f_X10_all_48] at h
    rcases ite_sp h with ⟨-, h⟩ | ⟨-, h⟩
    · exact fr_X10_all_84 _ hk39 FU _ _ _ _ _ _ h
    · rcases ite_sp h with ⟨-, h⟩ | ⟨-, h⟩
      · exact fr_X10_all_74 _ _ hk39 ih _ _ _ _ _ _ _ _ h
      · exact fr_X10_all_74 _ _ hk39 ih _ _ _ _ _ _ _ _ h
theorem fr_X10_all_39 : ∀ (n : Nat) (x1 : Int32) (x2 : Int32) (x3 : Int32) (x4 : Int32) (σ : St) {r : Int32 × St}, f_X10_all_39 n x1 x2 x3 x4 σ = some r → frm [56] [] σ r.2 := by
  intro n
  induction n with
  | zero =>
    intro x1 x2 x3 x4 σ r h
    cases h
  | succ n ih =>
    intro x1 x2 x3 x4 σ r h
    simp only [f_X10_all_39] at h
    rcases ite_sp h with ⟨-, h⟩ | ⟨-, h⟩
    · cases h
      exact (frm.rf _)
    · exact fr_X10_all_48 _ ih FU _ _ _ _ _ _ h
theorem fr_X10_all {x1 : Int32} {x2 : Int32} {x3 : Int32} {σ : St} {r : Int32 × St} (h : f_X10_all x1 x2 x3 σ = some r) : frm [56] [] σ r.2 := by
  unfold f_X10_all at h
  obtain ⟨p1, hp1, h⟩ := bind_sp h
  refine frm.tr (frm.rf _) (frm.tr (frm.mo (fr_X10_in hp1) (by decide) (by decide)) ?_)
  rcases ite_sp h with ⟨-, h⟩ | ⟨-, h⟩
  · exact fr_X10_all_34 _ h
  · obtain ⟨p2, hp2, h⟩ := bind_sp h
    refine frm.tr (frm.rf _) (frm.tr (frm.mo (fr_X10_in hp2) (by decide) (by decide)) ?_)
    rcases ite_sp h with ⟨-, h⟩ | ⟨-, h⟩
    · exact fr_X10_all_34 _ h
    · obtain ⟨p3, hp3, h⟩ := bind_sp h
      refine frm.tr (frm.rf _) (frm.tr (frm.mo (fr_X10_in hp3) (by decide) (by decide)) ?_)
      rcases ite_sp h with ⟨-, h⟩ | ⟨-, h⟩
      · exact fr_X10_all_34 _ h
      · exact fr_X10_all_39 FU _ _ _ _ _ h
theorem fr_X10_begin_58 : ∀ (n : Nat) (x2 : Int32) (σ : St) {r : St}, f_X10_begin_58 n x2 σ = some r → frm [46, 47, 57] [(38, 21), (38, 22)] σ r := by
  intro n
  induction n with
  | zero =>
    intro x2 σ r h
    cases h
  | succ n ih =>
    intro x2 σ r h
    simp only [f_X10_begin_58] at h
    rcases ite_sp h with ⟨-, h⟩ | ⟨-, h⟩
    · cases h
      exact (frm.rf _)
    · obtain ⟨-, h⟩ := gd_some h
      obtain ⟨-, h⟩ := gd_some h
      exact frm.tr (frm_sI (frm.rf _) (by simp)) (ih _ _ h)
theorem fr_X10_begin_49 (k12 : Int32 → Int32 → St → Option (St)) (hk12 : ∀ (x1 : Int32) (x2 : Int32) (σ : St) {r : St}, k12 x1 x2 σ = some r → frm [46, 47, 57] [(38, 21), (38, 22)] σ r) (x1 : Int32) (x2 : Int32) (y0 : Int32) (y1 : Int32) (σ : St) {r : St} (h : f_X10_begin_49 k12 x1 x2 y0 y1 σ = some r) : frm [46, 47, 57] [(38, 21), (38, 22)] σ r := by
  unfold f_X10_begin_49 at h
  obtain ⟨-, h⟩ := gd_some h
  exact frm.tr (frm_sI (frm.rf _) (by simp)) (hk12 _ _ _ h)
theorem fr_X10_begin_12 : ∀ (n : Nat) (x1 : Int32) (x2 : Int32) (σ : St) {r : St}, f_X10_begin_12 n x1 x2 σ = some r → frm [46, 47, 57] [(38, 21), (38, 22)] σ r := by
  intro n
  induction n with
  | zero =>
    intro x1 x2 σ r h
    cases h
  | succ n ih =>
    intro x1 x2 σ r h
    simp only [f_X10_begin_12] at h
    rcases ite_sp h with ⟨-, h⟩ | ⟨-, h⟩
    · exact fr_X10_begin_58 FU _ _ h
    · obtain ⟨-, h⟩ := gd_some h
      obtain ⟨-, h⟩ := gd_some h
      rcases ite_sp h with ⟨-, h⟩ | ⟨-, h⟩
      · obtain ⟨-, h⟩ := gd_some h
        exact frm.tr (frm_sI (frm.rf _) (by simp)) (fr_X10_begin_49 _ ih _ _ _ _ _ h)
      · exact frm.tr (frm_sI (frm.rf _) (by simp)) (fr_X10_begin_49 _ ih _ _ _ _ _ h)
theorem fr_X10_begin {x1 : Int32} {σ : St} {r : St} (h : f_X10_begin x1 σ = some r) : frm [46, 47, 57] [(38, 21), (38, 22)] σ r := by
  unfold f_X10_begin at h
  obtain ⟨-, h⟩ := gd_some h
  exact frm.tr (frm_sIf (frm_sIf (frm.rf _) (by simp)) (by simp)) (fr_X10_begin_12 FU _ _ _ h)
theorem fr_X10_over_2 : ∀ (n : Nat) (x1 : Int32) (σ : St) {r : St}, f_X10_over_2 n x1 σ = some r → frm [46] [(38, 21), (38, 22)] σ r := by
  intro n
  induction n with
  | zero =>
    intro x1 σ r h
    cases h
  | succ n ih =>
    intro x1 σ r h
    simp only [f_X10_over_2] at h
    rcases ite_sp h with ⟨-, h⟩ | ⟨-, h⟩
    · cases h
      exact (frm_sIf (frm_sIf (frm.rf _) (by simp)) (by simp))
    · obtain ⟨-, h⟩ := gd_some h
      obtain ⟨-, h⟩ := gd_some h
      exact frm.tr (frm_sI (frm.rf _) (by simp)) (ih _ _ h)
theorem fr_X10_over {σ : St} {r : St} (h : f_X10_over σ = some r) : frm [46] [(38, 21), (38, 22)] σ r := by
  unfold f_X10_over at h
  exact fr_X10_over_2 FU _ _ h
theorem fr_X10_tried_20 (σ : St) {r : Int64 × St} (h : f_X10_tried_20 σ = some r) : frm [46, 47, 48, 49, 50, 57] [(38, 18), (38, 21), (38, 22), (38, 27), (38, 28)] σ r.2 := by
  unfold f_X10_tried_20 at h
  cases h
  exact (frm.rf _)
theorem fr_X10_tried_102 (y0 : Int64) (σ : St) {r : Int64 × St} (h : f_X10_tried_102 y0 σ = some r) : frm [46, 47, 48, 49, 50, 57] [(38, 18), (38, 21), (38, 22), (38, 27), (38, 28)] σ r.2 := by
  unfold f_X10_tried_102 at h
  obtain ⟨p5, hp5, h⟩ := bind_sp h
  refine frm.tr (frm.rf _) (frm.tr (frm.mo (fr_X10_over hp5) (by decide) (by decide)) ?_)
  cases h
  exact (frm.rf _)
theorem fr_X10_tried_76 (x2 : Int32) (y0 : Int32) (σ : St) {r : Int64 × St} (h : f_X10_tried_76 x2 y0 σ = some r) : frm [46, 47, 48, 49, 50, 57] [(38, 18), (38, 21), (38, 22), (38, 27), (38, 28)] σ r.2 := by
  unfold f_X10_tried_76 at h
  rcases ite_sp h with ⟨-, h⟩ | ⟨-, h⟩
  · obtain ⟨p6, hp6, h⟩ := bind_sp h
    refine frm.tr (frm.rf _) (frm.tr (frm.mo (fr_X10_number hp6) (by decide) (by decide)) ?_)
    exact fr_X10_tried_102 _ _ h
  · obtain ⟨-, h⟩ := gd_some h
    obtain ⟨-, h⟩ := gd_some h
    exact fr_X10_tried_102 _ _ h
theorem fr_X10_tried {x1 : Int32} {x2 : Int32} {σ : St} {r : Int64 × St} (h : f_X10_tried x1 x2 σ = some r) : frm [46, 47, 48, 49, 50, 57] [(38, 18), (38, 21), (38, 22), (38, 27), (38, 28)] σ r.2 := by
  unfold f_X10_tried at h
  obtain ⟨p1, hp1, h⟩ := bind_sp h
  refine frm.tr (frm.rf _) (frm.tr (frm.mo (fr_X10_isSum hp1) (by decide) (by decide)) ?_)
  rcases ite_sp h with ⟨-, h⟩ | ⟨-, h⟩
  · exact fr_X10_tried_20 _ h
  · obtain ⟨p2, hp2, h⟩ := bind_sp h
    refine frm.tr (frm.rf _) (frm.tr (frm.mo (fr_X10_in hp2) (by decide) (by decide)) ?_)
    rcases ite_sp h with ⟨-, h⟩ | ⟨-, h⟩
    · exact fr_X10_tried_20 _ h
    · obtain ⟨p3, hp3, h⟩ := bind_sp h
      refine frm.tr (frm.rf _) (frm.tr (frm.mo (fr_X10_begin hp3) (by decide) (by decide)) ?_)
      obtain ⟨p4, hp4, h⟩ := bind_sp h
      refine frm.tr (frm.rf _) (frm.tr (frm.mo (fr_X10_runOf hp4) (by decide) (by decide)) ?_)
      rcases ite_sp h with ⟨-, h⟩ | ⟨-, h⟩
      · exact fr_X10_tried_76 _ _ _ h
      · rcases ite_sp h with ⟨-, h⟩ | ⟨-, h⟩
        · exact fr_X10_tried_76 _ _ _ h
        · rcases ite_sp h with ⟨-, h⟩ | ⟨-, h⟩
          · exact fr_X10_tried_76 _ _ _ h
          · rcases ite_sp h with ⟨-, h⟩ | ⟨-, h⟩
            · exact fr_X10_tried_76 _ _ _ h
            · exact fr_X10_tried_76 _ _ _ h
theorem fr_X10_needs_16 (σ : St) {r : Int32 × St} (h : f_X10_needs_16 σ = some r) : frm [46, 47, 48, 49, 50, 57] [(38, 18), (38, 21), (38, 22), (38, 27), (38, 28)] σ r.2 := by
  unfold f_X10_needs_16 at h
  cases h
  exact (frm.rf _)
theorem fr_X10_needs {x1 : Int32} {x2 : Int32} {σ : St} {r : Int32 × St} (h : f_X10_needs x1 x2 σ = some r) : frm [46, 47, 48, 49, 50, 57] [(38, 18), (38, 21), (38, 22), (38, 27), (38, 28)] σ r.2 := by
  unfold f_X10_needs at h
  obtain ⟨p1, hp1, h⟩ := bind_sp h
  refine frm.tr (frm.rf _) (frm.tr (frm.mo (fr_X10_isSum hp1) (by decide) (by decide)) ?_)
  rcases ite_sp h with ⟨-, h⟩ | ⟨-, h⟩
  · exact fr_X10_needs_16 _ h
  · obtain ⟨p2, hp2, h⟩ := bind_sp h
    refine frm.tr (frm.rf _) (frm.tr (frm.mo (fr_X10_isRope hp2) (by decide) (by decide)) ?_)
    rcases ite_sp h with ⟨-, h⟩ | ⟨-, h⟩
    · exact fr_X10_needs_16 _ h
    · obtain ⟨p3, hp3, h⟩ := bind_sp h
      refine frm.tr (frm.rf _) (frm.tr (frm.mo (fr_X10_begin hp3) (by decide) (by decide)) ?_)
      obtain ⟨p4, hp4, h⟩ := bind_sp h
      refine frm.tr (frm.rf _) (frm.tr (frm.mo (fr_X10_runOf hp4) (by decide) (by decide)) ?_)
      obtain ⟨p5, hp5, h⟩ := bind_sp h
      refine frm.tr (frm.rf _) (frm.tr (frm.mo (fr_X10_over hp5) (by decide) (by decide)) ?_)
      obtain ⟨-, h⟩ := gd_some h
      cases h
      exact (frm.rf _)
theorem fr_X10_herd_45 (k28 : Int32 → Int32 → St → Option (Int32 × St)) (hk28 : ∀ (x2 : Int32) (x3 : Int32) (σ : St) {r : Int32 × St}, k28 x2 x3 σ = some r → frm [46, 47, 48, 49, 50, 57] [(38, 18), (38, 21), (38, 22), (38, 27), (38, 28)] σ r.2) (x2 : Int32) (x3 : Int32) (σ : St) {r : Int32 × St} (h : f_X10_herd_45 k28 x2 x3 σ = some r) : frm [46, 47, 48, 49, 50, 57] [(38, 18), (38, 21), (38, 22), (38, 27), (38, 28)] σ r.2 := by
  unfold f_X10_herd_45 at h
  exact hk28 _ _ _ h
theorem fr_X10_herd_28 : ∀ (n : Nat) (x2 : Int32) (x3 : Int32) (σ : St) {r : Int32 × St}, f_X10_herd_28 n x2 x3 σ = some r → frm [46, 47, 48, 49, 50, 57] [(38, 18), (38, 21), (38, 22), (38, 27), (38, 28)] σ r.2 := by
  intro n
  induction n with
  | zero =>
    intro x2 x3 σ r h
    cases h
  | succ n ih =>
    intro x2 x3 σ r h
    simp only [f_X10_herd_28] at h
    rcases ite_sp h with ⟨-, h⟩ | ⟨-, h⟩
    · cases h
      exact (frm.rf _)
    · obtain ⟨-, h⟩ := gd_some h
      exact fr_X10_herd_45 _ ih _ _ _ h
theorem fr_X10_herd {x1 : Int32} {σ : St} {r : Int32 × St} (h : f_X10_herd x1 σ = some r) : frm [46, 47, 48, 49, 50, 57] [(38, 18), (38, 21), (38, 22), (38, 27), (38, 28)] σ r.2 := by
  unfold f_X10_herd at h
  obtain ⟨p1, hp1, h⟩ := bind_sp h
  refine frm.tr (frm.rf _) (frm.tr (frm.mo (fr_X10_isSum hp1) (by decide) (by decide)) ?_)
  rcases ite_sp h with ⟨-, h⟩ | ⟨-, h⟩
  · cases h
    exact (frm.rf _)
  · obtain ⟨p2, hp2, h⟩ := bind_sp h
    refine frm.tr (frm.rf _) (frm.tr (frm.mo (fr_X10_begin hp2) (by decide) (by decide)) ?_)
    obtain ⟨p3, hp3, h⟩ := bind_sp h
    refine frm.tr (frm.rf _) (frm.tr (frm.mo (fr_X10_runOf hp3) (by decide) (by decide)) ?_)
    obtain ⟨p4, hp4, h⟩ := bind_sp h
    refine frm.tr (frm.rf _) (frm.tr (frm.mo (fr_X10_over hp4) (by decide) (by decide)) ?_)
    exact fr_X10_herd_28 FU _ _ _ h
theorem fr_X10_cheaper_102 (k27 : Int32 → Int32 → Int32 → Int32 → Int32 → St → Option (Int32 × St)) (hk27 : ∀ (x1 : Int32) (x2 : Int32) (x3 : Int32) (x4 : Int32) (x5 : Int32) (σ : St) {r : Int32 × St}, k27 x1 x2 x3 x4 x5 σ = some r → frm [46, 47, 49, 50, 57] [(38, 11), (38, 18), (38, 21), (38, 22), (38, 27), (38, 28)] σ r.2) (x1 : Int32) (x2 : Int32) (x3 : Int32) (x5 : Int32) (y0 : Int32) (σ : St) {r : Int32 × St} (h : f_X10_cheaper_102 k27 x1 x2 x3 x5 y0 σ = some r) : frm [46, 47, 49, 50, 57] [(38, 11), (38, 18), (38, 21), (38, 22), (38, 27), (38, 28)] σ r.2 := by
  unfold f_X10_cheaper_102 at h
  exact hk27 _ _ _ _ _ _ h
theorem fr_X10_cheaper_89 (k27 : Int32 → Int32 → Int32 → Int32 → Int32 → St → Option (Int32 × St)) (hk27 : ∀ (x1 : Int32) (x2 : Int32) (x3 : Int32) (x4 : Int32) (x5 : Int32) (σ : St) {r : Int32 × St}, k27 x1 x2 x3 x4 x5 σ = some r → frm [46, 47, 49, 50, 57] [(38, 11), (38, 18), (38, 21), (38, 22), (38, 27), (38, 28)] σ r.2) (x1 : Int32) (x2 : Int32) (x4 : Int32) (x5 : Int32) (x6 : Int32) (y0 : Int32) (σ : St) {r : Int32 × St} (h : f_X10_cheaper_89 k27 x1 x2 x4 x5 x6 y0 σ = some r) : frm [46, 47, 49, 50, 57] [(38, 11), (38, 18), (38, 21), (38, 22), (38, 27), (38, 28)] σ r.2 := by
  unfold f_X10_cheaper_89 at h
  rcases ite_sp h with ⟨-, h⟩ | ⟨-, h⟩
  · exact fr_X10_cheaper_102 _ hk27 _ _ _ _ _ _ h
  · exact fr_X10_cheaper_102 _ hk27 _ _ _ _ _ _ h
theorem fr_X10_cheaper_88 (k27 : Int32 → Int32 → Int32 → Int32 → Int32 → St → Option (Int32 × St)) (hk27 : ∀ (x1 : Int32) (x2 : Int32) (x3 : Int32) (x4 : Int32) (x5 : Int32) (σ : St) {r : Int32 × St}, k27 x1 x2 x3 x4 x5 σ = some r → frm [46, 47, 49, 50, 57] [(38, 11), (38, 18), (38, 21), (38, 22), (38, 27), (38, 28)] σ r.2) (x1 : Int32) (x2 : Int32) (x3 : Int32) (x4 : Int32) (x5 : Int32) (x6 : Int32) (σ : St) {r : Int32 × St} (h : f_X10_cheaper_88 k27 x1 x2 x3 x4 x5 x6 σ = some r) : frm [46, 47, 49, 50, 57] [(38, 11), (38, 18), (38, 21), (38, 22), (38, 27), (38, 28)] σ r.2 := by
  unfold f_X10_cheaper_88 at h
  exact fr_X10_cheaper_89 _ hk27 _ _ _ _ _ _ _ h
theorem fr_X10_cheaper_67 (k27 : Int32 → Int32 → Int32 → Int32 → Int32 → St → Option (Int32 × St)) (hk27 : ∀ (x1 : Int32) (x2 : Int32) (x3 : Int32) (x4 : Int32) (x5 : Int32) (σ : St) {r : Int32 × St}, k27 x1 x2 x3 x4 x5 σ = some r → frm [46, 47, 49, 50, 57] [(38, 11), (38, 18), (38, 21), (38, 22), (38, 27), (38, 28)] σ r.2) (x1 : Int32) (x2 : Int32) (x3 : Int32) (x4 : Int32) (x5 : Int32) (x6 : Int32) (σ : St) {r : Int32 × St} (h : f_X10_cheaper_67 k27 x1 x2 x3 x4 x5 x6 σ = some r) : frm [46, 47, 49, 50, 57] [(38, 11), (38, 18), (38, 21), (38, 22), (38, 27), (38, 28)] σ r.2 := by
  unfold f_X10_cheaper_67 at h
  obtain ⟨p4, hp4, h⟩ := bind_sp h
  refine frm.tr (frm.rf _) (frm.tr (frm.mo (fr_X10_over hp4) (by decide) (by decide)) ?_)
  rcases ite_sp h with ⟨-, h⟩ | ⟨-, h⟩
  · rcases ite_sp h with ⟨-, h⟩ | ⟨-, h⟩
    · exact fr_X10_cheaper_88 _ hk27 _ _ _ _ _ _ _ h
    · exact fr_X10_cheaper_89 _ hk27 _ _ _ _ _ _ _ h
  · exact fr_X10_cheaper_88 _ hk27 _ _ _ _ _ _ _ h
theorem fr_X10_cheaper_27 : ∀ (n : Nat) (x1 : Int32) (x2 : Int32) (x3 : Int32) (x4 : Int32) (x5 : Int32) (σ : St) {r : Int32 × St}, f_X10_cheaper_27 n x1 x2 x3 x4 x5 σ = some r → frm [46, 47, 49, 50, 57] [(38, 11), (38, 18), (38, 21), (38, 22), (38, 27), (38, 28)] σ r.2 := by
  intro n
  induction n with
  | zero =>
    intro x1 x2 x3 x4 x5 σ r h
    cases h
  | succ n ih =>
    intro x1 x2 x3 x4 x5 σ r h
    simp only [f_X10_cheaper_27] at h
    rcases ite_sp h with ⟨-, h⟩ | ⟨-, h⟩
    · cases h
      exact (frm_sIf (frm.rf _) (by simp))
    · obtain ⟨p2, hp2, h⟩ := bind_sp h
      refine frm.tr (frm.rf _) (frm.tr (frm.mo (fr_X10_begin hp2) (by decide) (by decide)) ?_)
      obtain ⟨p3, hp3, h⟩ := bind_sp h
      refine frm.tr (frm_sIf (frm.rf _) (by simp)) (frm.tr (frm.mo (fr_X10_addOf hp3) (by decide) (by decide)) ?_)
      exact fr_X10_cheaper_67 _ ih _ _ _ _ _ _ _ h
theorem fr_X10_cheaper_19 (x1 : Int32) (x2 : Int32) (σ : St) {r : Int32 × St} (h : f_X10_cheaper_19 x1 x2 σ = some r) : frm [46, 47, 49, 50, 57] [(38, 11), (38, 18), (38, 21), (38, 22), (38, 27), (38, 28)] σ r.2 := by
  unfold f_X10_cheaper_19 at h
  exact fr_X10_cheaper_27 FU _ _ _ _ _ _ h
theorem fr_X10_cheaper {x1 : Int32} {σ : St} {r : Int32 × St} (h : f_X10_cheaper x1 σ = some r) : frm [46, 47, 49, 50, 57] [(38, 11), (38, 18), (38, 21), (38, 22), (38, 27), (38, 28)] σ r.2 := by
  unfold f_X10_cheaper at h
  obtain ⟨p1, hp1, h⟩ := bind_sp h
  refine frm.tr (frm.rf _) (frm.tr (frm.mo (fr_X10_in hp1) (by decide) (by decide)) ?_)
  rcases ite_sp h with ⟨-, h⟩ | ⟨-, h⟩
  · cases h
    exact (frm.rf _)
  · exact fr_X10_cheaper_19 _ _ _ h
theorem fr_X10_standingAt_291 (k17 : Int32 → Int32 → Int32 → Int32 → Int32 → Int32 → Int32 → St → Option (Int32 × St)) (k93 : Int32 → Int32 → Int32 → Int32 → Int32 → Int32 → Int32 → Int32 → Int32 → Int32 → Int32 → Int32 → Int32 → St → Option (Int32 × St)) (hk17 : ∀ (x1 : Int32) (x2 : Int32) (x3 : Int32) (x4 : Int32) (x5 : Int32) (x6 : Int32) (x7 : Int32) (σ : St) {r : Int32 × St}, k17 x1 x2 x3 x4 x5 x6 x7 σ = some r → frm [] [] σ r.2) (hk93 : ∀ (x1 : Int32) (x2 : Int32) (x3 : Int32) (x4 : Int32) (x5 : Int32) (x6 : Int32) (x7 : Int32) (x8 : Int32) (x9 : Int32) (x10 : Int32) (x11 : Int32) (x12 : Int32) (x13 : Int32) (σ : St) {r : Int32 × St}, k93 x1 x2 x3 x4 x5 x6 x7 x8 x9 x10 x11 x12 x13 σ = some r → frm [] [] σ r.2) (x1 : Int32) (x2 : Int32) (x3 : Int32) (x4 : Int32) (x5 : Int32) (x6 : Int32) (x7 : Int32) (x8 : Int32) (x9 : Int32) (x10 : Int32) (x11 : Int32) (x12 : Int32) (x13 : Int32) (σ : St) {r : Int32 × St} (h : f_X10_standingAt_291 k17 k93 x1 x2 x3 x4 x5 x6 x7 x8 x9 x10 x11 x12 x13 σ = some r) : frm [] [] σ r.2 := by
  unfold f_X10_standingAt_291 at h
  exact hk93 _ _ _ _ _ _ _ _ _ _ _ _ _ _ h
theorem fr_X10_standingAt_285 (k17 : Int32 → Int32 → Int32 → Int32 → Int32 → Int32 → Int32 → St → Option (Int32 × St)) (k93 : Int32 → Int32 → Int32 → Int32 → Int32 → Int32 → Int32 → Int32 → Int32 → Int32 → Int32 → Int32 → Int32 → St → Option (Int32 × St)) (hk17 : ∀ (x1 : Int32) (x2 : Int32) (x3 : Int32) (x4 : Int32) (x5 : Int32) (x6 : Int32) (x7 : Int32) (σ : St) {r : Int32 × St}, k17 x1 x2 x3 x4 x5 x6 x7 σ = some r → frm [] [] σ r.2) (hk93 : ∀ (x1 : Int32) (x2 : Int32) (x3 : Int32) (x4 : Int32) (x5 : Int32) (x6 : Int32) (x7 : Int32) (x8 : Int32) (x9 : Int32) (x10 : Int32) (x11 : Int32) (x12 : Int32) (x13 : Int32) (σ : St) {r : Int32 × St}, k93 x1 x2 x3 x4 x5 x6 x7 x8 x9 x10 x11 x12 x13 σ = some r → frm [] [] σ r.2) (x1 : Int32) (x2 : Int32) (x3 : Int32) (x4 : Int32) (x5 : Int32) (x6 : Int32) (x7 : Int32) (x8 : Int32) (x10 : Int32) (x12 : Int32) (x13 : Int32) (x17 : Int32) (y0 : Int32) (σ : St) {r : Int32 × St} (h : f_X10_standingAt_285 k17 k93 x1 x2 x3 x4 x5 x6 x7 x8 x10 x12 x13 x17 y0 σ = some r) : frm [] [] σ r.2 := by
  unfold f_X10_standingAt_285 at h
  exact fr_X10_standingAt_291 _ _ hk17 hk93 _ _ _ _ _ _ _ _ _ _ _ _ _ _ h
theorem fr_X10_standingAt_266 (k17 : Int32 → Int32 → Int32 → Int32 → Int32 → Int32 → Int32 → St → Option (Int32 × St)) (k93 : Int32 → Int32 → Int32 → Int32 → Int32 → Int32 → Int32 → Int32 → Int32 → Int32 → Int32 → Int32 → Int32 → St → Option (Int32 × St)) (hk17 : ∀ (x1 : Int32) (x2 : Int32) (x3 : Int32) (x4 : Int32) (x5 : Int32) (x6 : Int32) (x7 : Int32) (σ : St) {r : Int32 × St}, k17 x1 x2 x3 x4 x5 x6 x7 σ = some r → frm [] [] σ r.2) (hk93 : ∀ (x1 : Int32) (x2 : Int32) (x3 : Int32) (x4 : Int32) (x5 : Int32) (x6 : Int32) (x7 : Int32) (x8 : Int32) (x9 : Int32) (x10 : Int32) (x11 : Int32) (x12 : Int32) (x13 : Int32) (σ : St) {r : Int32 × St}, k93 x1 x2 x3 x4 x5 x6 x7 x8 x9 x10 x11 x12 x13 σ = some r → frm [] [] σ r.2) (x1 : Int32) (x2 : Int32) (x3 : Int32) (x4 : Int32) (x5 : Int32) (x6 : Int32) (x7 : Int32) (x8 : Int32) (x10 : Int32) (x11 : Int32) (x12 : Int32) (x13 : Int32) (x16 : Int32) (x17 : Int32) (σ : St) {r : Int32 × St} (h : f_X10_standingAt_266 k17 k93 x1 x2 x3 x4 x5 x6 x7 x8 x10 x11 x12 x13 x16 x17 σ = some r) : frm [] [] σ r.2 := by
  unfold f_X10_standingAt_266 at h
  rcases ite_sp h with ⟨-, h⟩ | ⟨-, h⟩
  · exact fr_X10_standingAt_285 _ _ hk17 hk93 _ _ _ _ _ _ _ _ _ _ _ _ _ _ h
  · exact fr_X10_standingAt_285 _ _ hk17 hk93 _ _ _ _ _ _ _ _ _ _ _ _ _ _ h
theorem fr_X10_standingAt_248 (k17 : Int32 → Int32 → Int32 → Int32 → Int32 → Int32 → Int32 → St → Option (Int32 × St)) (k93 : Int32 → Int32 → Int32 → Int32 → Int32 → Int32 → Int32 → Int32 → Int32 → Int32 → Int32 → Int32 → Int32 → St → Option (Int32 × St)) (hk17 : ∀ (x1 : Int32) (x2 : Int32) (x3 : Int32) (x4 : Int32) (x5 : Int32) (x6 : Int32) (x7 : Int32) (σ : St) {r : Int32 × St}, k17 x1 x2 x3 x4 x5 x6 x7 σ = some r → frm [] [] σ r.2) (hk93 : ∀ (x1 : Int32) (x2 : Int32) (x3 : Int32) (x4 : Int32) (x5 : Int32) (x6 : Int32) (x7 : Int32) (x8 : Int32) (x9 : Int32) (x10 : Int32) (x11 : Int32) (x12 : Int32) (x13 : Int32) (σ : St) {r : Int32 × St}, k93 x1 x2 x3 x4 x5 x6 x7 x8 x9 x10 x11 x12 x13 σ = some r → frm [] [] σ r.2) (x1 : Int32) (x2 : Int32) (x3 : Int32) (x4 : Int32) (x5 : Int32) (x6 : Int32) (x7 : Int32) (x8 : Int32) (x9 : Int32) (x11 : Int32) (x12 : Int32) (x13 : Int32) (x16 : Int32) (x17 : Int32) (x18 : Int32) (σ : St) {r : Int32 × St} (h : f_X10_standingAt_248 k17 k93 x1 x2 x3 x4 x5 x6 x7 x8 x9 x11 x12 x13 x16 x17 x18 σ = some r) : frm [] [] σ r.2 := by
  unfold f_X10_standingAt_248 at h
  exact fr_X10_standingAt_266 _ _ hk17 hk93 _ _ _ _ _ _ _ _ _ _ _ _ _ _ _ h
theorem fr_X10_standingAt_245 (k17 : Int32 → Int32 → Int32 → Int32 → Int32 → Int32 → Int32 → St → Option (Int32 × St)) (k93 : Int32 → Int32 → Int32 → Int32 → Int32 → Int32 → Int32 → Int32 → Int32 → Int32 → Int32 → Int32 → Int32 → St → Option (Int32 × St)) (hk17 : ∀ (x1 : Int32) (x2 : Int32) (x3 : Int32) (x4 : Int32) (x5 : Int32) (x6 : Int32) (x7 : Int32) (σ : St) {r : Int32 × St}, k17 x1 x2 x3 x4 x5 x6 x7 σ = some r → frm [] [] σ r.2) (hk93 : ∀ (x1 : Int32) (x2 : Int32) (x3 : Int32) (x4 : Int32) (x5 : Int32) (x6 : Int32) (x7 : Int32) (x8 : Int32) (x9 : Int32) (x10 : Int32) (x11 : Int32) (x12 : Int32) (x13 : Int32) (σ : St) {r : Int32 × St}, k93 x1 x2 x3 x4 x5 x6 x7 x8 x9 x10 x11 x12 x13 σ = some r → frm [] [] σ r.2) (x1 : Int32) (x2 : Int32) (x3 : Int32) (x4 : Int32) (x5 : Int32) (x7 : Int32) (x8 : Int32) (x9 : Int32) (x11 : Int32) (x12 : Int32) (x13 : Int32) (x16 : Int32) (x17 : Int32) (x18 : Int32) (y0 : Int32) (y1 : Int32) (σ : St) {r : Int32 × St} (h : f_X10_standingAt_245 k17 k93 x1 x2 x3 x4 x5 x7 x8 x9 x11 x12 x13 x16 x17 x18 y0 y1 σ = some r) : frm [] [] σ r.2 := by
  unfold f_X10_standingAt_245 at h
  exact fr_X10_standingAt_248 _ _ hk17 hk93 _ _ _ _ _ _ _ _ _ _ _ _ _ _ _ _ h
theorem fr_X10_standingAt_228 (k17 : Int32 → Int32 → Int32 → Int32 → Int32 → Int32 → Int32 → St → Option (Int32 × St)) (k93 : Int32 → Int32 → Int32 → Int32 → Int32 → Int32 → Int32 → Int32 → Int32 → Int32 → Int32 → Int32 → Int32 → St → Option (Int32 × St)) (hk17 : ∀ (x1 : Int32) (x2 : Int32) (x3 : Int32) (x4 : Int32) (x5 : Int32) (x6 : Int32) (x7 : Int32) (σ : St) {r : Int32 × St}, k17 x1 x2 x3 x4 x5 x6 x7 σ = some r → frm [] [] σ r.2) (hk93 : ∀ (x1 : Int32) (x2 : Int32) (x3 : Int32) (x4 : Int32) (x5 : Int32) (x6 : Int32) (x7 : Int32) (x8 : Int32) (x9 : Int32) (x10 : Int32) (x11 : Int32) (x12 : Int32) (x13 : Int32) (σ : St) {r : Int32 × St}, k93 x1 x2 x3 x4 x5 x6 x7 x8 x9 x10 x11 x12 x13 σ = some r → frm [] [] σ r.2) (x1 : Int32) (x2 : Int32) (x3 : Int32) (x4 : Int32) (x5 : Int32) (x6 : Int32) (x7 : Int32) (x8 : Int32) (x9 : Int32) (x11 : Int32) (x12 : Int32) (x13 : Int32) (x16 : Int32) (x17 : Int32) (x18 : Int32) (x19 : Int32) (σ : St) {r : Int32 × St} (h : f_X10_standingAt_228 k17 k93 x1 x2 x3 x4 x5 x6 x7 x8 x9 x11 x12 x13 x16 x17 x18 x19 σ = some r) : frm [] [] σ r.2 := by
  unfold f_X10_standingAt_228 at h
  rcases ite_sp h with ⟨-, h⟩ | ⟨-, h⟩
  · exact fr_X10_standingAt_245 _ _ hk17 hk93 _ _ _ _ _ _ _ _ _ _ _ _ _ _ _ _ _ h
  · exact fr_X10_standingAt_245 _ _ hk17 hk93 _ _ _ _ _ _ _ _ _ _ _ _ _ _ _ _ _ h
theorem fr_X10_standingAt_200 (k17 : Int32 → Int32 → Int32 → Int32 → Int32 → Int32 → Int32 → St → Option (Int32 × St)) (k93 : Int32 → Int32 → Int32 → Int32 → Int32 → Int32 → Int32 → Int32 → Int32 → Int32 → Int32 → Int32 → Int32 → St → Option (Int32 × St)) (hk17 : ∀ (x1 : Int32) (x2 : Int32) (x3 : Int32) (x4 : Int32) (x5 : Int32) (x6 : Int32) (x7 : Int32) (σ : St) {r : Int32 × St}, k17 x1 x2 x3 x4 x5 x6 x7 σ = some r → frm [] [] σ r.2) (hk93 : ∀ (x1 : Int32) (x2 : Int32) (x3 : Int32) (x4 : Int32) (x5 : Int32) (x6 : Int32) (x7 : Int32) (x8 : Int32) (x9 : Int32) (x10 : Int32) (x11 : Int32) (x12 : Int32) (x13 : Int32) (σ : St) {r : Int32 × St}, k93 x1 x2 x3 x4 x5 x6 x7 x8 x9 x10 x11 x12 x13 σ = some r → frm [] [] σ r.2) (x1 : Int32) (x2 : Int32) (x3 : Int32) (x4 : Int32) (x5 : Int32) (x6 : Int32) (x7 : Int32) (x8 : Int32) (x9 : Int32) (x11 : Int32) (x12 : Int32) (x13 : Int32) (x16 : Int32) (x17 : Int32) (x18 : Int32) (σ : St) {r : Int32 × St} (h : f_X10_standingAt_200 k17 k93 x1 x2 x3 x4 x5 x6 x7 x8 x9 x11 x12 x13 x16 x17 x18 σ = some r) : frm [] [] σ r.2 := by
  unfold f_X10_standingAt_200 at h
  obtain ⟨-, h⟩ := gd_some h
  exact fr_X10_standingAt_228 _ _ hk17 hk93 _ _ _ _ _ _ _ _ _ _ _ _ _ _ _ _ _ h
theorem fr_X10_standingAt_191 (k17 : Int32 → Int32 → Int32 → Int32 → Int32 → Int32 → Int32 → St → Option (Int32 × St)) (k93 : Int32 → Int32 → Int32 → Int32 → Int32 → Int32 → Int32 → Int32 → Int32 → Int32 → Int32 → Int32 → Int32 → St → Option (Int32 × St)) (hk17 : ∀ (x1 : Int32) (x2 : Int32) (x3 : Int32) (x4 : Int32) (x5 : Int32) (x6 : Int32) (x7 : Int32) (σ : St) {r : Int32 × St}, k17 x1 x2 x3 x4 x5 x6 x7 σ = some r → frm [] [] σ r.2) (hk93 : ∀ (x1 : Int32) (x2 : Int32) (x3 : Int32) (x4 : Int32) (x5 : Int32) (x6 : Int32) (x7 : Int32) (x8 : Int32) (x9 : Int32) (x10 : Int32) (x11 : Int32) (x12 : Int32) (x13 : Int32) (σ : St) {r : Int32 × St}, k93 x1 x2 x3 x4 x5 x6 x7 x8 x9 x10 x11 x12 x13 σ = some r → frm [] [] σ r.2) (x1 : Int32) (x2 : Int32) (x3 : Int32) (x4 : Int32) (x5 : Int32) (x6 : Int32) (x7 : Int32) (x8 : Int32) (x9 : Int32) (x10 : Int32) (x11 : Int32) (x12 : Int32) (x13 : Int32) (x15 : Int32) (x16 : Int32) (x17 : Int32) (σ : St) {r : Int32 × St} (h : f_X10_standingAt_191 k17 k93 x1 x2 x3 x4 x5 x6 x7 x8 x9 x10 x11 x12 x13 x15 x16 x17 σ = some r) : frm [] [] σ r.2 := by
  unfold f_X10_standingAt_191 at h
  exact fr_X10_standingAt_200 _ _ hk17 hk93 _ _ _ _ _ _ _ _ _ _ _ _ _ _ _ _ h
theorem fr_X10_standingAt_179 (k17 : Int32 → Int32 → Int32 → Int32 → Int32 → Int32 → Int32 → St → Option (Int32 × St)) (k93 : Int32 → Int32 → Int32 → Int32 → Int32 → Int32 → Int32 → Int32 → Int32 → Int32 → Int32 → Int32 → Int32 → St → Option (Int32 × St)) (hk17 : ∀ (x1 : Int32) (x2 : Int32) (x3 : Int32) (x4 : Int32) (x5 : Int32) (x6 : Int32) (x7 : Int32) (σ : St) {r : Int32 × St}, k17 x1 x2 x3 x4 x5 x6 x7 σ = some r → frm [] [] σ r.2) (hk93 : ∀ (x1 : Int32) (x2 : Int32) (x3 : Int32) (x4 : Int32) (x5 : Int32) (x6 : Int32) (x7 : Int32) (x8 : Int32) (x9 : Int32) (x10 : Int32) (x11 : Int32) (x12 : Int32) (x13 : Int32) (σ : St) {r : Int32 × St}, k93 x1 x2 x3 x4 x5 x6 x7 x8 x9 x10 x11 x12 x13 σ = some r → frm [] [] σ r.2) (x1 : Int32) (x2 : Int32) (x3 : Int32) (x4 : Int32) (x5 : Int32) (x6 : Int32) (x7 : Int32) (x8 : Int32) (x9 : Int32) (x10 : Int32) (x11 : Int32) (x12 : Int32) (x13 : Int32) (x15 : Int32) (x16 : Int32) (y0 : Int32) (σ : St) {r : Int32 × St} (h : f_X10_standingAt_179 k17 k93 x1 x2 x3 x4 x5 x6 x7 x8 x9 x10 x11 x12 x13 x15 x16 y0 σ = some r) : frm [] [] σ r.2 := by
  unfold f_X10_standingAt_179 at h
  obtain ⟨-, h⟩ := gd_some h
  exact fr_X10_standingAt_191 _ _ hk17 hk93 _ _ _ _ _ _ _ _ _ _ _ _ _ _ _ _ _ h
theorem fr_X10_standingAt_162 (k17 : Int32 → Int32 → Int32 → Int32 → Int32 → Int32 → Int32 → St → Option (Int32 × St)) (k93 : Int32 → Int32 → Int32 → Int32 → Int32 → Int32 → Int32 → Int32 → Int32 → Int32 → Int32 → Int32 → Int32 → St → Option (Int32 × St)) (hk17 : ∀ (x1 : Int32) (x2 : Int32) (x3 : Int32) (x4 : Int32) (x5 : Int32) (x6 : Int32) (x7 : Int32) (σ : St) {r : Int32 × St}, k17 x1 x2 x3 x4 x5 x6 x7 σ = some r → frm [] [] σ r.2) (hk93 : ∀ (x1 : Int32) (x2 : Int32) (x3 : Int32) (x4 : Int32) (x5 : Int32) (x6 : Int32) (x7 : Int32) (x8 : Int32) (x9 : Int32) (x10 : Int32) (x11 : Int32) (x12 : Int32) (x13 : Int32) (σ : St) {r : Int32 × St}, k93 x1 x2 x3 x4 x5 x6 x7 x8 x9 x10 x11 x12 x13 σ = some r → frm [] [] σ r.2) (x1 : Int32) (x2 : Int32) (x3 : Int32) (x4 : Int32) (x5 : Int32) (x6 : Int32) (x7 : Int32) (x8 : Int32) (x9 : Int32) (x10 : Int32) (x11 : Int32) (x12 : Int32) (x13 : Int32) (x15 : Int32) (x16 : Int32) (σ : St) {r : Int32 × St} (h : f_X10_standingAt_162 k17 k93 x1 x2 x3 x4 x5 x6 x7 x8 x9 x10 x11 x12 x13 x15 x16 σ = some r) : frm [] [] σ r.2 := by
  unfold f_X10_standingAt_162 at h
  rcases ite_sp h with ⟨-, h⟩ | ⟨-, h⟩
  · exact fr_X10_standingAt_179 _ _ hk17 hk93 _ _ _ _ _ _ _ _ _ _ _ _ _ _ _ _ _ h
  · exact fr_X10_standingAt_179 _ _ hk17 hk93 _ _ _ _ _ _ _ _ _ _ _ _ _ _ _ _ _ h
theorem fr_X10_standingAt_159 (k17 : Int32 → Int32 → Int32 → Int32 → Int32 → Int32 → Int32 → St → Option (Int32 × St)) (k93 : Int32 → Int32 → Int32 → Int32 → Int32 → Int32 → Int32 → Int32 → Int32 → Int32 → Int32 → Int32 → Int32 → St → Option (Int32 × St)) (hk17 : ∀ (x1 : Int32) (x2 : Int32) (x3 : Int32) (x4 : Int32) (x5 : Int32) (x6 : Int32) (x7 : Int32) (σ : St) {r : Int32 × St}, k17 x1 x2 x3 x4 x5 x6 x7 σ = some r → frm [] [] σ r.2) (hk93 : ∀ (x1 : Int32) (x2 : Int32) (x3 : Int32) (x4 : Int32) (x5 : Int32) (x6 : Int32) (x7 : Int32) (x8 : Int32) (x9 : Int32) (x10 : Int32) (x11 : Int32) (x12 : Int32) (x13 : Int32) (σ : St) {r : Int32 × St}, k93 x1 x2 x3 x4 x5 x6 x7 x8 x9 x10 x11 x12 x13 σ = some r → frm [] [] σ r.2) (x1 : Int32) (x2 : Int32) (x3 : Int32) (x4 : Int32) (x5 : Int32) (x6 : Int32) (x7 : Int32) (x8 : Int32) (x9 : Int32) (x10 : Int32) (x11 : Int32) (x12 : Int32) (x13 : Int32) (x15 : Int32) (y0 : Int32) (y1 : Int32) (σ : St) {r : Int32 × St} (h : f_X10_standingAt_159 k17 k93 x1 x2 x3 x4 x5 x6 x7 x8 x9 x10 x11 x12 x13 x15 y0 y1 σ = some r) : frm [] [] σ r.2 := by
  unfold f_X10_standingAt_159 at h
  exact fr_X10_standingAt_162 _ _ hk17 hk93 _ _ _ _ _ _ _ _ _ _ _ _ _ _ _ _ h
theorem fr_X10_standingAt_133 (k17 : Int32 → Int32 → Int32 → Int32 → Int32 → Int32 → Int32 → St → Option (Int32 × St)) (k93 : Int32 → Int32 → Int32 → Int32 → Int32 → Int32 → Int32 → Int32 → Int32 → Int32 → Int32 → Int32 → Int32 → St → Option (Int32 × St)) (hk17 : ∀ (x1 : Int32) (x2 : Int32) (x3 : Int32) (x4 : Int32) (x5 : Int32) (x6 : Int32) (x7 : Int32) (σ : St) {r : Int32 × St}, k17 x1 x2 x3 x4 x5 x6 x7 σ = some r → frm [] [] σ r.2) (hk93 : ∀ (x1 : Int32) (x2 : Int32) (x3 : Int32) (x4 : Int32) (x5 : Int32) (x6 : Int32) (x7 : Int32) (x8 : Int32) (x9 : Int32) (x10 : Int32) (x11 : Int32) (x12 : Int32) (x13 : Int32) (σ : St) {r : Int32 × St}, k93 x1 x2 x3 x4 x5 x6 x7 x8 x9 x10 x11 x12 x13 σ = some r → frm [] [] σ r.2) (x1 : Int32) (x2 : Int32) (x3 : Int32) (x4 : Int32) (x5 : Int32) (x6 : Int32) (x7 : Int32) (x8 : Int32) (x9 : Int32) (x10 : Int32) (x11 : Int32) (x12 : Int32) (x13 : Int32) (x14 : Int32) (y0 : Int32) (σ : St) {r : Int32 × St} (h : f_X10_standingAt_133 k17 k93 x1 x2 x3 x4 x5 x6 x7 x8 x9 x10 x11 x12 x13 x14 y0 σ = some r) : frm [] [] σ r.2 := by
  unfold f_X10_standingAt_133 at h
  rcases ite_sp h with ⟨-, h⟩ | ⟨-, h⟩
  · exact fr_X10_standingAt_291 _ _ hk17 hk93 _ _ _ _ _ _ _ _ _ _ _ _ _ _ h
  · rcases ite_sp h with ⟨-, h⟩ | ⟨-, h⟩
    · exact fr_X10_standingAt_159 _ _ hk17 hk93 _ _ _ _ _ _ _ _ _ _ _ _ _ _ _ _ _ h
    · obtain ⟨p2, hp2, h⟩ := bind_sp h
      refine frm.tr (frm.rf _) (frm.tr (frm.mo (fr_X10_digitOf hp2) (by decide) (by decide)) ?_)
      exact fr_X10_standingAt_159 _ _ hk17 hk93 _ _ _ _ _ _ _ _ _ _ _ _ _ _ _ _ _ h
theorem fr_X10_standingAt_119 (k17 : Int32 → Int32 → Int32 → Int32 → Int32 → Int32 → Int32 → St → Option (Int32 × St)) (k93 : Int32 → Int32 → Int32 → Int32 → Int32 → Int32 → Int32 → Int32 → Int32 → Int32 → Int32 → Int32 → Int32 → St → Option (Int32 × St)) (hk17 : ∀ (x1 : Int32) (x2 : Int32) (x3 : Int32) (x4 : Int32) (x5 : Int32) (x6 : Int32) (x7 : Int32) (σ : St) {r : Int32 × St}, k17 x1 x2 x3 x4 x5 x6 x7 σ = some r → frm [] [] σ r.2) (hk93 : ∀ (x1 : Int32) (x2 : Int32) (x3 : Int32) (x4 : Int32) (x5 : Int32) (x6 : Int32) (x7 : Int32) (x8 : Int32) (x9 : Int32) (x10 : Int32) (x11 : Int32) (x12 : Int32) (x13 : Int32) (σ : St) {r : Int32 × St}, k93 x1 x2 x3 x4 x5 x6 x7 x8 x9 x10 x11 x12 x13 σ = some r → frm [] [] σ r.2) (x1 : Int32) (x2 : Int32) (x3 : Int32) (x4 : Int32) (x5 : Int32) (x6 : Int32) (x7 : Int32) (x8 : Int32) (x9 : Int32) (x10 : Int32) (x11 : Int32) (x12 : Int32) (x13 : Int32) (y0 : Int32) (σ : St) {r : Int32 × St} (h : f_X10_standingAt_119 k17 k93 x1 x2 x3 x4 x5 x6 x7 x8 x9 x10 x11 x12 x13 y0 σ = some r) : frm [] [] σ r.2 := by
  unfold f_X10_standingAt_119 at h
  rcases ite_sp h with ⟨-, h⟩ | ⟨-, h⟩
  · exact fr_X10_standingAt_133 _ _ hk17 hk93 _ _ _ _ _ _ _ _ _ _ _ _ _ _ _ _ h
  · exact fr_X10_standingAt_133 _ _ hk17 hk93 _ _ _ _ _ _ _ _ _ _ _ _ _ _ _ _ h
theorem fr_X10_standingAt_109 (k17 : Int32 → Int32 → Int32 → Int32 → Int32 → Int32 → Int32 → St → Option (Int32 × St)) (k93 : Int32 → Int32 → Int32 → Int32 → Int32 → Int32 → Int32 → Int32 → Int32 → Int32 → Int32 → Int32 → Int32 → St → Option (Int32 × St)) (hk17 : ∀ (x1 : Int32) (x2 : Int32) (x3 : Int32) (x4 : Int32) (x5 : Int32) (x6 : Int32) (x7 : Int32) (σ : St) {r : Int32 × St}, k17 x1 x2 x3 x4 x5 x6 x7 σ = some r → frm [] [] σ r.2) (hk93 : ∀ (x1 : Int32) (x2 : Int32) (x3 : Int32) (x4 : Int32) (x5 : Int32) (x6 : Int32) (x7 : Int32) (x8 : Int32) (x9 : Int32) (x10 : Int32) (x11 : Int32) (x12 : Int32) (x13 : Int32) (σ : St) {r : Int32 × St}, k93 x1 x2 x3 x4 x5 x6 x7 x8 x9 x10 x11 x12 x13 σ = some r → frm [] [] σ r.2) (x1 : Int32) (x2 : Int32) (x3 : Int32) (x4 : Int32) (x5 : Int32) (x6 : Int32) (x7 : Int32) (x8 : Int32) (x9 : Int32) (x10 : Int32) (x11 : Int32) (x12 : Int32) (x13 : Int32) (y0 : Int32) (σ : St) {r : Int32 × St} (h : f_X10_standingAt_109 k17 k93 x1 x2 x3 x4 x5 x6 x7 x8 x9 x10 x11 x12 x13 y0 σ = some r) : frm [] [] σ r.2 := by
  unfold f_X10_standingAt_109 at h
  rcases ite_sp h with ⟨-, h⟩ | ⟨-, h⟩
  · exact fr_X10_standingAt_119 _ _ hk17 hk93 _ _ _ _ _ _ _ _ _ _ _ _ _ _ _ h
  · exact fr_X10_standingAt_119 _ _ hk17 hk93 _ _ _ _ _ _ _ _ _ _ _ _ _ _ _ h
theorem fr_X10_standingAt_93 (k17 : Int32 → Int32 → Int32 → Int32 → Int32 → Int32 → Int32 → St → Option (Int32 × St)) (hk17 : ∀ (x1 : Int32) (x2 : Int32) (x3 : Int32) (x4 : Int32) (x5 : Int32) (x6 : Int32) (x7 : Int32) (σ : St) {r : Int32 × St}, k17 x1 x2 x3 x4 x5 x6 x7 σ = some r → frm [] [] σ r.2) : ∀ (n : Nat) (x1 : Int32) (x2 : Int32) (x3 : Int32) (x4 : Int32) (x5 : Int32) (x6 : Int32) (x7 : Int32) (x8 : Int32) (x9 : Int32) (x10 : Int32) (x11 : Int32) (x12 : Int32) (x13 : Int32) (σ : St) {r : Int32 × St}, f_X10_standingAt_93 k17 n x1 x2 x3 x4 x5 x6 x7 x8 x9 x10 x11 x12 x13 σ = some r → frm [] [] σ r.2 := by
  intro n
  induction n with
  | zero =>
    intro x1 x2 x3 x4 x5 x6 x7 x8 x9 x10 x11 x12 x13 σ r h
    cases h
  | succ n ih =>
    intro x1 x2 x3 x4 x5 x6 x7 x8 x9 x10 x11 x12 x13 σ r h
    simp only [f_X10_standingAt_93] at h
    rcases ite_sp h with ⟨-, h⟩ | ⟨-, h⟩
    · exact hk17 _ _ _ _ _ _ _ _ h
    · rcases ite_sp h with ⟨-, h⟩ | ⟨-, h⟩
      · exact fr_X10_standingAt_109 _ _ hk17 ih _ _ _ _ _ _ _ _ _ _ _ _ _ _ _ h
      · exact fr_X10_standingAt_109 _ _ hk17 ih _ _ _ _ _ _ _ _ _ _ _ _ _ _ _ h
theorem fr_X10_standingAt_88 (k17 : Int32 → Int32 → Int32 → Int32 → Int32 → Int32 → Int32 → St → Option (Int32 × St)) (hk17 : ∀ (x1 : Int32) (x2 : Int32) (x3 : Int32) (x4 : Int32) (x5 : Int32) (x6 : Int32) (x7 : Int32) (σ : St) {r : Int32 × St}, k17 x1 x2 x3 x4 x5 x6 x7 σ = some r → frm [] [] σ r.2) (x1 : Int32) (x2 : Int32) (x3 : Int32) (x4 : Int32) (x5 : Int32) (x6 : Int32) (x7 : Int32) (x8 : Int32) (x9 : Int32) (x10 : Int32) (x11 : Int32) (y0 : Int32) (σ : St) {r : Int32 × St} (h : f_X10_standingAt_88 k17 x1 x2 x3 x4 x5 x6 x7 x8 x9 x10 x11 y0 σ = some r) : frm [] [] σ r.2 := by
  unfold f_X10_standingAt_88 at h
  exact fr_X10_standingAt_93 _ hk17 FU _ _ _ _ _ _ _ _ _ _ _ _ _ _ h
theorem fr_X10_standingAt_87 (k17 : Int32 → Int32 → Int32 → Int32 → Int32 → Int32 → Int32 → St → Option (Int32 × St)) (hk17 : ∀ (x1 : Int32) (x2 : Int32) (x3 : Int32) (x4 : Int32) (x5 : Int32) (x6 : Int32) (x7 : Int32) (σ : St) {r : Int32 × St}, k17 x1 x2 x3 x4 x5 x6 x7 σ = some r → frm [] [] σ r.2) (x1 : Int32) (x2 : Int32) (x3 : Int32) (x4 : Int32) (x5 : Int32) (x6 : Int32) (x7 : Int32) (x8 : Int32) (x9 : Int32) (x10 : Int32) (x11 : Int32) (σ : St) {r : Int32 × St} (h : f_X10_standingAt_87 k17 x1 x2 x3 x4 x5 x6 x7 x8 x9 x10 x11 σ = some r) : frm [] [] σ r.2 := by
  unfold f_X10_standingAt_87 at h
  exact fr_X10_standingAt_88 _ hk17 _ _ _ _ _ _ _ _ _ _ _ _ _ h
theorem fr_X10_standingAt_83 (k17 : Int32 → Int32 → Int32 → Int32 → Int32 → Int32 → Int32 → St → Option (Int32 × St)) (hk17 : ∀ (x1 : Int32) (x2 : Int32) (x3 : Int32) (x4 : Int32) (x5 : Int32) (x6 : Int32) (x7 : Int32) (σ : St) {r : Int32 × St}, k17 x1 x2 x3 x4 x5 x6 x7 σ = some r → frm [] [] σ r.2) (x1 : Int32) (x2 : Int32) (x3 : Int32) (x4 : Int32) (x5 : Int32) (x6 : Int32) (x7 : Int32) (x8 : Int32) (x9 : Int32) (x10 : Int32) (x11 : Int32) (σ : St) {r : Int32 × St} (h : f_X10_standingAt_83 k17 x1 x2 x3 x4 x5 x6 x7 x8 x9 x10 x11 σ = some r) : frm [] [] σ r.2 := by
  unfold f_X10_standingAt_83 at h
  exact fr_X10_standingAt_88 _ hk17 _ _ _ _ _ _ _ _ _ _ _ _ _ h
theorem fr_X10_standingAt_54 (k17 : Int32 → Int32 → Int32 → Int32 → Int32 → Int32 → Int32 → St → Option (Int32 × St)) (hk17 : ∀ (x1 : Int32) (x2 : Int32) (x3 : Int32) (x4 : Int32) (x5 : Int32) (x6 : Int32) (x7 : Int32) (σ : St) {r : Int32 × St}, k17 x1 x2 x3 x4 x5 x6 x7 σ = some r → frm [] [] σ r.2) (x1 : Int32) (x2 : Int32) (x3 : Int32) (x4 : Int32) (x5 : Int32) (x7 : Int32) (x8 : Int32) (x9 : Int32) (σ : St) {r : Int32 × St} (h : f_X10_standingAt_54 k17 x1 x2 x3 x4 x5 x7 x8 x9 σ = some r) : frm [] [] σ r.2 := by
  unfold f_X10_standingAt_54 at h
  rcases ite_sp h with ⟨-, h⟩ | ⟨-, h⟩
  · exact fr_X10_standingAt_87 _ hk17 _ _ _ _ _ _ _ _ _ _ _ _ h
  · rcases ite_sp h with ⟨-, h⟩ | ⟨-, h⟩
    · exact fr_X10_standingAt_83 _ hk17 _ _ _ _ _ _ _ _ _ _ _ _ h
    · rcases ite_sp h with ⟨-, h⟩ | ⟨-, h⟩
      · exact fr_X10_standingAt_87 _ hk17 _ _ _ _ _ _ _ _ _ _ _ _ h
      · exact fr_X10_standingAt_83 _ hk17 _ _ _ _ _ _ _ _ _ _ _ _ h
theorem fr_X10_standingAt_41 (k17 : Int32 → Int32 → Int32 → Int32 → Int32 → Int32 → Int32 → St → Option (Int32 × St)) (hk17 : ∀ (x1 : Int32) (x2 : Int32) (x3 : Int32) (x4 : Int32) (x5 : Int32) (x6 : Int32) (x7 : Int32) (σ : St) {r : Int32 × St}, k17 x1 x2 x3 x4 x5 x6 x7 σ = some r → frm [] [] σ r.2) (x1 : Int32) (x2 : Int32) (x3 : Int32) (x4 : Int32) (x5 : Int32) (x7 : Int32) (y0 : Int32) (σ : St) {r : Int32 × St} (h : f_X10_standingAt_41 k17 x1 x2 x3 x4 x5 x7 y0 σ = some r) : frm [] [] σ r.2 := by
  unfold f_X10_standingAt_41 at h
  obtain ⟨-, h⟩ := gd_some h
  exact fr_X10_standingAt_54 _ hk17 _ _ _ _ _ _ _ _ _ h
theorem fr_X10_standingAt_17 : ∀ (n : Nat) (x1 : Int32) (x2 : Int32) (x3 : Int32) (x4 : Int32) (x5 : Int32) (x6 : Int32) (x7 : Int32) (σ : St) {r : Int32 × St}, f_X10_standingAt_17 n x1 x2 x3 x4 x5 x6 x7 σ = some r → frm [] [] σ r.2 := by
  intro n
  induction n with
  | zero =>
    intro x1 x2 x3 x4 x5 x6 x7 σ r h
    cases h
  | succ n ih =>
    intro x1 x2 x3 x4 x5 x6 x7 σ r h
    simp only [f_X10_standingAt_17] at h
    rcases ite_sp h with ⟨-, h⟩ | ⟨-, h⟩
    · cases h
      exact (frm.rf _)
    · rcases ite_sp h with ⟨-, h⟩ | ⟨-, h⟩
      · exact fr_X10_standingAt_41 _ ih _ _ _ _ _ _ _ _ h
      · exact fr_X10_standingAt_41 _ ih _ _ _ _ _ _ _ _ h
theorem fr_X10_standingAt {x1 : Int32} {x2 : Int32} {x3 : Int32} {σ : St} {r : Int32 × St} (h : f_X10_standingAt x1 x2 x3 σ = some r) : frm [] [] σ r.2 := by
  unfold f_X10_standingAt at h
  obtain ⟨p1, hp1, h⟩ := bind_sp h
  refine frm.tr (frm.rf _) (frm.tr (frm.mo (fr_X10_highest hp1) (by decide) (by decide)) ?_)
  exact fr_X10_standingAt_17 FU _ _ _ _ _ _ _ _ h
theorem fr_X10_standing_43 (y0 : Int32) (σ : St) {r : Int32 × St} (h : f_X10_standing_43 y0 σ = some r) : frm [] [] σ r.2 := by
  unfold f_X10_standing_43 at h
  cases h
  exact (frm.rf _)
theorem fr_X10_standing_42 (σ : St) {r : Int32 × St} (h : f_X10_standing_42 σ = some r) : frm [] [] σ r.2 := by
  unfold f_X10_standing_42 at h
  exact fr_X10_standing_43 _ _ h
theorem fr_X10_standing {x1 : Int32} {x2 : Int32} {x3 : Int32} {σ : St} {r : Int32 × St} (h : f_X10_standing x1 x2 x3 σ = some r) : frm [] [] σ r.2 := by
  unfold f_X10_standing at h
  obtain ⟨p1, hp1, h⟩ := bind_sp h
  refine frm.tr (frm.rf _) (frm.tr (frm.mo (fr_X10_in hp1) (by decide) (by decide)) ?_)
  rcases ite_sp h with ⟨-, h⟩ | ⟨-, h⟩
  · exact fr_X10_standing_42 _ h
  · obtain ⟨p2, hp2, h⟩ := bind_sp h
    refine frm.tr (frm.rf _) (frm.tr (frm.mo (fr_X10_isRope hp2) (by decide) (by decide)) ?_)
    rcases ite_sp h with ⟨-, h⟩ | ⟨-, h⟩
    · exact fr_X10_standing_42 _ h
    · obtain ⟨p3, hp3, h⟩ := bind_sp h
      refine frm.tr (frm.rf _) (frm.tr (frm.mo (fr_X10_in hp3) (by decide) (by decide)) ?_)
      rcases ite_sp h with ⟨-, h⟩ | ⟨-, h⟩
      · exact fr_X10_standing_42 _ h
      · obtain ⟨p4, hp4, h⟩ := bind_sp h
        refine frm.tr (frm.rf _) (frm.tr (frm.mo (fr_X10_standingAt hp4) (by decide) (by decide)) ?_)
        exact fr_X10_standing_43 _ _ h
theorem fr_X10_heardAs_86 (k22 : Int32 → Int64 → Int64 → Int32 → St → Option (Int64 × St)) (hk22 : ∀ (x1 : Int32) (x2 : Int64) (x4 : Int64) (x6 : Int32) (σ : St) {r : Int64 × St}, k22 x1 x2 x4 x6 σ = some r → frm [] [] σ r.2) (x1 : Int32) (x2 : Int64) (x4 : Int64) (x6 : Int32) (σ : St) {r : Int64 × St} (h : f_X10_heardAs_86 k22 x1 x2 x4 x6 σ = some r) : frm [] [] σ r.2 := by
  unfold f_X10_heardAs_86 at h
  exact hk22 _ _ _ _ _ h
theorem fr_X10_heardAs_83 (k22 : Int32 → Int64 → Int64 → Int32 → St → Option (Int64 × St)) (hk22 : ∀ (x1 : Int32) (x2 : Int64) (x4 : Int64) (x6 : Int32) (σ : St) {r : Int64 × St}, k22 x1 x2 x4 x6 σ = some r → frm [] [] σ r.2) (x1 : Int32) (x2 : Int64) (x6 : Int32) (y0 : Int64) (y1 : Int64) (σ : St) {r : Int64 × St} (h : f_X10_heardAs_83 k22 x1 x2 x6 y0 y1 σ = some r) : frm [] [] σ r.2 := by
  unfold f_X10_heardAs_83 at h
  exact fr_X10_heardAs_86 _ hk22 _ _ _ _ _ h
theorem fr_X10_heardAs_22 : ∀ (n : Nat) (x1 : Int32) (x2 : Int64) (x4 : Int64) (x6 : Int32) (σ : St) {r : Int64 × St}, f_X10_heardAs_22 n x1 x2 x4 x6 σ = some r → frm [] [] σ r.2 := by
  intro n
  induction n with
  | zero =>
    intro x1 x2 x4 x6 σ r h
    cases h
  | succ n ih =>
    intro x1 x2 x4 x6 σ r h
    simp only [f_X10_heardAs_22] at h
    obtain ⟨p3, hp3, h⟩ := bind_sp h
    refine frm.tr (frm.rf _) (frm.tr (frm.mo (fr_X10_many hp3) (by decide) (by decide)) ?_)
    rcases ite_sp h with ⟨-, h⟩ | ⟨-, h⟩
    · cases h
      exact (frm.rf _)
    · obtain ⟨p4, hp4, h⟩ := bind_sp h
      refine frm.tr (frm.rf _) (frm.tr (frm.mo (fr_X10_digitOf hp4) (by decide) (by decide)) ?_)
      obtain ⟨p5, hp5, h⟩ := bind_sp h
      refine frm.tr (frm.rf _) (frm.tr (frm.mo (fr_X10_digitOf hp5) (by decide) (by decide)) ?_)
      rcases ite_sp h with ⟨-, h⟩ | ⟨-, h⟩
      · obtain ⟨p6, hp6, h⟩ := bind_sp h
        refine frm.tr (frm.rf _) (frm.tr (frm.mo (fr_X10_itself hp6) (by decide) (by decide)) ?_)
        exact fr_X10_heardAs_83 _ ih _ _ _ _ _ _ h
      · obtain ⟨-, h⟩ := gd_some h
        exact fr_X10_heardAs_83 _ ih _ _ _ _ _ _ h
theorem fr_X10_heardAs {x1 : Int32} {x2 : Int64} {σ : St} {r : Int64 × St} (h : f_X10_heardAs x1 x2 σ = some r) : frm [] [] σ r.2 := by
  unfold f_X10_heardAs at h
  obtain ⟨p1, hp1, h⟩ := bind_sp h
  refine frm.tr (frm.rf _) (frm.tr (frm.mo (fr_X10_many hp1) (by decide) (by decide)) ?_)
  obtain ⟨p2, hp2, h⟩ := bind_sp h
  refine frm.tr (frm.rf _) (frm.tr (frm.mo (fr_X10_many hp2) (by decide) (by decide)) ?_)
  rcases ite_sp h with ⟨-, h⟩ | ⟨-, h⟩
  · exact fr_X10_heardAs_22 FU _ _ _ _ _ h
  · cases h
    exact (frm.rf _)
theorem fr_X10_as_24 (σ : St) {r : Int32 × St} (h : f_X10_as_24 σ = some r) : frm [] [] σ r.2 := by
  unfold f_X10_as_24 at h
  cases h
  exact (frm.rf _)
theorem fr_X10_as_74 (y0 : Int64) (σ : St) {r : Int32 × St} (h : f_X10_as_74 y0 σ = some r) : frm [] [] σ r.2 := by
  unfold f_X10_as_74 at h
  cases h
  exact (frm.rf _)
theorem fr_X10_as {x1 : Int32} {x2 : Int32} {σ : St} {r : Int32 × St} (h : f_X10_as x1 x2 σ = some r) : frm [] [] σ r.2 := by
  unfold f_X10_as at h
  obtain ⟨p1, hp1, h⟩ := bind_sp h
  refine frm.tr (frm.rf _) (frm.tr (frm.mo (fr_X10_in hp1) (by decide) (by decide)) ?_)
  rcases ite_sp h with ⟨-, h⟩ | ⟨-, h⟩
  · exact fr_X10_as_24 _ h
  · obtain ⟨p2, hp2, h⟩ := bind_sp h
    refine frm.tr (frm.rf _) (frm.tr (frm.mo (fr_X10_in hp2) (by decide) (by decide)) ?_)
    rcases ite_sp h with ⟨-, h⟩ | ⟨-, h⟩
    · exact fr_X10_as_24 _ h
    · obtain ⟨p3, hp3, h⟩ := bind_sp h
      refine frm.tr (frm.rf _) (frm.tr (frm.mo (fr_X10_many hp3) (by decide) (by decide)) ?_)
      obtain ⟨p4, hp4, h⟩ := bind_sp h
      refine frm.tr (frm.rf _) (frm.tr (frm.mo (fr_X10_ten hp4) (by decide) (by decide)) ?_)
      obtain ⟨p5, hp5, h⟩ := bind_sp h
      refine frm.tr (frm.rf _) (frm.tr (frm.mo (fr_X10_heardAs hp5) (by decide) (by decide)) ?_)
      rcases ite_sp h with ⟨-, h⟩ | ⟨-, h⟩
      · obtain ⟨-, h⟩ := gd_some h
        exact fr_X10_as_74 _ _ h
      · obtain ⟨-, h⟩ := gd_some h
        exact fr_X10_as_74 _ _ h
theorem fr_X10_guess_79 (k21 : Int32 → Int32 → Int64 → Int32 → St → Option (Int32 × St)) (hk21 : ∀ (x1 : Int32) (x2 : Int32) (x3 : Int64) (x5 : Int32) (σ : St) {r : Int32 × St}, k21 x1 x2 x3 x5 σ = some r → frm [] [] σ r.2) (x1 : Int32) (x2 : Int32) (x3 : Int64) (x5 : Int32) (σ : St) {r : Int32 × St} (h : f_X10_guess_79 k21 x1 x2 x3 x5 σ = some r) : frm [] [] σ r.2 := by
  unfold f_X10_guess_79 at h
  exact hk21 _ _ _ _ _ h
theorem fr_X10_guess_66 (k21 : Int32 → Int32 → Int64 → Int32 → St → Option (Int32 × St)) (hk21 : ∀ (x1 : Int32) (x2 : Int32) (x3 : Int64) (x5 : Int32) (σ : St) {r : Int32 × St}, k21 x1 x2 x3 x5 σ = some r → frm [] [] σ r.2) (x1 : Int32) (x2 : Int32) (x3 : Int64) (x5 : Int32) (x6 : Int64) (σ : St) {r : Int32 × St} (h : f_X10_guess_66 k21 x1 x2 x3 x5 x6 σ = some r) : frm [] [] σ r.2 := by
  unfold f_X10_guess_66 at h
  rcases ite_sp h with ⟨-, h⟩ | ⟨-, h⟩
  · exact fr_X10_guess_79 _ hk21 _ _ _ _ _ h
  · exact fr_X10_guess_79 _ hk21 _ _ _ _ _ h
theorem fr_X10_guess_21 : ∀ (n : Nat) (x1 : Int32) (x2 : Int32) (x3 : Int64) (x5 : Int32) (σ : St) {r : Int32 × St}, f_X10_guess_21 n x1 x2 x3 x5 σ = some r → frm [] [] σ r.2 := by
  intro n
  induction n with
  | zero =>
    intro x1 x2 x3 x5 σ r h
    cases h
  | succ n ih =>
    intro x1 x2 x3 x5 σ r h
    simp only [f_X10_guess_21] at h
    rcases ite_sp h with ⟨-, h⟩ | ⟨-, h⟩
    · cases h
      exact (frm.rf _)
    · obtain ⟨-, h⟩ := gd_some h
      obtain ⟨p2, hp2, h⟩ := bind_sp h
      refine frm.tr (frm.rf _) (frm.tr (frm.mo (fr_X10_heardAs hp2) (by decide) (by decide)) ?_)
      obtain ⟨-, h⟩ := gd_some h
      obtain ⟨p3, hp3, h⟩ := bind_sp h
      refine frm.tr (frm.rf _) (frm.tr (frm.mo (fr_X10_many hp3) (by decide) (by decide)) ?_)
      obtain ⟨p4, hp4, h⟩ := bind_sp h
      refine frm.tr (frm.rf _) (frm.tr (frm.mo (fr_X10_ten hp4) (by decide) (by decide)) ?_)
      exact fr_X10_guess_66 _ ih _ _ _ _ _ _ h
theorem fr_X10_guess {x1 : Int32} {σ : St} {r : Int32 × St} (h : f_X10_guess x1 σ = some r) : frm [] [] σ r.2 := by
  unfold f_X10_guess at h
  obtain ⟨p1, hp1, h⟩ := bind_sp h
  refine frm.tr (frm.rf _) (frm.tr (frm.mo (fr_X10_in hp1) (by decide) (by decide)) ?_)
  rcases ite_sp h with ⟨-, h⟩ | ⟨-, h⟩
  · cases h
    exact (frm.rf _)
  · exact fr_X10_guess_21 FU _ _ _ _ _ h
theorem fr_X10_safest_26 (σ : St) {r : Int32 × St} (h : f_X10_safest_26 σ = some r) : frm [52, 53] [] σ r.2 := by
  unfold f_X10_safest_26 at h
  cases h
  exact (frm.rf _)
theorem fr_X10_safest_61 (k33 : Int32 → Int32 → Int32 → Int32 → St → Option (Int32 × St)) (hk33 : ∀ (x1 : Int32) (x2 : Int32) (x3 : Int32) (x4 : Int32) (σ : St) {r : Int32 × St}, k33 x1 x2 x3 x4 σ = some r → frm [52, 53] [] σ r.2) (x1 : Int32) (x2 : Int32) (x4 : Int32) (y0 : Int32) (σ : St) {r : Int32 × St} (h : f_X10_safest_61 k33 x1 x2 x4 y0 σ = some r) : frm [52, 53] [] σ r.2 := by
  unfold f_X10_safest_61 at h
  exact hk33 _ _ _ _ _ h
theorem fr_X10_safest_33 : ∀ (n : Nat) (x1 : Int32) (x2 : Int32) (x3 : Int32) (x4 : Int32) (σ : St) {r : Int32 × St}, f_X10_safest_33 n x1 x2 x3 x4 σ = some r → frm [52, 53] [] σ r.2 := by
  intro n
  induction n with
  | zero =>
    intro x1 x2 x3 x4 σ r h
    cases h
  | succ n ih =>
    intro x1 x2 x3 x4 σ r h
    simp only [f_X10_safest_33] at h
    rcases ite_sp h with ⟨-, h⟩ | ⟨-, h⟩
    · cases h
      exact (frm.rf _)
    · obtain ⟨p3, hp3, h⟩ := bind_sp h
      refine frm.tr (frm.rf _) (frm.tr (frm.mo (fr_X10_miss hp3) (by decide) (by decide)) ?_)
      obtain ⟨p4, hp4, h⟩ := bind_sp h
      refine frm.tr (frm.rf _) (frm.tr (frm.mo (fr_X10_miss hp4) (by decide) (by decide)) ?_)
      rcases ite_sp h with ⟨-, h⟩ | ⟨-, h⟩
      · exact fr_X10_safest_61 _ ih _ _ _ _ _ h
      · exact fr_X10_safest_61 _ ih _ _ _ _ _ h
theorem fr_X10_safest {x1 : Int32} {x2 : Int32} {σ : St} {r : Int32 × St} (h : f_X10_safest x1 x2 σ = some r) : frm [52, 53] [] σ r.2 := by
  unfold f_X10_safest at h
  obtain ⟨p1, hp1, h⟩ := bind_sp h
  refine frm.tr (frm.rf _) (frm.tr (frm.mo (fr_X10_in hp1) (by decide) (by decide)) ?_)
  rcases ite_sp h with ⟨-, h⟩ | ⟨-, h⟩
  · exact fr_X10_safest_26 _ h
  · obtain ⟨p2, hp2, h⟩ := bind_sp h
    refine frm.tr (frm.rf _) (frm.tr (frm.mo (fr_X10_in hp2) (by decide) (by decide)) ?_)
    rcases ite_sp h with ⟨-, h⟩ | ⟨-, h⟩
    · exact fr_X10_safest_26 _ h
    · exact fr_X10_safest_33 FU _ _ _ _ _ h
theorem fr_X10_confused_71 (k4 : Int32 → Int32 → St → Option (Int32 × St)) (k14 : Int32 → Int32 → Int32 → St → Option (Int32 × St)) (hk4 : ∀ (x1 : Int32) (x2 : Int32) (σ : St) {r : Int32 × St}, k4 x1 x2 σ = some r → frm [] [] σ r.2) (hk14 : ∀ (x1 : Int32) (x2 : Int32) (x3 : Int32) (σ : St) {r : Int32 × St}, k14 x1 x2 x3 σ = some r → frm [] [] σ r.2) (x1 : Int32) (x2 : Int32) (x3 : Int32) (σ : St) {r : Int32 × St} (h : f_X10_confused_71 k4 k14 x1 x2 x3 σ = some r) : frm [] [] σ r.2 := by
  unfold f_X10_confused_71 at h
  exact hk14 _ _ _ _ h
theorem fr_X10_confused_69 (k4 : Int32 → Int32 → St → Option (Int32 × St)) (k14 : Int32 → Int32 → Int32 → St → Option (Int32 × St)) (hk4 : ∀ (x1 : Int32) (x2 : Int32) (σ : St) {r : Int32 × St}, k4 x1 x2 σ = some r → frm [] [] σ r.2) (hk14 : ∀ (x1 : Int32) (x2 : Int32) (x3 : Int32) (σ : St) {r : Int32 × St}, k14 x1 x2 x3 σ = some r → frm [] [] σ r.2) (x2 : Int32) (x3 : Int32) (y0 : Int32) (y1 : Int32) (σ : St) {r : Int32 × St} (h : f_X10_confused_69 k4 k14 x2 x3 y0 y1 σ = some r) : frm [] [] σ r.2 := by
  unfold f_X10_confused_69 at h
  exact fr_X10_confused_71 _ _ hk4 hk14 _ _ _ _ h
theorem fr_X10_confused_64 (k4 : Int32 → Int32 → St → Option (Int32 × St)) (k14 : Int32 → Int32 → Int32 → St → Option (Int32 × St)) (hk4 : ∀ (x1 : Int32) (x2 : Int32) (σ : St) {r : Int32 × St}, k4 x1 x2 σ = some r → frm [] [] σ r.2) (hk14 : ∀ (x1 : Int32) (x2 : Int32) (x3 : Int32) (σ : St) {r : Int32 × St}, k14 x1 x2 x3 σ = some r → frm [] [] σ r.2) (x2 : Int32) (x3 : Int32) (y0 : Int32) (σ : St) {r : Int32 × St} (h : f_X10_confused_64 k4 k14 x2 x3 y0 σ = some r) : frm [] [] σ r.2 := by
  unfold f_X10_confused_64 at h
  exact fr_X10_confused_69 _ _ hk4 hk14 _ _ _ _ _ h
theorem fr_X10_confused_14 (k4 : Int32 → Int32 → St → Option (Int32 × St)) (hk4 : ∀ (x1 : Int32) (x2 : Int32) (σ : St) {r : Int32 × St}, k4 x1 x2 σ = some r → frm [] [] σ r.2) : ∀ (n : Nat) (x1 : Int32) (x2 : Int32) (x3 : Int32) (σ : St) {r : Int32 × St}, f_X10_confused_14 k4 n x1 x2 x3 σ = some r → frm [] [] σ r.2 := by
  intro n
  induction n with
  | zero =>
    intro x1 x2 x3 σ r h
    cases h
  | succ n ih =>
    intro x1 x2 x3 σ r h
    simp only [f_X10_confused_14] at h
    rcases ite_sp h with ⟨-, h⟩ | ⟨-, h⟩
    · exact hk4 _ _ _ h
    · obtain ⟨-, h⟩ := gd_some h
      obtain ⟨-, h⟩ := gd_some h
      obtain ⟨p1, hp1, h⟩ := bind_sp h
      refine frm.tr (frm.rf _) (frm.tr (frm.mo (fr_X10_heardAs hp1) (by decide) (by decide)) ?_)
      rcases ite_sp h with ⟨-, h⟩ | ⟨-, h⟩
      · exact fr_X10_confused_64 _ _ hk4 ih _ _ _ _ h
      · obtain ⟨-, h⟩ := gd_some h
        obtain ⟨-, h⟩ := gd_some h
        obtain ⟨p2, hp2, h⟩ := bind_sp h
        refine frm.tr (frm.rf _) (frm.tr (frm.mo (fr_X10_heardAs hp2) (by decide) (by decide)) ?_)
        rcases ite_sp h with ⟨-, h⟩ | ⟨-, h⟩
        · exact fr_X10_confused_69 _ _ hk4 ih _ _ _ _ _ h
        · exact fr_X10_confused_64 _ _ hk4 ih _ _ _ _ h
theorem fr_X10_confused_4 : ∀ (n : Nat) (x1 : Int32) (x2 : Int32) (σ : St) {r : Int32 × St}, f_X10_confused_4 n x1 x2 σ = some r → frm [] [] σ r.2 := by
  intro n
  induction n with
  | zero =>
    intro x1 x2 σ r h
    cases h
  | succ n ih =>
    intro x1 x2 σ r h
    simp only [f_X10_confused_4] at h
    rcases ite_sp h with ⟨-, h⟩ | ⟨-, h⟩
    · cases h
      exact (frm.rf _)
    · exact fr_X10_confused_14 _ ih FU _ _ _ _ h
theorem fr_X10_confused {σ : St} {r : Int32 × St} (h : f_X10_confused σ = some r) : frm [] [] σ r.2 := by
  unfold f_X10_confused at h
  exact fr_X10_confused_4 FU _ _ _ h
theorem fr_J9_multiplyHigh_f86c9_71 (x4 : Int64) (x8 : Int64) (x16 : Int64) (x18 : Int64) (σ : St) {r : Int64 × St} (h : f_J9_multiplyHigh_f86c9_71 x4 x8 x16 x18 σ = some r) : frm [] [] σ r.2 := by
  unfold f_J9_multiplyHigh_f86c9_71 at h
  cases h
  exact (frm.rf _)
theorem fr_J9_multiplyHigh_f86c9_61 (x4 : Int64) (x6 : Int64) (x8 : Int64) (x16 : Int64) (x18 : Int64) (σ : St) {r : Int64 × St} (h : f_J9_multiplyHigh_f86c9_61 x4 x6 x8 x16 x18 σ = some r) : frm [] [] σ r.2 := by
  unfold f_J9_multiplyHigh_f86c9_61 at h
  exact fr_J9_multiplyHigh_f86c9_71 _ _ _ _ _ h
theorem fr_J9_multiplyHigh_f86c9_54 (x4 : Int64) (x6 : Int64) (x8 : Int64) (x14 : Int64) (x16 : Int64) (σ : St) {r : Int64 × St} (h : f_J9_multiplyHigh_f86c9_54 x4 x6 x8 x14 x16 σ = some r) : frm [] [] σ r.2 := by
  unfold f_J9_multiplyHigh_f86c9_54 at h
  exact fr_J9_multiplyHigh_f86c9_61 _ _ _ _ _ _ h
theorem fr_J9_multiplyHigh_f86c9_46 (x4 : Int64) (x6 : Int64) (x8 : Int64) (x14 : Int64) (σ : St) {r : Int64 × St} (h : f_J9_multiplyHigh_f86c9_46 x4 x6 x8 x14 σ = some r) : frm [] [] σ r.2 := by
  unfold f_J9_multiplyHigh_f86c9_46 at h
  exact fr_J9_multiplyHigh_f86c9_54 _ _ _ _ _ _ h
theorem fr_J9_multiplyHigh_f86c9_33 (x4 : Int64) (x6 : Int64) (x8 : Int64) (x10 : Int64) (x12 : Int64) (σ : St) {r : Int64 × St} (h : f_J9_multiplyHigh_f86c9_33 x4 x6 x8 x10 x12 σ = some r) : frm [] [] σ r.2 := by
  unfold f_J9_multiplyHigh_f86c9_33 at h
  exact fr_J9_multiplyHigh_f86c9_46 _ _ _ _ _ h
theorem fr_J9_multiplyHigh_f86c9_26 (x4 : Int64) (x6 : Int64) (x8 : Int64) (x10 : Int64) (σ : St) {r : Int64 × St} (h : f_J9_multiplyHigh_f86c9_26 x4 x6 x8 x10 σ = some r) : frm [] [] σ r.2 := by
  unfold f_J9_multiplyHigh_f86c9_26 at h
  exact fr_J9_multiplyHigh_f86c9_33 _ _ _ _ _ _ h
theorem fr_J9_multiplyHigh_f86c9_19 (x2 : Int64) (x4 : Int64) (x6 : Int64) (x8 : Int64) (σ : St) {r : Int64 × St} (h : f_J9_multiplyHigh_f86c9_19 x2 x4 x6 x8 σ = some r) : frm [] [] σ r.2 := by
  unfold f_J9_multiplyHigh_f86c9_19 at h
  exact fr_J9_multiplyHigh_f86c9_26 _ _ _ _ _ h
theorem fr_J9_multiplyHigh_f86c9_13 (x2 : Int64) (x4 : Int64) (x6 : Int64) (σ : St) {r : Int64 × St} (h : f_J9_multiplyHigh_f86c9_13 x2 x4 x6 σ = some r) : frm [] [] σ r.2 := by
  unfold f_J9_multiplyHigh_f86c9_13 at h
  exact fr_J9_multiplyHigh_f86c9_19 _ _ _ _ _ h
theorem fr_J9_multiplyHigh_f86c9_6 (x0 : Int64) (x2 : Int64) (x4 : Int64) (σ : St) {r : Int64 × St} (h : f_J9_multiplyHigh_f86c9_6 x0 x2 x4 σ = some r) : frm [] [] σ r.2 := by
  unfold f_J9_multiplyHigh_f86c9_6 at h
  exact fr_J9_multiplyHigh_f86c9_13 _ _ _ _ h
theorem fr_J9_multiplyHigh_f86c9 {x0 : Int64} {x2 : Int64} {σ : St} {r : Int64 × St} (h : f_J9_multiplyHigh_f86c9 x0 x2 σ = some r) : frm [] [] σ r.2 := by
  unfold f_J9_multiplyHigh_f86c9 at h
  exact fr_J9_multiplyHigh_f86c9_6 _ _ _ _ h
theorem fr_X10_partOf_112 (k8 : Int64 → Int64 → Int32 → Int32 → St → Option (Int32 × St)) (hk8 : ∀ (x0 : Int64) (x2 : Int64) (x4 : Int32) (x5 : Int32) (σ : St) {r : Int32 × St}, k8 x0 x2 x4 x5 σ = some r → frm [] [] σ r.2) (x0 : Int64) (x2 : Int64) (x4 : Int32) (x5 : Int32) (σ : St) {r : Int32 × St} (h : f_X10_partOf_112 k8 x0 x2 x4 x5 σ = some r) : frm [] [] σ r.2 := by
  unfold f_X10_partOf_112 at h
  exact hk8 _ _ _ _ _ h
theorem fr_X10_partOf_106 (k8 : Int64 → Int64 → Int32 → Int32 → St → Option (Int32 × St)) (hk8 : ∀ (x0 : Int64) (x2 : Int64) (x4 : Int32) (x5 : Int32) (σ : St) {r : Int32 × St}, k8 x0 x2 x4 x5 σ = some r → frm [] [] σ r.2) (x0 : Int64) (x2 : Int64) (x4 : Int32) (x5 : Int32) (σ : St) {r : Int32 × St} (h : f_X10_partOf_106 k8 x0 x2 x4 x5 σ = some r) : frm [] [] σ r.2 := by
  unfold f_X10_partOf_106 at h
  exact fr_X10_partOf_112 _ hk8 _ _ _ _ _ h
theorem fr_X10_partOf_103 (k8 : Int64 → Int64 → Int32 → Int32 → St → Option (Int32 × St)) (hk8 : ∀ (x0 : Int64) (x2 : Int64) (x4 : Int32) (x5 : Int32) (σ : St) {r : Int32 × St}, k8 x0 x2 x4 x5 σ = some r → frm [] [] σ r.2) (x0 : Int64) (x2 : Int64) (x5 : Int32) (y0 : Int32) (y1 : Int32) (σ : St) {r : Int32 × St} (h : f_X10_partOf_103 k8 x0 x2 x5 y0 y1 σ = some r) : frm [] [] σ r.2 := by
  unfold f_X10_partOf_103 at h
  exact fr_X10_partOf_106 _ hk8 _ _ _ _ _ h
theorem fr_X10_partOf_88 (k8 : Int64 → Int64 → Int32 → Int32 → St → Option (Int32 × St)) (hk8 : ∀ (x0 : Int64) (x2 : Int64) (x4 : Int32) (x5 : Int32) (σ : St) {r : Int32 × St}, k8 x0 x2 x4 x5 σ = some r → frm [] [] σ r.2) (x0 : Int64) (x2 : Int64) (x4 : Int32) (x5 : Int32) (y0 : Int32) (σ : St) {r : Int32 × St} (h : f_X10_partOf_88 k8 x0 x2 x4 x5 y0 σ = some r) : frm [] [] σ r.2 := by
  unfold f_X10_partOf_88 at h
  rcases ite_sp h with ⟨-, h⟩ | ⟨-, h⟩
  · exact fr_X10_partOf_103 _ hk8 _ _ _ _ _ _ h
  · exact fr_X10_partOf_103 _ hk8 _ _ _ _ _ _ h
theorem fr_X10_partOf_83 (k8 : Int64 → Int64 → Int32 → Int32 → St → Option (Int32 × St)) (hk8 : ∀ (x0 : Int64) (x2 : Int64) (x4 : Int32) (x5 : Int32) (σ : St) {r : Int32 × St}, k8 x0 x2 x4 x5 σ = some r → frm [] [] σ r.2) (x0 : Int64) (x2 : Int64) (x4 : Int32) (x5 : Int32) (σ : St) {r : Int32 × St} (h : f_X10_partOf_83 k8 x0 x2 x4 x5 σ = some r) : frm [] [] σ r.2 := by
  unfold f_X10_partOf_83 at h
  exact fr_X10_partOf_88 _ hk8 _ _ _ _ _ _ h
theorem fr_X10_partOf_87 (k8 : Int64 → Int64 → Int32 → Int32 → St → Option (Int32 × St)) (hk8 : ∀ (x0 : Int64) (x2 : Int64) (x4 : Int32) (x5 : Int32) (σ : St) {r : Int32 × St}, k8 x0 x2 x4 x5 σ = some r → frm [] [] σ r.2) (x0 : Int64) (x2 : Int64) (x4 : Int32) (x5 : Int32) (σ : St) {r : Int32 × St} (h : f_X10_partOf_87 k8 x0 x2 x4 x5 σ = some r) : frm [] [] σ r.2 := by
  unfold f_X10_partOf_87 at h
  exact fr_X10_partOf_88 _ hk8 _ _ _ _ _ _ h
theorem fr_X10_partOf_51 (k8 : Int64 → Int64 → Int32 → Int32 → St → Option (Int32 × St)) (hk8 : ∀ (x0 : Int64) (x2 : Int64) (x4 : Int32) (x5 : Int32) (σ : St) {r : Int32 × St}, k8 x0 x2 x4 x5 σ = some r → frm [] [] σ r.2) (x0 : Int64) (x2 : Int64) (x4 : Int32) (x5 : Int32) (x6 : Int64) (x8 : Int64) (x10 : Int64) (x12 : Int64) (σ : St) {r : Int32 × St} (h : f_X10_partOf_51 k8 x0 x2 x4 x5 x6 x8 x10 x12 σ = some r) : frm [] [] σ r.2 := by
  unfold f_X10_partOf_51 at h
  rcases ite_sp h with ⟨-, h⟩ | ⟨-, h⟩
  · exact fr_X10_partOf_83 _ hk8 _ _ _ _ _ h
  · rcases ite_sp h with ⟨-, h⟩ | ⟨-, h⟩
    · rcases ite_sp h with ⟨-, h⟩ | ⟨-, h⟩
      · exact fr_X10_partOf_87 _ hk8 _ _ _ _ _ h
      · exact fr_X10_partOf_83 _ hk8 _ _ _ _ _ h
    · exact fr_X10_partOf_87 _ hk8 _ _ _ _ _ h
theorem fr_X10_partOf_35 (k8 : Int64 → Int64 → Int32 → Int32 → St → Option (Int32 × St)) (hk8 : ∀ (x0 : Int64) (x2 : Int64) (x4 : Int32) (x5 : Int32) (σ : St) {r : Int32 × St}, k8 x0 x2 x4 x5 σ = some r → frm [] [] σ r.2) (x0 : Int64) (x2 : Int64) (x4 : Int32) (x5 : Int32) (x6 : Int64) (x8 : Int64) (σ : St) {r : Int32 × St} (h : f_X10_partOf_35 k8 x0 x2 x4 x5 x6 x8 σ = some r) : frm [] [] σ r.2 := by
  unfold f_X10_partOf_35 at h
  obtain ⟨p2, hp2, h⟩ := bind_sp h
  refine frm.tr (frm.rf _) (frm.tr (frm.mo (fr_J9_multiplyHigh_f86c9 hp2) (by decide) (by decide)) ?_)
  exact fr_X10_partOf_51 _ hk8 _ _ _ _ _ _ _ _ _ h
theorem fr_X10_partOf_8 : ∀ (n : Nat) (x0 : Int64) (x2 : Int64) (x4 : Int32) (x5 : Int32) (σ : St) {r : Int32 × St}, f_X10_partOf_8 n x0 x2 x4 x5 σ = some r → frm [] [] σ r.2 := by
  intro n
  induction n with
  | zero =>
    intro x0 x2 x4 x5 σ r h
    cases h
  | succ n ih =>
    intro x0 x2 x4 x5 σ r h
    simp only [f_X10_partOf_8] at h
    rcases ite_sp h with ⟨-, h⟩ | ⟨-, h⟩
    · cases h
      exact (frm.rf _)
    · obtain ⟨p1, hp1, h⟩ := bind_sp h
      refine frm.tr (frm.rf _) (frm.tr (frm.mo (fr_J9_multiplyHigh_f86c9 hp1) (by decide) (by decide)) ?_)
      exact fr_X10_partOf_35 _ ih _ _ _ _ _ _ _ h
theorem fr_X10_partOf {x0 : Int64} {x2 : Int64} {σ : St} {r : Int32 × St} (h : f_X10_partOf x0 x2 σ = some r) : frm [] [] σ r.2 := by
  unfold f_X10_partOf at h
  exact fr_X10_partOf_8 FU _ _ _ _ _ h
theorem fr_X10_odds_132 (y0 : Int32) (σ : St) {r : Int32 × St} (h : f_X10_odds_132 y0 σ = some r) : frm [] [] σ r.2 := by
  unfold f_X10_odds_132 at h
  cases h
  exact (frm.rf _)
theorem fr_X10_odds_106 (k42 : Int32 → Int64 → Int64 → Int64 → Int32 → St → Option (Int32 × St)) (hk42 : ∀ (x1 : Int32) (x2 : Int64) (x4 : Int64) (x6 : Int64) (x8 : Int32) (σ : St) {r : Int32 × St}, k42 x1 x2 x4 x6 x8 σ = some r → frm [] [] σ r.2) (x1 : Int32) (x2 : Int64) (x4 : Int64) (x8 : Int32) (y0 : Int64) (σ : St) {r : Int32 × St} (h : f_X10_odds_106 k42 x1 x2 x4 x8 y0 σ = some r) : frm [] [] σ r.2 := by
  unfold f_X10_odds_106 at h
  exact hk42 _ _ _ _ _ _ h
theorem fr_X10_odds_93 (k42 : Int32 → Int64 → Int64 → Int64 → Int32 → St → Option (Int32 × St)) (hk42 : ∀ (x1 : Int32) (x2 : Int64) (x4 : Int64) (x6 : Int64) (x8 : Int32) (σ : St) {r : Int32 × St}, k42 x1 x2 x4 x6 x8 σ = some r → frm [] [] σ r.2) (x1 : Int32) (x2 : Int64) (x4 : Int64) (x6 : Int64) (x8 : Int32) (x9 : Int64) (σ : St) {r : Int32 × St} (h : f_X10_odds_93 k42 x1 x2 x4 x6 x8 x9 σ = some r) : frm [] [] σ r.2 := by
  unfold f_X10_odds_93 at h
  rcases ite_sp h with ⟨-, h⟩ | ⟨-, h⟩
  · exact fr_X10_odds_106 _ hk42 _ _ _ _ _ _ h
  · exact fr_X10_odds_106 _ hk42 _ _ _ _ _ _ h
theorem fr_X10_odds_86 (k42 : Int32 → Int64 → Int64 → Int64 → Int32 → St → Option (Int32 × St)) (hk42 : ∀ (x1 : Int32) (x2 : Int64) (x4 : Int64) (x6 : Int64) (x8 : Int32) (σ : St) {r : Int32 × St}, k42 x1 x2 x4 x6 x8 σ = some r → frm [] [] σ r.2) (x1 : Int32) (x2 : Int64) (x4 : Int64) (x6 : Int64) (x8 : Int32) (x9 : Int64) (σ : St) {r : Int32 × St} (h : f_X10_odds_86 k42 x1 x2 x4 x6 x8 x9 σ = some r) : frm [] [] σ r.2 := by
  unfold f_X10_odds_86 at h
  exact fr_X10_odds_93 _ hk42 _ _ _ _ _ _ _ h
theorem fr_X10_odds_42 : ∀ (n : Nat) (x1 : Int32) (x2 : Int64) (x4 : Int64) (x6 : Int64) (x8 : Int32) (σ : St) {r : Int32 × St}, f_X10_odds_42 n x1 x2 x4 x6 x8 σ = some r → frm [] [] σ r.2 := by
  intro n
  induction n with
  | zero =>
    intro x1 x2 x4 x6 x8 σ r h
    cases h
  | succ n ih =>
    intro x1 x2 x4 x6 x8 σ r h
    simp only [f_X10_odds_42] at h
    rcases ite_sp h with ⟨-, h⟩ | ⟨-, h⟩
    · rcases ite_sp h with ⟨-, h⟩ | ⟨-, h⟩
      · exact fr_X10_odds_132 _ _ h
      · obtain ⟨p3, hp3, h⟩ := bind_sp h
        refine frm.tr (frm.rf _) (frm.tr (frm.mo (fr_X10_partOf hp3) (by decide) (by decide)) ?_)
        exact fr_X10_odds_132 _ _ h
    · obtain ⟨-, h⟩ := gd_some h
      obtain ⟨p4, hp4, h⟩ := bind_sp h
      refine frm.tr (frm.rf _) (frm.tr (frm.mo (fr_X10_heardAs hp4) (by decide) (by decide)) ?_)
      obtain ⟨-, h⟩ := gd_some h
      obtain ⟨p5, hp5, h⟩ := bind_sp h
      refine frm.tr (frm.rf _) (frm.tr (frm.mo (fr_X10_many hp5) (by decide) (by decide)) ?_)
      obtain ⟨p6, hp6, h⟩ := bind_sp h
      refine frm.tr (frm.rf _) (frm.tr (frm.mo (fr_X10_ten hp6) (by decide) (by decide)) ?_)
      exact fr_X10_odds_86 _ ih _ _ _ _ _ _ _ h
theorem fr_X10_odds {x1 : Int32} {σ : St} {r : Int32 × St} (h : f_X10_odds x1 σ = some r) : frm [] [] σ r.2 := by
  unfold f_X10_odds at h
  obtain ⟨p1, hp1, h⟩ := bind_sp h
  refine frm.tr (frm.rf _) (frm.tr (frm.mo (fr_X10_in hp1) (by decide) (by decide)) ?_)
  rcases ite_sp h with ⟨-, h⟩ | ⟨-, h⟩
  · cases h
    exact (frm.rf _)
  · rcases ite_sp h with ⟨-, h⟩ | ⟨-, h⟩
    · obtain ⟨p2, hp2, h⟩ := bind_sp h
      refine frm.tr (frm.rf _) (frm.tr (frm.mo (fr_X10_seenNumber hp2) (by decide) (by decide)) ?_)
      exact fr_X10_odds_42 FU _ _ _ _ _ _ h
    · cases h
      exact (frm.rf _)
theorem fr_X10_ends_35 (y0 : Int32) (y1 : Int32) (y2 : Int32) (σ : St) {r : St} (h : f_X10_ends_35 y0 y1 y2 σ = some r) : frm [58, 62, 64] [] σ r := by
  unfold f_X10_ends_35 at h
  obtain ⟨-, h⟩ := gd_some h
  cases h
  exact (frm_sI (frm.rf _) (by simp))
theorem fr_X10_ends_19 (x1 : Int32) (x2 : Int32) (σ : St) {r : St} (h : f_X10_ends_19 x1 x2 σ = some r) : frm [58, 62, 64] [] σ r := by
  unfold f_X10_ends_19 at h
  obtain ⟨-, h⟩ := gd_some h
  rcases ite_sp h with ⟨-, h⟩ | ⟨-, h⟩
  · exact fr_X10_ends_35 _ _ _ _ h
  · exact fr_X10_ends_35 _ _ _ _ h
theorem fr_X10_ends {x1 : Int32} {x2 : Int32} {σ : St} {r : St} (h : f_X10_ends x1 x2 σ = some r) : frm [58, 62, 64] [] σ r := by
  unfold f_X10_ends at h
  obtain ⟨-, h⟩ := gd_some h
  obtain ⟨-, h⟩ := gd_some h
  obtain ⟨-, h⟩ := gd_some h
  exact frm.tr (frm_sI (frm_sI (frm.rf _) (by simp)) (by simp)) (fr_X10_ends_19 _ _ _ h)
theorem fr_X10_work_267 (σ : St) {r : St} (h : f_X10_work_267 σ = some r) : frm [58, 59, 60, 61, 62, 63, 64] [] σ r := by
  unfold f_X10_work_267 at h
  cases h
  exact (frm.rf _)
theorem fr_X10_work_264 (k24 : Int32 → Int32 → Int32 → Int32 → Int32 → St → Option (St)) (hk24 : ∀ (x1 : Int32) (x2 : Int32) (x3 : Int32) (x4 : Int32) (x5 : Int32) (σ : St) {r : St}, k24 x1 x2 x3 x4 x5 σ = some r → frm [58, 59, 60, 61, 62, 63, 64] [] σ r) (x1 : Int32) (x2 : Int32) (x3 : Int32) (x4 : Int32) (x5 : Int32) (σ : St) {r : St} (h : f_X10_work_264 k24 x1 x2 x3 x4 x5 σ = some r) : frm [58, 59, 60, 61, 62, 63, 64] [] σ r := by
  unfold f_X10_work_264 at h
  exact hk24 _ _ _ _ _ _ h
theorem fr_X10_work_233 (k24 : Int32 → Int32 → Int32 → Int32 → Int32 → St → Option (St)) (hk24 : ∀ (x1 : Int32) (x2 : Int32) (x3 : Int32) (x4 : Int32) (x5 : Int32) (σ : St) {r : St}, k24 x1 x2 x3 x4 x5 σ = some r → frm [58, 59, 60, 61, 62, 63, 64] [] σ r) (x1 : Int32) (x2 : Int32) (x3 : Int32) (x4 : Int32) (x5 : Int32) (x8 : Int32) (σ : St) {r : St} (h : f_X10_work_233 k24 x1 x2 x3 x4 x5 x8 σ = some r) : frm [58, 59, 60, 61, 62, 63, 64] [] σ r := by
  unfold f_X10_work_233 at h
  obtain ⟨-, h⟩ := gd_some h
  rcases ite_sp h with ⟨-, h⟩ | ⟨-, h⟩
  · obtain ⟨-, h⟩ := gd_some h
    obtain ⟨p1, hp1, h⟩ := bind_sp h
    refine frm.tr (frm_sI (frm.rf _) (by simp)) (frm.tr (frm.mo (fr_X10_ends hp1) (by decide) (by decide)) ?_)
    exact fr_X10_work_264 _ hk24 _ _ _ _ _ _ h
  · exact frm.tr (frm_sI (frm.rf _) (by simp)) (fr_X10_work_264 _ hk24 _ _ _ _ _ _ h)
theorem fr_X10_work_214 (k24 : Int32 → Int32 → Int32 → Int32 → Int32 → St → Option (St)) (hk24 : ∀ (x1 : Int32) (x2 : Int32) (x3 : Int32) (x4 : Int32) (x5 : Int32) (σ : St) {r : St}, k24 x1 x2 x3 x4 x5 σ = some r → frm [58, 59, 60, 61, 62, 63, 64] [] σ r) (x1 : Int32) (x2 : Int32) (x3 : Int32) (x4 : Int32) (x5 : Int32) (y0 : Int32) (y1 : Int32) (σ : St) {r : St} (h : f_X10_work_214 k24 x1 x2 x3 x4 x5 y0 y1 σ = some r) : frm [58, 59, 60, 61, 62, 63, 64] [] σ r := by
  unfold f_X10_work_214 at h
  obtain ⟨-, h⟩ := gd_some h
  obtain ⟨-, h⟩ := gd_some h
  obtain ⟨-, h⟩ := gd_some h
  exact frm.tr (frm_sI (frm.rf _) (by simp)) (fr_X10_work_233 _ hk24 _ _ _ _ _ _ _ h)
theorem fr_X10_work_197 (k24 : Int32 → Int32 → Int32 → Int32 → Int32 → St → Option (St)) (hk24 : ∀ (x1 : Int32) (x2 : Int32) (x3 : Int32) (x4 : Int32) (x5 : Int32) (σ : St) {r : St}, k24 x1 x2 x3 x4 x5 σ = some r → frm [58, 59, 60, 61, 62, 63, 64] [] σ r) (x1 : Int32) (x2 : Int32) (x3 : Int32) (x4 : Int32) (x5 : Int32) (x7 : Int32) (σ : St) {r : St} (h : f_X10_work_197 k24 x1 x2 x3 x4 x5 x7 σ = some r) : frm [58, 59, 60, 61, 62, 63, 64] [] σ r := by
  unfold f_X10_work_197 at h
  rcases ite_sp h with ⟨-, h⟩ | ⟨-, h⟩
  · exact fr_X10_work_214 _ hk24 _ _ _ _ _ _ _ _ h
  · exact fr_X10_work_214 _ hk24 _ _ _ _ _ _ _ _ h
theorem fr_X10_work_187 (k24 : Int32 → Int32 → Int32 → Int32 → Int32 → St → Option (St)) (hk24 : ∀ (x1 : Int32) (x2 : Int32) (x3 : Int32) (x4 : Int32) (x5 : Int32) (σ : St) {r : St}, k24 x1 x2 x3 x4 x5 σ = some r → frm [58, 59, 60, 61, 62, 63, 64] [] σ r) (x1 : Int32) (x2 : Int32) (x3 : Int32) (x4 : Int32) (x5 : Int32) (x7 : Int32) (y0 : Int32) (y1 : Int32) (σ : St) {r : St} (h : f_X10_work_187 k24 x1 x2 x3 x4 x5 x7 y0 y1 σ = some r) : frm [58, 59, 60, 61, 62, 63, 64] [] σ r := by
  unfold f_X10_work_187 at h
  obtain ⟨-, h⟩ := gd_some h
  obtain ⟨-, h⟩ := gd_some h
  exact frm.tr (frm_sI (frm.rf _) (by simp)) (fr_X10_work_197 _ hk24 _ _ _ _ _ _ _ h)
theorem fr_X10_work_163 (k24 : Int32 → Int32 → Int32 → Int32 → Int32 → St → Option (St)) (hk24 : ∀ (x1 : Int32) (x2 : Int32) (x3 : Int32) (x4 : Int32) (x5 : Int32) (σ : St) {r : St}, k24 x1 x2 x3 x4 x5 σ = some r → frm [58, 59, 60, 61, 62, 63, 64] [] σ r) (x1 : Int32) (x2 : Int32) (x3 : Int32) (x4 : Int32) (x5 : Int32) (x7 : Int32) (y0 : Int32) (y1 : Int32) (y2 : Int32) (σ : St) {r : St} (h : f_X10_work_163 k24 x1 x2 x3 x4 x5 x7 y0 y1 y2 σ = some r) : frm [58, 59, 60, 61, 62, 63, 64] [] σ r := by
  unfold f_X10_work_163 at h
  obtain ⟨-, h⟩ := gd_some h
  rcases ite_sp h with ⟨-, h⟩ | ⟨-, h⟩
  · exact frm.tr (frm_sI (frm.rf _) (by simp)) (fr_X10_work_187 _ hk24 _ _ _ _ _ _ _ _ _ h)
  · exact frm.tr (frm_sI (frm.rf _) (by simp)) (fr_X10_work_187 _ hk24 _ _ _ _ _ _ _ _ _ h)
theorem fr_X10_work_145 (k24 : Int32 → Int32 → Int32 → Int32 → Int32 → St → Option (St)) (hk24 : ∀ (x1 : Int32) (x2 : Int32) (x3 : Int32) (x4 : Int32) (x5 : Int32) (σ : St) {r : St}, k24 x1 x2 x3 x4 x5 σ = some r → frm [58, 59, 60, 61, 62, 63, 64] [] σ r) (x1 : Int32) (x2 : Int32) (x3 : Int32) (x4 : Int32) (x5 : Int32) (x6 : Int32) (x7 : Int32) (y0 : Int32) (y1 : Int32) (σ : St) {r : St} (h : f_X10_work_145 k24 x1 x2 x3 x4 x5 x6 x7 y0 y1 σ = some r) : frm [58, 59, 60, 61, 62, 63, 64] [] σ r := by
  unfold f_X10_work_145 at h
  obtain ⟨-, h⟩ := gd_some h
  obtain ⟨-, h⟩ := gd_some h
  rcases ite_sp h with ⟨-, h⟩ | ⟨-, h⟩
  · exact frm.tr (frm_sI (frm.rf _) (by simp)) (fr_X10_work_163 _ hk24 _ _ _ _ _ _ _ _ _ _ h)
  · exact frm.tr (frm_sI (frm.rf _) (by simp)) (fr_X10_work_163 _ hk24 _ _ _ _ _ _ _ _ _ _ h)
theorem fr_X10_work_140 (k24 : Int32 → Int32 → Int32 → Int32 → Int32 → St → Option (St)) (hk24 : ∀ (x1 : Int32) (x2 : Int32) (x3 : Int32) (x4 : Int32) (x5 : Int32) (σ : St) {r : St}, k24 x1 x2 x3 x4 x5 σ = some r → frm [58, 59, 60, 61, 62, 63, 64] [] σ r) (x1 : Int32) (x2 : Int32) (x3 : Int32) (x4 : Int32) (x5 : Int32) (x6 : Int32) (x7 : Int32) (y0 : Int32) (σ : St) {r : St} (h : f_X10_work_140 k24 x1 x2 x3 x4 x5 x6 x7 y0 σ = some r) : frm [58, 59, 60, 61, 62, 63, 64] [] σ r := by
  unfold f_X10_work_140 at h
  exact fr_X10_work_145 _ hk24 _ _ _ _ _ _ _ _ _ _ h
theorem fr_X10_work_121 (k24 : Int32 → Int32 → Int32 → Int32 → Int32 → St → Option (St)) (hk24 : ∀ (x1 : Int32) (x2 : Int32) (x3 : Int32) (x4 : Int32) (x5 : Int32) (σ : St) {r : St}, k24 x1 x2 x3 x4 x5 σ = some r → frm [58, 59, 60, 61, 62, 63, 64] [] σ r) (x1 : Int32) (x2 : Int32) (x3 : Int32) (x4 : Int32) (x5 : Int32) (x6 : Int32) (x7 : Int32) (σ : St) {r : St} (h : f_X10_work_121 k24 x1 x2 x3 x4 x5 x6 x7 σ = some r) : frm [58, 59, 60, 61, 62, 63, 64] [] σ r := by
  unfold f_X10_work_121 at h
  obtain ⟨-, h⟩ := gd_some h
  rcases ite_sp h with ⟨-, h⟩ | ⟨-, h⟩
  · rcases ite_sp h with ⟨-, h⟩ | ⟨-, h⟩
    · exact fr_X10_work_145 _ hk24 _ _ _ _ _ _ _ _ _ _ h
    · exact fr_X10_work_140 _ hk24 _ _ _ _ _ _ _ _ _ h
  · exact fr_X10_work_140 _ hk24 _ _ _ _ _ _ _ _ _ h
theorem fr_X10_work_118 (k24 : Int32 → Int32 → Int32 → Int32 → Int32 → St → Option (St)) (hk24 : ∀ (x1 : Int32) (x2 : Int32) (x3 : Int32) (x4 : Int32) (x5 : Int32) (σ : St) {r : St}, k24 x1 x2 x3 x4 x5 σ = some r → frm [58, 59, 60, 61, 62, 63, 64] [] σ r) (x1 : Int32) (x2 : Int32) (x3 : Int32) (x4 : Int32) (x5 : Int32) (x6 : Int32) (y0 : Int32) (y1 : Int32) (σ : St) {r : St} (h : f_X10_work_118 k24 x1 x2 x3 x4 x5 x6 y0 y1 σ = some r) : frm [58, 59, 60, 61, 62, 63, 64] [] σ r := by
  unfold f_X10_work_118 at h
  exact fr_X10_work_121 _ hk24 _ _ _ _ _ _ _ _ h
theorem fr_X10_work_90 (k24 : Int32 → Int32 → Int32 → Int32 → Int32 → St → Option (St)) (hk24 : ∀ (x1 : Int32) (x2 : Int32) (x3 : Int32) (x4 : Int32) (x5 : Int32) (σ : St) {r : St}, k24 x1 x2 x3 x4 x5 σ = some r → frm [58, 59, 60, 61, 62, 63, 64] [] σ r) (x1 : Int32) (x2 : Int32) (x3 : Int32) (x4 : Int32) (x6 : Int32) (y0 : Int32) (σ : St) {r : St} (h : f_X10_work_90 k24 x1 x2 x3 x4 x6 y0 σ = some r) : frm [58, 59, 60, 61, 62, 63, 64] [] σ r := by
  unfold f_X10_work_90 at h
  rcases ite_sp h with ⟨-, h⟩ | ⟨-, h⟩
  · exact fr_X10_work_264 _ hk24 _ _ _ _ _ _ h
  · obtain ⟨-, h⟩ := gd_some h
    rcases ite_sp h with ⟨-, h⟩ | ⟨-, h⟩
    · exact fr_X10_work_118 _ hk24 _ _ _ _ _ _ _ _ _ h
    · obtain ⟨p2, hp2, h⟩ := bind_sp h
      refine frm.tr (frm.rf _) (frm.tr (frm.mo (fr_X10_digitOf hp2) (by decide) (by decide)) ?_)
      exact fr_X10_work_118 _ hk24 _ _ _ _ _ _ _ _ _ h
theorem fr_X10_work_85 (k24 : Int32 → Int32 → Int32 → Int32 → Int32 → St → Option (St)) (hk24 : ∀ (x1 : Int32) (x2 : Int32) (x3 : Int32) (x4 : Int32) (x5 : Int32) (σ : St) {r : St}, k24 x1 x2 x3 x4 x5 σ = some r → frm [58, 59, 60, 61, 62, 63, 64] [] σ r) (x1 : Int32) (x2 : Int32) (x3 : Int32) (x4 : Int32) (x6 : Int32) (σ : St) {r : St} (h : f_X10_work_85 k24 x1 x2 x3 x4 x6 σ = some r) : frm [58, 59, 60, 61, 62, 63, 64] [] σ r := by
  unfold f_X10_work_85 at h
  exact fr_X10_work_90 _ hk24 _ _ _ _ _ _ _ h
theorem fr_X10_work_69 (k24 : Int32 → Int32 → Int32 → Int32 → Int32 → St → Option (St)) (hk24 : ∀ (x1 : Int32) (x2 : Int32) (x3 : Int32) (x4 : Int32) (x5 : Int32) (σ : St) {r : St}, k24 x1 x2 x3 x4 x5 σ = some r → frm [58, 59, 60, 61, 62, 63, 64] [] σ r) (x1 : Int32) (x2 : Int32) (x3 : Int32) (x4 : Int32) (y0 : Int32) (σ : St) {r : St} (h : f_X10_work_69 k24 x1 x2 x3 x4 y0 σ = some r) : frm [58, 59, 60, 61, 62, 63, 64] [] σ r := by
  unfold f_X10_work_69 at h
  rcases ite_sp h with ⟨-, h⟩ | ⟨-, h⟩
  · obtain ⟨-, h⟩ := gd_some h
    rcases ite_sp h with ⟨-, h⟩ | ⟨-, h⟩
    · exact fr_X10_work_90 _ hk24 _ _ _ _ _ _ _ h
    · exact fr_X10_work_85 _ hk24 _ _ _ _ _ _ h
  · exact fr_X10_work_85 _ hk24 _ _ _ _ _ _ h
theorem fr_X10_work_68 (k24 : Int32 → Int32 → Int32 → Int32 → Int32 → St → Option (St)) (hk24 : ∀ (x1 : Int32) (x2 : Int32) (x3 : Int32) (x4 : Int32) (x5 : Int32) (σ : St) {r : St}, k24 x1 x2 x3 x4 x5 σ = some r → frm [58, 59, 60, 61, 62, 63, 64] [] σ r) (x1 : Int32) (x2 : Int32) (x3 : Int32) (x4 : Int32) (σ : St) {r : St} (h : f_X10_work_68 k24 x1 x2 x3 x4 σ = some r) : frm [58, 59, 60, 61, 62, 63, 64] [] σ r := by
  unfold f_X10_work_68 at h
  exact fr_X10_work_69 _ hk24 _ _ _ _ _ _ h
theorem fr_X10_work_24 : ∀ (n : Nat) (x1 : Int32) (x2 : Int32) (x3 : Int32) (x4 : Int32) (x5 : Int32) (σ : St) {r : St}, f_X10_work_24 n x1 x2 x3 x4 x5 σ = some r → frm [58, 59, 60, 61, 62, 63, 64] [] σ r := by
  intro n
  induction n with
  | zero =>
    intro x1 x2 x3 x4 x5 σ r h
    cases h
  | succ n ih =>
    intro x1 x2 x3 x4 x5 σ r h
    simp only [f_X10_work_24] at h
    rcases ite_sp h with ⟨-, h⟩ | ⟨-, h⟩
    · exact fr_X10_work_267 _ h
    · obtain ⟨-, h⟩ := gd_some h
      rcases ite_sp h with ⟨-, h⟩ | ⟨-, h⟩
      · obtain ⟨-, h⟩ := gd_some h
        rcases ite_sp h with ⟨-, h⟩ | ⟨-, h⟩
        · rcases ite_sp h with ⟨-, h⟩ | ⟨-, h⟩
          · exact fr_X10_work_68 _ ih _ _ _ _ _ h
          · rcases ite_sp h with ⟨-, h⟩ | ⟨-, h⟩
            · exact fr_X10_work_68 _ ih _ _ _ _ _ h
            · exact fr_X10_work_69 _ ih _ _ _ _ _ _ h
        · exact fr_X10_work_68 _ ih _ _ _ _ _ h
      · exact fr_X10_work_267 _ h
theorem fr_X10_work_21 (x1 : Int32) (x2 : Int32) (x3 : Int32) (x4 : Int32) (σ : St) {r : St} (h : f_X10_work_21 x1 x2 x3 x4 σ = some r) : frm [58, 59, 60, 61, 62, 63, 64] [] σ r := by
  unfold f_X10_work_21 at h
  exact fr_X10_work_24 FU _ _ _ _ _ _ h
theorem fr_X10_work {x1 : Int32} {x2 : Int32} {x3 : Int32} {x4 : Int32} {σ : St} {r : St} (h : f_X10_work x1 x2 x3 x4 σ = some r) : frm [58, 59, 60, 61, 62, 63, 64] [] σ r := by
  unfold f_X10_work at h
  obtain ⟨-, h⟩ := gd_some h
  rcases ite_sp h with ⟨-, h⟩ | ⟨-, h⟩
  · obtain ⟨-, h⟩ := gd_some h
    obtain ⟨p3, hp3, h⟩ := bind_sp h
    refine frm.tr (frm.rf _) (frm.tr (frm.mo (fr_X10_ends hp3) (by decide) (by decide)) ?_)
    exact fr_X10_work_21 _ _ _ _ _ h
  · exact fr_X10_work_21 _ _ _ _ _ h
theorem fr_X10_areAtRest_62 : ∀ (n : Nat) (x2 : Int32) (x3 : Int32) (σ : St) {r : Int32 × St}, f_X10_areAtRest_62 n x2 x3 σ = some r → frm [] [] σ r.2 := by
  intro n
  induction n with
  | zero =>
    intro x2 x3 σ r h
    cases h
  | succ n ih =>
    intro x2 x3 σ r h
    simp only [f_X10_areAtRest_62] at h
    rcases ite_sp h with ⟨-, h⟩ | ⟨-, h⟩
    · cases h
      exact (frm.rf _)
    · obtain ⟨-, h⟩ := gd_some h
      rcases ite_sp h with ⟨-, h⟩ | ⟨-, h⟩
      · exact ih _ _ _ h
      · cases h
        exact (frm.rf _)
theorem fr_X10_areAtRest_52 (σ : St) {r : Int32 × St} (h : f_X10_areAtRest_52 σ = some r) : frm [] [] σ r.2 := by
  unfold f_X10_areAtRest_52 at h
  cases h
  exact (frm.rf _)
theorem fr_X10_areAtRest_54 (k2 : Int32 → Int32 → Int32 → St → Option (Int32 × St)) (hk2 : ∀ (x1 : Int32) (x2 : Int32) (x3 : Int32) (σ : St) {r : Int32 × St}, k2 x1 x2 x3 σ = some r → frm [] [] σ r.2) (x1 : Int32) (x2 : Int32) (x3 : Int32) (σ : St) {r : Int32 × St} (h : f_X10_areAtRest_54 k2 x1 x2 x3 σ = some r) : frm [] [] σ r.2 := by
  unfold f_X10_areAtRest_54 at h
  exact hk2 _ _ _ _ h
theorem fr_X10_areAtRest_2 : ∀ (n : Nat) (x1 : Int32) (x2 : Int32) (x3 : Int32) (σ : St) {r : Int32 × St}, f_X10_areAtRest_2 n x1 x2 x3 σ = some r → frm [] [] σ r.2 := by
  intro n
  induction n with
  | zero =>
    intro x1 x2 x3 σ r h
    cases h
  | succ n ih =>
    intro x1 x2 x3 σ r h
    simp only [f_X10_areAtRest_2] at h
    rcases ite_sp h with ⟨-, h⟩ | ⟨-, h⟩
    · exact fr_X10_areAtRest_62 FU _ _ _ h
    · obtain ⟨-, h⟩ := gd_some h
      rcases ite_sp h with ⟨-, h⟩ | ⟨-, h⟩
      · obtain ⟨-, h⟩ := gd_some h
        rcases ite_sp h with ⟨-, h⟩ | ⟨-, h⟩
        · exact fr_X10_areAtRest_52 _ h
        · obtain ⟨-, h⟩ := gd_some h
          rcases ite_sp h with ⟨-, h⟩ | ⟨-, h⟩
          · exact fr_X10_areAtRest_52 _ h
          · rcases ite_sp h with ⟨-, h⟩ | ⟨-, h⟩
            · exact fr_X10_areAtRest_54 _ ih _ _ _ _ h
            · obtain ⟨-, h⟩ := gd_some h
              rcases ite_sp h with ⟨-, h⟩ | ⟨-, h⟩
              · exact fr_X10_areAtRest_52 _ h
              · exact fr_X10_areAtRest_54 _ ih _ _ _ _ h
      · exact fr_X10_areAtRest_52 _ h
theorem fr_X10_areAtRest {x1 : Int32} {x2 : Int32} {σ : St} {r : Int32 × St} (h : f_X10_areAtRest x1 x2 σ = some r) : frm [] [] σ r.2 := by
  unfold f_X10_areAtRest at h
  exact fr_X10_areAtRest_2 FU _ _ _ _ h
theorem fr_X10_relayOf_306 (k103 : Int32 → Int32 → Int32 → Int32 → Int32 → Int32 → St → Option (Int32 × St)) (k209 : Int32 → Int32 → Int32 → Int32 → Int32 → Int32 → St → Option (Int32 × St)) (k241 : Int32 → Int32 → Int32 → Int32 → Int32 → Int32 → Int32 → Int32 → St → Option (Int32 × St)) (hk103 : ∀ (x1 : Int32) (x2 : Int32) (x3 : Int32) (x4 : Int32) (x5 : Int32) (x6 : Int32) (σ : St) {r : Int32 × St}, k103 x1 x2 x3 x4 x5 x6 σ = some r → frm [58, 59, 60, 61, 62, 63, 64, 65, 66] [] σ r.2) (hk209 : ∀ (x1 : Int32) (x2 : Int32) (x3 : Int32) (x4 : Int32) (x5 : Int32) (x7 : Int32) (σ : St) {r : Int32 × St}, k209 x1 x2 x3 x4 x5 x7 σ = some r → frm [58, 59, 60, 61, 62, 63, 64, 65, 66] [] σ r.2) (hk241 : ∀ (x1 : Int32) (x2 : Int32) (x3 : Int32) (x4 : Int32) (x5 : Int32) (x7 : Int32) (x8 : Int32) (x9 : Int32) (σ : St) {r : Int32 × St}, k241 x1 x2 x3 x4 x5 x7 x8 x9 σ = some r → frm [58, 59, 60, 61, 62, 63, 64, 65, 66] [] σ r.2) (x1 : Int32) (x2 : Int32) (x3 : Int32) (x4 : Int32) (x5 : Int32) (x7 : Int32) (x8 : Int32) (x9 : Int32) (σ : St) {r : Int32 × St} (h : f_X10_relayOf_306 k103 k209 k241 x1 x2 x3 x4 x5 x7 x8 x9 σ = some r) : frm [58, 59, 60, 61, 62, 63, 64, 65, 66] [] σ r.2 := by
  unfold f_X10_relayOf_306 at h
  exact hk241 _ _ _ _ _ _ _ _ _ h
theorem fr_X10_relayOf_297 (k103 : Int32 → Int32 → Int32 → Int32 → Int32 → Int32 → St → Option (Int32 × St)) (k209 : Int32 → Int32 → Int32 → Int32 → Int32 → Int32 → St → Option (Int32 × St)) (k241 : Int32 → Int32 → Int32 → Int32 → Int32 → Int32 → Int32 → Int32 → St → Option (Int32 × St)) (hk103 : ∀ (x1 : Int32) (x2 : Int32) (x3 : Int32) (x4 : Int32) (x5 : Int32) (x6 : Int32) (σ : St) {r : Int32 × St}, k103 x1 x2 x3 x4 x5 x6 σ = some r → frm [58, 59, 60, 61, 62, 63, 64, 65, 66] [] σ r.2) (hk209 : ∀ (x1 : Int32) (x2 : Int32) (x3 : Int32) (x4 : Int32) (x5 : Int32) (x7 : Int32) (σ : St) {r : Int32 × St}, k209 x1 x2 x3 x4 x5 x7 σ = some r → frm [58, 59, 60, 61, 62, 63, 64, 65, 66] [] σ r.2) (hk241 : ∀ (x1 : Int32) (x2 : Int32) (x3 : Int32) (x4 : Int32) (x5 : Int32) (x7 : Int32) (x8 : Int32) (x9 : Int32) (σ : St) {r : Int32 × St}, k241 x1 x2 x3 x4 x5 x7 x8 x9 σ = some r → frm [58, 59, 60, 61, 62, 63, 64, 65, 66] [] σ r.2) (x1 : Int32) (x2 : Int32) (x3 : Int32) (x4 : Int32) (x5 : Int32) (x7 : Int32) (x8 : Int32) (x9 : Int32) (σ : St) {r : Int32 × St} (h : f_X10_relayOf_297 k103 k209 k241 x1 x2 x3 x4 x5 x7 x8 x9 σ = some r) : frm [58, 59, 60, 61, 62, 63, 64, 65, 66] [] σ r.2 := by
  unfold f_X10_relayOf_297 at h
  obtain ⟨-, h⟩ := gd_some h
  exact frm.tr (frm_sI (frm.rf _) (by simp)) (fr_X10_relayOf_306 _ _ _ hk103 hk209 hk241 _ _ _ _ _ _ _ _ _ h)
theorem fr_X10_relayOf_241 (k103 : Int32 → Int32 → Int32 → Int32 → Int32 → Int32 → St → Option (Int32 × St)) (k209 : Int32 → Int32 → Int32 → Int32 → Int32 → Int32 → St → Option (Int32 × St)) (hk103 : ∀ (x1 : Int32) (x2 : Int32) (x3 : Int32) (x4 : Int32) (x5 : Int32) (x6 : Int32) (σ : St) {r : Int32 × St}, k103 x1 x2 x3 x4 x5 x6 σ = some r → frm [58, 59, 60, 61, 62, 63, 64, 65, 66] [] σ r.2) (hk209 : ∀ (x1 : Int32) (x2 : Int32) (x3 : Int32) (x4 : Int32) (x5 : Int32) (x7 : Int32) (σ : St) {r : Int32 × St}, k209 x1 x2 x3 x4 x5 x7 σ = some r → frm [58, 59, 60, 61, 62, 63, 64, 65, 66] [] σ r.2) : ∀ (n : Nat) (x1 : Int32) (x2 : Int32) (x3 : Int32) (x4 : Int32) (x5 : Int32) (x7 : Int32) (x8 : Int32) (x9 : Int32) (σ : St) {r : Int32 × St}, f_X10_relayOf_241 k103 k209 n x1 x2 x3 x4 x5 x7 x8 x9 σ = some r → frm [58, 59, 60, 61, 62, 63, 64, 65, 66] [] σ r.2 := by
  intro n
  induction n with
  | zero =>
    intro x1 x2 x3 x4 x5 x7 x8 x9 σ r h
    cases h
  | succ n ih =>
    intro x1 x2 x3 x4 x5 x7 x8 x9 σ r h
    simp only [f_X10_relayOf_241] at h
    rcases ite_sp h with ⟨-, h⟩ | ⟨-, h⟩
    · exact hk209 _ _ _ _ _ _ _ h
    · obtain ⟨-, h⟩ := gd_some h
      rcases ite_sp h with ⟨-, h⟩ | ⟨-, h⟩
      · exact fr_X10_relayOf_306 _ _ _ hk103 hk209 ih _ _ _ _ _ _ _ _ _ h
      · obtain ⟨-, h⟩ := gd_some h
        rcases ite_sp h with ⟨-, h⟩ | ⟨-, h⟩
        · obtain ⟨-, h⟩ := gd_some h
          obtain ⟨-, h⟩ := gd_some h
          obtain ⟨-, h⟩ := gd_some h
          exact frm.tr (frm_sI (frm_sI (frm.rf _) (by simp)) (by simp)) (fr_X10_relayOf_297 _ _ _ hk103 hk209 ih _ _ _ _ _ _ _ _ _ h)
        · exact fr_X10_relayOf_306 _ _ _ hk103 hk209 ih _ _ _ _ _ _ _ _ _ h
theorem fr_X10_relayOf_236 (k103 : Int32 → Int32 → Int32 → Int32 → Int32 → Int32 → St → Option (Int32 × St)) (k209 : Int32 → Int32 → Int32 → Int32 → Int32 → Int32 → St → Option (Int32 × St)) (hk103 : ∀ (x1 : Int32) (x2 : Int32) (x3 : Int32) (x4 : Int32) (x5 : Int32) (x6 : Int32) (σ : St) {r : Int32 × St}, k103 x1 x2 x3 x4 x5 x6 σ = some r → frm [58, 59, 60, 61, 62, 63, 64, 65, 66] [] σ r.2) (hk209 : ∀ (x1 : Int32) (x2 : Int32) (x3 : Int32) (x4 : Int32) (x5 : Int32) (x7 : Int32) (σ : St) {r : Int32 × St}, k209 x1 x2 x3 x4 x5 x7 σ = some r → frm [58, 59, 60, 61, 62, 63, 64, 65, 66] [] σ r.2) (x1 : Int32) (x2 : Int32) (x3 : Int32) (x4 : Int32) (x5 : Int32) (x7 : Int32) (y0 : Int32) (σ : St) {r : Int32 × St} (h : f_X10_relayOf_236 k103 k209 x1 x2 x3 x4 x5 x7 y0 σ = some r) : frm [58, 59, 60, 61, 62, 63, 64, 65, 66] [] σ r.2 := by
  unfold f_X10_relayOf_236 at h
  exact fr_X10_relayOf_241 _ _ hk103 hk209 FU _ _ _ _ _ _ _ _ _ h
theorem fr_X10_relayOf_209 (k103 : Int32 → Int32 → Int32 → Int32 → Int32 → Int32 → St → Option (Int32 × St)) (hk103 : ∀ (x1 : Int32) (x2 : Int32) (x3 : Int32) (x4 : Int32) (x5 : Int32) (x6 : Int32) (σ : St) {r : Int32 × St}, k103 x1 x2 x3 x4 x5 x6 σ = some r → frm [58, 59, 60, 61, 62, 63, 64, 65, 66] [] σ r.2) : ∀ (n : Nat) (x1 : Int32) (x2 : Int32) (x3 : Int32) (x4 : Int32) (x5 : Int32) (x7 : Int32) (σ : St) {r : Int32 × St}, f_X10_relayOf_209 k103 n x1 x2 x3 x4 x5 x7 σ = some r → frm [58, 59, 60, 61, 62, 63, 64, 65, 66] [] σ r.2 := by
  intro n
  induction n with
  | zero =>
    intro x1 x2 x3 x4 x5 x7 σ r h
    cases h
  | succ n ih =>
    intro x1 x2 x3 x4 x5 x7 σ r h
    simp only [f_X10_relayOf_209] at h
    rcases ite_sp h with ⟨-, h⟩ | ⟨-, h⟩
    · obtain ⟨p2, hp2, h⟩ := bind_sp h
      refine frm.tr (frm.rf _) (frm.tr (frm.mo (fr_X10_areAtRest hp2) (by decide) (by decide)) ?_)
      exact hk103 _ _ _ _ _ _ _ h
    · rcases ite_sp h with ⟨-, h⟩ | ⟨-, h⟩
      · exact fr_X10_relayOf_236 _ _ hk103 ih _ _ _ _ _ _ _ _ h
      · exact fr_X10_relayOf_236 _ _ hk103 ih _ _ _ _ _ _ _ _ h
theorem fr_X10_relayOf_180 (k103 : Int32 → Int32 → Int32 → Int32 → Int32 → Int32 → St → Option (Int32 × St)) (hk103 : ∀ (x1 : Int32) (x2 : Int32) (x3 : Int32) (x4 : Int32) (x5 : Int32) (x6 : Int32) (σ : St) {r : Int32 × St}, k103 x1 x2 x3 x4 x5 x6 σ = some r → frm [58, 59, 60, 61, 62, 63, 64, 65, 66] [] σ r.2) : ∀ (n : Nat) (x1 : Int32) (x2 : Int32) (x3 : Int32) (x4 : Int32) (x5 : Int32) (x7 : Int32) (σ : St) {r : Int32 × St}, f_X10_relayOf_180 k103 n x1 x2 x3 x4 x5 x7 σ = some r → frm [58, 59, 60, 61, 62, 63, 64, 65, 66] [] σ r.2 := by
  intro n
  induction n with
  | zero =>
    intro x1 x2 x3 x4 x5 x7 σ r h
    cases h
  | succ n ih =>
    intro x1 x2 x3 x4 x5 x7 σ r h
    simp only [f_X10_relayOf_180] at h
    rcases ite_sp h with ⟨-, h⟩ | ⟨-, h⟩
    · exact fr_X10_relayOf_209 _ hk103 FU _ _ _ _ _ _ _ h
    · obtain ⟨p3, hp3, h⟩ := bind_sp h
      refine frm.tr (frm.rf _) (frm.tr (frm.mo (fr_X10_work hp3) (by decide) (by decide)) ?_)
      exact ih _ _ _ _ _ _ _ h
theorem fr_X10_relayOf_171 (k103 : Int32 → Int32 → Int32 → Int32 → Int32 → Int32 → St → Option (Int32 × St)) (k111 : Int32 → Int32 → Int32 → Int32 → Int32 → Int32 → St → Option (Int32 × St)) (hk103 : ∀ (x1 : Int32) (x2 : Int32) (x3 : Int32) (x4 : Int32) (x5 : Int32) (x6 : Int32) (σ : St) {r : Int32 × St}, k103 x1 x2 x3 x4 x5 x6 σ = some r → frm [58, 59, 60, 61, 62, 63, 64, 65, 66] [] σ r.2) (hk111 : ∀ (x1 : Int32) (x2 : Int32) (x3 : Int32) (x4 : Int32) (x5 : Int32) (x7 : Int32) (σ : St) {r : Int32 × St}, k111 x1 x2 x3 x4 x5 x7 σ = some r → frm [58, 59, 60, 61, 62, 63, 64, 65, 66] [] σ r.2) (x1 : Int32) (x2 : Int32) (x3 : Int32) (x4 : Int32) (x5 : Int32) (x7 : Int32) (σ : St) {r : Int32 × St} (h : f_X10_relayOf_171 k103 k111 x1 x2 x3 x4 x5 x7 σ = some r) : frm [58, 59, 60, 61, 62, 63, 64, 65, 66] [] σ r.2 := by
  unfold f_X10_relayOf_171 at h
  exact hk111 _ _ _ _ _ _ _ h
theorem fr_X10_relayOf_111 (k103 : Int32 → Int32 → Int32 → Int32 → Int32 → Int32 → St → Option (Int32 × St)) (hk103 : ∀ (x1 : Int32) (x2 : Int32) (x3 : Int32) (x4 : Int32) (x5 : Int32) (x6 : Int32) (σ : St) {r : Int32 × St}, k103 x1 x2 x3 x4 x5 x6 σ = some r → frm [58, 59, 60, 61, 62, 63, 64, 65, 66] [] σ r.2) : ∀ (n : Nat) (x1 : Int32) (x2 : Int32) (x3 : Int32) (x4 : Int32) (x5 : Int32) (x7 : Int32) (σ : St) {r : Int32 × St}, f_X10_relayOf_111 k103 n x1 x2 x3 x4 x5 x7 σ = some r → frm [58, 59, 60, 61, 62, 63, 64, 65, 66] [] σ r.2 := by
  intro n
  induction n with
  | zero =>
    intro x1 x2 x3 x4 x5 x7 σ r h
    cases h
  | succ n ih =>
    intro x1 x2 x3 x4 x5 x7 σ r h
    simp only [f_X10_relayOf_111] at h
    rcases ite_sp h with ⟨-, h⟩ | ⟨-, h⟩
    · exact fr_X10_relayOf_180 _ hk103 FU _ _ _ _ _ _ _ h
    · obtain ⟨-, h⟩ := gd_some h
      rcases ite_sp h with ⟨-, h⟩ | ⟨-, h⟩
      · obtain ⟨-, h⟩ := gd_some h
        obtain ⟨-, h⟩ := gd_some h
        rcases ite_sp h with ⟨-, h⟩ | ⟨-, h⟩
        · exact frm.tr (frm_sI (frm.rf _) (by simp)) (fr_X10_relayOf_171 _ _ hk103 ih _ _ _ _ _ _ _ h)
        · obtain ⟨-, h⟩ := gd_some h
          obtain ⟨-, h⟩ := gd_some h
          obtain ⟨-, h⟩ := gd_some h
          exact frm.tr (frm_sI (frm_sI (frm.rf _) (by simp)) (by simp)) (fr_X10_relayOf_171 _ _ hk103 ih _ _ _ _ _ _ _ h)
      · exact fr_X10_relayOf_171 _ _ hk103 ih _ _ _ _ _ _ _ h
theorem fr_X10_relayOf_103 : ∀ (n : Nat) (x1 : Int32) (x2 : Int32) (x3 : Int32) (x4 : Int32) (x5 : Int32) (x6 : Int32) (σ : St) {r : Int32 × St}, f_X10_relayOf_103 n x1 x2 x3 x4 x5 x6 σ = some r → frm [58, 59, 60, 61, 62, 63, 64, 65, 66] [] σ r.2 := by
  intro n
  induction n with
  | zero =>
    intro x1 x2 x3 x4 x5 x6 σ r h
    cases h
  | succ n ih =>
    intro x1 x2 x3 x4 x5 x6 σ r h
    simp only [f_X10_relayOf_103] at h
    rcases ite_sp h with ⟨-, h⟩ | ⟨-, h⟩
    · exact fr_X10_relayOf_111 _ ih FU _ _ _ _ _ _ _ h
    · cases h
      exact (frm.rf _)
theorem fr_X10_relayOf_77 : ∀ (n : Nat) (x1 : Int32) (x2 : Int32) (x3 : Int32) (x4 : Int32) (x5 : Int32) (σ : St) {r : Int32 × St}, f_X10_relayOf_77 n x1 x2 x3 x4 x5 σ = some r → frm [58, 59, 60, 61, 62, 63, 64, 65, 66] [] σ r.2 := by
  intro n
  induction n with
  | zero =>
    intro x1 x2 x3 x4 x5 σ r h
    cases h
  | succ n ih =>
    intro x1 x2 x3 x4 x5 σ r h
    simp only [f_X10_relayOf_77] at h
    rcases ite_sp h with ⟨-, h⟩ | ⟨-, h⟩
    · exact fr_X10_relayOf_103 FU _ _ _ _ _ _ _ h
    · obtain ⟨-, h⟩ := gd_some h
      exact frm.tr (frm_sI (frm.rf _) (by simp)) (ih _ _ _ _ _ _ h)
theorem fr_X10_relayOf_68 (k11 : Int32 → Int32 → Int32 → Int32 → Int32 → St → Option (Int32 × St)) (hk11 : ∀ (x1 : Int32) (x2 : Int32) (x3 : Int32) (x4 : Int32) (x5 : Int32) (σ : St) {r : Int32 × St}, k11 x1 x2 x3 x4 x5 σ = some r → frm [58, 59, 60, 61, 62, 63, 64, 65, 66] [] σ r.2) (x1 : Int32) (x2 : Int32) (x3 : Int32) (x4 : Int32) (x5 : Int32) (σ : St) {r : Int32 × St} (h : f_X10_relayOf_68 k11 x1 x2 x3 x4 x5 σ = some r) : frm [58, 59, 60, 61, 62, 63, 64, 65, 66] [] σ r.2 := by
  unfold f_X10_relayOf_68 at h
  exact hk11 _ _ _ _ _ _ h
theorem fr_X10_relayOf_44 (k11 : Int32 → Int32 → Int32 → Int32 → Int32 → St → Option (Int32 × St)) (hk11 : ∀ (x1 : Int32) (x2 : Int32) (x3 : Int32) (x4 : Int32) (x5 : Int32) (σ : St) {r : Int32 × St}, k11 x1 x2 x3 x4 x5 σ = some r → frm [58, 59, 60, 61, 62, 63, 64, 65, 66] [] σ r.2) (x1 : Int32) (x2 : Int32) (x3 : Int32) (x4 : Int32) (x5 : Int32) (σ : St) {r : Int32 × St} (h : f_X10_relayOf_44 k11 x1 x2 x3 x4 x5 σ = some r) : frm [58, 59, 60, 61, 62, 63, 64, 65, 66] [] σ r.2 := by
  unfold f_X10_relayOf_44 at h
  obtain ⟨-, h⟩ := gd_some h
  obtain ⟨-, h⟩ := gd_some h
  obtain ⟨-, h⟩ := gd_some h
  exact frm.tr (frm_sI (frm_sI (frm.rf _) (by simp)) (by simp)) (fr_X10_relayOf_68 _ hk11 _ _ _ _ _ _ h)
theorem fr_X10_relayOf_11 : ∀ (n : Nat) (x1 : Int32) (x2 : Int32) (x3 : Int32) (x4 : Int32) (x5 : Int32) (σ : St) {r : Int32 × St}, f_X10_relayOf_11 n x1 x2 x3 x4 x5 σ = some r → frm [58, 59, 60, 61, 62, 63, 64, 65, 66] [] σ r.2 := by
  intro n
  induction n with
  | zero =>
    intro x1 x2 x3 x4 x5 σ r h
    cases h
  | succ n ih =>
    intro x1 x2 x3 x4 x5 σ r h
    simp only [f_X10_relayOf_11] at h
    rcases ite_sp h with ⟨-, h⟩ | ⟨-, h⟩
    · exact fr_X10_relayOf_77 FU _ _ _ _ _ _ h
    · obtain ⟨-, h⟩ := gd_some h
      obtain ⟨-, h⟩ := gd_some h
      obtain ⟨-, h⟩ := gd_some h
      exact frm.tr (frm_sI (frm_sI (frm_sI (frm.rf _) (by simp)) (by simp)) (by simp)) (fr_X10_relayOf_44 _ ih _ _ _ _ _ _ h)
theorem fr_X10_relayOf {x1 : Int32} {x2 : Int32} {x3 : Int32} {σ : St} {r : Int32 × St} (h : f_X10_relayOf x1 x2 x3 σ = some r) : frm [58, 59, 60, 61, 62, 63, 64, 65, 66] [] σ r.2 := by
  unfold f_X10_relayOf at h
  obtain ⟨p1, hp1, h⟩ := bind_sp h
  refine frm.tr (frm.rf _) (frm.tr (frm.mo (fr_X10_highest hp1) (by decide) (by decide)) ?_)
  exact fr_X10_relayOf_11 FU _ _ _ _ _ _ h
theorem fr_X10_relay_45 (y0 : Int32) (σ : St) {r : Int32 × St} (h : f_X10_relay_45 y0 σ = some r) : frm [58, 59, 60, 61, 62, 63, 64, 65, 66] [] σ r.2 := by
  unfold f_X10_relay_45 at h
  cases h
  exact (frm.rf _)
theorem fr_X10_relay_44 (σ : St) {r : Int32 × St} (h : f_X10_relay_44 σ = some r) : frm [58, 59, 60, 61, 62, 63, 64, 65, 66] [] σ r.2 := by
  unfold f_X10_relay_44 at h
  exact fr_X10_relay_45 _ _ h
theorem fr_X10_relay {x1 : Int32} {x2 : Int32} {x3 : Int32} {σ : St} {r : Int32 × St} (h : f_X10_relay x1 x2 x3 σ = some r) : frm [58, 59, 60, 61, 62, 63, 64, 65, 66] [] σ r.2 := by
  unfold f_X10_relay at h
  obtain ⟨p1, hp1, h⟩ := bind_sp h
  refine frm.tr (frm.rf _) (frm.tr (frm.mo (fr_X10_in hp1) (by decide) (by decide)) ?_)
  rcases ite_sp h with ⟨-, h⟩ | ⟨-, h⟩
  · exact fr_X10_relay_44 _ h
  · obtain ⟨p2, hp2, h⟩ := bind_sp h
    refine frm.tr (frm.rf _) (frm.tr (frm.mo (fr_X10_in hp2) (by decide) (by decide)) ?_)
    rcases ite_sp h with ⟨-, h⟩ | ⟨-, h⟩
    · exact fr_X10_relay_44 _ h
    · obtain ⟨p3, hp3, h⟩ := bind_sp h
      refine frm.tr (frm.rf _) (frm.tr (frm.mo (fr_X10_in hp3) (by decide) (by decide)) ?_)
      rcases ite_sp h with ⟨-, h⟩ | ⟨-, h⟩
      · exact fr_X10_relay_44 _ h
      · obtain ⟨p4, hp4, h⟩ := bind_sp h
        refine frm.tr (frm.rf _) (frm.tr (frm.mo (fr_X10_relayOf hp4) (by decide) (by decide)) ?_)
        exact fr_X10_relay_45 _ _ h
theorem fr_X10_ranked_50 (y0 : Int32) (σ : St) {r : Int32 × St} (h : f_X10_ranked_50 y0 σ = some r) : frm [58, 59, 60, 61, 62, 63, 64, 65, 66] [] σ r.2 := by
  unfold f_X10_ranked_50 at h
  cases h
  exact (frm.rf _)
theorem fr_X10_ranked_49 (σ : St) {r : Int32 × St} (h : f_X10_ranked_49 σ = some r) : frm [58, 59, 60, 61, 62, 63, 64, 65, 66] [] σ r.2 := by
  unfold f_X10_ranked_49 at h
  exact fr_X10_ranked_50 _ _ h
theorem fr_X10_ranked {x1 : Int32} {x2 : Int32} {σ : St} {r : Int32 × St} (h : f_X10_ranked x1 x2 σ = some r) : frm [58, 59, 60, 61, 62, 63, 64, 65, 66] [] σ r.2 := by
  unfold f_X10_ranked at h
  obtain ⟨p1, hp1, h⟩ := bind_sp h
  refine frm.tr (frm.rf _) (frm.tr (frm.mo (fr_X10_in hp1) (by decide) (by decide)) ?_)
  rcases ite_sp h with ⟨-, h⟩ | ⟨-, h⟩
  · exact fr_X10_ranked_49 _ h
  · obtain ⟨p2, hp2, h⟩ := bind_sp h
    refine frm.tr (frm.rf _) (frm.tr (frm.mo (fr_X10_in hp2) (by decide) (by decide)) ?_)
    rcases ite_sp h with ⟨-, h⟩ | ⟨-, h⟩
    · exact fr_X10_ranked_49 _ h
    · obtain ⟨p3, hp3, h⟩ := bind_sp h
      refine frm.tr (frm.rf _) (frm.tr (frm.mo (fr_X10_relayOf hp3) (by decide) (by decide)) ?_)
      obtain ⟨p4, hp4, h⟩ := bind_sp h
      refine frm.tr (frm.rf _) (frm.tr (frm.mo (fr_X10_relayOf hp4) (by decide) (by decide)) ?_)
      rcases ite_sp h with ⟨-, h⟩ | ⟨-, h⟩
      · exact fr_X10_ranked_50 _ _ h
      · exact fr_X10_ranked_50 _ _ h
theorem fr_X10_walksTwice_48 (k10 : Int64 → Int32 → Int32 → Int64 → Int32 → St → Option (Int32 × St)) (hk10 : ∀ (x0 : Int64) (x2 : Int32) (x3 : Int32) (x4 : Int64) (x6 : Int32) (σ : St) {r : Int32 × St}, k10 x0 x2 x3 x4 x6 σ = some r → frm [] [] σ r.2) (x0 : Int64) (x2 : Int32) (x3 : Int32) (x4 : Int64) (x6 : Int32) (σ : St) {r : Int32 × St} (h : f_X10_walksTwice_48 k10 x0 x2 x3 x4 x6 σ = some r) : frm [] [] σ r.2 := by
  unfold f_X10_walksTwice_48 at h
  exact hk10 _ _ _ _ _ _ h
theorem fr_X10_walksTwice_41 (k10 : Int64 → Int32 → Int32 → Int64 → Int32 → St → Option (Int32 × St)) (hk10 : ∀ (x0 : Int64) (x2 : Int32) (x3 : Int32) (x4 : Int64) (x6 : Int32) (σ : St) {r : Int32 × St}, k10 x0 x2 x3 x4 x6 σ = some r → frm [] [] σ r.2) (x0 : Int64) (x2 : Int32) (x3 : Int32) (x4 : Int64) (x6 : Int32) (x7 : Int64) (σ : St) {r : Int32 × St} (h : f_X10_walksTwice_41 k10 x0 x2 x3 x4 x6 x7 σ = some r) : frm [] [] σ r.2 := by
  unfold f_X10_walksTwice_41 at h
  exact fr_X10_walksTwice_48 _ hk10 _ _ _ _ _ _ h
theorem fr_X10_walksTwice_30 (k10 : Int64 → Int32 → Int32 → Int64 → Int32 → St → Option (Int32 × St)) (hk10 : ∀ (x0 : Int64) (x2 : Int32) (x3 : Int32) (x4 : Int64) (x6 : Int32) (σ : St) {r : Int32 × St}, k10 x0 x2 x3 x4 x6 σ = some r → frm [] [] σ r.2) (x0 : Int64) (x2 : Int32) (x3 : Int32) (x4 : Int64) (x6 : Int32) (x7 : Int64) (σ : St) {r : Int32 × St} (h : f_X10_walksTwice_30 k10 x0 x2 x3 x4 x6 x7 σ = some r) : frm [] [] σ r.2 := by
  unfold f_X10_walksTwice_30 at h
  obtain ⟨p3, hp3, h⟩ := bind_sp h
  refine frm.tr (frm.rf _) (frm.tr (frm.mo (fr_X10_walksOf hp3) (by decide) (by decide)) ?_)
  exact fr_X10_walksTwice_41 _ hk10 _ _ _ _ _ _ _ h
theorem fr_X10_walksTwice_10 : ∀ (n : Nat) (x0 : Int64) (x2 : Int32) (x3 : Int32) (x4 : Int64) (x6 : Int32) (σ : St) {r : Int32 × St}, f_X10_walksTwice_10 n x0 x2 x3 x4 x6 σ = some r → frm [] [] σ r.2 := by
  intro n
  induction n with
  | zero =>
    intro x0 x2 x3 x4 x6 σ r h
    cases h
  | succ n ih =>
    intro x0 x2 x3 x4 x6 σ r h
    simp only [f_X10_walksTwice_10] at h
    rcases ite_sp h with ⟨-, h⟩ | ⟨-, h⟩
    · cases h
      exact (frm.rf _)
    · obtain ⟨p1, hp1, h⟩ := bind_sp h
      refine frm.tr (frm.rf _) (frm.tr (frm.mo (fr_X10_digitOf hp1) (by decide) (by decide)) ?_)
      obtain ⟨p2, hp2, h⟩ := bind_sp h
      refine frm.tr (frm.rf _) (frm.tr (frm.mo (fr_X10_ten hp2) (by decide) (by decide)) ?_)
      exact fr_X10_walksTwice_30 _ ih _ _ _ _ _ _ _ h
theorem fr_X10_walksTwice {x0 : Int64} {x2 : Int32} {σ : St} {r : Int32 × St} (h : f_X10_walksTwice x0 x2 σ = some r) : frm [] [] σ r.2 := by
  unfold f_X10_walksTwice at h
  exact fr_X10_walksTwice_10 FU _ _ _ _ _ _ h
theorem fr_X10_relax_53 (y0 : Int32) (y1 : Int32) (σ : St) {r : St} (h : f_X10_relax_53 y0 y1 σ = some r) : frm [67] [] σ r := by
  unfold f_X10_relax_53 at h
  obtain ⟨-, h⟩ := gd_some h
  cases h
  exact (frm_sI (frm.rf _) (by simp))
theorem fr_X10_relax_42 (x4 : Int32) (y0 : Int32) (σ : St) {r : St} (h : f_X10_relax_42 x4 y0 σ = some r) : frm [67] [] σ r := by
  unfold f_X10_relax_42 at h
  exact fr_X10_relax_53 _ _ _ h
theorem fr_X10_relax_16 (x2 : Int32) (x4 : Int32) (σ : St) {r : St} (h : f_X10_relax_16 x2 x4 σ = some r) : frm [67] [] σ r := by
  unfold f_X10_relax_16 at h
  obtain ⟨-, h⟩ := gd_some h
  rcases ite_sp h with ⟨-, h⟩ | ⟨-, h⟩
  · exact fr_X10_relax_42 _ _ _ h
  · obtain ⟨-, h⟩ := gd_some h
    rcases ite_sp h with ⟨-, h⟩ | ⟨-, h⟩
    · obtain ⟨-, h⟩ := gd_some h
      exact fr_X10_relax_53 _ _ _ h
    · exact fr_X10_relax_42 _ _ _ h
theorem fr_X10_relax {x1 : Int32} {x2 : Int32} {x3 : Int32} {σ : St} {r : St} (h : f_X10_relax x1 x2 x3 σ = some r) : frm [67] [] σ r := by
  unfold f_X10_relax at h
  obtain ⟨-, h⟩ := gd_some h
  exact fr_X10_relax_16 _ _ _ h
theorem fr_X10_makeAll_206 (k39 : Int32 → St → Option (St)) (hk39 : ∀ (x1 : Int32) (σ : St) {r : St}, k39 x1 σ = some r → frm [67, 68] [] σ r) (x1 : Int32) (σ : St) {r : St} (h : f_X10_makeAll_206 k39 x1 σ = some r) : frm [67, 68] [] σ r := by
  unfold f_X10_makeAll_206 at h
  exact hk39 _ _ h
theorem fr_X10_makeAll_171 (k39 : Int32 → St → Option (St)) (k117 : Int32 → Int32 → Int32 → St → Option (St)) (k125 : Int32 → Int32 → Int32 → Int32 → St → Option (St)) (hk39 : ∀ (x1 : Int32) (σ : St) {r : St}, k39 x1 σ = some r → frm [67, 68] [] σ r) (hk117 : ∀ (x1 : Int32) (x2 : Int32) (x3 : Int32) (σ : St) {r : St}, k117 x1 x2 x3 σ = some r → frm [67, 68] [] σ r) (hk125 : ∀ (x1 : Int32) (x2 : Int32) (x3 : Int32) (x4 : Int32) (σ : St) {r : St}, k125 x1 x2 x3 x4 σ = some r → frm [67, 68] [] σ r) (x1 : Int32) (x2 : Int32) (x3 : Int32) (x4 : Int32) (σ : St) {r : St} (h : f_X10_makeAll_171 k39 k117 k125 x1 x2 x3 x4 σ = some r) : frm [67, 68] [] σ r := by
  unfold f_X10_makeAll_171 at h
  exact hk125 _ _ _ _ _ h
theorem fr_X10_makeAll_143 (k39 : Int32 → St → Option (St)) (k117 : Int32 → Int32 → Int32 → St → Option (St)) (k125 : Int32 → Int32 → Int32 → Int32 → St → Option (St)) (hk39 : ∀ (x1 : Int32) (σ : St) {r : St}, k39 x1 σ = some r → frm [67, 68] [] σ r) (hk117 : ∀ (x1 : Int32) (x2 : Int32) (x3 : Int32) (σ : St) {r : St}, k117 x1 x2 x3 σ = some r → frm [67, 68] [] σ r) (hk125 : ∀ (x1 : Int32) (x2 : Int32) (x3 : Int32) (x4 : Int32) (σ : St) {r : St}, k125 x1 x2 x3 x4 σ = some r → frm [67, 68] [] σ r) (x1 : Int32) (x2 : Int32) (x3 : Int32) (x4 : Int32) (x5 : Int32) (σ : St) {r : St} (h : f_X10_makeAll_143 k39 k117 k125 x1 x2 x3 x4 x5 σ = some r) : frm [67, 68] [] σ r := by
  unfold f_X10_makeAll_143 at h
  rcases ite_sp h with ⟨-, h⟩ | ⟨-, h⟩
  · exact fr_X10_makeAll_171 _ _ _ hk39 hk117 hk125 _ _ _ _ _ h
  · obtain ⟨p4, hp4, h⟩ := bind_sp h
    refine frm.tr (frm.rf _) (frm.tr (frm.mo (fr_X10_walksOf hp4) (by decide) (by decide)) ?_)
    obtain ⟨p5, hp5, h⟩ := bind_sp h
    refine frm.tr (frm.rf _) (frm.tr (frm.mo (fr_X10_relax hp5) (by decide) (by decide)) ?_)
    exact fr_X10_makeAll_171 _ _ _ hk39 hk117 hk125 _ _ _ _ _ h
theorem fr_X10_makeAll_125 (k39 : Int32 → St → Option (St)) (k117 : Int32 → Int32 → Int32 → St → Option (St)) (hk39 : ∀ (x1 : Int32) (σ : St) {r : St}, k39 x1 σ = some r → frm [67, 68] [] σ r) (hk117 : ∀ (x1 : Int32) (x2 : Int32) (x3 : Int32) (σ : St) {r : St}, k117 x1 x2 x3 σ = some r → frm [67, 68] [] σ r) : ∀ (n : Nat) (x1 : Int32) (x2 : Int32) (x3 : Int32) (x4 : Int32) (σ : St) {r : St}, f_X10_makeAll_125 k39 k117 n x1 x2 x3 x4 σ = some r → frm [67, 68] [] σ r := by
  intro n
  induction n with
  | zero =>
    intro x1 x2 x3 x4 σ r h
    cases h
  | succ n ih =>
    intro x1 x2 x3 x4 σ r h
    simp only [f_X10_makeAll_125] at h
    rcases ite_sp h with ⟨-, h⟩ | ⟨-, h⟩
    · exact hk117 _ _ _ _ h
    · obtain ⟨p3, hp3, h⟩ := bind_sp h
      refine frm.tr (frm.rf _) (frm.tr (frm.mo (fr_X10_ten hp3) (by decide) (by decide)) ?_)
      exact fr_X10_makeAll_143 _ _ _ hk39 hk117 ih _ _ _ _ _ _ h
theorem fr_X10_makeAll_117 (k39 : Int32 → St → Option (St)) (hk39 : ∀ (x1 : Int32) (σ : St) {r : St}, k39 x1 σ = some r → frm [67, 68] [] σ r) : ∀ (n : Nat) (x1 : Int32) (x2 : Int32) (x3 : Int32) (σ : St) {r : St}, f_X10_makeAll_117 k39 n x1 x2 x3 σ = some r → frm [67, 68] [] σ r := by
  intro n
  induction n with
  | zero =>
    intro x1 x2 x3 σ r h
    cases h
  | succ n ih =>
    intro x1 x2 x3 σ r h
    simp only [f_X10_makeAll_117] at h
    rcases ite_sp h with ⟨-, h⟩ | ⟨-, h⟩
    · rcases ite_sp h with ⟨-, h⟩ | ⟨-, h⟩
      · exact fr_X10_makeAll_206 _ hk39 _ _ h
      · obtain ⟨p1, hp1, h⟩ := bind_sp h
        refine frm.tr (frm.rf _) (frm.tr (frm.mo (fr_X10_walksTwice hp1) (by decide) (by decide)) ?_)
        obtain ⟨p2, hp2, h⟩ := bind_sp h
        refine frm.tr (frm.rf _) (frm.tr (frm.mo (fr_X10_relax hp2) (by decide) (by decide)) ?_)
        exact fr_X10_makeAll_206 _ hk39 _ _ h
    · exact fr_X10_makeAll_125 _ _ hk39 ih FU _ _ _ _ _ h
theorem fr_X10_makeAll_101 (k39 : Int32 → St → Option (St)) (k50 : Int32 → Int32 → Int32 → St → Option (St)) (hk39 : ∀ (x1 : Int32) (σ : St) {r : St}, k39 x1 σ = some r → frm [67, 68] [] σ r) (hk50 : ∀ (x1 : Int32) (x2 : Int32) (x3 : Int32) (σ : St) {r : St}, k50 x1 x2 x3 σ = some r → frm [67, 68] [] σ r) (x1 : Int32) (x3 : Int32) (y0 : Int32) (σ : St) {r : St} (h : f_X10_makeAll_101 k39 k50 x1 x3 y0 σ = some r) : frm [67, 68] [] σ r := by
  unfold f_X10_makeAll_101 at h
  exact hk50 _ _ _ _ h
theorem fr_X10_makeAll_100 (k39 : Int32 → St → Option (St)) (k50 : Int32 → Int32 → Int32 → St → Option (St)) (hk39 : ∀ (x1 : Int32) (σ : St) {r : St}, k39 x1 σ = some r → frm [67, 68] [] σ r) (hk50 : ∀ (x1 : Int32) (x2 : Int32) (x3 : Int32) (σ : St) {r : St}, k50 x1 x2 x3 σ = some r → frm [67, 68] [] σ r) (x1 : Int32) (x2 : Int32) (x3 : Int32) (σ : St) {r : St} (h : f_X10_makeAll_100 k39 k50 x1 x2 x3 σ = some r) : frm [67, 68] [] σ r := by
  unfold f_X10_makeAll_100 at h
  exact fr_X10_makeAll_101 _ _ hk39 hk50 _ _ _ _ h
theorem fr_X10_makeAll_96 (k39 : Int32 → St → Option (St)) (k50 : Int32 → Int32 → Int32 → St → Option (St)) (hk39 : ∀ (x1 : Int32) (σ : St) {r : St}, k39 x1 σ = some r → frm [67, 68] [] σ r) (hk50 : ∀ (x1 : Int32) (x2 : Int32) (x3 : Int32) (σ : St) {r : St}, k50 x1 x2 x3 σ = some r → frm [67, 68] [] σ r) (x1 : Int32) (x3 : Int32) (σ : St) {r : St} (h : f_X10_makeAll_96 k39 k50 x1 x3 σ = some r) : frm [67, 68] [] σ r := by
  unfold f_X10_makeAll_96 at h
  exact fr_X10_makeAll_101 _ _ hk39 hk50 _ _ _ _ h
theorem fr_X10_makeAll_50 (k39 : Int32 → St → Option (St)) (hk39 : ∀ (x1 : Int32) (σ : St) {r : St}, k39 x1 σ = some r → frm [67, 68] [] σ r) : ∀ (n : Nat) (x1 : Int32) (x2 : Int32) (x3 : Int32) (σ : St) {r : St}, f_X10_makeAll_50 k39 n x1 x2 x3 σ = some r → frm [67, 68] [] σ r := by
  intro n
  induction n with
  | zero =>
    intro x1 x2 x3 σ r h
    cases h
  | succ n ih =>
    intro x1 x2 x3 σ r h
    simp only [f_X10_makeAll_50] at h
    rcases ite_sp h with ⟨-, h⟩ | ⟨-, h⟩
    · obtain ⟨-, h⟩ := gd_some h
      exact frm.tr (frm_sI (frm.rf _) (by simp)) (fr_X10_makeAll_117 _ hk39 FU _ _ _ _ h)
    · obtain ⟨-, h⟩ := gd_some h
      rcases ite_sp h with ⟨-, h⟩ | ⟨-, h⟩
      · obtain ⟨-, h⟩ := gd_some h
        rcases ite_sp h with ⟨-, h⟩ | ⟨-, h⟩
        · exact fr_X10_makeAll_100 _ _ hk39 ih _ _ _ _ h
        · rcases ite_sp h with ⟨-, h⟩ | ⟨-, h⟩
          · exact fr_X10_makeAll_96 _ _ hk39 ih _ _ _ h
          · obtain ⟨-, h⟩ := gd_some h
            obtain ⟨-, h⟩ := gd_some h
            rcases ite_sp h with ⟨-, h⟩ | ⟨-, h⟩
            · exact fr_X10_makeAll_100 _ _ hk39 ih _ _ _ _ h
            · exact fr_X10_makeAll_96 _ _ hk39 ih _ _ _ h
      · exact fr_X10_makeAll_100 _ _ hk39 ih _ _ _ _ h
theorem fr_X10_makeAll_39 : ∀ (n : Nat) (x1 : Int32) (σ : St) {r : St}, f_X10_makeAll_39 n x1 σ = some r → frm [67, 68] [] σ r := by
  intro n
  induction n with
  | zero =>
    intro x1 σ r h
    cases h
  | succ n ih =>
    intro x1 σ r h
    simp only [f_X10_makeAll_39] at h
    rcases ite_sp h with ⟨-, h⟩ | ⟨-, h⟩
    · cases h
      exact (frm.rf _)
    · exact fr_X10_makeAll_50 _ ih FU _ _ _ _ h
theorem fr_X10_makeAll_23 (k2 : Int32 → St → Option (St)) (hk2 : ∀ (x1 : Int32) (σ : St) {r : St}, k2 x1 σ = some r → frm [67, 68] [] σ r) (x1 : Int32) (y0 : Int32) (y1 : Int32) (σ : St) {r : St} (h : f_X10_makeAll_23 k2 x1 y0 y1 σ = some r) : frm [67, 68] [] σ r := by
  unfold f_X10_makeAll_23 at h
  obtain ⟨-, h⟩ := gd_some h
  obtain ⟨-, h⟩ := gd_some h
  exact frm.tr (frm_sI (frm_sI (frm.rf _) (by simp)) (by simp)) (hk2 _ _ h)
theorem fr_X10_makeAll_2 : ∀ (n : Nat) (x1 : Int32) (σ : St) {r : St}, f_X10_makeAll_2 n x1 σ = some r → frm [67, 68] [] σ r := by
  intro n
  induction n with
  | zero =>
    intro x1 σ r h
    cases h
  | succ n ih =>
    intro x1 σ r h
    simp only [f_X10_makeAll_2] at h
    rcases ite_sp h with ⟨-, h⟩ | ⟨-, h⟩
    · exact fr_X10_makeAll_39 FU _ _ h
    · rcases ite_sp h with ⟨-, h⟩ | ⟨-, h⟩
      · exact fr_X10_makeAll_23 _ ih _ _ _ _ h
      · exact fr_X10_makeAll_23 _ ih _ _ _ _ h
theorem fr_X10_makeAll {σ : St} {r : St} (h : f_X10_makeAll σ = some r) : frm [67, 68] [] σ r := by
  unfold f_X10_makeAll at h
  exact fr_X10_makeAll_2 FU _ _ h
theorem fr_X10_make_22 (σ : St) {r : Int32 × St} (h : f_X10_make_22 σ = some r) : frm [67, 68] [] σ r.2 := by
  unfold f_X10_make_22 at h
  cases h
  exact (frm.rf _)
theorem fr_X10_make_55 (y0 : Int32) (σ : St) {r : Int32 × St} (h : f_X10_make_55 y0 σ = some r) : frm [67, 68] [] σ r.2 := by
  unfold f_X10_make_55 at h
  cases h
  exact (frm.rf _)
theorem fr_X10_make {x1 : Int32} {x2 : Int32} {σ : St} {r : Int32 × St} (h : f_X10_make x1 x2 σ = some r) : frm [67, 68] [] σ r.2 := by
  unfold f_X10_make at h
  obtain ⟨p1, hp1, h⟩ := bind_sp h
  refine frm.tr (frm.rf _) (frm.tr (frm.mo (fr_X10_in hp1) (by decide) (by decide)) ?_)
  rcases ite_sp h with ⟨-, h⟩ | ⟨-, h⟩
  · exact fr_X10_make_22 _ h
  · obtain ⟨p2, hp2, h⟩ := bind_sp h
    refine frm.tr (frm.rf _) (frm.tr (frm.mo (fr_X10_in hp2) (by decide) (by decide)) ?_)
    rcases ite_sp h with ⟨-, h⟩ | ⟨-, h⟩
    · exact fr_X10_make_22 _ h
    · obtain ⟨p3, hp3, h⟩ := bind_sp h
      refine frm.tr (frm.rf _) (frm.tr (frm.mo (fr_X10_makeAll hp3) (by decide) (by decide)) ?_)
      rcases ite_sp h with ⟨-, h⟩ | ⟨-, h⟩
      · obtain ⟨-, h⟩ := gd_some h
        exact fr_X10_make_55 _ _ h
      · obtain ⟨-, h⟩ := gd_some h
        exact fr_X10_make_55 _ _ h
theorem fr_X10_kids_13 (σ : St) {r : Int32 × St} (h : f_X10_kids_13 σ = some r) : frm [44] [] σ r.2 := by
  unfold f_X10_kids_13 at h
  cases h
  exact (frm.rf _)
theorem fr_X10_kids_95 (k56 : Int32 → Int32 → Int32 → St → Option (Int32 × St)) (hk56 : ∀ (x1 : Int32) (x2 : Int32) (x3 : Int32) (σ : St) {r : Int32 × St}, k56 x1 x2 x3 σ = some r → frm [44] [] σ r.2) (x1 : Int32) (x2 : Int32) (x3 : Int32) (σ : St) {r : Int32 × St} (h : f_X10_kids_95 k56 x1 x2 x3 σ = some r) : frm [44] [] σ r.2 := by
  unfold f_X10_kids_95 at h
  exact hk56 _ _ _ _ h
theorem fr_X10_kids_84 (k56 : Int32 → Int32 → Int32 → St → Option (Int32 × St)) (hk56 : ∀ (x1 : Int32) (x2 : Int32) (x3 : Int32) (σ : St) {r : Int32 × St}, k56 x1 x2 x3 σ = some r → frm [44] [] σ r.2) (x1 : Int32) (x2 : Int32) (x3 : Int32) (y0 : Int32) (y1 : Int32) (y2 : Int32) (σ : St) {r : Int32 × St} (h : f_X10_kids_84 k56 x1 x2 x3 y0 y1 y2 σ = some r) : frm [44] [] σ r.2 := by
  unfold f_X10_kids_84 at h
  obtain ⟨-, h⟩ := gd_some h
  obtain ⟨-, h⟩ := gd_some h
  exact frm.tr (frm_sI (frm.rf _) (by simp)) (fr_X10_kids_95 _ hk56 _ _ _ _ h)
theorem fr_X10_kids_56 : ∀ (n : Nat) (x1 : Int32) (x2 : Int32) (x3 : Int32) (σ : St) {r : Int32 × St}, f_X10_kids_56 n x1 x2 x3 σ = some r → frm [44] [] σ r.2 := by
  intro n
  induction n with
  | zero =>
    intro x1 x2 x3 σ r h
    cases h
  | succ n ih =>
    intro x1 x2 x3 σ r h
    simp only [f_X10_kids_56] at h
    rcases ite_sp h with ⟨-, h⟩ | ⟨-, h⟩
    · cases h
      exact (frm.rf _)
    · obtain ⟨-, h⟩ := gd_some h
      obtain ⟨p1, hp1, h⟩ := bind_sp h
      refine frm.tr (frm.rf _) (frm.tr (frm.mo (fr_X10_has hp1) (by decide) (by decide)) ?_)
      rcases ite_sp h with ⟨-, h⟩ | ⟨-, h⟩
      · exact fr_X10_kids_84 _ ih _ _ _ _ _ _ _ h
      · exact fr_X10_kids_84 _ ih _ _ _ _ _ _ _ h
theorem fr_X10_kids_48 (k19 : Int32 → Int32 → Int32 → St → Option (Int32 × St)) (hk19 : ∀ (x1 : Int32) (x2 : Int32) (x3 : Int32) (σ : St) {r : Int32 × St}, k19 x1 x2 x3 σ = some r → frm [44] [] σ r.2) (x1 : Int32) (x2 : Int32) (x3 : Int32) (σ : St) {r : Int32 × St} (h : f_X10_kids_48 k19 x1 x2 x3 σ = some r) : frm [44] [] σ r.2 := by
  unfold f_X10_kids_48 at h
  exact hk19 _ _ _ _ h
theorem fr_X10_kids_19 : ∀ (n : Nat) (x1 : Int32) (x2 : Int32) (x3 : Int32) (σ : St) {r : Int32 × St}, f_X10_kids_19 n x1 x2 x3 σ = some r → frm [44] [] σ r.2 := by
  intro n
  induction n with
  | zero =>
    intro x1 x2 x3 σ r h
    cases h
  | succ n ih =>
    intro x1 x2 x3 σ r h
    simp only [f_X10_kids_19] at h
    rcases ite_sp h with ⟨-, h⟩ | ⟨-, h⟩
    · exact fr_X10_kids_56 FU _ _ _ _ h
    · obtain ⟨p2, hp2, h⟩ := bind_sp h
      refine frm.tr (frm.rf _) (frm.tr (frm.mo (fr_X10_has hp2) (by decide) (by decide)) ?_)
      rcases ite_sp h with ⟨-, h⟩ | ⟨-, h⟩
      · exact fr_X10_kids_48 _ ih _ _ _ _ h
      · obtain ⟨-, h⟩ := gd_some h
        rcases ite_sp h with ⟨-, h⟩ | ⟨-, h⟩
        · cases h
          exact (frm.rf _)
        · exact fr_X10_kids_48 _ ih _ _ _ _ h
theorem fr_X10_kids {x1 : Int32} {σ : St} {r : Int32 × St} (h : f_X10_kids x1 σ = some r) : frm [44] [] σ r.2 := by
  unfold f_X10_kids at h
  rcases ite_sp h with ⟨-, h⟩ | ⟨-, h⟩
  · exact fr_X10_kids_13 _ h
  · rcases ite_sp h with ⟨-, h⟩ | ⟨-, h⟩
    · exact fr_X10_kids_19 FU _ _ _ _ h
    · exact fr_X10_kids_13 _ h
theorem fr_X10_image_68 (σ : St) {r : Int32 × St} (h : f_X10_image_68 σ = some r) : frm [69, 70] [(38, 53), (38, 54), (38, 55), (38, 56)] σ r.2 := by
  unfold f_X10_image_68 at h
  cases h
  exact (frm_sIf (frm_sJf (frm.rf _) (by simp)) (by simp))
theorem fr_X10_image_28 : ∀ (n : Nat) (x1 : Int32) (σ : St) {r : Int32 × St}, f_X10_image_28 n x1 σ = some r → frm [69, 70] [(38, 53), (38, 54), (38, 55), (38, 56)] σ r.2 := by
  intro n
  induction n with
  | zero =>
    intro x1 σ r h
    cases h
  | succ n ih =>
    intro x1 σ r h
    simp only [f_X10_image_28] at h
    rcases ite_sp h with ⟨-, h⟩ | ⟨-, h⟩
    · exact frm.tr (frm_sIf (frm_sIf (frm.rf _) (by simp)) (by simp)) (fr_X10_image_68 _ h)
    · obtain ⟨-, h⟩ := gd_some h
      obtain ⟨-, h⟩ := gd_some h
      exact frm.tr (frm_sI (frm.rf _) (by simp)) (ih _ _ h)
theorem fr_X10_image_2 : ∀ (n : Nat) (x1 : Int32) (σ : St) {r : Int32 × St}, f_X10_image_2 n x1 σ = some r → frm [69, 70] [(38, 53), (38, 54), (38, 55), (38, 56)] σ r.2 := by
  intro n
  induction n with
  | zero =>
    intro x1 σ r h
    cases h
  | succ n ih =>
    intro x1 σ r h
    simp only [f_X10_image_2] at h
    rcases ite_sp h with ⟨-, h⟩ | ⟨-, h⟩
    · exact fr_X10_image_28 FU _ _ h
    · obtain ⟨-, h⟩ := gd_some h
      obtain ⟨-, h⟩ := gd_some h
      exact frm.tr (frm_sI (frm.rf _) (by simp)) (ih _ _ h)
theorem fr_X10_image {σ : St} {r : Int32 × St} (h : f_X10_image σ = some r) : frm [69, 70] [(38, 53), (38, 54), (38, 55), (38, 56)] σ r.2 := by
  unfold f_X10_image at h
  exact fr_X10_image_2 FU _ _ h
theorem fr_X10_back_77 (σ : St) {r : Int32 × St} (h : f_X10_back_77 σ = some r) : frm [44, 46] [(38, 18), (38, 19), (38, 20), (38, 27)] σ r.2 := by
  unfold f_X10_back_77 at h
  cases h
  exact (frm_sIf (frm_sJf (frm.rf _) (by simp)) (by simp))
theorem fr_X10_back_37 : ∀ (n : Nat) (x1 : Int32) (σ : St) {r : Int32 × St}, f_X10_back_37 n x1 σ = some r → frm [44, 46] [(38, 18), (38, 19), (38, 20), (38, 27)] σ r.2 := by
  intro n
  induction n with
  | zero =>
    intro x1 σ r h
    cases h
  | succ n ih =>
    intro x1 σ r h
    simp only [f_X10_back_37] at h
    rcases ite_sp h with ⟨-, h⟩ | ⟨-, h⟩
    · exact frm.tr (frm_sIf (frm_sIf (frm.rf _) (by simp)) (by simp)) (fr_X10_back_77 _ h)
    · obtain ⟨-, h⟩ := gd_some h
      obtain ⟨-, h⟩ := gd_some h
      exact frm.tr (frm_sI (frm.rf _) (by simp)) (ih _ _ h)
theorem fr_X10_back_11 : ∀ (n : Nat) (x1 : Int32) (σ : St) {r : Int32 × St}, f_X10_back_11 n x1 σ = some r → frm [44, 46] [(38, 18), (38, 19), (38, 20), (38, 27)] σ r.2 := by
  intro n
  induction n with
  | zero =>
    intro x1 σ r h
    cases h
  | succ n ih =>
    intro x1 σ r h
    simp only [f_X10_back_11] at h
    rcases ite_sp h with ⟨-, h⟩ | ⟨-, h⟩
    · exact fr_X10_back_37 FU _ _ h
    · obtain ⟨-, h⟩ := gd_some h
      obtain ⟨-, h⟩ := gd_some h
      exact frm.tr (frm_sI (frm.rf _) (by simp)) (ih _ _ h)
theorem fr_X10_back {σ : St} {r : Int32 × St} (h : f_X10_back σ = some r) : frm [44, 46] [(38, 18), (38, 19), (38, 20), (38, 27)] σ r.2 := by
  unfold f_X10_back at h
  rcases ite_sp h with ⟨-, h⟩ | ⟨-, h⟩
  · cases h
    exact (frm.rf _)
  · exact fr_X10_back_11 FU _ _ h
theorem fr_X10_count {x1 : Int32} {σ : St} {r : Int32 × St} (h : f_X10_count x1 σ = some r) : frm [] [] σ r.2 := by
  unfold f_X10_count at h
  rcases ite_sp h with ⟨-, h⟩ | ⟨-, h⟩
  · cases h
    exact (frm.rf _)
  rcases ite_sp h with ⟨-, h⟩ | ⟨-, h⟩
  · cases h
    exact (frm.rf _)
  rcases ite_sp h with ⟨-, h⟩ | ⟨-, h⟩
  · cases h
    exact (frm.rf _)
  rcases ite_sp h with ⟨-, h⟩ | ⟨-, h⟩
  · cases h
    exact (frm.rf _)
  rcases ite_sp h with ⟨-, h⟩ | ⟨-, h⟩
  · cases h
    exact (frm.rf _)
  cases h
  exact (frm.rf _)
theorem fr_L_cell_13 (ar : Nat) (ln_ : Nat) (y0 : Int32) (σ : St) {r : Int32 × St} (h : f_L_cell_13 ar ln_ y0 σ = some r) : frm [] [] σ r.2 := by
  unfold f_L_cell_13 at h
  cases h
  exact (frm.rf _)
theorem fr_L_cell (ar : Nat) (ln_ : Nat) {x1 : Int32} {σ : St} {r : Int32 × St} (h : f_L_cell ar ln_ x1 σ = some r) : frm [] [] σ r.2 := by
  unfold f_L_cell at h
  rcases ite_sp h with ⟨-, h⟩ | ⟨-, h⟩
  · exact fr_L_cell_13 ar ln_ _ _ h
  · obtain ⟨-, h⟩ := gd_some h
    exact fr_L_cell_13 ar ln_ _ _ h
