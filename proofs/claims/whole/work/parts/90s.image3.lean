/-! IMAGE AND BACK, alike -/
theorem m_image2_go {σ0 : St} : ∀ m n k : Nat, ∀ σ : St, k + m = 12 → m < n → gI σ 44 = gI σ0 44 → (∀ j, j < k → gI σ 70 j = gI σ0 44 j) → ∃ σ', f_X10_image_28 n (iZ (k : Int)) σ = some (gI σ 46 18, σ') ∧ (∀ j, j < 12 → gI σ' 70 j = gI σ0 44 j) ∧ gI σ' 69 = gI σ 69 ∧ gI σ' 38 53 = gI σ 38 19 ∧ gI σ' 38 54 = gI σ 38 20 ∧ gJ σ' 38 55 = gJ σ 38 18 ∧ gI σ' 38 56 = 1 := by
  intro m
  induction m with
  | zero =>
    intro n k σ e hn h44 h1
    cases n with
    | zero => omega
    | succ n =>
      have hk : k = 12 := by omega
      subst hk
      rw [f_X10_image_28, if_pos (by rw [leI, iZt (by omega), t_12]; omega)]
      unfold f_X10_image_68
      rw [n_18]
      refine ⟨_, rfl, ?_, ?_, ?_, ?_, ?_, ?_⟩
      · intro j hj
        simp [gI_sI, gI_sJ, gI_sR, gJ_sI, gJ_sJ, gJ_sR, gR_sI, gR_sJ, gR_sR, h1 j hj]
      · funext j
        simp [gI_sI, gI_sJ, gI_sR, gJ_sI, gJ_sJ, gJ_sR, gR_sI, gR_sJ, gR_sR]
      · simp [gI_sI, gI_sJ, gI_sR, gJ_sI, gJ_sJ, gJ_sR, gR_sI, gR_sJ, gR_sR]
      · simp [gI_sI, gI_sJ, gI_sR, gJ_sI, gJ_sJ, gJ_sR, gR_sI, gR_sJ, gR_sR]
      · simp [gI_sI, gI_sJ, gI_sR, gJ_sI, gJ_sJ, gJ_sR, gR_sI, gR_sJ, gR_sR]
      · simp [gI_sI, gI_sJ, gI_sR, gJ_sI, gJ_sJ, gJ_sR, gR_sI, gR_sJ, gR_sR]
  | succ m ih =>
    intro n k σ e hn h44 h1
    cases n with
    | zero => omega
    | succ n =>
      rw [f_X10_image_28, if_neg (by rw [leI, iZt (by omega), t_12]; omega), gd_t (iZb (show k < 12 by omega) (by omega)), gd_t (iZb (show k < 12 by omega) (by omega)), iZc (by omega), iZs]
      obtain ⟨σ', a1, a2, a3, a4, a5, a6, a7⟩ := ih n (k + 1) (sI σ 70 k (gI σ 44 k)) (by omega) (by omega) (by rw [g_sI_c (by omega)]; exact h44) (fun j hj => by
        by_cases c : j = k
        · subst c; rw [g_sI_eq, h44]
        · rw [g_sI_ne (by omega)]; exact h1 j (by omega))
      refine ⟨σ', ?_, a2, ?_, ?_, ?_, ?_, a7⟩
      · rw [a1, g_sI_c (by omega)]
      · rw [a3, g_sI_c (by omega)]
      · rw [a4, g_sI_c (by omega)]
      · rw [a5, g_sI_c (by omega)]
      · rw [a6]; rfl
theorem m_image1_go {σ0 : St} : ∀ m n k : Nat, ∀ σ : St, k + m = 19 → m < n → gI σ 46 = gI σ0 46 → (∀ j, j < k → gI σ 69 j = gI σ0 46 j) → ∃ σ', f_X10_image_2 n (iZ (k : Int)) σ = some (gI σ0 46 18, σ') ∧ (∀ j, j < 19 → gI σ' 69 j = gI σ0 46 j) ∧ (∀ j, j < 12 → gI σ' 70 j = gI σ 44 j) ∧ gI σ' 38 53 = gI σ 38 19 ∧ gI σ' 38 54 = gI σ 38 20 ∧ gJ σ' 38 55 = gJ σ 38 18 ∧ gI σ' 38 56 = 1 := by
  intro m
  induction m with
  | zero =>
    intro n k σ e hn h46 h1
    cases n with
    | zero => omega
    | succ n =>
      have hk : k = 19 := by omega
      subst hk
      rw [f_X10_image_2, if_pos (by rw [leI, iZt (by omega), t_19]; omega)]
      obtain ⟨σ', a1, a2, a3, a4, a5, a6, a7⟩ := m_image2_go (σ0 := σ) 12 FU 0 σ (by omega) (by unfold FU; omega) rfl (fun j hj => by omega)
      refine ⟨σ', ?_, ?_, a2, a4, a5, a6, a7⟩
      · rw [← h46]; exact a1
      · rw [a3]; exact h1
  | succ m ih =>
    intro n k σ e hn h46 h1
    cases n with
    | zero => omega
    | succ n =>
      rw [f_X10_image_2, if_neg (by rw [leI, iZt (by omega), t_19]; omega), gd_t (iZb (show k < 19 by omega) (by omega)), gd_t (iZb (show k < 19 by omega) (by omega)), iZc (by omega), iZs]
      obtain ⟨σ', a1, a2, a3, a4, a5, a6, a7⟩ := ih n (k + 1) (sI σ 69 k (gI σ 46 k)) (by omega) (by omega) (by rw [g_sI_c (by omega)]; exact h46) (fun j hj => by
        by_cases c : j = k
        · subst c; rw [g_sI_eq, h46]
        · rw [g_sI_ne (by omega)]; exact h1 j (by omega))
      refine ⟨σ', a1, a2, ?_, ?_, ?_, ?_, a7⟩
      · intro j hj
        rw [a3 j hj, g_sI_c (by omega)]
      · rw [a4, g_sI_c (by omega)]
      · rw [a5, g_sI_c (by omega)]
      · rw [a6]; rfl
theorem mm_image (σ : St) : ∃ σ', f_X10_image σ = some (gI σ 46 18, σ') ∧ (∀ j, j < 19 → gI σ' 69 j = gI σ 46 j) ∧ (∀ j, j < 12 → gI σ' 70 j = gI σ 44 j) ∧ gI σ' 38 53 = gI σ 38 19 ∧ gI σ' 38 54 = gI σ 38 20 ∧ gJ σ' 38 55 = gJ σ 38 18 ∧ gI σ' 38 56 = 1 :=
  m_image1_go 19 FU 0 σ (by omega) (by unfold FU; omega) rfl (fun j hj => by omega)
theorem m_back2_go {σ0 : St} : ∀ m n k : Nat, ∀ σ : St, k + m = 12 → m < n → gI σ 70 = gI σ0 70 → (∀ j, j < k → gI σ 44 j = gI σ0 70 j) → ∃ σ', f_X10_back_37 n (iZ (k : Int)) σ = some (gI σ 46 18, σ') ∧ (∀ j, j < 12 → gI σ' 44 j = gI σ0 70 j) ∧ (∀ j, 12 ≤ j → gI σ' 44 j = gI σ 44 j) ∧ gI σ' 46 = gI σ 46 ∧ gI σ' 38 19 = gI σ 38 53 ∧ gI σ' 38 20 = gI σ 38 54 ∧ gJ σ' 38 18 = gJ σ 38 55 ∧ gI σ' 38 27 = 0 := by
  intro m
  induction m with
  | zero =>
    intro n k σ e hn h70 h1
    cases n with
    | zero => omega
    | succ n =>
      have hk : k = 12 := by omega
      subst hk
      rw [f_X10_back_37, if_pos (by rw [leI, iZt (by omega), t_12]; omega)]
      unfold f_X10_back_77
      rw [n_18]
      refine ⟨_, rfl, ?_, ?_, ?_, ?_, ?_, ?_, ?_⟩
      · intro j hj
        simp [gI_sI, gI_sJ, gI_sR, gJ_sI, gJ_sJ, gJ_sR, gR_sI, gR_sJ, gR_sR, h1 j hj]
      · intro j hj
        simp [gI_sI, gI_sJ, gI_sR, gJ_sI, gJ_sJ, gJ_sR, gR_sI, gR_sJ, gR_sR]
      · funext j
        simp [gI_sI, gI_sJ, gI_sR, gJ_sI, gJ_sJ, gJ_sR, gR_sI, gR_sJ, gR_sR]
      · simp [gI_sI, gI_sJ, gI_sR, gJ_sI, gJ_sJ, gJ_sR, gR_sI, gR_sJ, gR_sR]
      · simp [gI_sI, gI_sJ, gI_sR, gJ_sI, gJ_sJ, gJ_sR, gR_sI, gR_sJ, gR_sR]
      · simp [gI_sI, gI_sJ, gI_sR, gJ_sI, gJ_sJ, gJ_sR, gR_sI, gR_sJ, gR_sR]
      · simp [gI_sI, gI_sJ, gI_sR, gJ_sI, gJ_sJ, gJ_sR, gR_sI, gR_sJ, gR_sR]
  | succ m ih =>
    intro n k σ e hn h70 h1
    cases n with
    | zero => omega
    | succ n =>
      rw [f_X10_back_37, if_neg (by rw [leI, iZt (by omega), t_12]; omega), gd_t (iZb (show k < 12 by omega) (by omega)), gd_t (iZb (show k < 12 by omega) (by omega)), iZc (by omega), iZs]
      obtain ⟨σ', a1, a2, a2', a3, a4, a5, a6, a7⟩ := ih n (k + 1) (sI σ 44 k (gI σ 70 k)) (by omega) (by omega) (by rw [g_sI_c (by omega)]; exact h70) (fun j hj => by
        by_cases c : j = k
        · subst c; rw [g_sI_eq, h70]
        · rw [g_sI_ne (by omega)]; exact h1 j (by omega))
      refine ⟨σ', ?_, a2, ?_, ?_, ?_, ?_, ?_, a7⟩
      · rw [a1, g_sI_c (by omega)]
      · intro j hj
        rw [a2' j hj, g_sI_ne (by omega)]
      · rw [a3, g_sI_c (by omega)]
      · rw [a4, g_sI_c (by omega)]
      · rw [a5, g_sI_c (by omega)]
      · rw [a6]; rfl
theorem m_back1_go {σ0 : St} : ∀ m n k : Nat, ∀ σ : St, k + m = 19 → m < n → gI σ 69 = gI σ0 69 → (∀ j, j < k → gI σ 46 j = gI σ0 69 j) → ∃ σ', f_X10_back_11 n (iZ (k : Int)) σ = some (gI σ0 69 18, σ') ∧ (∀ j, j < 19 → gI σ' 46 j = gI σ0 69 j) ∧ (∀ j, j < 12 → gI σ' 44 j = gI σ 70 j) ∧ (∀ j, 12 ≤ j → gI σ' 44 j = gI σ 44 j) ∧ gI σ' 38 19 = gI σ 38 53 ∧ gI σ' 38 20 = gI σ 38 54 ∧ gJ σ' 38 18 = gJ σ 38 55 ∧ gI σ' 38 27 = 0 := by
  intro m
  induction m with
  | zero =>
    intro n k σ e hn h69 h1
    cases n with
    | zero => omega
    | succ n =>
      have hk : k = 19 := by omega
      subst hk
      rw [f_X10_back_11, if_pos (by rw [leI, iZt (by omega), t_19]; omega)]
      obtain ⟨σ', a1, a2, a2', a3, a4, a5, a6, a7⟩ := m_back2_go (σ0 := σ) 12 FU 0 σ (by omega) (by unfold FU; omega) rfl (fun j hj => by omega)
      refine ⟨σ', ?_, ?_, a2, a2', a4, a5, a6, a7⟩
      · rw [← h1 18 (by omega)]; exact a1
      · rw [a3]; exact h1
  | succ m ih =>
    intro n k σ e hn h69 h1
    cases n with
    | zero => omega
    | succ n =>
      rw [f_X10_back_11, if_neg (by rw [leI, iZt (by omega), t_19]; omega), gd_t (iZb (show k < 19 by omega) (by omega)), gd_t (iZb (show k < 19 by omega) (by omega)), iZc (by omega), iZs]
      obtain ⟨σ', a1, a2, a3, a3', a4, a5, a6, a7⟩ := ih n (k + 1) (sI σ 46 k (gI σ 69 k)) (by omega) (by omega) (by rw [g_sI_c (by omega)]; exact h69) (fun j hj => by
        by_cases c : j = k
        · subst c; rw [g_sI_eq, h69]
        · rw [g_sI_ne (by omega)]; exact h1 j (by omega))
      refine ⟨σ', a1, a2, ?_, ?_, ?_, ?_, ?_, a7⟩
      · intro j hj
        rw [a3 j hj, g_sI_c (by omega)]
      · intro j hj
        rw [a3' j hj, g_sI_c (by omega)]
      · rw [a4, g_sI_c (by omega)]
      · rw [a5, g_sI_c (by omega)]
      · rw [a6]; rfl
theorem mm_back (σ : St) (h : ¬ gI σ 38 56 = 0) : ∃ σ', f_X10_back σ = some (gI σ 69 18, σ') ∧ (∀ j, j < 19 → gI σ' 46 j = gI σ 69 j) ∧ (∀ j, j < 12 → gI σ' 44 j = gI σ 70 j) ∧ (∀ j, 12 ≤ j → gI σ' 44 j = gI σ 44 j) ∧ gI σ' 38 19 = gI σ 38 53 ∧ gI σ' 38 20 = gI σ 38 54 ∧ gJ σ' 38 18 = gJ σ 38 55 ∧ gI σ' 38 27 = 0 := by
  have := m_back1_go (σ0 := σ) 19 FU 0 σ (by omega) (by unfold FU; omega) rfl (fun j hj => by omega)
  obtain ⟨σ', a1, a2⟩ := this
  refine ⟨σ', ?_, a2⟩
  unfold f_X10_back
  rw [if_neg h]
  exact a1
theorem m_image {X : En} {σ : St} (h : 72 ≤ eZ X) (hz : eZ X < 900000) (a : Act2 σ σ) (g : Rgoat σ) (hk : Rkept X σ) : ∃ r Y σ1 σ2 t, g_X9_image X σ = some (r, Y, σ1) ∧ f_X10_image σ1 = some (r, σ2) ∧ ext X Y ∧ eZ Y ≤ eZ X + 4 ∧ eY X ≤ eY Y ∧ eY Y ≤ eY X + 49 ∧ Rkept Y σ2 ∧ hiB (fun a => isV X t ∧ t ≤ a ∧ a ≤ t + 3) X σ σ2 ∧ low72 [69, 70] [(0, 2), (0, 3), (38, 53), (38, 54), (38, 55), (38, 56)] σ σ2 := by
  obtain ⟨Y, t, σ1, e1, x1, x2, x3, x4, v, r2, i3, hb, lo, c0, c1, c4, c5, c6, c7⟩ := c_image h hz (by
    rcases hk with ⟨h1, _⟩ | ⟨_, t, h2, h3, _⟩
    · exact Or.inl h1
    · exact Or.inr ⟨t, h2, h3⟩)
  obtain ⟨σ2, e2, m1, m2, m3, m4, m5, m6⟩ := mm_image σ1
  have fm := fr_X10_image e2
  have s1 := lo.same (C := [44, 46]) (G := [(0, 13), (38, 19), (38, 20), (38, 18), (1, 0)]) rfl rfl rfl
  have t72 := v.1
  have hi := fm.h72 rfl rfl
  have s2 := fm.same (C := []) (G := [(0, 2), (0, 3), (1, 0)]) rfl
  obtain ⟨hf, hd, hn, hD, hp⟩ := a
  obtain ⟨g1, g2, g3, g4, g5, g6⟩ := g
  refine ⟨gI σ 0 13, Y, σ1, σ2, t, e1, ?_, x1, x2, x3, x4, Or.inr ⟨m6, t, ?_, v, ?_, ?_, ?_, ?_, ?_, ?_, ?_, ?_, ?_⟩, ?_, ?_⟩
  · rw [e2, s1.cI 46, hn.2]
  · rw [s2.R 0 2]; exact r2
  · rw [(hi t 0 t72).1, c0, s2.I 1 0, s1.I 1 0]
  · intro j hj
    rw [(hi (t + 1) j (by omega)).1, (hi (t + 2) j (by omega)).1, (c1 j hj).1, (c1 j hj).2, m1 j (by omega), m2 j hj, s1.cI 46, s1.cI 44, (hd.1 j hj).1, g1]
    exact ⟨rfl, rfl, (hd.1 j hj).2, g2 j hj⟩
  · intro j hj hj2
    rw [s2.I 1 0, s1.I 1 0] at hj2
    rw [m1 j (by omega), s1.cI 46, (hd.1 j hj).1]; exact hd.2 j hj hj2
  · rw [(hi t 4 t72).1, c4, m3, s1.I 38 19, g3]
  · rw [(hi t 5 t72).1, c5, m4, s1.I 38 20, g4]
  · rw [m4, s1.I 38 20, g4, s2.I 1 0, s1.I 1 0]; exact g6
  · rw [(hi t 6 t72).2.1, c6, m5, s1.J 38 18, g5]
  · intro k hk
    rw [(hi t (7 + k) t72).1, c7 k hk, m1 (12 + k) (by omega), s1.cI 46, hn.1 k hk]
  · rw [s2.I 0 3, i3, m1 18 (by omega), s1.cI 46, hn.2]
  · exact hb.tr (hi.hb _ _)
  · intro a b ha hw hf
    have q1 := lo a b ha (by simp) (fun c => hf (by simp at c ⊢; omega))
    have q2 := fm a b hw (fun c => hf (by simp at c ⊢; omega))
    exact ⟨q2.1.trans q1.1, q2.2.1.trans q1.2.1, q2.2.2.trans q1.2.2⟩
theorem m_back {X : En} {σ : St} (hz : eZ X ≤ 1000000) (a : Act2 σ σ) (g : Rgoat σ) (hk : Rkept X σ) : ∃ r σ1 σ2, g_X9_back X σ = some (r, X, σ1) ∧ f_X10_back σ1 = some (r, σ2) ∧ Act2 σ2 σ2 ∧ Rgoat σ2 ∧ hi72 σ σ2 ∧ low72 [1, 2, 3, 4, 44, 46] [(0, 13), (9, 2), (38, 18), (38, 19), (38, 20), (38, 27)] σ σ2 ∧ gI σ2 1 0 = gI σ 1 0 := by
  unfold g_X9_back g_X9_back_b
  have hk0 := hk
  rcases hk with ⟨h1, h2⟩ | ⟨h1, t, h2, h3, h4, h5, h6, h7, h8, h9, h10, h11, h12⟩
  · refine ⟨-1, σ, σ, ?_, ?_, a, g, fun _ _ _ => ⟨rfl, rfl, rfl⟩, fun _ _ _ _ _ => ⟨rfl, rfl, rfl⟩, rfl⟩
    · rw [h1]
      show ((some (-1, X, σ)).bind _) = _
      simp only [Option.bind_some]
      rw [wrp]
    · unfold f_X10_back
      rw [if_pos h2]
  · have val := h3.val hz
    have t72 := h3.1
    have bc := g_become (σ := σ) (isVal_1 X) val (by omega)
    obtain ⟨c0, c1, c2, c4, c5, c6, c7⟩ := bcS_is (o := 1) (q := t) (σ := σ) (by omega)
    have co := fun a b h => bcS_o (o := 1) (q := t) (σ := σ) a b h
    generalize hS : bcS 1 t σ = S at bc c0 c1 c2 c4 c5 c6 c7 co
    have e3 : gI S 0 3 = gI σ 0 3 := (co 0 3 (by omega)).1
    have ef : f_X2_forget (sI S 0 13 (gI S 0 3)) = some (sI (sI S 0 13 (gI S 0 3)) 9 2 0) := rfl
    have e13 : gI (sI (sI S 0 13 (gI S 0 3)) 9 2 0) 0 13 = gI σ 0 3 := by
      rw [g_sI_ne (by omega), g_sI_eq, e3]
    generalize hT : sI (sI S 0 13 (gI S 0 3)) 9 2 0 = T at ef e13
    have oT : ∀ a b, ¬ (a = 0 ∧ b = 13) → ¬ (a = 9 ∧ b = 2) → gI T a b = gI S a b ∧ gJ T a b = gJ S a b ∧ gR T a b = gR S a b := by
      intro a b n1 n2
      rw [← hT]
      exact ⟨by rw [g_sI_ne n2, g_sI_ne n1], rfl, rfl⟩
    have T92 : gI T 9 2 = 0 := by rw [← hT, g_sI_eq]
    have ox : ∀ a b, (a < 1 ∨ 4 < a) → ¬ (a = 0 ∧ b = 13) → ¬ (a = 9 ∧ b = 2) → gI T a b = gI σ a b ∧ gJ T a b = gJ σ a b ∧ gR T a b = gR σ a b := by
      intro a b h n1 n2
      have q1 := oT a b n1 n2
      have q2 := co a b (by omega)
      exact ⟨q1.1.trans q2.1, q1.2.1.trans q2.2.1, q1.2.2.trans q2.2.2⟩
    obtain ⟨σ2, em, m1, m2, m2', m3, m4, m5, m6⟩ := mm_back T (by rw [(ox 38 56 (by omega) (by omega) (by omega)).1, h1, eI, t_1, t_0]; omega)
    have fm := fr_X10_back em
    have hi := fm.h72 rfl rfl
    have sc := fm.same (C := [1, 2, 3, 10, 16, 45, 49, 50]) (G := [(0, 13), (0, 14), (0, 15), (0, 16), (9, 1), (9, 2), (38, 1), (38, 11), (38, 12), (38, 13), (38, 21), (38, 22), (38, 28)]) rfl
    obtain ⟨hf, hd, hn, hD, hp⟩ := a
    obtain ⟨f1, f2, f3, f4, f5, f6, f7, f8, f9, f10⟩ := hf
    obtain ⟨p1, p2, p3, p4, p5, p6⟩ := hp
    obtain ⟨g1, g2, g3, g4, g5, g6⟩ := g
    have r0 : gI σ2 1 0 = gI σ 1 0 := by rw [sc.cI 1, (oT 1 0 (by omega) (by omega)).1, c0, h4]
    have x0 : ∀ b, gI σ2 2 b = gI S 2 b := fun b => by rw [sc.cI 2, (oT 2 b (by omega) (by omega)).1]
    have x3 : ∀ b, gI σ2 3 b = gI S 3 b := fun b => by rw [sc.cI 3, (oT 3 b (by omega) (by omega)).1]
    have y69 : ∀ b, gI T 69 b = gI σ 69 b := fun b => (ox 69 b (by omega) (by omega) (by omega)).1
    have y70 : ∀ b, gI T 70 b = gI σ 70 b := fun b => (ox 70 b (by omega) (by omega) (by omega)).1
    have y44 : ∀ b, gI T 44 b = gI σ 44 b := fun b => (ox 44 b (by omega) (by omega) (by omega)).1
    have z44 : gI σ2 44 = gI σ2 3 := by
      funext j
      rw [x3 j]
      by_cases c : j < 12
      · rw [m2 j c, y70, (c1 j c).2, (h5 j c).2.1]
      · rw [m2' j (by omega), y44, (c2 j (by omega)).2, g1]
    have z3 : ∀ j, j < 12 → rg (gI σ2 3 j) 0 12 := fun j hj => by
      rw [x3 j, (c1 j hj).2, (h5 j hj).2.1]; exact (h5 j hj).2.2.2
    have zD : gJ σ2 38 18 = gJ σ2 1 6 := by
      rw [m5, (ox 38 55 (by omega) (by omega) (by omega)).2.1, sc.cJ 1, (oT 1 6 (by omega) (by omega)).2.1, c6, h10]
    refine ⟨gI σ 0 3, T, σ2, ?_, ?_, ⟨⟨?_, ?_, ?_, ?_, ?_, z44, z3, ?_, ?_, ?_⟩, ⟨?_, ?_⟩, ⟨?_, ?_⟩, zD, ⟨?_, ?_, ?_, ?_, ?_, ?_⟩⟩, ⟨z44, z3, ?_, ?_, zD, ?_⟩, ?_, ?_, r0⟩
    · rw [h2]
      show ((gd _ (gd _ _)).bind _) = _
      rw [gd_t val.1, gd_t val.1, bnd bc, bnd ef]
      simp only [Option.bind_some]
      rw [wrp, e13]
    · rw [em, y69, h12]
    · rw [sc.I 38 1, (ox 38 1 (by omega) (by omega) (by omega)).1, f1, r0]
    · rw [r0]; exact f2
    · rw [sc.I 38 11, (ox 38 11 (by omega) (by omega) (by omega)).1, f3, sc.I 0 14, (ox 0 14 (by omega) (by omega) (by omega)).1]
    · rw [sc.I 38 12, (ox 38 12 (by omega) (by omega) (by omega)).1, f4, sc.I 0 15, (ox 0 15 (by omega) (by omega) (by omega)).1]
    · rw [sc.I 38 13, (ox 38 13 (by omega) (by omega) (by omega)).1, f5, sc.I 0 16, (ox 0 16 (by omega) (by omega) (by omega)).1]
    · intro d hd'
      have w45 : ∀ b, gI σ2 45 b = gI σ 45 b := fun b => by rw [sc.cI 45, (ox 45 b (by omega) (by omega) (by omega)).1]
      have w16 : ∀ b, gI σ2 16 b = gI σ 16 b := fun b => by rw [sc.cI 16, (ox 16 b (by omega) (by omega) (by omega)).1]
      refine ⟨fun k k1 k2 => ?_, ?_⟩
      · rw [w45, w16]; exact (f8 d hd').1 k k1 k2
      · rw [w45]; exact (f8 d hd').2
    · rw [sc.I 38 21, (ox 38 21 (by omega) (by omega) (by omega)).1]; exact f9
    · rw [sc.I 38 22, (ox 38 22 (by omega) (by omega) (by omega)).1]; exact f10
    · intro j hj
      rw [m1 j (by omega), y69, x0 j, (c1 j hj).1, (h5 j hj).1]
      exact ⟨rfl, (h5 j hj).2.2.1⟩
    · intro j hj hj2
      rw [r0] at hj2
      rw [x0 j, (c1 j hj).1, (h5 j hj).1]; exact h6 j hj hj2
    · intro k hk
      rw [m1 (12 + k) (by omega), y69, sc.cI 1, (oT 1 (7 + k) (by omega) (by omega)).1, c7 k hk, h11 k hk]
    · rw [m1 18 (by omega), y69, sc.I 0 13, e13, h12]
    · rw [m6, sc.I 9 2, T92]
    · rw [sc.I 38 28, sc.I 9 1, (ox 38 28 (by omega) (by omega) (by omega)).1, (ox 9 1 (by omega) (by omega) (by omega)).1]; exact p2
    · rw [sc.I 9 1, (ox 9 1 (by omega) (by omega) (by omega)).1]; exact p3
    · rw [sc.I 9 2, T92]; unfold rg; rw [t_0]; omega
    · intro i hi'
      have w49 : ∀ b, gI σ2 49 b = gI σ 49 b := fun b => by rw [sc.cI 49, (ox 49 b (by omega) (by omega) (by omega)).1]
      have w10 : ∀ b, gJ σ2 10 b = gJ σ 10 b := fun b => by rw [sc.cJ 10, (ox 10 b (by omega) (by omega) (by omega)).2.1]
      have w50 : ∀ b, gJ σ2 50 b = gJ σ 50 b := fun b => by rw [sc.cJ 50, (ox 50 b (by omega) (by omega) (by omega)).2.1]
      simp only [w49, w10, w50, r0]
      exact p5 i hi'
    · intro u hu
      rw [sc.I 9 2, T92] at hu
      have : (0 : Int32).toInt.toNat = 0 := rfl
      rw [this] at hu; omega
    · rw [m3, (ox 38 53 (by omega) (by omega) (by omega)).1, sc.cI 1, (oT 1 4 (by omega) (by omega)).1, c4, h7]
    · rw [m4, (ox 38 54 (by omega) (by omega) (by omega)).1, sc.cI 1, (oT 1 5 (by omega) (by omega)).1, c5, h8]
    · rw [r0, sc.cI 1, (oT 1 5 (by omega) (by omega)).1, c5, h8]; exact h9
    · intro a b ha
      have q1 := ox a b (by omega) (by omega) (by omega)
      have q2 := hi a b ha
      exact ⟨q2.1.trans q1.1, q2.2.1.trans q1.2.1, q2.2.2.trans q1.2.2⟩
    · intro a b ha hw hfn
      simp only [List.mem_cons, List.not_mem_nil, or_false, not_or, Prod.mk.injEq] at hw hfn
      have q1 := ox a b (by omega) (by omega) (by omega)
      have q2 := fm a b (by simp; omega) (by simp; omega)
      exact ⟨q2.1.trans q1.1, q2.2.1.trans q1.2.1, q2.2.2.trans q1.2.2⟩
