/-! ON THE SIDE -/
def shR (a b c d : Int32) (V W : Vl) : Prop := V.1 = W.1 ∧ V.2.1 = W.2.1 ∧ W.2.2.1 = V.2.2.1 + a ∧ W.2.2.2.1 = V.2.2.2.1 + b ∧ W.2.2.2.2.1 = V.2.2.2.2.1 + c ∧ W.2.2.2.2.2.1 = V.2.2.2.2.2.1 + d
theorem ad_sw (x y z : Int32) : x + y + z = x + z + y := by rw [Int32.add_assoc, Int32.add_comm y, Int32.add_assoc]
theorem shR.stand {a b c d : Int32} {F : Nat → Int32} {V W : Vl} (h : shR a b c d V W) (k : Nat) (v : Int32) : shR a b c d (standV F k v V) (standV F k v W) := by
  obtain ⟨h1, h2, h3, h4, h5, h6⟩ := h
  unfold shR standV
  simp only [h1, h2, h3, h4, h5, h6]
  exact ⟨trivial, trivial, ad_sw _ _ _, trivial, trivial, ad_sw _ _ _⟩
theorem shR.ov {a b c d : Int32} {V W : Vl} (h : shR a b c d V W) : shR a b c d (ovV V) (ovV W) := by
  obtain ⟨h1, h2, h3, h4, h5, h6⟩ := h
  unfold shR ovV
  simp only [h1, h2, h3, h4, h5, h6]
  exact ⟨trivial, trivial, trivial, trivial, ad_sw _ _ _, trivial⟩
theorem shR.ca {a b c d : Int32} {V W : Vl} (h : shR a b c d V W) : shR a b c d (caV V) (caV W) := by
  obtain ⟨h1, h2, h3, h4, h5, h6⟩ := h
  unfold shR caV
  simp only [h1, h2, h3, h4, h5, h6]
  exact ⟨trivial, trivial, trivial, ad_sw _ _ _, trivial, trivial⟩
theorem shR.lf {a b c d : Int32} {V W : Vl} (h : shR a b c d V W) (x : Int32) : shR a b c d (lfV x V) (lfV x W) := h
theorem shR.drive {a b c d : Int32} {F : Nat → Int32} : ∀ m r : Nat, ∀ y : Int32, ∀ V W : Vl, shR a b c d V W → shR a b c d (driveV F m r y V) (driveV F m r y W)
  | 0, _, _, _, _, h => h.ov
  | m + 1, r, y, V, W, h => by
    rw [driveV, driveV, h.1]
    split
    · exact h.stand _ _
    · exact shR.drive m (r + 1) _ _ _ (h.stand _ _).ca
theorem shR.twice {a b c d : Int32} {F : Nat → Int32} {R : Nat} : ∀ k : Nat, ∀ V W : Vl, shR a b c d V W → shR a b c d (twiceV F R k V) (twiceV F R k W)
  | 0, _, _, h => h
  | k + 1, V, W, h => by
    rw [twiceV, twiceV, h.1]
    exact shR.twice k _ _ (shR.drive _ _ _ _ _ h)
theorem shR.halve {a b c d : Int32} {F : Nat → Int32} : ∀ k : Nat, ∀ x : Int32, ∀ V W : Vl, shR a b c d V W → shR a b c d (halveV F k x V) (halveV F k x W)
  | 0, x, _, _, h => h.lf x
  | k + 1, x, V, W, h => by
    rw [halveV, halveV, h.1]
    exact shR.halve k _ _ _ (h.stand _ _)
theorem shR.empty {a b c d : Int32} {F : Nat → Int32} : ∀ m r : Nat, ∀ V W : Vl, shR a b c d V W → shR a b c d (emptyV F m r V) (emptyV F m r W)
  | 0, _, _, _, h => h
  | m + 1, r, V, W, h => shR.empty m (r + 1) _ _ (h.stand _ _)
theorem shR.bring {a b c d : Int32} {F : Nat → Int32} {R : Nat} {g : Nat → Nat → Int32} {x : Int32} {N : Nat} : ∀ m : Nat, ∀ V W : Vl, shR a b c d V W → shR a b c d (bringV F R g x N m V) (bringV F R g x N m W)
  | 0, _, _, h => h
  | m + 1, V, W, h => shR.bring m _ _ (shR.drive _ _ _ _ _ h)
theorem shR.act {a b c d : Int32} {F : Nat → Int32} {R : Nat} {V W : Vl} (h : shR a b c d V W) (x : Int32) : shR a b c d (actV F R x V) (actV F R x W) := by
  unfold actV
  split
  · exact shR.twice _ _ _ h
  · split
    · exact shR.halve _ _ _ _ h
    · exact shR.empty _ _ _ _ h
theorem shR.oi {a b c d : Int32} {V W : Vl} (h : shR a b c d V W) (v R : Nat) : shR a b c d (ovIf v R V) (ovIf v R W) := by
  unfold ovIf
  split
  · exact h
  · exact h.ov
theorem gI_cpI (σ : St) (s sp d dp n a b : Nat) : gI (cpI σ s sp d dp n) a b = if a = d then (if dp ≤ b ∧ b < dp + n then gI σ s (sp + (b - dp)) else gI σ a b) else gI σ a b := rfl
theorem n_0 : (0 : Int32).toNatClampNeg = 0 := rfl
theorem c_beginAs {R : Nat} {σ : St} (h : gI σ 1 0 = iZ (R : Int)) : ∃ σ', f_X7_beginAs 5 1 σ = some σ' ∧ relC 5 R (gI σ 3) σ' (gI σ 2, gI σ 2, 0, 0, 0, 0, 0) ∧ gI σ' 5 9 = 0 := by
  unfold f_X7_beginAs f_X7_beginAs_23 f_X7_beginAs_38 f_X7_beginAs_53 f_X7_startCounts
  simp only [Option.bind_some, n_0, n_12]
  refine ⟨_, rfl, ⟨?_, ?_, ?_, ?_, ?_, ?_, ?_⟩, ?_⟩
  · simp [gI_sI, gI_sJ, gI_sR, gJ_sI, gJ_sJ, gJ_sR, gR_sI, gR_sJ, gR_sR, gI_cpI, h]
  · intro j hj
    refine ⟨?_, ?_, ?_⟩
    · simp [gI_sI, gI_sJ, gI_sR, gJ_sI, gJ_sJ, gJ_sR, gR_sI, gR_sJ, gR_sR, gI_cpI, hj]
    · simp [gI_sI, gI_sJ, gI_sR, gJ_sI, gJ_sJ, gJ_sR, gR_sI, gR_sJ, gR_sR, gI_cpI, hj]
    · simp [gI_sI, gI_sJ, gI_sR, gJ_sI, gJ_sJ, gJ_sR, gR_sI, gR_sJ, gR_sR, gI_cpI, hj]
  · simp [gI_sI, gI_sJ, gI_sR, gJ_sI, gJ_sJ, gJ_sR, gR_sI, gR_sJ, gR_sR]
  · simp [gI_sI, gI_sJ, gI_sR, gJ_sI, gJ_sJ, gJ_sR, gR_sI, gR_sJ, gR_sR]
  · simp [gI_sI, gI_sJ, gI_sR, gJ_sI, gJ_sJ, gJ_sR, gR_sI, gR_sJ, gR_sR]
  · simp [gI_sI, gI_sJ, gI_sR, gJ_sI, gJ_sJ, gJ_sR, gR_sI, gR_sJ, gR_sR]
  · simp [gI_sI, gI_sJ, gI_sR, gJ_sI, gJ_sJ, gJ_sR, gR_sI, gR_sJ, gR_sR]
  · simp [gI_sI, gI_sJ, gI_sR, gJ_sI, gJ_sJ, gJ_sR, gR_sI, gR_sJ, gR_sR]
theorem c_fill_go (ar : Nat) (x : Int32) : ∀ m n k : Nat, ∀ σ : St, k + m = 12 → m < n → ∃ σ', f_J7_fill_53178_5 ar 12 n x (iZ (k : Int)) 12 σ = some σ' ∧ (∀ j, k ≤ j → j < 12 → gI σ' ar j = x) ∧ (∀ j, j < k → gI σ' ar j = gI σ ar j) ∧ (∀ a, a ≠ ar → gI σ' a = gI σ a) := by
  intro m
  induction m with
  | zero =>
    intro n k σ e hn
    cases n with
    | zero => omega
    | succ n =>
      rw [f_J7_fill_53178_5, if_pos (by rw [leI, iZt (by omega), t_12]; omega)]
      exact ⟨σ, rfl, fun j h1 h2 => by omega, fun _ _ => rfl, fun _ _ => rfl⟩
  | succ m ih =>
    intro n k σ e hn
    cases n with
    | zero => omega
    | succ n =>
      rw [f_J7_fill_53178_5, if_neg (by rw [leI, iZt (by omega), t_12]; omega), gd_t (iZb (show k < 12 by omega) (by omega)), iZc (by omega), iZs]
      obtain ⟨σ', e1, h1, h2, h3⟩ := ih n (k + 1) (sI σ ar k x) (by omega) (by omega)
      refine ⟨σ', e1, ?_, ?_, ?_⟩
      · intro j j1 j2
        by_cases c : j = k
        · subst c; rw [h2 j (by omega), g_sI_eq]
        · exact h1 j (by omega) j2
      · intro j hj
        rw [h2 j (by omega), g_sI_ne (by omega)]
      · intro a ha
        rw [h3 a ha, g_sI_c ha]
theorem c_fill (ar : Nat) (x : Int32) (σ : St) : ∃ σ', f_J7_fill_53178 ar 12 x σ = some σ' ∧ (∀ j, j < 12 → gI σ' ar j = x) ∧ (∀ a, a ≠ ar → gI σ' a = gI σ a) := by
  obtain ⟨σ', e1, h1, h2, h3⟩ := c_fill_go ar x 12 FU 0 σ (by omega) (by unfold FU; omega)
  exact ⟨σ', e1, fun j hj => h1 j (by omega) hj, h3⟩
theorem c_clear {o : Nat} (R : Nat) (σ : St) : ∃ σ', f_X7_clear o (iZ (R : Int)) σ = some σ' ∧ relC o R (fun _ => 9) σ' (fun _ => 0, fun _ => 0, 0, 0, 0, 0, 0) ∧ gI σ' o 9 = 0 := by
  unfold f_X7_clear f_X7_startCounts
  obtain ⟨s1, e1, a1, b1⟩ := c_fill (o + 1) 0 (sI σ o 0 (iZ (R : Int)))
  obtain ⟨s2, e2, a2, b2⟩ := c_fill (o + 2) 9 s1
  obtain ⟨s3, e3, a3, b3⟩ := c_fill (o + 3) 0 s2
  simp only [e1, e2, e3, Option.bind_some]
  refine ⟨_, rfl, ⟨?_, ?_, ?_, ?_, ?_, ?_, ?_⟩, ?_⟩
  · simp only [gI_sI, gI_sJ, gI_sR, gJ_sI, gJ_sJ, gJ_sR, gR_sI, gR_sJ, gR_sR]
    simp [b3 o (by omega), b2 o (by omega), b1 o (by omega), gI_sI, gI_sJ, gI_sR, gJ_sI, gJ_sJ, gJ_sR, gR_sI, gR_sJ, gR_sR]
  · intro j hj
    refine ⟨?_, ?_, ?_⟩
    · simp only [gI_sI, gI_sJ, gI_sR, gJ_sI, gJ_sJ, gJ_sR, gR_sI, gR_sJ, gR_sR]
      simp [b3 (o + 1) (by omega), b2 (o + 1) (by omega), a1 j hj]
    · simp only [gI_sI, gI_sJ, gI_sR, gJ_sI, gJ_sJ, gJ_sR, gR_sI, gR_sJ, gR_sR]
      simp [b3 (o + 2) (by omega), a2 j hj]
    · simp only [gI_sI, gI_sJ, gI_sR, gJ_sI, gJ_sJ, gJ_sR, gR_sI, gR_sJ, gR_sR]
      simp [a3 j hj]
  · simp [gI_sI, gI_sJ, gI_sR, gJ_sI, gJ_sJ, gJ_sR, gR_sI, gR_sJ, gR_sR]
  · simp [gI_sI, gI_sJ, gI_sR, gJ_sI, gJ_sJ, gJ_sR, gR_sI, gR_sJ, gR_sR]
  · simp [gI_sI, gI_sJ, gI_sR, gJ_sI, gJ_sJ, gJ_sR, gR_sI, gR_sJ, gR_sR]
  · simp [gI_sI, gI_sJ, gI_sR, gJ_sI, gJ_sJ, gJ_sR, gR_sI, gR_sJ, gR_sR]
  · simp [gI_sI, gI_sJ, gI_sR, gJ_sI, gJ_sJ, gJ_sR, gR_sI, gR_sJ, gR_sR]
  · simp [gI_sI, gI_sJ, gI_sR, gJ_sI, gJ_sJ, gJ_sR, gR_sI, gR_sJ, gR_sR]
theorem m_over_go {σ0 : St} : ∀ m n k : Nat, ∀ σ : St, k + m = 19 → m < n → gI σ 57 = gI σ0 57 → (∀ j, j < k → gI σ 46 j = gI σ0 57 j) → ∃ σ', f_X10_over_2 n (iZ (k : Int)) σ = some σ' ∧ (∀ j, j < 19 → gI σ' 46 j = gI σ0 57 j) ∧ gI σ' 38 21 = 0 ∧ gI σ' 38 22 = 0 := by
  intro m
  induction m with
  | zero =>
    intro n k σ e hn h57 h1
    cases n with
    | zero => omega
    | succ n =>
      have hk : k = 19 := by omega
      subst hk
      rw [f_X10_over_2, if_pos (by rw [leI, iZt (by omega), t_19]; omega)]
      refine ⟨_, rfl, fun j hj => ?_, ?_, ?_⟩
      · simp [gI_sI, gI_sJ, gI_sR, gJ_sI, gJ_sJ, gJ_sR, gR_sI, gR_sJ, gR_sR, h1 j hj]
      · simp [gI_sI, gI_sJ, gI_sR, gJ_sI, gJ_sJ, gJ_sR, gR_sI, gR_sJ, gR_sR]
      · simp [gI_sI, gI_sJ, gI_sR, gJ_sI, gJ_sJ, gJ_sR, gR_sI, gR_sJ, gR_sR]
  | succ m ih =>
    intro n k σ e hn h57 h1
    cases n with
    | zero => omega
    | succ n =>
      rw [f_X10_over_2, if_neg (by rw [leI, iZt (by omega), t_19]; omega), gd_t (iZb (show k < 19 by omega) (by omega)), gd_t (iZb (show k < 19 by omega) (by omega)), iZc (by omega), iZs]
      exact ih n (k + 1) _ (by omega) (by omega) (by rw [g_sI_c (by omega)]; exact h57) (fun j hj => by
        by_cases c : j = k
        · subst c; rw [g_sI_eq, h57]
        · rw [g_sI_ne (by omega)]; exact h1 j (by omega))
theorem m_over (σ : St) : ∃ σ', f_X10_over σ = some σ' ∧ (∀ j, j < 19 → gI σ' 46 j = gI σ 57 j) ∧ gI σ' 38 21 = 0 ∧ gI σ' 38 22 = 0 :=
  m_over_go 19 FU 0 σ (by omega) (by unfold FU; omega) rfl (fun j hj => by omega)
theorem m_begin2_go {σ0 : St} : ∀ m n k : Nat, ∀ σ : St, k + m = 12 → m < n → gI σ 46 = gI σ0 46 → (∀ j, j < k → gI σ 47 j = gI σ0 46 j) → ∃ σ', f_X10_begin_58 n (iZ (k : Int)) σ = some σ' ∧ (∀ j, j < 12 → gI σ' 47 j = gI σ0 46 j) ∧ (∀ a, a ≠ 47 → gI σ' a = gI σ a) := by
  intro m
  induction m with
  | zero =>
    intro n k σ e hn h57 h1
    cases n with
    | zero => omega
    | succ n =>
      have hk : k = 12 := by omega
      subst hk
      rw [f_X10_begin_58, if_pos (by rw [leI, iZt (by omega), t_12]; omega)]
      exact ⟨_, rfl, h1, fun _ _ => rfl⟩
  | succ m ih =>
    intro n k σ e hn h57 h1
    cases n with
    | zero => omega
    | succ n =>
      rw [f_X10_begin_58, if_neg (by rw [leI, iZt (by omega), t_12]; omega), Int32.zero_add, gd_t (iZb (show k < 19 by omega) (by omega)), gd_t (iZb (show k < 12 by omega) (by omega)), iZc (by omega), iZs]
      obtain ⟨σ', e1, a1, a2⟩ := ih n (k + 1) (sI σ 47 k (gI σ 46 k)) (by omega) (by omega) (by rw [g_sI_c (by omega)]; exact h57) (fun j hj => by
        by_cases c : j = k
        · subst c; rw [g_sI_eq, h57]
        · rw [g_sI_ne (by omega)]; exact h1 j (by omega))
      exact ⟨σ', e1, a1, fun a ha => by rw [a2 a ha, g_sI_c ha]⟩
theorem m_begin_go {σ0 : St} (x : Int32) : ∀ m n k : Nat, ∀ σ : St, k + m = 19 → m < n → (∀ j, j < k → gI σ 57 j = gI σ0 46 j ∧ gI σ 46 j = if x = 0 then gI σ0 46 j else 0) → (∀ j, k ≤ j → gI σ 46 j = gI σ0 46 j) → (∀ a, a ≠ 46 → a ≠ 57 → gI σ a = gI σ0 a) → ∃ σ', f_X10_begin_12 n x (iZ (k : Int)) σ = some σ' ∧ (∀ j, j < 19 → gI σ' 57 j = gI σ0 46 j ∧ gI σ' 46 j = if x = 0 then gI σ0 46 j else 0) ∧ (∀ j, j < 12 → gI σ' 47 j = gI σ' 46 j) ∧ (∀ a, a ≠ 46 → a ≠ 57 → a ≠ 47 → gI σ' a = gI σ0 a) := by
  intro m
  induction m with
  | zero =>
    intro n k σ e hn h1 h2 h3
    cases n with
    | zero => omega
    | succ n =>
      have hk : k = 19 := by omega
      subst hk
      rw [f_X10_begin_12, if_pos (by rw [leI, iZt (by omega), t_19]; omega)]
      obtain ⟨σ', e1, a1, a2⟩ := m_begin2_go (σ0 := σ) 12 FU 0 σ (by omega) (by unfold FU; omega) rfl (fun j hj => by omega)
      refine ⟨σ', e1, ?_, ?_, ?_⟩
      · rw [a2 57 (by omega), a2 46 (by omega)]; exact h1
      · rw [a2 46 (by omega)]; exact a1
      · intro a n1 n2 n3
        rw [a2 a n3, h3 a n1 n2]
  | succ m ih =>
    intro n k σ e hn h1 h2 h3
    cases n with
    | zero => omega
    | succ n =>
      rw [f_X10_begin_12, if_neg (by rw [leI, iZt (by omega), t_19]; omega)]
      unfold f_X10_begin_49
      simp only [gd_t (iZb (show k < 19 by omega) (show 19 < 2147483648 by omega)), iZc (show k < 2147483648 by omega), iZs]
      have key : ∀ y, y = (if x = 0 then gI σ0 46 k else 0) → ∃ σ', f_X10_begin_12 n x (iZ ((k + 1 : Nat) : Int)) (sI (sI σ 57 k (gI σ 46 k)) 46 k y) = some σ' ∧ (∀ j, j < 19 → gI σ' 57 j = gI σ0 46 j ∧ gI σ' 46 j = if x = 0 then gI σ0 46 j else 0) ∧ (∀ j, j < 12 → gI σ' 47 j = gI σ' 46 j) ∧ (∀ a, a ≠ 46 → a ≠ 57 → a ≠ 47 → gI σ' a = gI σ0 a) := by
        intro y hy
        refine ih n (k + 1) _ (by omega) (by omega) (fun j hj => ?_) (fun j hj => ?_) (fun a n1 n2 => ?_)
        · by_cases c : j = k
          · subst c
            rw [g_sI_ne (by omega), g_sI_eq, g_sI_eq]
            exact ⟨h2 j (by omega), hy⟩
          · rw [g_sI_ne (by omega), g_sI_ne (by omega), g_sI_ne (by omega), g_sI_ne (by omega)]
            exact h1 j (by omega)
        · rw [g_sI_ne (by omega), g_sI_ne (by omega)]; exact h2 j (by omega)
        · rw [g_sI_c n1, g_sI_c n2]; exact h3 a n1 n2
      by_cases c : x = 0
      · rw [if_pos c]
        exact key _ (by rw [if_pos c, g_sI_ne (by omega)]; exact h2 k (by omega))
      · rw [if_neg c]
        exact key _ (by rw [if_neg c])
theorem m_begin (σ : St) (x : Int32) (hx : x = 0 ∨ x = 1) : ∃ σ', f_X10_begin x σ = some σ' ∧ (∀ j, j < 19 → gI σ' 57 j = gI σ 46 j ∧ gI σ' 46 j = if x = 0 then gI σ 46 j else 0) ∧ (∀ j, j < 12 → gI σ' 47 j = gI σ' 46 j) ∧ gI σ' 44 = gI σ 44 ∧ gI σ' 38 21 = 1 ∧ gI σ' 38 22 = x := by
  unfold f_X10_begin
  have hb : isbb x = true := by rcases hx with rfl | rfl <;> rfl
  rw [gd_t hb]
  obtain ⟨σ', e1, a1, a2, a3⟩ := m_begin_go (σ0 := sI (sI σ 38 21 1) 38 22 x) x 19 FU 0 _ (by omega) (by unfold FU; omega) (fun j hj => by omega) (fun j hj => rfl) (fun a _ _ => rfl)
  refine ⟨σ', e1, ?_, a2, ?_, ?_, ?_⟩
  · intro j hj
    have := a1 j hj
    rw [g_sI_c (by omega), g_sI_c (by omega)] at this
    exact this
  · rw [a3 44 (by omega) (by omega) (by omega), g_sI_c (by omega), g_sI_c (by omega)]
  · rw [a3 38 (by omega) (by omega) (by omega), g_sI_ne (by omega), g_sI_eq]
  · rw [a3 38 (by omega) (by omega) (by omega), g_sI_eq]
