/-! A VALLEY: digits, greatest, walks, carries, overs, lacks, left -/
abbrev Vl : Type := (Nat → Int32) × (Nat → Int32) × Int32 × Int32 × Int32 × Int32 × Int32
def upF (f : Nat → Int32) (k : Nat) (v : Int32) : Nat → Int32 := fun j => if j = k then v else f j
def standV (F : Nat → Int32) (k : Nat) (v : Int32) (V : Vl) : Vl := (upF V.1 k (mnI v (F k)), upF V.2.1 k (mxI (V.2.1 k) v), V.2.2.1 + abI (mnI v (F k) - V.1 k), V.2.2.2.1, V.2.2.2.2.1, V.2.2.2.2.2.1 + (v - mnI v (F k)), V.2.2.2.2.2.2)
def ovV (V : Vl) : Vl := (V.1, V.2.1, V.2.2.1, V.2.2.2.1, V.2.2.2.2.1 + 1, V.2.2.2.2.2.1, V.2.2.2.2.2.2)
def caV (V : Vl) : Vl := (V.1, V.2.1, V.2.2.1, V.2.2.2.1 + 1, V.2.2.2.2.1, V.2.2.2.2.2.1, V.2.2.2.2.2.2)
def lfV (x : Int32) (V : Vl) : Vl := (V.1, V.2.1, V.2.2.1, V.2.2.2.1, V.2.2.2.2.1, V.2.2.2.2.2.1, x)
def driveV (F : Nat → Int32) : Nat → Nat → Int32 → Vl → Vl
  | 0, _, _, V => ovV V
  | m + 1, r, y, V => if 0 ≤ (V.1 r + y).toInt ∧ (V.1 r + y).toInt ≤ 9 then standV F r (V.1 r + y) V else driveV F m (r + 1) (if (0 : Int32) ≤ y then 1 else -1) (caV (standV F r (if (0 : Int32) ≤ y then V.1 r + y - 10 else V.1 r + y + 10) V))
def twiceV (F : Nat → Int32) (R : Nat) : Nat → Vl → Vl
  | 0, V => V
  | k + 1, V => twiceV F R k (driveV F (R - k) k (V.1 k) V)
def halveV (F : Nat → Int32) : Nat → Int32 → Vl → Vl
  | 0, x, V => lfV x V
  | k + 1, x, V => halveV F k (rmI (10 * x + V.1 k) 2) (standV F k ((10 * x + V.1 k) / 2) V)
def emptyV (F : Nat → Int32) : Nat → Nat → Vl → Vl
  | 0, _, V => V
  | m + 1, r, V => emptyV F m (r + 1) (standV F r 0 V)
def turnR (x : Int32) (N t : Nat) : Nat := if x = 0 then t else N - 1 - t
def bringV (F : Nat → Int32) (R : Nat) (h : Nat → Nat → Int32) (x : Int32) (N : Nat) : Nat → Vl → Vl
  | 0, V => V
  | m + 1, V => bringV F R h x N m (driveV F (R - turnR x N (N - (m + 1))) (turnR x N (N - (m + 1))) (h (N - (m + 1)) (turnR x N (N - (m + 1)))) V)
def relC (o R : Nat) (F : Nat → Int32) (σ : St) (V : Vl) : Prop := gI σ o 0 = iZ (R : Int) ∧ (∀ j, j < 12 → gI σ (o + 1) j = V.1 j ∧ gI σ (o + 2) j = F j ∧ gI σ (o + 3) j = V.2.1 j) ∧ gI σ o 7 = V.2.2.1 ∧ gI σ o 8 = V.2.2.2.1 ∧ gI σ o 10 = V.2.2.2.2.1 ∧ gI σ o 11 = V.2.2.2.2.2.1 ∧ gI σ o 12 = V.2.2.2.2.2.2
theorem c_stand {o R : Nat} {F : Nat → Int32} {σ : St} {V : Vl} (h : relC o R F σ V) (k : Nat) (hk : k < 12) (v : Int32) : ∃ σ', f_X7_stand o (iZ (k : Int)) v σ = some σ' ∧ relC o R F σ' (standV F k v V) := by
  obtain ⟨h0, h1, h2, h3, h4, h5, h6⟩ := h
  obtain ⟨a1, a2, a3⟩ := h1 k hk
  unfold f_X7_stand f_X7_stand_16 f_X7_stand_27 f_X7_stand_59
  have hb := iZb hk (show 12 < 2147483648 by omega)
  simp only [gd_t hb, iZc (show k < 2147483648 by omega)]
  refine ⟨_, rfl, ?_, ?_, ?_, ?_, ?_, ?_, ?_⟩
  · simp [gI_sI, gI_sJ, gI_sR, gJ_sI, gJ_sJ, gJ_sR, gR_sI, gR_sJ, gR_sR, h0]
  · intro j hj
    obtain ⟨b1, b2, b3⟩ := h1 j hj
    by_cases e : j = k
    · subst e
      simp [gI_sI, gI_sJ, gI_sR, gJ_sI, gJ_sJ, gJ_sR, gR_sI, gR_sJ, gR_sR, standV, upF, a1, a2, a3]
    · simp [gI_sI, gI_sJ, gI_sR, gJ_sI, gJ_sJ, gJ_sR, gR_sI, gR_sJ, gR_sR, standV, upF, b1, b2, b3, e]
  · simp [gI_sI, gI_sJ, gI_sR, gJ_sI, gJ_sJ, gJ_sR, gR_sI, gR_sJ, gR_sR, standV, a1, a2, h2]
  · simp [gI_sI, gI_sJ, gI_sR, gJ_sI, gJ_sJ, gJ_sR, gR_sI, gR_sJ, gR_sR, standV, h3]
  · simp [gI_sI, gI_sJ, gI_sR, gJ_sI, gJ_sJ, gJ_sR, gR_sI, gR_sJ, gR_sR, standV, h4]
  · simp [gI_sI, gI_sJ, gI_sR, gJ_sI, gJ_sJ, gJ_sR, gR_sI, gR_sJ, gR_sR, standV, a2, h5]
  · simp [gI_sI, gI_sJ, gI_sR, gJ_sI, gJ_sJ, gJ_sR, gR_sI, gR_sJ, gR_sR, standV, h6]
theorem relC.ov {o R : Nat} {F : Nat → Int32} {σ : St} {V : Vl} (h : relC o R F σ V) : relC o R F (sI σ o 10 (gI σ o 10 + 1)) (ovV V) := by
  obtain ⟨h0, h1, h2, h3, h4, h5, h6⟩ := h
  refine ⟨?_, ?_, ?_, ?_, ?_, ?_, ?_⟩
  · simp [gI_sI, gI_sJ, gI_sR, gJ_sI, gJ_sJ, gJ_sR, gR_sI, gR_sJ, gR_sR, h0]
  · intro j hj
    obtain ⟨b1, b2, b3⟩ := h1 j hj
    simp [gI_sI, gI_sJ, gI_sR, gJ_sI, gJ_sJ, gJ_sR, gR_sI, gR_sJ, gR_sR, ovV, b1, b2, b3]
  · simp [gI_sI, gI_sJ, gI_sR, gJ_sI, gJ_sJ, gJ_sR, gR_sI, gR_sJ, gR_sR, ovV, h2]
  · simp [gI_sI, gI_sJ, gI_sR, gJ_sI, gJ_sJ, gJ_sR, gR_sI, gR_sJ, gR_sR, ovV, h3]
  · simp [gI_sI, gI_sJ, gI_sR, gJ_sI, gJ_sJ, gJ_sR, gR_sI, gR_sJ, gR_sR, ovV, h4]
  · simp [gI_sI, gI_sJ, gI_sR, gJ_sI, gJ_sJ, gJ_sR, gR_sI, gR_sJ, gR_sR, ovV, h5]
  · simp [gI_sI, gI_sJ, gI_sR, gJ_sI, gJ_sJ, gJ_sR, gR_sI, gR_sJ, gR_sR, ovV, h6]
theorem relC.ca {o R : Nat} {F : Nat → Int32} {σ : St} {V : Vl} (h : relC o R F σ V) : relC o R F (sI σ o 8 (gI σ o 8 + 1)) (caV V) := by
  obtain ⟨h0, h1, h2, h3, h4, h5, h6⟩ := h
  refine ⟨?_, ?_, ?_, ?_, ?_, ?_, ?_⟩
  · simp [gI_sI, gI_sJ, gI_sR, gJ_sI, gJ_sJ, gJ_sR, gR_sI, gR_sJ, gR_sR, h0]
  · intro j hj
    obtain ⟨b1, b2, b3⟩ := h1 j hj
    simp [gI_sI, gI_sJ, gI_sR, gJ_sI, gJ_sJ, gJ_sR, gR_sI, gR_sJ, gR_sR, caV, b1, b2, b3]
  · simp [gI_sI, gI_sJ, gI_sR, gJ_sI, gJ_sJ, gJ_sR, gR_sI, gR_sJ, gR_sR, caV, h2]
  · simp [gI_sI, gI_sJ, gI_sR, gJ_sI, gJ_sJ, gJ_sR, gR_sI, gR_sJ, gR_sR, caV, h3]
  · simp [gI_sI, gI_sJ, gI_sR, gJ_sI, gJ_sJ, gJ_sR, gR_sI, gR_sJ, gR_sR, caV, h4]
  · simp [gI_sI, gI_sJ, gI_sR, gJ_sI, gJ_sJ, gJ_sR, gR_sI, gR_sJ, gR_sR, caV, h5]
  · simp [gI_sI, gI_sJ, gI_sR, gJ_sI, gJ_sJ, gJ_sR, gR_sI, gR_sJ, gR_sR, caV, h6]
theorem relC.lf {o R : Nat} {F : Nat → Int32} {σ : St} {V : Vl} (h : relC o R F σ V) (x : Int32) : relC o R F (sI σ o 12 x) (lfV x V) := by
  obtain ⟨h0, h1, h2, h3, h4, h5, h6⟩ := h
  refine ⟨?_, ?_, ?_, ?_, ?_, ?_, ?_⟩
  · simp [gI_sI, gI_sJ, gI_sR, gJ_sI, gJ_sJ, gJ_sR, gR_sI, gR_sJ, gR_sR, h0]
  · intro j hj
    obtain ⟨b1, b2, b3⟩ := h1 j hj
    simp [gI_sI, gI_sJ, gI_sR, gJ_sI, gJ_sJ, gJ_sR, gR_sI, gR_sJ, gR_sR, lfV, b1, b2, b3]
  · simp [gI_sI, gI_sJ, gI_sR, gJ_sI, gJ_sJ, gJ_sR, gR_sI, gR_sJ, gR_sR, lfV, h2]
  · simp [gI_sI, gI_sJ, gI_sR, gJ_sI, gJ_sJ, gJ_sR, gR_sI, gR_sJ, gR_sR, lfV, h3]
  · simp [gI_sI, gI_sJ, gI_sR, gJ_sI, gJ_sJ, gJ_sR, gR_sI, gR_sJ, gR_sR, lfV, h4]
  · simp [gI_sI, gI_sJ, gI_sR, gJ_sI, gJ_sJ, gJ_sR, gR_sI, gR_sJ, gR_sR, lfV, h5]
  · simp [gI_sI, gI_sJ, gI_sR, gJ_sI, gJ_sJ, gJ_sR, gR_sI, gR_sJ, gR_sR, lfV]
theorem c_drive_go {o R : Nat} {F : Nat → Int32} (hR : R ≤ 12) : ∀ m n r : Nat, ∀ y : Int32, ∀ σ : St, ∀ V : Vl, r + m = R → m < n → relC o R F σ V → ∃ σ', f_X7_drive_5 o n y (iZ (r : Int)) σ = some σ' ∧ relC o R F σ' (driveV F m r y V) := by
  intro m
  induction m with
  | zero =>
    intro n r y σ V e hn h
    cases n with
    | zero => omega
    | succ n =>
      rw [f_X7_drive_5, if_pos (by rw [h.1, leI, iZt (by omega), iZt (by omega)]; omega)]
      exact ⟨_, rfl, h.ov⟩
  | succ m ih =>
    intro n r y σ V e hn h
    cases n with
    | zero => omega
    | succ n =>
      rw [f_X7_drive_5, if_neg (by rw [h.1, leI, iZt (by omega), iZt (by omega)]; omega), gd_t (iZb (show r < 12 by omega) (by omega)), iZc (show r < 2147483648 by omega), (h.2.1 r (by omega)).1]
      unfold f_X7_drive_25 f_X7_drive_38 f_X7_drive_70 f_X7_drive_98
      simp only [s_isDigit, Option.bind_some, bZ_0]
      show ∃ σ', _ ∧ relC o R F σ' (if 0 ≤ (V.1 r + y).toInt ∧ (V.1 r + y).toInt ≤ 9 then standV F r (V.1 r + y) V else driveV F m (r + 1) (if (0 : Int32) ≤ y then 1 else -1) (caV (standV F r (if (0 : Int32) ≤ y then V.1 r + y - 10 else V.1 r + y + 10) V)))
      by_cases q : 0 ≤ (V.1 r + y).toInt ∧ (V.1 r + y).toInt ≤ 9
      · rw [if_neg (not_not_intro q), if_pos q]
        obtain ⟨σ', e1, h1⟩ := c_stand h r (by omega) (V.1 r + y)
        simp only [e1, Option.bind_some, if_true]
        exact ⟨_, rfl, h1⟩
      · rw [if_pos q, if_neg q]
        by_cases y0 : (0 : Int32) ≤ y
        · obtain ⟨σ', e1, h1⟩ := c_stand h r (by omega) (V.1 r + y - 10)
          simp only [if_pos y0, e1, Option.bind_some, ne_10, if_false, iZs]
          exact ih n (r + 1) 1 _ _ (by omega) (by omega) h1.ca
        · obtain ⟨σ', e1, h1⟩ := c_stand h r (by omega) (V.1 r + y + 10)
          simp only [if_neg y0, e1, Option.bind_some, ne_10, if_false, iZs]
          exact ih n (r + 1) (-1) _ _ (by omega) (by omega) h1.ca
theorem c_drive {o R : Nat} {F : Nat → Int32} {σ : St} {V : Vl} (hR : R ≤ 12) (h : relC o R F σ V) (r : Nat) (hr : r ≤ R) (y : Int32) : ∃ σ', f_X7_drive o (iZ (r : Int)) y σ = some σ' ∧ relC o R F σ' (driveV F (R - r) r y V) :=
  c_drive_go hR (R - r) FU r y σ V (by omega) (by unfold FU; omega) h
theorem iZp (k : Nat) : iZ ((k + 1 : Nat) : Int) - 1 = iZ (k : Int) := by
  have h : (1 : Int32) = iZ 1 := rfl
  rw [h, iZ_sub]; congr 1; omega
theorem iZq (k : Nat) : iZ (((k + 1 : Nat) : Int) - 1) = iZ (k : Int) := by congr 1; omega
theorem iZm1 (k : Nat) : iZ (k : Int) + (-1) = iZ ((k : Int) - 1) := by
  have h : (-1 : Int32) = iZ (-1) := rfl
  rw [h, iZ_add]; rfl
theorem iZ_s1 (k : Nat) : iZ (k : Int) - 1 = iZ ((k : Int) - 1) := by
  have h : (1 : Int32) = iZ 1 := rfl
  rw [h, iZ_sub]
theorem iZ_m1n : iZ (((0 : Nat) : Int) - 1) < 0 := by decide
theorem c_twice_go {o R : Nat} {F : Nat → Int32} (hR : R ≤ 12) : ∀ k n : Nat, ∀ σ : St, ∀ V : Vl, k ≤ R → k < n → relC o R F σ V → ∃ σ', f_X7_twice_7 o n (iZ ((k : Int) - 1)) σ = some σ' ∧ relC o R F σ' (twiceV F R k V) := by
  intro k
  induction k with
  | zero =>
    intro n σ V e hn h
    cases n with
    | zero => omega
    | succ n =>
      rw [f_X7_twice_7, if_pos iZ_m1n]
      exact ⟨_, rfl, h⟩
  | succ k ih =>
    intro n σ V e hn h
    cases n with
    | zero => omega
    | succ n =>
      rw [iZq, f_X7_twice_7, if_neg (by rw [lI, iZt (by omega), t_0]; omega), gd_t (iZb (show k < 12 by omega) (by omega)), iZc (show k < 2147483648 by omega), (h.2.1 k (by omega)).1]
      obtain ⟨σ', e1, h1⟩ := c_drive hR h k (by omega) (V.1 k)
      simp only [e1, Option.bind_some, iZm1]
      exact ih n _ _ (by omega) (by omega) h1
theorem c_twice {o R : Nat} {F : Nat → Int32} {σ : St} {V : Vl} (hR : R ≤ 12) (h : relC o R F σ V) : ∃ σ', f_X7_twice o σ = some σ' ∧ relC o R F σ' (twiceV F R R V) := by
  unfold f_X7_twice
  rw [h.1, iZ_s1]
  exact c_twice_go hR R FU σ V (by omega) (by unfold FU; omega) h
theorem c_halve_go {o R : Nat} {F : Nat → Int32} (hR : R ≤ 12) : ∀ k n : Nat, ∀ x : Int32, ∀ σ : St, ∀ V : Vl, k ≤ R → k < n → relC o R F σ V → ∃ σ', f_X7_halve_9 o n x (iZ ((k : Int) - 1)) σ = some σ' ∧ relC o R F σ' (halveV F k x V) := by
  intro k
  induction k with
  | zero =>
    intro n x σ V e hn h
    cases n with
    | zero => omega
    | succ n =>
      rw [f_X7_halve_9, if_pos iZ_m1n]
      exact ⟨_, rfl, h.lf x⟩
  | succ k ih =>
    intro n x σ V e hn h
    cases n with
    | zero => omega
    | succ n =>
      rw [iZq, f_X7_halve_9, if_neg (by rw [lI, iZt (by omega), t_0]; omega), gd_t (iZb (show k < 12 by omega) (by omega)), iZc (show k < 2147483648 by omega), (h.2.1 k (by omega)).1]
      unfold f_X7_halve_25 f_X7_halve_37
      obtain ⟨σ', e1, h1⟩ := c_stand h k (by omega) ((10 * x + V.1 k) / 2)
      simp only [e1, Option.bind_some, iZm1]
      exact ih n _ _ _ (by omega) (by omega) h1
theorem c_halve {o R : Nat} {F : Nat → Int32} {σ : St} {V : Vl} (hR : R ≤ 12) (h : relC o R F σ V) : ∃ σ', f_X7_halve o σ = some σ' ∧ relC o R F σ' (halveV F R 0 V) := by
  unfold f_X7_halve
  rw [h.1, iZ_s1]
  exact c_halve_go hR R FU 0 σ V (by omega) (by unfold FU; omega) h
theorem c_empty_go {o R : Nat} {F : Nat → Int32} (hR : R ≤ 12) : ∀ m n r : Nat, ∀ σ : St, ∀ V : Vl, r + m = R → m < n → relC o R F σ V → ∃ σ', f_X7_empty_2 o n (iZ (r : Int)) σ = some σ' ∧ relC o R F σ' (emptyV F m r V) := by
  intro m
  induction m with
  | zero =>
    intro n r σ V e hn h
    cases n with
    | zero => omega
    | succ n =>
      rw [f_X7_empty_2, if_pos (by rw [h.1, leI, iZt (by omega), iZt (by omega)]; omega)]
      exact ⟨_, rfl, h⟩
  | succ m ih =>
    intro n r σ V e hn h
    cases n with
    | zero => omega
    | succ n =>
      rw [f_X7_empty_2, if_neg (by rw [h.1, leI, iZt (by omega), iZt (by omega)]; omega)]
      obtain ⟨σ', e1, h1⟩ := c_stand h r (by omega) 0
      simp only [e1, Option.bind_some, iZs]
      exact ih n (r + 1) _ _ (by omega) (by omega) h1
theorem c_empty {o R : Nat} {F : Nat → Int32} {σ : St} {V : Vl} (hR : R ≤ 12) (h : relC o R F σ V) : ∃ σ', f_X7_empty o σ = some σ' ∧ relC o R F σ' (emptyV F R 0 V) :=
  c_empty_go hR R FU 0 σ V (by omega) (by unfold FU; omega) h
