/-! AN ACT, on both sides -/
def actE (F : Nat → Int32) (R : Nat) (E : Nat → Int32) (D : Int64) (od x : Int32) (v : Nat) (V : Vl) : Vl := if x = 0 then bringV F R (fun t r => sgZ 0 (heI E D v t r)) od (topN v R) (topN v R) (ovIf v R V) else if x = 1 then bringV F R (fun t r => sgZ 1 (heI E D v t r)) od (topN v R) (topN v R) (ovIf v R V) else actV F R x V
def drE (D : Int64) (R : Nat) (x : Int32) (v : Nat) : Int64 := if x = 0 then lcN D (topN v R) else if x = 1 then lcN D (topN v R) else D
theorem relC.mi {o R : Nat} {F : Nat → Int32} {σ : St} {V : Vl} (h : relC o R F σ V) (x : Int32) : relC o R F (sI σ o 9 x) V := by
  obtain ⟨h0, h1, h2, h3, h4, h5, h6⟩ := h
  refine ⟨?_, ?_, ?_, ?_, ?_, ?_, ?_⟩
  · simp [gI_sI, gI_sJ, gI_sR, gJ_sI, gJ_sJ, gJ_sR, gR_sI, gR_sJ, gR_sR, h0]
  · intro j hj
    obtain ⟨b1, b2, b3⟩ := h1 j hj
    simp [gI_sI, gI_sJ, gI_sR, gJ_sI, gJ_sJ, gJ_sR, gR_sI, gR_sJ, gR_sR, b1, b2, b3]
  · simp [gI_sI, gI_sJ, gI_sR, gJ_sI, gJ_sJ, gJ_sR, gR_sI, gR_sJ, gR_sR, h2]
  · simp [gI_sI, gI_sJ, gI_sR, gJ_sI, gJ_sJ, gJ_sR, gR_sI, gR_sJ, gR_sR, h3]
  · simp [gI_sI, gI_sJ, gI_sR, gJ_sI, gJ_sJ, gJ_sR, gR_sI, gR_sJ, gR_sR, h4]
  · simp [gI_sI, gI_sJ, gI_sR, gJ_sI, gJ_sJ, gJ_sR, gR_sI, gR_sJ, gR_sR, h5]
  · simp [gI_sI, gI_sJ, gI_sR, gJ_sI, gJ_sJ, gJ_sR, gR_sI, gR_sJ, gR_sR, h6]
theorem perf_fin {o R : Nat} {F : Nat → Int32} {σ : St} {V : Vl} {t W C p q : Int32} (ho : ¬ o = 0) (h : relC o R F σ V) (e9 : gI σ o 9 = t + W * p + C * q) (ep : gI σ 0 15 = p) (eq : gI σ 0 16 = q) : relC o R F (sI σ o 9 ((gI σ o 9) + ((((gI σ o 7) - W) * (gI σ 0 15)) + (((gI σ o 8) - C) * (gI σ 0 16))))) V ∧ gI (sI σ o 9 ((gI σ o 9) + ((((gI σ o 7) - W) * (gI σ 0 15)) + (((gI σ o 8) - C) * (gI σ 0 16))))) o 9 = t + V.2.2.1 * p + V.2.2.2.1 * q := by
  refine ⟨h.mi _, ?_⟩
  rw [g_sI_eq, e9, ep, eq, h.2.2.1, h.2.2.2.1, mn3]
theorem c_perf {R : Nat} {F : Nat → Int32} {σ : St} {V : Vl} {t p q od : Int32} (hR : R ≤ 12) (h : relC 1 R F σ V) (e9 : gI σ 1 9 = t + V.2.2.1 * p + V.2.2.2.1 * q) (eo : gI σ 0 14 = od) (ep : gI σ 0 15 = p) (eq : gI σ 0 16 = q) (x : Int32) (v : Nat) (hv : v < 10 ^ 9) : ∃ σ', f_X9_perform_e 1 x (iZ (v : Int)) σ = some σ' ∧ relC 1 R F σ' (actE F R (gI σ 16) (gJ σ 1 6) od x v V) ∧ gI σ' 1 9 = t + (actE F R (gI σ 16) (gJ σ 1 6) od x v V).2.2.1 * p + (actE F R (gI σ 16) (gJ σ 1 6) od x v V).2.2.2.1 * q ∧ gJ σ' 1 6 = drE (gJ σ 1 6) R x v := by
  unfold f_X9_perform_e f_X9_perform_e_6 f_X9_perform_e_12 f_X9_perform_e_92
  rw [h.2.2.1, h.2.2.2.1, eo]
  unfold actE drE
  by_cases c0 : x = 0
  · simp only [if_pos c0]
    obtain ⟨σ', e1, h1, d1⟩ := c_bring_e (o := 1) (Or.inr (by omega)) hR h v hv 0 od
    simp only [e1, Option.bind_some]
    have sm := (fr_X7_bring_e 1 e1).same (C := []) (G := [(1, 9), (0, 15), (0, 16)]) rfl
    obtain ⟨a1, a2⟩ := perf_fin (by omega) h1 (by rw [sm.I 1 9]; exact e9) (by rw [sm.I 0 15]; exact ep) (by rw [sm.I 0 16]; exact eq)
    exact ⟨_, rfl, a1, a2, d1⟩
  · simp only [if_neg c0]
    by_cases c1 : x = 1
    · simp only [if_pos c1]
      obtain ⟨σ', e1, h1, d1⟩ := c_bring_e (o := 1) (Or.inr (by omega)) hR h v hv 1 od
      simp only [e1, Option.bind_some]
      have sm := (fr_X7_bring_e 1 e1).same (C := []) (G := [(1, 9), (0, 15), (0, 16)]) rfl
      obtain ⟨a1, a2⟩ := perf_fin (by omega) h1 (by rw [sm.I 1 9]; exact e9) (by rw [sm.I 0 15]; exact ep) (by rw [sm.I 0 16]; exact eq)
      exact ⟨_, rfl, a1, a2, d1⟩
    · simp only [if_neg c1]
      unfold actV
      by_cases c2 : x = 2
      · simp only [if_pos c2]
        obtain ⟨σ', e1, h1⟩ := c_twice hR h
        simp only [e1, Option.bind_some]
        have sm := (fr_X7_twice 1 e1).same (C := []) (G := [(1, 9), (0, 15), (0, 16), (1, 6)]) rfl
        obtain ⟨a1, a2⟩ := perf_fin (by omega) h1 (by rw [sm.I 1 9]; exact e9) (by rw [sm.I 0 15]; exact ep) (by rw [sm.I 0 16]; exact eq)
        exact ⟨_, rfl, a1, a2, sm.J 1 6⟩
      · simp only [if_neg c2]
        by_cases c3 : x = 3
        · simp only [if_pos c3]
          obtain ⟨σ', e1, h1⟩ := c_halve hR h
          simp only [e1, Option.bind_some]
          have sm := (fr_X7_halve 1 e1).same (C := []) (G := [(1, 9), (0, 15), (0, 16), (1, 6)]) rfl
          obtain ⟨a1, a2⟩ := perf_fin (by omega) h1 (by rw [sm.I 1 9]; exact e9) (by rw [sm.I 0 15]; exact ep) (by rw [sm.I 0 16]; exact eq)
          exact ⟨_, rfl, a1, a2, sm.J 1 6⟩
        · simp only [if_neg c3]
          obtain ⟨σ', e1, h1⟩ := c_empty hR h
          simp only [e1, Option.bind_some]
          have sm := (fr_X7_empty 1 e1).same (C := []) (G := [(1, 9), (0, 15), (0, 16), (1, 6)]) rfl
          obtain ⟨a1, a2⟩ := perf_fin (by omega) h1 (by rw [sm.I 1 9]; exact e9) (by rw [sm.I 0 15]; exact ep) (by rw [sm.I 0 16]; exact eq)
          exact ⟨_, rfl, a1, a2, sm.J 1 6⟩
/-- the model's act -/
def mAct (x : Int32) (v : Nat) (τ : St) : Option St := if x = 0 then f_X10_addOf (iZ (v : Int)) 1 τ else if x = 1 then f_X10_addOf (iZ (v : Int)) (-1) τ else f_X10_actOf x τ
def mAct1 (x : Int32) (v : Nat) (τ : St) : Option St := if x = 0 then f_X10_addOf_11 (iZ (v : Int)) 1 τ else if x = 1 then f_X10_addOf_11 (iZ (v : Int)) (-1) τ else f_X10_actOf_11 x τ
theorem mAct_0 (x : Int32) (v : Nat) {τ τ1 : St} (h : gI τ 38 21 = 0) (e : f_X10_keep τ = some τ1) : mAct x v τ = mAct1 x v τ1 := by
  unfold mAct mAct1 f_X10_addOf f_X10_actOf
  simp only [if_pos h, e, Option.bind_some]
theorem sgZ0 (y : Int32) : sgZ 0 y = y := if_pos rfl
theorem sgZ1 (y : Int32) : sgZ 1 y = -y := if_neg (by decide)
theorem hs0 (E : Nat → Int32) (D : Int64) (v : Nat) : (fun t r => (1 : Int32) * heI E D v t r) = (fun t r => sgZ 0 (heI E D v t r)) := by
  funext t r
  generalize heI E D v t r = y
  rw [sg1, sgZ0]
theorem hs1 (E : Nat → Int32) (D : Int64) (v : Nat) : (fun t r => (-1 : Int32) * heI E D v t r) = (fun t r => sgZ 1 (heI E D v t r)) := by
  funext t r
  generalize heI E D v t r = y
  rw [sgm, sgZ1]
theorem m_perf {R : Nat} {F E : Nat → Int32} {p q a t od : Int32} {σ : St} {V : Vl} (hR : R ≤ 12) (hF : okF F) (ok : okD V) (h : relM R F p q a t σ V) (x : Int32) (v : Nat) (hv : v < 10 ^ 9) (ho : gI σ 38 11 = od) (hp : gI σ 38 21 = 0) (hE : ∀ d, d < 10 → (∀ k, k < 10 → k ≠ d → gI σ 45 (10 * d + k) = E (10 * d + k)) ∧ gI σ 45 (11 * d) = 0) : ∃ σ', mAct1 x v σ = some σ' ∧ relM R F p q (a + 1) t σ' (actE F R E (gJ σ 38 18) od x v V) ∧ okD (actE F R E (gJ σ 38 18) od x v V) ∧ gJ σ' 38 18 = drE (gJ σ 38 18) R x v := by
  unfold mAct1 actE drE
  by_cases c0 : x = 0
  · simp only [if_pos c0]
    have := m_adde hR hF ok h E v hv 1 od (Or.inl rfl) ho hp hE
    rw [hs0] at this
    exact this
  · simp only [if_neg c0]
    by_cases c1 : x = 1
    · simp only [if_pos c1]
      have := m_adde hR hF ok h E v hv (-1) od (Or.inr rfl) ho hp hE
      rw [hs1] at this
      exact this
    · simp only [if_neg c1]
      obtain ⟨σ', e1, h1, ok1⟩ := m_actOf hR hF ok h x
      refine ⟨σ', e1, h1, ok1, ?_⟩
      exact ((fs_X10_actOf_11 _ _ e1).same (C := []) (G := [(38, 18)]) rfl).J 38 18
theorem mAct1_fr {x : Int32} {v : Nat} {τ τ1 : St} (h : mAct1 x v τ = some τ1) : frm [46, 47, 48] [(38, 18)] τ τ1 := by
  unfold mAct1 at h
  by_cases c0 : x = 0
  · rw [if_pos c0] at h
    exact (fs_X10_addOf_11 _ _ _ h).mo (by decide) (by decide)
  · rw [if_neg c0] at h
    by_cases c1 : x = 1
    · rw [if_pos c1] at h
      exact (fs_X10_addOf_11 _ _ _ h).mo (by decide) (by decide)
    · rw [if_neg c1] at h
      exact (fs_X10_actOf_11 _ _ h).mo (by decide) (by decide)
def Rpast2 (σ τ : St) : Prop := gI τ 38 27 = gI σ 9 2 ∧ gI τ 38 28 = gI σ 9 1 ∧ rg (gI σ 9 1) 0 39 ∧ rg (gI σ 9 2) 0 40 ∧
  (∀ i, i < 40 → (∀ j, j < 12 → rg (gI τ 49 (19 * i + j)) 0 9) ∧ (∀ j : Nat, j < 12 → (gI σ 1 0).toInt ≤ j → gI τ 49 (19 * i + j) = 0) ∧ gJ σ 10 (8 * i) = jZ (vsum (fun j => (gI τ 49 (19 * i + j)).toInt) 12) ∧ gJ σ 10 (8 * i + 1) = gJ τ 50 i ∧
    ∀ k, k < 6 → gJ σ 10 (8 * i + 2 + k) = (gI τ 49 (19 * i + 12 + k)).toInt64) ∧
  ∀ t, t < (gI σ 9 2).toInt.toNat → gI τ 49 (19 * (((gI σ 9 1).toInt.toNat + 39 - t) % 40) + 18) = gI σ 0 13 - 1 - nI t
theorem past2_self {σ : St} : Rpast2 σ σ = Rpast σ := rfl
def Rnow2 (σ τ : St) : Prop := (∀ k, k < 6 → gI τ 46 (12 + k) = gI σ 1 (7 + k)) ∧ gI τ 46 18 = gI σ 0 13
def Rfix2 (σ τ : St) : Prop := gI τ 38 1 = gI σ 1 0 ∧ rg (gI σ 1 0) 2 12 ∧ gI τ 38 11 = gI σ 0 14 ∧ gI τ 38 12 = gI σ 0 15 ∧ gI τ 38 13 = gI σ 0 16 ∧ gI τ 44 = gI σ 3 ∧ (∀ j, j < 12 → rg (gI σ 3 j) 0 12) ∧ (∀ d, d < 10 → (∀ k, k < 10 → k ≠ d → gI τ 45 (10 * d + k) = gI σ 16 (10 * d + k)) ∧ gI τ 45 (11 * d) = 0) ∧ gI τ 38 21 = 0 ∧ gI τ 38 22 = 0
def Rdig2 (σ τ : St) : Prop := (∀ j, j < 12 → gI τ 46 j = gI σ 2 j ∧ rg (gI σ 2 j) 0 9) ∧ ∀ j : Nat, j < 12 → (gI σ 1 0).toInt ≤ j → gI σ 2 j = 0
def Act2 (σ τ : St) : Prop := Rfix2 σ τ ∧ Rdig2 σ τ ∧ Rnow2 σ τ ∧ gJ τ 38 18 = gJ σ 1 6 ∧ Rpast2 σ τ
abbrev CactC : List Nat := [3, 16]
abbrev GactC : List (Nat × Nat) := [(1, 0), (0, 14), (0, 15), (0, 16)]
abbrev CactM : List Nat := [44, 45]
abbrev GactM : List (Nat × Nat) := [(38, 1), (38, 11), (38, 12), (38, 13), (38, 21), (38, 22)]
theorem Rfix2.to {σ τ σ' τ' : St} (h : Rfix2 σ τ) (a : sameOn CactC GactC σ σ') (b : sameOn CactM GactM τ τ') : Rfix2 σ' τ' := by
  unfold Rfix2 at h ⊢
  rw [b.I 38 1, a.I 1 0, b.I 38 11, a.I 0 14, b.I 38 12, a.I 0 15, b.I 38 13, a.I 0 16, b.cI 44, a.cI 3, b.cI 45, a.cI 16, b.I 38 21, b.I 38 22]
  exact h
theorem mab (m a b : Int32) : m = m - a - b + a + b := by
  rw [← iZ_self m, ← iZ_self a, ← iZ_self b]
  simp only [iZ_add, iZ_sub]
  congr 1; omega
theorem mn_sw (a : Int32) : mnI 40 a = mnI a 40 ∨ a = 40 := by
  unfold mnI
  by_cases c : a < 40
  · left
    rw [if_pos c]
    rw [lI] at c
    rw [if_neg (by rw [lI]; omega)]
  · by_cases c2 : (40 : Int32) < a
    · left
      rw [if_neg c, if_pos c2]
    · right
      rw [lI] at c c2
      rw [eI]; omega
theorem mn40 {a : Int32} : mnI 40 a = mnI a 40 := by
  rcases mn_sw a with h | h
  · exact h
  · rw [h]
