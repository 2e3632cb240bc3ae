/-! ACTS ON THE SIDE -/
def actP (F : Nat → Int32) (R : Nat) (od x : Int32) (v : Nat) (V : Vl) : Vl := if x = 0 then bringV F R (fun _ r => sgZ 0 (dgI v r)) od (topN v R) (topN v R) (ovIf v R V) else if x = 1 then bringV F R (fun _ r => sgZ 1 (dgI v r)) od (topN v R) (topN v R) (ovIf v R V) else actV F R x V
theorem shR.ap {a b c d : Int32} {F : Nat → Int32} {R : Nat} {V W : Vl} (h : shR a b c d V W) (od x : Int32) (v : Nat) : shR a b c d (actP F R od x v V) (actP F R od x v W) := by
  unfold actP
  split
  · exact shR.bring _ _ _ (h.oi _ _)
  · split
    · exact shR.bring _ _ _ (h.oi _ _)
    · exact h.act x
theorem c_perfn {o R : Nat} {F : Nat → Int32} {σ : St} {V : Vl} {t p q od : Int32} (ho : ¬ o = 0) (hR : R ≤ 12) (h : relC o R F σ V) (e9 : gI σ o 9 = t + V.2.2.1 * p + V.2.2.2.1 * q) (eo : gI σ 0 14 = od) (ep : gI σ 0 15 = p) (eq : gI σ 0 16 = q) (x : Int32) (v : Nat) (hv : v < 10 ^ 9) : ∃ σ', f_X9_perform_n o x (iZ (v : Int)) σ = some σ' ∧ relC o R F σ' (actP F R od x v V) ∧ gI σ' o 9 = t + (actP F R od x v V).2.2.1 * p + (actP F R od x v V).2.2.2.1 * q := by
  unfold f_X9_perform_n f_X9_perform_n_6 f_X9_perform_n_12 f_X9_perform_n_92
  rw [h.2.2.1, h.2.2.2.1, eo]
  unfold actP
  have fin : ∀ (σ' : St) (V' : Vl), relC o R F σ' V' → gI σ' o 9 = gI σ o 9 → gI σ' 0 15 = gI σ 0 15 → gI σ' 0 16 = gI σ 0 16 → ∃ σ'', some (sI σ' o 9 ((gI σ' o 9) + ((((gI σ' o 7) - V.2.2.1) * (gI σ' 0 15)) + (((gI σ' o 8) - V.2.2.2.1) * (gI σ' 0 16))))) = some σ'' ∧ relC o R F σ'' V' ∧ gI σ'' o 9 = t + V'.2.2.1 * p + V'.2.2.2.1 * q := by
    intro σ' V' h1 c1 c2 c3
    obtain ⟨a1, a2⟩ := perf_fin ho h1 (by rw [c1]; exact e9) (by rw [c2]; exact ep) (by rw [c3]; exact eq)
    exact ⟨_, rfl, a1, a2⟩
  have fr1 : ∀ (σ' : St) (W : List (Nat × Nat)), frm [o + 1, o + 3] W σ σ' → (∀ k, (o, k) ∈ W → k ≠ 9) → (∀ k, (0, k) ∉ W) → gI σ' o 9 = gI σ o 9 ∧ gI σ' 0 15 = gI σ 0 15 ∧ gI σ' 0 16 = gI σ 0 16 := by
    intro σ' W hf h9 h0
    refine ⟨(hf o 9 (by simp) (fun c => h9 9 c rfl)).1, (hf 0 15 (by simp) (h0 15)).1, (hf 0 16 (by simp) (h0 16)).1⟩
  by_cases c0 : x = 0
  · simp only [if_pos c0]
    obtain ⟨σ', e1, h1⟩ := c_bring_n hR h v hv 0 od
    simp only [e1, Option.bind_some]
    obtain ⟨u1, u2, u3⟩ := fr1 σ' _ (fr_X7_bring_n o e1) (by simp) (by simp; omega)
    exact fin _ _ h1 u1 u2 u3
  · simp only [if_neg c0]
    by_cases c1 : x = 1
    · simp only [if_pos c1]
      obtain ⟨σ', e1, h1⟩ := c_bring_n hR h v hv 1 od
      simp only [e1, Option.bind_some]
      obtain ⟨u1, u2, u3⟩ := fr1 σ' _ (fr_X7_bring_n o e1) (by simp) (by simp; omega)
      exact fin _ _ h1 u1 u2 u3
    · simp only [if_neg c1]
      unfold actV
      by_cases c2 : x = 2
      · simp only [if_pos c2]
        obtain ⟨σ', e1, h1⟩ := c_twice hR h
        simp only [e1, Option.bind_some]
        obtain ⟨u1, u2, u3⟩ := fr1 σ' _ (fr_X7_twice o e1) (by simp) (by simp; omega)
        exact fin _ _ h1 u1 u2 u3
      · simp only [if_neg c2]
        by_cases c3 : x = 3
        · simp only [if_pos c3]
          obtain ⟨σ', e1, h1⟩ := c_halve hR h
          simp only [e1, Option.bind_some]
          obtain ⟨u1, u2, u3⟩ := fr1 σ' _ (fr_X7_halve o e1) (by simp) (by simp; omega)
          exact fin _ _ h1 u1 u2 u3
        · simp only [if_neg c3]
          obtain ⟨σ', e1, h1⟩ := c_empty hR h
          simp only [e1, Option.bind_some]
          obtain ⟨u1, u2, u3⟩ := fr1 σ' _ (fr_X7_empty o e1) (by simp) (by simp; omega)
          exact fin _ _ h1 u1 u2 u3
theorem mAct_1 (x : Int32) (v : Nat) {τ : St} (h : ¬ gI τ 38 21 = 0) : mAct x v τ = mAct1 x v τ := by
  unfold mAct mAct1 f_X10_addOf f_X10_actOf
  simp only [if_neg h]
theorem hp0 (v : Nat) : (fun (_ : Nat) r => (1 : Int32) * dgI v r) = (fun _ r => sgZ 0 (dgI v r)) := by
  funext t r
  generalize dgI v r = y
  rw [sg1, sgZ0]
theorem hp1 (v : Nat) : (fun (_ : Nat) r => (-1 : Int32) * dgI v r) = (fun _ r => sgZ 1 (dgI v r)) := by
  funext t r
  generalize dgI v r = y
  rw [sgm, sgZ1]
theorem m_plain {R : Nat} {F : Nat → Int32} {p q a t od : Int32} {σ : St} {V : Vl} (hR : R ≤ 12) (hF : okF F) (ok : okD V) (h : relM R F p q a t σ V) (x : Int32) (v : Nat) (hv : v < 10 ^ 9) (ho : gI σ 38 11 = od) (hp : ¬ gI σ 38 21 = 0) : ∃ σ', mAct x v σ = some σ' ∧ relM R F p q (a + 1) t σ' (actP F R od x v V) ∧ okD (actP F R od x v V) ∧ gJ σ' 38 18 = gJ σ 38 18 ∧ frm [46, 47, 48] [(38, 18)] σ σ' := by
  have go : ∃ σ', mAct x v σ = some σ' ∧ relM R F p q (a + 1) t σ' (actP F R od x v V) ∧ okD (actP F R od x v V) ∧ gJ σ' 38 18 = gJ σ 38 18 := by
    unfold mAct actP
    by_cases c0 : x = 0
    · simp only [if_pos c0]
      have := m_addn hR hF ok h v hv 1 od (Or.inl rfl) ho hp
      rw [hp0] at this
      exact this
    · simp only [if_neg c0]
      by_cases c1 : x = 1
      · simp only [if_pos c1]
        have := m_addn hR hF ok h v hv (-1) od (Or.inr rfl) ho hp
        rw [hp1] at this
        exact this
      · simp only [if_neg c1]
        obtain ⟨σ', e1, h1, ok1⟩ := m_actOf hR hF ok h x
        refine ⟨σ', ?_, h1, ok1, ((fs_X10_actOf_11 _ _ e1).same (C := []) (G := [(38, 18)]) rfl).J 38 18⟩
        unfold f_X10_actOf
        rw [if_neg hp]; exact e1
  obtain ⟨σ', e1, h1, ok1, d1⟩ := go
  refine ⟨σ', e1, h1, ok1, d1, ?_⟩
  rw [mAct_1 x v hp] at e1
  exact mAct1_fr e1
/-- CHEAPER -/
abbrev V00 (σ : St) : Vl := (gI σ 2, gI σ 2, 0, 0, 0, 0, 0)
def wOf (σ : St) (R : Nat) (od : Int32) (v : Nat) : Int32 := (bringV (gI σ 3) R (fun _ r => sgZ 0 (dgI v r)) od (topN v R) (topN v R) (ovIf v R (V00 σ))).2.2.1
theorem c_wbo {R : Nat} {σ : St} (hR : R ≤ 12) (h : gI σ 1 0 = iZ (R : Int)) (v : Nat) (hv : v < 10 ^ 9) (od : Int32) : ∃ σ', f_X9_walksByOrder (iZ (v : Int)) od σ = some (wOf σ R od v, σ') := by
  unfold f_X9_walksByOrder
  obtain ⟨s1, e1, h1, _⟩ := c_beginAs h
  obtain ⟨s2, e2, h2⟩ := c_bring_n hR h1 v hv 0 od
  simp only [e1, e2, Option.bind_some]
  exact ⟨s2, by rw [h2.2.2.1]; rfl⟩
theorem wOf_to {σ σ' : St} (a : sameOn [2, 3] [] σ σ') (R : Nat) (od : Int32) (v : Nat) : wOf σ' R od v = wOf σ R od v := by
  unfold wOf V00
  rw [a.cI 2, a.cI 3]
theorem m_begin0 {R : Nat} {σ τ : St} (hd : ∀ j, j < 12 → gI τ 46 j = gI σ 2 j) (h1 : gI τ 38 1 = iZ (R : Int)) (h44 : gI τ 44 = gI σ 3) : ∃ τ', f_X10_begin 0 τ = some τ' ∧ relM R (gI σ 3) (gI τ 38 12) (gI τ 38 13) (gI τ 46 18) (gI τ 46 14 - gI τ 46 12 * gI τ 38 12 - gI τ 46 13 * gI τ 38 13) τ' (gI σ 2, gI σ 2, gI τ 46 12, gI τ 46 13, gI τ 46 15, gI τ 46 16, gI τ 46 17) ∧ (∀ j, j < 19 → gI τ' 57 j = gI τ 46 j) ∧ gI τ' 38 21 = 1 := by
  obtain ⟨τ', e1, a1, a2, a3, a4, a5⟩ := m_begin τ 0 (Or.inl rfl)
  have sm := (fr_X10_begin e1).same (C := []) (G := [(38, 1), (38, 12), (38, 13)]) rfl
  refine ⟨τ', e1, ⟨by rw [sm.I 38 1]; exact h1, sm.I 38 12, sm.I 38 13, fun j hj => ?_, Or.inl ⟨a5, fun j hj => by rw [a3, h44]⟩, ?_, ?_, ?_, ?_, ?_, ?_, ?_⟩, fun j hj => (a1 j hj).1, a4⟩
  · have := (a1 j (by omega)).2
    rw [if_pos rfl, hd j hj] at this
    exact ⟨this, by rw [a2 j hj]; exact this⟩
  · exact (a1 12 (by omega)).2
  · exact (a1 13 (by omega)).2
  · rw [(a1 14 (by omega)).2, if_pos rfl]; exact mab _ _ _
  · exact (a1 15 (by omega)).2
  · exact (a1 16 (by omega)).2
  · exact (a1 17 (by omega)).2
  · exact (a1 18 (by omega)).2
theorem sh_0 {σ τ : St} (a b c d e : Int32) : shR a b c d (V00 σ) (gI σ 2, gI σ 2, a, b, c, d, e) := ⟨rfl, rfl, (Int32.zero_add a).symm, (Int32.zero_add b).symm, (Int32.zero_add c).symm, (Int32.zero_add d).symm⟩
abbrev Ckeep : List Nat := [2, 3, 44, 45, 49, 50]
theorem m_try {R : Nat} {σ τ : St} (hR : R ≤ 12) (hF : okF (gI σ 3)) (ok : ∀ j, j < 12 → rg (gI σ 2 j) 0 9) (hd : ∀ j, j < 12 → gI τ 46 j = gI σ 2 j) (h1 : gI τ 38 1 = iZ (R : Int)) (h44 : gI τ 44 = gI σ 3) (v : Nat) (hv : v < 10 ^ 9) (od : Int32) : ∃ τ1 τ2 τ3, f_X10_begin 0 τ = some τ1 ∧ f_X10_addOf (iZ (v : Int)) 1 (sI τ1 38 11 od) = some τ2 ∧ gI τ2 46 12 - gI τ2 57 12 = wOf σ R od v ∧ f_X10_over τ2 = some τ3 ∧ (∀ j, j < 19 → gI τ3 46 j = gI τ 46 j) ∧ gI τ3 38 21 = 0 ∧ gI τ3 38 22 = 0 ∧ gJ τ3 38 18 = gJ τ 38 18 ∧ frm [46, 47, 48, 57] [(38, 11), (38, 18), (38, 21), (38, 22)] τ τ3 := by
  obtain ⟨τ1, e1, r1, k1, k2⟩ := m_begin0 hd h1 h44
  have r1' : relM R (gI σ 3) (gI τ 38 12) (gI τ 38 13) (gI τ 46 18) (gI τ 46 14 - gI τ 46 12 * gI τ 38 12 - gI τ 46 13 * gI τ 38 13) (sI τ1 38 11 od) (gI σ 2, gI σ 2, gI τ 46 12, gI τ 46 13, gI τ 46 15, gI τ 46 16, gI τ 46 17) := by
    obtain ⟨h0, hp, hq, b1, hf, b2, b3, b4, b5, b6, b7, b8⟩ := r1
    refine ⟨?_, ?_, ?_, ?_, ?_, ?_, ?_, ?_, ?_, ?_, ?_, ?_⟩
    · rw [g_sI_ne (by omega)]; exact h0
    · rw [g_sI_ne (by omega)]; exact hp
    · rw [g_sI_ne (by omega)]; exact hq
    · rw [g_sI_c (by omega), g_sI_c (by omega)]; exact b1
    · rw [g_sI_ne (by omega), g_sI_c (by omega)]; exact hf
    · rw [g_sI_c (by omega)]; exact b2
    · rw [g_sI_c (by omega)]; exact b3
    · rw [g_sI_c (by omega)]; exact b4
    · rw [g_sI_c (by omega)]; exact b5
    · rw [g_sI_c (by omega)]; exact b6
    · rw [g_sI_c (by omega)]; exact b7
    · rw [g_sI_c (by omega)]; exact b8
  obtain ⟨τ2, e2, r2, _, d2, f2⟩ := m_plain (od := od) hR hF (show okD (gI σ 2, gI σ 2, gI τ 46 12, gI τ 46 13, gI τ 46 15, gI τ 46 16, gI τ 46 17) from ok) r1' 0 v hv g_sI_eq (by rw [g_sI_ne (by omega), k2]; decide)
  have e2' : f_X10_addOf (iZ (v : Int)) 1 (sI τ1 38 11 od) = some τ2 := by
    unfold mAct at e2
    rw [if_pos rfl] at e2; exact e2
  have sm := f2.same (C := [57]) (G := []) rfl
  obtain ⟨τ3, e3, a1, a2, a3⟩ := m_over τ2
  refine ⟨τ1, τ2, τ3, e1, e2', ?_, e3, ?_, a2, a3, ?_, ?_⟩
  · rw [r2.2.2.2.2.2.1, sm.cI 57, g_sI_c (by omega), k1 12 (by omega)]
    have sh := (sh_0 (σ := σ) (τ := τ) (gI τ 46 12) (gI τ 46 13) (gI τ 46 15) (gI τ 46 16) (gI τ 46 17)).ap (F := gI σ 3) (R := R) od 0 v
    rw [sh.2.2.1, Int32.add_sub_cancel]
    unfold actP wOf
    rw [if_pos rfl]
  · intro j hj
    rw [a1 j hj, sm.cI 57, g_sI_c (by omega), k1 j hj]
  · have s3 := (fr_X10_over e3).same (C := []) (G := [(38, 18)]) rfl
    have s1 := (fr_X10_begin e1).same (C := []) (G := [(38, 18)]) rfl
    rw [s3.J 38 18, d2, gJ_sI, s1.J 38 18]
  · refine frm.tr ((fr_X10_begin e1).mo (by decide) (by decide)) (frm.tr (frm_sIf (frm.rf _) (by decide)) (frm.tr (f2.mo (by decide) (by decide)) ((fr_X10_over e3).mo (by decide) (by decide))))
theorem cheap_step {τ τ1 τ2 τ3 : St} {X x5 W : Int32} (hx : ¬ (2 : Int32) ≤ x5) (a1 : f_X10_begin 0 τ = some τ1) (a2 : f_X10_addOf X 1 (sI τ1 38 11 x5) = some τ2) (a3 : gI τ2 46 12 - gI τ2 57 12 = W) (a4 : f_X10_over τ2 = some τ3) (N : Nat) (w x3 x4 : Int32) : f_X10_cheaper_27 (N + 1) X w x3 x4 x5 τ = (if x5 = 1 then (if x4 ≤ W then f_X10_cheaper_88 (f_X10_cheaper_27 N) X w x3 x4 x5 W τ3 else f_X10_cheaper_89 (f_X10_cheaper_27 N) X w x4 x5 W 1 τ3) else f_X10_cheaper_88 (f_X10_cheaper_27 N) X w x3 x4 x5 W τ3) := by
  rw [f_X10_cheaper_27, if_neg hx, a1]
  show (f_X10_addOf X 1 (sI τ1 38 11 x5)).bind _ = _
  rw [a2]
  show f_X10_cheaper_67 (f_X10_cheaper_27 N) X w x3 x4 x5 (gI τ2 46 12 - gI τ2 57 12) τ2 = _
  rw [a3]
  unfold f_X10_cheaper_67
  rw [a4]
  rfl
theorem m_cheaper {σ : St} (n : Int32) (b : Rrop σ) (c : Rdig σ) (g : Rgoat σ) : ∃ r σ1 σ2, f_X9_cheaper n σ = some (r, σ1) ∧ f_X10_cheaper n σ1 = some (r, σ2) ∧ frm [6, 7, 8, 46, 47, 48, 57] [(5, 0), (5, 7), (5, 8), (5, 9), (5, 10), (5, 11), (5, 12), (38, 11), (38, 18), (38, 21), (38, 22)] σ σ2 ∧ (∀ j, j < 19 → gI σ2 46 j = gI σ 46 j) ∧ gI σ2 38 11 = gI σ 38 11 ∧ (gI σ2 38 21 = gI σ 38 21 ∧ gI σ2 38 22 = gI σ 38 22 ∨ gI σ2 38 21 = 0 ∧ gI σ2 38 22 = 0) ∧ gJ σ2 38 18 = gJ σ 38 18 := by
  obtain ⟨b1, b2, b3⟩ := b
  have e9 : 10 ^ 9 = 1000000000 := by decide
  have hr : (gI σ 1 0).toInt = ((gI σ 1 0).toInt.toNat : Int) := by omega
  have hR : (gI σ 1 0).toInt.toNat ≤ 12 := by omega
  have eR : gI σ 1 0 = iZ ((gI σ 1 0).toInt.toNat : Int) := by rw [← hr, iZ_self]
  generalize (gI σ 1 0).toInt.toNat = R at hr hR eR
  unfold f_X9_cheaper f_X9_cheaper_29 f_X10_cheaper
  simp only [s_isNumber, s_in, Option.bind_some, bZ_0, t64, l_0, l_999999999]
  by_cases q : 0 ≤ n.toInt ∧ n.toInt ≤ 999999999
  · simp only [if_neg (not_not_intro q)]
    have en := iZof q.1
    have hv : n.toInt.toNat < 10 ^ 9 := by omega
    generalize n.toInt.toNat = v at en hv
    rw [en]
    obtain ⟨s1, e1⟩ := c_wbo hR eR v hv 1
    have q1 := (fr_X9_walksByOrder e1).same (C := [2, 3]) (G := [(1, 0)]) rfl
    obtain ⟨s2, e2⟩ := c_wbo (σ := s1) hR (by rw [q1.I 1 0]; exact eR) v hv 0
    rw [wOf_to ⟨q1.1, fun g hg => by cases hg⟩] at e2
    have f12 := ((fr_X9_walksByOrder e1).tr (fr_X9_walksByOrder e2))
    have qs := f12.same (C := [2, 3, 44, 46]) (G := [(1, 0), (38, 1), (38, 11), (38, 21), (38, 22), (38, 18)]) rfl
    rw [e1]
    simp only [Option.bind_some]
    rw [e2]
    simp only [Option.bind_some]
    unfold f_X10_cheaper_19
    have m1 : gI s2 38 1 = iZ (R : Int) := by rw [qs.I 38 1, b1]; exact eR
    have hd : ∀ j, j < 12 → gI s2 46 j = gI σ 2 j := fun j hj => by rw [qs.cI 46]; exact (c.1 j hj).1
    have h44 : gI s2 44 = gI σ 3 := by rw [qs.cI 44]; exact g.1
    have okd : ∀ j, j < 12 → rg (gI σ 2 j) 0 9 := fun j hj => (c.1 j hj).2
    obtain ⟨t1, t2, t3, a1, a2, a3, a4, a5, a6, a7, a8, a9⟩ := m_try hR g.2.1 okd hd m1 h44 v hv 0
    have q3 := a9.same (C := [44]) (G := [(38, 1)]) rfl
    obtain ⟨u1, u2, u3, c1, c2, c3, c4, c5, c6, c7, c8, c9⟩ := m_try (τ := t3) hR g.2.1 okd (fun j hj => by rw [a5 j (by omega)]; exact hd j hj) (by rw [q3.I 38 1]; exact m1) (by rw [q3.cI 44]; exact h44) v hv 1
    have hm : ∀ (N : Nat) (w : Int32), f_X10_cheaper_27 (N + 1 + 1 + 1) (iZ (v : Int)) w 0 0 0 s2 = some (if wOf σ R 0 v ≤ wOf σ R 1 v then 0 else 1, sI u3 38 11 w) := by
      intro N w
      rw [cheap_step (by rw [leI, t_2, t_0]; omega) a1 a2 a3 a4, if_neg (by rw [eI, t_0, t_1]; omega)]
      unfold f_X10_cheaper_88 f_X10_cheaper_89 f_X10_cheaper_102
      rw [if_pos rfl]
      have z1 : (0 : Int32) + 1 = 1 := rfl
      rw [z1, cheap_step (by rw [leI, t_2, t_1]; omega) c1 c2 c3 c4, if_pos rfl]
      unfold f_X10_cheaper_88 f_X10_cheaper_89 f_X10_cheaper_102
      simp only [ne_10, if_false]
      have z2 : (1 : Int32) + 1 = 2 := rfl
      have hend : ∀ a b : Int32, f_X10_cheaper_27 (N + 1) (iZ (v : Int)) w a b 2 u3 = some (a, sI u3 38 11 w) := by
        intro a b
        rw [f_X10_cheaper_27, if_pos (by rw [leI]; exact Int.le_refl _)]
      rw [z2, hend, hend]
      split <;> rfl
    refine ⟨if wOf σ R 0 v ≤ wOf σ R 1 v then 0 else 1, s2, sI u3 38 11 (gI s2 38 11), ?_, hm 999997 _, ?_, ?_, ?_, ?_, ?_⟩
    · split <;> rfl
    · refine frm.tr (f12.mo (by decide) (by decide)) (frm.tr (a9.mo (by decide) (by decide)) (frm_sIf (c9.mo (by decide) (by decide)) (by decide)))
    · intro j hj
      rw [g_sI_c (by omega), c5 j hj, a5 j hj, qs.cI 46]
    · rw [g_sI_eq, qs.I 38 11]
    · right
      rw [g_sI_ne (by omega), g_sI_ne (by omega)]
      exact ⟨c6, c7⟩
    · rw [gJ_sI, c8, a8, qs.J 38 18]
  · exact ⟨-1, σ, σ, by rw [if_pos q], by rw [if_pos q], frm.rf _, fun _ _ => rfl, rfl, Or.inl ⟨rfl, rfl⟩, rfl⟩
