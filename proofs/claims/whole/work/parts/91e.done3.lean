/-! DONE -/
theorem m_workAll {τ : St} {R v : Nat} {F D : Nat → Int32} (hR : R ≤ 12) (hv : v < 10 ^ 9) (h1 : gI τ 38 1 = iZ (R : Int)) (hsh : rg (gI τ 38 14) 0 9) (hDF : ∀ j, j < 12 → gI τ 46 j = D j ∧ gI τ 44 j = F j) : ∃ τ', f_X10_workAll (iZ (v : Int)) τ = some τ' ∧ (∀ j, j < R → gI τ' 51 j = (rpS (gI τ 38 12) (gI τ 38 13) (gI τ 38 14) F D v (topN v R) j).2.1) ∧ gI τ' 38 1 = iZ (R : Int) := by
  have e9 : 10 ^ 9 = 1000000000 := by decide
  have e18 : 10 ^ 18 = 1000000000000000000 := by decide
  have ev : (iZ (v : Int)).toInt64 = jZ (v : Int) := iZ_l (by omega) (by omega)
  unfold f_X10_workAll
  rw [ev, bnd (m_highest v (by omega) τ R hR h1)]
  obtain ⟨τ', e1, a1, a2⟩ := m_work_go (F := F) (D := D) hR hv (top_le v R hR) hsh R FU 0 τ (by omega) (by unfold FU; omega) h1 rfl rfl rfl hDF (fun j hj => by omega)
  exact ⟨τ', e1, a1, a2⟩
theorem m_done {σ : St} (x y : Int32) (a : Rset σ) (b : Rrop σ) (c : Rdig σ) (g : Rgoat σ) : ∃ r σ1 σ2, f_X9_done x y σ = some (r, σ1) ∧ f_X10_done x y σ1 = some (r, σ2) := by
  obtain ⟨a1, a2, a3, a4, a5, a6, a7, a8⟩ := a
  obtain ⟨b1, b2, b3⟩ := b
  have e9 : 10 ^ 9 = 1000000000 := by decide
  have hr : (gI σ 1 0).toInt = ((gI σ 1 0).toInt.toNat : Int) := by omega
  have hR : (gI σ 1 0).toInt.toNat ≤ 12 := by omega
  have eR : gI σ 1 0 = iZ ((gI σ 1 0).toInt.toNat : Int) := by rw [← hr, iZ_self]
  generalize (gI σ 1 0).toInt.toNat = R at hr hR eR
  by_cases q : 0 ≤ x.toInt ∧ x.toInt ≤ 999999999
  · by_cases qy : y = -1 ∨ (0 ≤ y.toInt ∧ y.toInt < (gI σ 1 0).toInt)
    · have ex := iZof q.1
      have hv : x.toInt.toNat < 10 ^ 9 := by omega
      obtain ⟨p2, e1, p5, h1⟩ := c_plan (σ := σ) hR hv eR g.2.1 (fun j hj => (c.1 j hj).2) (gI σ 0 15) (gI σ 0 16) (gI σ 0 17) a6
      have qs := (fr_X6_plan 1 e1).same (C := [1, 44, 46]) (G := [(38, 1), (38, 12), (38, 13), (38, 14)]) rfl
      obtain ⟨τ', e2, h2, h3⟩ := m_workAll (τ := p2) (F := gI σ 3) (D := gI σ 2) hR hv (by rw [qs.I 38 1, b1]; exact eR) (by rw [qs.I 38 14, a4]; exact a8) (fun j hj => ⟨by rw [qs.cI 46]; exact (c.1 j hj).1, by rw [qs.cI 44, g.1]⟩)
      rw [qs.I 38 12, qs.I 38 13, qs.I 38 14, a2, a3, a4] at h2
      rw [← ex] at e1 e2
      have e26 : ∀ j, j < R → gI p2 26 j = gI τ' 51 j := fun j hj => by rw [(h1 j hj).1, h2 j hj]
      have cl : f_X9_done_22 x y σ = some (if y = -1 then mxF (gI p2 26) R 0 0 else gI p2 26 y.toInt.toNat, p2) := by
        unfold f_X9_done_22 f_X9_done_77
        rw [bnd e1]
        by_cases cy : y = -1
        · rw [if_pos cy, if_pos cy]
          have e10 : gI p2 1 0 = iZ (R : Int) := by rw [qs.cI 1]; exact eR
          have l := c_last_go hR p2 R FU 0 0 (by omega) (by unfold FU; omega)
          have l' : f_X6_lastRest (gI p2 1 0) p2 = some (mxF (gI p2 26) R 0 0, p2) := by
            unfold f_X6_lastRest
            rw [e10]; exact l
          rw [bnd l']
        · rw [if_neg cy, if_neg cy]
          rcases qy with qy | qy
          · exact absurd qy cy
          · rw [gd_t (inb_i qy.1 (by omega))]; rfl
      have ml : f_X10_done_27 x y p2 = some (if y = -1 then mxF (gI τ' 51) R 0 0 else gI τ' 51 y.toInt.toNat, τ') := by
        unfold f_X10_done_27
        rw [bnd e2]
        exact m_last_go hR h3 y (by
          rcases qy with qy | qy
          · exact Or.inl qy
          · exact Or.inr ⟨qy.1, by omega⟩) R FU 0 0 (by omega) (by unfold FU; omega)
      refine ⟨if y = -1 then mxF (gI p2 26) R 0 0 else gI p2 26 y.toInt.toNat, p2, τ', ?_, ?_⟩
      · unfold f_X9_done
        rw [bnd (s_isNumber x σ), if_neg (by show ¬ bZ _ = 0; rw [bZ_0]; exact not_not_intro q)]
        by_cases cy : y = -1
        · rw [if_pos cy]; exact cl
        · rw [if_neg cy]
          rcases qy with qy | qy
          · exact absurd qy cy
          · rw [bnd (s_isRope9 y σ), if_neg (by show ¬ bZ _ = 0; rw [bZ_0]; exact not_not_intro qy)]
            exact cl
      · have er : (if y = -1 then mxF (gI p2 26) R 0 0 else gI p2 26 y.toInt.toNat) = (if y = -1 then mxF (gI τ' 51) R 0 0 else gI τ' 51 y.toInt.toNat) := by
          by_cases cy : y = -1
          · rw [if_pos cy, if_pos cy]
            exact mxF_cg R 0 0 (fun j j1 j2 => e26 j (by omega))
          · rw [if_neg cy, if_neg cy]
            rcases qy with qy | qy
            · exact absurd qy cy
            · exact e26 _ (by omega)
        rw [er]
        unfold f_X10_done
        rw [bnd (s_in _ _ _ p2), if_neg (by show ¬ bZ _ = 0; rw [bZ_0, t64, l_0, l_999999999]; exact not_not_intro q)]
        by_cases cy : y = -1
        · rw [if_pos cy]; exact ml
        · rw [if_neg cy]
          rcases qy with qy | qy
          · exact absurd qy cy
          · rw [bnd (s_isRope10 y p2 (by rw [qs.I 38 1, b1]; omega)), if_neg (by show ¬ bZ _ = 0; rw [bZ_0, qs.I 38 1, b1]; exact not_not_intro qy)]
            exact ml
    · have cy : ¬ y = -1 := fun h => qy (Or.inl h)
      have qr : ¬ (0 ≤ y.toInt ∧ y.toInt < (gI σ 1 0).toInt) := fun h => qy (Or.inr h)
      refine ⟨-1, σ, σ, ?_, ?_⟩
      · unfold f_X9_done f_X9_done_20
        rw [bnd (s_isNumber x σ), if_neg (by show ¬ bZ _ = 0; rw [bZ_0]; exact not_not_intro q), if_neg cy, bnd (s_isRope9 y σ), if_pos (by show bZ _ = 0; rw [bZ_0]; exact qr)]
      · unfold f_X10_done f_X10_done_25
        rw [bnd (s_in _ _ _ σ), if_neg (by show ¬ bZ _ = 0; rw [bZ_0, t64, l_0, l_999999999]; exact not_not_intro q), if_neg cy, bnd (s_isRope10 y σ (by rw [b1]; omega)), if_pos (by show bZ _ = 0; rw [bZ_0, b1]; exact qr)]
  · refine ⟨-1, σ, σ, ?_, ?_⟩
    · unfold f_X9_done f_X9_done_20
      rw [bnd (s_isNumber x σ), if_pos (by show bZ _ = 0; rw [bZ_0]; exact q)]
    · unfold f_X10_done f_X10_done_25
      rw [bnd (s_in _ _ _ σ), if_pos (by show bZ _ = 0; rw [bZ_0, t64, l_0, l_999999999]; exact q)]
