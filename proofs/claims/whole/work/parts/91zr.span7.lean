/-! SPAN: a veil is made -/
def Yw (X : En) : En := sS (nA (sS (nA (nO X 9 5) 20 5) (eZ X) 0 (some (eZ X + 1))) 20 594) (eZ X) 1 (some (eZ X + 1 + 1))
theorem Yw_Z (X : En) : eZ (Yw X) = eZ X + 3 := rfl
theorem Yw_Y (X : En) : eY (Yw X) = eY X + 604 := rfl
theorem Yw_W {X : En} (h : 72 ≤ eZ X) : isW (Yw X) (eZ X) := by
  unfold isW
  rw [Yw_Z]
  unfold Yw
  refine ⟨h, by omega, ?_, ?_, ?_, ?_, ?_, ?_, ?_⟩
  · simp only [K_sS, K_nA, K_nO, Z_sS, Z_nA, Z_nO]
    rw [if_neg (by omega), if_neg (by omega)]; (first | rw [if_pos trivial] | rw [if_pos rfl] | rw [if_pos (by omega)])
  · simp only [K_sS, K_nA, K_nO, Z_sS, Z_nA, Z_nO]
    rw [if_neg (by omega)]; (first | rw [if_pos trivial] | rw [if_pos rfl] | rw [if_pos (by omega)])
  · simp only [K_sS, K_nA, K_nO, Z_sS, Z_nA, Z_nO]
    (first | rw [if_pos trivial] | rw [if_pos rfl] | rw [if_pos (by omega)])
  · simp only [L_sS, L_nA, L_nO, Z_sS, Z_nA, Z_nO]
    rw [if_neg (by omega)]; (first | rw [if_pos trivial] | rw [if_pos rfl] | rw [if_pos (by omega)])
  · simp only [L_sS, L_nA, L_nO, Z_sS, Z_nA, Z_nO]
    (first | rw [if_pos trivial] | rw [if_pos rfl] | rw [if_pos (by omega)])
  · simp [S_sS, S_nA, S_nO, Z_sS, Z_nA, Z_nO]
  · simp [S_sS, S_nA, S_nO, Z_sS, Z_nA, Z_nO]
theorem Yw_ext (X : En) : ext X (Yw X) := by
  refine ⟨by rw [Yw_Z]; omega, fun a ha => ?_⟩
  unfold Yw
  have e0 : ¬ a = eZ X := by omega
  have e1 : ¬ a = eZ X + 1 := by omega
  have e2 : ¬ a = eZ X + 1 + 1 := by omega
  refine ⟨?_, ?_, fun k => ?_⟩
  · simp only [K_sS, K_nA, K_nO, Z_sS, Z_nA, Z_nO, if_neg e0, if_neg e1, if_neg e2]
  · rw [L_sS, L_nA, if_neg (by simp only [Z_sS, Z_nA, Z_nO]; omega), L_sS, L_nA, if_neg (by simp only [Z_nO]; omega), L_nO]
  · simp only [S_sS, S_nA, S_nO, Z_sS, Z_nA, Z_nO, if_neg e0]
theorem g_newW {X : En} {σ : St} (h : 72 ≤ eZ X) (hz : eZ X < 900000) : ∃ σ', g_X8_init (eZ X) (nO X 9 5) (clr σ (eZ X)) = some (Yw X, σ') ∧ ∀ a b, a < eZ X → gI σ' a b = gI σ a b ∧ gJ σ' a b = gJ σ a b ∧ gR σ' a b = gR σ a b := by
  unfold g_X8_init g_X8_init_b
  have z72 : Nat.ble 72 (eZ X) = true := Nat.ble_eq_true_of_le h
  have z72a : Nat.ble 72 (eZ (nO X 9 5)) = true := Nat.ble_eq_true_of_le (by rw [Z_nO]; omega)
  have k0 : ∀ (Y : En), eK Y (eZ X) = 9 → rk (mk Y) (eZ X) 9 = true := fun Y hY => rk_t h (by omega) hY
  rw [gd_t (k0 _ (by rw [K_nO, if_pos rfl])), gd_t z72a]
  simp only [mkA, ptS]
  rw [gd_t (k0 _ (by simp only [K_sS, K_nA, K_nO, Z_sS, Z_nA, Z_nO]; repeat (first | rw [if_pos trivial] | rw [if_pos rfl] | rw [if_neg (by omega)]))), gd_t (rk_t (by rw [Z_nO]; omega) (by rw [Z_nO]; omega) (by rw [K_nA, if_pos rfl])), gd_t z72]
  rw [gd_t (k0 _ (by simp only [K_sS, K_nA, K_nO, Z_sS, Z_nA, Z_nO]; repeat (first | rw [if_pos trivial] | rw [if_pos rfl] | rw [if_neg (by omega)]))), gd_t (Nat.ble_eq_true_of_le (by rw [Z_sS, Z_nA, Z_nO]; omega))]
  rw [gd_t (k0 _ (by simp only [K_sS, K_nA, K_nO, Z_sS, Z_nA, Z_nO]; repeat (first | rw [if_pos trivial] | rw [if_pos rfl] | rw [if_neg (by omega)]))), gd_t (rk_t (by rw [Z_sS, Z_nA, Z_nO]; omega) (by rw [Z_sS, Z_nA, Z_nO]; omega) (by rw [K_nA, if_pos rfl])), gd_t z72]
  have hv := Yw_W h
  have val := hv.wal (show eZ (Yw X) ≤ 1000000 by rw [Yw_Z]; omega)
  have eYw : sS (nA (sS (nA (nO X 9 5) 20 5) (eZ X) 0 (some (eZ (nO X 9 5)))) 20 594) (eZ X) 1 (some (eZ (sS (nA (nO X 9 5) 20 5) (eZ X) 0 (some (eZ (nO X 9 5)))))) = Yw X := rfl
  rw [eYw, gd_t val.1]
  refine ⟨sI (clr (clr (clr σ (eZ X)) (eZ X + 1)) (eZ X + 1 + 1)) (eZ X) 3 1, ?_, fun a b ha => ?_⟩
  · simp only [Option.bind_some]
    rw [gd_t]
    · rfl
    rw [Nat.ble_eq_true_of_le (show eZ (nO X 9 5) ≤ eZ (Yw X) by rw [Yw_Z, Z_nO]; omega), Nat.ble_eq_true_of_le (show eY (nO X 9 5) ≤ eY (Yw X) by rw [Yw_Y, Y_nO]; omega)]
    rfl
  · have e0 : ¬ a = eZ X := by omega
    have e1 : ¬ a = eZ X + 1 := by omega
    have e2 : ¬ a = eZ X + 1 + 1 := by omega
    refine ⟨?_, ?_, ?_⟩
    · simp only [gI_sI, gI_sJ, gI_sR, gJ_sI, gJ_sJ, gJ_sR, gR_sI, gR_sJ, gR_sR, I_clr, Z_sS, Z_nA, Z_nO, if_neg e0, if_neg e1, if_neg e2]
    · simp only [gI_sI, gI_sJ, gI_sR, gJ_sI, gJ_sJ, gJ_sR, gR_sI, gR_sJ, gR_sR, J_clr, Z_sS, Z_nA, Z_nO, if_neg e0, if_neg e1, if_neg e2]
    · simp only [gI_sI, gI_sJ, gI_sR, gJ_sI, gJ_sJ, gJ_sR, gR_sI, gR_sJ, gR_sR, R_clr, Z_sS, Z_nA, Z_nO, if_neg e0, if_neg e1, if_neg e2]
theorem m_span {X : En} {σ : St} (x1 x2 x3 : Int32) (h : 72 ≤ eZ X) (hz : eZ X < 900000) (rr : Rrop σ) (rd : Rdig σ) (g : Rgoat σ) (hk : Rveil X σ) : ∃ r Y σ1 v, g_X9_span x1 x2 x3 X σ = some (r, Y, σ1) ∧ f_X10_span x1 x2 x3 σ1 = some (r, σ1) ∧ ext X Y ∧ eZ Y ≤ eZ X + 3 ∧ eY X ≤ eY Y ∧ eY Y ≤ eY X + 604 ∧ Rveil Y σ1 ∧ hiB (fun a => isW X v ∧ v ≤ a ∧ a ≤ v + 2) X σ σ1 ∧ low72 [] [(0, 12)] σ σ1 := by
  have idle : ∀ z : Int64, g_X9_span x1 x2 x3 X σ = some (z, X, σ) → f_X10_span x1 x2 x3 σ = some (z, σ) → ∃ r Y σ1 v, g_X9_span x1 x2 x3 X σ = some (r, Y, σ1) ∧ f_X10_span x1 x2 x3 σ1 = some (r, σ1) ∧ ext X Y ∧ eZ Y ≤ eZ X + 3 ∧ eY X ≤ eY Y ∧ eY Y ≤ eY X + 604 ∧ Rveil Y σ1 ∧ hiB (fun a => isW X v ∧ v ≤ a ∧ a ≤ v + 2) X σ σ1 ∧ low72 [] [(0, 12)] σ σ1 :=
    fun z e1 e2 => ⟨z, X, σ, 0, e1, e2, ext.rf X, by omega, by omega, by omega, hk, fun _ _ _ _ _ => ⟨rfl, rfl, rfl⟩, fun _ _ _ _ _ => ⟨rfl, rfl, rfl⟩⟩
  by_cases c1 : (1 ≤ x1.toInt ∧ x1.toInt ≤ 99) ∧ 0 ≤ x2.toInt ∧ x2.toInt < x1.toInt
  rotate_left
  · refine idle (-1) ?_ ?_
    · unfold g_X9_span g_X9_span_b g_X9_span_17
      rw [bnd (s_isRest9 x1 x2 σ)]
      dsimp only
      rw [if_pos (by rw [bZ_0]; exact c1)]
      simp only [Option.bind_some]
      rw [wrp]
    · unfold f_X10_span f_X10_span_20
      rw [bnd (s_isRest10 x1 x2 σ)]
      dsimp only
      rw [if_pos (by rw [bZ_0]; exact c1)]
  by_cases c3 : 0 ≤ x3.toInt ∧ x3.toInt ≤ 2
  rotate_left
  · refine idle (-1) ?_ ?_
    · unfold g_X9_span g_X9_span_b g_X9_span_17
      rw [bnd (s_isRest9 x1 x2 σ)]
      dsimp only
      rw [if_neg (by rw [bZ_0]; exact not_not_intro c1)]
      by_cases c4 : x3 < 0
      · rw [if_pos c4]
        simp only [Option.bind_some]
        rw [wrp]
      · rw [if_neg c4, if_neg (by rw [lI, t_0] at c4; rw [leI, t_2]; omega)]
        simp only [Option.bind_some]
        rw [wrp]
    · unfold f_X10_span f_X10_span_20
      rw [bnd (s_isRest10 x1 x2 σ)]
      dsimp only
      rw [if_neg (by rw [bZ_0]; exact not_not_intro c1), bnd (s_in _ _ _ σ)]
      dsimp only
      rw [if_pos (by rw [bZ_0, t64, l_0, l_2]; exact c3)]
  obtain ⟨rr1, rr2⟩ := rr
  obtain ⟨g1, g2, g3, g4, g5, w, g6, g7, g8⟩ := g
  obtain ⟨R, hR⟩ : ∃ R : Nat, (gI σ 1 0).toInt = R := ⟨(gI σ 1 0).toInt.toNat, by have := rr2.1; omega⟩
  have R12 : R ≤ 12 := by have := rr2.2; omega
  have hw : w < 2 ^ R := by rw [hR] at g7; exact g7
  have pc : popc w 12 = popc w R := by
    have := popc_hi hw (12 - R)
    rw [show R + (12 - R) = 12 by omega] at this
    exact this
  have hp5 : popc w R ≤ 5 := by omega
  have hH : ∀ k, k < R → w.testBit k = true → hq w R (popc w k) = k := fun k a b => hq_H R k a b
  have hI : ∀ i, i + 1 < popc w R → hq w R i < hq w R (i + 1) := fun i a => hq_I a
  have hh : ∀ i, i < popc w R → hq w R i < 12 := fun i a => by have := (hq_B R i a).1; omega
  obtain ⟨m, hm, em⟩ : ∃ m : Nat, x1 = iZ (m : Int) ∧ x1.toInt = m := ⟨x1.toInt.toNat, iZof (by omega), by omega⟩
  obtain ⟨r, hr, er⟩ : ∃ r : Nat, x2 = iZ (r : Int) ∧ x2.toInt = r := ⟨x2.toInt.toNat, iZof (by omega), by omega⟩
  obtain ⟨C, hC⟩ : ∃ C : Int, C = vsum (fun j => if w.testBit j = true then 0 else (seenZ (gI σ 1 4) (gI σ 2 j) j).toInt) R := ⟨_, rfl⟩
  have hb := vsum_b10 (f := fun j => if w.testBit j = true then 0 else (seenZ (gI σ 1 4) (gI σ 2 j) j).toInt) R (fun j hj => by
    have := seenZ_rg (w := gI σ 1 4) (k := j) (rd.1 j (by omega)).2
    by_cases c : w.testBit j = true
    · show 0 ≤ (if w.testBit j = true then (0 : Int) else _) ∧ (if w.testBit j = true then (0 : Int) else _) ≤ 10
      rw [if_pos c]; omega
    · show 0 ≤ (if w.testBit j = true then (0 : Int) else _) ∧ (if w.testBit j = true then (0 : Int) else _) ≤ 10
      rw [if_neg c]; exact this)
  rw [← hC] at hb
  have p12 : (10 : Int) ^ R ≤ 10 ^ 12 := by
    have := Nat.pow_le_pow_right (n := 10) (by omega) R12
    exact_mod_cast this
  have p12e : (10 : Int) ^ 12 = 1000000000000 := rfl
  have fin : ∀ (Y : En) (v : Nat) (τ : St), isW Y v → eZ Y ≤ 1000000 → gR τ 0 12 = some v → (∀ a b, a < 72 → gI τ a b = gI σ a b) → ∃ A σ', g_X9_span_39 x1 x2 x3 Y τ = some (A, Y, σ') ∧ f_X10_span x1 x2 x3 σ' = some (A, σ') ∧ (∀ a b, ¬ (v ≤ a ∧ a ≤ v + 2) → gI σ' a b = gI τ a b ∧ gJ σ' a b = gJ τ a b) ∧ (∀ a b, gR σ' a b = gR τ a b) := by
    intro Y v τ hv hzY hg ht
    have v72 := hv.1
    rw [hm, hr]
    obtain ⟨σ', a1, a2, a3⟩ := c_span39 (x3 := x3) (m := m) (r := r) (τ := τ) hv hzY hg R12 hp5 hH hh (by omega) (by omega) (by omega) (by rw [ht 1 0 (by omega)]; exact hR) (by rw [ht 1 5 (by omega)]; exact g6) (fun j hj => by rw [ht 1 4 (by omega), ht 2 j (by omega)]) hC hb.1 (by omega)
    have lo : ∀ a b, a < 72 → gI σ' a b = gI σ a b := fun a b ha => by rw [(a2 a b (by omega)).1, ht a b ha]
    have b1 := d_span (x3 := x3) (m := m) (r := r) (τ := σ') R12 hw hp5 hH hI hh (by omega) (by omega) (by omega) (by rw [lo 38 1 (by omega), rr1]; exact hR) (by rw [lo 38 20 (by omega), g4]; exact g6) (fun j hj => by rw [lo 38 19 (by omega), lo 46 j (by omega), g3, (rd.1 j (by omega)).1]) hC hb.1 (by omega) c3.1 c3.2
    exact ⟨_, σ', a1, b1, a2, a3⟩
  have open1 : ∀ K : Option (Int64 × En × St), mR (gR σ 0 12) (gd (Nat.ble 72 (eZ X)) (mkO X σ 9 5 fun t18 Y19 τ20 => gd (rk (mk Y19) t18 9) ((g_X8_init t18 Y19 τ20).bind fun p22 => (gd (rk (mk p22.1) t18 9) (g_X9_span_39 x1 x2 x3 p22.1 (sR p22.2 0 12 (some t18))))))) (fun b2 => gd (rk (mk X) b2 9) (g_X9_span_39 x1 x2 x3 X σ)) = K → g_X9_span x1 x2 x3 X σ = K.bind fun p => gd (Nat.ble (eZ X) (eZ p.2.1) && Nat.ble (eY X) (eY p.2.1)) (some p) := by
    intro K hK
    unfold g_X9_span g_X9_span_b
    rw [bnd (s_isRest9 x1 x2 σ)]
    dsimp only
    rw [if_neg (by rw [bZ_0]; exact not_not_intro c1), if_neg (by rw [lI, t_0]; omega), if_pos (by rw [leI, t_2]; omega), hK]
  rcases hk with hk | ⟨v, hk, hv⟩
  · obtain ⟨σ1, e1, a1⟩ := g_newW (σ := σ) h hz
    have hv := Yw_W h
    have hYz : eZ (Yw X) ≤ 1000000 := by rw [Yw_Z]; omega
    have r2 : gR (sR σ1 0 12 (some (eZ X))) 0 12 = some (eZ X) := by simp [gI_sI, gI_sJ, gI_sR, gJ_sI, gJ_sJ, gJ_sR, gR_sI, gR_sJ, gR_sR]
    obtain ⟨A, σ', s1, s2, s3, s4⟩ := fin (Yw X) (eZ X) (sR σ1 0 12 (some (eZ X))) hv hYz r2 (fun a b ha => by rw [gI_sR]; exact (a1 a b (by omega)).1)
    have b0 : ∀ a b, a < eZ X → ¬ (a = 0 ∧ b = 12) → gI σ' a b = gI σ a b ∧ gJ σ' a b = gJ σ a b ∧ gR σ' a b = gR σ a b := by
      intro a b ha hab
      refine ⟨?_, ?_, ?_⟩
      · rw [(s3 a b (by omega)).1, gI_sR]; exact (a1 a b ha).1
      · rw [(s3 a b (by omega)).2, gJ_sR]; exact (a1 a b ha).2.1
      · rw [s4]
        exact Eq.trans (u2_ne hab) (a1 a b ha).2.2
    refine ⟨A, Yw X, σ', eZ X, ?_, s2, Yw_ext X, by rw [Yw_Z]; omega, by rw [Yw_Y]; omega, by rw [Yw_Y]; omega, Or.inr ⟨eZ X, by rw [s4]; exact r2, hv⟩, fun a b q1 q2 _ => b0 a b q2 (by omega), fun a b q1 _ q3 => b0 a b (by omega) (fun q => q3 (by rw [q.1, q.2]; simp))⟩
    rw [open1 (some (A, Yw X, σ')) (by
      rw [hk]
      show gd _ _ = _
      rw [gd_t (Nat.ble_eq_true_of_le h)]
      simp only [mkO]
      rw [gd_t (rk_t h (by omega) (by rw [K_nO, if_pos rfl])), bnd e1]
      dsimp only
      rw [gd_t (hv.wal hYz).1, s1])]
    simp only [Option.bind_some]
    rw [gd_t]
    rw [Nat.ble_eq_true_of_le (show eZ X ≤ eZ (Yw X) by rw [Yw_Z]; omega), Nat.ble_eq_true_of_le (show eY X ≤ eY (Yw X) by rw [Yw_Y]; omega)]
    rfl
  · obtain ⟨A, σ', s1, s2, s3, s4⟩ := fin X v σ hv (by omega) hk (fun a b _ => rfl)
    have v72 := hv.1
    have b0 : ∀ a b, ¬ (v ≤ a ∧ a ≤ v + 2) → gI σ' a b = gI σ a b ∧ gJ σ' a b = gJ σ a b ∧ gR σ' a b = gR σ a b := fun a b n => ⟨(s3 a b n).1, (s3 a b n).2, s4 a b⟩
    refine ⟨A, X, σ', v, ?_, s2, ext.rf X, by omega, by omega, by omega, Or.inr ⟨v, by rw [s4]; exact hk, hv⟩, fun a b _ _ q3 => b0 a b (fun q => q3 ⟨hv, q⟩), fun a b q1 _ _ => b0 a b (by omega)⟩
    rw [open1 (some (A, X, σ')) (by
      rw [hk]
      show gd _ _ = _
      rw [gd_t (hv.wal (by omega)).1, s1])]
    simp only [Option.bind_some]
    rw [wrp]
