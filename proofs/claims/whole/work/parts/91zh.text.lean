/-! FAULT, TEXT -/
theorem Rsum.keep {X Y : En} {σ σ' : St} {s : Nat} {P : Nat → Prop} (h : Rsum X σ) (hs : (gI σ 0 7).toInt ≤ s) (e07 : gI σ' 0 7 = gI σ 0 7) (e10 : gI σ' 38 10 = gI σ 38 10) (e14 : ∀ k : Nat, (k : Int) < (gI σ 0 7).toInt → gR σ' 14 k = gR σ 14 k) (km : keepM s σ σ') (e : ext X Y) (q2 : hiB P X σ σ') (fr : freeS X P) : Rsum Y σ' := by
  obtain ⟨h1, h2, h3⟩ := h
  refine ⟨by rw [e10, e07]; exact h1, by rw [e07]; exact h2, ?_⟩
  rw [e07]
  intro k hk
  obtain ⟨t, n, lt, vl, f, a1, a2, a3, a4, a5⟩ := h3 k hk
  obtain ⟨p0, p1⟩ := fr t n a3.1 a2 a3.2.2.1 a3.2.2.2.1 a3.2.2.2.2.2.1 a3.2.2.2.2.2.2.1
  refine ⟨t, n, lt, vl, f, by rw [e14 k hk]; exact a1, by have := e.1; omega, a3.ex a2 e q2 p0 p1, ?_, a5⟩
  obtain ⟨b1, b2, b3⟩ := a4
  refine ⟨b1, by rw [km.2 k (by omega)]; exact b2, fun i hi => ?_⟩
  obtain ⟨c1, c2, c3⟩ := km.1 (12 * k + i) (by omega)
  rw [c1, c2, c3]
  exact b3 i hi
abbrev Wtx : List Nat := [13, 40, 41, 42, 43]
abbrev Ftx : List (Nat × Nat) := [(11, 3), (11, 4), (38, 4), (38, 5)]
theorem m_fault {X : En} {σ : St} (h : Rtape σ) : ∃ r σ1 σ2, g_X9_fault X σ = some (r, X, σ1) ∧ f_X10_fault σ1 = some (r, σ2) ∧ frm Wtx Ftx σ σ2 ∧ keepM 6 σ σ2 := by
  -- the class's reading leaves what the model reads
  have pre : ∀ σ1 : St, frm [13] [(11, 3), (11, 4)] σ σ1 → gI σ1 38 3 = gI σ 38 3 ∧ gI σ1 39 = gI σ 39 ∧ keepM 6 σ σ1 := by
    intro σ1 f
    have q := f.same (C := [39, 40, 41, 42, 43]) (G := [(38, 3)]) rfl
    exact ⟨q.I 38 3, q.cI 39, ⟨fun j _ => ⟨by rw [q.cI 40], by rw [q.cI 41], by rw [q.cI 42]⟩, fun k _ => by rw [q.cI 43]⟩⟩
  obtain ⟨r0, σ0, τ0, a1, _, a3, _⟩ := p_read (X := X) (τ := σ) (s := 6) (by omega) h rfl rfl
  obtain ⟨g1, g2, g3⟩ := pre σ0 a3
  obtain ⟨r, σ1, τ, b1, b2, b3, b4, b5, b6⟩ := p_read (X := X) (τ := σ0) (s := 6) (by omega) h g1 g2
  have e : (r0, X, σ0) = (r, X, σ1) := Option.some.inj (a1.symm.trans b1)
  have er : r0 = r := congrArg Prod.fst e
  have es : σ0 = σ1 := congrArg (fun p => p.2.2) e
  subst er es
  refine ⟨r0, σ0, τ, ?_, ?_, (b3.mo (by simp) (by simp)).tr (b5.mo (by simp) (by simp)), g3.tr b4⟩
  · unfold g_X9_fault g_X9_fault_b
    rw [bnd b1]
    simp only [Option.bind_some]
    rw [wrp]
  · unfold f_X10_fault
    have b2' : f_X10_read 6 σ0 = some (r0, τ) := b2
    rw [bnd b2']
def Ys (X : En) (k : Nat) : En := sS (nA (nO X 5 2) 20 (3 * k)) (eZ X) 1 (some (eZ X + 1))
theorem Ys_Z (X : En) (k : Nat) : eZ (Ys X k) = eZ X + 2 := rfl
theorem Ys_Y (X : En) (k : Nat) : eY (Ys X k) = eY X + 2 + 3 * k := rfl
theorem Ys_ext (X : En) (k : Nat) : ext X (Ys X k) := by
  refine ⟨by rw [Ys_Z]; omega, fun a ha => ?_⟩
  unfold Ys
  have e0 : ¬ a = eZ X := by omega
  have e1 : ¬ a = eZ X + 1 := by omega
  refine ⟨?_, ?_, fun k => ?_⟩
  · simp only [K_sS, K_nA, K_nO, Z_nO, if_neg e0, if_neg e1]
  · rw [L_sS, L_nA, if_neg (by rw [Z_nO]; omega), L_nO]
  · simp only [S_sS, S_nA, S_nO, if_neg e0]
theorem c_newS {X : En} {σ : St} {k : Nat} (hk : k ≤ 12) (h : 72 ≤ eZ X) (hz : eZ X < 900000) : ∃ σ', g_X4_init (eZ X) (iZ (k : Int)) (nO X 5 2) (clr σ (eZ X)) = some (Ys X k, σ') ∧ (∀ a b, a < eZ X → gI σ' a b = gI σ a b ∧ gJ σ' a b = gJ σ a b ∧ gR σ' a b = gR σ a b) ∧ gI σ' (eZ X) 0 = iZ (k : Int) ∧ ∀ j, j < 3 * k → gI σ' (eZ X + 1) j = gI σ 13 j := by
  have e3 : iZ (k : Int) * 3 = iZ ((3 * k : Nat) : Int) := by
    have h3 : (3 : Int32) = iZ 3 := rfl
    rw [h3, iZ_mul]; congr 1; omega
  have z72 : Nat.ble 72 (eZ X) = true := Nat.ble_eq_true_of_le h
  have z72a : Nat.ble 72 (eZ (nO X 5 2)) = true := Nat.ble_eq_true_of_le (by rw [Z_nO]; omega)
  have k0 : ∀ (Y : En), eK Y (eZ X) = 5 → rk (mk Y) (eZ X) 5 = true := fun Y hY => rk_t h (by omega) hY
  have n0 : ¬ eZ X = eZ X + 1 := by omega
  have kA : ∀ L, eK (nA (nO X 5 2) 20 L) (eZ X) = 5 := fun L => by rw [K_nA, Z_nO, if_neg n0, K_nO, if_pos rfl]
  have kB : ∀ L, eK (nA (nO X 5 2) 20 L) (eZ X + 1) = 20 := fun L => by rw [K_nA, Z_nO, if_pos rfl]
  have h36 : (36 : Int32).toInt = 36 := rfl
  -- the copy
  have cp : ∃ σ', g_J7_copyOf_59c91 (iZ ((3 * k : Nat) : Int)) (nO X 5 2) (sI (clr σ (eZ X)) (eZ X) 0 (iZ (k : Int))) = some (eZ X + 1, nA (nO X 5 2) 20 (3 * k), σ') ∧ (∀ a b, a < eZ X → gI σ' a b = gI σ a b ∧ gJ σ' a b = gJ σ a b ∧ gR σ' a b = gR σ a b) ∧ gI σ' (eZ X) 0 = iZ (k : Int) ∧ ∀ j, j < 3 * k → gI σ' (eZ X + 1) j = gI σ 13 j := by
    have base : ∀ a b, a < eZ X → gI (sI (clr σ (eZ X)) (eZ X) 0 (iZ (k : Int))) a b = gI σ a b ∧ gJ (sI (clr σ (eZ X)) (eZ X) 0 (iZ (k : Int))) a b = gJ σ a b ∧ gR (sI (clr σ (eZ X)) (eZ X) 0 (iZ (k : Int))) a b = gR σ a b := by
      intro a b hab
      have ne : ¬ a = eZ X := by omega
      refine ⟨?_, ?_, ?_⟩
      · rw [g_sI_ne (by omega), I_clr, if_neg ne]
      · show gJ (clr σ (eZ X)) a b = _
        rw [J_clr, if_neg ne]
      · show gR (clr σ (eZ X)) a b = _
        rw [R_clr, if_neg ne]
    have b0 : gI (sI (clr σ (eZ X)) (eZ X) 0 (iZ (k : Int))) (eZ X) 0 = iZ (k : Int) := g_sI_eq
    generalize (sI (clr σ (eZ X)) (eZ X) 0 (iZ (k : Int))) = σ0 at base b0 ⊢
    unfold g_J7_copyOf_59c91 g_J7_copyOf_59c91_b
    by_cases q : k = 12
    · subst q
      rw [if_pos (by decide), gd_t z72a]
      simp only [clA]
      have eL13 : eL (mk (nO X 5 2)) 13 = 36 := rfl
      rw [eL13, Z_nO, gd_t (rk_t (by omega) (by omega) (kB 36))]
      simp only [Option.bind_some]
      rw [gd_t (by simp only [Z_nA, Z_nO, Y_nA, Y_nO, Bool.and_eq_true]; exact ⟨Nat.ble_eq_true_of_le (by omega), Nat.ble_eq_true_of_le (by omega)⟩)]
      refine ⟨_, rfl, fun a b hab => ⟨?_, (base a b hab).2⟩, ?_, fun j hj => ?_⟩
      · show (if a = eZ X + 1 then gI σ0 13 b else gI σ0 a b) = _
        rw [if_neg (by omega)]; exact (base a b hab).1
      · show (if eZ X = eZ X + 1 then gI σ0 13 0 else gI σ0 (eZ X) 0) = _
        rw [if_neg n0]; exact b0
      · show (if eZ X + 1 = eZ X + 1 then gI σ0 13 j else gI σ0 (eZ X + 1) j) = _
        rw [if_pos rfl]; exact (base 13 j (by omega)).1
    · have mn : mnI 36 (iZ ((3 * k : Nat) : Int)) = iZ ((3 * k : Nat) : Int) := by
        unfold mnI
        rw [if_pos (by rw [lI, h36, iZt (by omega)]; omega)]
      have nn : ¬ iZ ((3 * k : Nat) : Int) < 0 := by rw [lI, t_0, iZt (by omega)]; omega
      rw [if_neg (by rw [eI, h36, iZt (by omega)]; omega), mn, iZc (by omega), gd_t (by simp only [Bool.and_eq_true, decide_eq_true_eq]; exact ⟨nn, Nat.ble_eq_true_of_le (by omega)⟩), gd_t z72a]
      simp only [mkA]
      have el : eL (mk (nA (nO X 5 2) 20 (3 * k))) (eZ X + 1) = 3 * k := by
        rw [mk_L (by omega), L_nA, Z_nO, if_pos rfl]
      rw [Z_nO, gd_t (rk_t (by omega) (by omega) (kB _)), el, gd_t (by
        cases e : Nat.beq 13 (eZ X + 1) with
        | false => rfl
        | true => have := Nat.eq_of_beq_eq_true e; omega), gd_t (by simp only [Bool.and_eq_true, decide_eq_true_eq]; exact ⟨⟨nn, Nat.ble_eq_true_of_le (by omega)⟩, Nat.ble_eq_true_of_le (by omega)⟩)]
      simp only [Option.bind_some]
      rw [gd_t (by simp only [Z_nA, Z_nO, Y_nA, Y_nO, Bool.and_eq_true]; exact ⟨Nat.ble_eq_true_of_le (by omega), Nat.ble_eq_true_of_le (by omega)⟩)]
      refine ⟨_, rfl, fun a b hab => ⟨?_, ?_, ?_⟩, ?_, fun j hj => ?_⟩
      · show (if a = eZ X + 1 then _ else gI (clr σ0 (eZ X + 1)) a b) = _
        rw [if_neg (by omega), I_clr, if_neg (by omega)]; exact (base a b hab).1
      · rw [gJ_cpI, J_clr, if_neg (by omega)]; exact (base a b hab).2.1
      · rw [gR_cpI, R_clr, if_neg (by omega)]; exact (base a b hab).2.2
      · show (if eZ X = eZ X + 1 then _ else gI (clr σ0 (eZ X + 1)) (eZ X) 0) = _
        rw [if_neg n0, I_clr, if_neg n0]; exact b0
      · show (if eZ X + 1 = eZ X + 1 then (if 0 ≤ j ∧ j < 0 + 3 * k then gI (clr σ0 (eZ X + 1)) 13 (0 + (j - 0)) else _) else _) = _
        rw [if_pos rfl, if_pos (by omega), I_clr, if_neg (by omega), show 0 + (j - 0) = j by omega]
        exact (base 13 j (by omega)).1
  obtain ⟨σ', c1, c2, c3, c4⟩ := cp
  refine ⟨σ', ?_, c2, c3, c4⟩
  unfold g_X4_init g_X4_init_b
  rw [gd_t (k0 _ (by rw [K_nO, if_pos rfl])), e3, bnd c1]
  simp only [ptS]
  rw [gd_t (k0 _ (kA _)), gd_t (rk_t (by omega) (by omega) (kB _)), gd_t z72, gd_t (k0 _ (by rw [K_sS]; exact kA _))]
  simp only [Option.bind_some]
  rw [gd_t (by simp only [Z_sS, Y_sS, Z_nA, Z_nO, Y_nA, Y_nO, Bool.and_eq_true]; exact ⟨Nat.ble_eq_true_of_le (by omega), Nat.ble_eq_true_of_le (by omega)⟩)]
  rfl
theorem m_text {X : En} {σ : St} (h : Rtape σ) (hs : Rsum X σ) (h72 : 72 ≤ eZ X) (hz : eZ X < 900000) : ∃ r Y σ1 σ2, g_X9_text X σ = some (r, Y, σ1) ∧ f_X10_text σ1 = some (r, σ2) ∧ ext X Y ∧ eZ Y ≤ eZ X + 4 ∧ eY X ≤ eY Y ∧ eY Y ≤ eY X + 49 ∧ Rsum Y σ2 ∧ Rtape σ2 ∧ hiB (fun _ => False) X σ σ2 ∧ low72 [13, 14, 40, 41, 42, 43] [(0, 7), (11, 1), (11, 3), (11, 4), (38, 3), (38, 4), (38, 5), (38, 10)] σ σ2 := by
  have hs0 := hs
  obtain ⟨s1, ⟨s2, s2'⟩, s3⟩ := hs
  have h6 : (6 : Int32).toInt = 6 := rfl
  unfold g_X9_text g_X9_text_b f_X10_text
  by_cases q : 6 ≤ (gI σ 0 7).toInt
  · have e6 : gI σ 0 7 = 6 := by rw [eI, h6]; omega
    refine ⟨-1, X, σ, σ, ?_, ?_, ext.rf X, by omega, by omega, by omega, hs0, h, fun a b _ _ _ => ⟨rfl, rfl, rfl⟩, fun a b _ _ _ => ⟨rfl, rfl, rfl⟩⟩
    · rw [if_pos (by rw [leI, h6]; exact q)]
      unfold g_X9_text_20
      simp only [Option.bind_some]
      rw [wrp]
    · rw [if_pos (by rw [s1]; exact e6)]; rfl
  · have ek : gI σ 0 7 = iZ ((gI σ 0 7).toInt.toNat : Int) := iZof s2
    generalize hk : (gI σ 0 7).toInt.toNat = s at ek
    have hs6 : s < 6 := by omega
    have hsI : (gI σ 0 7).toInt = s := by omega
    rw [if_neg (by rw [leI, h6]; exact q)]
    obtain ⟨r0, σ0, τ0, a1, _, a3, _⟩ := p_read (X := X) (τ := σ) (s := s) (by omega) h rfl rfl
    have q0 := a3.same (C := [12, 14, 39, 40, 41, 42, 43]) (G := [(38, 3), (38, 10), (0, 7), (11, 1)]) rfl
    rw [bnd a1]
    by_cases w : r0 = -1
    · -- a sum more
      rw [if_pos w, gd_t (Nat.ble_eq_true_of_le h72)]
      simp only [mkO]
      have k5 : eK (nO X 5 2) (eZ X) = 5 := by rw [K_nO, if_pos rfl]
      rw [gd_t (rk_t h72 (by omega) k5)]
      -- how many steps
      obtain ⟨r, σx, τx, b1, b2, b3, b4, b5, b6⟩ := p_read (X := X) (τ := σ0) (s := s) (by omega) h (q0.I 38 3) (q0.cI 39)
      have e := Option.some.inj (a1.symm.trans b1)
      have er : r0 = r := congrArg Prod.fst e
      have es : σ0 = σx := congrArg (fun p => p.2.2) e
      subst er es
      obtain ⟨k, _, _, _, c1, c2, _, _⟩ := b6 w
      have e11 : gI (clr σ0 (eZ X)) 11 3 = iZ (k : Int) := by rw [I_clr, if_neg (by omega)]; exact c2
      obtain ⟨σ3, d1, d2, d3, d4⟩ := c_newS (σ := σ0) c1 h72 hz
      rw [e11, bnd d1]
      have k5' : eK (Ys X k) (eZ X) = 5 := by
        unfold Ys
        rw [K_sS, K_nA, Z_nO, if_neg (by omega)]; exact k5
      rw [gd_t (rk_t h72 (by omega) k5'), q0.I 0 7, ek, gd_t (iZb hs6 (by omega)), iZc (by omega)]
      have e07 : gI (sR σ3 14 s (some (eZ X))) 0 7 = iZ (s : Int) := by
        rw [gI_sR, (d2 0 7 (by omega)).1, q0.I 0 7]; exact ek
      unfold g_X9_text_62
      rw [e07, iZs]
      -- the class's last state
      generalize h4 : sI (sI (sR σ3 14 s (some (eZ X))) 0 7 (iZ ((s + 1 : Nat) : Int))) 11 1 0 = σ4
      have g4 : ∀ a b, a < eZ X → a ≠ 14 → ¬ (a = 0 ∧ b = 7) → ¬ (a = 11 ∧ b = 1) → gI σ4 a b = gI σ0 a b ∧ gJ σ4 a b = gJ σ0 a b ∧ gR σ4 a b = gR σ0 a b := by
        intro a b ha h14 h07 h11
        rw [← h4]
        refine ⟨?_, ?_, ?_⟩
        · rw [g_sI_ne h11, g_sI_ne h07, gI_sR]; exact (d2 a b ha).1
        · exact (d2 a b ha).2.1
        · show gR (sR σ3 14 s (some (eZ X))) a b = _
          rw [gR_sR, if_neg h14]; exact (d2 a b ha).2.2
      have g4i : ∀ b, gI σ4 14 b = gI σ0 14 b ∧ gJ σ4 14 b = gJ σ0 14 b := by
        intro b
        rw [← h4]
        refine ⟨?_, (d2 14 b (by omega)).2.1⟩
        rw [g_sI_ne (by omega), g_sI_ne (by omega), gI_sR]; exact (d2 14 b (by omega)).1
      have r14 : ∀ b, gR σ4 14 b = if b = s then some (eZ X) else gR σ0 14 b := by
        intro b
        rw [← h4]
        show gR (sR σ3 14 s (some (eZ X))) 14 b = _
        rw [gR_sR, if_pos rfl]
        by_cases c : b = s
        · rw [if_pos c, if_pos c]
        · rw [if_neg c, if_neg c]; exact (d2 14 b (by omega)).2.2
      have z07 : gI σ4 0 7 = iZ ((s + 1 : Nat) : Int) := by rw [← h4, g_sI_ne (by omega), g_sI_eq]
      have z11 : gI σ4 11 1 = 0 := by rw [← h4, g_sI_eq]
      have n0 : gI σ4 (eZ X) 0 = iZ (k : Int) := by rw [← h4, g_sI_ne (by omega), g_sI_ne (by omega), gI_sR]; exact d3
      have n1 : ∀ j, j < 3 * k → gI σ4 (eZ X + 1) j = gI σ0 13 j := fun j hj => by
        rw [← h4, g_sI_ne (by omega), g_sI_ne (by omega), gI_sR]; exact d4 j hj
      -- the model
      have c39 : gI σ4 39 = gI σ 39 := funext fun b => ((g4 39 b (by omega) (by omega) (by omega) (by omega)).1).trans (by rw [q0.cI 39])
      have c383 : gI σ4 38 3 = gI σ 38 3 := ((g4 38 3 (by omega) (by omega) (by omega) (by omega)).1).trans (q0.I 38 3)
      have c3810 : gI σ4 38 10 = iZ (s : Int) := by
        rw [(g4 38 10 (by omega) (by omega) (by omega) (by omega)).1, q0.I 38 10, s1]; exact ek
      obtain ⟨r2, σy, τ, m1, m2, m3, m4, m5, m6⟩ := p_read (X := X) (τ := σ4) (s := s) (by omega) h c383 c39
      have e2 := Option.some.inj (a1.symm.trans m1)
      have er2 : r0 = r2 := congrArg Prod.fst e2
      have es2 : σ0 = σy := congrArg (fun p => p.2.2) e2
      subst er2 es2
      obtain ⟨k', lt, vl, f, u1, u2, u3, u4⟩ := m6 w
      have ekk : k' = k := by
        have := u2.symm.trans c2
        rw [eI, iZt (by omega), iZt (by omega)] at this
        omega
      subst ekk
      have qm := m5.same (C := [0, 1, 12, 14, 39]) (G := [(38, 3), (38, 10), (11, 1)]) rfl
      refine ⟨iZ (s : Int), Ys X k', σ4, sI (sI τ 38 3 0) 38 10 (iZ ((s + 1 : Nat) : Int)), ?_, ?_, Ys_ext X k', by rw [Ys_Z]; omega, by rw [Ys_Y]; omega, by rw [Ys_Y]; omega, ?_, ?_, ?_, ?_⟩
      · rw [z07]
        have es : iZ ((s + 1 : Nat) : Int) - 1 = iZ (s : Int) := by
          show iZ ((s + 1 : Nat) : Int) - iZ 1 = _
          rw [iZ_sub]; congr 1; omega
        rw [es]
        simp only [Option.bind_some]
        rw [gd_t (by simp only [Bool.and_eq_true]; exact ⟨Nat.ble_eq_true_of_le (by rw [Ys_Z]; omega), Nat.ble_eq_true_of_le (by rw [Ys_Y]; omega)⟩)]
      · rw [c3810, if_neg (by rw [eI, h6, iZt (by omega)]; omega), bnd m2, if_pos w]
        unfold f_X10_text_38
        have e10 : gI (sI τ 38 3 0) 38 10 = iZ (s : Int) := by rw [g_sI_ne (by omega), qm.I 38 10]; exact c3810
        show some (gI (sI (sI τ 38 3 0) 38 10 (gI (sI τ 38 3 0) 38 10 + 1)) 38 10 - 1, sI (sI τ 38 3 0) 38 10 (gI (sI τ 38 3 0) 38 10 + 1)) = _
        rw [e10, iZs, g_sI_eq]
        have es : iZ ((s + 1 : Nat) : Int) - 1 = iZ (s : Int) := by
          show iZ ((s + 1 : Nat) : Int) - iZ 1 = _
          rw [iZ_sub]; congr 1; omega
        rw [es]
      · -- the sums
        have kmA : keepM s σ (sI (sI τ 38 3 0) 38 10 (iZ ((s + 1 : Nat) : Int))) := by
          have km0 : keepM s σ σ4 := ⟨fun b _ => ⟨by rw [(g4 40 b (by omega) (by omega) (by omega) (by omega)).1, q0.cI 40], by rw [(g4 41 b (by omega) (by omega) (by omega) (by omega)).1, q0.cI 41], by rw [(g4 42 b (by omega) (by omega) (by omega) (by omega)).1, q0.cI 42]⟩, fun b _ => by rw [(g4 43 b (by omega) (by omega) (by omega) (by omega)).1, q0.cI 43]⟩
          exact (km0.tr m4).tr (keepM_low (frm_sIf (F := [(38, 3), (38, 10)]) (frm_sIf (frm.rf τ) (by simp)) (by simp)) (by simp))
        have t07 : gI (sI (sI τ 38 3 0) 38 10 (iZ ((s + 1 : Nat) : Int))) 0 7 = iZ ((s + 1 : Nat) : Int) := by
          rw [g_sI_ne (by omega), g_sI_ne (by omega), qm.cI 0]; exact z07
        have t14 : ∀ b, gR (sI (sI τ 38 3 0) 38 10 (iZ ((s + 1 : Nat) : Int))) 14 b = if b = s then some (eZ X) else gR σ 14 b := by
          intro b
          show gR τ 14 b = _
          rw [qm.cR 14, r14 b, q0.cR 14]
        have hi4 : ∀ a b, 72 ≤ a → gI (sI (sI τ 38 3 0) 38 10 (iZ ((s + 1 : Nat) : Int))) a b = gI σ4 a b ∧ gJ (sI (sI τ 38 3 0) 38 10 (iZ ((s + 1 : Nat) : Int))) a b = gJ σ4 a b ∧ gR (sI (sI τ 38 3 0) 38 10 (iZ ((s + 1 : Nat) : Int))) a b = gR σ4 a b := by
          intro a b ha
          have := m5.h72 rfl rfl a b ha
          refine ⟨?_, this.2⟩
          rw [g_sI_ne (by omega), g_sI_ne (by omega)]; exact this.1
        have hiX : hiB (fun _ => False) X σ (sI (sI τ 38 3 0) 38 10 (iZ ((s + 1 : Nat) : Int))) := by
          intro a b ha hx _
          obtain ⟨x1, x2, x3⟩ := hi4 a b ha
          obtain ⟨y1, y2, y3⟩ := g4 a b hx (by omega) (by omega) (by omega)
          obtain ⟨v1, v2, v3⟩ := a3.h72 rfl rfl a b ha
          exact ⟨x1.trans (y1.trans v1), x2.trans (y2.trans v2), x3.trans (y3.trans v3)⟩
        refine ⟨by rw [t07, g_sI_eq], by rw [t07]; unfold rg; rw [iZt (by omega)]; omega, ?_⟩
        rw [t07, iZt (by omega)]
        intro j hj
        by_cases c : j = s
        · subst c
          refine ⟨eZ X, k', lt, vl, f, by rw [t14, if_pos rfl], by rw [Ys_Z]; omega, ⟨h72, by omega, k5', ?_, ?_, ?_, c1, ?_, ?_⟩, ⟨c1, ?_, ?_⟩, ?_⟩
          · unfold Ys; rw [K_sS, K_nA, Z_nO, if_pos rfl]
          · unfold Ys; rw [S_sS, if_pos rfl, if_pos rfl]
          · unfold Ys; rw [L_sS, L_nA, Z_nO, if_pos rfl]
          · rw [(hi4 _ _ h72).1]; exact n0
          · intro i hi
            obtain ⟨⟨v1, v2, v3⟩, _⟩ := u4 i hi
            rw [(hi4 _ _ (by omega)).1, (hi4 _ _ (by omega)).1, (hi4 _ _ (by omega)).1, n1 _ (by omega), n1 _ (by omega), n1 _ (by omega)]
            exact ⟨v1, v2, v3⟩
          · rw [g_sI_c (by omega), g_sI_c (by omega)]; exact u3
          · intro i hi
            obtain ⟨_, ⟨v1, v2, v3⟩, _⟩ := u4 i hi
            rw [g_sI_c (by omega), g_sI_c (by omega), g_sI_c (by omega), g_sI_c (by omega), g_sI_c (by omega), g_sI_c (by omega)]
            exact ⟨v1, v2, v3⟩
          · intro i hi
            exact (u4 i hi).2.2
        · obtain ⟨t, n, lt', vl', f', v1, v2, v3, v4, v5⟩ := s3 j (by omega)
          refine ⟨t, n, lt', vl', f', by rw [t14, if_neg c]; exact v1, by rw [Ys_Z]; omega, v3.ex v2 (Ys_ext X k') hiX (fun c => c) (fun c => c), ?_, v5⟩
          obtain ⟨w1, w2, w3⟩ := v4
          refine ⟨w1, by rw [kmA.2 j (by omega)]; exact w2, fun i hi => ?_⟩
          obtain ⟨x1, x2, x3⟩ := kmA.1 (12 * j + i) (by omega)
          rw [x1, x2, x3]
          exact w3 i hi
      · -- the tape
        obtain ⟨h1, h2, h3, h4'⟩ := h
        refine ⟨?_, ?_, ?_, ?_⟩
        · rw [g_sI_ne (by omega), g_sI_eq, g_sI_ne (by omega), g_sI_ne (by omega), qm.I 11 1]; exact z11.symm
        · rw [g_sI_ne (by omega), g_sI_ne (by omega), qm.I 11 1, z11]; unfold rg; rw [t_0]; omega
        · rw [g_sI_c (by omega), g_sI_c (by omega), g_sI_c (by omega), g_sI_c (by omega), qm.cI 39, qm.cI 12, c39, h3]
          exact funext fun b => (((g4 12 b (by omega) (by omega) (by omega) (by omega)).1).trans (by rw [q0.cI 12])).symm
        · intro j
          rw [g_sI_c (by omega), g_sI_c (by omega), qm.cI 12, (g4 12 j (by omega) (by omega) (by omega) (by omega)).1, q0.cI 12]
          exact h4' j
      · intro a b ha hx _
        have t := m5.h72 rfl rfl a b ha
        obtain ⟨y1, y2, y3⟩ := g4 a b hx (by omega) (by omega) (by omega)
        obtain ⟨v1, v2, v3⟩ := a3.h72 rfl rfl a b ha
        refine ⟨?_, t.2.1.trans (y2.trans v2), t.2.2.trans (y3.trans v3)⟩
        rw [g_sI_ne (by omega), g_sI_ne (by omega)]
        exact t.1.trans (y1.trans v1)
      · intro a b ha hw hf
        simp only [List.mem_cons, List.not_mem_nil, or_false, not_or, Prod.mk.injEq] at hw hf
        have t := m5 a b (by simp only [List.mem_cons, List.not_mem_nil, or_false]; omega) (by simp only [List.mem_cons, List.not_mem_nil, or_false, Prod.mk.injEq]; omega)
        obtain ⟨y1, y2, y3⟩ := g4 a b (by omega) (by omega) (by omega) (by omega)
        obtain ⟨v1, v2, v3⟩ := a3 a b (by simp only [List.mem_cons, List.not_mem_nil, or_false]; omega) (by simp only [List.mem_cons, List.not_mem_nil, or_false, Prod.mk.injEq]; omega)
        refine ⟨?_, t.2.1.trans (y2.trans v2), t.2.2.trans (y3.trans v3)⟩
        rw [g_sI_ne (by omega), g_sI_ne (by omega)]
        exact t.1.trans (y1.trans v1)
    · -- a fault
      obtain ⟨r, σx, τ, b1, b2, b3, b4, b5, b6⟩ := p_read (X := X) (τ := σ0) (s := s) (by omega) h (q0.I 38 3) (q0.cI 39)
      have e := Option.some.inj (a1.symm.trans b1)
      have er : r0 = r := congrArg Prod.fst e
      have es : σ0 = σx := congrArg (fun p => p.2.2) e
      subst er es
      have ft : frm Wtx Ftx σ τ := (b3.mo (by simp) (by simp)).tr (b5.mo (by simp) (by simp))
      have km0 : keepM s σ σ0 := ⟨fun j _ => ⟨by rw [q0.cI 40], by rw [q0.cI 41], by rw [q0.cI 42]⟩, fun k _ => by rw [q0.cI 43]⟩
      have qt := ft.same (C := [14]) (G := [(0, 7), (38, 10)]) rfl
      refine ⟨-1, X, σ0, τ, ?_, ?_, ext.rf X, by omega, by omega, by omega, ?_, h.to (ft.same rfl), (ft.h72 rfl rfl).hb _ X, ft.low (by simp) (by simp)⟩
      · rw [if_neg w]
        unfold g_X9_text_20
        simp only [Option.bind_some]
        rw [wrp]
      · rw [q0.I 38 10, s1, ek, if_neg (by rw [eI, h6, iZt (by omega)]; omega), bnd b2, if_neg w]; rfl
      · exact hs0.keep (s := s) (by omega) (qt.I 0 7) (qt.I 38 10) (fun k _ => by rw [qt.cR 14]) (km0.tr b4) (ext.rf X) ((ft.h72 rfl rfl).hb (fun _ => False) X) (fun _ _ _ _ _ _ _ _ => ⟨fun c => c, fun c => c⟩)
