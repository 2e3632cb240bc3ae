/-! IMAGE -/
theorem ofN_iZ (n : Nat) : Int32.ofNat n = iZ (n : Int) := by
  unfold iZ
  exact Int32.ofInt_eq_ofNat.symm
theorem g_fill_go {X : En} {ar L : Nat} (x : Int32) (hk : rk (mk X) ar 20 = true) (hL : eL (mk X) ar = L) (hb : L ≤ 100000) : ∀ m n k : Nat, ∀ σ : St, k + m = L → m < n → ∃ σ', g_J7_fill_53178_5 ar n x (iZ (k : Int)) (iZ (L : Int)) X σ = some (X, σ') ∧ (∀ j, k ≤ j → j < L → gI σ' ar j = x) ∧ (∀ a b, (a ≠ ar ∨ b < k ∨ L ≤ b) → gI σ' a b = gI σ a b) ∧ (∀ a b, gJ σ' a b = gJ σ a b ∧ gR σ' a b = gR σ a b) := by
  intro m
  induction m with
  | zero =>
    intro n k σ e hn
    cases n with
    | zero => omega
    | succ n =>
      rw [g_J7_fill_53178_5, gd_t hk, if_pos (by rw [leI, iZt (by omega), iZt (by omega)]; omega)]
      exact ⟨σ, rfl, fun j h1 h2 => by omega, fun _ _ _ => rfl, fun _ _ => ⟨rfl, rfl⟩⟩
  | succ m ih =>
    intro n k σ e hn
    cases n with
    | zero => omega
    | succ n =>
      rw [g_J7_fill_53178_5, gd_t hk, if_neg (by rw [leI, iZt (by omega), iZt (by omega)]; omega), hL, gd_t (iZb (show k < L by omega) (by omega)), iZc (by omega), iZs]
      obtain ⟨σ', e1, h1, h2, h3⟩ := ih n (k + 1) (sI σ ar k x) (by omega) (by omega)
      refine ⟨σ', e1, ?_, ?_, fun a b => ⟨(h3 a b).1, (h3 a b).2⟩⟩
      · intro j j1 j2
        by_cases c : j = k
        · subst c; rw [h2 ar j (by omega), g_sI_eq]
        · exact h1 j (by omega) j2
      · intro a b hab
        rw [h2 a b (by omega), g_sI_ne (by omega)]
theorem g_fill {X : En} {ar L : Nat} (x : Int32) (hk : rk (mk X) ar 20 = true) (hL : eL (mk X) ar = L) (hb : L ≤ 100000) (σ : St) : ∃ σ', g_J7_fill_53178 ar x X σ = some (X, σ') ∧ (∀ j, j < L → gI σ' ar j = x) ∧ (∀ a b, (a ≠ ar ∨ L ≤ b) → gI σ' a b = gI σ a b) ∧ (∀ a b, gJ σ' a b = gJ σ a b ∧ gR σ' a b = gR σ a b) := by
  obtain ⟨σ', e1, h1, h2, h3⟩ := g_fill_go x hk hL hb L FU 0 σ (by omega) (by unfold FU; omega)
  refine ⟨σ', ?_, fun j hj => h1 j (by omega) hj, fun a b h => h2 a b (by omega), h3⟩
  unfold g_J7_fill_53178 g_J7_fill_53178_b
  have e1' : g_J7_fill_53178_5 ar FU x 0 (iZ (L : Int)) X σ = some (X, σ') := e1
  rw [gd_t hk, hL, ofN_iZ, bnd e1', wrp]
def Yv (X : En) : En := sS (nA (sS (nA (sS (nA (nO X 8 13) 20 12) (eZ X) 1 (some (eZ X + 1))) 20 12) (eZ X) 2 (some (eZ X + 1 + 1))) 20 12) (eZ X) 3 (some (eZ X + 1 + 1 + 1))
theorem Yv_Z (X : En) : eZ (Yv X) = eZ X + 4 := rfl
theorem Yv_Y (X : En) : eY (Yv X) = eY X + 49 := rfl
theorem Yv_V {X : En} (h : 72 ≤ eZ X) : isV (Yv X) (eZ X) := by
  unfold isV
  rw [Yv_Z]
  unfold Yv
  refine ⟨h, by omega, ?_, ?_, ?_, ?_, ?_, ?_, ?_, ?_, ?_, ?_⟩
  · simp only [K_sS, K_nA, K_nO, Z_sS, Z_nA, Z_nO]
    rw [if_neg (by omega), if_neg (by omega), if_neg (by omega)]; (first | rw [if_pos trivial] | rw [if_pos rfl] | rw [if_pos (by omega)])
  · simp only [K_sS, K_nA, K_nO, Z_sS, Z_nA, Z_nO]
    rw [if_neg (by omega), if_neg (by omega)]; (first | rw [if_pos trivial] | rw [if_pos rfl] | rw [if_pos (by omega)])
  · simp only [K_sS, K_nA, K_nO, Z_sS, Z_nA, Z_nO]
    rw [if_neg (by omega)]; (first | rw [if_pos trivial] | rw [if_pos rfl] | rw [if_pos (by omega)])
  · simp only [K_sS, K_nA, K_nO, Z_sS, Z_nA, Z_nO]
    (first | rw [if_pos trivial] | rw [if_pos rfl] | rw [if_pos (by omega)])
  · simp only [L_sS, L_nA, L_nO, Z_sS, Z_nA, Z_nO]
    rw [if_neg (by omega), if_neg (by omega)]; (first | rw [if_pos trivial] | rw [if_pos rfl] | rw [if_pos (by omega)])
  · simp only [L_sS, L_nA, L_nO, Z_sS, Z_nA, Z_nO]
    rw [if_neg (by omega)]; (first | rw [if_pos trivial] | rw [if_pos rfl] | rw [if_pos (by omega)])
  · simp only [L_sS, L_nA, L_nO, Z_sS, Z_nA, Z_nO]
    (first | rw [if_pos trivial] | rw [if_pos rfl] | rw [if_pos (by omega)])
  · simp [S_sS, S_nA, S_nO, Z_sS, Z_nA, Z_nO]
  · simp [S_sS, S_nA, S_nO, Z_sS, Z_nA, Z_nO]
  · simp [S_sS, S_nA, S_nO, Z_sS, Z_nA, Z_nO]
theorem Yv_ext (X : En) : ext X (Yv X) := by
  refine ⟨by rw [Yv_Z]; omega, fun a ha => ?_⟩
  unfold Yv
  have e0 : ¬ a = eZ X := by omega
  have e1 : ¬ a = eZ X + 1 := by omega
  have e2 : ¬ a = eZ X + 1 + 1 := by omega
  have e3 : ¬ a = eZ X + 1 + 1 + 1 := by omega
  refine ⟨?_, ?_, fun k => ?_⟩
  · simp only [K_sS, K_nA, K_nO, Z_sS, Z_nA, Z_nO, if_neg e0, if_neg e1, if_neg e2, if_neg e3]
  · rw [L_sS, L_nA, if_neg (by simp only [Z_sS, Z_nA, Z_nO]; omega), L_sS, L_nA, if_neg (by simp only [Z_sS, Z_nA, Z_nO]; omega), L_sS, L_nA, if_neg (by simp only [Z_nO]; omega), L_nO]
  · simp only [S_sS, S_nA, S_nO, Z_sS, Z_nA, Z_nO, if_neg e0]
theorem g_newV {X : En} {σ : St} (x : Int32) (h : 72 ≤ eZ X) (hz : eZ X < 900000) : ∃ σ', g_X7_init (eZ X) x (nO X 8 13) (clr σ (eZ X)) = some (Yv X, σ') ∧ ∀ a b, a < eZ X → gI σ' a b = gI σ a b ∧ gJ σ' a b = gJ σ a b ∧ gR σ' a b = gR σ a b := by
  unfold g_X7_init g_X7_init_b
  have z72 : Nat.ble 72 (eZ X) = true := Nat.ble_eq_true_of_le h
  have z72a : Nat.ble 72 (eZ (nO X 8 13)) = true := Nat.ble_eq_true_of_le (by rw [Z_nO]; omega)
  have k0 : ∀ (Y : En), eK Y (eZ X) = 8 → rk (mk Y) (eZ X) 8 = true := fun Y hY => rk_t h (by omega) hY
  rw [gd_t (k0 _ (by rw [K_nO, if_pos rfl])), gd_t z72a]
  simp only [mkA, ptS]
  rw [gd_t (k0 _ (by simp only [K_sS, K_nA, K_nO, Z_sS, Z_nA, Z_nO]; repeat (first | rw [if_pos trivial] | rw [if_pos rfl] | rw [if_neg (by omega)]))), gd_t (rk_t (by rw [Z_nO]; omega) (by rw [Z_nO]; omega) (by rw [K_nA, if_pos rfl])), gd_t z72]
  rw [gd_t (k0 _ (by simp only [K_sS, K_nA, K_nO, Z_sS, Z_nA, Z_nO]; repeat (first | rw [if_pos trivial] | rw [if_pos rfl] | rw [if_neg (by omega)]))), gd_t (Nat.ble_eq_true_of_le (by rw [Z_sS, Z_nA, Z_nO]; omega))]
  rw [gd_t (k0 _ (by simp only [K_sS, K_nA, K_nO, Z_sS, Z_nA, Z_nO]; repeat (first | rw [if_pos trivial] | rw [if_pos rfl] | rw [if_neg (by omega)]))), gd_t (rk_t (by rw [Z_sS, Z_nA, Z_nO]; omega) (by rw [Z_sS, Z_nA, Z_nO]; omega) (by rw [K_nA, if_pos rfl])), gd_t z72]
  rw [gd_t (k0 _ (by simp only [K_sS, K_nA, K_nO, Z_sS, Z_nA, Z_nO]; repeat (first | rw [if_pos trivial] | rw [if_pos rfl] | rw [if_neg (by omega)]))), gd_t (Nat.ble_eq_true_of_le (by rw [Z_sS, Z_nA, Z_sS, Z_nA, Z_nO]; omega))]
  rw [gd_t (k0 _ (by simp only [K_sS, K_nA, K_nO, Z_sS, Z_nA, Z_nO]; repeat (first | rw [if_pos trivial] | rw [if_pos rfl] | rw [if_neg (by omega)]))), gd_t (rk_t (by rw [Z_sS, Z_nA, Z_sS, Z_nA, Z_nO]; omega) (by rw [Z_sS, Z_nA, Z_sS, Z_nA, Z_nO]; omega) (by rw [K_nA, if_pos rfl])), gd_t z72]
  have hv := Yv_V h
  have val := hv.val (show eZ (Yv X) ≤ 1000000 by rw [Yv_Z]; omega)
  obtain ⟨v0, ⟨v1, v2, v3⟩, ⟨v4, v5, v6⟩, v7, v8, v9⟩ := val
  have eYv : sS (nA (sS (nA (sS (nA (nO X 8 13) 20 12) (eZ X) 1 (some (eZ (nO X 8 13)))) 20 12) (eZ X) 2 (some (eZ (sS (nA (nO X 8 13) 20 12) (eZ X) 1 (some (eZ (nO X 8 13))))))) 20 12) (eZ X) 3 (some (eZ (sS (nA (sS (nA (nO X 8 13) 20 12) (eZ X) 1 (some (eZ (nO X 8 13)))) 20 12) (eZ X) 2 (some (eZ (sS (nA (nO X 8 13) 20 12) (eZ X) 1 (some (eZ (nO X 8 13))))))))) = Yv X := rfl
  rw [eYv, gd_t v0, bnd v8, gd_t v2]
  obtain ⟨σ', e1, a1, a2, a3⟩ := g_fill 9 v2 v5 (by omega) (sI (clr (clr (clr (clr σ (eZ X)) (eZ (nO X 8 13))) (eZ (sS (nA (nO X 8 13) 20 12) (eZ X) 1 (some (eZ (nO X 8 13)))))) (eZ (sS (nA (sS (nA (nO X 8 13) 20 12) (eZ X) 1 (some (eZ (nO X 8 13)))) 20 12) (eZ X) 2 (some (eZ (sS (nA (nO X 8 13) 20 12) (eZ X) 1 (some (eZ (nO X 8 13)))))))) ) (eZ X) 0 x)
  refine ⟨σ', ?_, fun a b ha => ?_⟩
  · rw [bnd e1, gd_t v0]
    simp only [Option.bind_some]
    rw [gd_t]
    rw [Nat.ble_eq_true_of_le (show eZ (nO X 8 13) ≤ eZ (Yv X) by rw [Yv_Z, Z_nO]; omega), Nat.ble_eq_true_of_le (show eY (nO X 8 13) ≤ eY (Yv X) by rw [Yv_Y, Y_nO]; omega)]
    rfl
  · have e0 : ¬ a = eZ X := by omega
    have e1 : ¬ a = eZ X + 1 := by omega
    have e2 : ¬ a = eZ X + 1 + 1 := by omega
    have e3 : ¬ a = eZ X + 1 + 1 + 1 := by omega
    refine ⟨?_, ?_, ?_⟩
    · rw [a2 a b (Or.inl (by omega))]
      simp only [gI_sI, gI_sJ, gI_sR, gJ_sI, gJ_sJ, gJ_sR, gR_sI, gR_sJ, gR_sR, I_clr, Z_sS, Z_nA, Z_nO, if_neg e0, if_neg e1, if_neg e2, if_neg e3]
    · rw [(a3 a b).1]
      simp only [gI_sI, gI_sJ, gI_sR, gJ_sI, gJ_sJ, gJ_sR, gR_sI, gR_sJ, gR_sR, J_clr, Z_sS, Z_nA, Z_nO, if_neg e0, if_neg e1, if_neg e2, if_neg e3]
    · rw [(a3 a b).2]
      simp only [gI_sI, gI_sJ, gI_sR, gJ_sI, gJ_sJ, gJ_sR, gR_sI, gR_sJ, gR_sR, R_clr, Z_sS, Z_nA, Z_nO, if_neg e0, if_neg e1, if_neg e2, if_neg e3]
/-- the class's image -/
def low72 (W : List Nat) (F : List (Nat × Nat)) (σ σ' : St) : Prop := ∀ a b, a < 72 → a ∉ W → (a, b) ∉ F → gI σ' a b = gI σ a b ∧ gJ σ' a b = gJ σ a b ∧ gR σ' a b = gR σ a b
theorem low72.tr {W : List Nat} {F : List (Nat × Nat)} {σ σ1 σ2 : St} (h : low72 W F σ σ1) (h2 : low72 W F σ1 σ2) : low72 W F σ σ2 := fun a b ha hw hf => ⟨(h2 a b ha hw hf).1.trans (h a b ha hw hf).1, (h2 a b ha hw hf).2.1.trans (h a b ha hw hf).2.1, (h2 a b ha hw hf).2.2.trans (h a b ha hw hf).2.2⟩
theorem frm.low {W W' : List Nat} {F F' : List (Nat × Nat)} {σ σ' : St} (h : frm W F σ σ') (hw : ∀ a ∈ W, a ∈ W') (hf : ∀ a ∈ F, a ∈ F') : low72 W' F' σ σ' := fun a b _ h1 h2 => h.mo hw hf a b h1 h2
theorem low72.same {W : List Nat} {F : List (Nat × Nat)} {C : List Nat} {G : List (Nat × Nat)} {σ σ' : St} (h : low72 W F σ σ') (ha : apartB W F C G = true) (hc : C.all (fun a => Nat.blt a 72) = true) (hg : G.all (fun p => Nat.blt p.1 72) = true) : sameOn C G σ σ' := by
  simp only [apartB, Bool.and_eq_true, List.all_eq_true, Bool.not_eq_true'] at ha
  rw [List.all_eq_true] at hc hg
  refine ⟨fun c hcm b => ?_, fun g hgm => ?_⟩
  · obtain ⟨h1, h2⟩ := ha.1 c hcm
    refine h c b (Nat.blt_eq.mp (hc c hcm)) (fun q => ?_) (fun q => ?_)
    · rw [List.contains_iff_mem.mpr q] at h1; cases h1
    · have := h2 _ q; simp at this
  · obtain ⟨h1, h2⟩ := ha.2 g hgm
    refine h g.1 g.2 (Nat.blt_eq.mp (hg g hgm)) (fun q => ?_) (fun q => ?_)
    · rw [List.contains_iff_mem.mpr q] at h1; cases h1
    · have := h2 _ q; simp at this
theorem c_image25 {X : En} {σ : St} {t : Nat} (hk : gR σ 0 2 = some t) (hv : isV X t) (hz : eZ X ≤ 1000000) : g_X9_image_25 X σ = some (gI σ 0 13, X, sI (bcS t 1 σ) 0 3 (gI σ 0 13)) := by
  have t72 := hv.1
  have val := hv.val hz
  unfold g_X9_image_25
  rw [hk]
  show gd _ _ = _
  rw [gd_t val.1, bnd (g_become val (isVal_1 X) (by omega))]
  have e : gI (bcS t 1 σ) 0 13 = gI σ 0 13 := (bcS_o 0 13 (by omega)).1
  show some (gI (sI (bcS t 1 σ) 0 3 (gI (bcS t 1 σ) 0 13)) 0 13, X, sI (bcS t 1 σ) 0 3 (gI (bcS t 1 σ) 0 13)) = _
  rw [g_sI_ne (by omega), e]
theorem c_image {X : En} {σ : St} (h : 72 ≤ eZ X) (hz : eZ X < 900000) (hk : gR σ 0 2 = none ∨ ∃ t, gR σ 0 2 = some t ∧ isV X t) : ∃ Y t σ', g_X9_image X σ = some (gI σ 0 13, Y, σ') ∧ ext X Y ∧ eZ Y ≤ eZ X + 4 ∧ eY X ≤ eY Y ∧ eY Y ≤ eY X + 49 ∧ isV Y t ∧ gR σ' 0 2 = some t ∧ gI σ' 0 3 = gI σ 0 13 ∧ hiB (fun a => isV X t ∧ t ≤ a ∧ a ≤ t + 3) X σ σ' ∧ low72 [] [(0, 2), (0, 3)] σ σ' ∧ gI σ' t 0 = gI σ 1 0 ∧ (∀ j, j < 12 → gI σ' (t + 1) j = gI σ 2 j ∧ gI σ' (t + 2) j = gI σ 3 j) ∧ gI σ' t 4 = gI σ 1 4 ∧ gI σ' t 5 = gI σ 1 5 ∧ gJ σ' t 6 = gJ σ 1 6 ∧ (∀ k, k < 6 → gI σ' t (7 + k) = gI σ 1 (7 + k)) := by
  have fin : ∀ (t : Nat) (τ : St), 72 ≤ t → gI (sI (bcS t 1 τ) 0 3 (gI τ 0 13)) 0 3 = gI τ 0 13 ∧ gR (sI (bcS t 1 τ) 0 3 (gI τ 0 13)) 0 2 = gR τ 0 2 ∧ low72 [] [(0, 2), (0, 3)] τ (sI (bcS t 1 τ) 0 3 (gI τ 0 13)) ∧ gI (sI (bcS t 1 τ) 0 3 (gI τ 0 13)) t 0 = gI τ 1 0 ∧ (∀ j, j < 12 → gI (sI (bcS t 1 τ) 0 3 (gI τ 0 13)) (t + 1) j = gI τ 2 j ∧ gI (sI (bcS t 1 τ) 0 3 (gI τ 0 13)) (t + 2) j = gI τ 3 j) ∧ gI (sI (bcS t 1 τ) 0 3 (gI τ 0 13)) t 4 = gI τ 1 4 ∧ gI (sI (bcS t 1 τ) 0 3 (gI τ 0 13)) t 5 = gI τ 1 5 ∧ gJ (sI (bcS t 1 τ) 0 3 (gI τ 0 13)) t 6 = gJ τ 1 6 ∧ (∀ k, k < 6 → gI (sI (bcS t 1 τ) 0 3 (gI τ 0 13)) t (7 + k) = gI τ 1 (7 + k)) ∧ (∀ a b, 72 ≤ a → (a < t ∨ t + 3 < a) → gI (sI (bcS t 1 τ) 0 3 (gI τ 0 13)) a b = gI τ a b ∧ gJ (sI (bcS t 1 τ) 0 3 (gI τ 0 13)) a b = gJ τ a b ∧ gR (sI (bcS t 1 τ) 0 3 (gI τ 0 13)) a b = gR τ a b) := by
    intro t τ ht
    obtain ⟨c1, c2, c3, c4, c5, c6, c7⟩ := bcS_is (σ := τ) (show t + 3 < 1 ∨ 1 + 3 < t by omega)
    refine ⟨g_sI_eq, ?_, ?_, ?_, ?_, ?_, ?_, ?_, ?_, ?_⟩
    · rw [gR_sI, bcS_R]
    · intro a b ha _ hb
      have := bcS_o (o := t) (q := 1) (σ := τ) a b (by omega)
      refine ⟨?_, ?_, ?_⟩
      · rw [g_sI_ne (by
          intro c
          apply hb
          rw [c.1, c.2]
          simp)]
        exact this.1
      · rw [gJ_sI]; exact this.2.1
      · rw [gR_sI]; exact this.2.2
    · rw [g_sI_c (by omega)]; exact c1
    · intro j hj
      rw [g_sI_c (by omega), g_sI_c (by omega)]; exact c2 j hj
    · rw [g_sI_c (by omega)]; exact c4
    · rw [g_sI_c (by omega)]; exact c5
    · rw [gJ_sI]; exact c6
    · intro k hk
      rw [g_sI_c (by omega)]; exact c7 k hk
    · intro a b ha hab
      have := bcS_o (o := t) (q := 1) (σ := τ) a b hab
      refine ⟨?_, ?_, ?_⟩
      · rw [g_sI_c (by omega)]; exact this.1
      · rw [gJ_sI]; exact this.2.1
      · rw [gR_sI]; exact this.2.2
  unfold g_X9_image g_X9_image_b
  rcases hk with hk | ⟨t, hk, hv⟩
  · rw [hk]
    show ∃ Y t σ', ((gd _ _).bind _) = _ ∧ _
    rw [gd_t (Nat.ble_eq_true_of_le h)]
    simp only [mkO]
    obtain ⟨σ1, e1, a1⟩ := g_newV (σ := σ) (gI (clr σ (eZ X)) 1 0) h hz
    have hv := Yv_V h
    have hYz : eZ (Yv X) ≤ 1000000 := by rw [Yv_Z]; omega
    have r2 : gR (sR σ1 0 2 (some (eZ X))) 0 2 = some (eZ X) := by simp [gI_sI, gI_sJ, gI_sR, gJ_sI, gJ_sJ, gJ_sR, gR_sI, gR_sJ, gR_sR]
    have c25 := c_image25 r2 hv hYz
    have g13 : gI (sR σ1 0 2 (some (eZ X))) 0 13 = gI σ 0 13 := by
      rw [gI_sR]; exact (a1 0 13 (by omega)).1
    have b0 : ∀ a b, a < eZ X → ¬ (a = 0 ∧ b = 2) → gI (sR σ1 0 2 (some (eZ X))) a b = gI σ a b ∧ gJ (sR σ1 0 2 (some (eZ X))) a b = gJ σ a b ∧ gR (sR σ1 0 2 (some (eZ X))) a b = gR σ a b := by
      intro a b ha hab
      refine ⟨?_, ?_, ?_⟩
      · rw [gI_sR]; exact (a1 a b ha).1
      · rw [gJ_sR]; exact (a1 a b ha).2.1
      · refine Eq.trans (u2_ne ?_) (a1 a b ha).2.2
        exact hab
    obtain ⟨d1, d2, d3, d4, d5, d6, d7, d8, d9, d10⟩ := fin (eZ X) (sR σ1 0 2 (some (eZ X))) h
    refine ⟨Yv X, eZ X, _, ?_, Yv_ext X, by rw [Yv_Z]; omega, by rw [Yv_Y]; omega, by rw [Yv_Y]; omega, hv, d2.trans r2, ?_, ?_, ?_, ?_, ?_, ?_, ?_, ?_, ?_⟩
    · rw [gd_t (rk_t h (by omega) (by rw [K_nO, if_pos rfl])), bnd e1, gd_t (hv.val hYz).1, c25]
      simp only [Option.bind_some]
      rw [gd_t, g13]
      rw [Nat.ble_eq_true_of_le (show eZ X ≤ eZ (Yv X) by rw [Yv_Z]; omega), Nat.ble_eq_true_of_le (show eY X ≤ eY (Yv X) by rw [Yv_Y]; omega)]
      rfl
    · rw [d1, g13]
    · intro a b h1 h2 _
      have q1 := d10 a b h1 (by omega)
      have q2 := b0 a b h2 (by omega)
      exact ⟨q1.1.trans q2.1, q1.2.1.trans q2.2.1, q1.2.2.trans q2.2.2⟩
    · intro a b h1 h2 h3
      have q1 := d3 a b h1 h2 h3
      have q2 := b0 a b (by omega) (fun c => h3 (by rw [c.1, c.2]; simp))
      exact ⟨q1.1.trans q2.1, q1.2.1.trans q2.2.1, q1.2.2.trans q2.2.2⟩
    · rw [d4, (b0 1 0 (by omega) (by omega)).1]
    · intro j hj
      rw [(d5 j hj).1, (d5 j hj).2, (b0 2 j (by omega) (by omega)).1, (b0 3 j (by omega) (by omega)).1]
      exact ⟨rfl, rfl⟩
    · rw [d6, (b0 1 4 (by omega) (by omega)).1]
    · rw [d7, (b0 1 5 (by omega) (by omega)).1]
    · rw [d8, (b0 1 6 (by omega) (by omega)).2.1]
    · intro k hk
      rw [d9 k hk, (b0 1 (7 + k) (by omega) (by omega)).1]
  · rw [hk]
    show ∃ Y t σ', ((gd _ _).bind _) = _ ∧ _
    obtain ⟨d1, d2, d3, d4, d5, d6, d7, d8, d9, d10⟩ := fin t σ hv.1
    refine ⟨X, t, _, ?_, ext.rf X, by omega, by omega, by omega, hv, d2.trans hk, d1, ?_, d3, d4, d5, d6, d7, d8, d9⟩
    · rw [gd_t (hv.val (by omega)).1, c_image25 hk hv (by omega)]
      simp only [Option.bind_some]
      rw [wrp]
    · intro a b h1 h2 h3
      exact d10 a b h1 (by
        by_cases c : a < t
        · exact Or.inl c
        · exact Or.inr (by
            by_cases c2 : t + 3 < a
            · exact c2
            · exact absurd ⟨hv, by omega, by omega⟩ h3))
