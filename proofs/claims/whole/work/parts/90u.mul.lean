/-! PRODUCTS -/
abbrev V0 (P : Nat) : Vl := (dgI P, fun _ => 0, 0, 0, 0, 0, 0)
theorem okV0 (P : Nat) : okD (V0 P) := fun j _ => dg_rg P j
def wk (P n : Nat) : Int32 := (bringU F9 9 (dgI n) 9 0 (V0 P)).2.2.1
theorem wk_any {P n : Nat} (hP : P < 10 ^ 9) (hn : n < 10 ^ 9) {V : Vl} (ok : okD V) (h0 : V.2.2.1 = 0) (hV : ∀ j, j < 9 → V.1 j = dgI P j) : (bringU F9 9 (dgI n) 9 0 V).2.2.1 = wk P n := by
  have e9 : 10 ^ 9 = 1000000000 := by decide
  have e18 : 10 ^ 18 = 1000000000000000000 := by decide
  have a := s_walks (R := 9) (by omega) ((fun _ _ => 0, fun _ _ => 0, fun _ _ => none) : St) P n (by omega) (by omega) V ok h0 hV
  have b := s_walks (R := 9) (by omega) ((fun _ _ => 0, fun _ _ => 0, fun _ _ => none) : St) P n (by omega) (by omega) (V0 P) (okV0 P) rfl (fun _ _ => rfl)
  rw [a] at b
  injection b with b
  have b2 := congrArg Prod.fst b
  exact b2
def CI (σ : St) (P : Nat) (w : Int32) : Prop := ∃ V, relC 5 9 F9 σ V ∧ okD V ∧ (∀ j, j < 9 → V.1 j = dgI P j) ∧ V.2.2.1 = w
theorem zw {V : Vl} : shR V.2.2.1 0 0 0 (V.1, V.2.1, 0, V.2.2.2) V := ⟨rfl, rfl, (Int32.zero_add _).symm, (Int32.add_zero _).symm, (Int32.add_zero _).symm, (Int32.add_zero _).symm⟩
theorem dg_eq {V : Vl} {Q : Nat} (ok : okD V) (hQ : Q < 10 ^ 9) (h : vsum (vD V) 9 % 10 ^ 9 = (Q : Int) % 10 ^ 9) : ∀ j, j < 9 → V.1 j = dgI Q j := by
  obtain ⟨w, w1, w2, w3⟩ := vsum_rg (R := 9) (by omega) ok
  have e9 : (10 : Int) ^ 9 = 1000000000 := by decide
  have e9n : 10 ^ 9 = 1000000000 := by decide
  rw [w1, e9] at h
  have : w = Q := by omega
  intro j hj
  rw [← this]; exact (w3 j hj).symm
theorem vsum_dgI (n R : Nat) (hn : n < 10 ^ R) (hR : R ≤ 12) : vsum (fun j => (dgI n j).toInt) R = (n : Int) := by
  obtain ⟨w, w1, w2, w3⟩ := vsum_rg (V := V0 n) hR (okV0 n)
  have : w = n := dig_inj R w n w2 hn (fun j hj => by
    have a := w3 j hj
    have b1 : dgN w j < 10 := Nat.mod_lt _ (by omega)
    have b2 : dgN n j < 10 := Nat.mod_lt _ (by omega)
    have a2 := congrArg Int32.toInt a
    unfold dgI at a2
    rw [iZt (by omega), iZt (by omega)] at a2
    omega)
  rw [← this]; rw [← this] at w1; exact w1
theorem sg0_fun (n : Nat) : (fun (_ : Nat) r => sgZ 0 (dgI n r)) = (fun _ r => dgI n r) := by
  funext t r
  generalize dgI n r = y
  rw [sgZ0]
theorem dg_top {n R j : Nat} (hR : R ≤ 12) (h1 : topN n R ≤ j) (h2 : j < R) : dgI n j = 0 := by
  have hp := p12 hR
  have hm : n % 10 ^ R < 10 ^ R := Nat.mod_lt _ (Nat.pow_pos (by omega))
  have e18 : 10 ^ 18 = 1000000000000000000 := by decide
  have := (nd_le (v := n % 10 ^ R) (j := j) (by omega)).mp h1
  have : dgN n j = 0 := by
    rw [← dg_mod h2]
    unfold dgN
    rw [Nat.div_eq_of_lt this]
  unfold dgI
  rw [this]; rfl
theorem c_addX {σ : St} {P n : Nat} {w : Int32} (h : CI σ P w) (hP : P < 10 ^ 9) (hn : n < 10 ^ 9) (hs : P + n < 10 ^ 9) : ∃ σ', f_X7_bring_n 5 (iZ (n : Int)) 0 0 σ = some σ' ∧ CI σ' (P + n) (w + wk P n) := by
  obtain ⟨V, r, ok, hV, hw⟩ := h
  obtain ⟨σ', e1, r1⟩ := c_bring_n (by omega) r n hn 0 0
  refine ⟨σ', e1, _, r1, ?_⟩
  have e9 : 10 ^ 9 = 1000000000 := by decide
  have ht := top_le n 9 (by omega)
  rw [sg0_fun, bringVU _ _ (Nat.le_refl _), Nat.sub_self]
  have eo : ovIf n 9 V = V := if_pos hn
  rw [eo]
  have full := bringU_app (F := F9) (R := 9) (h := dgI n) (topN n 9) (9 - topN n 9) 0 V
  rw [show topN n 9 + (9 - topN n 9) = 9 by omega, Nat.zero_add] at full
  have b9 := bringU_9 (R := 9) (by omega) (dg_rg n) (topN n 9) 0 V (by omega) ok
  have bz := bringU_0 (R := 9) (by omega) (h := dgI n) (9 - topN n 9) (topN n 9) (bringU F9 9 (dgI n) (topN n 9) 0 V) (by omega) b9.1 (fun j h1 h2 => dg_top (by omega) h1 (by omega))
  rw [← full] at bz
  have bf := bringU_9 (R := 9) (by omega) (dg_rg n) 9 0 V (by omega) ok
  refine ⟨b9.1, ?_, ?_⟩
  · rw [← bz.1]
    refine dg_eq bf.1 hs ?_
    rw [bf.2]
    congr 1
    have v1 : vsum (vD V) 9 = (P : Int) := by
      rw [← vsum_dgI P 9 hP (by omega)]
      exact vsum_congr 9 (fun j hj => by
        show (V.1 j).toInt = _
        rw [hV j hj])
    have v2 := vsum_dgI n 9 hn (by omega)
    rw [v1, Nat.zero_add, v2]
    show (P : Int) + ((n : Int) - 0) = _
    omega
  · rw [← bz.2]
    have sh := shR.bu (F := F9) (R := 9) (g := dgI n) 9 0 _ _ (zw (V := V))
    rw [sh.2.2.1, wk_any hP hn (V := (V.1, V.2.1, 0, V.2.2.2)) ok rfl hV, hw, Int32.add_comm]
def MI (τ : St) (P : Nat) (w c : Int32) : Prop := gJ τ 38 35 = jZ (P : Int) ∧ gI τ 38 36 = w ∧ gI τ 38 37 = c
theorem m_addX {τ : St} {P n : Nat} {w c : Int32} (h : MI τ P w c) (hP : P < 10 ^ 9) (hn : n < 10 ^ 9) : ∃ τ', f_X10_addTo (jZ (n : Int)) τ = some τ' ∧ MI τ' (P + n) (w + wk P n) (c + 1) := by
  obtain ⟨h1, h2, h3⟩ := h
  have e9 : 10 ^ 9 = 1000000000 := by decide
  have e18 : 10 ^ 18 = 1000000000000000000 := by decide
  unfold f_X10_addTo f_X10_addTo_29
  have s := s_walks (R := 9) (by omega) τ P n (by omega) (by omega) (V0 P) (okV0 P) rfl (fun _ _ => rfl)
  have s' : f_X10_walksOf (gJ τ 38 35) (jZ (n : Int)) 9 τ = some (wk P n, τ) := by rw [h1]; exact s
  rw [bnd s']
  refine ⟨_, rfl, ?_, ?_, ?_⟩
  · simp only [gI_sI, gI_sJ, gI_sR, gJ_sI, gJ_sJ, gJ_sR, gR_sI, gR_sJ, gR_sR]
    simp only [if_true, h1, jZ_add, Int.natCast_add]
  · simp [gI_sI, gI_sJ, gI_sR, gJ_sI, gJ_sJ, gJ_sR, gR_sI, gR_sJ, gR_sR, h2]
  · simp [gI_sI, gI_sJ, gI_sR, gJ_sI, gJ_sJ, gJ_sR, gR_sI, gR_sJ, gR_sR, h3]
/-- digits and walks alone -/
def eqDW (V W : Vl) : Prop := V.1 = W.1 ∧ V.2.2.1 = W.2.2.1
theorem eqDW.stand {F : Nat → Int32} {V W : Vl} (h : eqDW V W) (k : Nat) (v : Int32) : eqDW (standV F k v V) (standV F k v W) := by
  obtain ⟨h1, h2⟩ := h
  unfold eqDW standV
  simp only [h1, h2]
  exact ⟨trivial, trivial⟩
theorem eqDW.drive {F : Nat → Int32} : ∀ m r : Nat, ∀ y : Int32, ∀ V W : Vl, eqDW V W → eqDW (driveV F m r y V) (driveV F m r y W)
  | 0, _, _, _, _, h => h
  | m + 1, r, y, V, W, h => by
    rw [driveV, driveV, h.1]
    split
    · exact h.stand _ _
    · exact eqDW.drive m (r + 1) _ _ _ (show eqDW (caV (standV F r _ V)) (caV (standV F r _ W)) from h.stand _ _)
theorem dg_one {d k j : Nat} (hd : d < 10) : dgN (d * 10 ^ k) j = if j = k then d else 0 := by
  unfold dgN
  by_cases c : j = k
  · subst c
    rw [if_pos rfl, Nat.mul_div_cancel _ (Nat.pow_pos (by omega))]; omega
  · rw [if_neg c]
    by_cases c2 : j < k
    · have e : d * 10 ^ k = d * 10 ^ (k - j - 1) * 10 * 10 ^ j := by
        rw [Nat.mul_assoc, Nat.mul_assoc]; congr 1
        rw [← Nat.mul_assoc, ← Nat.pow_succ, ← Nat.pow_add]; congr 1; omega
      rw [e, Nat.mul_div_cancel _ (Nat.pow_pos (by omega)), Nat.mul_mod_left]
    · have h1 : 10 ^ (k + 1) ≤ 10 ^ j := Nat.pow_le_pow_right (by omega) (by omega)
      have h2 : d * 10 ^ k < 10 ^ (k + 1) := by
        rw [Nat.pow_succ, Nat.mul_comm]
        exact Nat.mul_lt_mul_of_pos_left hd (Nat.pow_pos (by omega))
      rw [Nat.div_eq_of_lt (by omega)]
theorem one_dig {d k : Nat} (hd : d < 10) (hk : k < 9) {V : Vl} (ok : okD V) : eqDW (bringU F9 9 (dgI (d * 10 ^ k)) 9 0 V) (driveV F9 (9 - k) k (iZ (d : Int)) V) := by
  have hz : ∀ j, j ≠ k → dgI (d * 10 ^ k) j = 0 := fun j hj => by
    unfold dgI; rw [dg_one hd, if_neg hj]; rfl
  have hk0 : dgI (d * 10 ^ k) k = iZ (d : Int) := by
    unfold dgI; rw [dg_one hd, if_pos rfl]
  have e : 9 = k + (1 + (8 - k)) := by omega
  have a1 := bringU_app (F := F9) (R := 9) (h := dgI (d * 10 ^ k)) k (1 + (8 - k)) 0 V
  rw [show k + (1 + (8 - k)) = 9 by omega, Nat.zero_add] at a1
  have z1 := bringU_0 (R := 9) (by omega) (h := dgI (d * 10 ^ k)) k 0 V (by omega) ok (fun j h1 h2 => hz j (by omega))
  have ok1 : okD (bringU F9 9 (dgI (d * 10 ^ k)) k 0 V) := fun j hj => by rw [z1.1]; exact ok j hj
  rw [a1, bringU_app 1 (8 - k) k]
  have s1 : bringU F9 9 (dgI (d * 10 ^ k)) 1 k (bringU F9 9 (dgI (d * 10 ^ k)) k 0 V) = driveV F9 (9 - k) k (iZ (d : Int)) (bringU F9 9 (dgI (d * 10 ^ k)) k 0 V) := by
    rw [bringU, bringU, hk0]
  rw [s1]
  have eD : eqDW (driveV F9 (9 - k) k (iZ (d : Int)) (bringU F9 9 (dgI (d * 10 ^ k)) k 0 V)) (driveV F9 (9 - k) k (iZ (d : Int)) V) := eqDW.drive _ _ _ _ _ z1
  have ok2 := (drive_9 (R := 9) (by omega) (9 - k) k (iZ (d : Int)) _ (by omega) (by unfold rg; rw [iZt (by omega)]; omega) ok1).1
  have z2 := bringU_0 (R := 9) (by omega) (h := dgI (d * 10 ^ k)) (8 - k) (k + 1) _ (by omega) ok2 (fun j h1 h2 => hz j (by omega))
  exact ⟨z2.1.trans eD.1, z2.2.trans eD.2⟩
