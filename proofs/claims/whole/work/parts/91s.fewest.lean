/-! FEWEST WALKS: any number of ropes -/
def wkR (R P n : Nat) : Int32 := (bringU F9 R (dgI n) R 0 (V0 P)).2.2.1
theorem wkR_any {R P n : Nat} (hR : R ≤ 12) (hP : P < 10 ^ 18) (hn : n < 10 ^ 18) {V : Vl} (ok : okD V) (h0 : V.2.2.1 = 0) (hV : ∀ j, j < R → V.1 j = dgI P j) : (bringU F9 R (dgI n) R 0 V).2.2.1 = wkR R P n := by
  have a := s_walks hR ((fun _ _ => 0, fun _ _ => 0, fun _ _ => none) : St) P n hP hn V ok h0 hV
  have b := s_walks hR ((fun _ _ => 0, fun _ _ => 0, fun _ _ => none) : St) P n hP hn (V0 P) (okV0 P) rfl (fun _ _ => rfl)
  rw [a] at b
  injection b with b
  have b2 := congrArg Prod.fst b
  exact b2
theorem m_walks {R P n : Nat} (hR : R ≤ 12) (hP : P < 10 ^ 18) (hn : n < 10 ^ 18) (τ : St) : f_X10_walksOf (jZ (P : Int)) (jZ (n : Int)) (iZ (R : Int)) τ = some (wkR R P n, τ) :=
  s_walks hR τ P n hP hn (V0 P) (okV0 P) rfl (fun _ _ => rfl)
def CIR (R : Nat) (σ : St) (P : Nat) (w : Int32) : Prop := ∃ V, relC 5 R F9 σ V ∧ okD V ∧ (∀ j, j < R → V.1 j = dgI P j) ∧ V.2.2.1 = w
theorem dg_eqR {R : Nat} (hR : R ≤ 12) {V : Vl} {Q : Nat} (ok : okD V) (h : vsum (vD V) R % 10 ^ R = (Q : Int) % 10 ^ R) : ∀ j, j < R → V.1 j = dgI Q j := by
  obtain ⟨w, w1, w2, w3⟩ := vsum_rg hR ok
  have hw : w = Q % 10 ^ R := by
    rw [w1, jpow, ← Int.natCast_emod, ← Int.natCast_emod, Nat.mod_eq_of_lt w2] at h
    exact Int.ofNat_inj.mp h
  intro j hj
  rw [← w3 j hj, hw]
  unfold dgI
  rw [dg_mod hj]
theorem vsum_dgR (n R : Nat) (hR : R ≤ 12) : vsum (fun j => (dgI n j).toInt) R = ((n % 10 ^ R : Nat) : Int) := by
  rw [← vsum_dgI (n % 10 ^ R) R (Nat.mod_lt _ (Nat.pow_pos (by omega))) hR]
  exact vsum_congr R (fun j hj => by
    show (dgI n j).toInt = (dgI (n % 10 ^ R) j).toInt
    unfold dgI; rw [dg_mod hj])
theorem emR (a b : Nat) (R : Nat) : (((a % 10 ^ R : Nat) : Int) + ((b % 10 ^ R : Nat) : Int)) % 10 ^ R = ((a + b : Nat) : Int) % 10 ^ R := by
  rw [jpow, ← Int.natCast_add, ← Int.natCast_emod, ← Int.natCast_emod, ← Nat.add_mod]
theorem c_addR {R : Nat} (hR : R ≤ 12) {σ : St} {P n : Nat} {w : Int32} (h : CIR R σ P w) (hP : P < 10 ^ 18) (hn : n < 10 ^ 9) : ∃ σ', f_X7_bring_n 5 (iZ (n : Int)) 0 0 σ = some σ' ∧ CIR R σ' (P + n) (w + wkR R P n) := by
  obtain ⟨V, r, ok, hV, hw⟩ := h
  obtain ⟨σ', e1, r1⟩ := c_bring_n hR r n hn 0 0
  refine ⟨σ', e1, _, r1, ?_⟩
  have e9 : 10 ^ 9 = 1000000000 := by decide
  have e18 : 10 ^ 18 = 1000000000000000000 := by decide
  have ht := top_le n R hR
  rw [sg0_fun, bringVU _ _ (Nat.le_refl _), Nat.sub_self]
  obtain ⟨W, hW, d1, d2⟩ : ∃ W, ovIf n R V = W ∧ W.1 = V.1 ∧ W.2.2.1 = V.2.2.1 := by
    refine ⟨_, rfl, ?_⟩
    unfold ovIf
    split
    · exact ⟨rfl, rfl⟩
    · exact ⟨rfl, rfl⟩
  rw [hW]
  have okW : okD W := fun j hj => by rw [d1]; exact ok j hj
  have hVW : ∀ j, j < R → W.1 j = dgI P j := fun j hj => by rw [d1]; exact hV j hj
  have full := bringU_app (F := F9) (R := R) (h := dgI n) (topN n R) (R - topN n R) 0 W
  rw [show topN n R + (R - topN n R) = R by omega, Nat.zero_add] at full
  have b9 := bringU_9 hR (dg_rg n) (topN n R) 0 W (by omega) okW
  have bz := bringU_0 hR (h := dgI n) (R - topN n R) (topN n R) (bringU F9 R (dgI n) (topN n R) 0 W) (by omega) b9.1 (fun j h1 h2 => dg_top hR h1 (by omega))
  rw [← full] at bz
  have bf := bringU_9 hR (dg_rg n) R 0 W (by omega) okW
  refine ⟨b9.1, ?_, ?_⟩
  · rw [← bz.1]
    refine dg_eqR hR bf.1 ?_
    rw [bf.2, Nat.zero_add, vsum_dgR n R hR]
    have v1 : vsum (vD W) R = ((P % 10 ^ R : Nat) : Int) := by
      rw [← vsum_dgR P R hR]
      exact vsum_congr R (fun j hj => by
        show (W.1 j).toInt = _
        rw [hVW j hj])
    have z : vsum (fun j => (dgI n j).toInt) 0 = 0 := rfl
    rw [v1, z, Int.sub_zero, emR]
  · rw [← bz.2]
    have sh := shR.bu (F := F9) (R := R) (g := dgI n) R 0 _ _ (zw (V := W))
    rw [sh.2.2.1, wkR_any hR hP (by omega) (V := (W.1, W.2.1, 0, W.2.2.2)) okW rfl hVW, d2, hw, Int32.add_comm]
theorem frm.mo2 {W W' : List Nat} {F F' : List (Nat × Nat)} {σ σ' : St} (h : frm W F σ σ') (hs : ∀ a ∈ W, a ∈ W') (hf : ∀ p ∈ F, p.1 ∈ W' ∨ p ∈ F') : frm W' F' σ σ' := fun a b ha hb => h a b (fun q => ha (hs a q)) (fun q => by
  rcases hf _ q with c | c
  · exact ha c
  · exact hb c)
theorem c_standR {R : Nat} (hR : R ≤ 12) {σ : St} {P Q : Nat} {w : Int32} (h : CIR R σ P w) (hQ : Q < 10 ^ 18) : ∃ σ', f_X7_standFor 5 (jZ (Q : Int)) σ = some σ' ∧ CIR R σ' Q w := by
  obtain ⟨V, ⟨r0, r1, r2, r3, r4, r5, r6⟩, ok, hV, hw⟩ := h
  obtain ⟨σ', e1, d1, d2⟩ := c_standFor (o := 5) hR hQ r0
  have fr := fr_X7_standFor 5 e1
  have c5 : ∀ b, gI σ' 5 b = gI σ 5 b := fun b => (fr 5 b (by simp) (by simp)).1
  have c7 : ∀ b, gI σ' 7 b = gI σ 7 b := fun b => (fr 7 b (by simp) (by simp)).1
  have c8 : ∀ b, gI σ' 8 b = gI σ 8 b := fun b => (fr 8 b (by simp) (by simp)).1
  refine ⟨σ', e1, (gI σ' 6, V.2), ⟨?_, ?_, ?_, ?_, ?_, ?_, ?_⟩, ?_, d1, hw⟩
  · rw [c5]; exact r0
  · intro j hj
    obtain ⟨a1, a2, a3⟩ := r1 j hj
    exact ⟨rfl, (c7 j).trans a2, (c8 j).trans a3⟩
  · rw [c5]; exact r2
  · rw [c5]; exact r3
  · rw [c5]; exact r4
  · rw [c5]; exact r5
  · rw [c5]; exact r6
  · intro j hj
    show rg (gI σ' (5 + 1) j) 0 9
    by_cases c : j < R
    · rw [d1 j c]; exact dg_rg Q j
    · rw [d2 j (by omega), (r1 j hj).1]; exact ok j hj
/-- how many walks at most -/
def wB (V : Vl) (w : Int) : Prop := 0 ≤ V.2.2.1.toInt ∧ V.2.2.1.toInt ≤ w
theorem abd {x y : Int32} (hx : rg x 0 9) (hy : rg y 0 9) : 0 ≤ (abI (x - y)).toInt ∧ (abI (x - y)).toInt ≤ 9 := by
  unfold rg at hx hy
  have e : (x - y).toInt = x.toInt - y.toInt := tsub (by omega) (by omega)
  unfold abI
  by_cases c : (0 : Int32) ≤ x - y
  · rw [if_pos c]
    rw [leI, t_0] at c
    omega
  · rw [if_neg c]
    rw [leI, t_0] at c
    have : (0 - (x - y)).toInt = 0 - (x - y).toInt := tsub (by rw [t_0]; omega) (by rw [t_0]; omega)
    omega
theorem wB_stand {k : Nat} {v : Int32} {V : Vl} {w : Int} (hk : k < 12) (hv : rg v 0 9) (ok : okD V) (h : wB V w) (hw : w ≤ 100000) : wB (standV F9 k v V) (w + 9) := by
  unfold wB at h ⊢
  have a := abd hv (ok k hk)
  rw [(stand_9 hv).2, tadd (by omega) (by omega)]
  omega
theorem wB_drive {R : Nat} (hR : R ≤ 12) : ∀ m r : Nat, ∀ y : Int32, ∀ V : Vl, ∀ w : Int, r + m = R → rg y 0 9 → okD V → wB V w → w + 9 * m ≤ 50000 → wB (driveV F9 m r y V) (w + 9 * m)
  | 0, r, y, V, w, e, hy, ok, h, hw => by
    have : w + 9 * ((0 : Nat) : Int) = w := by omega
    rw [this]
    exact h
  | m + 1, r, y, V, w, e, hy, ok, h, hw => by
    have od := ok r (by omega)
    have hy' := hy
    unfold rg at hy od
    have hn : (V.1 r + y).toInt = (V.1 r).toInt + y.toInt := tadd (by omega) (by omega)
    rw [driveV]
    by_cases c : 0 ≤ (V.1 r + y).toInt ∧ (V.1 r + y).toInt ≤ 9
    · rw [if_pos c]
      have := wB_stand (k := r) (by omega) c ok h (by omega)
      unfold wB at this ⊢
      omega
    · rw [if_neg c]
      have y0 : (0 : Int32) ≤ y := by rw [leI, t_0]; omega
      rw [if_pos y0, if_pos y0]
      have e10 : (V.1 r + y - 10).toInt = (V.1 r).toInt + y.toInt - 10 := by rw [tsub (by rw [t_10]; omega) (by rw [t_10]; omega), t_10, hn]
      have hv : rg (V.1 r + y - 10) 0 9 := by unfold rg; omega
      have s := wB_stand (k := r) (by omega) hv ok h (by omega)
      have i := wB_drive hR m (r + 1) 1 (caV (standV F9 r (V.1 r + y - 10) V)) (w + 9) (by omega) (by unfold rg; rw [t_1]; omega) (ok_stand okF9 ok r (by omega) hv) s (by omega)
      unfold wB at i ⊢
      omega
theorem wB_bring {R : Nat} (hR : R ≤ 12) {h : Nat → Int32} (hh : ∀ r, rg (h r) 0 9) : ∀ m r : Nat, ∀ V : Vl, ∀ w : Int, r + m ≤ R → okD V → wB V w → w + 108 * m ≤ 40000 → wB (bringU F9 R h m r V) (w + 108 * m)
  | 0, r, V, w, e, ok, b, hw => by
    have : w + 108 * ((0 : Nat) : Int) = w := by omega
    rw [this]
    exact b
  | m + 1, r, V, w, e, ok, b, hw => by
    have d := drive_9 hR (R - r) r (h r) V (by omega) (hh r) ok
    have bd := wB_drive hR (R - r) r (h r) V w (by omega) (hh r) ok b (by omega)
    have bd2 : wB (driveV F9 (R - r) r (h r) V) (w + 108) := by
      unfold wB at bd ⊢
      omega
    have i := wB_bring hR hh m (r + 1) _ (w + 108) (by omega) d.1 bd2 (by omega)
    unfold wB at i ⊢
    rw [bringU]
    omega
theorem wkR_b {R : Nat} (hR : R ≤ 12) (P n : Nat) : 0 ≤ (wkR R P n).toInt ∧ (wkR R P n).toInt ≤ 1296 := by
  have b := wB_bring hR (dg_rg n) R 0 (V0 P) 0 (by omega) (okV0 P) (by unfold wB; exact ⟨Int.le_refl _, Int.le_refl _⟩) (by omega)
  unfold wB at b
  unfold wkR
  omega
