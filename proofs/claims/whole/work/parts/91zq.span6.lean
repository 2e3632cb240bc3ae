/-! SPAN, alike -/
def spR (W o1 o2 : Int) (x3 : Int32) : Int64 := if x3 = 0 then jZ W else if 0 < W then (if x3 = 2 then jZ o2 else jZ o1) else -1
theorem mxV_le {h : Nat → Nat} : ∀ s : Nat, (∀ i, i < s → h i < 12) → mxV h s ≤ s * 900000000000 := by
  intro s
  induction s with
  | zero => intro _; exact Int.le_refl _
  | succ s ih =>
    intro hh
    have a := ih (fun i hi => hh i (by omega))
    have p12 : (10 : Int) ^ (h s) ≤ 10 ^ 11 := by
      have := Nat.pow_le_pow_right (n := 10) (by omega) (show h s ≤ 11 by have := hh s (by omega); omega)
      exact_mod_cast this
    have p11 : (10 : Int) ^ 11 = 100000000000 := rfl
    show mxV h s + 9 * 10 ^ (h s) ≤ _
    rw [Int.natCast_add, Int.add_mul]
    omega
theorem c_span39 {X : En} {v R w m r : Nat} {h : Nat → Nat} {S : Nat → Int} {C : Int} {x3 : Int32} {τ : St} (hv : isW X v) (hz : eZ X ≤ 1000000) (hg : gR τ 0 12 = some v) (hR : R ≤ 12) (hp5 : popc w R ≤ 5) (hH : ∀ k, k < R → w.testBit k = true → h (popc w k) = k) (hh : ∀ i, i < popc w R → h i < 12) (hm : 1 ≤ m) (hm2 : m ≤ 99) (hrm : r < m) (hr : (gI τ 1 0).toInt = R) (h5 : gI τ 1 5 = nI w) (hS : ∀ j, j < R → (seenZ (gI τ 1 4) (gI τ 2 j) j).toInt = S j) (hC : C = vsum (fun j => if w.testBit j = true then 0 else S j) R) (C0 : 0 ≤ C) (C1 : C ≤ 2000000000000) :
    ∃ σ', g_X9_span_39 (iZ (m : Int)) (iZ (r : Int)) x3 X τ = some (spR (Wf m h (popc w R) (r - C)) (C + ov m h false (popc w R) (r - C)) (C + ov m h true (popc w R) (r - C)) x3, X, σ') ∧ (∀ a b, ¬ (v ≤ a ∧ a ≤ v + 2) → gI σ' a b = gI τ a b ∧ gJ σ' a b = gJ τ a b) ∧ (∀ a b, gR σ' a b = gR τ a b) := by
  have v72 := hv.1
  have wal := hv.wal hz
  obtain ⟨σ', q0, q1, q2, q3, q4, q5, q6, q7⟩ := g_look (X := X) (S := S) wal v72 hR hp5 hH hh hm hm2 hr h5 hS
  rw [← hC] at q3
  obtain ⟨k0, k1, k2, l1, l2, s0, s1⟩ := wal
  have wal := hv.wal hz
  have r64 : (iZ (r : Int)).toInt64 = jZ (r : Int) := iZ_l (by omega) (by omega)
  have hrs := g_rest (X := X) (a := (r : Int) - C) wal q2 (by omega) (by omega) hm hm2
  have m0 : 0 ≤ ((r : Int) - C) % (m : Int) := Int.emod_nonneg _ (by omega)
  have m1 : ((r : Int) - C) % (m : Int) < m := Int.emod_lt_of_pos _ (by omega)
  obtain ⟨t, ht⟩ : ∃ t : Nat, (t : Int) = ((r : Int) - C) % m := ⟨(((r : Int) - C) % m).toNat, by omega⟩
  have hs5 := hp5
  generalize hs : popc w R = s at *
  have x2 : iZ (s : Int) * 99 + iZ (t : Int) = iZ ((s * 99 + t : Nat) : Int) := by
    rw [show (99 : Int32) = iZ ((99 : Nat) : Int) from rfl, iZ_mul, iZ_add]
    congr 1
  have W := Wf_rg (m := m) (h := h) hs5 ((r : Int) - C)
  have ev : gI σ' (v + 2) (s * 99 + t) = iZ (Wf m h s ((r : Int) - C)) := by
    rw [q5 s t (Nat.le_refl s) (by omega), ht, Wf_mod]
  have hM : g_X8_howMany v (iZ (r : Int)) X σ' = some (iZ (Wf m h s ((r : Int) - C)), X, σ') := by
    unfold g_X8_howMany g_X8_howMany_b
    rw [gd_t k0, bnd s1, gd_t k2, r64, q3, jZ_sub, bnd hrs]
    dsimp only
    rw [← ht, q1, x2, gd_t k0, gd_t k2, l2, gd_t (iZb (show s * 99 + t < 594 by omega) (by omega)), iZc (by omega), ev]
    simp only [Option.bind_some]
    rw [wrp]
  have g12 : gR σ' 0 12 = some v := by rw [q7]; exact hg
  refine ⟨σ', ?_, q6, q7⟩
  have O : ∀ (g : Bool) (y0 : Int32), y0 = (bif g then 1 else 0) → 0 < Wf m h s ((r : Int) - C) → g_X8_outermost v (iZ (r : Int)) y0 X σ' = some (jZ (C + ov m h g s (r - C)), X, σ') := by
    intro g y0 hy hw
    have mx := mxV_le (h := h) s hh
    have mn := mxV_nn (h := h) s
    unfold g_X8_outermost g_X8_outermost_b g_X8_outermost_5
    have e1 : iZ (s : Int) - 1 = iZ ((s : Int) - 1) := by
      rw [show (1 : Int32) = iZ 1 from rfl, iZ_sub]
    rw [gd_t k0, gd_t k0, q3, q1, e1, g_out13 wal hm hm2 hs5 hrm hh q2 q4 q5 hy s FU C (Nat.le_refl s) (by unfold FU; omega) C0 (by omega) hw]
    simp only [Option.bind_some]
    rw [wrp]
  unfold g_X9_span_39
  rw [hg]
  show gd _ _ = _
  rw [gd_t k0, bnd q0]
  dsimp only
  rw [g12]
  show gd _ _ = _
  rw [gd_t k0, bnd hM]
  dsimp only
  unfold spR
  by_cases c0 : x3 = 0
  · rw [if_pos c0, if_pos c0, iZ_l (by omega) (by omega)]
  · rw [if_neg c0, if_neg c0]
    by_cases cw : 0 < Wf m h s ((r : Int) - C)
    · rw [if_neg (by rw [eI, iZ_toInt (by omega) (by omega), t_0]; omega), if_pos cw, g12]
      show gd _ _ = _
      rw [gd_t k0]
      unfold g_X9_span_95 g_X9_span_98
      by_cases c2 : x3 = 2
      · rw [if_pos c2, if_pos c2, gd_t k0, bnd (O true 1 rfl cw)]
      · rw [if_neg c2, if_neg c2, gd_t k0, bnd (O false 0 rfl cw)]
    · rw [if_pos (by rw [eI, iZ_toInt (by omega) (by omega), t_0]; omega), if_neg cw]
      rfl
theorem popc_hi {w R : Nat} (hw : w < 2 ^ R) : ∀ n : Nat, popc w (R + n) = popc w R := by
  intro n
  induction n with
  | zero => rfl
  | succ n ih =>
    show popc w (R + n) + (if w.testBit (R + n) then 1 else 0) = _
    have : w.testBit (R + n) = false := Nat.testBit_lt_two_pow (Nat.lt_of_lt_of_le hw (Nat.pow_le_pow_right (by omega) (by omega)))
    rw [this, ih]
    rfl
theorem d_span {R w m r : Nat} {h : Nat → Nat} {S : Nat → Int} {C : Int} {x3 : Int32} {τ : St} (hR : R ≤ 12) (hw : w < 2 ^ R) (hp5 : popc w R ≤ 5) (hH : ∀ k, k < R → w.testBit k = true → h (popc w k) = k) (hI : ∀ i, i + 1 < popc w R → h i < h (i + 1)) (hh : ∀ i, i < popc w R → h i < 12) (hm : 1 ≤ m) (hm2 : m ≤ 99) (hrm : r < m) (hr : (gI τ 38 1).toInt = R) (h5 : gI τ 38 20 = nI w) (hS : ∀ j, j < R → (seenZ (gI τ 38 19) (gI τ 46 j) j).toInt = S j) (hC : C = vsum (fun j => if w.testBit j = true then 0 else S j) R) (C0 : 0 ≤ C) (C1 : C ≤ 2000000000000) (h30 : 0 ≤ x3.toInt) (h32 : x3.toInt ≤ 2) :
    f_X10_span (iZ (m : Int)) (iZ (r : Int)) x3 τ = some (spR (Wf m h (popc w R) (r - C)) (C + ov m h false (popc w R) (r - C)) (C + ov m h true (popc w R) (r - C)) x3, τ) := by
  have mx := mxV_le (h := h) _ hh
  have hb : vsum (fg τ) R = C := by
    rw [hC]
    refine vsum_congr R (fun j hj => ?_)
    show (if bitI (gI τ 38 20) j then 0 else (seenZ (gI τ 38 19) (gI τ 46 j) j).toInt) = if w.testBit j = true then 0 else S j
    rw [h5, hS j hj]
    by_cases c : w.testBit j = true
    · rw [if_pos ((bit_nI (by omega)).mpr c), if_pos c]
    · rw [if_neg (fun q => c ((bit_nI (by omega)).mp q)), if_neg c]
  have w12 : w < 4096 := Nat.lt_of_lt_of_le hw (by have := Nat.pow_le_pow_right (n := 2) (by omega) hR; exact this)
  have pc : popc w 12 = popc w R := by
    have := popc_hi hw (12 - R)
    rw [show R + (12 - R) = 12 by omega] at this
    exact this
  have bc : bcI (nI w) = iZ (popc w R : Int) := by
    rw [eI, bc_popc w12, pc, iZt (by omega)]
  have p5 : 10 ^ popc w R ≤ 100000 := Nat.pow_le_pow_right (n := 10) (by omega) hp5
  unfold f_X10_span f_X10_span_43
  rw [bnd (s_isRest10 _ _ τ)]
  dsimp only
  rw [if_neg (by rw [bZ_0, iZt (by omega), iZt (by omega)]; omega), bnd (s_in _ _ _ τ)]
  dsimp only
  rw [if_neg (by rw [bZ_0, t64, l_0, l_2]; omega), bnd (s_seenN τ R hR hr)]
  dsimp only
  rw [hb, h5, bnd (s_bitCount _ τ), bc]
  dsimp only
  rw [bnd (s_ten τ _ (by omega))]
  dsimp only
  rw [jZ_i]
  have e10 : ((10 : Int) ^ popc w R) = ((10 ^ popc w R : Nat) : Int) := by rw [Int.natCast_pow]; rfl
  rw [e10]
  generalize hs : popc w R = s at *
  have bl := sp_bl (x3 := x3) (σ := τ) (base := C) hR hr h5 hs hH hI p5 hm hm2 hrm C0 (by omega) s (Nat.le_refl s) 0 (FU - 10 ^ s) 0 (-1) (-1) (by omega) (Or.inl rfl) (by omega) (by have := (Vf_b (h := h) s (0 * 10 ^ s)).1; omega)
  have v0 : Vf h s (0 * 10 ^ s) = 0 := by rw [Nat.zero_mul, Vf_0]
  rw [v0, Int.add_zero, Int.zero_add, Nat.zero_mul, Nat.zero_add, Nat.one_mul, show FU - 10 ^ s + 10 ^ s = FU by unfold FU; omega] at bl
  rw [show f_X10_span_59 FU (iZ (m : Int)) (iZ (r : Int)) x3 (jZ C) (iZ ((10 ^ s : Nat) : Int)) 0 (-1) (-1) 0 τ = _ from bl]
  obtain ⟨f, hf⟩ : ∃ f, FU - 10 ^ s = f + 1 := ⟨FU - 10 ^ s - 1, by unfold FU; omega⟩
  rw [hf, f_X10_span_59, if_pos (by rw [leI]; exact Int.le_refl _)]
  unfold f_X10_span_204 spR nxL nxM
  have m1 : jZ (-1) = -1 := rfl
  by_cases c0 : x3 = 0
  · rw [if_pos c0, if_pos c0]
  · rw [if_neg c0, if_neg c0, if_pos rfl]
    by_cases cw : 0 < Wf m h s ((r : Int) - C)
    · rw [if_pos cw, if_pos cw, if_pos cw]
      by_cases c1 : x3 = 1
      · rw [if_pos c1, if_neg (by rw [c1]; decide)]
      · rw [if_neg c1, if_pos (by rw [eI, t_2]; rw [eI, t_0] at c0; rw [eI, t_1] at c1; omega)]
    · rw [if_neg cw, if_neg cw, if_neg cw, m1]
      split <;> rfl
