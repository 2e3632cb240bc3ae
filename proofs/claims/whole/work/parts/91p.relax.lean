/-! MAKE: relaxing -/
theorem pC_rg (v : Nat) : 0 ≤ pC v ∧ pC v ≤ 28000 := by
  have b : ∀ j, 0 ≤ (dgN v j : Int) ∧ (dgN v j : Int) ≤ 9 := fun j => by
    have : dgN v j < 10 := Nat.mod_lt _ (by omega)
    omega
  have b0 := b 0
  have b1 := b 1
  have b2 := b 2
  show 0 ≤ 0 + (1000 * (dgN v 0 : Int) + min (dgN v 0 : Int) 1) + (1000 * (dgN v 1 : Int) + min (dgN v 1 : Int) 1) + (1000 * (dgN v 2 : Int) + min (dgN v 2 : Int) 1) ∧ 0 + (1000 * (dgN v 0 : Int) + min (dgN v 0 : Int) 1) + (1000 * (dgN v 1 : Int) + min (dgN v 1 : Int) 1) + (1000 * (dgN v 2 : Int) + min (dgN v 2 : Int) 1) ≤ 28000
  generalize (dgN v 0 : Int) = x0 at b0 ⊢
  generalize (dgN v 1 : Int) = x1 at b1 ⊢
  generalize (dgN v 2 : Int) = x2 at b2 ⊢
  omega
def oneC (σ : St) (k : Nat) : Prop := gI σ 67 k = -1 ∨ (pC k ≤ (gI σ 67 k).toInt ∧ (gI σ 67 k).toInt ≤ 1000000)
def Mon (σ σ' : St) : Prop := gI σ' 68 = gI σ 68 ∧ ∀ k, k < 1000 → (¬ gI σ 67 k = -1 → ¬ gI σ' 67 k = -1 ∧ (gI σ' 67 k).toInt ≤ (gI σ 67 k).toInt) ∧ oneC σ' k ∧ ((gI σ 67 k).toInt = pC k → gI σ' 67 k = gI σ 67 k)
theorem Mon.rf {σ : St} (h : ∀ k, k < 1000 → oneC σ k) : Mon σ σ := ⟨rfl, fun k hk => ⟨fun c => ⟨c, Int.le_refl _⟩, h k hk, fun _ => rfl⟩⟩
theorem Mon.tr {σ σ1 σ2 : St} (h : Mon σ σ1) (h2 : Mon σ1 σ2) : Mon σ σ2 := by
  refine ⟨h2.1.trans h.1, fun k hk => ?_⟩
  obtain ⟨a1, a2, a3⟩ := h.2 k hk
  obtain ⟨b1, b2, b3⟩ := h2.2 k hk
  refine ⟨fun c => ?_, b2, fun c => ?_⟩
  · obtain ⟨c1, c2⟩ := a1 c
    obtain ⟨c3, c4⟩ := b1 c1
    exact ⟨c3, by omega⟩
  · have e := a3 c
    rw [b3 (by rw [e]; exact c), e]
theorem Mon.one {σ σ' : St} (h : Mon σ σ') : ∀ k, k < 1000 → oneC σ' k := fun k hk => (h.2 k hk).2.1
/-- what an edge has done -/
def eDone (σ : St) (u t : Nat) (w : Int32) : Prop := ¬ gI σ 67 t = -1 ∧ (gI σ 67 t).toInt ≤ pC u + 1000 * w.toInt + 1
theorem eDone.mon {σ σ' : St} {u t : Nat} {w : Int32} (h : eDone σ u t w) (m : Mon σ σ') (ht : t < 1000) : eDone σ' u t w := by
  obtain ⟨c1, c2⟩ := (m.2 t ht).1 h.1
  exact ⟨c1, by have := h.2; omega⟩
theorem s_relax {σ : St} {u t : Nat} {w : Int32} (hu : u < 1000) (ht : t < 1000) (hb : ∀ k, k < 1000 → oneC σ k) (hc : (gI σ 67 u).toInt = pC u) (hw : rg w 0 600) (he : pC t ≤ pC u + 1000 * w.toInt + 1) : ∃ σ', f_X10_relax (iZ (u : Int)) (iZ (t : Int)) w σ = some σ' ∧ Mon σ σ' ∧ eDone σ' u t w := by
  have bu := iZb hu (show 1000 < 2147483648 by omega)
  have bt := iZb ht (show 1000 < 2147483648 by omega)
  obtain ⟨pu1, pu2⟩ := pC_rg u
  unfold rg at hw
  have ew : ((1000 : Int32) * w).toInt = 1000 * w.toInt := by rw [tmul (by rw [t_1000]; omega) (by rw [t_1000]; omega), t_1000]
  have ex : (gI σ 67 u + 1000 * w + 1).toInt = pC u + 1000 * w.toInt + 1 := by
    have e1 : (gI σ 67 u + 1000 * w).toInt = pC u + 1000 * w.toInt := by rw [tadd (by rw [hc, ew]; omega) (by rw [hc, ew]; omega), hc, ew]
    rw [tadd (by rw [e1, t_1]; omega) (by rw [e1, t_1]; omega), e1, t_1]
  unfold f_X10_relax f_X10_relax_16 f_X10_relax_42 f_X10_relax_53
  rw [gd_t bu, gd_t bt, gd_t bt, gd_t bt, gd_t bt, gd_t bt, iZc (show u < 2147483648 by omega), iZc (show t < 2147483648 by omega)]
  generalize gI σ 67 u + 1000 * w + 1 = x at ex ⊢
  have put : ∀ y : Int32, pC t ≤ y.toInt → y.toInt ≤ pC u + 1000 * w.toInt + 1 → (¬ gI σ 67 t = -1 → y.toInt ≤ (gI σ 67 t).toInt) → ((gI σ 67 t).toInt = pC t → y = gI σ 67 t) → ¬ y = -1 → Mon σ (sI σ 67 t y) ∧ eDone (sI σ 67 t y) u t w := by
    intro y y1 y2 y3 y4 y5
    refine ⟨⟨g_sI_c (by omega), fun k hk => ?_⟩, ?_⟩
    · by_cases c : k = t
      · subst c
        unfold oneC
        rw [g_sI_eq]
        exact ⟨fun q => ⟨y5, y3 q⟩, Or.inr ⟨y1, by omega⟩, y4⟩
      · unfold oneC
        rw [g_sI_ne (by omega)]
        exact ⟨fun q => ⟨q, Int.le_refl _⟩, hb k hk, fun _ => rfl⟩
    · unfold eDone
      rw [g_sI_eq]
      exact ⟨y5, y2⟩
  obtain ⟨pt1, pt2⟩ := pC_rg t
  have xn : ¬ x = -1 := by rw [eI, t_m1]; omega
  by_cases c1 : gI σ 67 t = -1
  · rw [if_pos c1]
    exact ⟨_, rfl, put x (by omega) (by omega) (fun q => absurd c1 q) (fun q => by rw [c1, t_m1] at q; omega) xn⟩
  · rw [if_neg c1]
    have o := hb t ht
    rcases o with o | ⟨o1, o2⟩
    · exact absurd o c1
    · by_cases c2 : gI σ 67 t ≤ x
      · rw [if_pos c2]
        rw [leI] at c2
        exact ⟨_, rfl, put _ o1 (by omega) (fun _ => Int.le_refl _) (fun _ => rfl) c1⟩
      · rw [if_neg c2]
        rw [leI] at c2
        exact ⟨_, rfl, put x (by omega) (by omega) (fun _ => by omega) (fun q => by omega) xn⟩
theorem m_wlk3 {u n : Nat} (hu : u < 1000) (hn : n < 1000) (σ : St) : f_X10_walksOf (iZ (u : Int)).toInt64 (iZ (n : Int)).toInt64 3 σ = some (w1 u n, σ) := by
  have e18 : 10 ^ 18 = 1000000000000000000 := by decide
  rw [iZ_l (by omega) (by omega), iZ_l (by omega) (by omega)]
  exact s_walks (R := 3) (by omega) σ u n (by omega) (by omega) (V0 u) (okV0 u) rfl (fun _ _ => rfl)
theorem p3 {k : Nat} (h : k < 3) : 10 ^ k ≤ 100 := by
  have : 10 ^ k ≤ 10 ^ 2 := Nat.pow_le_pow_right (by omega) (by omega)
  have e : 10 ^ 2 = 100 := by decide
  omega
theorem m_125 {v r : Nat} (hv : v < 1000) (hr : r < 3) (K39 : Int32 → St → Option St) (K117 : Int32 → Int32 → Int32 → St → Option St) (x1 : Int32) : ∀ m n c : Nat, ∀ σ : St, c + m = 10 → 1 ≤ c → m < n → (∀ k, k < 1000 → oneC σ k) → (gI σ 67 v).toInt = pC v → ∃ σ', f_X10_makeAll_125 K39 K117 n x1 (iZ (v : Int)) (iZ (r : Int)) (iZ (c : Int)) σ = K117 x1 (iZ (v : Int)) (iZ (r : Int) + 1) σ' ∧ Mon σ σ' ∧ ∀ d, c ≤ d → d < 10 → v + d * 10 ^ r < 1000 → eDone σ' v (v + d * 10 ^ r) (w1 v (d * 10 ^ r)) := by
  have e3 : 10 ^ 3 = 1000 := by decide
  have hp := p3 hr
  have hp0 : 0 < 10 ^ r := Nat.pow_pos (by omega)
  intro m
  induction m with
  | zero =>
    intro n c σ e hc hn hb hx
    cases n with
    | zero => omega
    | succ n =>
      rw [f_X10_makeAll_125, if_pos (by rw [lI, t_9, iZt (by omega)]; omega)]
      exact ⟨σ, rfl, Mon.rf hb, fun d h1 h2 => by omega⟩
  | succ m ih =>
    intro n c σ e hc hn hb hx
    cases n with
    | zero => omega
    | succ n =>
      have hcp : c * 10 ^ r ≤ 9 * 100 := Nat.mul_le_mul (by omega) hp
      rw [f_X10_makeAll_125, if_neg (by rw [lI, t_9, iZt (by omega)]; omega), bnd (s_ten σ r (by omega))]
      have em : ((iZ (c : Int)).toInt64 * jZ (10 ^ r)).toInt32 = iZ ((c * 10 ^ r : Nat) : Int) := by
        rw [iZ_l (by omega) (by omega), jpow, jZ_mul, jZ_i, Int.natCast_mul]
      show ∃ σ', f_X10_makeAll_143 K39 K117 (f_X10_makeAll_125 K39 K117 n) x1 (iZ (v : Int)) (iZ (r : Int)) (iZ (c : Int)) ((iZ (c : Int)).toInt64 * jZ (10 ^ r)).toInt32 σ = _ ∧ _
      rw [em]
      unfold f_X10_makeAll_143 f_X10_makeAll_171
      rw [iZa, iZs]
      have ed : ∀ d, c ≤ d → d < 10 → v + d * 10 ^ r < 1000 → d = c ∨ c + 1 ≤ d := fun d h1 h2 _ => by omega
      by_cases q : v + c * 10 ^ r < 1000
      · rw [if_neg (by rw [lI, t_999, iZt (by omega)]; omega), bnd (m_wlk3 hv (by omega) σ)]
        obtain ⟨w0, w1'⟩ := w1_ok (u := v) (d := c) (k := r) (by omega) hr (by omega)
        obtain ⟨σ1, e1, m1, d1⟩ := s_relax (w := w1 v (c * 10 ^ r)) hv q hb hx ⟨w0.1, by have := w0.2; omega⟩ w1'
        rw [bnd e1]
        obtain ⟨σ2, e2, m2, d2⟩ := ih n (c + 1) σ1 (by omega) (by omega) (by omega) m1.one (by rw [(m1.2 v hv).2.2 hx]; exact hx)
        refine ⟨σ2, e2, m1.tr m2, fun d h1 h2 h3 => ?_⟩
        rcases ed d h1 h2 h3 with h4 | h4
        · rw [h4]; exact d1.mon m2 q
        · exact d2 d h4 h2 h3
      · rw [if_pos (by rw [lI, t_999, iZt (by omega)]; omega)]
        obtain ⟨σ2, e2, m2, d2⟩ := ih n (c + 1) σ (by omega) (by omega) (by omega) hb hx
        refine ⟨σ2, e2, m2, fun d h1 h2 h3 => ?_⟩
        rcases ed d h1 h2 h3 with h4 | h4
        · rw [h4] at h3; exact absurd h3 q
        · exact d2 d h4 h2 h3
theorem m_wtwice_go {P : Nat} (hP : P < 1000) (σ : St) : ∀ k n Q : Nat, ∀ x3 : Int32, k ≤ 3 → k < n → Q + P % 10 ^ k < 1000 → f_X10_walksTwice_10 n (jZ (P : Int)) 3 x3 (jZ (Q : Int)) (iZ ((k : Int) - 1)) σ = some (x3 + w3s P k Q, σ) := by
  have e18 : 10 ^ 18 = 1000000000000000000 := by decide
  intro k
  induction k with
  | zero =>
    intro n Q x3 _ hn hs
    cases n with
    | zero => omega
    | succ n =>
      rw [f_X10_walksTwice_10, if_pos iZ_m1n]
      show _ = some (x3 + 0, σ)
      rw [Int32.add_zero]
  | succ k ih =>
    intro n Q x3 hk hn hs
    cases n with
    | zero => omega
    | succ n =>
      have hd : dgN P k < 10 := Nat.mod_lt _ (by omega)
      have hm := mod_succ P k
      rw [Nat.mul_comm] at hm
      have em : (iZ (dgN P k : Int)).toInt64 * jZ (10 ^ k) = jZ ((dgN P k * 10 ^ k : Nat) : Int) := by
        rw [iZ_l (by omega) (by omega), jpow, jZ_mul, Int.natCast_mul]
      rw [iZq, f_X10_walksTwice_10, if_neg (by rw [lI, iZt (by omega), t_0]; omega), bnd (s_digitOf10 σ P k (by omega) (by omega)), bnd (s_ten σ k (by omega))]
      show f_X10_walksTwice_30 (f_X10_walksTwice_10 n) (jZ (P : Int)) 3 x3 (jZ (Q : Int)) (iZ (k : Int)) ((iZ (dgN P k : Int)).toInt64 * jZ (10 ^ k)) σ = _
      rw [em]
      unfold f_X10_walksTwice_30
      have s := s_walks (R := 3) (by omega) σ Q (dgN P k * 10 ^ k) (by omega) (by omega) (V0 Q) (okV0 Q) rfl (fun _ _ => rfl)
      have s' : f_X10_walksOf (jZ (Q : Int)) (jZ ((dgN P k * 10 ^ k : Nat) : Int)) 3 σ = some (w1 Q (dgN P k * 10 ^ k), σ) := s
      rw [bnd s']
      unfold f_X10_walksTwice_41 f_X10_walksTwice_48
      show f_X10_walksTwice_10 n (jZ (P : Int)) 3 (x3 + w1 Q (dgN P k * 10 ^ k)) (jZ (Q : Int) + jZ ((dgN P k * 10 ^ k : Nat) : Int)) (iZ (k : Int) + (-1)) σ = _
      have ea : jZ (Q : Int) + jZ ((dgN P k * 10 ^ k : Nat) : Int) = jZ ((Q + dgN P k * 10 ^ k : Nat) : Int) := by rw [jZ_add, Int.natCast_add]
      rw [ea, iZm1, ih n (Q + dgN P k * 10 ^ k) _ (by omega) (by omega) (by omega), Int32.add_assoc]
      rfl
