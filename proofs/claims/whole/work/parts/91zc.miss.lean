/-! MISS, SAFEST -/
def mA (e : Nat → Int32) (v m : Nat) : Int := vA m v (Fo e) (nd v) (v % m) - prodF (fun k => Fo e (dgN v k) (dgN v k)) (nd v)
def mWr (e : Nat → Int32) (v : Nat) : Int := 100 ^ nd v - prodF (fun k => Fo e (dgN v k) (dgN v k)) (nd v)
def msV (N : Nat) (A : Int) : Int32 := (jZ (A * 100 ^ (9 - N)) / 1000000000000).toInt32
theorem mA_b {σ : St} (h : Rear σ) {v m : Nat} (hv : v < 10 ^ 9) (hm : 0 < m) : 0 ≤ mA (gI σ 16) v m ∧ mA (gI σ 16) v m ≤ 100 ^ nd v := by
  have e9 : 10 ^ 9 = 1000000000 := by decide
  have e18 : 10 ^ 18 = 1000000000000000000 := by decide
  have g := vA_ge (v := v) hm (okFs h) (nd v)
  have hlt : v < 10 ^ nd v := (nd_le (by omega)).mp (Nat.le_refl _)
  rw [Nat.mod_eq_of_lt hlt] at g
  have b := vA_b (v := v) hm (okFs h) (nd v) (v % m)
  have p := prod_rg h v v (nd v)
  unfold mA
  have p' : 0 ≤ prodF (fun k => Fo (gI σ 16) (dgN v k) (dgN v k)) (nd v) := p.1
  have g' : prodF (fun k => Fo (gI σ 16) (dgN v k) (dgN v k)) (nd v) ≤ vA m v (Fo (gI σ 16)) (nd v) (v % m) := g
  have b' : vA m v (Fo (gI σ 16)) (nd v) (v % m) ≤ 100 ^ nd v := b.2
  omega
theorem mWr_b {σ : St} (h : Rear σ) (v : Nat) : 0 ≤ mWr (gI σ 16) v ∧ mWr (gI σ 16) v ≤ 100 ^ nd v := by
  have p := prod_rg h v v (nd v)
  unfold mWr
  have p' : 0 ≤ prodF (fun k => Fo (gI σ 16) (dgN v k) (dgN v k)) (nd v) ∧ prodF (fun k => Fo (gI σ 16) (dgN v k) (dgN v k)) (nd v) ≤ 100 ^ nd v := p
  omega
theorem msV_nn {N : Nat} (hN : N ≤ 9) {A : Int} (h0 : 0 ≤ A) (h1 : A ≤ 100 ^ N) : 0 ≤ (msV N A).toInt := by
  obtain ⟨p1, p2⟩ := pow_le18 hN
  have b0 : 0 ≤ A * 100 ^ (9 - N) := Int.mul_nonneg h0 (by omega)
  have b1 : A * 100 ^ (9 - N) ≤ 1000000000000000000 := by
    rw [← p2]; exact Int.mul_le_mul_of_nonneg_right h1 (by omega)
  unfold msV
  have a1 : (1000000000000 : Int64) = jZ 1000000000000 := rfl
  generalize A * 100 ^ (9 - N) = q at b0 b1
  rw [a1, jZ_div b0 (by omega) (by omega) (by omega), jZ_i, iZ_toInt (by omega) (by omega)]
  omega
theorem c_missed {X : En} {m v : Nat} {σ : St} (hm : m ≤ 99) (hm2 : 2 ≤ m) (hv : v < 10 ^ 9) (h : Rear σ) : ∃ σ', g_X1_missed (iZ (v : Int)) (iZ (m : Int)) X σ = some (msV (nd v) (mA (gI σ 16) v m), X, σ') ∧ Rear σ' ∧ frm [17, 18] [(15, 1), (15, 2)] σ σ' := by
  have e9 : 10 ^ 9 = 1000000000 := by decide
  have e13 : 10 ^ 13 = 10000000000000 := by decide
  have e18 : 10 ^ 18 = 1000000000000000000 := by decide
  have hn9 : nd v ≤ 9 := (nd_le (by omega)).mpr hv
  have ev : (iZ (v : Int)).toInt64 = jZ (v : Int) := iZ_l (by omega) (by omega)
  obtain ⟨σ', e1, r1, f1⟩ := c_alike (X := X) hm hm2 hv h
  refine ⟨σ', ?_, r1, f1⟩
  have h16 : gI σ' 16 = gI σ 16 := funext fun j => (f1 16 j (by decide) (by simp)).1
  unfold g_X1_missed g_X1_missed_b
  rw [bnd e1, ev, bnd (s_likely σ' v v hv (by omega))]
  dsimp only
  rw [if_pos (Nat.le_refl _), gd_t (show nzJ 1000000000000 = true from rfl), bnd rfl, wrp]
  have ef : prodF (fac σ' v v) (nd v) = prodF (fun k => Fo (gI σ 16) (dgN v k) (dgN v k)) (nd v) := by
    rw [← h16]
  have ew : wA m v (Fs σ) (nd v) 9 (v % m) = vA m v (Fo (gI σ 16)) (nd v) (v % m) * 100 ^ (9 - nd v) := by
    unfold wA
    rw [Nat.min_eq_right hn9]
  rw [ef, ew, jZ_sub, ← Int.sub_mul]
  rfl
theorem c_wrong {v : Nat} {σ : St} (hv : v < 10 ^ 9) : f_X1_wrong (iZ (v : Int)) σ = some (msV (nd v) (mWr (gI σ 16) v), σ) := by
  have e9 : 10 ^ 9 = 1000000000 := by decide
  have e13 : 10 ^ 13 = 10000000000000 := by decide
  have e18 : 10 ^ 18 = 1000000000000000000 := by decide
  have hn9 : nd v ≤ 9 := (nd_le (by omega)).mpr hv
  have ev : (iZ (v : Int)).toInt64 = jZ (v : Int) := iZ_l (by omega) (by omega)
  unfold f_X1_wrong
  rw [ev, bnd (s_likely σ v v hv (by omega))]
  dsimp only
  obtain ⟨p1, p2⟩ := pow_le18 hn9
  have a1 : (1000000000000000000 : Int64) = jZ (100 ^ nd v * 100 ^ (9 - nd v)) := by rw [p2]; rfl
  rw [if_pos (Nat.le_refl _), a1, jZ_sub, ← Int.sub_mul]
  rfl
theorem m_68 {N : Nat} (hN : N ≤ 9) {A : Int} (h0 : 0 ≤ A) (h1 : A ≤ 100 ^ N) (τ : St) : f_X10_miss_68 (jZ (10 ^ (2 * N))) (jZ A) τ = some (msV N A, τ) := by
  obtain ⟨z1, z2⟩ := as_nz N hN
  unfold f_X10_miss_68 f_X10_miss_95 msV
  rw [as_eq N hN A h0 h1, gd_t z1]
  by_cases c : lg_cmp (jZ (10 ^ (2 * N))) 1000000 < 0
  · rw [if_pos c, if_pos c]
  · rw [if_neg c, if_neg c, gd_t (z2 c)]
theorem m_miss33 {v m : Nat} {τ : St} (hm : m ≤ 99) (hm2 : 2 ≤ m) (hv : v < 10 ^ 9) (h : Rear τ) : ∃ τ', f_X10_miss_33 (iZ (v : Int)) (iZ (m : Int)) τ = some (msV (nd v) (mA (gI τ 16) v m), τ') ∧ frm W52 [] τ τ' := by
  have e9 : 10 ^ 9 = 1000000000 := by decide
  have e18 : 10 ^ 18 = 1000000000000000000 := by decide
  have hn9 : nd v ≤ 9 := (nd_le (by omega)).mpr hv
  have ev : (iZ (v : Int)).toInt64 = jZ (v : Int) := iZ_l (by omega) (by omega)
  have em : (2 : Int32) * iZ (nd v : Int) = iZ ((2 * nd v : Nat) : Int) := iZm 2 (nd v)
  obtain ⟨τ', e1, f1⟩ := m_alike hm hm2 hv h
  refine ⟨τ', ?_, f1⟩
  have h16 : gI τ' 16 = gI τ 16 := f1.rI (by decide)
  have r1 := h.m52 f1
  unfold f_X10_miss_33 f_X10_miss_60
  rw [ev, bnd (s_many τ v (by omega)), em, bnd (s_ten τ (2 * nd v) (by omega)), if_neg (by rw [eI, iZt (by omega), t_m1]; omega), bnd e1, bnd (m_rightly hv r1), jZ_sub]
  have hb := mA_b h hv (show 0 < m by omega)
  have ef : prodF (fac τ' v v) (nd v) = prodF (fun k => Fo (gI τ 16) (dgN v k) (dgN v k)) (nd v) := by
    rw [← h16]
  have ea : vA m v (Fs τ) (nd v) (v % m) - prodF (fac τ' v v) (nd v) = mA (gI τ 16) v m := by rw [ef]; rfl
  rw [ea]
  exact m_68 hn9 hb.1 hb.2 τ'
theorem m_missM {v : Nat} {τ : St} (hv : v < 10 ^ 9) (h : Rear τ) : f_X10_miss_33 (iZ (v : Int)) (-1) τ = some (msV (nd v) (mWr (gI τ 16) v), τ) := by
  have e9 : 10 ^ 9 = 1000000000 := by decide
  have e18 : 10 ^ 18 = 1000000000000000000 := by decide
  have hn9 : nd v ≤ 9 := (nd_le (by omega)).mpr hv
  have ev : (iZ (v : Int)).toInt64 = jZ (v : Int) := iZ_l (by omega) (by omega)
  have em : (2 : Int32) * iZ (nd v : Int) = iZ ((2 * nd v : Nat) : Int) := iZm 2 (nd v)
  unfold f_X10_miss_33 f_X10_miss_60
  rw [ev, bnd (s_many τ v (by omega)), em, bnd (s_ten τ (2 * nd v) (by omega)), if_pos rfl, bnd (m_rightly hv h), jZ_sub]
  have hb := mWr_b h v
  have ea : (10 : Int) ^ (2 * nd v) - prodF (fac τ v v) (nd v) = mWr (gI τ 16) v := by rw [← pow100]; rfl
  dsimp only
  rw [ea]
  exact m_68 hn9 hb.1 hb.2 τ
theorem m_miss {X : En} {σ : St} (x1 x2 : Int32) (h : Rear σ) : ∃ a σ1 σ2, g_X9_miss x1 x2 X σ = some (a, X, σ1) ∧ f_X10_miss x1 x2 σ1 = some (a, σ2) ∧ Rear σ2 ∧ frm [17, 18, 52, 53] [(15, 1), (15, 2)] σ σ2 := by
  unfold g_X9_miss g_X9_miss_b f_X10_miss
  simp only [s_in, t64, l_0, l_999999999]
  rw [bnd (s_isNumber x1 σ)]
  by_cases q1 : 0 ≤ x1.toInt ∧ x1.toInt ≤ 999999999
  · have e9 : 10 ^ 9 = 1000000000 := by decide
    have ex1 := iZof q1.1
    have lv : x1.toInt.toNat < 10 ^ 9 := by omega
    rw [if_neg (by rw [bZ_0]; exact not_not_intro q1)]
    by_cases c : x2 = -1
    · rw [if_pos c]
      generalize x1.toInt.toNat = v at ex1 lv
      refine ⟨msV (nd v) (mWr (gI σ 16) v), σ, σ, ?_, ?_, h, frm.rf σ⟩
      · unfold g_X9_miss_21 g_X9_miss_46
        rw [if_pos c, ex1, bnd (c_wrong lv), bnd rfl, wrp]
      · rw [bnd rfl, if_neg (by rw [bZ_0]; exact not_not_intro q1), if_pos c, ex1, c]
        exact m_missM lv h
    · rw [if_neg c, bnd (s_isBell x2 σ)]
      by_cases q2 : 2 ≤ x2.toInt ∧ x2.toInt ≤ 99
      · have ex2 := iZof (x := x2) (by omega)
        have lm : 2 ≤ x2.toInt.toNat ∧ x2.toInt.toNat ≤ 99 := by omega
        rw [if_neg (by rw [bZ_0]; exact not_not_intro q2)]
        generalize x1.toInt.toNat = v at ex1 lv
        generalize x2.toInt.toNat = m at ex2 lm
        obtain ⟨σ1, e1, r1, f1⟩ := c_missed (X := X) lm.2 lm.1 lv h
        obtain ⟨σ2, e2, f2⟩ := m_miss33 lm.2 lm.1 lv r1
        have h16 : gI σ1 16 = gI σ 16 := funext fun j => (f1 16 j (by decide) (by simp)).1
        rw [h16] at e2
        refine ⟨msV (nd v) (mA (gI σ 16) v m), σ1, σ2, ?_, ?_, r1.m52 f2, (f1.mo2 (by decide) (by decide)).tr (f2.mo2 (by decide) (by simp))⟩
        · unfold g_X9_miss_21 g_X9_miss_46
          rw [if_neg c, ex1, ex2, bnd e1, bnd rfl, wrp]
        · rw [bnd rfl, if_neg (by rw [bZ_0]; exact not_not_intro q1), if_neg c, bnd rfl, if_neg (by rw [bZ_0]; exact not_not_intro (by rw [l_2, l_99]; exact q2)), ex1, ex2]
          exact e2
      · rw [if_pos (by rw [bZ_0]; exact q2)]
        refine ⟨-1, σ, σ, ?_, ?_, h, frm.rf σ⟩
        · unfold g_X9_miss_19
          rw [bnd rfl, wrp]
        · rw [bnd rfl, if_neg (by rw [bZ_0]; exact not_not_intro q1), if_neg c, bnd rfl, if_pos (by rw [bZ_0, l_2, l_99]; exact q2)]
          rfl
  · rw [if_pos (by rw [bZ_0]; exact q1)]
    refine ⟨-1, σ, σ, ?_, ?_, h, frm.rf σ⟩
    · unfold g_X9_miss_19
      rw [bnd rfl, wrp]
    · rw [bnd rfl, if_pos (by rw [bZ_0]; exact q1)]
      rfl
/-- the safest bell -/
def sfV (N : Nat) (G : Nat → Int) : Nat → Nat → Nat → Nat
  | 0, _, b => b
  | M + 1, k, b => sfV N G M (k + 1) (if (msV N (G k)) < (msV N (G b)) then k else b)
theorem sf_zero {N : Nat} {G : Nat → Int} {b : Nat} (hG : ∀ k, 0 ≤ (msV N (G k)).toInt) (hb : (msV N (G b)).toInt ≤ 0) : ∀ M k : Nat, sfV N G M k b = b
  | 0, _ => rfl
  | M + 1, k => by
    have := hG k
    rw [sfV, if_neg (by rw [lI]; omega)]
    exact sf_zero hG hb M (k + 1)
theorem c_safest {X : En} {v p : Nat} (hp : p ≤ 99) (hv : v < 10 ^ 9) (e16 : Nat → Int32) (hG : ∀ k, 2 ≤ k → k ≤ 99 → 0 ≤ (msV (nd v) (mA e16 v k)).toInt) : ∀ M n k b : Nat, ∀ σ : St, k + M = p + 1 → M < n → 2 ≤ k → 2 ≤ b → b ≤ 99 → Rear σ → gI σ 16 = e16 → ∃ σ', g_X9_safest_32 n (iZ (v : Int)) (iZ (p : Int)) (iZ (b : Int)) (msV (nd v) (mA e16 v b)) (iZ (k : Int)) X σ = some (iZ (sfV (nd v) (fun k => mA e16 v (if k < 2 then 2 else if 99 < k then 2 else k)) M k b : Int), X, σ') ∧ Rear σ' ∧ frm [17, 18] [(15, 1), (15, 2)] σ σ' := by
  intro M
  induction M with
  | zero =>
    intro n k b σ e hn hk hb hb2 hR h16
    cases n with
    | zero => omega
    | succ n =>
      refine ⟨σ, ?_, hR, frm.rf σ⟩
      rw [g_X9_safest_32, if_pos (by rw [lI, iZt (by omega), iZt (by omega)]; omega)]
      rfl
  | succ M ih =>
    intro n k b σ e hn hk hb hb2 hR h16
    cases n with
    | zero => omega
    | succ n =>
      have eb : mA e16 v (if b < 2 then 2 else if 99 < b then 2 else b) = mA e16 v b := by rw [if_neg (by omega), if_neg (by omega)]
      have ek : mA e16 v (if k < 2 then 2 else if 99 < k then 2 else k) = mA e16 v k := by rw [if_neg (by omega), if_neg (by omega)]
      rw [g_X9_safest_32, if_neg (by rw [lI, iZt (by omega), iZt (by omega)]; omega)]
      by_cases c : msV (nd v) (mA e16 v b) ≤ 0
      · refine ⟨σ, ?_, hR, frm.rf σ⟩
        rw [if_pos c, sf_zero (fun j => ?_) (by rw [eb]; rw [leI, t_0] at c; exact c)]
        · rfl
        · by_cases q1 : j < 2
          · rw [if_pos q1]; exact hG 2 (by omega) (by omega)
          · rw [if_neg q1]
            by_cases q2 : 99 < j
            · rw [if_pos q2]; exact hG 2 (by omega) (by omega)
            · rw [if_neg q2]; exact hG j (by omega) (by omega)
      · obtain ⟨σ1, e1, r1, f1⟩ := c_missed (X := X) (m := k) (by omega) hk hv hR
        have h16' : gI σ1 16 = e16 := by rw [← h16]; exact funext fun j => (f1 16 j (by decide) (by simp)).1
        rw [h16] at e1
        rw [if_neg c, bnd e1]
        unfold g_X9_safest_69
        rw [iZs, sfV, eb, ek]
        by_cases q : msV (nd v) (mA e16 v b) ≤ msV (nd v) (mA e16 v k)
        · rw [if_pos q, if_neg (by rw [lI]; rw [leI] at q; omega)]
          obtain ⟨σ', i1, i2, i3⟩ := ih n (k + 1) b σ1 (by omega) (by omega) (by omega) hb hb2 r1 h16'
          exact ⟨σ', i1, i2, f1.tr i3⟩
        · rw [if_neg q, if_pos (by rw [lI]; rw [leI] at q; omega)]
          obtain ⟨σ', i1, i2, i3⟩ := ih n (k + 1) k σ1 (by omega) (by omega) (by omega) hk (by omega) r1 h16'
          exact ⟨σ', i1, i2, f1.tr i3⟩
theorem m_missT {v m : Nat} {τ : St} (hm : m ≤ 99) (hm2 : 2 ≤ m) (hv : v < 10 ^ 9) (h : Rear τ) : ∃ τ', f_X10_miss (iZ (v : Int)) (iZ (m : Int)) τ = some (msV (nd v) (mA (gI τ 16) v m), τ') ∧ frm W52 [] τ τ' := by
  have e9 : 10 ^ 9 = 1000000000 := by decide
  obtain ⟨τ', e1, f1⟩ := m_miss33 hm hm2 hv h
  refine ⟨τ', ?_, f1⟩
  unfold f_X10_miss
  simp only [s_in, t64, l_0, l_999999999, l_2, l_99]
  rw [bnd rfl, if_neg (by rw [bZ_0, iZt (by omega)]; exact not_not_intro (by omega)), if_neg (by rw [eI, iZt (by omega), t_m1]; omega), bnd rfl, if_neg (by rw [bZ_0, iZt (by omega)]; exact not_not_intro (by omega))]
  exact e1
theorem m_safe33 {v p : Nat} (hp : p ≤ 99) (hv : v < 10 ^ 9) (e16 : Nat → Int32) : ∀ M n k b : Nat, ∀ τ : St, k + M = p + 1 → M < n → 2 ≤ k → 2 ≤ b → b ≤ 99 → Rear τ → gI τ 16 = e16 → ∃ τ', f_X10_safest_33 n (iZ (v : Int)) (iZ (p : Int)) (iZ (b : Int)) (iZ (k : Int)) τ = some (iZ (sfV (nd v) (fun k => mA e16 v (if k < 2 then 2 else if 99 < k then 2 else k)) M k b : Int), τ') ∧ frm W52 [] τ τ' := by
  intro M
  induction M with
  | zero =>
    intro n k b τ e hn hk hb hb2 hR h16
    cases n with
    | zero => omega
    | succ n =>
      refine ⟨τ, ?_, frm.rf τ⟩
      rw [f_X10_safest_33, if_pos (by rw [lI, iZt (by omega), iZt (by omega)]; omega)]
      rfl
  | succ M ih =>
    intro n k b τ e hn hk hb hb2 hR h16
    cases n with
    | zero => omega
    | succ n =>
      have eb : mA e16 v (if b < 2 then 2 else if 99 < b then 2 else b) = mA e16 v b := by rw [if_neg (by omega), if_neg (by omega)]
      have ek : mA e16 v (if k < 2 then 2 else if 99 < k then 2 else k) = mA e16 v k := by rw [if_neg (by omega), if_neg (by omega)]
      obtain ⟨τ1, e1, f1⟩ := m_missT (m := k) (by omega) hk hv hR
      have h1 : gI τ1 16 = e16 := by rw [f1.rI (by decide)]; exact h16
      obtain ⟨τ2, e2, f2⟩ := m_missT (m := b) hb2 hb hv (hR.m52 f1)
      have h2 : gI τ2 16 = e16 := by rw [f2.rI (by decide)]; exact h1
      rw [h16] at e1
      rw [h1] at e2
      rw [f_X10_safest_33, if_neg (by rw [lI, iZt (by omega), iZt (by omega)]; omega), bnd e1, bnd e2]
      unfold f_X10_safest_61
      rw [iZs, sfV, eb, ek]
      by_cases q : msV (nd v) (mA e16 v b) ≤ msV (nd v) (mA e16 v k)
      · rw [if_pos q, if_neg (by rw [lI]; rw [leI] at q; omega)]
        obtain ⟨τ', i1, i2⟩ := ih n (k + 1) b τ2 (by omega) (by omega) (by omega) hb hb2 ((hR.m52 f1).m52 f2) h2
        exact ⟨τ', i1, (f1.tr f2).tr i2⟩
      · rw [if_neg q, if_pos (by rw [lI]; rw [leI] at q; omega)]
        obtain ⟨τ', i1, i2⟩ := ih n (k + 1) k τ2 (by omega) (by omega) (by omega) hk (by omega) ((hR.m52 f1).m52 f2) h2
        exact ⟨τ', i1, (f1.tr f2).tr i2⟩
theorem m_safest {X : En} {σ : St} (x1 x2 : Int32) (h : Rear σ) : ∃ a σ1 σ2, g_X9_safest x1 x2 X σ = some (a, X, σ1) ∧ f_X10_safest x1 x2 σ1 = some (a, σ2) ∧ Rear σ2 ∧ frm [17, 18, 52, 53] [(15, 1), (15, 2)] σ σ2 := by
  unfold g_X9_safest g_X9_safest_b f_X10_safest
  simp only [s_in, t64, l_0, l_999999999, l_2, l_99]
  rw [bnd (s_isNumber x1 σ)]
  by_cases q1 : 0 ≤ x1.toInt ∧ x1.toInt ≤ 999999999
  · have e9 : 10 ^ 9 = 1000000000 := by decide
    have e18 : 10 ^ 18 = 1000000000000000000 := by decide
    have ex1 := iZof q1.1
    have lv : x1.toInt.toNat < 10 ^ 9 := by omega
    rw [if_neg (by rw [bZ_0]; exact not_not_intro q1), bnd (s_isBell x2 σ)]
    by_cases q2 : 2 ≤ x2.toInt ∧ x2.toInt ≤ 99
    · have ex2 := iZof (x := x2) (by omega)
      have lm : 2 ≤ x2.toInt.toNat ∧ x2.toInt.toNat ≤ 99 := by omega
      rw [if_neg (by rw [bZ_0]; exact not_not_intro q2)]
      generalize x1.toInt.toNat = v at ex1 lv
      generalize x2.toInt.toNat = p at ex2 lm
      have hn9 : nd v ≤ 9 := (nd_le (by omega)).mpr lv
      obtain ⟨σ0, e0, r0, f0⟩ := c_missed (X := X) (m := 2) (by omega) (by omega) lv h
      have h16 : gI σ0 16 = gI σ 16 := funext fun j => (f0 16 j (by decide) (by simp)).1
      obtain ⟨σ1, e1, r1, f1⟩ := c_safest (X := X) lm.2 lv (gI σ 16) (fun k k1 k2 => by
        have := mA_b h lv (show 0 < k by omega)
        exact msV_nn hn9 this.1 this.2) (p - 2) FU 3 2 σ0 (by omega) (by unfold FU; omega) (by omega) (by omega) (by omega) r0 h16
      have h16' : gI σ1 16 = gI σ 16 := by
        rw [← h16]; exact funext fun j => (f1 16 j (by decide) (by simp)).1
      obtain ⟨σ2, e2, f2⟩ := m_safe33 lm.2 lv (gI σ 16) (p - 2) FU 3 2 σ1 (by omega) (by unfold FU; omega) (by omega) (by omega) (by omega) r1 h16'
      refine ⟨iZ (sfV (nd v) (fun k => mA (gI σ 16) v (if k < 2 then 2 else if 99 < k then 2 else k)) (p - 2) 3 2 : Int), σ1, σ2, ?_, ?_, r1.m52 f2, ((f0.tr f1).mo2 (by decide) (by decide)).tr (f2.mo2 (by decide) (by simp))⟩
      · have e0' : g_X1_missed (iZ (v : Int)) 2 X σ = some (msV (nd v) (mA (gI σ 16) v 2), X, σ0) := e0
        rw [ex1, ex2, bnd e0']
        dsimp only
        have e1' : g_X9_safest_32 FU (iZ (v : Int)) (iZ (p : Int)) 2 (msV (nd v) (mA (gI σ 16) v 2)) 3 X σ0 = _ := e1
        rw [e1', bnd rfl, wrp]
      · rw [bnd rfl, if_neg (by rw [bZ_0]; exact not_not_intro q1), bnd rfl, if_neg (by rw [bZ_0]; exact not_not_intro q2), ex1, ex2]
        exact e2
    · rw [if_pos (by rw [bZ_0]; exact q2)]
      refine ⟨-1, σ, σ, ?_, ?_, h, frm.rf σ⟩
      · unfold g_X9_safest_14
        rw [bnd rfl, wrp]
      · rw [bnd rfl, if_neg (by rw [bZ_0]; exact not_not_intro q1), bnd rfl, if_pos (by rw [bZ_0]; exact q2)]
        rfl
  · rw [if_pos (by rw [bZ_0]; exact q1)]
    refine ⟨-1, σ, σ, ?_, ?_, h, frm.rf σ⟩
    · unfold g_X9_safest_14
      rw [bnd rfl, wrp]
    · rw [bnd rfl, if_pos (by rw [bZ_0]; exact q1)]
      rfl
