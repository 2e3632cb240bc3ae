/-! MAKE -/
def uq (f : Nat → Int32) : Nat → Nat
  | 0 => 0
  | n + 1 => uq f n + (if f n = 0 then 1 else 0)
theorem uq_cg {f g : Nat → Int32} : ∀ n : Nat, (∀ j, j < n → f j = g j) → uq f n = uq g n
  | 0, _ => rfl
  | n + 1, h => by
    rw [uq, uq, uq_cg n (fun j hj => h j (by omega)), h n (by omega)]
theorem uq_up {f g : Nat → Int32} {b : Nat} (hb : g b = 1) (hf : f b = 0) (hk : ∀ k, k ≠ b → g k = f k) : ∀ n : Nat, b < n → uq g n + 1 = uq f n
  | 0, h => absurd h (Nat.not_lt_zero _)
  | n + 1, h => by
    rw [uq, uq]
    by_cases e : b = n
    · subst e
      rw [uq_cg b (fun j hj => hk j (by omega)), hb, hf, if_pos rfl, if_neg (by rw [eI, t_1, t_0]; omega)]
    · have := uq_up hb hf hk n (by omega)
      rw [hk n (fun c => e c.symm)]
      omega
theorem uq_ex {f : Nat → Int32} : ∀ n : Nat, 0 < uq f n → ∃ k, k < n ∧ f k = 0
  | 0, h => by
    have : uq f 0 = 0 := rfl
    omega
  | n + 1, h => by
    by_cases c : f n = 0
    · exact ⟨n, by omega, c⟩
    · rw [uq, if_neg c] at h
      obtain ⟨k, h1, h2⟩ := uq_ex n (by omega)
      exact ⟨k, by omega, h2⟩
theorem uq_all {f : Nat → Int32} : ∀ n : Nat, uq f n = 0 → ∀ k, k < n → ¬ f k = 0
  | 0, _, k, hk => by omega
  | n + 1, h, k, hk => by
    rw [uq] at h
    by_cases c : k = n
    · subst c
      intro q
      rw [if_pos q] at h; omega
    · exact uq_all n (by omega) k (by omega)
theorem m_turnK {σ : St} (h : Inv σ) (hu : 0 < uq (gI σ 68) 1000) (K39 : Int32 → St → Option St) (x1 : Int32) : ∃ σ', f_X10_makeAll_50 K39 FU x1 (-1) 0 σ = K39 (x1 + 1) σ' ∧ Inv σ' ∧ uq (gI σ' 68) 1000 + 1 = uq (gI σ 68) 1000 := by
  obtain ⟨k0, k1, k2⟩ := uq_ex 1000 hu
  obtain ⟨y, s1, e1⟩ := m_50 K39 x1 σ 1000 FU 0 (-1) (by omega) (by unfold FU; omega) (Or.inl ⟨rfl, fun k hk => by omega⟩)
  have e1' : f_X10_makeAll_50 K39 FU x1 (-1) 0 σ = gd (inb y 1000) (f_X10_makeAll_117 K39 FU x1 y 0 (sI σ 68 y.toNatClampNeg 1)) := e1
  rw [e1']
  obtain ⟨j0, a1, a2, a3, a4⟩ := h.near k0 k1 k2
  rcases s1 with ⟨_, s2⟩ | ⟨v, v1, v2, v3, v4⟩
  · exact absurd a2 (s2 j0 a1)
  · have hI := h
    obtain ⟨i1, i2, i3, i4⟩ := h
    obtain ⟨j, b1, b2, b3, b4⟩ := hI.near v v1 v3.1
    have hv := v4 j b1 b2
    have hx : (gI σ 67 v).toInt = pC v := by
      rcases i1 v v1 with o | ⟨o1, o2⟩
      · exact absurd o v3.2
      · omega
    have by' : inb y 1000 = true := by rw [v2]; exact iZb v1 (by omega)
    have cy : y.toNatClampNeg = v := by rw [v2]; exact iZc (by omega)
    rw [gd_t by', cy, v2]
    have c67 : gI (sI σ 68 v 1) 67 = gI σ 67 := g_sI_c (by omega)
    have o0 : ∀ k, k < 1000 → oneC (sI σ 68 v 1) k := fun k hk => by unfold oneC; rw [c67]; exact i1 k hk
    obtain ⟨σ', e2, m2, d2, d3⟩ := m_117 v1 K39 x1 3 FU 0 (sI σ 68 v 1) (by omega) (by unfold FU; omega) o0 (by rw [c67]; exact hx)
    refine ⟨σ', e2, ⟨m2.one, ?_, ?_, ?_⟩, ?_⟩
    · rw [(m2.2 0 (by omega)).2.2 (by rw [c67, i2, pC_0]; rfl), c67]; exact i2
    · intro k hk hq
      rw [m2.1] at hq
      by_cases c : k = v
      · subst c
        rw [(m2.2 k hk).2.2 (by rw [c67]; exact hx), c67]; exact hx
      · rw [g_sI_ne (by omega)] at hq
        have := i3 k hk hq
        rw [(m2.2 k hk).2.2 (by rw [c67]; exact this), c67]; exact this
    · intro u t w hu' hq ed
      rw [m2.1] at hq
      by_cases c : u = v
      · subst c
        obtain ⟨t1, t2⟩ := ed
        rcases t2 with ⟨d, k, h1, h2, h3, h4, h5⟩ | ⟨h4, h5⟩
        · rw [h4, h5]
          exact d2 d k h1 h2 (by omega) h3 (by omega)
        · rw [h4, h5]
          exact d3 (by omega)
      · rw [g_sI_ne (by omega)] at hq
        have q1 := i4 u t w hu' hq ed
        have q2 : eDone (sI σ 68 v 1) u t w := by unfold eDone; rw [c67]; exact q1
        exact q2.mon m2 ed.1
    · rw [m2.1]
      exact uq_up (f := gI σ 68) (g := gI (sI σ 68 v 1) 68) (b := v) g_sI_eq v3.1 (fun k hk => g_sI_ne (by omega)) 1000 v1
theorem m_39 : ∀ m n t : Nat, ∀ σ : St, t + m = 1000 → m < n → Inv σ → uq (gI σ 68) 1000 = m → ∃ σ', f_X10_makeAll_39 n (iZ (t : Int)) σ = some σ' ∧ Inv σ' ∧ uq (gI σ' 68) 1000 = 0 := by
  intro m
  induction m with
  | zero =>
    intro n t σ e hn h hu
    cases n with
    | zero => omega
    | succ n =>
      rw [f_X10_makeAll_39, if_pos (by rw [leI, t_1000, iZt (by omega)]; omega)]
      exact ⟨σ, rfl, h, hu⟩
  | succ m ih =>
    intro n t σ e hn h hu
    cases n with
    | zero => omega
    | succ n =>
      rw [f_X10_makeAll_39, if_neg (by rw [leI, t_1000, iZt (by omega)]; omega)]
      obtain ⟨σ1, e1, h1, h2⟩ := m_turnK h (by omega) (f_X10_makeAll_39 n) (iZ (t : Int))
      obtain ⟨σ2, e2, h3, h4⟩ := ih n (t + 1) σ1 (by omega) (by omega) h1 (by omega)
      refine ⟨σ2, ?_, h3, h4⟩
      rw [e1, iZs]; exact e2
theorem m_init : ∀ m n k : Nat, ∀ σ : St, k + m = 1000 → m < n → (∀ j, j < k → gI σ 67 j = (if j = 0 then 0 else -1) ∧ gI σ 68 j = 0) → ∃ σ', f_X10_makeAll_2 n (iZ (k : Int)) σ = f_X10_makeAll_39 FU 0 σ' ∧ ∀ j, j < 1000 → gI σ' 67 j = (if j = 0 then 0 else -1) ∧ gI σ' 68 j = 0 := by
  intro m
  induction m with
  | zero =>
    intro n k σ e hn h
    cases n with
    | zero => omega
    | succ n =>
      have hk : k = 1000 := by omega
      subst hk
      rw [f_X10_makeAll_2, if_pos (by rw [leI, t_1000, iZt (by omega)]; omega)]
      exact ⟨σ, rfl, h⟩
  | succ m ih =>
    intro n k σ e hn h
    cases n with
    | zero => omega
    | succ n =>
      have bk := iZb (show k < 1000 by omega) (show 1000 < 2147483648 by omega)
      rw [f_X10_makeAll_2, if_neg (by rw [leI, t_1000, iZt (by omega)]; omega)]
      unfold f_X10_makeAll_23
      rw [gd_t bk, gd_t bk, gd_t bk, gd_t bk, iZc (show k < 2147483648 by omega), iZs]
      have step : ∀ y : Int32, y = (if k = 0 then 0 else -1) → ∃ σ', f_X10_makeAll_2 n (iZ ((k + 1 : Nat) : Int)) (sI (sI σ 67 k y) 68 k 0) = f_X10_makeAll_39 FU 0 σ' ∧ ∀ j, j < 1000 → gI σ' 67 j = (if j = 0 then 0 else -1) ∧ gI σ' 68 j = 0 := by
        intro y hy
        refine ih n (k + 1) _ (by omega) (by omega) (fun j hj => ?_)
        by_cases c : j = k
        · subst c
          rw [g_sI_ne (by omega), g_sI_eq, g_sI_eq]
          exact ⟨hy, rfl⟩
        · rw [g_sI_ne (by omega), g_sI_ne (by omega), g_sI_ne (by omega), g_sI_ne (by omega)]
          exact h j (by omega)
      by_cases c : k = 0
      · subst c
        rw [if_pos (show iZ ((0 : Nat) : Int) = 0 from rfl)]
        exact step 0 rfl
      · rw [if_neg (by rw [eI, t_0, iZt (by omega)]; omega)]
        exact step (-1) (by rw [if_neg c])
theorem uq_zero {f : Nat → Int32} : ∀ n : Nat, (∀ k, k < n → f k = 0) → uq f n = n
  | 0, _ => rfl
  | n + 1, h => by
    rw [uq, uq_zero n (fun k hk => h k (by omega)), if_pos (h n (by omega))]
theorem m_makeAll (σ : St) : ∃ σ', f_X10_makeAll σ = some σ' ∧ ∀ k, k < 1000 → (gI σ' 67 k).toInt = pC k := by
  obtain ⟨σ1, e1, h1⟩ := m_init 1000 FU 0 σ (by omega) (by unfold FU; omega) (fun j hj => by omega)
  have hI : Inv σ1 := by
    refine ⟨fun k hk => ?_, (h1 0 (by omega)).1, fun k hk hq => absurd (h1 k hk).2 hq, fun u t w hu hq _ => absurd (h1 u hu).2 hq⟩
    unfold oneC
    rw [(h1 k hk).1]
    by_cases c : k = 0
    · right
      rw [if_pos c, c, pC_0, t_0]; omega
    · left
      rw [if_neg c]
  obtain ⟨σ2, e2, h2, h3⟩ := m_39 1000 FU 0 σ1 (by omega) (by unfold FU; omega) hI (uq_zero 1000 (fun k hk => (h1 k hk).2))
  refine ⟨σ2, ?_, fun k hk => h2.2.2.1 k hk (uq_all 1000 h3 k hk)⟩
  unfold f_X10_makeAll
  have e1' : f_X10_makeAll_2 FU 0 σ = f_X10_makeAll_39 FU 0 σ1 := e1
  rw [e1']
  exact e2
theorem c_make {v : Nat} (hv : v < 1000) (z : Int32) (σ : St) : f_X9_make_27 FU (iZ (v : Int)) z 0 0 σ = some (if z = 0 then iZ ((dgN v 0 + dgN v 1 + dgN v 2 : Nat) : Int) else iZ ((min (dgN v 0) 1 + min (dgN v 1) 1 + min (dgN v 2) 1 : Nat) : Int), σ) := by
  have e18 : 10 ^ 18 = 1000000000000000000 := by decide
  have ev : (iZ (v : Int)).toInt64 = jZ (v : Int) := iZ_l (by omega) (by omega)
  have b : ∀ j, dgN v j < 10 := fun j => Nat.mod_lt _ (by omega)
  have mn : ∀ j, mnI (iZ (dgN v j : Int)) 1 = iZ ((min (dgN v j) 1 : Nat) : Int) := fun j => by
    have := b j
    have h1 : (1 : Int32) = iZ 1 := rfl
    rw [h1, iZ_mn (by omega) (by omega) (by omega) (by omega)]
    congr 1
    omega
  have step : ∀ n k : Nat, ∀ x : Nat, k < 3 → f_X9_make_27 (n + 1) (iZ (v : Int)) z (iZ (x : Int)) (iZ (k : Int)) σ = f_X9_make_27 n (iZ (v : Int)) z (iZ ((x + (if z = 0 then dgN v k else min (dgN v k) 1) : Nat) : Int)) (iZ ((k + 1 : Nat) : Int)) σ := by
    intro n k x hk
    rw [f_X9_make_27, if_neg (by rw [leI, t_3, iZt (by omega)]; omega), ev, bnd (s_digitOf9 σ v k (by omega) (by omega))]
    unfold f_X9_make_58 f_X9_make_60
    show (if z = 0 then f_X9_make_27 n (iZ (v : Int)) z (iZ (x : Int) + iZ (dgN v k : Int)) (iZ (k : Int) + 1) σ else f_X9_make_27 n (iZ (v : Int)) z (iZ (x : Int) + mnI (iZ (dgN v k : Int)) 1) (iZ (k : Int) + 1) σ) = _
    rw [mn k, iZa, iZa, iZs]
    by_cases c : z = 0
    · rw [if_pos c, if_pos c]
    · rw [if_neg c, if_neg c]
  have fu : FU = 999996 + 1 + 1 + 1 + 1 := rfl
  have s0 := step (999996 + 1 + 1 + 1) 0 0 (by omega)
  have s1 := step (999996 + 1 + 1) 1 (0 + (if z = 0 then dgN v 0 else min (dgN v 0) 1)) (by omega)
  have s2 := step (999996 + 1) 2 (0 + (if z = 0 then dgN v 0 else min (dgN v 0) 1) + (if z = 0 then dgN v 1 else min (dgN v 1) 1)) (by omega)
  rw [fu]
  refine Eq.trans s0 (Eq.trans s1 (Eq.trans s2 ?_))
  rw [f_X9_make_27, if_pos (by rw [leI, t_3, iZt (by omega)]; omega)]
  by_cases c : z = 0
  · simp only [if_pos c, Nat.zero_add]
  · simp only [if_neg c, Nat.zero_add]
theorem m_make {σ : St} (x z : Int32) : ∃ r σ2, f_X9_make x z σ = some (r, σ) ∧ f_X10_make x z σ = some (r, σ2) := by
  have nt : ∀ {P : Prop} [Decidable P], P → ¬ (bZ P = 0) := fun h => by rw [bZ_0]; exact not_not_intro h
  have nf : ∀ {P : Prop} [Decidable P], ¬ P → bZ P = 0 := fun h => bZ_f h
  by_cases q : 0 ≤ x.toInt ∧ x.toInt ≤ 999
  · by_cases qz : 0 ≤ z.toInt ∧ z.toInt ≤ 1
    · have ex := iZof q.1
      have hv : x.toInt.toNat < 1000 := by omega
      have cx : x.toNatClampNeg = x.toInt.toNat := rfl
      generalize x.toInt.toNat = v at ex hv cx
      obtain ⟨σ2, e1, h1⟩ := m_makeAll σ
      have b : ∀ j, dgN v j < 10 := fun j => Nat.mod_lt _ (by omega)
      have b0 := b 0
      have b1 := b 1
      have b2 := b 2
      have hp : pC v = 1000 * ((dgN v 0 + dgN v 1 + dgN v 2 : Nat) : Int) + ((min (dgN v 0) 1 + min (dgN v 1) 1 + min (dgN v 2) 1 : Nat) : Int) := by
        show 0 + (1000 * (dgN v 0 : Int) + min (dgN v 0 : Int) 1) + (1000 * (dgN v 1 : Int) + min (dgN v 1 : Int) 1) + (1000 * (dgN v 2 : Int) + min (dgN v 2 : Int) 1) = _
        generalize dgN v 0 = y0 at b0 ⊢
        generalize dgN v 1 = y1 at b1 ⊢
        generalize dgN v 2 = y2 at b2 ⊢
        omega
      have hc : gI σ2 67 v = iZ (pC v) := by rw [← h1 v hv, iZ_self]
      have h1000 : (1000 : Int32) = iZ 1000 := rfl
      obtain ⟨g1, g2⟩ := pC_rg v
      refine ⟨if z = 0 then iZ ((dgN v 0 + dgN v 1 + dgN v 2 : Nat) : Int) else iZ ((min (dgN v 0) 1 + min (dgN v 1) 1 + min (dgN v 2) 1 : Nat) : Int), σ2, ?_, ?_⟩
      · unfold f_X9_make
        rw [if_neg (by rw [lI, t_0]; omega), if_neg (by rw [lI, t_999]; omega), if_neg (by rw [lI, t_0]; omega), if_pos (by rw [leI, t_1]; omega), ex]
        exact c_make hv z σ
      · unfold f_X10_make f_X10_make_55
        rw [bnd (s_in _ _ _ σ), if_neg (nt (by rw [t64, l_0, l_999]; exact q)), bnd (s_in _ _ _ σ), if_neg (nt (by rw [t64, l_0, l_1]; exact qz)), bnd e1, gd_t (inb_i q.1 (by omega)), gd_t (inb_i q.1 (by omega)), cx, hc, h1000, iZ_div (by omega) (by omega) (by omega) (by omega), iZ_rm (by omega) (by omega) (by omega) (by omega)]
        generalize dgN v 0 = y0 at b0 hp ⊢
        generalize dgN v 1 = y1 at b1 hp ⊢
        generalize dgN v 2 = y2 at b2 hp ⊢
        by_cases c : z = 0
        · have ed : pC v / 1000 = ((y0 + y1 + y2 : Nat) : Int) := by omega
          rw [if_pos c, if_pos c, ed]
        · have ed : pC v % 1000 = ((min y0 1 + min y1 1 + min y2 1 : Nat) : Int) := by omega
          rw [if_neg c, if_neg c, ed]
    · refine ⟨-1, σ, ?_, ?_⟩
      · unfold f_X9_make f_X9_make_20
        rw [if_neg (by rw [lI, t_0]; omega), if_neg (by rw [lI, t_999]; omega)]
        by_cases c : z < 0
        · rw [if_pos c]
        · rw [if_neg c, if_neg (by rw [lI, t_0] at c; rw [leI, t_1]; omega)]
      · unfold f_X10_make f_X10_make_22
        rw [bnd (s_in _ _ _ σ), if_neg (nt (by rw [t64, l_0, l_999]; exact q)), bnd (s_in _ _ _ σ), if_pos (nf (by rw [t64, l_0, l_1]; exact qz))]
  · refine ⟨-1, σ, ?_, ?_⟩
    · unfold f_X9_make f_X9_make_20
      by_cases c : x < 0
      · rw [if_pos c]
      · rw [if_neg c, if_pos (by rw [lI, t_0] at c; rw [lI, t_999]; omega)]
    · unfold f_X10_make f_X10_make_22
      rw [bnd (s_in _ _ _ σ), if_pos (nf (by rw [t64, l_0, l_999]; exact q))]
