/-! FEWEST WALKS: the answers -/
theorem least_ex {P : Nat → Prop} : ∀ k : Nat, P k → ∃ k0, k0 ≤ k ∧ P k0 ∧ ∀ j, j < k0 → ¬ P j := by
  intro k
  induction k using Nat.strongRecOn with
  | ind k ih =>
    intro h
    by_cases c : ∃ j, j < k ∧ P j
    · obtain ⟨j, h1, h2⟩ := c
      obtain ⟨k0, q1, q2⟩ := ih j h1 h2
      exact ⟨k0, by omega, q2⟩
    · exact ⟨k, Nat.le_refl _, h, fun j hj hp => c ⟨j, hj, hp⟩⟩
theorem popc_all {s : Nat} : ∀ n : Nat, (∀ i, i < n → s.testBit i = true) → popc s n = n
  | 0, _ => rfl
  | n + 1, h => by
    rw [popc, popc_all n (fun i hi => h i (by omega)), if_pos (h n (by omega))]
theorem popc_lt {s H : Nat} (hs : s < 2 ^ H) (h : popc s H < H) : s + 1 < 2 ^ H := by
  refine Classical.byContradiction fun c => ?_
  have e : s = 2 ^ H - 1 := by omega
  have := popc_all (s := s) H (fun i hi => by rw [e, Nat.testBit_two_pow_sub_one, decide_eq_true hi])
  omega
/-- the first that loses nothing -/
abbrev hitF (R : Nat) (a : Nat → Int32) (H : Nat) (T : Nat → Int32) (s k : Nat) : Prop := ¬ bitI (iZ (s : Int)) k ∧ wT R a H T s k = T s
theorem c_first_go {X : En} {R H b : Nat} {a : Nat → Int32} {s : Nat} (hR : R ≤ 12) (hH : H ≤ 8) (ha : okH a) (ib : isR X b) (hz : eZ X ≤ 1000000) (hs : s < 2 ^ H) (T : Nat → Int32) (k0 : Nat) (hk0 : k0 < H) (h0 : hitF R a H T s k0) (hl : ∀ j, j < k0 → ¬ hitF R a H T s j) : ∀ m n k : Nat, ∀ σ : St, k + m = k0 → m < n → Hst R H b a σ → gI σ b = T → ∃ σ', g_X3_firstBehind_2 n (iZ (s : Int)) (iZ (k : Int)) X σ = some (iZ (k0 : Int), X, σ') ∧ Hst R H b a σ' ∧ frm W5 [] σ σ' := by
  have hp := pow8 hH
  have ib' := ib
  obtain ⟨b1, b2, b3, b4⟩ := ib
  intro m
  induction m with
  | zero =>
    intro n k σ e hn h hT
    cases n with
    | zero => omega
    | succ n =>
      have : k = k0 := by omega
      subst this
      obtain ⟨σ1, e1, h1, f1⟩ := c_walksBy hR hH ha ib' hz h hs hk0
      refine ⟨σ1, ?_, h1, f1⟩
      rw [g_X3_firstBehind_2, if_neg (by rw [h.2.2.1, leI, iZt (by omega), iZt (by omega)]; omega), bnd (s_hasBit _ k (by omega) σ), if_pos (by rw [bZ_0]; exact h0.1), mR_s h.2.2.2, gd_t (rk_t b1 (by omega) b3), bnd e1, mR_s h1.2.2.2, gd_t (rk_t b1 (by omega) b3), gd_t (iZb (by rw [mk_L b1, b4]; omega) (by rw [mk_L b1, b4]; omega)), iZc (show s < 2147483648 by omega), if_pos (by rw [f1.rI (n5 b1), hT]; exact h0.2)]
  | succ m ih =>
    intro n k σ e hn h hT
    cases n with
    | zero => omega
    | succ n =>
      rw [g_X3_firstBehind_2, if_neg (by rw [h.2.2.1, leI, iZt (by omega), iZt (by omega)]; omega), bnd (s_hasBit _ k (by omega) σ)]
      unfold g_X3_firstBehind_43
      by_cases c : bitI (iZ (s : Int)) k
      · rw [if_neg (by rw [bZ_0]; exact not_not_intro c), iZs]
        exact ih n (k + 1) σ (by omega) (by omega) h hT
      · obtain ⟨σ1, e1, h1, f1⟩ := c_walksBy hR hH ha ib' hz h hs (show k < H by omega)
        rw [if_pos (by rw [bZ_0]; exact c), mR_s h.2.2.2, gd_t (rk_t b1 (by omega) b3), bnd e1, mR_s h1.2.2.2, gd_t (rk_t b1 (by omega) b3), gd_t (iZb (by rw [mk_L b1, b4]; omega) (by rw [mk_L b1, b4]; omega)), iZc (show s < 2147483648 by omega), if_neg (by
          rw [f1.rI (n5 b1), hT]
          exact fun q => hl k (by omega) ⟨c, q⟩), iZs]
        obtain ⟨σ', i1, i2, i3⟩ := ih n (k + 1) σ1 (by omega) (by omega) h1 (by rw [f1.rI (n5 b1)]; exact hT)
        exact ⟨σ', i1, i2, f1.tr i3⟩
theorem m_first_go {R H : Nat} {a : Nat → Int32} {s : Nat} (hR : R ≤ 12) (hH : H ≤ 8) (ha : okH a) (hs : s < 2 ^ H) {τ : St} (h : Hmd R H a τ) (k0 : Nat) (hk0 : k0 < H) (h0 : hitF R a H (gI τ 55) s k0) (hl : ∀ j, j < k0 → ¬ hitF R a H (gI τ 55) s j) (x1 x4 : Int32) (K : Int32 → Int32 → Int32 → Int32 → St → Option (Int32 × St)) : ∀ m n k : Nat, k + m = k0 → m < n → f_X10_comes_15 K n x1 (iZ (s : Int)) (iZ (k : Int)) x4 τ = K x1 (iZ ((s ||| 2 ^ k0 : Nat) : Int)) (iZ (k0 : Int)) (x4 + 1) τ := by
  have hp := pow8 hH
  intro m
  induction m with
  | zero =>
    intro n k e hn
    cases n with
    | zero => omega
    | succ n =>
      have : k = k0 := by omega
      subst this
      have hor := or_iZ (s := s) (k := k) (by omega) (by omega)
      have hlt : s ||| 2 ^ k < 2 ^ H := Nat.or_lt_two_pow hs (Nat.pow_lt_pow_right (by omega) hk0)
      rw [f_X10_comes_15, bnd (s_has _ k (by omega) τ), if_pos (by rw [bZ_0]; exact h0.1), bnd (m_sum hH ha h s), gd_t (iZb (by omega) (by omega)), iZc (show k < 2147483648 by omega), bnd (m_wk hR hH ha h s k), hor, gd_t (iZb (by omega) (by omega)), gd_t (iZb (by omega) (by omega)), iZc (show (s ||| 2 ^ k) < 2147483648 by omega), iZc (show s < 2147483648 by omega), if_pos h0.2]
      rfl
  | succ m ih =>
    intro n k e hn
    cases n with
    | zero => omega
    | succ n =>
      rw [f_X10_comes_15, bnd (s_has _ k (by omega) τ)]
      unfold f_X10_comes_62
      by_cases c : bitI (iZ (s : Int)) k
      · rw [if_neg (by rw [bZ_0]; exact not_not_intro c), iZs]
        exact ih n (k + 1) (by omega) (by omega)
      · have hor := or_iZ (s := s) (k := k) (by omega) (by omega)
        have hlt : s ||| 2 ^ k < 2 ^ H := Nat.or_lt_two_pow hs (Nat.pow_lt_pow_right (by omega) (by omega))
        rw [if_pos (by rw [bZ_0]; exact c), bnd (m_sum hH ha h s), gd_t (iZb (by omega) (by omega)), iZc (show k < 2147483648 by omega), bnd (m_wk hR hH ha h s k), hor, gd_t (iZb (by omega) (by omega)), gd_t (iZb (by omega) (by omega)), iZc (show (s ||| 2 ^ k) < 2147483648 by omega), iZc (show s < 2147483648 by omega), if_neg (fun q => hl k (by omega) ⟨c, q⟩), iZs]
        exact ih n (k + 1) (by omega) (by omega)
theorem cmF_eq {X : En} {R H b : Nat} {a : Nat → Int32} {u : Nat} (hR : R ≤ 12) (hH : H ≤ 8) (ha : okH a) (ib : isR X b) (hz : eZ X ≤ 1000000) (hu : u < H) {τ : St} (hm : Hmd R H a τ) (gm : gdA R a H (gI τ 55) 0) : ∀ m n n' i s : Nat, ∀ σ : St, ∀ c d : Int32, i + m = u + 1 → m < n → m < n' → Hst R H b a σ → gdA R a H (gI σ b) 0 → s < 2 ^ H → popc s H ≤ i → (i = 0 ∨ c = d) → ∃ r σ', g_X3_comesAt_8 n (iZ (u : Int)) (iZ (s : Int)) c (iZ (i : Int)) X σ = some (r, X, σ') ∧ f_X10_comes_7 n' (iZ (u : Int)) (iZ (s : Int)) d (iZ (i : Int)) τ = some (r, τ) ∧ Hst R H b a σ' ∧ frm W5 [] σ σ' := by
  have hp := pow8 hH
  intro m
  induction m with
  | zero =>
    intro n n' i s σ c d e hn hn' h g hs hpc hcd
    cases n with
    | zero => omega
    | succ n =>
      cases n' with
      | zero => omega
      | succ n' =>
        refine ⟨c, σ, ?_, ?_, h, frm.rf σ⟩
        · rw [g_X3_comesAt_8, if_pos (by rw [lI, iZt (by omega), iZt (by omega)]; omega)]
          rfl
        · rw [f_X10_comes_7, if_pos (by rw [lI, iZt (by omega), iZt (by omega)]; omega)]
          rcases hcd with q | q
          · omega
          · rw [q]
  | succ m ih =>
    intro n n' i s σ c d e hn hn' h g hs hpc hcd
    cases n with
    | zero => omega
    | succ n =>
      cases n' with
      | zero => omega
      | succ n' =>
        have hs1 : s + 1 < 2 ^ H := popc_lt hs (by omega)
        have agree : ∀ t, t < 2 ^ H → gI σ b t = gI τ 55 t := fun t ht => gdA_uniq hH g gm (2 ^ H - 1 - t) t (by omega)
        obtain ⟨_, _, k1, q1, q2, q3⟩ := gdA_w hR hH (t := s) (T := gI σ b) ⟨g.1, fun t _ h2 => g.2 t (by omega) h2⟩ hs1
        have q4 : hitF R a H (gI σ b) s k1 := ⟨q2, by rw [q3]; exact (g.2 s (by omega) hs1).symm⟩
        obtain ⟨k0, l1, l2, l3⟩ := least_ex (P := hitF R a H (gI σ b) s) k1 q4
        have conv : ∀ k, k < H → (hitF R a H (gI τ 55) s k ↔ hitF R a H (gI σ b) s k) := fun k hk => by
          have e1 : wT R a H (gI σ b) s k = wT R a H (gI τ 55) s k := by
            show _ + gI σ b (s ||| 2 ^ k) = _ + gI τ 55 (s ||| 2 ^ k)
            rw [agree _ (Nat.or_lt_two_pow hs (Nat.pow_lt_pow_right (by omega) hk))]
          unfold hitF
          rw [e1, agree s hs]
        obtain ⟨σ1, e1, h1, f1⟩ := c_first_go hR hH ha ib hz hs (gI σ b) k0 (by omega) l2 l3 k0 FU 0 σ (by omega) (by unfold FU; omega) h rfl
        have e2 := m_first_go hR hH ha hs hm k0 (by omega) ((conv k0 (by omega)).mpr l2) (fun j hj q => l3 j hj ((conv j (by omega)).mp q)) (iZ (u : Int)) (iZ (i : Int)) (f_X10_comes_7 n') k0 FU 0 (by omega) (by unfold FU; omega)
        have hb0 : ¬ s.testBit k0 = true := by
          rw [← bitZ8 (by omega) (by omega)]; exact l2.1
        have hlt := (or_gt hs (show k0 < H by omega) hb0).2
        have hor := or_iZ (s := s) (k := k0) (by omega) (by omega)
        have hpc2 : popc (s ||| 2 ^ k0) H ≤ i + 1 := by
          have := popc_set (a := s) (b := s ||| 2 ^ k0) (r := k0) H (fun j hj hne => by
            rw [Nat.testBit_or, Nat.testBit_two_pow_of_ne (by omega), Bool.or_false])
          omega
        obtain ⟨r, σ', i1, i2, i3, i4⟩ := ih n n' (i + 1) (s ||| 2 ^ k0) σ1 (iZ (k0 : Int)) (iZ (k0 : Int)) (by omega) (by omega) (by omega) h1 (by rw [f1.rI (n5 ib.1)]; exact g) hlt hpc2 (Or.inr rfl)
        refine ⟨r, σ', ?_, ?_, i3, f1.tr i4⟩
        · rw [g_X3_comesAt_8, if_neg (by rw [lI, iZt (by omega), iZt (by omega)]; omega), if_neg (by rw [h.2.2.1, leI, iZt (by omega), iZt (by omega)]; omega)]
          have e1' : g_X3_firstBehind (iZ (s : Int)) X σ = some (iZ (k0 : Int), X, σ1) := by
            unfold g_X3_firstBehind g_X3_firstBehind_b
            have e1'' : g_X3_firstBehind_2 FU (iZ (s : Int)) 0 X σ = some (iZ (k0 : Int), X, σ1) := e1
            rw [bnd e1'', wrp]
          rw [bnd e1']
          unfold g_X3_comesAt_46
          dsimp only
          rw [if_neg (by rw [eI, iZt (by omega), t_m1]; omega), hor, iZs]
          exact i1
        · rw [f_X10_comes_7, if_neg (by rw [lI, iZt (by omega), iZt (by omega)]; omega)]
          refine Eq.trans e2 ?_
          rw [iZs]
          exact i2
