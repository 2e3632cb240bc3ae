/-! RELAY, RANKED, alike -/
theorem relay_of {σ : St} {N K x : Nat} (rs : Rset σ) (rr : Rrop σ) (rd : Rdig σ) (rgo : Rgoat σ) (hN : N < 10 ^ 9) (hK1 : 1 ≤ K) (hK : K ≤ 9) (hx : x ≤ 1) :
    ∃ A, (∀ s : St, (∀ a b, a < 4 → gI s a b = gI σ a b) → ∃ s', f_X9_restByRank (iZ (N : Int)) (iZ (K : Int)) (iZ (x : Int)) s = some (A, s')) ∧ (∀ t : St, (∀ a b, a = 38 ∨ a = 44 ∨ a = 46 → gI t a b = gI σ a b) → ∃ t', f_X10_relayOf (iZ (N : Int)) (iZ (K : Int)) (iZ (x : Int)) t = some (A, t')) := by
  obtain ⟨s1, s2, s3, s4, s5, s6, s7, s8⟩ := rs
  obtain ⟨r1, r2⟩ := rr
  obtain ⟨g1, g2, _⟩ := rgo
  obtain ⟨R, hR⟩ : ∃ R : Nat, gI σ 1 0 = iZ (R : Int) ∧ (gI σ 1 0).toInt = R := ⟨(gI σ 1 0).toInt.toNat, iZof (by have := r2.1; omega), by have := r2.1; omega⟩
  obtain ⟨pc, hpc⟩ : ∃ R : Nat, gI σ 0 15 = iZ (R : Int) ∧ (gI σ 0 15).toInt = R := ⟨(gI σ 0 15).toInt.toNat, iZof (by have := s6.1; omega), by have := s6.1; omega⟩
  obtain ⟨dog, hdog⟩ : ∃ R : Nat, gI σ 0 16 = iZ (R : Int) ∧ (gI σ 0 16).toInt = R := ⟨(gI σ 0 16).toInt.toNat, iZof s7.1, by have := s7.1; omega⟩
  obtain ⟨sh, hsh⟩ : ∃ R : Nat, gI σ 0 17 = iZ (R : Int) ∧ (gI σ 0 17).toInt = R := ⟨(gI σ 0 17).toInt.toNat, iZof s8.1, by have := s8.1; omega⟩
  obtain ⟨D, hD⟩ : ∃ D : Nat → Nat, D = fun r => (gI σ 2 r).toInt.toNat := ⟨_, rfl⟩
  obtain ⟨gt, hgt⟩ : ∃ D : Nat → Nat, D = fun r => (gI σ 3 r).toInt.toNat := ⟨_, rfl⟩
  have R2 : 2 ≤ R := by have := r2.1; omega
  have R12 : R ≤ 12 := by have := r2.2; omega
  have p1 : 1 ≤ pc := by have := s6.1; omega
  have p9 : pc ≤ 9 := by have := s6.2; omega
  have d9 : dog ≤ 9 := by have := s7.2; omega
  have sh9 : sh ≤ 9 := by have := s8.2; omega
  have D9 : ∀ r, r < R → gI σ 2 r = iZ (D r : Int) ∧ D r ≤ 9 := fun r hr => by
    have w := (rd.1 r (by omega)).2
    rw [hD]
    exact ⟨iZof w.1, by have w1 := w.1; have w2 := w.2; show (gI σ 2 r).toInt.toNat ≤ 9; omega⟩
  have G12 : ∀ r, r < R → gI σ 3 r = iZ (gt r : Int) ∧ gt r ≤ 12 := fun r hr => by
    have w := g2 r (by omega)
    rw [hgt]
    exact ⟨iZof w.1, by have w1 := w.1; have w2 := w.2; show (gI σ 3 r).toInt.toNat ≤ 12; omega⟩
  obtain ⟨tp, htp⟩ : ∃ tp, tp = topN N R := ⟨_, rfl⟩
  have tpR : tp ≤ R := by rw [htp]; exact top_le N R R12
  obtain ⟨aw, haw⟩ : ∃ aw, aw = max 1 dog := ⟨_, rfl⟩
  obtain ⟨hl, hhl⟩ : ∃ hl, hl = sh * (tp - 1) := ⟨_, rfl⟩
  have hl99 : hl ≤ 9 * 11 := by rw [hhl]; exact Nat.mul_le_mul sh9 (show tp - 1 ≤ 11 by omega)
  have ph := Phi_0 (R := R) (tp := tp) (D := D) R12
  obtain ⟨A, a1, a2⟩ := relay_go (x := x) (gt := gt) (show 0 < R by omega) R12 hK1 hK hx haw d9 p1 p9 sh9 tpR hhl hN (fun r hr => (G12 r hr).2) 50000 0 (by omega) (P00 tp D) (fun _ => 0) (fun _ => 0) (K : Int) (INV_0 (fun r hr => (D9 r hr).2)) (by omega)
  have ea : mxI 1 (iZ (dog : Int)) = iZ (aw : Int) := by
    rw [show (1 : Int32) = iZ 1 from rfl, iZ_mx (by omega) (by omega) (by omega) (by omega)]
    congr 1
    omega
  refine ⟨A, fun s hs => ?_, fun t ht => ?_⟩
  · have q17 : gI s 0 17 = iZ (sh : Int) := by rw [hs 0 17 (by omega)]; exact hsh.1
    have q10 : gI s 1 0 = iZ (R : Int) := by rw [hs 1 0 (by omega)]; exact hR.1
    have em : mnI (iZ (R : Int)) 12 = iZ (R : Int) := by
      rw [show (12 : Int32) = iZ 12 from rfl, iZ_mn (by omega) (by omega) (by omega) (by omega)]
      congr 1
      omega
    unfold f_X9_restByRank f_X0_setOut f_X0_setOut_43
    rw [q17, q10, em]
    obtain ⟨σ1, h1⟩ : ∃ σ1, σ1 = sI (sI s 27 10 (iZ (R : Int))) 27 11 (iZ (sh : Int)) := ⟨_, rfl⟩
    rw [← h1]
    have o1 : ∀ a b, a ≠ 27 → gI σ1 a b = gI s a b := fun a b n => by rw [h1, g_sI_ne (by omega), g_sI_ne (by omega)]
    have t11 : gI σ1 27 11 = iZ (sh : Int) := by rw [h1, g_sI_eq]
    have t10 : gI σ1 27 10 = iZ (R : Int) := by rw [h1, g_sI_ne (by omega), g_sI_eq]
    have tr := c_topRope (o := 1) (σ := σ1) (by rw [o1 1 0 (by omega)]; exact q10) R12 N hN
    rw [← htp] at tr
    have go : ∀ y0 : Int32, y0 = iZ (hl : Int) → ∃ s', (((f_X0_setOut_49 1 FU (iZ (N : Int)) (iZ ((tp : Int) - 1)) 0 (sI σ1 27 12 y0)).bind fun p1 => ((f_X0_minuteOfRest (iZ (K : Int)) (iZ (x : Int)) (gI p1 0 15) (gI p1 0 16) p1).bind fun p2 => (some (p2.1, p2.2))))) = some (A, s') := by
      intro y0 hy
      rw [hy]
      obtain ⟨σ2, c1, c2, c3⟩ := c_set (R := R) (N := N) (tp := tp) (gt := gt) (D := D) R12 tpR hN R FU 0 (sI σ1 27 12 (iZ (hl : Int))) (by omega) (by unfold FU; omega) (fun r hr => by omega) (by rw [g_sI_ne (by omega)]; exact t10) (fun r hr => by
        rw [g_sI_ne (by omega), g_sI_ne (by omega), o1 2 r (by omega), o1 3 r (by omega), hs 2 r (by omega), hs 3 r (by omega)]
        exact ⟨(D9 r hr).1, (G12 r hr).1⟩)
      rw [show f_X0_setOut_49 1 FU (iZ (N : Int)) (iZ ((tp : Int) - 1)) 0 (sI σ1 27 12 (iZ (hl : Int))) = some σ2 from c1]
      rw [bnd rfl]
      have u15 : gI σ2 0 15 = iZ (pc : Int) := by rw [c3 0 15 (by omega), g_sI_ne (by omega), o1 0 15 (by omega), hs 0 15 (by omega)]; exact hpc.1
      have u16 : gI σ2 0 16 = iZ (dog : Int) := by rw [c3 0 16 (by omega), g_sI_ne (by omega), o1 0 16 (by omega), hs 0 16 (by omega)]; exact hdog.1
      rw [u15, u16]
      unfold f_X0_minuteOfRest f_X0_minuteOfRest_18
      rw [ea]
      obtain ⟨σ3, h3⟩ : ∃ σ3, σ3 = sI (sI σ2 27 14 (iZ (K : Int))) 27 13 (iZ (pc : Int)) := ⟨_, rfl⟩
      rw [← h3]
      have o3 : ∀ a b, a ≠ 27 → gI σ3 a b = gI σ2 a b := fun a b n => by rw [h3, g_sI_ne (by omega), g_sI_ne (by omega)]
      have v2 : ∀ b, b ≠ 13 → b ≠ 14 → gI σ3 27 b = gI (sI σ1 27 12 (iZ (hl : Int))) 27 b := fun b n1 n2 => by rw [h3, g_sI_ne (by omega), g_sI_ne (by omega), c3 27 b (by omega)]
      obtain ⟨s', e1⟩ := a1 FU σ3 (by unfold FU; omega) (fun r hr => by
          have hr' := c2 r hr
          unfold clL at hr' ⊢
          rw [o3 _ _ (by omega), o3 _ _ (by omega), o3 _ _ (by omega), o3 _ _ (by omega), o3 _ _ (by omega), o3 _ _ (by omega), o3 _ _ (by omega), o3 _ _ (by omega), o3 _ _ (by omega), o3 _ _ (by omega)]
          exact hr') ⟨by rw [v2 10 (by omega) (by omega), g_sI_ne (by omega)]; exact t10, by rw [v2 11 (by omega) (by omega), g_sI_ne (by omega)]; exact t11, by rw [v2 12 (by omega) (by omega), g_sI_eq], by rw [h3, g_sI_eq], by rw [h3, g_sI_ne (by omega), g_sI_eq]⟩
      refine ⟨s', ?_⟩
      rw [show f_X0_minuteOfRest_21 FU (iZ (x : Int)) (iZ (aw : Int)) 0 σ3 = some (A, s') from e1]
      rfl
    rw [bnd tr]
    by_cases c : tp = 0
    · have e : iZ ((tp : Int) - 1) = -1 := by rw [c]; rfl
      dsimp only
      rw [if_pos e]
      exact go 0 (by rw [hhl, c, Nat.zero_sub, Nat.mul_zero]; rfl)
    · dsimp only
      rw [if_neg (by rw [eI, iZ_toInt (by omega) (by omega), t_m1]; omega), t11, iZ_mul]
      refine go _ ?_
      congr 1
      rw [hhl, Int.natCast_mul, Int.ofNat_sub (by omega)]
      rfl
  · have N64 : (iZ (N : Int)).toInt64 = jZ (N : Int) := iZ_l (by omega) (by omega)
    have q1 : gI t 38 1 = iZ (R : Int) := by rw [ht 38 1 (by omega), r1]; exact hR.1
    have hi := m_highest N (by omega) t R R12 q1
    rw [← htp] at hi
    unfold f_X10_relayOf
    rw [N64, bnd hi]
    obtain ⟨t1, b1, b2, b3⟩ := m_set11 (R := R) (tp := tp) (gt := gt) (D := D) (x1 := iZ (N : Int)) (x2 := iZ (K : Int)) (x3 := iZ (x : Int)) (x4 := iZ ((tp : Int) - 1)) R12 R FU 0 t (by omega) (by unfold FU; omega) (fun r hr => by omega) q1 (fun r hr => by
      rw [ht 46 r (by omega), ht 44 r (by omega), (rd.1 r (by omega)).1, g1]
      exact ⟨(D9 r hr).1, (G12 r hr).1⟩)
    rw [show f_X10_relayOf_11 FU (iZ (N : Int)) (iZ (K : Int)) (iZ (x : Int)) (iZ ((tp : Int) - 1)) 0 t = _ from b1]
    obtain ⟨t2, c1, c2, c3⟩ := m_set77 (K := K) (x1 := iZ (N : Int)) (x3 := iZ (x : Int)) (x4 := iZ ((tp : Int) - 1)) hK K FU 0 t1 (by omega) (by unfold FU; omega) (fun d hd => by omega)
    rw [show f_X10_relayOf_77 FU (iZ (N : Int)) (iZ (K : Int)) (iZ (x : Int)) (iZ ((tp : Int) - 1)) 0 t1 = _ from c1]
    have o : ∀ b, gI t2 38 b = gI σ 38 b := fun b => by rw [c3 38 b (by omega), b3 38 b (by omega), ht 38 b (by omega)]
    obtain ⟨t3, e1⟩ := a2 FU t2 (by unfold FU; omega) (fun r hr => by
      have hr' := b2 r hr
      unfold moL at hr' ⊢
      rw [c3 _ _ (by omega), c3 _ _ (by omega), c3 _ _ (by omega), c3 _ _ (by omega), c3 _ _ (by omega), c3 _ _ (by omega), c3 _ _ (by omega), c3 _ _ (by omega)]
      exact hr') ⟨by rw [o, r1]; exact hR.1, by rw [o, s2]; exact hpc.1, by rw [o, s3]; exact hdog.1, by rw [o, s4]; exact hsh.1⟩ (fun d hd => ⟨by rw [c2 d hd]; rfl, fun z => absurd rfl z⟩)
    exact ⟨t3, e1⟩
theorem s_isPack (v : Int32) (σ : St) : f_X9_isPack v σ = some (bZ (1 ≤ v.toInt ∧ v.toInt ≤ 9), σ) := by
  unfold f_X9_isPack f_X9_isPack_15 f_X9_isPack_16 bZ
  simp only [lI, t_0, t_1, t_2, t_3, t_4, t_5, t_6, t_7, t_8, t_9, t_10, t_11, t_12, t_13, t_18, t_19, t_20, t_31, t_32, t_40, t_48, t_57, t_99, t_100, t_160, t_255, t_511, t_999, t_1000, t_9999, t_100000, t_999999999, t_2147483647, t_m1, t_m2, l_0, l_1, l_2, l_3, l_5, l_6, l_9, l_10, l_12, l_99, l_100, l_511, l_999, l_1000, l_9999, l_1000000, l_999999999, l_1000000000000, l_1000000000000000000, l_m1, gd_t isbb_0, gd_t isbb_1]
  by_cases h1 : v.toInt < 1
  · rw [if_pos h1, if_neg (by omega)]
  · rw [if_neg h1]
    by_cases h2 : 9 < v.toInt
    · rw [if_pos h2, if_neg (by omega)]
    · rw [if_neg h2, if_pos (by omega)]
theorem m_relay {σ : St} (x1 x2 x3 : Int32) (rs : Rset σ) (rr : Rrop σ) (rd : Rdig σ) (rgo : Rgoat σ) : ∃ r s1 s2, f_X9_relay x1 x2 x3 σ = some (r, s1) ∧ f_X10_relay x1 x2 x3 s1 = some (r, s2) := by
  unfold f_X9_relay f_X10_relay f_X9_relay_23 f_X10_relay_44 f_X10_relay_45
  rw [bnd (s_isNumber x1 σ)]
  dsimp only
  by_cases c1 : 0 ≤ x1.toInt ∧ x1.toInt ≤ 999999999
  rotate_left
  · rw [if_pos (by rw [bZ_0]; exact c1)]
    refine ⟨-1, σ, σ, rfl, ?_⟩
    rw [bnd (s_in _ _ _ σ)]
    dsimp only
    rw [if_pos (by rw [bZ_0, t64, l_0, l_999999999]; exact c1)]
  rw [if_neg (by rw [bZ_0]; exact not_not_intro c1), bnd (s_isPack x2 σ)]
  dsimp only
  by_cases c2 : 1 ≤ x2.toInt ∧ x2.toInt ≤ 9
  rotate_left
  · rw [if_pos (by rw [bZ_0]; exact c2)]
    refine ⟨-1, σ, σ, rfl, ?_⟩
    rw [bnd (s_in _ _ _ σ)]
    dsimp only
    rw [if_neg (by rw [bZ_0, t64, l_0, l_999999999]; exact not_not_intro c1), bnd (s_in _ _ _ σ)]
    dsimp only
    rw [if_pos (by rw [bZ_0, t64, l_1, l_9]; exact c2)]
  rw [if_neg (by rw [bZ_0]; exact not_not_intro c2)]
  by_cases c3 : 0 ≤ x3.toInt ∧ x3.toInt ≤ 1
  rotate_left
  · refine ⟨-1, σ, σ, ?_, ?_⟩
    · by_cases c4 : x3 < 0
      · rw [if_pos c4]
      · rw [if_neg c4, if_neg (by rw [lI, t_0] at c4; rw [leI, t_1]; omega)]
    · rw [bnd (s_in _ _ _ σ)]
      dsimp only
      rw [if_neg (by rw [bZ_0, t64, l_0, l_999999999]; exact not_not_intro c1), bnd (s_in _ _ _ σ)]
      dsimp only
      rw [if_neg (by rw [bZ_0, t64, l_1, l_9]; exact not_not_intro c2), bnd (s_in _ _ _ σ)]
      dsimp only
      rw [if_pos (by rw [bZ_0, t64, l_0, l_1]; exact c3)]
  rw [if_neg (by rw [lI, t_0]; omega), if_pos (by rw [leI, t_1]; omega)]
  obtain ⟨N, hN, eN⟩ : ∃ m : Nat, x1 = iZ (m : Int) ∧ x1.toInt = m := ⟨x1.toInt.toNat, iZof (by omega), by omega⟩
  obtain ⟨K, hK, eK⟩ : ∃ m : Nat, x2 = iZ (m : Int) ∧ x2.toInt = m := ⟨x2.toInt.toNat, iZof (by omega), by omega⟩
  obtain ⟨x, hx, ex⟩ : ∃ m : Nat, x3 = iZ (m : Int) ∧ x3.toInt = m := ⟨x3.toInt.toNat, iZof (by omega), by omega⟩
  obtain ⟨A, a1, a2⟩ := relay_of (N := N) (K := K) (x := x) rs rr rd rgo (by omega) (by omega) (by omega) (by omega)
  rw [← hN, ← hK, ← hx] at a1 a2
  obtain ⟨s1, e1⟩ := a1 σ (fun _ _ _ => rfl)
  have f1 := (fr_X9_restByRank e1).same (C := [38, 44, 46]) (G := []) rfl
  obtain ⟨s2, e2⟩ := a2 s1 (fun a b h => by
    rcases h with h | h | h
    · subst h; rw [f1.cI 38]
    · subst h; rw [f1.cI 44]
    · subst h; rw [f1.cI 46])
  refine ⟨A, s1, s2, ?_, ?_⟩
  · rw [bnd e1]
  · rw [bnd (s_in _ _ _ s1)]
    dsimp only
    rw [if_neg (by rw [bZ_0, t64, l_0, l_999999999]; exact not_not_intro c1), bnd (s_in _ _ _ s1)]
    dsimp only
    rw [if_neg (by rw [bZ_0, t64, l_1, l_9]; exact not_not_intro c2), bnd (s_in _ _ _ s1)]
    dsimp only
    rw [if_neg (by rw [bZ_0, t64, l_0, l_1]; exact not_not_intro c3), bnd e2]
theorem m_ranked {σ : St} (x1 x2 : Int32) (rs : Rset σ) (rr : Rrop σ) (rd : Rdig σ) (rgo : Rgoat σ) : ∃ r s1 s2, f_X9_ranked x1 x2 σ = some (r, s1) ∧ f_X10_ranked x1 x2 s1 = some (r, s2) := by
  unfold f_X9_ranked f_X10_ranked f_X9_ranked_14 f_X9_ranked_38 f_X10_ranked_49 f_X10_ranked_50
  rw [bnd (s_isNumber x1 σ)]
  dsimp only
  by_cases c1 : 0 ≤ x1.toInt ∧ x1.toInt ≤ 999999999
  rotate_left
  · rw [if_pos (by rw [bZ_0]; exact c1)]
    refine ⟨-1, σ, σ, rfl, ?_⟩
    rw [bnd (s_in _ _ _ σ)]
    dsimp only
    rw [if_pos (by rw [bZ_0, t64, l_0, l_999999999]; exact c1)]
  rw [if_neg (by rw [bZ_0]; exact not_not_intro c1), bnd (s_isPack x2 σ)]
  dsimp only
  by_cases c2 : 1 ≤ x2.toInt ∧ x2.toInt ≤ 9
  rotate_left
  · rw [if_pos (by rw [bZ_0]; exact c2)]
    refine ⟨-1, σ, σ, rfl, ?_⟩
    rw [bnd (s_in _ _ _ σ)]
    dsimp only
    rw [if_neg (by rw [bZ_0, t64, l_0, l_999999999]; exact not_not_intro c1), bnd (s_in _ _ _ σ)]
    dsimp only
    rw [if_pos (by rw [bZ_0, t64, l_1, l_9]; exact c2)]
  rw [if_neg (by rw [bZ_0]; exact not_not_intro c2)]
  obtain ⟨N, hN, eN⟩ : ∃ m : Nat, x1 = iZ (m : Int) ∧ x1.toInt = m := ⟨x1.toInt.toNat, iZof (by omega), by omega⟩
  obtain ⟨K, hK, eK⟩ : ∃ m : Nat, x2 = iZ (m : Int) ∧ x2.toInt = m := ⟨x2.toInt.toNat, iZof (by omega), by omega⟩
  obtain ⟨A, a1, a2⟩ := relay_of (N := N) (K := K) (x := 1) rs rr rd rgo (by omega) (by omega) (by omega) (by omega)
  obtain ⟨B, b1, b2⟩ := relay_of (N := N) (K := K) (x := 0) rs rr rd rgo (by omega) (by omega) (by omega) (by omega)
  rw [← hN, ← hK] at a1 a2 b1 b2
  rw [show iZ ((1 : Nat) : Int) = 1 from rfl] at a1 a2
  rw [show iZ ((0 : Nat) : Int) = 0 from rfl] at b1 b2
  obtain ⟨s1, e1⟩ := a1 σ (fun _ _ _ => rfl)
  have f1 := (fr_X9_restByRank e1).same (C := [0, 1, 2, 3, 38, 44, 46]) (G := []) rfl
  obtain ⟨s2, e2⟩ := b1 s1 (fun a b h => by
    have hc : a = 0 ∨ a = 1 ∨ a = 2 ∨ a = 3 := by omega
    rcases hc with h | h | h | h
    · subst h; rw [f1.cI 0]
    · subst h; rw [f1.cI 1]
    · subst h; rw [f1.cI 2]
    · subst h; rw [f1.cI 3])
  have f2 := (fr_X9_restByRank e2).same (C := [0, 1, 2, 3, 38, 44, 46]) (G := []) rfl
  obtain ⟨t1, e3⟩ := a2 s2 (fun a b h => by
    rcases h with h | h | h
    · subst h; rw [f2.cI 38, f1.cI 38]
    · subst h; rw [f2.cI 44, f1.cI 44]
    · subst h; rw [f2.cI 46, f1.cI 46])
  have f3 := (fr_X10_relayOf e3).same (C := [38, 44, 46]) (G := []) rfl
  obtain ⟨t2, e4⟩ := b2 t1 (fun a b h => by
    rcases h with h | h | h
    · subst h; rw [f3.cI 38, f2.cI 38, f1.cI 38]
    · subst h; rw [f3.cI 44, f2.cI 44, f1.cI 44]
    · subst h; rw [f3.cI 46, f2.cI 46, f1.cI 46])
  refine ⟨if B ≤ A then 0 else 1, s2, t2, ?_, ?_⟩
  · rw [bnd e1, bnd e2]
    by_cases c : B ≤ A
    · rw [if_pos c, if_pos c]
    · rw [if_neg c, if_neg c]
  · rw [bnd (s_in _ _ _ s2)]
    dsimp only
    rw [if_neg (by rw [bZ_0, t64, l_0, l_999999999]; exact not_not_intro c1), bnd (s_in _ _ _ s2)]
    dsimp only
    rw [if_neg (by rw [bZ_0, t64, l_1, l_9]; exact not_not_intro c2), bnd e3, bnd e4]
    by_cases c : B ≤ A
    · rw [if_pos c, if_pos c]
    · rw [if_neg c, if_neg c]
