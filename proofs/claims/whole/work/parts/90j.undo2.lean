/-! UNDO -/
theorem pv40 {i : Nat} (h : i < 40) : rmI (iZ (i : Int) + 40 - 1) 40 = iZ (((i + 39) % 40 : Nat) : Int) := by
  have e : (40 : Int32) = iZ 40 := rfl
  have e1 : (1 : Int32) = iZ 1 := rfl
  rw [e, e1, iZ_add, iZ_sub, iZ_rm (by omega) (by omega) (by omega) (by omega)]
  congr 1
  omega
theorem c_takeBack {R i w : Nat} {σ : St} (hR : R ≤ 12) (hr : gI σ 1 0 = iZ (R : Int)) (hi : i < 40) (e9 : gI σ 9 1 = iZ (i : Int)) (hs : ¬ gI σ 9 2 = 0) (hw : w < 10 ^ 18) (ew : gJ σ 10 (8 * ((i + 39) % 40)) = jZ (w : Int)) : ∃ σ', f_X2_takeBack 1 σ = some (1, σ') ∧ gI σ' 9 1 = iZ (((i + 39) % 40 : Nat) : Int) ∧ gI σ' 9 2 = gI σ 9 2 - 1 ∧ (∀ j, j < R → gI σ' 2 j = dgI w j) ∧ (∀ j, R ≤ j → gI σ' 2 j = gI σ 2 j) ∧ gJ σ' 1 6 = gJ σ 10 (8 * ((i + 39) % 40) + 1) ∧ (∀ k, k < 6 → gI σ' 1 (7 + k) = (gJ σ 10 (8 * ((i + 39) % 40) + 2 + k)).toInt32) := by
  unfold f_X2_takeBack f_X2_takeBack_35
  rw [if_neg hs]
  have e91 : gI (sI σ 9 2 (gI σ 9 2 - 1)) 9 1 = iZ (i : Int) := by rw [g_sI_ne (by omega)]; exact e9
  rw [e91, pv40 hi]
  have hi' : (i + 39) % 40 < 40 := Nat.mod_lt _ (by omega)
  generalize (i + 39) % 40 = i' at ew hi' ⊢
  rw [g_sI_eq, eight_i]
  unfold f_X2_takeBack_43
  rw [gd_t (iZb (show 8 * i' < 320 by omega) (by omega)), iZc (show 8 * i' < 2147483648 by omega)]
  have ew' : gJ (sI (sI σ 9 2 (gI σ 9 2 - 1)) 9 1 (iZ (i' : Int))) 10 (8 * i') = jZ (w : Int) := ew
  rw [ew']
  obtain ⟨p, e1, d1, d2⟩ := c_standFor (o := 1) (σ := sI (sI σ 9 2 (gI σ 9 2 - 1)) 9 1 (iZ (i' : Int))) hR hw (by rw [g_sI_ne (by omega), g_sI_ne (by omega)]; exact hr)
  have sm := (fr_X7_standFor 1 e1).same (C := [1, 9, 10]) (G := []) rfl
  rw [e1]
  simp only [Option.bind_some]
  unfold f_X2_takeBack_78 f_X2_takeBack_104 f_X2_takeBack_131
  simp only [iZs, iZk (8 * i') 2 2 rfl, iZk (8 * i') 3 3 rfl, iZk (8 * i') 4 4 rfl, iZk (8 * i') 5 5 rfl, iZk (8 * i') 6 6 rfl, iZk (8 * i') 7 7 rfl]
  rw [gd_t (iZb (show 8 * i' + 1 < 320 by omega) (by omega)), gd_t (iZb (show 8 * i' + 2 < 320 by omega) (by omega)), gd_t (iZb (show 8 * i' + 3 < 320 by omega) (by omega)), gd_t (iZb (show 8 * i' + 4 < 320 by omega) (by omega)), gd_t (iZb (show 8 * i' + 5 < 320 by omega) (by omega)), gd_t (iZb (show 8 * i' + 6 < 320 by omega) (by omega)), gd_t (iZb (show 8 * i' + 7 < 320 by omega) (by omega))]
  simp only [iZc (show 8 * i' + 1 < 2147483648 by omega), iZc (show 8 * i' + 2 < 2147483648 by omega), iZc (show 8 * i' + 3 < 2147483648 by omega), iZc (show 8 * i' + 4 < 2147483648 by omega), iZc (show 8 * i' + 5 < 2147483648 by omega), iZc (show 8 * i' + 6 < 2147483648 by omega), iZc (show 8 * i' + 7 < 2147483648 by omega)]
  have c10 : ∀ j, gJ p 10 j = gJ σ 10 j := fun j => by rw [sm.cJ 10]; rfl
  refine ⟨_, rfl, ?_, ?_, ?_, ?_, ?_, ?_⟩
  · rw [g_sI_c (by omega), g_sI_c (by omega), g_sI_c (by omega), g_sI_c (by omega), g_sI_c (by omega), g_sI_c (by omega)]
    show gI p 9 1 = _
    rw [sm.cI 9, g_sI_eq]
  · rw [g_sI_c (by omega), g_sI_c (by omega), g_sI_c (by omega), g_sI_c (by omega), g_sI_c (by omega), g_sI_c (by omega)]
    show gI p 9 2 = _
    rw [sm.cI 9, g_sI_ne (by omega), g_sI_eq]
  · intro j hj
    rw [g_sI_c (by omega), g_sI_c (by omega), g_sI_c (by omega), g_sI_c (by omega), g_sI_c (by omega), g_sI_c (by omega)]
    exact d1 j hj
  · intro j hj
    rw [g_sI_c (by omega), g_sI_c (by omega), g_sI_c (by omega), g_sI_c (by omega), g_sI_c (by omega), g_sI_c (by omega)]
    refine (d2 j hj).trans ?_
    rw [g_sI_c (by omega), g_sI_c (by omega)]
  · rw [gJ_sI, gJ_sI, gJ_sI, gJ_sI, gJ_sI, gJ_sI, gJ_sJ, if_pos rfl, if_pos rfl]
    exact c10 _
  · intro k hk
    have hc : k = 0 ∨ k = 1 ∨ k = 2 ∨ k = 3 ∨ k = 4 ∨ k = 5 := by omega
    rcases hc with rfl | rfl | rfl | rfl | rfl | rfl
    · rw [g_sI_ne (by omega)]; rw [g_sI_ne (by omega)]; rw [g_sI_ne (by omega)]; rw [g_sI_ne (by omega)]; rw [g_sI_ne (by omega)]; rw [g_sI_eq]; rw [← c10]; rfl
    · rw [g_sI_ne (by omega)]; rw [g_sI_ne (by omega)]; rw [g_sI_ne (by omega)]; rw [g_sI_ne (by omega)]; rw [g_sI_eq]; rw [← c10]; rfl
    · rw [g_sI_ne (by omega)]; rw [g_sI_ne (by omega)]; rw [g_sI_ne (by omega)]; rw [g_sI_eq]; rw [← c10]; rfl
    · rw [g_sI_ne (by omega)]; rw [g_sI_ne (by omega)]; rw [g_sI_eq]; rw [← c10]; rfl
    · rw [g_sI_ne (by omega)]; rw [g_sI_eq]; rw [← c10]; rfl
    · rw [g_sI_eq]; rw [← c10]; rfl
theorem m_undo_go {i : Nat} {σ0 : St} (hi : i < 40) : ∀ m n k : Nat, ∀ σ : St, k + m = 19 → m < n → gI σ 38 28 = iZ (i : Int) → gI σ 49 = gI σ0 49 → (∀ j, j < k → gI σ 46 j = gI σ0 49 (19 * i + j)) → ∃ σ', f_X10_undo_37 n (iZ (k : Int)) σ = some (gI σ' 46 18, σ') ∧ (∀ j, j < 19 → gI σ' 46 j = gI σ0 49 (19 * i + j)) ∧ gJ σ' 38 18 = gJ σ 50 i ∧ gI σ' 38 27 = gI σ 38 27 ∧ gI σ' 38 28 = iZ (i : Int) := by
  intro m
  induction m with
  | zero =>
    intro n k σ e hn e28 e49 h1
    cases n with
    | zero => omega
    | succ n =>
      have hk : k = 19 := by omega
      subst hk
      rw [f_X10_undo_37, if_pos (by rw [leI, iZt (by omega), t_19]; omega), e28, gd_t (iZb hi (by omega)), iZc (by omega), n_18]
      refine ⟨_, rfl, h1, ?_, rfl, e28⟩
      simp [gI_sI, gI_sJ, gI_sR, gJ_sI, gJ_sJ, gJ_sR, gR_sI, gR_sJ, gR_sR]
  | succ m ih =>
    intro n k σ e hn e28 e49 h1
    cases n with
    | zero => omega
    | succ n =>
      rw [f_X10_undo_37, if_neg (by rw [leI, iZt (by omega), t_19]; omega), e28, nin_i, gd_t (iZb (show 19 * i + k < 760 by omega) (by omega)), gd_t (iZb (show k < 19 by omega) (by omega)), iZc (show 19 * i + k < 2147483648 by omega), iZc (show k < 2147483648 by omega)]
      unfold f_X10_undo_63
      rw [iZs]
      obtain ⟨σ', a1, a2, a3, a4, a5⟩ := ih n (k + 1) (sI σ 46 k (gI σ 49 (19 * i + k))) (by omega) (by omega) (by rw [g_sI_c (by omega)]; exact e28) (by rw [g_sI_c (by omega)]; exact e49) (fun j hj => by
        by_cases c : j = k
        · subst c; rw [g_sI_eq, e49]
        · rw [g_sI_ne (by omega)]; exact h1 j (by omega))
      refine ⟨σ', a1, a2, a3, ?_, a5⟩
      rw [a4, g_sI_c (by omega)]
theorem s_undo2 {σ τ : St} (h : Act2 σ τ) (hs : ¬ gI σ 9 2 = 0) : ∃ σ' τ', f_X9_undo σ = some (gI σ' 0 13, σ') ∧ f_X10_undo τ = some (gI σ' 0 13, τ') ∧ Act2 σ' τ' := by
  obtain ⟨hf, hd, hn, hD, hp⟩ := h
  have hf0 := hf
  obtain ⟨f1, ⟨f2a, f2b⟩, f3, f4, f5, f6, f7, f8, f9, f10⟩ := hf
  have hr : (gI σ 1 0).toInt = ((gI σ 1 0).toInt.toNat : Int) := by omega
  have hR : (gI σ 1 0).toInt.toNat ≤ 12 := by omega
  have eR : gI σ 1 0 = iZ ((gI σ 1 0).toInt.toNat : Int) := by rw [← hr, iZ_self]
  generalize (gI σ 1 0).toInt.toNat = R at hr hR eR
  obtain ⟨p1, p2, ⟨p3a, p3b⟩, ⟨p4a, p4b⟩, p5, p6⟩ := hp
  have e9 : gI σ 9 1 = iZ ((gI σ 9 1).toInt.toNat : Int) := iZof p3a
  have hi : (gI σ 9 1).toInt.toNat < 40 := by omega
  generalize (gI σ 9 1).toInt.toNat = i at e9 hi p6
  have hi' : (i + 39) % 40 < 40 := Nat.mod_lt _ (by omega)
  obtain ⟨r1, r2, r3, r4, r5⟩ := p5 _ hi'
  obtain ⟨w, w1, w2, w3⟩ := vsum_dig (f := fun j => (gI τ 49 (19 * ((i + 39) % 40) + j)).toInt) 12 (fun j hj => r1 j hj)
  have e12 : 10 ^ 12 = 1000000000000 := by decide
  have e18 : 10 ^ 18 = 1000000000000000000 := by decide
  rw [w1] at r3
  have s1 : (1 : Int) ≤ (gI σ 9 2).toInt := by rw [eI, t_0] at hs; omega
  obtain ⟨σa, ea, k1, k2, k3, k4, k5, k6⟩ := c_takeBack hR eR hi e9 hs (by omega) r3
  have sa := (fr_X2_takeBack 1 ea).same (C := [3, 10, 16]) (G := [(1, 0), (0, 13), (0, 14), (0, 15), (0, 16)]) rfl
  have hs2 : (gI σ 9 2 - 1).toInt = (gI σ 9 2).toInt - 1 := by rw [tsub (by rw [t_1]; omega) (by rw [t_1]; omega), t_1]
  -- the model
  have z1 : ¬ gI τ 38 27 = 0 := by rw [p1]; exact hs
  have e28 : gI (sI τ 38 27 (gI τ 38 27 - 1)) 38 28 = iZ (i : Int) := by rw [g_sI_ne (by omega), p2, e9]
  obtain ⟨τb, eb, l1, l2, l3, l4⟩ := m_undo_go (σ0 := τ) hi' 19 FU 0 (sI (sI τ 38 27 (gI τ 38 27 - 1)) 38 28 (iZ (((i + 39) % 40 : Nat) : Int))) (by omega) (by unfold FU; omega) (by rw [g_sI_eq]) (by rw [g_sI_c (by omega), g_sI_c (by omega)]) (fun j hj => by omega)
  have em : f_X10_undo τ = some (gI τb 46 18, τb) := by
    unfold f_X10_undo f_X10_undo_35
    rw [if_neg z1, e28, pv40 hi]
    exact eb
  have tb := (fr_X10_undo em).same (C := [44, 45, 49, 50]) (G := [(38, 1), (38, 11), (38, 12), (38, 13), (38, 21), (38, 22)]) rfl
  have a0 := p6 0 (by omega)
  have e46 : gI τb 46 18 = gI σ 0 13 - 1 := by
    rw [l1 18 (by omega)]
    have q := a0
    rw [Nat.sub_zero] at q
    rw [q]
    show gI σ 0 13 - 1 - 0 = _
    rw [Int32.sub_zero]
  refine ⟨sI σa 0 13 (gI σa 0 13 - 1), τb, ?_, ?_, ?_⟩
  · unfold f_X9_undo
    rw [ea]
    simp only [Option.bind_some]
    rw [if_neg (by decide)]
  · rw [em, e46, g_sI_eq, sa.I 0 13]
  · refine ⟨?_, ?_, ?_, ?_, ?_⟩
    · unfold Rfix2 at hf0 ⊢
      have e3 : gI (sI σa 0 13 (gI σa 0 13 - 1)) 3 = gI σa 3 := g_sI_c (by omega)
      simp only [e3, gI_sI, gI_sJ, gI_sR, gJ_sI, gJ_sJ, gJ_sR, gR_sI, gR_sJ, gR_sR]
      simp only [tb.I 38 1, tb.I 38 11, tb.I 38 12, tb.I 38 13, tb.cI 44, tb.cI 45, tb.I 38 21, tb.I 38 22, sa.I 1 0, sa.I 0 14, sa.I 0 15, sa.I 0 16, sa.cI 3, sa.cI 16]
      simpa using hf0
    · have hz : ∀ j, j < 12 → gI σa 2 j = gI τ 49 (19 * ((i + 39) % 40) + j) := by
        intro j hj
        by_cases c : j < R
        · rw [k3 j c, eI]
          unfold dgI
          have hd9 : dgN w j < 10 := Nat.mod_lt _ (by omega)
          rw [iZt (by omega)]; exact w3 j hj
        · rw [k4 j (by omega), r2 j hj (by omega)]
          exact hd.2 j hj (by omega)
      refine ⟨fun j hj => ⟨?_, ?_⟩, fun j hj hj2 => ?_⟩
      · rw [g_sI_c (by omega), l1 j (by omega), hz j hj]
      · rw [g_sI_c (by omega), hz j hj]; exact r1 j hj
      · rw [g_sI_ne (by omega), sa.I 1 0] at hj2
        rw [g_sI_c (by omega), hz j hj]; exact r2 j hj hj2
    · refine ⟨fun k hk => ?_, ?_⟩
      · rw [g_sI_ne (by omega), k6 k hk, r5 k hk, l1 (12 + k) (by omega), Nat.add_assoc, x64, jZ_i, iZ_self]
      · rw [g_sI_eq, e46, sa.I 0 13]
    · rw [gJ_sI, k5, r4, l2]
      rfl
    · refine ⟨?_, ?_, ?_, ?_, ?_, ?_⟩
      · rw [g_sI_ne (by omega), k2, l3, g_sI_ne (by omega), g_sI_eq, p1]
      · rw [g_sI_ne (by omega), k1, l4]
      · rw [g_sI_ne (by omega), k1]; unfold rg; rw [iZt (by omega)]; omega
      · rw [g_sI_ne (by omega), k2]; unfold rg; rw [hs2]; omega
      · have ej : gJ (sI σa 0 13 (gI σa 0 13 - 1)) 10 = gJ σa 10 := rfl
        rw [ej, g_sI_ne (by omega), sa.cJ 10, sa.I 1 0, tb.cI 49, tb.cJ 50]
        exact p5
      · intro t ht
        rw [g_sI_ne (by omega), k2, hs2] at ht
        rw [g_sI_ne (by omega), k1, iZt (by omega), Int.toNat_natCast, g_sI_eq, sa.I 0 13, tb.cI 49]
        have e1 : ((i + 39) % 40 + 39 - t) % 40 = (i + 39 - (t + 1)) % 40 := by omega
        rw [e1, p6 (t + 1) (by omega), nI_iZ, nI_iZ, ← iZs]
        generalize gI σ 0 13 = x
        generalize iZ (t : Int) = y
        rw [← iZ_self x, ← iZ_self y]
        have h1 : (1 : Int32) = iZ 1 := rfl
        rw [h1]
        simp only [iZ_add, iZ_sub]
        congr 1; omega
theorem m_undo {σ : St} (h : Act2 σ σ) : ∃ r σ1 σ2, f_X9_undo σ = some (r, σ1) ∧ f_X10_undo σ1 = some (r, σ2) ∧ Act2 σ2 σ2 := by
  by_cases hs : gI σ 9 2 = 0
  · refine ⟨-1, σ, σ, ?_, ?_, h⟩
    · unfold f_X9_undo f_X2_takeBack
      rw [if_pos hs]
      simp only [Option.bind_some, if_true]
    · unfold f_X10_undo
      rw [if_pos (by rw [h.2.2.2.2.1]; exact hs)]
  · obtain ⟨σ1, _, e1, _, _⟩ := s_undo2 h hs
    have s1 := (fr_X9_undo e1).same (C := C2M) (G := G2M) rfl
    obtain ⟨σ1', σ2, e2, e3, h3⟩ := s_undo2 (h.toR s1) hs
    have e4 : σ1' = σ1 := by
      have := e1.symm.trans e2
      injection this with this
      exact (congrArg Prod.snd this).symm
    subst e4
    have s2 := (fr_X10_undo e3).same (C := C2C) (G := G2C) rfl
    exact ⟨_, σ1', σ2, e1, e3, h3.toL s2⟩
