/-! AN ACT IS KEPT, then done, alike -/
theorem nI_iZ (t : Nat) : nI t = iZ (t : Int) := rfl
theorem past_step {σ τ σ' τ' : St} (h : Rpast2 σ τ) (hd : Rdig2 σ τ) (hn : Rnow2 σ τ) (hD : gJ τ 38 18 = gJ σ 1 6) (R : Nat) (hr : (gI σ 1 0).toInt = R) (hR : R ≤ 12) (i : Nat) (hi : i < 40) (e9 : gI σ 9 1 = iZ (i : Int))
    (a1 : gI σ' 9 1 = iZ (((i + 1) % 40 : Nat) : Int)) (a2 : gI σ' 9 2 = mnI (gI σ 9 2 + 1) 40) (a3 : gJ σ' 10 (8 * i) = jZ (vsum (dg σ 2) R)) (a4 : gJ σ' 10 (8 * i + 1) = gJ σ 1 6) (a5 : ∀ k, k < 6 → gJ σ' 10 (8 * i + 2 + k) = (gI σ 1 (7 + k)).toInt64) (a6 : ∀ j, (j < 8 * i ∨ 8 * i + 8 ≤ j) → gJ σ' 10 j = gJ σ 10 j) (a7 : gI σ' 1 0 = gI σ 1 0) (a8 : gI σ' 0 13 = gI σ 0 13 + 1)
    (b1 : gI τ' 38 28 = iZ (((i + 1) % 40 : Nat) : Int)) (b2 : gI τ' 38 27 = mnI 40 (gI τ 38 27 + 1)) (b3 : ∀ j, j < 19 → gI τ' 49 (19 * i + j) = gI τ 46 j) (b4 : ∀ j, (j < 19 * i ∨ 19 * i + 19 ≤ j) → gI τ' 49 j = gI τ 49 j) (b5 : gJ τ' 50 i = gJ τ 38 18) (b6 : ∀ j, j ≠ i → gJ τ' 50 j = gJ τ 50 j) : Rpast2 σ' τ' := by
  obtain ⟨h1, h2, h3, ⟨h4a, h4b⟩, h5, h6⟩ := h
  obtain ⟨d1, d2⟩ := hd
  obtain ⟨n1, n2⟩ := hn
  have hs : (gI σ 9 2 + 1).toInt = (gI σ 9 2).toInt + 1 := by rw [tadd (by rw [t_1]; omega) (by rw [t_1]; omega), t_1]
  have hm : (mnI (gI σ 9 2 + 1) 40).toInt = min ((gI σ 9 2).toInt + 1) 40 := by
    unfold mnI
    by_cases c : (40 : Int32) < gI σ 9 2 + 1
    · rw [if_pos c]; rw [lI, hs] at c; rw [t_40] at c ⊢; omega
    · rw [if_neg c]; rw [lI, hs] at c; rw [t_40] at c; rw [hs]; omega
  refine ⟨?_, ?_, ?_, ?_, ?_, ?_⟩
  · rw [b2, a2, h1, mn40]
  · rw [b1, a1]
  · rw [a1]; unfold rg; rw [iZt (by omega)]; omega
  · rw [a2]; unfold rg; rw [hm]; omega
  · intro i' hi'
    by_cases c : i' = i
    · subst c
      refine ⟨?_, ?_, ?_, ?_, ?_⟩
      · intro j hj
        rw [b3 j (by omega), (d1 j hj).1]; exact (d1 j hj).2
      · intro j hj hj2
        rw [a7] at hj2
        rw [b3 j (by omega), (d1 j hj).1]; exact d2 j hj hj2
      · rw [a3]
        congr 1
        have hz := vsum_hi (f := fun j => (gI τ' 49 (19 * i' + j)).toInt) (R := R) (12 - R) (fun j j1 j2 => by
          show (gI τ' 49 (19 * i' + j)).toInt = 0
          rw [b3 j (by omega), (d1 j (by omega)).1, d2 j (by omega) (by omega)]; rfl)
        rw [show R + (12 - R) = 12 by omega] at hz
        rw [hz]
        exact vsum_congr R (fun j hj => by
          show (gI σ 2 j).toInt = (gI τ' 49 (19 * i' + j)).toInt
          rw [b3 j (by omega), (d1 j (by omega)).1])
      · rw [a4, b5, hD]
      · intro k hk
        rw [a5 k hk, Nat.add_assoc, b3 (12 + k) (by omega), n1 k hk]
    · obtain ⟨r1, r2, r3, r4, r5⟩ := h5 i' hi'
      have o1 : ∀ j, j < 19 → gI τ' 49 (19 * i' + j) = gI τ 49 (19 * i' + j) := fun j hj => b4 _ (by omega)
      refine ⟨?_, ?_, ?_, ?_, ?_⟩
      · intro j hj; rw [o1 j (by omega)]; exact r1 j hj
      · intro j hj hj2
        rw [a7] at hj2
        rw [o1 j (by omega)]; exact r2 j hj hj2
      · rw [a6 _ (by omega), r3]
        congr 1
        exact vsum_congr 12 (fun j hj => by
          show (gI τ 49 (19 * i' + j)).toInt = (gI τ' 49 (19 * i' + j)).toInt
          rw [o1 j (by omega)])
      · rw [a6 _ (by omega), r4, b6 i' c]
      · intro k hk
        rw [a6 _ (by omega), r5 k hk, Nat.add_assoc, o1 (12 + k) (by omega)]
  · intro t ht
    rw [a2, hm] at ht
    rw [a1, iZt (by omega), a8]
    rw [Int.toNat_natCast]
    have ei : (gI σ 9 1).toInt.toNat = i := by rw [e9, iZt (by omega)]; rfl
    cases t with
    | zero =>
      have e1 : ((i + 1) % 40 + 39 - 0) % 40 = i := by omega
      rw [e1, b3 18 (by omega), n2, nI_iZ]
      show gI σ 0 13 = gI σ 0 13 + 1 - 1 - 0
      rw [Int32.sub_zero, Int32.add_sub_cancel]
    | succ t =>
      have e1 : ((i + 1) % 40 + 39 - (t + 1)) % 40 = (i + 39 - t) % 40 := by omega
      have e2 : ¬ (i + 39 - t) % 40 = i := by omega
      rw [e1, b4 _ (by omega)]
      have := h6 t (by omega)
      rw [ei] at this
      rw [this, nI_iZ, nI_iZ, ← iZs, Int32.add_sub_cancel]
      generalize gI σ 0 13 = x
      generalize iZ (t : Int) = y
      rw [← iZ_self x, ← iZ_self y]
      have h1 : (1 : Int32) = iZ 1 := rfl
      rw [h1]
      simp only [iZ_add, iZ_sub]
      congr 1; omega
theorem s_act2 {σ τ : St} (h : Act2 σ τ) (x : Int32) (v : Nat) (hv : v < 10 ^ 9) : ∃ σ' τ', f_X9_actOnce x (iZ (v : Int)) σ = some (gI σ' 0 13, σ') ∧ mAct x v τ = some τ' ∧ Act2 σ' τ' := by
  obtain ⟨hf, hd, hn, hD, hp⟩ := h
  have hf0 := hf
  obtain ⟨f1, ⟨f2a, f2b⟩, f3, f4, f5, f6, f7, f8, f9, f10⟩ := hf
  have hr : (gI σ 1 0).toInt = ((gI σ 1 0).toInt.toNat : Int) := by omega
  have hR : (gI σ 1 0).toInt.toNat ≤ 12 := by omega
  have eR : gI σ 1 0 = iZ ((gI σ 1 0).toInt.toNat : Int) := by rw [← hr, iZ_self]
  generalize (gI σ 1 0).toInt.toNat = R at hr hR eR
  obtain ⟨p3a, p3b⟩ := hp.2.2.1
  have e9 : gI σ 9 1 = iZ ((gI σ 9 1).toInt.toNat : Int) := iZof p3a
  have hi : (gI σ 9 1).toInt.toNat < 40 := by omega
  generalize (gI σ 9 1).toInt.toNat = i at e9 hi
  obtain ⟨σa, ka, k1, k2, k3, k4, k5, k6⟩ := c_keep hR hr hi e9
  have sa := (fr_X2_keep 1 ka).same (C := [2, 3, 4, 16]) (G := [(1, 0), (0, 13), (0, 14), (0, 15), (0, 16), (1, 6), (1, 7), (1, 8), (1, 9), (1, 10), (1, 11), (1, 12)]) rfl
  have rc : relC 1 R (gI σ 3) σa (gI σ 2, gI σ 4, gI σ 1 7, gI σ 1 8, gI σ 1 10, gI σ 1 11, gI σ 1 12) := by
    refine ⟨by rw [sa.I 1 0]; exact eR, fun j hj => ⟨by rw [sa.cI 2], by rw [sa.cI 3], by rw [sa.cI 4]⟩, sa.I 1 7, sa.I 1 8, sa.I 1 10, sa.I 1 11, sa.I 1 12⟩
  have hF : okF (gI σ 3) := f7
  have okV : okD (gI σ 2, gI σ 4, gI σ 1 7, gI σ 1 8, gI σ 1 10, gI σ 1 11, gI σ 1 12) := fun j hj => (hd.1 j hj).2
  have okW : okD (gI σ 2, gI τ 47, gI σ 1 7, gI σ 1 8, gI σ 1 10, gI σ 1 11, gI σ 1 12) := fun j hj => (hd.1 j hj).2
  obtain ⟨σb, ea, rb, mb, db⟩ := c_perf (t := gI σ 1 9 - gI σ 1 7 * gI σ 0 15 - gI σ 1 8 * gI σ 0 16) hR rc (by rw [sa.I 1 9]; exact mab _ _ _) (sa.I 0 14) (sa.I 0 15) (sa.I 0 16) x v hv
  rw [sa.cI 16, sa.J 1 6] at rb mb
  rw [sa.J 1 6] at db
  have sb := (fr_X9_perform_e 1 ea).same (C := [3, 16, 10]) (G := [(1, 0), (0, 13), (0, 14), (0, 15), (0, 16), (9, 1), (9, 2)]) rfl
  -- the model
  have e28 : gI τ 38 28 = iZ (i : Int) := by rw [hp.2.1, e9]
  obtain ⟨τa, la, l1, l2, l3, l4, l5, l6⟩ := m_keep hi e28
  have ta := (fr_X10_keep la).same (C := [44, 45, 46, 47]) (G := [(38, 1), (38, 11), (38, 12), (38, 13), (38, 21), (38, 22), (38, 18)]) rfl
  have rm : relM R (gI σ 3) (gI σ 0 15) (gI σ 0 16) (gI σ 0 13) (gI σ 1 9 - gI σ 1 7 * gI σ 0 15 - gI σ 1 8 * gI σ 0 16) τa (gI σ 2, gI τ 47, gI σ 1 7, gI σ 1 8, gI σ 1 10, gI σ 1 11, gI σ 1 12) := by
    refine ⟨by rw [ta.I 38 1, f1]; exact eR, by rw [ta.I 38 12]; exact f4, by rw [ta.I 38 13]; exact f5, fun j hj => ⟨by rw [ta.cI 46]; exact (hd.1 j hj).1, by rw [ta.cI 47]⟩, Or.inl ⟨by rw [ta.I 38 22]; exact f10, fun j hj => by rw [ta.cI 44, f6]⟩, ?_, ?_, ?_, ?_, ?_, ?_, ?_⟩
    · rw [ta.cI 46]; exact hn.1 0 (by omega)
    · rw [ta.cI 46]; exact hn.1 1 (by omega)
    · rw [ta.cI 46, hn.1 2 (by omega)]; exact mab _ _ _
    · rw [ta.cI 46]; exact hn.1 3 (by omega)
    · rw [ta.cI 46]; exact hn.1 4 (by omega)
    · rw [ta.cI 46]; exact hn.1 5 (by omega)
    · rw [ta.cI 46]; exact hn.2
  obtain ⟨τb, eb, rmb, okb, dmb⟩ := m_perf (E := gI σ 16) (od := gI σ 0 14) hR hF okW rm x v hv (by rw [ta.I 38 11]; exact f3) (by rw [ta.I 38 21]; exact f9) (by rw [ta.cI 45]; exact f8)
  rw [ta.J 38 18, hD] at rmb okb dmb
  have tb := (mAct1_fr eb).same (C := [44, 45, 49, 50]) (G := [(38, 1), (38, 11), (38, 12), (38, 13), (38, 21), (38, 22), (38, 27), (38, 28)]) rfl
  have hg : eqG (actE (gI σ 3) R (gI σ 16) (gJ σ 1 6) (gI σ 0 14) x v (gI σ 2, gI σ 4, gI σ 1 7, gI σ 1 8, gI σ 1 10, gI σ 1 11, gI σ 1 12)) (actE (gI σ 3) R (gI σ 16) (gJ σ 1 6) (gI σ 0 14) x v (gI σ 2, gI τ 47, gI σ 1 7, gI σ 1 8, gI σ 1 10, gI σ 1 11, gI σ 1 12)) := by
    have g0 : eqG (gI σ 2, gI σ 4, gI σ 1 7, gI σ 1 8, gI σ 1 10, gI σ 1 11, gI σ 1 12) (gI σ 2, gI τ 47, gI σ 1 7, gI σ 1 8, gI σ 1 10, gI σ 1 11, gI σ 1 12) := ⟨rfl, rfl⟩
    unfold actE
    by_cases c0 : x = 0
    · rw [if_pos c0, if_pos c0]; exact eqG.bring _ _ _ (g0.oi _ _)
    · rw [if_neg c0, if_neg c0]
      by_cases c1 : x = 1
      · rw [if_pos c1, if_pos c1]; exact eqG.bring _ _ _ (g0.oi _ _)
      · rw [if_neg c1, if_neg c1]; exact g0.act x
  have hhi : ∀ j, R ≤ j → (actE (gI σ 3) R (gI σ 16) (gJ σ 1 6) (gI σ 0 14) x v (gI σ 2, gI σ 4, gI σ 1 7, gI σ 1 8, gI σ 1 10, gI σ 1 11, gI σ 1 12)).1 j = gI σ 2 j := by
    intro j hj
    unfold actE
    have ht := top_le v R hR
    by_cases c0 : x = 0
    · rw [if_pos c0, bring_hi hj ht _ _ (by omega), ovIf_1]
    · rw [if_neg c0]
      by_cases c1 : x = 1
      · rw [if_pos c1, bring_hi hj ht _ _ (by omega), ovIf_1]
      · rw [if_neg c1, act_hi hj]
  generalize actE (gI σ 3) R (gI σ 16) (gJ σ 1 6) (gI σ 0 14) x v (gI σ 2, gI σ 4, gI σ 1 7, gI σ 1 8, gI σ 1 10, gI σ 1 11, gI σ 1 12) = V at rb mb hg hhi
  generalize actE (gI σ 3) R (gI σ 16) (gJ σ 1 6) (gI σ 0 14) x v (gI σ 2, gI τ 47, gI σ 1 7, gI σ 1 8, gI σ 1 10, gI σ 1 11, gI σ 1 12) = W at rmb okb hg
  obtain ⟨g1, g2⟩ := hg
  have w3 : V.2.2.1 = W.2.2.1 := by rw [g2]
  have w4 : V.2.2.2.1 = W.2.2.2.1 := by rw [g2]
  have w5 : V.2.2.2.2.1 = W.2.2.2.2.1 := by rw [g2]
  have w6 : V.2.2.2.2.2.1 = W.2.2.2.2.2.1 := by rw [g2]
  have w7 : V.2.2.2.2.2.2 = W.2.2.2.2.2.2 := by rw [g2]
  refine ⟨sI σb 0 13 (gI σb 0 13 + 1), τb, ?_, ?_, ?_⟩
  · unfold f_X9_actOnce
    simp only [ka, ea, Option.bind_some]
  · rw [mAct_0 x v f9 la]; exact eb
  · obtain ⟨r0, r1, r2, r3, r4, r5, r6⟩ := rb
    obtain ⟨q0, qp, qq, q1, qf, q2, q3, q4, q5, q6, q7, q8⟩ := rmb
    have e13 : gI σb 0 13 = gI σ 0 13 := by rw [sb.I 0 13, sa.I 0 13]
    refine ⟨?_, ?_, ?_, ?_, ?_⟩
    · refine hf0.to ⟨?_, ?_⟩ ⟨?_, ?_⟩
      · intro c hc b
        simp only [List.mem_cons, List.not_mem_nil, or_false] at hc
        have c0 : c ≠ 0 := by omega
        refine ⟨?_, ?_, ?_⟩
        · rw [g_sI_c c0]
          rcases hc with rfl | rfl
          · rw [sb.cI 3, sa.cI 3]
          · rw [sb.cI 16, sa.cI 16]
        · rw [gJ_sI]
          rcases hc with rfl | rfl
          · rw [sb.cJ 3, sa.cJ 3]
          · rw [sb.cJ 16, sa.cJ 16]
        · rw [gR_sI]
          rcases hc with rfl | rfl
          · rw [sb.cR 3, sa.cR 3]
          · rw [sb.cR 16, sa.cR 16]
      · intro g hg
        simp only [List.mem_cons, List.not_mem_nil, or_false] at hg
        rcases hg with rfl | rfl | rfl | rfl
        · exact ⟨by rw [g_sI_ne (by omega), sb.I 1 0, sa.I 1 0], by rw [gJ_sI, sb.J 1 0, sa.J 1 0], by rw [gR_sI, sb.R 1 0, sa.R 1 0]⟩
        · exact ⟨by rw [g_sI_ne (by omega), sb.I 0 14, sa.I 0 14], by rw [gJ_sI, sb.J 0 14, sa.J 0 14], by rw [gR_sI, sb.R 0 14, sa.R 0 14]⟩
        · exact ⟨by rw [g_sI_ne (by omega), sb.I 0 15, sa.I 0 15], by rw [gJ_sI, sb.J 0 15, sa.J 0 15], by rw [gR_sI, sb.R 0 15, sa.R 0 15]⟩
        · exact ⟨by rw [g_sI_ne (by omega), sb.I 0 16, sa.I 0 16], by rw [gJ_sI, sb.J 0 16, sa.J 0 16], by rw [gR_sI, sb.R 0 16, sa.R 0 16]⟩
      · intro c hc b
        simp only [List.mem_cons, List.not_mem_nil, or_false] at hc
        rcases hc with rfl | rfl
        · exact ⟨by rw [tb.cI 44, ta.cI 44], by rw [tb.cJ 44, ta.cJ 44], by rw [tb.cR 44, ta.cR 44]⟩
        · exact ⟨by rw [tb.cI 45, ta.cI 45], by rw [tb.cJ 45, ta.cJ 45], by rw [tb.cR 45, ta.cR 45]⟩
      · intro g hg
        simp only [List.mem_cons, List.not_mem_nil, or_false] at hg
        rcases hg with rfl | rfl | rfl | rfl | rfl | rfl
        · exact ⟨by rw [tb.I 38 1, ta.I 38 1], by rw [tb.J 38 1, ta.J 38 1], by rw [tb.R 38 1, ta.R 38 1]⟩
        · exact ⟨by rw [tb.I 38 11, ta.I 38 11], by rw [tb.J 38 11, ta.J 38 11], by rw [tb.R 38 11, ta.R 38 11]⟩
        · exact ⟨by rw [tb.I 38 12, ta.I 38 12], by rw [tb.J 38 12, ta.J 38 12], by rw [tb.R 38 12, ta.R 38 12]⟩
        · exact ⟨by rw [tb.I 38 13, ta.I 38 13], by rw [tb.J 38 13, ta.J 38 13], by rw [tb.R 38 13, ta.R 38 13]⟩
        · exact ⟨by rw [tb.I 38 21, ta.I 38 21], by rw [tb.J 38 21, ta.J 38 21], by rw [tb.R 38 21, ta.R 38 21]⟩
        · exact ⟨by rw [tb.I 38 22, ta.I 38 22], by rw [tb.J 38 22, ta.J 38 22], by rw [tb.R 38 22, ta.R 38 22]⟩
    · refine ⟨fun j hj => ⟨?_, ?_⟩, fun j hj hj2 => ?_⟩
      · rw [g_sI_c (by omega), (q1 j hj).1, (r1 j hj).1, g1]
      · rw [g_sI_c (by omega), (r1 j hj).1, g1]; exact okb j hj
      · rw [g_sI_ne (by omega), sb.I 1 0, sa.I 1 0, hr] at hj2
        rw [g_sI_c (by omega), (r1 j hj).1, hhi j (by omega)]
        exact hd.2 j hj (by rw [hr]; exact hj2)
    · refine ⟨fun k hk => ?_, ?_⟩
      · rw [g_sI_ne (by omega)]
        have hc : k = 0 ∨ k = 1 ∨ k = 2 ∨ k = 3 ∨ k = 4 ∨ k = 5 := by omega
        rcases hc with rfl | rfl | rfl | rfl | rfl | rfl
        · rw [q2, r2, w3]
        · rw [q3, r3, w4]
        · rw [q4, mb, w3, w4]
        · rw [q5, r4, w5]
        · rw [q6, r5, w6]
        · rw [q7, r6, w7]
      · rw [g_sI_eq, q8, e13]
    · rw [gJ_sI, dmb, db]
    · refine past_step hp hd hn hD R hr hR i hi e9 ?_ ?_ ?_ ?_ ?_ ?_ ?_ ?_ ?_ ?_ ?_ ?_ ?_ ?_
      · rw [g_sI_ne (by omega), sb.I 9 1]; exact k1
      · rw [g_sI_ne (by omega), sb.I 9 2]; exact k2
      · rw [gJ_sI, sb.cJ 10]; exact k3
      · rw [gJ_sI, sb.cJ 10]; exact k4
      · intro k hk; rw [gJ_sI, sb.cJ 10]; exact k5 k hk
      · intro j hj; rw [gJ_sI, sb.cJ 10]; exact k6 j hj
      · rw [g_sI_ne (by omega), sb.I 1 0, sa.I 1 0]
      · rw [g_sI_eq, e13]
      · rw [tb.I 38 28]; exact l1
      · rw [tb.I 38 27]; exact l2
      · intro j hj; rw [tb.cI 49]; exact l3 j hj
      · intro j hj; rw [tb.cI 49]; exact l4 j hj
      · rw [tb.cJ 50]; exact l5
      · intro j hj; rw [tb.cJ 50]; exact l6 j hj
