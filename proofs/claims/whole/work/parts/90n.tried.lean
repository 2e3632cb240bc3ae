/-! TRIED, NEEDS, HERD -/
def folP (F : Nat → Int32) (R : Nat) (od : Int32) : List (Int32 × Nat) → Vl → Vl
  | [], V => V
  | a :: L, V => folP F R od L (actP F R od a.1 a.2 V)
theorem shR.fol {a b c d : Int32} {F : Nat → Int32} {R : Nat} {od : Int32} : ∀ (L : List (Int32 × Nat)) {V W : Vl}, shR a b c d V W → shR a b c d (folP F R od L V) (folP F R od L W)
  | [], _, _, h => h
  | x :: L, _, _, h => shR.fol L (h.ap od x.1 x.2)
theorem chP_ok {R : Nat} {F : Nat → Int32} {t p q od : Int32} (hR : R ≤ 12) : ∀ (L : List (Int32 × Nat)), (∀ a ∈ L, a.2 < 10 ^ 9) → ∀ {σ : St} {V : Vl}, relC 5 R F σ V → gI σ 5 9 = t + V.2.2.1 * p + V.2.2.2.1 * q → gI σ 0 14 = od → gI σ 0 15 = p → gI σ 0 16 = q → ∃ σ', chP L σ = some σ' ∧ relC 5 R F σ' (folP F R od L V) ∧ gI σ' 5 9 = t + (folP F R od L V).2.2.1 * p + (folP F R od L V).2.2.2.1 * q
  | [], _, σ, V, h, e9, _, _, _ => ⟨σ, rfl, h, e9⟩
  | a :: L, hl, σ, V, h, e9, eo, ep, eq => by
    obtain ⟨σ1, e1, h1, m1⟩ := c_perfn (by omega) hR h e9 eo ep eq a.1 a.2 (hl a (List.mem_cons_self ..))
    have q1 := (fr_X9_perform_n 5 e1).same (C := []) (G := [(0, 14), (0, 15), (0, 16)]) rfl
    obtain ⟨σ2, e2, h2, m2⟩ := chP_ok (od := od) hR L (fun b hb => hl b (List.mem_cons_of_mem _ hb)) h1 m1 (by rw [q1.I 0 14]; exact eo) (by rw [q1.I 0 15]; exact ep) (by rw [q1.I 0 16]; exact eq)
    refine ⟨σ2, ?_, h2, m2⟩
    show (f_X9_perform_n 5 a.1 (iZ (a.2 : Int)) σ).bind _ = _
    rw [e1]; exact e2
theorem chM_ok {R : Nat} {F : Nat → Int32} {t p q od : Int32} (hR : R ≤ 12) (hF : okF F) : ∀ (L : List (Int32 × Nat)), (∀ a ∈ L, a.2 < 10 ^ 9) → ∀ {σ : St} {V : Vl} {a : Int32}, okD V → relM R F p q a t σ V → gI σ 38 11 = od → ¬ gI σ 38 21 = 0 → ∃ σ' a', chM L σ = some σ' ∧ relM R F p q a' t σ' (folP F R od L V) ∧ gJ σ' 38 18 = gJ σ 38 18 ∧ frm [46, 47, 48] [(38, 18)] σ σ'
  | [], _, σ, V, a, _, h, _, _ => ⟨σ, a, rfl, h, rfl, frm.rf _⟩
  | x :: L, hl, σ, V, a, ok, h, eo, ep => by
    obtain ⟨σ1, e1, h1, ok1, d1, f1⟩ := m_plain hR hF ok h x.1 x.2 (hl x (List.mem_cons_self ..)) eo ep
    have q1 := f1.same (C := []) (G := [(38, 11), (38, 21)]) rfl
    obtain ⟨σ2, a', e2, h2, d2, f2⟩ := chM_ok (od := od) hR hF L (fun b hb => hl b (List.mem_cons_of_mem _ hb)) ok1 h1 (by rw [q1.I 38 11]; exact eo) (by rw [q1.I 38 21]; exact ep)
    refine ⟨σ2, a', ?_, h2, d2.trans d1, f1.tr f2⟩
    show (mAct x.1 x.2 σ).bind _ = _
    rw [e1]; exact e2
def Side (σ σ2 : St) : Prop := frm [6, 7, 8, 46, 47, 48, 57] [(5, 0), (5, 7), (5, 8), (5, 9), (5, 10), (5, 11), (5, 12), (38, 11), (38, 18), (38, 21), (38, 22)] σ σ2 ∧ (∀ j, j < 19 → gI σ2 46 j = gI σ 46 j) ∧ gI σ2 38 11 = gI σ 38 11 ∧ (gI σ2 38 21 = gI σ 38 21 ∧ gI σ2 38 22 = gI σ 38 22 ∨ gI σ2 38 21 = 0 ∧ gI σ2 38 22 = 0) ∧ gJ σ2 38 18 = gJ σ 38 18
theorem mn4 (m a b p q W C : Int32) : m - a * p - b * q + (W + a) * p + (C + b) * q - m = 0 + W * p + C * q := by
  rw [Int32.add_mul, Int32.add_mul]
  generalize a * p = x
  generalize b * q = y
  generalize W * p = z
  generalize C * q = u
  rw [← iZ_self m, ← iZ_self x, ← iZ_self y, ← iZ_self z, ← iZ_self u]
  have h0 : (0 : Int32) = iZ 0 := rfl
  rw [h0]
  simp only [iZ_add, iZ_sub]
  congr 1; omega
theorem m_sideRun {R k n : Nat} {σ τ : St} (hR : R ≤ 12) (hF : okF (gI σ 3)) (ok : ∀ j, j < 12 → rg (gI σ 2 j) 0 9) (hd : ∀ j, j < 12 → gI τ 46 j = gI σ 2 j) (h1 : gI τ 38 1 = iZ (R : Int)) (h44 : gI τ 44 = gI σ 3) (hk6 : k < 7) {lt : Nat → Int32} {vl f : Nat → Nat} (okl : okL n lt vl f) (hm : isMm τ k n lt vl f) : ∃ τ1 τ2 τ3 a', f_X10_begin 0 τ = some τ1 ∧ f_X10_runOf (iZ (k : Int)) τ1 = some τ2 ∧ f_X10_over τ2 = some τ3 ∧ relM R (gI σ 3) (gI τ 38 12) (gI τ 38 13) a' (gI τ 46 14 - gI τ 46 12 * gI τ 38 12 - gI τ 46 13 * gI τ 38 13) τ2 (folP (gI σ 3) R (gI τ 38 11) (sumL lt vl f n 0) (gI σ 2, gI σ 2, gI τ 46 12, gI τ 46 13, gI τ 46 15, gI τ 46 16, gI τ 46 17)) ∧ (∀ j, j < 19 → gI τ2 57 j = gI τ 46 j) ∧ (∀ j, j < 19 → gI τ3 46 j = gI τ 46 j) ∧ gI τ3 38 21 = 0 ∧ gI τ3 38 22 = 0 ∧ gJ τ3 38 18 = gJ τ 38 18 ∧ gI τ3 47 = gI τ2 47 ∧ frm [46, 47, 48, 57] [(38, 18), (38, 21), (38, 22)] τ τ3 := by
  obtain ⟨τ1, e1, r1, k1, k2⟩ := m_begin0 hd h1 h44
  have s1 := (fr_X10_begin e1).same (C := [40, 41, 42, 43]) (G := []) rfl
  have s1' := (fr_X10_begin e1).same (C := []) (G := [(38, 11), (38, 18)]) rfl
  obtain ⟨τ2, a', e2, r2, d2, f2⟩ := chM_ok (od := gI τ 38 11) hR hF (sumL lt vl f n 0) (sumL_ok okl n 0 (by omega)) (show okD (gI σ 2, gI σ 2, gI τ 46 12, gI τ 46 13, gI τ 46 15, gI τ 46 16, gI τ 46 17) from ok) r1 (s1'.I 38 11) (by rw [k2, eI, t_1, t_0]; omega)
  obtain ⟨τ3, e3, a1, a2, a3⟩ := m_over τ2
  have sm := f2.same (C := [57]) (G := []) rfl
  refine ⟨τ1, τ2, τ3, a', e1, ?_, e3, r2, ?_, ?_, a2, a3, ?_, ?_, ?_⟩
  · rw [m_runOf hk6 okl (hm.to s1)]; exact e2
  · intro j hj
    rw [sm.cI 57, k1 j hj]
  · intro j hj
    rw [a1 j hj, sm.cI 57, k1 j hj]
  · have s3 := (fr_X10_over e3).same (C := []) (G := [(38, 18)]) rfl
    rw [s3.J 38 18, d2, s1'.J 38 18]
  · have s3 := (fr_X10_over e3).same (C := [47]) (G := []) rfl
    rw [s3.cI 47]
  · refine frm.tr ((fr_X10_begin e1).mo (by decide) (by decide)) (frm.tr (f2.mo (by decide) (by decide)) ((fr_X10_over e3).mo (by decide) (by decide)))
/-- what the side is at the end, on both sides -/
theorem side_pair {X : En} {R k s n : Nat} {σ : St} (hR : R ≤ 12) (eR : gI σ 1 0 = iZ (R : Int)) (a : Act2 σ σ) (hk6 : k < 7) {lt : Nat → Int32} {vl f : Nat → Nat} (okl : okL n lt vl f) (hs : isSm X σ s n lt vl f) (hm : isMm σ k n lt vl f) : ∃ p4 p5 τ1 τ2 τ3, f_X7_beginAs 5 1 σ = some p4 ∧ g_X9_goThrough s X p4 = some (X, p5) ∧ f_X10_begin 0 p5 = some τ1 ∧ f_X10_runOf (iZ (k : Int)) τ1 = some τ2 ∧ f_X10_over τ2 = some τ3 ∧ frm [6, 7, 8] [(5, 0), (5, 7), (5, 8), (5, 9), (5, 10), (5, 11), (5, 12)] σ p5 ∧ Side σ τ3 ∧ gI p5 5 0 = iZ (R : Int) ∧ gI τ2 38 1 = iZ (R : Int) ∧ (∀ j, j < 12 → gI τ2 46 j = gI p5 6 j ∧ gI τ3 47 j = gI p5 8 j) ∧ gI τ2 46 12 - gI τ2 57 12 = gI p5 5 7 ∧ gI τ2 46 13 - gI τ2 57 13 = gI p5 5 8 ∧ gI τ2 46 14 - gI τ2 57 14 = gI p5 5 9 ∧ gI τ2 46 16 - gI τ2 57 16 = gI p5 5 11 ∧ gI τ2 46 15 - gI τ2 57 15 = gI p5 5 10 := by
  obtain ⟨hf, hd, hn, hD, hp⟩ := a
  obtain ⟨f1, f2, f3, f4, f5, f6, f7, f8, f9, f10⟩ := hf
  obtain ⟨p4, e1, h1, m1⟩ := c_beginAs eR
  have q1 := (fr_X7_beginAs 5 1 e1).same (C := []) (G := [(0, 14), (0, 15), (0, 16)]) rfl
  have z9 : gI p4 5 9 = 0 + (V00 σ).2.2.1 * gI σ 0 15 + (V00 σ).2.2.2.1 * gI σ 0 16 := by
    rw [m1]
    show (0 : Int32) = 0 + 0 * gI σ 0 15 + 0 * gI σ 0 16
    rw [Int32.zero_mul, Int32.zero_mul, Int32.add_zero, Int32.add_zero]
  obtain ⟨p5, e2, h2, m2⟩ := chP_ok (od := gI σ 0 14) hR (sumL lt vl f n 0) (sumL_ok okl n 0 (by omega)) h1 z9 (q1.I 0 14) (q1.I 0 15) (q1.I 0 16)
  have fc : frm [6, 7, 8] [(5, 0), (5, 7), (5, 8), (5, 9), (5, 10), (5, 11), (5, 12)] σ p5 := ((fr_X7_beginAs 5 1 e1).mo (by decide) (by decide)).tr ((chP_fr _ e2).mo (by decide) (by decide))
  have e3 := c_goThrough okl (hs.to ((fr_X7_beginAs 5 1 e1).h72 rfl rfl)) e2
  have qs := fc.same (C := [2, 3, 44, 46]) (G := [(38, 1), (38, 11), (38, 12), (38, 13), (38, 21), (38, 22), (38, 18)]) rfl
  have qm := fc.same (C := [40, 41, 42, 43]) (G := []) rfl
  obtain ⟨τ1, τ2, τ3, a', g1, g2, g3, g4, g5, g6, g7, g8, g9, g10, g11⟩ := m_sideRun (σ := σ) (τ := p5) hR f7 (fun j hj => (hd.1 j hj).2) (fun j hj => by rw [qs.cI 46]; exact (hd.1 j hj).1) (by rw [qs.I 38 1, f1]; exact eR) (by rw [qs.cI 44]; exact f6) hk6 okl (hm.to qm)
  rw [qs.I 38 11, f3, qs.I 38 12, f4, qs.I 38 13, f5] at g4
  have sh := (sh_0 (σ := σ) (τ := σ) (gI p5 46 12) (gI p5 46 13) (gI p5 46 15) (gI p5 46 16) (gI p5 46 17)).fol (F := gI σ 3) (R := R) (od := gI σ 0 14) (sumL lt vl f n 0)
  generalize folP (gI σ 3) R (gI σ 0 14) (sumL lt vl f n 0) (V00 σ) = V at sh h2 m2
  generalize folP (gI σ 3) R (gI σ 0 14) (sumL lt vl f n 0) (gI σ 2, gI σ 2, gI p5 46 12, gI p5 46 13, gI p5 46 15, gI p5 46 16, gI p5 46 17) = W at sh g4
  obtain ⟨s1, s2, s3, s4, s5, s6⟩ := sh
  obtain ⟨r0, r1, r2, r3, r4, r5, r6⟩ := h2
  obtain ⟨w0, wp, wq, w1, wf, w2, w3, w4, w5, w6, w7, w8⟩ := g4
  refine ⟨p4, p5, τ1, τ2, τ3, e1, e3, g1, g2, g3, fc, ⟨?_, ?_, ?_, Or.inr ⟨g7, g8⟩, ?_⟩, r0, w0, ?_, ?_, ?_, ?_, ?_, ?_⟩
  · exact (fc.mo (by decide) (by decide)).tr (g11.mo (by decide) (by decide))
  · intro j hj
    rw [g6 j hj, qs.cI 46]
  · rw [(g11.same (C := []) (G := [(38, 11)]) rfl).I 38 11, qs.I 38 11]
  · rw [g9, qs.J 38 18]
  · intro j hj
    refine ⟨?_, ?_⟩
    · rw [(w1 j hj).1, (r1 j hj).1, s1]
    · rw [g10, (w1 j hj).2, (r1 j hj).2.2, s2]
  · rw [w2, g5 12 (by omega), r2, s3, Int32.add_sub_cancel]
  · rw [w3, g5 13 (by omega), r3, s4, Int32.add_sub_cancel]
  · rw [w4, g5 14 (by omega), m2, s3, s4]
    exact mn4 _ _ _ _ _ _ _
  · rw [w6, g5 16 (by omega), r5, s6, Int32.add_sub_cancel]
  · rw [w5, g5 15 (by omega), r4, s5, Int32.add_sub_cancel]
theorem n_5 : (5 : Int64).toInt = 5 := rfl
theorem Side.rf (σ : St) : Side σ σ := ⟨frm.rf _, fun _ _ => rfl, rfl, Or.inl ⟨rfl, rfl⟩, rfl⟩
theorem m_tried {X : En} {σ : St} (x y : Int32) (hs : Rsum X σ) (h : Act2 σ σ) : ∃ r σ1 σ2, g_X9_tried x y X σ = some (r, X, σ1) ∧ f_X10_tried x y σ1 = some (r, σ2) ∧ Side σ σ2 := by
  unfold g_X9_tried g_X9_tried_b g_X9_tried_19
  rw [s_sumAt x hs]
  simp only [Option.bind_some]
  have no : ∀ τ : St, gI τ 38 10 = gI σ 0 7 → gI τ 0 7 = gI σ 0 7 → f_X10_isSum x τ = some (bZ (0 ≤ x.toInt ∧ x.toInt < (gI σ 0 7).toInt), τ) := by
    intro τ a b
    rw [s_isSum (X := X) x (by rw [a, b]) (by rw [b]; exact hs.2.1), b]
  by_cases c : 0 ≤ x.toInt ∧ x.toInt < (gI σ 0 7).toInt
  · obtain ⟨h6a, h6b⟩ := hs.2.1
    obtain ⟨s, n, lt, vl, f, a1, a2, a3, a4, a5⟩ := hs.2.2 x.toInt.toNat (by omega)
    have ex := iZof c.1
    rw [if_pos c, a1]
    have hk := rk_t (X := X) a3.1 (by have := a3.2.1; omega) a3.2.2.1
    simp only [mR, gd_t hk, lI, leI, t_0, t_5]
    by_cases cy : 0 ≤ y.toInt ∧ y.toInt ≤ 5
    · rw [if_neg (by omega), if_pos (by omega)]
      obtain ⟨f1, ⟨f2a, f2b⟩, _⟩ := h.1
      have hr : (gI σ 1 0).toInt = ((gI σ 1 0).toInt.toNat : Int) := by omega
      have hR : (gI σ 1 0).toInt.toNat ≤ 12 := by omega
      have eR : gI σ 1 0 = iZ ((gI σ 1 0).toInt.toNat : Int) := by rw [← hr, iZ_self]
      generalize (gI σ 1 0).toInt.toNat = R at hr hR eR
      obtain ⟨p4, p5, τ1, τ2, τ3, b1, b2, b3, b4, b5, b6, b7, b8, b9, b10, b11, b12, b13, b14, b15⟩ := side_pair hR eR h (show x.toInt.toNat < 7 by omega) a5 a3 a4
      rw [← ex] at b4
      have q3 := b6.same (C := []) (G := [(38, 10), (0, 7)]) rfl
      rw [b1]
      simp only [Option.bind_some]
      rw [b2]
      simp only [Option.bind_some, gd_t hk]
      have fin : ∀ r : Int64, f_X10_tried_102 r τ2 = some (r, τ3) := by
        intro r
        unfold f_X10_tried_102
        rw [b5]; rfl
      have head : f_X10_tried x y p5 = (if y = 1 then f_X10_tried_76 y 12 τ2 else if y = 2 then f_X10_tried_76 y 13 τ2 else if y = 3 then f_X10_tried_76 y 14 τ2 else if y = 4 then f_X10_tried_76 y 16 τ2 else f_X10_tried_76 y 15 τ2) := by
        unfold f_X10_tried f_X10_tried_20
        rw [no p5 (by rw [q3.I 38 10]; exact hs.1) (q3.I 0 7)]
        simp only [Option.bind_some, bZ_0, if_neg (not_not_intro c), s_in, t64, l_0, n_5, if_neg (not_not_intro cy)]
        rw [b3]
        simp only [Option.bind_some]
        rw [b4]
        simp only [Option.bind_some]
      have cell : ∀ (z : Int32) (i : Nat), z = iZ (i : Int) → i < 19 → ¬ y = 0 → f_X10_tried_76 y z τ2 = some ((gI τ2 46 i - gI τ2 57 i).toInt64, τ3) := by
        intro z i hz hi hy
        unfold f_X10_tried_76
        rw [if_neg hy, hz, gd_t (iZb hi (by omega)), gd_t (iZb hi (by omega)), iZc (by omega)]
        exact fin _
      have hc : y = 0 ∨ y = 1 ∨ y = 2 ∨ y = 3 ∨ y = 4 ∨ y = 5 := by
        simp only [eI, t_0, t_1, t_2, t_3, t_4, t_5, t_6, t_7, t_8, t_9, t_10, t_11, t_12, t_13, t_18, t_19, t_20, t_31, t_32, t_40, t_48, t_57, t_99, t_100, t_160, t_255, t_511, t_999, t_1000, t_9999, t_100000, t_999999999, t_2147483647, t_m1, t_m2, l_0, l_1, l_2, l_3, l_5, l_6, l_9, l_10, l_12, l_99, l_100, l_511, l_999, l_1000, l_9999, l_1000000, l_999999999, l_1000000000000, l_1000000000000000000, l_m1]; omega
      have v5 := s_value 5 p5 R hR (by rw [b8, iZt (by omega)])
      have v10 := s_number τ2 R hR (by rw [b9, iZt (by omega)])
      have ev : vsum (dg p5 6) R = vsum (dg τ2 46) R := vsum_congr R (fun j hj => by
        show (gI p5 6 j).toInt = (gI τ2 46 j).toInt
        rw [(b10 j (by omega)).1])
      rcases hc with rfl | rfl | rfl | rfl | rfl | rfl
      · refine ⟨jZ (vsum (dg p5 6) R), p5, τ3, ?_, ?_, b7⟩
        · rw [if_pos rfl, v5]
          simp only [Option.bind_some]
          rw [wrp]
        · rw [head, if_neg (by decide), if_neg (by decide), if_neg (by decide), if_neg (by decide)]
          unfold f_X10_tried_76
          rw [if_pos rfl, v10, ev]
          exact fin _
      · refine ⟨(gI p5 5 7).toInt64, p5, τ3, ?_, ?_, b7⟩
        · rw [if_neg (by decide), if_pos rfl]
          simp only [Option.bind_some]
          rw [wrp]
        · rw [head, if_pos rfl, cell 12 12 rfl (by omega) (by decide), b11]
      · refine ⟨(gI p5 5 8).toInt64, p5, τ3, ?_, ?_, b7⟩
        · rw [if_neg (by decide), if_neg (by decide), if_pos rfl]
          simp only [Option.bind_some]
          rw [wrp]
        · rw [head, if_neg (by decide), if_pos rfl, cell 13 13 rfl (by omega) (by decide), b12]
      · refine ⟨(gI p5 5 9).toInt64, p5, τ3, ?_, ?_, b7⟩
        · rw [if_neg (by decide), if_neg (by decide), if_neg (by decide), if_pos rfl]
          simp only [Option.bind_some]
          rw [wrp]
        · rw [head, if_neg (by decide), if_neg (by decide), if_pos rfl, cell 14 14 rfl (by omega) (by decide), b13]
      · refine ⟨(gI p5 5 11).toInt64, p5, τ3, ?_, ?_, b7⟩
        · rw [if_neg (by decide), if_neg (by decide), if_neg (by decide), if_neg (by decide), if_pos rfl]
          simp only [Option.bind_some]
          rw [wrp]
        · rw [head, if_neg (by decide), if_neg (by decide), if_neg (by decide), if_pos rfl, cell 16 16 rfl (by omega) (by decide), b14]
      · refine ⟨(gI p5 5 10).toInt64, p5, τ3, ?_, ?_, b7⟩
        · rw [if_neg (by decide), if_neg (by decide), if_neg (by decide), if_neg (by decide), if_neg (by decide)]
          simp only [Option.bind_some]
          rw [wrp]
        · rw [head, if_neg (by decide), if_neg (by decide), if_neg (by decide), if_neg (by decide), cell 15 15 rfl (by omega) (by decide), b15]
    · refine ⟨-1, σ, σ, ?_, ?_, Side.rf σ⟩
      · by_cases c2 : y.toInt < 0
        · rw [if_pos c2]
          simp only [Option.bind_some]
          rw [wrp]
        · rw [if_neg c2, if_neg (by omega)]
          simp only [Option.bind_some]
          rw [wrp]
      · unfold f_X10_tried f_X10_tried_20
        rw [no σ hs.1 rfl]
        simp only [Option.bind_some, bZ_0, if_neg (not_not_intro c), s_in, t64, l_0, n_5, if_pos cy]
  · rw [if_neg c]
    refine ⟨-1, σ, σ, ?_, ?_, Side.rf σ⟩
    · show ((some (-1, X, σ)).bind _) = _
      simp only [Option.bind_some]
      rw [wrp]
    · unfold f_X10_tried f_X10_tried_20
      rw [no σ hs.1 rfl]
      simp only [Option.bind_some, bZ_0, if_pos c]
theorem m_needs {X : En} {σ : St} (x y : Int32) (hs : Rsum X σ) (h : Act2 σ σ) : ∃ r σ1 σ2, g_X9_needs x y X σ = some (r, X, σ1) ∧ f_X10_needs x y σ1 = some (r, σ2) ∧ Side σ σ2 := by
  unfold g_X9_needs g_X9_needs_b g_X9_needs_18 f_X10_needs f_X10_needs_16
  rw [s_sumAt x hs]
  simp only [Option.bind_some]
  obtain ⟨f1, ⟨f2a, f2b⟩, _⟩ := h.1
  have no : ∀ τ : St, gI τ 38 10 = gI σ 0 7 → gI τ 0 7 = gI σ 0 7 → f_X10_isSum x τ = some (bZ (0 ≤ x.toInt ∧ x.toInt < (gI σ 0 7).toInt), τ) := by
    intro τ a b
    rw [s_isSum (X := X) x (by rw [a, b]) (by rw [b]; exact hs.2.1), b]
  by_cases c : 0 ≤ x.toInt ∧ x.toInt < (gI σ 0 7).toInt
  · obtain ⟨h6a, h6b⟩ := hs.2.1
    obtain ⟨s, n, lt, vl, f, a1, a2, a3, a4, a5⟩ := hs.2.2 x.toInt.toNat (by omega)
    have ex := iZof c.1
    rw [if_pos c, a1]
    have hk := rk_t (X := X) a3.1 (by have := a3.2.1; omega) a3.2.2.1
    simp only [mR, gd_t hk, s_isRope9, Option.bind_some, bZ_0]
    by_cases cy : 0 ≤ y.toInt ∧ y.toInt < (gI σ 1 0).toInt
    · rw [if_neg (not_not_intro cy)]
      have hr : (gI σ 1 0).toInt = ((gI σ 1 0).toInt.toNat : Int) := by omega
      have hR : (gI σ 1 0).toInt.toNat ≤ 12 := by omega
      have eR : gI σ 1 0 = iZ ((gI σ 1 0).toInt.toNat : Int) := by rw [← hr, iZ_self]
      generalize (gI σ 1 0).toInt.toNat = R at hr hR eR
      obtain ⟨p4, p5, τ1, τ2, τ3, b1, b2, b3, b4, b5, b6, b7, b8, b9, b10, b11, b12, b13, b14, b15⟩ := side_pair hR eR h (show x.toInt.toNat < 7 by omega) a5 a3 a4
      rw [← ex] at b4
      have q3 := b6.same (C := []) (G := [(38, 10), (0, 7), (38, 1)]) rfl
      have ec : y.toNatClampNeg = y.toInt.toNat := rfl
      rw [b1]
      simp only [Option.bind_some]
      rw [b2]
      simp only [Option.bind_some, gd_t hk]
      refine ⟨gI p5 8 y.toNatClampNeg, p5, τ3, ?_, ?_, b7⟩
      · rw [gd_t (inb_i cy.1 (by omega))]
        simp only [Option.bind_some]
        rw [wrp]
      · rw [no p5 (by rw [q3.I 38 10]; exact hs.1) (q3.I 0 7)]
        simp only [Option.bind_some, bZ_0, if_neg (not_not_intro c)]
        rw [s_isRope10 _ _ (by rw [q3.I 38 1, f1]; omega), q3.I 38 1, f1]
        simp only [Option.bind_some, bZ_0, if_neg (not_not_intro cy)]
        rw [b3]
        simp only [Option.bind_some]
        rw [b4]
        simp only [Option.bind_some]
        rw [b5]
        simp only [Option.bind_some]
        rw [gd_t (inb_i cy.1 (by omega)), (b10 y.toNatClampNeg (by rw [ec]; omega)).2]
    · rw [if_pos cy]
      refine ⟨-1, σ, σ, ?_, ?_, Side.rf σ⟩
      · simp only [Option.bind_some]
        rw [wrp]
      · rw [no σ hs.1 rfl]
        simp only [Option.bind_some, bZ_0, if_neg (not_not_intro c)]
        rw [s_isRope10 _ _ (by rw [f1]; omega), f1]
        simp only [Option.bind_some, bZ_0, if_pos cy]
  · rw [if_neg c]
    refine ⟨-1, σ, σ, ?_, ?_, Side.rf σ⟩
    · show ((some (-1, X, σ)).bind _) = _
      simp only [Option.bind_some]
      rw [wrp]
    · rw [no σ hs.1 rfl]
      simp only [Option.bind_some, bZ_0, if_pos c]
