/-! HERD -/
theorem bnd {α β : Type} {x : Option α} {a : α} {f : α → Option β} (h : x = some a) : x.bind f = f a := by rw [h]; rfl
abbrev VZ : Vl := (fun _ => 0, fun _ => 0, 0, 0, 0, 0, 0)
theorem m_begin1 {R : Nat} {τ : St} (h1 : gI τ 38 1 = iZ (R : Int)) : ∃ τ', f_X10_begin 1 τ = some τ' ∧ relM R (fun _ => 9) (gI τ 38 12) (gI τ 38 13) 0 0 τ' VZ ∧ (∀ j, j < 19 → gI τ' 57 j = gI τ 46 j) ∧ gI τ' 38 21 = 1 := by
  obtain ⟨τ', e1, a1, a2, a3, a4, a5⟩ := m_begin τ 1 (Or.inr rfl)
  have sm := (fr_X10_begin e1).same (C := []) (G := [(38, 1), (38, 12), (38, 13)]) rfl
  have z : ∀ j, j < 19 → gI τ' 46 j = 0 := fun j hj => (a1 j hj).2
  refine ⟨τ', e1, ⟨by rw [sm.I 38 1]; exact h1, sm.I 38 12, sm.I 38 13, fun j hj => ⟨z j (by omega), by rw [a2 j hj]; exact z j (by omega)⟩, Or.inr ⟨by rw [a5, eI, t_1, t_0]; omega, fun j hj => rfl⟩, z 12 (by omega), z 13 (by omega), ?_, z 15 (by omega), z 16 (by omega), z 17 (by omega), z 18 (by omega)⟩, fun j hj => (a1 j hj).1, a4⟩
  rw [z 14 (by omega)]
  show (0 : Int32) = 0 + 0 * gI τ 38 12 + 0 * gI τ 38 13
  rw [Int32.zero_mul, Int32.zero_mul, Int32.add_zero, Int32.add_zero]
theorem c_herd_go {X : En} {σ : St} {R : Nat} (hR : R ≤ 12) (hr : gI σ 5 0 = iZ (R : Int)) : ∀ m n k : Nat, ∀ x : Int32, k + m = R → m < n → g_X9_herd_36 n x (iZ (k : Int)) X σ = some (x + s32 (gI σ 8) m k, X, σ) := by
  intro m
  induction m with
  | zero =>
    intro n k x e hn
    cases n with
    | zero => omega
    | succ n =>
      rw [g_X9_herd_36, if_pos (by rw [leI, hr, iZt (by omega), iZt (by omega)]; omega)]
      show _ = some (x + 0, X, σ)
      rw [Int32.add_zero]
  | succ m ih =>
    intro n k x e hn
    cases n with
    | zero => omega
    | succ n =>
      rw [g_X9_herd_36, if_neg (by rw [leI, hr, iZt (by omega), iZt (by omega)]; omega), gd_t (iZb (show k < 12 by omega) (by omega)), iZc (by omega)]
      unfold g_X9_herd_61
      rw [iZs, ih n (k + 1) _ (by omega) (by omega), Int32.add_assoc]
      rfl
theorem m_herd_go {σ : St} {R : Nat} (hR : R ≤ 12) (hr : gI σ 38 1 = iZ (R : Int)) : ∀ m n k : Nat, ∀ x : Int32, k + m = R → m < n → f_X10_herd_28 n x (iZ (k : Int)) σ = some (x + s32 (gI σ 47) m k, σ) := by
  intro m
  induction m with
  | zero =>
    intro n k x e hn
    cases n with
    | zero => omega
    | succ n =>
      rw [f_X10_herd_28, if_pos (by rw [leI, hr, iZt (by omega), iZt (by omega)]; omega)]
      show _ = some (x + 0, σ)
      rw [Int32.add_zero]
  | succ m ih =>
    intro n k x e hn
    cases n with
    | zero => omega
    | succ n =>
      rw [f_X10_herd_28, if_neg (by rw [leI, hr, iZt (by omega), iZt (by omega)]; omega), gd_t (iZb (show k < 12 by omega) (by omega)), iZc (by omega)]
      unfold f_X10_herd_45
      rw [iZs, ih n (k + 1) _ (by omega) (by omega), Int32.add_assoc]
      rfl
theorem c_herd_all {X : En} {σ : St} {R : Nat} (hR : R ≤ 12) (hr : gI σ 5 0 = iZ (R : Int)) : g_X9_herd_36 FU 0 0 X σ = some (0 + s32 (gI σ 8) R 0, X, σ) :=
  c_herd_go hR hr R FU 0 0 (by omega) (by unfold FU; omega)
theorem m_herd_all {σ : St} {R : Nat} (hR : R ≤ 12) (hr : gI σ 38 1 = iZ (R : Int)) : f_X10_herd_28 FU 0 0 σ = some (0 + s32 (gI σ 47) R 0, σ) :=
  m_herd_go hR hr R FU 0 0 (by omega) (by unfold FU; omega)
theorem m_herd {X : En} {σ : St} (x : Int32) (hs : Rsum X σ) (h : Act2 σ σ) : ∃ r σ1 σ2, g_X9_herd x X σ = some (r, X, σ1) ∧ f_X10_herd x σ1 = some (r, σ2) ∧ Side σ σ2 := by
  unfold g_X9_herd g_X9_herd_b f_X10_herd
  rw [s_sumAt x hs]
  simp only [Option.bind_some]
  have no : ∀ τ : St, gI τ 38 10 = gI σ 0 7 → gI τ 0 7 = gI σ 0 7 → f_X10_isSum x τ = some (bZ (0 ≤ x.toInt ∧ x.toInt < (gI σ 0 7).toInt), τ) := by
    intro τ a b
    rw [s_isSum (X := X) x (by rw [a, b]) (by rw [b]; exact hs.2.1), b]
  by_cases c : 0 ≤ x.toInt ∧ x.toInt < (gI σ 0 7).toInt
  · obtain ⟨h6a, h6b⟩ := hs.2.1
    obtain ⟨s, n, lt, vl, f, a1, a2, a3, a4, a5⟩ := hs.2.2 x.toInt.toNat (by omega)
    have ex := iZof c.1
    rw [if_pos c, a1]
    have hk := rk_t (X := X) a3.1 (by have := a3.2.1; omega) a3.2.2.1
    simp only [mR, gd_t hk]
    obtain ⟨f1, ⟨f2a, f2b⟩, f3, f4, f5, f6, f7, f8, f9, f10⟩ := h.1
    have hr : (gI σ 1 0).toInt = ((gI σ 1 0).toInt.toNat : Int) := by omega
    have hR : (gI σ 1 0).toInt.toNat ≤ 12 := by omega
    have eR : gI σ 1 0 = iZ ((gI σ 1 0).toInt.toNat : Int) := by rw [← hr, iZ_self]
    generalize (gI σ 1 0).toInt.toNat = R at hr hR eR
    have hF : okF (fun _ => 9) := fun j _ => by unfold rg; rw [t_9]; omega
    have hl := sumL_ok a5 n 0 (by omega)
    obtain ⟨p4, e1, h1, m1⟩ := c_clear (o := 5) R σ
    rw [eR, e1]
    simp only [Option.bind_some]
    have q1 := (fr_X7_clear 5 e1).same (C := []) (G := [(0, 14), (0, 15), (0, 16)]) rfl
    have z9 : gI p4 5 9 = 0 + VZ.2.2.1 * gI σ 0 15 + VZ.2.2.2.1 * gI σ 0 16 := by
      rw [m1]
      show (0 : Int32) = 0 + 0 * gI σ 0 15 + 0 * gI σ 0 16
      rw [Int32.zero_mul, Int32.zero_mul, Int32.add_zero, Int32.add_zero]
    obtain ⟨p5, e2, h2, m2⟩ := chP_ok (od := gI σ 0 14) hR (sumL lt vl f n 0) hl h1 z9 (q1.I 0 14) (q1.I 0 15) (q1.I 0 16)
    have fc : frm [6, 7, 8] [(5, 0), (5, 7), (5, 8), (5, 9), (5, 10), (5, 11), (5, 12)] σ p5 := ((fr_X7_clear 5 e1).mo (by decide) (by decide)).tr ((chP_fr _ e2).mo (by decide) (by decide))
    have e3 := c_goThrough a5 (a3.to ((fr_X7_clear 5 e1).h72 rfl rfl)) e2
    rw [e3]
    simp only [Option.bind_some, gd_t hk]
    have qs := fc.same (C := [46]) (G := [(38, 1), (38, 11), (38, 12), (38, 13), (38, 18), (38, 10), (0, 7)]) rfl
    have qm := fc.same (C := [40, 41, 42, 43]) (G := []) rfl
    obtain ⟨τ1, g1, g2, g3, g4⟩ := m_begin1 (τ := p5) (R := R) (by rw [qs.I 38 1, f1]; exact eR)
    have t1 := (fr_X10_begin g1).same (C := [40, 41, 42, 43]) (G := []) rfl
    have t1' := (fr_X10_begin g1).same (C := []) (G := [(38, 11), (38, 18)]) rfl
    obtain ⟨τ2, a', g5, g6, g7, g8⟩ := chM_ok (od := gI σ 0 14) hR hF (sumL lt vl f n 0) hl (show okD VZ from fun j _ => by unfold rg; show 0 ≤ (0 : Int32).toInt ∧ (0 : Int32).toInt ≤ 9; rw [t_0]; omega) g2 (by rw [t1'.I 38 11, qs.I 38 11]; exact f3) (by rw [g4, eI, t_1, t_0]; omega)
    obtain ⟨τ3, o1, o2, o3, o4⟩ := m_over τ2
    have sm := g8.same (C := [57]) (G := []) rfl
    have s3 := (fr_X10_over o1).same (C := [47]) (G := [(38, 1), (38, 18), (38, 11)]) rfl
    have s8 := g8.same (C := []) (G := [(38, 11)]) rfl
    have e5 : f_X10_runOf x τ1 = some τ2 := by
      rw [ex, m_runOf (by omega) a5 ((a4.to qm).to t1)]; exact g5
    have es : s32 (gI p5 8) R 0 = s32 (gI τ3 47) R 0 := s32_cg R 0 (fun j j1 j2 => by
      rw [s3.cI 47, (g6.2.2.2.1 j (by omega)).2, (h2.2.1 j (by omega)).2.2])
    have hc' := c_herd_all (X := X) hR h2.1
    have hm' := m_herd_all (σ := τ3) hR (by rw [s3.I 38 1]; exact g6.1)
    refine ⟨0 + s32 (gI p5 8) R 0, p5, τ3, ?_, ?_, ?_, ?_, ?_, Or.inr ⟨o3, o4⟩, ?_⟩
    · rw [hc']
      simp only [Option.bind_some]
      rw [wrp]
    · rw [bnd (no p5 (by rw [qs.I 38 10]; exact hs.1) (qs.I 0 7)), if_neg (by show ¬ bZ _ = 0; rw [bZ_0]; exact not_not_intro c), bnd g1, bnd e5, bnd o1, hm', es]
    · exact (fc.mo (by decide) (by decide)).tr (((fr_X10_begin g1).mo (by decide) (by decide)).tr ((g8.mo (by decide) (by decide)).tr ((fr_X10_over o1).mo (by decide) (by decide))))
    · intro j hj
      rw [o2 j hj, sm.cI 57, g3 j hj, qs.cI 46]
    · rw [s3.I 38 11, s8.I 38 11, t1'.I 38 11, qs.I 38 11]
    · rw [s3.J 38 18, g7, t1'.J 38 18, qs.J 38 18]
  · rw [if_neg c]
    refine ⟨-1, σ, σ, ?_, ?_, Side.rf σ⟩
    · show ((some (-1, X, σ)).bind _) = _
      simp only [Option.bind_some]
      rw [wrp]
    · rw [no σ hs.1 rfl]
      simp only [Option.bind_some, bZ_0, if_pos c]
