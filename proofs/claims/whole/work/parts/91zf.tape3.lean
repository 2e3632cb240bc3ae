/-! ONE STEP, BOTH SIDES -/
theorem toC_all : ∀ n : Fin 256, toC (iZ (n.1 : Int)) = iZ (n.1 : Int) := by decide +kernel
theorem toC_id {x : Int32} (h : rg x 0 255) : toC x = x := by
  obtain ⟨h1, h2⟩ := h
  rw [iZof h1]
  exact toC_all ⟨x.toInt.toNat, by omega⟩
theorem ixo_m1 : ixo (-1) = -1 := by decide
theorem ixo_rg (c : Int32) : ixo c = -1 ∨ rg (ixo c) 0 4 := by
  unfold ixo
  by_cases h1 : c = 97
  · rw [if_pos h1]; right; unfold rg; rw [t_0]; omega
  rw [if_neg h1]
  by_cases h2 : c = 116
  · rw [if_pos h2]; right; unfold rg; rw [t_1]; omega
  rw [if_neg h2]
  by_cases h3 : c = 100
  · rw [if_pos h3]; right; unfold rg; rw [t_2]; omega
  rw [if_neg h3]
  by_cases h4 : c = 104
  · rw [if_pos h4]; right; unfold rg; rw [t_3]; omega
  rw [if_neg h4]
  by_cases h5 : c = 122
  · rw [if_pos h5]; right; unfold rg; rw [t_4]; omega
  rw [if_neg h5]; left; rfl
theorem ch_ixo (x : Int32) (c : Int32) (τ : St) : (if c = 97 then (f_X10_stepOf_56 x 0 τ) else (if c = 116 then (f_X10_stepOf_56 x 1 τ) else (if c = 100 then (f_X10_stepOf_56 x 2 τ) else (if c = 104 then (f_X10_stepOf_56 x 3 τ) else (if c = 122 then (f_X10_stepOf_56 x 4 τ) else (f_X10_stepOf_56 x (-1) τ)))))) = f_X10_stepOf_56 x (ixo c) τ := by
  unfold ixo
  by_cases h1 : c = 97
  · rw [if_pos h1, if_pos h1]
  rw [if_neg h1, if_neg h1]
  by_cases h2 : c = 116
  · rw [if_pos h2, if_pos h2]
  rw [if_neg h2, if_neg h2]
  by_cases h3 : c = 100
  · rw [if_pos h3, if_pos h3]
  rw [if_neg h3, if_neg h3]
  by_cases h4 : c = 104
  · rw [if_pos h4, if_pos h4]
  rw [if_neg h4, if_neg h4]
  by_cases h5 : c = 122
  · rw [if_pos h5, if_pos h5]
  rw [if_neg h5, if_neg h5]
theorem c_97 {X : En} {T : Nat → Int32} {N b i : Nat} {σ : St} (hT : okTp T N) (hi : i < 12) (hb : b ≤ N) (h : At9 T N b σ) :
    ∃ e σ', g_X5_readStep_97 (iZ ((3 * i : Nat) : Int)) X σ = some (e, X, σ') ∧ frm [] [(11, 4), (13, 3 * i + 2)] σ σ' ∧
    ((¬ (b < N ∧ T b = 120) ∧ e = 1 ∧ σ' = σ) ∨
     ((b < N ∧ T b = 120) ∧ odT T N (sk T N (b + 1)) ∧ e = 1 ∧ At9 T N (sk T N (sk T N (b + 1) + 1)) σ' ∧ gI σ' 13 (3 * i + 2) = T (sk T N (b + 1)) - 48) ∨
     ((b < N ∧ T b = 120) ∧ ¬ odT T N (sk T N (b + 1)) ∧ e = 0 ∧ At9 T N (sk T N (b + 1)) σ')) := by
  unfold g_X5_readStep_97 g_X5_readStep_118
  rw [bnd (c_next 120 hT hb h)]
  have e2 : iZ ((3 * i : Nat) : Int) + 2 = iZ ((3 * i + 2 : Nat) : Int) := iZa (3 * i) 2
  by_cases q : b < N ∧ T b = 120
  · rw [if_neg (by show ¬ bZ _ = 0; rw [bZ_0]; exact not_not_intro q), e2]
    obtain ⟨σ', a1, a2, a3, a4⟩ := c_often (i := 3 * i + 2) hT (by omega) q.1 h
    rw [bnd a1]
    by_cases o : odT T N (sk T N (b + 1))
    · rw [if_neg (by show ¬ bZ _ = 0; rw [bZ_0]; exact not_not_intro o)]
      rw [if_pos o] at a2
      exact ⟨1, σ', rfl, a4, Or.inr (Or.inl ⟨q, o, rfl, a2, a3 o⟩)⟩
    · rw [if_pos (by show bZ _ = 0; rw [bZ_0]; exact o)]
      rw [if_neg o] at a2
      exact ⟨0, σ', rfl, a4, Or.inr (Or.inr ⟨q, o, rfl, a2⟩)⟩
  · rw [if_pos (by show bZ _ = 0; rw [bZ_0]; exact q)]
    exact ⟨1, σ, rfl, frm.rf σ, Or.inl ⟨q, rfl, rfl⟩⟩
/-- the often of both -/
theorem of_sub {x : Int32} (h1 : 49 ≤ x.toInt) (h2 : x.toInt ≤ 57) : x - 48 = iZ (((x.toInt - 48).toNat : Nat) : Int) := by
  conv => lhs; rw [← iZ_self x]
  show iZ x.toInt - iZ 48 = _
  rw [iZ_sub]; congr 1; omega
abbrev FT9 (i : Nat) : List (Nat × Nat) := [(11, 4), (13, 3 * i), (13, 3 * i + 1), (13, 3 * i + 2)]
abbrev FT10 (s i : Nat) : List (Nat × Nat) := [(38, 4), (38, 5), (40, 12 * s + i), (41, 12 * s + i), (42, 12 * s + i), (43, s)]
/-- what a step that is read leaves -/
def stepOk (T : Nat → Int32) (N s i b : Nat) (σ' τ' : St) : Prop := ∃ b', b' ≤ N ∧ sk T N b' = b ∧ At10 T N b' (-1) τ' ∧ gI τ' 43 s = iZ ((i + 1 : Nat) : Int) ∧ ∃ l : Int32, ∃ v f : Nat, rg l 0 4 ∧ v < 10 ^ 9 ∧ 1 ≤ f ∧ f ≤ 9 ∧ gI σ' 13 (3 * i) = l ∧ gI σ' 13 (3 * i + 1) = iZ (v : Int) ∧ gI σ' 13 (3 * i + 2) = iZ (f : Int) ∧ gI τ' 40 (12 * s + i) = l ∧ gI τ' 41 (12 * s + i) = iZ (v : Int) ∧ gI τ' 42 (12 * s + i) = iZ (f : Int)
/-- behind letter and number -/
theorem st_rest {X : En} {T : Nat → Int32} {N s i b a : Nat} {l : Int32} {v : Nat} {σ τ : St} (hT : okTp T N) (hs : s < 7) (hi : i < 12) (hb : b ≤ N) (ha : a ≤ N) (hab : sk T N a = b) (hl : rg l 0 4) (hv : v < 10 ^ 9) (h9 : At9 T N b σ) (h10 : At10 T N a (-1) τ) (h43 : gI τ 43 s = iZ (i : Int)) (h40 : gI τ 40 (12 * s + i) = l)
    (r0 : gI σ 13 (3 * i) = l) (r1 : gI σ 13 (3 * i + 1) = iZ (v : Int)) (r2 : gI σ 13 (3 * i + 2) = 1) :
    ∃ e σ' b2, g_X5_readStep_97 (iZ ((3 * i : Nat) : Int)) X σ = some (e, X, σ') ∧ frm [] (FT9 i) σ σ' ∧ b2 ≤ N ∧ At9 T N b2 σ' ∧
    ∃ τ', f_X10_stepOf_117 (iZ (s : Int)) (iZ ((12 * s + i : Nat) : Int)) (iZ (v : Int)) (iZ ((12 * s + i : Nat) : Int)) τ = some τ' ∧ frm [] (FT10 s i) τ τ' ∧
    ((e = 0 ∧ gI τ' 38 5 = iZ (b2 : Int)) ∨ (e = 1 ∧ stepOk T N s i b2 σ' τ')) := by
  obtain ⟨e, σ', a1, a2, a3⟩ := c_97 (X := X) hT hi hb h9
  obtain ⟨τ', b1, b2, b3, b4⟩ := tp_117 (y := iZ (v : Int)) hT ha hs hi h10 h43
  rw [hab] at b4
  have fr9 : frm [] (FT9 i) σ σ' := a2.mo (by simp) (by simp)
  have fr10 : frm [] (FT10 s i) τ τ' := b2.mo (by simp) (by simp)
  have k40 : gI τ' 40 (12 * s + i) = l := by rw [(b2 40 _ (by simp) (by simp)).1]; exact h40
  have k0 : gI σ' 13 (3 * i) = l := by rw [(a2 13 _ (by simp) (by simp)).1]; exact r0
  have k1 : gI σ' 13 (3 * i + 1) = iZ (v : Int) := by rw [(a2 13 _ (by simp) (by simp)).1]; exact r1
  rcases b4 with ⟨q, c1, c2, c3⟩ | ⟨q, o, c1, c2, c3⟩ | ⟨q, o, c1⟩
  · rcases a3 with ⟨_, d1, d2⟩ | ⟨q2, _⟩ | ⟨q2, _⟩
    · refine ⟨e, σ', b, a1, fr9, hb, by rw [d2]; exact h9, τ', b1, fr10, Or.inr ⟨d1, b, hb, ?_, c1, c2, l, v, 1, hl, hv, by omega, by omega, k0, k1, ?_, k40, b3, ?_⟩⟩
      · rw [← hab]; exact sk_sk
      · rw [d2, r2]; rfl
      · rw [c3]; rfl
    · exact absurd q2 q
    · exact absurd q2 q
  · have hd := sk_le (T := T) (N := N) (a := b + 1) (by have := q.1; omega)
    rcases a3 with ⟨q2, _⟩ | ⟨_, _, d1, d2, d3⟩ | ⟨_, o2, _⟩
    · exact absurd q q2
    · generalize sk T N (b + 1) = d at *
      have o1 := o.1
      have o2 := o.2
      refine ⟨e, σ', sk T N (d + 1), a1, fr9, sk_le (by omega), d2, τ', b1, fr10, Or.inr ⟨d1, d + 1, by omega, rfl, c1, c2, l, v, ((T d).toInt - 48).toNat, hl, hv, by omega, by omega, k0, k1, ?_, k40, b3, ?_⟩⟩
      · rw [d3]; exact of_sub o2.1 o2.2
      · rw [c3]; exact of_sub o2.1 o2.2
    · exact absurd o o2
  · have hd := sk_le (T := T) (N := N) (a := b + 1) (by have := q.1; omega)
    rcases a3 with ⟨q2, _⟩ | ⟨_, o2, _⟩ | ⟨_, _, d1, d2⟩
    · exact absurd q q2
    · exact absurd o2 o
    · exact ⟨e, σ', _, a1, fr9, hd, d2, τ', b1, fr10, Or.inl ⟨d1, c1⟩⟩
theorem p_step {X : En} {T : Nat → Int32} {N s i a : Nat} {σ τ : St} (hT : okTp T N) (hs : s < 7) (hi : i < 12) (ha : a ≤ N) (h9 : At9 T N a σ) (h10 : At10 T N a (-1) τ) (h43 : gI τ 43 s = iZ (i : Int)) :
    ∃ e σ' b, g_X5_readStep (iZ ((3 * i : Nat) : Int)) X σ = some (e, X, σ') ∧ frm [] (FT9 i) σ σ' ∧ b ≤ N ∧ At9 T N b σ' ∧
    ∃ τ', f_X10_stepOf (iZ (s : Int)) τ = some τ' ∧ frm [] (FT10 s i) τ τ' ∧
    ((e = 0 ∧ gI τ' 38 5 = iZ (b : Int)) ∨ (e = 1 ∧ dgT T N b ∧ gI τ' 38 5 = iZ (b : Int)) ∨ (e = 1 ∧ stepOk T N s i b σ' τ')) := by
  have hT1 := hT.1
  obtain ⟨σ1, a1, a2, a3⟩ := c_skip hT ha h9
  obtain ⟨τ1, b1, b2, b3⟩ := tp_look hT ha h10
  have hb := sk_le (T := T) (N := N) (a := a) ha
  unfold g_X5_readStep g_X5_readStep_b f_X10_stepOf
  rw [bnd a1, bnd b1, ch_ixo]
  rw [a2.1, a2.2.2]
  have hcl : (if iZ (N : Int) ≤ iZ (sk T N a : Int) then (g_X5_readStep_34 (iZ ((3 * i : Nat) : Int)) (-1) X σ1) else (gd (inb (iZ (sk T N a : Int)) 160) (g_X5_readStep_34 (iZ ((3 * i : Nat) : Int)) (ixo (toC (gI σ1 12 (iZ (sk T N a : Int)).toNatClampNeg))) X σ1))) = g_X5_readStep_34 (iZ ((3 * i : Nat) : Int)) (ixo (hr T N (sk T N a))) X σ1 := by
    by_cases q : sk T N a < N
    · rw [if_neg (by rw [leI, iZt (by omega), iZt (by omega)]; omega), gd_t (iZb (by omega) (by omega)), iZc (by omega), a2.2.1, toC_id (hT.2 _), hr_in q]
    · rw [if_pos (by rw [leI, iZt (by omega), iZt (by omega)]; omega), hr_out q, ixo_m1]
  rw [hcl]
  have hlt : ixo (hr T N (sk T N a)) = -1 ∨ (rg (ixo (hr T N (sk T N a))) 0 4 ∧ sk T N a < N) := by
    rcases ixo_rg (hr T N (sk T N a)) with q | q
    · exact Or.inl q
    · by_cases w : sk T N a < N
      · exact Or.inr ⟨q, w⟩
      · rw [hr_out w, ixo_m1]; exact Or.inl rfl
  have k43 : gI τ1 43 s = iZ (i : Int) := by rw [(b3 43 s (by simp) (by simp)).1]; exact h43
  generalize ixo (hr T N (sk T N a)) = l at hlt ⊢
  generalize sk T N a = b at a2 b2 hb hlt ⊢
  have f1 : frm [] (FT9 i) σ σ1 := a3.mo (by simp) (by simp)
  have f2 : frm [] (FT10 s i) τ τ1 := b3.mo (by simp) (by simp)
  unfold g_X5_readStep_34 f_X10_stepOf_56
  rcases hlt with q | ⟨q, hbN⟩
  · obtain ⟨τ2, c1, c2, c3⟩ := m_bad b2
    rw [if_pos q, if_neg (by rw [leI, q, t_0, t_m1]; omega), bnd c1]
    refine ⟨0, σ1, b, ?_, f1, hb, a2, τ2, rfl, f2.tr (c3.mo (by simp) (by simp)), Or.inl ⟨rfl, c2.2.2.2⟩⟩
    simp only [Option.bind_some]
    rw [wrp]
  · obtain ⟨q1, q2⟩ := q
    have qn : ¬ l = -1 := fun c => by rw [c, t_m1] at q1; omega
    rw [if_neg qn, if_pos (by rw [leI, t_0]; exact q1), a2.2.2, b2.2.2.1, iZs]
    obtain ⟨σ2, c1, c2, c3⟩ := c_skip (a := b + 1) hT (by omega) (a2.go (b := b + 1))
    rw [bnd c1]
    have hc := sk_le (T := T) (N := N) (a := b + 1) (by omega)
    have e1 : iZ ((3 * i : Nat) : Int) + 1 = iZ ((3 * i + 1 : Nat) : Int) := iZs (3 * i)
    have e2 : iZ ((3 * i : Nat) : Int) + 2 = iZ ((3 * i + 2 : Nat) : Int) := iZa (3 * i) 2
    have e12 : (12 : Int32) * iZ (s : Int) + iZ (i : Int) = iZ ((12 * s + i : Nat) : Int) := by
      have h12 : (12 : Int32) = iZ 12 := rfl
      rw [h12, iZ_mul, iZ_add]; congr 1
    unfold g_X5_readStep_71
    rw [e1, e2, gd_t (iZb (by omega) (by omega)), gd_t (iZb (by omega) (by omega)), gd_t (iZb (by omega) (by omega)), iZc (by omega), iZc (by omega), iZc (by omega)]
    rw [gd_t (iZb hs (by omega)), iZc (by omega), g_sI_c (by omega), k43, e12]
    unfold f_X10_stepOf_90
    rw [gd_t (iZb (by omega) (by omega)), iZc (by omega)]
    -- the class's state behind letter and blanks
    have s9 : At9 T N (sk T N (b + 1)) (sI (sI (sI σ2 13 (3 * i) l) 13 (3 * i + 1) 0) 13 (3 * i + 2) 1) := c2.row.row.row
    have s0 : gI (sI (sI (sI σ2 13 (3 * i) l) 13 (3 * i + 1) 0) 13 (3 * i + 2) 1) 13 (3 * i) = l := by rw [g_sI_ne (by omega), g_sI_ne (by omega), g_sI_eq]
    have s1 : gI (sI (sI (sI σ2 13 (3 * i) l) 13 (3 * i + 1) 0) 13 (3 * i + 2) 1) 13 (3 * i + 1) = iZ ((0 : Nat) : Int) := by rw [g_sI_ne (by omega), g_sI_eq]; rfl
    have s2 : gI (sI (sI (sI σ2 13 (3 * i) l) 13 (3 * i + 1) 0) 13 (3 * i + 2) 1) 13 (3 * i + 2) = 1 := g_sI_eq
    have sf : frm [] (FT9 i) σ (sI (sI (sI σ2 13 (3 * i) l) 13 (3 * i + 1) 0) 13 (3 * i + 2) 1) := f1.tr ((frm_sIf (frm.rf σ1) (by simp)).tr ((c3.mo (by simp) (by simp)).tr (frm_sIf (frm_sIf (frm_sIf (frm.rf σ2) (by simp)) (by simp)) (by simp))))
    generalize (sI (sI (sI σ2 13 (3 * i) l) 13 (3 * i + 1) 0) 13 (3 * i + 2) 1) = σ3 at s9 s0 s1 s2 sf ⊢
    have m10 : At10 T N (b + 1) (-1) (sI (sI τ1 38 4 (iZ ((b + 1 : Nat) : Int))) 40 (12 * s + i) l) := b2.go.row (by omega)
    have m40 : gI (sI (sI τ1 38 4 (iZ ((b + 1 : Nat) : Int))) 40 (12 * s + i) l) 40 (12 * s + i) = l := g_sI_eq
    have m43 : gI (sI (sI τ1 38 4 (iZ ((b + 1 : Nat) : Int))) 40 (12 * s + i) l) 43 s = iZ (i : Int) := by rw [g_sI_c (by omega), g_sI_c (by omega)]; exact k43
    have mf : frm [] (FT10 s i) τ (sI (sI τ1 38 4 (iZ ((b + 1 : Nat) : Int))) 40 (12 * s + i) l) := f2.tr (frm_sIf (frm_sIf (frm.rf τ1) (by simp)) (by simp))
    generalize (sI (sI τ1 38 4 (iZ ((b + 1 : Nat) : Int))) 40 (12 * s + i) l) = τ3 at m10 m40 m43 mf ⊢
    by_cases w : 2 ≤ l.toInt
    · rw [if_pos (by rw [lI, t_1]; omega), if_pos (by rw [leI, t_2]; exact w)]
      obtain ⟨e, σ', b2', d1, d2, d3, d4, τ', d5, d6, d7⟩ := st_rest (X := X) (v := 0) hT hs hi hc (show b + 1 ≤ N by omega) rfl ⟨q1, q2⟩ (by decide) s9 m10 m43 m40 s0 s1 s2
      refine ⟨e, σ', b2', ?_, sf.tr d2, d3, d4, τ', d5, mf.tr d6, ?_⟩
      · rw [bnd d1, wrp]
      · rcases d7 with d7 | d7
        · exact Or.inl d7
        · exact Or.inr (Or.inr d7)
    · rw [if_neg (by rw [lI, t_1]; omega), if_neg (by rw [leI, t_2]; exact w)]
      obtain ⟨σ4, x1, x2, x3, x4⟩ := c_num (i := 3 * i + 1) hT (by omega) hc s9
      obtain ⟨v, τ4, y1, y2, y3⟩ := m_numeral (a := b + 1) hT (by omega) m10
      have hsc : sk T N (b + 1) ≤ N := hc
      have nb : ¬ (sk T N (b + 1) < N ∧ T (sk T N (b + 1)) = 32) := sk_end
      have sf4 : frm [] (FT9 i) σ σ4 := sf.tr (x4.mo (by simp) (by simp))
      have mf4 : frm [] (FT10 s i) τ τ4 := mf.tr (y2.mo (by simp) (by simp))
      rw [bnd x1, bnd y1]
      generalize sk T N (b + 1) = c at *
      rcases y3 with ⟨n1, n2⟩ | ⟨n1, n2, n3⟩
      · -- no number
        rw [if_pos (by show bZ _ = 0; rw [bZ_0]; exact n1)]
        have ec : nuP T N 9 c = c := if_neg n1
        rw [ec, sk_id nb] at x2
        obtain ⟨o1, o2, o3, o4⟩ := n2
        have z : ∃ τ', f_X10_stepOf_117 (iZ (s : Int)) (iZ ((12 * s + i : Nat) : Int)) v (iZ ((12 * s + i : Nat) : Int)) τ4 = some τ' ∧ frm [] (FT10 s i) τ4 τ' ∧ gI τ' 38 5 = iZ (c : Int) := by
          unfold f_X10_stepOf_117
          rw [gd_t (iZb (by omega) (by omega)), gd_t (iZb (by omega) (by omega)), iZc (by omega), g_sI_ne (by omega), g_sI_ne (by omega), o4, if_neg (by rw [eI, iZt (by omega), t_m1]; omega)]
          unfold f_X10_stepOf_201
          rw [gd_t (iZb hs (by omega)), gd_t (iZb hs (by omega))]
          refine ⟨_, rfl, ?_, ?_⟩
          · rw [iZc (by omega)]
            exact frm_sIf (frm_sIf (frm_sIf (frm.rf τ4) (by simp)) (by simp)) (by simp)
          · rw [g_sI_ne (by omega), g_sI_ne (by omega), g_sI_ne (by omega)]; exact o4
        obtain ⟨τ', z1, z2, z3⟩ := z
        refine ⟨0, σ4, c, ?_, sf4, hsc, x2, τ', z1, mf4.tr z2, Or.inl ⟨rfl, z3⟩⟩
        simp only [Option.bind_some]
        rw [wrp]
      · rw [if_neg (by show ¬ bZ _ = 0; rw [bZ_0]; exact not_not_intro n1)]
        have hp := nuP_le (T := T) (N := N) 9 c hsc
        have hvl := nuV_lt (T := T) (N := N) 9 0 c 0 (by decide)
        have k40 : gI τ4 40 (12 * s + i) = l := by rw [(y2 40 _ (by simp) (by simp)).1]; exact m40
        have k43' : gI τ4 43 s = iZ (i : Int) := by rw [(y2 43 _ (by simp) (by simp)).1]; exact m43
        have r0 : gI σ4 13 (3 * i) = l := by rw [(x4 13 _ (by simp) (by simp)).1]; exact s0
        have r2 : gI σ4 13 (3 * i + 2) = 1 := by rw [(x4 13 _ (by simp) (by simp)).1]; exact s2
        generalize nuP T N 9 c = p at *
        generalize nuV T N 9 c 0 = vv at *
        by_cases d : dgT T N p
        · -- a tenth digit
          rw [if_pos d] at n3
          have np : ¬ (p < N ∧ T p = 32) := fun k => by
            have h1 := d.2.1
            have h32 : (32 : Int32).toInt = 32 := rfl
            rw [k.2, h32] at h1; omega
          have nx : ¬ (p < N ∧ T p = 120) := fun k => by
            have h1 := d.2.2
            have h120 : (120 : Int32).toInt = 120 := rfl
            rw [k.2, h120] at h1; omega
          rw [sk_id np] at x2
          obtain ⟨e, σ', d1, d2, d3⟩ := c_97 (X := X) hT hi hp x2
          rcases d3 with ⟨_, d4, d5⟩ | ⟨k, _⟩ | ⟨k, _⟩
          · obtain ⟨o1, o2, o3, o4⟩ := n3
            have z : ∃ τ', f_X10_stepOf_117 (iZ (s : Int)) (iZ ((12 * s + i : Nat) : Int)) v (iZ ((12 * s + i : Nat) : Int)) τ4 = some τ' ∧ frm [] (FT10 s i) τ4 τ' ∧ gI τ' 38 5 = iZ (p : Int) := by
              unfold f_X10_stepOf_117
              rw [gd_t (iZb (by omega) (by omega)), gd_t (iZb (by omega) (by omega)), iZc (by omega), g_sI_ne (by omega), g_sI_ne (by omega), o4, if_neg (by rw [eI, iZt (by omega), t_m1]; omega)]
              unfold f_X10_stepOf_201
              rw [gd_t (iZb hs (by omega)), gd_t (iZb hs (by omega))]
              refine ⟨_, rfl, ?_, ?_⟩
              · rw [iZc (by omega)]
                exact frm_sIf (frm_sIf (frm_sIf (frm.rf τ4) (by simp)) (by simp)) (by simp)
              · rw [g_sI_ne (by omega), g_sI_ne (by omega), g_sI_ne (by omega)]; exact o4
            obtain ⟨τ', z1, z2, z3⟩ := z
            refine ⟨e, σ', p, ?_, sf4.tr (d2.mo (by simp) (by simp)), hp, by rw [d5]; exact x2, τ', z1, mf4.tr z2, Or.inr (Or.inl ⟨d4, d, z3⟩)⟩
            show (g_X5_readStep_97 (iZ ((3 * i : Nat) : Int)) X σ4).bind _ = _
            rw [bnd d1, wrp]
          · exact absurd k nx
          · exact absurd k nx
        · rw [if_neg d] at n3
          obtain ⟨e, σ', b2', d1, d2, d3, d4, τ', d5, d6, d7⟩ := st_rest (X := X) (v := vv) hT hs hi (sk_le hp) hp rfl ⟨q1, q2⟩ (by simpa using hvl) x2 n3 k43' k40 r0 x3 r2
          refine ⟨e, σ', b2', ?_, sf4.tr d2, d3, d4, τ', ?_, mf4.tr d6, ?_⟩
          · show (g_X5_readStep_97 (iZ ((3 * i : Nat) : Int)) X σ4).bind _ = _
            rw [bnd d1, wrp]
          · rw [n2]; exact d5
          · rcases d7 with d7 | d7
            · exact Or.inl d7
            · exact Or.inr (Or.inr d7)
