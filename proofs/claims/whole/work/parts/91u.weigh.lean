/-! FEWEST WALKS: the class's table, the model's table -/
theorem mR_s {α : Type} {r : Option Nat} {t : Nat} {n : Option α} {f : Nat → Option α} (h : r = some t) : mR r n f = f t := by rw [h]; rfl
theorem mR_n {α : Type} {r : Option Nat} {n : Option α} {f : Nat → Option α} (h : r = none) : mR r n f = n := by rw [h]; rfl
def Hst (R H b : Nat) (a : Nat → Int32) (σ : St) : Prop := (∃ P w, CIR R σ P w) ∧ gI σ 20 = a ∧ gI σ 19 1 = iZ (H : Int) ∧ gR σ 19 2 = some b
abbrev W5 : List Nat := [5, 6, 7, 8]
theorem frm.rI {W : List Nat} {σ σ' : St} (h : frm W [] σ σ') {a : Nat} (ha : a ∉ W) : gI σ' a = gI σ a := funext fun b => (h a b ha (by simp)).1
theorem frm.rR {W : List Nat} {σ σ' : St} (h : frm W [] σ σ') {a : Nat} (ha : a ∉ W) : gR σ' a = gR σ a := funext fun b => (h a b ha (by simp)).2.2
theorem Hst.to {R H b : Nat} {a : Nat → Int32} {σ σ' : St} (h : Hst R H b a σ) (q : frm W5 [] σ σ') {P : Nat} {w : Int32} (c : CIR R σ' P w) : Hst R H b a σ' := by
  obtain ⟨_, h2, h3, h4⟩ := h
  refine ⟨⟨P, w, c⟩, ?_, ?_, ?_⟩
  · rw [q.rI (by decide)]; exact h2
  · rw [q.rI (by decide)]; exact h3
  · rw [q.rR (by decide)]; exact h4
theorem n5 {b : Nat} (h : 72 ≤ b) : b ∉ W5 := by
  intro c
  simp only [W5, List.mem_cons, List.not_mem_nil, or_false] at c
  omega
theorem c_sum {σ : St} {a : Nat → Int32} {H : Nat} (hH : H ≤ 8) (ha : okH a) (h2 : gI σ 20 = a) (h3 : gI σ 19 1 = iZ (H : Int)) (s : Nat) : f_X3_sumOf (iZ (s : Int)) σ = some (jZ (su a H s : Int), σ) := by
  have e := s_sum3 (iZ (s : Int)) σ H hH (by rw [h3, iZt (by omega)])
  have e2 : hf σ 20 (iZ (s : Int)) = hg a (iZ (s : Int)) := by
    funext j
    show (if bitI (iZ (s : Int)) j then (gI σ 20 j).toInt else 0) = _
    rw [h2]
  rw [e2, (su_eq ha hH s).1] at e
  exact e
theorem c_walksBy {X : En} {R H b : Nat} {a : Nat → Int32} {σ : St} {s k : Nat} (hR : R ≤ 12) (hH : H ≤ 8) (ha : okH a) (ib : isR X b) (hz : eZ X ≤ 1000000) (h : Hst R H b a σ) (hs : s < 2 ^ H) (hk : k < H) : ∃ σ', g_X3_walksBy (iZ (s : Int)) (iZ (k : Int)) X σ = some (gWk R a H s k + gI σ b (s ||| 2 ^ k), X, σ') ∧ Hst R H b a σ' ∧ frm W5 [] σ σ' := by
  have hp := pow8 hH
  have h' := h
  obtain ⟨⟨P, w, ci⟩, h2, h3, h4⟩ := h
  have w7 : gI σ 5 7 = w := by
    obtain ⟨V, r, _, _, hw⟩ := ci
    rw [r.2.2.1, hw]
  obtain ⟨σ1, e1, c1⟩ := c_standR hR ci (su_eq ha hH s).2
  have f1 : frm W5 [] σ σ1 := (fr_X7_standFor 5 e1).mo2 (by decide) (by decide)
  obtain ⟨n1, n2, n3⟩ := nu_b ha k
  obtain ⟨σ2, e2, c2⟩ := c_addR hR c1 (su_eq ha hH s).2 n2
  have f2 : frm W5 [] σ σ2 := f1.tr ((fr_X7_bring_n 5 e2).mo2 (by decide) (by decide))
  have w27 : gI σ2 5 7 = w + gWk R a H s k := by
    obtain ⟨V, r, _, _, hw⟩ := c2
    rw [r.2.2.1, hw]
  refine ⟨σ2, ?_, h'.to f2 c2, f2⟩
  have hb : gR σ2 19 2 = some b := (h'.to f2 c2).2.2.2
  have hn : gI σ1 20 (iZ (k : Int)).toNatClampNeg = iZ (nu a k : Int) := by
    rw [iZc (by omega), f1.rI (by decide), h2]; exact n1
  obtain ⟨b1, b2, b3, b4⟩ := ib
  have hor := or_iZ (s := s) (k := k) (by omega) (by omega)
  have hlt : s ||| 2 ^ k < 2 ^ H := Nat.or_lt_two_pow hs (Nat.pow_lt_pow_right (by omega) hk)
  unfold g_X3_walksBy g_X3_walksBy_b g_X3_walksBy_6
  rw [bnd (c_sum hH ha h2 h3 s), bnd e1, gd_t (iZb (by omega) (by omega)), hn, bnd e2, mR_s hb, gd_t (rk_t b1 (by omega) b3), mR_s hb, gd_t (rk_t b1 (by omega) b3), hor, gd_t (iZb (by rw [mk_L b1, b4]; omega) (by rw [mk_L b1, b4]; omega)), iZc (by omega)]
  unfold g_X3_walksBy_49
  rw [bnd rfl, wrp, w27, w7, Int32.add_comm w, Int32.add_sub_cancel, f2.rI (n5 b1)]
theorem c_w57 {X : En} {R H b : Nat} {a : Nat → Int32} {s : Nat} (hR : R ≤ 12) (hH : H ≤ 8) (ha : okH a) (ib : isR X b) (hz : eZ X ≤ 1000000) (hs : s < 2 ^ H) (T : Nat → Int32) (K : Int32 → En → St → Option (En × St)) : ∀ m n k : Nat, ∀ σ : St, k + m = H → m < n → Hst R H b a σ → gI σ b = T → ∃ σ', g_X3_weigh_57 K n (iZ (s : Int)) (fmC (wT R a H T s) (iZ (s : Int)) k) (iZ (k : Int)) X σ = K (iZ (s : Int) + (-1)) X (sI σ' b s (fmC (wT R a H T s) (iZ (s : Int)) H)) ∧ Hst R H b a σ' ∧ frm W5 [] σ σ' := by
  have hp := pow8 hH
  obtain ⟨b1, b2, b3, b4⟩ := ib
  intro m
  induction m with
  | zero =>
    intro n k σ e hn h hT
    cases n with
    | zero => omega
    | succ n =>
      have : k = H := by omega
      subst this
      refine ⟨σ, ?_, h, frm.rf σ⟩
      rw [g_X3_weigh_57, if_pos (by rw [h.2.2.1]; rw [leI]; exact Int.le_refl _), mR_s h.2.2.2, gd_t (rk_t b1 (by omega) b3), gd_t (iZb (by rw [mk_L b1, b4]; omega) (by rw [mk_L b1, b4]; omega)), iZc (by omega)]
  | succ m ih =>
    intro n k σ e hn h hT
    cases n with
    | zero => omega
    | succ n =>
      rw [g_X3_weigh_57, if_neg (by rw [h.2.2.1, leI, iZt (by omega), iZt (by omega)]; omega), bnd (s_hasBit _ k (by omega) σ)]
      unfold g_X3_weigh_88
      have ef : fmC (wT R a H T s) (iZ (s : Int)) (k + 1) = if bitI (iZ (s : Int)) k then fmC (wT R a H T s) (iZ (s : Int)) k else mnI (fmC (wT R a H T s) (iZ (s : Int)) k) (wT R a H T s k) := rfl
      by_cases c : bitI (iZ (s : Int)) k
      · rw [if_neg (by rw [bZ_0]; exact not_not_intro c), iZs]
        rw [if_pos c] at ef
        rw [← ef]
        exact ih n (k + 1) σ (by omega) (by omega) h hT
      · rw [if_pos (by rw [bZ_0]; exact c)]
        obtain ⟨σ1, e1, h1, f1⟩ := c_walksBy hR hH ha ⟨b1, b2, b3, b4⟩ hz h hs (show k < H by omega)
        rw [bnd e1, iZs]
        rw [if_neg c] at ef
        have ew : gWk R a H s k + gI σ b (s ||| 2 ^ k) = wT R a H T s k := by rw [hT]
        show ∃ σ', g_X3_weigh_57 K n (iZ (s : Int)) (mnI (fmC (wT R a H T s) (iZ (s : Int)) k) (gWk R a H s k + gI σ b (s ||| 2 ^ k))) (iZ ((k + 1 : Nat) : Int)) X σ1 = _ ∧ _ ∧ _
        rw [ew, ← ef]
        obtain ⟨σ', i1, i2, i3⟩ := ih n (k + 1) σ1 (by omega) (by omega) h1 (by rw [f1.rI (n5 b1)]; exact hT)
        exact ⟨σ', i1, i2, f1.tr i3⟩
theorem m1_iZ (m : Nat) : iZ (m : Int) + (-1) = iZ ((m : Int) - 1) := by
  have e : (-1 : Int32) = iZ (-1) := rfl
  rw [e, iZ_add, Int.sub_eq_add_neg]
theorem c_w47 {X : En} {R H b : Nat} {a : Nat → Int32} (hR : R ≤ 12) (hH : H ≤ 8) (ha : okH a) (ib : isR X b) (hz : eZ X ≤ 1000000) : ∀ m n : Nat, ∀ σ : St, m + 1 ≤ 2 ^ H → m < n → Hst R H b a σ → gdA R a H (gI σ b) m → ∃ σ', g_X3_weigh_47 n (iZ ((m : Int) - 1)) X σ = some (X, sI σ' 19 3 (gI σ' 19 1)) ∧ Hst R H b a σ' ∧ gdA R a H (gI σ' b) 0 ∧ frm [5, 6, 7, 8, b] [] σ σ' := by
  have hp := pow8 hH
  obtain ⟨b1, b2, b3, b4⟩ := ib
  intro m
  induction m with
  | zero =>
    intro n σ e hn h g
    cases n with
    | zero => omega
    | succ n =>
      refine ⟨σ, ?_, h, g, frm.rf σ⟩
      rw [g_X3_weigh_47, if_pos (by rw [lI, t_0, iZ_toInt (by omega) (by omega)]; omega)]
  | succ m ih =>
    intro n σ e hn h g
    cases n with
    | zero => omega
    | succ n =>
      have em : ((m + 1 : Nat) : Int) - 1 = (m : Int) := by omega
      rw [em, g_X3_weigh_47, if_neg (by rw [lI, t_0, iZt (by omega)]; omega)]
      obtain ⟨σ1, e1, h1, f1⟩ := c_w57 hR hH ha ⟨b1, b2, b3, b4⟩ hz (show m < 2 ^ H by omega) (gI σ b) (g_X3_weigh_47 n) H FU 0 σ (by omega) (by unfold FU; omega) h rfl
      obtain ⟨k1, k2, k3⟩ := gdA_w hR hH g (by omega)
      have e1' : g_X3_weigh_57 (g_X3_weigh_47 n) FU (iZ (m : Int)) 2147483647 0 X σ = g_X3_weigh_47 n (iZ ((m : Int) - 1)) X (sI σ1 b m (fmC (wT R a H (gI σ b) m) (iZ (m : Int)) H)) := by
        rw [← m1_iZ]; exact e1
      rw [e1']
      have hst : Hst R H b a (sI σ1 b m (fmC (wT R a H (gI σ b) m) (iZ (m : Int)) H)) := by
        obtain ⟨⟨P, w, V, ⟨r0, r1, r2, r3, r4, r5, r6⟩, ok, hV, hw⟩, q2, q3, q4⟩ := h1
        refine ⟨⟨P, w, V, ⟨?_, ?_, ?_, ?_, ?_, ?_, ?_⟩, ok, hV, hw⟩, ?_, ?_, ?_⟩
        · rw [g_sI_c (by omega)]; exact r0
        · intro j hj
          rw [g_sI_c (by omega), g_sI_c (by omega), g_sI_c (by omega)]; exact r1 j hj
        · rw [g_sI_c (by omega)]; exact r2
        · rw [g_sI_c (by omega)]; exact r3
        · rw [g_sI_c (by omega)]; exact r4
        · rw [g_sI_c (by omega)]; exact r5
        · rw [g_sI_c (by omega)]; exact r6
        · rw [g_sI_c (by omega)]; exact q2
        · rw [g_sI_c (by omega)]; exact q3
        · exact q4
      obtain ⟨σ', i1, i2, i3, i4⟩ := ih n _ (by omega) (by omega) hst (gdA_step hH g (by omega) (fun j hj => by
        rw [g_sI_ne (by omega), f1.rI (n5 b1)]) (by rw [g_sI_eq, k2]))
      refine ⟨σ', i1, i2, i3, ?_⟩
      have f2 : frm [5, 6, 7, 8, b] [] σ σ1 := f1.mo2 (by
        intro x hx
        simp only [W5, List.mem_cons, List.not_mem_nil, or_false] at hx ⊢
        omega) (by simp)
      exact (frm_sI f2 (by simp)).tr i4

theorem c_sets {σ : St} {H : Nat} (hH : H ≤ 8) (h3 : gI σ 19 1 = iZ (H : Int)) : f_X3_sets σ = some (iZ ((2 ^ H : Nat) : Int), σ) := by
  unfold f_X3_sets
  rw [sh_nI (H := H) (by omega) (by rw [h3, iZt (by omega)])]
theorem Hst.up {R H b : Nat} {a : Nat → Int32} {σ : St} (h : Hst R H b a σ) (b1 : 72 ≤ b) (k : Nat) (v : Int32) : Hst R H b a (sI σ b k v) := by
  obtain ⟨⟨P, w, V, ⟨r0, r1, r2, r3, r4, r5, r6⟩, ok, hV, hw⟩, q2, q3, q4⟩ := h
  refine ⟨⟨P, w, V, ⟨?_, ?_, ?_, ?_, ?_, ?_, ?_⟩, ok, hV, hw⟩, ?_, ?_, ?_⟩
  · rw [g_sI_c (by omega)]; exact r0
  · intro j hj
    rw [g_sI_c (by omega), g_sI_c (by omega), g_sI_c (by omega)]; exact r1 j hj
  · rw [g_sI_c (by omega)]; exact r2
  · rw [g_sI_c (by omega)]; exact r3
  · rw [g_sI_c (by omega)]; exact r4
  · rw [g_sI_c (by omega)]; exact r5
  · rw [g_sI_c (by omega)]; exact r6
  · rw [g_sI_c (by omega)]; exact q2
  · rw [g_sI_c (by omega)]; exact q3
  · exact q4
theorem c_w28 {X : En} {R H b : Nat} {a : Nat → Int32} {σ : St} (hR : R ≤ 12) (hH : H ≤ 8) (ha : okH a) (ib : isR X b) (hz : eZ X ≤ 1000000) (h : Hst R H b a σ) : ∃ σ', g_X3_weigh_28 X σ = some (X, sI σ' 19 3 (gI σ' 19 1)) ∧ Hst R H b a σ' ∧ gdA R a H (gI σ' b) 0 ∧ frm [5, 6, 7, 8, b] [] σ σ' := by
  have hp := pow8 hH
  have hp1 : 0 < 2 ^ H := Nat.pow_pos (by omega)
  have b1 := ib.1
  have b2 := ib.2.1
  have b3 := ib.2.2.1
  have b4 := ib.2.2.2
  unfold g_X3_weigh_28
  have e1 : iZ ((2 ^ H : Nat) : Int) - 1 = iZ ((2 ^ H - 1 : Nat) : Int) := by
    have : (1 : Int32) = iZ 1 := rfl
    rw [this, iZ_sub]; congr 1; omega
  have e2 : iZ ((2 ^ H : Nat) : Int) - 2 = iZ (((2 ^ H - 1 : Nat) : Int) - 1) := by
    have : (2 : Int32) = iZ 2 := rfl
    rw [this, iZ_sub]; congr 1; omega
  rw [mR_s h.2.2.2, gd_t (rk_t b1 (by omega) b3), bnd (c_sets hH h.2.2.1)]
  show ∃ σ', gd (inb (iZ ((2 ^ H : Nat) : Int) - 1) (eL (mk X) b)) ((f_X3_sets (sI σ b (iZ ((2 ^ H : Nat) : Int) - 1).toNatClampNeg 0)).bind fun p7 => (g_X3_weigh_47 FU (p7.1 - 2) X p7.2)) = _ ∧ _
  rw [e1, gd_t (iZb (by rw [mk_L b1, b4]; omega) (by rw [mk_L b1, b4]; omega)), iZc (by omega)]
  have h1 := h.up b1 (2 ^ H - 1) 0
  rw [bnd (c_sets hH h1.2.2.1)]
  show ∃ σ', g_X3_weigh_47 FU (iZ ((2 ^ H : Nat) : Int) - 2) X (sI σ b (2 ^ H - 1) 0) = _ ∧ _
  rw [e2]
  obtain ⟨σ', i1, i2, i3, i4⟩ := c_w47 hR hH ha ib hz (2 ^ H - 1) FU _ (by omega) (by unfold FU; omega) h1 ⟨by rw [g_sI_eq], fun t h1 h2 => by omega⟩
  exact ⟨σ', i1, i2, i3, (frm_sI (frm.rf σ) (by simp)).tr i4⟩
/-- what was weighed -/
def Rrem (X : En) (σ : St) : Prop := rg (gI σ 19 3) 0 (gI σ 19 1).toInt ∧ ((gR σ 19 2 = none ∧ gI σ 19 3 = 0) ∨ ∃ b, gR σ 19 2 = some b ∧ isR X b ∧ (gI σ 19 3 = gI σ 19 1 → gdA (gI σ 1 0).toInt.toNat (gI σ 20) (gI σ 19 1).toInt.toNat (gI σ b) 0))
theorem Rrem.ex {X Y : En} {σ σ' : St} {P : Nat → Prop} (h : Rrem X σ) (q : sameOn [20] [(1, 0), (19, 1), (19, 2), (19, 3)] σ σ') (e : ext X Y) (q2 : hiB P X σ σ') (fr : ∀ t, isR X t → ¬ P t) : Rrem Y σ' := by
  obtain ⟨h1, h2⟩ := h
  refine ⟨by rw [q.I 19 3, q.I 19 1]; exact h1, ?_⟩
  rcases h2 with ⟨h2, h3⟩ | ⟨b, h2, h3, h4⟩
  · left
    rw [q.R 19 2, q.I 19 3]; exact ⟨h2, h3⟩
  · right
    have eb : gI σ' b = gI σ b := funext fun k => (q2 b k h3.1 h3.2.1 (fr b h3)).1
    refine ⟨b, by rw [q.R 19 2]; exact h2, h3.ex e, ?_⟩
    rw [q.I 19 3, q.I 19 1, q.I 1 0, q.cI 20, eb]
    exact h4
theorem ext_nA {X : En} (k n : Nat) : ext X (nA X k n) := ⟨by rw [Z_nA]; omega, fun a ha => ⟨by rw [K_nA, if_neg (by omega)], by rw [L_nA, if_neg (by omega)], fun f => S_nA X k n a f⟩⟩
theorem w_fin {R H b : Nat} {a : Nat → Int32} {σ0 σ' : St} (h : Hst R H b a σ') (b1 : 72 ≤ b) (f : frm [5, 6, 7, 8, b] [] σ0 σ') : Hst R H b a (sI σ' 19 3 (gI σ' 19 1)) ∧ gI (sI σ' 19 3 (gI σ' 19 1)) b = gI σ' b ∧ gI (sI σ' 19 3 (gI σ' 19 1)) 19 3 = gI (sI σ' 19 3 (gI σ' 19 1)) 19 1 ∧ frm [5, 6, 7, 8, b] [(19, 3)] σ0 (sI σ' 19 3 (gI σ' 19 1)) := by
  refine ⟨?_, ?_, ?_, ?_⟩
  · obtain ⟨⟨P, w, V, ⟨r0, r1, r2, r3, r4, r5, r6⟩, ok, hV, hw⟩, q2, q3, q4⟩ := h
    refine ⟨⟨P, w, V, ⟨?_, ?_, ?_, ?_, ?_, ?_, ?_⟩, ok, hV, hw⟩, ?_, ?_, ?_⟩
    · rw [g_sI_c (by omega)]; exact r0
    · intro j hj
      rw [g_sI_c (by omega), g_sI_c (by omega), g_sI_c (by omega)]; exact r1 j hj
    · rw [g_sI_c (by omega)]; exact r2
    · rw [g_sI_c (by omega)]; exact r3
    · rw [g_sI_c (by omega)]; exact r4
    · rw [g_sI_c (by omega)]; exact r5
    · rw [g_sI_c (by omega)]; exact r6
    · rw [g_sI_c (by omega)]; exact q2
    · rw [g_sI_ne (by omega)]; exact q3
    · exact q4
  · rw [g_sI_c (by omega)]
  · rw [g_sI_eq, g_sI_ne (by omega)]
  · exact frm_sIf (f.mo2 (fun a h => h) (by simp)) (by simp)
theorem m5b {b x : Nat} (h : x ∉ W5) (hb : x ≠ b) : x ∉ [5, 6, 7, 8, b] := by
  intro c
  simp only [W5, List.mem_cons, List.not_mem_nil, or_false] at c h
  omega
theorem c_weigh {X : En} {R H : Nat} {a : Nat → Int32} {σ : St} (hR : R ≤ 12) (hH : H ≤ 8) (hH1 : 0 < H) (ha : okH a) (hz72 : 72 ≤ eZ X) (hz : eZ X ≤ 900000) (hc : ∃ P w, CIR R σ P w) (h20 : gI σ 20 = a) (h19 : gI σ 19 1 = iZ (H : Int)) (h10 : gI σ 1 0 = iZ (R : Int)) (hr : Rrem X σ) : ∃ Y σ' b, g_X3_weigh X σ = some (Y, σ') ∧ Hst R H b a σ' ∧ isR Y b ∧ gdA R a H (gI σ' b) 0 ∧ gI σ' 19 3 = gI σ' 19 1 ∧ ext X Y ∧ eZ Y ≤ eZ X + 1 ∧ eY X ≤ eY Y ∧ eY Y ≤ eY X + 256 ∧ low72 W5 [(19, 2), (19, 3)] σ σ' ∧ hiB (fun c => gR σ 19 2 = some c) X σ σ' := by
  obtain ⟨h1, h2⟩ := hr
  have hH' : (gI σ 19 1).toInt = H := by rw [h19, iZt (by omega)]
  unfold g_X3_weigh g_X3_weigh_b
  by_cases c : gI σ 19 3 = gI σ 19 1
  · rcases h2 with ⟨_, h3⟩ | ⟨b, h2, h3, h4⟩
    · rw [c, h19] at h3
      have := congrArg Int32.toInt h3
      rw [iZt (by omega), t_0] at this
      omega
    · have h5 := h4 c
      rw [hH', h10, h20, iZt (by omega), Int.toNat_natCast, Int.toNat_natCast] at h5
      refine ⟨X, σ, b, ?_, ⟨hc, h20, h19, h2⟩, h3, h5, c, ext.rf X, by omega, by omega, by omega, fun a b _ _ _ => ⟨rfl, rfl, rfl⟩, fun a b _ _ _ => ⟨rfl, rfl, rfl⟩⟩
      rw [if_pos c, bnd rfl, wrp]
  · rw [if_neg c]
    rcases h2 with ⟨h2, h3⟩ | ⟨b, h2, h3, h4⟩
    · rw [mR_n h2, gd_t (Nat.ble_eq_true_of_le hz72)]
      simp only [mkA]
      have ib : isR (nA X 20 256) (eZ X) := ⟨hz72, by rw [Z_nA]; omega, by rw [K_nA, if_pos rfl], by rw [L_nA, if_pos rfl]⟩
      rw [gd_t (rk_t hz72 (by omega) ib.2.2.1)]
      have lo : ∀ x y, x < 72 → gI (sR (clr σ (eZ X)) 19 2 (some (eZ X))) x y = gI σ x y := fun x y hx => by
        show gI (clr σ (eZ X)) x y = _
        rw [I_clr, if_neg (by omega)]
      have hst : Hst R H (eZ X) a (sR (clr σ (eZ X)) 19 2 (some (eZ X))) := by
        obtain ⟨P, w, V, ⟨r0, r1, r2, r3, r4, r5, r6⟩, ok, hV, hw⟩ := hc
        refine ⟨⟨P, w, V, ⟨?_, ?_, ?_, ?_, ?_, ?_, ?_⟩, ok, hV, hw⟩, ?_, ?_, ?_⟩
        · rw [lo _ _ (by omega)]; exact r0
        · intro j hj
          rw [lo _ _ (by omega), lo _ _ (by omega), lo _ _ (by omega)]; exact r1 j hj
        · rw [lo _ _ (by omega)]; exact r2
        · rw [lo _ _ (by omega)]; exact r3
        · rw [lo _ _ (by omega)]; exact r4
        · rw [lo _ _ (by omega)]; exact r5
        · rw [lo _ _ (by omega)]; exact r6
        · rw [← h20]; exact funext fun j => lo 20 j (by omega)
        · rw [lo _ _ (by omega)]; exact h19
        · show u2 (clr σ (eZ X)).2.2 19 2 (some (eZ X)) 19 2 = some (eZ X)
          unfold u2; rw [if_pos rfl, if_pos rfl]
      obtain ⟨σ', e1, i2, i3, i4⟩ := c_w28 hR hH ha ib (by rw [Z_nA]; omega) hst
      obtain ⟨w1, w2, w3, w4⟩ := w_fin i2 hz72 i4
      refine ⟨nA X 20 256, sI σ' 19 3 (gI σ' 19 1), eZ X, ?_, w1, ib, by rw [w2]; exact i3, w3, ext_nA 20 256, by rw [Z_nA]; omega, by rw [Y_nA]; omega, by rw [Y_nA]; omega, ?_, ?_⟩
      · rw [bnd e1, gd_t (by rw [Z_nA, Y_nA, Nat.ble_eq_true_of_le (by omega), Nat.ble_eq_true_of_le (by omega)]; rfl)]
      · intro x y hx h1 h2
        simp only [List.mem_cons, List.not_mem_nil, or_false, Prod.mk.injEq] at h2
        obtain ⟨u1, u2', u3⟩ := w4 x y (m5b h1 (by omega)) (by simp only [List.mem_cons, List.not_mem_nil, or_false, Prod.mk.injEq]; omega)
        refine ⟨u1.trans (lo x y hx), u2'.trans ?_, u3.trans ?_⟩
        · show gJ (clr σ (eZ X)) x y = _
          rw [J_clr, if_neg (by omega)]
        · show u2 (clr σ (eZ X)).2.2 19 2 (some (eZ X)) x y = _
          rw [u2_ne (by omega)]
          show gR (clr σ (eZ X)) x y = _
          rw [R_clr, if_neg (by omega)]
      · intro x y h1 hx _
        obtain ⟨u1, u2', u3⟩ := w4 x y (m5b (n5 h1) (by omega)) (by simp only [List.mem_cons, List.not_mem_nil, or_false, Prod.mk.injEq]; omega)
        refine ⟨u1.trans ?_, u2'.trans ?_, u3.trans ?_⟩
        · show gI (clr σ (eZ X)) x y = _
          rw [I_clr, if_neg (by omega)]
        · show gJ (clr σ (eZ X)) x y = _
          rw [J_clr, if_neg (by omega)]
        · show u2 (clr σ (eZ X)).2.2 19 2 (some (eZ X)) x y = _
          rw [u2_ne (by omega)]
          show gR (clr σ (eZ X)) x y = _
          rw [R_clr, if_neg (by omega)]
    · rw [mR_s h2, gd_t (rk_t h3.1 (by have := h3.2.1; omega) h3.2.2.1)]
      obtain ⟨σ', e1, i2, i3, i4⟩ := c_w28 hR hH ha h3 (by omega) ⟨hc, h20, h19, h2⟩
      obtain ⟨w1, w2, w3, w4⟩ := w_fin i2 h3.1 i4
      refine ⟨X, sI σ' 19 3 (gI σ' 19 1), b, ?_, w1, h3, by rw [w2]; exact i3, w3, ext.rf X, by omega, by omega, by omega, ?_, ?_⟩
      · rw [bnd e1, wrp]
      · intro x y hx h1 h2
        simp only [List.mem_cons, List.not_mem_nil, or_false, Prod.mk.injEq] at h2
        have := h3.1
        exact w4 x y (m5b h1 (by omega)) (by simp only [List.mem_cons, List.not_mem_nil, or_false, Prod.mk.injEq]; omega)
      · intro x y h1 hx hp
        exact w4 x y (m5b (n5 h1) (fun c => hp (by rw [c]; exact h2))) (by simp only [List.mem_cons, List.not_mem_nil, or_false, Prod.mk.injEq]; omega)
