/-! FEWEST -/
def sHv (a : Nat → Int32) : Nat → Nat
  | 0 => 0
  | k + 1 => sHv a k + nu a k
theorem su_lo {a : Nat → Int32} (ha : okH a) {k : Nat} (hk : k ≤ 8) : ∀ n : Nat, n ≤ k → esum (hg a (iZ ((2 ^ k - 1 : Nat) : Int))) n = (sHv a n : Int)
  | 0, _ => rfl
  | n + 1, h => by
    have hp := pow8 hk
    show esum _ n + (if bitI (iZ ((2 ^ k - 1 : Nat) : Int)) n then (a n).toInt else 0) = ((sHv a n + nu a n : Nat) : Int)
    have q := ha n
    unfold rg at q
    rw [su_lo ha hk n (by omega), if_pos (by rw [bitZ8 (by omega) (by omega), Nat.testBit_two_pow_sub_one, decide_eq_true (by omega)])]
    unfold nu
    omega
theorem su_hi {a : Nat → Int32} (ha : okH a) {k : Nat} (hk : k ≤ 8) : ∀ m : Nat, k + m ≤ 8 → esum (hg a (iZ ((2 ^ k - 1 : Nat) : Int))) (k + m) = (sHv a k : Int)
  | 0, _ => su_lo ha hk k (Nat.le_refl _)
  | m + 1, h => by
    have hp := pow8 hk
    show esum _ (k + m) + (if bitI (iZ ((2 ^ k - 1 : Nat) : Int)) (k + m) then (a (k + m)).toInt else 0) = _
    rw [su_hi ha hk m (by omega), if_neg (by rw [bitZ8 (by omega) (by omega), Nat.testBit_two_pow_sub_one, decide_eq_false (by omega)]; simp)]
    omega
theorem su_low {a : Nat → Int32} (ha : okH a) {k H : Nat} (hk : k ≤ H) (hH : H ≤ 8) : su a H (2 ^ k - 1) = sHv a k := by
  unfold su
  have := su_hi ha (show k ≤ 8 by omega) (H - k) (by omega)
  rw [show k + (H - k) = H by omega] at this
  rw [this, Int.toNat_natCast]
theorem told_eq {R H : Nat} {a : Nat → Int32} (hR : R ≤ 12) (hH : H ≤ 8) (ha : okH a) {τ : St} (hm : Hmd R H a τ) : ∀ m n n' k : Nat, ∀ σ : St, ∀ w : Int32, k + m = H → m < n → m < n' → CIR R σ (sHv a k) w → gI σ 20 = a → gI σ 19 1 = iZ (H : Int) → ∃ r σ', f_X3_walksAsTold_2 5 n (iZ (k : Int)) σ = some (r, σ') ∧ f_X10_fewest_35 n' w (iZ (k : Int)) τ = some (r, τ) ∧ frm W5 [] σ σ' := by
  have hp := pow8 hH
  intro m
  induction m with
  | zero =>
    intro n n' k σ w e hn hn' ci h20 h19
    cases n with
    | zero => omega
    | succ n =>
      cases n' with
      | zero => omega
      | succ n' =>
        refine ⟨w, σ, ?_, ?_, frm.rf σ⟩
        · rw [f_X3_walksAsTold_2, if_pos (by rw [h19, leI, iZt (by omega), iZt (by omega)]; omega)]
          obtain ⟨V, r, _, _, hw⟩ := ci
          rw [r.2.2.1, hw]
        · rw [f_X10_fewest_35, if_pos (by rw [hm.2.1, leI, iZt (by omega), iZt (by omega)]; omega)]
  | succ m ih =>
    intro n n' k σ w e hn hn' ci h20 h19
    cases n with
    | zero => omega
    | succ n =>
      cases n' with
      | zero => omega
      | succ n' =>
        have hk2 : 2 ^ k ≤ 256 := pow8 (show k ≤ 8 by omega)
        have hk1 : 0 < 2 ^ k := Nat.pow_pos (by omega)
        obtain ⟨n1, n2, n3⟩ := nu_b ha k
        have hsl := su_low ha (show k ≤ H by omega) hH
        have s18 := (su_eq ha hH (2 ^ k - 1)).2
        rw [hsl] at s18
        obtain ⟨σ1, e1, c1⟩ := c_addR hR ci s18 n2
        have f1 : frm W5 [] σ σ1 := (fr_X7_bring_n 5 e1).mo2 (by decide) (by decide)
        obtain ⟨r, σ', i1, i2, i3⟩ := ih n n' (k + 1) σ1 (w + wkR R (sHv a k) (nu a k)) (by omega) (by omega) (by omega) c1 (by rw [f1.rI (by decide)]; exact h20) (by rw [f1.rI (by decide)]; exact h19)
        refine ⟨r, σ', ?_, ?_, f1.tr i3⟩
        · rw [f_X3_walksAsTold_2, if_neg (by rw [h19, leI, iZt (by omega), iZt (by omega)]; omega), gd_t (iZb (by omega) (by omega)), iZc (by omega), h20, n1, bnd e1, iZs]
          exact i1
        · have e2 : shlI 1 (iZ (k : Int)) - 1 = iZ ((2 ^ k - 1 : Nat) : Int) := by
            have : (1 : Int32) = iZ 1 := rfl
            rw [sh_nI (H := k) (by omega) (by rw [iZt (by omega)]), this, iZ_sub]; congr 1; omega
          rw [f_X10_fewest_35, if_neg (by rw [hm.2.1, leI, iZt (by omega), iZt (by omega)]; omega), e2, bnd (m_sum hH ha hm _), gd_t (iZb (by omega) (by omega)), iZc (show k < 2147483648 by omega), bnd (m_wk hR hH ha hm _ k)]
          unfold f_X10_fewest_69
          rw [iZs]
          dsimp only
          show f_X10_fewest_35 n' (w + wkR R (su a H (2 ^ k - 1)) (nu a k)) _ τ = _
          rw [hsl]
          exact i2
theorem m_fewest {X : En} {σ : St} (x : Int32) (hz72 : 72 ≤ eZ X) (hz : eZ X ≤ 900000) (h : Rrop σ) (r : Rhar σ) (m : Rrem X σ) : ∃ v Y σ1 σ2, g_X9_fewest x X σ = some (v, Y, σ1) ∧ f_X10_fewest x σ1 = some (v, σ2) ∧ Rrem Y σ2 ∧ ext X Y ∧ eZ Y ≤ eZ X + 1 ∧ eY X ≤ eY Y ∧ eY Y ≤ eY X + 256 ∧ low72 [5, 6, 7, 8, 55] [(19, 2), (19, 3)] σ σ2 ∧ hiB (fun c => gR σ 19 2 = some c) X σ σ2 := by
  obtain ⟨h1, h2, h3⟩ := h
  obtain ⟨r1, ⟨r2, r3⟩, r4, r5⟩ := r
  obtain ⟨R, hR, hRb⟩ : ∃ R : Nat, gI σ 1 0 = iZ (R : Int) ∧ R ≤ 12 := ⟨(gI σ 1 0).toInt.toNat, iZof (by omega), by omega⟩
  obtain ⟨H, hH, hHb⟩ : ∃ H : Nat, gI σ 19 1 = iZ (H : Int) ∧ H ≤ 8 := ⟨(gI σ 19 1).toInt.toNat, iZof (by omega), by omega⟩
  have no : ∀ τ : St, f_X10_fewest_23 τ = some (-2, τ) := fun τ => rfl
  have nc : g_X9_fewest_26 X σ = some (-2, X, σ) := rfl
  have stay : Rrem X σ ∧ ext X X ∧ eZ X ≤ eZ X + 1 ∧ eY X ≤ eY X ∧ eY X ≤ eY X + 256 ∧ low72 [5, 6, 7, 8, 55] [(19, 2), (19, 3)] σ σ ∧ hiB (fun c => gR σ 19 2 = some c) X σ σ := ⟨m, ext.rf X, by omega, by omega, by omega, fun a b _ _ _ => ⟨rfl, rfl, rfl⟩, fun a b _ _ _ => ⟨rfl, rfl, rfl⟩⟩
  unfold g_X9_fewest g_X9_fewest_b f_X10_fewest
  by_cases c0 : gI σ 19 1 = 0
  · refine ⟨-2, X, σ, σ, ?_, ?_, stay⟩
    · rw [if_pos c0, bnd nc, wrp]
    · rw [r1, if_pos c0]; rfl
  · by_cases c1 : -1 ≤ x.toInt ∧ x.toInt ≤ (gI σ 19 1).toInt
    · rw [if_neg c0, if_neg (by rw [lI, t_m1]; omega), if_pos (by rw [leI]; exact c1.2)]
      have hH0 : 0 < H := by
        rw [hH, eI, iZt (by omega), t_0] at c0; omega
      have e1 := c_clear (o := 5) R σ
      obtain ⟨p, e1, cl, _⟩ := e1
      have fp : frm W5 [] σ p := (fr_X7_clear 5 e1).mo2 (by decide) (by decide)
      have ci : CIR R p 0 0 := ⟨_, cl, fun j hj => by show rg 0 0 9; unfold rg; rw [t_0]; omega, fun j hj => by
        show (0 : Int32) = dgI 0 j
        unfold dgI dgN
        rw [Nat.zero_div]; rfl, rfl⟩
      have p20 : gI p 20 = gI σ 20 := fp.rI (by decide)
      have p19 : gI p 19 1 = iZ (H : Int) := by rw [fp.rI (by decide)]; exact hH
      have p10 : gI p 1 0 = iZ (R : Int) := by rw [fp.rI (by decide)]; exact hR
      have hmd : ∀ q, low72 [5, 6, 7, 8, 55] [(19, 2), (19, 3)] σ q → Hmd R H (gI σ 20) q ∧ gI q 38 33 = gI σ 19 1 := fun q hq => by
        have s := hq.same (C := [54]) (G := [(38, 33), (38, 1)]) rfl rfl rfl
        refine ⟨⟨?_, ?_, ?_⟩, ?_⟩
        · rw [s.cI 54]; exact r4
        · rw [s.I 38 33, r1]; exact hH
        · rw [s.I 38 1, h1]; exact hR
        · rw [s.I 38 33, r1]
      have hR' := hR
      rw [hR, bnd e1]
      have gate : ∀ q : St, gI q 38 33 = gI σ 19 1 → f_X10_in x.toInt64 (-1) ((gI q 38 33).toInt64) q = some (1, q) := fun q hq => by
        rw [s_in, hq, bZ_t (by rw [t64, t64, l_m1]; exact c1)]
      by_cases cm : x = -1
      · rw [if_pos cm]
        have l1 : low72 [5, 6, 7, 8, 55] [(19, 2), (19, 3)] σ p := fp.low (by decide) (by decide)
        obtain ⟨v, σ1, t1, t2, t3⟩ := told_eq hRb hHb r5 (hmd p l1).1 H FU FU 0 p 0 (by omega) (by unfold FU; omega) (by unfold FU; omega) ci p20 p19
        have f2 : frm W5 [] σ σ1 := fp.tr t3
        have l2 : low72 [5, 6, 7, 8, 55] [(19, 2), (19, 3)] σ σ1 := f2.low (by decide) (by decide)
        obtain ⟨v', σ', t1', t2', t3'⟩ := told_eq hRb hHb r5 (hmd σ1 l2).1 H FU FU 0 p 0 (by omega) (by unfold FU; omega) (by unfold FU; omega) ci p20 p19
        rw [t1] at t1'
        injection t1' with t1'
        injection t1' with t1' _
        have hi : hiB (fun c => gR σ 19 2 = some c) X σ σ1 := fun a b ha _ _ => f2 a b (n5 ha) (by simp)
        refine ⟨v, X, σ1, σ1, ?_, ?_, m.ex (f2.same rfl) (ext.rf X) (P := fun _ => False) (fun a b ha _ _ => f2 a b (n5 ha) (by simp)) (fun _ _ q => q), ext.rf X, by omega, by omega, by omega, l2, hi⟩
        · have t1'' : f_X3_walksAsTold 5 p = some (v, σ1) := t1
          rw [bnd t1'', bnd rfl, wrp]
        · obtain ⟨hm1, hm2⟩ := hmd σ1 l2
          rw [if_neg (by rw [hm2]; exact c0), bnd (gate σ1 hm2), if_neg (by show ¬ (1 : Int32) = 0; decide), if_pos cm, t1']
          exact t2'
      · rw [if_neg cm]
        have mp : Rrem X p := m.ex (fp.same rfl) (ext.rf X) (P := fun _ => False) (fun a b ha _ _ => fp a b (n5 ha) (by simp)) (fun _ _ q => q)
        obtain ⟨Y, q, b, e2, hq, ib, gq, q3, xe, xz, xy, xy2, lq, bq⟩ := c_weigh hRb hHb hH0 r5 hz72 hz ⟨0, 0, ci⟩ p20 p19 p10 mp
        have lq1 : low72 [5, 6, 7, 8, 55] [(19, 2), (19, 3)] σ q := (fp.low (by decide) (by decide)).tr (fun a b ha h1 h2 => lq a b ha (fun c => h1 (by
          simp only [W5, List.mem_cons, List.not_mem_nil, or_false] at c ⊢
          omega)) h2)
        have hq1 : hiB (fun c => gR σ 19 2 = some c) X σ q := (show hiB (fun c => gR σ 19 2 = some c) X σ p from fun a b ha _ _ => fp a b (n5 ha) (by simp)).tr (fun a b ha hx hn => bq a b ha hx (fun c => hn (by
          show gR σ 19 2 = some a
          rw [← c, fp.rR (by decide)])))
        have rq : Rrem Y q := by
          have h193 := hq.2.2.1
          have h10 : gI q 1 0 = iZ (R : Int) := by
            have s := lq1.same (C := []) (G := [(1, 0)]) rfl rfl rfl
            rw [s.I 1 0]; exact hR'
          refine ⟨?_, Or.inr ⟨b, hq.2.2.2, ib, fun _ => ?_⟩⟩
          · unfold rg
            rw [q3, h193, iZt (by omega)]; omega
          · rw [h193, h10, hq.2.1, iZt (by omega), iZt (by omega), Int.toNat_natCast, Int.toNat_natCast]
            exact gq
        have fin : ∀ q' τ, frm W5 [] q q' → frm [55] [] q' τ → Rrem Y τ ∧ ext X Y ∧ eZ Y ≤ eZ X + 1 ∧ eY X ≤ eY Y ∧ eY Y ≤ eY X + 256 ∧ low72 [5, 6, 7, 8, 55] [(19, 2), (19, 3)] σ τ ∧ hiB (fun c => gR σ 19 2 = some c) X σ τ := fun q' τ g1 g2 => by
          have g3 : frm [5, 6, 7, 8, 55] [] q τ := (g1.mo2 (by decide) (by simp)).tr (g2.mo2 (by decide) (by simp))
          have nb : ∀ a, 72 ≤ a → a ∉ [5, 6, 7, 8, 55] := fun a ha c => by
            simp only [List.mem_cons, List.not_mem_nil, or_false] at c
            omega
          refine ⟨rq.ex (g3.same rfl) (ext.rf Y) (P := fun _ => False) (fun a b ha _ _ => g3 a b (nb a ha) (by simp)) (fun _ _ q => q), xe, xz, xy, xy2, lq1.tr (g3.low (fun a h => h) (by simp)), hq1.tr (fun a b ha _ _ => g3 a b (nb a ha) (by simp))⟩
        have wrY : ∀ (z : Int32 × En × St), z.2.1 = Y → gd (Nat.ble (eZ X) (eZ z.2.1) && Nat.ble (eY X) (eY z.2.1)) (some z) = some z := fun z hz => by
          rw [hz, Nat.ble_eq_true_of_le xe.1, Nat.ble_eq_true_of_le xy]; rfl
        rw [bnd e2]
        by_cases c00 : x = 0
        · obtain ⟨hm1, hm2⟩ := hmd q lq1
          obtain ⟨τ, t1, t2, t3⟩ := m_look hRb hHb r5 hm1
          have hp1 : 0 < 2 ^ H := Nat.pow_pos (by omega)
          have eq0 := gdA_uniq hHb gq t2 (2 ^ H - 1) 0 (by omega)
          refine ⟨gI q b 0, Y, q, τ, ?_, ?_, fin q τ (frm.rf q) t3⟩
          · rw [if_pos c00]
            have e3 : g_X3_fewestWalks Y q = some (gI q b 0, Y, q) := by
              unfold g_X3_fewestWalks g_X3_fewestWalks_b g_X3_fewestWalks_17
              have rk1 := rk_t ib.1 (show b < 1000000 by have := ib.2.1; omega) ib.2.2.1
              rw [mR_s hq.2.2.2, gd_t rk1, mR_s hq.2.2.2, gd_t rk1, gd_t (by rw [mk_L ib.1, ib.2.2.2]; rfl), bnd rfl, wrp]
              rfl
            rw [bnd e3]
            unfold g_X9_fewest_99
            rw [bnd rfl, wrY _ rfl]
          · rw [if_neg (by rw [hm2]; exact c0), bnd (gate q hm2), if_neg (by show ¬ (1 : Int32) = 0; decide), if_neg cm, bnd t1, if_pos c00]
            unfold f_X10_fewest_101
            rw [eq0]; rfl
        · have hx1 : 0 < x.toInt := by
            rw [eI, t_m1] at cm
            rw [eI, t_0] at c00
            omega
          obtain ⟨u, hu, hub⟩ : ∃ u : Nat, x - 1 = iZ (u : Int) ∧ u < H := by
            refine ⟨x.toInt.toNat - 1, ?_, ?_⟩
            · have : (1 : Int32) = iZ 1 := rfl
              rw [← iZ_self x, this, iZ_sub]
              congr 1
              rw [iZ_self]; omega
            · have := c1.2
              rw [hH, iZt (by omega)] at this
              omega
          obtain ⟨τ0, _, t02, t03⟩ := m_look hRb hHb r5 (hmd q lq1).1
          have hp1 : 0 < 2 ^ H := Nat.pow_pos (by omega)
          have pz : ∀ n : Nat, popc 0 n = 0 := fun n => by
            induction n with
            | zero => rfl
            | succ n ih => rw [popc, ih, if_neg (by simp)]
          obtain ⟨v, q', w1, w2, w3, w4⟩ := cmF_eq hRb hHb r5 ib (by omega) hub ((hmd q lq1).1.to t03) t02 (u + 1) FU FU 0 0 q (-1) 0 (by omega) (by unfold FU; omega) (by unfold FU; omega) hq gq hp1 (by rw [pz]; omega) (Or.inl rfl)
          have lq2 : low72 [5, 6, 7, 8, 55] [(19, 2), (19, 3)] σ q' := lq1.tr (w4.low (by decide) (by decide))
          obtain ⟨hm1, hm2⟩ := hmd q' lq2
          obtain ⟨τ, t1, t2, t3⟩ := m_look hRb hHb r5 hm1
          obtain ⟨v', q'', w1', w2', _, _⟩ := cmF_eq hRb hHb r5 ib (by omega) hub (hm1.to t3) t2 (u + 1) FU FU 0 0 q (-1) 0 (by omega) (by unfold FU; omega) (by unfold FU; omega) hq gq hp1 (by rw [pz]; omega) (Or.inl rfl)
          rw [w1] at w1'
          injection w1' with w1'
          injection w1' with w1' _
          refine ⟨v, Y, q', τ, ?_, ?_, fin q' τ w4 t3⟩
          · rw [if_neg c00, hu]
            have e3 : g_X3_comesAt (iZ (u : Int)) Y q = some (v, Y, q') := by
              unfold g_X3_comesAt g_X3_comesAt_b
              have w1'' : g_X3_comesAt_8 FU (iZ (u : Int)) 0 (-1) 0 Y q = some (v, Y, q') := w1
              rw [bnd w1'', wrp]
            rw [bnd e3]
            unfold g_X9_fewest_99
            rw [bnd rfl, wrY _ rfl]
          · rw [if_neg (by rw [hm2]; exact c0), bnd (gate q' hm2), if_neg (by show ¬ (1 : Int32) = 0; decide), if_neg cm, bnd t1, if_neg c00, hu]
            have e4 : f_X10_comes (iZ (u : Int)) τ = some (v', τ) := w2'
            rw [bnd e4, w1']
            rfl
    · refine ⟨-2, X, σ, σ, ?_, ?_, stay⟩
      · rw [if_neg c0]
        by_cases c2 : x < -1
        · rw [if_pos c2, bnd nc, wrp]
        · rw [if_neg c2, if_neg (by rw [leI]; rw [lI, t_m1] at c2; omega), bnd nc, wrp]
      · rw [r1, if_neg c0, s_in, bZ_f (by rw [t64, t64, l_m1]; exact c1)]
        rfl
