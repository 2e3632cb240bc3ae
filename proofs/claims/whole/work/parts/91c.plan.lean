/-! ONE ROPE OF THE TIMETABLE -/
def ent (p G : Int32) (T : T3) (mi y : Int32) : T3 := (mxI mi T.2.1, T.1, dsv G T.1 y)
def rlg (p q G h own cm d : Int32) : Nat × T3 × T3 := if own = -1 then (if cm = -1 then (0, (0, 0, 0), (0, 0, 0)) else (1, ent p G (d, 0, -1) cm 1, (0, 0, 0))) else if cm = -1 then (1, ent p G (d, 0, -1) h own, (0, 0, 0)) else if cm < h then (2, ent p G (d, 0, -1) cm 1, ent p G (dst p q G (d, 0, -1) cm 1) h own) else (2, ent p G (d, 0, -1) h own, ent p G (dst p q G (d, 0, -1) h own) cm 1)
def atE (σ : St) (a : Nat) (e : T3) : Prop := gI σ 22 a = e.1 ∧ gI σ 23 a = e.2.1 ∧ gI σ 24 a = e.2.2
def isLog (σ : St) (r : Nat) (L : Nat × T3 × T3) : Prop := gI σ 25 r = iZ (L.1 : Int) ∧ (0 < L.1 → atE σ (2 * r) L.2.1) ∧ (1 < L.1 → atE σ (2 * r + 1) L.2.2)
/-- the state of a rope's plan -/
def rSt (σ0 σ : St) (r k : Nat) (p q : Int32) (T : T3) : Prop := gI σ 21 5 = p ∧ gI σ 21 6 = q ∧ gI σ 21 8 = T.1 ∧ gI σ 21 9 = T.2.1 ∧ gI σ 21 10 = T.2.2 ∧ gI σ 25 r = iZ (k : Int) ∧ gI σ 26 r = T.2.1 ∧ (∀ j, j ≠ r → gI σ 26 j = gI σ0 26 j ∧ gI σ 25 j = gI σ0 25 j) ∧ (∀ j, j ≠ 2 * r → j ≠ 2 * r + 1 → gI σ 22 j = gI σ0 22 j ∧ gI σ 23 j = gI σ0 23 j ∧ gI σ 24 j = gI σ0 24 j)
theorem rSt.step {σ0 σ : St} {r k : Nat} {p q G : Int32} {T : T3} (h : rSt σ0 σ r k p q T) (hr : r < 12) (hk : k < 2) (mi y : Int32) (hG : rg G 0 12) (hd : rg T.1 0 9) (hy : rg y 0 9) : ∃ σ', f_X6_driveFrom (iZ (r : Int)) mi y G σ = some σ' ∧ rSt σ0 σ' r (k + 1) p q (dst p q G T mi y) ∧ rg (dst p q G T mi y).1 0 9 ∧ atE σ' (2 * r + k) (ent p G T mi y) ∧ (∀ j, j ≠ 2 * r + k → ∀ e, atE σ j e → atE σ' j e) := by
  obtain ⟨h5, h6, h8, h9, h10, h25, h26, hj, hl⟩ := h
  obtain ⟨σ', e1, a1, a2, a3, a4, a5, a6, a7, a8, a9, a10⟩ := c_dF hr hk h5 h6 h8 h9 h10 h25 mi y G hd hy
  have sm := (fr_X6_driveFrom e1).same (C := []) (G := [(21, 5), (21, 6)]) rfl
  refine ⟨σ', e1, ⟨by rw [sm.I 21 5]; exact h5, by rw [sm.I 21 6]; exact h6, a1, a2, a3, a6, a4, ?_, ?_⟩, dsv_rg hG hd hy, ⟨a7, a8, a9⟩, ?_⟩
  · intro j hjr
    rw [(a5 j hjr).1, (a5 j hjr).2]; exact hj j hjr
  · intro j j1 j2
    obtain ⟨b1, b2, b3⟩ := a10 j (by omega)
    rw [b1, b2, b3]; exact hl j j1 j2
  · intro j hjn e he
    obtain ⟨b1, b2, b3⟩ := a10 j hjn
    unfold atE at he ⊢
    rw [b1, b2, b3]; exact he
theorem rg1 : rg (1 : Int32) 0 9 := by unfold rg; rw [t_1]; omega
theorem c_planRope {σ : St} {r : Nat} {p q sh d own cm G : Int32} (hr : r < 12) (e5 : gI σ 21 5 = p) (e6 : gI σ 21 6 = q) (e7 : gI σ 21 7 = sh) (e8 : gI σ 21 8 = d) (hG : rg G 0 12) (hd : rg d 0 9) (ho : own = -1 ∨ rg own 0 9) : ∃ σ', f_X6_planRope (iZ (r : Int)) own cm G σ = some ((rpl p q G (sh * iZ (r : Int)) own cm d).2.2, σ') ∧ gI σ' 26 r = (rpl p q G (sh * iZ (r : Int)) own cm d).2.1 ∧ (∀ j, j ≠ r → gI σ' 26 j = gI σ 26 j ∧ gI σ' 25 j = gI σ 25 j) ∧ (∀ j, j ≠ 2 * r → j ≠ 2 * r + 1 → gI σ' 22 j = gI σ 22 j ∧ gI σ' 23 j = gI σ 23 j ∧ gI σ' 24 j = gI σ 24 j) ∧ isLog σ' r (rlg p q G (sh * iZ (r : Int)) own cm d) := by
  have b12 := iZb hr (show 12 < 2147483648 by omega)
  unfold f_X6_planRope f_X6_planRope_19
  rw [gd_t b12, gd_t b12, iZc (show r < 2147483648 by omega)]
  have g7 : gI (sI (sI (sI (sI σ 25 r 0) 26 r 0) 21 9 0) 21 10 (-1)) 21 7 = sh := by
    rw [g_sI_ne (by omega), g_sI_ne (by omega), g_sI_c (by omega), g_sI_c (by omega)]; exact e7
  rw [g7]
  have r0 : rSt σ (sI (sI (sI (sI σ 25 r 0) 26 r 0) 21 9 0) 21 10 (-1)) r 0 p q (d, 0, -1) := by
    refine ⟨?_, ?_, ?_, ?_, ?_, ?_, ?_, ?_, ?_⟩
    · rw [g_sI_ne (by omega), g_sI_ne (by omega), g_sI_c (by omega), g_sI_c (by omega)]; exact e5
    · rw [g_sI_ne (by omega), g_sI_ne (by omega), g_sI_c (by omega), g_sI_c (by omega)]; exact e6
    · rw [g_sI_ne (by omega), g_sI_ne (by omega), g_sI_c (by omega), g_sI_c (by omega)]; exact e8
    · rw [g_sI_ne (by omega), g_sI_eq]
    · rw [g_sI_eq]
    · rw [g_sI_c (by omega), g_sI_c (by omega), g_sI_c (by omega), g_sI_eq]; rfl
    · rw [g_sI_c (by omega), g_sI_c (by omega), g_sI_eq]
    · intro j hj
      refine ⟨?_, ?_⟩
      · rw [g_sI_c (by omega), g_sI_c (by omega), g_sI_ne (by omega), g_sI_c (by omega)]
      · rw [g_sI_c (by omega), g_sI_c (by omega), g_sI_c (by omega), g_sI_ne (by omega)]
    · intro j _ _
      refine ⟨?_, ?_, ?_⟩
      · rw [g_sI_c (by omega), g_sI_c (by omega), g_sI_c (by omega), g_sI_c (by omega)]
      · rw [g_sI_c (by omega), g_sI_c (by omega), g_sI_c (by omega), g_sI_c (by omega)]
      · rw [g_sI_c (by omega), g_sI_c (by omega), g_sI_c (by omega), g_sI_c (by omega)]
  generalize sI (sI (sI (sI σ 25 r 0) 26 r 0) 21 9 0) 21 10 (-1) = τ at r0 ⊢
  generalize hh : sh * iZ (r : Int) = h
  unfold f_X6_planRope_32 f_X6_planRope_47 f_X6_planRope_48 f_X6_planRope_64 f_X6_planRope_79 f_X6_planRope_98
  unfold rpl rlg
  have fin : ∀ (τ' : St) (k : Nat) (T : T3) (L : Nat × T3 × T3), rSt σ τ' r k p q T → L.1 = k → (0 < k → atE τ' (2 * r) L.2.1) → (1 < k → atE τ' (2 * r + 1) L.2.2) → ∃ σ', some (gI τ' 21 10, τ') = some (T.2.2, σ') ∧ gI σ' 26 r = T.2.1 ∧ (∀ j, j ≠ r → gI σ' 26 j = gI σ 26 j ∧ gI σ' 25 j = gI σ 25 j) ∧ (∀ j, j ≠ 2 * r → j ≠ 2 * r + 1 → gI σ' 22 j = gI σ 22 j ∧ gI σ' 23 j = gI σ 23 j ∧ gI σ' 24 j = gI σ 24 j) ∧ isLog σ' r L := by
    intro τ' k T L hs hL l0 l1
    obtain ⟨h5, h6, h8, h9, h10, h25, h26, hj, hl⟩ := hs
    exact ⟨τ', by rw [h10], h26, hj, hl, by rw [h25, hL], by rw [hL]; exact l0, by rw [hL]; exact l1⟩
  by_cases co : own = -1
  · simp only [if_pos co]
    by_cases cc : cm = -1
    · simp only [if_pos cc, if_true]
      exact fin τ 0 _ _ r0 rfl (fun c => by omega) (fun c => by omega)
    · simp only [if_neg cc]
      obtain ⟨τ1, e1, r1, g1, l1, k1⟩ := r0.step hr (by omega) cm 1 hG hd rg1
      by_cases ch : h ≤ cm
      · simp only [if_pos ch, if_true]
        rw [bnd e1]
        exact fin τ1 1 _ _ r1 rfl (fun _ => l1) (fun c => by omega)
      · simp only [if_neg ch, ne_10, if_false]
        rw [bnd e1]
        exact fin τ1 1 _ _ r1 rfl (fun _ => l1) (fun c => by omega)
  · simp only [if_neg co]
    have ho' : rg own 0 9 := by
      rcases ho with q1 | q1
      · exact absurd q1 co
      · exact q1
    by_cases cc : cm = -1
    · simp only [if_pos cc, if_true]
      obtain ⟨τ1, e1, r1, g1, l1, k1⟩ := r0.step hr (by omega) h own hG hd ho'
      rw [bnd e1]
      exact fin τ1 1 _ _ r1 rfl (fun _ => l1) (fun c => by omega)
    · simp only [if_neg cc]
      by_cases ch : h ≤ cm
      · have ch2 : ¬ cm < h := by rw [leI] at ch; rw [lI]; omega
        simp only [if_pos ch, if_true, if_neg ch2]
        obtain ⟨τ1, e1, r1, g1, l1, k1⟩ := r0.step hr (by omega) h own hG hd ho'
        obtain ⟨τ2, e2, r2, g2, l2, k2⟩ := r1.step hr (by omega) cm 1 hG g1 rg1
        rw [bnd e1, bnd e2]
        exact fin τ2 2 _ _ r2 rfl (fun _ => k2 (2 * r) (by omega) _ l1) (fun _ => l2)
      · have ch2 : cm < h := by rw [leI] at ch; rw [lI]; omega
        simp only [if_neg ch, ne_10, if_false, if_pos ch2]
        obtain ⟨τ1, e1, r1, g1, l1, k1⟩ := r0.step hr (by omega) cm 1 hG hd rg1
        obtain ⟨τ2, e2, r2, g2, l2, k2⟩ := r1.step hr (by omega) h own hG g1 ho'
        rw [bnd e1, bnd e2]
        exact fin τ2 2 _ _ r2 rfl (fun _ => k2 (2 * r) (by omega) _ l1) (fun _ => l2)
/-- all ropes -/
def ownI (v N : Nat) (r : Nat) : Int32 := if r < N then dgI v r else -1
def cmS (p q sh : Int32) (F D : Nat → Int32) (v N : Nat) : Nat → Int32
  | 0 => -1
  | r + 1 => (rpl p q (F r) (sh * iZ (r : Int)) (ownI v N r) (cmS p q sh F D v N r) (D r)).2.2
abbrev rpS (p q sh : Int32) (F D : Nat → Int32) (v N r : Nat) : T3 := rpl p q (F r) (sh * iZ (r : Int)) (ownI v N r) (cmS p q sh F D v N r) (D r)
abbrev lgS (p q sh : Int32) (F D : Nat → Int32) (v N r : Nat) : Nat × T3 × T3 := rlg p q (F r) (sh * iZ (r : Int)) (ownI v N r) (cmS p q sh F D v N r) (D r)
theorem own_rg (v N r : Nat) : ownI v N r = -1 ∨ rg (ownI v N r) 0 9 := by
  unfold ownI
  by_cases c : r < N
  · rw [if_pos c]; exact Or.inr (dg_rg v r)
  · rw [if_neg c]; exact Or.inl rfl
theorem c_plan_go {R v N : Nat} {p q sh : Int32} {F D : Nat → Int32} (hR : R ≤ 12) (hv : v < 10 ^ 9) (hN : N ≤ R) (hF : okF F) (hD : ∀ j, j < 12 → rg (D j) 0 9) : ∀ m n r : Nat, ∀ σ : St, r + m = R → m < n → gI σ 1 0 = iZ (R : Int) → gI σ 21 5 = p → gI σ 21 6 = q → gI σ 21 7 = sh → (∀ j, j < 12 → gI σ 2 j = D j ∧ gI σ 3 j = F j) → (∀ j, j < r → gI σ 26 j = (rpS p q sh F D v N j).2.1 ∧ isLog σ j (lgS p q sh F D v N j)) → ∃ σ', f_X6_plan_34 1 n (iZ (v : Int)) (iZ ((N : Int) - 1)) (cmS p q sh F D v N r) (iZ (r : Int)) σ = some σ' ∧ (∀ j, j < R → gI σ' 26 j = (rpS p q sh F D v N j).2.1 ∧ isLog σ' j (lgS p q sh F D v N j)) ∧ gI σ' 21 5 = p := by
  have e9 : 10 ^ 9 = 1000000000 := by decide
  have e18 : 10 ^ 18 = 1000000000000000000 := by decide
  have ev : (iZ (v : Int)).toInt64 = jZ (v : Int) := iZ_l (by omega) (by omega)
  intro m
  induction m with
  | zero =>
    intro n r σ e hn hr h5 _ _ _ hl
    cases n with
    | zero => omega
    | succ n =>
      have : r = R := by omega
      subst this
      rw [f_X6_plan_34, if_pos (by rw [hr, leI]; exact Int.le_refl _)]
      exact ⟨σ, rfl, hl, h5⟩
  | succ m ih =>
    intro n r σ e hn hr h5 h6 h7 hDF hl
    cases n with
    | zero => omega
    | succ n =>
      have b12 := iZb (show r < 12 by omega) (show 12 < 2147483648 by omega)
      obtain ⟨d1, d2⟩ := hDF r (by omega)
      rw [f_X6_plan_34, if_neg (by rw [hr, leI, iZt (by omega), iZt (by omega)]; omega), gd_t b12, iZc (show r < 2147483648 by omega), d1]
      generalize hτ : sI σ 21 8 (D r) = τ
      have t8 : gI τ 21 8 = D r := by rw [← hτ, g_sI_eq]
      have t5 : gI τ 21 5 = p := by rw [← hτ, g_sI_ne (by omega)]; exact h5
      have t6 : gI τ 21 6 = q := by rw [← hτ, g_sI_ne (by omega)]; exact h6
      have t7 : gI τ 21 7 = sh := by rw [← hτ, g_sI_ne (by omega)]; exact h7
      have tc : ∀ a, a ≠ 21 → gI τ a = gI σ a := fun a ha => by rw [← hτ, g_sI_c ha]
      obtain ⟨σ1, e1, a1, a2, a3, a4⟩ := c_planRope (σ := τ) (r := r) (own := ownI v N r) (cm := cmS p q sh F D v N r) (G := F r) (by omega) t5 t6 t7 t8 (hF r (by omega)) (hD r (by omega)) (own_rg v N r)
      have sm := (fr_X6_planRope e1).same (C := [1, 2, 3]) (G := [(21, 5), (21, 6), (21, 7)]) rfl
      have step : f_X6_plan_75 1 (f_X6_plan_34 1 n) (iZ (v : Int)) (iZ ((N : Int) - 1)) (cmS p q sh F D v N r) (iZ (r : Int)) (ownI v N r) (iZ (r : Int)) τ = f_X6_plan_34 1 n (iZ (v : Int)) (iZ ((N : Int) - 1)) (cmS p q sh F D v N (r + 1)) (iZ ((r + 1 : Nat) : Int)) σ1 := by
        unfold f_X6_plan_75
        rw [gd_t b12, iZc (show r < 2147483648 by omega), tc 3 (by omega), d2, bnd e1, iZs]
        rfl
      have goal : ∃ σ', f_X6_plan_75 1 (f_X6_plan_34 1 n) (iZ (v : Int)) (iZ ((N : Int) - 1)) (cmS p q sh F D v N r) (iZ (r : Int)) (ownI v N r) (iZ (r : Int)) τ = some σ' ∧ (∀ j, j < R → gI σ' 26 j = (rpS p q sh F D v N j).2.1 ∧ isLog σ' j (lgS p q sh F D v N j)) ∧ gI σ' 21 5 = p := by
        rw [step]
        refine ih n (r + 1) σ1 (by omega) (by omega) ?_ ?_ ?_ ?_ ?_ ?_
        · rw [sm.cI 1, tc 1 (by omega)]; exact hr
        · rw [sm.I 21 5]; exact t5
        · rw [sm.I 21 6]; exact t6
        · rw [sm.I 21 7]; exact t7
        · intro j hj
          rw [sm.cI 2, sm.cI 3, tc 2 (by omega), tc 3 (by omega)]; exact hDF j hj
        · intro j hj
          by_cases c : j = r
          · subst c; exact ⟨a1, a4⟩
          · obtain ⟨l1, l2, l3, l4⟩ := hl j (by omega)
            refine ⟨?_, ?_, fun c0 => ?_, fun c1 => ?_⟩
            · rw [(a2 j c).1, tc 26 (by omega)]; exact l1
            · rw [(a2 j c).2, tc 25 (by omega)]; exact l2
            · obtain ⟨b1, b2, b3⟩ := a3 (2 * j) (by omega) (by omega)
              unfold atE
              rw [b1, b2, b3, tc 22 (by omega), tc 23 (by omega), tc 24 (by omega)]; exact l3 c0
            · obtain ⟨b1, b2, b3⟩ := a3 (2 * j + 1) (by omega) (by omega)
              unfold atE
              rw [b1, b2, b3, tc 22 (by omega), tc 23 (by omega), tc 24 (by omega)]; exact l4 c1
      by_cases c : r < N
      · have eo : ownI v N r = dgI v r := if_pos c
        rw [if_neg (by rw [lI, iZ_toInt (by omega) (by omega), iZt (by omega)]; omega), ev, bnd (s_digitOf9 τ v r (by omega) (by omega))]
        rw [eo] at goal
        exact goal
      · have eo : ownI v N r = -1 := if_neg c
        rw [if_pos (by rw [lI, iZ_toInt (by omega) (by omega), iZt (by omega)]; omega)]
        rw [eo] at goal
        exact goal
