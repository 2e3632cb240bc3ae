/-! THE WHOLE TAPE, FAULT -/
def rowsOk (s n : Nat) (lt : Nat → Int32) (vl f : Nat → Nat) (σ τ : St) : Prop := ∀ j, j < n → (gI σ 13 (3 * j) = lt j ∧ gI σ 13 (3 * j + 1) = iZ (vl j : Int) ∧ gI σ 13 (3 * j + 2) = iZ (f j : Int)) ∧ (gI τ 40 (12 * s + j) = lt j ∧ gI τ 41 (12 * s + j) = iZ (vl j : Int) ∧ gI τ 42 (12 * s + j) = iZ (f j : Int)) ∧ rg (lt j) 0 4 ∧ vl j < 10 ^ 9 ∧ 1 ≤ f j ∧ f j ≤ 9
def keepM (s : Nat) (τ τ' : St) : Prop := (∀ q, q < 12 * s → gI τ' 40 q = gI τ 40 q ∧ gI τ' 41 q = gI τ 41 q ∧ gI τ' 42 q = gI τ 42 q) ∧ ∀ k, k < s → gI τ' 43 k = gI τ 43 k
theorem keepM.rf (s : Nat) (τ : St) : keepM s τ τ := ⟨fun _ _ => ⟨rfl, rfl, rfl⟩, fun _ _ => rfl⟩
theorem keepM.tr {s : Nat} {τ τ1 τ2 : St} (h : keepM s τ τ1) (h2 : keepM s τ1 τ2) : keepM s τ τ2 := ⟨fun q hq => ⟨(h2.1 q hq).1.trans (h.1 q hq).1, (h2.1 q hq).2.1.trans (h.1 q hq).2.1, (h2.1 q hq).2.2.trans (h.1 q hq).2.2⟩, fun k hk => (h2.2 k hk).trans (h.2 k hk)⟩
theorem keepM_of {s i : Nat} {τ τ' : St} (h : frm [] (FT10 s i) τ τ') : keepM s τ τ' := by
  refine ⟨fun q hq => ⟨?_, ?_, ?_⟩, fun k hk => ?_⟩
  · exact (h 40 q (by simp) (by simp; omega)).1
  · exact (h 41 q (by simp) (by simp; omega)).1
  · exact (h 42 q (by simp) (by simp; omega)).1
  · exact (h 43 k (by simp) (by simp; omega)).1
theorem keepM_low {s : Nat} {F : List (Nat × Nat)} {τ τ' : St} (h : frm [] F τ τ') (hf : ∀ p ∈ F, p.1 = 38) : keepM s τ τ' := by
  refine ⟨fun q hq => ⟨?_, ?_, ?_⟩, fun k hk => ?_⟩
  · exact (h 40 q (by simp) (fun c => by have := hf _ c; simp at this)).1
  · exact (h 41 q (by simp) (fun c => by have := hf _ c; simp at this)).1
  · exact (h 42 q (by simp) (fun c => by have := hf _ c; simp at this)).1
  · exact (h 43 k (by simp) (fun c => by have := hf _ c; simp at this)).1
def rowN {α : Type} (g : Nat → α) (i : Nat) (x : α) : Nat → α := fun j => if j = i then x else g j
theorem rows_next {s i b T N} {lt : Nat → Int32} {vl f : Nat → Nat} {σ σ' τ τ' : St} (h : rowsOk s i lt vl f σ τ) (f9 : frm [] (FT9 i) σ σ') (f10 : frm [] (FT10 s i) τ τ') (k : stepOk T N s i b σ' τ') : ∃ lt vl f, rowsOk s (i + 1) lt vl f σ' τ' := by
  obtain ⟨b', _, _, _, _, l, v, w, k1, k2, k3, k4, k5, k6, k7, k8, k9, k10⟩ := k
  refine ⟨rowN lt i l, rowN vl i v, rowN f i w, fun j hj => ?_⟩
  by_cases q : j = i
  · subst q
    simp only [rowN, if_true]
    exact ⟨⟨k5, k6, k7⟩, ⟨k8, k9, k10⟩, k1, k2, k3, k4⟩
  · obtain ⟨⟨a1, a2, a3⟩, ⟨b1, b2, b3⟩, c⟩ := h j (by omega)
    simp only [rowN, if_neg q]
    refine ⟨⟨?_, ?_, ?_⟩, ⟨?_, ?_, ?_⟩, c⟩
    · rw [(f9 13 _ (by simp) (by simp; omega)).1]; exact a1
    · rw [(f9 13 _ (by simp) (by simp; omega)).1]; exact a2
    · rw [(f9 13 _ (by simp) (by simp; omega)).1]; exact a3
    · rw [(f10 40 _ (by simp) (by simp; omega)).1]; exact b1
    · rw [(f10 41 _ (by simp) (by simp; omega)).1]; exact b2
    · rw [(f10 42 _ (by simp) (by simp; omega)).1]; exact b3
theorem rows_to {s i : Nat} {lt : Nat → Int32} {vl f : Nat → Nat} {σ σ' τ τ' : St} (h : rowsOk s i lt vl f σ τ) (h13 : gI σ' 13 = gI σ 13) (h40 : gI τ' 40 = gI τ 40) (h41 : gI τ' 41 = gI τ 41) (h42 : gI τ' 42 = gI τ 42) : rowsOk s i lt vl f σ' τ' := by
  intro j hj
  rw [h13, h40, h41, h42]
  exact h j hj
theorem rd_88 {τ : St} {w : Int32} (hw : gI τ 38 5 = w) (h : ¬ w = -1) (n : Nat) (x : Int32) : f_X10_read_22 (n + 1) x τ = some (w, τ) := by
  rw [f_X10_read_22, hw, if_neg h]
  unfold f_X10_read_68 f_X10_read_88
  rw [hw, if_neg h]
/-- the end of what is read: something more stands there, or nothing -/
theorem rd_68 {T : Nat → Int32} {N b : Nat} {τ : St} (hT : okTp T N) (hb : b ≤ N) (hs : sk T N b = b) (h : At10 T N b (-1) τ) : ∃ τ', f_X10_read_68 τ = some (if b < N then iZ (b : Int) else -1, τ') ∧ frm [] [(38, 4), (38, 5)] τ τ' := by
  unfold f_X10_read_68 f_X10_read_88
  rw [h.2.2.2, if_pos rfl]
  obtain ⟨τ1, a1, a2, a3⟩ := tp_look hT hb h
  rw [bnd a1]
  rw [hs] at a2 ⊢
  show ∃ τ', (if hr T N b = -1 then _ else _) = _ ∧ _
  by_cases q : b < N
  · rw [if_neg (by rw [hr_in q, eI, t_m1]; have := (hT.2 b).1; omega), if_pos q]
    obtain ⟨τ2, c1, c2, c3⟩ := m_bad a2
    rw [bnd c1, c2.2.2.2]
    exact ⟨τ2, rfl, (a3.mo (by simp) (by simp)).tr (c3.mo (by simp) (by simp))⟩
  · rw [if_pos (hr_out q), if_neg q]
    refine ⟨τ1, ?_, a3.mo (by simp) (by simp)⟩
    show some (gI τ1 38 5, τ1) = _
    rw [a2.2.2.2]
theorem p_look {X : En} {T : Nat → Int32} {N s : Nat} (hT : okTp T N) (hs : s < 7) : ∀ m n n' i a : Nat, ∀ lt vl f, ∀ σ τ : St, i + m = 11 → m < n → m < n' → a ≤ N → At9 T N a σ → At10 T N a (-1) τ → gI σ 11 3 = iZ (i : Int) → gI τ 43 s = iZ (i : Int) → rowsOk s i lt vl f σ τ →
    ∃ r σ' τ1 τ', g_X5_look_50 (g_X5_look_10 n) X σ = some (r, X, σ') ∧ f_X10_stepOf (iZ (s : Int)) τ = some τ1 ∧ f_X10_read_22 n' (iZ (s : Int)) τ1 = some (r, τ') ∧ frm [13] [(11, 3), (11, 4)] σ σ' ∧ keepM s τ τ' ∧
      (r = -1 → ∃ (k : Nat) (lt : Nat → Int32) (vl f : Nat → Nat), k ≤ 12 ∧ gI σ' 11 3 = iZ (k : Int) ∧ gI τ' 43 s = iZ (k : Int) ∧ rowsOk s k lt vl f σ' τ') := by
  have hT1 := hT.1
  have h59 : (59 : Int32).toInt = 59 := rfl
  intro m
  induction m with
  | zero =>
    intro n n' i a lt vl f σ τ e hn hn' ha h9 h10 h3 h43 hro
    cases n with
    | zero => omega
    | succ n =>
      cases n' with
      | zero => omega
      | succ n' =>
        have ei : i = 11 := by omega
        unfold g_X5_look_50
        have e3 : iZ (i : Int) * 3 = iZ ((3 * i : Nat) : Int) := by
          have h3 : (3 : Int32) = iZ 3 := rfl
          rw [h3, iZ_mul]; congr 1; omega
        rw [h3, e3]
        obtain ⟨e, σ', b, a1, a2, a3, a4, τ', a5, a6, a7⟩ := p_step (X := X) hT hs (show i < 12 by omega) ha h9 h10 h43
        rw [bnd a1]
        have fr : frm [13] [(11, 3), (11, 4)] σ σ' := fun c d hc hd => a2 c d (by simp) (by simp at hc hd ⊢; omega)
        have nb : ¬ iZ (b : Int) = -1 := by rw [eI, iZt (by omega), t_m1]; omega
        have k3 : gI σ' 11 3 = iZ (i : Int) := by rw [(a2 11 3 (by simp) (by simp)).1]; exact h3
        rcases a7 with ⟨e0, w⟩ | ⟨e0, d, w⟩ | ⟨e0, w⟩
        · refine ⟨iZ (b : Int), σ', τ', τ', ?_, a5, rd_88 w nb n' _, fr, keepM_of a6, fun c => absurd c nb⟩
          rw [if_pos e0]
          show some (gI σ' 11 4, X, σ') = _
          rw [a4.2.2]
        · have d1 := d.1
          refine ⟨iZ (b : Int), sI σ' 11 3 (iZ ((i + 1 : Nat) : Int)), τ', τ', ?_, a5, rd_88 w nb n' _, frm_sIf fr (by simp), keepM_of a6, fun c => absurd c nb⟩
          rw [if_neg (by show ¬ e = 0; rw [e0, eI, t_0, t_1]; omega), if_pos (by rw [lI, a4.2.2, a4.1, iZt (by omega), iZt (by omega)]; omega)]
          show g_X5_look_10 (n + 1) X (sI σ' 11 3 (gI σ' 11 3 + 1)) = _
          rw [k3, iZs, g_X5_look_10, g_sI_eq, if_pos (by rw [leI, t_12, iZt (by omega)]; omega), g_sI_ne (by omega), a4.2.2]
        · have w0 := w
          obtain ⟨b', w1, w2, w3, w4, _⟩ := w
          obtain ⟨lt', vl', f', ro⟩ := rows_next hro a2 a6 w0
          obtain ⟨τ2, b1, b2, b3⟩ := tp_look hT w1 w3
          rw [w2] at b1 b2
          have k43 : gI τ2 43 s = iZ ((i + 1 : Nat) : Int) := by rw [(b3 43 s (by simp) (by simp)).1]; exact w4
          obtain ⟨τ3, c1, c2⟩ := rd_68 hT a3 (by rw [← w2]; exact sk_sk) b2
          have km : keepM s τ τ3 := ((keepM_of a6).tr (keepM_low b3 (by simp))).tr (keepM_low c2 (by simp))
          have md : f_X10_read_22 (n' + 1) (iZ (s : Int)) τ' = some (if b < N then iZ (b : Int) else -1, τ3) := by
            rw [f_X10_read_22, w3.2.2.2, if_pos rfl, bnd b1]
            show (if hr T N b = 59 then _ else _) = _
            by_cases y : hr T N b = 59
            · rw [if_pos y, gd_t (iZb hs (by omega)), iZc (by omega)]
              show (if (12 : Int32) ≤ gI τ2 43 s then _ else _) = _
              rw [k43, if_pos (by rw [leI, t_12, iZt (by omega)]; omega)]; exact c1
            · rw [if_neg y]; exact c1
          by_cases y : b < N
          · rw [if_pos y] at md
            refine ⟨iZ (b : Int), sI σ' 11 3 (iZ ((i + 1 : Nat) : Int)), τ', τ3, ?_, a5, md, frm_sIf fr (by simp), km, fun c => absurd c nb⟩
            rw [if_neg (by show ¬ e = 0; rw [e0, eI, t_0, t_1]; omega), if_pos (by rw [lI, a4.2.2, a4.1, iZt (by omega), iZt (by omega)]; omega)]
            show g_X5_look_10 (n + 1) X (sI σ' 11 3 (gI σ' 11 3 + 1)) = _
            rw [k3, iZs, g_X5_look_10, g_sI_eq, if_pos (by rw [leI, t_12, iZt (by omega)]; omega), g_sI_ne (by omega), a4.2.2]
          · rw [if_neg y] at md
            refine ⟨-1, sI σ' 11 3 (iZ ((i + 1 : Nat) : Int)), τ', τ3, ?_, a5, md, frm_sIf fr (by simp), km, fun _ => ⟨i + 1, lt', vl', f', by omega, g_sI_eq, ?_, ?_⟩⟩
            · rw [if_neg (by show ¬ e = 0; rw [e0, eI, t_0, t_1]; omega), if_neg (by rw [lI, a4.2.2, a4.1, iZt (by omega), iZt (by omega)]; omega)]
              show some ((-1 : Int32), X, sI σ' 11 3 (gI σ' 11 3 + 1)) = _
              rw [k3, iZs]
            · rw [(c2 43 s (by simp) (by simp)).1]; exact k43
            · have q1 := b3.same (C := [40, 41, 42]) (G := []) rfl
              have q2 := c2.same (C := [40, 41, 42]) (G := []) rfl
              exact rows_to ro (g_sI_c (by omega)) ((q2.cI 40).trans (q1.cI 40)) ((q2.cI 41).trans (q1.cI 41)) ((q2.cI 42).trans (q1.cI 42))
  | succ m ih =>
    intro n n' i a lt vl f σ τ e hn hn' ha h9 h10 h3 h43 hro
    cases n with
    | zero => omega
    | succ n =>
      cases n' with
      | zero => omega
      | succ n' =>
        unfold g_X5_look_50
        have e3 : iZ (i : Int) * 3 = iZ ((3 * i : Nat) : Int) := by
          have h3 : (3 : Int32) = iZ 3 := rfl
          rw [h3, iZ_mul]; congr 1; omega
        rw [h3, e3]
        obtain ⟨e, σ', b, a1, a2, a3, a4, τ', a5, a6, a7⟩ := p_step (X := X) hT hs (show i < 12 by omega) ha h9 h10 h43
        rw [bnd a1]
        have fr : frm [13] [(11, 3), (11, 4)] σ σ' := fun c d hc hd => a2 c d (by simp) (by simp at hc hd ⊢; omega)
        have nb : ¬ iZ (b : Int) = -1 := by rw [eI, iZt (by omega), t_m1]; omega
        have k3 : gI σ' 11 3 = iZ (i : Int) := by rw [(a2 11 3 (by simp) (by simp)).1]; exact h3
        have n9 : At9 T N b (sI σ' 11 3 (iZ ((i + 1 : Nat) : Int))) := ⟨by rw [g_sI_ne (by omega)]; exact a4.1, by rw [g_sI_c (by omega)]; exact a4.2.1, by rw [g_sI_ne (by omega)]; exact a4.2.2⟩
        have lk : ∀ y : Prop, (b < N ∧ T b = 59) = y → b < N → g_X5_look_10 (n + 1) X (sI σ' 11 3 (iZ ((i + 1 : Nat) : Int))) = (if (bZ (b < N ∧ T b = 59)) = 0 then some (iZ (b : Int), X, sI σ' 11 3 (iZ ((i + 1 : Nat) : Int))) else g_X5_look_50 (g_X5_look_10 n) X (sI (sI σ' 11 3 (iZ ((i + 1 : Nat) : Int))) 11 4 (iZ ((b + 1 : Nat) : Int)))) := by
          intro y _ hbN
          rw [g_X5_look_10, g_sI_eq, if_neg (by rw [leI, t_12, iZt (by omega)]; omega), if_neg (by rw [leI, t_0, iZt (by omega)]; omega), bnd (c_next 59 hT a3 n9)]
          show (if bZ (b < N ∧ T b = 59) = 0 then some (gI (sI σ' 11 3 (iZ ((i + 1 : Nat) : Int))) 11 4, X, _) else g_X5_look_50 (g_X5_look_10 n) X (sI (sI σ' 11 3 (iZ ((i + 1 : Nat) : Int))) 11 4 (gI (sI σ' 11 3 (iZ ((i + 1 : Nat) : Int))) 11 4 + 1))) = _
          rw [n9.2.2, iZs]
        rcases a7 with ⟨e0, w⟩ | ⟨e0, d, w⟩ | ⟨e0, w⟩
        · refine ⟨iZ (b : Int), σ', τ', τ', ?_, a5, rd_88 w nb n' _, fr, keepM_of a6, fun c => absurd c nb⟩
          rw [if_pos e0]
          show some (gI σ' 11 4, X, σ') = _
          rw [a4.2.2]
        · have d1 := d.1
          refine ⟨iZ (b : Int), sI σ' 11 3 (iZ ((i + 1 : Nat) : Int)), τ', τ', ?_, a5, rd_88 w nb n' _, frm_sIf fr (by simp), keepM_of a6, fun c => absurd c nb⟩
          rw [if_neg (by show ¬ e = 0; rw [e0, eI, t_0, t_1]; omega), if_pos (by rw [lI, a4.2.2, a4.1, iZt (by omega), iZt (by omega)]; omega)]
          show g_X5_look_10 (n + 1) X (sI σ' 11 3 (gI σ' 11 3 + 1)) = _
          rw [k3, iZs, lk _ rfl d1, if_pos (by rw [bZ_0]; intro c; have := d.2.2; rw [c.2, h59] at this; omega)]
        · have w0 := w
          obtain ⟨b', w1, w2, w3, w4, _⟩ := w
          obtain ⟨lt', vl', f', ro⟩ := rows_next hro a2 a6 w0
          obtain ⟨τ2, b1, b2, b3⟩ := tp_look hT w1 w3
          rw [w2] at b1 b2
          have k43 : gI τ2 43 s = iZ ((i + 1 : Nat) : Int) := by rw [(b3 43 s (by simp) (by simp)).1]; exact w4
          have q1 := b3.same (C := [40, 41, 42]) (G := []) rfl
          have km2 : keepM s τ τ2 := (keepM_of a6).tr (keepM_low b3 (by simp))
          by_cases y : b < N ∧ T b = 59
          · have y1 := y.1
            obtain ⟨r, σ4, τ3, τ4, c1, c2, c3, c4, c5, c6⟩ := ih n n' (i + 1) (b + 1) lt' vl' f' (sI (sI σ' 11 3 (iZ ((i + 1 : Nat) : Int))) 11 4 (iZ ((b + 1 : Nat) : Int))) (sI τ2 38 4 (iZ ((b + 1 : Nat) : Int))) (by omega) (by omega) (by omega) (by omega) n9.go b2.go (by rw [g_sI_ne (by omega), g_sI_eq]) (by rw [g_sI_c (by omega)]; exact k43)
              (rows_to ro (by rw [g_sI_c (by omega), g_sI_c (by omega)]) (by rw [g_sI_c (by omega)]; exact q1.cI 40) (by rw [g_sI_c (by omega)]; exact q1.cI 41) (by rw [g_sI_c (by omega)]; exact q1.cI 42))
            refine ⟨r, σ4, τ', τ4, ?_, a5, ?_, ?_, ?_, c6⟩
            · rw [if_neg (by show ¬ e = 0; rw [e0, eI, t_0, t_1]; omega), if_pos (by rw [lI, a4.2.2, a4.1, iZt (by omega), iZt (by omega)]; omega)]
              show g_X5_look_10 (n + 1) X (sI σ' 11 3 (gI σ' 11 3 + 1)) = _
              rw [k3, iZs, lk _ rfl y1, if_neg (by rw [bZ_0]; exact not_not_intro y)]
              exact c1
            · rw [f_X10_read_22, w3.2.2.2, if_pos rfl, bnd b1, if_pos (by show hr T N b = 59; rw [hr_in y1]; exact y.2), gd_t (iZb hs (by omega)), iZc (by omega)]
              show (if (12 : Int32) ≤ gI τ2 43 s then _ else (f_X10_stepOf (iZ (s : Int)) (sI τ2 38 4 (gI τ2 38 4 + 1))).bind _) = _
              rw [k43, if_neg (by rw [leI, t_12, iZt (by omega)]; omega), b2.2.2.1, iZs, bnd c2]
              exact c3
            · exact (frm_sIf (frm_sIf fr (by simp)) (by simp)).tr c4
            · exact (km2.tr (keepM_low (frm_sIf (F := [(38, 4)]) (frm.rf τ2) (by simp)) (by simp))).tr c5
          · obtain ⟨τ3, c1, c2⟩ := rd_68 hT a3 (by rw [← w2]; exact sk_sk) b2
            have q2 := c2.same (C := [40, 41, 42]) (G := []) rfl
            have km : keepM s τ τ3 := km2.tr (keepM_low c2 (by simp))
            have md : f_X10_read_22 (n' + 1) (iZ (s : Int)) τ' = some (if b < N then iZ (b : Int) else -1, τ3) := by
              rw [f_X10_read_22, w3.2.2.2, if_pos rfl, bnd b1, if_neg (by show ¬ hr T N b = 59; rw [hr_is (by rw [h59]; omega)]; exact y)]
              exact c1
            by_cases z : b < N
            · rw [if_pos z] at md
              refine ⟨iZ (b : Int), sI σ' 11 3 (iZ ((i + 1 : Nat) : Int)), τ', τ3, ?_, a5, md, frm_sIf fr (by simp), km, fun c => absurd c nb⟩
              rw [if_neg (by show ¬ e = 0; rw [e0, eI, t_0, t_1]; omega), if_pos (by rw [lI, a4.2.2, a4.1, iZt (by omega), iZt (by omega)]; omega)]
              show g_X5_look_10 (n + 1) X (sI σ' 11 3 (gI σ' 11 3 + 1)) = _
              rw [k3, iZs, lk _ rfl z, if_pos (by rw [bZ_0]; exact y)]
            · rw [if_neg z] at md
              refine ⟨-1, sI σ' 11 3 (iZ ((i + 1 : Nat) : Int)), τ', τ3, ?_, a5, md, frm_sIf fr (by simp), km, fun _ => ⟨i + 1, lt', vl', f', by omega, g_sI_eq, ?_, ?_⟩⟩
              · rw [if_neg (by show ¬ e = 0; rw [e0, eI, t_0, t_1]; omega), if_neg (by rw [lI, a4.2.2, a4.1, iZt (by omega), iZt (by omega)]; omega)]
                show some ((-1 : Int32), X, sI σ' 11 3 (gI σ' 11 3 + 1)) = _
                rw [k3, iZs]
              · rw [(c2 43 s (by simp) (by simp)).1]; exact k43
              · exact rows_to ro (g_sI_c (by omega)) ((q2.cI 40).trans (q1.cI 40)) ((q2.cI 41).trans (q1.cI 41)) ((q2.cI 42).trans (q1.cI 42))
/-- the tape is read by both -/
theorem p_read {X : En} {σ τ : St} {s : Nat} (hs : s < 7) (h : Rtape σ) (g3 : gI τ 38 3 = gI σ 38 3) (g39 : gI τ 39 = gI σ 39) :
    ∃ r σ' τ', g_X5_look X σ = some (r, X, σ') ∧ f_X10_read (iZ (s : Int)) τ = some (r, τ') ∧ frm [13] [(11, 3), (11, 4)] σ σ' ∧ keepM s τ τ' ∧ frm [40, 41, 42, 43] [(38, 4), (38, 5)] τ τ' ∧
      (r = -1 → ∃ (k : Nat) (lt : Nat → Int32) (vl f : Nat → Nat), k ≤ 12 ∧ gI σ' 11 3 = iZ (k : Int) ∧ gI τ' 43 s = iZ (k : Int) ∧ rowsOk s k lt vl f σ' τ') := by
  obtain ⟨h1, ⟨h2, h2'⟩, h3, h4⟩ := h
  have eN := iZof h2
  have hT : okTp (gI σ 12) (gI σ 11 1).toInt.toNat := ⟨by omega, h4⟩
  generalize (gI σ 11 1).toInt.toNat = N at eN hT
  generalize hTT : gI σ 12 = T at hT h3
  have p9 : At9 T N 0 (sI (sI σ 11 4 0) 11 3 0) := ⟨by rw [g_sI_ne (by omega), g_sI_ne (by omega)]; exact eN, by rw [g_sI_c (by omega), g_sI_c (by omega)]; exact hTT, by rw [g_sI_ne (by omega), g_sI_eq]; rfl⟩
  have p10 : At10 T N 0 (-1) (sI (sI (sI τ 38 4 0) 38 5 (-1)) 43 s 0) := by
    refine ⟨?_, ?_, ?_, ?_⟩
    · rw [g_sI_ne (by omega), g_sI_ne (by omega), g_sI_ne (by omega), g3, h1]; exact eN
    · rw [g_sI_c (by omega), g_sI_c (by omega), g_sI_c (by omega), g39]; exact h3
    · rw [g_sI_ne (by omega), g_sI_ne (by omega), g_sI_eq]; rfl
    · rw [g_sI_ne (by omega), g_sI_eq]
  obtain ⟨r, σ', τ1, τ', a1, a2, a3, a4, a5, a6⟩ := p_look (X := X) hT hs 11 999999 FU 0 0 (fun _ => 0) (fun _ => 0) (fun _ => 0) _ _ (by omega) (by omega) (by unfold FU; omega) (by omega) p9 p10 g_sI_eq g_sI_eq (fun j hj => by omega)
  have hm : f_X10_read (iZ (s : Int)) τ = some (r, τ') := by
    unfold f_X10_read
    rw [gd_t (iZb hs (by omega)), iZc (by omega), bnd a2]; exact a3
  refine ⟨r, σ', τ', ?_, hm, (frm_sIf (frm_sIf (frm.rf σ) (by simp)) (by simp)).tr a4, ?_, fr_X10_read hm, a6⟩
  · unfold g_X5_look g_X5_look_b
    have ef : FU = 999999 + 1 := rfl
    rw [ef, g_X5_look_10, g_sI_eq, if_neg (by rw [leI, t_12, t_0]; omega), if_pos (by rw [leI]; exact Int.le_refl _), bnd a1, wrp]
  · refine keepM.tr ⟨fun q hq => ⟨?_, ?_, ?_⟩, fun k hk => ?_⟩ a5
    · rw [g_sI_c (by omega), g_sI_c (by omega), g_sI_c (by omega)]
    · rw [g_sI_c (by omega), g_sI_c (by omega), g_sI_c (by omega)]
    · rw [g_sI_c (by omega), g_sI_c (by omega), g_sI_c (by omega)]
    · rw [g_sI_ne (by omega), g_sI_c (by omega), g_sI_c (by omega)]
