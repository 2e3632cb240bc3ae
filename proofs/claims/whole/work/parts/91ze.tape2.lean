/-! THE TAPE IS READ: the model's side -/
theorem s_isDigit10 (v : Int32) (σ : St) : f_X10_isDigit v σ = some (bZ (48 ≤ v.toInt ∧ v.toInt ≤ 57), σ) := by
  unfold f_X10_isDigit f_X10_isDigit_16 f_X10_isDigit_17
  simp only [lI, t_48, t_57]
  by_cases h1 : v.toInt < 48
  · rw [if_pos h1, bZ_f (by omega)]; rfl
  · rw [if_neg h1]
    by_cases h2 : 57 < v.toInt
    · rw [if_pos h2, bZ_f (by omega)]; rfl
    · rw [if_neg h2, bZ_t (by omega)]; rfl
theorem hr_in {T : Nat → Int32} {N a : Nat} (h : a < N) : hr T N a = T a := if_pos h
theorem hr_out {T : Nat → Int32} {N a : Nat} (h : ¬ a < N) : hr T N a = -1 := if_neg h
theorem hr_is {T : Nat → Int32} {N a : Nat} {x : Int32} (hx : 0 ≤ x.toInt) : (hr T N a = x) = (a < N ∧ T a = x) := by
  apply propext
  by_cases q : a < N
  · rw [hr_in q]; exact ⟨fun h => ⟨q, h⟩, fun h => h.2⟩
  · rw [hr_out q]
    refine ⟨fun h => ?_, fun h => absurd h.1 q⟩
    rw [← h, t_m1] at hx; omega
theorem hr_dg {T : Nat → Int32} {N a : Nat} : (48 ≤ (hr T N a).toInt ∧ (hr T N a).toInt ≤ 57) = dgT T N a := by
  apply propext
  by_cases q : a < N
  · rw [hr_in q]; exact ⟨fun h => ⟨q, h⟩, fun h => h.2⟩
  · rw [hr_out q, t_m1]
    exact ⟨fun h => by omega, fun h => absurd h.1 q⟩
theorem m_here {T : Nat → Int32} {N a : Nat} {w : Int32} {τ : St} (hT : okTp T N) (ha : a ≤ N) (h : At10 T N a w τ) : f_X10_here τ = some (hr T N a, τ) := by
  have hT1 := hT.1
  unfold f_X10_here f_X10_here_24
  rw [h.1, h.2.2.1]
  by_cases q : a < N
  · rw [if_neg (by rw [leI, iZt (by omega), iZt (by omega)]; omega), gd_t (iZb (by omega) (by omega)), iZc (by omega), h.2.1, hr_in q]
  · rw [if_pos (by rw [leI, iZt (by omega), iZt (by omega)]; omega), hr_out q]
theorem tp_look_go {T : Nat → Int32} {N : Nat} {w : Int32} (hT : okTp T N) : ∀ m n a : Nat, ∀ τ : St, a + m = N → m < n → At10 T N a w τ → ∃ τ', f_X10_look_0 n τ = some (hr T N (skp T N m a), τ') ∧ At10 T N (skp T N m a) w τ' := by
  have h32 : (32 : Int32).toInt = 32 := rfl
  intro m
  induction m with
  | zero =>
    intro n a τ e hn h
    cases n with
    | zero => omega
    | succ n =>
      refine ⟨τ, ?_, h⟩
      rw [f_X10_look_0, bnd (m_here hT (by omega) h), if_neg (by show ¬ hr T N a = 32; rw [hr_is (by rw [h32]; omega)]; omega), bnd (m_here hT (by omega) h)]
      rfl
  | succ m ih =>
    intro n a τ e hn h
    cases n with
    | zero => omega
    | succ n =>
      rw [f_X10_look_0, bnd (m_here hT (by omega) h)]
      show ∃ τ', _ = some (hr T N (if a < N ∧ T a = 32 then skp T N m (a + 1) else a), τ') ∧ At10 T N (if a < N ∧ T a = 32 then skp T N m (a + 1) else a) w τ'
      by_cases q : a < N ∧ T a = 32
      · rw [if_pos (by show hr T N a = 32; rw [hr_is (by rw [h32]; omega)]; exact q), if_pos q, h.2.2.1, iZs]
        exact ih n (a + 1) _ (by omega) (by omega) h.go
      · rw [if_neg (by show ¬ hr T N a = 32; rw [hr_is (by rw [h32]; omega)]; exact q), if_neg q, bnd (m_here hT (by omega) h)]
        exact ⟨τ, rfl, h⟩
theorem tp_look {T : Nat → Int32} {N a : Nat} {w : Int32} {τ : St} (hT : okTp T N) (ha : a ≤ N) (h : At10 T N a w τ) : ∃ τ', f_X10_look τ = some (hr T N (sk T N a), τ') ∧ At10 T N (sk T N a) w τ' ∧ frm [] [(38, 4)] τ τ' := by
  have hT1 := hT.1
  obtain ⟨τ', h1, h2⟩ := tp_look_go (w := w) hT (N - a) FU a τ (by omega) (by unfold FU; omega) h
  exact ⟨τ', h1, h2, fr_X10_look h1⟩
theorem m_bad {T : Nat → Int32} {N a : Nat} {τ : St} (h : At10 T N a (-1) τ) : ∃ τ', f_X10_bad τ = some τ' ∧ At10 T N a (iZ (a : Int)) τ' ∧ frm [] [(38, 5)] τ τ' := by
  refine ⟨sI τ 38 5 (iZ (a : Int)), ?_, h.wr, frm_sIf (frm.rf τ) (by simp)⟩
  unfold f_X10_bad f_X10_bad_20
  rw [h.2.2.2, if_pos rfl, h.2.2.1]
theorem m_num_go {T : Nat → Int32} {N : Nat} (hT : okTp T N) : ∀ m n j v a : Nat, ∀ τ : St, j + m = 9 → m < n → a ≤ N → At10 T N a (-1) τ → ∃ τ', f_X10_numeral_20 n (iZ (v : Int)) (iZ (j : Int)) τ = f_X10_numeral_65 (iZ (nuV T N m a v : Int)) τ' ∧ At10 T N (nuP T N m a) (-1) τ' ∧ frm [] [(38, 4)] τ τ' := by
  have hT1 := hT.1
  have h9 : (9 : Int32).toInt = 9 := rfl
  intro m
  induction m with
  | zero =>
    intro n j v a τ e hn ha h
    cases n with
    | zero => omega
    | succ n =>
      refine ⟨τ, ?_, h, frm.rf τ⟩
      rw [f_X10_numeral_20, if_pos (by rw [leI, h9, iZt (by omega)]; omega)]; rfl
  | succ m ih =>
    intro n j v a τ e hn ha h
    cases n with
    | zero => omega
    | succ n =>
      rw [f_X10_numeral_20, if_neg (by rw [leI, h9, iZt (by omega)]; omega), bnd (m_here hT ha h), bnd (s_isDigit10 _ _)]
      show ∃ τ', (if bZ (48 ≤ (hr T N a).toInt ∧ (hr T N a).toInt ≤ 57) = 0 then _ else _) = f_X10_numeral_65 (iZ ((if dgT T N a then nuV T N m (a + 1) (10 * v + ((T a).toInt - 48).toNat) else v : Nat) : Int)) τ' ∧ At10 T N (if dgT T N a then nuP T N m (a + 1) else a) (-1) τ' ∧ _
      by_cases d : dgT T N a
      · rw [if_neg (by rw [bZ_0, hr_dg]; exact not_not_intro d), if_pos d, if_pos d, bnd (m_here hT ha h)]
        show ∃ τ', f_X10_numeral_49 (f_X10_numeral_20 n) (10 * iZ (v : Int) + hr T N a - 48) (iZ (j : Int)) τ = _ ∧ _
        rw [hr_in d.1, num_next v d.2.1]
        unfold f_X10_numeral_49
        rw [h.2.2.1, iZs, iZs]
        obtain ⟨τ', h1, h2, h3⟩ := ih n (j + 1) (10 * v + ((T a).toInt - 48).toNat) (a + 1) (sI τ 38 4 (iZ ((a + 1 : Nat) : Int))) (by omega) (by omega) (by have := d.1; omega) h.go
        exact ⟨τ', h1, h2, (frm_sIf (frm.rf τ) (by simp)).tr h3⟩
      · rw [if_pos (by rw [bZ_0, hr_dg]; exact d), if_neg d, if_neg d]
        exact ⟨τ, rfl, h, frm.rf τ⟩
theorem m_numeral {T : Nat → Int32} {N a : Nat} {τ : St} (hT : okTp T N) (ha : a ≤ N) (h : At10 T N a (-1) τ) : ∃ v τ', f_X10_numeral τ = some (v, τ') ∧ frm [] [(38, 4), (38, 5)] τ τ' ∧
    ((¬ dgT T N (sk T N a) ∧ At10 T N (sk T N a) (iZ (sk T N a : Int)) τ') ∨ (dgT T N (sk T N a) ∧ v = iZ (nuV T N 9 (sk T N a) 0 : Int) ∧ At10 T N (nuP T N 9 (sk T N a)) (if dgT T N (nuP T N 9 (sk T N a)) then iZ (nuP T N 9 (sk T N a) : Int) else -1) τ')) := by
  have hT1 := hT.1
  obtain ⟨τ1, a1, a2, a3⟩ := tp_look hT ha h
  have hc := sk_le (T := T) (N := N) (a := a) ha
  unfold f_X10_numeral
  rw [bnd a1, bnd (s_isDigit10 _ _)]
  generalize sk T N a = c at a2 hc ⊢
  show ∃ v τ', (if bZ (48 ≤ (hr T N c).toInt ∧ (hr T N c).toInt ≤ 57) = 0 then _ else _) = _ ∧ _
  by_cases d : dgT T N c
  · rw [if_neg (by rw [bZ_0, hr_dg]; exact not_not_intro d)]
    obtain ⟨τ2, b1, b2, b3⟩ := m_num_go hT 9 FU 0 0 c τ1 (by omega) (by unfold FU; omega) hc a2
    have hp := nuP_le (T := T) (N := N) 9 c hc
    have f2 : frm [] [(38, 4), (38, 5)] τ τ2 := (a3.mo (by simp) (by simp)).tr (b3.mo (by simp) (by simp))
    have b1' : f_X10_numeral_20 FU 0 0 τ1 = f_X10_numeral_65 (iZ (nuV T N 9 c 0 : Int)) τ2 := b1
    rw [show (f_X10_numeral_20 FU 0 0 (hr T N c, τ1).2) = _ from b1']
    generalize nuP T N 9 c = p at b2 hp ⊢
    unfold f_X10_numeral_65 f_X10_numeral_79
    rw [bnd (m_here hT hp b2), bnd (s_isDigit10 _ _)]
    show ∃ v τ', (if bZ (48 ≤ (hr T N p).toInt ∧ (hr T N p).toInt ≤ 57) = 0 then _ else _) = _ ∧ _
    by_cases d2 : dgT T N p
    · obtain ⟨τ3, c1, c2, c3⟩ := m_bad b2
      rw [if_neg (by rw [bZ_0, hr_dg]; exact not_not_intro d2), bnd c1]
      refine ⟨_, τ3, rfl, f2.tr (c3.mo (by simp) (by simp)), Or.inr ⟨d, rfl, ?_⟩⟩
      rw [if_pos d2]; exact c2
    · rw [if_pos (by rw [bZ_0, hr_dg]; exact d2)]
      refine ⟨_, τ2, rfl, f2, Or.inr ⟨d, rfl, ?_⟩⟩
      rw [if_neg d2]; exact b2
  · rw [if_pos (by rw [bZ_0, hr_dg]; exact d)]
    obtain ⟨τ3, c1, c2, c3⟩ := m_bad a2
    rw [bnd c1]
    exact ⟨_, τ3, rfl, (a3.mo (by simp) (by simp)).tr (c3.mo (by simp) (by simp)), Or.inl ⟨d, c2⟩⟩
theorem hr_od {T : Nat → Int32} {N a : Nat} : odT T N a ↔ (dgT T N a ∧ ¬ hr T N a = 48) := by
  constructor
  · intro h
    have := h.2.1
    refine ⟨⟨h.1, by omega, h.2.2⟩, fun c => ?_⟩
    rw [hr_in h.1] at c
    rw [c, t_48] at this; omega
  · rintro ⟨h, k⟩
    rw [hr_in h.1, eI, t_48] at k
    have := h.2.1
    exact ⟨h.1, by omega, h.2.2⟩
/-- the often, and a step more -/
theorem tp_117 {T : Nat → Int32} {N a s i : Nat} {y : Int32} {τ : St} (hT : okTp T N) (ha : a ≤ N) (hs : s < 7) (hi : i < 12) (h : At10 T N a (-1) τ) (h43 : gI τ 43 s = iZ (i : Int)) :
    ∃ τ', f_X10_stepOf_117 (iZ (s : Int)) (iZ ((12 * s + i : Nat) : Int)) y (iZ ((12 * s + i : Nat) : Int)) τ = some τ' ∧ frm [] [(38, 4), (38, 5), (41, 12 * s + i), (42, 12 * s + i), (43, s)] τ τ' ∧ gI τ' 41 (12 * s + i) = y ∧
    ((¬ (sk T N a < N ∧ T (sk T N a) = 120) ∧ At10 T N (sk T N a) (-1) τ' ∧ gI τ' 43 s = iZ ((i + 1 : Nat) : Int) ∧ gI τ' 42 (12 * s + i) = 1) ∨
     ((sk T N a < N ∧ T (sk T N a) = 120) ∧ odT T N (sk T N (sk T N a + 1)) ∧ At10 T N (sk T N (sk T N a + 1) + 1) (-1) τ' ∧ gI τ' 43 s = iZ ((i + 1 : Nat) : Int) ∧ gI τ' 42 (12 * s + i) = T (sk T N (sk T N a + 1)) - 48) ∨
     ((sk T N a < N ∧ T (sk T N a) = 120) ∧ ¬ odT T N (sk T N (sk T N a + 1)) ∧ gI τ' 38 5 = iZ (sk T N (sk T N a + 1) : Int))) := by
  have hT1 := hT.1
  have h120 : (120 : Int32).toInt = 120 := rfl
  unfold f_X10_stepOf_117
  rw [gd_t (iZb (by omega) (by omega)), gd_t (iZb (by omega) (by omega)), iZc (by omega)]
  have g1 : At10 T N a (-1) (sI (sI τ 41 (12 * s + i) y) 42 (12 * s + i) 1) := (h.row (by omega)).row (by omega)
  have g43 : gI (sI (sI τ 41 (12 * s + i) y) 42 (12 * s + i) 1) 43 s = iZ (i : Int) := by rw [g_sI_c (by omega), g_sI_c (by omega)]; exact h43
  have g41 : gI (sI (sI τ 41 (12 * s + i) y) 42 (12 * s + i) 1) 41 (12 * s + i) = y := by rw [g_sI_ne (by omega), g_sI_eq]
  have g42 : gI (sI (sI τ 41 (12 * s + i) y) 42 (12 * s + i) 1) 42 (12 * s + i) = 1 := g_sI_eq
  have gf : frm [] [(38, 4), (38, 5), (41, 12 * s + i), (42, 12 * s + i), (43, s)] τ (sI (sI τ 41 (12 * s + i) y) 42 (12 * s + i) 1) := frm_sIf (frm_sIf (frm.rf τ) (by simp)) (by simp)
  generalize (sI (sI τ 41 (12 * s + i) y) 42 (12 * s + i) 1) = τ1 at g1 g43 g41 g42 gf ⊢
  rw [g1.2.2.2, if_pos rfl]
  obtain ⟨τ2, a1, a2, a3⟩ := tp_look hT ha g1
  have hb := sk_le (T := T) (N := N) (a := a) ha
  rw [bnd a1]
  have k43 : gI τ2 43 s = iZ (i : Int) := by rw [(a3 43 s (by simp) (by simp)).1]; exact g43
  have k41 : gI τ2 41 (12 * s + i) = y := by rw [(a3 41 _ (by simp) (by simp)).1]; exact g41
  have k42 : gI τ2 42 (12 * s + i) = 1 := by rw [(a3 42 _ (by simp) (by simp)).1]; exact g42
  have kf := gf.tr (a3.mo (W' := []) (F' := [(38, 4), (38, 5), (41, 12 * s + i), (42, 12 * s + i), (43, s)]) (by simp) (by simp))
  generalize sk T N a = b at a2 hb ⊢
  have fin : ∀ ρ : St, gI ρ 43 s = iZ (i : Int) → f_X10_stepOf_201 (iZ (s : Int)) ρ = some (sI ρ 43 s (iZ ((i + 1 : Nat) : Int))) := by
    intro ρ hρ
    unfold f_X10_stepOf_201
    rw [gd_t (iZb (by omega) (by omega)), gd_t (iZb (by omega) (by omega)), iZc (by omega), hρ, iZs]
  show ∃ τ', (if hr T N b = 120 then _ else _) = some τ' ∧ _
  by_cases q : b < N ∧ T b = 120
  · rw [if_pos (by rw [hr_is (by rw [h120]; omega)]; exact q), a2.2.2.1, iZs]
    obtain ⟨τ3, b1, b2, b3⟩ := tp_look (a := b + 1) hT (by have := q.1; omega) (a2.go (b := b + 1))
    have hd := sk_le (T := T) (N := N) (a := b + 1) (by have := q.1; omega)
    rw [bnd b1, bnd (s_isDigit10 _ _)]
    have l43 : gI τ3 43 s = iZ (i : Int) := by rw [(b3 43 s (by simp) (by simp)).1, g_sI_c (by omega)]; exact k43
    have l41 : gI τ3 41 (12 * s + i) = y := by rw [(b3 41 _ (by simp) (by simp)).1, g_sI_c (by omega)]; exact k41
    have lf := kf.tr ((frm_sIf (frm.rf τ2) (by simp)).tr (b3.mo (W' := []) (F' := [(38, 4), (38, 5), (41, 12 * s + i), (42, 12 * s + i), (43, s)]) (by simp) (by simp)))
    generalize sk T N (b + 1) = d at b2 hd ⊢
    show ∃ τ', (if bZ (48 ≤ (hr T N d).toInt ∧ (hr T N d).toInt ≤ 57) = 0 then f_X10_stepOf_174 τ3 else if hr T N d = 48 then f_X10_stepOf_174 τ3 else _) = some τ' ∧ _
    have bd : ∃ τ', f_X10_stepOf_174 τ3 = some τ' ∧ At10 T N d (iZ (d : Int)) τ' ∧ frm [] [(38, 5)] τ3 τ' := by
      obtain ⟨τ4, c1, c2, c3⟩ := m_bad b2
      refine ⟨τ4, ?_, c2, c3⟩
      unfold f_X10_stepOf_174
      rw [bnd c1]
    by_cases o : odT T N d
    · obtain ⟨o1, o2⟩ := hr_od.mp o
      rw [if_neg (by rw [bZ_0, hr_dg]; exact not_not_intro o1), if_neg o2, gd_t (iZb (by omega) (by omega)), hr_in o.1, g_sI_ne (by omega)]
      show ∃ τ', f_X10_stepOf_201 (iZ (s : Int)) (sI (sI τ3 42 (12 * s + i) (T d - 48)) 38 4 (gI τ3 38 4 + 1)) = some τ' ∧ _
      rw [b2.2.2.1, iZs, fin _ (by rw [g_sI_c (by omega), g_sI_c (by omega)]; exact l43)]
      refine ⟨_, rfl, lf.tr (frm_sIf (frm_sIf (frm_sIf (frm.rf τ3) (by simp)) (by simp)) (by simp)), ?_, Or.inr (Or.inl ⟨q, o, ?_, ?_, ?_⟩)⟩
      · rw [g_sI_ne (by omega), g_sI_ne (by omega), g_sI_ne (by omega)]; exact l41
      · exact ((b2.row (by omega)).go).row (by omega)
      · exact g_sI_eq
      · rw [g_sI_ne (by omega), g_sI_ne (by omega), g_sI_eq]
    · obtain ⟨τ4, c1, c2, c3⟩ := bd
      refine ⟨τ4, ?_, lf.tr (c3.mo (by simp) (by simp)), ?_, Or.inr (Or.inr ⟨q, o, c2.2.2.2⟩)⟩
      · by_cases o1 : dgT T N d
        · have o2 : hr T N d = 48 := Decidable.byContradiction (fun c => o (hr_od.mpr ⟨o1, c⟩))
          rw [if_neg (by rw [bZ_0, hr_dg]; exact not_not_intro o1), if_pos o2]; exact c1
        · rw [if_pos (by rw [bZ_0, hr_dg]; exact o1)]; exact c1
      · rw [(c3 41 _ (by simp) (by simp)).1]; exact l41
  · rw [if_neg (by rw [hr_is (by rw [h120]; omega)]; exact q), fin τ2 k43]
    refine ⟨_, rfl, kf.tr (frm_sIf (frm.rf τ2) (by simp)), ?_, Or.inl ⟨q, a2.row (by omega), g_sI_eq, ?_⟩⟩
    · rw [g_sI_ne (by omega)]; exact k41
    · rw [g_sI_ne (by omega)]; exact k42
