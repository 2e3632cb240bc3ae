/-! THE MODEL'S ACTS -/
theorem stand_lo {F : Nat → Int32} {k j : Nat} {v : Int32} {V : Vl} (h : j ≠ k) : (standV F k v V).1 j = V.1 j := by
  show upF V.1 k _ j = _
  unfold upF
  rw [if_neg h]
theorem drive_lo {F : Nat → Int32} : ∀ m r j : Nat, ∀ y : Int32, ∀ V : Vl, j < r → (driveV F m r y V).1 j = V.1 j
  | 0, _, _, _, _, _ => rfl
  | m + 1, r, j, y, V, h => by
    rw [driveV]
    split
    · exact stand_lo (by omega)
    · rw [drive_lo m (r + 1) j _ _ (by omega)]
      show (standV F r _ V).1 j = _
      exact stand_lo (by omega)
theorem act_end2 {R : Nat} {F : Nat → Int32} {p q a t : Int32} {σ : St} {V : Vl} (h : relM R F p q a t σ V) : ∃ σ', f_X10_actOf_138 (gI σ 46 (17 : Int32).toNatClampNeg) 17 σ = some σ' ∧ relM R F p q (a + 1) t σ' V := by
  unfold f_X10_actOf_138
  have b17 : inb (17 : Int32) 19 = true := rfl
  simp only [gd_t b17, n_17, n_18]
  refine ⟨_, rfl, ?_⟩
  have := h.dn (gI σ 46 17)
  have e : gI σ 46 17 = V.2.2.2.2.2.2 := h.2.2.2.2.2.2.2.2.2.2.1
  rw [e] at this ⊢
  exact this
theorem m_twice_go {R : Nat} {F A : Nat → Int32} {p q a t : Int32} (hR : R ≤ 12) (hF : okF F) : ∀ k n : Nat, ∀ x2 : Int32, ∀ σ : St, ∀ V : Vl, k ≤ R → k < n → okD V → relM R F p q a t σ V → (∀ j, j < R → gI σ 48 j = A j) → (∀ j, j < k → V.1 j = A j) → ∃ σ', f_X10_actOf_50 n 2 x2 (iZ ((k : Int) - 1)) σ = some σ' ∧ relM R F p q (a + 1) t σ' (twiceV F R k V) ∧ okD (twiceV F R k V) := by
  intro k
  induction k with
  | zero =>
    intro n x2 σ V e hn ok h _ _
    cases n with
    | zero => omega
    | succ n =>
      rw [f_X10_actOf_50, if_pos iZ_m1n, if_neg (by decide)]
      obtain ⟨σ', e1, h1⟩ := act_end2 h
      exact ⟨σ', e1, h1, ok⟩
  | succ k ih =>
    intro n x2 σ V e hn ok h hA hV
    cases n with
    | zero => omega
    | succ n =>
      rw [iZq, f_X10_actOf_50, if_neg (by rw [lI, iZt (by omega), t_0]; omega), if_pos rfl, gd_t (iZb (show k < 12 by omega) (by omega)), iZc (show k < 2147483648 by omega), hA k (by omega), ← hV k (by omega)]
      obtain ⟨σ', e1, h1, ok1⟩ := m_drive hR hF ok h k (by omega) (V.1 k) (ok k (by omega)) 1 (Or.inl rfl)
      unfold f_X10_actOf_110
      simp only [e1, Option.bind_some, iZm1]
      rw [sg1] at h1 ok1
      have q := (fr_X10_drive e1).same (C := [48]) (G := []) rfl
      refine ih n x2 σ' _ (by omega) (by omega) ok1 h1 (fun j hj => ?_) (fun j hj => ?_)
      · rw [q.cI 48]; exact hA j hj
      · rw [drive_lo _ _ _ _ _ hj]; exact hV j (by omega)
theorem m_halve_go {R : Nat} {F A : Nat → Int32} {p q a t : Int32} (hR : R ≤ 12) (hF : okF F) : ∀ k n : Nat, ∀ x2 : Int32, ∀ σ : St, ∀ V : Vl, k ≤ R → k < n → rg x2 0 1 → okD V → relM R F p q a t σ V → (∀ j, j < R → gI σ 48 j = A j) → (∀ j, j < k → V.1 j = A j) → ∃ σ', f_X10_actOf_50 n 3 x2 (iZ ((k : Int) - 1)) σ = some σ' ∧ relM R F p q (a + 1) t σ' (halveV F k x2 V) ∧ okD (halveV F k x2 V) := by
  intro k
  induction k with
  | zero =>
    intro n x2 σ V e hn hx ok h _ _
    cases n with
    | zero => omega
    | succ n =>
      rw [f_X10_actOf_50, if_pos iZ_m1n, if_pos rfl]
      unfold f_X10_actOf_138
      have b17 : inb (17 : Int32) 19 = true := rfl
      simp only [gd_t b17, n_17, n_18]
      exact ⟨_, rfl, h.dn x2, ok⟩
  | succ k ih =>
    intro n x2 σ V e hn hx ok h hA hV
    cases n with
    | zero => omega
    | succ n =>
      rw [iZq, f_X10_actOf_50, if_neg (by rw [lI, iZt (by omega), t_0]; omega), if_neg (by decide), if_pos rfl, gd_t (iZb (show k < 12 by omega) (by omega)), iZc (show k < 2147483648 by omega), hA k (by omega), ← hV k (by omega)]
      have od := ok k (by omega)
      unfold rg at hx od
      have e10 : ((10 : Int32) * x2).toInt = 10 * x2.toInt := by rw [tmul (by rw [t_10]; omega) (by rw [t_10]; omega), t_10]
      have es : (10 * x2 + V.1 k).toInt = 10 * x2.toInt + (V.1 k).toInt := by rw [tadd (by omega) (by omega), e10]
      have h2 : (2 : Int32) = iZ 2 := rfl
      have ez : 10 * x2 + V.1 k = iZ (10 * x2.toInt + (V.1 k).toInt) := by rw [← es, iZ_self]
      have v1 : rg ((10 * x2 + V.1 k) / 2) 0 9 := by
        unfold rg
        rw [ez, h2, iZ_div (by omega) (by omega) (by omega) (by omega), iZ_toInt (by omega) (by omega)]; omega
      have v2 : rg (rmI (10 * x2 + V.1 k) 2) 0 1 := by
        unfold rg
        rw [ez, h2, iZ_rm (by omega) (by omega) (by omega) (by omega), iZ_toInt (by omega) (by omega)]; omega
      obtain ⟨σ', e1, h1⟩ := m_become h k (by omega) ((10 * x2 + V.1 k) / 2) v1
      unfold f_X10_actOf_94 f_X10_actOf_101 f_X10_actOf_110
      simp only [e1, Option.bind_some, iZm1]
      have q := (fr_X10_become e1).same (C := [48]) (G := []) rfl
      refine ih n _ σ' _ (by omega) (by omega) v2 (ok_stand hF ok k (by omega) v1) h1 (fun j hj => ?_) (fun j hj => ?_)
      · rw [q.cI 48]; exact hA j hj
      · rw [stand_lo (by omega)]; exact hV j (by omega)
def emptyD (F : Nat → Int32) : Nat → Vl → Vl
  | 0, V => V
  | k + 1, V => emptyD F k (standV F k 0 V)
theorem m_empty_go {R : Nat} {F : Nat → Int32} {p q a t : Int32} (hR : R ≤ 12) (hF : okF F) (x1 : Int32) (n2 : ¬ x1 = 2) (n3 : ¬ x1 = 3) : ∀ k n : Nat, ∀ x2 : Int32, ∀ σ : St, ∀ V : Vl, k ≤ R → k < n → okD V → relM R F p q a t σ V → ∃ σ', f_X10_actOf_50 n x1 x2 (iZ ((k : Int) - 1)) σ = some σ' ∧ relM R F p q (a + 1) t σ' (emptyD F k V) ∧ okD (emptyD F k V) := by
  intro k
  induction k with
  | zero =>
    intro n x2 σ V e hn ok h
    cases n with
    | zero => omega
    | succ n =>
      rw [f_X10_actOf_50, if_pos iZ_m1n, if_neg n3]
      obtain ⟨σ', e1, h1⟩ := act_end2 h
      exact ⟨σ', e1, h1, ok⟩
  | succ k ih =>
    intro n x2 σ V e hn ok h
    cases n with
    | zero => omega
    | succ n =>
      rw [iZq, f_X10_actOf_50, if_neg (by rw [lI, iZt (by omega), t_0]; omega), if_neg n2, if_neg n3]
      have v1 : rg ((0 : Int32) / 2) 0 9 := by unfold rg; decide
      obtain ⟨σ', e1, h1⟩ := m_become h k (by omega) (0 / 2) v1
      unfold f_X10_actOf_94 f_X10_actOf_101 f_X10_actOf_110
      simp only [e1, Option.bind_some, iZm1]
      exact ih n _ σ' _ (by omega) (by omega) (ok_stand hF ok k (by omega) v1) h1
/-- empty, up or down -/
def emV (F : Nat → Int32) (a m : Nat) (V : Vl) : Vl := (fun j => if a ≤ j ∧ j < a + m then mnI 0 (F j) else V.1 j, fun j => if a ≤ j ∧ j < a + m then mxI (V.2.1 j) 0 else V.2.1 j, V.2.2.1 + s32 (fun j => abI (mnI 0 (F j) - V.1 j)) m a, V.2.2.2.1, V.2.2.2.2.1, V.2.2.2.2.2.1 + s32 (fun j => 0 - mnI 0 (F j)) m a, V.2.2.2.2.2.2)
theorem s32_cg {f g : Nat → Int32} : ∀ m k : Nat, (∀ j, k ≤ j → j < k + m → f j = g j) → s32 f m k = s32 g m k
  | 0, _, _ => rfl
  | m + 1, k, h => by
    show f k + s32 f m (k + 1) = g k + s32 g m (k + 1)
    rw [h k (by omega) (by omega), s32_cg m (k + 1) (fun j h1 h2 => h j (by omega) (by omega))]
theorem empty_up {F : Nat → Int32} : ∀ m r : Nat, ∀ V : Vl, emptyV F m r V = emV F r m V
  | 0, r, V => by
    show V = emV F r 0 V
    unfold emV
    have e : ∀ j, ¬ (r ≤ j ∧ j < r + 0) := fun j => by omega
    simp only [e, if_false]
    show V = (V.1, V.2.1, V.2.2.1 + 0, V.2.2.2.1, V.2.2.2.2.1, V.2.2.2.2.2.1 + 0, V.2.2.2.2.2.2)
    rw [Int32.add_zero, Int32.add_zero]
  | m + 1, r, V => by
    show emptyV F m (r + 1) (standV F r 0 V) = _
    rw [empty_up m (r + 1)]
    unfold emV
    refine Prod.ext ?_ (Prod.ext ?_ (Prod.ext ?_ (Prod.ext rfl (Prod.ext rfl (Prod.ext ?_ rfl)))))
    · funext j
      show (if r + 1 ≤ j ∧ j < r + 1 + m then mnI 0 (F j) else upF V.1 r (mnI 0 (F r)) j) = (if r ≤ j ∧ j < r + (m + 1) then mnI 0 (F j) else V.1 j)
      unfold upF
      by_cases e : j = r
      · rw [if_neg (by omega), if_pos e, if_pos (by omega), e]
      · rw [if_neg e]
        by_cases c : r + 1 ≤ j ∧ j < r + 1 + m
        · rw [if_pos c, if_pos (by omega)]
        · rw [if_neg c, if_neg (by omega)]
    · funext j
      show (if r + 1 ≤ j ∧ j < r + 1 + m then mxI (upF V.2.1 r (mxI (V.2.1 r) 0) j) 0 else upF V.2.1 r (mxI (V.2.1 r) 0) j) = (if r ≤ j ∧ j < r + (m + 1) then mxI (V.2.1 j) 0 else V.2.1 j)
      unfold upF
      by_cases e : j = r
      · rw [if_neg (by omega), if_pos e, if_pos (by omega), e]
      · rw [if_neg e]
        by_cases c : r + 1 ≤ j ∧ j < r + 1 + m
        · rw [if_pos c, if_pos (by omega)]
        · rw [if_neg c, if_neg (by omega)]
    · show V.2.2.1 + abI (mnI 0 (F r) - V.1 r) + s32 (fun j => abI (mnI 0 (F j) - upF V.1 r (mnI 0 (F r)) j)) m (r + 1) = V.2.2.1 + (abI (mnI 0 (F r) - V.1 r) + s32 (fun j => abI (mnI 0 (F j) - V.1 j)) m (r + 1))
      rw [Int32.add_assoc, s32_cg (g := fun j => abI (mnI 0 (F j) - V.1 j)) m (r + 1) (fun j h1 h2 => by
        unfold upF
        simp only [if_neg (show ¬ j = r by omega)])]
    · show V.2.2.2.2.2.1 + (0 - mnI 0 (F r)) + s32 (fun j => 0 - mnI 0 (F j)) m (r + 1) = V.2.2.2.2.2.1 + ((0 - mnI 0 (F r)) + s32 (fun j => 0 - mnI 0 (F j)) m (r + 1))
      rw [Int32.add_assoc]
theorem empty_dn {F : Nat → Int32} : ∀ k : Nat, ∀ V : Vl, emptyD F k V = emV F 0 k V
  | 0, V => empty_up 0 0 V
  | k + 1, V => by
    show emptyD F k (standV F k 0 V) = _
    rw [empty_dn k]
    unfold emV
    refine Prod.ext ?_ (Prod.ext ?_ (Prod.ext ?_ (Prod.ext rfl (Prod.ext rfl (Prod.ext ?_ rfl)))))
    · funext j
      show (if 0 ≤ j ∧ j < 0 + k then mnI 0 (F j) else upF V.1 k (mnI 0 (F k)) j) = (if 0 ≤ j ∧ j < 0 + (k + 1) then mnI 0 (F j) else V.1 j)
      unfold upF
      by_cases e : j = k
      · rw [if_neg (by omega), if_pos e, if_pos (by omega), e]
      · rw [if_neg e]
        by_cases c : 0 ≤ j ∧ j < 0 + k
        · rw [if_pos c, if_pos (by omega)]
        · rw [if_neg c, if_neg (by omega)]
    · funext j
      show (if 0 ≤ j ∧ j < 0 + k then mxI (upF V.2.1 k (mxI (V.2.1 k) 0) j) 0 else upF V.2.1 k (mxI (V.2.1 k) 0) j) = (if 0 ≤ j ∧ j < 0 + (k + 1) then mxI (V.2.1 j) 0 else V.2.1 j)
      unfold upF
      by_cases e : j = k
      · rw [if_neg (by omega), if_pos e, if_pos (by omega), e]
      · rw [if_neg e]
        by_cases c : 0 ≤ j ∧ j < 0 + k
        · rw [if_pos c, if_pos (by omega)]
        · rw [if_neg c, if_neg (by omega)]
    · show V.2.2.1 + abI (mnI 0 (F k) - V.1 k) + s32 (fun j => abI (mnI 0 (F j) - upF V.1 k (mnI 0 (F k)) j)) k 0 = V.2.2.1 + s32 (fun j => abI (mnI 0 (F j) - V.1 j)) (k + 1) 0
      rw [s32_end, Nat.zero_add, Int32.add_assoc, Int32.add_comm (abI _), s32_cg (g := fun j => abI (mnI 0 (F j) - V.1 j)) k 0 (fun j h1 h2 => by
        unfold upF
        simp only [if_neg (show ¬ j = k by omega)])]
    · show V.2.2.2.2.2.1 + (0 - mnI 0 (F k)) + s32 (fun j => 0 - mnI 0 (F j)) k 0 = V.2.2.2.2.2.1 + s32 (fun j => 0 - mnI 0 (F j)) (k + 1) 0
      rw [s32_end, Nat.zero_add, Int32.add_assoc, Int32.add_comm (0 - _)]
theorem relM.w48 {R : Nat} {F : Nat → Int32} {p q a t : Int32} {σ : St} {V : Vl} (h : relM R F p q a t σ V) (k : Nat) (v : Int32) : relM R F p q a t (sI σ 48 k v) V := by
  obtain ⟨h0, hp, hq, h1, hf, h2, h3, h4, h5, h6, h7, h8⟩ := h
  refine ⟨?_, ?_, ?_, ?_, ?_, ?_, ?_, ?_, ?_, ?_, ?_, ?_⟩
  · simp [gI_sI, gI_sJ, gI_sR, gJ_sI, gJ_sJ, gJ_sR, gR_sI, gR_sJ, gR_sR, h0]
  · simp [gI_sI, gI_sJ, gI_sR, gJ_sI, gJ_sJ, gJ_sR, gR_sI, gR_sJ, gR_sR, hp]
  · simp [gI_sI, gI_sJ, gI_sR, gJ_sI, gJ_sJ, gJ_sR, gR_sI, gR_sJ, gR_sR, hq]
  · intro j hj
    obtain ⟨b1, b2⟩ := h1 j hj
    simp [gI_sI, gI_sJ, gI_sR, gJ_sI, gJ_sJ, gJ_sR, gR_sI, gR_sJ, gR_sR, b1, b2]
  · simpa [gI_sI, gI_sJ, gI_sR, gJ_sI, gJ_sJ, gJ_sR, gR_sI, gR_sJ, gR_sR] using hf
  · simp [gI_sI, gI_sJ, gI_sR, gJ_sI, gJ_sJ, gJ_sR, gR_sI, gR_sJ, gR_sR, h2]
  · simp [gI_sI, gI_sJ, gI_sR, gJ_sI, gJ_sJ, gJ_sR, gR_sI, gR_sJ, gR_sR, h3]
  · simp [gI_sI, gI_sJ, gI_sR, gJ_sI, gJ_sJ, gJ_sR, gR_sI, gR_sJ, gR_sR, h4]
  · simp [gI_sI, gI_sJ, gI_sR, gJ_sI, gJ_sJ, gJ_sR, gR_sI, gR_sJ, gR_sR, h5]
  · simp [gI_sI, gI_sJ, gI_sR, gJ_sI, gJ_sJ, gJ_sR, gR_sI, gR_sJ, gR_sR, h6]
  · simp [gI_sI, gI_sJ, gI_sR, gJ_sI, gJ_sJ, gJ_sR, gR_sI, gR_sJ, gR_sR, h7]
  · simp [gI_sI, gI_sJ, gI_sR, gJ_sI, gJ_sJ, gJ_sR, gR_sI, gR_sJ, gR_sR, h8]
theorem m_ahead_go {R : Nat} {F : Nat → Int32} {p q a t : Int32} {V : Vl} (hR : R ≤ 12) (x1 : Int32) : ∀ m n r : Nat, ∀ σ : St, r + m = R → m < n → relM R F p q a t σ V → (∀ j, j < r → gI σ 48 j = V.1 j) → ∃ σ', f_X10_actOf_13 n x1 (iZ (r : Int)) σ = f_X10_actOf_50 FU x1 0 (iZ ((R : Int) - 1)) σ' ∧ relM R F p q a t σ' V ∧ (∀ j, j < R → gI σ' 48 j = V.1 j) := by
  intro m
  induction m with
  | zero =>
    intro n r σ e hn h hA
    cases n with
    | zero => omega
    | succ n =>
      have hr : r = R := by omega
      subst hr
      rw [f_X10_actOf_13, if_pos (by rw [h.1, leI]; exact Int.le_refl _), h.1, iZ_s1]
      exact ⟨σ, rfl, h, hA⟩
  | succ m ih =>
    intro n r σ e hn h hA
    cases n with
    | zero => omega
    | succ n =>
      rw [f_X10_actOf_13, if_neg (by rw [h.1, leI, iZt (by omega), iZt (by omega)]; omega), Int32.zero_add, gd_t (iZb (show r < 19 by omega) (by omega)), gd_t (iZb (show r < 12 by omega) (by omega)), iZc (show r < 2147483648 by omega), iZs]
      refine ih n (r + 1) _ (by omega) (by omega) (h.w48 _ _) (fun j hj => ?_)
      by_cases e2 : j = r
      · subst e2
        rw [g_sI_eq]; exact (h.2.2.2.1 j (by omega)).1
      · rw [g_sI_ne (by omega)]; exact hA j (by omega)
def actV (F : Nat → Int32) (R : Nat) (x : Int32) (V : Vl) : Vl := if x = 2 then twiceV F R R V else if x = 3 then halveV F R 0 V else emptyV F R 0 V
theorem m_actOf {R : Nat} {F : Nat → Int32} {p q a t : Int32} {σ : St} {V : Vl} (hR : R ≤ 12) (hF : okF F) (ok : okD V) (h : relM R F p q a t σ V) (x : Int32) : ∃ σ', f_X10_actOf_11 x σ = some σ' ∧ relM R F p q (a + 1) t σ' (actV F R x V) ∧ okD (actV F R x V) := by
  unfold f_X10_actOf_11
  obtain ⟨σ1, e1, h1, hA⟩ := m_ahead_go (F := F) (V := V) hR x R FU 0 σ (by omega) (by unfold FU; omega) h (fun j hj => by omega)
  have e1' : f_X10_actOf_13 FU x 0 σ = f_X10_actOf_50 FU x 0 (iZ ((R : Int) - 1)) σ1 := e1
  rw [e1']
  unfold actV
  have hfu : R < FU := by unfold FU; omega
  by_cases c2 : x = 2
  · subst c2
    rw [if_pos rfl]
    exact m_twice_go (A := V.1) hR hF R FU 0 σ1 V (by omega) hfu ok h1 hA (fun _ _ => rfl)
  · rw [if_neg c2]
    by_cases c3 : x = 3
    · subst c3
      rw [if_pos rfl]
      exact m_halve_go (A := V.1) hR hF R FU 0 σ1 V (by omega) hfu (by unfold rg; rw [t_0]; omega) ok h1 hA (fun _ _ => rfl)
    · rw [if_neg c3, empty_up, ← empty_dn]
      exact m_empty_go hR hF x c2 c3 R FU 0 σ1 V (by omega) hfu ok h1
