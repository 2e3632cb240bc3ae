/-! DONE -/
abbrev T3 : Type := Int32 × Int32 × Int32
def dsv (G d y : Int32) : Int32 := mnI (if d + y ≤ 9 then d + y else d + y - 10) G
def dsf (p G : Int32) (T : T3) (mi y : Int32) : Int32 := mxI mi T.2.1 + abI (dsv G T.1 y - T.1) * p
def dst (p q G : Int32) (T : T3) (mi y : Int32) : T3 := (dsv G T.1 y, dsf p G T mi y, if T.1 + y ≤ 9 then T.2.2 else dsf p G T mi y + q)
theorem mx_sw (a b : Int32) : mxI a b = mxI b a := by
  unfold mxI
  by_cases c : a < b
  · rw [if_pos c]
    rw [lI] at c
    rw [if_neg (by rw [lI]; omega)]
  · rw [if_neg c]
    by_cases c2 : b < a
    · rw [if_pos c2]
    · rw [if_neg c2]
      rw [lI] at c c2
      rw [eI]; omega
theorem dsv_rg {G d y : Int32} (hG : rg G 0 12) (hd : rg d 0 9) (hy : rg y 0 9) : rg (dsv G d y) 0 9 := by
  unfold dsv mnI rg at *
  have hn : (d + y).toInt = d.toInt + y.toInt := tadd (by omega) (by omega)
  by_cases c : d + y ≤ 9
  · simp only [if_pos c]
    rw [leI, t_9] at c
    split
    · rename_i c2; rw [lI] at c2; omega
    · omega
  · simp only [if_neg c]
    rw [leI, t_9] at c
    have e : (d + y - 10).toInt = d.toInt + y.toInt - 10 := by rw [tsub (by rw [t_10]; omega) (by rw [t_10]; omega), t_10, hn]
    split
    · rename_i c2; rw [lI] at c2; omega
    · omega
theorem two_r (r k : Nat) : (2 : Int32) * iZ (r : Int) + iZ (k : Int) = iZ ((2 * r + k : Nat) : Int) := by
  have h : (2 : Int32) = iZ 2 := rfl
  rw [h, iZ_mul, iZ_add]; congr 1
/-- what a drive writes -/
def dfS (σ : St) (a r : Nat) (b d v k f : Int32) : St := sI (sI (sI (sI (sI (sI (sI σ 22 a b) 23 a d) 24 a v) 25 r k) 21 9 f) 21 8 v) 26 r f
theorem dfS_is (σ : St) (a r : Nat) (b d v k f : Int32) : gI (dfS σ a r b d v k f) 21 8 = v ∧ gI (dfS σ a r b d v k f) 21 9 = f ∧ gI (dfS σ a r b d v k f) 21 10 = gI σ 21 10 ∧ gI (dfS σ a r b d v k f) 21 6 = gI σ 21 6 ∧ gI (dfS σ a r b d v k f) 26 r = f ∧ (∀ j, j ≠ r → gI (dfS σ a r b d v k f) 26 j = gI σ 26 j ∧ gI (dfS σ a r b d v k f) 25 j = gI σ 25 j) ∧ gI (dfS σ a r b d v k f) 25 r = k ∧ gI (dfS σ a r b d v k f) 22 a = b ∧ gI (dfS σ a r b d v k f) 23 a = d ∧ gI (dfS σ a r b d v k f) 24 a = v ∧ (∀ j, j ≠ a → gI (dfS σ a r b d v k f) 22 j = gI σ 22 j ∧ gI (dfS σ a r b d v k f) 23 j = gI σ 23 j ∧ gI (dfS σ a r b d v k f) 24 j = gI σ 24 j) := by
  unfold dfS
  refine ⟨?_, ?_, ?_, ?_, ?_, fun j hj => ⟨?_, ?_⟩, ?_, ?_, ?_, ?_, fun j hj => ⟨?_, ?_, ?_⟩⟩
  · rw [g_sI_c (by omega), g_sI_eq]
  · rw [g_sI_c (by omega), g_sI_ne (by omega), g_sI_eq]
  · rw [g_sI_c (by omega), g_sI_ne (by omega), g_sI_ne (by omega), g_sI_c (by omega), g_sI_c (by omega), g_sI_c (by omega), g_sI_c (by omega)]
  · rw [g_sI_c (by omega), g_sI_ne (by omega), g_sI_ne (by omega), g_sI_c (by omega), g_sI_c (by omega), g_sI_c (by omega), g_sI_c (by omega)]
  · rw [g_sI_eq]
  · rw [g_sI_ne (by omega), g_sI_c (by omega), g_sI_c (by omega), g_sI_c (by omega), g_sI_c (by omega), g_sI_c (by omega), g_sI_c (by omega)]
  · rw [g_sI_c (by omega), g_sI_c (by omega), g_sI_c (by omega), g_sI_ne (by omega), g_sI_c (by omega), g_sI_c (by omega), g_sI_c (by omega)]
  · rw [g_sI_c (by omega), g_sI_c (by omega), g_sI_c (by omega), g_sI_eq]
  · rw [g_sI_c (by omega), g_sI_c (by omega), g_sI_c (by omega), g_sI_c (by omega), g_sI_c (by omega), g_sI_c (by omega), g_sI_eq]
  · rw [g_sI_c (by omega), g_sI_c (by omega), g_sI_c (by omega), g_sI_c (by omega), g_sI_c (by omega), g_sI_eq]
  · rw [g_sI_c (by omega), g_sI_c (by omega), g_sI_c (by omega), g_sI_c (by omega), g_sI_eq]
  · rw [g_sI_c (by omega), g_sI_c (by omega), g_sI_c (by omega), g_sI_c (by omega), g_sI_c (by omega), g_sI_c (by omega), g_sI_ne (by omega)]
  · rw [g_sI_c (by omega), g_sI_c (by omega), g_sI_c (by omega), g_sI_c (by omega), g_sI_c (by omega), g_sI_ne (by omega), g_sI_c (by omega)]
  · rw [g_sI_c (by omega), g_sI_c (by omega), g_sI_c (by omega), g_sI_c (by omega), g_sI_ne (by omega), g_sI_c (by omega), g_sI_c (by omega)]
/-- the class's drive -/
theorem df_126 {σ : St} {r a : Nat} (hr : r < 12) (ha : a < 24) (b x6 v w : Int32) : f_X6_driveFrom_87 (iZ (r : Int)) b x6 v w (iZ (a : Int)) σ = f_X6_driveFrom_156 x6 (dfS σ a r b (gI σ 21 8) v (gI σ 25 r + 1) (b + w * gI σ 21 5)) := by
  have b12 := iZb hr (show 12 < 2147483648 by omega)
  have b24 := iZb ha (show 24 < 2147483648 by omega)
  unfold f_X6_driveFrom_87 f_X6_driveFrom_107 f_X6_driveFrom_126
  rw [gd_t b24, gd_t b24, gd_t b24, gd_t b12, gd_t b12, gd_t b12, iZc (show r < 2147483648 by omega), iZc (show a < 2147483648 by omega)]
  unfold dfS
  have e8 : gI (sI σ 22 a b) 21 8 = gI σ 21 8 := by rw [g_sI_c (by omega)]
  rw [e8]
  have e25 : gI (sI (sI (sI σ 22 a b) 23 a (gI σ 21 8)) 24 a v) 25 r = gI σ 25 r := by rw [g_sI_c (by omega), g_sI_c (by omega), g_sI_c (by omega)]
  rw [e25]
  have e5 : gI (sI (sI (sI (sI σ 22 a b) 23 a (gI σ 21 8)) 24 a v) 25 r (gI σ 25 r + 1)) 21 5 = gI σ 21 5 := by rw [g_sI_c (by omega), g_sI_c (by omega), g_sI_c (by omega), g_sI_c (by omega)]
  rw [e5]
  have e9 : ∀ τ : St, gI (sI (sI τ 21 9 (b + w * gI σ 21 5)) 21 8 v) 21 9 = b + w * gI σ 21 5 := fun τ => by rw [g_sI_ne (by omega), g_sI_eq]
  rw [e9]
theorem c_dF {σ : St} {r k : Nat} {p q d f s : Int32} (hr : r < 12) (hk : k < 2) (e5 : gI σ 21 5 = p) (e6 : gI σ 21 6 = q) (e8 : gI σ 21 8 = d) (e9 : gI σ 21 9 = f) (e10 : gI σ 21 10 = s) (e25 : gI σ 25 r = iZ (k : Int)) (mi y G : Int32) (hd : rg d 0 9) (hy : rg y 0 9) : ∃ σ', f_X6_driveFrom (iZ (r : Int)) mi y G σ = some σ' ∧ gI σ' 21 8 = (dst p q G (d, f, s) mi y).1 ∧ gI σ' 21 9 = (dst p q G (d, f, s) mi y).2.1 ∧ gI σ' 21 10 = (dst p q G (d, f, s) mi y).2.2 ∧ gI σ' 26 r = (dst p q G (d, f, s) mi y).2.1 ∧ (∀ j, j ≠ r → gI σ' 26 j = gI σ 26 j ∧ gI σ' 25 j = gI σ 25 j) ∧ gI σ' 25 r = iZ ((k + 1 : Nat) : Int) ∧ gI σ' 22 (2 * r + k) = mxI mi f ∧ gI σ' 23 (2 * r + k) = d ∧ gI σ' 24 (2 * r + k) = (dst p q G (d, f, s) mi y).1 ∧ (∀ j, j ≠ 2 * r + k → gI σ' 22 j = gI σ 22 j ∧ gI σ' 23 j = gI σ 23 j ∧ gI σ' 24 j = gI σ 24 j) := by
  unfold rg at hd hy
  have hn : (d + y).toInt = d.toInt + y.toInt := tadd (by omega) (by omega)
  have hm : mnI (iZ (k : Int)) 1 = iZ (k : Int) := by
    unfold mnI
    rw [if_neg (by rw [lI, iZt (by omega), t_1]; omega)]
  have b12 := iZb hr (show 12 < 2147483648 by omega)
  unfold f_X6_driveFrom f_X6_driveFrom_10
  simp only [s_isDigit, Option.bind_some, bZ_0, e8, e9]
  unfold f_X6_driveFrom_27 f_X6_driveFrom_52 f_X6_driveFrom_59 f_X6_driveFrom_71
  simp only [e8, gd_t b12, iZc (show r < 2147483648 by omega), e25, hm, two_r]
  have fin : ∀ (v : Int32) (τ : St), v = dsv G d y → τ = dfS σ (2 * r + k) r (mxI mi f) (gI σ 21 8) v (gI σ 25 r + 1) (mxI mi f + abI (v - d) * gI σ 21 5) → gI τ 21 8 = (dst p q G (d, f, s) mi y).1 ∧ gI τ 21 9 = (dst p q G (d, f, s) mi y).2.1 ∧ gI τ 26 r = (dst p q G (d, f, s) mi y).2.1 ∧ (∀ j, j ≠ r → gI τ 26 j = gI σ 26 j ∧ gI τ 25 j = gI σ 25 j) ∧ gI τ 25 r = iZ ((k + 1 : Nat) : Int) ∧ gI τ 22 (2 * r + k) = mxI mi f ∧ gI τ 23 (2 * r + k) = d ∧ gI τ 24 (2 * r + k) = (dst p q G (d, f, s) mi y).1 ∧ (∀ j, j ≠ 2 * r + k → gI τ 22 j = gI σ 22 j ∧ gI τ 23 j = gI σ 23 j ∧ gI τ 24 j = gI σ 24 j) ∧ gI τ 21 10 = gI σ 21 10 ∧ gI τ 21 6 = gI σ 21 6 := by
    intro v τ hv ht
    obtain ⟨a1, a2, a3, a4, a5, a6, a7, a8, a9, a10, a11⟩ := dfS_is σ (2 * r + k) r (mxI mi f) (gI σ 21 8) v (gI σ 25 r + 1) (mxI mi f + abI (v - d) * gI σ 21 5)
    rw [← ht] at a1 a2 a3 a4 a5 a6 a7 a8 a9 a10 a11
    have ef : mxI mi f + abI (v - d) * gI σ 21 5 = (dst p q G (d, f, s) mi y).2.1 := by
      rw [hv, e5]; rfl
    refine ⟨by rw [a1, hv]; rfl, by rw [a2, ef], by rw [a5, ef], a6, by rw [a7, e25, iZs], a8, by rw [a9, e8], by rw [a10, hv]; rfl, a11, a3, a4⟩
  by_cases c : d + y ≤ 9
  · have c' : 0 ≤ (d + y).toInt ∧ (d + y).toInt ≤ 9 := by rw [leI, t_9] at c; omega
    have ev : mnI (d + y) G = dsv G d y := by unfold dsv; rw [if_pos c]
    rw [if_neg (not_not_intro c'), if_pos trivial, df_126 hr (by omega)]
    unfold f_X6_driveFrom_156 f_X6_driveFrom_174
    rw [if_pos rfl]
    obtain ⟨a1, a2, a3, a4, a5, a6, a7, a8, a9, a10, a11⟩ := fin _ _ ev rfl
    refine ⟨_, rfl, a1, a2, ?_, a3, a4, a5, a6, a7, a8, a9⟩
    rw [a10, e10]
    show s = if d + y ≤ 9 then s else _
    rw [if_pos c]
  · have c' : ¬ (0 ≤ (d + y).toInt ∧ (d + y).toInt ≤ 9) := by rw [leI, t_9] at c; omega
    have ev : mnI (d + y - 10) G = dsv G d y := by unfold dsv; rw [if_neg c]
    rw [if_pos c', if_neg (by rw [eI, t_1, t_0]; omega), df_126 hr (by omega)]
    unfold f_X6_driveFrom_156 f_X6_driveFrom_174
    rw [if_neg (by rw [eI, t_1, t_0]; omega)]
    obtain ⟨a1, a2, a3, a4, a5, a6, a7, a8, a9, a10, a11⟩ := fin _ _ ev rfl
    generalize dfS σ (2 * r + k) r (mxI mi f) (gI σ 21 8) (mnI (d + y - 10) G) (gI σ 25 r + 1) (mxI mi f + abI (mnI (d + y - 10) G - d) * gI σ 21 5) = τ at a1 a2 a3 a4 a5 a6 a7 a8 a9 a10 a11 ⊢
    refine ⟨_, rfl, ?_, ?_, ?_, ?_, ?_, ?_, ?_, ?_, ?_, ?_⟩
    · rw [g_sI_ne (by omega)]; exact a1
    · rw [g_sI_ne (by omega)]; exact a2
    · rw [g_sI_eq, a2, a11, e6]
      show _ = if d + y ≤ 9 then s else _
      rw [if_neg c]
      rfl
    · rw [g_sI_c (by omega)]; exact a3
    · rw [g_sI_c (by omega), g_sI_c (by omega)]; exact a4
    · rw [g_sI_c (by omega)]; exact a5
    · rw [g_sI_c (by omega)]; exact a6
    · rw [g_sI_c (by omega)]; exact a7
    · rw [g_sI_c (by omega)]; exact a8
    · rw [g_sI_c (by omega), g_sI_c (by omega), g_sI_c (by omega)]; exact a9
/-- one rope -/
def rpl (p q G h own cm d : Int32) : T3 := if own = -1 then (if cm = -1 then (d, 0, -1) else dst p q G (d, 0, -1) cm 1) else if cm = -1 then dst p q G (d, 0, -1) h own else if cm < h then dst p q G (dst p q G (d, 0, -1) cm 1) h own else dst p q G (dst p q G (d, 0, -1) h own) cm 1
/-- the model's turn -/
theorem m_turn {σ : St} {p q G x1 own : Int32} {r : Nat} (hr : r < 12) (e12 : gI σ 38 12 = p) (e13 : gI σ 38 13 = q) (e44 : gI σ 44 r = G) (eo : f_X10_digitOf x1.toInt64 (iZ (r : Int)) σ = some (own, σ)) (K12 : Int32 → Int32 → Int32 → Int32 → St → Option (St)) (K84 : Int32 → Int32 → Int32 → Int32 → Int32 → Int32 → Int32 → Int32 → Int32 → Int32 → St → Option (St)) (x2 x3 x5 x9 x10 x11 y0 y : Int32) (hy : (x11 = 0 ∧ y = 1) ∨ (¬ x11 = 0 ∧ y = own)) (T : T3) : f_X10_workAll_123 K12 K84 x1 x2 x3 (iZ (r : Int)) x5 T.1 T.2.1 T.2.2 x9 x10 x11 y0 σ = K84 x1 x2 x3 (iZ (r : Int)) x5 (if y0 = -1 then T else dst p q G T y0 y).1 (if y0 = -1 then T else dst p q G T y0 y).2.1 (if y0 = -1 then T else dst p q G T y0 y).2.2 x9 (x10 + 1) σ := by
  unfold f_X10_workAll_123
  by_cases c : y0 = -1
  · simp only [if_pos c]
    unfold f_X10_workAll_229
    rfl
  · simp only [if_neg c]
    have b12 := iZb hr (show 12 < 2147483648 by omega)
    have core : ∀ y : Int32, f_X10_workAll_149 K12 K84 x1 x2 x3 (iZ (r : Int)) x5 T.1 T.2.1 T.2.2 x9 x10 y0 y T.1 σ = K84 x1 x2 x3 (iZ (r : Int)) x5 (dst p q G T y0 y).1 (dst p q G T y0 y).2.1 (dst p q G T y0 y).2.2 x9 (x10 + 1) σ := by
      intro y
      unfold f_X10_workAll_149 f_X10_workAll_152 f_X10_workAll_169 f_X10_workAll_181 f_X10_workAll_204 f_X10_workAll_223 f_X10_workAll_229
      rw [gd_t b12, gd_t b12, iZc (show r < 2147483648 by omega), e44, e12, e13]
      unfold dst dsf dsv
      by_cases c2 : T.1 + y ≤ 9
      · simp only [if_pos c2, mx_sw T.2.1 y0, Int32.mul_comm p]
      · simp only [if_neg c2, mx_sw T.2.1 y0, Int32.mul_comm p]
    rcases hy with ⟨c3, e3⟩ | ⟨c3, e3⟩
    · rw [if_pos c3, e3]
      exact core 1
    · rw [if_neg c3, bnd eo, e3]
      exact core own
