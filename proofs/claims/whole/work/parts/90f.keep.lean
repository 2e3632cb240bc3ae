/-! VALLEYS THAT DIFFER BY THEIR GREATEST ALONE; DIGITS ABOVE THE LAST ROPE -/
def eqG (V W : Vl) : Prop := V.1 = W.1 ∧ V.2.2 = W.2.2
theorem eqG.stand {F : Nat → Int32} {V W : Vl} (h : eqG V W) (k : Nat) (v : Int32) : eqG (standV F k v V) (standV F k v W) := by
  obtain ⟨h1, h2⟩ := h
  unfold eqG standV
  simp only [h1, h2]
  exact ⟨trivial, trivial⟩
theorem eqG.ov {V W : Vl} (h : eqG V W) : eqG (ovV V) (ovV W) := by
  obtain ⟨h1, h2⟩ := h
  unfold eqG ovV
  simp only [h1, h2]
  exact ⟨trivial, trivial⟩
theorem eqG.ca {V W : Vl} (h : eqG V W) : eqG (caV V) (caV W) := by
  obtain ⟨h1, h2⟩ := h
  unfold eqG caV
  simp only [h1, h2]
  exact ⟨trivial, trivial⟩
theorem eqG.lf {V W : Vl} (h : eqG V W) (x : Int32) : eqG (lfV x V) (lfV x W) := by
  obtain ⟨h1, h2⟩ := h
  unfold eqG lfV
  simp only [h1, h2]
  exact ⟨trivial, trivial⟩
theorem eqG.drive {F : Nat → Int32} : ∀ m r : Nat, ∀ y : Int32, ∀ V W : Vl, eqG V W → eqG (driveV F m r y V) (driveV F m r y W)
  | 0, _, _, _, _, h => h.ov
  | m + 1, r, y, V, W, h => by
    rw [driveV, driveV, h.1]
    split
    · exact h.stand _ _
    · exact eqG.drive m (r + 1) _ _ _ (h.stand _ _).ca
theorem eqG.twice {F : Nat → Int32} {R : Nat} : ∀ k : Nat, ∀ V W : Vl, eqG V W → eqG (twiceV F R k V) (twiceV F R k W)
  | 0, _, _, h => h
  | k + 1, V, W, h => by
    rw [twiceV, twiceV, h.1]
    exact eqG.twice k _ _ (eqG.drive _ _ _ _ _ h)
theorem eqG.halve {F : Nat → Int32} : ∀ k : Nat, ∀ x : Int32, ∀ V W : Vl, eqG V W → eqG (halveV F k x V) (halveV F k x W)
  | 0, x, _, _, h => h.lf x
  | k + 1, x, V, W, h => by
    rw [halveV, halveV, h.1]
    exact eqG.halve k _ _ _ (h.stand _ _)
theorem eqG.empty {F : Nat → Int32} : ∀ m r : Nat, ∀ V W : Vl, eqG V W → eqG (emptyV F m r V) (emptyV F m r W)
  | 0, _, _, _, h => h
  | m + 1, r, V, W, h => eqG.empty m (r + 1) _ _ (h.stand _ _)
theorem eqG.bring {F : Nat → Int32} {R : Nat} {g : Nat → Nat → Int32} {x : Int32} {N : Nat} : ∀ m : Nat, ∀ V W : Vl, eqG V W → eqG (bringV F R g x N m V) (bringV F R g x N m W)
  | 0, _, _, h => h
  | m + 1, V, W, h => eqG.bring m _ _ (eqG.drive _ _ _ _ _ h)
theorem eqG.act {F : Nat → Int32} {R : Nat} {V W : Vl} (h : eqG V W) (x : Int32) : eqG (actV F R x V) (actV F R x W) := by
  unfold actV
  split
  · exact eqG.twice _ _ _ h
  · split
    · exact eqG.halve _ _ _ _ h
    · exact eqG.empty _ _ _ _ h
theorem eqG.oi {V W : Vl} (h : eqG V W) (v R : Nat) : eqG (ovIf v R V) (ovIf v R W) := by
  unfold ovIf
  split
  · exact h
  · exact h.ov
theorem drive_hi {F : Nat → Int32} : ∀ m r j : Nat, ∀ y : Int32, ∀ V : Vl, r + m ≤ j → (driveV F m r y V).1 j = V.1 j
  | 0, _, _, _, _, _ => rfl
  | m + 1, r, j, y, V, h => by
    rw [driveV]
    split
    · exact stand_lo (by omega)
    · rw [drive_hi m (r + 1) j _ _ (by omega)]
      show (standV F r _ V).1 j = _
      exact stand_lo (by omega)
theorem twice_hi {F : Nat → Int32} {R j : Nat} (hj : R ≤ j) : ∀ k : Nat, ∀ V : Vl, k ≤ R → (twiceV F R k V).1 j = V.1 j
  | 0, _, _ => rfl
  | k + 1, V, h => by
    rw [twiceV, twice_hi hj k _ (by omega), drive_hi _ _ _ _ _ (by omega)]
theorem halve_hi {F : Nat → Int32} {R j : Nat} (hj : R ≤ j) : ∀ k : Nat, ∀ x : Int32, ∀ V : Vl, k ≤ R → (halveV F k x V).1 j = V.1 j
  | 0, _, _, _ => rfl
  | k + 1, x, V, h => by
    rw [halveV, halve_hi hj k _ _ (by omega), stand_lo (by omega)]
theorem empty_hi {F : Nat → Int32} {R j : Nat} (hj : R ≤ j) (V : Vl) : (emptyV F R 0 V).1 j = V.1 j := by
  rw [empty_up]
  show (if 0 ≤ j ∧ j < 0 + R then _ else V.1 j) = _
  rw [if_neg (by omega)]
theorem bring_hi {F : Nat → Int32} {R : Nat} {g : Nat → Nat → Int32} {x : Int32} {N j : Nat} (hj : R ≤ j) (hN : N ≤ R) : ∀ m : Nat, ∀ V : Vl, m ≤ N → (bringV F R g x N m V).1 j = V.1 j
  | 0, _, _ => rfl
  | m + 1, V, h => by
    have hl := turn_lt (x := x) (show m < N by omega)
    rw [bringV, bring_hi hj hN m _ (by omega), drive_hi _ _ _ _ _ (by omega)]
theorem act_hi {F : Nat → Int32} {R j : Nat} (hj : R ≤ j) (x : Int32) (V : Vl) : (actV F R x V).1 j = V.1 j := by
  unfold actV
  split
  · exact twice_hi hj R V (by omega)
  · split
    · exact halve_hi hj R 0 V (by omega)
    · exact empty_hi hj V
theorem ovIf_1 (v R : Nat) (V : Vl) : (ovIf v R V).1 = V.1 := by
  unfold ovIf
  split <;> rfl
theorem mn3 (t W p C q W' C' : Int32) : t + W * p + C * q + ((W' - W) * p + (C' - C) * q) = t + W' * p + C' * q := by
  rw [Int32.sub_mul, Int32.sub_mul]
  generalize W * p = a
  generalize C * q = b
  generalize W' * p = a'
  generalize C' * q = b'
  rw [← iZ_self t, ← iZ_self a, ← iZ_self b, ← iZ_self a', ← iZ_self b']
  simp only [iZ_add, iZ_sub]
  congr 1; omega
/-! WHAT CAN BE UNDONE -/
theorem vsum_hi {f : Nat → Int} {R : Nat} : ∀ m : Nat, (∀ j, R ≤ j → j < R + m → f j = 0) → vsum f (R + m) = vsum f R
  | 0, _ => rfl
  | m + 1, h => by
    show vsum f (R + m) + f (R + m) * 10 ^ (R + m) = _
    rw [h (R + m) (by omega) (by omega), Int.zero_mul, Int.add_zero, vsum_hi m (fun j h1 h2 => h j h1 (by omega))]
theorem nx40 {i : Nat} (h : i < 40) : rmI (iZ (i : Int) + 1) 40 = iZ (((i + 1) % 40 : Nat) : Int) := by
  have e : (40 : Int32) = iZ 40 := rfl
  rw [iZs, e, iZ_rm (by omega) (by omega) (by omega) (by omega)]
  congr 1
theorem eight_i (i : Nat) : iZ (i : Int) * 8 = iZ ((8 * i : Nat) : Int) := by
  have h : (8 : Int32) = iZ 8 := rfl
  rw [h, iZ_mul]; congr 1; omega
theorem iZk (a k : Nat) (x : Int32) (hx : x = iZ (k : Int)) : iZ (a : Int) + x = iZ ((a + k : Nat) : Int) := by rw [hx, iZa]
theorem c_keep {R i : Nat} {σ : St} (hR : R ≤ 12) (hr : (gI σ 1 0).toInt = R) (hi : i < 40) (e9 : gI σ 9 1 = iZ (i : Int)) : ∃ σ', f_X2_keep 1 σ = some σ' ∧ gI σ' 9 1 = iZ (((i + 1) % 40 : Nat) : Int) ∧ gI σ' 9 2 = mnI (gI σ 9 2 + 1) 40 ∧ gJ σ' 10 (8 * i) = jZ (vsum (dg σ 2) R) ∧ gJ σ' 10 (8 * i + 1) = gJ σ 1 6 ∧ (∀ k, k < 6 → gJ σ' 10 (8 * i + 2 + k) = (gI σ 1 (7 + k)).toInt64) ∧ (∀ j, (j < 8 * i ∨ 8 * i + 8 ≤ j) → gJ σ' 10 j = gJ σ 10 j) := by
  unfold f_X2_keep f_X2_keep_8
  rw [s_value 1 σ R hR hr, e9, eight_i]
  simp only [Option.bind_some]
  unfold f_X2_keep_30 f_X2_keep_56 f_X2_keep_82 f_X2_keep_110
  simp only [iZs, iZk (8 * i) 2 2 rfl, iZk (8 * i) 3 3 rfl, iZk (8 * i) 4 4 rfl, iZk (8 * i) 5 5 rfl, iZk (8 * i) 6 6 rfl, iZk (8 * i) 7 7 rfl]
  rw [gd_t (iZb (show 8 * i < 320 by omega) (by omega)), gd_t (iZb (show 8 * i + 1 < 320 by omega) (by omega)), gd_t (iZb (show 8 * i + 2 < 320 by omega) (by omega)), gd_t (iZb (show 8 * i + 3 < 320 by omega) (by omega)), gd_t (iZb (show 8 * i + 4 < 320 by omega) (by omega)), gd_t (iZb (show 8 * i + 5 < 320 by omega) (by omega)), gd_t (iZb (show 8 * i + 6 < 320 by omega) (by omega)), gd_t (iZb (show 8 * i + 7 < 320 by omega) (by omega))]
  simp only [iZc (show 8 * i < 2147483648 by omega), iZc (show 8 * i + 1 < 2147483648 by omega), iZc (show 8 * i + 2 < 2147483648 by omega), iZc (show 8 * i + 3 < 2147483648 by omega), iZc (show 8 * i + 4 < 2147483648 by omega), iZc (show 8 * i + 5 < 2147483648 by omega), iZc (show 8 * i + 6 < 2147483648 by omega), iZc (show 8 * i + 7 < 2147483648 by omega)]
  refine ⟨_, rfl, ?_, ?_, ?_, ?_, ?_, ?_⟩
  · simp [gI_sI, gI_sJ, gI_sR, gJ_sI, gJ_sJ, gJ_sR, gR_sI, gR_sJ, gR_sR, e9, nx40 hi]
  · simp [gI_sI, gI_sJ, gI_sR, gJ_sI, gJ_sJ, gJ_sR, gR_sI, gR_sJ, gR_sR]
  · simp [gI_sI, gI_sJ, gI_sR, gJ_sI, gJ_sJ, gJ_sR, gR_sI, gR_sJ, gR_sR]
  · simp [gI_sI, gI_sJ, gI_sR, gJ_sI, gJ_sJ, gJ_sR, gR_sI, gR_sJ, gR_sR]
  · intro k hk
    have hc : k = 0 ∨ k = 1 ∨ k = 2 ∨ k = 3 ∨ k = 4 ∨ k = 5 := by omega
    rcases hc with rfl | rfl | rfl | rfl | rfl | rfl
    · simp [gI_sI, gI_sJ, gI_sR, gJ_sI, gJ_sJ, gJ_sR, gR_sI, gR_sJ, gR_sR]
    · simp [gI_sI, gI_sJ, gI_sR, gJ_sI, gJ_sJ, gJ_sR, gR_sI, gR_sJ, gR_sR]
    · simp [gI_sI, gI_sJ, gI_sR, gJ_sI, gJ_sJ, gJ_sR, gR_sI, gR_sJ, gR_sR]
    · simp [gI_sI, gI_sJ, gI_sR, gJ_sI, gJ_sJ, gJ_sR, gR_sI, gR_sJ, gR_sR]
    · simp [gI_sI, gI_sJ, gI_sR, gJ_sI, gJ_sJ, gJ_sR, gR_sI, gR_sJ, gR_sR]
    · simp [gI_sI, gI_sJ, gI_sR, gJ_sI, gJ_sJ, gJ_sR, gR_sI, gR_sJ, gR_sR]
  · intro j hj
    have n0 : ¬ j = 8 * i := by omega
    have n1 : ¬ j = 8 * i + 1 := by omega
    have n2 : ¬ j = 8 * i + 2 := by omega
    have n3 : ¬ j = 8 * i + 3 := by omega
    have n4 : ¬ j = 8 * i + 4 := by omega
    have n5 : ¬ j = 8 * i + 5 := by omega
    have n6 : ¬ j = 8 * i + 6 := by omega
    have n7 : ¬ j = 8 * i + 7 := by omega
    simp [gI_sI, gI_sJ, gI_sR, gJ_sI, gJ_sJ, gJ_sR, gR_sI, gR_sJ, gR_sR, n0, n1, n2, n3, n4, n5, n6, n7]
theorem nin_i (i k : Nat) : (19 : Int32) * iZ (i : Int) + iZ (k : Int) = iZ ((19 * i + k : Nat) : Int) := by
  have h : (19 : Int32) = iZ 19 := rfl
  rw [h, iZ_mul, iZ_add]; congr 1
theorem m_keep_go {i : Nat} {σ0 : St} (hi : i < 40) : ∀ m n k : Nat, ∀ σ : St, k + m = 19 → m < n → gI σ 38 28 = iZ (i : Int) → gI σ 46 = gI σ0 46 → (∀ j, j < k → gI σ 49 (19 * i + j) = gI σ0 46 j) → (∀ j, (j < 19 * i ∨ 19 * i + 19 ≤ j) → gI σ 49 j = gI σ0 49 j) → ∃ σ', f_X10_keep_2 n (iZ (k : Int)) σ = some σ' ∧ gI σ' 38 28 = iZ (((i + 1) % 40 : Nat) : Int) ∧ gI σ' 38 27 = mnI 40 (gI σ 38 27 + 1) ∧ (∀ j, j < 19 → gI σ' 49 (19 * i + j) = gI σ0 46 j) ∧ (∀ j, (j < 19 * i ∨ 19 * i + 19 ≤ j) → gI σ' 49 j = gI σ0 49 j) ∧ gJ σ' 50 i = gJ σ 38 18 ∧ (∀ j, j ≠ i → gJ σ' 50 j = gJ σ 50 j) := by
  intro m
  induction m with
  | zero =>
    intro n k σ e hn e28 e46 h1 h2
    cases n with
    | zero => omega
    | succ n =>
      have hk : k = 19 := by omega
      subst hk
      rw [f_X10_keep_2, if_pos (by rw [leI, iZt (by omega), t_19]; omega), e28, gd_t (iZb hi (by omega)), iZc (by omega)]
      unfold f_X10_keep_60
      refine ⟨_, rfl, ?_, ?_, ?_, ?_, ?_, ?_⟩
      · simp [gI_sI, gI_sJ, gI_sR, gJ_sI, gJ_sJ, gJ_sR, gR_sI, gR_sJ, gR_sR, e28, nx40 hi]
      · simp [gI_sI, gI_sJ, gI_sR, gJ_sI, gJ_sJ, gJ_sR, gR_sI, gR_sJ, gR_sR]
      · intro j hj; simp [gI_sI, gI_sJ, gI_sR, gJ_sI, gJ_sJ, gJ_sR, gR_sI, gR_sJ, gR_sR, h1 j hj]
      · intro j hj; simp [gI_sI, gI_sJ, gI_sR, gJ_sI, gJ_sJ, gJ_sR, gR_sI, gR_sJ, gR_sR, h2 j hj]
      · simp [gI_sI, gI_sJ, gI_sR, gJ_sI, gJ_sJ, gJ_sR, gR_sI, gR_sJ, gR_sR]
      · intro j hj; simp [gI_sI, gI_sJ, gI_sR, gJ_sI, gJ_sJ, gJ_sR, gR_sI, gR_sJ, gR_sR, hj]
  | succ m ih =>
    intro n k σ e hn e28 e46 h1 h2
    cases n with
    | zero => omega
    | succ n =>
      rw [f_X10_keep_2, if_neg (by rw [leI, iZt (by omega), t_19]; omega), e28, nin_i, gd_t (iZb (show k < 19 by omega) (by omega)), gd_t (iZb (show 19 * i + k < 760 by omega) (by omega)), iZc (show 19 * i + k < 2147483648 by omega), iZc (show k < 2147483648 by omega)]
      unfold f_X10_keep_28
      rw [iZs]
      have := ih n (k + 1) (sI σ 49 (19 * i + k) (gI σ 46 k)) (by omega) (by omega) (by rw [g_sI_c (by omega)]; exact e28) (by rw [g_sI_c (by omega)]; exact e46) (fun j hj => by
        by_cases c : j = k
        · subst c; rw [g_sI_eq, e46]
        · rw [g_sI_ne (by omega)]; exact h1 j (by omega)) (fun j hj => by
        rw [g_sI_ne (by omega)]; exact h2 j hj)
      obtain ⟨σ', a1, a2, a3, a4, a5, a6, a7⟩ := this
      refine ⟨σ', a1, a2, ?_, a4, a5, a6, a7⟩
      rw [a3, g_sI_c (by omega)]
theorem m_keep {i : Nat} {σ : St} (hi : i < 40) (e : gI σ 38 28 = iZ (i : Int)) : ∃ σ', f_X10_keep σ = some σ' ∧ gI σ' 38 28 = iZ (((i + 1) % 40 : Nat) : Int) ∧ gI σ' 38 27 = mnI 40 (gI σ 38 27 + 1) ∧ (∀ j, j < 19 → gI σ' 49 (19 * i + j) = gI σ 46 j) ∧ (∀ j, (j < 19 * i ∨ 19 * i + 19 ≤ j) → gI σ' 49 j = gI σ 49 j) ∧ gJ σ' 50 i = gJ σ 38 18 ∧ (∀ j, j ≠ i → gJ σ' 50 j = gJ σ 50 j) :=
  m_keep_go hi 19 FU 0 σ (by omega) (by unfold FU; omega) e rfl (fun j hj => by omega) (fun j hj => rfl)
