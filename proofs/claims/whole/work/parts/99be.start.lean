/-! WHAT HOLDS AT THE START -/
theorem flS_I {σ : St} {ar : Nat} {v : Int32} (b : Nat) : ∀ n : Nat, gI (flS σ ar v n) ar b = if b < n then v else gI σ ar b := by
  intro n
  induction n with
  | zero => rw [if_neg (Nat.not_lt_zero b)]; rfl
  | succ n ih =>
    show gI (sI (flS σ ar v n) ar n v) ar b = _
    by_cases c : b = n
    · subst c; rw [g_sI_eq, if_pos (by omega)]
    · rw [g_sI_ne (by omega), ih]
      by_cases d : b < n
      · rw [if_pos d, if_pos (by omega)]
      · rw [if_neg d, if_neg (by omega)]
theorem dgS_y {σ : St} {ar : Nat} : ∀ n d : Nat, d < n → gI (dgS σ ar n) ar (11 * d) = 100 := by
  intro n
  induction n with
  | zero => intro d h; omega
  | succ n ih =>
    intro d h
    show gI (sI (dgS σ ar n) ar (11 * n) 100) ar (11 * d) = _
    by_cases c : d = n
    · subst c; rw [g_sI_eq]
    · rw [g_sI_ne (by omega)]; exact ih d (by omega)
theorem dgS_n {σ : St} {ar b : Nat} : ∀ n : Nat, (∀ d, d < n → b ≠ 11 * d) → gI (dgS σ ar n) ar b = gI σ ar b := by
  intro n
  induction n with
  | zero => intro _; rfl
  | succ n ih =>
    intro h
    show gI (sI (dgS σ ar n) ar (11 * n) 100) ar b = _
    rw [g_sI_ne (by have := h n (by omega); omega)]
    exact ih (fun d hd => h d (by omega))
theorem enK : ((List.range 72).all fun n => Nat.beq (K0.getD n 0) (eK enN n)) = true := by decide +kernel
theorem enL : ((List.range 72).all fun n => Nat.beq (L0.getD n 0) (eL enN n)) = true := by decide +kernel
theorem enS : ((List.range 72).all fun n => (List.range 60).all fun k => decide (S0 n k = eS enN n k)) = true := by decide +kernel
theorem S0_hi (n k : Nat) (h : 60 ≤ k) : S0 n k = none := by
  unfold S0
  split <;> first | rfl | omega
theorem blt_t {n : Nat} (h : n < 72) : Nat.blt n 72 = true := Nat.blt_eq.mpr h
theorem blt_f {n : Nat} (h : ¬ n < 72) : Nat.blt n 72 = false := by
  cases c : Nat.blt n 72 with
  | false => rfl
  | true => exact absurd (Nat.blt_eq.mp c) h
theorem En_eta (E : En) : (eK E, eL E, eS E, eZ E, eY E) = E := rfl
theorem mk_of {E : En} (h1 : ∀ n, n < 72 → K0.getD n 0 = eK E n) (h2 : ∀ n, n < 72 → L0.getD n 0 = eL E n) (h3 : ∀ n k, n < 72 → S0 n k = eS E n k) : mk E = E := by
  have e1 : (fun n => bif Nat.blt n 72 then K0.getD n 0 else eK E n) = eK E := funext fun n => by
    by_cases c : n < 72
    · rw [blt_t c]; exact h1 n c
    · rw [blt_f c]; rfl
  have e2 : (fun n => bif Nat.blt n 72 then L0.getD n 0 else eL E n) = eL E := funext fun n => by
    by_cases c : n < 72
    · rw [blt_t c]; exact h2 n c
    · rw [blt_f c]; rfl
  have e3 : (fun n k => bif Nat.blt n 72 then S0 n k else eS E n k) = eS E := funext fun n => funext fun k => by
    by_cases c : n < 72
    · rw [blt_t c]; exact h3 n k c
    · rw [blt_f c]; rfl
  have e : mk E = ((fun n => bif Nat.blt n 72 then K0.getD n 0 else eK E n), (fun n => bif Nat.blt n 72 then L0.getD n 0 else eL E n), (fun n k => bif Nat.blt n 72 then S0 n k else eS E n k), eZ E, eY E) := rfl
  rw [e, e1, e2, e3]
  exact En_eta E
theorem enS1 (n k : Nat) (h : n < 72) : S0 n k = eS enN n k := by
  by_cases d : k < 60
  · exact of_decide_eq_true (List.all_eq_true.mp (List.all_eq_true.mp enS n (List.mem_range.mpr h)) k (List.mem_range.mpr d))
  · rw [S0_hi n k (by omega)]
    exact (kS_en_139 n k (by omega)).symm
theorem mk_enN : mk enN = enN := mk_of (fun n h => Nat.eq_of_beq_eq_true (List.all_eq_true.mp enK n (List.mem_range.mpr h))) (fun n h => Nat.eq_of_beq_eq_true (List.all_eq_true.mp enL n (List.mem_range.mpr h))) enS1
theorem vsum_z {f : Nat → Int} : ∀ n : Nat, (∀ j, j < n → f j = 0) → vsum f n = 0 := by
  intro n
  induction n with
  | zero => intro _; rfl
  | succ n ih =>
    intro h
    show vsum f n + f n * 10 ^ n = 0
    rw [ih (fun j hj => h j (by omega)), h n (by omega), Int.zero_mul]
    rfl
theorem v_0 (x : Int32) (b : Nat) : gI (stN x) 0 b = if b = 17 then 1 else if b = 16 then 2 else if b = 15 then 1 else 0 := by
  rw [c0_72 x, I_sI_s, I_sI_s, I_sI_s, c0_38 x]
theorem v_1 (x : Int32) (b : Nat) : gI (stN x) 1 b = if b = 0 then mxI 2 (mnI 12 x) else 0 := by
  rw [c1_72 x, I_sI_s, c1_5 x]
theorem v_38 (x : Int32) (b : Nat) : gI (stN x) 38 b = if b = 1 then mxI 2 (mnI 12 x) else if b = 14 then 1 else if b = 13 then 2 else if b = 12 then 1 else 0 := by
  rw [c38_72 x, I_sI_s, c38_71 x, I_sI_s, I_sI_s, I_sI_s, c38_44 x]
theorem v_3 (x : Int32) (j : Nat) : gI (stN x) 3 j = if j < 12 then 9 else 0 := by
  rw [c3_72 x, flS_I, g_sI_c (by omega), c3_5 x]
theorem v_44 (x : Int32) (j : Nat) : gI (stN x) 44 j = if j < 12 then 9 else 0 := by
  rw [c44_72 x, flS_I, g_sI_c (by omega), c44_71 x]
theorem rr_x (x : Int32) : rg (mxI 2 (mnI 12 x)) 2 12 := by
  unfold rg mxI mnI
  by_cases c : x < 12
  · rw [if_pos c]
    rw [lI, t_12] at c
    by_cases d : (2 : Int32) < x
    · rw [if_pos d]
      rw [lI, t_2] at d
      omega
    · rw [if_neg d, t_2]; omega
  · rw [if_neg c, if_pos (by decide), t_12]; omega
theorem Rel_start (x : Int32) : Rel enN (stN x) := by
  have r10 : gI (stN x) 1 0 = mxI 2 (mnI 12 x) := by rw [v_1]; rfl
  have rr := rr_x x
  have h3 := v_3 x
  have h44 := v_44 x
  have h16 : ∀ j, gI (stN x) 16 j = gI (dgS (sR (st_19 x) 15 2 (some 18)) 16 10) 16 j := fun j => by rw [c16_72 x]
  have z16 : ∀ j, gI (sR (st_19 x) 15 2 (some 18)) 16 j = 0 := fun j => by rw [I_sR_c, c16_19 x]
  have z2 : ∀ j, gI (stN x) 2 j = 0 := fun j => by rw [c2_72 x]
  have z46 : ∀ j, gI (stN x) 46 j = 0 := fun j => by rw [c46_72 x]
  have z45 : ∀ j, gI (stN x) 45 j = 0 := fun j => by rw [c45_72 x]
  have z12 : ∀ j, gI (stN x) 12 j = 0 := fun j => by rw [c12_72 x]
  have z39 : ∀ j, gI (stN x) 39 j = 0 := fun j => by rw [c39_72 x]
  have z20 : ∀ j, gI (stN x) 20 j = 0 := fun j => by rw [c20_72 x]
  have z54 : ∀ j, gI (stN x) 54 j = 0 := fun j => by rw [c54_72 x]
  have z49 : ∀ j, gI (stN x) 49 j = 0 := fun j => by rw [c49_72 x]
  have z10 : ∀ j, gJ (stN x) 10 j = 0 := fun j => by rw [j_72 x]
  have z50 : ∀ j, gJ (stN x) 50 j = 0 := fun j => by rw [j_72 x]
  refine ⟨?_, ?_, ?_, ?_, ?_, ?_, ?_, ?_, ?_, ?_, ?_, ?_, ?_, ?_⟩
  · have a1 : gI (stN x) 0 14 = 0 := by rw [v_0]; rfl
    have a2 : gI (stN x) 0 15 = 1 := by rw [v_0]; rfl
    have a3 : gI (stN x) 0 16 = 2 := by rw [v_0]; rfl
    have a4 : gI (stN x) 0 17 = 1 := by rw [v_0]; rfl
    have a5 : gI (stN x) 38 11 = 0 := by rw [v_38]; rfl
    have a6 : gI (stN x) 38 12 = 1 := by rw [v_38]; rfl
    have a7 : gI (stN x) 38 13 = 2 := by rw [v_38]; rfl
    have a8 : gI (stN x) 38 14 = 1 := by rw [v_38]; rfl
    unfold Rset rg
    rw [a1, a2, a3, a4, a5, a6, a7, a8, t_0, t_1, t_2]
    exact ⟨rfl, rfl, rfl, rfl, by omega, by omega, by omega, by omega⟩
  · have a1 : gI (stN x) 38 3 = 0 := by rw [v_38]; rfl
    have a2 : gI (stN x) 11 1 = 0 := by rw [c11_72 x]
    refine ⟨by rw [a1, a2], by rw [a2]; unfold rg; rw [t_0]; omega, funext fun j => by rw [z39, z12], fun j => by rw [z12]; unfold rg; rw [t_0]; omega⟩
  · have a1 : gI (stN x) 38 1 = mxI 2 (mnI 12 x) := by rw [v_38]; rfl
    exact ⟨by rw [a1, r10], by rw [r10]; exact rr⟩
  · exact ⟨fun j _ => ⟨by rw [z46, z2], by rw [z2]; unfold rg; rw [t_0]; omega⟩, fun j _ _ => z2 j⟩
  · have a1 : gI (stN x) 38 19 = 0 := by rw [v_38]; rfl
    have a2 : gI (stN x) 1 4 = 0 := by rw [v_1]; rfl
    have a3 : gI (stN x) 38 20 = 0 := by rw [v_38]; rfl
    have a4 : gI (stN x) 1 5 = 0 := by rw [v_1]; rfl
    have a5 : gJ (stN x) 38 18 = 0 := by rw [j_72 x]
    have a6 : gJ (stN x) 1 6 = 0 := by rw [j_72 x]
    refine ⟨funext fun j => by rw [h44, h3], fun j hj => by rw [h3, if_pos hj]; unfold rg; rw [t_9]; omega, by rw [a1, a2], by rw [a3, a4], by rw [a5, a6], 0, by rw [a4]; rfl, Nat.pow_pos (by omega), by decide⟩
  · have a1 : gI (stN x) 1 7 = 0 := by rw [v_1]; rfl
    have a2 : gI (stN x) 1 8 = 0 := by rw [v_1]; rfl
    have a3 : gI (stN x) 1 9 = 0 := by rw [v_1]; rfl
    have a4 : gI (stN x) 1 10 = 0 := by rw [v_1]; rfl
    have a5 : gI (stN x) 1 11 = 0 := by rw [v_1]; rfl
    have a6 : gI (stN x) 1 12 = 0 := by rw [v_1]; rfl
    have a7 : gI (stN x) 0 13 = 0 := by rw [v_0]; rfl
    exact ⟨by rw [z46, a1], by rw [z46, a2], by rw [z46, a3], by rw [z46, a4], by rw [z46, a5], by rw [z46, a6], by rw [z46, a7]⟩
  · have a1 : gI (stN x) 38 27 = 0 := by rw [v_38]; rfl
    have a2 : gI (stN x) 9 2 = 0 := by rw [c9_72 x]
    have a3 : gI (stN x) 38 28 = 0 := by rw [v_38]; rfl
    have a4 : gI (stN x) 9 1 = 0 := by rw [c9_72 x]
    refine ⟨by rw [a1, a2], by rw [a3, a4], by rw [a4]; unfold rg; rw [t_0]; omega, by rw [a2]; unfold rg; rw [t_0]; omega, fun i _ => ⟨fun j _ => by rw [z49]; unfold rg; rw [t_0]; omega, fun j _ _ => z49 _, ?_, by rw [z10, z50], fun k _ => by rw [z10, z49]; rfl⟩, fun t ht => ?_⟩
    · rw [z10, vsum_z 12 (fun j _ => by rw [z49]; rfl)]
      rfl
    · rw [a2] at ht
      have : (0 : Int32).toInt.toNat = 0 := rfl
      rw [this] at ht
      omega
  · have a1 : gR (stN x) 15 1 = some 17 := by rw [r15_72 x, gR_sR, if_pos rfl, if_neg (by omega), r15_19 x, gR_sR, if_pos rfl, if_pos rfl]
    have a2 : gR (stN x) 15 2 = some 18 := by rw [r15_72 x, gR_sR, if_pos rfl, if_pos rfl]
    refine ⟨fun d hd => ⟨fun k _ => by rw [z45]; unfold rg; rw [t_0]; omega, z45 _, fun k hk hn => ?_, ?_, ?_⟩, Or.inl ⟨a1, a2⟩⟩
    · rw [h16, dgS_n 10 (fun d' h' => by omega), z16, z45]
    · rw [h16, dgS_y 10 d hd, t_100]
      have : esum (fun k => (gI (stN x) 45 (10 * d + k)).toInt) 10 = 0 := Eq.trans (esum_cg 10 (g := fun _ => 0) (fun j _ => by rw [z45]; rfl)) (esum_z 10)
      rw [this]
      rfl
    · rw [h16, dgS_y 10 d hd, t_100]; omega
  · have a1 : gI (stN x) 38 33 = 0 := by rw [v_38]; rfl
    have a2 : gI (stN x) 19 1 = 0 := by rw [c19_72 x]
    exact ⟨by rw [a1, a2], by rw [a2]; unfold rg; rw [t_0]; omega, funext fun j => by rw [z54, z20], fun j => by rw [z20]; unfold rg; rw [t_0]; omega⟩
  · exact ⟨by rw [v_38]; rfl, by rw [v_38]; rfl⟩
  · have a1 : gI (stN x) 38 10 = 0 := by rw [v_38]; rfl
    have a2 : gI (stN x) 0 7 = 0 := by rw [v_0]; rfl
    refine ⟨by rw [a1, a2], by rw [a2]; unfold rg; rw [t_0]; omega, fun k hk => ?_⟩
    rw [a2, t_0] at hk
    omega
  · exact Or.inl ⟨by rw [r0_72 x], by rw [v_38]; rfl⟩
  · exact Or.inl (by rw [r0_72 x])
  · have a1 : gI (stN x) 19 3 = 0 := by rw [c19_72 x]
    have a2 : gI (stN x) 19 1 = 0 := by rw [c19_72 x]
    refine ⟨by rw [a1, a2]; unfold rg; rw [t_0]; omega, Or.inl ⟨by rw [r19_72 x], a1⟩⟩
theorem enN_Z : eZ enN = 72 := z_en_139
theorem enN_Y : eY enN ≤ 10000 := by decide +kernel
