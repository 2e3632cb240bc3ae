/-! WHAT HOLDS AT THE START -/
theorem flS_I {σ : St} {ar : Nat} {v : Int32} (b : Nat) : ∀ n : Nat, gI (flS σ ar v n) ar b = if b < n then v else gI σ ar b := by
  intro n
  induction n with
  | zero => rw [if_neg (Nat.not_lt_zero b)]; rfl
  | succ n ih =>
    show gI (sI (flS σ ar v n) ar n v) ar b = _
    by_cases c : b = n
    · subst c; rw [g_sI_eq, if_pos (by omega)]
    · rw [g_sI_ne (by omega), ih]
      by_cases d : b < n
      · rw [if_pos d, if_pos (by omega)]
      · rw [if_neg d, if_neg (by omega)]
theorem dgS_y {σ : St} {ar : Nat} : ∀ n d : Nat, d < n → gI (dgS σ ar n) ar (11 * d) = 100 := by
  intro n
  induction n with
  | zero => intro d h; omega
  | succ n ih =>
    intro d h
    show gI (sI (dgS σ ar n) ar (11 * n) 100) ar (11 * d) = _
    by_cases c : d = n
    · subst c; rw [g_sI_eq]
    · rw [g_sI_ne (by omega)]; exact ih d (by omega)
theorem dgS_n {σ : St} {ar b : Nat} : ∀ n : Nat, (∀ d, d < n → b ≠ 11 * d) → gI (dgS σ ar n) ar b = gI σ ar b := by
  intro n
  induction n with
  | zero => intro _; rfl
  | succ n ih =>
    intro h
    show gI (sI (dgS σ ar n) ar (11 * n) 100) ar b = _
    rw [g_sI_ne (by have := h n (by omega); omega)]
    exact ih (fun d hd => h d (by omega))
theorem enK : ((List.range 72).all fun n => Nat.beq (K0.getD n 0) (eK enN n)) = true := by decide +kernel
theorem enL : ((List.range 72).all fun n => Nat.beq (L0.getD n 0) (eL enN n)) = true := by decide +kernel
theorem enS : ((List.range 72).all fun n => (List.range 60).all fun k => decide (S0 n k = eS enN n k)) = true := by decide +kernel
theorem S0_hi (n k : Nat) (h : 60 ≤ k) : S0 n k = none := by
  unfold S0
  split <;> first | rfl | omega
theorem blt_t {n : Nat} (h : n < 72) : Nat.blt n 72 = true := Nat.blt_eq.mpr h
theorem blt_f {n : Nat} (h : ¬ n < 72) : Nat.blt n 72 = false := by
  cases c : Nat.blt n 72 with
  | false => rfl
  | true => exact absurd (Nat.blt_eq.mp c) h
theorem mk_enN : mk enN = enN := by
  have e1 : (fun n => bif Nat.blt n 72 then K0.getD n 0 else eK enN n) = eK enN := funext fun n => by
    by_cases c : n < 72
    · rw [blt_t c]
      exact Nat.eq_of_beq_eq_true (List.all_eq_true.mp enK n (List.mem_range.mpr c))
    · rw [blt_f c]; rfl
  have e2 : (fun n => bif Nat.blt n 72 then L0.getD n 0 else eL enN n) = eL enN := funext fun n => by
    by_cases c : n < 72
    · rw [blt_t c]
      exact Nat.eq_of_beq_eq_true (List.all_eq_true.mp enL n (List.mem_range.mpr c))
    · rw [blt_f c]; rfl
  have e3 : (fun n k => bif Nat.blt n 72 then S0 n k else eS enN n k) = eS enN := funext fun n => funext fun k => by
    by_cases c : n < 72
    · rw [blt_t c]
      by_cases d : k < 60
      · exact of_decide_eq_true (List.all_eq_true.mp (List.all_eq_true.mp enS n (List.mem_range.mpr c)) k (List.mem_range.mpr d))
      · have a := kS_en_139 n k (by omega)
        have b := S0_hi n k (by omega)
        show S0 n k = eS enN n k
        rw [b]; exact a.symm
    · rw [blt_f c]; rfl
  have e : mk enN = ((fun n => bif Nat.blt n 72 then K0.getD n 0 else eK enN n), (fun n => bif Nat.blt n 72 then L0.getD n 0 else eL enN n), (fun n k => bif Nat.blt n 72 then S0 n k else eS enN n k), eZ enN, eY enN) := rfl
  rw [e, e1, e2, e3]
  rfl
theorem vsum_z {f : Nat → Int} : ∀ n : Nat, (∀ j, j < n → f j = 0) → vsum f n = 0 := by
  intro n
  induction n with
  | zero => intro _; rfl
  | succ n ih =>
    intro h
    show vsum f n + f n * 10 ^ n = 0
    rw [ih (fun j hj => h j (by omega)), h n (by omega), Int.zero_mul]
    rfl
theorem Rel_start (x : Int32) : Rel enN (stN x) := by
  have r10 : gI (stN x) 1 0 = mxI 2 (mnI 12 x) := rfl
  have rr : rg (mxI 2 (mnI 12 x)) 2 12 := by
    unfold rg mxI mnI
    rw [lI, t_12]
    by_cases c : x.toInt < 12
    · rw [if_pos c, lI, t_2]
      by_cases d : 2 < x.toInt
      · rw [if_pos d]; omega
      · rw [if_neg d, t_2]; omega
    · rw [if_neg c, lI, t_2, t_12, if_pos (by omega), t_12]; omega
  have h3 : ∀ j, gI (stN x) 3 j = if j < 12 then 9 else 0 := fun j => by
    refine Eq.trans (show gI (stN x) 3 j = gI (flS (sI (st_5 x) 1 0 (mxI 2 (mnI 12 x))) 3 9 12) 3 j from rfl) ?_
    rw [flS_I]
    rfl
  have h44 : ∀ j, gI (stN x) 44 j = if j < 12 then 9 else 0 := fun j => by
    refine Eq.trans (show gI (stN x) 44 j = gI (flS (sI (st_71 x) 38 1 (mxI 2 (mnI 12 x))) 44 9 12) 44 j from rfl) ?_
    rw [flS_I]
    rfl
  have h16 : ∀ j, gI (stN x) 16 j = gI (dgS (sR (st_19 x) 15 2 (some 18)) 16 10) 16 j := fun j => rfl
  have z16 : ∀ j, gI (sR (st_19 x) 15 2 (some 18)) 16 j = 0 := fun j => rfl
  have z2 : ∀ j, gI (stN x) 2 j = 0 := fun j => rfl
  have z46 : ∀ j, gI (stN x) 46 j = 0 := fun j => rfl
  have z45 : ∀ j, gI (stN x) 45 j = 0 := fun j => rfl
  have z12 : ∀ j, gI (stN x) 12 j = 0 := fun j => rfl
  have z39 : ∀ j, gI (stN x) 39 j = 0 := fun j => rfl
  have z20 : ∀ j, gI (stN x) 20 j = 0 := fun j => rfl
  have z54 : ∀ j, gI (stN x) 54 j = 0 := fun j => rfl
  have z49 : ∀ j, gI (stN x) 49 j = 0 := fun j => rfl
  have z10 : ∀ j, gJ (stN x) 10 j = 0 := fun j => rfl
  have z50 : ∀ j, gJ (stN x) 50 j = 0 := fun j => rfl
  refine ⟨?_, ?_, ?_, ?_, ?_, ?_, ?_, ?_, ?_, ?_, ?_, ?_, ?_, ?_⟩
  · have a1 : gI (stN x) 0 14 = 0 := rfl
    have a2 : gI (stN x) 0 15 = 1 := rfl
    have a3 : gI (stN x) 0 16 = 2 := rfl
    have a4 : gI (stN x) 0 17 = 1 := rfl
    have a5 : gI (stN x) 38 11 = 0 := rfl
    have a6 : gI (stN x) 38 12 = 1 := rfl
    have a7 : gI (stN x) 38 13 = 2 := rfl
    have a8 : gI (stN x) 38 14 = 1 := rfl
    unfold Rset rg
    rw [a1, a2, a3, a4, a5, a6, a7, a8, t_0, t_1, t_2]
    exact ⟨rfl, rfl, rfl, rfl, by omega, by omega, by omega, by omega⟩
  · have a1 : gI (stN x) 38 3 = 0 := rfl
    have a2 : gI (stN x) 11 1 = 0 := rfl
    refine ⟨by rw [a1, a2], by rw [a2]; unfold rg; rw [t_0]; omega, funext fun j => by rw [z39, z12], fun j => by rw [z12]; unfold rg; rw [t_0]; omega⟩
  · have a1 : gI (stN x) 38 1 = mxI 2 (mnI 12 x) := rfl
    exact ⟨by rw [a1, r10], by rw [r10]; exact rr⟩
  · exact ⟨fun j _ => ⟨by rw [z46, z2], by rw [z2]; unfold rg; rw [t_0]; omega⟩, fun j _ _ => z2 j⟩
  · have a1 : gI (stN x) 38 19 = 0 := rfl
    have a2 : gI (stN x) 1 4 = 0 := rfl
    have a3 : gI (stN x) 38 20 = 0 := rfl
    have a4 : gI (stN x) 1 5 = 0 := rfl
    have a5 : gJ (stN x) 38 18 = 0 := rfl
    have a6 : gJ (stN x) 1 6 = 0 := rfl
    refine ⟨funext fun j => by rw [h44, h3], fun j hj => by rw [h3, if_pos hj]; unfold rg; rw [t_9]; omega, by rw [a1, a2], by rw [a3, a4], by rw [a5, a6], 0, by rw [a4]; rfl, Nat.pow_pos (by omega), by decide⟩
  · have a1 : gI (stN x) 1 7 = 0 := rfl
    have a2 : gI (stN x) 1 8 = 0 := rfl
    have a3 : gI (stN x) 1 9 = 0 := rfl
    have a4 : gI (stN x) 1 10 = 0 := rfl
    have a5 : gI (stN x) 1 11 = 0 := rfl
    have a6 : gI (stN x) 1 12 = 0 := rfl
    have a7 : gI (stN x) 0 13 = 0 := rfl
    exact ⟨by rw [z46, a1], by rw [z46, a2], by rw [z46, a3], by rw [z46, a4], by rw [z46, a5], by rw [z46, a6], by rw [z46, a7]⟩
  · have a1 : gI (stN x) 38 27 = 0 := rfl
    have a2 : gI (stN x) 9 2 = 0 := rfl
    have a3 : gI (stN x) 38 28 = 0 := rfl
    have a4 : gI (stN x) 9 1 = 0 := rfl
    refine ⟨by rw [a1, a2], by rw [a3, a4], by rw [a4]; unfold rg; rw [t_0]; omega, by rw [a2]; unfold rg; rw [t_0]; omega, fun i _ => ⟨fun j _ => by rw [z49]; unfold rg; rw [t_0]; omega, fun j _ _ => z49 _, ?_, by rw [z10, z50], fun k _ => by rw [z10, z49]; rfl⟩, fun t ht => ?_⟩
    · rw [z10, vsum_z 12 (fun j _ => by rw [z49]; rfl)]
      rfl
    · rw [a2] at ht
      have : (0 : Int32).toInt.toNat = 0 := rfl
      rw [this] at ht
      omega
  · have a1 : gR (stN x) 15 1 = some 17 := rfl
    have a2 : gR (stN x) 15 2 = some 18 := rfl
    refine ⟨fun d hd => ⟨fun k _ => by rw [z45]; unfold rg; rw [t_0]; omega, z45 _, fun k hk hn => ?_, ?_, ?_⟩, Or.inl ⟨a1, a2⟩⟩
    · rw [h16, dgS_n 10 (fun d' h' => by omega), z16, z45]
    · rw [h16, dgS_y 10 d hd, t_100]
      have : esum (fun k => (gI (stN x) 45 (10 * d + k)).toInt) 10 = 0 := Eq.trans (esum_cg 10 (g := fun _ => 0) (fun j _ => by rw [z45]; rfl)) (esum_z 10)
      rw [this]
      rfl
    · rw [h16, dgS_y 10 d hd, t_100]; omega
  · have a1 : gI (stN x) 38 33 = 0 := rfl
    have a2 : gI (stN x) 19 1 = 0 := rfl
    exact ⟨by rw [a1, a2], by rw [a2]; unfold rg; rw [t_0]; omega, funext fun j => by rw [z54, z20], fun j => by rw [z20]; unfold rg; rw [t_0]; omega⟩
  · exact ⟨rfl, rfl⟩
  · have a1 : gI (stN x) 38 10 = 0 := rfl
    have a2 : gI (stN x) 0 7 = 0 := rfl
    refine ⟨by rw [a1, a2], by rw [a2]; unfold rg; rw [t_0]; omega, fun k hk => ?_⟩
    rw [a2, t_0] at hk
    omega
  · exact Or.inl ⟨rfl, rfl⟩
  · exact Or.inl rfl
  · have a1 : gI (stN x) 19 3 = 0 := rfl
    have a2 : gI (stN x) 19 1 = 0 := rfl
    refine ⟨by rw [a1, a2]; unfold rg; rw [t_0]; omega, Or.inl ⟨rfl, a1⟩⟩
theorem enN_Z : eZ enN = 72 := z_en_139
theorem enN_Y : eY enN ≤ 10000 := by decide +kernel
