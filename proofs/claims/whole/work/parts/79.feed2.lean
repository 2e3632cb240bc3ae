theorem shr_bv (x : Int32) {k : Nat} (h : k < 32) : (shrI x (iZ (k : Int))).toBitVec = x.toBitVec.sshiftRight k := by
  show BitVec.sshiftRight' x.toBitVec ((iZ (k : Int) &&& 31).toBitVec.smod 32) = _
  rw [k31s ⟨k, h⟩]
  show x.toBitVec.sshiftRight (BitVec.ofNat 32 k).toNat = _
  rw [BitVec.toNat_ofNat, Nat.mod_eq_of_lt (by omega)]
theorem ush_bv (x : Int32) {k : Nat} (h : k < 32) : (ushI x (iZ (k : Int))).toBitVec = x.toBitVec >>> k := by
  show x.toBitVec >>> (((iZ (k : Int)).toUInt32 &&& Int32.toUInt32 31).toBitVec % 32) = _
  rw [k31u ⟨k, h⟩]
  show x.toBitVec >>> (BitVec.ofNat 32 k).toNat = _
  rw [BitVec.toNat_ofNat, Nat.mod_eq_of_lt (by omega)]
theorem b255 : ∀ i : Fin 32, 8 ≤ i.1 → (255#32).getLsbD i.1 = false := by decide
theorem shr_255 (y : Int32) {k : Nat} (h : k ≤ 24) : shrI y (iZ (k : Int)) &&& 255 = ushI y (iZ (k : Int)) &&& 255 := by
  apply Int32.toBitVec_inj.mp
  show (shrI y (iZ (k : Int))).toBitVec &&& 255#32 = (ushI y (iZ (k : Int))).toBitVec &&& 255#32
  rw [shr_bv y (by omega), ush_bv y (by omega)]
  apply BitVec.eq_of_getLsbD_eq
  intro i hi
  rw [BitVec.getLsbD_and, BitVec.getLsbD_and, BitVec.getLsbD_sshiftRight, BitVec.getLsbD_ushiftRight]
  by_cases q : i < 8
  · rw [if_pos (by omega), decide_eq_false (by omega : ¬ 32 ≤ i)]
    rfl
  · rw [b255 ⟨i, hi⟩ (by show 8 ≤ i; omega), Bool.and_false, Bool.and_false]
theorem rg255 (y : Int32) : rg (y &&& 255) 0 255 := by
  have e : (y &&& 255).toBitVec.toNat ≤ 255 := by
    show (y.toBitVec &&& 255#32).toNat ≤ 255
    rw [BitVec.toNat_and]
    exact Nat.and_le_right
  have e2 : (y &&& 255).toInt = ((y &&& 255).toBitVec.toNat : Int) := by
    show (y &&& 255).toBitVec.toInt = _
    exact BitVec.toInt_eq_toNat_of_lt (by omega)
  unfold rg
  rw [e2]; omega
abbrev xsF (x0 x1 x2 x3 x4 : Int32) (w : Nat) : Int32 := if 4 ≤ w then x4 else if 3 ≤ w then x3 else if 2 ≤ w then x2 else if 1 ≤ w then x1 else x0
abbrev byB (xs : Nat → Int32) (i : Nat) : Int32 := byW (xs (i / 4)) (i % 4)
theorem s_byteOf (x0 x1 x2 x3 x4 : Int32) (i : Nat) (hi : i < 20) (σ : St) : f_X10_byteOf x0 x1 x2 x3 x4 (iZ (i : Int)) σ = some (byB (xsF x0 x1 x2 x3 x4) i, σ) := by
  have h4 : (4 : Int32) = iZ ((4 : Nat) : Int) := rfl
  have h8 : (8 : Int32) = iZ 8 := rfl
  have h24 : (24 : Int32) = iZ 24 := rfl
  have hb : ∀ y : Int32, f_X10_byteOf_45 (iZ (i : Int)) y σ = some (byW y (i % 4), σ) := by
    intro y
    unfold f_X10_byteOf_45
    have e : (24 : Int32) - 8 * rmI (iZ (i : Int)) 4 = iZ ((24 - 8 * (i % 4) : Nat) : Int) := by
      rw [h4, iZ_rm (by omega) (by omega) (by omega) (by omega), h8, iZ_mul, h24, iZ_sub]
      congr 1; omega
    have e2 : iZ (24 - 8 * ((i % 4 : Nat) : Int)) = iZ ((24 - 8 * (i % 4) : Nat) : Int) := by congr 1; omega
    rw [e, shr_255 y (by omega)]
    show _ = some ((ushI y (iZ (24 - 8 * ((i % 4 : Nat) : Int)))) &&& 255, σ)
    rw [e2]
  unfold f_X10_byteOf
  simp only [hb, leI, iZt (show i < 2147483648 by omega), t_4, t_8, t_12]
  have h16 : (16 : Int32).toInt = 16 := rfl
  rw [h16]
  show _ = some (byW (if 4 ≤ i / 4 then x4 else if 3 ≤ i / 4 then x3 else if 2 ≤ i / 4 then x2 else if 1 ≤ i / 4 then x1 else x0) (i % 4), σ)
  by_cases q1 : (4 : Int) ≤ i
  · rw [if_pos q1]
    by_cases q2 : (8 : Int) ≤ i
    · rw [if_pos q2]
      by_cases q3 : (12 : Int) ≤ i
      · rw [if_pos q3]
        by_cases q4 : (16 : Int) ≤ i
        · rw [if_pos q4, if_pos (by omega)]
        · rw [if_neg q4, if_neg (by omega), if_pos (by omega)]
      · rw [if_neg q3, if_neg (by omega), if_neg (by omega), if_pos (by omega)]
    · rw [if_neg q2, if_neg (by omega), if_neg (by omega), if_neg (by omega), if_pos (by omega)]
  · rw [if_neg q1, if_neg (by omega), if_neg (by omega), if_neg (by omega), if_neg (by omega)]
theorem d_feed_w (x0 x1 x2 x3 x4 : Int32) (B : Nat → Int32) (hB : B = byB (xsF x0 x1 x2 x3 x4)) : ∀ m n i : Nat, ∀ τ : St, i + m = 20 → m < n → 0 ≤ (gI τ 38 3).toInt → (gI τ 38 3).toInt + cntN B m i ≤ 160 → f_X10_feed_62 n x0 x1 x2 x3 x4 (iZ (i : Int)) τ = some (gI (wrB 39 38 3 B m i τ) 38 3, wrB 39 38 3 B m i τ) := by
  intro m
  induction m with
  | zero =>
    intro n i τ e hn h1 h2
    cases n with
    | zero => omega
    | succ n =>
      rw [f_X10_feed_62, if_pos (by rw [leI, iZt (by omega), t_20]; omega)]
      rfl
  | succ m ih =>
    intro n i τ e hn h1 h2
    cases n with
    | zero => omega
    | succ n =>
      rw [f_X10_feed_62, if_neg (by rw [leI, iZt (by omega), t_20]; omega), s_byteOf _ _ _ _ _ i (by omega), ← hB]
      unfold f_X10_feed_109
      simp only [Option.bind_some]
      have h3 : (gI τ 38 3).toInt + ((nzN (B i) + cntN B m (i + 1) : Nat) : Int) ≤ 160 := h2
      rw [iZs]
      show _ = some (gI (wrB 39 38 3 B m (i + 1) (putB 39 38 3 τ (B i))) 38 3, wrB 39 38 3 B m (i + 1) (putB 39 38 3 τ (B i)))
      have hl : (gI (putB 39 38 3 τ (B i)) 38 3).toInt = (gI τ 38 3).toInt + nzN (B i) := by
        have hz : nzN (B i) ≤ 1 := by unfold nzN; split <;> omega
        rw [putB_len (by omega), tadd (by rw [iZ_nz01]; omega) (by rw [iZ_nz01]; omega), iZ_nz01]
      rw [← ih n (i + 1) (putB 39 38 3 τ (B i)) (by omega) (by omega) (by rw [hl]; omega) (by rw [hl]; omega)]
      unfold putB
      by_cases q : B i = 0
      · rw [if_pos q, if_pos q]
      · have e3 : nzN (B i) = 1 := if_neg q
        rw [if_neg q, if_neg q, gd_t (inb_i h1 (by omega)), g_sI_c (by omega)]
theorem d_feed_c (x0 x1 x2 x3 x4 : Int32) (B : Nat → Int32) (hB : B = byB (xsF x0 x1 x2 x3 x4)) (σ : St) : ∀ m n i : Nat, ∀ a : Int32, i + m = 20 → m < n → f_X10_feed_6 n x0 x1 x2 x3 x4 a (iZ (i : Int)) σ = if gI σ 38 3 + (a + iZ (cntN B m i : Int)) ≤ 160 then f_X10_feed_62 FU x0 x1 x2 x3 x4 0 σ else some (-1, σ) := by
  intro m
  induction m with
  | zero =>
    intro n i a e hn
    cases n with
    | zero => omega
    | succ n =>
      rw [f_X10_feed_6, if_pos (by rw [leI, iZt (by omega), t_20]; omega)]
      show _ = if gI σ 38 3 + (a + 0) ≤ 160 then _ else _
      rw [Int32.add_zero]
  | succ m ih =>
    intro n i a e hn
    cases n with
    | zero => omega
    | succ n =>
      rw [f_X10_feed_6, if_neg (by rw [leI, iZt (by omega), t_20]; omega), s_byteOf _ _ _ _ _ i (by omega), ← hB]
      unfold f_X10_feed_35 f_X10_feed_38
      simp only [Option.bind_some]
      rw [iZs, ih n (i + 1) _ (by omega) (by omega), ih n (i + 1) _ (by omega) (by omega)]
      have e2 : ((cntN B (m + 1) i : Nat) : Int) = (nzN (B i) : Int) + (cntN B m (i + 1) : Int) := by
        show ((nzN (B i) + cntN B m (i + 1) : Nat) : Int) = _
        omega
      rw [e2, ← iZ_add, ← Int32.add_assoc a (iZ (nzN (B i) : Int))]
      by_cases q : B i = 0
      · have e3 : nzN (B i) = 0 := if_pos q
        rw [if_pos q, e3]; rfl
      · have e3 : nzN (B i) = 1 := if_neg q
        rw [if_neg q, e3]; rfl
theorem m_feed {σ : St} (x0 x1 x2 x3 x4 : Int32) (h : Rtape σ) : ∃ r σ1 σ2, f_X9_feed x0 x1 x2 x3 x4 σ = some (r, σ1) ∧ f_X10_feed x0 x1 x2 x3 x4 σ1 = some (r, σ2) ∧ Rtape σ2 := by
  have h0 := h
  obtain ⟨h1, ⟨h2, h2'⟩, h3, h4⟩ := h
  generalize hB : byB (xsF x0 x1 x2 x3 x4) = B
  have b0 : ∀ j, 0 ≤ j → j < 0 + 4 → byW x0 j = B (0 + j) := fun j _ hj => by
    rw [← hB]; show _ = byW (xsF x0 x1 x2 x3 x4 ((0 + j) / 4)) ((0 + j) % 4)
    rw [show (0 + j) / 4 = 0 by omega, show (0 + j) % 4 = j by omega]; rfl
  have b1 : ∀ j, 0 ≤ j → j < 0 + 4 → byW x1 j = B (4 + j) := fun j _ hj => by
    rw [← hB]; show _ = byW (xsF x0 x1 x2 x3 x4 ((4 + j) / 4)) ((4 + j) % 4)
    rw [show (4 + j) / 4 = 1 by omega, show (4 + j) % 4 = j by omega]; rfl
  have b2 : ∀ j, 0 ≤ j → j < 0 + 4 → byW x2 j = B (8 + j) := fun j _ hj => by
    rw [← hB]; show _ = byW (xsF x0 x1 x2 x3 x4 ((8 + j) / 4)) ((8 + j) % 4)
    rw [show (8 + j) / 4 = 2 by omega, show (8 + j) % 4 = j by omega]; rfl
  have b3 : ∀ j, 0 ≤ j → j < 0 + 4 → byW x3 j = B (12 + j) := fun j _ hj => by
    rw [← hB]; show _ = byW (xsF x0 x1 x2 x3 x4 ((12 + j) / 4)) ((12 + j) % 4)
    rw [show (12 + j) / 4 = 3 by omega, show (12 + j) % 4 = j by omega]; rfl
  have b4 : ∀ j, 0 ≤ j → j < 0 + 4 → byW x4 j = B (16 + j) := fun j _ hj => by
    rw [← hB]; show _ = byW (xsF x0 x1 x2 x3 x4 ((16 + j) / 4)) ((16 + j) % 4)
    rw [show (16 + j) / 4 = 4 by omega, show (16 + j) % 4 = j by omega]; rfl
  have c0 : cntN (byW x0) 4 0 = cntN B 4 0 := cntN_sh 0 4 0 b0
  have c1 : cntN (byW x1) 4 0 = cntN B 4 4 := cntN_sh 4 4 0 b1
  have c2 : cntN (byW x2) 4 0 = cntN B 4 8 := cntN_sh 8 4 0 b2
  have c3 : cntN (byW x3) 4 0 = cntN B 4 12 := cntN_sh 12 4 0 b3
  have c4 : cntN (byW x4) 4 0 = cntN B 4 16 := cntN_sh 16 4 0 b4
  have ct : cntN B 20 0 = cntN B 4 0 + cntN B 4 4 + cntN B 4 8 + cntN B 4 12 + cntN B 4 16 := by
    have a1 : cntN B 20 0 = cntN B 4 0 + cntN B 16 4 := cntN_add 4 16 0
    have a2 : cntN B 16 4 = cntN B 4 4 + cntN B 12 8 := cntN_add 4 12 4
    have a3 : cntN B 12 8 = cntN B 4 8 + cntN B 8 12 := cntN_add 4 8 8
    have a4 : cntN B 8 12 = cntN B 4 12 + cntN B 4 16 := cntN_add 4 4 12
    omega
  have cl := cntN_le (b := B) 20 0
  have et : iZ (cntN B 4 0 : Int) + iZ (cntN B 4 4 : Int) + iZ (cntN B 4 8 : Int) + iZ (cntN B 4 12 : Int) + iZ (cntN B 4 16 : Int) = iZ (cntN B 20 0 : Int) := by
    rw [ct, iZa, iZa, iZa, iZa]
  have no : ∀ τ : St, f_X10_feed x0 x1 x2 x3 x4 τ = if gI τ 38 3 + iZ (cntN B 20 0 : Int) ≤ 160 then f_X10_feed_62 FU x0 x1 x2 x3 x4 0 τ else some (-1, τ) := by
    intro τ
    have := d_feed_c x0 x1 x2 x3 x4 B hB.symm τ 20 FU 0 0 (by omega) (by unfold FU; omega)
    rw [Int32.zero_add] at this
    exact this
  have le : (gI σ 11 1 + iZ (cntN B 20 0 : Int) ≤ 160) = ((gI σ 11 1).toInt + cntN B 20 0 ≤ 160) := by
    rw [leI, tadd (by rw [iZt (by omega)]; omega) (by rw [iZt (by omega)]; omega), iZt (by omega), t_160]
  unfold f_X9_feed f_X9_feed_28
  simp only [s_bytesIn, Option.bind_some, c0, c1, c2, c3, c4, et]
  by_cases q : (gI σ 11 1).toInt + cntN B 20 0 ≤ 160
  · rw [if_pos (le.mpr q)]
    have l0 := wrB_len (c := 12) (d := 11) (f := 1) (b := B) (by omega) 4 0 σ h2 (by omega)
    generalize e0 : wrB 12 11 1 B 4 0 σ = τ1 at l0
    have l1 := wrB_len (c := 12) (d := 11) (f := 1) (b := B) (by omega) 4 4 τ1 (by omega) (by omega)
    generalize e1 : wrB 12 11 1 B 4 4 τ1 = τ2 at l1
    have l2 := wrB_len (c := 12) (d := 11) (f := 1) (b := B) (by omega) 4 8 τ2 (by omega) (by omega)
    generalize e2 : wrB 12 11 1 B 4 8 τ2 = τ3 at l2
    have l3 := wrB_len (c := 12) (d := 11) (f := 1) (b := B) (by omega) 4 12 τ3 (by omega) (by omega)
    generalize e3 : wrB 12 11 1 B 4 12 τ3 = τ4 at l3
    have l4 := wrB_len (c := 12) (d := 11) (f := 1) (b := B) (by omega) 4 16 τ4 (by omega) (by omega)
    generalize e4 : wrB 12 11 1 B 4 16 τ4 = τ5 at l4
    have et5 : wrB 12 11 1 B 20 0 σ = τ5 := by
      have a1 : wrB 12 11 1 B 20 0 σ = wrB 12 11 1 B 16 4 (wrB 12 11 1 B 4 0 σ) := wrB_add 4 16 0 σ
      have a2 : wrB 12 11 1 B 16 4 τ1 = wrB 12 11 1 B 12 8 (wrB 12 11 1 B 4 4 τ1) := wrB_add 4 12 4 τ1
      have a3 : wrB 12 11 1 B 12 8 τ2 = wrB 12 11 1 B 8 12 (wrB 12 11 1 B 4 8 τ2) := wrB_add 4 8 8 τ2
      have a4 : wrB 12 11 1 B 8 12 τ3 = wrB 12 11 1 B 4 16 (wrB 12 11 1 B 4 12 τ3) := wrB_add 4 4 12 τ3
      rw [a1, e0, a2, e1, a3, e2, a4, e3, e4]
    have w0 : f_X5_write x0 σ = some τ1 := by
      rw [s_write x0 σ h2 (by rw [c0]; omega), wrB_sh (b := B) 0 4 0 σ b0]; exact congrArg some e0
    have w1 : f_X5_write x1 τ1 = some τ2 := by
      rw [s_write x1 τ1 (by omega) (by rw [c1]; omega), wrB_sh (b := B) 4 4 0 τ1 b1]; exact congrArg some e1
    have w2 : f_X5_write x2 τ2 = some τ3 := by
      rw [s_write x2 τ2 (by omega) (by rw [c2]; omega), wrB_sh (b := B) 8 4 0 τ2 b2]; exact congrArg some e2
    have w3 : f_X5_write x3 τ3 = some τ4 := by
      rw [s_write x3 τ3 (by omega) (by rw [c3]; omega), wrB_sh (b := B) 12 4 0 τ3 b3]; exact congrArg some e3
    have w4 : f_X5_write x4 τ4 = some τ5 := by
      rw [s_write x4 τ4 (by omega) (by rw [c4]; omega), wrB_sh (b := B) 16 4 0 τ4 b4]; exact congrArg some e4
    simp only [w0, w1, w2, w3, w4, Option.bind_some]
    have k1 : gI τ5 38 3 = gI σ 11 1 := by rw [← et5, wrB_o (by omega) (by omega), h1]
    have k2 : gI τ5 39 = gI σ 12 := by
      funext j; rw [← et5, wrB_o (by omega) (by omega), h3]
    obtain ⟨t1, t2⟩ := wrB_two (c := 12) (d := 11) (f := 1) (c' := 39) (d' := 38) (f' := 3) (b := B) (by omega) (by omega) 20 0 σ τ5 k1 k2
    rw [et5] at t1 t2
    refine ⟨_, _, wrB 39 38 3 B 20 0 τ5, rfl, ?_, ?_⟩
    · rw [no, k1, if_pos (le.mpr q)]
      have := d_feed_w x0 x1 x2 x3 x4 B hB.symm 20 FU 0 τ5 (by omega) (by unfold FU; omega) (by rw [k1]; omega) (by rw [k1]; omega)
      rw [t1] at this
      exact this
    · have o11 : gI (wrB 39 38 3 B 20 0 τ5) 11 1 = gI τ5 11 1 := wrB_o (by omega) (by omega) 20 0 τ5
      have o12 : gI (wrB 39 38 3 B 20 0 τ5) 12 = gI τ5 12 := funext fun j => wrB_o (by omega) (by omega) 20 0 τ5
      refine ⟨by rw [t1, o11], ?_, by rw [t2, o12], ?_⟩
      · rw [o11]; unfold rg; omega
      · rw [o12, ← et5]
        exact wrB_rg (by omega) (fun j => by rw [← hB]; exact rg255 _) 20 0 σ h4
  · rw [if_neg (fun c => q (le.mp c))]
    exact ⟨_, _, σ, rfl, by rw [no, h1, if_neg (fun c => q (le.mp c))], h0⟩
