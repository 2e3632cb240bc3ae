/-! THE CONSTRUCTORS, evaluated, by program (wip/gen_init.py) -/
theorem mkA_z {α : Type} {X Y : En} {σ s : St} {k n t : Nat} {f : Nat → En → St → Option α} (hz : eZ X = t) (hy : nA X k n = Y) (hs : clr σ t = s) : mkA X σ k n f = f t Y s := by
  subst hz; subst hy; subst hs; rfl
theorem mkO_z {α : Type} {X Y : En} {σ s : St} {k n t : Nat} {f : Nat → En → St → Option α} (hz : eZ X = t) (hy : nO X k n = Y) (hs : clr σ t = s) : mkO X σ k n f = f t Y s := by
  subst hz; subst hy; subst hs; rfl
theorem ptS_z {α : Type} {X Y : En} {o k a : Nat} {f : En → Option α} (hy : sS X o k (some a) = Y) : ptS X o k a f = f Y := by
  subst hy; rfl
def flS (σ : St) (ar : Nat) (v : Int32) : Nat → St
  | 0 => σ
  | n + 1 => sI (flS σ ar v n) ar n v
def dgS (σ : St) (ar : Nat) : Nat → St
  | 0 => σ
  | n + 1 => sI (dgS σ ar n) ar (11 * n) 100
theorem e_fill_go {X : En} {ar L : Nat} {σ : St} (x : Int32) (hk : rk X ar 20 = true) (hL : eL X ar = L) (hb : L ≤ 100000) : ∀ m n k : Nat, k + m = L → m < n → e_J7_fill_53178_5 ar n x (iZ (k : Int)) (iZ (L : Int)) X (flS σ ar x k) = some (X, flS σ ar x L) := by
  intro m
  induction m with
  | zero =>
    intro n k e hn
    cases n with
    | zero => omega
    | succ n =>
      have ek : k = L := by omega
      subst ek
      rw [e_J7_fill_53178_5, gd_t hk, if_pos (by rw [leI]; exact Int.le_refl _)]
  | succ m ih =>
    intro n k e hn
    cases n with
    | zero => omega
    | succ n =>
      rw [e_J7_fill_53178_5, gd_t hk, if_neg (by rw [leI, iZt (by omega), iZt (by omega)]; omega), hL, gd_t (iZb (show k < L by omega) (by omega)), iZc (by omega), iZs]
      exact ih n (k + 1) (by omega) (by omega)
theorem e_fill {X : En} {ar L : Nat} {σ : St} (x : Int32) (hk : rk X ar 20 = true) (hL : eL X ar = L) (hb : L ≤ 100000) : e_J7_fill_53178 ar x X σ = some (X, flS σ ar x L) := by
  have e := e_fill_go (σ := σ) x hk hL hb L FU 0 (by omega) (by unfold FU; omega)
  unfold e_J7_fill_53178 e_J7_fill_53178_b
  rw [gd_t hk, hL, ofN_iZ]
  rw [show e_J7_fill_53178_5 ar FU x 0 (iZ (L : Int)) X σ = some (X, flS σ ar x L) from e]
  rw [bnd rfl, wrp]
theorem e_diag_go {X : En} {σ : St} (ho : rk X 15 2 = true) (hs : eS X 15 0 = some 16) (hk : rk X 16 20 = true) (hL : eL X 16 = 100) : ∀ m n k : Nat, k + m = 10 → m < n → e_X1_init_30 15 n (iZ (k : Int)) X (dgS σ 16 k) = some (X, dgS σ 16 10) := by
  intro m
  induction m with
  | zero =>
    intro n k e hn
    cases n with
    | zero => omega
    | succ n =>
      have ek : k = 10 := by omega
      subst ek
      rw [e_X1_init_30, gd_t ho, if_pos (by decide)]
  | succ m ih =>
    intro n k e hn
    cases n with
    | zero => omega
    | succ n =>
      have e11 : (11 : Int32) * iZ (k : Int) = iZ ((11 * k : Nat) : Int) := by rw [show (11 : Int32) = iZ 11 from rfl, iZ_mul]; rfl
      rw [e_X1_init_30, gd_t ho, if_neg (by rw [lI, iZt (by omega), t_9]; omega), bnd hs, gd_t hk, hL, e11, gd_t (iZb (show 11 * k < 100 by omega) (by omega)), iZc (by omega), iZs]
      exact ih n (k + 1) (by omega) (by omega)
theorem e_296_go {X : En} {σ : St} (ho : rk X 38 11 = true) (hs : eS X 38 15 = some 44) (hk : rk X 44 20 = true) (hL : eL X 44 = 12) : ∀ m n k : Nat, k + m = 12 → m < n → e_X10_init_296 38 n (iZ (k : Int)) X (flS σ 44 9 k) = some (X, flS σ 44 9 12) := by
  intro m
  induction m with
  | zero =>
    intro n k e hn
    cases n with
    | zero => omega
    | succ n =>
      have ek : k = 12 := by omega
      subst ek
      rw [e_X10_init_296, gd_t ho, if_pos (by decide)]
  | succ m ih =>
    intro n k e hn
    cases n with
    | zero => omega
    | succ n =>
      rw [e_X10_init_296, gd_t ho, if_neg (by rw [leI, iZt (by omega), t_12]; omega), bnd hs, gd_t hk, hL, gd_t (iZb (show k < 12 by omega) (by omega)), iZc (by omega), iZs]
      exact ih n (k + 1) (by omega) (by omega)
abbrev en_0 : En := E00
theorem z_en_0 : eZ en_0 = 0 := rfl
def en_1 : En := nO en_0 10 18
theorem z_en_1 : eZ en_1 = 1 := by unfold en_1; rw [Z_nO, z_en_0]
def st_1 (x : Int32) : St := clr σ00 0
theorem gk_en_1_0_10 : rk en_1 0 10 = true := by decide +kernel
def en_2 : En := nO en_1 8 13
theorem z_en_2 : eZ en_2 = 2 := by unfold en_2; rw [Z_nO, z_en_1]
def st_2 (x : Int32) : St := clr (st_1 x) 1
theorem gk_en_2_0_10 : rk en_2 0 10 = true := by decide +kernel
theorem gk_en_2_1_8 : rk en_2 1 8 = true := by decide +kernel
def en_3 : En := nA en_2 20 12
theorem z_en_3 : eZ en_3 = 3 := by unfold en_3; rw [Z_nA, z_en_2]
def st_3 (x : Int32) : St := clr (st_2 x) 2
theorem gk_en_3_1_8 : rk en_3 1 8 = true := by decide +kernel
theorem gk_en_3_2_20 : rk en_3 2 20 = true := by decide +kernel
def en_4 : En := sS en_3 1 1 (some 2)
theorem z_en_4 : eZ en_4 = 3 := by unfold en_4; rw [Z_sS, z_en_3]
theorem gk_en_4_1_8 : rk en_4 1 8 = true := by decide +kernel
def en_5 : En := nA en_4 20 12
theorem z_en_5 : eZ en_5 = 4 := by unfold en_5; rw [Z_nA, z_en_4]
def st_4 (x : Int32) : St := clr (st_3 x) 3
theorem gk_en_5_1_8 : rk en_5 1 8 = true := by decide +kernel
theorem gk_en_5_3_20 : rk en_5 3 20 = true := by decide +kernel
def en_6 : En := sS en_5 1 2 (some 3)
theorem z_en_6 : eZ en_6 = 4 := by unfold en_6; rw [Z_sS, z_en_5]
theorem gk_en_6_1_8 : rk en_6 1 8 = true := by decide +kernel
def en_7 : En := nA en_6 20 12
theorem z_en_7 : eZ en_7 = 5 := by unfold en_7; rw [Z_nA, z_en_6]
def st_5 (x : Int32) : St := clr (st_4 x) 4
theorem gk_en_7_1_8 : rk en_7 1 8 = true := by decide +kernel
theorem gk_en_7_4_20 : rk en_7 4 20 = true := by decide +kernel
def en_8 : En := sS en_7 1 3 (some 4)
theorem z_en_8 : eZ en_8 = 5 := by unfold en_8; rw [Z_sS, z_en_7]
theorem gk_en_8_1_8 : rk en_8 1 8 = true := by decide +kernel
theorem es_en_8_1_2 : eS en_8 1 2 = some 3 := by decide +kernel
theorem gk_en_8_3_20 : rk en_8 3 20 = true := by decide +kernel
theorem el_en_8_3 : eL en_8 3 = 12 := by decide +kernel
theorem iv_1 (x : Int32) : e_X7_init 1 (mxI 2 (mnI 12 x)) en_2 (st_2 x) = some (en_8, (flS (sI (st_5 x) 1 0 (mxI 2 (mnI 12 x))) 3 9 12)) := by
  unfold e_X7_init e_X7_init_b
  rw [gd_t gk_en_2_1_8, mkA_z z_en_2 (show nA en_2 20 12 = en_3 from rfl) (show clr (st_2 x) 2 = (st_3 x) from rfl), gd_t gk_en_3_1_8, gd_t gk_en_3_2_20, ptS_z (show sS en_3 1 1 (some 2) = en_4 from rfl), gd_t gk_en_4_1_8, mkA_z z_en_4 (show nA en_4 20 12 = en_5 from rfl) (show clr (st_3 x) 3 = (st_4 x) from rfl), gd_t gk_en_5_1_8, gd_t gk_en_5_3_20, ptS_z (show sS en_5 1 2 (some 3) = en_6 from rfl), gd_t gk_en_6_1_8, mkA_z z_en_6 (show nA en_6 20 12 = en_7 from rfl) (show clr (st_4 x) 4 = (st_5 x) from rfl), gd_t gk_en_7_1_8, gd_t gk_en_7_4_20, ptS_z (show sS en_7 1 3 (some 4) = en_8 from rfl), gd_t gk_en_8_1_8, bnd es_en_8_1_2, gd_t gk_en_8_3_20, bnd (e_fill (σ := (sI (st_5 x) 1 0 (mxI 2 (mnI 12 x)))) 9 gk_en_8_3_20 el_en_8_3 (by omega))]
  dsimp only
  rw [gd_t gk_en_8_1_8]
  rw [bnd rfl]
  dsimp only
  exact gd_t (by decide +kernel)
theorem gk_en_8_0_10 : rk en_8 0 10 = true := by decide +kernel
def en_9 : En := sS en_8 0 0 (some 1)
theorem z_en_9 : eZ en_9 = 5 := by unfold en_9; rw [Z_sS, z_en_8]
theorem gk_en_9_0_10 : rk en_9 0 10 = true := by decide +kernel
def en_10 : En := nO en_9 8 13
theorem z_en_10 : eZ en_10 = 6 := by unfold en_10; rw [Z_nO, z_en_9]
def st_6 (x : Int32) : St := clr (flS (sI (st_5 x) 1 0 (mxI 2 (mnI 12 x))) 3 9 12) 5
theorem gk_en_10_0_10 : rk en_10 0 10 = true := by decide +kernel
theorem gk_en_10_5_8 : rk en_10 5 8 = true := by decide +kernel
theorem es_en_10_0_0 : eS en_10 0 0 = some 1 := by decide +kernel
theorem gk_en_10_1_8 : rk en_10 1 8 = true := by decide +kernel
def en_11 : En := nA en_10 20 12
theorem z_en_11 : eZ en_11 = 7 := by unfold en_11; rw [Z_nA, z_en_10]
def st_7 (x : Int32) : St := clr (st_6 x) 6
theorem gk_en_11_5_8 : rk en_11 5 8 = true := by decide +kernel
theorem gk_en_11_6_20 : rk en_11 6 20 = true := by decide +kernel
def en_12 : En := sS en_11 5 1 (some 6)
theorem z_en_12 : eZ en_12 = 7 := by unfold en_12; rw [Z_sS, z_en_11]
theorem gk_en_12_5_8 : rk en_12 5 8 = true := by decide +kernel
def en_13 : En := nA en_12 20 12
theorem z_en_13 : eZ en_13 = 8 := by unfold en_13; rw [Z_nA, z_en_12]
def st_8 (x : Int32) : St := clr (st_7 x) 7
theorem gk_en_13_5_8 : rk en_13 5 8 = true := by decide +kernel
theorem gk_en_13_7_20 : rk en_13 7 20 = true := by decide +kernel
def en_14 : En := sS en_13 5 2 (some 7)
theorem z_en_14 : eZ en_14 = 8 := by unfold en_14; rw [Z_sS, z_en_13]
theorem gk_en_14_5_8 : rk en_14 5 8 = true := by decide +kernel
def en_15 : En := nA en_14 20 12
theorem z_en_15 : eZ en_15 = 9 := by unfold en_15; rw [Z_nA, z_en_14]
def st_9 (x : Int32) : St := clr (st_8 x) 8
theorem gk_en_15_5_8 : rk en_15 5 8 = true := by decide +kernel
theorem gk_en_15_8_20 : rk en_15 8 20 = true := by decide +kernel
def en_16 : En := sS en_15 5 3 (some 8)
theorem z_en_16 : eZ en_16 = 9 := by unfold en_16; rw [Z_sS, z_en_15]
theorem gk_en_16_5_8 : rk en_16 5 8 = true := by decide +kernel
theorem es_en_16_5_2 : eS en_16 5 2 = some 7 := by decide +kernel
theorem gk_en_16_7_20 : rk en_16 7 20 = true := by decide +kernel
theorem el_en_16_7 : eL en_16 7 = 12 := by decide +kernel
theorem iv_2 (x : Int32) : e_X7_init 5 (gI (st_6 x) 1 0) en_10 (st_6 x) = some (en_16, (flS (sI (st_9 x) 5 0 (gI (st_6 x) 1 0)) 7 9 12)) := by
  unfold e_X7_init e_X7_init_b
  rw [gd_t gk_en_10_5_8, mkA_z z_en_10 (show nA en_10 20 12 = en_11 from rfl) (show clr (st_6 x) 6 = (st_7 x) from rfl), gd_t gk_en_11_5_8, gd_t gk_en_11_6_20, ptS_z (show sS en_11 5 1 (some 6) = en_12 from rfl), gd_t gk_en_12_5_8, mkA_z z_en_12 (show nA en_12 20 12 = en_13 from rfl) (show clr (st_7 x) 7 = (st_8 x) from rfl), gd_t gk_en_13_5_8, gd_t gk_en_13_7_20, ptS_z (show sS en_13 5 2 (some 7) = en_14 from rfl), gd_t gk_en_14_5_8, mkA_z z_en_14 (show nA en_14 20 12 = en_15 from rfl) (show clr (st_8 x) 8 = (st_9 x) from rfl), gd_t gk_en_15_5_8, gd_t gk_en_15_8_20, ptS_z (show sS en_15 5 3 (some 8) = en_16 from rfl), gd_t gk_en_16_5_8, bnd es_en_16_5_2, gd_t gk_en_16_7_20, bnd (e_fill (σ := (sI (st_9 x) 5 0 (gI (st_6 x) 1 0))) 9 gk_en_16_7_20 el_en_16_7 (by omega))]
  dsimp only
  rw [gd_t gk_en_16_5_8]
  rw [bnd rfl]
  dsimp only
  exact gd_t (by decide +kernel)
theorem gk_en_16_0_10 : rk en_16 0 10 = true := by decide +kernel
def en_17 : En := sS en_16 0 1 (some 5)
theorem z_en_17 : eZ en_17 = 9 := by unfold en_17; rw [Z_sS, z_en_16]
theorem gk_en_17_0_10 : rk en_17 0 10 = true := by decide +kernel
def en_18 : En := nO en_17 3 3
theorem z_en_18 : eZ en_18 = 10 := by unfold en_18; rw [Z_nO, z_en_17]
def st_10 (x : Int32) : St := clr (flS (sI (st_9 x) 5 0 (gI (st_6 x) 1 0)) 7 9 12) 9
theorem gk_en_18_0_10 : rk en_18 0 10 = true := by decide +kernel
theorem gk_en_18_9_3 : rk en_18 9 3 = true := by decide +kernel
def en_19 : En := nA en_18 21 320
theorem z_en_19 : eZ en_19 = 11 := by unfold en_19; rw [Z_nA, z_en_18]
def st_11 (x : Int32) : St := clr (st_10 x) 10
theorem gk_en_19_9_3 : rk en_19 9 3 = true := by decide +kernel
theorem gk_en_19_10_21 : rk en_19 10 21 = true := by decide +kernel
def en_20 : En := sS en_19 9 0 (some 10)
theorem z_en_20 : eZ en_20 = 11 := by unfold en_20; rw [Z_sS, z_en_19]
theorem gk_en_20_9_3 : rk en_20 9 3 = true := by decide +kernel
theorem iv_3 (x : Int32) : e_X2_init 9 en_18 (st_10 x) = some (en_20, (st_11 x)) := by
  unfold e_X2_init e_X2_init_b
  rw [gd_t gk_en_18_9_3, mkA_z z_en_18 (show nA en_18 21 320 = en_19 from rfl) (show clr (st_10 x) 10 = (st_11 x) from rfl), gd_t gk_en_19_9_3, gd_t gk_en_19_10_21, ptS_z (show sS en_19 9 0 (some 10) = en_20 from rfl), gd_t gk_en_20_9_3]
  rw [bnd rfl]
  dsimp only
  exact gd_t (by decide +kernel)
theorem gk_en_20_0_10 : rk en_20 0 10 = true := by decide +kernel
def en_21 : En := sS en_20 0 4 (some 9)
theorem z_en_21 : eZ en_21 = 11 := by unfold en_21; rw [Z_sS, z_en_20]
theorem gk_en_21_0_10 : rk en_21 0 10 = true := by decide +kernel
def en_22 : En := nO en_21 6 5
theorem z_en_22 : eZ en_22 = 12 := by unfold en_22; rw [Z_nO, z_en_21]
def st_12 (x : Int32) : St := clr (st_11 x) 11
theorem gk_en_22_0_10 : rk en_22 0 10 = true := by decide +kernel
theorem gk_en_22_11_6 : rk en_22 11 6 = true := by decide +kernel
def en_23 : En := nA en_22 20 160
theorem z_en_23 : eZ en_23 = 13 := by unfold en_23; rw [Z_nA, z_en_22]
def st_13 (x : Int32) : St := clr (st_12 x) 12
theorem gk_en_23_11_6 : rk en_23 11 6 = true := by decide +kernel
theorem gk_en_23_12_20 : rk en_23 12 20 = true := by decide +kernel
def en_24 : En := sS en_23 11 0 (some 12)
theorem z_en_24 : eZ en_24 = 13 := by unfold en_24; rw [Z_sS, z_en_23]
theorem gk_en_24_11_6 : rk en_24 11 6 = true := by decide +kernel
def en_25 : En := nA en_24 20 36
theorem z_en_25 : eZ en_25 = 14 := by unfold en_25; rw [Z_nA, z_en_24]
def st_14 (x : Int32) : St := clr (st_13 x) 13
theorem gk_en_25_11_6 : rk en_25 11 6 = true := by decide +kernel
theorem gk_en_25_13_20 : rk en_25 13 20 = true := by decide +kernel
def en_26 : En := sS en_25 11 2 (some 13)
theorem z_en_26 : eZ en_26 = 14 := by unfold en_26; rw [Z_sS, z_en_25]
theorem gk_en_26_11_6 : rk en_26 11 6 = true := by decide +kernel
theorem iv_4 (x : Int32) : e_X5_init 11 en_22 (st_12 x) = some (en_26, (st_14 x)) := by
  unfold e_X5_init e_X5_init_b
  rw [gd_t gk_en_22_11_6, mkA_z z_en_22 (show nA en_22 20 160 = en_23 from rfl) (show clr (st_12 x) 12 = (st_13 x) from rfl), gd_t gk_en_23_11_6, gd_t gk_en_23_12_20, ptS_z (show sS en_23 11 0 (some 12) = en_24 from rfl), gd_t gk_en_24_11_6, mkA_z z_en_24 (show nA en_24 20 36 = en_25 from rfl) (show clr (st_13 x) 13 = (st_14 x) from rfl), gd_t gk_en_25_11_6, gd_t gk_en_25_13_20, ptS_z (show sS en_25 11 2 (some 13) = en_26 from rfl), gd_t gk_en_26_11_6]
  rw [bnd rfl]
  dsimp only
  exact gd_t (by decide +kernel)
theorem gk_en_26_0_10 : rk en_26 0 10 = true := by decide +kernel
def en_27 : En := sS en_26 0 5 (some 11)
theorem z_en_27 : eZ en_27 = 14 := by unfold en_27; rw [Z_sS, z_en_26]
theorem gk_en_27_0_10 : rk en_27 0 10 = true := by decide +kernel
def en_28 : En := nA en_27 23 6
theorem z_en_28 : eZ en_28 = 15 := by unfold en_28; rw [Z_nA, z_en_27]
def st_15 (x : Int32) : St := clr (st_14 x) 14
theorem gk_en_28_0_10 : rk en_28 0 10 = true := by decide +kernel
theorem gk_en_28_14_23 : rk en_28 14 23 = true := by decide +kernel
def en_29 : En := sS en_28 0 6 (some 14)
theorem z_en_29 : eZ en_29 = 15 := by unfold en_29; rw [Z_sS, z_en_28]
theorem gk_en_29_0_10 : rk en_29 0 10 = true := by decide +kernel
def en_30 : En := nO en_29 2 3
theorem z_en_30 : eZ en_30 = 16 := by unfold en_30; rw [Z_nO, z_en_29]
def st_16 (x : Int32) : St := clr (st_15 x) 15
theorem gk_en_30_0_10 : rk en_30 0 10 = true := by decide +kernel
theorem gk_en_30_15_2 : rk en_30 15 2 = true := by decide +kernel
def en_31 : En := nA en_30 20 100
theorem z_en_31 : eZ en_31 = 17 := by unfold en_31; rw [Z_nA, z_en_30]
def st_17 (x : Int32) : St := clr (st_16 x) 16
theorem gk_en_31_15_2 : rk en_31 15 2 = true := by decide +kernel
theorem gk_en_31_16_20 : rk en_31 16 20 = true := by decide +kernel
def en_32 : En := sS en_31 15 0 (some 16)
theorem z_en_32 : eZ en_32 = 17 := by unfold en_32; rw [Z_sS, z_en_31]
theorem gk_en_32_15_2 : rk en_32 15 2 = true := by decide +kernel
def en_33 : En := nA en_32 21 99
theorem z_en_33 : eZ en_33 = 18 := by unfold en_33; rw [Z_nA, z_en_32]
def st_18 (x : Int32) : St := clr (st_17 x) 17
theorem gk_en_33_15_2 : rk en_33 15 2 = true := by decide +kernel
theorem gk_en_33_17_21 : rk en_33 17 21 = true := by decide +kernel
def en_34 : En := nA en_33 21 99
theorem z_en_34 : eZ en_34 = 19 := by unfold en_34; rw [Z_nA, z_en_33]
def st_19 (x : Int32) : St := clr (sR (st_18 x) 15 1 (some 17)) 18
theorem gk_en_34_15_2 : rk en_34 15 2 = true := by decide +kernel
theorem gk_en_34_18_21 : rk en_34 18 21 = true := by decide +kernel
theorem es_en_34_15_0 : eS en_34 15 0 = some 16 := by decide +kernel
theorem el_en_34_16 : eL en_34 16 = 100 := by decide +kernel
theorem gk_en_34_16_20 : rk en_34 16 20 = true := by decide +kernel
theorem iv_5 (x : Int32) : e_X1_init 15 en_30 (st_16 x) = some (en_34, (dgS (sR (st_19 x) 15 2 (some 18)) 16 10)) := by
  unfold e_X1_init e_X1_init_b
  rw [gd_t gk_en_30_15_2, mkA_z z_en_30 (show nA en_30 20 100 = en_31 from rfl) (show clr (st_16 x) 16 = (st_17 x) from rfl), gd_t gk_en_31_15_2, gd_t gk_en_31_16_20, ptS_z (show sS en_31 15 0 (some 16) = en_32 from rfl), gd_t gk_en_32_15_2, mkA_z z_en_32 (show nA en_32 21 99 = en_33 from rfl) (show clr (st_17 x) 17 = (st_18 x) from rfl), gd_t gk_en_33_15_2, gd_t gk_en_33_17_21, mkA_z z_en_33 (show nA en_33 21 99 = en_34 from rfl) (show clr (sR (st_18 x) 15 1 (some 17)) 18 = (st_19 x) from rfl), gd_t gk_en_34_15_2, gd_t gk_en_34_18_21]
  rw [show e_X1_init_30 15 FU 0 en_34 (sR (st_19 x) 15 2 (some 18)) = some (en_34, dgS (sR (st_19 x) 15 2 (some 18)) 16 10) from e_diag_go (σ := (sR (st_19 x) 15 2 (some 18))) gk_en_34_15_2 es_en_34_15_0 gk_en_34_16_20 el_en_34_16 10 FU 0 (by omega) (by unfold FU; omega)]
  rw [bnd rfl]
  dsimp only
  exact gd_t (by decide +kernel)
theorem gk_en_34_0_10 : rk en_34 0 10 = true := by decide +kernel
def en_35 : En := sS en_34 0 8 (some 15)
theorem z_en_35 : eZ en_35 = 19 := by unfold en_35; rw [Z_sS, z_en_34]
theorem gk_en_35_0_10 : rk en_35 0 10 = true := by decide +kernel
def en_36 : En := nO en_35 4 4
theorem z_en_36 : eZ en_36 = 20 := by unfold en_36; rw [Z_nO, z_en_35]
def st_20 (x : Int32) : St := clr (dgS (sR (st_19 x) 15 2 (some 18)) 16 10) 19
theorem gk_en_36_0_10 : rk en_36 0 10 = true := by decide +kernel
theorem gk_en_36_19_4 : rk en_36 19 4 = true := by decide +kernel
def en_37 : En := nA en_36 20 8
theorem z_en_37 : eZ en_37 = 21 := by unfold en_37; rw [Z_nA, z_en_36]
def st_21 (x : Int32) : St := clr (st_20 x) 20
theorem gk_en_37_19_4 : rk en_37 19 4 = true := by decide +kernel
theorem gk_en_37_20_20 : rk en_37 20 20 = true := by decide +kernel
def en_38 : En := sS en_37 19 0 (some 20)
theorem z_en_38 : eZ en_38 = 21 := by unfold en_38; rw [Z_sS, z_en_37]
theorem gk_en_38_19_4 : rk en_38 19 4 = true := by decide +kernel
theorem iv_6 (x : Int32) : e_X3_init 19 en_36 (st_20 x) = some (en_38, (st_21 x)) := by
  unfold e_X3_init e_X3_init_b
  rw [gd_t gk_en_36_19_4, mkA_z z_en_36 (show nA en_36 20 8 = en_37 from rfl) (show clr (st_20 x) 20 = (st_21 x) from rfl), gd_t gk_en_37_19_4, gd_t gk_en_37_20_20, ptS_z (show sS en_37 19 0 (some 20) = en_38 from rfl), gd_t gk_en_38_19_4]
  rw [bnd rfl]
  dsimp only
  exact gd_t (by decide +kernel)
theorem gk_en_38_0_10 : rk en_38 0 10 = true := by decide +kernel
def en_39 : En := sS en_38 0 9 (some 19)
theorem z_en_39 : eZ en_39 = 21 := by unfold en_39; rw [Z_sS, z_en_38]
theorem gk_en_39_0_10 : rk en_39 0 10 = true := by decide +kernel
def en_40 : En := nO en_39 7 11
theorem z_en_40 : eZ en_40 = 22 := by unfold en_40; rw [Z_nO, z_en_39]
def st_22 (x : Int32) : St := clr (st_21 x) 21
theorem gk_en_40_0_10 : rk en_40 0 10 = true := by decide +kernel
theorem gk_en_40_21_7 : rk en_40 21 7 = true := by decide +kernel
def en_41 : En := nA en_40 20 24
theorem z_en_41 : eZ en_41 = 23 := by unfold en_41; rw [Z_nA, z_en_40]
def st_23 (x : Int32) : St := clr (st_22 x) 22
theorem gk_en_41_21_7 : rk en_41 21 7 = true := by decide +kernel
theorem gk_en_41_22_20 : rk en_41 22 20 = true := by decide +kernel
def en_42 : En := sS en_41 21 0 (some 22)
theorem z_en_42 : eZ en_42 = 23 := by unfold en_42; rw [Z_sS, z_en_41]
theorem gk_en_42_21_7 : rk en_42 21 7 = true := by decide +kernel
def en_43 : En := nA en_42 20 24
theorem z_en_43 : eZ en_43 = 24 := by unfold en_43; rw [Z_nA, z_en_42]
def st_24 (x : Int32) : St := clr (st_23 x) 23
theorem gk_en_43_21_7 : rk en_43 21 7 = true := by decide +kernel
theorem gk_en_43_23_20 : rk en_43 23 20 = true := by decide +kernel
def en_44 : En := sS en_43 21 1 (some 23)
theorem z_en_44 : eZ en_44 = 24 := by unfold en_44; rw [Z_sS, z_en_43]
theorem gk_en_44_21_7 : rk en_44 21 7 = true := by decide +kernel
def en_45 : En := nA en_44 20 24
theorem z_en_45 : eZ en_45 = 25 := by unfold en_45; rw [Z_nA, z_en_44]
def st_25 (x : Int32) : St := clr (st_24 x) 24
theorem gk_en_45_21_7 : rk en_45 21 7 = true := by decide +kernel
theorem gk_en_45_24_20 : rk en_45 24 20 = true := by decide +kernel
def en_46 : En := sS en_45 21 2 (some 24)
theorem z_en_46 : eZ en_46 = 25 := by unfold en_46; rw [Z_sS, z_en_45]
theorem gk_en_46_21_7 : rk en_46 21 7 = true := by decide +kernel
def en_47 : En := nA en_46 20 12
theorem z_en_47 : eZ en_47 = 26 := by unfold en_47; rw [Z_nA, z_en_46]
def st_26 (x : Int32) : St := clr (st_25 x) 25
theorem gk_en_47_21_7 : rk en_47 21 7 = true := by decide +kernel
theorem gk_en_47_25_20 : rk en_47 25 20 = true := by decide +kernel
def en_48 : En := sS en_47 21 3 (some 25)
theorem z_en_48 : eZ en_48 = 26 := by unfold en_48; rw [Z_sS, z_en_47]
theorem gk_en_48_21_7 : rk en_48 21 7 = true := by decide +kernel
def en_49 : En := nA en_48 20 12
theorem z_en_49 : eZ en_49 = 27 := by unfold en_49; rw [Z_nA, z_en_48]
def st_27 (x : Int32) : St := clr (st_26 x) 26
theorem gk_en_49_21_7 : rk en_49 21 7 = true := by decide +kernel
theorem gk_en_49_26_20 : rk en_49 26 20 = true := by decide +kernel
def en_50 : En := sS en_49 21 4 (some 26)
theorem z_en_50 : eZ en_50 = 27 := by unfold en_50; rw [Z_sS, z_en_49]
theorem gk_en_50_21_7 : rk en_50 21 7 = true := by decide +kernel
theorem iv_7 (x : Int32) : e_X6_init 21 en_40 (st_22 x) = some (en_50, (sI (st_27 x) 21 5 1)) := by
  unfold e_X6_init e_X6_init_b
  rw [gd_t gk_en_40_21_7, mkA_z z_en_40 (show nA en_40 20 24 = en_41 from rfl) (show clr (st_22 x) 22 = (st_23 x) from rfl), gd_t gk_en_41_21_7, gd_t gk_en_41_22_20, ptS_z (show sS en_41 21 0 (some 22) = en_42 from rfl), gd_t gk_en_42_21_7, mkA_z z_en_42 (show nA en_42 20 24 = en_43 from rfl) (show clr (st_23 x) 23 = (st_24 x) from rfl), gd_t gk_en_43_21_7, gd_t gk_en_43_23_20, ptS_z (show sS en_43 21 1 (some 23) = en_44 from rfl), gd_t gk_en_44_21_7, mkA_z z_en_44 (show nA en_44 20 24 = en_45 from rfl) (show clr (st_24 x) 24 = (st_25 x) from rfl), gd_t gk_en_45_21_7, gd_t gk_en_45_24_20, ptS_z (show sS en_45 21 2 (some 24) = en_46 from rfl), gd_t gk_en_46_21_7, mkA_z z_en_46 (show nA en_46 20 12 = en_47 from rfl) (show clr (st_25 x) 25 = (st_26 x) from rfl), gd_t gk_en_47_21_7, gd_t gk_en_47_25_20, ptS_z (show sS en_47 21 3 (some 25) = en_48 from rfl)]
  rw [gd_t gk_en_48_21_7, mkA_z z_en_48 (show nA en_48 20 12 = en_49 from rfl) (show clr (st_26 x) 26 = (st_27 x) from rfl), gd_t gk_en_49_21_7, gd_t gk_en_49_26_20, ptS_z (show sS en_49 21 4 (some 26) = en_50 from rfl), gd_t gk_en_50_21_7]
  rw [bnd rfl]
  dsimp only
  exact gd_t (by decide +kernel)
theorem gk_en_50_0_10 : rk en_50 0 10 = true := by decide +kernel
def en_51 : En := sS en_50 0 10 (some 21)
theorem z_en_51 : eZ en_51 = 27 := by unfold en_51; rw [Z_sS, z_en_50]
theorem gk_en_51_0_10 : rk en_51 0 10 = true := by decide +kernel
def en_52 : En := nO en_51 1 15
theorem z_en_52 : eZ en_52 = 28 := by unfold en_52; rw [Z_nO, z_en_51]
def st_28 (x : Int32) : St := clr (sI (st_27 x) 21 5 1) 27
theorem gk_en_52_0_10 : rk en_52 0 10 = true := by decide +kernel
theorem gk_en_52_27_1 : rk en_52 27 1 = true := by decide +kernel
def en_53 : En := nA en_52 20 12
theorem z_en_53 : eZ en_53 = 29 := by unfold en_53; rw [Z_nA, z_en_52]
def st_29 (x : Int32) : St := clr (st_28 x) 28
theorem gk_en_53_27_1 : rk en_53 27 1 = true := by decide +kernel
theorem gk_en_53_28_20 : rk en_53 28 20 = true := by decide +kernel
def en_54 : En := sS en_53 27 0 (some 28)
theorem z_en_54 : eZ en_54 = 29 := by unfold en_54; rw [Z_sS, z_en_53]
theorem gk_en_54_27_1 : rk en_54 27 1 = true := by decide +kernel
def en_55 : En := nA en_54 20 12
theorem z_en_55 : eZ en_55 = 30 := by unfold en_55; rw [Z_nA, z_en_54]
def st_30 (x : Int32) : St := clr (st_29 x) 29
theorem gk_en_55_27_1 : rk en_55 27 1 = true := by decide +kernel
theorem gk_en_55_29_20 : rk en_55 29 20 = true := by decide +kernel
def en_56 : En := sS en_55 27 1 (some 29)
theorem z_en_56 : eZ en_56 = 30 := by unfold en_56; rw [Z_sS, z_en_55]
theorem gk_en_56_27_1 : rk en_56 27 1 = true := by decide +kernel
def en_57 : En := nA en_56 20 12
theorem z_en_57 : eZ en_57 = 31 := by unfold en_57; rw [Z_nA, z_en_56]
def st_31 (x : Int32) : St := clr (st_30 x) 30
theorem gk_en_57_27_1 : rk en_57 27 1 = true := by decide +kernel
theorem gk_en_57_30_20 : rk en_57 30 20 = true := by decide +kernel
def en_58 : En := sS en_57 27 2 (some 30)
theorem z_en_58 : eZ en_58 = 31 := by unfold en_58; rw [Z_sS, z_en_57]
theorem gk_en_58_27_1 : rk en_58 27 1 = true := by decide +kernel
def en_59 : En := nA en_58 20 12
theorem z_en_59 : eZ en_59 = 32 := by unfold en_59; rw [Z_nA, z_en_58]
def st_32 (x : Int32) : St := clr (st_31 x) 31
theorem gk_en_59_27_1 : rk en_59 27 1 = true := by decide +kernel
theorem gk_en_59_31_20 : rk en_59 31 20 = true := by decide +kernel
def en_60 : En := sS en_59 27 3 (some 31)
theorem z_en_60 : eZ en_60 = 32 := by unfold en_60; rw [Z_sS, z_en_59]
theorem gk_en_60_27_1 : rk en_60 27 1 = true := by decide +kernel
def en_61 : En := nA en_60 22 12
theorem z_en_61 : eZ en_61 = 33 := by unfold en_61; rw [Z_nA, z_en_60]
def st_33 (x : Int32) : St := clr (st_32 x) 32
theorem gk_en_61_27_1 : rk en_61 27 1 = true := by decide +kernel
theorem gk_en_61_32_22 : rk en_61 32 22 = true := by decide +kernel
def en_62 : En := sS en_61 27 4 (some 32)
theorem z_en_62 : eZ en_62 = 33 := by unfold en_62; rw [Z_sS, z_en_61]
theorem gk_en_62_27_1 : rk en_62 27 1 = true := by decide +kernel
def en_63 : En := nA en_62 20 12
theorem z_en_63 : eZ en_63 = 34 := by unfold en_63; rw [Z_nA, z_en_62]
def st_34 (x : Int32) : St := clr (st_33 x) 33
theorem gk_en_63_27_1 : rk en_63 27 1 = true := by decide +kernel
theorem gk_en_63_33_20 : rk en_63 33 20 = true := by decide +kernel
def en_64 : En := sS en_63 27 5 (some 33)
theorem z_en_64 : eZ en_64 = 34 := by unfold en_64; rw [Z_sS, z_en_63]
theorem gk_en_64_27_1 : rk en_64 27 1 = true := by decide +kernel
def en_65 : En := nA en_64 20 12
theorem z_en_65 : eZ en_65 = 35 := by unfold en_65; rw [Z_nA, z_en_64]
def st_35 (x : Int32) : St := clr (st_34 x) 34
theorem gk_en_65_27_1 : rk en_65 27 1 = true := by decide +kernel
theorem gk_en_65_34_20 : rk en_65 34 20 = true := by decide +kernel
def en_66 : En := sS en_65 27 6 (some 34)
theorem z_en_66 : eZ en_66 = 35 := by unfold en_66; rw [Z_sS, z_en_65]
theorem gk_en_66_27_1 : rk en_66 27 1 = true := by decide +kernel
def en_67 : En := nA en_66 22 12
theorem z_en_67 : eZ en_67 = 36 := by unfold en_67; rw [Z_nA, z_en_66]
def st_36 (x : Int32) : St := clr (st_35 x) 35
theorem gk_en_67_27_1 : rk en_67 27 1 = true := by decide +kernel
theorem gk_en_67_35_22 : rk en_67 35 22 = true := by decide +kernel
def en_68 : En := sS en_67 27 7 (some 35)
theorem z_en_68 : eZ en_68 = 36 := by unfold en_68; rw [Z_sS, z_en_67]
theorem gk_en_68_27_1 : rk en_68 27 1 = true := by decide +kernel
def en_69 : En := nA en_68 22 12
theorem z_en_69 : eZ en_69 = 37 := by unfold en_69; rw [Z_nA, z_en_68]
def st_37 (x : Int32) : St := clr (st_36 x) 36
theorem gk_en_69_27_1 : rk en_69 27 1 = true := by decide +kernel
theorem gk_en_69_36_22 : rk en_69 36 22 = true := by decide +kernel
def en_70 : En := sS en_69 27 8 (some 36)
theorem z_en_70 : eZ en_70 = 37 := by unfold en_70; rw [Z_sS, z_en_69]
theorem gk_en_70_27_1 : rk en_70 27 1 = true := by decide +kernel
def en_71 : En := nA en_70 20 12
theorem z_en_71 : eZ en_71 = 38 := by unfold en_71; rw [Z_nA, z_en_70]
def st_38 (x : Int32) : St := clr (st_37 x) 37
theorem gk_en_71_27_1 : rk en_71 27 1 = true := by decide +kernel
theorem gk_en_71_37_20 : rk en_71 37 20 = true := by decide +kernel
def en_72 : En := sS en_71 27 9 (some 37)
theorem z_en_72 : eZ en_72 = 38 := by unfold en_72; rw [Z_sS, z_en_71]
theorem gk_en_72_27_1 : rk en_72 27 1 = true := by decide +kernel
theorem iv_8 (x : Int32) : e_X0_init_z 27 en_52 (st_28 x) = some (en_72, (st_38 x)) := by
  unfold e_X0_init_z e_X0_init_bz
  rw [gd_t gk_en_52_27_1, mkA_z z_en_52 (show nA en_52 20 12 = en_53 from rfl) (show clr (st_28 x) 28 = (st_29 x) from rfl), gd_t gk_en_53_27_1, gd_t gk_en_53_28_20, ptS_z (show sS en_53 27 0 (some 28) = en_54 from rfl), gd_t gk_en_54_27_1, mkA_z z_en_54 (show nA en_54 20 12 = en_55 from rfl) (show clr (st_29 x) 29 = (st_30 x) from rfl), gd_t gk_en_55_27_1, gd_t gk_en_55_29_20, ptS_z (show sS en_55 27 1 (some 29) = en_56 from rfl), gd_t gk_en_56_27_1, mkA_z z_en_56 (show nA en_56 20 12 = en_57 from rfl) (show clr (st_30 x) 30 = (st_31 x) from rfl), gd_t gk_en_57_27_1, gd_t gk_en_57_30_20, ptS_z (show sS en_57 27 2 (some 30) = en_58 from rfl), gd_t gk_en_58_27_1, mkA_z z_en_58 (show nA en_58 20 12 = en_59 from rfl) (show clr (st_31 x) 31 = (st_32 x) from rfl), gd_t gk_en_59_27_1, gd_t gk_en_59_31_20, ptS_z (show sS en_59 27 3 (some 31) = en_60 from rfl)]
  rw [gd_t gk_en_60_27_1, mkA_z z_en_60 (show nA en_60 22 12 = en_61 from rfl) (show clr (st_32 x) 32 = (st_33 x) from rfl), gd_t gk_en_61_27_1, gd_t gk_en_61_32_22, ptS_z (show sS en_61 27 4 (some 32) = en_62 from rfl), gd_t gk_en_62_27_1, mkA_z z_en_62 (show nA en_62 20 12 = en_63 from rfl) (show clr (st_33 x) 33 = (st_34 x) from rfl), gd_t gk_en_63_27_1, gd_t gk_en_63_33_20, ptS_z (show sS en_63 27 5 (some 33) = en_64 from rfl), gd_t gk_en_64_27_1, mkA_z z_en_64 (show nA en_64 20 12 = en_65 from rfl) (show clr (st_34 x) 34 = (st_35 x) from rfl), gd_t gk_en_65_27_1, gd_t gk_en_65_34_20, ptS_z (show sS en_65 27 6 (some 34) = en_66 from rfl), gd_t gk_en_66_27_1, mkA_z z_en_66 (show nA en_66 22 12 = en_67 from rfl) (show clr (st_35 x) 35 = (st_36 x) from rfl), gd_t gk_en_67_27_1, gd_t gk_en_67_35_22, ptS_z (show sS en_67 27 7 (some 35) = en_68 from rfl)]
  rw [gd_t gk_en_68_27_1, mkA_z z_en_68 (show nA en_68 22 12 = en_69 from rfl) (show clr (st_36 x) 36 = (st_37 x) from rfl), gd_t gk_en_69_27_1, gd_t gk_en_69_36_22, ptS_z (show sS en_69 27 8 (some 36) = en_70 from rfl), gd_t gk_en_70_27_1, mkA_z z_en_70 (show nA en_70 20 12 = en_71 from rfl) (show clr (st_37 x) 37 = (st_38 x) from rfl), gd_t gk_en_71_27_1, gd_t gk_en_71_37_20, ptS_z (show sS en_71 27 9 (some 37) = en_72 from rfl), gd_t gk_en_72_27_1]
  rw [bnd rfl]
  dsimp only
  exact gd_t (by decide +kernel)
theorem gk_en_72_0_10 : rk en_72 0 10 = true := by decide +kernel
def en_73 : En := sS en_72 0 11 (some 27)
theorem z_en_73 : eZ en_73 = 38 := by unfold en_73; rw [Z_sS, z_en_72]
theorem gk_en_73_0_10 : rk en_73 0 10 = true := by decide +kernel
theorem iv_9 (x : Int32) : e_X9_init_z 0 x en_1 (st_1 x) = some (en_73, (sI (sI (sI (st_38 x) 0 15 1) 0 16 2) 0 17 1)) := by
  unfold e_X9_init_z e_X9_init_bz
  rw [gd_t gk_en_1_0_10, mkO_z z_en_1 (show nO en_1 8 13 = en_2 from rfl) (show clr (st_1 x) 1 = (st_2 x) from rfl), gd_t gk_en_2_0_10, gd_t gk_en_2_1_8, bnd (iv_1 x)]
  dsimp only
  rw [gd_t gk_en_8_0_10, gd_t gk_en_8_1_8, ptS_z (show sS en_8 0 0 (some 1) = en_9 from rfl), gd_t gk_en_9_0_10, mkO_z z_en_9 (show nO en_9 8 13 = en_10 from rfl) (show clr (flS (sI (st_5 x) 1 0 (mxI 2 (mnI 12 x))) 3 9 12) 5 = (st_6 x) from rfl), gd_t gk_en_10_0_10, gd_t gk_en_10_5_8, bnd es_en_10_0_0, gd_t gk_en_10_1_8, bnd (iv_2 x)]
  dsimp only
  rw [gd_t gk_en_16_0_10, gd_t gk_en_16_5_8, ptS_z (show sS en_16 0 1 (some 5) = en_17 from rfl), gd_t gk_en_17_0_10, mkO_z z_en_17 (show nO en_17 3 3 = en_18 from rfl) (show clr (flS (sI (st_9 x) 5 0 (gI (st_6 x) 1 0)) 7 9 12) 9 = (st_10 x) from rfl), gd_t gk_en_18_0_10, gd_t gk_en_18_9_3, bnd (iv_3 x)]
  dsimp only
  rw [gd_t gk_en_20_0_10, gd_t gk_en_20_9_3, ptS_z (show sS en_20 0 4 (some 9) = en_21 from rfl), gd_t gk_en_21_0_10, mkO_z z_en_21 (show nO en_21 6 5 = en_22 from rfl) (show clr (st_11 x) 11 = (st_12 x) from rfl), gd_t gk_en_22_0_10, gd_t gk_en_22_11_6, bnd (iv_4 x)]
  dsimp only
  rw [gd_t gk_en_26_0_10, gd_t gk_en_26_11_6, ptS_z (show sS en_26 0 5 (some 11) = en_27 from rfl), gd_t gk_en_27_0_10, mkA_z z_en_27 (show nA en_27 23 6 = en_28 from rfl) (show clr (st_14 x) 14 = (st_15 x) from rfl), gd_t gk_en_28_0_10, gd_t gk_en_28_14_23, ptS_z (show sS en_28 0 6 (some 14) = en_29 from rfl), gd_t gk_en_29_0_10, mkO_z z_en_29 (show nO en_29 2 3 = en_30 from rfl) (show clr (st_15 x) 15 = (st_16 x) from rfl), gd_t gk_en_30_0_10, gd_t gk_en_30_15_2, bnd (iv_5 x)]
  dsimp only
  rw [gd_t gk_en_34_0_10, gd_t gk_en_34_15_2, ptS_z (show sS en_34 0 8 (some 15) = en_35 from rfl), gd_t gk_en_35_0_10, mkO_z z_en_35 (show nO en_35 4 4 = en_36 from rfl) (show clr (dgS (sR (st_19 x) 15 2 (some 18)) 16 10) 19 = (st_20 x) from rfl), gd_t gk_en_36_0_10, gd_t gk_en_36_19_4, bnd (iv_6 x)]
  dsimp only
  rw [gd_t gk_en_38_0_10, gd_t gk_en_38_19_4, ptS_z (show sS en_38 0 9 (some 19) = en_39 from rfl), gd_t gk_en_39_0_10, mkO_z z_en_39 (show nO en_39 7 11 = en_40 from rfl) (show clr (st_21 x) 21 = (st_22 x) from rfl), gd_t gk_en_40_0_10, gd_t gk_en_40_21_7, bnd (iv_7 x)]
  dsimp only
  rw [gd_t gk_en_50_0_10, gd_t gk_en_50_21_7, ptS_z (show sS en_50 0 10 (some 21) = en_51 from rfl), gd_t gk_en_51_0_10, mkO_z z_en_51 (show nO en_51 1 15 = en_52 from rfl) (show clr (sI (st_27 x) 21 5 1) 27 = (st_28 x) from rfl), gd_t gk_en_52_0_10, gd_t gk_en_52_27_1, bnd (iv_8 x)]
  dsimp only
  rw [gd_t gk_en_72_0_10, gd_t gk_en_72_27_1, ptS_z (show sS en_72 0 11 (some 27) = en_73 from rfl), gd_t gk_en_73_0_10]
  rw [bnd rfl]
  dsimp only
  exact gd_t (by decide +kernel)
def en_74 : En := nO en_73 11 57
theorem z_en_74 : eZ en_74 = 39 := by unfold en_74; rw [Z_nO, z_en_73]
def st_39 (x : Int32) : St := clr (sI (sI (sI (st_38 x) 0 15 1) 0 16 2) 0 17 1) 38
theorem gk_en_74_0_10 : rk en_74 0 10 = true := by decide +kernel
theorem gk_en_74_38_11 : rk en_74 38 11 = true := by decide +kernel
def en_75 : En := nA en_74 20 160
theorem z_en_75 : eZ en_75 = 40 := by unfold en_75; rw [Z_nA, z_en_74]
def st_40 (x : Int32) : St := clr (st_39 x) 39
theorem gk_en_75_38_11 : rk en_75 38 11 = true := by decide +kernel
theorem gk_en_75_39_20 : rk en_75 39 20 = true := by decide +kernel
def en_76 : En := sS en_75 38 2 (some 39)
theorem z_en_76 : eZ en_76 = 40 := by unfold en_76; rw [Z_sS, z_en_75]
theorem gk_en_76_38_11 : rk en_76 38 11 = true := by decide +kernel
def en_77 : En := nA en_76 20 84
theorem z_en_77 : eZ en_77 = 41 := by unfold en_77; rw [Z_nA, z_en_76]
def st_41 (x : Int32) : St := clr (st_40 x) 40
theorem gk_en_77_38_11 : rk en_77 38 11 = true := by decide +kernel
theorem gk_en_77_40_20 : rk en_77 40 20 = true := by decide +kernel
def en_78 : En := sS en_77 38 6 (some 40)
theorem z_en_78 : eZ en_78 = 41 := by unfold en_78; rw [Z_sS, z_en_77]
theorem gk_en_78_38_11 : rk en_78 38 11 = true := by decide +kernel
def en_79 : En := nA en_78 20 84
theorem z_en_79 : eZ en_79 = 42 := by unfold en_79; rw [Z_nA, z_en_78]
def st_42 (x : Int32) : St := clr (st_41 x) 41
theorem gk_en_79_38_11 : rk en_79 38 11 = true := by decide +kernel
theorem gk_en_79_41_20 : rk en_79 41 20 = true := by decide +kernel
def en_80 : En := sS en_79 38 7 (some 41)
theorem z_en_80 : eZ en_80 = 42 := by unfold en_80; rw [Z_sS, z_en_79]
theorem gk_en_80_38_11 : rk en_80 38 11 = true := by decide +kernel
def en_81 : En := nA en_80 20 84
theorem z_en_81 : eZ en_81 = 43 := by unfold en_81; rw [Z_nA, z_en_80]
def st_43 (x : Int32) : St := clr (st_42 x) 42
theorem gk_en_81_38_11 : rk en_81 38 11 = true := by decide +kernel
theorem gk_en_81_42_20 : rk en_81 42 20 = true := by decide +kernel
def en_82 : En := sS en_81 38 8 (some 42)
theorem z_en_82 : eZ en_82 = 43 := by unfold en_82; rw [Z_sS, z_en_81]
theorem gk_en_82_38_11 : rk en_82 38 11 = true := by decide +kernel
def en_83 : En := nA en_82 20 7
theorem z_en_83 : eZ en_83 = 44 := by unfold en_83; rw [Z_nA, z_en_82]
def st_44 (x : Int32) : St := clr (st_43 x) 43
theorem gk_en_83_38_11 : rk en_83 38 11 = true := by decide +kernel
theorem gk_en_83_43_20 : rk en_83 43 20 = true := by decide +kernel
def en_84 : En := sS en_83 38 9 (some 43)
theorem z_en_84 : eZ en_84 = 44 := by unfold en_84; rw [Z_sS, z_en_83]
theorem gk_en_84_38_11 : rk en_84 38 11 = true := by decide +kernel
def en_85 : En := nA en_84 20 12
theorem z_en_85 : eZ en_85 = 45 := by unfold en_85; rw [Z_nA, z_en_84]
def st_45 (x : Int32) : St := clr (sI (sI (sI (st_44 x) 38 12 1) 38 13 2) 38 14 1) 44
theorem gk_en_85_38_11 : rk en_85 38 11 = true := by decide +kernel
theorem gk_en_85_44_20 : rk en_85 44 20 = true := by decide +kernel
def en_86 : En := sS en_85 38 15 (some 44)
theorem z_en_86 : eZ en_86 = 45 := by unfold en_86; rw [Z_sS, z_en_85]
theorem gk_en_86_38_11 : rk en_86 38 11 = true := by decide +kernel
def en_87 : En := nA en_86 20 100
theorem z_en_87 : eZ en_87 = 46 := by unfold en_87; rw [Z_nA, z_en_86]
def st_46 (x : Int32) : St := clr (st_45 x) 45
theorem gk_en_87_38_11 : rk en_87 38 11 = true := by decide +kernel
theorem gk_en_87_45_20 : rk en_87 45 20 = true := by decide +kernel
def en_88 : En := sS en_87 38 16 (some 45)
theorem z_en_88 : eZ en_88 = 46 := by unfold en_88; rw [Z_sS, z_en_87]
theorem gk_en_88_38_11 : rk en_88 38 11 = true := by decide +kernel
def en_89 : En := nA en_88 20 19
theorem z_en_89 : eZ en_89 = 47 := by unfold en_89; rw [Z_nA, z_en_88]
def st_47 (x : Int32) : St := clr (st_46 x) 46
theorem gk_en_89_38_11 : rk en_89 38 11 = true := by decide +kernel
theorem gk_en_89_46_20 : rk en_89 46 20 = true := by decide +kernel
def en_90 : En := sS en_89 38 17 (some 46)
theorem z_en_90 : eZ en_90 = 47 := by unfold en_90; rw [Z_sS, z_en_89]
theorem gk_en_90_38_11 : rk en_90 38 11 = true := by decide +kernel
def en_91 : En := nA en_90 20 12
theorem z_en_91 : eZ en_91 = 48 := by unfold en_91; rw [Z_nA, z_en_90]
def st_48 (x : Int32) : St := clr (st_47 x) 47
theorem gk_en_91_38_11 : rk en_91 38 11 = true := by decide +kernel
theorem gk_en_91_47_20 : rk en_91 47 20 = true := by decide +kernel
def en_92 : En := sS en_91 38 23 (some 47)
theorem z_en_92 : eZ en_92 = 48 := by unfold en_92; rw [Z_sS, z_en_91]
theorem gk_en_92_38_11 : rk en_92 38 11 = true := by decide +kernel
def en_93 : En := nA en_92 20 12
theorem z_en_93 : eZ en_93 = 49 := by unfold en_93; rw [Z_nA, z_en_92]
def st_49 (x : Int32) : St := clr (st_48 x) 48
theorem gk_en_93_38_11 : rk en_93 38 11 = true := by decide +kernel
theorem gk_en_93_48_20 : rk en_93 48 20 = true := by decide +kernel
def en_94 : En := sS en_93 38 24 (some 48)
theorem z_en_94 : eZ en_94 = 49 := by unfold en_94; rw [Z_sS, z_en_93]
theorem gk_en_94_38_11 : rk en_94 38 11 = true := by decide +kernel
def en_95 : En := nA en_94 20 760
theorem z_en_95 : eZ en_95 = 50 := by unfold en_95; rw [Z_nA, z_en_94]
def st_50 (x : Int32) : St := clr (st_49 x) 49
theorem gk_en_95_38_11 : rk en_95 38 11 = true := by decide +kernel
theorem gk_en_95_49_20 : rk en_95 49 20 = true := by decide +kernel
def en_96 : En := sS en_95 38 25 (some 49)
theorem z_en_96 : eZ en_96 = 50 := by unfold en_96; rw [Z_sS, z_en_95]
theorem gk_en_96_38_11 : rk en_96 38 11 = true := by decide +kernel
def en_97 : En := nA en_96 21 40
theorem z_en_97 : eZ en_97 = 51 := by unfold en_97; rw [Z_nA, z_en_96]
def st_51 (x : Int32) : St := clr (st_50 x) 50
theorem gk_en_97_38_11 : rk en_97 38 11 = true := by decide +kernel
theorem gk_en_97_50_21 : rk en_97 50 21 = true := by decide +kernel
def en_98 : En := sS en_97 38 26 (some 50)
theorem z_en_98 : eZ en_98 = 51 := by unfold en_98; rw [Z_sS, z_en_97]
theorem gk_en_98_38_11 : rk en_98 38 11 = true := by decide +kernel
def en_99 : En := nA en_98 20 12
theorem z_en_99 : eZ en_99 = 52 := by unfold en_99; rw [Z_nA, z_en_98]
def st_52 (x : Int32) : St := clr (st_51 x) 51
theorem gk_en_99_38_11 : rk en_99 38 11 = true := by decide +kernel
theorem gk_en_99_51_20 : rk en_99 51 20 = true := by decide +kernel
def en_100 : En := sS en_99 38 29 (some 51)
theorem z_en_100 : eZ en_100 = 52 := by unfold en_100; rw [Z_sS, z_en_99]
theorem gk_en_100_38_11 : rk en_100 38 11 = true := by decide +kernel
def en_101 : En := nA en_100 21 99
theorem z_en_101 : eZ en_101 = 53 := by unfold en_101; rw [Z_nA, z_en_100]
def st_53 (x : Int32) : St := clr (st_52 x) 52
theorem gk_en_101_38_11 : rk en_101 38 11 = true := by decide +kernel
theorem gk_en_101_52_21 : rk en_101 52 21 = true := by decide +kernel
def en_102 : En := sS en_101 38 30 (some 52)
theorem z_en_102 : eZ en_102 = 53 := by unfold en_102; rw [Z_sS, z_en_101]
theorem gk_en_102_38_11 : rk en_102 38 11 = true := by decide +kernel
def en_103 : En := nA en_102 21 99
theorem z_en_103 : eZ en_103 = 54 := by unfold en_103; rw [Z_nA, z_en_102]
def st_54 (x : Int32) : St := clr (st_53 x) 53
theorem gk_en_103_38_11 : rk en_103 38 11 = true := by decide +kernel
theorem gk_en_103_53_21 : rk en_103 53 21 = true := by decide +kernel
def en_104 : En := sS en_103 38 31 (some 53)
theorem z_en_104 : eZ en_104 = 54 := by unfold en_104; rw [Z_sS, z_en_103]
theorem gk_en_104_38_11 : rk en_104 38 11 = true := by decide +kernel
def en_105 : En := nA en_104 20 8
theorem z_en_105 : eZ en_105 = 55 := by unfold en_105; rw [Z_nA, z_en_104]
def st_55 (x : Int32) : St := clr (st_54 x) 54
theorem gk_en_105_38_11 : rk en_105 38 11 = true := by decide +kernel
theorem gk_en_105_54_20 : rk en_105 54 20 = true := by decide +kernel
def en_106 : En := sS en_105 38 32 (some 54)
theorem z_en_106 : eZ en_106 = 55 := by unfold en_106; rw [Z_sS, z_en_105]
theorem gk_en_106_38_11 : rk en_106 38 11 = true := by decide +kernel
def en_107 : En := nA en_106 20 256
theorem z_en_107 : eZ en_107 = 56 := by unfold en_107; rw [Z_nA, z_en_106]
def st_56 (x : Int32) : St := clr (st_55 x) 55
theorem gk_en_107_38_11 : rk en_107 38 11 = true := by decide +kernel
theorem gk_en_107_55_20 : rk en_107 55 20 = true := by decide +kernel
def en_108 : En := sS en_107 38 34 (some 55)
theorem z_en_108 : eZ en_108 = 56 := by unfold en_108; rw [Z_sS, z_en_107]
theorem gk_en_108_38_11 : rk en_108 38 11 = true := by decide +kernel
def en_109 : En := nA en_108 20 10
theorem z_en_109 : eZ en_109 = 57 := by unfold en_109; rw [Z_nA, z_en_108]
def st_57 (x : Int32) : St := clr (st_56 x) 56
theorem gk_en_109_38_11 : rk en_109 38 11 = true := by decide +kernel
theorem gk_en_109_56_20 : rk en_109 56 20 = true := by decide +kernel
def en_110 : En := sS en_109 38 38 (some 56)
theorem z_en_110 : eZ en_110 = 57 := by unfold en_110; rw [Z_sS, z_en_109]
theorem gk_en_110_38_11 : rk en_110 38 11 = true := by decide +kernel
def en_111 : En := nA en_110 20 19
theorem z_en_111 : eZ en_111 = 58 := by unfold en_111; rw [Z_nA, z_en_110]
def st_58 (x : Int32) : St := clr (st_57 x) 57
theorem gk_en_111_38_11 : rk en_111 38 11 = true := by decide +kernel
theorem gk_en_111_57_20 : rk en_111 57 20 = true := by decide +kernel
def en_112 : En := sS en_111 38 39 (some 57)
theorem z_en_112 : eZ en_112 = 58 := by unfold en_112; rw [Z_sS, z_en_111]
theorem gk_en_112_38_11 : rk en_112 38 11 = true := by decide +kernel
def en_113 : En := nA en_112 20 12
theorem z_en_113 : eZ en_113 = 59 := by unfold en_113; rw [Z_nA, z_en_112]
def st_59 (x : Int32) : St := clr (st_58 x) 58
theorem gk_en_113_38_11 : rk en_113 38 11 = true := by decide +kernel
theorem gk_en_113_58_20 : rk en_113 58 20 = true := by decide +kernel
def en_114 : En := sS en_113 38 40 (some 58)
theorem z_en_114 : eZ en_114 = 59 := by unfold en_114; rw [Z_sS, z_en_113]
theorem gk_en_114_38_11 : rk en_114 38 11 = true := by decide +kernel
def en_115 : En := nA en_114 20 12
theorem z_en_115 : eZ en_115 = 60 := by unfold en_115; rw [Z_nA, z_en_114]
def st_60 (x : Int32) : St := clr (st_59 x) 59
theorem gk_en_115_38_11 : rk en_115 38 11 = true := by decide +kernel
theorem gk_en_115_59_20 : rk en_115 59 20 = true := by decide +kernel
def en_116 : En := sS en_115 38 41 (some 59)
theorem z_en_116 : eZ en_116 = 60 := by unfold en_116; rw [Z_sS, z_en_115]
theorem gk_en_116_38_11 : rk en_116 38 11 = true := by decide +kernel
def en_117 : En := nA en_116 22 12
theorem z_en_117 : eZ en_117 = 61 := by unfold en_117; rw [Z_nA, z_en_116]
def st_61 (x : Int32) : St := clr (st_60 x) 60
theorem gk_en_117_38_11 : rk en_117 38 11 = true := by decide +kernel
theorem gk_en_117_60_22 : rk en_117 60 22 = true := by decide +kernel
def en_118 : En := sS en_117 38 42 (some 60)
theorem z_en_118 : eZ en_118 = 61 := by unfold en_118; rw [Z_sS, z_en_117]
theorem gk_en_118_38_11 : rk en_118 38 11 = true := by decide +kernel
def en_119 : En := nA en_118 22 12
theorem z_en_119 : eZ en_119 = 62 := by unfold en_119; rw [Z_nA, z_en_118]
def st_62 (x : Int32) : St := clr (st_61 x) 61
theorem gk_en_119_38_11 : rk en_119 38 11 = true := by decide +kernel
theorem gk_en_119_61_22 : rk en_119 61 22 = true := by decide +kernel
def en_120 : En := sS en_119 38 43 (some 61)
theorem z_en_120 : eZ en_120 = 62 := by unfold en_120; rw [Z_sS, z_en_119]
theorem gk_en_120_38_11 : rk en_120 38 11 = true := by decide +kernel
def en_121 : En := nA en_120 20 12
theorem z_en_121 : eZ en_121 = 63 := by unfold en_121; rw [Z_nA, z_en_120]
def st_63 (x : Int32) : St := clr (st_62 x) 62
theorem gk_en_121_38_11 : rk en_121 38 11 = true := by decide +kernel
theorem gk_en_121_62_20 : rk en_121 62 20 = true := by decide +kernel
def en_122 : En := sS en_121 38 44 (some 62)
theorem z_en_122 : eZ en_122 = 63 := by unfold en_122; rw [Z_sS, z_en_121]
theorem gk_en_122_38_11 : rk en_122 38 11 = true := by decide +kernel
def en_123 : En := nA en_122 20 12
theorem z_en_123 : eZ en_123 = 64 := by unfold en_123; rw [Z_nA, z_en_122]
def st_64 (x : Int32) : St := clr (st_63 x) 63
theorem gk_en_123_38_11 : rk en_123 38 11 = true := by decide +kernel
theorem gk_en_123_63_20 : rk en_123 63 20 = true := by decide +kernel
def en_124 : En := sS en_123 38 45 (some 63)
theorem z_en_124 : eZ en_124 = 64 := by unfold en_124; rw [Z_sS, z_en_123]
theorem gk_en_124_38_11 : rk en_124 38 11 = true := by decide +kernel
def en_125 : En := nA en_124 20 12
theorem z_en_125 : eZ en_125 = 65 := by unfold en_125; rw [Z_nA, z_en_124]
def st_65 (x : Int32) : St := clr (st_64 x) 64
theorem gk_en_125_38_11 : rk en_125 38 11 = true := by decide +kernel
theorem gk_en_125_64_20 : rk en_125 64 20 = true := by decide +kernel
def en_126 : En := sS en_125 38 46 (some 64)
theorem z_en_126 : eZ en_126 = 65 := by unfold en_126; rw [Z_sS, z_en_125]
theorem gk_en_126_38_11 : rk en_126 38 11 = true := by decide +kernel
def en_127 : En := nA en_126 20 9
theorem z_en_127 : eZ en_127 = 66 := by unfold en_127; rw [Z_nA, z_en_126]
def st_66 (x : Int32) : St := clr (st_65 x) 65
theorem gk_en_127_38_11 : rk en_127 38 11 = true := by decide +kernel
theorem gk_en_127_65_20 : rk en_127 65 20 = true := by decide +kernel
def en_128 : En := sS en_127 38 47 (some 65)
theorem z_en_128 : eZ en_128 = 66 := by unfold en_128; rw [Z_sS, z_en_127]
theorem gk_en_128_38_11 : rk en_128 38 11 = true := by decide +kernel
def en_129 : En := nA en_128 20 9
theorem z_en_129 : eZ en_129 = 67 := by unfold en_129; rw [Z_nA, z_en_128]
def st_67 (x : Int32) : St := clr (st_66 x) 66
theorem gk_en_129_38_11 : rk en_129 38 11 = true := by decide +kernel
theorem gk_en_129_66_20 : rk en_129 66 20 = true := by decide +kernel
def en_130 : En := sS en_129 38 48 (some 66)
theorem z_en_130 : eZ en_130 = 67 := by unfold en_130; rw [Z_sS, z_en_129]
theorem gk_en_130_38_11 : rk en_130 38 11 = true := by decide +kernel
def en_131 : En := nA en_130 20 1000
theorem z_en_131 : eZ en_131 = 68 := by unfold en_131; rw [Z_nA, z_en_130]
def st_68 (x : Int32) : St := clr (st_67 x) 67
theorem gk_en_131_38_11 : rk en_131 38 11 = true := by decide +kernel
theorem gk_en_131_67_20 : rk en_131 67 20 = true := by decide +kernel
def en_132 : En := sS en_131 38 49 (some 67)
theorem z_en_132 : eZ en_132 = 68 := by unfold en_132; rw [Z_sS, z_en_131]
theorem gk_en_132_38_11 : rk en_132 38 11 = true := by decide +kernel
def en_133 : En := nA en_132 22 1000
theorem z_en_133 : eZ en_133 = 69 := by unfold en_133; rw [Z_nA, z_en_132]
def st_69 (x : Int32) : St := clr (st_68 x) 68
theorem gk_en_133_38_11 : rk en_133 38 11 = true := by decide +kernel
theorem gk_en_133_68_22 : rk en_133 68 22 = true := by decide +kernel
def en_134 : En := sS en_133 38 50 (some 68)
theorem z_en_134 : eZ en_134 = 69 := by unfold en_134; rw [Z_sS, z_en_133]
theorem gk_en_134_38_11 : rk en_134 38 11 = true := by decide +kernel
def en_135 : En := nA en_134 20 19
theorem z_en_135 : eZ en_135 = 70 := by unfold en_135; rw [Z_nA, z_en_134]
def st_70 (x : Int32) : St := clr (st_69 x) 69
theorem gk_en_135_38_11 : rk en_135 38 11 = true := by decide +kernel
theorem gk_en_135_69_20 : rk en_135 69 20 = true := by decide +kernel
def en_136 : En := sS en_135 38 51 (some 69)
theorem z_en_136 : eZ en_136 = 70 := by unfold en_136; rw [Z_sS, z_en_135]
theorem gk_en_136_38_11 : rk en_136 38 11 = true := by decide +kernel
def en_137 : En := nA en_136 20 12
theorem z_en_137 : eZ en_137 = 71 := by unfold en_137; rw [Z_nA, z_en_136]
def st_71 (x : Int32) : St := clr (st_70 x) 70
theorem gk_en_137_38_11 : rk en_137 38 11 = true := by decide +kernel
theorem gk_en_137_70_20 : rk en_137 70 20 = true := by decide +kernel
def en_138 : En := sS en_137 38 52 (some 70)
theorem z_en_138 : eZ en_138 = 71 := by unfold en_138; rw [Z_sS, z_en_137]
theorem gk_en_138_38_11 : rk en_138 38 11 = true := by decide +kernel
theorem es_en_138_38_15 : eS en_138 38 15 = some 44 := by decide +kernel
theorem el_en_138_44 : eL en_138 44 = 12 := by decide +kernel
theorem gk_en_138_44_20 : rk en_138 44 20 = true := by decide +kernel
theorem iv_10 (x : Int32) : e_X10_init_z 38 x en_74 (st_39 x) = some (en_138, (flS (sI (st_71 x) 38 1 (mxI 2 (mnI 12 x))) 44 9 12)) := by
  unfold e_X10_init_z e_X10_init_bz
  rw [gd_t gk_en_74_38_11, mkA_z z_en_74 (show nA en_74 20 160 = en_75 from rfl) (show clr (st_39 x) 39 = (st_40 x) from rfl), gd_t gk_en_75_38_11, gd_t gk_en_75_39_20, ptS_z (show sS en_75 38 2 (some 39) = en_76 from rfl), gd_t gk_en_76_38_11, mkA_z z_en_76 (show nA en_76 20 84 = en_77 from rfl) (show clr (st_40 x) 40 = (st_41 x) from rfl), gd_t gk_en_77_38_11, gd_t gk_en_77_40_20, ptS_z (show sS en_77 38 6 (some 40) = en_78 from rfl), gd_t gk_en_78_38_11, mkA_z z_en_78 (show nA en_78 20 84 = en_79 from rfl) (show clr (st_41 x) 41 = (st_42 x) from rfl), gd_t gk_en_79_38_11, gd_t gk_en_79_41_20, ptS_z (show sS en_79 38 7 (some 41) = en_80 from rfl), gd_t gk_en_80_38_11, mkA_z z_en_80 (show nA en_80 20 84 = en_81 from rfl) (show clr (st_42 x) 42 = (st_43 x) from rfl), gd_t gk_en_81_38_11, gd_t gk_en_81_42_20, ptS_z (show sS en_81 38 8 (some 42) = en_82 from rfl)]
  rw [gd_t gk_en_82_38_11, mkA_z z_en_82 (show nA en_82 20 7 = en_83 from rfl) (show clr (st_43 x) 43 = (st_44 x) from rfl), gd_t gk_en_83_38_11, gd_t gk_en_83_43_20, ptS_z (show sS en_83 38 9 (some 43) = en_84 from rfl), gd_t gk_en_84_38_11, mkA_z z_en_84 (show nA en_84 20 12 = en_85 from rfl) (show clr (sI (sI (sI (st_44 x) 38 12 1) 38 13 2) 38 14 1) 44 = (st_45 x) from rfl), gd_t gk_en_85_38_11, gd_t gk_en_85_44_20, ptS_z (show sS en_85 38 15 (some 44) = en_86 from rfl), gd_t gk_en_86_38_11, mkA_z z_en_86 (show nA en_86 20 100 = en_87 from rfl) (show clr (st_45 x) 45 = (st_46 x) from rfl), gd_t gk_en_87_38_11, gd_t gk_en_87_45_20, ptS_z (show sS en_87 38 16 (some 45) = en_88 from rfl), gd_t gk_en_88_38_11, mkA_z z_en_88 (show nA en_88 20 19 = en_89 from rfl) (show clr (st_46 x) 46 = (st_47 x) from rfl), gd_t gk_en_89_38_11, gd_t gk_en_89_46_20, ptS_z (show sS en_89 38 17 (some 46) = en_90 from rfl)]
  rw [gd_t gk_en_90_38_11, mkA_z z_en_90 (show nA en_90 20 12 = en_91 from rfl) (show clr (st_47 x) 47 = (st_48 x) from rfl), gd_t gk_en_91_38_11, gd_t gk_en_91_47_20, ptS_z (show sS en_91 38 23 (some 47) = en_92 from rfl), gd_t gk_en_92_38_11, mkA_z z_en_92 (show nA en_92 20 12 = en_93 from rfl) (show clr (st_48 x) 48 = (st_49 x) from rfl), gd_t gk_en_93_38_11, gd_t gk_en_93_48_20, ptS_z (show sS en_93 38 24 (some 48) = en_94 from rfl), gd_t gk_en_94_38_11, mkA_z z_en_94 (show nA en_94 20 760 = en_95 from rfl) (show clr (st_49 x) 49 = (st_50 x) from rfl), gd_t gk_en_95_38_11, gd_t gk_en_95_49_20, ptS_z (show sS en_95 38 25 (some 49) = en_96 from rfl), gd_t gk_en_96_38_11, mkA_z z_en_96 (show nA en_96 21 40 = en_97 from rfl) (show clr (st_50 x) 50 = (st_51 x) from rfl), gd_t gk_en_97_38_11, gd_t gk_en_97_50_21, ptS_z (show sS en_97 38 26 (some 50) = en_98 from rfl)]
  rw [gd_t gk_en_98_38_11, mkA_z z_en_98 (show nA en_98 20 12 = en_99 from rfl) (show clr (st_51 x) 51 = (st_52 x) from rfl), gd_t gk_en_99_38_11, gd_t gk_en_99_51_20, ptS_z (show sS en_99 38 29 (some 51) = en_100 from rfl), gd_t gk_en_100_38_11, mkA_z z_en_100 (show nA en_100 21 99 = en_101 from rfl) (show clr (st_52 x) 52 = (st_53 x) from rfl), gd_t gk_en_101_38_11, gd_t gk_en_101_52_21, ptS_z (show sS en_101 38 30 (some 52) = en_102 from rfl), gd_t gk_en_102_38_11, mkA_z z_en_102 (show nA en_102 21 99 = en_103 from rfl) (show clr (st_53 x) 53 = (st_54 x) from rfl), gd_t gk_en_103_38_11, gd_t gk_en_103_53_21, ptS_z (show sS en_103 38 31 (some 53) = en_104 from rfl), gd_t gk_en_104_38_11, mkA_z z_en_104 (show nA en_104 20 8 = en_105 from rfl) (show clr (st_54 x) 54 = (st_55 x) from rfl), gd_t gk_en_105_38_11, gd_t gk_en_105_54_20, ptS_z (show sS en_105 38 32 (some 54) = en_106 from rfl)]
  rw [gd_t gk_en_106_38_11, mkA_z z_en_106 (show nA en_106 20 256 = en_107 from rfl) (show clr (st_55 x) 55 = (st_56 x) from rfl), gd_t gk_en_107_38_11, gd_t gk_en_107_55_20, ptS_z (show sS en_107 38 34 (some 55) = en_108 from rfl), gd_t gk_en_108_38_11, mkA_z z_en_108 (show nA en_108 20 10 = en_109 from rfl) (show clr (st_56 x) 56 = (st_57 x) from rfl), gd_t gk_en_109_38_11, gd_t gk_en_109_56_20, ptS_z (show sS en_109 38 38 (some 56) = en_110 from rfl), gd_t gk_en_110_38_11, mkA_z z_en_110 (show nA en_110 20 19 = en_111 from rfl) (show clr (st_57 x) 57 = (st_58 x) from rfl), gd_t gk_en_111_38_11, gd_t gk_en_111_57_20, ptS_z (show sS en_111 38 39 (some 57) = en_112 from rfl), gd_t gk_en_112_38_11, mkA_z z_en_112 (show nA en_112 20 12 = en_113 from rfl) (show clr (st_58 x) 58 = (st_59 x) from rfl), gd_t gk_en_113_38_11, gd_t gk_en_113_58_20, ptS_z (show sS en_113 38 40 (some 58) = en_114 from rfl)]
  rw [gd_t gk_en_114_38_11, mkA_z z_en_114 (show nA en_114 20 12 = en_115 from rfl) (show clr (st_59 x) 59 = (st_60 x) from rfl), gd_t gk_en_115_38_11, gd_t gk_en_115_59_20, ptS_z (show sS en_115 38 41 (some 59) = en_116 from rfl), gd_t gk_en_116_38_11, mkA_z z_en_116 (show nA en_116 22 12 = en_117 from rfl) (show clr (st_60 x) 60 = (st_61 x) from rfl), gd_t gk_en_117_38_11, gd_t gk_en_117_60_22, ptS_z (show sS en_117 38 42 (some 60) = en_118 from rfl), gd_t gk_en_118_38_11, mkA_z z_en_118 (show nA en_118 22 12 = en_119 from rfl) (show clr (st_61 x) 61 = (st_62 x) from rfl), gd_t gk_en_119_38_11, gd_t gk_en_119_61_22, ptS_z (show sS en_119 38 43 (some 61) = en_120 from rfl), gd_t gk_en_120_38_11, mkA_z z_en_120 (show nA en_120 20 12 = en_121 from rfl) (show clr (st_62 x) 62 = (st_63 x) from rfl), gd_t gk_en_121_38_11, gd_t gk_en_121_62_20, ptS_z (show sS en_121 38 44 (some 62) = en_122 from rfl)]
  rw [gd_t gk_en_122_38_11, mkA_z z_en_122 (show nA en_122 20 12 = en_123 from rfl) (show clr (st_63 x) 63 = (st_64 x) from rfl), gd_t gk_en_123_38_11, gd_t gk_en_123_63_20, ptS_z (show sS en_123 38 45 (some 63) = en_124 from rfl), gd_t gk_en_124_38_11, mkA_z z_en_124 (show nA en_124 20 12 = en_125 from rfl) (show clr (st_64 x) 64 = (st_65 x) from rfl), gd_t gk_en_125_38_11, gd_t gk_en_125_64_20, ptS_z (show sS en_125 38 46 (some 64) = en_126 from rfl), gd_t gk_en_126_38_11, mkA_z z_en_126 (show nA en_126 20 9 = en_127 from rfl) (show clr (st_65 x) 65 = (st_66 x) from rfl), gd_t gk_en_127_38_11, gd_t gk_en_127_65_20, ptS_z (show sS en_127 38 47 (some 65) = en_128 from rfl), gd_t gk_en_128_38_11, mkA_z z_en_128 (show nA en_128 20 9 = en_129 from rfl) (show clr (st_66 x) 66 = (st_67 x) from rfl), gd_t gk_en_129_38_11, gd_t gk_en_129_66_20, ptS_z (show sS en_129 38 48 (some 66) = en_130 from rfl)]
  rw [gd_t gk_en_130_38_11, mkA_z z_en_130 (show nA en_130 20 1000 = en_131 from rfl) (show clr (st_67 x) 67 = (st_68 x) from rfl), gd_t gk_en_131_38_11, gd_t gk_en_131_67_20, ptS_z (show sS en_131 38 49 (some 67) = en_132 from rfl), gd_t gk_en_132_38_11, mkA_z z_en_132 (show nA en_132 22 1000 = en_133 from rfl) (show clr (st_68 x) 68 = (st_69 x) from rfl), gd_t gk_en_133_38_11, gd_t gk_en_133_68_22, ptS_z (show sS en_133 38 50 (some 68) = en_134 from rfl), gd_t gk_en_134_38_11, mkA_z z_en_134 (show nA en_134 20 19 = en_135 from rfl) (show clr (st_69 x) 69 = (st_70 x) from rfl), gd_t gk_en_135_38_11, gd_t gk_en_135_69_20, ptS_z (show sS en_135 38 51 (some 69) = en_136 from rfl), gd_t gk_en_136_38_11, mkA_z z_en_136 (show nA en_136 20 12 = en_137 from rfl) (show clr (st_70 x) 70 = (st_71 x) from rfl), gd_t gk_en_137_38_11, gd_t gk_en_137_70_20, ptS_z (show sS en_137 38 52 (some 70) = en_138 from rfl)]
  rw [gd_t gk_en_138_38_11]
  rw [show e_X10_init_296 38 FU 0 en_138 (sI (st_71 x) 38 1 (mxI 2 (mnI 12 x))) = some (en_138, flS (sI (st_71 x) 38 1 (mxI 2 (mnI 12 x))) 44 9 12) from e_296_go (σ := (sI (st_71 x) 38 1 (mxI 2 (mnI 12 x)))) gk_en_138_38_11 es_en_138_38_15 gk_en_138_44_20 el_en_138_44 12 FU 0 (by omega) (by unfold FU; omega)]
  rw [bnd rfl]
  dsimp only
  exact gd_t (by decide +kernel)
theorem gk_en_138_0_10 : rk en_138 0 10 = true := by decide +kernel
def en_139 : En := nA en_138 21 1
theorem z_en_139 : eZ en_139 = 72 := by unfold en_139; rw [Z_nA, z_en_138]
def st_72 (x : Int32) : St := clr (flS (sI (st_71 x) 38 1 (mxI 2 (mnI 12 x))) 44 9 12) 71
theorem gk_en_139_38_11 : rk en_139 38 11 = true := by decide +kernel
theorem gk_en_139_0_10 : rk en_139 0 10 = true := by decide +kernel
theorem gk_en_139_71_21 : rk en_139 71 21 = true := by decide +kernel
theorem iv_pre (sc : Nat × (Nat → Int32)) (x : Int32) (hx : (if 0 < sc.1 then sc.2 0 else 0) = x) : e_L_pre_z sc E00 σ00 = some (0, 38, 71, en_139, (st_72 x)) := by
  unfold e_L_pre_z
  rw [hx]
  show mkO en_0 σ00 10 18 _ = _
  rw [mkO_z z_en_0 (show nO en_0 10 18 = en_1 from rfl) (show clr σ00 0 = (st_1 x) from rfl), gd_t gk_en_1_0_10, bnd (iv_9 x)]
  dsimp only
  rw [gd_t gk_en_73_0_10, mkO_z z_en_73 (show nO en_73 11 57 = en_74 from rfl) (show clr (sI (sI (sI (st_38 x) 0 15 1) 0 16 2) 0 17 1) 38 = (st_39 x) from rfl), gd_t gk_en_74_0_10, gd_t gk_en_74_38_11, bnd (iv_10 x)]
  dsimp only
  rw [gd_t gk_en_138_0_10, gd_t gk_en_138_38_11, mkA_z z_en_138 (show nA en_138 21 1 = en_139 from rfl) (show clr (flS (sI (st_71 x) 38 1 (mxI 2 (mnI 12 x))) 44 9 12) 71 = (st_72 x) from rfl), gd_t gk_en_139_38_11, gd_t gk_en_139_0_10, gd_t gk_en_139_71_21]
abbrev enN : En := en_139
abbrev stN (x : Int32) : St := (st_72 x)
def kS (E : En) : Prop := ∀ a k, 60 ≤ k → eS E a k = none
theorem kS_nO {E : En} {k n : Nat} (h : kS E) : kS (nO E k n) := fun a f hf => by
  rw [S_nO]
  split
  · rfl
  · exact h a f hf
theorem kS_nA {E : En} {k n : Nat} (h : kS E) : kS (nA E k n) := fun a f hf => by rw [S_nA]; exact h a f hf
theorem kS_sS {E : En} {o k v : Nat} (h : kS E) (hk : k < 60) : kS (sS E o k (some v)) := fun a f hf => by
  rw [S_sS]
  split
  · rw [if_neg (by omega)]; exact h a f hf
  · exact h a f hf
theorem kS_en_0 : kS en_0 := fun _ _ _ => rfl
theorem kS_en_1 : kS en_1 := kS_nO kS_en_0
theorem kS_en_2 : kS en_2 := kS_nO kS_en_1
theorem kS_en_3 : kS en_3 := kS_nA kS_en_2
theorem kS_en_4 : kS en_4 := kS_sS kS_en_3 (by omega)
theorem kS_en_5 : kS en_5 := kS_nA kS_en_4
theorem kS_en_6 : kS en_6 := kS_sS kS_en_5 (by omega)
theorem kS_en_7 : kS en_7 := kS_nA kS_en_6
theorem kS_en_8 : kS en_8 := kS_sS kS_en_7 (by omega)
theorem kS_en_9 : kS en_9 := kS_sS kS_en_8 (by omega)
theorem kS_en_10 : kS en_10 := kS_nO kS_en_9
theorem kS_en_11 : kS en_11 := kS_nA kS_en_10
theorem kS_en_12 : kS en_12 := kS_sS kS_en_11 (by omega)
theorem kS_en_13 : kS en_13 := kS_nA kS_en_12
theorem kS_en_14 : kS en_14 := kS_sS kS_en_13 (by omega)
theorem kS_en_15 : kS en_15 := kS_nA kS_en_14
theorem kS_en_16 : kS en_16 := kS_sS kS_en_15 (by omega)
theorem kS_en_17 : kS en_17 := kS_sS kS_en_16 (by omega)
theorem kS_en_18 : kS en_18 := kS_nO kS_en_17
theorem kS_en_19 : kS en_19 := kS_nA kS_en_18
theorem kS_en_20 : kS en_20 := kS_sS kS_en_19 (by omega)
theorem kS_en_21 : kS en_21 := kS_sS kS_en_20 (by omega)
theorem kS_en_22 : kS en_22 := kS_nO kS_en_21
theorem kS_en_23 : kS en_23 := kS_nA kS_en_22
theorem kS_en_24 : kS en_24 := kS_sS kS_en_23 (by omega)
theorem kS_en_25 : kS en_25 := kS_nA kS_en_24
theorem kS_en_26 : kS en_26 := kS_sS kS_en_25 (by omega)
theorem kS_en_27 : kS en_27 := kS_sS kS_en_26 (by omega)
theorem kS_en_28 : kS en_28 := kS_nA kS_en_27
theorem kS_en_29 : kS en_29 := kS_sS kS_en_28 (by omega)
theorem kS_en_30 : kS en_30 := kS_nO kS_en_29
theorem kS_en_31 : kS en_31 := kS_nA kS_en_30
theorem kS_en_32 : kS en_32 := kS_sS kS_en_31 (by omega)
theorem kS_en_33 : kS en_33 := kS_nA kS_en_32
theorem kS_en_34 : kS en_34 := kS_nA kS_en_33
theorem kS_en_35 : kS en_35 := kS_sS kS_en_34 (by omega)
theorem kS_en_36 : kS en_36 := kS_nO kS_en_35
theorem kS_en_37 : kS en_37 := kS_nA kS_en_36
theorem kS_en_38 : kS en_38 := kS_sS kS_en_37 (by omega)
theorem kS_en_39 : kS en_39 := kS_sS kS_en_38 (by omega)
theorem kS_en_40 : kS en_40 := kS_nO kS_en_39
theorem kS_en_41 : kS en_41 := kS_nA kS_en_40
theorem kS_en_42 : kS en_42 := kS_sS kS_en_41 (by omega)
theorem kS_en_43 : kS en_43 := kS_nA kS_en_42
theorem kS_en_44 : kS en_44 := kS_sS kS_en_43 (by omega)
theorem kS_en_45 : kS en_45 := kS_nA kS_en_44
theorem kS_en_46 : kS en_46 := kS_sS kS_en_45 (by omega)
theorem kS_en_47 : kS en_47 := kS_nA kS_en_46
theorem kS_en_48 : kS en_48 := kS_sS kS_en_47 (by omega)
theorem kS_en_49 : kS en_49 := kS_nA kS_en_48
theorem kS_en_50 : kS en_50 := kS_sS kS_en_49 (by omega)
theorem kS_en_51 : kS en_51 := kS_sS kS_en_50 (by omega)
theorem kS_en_52 : kS en_52 := kS_nO kS_en_51
theorem kS_en_53 : kS en_53 := kS_nA kS_en_52
theorem kS_en_54 : kS en_54 := kS_sS kS_en_53 (by omega)
theorem kS_en_55 : kS en_55 := kS_nA kS_en_54
theorem kS_en_56 : kS en_56 := kS_sS kS_en_55 (by omega)
theorem kS_en_57 : kS en_57 := kS_nA kS_en_56
theorem kS_en_58 : kS en_58 := kS_sS kS_en_57 (by omega)
theorem kS_en_59 : kS en_59 := kS_nA kS_en_58
theorem kS_en_60 : kS en_60 := kS_sS kS_en_59 (by omega)
theorem kS_en_61 : kS en_61 := kS_nA kS_en_60
theorem kS_en_62 : kS en_62 := kS_sS kS_en_61 (by omega)
theorem kS_en_63 : kS en_63 := kS_nA kS_en_62
theorem kS_en_64 : kS en_64 := kS_sS kS_en_63 (by omega)
theorem kS_en_65 : kS en_65 := kS_nA kS_en_64
theorem kS_en_66 : kS en_66 := kS_sS kS_en_65 (by omega)
theorem kS_en_67 : kS en_67 := kS_nA kS_en_66
theorem kS_en_68 : kS en_68 := kS_sS kS_en_67 (by omega)
theorem kS_en_69 : kS en_69 := kS_nA kS_en_68
theorem kS_en_70 : kS en_70 := kS_sS kS_en_69 (by omega)
theorem kS_en_71 : kS en_71 := kS_nA kS_en_70
theorem kS_en_72 : kS en_72 := kS_sS kS_en_71 (by omega)
theorem kS_en_73 : kS en_73 := kS_sS kS_en_72 (by omega)
theorem kS_en_74 : kS en_74 := kS_nO kS_en_73
theorem kS_en_75 : kS en_75 := kS_nA kS_en_74
theorem kS_en_76 : kS en_76 := kS_sS kS_en_75 (by omega)
theorem kS_en_77 : kS en_77 := kS_nA kS_en_76
theorem kS_en_78 : kS en_78 := kS_sS kS_en_77 (by omega)
theorem kS_en_79 : kS en_79 := kS_nA kS_en_78
theorem kS_en_80 : kS en_80 := kS_sS kS_en_79 (by omega)
theorem kS_en_81 : kS en_81 := kS_nA kS_en_80
theorem kS_en_82 : kS en_82 := kS_sS kS_en_81 (by omega)
theorem kS_en_83 : kS en_83 := kS_nA kS_en_82
theorem kS_en_84 : kS en_84 := kS_sS kS_en_83 (by omega)
theorem kS_en_85 : kS en_85 := kS_nA kS_en_84
theorem kS_en_86 : kS en_86 := kS_sS kS_en_85 (by omega)
theorem kS_en_87 : kS en_87 := kS_nA kS_en_86
theorem kS_en_88 : kS en_88 := kS_sS kS_en_87 (by omega)
theorem kS_en_89 : kS en_89 := kS_nA kS_en_88
theorem kS_en_90 : kS en_90 := kS_sS kS_en_89 (by omega)
theorem kS_en_91 : kS en_91 := kS_nA kS_en_90
theorem kS_en_92 : kS en_92 := kS_sS kS_en_91 (by omega)
theorem kS_en_93 : kS en_93 := kS_nA kS_en_92
theorem kS_en_94 : kS en_94 := kS_sS kS_en_93 (by omega)
theorem kS_en_95 : kS en_95 := kS_nA kS_en_94
theorem kS_en_96 : kS en_96 := kS_sS kS_en_95 (by omega)
theorem kS_en_97 : kS en_97 := kS_nA kS_en_96
theorem kS_en_98 : kS en_98 := kS_sS kS_en_97 (by omega)
theorem kS_en_99 : kS en_99 := kS_nA kS_en_98
theorem kS_en_100 : kS en_100 := kS_sS kS_en_99 (by omega)
theorem kS_en_101 : kS en_101 := kS_nA kS_en_100
theorem kS_en_102 : kS en_102 := kS_sS kS_en_101 (by omega)
theorem kS_en_103 : kS en_103 := kS_nA kS_en_102
theorem kS_en_104 : kS en_104 := kS_sS kS_en_103 (by omega)
theorem kS_en_105 : kS en_105 := kS_nA kS_en_104
theorem kS_en_106 : kS en_106 := kS_sS kS_en_105 (by omega)
theorem kS_en_107 : kS en_107 := kS_nA kS_en_106
theorem kS_en_108 : kS en_108 := kS_sS kS_en_107 (by omega)
theorem kS_en_109 : kS en_109 := kS_nA kS_en_108
theorem kS_en_110 : kS en_110 := kS_sS kS_en_109 (by omega)
theorem kS_en_111 : kS en_111 := kS_nA kS_en_110
theorem kS_en_112 : kS en_112 := kS_sS kS_en_111 (by omega)
theorem kS_en_113 : kS en_113 := kS_nA kS_en_112
theorem kS_en_114 : kS en_114 := kS_sS kS_en_113 (by omega)
theorem kS_en_115 : kS en_115 := kS_nA kS_en_114
theorem kS_en_116 : kS en_116 := kS_sS kS_en_115 (by omega)
theorem kS_en_117 : kS en_117 := kS_nA kS_en_116
theorem kS_en_118 : kS en_118 := kS_sS kS_en_117 (by omega)
theorem kS_en_119 : kS en_119 := kS_nA kS_en_118
theorem kS_en_120 : kS en_120 := kS_sS kS_en_119 (by omega)
theorem kS_en_121 : kS en_121 := kS_nA kS_en_120
theorem kS_en_122 : kS en_122 := kS_sS kS_en_121 (by omega)
theorem kS_en_123 : kS en_123 := kS_nA kS_en_122
theorem kS_en_124 : kS en_124 := kS_sS kS_en_123 (by omega)
theorem kS_en_125 : kS en_125 := kS_nA kS_en_124
theorem kS_en_126 : kS en_126 := kS_sS kS_en_125 (by omega)
theorem kS_en_127 : kS en_127 := kS_nA kS_en_126
theorem kS_en_128 : kS en_128 := kS_sS kS_en_127 (by omega)
theorem kS_en_129 : kS en_129 := kS_nA kS_en_128
theorem kS_en_130 : kS en_130 := kS_sS kS_en_129 (by omega)
theorem kS_en_131 : kS en_131 := kS_nA kS_en_130
theorem kS_en_132 : kS en_132 := kS_sS kS_en_131 (by omega)
theorem kS_en_133 : kS en_133 := kS_nA kS_en_132
theorem kS_en_134 : kS en_134 := kS_sS kS_en_133 (by omega)
theorem kS_en_135 : kS en_135 := kS_nA kS_en_134
theorem kS_en_136 : kS en_136 := kS_sS kS_en_135 (by omega)
theorem kS_en_137 : kS en_137 := kS_nA kS_en_136
theorem kS_en_138 : kS en_138 := kS_sS kS_en_137 (by omega)
theorem kS_en_139 : kS en_139 := kS_nA kS_en_138
theorem flS_c {σ : St} {ar n : Nat} {v : Int32} (h : n ≠ ar) : ∀ m : Nat, gI (flS σ ar v m) n = gI σ n := by
  intro m
  induction m with
  | zero => rfl
  | succ m ih =>
    show gI (sI (flS σ ar v m) ar m v) n = _
    rw [g_sI_c h, ih]
theorem dgS_c {σ : St} {ar n : Nat} (h : n ≠ ar) : ∀ m : Nat, gI (dgS σ ar m) n = gI σ n := by
  intro m
  induction m with
  | zero => rfl
  | succ m ih =>
    show gI (sI (dgS σ ar m) ar (11 * m) 100) n = _
    rw [g_sI_c h, ih]
theorem I_clr_c {σ : St} {n a : Nat} (h : a ≠ n) : gI (clr σ n) a = gI σ a := funext fun b => by rw [I_clr, if_neg h]
theorem I_clr_z {σ : St} {n : Nat} : gI (clr σ n) n = fun _ => 0 := funext fun b => by rw [I_clr, if_pos rfl]
theorem R_clr_c {σ : St} {n a : Nat} (h : a ≠ n) : gR (clr σ n) a = gR σ a := funext fun b => by rw [R_clr, if_neg h]
theorem R_clr_z {σ : St} {n : Nat} : gR (clr σ n) n = fun _ => none := funext fun b => by rw [R_clr, if_pos rfl]
theorem R_sI_c {σ : St} {a k n : Nat} {v : Int32} : gR (sI σ a k v) n = gR σ n := rfl
theorem R_sR_c {σ : St} {a k n : Nat} {v : Option Nat} (h : n ≠ a) : gR (sR σ a k v) n = gR σ n := funext fun b => by rw [gR_sR, if_neg h]
theorem I_sR_c {σ : St} {a k n : Nat} {v : Option Nat} : gI (sR σ a k v) n = gI σ n := rfl
theorem R_flS {σ : St} {ar n : Nat} {v : Int32} : ∀ m : Nat, gR (flS σ ar v m) n = gR σ n := by
  intro m
  induction m with
  | zero => rfl
  | succ m ih => exact Eq.trans R_sI_c ih
theorem R_dgS {σ : St} {ar n : Nat} : ∀ m : Nat, gR (dgS σ ar m) n = gR σ n := by
  intro m
  induction m with
  | zero => rfl
  | succ m ih => exact Eq.trans R_sI_c ih
theorem J_sI_c {σ : St} {a k : Nat} {v : Int32} : gJ (sI σ a k v) = gJ σ := rfl
theorem J_sR_c {σ : St} {a k : Nat} {v : Option Nat} : gJ (sR σ a k v) = gJ σ := rfl
theorem J_flS {σ : St} {ar : Nat} {v : Int32} : ∀ m : Nat, gJ (flS σ ar v m) = gJ σ := by
  intro m
  induction m with
  | zero => rfl
  | succ m ih => exact Eq.trans J_sI_c ih
theorem J_dgS {σ : St} {ar : Nat} : ∀ m : Nat, gJ (dgS σ ar m) = gJ σ := by
  intro m
  induction m with
  | zero => rfl
  | succ m ih => exact Eq.trans J_sI_c ih
theorem J_clr_0 {σ : St} {n : Nat} (h : gJ σ = fun _ _ => 0) : gJ (clr σ n) = fun _ _ => 0 := funext fun a => funext fun b => by
  rw [J_clr, h]
  split <;> rfl
theorem I_sI_s {σ : St} {a k b : Nat} {v : Int32} : gI (sI σ a k v) a b = if b = k then v else gI σ a b := by rw [gI_sI, if_pos rfl]
theorem j_0 : gJ σ00 = fun _ _ => 0 := rfl
theorem j_1 (x : Int32) : gJ (st_1 x) = fun _ _ => 0 := by unfold st_1; exact J_clr_0 (by rw [j_0])
theorem j_2 (x : Int32) : gJ (st_2 x) = fun _ _ => 0 := by unfold st_2; exact J_clr_0 (by rw [j_1 x])
theorem j_3 (x : Int32) : gJ (st_3 x) = fun _ _ => 0 := by unfold st_3; exact J_clr_0 (by rw [j_2 x])
theorem j_4 (x : Int32) : gJ (st_4 x) = fun _ _ => 0 := by unfold st_4; exact J_clr_0 (by rw [j_3 x])
theorem j_5 (x : Int32) : gJ (st_5 x) = fun _ _ => 0 := by unfold st_5; exact J_clr_0 (by rw [j_4 x])
theorem j_6 (x : Int32) : gJ (st_6 x) = fun _ _ => 0 := by unfold st_6; exact J_clr_0 (by rw [J_flS, J_sI_c, j_5 x])
theorem j_7 (x : Int32) : gJ (st_7 x) = fun _ _ => 0 := by unfold st_7; exact J_clr_0 (by rw [j_6 x])
theorem j_8 (x : Int32) : gJ (st_8 x) = fun _ _ => 0 := by unfold st_8; exact J_clr_0 (by rw [j_7 x])
theorem j_9 (x : Int32) : gJ (st_9 x) = fun _ _ => 0 := by unfold st_9; exact J_clr_0 (by rw [j_8 x])
theorem j_10 (x : Int32) : gJ (st_10 x) = fun _ _ => 0 := by unfold st_10; exact J_clr_0 (by rw [J_flS, J_sI_c, j_9 x])
theorem j_11 (x : Int32) : gJ (st_11 x) = fun _ _ => 0 := by unfold st_11; exact J_clr_0 (by rw [j_10 x])
theorem j_12 (x : Int32) : gJ (st_12 x) = fun _ _ => 0 := by unfold st_12; exact J_clr_0 (by rw [j_11 x])
theorem j_13 (x : Int32) : gJ (st_13 x) = fun _ _ => 0 := by unfold st_13; exact J_clr_0 (by rw [j_12 x])
theorem j_14 (x : Int32) : gJ (st_14 x) = fun _ _ => 0 := by unfold st_14; exact J_clr_0 (by rw [j_13 x])
theorem j_15 (x : Int32) : gJ (st_15 x) = fun _ _ => 0 := by unfold st_15; exact J_clr_0 (by rw [j_14 x])
theorem j_16 (x : Int32) : gJ (st_16 x) = fun _ _ => 0 := by unfold st_16; exact J_clr_0 (by rw [j_15 x])
theorem j_17 (x : Int32) : gJ (st_17 x) = fun _ _ => 0 := by unfold st_17; exact J_clr_0 (by rw [j_16 x])
theorem j_18 (x : Int32) : gJ (st_18 x) = fun _ _ => 0 := by unfold st_18; exact J_clr_0 (by rw [j_17 x])
theorem j_19 (x : Int32) : gJ (st_19 x) = fun _ _ => 0 := by unfold st_19; exact J_clr_0 (by rw [J_sR_c, j_18 x])
theorem j_20 (x : Int32) : gJ (st_20 x) = fun _ _ => 0 := by unfold st_20; exact J_clr_0 (by rw [J_dgS, J_sR_c, j_19 x])
theorem j_21 (x : Int32) : gJ (st_21 x) = fun _ _ => 0 := by unfold st_21; exact J_clr_0 (by rw [j_20 x])
theorem j_22 (x : Int32) : gJ (st_22 x) = fun _ _ => 0 := by unfold st_22; exact J_clr_0 (by rw [j_21 x])
theorem j_23 (x : Int32) : gJ (st_23 x) = fun _ _ => 0 := by unfold st_23; exact J_clr_0 (by rw [j_22 x])
theorem j_24 (x : Int32) : gJ (st_24 x) = fun _ _ => 0 := by unfold st_24; exact J_clr_0 (by rw [j_23 x])
theorem j_25 (x : Int32) : gJ (st_25 x) = fun _ _ => 0 := by unfold st_25; exact J_clr_0 (by rw [j_24 x])
theorem j_26 (x : Int32) : gJ (st_26 x) = fun _ _ => 0 := by unfold st_26; exact J_clr_0 (by rw [j_25 x])
theorem j_27 (x : Int32) : gJ (st_27 x) = fun _ _ => 0 := by unfold st_27; exact J_clr_0 (by rw [j_26 x])
theorem j_28 (x : Int32) : gJ (st_28 x) = fun _ _ => 0 := by unfold st_28; exact J_clr_0 (by rw [J_sI_c, j_27 x])
theorem j_29 (x : Int32) : gJ (st_29 x) = fun _ _ => 0 := by unfold st_29; exact J_clr_0 (by rw [j_28 x])
theorem j_30 (x : Int32) : gJ (st_30 x) = fun _ _ => 0 := by unfold st_30; exact J_clr_0 (by rw [j_29 x])
theorem j_31 (x : Int32) : gJ (st_31 x) = fun _ _ => 0 := by unfold st_31; exact J_clr_0 (by rw [j_30 x])
theorem j_32 (x : Int32) : gJ (st_32 x) = fun _ _ => 0 := by unfold st_32; exact J_clr_0 (by rw [j_31 x])
theorem j_33 (x : Int32) : gJ (st_33 x) = fun _ _ => 0 := by unfold st_33; exact J_clr_0 (by rw [j_32 x])
theorem j_34 (x : Int32) : gJ (st_34 x) = fun _ _ => 0 := by unfold st_34; exact J_clr_0 (by rw [j_33 x])
theorem j_35 (x : Int32) : gJ (st_35 x) = fun _ _ => 0 := by unfold st_35; exact J_clr_0 (by rw [j_34 x])
theorem j_36 (x : Int32) : gJ (st_36 x) = fun _ _ => 0 := by unfold st_36; exact J_clr_0 (by rw [j_35 x])
theorem j_37 (x : Int32) : gJ (st_37 x) = fun _ _ => 0 := by unfold st_37; exact J_clr_0 (by rw [j_36 x])
theorem j_38 (x : Int32) : gJ (st_38 x) = fun _ _ => 0 := by unfold st_38; exact J_clr_0 (by rw [j_37 x])
theorem j_39 (x : Int32) : gJ (st_39 x) = fun _ _ => 0 := by unfold st_39; exact J_clr_0 (by rw [J_sI_c, J_sI_c, J_sI_c, j_38 x])
theorem j_40 (x : Int32) : gJ (st_40 x) = fun _ _ => 0 := by unfold st_40; exact J_clr_0 (by rw [j_39 x])
theorem j_41 (x : Int32) : gJ (st_41 x) = fun _ _ => 0 := by unfold st_41; exact J_clr_0 (by rw [j_40 x])
theorem j_42 (x : Int32) : gJ (st_42 x) = fun _ _ => 0 := by unfold st_42; exact J_clr_0 (by rw [j_41 x])
theorem j_43 (x : Int32) : gJ (st_43 x) = fun _ _ => 0 := by unfold st_43; exact J_clr_0 (by rw [j_42 x])
theorem j_44 (x : Int32) : gJ (st_44 x) = fun _ _ => 0 := by unfold st_44; exact J_clr_0 (by rw [j_43 x])
theorem j_45 (x : Int32) : gJ (st_45 x) = fun _ _ => 0 := by unfold st_45; exact J_clr_0 (by rw [J_sI_c, J_sI_c, J_sI_c, j_44 x])
theorem j_46 (x : Int32) : gJ (st_46 x) = fun _ _ => 0 := by unfold st_46; exact J_clr_0 (by rw [j_45 x])
theorem j_47 (x : Int32) : gJ (st_47 x) = fun _ _ => 0 := by unfold st_47; exact J_clr_0 (by rw [j_46 x])
theorem j_48 (x : Int32) : gJ (st_48 x) = fun _ _ => 0 := by unfold st_48; exact J_clr_0 (by rw [j_47 x])
theorem j_49 (x : Int32) : gJ (st_49 x) = fun _ _ => 0 := by unfold st_49; exact J_clr_0 (by rw [j_48 x])
theorem j_50 (x : Int32) : gJ (st_50 x) = fun _ _ => 0 := by unfold st_50; exact J_clr_0 (by rw [j_49 x])
theorem j_51 (x : Int32) : gJ (st_51 x) = fun _ _ => 0 := by unfold st_51; exact J_clr_0 (by rw [j_50 x])
theorem j_52 (x : Int32) : gJ (st_52 x) = fun _ _ => 0 := by unfold st_52; exact J_clr_0 (by rw [j_51 x])
theorem j_53 (x : Int32) : gJ (st_53 x) = fun _ _ => 0 := by unfold st_53; exact J_clr_0 (by rw [j_52 x])
theorem j_54 (x : Int32) : gJ (st_54 x) = fun _ _ => 0 := by unfold st_54; exact J_clr_0 (by rw [j_53 x])
theorem j_55 (x : Int32) : gJ (st_55 x) = fun _ _ => 0 := by unfold st_55; exact J_clr_0 (by rw [j_54 x])
theorem j_56 (x : Int32) : gJ (st_56 x) = fun _ _ => 0 := by unfold st_56; exact J_clr_0 (by rw [j_55 x])
theorem j_57 (x : Int32) : gJ (st_57 x) = fun _ _ => 0 := by unfold st_57; exact J_clr_0 (by rw [j_56 x])
theorem j_58 (x : Int32) : gJ (st_58 x) = fun _ _ => 0 := by unfold st_58; exact J_clr_0 (by rw [j_57 x])
theorem j_59 (x : Int32) : gJ (st_59 x) = fun _ _ => 0 := by unfold st_59; exact J_clr_0 (by rw [j_58 x])
theorem j_60 (x : Int32) : gJ (st_60 x) = fun _ _ => 0 := by unfold st_60; exact J_clr_0 (by rw [j_59 x])
theorem j_61 (x : Int32) : gJ (st_61 x) = fun _ _ => 0 := by unfold st_61; exact J_clr_0 (by rw [j_60 x])
theorem j_62 (x : Int32) : gJ (st_62 x) = fun _ _ => 0 := by unfold st_62; exact J_clr_0 (by rw [j_61 x])
theorem j_63 (x : Int32) : gJ (st_63 x) = fun _ _ => 0 := by unfold st_63; exact J_clr_0 (by rw [j_62 x])
theorem j_64 (x : Int32) : gJ (st_64 x) = fun _ _ => 0 := by unfold st_64; exact J_clr_0 (by rw [j_63 x])
theorem j_65 (x : Int32) : gJ (st_65 x) = fun _ _ => 0 := by unfold st_65; exact J_clr_0 (by rw [j_64 x])
theorem j_66 (x : Int32) : gJ (st_66 x) = fun _ _ => 0 := by unfold st_66; exact J_clr_0 (by rw [j_65 x])
theorem j_67 (x : Int32) : gJ (st_67 x) = fun _ _ => 0 := by unfold st_67; exact J_clr_0 (by rw [j_66 x])
theorem j_68 (x : Int32) : gJ (st_68 x) = fun _ _ => 0 := by unfold st_68; exact J_clr_0 (by rw [j_67 x])
theorem j_69 (x : Int32) : gJ (st_69 x) = fun _ _ => 0 := by unfold st_69; exact J_clr_0 (by rw [j_68 x])
theorem j_70 (x : Int32) : gJ (st_70 x) = fun _ _ => 0 := by unfold st_70; exact J_clr_0 (by rw [j_69 x])
theorem j_71 (x : Int32) : gJ (st_71 x) = fun _ _ => 0 := by unfold st_71; exact J_clr_0 (by rw [j_70 x])
theorem j_72 (x : Int32) : gJ (st_72 x) = fun _ _ => 0 := by unfold st_72; exact J_clr_0 (by rw [J_flS, J_sI_c, j_71 x])
theorem c0_1 (x : Int32) : gI (st_1 x) 0 = fun _ => 0 := by unfold st_1; rw [I_clr_z]
theorem c0_2 (x : Int32) : gI (st_2 x) 0 = fun _ => 0 := by unfold st_2; rw [I_clr_c (by omega), c0_1 x]
theorem c0_3 (x : Int32) : gI (st_3 x) 0 = fun _ => 0 := by unfold st_3; rw [I_clr_c (by omega), c0_2 x]
theorem c0_4 (x : Int32) : gI (st_4 x) 0 = fun _ => 0 := by unfold st_4; rw [I_clr_c (by omega), c0_3 x]
theorem c0_5 (x : Int32) : gI (st_5 x) 0 = fun _ => 0 := by unfold st_5; rw [I_clr_c (by omega), c0_4 x]
theorem c0_6 (x : Int32) : gI (st_6 x) 0 = fun _ => 0 := by unfold st_6; rw [I_clr_c (by omega), flS_c (by omega), g_sI_c (by omega), c0_5 x]
theorem c0_7 (x : Int32) : gI (st_7 x) 0 = fun _ => 0 := by unfold st_7; rw [I_clr_c (by omega), c0_6 x]
theorem c0_8 (x : Int32) : gI (st_8 x) 0 = fun _ => 0 := by unfold st_8; rw [I_clr_c (by omega), c0_7 x]
theorem c0_9 (x : Int32) : gI (st_9 x) 0 = fun _ => 0 := by unfold st_9; rw [I_clr_c (by omega), c0_8 x]
theorem c0_10 (x : Int32) : gI (st_10 x) 0 = fun _ => 0 := by unfold st_10; rw [I_clr_c (by omega), flS_c (by omega), g_sI_c (by omega), c0_9 x]
theorem c0_11 (x : Int32) : gI (st_11 x) 0 = fun _ => 0 := by unfold st_11; rw [I_clr_c (by omega), c0_10 x]
theorem c0_12 (x : Int32) : gI (st_12 x) 0 = fun _ => 0 := by unfold st_12; rw [I_clr_c (by omega), c0_11 x]
theorem c0_13 (x : Int32) : gI (st_13 x) 0 = fun _ => 0 := by unfold st_13; rw [I_clr_c (by omega), c0_12 x]
theorem c0_14 (x : Int32) : gI (st_14 x) 0 = fun _ => 0 := by unfold st_14; rw [I_clr_c (by omega), c0_13 x]
theorem c0_15 (x : Int32) : gI (st_15 x) 0 = fun _ => 0 := by unfold st_15; rw [I_clr_c (by omega), c0_14 x]
theorem c0_16 (x : Int32) : gI (st_16 x) 0 = fun _ => 0 := by unfold st_16; rw [I_clr_c (by omega), c0_15 x]
theorem c0_17 (x : Int32) : gI (st_17 x) 0 = fun _ => 0 := by unfold st_17; rw [I_clr_c (by omega), c0_16 x]
theorem c0_18 (x : Int32) : gI (st_18 x) 0 = fun _ => 0 := by unfold st_18; rw [I_clr_c (by omega), c0_17 x]
theorem c0_19 (x : Int32) : gI (st_19 x) 0 = fun _ => 0 := by unfold st_19; rw [I_clr_c (by omega), I_sR_c, c0_18 x]
theorem c0_20 (x : Int32) : gI (st_20 x) 0 = fun _ => 0 := by unfold st_20; rw [I_clr_c (by omega), dgS_c (by omega), I_sR_c, c0_19 x]
theorem c0_21 (x : Int32) : gI (st_21 x) 0 = fun _ => 0 := by unfold st_21; rw [I_clr_c (by omega), c0_20 x]
theorem c0_22 (x : Int32) : gI (st_22 x) 0 = fun _ => 0 := by unfold st_22; rw [I_clr_c (by omega), c0_21 x]
theorem c0_23 (x : Int32) : gI (st_23 x) 0 = fun _ => 0 := by unfold st_23; rw [I_clr_c (by omega), c0_22 x]
theorem c0_24 (x : Int32) : gI (st_24 x) 0 = fun _ => 0 := by unfold st_24; rw [I_clr_c (by omega), c0_23 x]
theorem c0_25 (x : Int32) : gI (st_25 x) 0 = fun _ => 0 := by unfold st_25; rw [I_clr_c (by omega), c0_24 x]
theorem c0_26 (x : Int32) : gI (st_26 x) 0 = fun _ => 0 := by unfold st_26; rw [I_clr_c (by omega), c0_25 x]
theorem c0_27 (x : Int32) : gI (st_27 x) 0 = fun _ => 0 := by unfold st_27; rw [I_clr_c (by omega), c0_26 x]
theorem c0_28 (x : Int32) : gI (st_28 x) 0 = fun _ => 0 := by unfold st_28; rw [I_clr_c (by omega), g_sI_c (by omega), c0_27 x]
theorem c0_29 (x : Int32) : gI (st_29 x) 0 = fun _ => 0 := by unfold st_29; rw [I_clr_c (by omega), c0_28 x]
theorem c0_30 (x : Int32) : gI (st_30 x) 0 = fun _ => 0 := by unfold st_30; rw [I_clr_c (by omega), c0_29 x]
theorem c0_31 (x : Int32) : gI (st_31 x) 0 = fun _ => 0 := by unfold st_31; rw [I_clr_c (by omega), c0_30 x]
theorem c0_32 (x : Int32) : gI (st_32 x) 0 = fun _ => 0 := by unfold st_32; rw [I_clr_c (by omega), c0_31 x]
theorem c0_33 (x : Int32) : gI (st_33 x) 0 = fun _ => 0 := by unfold st_33; rw [I_clr_c (by omega), c0_32 x]
theorem c0_34 (x : Int32) : gI (st_34 x) 0 = fun _ => 0 := by unfold st_34; rw [I_clr_c (by omega), c0_33 x]
theorem c0_35 (x : Int32) : gI (st_35 x) 0 = fun _ => 0 := by unfold st_35; rw [I_clr_c (by omega), c0_34 x]
theorem c0_36 (x : Int32) : gI (st_36 x) 0 = fun _ => 0 := by unfold st_36; rw [I_clr_c (by omega), c0_35 x]
theorem c0_37 (x : Int32) : gI (st_37 x) 0 = fun _ => 0 := by unfold st_37; rw [I_clr_c (by omega), c0_36 x]
theorem c0_38 (x : Int32) : gI (st_38 x) 0 = fun _ => 0 := by unfold st_38; rw [I_clr_c (by omega), c0_37 x]
theorem c0_39 (x : Int32) : gI (st_39 x) 0 = gI (sI (sI (sI (st_38 x) 0 15 1) 0 16 2) 0 17 1) 0 := by unfold st_39; rw [I_clr_c (by omega)]
theorem c0_40 (x : Int32) : gI (st_40 x) 0 = gI (sI (sI (sI (st_38 x) 0 15 1) 0 16 2) 0 17 1) 0 := by unfold st_40; rw [I_clr_c (by omega), c0_39 x]
theorem c0_41 (x : Int32) : gI (st_41 x) 0 = gI (sI (sI (sI (st_38 x) 0 15 1) 0 16 2) 0 17 1) 0 := by unfold st_41; rw [I_clr_c (by omega), c0_40 x]
theorem c0_42 (x : Int32) : gI (st_42 x) 0 = gI (sI (sI (sI (st_38 x) 0 15 1) 0 16 2) 0 17 1) 0 := by unfold st_42; rw [I_clr_c (by omega), c0_41 x]
theorem c0_43 (x : Int32) : gI (st_43 x) 0 = gI (sI (sI (sI (st_38 x) 0 15 1) 0 16 2) 0 17 1) 0 := by unfold st_43; rw [I_clr_c (by omega), c0_42 x]
theorem c0_44 (x : Int32) : gI (st_44 x) 0 = gI (sI (sI (sI (st_38 x) 0 15 1) 0 16 2) 0 17 1) 0 := by unfold st_44; rw [I_clr_c (by omega), c0_43 x]
theorem c0_45 (x : Int32) : gI (st_45 x) 0 = gI (sI (sI (sI (st_38 x) 0 15 1) 0 16 2) 0 17 1) 0 := by unfold st_45; rw [I_clr_c (by omega), g_sI_c (by omega), g_sI_c (by omega), g_sI_c (by omega), c0_44 x]
theorem c0_46 (x : Int32) : gI (st_46 x) 0 = gI (sI (sI (sI (st_38 x) 0 15 1) 0 16 2) 0 17 1) 0 := by unfold st_46; rw [I_clr_c (by omega), c0_45 x]
theorem c0_47 (x : Int32) : gI (st_47 x) 0 = gI (sI (sI (sI (st_38 x) 0 15 1) 0 16 2) 0 17 1) 0 := by unfold st_47; rw [I_clr_c (by omega), c0_46 x]
theorem c0_48 (x : Int32) : gI (st_48 x) 0 = gI (sI (sI (sI (st_38 x) 0 15 1) 0 16 2) 0 17 1) 0 := by unfold st_48; rw [I_clr_c (by omega), c0_47 x]
theorem c0_49 (x : Int32) : gI (st_49 x) 0 = gI (sI (sI (sI (st_38 x) 0 15 1) 0 16 2) 0 17 1) 0 := by unfold st_49; rw [I_clr_c (by omega), c0_48 x]
theorem c0_50 (x : Int32) : gI (st_50 x) 0 = gI (sI (sI (sI (st_38 x) 0 15 1) 0 16 2) 0 17 1) 0 := by unfold st_50; rw [I_clr_c (by omega), c0_49 x]
theorem c0_51 (x : Int32) : gI (st_51 x) 0 = gI (sI (sI (sI (st_38 x) 0 15 1) 0 16 2) 0 17 1) 0 := by unfold st_51; rw [I_clr_c (by omega), c0_50 x]
theorem c0_52 (x : Int32) : gI (st_52 x) 0 = gI (sI (sI (sI (st_38 x) 0 15 1) 0 16 2) 0 17 1) 0 := by unfold st_52; rw [I_clr_c (by omega), c0_51 x]
theorem c0_53 (x : Int32) : gI (st_53 x) 0 = gI (sI (sI (sI (st_38 x) 0 15 1) 0 16 2) 0 17 1) 0 := by unfold st_53; rw [I_clr_c (by omega), c0_52 x]
theorem c0_54 (x : Int32) : gI (st_54 x) 0 = gI (sI (sI (sI (st_38 x) 0 15 1) 0 16 2) 0 17 1) 0 := by unfold st_54; rw [I_clr_c (by omega), c0_53 x]
theorem c0_55 (x : Int32) : gI (st_55 x) 0 = gI (sI (sI (sI (st_38 x) 0 15 1) 0 16 2) 0 17 1) 0 := by unfold st_55; rw [I_clr_c (by omega), c0_54 x]
theorem c0_56 (x : Int32) : gI (st_56 x) 0 = gI (sI (sI (sI (st_38 x) 0 15 1) 0 16 2) 0 17 1) 0 := by unfold st_56; rw [I_clr_c (by omega), c0_55 x]
theorem c0_57 (x : Int32) : gI (st_57 x) 0 = gI (sI (sI (sI (st_38 x) 0 15 1) 0 16 2) 0 17 1) 0 := by unfold st_57; rw [I_clr_c (by omega), c0_56 x]
theorem c0_58 (x : Int32) : gI (st_58 x) 0 = gI (sI (sI (sI (st_38 x) 0 15 1) 0 16 2) 0 17 1) 0 := by unfold st_58; rw [I_clr_c (by omega), c0_57 x]
theorem c0_59 (x : Int32) : gI (st_59 x) 0 = gI (sI (sI (sI (st_38 x) 0 15 1) 0 16 2) 0 17 1) 0 := by unfold st_59; rw [I_clr_c (by omega), c0_58 x]
theorem c0_60 (x : Int32) : gI (st_60 x) 0 = gI (sI (sI (sI (st_38 x) 0 15 1) 0 16 2) 0 17 1) 0 := by unfold st_60; rw [I_clr_c (by omega), c0_59 x]
theorem c0_61 (x : Int32) : gI (st_61 x) 0 = gI (sI (sI (sI (st_38 x) 0 15 1) 0 16 2) 0 17 1) 0 := by unfold st_61; rw [I_clr_c (by omega), c0_60 x]
theorem c0_62 (x : Int32) : gI (st_62 x) 0 = gI (sI (sI (sI (st_38 x) 0 15 1) 0 16 2) 0 17 1) 0 := by unfold st_62; rw [I_clr_c (by omega), c0_61 x]
theorem c0_63 (x : Int32) : gI (st_63 x) 0 = gI (sI (sI (sI (st_38 x) 0 15 1) 0 16 2) 0 17 1) 0 := by unfold st_63; rw [I_clr_c (by omega), c0_62 x]
theorem c0_64 (x : Int32) : gI (st_64 x) 0 = gI (sI (sI (sI (st_38 x) 0 15 1) 0 16 2) 0 17 1) 0 := by unfold st_64; rw [I_clr_c (by omega), c0_63 x]
theorem c0_65 (x : Int32) : gI (st_65 x) 0 = gI (sI (sI (sI (st_38 x) 0 15 1) 0 16 2) 0 17 1) 0 := by unfold st_65; rw [I_clr_c (by omega), c0_64 x]
theorem c0_66 (x : Int32) : gI (st_66 x) 0 = gI (sI (sI (sI (st_38 x) 0 15 1) 0 16 2) 0 17 1) 0 := by unfold st_66; rw [I_clr_c (by omega), c0_65 x]
theorem c0_67 (x : Int32) : gI (st_67 x) 0 = gI (sI (sI (sI (st_38 x) 0 15 1) 0 16 2) 0 17 1) 0 := by unfold st_67; rw [I_clr_c (by omega), c0_66 x]
theorem c0_68 (x : Int32) : gI (st_68 x) 0 = gI (sI (sI (sI (st_38 x) 0 15 1) 0 16 2) 0 17 1) 0 := by unfold st_68; rw [I_clr_c (by omega), c0_67 x]
theorem c0_69 (x : Int32) : gI (st_69 x) 0 = gI (sI (sI (sI (st_38 x) 0 15 1) 0 16 2) 0 17 1) 0 := by unfold st_69; rw [I_clr_c (by omega), c0_68 x]
theorem c0_70 (x : Int32) : gI (st_70 x) 0 = gI (sI (sI (sI (st_38 x) 0 15 1) 0 16 2) 0 17 1) 0 := by unfold st_70; rw [I_clr_c (by omega), c0_69 x]
theorem c0_71 (x : Int32) : gI (st_71 x) 0 = gI (sI (sI (sI (st_38 x) 0 15 1) 0 16 2) 0 17 1) 0 := by unfold st_71; rw [I_clr_c (by omega), c0_70 x]
theorem c0_72 (x : Int32) : gI (st_72 x) 0 = gI (sI (sI (sI (st_38 x) 0 15 1) 0 16 2) 0 17 1) 0 := by unfold st_72; rw [I_clr_c (by omega), flS_c (by omega), g_sI_c (by omega), c0_71 x]
theorem c1_2 (x : Int32) : gI (st_2 x) 1 = fun _ => 0 := by unfold st_2; rw [I_clr_z]
theorem c1_3 (x : Int32) : gI (st_3 x) 1 = fun _ => 0 := by unfold st_3; rw [I_clr_c (by omega), c1_2 x]
theorem c1_4 (x : Int32) : gI (st_4 x) 1 = fun _ => 0 := by unfold st_4; rw [I_clr_c (by omega), c1_3 x]
theorem c1_5 (x : Int32) : gI (st_5 x) 1 = fun _ => 0 := by unfold st_5; rw [I_clr_c (by omega), c1_4 x]
theorem c1_6 (x : Int32) : gI (st_6 x) 1 = gI (sI (st_5 x) 1 0 (mxI 2 (mnI 12 x))) 1 := by unfold st_6; rw [I_clr_c (by omega), flS_c (by omega)]
theorem c1_7 (x : Int32) : gI (st_7 x) 1 = gI (sI (st_5 x) 1 0 (mxI 2 (mnI 12 x))) 1 := by unfold st_7; rw [I_clr_c (by omega), c1_6 x]
theorem c1_8 (x : Int32) : gI (st_8 x) 1 = gI (sI (st_5 x) 1 0 (mxI 2 (mnI 12 x))) 1 := by unfold st_8; rw [I_clr_c (by omega), c1_7 x]
theorem c1_9 (x : Int32) : gI (st_9 x) 1 = gI (sI (st_5 x) 1 0 (mxI 2 (mnI 12 x))) 1 := by unfold st_9; rw [I_clr_c (by omega), c1_8 x]
theorem c1_10 (x : Int32) : gI (st_10 x) 1 = gI (sI (st_5 x) 1 0 (mxI 2 (mnI 12 x))) 1 := by unfold st_10; rw [I_clr_c (by omega), flS_c (by omega), g_sI_c (by omega), c1_9 x]
theorem c1_11 (x : Int32) : gI (st_11 x) 1 = gI (sI (st_5 x) 1 0 (mxI 2 (mnI 12 x))) 1 := by unfold st_11; rw [I_clr_c (by omega), c1_10 x]
theorem c1_12 (x : Int32) : gI (st_12 x) 1 = gI (sI (st_5 x) 1 0 (mxI 2 (mnI 12 x))) 1 := by unfold st_12; rw [I_clr_c (by omega), c1_11 x]
theorem c1_13 (x : Int32) : gI (st_13 x) 1 = gI (sI (st_5 x) 1 0 (mxI 2 (mnI 12 x))) 1 := by unfold st_13; rw [I_clr_c (by omega), c1_12 x]
theorem c1_14 (x : Int32) : gI (st_14 x) 1 = gI (sI (st_5 x) 1 0 (mxI 2 (mnI 12 x))) 1 := by unfold st_14; rw [I_clr_c (by omega), c1_13 x]
theorem c1_15 (x : Int32) : gI (st_15 x) 1 = gI (sI (st_5 x) 1 0 (mxI 2 (mnI 12 x))) 1 := by unfold st_15; rw [I_clr_c (by omega), c1_14 x]
theorem c1_16 (x : Int32) : gI (st_16 x) 1 = gI (sI (st_5 x) 1 0 (mxI 2 (mnI 12 x))) 1 := by unfold st_16; rw [I_clr_c (by omega), c1_15 x]
theorem c1_17 (x : Int32) : gI (st_17 x) 1 = gI (sI (st_5 x) 1 0 (mxI 2 (mnI 12 x))) 1 := by unfold st_17; rw [I_clr_c (by omega), c1_16 x]
theorem c1_18 (x : Int32) : gI (st_18 x) 1 = gI (sI (st_5 x) 1 0 (mxI 2 (mnI 12 x))) 1 := by unfold st_18; rw [I_clr_c (by omega), c1_17 x]
theorem c1_19 (x : Int32) : gI (st_19 x) 1 = gI (sI (st_5 x) 1 0 (mxI 2 (mnI 12 x))) 1 := by unfold st_19; rw [I_clr_c (by omega), I_sR_c, c1_18 x]
theorem c1_20 (x : Int32) : gI (st_20 x) 1 = gI (sI (st_5 x) 1 0 (mxI 2 (mnI 12 x))) 1 := by unfold st_20; rw [I_clr_c (by omega), dgS_c (by omega), I_sR_c, c1_19 x]
theorem c1_21 (x : Int32) : gI (st_21 x) 1 = gI (sI (st_5 x) 1 0 (mxI 2 (mnI 12 x))) 1 := by unfold st_21; rw [I_clr_c (by omega), c1_20 x]
theorem c1_22 (x : Int32) : gI (st_22 x) 1 = gI (sI (st_5 x) 1 0 (mxI 2 (mnI 12 x))) 1 := by unfold st_22; rw [I_clr_c (by omega), c1_21 x]
theorem c1_23 (x : Int32) : gI (st_23 x) 1 = gI (sI (st_5 x) 1 0 (mxI 2 (mnI 12 x))) 1 := by unfold st_23; rw [I_clr_c (by omega), c1_22 x]
theorem c1_24 (x : Int32) : gI (st_24 x) 1 = gI (sI (st_5 x) 1 0 (mxI 2 (mnI 12 x))) 1 := by unfold st_24; rw [I_clr_c (by omega), c1_23 x]
theorem c1_25 (x : Int32) : gI (st_25 x) 1 = gI (sI (st_5 x) 1 0 (mxI 2 (mnI 12 x))) 1 := by unfold st_25; rw [I_clr_c (by omega), c1_24 x]
theorem c1_26 (x : Int32) : gI (st_26 x) 1 = gI (sI (st_5 x) 1 0 (mxI 2 (mnI 12 x))) 1 := by unfold st_26; rw [I_clr_c (by omega), c1_25 x]
theorem c1_27 (x : Int32) : gI (st_27 x) 1 = gI (sI (st_5 x) 1 0 (mxI 2 (mnI 12 x))) 1 := by unfold st_27; rw [I_clr_c (by omega), c1_26 x]
theorem c1_28 (x : Int32) : gI (st_28 x) 1 = gI (sI (st_5 x) 1 0 (mxI 2 (mnI 12 x))) 1 := by unfold st_28; rw [I_clr_c (by omega), g_sI_c (by omega), c1_27 x]
theorem c1_29 (x : Int32) : gI (st_29 x) 1 = gI (sI (st_5 x) 1 0 (mxI 2 (mnI 12 x))) 1 := by unfold st_29; rw [I_clr_c (by omega), c1_28 x]
theorem c1_30 (x : Int32) : gI (st_30 x) 1 = gI (sI (st_5 x) 1 0 (mxI 2 (mnI 12 x))) 1 := by unfold st_30; rw [I_clr_c (by omega), c1_29 x]
theorem c1_31 (x : Int32) : gI (st_31 x) 1 = gI (sI (st_5 x) 1 0 (mxI 2 (mnI 12 x))) 1 := by unfold st_31; rw [I_clr_c (by omega), c1_30 x]
theorem c1_32 (x : Int32) : gI (st_32 x) 1 = gI (sI (st_5 x) 1 0 (mxI 2 (mnI 12 x))) 1 := by unfold st_32; rw [I_clr_c (by omega), c1_31 x]
theorem c1_33 (x : Int32) : gI (st_33 x) 1 = gI (sI (st_5 x) 1 0 (mxI 2 (mnI 12 x))) 1 := by unfold st_33; rw [I_clr_c (by omega), c1_32 x]
theorem c1_34 (x : Int32) : gI (st_34 x) 1 = gI (sI (st_5 x) 1 0 (mxI 2 (mnI 12 x))) 1 := by unfold st_34; rw [I_clr_c (by omega), c1_33 x]
theorem c1_35 (x : Int32) : gI (st_35 x) 1 = gI (sI (st_5 x) 1 0 (mxI 2 (mnI 12 x))) 1 := by unfold st_35; rw [I_clr_c (by omega), c1_34 x]
theorem c1_36 (x : Int32) : gI (st_36 x) 1 = gI (sI (st_5 x) 1 0 (mxI 2 (mnI 12 x))) 1 := by unfold st_36; rw [I_clr_c (by omega), c1_35 x]
theorem c1_37 (x : Int32) : gI (st_37 x) 1 = gI (sI (st_5 x) 1 0 (mxI 2 (mnI 12 x))) 1 := by unfold st_37; rw [I_clr_c (by omega), c1_36 x]
theorem c1_38 (x : Int32) : gI (st_38 x) 1 = gI (sI (st_5 x) 1 0 (mxI 2 (mnI 12 x))) 1 := by unfold st_38; rw [I_clr_c (by omega), c1_37 x]
theorem c1_39 (x : Int32) : gI (st_39 x) 1 = gI (sI (st_5 x) 1 0 (mxI 2 (mnI 12 x))) 1 := by unfold st_39; rw [I_clr_c (by omega), g_sI_c (by omega), g_sI_c (by omega), g_sI_c (by omega), c1_38 x]
theorem c1_40 (x : Int32) : gI (st_40 x) 1 = gI (sI (st_5 x) 1 0 (mxI 2 (mnI 12 x))) 1 := by unfold st_40; rw [I_clr_c (by omega), c1_39 x]
theorem c1_41 (x : Int32) : gI (st_41 x) 1 = gI (sI (st_5 x) 1 0 (mxI 2 (mnI 12 x))) 1 := by unfold st_41; rw [I_clr_c (by omega), c1_40 x]
theorem c1_42 (x : Int32) : gI (st_42 x) 1 = gI (sI (st_5 x) 1 0 (mxI 2 (mnI 12 x))) 1 := by unfold st_42; rw [I_clr_c (by omega), c1_41 x]
theorem c1_43 (x : Int32) : gI (st_43 x) 1 = gI (sI (st_5 x) 1 0 (mxI 2 (mnI 12 x))) 1 := by unfold st_43; rw [I_clr_c (by omega), c1_42 x]
theorem c1_44 (x : Int32) : gI (st_44 x) 1 = gI (sI (st_5 x) 1 0 (mxI 2 (mnI 12 x))) 1 := by unfold st_44; rw [I_clr_c (by omega), c1_43 x]
theorem c1_45 (x : Int32) : gI (st_45 x) 1 = gI (sI (st_5 x) 1 0 (mxI 2 (mnI 12 x))) 1 := by unfold st_45; rw [I_clr_c (by omega), g_sI_c (by omega), g_sI_c (by omega), g_sI_c (by omega), c1_44 x]
theorem c1_46 (x : Int32) : gI (st_46 x) 1 = gI (sI (st_5 x) 1 0 (mxI 2 (mnI 12 x))) 1 := by unfold st_46; rw [I_clr_c (by omega), c1_45 x]
theorem c1_47 (x : Int32) : gI (st_47 x) 1 = gI (sI (st_5 x) 1 0 (mxI 2 (mnI 12 x))) 1 := by unfold st_47; rw [I_clr_c (by omega), c1_46 x]
theorem c1_48 (x : Int32) : gI (st_48 x) 1 = gI (sI (st_5 x) 1 0 (mxI 2 (mnI 12 x))) 1 := by unfold st_48; rw [I_clr_c (by omega), c1_47 x]
theorem c1_49 (x : Int32) : gI (st_49 x) 1 = gI (sI (st_5 x) 1 0 (mxI 2 (mnI 12 x))) 1 := by unfold st_49; rw [I_clr_c (by omega), c1_48 x]
theorem c1_50 (x : Int32) : gI (st_50 x) 1 = gI (sI (st_5 x) 1 0 (mxI 2 (mnI 12 x))) 1 := by unfold st_50; rw [I_clr_c (by omega), c1_49 x]
theorem c1_51 (x : Int32) : gI (st_51 x) 1 = gI (sI (st_5 x) 1 0 (mxI 2 (mnI 12 x))) 1 := by unfold st_51; rw [I_clr_c (by omega), c1_50 x]
theorem c1_52 (x : Int32) : gI (st_52 x) 1 = gI (sI (st_5 x) 1 0 (mxI 2 (mnI 12 x))) 1 := by unfold st_52; rw [I_clr_c (by omega), c1_51 x]
theorem c1_53 (x : Int32) : gI (st_53 x) 1 = gI (sI (st_5 x) 1 0 (mxI 2 (mnI 12 x))) 1 := by unfold st_53; rw [I_clr_c (by omega), c1_52 x]
theorem c1_54 (x : Int32) : gI (st_54 x) 1 = gI (sI (st_5 x) 1 0 (mxI 2 (mnI 12 x))) 1 := by unfold st_54; rw [I_clr_c (by omega), c1_53 x]
theorem c1_55 (x : Int32) : gI (st_55 x) 1 = gI (sI (st_5 x) 1 0 (mxI 2 (mnI 12 x))) 1 := by unfold st_55; rw [I_clr_c (by omega), c1_54 x]
theorem c1_56 (x : Int32) : gI (st_56 x) 1 = gI (sI (st_5 x) 1 0 (mxI 2 (mnI 12 x))) 1 := by unfold st_56; rw [I_clr_c (by omega), c1_55 x]
theorem c1_57 (x : Int32) : gI (st_57 x) 1 = gI (sI (st_5 x) 1 0 (mxI 2 (mnI 12 x))) 1 := by unfold st_57; rw [I_clr_c (by omega), c1_56 x]
theorem c1_58 (x : Int32) : gI (st_58 x) 1 = gI (sI (st_5 x) 1 0 (mxI 2 (mnI 12 x))) 1 := by unfold st_58; rw [I_clr_c (by omega), c1_57 x]
theorem c1_59 (x : Int32) : gI (st_59 x) 1 = gI (sI (st_5 x) 1 0 (mxI 2 (mnI 12 x))) 1 := by unfold st_59; rw [I_clr_c (by omega), c1_58 x]
theorem c1_60 (x : Int32) : gI (st_60 x) 1 = gI (sI (st_5 x) 1 0 (mxI 2 (mnI 12 x))) 1 := by unfold st_60; rw [I_clr_c (by omega), c1_59 x]
theorem c1_61 (x : Int32) : gI (st_61 x) 1 = gI (sI (st_5 x) 1 0 (mxI 2 (mnI 12 x))) 1 := by unfold st_61; rw [I_clr_c (by omega), c1_60 x]
theorem c1_62 (x : Int32) : gI (st_62 x) 1 = gI (sI (st_5 x) 1 0 (mxI 2 (mnI 12 x))) 1 := by unfold st_62; rw [I_clr_c (by omega), c1_61 x]
theorem c1_63 (x : Int32) : gI (st_63 x) 1 = gI (sI (st_5 x) 1 0 (mxI 2 (mnI 12 x))) 1 := by unfold st_63; rw [I_clr_c (by omega), c1_62 x]
theorem c1_64 (x : Int32) : gI (st_64 x) 1 = gI (sI (st_5 x) 1 0 (mxI 2 (mnI 12 x))) 1 := by unfold st_64; rw [I_clr_c (by omega), c1_63 x]
theorem c1_65 (x : Int32) : gI (st_65 x) 1 = gI (sI (st_5 x) 1 0 (mxI 2 (mnI 12 x))) 1 := by unfold st_65; rw [I_clr_c (by omega), c1_64 x]
theorem c1_66 (x : Int32) : gI (st_66 x) 1 = gI (sI (st_5 x) 1 0 (mxI 2 (mnI 12 x))) 1 := by unfold st_66; rw [I_clr_c (by omega), c1_65 x]
theorem c1_67 (x : Int32) : gI (st_67 x) 1 = gI (sI (st_5 x) 1 0 (mxI 2 (mnI 12 x))) 1 := by unfold st_67; rw [I_clr_c (by omega), c1_66 x]
theorem c1_68 (x : Int32) : gI (st_68 x) 1 = gI (sI (st_5 x) 1 0 (mxI 2 (mnI 12 x))) 1 := by unfold st_68; rw [I_clr_c (by omega), c1_67 x]
theorem c1_69 (x : Int32) : gI (st_69 x) 1 = gI (sI (st_5 x) 1 0 (mxI 2 (mnI 12 x))) 1 := by unfold st_69; rw [I_clr_c (by omega), c1_68 x]
theorem c1_70 (x : Int32) : gI (st_70 x) 1 = gI (sI (st_5 x) 1 0 (mxI 2 (mnI 12 x))) 1 := by unfold st_70; rw [I_clr_c (by omega), c1_69 x]
theorem c1_71 (x : Int32) : gI (st_71 x) 1 = gI (sI (st_5 x) 1 0 (mxI 2 (mnI 12 x))) 1 := by unfold st_71; rw [I_clr_c (by omega), c1_70 x]
theorem c1_72 (x : Int32) : gI (st_72 x) 1 = gI (sI (st_5 x) 1 0 (mxI 2 (mnI 12 x))) 1 := by unfold st_72; rw [I_clr_c (by omega), flS_c (by omega), g_sI_c (by omega), c1_71 x]
theorem c2_3 (x : Int32) : gI (st_3 x) 2 = fun _ => 0 := by unfold st_3; rw [I_clr_z]
theorem c2_4 (x : Int32) : gI (st_4 x) 2 = fun _ => 0 := by unfold st_4; rw [I_clr_c (by omega), c2_3 x]
theorem c2_5 (x : Int32) : gI (st_5 x) 2 = fun _ => 0 := by unfold st_5; rw [I_clr_c (by omega), c2_4 x]
theorem c2_6 (x : Int32) : gI (st_6 x) 2 = fun _ => 0 := by unfold st_6; rw [I_clr_c (by omega), flS_c (by omega), g_sI_c (by omega), c2_5 x]
theorem c2_7 (x : Int32) : gI (st_7 x) 2 = fun _ => 0 := by unfold st_7; rw [I_clr_c (by omega), c2_6 x]
theorem c2_8 (x : Int32) : gI (st_8 x) 2 = fun _ => 0 := by unfold st_8; rw [I_clr_c (by omega), c2_7 x]
theorem c2_9 (x : Int32) : gI (st_9 x) 2 = fun _ => 0 := by unfold st_9; rw [I_clr_c (by omega), c2_8 x]
theorem c2_10 (x : Int32) : gI (st_10 x) 2 = fun _ => 0 := by unfold st_10; rw [I_clr_c (by omega), flS_c (by omega), g_sI_c (by omega), c2_9 x]
theorem c2_11 (x : Int32) : gI (st_11 x) 2 = fun _ => 0 := by unfold st_11; rw [I_clr_c (by omega), c2_10 x]
theorem c2_12 (x : Int32) : gI (st_12 x) 2 = fun _ => 0 := by unfold st_12; rw [I_clr_c (by omega), c2_11 x]
theorem c2_13 (x : Int32) : gI (st_13 x) 2 = fun _ => 0 := by unfold st_13; rw [I_clr_c (by omega), c2_12 x]
theorem c2_14 (x : Int32) : gI (st_14 x) 2 = fun _ => 0 := by unfold st_14; rw [I_clr_c (by omega), c2_13 x]
theorem c2_15 (x : Int32) : gI (st_15 x) 2 = fun _ => 0 := by unfold st_15; rw [I_clr_c (by omega), c2_14 x]
theorem c2_16 (x : Int32) : gI (st_16 x) 2 = fun _ => 0 := by unfold st_16; rw [I_clr_c (by omega), c2_15 x]
theorem c2_17 (x : Int32) : gI (st_17 x) 2 = fun _ => 0 := by unfold st_17; rw [I_clr_c (by omega), c2_16 x]
theorem c2_18 (x : Int32) : gI (st_18 x) 2 = fun _ => 0 := by unfold st_18; rw [I_clr_c (by omega), c2_17 x]
theorem c2_19 (x : Int32) : gI (st_19 x) 2 = fun _ => 0 := by unfold st_19; rw [I_clr_c (by omega), I_sR_c, c2_18 x]
theorem c2_20 (x : Int32) : gI (st_20 x) 2 = fun _ => 0 := by unfold st_20; rw [I_clr_c (by omega), dgS_c (by omega), I_sR_c, c2_19 x]
theorem c2_21 (x : Int32) : gI (st_21 x) 2 = fun _ => 0 := by unfold st_21; rw [I_clr_c (by omega), c2_20 x]
theorem c2_22 (x : Int32) : gI (st_22 x) 2 = fun _ => 0 := by unfold st_22; rw [I_clr_c (by omega), c2_21 x]
theorem c2_23 (x : Int32) : gI (st_23 x) 2 = fun _ => 0 := by unfold st_23; rw [I_clr_c (by omega), c2_22 x]
theorem c2_24 (x : Int32) : gI (st_24 x) 2 = fun _ => 0 := by unfold st_24; rw [I_clr_c (by omega), c2_23 x]
theorem c2_25 (x : Int32) : gI (st_25 x) 2 = fun _ => 0 := by unfold st_25; rw [I_clr_c (by omega), c2_24 x]
theorem c2_26 (x : Int32) : gI (st_26 x) 2 = fun _ => 0 := by unfold st_26; rw [I_clr_c (by omega), c2_25 x]
theorem c2_27 (x : Int32) : gI (st_27 x) 2 = fun _ => 0 := by unfold st_27; rw [I_clr_c (by omega), c2_26 x]
theorem c2_28 (x : Int32) : gI (st_28 x) 2 = fun _ => 0 := by unfold st_28; rw [I_clr_c (by omega), g_sI_c (by omega), c2_27 x]
theorem c2_29 (x : Int32) : gI (st_29 x) 2 = fun _ => 0 := by unfold st_29; rw [I_clr_c (by omega), c2_28 x]
theorem c2_30 (x : Int32) : gI (st_30 x) 2 = fun _ => 0 := by unfold st_30; rw [I_clr_c (by omega), c2_29 x]
theorem c2_31 (x : Int32) : gI (st_31 x) 2 = fun _ => 0 := by unfold st_31; rw [I_clr_c (by omega), c2_30 x]
theorem c2_32 (x : Int32) : gI (st_32 x) 2 = fun _ => 0 := by unfold st_32; rw [I_clr_c (by omega), c2_31 x]
theorem c2_33 (x : Int32) : gI (st_33 x) 2 = fun _ => 0 := by unfold st_33; rw [I_clr_c (by omega), c2_32 x]
theorem c2_34 (x : Int32) : gI (st_34 x) 2 = fun _ => 0 := by unfold st_34; rw [I_clr_c (by omega), c2_33 x]
theorem c2_35 (x : Int32) : gI (st_35 x) 2 = fun _ => 0 := by unfold st_35; rw [I_clr_c (by omega), c2_34 x]
theorem c2_36 (x : Int32) : gI (st_36 x) 2 = fun _ => 0 := by unfold st_36; rw [I_clr_c (by omega), c2_35 x]
theorem c2_37 (x : Int32) : gI (st_37 x) 2 = fun _ => 0 := by unfold st_37; rw [I_clr_c (by omega), c2_36 x]
theorem c2_38 (x : Int32) : gI (st_38 x) 2 = fun _ => 0 := by unfold st_38; rw [I_clr_c (by omega), c2_37 x]
theorem c2_39 (x : Int32) : gI (st_39 x) 2 = fun _ => 0 := by unfold st_39; rw [I_clr_c (by omega), g_sI_c (by omega), g_sI_c (by omega), g_sI_c (by omega), c2_38 x]
theorem c2_40 (x : Int32) : gI (st_40 x) 2 = fun _ => 0 := by unfold st_40; rw [I_clr_c (by omega), c2_39 x]
theorem c2_41 (x : Int32) : gI (st_41 x) 2 = fun _ => 0 := by unfold st_41; rw [I_clr_c (by omega), c2_40 x]
theorem c2_42 (x : Int32) : gI (st_42 x) 2 = fun _ => 0 := by unfold st_42; rw [I_clr_c (by omega), c2_41 x]
theorem c2_43 (x : Int32) : gI (st_43 x) 2 = fun _ => 0 := by unfold st_43; rw [I_clr_c (by omega), c2_42 x]
theorem c2_44 (x : Int32) : gI (st_44 x) 2 = fun _ => 0 := by unfold st_44; rw [I_clr_c (by omega), c2_43 x]
theorem c2_45 (x : Int32) : gI (st_45 x) 2 = fun _ => 0 := by unfold st_45; rw [I_clr_c (by omega), g_sI_c (by omega), g_sI_c (by omega), g_sI_c (by omega), c2_44 x]
theorem c2_46 (x : Int32) : gI (st_46 x) 2 = fun _ => 0 := by unfold st_46; rw [I_clr_c (by omega), c2_45 x]
theorem c2_47 (x : Int32) : gI (st_47 x) 2 = fun _ => 0 := by unfold st_47; rw [I_clr_c (by omega), c2_46 x]
theorem c2_48 (x : Int32) : gI (st_48 x) 2 = fun _ => 0 := by unfold st_48; rw [I_clr_c (by omega), c2_47 x]
theorem c2_49 (x : Int32) : gI (st_49 x) 2 = fun _ => 0 := by unfold st_49; rw [I_clr_c (by omega), c2_48 x]
theorem c2_50 (x : Int32) : gI (st_50 x) 2 = fun _ => 0 := by unfold st_50; rw [I_clr_c (by omega), c2_49 x]
theorem c2_51 (x : Int32) : gI (st_51 x) 2 = fun _ => 0 := by unfold st_51; rw [I_clr_c (by omega), c2_50 x]
theorem c2_52 (x : Int32) : gI (st_52 x) 2 = fun _ => 0 := by unfold st_52; rw [I_clr_c (by omega), c2_51 x]
theorem c2_53 (x : Int32) : gI (st_53 x) 2 = fun _ => 0 := by unfold st_53; rw [I_clr_c (by omega), c2_52 x]
theorem c2_54 (x : Int32) : gI (st_54 x) 2 = fun _ => 0 := by unfold st_54; rw [I_clr_c (by omega), c2_53 x]
theorem c2_55 (x : Int32) : gI (st_55 x) 2 = fun _ => 0 := by unfold st_55; rw [I_clr_c (by omega), c2_54 x]
theorem c2_56 (x : Int32) : gI (st_56 x) 2 = fun _ => 0 := by unfold st_56; rw [I_clr_c (by omega), c2_55 x]
theorem c2_57 (x : Int32) : gI (st_57 x) 2 = fun _ => 0 := by unfold st_57; rw [I_clr_c (by omega), c2_56 x]
theorem c2_58 (x : Int32) : gI (st_58 x) 2 = fun _ => 0 := by unfold st_58; rw [I_clr_c (by omega), c2_57 x]
theorem c2_59 (x : Int32) : gI (st_59 x) 2 = fun _ => 0 := by unfold st_59; rw [I_clr_c (by omega), c2_58 x]
theorem c2_60 (x : Int32) : gI (st_60 x) 2 = fun _ => 0 := by unfold st_60; rw [I_clr_c (by omega), c2_59 x]
theorem c2_61 (x : Int32) : gI (st_61 x) 2 = fun _ => 0 := by unfold st_61; rw [I_clr_c (by omega), c2_60 x]
theorem c2_62 (x : Int32) : gI (st_62 x) 2 = fun _ => 0 := by unfold st_62; rw [I_clr_c (by omega), c2_61 x]
theorem c2_63 (x : Int32) : gI (st_63 x) 2 = fun _ => 0 := by unfold st_63; rw [I_clr_c (by omega), c2_62 x]
theorem c2_64 (x : Int32) : gI (st_64 x) 2 = fun _ => 0 := by unfold st_64; rw [I_clr_c (by omega), c2_63 x]
theorem c2_65 (x : Int32) : gI (st_65 x) 2 = fun _ => 0 := by unfold st_65; rw [I_clr_c (by omega), c2_64 x]
theorem c2_66 (x : Int32) : gI (st_66 x) 2 = fun _ => 0 := by unfold st_66; rw [I_clr_c (by omega), c2_65 x]
theorem c2_67 (x : Int32) : gI (st_67 x) 2 = fun _ => 0 := by unfold st_67; rw [I_clr_c (by omega), c2_66 x]
theorem c2_68 (x : Int32) : gI (st_68 x) 2 = fun _ => 0 := by unfold st_68; rw [I_clr_c (by omega), c2_67 x]
theorem c2_69 (x : Int32) : gI (st_69 x) 2 = fun _ => 0 := by unfold st_69; rw [I_clr_c (by omega), c2_68 x]
theorem c2_70 (x : Int32) : gI (st_70 x) 2 = fun _ => 0 := by unfold st_70; rw [I_clr_c (by omega), c2_69 x]
theorem c2_71 (x : Int32) : gI (st_71 x) 2 = fun _ => 0 := by unfold st_71; rw [I_clr_c (by omega), c2_70 x]
theorem c2_72 (x : Int32) : gI (st_72 x) 2 = fun _ => 0 := by unfold st_72; rw [I_clr_c (by omega), flS_c (by omega), g_sI_c (by omega), c2_71 x]
theorem c3_4 (x : Int32) : gI (st_4 x) 3 = fun _ => 0 := by unfold st_4; rw [I_clr_z]
theorem c3_5 (x : Int32) : gI (st_5 x) 3 = fun _ => 0 := by unfold st_5; rw [I_clr_c (by omega), c3_4 x]
theorem c3_6 (x : Int32) : gI (st_6 x) 3 = gI (flS (sI (st_5 x) 1 0 (mxI 2 (mnI 12 x))) 3 9 12) 3 := by unfold st_6; rw [I_clr_c (by omega)]
theorem c3_7 (x : Int32) : gI (st_7 x) 3 = gI (flS (sI (st_5 x) 1 0 (mxI 2 (mnI 12 x))) 3 9 12) 3 := by unfold st_7; rw [I_clr_c (by omega), c3_6 x]
theorem c3_8 (x : Int32) : gI (st_8 x) 3 = gI (flS (sI (st_5 x) 1 0 (mxI 2 (mnI 12 x))) 3 9 12) 3 := by unfold st_8; rw [I_clr_c (by omega), c3_7 x]
theorem c3_9 (x : Int32) : gI (st_9 x) 3 = gI (flS (sI (st_5 x) 1 0 (mxI 2 (mnI 12 x))) 3 9 12) 3 := by unfold st_9; rw [I_clr_c (by omega), c3_8 x]
theorem c3_10 (x : Int32) : gI (st_10 x) 3 = gI (flS (sI (st_5 x) 1 0 (mxI 2 (mnI 12 x))) 3 9 12) 3 := by unfold st_10; rw [I_clr_c (by omega), flS_c (by omega), g_sI_c (by omega), c3_9 x]
theorem c3_11 (x : Int32) : gI (st_11 x) 3 = gI (flS (sI (st_5 x) 1 0 (mxI 2 (mnI 12 x))) 3 9 12) 3 := by unfold st_11; rw [I_clr_c (by omega), c3_10 x]
theorem c3_12 (x : Int32) : gI (st_12 x) 3 = gI (flS (sI (st_5 x) 1 0 (mxI 2 (mnI 12 x))) 3 9 12) 3 := by unfold st_12; rw [I_clr_c (by omega), c3_11 x]
theorem c3_13 (x : Int32) : gI (st_13 x) 3 = gI (flS (sI (st_5 x) 1 0 (mxI 2 (mnI 12 x))) 3 9 12) 3 := by unfold st_13; rw [I_clr_c (by omega), c3_12 x]
theorem c3_14 (x : Int32) : gI (st_14 x) 3 = gI (flS (sI (st_5 x) 1 0 (mxI 2 (mnI 12 x))) 3 9 12) 3 := by unfold st_14; rw [I_clr_c (by omega), c3_13 x]
theorem c3_15 (x : Int32) : gI (st_15 x) 3 = gI (flS (sI (st_5 x) 1 0 (mxI 2 (mnI 12 x))) 3 9 12) 3 := by unfold st_15; rw [I_clr_c (by omega), c3_14 x]
theorem c3_16 (x : Int32) : gI (st_16 x) 3 = gI (flS (sI (st_5 x) 1 0 (mxI 2 (mnI 12 x))) 3 9 12) 3 := by unfold st_16; rw [I_clr_c (by omega), c3_15 x]
theorem c3_17 (x : Int32) : gI (st_17 x) 3 = gI (flS (sI (st_5 x) 1 0 (mxI 2 (mnI 12 x))) 3 9 12) 3 := by unfold st_17; rw [I_clr_c (by omega), c3_16 x]
theorem c3_18 (x : Int32) : gI (st_18 x) 3 = gI (flS (sI (st_5 x) 1 0 (mxI 2 (mnI 12 x))) 3 9 12) 3 := by unfold st_18; rw [I_clr_c (by omega), c3_17 x]
theorem c3_19 (x : Int32) : gI (st_19 x) 3 = gI (flS (sI (st_5 x) 1 0 (mxI 2 (mnI 12 x))) 3 9 12) 3 := by unfold st_19; rw [I_clr_c (by omega), I_sR_c, c3_18 x]
theorem c3_20 (x : Int32) : gI (st_20 x) 3 = gI (flS (sI (st_5 x) 1 0 (mxI 2 (mnI 12 x))) 3 9 12) 3 := by unfold st_20; rw [I_clr_c (by omega), dgS_c (by omega), I_sR_c, c3_19 x]
theorem c3_21 (x : Int32) : gI (st_21 x) 3 = gI (flS (sI (st_5 x) 1 0 (mxI 2 (mnI 12 x))) 3 9 12) 3 := by unfold st_21; rw [I_clr_c (by omega), c3_20 x]
theorem c3_22 (x : Int32) : gI (st_22 x) 3 = gI (flS (sI (st_5 x) 1 0 (mxI 2 (mnI 12 x))) 3 9 12) 3 := by unfold st_22; rw [I_clr_c (by omega), c3_21 x]
theorem c3_23 (x : Int32) : gI (st_23 x) 3 = gI (flS (sI (st_5 x) 1 0 (mxI 2 (mnI 12 x))) 3 9 12) 3 := by unfold st_23; rw [I_clr_c (by omega), c3_22 x]
theorem c3_24 (x : Int32) : gI (st_24 x) 3 = gI (flS (sI (st_5 x) 1 0 (mxI 2 (mnI 12 x))) 3 9 12) 3 := by unfold st_24; rw [I_clr_c (by omega), c3_23 x]
theorem c3_25 (x : Int32) : gI (st_25 x) 3 = gI (flS (sI (st_5 x) 1 0 (mxI 2 (mnI 12 x))) 3 9 12) 3 := by unfold st_25; rw [I_clr_c (by omega), c3_24 x]
theorem c3_26 (x : Int32) : gI (st_26 x) 3 = gI (flS (sI (st_5 x) 1 0 (mxI 2 (mnI 12 x))) 3 9 12) 3 := by unfold st_26; rw [I_clr_c (by omega), c3_25 x]
theorem c3_27 (x : Int32) : gI (st_27 x) 3 = gI (flS (sI (st_5 x) 1 0 (mxI 2 (mnI 12 x))) 3 9 12) 3 := by unfold st_27; rw [I_clr_c (by omega), c3_26 x]
theorem c3_28 (x : Int32) : gI (st_28 x) 3 = gI (flS (sI (st_5 x) 1 0 (mxI 2 (mnI 12 x))) 3 9 12) 3 := by unfold st_28; rw [I_clr_c (by omega), g_sI_c (by omega), c3_27 x]
theorem c3_29 (x : Int32) : gI (st_29 x) 3 = gI (flS (sI (st_5 x) 1 0 (mxI 2 (mnI 12 x))) 3 9 12) 3 := by unfold st_29; rw [I_clr_c (by omega), c3_28 x]
theorem c3_30 (x : Int32) : gI (st_30 x) 3 = gI (flS (sI (st_5 x) 1 0 (mxI 2 (mnI 12 x))) 3 9 12) 3 := by unfold st_30; rw [I_clr_c (by omega), c3_29 x]
theorem c3_31 (x : Int32) : gI (st_31 x) 3 = gI (flS (sI (st_5 x) 1 0 (mxI 2 (mnI 12 x))) 3 9 12) 3 := by unfold st_31; rw [I_clr_c (by omega), c3_30 x]
theorem c3_32 (x : Int32) : gI (st_32 x) 3 = gI (flS (sI (st_5 x) 1 0 (mxI 2 (mnI 12 x))) 3 9 12) 3 := by unfold st_32; rw [I_clr_c (by omega), c3_31 x]
theorem c3_33 (x : Int32) : gI (st_33 x) 3 = gI (flS (sI (st_5 x) 1 0 (mxI 2 (mnI 12 x))) 3 9 12) 3 := by unfold st_33; rw [I_clr_c (by omega), c3_32 x]
theorem c3_34 (x : Int32) : gI (st_34 x) 3 = gI (flS (sI (st_5 x) 1 0 (mxI 2 (mnI 12 x))) 3 9 12) 3 := by unfold st_34; rw [I_clr_c (by omega), c3_33 x]
theorem c3_35 (x : Int32) : gI (st_35 x) 3 = gI (flS (sI (st_5 x) 1 0 (mxI 2 (mnI 12 x))) 3 9 12) 3 := by unfold st_35; rw [I_clr_c (by omega), c3_34 x]
theorem c3_36 (x : Int32) : gI (st_36 x) 3 = gI (flS (sI (st_5 x) 1 0 (mxI 2 (mnI 12 x))) 3 9 12) 3 := by unfold st_36; rw [I_clr_c (by omega), c3_35 x]
theorem c3_37 (x : Int32) : gI (st_37 x) 3 = gI (flS (sI (st_5 x) 1 0 (mxI 2 (mnI 12 x))) 3 9 12) 3 := by unfold st_37; rw [I_clr_c (by omega), c3_36 x]
theorem c3_38 (x : Int32) : gI (st_38 x) 3 = gI (flS (sI (st_5 x) 1 0 (mxI 2 (mnI 12 x))) 3 9 12) 3 := by unfold st_38; rw [I_clr_c (by omega), c3_37 x]
theorem c3_39 (x : Int32) : gI (st_39 x) 3 = gI (flS (sI (st_5 x) 1 0 (mxI 2 (mnI 12 x))) 3 9 12) 3 := by unfold st_39; rw [I_clr_c (by omega), g_sI_c (by omega), g_sI_c (by omega), g_sI_c (by omega), c3_38 x]
theorem c3_40 (x : Int32) : gI (st_40 x) 3 = gI (flS (sI (st_5 x) 1 0 (mxI 2 (mnI 12 x))) 3 9 12) 3 := by unfold st_40; rw [I_clr_c (by omega), c3_39 x]
theorem c3_41 (x : Int32) : gI (st_41 x) 3 = gI (flS (sI (st_5 x) 1 0 (mxI 2 (mnI 12 x))) 3 9 12) 3 := by unfold st_41; rw [I_clr_c (by omega), c3_40 x]
theorem c3_42 (x : Int32) : gI (st_42 x) 3 = gI (flS (sI (st_5 x) 1 0 (mxI 2 (mnI 12 x))) 3 9 12) 3 := by unfold st_42; rw [I_clr_c (by omega), c3_41 x]
theorem c3_43 (x : Int32) : gI (st_43 x) 3 = gI (flS (sI (st_5 x) 1 0 (mxI 2 (mnI 12 x))) 3 9 12) 3 := by unfold st_43; rw [I_clr_c (by omega), c3_42 x]
theorem c3_44 (x : Int32) : gI (st_44 x) 3 = gI (flS (sI (st_5 x) 1 0 (mxI 2 (mnI 12 x))) 3 9 12) 3 := by unfold st_44; rw [I_clr_c (by omega), c3_43 x]
theorem c3_45 (x : Int32) : gI (st_45 x) 3 = gI (flS (sI (st_5 x) 1 0 (mxI 2 (mnI 12 x))) 3 9 12) 3 := by unfold st_45; rw [I_clr_c (by omega), g_sI_c (by omega), g_sI_c (by omega), g_sI_c (by omega), c3_44 x]
theorem c3_46 (x : Int32) : gI (st_46 x) 3 = gI (flS (sI (st_5 x) 1 0 (mxI 2 (mnI 12 x))) 3 9 12) 3 := by unfold st_46; rw [I_clr_c (by omega), c3_45 x]
theorem c3_47 (x : Int32) : gI (st_47 x) 3 = gI (flS (sI (st_5 x) 1 0 (mxI 2 (mnI 12 x))) 3 9 12) 3 := by unfold st_47; rw [I_clr_c (by omega), c3_46 x]
theorem c3_48 (x : Int32) : gI (st_48 x) 3 = gI (flS (sI (st_5 x) 1 0 (mxI 2 (mnI 12 x))) 3 9 12) 3 := by unfold st_48; rw [I_clr_c (by omega), c3_47 x]
theorem c3_49 (x : Int32) : gI (st_49 x) 3 = gI (flS (sI (st_5 x) 1 0 (mxI 2 (mnI 12 x))) 3 9 12) 3 := by unfold st_49; rw [I_clr_c (by omega), c3_48 x]
theorem c3_50 (x : Int32) : gI (st_50 x) 3 = gI (flS (sI (st_5 x) 1 0 (mxI 2 (mnI 12 x))) 3 9 12) 3 := by unfold st_50; rw [I_clr_c (by omega), c3_49 x]
theorem c3_51 (x : Int32) : gI (st_51 x) 3 = gI (flS (sI (st_5 x) 1 0 (mxI 2 (mnI 12 x))) 3 9 12) 3 := by unfold st_51; rw [I_clr_c (by omega), c3_50 x]
theorem c3_52 (x : Int32) : gI (st_52 x) 3 = gI (flS (sI (st_5 x) 1 0 (mxI 2 (mnI 12 x))) 3 9 12) 3 := by unfold st_52; rw [I_clr_c (by omega), c3_51 x]
theorem c3_53 (x : Int32) : gI (st_53 x) 3 = gI (flS (sI (st_5 x) 1 0 (mxI 2 (mnI 12 x))) 3 9 12) 3 := by unfold st_53; rw [I_clr_c (by omega), c3_52 x]
theorem c3_54 (x : Int32) : gI (st_54 x) 3 = gI (flS (sI (st_5 x) 1 0 (mxI 2 (mnI 12 x))) 3 9 12) 3 := by unfold st_54; rw [I_clr_c (by omega), c3_53 x]
theorem c3_55 (x : Int32) : gI (st_55 x) 3 = gI (flS (sI (st_5 x) 1 0 (mxI 2 (mnI 12 x))) 3 9 12) 3 := by unfold st_55; rw [I_clr_c (by omega), c3_54 x]
theorem c3_56 (x : Int32) : gI (st_56 x) 3 = gI (flS (sI (st_5 x) 1 0 (mxI 2 (mnI 12 x))) 3 9 12) 3 := by unfold st_56; rw [I_clr_c (by omega), c3_55 x]
theorem c3_57 (x : Int32) : gI (st_57 x) 3 = gI (flS (sI (st_5 x) 1 0 (mxI 2 (mnI 12 x))) 3 9 12) 3 := by unfold st_57; rw [I_clr_c (by omega), c3_56 x]
theorem c3_58 (x : Int32) : gI (st_58 x) 3 = gI (flS (sI (st_5 x) 1 0 (mxI 2 (mnI 12 x))) 3 9 12) 3 := by unfold st_58; rw [I_clr_c (by omega), c3_57 x]
theorem c3_59 (x : Int32) : gI (st_59 x) 3 = gI (flS (sI (st_5 x) 1 0 (mxI 2 (mnI 12 x))) 3 9 12) 3 := by unfold st_59; rw [I_clr_c (by omega), c3_58 x]
theorem c3_60 (x : Int32) : gI (st_60 x) 3 = gI (flS (sI (st_5 x) 1 0 (mxI 2 (mnI 12 x))) 3 9 12) 3 := by unfold st_60; rw [I_clr_c (by omega), c3_59 x]
theorem c3_61 (x : Int32) : gI (st_61 x) 3 = gI (flS (sI (st_5 x) 1 0 (mxI 2 (mnI 12 x))) 3 9 12) 3 := by unfold st_61; rw [I_clr_c (by omega), c3_60 x]
theorem c3_62 (x : Int32) : gI (st_62 x) 3 = gI (flS (sI (st_5 x) 1 0 (mxI 2 (mnI 12 x))) 3 9 12) 3 := by unfold st_62; rw [I_clr_c (by omega), c3_61 x]
theorem c3_63 (x : Int32) : gI (st_63 x) 3 = gI (flS (sI (st_5 x) 1 0 (mxI 2 (mnI 12 x))) 3 9 12) 3 := by unfold st_63; rw [I_clr_c (by omega), c3_62 x]
theorem c3_64 (x : Int32) : gI (st_64 x) 3 = gI (flS (sI (st_5 x) 1 0 (mxI 2 (mnI 12 x))) 3 9 12) 3 := by unfold st_64; rw [I_clr_c (by omega), c3_63 x]
theorem c3_65 (x : Int32) : gI (st_65 x) 3 = gI (flS (sI (st_5 x) 1 0 (mxI 2 (mnI 12 x))) 3 9 12) 3 := by unfold st_65; rw [I_clr_c (by omega), c3_64 x]
theorem c3_66 (x : Int32) : gI (st_66 x) 3 = gI (flS (sI (st_5 x) 1 0 (mxI 2 (mnI 12 x))) 3 9 12) 3 := by unfold st_66; rw [I_clr_c (by omega), c3_65 x]
theorem c3_67 (x : Int32) : gI (st_67 x) 3 = gI (flS (sI (st_5 x) 1 0 (mxI 2 (mnI 12 x))) 3 9 12) 3 := by unfold st_67; rw [I_clr_c (by omega), c3_66 x]
theorem c3_68 (x : Int32) : gI (st_68 x) 3 = gI (flS (sI (st_5 x) 1 0 (mxI 2 (mnI 12 x))) 3 9 12) 3 := by unfold st_68; rw [I_clr_c (by omega), c3_67 x]
theorem c3_69 (x : Int32) : gI (st_69 x) 3 = gI (flS (sI (st_5 x) 1 0 (mxI 2 (mnI 12 x))) 3 9 12) 3 := by unfold st_69; rw [I_clr_c (by omega), c3_68 x]
theorem c3_70 (x : Int32) : gI (st_70 x) 3 = gI (flS (sI (st_5 x) 1 0 (mxI 2 (mnI 12 x))) 3 9 12) 3 := by unfold st_70; rw [I_clr_c (by omega), c3_69 x]
theorem c3_71 (x : Int32) : gI (st_71 x) 3 = gI (flS (sI (st_5 x) 1 0 (mxI 2 (mnI 12 x))) 3 9 12) 3 := by unfold st_71; rw [I_clr_c (by omega), c3_70 x]
theorem c3_72 (x : Int32) : gI (st_72 x) 3 = gI (flS (sI (st_5 x) 1 0 (mxI 2 (mnI 12 x))) 3 9 12) 3 := by unfold st_72; rw [I_clr_c (by omega), flS_c (by omega), g_sI_c (by omega), c3_71 x]
theorem c9_10 (x : Int32) : gI (st_10 x) 9 = fun _ => 0 := by unfold st_10; rw [I_clr_z]
theorem c9_11 (x : Int32) : gI (st_11 x) 9 = fun _ => 0 := by unfold st_11; rw [I_clr_c (by omega), c9_10 x]
theorem c9_12 (x : Int32) : gI (st_12 x) 9 = fun _ => 0 := by unfold st_12; rw [I_clr_c (by omega), c9_11 x]
theorem c9_13 (x : Int32) : gI (st_13 x) 9 = fun _ => 0 := by unfold st_13; rw [I_clr_c (by omega), c9_12 x]
theorem c9_14 (x : Int32) : gI (st_14 x) 9 = fun _ => 0 := by unfold st_14; rw [I_clr_c (by omega), c9_13 x]
theorem c9_15 (x : Int32) : gI (st_15 x) 9 = fun _ => 0 := by unfold st_15; rw [I_clr_c (by omega), c9_14 x]
theorem c9_16 (x : Int32) : gI (st_16 x) 9 = fun _ => 0 := by unfold st_16; rw [I_clr_c (by omega), c9_15 x]
theorem c9_17 (x : Int32) : gI (st_17 x) 9 = fun _ => 0 := by unfold st_17; rw [I_clr_c (by omega), c9_16 x]
theorem c9_18 (x : Int32) : gI (st_18 x) 9 = fun _ => 0 := by unfold st_18; rw [I_clr_c (by omega), c9_17 x]
theorem c9_19 (x : Int32) : gI (st_19 x) 9 = fun _ => 0 := by unfold st_19; rw [I_clr_c (by omega), I_sR_c, c9_18 x]
theorem c9_20 (x : Int32) : gI (st_20 x) 9 = fun _ => 0 := by unfold st_20; rw [I_clr_c (by omega), dgS_c (by omega), I_sR_c, c9_19 x]
theorem c9_21 (x : Int32) : gI (st_21 x) 9 = fun _ => 0 := by unfold st_21; rw [I_clr_c (by omega), c9_20 x]
theorem c9_22 (x : Int32) : gI (st_22 x) 9 = fun _ => 0 := by unfold st_22; rw [I_clr_c (by omega), c9_21 x]
theorem c9_23 (x : Int32) : gI (st_23 x) 9 = fun _ => 0 := by unfold st_23; rw [I_clr_c (by omega), c9_22 x]
theorem c9_24 (x : Int32) : gI (st_24 x) 9 = fun _ => 0 := by unfold st_24; rw [I_clr_c (by omega), c9_23 x]
theorem c9_25 (x : Int32) : gI (st_25 x) 9 = fun _ => 0 := by unfold st_25; rw [I_clr_c (by omega), c9_24 x]
theorem c9_26 (x : Int32) : gI (st_26 x) 9 = fun _ => 0 := by unfold st_26; rw [I_clr_c (by omega), c9_25 x]
theorem c9_27 (x : Int32) : gI (st_27 x) 9 = fun _ => 0 := by unfold st_27; rw [I_clr_c (by omega), c9_26 x]
theorem c9_28 (x : Int32) : gI (st_28 x) 9 = fun _ => 0 := by unfold st_28; rw [I_clr_c (by omega), g_sI_c (by omega), c9_27 x]
theorem c9_29 (x : Int32) : gI (st_29 x) 9 = fun _ => 0 := by unfold st_29; rw [I_clr_c (by omega), c9_28 x]
theorem c9_30 (x : Int32) : gI (st_30 x) 9 = fun _ => 0 := by unfold st_30; rw [I_clr_c (by omega), c9_29 x]
theorem c9_31 (x : Int32) : gI (st_31 x) 9 = fun _ => 0 := by unfold st_31; rw [I_clr_c (by omega), c9_30 x]
theorem c9_32 (x : Int32) : gI (st_32 x) 9 = fun _ => 0 := by unfold st_32; rw [I_clr_c (by omega), c9_31 x]
theorem c9_33 (x : Int32) : gI (st_33 x) 9 = fun _ => 0 := by unfold st_33; rw [I_clr_c (by omega), c9_32 x]
theorem c9_34 (x : Int32) : gI (st_34 x) 9 = fun _ => 0 := by unfold st_34; rw [I_clr_c (by omega), c9_33 x]
theorem c9_35 (x : Int32) : gI (st_35 x) 9 = fun _ => 0 := by unfold st_35; rw [I_clr_c (by omega), c9_34 x]
theorem c9_36 (x : Int32) : gI (st_36 x) 9 = fun _ => 0 := by unfold st_36; rw [I_clr_c (by omega), c9_35 x]
theorem c9_37 (x : Int32) : gI (st_37 x) 9 = fun _ => 0 := by unfold st_37; rw [I_clr_c (by omega), c9_36 x]
theorem c9_38 (x : Int32) : gI (st_38 x) 9 = fun _ => 0 := by unfold st_38; rw [I_clr_c (by omega), c9_37 x]
theorem c9_39 (x : Int32) : gI (st_39 x) 9 = fun _ => 0 := by unfold st_39; rw [I_clr_c (by omega), g_sI_c (by omega), g_sI_c (by omega), g_sI_c (by omega), c9_38 x]
theorem c9_40 (x : Int32) : gI (st_40 x) 9 = fun _ => 0 := by unfold st_40; rw [I_clr_c (by omega), c9_39 x]
theorem c9_41 (x : Int32) : gI (st_41 x) 9 = fun _ => 0 := by unfold st_41; rw [I_clr_c (by omega), c9_40 x]
theorem c9_42 (x : Int32) : gI (st_42 x) 9 = fun _ => 0 := by unfold st_42; rw [I_clr_c (by omega), c9_41 x]
theorem c9_43 (x : Int32) : gI (st_43 x) 9 = fun _ => 0 := by unfold st_43; rw [I_clr_c (by omega), c9_42 x]
theorem c9_44 (x : Int32) : gI (st_44 x) 9 = fun _ => 0 := by unfold st_44; rw [I_clr_c (by omega), c9_43 x]
theorem c9_45 (x : Int32) : gI (st_45 x) 9 = fun _ => 0 := by unfold st_45; rw [I_clr_c (by omega), g_sI_c (by omega), g_sI_c (by omega), g_sI_c (by omega), c9_44 x]
theorem c9_46 (x : Int32) : gI (st_46 x) 9 = fun _ => 0 := by unfold st_46; rw [I_clr_c (by omega), c9_45 x]
theorem c9_47 (x : Int32) : gI (st_47 x) 9 = fun _ => 0 := by unfold st_47; rw [I_clr_c (by omega), c9_46 x]
theorem c9_48 (x : Int32) : gI (st_48 x) 9 = fun _ => 0 := by unfold st_48; rw [I_clr_c (by omega), c9_47 x]
theorem c9_49 (x : Int32) : gI (st_49 x) 9 = fun _ => 0 := by unfold st_49; rw [I_clr_c (by omega), c9_48 x]
theorem c9_50 (x : Int32) : gI (st_50 x) 9 = fun _ => 0 := by unfold st_50; rw [I_clr_c (by omega), c9_49 x]
theorem c9_51 (x : Int32) : gI (st_51 x) 9 = fun _ => 0 := by unfold st_51; rw [I_clr_c (by omega), c9_50 x]
theorem c9_52 (x : Int32) : gI (st_52 x) 9 = fun _ => 0 := by unfold st_52; rw [I_clr_c (by omega), c9_51 x]
theorem c9_53 (x : Int32) : gI (st_53 x) 9 = fun _ => 0 := by unfold st_53; rw [I_clr_c (by omega), c9_52 x]
theorem c9_54 (x : Int32) : gI (st_54 x) 9 = fun _ => 0 := by unfold st_54; rw [I_clr_c (by omega), c9_53 x]
theorem c9_55 (x : Int32) : gI (st_55 x) 9 = fun _ => 0 := by unfold st_55; rw [I_clr_c (by omega), c9_54 x]
theorem c9_56 (x : Int32) : gI (st_56 x) 9 = fun _ => 0 := by unfold st_56; rw [I_clr_c (by omega), c9_55 x]
theorem c9_57 (x : Int32) : gI (st_57 x) 9 = fun _ => 0 := by unfold st_57; rw [I_clr_c (by omega), c9_56 x]
theorem c9_58 (x : Int32) : gI (st_58 x) 9 = fun _ => 0 := by unfold st_58; rw [I_clr_c (by omega), c9_57 x]
theorem c9_59 (x : Int32) : gI (st_59 x) 9 = fun _ => 0 := by unfold st_59; rw [I_clr_c (by omega), c9_58 x]
theorem c9_60 (x : Int32) : gI (st_60 x) 9 = fun _ => 0 := by unfold st_60; rw [I_clr_c (by omega), c9_59 x]
theorem c9_61 (x : Int32) : gI (st_61 x) 9 = fun _ => 0 := by unfold st_61; rw [I_clr_c (by omega), c9_60 x]
theorem c9_62 (x : Int32) : gI (st_62 x) 9 = fun _ => 0 := by unfold st_62; rw [I_clr_c (by omega), c9_61 x]
theorem c9_63 (x : Int32) : gI (st_63 x) 9 = fun _ => 0 := by unfold st_63; rw [I_clr_c (by omega), c9_62 x]
theorem c9_64 (x : Int32) : gI (st_64 x) 9 = fun _ => 0 := by unfold st_64; rw [I_clr_c (by omega), c9_63 x]
theorem c9_65 (x : Int32) : gI (st_65 x) 9 = fun _ => 0 := by unfold st_65; rw [I_clr_c (by omega), c9_64 x]
theorem c9_66 (x : Int32) : gI (st_66 x) 9 = fun _ => 0 := by unfold st_66; rw [I_clr_c (by omega), c9_65 x]
theorem c9_67 (x : Int32) : gI (st_67 x) 9 = fun _ => 0 := by unfold st_67; rw [I_clr_c (by omega), c9_66 x]
theorem c9_68 (x : Int32) : gI (st_68 x) 9 = fun _ => 0 := by unfold st_68; rw [I_clr_c (by omega), c9_67 x]
theorem c9_69 (x : Int32) : gI (st_69 x) 9 = fun _ => 0 := by unfold st_69; rw [I_clr_c (by omega), c9_68 x]
theorem c9_70 (x : Int32) : gI (st_70 x) 9 = fun _ => 0 := by unfold st_70; rw [I_clr_c (by omega), c9_69 x]
theorem c9_71 (x : Int32) : gI (st_71 x) 9 = fun _ => 0 := by unfold st_71; rw [I_clr_c (by omega), c9_70 x]
theorem c9_72 (x : Int32) : gI (st_72 x) 9 = fun _ => 0 := by unfold st_72; rw [I_clr_c (by omega), flS_c (by omega), g_sI_c (by omega), c9_71 x]
theorem c11_12 (x : Int32) : gI (st_12 x) 11 = fun _ => 0 := by unfold st_12; rw [I_clr_z]
theorem c11_13 (x : Int32) : gI (st_13 x) 11 = fun _ => 0 := by unfold st_13; rw [I_clr_c (by omega), c11_12 x]
theorem c11_14 (x : Int32) : gI (st_14 x) 11 = fun _ => 0 := by unfold st_14; rw [I_clr_c (by omega), c11_13 x]
theorem c11_15 (x : Int32) : gI (st_15 x) 11 = fun _ => 0 := by unfold st_15; rw [I_clr_c (by omega), c11_14 x]
theorem c11_16 (x : Int32) : gI (st_16 x) 11 = fun _ => 0 := by unfold st_16; rw [I_clr_c (by omega), c11_15 x]
theorem c11_17 (x : Int32) : gI (st_17 x) 11 = fun _ => 0 := by unfold st_17; rw [I_clr_c (by omega), c11_16 x]
theorem c11_18 (x : Int32) : gI (st_18 x) 11 = fun _ => 0 := by unfold st_18; rw [I_clr_c (by omega), c11_17 x]
theorem c11_19 (x : Int32) : gI (st_19 x) 11 = fun _ => 0 := by unfold st_19; rw [I_clr_c (by omega), I_sR_c, c11_18 x]
theorem c11_20 (x : Int32) : gI (st_20 x) 11 = fun _ => 0 := by unfold st_20; rw [I_clr_c (by omega), dgS_c (by omega), I_sR_c, c11_19 x]
theorem c11_21 (x : Int32) : gI (st_21 x) 11 = fun _ => 0 := by unfold st_21; rw [I_clr_c (by omega), c11_20 x]
theorem c11_22 (x : Int32) : gI (st_22 x) 11 = fun _ => 0 := by unfold st_22; rw [I_clr_c (by omega), c11_21 x]
theorem c11_23 (x : Int32) : gI (st_23 x) 11 = fun _ => 0 := by unfold st_23; rw [I_clr_c (by omega), c11_22 x]
theorem c11_24 (x : Int32) : gI (st_24 x) 11 = fun _ => 0 := by unfold st_24; rw [I_clr_c (by omega), c11_23 x]
theorem c11_25 (x : Int32) : gI (st_25 x) 11 = fun _ => 0 := by unfold st_25; rw [I_clr_c (by omega), c11_24 x]
theorem c11_26 (x : Int32) : gI (st_26 x) 11 = fun _ => 0 := by unfold st_26; rw [I_clr_c (by omega), c11_25 x]
theorem c11_27 (x : Int32) : gI (st_27 x) 11 = fun _ => 0 := by unfold st_27; rw [I_clr_c (by omega), c11_26 x]
theorem c11_28 (x : Int32) : gI (st_28 x) 11 = fun _ => 0 := by unfold st_28; rw [I_clr_c (by omega), g_sI_c (by omega), c11_27 x]
theorem c11_29 (x : Int32) : gI (st_29 x) 11 = fun _ => 0 := by unfold st_29; rw [I_clr_c (by omega), c11_28 x]
theorem c11_30 (x : Int32) : gI (st_30 x) 11 = fun _ => 0 := by unfold st_30; rw [I_clr_c (by omega), c11_29 x]
theorem c11_31 (x : Int32) : gI (st_31 x) 11 = fun _ => 0 := by unfold st_31; rw [I_clr_c (by omega), c11_30 x]
theorem c11_32 (x : Int32) : gI (st_32 x) 11 = fun _ => 0 := by unfold st_32; rw [I_clr_c (by omega), c11_31 x]
theorem c11_33 (x : Int32) : gI (st_33 x) 11 = fun _ => 0 := by unfold st_33; rw [I_clr_c (by omega), c11_32 x]
theorem c11_34 (x : Int32) : gI (st_34 x) 11 = fun _ => 0 := by unfold st_34; rw [I_clr_c (by omega), c11_33 x]
theorem c11_35 (x : Int32) : gI (st_35 x) 11 = fun _ => 0 := by unfold st_35; rw [I_clr_c (by omega), c11_34 x]
theorem c11_36 (x : Int32) : gI (st_36 x) 11 = fun _ => 0 := by unfold st_36; rw [I_clr_c (by omega), c11_35 x]
theorem c11_37 (x : Int32) : gI (st_37 x) 11 = fun _ => 0 := by unfold st_37; rw [I_clr_c (by omega), c11_36 x]
theorem c11_38 (x : Int32) : gI (st_38 x) 11 = fun _ => 0 := by unfold st_38; rw [I_clr_c (by omega), c11_37 x]
theorem c11_39 (x : Int32) : gI (st_39 x) 11 = fun _ => 0 := by unfold st_39; rw [I_clr_c (by omega), g_sI_c (by omega), g_sI_c (by omega), g_sI_c (by omega), c11_38 x]
theorem c11_40 (x : Int32) : gI (st_40 x) 11 = fun _ => 0 := by unfold st_40; rw [I_clr_c (by omega), c11_39 x]
theorem c11_41 (x : Int32) : gI (st_41 x) 11 = fun _ => 0 := by unfold st_41; rw [I_clr_c (by omega), c11_40 x]
theorem c11_42 (x : Int32) : gI (st_42 x) 11 = fun _ => 0 := by unfold st_42; rw [I_clr_c (by omega), c11_41 x]
theorem c11_43 (x : Int32) : gI (st_43 x) 11 = fun _ => 0 := by unfold st_43; rw [I_clr_c (by omega), c11_42 x]
theorem c11_44 (x : Int32) : gI (st_44 x) 11 = fun _ => 0 := by unfold st_44; rw [I_clr_c (by omega), c11_43 x]
theorem c11_45 (x : Int32) : gI (st_45 x) 11 = fun _ => 0 := by unfold st_45; rw [I_clr_c (by omega), g_sI_c (by omega), g_sI_c (by omega), g_sI_c (by omega), c11_44 x]
theorem c11_46 (x : Int32) : gI (st_46 x) 11 = fun _ => 0 := by unfold st_46; rw [I_clr_c (by omega), c11_45 x]
theorem c11_47 (x : Int32) : gI (st_47 x) 11 = fun _ => 0 := by unfold st_47; rw [I_clr_c (by omega), c11_46 x]
theorem c11_48 (x : Int32) : gI (st_48 x) 11 = fun _ => 0 := by unfold st_48; rw [I_clr_c (by omega), c11_47 x]
theorem c11_49 (x : Int32) : gI (st_49 x) 11 = fun _ => 0 := by unfold st_49; rw [I_clr_c (by omega), c11_48 x]
theorem c11_50 (x : Int32) : gI (st_50 x) 11 = fun _ => 0 := by unfold st_50; rw [I_clr_c (by omega), c11_49 x]
theorem c11_51 (x : Int32) : gI (st_51 x) 11 = fun _ => 0 := by unfold st_51; rw [I_clr_c (by omega), c11_50 x]
theorem c11_52 (x : Int32) : gI (st_52 x) 11 = fun _ => 0 := by unfold st_52; rw [I_clr_c (by omega), c11_51 x]
theorem c11_53 (x : Int32) : gI (st_53 x) 11 = fun _ => 0 := by unfold st_53; rw [I_clr_c (by omega), c11_52 x]
theorem c11_54 (x : Int32) : gI (st_54 x) 11 = fun _ => 0 := by unfold st_54; rw [I_clr_c (by omega), c11_53 x]
theorem c11_55 (x : Int32) : gI (st_55 x) 11 = fun _ => 0 := by unfold st_55; rw [I_clr_c (by omega), c11_54 x]
theorem c11_56 (x : Int32) : gI (st_56 x) 11 = fun _ => 0 := by unfold st_56; rw [I_clr_c (by omega), c11_55 x]
theorem c11_57 (x : Int32) : gI (st_57 x) 11 = fun _ => 0 := by unfold st_57; rw [I_clr_c (by omega), c11_56 x]
theorem c11_58 (x : Int32) : gI (st_58 x) 11 = fun _ => 0 := by unfold st_58; rw [I_clr_c (by omega), c11_57 x]
theorem c11_59 (x : Int32) : gI (st_59 x) 11 = fun _ => 0 := by unfold st_59; rw [I_clr_c (by omega), c11_58 x]
theorem c11_60 (x : Int32) : gI (st_60 x) 11 = fun _ => 0 := by unfold st_60; rw [I_clr_c (by omega), c11_59 x]
theorem c11_61 (x : Int32) : gI (st_61 x) 11 = fun _ => 0 := by unfold st_61; rw [I_clr_c (by omega), c11_60 x]
theorem c11_62 (x : Int32) : gI (st_62 x) 11 = fun _ => 0 := by unfold st_62; rw [I_clr_c (by omega), c11_61 x]
theorem c11_63 (x : Int32) : gI (st_63 x) 11 = fun _ => 0 := by unfold st_63; rw [I_clr_c (by omega), c11_62 x]
theorem c11_64 (x : Int32) : gI (st_64 x) 11 = fun _ => 0 := by unfold st_64; rw [I_clr_c (by omega), c11_63 x]
theorem c11_65 (x : Int32) : gI (st_65 x) 11 = fun _ => 0 := by unfold st_65; rw [I_clr_c (by omega), c11_64 x]
theorem c11_66 (x : Int32) : gI (st_66 x) 11 = fun _ => 0 := by unfold st_66; rw [I_clr_c (by omega), c11_65 x]
theorem c11_67 (x : Int32) : gI (st_67 x) 11 = fun _ => 0 := by unfold st_67; rw [I_clr_c (by omega), c11_66 x]
theorem c11_68 (x : Int32) : gI (st_68 x) 11 = fun _ => 0 := by unfold st_68; rw [I_clr_c (by omega), c11_67 x]
theorem c11_69 (x : Int32) : gI (st_69 x) 11 = fun _ => 0 := by unfold st_69; rw [I_clr_c (by omega), c11_68 x]
theorem c11_70 (x : Int32) : gI (st_70 x) 11 = fun _ => 0 := by unfold st_70; rw [I_clr_c (by omega), c11_69 x]
theorem c11_71 (x : Int32) : gI (st_71 x) 11 = fun _ => 0 := by unfold st_71; rw [I_clr_c (by omega), c11_70 x]
theorem c11_72 (x : Int32) : gI (st_72 x) 11 = fun _ => 0 := by unfold st_72; rw [I_clr_c (by omega), flS_c (by omega), g_sI_c (by omega), c11_71 x]
theorem c12_13 (x : Int32) : gI (st_13 x) 12 = fun _ => 0 := by unfold st_13; rw [I_clr_z]
theorem c12_14 (x : Int32) : gI (st_14 x) 12 = fun _ => 0 := by unfold st_14; rw [I_clr_c (by omega), c12_13 x]
theorem c12_15 (x : Int32) : gI (st_15 x) 12 = fun _ => 0 := by unfold st_15; rw [I_clr_c (by omega), c12_14 x]
theorem c12_16 (x : Int32) : gI (st_16 x) 12 = fun _ => 0 := by unfold st_16; rw [I_clr_c (by omega), c12_15 x]
theorem c12_17 (x : Int32) : gI (st_17 x) 12 = fun _ => 0 := by unfold st_17; rw [I_clr_c (by omega), c12_16 x]
theorem c12_18 (x : Int32) : gI (st_18 x) 12 = fun _ => 0 := by unfold st_18; rw [I_clr_c (by omega), c12_17 x]
theorem c12_19 (x : Int32) : gI (st_19 x) 12 = fun _ => 0 := by unfold st_19; rw [I_clr_c (by omega), I_sR_c, c12_18 x]
theorem c12_20 (x : Int32) : gI (st_20 x) 12 = fun _ => 0 := by unfold st_20; rw [I_clr_c (by omega), dgS_c (by omega), I_sR_c, c12_19 x]
theorem c12_21 (x : Int32) : gI (st_21 x) 12 = fun _ => 0 := by unfold st_21; rw [I_clr_c (by omega), c12_20 x]
theorem c12_22 (x : Int32) : gI (st_22 x) 12 = fun _ => 0 := by unfold st_22; rw [I_clr_c (by omega), c12_21 x]
theorem c12_23 (x : Int32) : gI (st_23 x) 12 = fun _ => 0 := by unfold st_23; rw [I_clr_c (by omega), c12_22 x]
theorem c12_24 (x : Int32) : gI (st_24 x) 12 = fun _ => 0 := by unfold st_24; rw [I_clr_c (by omega), c12_23 x]
theorem c12_25 (x : Int32) : gI (st_25 x) 12 = fun _ => 0 := by unfold st_25; rw [I_clr_c (by omega), c12_24 x]
theorem c12_26 (x : Int32) : gI (st_26 x) 12 = fun _ => 0 := by unfold st_26; rw [I_clr_c (by omega), c12_25 x]
theorem c12_27 (x : Int32) : gI (st_27 x) 12 = fun _ => 0 := by unfold st_27; rw [I_clr_c (by omega), c12_26 x]
theorem c12_28 (x : Int32) : gI (st_28 x) 12 = fun _ => 0 := by unfold st_28; rw [I_clr_c (by omega), g_sI_c (by omega), c12_27 x]
theorem c12_29 (x : Int32) : gI (st_29 x) 12 = fun _ => 0 := by unfold st_29; rw [I_clr_c (by omega), c12_28 x]
theorem c12_30 (x : Int32) : gI (st_30 x) 12 = fun _ => 0 := by unfold st_30; rw [I_clr_c (by omega), c12_29 x]
theorem c12_31 (x : Int32) : gI (st_31 x) 12 = fun _ => 0 := by unfold st_31; rw [I_clr_c (by omega), c12_30 x]
theorem c12_32 (x : Int32) : gI (st_32 x) 12 = fun _ => 0 := by unfold st_32; rw [I_clr_c (by omega), c12_31 x]
theorem c12_33 (x : Int32) : gI (st_33 x) 12 = fun _ => 0 := by unfold st_33; rw [I_clr_c (by omega), c12_32 x]
theorem c12_34 (x : Int32) : gI (st_34 x) 12 = fun _ => 0 := by unfold st_34; rw [I_clr_c (by omega), c12_33 x]
theorem c12_35 (x : Int32) : gI (st_35 x) 12 = fun _ => 0 := by unfold st_35; rw [I_clr_c (by omega), c12_34 x]
theorem c12_36 (x : Int32) : gI (st_36 x) 12 = fun _ => 0 := by unfold st_36; rw [I_clr_c (by omega), c12_35 x]
theorem c12_37 (x : Int32) : gI (st_37 x) 12 = fun _ => 0 := by unfold st_37; rw [I_clr_c (by omega), c12_36 x]
theorem c12_38 (x : Int32) : gI (st_38 x) 12 = fun _ => 0 := by unfold st_38; rw [I_clr_c (by omega), c12_37 x]
theorem c12_39 (x : Int32) : gI (st_39 x) 12 = fun _ => 0 := by unfold st_39; rw [I_clr_c (by omega), g_sI_c (by omega), g_sI_c (by omega), g_sI_c (by omega), c12_38 x]
theorem c12_40 (x : Int32) : gI (st_40 x) 12 = fun _ => 0 := by unfold st_40; rw [I_clr_c (by omega), c12_39 x]
theorem c12_41 (x : Int32) : gI (st_41 x) 12 = fun _ => 0 := by unfold st_41; rw [I_clr_c (by omega), c12_40 x]
theorem c12_42 (x : Int32) : gI (st_42 x) 12 = fun _ => 0 := by unfold st_42; rw [I_clr_c (by omega), c12_41 x]
theorem c12_43 (x : Int32) : gI (st_43 x) 12 = fun _ => 0 := by unfold st_43; rw [I_clr_c (by omega), c12_42 x]
theorem c12_44 (x : Int32) : gI (st_44 x) 12 = fun _ => 0 := by unfold st_44; rw [I_clr_c (by omega), c12_43 x]
theorem c12_45 (x : Int32) : gI (st_45 x) 12 = fun _ => 0 := by unfold st_45; rw [I_clr_c (by omega), g_sI_c (by omega), g_sI_c (by omega), g_sI_c (by omega), c12_44 x]
theorem c12_46 (x : Int32) : gI (st_46 x) 12 = fun _ => 0 := by unfold st_46; rw [I_clr_c (by omega), c12_45 x]
theorem c12_47 (x : Int32) : gI (st_47 x) 12 = fun _ => 0 := by unfold st_47; rw [I_clr_c (by omega), c12_46 x]
theorem c12_48 (x : Int32) : gI (st_48 x) 12 = fun _ => 0 := by unfold st_48; rw [I_clr_c (by omega), c12_47 x]
theorem c12_49 (x : Int32) : gI (st_49 x) 12 = fun _ => 0 := by unfold st_49; rw [I_clr_c (by omega), c12_48 x]
theorem c12_50 (x : Int32) : gI (st_50 x) 12 = fun _ => 0 := by unfold st_50; rw [I_clr_c (by omega), c12_49 x]
theorem c12_51 (x : Int32) : gI (st_51 x) 12 = fun _ => 0 := by unfold st_51; rw [I_clr_c (by omega), c12_50 x]
theorem c12_52 (x : Int32) : gI (st_52 x) 12 = fun _ => 0 := by unfold st_52; rw [I_clr_c (by omega), c12_51 x]
theorem c12_53 (x : Int32) : gI (st_53 x) 12 = fun _ => 0 := by unfold st_53; rw [I_clr_c (by omega), c12_52 x]
theorem c12_54 (x : Int32) : gI (st_54 x) 12 = fun _ => 0 := by unfold st_54; rw [I_clr_c (by omega), c12_53 x]
theorem c12_55 (x : Int32) : gI (st_55 x) 12 = fun _ => 0 := by unfold st_55; rw [I_clr_c (by omega), c12_54 x]
theorem c12_56 (x : Int32) : gI (st_56 x) 12 = fun _ => 0 := by unfold st_56; rw [I_clr_c (by omega), c12_55 x]
theorem c12_57 (x : Int32) : gI (st_57 x) 12 = fun _ => 0 := by unfold st_57; rw [I_clr_c (by omega), c12_56 x]
theorem c12_58 (x : Int32) : gI (st_58 x) 12 = fun _ => 0 := by unfold st_58; rw [I_clr_c (by omega), c12_57 x]
theorem c12_59 (x : Int32) : gI (st_59 x) 12 = fun _ => 0 := by unfold st_59; rw [I_clr_c (by omega), c12_58 x]
theorem c12_60 (x : Int32) : gI (st_60 x) 12 = fun _ => 0 := by unfold st_60; rw [I_clr_c (by omega), c12_59 x]
theorem c12_61 (x : Int32) : gI (st_61 x) 12 = fun _ => 0 := by unfold st_61; rw [I_clr_c (by omega), c12_60 x]
theorem c12_62 (x : Int32) : gI (st_62 x) 12 = fun _ => 0 := by unfold st_62; rw [I_clr_c (by omega), c12_61 x]
theorem c12_63 (x : Int32) : gI (st_63 x) 12 = fun _ => 0 := by unfold st_63; rw [I_clr_c (by omega), c12_62 x]
theorem c12_64 (x : Int32) : gI (st_64 x) 12 = fun _ => 0 := by unfold st_64; rw [I_clr_c (by omega), c12_63 x]
theorem c12_65 (x : Int32) : gI (st_65 x) 12 = fun _ => 0 := by unfold st_65; rw [I_clr_c (by omega), c12_64 x]
theorem c12_66 (x : Int32) : gI (st_66 x) 12 = fun _ => 0 := by unfold st_66; rw [I_clr_c (by omega), c12_65 x]
theorem c12_67 (x : Int32) : gI (st_67 x) 12 = fun _ => 0 := by unfold st_67; rw [I_clr_c (by omega), c12_66 x]
theorem c12_68 (x : Int32) : gI (st_68 x) 12 = fun _ => 0 := by unfold st_68; rw [I_clr_c (by omega), c12_67 x]
theorem c12_69 (x : Int32) : gI (st_69 x) 12 = fun _ => 0 := by unfold st_69; rw [I_clr_c (by omega), c12_68 x]
theorem c12_70 (x : Int32) : gI (st_70 x) 12 = fun _ => 0 := by unfold st_70; rw [I_clr_c (by omega), c12_69 x]
theorem c12_71 (x : Int32) : gI (st_71 x) 12 = fun _ => 0 := by unfold st_71; rw [I_clr_c (by omega), c12_70 x]
theorem c12_72 (x : Int32) : gI (st_72 x) 12 = fun _ => 0 := by unfold st_72; rw [I_clr_c (by omega), flS_c (by omega), g_sI_c (by omega), c12_71 x]
theorem c16_17 (x : Int32) : gI (st_17 x) 16 = fun _ => 0 := by unfold st_17; rw [I_clr_z]
theorem c16_18 (x : Int32) : gI (st_18 x) 16 = fun _ => 0 := by unfold st_18; rw [I_clr_c (by omega), c16_17 x]
theorem c16_19 (x : Int32) : gI (st_19 x) 16 = fun _ => 0 := by unfold st_19; rw [I_clr_c (by omega), I_sR_c, c16_18 x]
theorem c16_20 (x : Int32) : gI (st_20 x) 16 = gI (dgS (sR (st_19 x) 15 2 (some 18)) 16 10) 16 := by unfold st_20; rw [I_clr_c (by omega)]
theorem c16_21 (x : Int32) : gI (st_21 x) 16 = gI (dgS (sR (st_19 x) 15 2 (some 18)) 16 10) 16 := by unfold st_21; rw [I_clr_c (by omega), c16_20 x]
theorem c16_22 (x : Int32) : gI (st_22 x) 16 = gI (dgS (sR (st_19 x) 15 2 (some 18)) 16 10) 16 := by unfold st_22; rw [I_clr_c (by omega), c16_21 x]
theorem c16_23 (x : Int32) : gI (st_23 x) 16 = gI (dgS (sR (st_19 x) 15 2 (some 18)) 16 10) 16 := by unfold st_23; rw [I_clr_c (by omega), c16_22 x]
theorem c16_24 (x : Int32) : gI (st_24 x) 16 = gI (dgS (sR (st_19 x) 15 2 (some 18)) 16 10) 16 := by unfold st_24; rw [I_clr_c (by omega), c16_23 x]
theorem c16_25 (x : Int32) : gI (st_25 x) 16 = gI (dgS (sR (st_19 x) 15 2 (some 18)) 16 10) 16 := by unfold st_25; rw [I_clr_c (by omega), c16_24 x]
theorem c16_26 (x : Int32) : gI (st_26 x) 16 = gI (dgS (sR (st_19 x) 15 2 (some 18)) 16 10) 16 := by unfold st_26; rw [I_clr_c (by omega), c16_25 x]
theorem c16_27 (x : Int32) : gI (st_27 x) 16 = gI (dgS (sR (st_19 x) 15 2 (some 18)) 16 10) 16 := by unfold st_27; rw [I_clr_c (by omega), c16_26 x]
theorem c16_28 (x : Int32) : gI (st_28 x) 16 = gI (dgS (sR (st_19 x) 15 2 (some 18)) 16 10) 16 := by unfold st_28; rw [I_clr_c (by omega), g_sI_c (by omega), c16_27 x]
theorem c16_29 (x : Int32) : gI (st_29 x) 16 = gI (dgS (sR (st_19 x) 15 2 (some 18)) 16 10) 16 := by unfold st_29; rw [I_clr_c (by omega), c16_28 x]
theorem c16_30 (x : Int32) : gI (st_30 x) 16 = gI (dgS (sR (st_19 x) 15 2 (some 18)) 16 10) 16 := by unfold st_30; rw [I_clr_c (by omega), c16_29 x]
theorem c16_31 (x : Int32) : gI (st_31 x) 16 = gI (dgS (sR (st_19 x) 15 2 (some 18)) 16 10) 16 := by unfold st_31; rw [I_clr_c (by omega), c16_30 x]
theorem c16_32 (x : Int32) : gI (st_32 x) 16 = gI (dgS (sR (st_19 x) 15 2 (some 18)) 16 10) 16 := by unfold st_32; rw [I_clr_c (by omega), c16_31 x]
theorem c16_33 (x : Int32) : gI (st_33 x) 16 = gI (dgS (sR (st_19 x) 15 2 (some 18)) 16 10) 16 := by unfold st_33; rw [I_clr_c (by omega), c16_32 x]
theorem c16_34 (x : Int32) : gI (st_34 x) 16 = gI (dgS (sR (st_19 x) 15 2 (some 18)) 16 10) 16 := by unfold st_34; rw [I_clr_c (by omega), c16_33 x]
theorem c16_35 (x : Int32) : gI (st_35 x) 16 = gI (dgS (sR (st_19 x) 15 2 (some 18)) 16 10) 16 := by unfold st_35; rw [I_clr_c (by omega), c16_34 x]
theorem c16_36 (x : Int32) : gI (st_36 x) 16 = gI (dgS (sR (st_19 x) 15 2 (some 18)) 16 10) 16 := by unfold st_36; rw [I_clr_c (by omega), c16_35 x]
theorem c16_37 (x : Int32) : gI (st_37 x) 16 = gI (dgS (sR (st_19 x) 15 2 (some 18)) 16 10) 16 := by unfold st_37; rw [I_clr_c (by omega), c16_36 x]
theorem c16_38 (x : Int32) : gI (st_38 x) 16 = gI (dgS (sR (st_19 x) 15 2 (some 18)) 16 10) 16 := by unfold st_38; rw [I_clr_c (by omega), c16_37 x]
theorem c16_39 (x : Int32) : gI (st_39 x) 16 = gI (dgS (sR (st_19 x) 15 2 (some 18)) 16 10) 16 := by unfold st_39; rw [I_clr_c (by omega), g_sI_c (by omega), g_sI_c (by omega), g_sI_c (by omega), c16_38 x]
theorem c16_40 (x : Int32) : gI (st_40 x) 16 = gI (dgS (sR (st_19 x) 15 2 (some 18)) 16 10) 16 := by unfold st_40; rw [I_clr_c (by omega), c16_39 x]
theorem c16_41 (x : Int32) : gI (st_41 x) 16 = gI (dgS (sR (st_19 x) 15 2 (some 18)) 16 10) 16 := by unfold st_41; rw [I_clr_c (by omega), c16_40 x]
theorem c16_42 (x : Int32) : gI (st_42 x) 16 = gI (dgS (sR (st_19 x) 15 2 (some 18)) 16 10) 16 := by unfold st_42; rw [I_clr_c (by omega), c16_41 x]
theorem c16_43 (x : Int32) : gI (st_43 x) 16 = gI (dgS (sR (st_19 x) 15 2 (some 18)) 16 10) 16 := by unfold st_43; rw [I_clr_c (by omega), c16_42 x]
theorem c16_44 (x : Int32) : gI (st_44 x) 16 = gI (dgS (sR (st_19 x) 15 2 (some 18)) 16 10) 16 := by unfold st_44; rw [I_clr_c (by omega), c16_43 x]
theorem c16_45 (x : Int32) : gI (st_45 x) 16 = gI (dgS (sR (st_19 x) 15 2 (some 18)) 16 10) 16 := by unfold st_45; rw [I_clr_c (by omega), g_sI_c (by omega), g_sI_c (by omega), g_sI_c (by omega), c16_44 x]
theorem c16_46 (x : Int32) : gI (st_46 x) 16 = gI (dgS (sR (st_19 x) 15 2 (some 18)) 16 10) 16 := by unfold st_46; rw [I_clr_c (by omega), c16_45 x]
theorem c16_47 (x : Int32) : gI (st_47 x) 16 = gI (dgS (sR (st_19 x) 15 2 (some 18)) 16 10) 16 := by unfold st_47; rw [I_clr_c (by omega), c16_46 x]
theorem c16_48 (x : Int32) : gI (st_48 x) 16 = gI (dgS (sR (st_19 x) 15 2 (some 18)) 16 10) 16 := by unfold st_48; rw [I_clr_c (by omega), c16_47 x]
theorem c16_49 (x : Int32) : gI (st_49 x) 16 = gI (dgS (sR (st_19 x) 15 2 (some 18)) 16 10) 16 := by unfold st_49; rw [I_clr_c (by omega), c16_48 x]
theorem c16_50 (x : Int32) : gI (st_50 x) 16 = gI (dgS (sR (st_19 x) 15 2 (some 18)) 16 10) 16 := by unfold st_50; rw [I_clr_c (by omega), c16_49 x]
theorem c16_51 (x : Int32) : gI (st_51 x) 16 = gI (dgS (sR (st_19 x) 15 2 (some 18)) 16 10) 16 := by unfold st_51; rw [I_clr_c (by omega), c16_50 x]
theorem c16_52 (x : Int32) : gI (st_52 x) 16 = gI (dgS (sR (st_19 x) 15 2 (some 18)) 16 10) 16 := by unfold st_52; rw [I_clr_c (by omega), c16_51 x]
theorem c16_53 (x : Int32) : gI (st_53 x) 16 = gI (dgS (sR (st_19 x) 15 2 (some 18)) 16 10) 16 := by unfold st_53; rw [I_clr_c (by omega), c16_52 x]
theorem c16_54 (x : Int32) : gI (st_54 x) 16 = gI (dgS (sR (st_19 x) 15 2 (some 18)) 16 10) 16 := by unfold st_54; rw [I_clr_c (by omega), c16_53 x]
theorem c16_55 (x : Int32) : gI (st_55 x) 16 = gI (dgS (sR (st_19 x) 15 2 (some 18)) 16 10) 16 := by unfold st_55; rw [I_clr_c (by omega), c16_54 x]
theorem c16_56 (x : Int32) : gI (st_56 x) 16 = gI (dgS (sR (st_19 x) 15 2 (some 18)) 16 10) 16 := by unfold st_56; rw [I_clr_c (by omega), c16_55 x]
theorem c16_57 (x : Int32) : gI (st_57 x) 16 = gI (dgS (sR (st_19 x) 15 2 (some 18)) 16 10) 16 := by unfold st_57; rw [I_clr_c (by omega), c16_56 x]
theorem c16_58 (x : Int32) : gI (st_58 x) 16 = gI (dgS (sR (st_19 x) 15 2 (some 18)) 16 10) 16 := by unfold st_58; rw [I_clr_c (by omega), c16_57 x]
theorem c16_59 (x : Int32) : gI (st_59 x) 16 = gI (dgS (sR (st_19 x) 15 2 (some 18)) 16 10) 16 := by unfold st_59; rw [I_clr_c (by omega), c16_58 x]
theorem c16_60 (x : Int32) : gI (st_60 x) 16 = gI (dgS (sR (st_19 x) 15 2 (some 18)) 16 10) 16 := by unfold st_60; rw [I_clr_c (by omega), c16_59 x]
theorem c16_61 (x : Int32) : gI (st_61 x) 16 = gI (dgS (sR (st_19 x) 15 2 (some 18)) 16 10) 16 := by unfold st_61; rw [I_clr_c (by omega), c16_60 x]
theorem c16_62 (x : Int32) : gI (st_62 x) 16 = gI (dgS (sR (st_19 x) 15 2 (some 18)) 16 10) 16 := by unfold st_62; rw [I_clr_c (by omega), c16_61 x]
theorem c16_63 (x : Int32) : gI (st_63 x) 16 = gI (dgS (sR (st_19 x) 15 2 (some 18)) 16 10) 16 := by unfold st_63; rw [I_clr_c (by omega), c16_62 x]
theorem c16_64 (x : Int32) : gI (st_64 x) 16 = gI (dgS (sR (st_19 x) 15 2 (some 18)) 16 10) 16 := by unfold st_64; rw [I_clr_c (by omega), c16_63 x]
theorem c16_65 (x : Int32) : gI (st_65 x) 16 = gI (dgS (sR (st_19 x) 15 2 (some 18)) 16 10) 16 := by unfold st_65; rw [I_clr_c (by omega), c16_64 x]
theorem c16_66 (x : Int32) : gI (st_66 x) 16 = gI (dgS (sR (st_19 x) 15 2 (some 18)) 16 10) 16 := by unfold st_66; rw [I_clr_c (by omega), c16_65 x]
theorem c16_67 (x : Int32) : gI (st_67 x) 16 = gI (dgS (sR (st_19 x) 15 2 (some 18)) 16 10) 16 := by unfold st_67; rw [I_clr_c (by omega), c16_66 x]
theorem c16_68 (x : Int32) : gI (st_68 x) 16 = gI (dgS (sR (st_19 x) 15 2 (some 18)) 16 10) 16 := by unfold st_68; rw [I_clr_c (by omega), c16_67 x]
theorem c16_69 (x : Int32) : gI (st_69 x) 16 = gI (dgS (sR (st_19 x) 15 2 (some 18)) 16 10) 16 := by unfold st_69; rw [I_clr_c (by omega), c16_68 x]
theorem c16_70 (x : Int32) : gI (st_70 x) 16 = gI (dgS (sR (st_19 x) 15 2 (some 18)) 16 10) 16 := by unfold st_70; rw [I_clr_c (by omega), c16_69 x]
theorem c16_71 (x : Int32) : gI (st_71 x) 16 = gI (dgS (sR (st_19 x) 15 2 (some 18)) 16 10) 16 := by unfold st_71; rw [I_clr_c (by omega), c16_70 x]
theorem c16_72 (x : Int32) : gI (st_72 x) 16 = gI (dgS (sR (st_19 x) 15 2 (some 18)) 16 10) 16 := by unfold st_72; rw [I_clr_c (by omega), flS_c (by omega), g_sI_c (by omega), c16_71 x]
theorem c19_20 (x : Int32) : gI (st_20 x) 19 = fun _ => 0 := by unfold st_20; rw [I_clr_z]
theorem c19_21 (x : Int32) : gI (st_21 x) 19 = fun _ => 0 := by unfold st_21; rw [I_clr_c (by omega), c19_20 x]
theorem c19_22 (x : Int32) : gI (st_22 x) 19 = fun _ => 0 := by unfold st_22; rw [I_clr_c (by omega), c19_21 x]
theorem c19_23 (x : Int32) : gI (st_23 x) 19 = fun _ => 0 := by unfold st_23; rw [I_clr_c (by omega), c19_22 x]
theorem c19_24 (x : Int32) : gI (st_24 x) 19 = fun _ => 0 := by unfold st_24; rw [I_clr_c (by omega), c19_23 x]
theorem c19_25 (x : Int32) : gI (st_25 x) 19 = fun _ => 0 := by unfold st_25; rw [I_clr_c (by omega), c19_24 x]
theorem c19_26 (x : Int32) : gI (st_26 x) 19 = fun _ => 0 := by unfold st_26; rw [I_clr_c (by omega), c19_25 x]
theorem c19_27 (x : Int32) : gI (st_27 x) 19 = fun _ => 0 := by unfold st_27; rw [I_clr_c (by omega), c19_26 x]
theorem c19_28 (x : Int32) : gI (st_28 x) 19 = fun _ => 0 := by unfold st_28; rw [I_clr_c (by omega), g_sI_c (by omega), c19_27 x]
theorem c19_29 (x : Int32) : gI (st_29 x) 19 = fun _ => 0 := by unfold st_29; rw [I_clr_c (by omega), c19_28 x]
theorem c19_30 (x : Int32) : gI (st_30 x) 19 = fun _ => 0 := by unfold st_30; rw [I_clr_c (by omega), c19_29 x]
theorem c19_31 (x : Int32) : gI (st_31 x) 19 = fun _ => 0 := by unfold st_31; rw [I_clr_c (by omega), c19_30 x]
theorem c19_32 (x : Int32) : gI (st_32 x) 19 = fun _ => 0 := by unfold st_32; rw [I_clr_c (by omega), c19_31 x]
theorem c19_33 (x : Int32) : gI (st_33 x) 19 = fun _ => 0 := by unfold st_33; rw [I_clr_c (by omega), c19_32 x]
theorem c19_34 (x : Int32) : gI (st_34 x) 19 = fun _ => 0 := by unfold st_34; rw [I_clr_c (by omega), c19_33 x]
theorem c19_35 (x : Int32) : gI (st_35 x) 19 = fun _ => 0 := by unfold st_35; rw [I_clr_c (by omega), c19_34 x]
theorem c19_36 (x : Int32) : gI (st_36 x) 19 = fun _ => 0 := by unfold st_36; rw [I_clr_c (by omega), c19_35 x]
theorem c19_37 (x : Int32) : gI (st_37 x) 19 = fun _ => 0 := by unfold st_37; rw [I_clr_c (by omega), c19_36 x]
theorem c19_38 (x : Int32) : gI (st_38 x) 19 = fun _ => 0 := by unfold st_38; rw [I_clr_c (by omega), c19_37 x]
theorem c19_39 (x : Int32) : gI (st_39 x) 19 = fun _ => 0 := by unfold st_39; rw [I_clr_c (by omega), g_sI_c (by omega), g_sI_c (by omega), g_sI_c (by omega), c19_38 x]
theorem c19_40 (x : Int32) : gI (st_40 x) 19 = fun _ => 0 := by unfold st_40; rw [I_clr_c (by omega), c19_39 x]
theorem c19_41 (x : Int32) : gI (st_41 x) 19 = fun _ => 0 := by unfold st_41; rw [I_clr_c (by omega), c19_40 x]
theorem c19_42 (x : Int32) : gI (st_42 x) 19 = fun _ => 0 := by unfold st_42; rw [I_clr_c (by omega), c19_41 x]
theorem c19_43 (x : Int32) : gI (st_43 x) 19 = fun _ => 0 := by unfold st_43; rw [I_clr_c (by omega), c19_42 x]
theorem c19_44 (x : Int32) : gI (st_44 x) 19 = fun _ => 0 := by unfold st_44; rw [I_clr_c (by omega), c19_43 x]
theorem c19_45 (x : Int32) : gI (st_45 x) 19 = fun _ => 0 := by unfold st_45; rw [I_clr_c (by omega), g_sI_c (by omega), g_sI_c (by omega), g_sI_c (by omega), c19_44 x]
theorem c19_46 (x : Int32) : gI (st_46 x) 19 = fun _ => 0 := by unfold st_46; rw [I_clr_c (by omega), c19_45 x]
theorem c19_47 (x : Int32) : gI (st_47 x) 19 = fun _ => 0 := by unfold st_47; rw [I_clr_c (by omega), c19_46 x]
theorem c19_48 (x : Int32) : gI (st_48 x) 19 = fun _ => 0 := by unfold st_48; rw [I_clr_c (by omega), c19_47 x]
theorem c19_49 (x : Int32) : gI (st_49 x) 19 = fun _ => 0 := by unfold st_49; rw [I_clr_c (by omega), c19_48 x]
theorem c19_50 (x : Int32) : gI (st_50 x) 19 = fun _ => 0 := by unfold st_50; rw [I_clr_c (by omega), c19_49 x]
theorem c19_51 (x : Int32) : gI (st_51 x) 19 = fun _ => 0 := by unfold st_51; rw [I_clr_c (by omega), c19_50 x]
theorem c19_52 (x : Int32) : gI (st_52 x) 19 = fun _ => 0 := by unfold st_52; rw [I_clr_c (by omega), c19_51 x]
theorem c19_53 (x : Int32) : gI (st_53 x) 19 = fun _ => 0 := by unfold st_53; rw [I_clr_c (by omega), c19_52 x]
theorem c19_54 (x : Int32) : gI (st_54 x) 19 = fun _ => 0 := by unfold st_54; rw [I_clr_c (by omega), c19_53 x]
theorem c19_55 (x : Int32) : gI (st_55 x) 19 = fun _ => 0 := by unfold st_55; rw [I_clr_c (by omega), c19_54 x]
theorem c19_56 (x : Int32) : gI (st_56 x) 19 = fun _ => 0 := by unfold st_56; rw [I_clr_c (by omega), c19_55 x]
theorem c19_57 (x : Int32) : gI (st_57 x) 19 = fun _ => 0 := by unfold st_57; rw [I_clr_c (by omega), c19_56 x]
theorem c19_58 (x : Int32) : gI (st_58 x) 19 = fun _ => 0 := by unfold st_58; rw [I_clr_c (by omega), c19_57 x]
theorem c19_59 (x : Int32) : gI (st_59 x) 19 = fun _ => 0 := by unfold st_59; rw [I_clr_c (by omega), c19_58 x]
theorem c19_60 (x : Int32) : gI (st_60 x) 19 = fun _ => 0 := by unfold st_60; rw [I_clr_c (by omega), c19_59 x]
theorem c19_61 (x : Int32) : gI (st_61 x) 19 = fun _ => 0 := by unfold st_61; rw [I_clr_c (by omega), c19_60 x]
theorem c19_62 (x : Int32) : gI (st_62 x) 19 = fun _ => 0 := by unfold st_62; rw [I_clr_c (by omega), c19_61 x]
theorem c19_63 (x : Int32) : gI (st_63 x) 19 = fun _ => 0 := by unfold st_63; rw [I_clr_c (by omega), c19_62 x]
theorem c19_64 (x : Int32) : gI (st_64 x) 19 = fun _ => 0 := by unfold st_64; rw [I_clr_c (by omega), c19_63 x]
theorem c19_65 (x : Int32) : gI (st_65 x) 19 = fun _ => 0 := by unfold st_65; rw [I_clr_c (by omega), c19_64 x]
theorem c19_66 (x : Int32) : gI (st_66 x) 19 = fun _ => 0 := by unfold st_66; rw [I_clr_c (by omega), c19_65 x]
theorem c19_67 (x : Int32) : gI (st_67 x) 19 = fun _ => 0 := by unfold st_67; rw [I_clr_c (by omega), c19_66 x]
theorem c19_68 (x : Int32) : gI (st_68 x) 19 = fun _ => 0 := by unfold st_68; rw [I_clr_c (by omega), c19_67 x]
theorem c19_69 (x : Int32) : gI (st_69 x) 19 = fun _ => 0 := by unfold st_69; rw [I_clr_c (by omega), c19_68 x]
theorem c19_70 (x : Int32) : gI (st_70 x) 19 = fun _ => 0 := by unfold st_70; rw [I_clr_c (by omega), c19_69 x]
theorem c19_71 (x : Int32) : gI (st_71 x) 19 = fun _ => 0 := by unfold st_71; rw [I_clr_c (by omega), c19_70 x]
theorem c19_72 (x : Int32) : gI (st_72 x) 19 = fun _ => 0 := by unfold st_72; rw [I_clr_c (by omega), flS_c (by omega), g_sI_c (by omega), c19_71 x]
theorem c20_21 (x : Int32) : gI (st_21 x) 20 = fun _ => 0 := by unfold st_21; rw [I_clr_z]
theorem c20_22 (x : Int32) : gI (st_22 x) 20 = fun _ => 0 := by unfold st_22; rw [I_clr_c (by omega), c20_21 x]
theorem c20_23 (x : Int32) : gI (st_23 x) 20 = fun _ => 0 := by unfold st_23; rw [I_clr_c (by omega), c20_22 x]
theorem c20_24 (x : Int32) : gI (st_24 x) 20 = fun _ => 0 := by unfold st_24; rw [I_clr_c (by omega), c20_23 x]
theorem c20_25 (x : Int32) : gI (st_25 x) 20 = fun _ => 0 := by unfold st_25; rw [I_clr_c (by omega), c20_24 x]
theorem c20_26 (x : Int32) : gI (st_26 x) 20 = fun _ => 0 := by unfold st_26; rw [I_clr_c (by omega), c20_25 x]
theorem c20_27 (x : Int32) : gI (st_27 x) 20 = fun _ => 0 := by unfold st_27; rw [I_clr_c (by omega), c20_26 x]
theorem c20_28 (x : Int32) : gI (st_28 x) 20 = fun _ => 0 := by unfold st_28; rw [I_clr_c (by omega), g_sI_c (by omega), c20_27 x]
theorem c20_29 (x : Int32) : gI (st_29 x) 20 = fun _ => 0 := by unfold st_29; rw [I_clr_c (by omega), c20_28 x]
theorem c20_30 (x : Int32) : gI (st_30 x) 20 = fun _ => 0 := by unfold st_30; rw [I_clr_c (by omega), c20_29 x]
theorem c20_31 (x : Int32) : gI (st_31 x) 20 = fun _ => 0 := by unfold st_31; rw [I_clr_c (by omega), c20_30 x]
theorem c20_32 (x : Int32) : gI (st_32 x) 20 = fun _ => 0 := by unfold st_32; rw [I_clr_c (by omega), c20_31 x]
theorem c20_33 (x : Int32) : gI (st_33 x) 20 = fun _ => 0 := by unfold st_33; rw [I_clr_c (by omega), c20_32 x]
theorem c20_34 (x : Int32) : gI (st_34 x) 20 = fun _ => 0 := by unfold st_34; rw [I_clr_c (by omega), c20_33 x]
theorem c20_35 (x : Int32) : gI (st_35 x) 20 = fun _ => 0 := by unfold st_35; rw [I_clr_c (by omega), c20_34 x]
theorem c20_36 (x : Int32) : gI (st_36 x) 20 = fun _ => 0 := by unfold st_36; rw [I_clr_c (by omega), c20_35 x]
theorem c20_37 (x : Int32) : gI (st_37 x) 20 = fun _ => 0 := by unfold st_37; rw [I_clr_c (by omega), c20_36 x]
theorem c20_38 (x : Int32) : gI (st_38 x) 20 = fun _ => 0 := by unfold st_38; rw [I_clr_c (by omega), c20_37 x]
theorem c20_39 (x : Int32) : gI (st_39 x) 20 = fun _ => 0 := by unfold st_39; rw [I_clr_c (by omega), g_sI_c (by omega), g_sI_c (by omega), g_sI_c (by omega), c20_38 x]
theorem c20_40 (x : Int32) : gI (st_40 x) 20 = fun _ => 0 := by unfold st_40; rw [I_clr_c (by omega), c20_39 x]
theorem c20_41 (x : Int32) : gI (st_41 x) 20 = fun _ => 0 := by unfold st_41; rw [I_clr_c (by omega), c20_40 x]
theorem c20_42 (x : Int32) : gI (st_42 x) 20 = fun _ => 0 := by unfold st_42; rw [I_clr_c (by omega), c20_41 x]
theorem c20_43 (x : Int32) : gI (st_43 x) 20 = fun _ => 0 := by unfold st_43; rw [I_clr_c (by omega), c20_42 x]
theorem c20_44 (x : Int32) : gI (st_44 x) 20 = fun _ => 0 := by unfold st_44; rw [I_clr_c (by omega), c20_43 x]
theorem c20_45 (x : Int32) : gI (st_45 x) 20 = fun _ => 0 := by unfold st_45; rw [I_clr_c (by omega), g_sI_c (by omega), g_sI_c (by omega), g_sI_c (by omega), c20_44 x]
theorem c20_46 (x : Int32) : gI (st_46 x) 20 = fun _ => 0 := by unfold st_46; rw [I_clr_c (by omega), c20_45 x]
theorem c20_47 (x : Int32) : gI (st_47 x) 20 = fun _ => 0 := by unfold st_47; rw [I_clr_c (by omega), c20_46 x]
theorem c20_48 (x : Int32) : gI (st_48 x) 20 = fun _ => 0 := by unfold st_48; rw [I_clr_c (by omega), c20_47 x]
theorem c20_49 (x : Int32) : gI (st_49 x) 20 = fun _ => 0 := by unfold st_49; rw [I_clr_c (by omega), c20_48 x]
theorem c20_50 (x : Int32) : gI (st_50 x) 20 = fun _ => 0 := by unfold st_50; rw [I_clr_c (by omega), c20_49 x]
theorem c20_51 (x : Int32) : gI (st_51 x) 20 = fun _ => 0 := by unfold st_51; rw [I_clr_c (by omega), c20_50 x]
theorem c20_52 (x : Int32) : gI (st_52 x) 20 = fun _ => 0 := by unfold st_52; rw [I_clr_c (by omega), c20_51 x]
theorem c20_53 (x : Int32) : gI (st_53 x) 20 = fun _ => 0 := by unfold st_53; rw [I_clr_c (by omega), c20_52 x]
theorem c20_54 (x : Int32) : gI (st_54 x) 20 = fun _ => 0 := by unfold st_54; rw [I_clr_c (by omega), c20_53 x]
theorem c20_55 (x : Int32) : gI (st_55 x) 20 = fun _ => 0 := by unfold st_55; rw [I_clr_c (by omega), c20_54 x]
theorem c20_56 (x : Int32) : gI (st_56 x) 20 = fun _ => 0 := by unfold st_56; rw [I_clr_c (by omega), c20_55 x]
theorem c20_57 (x : Int32) : gI (st_57 x) 20 = fun _ => 0 := by unfold st_57; rw [I_clr_c (by omega), c20_56 x]
theorem c20_58 (x : Int32) : gI (st_58 x) 20 = fun _ => 0 := by unfold st_58; rw [I_clr_c (by omega), c20_57 x]
theorem c20_59 (x : Int32) : gI (st_59 x) 20 = fun _ => 0 := by unfold st_59; rw [I_clr_c (by omega), c20_58 x]
theorem c20_60 (x : Int32) : gI (st_60 x) 20 = fun _ => 0 := by unfold st_60; rw [I_clr_c (by omega), c20_59 x]
theorem c20_61 (x : Int32) : gI (st_61 x) 20 = fun _ => 0 := by unfold st_61; rw [I_clr_c (by omega), c20_60 x]
theorem c20_62 (x : Int32) : gI (st_62 x) 20 = fun _ => 0 := by unfold st_62; rw [I_clr_c (by omega), c20_61 x]
theorem c20_63 (x : Int32) : gI (st_63 x) 20 = fun _ => 0 := by unfold st_63; rw [I_clr_c (by omega), c20_62 x]
theorem c20_64 (x : Int32) : gI (st_64 x) 20 = fun _ => 0 := by unfold st_64; rw [I_clr_c (by omega), c20_63 x]
theorem c20_65 (x : Int32) : gI (st_65 x) 20 = fun _ => 0 := by unfold st_65; rw [I_clr_c (by omega), c20_64 x]
theorem c20_66 (x : Int32) : gI (st_66 x) 20 = fun _ => 0 := by unfold st_66; rw [I_clr_c (by omega), c20_65 x]
theorem c20_67 (x : Int32) : gI (st_67 x) 20 = fun _ => 0 := by unfold st_67; rw [I_clr_c (by omega), c20_66 x]
theorem c20_68 (x : Int32) : gI (st_68 x) 20 = fun _ => 0 := by unfold st_68; rw [I_clr_c (by omega), c20_67 x]
theorem c20_69 (x : Int32) : gI (st_69 x) 20 = fun _ => 0 := by unfold st_69; rw [I_clr_c (by omega), c20_68 x]
theorem c20_70 (x : Int32) : gI (st_70 x) 20 = fun _ => 0 := by unfold st_70; rw [I_clr_c (by omega), c20_69 x]
theorem c20_71 (x : Int32) : gI (st_71 x) 20 = fun _ => 0 := by unfold st_71; rw [I_clr_c (by omega), c20_70 x]
theorem c20_72 (x : Int32) : gI (st_72 x) 20 = fun _ => 0 := by unfold st_72; rw [I_clr_c (by omega), flS_c (by omega), g_sI_c (by omega), c20_71 x]
theorem c38_39 (x : Int32) : gI (st_39 x) 38 = fun _ => 0 := by unfold st_39; rw [I_clr_z]
theorem c38_40 (x : Int32) : gI (st_40 x) 38 = fun _ => 0 := by unfold st_40; rw [I_clr_c (by omega), c38_39 x]
theorem c38_41 (x : Int32) : gI (st_41 x) 38 = fun _ => 0 := by unfold st_41; rw [I_clr_c (by omega), c38_40 x]
theorem c38_42 (x : Int32) : gI (st_42 x) 38 = fun _ => 0 := by unfold st_42; rw [I_clr_c (by omega), c38_41 x]
theorem c38_43 (x : Int32) : gI (st_43 x) 38 = fun _ => 0 := by unfold st_43; rw [I_clr_c (by omega), c38_42 x]
theorem c38_44 (x : Int32) : gI (st_44 x) 38 = fun _ => 0 := by unfold st_44; rw [I_clr_c (by omega), c38_43 x]
theorem c38_45 (x : Int32) : gI (st_45 x) 38 = gI (sI (sI (sI (st_44 x) 38 12 1) 38 13 2) 38 14 1) 38 := by unfold st_45; rw [I_clr_c (by omega)]
theorem c38_46 (x : Int32) : gI (st_46 x) 38 = gI (sI (sI (sI (st_44 x) 38 12 1) 38 13 2) 38 14 1) 38 := by unfold st_46; rw [I_clr_c (by omega), c38_45 x]
theorem c38_47 (x : Int32) : gI (st_47 x) 38 = gI (sI (sI (sI (st_44 x) 38 12 1) 38 13 2) 38 14 1) 38 := by unfold st_47; rw [I_clr_c (by omega), c38_46 x]
theorem c38_48 (x : Int32) : gI (st_48 x) 38 = gI (sI (sI (sI (st_44 x) 38 12 1) 38 13 2) 38 14 1) 38 := by unfold st_48; rw [I_clr_c (by omega), c38_47 x]
theorem c38_49 (x : Int32) : gI (st_49 x) 38 = gI (sI (sI (sI (st_44 x) 38 12 1) 38 13 2) 38 14 1) 38 := by unfold st_49; rw [I_clr_c (by omega), c38_48 x]
theorem c38_50 (x : Int32) : gI (st_50 x) 38 = gI (sI (sI (sI (st_44 x) 38 12 1) 38 13 2) 38 14 1) 38 := by unfold st_50; rw [I_clr_c (by omega), c38_49 x]
theorem c38_51 (x : Int32) : gI (st_51 x) 38 = gI (sI (sI (sI (st_44 x) 38 12 1) 38 13 2) 38 14 1) 38 := by unfold st_51; rw [I_clr_c (by omega), c38_50 x]
theorem c38_52 (x : Int32) : gI (st_52 x) 38 = gI (sI (sI (sI (st_44 x) 38 12 1) 38 13 2) 38 14 1) 38 := by unfold st_52; rw [I_clr_c (by omega), c38_51 x]
theorem c38_53 (x : Int32) : gI (st_53 x) 38 = gI (sI (sI (sI (st_44 x) 38 12 1) 38 13 2) 38 14 1) 38 := by unfold st_53; rw [I_clr_c (by omega), c38_52 x]
theorem c38_54 (x : Int32) : gI (st_54 x) 38 = gI (sI (sI (sI (st_44 x) 38 12 1) 38 13 2) 38 14 1) 38 := by unfold st_54; rw [I_clr_c (by omega), c38_53 x]
theorem c38_55 (x : Int32) : gI (st_55 x) 38 = gI (sI (sI (sI (st_44 x) 38 12 1) 38 13 2) 38 14 1) 38 := by unfold st_55; rw [I_clr_c (by omega), c38_54 x]
theorem c38_56 (x : Int32) : gI (st_56 x) 38 = gI (sI (sI (sI (st_44 x) 38 12 1) 38 13 2) 38 14 1) 38 := by unfold st_56; rw [I_clr_c (by omega), c38_55 x]
theorem c38_57 (x : Int32) : gI (st_57 x) 38 = gI (sI (sI (sI (st_44 x) 38 12 1) 38 13 2) 38 14 1) 38 := by unfold st_57; rw [I_clr_c (by omega), c38_56 x]
theorem c38_58 (x : Int32) : gI (st_58 x) 38 = gI (sI (sI (sI (st_44 x) 38 12 1) 38 13 2) 38 14 1) 38 := by unfold st_58; rw [I_clr_c (by omega), c38_57 x]
theorem c38_59 (x : Int32) : gI (st_59 x) 38 = gI (sI (sI (sI (st_44 x) 38 12 1) 38 13 2) 38 14 1) 38 := by unfold st_59; rw [I_clr_c (by omega), c38_58 x]
theorem c38_60 (x : Int32) : gI (st_60 x) 38 = gI (sI (sI (sI (st_44 x) 38 12 1) 38 13 2) 38 14 1) 38 := by unfold st_60; rw [I_clr_c (by omega), c38_59 x]
theorem c38_61 (x : Int32) : gI (st_61 x) 38 = gI (sI (sI (sI (st_44 x) 38 12 1) 38 13 2) 38 14 1) 38 := by unfold st_61; rw [I_clr_c (by omega), c38_60 x]
theorem c38_62 (x : Int32) : gI (st_62 x) 38 = gI (sI (sI (sI (st_44 x) 38 12 1) 38 13 2) 38 14 1) 38 := by unfold st_62; rw [I_clr_c (by omega), c38_61 x]
theorem c38_63 (x : Int32) : gI (st_63 x) 38 = gI (sI (sI (sI (st_44 x) 38 12 1) 38 13 2) 38 14 1) 38 := by unfold st_63; rw [I_clr_c (by omega), c38_62 x]
theorem c38_64 (x : Int32) : gI (st_64 x) 38 = gI (sI (sI (sI (st_44 x) 38 12 1) 38 13 2) 38 14 1) 38 := by unfold st_64; rw [I_clr_c (by omega), c38_63 x]
theorem c38_65 (x : Int32) : gI (st_65 x) 38 = gI (sI (sI (sI (st_44 x) 38 12 1) 38 13 2) 38 14 1) 38 := by unfold st_65; rw [I_clr_c (by omega), c38_64 x]
theorem c38_66 (x : Int32) : gI (st_66 x) 38 = gI (sI (sI (sI (st_44 x) 38 12 1) 38 13 2) 38 14 1) 38 := by unfold st_66; rw [I_clr_c (by omega), c38_65 x]
theorem c38_67 (x : Int32) : gI (st_67 x) 38 = gI (sI (sI (sI (st_44 x) 38 12 1) 38 13 2) 38 14 1) 38 := by unfold st_67; rw [I_clr_c (by omega), c38_66 x]
theorem c38_68 (x : Int32) : gI (st_68 x) 38 = gI (sI (sI (sI (st_44 x) 38 12 1) 38 13 2) 38 14 1) 38 := by unfold st_68; rw [I_clr_c (by omega), c38_67 x]
theorem c38_69 (x : Int32) : gI (st_69 x) 38 = gI (sI (sI (sI (st_44 x) 38 12 1) 38 13 2) 38 14 1) 38 := by unfold st_69; rw [I_clr_c (by omega), c38_68 x]
theorem c38_70 (x : Int32) : gI (st_70 x) 38 = gI (sI (sI (sI (st_44 x) 38 12 1) 38 13 2) 38 14 1) 38 := by unfold st_70; rw [I_clr_c (by omega), c38_69 x]
theorem c38_71 (x : Int32) : gI (st_71 x) 38 = gI (sI (sI (sI (st_44 x) 38 12 1) 38 13 2) 38 14 1) 38 := by unfold st_71; rw [I_clr_c (by omega), c38_70 x]
theorem c38_72 (x : Int32) : gI (st_72 x) 38 = gI (sI (st_71 x) 38 1 (mxI 2 (mnI 12 x))) 38 := by unfold st_72; rw [I_clr_c (by omega), flS_c (by omega)]
theorem c39_40 (x : Int32) : gI (st_40 x) 39 = fun _ => 0 := by unfold st_40; rw [I_clr_z]
theorem c39_41 (x : Int32) : gI (st_41 x) 39 = fun _ => 0 := by unfold st_41; rw [I_clr_c (by omega), c39_40 x]
theorem c39_42 (x : Int32) : gI (st_42 x) 39 = fun _ => 0 := by unfold st_42; rw [I_clr_c (by omega), c39_41 x]
theorem c39_43 (x : Int32) : gI (st_43 x) 39 = fun _ => 0 := by unfold st_43; rw [I_clr_c (by omega), c39_42 x]
theorem c39_44 (x : Int32) : gI (st_44 x) 39 = fun _ => 0 := by unfold st_44; rw [I_clr_c (by omega), c39_43 x]
theorem c39_45 (x : Int32) : gI (st_45 x) 39 = fun _ => 0 := by unfold st_45; rw [I_clr_c (by omega), g_sI_c (by omega), g_sI_c (by omega), g_sI_c (by omega), c39_44 x]
theorem c39_46 (x : Int32) : gI (st_46 x) 39 = fun _ => 0 := by unfold st_46; rw [I_clr_c (by omega), c39_45 x]
theorem c39_47 (x : Int32) : gI (st_47 x) 39 = fun _ => 0 := by unfold st_47; rw [I_clr_c (by omega), c39_46 x]
theorem c39_48 (x : Int32) : gI (st_48 x) 39 = fun _ => 0 := by unfold st_48; rw [I_clr_c (by omega), c39_47 x]
theorem c39_49 (x : Int32) : gI (st_49 x) 39 = fun _ => 0 := by unfold st_49; rw [I_clr_c (by omega), c39_48 x]
theorem c39_50 (x : Int32) : gI (st_50 x) 39 = fun _ => 0 := by unfold st_50; rw [I_clr_c (by omega), c39_49 x]
theorem c39_51 (x : Int32) : gI (st_51 x) 39 = fun _ => 0 := by unfold st_51; rw [I_clr_c (by omega), c39_50 x]
theorem c39_52 (x : Int32) : gI (st_52 x) 39 = fun _ => 0 := by unfold st_52; rw [I_clr_c (by omega), c39_51 x]
theorem c39_53 (x : Int32) : gI (st_53 x) 39 = fun _ => 0 := by unfold st_53; rw [I_clr_c (by omega), c39_52 x]
theorem c39_54 (x : Int32) : gI (st_54 x) 39 = fun _ => 0 := by unfold st_54; rw [I_clr_c (by omega), c39_53 x]
theorem c39_55 (x : Int32) : gI (st_55 x) 39 = fun _ => 0 := by unfold st_55; rw [I_clr_c (by omega), c39_54 x]
theorem c39_56 (x : Int32) : gI (st_56 x) 39 = fun _ => 0 := by unfold st_56; rw [I_clr_c (by omega), c39_55 x]
theorem c39_57 (x : Int32) : gI (st_57 x) 39 = fun _ => 0 := by unfold st_57; rw [I_clr_c (by omega), c39_56 x]
theorem c39_58 (x : Int32) : gI (st_58 x) 39 = fun _ => 0 := by unfold st_58; rw [I_clr_c (by omega), c39_57 x]
theorem c39_59 (x : Int32) : gI (st_59 x) 39 = fun _ => 0 := by unfold st_59; rw [I_clr_c (by omega), c39_58 x]
theorem c39_60 (x : Int32) : gI (st_60 x) 39 = fun _ => 0 := by unfold st_60; rw [I_clr_c (by omega), c39_59 x]
theorem c39_61 (x : Int32) : gI (st_61 x) 39 = fun _ => 0 := by unfold st_61; rw [I_clr_c (by omega), c39_60 x]
theorem c39_62 (x : Int32) : gI (st_62 x) 39 = fun _ => 0 := by unfold st_62; rw [I_clr_c (by omega), c39_61 x]
theorem c39_63 (x : Int32) : gI (st_63 x) 39 = fun _ => 0 := by unfold st_63; rw [I_clr_c (by omega), c39_62 x]
theorem c39_64 (x : Int32) : gI (st_64 x) 39 = fun _ => 0 := by unfold st_64; rw [I_clr_c (by omega), c39_63 x]
theorem c39_65 (x : Int32) : gI (st_65 x) 39 = fun _ => 0 := by unfold st_65; rw [I_clr_c (by omega), c39_64 x]
theorem c39_66 (x : Int32) : gI (st_66 x) 39 = fun _ => 0 := by unfold st_66; rw [I_clr_c (by omega), c39_65 x]
theorem c39_67 (x : Int32) : gI (st_67 x) 39 = fun _ => 0 := by unfold st_67; rw [I_clr_c (by omega), c39_66 x]
theorem c39_68 (x : Int32) : gI (st_68 x) 39 = fun _ => 0 := by unfold st_68; rw [I_clr_c (by omega), c39_67 x]
theorem c39_69 (x : Int32) : gI (st_69 x) 39 = fun _ => 0 := by unfold st_69; rw [I_clr_c (by omega), c39_68 x]
theorem c39_70 (x : Int32) : gI (st_70 x) 39 = fun _ => 0 := by unfold st_70; rw [I_clr_c (by omega), c39_69 x]
theorem c39_71 (x : Int32) : gI (st_71 x) 39 = fun _ => 0 := by unfold st_71; rw [I_clr_c (by omega), c39_70 x]
theorem c39_72 (x : Int32) : gI (st_72 x) 39 = fun _ => 0 := by unfold st_72; rw [I_clr_c (by omega), flS_c (by omega), g_sI_c (by omega), c39_71 x]
theorem c44_45 (x : Int32) : gI (st_45 x) 44 = fun _ => 0 := by unfold st_45; rw [I_clr_z]
theorem c44_46 (x : Int32) : gI (st_46 x) 44 = fun _ => 0 := by unfold st_46; rw [I_clr_c (by omega), c44_45 x]
theorem c44_47 (x : Int32) : gI (st_47 x) 44 = fun _ => 0 := by unfold st_47; rw [I_clr_c (by omega), c44_46 x]
theorem c44_48 (x : Int32) : gI (st_48 x) 44 = fun _ => 0 := by unfold st_48; rw [I_clr_c (by omega), c44_47 x]
theorem c44_49 (x : Int32) : gI (st_49 x) 44 = fun _ => 0 := by unfold st_49; rw [I_clr_c (by omega), c44_48 x]
theorem c44_50 (x : Int32) : gI (st_50 x) 44 = fun _ => 0 := by unfold st_50; rw [I_clr_c (by omega), c44_49 x]
theorem c44_51 (x : Int32) : gI (st_51 x) 44 = fun _ => 0 := by unfold st_51; rw [I_clr_c (by omega), c44_50 x]
theorem c44_52 (x : Int32) : gI (st_52 x) 44 = fun _ => 0 := by unfold st_52; rw [I_clr_c (by omega), c44_51 x]
theorem c44_53 (x : Int32) : gI (st_53 x) 44 = fun _ => 0 := by unfold st_53; rw [I_clr_c (by omega), c44_52 x]
theorem c44_54 (x : Int32) : gI (st_54 x) 44 = fun _ => 0 := by unfold st_54; rw [I_clr_c (by omega), c44_53 x]
theorem c44_55 (x : Int32) : gI (st_55 x) 44 = fun _ => 0 := by unfold st_55; rw [I_clr_c (by omega), c44_54 x]
theorem c44_56 (x : Int32) : gI (st_56 x) 44 = fun _ => 0 := by unfold st_56; rw [I_clr_c (by omega), c44_55 x]
theorem c44_57 (x : Int32) : gI (st_57 x) 44 = fun _ => 0 := by unfold st_57; rw [I_clr_c (by omega), c44_56 x]
theorem c44_58 (x : Int32) : gI (st_58 x) 44 = fun _ => 0 := by unfold st_58; rw [I_clr_c (by omega), c44_57 x]
theorem c44_59 (x : Int32) : gI (st_59 x) 44 = fun _ => 0 := by unfold st_59; rw [I_clr_c (by omega), c44_58 x]
theorem c44_60 (x : Int32) : gI (st_60 x) 44 = fun _ => 0 := by unfold st_60; rw [I_clr_c (by omega), c44_59 x]
theorem c44_61 (x : Int32) : gI (st_61 x) 44 = fun _ => 0 := by unfold st_61; rw [I_clr_c (by omega), c44_60 x]
theorem c44_62 (x : Int32) : gI (st_62 x) 44 = fun _ => 0 := by unfold st_62; rw [I_clr_c (by omega), c44_61 x]
theorem c44_63 (x : Int32) : gI (st_63 x) 44 = fun _ => 0 := by unfold st_63; rw [I_clr_c (by omega), c44_62 x]
theorem c44_64 (x : Int32) : gI (st_64 x) 44 = fun _ => 0 := by unfold st_64; rw [I_clr_c (by omega), c44_63 x]
theorem c44_65 (x : Int32) : gI (st_65 x) 44 = fun _ => 0 := by unfold st_65; rw [I_clr_c (by omega), c44_64 x]
theorem c44_66 (x : Int32) : gI (st_66 x) 44 = fun _ => 0 := by unfold st_66; rw [I_clr_c (by omega), c44_65 x]
theorem c44_67 (x : Int32) : gI (st_67 x) 44 = fun _ => 0 := by unfold st_67; rw [I_clr_c (by omega), c44_66 x]
theorem c44_68 (x : Int32) : gI (st_68 x) 44 = fun _ => 0 := by unfold st_68; rw [I_clr_c (by omega), c44_67 x]
theorem c44_69 (x : Int32) : gI (st_69 x) 44 = fun _ => 0 := by unfold st_69; rw [I_clr_c (by omega), c44_68 x]
theorem c44_70 (x : Int32) : gI (st_70 x) 44 = fun _ => 0 := by unfold st_70; rw [I_clr_c (by omega), c44_69 x]
theorem c44_71 (x : Int32) : gI (st_71 x) 44 = fun _ => 0 := by unfold st_71; rw [I_clr_c (by omega), c44_70 x]
theorem c44_72 (x : Int32) : gI (st_72 x) 44 = gI (flS (sI (st_71 x) 38 1 (mxI 2 (mnI 12 x))) 44 9 12) 44 := by unfold st_72; rw [I_clr_c (by omega)]
theorem c45_46 (x : Int32) : gI (st_46 x) 45 = fun _ => 0 := by unfold st_46; rw [I_clr_z]
theorem c45_47 (x : Int32) : gI (st_47 x) 45 = fun _ => 0 := by unfold st_47; rw [I_clr_c (by omega), c45_46 x]
theorem c45_48 (x : Int32) : gI (st_48 x) 45 = fun _ => 0 := by unfold st_48; rw [I_clr_c (by omega), c45_47 x]
theorem c45_49 (x : Int32) : gI (st_49 x) 45 = fun _ => 0 := by unfold st_49; rw [I_clr_c (by omega), c45_48 x]
theorem c45_50 (x : Int32) : gI (st_50 x) 45 = fun _ => 0 := by unfold st_50; rw [I_clr_c (by omega), c45_49 x]
theorem c45_51 (x : Int32) : gI (st_51 x) 45 = fun _ => 0 := by unfold st_51; rw [I_clr_c (by omega), c45_50 x]
theorem c45_52 (x : Int32) : gI (st_52 x) 45 = fun _ => 0 := by unfold st_52; rw [I_clr_c (by omega), c45_51 x]
theorem c45_53 (x : Int32) : gI (st_53 x) 45 = fun _ => 0 := by unfold st_53; rw [I_clr_c (by omega), c45_52 x]
theorem c45_54 (x : Int32) : gI (st_54 x) 45 = fun _ => 0 := by unfold st_54; rw [I_clr_c (by omega), c45_53 x]
theorem c45_55 (x : Int32) : gI (st_55 x) 45 = fun _ => 0 := by unfold st_55; rw [I_clr_c (by omega), c45_54 x]
theorem c45_56 (x : Int32) : gI (st_56 x) 45 = fun _ => 0 := by unfold st_56; rw [I_clr_c (by omega), c45_55 x]
theorem c45_57 (x : Int32) : gI (st_57 x) 45 = fun _ => 0 := by unfold st_57; rw [I_clr_c (by omega), c45_56 x]
theorem c45_58 (x : Int32) : gI (st_58 x) 45 = fun _ => 0 := by unfold st_58; rw [I_clr_c (by omega), c45_57 x]
theorem c45_59 (x : Int32) : gI (st_59 x) 45 = fun _ => 0 := by unfold st_59; rw [I_clr_c (by omega), c45_58 x]
theorem c45_60 (x : Int32) : gI (st_60 x) 45 = fun _ => 0 := by unfold st_60; rw [I_clr_c (by omega), c45_59 x]
theorem c45_61 (x : Int32) : gI (st_61 x) 45 = fun _ => 0 := by unfold st_61; rw [I_clr_c (by omega), c45_60 x]
theorem c45_62 (x : Int32) : gI (st_62 x) 45 = fun _ => 0 := by unfold st_62; rw [I_clr_c (by omega), c45_61 x]
theorem c45_63 (x : Int32) : gI (st_63 x) 45 = fun _ => 0 := by unfold st_63; rw [I_clr_c (by omega), c45_62 x]
theorem c45_64 (x : Int32) : gI (st_64 x) 45 = fun _ => 0 := by unfold st_64; rw [I_clr_c (by omega), c45_63 x]
theorem c45_65 (x : Int32) : gI (st_65 x) 45 = fun _ => 0 := by unfold st_65; rw [I_clr_c (by omega), c45_64 x]
theorem c45_66 (x : Int32) : gI (st_66 x) 45 = fun _ => 0 := by unfold st_66; rw [I_clr_c (by omega), c45_65 x]
theorem c45_67 (x : Int32) : gI (st_67 x) 45 = fun _ => 0 := by unfold st_67; rw [I_clr_c (by omega), c45_66 x]
theorem c45_68 (x : Int32) : gI (st_68 x) 45 = fun _ => 0 := by unfold st_68; rw [I_clr_c (by omega), c45_67 x]
theorem c45_69 (x : Int32) : gI (st_69 x) 45 = fun _ => 0 := by unfold st_69; rw [I_clr_c (by omega), c45_68 x]
theorem c45_70 (x : Int32) : gI (st_70 x) 45 = fun _ => 0 := by unfold st_70; rw [I_clr_c (by omega), c45_69 x]
theorem c45_71 (x : Int32) : gI (st_71 x) 45 = fun _ => 0 := by unfold st_71; rw [I_clr_c (by omega), c45_70 x]
theorem c45_72 (x : Int32) : gI (st_72 x) 45 = fun _ => 0 := by unfold st_72; rw [I_clr_c (by omega), flS_c (by omega), g_sI_c (by omega), c45_71 x]
theorem c46_47 (x : Int32) : gI (st_47 x) 46 = fun _ => 0 := by unfold st_47; rw [I_clr_z]
theorem c46_48 (x : Int32) : gI (st_48 x) 46 = fun _ => 0 := by unfold st_48; rw [I_clr_c (by omega), c46_47 x]
theorem c46_49 (x : Int32) : gI (st_49 x) 46 = fun _ => 0 := by unfold st_49; rw [I_clr_c (by omega), c46_48 x]
theorem c46_50 (x : Int32) : gI (st_50 x) 46 = fun _ => 0 := by unfold st_50; rw [I_clr_c (by omega), c46_49 x]
theorem c46_51 (x : Int32) : gI (st_51 x) 46 = fun _ => 0 := by unfold st_51; rw [I_clr_c (by omega), c46_50 x]
theorem c46_52 (x : Int32) : gI (st_52 x) 46 = fun _ => 0 := by unfold st_52; rw [I_clr_c (by omega), c46_51 x]
theorem c46_53 (x : Int32) : gI (st_53 x) 46 = fun _ => 0 := by unfold st_53; rw [I_clr_c (by omega), c46_52 x]
theorem c46_54 (x : Int32) : gI (st_54 x) 46 = fun _ => 0 := by unfold st_54; rw [I_clr_c (by omega), c46_53 x]
theorem c46_55 (x : Int32) : gI (st_55 x) 46 = fun _ => 0 := by unfold st_55; rw [I_clr_c (by omega), c46_54 x]
theorem c46_56 (x : Int32) : gI (st_56 x) 46 = fun _ => 0 := by unfold st_56; rw [I_clr_c (by omega), c46_55 x]
theorem c46_57 (x : Int32) : gI (st_57 x) 46 = fun _ => 0 := by unfold st_57; rw [I_clr_c (by omega), c46_56 x]
theorem c46_58 (x : Int32) : gI (st_58 x) 46 = fun _ => 0 := by unfold st_58; rw [I_clr_c (by omega), c46_57 x]
theorem c46_59 (x : Int32) : gI (st_59 x) 46 = fun _ => 0 := by unfold st_59; rw [I_clr_c (by omega), c46_58 x]
theorem c46_60 (x : Int32) : gI (st_60 x) 46 = fun _ => 0 := by unfold st_60; rw [I_clr_c (by omega), c46_59 x]
theorem c46_61 (x : Int32) : gI (st_61 x) 46 = fun _ => 0 := by unfold st_61; rw [I_clr_c (by omega), c46_60 x]
theorem c46_62 (x : Int32) : gI (st_62 x) 46 = fun _ => 0 := by unfold st_62; rw [I_clr_c (by omega), c46_61 x]
theorem c46_63 (x : Int32) : gI (st_63 x) 46 = fun _ => 0 := by unfold st_63; rw [I_clr_c (by omega), c46_62 x]
theorem c46_64 (x : Int32) : gI (st_64 x) 46 = fun _ => 0 := by unfold st_64; rw [I_clr_c (by omega), c46_63 x]
theorem c46_65 (x : Int32) : gI (st_65 x) 46 = fun _ => 0 := by unfold st_65; rw [I_clr_c (by omega), c46_64 x]
theorem c46_66 (x : Int32) : gI (st_66 x) 46 = fun _ => 0 := by unfold st_66; rw [I_clr_c (by omega), c46_65 x]
theorem c46_67 (x : Int32) : gI (st_67 x) 46 = fun _ => 0 := by unfold st_67; rw [I_clr_c (by omega), c46_66 x]
theorem c46_68 (x : Int32) : gI (st_68 x) 46 = fun _ => 0 := by unfold st_68; rw [I_clr_c (by omega), c46_67 x]
theorem c46_69 (x : Int32) : gI (st_69 x) 46 = fun _ => 0 := by unfold st_69; rw [I_clr_c (by omega), c46_68 x]
theorem c46_70 (x : Int32) : gI (st_70 x) 46 = fun _ => 0 := by unfold st_70; rw [I_clr_c (by omega), c46_69 x]
theorem c46_71 (x : Int32) : gI (st_71 x) 46 = fun _ => 0 := by unfold st_71; rw [I_clr_c (by omega), c46_70 x]
theorem c46_72 (x : Int32) : gI (st_72 x) 46 = fun _ => 0 := by unfold st_72; rw [I_clr_c (by omega), flS_c (by omega), g_sI_c (by omega), c46_71 x]
theorem c49_50 (x : Int32) : gI (st_50 x) 49 = fun _ => 0 := by unfold st_50; rw [I_clr_z]
theorem c49_51 (x : Int32) : gI (st_51 x) 49 = fun _ => 0 := by unfold st_51; rw [I_clr_c (by omega), c49_50 x]
theorem c49_52 (x : Int32) : gI (st_52 x) 49 = fun _ => 0 := by unfold st_52; rw [I_clr_c (by omega), c49_51 x]
theorem c49_53 (x : Int32) : gI (st_53 x) 49 = fun _ => 0 := by unfold st_53; rw [I_clr_c (by omega), c49_52 x]
theorem c49_54 (x : Int32) : gI (st_54 x) 49 = fun _ => 0 := by unfold st_54; rw [I_clr_c (by omega), c49_53 x]
theorem c49_55 (x : Int32) : gI (st_55 x) 49 = fun _ => 0 := by unfold st_55; rw [I_clr_c (by omega), c49_54 x]
theorem c49_56 (x : Int32) : gI (st_56 x) 49 = fun _ => 0 := by unfold st_56; rw [I_clr_c (by omega), c49_55 x]
theorem c49_57 (x : Int32) : gI (st_57 x) 49 = fun _ => 0 := by unfold st_57; rw [I_clr_c (by omega), c49_56 x]
theorem c49_58 (x : Int32) : gI (st_58 x) 49 = fun _ => 0 := by unfold st_58; rw [I_clr_c (by omega), c49_57 x]
theorem c49_59 (x : Int32) : gI (st_59 x) 49 = fun _ => 0 := by unfold st_59; rw [I_clr_c (by omega), c49_58 x]
theorem c49_60 (x : Int32) : gI (st_60 x) 49 = fun _ => 0 := by unfold st_60; rw [I_clr_c (by omega), c49_59 x]
theorem c49_61 (x : Int32) : gI (st_61 x) 49 = fun _ => 0 := by unfold st_61; rw [I_clr_c (by omega), c49_60 x]
theorem c49_62 (x : Int32) : gI (st_62 x) 49 = fun _ => 0 := by unfold st_62; rw [I_clr_c (by omega), c49_61 x]
theorem c49_63 (x : Int32) : gI (st_63 x) 49 = fun _ => 0 := by unfold st_63; rw [I_clr_c (by omega), c49_62 x]
theorem c49_64 (x : Int32) : gI (st_64 x) 49 = fun _ => 0 := by unfold st_64; rw [I_clr_c (by omega), c49_63 x]
theorem c49_65 (x : Int32) : gI (st_65 x) 49 = fun _ => 0 := by unfold st_65; rw [I_clr_c (by omega), c49_64 x]
theorem c49_66 (x : Int32) : gI (st_66 x) 49 = fun _ => 0 := by unfold st_66; rw [I_clr_c (by omega), c49_65 x]
theorem c49_67 (x : Int32) : gI (st_67 x) 49 = fun _ => 0 := by unfold st_67; rw [I_clr_c (by omega), c49_66 x]
theorem c49_68 (x : Int32) : gI (st_68 x) 49 = fun _ => 0 := by unfold st_68; rw [I_clr_c (by omega), c49_67 x]
theorem c49_69 (x : Int32) : gI (st_69 x) 49 = fun _ => 0 := by unfold st_69; rw [I_clr_c (by omega), c49_68 x]
theorem c49_70 (x : Int32) : gI (st_70 x) 49 = fun _ => 0 := by unfold st_70; rw [I_clr_c (by omega), c49_69 x]
theorem c49_71 (x : Int32) : gI (st_71 x) 49 = fun _ => 0 := by unfold st_71; rw [I_clr_c (by omega), c49_70 x]
theorem c49_72 (x : Int32) : gI (st_72 x) 49 = fun _ => 0 := by unfold st_72; rw [I_clr_c (by omega), flS_c (by omega), g_sI_c (by omega), c49_71 x]
theorem c54_55 (x : Int32) : gI (st_55 x) 54 = fun _ => 0 := by unfold st_55; rw [I_clr_z]
theorem c54_56 (x : Int32) : gI (st_56 x) 54 = fun _ => 0 := by unfold st_56; rw [I_clr_c (by omega), c54_55 x]
theorem c54_57 (x : Int32) : gI (st_57 x) 54 = fun _ => 0 := by unfold st_57; rw [I_clr_c (by omega), c54_56 x]
theorem c54_58 (x : Int32) : gI (st_58 x) 54 = fun _ => 0 := by unfold st_58; rw [I_clr_c (by omega), c54_57 x]
theorem c54_59 (x : Int32) : gI (st_59 x) 54 = fun _ => 0 := by unfold st_59; rw [I_clr_c (by omega), c54_58 x]
theorem c54_60 (x : Int32) : gI (st_60 x) 54 = fun _ => 0 := by unfold st_60; rw [I_clr_c (by omega), c54_59 x]
theorem c54_61 (x : Int32) : gI (st_61 x) 54 = fun _ => 0 := by unfold st_61; rw [I_clr_c (by omega), c54_60 x]
theorem c54_62 (x : Int32) : gI (st_62 x) 54 = fun _ => 0 := by unfold st_62; rw [I_clr_c (by omega), c54_61 x]
theorem c54_63 (x : Int32) : gI (st_63 x) 54 = fun _ => 0 := by unfold st_63; rw [I_clr_c (by omega), c54_62 x]
theorem c54_64 (x : Int32) : gI (st_64 x) 54 = fun _ => 0 := by unfold st_64; rw [I_clr_c (by omega), c54_63 x]
theorem c54_65 (x : Int32) : gI (st_65 x) 54 = fun _ => 0 := by unfold st_65; rw [I_clr_c (by omega), c54_64 x]
theorem c54_66 (x : Int32) : gI (st_66 x) 54 = fun _ => 0 := by unfold st_66; rw [I_clr_c (by omega), c54_65 x]
theorem c54_67 (x : Int32) : gI (st_67 x) 54 = fun _ => 0 := by unfold st_67; rw [I_clr_c (by omega), c54_66 x]
theorem c54_68 (x : Int32) : gI (st_68 x) 54 = fun _ => 0 := by unfold st_68; rw [I_clr_c (by omega), c54_67 x]
theorem c54_69 (x : Int32) : gI (st_69 x) 54 = fun _ => 0 := by unfold st_69; rw [I_clr_c (by omega), c54_68 x]
theorem c54_70 (x : Int32) : gI (st_70 x) 54 = fun _ => 0 := by unfold st_70; rw [I_clr_c (by omega), c54_69 x]
theorem c54_71 (x : Int32) : gI (st_71 x) 54 = fun _ => 0 := by unfold st_71; rw [I_clr_c (by omega), c54_70 x]
theorem c54_72 (x : Int32) : gI (st_72 x) 54 = fun _ => 0 := by unfold st_72; rw [I_clr_c (by omega), flS_c (by omega), g_sI_c (by omega), c54_71 x]
theorem r0_1 (x : Int32) : gR (st_1 x) 0 = fun _ => none := by unfold st_1; rw [R_clr_z]
theorem r0_2 (x : Int32) : gR (st_2 x) 0 = fun _ => none := by unfold st_2; rw [R_clr_c (by omega), r0_1 x]
theorem r0_3 (x : Int32) : gR (st_3 x) 0 = fun _ => none := by unfold st_3; rw [R_clr_c (by omega), r0_2 x]
theorem r0_4 (x : Int32) : gR (st_4 x) 0 = fun _ => none := by unfold st_4; rw [R_clr_c (by omega), r0_3 x]
theorem r0_5 (x : Int32) : gR (st_5 x) 0 = fun _ => none := by unfold st_5; rw [R_clr_c (by omega), r0_4 x]
theorem r0_6 (x : Int32) : gR (st_6 x) 0 = fun _ => none := by unfold st_6; rw [R_clr_c (by omega), R_flS, R_sI_c, r0_5 x]
theorem r0_7 (x : Int32) : gR (st_7 x) 0 = fun _ => none := by unfold st_7; rw [R_clr_c (by omega), r0_6 x]
theorem r0_8 (x : Int32) : gR (st_8 x) 0 = fun _ => none := by unfold st_8; rw [R_clr_c (by omega), r0_7 x]
theorem r0_9 (x : Int32) : gR (st_9 x) 0 = fun _ => none := by unfold st_9; rw [R_clr_c (by omega), r0_8 x]
theorem r0_10 (x : Int32) : gR (st_10 x) 0 = fun _ => none := by unfold st_10; rw [R_clr_c (by omega), R_flS, R_sI_c, r0_9 x]
theorem r0_11 (x : Int32) : gR (st_11 x) 0 = fun _ => none := by unfold st_11; rw [R_clr_c (by omega), r0_10 x]
theorem r0_12 (x : Int32) : gR (st_12 x) 0 = fun _ => none := by unfold st_12; rw [R_clr_c (by omega), r0_11 x]
theorem r0_13 (x : Int32) : gR (st_13 x) 0 = fun _ => none := by unfold st_13; rw [R_clr_c (by omega), r0_12 x]
theorem r0_14 (x : Int32) : gR (st_14 x) 0 = fun _ => none := by unfold st_14; rw [R_clr_c (by omega), r0_13 x]
theorem r0_15 (x : Int32) : gR (st_15 x) 0 = fun _ => none := by unfold st_15; rw [R_clr_c (by omega), r0_14 x]
theorem r0_16 (x : Int32) : gR (st_16 x) 0 = fun _ => none := by unfold st_16; rw [R_clr_c (by omega), r0_15 x]
theorem r0_17 (x : Int32) : gR (st_17 x) 0 = fun _ => none := by unfold st_17; rw [R_clr_c (by omega), r0_16 x]
theorem r0_18 (x : Int32) : gR (st_18 x) 0 = fun _ => none := by unfold st_18; rw [R_clr_c (by omega), r0_17 x]
theorem r0_19 (x : Int32) : gR (st_19 x) 0 = fun _ => none := by unfold st_19; rw [R_clr_c (by omega), R_sR_c (by omega), r0_18 x]
theorem r0_20 (x : Int32) : gR (st_20 x) 0 = fun _ => none := by unfold st_20; rw [R_clr_c (by omega), R_dgS, R_sR_c (by omega), r0_19 x]
theorem r0_21 (x : Int32) : gR (st_21 x) 0 = fun _ => none := by unfold st_21; rw [R_clr_c (by omega), r0_20 x]
theorem r0_22 (x : Int32) : gR (st_22 x) 0 = fun _ => none := by unfold st_22; rw [R_clr_c (by omega), r0_21 x]
theorem r0_23 (x : Int32) : gR (st_23 x) 0 = fun _ => none := by unfold st_23; rw [R_clr_c (by omega), r0_22 x]
theorem r0_24 (x : Int32) : gR (st_24 x) 0 = fun _ => none := by unfold st_24; rw [R_clr_c (by omega), r0_23 x]
theorem r0_25 (x : Int32) : gR (st_25 x) 0 = fun _ => none := by unfold st_25; rw [R_clr_c (by omega), r0_24 x]
theorem r0_26 (x : Int32) : gR (st_26 x) 0 = fun _ => none := by unfold st_26; rw [R_clr_c (by omega), r0_25 x]
theorem r0_27 (x : Int32) : gR (st_27 x) 0 = fun _ => none := by unfold st_27; rw [R_clr_c (by omega), r0_26 x]
theorem r0_28 (x : Int32) : gR (st_28 x) 0 = fun _ => none := by unfold st_28; rw [R_clr_c (by omega), R_sI_c, r0_27 x]
theorem r0_29 (x : Int32) : gR (st_29 x) 0 = fun _ => none := by unfold st_29; rw [R_clr_c (by omega), r0_28 x]
theorem r0_30 (x : Int32) : gR (st_30 x) 0 = fun _ => none := by unfold st_30; rw [R_clr_c (by omega), r0_29 x]
theorem r0_31 (x : Int32) : gR (st_31 x) 0 = fun _ => none := by unfold st_31; rw [R_clr_c (by omega), r0_30 x]
theorem r0_32 (x : Int32) : gR (st_32 x) 0 = fun _ => none := by unfold st_32; rw [R_clr_c (by omega), r0_31 x]
theorem r0_33 (x : Int32) : gR (st_33 x) 0 = fun _ => none := by unfold st_33; rw [R_clr_c (by omega), r0_32 x]
theorem r0_34 (x : Int32) : gR (st_34 x) 0 = fun _ => none := by unfold st_34; rw [R_clr_c (by omega), r0_33 x]
theorem r0_35 (x : Int32) : gR (st_35 x) 0 = fun _ => none := by unfold st_35; rw [R_clr_c (by omega), r0_34 x]
theorem r0_36 (x : Int32) : gR (st_36 x) 0 = fun _ => none := by unfold st_36; rw [R_clr_c (by omega), r0_35 x]
theorem r0_37 (x : Int32) : gR (st_37 x) 0 = fun _ => none := by unfold st_37; rw [R_clr_c (by omega), r0_36 x]
theorem r0_38 (x : Int32) : gR (st_38 x) 0 = fun _ => none := by unfold st_38; rw [R_clr_c (by omega), r0_37 x]
theorem r0_39 (x : Int32) : gR (st_39 x) 0 = fun _ => none := by unfold st_39; rw [R_clr_c (by omega), R_sI_c, R_sI_c, R_sI_c, r0_38 x]
theorem r0_40 (x : Int32) : gR (st_40 x) 0 = fun _ => none := by unfold st_40; rw [R_clr_c (by omega), r0_39 x]
theorem r0_41 (x : Int32) : gR (st_41 x) 0 = fun _ => none := by unfold st_41; rw [R_clr_c (by omega), r0_40 x]
theorem r0_42 (x : Int32) : gR (st_42 x) 0 = fun _ => none := by unfold st_42; rw [R_clr_c (by omega), r0_41 x]
theorem r0_43 (x : Int32) : gR (st_43 x) 0 = fun _ => none := by unfold st_43; rw [R_clr_c (by omega), r0_42 x]
theorem r0_44 (x : Int32) : gR (st_44 x) 0 = fun _ => none := by unfold st_44; rw [R_clr_c (by omega), r0_43 x]
theorem r0_45 (x : Int32) : gR (st_45 x) 0 = fun _ => none := by unfold st_45; rw [R_clr_c (by omega), R_sI_c, R_sI_c, R_sI_c, r0_44 x]
theorem r0_46 (x : Int32) : gR (st_46 x) 0 = fun _ => none := by unfold st_46; rw [R_clr_c (by omega), r0_45 x]
theorem r0_47 (x : Int32) : gR (st_47 x) 0 = fun _ => none := by unfold st_47; rw [R_clr_c (by omega), r0_46 x]
theorem r0_48 (x : Int32) : gR (st_48 x) 0 = fun _ => none := by unfold st_48; rw [R_clr_c (by omega), r0_47 x]
theorem r0_49 (x : Int32) : gR (st_49 x) 0 = fun _ => none := by unfold st_49; rw [R_clr_c (by omega), r0_48 x]
theorem r0_50 (x : Int32) : gR (st_50 x) 0 = fun _ => none := by unfold st_50; rw [R_clr_c (by omega), r0_49 x]
theorem r0_51 (x : Int32) : gR (st_51 x) 0 = fun _ => none := by unfold st_51; rw [R_clr_c (by omega), r0_50 x]
theorem r0_52 (x : Int32) : gR (st_52 x) 0 = fun _ => none := by unfold st_52; rw [R_clr_c (by omega), r0_51 x]
theorem r0_53 (x : Int32) : gR (st_53 x) 0 = fun _ => none := by unfold st_53; rw [R_clr_c (by omega), r0_52 x]
theorem r0_54 (x : Int32) : gR (st_54 x) 0 = fun _ => none := by unfold st_54; rw [R_clr_c (by omega), r0_53 x]
theorem r0_55 (x : Int32) : gR (st_55 x) 0 = fun _ => none := by unfold st_55; rw [R_clr_c (by omega), r0_54 x]
theorem r0_56 (x : Int32) : gR (st_56 x) 0 = fun _ => none := by unfold st_56; rw [R_clr_c (by omega), r0_55 x]
theorem r0_57 (x : Int32) : gR (st_57 x) 0 = fun _ => none := by unfold st_57; rw [R_clr_c (by omega), r0_56 x]
theorem r0_58 (x : Int32) : gR (st_58 x) 0 = fun _ => none := by unfold st_58; rw [R_clr_c (by omega), r0_57 x]
theorem r0_59 (x : Int32) : gR (st_59 x) 0 = fun _ => none := by unfold st_59; rw [R_clr_c (by omega), r0_58 x]
theorem r0_60 (x : Int32) : gR (st_60 x) 0 = fun _ => none := by unfold st_60; rw [R_clr_c (by omega), r0_59 x]
theorem r0_61 (x : Int32) : gR (st_61 x) 0 = fun _ => none := by unfold st_61; rw [R_clr_c (by omega), r0_60 x]
theorem r0_62 (x : Int32) : gR (st_62 x) 0 = fun _ => none := by unfold st_62; rw [R_clr_c (by omega), r0_61 x]
theorem r0_63 (x : Int32) : gR (st_63 x) 0 = fun _ => none := by unfold st_63; rw [R_clr_c (by omega), r0_62 x]
theorem r0_64 (x : Int32) : gR (st_64 x) 0 = fun _ => none := by unfold st_64; rw [R_clr_c (by omega), r0_63 x]
theorem r0_65 (x : Int32) : gR (st_65 x) 0 = fun _ => none := by unfold st_65; rw [R_clr_c (by omega), r0_64 x]
theorem r0_66 (x : Int32) : gR (st_66 x) 0 = fun _ => none := by unfold st_66; rw [R_clr_c (by omega), r0_65 x]
theorem r0_67 (x : Int32) : gR (st_67 x) 0 = fun _ => none := by unfold st_67; rw [R_clr_c (by omega), r0_66 x]
theorem r0_68 (x : Int32) : gR (st_68 x) 0 = fun _ => none := by unfold st_68; rw [R_clr_c (by omega), r0_67 x]
theorem r0_69 (x : Int32) : gR (st_69 x) 0 = fun _ => none := by unfold st_69; rw [R_clr_c (by omega), r0_68 x]
theorem r0_70 (x : Int32) : gR (st_70 x) 0 = fun _ => none := by unfold st_70; rw [R_clr_c (by omega), r0_69 x]
theorem r0_71 (x : Int32) : gR (st_71 x) 0 = fun _ => none := by unfold st_71; rw [R_clr_c (by omega), r0_70 x]
theorem r0_72 (x : Int32) : gR (st_72 x) 0 = fun _ => none := by unfold st_72; rw [R_clr_c (by omega), R_flS, R_sI_c, r0_71 x]
theorem r15_16 (x : Int32) : gR (st_16 x) 15 = fun _ => none := by unfold st_16; rw [R_clr_z]
theorem r15_17 (x : Int32) : gR (st_17 x) 15 = fun _ => none := by unfold st_17; rw [R_clr_c (by omega), r15_16 x]
theorem r15_18 (x : Int32) : gR (st_18 x) 15 = fun _ => none := by unfold st_18; rw [R_clr_c (by omega), r15_17 x]
theorem r15_19 (x : Int32) : gR (st_19 x) 15 = gR (sR (st_18 x) 15 1 (some 17)) 15 := by unfold st_19; rw [R_clr_c (by omega)]
theorem r15_20 (x : Int32) : gR (st_20 x) 15 = gR (sR (st_19 x) 15 2 (some 18)) 15 := by unfold st_20; rw [R_clr_c (by omega), R_dgS]
theorem r15_21 (x : Int32) : gR (st_21 x) 15 = gR (sR (st_19 x) 15 2 (some 18)) 15 := by unfold st_21; rw [R_clr_c (by omega), r15_20 x]
theorem r15_22 (x : Int32) : gR (st_22 x) 15 = gR (sR (st_19 x) 15 2 (some 18)) 15 := by unfold st_22; rw [R_clr_c (by omega), r15_21 x]
theorem r15_23 (x : Int32) : gR (st_23 x) 15 = gR (sR (st_19 x) 15 2 (some 18)) 15 := by unfold st_23; rw [R_clr_c (by omega), r15_22 x]
theorem r15_24 (x : Int32) : gR (st_24 x) 15 = gR (sR (st_19 x) 15 2 (some 18)) 15 := by unfold st_24; rw [R_clr_c (by omega), r15_23 x]
theorem r15_25 (x : Int32) : gR (st_25 x) 15 = gR (sR (st_19 x) 15 2 (some 18)) 15 := by unfold st_25; rw [R_clr_c (by omega), r15_24 x]
theorem r15_26 (x : Int32) : gR (st_26 x) 15 = gR (sR (st_19 x) 15 2 (some 18)) 15 := by unfold st_26; rw [R_clr_c (by omega), r15_25 x]
theorem r15_27 (x : Int32) : gR (st_27 x) 15 = gR (sR (st_19 x) 15 2 (some 18)) 15 := by unfold st_27; rw [R_clr_c (by omega), r15_26 x]
theorem r15_28 (x : Int32) : gR (st_28 x) 15 = gR (sR (st_19 x) 15 2 (some 18)) 15 := by unfold st_28; rw [R_clr_c (by omega), R_sI_c, r15_27 x]
theorem r15_29 (x : Int32) : gR (st_29 x) 15 = gR (sR (st_19 x) 15 2 (some 18)) 15 := by unfold st_29; rw [R_clr_c (by omega), r15_28 x]
theorem r15_30 (x : Int32) : gR (st_30 x) 15 = gR (sR (st_19 x) 15 2 (some 18)) 15 := by unfold st_30; rw [R_clr_c (by omega), r15_29 x]
theorem r15_31 (x : Int32) : gR (st_31 x) 15 = gR (sR (st_19 x) 15 2 (some 18)) 15 := by unfold st_31; rw [R_clr_c (by omega), r15_30 x]
theorem r15_32 (x : Int32) : gR (st_32 x) 15 = gR (sR (st_19 x) 15 2 (some 18)) 15 := by unfold st_32; rw [R_clr_c (by omega), r15_31 x]
theorem r15_33 (x : Int32) : gR (st_33 x) 15 = gR (sR (st_19 x) 15 2 (some 18)) 15 := by unfold st_33; rw [R_clr_c (by omega), r15_32 x]
theorem r15_34 (x : Int32) : gR (st_34 x) 15 = gR (sR (st_19 x) 15 2 (some 18)) 15 := by unfold st_34; rw [R_clr_c (by omega), r15_33 x]
theorem r15_35 (x : Int32) : gR (st_35 x) 15 = gR (sR (st_19 x) 15 2 (some 18)) 15 := by unfold st_35; rw [R_clr_c (by omega), r15_34 x]
theorem r15_36 (x : Int32) : gR (st_36 x) 15 = gR (sR (st_19 x) 15 2 (some 18)) 15 := by unfold st_36; rw [R_clr_c (by omega), r15_35 x]
theorem r15_37 (x : Int32) : gR (st_37 x) 15 = gR (sR (st_19 x) 15 2 (some 18)) 15 := by unfold st_37; rw [R_clr_c (by omega), r15_36 x]
theorem r15_38 (x : Int32) : gR (st_38 x) 15 = gR (sR (st_19 x) 15 2 (some 18)) 15 := by unfold st_38; rw [R_clr_c (by omega), r15_37 x]
theorem r15_39 (x : Int32) : gR (st_39 x) 15 = gR (sR (st_19 x) 15 2 (some 18)) 15 := by unfold st_39; rw [R_clr_c (by omega), R_sI_c, R_sI_c, R_sI_c, r15_38 x]
theorem r15_40 (x : Int32) : gR (st_40 x) 15 = gR (sR (st_19 x) 15 2 (some 18)) 15 := by unfold st_40; rw [R_clr_c (by omega), r15_39 x]
theorem r15_41 (x : Int32) : gR (st_41 x) 15 = gR (sR (st_19 x) 15 2 (some 18)) 15 := by unfold st_41; rw [R_clr_c (by omega), r15_40 x]
theorem r15_42 (x : Int32) : gR (st_42 x) 15 = gR (sR (st_19 x) 15 2 (some 18)) 15 := by unfold st_42; rw [R_clr_c (by omega), r15_41 x]
theorem r15_43 (x : Int32) : gR (st_43 x) 15 = gR (sR (st_19 x) 15 2 (some 18)) 15 := by unfold st_43; rw [R_clr_c (by omega), r15_42 x]
theorem r15_44 (x : Int32) : gR (st_44 x) 15 = gR (sR (st_19 x) 15 2 (some 18)) 15 := by unfold st_44; rw [R_clr_c (by omega), r15_43 x]
theorem r15_45 (x : Int32) : gR (st_45 x) 15 = gR (sR (st_19 x) 15 2 (some 18)) 15 := by unfold st_45; rw [R_clr_c (by omega), R_sI_c, R_sI_c, R_sI_c, r15_44 x]
theorem r15_46 (x : Int32) : gR (st_46 x) 15 = gR (sR (st_19 x) 15 2 (some 18)) 15 := by unfold st_46; rw [R_clr_c (by omega), r15_45 x]
theorem r15_47 (x : Int32) : gR (st_47 x) 15 = gR (sR (st_19 x) 15 2 (some 18)) 15 := by unfold st_47; rw [R_clr_c (by omega), r15_46 x]
theorem r15_48 (x : Int32) : gR (st_48 x) 15 = gR (sR (st_19 x) 15 2 (some 18)) 15 := by unfold st_48; rw [R_clr_c (by omega), r15_47 x]
theorem r15_49 (x : Int32) : gR (st_49 x) 15 = gR (sR (st_19 x) 15 2 (some 18)) 15 := by unfold st_49; rw [R_clr_c (by omega), r15_48 x]
theorem r15_50 (x : Int32) : gR (st_50 x) 15 = gR (sR (st_19 x) 15 2 (some 18)) 15 := by unfold st_50; rw [R_clr_c (by omega), r15_49 x]
theorem r15_51 (x : Int32) : gR (st_51 x) 15 = gR (sR (st_19 x) 15 2 (some 18)) 15 := by unfold st_51; rw [R_clr_c (by omega), r15_50 x]
theorem r15_52 (x : Int32) : gR (st_52 x) 15 = gR (sR (st_19 x) 15 2 (some 18)) 15 := by unfold st_52; rw [R_clr_c (by omega), r15_51 x]
theorem r15_53 (x : Int32) : gR (st_53 x) 15 = gR (sR (st_19 x) 15 2 (some 18)) 15 := by unfold st_53; rw [R_clr_c (by omega), r15_52 x]
theorem r15_54 (x : Int32) : gR (st_54 x) 15 = gR (sR (st_19 x) 15 2 (some 18)) 15 := by unfold st_54; rw [R_clr_c (by omega), r15_53 x]
theorem r15_55 (x : Int32) : gR (st_55 x) 15 = gR (sR (st_19 x) 15 2 (some 18)) 15 := by unfold st_55; rw [R_clr_c (by omega), r15_54 x]
theorem r15_56 (x : Int32) : gR (st_56 x) 15 = gR (sR (st_19 x) 15 2 (some 18)) 15 := by unfold st_56; rw [R_clr_c (by omega), r15_55 x]
theorem r15_57 (x : Int32) : gR (st_57 x) 15 = gR (sR (st_19 x) 15 2 (some 18)) 15 := by unfold st_57; rw [R_clr_c (by omega), r15_56 x]
theorem r15_58 (x : Int32) : gR (st_58 x) 15 = gR (sR (st_19 x) 15 2 (some 18)) 15 := by unfold st_58; rw [R_clr_c (by omega), r15_57 x]
theorem r15_59 (x : Int32) : gR (st_59 x) 15 = gR (sR (st_19 x) 15 2 (some 18)) 15 := by unfold st_59; rw [R_clr_c (by omega), r15_58 x]
theorem r15_60 (x : Int32) : gR (st_60 x) 15 = gR (sR (st_19 x) 15 2 (some 18)) 15 := by unfold st_60; rw [R_clr_c (by omega), r15_59 x]
theorem r15_61 (x : Int32) : gR (st_61 x) 15 = gR (sR (st_19 x) 15 2 (some 18)) 15 := by unfold st_61; rw [R_clr_c (by omega), r15_60 x]
theorem r15_62 (x : Int32) : gR (st_62 x) 15 = gR (sR (st_19 x) 15 2 (some 18)) 15 := by unfold st_62; rw [R_clr_c (by omega), r15_61 x]
theorem r15_63 (x : Int32) : gR (st_63 x) 15 = gR (sR (st_19 x) 15 2 (some 18)) 15 := by unfold st_63; rw [R_clr_c (by omega), r15_62 x]
theorem r15_64 (x : Int32) : gR (st_64 x) 15 = gR (sR (st_19 x) 15 2 (some 18)) 15 := by unfold st_64; rw [R_clr_c (by omega), r15_63 x]
theorem r15_65 (x : Int32) : gR (st_65 x) 15 = gR (sR (st_19 x) 15 2 (some 18)) 15 := by unfold st_65; rw [R_clr_c (by omega), r15_64 x]
theorem r15_66 (x : Int32) : gR (st_66 x) 15 = gR (sR (st_19 x) 15 2 (some 18)) 15 := by unfold st_66; rw [R_clr_c (by omega), r15_65 x]
theorem r15_67 (x : Int32) : gR (st_67 x) 15 = gR (sR (st_19 x) 15 2 (some 18)) 15 := by unfold st_67; rw [R_clr_c (by omega), r15_66 x]
theorem r15_68 (x : Int32) : gR (st_68 x) 15 = gR (sR (st_19 x) 15 2 (some 18)) 15 := by unfold st_68; rw [R_clr_c (by omega), r15_67 x]
theorem r15_69 (x : Int32) : gR (st_69 x) 15 = gR (sR (st_19 x) 15 2 (some 18)) 15 := by unfold st_69; rw [R_clr_c (by omega), r15_68 x]
theorem r15_70 (x : Int32) : gR (st_70 x) 15 = gR (sR (st_19 x) 15 2 (some 18)) 15 := by unfold st_70; rw [R_clr_c (by omega), r15_69 x]
theorem r15_71 (x : Int32) : gR (st_71 x) 15 = gR (sR (st_19 x) 15 2 (some 18)) 15 := by unfold st_71; rw [R_clr_c (by omega), r15_70 x]
theorem r15_72 (x : Int32) : gR (st_72 x) 15 = gR (sR (st_19 x) 15 2 (some 18)) 15 := by unfold st_72; rw [R_clr_c (by omega), R_flS, R_sI_c, r15_71 x]
theorem r19_20 (x : Int32) : gR (st_20 x) 19 = fun _ => none := by unfold st_20; rw [R_clr_z]
theorem r19_21 (x : Int32) : gR (st_21 x) 19 = fun _ => none := by unfold st_21; rw [R_clr_c (by omega), r19_20 x]
theorem r19_22 (x : Int32) : gR (st_22 x) 19 = fun _ => none := by unfold st_22; rw [R_clr_c (by omega), r19_21 x]
theorem r19_23 (x : Int32) : gR (st_23 x) 19 = fun _ => none := by unfold st_23; rw [R_clr_c (by omega), r19_22 x]
theorem r19_24 (x : Int32) : gR (st_24 x) 19 = fun _ => none := by unfold st_24; rw [R_clr_c (by omega), r19_23 x]
theorem r19_25 (x : Int32) : gR (st_25 x) 19 = fun _ => none := by unfold st_25; rw [R_clr_c (by omega), r19_24 x]
theorem r19_26 (x : Int32) : gR (st_26 x) 19 = fun _ => none := by unfold st_26; rw [R_clr_c (by omega), r19_25 x]
theorem r19_27 (x : Int32) : gR (st_27 x) 19 = fun _ => none := by unfold st_27; rw [R_clr_c (by omega), r19_26 x]
theorem r19_28 (x : Int32) : gR (st_28 x) 19 = fun _ => none := by unfold st_28; rw [R_clr_c (by omega), R_sI_c, r19_27 x]
theorem r19_29 (x : Int32) : gR (st_29 x) 19 = fun _ => none := by unfold st_29; rw [R_clr_c (by omega), r19_28 x]
theorem r19_30 (x : Int32) : gR (st_30 x) 19 = fun _ => none := by unfold st_30; rw [R_clr_c (by omega), r19_29 x]
theorem r19_31 (x : Int32) : gR (st_31 x) 19 = fun _ => none := by unfold st_31; rw [R_clr_c (by omega), r19_30 x]
theorem r19_32 (x : Int32) : gR (st_32 x) 19 = fun _ => none := by unfold st_32; rw [R_clr_c (by omega), r19_31 x]
theorem r19_33 (x : Int32) : gR (st_33 x) 19 = fun _ => none := by unfold st_33; rw [R_clr_c (by omega), r19_32 x]
theorem r19_34 (x : Int32) : gR (st_34 x) 19 = fun _ => none := by unfold st_34; rw [R_clr_c (by omega), r19_33 x]
theorem r19_35 (x : Int32) : gR (st_35 x) 19 = fun _ => none := by unfold st_35; rw [R_clr_c (by omega), r19_34 x]
theorem r19_36 (x : Int32) : gR (st_36 x) 19 = fun _ => none := by unfold st_36; rw [R_clr_c (by omega), r19_35 x]
theorem r19_37 (x : Int32) : gR (st_37 x) 19 = fun _ => none := by unfold st_37; rw [R_clr_c (by omega), r19_36 x]
theorem r19_38 (x : Int32) : gR (st_38 x) 19 = fun _ => none := by unfold st_38; rw [R_clr_c (by omega), r19_37 x]
theorem r19_39 (x : Int32) : gR (st_39 x) 19 = fun _ => none := by unfold st_39; rw [R_clr_c (by omega), R_sI_c, R_sI_c, R_sI_c, r19_38 x]
theorem r19_40 (x : Int32) : gR (st_40 x) 19 = fun _ => none := by unfold st_40; rw [R_clr_c (by omega), r19_39 x]
theorem r19_41 (x : Int32) : gR (st_41 x) 19 = fun _ => none := by unfold st_41; rw [R_clr_c (by omega), r19_40 x]
theorem r19_42 (x : Int32) : gR (st_42 x) 19 = fun _ => none := by unfold st_42; rw [R_clr_c (by omega), r19_41 x]
theorem r19_43 (x : Int32) : gR (st_43 x) 19 = fun _ => none := by unfold st_43; rw [R_clr_c (by omega), r19_42 x]
theorem r19_44 (x : Int32) : gR (st_44 x) 19 = fun _ => none := by unfold st_44; rw [R_clr_c (by omega), r19_43 x]
theorem r19_45 (x : Int32) : gR (st_45 x) 19 = fun _ => none := by unfold st_45; rw [R_clr_c (by omega), R_sI_c, R_sI_c, R_sI_c, r19_44 x]
theorem r19_46 (x : Int32) : gR (st_46 x) 19 = fun _ => none := by unfold st_46; rw [R_clr_c (by omega), r19_45 x]
theorem r19_47 (x : Int32) : gR (st_47 x) 19 = fun _ => none := by unfold st_47; rw [R_clr_c (by omega), r19_46 x]
theorem r19_48 (x : Int32) : gR (st_48 x) 19 = fun _ => none := by unfold st_48; rw [R_clr_c (by omega), r19_47 x]
theorem r19_49 (x : Int32) : gR (st_49 x) 19 = fun _ => none := by unfold st_49; rw [R_clr_c (by omega), r19_48 x]
theorem r19_50 (x : Int32) : gR (st_50 x) 19 = fun _ => none := by unfold st_50; rw [R_clr_c (by omega), r19_49 x]
theorem r19_51 (x : Int32) : gR (st_51 x) 19 = fun _ => none := by unfold st_51; rw [R_clr_c (by omega), r19_50 x]
theorem r19_52 (x : Int32) : gR (st_52 x) 19 = fun _ => none := by unfold st_52; rw [R_clr_c (by omega), r19_51 x]
theorem r19_53 (x : Int32) : gR (st_53 x) 19 = fun _ => none := by unfold st_53; rw [R_clr_c (by omega), r19_52 x]
theorem r19_54 (x : Int32) : gR (st_54 x) 19 = fun _ => none := by unfold st_54; rw [R_clr_c (by omega), r19_53 x]
theorem r19_55 (x : Int32) : gR (st_55 x) 19 = fun _ => none := by unfold st_55; rw [R_clr_c (by omega), r19_54 x]
theorem r19_56 (x : Int32) : gR (st_56 x) 19 = fun _ => none := by unfold st_56; rw [R_clr_c (by omega), r19_55 x]
theorem r19_57 (x : Int32) : gR (st_57 x) 19 = fun _ => none := by unfold st_57; rw [R_clr_c (by omega), r19_56 x]
theorem r19_58 (x : Int32) : gR (st_58 x) 19 = fun _ => none := by unfold st_58; rw [R_clr_c (by omega), r19_57 x]
theorem r19_59 (x : Int32) : gR (st_59 x) 19 = fun _ => none := by unfold st_59; rw [R_clr_c (by omega), r19_58 x]
theorem r19_60 (x : Int32) : gR (st_60 x) 19 = fun _ => none := by unfold st_60; rw [R_clr_c (by omega), r19_59 x]
theorem r19_61 (x : Int32) : gR (st_61 x) 19 = fun _ => none := by unfold st_61; rw [R_clr_c (by omega), r19_60 x]
theorem r19_62 (x : Int32) : gR (st_62 x) 19 = fun _ => none := by unfold st_62; rw [R_clr_c (by omega), r19_61 x]
theorem r19_63 (x : Int32) : gR (st_63 x) 19 = fun _ => none := by unfold st_63; rw [R_clr_c (by omega), r19_62 x]
theorem r19_64 (x : Int32) : gR (st_64 x) 19 = fun _ => none := by unfold st_64; rw [R_clr_c (by omega), r19_63 x]
theorem r19_65 (x : Int32) : gR (st_65 x) 19 = fun _ => none := by unfold st_65; rw [R_clr_c (by omega), r19_64 x]
theorem r19_66 (x : Int32) : gR (st_66 x) 19 = fun _ => none := by unfold st_66; rw [R_clr_c (by omega), r19_65 x]
theorem r19_67 (x : Int32) : gR (st_67 x) 19 = fun _ => none := by unfold st_67; rw [R_clr_c (by omega), r19_66 x]
theorem r19_68 (x : Int32) : gR (st_68 x) 19 = fun _ => none := by unfold st_68; rw [R_clr_c (by omega), r19_67 x]
theorem r19_69 (x : Int32) : gR (st_69 x) 19 = fun _ => none := by unfold st_69; rw [R_clr_c (by omega), r19_68 x]
theorem r19_70 (x : Int32) : gR (st_70 x) 19 = fun _ => none := by unfold st_70; rw [R_clr_c (by omega), r19_69 x]
theorem r19_71 (x : Int32) : gR (st_71 x) 19 = fun _ => none := by unfold st_71; rw [R_clr_c (by omega), r19_70 x]
theorem r19_72 (x : Int32) : gR (st_72 x) 19 = fun _ => none := by unfold st_72; rw [R_clr_c (by omega), R_flS, R_sI_c, r19_71 x]
