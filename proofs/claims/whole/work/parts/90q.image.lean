/-! IMAGE, BACK -/
def isVal (E : En) (o : Nat) : Prop := rk E o 8 = true ∧ (rk E (o + 1) 20 = true ∧ rk E (o + 2) 20 = true ∧ rk E (o + 3) 20 = true) ∧ (eL E (o + 1) = 12 ∧ eL E (o + 2) = 12 ∧ eL E (o + 3) = 12) ∧ eS E o 1 = some (o + 1) ∧ eS E o 2 = some (o + 2) ∧ eS E o 3 = some (o + 3)
theorem isVal_1 (X : En) : isVal (mk X) 1 := ⟨rfl, ⟨rfl, rfl, rfl⟩, ⟨rfl, rfl, rfl⟩, rfl, rfl, rfl⟩
theorem isV.val {X : En} {t : Nat} (h : isV X t) (hz : eZ X ≤ 1000000) : isVal (mk X) t := by
  obtain ⟨h1, h2, h3, h4, h5, h6, h7, h8, h9, h10, h11, h12⟩ := h
  refine ⟨rk_t h1 (by omega) h3, ⟨rk_t (by omega) (by omega) h4, rk_t (by omega) (by omega) h5, rk_t (by omega) (by omega) h6⟩, ⟨?_, ?_, ?_⟩, ?_, ?_, ?_⟩
  · rw [mk_L (by omega)]; exact h7
  · rw [mk_L (by omega)]; exact h8
  · rw [mk_L (by omega)]; exact h9
  · rw [mk_S h1]; exact h10
  · rw [mk_S h1]; exact h11
  · rw [mk_S h1]; exact h12
theorem beq_ne {a b : Nat} (h : a ≠ b) : (!(Nat.beq a b)) = true := by
  cases c : Nat.beq a b with
  | false => rfl
  | true => exact absurd (Nat.eq_of_beq_eq_true c) h
theorem cp12 {n : Nat} (h : n = 12) : (decide (¬ (12 : Int32) < 0) && Nat.ble (12 : Int32).toNatClampNeg n && Nat.ble (12 : Int32).toNatClampNeg n) = true := by
  subst h
  rfl
theorem cp12' {n m : Nat} (h : n = 12) (h2 : m = 12) : (decide (¬ (12 : Int32) < 0) && Nat.ble (12 : Int32).toNatClampNeg n && Nat.ble (12 : Int32).toNatClampNeg m) = true := by
  subst h; subst h2
  rfl
def bgS (o q : Nat) (σ : St) : St := sI (sI (sI (sI (sI (sI (cpI (cpI (cpI (sI σ o 0 (gI σ q 0)) (q + 1) 0 (o + 1) 0 12) (q + 2) 0 (o + 2) 0 12) (q + 1) 0 (o + 3) 0 12) o 7 0) o 8 0) o 9 0) o 10 0) o 11 0) o 12 0
theorem g_begin {X : En} {o q : Nat} {σ : St} (ho : isVal (mk X) o) (hq : isVal (mk X) q) (d : o + 3 < q ∨ q + 3 < o) : g_X7_beginAs o q X σ = some (X, bgS o q σ) := by
  obtain ⟨o0, ⟨o1, o2, o3⟩, ⟨o4, o5, o6⟩, o7, o8, o9⟩ := ho
  obtain ⟨q0, ⟨q1, q2, q3⟩, ⟨q4, q5, q6⟩, q7, q8, q9⟩ := hq
  unfold g_X7_beginAs g_X7_beginAs_b
  rw [gd_t o0, gd_t q0, bnd q7, gd_t q1, bnd o7, gd_t o1, gd_t (beq_ne (by omega)), gd_t (cp12' q4 o4)]
  unfold g_X7_beginAs_23
  rw [gd_t o0, gd_t q0, bnd q8, gd_t q2, bnd o8, gd_t o2, gd_t (beq_ne (by omega)), gd_t (cp12' q5 o5), bnd q7, gd_t q1, bnd o9, gd_t o3, gd_t (beq_ne (by omega)), gd_t (cp12' q4 o6)]
  unfold g_X7_beginAs_53 g_X7_startCounts g_X7_startCounts_b
  rw [gd_t o0, gd_t o0]
  simp only [Option.bind_some]
  rw [wrp]
  simp only [Option.bind_some]
  rw [gd_t o0]
  simp only [Option.bind_some]
  rw [wrp]
  rfl
def bcS (o q : Nat) (σ : St) : St :=
  sI (sI (sI (sI (sI (sI (sJ (sI (sI (bgS o q σ) o 4 (gI σ q 4)) o 5 (gI σ q 5)) o 6 (gJ σ q 6)) o 7 (gI σ q 7)) o 8 (gI σ q 8)) o 9 (gI σ q 9)) o 10 (gI σ q 10)) o 11 (gI σ q 11)) o 12 (gI σ q 12)
theorem bgS_q {o q : Nat} {σ : St} (d : o + 3 < q ∨ q + 3 < o) (a b : Nat) (h1 : q ≤ a) (h2 : a ≤ q + 3) : gI (bgS o q σ) a b = gI σ a b := by
  unfold bgS
  rw [g_sI_c (by omega), g_sI_c (by omega), g_sI_c (by omega), g_sI_c (by omega), g_sI_c (by omega), g_sI_c (by omega), gI_cpI, if_neg (by omega), gI_cpI, if_neg (by omega), gI_cpI, if_neg (by omega), g_sI_c (by omega)]
theorem g_become {X : En} {o q : Nat} {σ : St} (ho : isVal (mk X) o) (hq : isVal (mk X) q) (d : o + 3 < q ∨ q + 3 < o) : g_X7_becomeAs o q X σ = some (X, bcS o q σ) := by
  have o0 := ho.1
  have q0 := hq.1
  have hne : q ≠ o := by omega
  unfold g_X7_becomeAs g_X7_becomeAs_b
  rw [gd_t o0, gd_t q0, bnd (g_begin ho hq d)]
  simp only [gd_t o0, gd_t q0]
  unfold g_X7_becomeAs_21 g_X7_becomeAs_37 g_X7_becomeAs_53 g_X7_becomeAs_69
  simp only [gd_t o0, gd_t q0]
  simp only [Option.bind_some]
  rw [wrp]
  unfold bcS
  have c : ∀ (τ : St) (k : Nat) (v : Int32), gI (sI τ o k v) q = gI τ q := fun τ k v => g_sI_c hne
  have cj : ∀ (τ : St) (k : Nat) (v : Int64), gI (sJ τ o k v) q = gI τ q := fun τ k v => rfl
  have b : ∀ k, gI (bgS o q σ) q k = gI σ q k := fun k => bgS_q d q k (by omega) (by omega)
  have bj : gJ (bgS o q σ) q 6 = gJ σ q 6 := rfl
  simp only [c, cj, b, gJ_sI, bj]
/-- what becomes of the cells -/
theorem bcS_is {o q : Nat} {σ : St} (d : o + 3 < q ∨ q + 3 < o) : gI (bcS o q σ) o 0 = gI σ q 0 ∧ (∀ j, j < 12 → gI (bcS o q σ) (o + 1) j = gI σ (q + 1) j ∧ gI (bcS o q σ) (o + 2) j = gI σ (q + 2) j) ∧ (∀ j, 12 ≤ j → gI (bcS o q σ) (o + 1) j = gI σ (o + 1) j ∧ gI (bcS o q σ) (o + 2) j = gI σ (o + 2) j) ∧ gI (bcS o q σ) o 4 = gI σ q 4 ∧ gI (bcS o q σ) o 5 = gI σ q 5 ∧ gJ (bcS o q σ) o 6 = gJ σ q 6 ∧ (∀ k, k < 6 → gI (bcS o q σ) o (7 + k) = gI σ q (7 + k)) := by
  unfold bcS bgS
  refine ⟨?_, fun j hj => ⟨?_, ?_⟩, fun j hj => ⟨?_, ?_⟩, ?_, ?_, ?_, ?_⟩
  · simp [gI_sI, gI_sJ, gI_sR, gJ_sI, gJ_sJ, gJ_sR, gR_sI, gR_sJ, gR_sR, gI_cpI]
  · have e1 : ¬ q + 1 = o := by omega
    have e2 : ¬ q + 1 = o + 1 := by omega
    simp [gI_sI, gI_sJ, gI_sR, gJ_sI, gJ_sJ, gJ_sR, gR_sI, gR_sJ, gR_sR, gI_cpI, hj, e1]
  · have e1 : ¬ q + 2 = o := by omega
    have e2 : ¬ q + 2 = o + 1 := by omega
    simp [gI_sI, gI_sJ, gI_sR, gJ_sI, gJ_sJ, gJ_sR, gR_sI, gR_sJ, gR_sR, gI_cpI, hj, e1, e2]
  · have e1 : ¬ j < 12 := by omega
    simp [gI_sI, gI_sJ, gI_sR, gJ_sI, gJ_sJ, gJ_sR, gR_sI, gR_sJ, gR_sR, gI_cpI, e1]
  · have e1 : ¬ j < 12 := by omega
    simp [gI_sI, gI_sJ, gI_sR, gJ_sI, gJ_sJ, gJ_sR, gR_sI, gR_sJ, gR_sR, gI_cpI, e1]
  · simp [gI_sI, gI_sJ, gI_sR, gJ_sI, gJ_sJ, gJ_sR, gR_sI, gR_sJ, gR_sR]
  · simp [gI_sI, gI_sJ, gI_sR, gJ_sI, gJ_sJ, gJ_sR, gR_sI, gR_sJ, gR_sR]
  · simp [gI_sI, gI_sJ, gI_sR, gJ_sI, gJ_sJ, gJ_sR, gR_sI, gR_sJ, gR_sR]
  · intro k hk
    have hc : k = 0 ∨ k = 1 ∨ k = 2 ∨ k = 3 ∨ k = 4 ∨ k = 5 := by omega
    rcases hc with rfl | rfl | rfl | rfl | rfl | rfl <;> simp [gI_sI, gI_sJ, gI_sR, gJ_sI, gJ_sJ, gJ_sR, gR_sI, gR_sJ, gR_sR]
theorem bcS_o {o q : Nat} {σ : St} (a b : Nat) (h : a < o ∨ o + 3 < a) : gI (bcS o q σ) a b = gI σ a b ∧ gJ (bcS o q σ) a b = gJ σ a b ∧ gR (bcS o q σ) a b = gR σ a b := by
  unfold bcS bgS
  have e0 : ¬ a = o := by omega
  have e1 : ¬ a = o + 1 := by omega
  have e2 : ¬ a = o + 2 := by omega
  have e3 : ¬ a = o + 3 := by omega
  refine ⟨?_, ?_, ?_⟩
  · simp [gI_sI, gI_sJ, gI_sR, gJ_sI, gJ_sJ, gJ_sR, gR_sI, gR_sJ, gR_sR, gI_cpI, e0, e1, e2, e3]
  · simp [gI_sI, gI_sJ, gI_sR, gJ_sI, gJ_sJ, gJ_sR, gR_sI, gR_sJ, gR_sR, gJ_cpI, e0]
  · simp [gI_sI, gI_sJ, gI_sR, gJ_sI, gJ_sJ, gJ_sR, gR_sI, gR_sJ, gR_sR, gR_cpI]
theorem bcS_R {o q : Nat} {σ : St} (a b : Nat) : gR (bcS o q σ) a b = gR σ a b := by
  unfold bcS bgS
  simp [gI_sI, gI_sJ, gI_sR, gJ_sI, gJ_sJ, gJ_sR, gR_sI, gR_sJ, gR_sR, gR_cpI]
