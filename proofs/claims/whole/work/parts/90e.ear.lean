/-! HEARD AND MISHEARD -/
def lcJ (D : Int64) : Int64 := D * 6364136223846793005 + 1442695040888963407
def lcN (D : Int64) : Nat → Int64
  | 0 => D
  | t + 1 => lcJ (lcN D t)
def drI (D : Int64) : Int32 := (rmJ (ushJ D 33) 100).toInt32
theorem ush33 (D : Int64) : ∃ k : Nat, k < 2147483648 ∧ ushJ D 33 = jZ (k : Int) := by
  refine ⟨(D.toUInt64.toNat >>> 33), ?_, ?_⟩
  · have h := D.toUInt64.toNat_lt
    rw [Nat.shiftRight_eq_div_pow]
    have e : 2 ^ 33 = 8589934592 := by decide
    rw [e]
    omega
  · apply Int64.toBitVec_inj.mp
    have e1 : (ushJ D 33).toBitVec = D.toBitVec >>> 33 := by
      show D.toBitVec >>> ((((33 : Int32).toInt64.toUInt64 &&& Int64.toUInt64 63)).toBitVec % 64) = _
      have : (((33 : Int32).toInt64.toUInt64 &&& Int64.toUInt64 63)).toBitVec % 64 = BitVec.ofNat 64 33 := by decide
      rw [this]
      rfl
    rw [e1]
    apply BitVec.eq_of_toNat_eq
    rw [BitVec.toNat_ushiftRight]
    have h := D.toUInt64.toNat_lt
    have e2 : D.toBitVec.toNat = D.toUInt64.toNat := rfl
    rw [e2]
    have hk : D.toUInt64.toNat >>> 33 < 2147483648 := by
      rw [Nat.shiftRight_eq_div_pow]
      have e : 2 ^ 33 = 8589934592 := by decide
      rw [e]; omega
    generalize D.toUInt64.toNat >>> 33 = k at hk ⊢
    have e3 : jZ (k : Int) = Int64.ofNat k := by
      unfold jZ
      exact Int64.ofInt_eq_ofNat
    rw [e3]
    show k = (BitVec.ofNat 64 k).toNat
    rw [BitVec.toNat_ofNat, Nat.mod_eq_of_lt (by omega)]
theorem dr_rg (D : Int64) : rg (drI D) 0 99 := by
  obtain ⟨k, hk, e⟩ := ush33 D
  unfold drI rg
  have h100 : (100 : Int64) = jZ 100 := rfl
  rw [e, h100, jZ_rm (by omega) (by omega) (by omega) (by omega), jZ_i, iZ_toInt (by omega) (by omega)]
  omega
def hearZ (E : Nat → Int32) (d : Nat) (x : Int32) : Nat → Nat → Int32 → Int32
  | 0, _, _ => iZ (d : Int)
  | m + 1, k, s => if k = d then hearZ E d x m (k + 1) s else if s + E (10 * d + k) ≤ x then hearZ E d x m (k + 1) (s + E (10 * d + k)) else iZ (k : Int)
theorem c_hears_go (σ : St) (d : Nat) (hd : d < 10) (x : Int32) : ∀ m n k : Nat, ∀ s : Int32, k + m = 10 → m < n → f_X1_hears_5 n (iZ (d : Int)) x s (iZ (k : Int)) σ = some (hearZ (gI σ 16) d x m k s, σ) := by
  intro m
  induction m with
  | zero =>
    intro n k s e hn
    cases n with
    | zero => omega
    | succ n =>
      rw [f_X1_hears_5, if_pos (by rw [lI, iZt (by omega), t_9]; omega)]
      rfl
  | succ m ih =>
    intro n k s e hn
    cases n with
    | zero => omega
    | succ n =>
      rw [f_X1_hears_5, if_neg (by rw [lI, iZt (by omega), t_9]; omega)]
      unfold f_X1_hears_33 f_X1_hears_41
      rw [ten_a, iZa, gd_t (iZb (show 10 * d + k < 100 by omega) (by omega)), iZc (show 10 * d + k < 2147483648 by omega), iZs, ih n (k + 1) _ (by omega) (by omega), ih n (k + 1) _ (by omega) (by omega)]
      show _ = some (if k = d then hearZ (gI σ 16) d x m (k + 1) s else if s + gI σ 16 (10 * d + k) ≤ x then hearZ (gI σ 16) d x m (k + 1) (s + gI σ 16 (10 * d + k)) else iZ (k : Int), σ)
      by_cases c : k = d
      · subst c
        rw [if_pos rfl, if_pos rfl]
      · rw [if_neg (by rw [eI, iZt (by omega), iZt (by omega)]; omega), if_neg c]
        split <;> rfl
theorem c_hears (σ : St) (d : Nat) (hd : d < 10) (x : Int32) : f_X1_hears (iZ (d : Int)) x σ = some (hearZ (gI σ 16) d x 10 0 0, σ) :=
  c_hears_go σ d hd x 10 FU 0 0 (by omega) (by unfold FU; omega)
theorem m_heard_go (σ : St) (E : Nat → Int32) (d : Nat) (hd : d < 10) (x : Int32) (hE : ∀ k, k < 10 → k ≠ d → gI σ 45 (10 * d + k) = E (10 * d + k)) (h0 : gI σ 45 (11 * d) = 0) : ∀ m n k : Nat, ∀ s : Int32, k + m = 10 → m < n → s ≤ x → f_X10_heard_19 n (iZ (d : Int)) x s (iZ (k : Int)) σ = some (hearZ E d x m k s, σ) := by
  intro m
  induction m with
  | zero =>
    intro n k s e hn hs
    cases n with
    | zero => omega
    | succ n =>
      rw [f_X10_heard_19, if_pos (by rw [leI, iZt (by omega), t_10]; omega)]
      rfl
  | succ m ih =>
    intro n k s e hn hs
    cases n with
    | zero => omega
    | succ n =>
      rw [f_X10_heard_19, if_neg (by rw [leI, iZt (by omega), t_10]; omega)]
      unfold f_X10_heard_41
      rw [ten_a, iZa, gd_t (iZb (show 10 * d + k < 100 by omega) (by omega)), iZc (show 10 * d + k < 2147483648 by omega), iZs]
      show _ = some (if k = d then hearZ E d x m (k + 1) s else if s + E (10 * d + k) ≤ x then hearZ E d x m (k + 1) (s + E (10 * d + k)) else iZ (k : Int), σ)
      by_cases c : k = d
      · subst c
        have e0 : gI σ 45 (10 * k + k) = 0 := by rw [← h0]; congr 1; omega
        rw [if_pos rfl, e0, Int32.add_zero, if_pos hs]
        exact ih n (k + 1) s (by omega) (by omega) hs
      · rw [if_neg c, hE k (by omega) c]
        by_cases c2 : s + E (10 * d + k) ≤ x
        · rw [if_pos c2, if_pos c2]
          exact ih n (k + 1) _ (by omega) (by omega) c2
        · rw [if_neg c2, if_neg c2]
theorem hear_rg (E : Nat → Int32) (d : Nat) (hd : d < 10) (x : Int32) : ∀ m k : Nat, ∀ s : Int32, k + m = 10 → rg (hearZ E d x m k s) 0 9
  | 0, k, s, _ => by
    show rg (iZ (d : Int)) 0 9
    unfold rg
    rw [iZt (by omega)]; omega
  | m + 1, k, s, e => by
    rw [hearZ]
    split
    · exact hear_rg E d hd x m (k + 1) s (by omega)
    · split
      · exact hear_rg E d hd x m (k + 1) _ (by omega)
      · unfold rg
        rw [iZt (by omega)]; omega
abbrev heI (E : Nat → Int32) (D : Int64) (v t r : Nat) : Int32 := hearZ E (dgN v r) (drI (lcN D (t + 1))) 10 0 0
theorem lcN_s (D : Int64) (t : Nat) : lcN D (t + 1) = lcJ (lcN D t) := rfl
theorem c_bringe_go {o R : Nat} {F E : Nat → Int32} {D : Int64} (ho : 17 ≤ o ∨ o + 3 < 16) (hR : R ≤ 12) (v N : Nat) (hv : v < 10 ^ 9) (hN : N ≤ R) (x2 x3 : Int32) : ∀ m n : Nat, ∀ σ : St, ∀ V : Vl, m ≤ N → m < n → gI σ 16 = E → gJ σ o 6 = lcN D (N - m) → relC o R F σ V → ∃ σ', f_X7_bring_e_34 o n (iZ (v : Int)) x2 x3 (iZ ((N : Int) - 1)) (iZ ((N - m : Nat) : Int)) σ = some σ' ∧ relC o R F σ' (bringV F R (fun t r => sgZ x2 (heI E D v t r)) x3 N m V) ∧ gJ σ' o 6 = lcN D N := by
  have e9 : 10 ^ 9 = 1000000000 := by decide
  have e18 : 10 ^ 18 = 1000000000000000000 := by decide
  have ev : (iZ (v : Int)).toInt64 = jZ (v : Int) := iZ_l (by omega) (by omega)
  intro m
  induction m with
  | zero =>
    intro n σ V e hn hE hD h
    cases n with
    | zero => omega
    | succ n =>
      rw [f_X7_bring_e_34, if_pos (by rw [lI, iZ_toInt (by omega) (by omega), iZt (by omega)]; omega)]
      exact ⟨_, rfl, h, hD⟩
  | succ m ih =>
    intro n σ V e hn hE hD h
    cases n with
    | zero => omega
    | succ n =>
      rw [f_X7_bring_e_34, if_neg (by rw [lI, iZ_toInt (by omega) (by omega), iZt (by omega)]; omega)]
      have ht := turn_iZ (x := x3) (show m < N by omega)
      have hl := turn_lt (x := x3) (show m < N by omega)
      have eq : (if x3 = 0 then f_X7_bring_e_55 o (f_X7_bring_e_34 o n) (iZ (v : Int)) x2 x3 (iZ ((N : Int) - 1)) (iZ ((N - (m + 1) : Nat) : Int)) (iZ ((N - (m + 1) : Nat) : Int)) σ else f_X7_bring_e_55 o (f_X7_bring_e_34 o n) (iZ (v : Int)) x2 x3 (iZ ((N : Int) - 1)) (iZ ((N - (m + 1) : Nat) : Int)) (iZ ((N : Int) - 1) - iZ ((N - (m + 1) : Nat) : Int)) σ) = f_X7_bring_e_55 o (f_X7_bring_e_34 o n) (iZ (v : Int)) x2 x3 (iZ ((N : Int) - 1)) (iZ ((N - (m + 1) : Nat) : Int)) (iZ (turnR x3 N (N - (m + 1)) : Int)) σ := by
        rw [← ht]; split <;> rfl
      rw [eq]
      show ∃ σ', _ ∧ relC o R F σ' (bringV F R (fun t r => sgZ x2 (heI E D v t r)) x3 N m (driveV F (R - turnR x3 N (N - (m + 1))) (turnR x3 N (N - (m + 1))) (sgZ x2 (heI E D v (N - (m + 1)) (turnR x3 N (N - (m + 1))))) V)) ∧ _
      generalize turnR x3 N (N - (m + 1)) = r at hl ⊢
      unfold f_X7_bring_e_55 f_X7_bring_e_87 f_X7_bring_e_104 f_X7_draw f_X7_draw_16
      have hd : dgN v r < 10 := Nat.mod_lt _ (by omega)
      rw [ev, s_digitOf9 σ v r (by omega) (by omega)]
      simp only [Option.bind_some]
      rw [c_hears _ (dgN v r) hd]
      simp only [Option.bind_some]
      have h' : relC o R F (sJ σ o 6 (gJ σ o 6 * 6364136223846793005 + 1442695040888963407)) V := h
      have eD : gJ (sJ σ o 6 (gJ σ o 6 * 6364136223846793005 + 1442695040888963407)) o 6 = lcN D (N - (m + 1) + 1) := by
        rw [lcN_s, ← hD]
        simp [gI_sI, gI_sJ, gI_sR, gJ_sI, gJ_sJ, gJ_sR, gR_sI, gR_sJ, gR_sR, lcJ]
      have eE : gI (sJ σ o 6 (gJ σ o 6 * 6364136223846793005 + 1442695040888963407)) 16 = E := hE
      rw [eE, eD]
      generalize sJ σ o 6 (gJ σ o 6 * 6364136223846793005 + 1442695040888963407) = σ1 at h' eD eE ⊢
      show ∃ σ', (if x2 = 0 then (f_X7_drive o (iZ (r : Int)) (heI E D v (N - (m + 1)) r) σ1).bind _ else (f_X7_drive o (iZ (r : Int)) (-(heI E D v (N - (m + 1)) r)) σ1).bind _) = _ ∧ _
      obtain ⟨σ', e1, h1⟩ := c_drive hR h' r (by omega) (sgZ x2 (heI E D v (N - (m + 1)) r))
      have e2 : iZ ((N - (m + 1) : Nat) : Int) + 1 = iZ ((N - m : Nat) : Int) := by
        rw [iZs]; congr 2; omega
      have sm := fr_X7_drive o e1
      have k1 : gI σ' 16 = E := by
        rw [← eE]; funext j
        exact (sm 16 j (by simp; omega) (by simp; omega)).1
      have k2 : gJ σ' o 6 = lcN D (N - m) := by
        rw [(sm o 6 (by simp) (by simp)).2.1, eD]; congr 1; omega
      unfold sgZ at e1
      by_cases c : x2 = 0
      · rw [if_pos c] at e1 ⊢
        simp only [e1, Option.bind_some, e2]
        exact ih n _ _ (by omega) (by omega) k1 k2 h1
      · rw [if_neg c] at e1 ⊢
        simp only [e1, Option.bind_some, e2]
        exact ih n _ _ (by omega) (by omega) k1 k2 h1
theorem c_bring_e {o R : Nat} {F : Nat → Int32} {σ : St} {V : Vl} (ho : 17 ≤ o ∨ o + 3 < 16) (hR : R ≤ 12) (h : relC o R F σ V) (v : Nat) (hv : v < 10 ^ 9) (x2 x3 : Int32) : ∃ σ', f_X7_bring_e o (iZ (v : Int)) x2 x3 σ = some σ' ∧ relC o R F σ' (bringV F R (fun t r => sgZ x2 (heI (gI σ 16) (gJ σ o 6) v t r)) x3 (topN v R) (topN v R) (ovIf v R V)) ∧ gJ σ' o 6 = lcN (gJ σ o 6) (topN v R) := by
  have e9 : 10 ^ 9 = 1000000000 := by decide
  have hp := p12 hR
  have ev : (iZ (v : Int)).toInt64 = jZ (v : Int) := iZ_l (by omega) (by omega)
  have ht := top_le v R hR
  unfold f_X7_bring_e f_X7_bring_e_24
  rw [h.1, gd_t (iZb (show R < 13 by omega) (by omega)), iZc (show R < 2147483648 by omega), tens_jZ (by omega), ev, jpow]
  have hc : (lg_cmp (jZ (v : Int)) (jZ ((10 ^ R : Nat) : Int)) < 0) = (v < 10 ^ R) := by
    generalize 10 ^ R = P at hp ⊢
    rw [cmL, jZ_lt (by omega) (by omega) (by omega) (by omega)]
    exact propext (by omega)
  simp only [hc]
  have go : ∀ σ' V, gI σ' 16 = gI σ 16 → gJ σ' o 6 = gJ σ o 6 → relC o R F σ' V → ∃ σ'', ((f_X7_topRope o (iZ (v : Int)) σ').bind fun p1 => f_X7_bring_e_34 o FU (iZ (v : Int)) x2 x3 p1.1 0 p1.2) = some σ'' ∧ relC o R F σ'' (bringV F R (fun t r => sgZ x2 (heI (gI σ 16) (gJ σ o 6) v t r)) x3 (topN v R) (topN v R) V) ∧ gJ σ'' o 6 = lcN (gJ σ o 6) (topN v R) := by
    intro σ' V hE hD h
    rw [c_topRope h.1 hR v hv]
    simp only [Option.bind_some]
    have := c_bringe_go (o := o) (F := F) (D := gJ σ o 6) ho hR v (topN v R) hv ht x2 x3 (topN v R) FU σ' V (by omega) (by unfold FU; omega) hE (by rw [Nat.sub_self]; exact hD) h
    rw [Nat.sub_self] at this
    exact this
  unfold ovIf
  by_cases c : v < 10 ^ R
  · rw [if_pos c, if_pos c]; exact go σ V rfl rfl h
  · rw [if_neg c, if_neg c]; exact go _ _ (g_sI_c (by omega)) rfl h.ov
theorem m_adde_go {R : Nat} {F E : Nat → Int32} {D : Int64} {p q a t : Int32} (hR : R ≤ 12) (hF : okF F) (v N : Nat) (hv : v < 10 ^ 9) (hN : N ≤ R) (x2 x3 : Int32) (hs : x2 = 1 ∨ x2 = -1) : ∀ m n : Nat, ∀ σ : St, ∀ V : Vl, m ≤ N → m < n → okD V → gI σ 38 11 = x3 → gI σ 38 21 = 0 → (∀ d, d < 10 → (∀ k, k < 10 → k ≠ d → gI σ 45 (10 * d + k) = E (10 * d + k)) ∧ gI σ 45 (11 * d) = 0) → gJ σ 38 18 = lcN D (N - m) → relM R F p q a t σ V → ∃ σ', f_X10_addOf_85 n (iZ (v : Int)) x2 (iZ ((N : Int) - 1)) (iZ ((N - m : Nat) : Int)) σ = some σ' ∧ relM R F p q (a + 1) t σ' (bringV F R (fun t r => x2 * heI E D v t r) x3 N m V) ∧ okD (bringV F R (fun t r => x2 * heI E D v t r) x3 N m V) ∧ gJ σ' 38 18 = lcN D N := by
  have e9 : 10 ^ 9 = 1000000000 := by decide
  have e18 : 10 ^ 18 = 1000000000000000000 := by decide
  have ev : (iZ (v : Int)).toInt64 = jZ (v : Int) := iZ_l (by omega) (by omega)
  intro m
  induction m with
  | zero =>
    intro n σ V e hn ok ho hp hE hD h
    cases n with
    | zero => omega
    | succ n =>
      rw [f_X10_addOf_85, if_pos (by rw [lI, iZ_toInt (by omega) (by omega), iZt (by omega)]; omega), n_18]
      exact ⟨_, rfl, h.ac, ok, hD⟩
  | succ m ih =>
    intro n σ V e hn ok ho hp hE hD h
    cases n with
    | zero => omega
    | succ n =>
      rw [f_X10_addOf_85, if_neg (by rw [lI, iZ_toInt (by omega) (by omega), iZt (by omega)]; omega), ho]
      have ht := turn_iZ (x := x3) (show m < N by omega)
      have hl := turn_lt (x := x3) (show m < N by omega)
      have eq : (if x3 = 0 then f_X10_addOf_107 (f_X10_addOf_85 n) (iZ (v : Int)) x2 (iZ ((N : Int) - 1)) (iZ ((N - (m + 1) : Nat) : Int)) (iZ ((N - (m + 1) : Nat) : Int)) σ else f_X10_addOf_107 (f_X10_addOf_85 n) (iZ (v : Int)) x2 (iZ ((N : Int) - 1)) (iZ ((N - (m + 1) : Nat) : Int)) (iZ ((N : Int) - 1) - iZ ((N - (m + 1) : Nat) : Int)) σ) = f_X10_addOf_107 (f_X10_addOf_85 n) (iZ (v : Int)) x2 (iZ ((N : Int) - 1)) (iZ ((N - (m + 1) : Nat) : Int)) (iZ (turnR x3 N (N - (m + 1)) : Int)) σ := by
        rw [← ht]; split <;> rfl
      rw [eq]
      show ∃ σ', _ ∧ relM R F p q (a + 1) t σ' (bringV F R (fun t r => x2 * heI E D v t r) x3 N m (driveV F (R - turnR x3 N (N - (m + 1))) (turnR x3 N (N - (m + 1))) (x2 * heI E D v (N - (m + 1)) (turnR x3 N (N - (m + 1)))) V)) ∧ okD (bringV F R (fun t r => x2 * heI E D v t r) x3 N m (driveV F (R - turnR x3 N (N - (m + 1))) (turnR x3 N (N - (m + 1))) (x2 * heI E D v (N - (m + 1)) (turnR x3 N (N - (m + 1)))) V)) ∧ _
      generalize turnR x3 N (N - (m + 1)) = r at hl ⊢
      unfold f_X10_addOf_107 f_X10_heard f_X10_draw f_X10_draw_16
      have hd : dgN v r < 10 := Nat.mod_lt _ (by omega)
      rw [ev, s_digitOf10 σ v r (by omega) (by omega)]
      simp only [Option.bind_some, if_pos hp]
      have eD : gJ (sJ σ 38 18 (gJ σ 38 18 * 6364136223846793005 + 1442695040888963407)) 38 18 = lcN D (N - (m + 1) + 1) := by
        rw [lcN_s, ← hD]
        simp [gI_sI, gI_sJ, gI_sR, gJ_sI, gJ_sJ, gJ_sR, gR_sI, gR_sJ, gR_sR, lcJ]
      have h' : relM R F p q a t (sJ σ 38 18 (gJ σ 38 18 * 6364136223846793005 + 1442695040888963407)) V := h
      have ho' : gI (sJ σ 38 18 (gJ σ 38 18 * 6364136223846793005 + 1442695040888963407)) 38 11 = x3 := ho
      have hp' : gI (sJ σ 38 18 (gJ σ 38 18 * 6364136223846793005 + 1442695040888963407)) 38 21 = 0 := hp
      have hE' : gI (sJ σ 38 18 (gJ σ 38 18 * 6364136223846793005 + 1442695040888963407)) 45 = gI σ 45 := rfl
      rw [eD]
      generalize sJ σ 38 18 (gJ σ 38 18 * 6364136223846793005 + 1442695040888963407) = σ1 at h' eD ho' hp' hE' ⊢
      have dr := dr_rg (lcN D (N - (m + 1) + 1))
      have hh := m_heard_go σ1 E (dgN v r) hd (drI (lcN D (N - (m + 1) + 1))) (fun k h1 h2 => by rw [hE']; exact (hE _ hd).1 k h1 h2) (by rw [hE']; exact (hE _ hd).2) 10 FU 0 0 (by omega) (by unfold FU; omega) (by rw [leI, t_0]; exact dr.1)
      have hh' : f_X10_heard_19 FU (iZ ((v / 10 ^ r % 10 : Nat) : Int)) (rmJ (ushJ (lcN D (N - (m + 1) + 1)) 33) 100).toInt32 0 0 σ1 = some (heI E D v (N - (m + 1)) r, σ1) := hh
      rw [hh']
      simp only [Option.bind_some]
      obtain ⟨σ', e1, h1, ok1⟩ := m_drive hR hF ok h' r (by omega) (heI E D v (N - (m + 1)) r) (hear_rg E _ hd _ 10 0 0 (by omega)) x2 hs
      have e2 : iZ ((N - (m + 1) : Nat) : Int) + 1 = iZ ((N - m : Nat) : Int) := by
        rw [iZs]; congr 2; omega
      simp only [e1, Option.bind_some, e2]
      have sm := (fr_X10_drive e1).same (C := [45]) (G := [(38, 11), (38, 21), (38, 18)]) rfl
      refine ih n _ _ (by omega) (by omega) ok1 (by rw [sm.I 38 11]; exact ho') (by rw [sm.I 38 21]; exact hp') (by rw [sm.cI 45, hE']; exact hE) ?_ h1
      rw [sm.J 38 18, eD]; congr 1; omega
theorem m_adde {R : Nat} {F : Nat → Int32} {p q a t : Int32} {σ : St} {V : Vl} (hR : R ≤ 12) (hF : okF F) (ok : okD V) (h : relM R F p q a t σ V) (E : Nat → Int32) (v : Nat) (hv : v < 10 ^ 9) (x2 x3 : Int32) (hs : x2 = 1 ∨ x2 = -1) (ho : gI σ 38 11 = x3) (hp : gI σ 38 21 = 0) (hE : ∀ d, d < 10 → (∀ k, k < 10 → k ≠ d → gI σ 45 (10 * d + k) = E (10 * d + k)) ∧ gI σ 45 (11 * d) = 0) : ∃ σ', f_X10_addOf_11 (iZ (v : Int)) x2 σ = some σ' ∧ relM R F p q (a + 1) t σ' (bringV F R (fun t r => x2 * heI E (gJ σ 38 18) v t r) x3 (topN v R) (topN v R) (ovIf v R V)) ∧ okD (bringV F R (fun t r => x2 * heI E (gJ σ 38 18) v t r) x3 (topN v R) (topN v R) (ovIf v R V)) ∧ gJ σ' 38 18 = lcN (gJ σ 38 18) (topN v R) := by
  have e9 : 10 ^ 9 = 1000000000 := by decide
  have e18 : 10 ^ 18 = 1000000000000000000 := by decide
  have ev : (iZ (v : Int)).toInt64 = jZ (v : Int) := iZ_l (by omega) (by omega)
  have ht := top_le v R hR
  unfold f_X10_addOf_11
  rw [ev, m_highest v (by omega) σ R hR h.1]
  simp only [Option.bind_some]
  rw [h.1, m_lost v hv σ R hR]
  unfold f_X10_addOf_80
  have b15 : inb (15 : Int32) 19 = true := rfl
  rw [gd_t b15, n_15]
  have go : ∀ σ' V', okD V' → gI σ' 38 11 = x3 → gI σ' 38 21 = 0 → gI σ' 45 = gI σ 45 → gJ σ' 38 18 = gJ σ 38 18 → relM R F p q a t σ' V' → ∃ σ'', f_X10_addOf_85 FU (iZ (v : Int)) x2 (iZ ((topN v R : Int) - 1)) 0 σ' = some σ'' ∧ relM R F p q (a + 1) t σ'' (bringV F R (fun t r => x2 * heI E (gJ σ 38 18) v t r) x3 (topN v R) (topN v R) V') ∧ okD (bringV F R (fun t r => x2 * heI E (gJ σ 38 18) v t r) x3 (topN v R) (topN v R) V') ∧ gJ σ'' 38 18 = lcN (gJ σ 38 18) (topN v R) := by
    intro σ' V' ok' ho' hp' he' hd' h'
    have := m_adde_go (E := E) (D := gJ σ 38 18) (a := a) (t := t) (p := p) (q := q) hR hF v (topN v R) hv ht x2 x3 hs (topN v R) FU σ' V' (by omega) (by unfold FU; omega) ok' ho' hp' (by rw [he']; exact hE) (by rw [Nat.sub_self]; exact hd') h'
    rw [Nat.sub_self] at this
    exact this
  unfold ovIf
  by_cases c : v < 10 ^ R
  · rw [bZ_f (not_not_intro c), if_pos c]
    exact go _ _ ok (by rw [g_sI_c (by omega)]; exact ho) (by rw [g_sI_c (by omega)]; exact hp) (g_sI_c (by omega)) rfl (h.nz _ (Int32.add_zero _))
  · rw [bZ_t c, if_neg c]
    exact go _ _ ok (by rw [g_sI_c (by omega)]; exact ho) (by rw [g_sI_c (by omega)]; exact hp) (g_sI_c (by omega)) rfl h.ov
