/-! SPAN: the class -/
theorem xor_sg (x y : Int64) : ((x ^^^ y).toInt < 0) ↔ ((x.toInt < 0) ↔ ¬ (y.toInt < 0)) := by
  have e : ∀ z : Int64, z.toBitVec.msb = decide (z.toInt < 0) := fun z => BitVec.msb_eq_toInt
  have h := e (x ^^^ y)
  rw [Int64.toBitVec_xor, BitVec.msb_xor, e x, e y] at h
  by_cases a : x.toInt < 0 <;> by_cases b : y.toInt < 0 <;> by_cases c : (x ^^^ y).toInt < 0 <;> simp [a, b, c] at h ⊢
theorem jZ_dn {b m : Int} (h0 : 0 ≤ b) (h1 : b < 9223372036854775808) (h3 : 0 < m) (h4 : m < 9223372036854775808) : jZ (-b) / jZ m = jZ (-(b / m)) := by
  have q1 : 0 ≤ b / m := Int.ediv_nonneg h0 (by omega)
  have q2 : b / m ≤ b := Int.ediv_le_self m h0
  have h : (jZ (-b) / jZ m).toInt = (jZ (-(b / m))).toInt := by
    rw [Int64.toInt_div, jZ_toInt (by omega) (by omega), jZ_toInt (by omega) h4, jZ_toInt (by omega) (by omega), Int.neg_tdiv, Int.tdiv_eq_ediv_of_nonneg h0]
    unfold Int.bmod
    have e : ((2 ^ 64 : Nat) : Int) = 18446744073709551616 := rfl
    simp only [e]
    omega
  exact Int64.toInt_inj.mp h
theorem s_fm {a : Int} {m : Nat} (h0 : -4000000000000000000 ≤ a) (h1 : a ≤ 4000000000000000000) (hm : 1 ≤ m) (hm2 : m ≤ 99) (σ : St) : f_J9_floorMod_f86c9 (jZ a) (jZ (m : Int)) σ = some (jZ (a % m), σ) := by
  unfold f_J9_floorMod_f86c9 f_J9_floorMod_f86c9_5 f_J9_floorMod_f86c9_25
  rw [gd_t (jZ_nz (by omega) (by omega) (by omega))]
  have xs := xor_sg (jZ a) (jZ (m : Int))
  rw [jZ_toInt (by omega) (by omega), jZ_toInt (by omega) (by omega)] at xs
  by_cases c : 0 ≤ a
  · rw [if_pos (by rw [cmGE, leJ, l_0]; have : ¬ (jZ a ^^^ jZ (m : Int)).toInt < 0 := (fun q => by have := xs.mp q; omega); omega), jZ_rm c (by omega) (by omega) (by omega)]
  · rw [if_neg (by rw [cmGE, leJ, l_0]; have : (jZ a ^^^ jZ (m : Int)).toInt < 0 := xs.mpr (by omega); omega)]
    obtain ⟨b, hb⟩ : ∃ b, b = -a := ⟨_, rfl⟩
    have ea : a = -b := by omega
    subst ea
    have er : rmJ (jZ (-b)) (jZ (m : Int)) = jZ (-(b % m)) := by
      unfold rmJ
      rw [jZ_dn (by omega) (by omega) (by omega) (by omega), jZ_mul, jZ_sub]
      congr 1
      have := Int.emod_add_mul_ediv b m
      rw [Int.neg_mul, Int.mul_comm] 
      omega
    have r0 : 0 ≤ b % (m : Int) := Int.emod_nonneg _ (by omega)
    have r1 : b % (m : Int) < m := Int.emod_lt_of_pos _ (by omega)
    have z0 : (0 : Int64) = jZ 0 := rfl
    rw [er]
    by_cases d : b % (m : Int) = 0
    · rw [if_pos (by rw [cmE, d]; rfl), d]
      have : (-b) % (m : Int) = 0 := Int.emod_eq_zero_of_dvd (Int.dvd_neg.mpr (Int.dvd_of_emod_eq_zero d))
      rw [this]; rfl
    · rw [if_neg (by rw [cmE, z0, jZ_eq (by omega) (by omega) (by omega) (by omega)]; omega), jZ_add]
      have e : -b = ((m : Int) - b % m) + m * (-(b / m) - 1) := by
        have := Int.emod_add_mul_ediv b m
        rw [Int.mul_sub, Int.mul_neg, Int.mul_one]
        omega
      have : (-b) % (m : Int) = (m : Int) - b % m := by
        rw [e, Int.add_mul_emod_self_left, Int.emod_eq_of_lt (by omega) (by omega)]
      rw [this]
      congr 2
      congr 1
      omega
def isWal (E : En) (v : Nat) : Prop := rk E v 9 = true ∧ rk E (v + 1) 20 = true ∧ rk E (v + 2) 20 = true ∧ eL E (v + 1) = 5 ∧ eL E (v + 2) = 594 ∧ eS E v 0 = some (v + 1) ∧ eS E v 1 = some (v + 2)
theorem isW.wal {X : En} {v : Nat} (h : isW X v) (hz : eZ X ≤ 1000000) : isWal (mk X) v := by
  obtain ⟨h1, h2, h3, h4, h5, h6, h7, h8, h9⟩ := h
  refine ⟨rk_t h1 (by omega) h3, rk_t (by omega) (by omega) h4, rk_t (by omega) (by omega) h5, ?_, ?_, ?_, ?_⟩
  · rw [mk_L (by omega)]; exact h6
  · rw [mk_L (by omega)]; exact h7
  · rw [mk_S h1]; exact h8
  · rw [mk_S h1]; exact h9
theorem g_rest {X : En} {v m : Nat} {a : Int} {σ : St} (hv : isWal (mk X) v) (h3 : gI σ v 3 = iZ (m : Int)) (h0 : -4000000000000000000 ≤ a) (h1 : a ≤ 4000000000000000000) (hm : 1 ≤ m) (hm2 : m ≤ 99) : g_X8_restOf v (jZ a) X σ = some (iZ (a % m), X, σ) := by
  unfold g_X8_restOf g_X8_restOf_b
  have e64 : (iZ (m : Int)).toInt64 = jZ (m : Int) := iZ_l (by omega) (by omega)
  rw [gd_t hv.1, h3, e64, bnd (s_fm h0 h1 hm hm2 σ), jZ_i]
  simp only [Option.bind_some]
  rw [wrp]
/-- the ropes in fog, in their order -/
def hq (w : Nat) : Nat → Nat → Nat
  | 0, _ => 0
  | n + 1, i => if w.testBit n = true ∧ popc w n = i then n else hq w n i
theorem popc_s (w n : Nat) : popc w (n + 1) = popc w n + (if w.testBit n then 1 else 0) := rfl
theorem popc_mo {w : Nat} : ∀ m k : Nat, popc w k ≤ popc w (k + m) := by
  intro m
  induction m with
  | zero => intro k; exact Nat.le_refl _
  | succ m ih =>
    intro k
    have := ih k
    show popc w k ≤ popc w (k + m) + (if w.testBit (k + m) then 1 else 0)
    omega
theorem popc_m {w k n : Nat} (h : k ≤ n) : popc w k ≤ popc w n := by
  have := popc_mo (w := w) (n - k) k
  rw [show k + (n - k) = n by omega] at this
  exact this
theorem hq_H {w : Nat} : ∀ n k, k < n → w.testBit k = true → hq w n (popc w k) = k := by
  intro n
  induction n with
  | zero => intro k h; omega
  | succ n ih =>
    intro k hk hb
    show (if w.testBit n = true ∧ popc w n = popc w k then n else hq w n (popc w k)) = k
    by_cases c : k = n
    · subst c; rw [if_pos ⟨hb, rfl⟩]
    · have a := popc_m (w := w) (show k + 1 ≤ n by omega)
      rw [popc_s, if_pos hb] at a
      rw [if_neg (fun q => by have := q.2; omega)]
      exact ih k (by omega) hb
theorem hq_B {w : Nat} : ∀ n i, i < popc w n → hq w n i < n ∧ popc w (hq w n i) = i := by
  intro n
  induction n with
  | zero => intro i h; exact absurd h (Nat.not_lt_zero i)
  | succ n ih =>
    intro i hi
    show (if w.testBit n = true ∧ popc w n = i then n else hq w n i) < n + 1 ∧ popc w (if w.testBit n = true ∧ popc w n = i then n else hq w n i) = i
    by_cases c : w.testBit n = true ∧ popc w n = i
    · rw [if_pos c]; exact ⟨by omega, c.2⟩
    · rw [if_neg c]
      rw [popc_s] at hi
      have : i < popc w n := by
        by_cases b : w.testBit n = true
        · rw [if_pos b] at hi
          have : ¬ popc w n = i := fun q => c ⟨b, q⟩
          omega
        · rw [if_neg b] at hi; omega
      obtain ⟨a1, a2⟩ := ih i this
      exact ⟨by omega, a2⟩
theorem hq_I {w n i : Nat} (h : i + 1 < popc w n) : hq w n i < hq w n (i + 1) := by
  have a := hq_B (w := w) n i (by omega)
  have b := hq_B (w := w) n (i + 1) h
  apply Nat.lt_of_not_le
  intro c
  have := popc_m (w := w) c
  omega
/-- what lies in the veil -/
theorem g_look_go {X : En} {v R w : Nat} {h : Nat → Nat} {S : Nat → Int} (hv : isWal (mk X) v) (v72 : 72 ≤ v) (hR : R ≤ 12) (hp5 : popc w R ≤ 5) (hH : ∀ k, k < R → w.testBit k = true → h (popc w k) = k) :
    ∀ mm n k : Nat, ∀ σ : St, k + mm = R → mm < n → (gI σ 1 0).toInt = R → gI σ 1 5 = nI w → (∀ j, j < R → (seenZ (gI σ 1 4) (gI σ 2 j) j).toInt = S j) → gI σ v 2 = iZ (popc w k : Int) → gJ σ v 4 = jZ (vsum (fun j => if w.testBit j = true then 0 else S j) k) → (∀ i, i < popc w k → gI σ (v + 1) i = iZ (h i : Int)) →
    ∃ σ', g_X8_look_26 v n (iZ (k : Int)) X σ = ((g_X8_countWays v X σ').bind fun p1 => (gd (rk (mk p1.1) v 9) (some (p1.1, p1.2)))) ∧ gI σ' v 2 = iZ (popc w R : Int) ∧ gJ σ' v 4 = jZ (vsum (fun j => if w.testBit j = true then 0 else S j) R) ∧ (∀ i, i < popc w R → gI σ' (v + 1) i = iZ (h i : Int)) ∧ (∀ a b, ¬ a = v + 1 → ¬ (a = v ∧ b = 2) → gI σ' a b = gI σ a b) ∧ (∀ a b, ¬ (a = v ∧ b = 4) → gJ σ' a b = gJ σ a b) ∧ (∀ a b, gR σ' a b = gR σ a b) := by
  obtain ⟨k0, k1, k2, l1, l2, s0, s1⟩ := hv
  intro mm
  induction mm with
  | zero =>
    intro n k σ e hn hr h5 hS c2 c4 c1
    cases n with
    | zero => omega
    | succ n =>
      have ek : k = R := by omega
      subst ek
      rw [g_X8_look_26, gd_t k0, if_pos (by rw [leI, hr, iZt (by omega)]; omega)]
      exact ⟨σ, rfl, c2, c4, c1, fun _ _ _ _ => rfl, fun _ _ _ => rfl, fun _ _ => rfl⟩
  | succ mm ih =>
    intro n k σ e hn hr h5 hS c2 c4 c1
    cases n with
    | zero => omega
    | succ n =>
      have hf : f_X7_isFoggy 1 (iZ (k : Int)) σ = some (bZ (bitI (nI w) k), σ) := by
        unfold f_X7_isFoggy
        rw [h5, bnd (s_hasBit (nI w) k (by omega) σ), gd_t]
        unfold bZ
        split <;> rfl
      have pk : popc w k ≤ popc w R := popc_m (by omega)
      rw [g_X8_look_26, gd_t k0, if_neg (by rw [leI, hr, iZt (by omega)]; omega), bnd hf]
      by_cases b : w.testBit k = true
      · have ep : popc w (k + 1) = popc w k + 1 := by rw [popc_s, if_pos b]
        have pk2 : popc w (k + 1) ≤ popc w R := popc_m (by omega)
        rw [if_neg (by show ¬ bZ _ = 0; rw [bZ_0]; exact not_not_intro ((bit_nI (by omega)).mpr b))]
        show ∃ σ', (if (5 : Int32) ≤ gI σ v 2 then _ else _) = _ ∧ _
        rw [if_neg (by rw [leI, c2, iZt (by omega), t_5]; omega), bnd s0, gd_t k1, l1, c2, gd_t (iZb (show popc w k < 5 by omega) (by omega)), iZc (by omega)]
        unfold g_X8_look_94
        rw [gd_t k0, iZs]
        have e2 : gI (sI σ (v + 1) (popc w k) (iZ (k : Int))) v 2 + 1 = iZ (popc w (k + 1) : Int) := by
          rw [g_sI_ne (by omega), c2, iZs, ep]
        rw [e2]
        obtain ⟨σ', q0, q1, q2, q3, q4, q5, q6⟩ := ih n (k + 1) (sI (sI σ (v + 1) (popc w k) (iZ (k : Int))) v 2 (iZ (popc w (k + 1) : Int))) (by omega) (by omega) (by rw [g_sI_ne (by omega), g_sI_ne (by omega)]; exact hr) (by rw [g_sI_ne (by omega), g_sI_ne (by omega)]; exact h5)
          (fun j hj => by rw [g_sI_ne (by omega), g_sI_ne (by omega), g_sI_ne (by omega), g_sI_ne (by omega)]; exact hS j hj) g_sI_eq
          (by
            rw [gJ_sI, gJ_sI, c4]
            show _ = jZ (vsum _ k + (if w.testBit k = true then 0 else S k) * 10 ^ k)
            rw [if_pos b, Int.zero_mul, Int.add_zero])
          (fun i hi => by
            rw [g_sI_ne (by omega)]
            by_cases c : i = popc w k
            · subst c; rw [g_sI_eq, hH k (by omega) b]
            · rw [g_sI_ne (by omega)]; exact c1 i (by omega))
        refine ⟨σ', q0, q1, q2, q3, fun a b' n1 n2 => ?_, fun a b' n1 => ?_, fun a b' => ?_⟩
        · rw [q4 a b' n1 n2, g_sI_ne n2, g_sI_ne (by omega)]
        · rw [q5 a b' n1]; rfl
        · rw [q6]; rfl
      · have ep : popc w (k + 1) = popc w k := by rw [popc_s, if_neg b, Nat.add_zero]
        rw [if_pos (by show bZ _ = 0; rw [bZ_0]; exact fun q => b ((bit_nI (by omega)).mp q)), bnd (s_seen7 1 k (by omega) σ), gd_t (iZb (show k < 13 by omega) (by omega)), iZc (by omega)]
        unfold g_X8_look_94
        rw [gd_t k0, iZs]
        have ev : gJ σ v 4 + (seenZ (gI σ 1 4) (gI σ (1 + 1) k) k).toInt64 * tens k = jZ (vsum (fun j => if w.testBit j = true then 0 else S j) (k + 1)) := by
          rw [c4, x64, hS k (by omega), tens_jZ (by omega), jZ_mul, jZ_add]
          show _ = jZ (vsum _ k + (if w.testBit k = true then 0 else S k) * 10 ^ k)
          rw [if_neg b]
        dsimp only
        rw [ev]
        obtain ⟨σ', q0, q1, q2, q3, q4, q5, q6⟩ := ih n (k + 1) (sJ σ v 4 (jZ (vsum (fun j => if w.testBit j = true then 0 else S j) (k + 1)))) (by omega) (by omega) hr h5 hS (by rw [gI_sJ, ep]; exact c2) g_sJ_eq (by rw [ep]; exact c1)
        refine ⟨σ', q0, q1, q2, q3, fun a b' n1 n2 => ?_, fun a b' n1 => ?_, fun a b' => ?_⟩
        · rw [q4 a b' n1 n2]; rfl
        · rw [q5 a b' n1, g_sJ_ne n1]
        · rw [q6]; rfl
