/-! SPAN: the ways -/
/-- one digit of a rope -/
theorem g_ways54 {X : En} {v m k D sh : Nat} {h : Nat → Nat} {k17 : Int32 → En → St → Option (En × St)} {k27 : Int32 → Int32 → En → St → Option (En × St)} (hv : isWal (mk X) v) (hm : 1 ≤ m) (hm2 : m ≤ 99) (hk : k < 5) (hsh : (sh : Int) = ((D : Int) * 10 ^ (h k)) % m) :
    ∀ mm n rr : Nat, ∀ σ : St, rr + mm = m → mm < n → gI σ v 3 = iZ (m : Int) → (∀ t, t < m → gI σ (v + 2) (k * 99 + t) = iZ (Wf m h k (t : Int))) → (∀ t : Nat, t < m → gI σ (v + 2) ((k + 1) * 99 + t) = iZ (esum (fun d => Wf m h k ((t : Int) - (d : Int) * 10 ^ (h k))) D + (if (if sh ≤ t then t - sh else t + m - sh) < rr then Wf m h k ((t : Int) - (D : Int) * 10 ^ (h k)) else 0))) →
    ∃ σ', g_X8_countWays_54 v k17 k27 n (iZ (k : Int)) (iZ (D : Int)) (iZ (sh : Int)) (iZ (rr : Int)) X σ = k27 (iZ (k : Int)) (iZ ((D + 1 : Nat) : Int)) X σ' ∧ (∀ t : Nat, t < m → gI σ' (v + 2) ((k + 1) * 99 + t) = iZ (esum (fun d => Wf m h k ((t : Int) - (d : Int) * 10 ^ (h k))) (D + 1))) ∧ (∀ a b, ¬ (a = v + 2 ∧ (k + 1) * 99 ≤ b ∧ b < (k + 1) * 99 + m) → gI σ' a b = gI σ a b) ∧ (∀ a b, gJ σ' a b = gJ σ a b) ∧ (∀ a b, gR σ' a b = gR σ a b) := by
  obtain ⟨k0, k1, k2, l1, l2, s0, s1⟩ := hv
  have shm : sh < m := by
    have := Int.emod_lt_of_pos ((D : Int) * 10 ^ (h k)) (show (0 : Int) < m by omega)
    omega
  intro mm
  induction mm with
  | zero =>
    intro n rr σ e hn h3 ha hb
    cases n with
    | zero => omega
    | succ n =>
      have er : rr = m := by omega
      subst er
      rw [g_X8_countWays_54, gd_t k0, if_pos (by rw [leI, h3]; exact Int.le_refl _), iZs]
      refine ⟨σ, rfl, fun t ht => ?_, fun _ _ _ => rfl, fun _ _ => rfl, fun _ _ => rfl⟩
      rw [hb t ht, if_pos (by split <;> omega)]
      rfl
  | succ mm ih =>
    intro n rr σ e hn h3 ha hb
    cases n with
    | zero => omega
    | succ n =>
      rw [g_X8_countWays_54, gd_t k0, if_neg (by rw [leI, h3, iZt (by omega), iZt (by omega)]; omega), iZ_add]
      obtain ⟨tt, htt⟩ : ∃ tt : Nat, tt = if rr + sh < m then rr + sh else rr + sh - m := ⟨_, rfl⟩
      have ttm : tt < m := by rw [htt]; split <;> omega
      have pos : (if sh ≤ tt then tt - sh else tt + m - sh) = rr := by
        rw [htt]
        by_cases c : rr + sh < m
        · rw [if_pos c, if_pos (by omega)]; omega
        · rw [if_neg c, if_neg (by omega)]; omega
      have Wper : Wf m h k (rr : Int) = Wf m h k ((tt : Int) - (D : Int) * 10 ^ (h k)) := by
        refine Wf_per k _ _ ?_
        have e1 : ((tt : Int) - (D : Int) * 10 ^ (h k)) % m = ((tt : Int) - (sh : Int)) % m := by
          rw [hsh, Int.sub_emod, Int.sub_emod (tt : Int) (((D : Int) * 10 ^ (h k)) % m), Int.emod_emod]
        rw [e1]
        by_cases c : rr + sh < m
        · have : (tt : Int) - sh = rr := by rw [htt, if_pos c]; omega
          rw [this]
        · have : (tt : Int) - sh = rr + (m : Int) * (-1) := by rw [htt, if_neg c]; omega
          rw [this, Int.add_mul_emod_self_left]
      have go : ∃ σ', g_X8_countWays_90 v k17 k27 (g_X8_countWays_54 v k17 k27 n) (iZ (k : Int)) (iZ (D : Int)) (iZ (sh : Int)) (iZ (rr : Int)) (iZ (tt : Int)) X σ = k27 (iZ (k : Int)) (iZ ((D + 1 : Nat) : Int)) X σ' ∧ (∀ t : Nat, t < m → gI σ' (v + 2) ((k + 1) * 99 + t) = iZ (esum (fun d => Wf m h k ((t : Int) - (d : Int) * 10 ^ (h k))) (D + 1))) ∧ (∀ a b, ¬ (a = v + 2 ∧ (k + 1) * 99 ≤ b ∧ b < (k + 1) * 99 + m) → gI σ' a b = gI σ a b) ∧ (∀ a b, gJ σ' a b = gJ σ a b) ∧ (∀ a b, gR σ' a b = gR σ a b) := by
        unfold g_X8_countWays_90 g_X8_countWays_121
        have x1 : (iZ (k : Int) + 1) * 99 + iZ (tt : Int) = iZ (((k + 1) * 99 + tt : Nat) : Int) := by
          rw [iZs, show (99 : Int32) = iZ ((99 : Nat) : Int) from rfl, iZ_mul, iZ_add]
          congr 1
        have x2 : iZ (k : Int) * 99 + iZ (rr : Int) = iZ ((k * 99 + rr : Nat) : Int) := by
          rw [show (99 : Int32) = iZ ((99 : Nat) : Int) from rfl, iZ_mul, iZ_add]
          congr 1
        rw [x1, x2, gd_t k0, bnd s1, gd_t k2, l2, gd_t (iZb (show (k + 1) * 99 + tt < 594 by omega) (by omega)), bnd s1, gd_t k2, l2, gd_t (iZb (show k * 99 + rr < 594 by omega) (by omega)), gd_t (iZb (show (k + 1) * 99 + tt < 594 by omega) (by omega)), gd_t k0, iZc (by omega), iZc (by omega), iZs, hb tt ttm, ha rr (by omega), iZ_add, pos, if_neg (Nat.lt_irrefl rr), Int.add_zero]
        obtain ⟨σ', q0, q1, q2, q3, q4⟩ := ih n (rr + 1) (sI σ (v + 2) ((k + 1) * 99 + tt) (iZ (esum (fun d => Wf m h k ((tt : Int) - (d : Int) * 10 ^ (h k))) D + Wf m h k (rr : Int)))) (by omega) (by omega) (by rw [g_sI_ne (by omega)]; exact h3) (fun t ht => by rw [g_sI_ne (by omega)]; exact ha t ht)
          (fun t ht => by
            by_cases c : t = tt
            · subst c
              rw [g_sI_eq, pos, if_pos (by omega), Wper]
            · have np : ¬ (if sh ≤ t then t - sh else t + m - sh) = rr := by
                intro q
                apply c
                rw [htt]
                by_cases c2 : sh ≤ t
                · rw [if_pos c2] at q; rw [if_pos (by omega)]; omega
                · rw [if_neg c2] at q; rw [if_neg (by omega)]; omega
              rw [g_sI_ne (by omega), hb t ht]
              congr 2
              by_cases c3 : (if sh ≤ t then t - sh else t + m - sh) < rr
              · rw [if_pos c3, if_pos (by omega)]
              · rw [if_neg c3, if_neg (by omega)])
        refine ⟨σ', q0, q1, fun a b n1 => ?_, fun a b => ?_, fun a b => ?_⟩
        · rw [q2 a b n1, g_sI_ne (by omega)]
        · rw [q3]; rfl
        · rw [q4]; rfl
      by_cases c : rr + sh < m
      · rw [if_neg (by rw [leI, h3, show (rr : Int) + (sh : Int) = ((rr + sh : Nat) : Int) from rfl, iZt (by omega), iZt (by omega)]; omega)]
        have : (rr : Int) + (sh : Int) = (tt : Int) := by rw [htt, if_pos c]; omega
        rw [this]
        exact go
      · rw [if_pos (by rw [leI, h3, show (rr : Int) + (sh : Int) = ((rr + sh : Nat) : Int) from rfl, iZt (by omega), iZt (by omega)]; omega), h3, iZ_sub]
        have : (rr : Int) + (sh : Int) - (m : Int) = (tt : Int) := by rw [htt, if_neg c]; omega
        rw [this]
        exact go
/-- a rope -/
theorem g_ways27 {X : En} {v m k : Nat} {h : Nat → Nat} {k17 : Int32 → En → St → Option (En × St)} (hv : isWal (mk X) v) (hm : 1 ≤ m) (hm2 : m ≤ 99) (hk : k < 5) (hh : h k < 12) :
    ∀ mm n D : Nat, ∀ σ : St, D + mm = 10 → mm < n → gI σ v 3 = iZ (m : Int) → gI σ (v + 1) k = iZ (h k : Int) → (∀ t, t < m → gI σ (v + 2) (k * 99 + t) = iZ (Wf m h k (t : Int))) → (∀ t : Nat, t < m → gI σ (v + 2) ((k + 1) * 99 + t) = iZ (esum (fun d => Wf m h k ((t : Int) - (d : Int) * 10 ^ (h k))) D)) →
    ∃ σ', g_X8_countWays_27 v k17 n (iZ (k : Int)) (iZ (D : Int)) X σ = k17 (iZ ((k + 1 : Nat) : Int)) X σ' ∧ (∀ t : Nat, t < m → gI σ' (v + 2) ((k + 1) * 99 + t) = iZ (Wf m h (k + 1) (t : Int))) ∧ (∀ a b, ¬ (a = v + 2 ∧ (k + 1) * 99 ≤ b ∧ b < (k + 1) * 99 + m) → gI σ' a b = gI σ a b) ∧ (∀ a b, gJ σ' a b = gJ σ a b) ∧ (∀ a b, gR σ' a b = gR σ a b) := by
  have hv' := hv
  obtain ⟨k0, k1, k2, l1, l2, s0, s1⟩ := hv
  intro mm
  induction mm with
  | zero =>
    intro n D σ e hn h3 h1 ha hb
    cases n with
    | zero => omega
    | succ n =>
      have eD : D = 10 := by omega
      subst eD
      rw [g_X8_countWays_27, gd_t k0, if_pos (by rw [lI, iZt (by omega), t_9]; omega), iZs]
      exact ⟨σ, rfl, fun t ht => hb t ht, fun _ _ _ => rfl, fun _ _ => rfl, fun _ _ => rfl⟩
  | succ mm ih =>
    intro n D σ e hn h3 h1 ha hb
    cases n with
    | zero => omega
    | succ n =>
      have p12 : (10 : Int) ^ (h k) ≤ 10 ^ 11 := by
        have := Nat.pow_le_pow_right (n := 10) (by omega) (show h k ≤ 11 by omega)
        exact_mod_cast this
      have pp := tnP (h k)
      have d1 : (0 : Int) ≤ (D : Int) * 10 ^ (h k) := Int.mul_nonneg (by omega) (by omega)
      have d2 : (D : Int) * 10 ^ (h k) ≤ 9 * 10 ^ (h k) := Int.mul_le_mul_of_nonneg_right (by omega) (by omega)
      have p11 : (10 : Int) ^ 11 = 100000000000 := rfl
      have e64 : (iZ (D : Int)).toInt64 = jZ (D : Int) := iZ_l (by omega) (by omega)
      have m0 : 0 ≤ ((D : Int) * 10 ^ (h k)) % (m : Int) := Int.emod_nonneg _ (by omega)
      have hr := g_rest (X := X) (a := (D : Int) * 10 ^ (h k)) hv' h3 (by omega) (by omega) hm hm2
      rw [g_X8_countWays_27, gd_t k0, if_neg (by rw [lI, iZt (by omega), t_9]; omega), bnd s0, gd_t k1, l1, gd_t (iZb hk (by omega)), iZc (by omega), h1, gd_t (iZb (show h k < 13 by omega) (by omega)), iZc (by omega), e64, tens_jZ (by omega), jZ_mul, bnd hr]
      dsimp only
      rw [gd_t k0]
      obtain ⟨sh, hsh⟩ : ∃ sh : Nat, (sh : Int) = ((D : Int) * 10 ^ (h k)) % m := ⟨(((D : Int) * 10 ^ (h k)) % m).toNat, by omega⟩
      rw [← hsh]
      obtain ⟨σ1, q0, q1, q2, q3, q4⟩ := g_ways54 (X := X) (k17 := k17) (k27 := g_X8_countWays_27 v k17 n) hv' hm hm2 hk hsh m FU 0 σ (by omega) (by unfold FU; omega) h3 ha (fun t ht => by rw [if_neg (Nat.not_lt_zero _), Int.add_zero]; exact hb t ht)
      rw [show (0 : Int32) = iZ ((0 : Nat) : Int) from rfl, q0]
      obtain ⟨σ2, r0, r1, r2, r3, r4⟩ := ih n (D + 1) σ1 (by omega) (by omega) (by rw [q2 v 3 (by omega)]; exact h3) (by rw [q2 (v + 1) k (by omega)]; exact h1) (fun t ht => by rw [q2 _ _ (by omega)]; exact ha t ht) q1
      refine ⟨σ2, r0, r1, fun a b n1 => ?_, fun a b => ?_, fun a b => ?_⟩
      · rw [r2 a b n1, q2 a b n1]
      · rw [r3, q3]
      · rw [r4, q4]
/-- all ropes -/
theorem g_ways17 {X : En} {v m s : Nat} {h : Nat → Nat} (hv : isWal (mk X) v) (hm : 1 ≤ m) (hm2 : m ≤ 99) (hs : s ≤ 5) (hh : ∀ i, i < s → h i < 12) :
    ∀ mm n k : Nat, ∀ σ : St, k + mm = s → mm < n → gI σ v 2 = iZ (s : Int) → gI σ v 3 = iZ (m : Int) → (∀ i, i < s → gI σ (v + 1) i = iZ (h i : Int)) → (∀ i t, i ≤ k → t < m → gI σ (v + 2) (i * 99 + t) = iZ (Wf m h i (t : Int))) → (∀ i t, k < i → i ≤ s → t < m → gI σ (v + 2) (i * 99 + t) = 0) →
    ∃ σ', g_X8_countWays_17 v n (iZ (k : Int)) X σ = some (X, σ') ∧ (∀ i t, i ≤ s → t < m → gI σ' (v + 2) (i * 99 + t) = iZ (Wf m h i (t : Int))) ∧ (∀ a b, ¬ a = v + 2 → gI σ' a b = gI σ a b) ∧ (∀ a b, gJ σ' a b = gJ σ a b) ∧ (∀ a b, gR σ' a b = gR σ a b) := by
  have hv' := hv
  obtain ⟨k0, k1, k2, l1, l2, s0, s1⟩ := hv
  intro mm
  induction mm with
  | zero =>
    intro n k σ e hn h2 h3 h1 ha hb
    cases n with
    | zero => omega
    | succ n =>
      have ek : k = s := by omega
      subst ek
      rw [g_X8_countWays_17, gd_t k0, if_pos (by rw [leI, h2]; exact Int.le_refl _)]
      exact ⟨σ, rfl, ha, fun _ _ _ => rfl, fun _ _ => rfl, fun _ _ => rfl⟩
  | succ mm ih =>
    intro n k σ e hn h2 h3 h1 ha hb
    cases n with
    | zero => omega
    | succ n =>
      rw [g_X8_countWays_17, gd_t k0, if_neg (by rw [leI, h2, iZt (by omega), iZt (by omega)]; omega)]
      obtain ⟨σ1, q0, q1, q2, q3, q4⟩ := g_ways27 (X := X) (k17 := g_X8_countWays_17 v n) hv' hm hm2 (show k < 5 by omega) (hh k (by omega)) 10 FU 0 σ (by omega) (by unfold FU; omega) h3 (h1 k (by omega)) (fun t ht => ha k t (by omega) ht) (fun t ht => hb (k + 1) t (by omega) (by omega) ht)
      rw [show (0 : Int32) = iZ ((0 : Nat) : Int) from rfl, q0]
      obtain ⟨σ2, r0, r1, r2, r3, r4⟩ := ih n (k + 1) σ1 (by omega) (by omega) (by rw [q2 v 2 (by omega)]; exact h2) (by rw [q2 v 3 (by omega)]; exact h3) (fun i hi => by rw [q2 (v + 1) i (by omega)]; exact h1 i hi)
        (fun i t hi ht => by
          by_cases c : i = k + 1
          · subst c; exact q1 t ht
          · rw [q2 _ _ (by omega)]; exact ha i t (by omega) ht)
        (fun i t hi hi2 ht => by rw [q2 _ _ (by omega)]; exact hb i t (by omega) hi2 ht)
      refine ⟨σ2, r0, r1, fun a b n1 => ?_, fun a b => ?_, fun a b => ?_⟩
      · rw [r2 a b n1, q2 a b (by omega)]
      · rw [r3, q3]
      · rw [r4, q4]
theorem g_ways {X : En} {v m s : Nat} {h : Nat → Nat} {σ : St} (hv : isWal (mk X) v) (hm : 1 ≤ m) (hm2 : m ≤ 99) (hs : s ≤ 5) (hh : ∀ i, i < s → h i < 12) (h2 : gI σ v 2 = iZ (s : Int)) (h3 : gI σ v 3 = iZ (m : Int)) (h1 : ∀ i, i < s → gI σ (v + 1) i = iZ (h i : Int)) :
    ∃ σ', g_X8_countWays v X σ = some (X, σ') ∧ (∀ i t, i ≤ s → t < m → gI σ' (v + 2) (i * 99 + t) = iZ (Wf m h i (t : Int))) ∧ (∀ a b, ¬ a = v + 2 → gI σ' a b = gI σ a b) ∧ (∀ a b, gJ σ' a b = gJ σ a b) ∧ (∀ a b, gR σ' a b = gR σ a b) := by
  have hv' := hv
  obtain ⟨k0, k1, k2, l1, l2, s0, s1⟩ := hv
  obtain ⟨σ1, e1, f1, f2, f3⟩ := g_fill 0 k2 l2 (by omega) σ
  have n0 : (0 : Int32).toNatClampNeg = 0 := rfl
  obtain ⟨σ2, r0, r1, r2, r3, r4⟩ := g_ways17 hv' hm hm2 hs hh s FU 0 (sI σ1 (v + 2) 0 1) (by omega) (by unfold FU; omega) (by rw [g_sI_ne (by omega), f2 _ _ (by omega)]; exact h2) (by rw [g_sI_ne (by omega), f2 _ _ (by omega)]; exact h3) (fun i hi => by rw [g_sI_ne (by omega), f2 _ _ (by omega)]; exact h1 i hi)
    (fun i t hi ht => by
      have ei : i = 0 := by omega
      subst ei
      show _ = iZ (if (t : Int) % m = 0 then (1 : Int) else 0)
      rw [Int.emod_eq_of_lt (by omega) (by omega)]
      by_cases c : t = 0
      · subst c
        rw [if_pos (by omega)]
        exact g_sI_eq
      · rw [if_neg (by omega), g_sI_ne (by omega), f1 _ (by omega)]; rfl)
    (fun i t hi hi2 ht => by rw [g_sI_ne (by omega), f1 _ (by omega)])
  refine ⟨σ2, ?_, r1, fun a b n1 => ?_, fun a b => ?_, fun a b => ?_⟩
  · unfold g_X8_countWays g_X8_countWays_b
    rw [gd_t k0, bnd s1, gd_t k2, bnd e1]
    dsimp only
    rw [gd_t k0, bnd s1, gd_t k2, l2, gd_t (show inb 0 594 = true from rfl), n0]
    rw [show g_X8_countWays_17 v FU 0 X (sI σ1 (v + 2) 0 1) = some (X, σ2) from r0]
    simp only [Option.bind_some]
    rw [wrp]
  · rw [r2 a b n1, g_sI_ne (by omega), f2 a b (Or.inl n1)]
  · rw [r3, gJ_sI, (f3 a b).1]
  · rw [r4, gR_sI, (f3 a b).2]
