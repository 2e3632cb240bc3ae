/-! SPAN: the outermost -/
theorem Wf_rg {m : Int} {h : Nat → Nat} {k : Nat} (hk : k ≤ 5) (z : Int) : 0 ≤ Wf m h k z ∧ Wf m h k z ≤ 100000 := by
  refine ⟨Wf_nn k z, Int.le_trans (Wf_le k z) ?_⟩
  have t : (10 : Int) ^ k ≤ 10 ^ 5 := by
    have := Nat.pow_le_pow_right (n := 10) (by omega) hk
    exact_mod_cast this
  have p5 : (10 : Int) ^ 5 = 100000 := rfl
  omega
theorem Wf_mod {m : Int} {h : Nat → Nat} (k : Nat) (z : Int) : Wf m h k (z % m) = Wf m h k z := Wf_per k _ _ (Int.emod_emod z m)
theorem g_out64 {X : En} {v m k r e j : Nat} {h : Nat → Nat} {num : Int} {x2 x8 : Int32} {σ : St} {k13 : Int32 → Int32 → Int64 → Int32 → En → St → Option (Int64 × En × St)} {k37 : Int32 → Int32 → Int64 → Int32 → Int64 → Int32 → Int32 → En → St → Option (Int64 × En × St)} (hv : isWal (mk X) v) (hm : 1 ≤ m) (hm2 : m ≤ 99) (hk : k < 5) (hr : r < m) (n0 : 0 ≤ num) (n1 : num ≤ 3000000000000000000) (hh : h k < 12) (he : e < 10) (h3 : gI σ v 3 = iZ (m : Int)) (ha : ∀ t, t < m → gI σ (v + 2) (k * 99 + t) = iZ (Wf m h k (t : Int))) :
    g_X8_outermost_64 v k13 k37 (iZ (r : Int)) x2 (jZ num) (iZ (k : Int)) (jZ (10 ^ (h k))) x8 (iZ (j : Int)) (iZ (e : Int)) X σ = k37 (iZ (r : Int)) x2 (jZ num) (iZ (k : Int)) (jZ (10 ^ (h k))) (if Pk m h k (r - num) e = true then iZ (e : Int) else x8) (iZ ((j + 1 : Nat) : Int)) X σ := by
  have hv' := hv
  obtain ⟨k0, k1, k2, l1, l2, s0, s1⟩ := hv
  have p12 : (10 : Int) ^ (h k) ≤ 10 ^ 11 := by
    have := Nat.pow_le_pow_right (n := 10) (by omega) (show h k ≤ 11 by omega)
    exact_mod_cast this
  have pp := tnP (h k)
  have d1 : (0 : Int) ≤ (e : Int) * 10 ^ (h k) := Int.mul_nonneg (by omega) (by omega)
  have d2 : (e : Int) * 10 ^ (h k) ≤ 9 * 10 ^ (h k) := Int.mul_le_mul_of_nonneg_right (by omega) (by omega)
  have p11 : (10 : Int) ^ 11 = 100000000000 := rfl
  have e64 : (iZ (e : Int)).toInt64 = jZ (e : Int) := iZ_l (by omega) (by omega)
  have r64 : (iZ (r : Int)).toInt64 = jZ (r : Int) := iZ_l (by omega) (by omega)
  have hrs := g_rest (X := X) (a := (r : Int) - num - (e : Int) * 10 ^ (h k)) hv' h3 (by omega) (by omega) hm hm2
  have m0 : 0 ≤ ((r : Int) - num - (e : Int) * 10 ^ (h k)) % (m : Int) := Int.emod_nonneg _ (by omega)
  have m1 : ((r : Int) - num - (e : Int) * 10 ^ (h k)) % (m : Int) < m := Int.emod_lt_of_pos _ (by omega)
  obtain ⟨t, ht⟩ : ∃ t : Nat, (t : Int) = ((r : Int) - num - (e : Int) * 10 ^ (h k)) % m := ⟨(((r : Int) - num - (e : Int) * 10 ^ (h k)) % m).toNat, by omega⟩
  have x2 : iZ (k : Int) * 99 + iZ (t : Int) = iZ ((k * 99 + t : Nat) : Int) := by
    rw [show (99 : Int32) = iZ ((99 : Nat) : Int) from rfl, iZ_mul, iZ_add]
    congr 1
  have W := Wf_rg (m := m) (h := h) (show k ≤ 5 by omega) ((r : Int) - num - (e : Int) * 10 ^ (h k))
  have ev : gI σ (v + 2) (k * 99 + t) = iZ (Wf m h k ((r : Int) - num - (e : Int) * 10 ^ (h k))) := by
    rw [ha t (by omega), ht, Wf_mod]
  unfold g_X8_outermost_64 g_X8_outermost_99
  rw [gd_t k0, bnd s1, gd_t k2, e64, r64, jZ_mul, jZ_sub, jZ_sub, bnd hrs]
  dsimp only
  rw [← ht, x2, gd_t k0, gd_t k2, l2, gd_t (iZb (show k * 99 + t < 594 by omega) (by omega)), iZc (by omega), ev, gd_t k0, iZs]
  have ep : Pk m h k (r - num) e = decide (0 < Wf m h k ((r : Int) - num - (e : Int) * 10 ^ (h k))) := rfl
  rw [ep]
  by_cases c : 0 < Wf m h k ((r : Int) - num - (e : Int) * 10 ^ (h k))
  · rw [if_neg (by rw [leI, iZ_toInt (by omega) (by omega), t_0]; omega), if_pos (decide_eq_true c), gd_t k0]
  · rw [if_pos (by rw [leI, iZ_toInt (by omega) (by omega), t_0]; omega), if_neg (by rw [decide_eq_false c]; exact Bool.false_ne_true)]
def dgG (g : Bool) (j : Nat) : Nat := bif g then 9 - j else j
theorem seD_J {g : Bool} {P : Nat → Bool} {d : Nat} (e : seD g P 10 = some d) : P d = true ∧ d < 10 ∧ dgG g d < 10 ∧ dgG g (dgG g d) = d ∧ ∀ j, j < dgG g d → P (dgG g j) = false := by
  cases g with
  | false =>
    obtain ⟨a1, a2, a3⟩ := fsD_some (P := P) 10 e
    exact ⟨a2, a1, a1, rfl, a3⟩
  | true =>
    obtain ⟨a1, a2, a3⟩ := laD_some (P := P) 10 e
    have e1 : ∀ j, dgG true j = 9 - j := fun _ => rfl
    refine ⟨a2, a1, by rw [e1]; omega, by rw [e1, e1]; omega, fun j hj => ?_⟩
    rw [e1] at hj ⊢
    exact a3 (9 - j) (by omega) (by omega)
theorem g_out37 {X : En} {v m k r d : Nat} {h : Nat → Nat} {num : Int} {x2 : Int32} {g : Bool} {σ : St} {k13 : Int32 → Int32 → Int64 → Int32 → En → St → Option (Int64 × En × St)} (hv : isWal (mk X) v) (hm : 1 ≤ m) (hm2 : m ≤ 99) (hk : k < 5) (hr : r < m) (n0 : 0 ≤ num) (n1 : num ≤ 3000000000000000000) (hh : h k < 12) (h3 : gI σ v 3 = iZ (m : Int)) (ha : ∀ t, t < m → gI σ (v + 2) (k * 99 + t) = iZ (Wf m h k (t : Int))) (hx : x2 = (bif g then 1 else 0)) (hd : seD g (Pk m h k (r - num)) 10 = some d) :
    ∀ mm n j : Nat, j + mm = dgG g d → mm + 1 < n → g_X8_outermost_37 v k13 n (iZ (r : Int)) x2 (jZ num) (iZ (k : Int)) (jZ (10 ^ (h k))) (-1) (iZ (j : Int)) X σ = g_X8_outermost_105 v k13 (iZ (r : Int)) x2 (jZ num) (iZ (k : Int)) (jZ (10 ^ (h k))) (iZ (d : Int)) X σ := by
  have k0 := hv.1
  obtain ⟨p1, p2, p3, p4, p5⟩ := seD_J hd
  have st : ∀ n j : Nat, j < 10 → g_X8_outermost_37 v k13 (n + 1) (iZ (r : Int)) x2 (jZ num) (iZ (k : Int)) (jZ (10 ^ (h k))) (-1) (iZ (j : Int)) X σ = g_X8_outermost_37 v k13 n (iZ (r : Int)) x2 (jZ num) (iZ (k : Int)) (jZ (10 ^ (h k))) (if Pk m h k (r - num) (dgG g j) = true then iZ (dgG g j : Int) else -1) (iZ ((j + 1 : Nat) : Int)) X σ := by
    intro n j hj
    rw [g_X8_outermost_37, gd_t k0, if_neg (by rw [lI, iZt (by omega), t_9]; omega), if_pos rfl]
    cases g with
    | false =>
      rw [if_pos (by rw [hx]; rfl)]
      exact g_out64 (e := j) hv hm hm2 hk hr n0 n1 hh hj h3 ha
    | true =>
      rw [if_neg (by rw [hx]; decide)]
      have e9 : (9 : Int32) - iZ (j : Int) = iZ ((9 - j : Nat) : Int) := by
        rw [show (9 : Int32) = iZ 9 from rfl, iZ_sub]
        congr 1
        omega
      rw [e9]
      exact g_out64 (e := 9 - j) hv hm hm2 hk hr n0 n1 hh (by omega) h3 ha
  intro mm
  induction mm with
  | zero =>
    intro n j e hn
    cases n with
    | zero => omega
    | succ n =>
      cases n with
      | zero => omega
      | succ n =>
        have ej : j = dgG g d := by omega
        rw [st (n + 1) j (by omega), ej, p4, if_pos p1, g_X8_outermost_37, gd_t k0]
        by_cases c : (9 : Int32) < iZ ((dgG g d + 1 : Nat) : Int)
        · rw [if_pos c]
        · rw [if_neg c, if_neg (by rw [eI, iZt (by omega), t_m1]; omega)]
  | succ mm ih =>
    intro n j e hn
    cases n with
    | zero => omega
    | succ n =>
      rw [st n j (by omega), if_neg (by rw [p5 j (by omega)]; exact Bool.false_ne_true)]
      exact ih n (j + 1) (by omega) (by omega)
theorem seD_ex {m : Int} {h : Nat → Nat} {g : Bool} {k : Nat} {z : Int} (hw : 0 < Wf m h (k + 1) z) : ∃ d, seD g (Pk m h k z) 10 = some d := by
  obtain ⟨d, a, b⟩ := W_fs.mp hw
  cases e : seD g (Pk m h k z) 10 with
  | some d => exact ⟨d, rfl⟩
  | none =>
    cases g with
    | false =>
      have := (fsD_none 10).mp e d a
      rw [this] at b; cases b
    | true =>
      have := (laD_none 10).mp e d a
      rw [this] at b; cases b
theorem g_out13 {X : En} {v m s r : Nat} {h : Nat → Nat} {x2 : Int32} {g : Bool} {σ : St} (hv : isWal (mk X) v) (hm : 1 ≤ m) (hm2 : m ≤ 99) (hs : s ≤ 5) (hr : r < m) (hh : ∀ i, i < s → h i < 12) (h3 : gI σ v 3 = iZ (m : Int)) (h1 : ∀ i, i < s → gI σ (v + 1) i = iZ (h i : Int)) (ha : ∀ i t, i ≤ s → t < m → gI σ (v + 2) (i * 99 + t) = iZ (Wf m h i (t : Int))) (hx : x2 = (bif g then 1 else 0)) :
    ∀ k n : Nat, ∀ num : Int, k ≤ s → k < n → 0 ≤ num → num + mxV h k ≤ 3000000000000000000 → 0 < Wf m h k (r - num) → g_X8_outermost_13 v n (iZ (r : Int)) x2 (jZ num) (iZ ((k : Int) - 1)) X σ = some (jZ (num + ov m h g k (r - num)), X, σ) := by
  have hv' := hv
  obtain ⟨k0, k1, k2, l1, l2, s0, s1⟩ := hv
  intro k
  induction k with
  | zero =>
    intro n num _ hn n0 n1 hw
    cases n with
    | zero => omega
    | succ n =>
      rw [g_X8_outermost_13, gd_t k0, if_pos (by rw [lI, iZ_toInt (by omega) (by omega), t_0]; omega)]
      show _ = some (jZ (num + 0), X, σ)
      rw [Int.add_zero]
  | succ k ih =>
    intro n num hk hn n0 n1 hw
    cases n with
    | zero => omega
    | succ n =>
      obtain ⟨d, hd⟩ := seD_ex (g := g) hw
      obtain ⟨p1, p2, p3, p4, p5⟩ := seD_J hd
      have mn := mxV_nn (h := h) k
      have ms : mxV h (k + 1) = mxV h k + 9 * 10 ^ (h k) := rfl
      have pp := tnP (h k)
      have d1 : (0 : Int) ≤ (d : Int) * 10 ^ (h k) := Int.mul_nonneg (by omega) (by omega)
      have d2 : (d : Int) * 10 ^ (h k) ≤ 9 * 10 ^ (h k) := Int.mul_le_mul_of_nonneg_right (by omega) (by omega)
      have ek : (((k + 1 : Nat) : Int) - 1) = (k : Int) := by omega
      have hk12 := hh k (by omega)
      rw [ek, g_X8_outermost_13, gd_t k0, if_neg (by rw [lI, iZt (by omega), t_0]; omega), bnd s0, gd_t k1, l1, gd_t (iZb (show k < 5 by omega) (by omega)), iZc (by omega), h1 k (by omega), gd_t (iZb (show h k < 13 by omega) (by omega)), iZc (by omega), tens_jZ (by omega)]
      unfold g_X8_outermost_31
      rw [gd_t k0]
      have o := g_out37 (X := X) (k13 := g_X8_outermost_13 v n) (num := num) hv' hm hm2 (show k < 5 by omega) hr n0 (by omega) hk12 h3 (fun t ht => ha k t (by omega) ht) hx hd (dgG g d) FU 0 (by omega) (by unfold FU; omega)
      rw [show g_X8_outermost_37 v (g_X8_outermost_13 v n) FU (iZ (r : Int)) x2 (jZ num) (iZ (k : Int)) (jZ (10 ^ (h k))) (-1) 0 X σ = _ from o]
      unfold g_X8_outermost_105 g_X8_outermost_118
      have em : mxI (iZ (d : Int)) 0 = iZ (d : Int) := by
        rw [show (0 : Int32) = iZ 0 from rfl, iZ_mx (by omega) (by omega) (by omega) (by omega)]
        congr 1
        omega
      have ek2 : iZ (k : Int) + (-1) = iZ ((k : Int) - 1) := by
        rw [show (-1 : Int32) = iZ (-1) from rfl, iZ_add]
        rfl
      rw [gd_t k0, gd_t k0, em, iZ_l (by omega) (by omega), jZ_mul, jZ_add, ek2]
      have ez : (r : Int) - (num + (d : Int) * 10 ^ (h k)) = r - num - (d : Int) * 10 ^ (h k) := by omega
      have hw2 : 0 < Wf m h k ((r : Int) - (num + (d : Int) * 10 ^ (h k))) := by
        rw [ez]
        exact of_decide_eq_true p1
      rw [ih n (num + (d : Int) * 10 ^ (h k)) (by omega) (by omega) (by omega) (by omega) hw2, ez]
      have eo : ov m h g (k + 1) (r - num) = (d : Int) * 10 ^ (h k) + ov m h g k (r - num - (d : Int) * 10 ^ (h k)) := by
        show (match seD g (Pk m h k (r - num)) 10 with | some d => (d : Int) * 10 ^ (h k) + ov m h g k (r - num - (d : Int) * 10 ^ (h k)) | none => 0) = _
        rw [hd]
      rw [eo, Int.add_assoc]
theorem g_look {X : En} {v R w m : Nat} {h : Nat → Nat} {S : Nat → Int} {σ : St} (hv : isWal (mk X) v) (v72 : 72 ≤ v) (hR : R ≤ 12) (hp5 : popc w R ≤ 5) (hH : ∀ k, k < R → w.testBit k = true → h (popc w k) = k) (hh : ∀ i, i < popc w R → h i < 12) (hm : 1 ≤ m) (hm2 : m ≤ 99) (hr : (gI σ 1 0).toInt = R) (h5 : gI σ 1 5 = nI w) (hS : ∀ j, j < R → (seenZ (gI σ 1 4) (gI σ 2 j) j).toInt = S j) :
    ∃ σ', g_X8_look v (iZ (m : Int)) X σ = some (X, σ') ∧ gI σ' v 2 = iZ (popc w R : Int) ∧ gI σ' v 3 = iZ (m : Int) ∧ gJ σ' v 4 = jZ (vsum (fun j => if w.testBit j = true then 0 else S j) R) ∧ (∀ i, i < popc w R → gI σ' (v + 1) i = iZ (h i : Int)) ∧ (∀ i t, i ≤ popc w R → t < m → gI σ' (v + 2) (i * 99 + t) = iZ (Wf m h i (t : Int))) ∧ (∀ a b, ¬ (v ≤ a ∧ a ≤ v + 2) → gI σ' a b = gI σ a b ∧ gJ σ' a b = gJ σ a b) ∧ (∀ a b, gR σ' a b = gR σ a b) := by
  have k0 := hv.1
  have em : mxI 1 (mnI 99 (iZ (m : Int))) = iZ (m : Int) := by
    rw [show (99 : Int32) = iZ 99 from rfl, show (1 : Int32) = iZ 1 from rfl, iZ_mn (by omega) (by omega) (by omega) (by omega), iZ_mx (by omega) (by omega) (by omega) (by omega)]
    congr 1
    omega
  obtain ⟨σ1, q0, q1, q2, q3, q4, q5, q6⟩ := g_look_go (X := X) (S := S) hv v72 hR hp5 hH R FU 0 (sJ (sI (sI σ v 3 (iZ (m : Int))) v 2 0) v 4 0) (by omega) (by unfold FU; omega) (by rw [gI_sJ, g_sI_ne (by omega), g_sI_ne (by omega)]; exact hr) (by rw [gI_sJ, g_sI_ne (by omega), g_sI_ne (by omega)]; exact h5) (fun j hj => by rw [gI_sJ, gI_sJ, g_sI_ne (by omega), g_sI_ne (by omega), g_sI_ne (by omega), g_sI_ne (by omega)]; exact hS j hj) (by rw [gI_sJ, g_sI_eq]; rfl) (by rw [g_sJ_eq]; rfl) (fun i hi => absurd hi (Nat.not_lt_zero i))
  have t3 : gI σ1 v 3 = iZ (m : Int) := by rw [q4 v 3 (by omega) (by omega), gI_sJ, g_sI_ne (by omega), g_sI_eq]
  obtain ⟨σ2, r0, r1, r2, r3, r4⟩ := g_ways (X := X) hv hm hm2 hp5 hh q1 t3 q3
  refine ⟨σ2, ?_, ?_, ?_, ?_, ?_, r1, ?_, ?_⟩
  · unfold g_X8_look g_X8_look_b
    rw [gd_t k0, em]
    rw [show g_X8_look_26 v FU 0 X (sJ (sI (sI σ v 3 (iZ (m : Int))) v 2 0) v 4 0) = _ from q0, bnd r0]
    dsimp only
    rw [gd_t k0]
    simp only [Option.bind_some]
    rw [wrp]
  · rw [r2 v 2 (by omega)]; exact q1
  · rw [r2 v 3 (by omega)]; exact t3
  · rw [r3]; exact q2
  · intro i hi
    rw [r2 (v + 1) i (by omega)]; exact q3 i hi
  · intro a b n1
    refine ⟨?_, ?_⟩
    · rw [r2 a b (by omega), q4 a b (by omega) (by omega), gI_sJ, g_sI_ne (by omega), g_sI_ne (by omega)]
    · rw [r3, q5 a b (by omega), g_sJ_ne (by omega), gJ_sI, gJ_sI]
  · intro a b
    rw [r4, q6]; rfl
