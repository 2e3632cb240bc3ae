/-! DOUBLES; MULTIPLY -/
def tws (P : Nat) : Nat → Nat → Int32
  | 0, _ => 0
  | k + 1, Q => wk Q (dgN P k * 10 ^ k) + tws P k (Q + dgN P k * 10 ^ k)
def twq (P : Nat) : Nat → Nat → Nat
  | 0, Q => Q
  | k + 1, Q => twq P k (Q + dgN P k * 10 ^ k)
theorem twq_eq (P : Nat) : ∀ k Q : Nat, twq P k Q = Q + P % 10 ^ k
  | 0, Q => by
    show Q = Q + P % 10 ^ 0
    rw [Nat.pow_zero, Nat.mod_one]; rfl
  | k + 1, Q => by
    show twq P k (Q + dgN P k * 10 ^ k) = _
    rw [twq_eq P k, mod_succ, Nat.mul_comm (10 ^ k)]; omega
theorem iZ_dg {V : Vl} {P k : Nat} (h : V.1 k = dgI P k) : V.1 k = iZ (dgN P k : Int) := h
theorem c_twX_go {P : Nat} : ∀ k Q : Nat, ∀ w : Int32, ∀ V : Vl, k ≤ 9 → okD V → Q < 10 ^ 9 → Q + P % 10 ^ k < 10 ^ 9 → (∀ j, j < 9 → V.1 j = dgI Q j) → (∀ j, j < k → V.1 j = dgI P j) → V.2.2.1 = w → okD (twiceV F9 9 k V) ∧ (∀ j, j < 9 → (twiceV F9 9 k V).1 j = dgI (Q + P % 10 ^ k) j) ∧ (twiceV F9 9 k V).2.2.1 = w + tws P k Q
  | 0, Q, w, V, _, ok, _, _, h1, h2, hw => by
    refine ⟨ok, ?_, ?_⟩
    · rw [Nat.pow_zero, Nat.mod_one]; exact h1
    · show V.2.2.1 = w + 0
      rw [Int32.add_zero]; exact hw
  | k + 1, Q, w, V, hk, ok, hQ, hs, h1, h2, hw => by
    have e9 : 10 ^ 9 = 1000000000 := by decide
    have hd : dgN P k < 10 := Nat.mod_lt _ (by omega)
    have hm := mod_succ P k
    rw [Nat.mul_comm] at hm
    have hn9 : dgN P k * 10 ^ k < 10 ^ 9 := by omega
    have od := one_dig hd (show k < 9 by omega) ok
    have e1 : V.1 k = iZ (dgN P k : Int) := h2 k (by omega)
    have bf := bringU_9 (R := 9) (by omega) (dg_rg (dgN P k * 10 ^ k)) 9 0 V (by omega) ok
    have okd := (drive_9 (R := 9) (by omega) (9 - k) k (V.1 k) V (by omega) (ok k (by omega)) ok).1
    rw [← e1] at od
    have d1 : ∀ j, j < 9 → (driveV F9 (9 - k) k (V.1 k) V).1 j = dgI (Q + dgN P k * 10 ^ k) j := by
      rw [← od.1]
      refine dg_eq bf.1 (by omega) ?_
      rw [bf.2]
      congr 1
      have v1 : vsum (vD V) 9 = (Q : Int) := by
        rw [← vsum_dgI Q 9 hQ (by omega)]
        exact vsum_congr 9 (fun j hj => by
          show (V.1 j).toInt = _
          rw [h1 j hj])
      have v2 := vsum_dgI (dgN P k * 10 ^ k) 9 hn9 (by omega)
      rw [v1, Nat.zero_add, v2]
      show (Q : Int) + (((dgN P k * 10 ^ k : Nat) : Int) - 0) = _
      omega
    have d2 : (driveV F9 (9 - k) k (V.1 k) V).2.2.1 = w + wk Q (dgN P k * 10 ^ k) := by
      rw [← od.2]
      have sh := shR.bu (F := F9) (R := 9) (g := dgI (dgN P k * 10 ^ k)) 9 0 _ _ (zw (V := V))
      rw [sh.2.2.1, wk_any hQ hn9 (V := (V.1, V.2.1, 0, V.2.2.2)) ok rfl h1, hw, Int32.add_comm]
    obtain ⟨i1, i2, i3⟩ := c_twX_go (P := P) k (Q + dgN P k * 10 ^ k) (w + wk Q (dgN P k * 10 ^ k)) (driveV F9 (9 - k) k (V.1 k) V) (by omega) okd (by omega) (by omega) d1 (fun j hj => by rw [drive_lo _ _ _ _ _ hj]; exact h2 j (by omega)) d2
    refine ⟨i1, ?_, ?_⟩
    · show ∀ j, j < 9 → (twiceV F9 9 k (driveV F9 (9 - k) k (V.1 k) V)).1 j = _
      intro j hj
      have ea : Q + dgN P k * 10 ^ k + P % 10 ^ k = Q + P % 10 ^ (k + 1) := by omega
      rw [i2 j hj, ea]
    · show (twiceV F9 9 k (driveV F9 (9 - k) k (V.1 k) V)).2.2.1 = w + (wk Q (dgN P k * 10 ^ k) + tws P k (Q + dgN P k * 10 ^ k))
      rw [i3, Int32.add_assoc]
