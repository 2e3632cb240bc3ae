/-! MAKE: the edges -/
def w1 (v n : Nat) : Int32 := (bringU F9 3 (dgI n) 3 0 (V0 v)).2.2.1
theorem one_dig3 {d k : Nat} (hd : d < 10) (hk : k < 3) {V : Vl} (ok : okD V) : eqDW (bringU F9 3 (dgI (d * 10 ^ k)) 3 0 V) (driveV F9 (3 - k) k (iZ (d : Int)) V) := by
  have hz : ∀ j, j ≠ k → dgI (d * 10 ^ k) j = 0 := fun j hj => by
    unfold dgI; rw [dg_one hd, if_neg hj]; rfl
  have hk0 : dgI (d * 10 ^ k) k = iZ (d : Int) := by
    unfold dgI; rw [dg_one hd, if_pos rfl]
  have a1 := bringU_app (F := F9) (R := 3) (h := dgI (d * 10 ^ k)) k (1 + (2 - k)) 0 V
  rw [show k + (1 + (2 - k)) = 3 by omega, Nat.zero_add] at a1
  have z1 := bringU_0 (R := 3) (by omega) (h := dgI (d * 10 ^ k)) k 0 V (by omega) ok (fun j h1 h2 => hz j (by omega))
  have ok1 : okD (bringU F9 3 (dgI (d * 10 ^ k)) k 0 V) := fun j hj => by rw [z1.1]; exact ok j hj
  rw [a1, bringU_app 1 (2 - k) k]
  have s1 : bringU F9 3 (dgI (d * 10 ^ k)) 1 k (bringU F9 3 (dgI (d * 10 ^ k)) k 0 V) = driveV F9 (3 - k) k (iZ (d : Int)) (bringU F9 3 (dgI (d * 10 ^ k)) k 0 V) := by
    rw [bringU, bringU, hk0]
  rw [s1]
  have eD : eqDW (driveV F9 (3 - k) k (iZ (d : Int)) (bringU F9 3 (dgI (d * 10 ^ k)) k 0 V)) (driveV F9 (3 - k) k (iZ (d : Int)) V) := eqDW.drive _ _ _ _ _ z1
  have ok2 := (drive_9 (R := 3) (by omega) (3 - k) k (iZ (d : Int)) _ (by omega) (by unfold rg; rw [iZt (by omega)]; omega) ok1).1
  have z2 := bringU_0 (R := 3) (by omega) (h := dgI (d * 10 ^ k)) (2 - k) (k + 1) _ (by omega) ok2 (fun j h1 h2 => hz j (by omega))
  exact ⟨z2.1.trans eD.1, z2.2.trans eD.2⟩
theorem dg_eq3 {V : Vl} {Q : Nat} (ok : okD V) (hQ : Q < 10 ^ 3) (h : vsum (vD V) 3 % 10 ^ 3 = (Q : Int) % 10 ^ 3) : ∀ j, j < 3 → V.1 j = dgI Q j := by
  obtain ⟨w, w1, w2, w3⟩ := vsum_rg (R := 3) (by omega) ok
  have e9 : (10 : Int) ^ 3 = 1000 := by decide
  have e9n : 10 ^ 3 = 1000 := by decide
  rw [w1, e9] at h
  have : w = Q := by omega
  intro j hj
  rw [← this]; exact (w3 j hj).symm
/-- one digit is added: digits and cost -/
theorem edge_1 {u d k : Nat} {V : Vl} {W : Int} (hd : d < 10) (hk : k < 3) (ok : okD V) (hV : ∀ j, j < 3 → V.1 j = dgI u j) (hu : u < 10 ^ 3) (hs : u + d * 10 ^ k < 10 ^ 3) : okD (driveV F9 (3 - k) k (iZ (d : Int)) V) ∧ ∀ j, j < 3 → (driveV F9 (3 - k) k (iZ (d : Int)) V).1 j = dgI (u + d * 10 ^ k) j := by
  have hy : rg (iZ (d : Int)) 0 9 := by unfold rg; rw [iZt (by omega)]; omega
  obtain ⟨o1, o2⟩ := drive_9 (R := 3) (by omega) (3 - k) k (iZ (d : Int)) V (by omega) hy ok
  refine ⟨o1, dg_eq3 o1 hs ?_⟩
  rw [o2, iZt (by omega)]
  congr 1
  have v1 : vsum (vD V) 3 = (u : Int) := by
    rw [← vsum_dgI u 3 hu (by omega)]
    exact vsum_congr 3 (fun j hj => by
      show (V.1 j).toInt = _
      rw [hV j hj])
  rw [v1, jpow, Int.natCast_add, Int.natCast_mul]
theorem w1_ok {u d k : Nat} (hd : d < 10) (hk : k < 3) (hs : u + d * 10 ^ k < 10 ^ 3) : rg (w1 u (d * 10 ^ k)) 0 30 ∧ pC (u + d * 10 ^ k) ≤ pC u + 1000 * (w1 u (d * 10 ^ k)).toInt + 1 := by
  have ok := okV0 u
  have od := one_dig3 (V := V0 u) hd hk ok
  obtain ⟨e1, e2⟩ := edge_1 (V := V0 u) (W := 0) hd hk ok (fun _ _ => rfl) (by omega) hs
  have hy : rg (iZ (d : Int)) 0 9 := by unfold rg; rw [iZt (by omega)]; omega
  obtain ⟨W', q1, q2, q3, q4⟩ := ph_drive (R := 3) (by omega) (3 - k) k (iZ (d : Int)) (V0 u) 0 (by omega) hy ok rfl (by omega) (by omega)
  have ew : w1 u (d * 10 ^ k) = (driveV F9 (3 - k) k (iZ (d : Int)) (V0 u)).2.2.1 := od.2
  rw [pC_V e2, pC_V (V := V0 u) (fun _ _ => rfl)] at q4
  unfold rg
  rw [ew, q1]
  exact ⟨by omega, by omega⟩
/-- the edge by which a number is cheapest -/
theorem w1_pred {u d k : Nat} (hd0 : 0 < d) (hd : d < 10) (hk : k < 3) (h0 : dgN u k = 0) (hs : u + d * 10 ^ k < 10 ^ 3) : pC (u + d * 10 ^ k) = pC u + 1000 * (w1 u (d * 10 ^ k)).toInt + 1 := by
  have ok := okV0 u
  have od := one_dig3 (V := V0 u) hd hk ok
  obtain ⟨e1, e2⟩ := edge_1 (V := V0 u) (W := 0) hd hk ok (fun _ _ => rfl) (by omega) hs
  have ew : w1 u (d * 10 ^ k) = (driveV F9 (3 - k) k (iZ (d : Int)) (V0 u)).2.2.1 := od.2
  have z0 : (V0 u).1 k = 0 := by
    show dgI u k = 0
    unfold dgI; rw [h0]; rfl
  have zt : ((V0 u).1 k).toInt = 0 := by rw [z0]; rfl
  have en : (V0 u).1 k + iZ (d : Int) = iZ (d : Int) := by rw [z0, Int32.zero_add]
  have hv : rg (iZ (d : Int)) 0 9 := by unfold rg; rw [iZt (by omega)]; omega
  have hm : 3 - k = (2 - k) + 1 := by omega
  have dv : driveV F9 (3 - k) k (iZ (d : Int)) (V0 u) = standV F9 k (iZ (d : Int)) (V0 u) := by
    rw [hm, driveV, en, if_pos (show 0 ≤ (iZ (d : Int)).toInt ∧ (iZ (d : Int)).toInt ≤ 9 from hv)]
  obtain ⟨p1, p2⟩ := ph_stand (R := 3) (k := k) (V := V0 u) hk (by omega) hv ok 0 rfl (by omega) (by omega)
  rw [dv] at e2 ew
  have c1 := pC_V e2
  have c2 := pC_V (V := V0 u) (v := u) (fun _ _ => rfl)
  rw [c1, c2, zt, iZt (by omega)] at p1
  rw [ew, p2, zt, iZt (by omega)]
  omega
/-- doubling -/
def w3s (P : Nat) : Nat → Nat → Int32
  | 0, _ => 0
  | k + 1, Q => w1 Q (dgN P k * 10 ^ k) + w3s P k (Q + dgN P k * 10 ^ k)
theorem w1_any {u n : Nat} (hu : u < 10 ^ 3) (hn : n < 10 ^ 3) {V : Vl} (ok : okD V) (h0 : V.2.2.1 = 0) (hV : ∀ j, j < 3 → V.1 j = dgI u j) : (bringU F9 3 (dgI n) 3 0 V).2.2.1 = w1 u n := by
  have e3 : 10 ^ 3 = 1000 := by decide
  have e18 : 10 ^ 18 = 1000000000000000000 := by decide
  have a := s_walks (R := 3) (by omega) ((fun _ _ => 0, fun _ _ => 0, fun _ _ => none) : St) u n (by omega) (by omega) V ok h0 hV
  have b := s_walks (R := 3) (by omega) ((fun _ _ => 0, fun _ _ => 0, fun _ _ => none) : St) u n (by omega) (by omega) (V0 u) (okV0 u) rfl (fun _ _ => rfl)
  rw [a] at b
  injection b with b
  have b2 := congrArg Prod.fst b
  exact b2
theorem w3_go {P : Nat} : ∀ k Q : Nat, ∀ V : Vl, ∀ W : Int, k ≤ 3 → okD V → Q < 10 ^ 3 → Q + P % 10 ^ k < 10 ^ 3 → (∀ j, j < 3 → V.1 j = dgI Q j) → (∀ j, j < k → V.1 j = dgI P j) → V.2.2.1.toInt = W → 0 ≤ W → W ≤ 10000 - 1000 * k → ∃ W' : Int, (V.2.2.1 + w3s P k Q).toInt = W' ∧ W ≤ W' ∧ W' ≤ W + 200 * k ∧ pC (Q + P % 10 ^ k) ≤ pC Q + 1000 * (W' - W) := by
  have e3 : 10 ^ 3 = 1000 := by decide
  intro k
  induction k with
  | zero =>
    intro Q V W _ ok hQ hs h1 h2 hW h0 hb
    refine ⟨W, ?_, Int.le_refl _, by omega, ?_⟩
    · show (V.2.2.1 + 0).toInt = W
      rw [Int32.add_zero]; exact hW
    · rw [Nat.pow_zero, Nat.mod_one, Nat.add_zero]; omega
  | succ k ih =>
    intro Q V W hk ok hQ hs h1 h2 hW h0 hb
    have hd : dgN P k < 10 := Nat.mod_lt _ (by omega)
    have hm := mod_succ P k
    rw [Nat.mul_comm] at hm
    have ev : V.1 k = iZ (dgN P k : Int) := h2 k (by omega)
    obtain ⟨o1, o2⟩ := edge_1 (V := V) (W := W) hd (show k < 3 by omega) ok h1 hQ (by omega)
    have od := one_dig3 (V := V) hd (show k < 3 by omega) ok
    have hmm : 3 - k = (2 - k) + 1 := by omega
    obtain ⟨W1, q1, q2, q3, q4⟩ := ph_dbl (R := 3) (by omega) (2 - k) k V W (by omega) ok hW h0 (by omega)
    rw [ev, ← hmm] at q1 q4
    have sh := shR.bu (F := F9) (R := 3) (g := dgI (dgN P k * 10 ^ k)) 3 0 _ _ (zw (V := V))
    have ew : (driveV F9 (3 - k) k (iZ (dgN P k : Int)) V).2.2.1 = V.2.2.1 + w1 Q (dgN P k * 10 ^ k) := by
      rw [← od.2, sh.2.2.1, w1_any hQ (by omega) (V := (V.1, V.2.1, 0, V.2.2.2)) ok rfl h1, Int32.add_comm]
    obtain ⟨W', r1, r2, r3, r4⟩ := ih (Q + dgN P k * 10 ^ k) (driveV F9 (3 - k) k (iZ (dgN P k : Int)) V) W1 (by omega) o1 (by omega) (by omega) o2 (fun j hj => by rw [drive_lo _ _ _ _ _ hj]; exact h2 j (by omega)) q1 (by omega) (by omega)
    rw [pC_V o2, pC_V h1] at q4
    have ea : Q + dgN P k * 10 ^ k + P % 10 ^ k = Q + P % 10 ^ (k + 1) := by omega
    rw [ea] at r4
    refine ⟨W', ?_, by omega, by omega, by omega⟩
    rw [← r1, ew, Int32.add_assoc]
    rfl
theorem w2_ok {v : Nat} (h : v + v < 10 ^ 3) : rg (w3s v 3 v) 0 600 ∧ pC (v + v) ≤ pC v + 1000 * (w3s v 3 v).toInt := by
  have em : v % 10 ^ 3 = v := Nat.mod_eq_of_lt (by omega)
  obtain ⟨W', q1, q2, q3, q4⟩ := w3_go (P := v) 3 v (V0 v) 0 (by omega) (okV0 v) (by omega) (by omega) (fun _ _ => rfl) (fun _ _ => rfl) rfl (by omega) (by omega)
  have e0 : (V0 v).2.2.1 + w3s v 3 v = w3s v 3 v := Int32.zero_add _
  rw [e0] at q1
  rw [em] at q4
  unfold rg
  rw [q1]
  exact ⟨by omega, by omega⟩
