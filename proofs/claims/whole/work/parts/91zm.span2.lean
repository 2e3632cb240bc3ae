/-! SPAN: the model -/
theorem bit_nI {w k : Nat} (hk : k < 32) : bitI (nI w) k ↔ w.testBit k = true := by
  show (BitVec.ofInt 32 (w : Int)).getLsbD k = true ↔ _
  rw [BitVec.ofInt_natCast, BitVec.getLsbD_ofNat]
  simp [hk]
theorem em_0 {m r U : Int} (h0 : 0 ≤ r) (h1 : r < m) : (r - U) % m = 0 ↔ U % m = r := by
  rw [← Int.emod_eq_emod_iff_emod_sub_eq_zero, Int.emod_eq_of_lt h0 h1]
  exact ⟨fun h => h.symm, fun h => h.symm⟩
def spE (k59 : Int32 → Int32 → Int32 → Int64 → Int32 → Int64 → Int64 → Int64 → Int32 → St → Option (Int64 × St)) (x1 x2 x3 : Int32) (x4 : Int64) (x6 : Int32) (x7 x9 x11 : Int64) (x13 : Int32) (x14 : Int64) (σ : St) : Option (Int64 × St) :=
    (gd (nzJ x1.toInt64)
      (if (lg_cmp (rmJ x14 x1.toInt64) x2.toInt64) = 0 then
        (if (lg_cmp x9 (-1)) = 0 then
          (f_X10_span_166 k59 x1 x2 x3 x4 x6 (x7 + 1) x11 x13 x14 x14 σ)
          else
          (f_X10_span_166 k59 x1 x2 x3 x4 x6 (x7 + 1) x11 x13 x14 (mnJ x9 x14) σ))
        else
        (f_X10_span_177 k59 x1 x2 x3 x4 x6 x7 x9 x11 x13 σ)))
theorem popc_b (w : Nat) : ∀ n, popc w n ≤ n := by
  intro n
  induction n with
  | zero => exact Nat.le_refl _
  | succ n ih =>
    show popc w n + (if w.testBit n then 1 else 0) ≤ n + 1
    split <;> omega
theorem sp_in {k59 : Int32 → Int32 → Int32 → Int64 → Int32 → Int64 → Int64 → Int64 → Int32 → St → Option (Int64 × St)} {x1 x2 x3 : Int32} {x4 : Int64} {x6 : Int32} {x7 x9 x11 : Int64} {x13 : Int32} {σ : St} {R w : Nat} {h : Nat → Nat} {base : Int} {code : Nat} (hR : R ≤ 12) (hr : (gI σ 38 1).toInt = R) (hw : gI σ 38 20 = nI w) (hH : ∀ k, k < R → w.testBit k = true → h (popc w k) = k) (hc : code < 1000000) :
    ∀ mm n k : Nat, k + mm = R → mm < n → f_X10_span_77 k59 n x1 x2 x3 x4 x6 x7 x9 x11 x13 (jZ (base + Vf h (popc w k) code)) (iZ ((code / 10 ^ popc w k : Nat) : Int)) (iZ (k : Int)) σ = spE k59 x1 x2 x3 x4 x6 x7 x9 x11 x13 (jZ (base + Vf h (popc w R) code)) σ := by
  intro mm
  induction mm with
  | zero =>
    intro n k e hn
    cases n with
    | zero => omega
    | succ n =>
      have ek : k = R := by omega
      subst ek
      rw [f_X10_span_77, if_pos (by rw [leI, hr, iZt (by omega)]; omega)]
      rfl
  | succ mm ih =>
    intro n k e hn
    cases n with
    | zero => omega
    | succ n =>
      rw [f_X10_span_77, if_neg (by rw [leI, hr, iZt (by omega)]; omega), hw, bnd (s_has (nI w) k (by omega) σ)]
      unfold f_X10_span_122 f_X10_span_115 f_X10_span_122
      rw [iZs]
      by_cases b : w.testBit k = true
      · have ep : popc w (k + 1) = popc w k + 1 := by
          show popc w k + (if w.testBit k then 1 else 0) = _
          rw [if_pos b]
        have hl : code / 10 ^ popc w k ≤ code := Nat.div_le_self _ _
        rw [if_neg (by show ¬ bZ _ = 0; rw [bZ_0]; exact not_not_intro ((bit_nI (by omega)).mpr b)), bnd (s_ten σ k (by omega))]
        have h10 : (10 : Int32) = iZ ((10 : Nat) : Int) := rfl
        have e1 : rmI (iZ ((code / 10 ^ popc w k : Nat) : Int)) 10 = iZ ((code / 10 ^ popc w k % 10 : Nat) : Int) := by
          rw [h10, iZ_rm (Int.natCast_nonneg _) (by omega) (by omega) (by omega)]; rfl
        have e2 : iZ ((code / 10 ^ popc w k : Nat) : Int) / 10 = iZ ((code / 10 ^ popc w (k + 1) : Nat) : Int) := by
          rw [h10, iZ_div (Int.natCast_nonneg _) (by omega) (by omega) (by omega), ep, Nat.pow_succ, ← Nat.div_div_eq_div_mul]; rfl
        have e3 : jZ (base + Vf h (popc w k) code) + (iZ ((code / 10 ^ popc w k % 10 : Nat) : Int)).toInt64 * jZ (10 ^ k) = jZ (base + Vf h (popc w (k + 1)) code) := by
          rw [iZ_l (by omega) (by omega), jZ_mul, jZ_add, ep]
          congr 1
          show _ = base + (Vf h (popc w k) code + ((code / 10 ^ popc w k % 10 : Nat) : Int) * 10 ^ (h (popc w k)))
          rw [hH k (by omega) b]; omega
        rw [e1, e2, e3]
        exact ih n (k + 1) (by omega) (by omega)
      · have ep : popc w (k + 1) = popc w k := by
          show popc w k + (if w.testBit k then 1 else 0) = _
          rw [if_neg b]; rfl
        rw [if_pos (by show bZ _ = 0; rw [bZ_0]; exact fun z => b ((bit_nI (by omega)).mp z))]
        have := ih n (k + 1) (by omega) (by omega)
        rw [ep] at this
        exact this
def nxL (m : Int) (h : Nat → Nat) (k : Nat) (z U L : Int) : Int := if L = -1 then (if 0 < Wf m h k z then U + ov m h false k z else -1) else L
def nxM (m : Int) (h : Nat → Nat) (k : Nat) (z U M : Int) : Int := if 0 < Wf m h k z then U + ov m h true k z else M
/-- one code -/
theorem sp_one {x3 : Int32} {σ : St} {R w n m r all code : Nat} {h : Nat → Nat} {base N L M : Int} (hR : R ≤ 12) (hr : (gI σ 38 1).toInt = R) (hw : gI σ 38 20 = nI w) (hH : ∀ k, k < R → w.testBit k = true → h (popc w k) = k) (hc : code < all) (ha : all ≤ 100000) (hm : 1 ≤ m) (hm2 : m ≤ 99) (hrm : r < m)
    (u0 : 0 ≤ base + Vf h (popc w R) code) (u1 : base + Vf h (popc w R) code < 4000000000000000000) (l1 : L = -1 ∨ (0 ≤ L ∧ L ≤ base + Vf h (popc w R) code)) (m1 : -1 ≤ M) (m2 : M ≤ base + Vf h (popc w R) code) :
    f_X10_span_59 (n + 1) (iZ (m : Int)) (iZ (r : Int)) x3 (jZ base) (iZ (all : Int)) (jZ N) (jZ L) (jZ M) (iZ (code : Int)) σ = f_X10_span_59 n (iZ (m : Int)) (iZ (r : Int)) x3 (jZ base) (iZ (all : Int)) (jZ (N + Wf m h 0 (r - (base + Vf h (popc w R) code)))) (jZ (nxL m h 0 (r - (base + Vf h (popc w R) code)) (base + Vf h (popc w R) code) L)) (jZ (nxM m h 0 (r - (base + Vf h (popc w R) code)) (base + Vf h (popc w R) code) M)) (iZ ((code + 1 : Nat) : Int)) σ := by
  have a := sp_in (k59 := f_X10_span_59 n) (x1 := iZ (m : Int)) (x2 := iZ (r : Int)) (x3 := x3) (x4 := jZ base) (x6 := iZ (all : Int)) (x7 := jZ N) (x9 := jZ L) (x11 := jZ M) (x13 := iZ (code : Int)) (base := base) (code := code) hR hr hw hH (by omega) R FU 0 (by omega) (by unfold FU; omega)
  have z0 : Vf h (popc w 0) code = 0 := rfl
  have z1 : code / 10 ^ popc w 0 = code := Nat.div_one code
  rw [z0, z1, Int.add_zero] at a
  rw [f_X10_span_59, if_neg (by rw [leI, iZt (by omega), iZt (by omega)]; omega)]
  rw [show f_X10_span_77 (f_X10_span_59 n) FU (iZ (m : Int)) (iZ (r : Int)) x3 (jZ base) (iZ (all : Int)) (jZ N) (jZ L) (jZ M) (iZ (code : Int)) (jZ base) (iZ (code : Int)) 0 σ = _ from a]
  generalize base + Vf h (popc w R) code = U at *
  unfold spE f_X10_span_166 f_X10_span_177
  have e64 : (iZ (m : Int)).toInt64 = jZ (m : Int) := iZ_l (by omega) (by omega)
  have r64 : (iZ (r : Int)).toInt64 = jZ (r : Int) := iZ_l (by omega) (by omega)
  have um0 : 0 ≤ U % (m : Int) := Int.emod_nonneg _ (by omega)
  have um1 : U % (m : Int) < m := Int.emod_lt_of_pos _ (by omega)
  rw [e64, r64, gd_t (jZ_nz (by omega) (by omega) (by omega)), jZ_rm u0 (by omega) (by omega) (by omega), iZs]
  have em := em_0 (U := U) (show (0 : Int) ≤ r by omega) (show (r : Int) < m by omega)
  have w0 : Wf m h 0 (r - U) = if ((r : Int) - U) % m = 0 then 1 else 0 := rfl
  have o0 : ∀ g, ov m h g 0 (r - U) = 0 := fun _ => rfl
  unfold nxL nxM
  rw [w0, o0, o0, Int.add_zero]
  by_cases q : U % (m : Int) = r
  · have c1 : (if ((r : Int) - U) % m = 0 then (1 : Int) else 0) = 1 := if_pos (em.mpr q)
    have p1 : (if (0 : Int) < 1 then U else -1) = U := if_pos (by omega)
    have p2 : (if (0 : Int) < 1 then U else M) = U := if_pos (by omega)
    have hx : mxJ (jZ M) (jZ U) = jZ U := by
      unfold mxJ
      rw [if_neg (by rw [jZ_lt (by omega) (by omega) (by omega) (by omega)]; omega)]
    have hn : jZ N + 1 = jZ (N + 1) := jZ_add N 1
    have mm : (-1 : Int64) = jZ (-1) := rfl
    have cq : lg_cmp (jZ (U % (m : Int))) (jZ (r : Int)) = 0 := by rw [cmE, q]
    rw [c1, p1, p2, if_pos cq, hx, hn]
    rcases l1 with l1 | ⟨l1, l2⟩
    · rw [if_pos (show lg_cmp (jZ L) (-1) = 0 by rw [cmE, l1]; rfl), if_pos l1]
    · have hmn : mnJ (jZ L) (jZ U) = jZ L := by
        unfold mnJ
        rw [if_neg (by rw [jZ_lt (by omega) (by omega) (by omega) (by omega)]; omega)]
      rw [if_neg (show ¬ lg_cmp (jZ L) (-1) = 0 by rw [cmE, mm, jZ_eq (by omega) (by omega) (by omega) (by omega)]; omega), hmn, if_neg (show ¬ L = -1 by omega)]
  · have c1 : (if ((r : Int) - U) % m = 0 then (1 : Int) else 0) = 0 := if_neg (fun z => q (em.mp z))
    have p1 : (if (0 : Int) < 0 then U else -1) = -1 := if_neg (by omega)
    have p2 : (if (0 : Int) < 0 then U else M) = M := if_neg (by omega)
    have cq : ¬ lg_cmp (jZ (U % (m : Int))) (jZ (r : Int)) = 0 := by rw [cmE, jZ_eq (by omega) (by omega) (by omega) (by omega)]; exact q
    rw [c1, p1, p2, if_neg cq, Int.add_zero]
    rcases l1 with l1 | ⟨l1, l2⟩
    · rw [if_pos l1, l1]
    · rw [if_neg (show ¬ L = -1 by omega)]
/-- the least and the greatest of the first d digits -/
def Ldd (m : Int) (h : Nat → Nat) (k : Nat) (z U L : Int) (d : Nat) : Int := if L = -1 then (match fsD (Pk m h k z) d with | some e => U + (e : Int) * 10 ^ (h k) + ov m h false k (z - (e : Int) * 10 ^ (h k)) | none => -1) else L
def Mdd (m : Int) (h : Nat → Nat) (k : Nat) (z U M : Int) (d : Nat) : Int := match laD (Pk m h k z) d with | some e => U + (e : Int) * 10 ^ (h k) + ov m h true k (z - (e : Int) * 10 ^ (h k)) | none => M
theorem Ldd_s {m : Int} {h : Nat → Nat} {k : Nat} {z U L : Int} (u0 : 0 ≤ U) (d : Nat) : nxL m h k (z - (d : Int) * 10 ^ (h k)) (U + (d : Int) * 10 ^ (h k)) (Ldd m h k z U L d) = Ldd m h k z U L (d + 1) := by
  unfold Ldd
  by_cases q : L = -1
  · rw [if_pos q, if_pos q]
    show nxL m h k _ _ _ = (match (match fsD (Pk m h k z) d with | some a => some a | none => bif Pk m h k z d then some d else none) with | some e => U + (e : Int) * 10 ^ (h k) + ov m h false k (z - (e : Int) * 10 ^ (h k)) | none => -1)
    cases e : fsD (Pk m h k z) d with
    | some a =>
      have b := (ov_b (m := m) (h := h) (g := false) k (z - (a : Int) * 10 ^ (h k))).1
      have c : (0 : Int) ≤ (a : Int) * 10 ^ (h k) := Int.mul_nonneg (by omega) (Int.le_of_lt (tnP _))
      show nxL m h k _ _ (U + (a : Int) * 10 ^ (h k) + ov m h false k (z - (a : Int) * 10 ^ (h k))) = U + (a : Int) * 10 ^ (h k) + ov m h false k (z - (a : Int) * 10 ^ (h k))
      unfold nxL
      rw [if_neg (by omega)]
    | none =>
      show nxL m h k _ _ (-1) = (match (bif Pk m h k z d then some d else none) with | some e => U + (e : Int) * 10 ^ (h k) + ov m h false k (z - (e : Int) * 10 ^ (h k)) | none => -1)
      unfold nxL Pk
      rw [if_pos rfl]
      by_cases p : 0 < Wf m h k (z - (d : Int) * 10 ^ (h k))
      · rw [if_pos p, decide_eq_true p]; rfl
      · rw [if_neg p, decide_eq_false p]; rfl
  · rw [if_neg q, if_neg q]
    unfold nxL
    rw [if_neg q]
theorem Mdd_s {m : Int} {h : Nat → Nat} {k : Nat} {z U M : Int} (d : Nat) : nxM m h k (z - (d : Int) * 10 ^ (h k)) (U + (d : Int) * 10 ^ (h k)) (Mdd m h k z U M d) = Mdd m h k z U M (d + 1) := by
  unfold Mdd
  show nxM m h k _ _ _ = (match (bif Pk m h k z d then some d else laD (Pk m h k z) d) with | some e => U + (e : Int) * 10 ^ (h k) + ov m h true k (z - (e : Int) * 10 ^ (h k)) | none => M)
  have ep : Pk m h k z d = decide (0 < Wf m h k (z - (d : Int) * 10 ^ (h k))) := rfl
  unfold nxM
  rw [ep]
  by_cases p : 0 < Wf m h k (z - (d : Int) * 10 ^ (h k))
  · rw [if_pos p, decide_eq_true p]; rfl
  · rw [if_neg p, decide_eq_false p]; rfl
theorem Ldd_b {m : Int} {h : Nat → Nat} {s k : Nat} {z U L : Int} (hi : ∀ i, i + 1 < s → h i < h (i + 1)) (hk : k < s) (u0 : 0 ≤ U) (l1 : L = -1 ∨ (0 ≤ L ∧ L ≤ U)) (d : Nat) : Ldd m h k z U L d = -1 ∨ (0 ≤ Ldd m h k z U L d ∧ Ldd m h k z U L d ≤ U + (d : Int) * 10 ^ (h k)) := by
  have dn : (0 : Int) ≤ (d : Int) * 10 ^ (h k) := Int.mul_nonneg (by omega) (Int.le_of_lt (tnP _))
  unfold Ldd
  by_cases q : L = -1
  · rw [if_pos q]
    cases e : fsD (Pk m h k z) d with
    | none => left; rfl
    | some a =>
      right
      obtain ⟨b1, b2⟩ := ov_b (m := m) (h := h) (g := false) k (z - (a : Int) * 10 ^ (h k))
      have c : (0 : Int) ≤ (a : Int) * 10 ^ (h k) := Int.mul_nonneg (by omega) (Int.le_of_lt (tnP _))
      have lt := mxV_lt hi k hk
      have had := (fsD_some d e).1
      have c2 : ((a : Int) + 1) * 10 ^ (h k) ≤ (d : Int) * 10 ^ (h k) := Int.mul_le_mul_of_nonneg_right (by omega) (Int.le_of_lt (tnP _))
      rw [Int.add_mul, Int.one_mul] at c2
      show 0 ≤ U + (a : Int) * 10 ^ (h k) + ov m h false k (z - (a : Int) * 10 ^ (h k)) ∧ U + (a : Int) * 10 ^ (h k) + ov m h false k (z - (a : Int) * 10 ^ (h k)) ≤ _
      omega
  · rw [if_neg q]
    rcases l1 with l1 | l1
    · exact absurd l1 q
    · right; omega
theorem Mdd_b {m : Int} {h : Nat → Nat} {s k : Nat} {z U M : Int} (hi : ∀ i, i + 1 < s → h i < h (i + 1)) (hk : k < s) (u0 : 0 ≤ U) (m1 : -1 ≤ M) (m2 : M ≤ U) (d : Nat) : -1 ≤ Mdd m h k z U M d ∧ Mdd m h k z U M d ≤ U + (d : Int) * 10 ^ (h k) := by
  have dn : (0 : Int) ≤ (d : Int) * 10 ^ (h k) := Int.mul_nonneg (by omega) (Int.le_of_lt (tnP _))
  unfold Mdd
  cases e : laD (Pk m h k z) d with
  | none => show -1 ≤ M ∧ M ≤ _; omega
  | some a =>
    obtain ⟨b1, b2⟩ := ov_b (m := m) (h := h) (g := true) k (z - (a : Int) * 10 ^ (h k))
    have c : (0 : Int) ≤ (a : Int) * 10 ^ (h k) := Int.mul_nonneg (by omega) (Int.le_of_lt (tnP _))
    have lt := mxV_lt hi k hk
    have had := (laD_some d e).1
    have c2 : ((a : Int) + 1) * 10 ^ (h k) ≤ (d : Int) * 10 ^ (h k) := Int.mul_le_mul_of_nonneg_right (by omega) (Int.le_of_lt (tnP _))
    rw [Int.add_mul, Int.one_mul] at c2
    show -1 ≤ U + (a : Int) * 10 ^ (h k) + ov m h true k (z - (a : Int) * 10 ^ (h k)) ∧ U + (a : Int) * 10 ^ (h k) + ov m h true k (z - (a : Int) * 10 ^ (h k)) ≤ _
    omega
theorem W_fs {m : Int} {h : Nat → Nat} {k : Nat} {z : Int} : 0 < Wf m h (k + 1) z ↔ ∃ d, d < 10 ∧ Pk m h k z d = true := by
  refine Iff.trans (esum_pos 10 (fun d _ => Wf_nn k _)) ⟨fun ⟨d, a, b⟩ => ⟨d, a, decide_eq_true b⟩, fun ⟨d, a, b⟩ => ⟨d, a, of_decide_eq_true b⟩⟩
theorem Ldd_e {m : Int} {h : Nat → Nat} {k : Nat} {z U L : Int} : Ldd m h k z U L 10 = nxL m h (k + 1) z U L := by
  unfold Ldd nxL
  by_cases q : L = -1
  · rw [if_pos q, if_pos q]
    show _ = if 0 < Wf m h (k + 1) z then U + (match fsD (Pk m h k z) 10 with | some d => (d : Int) * 10 ^ (h k) + ov m h false k (z - (d : Int) * 10 ^ (h k)) | none => 0) else -1
    cases e : fsD (Pk m h k z) 10 with
    | none =>
      have := (fsD_none 10).mp e
      rw [if_neg (fun c => by obtain ⟨d, a, b⟩ := W_fs.mp c; rw [this d a] at b; cases b)]
    | some a =>
      rw [if_pos (W_fs.mpr ⟨a, (fsD_some 10 e).1, (fsD_some 10 e).2.1⟩)]
      show U + (a : Int) * 10 ^ (h k) + _ = U + ((a : Int) * 10 ^ (h k) + _)
      omega
  · rw [if_neg q, if_neg q]
theorem Mdd_e {m : Int} {h : Nat → Nat} {k : Nat} {z U M : Int} : Mdd m h k z U M 10 = nxM m h (k + 1) z U M := by
  unfold Mdd nxM
  show _ = if 0 < Wf m h (k + 1) z then U + (match laD (Pk m h k z) 10 with | some d => (d : Int) * 10 ^ (h k) + ov m h true k (z - (d : Int) * 10 ^ (h k)) | none => 0) else M
  cases e : laD (Pk m h k z) 10 with
  | none =>
    have := (laD_none 10).mp e
    rw [if_neg (fun c => by obtain ⟨d, a, b⟩ := W_fs.mp c; rw [this d a] at b; cases b)]
  | some a =>
    rw [if_pos (W_fs.mpr ⟨a, (laD_some 10 e).1, (laD_some 10 e).2.1⟩)]
    show U + (a : Int) * 10 ^ (h k) + _ = U + ((a : Int) * 10 ^ (h k) + _)
    omega
/-- a block of codes -/
theorem sp_bl {x3 : Int32} {σ : St} {R w m r s : Nat} {h : Nat → Nat} {base : Int} (hR : R ≤ 12) (hr : (gI σ 38 1).toInt = R) (hw : gI σ 38 20 = nI w) (hs : popc w R = s) (hH : ∀ k, k < R → w.testBit k = true → h (popc w k) = k) (hi : ∀ i, i + 1 < s → h i < h (i + 1)) (ha : 10 ^ s ≤ 100000) (hm : 1 ≤ m) (hm2 : m ≤ 99) (hrm : r < m) (b0 : 0 ≤ base) (b1 : base + mxV h s < 4000000000000000000) :
    ∀ k, k ≤ s → ∀ (a f : Nat) (N L M : Int), (a + 1) * 10 ^ k ≤ 10 ^ s → (L = -1 ∨ (0 ≤ L ∧ L ≤ base + Vf h s (a * 10 ^ k))) → -1 ≤ M → M ≤ base + Vf h s (a * 10 ^ k) →
    f_X10_span_59 (f + 10 ^ k) (iZ (m : Int)) (iZ (r : Int)) x3 (jZ base) (iZ ((10 ^ s : Nat) : Int)) (jZ N) (jZ L) (jZ M) (iZ ((a * 10 ^ k : Nat) : Int)) σ = f_X10_span_59 f (iZ (m : Int)) (iZ (r : Int)) x3 (jZ base) (iZ ((10 ^ s : Nat) : Int)) (jZ (N + Wf m h k (r - (base + Vf h s (a * 10 ^ k))))) (jZ (nxL m h k (r - (base + Vf h s (a * 10 ^ k))) (base + Vf h s (a * 10 ^ k)) L)) (jZ (nxM m h k (r - (base + Vf h s (a * 10 ^ k))) (base + Vf h s (a * 10 ^ k)) M)) (iZ (((a + 1) * 10 ^ k : Nat) : Int)) σ := by
  intro k
  induction k with
  | zero =>
    intro _ a f N L M hb l1 m1 m2
    obtain ⟨v0, v1⟩ := Vf_b (h := h) s (a * 10 ^ 0)
    subst hs
    have e0 : a * 10 ^ 0 = a := Nat.mul_one a
    have e1 : (a + 1) * 10 ^ 0 = a + 1 := Nat.mul_one _
    rw [e0] at l1 m2 v0 v1
    rw [e1] at hb
    rw [e0, e1]
    exact sp_one hR hr hw hH (by omega) ha hm hm2 hrm (by omega) (by omega) l1 m1 m2
  | succ k ih =>
    intro hk a f N L M hb l1 m1 m2
    obtain ⟨v0, v1⟩ := Vf_b (h := h) s (a * 10 ^ (k + 1))
    generalize hU : base + Vf h s (a * 10 ^ (k + 1)) = U at *
    have u0 : 0 ≤ U := by omega
    have pk : 0 < 10 ^ k := Nat.pow_pos (by omega)
    have es : 10 ^ (k + 1) = 10 * 10 ^ k := by rw [Nat.pow_succ, Nat.mul_comm]
    have D : ∀ j d : Nat, d + j = 10 → f_X10_span_59 (f + j * 10 ^ k) (iZ (m : Int)) (iZ (r : Int)) x3 (jZ base) (iZ ((10 ^ s : Nat) : Int)) (jZ (N + esum (fun d => Wf m h k ((r - U) - (d : Int) * 10 ^ (h k))) d)) (jZ (Ldd m h k (r - U) U L d)) (jZ (Mdd m h k (r - U) U M d)) (iZ (((10 * a + d) * 10 ^ k : Nat) : Int)) σ = f_X10_span_59 f (iZ (m : Int)) (iZ (r : Int)) x3 (jZ base) (iZ ((10 ^ s : Nat) : Int)) (jZ (N + esum (fun d => Wf m h k ((r - U) - (d : Int) * 10 ^ (h k))) 10)) (jZ (Ldd m h k (r - U) U L 10)) (jZ (Mdd m h k (r - U) U M 10)) (iZ (((10 * a + 10) * 10 ^ k : Nat) : Int)) σ := by
      intro j
      induction j with
      | zero =>
        intro d e
        have ed : d = 10 := by omega
        subst ed
        rw [Nat.zero_mul, Nat.add_zero]
      | succ j ihj =>
        intro d e
        have eV : base + Vf h s ((10 * a + d) * 10 ^ k) = U + (d : Int) * 10 ^ (h k) := by
          rw [Vf_sub (by omega) hk, ← hU]; omega
        have bd : (10 * a + d + 1) * 10 ^ k ≤ 10 ^ s := by
          refine Nat.le_trans ?_ hb
          rw [es, ← Nat.mul_assoc]
          exact Nat.mul_le_mul_right _ (by omega)
        have lb := Ldd_b (m := m) (k := k) (z := r - U) hi (by omega) u0 l1 d
        have mb := Mdd_b (m := m) (k := k) (z := r - U) hi (by omega) u0 m1 m2 d
        have x := ih (by omega) (10 * a + d) (f + j * 10 ^ k) (N + esum (fun d => Wf m h k ((r - U) - (d : Int) * 10 ^ (h k))) d) (Ldd m h k (r - U) U L d) (Mdd m h k (r - U) U M d) bd (by rw [eV]; exact lb) mb.1 (by rw [eV]; exact mb.2)
        have ez : (r : Int) - (U + (d : Int) * 10 ^ (h k)) = (r - U) - (d : Int) * 10 ^ (h k) := by omega
        rw [eV, ez, Ldd_s u0, Mdd_s] at x
        rw [show f + (j + 1) * 10 ^ k = f + j * 10 ^ k + 10 ^ k by rw [Nat.add_mul, Nat.one_mul, Nat.add_assoc], x]
        have en : N + esum (fun d => Wf m h k ((r - U) - (d : Int) * 10 ^ (h k))) d + Wf m h k ((r - U) - (d : Int) * 10 ^ (h k)) = N + esum (fun d => Wf m h k ((r - U) - (d : Int) * 10 ^ (h k))) (d + 1) := by
          show _ = N + (esum (fun d => Wf m h k ((r - U) - (d : Int) * 10 ^ (h k))) d + Wf m h k ((r - U) - (d : Int) * 10 ^ (h k)))
          omega
        rw [en]
        exact ihj (d + 1) (by omega)
    have d0 := D 10 0 (by omega)
    have z1 : N + esum (fun d => Wf m h k ((r - U) - (d : Int) * 10 ^ (h k))) 0 = N := Int.add_zero N
    have z2 : Ldd m h k (r - U) U L 0 = L := by
      unfold Ldd
      by_cases q : L = -1
      · rw [if_pos q, q]; rfl
      · rw [if_neg q]
    have z3 : Mdd m h k (r - U) U M 0 = M := rfl
    have z4 : (10 * a + 0) * 10 ^ k = a * 10 ^ (k + 1) := by rw [es, Nat.add_zero, Nat.mul_comm 10 a, Nat.mul_assoc]
    have z5 : (10 * a + 10) * 10 ^ k = (a + 1) * 10 ^ (k + 1) := by
      rw [es, ← Nat.mul_assoc]; congr 1; omega
    rw [z1, z2, z3, z4, z5, Ldd_e, Mdd_e, ← es] at d0
    exact d0
