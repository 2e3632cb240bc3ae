/-! WHAT A BELL MISSES: alike, on both sides -/
def wA (m v : Nat) (F : Nat → Nat → Int) (N r t : Nat) : Int := vA m v F (min r N) t * 100 ^ (r - N)
theorem wA_lo {m v : Nat} {F : Nat → Nat → Int} {N r : Nat} (h : r ≤ N) (t : Nat) : wA m v F N r t = vA m v F r t := by
  unfold wA
  rw [Nat.min_eq_left h, show r - N = 0 by omega, Int.pow_zero, Int.mul_one]
theorem wA_hi {m v : Nat} {F : Nat → Nat → Int} {N r : Nat} (h : N ≤ r) (t : Nat) : wA m v F N (r + 1) t = wA m v F N r t * 100 := by
  unfold wA
  rw [Nat.min_eq_right h, Nat.min_eq_right (by omega), show r + 1 - N = (r - N) + 1 by omega, Int.pow_succ, Int.mul_assoc]
theorem c_67 {X : En} {b1 b2 m : Nat} {P : Nat → Int} (hm : m ≤ 99) (x1 x3 x4 : Int32) (K : Int32 → Int32 → Int32 → Int32 → En → St → Option (Int64 × En × St)) : ∀ M n k : Nat, ∀ σ : St, k + M = m → M < n → shp σ b1 b2 → (∀ t, t < k → gJ σ b1 t = jZ (P t * 100)) → (∀ t, k ≤ t → t < m → gJ σ b1 t = jZ (P t)) → ∃ σ', g_X1_alike_67 K n x1 (iZ (m : Int)) x3 x4 (iZ (k : Int)) X σ = K x1 (iZ (m : Int)) x3 (x4 + 1) X σ' ∧ (∀ t, t < m → gJ σ' b1 t = jZ (P t * 100)) ∧ frm [b1] [] σ σ' := by
  intro M
  induction M with
  | zero =>
    intro n k σ e hn hs h1 h2
    cases n with
    | zero => omega
    | succ n =>
      have : k = m := by omega
      subst this
      refine ⟨σ, ?_, h1, frm.rf σ⟩
      rw [g_X1_alike_67, if_pos (by rw [leI]; exact Int.le_refl _)]
      rfl
  | succ M ih =>
    intro n k σ e hn hs h1 h2
    cases n with
    | zero => omega
    | succ n =>
      obtain ⟨kb1, kb2⟩ := hs.kb X
      have hb15 : b1 ≠ 15 := by rcases hs.2.2 with ⟨e1, e2⟩ | ⟨e1, e2⟩ <;> omega
      have h100 : (100 : Int64) = jZ 100 := rfl
      rw [g_X1_alike_67, if_neg (by rw [leI, iZt (by omega), iZt (by omega)]; omega), bnd hs.1, gd_t kb1.1, gd_t (iZb (by rw [kb1.2]; omega) (by rw [kb1.2]; omega)), gd_t (iZb (by rw [kb1.2]; omega) (by rw [kb1.2]; omega)), iZc (show k < 2147483648 by omega), h2 k (by omega) (by omega), h100, jZ_mul]
      unfold g_X1_alike_86
      rw [iZs]
      have fr : frm [b1] [] σ (sJ σ b1 k (jZ (P k * 100))) := frm_sJ (frm.rf σ) (by simp)
      obtain ⟨σ', i1, i2, i3⟩ := ih n (k + 1) _ (by omega) (by omega) (hs.to fr hb15) (fun t ht => by
        by_cases c : t = k
        · rw [c, g_sJ_eq]
        · rw [g_sJ_ne (by omega)]; exact h1 t (by omega)) (fun t h3 h4 => by rw [g_sJ_ne (by omega)]; exact h2 t (by omega) h4)
      exact ⟨σ', i1, i2, fr.tr i3⟩
abbrev Fo (e : Nat → Int32) (a d : Nat) : Int := (e (10 * a + d)).toInt
theorem c_24 {X : En} {m v : Nat} (hm : m ≤ 99) (hm2 : 2 ≤ m) (hv : v < 10 ^ 9) (e16 : Nat → Int32) (hF : okFe (Fo e16)) : ∀ M n r b1 b2 : Nat, ∀ σ : St, r + M = 9 → M < n → shp σ b1 b2 → gI σ 16 = e16 → (∀ t, t < m → gJ σ b1 t = jZ (wA m v (Fo e16) (nd v) r t)) → ∃ σ' b1' b2', g_X1_alike_24 n (iZ (v : Int)) (iZ (m : Int)) (iZ ((nd v : Int) - 1)) (iZ (r : Int)) X σ = some (jZ (wA m v (Fo e16) (nd v) 9 (v % m)), X, σ') ∧ shp σ' b1' b2' ∧ frm [17, 18] [(15, 1), (15, 2)] σ σ' := by
  have e9 : 10 ^ 9 = 1000000000 := by decide
  have e18 : 10 ^ 18 = 1000000000000000000 := by decide
  have hn9 : nd v ≤ 9 := (nd_le (by omega)).mpr hv
  have ev : (iZ (v : Int)).toInt64 = jZ (v : Int) := iZ_l (by omega) (by omega)
  have em : (iZ (m : Int)).toInt64 = jZ (m : Int) := iZ_l (by omega) (by omega)
  have hvm : v % m < m := Nat.mod_lt _ (by omega)
  intro M
  induction M with
  | zero =>
    intro n r b1 b2 σ e hn hs h16 hP
    cases n with
    | zero => omega
    | succ n =>
      have : r = 9 := by omega
      subst this
      obtain ⟨kb1, kb2⟩ := hs.kb X
      refine ⟨σ, b1, b2, ?_, hs, frm.rf σ⟩
      have er : rmI (iZ (v : Int)) (iZ (m : Int)) = iZ ((v % m : Nat) : Int) := by
        rw [iZ_rm (by omega) (by omega) (by omega) (by omega), ← Int.natCast_emod]
      rw [g_X1_alike_24, if_pos (by rw [leI, t_9, iZt (by omega)]; omega), bnd hs.1, gd_t kb1.1, gd_t (iZ_nz (by omega) (by omega) (by omega)), er, gd_t (iZb (by rw [kb1.2]; omega) (by rw [kb1.2]; omega)), iZc (by omega), hP _ hvm]
  | succ M ih =>
    intro n r b1 b2 σ e hn hs h16 hP
    cases n with
    | zero => omega
    | succ n =>
      obtain ⟨kb1, kb2⟩ := hs.kb X
      rw [g_X1_alike_24, if_neg (by rw [leI, t_9, iZt (by omega)]; omega)]
      have hb16 : 16 ∉ [b1] := by rcases hs.2.2 with ⟨e1, e2⟩ | ⟨e1, e2⟩ <;> simp <;> omega
      have hb15 : b1 ≠ 15 := by rcases hs.2.2 with ⟨e1, e2⟩ | ⟨e1, e2⟩ <;> omega
      have hbm : b1 ∈ [17, 18] := by rcases hs.2.2 with ⟨e1, e2⟩ | ⟨e1, e2⟩ <;> simp [e1]
      by_cases c : nd v ≤ r
      · rw [if_pos (by rw [lI, iZt (by omega), iZ_toInt (by omega) (by omega)]; omega)]
        obtain ⟨σ1, e1, q1, f1⟩ := c_67 (X := X) (b1 := b1) (b2 := b2) (P := wA m v (Fo e16) (nd v) r) hm (iZ (v : Int)) (iZ ((nd v : Int) - 1)) (iZ (r : Int)) (g_X1_alike_24 n) m FU 0 σ (by omega) (by unfold FU; omega) hs (fun t ht => by omega) (fun t _ ht => hP t ht)
        have e1' : g_X1_alike_67 (g_X1_alike_24 n) FU (iZ (v : Int)) (iZ (m : Int)) (iZ ((nd v : Int) - 1)) (iZ (r : Int)) 0 X σ = g_X1_alike_24 n (iZ (v : Int)) (iZ (m : Int)) (iZ ((nd v : Int) - 1)) (iZ ((r + 1 : Nat) : Int)) X σ1 := by
          rw [← iZs]; exact e1
        rw [e1']
        obtain ⟨σ', b1', b2', i1, i2, i3⟩ := ih n (r + 1) b1 b2 σ1 (by omega) (by omega) (hs.to f1 hb15) (by rw [f1.rI hb16]; exact h16) (fun t ht => by rw [q1 t ht, wA_hi c])
        exact ⟨σ', b1', b2', i1, i2, (f1.mo2 (by intro x hx; simp only [List.mem_cons, List.not_mem_nil, or_false] at hx; rw [hx]; exact hbm) (by simp)).tr i3⟩
      · rw [if_neg (by rw [lI, iZt (by omega), iZ_toInt (by omega) (by omega)]; omega), ev, bnd (s_digitOf9 σ v r (by omega) (by omega)), gd_t (iZb (show r < 13 by omega) (by omega)), em, gd_t (jZ_nz (by omega) (by omega) (by omega)), iZc (show r < 2147483648 by omega), tens_jZ (by omega)]
        have hp12 := p12 (k := r) (by omega)
        have ew : rmJ (jZ (10 ^ r)) (jZ (m : Int)) = jZ ((10 ^ r % m : Nat) : Int) := by
          rw [jpow]
          generalize 10 ^ r = W at hp12 ⊢
          rw [jZ_rm (by omega) (by omega) (by omega) (by omega), ← Int.natCast_emod]
        rw [ew]
        have hd : dgN v r < 10 := Nat.mod_lt _ (by omega)
        obtain ⟨f1, f2⟩ := hF (dgN v r) hd
        obtain ⟨σ1, e1, s1, q1, fr1⟩ := c_spread (X := X) (P := vA m v (Fo e16) r) (w := 10 ^ r % m) (a := dgN v r) hm hm2 (Nat.mod_lt _ (by omega)) hd (Fo e16 (dgN v r)) hs (fun d hd => ⟨by rw [h16], f1 d hd⟩) (fun k hk => by rw [hP k hk, wA_lo (by omega)])
        rw [bnd e1]
        unfold g_X1_alike_92
        rw [iZs]
        obtain ⟨σ', b1', b2', i1, i2, i3⟩ := ih n (r + 1) b2 b1 σ1 (by omega) (by omega) s1 (by
          rw [← h16]; exact funext fun j => (fr1 16 j (by decide) (by simp)).1) (fun t ht => by
          rw [q1 t ht, wA_lo (by omega)]; rfl)
        exact ⟨σ', b1', b2', i1, i2, fr1.tr i3⟩
theorem c_alike {X : En} {m v : Nat} {σ : St} (hm : m ≤ 99) (hm2 : 2 ≤ m) (hv : v < 10 ^ 9) (h : Rear σ) : ∃ σ', g_X1_alike (iZ (v : Int)) (iZ (m : Int)) X σ = some (jZ (wA m v (Fs σ) (nd v) 9 (v % m)), X, σ') ∧ Rear σ' ∧ frm [17, 18] [(15, 1), (15, 2)] σ σ' := by
  have e9 : 10 ^ 9 = 1000000000 := by decide
  have e13 : 10 ^ 13 = 10000000000000 := by decide
  have ev : (iZ (v : Int)).toInt64 = jZ (v : Int) := iZ_l (by omega) (by omega)
  obtain ⟨b1, b2, hs⟩ : ∃ b1 b2, shp σ b1 b2 := by
    rcases h.2 with ⟨h1, h2⟩ | ⟨h1, h2⟩
    · exact ⟨17, 18, h1, h2, Or.inl ⟨rfl, rfl⟩⟩
    · exact ⟨18, 17, h1, h2, Or.inr ⟨rfl, rfl⟩⟩
  obtain ⟨kb1, kb2⟩ := hs.kb X
  have hb16 : 16 ∉ [b1] := by rcases hs.2.2 with ⟨e1, e2⟩ | ⟨e1, e2⟩ <;> simp <;> omega
  have hb15 : b1 ≠ 15 := by rcases hs.2.2 with ⟨e1, e2⟩ | ⟨e1, e2⟩ <;> omega
  have hbm : b1 ∈ [17, 18] := by rcases hs.2.2 with ⟨e1, e2⟩ | ⟨e1, e2⟩ <;> simp [e1]
  obtain ⟨σ1, e1, z1, f1⟩ := c_fillJ kb1 σ
  have s1 := hs.to f1 hb15
  have f2 : frm [b1] [] σ (sJ σ1 b1 0 1) := frm_sJ f1 (by simp)
  have s2 := hs.to f2 hb15
  obtain ⟨σ', b1', b2', i1, i2, i3⟩ := c_24 (X := X) hm hm2 hv (gI σ 16) (okFs h) 9 FU 0 b1 b2 (sJ σ1 b1 0 1) (by omega) (by unfold FU; omega) s2 (by rw [f2.rI hb16]) (fun t ht => by
    rw [wA_lo (by omega)]
    show _ = jZ (if t = 0 then 1 else 0)
    by_cases c : t = 0
    · rw [c, g_sJ_eq, if_pos rfl]; rfl
    · rw [g_sJ_ne (by omega), z1 t (by omega), if_neg c]; rfl)
  have fr : frm [17, 18] [(15, 1), (15, 2)] σ σ' := (f2.mo2 (by intro x hx; simp only [List.mem_cons, List.not_mem_nil, or_false] at hx; rw [hx]; exact hbm) (by simp)).tr i3
  refine ⟨σ', ?_, ?_, fr⟩
  · unfold g_X1_alike g_X1_alike_b
    rw [bnd hs.1, gd_t kb1.1, bnd e1, bnd s1.1, gd_t kb1.1, gd_t (by rw [kb1.2]; rfl), ev]
    have z0 : (0 : Int32).toNatClampNeg = 0 := rfl
    dsimp only
    have i1' : g_X1_alike_24 FU (iZ (v : Int)) (iZ (m : Int)) (iZ ((nd v : Int) - 1)) 0 X (sJ σ1 b1 0 1) = some (jZ (wA m v (Fs σ) (nd v) 9 (v % m)), X, σ') := i1
    rw [z0, bnd (s_top (sJ σ1 b1 0 1) v (by omega)), i1', bnd rfl, wrp]
  · have q := fr.same (C := Cear) (G := []) rfl
    refine ⟨?_, ?_⟩
    · have h1 := h.1
      rw [q.cI 16, q.cI 45]
      exact h1
    · rcases i2.2.2 with ⟨e1, e2⟩ | ⟨e1, e2⟩
      · exact Or.inl ⟨by rw [i2.1, e1], by rw [i2.2.1, e2]⟩
      · exact Or.inr ⟨by rw [i2.1, e1], by rw [i2.2.1, e2]⟩
