/-! WHAT A BELL MISSES: the class's shares -/
theorem g_sJ_ne {σ : St} {a k n j : Nat} {v : Int64} (h : ¬ (n = a ∧ j = k)) : gJ (sJ σ a k v) n j = gJ σ n j := u2_ne h
theorem g_sJ_eq {σ : St} {a k : Nat} {v : Int64} : gJ (sJ σ a k v) a k = v := by
  show u2 σ.2.1 a k v a k = v
  unfold u2; rw [if_pos rfl, if_pos rfl]
def kb (X : En) (b : Nat) : Prop := rk (mk X) b 21 = true ∧ eL (mk X) b = 99
theorem kb17 (X : En) : kb X 17 := ⟨rfl, rfl⟩
theorem kb18 (X : En) : kb X 18 := ⟨rfl, rfl⟩
theorem c_fillJ_go {X : En} {b : Nat} (h : kb X b) : ∀ m n k : Nat, ∀ σ : St, k + m = 99 → m < n → (∀ t, t < k → gJ σ b t = 0) → ∃ σ', g_J7_fill_d0a16_6 b n 0 (iZ (k : Int)) (iZ (99 : Int)) X σ = some (X, σ') ∧ (∀ t, t < 99 → gJ σ' b t = 0) ∧ frm [b] [] σ σ' := by
  intro m
  induction m with
  | zero =>
    intro n k σ e hn hz
    cases n with
    | zero => omega
    | succ n =>
      refine ⟨σ, ?_, fun t ht => hz t (by omega), frm.rf σ⟩
      rw [g_J7_fill_d0a16_6, gd_t h.1, if_pos (by rw [leI, iZt (by omega), iZ_toInt (by omega) (by omega)]; omega)]
  | succ m ih =>
    intro n k σ e hn hz
    cases n with
    | zero => omega
    | succ n =>
      rw [g_J7_fill_d0a16_6, gd_t h.1, if_neg (by rw [leI, iZt (by omega), iZ_toInt (by omega) (by omega)]; omega), gd_t (iZb (by rw [h.2]; omega) (by rw [h.2]; omega)), iZc (by omega), iZs]
      obtain ⟨σ', i1, i2, i3⟩ := ih n (k + 1) (sJ σ b k 0) (by omega) (by omega) (fun t ht => by
        by_cases c : t = k
        · rw [c, g_sJ_eq]
        · rw [g_sJ_ne (by omega)]; exact hz t (by omega))
      exact ⟨σ', i1, i2, (frm_sJ (frm.rf σ) (by simp)).tr i3⟩
theorem c_fillJ {X : En} {b : Nat} (h : kb X b) (σ : St) : ∃ σ', g_J7_fill_d0a16 b 0 X σ = some (X, σ') ∧ (∀ t, t < 99 → gJ σ' b t = 0) ∧ frm [b] [] σ σ' := by
  obtain ⟨σ', i1, i2, i3⟩ := c_fillJ_go h 99 FU 0 σ (by omega) (by unfold FU; omega) (fun t ht => by omega)
  refine ⟨σ', ?_, i2, i3⟩
  unfold g_J7_fill_d0a16 g_J7_fill_d0a16_b
  have e : g_J7_fill_d0a16_6 b FU 0 0 (Int32.ofNat (eL (mk X) b)) X σ = some (X, σ') := by
    rw [h.2]; exact i1
  rw [gd_t h.1, bnd e, wrp]
def shp (σ : St) (b1 b2 : Nat) : Prop := gR σ 15 1 = some b1 ∧ gR σ 15 2 = some b2 ∧ ((b1 = 17 ∧ b2 = 18) ∨ (b1 = 18 ∧ b2 = 17))
theorem shp.kb {σ : St} {b1 b2 : Nat} (h : shp σ b1 b2) (X : En) : kb X b1 ∧ kb X b2 := by
  rcases h.2.2 with ⟨e1, e2⟩ | ⟨e1, e2⟩
  · rw [e1, e2]; exact ⟨kb17 X, kb18 X⟩
  · rw [e1, e2]; exact ⟨kb18 X, kb17 X⟩
theorem shp.to {σ σ' : St} {b1 b2 b : Nat} (h : shp σ b1 b2) (f : frm [b] [] σ σ') (hb : b ≠ 15) : shp σ' b1 b2 := by
  have e : gR σ' 15 = gR σ 15 := f.rR (by simp; omega)
  unfold shp
  rw [e]; exact h
theorem md_step {m k c : Nat} (hk : k < m) : (if k + c % m < m then k + c % m else k + c % m - m) = (k + c) % m := by
  have hm : 0 < m := by omega
  have h1 : c % m < m := Nat.mod_lt _ hm
  have e : (k + c) % m = (k + c % m) % m := by rw [Nat.add_mod_mod]
  rw [e]
  by_cases q : k + c % m < m
  · rw [if_pos q, Nat.mod_eq_of_lt q]
  · generalize c % m = x at h1 q ⊢
    rw [if_neg q, Nat.mod_eq_sub_mod (by omega), Nat.mod_eq_of_lt (by omega)]
theorem c_44 {X : En} {b1 b2 m w d : Nat} {P B Q : Nat → Int} {y : Int32} (hm : m ≤ 99) (hm2 : 2 ≤ m) (hy : y.toInt = B d) (hyb : 0 ≤ B d) (x1 : Int32) (x2 : Int64) (K : Int32 → Int64 → Int32 → Int32 → En → St → Option (En × St)) : ∀ M n k : Nat, ∀ σ : St, k + M = m → M < n → shp σ b1 b2 → (∀ k, k < m → gJ σ b1 k = jZ (P k)) → (∀ t, t < m → gJ σ b2 t = jZ (Q t + esum (fun k => trm m w P B t k d) k)) → ∃ σ', g_X1_spread_44 K n x1 x2 (iZ (m : Int)) (iZ (d : Int)) y (iZ ((d * w % m : Nat) : Int)) (iZ (k : Int)) X σ = K x1 x2 (iZ (m : Int)) (iZ (d : Int) + 1) X σ' ∧ (∀ t, t < m → gJ σ' b2 t = jZ (Q t + esum (fun k => trm m w P B t k d) m)) ∧ frm [b2] [] σ σ' := by
  intro M
  induction M with
  | zero =>
    intro n k σ e hn hs hP hQ
    cases n with
    | zero => omega
    | succ n =>
      have : k = m := by omega
      subst this
      refine ⟨σ, ?_, hQ, frm.rf σ⟩
      rw [g_X1_spread_44, if_pos (by rw [leI]; exact Int.le_refl _)]
      rfl
  | succ M ih =>
    intro n k σ e hn hs hP hQ
    cases n with
    | zero => omega
    | succ n =>
      obtain ⟨kb1, kb2⟩ := hs.kb X
      have hb12 : b1 ≠ b2 := by rcases hs.2.2 with ⟨e1, e2⟩ | ⟨e1, e2⟩ <;> omega
      have hb15 : b2 ≠ 15 := by rcases hs.2.2 with ⟨e1, e2⟩ | ⟨e1, e2⟩ <;> omega
      rw [g_X1_spread_44, if_neg (by rw [leI, iZt (by omega), iZt (by omega)]; omega)]
      by_cases c : y ≤ 0
      · have hz : B d = 0 := by rw [leI, t_0] at c; omega
        have zt : ∀ t k, trm m w P B t k d = 0 := fun t k => by
          show (if (k + d * w) % m = t then P k * B d else 0) = 0
          rw [hz, Int.mul_zero]; split <;> rfl
        have ze : ∀ t n, esum (fun k => trm m w P B t k d) n = 0 := fun t n => by
          rw [esum_cg n (fun k _ => zt t k), esum_z]
        refine ⟨σ, ?_, fun t ht => ?_, frm.rf σ⟩
        · rw [if_pos c]; rfl
        · rw [hQ t ht, ze, ze]
      · rw [if_neg c]
        have hsh : d * w % m < m := Nat.mod_lt _ (by omega)
        have ep := md_step (m := m) (k := k) (c := d * w) (by omega)
        have hpl : (k + d * w) % m < m := Nat.mod_lt _ (by omega)
        have go : ∀ y0 : Int32, y0 = iZ (((k + d * w) % m : Nat) : Int) → ∃ σ', g_X1_spread_82 K (g_X1_spread_44 K n) x1 x2 (iZ (m : Int)) (iZ (d : Int)) y (iZ ((d * w % m : Nat) : Int)) (iZ (k : Int)) y0 X σ = K x1 x2 (iZ (m : Int)) (iZ (d : Int) + 1) X σ' ∧ (∀ t, t < m → gJ σ' b2 t = jZ (Q t + esum (fun k => trm m w P B t k d) m)) ∧ frm [b2] [] σ σ' := by
          intro y0 hy0
          rw [hy0]
          unfold g_X1_spread_82 g_X1_spread_105
          rw [bnd hs.2.1, gd_t kb2.1, gd_t (iZb (by rw [kb2.2]; omega) (by rw [kb2.2]; omega)), bnd hs.1, gd_t kb1.1, gd_t (iZb (by rw [kb1.2]; omega) (by rw [kb1.2]; omega)), gd_t (iZb (by rw [kb2.2]; omega) (by rw [kb2.2]; omega)), iZc (show (k + d * w) % m < 2147483648 by omega), iZc (show k < 2147483648 by omega), iZs, hP k (by omega), hQ _ hpl, x64, hy, jZ_mul, jZ_add]
          have fr : frm [b2] [] σ (sJ σ b2 ((k + d * w) % m) (jZ (Q ((k + d * w) % m) + esum (fun k' => trm m w P B ((k + d * w) % m) k' d) k + P k * B d))) := frm_sJ (frm.rf σ) (by simp)
          obtain ⟨σ', i1, i2, i3⟩ := ih n (k + 1) _ (by omega) (by omega) (hs.to fr hb15) (fun j hj => by rw [g_sJ_ne (by omega)]; exact hP j hj) (fun t ht => by
            have es : esum (fun k => trm m w P B t k d) (k + 1) = esum (fun k => trm m w P B t k d) k + (if (k + d * w) % m = t then P k * B d else 0) := rfl
            rw [es]
            by_cases q : (k + d * w) % m = t
            · rw [← q, g_sJ_eq, if_pos rfl]
              congr 1
              omega
            · rw [g_sJ_ne (by omega), hQ t ht, if_neg q, Int.add_zero])
          exact ⟨σ', i1, i2, fr.tr i3⟩
        rw [iZa]
        by_cases q : k + d * w % m < m
        · rw [if_neg (by rw [leI, iZt (by omega), iZt (by omega)]; omega)]
          rw [if_pos q] at ep
          exact go _ (by rw [ep])
        · rw [if_pos (by rw [leI, iZt (by omega), iZt (by omega)]; omega)]
          rw [if_neg q] at ep
          exact go _ (by rw [iZ_sub, ← ep]; congr 1; omega)
theorem c_11 {X : En} {b1 b2 m w a : Nat} {P : Nat → Int} (hm : m ≤ 99) (hm2 : 2 ≤ m) (hw : w < m) (ha : a < 10) (F : Nat → Int) : ∀ M n d : Nat, ∀ σ : St, d + M = 10 → M < n → shp σ b1 b2 → (∀ d, d < 10 → (gI σ 16 (10 * a + d)).toInt = F d ∧ 0 ≤ F d) → (∀ k, k < m → gJ σ b1 k = jZ (P k)) → (∀ t, t < m → gJ σ b2 t = jZ (S3 m w P F t d)) → ∃ σ', g_X1_spread_11 n (iZ ((10 * a : Nat) : Int)) (jZ (w : Int)) (iZ (m : Int)) (iZ (d : Int)) X σ = some (X, sR (sR σ' 15 1 (some b2)) 15 2 (some b1)) ∧ (∀ t, t < m → gJ σ' b2 t = jZ (S3 m w P F t 10)) ∧ frm [b2] [] σ σ' := by
  intro M
  induction M with
  | zero =>
    intro n d σ e hn hs hF hP hQ
    cases n with
    | zero => omega
    | succ n =>
      have : d = 10 := by omega
      subst this
      obtain ⟨kb1, kb2⟩ := hs.kb X
      refine ⟨σ, ?_, hQ, frm.rf σ⟩
      rw [g_X1_spread_11, if_pos (by rw [lI, t_9, iZt (by omega)]; omega), bnd hs.1, gd_t kb1.1, bnd hs.2.1, gd_t kb2.1]
  | succ M ih =>
    intro n d σ e hn hs hF hP hQ
    cases n with
    | zero => omega
    | succ n =>
      obtain ⟨h1, h2⟩ := hF d (by omega)
      have hb12 : b1 ≠ b2 := by rcases hs.2.2 with ⟨e1, e2⟩ | ⟨e1, e2⟩ <;> omega
      have hb16 : 16 ≠ b2 := by rcases hs.2.2 with ⟨e1, e2⟩ | ⟨e1, e2⟩ <;> omega
      have hb15 : b2 ≠ 15 := by rcases hs.2.2 with ⟨e1, e2⟩ | ⟨e1, e2⟩ <;> omega
      rw [g_X1_spread_11, if_neg (by rw [lI, t_9, iZt (by omega)]; omega), iZa, gd_t (iZb (show 10 * a + d < 100 by omega) (by omega)), iZc (show 10 * a + d < 2147483648 by omega)]
      unfold g_X1_spread_29 g_X1_spread_41
      have em : (iZ (m : Int)).toInt64 = jZ (m : Int) := iZ_l (by omega) (by omega)
      have ed : (iZ (d : Int)).toInt64 = jZ (d : Int) := iZ_l (by omega) (by omega)
      have hdw : d * w < 1000 := by
        have : d * w ≤ 9 * 99 := Nat.mul_le_mul (by omega) (by omega)
        omega
      have esh : (rmJ (jZ (d : Int) * jZ (w : Int)) (jZ (m : Int))).toInt32 = iZ ((d * w % m : Nat) : Int) := by
        rw [jZ_mul, ← Int.natCast_mul, jZ_rm (by omega) (by omega) (by omega) (by omega), jZ_i, ← Int.natCast_emod]
      rw [em, ed, gd_t (jZ_nz (by omega) (by omega) (by omega)), esh]
      obtain ⟨σ1, e1, q1, f1⟩ := c_44 (X := X) (b1 := b1) (b2 := b2) (m := m) (w := w) (d := d) (P := P) (B := F) (Q := fun t => S3 m w P F t d) (y := gI σ 16 (10 * a + d)) hm hm2 h1 h2 (iZ ((10 * a : Nat) : Int)) (jZ (w : Int)) (g_X1_spread_11 n) m FU 0 σ (by omega) (by unfold FU; omega) hs hP (fun t ht => by
        rw [hQ t ht]
        congr 1
        exact (Int.add_zero _).symm)
      have e1' : g_X1_spread_44 (g_X1_spread_11 n) FU (iZ ((10 * a : Nat) : Int)) (jZ (w : Int)) (iZ (m : Int)) (iZ (d : Int)) (gI σ 16 (10 * a + d)) (iZ ((d * w % m : Nat) : Int)) 0 X σ = g_X1_spread_11 n (iZ ((10 * a : Nat) : Int)) (jZ (w : Int)) (iZ (m : Int)) (iZ ((d + 1 : Nat) : Int)) X σ1 := by
        rw [← iZs]; exact e1
      rw [e1']
      obtain ⟨σ', i1, i2, i3⟩ := ih n (d + 1) σ1 (by omega) (by omega) (hs.to f1 hb15) (fun j hj => by
        rw [f1.rI (by simp; omega)]; exact hF j hj) (fun k hk => by
        rw [(f1 b1 k (by simp; omega) (by simp)).2.1]; exact hP k hk) (fun t ht => q1 t ht)
      exact ⟨σ', i1, i2, f1.tr i3⟩
theorem c_spread {X : En} {b1 b2 m w a : Nat} {P : Nat → Int} {σ : St} (hm : m ≤ 99) (hm2 : 2 ≤ m) (hw : w < m) (ha : a < 10) (F : Nat → Int) (hs : shp σ b1 b2) (hF : ∀ d, d < 10 → (gI σ 16 (10 * a + d)).toInt = F d ∧ 0 ≤ F d) (hP : ∀ k, k < m → gJ σ b1 k = jZ (P k)) : ∃ σ', g_X1_spread (10 * iZ (a : Int)) (jZ (w : Int)) (iZ (m : Int)) X σ = some (X, σ') ∧ shp σ' b2 b1 ∧ (∀ t, t < m → gJ σ' b2 t = jZ (S2 m w P F t)) ∧ frm [17, 18] [(15, 1), (15, 2)] σ σ' := by
  obtain ⟨kb1, kb2⟩ := hs.kb X
  have hb12 : b1 ≠ b2 := by rcases hs.2.2 with ⟨e1, e2⟩ | ⟨e1, e2⟩ <;> omega
  have hb16 : 16 ≠ b2 := by rcases hs.2.2 with ⟨e1, e2⟩ | ⟨e1, e2⟩ <;> omega
  have hb15 : b2 ≠ 15 := by rcases hs.2.2 with ⟨e1, e2⟩ | ⟨e1, e2⟩ <;> omega
  have hbm : b2 ∈ [17, 18] := by rcases hs.2.2 with ⟨e1, e2⟩ | ⟨e1, e2⟩ <;> simp [e2]
  obtain ⟨σ1, e1, z1, f1⟩ := c_fillJ kb2 σ
  obtain ⟨σ2, e2, q2, f2⟩ := c_11 (X := X) (P := P) hm hm2 hw ha F 10 FU 0 σ1 (by omega) (by unfold FU; omega) (hs.to f1 hb15) (fun j hj => by
    rw [f1.rI (by simp; omega)]; exact hF j hj) (fun k hk => by
    rw [(f1 b1 k (by simp; omega) (by simp)).2.1]; exact hP k hk) (fun t ht => by
    rw [z1 t (by omega)]; rfl)
  refine ⟨sR (sR σ2 15 1 (some b2)) 15 2 (some b1), ?_, ?_, fun t ht => ?_, ?_⟩
  · unfold g_X1_spread g_X1_spread_b
    have e2' : g_X1_spread_11 FU (iZ ((10 * a : Nat) : Int)) (jZ (w : Int)) (iZ (m : Int)) 0 X σ1 = some (X, sR (sR σ2 15 1 (some b2)) 15 2 (some b1)) := e2
    rw [bnd hs.2.1, gd_t kb2.1, bnd e1, ten_a]
    dsimp only
    rw [e2']
    show gd _ (some (X, sR (sR σ2 15 1 (some b2)) 15 2 (some b1))) = _
    rw [wrp]
  · refine ⟨?_, ?_, ?_⟩
    · show u2 (u2 σ2.2.2 15 1 (some b2)) 15 2 (some b1) 15 1 = some b2
      rw [u2_ne (by omega)]
      unfold u2; rw [if_pos rfl, if_pos rfl]
    · show u2 (u2 σ2.2.2 15 1 (some b2)) 15 2 (some b1) 15 2 = some b1
      unfold u2; rw [if_pos rfl, if_pos rfl]
    · rcases hs.2.2 with ⟨e1, e2⟩ | ⟨e1, e2⟩
      · exact Or.inr ⟨e2, e1⟩
      · exact Or.inl ⟨e2, e1⟩
  · show gJ σ2 b2 t = _
    rw [q2 t ht, S23]
  · refine frm_sRf (frm_sRf ?_ (by simp)) (by simp)
    exact (f1.tr f2).mo2 (by intro x hx; simp only [List.mem_cons, List.not_mem_nil, or_false] at hx; rw [hx]; exact hbm) (by simp)
