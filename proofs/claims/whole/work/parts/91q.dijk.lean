/-! MAKE: the turns -/
def Ed (u t : Nat) (w : Int32) : Prop := t < 1000 ∧ ((∃ d k, 1 ≤ d ∧ d < 10 ∧ k < 3 ∧ t = u + d * 10 ^ k ∧ w = w1 u (d * 10 ^ k)) ∨ (t = u + u ∧ w = w3s u 3 u))
theorem m_117 {v : Nat} (hv : v < 1000) (K39 : Int32 → St → Option St) (x1 : Int32) : ∀ m n r : Nat, ∀ σ : St, r + m = 3 → m < n → (∀ k, k < 1000 → oneC σ k) → (gI σ 67 v).toInt = pC v → ∃ σ', f_X10_makeAll_117 K39 n x1 (iZ (v : Int)) (iZ (r : Int)) σ = K39 (x1 + 1) σ' ∧ Mon σ σ' ∧ (∀ d k, 1 ≤ d → d < 10 → r ≤ k → k < 3 → v + d * 10 ^ k < 1000 → eDone σ' v (v + d * 10 ^ k) (w1 v (d * 10 ^ k))) ∧ (v + v < 1000 → eDone σ' v (v + v) (w3s v 3 v)) := by
  have e3 : 10 ^ 3 = 1000 := by decide
  intro m
  induction m with
  | zero =>
    intro n r σ e hn hb hx
    cases n with
    | zero => omega
    | succ n =>
      have tw : (2 : Int32) * iZ (v : Int) = iZ ((v + v : Nat) : Int) := by
        have h : (2 : Int32) = iZ 2 := rfl
        rw [h, iZ_mul]; congr 1; omega
      rw [f_X10_makeAll_117, if_pos (by rw [leI, t_3, iZt (by omega)]; omega), tw]
      unfold f_X10_makeAll_206
      by_cases q : v + v < 1000
      · have wt := m_wtwice_go hv σ 3 FU v 0 (by omega) (by unfold FU; omega) (by rw [e3, Nat.mod_eq_of_lt hv]; exact q)
        have wt' : f_X10_walksTwice (iZ (v : Int)).toInt64 3 σ = some (w3s v 3 v, σ) := by
          rw [iZ_l (by omega) (by omega)]
          have e0 : (0 : Int32) + w3s v 3 v = w3s v 3 v := Int32.zero_add _
          rw [e0] at wt
          exact wt
        obtain ⟨w0, w1'⟩ := w2_ok (v := v) (by omega)
        obtain ⟨σ1, e1, m1, d1⟩ := s_relax (w := w3s v 3 v) hv q hb hx w0 (by omega)
        rw [if_neg (by rw [lI, t_999, iZt (by omega)]; omega), bnd wt', bnd e1]
        exact ⟨σ1, rfl, m1, fun d k _ _ h3 h4 => by omega, fun _ => d1⟩
      · rw [if_pos (by rw [lI, t_999, iZt (by omega)]; omega)]
        exact ⟨σ, rfl, Mon.rf hb, fun d k _ _ h3 h4 => by omega, fun c => absurd c q⟩
  | succ m ih =>
    intro n r σ e hn hb hx
    cases n with
    | zero => omega
    | succ n =>
      rw [f_X10_makeAll_117, if_neg (by rw [leI, t_3, iZt (by omega)]; omega)]
      obtain ⟨σ1, e1, m1, d1⟩ := m_125 hv (show r < 3 by omega) K39 (f_X10_makeAll_117 K39 n) x1 9 FU 1 σ (by omega) (by omega) (by unfold FU; omega) hb hx
      obtain ⟨σ2, e2, m2, d2, d3⟩ := ih n (r + 1) σ1 (by omega) (by omega) m1.one (by rw [(m1.2 v hv).2.2 hx]; exact hx)
      rw [← iZs] at e2
      refine ⟨σ2, Eq.trans e1 e2, m1.tr m2, fun d k h1 h2 h3 h4 h5 => ?_, d3⟩
      by_cases c : k = r
      · subst c
        exact (d1 d h1 h2 h5).mon m2 h5
      · exact d2 d k h1 h2 (by omega) h4 h5
/-- the cheapest that isn't sure -/
def cand (σ : St) (k : Nat) : Prop := gI σ 68 k = 0 ∧ ¬ gI σ 67 k = -1
def selI (σ : St) (m : Nat) (x : Int32) : Prop := (x = -1 ∧ ∀ k, k < m → ¬ cand σ k) ∨ ∃ j, j < m ∧ x = iZ (j : Int) ∧ cand σ j ∧ ∀ k, k < m → cand σ k → (gI σ 67 j).toInt ≤ (gI σ 67 k).toInt
theorem m_50 (K39 : Int32 → St → Option St) (x1 : Int32) (σ : St) : ∀ m n k : Nat, ∀ x : Int32, k + m = 1000 → m < n → selI σ k x → ∃ y, selI σ 1000 y ∧ f_X10_makeAll_50 K39 n x1 x (iZ (k : Int)) σ = gd (inb y 1000) (f_X10_makeAll_117 K39 FU x1 y 0 (sI σ 68 y.toNatClampNeg 1)) := by
  intro m
  induction m with
  | zero =>
    intro n k x e hn hs
    cases n with
    | zero => omega
    | succ n =>
      have hk : k = 1000 := by omega
      subst hk
      rw [f_X10_makeAll_50, if_pos (by rw [leI, t_1000, iZt (by omega)]; omega)]
      exact ⟨x, hs, rfl⟩
  | succ m ih =>
    intro n k x e hn hs
    cases n with
    | zero => omega
    | succ n =>
      have bk := iZb (show k < 1000 by omega) (show 1000 < 2147483648 by omega)
      have keep : (¬ cand σ k ∨ ∃ j, j < k ∧ x = iZ (j : Int) ∧ cand σ j ∧ (∀ i, i < k → cand σ i → (gI σ 67 j).toInt ≤ (gI σ 67 i).toInt) ∧ (gI σ 67 j).toInt ≤ (gI σ 67 k).toInt) → selI σ (k + 1) x := by
        intro hc
        rcases hc with hc | ⟨j, j1, j2, j3, j4, j5⟩
        · rcases hs with ⟨s1, s2⟩ | ⟨j, j1, j2, j3, j4⟩
          · left
            refine ⟨s1, fun i hi => ?_⟩
            by_cases c : i = k
            · rw [c]; exact hc
            · exact s2 i (by omega)
          · right
            refine ⟨j, by omega, j2, j3, fun i hi ci => ?_⟩
            by_cases c : i = k
            · rw [c] at ci; exact absurd ci hc
            · exact j4 i (by omega) ci
        · right
          refine ⟨j, by omega, j2, j3, fun i hi ci => ?_⟩
          by_cases c : i = k
          · rw [c]; exact j5
          · exact j4 i (by omega) ci
      have take : cand σ k → (∀ i, i < k → cand σ i → (gI σ 67 k).toInt ≤ (gI σ 67 i).toInt) → selI σ (k + 1) (iZ (k : Int)) := by
        intro ck hi
        right
        refine ⟨k, by omega, rfl, ck, fun i h1 ci => ?_⟩
        by_cases c : i = k
        · rw [c]; exact Int.le_refl _
        · exact hi i (by omega) ci
      rw [f_X10_makeAll_50, if_neg (by rw [leI, t_1000, iZt (by omega)]; omega), gd_t bk, iZc (show k < 2147483648 by omega)]
      unfold f_X10_makeAll_100 f_X10_makeAll_96 f_X10_makeAll_101
      rw [iZs]
      by_cases c1 : gI σ 68 k = 0
      · rw [if_pos c1, gd_t bk]
        by_cases c2 : gI σ 67 k = -1
        · rw [if_pos c2]
          exact ih n (k + 1) x (by omega) (by omega) (keep (Or.inl (fun h => h.2 c2)))
        · rw [if_neg c2]
          by_cases c3 : x = -1
          · rw [if_pos c3]
            refine ih n (k + 1) _ (by omega) (by omega) (take ⟨c1, c2⟩ (fun i hi ci => ?_))
            rcases hs with ⟨s1, s2⟩ | ⟨j, j1, j2, j3, j4⟩
            · exact absurd ci (s2 i hi)
            · rw [c3, eI, t_m1, iZt (by omega)] at j2; omega
          · rw [if_neg c3]
            rcases hs with ⟨s1, s2⟩ | ⟨j, j1, j2, j3, j4⟩
            · exact absurd s1 c3
            · have bj : inb x 1000 = true := by rw [j2]; exact iZb (by omega) (by omega)
              have cj : x.toNatClampNeg = j := by rw [j2]; exact iZc (by omega)
              rw [gd_t bk, gd_t bj, cj]
              by_cases c4 : gI σ 67 j ≤ gI σ 67 k
              · rw [if_pos c4]
                rw [leI] at c4
                exact ih n (k + 1) x (by omega) (by omega) (keep (Or.inr ⟨j, j1, j2, j3, j4, c4⟩))
              · rw [if_neg c4]
                rw [leI] at c4
                refine ih n (k + 1) _ (by omega) (by omega) (take ⟨c1, c2⟩ (fun i hi ci => ?_))
                have := j4 i hi ci
                omega
      · rw [if_neg c1]
        exact ih n (k + 1) x (by omega) (by omega) (keep (Or.inl (fun h => c1 h.1)))
/-- what holds after each turn -/
def Inv (σ : St) : Prop := (∀ k, k < 1000 → oneC σ k) ∧ gI σ 67 0 = 0 ∧ (∀ k, k < 1000 → ¬ gI σ 68 k = 0 → (gI σ 67 k).toInt = pC k) ∧ ∀ u t w, u < 1000 → ¬ gI σ 68 u = 0 → Ed u t w → eDone σ u t w
theorem pC_0 : pC 0 = 0 := by decide
/-- the number without its top digit -/
theorem pred_ex {k : Nat} (h0 : 0 < k) (h : k < 1000) : ∃ u t w, u < k ∧ Ed u t w ∧ t = k ∧ pC k = pC u + 1000 * w.toInt + 1 := by
  have e3 : 10 ^ 3 = 1000 := by decide
  have main : ∀ d j u : Nat, 1 ≤ d → d < 10 → j < 3 → u + d * 10 ^ j = k → dgN u j = 0 → ∃ u t w, u < k ∧ Ed u t w ∧ t = k ∧ pC k = pC u + 1000 * w.toInt + 1 := by
    intro d j u h1 h2 h3 h4 h5
    have hp0 : 0 < d * 10 ^ j := Nat.mul_pos h1 (Nat.pow_pos (by omega))
    refine ⟨u, k, w1 u (d * 10 ^ j), by omega, ⟨h, Or.inl ⟨d, j, h1, h2, h3, h4.symm, rfl⟩⟩, rfl, ?_⟩
    have := w1_pred (u := u) h1 h2 h3 h5 (by omega)
    rw [h4] at this
    exact this
  have p0 : 10 ^ 0 = 1 := by decide
  have p1 : 10 ^ 1 = 10 := by decide
  have p2 : 10 ^ 2 = 100 := by decide
  by_cases c2 : 100 ≤ k
  · exact main (k / 100) 2 (k % 100) (by omega) (by omega) (by omega) (by rw [p2]; omega) (by unfold dgN; rw [p2]; omega)
  · by_cases c1 : 10 ≤ k
    · exact main (k / 10) 1 (k % 10) (by omega) (by omega) (by omega) (by rw [p1]; omega) (by unfold dgN; rw [p1]; omega)
    · exact main k 0 0 (by omega) (by omega) (by omega) (by rw [p0]; omega) (by unfold dgN; rw [p0])
theorem Inv.near {σ : St} (h : Inv σ) : ∀ k : Nat, k < 1000 → gI σ 68 k = 0 → ∃ j, j < 1000 ∧ cand σ j ∧ (gI σ 67 j).toInt = pC j ∧ pC j ≤ pC k := by
  intro k
  induction k using Nat.strongRecOn with
  | ind k ih =>
    intro hk hq
    obtain ⟨i1, i2, i3, i4⟩ := h
    by_cases c : k = 0
    · subst c
      refine ⟨0, hk, ⟨hq, by rw [i2, eI, t_0, t_m1]; omega⟩, by rw [i2, pC_0]; rfl, Int.le_refl _⟩
    · obtain ⟨u, t, w, u1, u2, u3, u4⟩ := pred_ex (show 0 < k by omega) hk
      by_cases cu : gI σ 68 u = 0
      · obtain ⟨j, j1, j2, j3, j4⟩ := ih u u1 (by omega) cu
        have hw : 0 ≤ w.toInt := by
          rcases u2.2 with ⟨d, j', a1, a2, a3, a4, a5⟩ | ⟨a4, a5⟩
          · rw [a5]; exact (w1_ok (u := u) a2 a3 (by have e3 : 10 ^ 3 = 1000 := by decide
                                                     omega)).1.1
          · rw [a5]; exact (w2_ok (v := u) (by have e3 : 10 ^ 3 = 1000 := by decide
                                               omega)).1.1
        exact ⟨j, j1, j2, j3, by omega⟩
      · have ed := i4 u t w (by omega) cu u2
        rw [u3] at ed
        obtain ⟨d1, d2⟩ := ed
        refine ⟨k, hk, ⟨hq, d1⟩, ?_, Int.le_refl _⟩
        rcases i1 k hk with o | ⟨o1, o2⟩
        · exact absurd o d1
        · omega
