/-! RELAY: at rest -/
def qt (a : Nat → Nat) : Prop := a 3 = 0 ∧ a 7 = 0 ∧ a 8 = 0 ∧ a 2 = 0
theorem c_rest {R tp : Nat} {gt dg : Nat → Nat} {P : Nat → Nat → Nat} {s : St} (hR : R ≤ 12) (ok : ∀ r, r < R → okA (dg r) tp r (P r)) (h8 : ∀ r, r < R → P r 8 ≤ 300000) (h : clH R gt dg s P) (h10 : gI s 27 10 = iZ (R : Int)) :
    ∀ m n k : Nat, k + m = R → m < n → (∀ r, r < k → qt (P r)) → ∃ v, f_X0_isAtRest_2 n (iZ (k : Int)) s = some (v, s) ∧ (v = 0 ↔ ¬ ∀ r, r < R → qt (P r)) := by
  intro m
  induction m with
  | zero =>
    intro n k e hn hq
    cases n with
    | zero => omega
    | succ n =>
      have ek : k = R := by omega
      subst ek
      rw [f_X0_isAtRest_2, h10, if_pos (by rw [leI]; exact Int.le_refl _)]
      exact ⟨1, rfl, ⟨fun q => absurd q (by decide), fun q => absurd hq q⟩⟩
  | succ m ih =>
    intro n k e hn hq
    cases n with
    | zero => omega
    | succ n =>
      have i12 : inb (iZ (k : Int)) 12 = true := iZb (by omega) (by omega)
      obtain ⟨o0, o1, o3, o9, o5, or, oi, oo, oj⟩ := ok k (by omega)
      obtain ⟨d0, d1, d2, d3, d4, d5, d6, d7⟩ := h k (by omega)
      have l8 := h8 k (by omega)
      have no : ¬ qt (P k) → ((0 : Int32) = 0 ↔ ¬ ∀ r, r < R → qt (P r)) := fun q => ⟨fun _ w => q (w k (by omega)), fun _ => rfl⟩
      rw [f_X0_isAtRest_2, h10, if_neg (by rw [leI, iZt (by omega), iZt (by omega)]; omega), gd_t i12, iZc (by omega), d4]
      unfold f_X0_isAtRest_47
      by_cases c3 : P k 3 = 0
      · rw [if_pos (by rw [c3]; rfl), gd_t i12, d6]
        by_cases c7 : P k 7 = 0
        · rw [if_pos (by rw [c7]; rfl), gd_t i12, d7]
          by_cases c8 : P k 8 = 0
          · rw [if_pos (by rw [c8]; rfl), gd_t i12, d3]
            by_cases c2 : P k 2 = 0
            · rw [if_pos (by rw [c2]; decide), iZs]
              exact ih n (k + 1) (by omega) (by omega) (fun r hr => by
                by_cases w : r = k
                · subst w; exact ⟨c3, c7, c8, c2⟩
                · exact hq r (by omega))
            · rw [if_neg (by rw [leI, iZt (by omega), t_0]; omega)]
              exact ⟨0, rfl, no (fun q => c2 q.2.2.2)⟩
          · rw [if_neg (by rw [show (-1 : Int32) = iZ (-1) from rfl, iZ_eq (by omega) (by omega) (by omega) (by omega)]; omega)]
            exact ⟨0, rfl, no (fun q => c8 q.2.2.1)⟩
        · have b7 : P k 7 ≤ 1 := by unfold oA at oo; omega
          rw [if_neg (by rw [eI, iZt (by omega), t_0]; omega)]
          exact ⟨0, rfl, no (fun q => c7 q.2.1)⟩
      · rw [if_neg (by rw [eI, iZt (by omega), t_0]; omega)]
        exact ⟨0, rfl, no (fun q => c3 q.1)⟩
theorem m_rest62 {K : Nat} {tl fm : Nat → Nat} {t : St} (hK : K ≤ 9) (ht : ∀ d, d < K → tl d ≤ 300000) (d : dgH K t tl fm) : ∀ m n k : Nat, k + m = K → m < n → (∀ e, e < k → tl e = 0) → ∃ v, f_X10_areAtRest_62 n (iZ (K : Int)) (iZ (k : Int)) t = some (v, t) ∧ (v = 0 ↔ ¬ ∀ e, e < K → tl e = 0) := by
  intro m
  induction m with
  | zero =>
    intro n k e hn hq
    cases n with
    | zero => omega
    | succ n =>
      have ek : k = K := by omega
      subst ek
      rw [f_X10_areAtRest_62, if_pos (by rw [leI]; exact Int.le_refl _)]
      exact ⟨1, rfl, ⟨fun q => absurd q (by decide), fun q => absurd hq q⟩⟩
  | succ m ih =>
    intro n k e hn hq
    cases n with
    | zero => omega
    | succ n =>
      have i9 : inb (iZ (k : Int)) 9 = true := iZb (by omega) (by omega)
      have lt := ht k (by omega)
      rw [f_X10_areAtRest_62, if_neg (by rw [leI, iZt (by omega), iZt (by omega)]; omega), gd_t i9, iZc (by omega), (d k (by omega)).1]
      by_cases c : tl k = 0
      · rw [if_pos (by rw [c]; rfl), iZs]
        exact ih n (k + 1) (by omega) (by omega) (fun r hr => by
          by_cases w : r = k
          · subst w; exact c
          · exact hq r (by omega))
      · rw [if_neg (by rw [show (-1 : Int32) = iZ (-1) from rfl, iZ_eq (by omega) (by omega) (by omega) (by omega)]; omega)]
        exact ⟨0, rfl, ⟨fun _ w => c (w k (by omega)), fun _ => rfl⟩⟩
def qm (tp : Nat) (r : Nat) (a : Nat → Nat) : Prop := a 3 = 0 ∧ a 7 = 0 ∧ a 2 = 0 ∧ (r < tp → a 1 = 0)
theorem m_rest {R K tp : Nat} {gt dg : Nat → Nat} {P : Nat → Nat → Nat} {tl fm : Nat → Nat} {t : St} (hR : R ≤ 12) (hK : K ≤ 9) (htp : tp ≤ 12) (ok : ∀ r, r < R → okA (dg r) tp r (P r)) (h4 : ∀ r, r < R → P r 3 = 1 → P r 4 ≤ 300000) (ht : ∀ d, d < K → tl d ≤ 300000) (h : moH R gt tp t P) (h1 : gI t 38 1 = iZ (R : Int)) (d : dgH K t tl fm) :
    ∀ m n k : Nat, k + m = R → m < n → (∀ r, r < k → qm tp r (P r)) → ∃ v, f_X10_areAtRest_2 n (iZ ((tp : Int) - 1)) (iZ (K : Int)) (iZ (k : Int)) t = some (v, t) ∧ (v = 0 ↔ ¬ ((∀ r, r < R → qm tp r (P r)) ∧ ∀ e, e < K → tl e = 0)) := by
  intro m
  induction m with
  | zero =>
    intro n k e hn hq
    cases n with
    | zero => omega
    | succ n =>
      have ek : k = R := by omega
      subst ek
      rw [f_X10_areAtRest_2, h1, if_pos (by rw [leI]; exact Int.le_refl _)]
      obtain ⟨v, a1, a2⟩ := m_rest62 hK ht d K FU 0 (by omega) (by unfold FU; omega) (fun e he => by omega)
      refine ⟨v, a1, ?_⟩
      rw [a2]
      exact ⟨fun q w => q w.2, fun q w => q ⟨hq, w⟩⟩
  | succ m ih =>
    intro n k e hn hq
    cases n with
    | zero => omega
    | succ n =>
      have i12 : inb (iZ (k : Int)) 12 = true := iZb (by omega) (by omega)
      obtain ⟨o0, o1, o3, o9, o5, or, oi, oo, oj⟩ := ok k (by omega)
      obtain ⟨d0, d1, d2, d3, d4, d5, d6⟩ := h k (by omega)
      have l4 := h4 k (by omega)
      have b7 : P k 7 ≤ 1 := by unfold oA at oo; omega
      have no : ¬ qm tp k (P k) → ((0 : Int32) = 0 ↔ ¬ ((∀ r, r < R → qm tp r (P r)) ∧ ∀ e, e < K → tl e = 0)) := fun q => ⟨fun _ w => q (w.1 k (by omega)), fun _ => rfl⟩
      rw [f_X10_areAtRest_2, h1, if_neg (by rw [leI, iZt (by omega), iZt (by omega)]; omega), gd_t i12, iZc (by omega), d4]
      unfold f_X10_areAtRest_52 f_X10_areAtRest_54
      by_cases c3 : P k 3 = 1
      · rw [if_pos c3, if_neg (by have := l4 c3; rw [eI, iZt (by omega), t_m1]; omega)]
        exact ⟨0, rfl, no (fun q => by have := q.1; omega)⟩
      · rw [if_neg c3, if_pos rfl, gd_t i12, d6]
        by_cases c7 : P k 7 = 0
        · rw [if_neg (by rw [c7]; decide), gd_t i12, d3]
          by_cases c2 : P k 2 = 0
          · rw [if_neg (by rw [c2]; decide)]
            have go := ih n (k + 1) (by omega) (by omega)
            by_cases cr : k < tp
            · rw [if_neg (show ¬ iZ ((tp : Int) - 1) < iZ (k : Int) by rw [lI, iZ_toInt (by omega) (by omega), iZt (by omega)]; omega), gd_t i12, d2]
              by_cases c1 : P k 1 = 0
              · rw [if_pos (show k < tp ∧ P k 1 = 0 from ⟨cr, c1⟩), if_neg (by decide), iZs]
                exact go (fun r hr => by
                  by_cases w : r = k
                  · subst w; exact ⟨by omega, c7, c2, fun _ => c1⟩
                  · exact hq r (by omega))
              · rw [if_neg (show ¬ (k < tp ∧ P k 1 = 0) from fun q => c1 q.2), if_pos rfl]
                exact ⟨0, rfl, no (fun q => c1 (q.2.2.2 cr))⟩
            · rw [if_pos (show iZ ((tp : Int) - 1) < iZ (k : Int) by rw [lI, iZ_toInt (by omega) (by omega), iZt (by omega)]; omega), iZs]
              exact go (fun r hr => by
                by_cases w : r = k
                · subst w; exact ⟨by omega, c7, c2, fun q => absurd q cr⟩
                · exact hq r (by omega))
          · rw [if_pos (by rw [lI, iZt (by omega), t_0]; omega)]
            exact ⟨0, rfl, no (fun q => c2 q.2.2.1)⟩
        · rw [if_pos (by rw [lI, iZt (by omega), t_0]; omega)]
          exact ⟨0, rfl, no (fun q => c7 q.2.1)⟩
theorem bg_1 (mu pc gt by' G : Nat) (a : Nat → Nat) : bgA mu pc gt by' G a 1 = a 1 := rfl
theorem wkA_1 {mu pc gt dg due : Nat} : ∀ (n : Nat) (a : Nat → Nat), wkA mu pc gt dg due n a 1 = a 1 ∨ (wkA mu pc gt dg due n a 1 = 0 ∧ due ≤ mu) := by
  intro n
  induction n with
  | zero => intro a; exact Or.inl rfl
  | succ n ih =>
    intro a
    rw [wkA]
    by_cases c3 : a 3 = 1
    · rw [if_pos c3]; exact Or.inl rfl
    · rw [if_neg c3]
      by_cases c1 : a 1 = 1 ∧ due ≤ mu
      · rw [if_pos c1]
        right
        refine ⟨?_, c1.2⟩
        have e1 : bgA mu pc gt dg (a 10) (setA a 1 0) 1 = 0 := rfl
        rcases ih (bgA mu pc gt dg (a 10) (setA a 1 0)) with q | q
        · rw [q, e1]
        · exact q.1
      · rw [if_neg c1]
        by_cases c2 : a 2 = 0
        · rw [if_pos c2]; exact Or.inl rfl
        · rw [if_neg c2]
          exact ih (bgA mu pc gt 1 (a 10 + 1) (setA a 2 (a 2 - 1)))
theorem wkF_1 {mu pc gt dg due : Nat} (a : Nat → Nat) : wkF mu pc gt dg due a 1 = a 1 ∨ (wkF mu pc gt dg due a 1 = 0 ∧ due ≤ mu) := by
  unfold wkF
  by_cases c3 : a 3 = 1
  · rw [if_pos c3]
    by_cases c4 : a 4 = mu
    · rw [if_pos c4]
      exact wkA_1 2 (enA a)
    · rw [if_neg c4]; exact Or.inl rfl
  · rw [if_neg c3]; exact wkA_1 2 a
