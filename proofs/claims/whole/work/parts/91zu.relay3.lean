/-! RELAY: the pure picture of a rope -/
def setA (a : Nat → Nat) (i v : Nat) : Nat → Nat := fun j => if j = i then v else a j
def enA (a : Nat → Nat) : Nat → Nat := setA (setA (setA a 0 (a 5)) 3 0) 7 (a 7 + a 6)
def bgA (mu pc gt by' G : Nat) (a : Nat → Nat) : Nat → Nat := fun j =>
  if j = 0 then (if bgW gt (a 0) by' = 0 then bgT gt (a 0) by' else a 0)
  else if j = 3 then (if bgW gt (a 0) by' = 0 then 0 else 1)
  else if j = 4 then mu + bgW gt (a 0) by' * pc
  else if j = 5 then bgT gt (a 0) by'
  else if j = 6 then bgC (a 0) by'
  else if j = 7 then (if bgW gt (a 0) by' = 0 then a 7 + bgC (a 0) by' else a 7)
  else if j = 9 then a 9 + bgC (a 0) by'
  else if j = 10 then G
  else a j
def wkA (mu pc gt dg due : Nat) : Nat → (Nat → Nat) → (Nat → Nat)
  | 0, a => a
  | n + 1, a => if a 3 = 1 then a else if a 1 = 1 ∧ due ≤ mu then wkA mu pc gt dg due n (bgA mu pc gt dg (a 10) (setA a 1 0)) else if a 2 = 0 then a else wkA mu pc gt dg due n (bgA mu pc gt 1 (a 10 + 1) (setA a 2 (a 2 - 1)))
def wkF (mu pc gt dg due : Nat) (a : Nat → Nat) : Nat → Nat := if a 3 = 1 then (if a 4 = mu then wkA mu pc gt dg due 2 (enA a) else a) else wkA mu pc gt dg due 2 a
def oA (a : Nat → Nat) : Nat := a 7 + (if a 8 = 0 then 0 else 1) + (if a 3 = 1 then a 6 else 0)
def okA (dg tp r : Nat) (a : Nat → Nat) : Prop := a 0 ≤ 9 ∧ a 1 ≤ 1 ∧ a 3 ≤ 1 ∧ a 9 ≤ 1 ∧ (a 3 = 1 → a 5 ≤ 9 ∧ a 6 ≤ 1) ∧ (a 1 = 1 → r < tp) ∧ a 2 + a 10 ≤ 1 ∧ oA a ≤ a 9 ∧ (a 9 = 1 → (if a 3 = 1 then a 5 else a 0) + (if a 1 = 1 then dg else 0) + (1 - a 10) ≤ 9)
def phi (mu : Nat) (a : Nat → Nat) : Nat := 85 * a 1 + (if a 3 = 1 then (a 4 - mu) + 150 * a 6 else 0) + 200 * (1 - a 9) + 150 * a 7 + (if a 8 = 0 then 0 else (a 8 - 1 - mu) + 100) + 90 * a 2
/-- what a step of a rope keeps -/
def goA (dg tp r mu : Nat) (a a' : Nat → Nat) : Prop := okA dg tp r a' ∧ oA a' + a 9 = oA a + a' 9 ∧ a' 2 + a' 10 = a 2 + a 10 ∧ a' 8 = a 8 ∧ phi mu a' ≤ phi mu a ∧ (a' 3 = 1 → mu < a' 4)
theorem goA.tr {dg tp r mu : Nat} {a b c : Nat → Nat} (h : goA dg tp r mu a b) (h2 : goA dg tp r mu b c) : goA dg tp r mu a c := by
  obtain ⟨_, x2, x3, x4, x5, _⟩ := h
  obtain ⟨y1, y2, y3, y4, y5, y6⟩ := h2
  exact ⟨y1, by omega, by omega, by omega, by omega, y6⟩
theorem bg_nums {gt a0 by' pc : Nat} (h1 : a0 ≤ 9) (h2 : by' ≤ 9) (p1 : 1 ≤ pc) (p9 : pc ≤ 9) : bgT gt a0 by' ≤ 9 ∧ bgT gt a0 by' + 10 * bgC a0 by' ≤ a0 + by' ∧ (bgW gt a0 by' = 0 → bgT gt a0 by' = a0) ∧ bgW gt a0 by' * pc ≤ 81 ∧ (¬ bgW gt a0 by' = 0 → 1 ≤ bgW gt a0 by' * pc) ∧ bgC a0 by' ≤ 1 ∧ (bgC a0 by' = 1 → 9 < a0 + by') := by
  have t9 := bgT_9 (gt := gt) h1 h2
  have w9 : bgW gt a0 by' ≤ 9 := by unfold bgW; omega
  refine ⟨t9, ?_, ?_, ?_, ?_, bgC_1 _ _, ?_⟩
  · unfold bgT bgC
    split <;> omega
  · unfold bgW; omega
  · exact Nat.mul_le_mul w9 p9
  · intro h
    exact Nat.mul_pos (by omega) (by omega)
  · unfold bgC
    split <;> omega
theorem bg_own {dg tp r mu pc gt : Nat} {a : Nat → Nat} (h : okA dg tp r a) (h3 : a 3 = 0) (h1 : a 1 = 1) (p1 : 1 ≤ pc) (p9 : pc ≤ 9) (hd : dg ≤ 9) : goA dg tp r mu a (bgA mu pc gt dg (a 10) (setA a 1 0)) ∧ (bgC (a 0) dg = 1 → a 7 = 0) := by
  obtain ⟨o0, o1, o3, o9, o5, or, oi, oo, oj⟩ := h
  obtain ⟨n1, n2, n3, n4, n5, n6, n7⟩ := bg_nums (gt := gt) o0 hd p1 p9
  have e0 : setA a 1 0 0 = a 0 := rfl
  unfold goA okA oA phi bgA
  unfold oA at oo
  simp only [e0]
  generalize bgT gt (a 0) dg = T at *
  generalize bgW gt (a 0) dg * pc = WP at *
  generalize bgW gt (a 0) dg = W at *
  generalize bgC (a 0) dg = C at *
  simp only [setA]
  rw [h3] at *
  rw [h1] at *
  by_cases q : W = 0 <;> simp [q] at * <;> omega
theorem bg_car {dg tp r mu pc gt : Nat} {a : Nat → Nat} (h : okA dg tp r a) (h3 : a 3 = 0) (h1 : ¬ a 2 = 0) (p1 : 1 ≤ pc) (p9 : pc ≤ 9) (hd : dg ≤ 9) : goA dg tp r mu a (bgA mu pc gt 1 (a 10 + 1) (setA a 2 (a 2 - 1))) ∧ (bgC (a 0) 1 = 1 → a 7 = 0) := by
  obtain ⟨o0, o1, o3, o9, o5, or, oi, oo, oj⟩ := h
  obtain ⟨n1, n2, n3, n4, n5, n6, n7⟩ := bg_nums (gt := gt) (by' := 1) o0 (by omega) p1 p9
  have e0 : setA a 2 (a 2 - 1) 0 = a 0 := rfl
  unfold goA okA oA phi bgA
  unfold oA at oo
  simp only [e0]
  generalize bgT gt (a 0) 1 = T at *
  generalize bgW gt (a 0) 1 * pc = WP at *
  generalize bgW gt (a 0) 1 = W at *
  generalize bgC (a 0) 1 = C at *
  simp only [setA]
  rw [h3] at *
  have h2 : a 2 = 1 := by omega
  have h10 : a 10 = 0 := by omega
  rw [h2, h10] at *
  have hj : (if a 1 = 1 then dg else 0) ≤ 9 := by split <;> omega
  by_cases q : W = 0 <;> simp [q] at * <;> omega
theorem en_ok {dg tp r mu : Nat} {a : Nat → Nat} (h : okA dg tp r a) (h3 : a 3 = 1) : okA dg tp r (enA a) ∧ oA (enA a) = oA a ∧ enA a 9 = a 9 ∧ enA a 2 = a 2 ∧ enA a 10 = a 10 ∧ enA a 8 = a 8 ∧ enA a 1 = a 1 ∧ phi mu (enA a) ≤ phi mu a ∧ enA a 3 = 0 ∧ (a 6 = 1 → a 7 = 0) ∧ a 6 ≤ 1 := by
  obtain ⟨o0, o1, o3, o9, o5, or, oi, oo, oj⟩ := h
  obtain ⟨o5, o6⟩ := o5 h3
  unfold oA at oo
  rw [if_pos h3] at oj oo
  unfold okA oA phi enA
  simp [setA, h3]
  omega
theorem wkA_ok {dg tp r mu pc gt due : Nat} (p1 : 1 ≤ pc) (p9 : pc ≤ 9) (hd : dg ≤ 9) : ∀ (n : Nat) (a : Nat → Nat), okA dg tp r a → (a 3 = 1 → mu < a 4) → a 1 + a 2 ≤ n → goA dg tp r mu a (wkA mu pc gt dg due n a) ∧ (wkA mu pc gt dg due n a 3 = 0 → wkA mu pc gt dg due n a 2 = 0 ∧ (wkA mu pc gt dg due n a 1 = 1 → mu < due)) := by
  intro n
  induction n with
  | zero =>
    intro a h h3 hn
    exact ⟨⟨h, rfl, rfl, rfl, Nat.le_refl _, h3⟩, fun _ => ⟨by show a 2 = 0; omega, fun q => by have : a 1 = 1 := q; omega⟩⟩
  | succ n ih =>
    intro a h h3 hn
    have o3 := h.2.2.1
    rw [wkA]
    by_cases c3 : a 3 = 1
    · rw [if_pos c3]
      exact ⟨⟨h, rfl, rfl, rfl, Nat.le_refl _, h3⟩, fun q => by omega⟩
    · rw [if_neg c3]
      by_cases c1 : a 1 = 1 ∧ due ≤ mu
      · rw [if_pos c1]
        obtain ⟨g, _⟩ := bg_own (mu := mu) (gt := gt) h (by omega) c1.1 p1 p9 hd
        have e1 : bgA mu pc gt dg (a 10) (setA a 1 0) 1 = 0 := rfl
        have e2 : bgA mu pc gt dg (a 10) (setA a 1 0) 2 = a 2 := rfl
        obtain ⟨x, y⟩ := ih _ g.1 g.2.2.2.2.2 (by rw [e1, e2]; omega)
        exact ⟨g.tr x, y⟩
      · rw [if_neg c1]
        by_cases c2 : a 2 = 0
        · rw [if_pos c2]
          refine ⟨⟨h, rfl, rfl, rfl, Nat.le_refl _, h3⟩, fun _ => ⟨c2, fun q => ?_⟩⟩
          apply Nat.lt_of_not_le
          exact fun w => c1 ⟨q, w⟩
        · rw [if_neg c2]
          obtain ⟨g, _⟩ := bg_car (mu := mu) (gt := gt) h (by omega) c2 p1 p9 hd
          have e1 : bgA mu pc gt 1 (a 10 + 1) (setA a 2 (a 2 - 1)) 1 = a 1 := rfl
          have e2 : bgA mu pc gt 1 (a 10 + 1) (setA a 2 (a 2 - 1)) 2 = a 2 - 1 := rfl
          obtain ⟨x, y⟩ := ih _ g.1 g.2.2.2.2.2 (by rw [e1, e2]; omega)
          exact ⟨g.tr x, y⟩
theorem wkF_ok {dg tp r mu pc gt due : Nat} (p1 : 1 ≤ pc) (p9 : pc ≤ 9) (hd : dg ≤ 9) {a : Nat → Nat} (h : okA dg tp r a) (h3 : a 3 = 1 → mu ≤ a 4) : goA dg tp r mu a (wkF mu pc gt dg due a) ∧ (wkF mu pc gt dg due a 3 = 0 → wkF mu pc gt dg due a 2 = 0 ∧ (wkF mu pc gt dg due a 1 = 1 → mu < due)) := by
  have o1 := h.2.1
  have oi := h.2.2.2.2.2.2.1
  unfold wkF
  by_cases c3 : a 3 = 1
  · rw [if_pos c3]
    by_cases c4 : a 4 = mu
    · rw [if_pos c4]
      obtain ⟨x1, x2, x3, x4, x5, x6, x7, x8, x9, _⟩ := en_ok (mu := mu) h c3
      obtain ⟨y, z⟩ := wkA_ok (dg := dg) (tp := tp) (r := r) (mu := mu) (gt := gt) (due := due) p1 p9 hd 2 (enA a) x1 (fun q => by omega) (by omega)
      exact ⟨goA.tr ⟨x1, by omega, by omega, x6, x8, fun q => by omega⟩ y, z⟩
    · rw [if_neg c4]
      have := h3 c3
      exact ⟨⟨h, rfl, rfl, rfl, Nat.le_refl _, fun _ => by omega⟩, fun q => by omega⟩
  · rw [if_neg c3]
    exact wkA_ok p1 p9 hd 2 a h (fun q => absurd q c3) (by omega)
