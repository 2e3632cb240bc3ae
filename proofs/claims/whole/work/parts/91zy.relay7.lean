/-! RELAY: what holds of ropes and dogs -/
def DG (K R : Nat) (P : Nat → Nat → Nat) (tl fm : Nat → Nat) (fr : Int) : Prop :=
  (∀ d, d < K → tl d ≠ 0 → fm d < R ∧ P (fm d) 8 = tl d) ∧ (∀ r, r < R → esum (fun d => if tl d ≠ 0 ∧ fm d = r then 1 else 0) K = if P r 8 = 0 then 0 else 1) ∧ fr = esum (fun d => if tl d = 0 then 1 else 0) K
def CH (R : Nat) (P : Nat → Nat → Nat) : Prop := (∀ r, r + 1 < R → oA (P r) + P (r + 1) 2 + P (r + 1) 10 ≤ P r 9) ∧ P 0 2 + P 0 10 = 0
theorem esum_one {f R : Nat} (h : f < R) : esum (fun r => if f = r then (1 : Int) else 0) R = 1 := by
  have := esum_upd (f := fun _ => 0) (g := fun r => if f = r then (1 : Int) else 0) (b := f) (y := 1) (if_pos rfl) (fun k hk => if_neg (fun q => hk q.symm)) R h
  rw [this, esum_z]
  rfl
theorem DG_mu {K R mu : Nat} {P : Nat → Nat → Nat} {tl fm : Nat → Nat} {fr : Int} (h : DG K R P tl fm fr) {r : Nat} (hr : r < R) : esum (fun d => if tl d = mu + 1 ∧ fm d = r then (1 : Int) else 0) K = if P r 8 = mu + 1 then 1 else 0 := by
  obtain ⟨h1, h2, _⟩ := h
  by_cases q : P r 8 = mu + 1
  · have b := h2 r hr
    rw [if_neg (by omega)] at b
    rw [if_pos q]
    refine Eq.trans (esum_cg K (fun d hd => ?_)) b
    by_cases w : tl d ≠ 0 ∧ fm d = r
    · have := (h1 d hd w.1).2
      rw [w.2, q] at this
      rw [if_pos w, if_pos ⟨this.symm, w.2⟩]
    · rw [if_neg w, if_neg (fun z => w ⟨by omega, z.2⟩)]
  · rw [if_neg q]
    refine Eq.trans (esum_cg K (g := fun _ => 0) (fun d hd => if_neg (fun z => q ?_))) (esum_z K)
    have := (h1 d hd (by omega)).2
    rw [z.2] at this
    omega
theorem DG_come {K R mu : Nat} {P : Nat → Nat → Nat} {tl fm : Nat → Nat} {fr : Int} (h : DG K R P tl fm fr) : DG K R (cbK mu R P) (fun d => if tl d = mu + 1 then 0 else tl d) fm (fr + esum (fun r => if P r 8 = mu + 1 then 1 else 0) R) := by
  have hm := fun {r : Nat} (hr : r < R) => DG_mu (mu := mu) h hr
  obtain ⟨h1, h2, h3⟩ := h
  have p8 : ∀ r, r < R → cbK mu R P r 8 = if P r 8 = mu + 1 then 0 else P r 8 := by
    intro r hr
    show (if r < R ∧ P r 8 = mu + 1 then 0 else P r 8) = _
    by_cases q : P r 8 = mu + 1
    · rw [if_pos ⟨hr, q⟩, if_pos q]
    · rw [if_neg (fun z => q z.2), if_neg q]
  refine ⟨fun d hd ht => ?_, fun r hr => ?_, ?_⟩
  · by_cases q : tl d = mu + 1
    · simp only [if_pos q] at ht; exact absurd rfl ht
    · simp only [if_neg q] at ht ⊢
      obtain ⟨a1, a2⟩ := h1 d hd ht
      refine ⟨a1, ?_⟩
      rw [p8 _ a1, if_neg (by omega)]
      exact a2
  · rw [p8 r hr]
    by_cases q : P r 8 = mu + 1
    · rw [if_pos q, if_pos rfl]
      refine Eq.trans (esum_cg K (g := fun _ => 0) (fun d hd => if_neg (fun z => ?_))) (esum_z K)
      by_cases w : tl d = mu + 1
      · have z1 := z.1
        simp only [if_pos w] at z1
        exact z1 rfl
      · have z1 := z.1
        simp only [if_neg w] at z1
        have := (h1 d hd z1).2
        rw [z.2] at this
        omega
    · rw [if_neg q]
      refine Eq.trans (esum_cg K (fun d hd => ?_)) (h2 r hr)
      by_cases w : tl d = mu + 1
      · have n : ¬ fm d = r := fun z => by
          have := (h1 d hd (by omega)).2
          rw [z] at this
          omega
        rw [if_neg (fun z => n z.2), if_neg (fun z => n z.2)]
      · simp only [if_neg w]
  · have e1 : esum (fun d => if (if tl d = mu + 1 then 0 else tl d) = 0 then (1 : Int) else 0) K = esum (fun d => (if tl d = 0 then (1 : Int) else 0) + (if tl d = mu + 1 then 1 else 0)) K := by
      refine esum_cg K (fun d hd => ?_)
      by_cases w : tl d = mu + 1
      · rw [if_pos w, if_pos rfl, if_neg (by omega), if_pos w]; rfl
      · rw [if_neg w, if_neg w, Int.add_zero]
    have e2 : esum (fun d => if tl d = mu + 1 then (1 : Int) else 0) K = esum (fun d => esum (fun r => if tl d = mu + 1 ∧ fm d = r then (1 : Int) else 0) R) K := by
      refine esum_cg K (fun d hd => ?_)
      by_cases w : tl d = mu + 1
      · have := (h1 d hd (by omega)).1
        rw [if_pos w]
        refine Eq.trans (esum_one this).symm (esum_cg R (fun r _ => ?_))
        by_cases v : fm d = r
        · rw [if_pos v, if_pos ⟨w, v⟩]
        · rw [if_neg v, if_neg (fun z => v z.2)]
      · rw [if_neg w]
        exact Eq.trans (esum_z R).symm (esum_cg R (fun r _ => (if_neg (fun z => w z.1)).symm))
    have e3 : esum (fun r => if P r 8 = mu + 1 then (1 : Int) else 0) R = esum (fun r => esum (fun d => if tl d = mu + 1 ∧ fm d = r then (1 : Int) else 0) K) R := esum_cg R (fun r hr => (hm hr).symm)
    rw [e1, esum_add, ← h3, e2, e3, esum_swap (f := fun d r => if tl d = mu + 1 ∧ fm d = r then (1 : Int) else 0) R K]
theorem CH_ok {R : Nat} {P : Nat → Nat → Nat} (h : CH R P) (h9 : ∀ r, r < R → P r 9 ≤ 1) : ∀ r, r < R → P r 2 + P r 10 ≤ 1 := by
  intro r hr
  by_cases c : r = 0
  · subst c; have := h.2; omega
  · have a := h.1 (r - 1) (by omega)
    have b := h9 (r - 1) (by omega)
    rw [show r - 1 + 1 = r by omega] at a
    omega
theorem come_ok {R mu : Nat} {dg : Nat → Nat} {tp : Nat} {P : Nat → Nat → Nat} (ok : ∀ r, r < R → okA (dg r) tp r (P r)) (ch : CH R P) : (∀ r, r < R → okA (dg r) tp r (cbK mu R P r)) ∧ CH R (cbK mu R P) := by
  have c2 : ∀ r, r < R → cbK mu R P r 2 = P r 2 + (if 1 ≤ r ∧ P (r - 1) 8 = mu + 1 then 1 else 0) := by
    intro r hr
    show P r 2 + (if 1 ≤ r ∧ r ≤ R ∧ P (r - 1) 8 = mu + 1 then 1 else 0) = _
    by_cases q : 1 ≤ r ∧ P (r - 1) 8 = mu + 1
    · rw [if_pos q, if_pos ⟨q.1, by omega, q.2⟩]
    · rw [if_neg q, if_neg (fun z => q ⟨z.1, z.2.2⟩)]
  have oo : ∀ r, r < R → oA (cbK mu R P r) + (if P r 8 = mu + 1 then 1 else 0) = oA (P r) := by
    intro r hr
    unfold oA
    show P r 7 + (if (if r < R ∧ P r 8 = mu + 1 then 0 else P r 8) = 0 then 0 else 1) + (if P r 3 = 1 then P r 6 else 0) + _ = _
    by_cases q : P r 8 = mu + 1
    · rw [if_pos (show r < R ∧ P r 8 = mu + 1 from ⟨hr, q⟩), if_pos rfl, if_pos q, if_neg (show ¬ P r 8 = 0 by omega)]; omega
    · rw [if_neg (show ¬ (r < R ∧ P r 8 = mu + 1) from fun z => q z.2), if_neg q]
      omega
  have ch' : CH R (cbK mu R P) := by
    refine ⟨fun r hr => ?_, ?_⟩
    · have a := ch.1 r hr
      have b := oo r (by omega)
      rw [c2 (r + 1) hr]
      show oA (cbK mu R P r) + (P (r + 1) 2 + _) + P (r + 1) 10 ≤ P r 9
      by_cases q : P r 8 = mu + 1
      · rw [if_pos (show 1 ≤ r + 1 ∧ P (r + 1 - 1) 8 = mu + 1 from ⟨by omega, q⟩)]
        rw [if_pos q] at b
        omega
      · rw [if_neg (show ¬ (1 ≤ r + 1 ∧ P (r + 1 - 1) 8 = mu + 1) from fun z => q z.2)]
        rw [if_neg q] at b
        omega
    · show P 0 2 + (if 1 ≤ 0 ∧ 0 ≤ R ∧ P (0 - 1) 8 = mu + 1 then 1 else 0) + P 0 10 = 0
      rw [if_neg (by omega)]
      have := ch.2
      omega
  refine ⟨fun r hr => ?_, ch'⟩
  obtain ⟨o0, o1, o3, o9, o5, or, oi, oo', oj⟩ := ok r hr
  refine ⟨o0, o1, o3, o9, o5, or, CH_ok ch' (fun r hr => (ok r hr).2.2.2.1) r hr, ?_, oj⟩
  have := oo r hr
  show oA (cbK mu R P r) ≤ P r 9
  omega
theorem esum_sh {x : Nat → Int} : ∀ n : Nat, esum (fun r => if 1 ≤ r then x (r - 1) else 0) (n + 1) = esum x n := by
  intro n
  induction n with
  | zero => rfl
  | succ n ih =>
    show esum (fun r => if 1 ≤ r then x (r - 1) else 0) (n + 1) + (if 1 ≤ n + 1 then x (n + 1 - 1) else 0) = esum x n + x n
    rw [ih, if_pos (by omega)]
    rfl
def Phi (R mu : Nat) (P : Nat → Nat → Nat) : Int := esum (fun r => (phi mu (P r) : Int)) R
theorem come_phi {R mu : Nat} {P : Nat → Nat → Nat} : Phi R mu (cbK mu R P) ≤ Phi R mu P := by
  have key : ∀ r, r < R → (phi mu (cbK mu R P r) : Int) + 100 * (if P r 8 = mu + 1 then (1 : Int) else 0) ≤ (phi mu (P r) : Int) + 90 * (if 1 ≤ r then (if P (r - 1) 8 = mu + 1 then (1 : Int) else 0) else 0) := by
    intro r hr
    have e8 : cbK mu R P r 8 = if r < R ∧ P r 8 = mu + 1 then 0 else P r 8 := rfl
    have e2 : cbK mu R P r 2 = P r 2 + (if 1 ≤ r ∧ r ≤ R ∧ P (r - 1) 8 = mu + 1 then 1 else 0) := rfl
    have ep : phi mu (cbK mu R P r) = 85 * P r 1 + (if P r 3 = 1 then (P r 4 - mu) + 150 * P r 6 else 0) + 200 * (1 - P r 9) + 150 * P r 7 + (if cbK mu R P r 8 = 0 then 0 else (cbK mu R P r 8 - 1 - mu) + 100) + 90 * cbK mu R P r 2 := rfl
    have eq : phi mu (P r) = 85 * P r 1 + (if P r 3 = 1 then (P r 4 - mu) + 150 * P r 6 else 0) + 200 * (1 - P r 9) + 150 * P r 7 + (if P r 8 = 0 then 0 else (P r 8 - 1 - mu) + 100) + 90 * P r 2 := rfl
    have x2 : ((if 1 ≤ r ∧ r ≤ R ∧ P (r - 1) 8 = mu + 1 then 1 else 0 : Nat) : Int) = (if 1 ≤ r then (if P (r - 1) 8 = mu + 1 then (1 : Int) else 0) else 0) := by
      by_cases q1 : 1 ≤ r
      · by_cases q2 : P (r - 1) 8 = mu + 1
        · rw [if_pos ⟨q1, by omega, q2⟩, if_pos q1, if_pos q2]; rfl
        · rw [if_neg (fun z => q2 z.2.2), if_pos q1, if_neg q2]; rfl
      · rw [if_neg (fun z => q1 z.1), if_neg q1]; rfl
    rw [ep, eq, e2, ← x2]
    generalize (if P r 3 = 1 then (P r 4 - mu) + 150 * P r 6 else 0) = A
    generalize (if 1 ≤ r ∧ r ≤ R ∧ P (r - 1) 8 = mu + 1 then 1 else 0 : Nat) = B
    by_cases q : P r 8 = mu + 1
    · have f8 : cbK mu R P r 8 = 0 := by rw [e8, if_pos ⟨hr, q⟩]
      rw [f8, if_pos rfl, if_pos q, if_neg (by omega)]
      omega
    · have f8 : cbK mu R P r 8 = P r 8 := by rw [e8, if_neg (fun z => q z.2)]
      rw [f8, if_neg q]
      generalize (if P r 8 = 0 then 0 else (P r 8 - 1 - mu) + 100) = C
      omega
  have s1 := esum_le (f := fun r => (phi mu (cbK mu R P r) : Int) + 100 * (if P r 8 = mu + 1 then (1 : Int) else 0)) (g := fun r => (phi mu (P r) : Int) + 90 * (if 1 ≤ r then (if P (r - 1) 8 = mu + 1 then (1 : Int) else 0) else 0)) R key
  rw [esum_add, esum_add, esum_mul, esum_mul] at s1
  have nn : ∀ n, 0 ≤ esum (fun r => if P r 8 = mu + 1 then (1 : Int) else 0) n := fun n => esum_nn n (fun j _ => by split <;> omega)
  have sh : esum (fun r => if 1 ≤ r then (if P (r - 1) 8 = mu + 1 then (1 : Int) else 0) else 0) R ≤ esum (fun r => if P r 8 = mu + 1 then (1 : Int) else 0) R := by
    cases R with
    | zero => exact Int.le_refl _
    | succ n =>
      rw [esum_sh (x := fun r => if P r 8 = mu + 1 then (1 : Int) else 0) n]
      show _ ≤ esum (fun r => if P r 8 = mu + 1 then (1 : Int) else 0) n + (if P n 8 = mu + 1 then (1 : Int) else 0)
      split <;> omega
  have := nn R
  unfold Phi
  omega
