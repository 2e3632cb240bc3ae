/-! RELAY: dogs are sent out -/
def rpK (R x k : Nat) : Nat := if x = 0 then k else R - 1 - k
theorem m_241_idle {K r : Nat} {x1 x3 x4 x5 x7 : Int32} {k103 : Int32 → Int32 → Int32 → Int32 → Int32 → Int32 → St → Option (Int32 × St)} {k209 : Int32 → Int32 → Int32 → Int32 → Int32 → Int32 → St → Option (Int32 × St)} {t : St} (hK : K ≤ 9) (hr : r < 12) : ∀ m n d : Nat, d + m = K → m < n → (gI t 62 r ≤ 0 ∨ ∀ e, d ≤ e → e < K → gI t 65 e ≠ -1) → f_X10_relayOf_241 k103 k209 n x1 (iZ (K : Int)) x3 x4 x5 x7 (iZ (r : Int)) (iZ (d : Int)) t = k209 x1 (iZ (K : Int)) x3 x4 x5 (x7 + 1) t := by
  have i12 : inb (iZ (r : Int)) 12 = true := iZb hr (by omega)
  intro m
  induction m with
  | zero =>
    intro n d e hn _
    cases n with
    | zero => omega
    | succ n =>
      have ed : d = K := by omega
      subst ed
      rw [f_X10_relayOf_241, if_pos (by rw [leI]; exact Int.le_refl _)]
  | succ m ih =>
    intro n d e hn h
    cases n with
    | zero => omega
    | succ n =>
      have i9 : inb (iZ (d : Int)) 9 = true := iZb (by omega) (by omega)
      rw [f_X10_relayOf_241, if_neg (by rw [leI, iZt (by omega), iZt (by omega)]; omega), gd_t i12, iZc (by omega)]
      unfold f_X10_relayOf_306
      rw [iZs]
      have go := ih n (d + 1) (by omega) (by omega) (by
        rcases h with h | h
        · exact Or.inl h
        · exact Or.inr (fun e e1 e2 => h e (by omega) e2))
      by_cases c : gI t 62 r ≤ 0
      · rw [if_pos c]; exact go
      · rw [if_neg c, gd_t i9, iZc (by omega)]
        have : gI t 65 d ≠ -1 := by
          rcases h with h | h
          · exact absurd h c
          · exact h d (Nat.le_refl d) (by omega)
        rw [if_neg this]; exact go
theorem m_241_take {K r d0 dog : Nat} {x1 x3 x4 x5 x7 : Int32} {k103 : Int32 → Int32 → Int32 → Int32 → Int32 → Int32 → St → Option (Int32 × St)} {k209 : Int32 → Int32 → Int32 → Int32 → Int32 → Int32 → St → Option (Int32 × St)} {t : St} (hK : K ≤ 9) (hr : r < 12) (hd : d0 < K) (h62 : gI t 62 r = 1) (h65 : gI t 65 d0 = -1) (h13 : gI t 38 13 = iZ (dog : Int)) : ∀ m n d : Nat, d + m = d0 → K < n + d → (∀ e, d ≤ e → e < d0 → gI t 65 e ≠ -1) → f_X10_relayOf_241 k103 k209 n x1 (iZ (K : Int)) x3 x4 x5 x7 (iZ (r : Int)) (iZ (d : Int)) t = k209 x1 (iZ (K : Int)) x3 x4 x5 (x7 + 1) (sI (sI (sI t 62 r 0) 65 d0 (x5 + mxI 1 (iZ (dog : Int)))) 66 d0 (iZ (r : Int))) := by
  have i12 : inb (iZ (r : Int)) 12 = true := iZb hr (by omega)
  intro m
  induction m with
  | zero =>
    intro n d e hn _
    cases n with
    | zero => omega
    | succ n =>
      have ed : d = d0 := by omega
      subst ed
      have i9 : inb (iZ (d : Int)) 9 = true := iZb (by omega) (by omega)
      rw [f_X10_relayOf_241, if_neg (by rw [leI, iZt (by omega), iZt (by omega)]; omega), gd_t i12, iZc (by omega), h62, if_neg (by decide), gd_t i9, iZc (by omega), h65, if_pos rfl, gd_t i12, gd_t i12, gd_t i9]
      unfold f_X10_relayOf_297 f_X10_relayOf_306
      rw [gd_t i9, iZs, iZc (by omega)]
      have e0 : (1 : Int32) - 1 = 0 := rfl
      have e13 : gI (sI t 62 r 0) 38 13 = iZ (dog : Int) := by rw [g_sI_ne (by omega)]; exact h13
      rw [e0, e13]
      exact m_241_idle hK hr (K - (d + 1)) n (d + 1) (by omega) (by omega) (Or.inl (by rw [g_sI_ne (by omega), g_sI_ne (by omega), g_sI_eq]; decide))
  | succ m ih =>
    intro n d e hn h
    cases n with
    | zero => omega
    | succ n =>
      have i9 : inb (iZ (d : Int)) 9 = true := iZb (by omega) (by omega)
      rw [f_X10_relayOf_241, if_neg (by rw [leI, iZt (by omega), iZt (by omega)]; omega), gd_t i12, iZc (by omega), h62, if_neg (by decide), gd_t i9, iZc (by omega), if_neg (h d (Nat.le_refl d) (by omega))]
      unfold f_X10_relayOf_306
      rw [iZs]
      exact ih n (d + 1) (by omega) (by omega) (fun e e1 e2 => h e (by omega) e2)
/-- no dog is free: the rest of the turns -/
theorem m_209_idle {R K x : Nat} {x1 x4 x5 : Int32} {k103 : Int32 → Int32 → Int32 → Int32 → Int32 → Int32 → St → Option (Int32 × St)} {t : St} (hR : R ≤ 12) (hK : K ≤ 9) (h1 : gI t 38 1 = iZ (R : Int)) (hx : x ≤ 1) (hf : ∀ e, e < K → gI t 65 e ≠ -1) : ∀ m n k : Nat, k + m = R → m < n → f_X10_relayOf_209 k103 n x1 (iZ (K : Int)) (iZ (x : Int)) x4 x5 (iZ (k : Int)) t = ((f_X10_areAtRest x4 (iZ (K : Int)) t).bind fun p2 => (k103 x1 (iZ (K : Int)) (iZ (x : Int)) x4 (x5 + 1) p2.1 p2.2)) := by
  intro m
  induction m with
  | zero =>
    intro n k e hn
    cases n with
    | zero => omega
    | succ n =>
      have ek : k = R := by omega
      subst ek
      rw [f_X10_relayOf_209, h1, if_pos (by rw [leI]; exact Int.le_refl _)]
  | succ m ih =>
    intro n k e hn
    cases n with
    | zero => omega
    | succ n =>
      have go := ih n (k + 1) (by omega) (by omega)
      rw [f_X10_relayOf_209, h1, if_neg (by rw [leI, iZt (by omega), iZt (by omega)]; omega)]
      unfold f_X10_relayOf_236
      have idl : ∀ r : Nat, r < 12 → f_X10_relayOf_241 k103 (f_X10_relayOf_209 k103 n) FU x1 (iZ (K : Int)) (iZ (x : Int)) x4 x5 (iZ (k : Int)) (iZ (r : Int)) 0 t = f_X10_relayOf_209 k103 n x1 (iZ (K : Int)) (iZ (x : Int)) x4 x5 (iZ (k : Int) + 1) t := by
        intro r hr
        have w := m_241_idle (k103 := k103) (k209 := f_X10_relayOf_209 k103 n) (x1 := x1) (x3 := iZ (x : Int)) (x4 := x4) (x5 := x5) (x7 := iZ (k : Int)) (t := t) hK hr K FU 0 (by omega) (by unfold FU; omega) (Or.inr (fun e _ e2 => hf e e2))
        exact w
      have er : (iZ (R : Int) - 1) - iZ (k : Int) = iZ ((R - 1 - k : Nat) : Int) := by
        rw [show (1 : Int32) = iZ 1 from rfl, iZ_sub, iZ_sub]
        congr 1
        omega
      by_cases c : iZ (x : Int) = 0
      · rw [if_pos c, idl k (by omega), iZs]; exact go
      · rw [if_neg c, er, idl (R - 1 - k) (by omega), iZs]; exact go
def sdP (mu aw r : Nat) (P : Nat → Nat → Nat) : Nat → Nat → Nat := fun q => if q = r then setA (setA (P r) 7 0) 8 (mu + aw + 1) else P q
theorem DG_send {K R mu aw r d0 : Nat} {P : Nat → Nat → Nat} {tl fm : Nat → Nat} {fr : Int} (h : DG K R P tl fm fr) (hr : r < R) (hd : d0 < K) (h0 : tl d0 = 0) (h8 : P r 8 = 0) : DG K R (sdP mu aw r P) (fun d => if d = d0 then mu + aw + 1 else tl d) (fun d => if d = d0 then r else fm d) (fr - 1) := by
  obtain ⟨h1, h2, h3⟩ := h
  have p8 : ∀ q, sdP mu aw r P q 8 = if q = r then mu + aw + 1 else P q 8 := by
    intro q
    unfold sdP
    by_cases w : q = r
    · rw [if_pos w, if_pos w]; rfl
    · rw [if_neg w, if_neg w]
  refine ⟨fun d hd' ht => ?_, fun q hq => ?_, ?_⟩
  · by_cases w : d = d0
    · simp only [if_pos w]
      exact ⟨hr, by rw [p8, if_pos rfl]⟩
    · simp only [if_neg w] at ht ⊢
      obtain ⟨a1, a2⟩ := h1 d hd' ht
      refine ⟨a1, ?_⟩
      rw [p8, if_neg (fun z => by rw [z, h8] at a2; exact ht a2.symm)]
      exact a2
  · have up := esum_up (f := fun d => if tl d ≠ 0 ∧ fm d = q then (1 : Int) else 0) (g := fun d => if (if d = d0 then mu + aw + 1 else tl d) ≠ 0 ∧ (if d = d0 then r else fm d) = q then (1 : Int) else 0) (b := d0) (y := if r = q then 1 else 0) (by
      show (if (if d0 = d0 then mu + aw + 1 else tl d0) ≠ 0 ∧ (if d0 = d0 then r else fm d0) = q then (1 : Int) else 0) = _
      rw [if_pos (show d0 = d0 from rfl), if_pos (show d0 = d0 from rfl)]
      by_cases w : r = q
      · rw [if_pos w, if_pos ⟨by omega, w⟩]
      · rw [if_neg w, if_neg (fun z => w z.2)]) (fun k hk => by simp only [if_neg hk]) K hd
    have f0 : (if tl d0 ≠ 0 ∧ fm d0 = q then (1 : Int) else 0) = 0 := if_neg (fun z => z.1 h0)
    simp only [f0] at up
    rw [h2 q hq] at up
    rw [up, p8]
    by_cases w : q = r
    · subst w
      rw [if_pos rfl, if_pos rfl, if_pos h8, if_neg (by omega)]; rfl
    · rw [if_neg w, if_neg (show ¬ r = q from fun z => w z.symm)]
      omega
  · have up := esum_up (f := fun d => if tl d = 0 then (1 : Int) else 0) (g := fun d => if (if d = d0 then mu + aw + 1 else tl d) = 0 then (1 : Int) else 0) (b := d0) (y := 0) (by
      show (if (if d0 = d0 then mu + aw + 1 else tl d0) = 0 then (1 : Int) else 0) = _
      rw [if_pos (show d0 = d0 from rfl), if_neg (by omega)]) (fun k hk => by simp only [if_neg hk]) K hd
    have f0 : (if tl d0 = 0 then (1 : Int) else 0) = 1 := if_pos h0
    simp only [f0] at up
    rw [up, ← h3]
    omega
theorem DG_fr {K R : Nat} {P : Nat → Nat → Nat} {tl fm : Nat → Nat} {fr : Int} (h : DG K R P tl fm fr) : 0 ≤ fr ∧ fr ≤ K ∧ (fr = 0 → ∀ d, d < K → tl d ≠ 0) ∧ (0 < fr → ∃ d0, d0 < K ∧ tl d0 = 0 ∧ ∀ d, d < d0 → tl d ≠ 0) := by
  obtain ⟨_, _, h3⟩ := h
  have nn : ∀ j, j < K → (0 : Int) ≤ (if tl j = 0 then 1 else 0) := fun j _ => by split <;> omega
  have p := esum_pos (f := fun d => if tl d = 0 then (1 : Int) else 0) K nn
  have b0 := esum_nn (f := fun d => if tl d = 0 then (1 : Int) else 0) K nn
  have b1 := esum_le (f := fun d => if tl d = 0 then (1 : Int) else 0) (g := fun _ => 1) K (fun j _ => by show (if tl j = 0 then (1 : Int) else 0) ≤ 1; split <;> omega)
  rw [esum_c, Int.mul_one] at b1
  rw [← h3] at p b0 b1
  refine ⟨b0, b1, fun z d hd q => ?_, fun z => ?_⟩
  · have := p.mpr ⟨d, hd, by simp only [if_pos q]; omega⟩
    omega
  · obtain ⟨j, j1, j2⟩ := p.mp z
    have jz : tl j = 0 := by
      by_cases w : tl j = 0
      · exact w
      · simp only [if_neg w] at j2; omega
    cases e : fsD (fun d => decide (tl d = 0)) K with
    | none =>
      have := (fsD_none K).mp e j j1
      exact absurd jz (of_decide_eq_false this)
    | some d0 =>
      obtain ⟨a1, a2, a3⟩ := fsD_some K e
      exact ⟨d0, a1, of_decide_eq_true a2, fun d hd => of_decide_eq_false (a3 d hd)⟩
