/-! RELAY: all ropes work -/
def wkP (mu pc sh : Nat) (gt dg : Nat → Nat) (P : Nat → Nat → Nat) : Nat → Nat → Nat := fun r => wkF mu pc (gt r) (dg r) (sh * r) (P r)
theorem c_w37 {R mu pc sh hl tp : Nat} {gt dg : Nat → Nat} {P : Nat → Nat → Nat} {fr : Int} {x2 x5 : Int32} {k21 : Int32 → Int32 → Int32 → St → Option (Int32 × St)} (hR : R ≤ 12) (lg : ∀ r, r < R → gt r ≤ 12) (hd : ∀ r, dg r ≤ 9) (p1 : 1 ≤ pc) (p9 : pc ≤ 9) (hsh : sh ≤ 9) (hmu : mu ≤ 200000) (ok : ∀ r, r < R → okA (dg r) tp r (P r)) (h4 : ∀ r, r < R → P r 3 = 1 → P r 4 ≤ 300000) :
    ∀ m n k : Nat, ∀ s : St, k + m = R → m < n → (∀ r, r < R → clL (gt r) (dg r) s r (if r < k then wkP mu pc sh gt dg P r else P r)) → gcl R sh hl pc fr s →
    ∃ s', f_X0_minuteOfRest_37 k21 n x2 x5 (iZ (mu : Int)) (iZ (k : Int)) s = ((f_X0_sendOut (iZ (mu : Int) + x5) x2 s').bind fun p2 => (if iZ (mu : Int) < (gI p2 27 12) then (f_X0_minuteOfRest_89 k21 x2 x5 (iZ (mu : Int)) p2) else ((f_X0_isAtRest p2).bind fun p3 => (if p3.1 = 0 then (f_X0_minuteOfRest_89 k21 x2 x5 (iZ (mu : Int)) p3.2) else (some (iZ (mu : Int), p3.2)))))) ∧ clH R gt dg s' (wkP mu pc sh gt dg P) ∧ gcl R sh hl pc fr s' := by
  intro m
  induction m with
  | zero =>
    intro n k s e hn h g
    cases n with
    | zero => omega
    | succ n =>
      have ek : k = R := by omega
      subst ek
      rw [f_X0_minuteOfRest_37, g.1, if_pos (by rw [leI]; exact Int.le_refl _)]
      refine ⟨s, rfl, fun r hr => ?_, g⟩
      have := h r hr
      rw [if_pos hr] at this
      exact this
  | succ m ih =>
    intro n k s e hn h g
    cases n with
    | zero => omega
    | succ n =>
      have hk := h k (by omega)
      rw [if_neg (by omega)] at hk
      rw [f_X0_minuteOfRest_37, g.1, if_neg (by rw [leI, iZt (by omega), iZt (by omega)]; omega)]
      obtain ⟨s1, e0, e1, e2⟩ := c_work (mu := mu) (show k < 12 by omega) (lg k (by omega)) (hd k) p1 p9 hsh hmu (ok k (by omega)) hk g.2.2.2.1 g.2.1 (h4 k (by omega))
      rw [bnd e0, iZs]
      refine ih n (k + 1) s1 (by omega) (by omega) (fun r hr => ?_) ?_
      · by_cases w : r = k
        · subst w
          rw [if_pos (by omega)]
          exact e1
        · have hr' := h r hr
          have same : ∀ x, gI s1 x r = gI s x r := fun x => e2 x r (by omega)
          have : (if r < k + 1 then wkP mu pc sh gt dg P r else P r) = (if r < k then wkP mu pc sh gt dg P r else P r) := by
            by_cases v : r < k
            · rw [if_pos v, if_pos (by omega)]
            · rw [if_neg v, if_neg (by omega)]
          rw [this]
          unfold clL at hr' ⊢
          rw [same, same, same, same, same, same, same, same, same, same]
          exact hr'
      · obtain ⟨g1, g2, g3, g4, g5⟩ := g
        refine ⟨?_, ?_, ?_, ?_, ?_⟩
        · rw [e2 _ _ (by omega)]; exact g1
        · rw [e2 _ _ (by omega)]; exact g2
        · rw [e2 _ _ (by omega)]; exact g3
        · rw [e2 _ _ (by omega)]; exact g4
        · rw [e2 _ _ (by omega)]; exact g5
theorem m_w180 {R K mu pc dog sh tp N : Nat} {gt : Nat → Nat} {P : Nat → Nat → Nat} {tl fm : Nat → Nat} {x2 x3 : Int32} {k103 : Int32 → Int32 → Int32 → Int32 → Int32 → Int32 → St → Option (Int32 × St)} (hR : R ≤ 12) (lg : ∀ r, r < R → gt r ≤ 12) (hN : N < 10 ^ 9) (p1 : 1 ≤ pc) (p9 : pc ≤ 9) (hsh : sh ≤ 9) (hmu : mu ≤ 200000) (htp : tp ≤ 12) (ok : ∀ r, r < R → okA (dgN N r) tp r (P r)) (h4 : ∀ r, r < R → P r 3 = 1 → P r 4 ≤ 300000) :
    ∀ m n k : Nat, ∀ t : St, k + m = R → m < n → (∀ r, r < R → moL (gt r) tp t r (if r < k then wkP mu pc sh gt (dgN N) P r else P r)) → gmo R pc dog sh t → dgH K t tl fm →
    ∃ t', f_X10_relayOf_180 k103 n (iZ (N : Int)) x2 x3 (iZ ((tp : Int) - 1)) (iZ (mu : Int)) (iZ (k : Int)) t = f_X10_relayOf_209 k103 FU (iZ (N : Int)) x2 x3 (iZ ((tp : Int) - 1)) (iZ (mu : Int)) 0 t' ∧ moH R gt tp t' (wkP mu pc sh gt (dgN N) P) ∧ gmo R pc dog sh t' ∧ dgH K t' tl fm := by
  intro m
  induction m with
  | zero =>
    intro n k t e hn h g dd
    cases n with
    | zero => omega
    | succ n =>
      have ek : k = R := by omega
      subst ek
      rw [f_X10_relayOf_180, g.1, if_pos (by rw [leI]; exact Int.le_refl _)]
      refine ⟨t, rfl, fun r hr => ?_, g, dd⟩
      have := h r hr
      rw [if_pos hr] at this
      exact this
  | succ m ih =>
    intro n k t e hn h g dd
    cases n with
    | zero => omega
    | succ n =>
      have hk := h k (by omega)
      rw [if_neg (by omega)] at hk
      rw [f_X10_relayOf_180, g.1, if_neg (by rw [leI, iZt (by omega), iZt (by omega)]; omega)]
      obtain ⟨t1, e0, e1, e2⟩ := m_work (mu := mu) (show k < 12 by omega) (lg k (by omega)) hN p1 p9 hsh hmu htp (ok k (by omega)) hk g.2.1 g.2.2.2 (h4 k (by omega))
      rw [bnd e0, iZs]
      refine ih n (k + 1) t1 (by omega) (by omega) (fun r hr => ?_) ?_ (fun d hd => ?_)
      · by_cases w : r = k
        · subst w
          rw [if_pos (by omega)]
          exact e1
        · have hr' := h r hr
          have same : ∀ x, gI t1 x r = gI t x r := fun x => e2 x r (by omega)
          have : (if r < k + 1 then wkP mu pc sh gt (dgN N) P r else P r) = (if r < k then wkP mu pc sh gt (dgN N) P r else P r) := by
            by_cases v : r < k
            · rw [if_pos v, if_pos (by omega)]
            · rw [if_neg v, if_neg (by omega)]
          rw [this]
          unfold moL at hr' ⊢
          rw [same, same, same, same, same, same, same, same]
          exact hr'
      · obtain ⟨g1, g2, g3, g4⟩ := g
        refine ⟨?_, ?_, ?_, ?_⟩
        · rw [e2 _ _ (by omega)]; exact g1
        · rw [e2 _ _ (by omega)]; exact g2
        · rw [e2 _ _ (by omega)]; exact g3
        · rw [e2 _ _ (by omega)]; exact g4
      · rw [e2 _ _ (by omega), e2 _ _ (by omega)]
        exact dd d hd
theorem work_ok {R mu pc sh tp : Nat} {gt dg : Nat → Nat} {P : Nat → Nat → Nat} (hR0 : 0 < R) (hd : ∀ r, dg r ≤ 9) (p1 : 1 ≤ pc) (p9 : pc ≤ 9) (ok : ∀ r, r < R → okA (dg r) tp r (P r)) (ch : CH R P) (h3 : ∀ r, r < R → P r 3 = 1 → mu ≤ P r 4) :
    (∀ r, r < R → okA (dg r) tp r (wkP mu pc sh gt dg P r)) ∧ CH R (wkP mu pc sh gt dg P) ∧ Phi R mu (wkP mu pc sh gt dg P) ≤ Phi R mu P ∧ (∀ r, r < R → wkP mu pc sh gt dg P r 8 = P r 8 ∧ (wkP mu pc sh gt dg P r 3 = 1 → mu < wkP mu pc sh gt dg P r 4) ∧ (wkP mu pc sh gt dg P r 3 = 0 → wkP mu pc sh gt dg P r 2 = 0 ∧ (wkP mu pc sh gt dg P r 1 = 1 → mu < sh * r))) := by
  have all : ∀ r, r < R → goA (dg r) tp r mu (P r) (wkP mu pc sh gt dg P r) ∧ (wkP mu pc sh gt dg P r 3 = 0 → wkP mu pc sh gt dg P r 2 = 0 ∧ (wkP mu pc sh gt dg P r 1 = 1 → mu < sh * r)) := fun r hr => wkF_ok (gt := gt r) (due := sh * r) p1 p9 (hd r) (ok r hr) (h3 r hr)
  refine ⟨fun r hr => (all r hr).1.1, ⟨fun r hr => ?_, ?_⟩, ?_, fun r hr => ⟨(all r hr).1.2.2.2.1, (all r hr).1.2.2.2.2.2, (all r hr).2⟩⟩
  · have a := ch.1 r hr
    have b := (all r (by omega)).1.2.1
    have c := (all (r + 1) hr).1.2.2.1
    omega
  · have := (all 0 hR0).1.2.2.1
    have := ch.2
    omega
  · exact esum_le R (fun r hr => by have := (all r hr).1.2.2.2.2.1; exact_mod_cast this)
