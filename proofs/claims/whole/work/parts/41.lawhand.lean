/-! THE LAW'S OWN CALLS -/
/-- cells that nobody reads any more -/
def jk (X : En) (c m : Nat) : En := (X.1, X.2.1, X.2.2.1, eZ X + c, eY X + m)
/-- law.step: the answer into out, 0; or 1, where GoatAbacus.step throws -/
def g_L_step (a b c : Int32) (X : En) (σ : St) : Option (Int32 × En × St) :=
  (g_X9_step_b a b c X σ).bind fun p => match p.1 with
    | none => some (1, jk p.2.1 1 6, p.2.2)
    | some v => some (0, p.2.1, sJ p.2.2 71 0 v.toInt64)
/-- what the law's call of step does -/
def stepC (as : List Value) (E : En) (σ : St) (r : Option Value) (E1 : En) (σ1 : St) : Prop := ∃ (a b c : Int32) (X X2 : En) (r1 : Int32), as = [.ref 0, .int a, .int b, .int c, .ref 71] ∧ E = mk X ∧ g_L_step a b c X σ = some (r1, X2, σ1) ∧ r = some (.int r1) ∧ E1 = mk X2
/-- the law's run: calls of the table, and its call of step -/
def ExL (pr : Ct) (sc : Nat × (Nat → Int32)) (rt : Rt) (f : Fr) : Prop := ∀ P : Fr → Prop, (∀ g, stepP mr_L_law sc (Cl MT pr sc 60) rt P g → P g) → (∀ (lv : Lv) (st : List Value) (E : En) (σ : St) (r : Option Value) (E1 : En) (σ1 : St), 5 ≤ st.length → Nat.ble (catS (st.drop 5)) 8 = true → stepC (st.take 5).reverse E σ r E1 σ1 → P (399, lv, r.toList ++ st.drop 5, E1, σ1) → P (396, lv, st, E, σ)) → P f
theorem ExL.mk {pr : Ct} {sc : Nat × (Nat → Int32)} {rt : Rt} {f : Fr} (h : stepP mr_L_law sc (Cl MT pr sc 60) rt (ExL pr sc rt) f) : ExL pr sc rt f := fun P hP hT => hP f (stepP_mono (fun g hg => hg P hP hT) h)
theorem ExL.step {pr : Ct} {sc : Nat × (Nat → Int32)} {rt : Rt} {lv : Lv} {st : List Value} {E : En} {σ : St} (r : Option Value) (E1 : En) (σ1 : St) (h1 : 5 ≤ st.length) (h2 : Nat.ble (catS (st.drop 5)) 8 = true) (h3 : stepC (st.take 5).reverse E σ r E1 σ1) (h : ExL pr sc rt (399, lv, r.toList ++ st.drop 5, E1, σ1)) : ExL pr sc rt (396, lv, st, E, σ) := fun P hP hT => hT lv st E σ r E1 σ1 h1 h2 h3 (h P hP hT)
theorem ExL.blk {pr : Ct} {sc : Nat × (Nat → Int32)} {rt : Rt} {pc : Nat} {lv : Lv} {st : List Value} {E : En} {σ : St} (m : Nat) {ops : List Ent} (h : blkF mr_L_law.2.2.2.2.2 pc = some ops) (h2 : semN mr_L_law.2.2.1 mr_L_law.2.2.2.1 sc (Cl MT pr sc 60) rt (ExL pr sc rt) (ops.take m) (pc, lv, st, E, σ)) : ExL pr sc rt (pc, lv, st, E, σ) := ExL.mk (Or.inr ⟨ops, m, h, h2⟩)
theorem ExL.pick {pr : Ct} {sc : Nat × (Nat → Int32)} {rt : Rt} {pc : Nat} {lv lv' : Lv} {st : List Value} {E : En} {σ : St} (ks : List Nat) (h : lv_pick lv ks = lv') (h2 : ExL pr sc rt (pc, lv', st, E, σ)) : ExL pr sc rt (pc, lv, st, E, σ) := ExL.mk (Or.inl ⟨ks, by rw [h]; exact h2⟩)
theorem ExL.one {pr : Ct} {sc : Nat × (Nat → Int32)} {rt : Rt} {pc : Nat} {lv : Lv} {st : List Value} {E : En} {σ : St} {e : Ent} {ops : List Ent} (hb : blkF mr_L_law.2.2.2.2.2 pc = some (e :: ops)) (hp : Nat.beq pc e.1 = true) (h : runO (Cl MT pr sc 60) rt E σ (ExL pr sc rt) (sem mr_L_law.2.2.1 mr_L_law.2.2.2.1 sc e lv st E σ)) : ExL pr sc rt (pc, lv, st, E, σ) := by
  refine ExL.blk 1 hb ?_
  show semN mr_L_law.2.2.1 mr_L_law.2.2.2.1 sc (Cl MT pr sc 60) rt (ExL pr sc rt) [e] (pc, lv, st, E, σ)
  unfold semN
  show (bif Nat.beq pc e.1 then _ else False)
  rw [hp]
  exact h
theorem exL_new {pr : Ct} {sc : Nat × (Nat → Int32)} {rt : Rt} {pc : Nat} {lv : Lv} {st : List Value} {E E1 : En} {σ σ1 : St} {i n t : Nat} {x : Xt} {ops : List Ent} (hb : blkF mr_L_law.2.2.2.2.2 pc = some ((pc, .new i, n, x) :: ops)) (he : eZ E = t ∧ nO E (xA x + 1) (xB x) = E1 ∧ clr σ (eZ E) = σ1) (h : ExL pr sc rt (pc + 3, lv, .ref t :: st, E1, σ1)) : ExL pr sc rt (pc, lv, st, E, σ) := by
  refine ExL.one hb (Nat.beq_refl pc) ?_
  obtain ⟨h1, h2, h3⟩ := he
  show ExL pr sc rt (pc + 3, lv, .ref (eZ E) :: st, nO E (xA x + 1) (xB x), clr σ (eZ E))
  rw [h2, h3, h1]
  exact h
theorem exL_nwa {pr : Ct} {sc : Nat × (Nat → Int32)} {rt : Rt} {pc : Nat} {lv : Lv} {st : List Value} {E E1 : En} {σ σ1 : St} {n t : Nat} {ty : Jvm.ClassFile.ArrayType} {c : Int32} {x : Xt} {ops : List Ent} (hb : blkF mr_L_law.2.2.2.2.2 pc = some ((pc, .newarray ty, n, x) :: ops)) (hc : (decide (¬ c < 0) && Nat.ble c.toNatClampNeg 100000) = true) (he : eZ E = t ∧ nA E (xA x) c.toNatClampNeg = E1 ∧ clr σ (eZ E) = σ1) (h : ExL pr sc rt (pc + 2, lv, .ref t :: st, E1, σ1)) : ExL pr sc rt (pc, lv, .int c :: st, E, σ) := by
  refine ExL.one hb (Nat.beq_refl pc) ?_
  simp only [Bool.and_eq_true, decide_eq_true_eq] at hc
  obtain ⟨h1, h2, h3⟩ := he
  refine And.intro ⟨hc.1, Nat.le_of_ble_eq_true hc.2⟩ ?_
  show ExL pr sc rt (pc + 2, lv, .ref (eZ E) :: st, nA E (xA x) c.toNatClampNeg, clr σ (eZ E))
  rw [h2, h3, h1]
  exact h
theorem cl_L_cell {pr : Ct} {sc : Nat × (Nat → Int32)} (hsc : sc.1 ≤ 3073) (d : Nat) {E : En} {σ : St} : Cl MT pr sc (d + 1) 252 [.ref SN, .int 0] E σ (some (.int (if 0 < sc.1 then sc.2 0 else 0))) E σ := by
  refine cl_of mr_L_cell rfl rfl ?_
  refine Ex.blk 4 rfl ?_
  by_cases h0 : 0 < sc.1
  · rw [if_pos h0]
    have hn : ¬ Int32.ofNat sc.1 ≤ (0 : Int32) := nI_nle h0 (by omega)
    refine And.intro (fun hp => absurd hp hn) (fun _ => ?_)
    refine Ex.blk 3 rfl ?_
    refine And.intro ?_ ?_
    · show ¬ ((0 : Int32) < 0 ∨ sc.1 ≤ (0 : Int32).toNatClampNeg)
      have h1 : (0 : Int32).toNatClampNeg = 0 := rfl
      rw [h1]
      intro hh
      rcases hh with hh | hh
      · exact absurd hh (by decide)
      · omega
    show Ex mr_L_cell sc (Cl MT pr sc d) (rtE (some (.int (sc.2 0))) E σ) (9, [(0, .ref SN), (1, .int 0)], [.int (sc.2 0)], E, σ)
    refine Ex.blk 1 rfl ?_
    show Ex mr_L_cell sc (Cl MT pr sc d) (rtE (some (.int (sc.2 0))) E σ) (13, [(0, .ref SN), (1, .int 0)], [.int (sc.2 0)], E, σ)
    refine Ex.blk 1 rfl ?_
    exact And.intro trivial ⟨rfl, rfl, rfl⟩
  · rw [if_neg h0]
    have h1 : sc.1 = 0 := by omega
    have hn : Int32.ofNat sc.1 ≤ (0 : Int32) := by rw [h1]; decide
    refine And.intro (fun _ => ?_) (fun hq => absurd hn hq)
    show Ex mr_L_cell sc (Cl MT pr sc d) (rtE (some (.int 0)) E σ) (12, [(0, .ref SN), (1, .int 0)], [], E, σ)
    refine Ex.blk 1 rfl ?_
    show Ex mr_L_cell sc (Cl MT pr sc d) (rtE (some (.int 0)) E σ) (13, [(0, .ref SN), (1, .int 0)], [.int 0], E, σ)
    refine Ex.blk 1 rfl ?_
    exact And.intro trivial ⟨rfl, rfl, rfl⟩
