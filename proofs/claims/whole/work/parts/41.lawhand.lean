/-! THE LAW'S OWN CALLS -/
/-- cells that nobody reads any more -/
def jk (X : En) (c m : Nat) : En := (X.1, X.2.1, X.2.2.1, eZ X + c, eY X + m)
/-- law.step: the answer into out, 0; or 1, where GoatAbacus.step throws -/
def g_L_step (a b c : Int32) (X : En) (σ : St) : Option (Int32 × En × St) :=
  (g_X9_step_b a b c X σ).bind fun p => match p.1 with
    | none => some (1, jk p.2.1 1 6, p.2.2)
    | some v => some (0, p.2.1, sJ p.2.2 71 0 v.toInt64)
/-- what the law calls -/
def clL (pr : Ct) (sc : Nat × (Nat → Int32)) : Ct := fun mi as E σ r E1 σ1 => Cl MT pr sc 60 mi as E σ r E1 σ1 ∨ (mi = 9999 ∧ ∃ (a b c : Int32) (X X2 : En) (r1 : Int32), as = [.ref 0, .int a, .int b, .int c, .ref 71] ∧ E = mk X ∧ g_L_step a b c X σ = some (r1, X2, σ1) ∧ r = some (.int r1) ∧ E1 = mk X2)
theorem cl_L_cell {pr : Ct} {sc : Nat × (Nat → Int32)} (hsc : sc.1 ≤ 3073) (d : Nat) {E : En} {σ : St} : Cl MT pr sc (d + 1) 252 [.ref SN, .int 0] E σ (some (.int (if 0 < sc.1 then sc.2 0 else 0))) E σ := by
  refine cl_of mr_L_cell rfl rfl ?_
  refine Ex.blk 4 rfl ?_
  by_cases h0 : 0 < sc.1
  · rw [if_pos h0]
    have hn : ¬ Int32.ofNat sc.1 ≤ (0 : Int32) := nI_nle h0 (by omega)
    refine And.intro (fun hp => absurd hp hn) (fun _ => ?_)
    refine Ex.blk 3 rfl ?_
    refine And.intro ?_ ?_
    · show ¬ ((0 : Int32) < 0 ∨ sc.1 ≤ (0 : Int32).toNatClampNeg)
      have h1 : (0 : Int32).toNatClampNeg = 0 := rfl
      rw [h1]
      intro hh
      rcases hh with hh | hh
      · exact absurd hh (by decide)
      · omega
    show Ex mr_L_cell sc (Cl MT pr sc d) (rtE (some (.int (sc.2 0))) E σ) (9, [(0, .ref SN), (1, .int 0)], [.int (sc.2 0)], E, σ)
    refine Ex.blk 1 rfl ?_
    show Ex mr_L_cell sc (Cl MT pr sc d) (rtE (some (.int (sc.2 0))) E σ) (13, [(0, .ref SN), (1, .int 0)], [.int (sc.2 0)], E, σ)
    refine Ex.blk 1 rfl ?_
    exact And.intro trivial ⟨rfl, rfl, rfl⟩
  · rw [if_neg h0]
    have h1 : sc.1 = 0 := by omega
    have hn : Int32.ofNat sc.1 ≤ (0 : Int32) := by rw [h1]; decide
    refine And.intro (fun _ => ?_) (fun hq => absurd hn hq)
    show Ex mr_L_cell sc (Cl MT pr sc d) (rtE (some (.int 0)) E σ) (12, [(0, .ref SN), (1, .int 0)], [], E, σ)
    refine Ex.blk 1 rfl ?_
    show Ex mr_L_cell sc (Cl MT pr sc d) (rtE (some (.int 0)) E σ) (13, [(0, .ref SN), (1, .int 0)], [.int 0], E, σ)
    refine Ex.blk 1 rfl ?_
    exact And.intro trivial ⟨rfl, rfl, rfl⟩
