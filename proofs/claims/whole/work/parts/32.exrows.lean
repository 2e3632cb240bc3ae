/-! ROWS OF THE SMALL MACHINE FOR REFERENCES WHOSE NAMES AREN'T KNOWN -/
theorem Ex.one {w : Mrow} {sc : Nat × (Nat → Int32)} {cl : Ct} {rt : Rt} {pc : Nat} {lv : Lv} {st : List Value} {E : En} {σ : St} {e : Ent} {ops : List Ent} (hb : blkF w.2.2.2.2.2 pc = some (e :: ops)) (hp : Nat.beq pc e.1 = true) (h : runO cl rt E σ (Ex w sc cl rt) (sem w.2.2.1 w.2.2.2.1 sc e lv st E σ)) : Ex w sc cl rt (pc, lv, st, E, σ) := by
  refine Ex.blk 1 hb ?_
  show semN w.2.2.1 w.2.2.2.1 sc cl rt (Ex w sc cl rt) [e] (pc, lv, st, E, σ)
  unfold semN
  show (bif Nat.beq pc e.1 then _ else False)
  rw [hp]
  exact h
/-- a name that may be read: it is below the names of what was there before, and of that kind -/
def rk (E : En) (a k : Nat) : Bool := Nat.blt a 1000000 && Nat.beq (eK E a) k
theorem rk_k {E : En} {a k : Nat} (h : rk E a k = true) : eK E a = k := by
  simp only [rk, Bool.and_eq_true] at h
  exact Nat.eq_of_beq_eq_true h.2
theorem rk_lt {E : En} {a k : Nat} (h : rk E a k = true) : a < 1000000 := by
  simp only [rk, Bool.and_eq_true] at h
  exact Nat.blt_eq.mp h.1
theorem rk_b {E : En} {a k : Nat} (h : rk E a k = true) : Nat.beq (eK E a) k = true := by
  simp only [rk, Bool.and_eq_true] at h
  exact h.2
theorem rk_TN {E : En} {a k : Nat} (h : rk E a k = true) : Nat.beq a TN = false := by
  have := rk_lt h
  cases hh : Nat.beq a TN with
  | false => rfl
  | true => have := Nat.eq_of_beq_eq_true hh; simp only [TN] at this; omega
theorem rk_SN {E : En} {a k : Nat} (h : rk E a k = true) : Nat.beq a SN = false := by
  have := rk_lt h
  cases hh : Nat.beq a SN with
  | false => rfl
  | true => have := Nat.eq_of_beq_eq_true hh; simp only [SN] at this; omega
theorem ex_get {w : Mrow} {sc : Nat × (Nat → Int32)} {cl : Ct} {rt : Rt} {pc : Nat} {lv : Lv} {r : List Value} {E : En} {σ : St} {i n a : Nat} {x : Xt} {v : Value} {ops : List Ent} (hb : blkF w.2.2.2.2.2 pc = some ((pc, .getfield i, n, x) :: ops)) (hk : rk E a (xA x + 1) = true) (hf : fva E σ a (ftab (xA x) (xB x)) (xB x) = v) (h : Ex w sc cl rt (pc + 3, lv, v :: r, E, σ)) : Ex w sc cl rt (pc, lv, .ref a :: r, E, σ) := by
  refine Ex.one hb (Nat.beq_refl pc) ?_
  show runO cl rt E σ _ (bif Nat.beq (eK E a) (xA x + 1) then oGo (pc + 3) lv (fva E σ a (ftab (xA x) (xB x)) (xB x) :: r) E σ else none)
  rw [rk_b hk, hf]
  exact h
theorem ex_putI {w : Mrow} {sc : Nat × (Nat → Int32)} {cl : Ct} {rt : Rt} {pc : Nat} {lv : Lv} {r : List Value} {E : En} {σ : St} {i n a : Nat} {x : Xt} {v : Int32} {ops : List Ent} (hb : blkF w.2.2.2.2.2 pc = some ((pc, .putfield i, n, x) :: ops)) (hk : rk E a (xA x + 1) = true) (hf : ftab (xA x) (xB x) = 0) (h : Ex w sc cl rt (pc + 3, lv, r, E, sI σ a (xB x) v)) : Ex w sc cl rt (pc, lv, .int v :: .ref a :: r, E, σ) := by
  refine Ex.one hb (Nat.beq_refl pc) ?_
  dsimp only [sem]
  rw [hf]
  show runO cl rt E σ _ (bif Nat.beq (eK E a) (xA x + 1) then oGo (pc + 3) lv r E (sI σ a (xB x) v) else none)
  rw [rk_b hk]
  exact h
theorem ex_putJ {w : Mrow} {sc : Nat × (Nat → Int32)} {cl : Ct} {rt : Rt} {pc : Nat} {lv : Lv} {r : List Value} {E : En} {σ : St} {i n a : Nat} {x : Xt} {v : Int64} {ops : List Ent} (hb : blkF w.2.2.2.2.2 pc = some ((pc, .putfield i, n, x) :: ops)) (hk : rk E a (xA x + 1) = true) (hf : ftab (xA x) (xB x) = 1) (h : Ex w sc cl rt (pc + 3, lv, r, E, sJ σ a (xB x) v)) : Ex w sc cl rt (pc, lv, .long v :: .ref a :: r, E, σ) := by
  refine Ex.one hb (Nat.beq_refl pc) ?_
  dsimp only [sem]
  rw [hf]
  show runO cl rt E σ _ (bif Nat.beq (eK E a) (xA x + 1) then oGo (pc + 3) lv r E (sJ σ a (xB x) v) else none)
  rw [rk_b hk]
  exact h
theorem ex_putM {w : Mrow} {sc : Nat × (Nat → Int32)} {cl : Ct} {rt : Rt} {pc : Nat} {lv : Lv} {r : List Value} {E : En} {σ : St} {i n a v : Nat} {x : Xt} {ops : List Ent} (hb : blkF w.2.2.2.2.2 pc = some ((pc, .putfield i, n, x) :: ops)) (hk : rk E a (xA x + 1) = true) (hf : ftab (xA x) (xB x) = 2) (h : Ex w sc cl rt (pc + 3, lv, r, E, sR σ a (xB x) (some v))) : Ex w sc cl rt (pc, lv, .ref v :: .ref a :: r, E, σ) := by
  refine Ex.one hb (Nat.beq_refl pc) ?_
  dsimp only [sem]
  rw [hf]
  show runO cl rt E σ _ (bif Nat.beq (eK E a) (xA x + 1) then oGo (pc + 3) lv r E (sR σ a (xB x) (some v)) else none)
  rw [rk_b hk]
  exact h
theorem ex_putS {w : Mrow} {sc : Nat × (Nat → Int32)} {cl : Ct} {rt : Rt} {pc : Nat} {lv : Lv} {r : List Value} {E E1 : En} {σ : St} {i n a v : Nat} {x : Xt} {ops : List Ent} (hb : blkF w.2.2.2.2.2 pc = some ((pc, .putfield i, n, x) :: ops)) (hk : rk E a (xA x + 1) = true) (hf : ftab (xA x) (xB x) = 3) (he : sS E a (xB x) (some v) = E1) (h : Ex w sc cl rt (pc + 3, lv, r, E1, σ)) : Ex w sc cl rt (pc, lv, .ref v :: .ref a :: r, E, σ) := by
  refine Ex.one hb (Nat.beq_refl pc) ?_
  dsimp only [sem]
  rw [hf]
  show runO cl rt E σ _ (bif Nat.beq (eK E a) (xA x + 1) then oGo (pc + 3) lv r (sS E a (xB x) (some v)) σ else none)
  rw [rk_b hk, he]
  exact h
theorem ex_iald {w : Mrow} {sc : Nat × (Nat → Int32)} {cl : Ct} {rt : Rt} {pc : Nat} {lv : Lv} {r : List Value} {E : En} {σ : St} {n a : Nat} {i : Int32} {x : Xt} {ops : List Ent} (hb : blkF w.2.2.2.2.2 pc = some ((pc, .iaload, n, x) :: ops)) (hk : rk E a 20 = true) (hi : inb i (eL E a) = true) (h : Ex w sc cl rt (pc + 1, lv, .int (gI σ a i.toNatClampNeg) :: r, E, σ)) : Ex w sc cl rt (pc, lv, .int i :: .ref a :: r, E, σ) := by
  refine Ex.one hb (Nat.beq_refl pc) ?_
  show runO cl rt E σ _ (bif Nat.beq a SN then oIf (vp_in i sc.1) (pc + 1) lv (.int (sc.2 i.toNatClampNeg) :: r) E σ else bif Nat.beq (eK E a) 20 then oIf (vp_in i (eL E a)) (pc + 1) lv (.int (gI σ a i.toNatClampNeg) :: r) E σ else none)
  rw [rk_SN hk, rk_b hk]
  exact And.intro (inb_ok hi) h
theorem ex_lald {w : Mrow} {sc : Nat × (Nat → Int32)} {cl : Ct} {rt : Rt} {pc : Nat} {lv : Lv} {r : List Value} {E : En} {σ : St} {n a : Nat} {i : Int32} {x : Xt} {ops : List Ent} (hb : blkF w.2.2.2.2.2 pc = some ((pc, .laload, n, x) :: ops)) (hk : rk E a 21 = true) (hi : inb i (eL E a) = true) (h : Ex w sc cl rt (pc + 1, lv, .long (gJ σ a i.toNatClampNeg) :: r, E, σ)) : Ex w sc cl rt (pc, lv, .int i :: .ref a :: r, E, σ) := by
  refine Ex.one hb (Nat.beq_refl pc) ?_
  show runO cl rt E σ _ (bif Nat.beq a TN then oIf (vp_in i 13) (pc + 1) lv (.long (tens i.toNatClampNeg) :: r) E σ else bif Nat.beq (eK E a) 21 then oIf (vp_in i (eL E a)) (pc + 1) lv (.long (gJ σ a i.toNatClampNeg) :: r) E σ else none)
  rw [rk_TN hk, rk_b hk]
  exact And.intro (inb_ok hi) h
theorem ex_iast {w : Mrow} {sc : Nat × (Nat → Int32)} {cl : Ct} {rt : Rt} {pc : Nat} {lv : Lv} {r : List Value} {E : En} {σ : St} {n a : Nat} {i v : Int32} {x : Xt} {ops : List Ent} (hb : blkF w.2.2.2.2.2 pc = some ((pc, .iastore, n, x) :: ops)) (hk : rk E a 20 = true) (hi : inb i (eL E a) = true) (h : Ex w sc cl rt (pc + 1, lv, r, E, sI σ a i.toNatClampNeg v)) : Ex w sc cl rt (pc, lv, .int v :: .int i :: .ref a :: r, E, σ) := by
  refine Ex.one hb (Nat.beq_refl pc) ?_
  show runO cl rt E σ _ (bif Nat.beq (eK E a) 20 then oIf (vp_in i (eL E a)) (pc + 1) lv r E (sI σ a i.toNatClampNeg v) else none)
  rw [rk_b hk]
  exact And.intro (inb_ok hi) h
theorem ex_last {w : Mrow} {sc : Nat × (Nat → Int32)} {cl : Ct} {rt : Rt} {pc : Nat} {lv : Lv} {r : List Value} {E : En} {σ : St} {n a : Nat} {i : Int32} {v : Int64} {x : Xt} {ops : List Ent} (hb : blkF w.2.2.2.2.2 pc = some ((pc, .lastore, n, x) :: ops)) (hk : rk E a 21 = true) (hi : inb i (eL E a) = true) (h : Ex w sc cl rt (pc + 1, lv, r, E, sJ σ a i.toNatClampNeg v)) : Ex w sc cl rt (pc, lv, .long v :: .int i :: .ref a :: r, E, σ) := by
  refine Ex.one hb (Nat.beq_refl pc) ?_
  show runO cl rt E σ _ (bif Nat.beq (eK E a) 21 then oIf (vp_in i (eL E a)) (pc + 1) lv r E (sJ σ a i.toNatClampNeg v) else none)
  rw [rk_b hk]
  exact And.intro (inb_ok hi) h
theorem ex_aast {w : Mrow} {sc : Nat × (Nat → Int32)} {cl : Ct} {rt : Rt} {pc : Nat} {lv : Lv} {r : List Value} {E : En} {σ : St} {n a v : Nat} {i : Int32} {x : Xt} {ops : List Ent} (hb : blkF w.2.2.2.2.2 pc = some ((pc, .aastore, n, x) :: ops)) (hk : rk E a 23 = true) (hv : rk E v 5 = true) (hi : inb i (eL E a) = true) (h : Ex w sc cl rt (pc + 1, lv, r, E, sR σ a i.toNatClampNeg (some v))) : Ex w sc cl rt (pc, lv, .ref v :: .int i :: .ref a :: r, E, σ) := by
  refine Ex.one hb (Nat.beq_refl pc) ?_
  show runO cl rt E σ _ (bif Nat.beq (eK E a) 23 && Nat.beq (eK E v) 5 then oIf (vp_in i (eL E a)) (pc + 1) lv r E (sR σ a i.toNatClampNeg (some v)) else none)
  rw [rk_b hk, rk_b hv]
  exact And.intro (inb_ok hi) h
theorem ex_aald {w : Mrow} {sc : Nat × (Nat → Int32)} {cl : Ct} {rt : Rt} {pc : Nat} {lv : Lv} {r : List Value} {E : En} {σ : St} {n a : Nat} {i : Int32} {x : Xt} {v : Value} {ops : List Ent} (hb : blkF w.2.2.2.2.2 pc = some ((pc, .aaload, n, x) :: ops)) (hk : rk E a 23 = true) (hi : inb i (eL E a) = true) (hv : orv (gR σ a i.toNatClampNeg) = v) (h : Ex w sc cl rt (pc + 1, lv, v :: r, E, σ)) : Ex w sc cl rt (pc, lv, .int i :: .ref a :: r, E, σ) := by
  refine Ex.one hb (Nat.beq_refl pc) ?_
  show runO cl rt E σ _ (bif Nat.beq (eK E a) 23 then oIf (vp_in i (eL E a)) (pc + 1) lv (orv (gR σ a i.toNatClampNeg) :: r) E σ else none)
  rw [rk_b hk, hv]
  exact And.intro (inb_ok hi) h
theorem ex_alen {w : Mrow} {sc : Nat × (Nat → Int32)} {cl : Ct} {rt : Rt} {pc : Nat} {lv : Lv} {r : List Value} {E : En} {σ : St} {n a k : Nat} {x : Xt} {ops : List Ent} (hb : blkF w.2.2.2.2.2 pc = some ((pc, .arraylength, n, x) :: ops)) (hk : rk E a k = true) (hkk : k = 20 ∨ k = 21) (h : Ex w sc cl rt (pc + 1, lv, .int (Int32.ofNat (eL E a)) :: r, E, σ)) : Ex w sc cl rt (pc, lv, .ref a :: r, E, σ) := by
  refine Ex.one hb (Nat.beq_refl pc) ?_
  show runO cl rt E σ _ (bif Nat.beq a TN then oGo (pc + 1) lv (.int 13 :: r) E σ else bif Nat.beq a SN then oGo (pc + 1) lv (.int (Int32.ofNat sc.1) :: r) E σ else bif Nat.beq (eK E a) 20 || Nat.beq (eK E a) 21 then oGo (pc + 1) lv (.int (Int32.ofNat (eL E a)) :: r) E σ else none)
  rw [rk_TN hk, rk_SN hk, rk_k hk]
  rcases hkk with rfl | rfl <;> exact h
theorem ex_callV {w : Mrow} {sc : Nat × (Nat → Int32)} {cl : Ct} {rt : Rt} {pc : Nat} {lv : Lv} {r st : List Value} {E E1 : En} {σ σ1 : St} {i n a : Nat} {x : Xt} {rv : Option Value} {ops : List Ent} (hb : blkF w.2.2.2.2.2 pc = some ((pc, .invokevirtual i, n, x) :: ops)) (hd : st.drop (xB x) = .ref a :: r) (hk : rk E a (xC x + 1) = true) (h8 : Nat.beq (xC x) 98 = false) (h9 : Nat.beq (xC x) 99 = false) (hr : Nat.ble (catS r) 8 = true) (hc : cl (xA x) (.ref a :: (st.take (xB x)).reverse) E σ rv E1 σ1) (h : Ex w sc cl rt (pc + 3, lv, rv.toList ++ r, E1, σ1)) : Ex w sc cl rt (pc, lv, st, E, σ) := by
  refine Ex.one hb (Nat.beq_refl pc) ?_
  dsimp only [sem]
  rw [hd]
  simp only [h8, h9, rk_b hk, hr, Bool.and_true, cond_true, cond_false]
  exact ⟨rv, E1, σ1, hc, h⟩
theorem ex_copy {w : Mrow} {sc : Nat × (Nat → Int32)} {cl : Ct} {rt : Rt} {pc : Nat} {lv : Lv} {r : List Value} {E : En} {σ : St} {i n a b : Nat} {k : Int32} {x : Xt} {ops : List Ent} (hb : blkF w.2.2.2.2.2 pc = some ((pc, .invokestatic i, n, x) :: ops)) (hx : xC x = 1) (hka : rk E a 20 = true) (hkb : rk E b 20 = true) (hab : (!(Nat.beq a b)) = true) (hr : Nat.ble (catS r) 8 = true) (hk : (decide (¬ k < 0) && Nat.ble k.toNatClampNeg (eL E a) && Nat.ble k.toNatClampNeg (eL E b)) = true) (h : Ex w sc cl rt (pc + 3, lv, r, E, cpI σ a 0 b 0 k.toNatClampNeg)) : Ex w sc cl rt (pc, lv, .int k :: .int 0 :: .ref b :: .int 0 :: .ref a :: r, E, σ) := by
  refine Ex.one hb (Nat.beq_refl pc) ?_
  dsimp only [sem]
  rw [hx]
  simp only [sStat, sCopy, rk_b hka, rk_b hkb, hab, hr, Bool.and_true, cond_true]
  exact And.intro (cp_ok k hk) h
/-- new cells, in any environment -/
def mkO {α : Type} (E : En) (σ : St) (k n : Nat) (f : Nat → En → St → Option α) : Option α := f (eZ E) (nO E k n) (clr σ (eZ E))
def mkA {α : Type} (E : En) (σ : St) (k n : Nat) (f : Nat → En → St → Option α) : Option α := f (eZ E) (nA E k n) (clr σ (eZ E))
def ptS {α : Type} (E : En) (o k a : Nat) (f : En → Option α) : Option α := f (sS E o k (some a))
theorem mkO_sp {α : Type} {E : En} {σ : St} {k n : Nat} {f : Nat → En → St → Option α} {y : α} (h : mkO E σ k n f = some y) : ∃ (t : Nat) (E1 : En) (σ1 : St), (eZ E = t ∧ nO E k n = E1 ∧ clr σ (eZ E) = σ1) ∧ f t E1 σ1 = some y := ⟨_, _, _, ⟨rfl, rfl, rfl⟩, h⟩
theorem mkA_sp {α : Type} {E : En} {σ : St} {k n : Nat} {f : Nat → En → St → Option α} {y : α} (h : mkA E σ k n f = some y) : ∃ (t : Nat) (E1 : En) (σ1 : St), (eZ E = t ∧ nA E k n = E1 ∧ clr σ (eZ E) = σ1) ∧ f t E1 σ1 = some y := ⟨_, _, _, ⟨rfl, rfl, rfl⟩, h⟩
def clA {α : Type} (X : En) (σ : St) (a : Nat) (f : Nat → En → St → Option α) : Option α := f (eZ X) (nA X 20 (eL (mk X) a)) (cln σ a (eZ X))
theorem clA_sp {α : Type} {X : En} {σ : St} {a : Nat} {f : Nat → En → St → Option α} {y : α} (h : clA X σ a f = some y) : ∃ (t : Nat) (E1 : En) (σ1 : St), (eZ X = t ∧ nA X 20 (eL (mk X) a) = E1 ∧ cln σ a (eZ X) = σ1) ∧ f t E1 σ1 = some y := ⟨_, _, _, ⟨rfl, rfl, rfl⟩, h⟩
theorem ptS_sp {α : Type} {E : En} {o k a : Nat} {f : En → Option α} {y : α} (h : ptS E o k a f = some y) : ∃ E1 : En, sS E o k (some a) = E1 ∧ f E1 = some y := ⟨_, rfl, h⟩
theorem ex_new {w : Mrow} {sc : Nat × (Nat → Int32)} {cl : Ct} {rt : Rt} {pc : Nat} {lv : Lv} {st : List Value} {E E1 : En} {σ σ1 : St} {i n t : Nat} {x : Xt} {ops : List Ent} (hb : blkF w.2.2.2.2.2 pc = some ((pc, .new i, n, x) :: ops)) (he : eZ E = t ∧ nO E (xA x + 1) (xB x) = E1 ∧ clr σ (eZ E) = σ1) (h : Ex w sc cl rt (pc + 3, lv, .ref t :: st, E1, σ1)) : Ex w sc cl rt (pc, lv, st, E, σ) := by
  refine Ex.one hb (Nat.beq_refl pc) ?_
  obtain ⟨h1, h2, h3⟩ := he
  show Ex w sc cl rt (pc + 3, lv, .ref (eZ E) :: st, nO E (xA x + 1) (xB x), clr σ (eZ E))
  rw [h2, h3, h1]
  exact h
theorem ex_nwa {w : Mrow} {sc : Nat × (Nat → Int32)} {cl : Ct} {rt : Rt} {pc : Nat} {lv : Lv} {st : List Value} {E E1 : En} {σ σ1 : St} {n t : Nat} {ty : Jvm.ClassFile.ArrayType} {c : Int32} {x : Xt} {ops : List Ent} (hb : blkF w.2.2.2.2.2 pc = some ((pc, .newarray ty, n, x) :: ops)) (hc : (decide (¬ c < 0) && Nat.ble c.toNatClampNeg 100000) = true) (he : eZ E = t ∧ nA E (xA x) c.toNatClampNeg = E1 ∧ clr σ (eZ E) = σ1) (h : Ex w sc cl rt (pc + 2, lv, .ref t :: st, E1, σ1)) : Ex w sc cl rt (pc, lv, .int c :: st, E, σ) := by
  refine Ex.one hb (Nat.beq_refl pc) ?_
  simp only [Bool.and_eq_true, decide_eq_true_eq] at hc
  obtain ⟨h1, h2, h3⟩ := he
  refine And.intro ⟨hc.1, Nat.le_of_ble_eq_true hc.2⟩ ?_
  show Ex w sc cl rt (pc + 2, lv, .ref (eZ E) :: st, nA E (xA x) c.toNatClampNeg, clr σ (eZ E))
  rw [h2, h3, h1]
  exact h
theorem ex_nwr {w : Mrow} {sc : Nat × (Nat → Int32)} {cl : Ct} {rt : Rt} {pc : Nat} {lv : Lv} {st : List Value} {E E1 : En} {σ σ1 : St} {n t i : Nat} {c : Int32} {x : Xt} {ops : List Ent} (hb : blkF w.2.2.2.2.2 pc = some ((pc, .anewarray i, n, x) :: ops)) (hc : (decide (¬ c < 0) && Nat.ble c.toNatClampNeg 100000) = true) (he : eZ E = t ∧ nA E 23 c.toNatClampNeg = E1 ∧ clr σ (eZ E) = σ1) (h : Ex w sc cl rt (pc + 3, lv, .ref t :: st, E1, σ1)) : Ex w sc cl rt (pc, lv, .int c :: st, E, σ) := by
  refine Ex.one hb (Nat.beq_refl pc) ?_
  simp only [Bool.and_eq_true, decide_eq_true_eq] at hc
  obtain ⟨h1, h2, h3⟩ := he
  refine And.intro ⟨hc.1, Nat.le_of_ble_eq_true hc.2⟩ ?_
  show Ex w sc cl rt (pc + 3, lv, .ref (eZ E) :: st, nA E 23 c.toNatClampNeg, clr σ (eZ E))
  rw [h2, h3, h1]
  exact h
/-- the same where the first names stand -/
theorem nO_mk {X : En} (h : 72 ≤ eZ X) (k n : Nat) : nO (mk X) k n = mk (nO X k n) := by
  unfold nO mk
  refine Prod.ext ?_ (Prod.ext rfl (Prod.ext ?_ rfl))
  · funext a
    show (if a = eZ X then k else bif Nat.blt a 72 then K0.getD a 0 else eK X a) = bif Nat.blt a 72 then K0.getD a 0 else (if a = eZ X then k else eK X a)
    by_cases ha : a = eZ X
    · have : Nat.blt a 72 = false := by
        cases hb : Nat.blt a 72 with
        | false => rfl
        | true => have := Nat.blt_eq.mp hb; omega
      rw [this, if_pos ha, if_pos ha]; rfl
    · rw [if_neg ha, if_neg ha]
  · funext a f
    show (if a = eZ X then none else bif Nat.blt a 72 then S0 a f else eS X a f) = bif Nat.blt a 72 then S0 a f else (if a = eZ X then none else eS X a f)
    by_cases ha : a = eZ X
    · have : Nat.blt a 72 = false := by
        cases hb : Nat.blt a 72 with
        | false => rfl
        | true => have := Nat.blt_eq.mp hb; omega
      rw [this, if_pos ha, if_pos ha]; rfl
    · rw [if_neg ha, if_neg ha]
theorem nA_mk {X : En} (h : 72 ≤ eZ X) (k n : Nat) : nA (mk X) k n = mk (nA X k n) := by
  unfold nA mk
  refine Prod.ext ?_ (Prod.ext ?_ rfl)
  · funext a
    show (if a = eZ X then k else bif Nat.blt a 72 then K0.getD a 0 else eK X a) = bif Nat.blt a 72 then K0.getD a 0 else (if a = eZ X then k else eK X a)
    by_cases ha : a = eZ X
    · have : Nat.blt a 72 = false := by
        cases hb : Nat.blt a 72 with
        | false => rfl
        | true => have := Nat.blt_eq.mp hb; omega
      rw [this, if_pos ha, if_pos ha]; rfl
    · rw [if_neg ha, if_neg ha]
  · funext a
    show (if a = eZ X then n else bif Nat.blt a 72 then L0.getD a 0 else eL X a) = bif Nat.blt a 72 then L0.getD a 0 else (if a = eZ X then n else eL X a)
    by_cases ha : a = eZ X
    · have : Nat.blt a 72 = false := by
        cases hb : Nat.blt a 72 with
        | false => rfl
        | true => have := Nat.blt_eq.mp hb; omega
      rw [this, if_pos ha, if_pos ha]; rfl
    · rw [if_neg ha, if_neg ha]
theorem sS_mk {X : En} {o : Nat} (h : 72 ≤ o) (k : Nat) (v : Option Nat) : sS (mk X) o k v = mk (sS X o k v) := by
  unfold sS mk
  refine Prod.ext rfl (Prod.ext rfl (Prod.ext ?_ rfl))
  funext a f
  show u2 (fun n k => bif Nat.blt n 72 then S0 n k else eS X n k) o k v a f = bif Nat.blt a 72 then S0 a f else u2 X.2.2.1 o k v a f
  unfold u2
  by_cases ha : a = o
  · have : Nat.blt a 72 = false := by
      cases hb : Nat.blt a 72 with
      | false => rfl
      | true => have := Nat.blt_eq.mp hb; omega
    rw [this, if_pos ha]
    by_cases hf : f = k
    · rw [if_pos hf, if_pos ha, if_pos hf]; rfl
    · rw [if_neg hf, if_pos ha, if_neg hf]
      show (bif Nat.blt a 72 then S0 a f else eS X a f) = eS X a f
      rw [this]; rfl
  · rw [if_neg ha, if_neg ha]; rfl
theorem ex_newX {w : Mrow} {sc : Nat × (Nat → Int32)} {cl : Ct} {rt : Rt} {pc : Nat} {lv : Lv} {st : List Value} {X X1 : En} {σ σ1 : St} {i n t : Nat} {x : Xt} {ops : List Ent} (hb : blkF w.2.2.2.2.2 pc = some ((pc, .new i, n, x) :: ops)) (hX : Nat.ble 72 (eZ X) = true) (he : eZ X = t ∧ nO X (xA x + 1) (xB x) = X1 ∧ clr σ (eZ X) = σ1) (h : Ex w sc cl rt (pc + 3, lv, .ref t :: st, mk X1, σ1)) : Ex w sc cl rt (pc, lv, st, mk X, σ) := ex_new hb ⟨he.1, (nO_mk (Nat.le_of_ble_eq_true hX) _ _).trans (congrArg mk he.2.1), he.2.2⟩ h
theorem ex_nwaX {w : Mrow} {sc : Nat × (Nat → Int32)} {cl : Ct} {rt : Rt} {pc : Nat} {lv : Lv} {st : List Value} {X X1 : En} {σ σ1 : St} {n t : Nat} {ty : Jvm.ClassFile.ArrayType} {c : Int32} {x : Xt} {ops : List Ent} (hb : blkF w.2.2.2.2.2 pc = some ((pc, .newarray ty, n, x) :: ops)) (hc : (decide (¬ c < 0) && Nat.ble c.toNatClampNeg 100000) = true) (hX : Nat.ble 72 (eZ X) = true) (he : eZ X = t ∧ nA X (xA x) c.toNatClampNeg = X1 ∧ clr σ (eZ X) = σ1) (h : Ex w sc cl rt (pc + 2, lv, .ref t :: st, mk X1, σ1)) : Ex w sc cl rt (pc, lv, .int c :: st, mk X, σ) := ex_nwa hb hc ⟨he.1, (nA_mk (Nat.le_of_ble_eq_true hX) _ _).trans (congrArg mk he.2.1), he.2.2⟩ h
theorem ex_putSX {w : Mrow} {sc : Nat × (Nat → Int32)} {cl : Ct} {rt : Rt} {pc : Nat} {lv : Lv} {r : List Value} {X X1 : En} {σ : St} {i n a v : Nat} {x : Xt} {ops : List Ent} (hb : blkF w.2.2.2.2.2 pc = some ((pc, .putfield i, n, x) :: ops)) (hk : rk (mk X) a (xA x + 1) = true) (hf : ftab (xA x) (xB x) = 3) (ha : Nat.ble 72 a = true) (he : sS X a (xB x) (some v) = X1) (h : Ex w sc cl rt (pc + 3, lv, r, mk X1, σ)) : Ex w sc cl rt (pc, lv, .ref v :: .ref a :: r, mk X, σ) := ex_putS hb hk hf ((sS_mk (Nat.le_of_ble_eq_true ha) _ _).trans (congrArg mk he)) h
theorem ex_cloneX {w : Mrow} {sc : Nat × (Nat → Int32)} {cl : Ct} {rt : Rt} {pc : Nat} {lv : Lv} {r : List Value} {X X1 : En} {σ σ1 : St} {i n a t : Nat} {x : Xt} {ops : List Ent} (hb : blkF w.2.2.2.2.2 pc = some ((pc, .invokevirtual i, n, x) :: ops)) (h8 : xC x = 98) (hB : xB x = 0) (hk : rk (mk X) a 20 = true) (hr : Nat.ble (catS r) 8 = true) (hX : Nat.ble 72 (eZ X) = true) (he : eZ X = t ∧ nA X 20 (eL (mk X) a) = X1 ∧ cln σ a (eZ X) = σ1) (h : Ex w sc cl rt (pc + 3, lv, .ref t :: r, mk X1, σ1)) : Ex w sc cl rt (pc, lv, .ref a :: r, mk X, σ) := by
  refine Ex.one hb (Nat.beq_refl pc) ?_
  dsimp only [sem]
  rw [hB, h8]
  simp only [List.drop_zero, rk_b hk, hr, Bool.and_true]
  show Ex w sc cl rt (pc + 3, lv, .ref (eZ (mk X)) :: r, nA (mk X) 20 (eL (mk X) a), cln σ a (eZ (mk X)))
  obtain ⟨h1, h2, h3⟩ := he
  have e1 : eZ (mk X) = eZ X := rfl
  rw [e1, nA_mk (Nat.le_of_ble_eq_true hX), h2, h3, h1]
  exact h
theorem ex_cast {w : Mrow} {sc : Nat × (Nat → Int32)} {cl : Ct} {rt : Rt} {pc : Nat} {lv : Lv} {r : List Value} {E : En} {σ : St} {i n a : Nat} {x : Xt} {ops : List Ent} (hb : blkF w.2.2.2.2.2 pc = some ((pc, .checkcast i, n, x) :: ops)) (hk : rk E a 20 = true) (h : Ex w sc cl rt (pc + 3, lv, .ref a :: r, E, σ)) : Ex w sc cl rt (pc, lv, .ref a :: r, E, σ) := by
  refine Ex.one hb (Nat.beq_refl pc) ?_
  show runO cl rt E σ _ (bif Nat.beq (eK E a) 20 then oGo (pc + 3) lv (.ref a :: r) E σ else none)
  rw [rk_b hk]
  exact h
/-- a reference that may be null -/
def mR {α : Type} (r : Option Nat) (n : Option α) (f : Nat → Option α) : Option α := match r with
  | none => n
  | some t => f t
theorem mR_sp {α : Type} {r : Option Nat} {n : Option α} {f : Nat → Option α} {y : α} (h : mR r n f = some y) : (r = none ∧ n = some y) ∨ ∃ t, r = some t ∧ f t = some y := by
  cases r with
  | none => exact Or.inl ⟨rfl, h⟩
  | some t => exact Or.inr ⟨t, rfl, h⟩
/-- a call that may make cells -/
theorem cl_of2 {pr : Ct} {sc : Nat × (Nat → Int32)} {d mi : Nat} {as : List Value} {E E2 : En} {σ σ2 : St} {r : Option Value} (w : Mrow) (hw : MT mi = some w) (hl : Nat.ble (lg_sl as).length w.2.2.1 = true) (hz : (Nat.ble (eZ E) (eZ E2) && Nat.ble (eY E) (eY E2)) = true) (h : Ex w sc (Cl MT pr sc d) (rtE r E2 σ2) (0, lv_args 0 as, [], E, σ)) : Cl MT pr sc (d + 1) mi as E σ r E2 σ2 := by
  simp only [Bool.and_eq_true] at hz
  exact Or.inr ⟨w, hw, hl, ⟨Nat.le_of_ble_eq_true hz.1, Nat.le_of_ble_eq_true hz.2⟩, h⟩
/-- where a letter stands in "atdhz" -/
def ixo (c : Int32) : Int32 := if c = 97 then 0 else if c = 116 then 1 else if c = 100 then 2 else if c = 104 then 3 else if c = 122 then 4 else -1
