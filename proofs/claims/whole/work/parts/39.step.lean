/-! GoatAbacus.step, which may throw, by program (wip/gen_S.py) -/
def mr_X9_step : Mrow := (yX9_step, cX9_step, 5, (some .int), 0, [(0, [(0, .aload_n 0, 1, 0, 0, 0, 0, 0), (1, .iload_n 1, 1, 0, 0, 0, 0, 0), (2, .invokevirtual 118, 3, 97, 1, 9, 0, 0)]),
  (5, [(5, .astore 4, 2, 0, 0, 0, 0, 0), (7, .aload 4, 2, 0, 0, 0, 0, 0), (9, .ifnonnull 13, 3, 22, 0, 0, 0, 0)]),
  (22, [(22, .iload_n 2, 1, 0, 0, 0, 0, 0), (23, .iconst (-1), 1, 0, 0, 0, (-1), 0), (24, .if_icmp .ne 13, 3, 37, 0, 0, 0, 0)]),
  (27, [(27, .iload_n 3, 1, 0, 0, 0, 0, 0), (28, .ifCond .ne 9, 3, 37, 0, 0, 0, 0)]),
  (31, [(31, .aload 4, 2, 0, 0, 0, 0, 0), (33, .getfield 129, 3, 4, 0, 0, 0, 0), (36, .ireturn, 1, 0, 0, 0, 0, 0)]),
  (37, [(37, .iload_n 2, 1, 0, 0, 0, 0, 0), (38, .ifCond .lt 21, 3, 59, 0, 0, 0, 0)]),
  (41, [(41, .iload_n 2, 1, 0, 0, 0, 0, 0), (42, .aload 4, 2, 0, 0, 0, 0, 0), (44, .getfield 129, 3, 4, 0, 0, 0, 0), (47, .if_icmp .ge 12, 3, 59, 0, 0, 0, 0)]),
  (50, [(50, .iload_n 3, 1, 0, 0, 0, 0, 0), (51, .ifCond .lt 8, 3, 59, 0, 0, 0, 0)]),
  (54, [(54, .iload_n 3, 1, 0, 0, 0, 0, 0), (55, .iconst 2, 1, 0, 0, 0, 2, 0), (56, .if_icmp .le 13, 3, 69, 0, 0, 0, 0)]),
  (69, [(69, .aload 4, 2, 0, 0, 0, 0, 0), (71, .iload_n 2, 1, 0, 0, 0, 0, 0), (72, .iload_n 3, 1, 0, 0, 0, 0, 0), (73, .invokevirtual 132, 3, 46, 2, 4, 0, 0), (76, .ireturn, 1, 0, 0, 0, 0, 0)])])
def wl_X9_step : List Cond := [Cond.code yX9_step cX9_step 5 (some .int), Cond.methodLink RX9 118 yX9_sumAt, Cond.initialized RX9, Cond.instanceMethod yX9_sumAt, Cond.selects RX9 yX9_sumAt yX9_sumAt, Cond.fieldLink RX9 129 "GoatAbacus$Sum" "steps" "I", Cond.methodLink RX9 132 yX4_part, Cond.initialized RX4, Cond.instanceMethod yX4_part, Cond.selects RX4 yX4_part yX4_part]
theorem wg_X9_step : ∀ w ∈ wl_X9_step, w ∈ gW := wl_in [1154, 700, 79, 702, 11, 580, 704, 95, 705, 706] (by decide +kernel) (by decide +kernel)
theorem ok_X9_step : rowOK MT wl_X9_step mr_X9_step = true := by decide +kernel
def mr_L_step : Mrow := (yL_step, cL_step, 6, (some .int), 0, [(0, [(0, .aload 4, 2, 0, 0, 0, 0, 0), (2, .iconst 0, 1, 0, 0, 0, 0, 0), (3, .aload_n 0, 1, 0, 0, 0, 0, 0), (4, .iload_n 1, 1, 0, 0, 0, 0, 0), (5, .iload_n 2, 1, 0, 0, 0, 0, 0), (6, .iload_n 3, 1, 0, 0, 0, 0, 0)]),
  (10, [(10, .i2l, 1, 0, 0, 0, 0, 0), (11, .lastore, 1, 0, 0, 0, 0, 0), (12, .goto 7, 3, 19, 0, 0, 0, 0)]),
  (15, [(15, .astore 5, 2, 0, 0, 0, 0, 0), (17, .iconst 1, 1, 0, 0, 0, 1, 0), (18, .ireturn, 1, 0, 0, 0, 0, 0)]),
  (19, [(19, .iconst 0, 1, 0, 0, 0, 0, 0), (20, .ireturn, 1, 0, 0, 0, 0, 0)])])
def wl_L_step : List Cond := []
theorem wg_L_step : ∀ w ∈ wl_L_step, w ∈ gW := wl_in [] (by decide +kernel) (by decide +kernel)
theorem ok_L_step : mr_L_step.2.2.2.2.2.all (fun q => q.2.all (fun e => decide (decode cL_step e.1 = .ok (e.2.1, e.2.2.1)) && okx MT wl_L_step "GoatAbacusLaw" false e)) = true := by decide +kernel
/-- a run with places where it may end otherwise -/
def ExT (w : Mrow) (sc : Nat × (Nat → Int32)) (cl : Ct) (rt : Rt) (T : Fr → Prop) (f : Fr) : Prop := ∀ P : Fr → Prop, (∀ g, stepP w sc cl rt P g → P g) → (∀ g, T g → P g) → P f
theorem ExT.mk {w : Mrow} {sc : Nat × (Nat → Int32)} {cl : Ct} {rt : Rt} {T : Fr → Prop} {f : Fr} (h : stepP w sc cl rt (ExT w sc cl rt T) f) : ExT w sc cl rt T f := fun P hP hT => hP f (stepP_mono (fun g hg => hg P hP hT) h)
theorem ExT.leaf {w : Mrow} {sc : Nat × (Nat → Int32)} {cl : Ct} {rt : Rt} {T : Fr → Prop} {f : Fr} (h : T f) : ExT w sc cl rt T f := fun P _ hT => hT f h
theorem ExT.blk {w : Mrow} {sc : Nat × (Nat → Int32)} {cl : Ct} {rt : Rt} {T : Fr → Prop} {pc : Nat} {lv : Lv} {st : List Value} {E : En} {σ : St} (m : Nat) {ops : List Ent} (h : blkF w.2.2.2.2.2 pc = some ops) (h2 : semN w.2.2.1 w.2.2.2.1 sc cl rt (ExT w sc cl rt T) (ops.take m) (pc, lv, st, E, σ)) : ExT w sc cl rt T (pc, lv, st, E, σ) := ExT.mk (Or.inr ⟨ops, m, h, h2⟩)
theorem ExT.pick {w : Mrow} {sc : Nat × (Nat → Int32)} {cl : Ct} {rt : Rt} {T : Fr → Prop} {pc : Nat} {lv lv' : Lv} {st : List Value} {E : En} {σ : St} (ks : List Nat) (h : lv_pick lv ks = lv') (h2 : ExT w sc cl rt T (pc, lv', st, E, σ)) : ExT w sc cl rt T (pc, lv, st, E, σ) := ExT.mk (Or.inl ⟨ks, by rw [h]; exact h2⟩)
theorem ExT.one {w : Mrow} {sc : Nat × (Nat → Int32)} {cl : Ct} {rt : Rt} {T : Fr → Prop} {pc : Nat} {lv : Lv} {st : List Value} {E : En} {σ : St} {e : Ent} {ops : List Ent} (hb : blkF w.2.2.2.2.2 pc = some (e :: ops)) (hp : Nat.beq pc e.1 = true) (h : runO cl rt E σ (ExT w sc cl rt T) (sem w.2.2.1 w.2.2.2.1 sc e lv st E σ)) : ExT w sc cl rt T (pc, lv, st, E, σ) := by
  refine ExT.blk 1 hb ?_
  show semN w.2.2.1 w.2.2.2.1 sc cl rt (ExT w sc cl rt T) [e] (pc, lv, st, E, σ)
  unfold semN
  show (bif Nat.beq pc e.1 then _ else False)
  rw [hp]
  exact h
theorem exT_get {w : Mrow} {sc : Nat × (Nat → Int32)} {cl : Ct} {rt : Rt} {T : Fr → Prop} {pc : Nat} {lv : Lv} {r : List Value} {E : En} {σ : St} {i n a : Nat} {x : Xt} {v : Value} {ops : List Ent} (hb : blkF w.2.2.2.2.2 pc = some ((pc, .getfield i, n, x) :: ops)) (hk : rk E a (xA x + 1) = true) (hf : fva E σ a (ftab (xA x) (xB x)) (xB x) = v) (h : ExT w sc cl rt T (pc + 3, lv, v :: r, E, σ)) : ExT w sc cl rt T (pc, lv, .ref a :: r, E, σ) := by
  refine ExT.one hb (Nat.beq_refl pc) ?_
  show runO cl rt E σ _ (bif Nat.beq (eK E a) (xA x + 1) then oGo (pc + 3) lv (fva E σ a (ftab (xA x) (xB x)) (xB x) :: r) E σ else none)
  rw [rk_b hk, hf]
  exact h
theorem exT_callV {w : Mrow} {sc : Nat × (Nat → Int32)} {cl : Ct} {rt : Rt} {T : Fr → Prop} {pc : Nat} {lv : Lv} {r st : List Value} {E E1 : En} {σ σ1 : St} {i n a : Nat} {x : Xt} {rv : Option Value} {ops : List Ent} (hb : blkF w.2.2.2.2.2 pc = some ((pc, .invokevirtual i, n, x) :: ops)) (hd : st.drop (xB x) = .ref a :: r) (hk : rk E a (xC x + 1) = true) (h8 : Nat.beq (xC x) 98 = false) (h9 : Nat.beq (xC x) 99 = false) (hr : Nat.ble (catS r) 8 = true) (hc : cl (xA x) (.ref a :: (st.take (xB x)).reverse) E σ rv E1 σ1) (h : ExT w sc cl rt T (pc + 3, lv, rv.toList ++ r, E1, σ1)) : ExT w sc cl rt T (pc, lv, st, E, σ) := by
  refine ExT.one hb (Nat.beq_refl pc) ?_
  dsimp only [sem]
  rw [hd]
  simp only [h8, h9, rk_b hk, hr, Bool.and_true, cond_true, cond_false]
  exact ⟨rv, E1, σ1, hc, h⟩
def rtS (r : Option Int32) (X2 : En) (σ2 : St) : Rt := fun r1 E1 σ1 => ∃ x, r = some x ∧ r1 = some (.int x) ∧ E1 = mk X2 ∧ σ1 = σ2
def tS (r : Option Int32) (X2 : En) (σ2 : St) : Fr → Prop := fun f => r = none ∧ (f.1 = 12 ∨ f.1 = 59) ∧ f.2.2.1 = [] ∧ f.2.2.2.1 = mk X2 ∧ f.2.2.2.2 = σ2

def g_X9_step_59 (X : En) (σ : St) : Option (Option Int32 × En × St) :=
  (some (none, X, σ))
def g_X9_step_37 (v4 : Nat) (x2 : Int32) (x3 : Int32) (X : En) (σ : St) : Option (Option Int32 × En × St) :=
  (gd (rk (mk X) v4 5) (if x2 < 0 then
 (g_X9_step_59 X σ)
 else
 (if (gI σ v4 0) ≤ x2 then
 (g_X9_step_59 X σ)
 else
 (if x3 < 0 then
 (g_X9_step_59 X σ)
 else
 (if x3 ≤ 2 then
 ((g_X4_part v4 x2 x3 X σ).bind fun p4 => (gd (rk (mk p4.2.1) v4 5) (some (some p4.1, p4.2.1, p4.2.2))))
 else
 (g_X9_step_59 X σ))))))
def g_X9_step_b (x1 : Int32) (x2 : Int32) (x3 : Int32) (X : En) (σ : St) : Option (Option Int32 × En × St) :=
  ((g_X9_sumAt x1 X σ).bind fun p1 => mR p1.1 (some (none, p1.2.1, p1.2.2)) (fun b2 => gd (rk (mk p1.2.1) b2 5) (if x2 = (-1) then
 (if x3 = 0 then
 (some (some (gI p1.2.2 b2 0), p1.2.1, p1.2.2))
 else
 (g_X9_step_37 b2 x2 x3 p1.2.1 p1.2.2))
 else
 (g_X9_step_37 b2 x2 x3 p1.2.1 p1.2.2))))
theorem lg_X9_step_59 {pr : Ct} {sc : Nat × (Nat → Int32)} (d : Nat) {r : Option Int32} {X2 : En} {σ2 : St} (X : En) (σ : St) (h : g_X9_step_59 X σ = some (r, X2, σ2)) : ExT mr_X9_step sc (Cl MT pr sc (d + 1)) (rtS r X2 σ2) (tS r X2 σ2) (59, [], [], mk X, σ) := by
  unfold g_X9_step_59 at h
  cases h
  exact ExT.leaf ⟨rfl, Or.inr rfl, rfl, rfl, rfl⟩
theorem lg_X9_step_37 {pr : Ct} {sc : Nat × (Nat → Int32)} (d : Nat) {r : Option Int32} {X2 : En} {σ2 : St} (v4 : Nat) (x2 : Int32) (x3 : Int32) (X : En) (σ : St) (h : g_X9_step_37 v4 x2 x3 X σ = some (r, X2, σ2)) : ExT mr_X9_step sc (Cl MT pr sc (d + 1)) (rtS r X2 σ2) (tS r X2 σ2) (37, [(2, .int x2), (3, .int x3), (4, .ref v4)], [], mk X, σ) := by
  unfold g_X9_step_37 at h
  obtain ⟨hk_v4_X, h⟩ := gd_some h
  refine ExT.blk 2 rfl ?_
  rcases ite_sp h with ⟨c8, h⟩ | ⟨c8, h⟩
  · refine And.intro (fun _ => ?_) (fun hn => absurd c8 hn)
    show ExT mr_X9_step sc (Cl MT pr sc (d + 1)) (rtS r X2 σ2) (tS r X2 σ2) (59, [(2, .int x2), (3, .int x3), (4, .ref v4)], [], mk X, σ)
    show ExT mr_X9_step sc (Cl MT pr sc (d + 1)) (rtS r X2 σ2) (tS r X2 σ2) (59, [(2, .int x2), (3, .int x3), (4, .ref v4)], [], mk X, σ)
    refine ExT.pick (lv' := _) [] rfl ?_
    exact lg_X9_step_59 d _ _ h
  · refine And.intro (fun hp => absurd hp c8) (fun _ => ?_)
    show ExT mr_X9_step sc (Cl MT pr sc (d + 1)) (rtS r X2 σ2) (tS r X2 σ2) (41, [(2, .int x2), (3, .int x3), (4, .ref v4)], [], mk X, σ)
    refine ExT.blk 2 rfl ?_
    show ExT mr_X9_step sc (Cl MT pr sc (d + 1)) (rtS r X2 σ2) (tS r X2 σ2) (44, [(2, .int x2), (3, .int x3), (4, .ref v4)], [.ref v4, .int x2], mk X, σ)
    refine exT_get rfl hk_v4_X rfl ?_
    show ExT mr_X9_step sc (Cl MT pr sc (d + 1)) (rtS r X2 σ2) (tS r X2 σ2) (47, [(2, .int x2), (3, .int x3), (4, .ref v4)], [.int (gI σ v4 0), .int x2], mk X, σ)
    refine ExT.blk 1 rfl ?_
    rcases ite_sp h with ⟨c7, h⟩ | ⟨c7, h⟩
    · refine And.intro (fun _ => ?_) (fun hn => absurd c7 hn)
      show ExT mr_X9_step sc (Cl MT pr sc (d + 1)) (rtS r X2 σ2) (tS r X2 σ2) (59, [(2, .int x2), (3, .int x3), (4, .ref v4)], [], mk X, σ)
      show ExT mr_X9_step sc (Cl MT pr sc (d + 1)) (rtS r X2 σ2) (tS r X2 σ2) (59, [(2, .int x2), (3, .int x3), (4, .ref v4)], [], mk X, σ)
      refine ExT.pick (lv' := _) [] rfl ?_
      exact lg_X9_step_59 d _ _ h
    · refine And.intro (fun hp => absurd hp c7) (fun _ => ?_)
      show ExT mr_X9_step sc (Cl MT pr sc (d + 1)) (rtS r X2 σ2) (tS r X2 σ2) (50, [(2, .int x2), (3, .int x3), (4, .ref v4)], [], mk X, σ)
      refine ExT.blk 2 rfl ?_
      rcases ite_sp h with ⟨c6, h⟩ | ⟨c6, h⟩
      · refine And.intro (fun _ => ?_) (fun hn => absurd c6 hn)
        show ExT mr_X9_step sc (Cl MT pr sc (d + 1)) (rtS r X2 σ2) (tS r X2 σ2) (59, [(2, .int x2), (3, .int x3), (4, .ref v4)], [], mk X, σ)
        show ExT mr_X9_step sc (Cl MT pr sc (d + 1)) (rtS r X2 σ2) (tS r X2 σ2) (59, [(2, .int x2), (3, .int x3), (4, .ref v4)], [], mk X, σ)
        refine ExT.pick (lv' := _) [] rfl ?_
        exact lg_X9_step_59 d _ _ h
      · refine And.intro (fun hp => absurd hp c6) (fun _ => ?_)
        show ExT mr_X9_step sc (Cl MT pr sc (d + 1)) (rtS r X2 σ2) (tS r X2 σ2) (54, [(2, .int x2), (3, .int x3), (4, .ref v4)], [], mk X, σ)
        refine ExT.blk 3 rfl ?_
        rcases ite_sp h with ⟨c5, h⟩ | ⟨c5, h⟩
        · refine And.intro (fun _ => ?_) (fun hn => absurd c5 hn)
          show ExT mr_X9_step sc (Cl MT pr sc (d + 1)) (rtS r X2 σ2) (tS r X2 σ2) (69, [(2, .int x2), (3, .int x3), (4, .ref v4)], [], mk X, σ)
          refine ExT.blk 3 rfl ?_
          show ExT mr_X9_step sc (Cl MT pr sc (d + 1)) (rtS r X2 σ2) (tS r X2 σ2) (73, [(2, .int x2), (3, .int x3), (4, .ref v4)], [.int x3, .int x2, .ref v4], mk X, σ)
          obtain ⟨p4, hp4, h⟩ := bind_sp h
          refine exT_callV (rv := (some (.int p4.1))) (E1 := (mk p4.2.1)) (σ1 := p4.2.2) rfl rfl hk_v4_X rfl rfl rfl (cg_X4_part (d + 0) hp4) ?_
          show ExT mr_X9_step sc (Cl MT pr sc (d + 1)) (rtS r X2 σ2) (tS r X2 σ2) (76, [(2, .int x2), (3, .int x3), (4, .ref v4)], [.int p4.1], mk p4.2.1, p4.2.2)
          obtain ⟨hk_v4_p4_2_1, h⟩ := gd_some h
          refine ExT.blk 1 rfl ?_
          cases h
          exact And.intro trivial ⟨_, rfl, rfl, rfl, rfl⟩
        · refine And.intro (fun hp => absurd hp c5) (fun _ => ?_)
          show ExT mr_X9_step sc (Cl MT pr sc (d + 1)) (rtS r X2 σ2) (tS r X2 σ2) (59, [(2, .int x2), (3, .int x3), (4, .ref v4)], [], mk X, σ)
          show ExT mr_X9_step sc (Cl MT pr sc (d + 1)) (rtS r X2 σ2) (tS r X2 σ2) (59, [(2, .int x2), (3, .int x3), (4, .ref v4)], [], mk X, σ)
          refine ExT.pick (lv' := _) [] rfl ?_
          exact lg_X9_step_59 d _ _ h
theorem wk_X9_step {pr : Ct} {sc : Nat × (Nat → Int32)} (d : Nat) {r : Option Int32} {X2 : En} {σ2 : St} {x1 x2 x3 : Int32} {X : En} {σ : St} (h : g_X9_step_b x1 x2 x3 X σ = some (r, X2, σ2)) : ExT mr_X9_step sc (Cl MT pr sc (d + 1)) (rtS r X2 σ2) (tS r X2 σ2) (0, [(0, .ref 0), (1, .int x1), (2, .int x2), (3, .int x3)], [], mk X, σ) := by
  unfold g_X9_step_b at h
  refine ExT.blk 2 rfl ?_
  show ExT mr_X9_step sc (Cl MT pr sc (d + 1)) (rtS r X2 σ2) (tS r X2 σ2) (2, [(0, .ref 0), (1, .int x1), (2, .int x2), (3, .int x3)], [.int x1, .ref 0], mk X, σ)
  obtain ⟨p1, hp1, h⟩ := bind_sp h
  refine ExT.blk 1 rfl ?_
  refine Exists.intro (some (orv p1.1)) (Exists.intro (mk p1.2.1) (Exists.intro p1.2.2 (And.intro (cg_X9_sumAt (d + 0) hp1) ?_)))
  show ExT mr_X9_step sc (Cl MT pr sc (d + 1)) (rtS r X2 σ2) (tS r X2 σ2) (5, [(0, .ref 0), (1, .int x1), (2, .int x2), (3, .int x3)], [orv p1.1], mk p1.2.1, p1.2.2)
  rcases mR_sp h with ⟨hb3, h⟩ | ⟨b2, hb3, h⟩
  · rw [hb3]
    show ExT mr_X9_step sc (Cl MT pr sc (d + 1)) (rtS r X2 σ2) (tS r X2 σ2) (5, [(0, .ref 0), (1, .int x1), (2, .int x2), (3, .int x3)], [.null], mk p1.2.1, p1.2.2)
    refine ExT.blk 3 rfl ?_
    show ExT mr_X9_step sc (Cl MT pr sc (d + 1)) (rtS r X2 σ2) (tS r X2 σ2) (12, [(4, .null), (0, .ref 0), (1, .int x1), (2, .int x2), (3, .int x3)], [], mk p1.2.1, p1.2.2)
    cases h
    exact ExT.leaf ⟨rfl, Or.inl rfl, rfl, rfl, rfl⟩
  · rw [hb3]
    show ExT mr_X9_step sc (Cl MT pr sc (d + 1)) (rtS r X2 σ2) (tS r X2 σ2) (5, [(0, .ref 0), (1, .int x1), (2, .int x2), (3, .int x3)], [.ref b2], mk p1.2.1, p1.2.2)
    obtain ⟨hk_b2_p1_2_1, h⟩ := gd_some h
    refine ExT.blk 3 rfl ?_
    show ExT mr_X9_step sc (Cl MT pr sc (d + 1)) (rtS r X2 σ2) (tS r X2 σ2) (22, [(4, .ref b2), (0, .ref 0), (1, .int x1), (2, .int x2), (3, .int x3)], [], mk p1.2.1, p1.2.2)
    refine ExT.blk 3 rfl ?_
    rcases ite_sp h with ⟨c10, h⟩ | ⟨c10, h⟩
    · refine And.intro (fun hp => absurd c10 hp) (fun _ => ?_)
      show ExT mr_X9_step sc (Cl MT pr sc (d + 1)) (rtS r X2 σ2) (tS r X2 σ2) (27, [(4, .ref b2), (0, .ref 0), (1, .int x1), (2, .int x2), (3, .int x3)], [], mk p1.2.1, p1.2.2)
      refine ExT.blk 2 rfl ?_
      rcases ite_sp h with ⟨c9, h⟩ | ⟨c9, h⟩
      · refine And.intro (fun hp => absurd c9 hp) (fun _ => ?_)
        show ExT mr_X9_step sc (Cl MT pr sc (d + 1)) (rtS r X2 σ2) (tS r X2 σ2) (31, [(4, .ref b2), (0, .ref 0), (1, .int x1), (2, .int x2), (3, .int x3)], [], mk p1.2.1, p1.2.2)
        refine ExT.blk 1 rfl ?_
        show ExT mr_X9_step sc (Cl MT pr sc (d + 1)) (rtS r X2 σ2) (tS r X2 σ2) (33, [(4, .ref b2), (0, .ref 0), (1, .int x1), (2, .int x2), (3, .int x3)], [.ref b2], mk p1.2.1, p1.2.2)
        refine exT_get rfl hk_b2_p1_2_1 rfl ?_
        show ExT mr_X9_step sc (Cl MT pr sc (d + 1)) (rtS r X2 σ2) (tS r X2 σ2) (36, [(4, .ref b2), (0, .ref 0), (1, .int x1), (2, .int x2), (3, .int x3)], [.int (gI p1.2.2 b2 0)], mk p1.2.1, p1.2.2)
        refine ExT.blk 1 rfl ?_
        cases h
        exact And.intro trivial ⟨_, rfl, rfl, rfl, rfl⟩
      · refine And.intro (fun _ => ?_) (fun hn => absurd c9 hn)
        show ExT mr_X9_step sc (Cl MT pr sc (d + 1)) (rtS r X2 σ2) (tS r X2 σ2) (37, [(4, .ref b2), (0, .ref 0), (1, .int x1), (2, .int x2), (3, .int x3)], [], mk p1.2.1, p1.2.2)
        show ExT mr_X9_step sc (Cl MT pr sc (d + 1)) (rtS r X2 σ2) (tS r X2 σ2) (37, [(4, .ref b2), (0, .ref 0), (1, .int x1), (2, .int x2), (3, .int x3)], [], mk p1.2.1, p1.2.2)
        refine ExT.pick (lv' := _) [3, 4, 0] rfl ?_
        exact lg_X9_step_37 d _ _ _ _ _ h
    · refine And.intro (fun _ => ?_) (fun hn => absurd c10 hn)
      show ExT mr_X9_step sc (Cl MT pr sc (d + 1)) (rtS r X2 σ2) (tS r X2 σ2) (37, [(4, .ref b2), (0, .ref 0), (1, .int x1), (2, .int x2), (3, .int x3)], [], mk p1.2.1, p1.2.2)
      show ExT mr_X9_step sc (Cl MT pr sc (d + 1)) (rtS r X2 σ2) (tS r X2 σ2) (37, [(4, .ref b2), (0, .ref 0), (1, .int x1), (2, .int x2), (3, .int x3)], [], mk p1.2.1, p1.2.2)
      refine ExT.pick (lv' := _) [3, 4, 0] rfl ?_
      exact lg_X9_step_37 d _ _ _ _ _ h
