theorem lk_X9_topPlace_30 {pr : Ct} {sc : Nat × (Nat → Int32)} {X : En} (d : Nat) {r : Int32} {σ2 : St} (x2 : Int32) (σ : St) (h : f_X9_topPlace_30 x2 σ = some (r, σ2)) : Ex mr_X9_topPlace sc (Cl MT pr sc (d + 0)) (rtE (some (.int r)) (mk X) σ2) (30, [(2, .int x2)], [], mk X, σ) := by
  unfold f_X9_topPlace_30 at h
  refine Ex.blk 1000 rfl ?_
  cases h
  exact And.intro trivial ⟨rfl, rfl, rfl⟩
theorem lk_X9_topPlace_4 {pr : Ct} {sc : Nat × (Nat → Int32)} {X : En} (d : Nat) {r : Int32} {σ2 : St} : ∀ (n : Nat) (x0 : Int64) (x2 : Int32) (x3 : Int32) (σ : St), f_X9_topPlace_4 n x0 x2 x3 σ = some (r, σ2) → Ex mr_X9_topPlace sc (Cl MT pr sc (d + 0)) (rtE (some (.int r)) (mk X) σ2) (4, [(0, .long x0), (2, .int x2), (3, .int x3)], [], mk X, σ) := by
  intro n
  induction n with
  | zero =>
    intro x0 x2 x3 σ h
    cases h
  | succ n ih =>
    intro x0 x2 x3 σ h
    simp only [f_X9_topPlace_4] at h
    refine Ex.blk 1000 rfl ?_
    rcases ite_sp h with ⟨c1, h⟩ | ⟨c1, h⟩
    · refine And.intro (fun _ => ?_) (fun hn => absurd c1 hn)
      show Ex mr_X9_topPlace sc (Cl MT pr sc (d + 0)) (rtE (some (.int r)) (mk X) σ2) (30, [(0, .long x0), (2, .int x2), (3, .int x3)], [], mk X, σ)
      refine Ex.pick (lv' := _) [1] rfl ?_
      exact lk_X9_topPlace_30 d _ _ h
    · refine And.intro (fun hp => absurd hp c1) (fun _ => ?_)
      show Ex mr_X9_topPlace sc (Cl MT pr sc (d + 0)) (rtE (some (.int r)) (mk X) σ2) (12, [(0, .long x0), (2, .int x2), (3, .int x3)], [], mk X, σ)
      refine Ex.blk 4 rfl ?_
      obtain ⟨g2, h⟩ := gd_some h
      refine And.intro (inb_ok g2) ?_
      show Ex mr_X9_topPlace sc (Cl MT pr sc (d + 0)) (rtE (some (.int r)) (mk X) σ2) (18, [(0, .long x0), (2, .int x2), (3, .int x3)], [.long (tens x3.toNatClampNeg), .long x0], mk X, σ)
      refine Ex.blk 1000 rfl ?_
      rcases ite_sp h with ⟨c3, h⟩ | ⟨c3, h⟩
      · refine And.intro (fun _ => ?_) (fun hn => absurd c3 hn)
        show Ex mr_X9_topPlace sc (Cl MT pr sc (d + 0)) (rtE (some (.int r)) (mk X) σ2) (30, [(0, .long x0), (2, .int x2), (3, .int x3)], [], mk X, σ)
        refine Ex.pick (lv' := _) [1] rfl ?_
        exact lk_X9_topPlace_30 d _ _ h
      · refine And.intro (fun hp => absurd hp c3) (fun _ => ?_)
        show Ex mr_X9_topPlace sc (Cl MT pr sc (d + 0)) (rtE (some (.int r)) (mk X) σ2) (22, [(0, .long x0), (2, .int x2), (3, .int x3)], [], mk X, σ)
        refine Ex.blk 1000 rfl ?_
        show Ex mr_X9_topPlace sc (Cl MT pr sc (d + 0)) (rtE (some (.int r)) (mk X) σ2) (4, [(3, .int (x3 + 1)), (2, .int x3), (0, .long x0)], [], mk X, σ)
        refine Ex.pick (lv' := _) [2, 1, 0] rfl ?_
        exact ih _ _ _ _ h
theorem cl_X9_topPlace {pr : Ct} {sc : Nat × (Nat → Int32)} {X : En} (d : Nat) {r : Int32} {σ2 : St} {x0 : Int64} {σ : St} (h : f_X9_topPlace x0 σ = some (r, σ2)) : Cl MT pr sc (d + 0 + 1) 1 [.long x0] (mk X) σ (some (.int r)) (mk X) σ2 := by
  refine cl_of mr_X9_topPlace rfl rfl ?_
  unfold f_X9_topPlace at h
  refine Ex.blk 1000 rfl ?_
  show Ex mr_X9_topPlace sc (Cl MT pr sc (d + 0)) (rtE (some (.int r)) (mk X) σ2) (4, [(3, .int 0), (2, .int (-1)), (0, .long x0)], [], mk X, σ)
  refine Ex.pick (lv' := _) [2, 1, 0] rfl ?_
  exact lk_X9_topPlace_4 d FU _ _ _ _ h
theorem lk_X9_digitOf_28 {pr : Ct} {sc : Nat × (Nat → Int32)} {X : En} (d : Nat) {r : Int32} {σ2 : St} (y0 : Int32) (σ : St) (h : f_X9_digitOf_28 y0 σ = some (r, σ2)) : Ex mr_X9_digitOf sc (Cl MT pr sc (d + 0)) (rtE (some (.int r)) (mk X) σ2) (28, [], [.int y0], mk X, σ) := by
  unfold f_X9_digitOf_28 at h
  refine Ex.blk 1000 rfl ?_
  cases h
  exact And.intro trivial ⟨rfl, rfl, rfl⟩
theorem lk_X9_digitOf_12 {pr : Ct} {sc : Nat × (Nat → Int32)} {X : En} (d : Nat) {r : Int32} {σ2 : St} (σ : St) (h : f_X9_digitOf_12 σ = some (r, σ2)) : Ex mr_X9_digitOf sc (Cl MT pr sc (d + 0)) (rtE (some (.int r)) (mk X) σ2) (12, [], [], mk X, σ) := by
  unfold f_X9_digitOf_12 at h
  refine Ex.blk 1000 rfl ?_
  show Ex mr_X9_digitOf sc (Cl MT pr sc (d + 0)) (rtE (some (.int r)) (mk X) σ2) (28, [], [.int 0], mk X, σ)
  exact lk_X9_digitOf_28 d _ _ h
theorem cl_X9_digitOf {pr : Ct} {sc : Nat × (Nat → Int32)} {X : En} (d : Nat) {r : Int32} {σ2 : St} {x0 : Int64} {x2 : Int32} {σ : St} (h : f_X9_digitOf x0 x2 σ = some (r, σ2)) : Cl MT pr sc (d + 0 + 1) 3 [.long x0, .int x2] (mk X) σ (some (.int r)) (mk X) σ2 := by
  refine cl_of mr_X9_digitOf rfl rfl ?_
  unfold f_X9_digitOf at h
  refine Ex.blk 1000 rfl ?_
  rcases ite_sp h with ⟨c1, h⟩ | ⟨c1, h⟩
  · refine And.intro (fun _ => ?_) (fun hn => absurd c1 hn)
    show Ex mr_X9_digitOf sc (Cl MT pr sc (d + 0)) (rtE (some (.int r)) (mk X) σ2) (12, [(0, .long x0), (2, .int x2)], [], mk X, σ)
    refine Ex.pick (lv' := _) [] rfl ?_
    exact lk_X9_digitOf_12 d _ h
  · refine And.intro (fun hp => absurd hp c1) (fun _ => ?_)
    show Ex mr_X9_digitOf sc (Cl MT pr sc (d + 0)) (rtE (some (.int r)) (mk X) σ2) (4, [(0, .long x0), (2, .int x2)], [], mk X, σ)
    refine Ex.blk 1000 rfl ?_
    rcases ite_sp h with ⟨c2, h⟩ | ⟨c2, h⟩
    · refine And.intro (fun _ => ?_) (fun hn => absurd c2 hn)
      show Ex mr_X9_digitOf sc (Cl MT pr sc (d + 0)) (rtE (some (.int r)) (mk X) σ2) (16, [(0, .long x0), (2, .int x2)], [], mk X, σ)
      refine Ex.blk 4 rfl ?_
      obtain ⟨g3, h⟩ := gd_some h
      refine And.intro (inb_ok g3) ?_
      show Ex mr_X9_digitOf sc (Cl MT pr sc (d + 0)) (rtE (some (.int r)) (mk X) σ2) (22, [(0, .long x0), (2, .int x2)], [.long (tens x2.toNatClampNeg), .long x0], mk X, σ)
      refine Ex.blk 1 rfl ?_
      obtain ⟨g4, h⟩ := gd_some h
      refine And.intro (nzJ_ok g4) ?_
      show Ex mr_X9_digitOf sc (Cl MT pr sc (d + 0)) (rtE (some (.int r)) (mk X) σ2) (23, [(0, .long x0), (2, .int x2)], [.long (x0 / (tens x2.toNatClampNeg))], mk X, σ)
      refine Ex.blk 2 rfl ?_
      refine And.intro (nzJ_ok (b := 10) (by decide)) ?_
      show Ex mr_X9_digitOf sc (Cl MT pr sc (d + 0)) (rtE (some (.int r)) (mk X) σ2) (27, [(0, .long x0), (2, .int x2)], [.long (rmJ (x0 / (tens x2.toNatClampNeg)) 10)], mk X, σ)
      refine Ex.blk 1000 rfl ?_
      show Ex mr_X9_digitOf sc (Cl MT pr sc (d + 0)) (rtE (some (.int r)) (mk X) σ2) (28, [(0, .long x0), (2, .int x2)], [.int (rmJ (x0 / (tens x2.toNatClampNeg)) 10).toInt32], mk X, σ)
      refine Ex.pick (lv' := _) [] rfl ?_
      exact lk_X9_digitOf_28 d _ _ h
    · refine And.intro (fun hp => absurd hp c2) (fun _ => ?_)
      show Ex mr_X9_digitOf sc (Cl MT pr sc (d + 0)) (rtE (some (.int r)) (mk X) σ2) (12, [(0, .long x0), (2, .int x2)], [], mk X, σ)
      refine Ex.pick (lv' := _) [] rfl ?_
      exact lk_X9_digitOf_12 d _ h
theorem lk_X0_comeBack_59 {pr : Ct} {sc : Nat × (Nat → Int32)} {X : En} (d : Nat) {σ2 : St} (k2 : Int32 → Int32 → St → Option (St)) (hk2 : ∀ (x1 : Int32) (x2 : Int32) (σ : St), k2 x1 x2 σ = some σ2 → Ex mr_X0_comeBack sc (Cl MT pr sc (d + 0)) (rtE none (mk X) σ2) (2, [(0, .ref 27), (1, .int x1), (2, .int x2)], [], mk X, σ)) (x1 : Int32) (x2 : Int32) (σ : St) (h : f_X0_comeBack_59 k2 x1 x2 σ = some σ2) : Ex mr_X0_comeBack sc (Cl MT pr sc (d + 0)) (rtE none (mk X) σ2) (59, [(0, .ref 27), (1, .int x1), (2, .int x2)], [], mk X, σ) := by
  unfold f_X0_comeBack_59 at h
  refine Ex.blk 1000 rfl ?_
  show Ex mr_X0_comeBack sc (Cl MT pr sc (d + 0)) (rtE none (mk X) σ2) (2, [(2, .int (x2 + 1)), (0, .ref 27), (1, .int x1)], [], mk X, σ)
  refine Ex.pick (lv' := _) [1, 2, 0] rfl ?_
  exact hk2 _ _ _ h
theorem lk_X0_comeBack_37 {pr : Ct} {sc : Nat × (Nat → Int32)} {X : En} (d : Nat) {σ2 : St} (k2 : Int32 → Int32 → St → Option (St)) (hk2 : ∀ (x1 : Int32) (x2 : Int32) (σ : St), k2 x1 x2 σ = some σ2 → Ex mr_X0_comeBack sc (Cl MT pr sc (d + 0)) (rtE none (mk X) σ2) (2, [(0, .ref 27), (1, .int x1), (2, .int x2)], [], mk X, σ)) (x1 : Int32) (x2 : Int32) (σ : St) (h : f_X0_comeBack_37 k2 x1 x2 σ = some σ2) : Ex mr_X0_comeBack sc (Cl MT pr sc (d + 0)) (rtE none (mk X) σ2) (37, [(0, .ref 27), (1, .int x1), (2, .int x2)], [], mk X, σ) := by
  unfold f_X0_comeBack_37 at h
  refine Ex.blk 5 rfl ?_
  show Ex mr_X0_comeBack sc (Cl MT pr sc (d + 0)) (rtE none (mk X) σ2) (44, [(0, .ref 27), (1, .int x1), (2, .int x2)], [.int (gI σ 27 10), .int (x2 + 1)], mk X, σ)
  refine Ex.blk 1000 rfl ?_
  rcases ite_sp h with ⟨c1, h⟩ | ⟨c1, h⟩
  · refine And.intro (fun _ => ?_) (fun hn => absurd c1 hn)
    show Ex mr_X0_comeBack sc (Cl MT pr sc (d + 0)) (rtE none (mk X) σ2) (59, [(0, .ref 27), (1, .int x1), (2, .int x2)], [], mk X, σ)
    exact lk_X0_comeBack_59 d _ hk2 _ _ _ h
  · refine And.intro (fun hp => absurd hp c1) (fun _ => ?_)
    show Ex mr_X0_comeBack sc (Cl MT pr sc (d + 0)) (rtE none (mk X) σ2) (47, [(0, .ref 27), (1, .int x1), (2, .int x2)], [], mk X, σ)
    refine Ex.blk 5 rfl ?_
    show Ex mr_X0_comeBack sc (Cl MT pr sc (d + 0)) (rtE none (mk X) σ2) (54, [(0, .ref 27), (1, .int x1), (2, .int x2)], [.int (x2 + 1), .ref 31], mk X, σ)
    refine Ex.blk 2 rfl ?_
    obtain ⟨g2, h⟩ := gd_some h
    refine And.intro (inb_ok g2) ?_
    show Ex mr_X0_comeBack sc (Cl MT pr sc (d + 0)) (rtE none (mk X) σ2) (56, [(0, .ref 27), (1, .int x1), (2, .int x2)], [.int (gI σ 31 (x2 + 1).toNatClampNeg), .int (x2 + 1), .ref 31], mk X, σ)
    refine Ex.blk 3 rfl ?_
    obtain ⟨g3, h⟩ := gd_some h
    refine And.intro (inb_ok g3) ?_
    show Ex mr_X0_comeBack sc (Cl MT pr sc (d + 0)) (rtE none (mk X) σ2) (59, [(0, .ref 27), (1, .int x1), (2, .int x2)], [], mk X, (sI σ 31 (x2 + 1).toNatClampNeg ((gI σ 31 (x2 + 1).toNatClampNeg) + 1)))
    exact lk_X0_comeBack_59 d _ hk2 _ _ _ h
theorem lk_X0_comeBack_2 {pr : Ct} {sc : Nat × (Nat → Int32)} {X : En} (d : Nat) {σ2 : St} : ∀ (n : Nat) (x1 : Int32) (x2 : Int32) (σ : St), f_X0_comeBack_2 n x1 x2 σ = some σ2 → Ex mr_X0_comeBack sc (Cl MT pr sc (d + 0)) (rtE none (mk X) σ2) (2, [(0, .ref 27), (1, .int x1), (2, .int x2)], [], mk X, σ) := by
  intro n
  induction n with
  | zero =>
    intro x1 x2 σ h
    cases h
  | succ n ih =>
    intro x1 x2 σ h
    simp only [f_X0_comeBack_2] at h
    refine Ex.blk 1000 rfl ?_
    rcases ite_sp h with ⟨c1, h⟩ | ⟨c1, h⟩
    · refine And.intro (fun _ => ?_) (fun hn => absurd c1 hn)
      show Ex mr_X0_comeBack sc (Cl MT pr sc (d + 0)) (rtE none (mk X) σ2) (65, [(0, .ref 27), (1, .int x1), (2, .int x2)], [], mk X, σ)
      refine Ex.blk 1000 rfl ?_
      cases h
      exact And.intro trivial ⟨rfl, rfl, rfl⟩
    · refine And.intro (fun hp => absurd hp c1) (fun _ => ?_)
      show Ex mr_X0_comeBack sc (Cl MT pr sc (d + 0)) (rtE none (mk X) σ2) (10, [(0, .ref 27), (1, .int x1), (2, .int x2)], [], mk X, σ)
      refine Ex.blk 4 rfl ?_
      obtain ⟨g2, h⟩ := gd_some h
      refine And.intro (inb_ok g2) ?_
      show Ex mr_X0_comeBack sc (Cl MT pr sc (d + 0)) (rtE none (mk X) σ2) (16, [(0, .ref 27), (1, .int x1), (2, .int x2)], [.int (gI σ 37 x2.toNatClampNeg)], mk X, σ)
      refine Ex.blk 1000 rfl ?_
      rcases ite_sp h with ⟨c3, h⟩ | ⟨c3, h⟩
      · refine And.intro (fun hp => absurd c3 hp) (fun _ => ?_)
        show Ex mr_X0_comeBack sc (Cl MT pr sc (d + 0)) (rtE none (mk X) σ2) (20, [(0, .ref 27), (1, .int x1), (2, .int x2)], [], mk X, σ)
        refine Ex.blk 5 rfl ?_
        obtain ⟨g4, h⟩ := gd_some h
        refine And.intro (inb_ok g4) ?_
        show Ex mr_X0_comeBack sc (Cl MT pr sc (d + 0)) (rtE none (mk X) σ2) (27, [(0, .ref 27), (1, .int x1), (2, .int x2)], [], mk X, (sI σ 37 x2.toNatClampNeg (-1)))
        refine Ex.blk 5 rfl ?_
        show Ex mr_X0_comeBack sc (Cl MT pr sc (d + 0)) (rtE none (mk X) σ2) (34, [(0, .ref 27), (1, .int x1), (2, .int x2)], [.int ((gI (sI σ 37 x2.toNatClampNeg (-1)) 27 14) + 1), .ref 27], mk X, (sI σ 37 x2.toNatClampNeg (-1)))
        refine Ex.blk 1 rfl ?_
        show Ex mr_X0_comeBack sc (Cl MT pr sc (d + 0)) (rtE none (mk X) σ2) (37, [(0, .ref 27), (1, .int x1), (2, .int x2)], [], mk X, (sI (sI σ 37 x2.toNatClampNeg (-1)) 27 14 ((gI (sI σ 37 x2.toNatClampNeg (-1)) 27 14) + 1)))
        exact lk_X0_comeBack_37 d _ ih _ _ _ h
      · refine And.intro (fun _ => ?_) (fun hn => absurd c3 hn)
        show Ex mr_X0_comeBack sc (Cl MT pr sc (d + 0)) (rtE none (mk X) σ2) (59, [(0, .ref 27), (1, .int x1), (2, .int x2)], [], mk X, σ)
        exact lk_X0_comeBack_59 d _ ih _ _ _ h
theorem cl_X0_comeBack {pr : Ct} {sc : Nat × (Nat → Int32)} {X : En} (d : Nat) {σ2 : St} {x1 : Int32} {σ : St} (h : f_X0_comeBack x1 σ = some σ2) : Cl MT pr sc (d + 0 + 1) 5 [.ref 27, .int x1] (mk X) σ none (mk X) σ2 := by
  refine cl_of mr_X0_comeBack rfl rfl ?_
  unfold f_X0_comeBack at h
  refine Ex.blk 1000 rfl ?_
  show Ex mr_X0_comeBack sc (Cl MT pr sc (d + 0)) (rtE none (mk X) σ2) (2, [(2, .int 0), (0, .ref 27), (1, .int x1)], [], mk X, σ)
  refine Ex.pick (lv' := _) [1, 2, 0] rfl ?_
  exact lk_X0_comeBack_2 d FU _ _ _ h
theorem lk_X0_endDrive_35 {pr : Ct} {sc : Nat × (Nat → Int32)} {X : En} (d : Nat) {σ2 : St} (σ : St) (h : f_X0_endDrive_35 σ = some σ2) : Ex mr_X0_endDrive sc (Cl MT pr sc (d + 0)) (rtE none (mk X) σ2) (35, [], [], mk X, σ) := by
  unfold f_X0_endDrive_35 at h
  refine Ex.blk 1000 rfl ?_
  cases h
  exact And.intro trivial ⟨rfl, rfl, rfl⟩
theorem lk_X0_endDrive_19 {pr : Ct} {sc : Nat × (Nat → Int32)} {X : En} (d : Nat) {σ2 : St} (x1 : Int32) (σ : St) (h : f_X0_endDrive_19 x1 σ = some σ2) : Ex mr_X0_endDrive sc (Cl MT pr sc (d + 0)) (rtE none (mk X) σ2) (19, [(0, .ref 27), (1, .int x1)], [], mk X, σ) := by
  unfold f_X0_endDrive_19 at h
  refine Ex.blk 4 rfl ?_
  obtain ⟨g1, h⟩ := gd_some h
  refine And.intro (inb_ok g1) ?_
  show Ex mr_X0_endDrive sc (Cl MT pr sc (d + 0)) (rtE none (mk X) σ2) (25, [(0, .ref 27), (1, .int x1)], [.int (gI σ 35 x1.toNatClampNeg)], mk X, σ)
  refine Ex.blk 1000 rfl ?_
  rcases ite_sp h with ⟨c2, h⟩ | ⟨c2, h⟩
  · refine And.intro (fun _ => ?_) (fun hn => absurd c2 hn)
    show Ex mr_X0_endDrive sc (Cl MT pr sc (d + 0)) (rtE none (mk X) σ2) (35, [(0, .ref 27), (1, .int x1)], [], mk X, σ)
    refine Ex.pick (lv' := _) [] rfl ?_
    exact lk_X0_endDrive_35 d _ h
  · refine And.intro (fun hp => absurd hp c2) (fun _ => ?_)
    show Ex mr_X0_endDrive sc (Cl MT pr sc (d + 0)) (rtE none (mk X) σ2) (28, [(0, .ref 27), (1, .int x1)], [], mk X, σ)
    refine Ex.blk 5 rfl ?_
    obtain ⟨g3, h⟩ := gd_some h
    refine And.intro ⟨inb_ok g3, isb_1⟩ ?_
    show Ex mr_X0_endDrive sc (Cl MT pr sc (d + 0)) (rtE none (mk X) σ2) (35, [(0, .ref 27), (1, .int x1)], [], mk X, (sI σ 36 x1.toNatClampNeg 1))
    refine Ex.pick (lv' := _) [] rfl ?_
    exact lk_X0_endDrive_35 d _ h
theorem cl_X0_endDrive {pr : Ct} {sc : Nat × (Nat → Int32)} {X : En} (d : Nat) {σ2 : St} {x1 : Int32} {σ : St} (h : f_X0_endDrive x1 σ = some σ2) : Cl MT pr sc (d + 0 + 1) 6 [.ref 27, .int x1] (mk X) σ none (mk X) σ2 := by
  refine cl_of mr_X0_endDrive rfl rfl ?_
  unfold f_X0_endDrive at h
  refine Ex.blk 5 rfl ?_
  obtain ⟨g1, h⟩ := gd_some h
  refine And.intro ⟨inb_ok g1, isb_0⟩ ?_
  show Ex mr_X0_endDrive sc (Cl MT pr sc (d + 0)) (rtE none (mk X) σ2) (7, [(0, .ref 27), (1, .int x1)], [], mk X, (sI σ 32 x1.toNatClampNeg 0))
  refine Ex.blk 5 rfl ?_
  show Ex mr_X0_endDrive sc (Cl MT pr sc (d + 0)) (rtE none (mk X) σ2) (16, [(0, .ref 27), (1, .int x1)], [.ref 34, .int x1, .ref 28], mk X, (sI σ 32 x1.toNatClampNeg 0))
  refine Ex.blk 2 rfl ?_
  obtain ⟨g2, h⟩ := gd_some h
  refine And.intro (inb_ok g2) ?_
  show Ex mr_X0_endDrive sc (Cl MT pr sc (d + 0)) (rtE none (mk X) σ2) (18, [(0, .ref 27), (1, .int x1)], [.int (gI (sI σ 32 x1.toNatClampNeg 0) 34 x1.toNatClampNeg), .int x1, .ref 28], mk X, (sI σ 32 x1.toNatClampNeg 0))
  refine Ex.blk 1 rfl ?_
  obtain ⟨g3, h⟩ := gd_some h
  refine And.intro (inb_ok g3) ?_
  show Ex mr_X0_endDrive sc (Cl MT pr sc (d + 0)) (rtE none (mk X) σ2) (19, [(0, .ref 27), (1, .int x1)], [], mk X, (sI (sI σ 32 x1.toNatClampNeg 0) 28 x1.toNatClampNeg (gI (sI σ 32 x1.toNatClampNeg 0) 34 x1.toNatClampNeg)))
  exact lk_X0_endDrive_19 d _ _ h
theorem lk_X0_nextDrive_60 {pr : Ct} {sc : Nat × (Nat → Int32)} {X : En} (d : Nat) {r : Int32} {σ2 : St} (x3 : Int32) (σ : St) (h : f_X0_nextDrive_60 x3 σ = some (r, σ2)) : Ex mr_X0_nextDrive sc (Cl MT pr sc (d + 0)) (rtE (some (.int r)) (mk X) σ2) (60, [(3, .int x3)], [], mk X, σ) := by
  unfold f_X0_nextDrive_60 at h
  refine Ex.blk 1000 rfl ?_
  cases h
  exact And.intro trivial ⟨rfl, rfl, rfl⟩
theorem lk_X0_nextDrive_39 {pr : Ct} {sc : Nat × (Nat → Int32)} {X : En} (d : Nat) {r : Int32} {σ2 : St} (x1 : Int32) (x3 : Int32) (σ : St) (h : f_X0_nextDrive_39 x1 x3 σ = some (r, σ2)) : Ex mr_X0_nextDrive sc (Cl MT pr sc (d + 0)) (rtE (some (.int r)) (mk X) σ2) (39, [(0, .ref 27), (1, .int x1), (3, .int x3)], [], mk X, σ) := by
  unfold f_X0_nextDrive_39 at h
  refine Ex.blk 4 rfl ?_
  obtain ⟨g1, h⟩ := gd_some h
  refine And.intro (inb_ok g1) ?_
  show Ex mr_X0_nextDrive sc (Cl MT pr sc (d + 0)) (rtE (some (.int r)) (mk X) σ2) (45, [(0, .ref 27), (1, .int x1), (3, .int x3)], [.int (gI σ 31 x1.toNatClampNeg)], mk X, σ)
  refine Ex.blk 1000 rfl ?_
  rcases ite_sp h with ⟨c2, h⟩ | ⟨c2, h⟩
  · refine And.intro (fun _ => ?_) (fun hn => absurd c2 hn)
    show Ex mr_X0_nextDrive sc (Cl MT pr sc (d + 0)) (rtE (some (.int r)) (mk X) σ2) (60, [(0, .ref 27), (1, .int x1), (3, .int x3)], [], mk X, σ)
    refine Ex.pick (lv' := _) [2] rfl ?_
    exact lk_X0_nextDrive_60 d _ _ h
  · refine And.intro (fun hp => absurd hp c2) (fun _ => ?_)
    show Ex mr_X0_nextDrive sc (Cl MT pr sc (d + 0)) (rtE (some (.int r)) (mk X) σ2) (48, [(0, .ref 27), (1, .int x1), (3, .int x3)], [], mk X, σ)
    refine Ex.blk 5 rfl ?_
    show Ex mr_X0_nextDrive sc (Cl MT pr sc (d + 0)) (rtE (some (.int r)) (mk X) σ2) (55, [(3, .int 1), (0, .ref 27), (1, .int x1)], [.int x1, .ref 31], mk X, σ)
    refine Ex.blk 2 rfl ?_
    obtain ⟨g3, h⟩ := gd_some h
    refine And.intro (inb_ok g3) ?_
    show Ex mr_X0_nextDrive sc (Cl MT pr sc (d + 0)) (rtE (some (.int r)) (mk X) σ2) (57, [(3, .int 1), (0, .ref 27), (1, .int x1)], [.int (gI σ 31 x1.toNatClampNeg), .int x1, .ref 31], mk X, σ)
    refine Ex.blk 3 rfl ?_
    obtain ⟨g4, h⟩ := gd_some h
    refine And.intro (inb_ok g4) ?_
    show Ex mr_X0_nextDrive sc (Cl MT pr sc (d + 0)) (rtE (some (.int r)) (mk X) σ2) (60, [(3, .int 1), (0, .ref 27), (1, .int x1)], [], mk X, (sI σ 31 x1.toNatClampNeg ((gI σ 31 x1.toNatClampNeg) - 1)))
    refine Ex.pick (lv' := _) [0] rfl ?_
    exact lk_X0_nextDrive_60 d _ _ h
theorem lk_X0_nextDrive_29 {pr : Ct} {sc : Nat × (Nat → Int32)} {X : En} (d : Nat) {r : Int32} {σ2 : St} (x1 : Int32) (x3 : Int32) (σ : St) (h : f_X0_nextDrive_29 x1 x3 σ = some (r, σ2)) : Ex mr_X0_nextDrive sc (Cl MT pr sc (d + 0)) (rtE (some (.int r)) (mk X) σ2) (29, [(0, .ref 27), (1, .int x1), (3, .int x3)], [], mk X, σ) := by
  unfold f_X0_nextDrive_29 at h
  refine Ex.blk 5 rfl ?_
  obtain ⟨g1, h⟩ := gd_some h
  refine And.intro (inb_ok g1) ?_
  show Ex mr_X0_nextDrive sc (Cl MT pr sc (d + 0)) (rtE (some (.int r)) (mk X) σ2) (36, [(0, .ref 27), (1, .int x1), (3, .int x3)], [], mk X, (sI σ 30 x1.toNatClampNeg (-1)))
  refine Ex.blk 1000 rfl ?_
  show Ex mr_X0_nextDrive sc (Cl MT pr sc (d + 0)) (rtE (some (.int r)) (mk X) σ2) (60, [(0, .ref 27), (1, .int x1), (3, .int x3)], [], mk X, (sI σ 30 x1.toNatClampNeg (-1)))
  refine Ex.pick (lv' := _) [2] rfl ?_
  exact lk_X0_nextDrive_60 d _ _ h
theorem cl_X0_nextDrive {pr : Ct} {sc : Nat × (Nat → Int32)} {X : En} (d : Nat) {r : Int32} {σ2 : St} {x1 : Int32} {x2 : Int32} {σ : St} (h : f_X0_nextDrive x1 x2 σ = some (r, σ2)) : Cl MT pr sc (d + 0 + 1) 7 [.ref 27, .int x1, .int x2] (mk X) σ (some (.int r)) (mk X) σ2 := by
  refine cl_of mr_X0_nextDrive rfl rfl ?_
  unfold f_X0_nextDrive at h
  refine Ex.blk 5 rfl ?_
  show Ex mr_X0_nextDrive sc (Cl MT pr sc (d + 0)) (rtE (some (.int r)) (mk X) σ2) (7, [(3, .int (-1)), (0, .ref 27), (1, .int x1), (2, .int x2)], [.int x1, .ref 30], mk X, σ)
  refine Ex.blk 1 rfl ?_
  obtain ⟨g1, h⟩ := gd_some h
  refine And.intro (inb_ok g1) ?_
  show Ex mr_X0_nextDrive sc (Cl MT pr sc (d + 0)) (rtE (some (.int r)) (mk X) σ2) (8, [(3, .int (-1)), (0, .ref 27), (1, .int x1), (2, .int x2)], [.int (gI σ 30 x1.toNatClampNeg)], mk X, σ)
  refine Ex.blk 1000 rfl ?_
  rcases ite_sp h with ⟨c2, h⟩ | ⟨c2, h⟩
  · refine And.intro (fun _ => ?_) (fun hn => absurd c2 hn)
    show Ex mr_X0_nextDrive sc (Cl MT pr sc (d + 0)) (rtE (some (.int r)) (mk X) σ2) (39, [(3, .int (-1)), (0, .ref 27), (1, .int x1), (2, .int x2)], [], mk X, σ)
    refine Ex.pick (lv' := _) [1, 2, 0] rfl ?_
    exact lk_X0_nextDrive_39 d _ _ _ h
  · refine And.intro (fun hp => absurd hp c2) (fun _ => ?_)
    show Ex mr_X0_nextDrive sc (Cl MT pr sc (d + 0)) (rtE (some (.int r)) (mk X) σ2) (12, [(3, .int (-1)), (0, .ref 27), (1, .int x1), (2, .int x2)], [], mk X, σ)
    refine Ex.blk 5 rfl ?_
    show Ex mr_X0_nextDrive sc (Cl MT pr sc (d + 0)) (rtE (some (.int r)) (mk X) σ2) (19, [(3, .int (-1)), (0, .ref 27), (1, .int x1), (2, .int x2)], [.int x2, .int ((gI σ 27 11) * x1)], mk X, σ)
    refine Ex.blk 1000 rfl ?_
    rcases ite_sp h with ⟨c3, h⟩ | ⟨c3, h⟩
    · refine And.intro (fun _ => ?_) (fun hn => absurd c3 hn)
      show Ex mr_X0_nextDrive sc (Cl MT pr sc (d + 0)) (rtE (some (.int r)) (mk X) σ2) (39, [(3, .int (-1)), (0, .ref 27), (1, .int x1), (2, .int x2)], [], mk X, σ)
      refine Ex.pick (lv' := _) [1, 2, 0] rfl ?_
      exact lk_X0_nextDrive_39 d _ _ _ h
    · refine And.intro (fun hp => absurd hp c3) (fun _ => ?_)
      show Ex mr_X0_nextDrive sc (Cl MT pr sc (d + 0)) (rtE (some (.int r)) (mk X) σ2) (22, [(3, .int (-1)), (0, .ref 27), (1, .int x1), (2, .int x2)], [], mk X, σ)
      refine Ex.blk 4 rfl ?_
      obtain ⟨g4, h⟩ := gd_some h
      refine And.intro (inb_ok g4) ?_
      show Ex mr_X0_nextDrive sc (Cl MT pr sc (d + 0)) (rtE (some (.int r)) (mk X) σ2) (28, [(3, .int (-1)), (0, .ref 27), (1, .int x1), (2, .int x2)], [.int (gI σ 30 x1.toNatClampNeg)], mk X, σ)
      refine Ex.blk 1 rfl ?_
      show Ex mr_X0_nextDrive sc (Cl MT pr sc (d + 0)) (rtE (some (.int r)) (mk X) σ2) (29, [(3, .int (gI σ 30 x1.toNatClampNeg)), (0, .ref 27), (1, .int x1), (2, .int x2)], [], mk X, σ)
      refine Ex.pick (lv' := _) [1, 2, 0] rfl ?_
      exact lk_X0_nextDrive_29 d _ _ _ h
theorem lk_X9_isDigit_15 {pr : Ct} {sc : Nat × (Nat → Int32)} {X : En} (d : Nat) {r : Int32} {σ2 : St} (y0 : Int32) (σ : St) (h : f_X9_isDigit_15 y0 σ = some (r, σ2)) : Ex mr_X9_isDigit sc (Cl MT pr sc (d + 0)) (rtE (some (.int r)) (mk X) σ2) (15, [], [.int y0], mk X, σ) := by
  unfold f_X9_isDigit_15 at h
  refine Ex.blk 1000 rfl ?_
  obtain ⟨g1, h⟩ := gd_some h
  cases h
  exact And.intro (isbb_ok g1) ⟨rfl, rfl, rfl⟩
theorem lk_X9_isDigit_14 {pr : Ct} {sc : Nat × (Nat → Int32)} {X : En} (d : Nat) {r : Int32} {σ2 : St} (σ : St) (h : f_X9_isDigit_14 σ = some (r, σ2)) : Ex mr_X9_isDigit sc (Cl MT pr sc (d + 0)) (rtE (some (.int r)) (mk X) σ2) (14, [], [], mk X, σ) := by
  unfold f_X9_isDigit_14 at h
  refine Ex.blk 1000 rfl ?_
  show Ex mr_X9_isDigit sc (Cl MT pr sc (d + 0)) (rtE (some (.int r)) (mk X) σ2) (15, [], [.int 0], mk X, σ)
  exact lk_X9_isDigit_15 d _ _ h
theorem cl_X9_isDigit {pr : Ct} {sc : Nat × (Nat → Int32)} {X : En} (d : Nat) {r : Int32} {σ2 : St} {x0 : Int32} {σ : St} (h : f_X9_isDigit x0 σ = some (r, σ2)) : Cl MT pr sc (d + 0 + 1) 8 [.int x0] (mk X) σ (some (.int r)) (mk X) σ2 := by
  refine cl_of mr_X9_isDigit rfl rfl ?_
  unfold f_X9_isDigit at h
  refine Ex.blk 1000 rfl ?_
  rcases ite_sp h with ⟨c1, h⟩ | ⟨c1, h⟩
  · refine And.intro (fun _ => ?_) (fun hn => absurd c1 hn)
    show Ex mr_X9_isDigit sc (Cl MT pr sc (d + 0)) (rtE (some (.int r)) (mk X) σ2) (14, [(0, .int x0)], [], mk X, σ)
    refine Ex.pick (lv' := _) [] rfl ?_
    exact lk_X9_isDigit_14 d _ h
  · refine And.intro (fun hp => absurd hp c1) (fun _ => ?_)
    show Ex mr_X9_isDigit sc (Cl MT pr sc (d + 0)) (rtE (some (.int r)) (mk X) σ2) (4, [(0, .int x0)], [], mk X, σ)
    refine Ex.blk 1000 rfl ?_
    rcases ite_sp h with ⟨c2, h⟩ | ⟨c2, h⟩
    · refine And.intro (fun _ => ?_) (fun hn => absurd c2 hn)
      show Ex mr_X9_isDigit sc (Cl MT pr sc (d + 0)) (rtE (some (.int r)) (mk X) σ2) (14, [(0, .int x0)], [], mk X, σ)
      refine Ex.pick (lv' := _) [] rfl ?_
      exact lk_X9_isDigit_14 d _ h
    · refine And.intro (fun hp => absurd hp c2) (fun _ => ?_)
      show Ex mr_X9_isDigit sc (Cl MT pr sc (d + 0)) (rtE (some (.int r)) (mk X) σ2) (10, [(0, .int x0)], [], mk X, σ)
      refine Ex.blk 1000 rfl ?_
      show Ex mr_X9_isDigit sc (Cl MT pr sc (d + 0)) (rtE (some (.int r)) (mk X) σ2) (15, [(0, .int x0)], [.int 1], mk X, σ)
      refine Ex.pick (lv' := _) [] rfl ?_
      exact lk_X9_isDigit_15 d _ _ h
theorem lk_X0_beginDrive_113 {pr : Ct} {sc : Nat × (Nat → Int32)} {X : En} (d : Nat) {σ2 : St} (σ : St) (h : f_X0_beginDrive_113 σ = some σ2) : Ex mr_X0_beginDrive sc (Cl MT pr sc (d + 1)) (rtE none (mk X) σ2) (113, [], [], mk X, σ) := by
  unfold f_X0_beginDrive_113 at h
  refine Ex.blk 1000 rfl ?_
  cases h
  exact And.intro trivial ⟨rfl, rfl, rfl⟩
theorem lk_X0_beginDrive_103 {pr : Ct} {sc : Nat × (Nat → Int32)} {X : En} (d : Nat) {σ2 : St} (x1 : Int32) (x5 : Int32) (σ : St) (h : f_X0_beginDrive_103 x1 x5 σ = some σ2) : Ex mr_X0_beginDrive sc (Cl MT pr sc (d + 1)) (rtE none (mk X) σ2) (103, [(0, .ref 27), (1, .int x1), (5, .int x5)], [], mk X, σ) := by
  unfold f_X0_beginDrive_103 at h
  refine Ex.blk 1000 rfl ?_
  rcases ite_sp h with ⟨c1, h⟩ | ⟨c1, h⟩
  · refine And.intro (fun hp => absurd c1 hp) (fun _ => ?_)
    show Ex mr_X0_beginDrive sc (Cl MT pr sc (d + 1)) (rtE none (mk X) σ2) (108, [(0, .ref 27), (1, .int x1), (5, .int x5)], [], mk X, σ)
    refine Ex.blk 3 rfl ?_
    obtain ⟨p2, hp2, h⟩ := bind_sp h
    refine Exists.intro none (Exists.intro (mk X) (Exists.intro p2 (And.intro (cl_X0_endDrive (d + 0) hp2) ?_)))
    show Ex mr_X0_beginDrive sc (Cl MT pr sc (d + 1)) (rtE none (mk X) σ2) (113, [(0, .ref 27), (1, .int x1), (5, .int x5)], [], mk X, p2)
    refine Ex.pick (lv' := _) [] rfl ?_
    exact lk_X0_beginDrive_113 d _ h
  · refine And.intro (fun _ => ?_) (fun hn => absurd c1 hn)
    show Ex mr_X0_beginDrive sc (Cl MT pr sc (d + 1)) (rtE none (mk X) σ2) (113, [(0, .ref 27), (1, .int x1), (5, .int x5)], [], mk X, σ)
    refine Ex.pick (lv' := _) [] rfl ?_
    exact lk_X0_beginDrive_113 d _ h
theorem lk_X0_beginDrive_81 {pr : Ct} {sc : Nat × (Nat → Int32)} {X : En} (d : Nat) {σ2 : St} (x1 : Int32) (x3 : Int32) (x5 : Int32) (σ : St) (h : f_X0_beginDrive_81 x1 x3 x5 σ = some σ2) : Ex mr_X0_beginDrive sc (Cl MT pr sc (d + 1)) (rtE none (mk X) σ2) (81, [(0, .ref 27), (1, .int x1), (3, .int x3), (5, .int x5)], [], mk X, σ) := by
  unfold f_X0_beginDrive_81 at h
  refine Ex.blk 5 rfl ?_
  obtain ⟨g1, h⟩ := gd_some h
  refine And.intro ⟨inb_ok g1, isb_1⟩ ?_
  show Ex mr_X0_beginDrive sc (Cl MT pr sc (d + 1)) (rtE none (mk X) σ2) (88, [(0, .ref 27), (1, .int x1), (3, .int x3), (5, .int x5)], [], mk X, (sI σ 32 x1.toNatClampNeg 1))
  refine Ex.blk 5 rfl ?_
  show Ex mr_X0_beginDrive sc (Cl MT pr sc (d + 1)) (rtE none (mk X) σ2) (96, [(0, .ref 27), (1, .int x1), (3, .int x3), (5, .int x5)], [.int x5, .int x3, .int x1, .ref 33], mk X, (sI σ 32 x1.toNatClampNeg 1))
  refine Ex.blk 5 rfl ?_
  obtain ⟨g2, h⟩ := gd_some h
  refine And.intro (inb_ok g2) ?_
  show Ex mr_X0_beginDrive sc (Cl MT pr sc (d + 1)) (rtE none (mk X) σ2) (103, [(0, .ref 27), (1, .int x1), (3, .int x3), (5, .int x5)], [], mk X, (sI (sI σ 32 x1.toNatClampNeg 1) 33 x1.toNatClampNeg (x3 + (x5 * (gI (sI σ 32 x1.toNatClampNeg 1) 27 13)))))
  refine Ex.pick (lv' := _) [0, 1, 3] rfl ?_
  exact lk_X0_beginDrive_103 d _ _ _ h
theorem lk_X0_beginDrive_63 {pr : Ct} {sc : Nat × (Nat → Int32)} {X : En} (d : Nat) {σ2 : St} (x1 : Int32) (x3 : Int32) (σ : St) (h : f_X0_beginDrive_63 x1 x3 σ = some σ2) : Ex mr_X0_beginDrive sc (Cl MT pr sc (d + 1)) (rtE none (mk X) σ2) (63, [(0, .ref 27), (1, .int x1), (3, .int x3)], [], mk X, σ) := by
  unfold f_X0_beginDrive_63 at h
  refine Ex.blk 4 rfl ?_
  obtain ⟨g1, h⟩ := gd_some h
  refine And.intro (inb_ok g1) ?_
  show Ex mr_X0_beginDrive sc (Cl MT pr sc (d + 1)) (rtE none (mk X) σ2) (69, [(0, .ref 27), (1, .int x1), (3, .int x3)], [.int (gI σ 34 x1.toNatClampNeg)], mk X, σ)
  refine Ex.blk 4 rfl ?_
  obtain ⟨g2, h⟩ := gd_some h
  refine And.intro (inb_ok g2) ?_
  show Ex mr_X0_beginDrive sc (Cl MT pr sc (d + 1)) (rtE none (mk X) σ2) (75, [(0, .ref 27), (1, .int x1), (3, .int x3)], [.int (gI σ 28 x1.toNatClampNeg), .int (gI σ 34 x1.toNatClampNeg)], mk X, σ)
  refine Ex.blk 3 rfl ?_
  show Ex mr_X0_beginDrive sc (Cl MT pr sc (d + 1)) (rtE none (mk X) σ2) (81, [(5, .int (abI ((gI σ 34 x1.toNatClampNeg) - (gI σ 28 x1.toNatClampNeg)))), (0, .ref 27), (1, .int x1), (3, .int x3)], [], mk X, σ)
  refine Ex.pick (lv' := _) [1, 2, 3, 0] rfl ?_
  exact lk_X0_beginDrive_81 d _ _ _ _ h
theorem lk_X0_beginDrive_53 {pr : Ct} {sc : Nat × (Nat → Int32)} {X : En} (d : Nat) {σ2 : St} (x1 : Int32) (x3 : Int32) (y0 : Int32) (y1 : Int32) (σ : St) (h : f_X0_beginDrive_53 x1 x3 y0 y1 σ = some σ2) : Ex mr_X0_beginDrive sc (Cl MT pr sc (d + 1)) (rtE none (mk X) σ2) (53, [(0, .ref 27), (1, .int x1), (3, .int x3)], [.int y0, .int y1, .ref 34], mk X, σ) := by
  unfold f_X0_beginDrive_53 at h
  refine Ex.blk 4 rfl ?_
  obtain ⟨g1, h⟩ := gd_some h
  refine And.intro (inb_ok g1) ?_
  show Ex mr_X0_beginDrive sc (Cl MT pr sc (d + 1)) (rtE none (mk X) σ2) (59, [(0, .ref 27), (1, .int x1), (3, .int x3)], [.int (gI σ 29 x1.toNatClampNeg), .int y0, .int y1, .ref 34], mk X, σ)
  refine Ex.blk 2 rfl ?_
  obtain ⟨g2, h⟩ := gd_some h
  refine And.intro (inb_ok g2) ?_
  show Ex mr_X0_beginDrive sc (Cl MT pr sc (d + 1)) (rtE none (mk X) σ2) (63, [(0, .ref 27), (1, .int x1), (3, .int x3)], [], mk X, (sI σ 34 y1.toNatClampNeg (mnI y0 (gI σ 29 x1.toNatClampNeg))))
  exact lk_X0_beginDrive_63 d _ _ _ h
theorem lk_X0_beginDrive_28 {pr : Ct} {sc : Nat × (Nat → Int32)} {X : En} (d : Nat) {σ2 : St} (x1 : Int32) (x3 : Int32) (x4 : Int32) (y0 : Int32) (y1 : Int32) (σ : St) (h : f_X0_beginDrive_28 x1 x3 x4 y0 y1 σ = some σ2) : Ex mr_X0_beginDrive sc (Cl MT pr sc (d + 1)) (rtE none (mk X) σ2) (28, [(0, .ref 27), (1, .int x1), (3, .int x3), (4, .int x4)], [.int y0, .int y1, .ref 35], mk X, σ) := by
  unfold f_X0_beginDrive_28 at h
  refine Ex.blk 1 rfl ?_
  obtain ⟨g1, h⟩ := gd_some h
  refine And.intro (inbz_ok g1) ?_
  show Ex mr_X0_beginDrive sc (Cl MT pr sc (d + 1)) (rtE none (mk X) σ2) (29, [(0, .ref 27), (1, .int x1), (3, .int x3), (4, .int x4)], [], mk X, (sI σ 35 y1.toNatClampNeg y0))
  refine Ex.blk 5 rfl ?_
  show Ex mr_X0_beginDrive sc (Cl MT pr sc (d + 1)) (rtE none (mk X) σ2) (38, [(0, .ref 27), (1, .int x1), (3, .int x3), (4, .int x4)], [.ref 35, .int x1, .ref 34], mk X, (sI σ 35 y1.toNatClampNeg y0))
  refine Ex.blk 2 rfl ?_
  obtain ⟨g2, h⟩ := gd_some h
  refine And.intro (inb_ok g2) ?_
  show Ex mr_X0_beginDrive sc (Cl MT pr sc (d + 1)) (rtE none (mk X) σ2) (40, [(0, .ref 27), (1, .int x1), (3, .int x3), (4, .int x4)], [.int (gI (sI σ 35 y1.toNatClampNeg y0) 35 x1.toNatClampNeg), .int x1, .ref 34], mk X, (sI σ 35 y1.toNatClampNeg y0))
  refine Ex.blk 1000 rfl ?_
  rcases ite_sp h with ⟨c3, h⟩ | ⟨c3, h⟩
  · refine And.intro (fun _ => ?_) (fun hn => absurd c3 hn)
    show Ex mr_X0_beginDrive sc (Cl MT pr sc (d + 1)) (rtE none (mk X) σ2) (51, [(0, .ref 27), (1, .int x1), (3, .int x3), (4, .int x4)], [.int x1, .ref 34], mk X, (sI σ 35 y1.toNatClampNeg y0))
    refine Ex.blk 1000 rfl ?_
    show Ex mr_X0_beginDrive sc (Cl MT pr sc (d + 1)) (rtE none (mk X) σ2) (53, [(0, .ref 27), (1, .int x1), (3, .int x3), (4, .int x4)], [.int x4, .int x1, .ref 34], mk X, (sI σ 35 y1.toNatClampNeg y0))
    refine Ex.pick (lv' := _) [0, 1, 2] rfl ?_
    exact lk_X0_beginDrive_53 d _ _ _ _ _ h
  · refine And.intro (fun hp => absurd hp c3) (fun _ => ?_)
    show Ex mr_X0_beginDrive sc (Cl MT pr sc (d + 1)) (rtE none (mk X) σ2) (43, [(0, .ref 27), (1, .int x1), (3, .int x3), (4, .int x4)], [.int x1, .ref 34], mk X, (sI σ 35 y1.toNatClampNeg y0))
    refine Ex.blk 1000 rfl ?_
    show Ex mr_X0_beginDrive sc (Cl MT pr sc (d + 1)) (rtE none (mk X) σ2) (53, [(0, .ref 27), (1, .int x1), (3, .int x3), (4, .int x4)], [.int (x4 - 10), .int x1, .ref 34], mk X, (sI σ 35 y1.toNatClampNeg y0))
    refine Ex.pick (lv' := _) [0, 1, 2] rfl ?_
    exact lk_X0_beginDrive_53 d _ _ _ _ _ h
theorem lk_X0_beginDrive_10 {pr : Ct} {sc : Nat × (Nat → Int32)} {X : En} (d : Nat) {σ2 : St} (x1 : Int32) (x3 : Int32) (x4 : Int32) (σ : St) (h : f_X0_beginDrive_10 x1 x3 x4 σ = some σ2) : Ex mr_X0_beginDrive sc (Cl MT pr sc (d + 1)) (rtE none (mk X) σ2) (10, [(0, .ref 27), (1, .int x1), (3, .int x3), (4, .int x4)], [], mk X, σ) := by
  unfold f_X0_beginDrive_10 at h
  refine Ex.blk 5 rfl ?_
  obtain ⟨p1, hp1, h⟩ := bind_sp h
  refine Exists.intro (some (.int p1.1)) (Exists.intro (mk X) (Exists.intro p1.2 (And.intro (cl_X9_isDigit (d + 0) hp1) ?_)))
  show Ex mr_X0_beginDrive sc (Cl MT pr sc (d + 1)) (rtE none (mk X) σ2) (20, [(0, .ref 27), (1, .int x1), (3, .int x3), (4, .int x4)], [.int p1.1, .int x1, .ref 35], mk X, p1.2)
  refine Ex.blk 1000 rfl ?_
  rcases ite_sp h with ⟨c1, h⟩ | ⟨c1, h⟩
  · refine And.intro (fun hp => absurd c1 hp) (fun _ => ?_)
    show Ex mr_X0_beginDrive sc (Cl MT pr sc (d + 1)) (rtE none (mk X) σ2) (23, [(0, .ref 27), (1, .int x1), (3, .int x3), (4, .int x4)], [.int x1, .ref 35], mk X, p1.2)
    refine Ex.blk 1000 rfl ?_
    show Ex mr_X0_beginDrive sc (Cl MT pr sc (d + 1)) (rtE none (mk X) σ2) (28, [(0, .ref 27), (1, .int x1), (3, .int x3), (4, .int x4)], [.int 1, .int x1, .ref 35], mk X, p1.2)
    exact lk_X0_beginDrive_28 d _ _ _ _ _ _ h
  · refine And.intro (fun _ => ?_) (fun hn => absurd c1 hn)
    show Ex mr_X0_beginDrive sc (Cl MT pr sc (d + 1)) (rtE none (mk X) σ2) (27, [(0, .ref 27), (1, .int x1), (3, .int x3), (4, .int x4)], [.int x1, .ref 35], mk X, p1.2)
    refine Ex.blk 1000 rfl ?_
    show Ex mr_X0_beginDrive sc (Cl MT pr sc (d + 1)) (rtE none (mk X) σ2) (28, [(0, .ref 27), (1, .int x1), (3, .int x3), (4, .int x4)], [.int 0, .int x1, .ref 35], mk X, p1.2)
    exact lk_X0_beginDrive_28 d _ _ _ _ _ _ h
theorem cl_X0_beginDrive {pr : Ct} {sc : Nat × (Nat → Int32)} {X : En} (d : Nat) {σ2 : St} {x1 : Int32} {x2 : Int32} {x3 : Int32} {σ : St} (h : f_X0_beginDrive x1 x2 x3 σ = some σ2) : Cl MT pr sc (d + 1 + 1) 9 [.ref 27, .int x1, .int x2, .int x3] (mk X) σ none (mk X) σ2 := by
  refine cl_of mr_X0_beginDrive rfl rfl ?_
  unfold f_X0_beginDrive at h
  refine Ex.blk 4 rfl ?_
  obtain ⟨g1, h⟩ := gd_some h
  refine And.intro (inb_ok g1) ?_
  show Ex mr_X0_beginDrive sc (Cl MT pr sc (d + 1)) (rtE none (mk X) σ2) (6, [(0, .ref 27), (1, .int x1), (2, .int x2), (3, .int x3)], [.int (gI σ 28 x1.toNatClampNeg)], mk X, σ)
  refine Ex.blk 3 rfl ?_
  show Ex mr_X0_beginDrive sc (Cl MT pr sc (d + 1)) (rtE none (mk X) σ2) (10, [(4, .int ((gI σ 28 x1.toNatClampNeg) + x2)), (0, .ref 27), (1, .int x1), (2, .int x2), (3, .int x3)], [], mk X, σ)
  refine Ex.pick (lv' := _) [1, 2, 4, 0] rfl ?_
  exact lk_X0_beginDrive_10 d _ _ _ _ h
theorem lk_X0_work_70 {pr : Ct} {sc : Nat × (Nat → Int32)} {X : En} (d : Nat) {σ2 : St} (σ : St) (h : f_X0_work_70 σ = some σ2) : Ex mr_X0_work sc (Cl MT pr sc (d + 2)) (rtE none (mk X) σ2) (70, [], [], mk X, σ) := by
  unfold f_X0_work_70 at h
  refine Ex.blk 1000 rfl ?_
  cases h
  exact And.intro trivial ⟨rfl, rfl, rfl⟩
theorem lk_X0_work_27 {pr : Ct} {sc : Nat × (Nat → Int32)} {X : En} (d : Nat) {σ2 : St} : ∀ (n : Nat) (x1 : Int32) (x2 : Int32) (x3 : Int32) (σ : St), f_X0_work_27 n x1 x2 x3 σ = some σ2 → Ex mr_X0_work sc (Cl MT pr sc (d + 2)) (rtE none (mk X) σ2) (27, [(0, .ref 27), (1, .int x1), (2, .int x2), (3, .int x3)], [], mk X, σ) := by
  intro n
  induction n with
  | zero =>
    intro x1 x2 x3 σ h
    cases h
  | succ n ih =>
    intro x1 x2 x3 σ h
    simp only [f_X0_work_27] at h
    refine Ex.blk 1000 rfl ?_
    rcases ite_sp h with ⟨c1, h⟩ | ⟨c1, h⟩
    · refine And.intro (fun _ => ?_) (fun hn => absurd c1 hn)
      show Ex mr_X0_work sc (Cl MT pr sc (d + 2)) (rtE none (mk X) σ2) (70, [(0, .ref 27), (1, .int x1), (2, .int x2), (3, .int x3)], [], mk X, σ)
      refine Ex.pick (lv' := _) [] rfl ?_
      exact lk_X0_work_70 d _ h
    · refine And.intro (fun hp => absurd hp c1) (fun _ => ?_)
      show Ex mr_X0_work sc (Cl MT pr sc (d + 2)) (rtE none (mk X) σ2) (32, [(0, .ref 27), (1, .int x1), (2, .int x2), (3, .int x3)], [], mk X, σ)
      refine Ex.blk 4 rfl ?_
      obtain ⟨g2, h⟩ := gd_some h
      refine And.intro (inb_ok g2) ?_
      show Ex mr_X0_work sc (Cl MT pr sc (d + 2)) (rtE none (mk X) σ2) (38, [(0, .ref 27), (1, .int x1), (2, .int x2), (3, .int x3)], [.int (gI σ 32 x1.toNatClampNeg)], mk X, σ)
      refine Ex.blk 1000 rfl ?_
      rcases ite_sp h with ⟨c3, h⟩ | ⟨c3, h⟩
      · refine And.intro (fun hp => absurd c3 hp) (fun _ => ?_)
        show Ex mr_X0_work sc (Cl MT pr sc (d + 2)) (rtE none (mk X) σ2) (41, [(0, .ref 27), (1, .int x1), (2, .int x2), (3, .int x3)], [], mk X, σ)
        refine Ex.blk 4 rfl ?_
        obtain ⟨p1, hp1, h⟩ := bind_sp h
        refine Exists.intro (some (.int p1.1)) (Exists.intro (mk X) (Exists.intro p1.2 (And.intro (cl_X0_nextDrive (d + 1) hp1) ?_)))
        show Ex mr_X0_work sc (Cl MT pr sc (d + 2)) (rtE none (mk X) σ2) (47, [(0, .ref 27), (1, .int x1), (2, .int x2), (3, .int x3)], [.int p1.1], mk X, p1.2)
        refine Ex.blk 1000 rfl ?_
        rcases ite_sp h with ⟨c4, h⟩ | ⟨c4, h⟩
        · refine And.intro (fun hp => absurd c4 hp) (fun _ => ?_)
          show Ex mr_X0_work sc (Cl MT pr sc (d + 2)) (rtE none (mk X) σ2) (55, [(4, .int p1.1), (0, .ref 27), (1, .int x1), (2, .int x2), (3, .int x3)], [], mk X, p1.2)
          refine Ex.blk 1000 rfl ?_
          cases h
          exact And.intro trivial ⟨rfl, rfl, rfl⟩
        · refine And.intro (fun _ => ?_) (fun hn => absurd c4 hn)
          show Ex mr_X0_work sc (Cl MT pr sc (d + 2)) (rtE none (mk X) σ2) (56, [(4, .int p1.1), (0, .ref 27), (1, .int x1), (2, .int x2), (3, .int x3)], [], mk X, p1.2)
          refine Ex.blk 5 rfl ?_
          obtain ⟨p2, hp2, h⟩ := bind_sp h
          refine Exists.intro none (Exists.intro (mk X) (Exists.intro p2 (And.intro (cl_X0_beginDrive (d + 0) hp2) ?_)))
          show Ex mr_X0_work sc (Cl MT pr sc (d + 2)) (rtE none (mk X) σ2) (64, [(4, .int p1.1), (0, .ref 27), (1, .int x1), (2, .int x2), (3, .int x3)], [], mk X, p2)
          refine Ex.blk 1000 rfl ?_
          show Ex mr_X0_work sc (Cl MT pr sc (d + 2)) (rtE none (mk X) σ2) (27, [(3, .int (x3 + 1)), (4, .int p1.1), (0, .ref 27), (1, .int x1), (2, .int x2)], [], mk X, p2)
          refine Ex.pick (lv' := _) [2, 3, 4, 0] rfl ?_
          exact ih _ _ _ _ h
      · refine And.intro (fun _ => ?_) (fun hn => absurd c3 hn)
        show Ex mr_X0_work sc (Cl MT pr sc (d + 2)) (rtE none (mk X) σ2) (70, [(0, .ref 27), (1, .int x1), (2, .int x2), (3, .int x3)], [], mk X, σ)
        refine Ex.pick (lv' := _) [] rfl ?_
        exact lk_X0_work_70 d _ h
theorem lk_X0_work_25 {pr : Ct} {sc : Nat × (Nat → Int32)} {X : En} (d : Nat) {σ2 : St} (x1 : Int32) (x2 : Int32) (σ : St) (h : f_X0_work_25 x1 x2 σ = some σ2) : Ex mr_X0_work sc (Cl MT pr sc (d + 2)) (rtE none (mk X) σ2) (25, [(0, .ref 27), (1, .int x1), (2, .int x2)], [], mk X, σ) := by
  unfold f_X0_work_25 at h
  refine Ex.blk 1000 rfl ?_
  show Ex mr_X0_work sc (Cl MT pr sc (d + 2)) (rtE none (mk X) σ2) (27, [(3, .int 0), (0, .ref 27), (1, .int x1), (2, .int x2)], [], mk X, σ)
  refine Ex.pick (lv' := _) [1, 2, 3, 0] rfl ?_
  exact lk_X0_work_27 d FU _ _ _ _ h
theorem cl_X0_work {pr : Ct} {sc : Nat × (Nat → Int32)} {X : En} (d : Nat) {σ2 : St} {x1 : Int32} {x2 : Int32} {σ : St} (h : f_X0_work x1 x2 σ = some σ2) : Cl MT pr sc (d + 2 + 1) 10 [.ref 27, .int x1, .int x2] (mk X) σ none (mk X) σ2 := by
  refine cl_of mr_X0_work rfl rfl ?_
  unfold f_X0_work at h
  refine Ex.blk 4 rfl ?_
  obtain ⟨g1, h⟩ := gd_some h
  refine And.intro (inb_ok g1) ?_
  show Ex mr_X0_work sc (Cl MT pr sc (d + 2)) (rtE none (mk X) σ2) (6, [(0, .ref 27), (1, .int x1), (2, .int x2)], [.int (gI σ 32 x1.toNatClampNeg)], mk X, σ)
  refine Ex.blk 1000 rfl ?_
  rcases ite_sp h with ⟨c2, h⟩ | ⟨c2, h⟩
  · refine And.intro (fun _ => ?_) (fun hn => absurd c2 hn)
    show Ex mr_X0_work sc (Cl MT pr sc (d + 2)) (rtE none (mk X) σ2) (25, [(0, .ref 27), (1, .int x1), (2, .int x2)], [], mk X, σ)
    exact lk_X0_work_25 d _ _ _ h
  · refine And.intro (fun hp => absurd hp c2) (fun _ => ?_)
    show Ex mr_X0_work sc (Cl MT pr sc (d + 2)) (rtE none (mk X) σ2) (9, [(0, .ref 27), (1, .int x1), (2, .int x2)], [], mk X, σ)
    refine Ex.blk 4 rfl ?_
    obtain ⟨g3, h⟩ := gd_some h
    refine And.intro (inb_ok g3) ?_
    show Ex mr_X0_work sc (Cl MT pr sc (d + 2)) (rtE none (mk X) σ2) (15, [(0, .ref 27), (1, .int x1), (2, .int x2)], [.int (gI σ 33 x1.toNatClampNeg)], mk X, σ)
    refine Ex.blk 1000 rfl ?_
    rcases ite_sp h with ⟨c4, h⟩ | ⟨c4, h⟩
    · refine And.intro (fun _ => ?_) (fun hn => absurd c4 hn)
      show Ex mr_X0_work sc (Cl MT pr sc (d + 2)) (rtE none (mk X) σ2) (20, [(0, .ref 27), (1, .int x1), (2, .int x2)], [], mk X, σ)
      refine Ex.blk 3 rfl ?_
      obtain ⟨p3, hp3, h⟩ := bind_sp h
      refine Exists.intro none (Exists.intro (mk X) (Exists.intro p3 (And.intro (cl_X0_endDrive (d + 1) hp3) ?_)))
      show Ex mr_X0_work sc (Cl MT pr sc (d + 2)) (rtE none (mk X) σ2) (25, [(0, .ref 27), (1, .int x1), (2, .int x2)], [], mk X, p3)
      exact lk_X0_work_25 d _ _ _ h
    · refine And.intro (fun hp => absurd hp c4) (fun _ => ?_)
      show Ex mr_X0_work sc (Cl MT pr sc (d + 2)) (rtE none (mk X) σ2) (19, [(0, .ref 27), (1, .int x1), (2, .int x2)], [], mk X, σ)
      refine Ex.blk 1000 rfl ?_
      cases h
      exact And.intro trivial ⟨rfl, rfl, rfl⟩
theorem lk_X0_sendOut_77 {pr : Ct} {sc : Nat × (Nat → Int32)} {X : En} (d : Nat) {σ2 : St} (σ : St) (h : f_X0_sendOut_77 σ = some σ2) : Ex mr_X0_sendOut sc (Cl MT pr sc (d + 0)) (rtE none (mk X) σ2) (77, [], [], mk X, σ) := by
  unfold f_X0_sendOut_77 at h
  refine Ex.blk 1000 rfl ?_
  cases h
  exact And.intro trivial ⟨rfl, rfl, rfl⟩
theorem lk_X0_sendOut_71 {pr : Ct} {sc : Nat × (Nat → Int32)} {X : En} (d : Nat) {σ2 : St} (k2 : Int32 → Int32 → Int32 → St → Option (St)) (hk2 : ∀ (x1 : Int32) (x2 : Int32) (x3 : Int32) (σ : St), k2 x1 x2 x3 σ = some σ2 → Ex mr_X0_sendOut sc (Cl MT pr sc (d + 0)) (rtE none (mk X) σ2) (2, [(0, .ref 27), (1, .int x1), (2, .int x2), (3, .int x3)], [], mk X, σ)) (x1 : Int32) (x2 : Int32) (x3 : Int32) (σ : St) (h : f_X0_sendOut_71 k2 x1 x2 x3 σ = some σ2) : Ex mr_X0_sendOut sc (Cl MT pr sc (d + 0)) (rtE none (mk X) σ2) (71, [(0, .ref 27), (1, .int x1), (2, .int x2), (3, .int x3)], [], mk X, σ) := by
  unfold f_X0_sendOut_71 at h
  refine Ex.blk 1000 rfl ?_
  show Ex mr_X0_sendOut sc (Cl MT pr sc (d + 0)) (rtE none (mk X) σ2) (2, [(3, .int (x3 + 1)), (0, .ref 27), (1, .int x1), (2, .int x2)], [], mk X, σ)
  refine Ex.pick (lv' := _) [1, 2, 3, 0] rfl ?_
  exact hk2 _ _ _ _ h
theorem lk_X0_sendOut_33 {pr : Ct} {sc : Nat × (Nat → Int32)} {X : En} (d : Nat) {σ2 : St} (k2 : Int32 → Int32 → Int32 → St → Option (St)) (hk2 : ∀ (x1 : Int32) (x2 : Int32) (x3 : Int32) (σ : St), k2 x1 x2 x3 σ = some σ2 → Ex mr_X0_sendOut sc (Cl MT pr sc (d + 0)) (rtE none (mk X) σ2) (2, [(0, .ref 27), (1, .int x1), (2, .int x2), (3, .int x3)], [], mk X, σ)) (x1 : Int32) (x2 : Int32) (x3 : Int32) (y0 : Int32) (σ : St) (h : f_X0_sendOut_33 k2 x1 x2 x3 y0 σ = some σ2) : Ex mr_X0_sendOut sc (Cl MT pr sc (d + 0)) (rtE none (mk X) σ2) (33, [(0, .ref 27), (1, .int x1), (2, .int x2), (3, .int x3)], [.int y0], mk X, σ) := by
  unfold f_X0_sendOut_33 at h
  refine Ex.blk 5 rfl ?_
  obtain ⟨g1, h⟩ := gd_some h
  refine And.intro (inb_ok g1) ?_
  show Ex mr_X0_sendOut sc (Cl MT pr sc (d + 0)) (rtE none (mk X) σ2) (42, [(4, .int y0), (0, .ref 27), (1, .int x1), (2, .int x2), (3, .int x3)], [.int (gI σ 36 y0.toNatClampNeg)], mk X, σ)
  refine Ex.blk 1000 rfl ?_
  rcases ite_sp h with ⟨c2, h⟩ | ⟨c2, h⟩
  · refine And.intro (fun _ => ?_) (fun hn => absurd c2 hn)
    show Ex mr_X0_sendOut sc (Cl MT pr sc (d + 0)) (rtE none (mk X) σ2) (71, [(4, .int y0), (0, .ref 27), (1, .int x1), (2, .int x2), (3, .int x3)], [], mk X, σ)
    refine Ex.pick (lv' := _) [1, 2, 3, 4] rfl ?_
    exact lk_X0_sendOut_71 d _ hk2 _ _ _ _ h
  · refine And.intro (fun hp => absurd hp c2) (fun _ => ?_)
    show Ex mr_X0_sendOut sc (Cl MT pr sc (d + 0)) (rtE none (mk X) σ2) (45, [(4, .int y0), (0, .ref 27), (1, .int x1), (2, .int x2), (3, .int x3)], [], mk X, σ)
    refine Ex.blk 5 rfl ?_
    obtain ⟨g3, h⟩ := gd_some h
    refine And.intro ⟨inb_ok g3, isb_0⟩ ?_
    show Ex mr_X0_sendOut sc (Cl MT pr sc (d + 0)) (rtE none (mk X) σ2) (53, [(4, .int y0), (0, .ref 27), (1, .int x1), (2, .int x2), (3, .int x3)], [], mk X, (sI σ 36 y0.toNatClampNeg 0))
    refine Ex.blk 5 rfl ?_
    obtain ⟨g4, h⟩ := gd_some h
    refine And.intro (inb_ok g4) ?_
    show Ex mr_X0_sendOut sc (Cl MT pr sc (d + 0)) (rtE none (mk X) σ2) (61, [(4, .int y0), (0, .ref 27), (1, .int x1), (2, .int x2), (3, .int x3)], [], mk X, (sI (sI σ 36 y0.toNatClampNeg 0) 37 y0.toNatClampNeg x1))
    refine Ex.blk 5 rfl ?_
    show Ex mr_X0_sendOut sc (Cl MT pr sc (d + 0)) (rtE none (mk X) σ2) (68, [(4, .int y0), (0, .ref 27), (1, .int x1), (2, .int x2), (3, .int x3)], [.int ((gI (sI (sI σ 36 y0.toNatClampNeg 0) 37 y0.toNatClampNeg x1) 27 14) - 1), .ref 27], mk X, (sI (sI σ 36 y0.toNatClampNeg 0) 37 y0.toNatClampNeg x1))
    refine Ex.blk 1000 rfl ?_
    show Ex mr_X0_sendOut sc (Cl MT pr sc (d + 0)) (rtE none (mk X) σ2) (71, [(4, .int y0), (0, .ref 27), (1, .int x1), (2, .int x2), (3, .int x3)], [], mk X, (sI (sI (sI σ 36 y0.toNatClampNeg 0) 37 y0.toNatClampNeg x1) 27 14 ((gI (sI (sI σ 36 y0.toNatClampNeg 0) 37 y0.toNatClampNeg x1) 27 14) - 1)))
    refine Ex.pick (lv' := _) [1, 2, 3, 4] rfl ?_
    exact lk_X0_sendOut_71 d _ hk2 _ _ _ _ h
theorem lk_X0_sendOut_2 {pr : Ct} {sc : Nat × (Nat → Int32)} {X : En} (d : Nat) {σ2 : St} : ∀ (n : Nat) (x1 : Int32) (x2 : Int32) (x3 : Int32) (σ : St), f_X0_sendOut_2 n x1 x2 x3 σ = some σ2 → Ex mr_X0_sendOut sc (Cl MT pr sc (d + 0)) (rtE none (mk X) σ2) (2, [(0, .ref 27), (1, .int x1), (2, .int x2), (3, .int x3)], [], mk X, σ) := by
  intro n
  induction n with
  | zero =>
    intro x1 x2 x3 σ h
    cases h
  | succ n ih =>
    intro x1 x2 x3 σ h
    simp only [f_X0_sendOut_2] at h
    refine Ex.blk 1000 rfl ?_
    rcases ite_sp h with ⟨c1, h⟩ | ⟨c1, h⟩
    · refine And.intro (fun _ => ?_) (fun hn => absurd c1 hn)
      show Ex mr_X0_sendOut sc (Cl MT pr sc (d + 0)) (rtE none (mk X) σ2) (77, [(0, .ref 27), (1, .int x1), (2, .int x2), (3, .int x3)], [], mk X, σ)
      refine Ex.pick (lv' := _) [] rfl ?_
      exact lk_X0_sendOut_77 d _ h
    · refine And.intro (fun hp => absurd hp c1) (fun _ => ?_)
      show Ex mr_X0_sendOut sc (Cl MT pr sc (d + 0)) (rtE none (mk X) σ2) (10, [(0, .ref 27), (1, .int x1), (2, .int x2), (3, .int x3)], [], mk X, σ)
      refine Ex.blk 1000 rfl ?_
      rcases ite_sp h with ⟨c2, h⟩ | ⟨c2, h⟩
      · refine And.intro (fun _ => ?_) (fun hn => absurd c2 hn)
        show Ex mr_X0_sendOut sc (Cl MT pr sc (d + 0)) (rtE none (mk X) σ2) (77, [(0, .ref 27), (1, .int x1), (2, .int x2), (3, .int x3)], [], mk X, σ)
        refine Ex.pick (lv' := _) [] rfl ?_
        exact lk_X0_sendOut_77 d _ h
      · refine And.intro (fun hp => absurd hp c2) (fun _ => ?_)
        show Ex mr_X0_sendOut sc (Cl MT pr sc (d + 0)) (rtE none (mk X) σ2) (17, [(0, .ref 27), (1, .int x1), (2, .int x2), (3, .int x3)], [], mk X, σ)
        refine Ex.blk 1000 rfl ?_
        rcases ite_sp h with ⟨c3, h⟩ | ⟨c3, h⟩
        · refine And.intro (fun hp => absurd c3 hp) (fun _ => ?_)
          show Ex mr_X0_sendOut sc (Cl MT pr sc (d + 0)) (rtE none (mk X) σ2) (21, [(0, .ref 27), (1, .int x1), (2, .int x2), (3, .int x3)], [], mk X, σ)
          refine Ex.blk 1000 rfl ?_
          show Ex mr_X0_sendOut sc (Cl MT pr sc (d + 0)) (rtE none (mk X) σ2) (33, [(0, .ref 27), (1, .int x1), (2, .int x2), (3, .int x3)], [.int x3], mk X, σ)
          exact lk_X0_sendOut_33 d _ ih _ _ _ _ _ h
        · refine And.intro (fun _ => ?_) (fun hn => absurd c3 hn)
          show Ex mr_X0_sendOut sc (Cl MT pr sc (d + 0)) (rtE none (mk X) σ2) (25, [(0, .ref 27), (1, .int x1), (2, .int x2), (3, .int x3)], [], mk X, σ)
          refine Ex.blk 5 rfl ?_
          show Ex mr_X0_sendOut sc (Cl MT pr sc (d + 0)) (rtE none (mk X) σ2) (32, [(0, .ref 27), (1, .int x1), (2, .int x2), (3, .int x3)], [.int x3, .int ((gI σ 27 10) - 1)], mk X, σ)
          refine Ex.blk 1000 rfl ?_
          show Ex mr_X0_sendOut sc (Cl MT pr sc (d + 0)) (rtE none (mk X) σ2) (33, [(0, .ref 27), (1, .int x1), (2, .int x2), (3, .int x3)], [.int (((gI σ 27 10) - 1) - x3)], mk X, σ)
          exact lk_X0_sendOut_33 d _ ih _ _ _ _ _ h
theorem cl_X0_sendOut {pr : Ct} {sc : Nat × (Nat → Int32)} {X : En} (d : Nat) {σ2 : St} {x1 : Int32} {x2 : Int32} {σ : St} (h : f_X0_sendOut x1 x2 σ = some σ2) : Cl MT pr sc (d + 0 + 1) 11 [.ref 27, .int x1, .int x2] (mk X) σ none (mk X) σ2 := by
  refine cl_of mr_X0_sendOut rfl rfl ?_
  unfold f_X0_sendOut at h
  refine Ex.blk 1000 rfl ?_
  show Ex mr_X0_sendOut sc (Cl MT pr sc (d + 0)) (rtE none (mk X) σ2) (2, [(3, .int 0), (0, .ref 27), (1, .int x1), (2, .int x2)], [], mk X, σ)
  refine Ex.pick (lv' := _) [1, 2, 3, 0] rfl ?_
  exact lk_X0_sendOut_2 d FU _ _ _ _ h
theorem lk_X0_isAtRest_47 {pr : Ct} {sc : Nat × (Nat → Int32)} {X : En} (d : Nat) {r : Int32} {σ2 : St} (σ : St) (h : f_X0_isAtRest_47 σ = some (r, σ2)) : Ex mr_X0_isAtRest sc (Cl MT pr sc (d + 0)) (rtE (some (.int r)) (mk X) σ2) (47, [], [], mk X, σ) := by
  unfold f_X0_isAtRest_47 at h
  refine Ex.blk 1000 rfl ?_
  cases h
  exact And.intro isb_0 ⟨rfl, rfl, rfl⟩
theorem lk_X0_isAtRest_2 {pr : Ct} {sc : Nat × (Nat → Int32)} {X : En} (d : Nat) {r : Int32} {σ2 : St} : ∀ (n : Nat) (x1 : Int32) (σ : St), f_X0_isAtRest_2 n x1 σ = some (r, σ2) → Ex mr_X0_isAtRest sc (Cl MT pr sc (d + 0)) (rtE (some (.int r)) (mk X) σ2) (2, [(0, .ref 27), (1, .int x1)], [], mk X, σ) := by
  intro n
  induction n with
  | zero =>
    intro x1 σ h
    cases h
  | succ n ih =>
    intro x1 σ h
    simp only [f_X0_isAtRest_2] at h
    refine Ex.blk 1000 rfl ?_
    rcases ite_sp h with ⟨c1, h⟩ | ⟨c1, h⟩
    · refine And.intro (fun _ => ?_) (fun hn => absurd c1 hn)
      show Ex mr_X0_isAtRest sc (Cl MT pr sc (d + 0)) (rtE (some (.int r)) (mk X) σ2) (55, [(0, .ref 27), (1, .int x1)], [], mk X, σ)
      refine Ex.blk 1000 rfl ?_
      cases h
      exact And.intro isb_1 ⟨rfl, rfl, rfl⟩
    · refine And.intro (fun hp => absurd hp c1) (fun _ => ?_)
      show Ex mr_X0_isAtRest sc (Cl MT pr sc (d + 0)) (rtE (some (.int r)) (mk X) σ2) (10, [(0, .ref 27), (1, .int x1)], [], mk X, σ)
      refine Ex.blk 4 rfl ?_
      obtain ⟨g2, h⟩ := gd_some h
      refine And.intro (inb_ok g2) ?_
      show Ex mr_X0_isAtRest sc (Cl MT pr sc (d + 0)) (rtE (some (.int r)) (mk X) σ2) (16, [(0, .ref 27), (1, .int x1)], [.int (gI σ 32 x1.toNatClampNeg)], mk X, σ)
      refine Ex.blk 1000 rfl ?_
      rcases ite_sp h with ⟨c3, h⟩ | ⟨c3, h⟩
      · refine And.intro (fun hp => absurd c3 hp) (fun _ => ?_)
        show Ex mr_X0_isAtRest sc (Cl MT pr sc (d + 0)) (rtE (some (.int r)) (mk X) σ2) (19, [(0, .ref 27), (1, .int x1)], [], mk X, σ)
        refine Ex.blk 4 rfl ?_
        obtain ⟨g4, h⟩ := gd_some h
        refine And.intro (inb_ok g4) ?_
        show Ex mr_X0_isAtRest sc (Cl MT pr sc (d + 0)) (rtE (some (.int r)) (mk X) σ2) (25, [(0, .ref 27), (1, .int x1)], [.int (gI σ 36 x1.toNatClampNeg)], mk X, σ)
        refine Ex.blk 1000 rfl ?_
        rcases ite_sp h with ⟨c5, h⟩ | ⟨c5, h⟩
        · refine And.intro (fun hp => absurd c5 hp) (fun _ => ?_)
          show Ex mr_X0_isAtRest sc (Cl MT pr sc (d + 0)) (rtE (some (.int r)) (mk X) σ2) (28, [(0, .ref 27), (1, .int x1)], [], mk X, σ)
          refine Ex.blk 4 rfl ?_
          obtain ⟨g6, h⟩ := gd_some h
          refine And.intro (inb_ok g6) ?_
          show Ex mr_X0_isAtRest sc (Cl MT pr sc (d + 0)) (rtE (some (.int r)) (mk X) σ2) (34, [(0, .ref 27), (1, .int x1)], [.int (gI σ 37 x1.toNatClampNeg)], mk X, σ)
          refine Ex.blk 1000 rfl ?_
          rcases ite_sp h with ⟨c7, h⟩ | ⟨c7, h⟩
          · refine And.intro (fun hp => absurd c7 hp) (fun _ => ?_)
            show Ex mr_X0_isAtRest sc (Cl MT pr sc (d + 0)) (rtE (some (.int r)) (mk X) σ2) (38, [(0, .ref 27), (1, .int x1)], [], mk X, σ)
            refine Ex.blk 4 rfl ?_
            obtain ⟨g8, h⟩ := gd_some h
            refine And.intro (inb_ok g8) ?_
            show Ex mr_X0_isAtRest sc (Cl MT pr sc (d + 0)) (rtE (some (.int r)) (mk X) σ2) (44, [(0, .ref 27), (1, .int x1)], [.int (gI σ 31 x1.toNatClampNeg)], mk X, σ)
            refine Ex.blk 1000 rfl ?_
            rcases ite_sp h with ⟨c9, h⟩ | ⟨c9, h⟩
            · refine And.intro (fun _ => ?_) (fun hn => absurd c9 hn)
              show Ex mr_X0_isAtRest sc (Cl MT pr sc (d + 0)) (rtE (some (.int r)) (mk X) σ2) (49, [(0, .ref 27), (1, .int x1)], [], mk X, σ)
              refine Ex.blk 1000 rfl ?_
              show Ex mr_X0_isAtRest sc (Cl MT pr sc (d + 0)) (rtE (some (.int r)) (mk X) σ2) (2, [(1, .int (x1 + 1)), (0, .ref 27)], [], mk X, σ)
              refine Ex.pick (lv' := _) [1, 0] rfl ?_
              exact ih _ _ h
            · refine And.intro (fun hp => absurd hp c9) (fun _ => ?_)
              show Ex mr_X0_isAtRest sc (Cl MT pr sc (d + 0)) (rtE (some (.int r)) (mk X) σ2) (47, [(0, .ref 27), (1, .int x1)], [], mk X, σ)
              refine Ex.pick (lv' := _) [] rfl ?_
              exact lk_X0_isAtRest_47 d _ h
          · refine And.intro (fun _ => ?_) (fun hn => absurd c7 hn)
            show Ex mr_X0_isAtRest sc (Cl MT pr sc (d + 0)) (rtE (some (.int r)) (mk X) σ2) (47, [(0, .ref 27), (1, .int x1)], [], mk X, σ)
            refine Ex.pick (lv' := _) [] rfl ?_
            exact lk_X0_isAtRest_47 d _ h
        · refine And.intro (fun _ => ?_) (fun hn => absurd c5 hn)
          show Ex mr_X0_isAtRest sc (Cl MT pr sc (d + 0)) (rtE (some (.int r)) (mk X) σ2) (47, [(0, .ref 27), (1, .int x1)], [], mk X, σ)
          refine Ex.pick (lv' := _) [] rfl ?_
          exact lk_X0_isAtRest_47 d _ h
      · refine And.intro (fun _ => ?_) (fun hn => absurd c3 hn)
        show Ex mr_X0_isAtRest sc (Cl MT pr sc (d + 0)) (rtE (some (.int r)) (mk X) σ2) (47, [(0, .ref 27), (1, .int x1)], [], mk X, σ)
        refine Ex.pick (lv' := _) [] rfl ?_
        exact lk_X0_isAtRest_47 d _ h
theorem cl_X0_isAtRest {pr : Ct} {sc : Nat × (Nat → Int32)} {X : En} (d : Nat) {r : Int32} {σ2 : St} {σ : St} (h : f_X0_isAtRest σ = some (r, σ2)) : Cl MT pr sc (d + 0 + 1) 12 [.ref 27] (mk X) σ (some (.int r)) (mk X) σ2 := by
  refine cl_of mr_X0_isAtRest rfl rfl ?_
  unfold f_X0_isAtRest at h
  refine Ex.blk 1000 rfl ?_
  show Ex mr_X0_isAtRest sc (Cl MT pr sc (d + 0)) (rtE (some (.int r)) (mk X) σ2) (2, [(1, .int 0), (0, .ref 27)], [], mk X, σ)
  refine Ex.pick (lv' := _) [1, 0] rfl ?_
  exact lk_X0_isAtRest_2 d FU _ _ h
theorem lk_X0_minuteOfRest_89 {pr : Ct} {sc : Nat × (Nat → Int32)} {X : En} (d : Nat) {r : Int32} {σ2 : St} (k21 : Int32 → Int32 → Int32 → St → Option (Int32 × St)) (hk21 : ∀ (x2 : Int32) (x5 : Int32) (x6 : Int32) (σ : St), k21 x2 x5 x6 σ = some (r, σ2) → Ex mr_X0_minuteOfRest sc (Cl MT pr sc (d + 3)) (rtE (some (.int r)) (mk X) σ2) (21, [(0, .ref 27), (2, .int x2), (5, .int x5), (6, .int x6)], [], mk X, σ)) (x2 : Int32) (x5 : Int32) (x6 : Int32) (σ : St) (h : f_X0_minuteOfRest_89 k21 x2 x5 x6 σ = some (r, σ2)) : Ex mr_X0_minuteOfRest sc (Cl MT pr sc (d + 3)) (rtE (some (.int r)) (mk X) σ2) (89, [(0, .ref 27), (2, .int x2), (5, .int x5), (6, .int x6)], [], mk X, σ) := by
  unfold f_X0_minuteOfRest_89 at h
  refine Ex.blk 1000 rfl ?_
  show Ex mr_X0_minuteOfRest sc (Cl MT pr sc (d + 3)) (rtE (some (.int r)) (mk X) σ2) (21, [(6, .int (x6 + 1)), (0, .ref 27), (2, .int x2), (5, .int x5)], [], mk X, σ)
  refine Ex.pick (lv' := _) [1, 2, 3, 0] rfl ?_
  exact hk21 _ _ _ _ h
theorem lk_X0_minuteOfRest_37 {pr : Ct} {sc : Nat × (Nat → Int32)} {X : En} (d : Nat) {r : Int32} {σ2 : St} (k21 : Int32 → Int32 → Int32 → St → Option (Int32 × St)) (hk21 : ∀ (x2 : Int32) (x5 : Int32) (x6 : Int32) (σ : St), k21 x2 x5 x6 σ = some (r, σ2) → Ex mr_X0_minuteOfRest sc (Cl MT pr sc (d + 3)) (rtE (some (.int r)) (mk X) σ2) (21, [(0, .ref 27), (2, .int x2), (5, .int x5), (6, .int x6)], [], mk X, σ)) : ∀ (n : Nat) (x2 : Int32) (x5 : Int32) (x6 : Int32) (x7 : Int32) (σ : St), f_X0_minuteOfRest_37 k21 n x2 x5 x6 x7 σ = some (r, σ2) → Ex mr_X0_minuteOfRest sc (Cl MT pr sc (d + 3)) (rtE (some (.int r)) (mk X) σ2) (37, [(0, .ref 27), (2, .int x2), (5, .int x5), (6, .int x6), (7, .int x7)], [], mk X, σ) := by
  intro n
  induction n with
  | zero =>
    intro x2 x5 x6 x7 σ h
    cases h
  | succ n ih =>
    intro x2 x5 x6 x7 σ h
    simp only [f_X0_minuteOfRest_37] at h
    refine Ex.blk 1000 rfl ?_
    rcases ite_sp h with ⟨c1, h⟩ | ⟨c1, h⟩
    · refine And.intro (fun _ => ?_) (fun hn => absurd c1 hn)
      show Ex mr_X0_minuteOfRest sc (Cl MT pr sc (d + 3)) (rtE (some (.int r)) (mk X) σ2) (60, [(0, .ref 27), (2, .int x2), (5, .int x5), (6, .int x6), (7, .int x7)], [], mk X, σ)
      refine Ex.blk 5 rfl ?_
      show Ex mr_X0_minuteOfRest sc (Cl MT pr sc (d + 3)) (rtE (some (.int r)) (mk X) σ2) (67, [(0, .ref 27), (2, .int x2), (5, .int x5), (6, .int x6), (7, .int x7)], [.int x2, .int (x6 + x5), .ref 27], mk X, σ)
      refine Ex.blk 1 rfl ?_
      obtain ⟨p2, hp2, h⟩ := bind_sp h
      refine Exists.intro none (Exists.intro (mk X) (Exists.intro p2 (And.intro (cl_X0_sendOut (d + 2) hp2) ?_)))
      show Ex mr_X0_minuteOfRest sc (Cl MT pr sc (d + 3)) (rtE (some (.int r)) (mk X) σ2) (70, [(0, .ref 27), (2, .int x2), (5, .int x5), (6, .int x6), (7, .int x7)], [], mk X, p2)
      refine Ex.blk 1000 rfl ?_
      rcases ite_sp h with ⟨c2, h⟩ | ⟨c2, h⟩
      · refine And.intro (fun _ => ?_) (fun hn => absurd c2 hn)
        show Ex mr_X0_minuteOfRest sc (Cl MT pr sc (d + 3)) (rtE (some (.int r)) (mk X) σ2) (89, [(0, .ref 27), (2, .int x2), (5, .int x5), (6, .int x6), (7, .int x7)], [], mk X, p2)
        refine Ex.pick (lv' := _) [0, 1, 2, 3] rfl ?_
        exact lk_X0_minuteOfRest_89 d _ hk21 _ _ _ _ h
      · refine And.intro (fun hp => absurd hp c2) (fun _ => ?_)
        show Ex mr_X0_minuteOfRest sc (Cl MT pr sc (d + 3)) (rtE (some (.int r)) (mk X) σ2) (79, [(0, .ref 27), (2, .int x2), (5, .int x5), (6, .int x6), (7, .int x7)], [], mk X, p2)
        refine Ex.blk 2 rfl ?_
        obtain ⟨p3, hp3, h⟩ := bind_sp h
        refine Exists.intro (some (.int p3.1)) (Exists.intro (mk X) (Exists.intro p3.2 (And.intro (cl_X0_isAtRest (d + 2) hp3) ?_)))
        show Ex mr_X0_minuteOfRest sc (Cl MT pr sc (d + 3)) (rtE (some (.int r)) (mk X) σ2) (83, [(0, .ref 27), (2, .int x2), (5, .int x5), (6, .int x6), (7, .int x7)], [.int p3.1], mk X, p3.2)
        refine Ex.blk 1000 rfl ?_
        rcases ite_sp h with ⟨c3, h⟩ | ⟨c3, h⟩
        · refine And.intro (fun _ => ?_) (fun hn => absurd c3 hn)
          show Ex mr_X0_minuteOfRest sc (Cl MT pr sc (d + 3)) (rtE (some (.int r)) (mk X) σ2) (89, [(0, .ref 27), (2, .int x2), (5, .int x5), (6, .int x6), (7, .int x7)], [], mk X, p3.2)
          refine Ex.pick (lv' := _) [0, 1, 2, 3] rfl ?_
          exact lk_X0_minuteOfRest_89 d _ hk21 _ _ _ _ h
        · refine And.intro (fun hp => absurd hp c3) (fun _ => ?_)
          show Ex mr_X0_minuteOfRest sc (Cl MT pr sc (d + 3)) (rtE (some (.int r)) (mk X) σ2) (86, [(0, .ref 27), (2, .int x2), (5, .int x5), (6, .int x6), (7, .int x7)], [], mk X, p3.2)
          refine Ex.blk 1000 rfl ?_
          cases h
          exact And.intro trivial ⟨rfl, rfl, rfl⟩
    · refine And.intro (fun hp => absurd hp c1) (fun _ => ?_)
      show Ex mr_X0_minuteOfRest sc (Cl MT pr sc (d + 3)) (rtE (some (.int r)) (mk X) σ2) (46, [(0, .ref 27), (2, .int x2), (5, .int x5), (6, .int x6), (7, .int x7)], [], mk X, σ)
      refine Ex.blk 4 rfl ?_
      obtain ⟨p4, hp4, h⟩ := bind_sp h
      refine Exists.intro none (Exists.intro (mk X) (Exists.intro p4 (And.intro (cl_X0_work (d + 0) hp4) ?_)))
      show Ex mr_X0_minuteOfRest sc (Cl MT pr sc (d + 3)) (rtE (some (.int r)) (mk X) σ2) (54, [(0, .ref 27), (2, .int x2), (5, .int x5), (6, .int x6), (7, .int x7)], [], mk X, p4)
      refine Ex.blk 1000 rfl ?_
      show Ex mr_X0_minuteOfRest sc (Cl MT pr sc (d + 3)) (rtE (some (.int r)) (mk X) σ2) (37, [(7, .int (x7 + 1)), (0, .ref 27), (2, .int x2), (5, .int x5), (6, .int x6)], [], mk X, p4)
      refine Ex.pick (lv' := _) [1, 2, 3, 4, 0] rfl ?_
      exact ih _ _ _ _ _ h
theorem lk_X0_minuteOfRest_21 {pr : Ct} {sc : Nat × (Nat → Int32)} {X : En} (d : Nat) {r : Int32} {σ2 : St} : ∀ (n : Nat) (x2 : Int32) (x5 : Int32) (x6 : Int32) (σ : St), f_X0_minuteOfRest_21 n x2 x5 x6 σ = some (r, σ2) → Ex mr_X0_minuteOfRest sc (Cl MT pr sc (d + 3)) (rtE (some (.int r)) (mk X) σ2) (21, [(0, .ref 27), (2, .int x2), (5, .int x5), (6, .int x6)], [], mk X, σ) := by
  intro n
  induction n with
  | zero =>
    intro x2 x5 x6 σ h
    cases h
  | succ n ih =>
    intro x2 x5 x6 σ h
    simp only [f_X0_minuteOfRest_21] at h
    refine Ex.blk 1000 rfl ?_
    rcases ite_sp h with ⟨c1, h⟩ | ⟨c1, h⟩
    · refine And.intro (fun _ => ?_) (fun hn => absurd c1 hn)
      show Ex mr_X0_minuteOfRest sc (Cl MT pr sc (d + 3)) (rtE (some (.int r)) (mk X) σ2) (95, [(0, .ref 27), (2, .int x2), (5, .int x5), (6, .int x6)], [], mk X, σ)
      refine Ex.blk 1000 rfl ?_
      cases h
      exact And.intro trivial ⟨rfl, rfl, rfl⟩
    · refine And.intro (fun hp => absurd hp c1) (fun _ => ?_)
      show Ex mr_X0_minuteOfRest sc (Cl MT pr sc (d + 3)) (rtE (some (.int r)) (mk X) σ2) (28, [(0, .ref 27), (2, .int x2), (5, .int x5), (6, .int x6)], [], mk X, σ)
      refine Ex.blk 3 rfl ?_
      obtain ⟨p1, hp1, h⟩ := bind_sp h
      refine Exists.intro none (Exists.intro (mk X) (Exists.intro p1 (And.intro (cl_X0_comeBack (d + 2) hp1) ?_)))
      show Ex mr_X0_minuteOfRest sc (Cl MT pr sc (d + 3)) (rtE (some (.int r)) (mk X) σ2) (34, [(0, .ref 27), (2, .int x2), (5, .int x5), (6, .int x6)], [], mk X, p1)
      refine Ex.blk 1000 rfl ?_
      show Ex mr_X0_minuteOfRest sc (Cl MT pr sc (d + 3)) (rtE (some (.int r)) (mk X) σ2) (37, [(7, .int 0), (0, .ref 27), (2, .int x2), (5, .int x5), (6, .int x6)], [], mk X, p1)
      refine Ex.pick (lv' := _) [1, 2, 3, 4, 0] rfl ?_
      exact lk_X0_minuteOfRest_37 d _ ih FU _ _ _ _ _ h
theorem lk_X0_minuteOfRest_18 {pr : Ct} {sc : Nat × (Nat → Int32)} {X : En} (d : Nat) {r : Int32} {σ2 : St} (x2 : Int32) (x5 : Int32) (σ : St) (h : f_X0_minuteOfRest_18 x2 x5 σ = some (r, σ2)) : Ex mr_X0_minuteOfRest sc (Cl MT pr sc (d + 3)) (rtE (some (.int r)) (mk X) σ2) (18, [(0, .ref 27), (2, .int x2), (5, .int x5)], [], mk X, σ) := by
  unfold f_X0_minuteOfRest_18 at h
  refine Ex.blk 1000 rfl ?_
  show Ex mr_X0_minuteOfRest sc (Cl MT pr sc (d + 3)) (rtE (some (.int r)) (mk X) σ2) (21, [(6, .int 0), (0, .ref 27), (2, .int x2), (5, .int x5)], [], mk X, σ)
  refine Ex.pick (lv' := _) [1, 2, 3, 0] rfl ?_
  exact lk_X0_minuteOfRest_21 d FU _ _ _ _ h
theorem cl_X0_minuteOfRest {pr : Ct} {sc : Nat × (Nat → Int32)} {X : En} (d : Nat) {r : Int32} {σ2 : St} {x1 : Int32} {x2 : Int32} {x3 : Int32} {x4 : Int32} {σ : St} (h : f_X0_minuteOfRest x1 x2 x3 x4 σ = some (r, σ2)) : Cl MT pr sc (d + 3 + 1) 13 [.ref 27, .int x1, .int x2, .int x3, .int x4] (mk X) σ (some (.int r)) (mk X) σ2 := by
  refine cl_of mr_X0_minuteOfRest rfl rfl ?_
  unfold f_X0_minuteOfRest at h
  refine Ex.blk 5 rfl ?_
  show Ex mr_X0_minuteOfRest sc (Cl MT pr sc (d + 3)) (rtE (some (.int r)) (mk X) σ2) (7, [(0, .ref 27), (1, .int x1), (2, .int x2), (3, .int x3), (4, .int x4)], [.int x3, .ref 27], mk X, (sI σ 27 14 x1))
  refine Ex.blk 5 rfl ?_
  show Ex mr_X0_minuteOfRest sc (Cl MT pr sc (d + 3)) (rtE (some (.int r)) (mk X) σ2) (18, [(5, .int (mxI 1 x4)), (0, .ref 27), (1, .int x1), (2, .int x2), (3, .int x3), (4, .int x4)], [], mk X, (sI (sI σ 27 14 x1) 27 13 x3))
  refine Ex.pick (lv' := _) [1, 3, 0] rfl ?_
  exact lk_X0_minuteOfRest_18 d _ _ _ h
theorem lk_X1_learn_55 {pr : Ct} {sc : Nat × (Nat → Int32)} {X : En} (d : Nat) {r : Int32} {σ2 : St} (σ : St) (h : f_X1_learn_55 σ = some (r, σ2)) : Ex mr_X1_learn sc (Cl MT pr sc (d + 0)) (rtE (some (.int r)) (mk X) σ2) (55, [], [], mk X, σ) := by
  unfold f_X1_learn_55 at h
  refine Ex.blk 1000 rfl ?_
  cases h
  exact And.intro isb_1 ⟨rfl, rfl, rfl⟩
theorem lk_X1_learn_25 {pr : Ct} {sc : Nat × (Nat → Int32)} {X : En} (d : Nat) {r : Int32} {σ2 : St} (x1 : Int32) (x2 : Int32) (x3 : Int32) (x4 : Int32) (σ : St) (h : f_X1_learn_25 x1 x2 x3 x4 σ = some (r, σ2)) : Ex mr_X1_learn sc (Cl MT pr sc (d + 0)) (rtE (some (.int r)) (mk X) σ2) (25, [(0, .ref 15), (1, .int x1), (2, .int x2), (3, .int x3), (4, .int x4)], [], mk X, σ) := by
  unfold f_X1_learn_25 at h
  refine Ex.blk 1000 rfl ?_
  rcases ite_sp h with ⟨c1, h⟩ | ⟨c1, h⟩
  · refine And.intro (fun _ => ?_) (fun hn => absurd c1 hn)
    show Ex mr_X1_learn sc (Cl MT pr sc (d + 0)) (rtE (some (.int r)) (mk X) σ2) (32, [(0, .ref 15), (1, .int x1), (2, .int x2), (3, .int x3), (4, .int x4)], [], mk X, σ)
    refine Ex.blk 5 rfl ?_
    show Ex mr_X1_learn sc (Cl MT pr sc (d + 0)) (rtE (some (.int r)) (mk X) σ2) (40, [(0, .ref 15), (1, .int x1), (2, .int x2), (3, .int x3), (4, .int x4)], [.int (11 * x1), .ref 16], mk X, σ)
    refine Ex.blk 2 rfl ?_
    obtain ⟨g2, h⟩ := gd_some h
    refine And.intro (inb_ok g2) ?_
    show Ex mr_X1_learn sc (Cl MT pr sc (d + 0)) (rtE (some (.int r)) (mk X) σ2) (43, [(0, .ref 15), (1, .int x1), (2, .int x2), (3, .int x3), (4, .int x4)], [], mk X, (sI σ 16 (11 * x1).toNatClampNeg x4))
    refine Ex.blk 5 rfl ?_
    show Ex mr_X1_learn sc (Cl MT pr sc (d + 0)) (rtE (some (.int r)) (mk X) σ2) (51, [(0, .ref 15), (1, .int x1), (2, .int x2), (3, .int x3), (4, .int x4)], [.int (10 * x1), .ref 16], mk X, (sI σ 16 (11 * x1).toNatClampNeg x4))
    refine Ex.blk 4 rfl ?_
    obtain ⟨g3, h⟩ := gd_some h
    refine And.intro (inb_ok g3) ?_
    show Ex mr_X1_learn sc (Cl MT pr sc (d + 0)) (rtE (some (.int r)) (mk X) σ2) (55, [(0, .ref 15), (1, .int x1), (2, .int x2), (3, .int x3), (4, .int x4)], [], mk X, (sI (sI σ 16 (11 * x1).toNatClampNeg x4) 16 ((10 * x1) + x2).toNatClampNeg x3))
    refine Ex.pick (lv' := _) [] rfl ?_
    exact lk_X1_learn_55 d _ h
  · refine And.intro (fun hp => absurd hp c1) (fun _ => ?_)
    show Ex mr_X1_learn sc (Cl MT pr sc (d + 0)) (rtE (some (.int r)) (mk X) σ2) (30, [(0, .ref 15), (1, .int x1), (2, .int x2), (3, .int x3), (4, .int x4)], [], mk X, σ)
    refine Ex.blk 1000 rfl ?_
    cases h
    exact And.intro isb_0 ⟨rfl, rfl, rfl⟩
theorem cl_X1_learn {pr : Ct} {sc : Nat × (Nat → Int32)} {X : En} (d : Nat) {r : Int32} {σ2 : St} {x1 : Int32} {x2 : Int32} {x3 : Int32} {σ : St} (h : f_X1_learn x1 x2 x3 σ = some (r, σ2)) : Cl MT pr sc (d + 0 + 1) 15 [.ref 15, .int x1, .int x2, .int x3] (mk X) σ (some (.int r)) (mk X) σ2 := by
  refine cl_of mr_X1_learn rfl rfl ?_
  unfold f_X1_learn at h
  refine Ex.blk 5 rfl ?_
  show Ex mr_X1_learn sc (Cl MT pr sc (d + 0)) (rtE (some (.int r)) (mk X) σ2) (8, [(0, .ref 15), (1, .int x1), (2, .int x2), (3, .int x3)], [.int (11 * x1), .ref 16], mk X, σ)
  refine Ex.blk 1 rfl ?_
  obtain ⟨g1, h⟩ := gd_some h
  refine And.intro (inb_ok g1) ?_
  show Ex mr_X1_learn sc (Cl MT pr sc (d + 0)) (rtE (some (.int r)) (mk X) σ2) (9, [(0, .ref 15), (1, .int x1), (2, .int x2), (3, .int x3)], [.int (gI σ 16 (11 * x1).toNatClampNeg)], mk X, σ)
  refine Ex.blk 5 rfl ?_
  show Ex mr_X1_learn sc (Cl MT pr sc (d + 0)) (rtE (some (.int r)) (mk X) σ2) (17, [(0, .ref 15), (1, .int x1), (2, .int x2), (3, .int x3)], [.int (10 * x1), .ref 16, .int (gI σ 16 (11 * x1).toNatClampNeg)], mk X, σ)
  refine Ex.blk 3 rfl ?_
  obtain ⟨g2, h⟩ := gd_some h
  refine And.intro (inb_ok g2) ?_
  show Ex mr_X1_learn sc (Cl MT pr sc (d + 0)) (rtE (some (.int r)) (mk X) σ2) (20, [(0, .ref 15), (1, .int x1), (2, .int x2), (3, .int x3)], [.int (gI σ 16 ((10 * x1) + x2).toNatClampNeg), .int (gI σ 16 (11 * x1).toNatClampNeg)], mk X, σ)
  refine Ex.blk 4 rfl ?_
  show Ex mr_X1_learn sc (Cl MT pr sc (d + 0)) (rtE (some (.int r)) (mk X) σ2) (25, [(4, .int (((gI σ 16 (11 * x1).toNatClampNeg) + (gI σ 16 ((10 * x1) + x2).toNatClampNeg)) - x3)), (0, .ref 15), (1, .int x1), (2, .int x2), (3, .int x3)], [], mk X, σ)
  refine Ex.pick (lv' := _) [1, 2, 3, 4, 0] rfl ?_
  exact lk_X1_learn_25 d _ _ _ _ _ h
theorem lk_X1_hears_41 {pr : Ct} {sc : Nat × (Nat → Int32)} {X : En} (d : Nat) {r : Int32} {σ2 : St} (k5 : Int32 → Int32 → Int32 → Int32 → St → Option (Int32 × St)) (hk5 : ∀ (x1 : Int32) (x2 : Int32) (x3 : Int32) (x4 : Int32) (σ : St), k5 x1 x2 x3 x4 σ = some (r, σ2) → Ex mr_X1_hears sc (Cl MT pr sc (d + 0)) (rtE (some (.int r)) (mk X) σ2) (5, [(0, .ref 15), (1, .int x1), (2, .int x2), (3, .int x3), (4, .int x4)], [], mk X, σ)) (x1 : Int32) (x2 : Int32) (x3 : Int32) (x4 : Int32) (σ : St) (h : f_X1_hears_41 k5 x1 x2 x3 x4 σ = some (r, σ2)) : Ex mr_X1_hears sc (Cl MT pr sc (d + 0)) (rtE (some (.int r)) (mk X) σ2) (41, [(0, .ref 15), (1, .int x1), (2, .int x2), (3, .int x3), (4, .int x4)], [], mk X, σ) := by
  unfold f_X1_hears_41 at h
  refine Ex.blk 1000 rfl ?_
  show Ex mr_X1_hears sc (Cl MT pr sc (d + 0)) (rtE (some (.int r)) (mk X) σ2) (5, [(4, .int (x4 + 1)), (0, .ref 15), (1, .int x1), (2, .int x2), (3, .int x3)], [], mk X, σ)
  refine Ex.pick (lv' := _) [1, 2, 3, 4, 0] rfl ?_
  exact hk5 _ _ _ _ _ h
theorem lk_X1_hears_33 {pr : Ct} {sc : Nat × (Nat → Int32)} {X : En} (d : Nat) {r : Int32} {σ2 : St} (k5 : Int32 → Int32 → Int32 → Int32 → St → Option (Int32 × St)) (hk5 : ∀ (x1 : Int32) (x2 : Int32) (x3 : Int32) (x4 : Int32) (σ : St), k5 x1 x2 x3 x4 σ = some (r, σ2) → Ex mr_X1_hears sc (Cl MT pr sc (d + 0)) (rtE (some (.int r)) (mk X) σ2) (5, [(0, .ref 15), (1, .int x1), (2, .int x2), (3, .int x3), (4, .int x4)], [], mk X, σ)) (x1 : Int32) (x2 : Int32) (x3 : Int32) (x4 : Int32) (σ : St) (h : f_X1_hears_33 k5 x1 x2 x3 x4 σ = some (r, σ2)) : Ex mr_X1_hears sc (Cl MT pr sc (d + 0)) (rtE (some (.int r)) (mk X) σ2) (33, [(0, .ref 15), (1, .int x1), (2, .int x2), (3, .int x3), (4, .int x4)], [], mk X, σ) := by
  unfold f_X1_hears_33 at h
  refine Ex.blk 1000 rfl ?_
  rcases ite_sp h with ⟨c1, h⟩ | ⟨c1, h⟩
  · refine And.intro (fun _ => ?_) (fun hn => absurd c1 hn)
    show Ex mr_X1_hears sc (Cl MT pr sc (d + 0)) (rtE (some (.int r)) (mk X) σ2) (41, [(0, .ref 15), (1, .int x1), (2, .int x2), (3, .int x3), (4, .int x4)], [], mk X, σ)
    exact lk_X1_hears_41 d _ hk5 _ _ _ _ _ h
  · refine And.intro (fun hp => absurd hp c1) (fun _ => ?_)
    show Ex mr_X1_hears sc (Cl MT pr sc (d + 0)) (rtE (some (.int r)) (mk X) σ2) (38, [(0, .ref 15), (1, .int x1), (2, .int x2), (3, .int x3), (4, .int x4)], [], mk X, σ)
    refine Ex.blk 1000 rfl ?_
    cases h
    exact And.intro trivial ⟨rfl, rfl, rfl⟩
theorem lk_X1_hears_5 {pr : Ct} {sc : Nat × (Nat → Int32)} {X : En} (d : Nat) {r : Int32} {σ2 : St} : ∀ (n : Nat) (x1 : Int32) (x2 : Int32) (x3 : Int32) (x4 : Int32) (σ : St), f_X1_hears_5 n x1 x2 x3 x4 σ = some (r, σ2) → Ex mr_X1_hears sc (Cl MT pr sc (d + 0)) (rtE (some (.int r)) (mk X) σ2) (5, [(0, .ref 15), (1, .int x1), (2, .int x2), (3, .int x3), (4, .int x4)], [], mk X, σ) := by
  intro n
  induction n with
  | zero =>
    intro x1 x2 x3 x4 σ h
    cases h
  | succ n ih =>
    intro x1 x2 x3 x4 σ h
    simp only [f_X1_hears_5] at h
    refine Ex.blk 1000 rfl ?_
    rcases ite_sp h with ⟨c1, h⟩ | ⟨c1, h⟩
    · refine And.intro (fun _ => ?_) (fun hn => absurd c1 hn)
      show Ex mr_X1_hears sc (Cl MT pr sc (d + 0)) (rtE (some (.int r)) (mk X) σ2) (47, [(0, .ref 15), (1, .int x1), (2, .int x2), (3, .int x3), (4, .int x4)], [], mk X, σ)
      refine Ex.blk 1000 rfl ?_
      cases h
      exact And.intro trivial ⟨rfl, rfl, rfl⟩
    · refine And.intro (fun hp => absurd hp c1) (fun _ => ?_)
      show Ex mr_X1_hears sc (Cl MT pr sc (d + 0)) (rtE (some (.int r)) (mk X) σ2) (12, [(0, .ref 15), (1, .int x1), (2, .int x2), (3, .int x3), (4, .int x4)], [], mk X, σ)
      refine Ex.blk 1000 rfl ?_
      rcases ite_sp h with ⟨c2, h⟩ | ⟨c2, h⟩
      · refine And.intro (fun _ => ?_) (fun hn => absurd c2 hn)
        show Ex mr_X1_hears sc (Cl MT pr sc (d + 0)) (rtE (some (.int r)) (mk X) σ2) (41, [(0, .ref 15), (1, .int x1), (2, .int x2), (3, .int x3), (4, .int x4)], [], mk X, σ)
        exact lk_X1_hears_41 d _ ih _ _ _ _ _ h
      · refine And.intro (fun hp => absurd hp c2) (fun _ => ?_)
        show Ex mr_X1_hears sc (Cl MT pr sc (d + 0)) (rtE (some (.int r)) (mk X) σ2) (18, [(0, .ref 15), (1, .int x1), (2, .int x2), (3, .int x3), (4, .int x4)], [], mk X, σ)
        refine Ex.blk 5 rfl ?_
        show Ex mr_X1_hears sc (Cl MT pr sc (d + 0)) (rtE (some (.int r)) (mk X) σ2) (26, [(0, .ref 15), (1, .int x1), (2, .int x2), (3, .int x3), (4, .int x4)], [.int x1, .int 10, .ref 16, .int x3], mk X, σ)
        refine Ex.blk 4 rfl ?_
        obtain ⟨g3, h⟩ := gd_some h
        refine And.intro (inb_ok g3) ?_
        show Ex mr_X1_hears sc (Cl MT pr sc (d + 0)) (rtE (some (.int r)) (mk X) σ2) (31, [(0, .ref 15), (1, .int x1), (2, .int x2), (3, .int x3), (4, .int x4)], [.int (gI σ 16 ((10 * x1) + x4).toNatClampNeg), .int x3], mk X, σ)
        refine Ex.blk 2 rfl ?_
        show Ex mr_X1_hears sc (Cl MT pr sc (d + 0)) (rtE (some (.int r)) (mk X) σ2) (33, [(3, .int (x3 + (gI σ 16 ((10 * x1) + x4).toNatClampNeg))), (0, .ref 15), (1, .int x1), (2, .int x2), (4, .int x4)], [], mk X, σ)
        refine Ex.pick (lv' := _) [1, 2, 3, 0, 4] rfl ?_
        exact lk_X1_hears_33 d _ ih _ _ _ _ _ h
theorem cl_X1_hears {pr : Ct} {sc : Nat × (Nat → Int32)} {X : En} (d : Nat) {r : Int32} {σ2 : St} {x1 : Int32} {x2 : Int32} {σ : St} (h : f_X1_hears x1 x2 σ = some (r, σ2)) : Cl MT pr sc (d + 0 + 1) 16 [.ref 15, .int x1, .int x2] (mk X) σ (some (.int r)) (mk X) σ2 := by
  refine cl_of mr_X1_hears rfl rfl ?_
  unfold f_X1_hears at h
  refine Ex.blk 1000 rfl ?_
  show Ex mr_X1_hears sc (Cl MT pr sc (d + 0)) (rtE (some (.int r)) (mk X) σ2) (5, [(4, .int 0), (3, .int 0), (0, .ref 15), (1, .int x1), (2, .int x2)], [], mk X, σ)
  refine Ex.pick (lv' := _) [2, 3, 4, 1, 0] rfl ?_
  exact lk_X1_hears_5 d FU _ _ _ _ _ h
theorem lk_X1_likely_72 {pr : Ct} {sc : Nat × (Nat → Int32)} {X : En} (d : Nat) {r : Int64} {σ2 : St} (k24 : Int32 → Int64 → Int32 → Int64 → Int32 → St → Option (Int64 × St)) (hk24 : ∀ (x1 : Int32) (x2 : Int64) (x4 : Int32) (x5 : Int64) (x7 : Int32) (σ : St), k24 x1 x2 x4 x5 x7 σ = some (r, σ2) → Ex mr_X1_likely sc (Cl MT pr sc (d + 1)) (rtE (some (.long r)) (mk X) σ2) (24, [(0, .ref 15), (1, .int x1), (2, .long x2), (4, .int x4), (5, .long x5), (7, .int x7)], [], mk X, σ)) (x1 : Int32) (x2 : Int64) (x4 : Int32) (x5 : Int64) (x7 : Int32) (σ : St) (h : f_X1_likely_72 k24 x1 x2 x4 x5 x7 σ = some (r, σ2)) : Ex mr_X1_likely sc (Cl MT pr sc (d + 1)) (rtE (some (.long r)) (mk X) σ2) (72, [(0, .ref 15), (1, .int x1), (2, .long x2), (4, .int x4), (5, .long x5), (7, .int x7)], [], mk X, σ) := by
  unfold f_X1_likely_72 at h
  refine Ex.blk 1000 rfl ?_
  show Ex mr_X1_likely sc (Cl MT pr sc (d + 1)) (rtE (some (.long r)) (mk X) σ2) (24, [(7, .int (x7 + 1)), (0, .ref 15), (1, .int x1), (2, .long x2), (4, .int x4), (5, .long x5)], [], mk X, σ)
  refine Ex.pick (lv' := _) [1, 2, 3, 4, 5, 0] rfl ?_
  exact hk24 _ _ _ _ _ _ h
theorem lk_X1_likely_69 {pr : Ct} {sc : Nat × (Nat → Int32)} {X : En} (d : Nat) {r : Int64} {σ2 : St} (k24 : Int32 → Int64 → Int32 → Int64 → Int32 → St → Option (Int64 × St)) (hk24 : ∀ (x1 : Int32) (x2 : Int64) (x4 : Int32) (x5 : Int64) (x7 : Int32) (σ : St), k24 x1 x2 x4 x5 x7 σ = some (r, σ2) → Ex mr_X1_likely sc (Cl MT pr sc (d + 1)) (rtE (some (.long r)) (mk X) σ2) (24, [(0, .ref 15), (1, .int x1), (2, .long x2), (4, .int x4), (5, .long x5), (7, .int x7)], [], mk X, σ)) (x1 : Int32) (x2 : Int64) (x4 : Int32) (x7 : Int32) (y0 : Int64) (y1 : Int64) (σ : St) (h : f_X1_likely_69 k24 x1 x2 x4 x7 y0 y1 σ = some (r, σ2)) : Ex mr_X1_likely sc (Cl MT pr sc (d + 1)) (rtE (some (.long r)) (mk X) σ2) (69, [(0, .ref 15), (1, .int x1), (2, .long x2), (4, .int x4), (7, .int x7)], [.long y0, .long y1], mk X, σ) := by
  unfold f_X1_likely_69 at h
  refine Ex.blk 2 rfl ?_
  show Ex mr_X1_likely sc (Cl MT pr sc (d + 1)) (rtE (some (.long r)) (mk X) σ2) (72, [(5, .long (y1 * y0)), (0, .ref 15), (1, .int x1), (2, .long x2), (4, .int x4), (7, .int x7)], [], mk X, σ)
  refine Ex.pick (lv' := _) [1, 2, 3, 4, 0, 5] rfl ?_
  exact lk_X1_likely_72 d _ hk24 _ _ _ _ _ _ h
theorem lk_X1_likely_24 {pr : Ct} {sc : Nat × (Nat → Int32)} {X : En} (d : Nat) {r : Int64} {σ2 : St} : ∀ (n : Nat) (x1 : Int32) (x2 : Int64) (x4 : Int32) (x5 : Int64) (x7 : Int32) (σ : St), f_X1_likely_24 n x1 x2 x4 x5 x7 σ = some (r, σ2) → Ex mr_X1_likely sc (Cl MT pr sc (d + 1)) (rtE (some (.long r)) (mk X) σ2) (24, [(0, .ref 15), (1, .int x1), (2, .long x2), (4, .int x4), (5, .long x5), (7, .int x7)], [], mk X, σ) := by
  intro n
  induction n with
  | zero =>
    intro x1 x2 x4 x5 x7 σ h
    cases h
  | succ n ih =>
    intro x1 x2 x4 x5 x7 σ h
    simp only [f_X1_likely_24] at h
    refine Ex.blk 1000 rfl ?_
    rcases ite_sp h with ⟨c1, h⟩ | ⟨c1, h⟩
    · refine And.intro (fun _ => ?_) (fun hn => absurd c1 hn)
      show Ex mr_X1_likely sc (Cl MT pr sc (d + 1)) (rtE (some (.long r)) (mk X) σ2) (78, [(0, .ref 15), (1, .int x1), (2, .long x2), (4, .int x4), (5, .long x5), (7, .int x7)], [], mk X, σ)
      refine Ex.blk 1000 rfl ?_
      cases h
      exact And.intro trivial ⟨rfl, rfl, rfl⟩
    · refine And.intro (fun hp => absurd hp c1) (fun _ => ?_)
      show Ex mr_X1_likely sc (Cl MT pr sc (d + 1)) (rtE (some (.long r)) (mk X) σ2) (31, [(0, .ref 15), (1, .int x1), (2, .long x2), (4, .int x4), (5, .long x5), (7, .int x7)], [], mk X, σ)
      refine Ex.blk 1000 rfl ?_
      rcases ite_sp h with ⟨c2, h⟩ | ⟨c2, h⟩
      · refine And.intro (fun _ => ?_) (fun hn => absurd c2 hn)
        show Ex mr_X1_likely sc (Cl MT pr sc (d + 1)) (rtE (some (.long r)) (mk X) σ2) (46, [(0, .ref 15), (1, .int x1), (2, .long x2), (4, .int x4), (5, .long x5), (7, .int x7)], [.long x5], mk X, σ)
        refine Ex.blk 5 rfl ?_
        show Ex mr_X1_likely sc (Cl MT pr sc (d + 1)) (rtE (some (.long r)) (mk X) σ2) (54, [(0, .ref 15), (1, .int x1), (2, .long x2), (4, .int x4), (5, .long x5), (7, .int x7)], [.long x1.toInt64, .int 10, .ref 16, .long x5], mk X, σ)
        refine Ex.blk 2 rfl ?_
        obtain ⟨p3, hp3, h⟩ := bind_sp h
        refine Exists.intro (some (.int p3.1)) (Exists.intro (mk X) (Exists.intro p3.2 (And.intro (cl_X9_digitOf (d + 0) hp3) ?_)))
        show Ex mr_X1_likely sc (Cl MT pr sc (d + 1)) (rtE (some (.long r)) (mk X) σ2) (59, [(0, .ref 15), (1, .int x1), (2, .long x2), (4, .int x4), (5, .long x5), (7, .int x7)], [.int p3.1, .int 10, .ref 16, .long x5], mk X, p3.2)
        refine Ex.blk 4 rfl ?_
        obtain ⟨p4, hp4, h⟩ := bind_sp h
        refine Exists.intro (some (.int p4.1)) (Exists.intro (mk X) (Exists.intro p4.2 (And.intro (cl_X9_digitOf (d + 0) hp4) ?_)))
        show Ex mr_X1_likely sc (Cl MT pr sc (d + 1)) (rtE (some (.long r)) (mk X) σ2) (66, [(0, .ref 15), (1, .int x1), (2, .long x2), (4, .int x4), (5, .long x5), (7, .int x7)], [.int p4.1, .int (10 * p3.1), .ref 16, .long x5], mk X, p4.2)
        refine Ex.blk 2 rfl ?_
        obtain ⟨g3, h⟩ := gd_some h
        refine And.intro (inb_ok g3) ?_
        show Ex mr_X1_likely sc (Cl MT pr sc (d + 1)) (rtE (some (.long r)) (mk X) σ2) (68, [(0, .ref 15), (1, .int x1), (2, .long x2), (4, .int x4), (5, .long x5), (7, .int x7)], [.int (gI p4.2 16 ((10 * p3.1) + p4.1).toNatClampNeg), .long x5], mk X, p4.2)
        refine Ex.blk 1000 rfl ?_
        show Ex mr_X1_likely sc (Cl MT pr sc (d + 1)) (rtE (some (.long r)) (mk X) σ2) (69, [(0, .ref 15), (1, .int x1), (2, .long x2), (4, .int x4), (5, .long x5), (7, .int x7)], [.long (gI p4.2 16 ((10 * p3.1) + p4.1).toNatClampNeg).toInt64, .long x5], mk X, p4.2)
        refine Ex.pick (lv' := _) [0, 1, 2, 3, 5] rfl ?_
        exact lk_X1_likely_69 d _ ih _ _ _ _ _ _ _ h
      · refine And.intro (fun hp => absurd hp c2) (fun _ => ?_)
        show Ex mr_X1_likely sc (Cl MT pr sc (d + 1)) (rtE (some (.long r)) (mk X) σ2) (40, [(0, .ref 15), (1, .int x1), (2, .long x2), (4, .int x4), (5, .long x5), (7, .int x7)], [.long x5], mk X, σ)
        refine Ex.blk 1000 rfl ?_
        show Ex mr_X1_likely sc (Cl MT pr sc (d + 1)) (rtE (some (.long r)) (mk X) σ2) (69, [(0, .ref 15), (1, .int x1), (2, .long x2), (4, .int x4), (5, .long x5), (7, .int x7)], [.long 100, .long x5], mk X, σ)
        refine Ex.pick (lv' := _) [0, 1, 2, 3, 5] rfl ?_
        exact lk_X1_likely_69 d _ ih _ _ _ _ _ _ _ h
theorem cl_X1_likely {pr : Ct} {sc : Nat × (Nat → Int32)} {X : En} (d : Nat) {r : Int64} {σ2 : St} {x1 : Int32} {x2 : Int64} {σ : St} (h : f_X1_likely x1 x2 σ = some (r, σ2)) : Cl MT pr sc (d + 1 + 1) 17 [.ref 15, .int x1, .long x2] (mk X) σ (some (.long r)) (mk X) σ2 := by
  refine cl_of mr_X1_likely rfl rfl ?_
  unfold f_X1_likely at h
  refine Ex.blk 3 rfl ?_
  obtain ⟨p1, hp1, h⟩ := bind_sp h
  refine Exists.intro (some (.int p1.1)) (Exists.intro (mk X) (Exists.intro p1.2 (And.intro (cl_X9_topPlace (d + 0) hp1) ?_)))
  show Ex mr_X1_likely sc (Cl MT pr sc (d + 1)) (rtE (some (.long r)) (mk X) σ2) (5, [(0, .ref 15), (1, .int x1), (2, .long x2)], [.int p1.1], mk X, p1.2)
  refine Ex.blk 3 rfl ?_
  obtain ⟨p2, hp2, h⟩ := bind_sp h
  refine Exists.intro (some (.int p2.1)) (Exists.intro (mk X) (Exists.intro p2.2 (And.intro (cl_X9_topPlace (d + 0) hp2) ?_)))
  show Ex mr_X1_likely sc (Cl MT pr sc (d + 1)) (rtE (some (.long r)) (mk X) σ2) (11, [(4, .int p1.1), (0, .ref 15), (1, .int x1), (2, .long x2)], [.int p2.1], mk X, p2.2)
  refine Ex.blk 1000 rfl ?_
  rcases ite_sp h with ⟨c1, h⟩ | ⟨c1, h⟩
  · refine And.intro (fun _ => ?_) (fun hn => absurd c1 hn)
    show Ex mr_X1_likely sc (Cl MT pr sc (d + 1)) (rtE (some (.long r)) (mk X) σ2) (18, [(4, .int p1.1), (0, .ref 15), (1, .int x1), (2, .long x2)], [], mk X, p2.2)
    refine Ex.blk 1000 rfl ?_
    show Ex mr_X1_likely sc (Cl MT pr sc (d + 1)) (rtE (some (.long r)) (mk X) σ2) (24, [(7, .int 0), (5, .long 1), (4, .int p1.1), (0, .ref 15), (1, .int x1), (2, .long x2)], [], mk X, p2.2)
    refine Ex.pick (lv' := _) [3, 4, 5, 2, 1, 0] rfl ?_
    exact lk_X1_likely_24 d FU _ _ _ _ _ _ h
  · refine And.intro (fun hp => absurd hp c1) (fun _ => ?_)
    show Ex mr_X1_likely sc (Cl MT pr sc (d + 1)) (rtE (some (.long r)) (mk X) σ2) (16, [(4, .int p1.1), (0, .ref 15), (1, .int x1), (2, .long x2)], [], mk X, p2.2)
    refine Ex.blk 1000 rfl ?_
    cases h
    exact And.intro trivial ⟨rfl, rfl, rfl⟩
theorem cl_X1_wrong {pr : Ct} {sc : Nat × (Nat → Int32)} {X : En} (d : Nat) {r : Int32} {σ2 : St} {x1 : Int32} {σ : St} (h : f_X1_wrong x1 σ = some (r, σ2)) : Cl MT pr sc (d + 2 + 1) 18 [.ref 15, .int x1] (mk X) σ (some (.int r)) (mk X) σ2 := by
  refine cl_of mr_X1_wrong rfl rfl ?_
  unfold f_X1_wrong at h
  refine Ex.blk 5 rfl ?_
  show Ex mr_X1_wrong sc (Cl MT pr sc (d + 2)) (rtE (some (.int r)) (mk X) σ2) (7, [(0, .ref 15), (1, .int x1)], [.long x1.toInt64, .int x1, .ref 15, .long 1000000000000000000], mk X, σ)
  refine Ex.blk 1 rfl ?_
  obtain ⟨p1, hp1, h⟩ := bind_sp h
  refine Exists.intro (some (.long p1.1)) (Exists.intro (mk X) (Exists.intro p1.2 (And.intro (cl_X1_likely (d + 0) hp1) ?_)))
  show Ex mr_X1_wrong sc (Cl MT pr sc (d + 2)) (rtE (some (.int r)) (mk X) σ2) (10, [(0, .ref 15), (1, .int x1)], [.long p1.1, .long 1000000000000000000], mk X, p1.2)
  refine Ex.blk 3 rfl ?_
  refine And.intro (nzJ_ok (b := 1000000000000) (by decide)) ?_
  show Ex mr_X1_wrong sc (Cl MT pr sc (d + 2)) (rtE (some (.int r)) (mk X) σ2) (15, [(0, .ref 15), (1, .int x1)], [.long ((1000000000000000000 - p1.1) / 1000000000000)], mk X, p1.2)
  refine Ex.blk 1000 rfl ?_
  cases h
  exact And.intro trivial ⟨rfl, rfl, rfl⟩
theorem cl_X2_forget {pr : Ct} {sc : Nat × (Nat → Int32)} {X : En} (d : Nat) {σ2 : St} {σ : St} (h : f_X2_forget σ = some σ2) : Cl MT pr sc (d + 0 + 1) 28 [.ref 9] (mk X) σ none (mk X) σ2 := by
  refine cl_of mr_X2_forget rfl rfl ?_
  unfold f_X2_forget at h
  refine Ex.blk 1000 rfl ?_
  cases h
  exact And.intro trivial ⟨rfl, rfl, rfl⟩
theorem lk_X3_bringIn_29 {pr : Ct} {sc : Nat × (Nat → Int32)} {X : En} (d : Nat) {σ2 : St} (σ : St) (h : f_X3_bringIn_29 σ = some σ2) : Ex mr_X3_bringIn sc (Cl MT pr sc (d + 0)) (rtE none (mk X) σ2) (29, [], [], mk X, σ) := by
  unfold f_X3_bringIn_29 at h
  refine Ex.blk 1000 rfl ?_
  cases h
  exact And.intro trivial ⟨rfl, rfl, rfl⟩
theorem cl_X3_bringIn {pr : Ct} {sc : Nat × (Nat → Int32)} {X : En} (d : Nat) {σ2 : St} {x1 : Int32} {σ : St} (h : f_X3_bringIn x1 σ = some σ2) : Cl MT pr sc (d + 0 + 1) 30 [.ref 19, .int x1] (mk X) σ none (mk X) σ2 := by
  refine cl_of mr_X3_bringIn rfl rfl ?_
  unfold f_X3_bringIn at h
  refine Ex.blk 1000 rfl ?_
  rcases ite_sp h with ⟨c1, h⟩ | ⟨c1, h⟩
  · refine And.intro (fun _ => ?_) (fun hn => absurd c1 hn)
    show Ex mr_X3_bringIn sc (Cl MT pr sc (d + 0)) (rtE none (mk X) σ2) (29, [(0, .ref 19), (1, .int x1)], [], mk X, σ)
    refine Ex.pick (lv' := _) [] rfl ?_
    exact lk_X3_bringIn_29 d _ h
  · refine And.intro (fun hp => absurd hp c1) (fun _ => ?_)
    show Ex mr_X3_bringIn sc (Cl MT pr sc (d + 0)) (rtE none (mk X) σ2) (9, [(0, .ref 19), (1, .int x1)], [], mk X, σ)
    refine Ex.blk 5 rfl ?_
    show Ex mr_X3_bringIn sc (Cl MT pr sc (d + 0)) (rtE none (mk X) σ2) (18, [(0, .ref 19), (1, .int x1)], [.int x1, .int (gI σ 19 1), .ref 20], mk X, σ)
    refine Ex.blk 1 rfl ?_
    obtain ⟨g2, h⟩ := gd_some h
    refine And.intro (inb_ok g2) ?_
    show Ex mr_X3_bringIn sc (Cl MT pr sc (d + 0)) (rtE none (mk X) σ2) (19, [(0, .ref 19), (1, .int x1)], [], mk X, (sI σ 20 (gI σ 19 1).toNatClampNeg x1))
    refine Ex.blk 5 rfl ?_
    show Ex mr_X3_bringIn sc (Cl MT pr sc (d + 0)) (rtE none (mk X) σ2) (26, [(0, .ref 19), (1, .int x1)], [.int ((gI (sI σ 20 (gI σ 19 1).toNatClampNeg x1) 19 1) + 1), .ref 19], mk X, (sI σ 20 (gI σ 19 1).toNatClampNeg x1))
    refine Ex.blk 1000 rfl ?_
    show Ex mr_X3_bringIn sc (Cl MT pr sc (d + 0)) (rtE none (mk X) σ2) (29, [(0, .ref 19), (1, .int x1)], [], mk X, (sI (sI σ 20 (gI σ 19 1).toNatClampNeg x1) 19 1 ((gI (sI σ 20 (gI σ 19 1).toNatClampNeg x1) 19 1) + 1)))
    refine Ex.pick (lv' := _) [] rfl ?_
    exact lk_X3_bringIn_29 d _ h
theorem cl_X3_sets {pr : Ct} {sc : Nat × (Nat → Int32)} {X : En} (d : Nat) {r : Int32} {σ2 : St} {σ : St} (h : f_X3_sets σ = some (r, σ2)) : Cl MT pr sc (d + 0 + 1) 31 [.ref 19] (mk X) σ (some (.int r)) (mk X) σ2 := by
  refine cl_of mr_X3_sets rfl rfl ?_
  unfold f_X3_sets at h
  refine Ex.blk 1000 rfl ?_
  cases h
  exact And.intro trivial ⟨rfl, rfl, rfl⟩
theorem lk_X9_hasBit_13 {pr : Ct} {sc : Nat × (Nat → Int32)} {X : En} (d : Nat) {r : Int32} {σ2 : St} (y0 : Int32) (σ : St) (h : f_X9_hasBit_13 y0 σ = some (r, σ2)) : Ex mr_X9_hasBit sc (Cl MT pr sc (d + 0)) (rtE (some (.int r)) (mk X) σ2) (13, [], [.int y0], mk X, σ) := by
  unfold f_X9_hasBit_13 at h
  refine Ex.blk 1000 rfl ?_
  obtain ⟨g1, h⟩ := gd_some h
  cases h
  exact And.intro (isbb_ok g1) ⟨rfl, rfl, rfl⟩
theorem cl_X9_hasBit {pr : Ct} {sc : Nat × (Nat → Int32)} {X : En} (d : Nat) {r : Int32} {σ2 : St} {x0 : Int32} {x1 : Int32} {σ : St} (h : f_X9_hasBit x0 x1 σ = some (r, σ2)) : Cl MT pr sc (d + 0 + 1) 32 [.int x0, .int x1] (mk X) σ (some (.int r)) (mk X) σ2 := by
  refine cl_of mr_X9_hasBit rfl rfl ?_
  unfold f_X9_hasBit at h
  refine Ex.blk 5 rfl ?_
  show Ex mr_X9_hasBit sc (Cl MT pr sc (d + 0)) (rtE (some (.int r)) (mk X) σ2) (5, [(0, .int x0), (1, .int x1)], [.int ((ushI x0 x1) &&& 1)], mk X, σ)
  refine Ex.blk 1000 rfl ?_
  rcases ite_sp h with ⟨c1, h⟩ | ⟨c1, h⟩
  · refine And.intro (fun _ => ?_) (fun hn => absurd c1 hn)
    show Ex mr_X9_hasBit sc (Cl MT pr sc (d + 0)) (rtE (some (.int r)) (mk X) σ2) (12, [(0, .int x0), (1, .int x1)], [], mk X, σ)
    refine Ex.blk 1000 rfl ?_
    show Ex mr_X9_hasBit sc (Cl MT pr sc (d + 0)) (rtE (some (.int r)) (mk X) σ2) (13, [(0, .int x0), (1, .int x1)], [.int 0], mk X, σ)
    refine Ex.pick (lv' := _) [] rfl ?_
    exact lk_X9_hasBit_13 d _ _ h
  · refine And.intro (fun hp => absurd hp c1) (fun _ => ?_)
    show Ex mr_X9_hasBit sc (Cl MT pr sc (d + 0)) (rtE (some (.int r)) (mk X) σ2) (8, [(0, .int x0), (1, .int x1)], [], mk X, σ)
    refine Ex.blk 1000 rfl ?_
    show Ex mr_X9_hasBit sc (Cl MT pr sc (d + 0)) (rtE (some (.int r)) (mk X) σ2) (13, [(0, .int x0), (1, .int x1)], [.int 1], mk X, σ)
    refine Ex.pick (lv' := _) [] rfl ?_
    exact lk_X9_hasBit_13 d _ _ h
theorem lk_X3_sumOf_38 {pr : Ct} {sc : Nat × (Nat → Int32)} {X : En} (d : Nat) {r : Int64} {σ2 : St} (k5 : Int32 → Int64 → Int32 → St → Option (Int64 × St)) (hk5 : ∀ (x1 : Int32) (x2 : Int64) (x4 : Int32) (σ : St), k5 x1 x2 x4 σ = some (r, σ2) → Ex mr_X3_sumOf sc (Cl MT pr sc (d + 1)) (rtE (some (.long r)) (mk X) σ2) (5, [(0, .ref 19), (1, .int x1), (2, .long x2), (4, .int x4)], [], mk X, σ)) (x1 : Int32) (x2 : Int64) (x4 : Int32) (σ : St) (h : f_X3_sumOf_38 k5 x1 x2 x4 σ = some (r, σ2)) : Ex mr_X3_sumOf sc (Cl MT pr sc (d + 1)) (rtE (some (.long r)) (mk X) σ2) (38, [(0, .ref 19), (1, .int x1), (2, .long x2), (4, .int x4)], [], mk X, σ) := by
  unfold f_X3_sumOf_38 at h
  refine Ex.blk 1000 rfl ?_
  show Ex mr_X3_sumOf sc (Cl MT pr sc (d + 1)) (rtE (some (.long r)) (mk X) σ2) (5, [(4, .int (x4 + 1)), (0, .ref 19), (1, .int x1), (2, .long x2)], [], mk X, σ)
  refine Ex.pick (lv' := _) [1, 2, 3, 0] rfl ?_
  exact hk5 _ _ _ _ h
theorem lk_X3_sumOf_36 {pr : Ct} {sc : Nat × (Nat → Int32)} {X : En} (d : Nat) {r : Int64} {σ2 : St} (k5 : Int32 → Int64 → Int32 → St → Option (Int64 × St)) (hk5 : ∀ (x1 : Int32) (x2 : Int64) (x4 : Int32) (σ : St), k5 x1 x2 x4 σ = some (r, σ2) → Ex mr_X3_sumOf sc (Cl MT pr sc (d + 1)) (rtE (some (.long r)) (mk X) σ2) (5, [(0, .ref 19), (1, .int x1), (2, .long x2), (4, .int x4)], [], mk X, σ)) (x1 : Int32) (x4 : Int32) (y0 : Int64) (y1 : Int64) (σ : St) (h : f_X3_sumOf_36 k5 x1 x4 y0 y1 σ = some (r, σ2)) : Ex mr_X3_sumOf sc (Cl MT pr sc (d + 1)) (rtE (some (.long r)) (mk X) σ2) (36, [(0, .ref 19), (1, .int x1), (4, .int x4)], [.long y0, .long y1], mk X, σ) := by
  unfold f_X3_sumOf_36 at h
  refine Ex.blk 2 rfl ?_
  show Ex mr_X3_sumOf sc (Cl MT pr sc (d + 1)) (rtE (some (.long r)) (mk X) σ2) (38, [(2, .long (y1 + y0)), (0, .ref 19), (1, .int x1), (4, .int x4)], [], mk X, σ)
  refine Ex.pick (lv' := _) [1, 2, 0, 3] rfl ?_
  exact lk_X3_sumOf_38 d _ hk5 _ _ _ _ h
theorem lk_X3_sumOf_5 {pr : Ct} {sc : Nat × (Nat → Int32)} {X : En} (d : Nat) {r : Int64} {σ2 : St} : ∀ (n : Nat) (x1 : Int32) (x2 : Int64) (x4 : Int32) (σ : St), f_X3_sumOf_5 n x1 x2 x4 σ = some (r, σ2) → Ex mr_X3_sumOf sc (Cl MT pr sc (d + 1)) (rtE (some (.long r)) (mk X) σ2) (5, [(0, .ref 19), (1, .int x1), (2, .long x2), (4, .int x4)], [], mk X, σ) := by
  intro n
  induction n with
  | zero =>
    intro x1 x2 x4 σ h
    cases h
  | succ n ih =>
    intro x1 x2 x4 σ h
    simp only [f_X3_sumOf_5] at h
    refine Ex.blk 1000 rfl ?_
    rcases ite_sp h with ⟨c1, h⟩ | ⟨c1, h⟩
    · refine And.intro (fun _ => ?_) (fun hn => absurd c1 hn)
      show Ex mr_X3_sumOf sc (Cl MT pr sc (d + 1)) (rtE (some (.long r)) (mk X) σ2) (44, [(0, .ref 19), (1, .int x1), (2, .long x2), (4, .int x4)], [], mk X, σ)
      refine Ex.blk 1000 rfl ?_
      cases h
      exact And.intro trivial ⟨rfl, rfl, rfl⟩
    · refine And.intro (fun hp => absurd hp c1) (fun _ => ?_)
      show Ex mr_X3_sumOf sc (Cl MT pr sc (d + 1)) (rtE (some (.long r)) (mk X) σ2) (14, [(0, .ref 19), (1, .int x1), (2, .long x2), (4, .int x4)], [], mk X, σ)
      refine Ex.blk 4 rfl ?_
      obtain ⟨p1, hp1, h⟩ := bind_sp h
      refine Exists.intro (some (.int p1.1)) (Exists.intro (mk X) (Exists.intro p1.2 (And.intro (cl_X9_hasBit (d + 0) hp1) ?_)))
      show Ex mr_X3_sumOf sc (Cl MT pr sc (d + 1)) (rtE (some (.long r)) (mk X) σ2) (21, [(0, .ref 19), (1, .int x1), (2, .long x2), (4, .int x4)], [.int p1.1, .long x2], mk X, p1.2)
      refine Ex.blk 1000 rfl ?_
      rcases ite_sp h with ⟨c2, h⟩ | ⟨c2, h⟩
      · refine And.intro (fun _ => ?_) (fun hn => absurd c2 hn)
        show Ex mr_X3_sumOf sc (Cl MT pr sc (d + 1)) (rtE (some (.long r)) (mk X) σ2) (35, [(0, .ref 19), (1, .int x1), (2, .long x2), (4, .int x4)], [.long x2], mk X, p1.2)
        refine Ex.blk 1000 rfl ?_
        show Ex mr_X3_sumOf sc (Cl MT pr sc (d + 1)) (rtE (some (.long r)) (mk X) σ2) (36, [(0, .ref 19), (1, .int x1), (2, .long x2), (4, .int x4)], [.long 0, .long x2], mk X, p1.2)
        refine Ex.pick (lv' := _) [0, 1, 3] rfl ?_
        exact lk_X3_sumOf_36 d _ ih _ _ _ _ _ h
      · refine And.intro (fun hp => absurd hp c2) (fun _ => ?_)
        show Ex mr_X3_sumOf sc (Cl MT pr sc (d + 1)) (rtE (some (.long r)) (mk X) σ2) (24, [(0, .ref 19), (1, .int x1), (2, .long x2), (4, .int x4)], [.long x2], mk X, p1.2)
        refine Ex.blk 4 rfl ?_
        obtain ⟨g3, h⟩ := gd_some h
        refine And.intro (inb_ok g3) ?_
        show Ex mr_X3_sumOf sc (Cl MT pr sc (d + 1)) (rtE (some (.long r)) (mk X) σ2) (31, [(0, .ref 19), (1, .int x1), (2, .long x2), (4, .int x4)], [.int (gI p1.2 20 x4.toNatClampNeg), .long x2], mk X, p1.2)
        refine Ex.blk 1000 rfl ?_
        show Ex mr_X3_sumOf sc (Cl MT pr sc (d + 1)) (rtE (some (.long r)) (mk X) σ2) (36, [(0, .ref 19), (1, .int x1), (2, .long x2), (4, .int x4)], [.long (gI p1.2 20 x4.toNatClampNeg).toInt64, .long x2], mk X, p1.2)
        refine Ex.pick (lv' := _) [0, 1, 3] rfl ?_
        exact lk_X3_sumOf_36 d _ ih _ _ _ _ _ h
theorem cl_X3_sumOf {pr : Ct} {sc : Nat × (Nat → Int32)} {X : En} (d : Nat) {r : Int64} {σ2 : St} {x1 : Int32} {σ : St} (h : f_X3_sumOf x1 σ = some (r, σ2)) : Cl MT pr sc (d + 1 + 1) 33 [.ref 19, .int x1] (mk X) σ (some (.long r)) (mk X) σ2 := by
  refine cl_of mr_X3_sumOf rfl rfl ?_
  unfold f_X3_sumOf at h
  refine Ex.blk 1000 rfl ?_
  show Ex mr_X3_sumOf sc (Cl MT pr sc (d + 1)) (rtE (some (.long r)) (mk X) σ2) (5, [(4, .int 0), (2, .long 0), (0, .ref 19), (1, .int x1)], [], mk X, σ)
  refine Ex.pick (lv' := _) [2, 3, 1, 0] rfl ?_
  exact lk_X3_sumOf_5 d FU _ _ _ _ h
theorem lk_X5_write_49 {pr : Ct} {sc : Nat × (Nat → Int32)} {X : En} (d : Nat) {σ2 : St} (k3 : Int32 → Int32 → St → Option (St)) (hk3 : ∀ (x1 : Int32) (x2 : Int32) (σ : St), k3 x1 x2 σ = some σ2 → Ex mr_X5_write sc (Cl MT pr sc (d + 0)) (rtE none (mk X) σ2) (3, [(0, .ref 11), (1, .int x1), (2, .int x2)], [], mk X, σ)) (x1 : Int32) (x2 : Int32) (σ : St) (h : f_X5_write_49 k3 x1 x2 σ = some σ2) : Ex mr_X5_write sc (Cl MT pr sc (d + 0)) (rtE none (mk X) σ2) (49, [(0, .ref 11), (1, .int x1), (2, .int x2)], [], mk X, σ) := by
  unfold f_X5_write_49 at h
  refine Ex.blk 1000 rfl ?_
  show Ex mr_X5_write sc (Cl MT pr sc (d + 0)) (rtE none (mk X) σ2) (3, [(2, .int (x2 + (-8))), (0, .ref 11), (1, .int x1)], [], mk X, σ)
  refine Ex.pick (lv' := _) [1, 2, 0] rfl ?_
  exact hk3 _ _ _ h
theorem lk_X5_write_15 {pr : Ct} {sc : Nat × (Nat → Int32)} {X : En} (d : Nat) {σ2 : St} (k3 : Int32 → Int32 → St → Option (St)) (hk3 : ∀ (x1 : Int32) (x2 : Int32) (σ : St), k3 x1 x2 σ = some σ2 → Ex mr_X5_write sc (Cl MT pr sc (d + 0)) (rtE none (mk X) σ2) (3, [(0, .ref 11), (1, .int x1), (2, .int x2)], [], mk X, σ)) (x1 : Int32) (x2 : Int32) (x3 : Int32) (σ : St) (h : f_X5_write_15 k3 x1 x2 x3 σ = some σ2) : Ex mr_X5_write sc (Cl MT pr sc (d + 0)) (rtE none (mk X) σ2) (15, [(0, .ref 11), (1, .int x1), (2, .int x2), (3, .int x3)], [], mk X, σ) := by
  unfold f_X5_write_15 at h
  refine Ex.blk 1000 rfl ?_
  rcases ite_sp h with ⟨c1, h⟩ | ⟨c1, h⟩
  · refine And.intro (fun _ => ?_) (fun hn => absurd c1 hn)
    show Ex mr_X5_write sc (Cl MT pr sc (d + 0)) (rtE none (mk X) σ2) (49, [(0, .ref 11), (1, .int x1), (2, .int x2), (3, .int x3)], [], mk X, σ)
    refine Ex.pick (lv' := _) [0, 1, 2] rfl ?_
    exact lk_X5_write_49 d _ hk3 _ _ _ h
  · refine And.intro (fun hp => absurd hp c1) (fun _ => ?_)
    show Ex mr_X5_write sc (Cl MT pr sc (d + 0)) (rtE none (mk X) σ2) (19, [(0, .ref 11), (1, .int x1), (2, .int x2), (3, .int x3)], [], mk X, σ)
    refine Ex.blk 1000 rfl ?_
    rcases ite_sp h with ⟨c2, h⟩ | ⟨c2, h⟩
    · refine And.intro (fun _ => ?_) (fun hn => absurd c2 hn)
      show Ex mr_X5_write sc (Cl MT pr sc (d + 0)) (rtE none (mk X) σ2) (49, [(0, .ref 11), (1, .int x1), (2, .int x2), (3, .int x3)], [], mk X, σ)
      refine Ex.pick (lv' := _) [0, 1, 2] rfl ?_
      exact lk_X5_write_49 d _ hk3 _ _ _ h
    · refine And.intro (fun hp => absurd hp c2) (fun _ => ?_)
      show Ex mr_X5_write sc (Cl MT pr sc (d + 0)) (rtE none (mk X) σ2) (29, [(0, .ref 11), (1, .int x1), (2, .int x2), (3, .int x3)], [], mk X, σ)
      refine Ex.blk 5 rfl ?_
      show Ex mr_X5_write sc (Cl MT pr sc (d + 0)) (rtE none (mk X) σ2) (38, [(0, .ref 11), (1, .int x1), (2, .int x2), (3, .int x3)], [.int x3, .int (gI σ 11 1), .ref 12], mk X, σ)
      refine Ex.blk 1 rfl ?_
      obtain ⟨g3, h⟩ := gd_some h
      refine And.intro (inb_ok g3) ?_
      show Ex mr_X5_write sc (Cl MT pr sc (d + 0)) (rtE none (mk X) σ2) (39, [(0, .ref 11), (1, .int x1), (2, .int x2), (3, .int x3)], [], mk X, (sI σ 12 (gI σ 11 1).toNatClampNeg x3))
      refine Ex.blk 5 rfl ?_
      show Ex mr_X5_write sc (Cl MT pr sc (d + 0)) (rtE none (mk X) σ2) (46, [(0, .ref 11), (1, .int x1), (2, .int x2), (3, .int x3)], [.int ((gI (sI σ 12 (gI σ 11 1).toNatClampNeg x3) 11 1) + 1), .ref 11], mk X, (sI σ 12 (gI σ 11 1).toNatClampNeg x3))
      refine Ex.blk 1000 rfl ?_
      show Ex mr_X5_write sc (Cl MT pr sc (d + 0)) (rtE none (mk X) σ2) (49, [(0, .ref 11), (1, .int x1), (2, .int x2), (3, .int x3)], [], mk X, (sI (sI σ 12 (gI σ 11 1).toNatClampNeg x3) 11 1 ((gI (sI σ 12 (gI σ 11 1).toNatClampNeg x3) 11 1) + 1)))
      refine Ex.pick (lv' := _) [0, 1, 2] rfl ?_
      exact lk_X5_write_49 d _ hk3 _ _ _ h
theorem lk_X5_write_3 {pr : Ct} {sc : Nat × (Nat → Int32)} {X : En} (d : Nat) {σ2 : St} : ∀ (n : Nat) (x1 : Int32) (x2 : Int32) (σ : St), f_X5_write_3 n x1 x2 σ = some σ2 → Ex mr_X5_write sc (Cl MT pr sc (d + 0)) (rtE none (mk X) σ2) (3, [(0, .ref 11), (1, .int x1), (2, .int x2)], [], mk X, σ) := by
  intro n
  induction n with
  | zero =>
    intro x1 x2 σ h
    cases h
  | succ n ih =>
    intro x1 x2 σ h
    simp only [f_X5_write_3] at h
    refine Ex.blk 1000 rfl ?_
    rcases ite_sp h with ⟨c1, h⟩ | ⟨c1, h⟩
    · refine And.intro (fun _ => ?_) (fun hn => absurd c1 hn)
      show Ex mr_X5_write sc (Cl MT pr sc (d + 0)) (rtE none (mk X) σ2) (55, [(0, .ref 11), (1, .int x1), (2, .int x2)], [], mk X, σ)
      refine Ex.blk 1000 rfl ?_
      cases h
      exact And.intro trivial ⟨rfl, rfl, rfl⟩
    · refine And.intro (fun hp => absurd hp c1) (fun _ => ?_)
      show Ex mr_X5_write sc (Cl MT pr sc (d + 0)) (rtE none (mk X) σ2) (7, [(0, .ref 11), (1, .int x1), (2, .int x2)], [], mk X, σ)
      refine Ex.blk 5 rfl ?_
      show Ex mr_X5_write sc (Cl MT pr sc (d + 0)) (rtE none (mk X) σ2) (14, [(0, .ref 11), (1, .int x1), (2, .int x2)], [.int ((ushI x1 x2) &&& 255)], mk X, σ)
      refine Ex.blk 1 rfl ?_
      show Ex mr_X5_write sc (Cl MT pr sc (d + 0)) (rtE none (mk X) σ2) (15, [(3, .int ((ushI x1 x2) &&& 255)), (0, .ref 11), (1, .int x1), (2, .int x2)], [], mk X, σ)
      refine Ex.pick (lv' := _) [1, 2, 3, 0] rfl ?_
      exact lk_X5_write_15 d _ ih _ _ _ _ h
theorem cl_X5_write {pr : Ct} {sc : Nat × (Nat → Int32)} {X : En} (d : Nat) {σ2 : St} {x1 : Int32} {σ : St} (h : f_X5_write x1 σ = some σ2) : Cl MT pr sc (d + 0 + 1) 48 [.ref 11, .int x1] (mk X) σ none (mk X) σ2 := by
  refine cl_of mr_X5_write rfl rfl ?_
  unfold f_X5_write at h
  refine Ex.blk 1000 rfl ?_
  show Ex mr_X5_write sc (Cl MT pr sc (d + 0)) (rtE none (mk X) σ2) (3, [(2, .int 24), (0, .ref 11), (1, .int x1)], [], mk X, σ)
  refine Ex.pick (lv' := _) [1, 2, 0] rfl ?_
  exact lk_X5_write_3 d FU _ _ _ h
theorem lk_X5_isNext_29 {pr : Ct} {sc : Nat × (Nat → Int32)} {X : En} (d : Nat) {r : Int32} {σ2 : St} (y0 : Int32) (σ : St) (h : f_X5_isNext_29 y0 σ = some (r, σ2)) : Ex mr_X5_isNext sc (Cl MT pr sc (d + 0)) (rtE (some (.int r)) (mk X) σ2) (29, [], [.int y0], mk X, σ) := by
  unfold f_X5_isNext_29 at h
  refine Ex.blk 1000 rfl ?_
  obtain ⟨g1, h⟩ := gd_some h
  cases h
  exact And.intro (isbb_ok g1) ⟨rfl, rfl, rfl⟩
theorem lk_X5_isNext_28 {pr : Ct} {sc : Nat × (Nat → Int32)} {X : En} (d : Nat) {r : Int32} {σ2 : St} (σ : St) (h : f_X5_isNext_28 σ = some (r, σ2)) : Ex mr_X5_isNext sc (Cl MT pr sc (d + 0)) (rtE (some (.int r)) (mk X) σ2) (28, [], [], mk X, σ) := by
  unfold f_X5_isNext_28 at h
  refine Ex.blk 1000 rfl ?_
  show Ex mr_X5_isNext sc (Cl MT pr sc (d + 0)) (rtE (some (.int r)) (mk X) σ2) (29, [], [.int 0], mk X, σ)
  exact lk_X5_isNext_29 d _ _ h
theorem cl_X5_isNext {pr : Ct} {sc : Nat × (Nat → Int32)} {X : En} (d : Nat) {r : Int32} {σ2 : St} {x1 : Int32} {σ : St} (h : f_X5_isNext x1 σ = some (r, σ2)) : Cl MT pr sc (d + 0 + 1) 49 [.ref 11, .int x1] (mk X) σ (some (.int r)) (mk X) σ2 := by
  refine cl_of mr_X5_isNext rfl rfl ?_
  unfold f_X5_isNext at h
  refine Ex.blk 1000 rfl ?_
  rcases ite_sp h with ⟨c1, h⟩ | ⟨c1, h⟩
  · refine And.intro (fun _ => ?_) (fun hn => absurd c1 hn)
    show Ex mr_X5_isNext sc (Cl MT pr sc (d + 0)) (rtE (some (.int r)) (mk X) σ2) (28, [(0, .ref 11), (1, .int x1)], [], mk X, σ)
    refine Ex.pick (lv' := _) [] rfl ?_
    exact lk_X5_isNext_28 d _ h
  · refine And.intro (fun hp => absurd hp c1) (fun _ => ?_)
    show Ex mr_X5_isNext sc (Cl MT pr sc (d + 0)) (rtE (some (.int r)) (mk X) σ2) (11, [(0, .ref 11), (1, .int x1)], [], mk X, σ)
    refine Ex.blk 5 rfl ?_
    obtain ⟨g2, h⟩ := gd_some h
    refine And.intro (inb_ok g2) ?_
    show Ex mr_X5_isNext sc (Cl MT pr sc (d + 0)) (rtE (some (.int r)) (mk X) σ2) (20, [(0, .ref 11), (1, .int x1)], [.int (gI σ 12 (gI σ 11 4).toNatClampNeg)], mk X, σ)
    refine Ex.blk 1000 rfl ?_
    rcases ite_sp h with ⟨c3, h⟩ | ⟨c3, h⟩
    · refine And.intro (fun hp => absurd c3 hp) (fun _ => ?_)
      show Ex mr_X5_isNext sc (Cl MT pr sc (d + 0)) (rtE (some (.int r)) (mk X) σ2) (24, [(0, .ref 11), (1, .int x1)], [], mk X, σ)
      refine Ex.blk 1000 rfl ?_
      show Ex mr_X5_isNext sc (Cl MT pr sc (d + 0)) (rtE (some (.int r)) (mk X) σ2) (29, [(0, .ref 11), (1, .int x1)], [.int 1], mk X, σ)
      refine Ex.pick (lv' := _) [] rfl ?_
      exact lk_X5_isNext_29 d _ _ h
    · refine And.intro (fun _ => ?_) (fun hn => absurd c3 hn)
      show Ex mr_X5_isNext sc (Cl MT pr sc (d + 0)) (rtE (some (.int r)) (mk X) σ2) (28, [(0, .ref 11), (1, .int x1)], [], mk X, σ)
      refine Ex.pick (lv' := _) [] rfl ?_
      exact lk_X5_isNext_28 d _ h
theorem lk_X5_skipBlanks_38 {pr : Ct} {sc : Nat × (Nat → Int32)} {X : En} (d : Nat) {σ2 : St} (σ : St) (h : f_X5_skipBlanks_38 σ = some σ2) : Ex mr_X5_skipBlanks sc (Cl MT pr sc (d + 0)) (rtE none (mk X) σ2) (38, [], [], mk X, σ) := by
  unfold f_X5_skipBlanks_38 at h
  refine Ex.blk 1000 rfl ?_
  cases h
  exact And.intro trivial ⟨rfl, rfl, rfl⟩
theorem lk_X5_skipBlanks_0 {pr : Ct} {sc : Nat × (Nat → Int32)} {X : En} (d : Nat) {σ2 : St} : ∀ (n : Nat) (σ : St), f_X5_skipBlanks_0 n σ = some σ2 → Ex mr_X5_skipBlanks sc (Cl MT pr sc (d + 0)) (rtE none (mk X) σ2) (0, [(0, .ref 11)], [], mk X, σ) := by
  intro n
  induction n with
  | zero =>
    intro σ h
    cases h
  | succ n ih =>
    intro σ h
    simp only [f_X5_skipBlanks_0] at h
    refine Ex.blk 1000 rfl ?_
    rcases ite_sp h with ⟨c1, h⟩ | ⟨c1, h⟩
    · refine And.intro (fun _ => ?_) (fun hn => absurd c1 hn)
      show Ex mr_X5_skipBlanks sc (Cl MT pr sc (d + 0)) (rtE none (mk X) σ2) (38, [(0, .ref 11)], [], mk X, σ)
      refine Ex.pick (lv' := _) [] rfl ?_
      exact lk_X5_skipBlanks_38 d _ h
    · refine And.intro (fun hp => absurd hp c1) (fun _ => ?_)
      show Ex mr_X5_skipBlanks sc (Cl MT pr sc (d + 0)) (rtE none (mk X) σ2) (11, [(0, .ref 11)], [], mk X, σ)
      refine Ex.blk 5 rfl ?_
      obtain ⟨g2, h⟩ := gd_some h
      refine And.intro (inb_ok g2) ?_
      show Ex mr_X5_skipBlanks sc (Cl MT pr sc (d + 0)) (rtE none (mk X) σ2) (20, [(0, .ref 11)], [.int (gI σ 12 (gI σ 11 4).toNatClampNeg)], mk X, σ)
      refine Ex.blk 1000 rfl ?_
      rcases ite_sp h with ⟨c3, h⟩ | ⟨c3, h⟩
      · refine And.intro (fun hp => absurd c3 hp) (fun _ => ?_)
        show Ex mr_X5_skipBlanks sc (Cl MT pr sc (d + 0)) (rtE none (mk X) σ2) (25, [(0, .ref 11)], [], mk X, σ)
        refine Ex.blk 5 rfl ?_
        show Ex mr_X5_skipBlanks sc (Cl MT pr sc (d + 0)) (rtE none (mk X) σ2) (32, [(0, .ref 11)], [.int ((gI σ 11 4) + 1), .ref 11], mk X, σ)
        refine Ex.blk 1000 rfl ?_
        show Ex mr_X5_skipBlanks sc (Cl MT pr sc (d + 0)) (rtE none (mk X) σ2) (0, [(0, .ref 11)], [], mk X, (sI σ 11 4 ((gI σ 11 4) + 1)))
        exact ih _ h
      · refine And.intro (fun _ => ?_) (fun hn => absurd c3 hn)
        show Ex mr_X5_skipBlanks sc (Cl MT pr sc (d + 0)) (rtE none (mk X) σ2) (38, [(0, .ref 11)], [], mk X, σ)
        refine Ex.pick (lv' := _) [] rfl ?_
        exact lk_X5_skipBlanks_38 d _ h
theorem cl_X5_skipBlanks {pr : Ct} {sc : Nat × (Nat → Int32)} {X : En} (d : Nat) {σ2 : St} {σ : St} (h : f_X5_skipBlanks σ = some σ2) : Cl MT pr sc (d + 0 + 1) 50 [.ref 11] (mk X) σ none (mk X) σ2 := by
  refine cl_of mr_X5_skipBlanks rfl rfl ?_
  unfold f_X5_skipBlanks at h
  exact lk_X5_skipBlanks_0 d FU _ h
theorem lk_X5_readNumber_98 {pr : Ct} {sc : Nat × (Nat → Int32)} {X : En} (d : Nat) {r : Int32} {σ2 : St} (y0 : Int32) (σ : St) (h : f_X5_readNumber_98 y0 σ = some (r, σ2)) : Ex mr_X5_readNumber sc (Cl MT pr sc (d + 1)) (rtE (some (.int r)) (mk X) σ2) (98, [(0, .ref 11)], [.int y0], mk X, σ) := by
  unfold f_X5_readNumber_98 at h
  refine Ex.blk 3 rfl ?_
  obtain ⟨p1, hp1, h⟩ := bind_sp h
  refine Exists.intro none (Exists.intro (mk X) (Exists.intro p1 (And.intro (cl_X5_skipBlanks (d + 0) hp1) ?_)))
  show Ex mr_X5_readNumber sc (Cl MT pr sc (d + 1)) (rtE (some (.int r)) (mk X) σ2) (104, [(4, .int y0), (0, .ref 11)], [], mk X, p1)
  refine Ex.blk 1000 rfl ?_
  obtain ⟨g1, h⟩ := gd_some h
  cases h
  exact And.intro (isbb_ok g1) ⟨rfl, rfl, rfl⟩
theorem lk_X5_readNumber_78 {pr : Ct} {sc : Nat × (Nat → Int32)} {X : En} (d : Nat) {r : Int32} {σ2 : St} (x1 : Int32) (x2 : Int32) (x3 : Int32) (σ : St) (h : f_X5_readNumber_78 x1 x2 x3 σ = some (r, σ2)) : Ex mr_X5_readNumber sc (Cl MT pr sc (d + 1)) (rtE (some (.int r)) (mk X) σ2) (78, [(0, .ref 11), (1, .int x1), (2, .int x2), (3, .int x3)], [], mk X, σ) := by
  unfold f_X5_readNumber_78 at h
  refine Ex.blk 5 rfl ?_
  obtain ⟨g1, h⟩ := gd_some h
  refine And.intro (inb_ok g1) ?_
  show Ex mr_X5_readNumber sc (Cl MT pr sc (d + 1)) (rtE (some (.int r)) (mk X) σ2) (85, [(0, .ref 11), (1, .int x1), (2, .int x2), (3, .int x3)], [], mk X, (sI σ 13 x1.toNatClampNeg x3))
  refine Ex.blk 1000 rfl ?_
  rcases ite_sp h with ⟨c2, h⟩ | ⟨c2, h⟩
  · refine And.intro (fun _ => ?_) (fun hn => absurd c2 hn)
    show Ex mr_X5_readNumber sc (Cl MT pr sc (d + 1)) (rtE (some (.int r)) (mk X) σ2) (97, [(0, .ref 11), (1, .int x1), (2, .int x2), (3, .int x3)], [], mk X, (sI σ 13 x1.toNatClampNeg x3))
    refine Ex.blk 1000 rfl ?_
    show Ex mr_X5_readNumber sc (Cl MT pr sc (d + 1)) (rtE (some (.int r)) (mk X) σ2) (98, [(0, .ref 11), (1, .int x1), (2, .int x2), (3, .int x3)], [.int 0], mk X, (sI σ 13 x1.toNatClampNeg x3))
    refine Ex.pick (lv' := _) [0] rfl ?_
    exact lk_X5_readNumber_98 d _ _ h
  · refine And.intro (fun hp => absurd hp c2) (fun _ => ?_)
    show Ex mr_X5_readNumber sc (Cl MT pr sc (d + 1)) (rtE (some (.int r)) (mk X) σ2) (93, [(0, .ref 11), (1, .int x1), (2, .int x2), (3, .int x3)], [], mk X, (sI σ 13 x1.toNatClampNeg x3))
    refine Ex.blk 1000 rfl ?_
    show Ex mr_X5_readNumber sc (Cl MT pr sc (d + 1)) (rtE (some (.int r)) (mk X) σ2) (98, [(0, .ref 11), (1, .int x1), (2, .int x2), (3, .int x3)], [.int 1], mk X, (sI σ 13 x1.toNatClampNeg x3))
    refine Ex.pick (lv' := _) [0] rfl ?_
    exact lk_X5_readNumber_98 d _ _ h
theorem lk_X5_readNumber_65 {pr : Ct} {sc : Nat × (Nat → Int32)} {X : En} (d : Nat) {r : Int32} {σ2 : St} (k7 : Int32 → Int32 → Int32 → St → Option (Int32 × St)) (hk7 : ∀ (x1 : Int32) (x2 : Int32) (x3 : Int32) (σ : St), k7 x1 x2 x3 σ = some (r, σ2) → Ex mr_X5_readNumber sc (Cl MT pr sc (d + 1)) (rtE (some (.int r)) (mk X) σ2) (7, [(0, .ref 11), (1, .int x1), (2, .int x2), (3, .int x3)], [], mk X, σ)) (x1 : Int32) (x2 : Int32) (x3 : Int32) (σ : St) (h : f_X5_readNumber_65 k7 x1 x2 x3 σ = some (r, σ2)) : Ex mr_X5_readNumber sc (Cl MT pr sc (d + 1)) (rtE (some (.int r)) (mk X) σ2) (65, [(0, .ref 11), (1, .int x1), (2, .int x2), (3, .int x3)], [], mk X, σ) := by
  unfold f_X5_readNumber_65 at h
  refine Ex.blk 5 rfl ?_
  show Ex mr_X5_readNumber sc (Cl MT pr sc (d + 1)) (rtE (some (.int r)) (mk X) σ2) (72, [(0, .ref 11), (1, .int x1), (2, .int x2), (3, .int x3)], [.int ((gI σ 11 4) + 1), .ref 11], mk X, σ)
  refine Ex.blk 1000 rfl ?_
  show Ex mr_X5_readNumber sc (Cl MT pr sc (d + 1)) (rtE (some (.int r)) (mk X) σ2) (7, [(0, .ref 11), (1, .int x1), (2, .int x2), (3, .int x3)], [], mk X, (sI σ 11 4 ((gI σ 11 4) + 1)))
  exact hk7 _ _ _ _ h
theorem lk_X5_readNumber_7 {pr : Ct} {sc : Nat × (Nat → Int32)} {X : En} (d : Nat) {r : Int32} {σ2 : St} : ∀ (n : Nat) (x1 : Int32) (x2 : Int32) (x3 : Int32) (σ : St), f_X5_readNumber_7 n x1 x2 x3 σ = some (r, σ2) → Ex mr_X5_readNumber sc (Cl MT pr sc (d + 1)) (rtE (some (.int r)) (mk X) σ2) (7, [(0, .ref 11), (1, .int x1), (2, .int x2), (3, .int x3)], [], mk X, σ) := by
  intro n
  induction n with
  | zero =>
    intro x1 x2 x3 σ h
    cases h
  | succ n ih =>
    intro x1 x2 x3 σ h
    simp only [f_X5_readNumber_7] at h
    refine Ex.blk 1000 rfl ?_
    rcases ite_sp h with ⟨c1, h⟩ | ⟨c1, h⟩
    · refine And.intro (fun _ => ?_) (fun hn => absurd c1 hn)
      show Ex mr_X5_readNumber sc (Cl MT pr sc (d + 1)) (rtE (some (.int r)) (mk X) σ2) (78, [(0, .ref 11), (1, .int x1), (2, .int x2), (3, .int x3)], [], mk X, σ)
      exact lk_X5_readNumber_78 d _ _ _ _ h
    · refine And.intro (fun hp => absurd hp c1) (fun _ => ?_)
      show Ex mr_X5_readNumber sc (Cl MT pr sc (d + 1)) (rtE (some (.int r)) (mk X) σ2) (18, [(0, .ref 11), (1, .int x1), (2, .int x2), (3, .int x3)], [], mk X, σ)
      refine Ex.blk 5 rfl ?_
      show Ex mr_X5_readNumber sc (Cl MT pr sc (d + 1)) (rtE (some (.int r)) (mk X) σ2) (26, [(0, .ref 11), (1, .int x1), (2, .int x2), (3, .int x3)], [.int (x2 + 9), .int (gI σ 11 4)], mk X, σ)
      refine Ex.blk 1000 rfl ?_
      rcases ite_sp h with ⟨c2, h⟩ | ⟨c2, h⟩
      · refine And.intro (fun _ => ?_) (fun hn => absurd c2 hn)
        show Ex mr_X5_readNumber sc (Cl MT pr sc (d + 1)) (rtE (some (.int r)) (mk X) σ2) (78, [(0, .ref 11), (1, .int x1), (2, .int x2), (3, .int x3)], [], mk X, σ)
        exact lk_X5_readNumber_78 d _ _ _ _ h
      · refine And.intro (fun hp => absurd hp c2) (fun _ => ?_)
        show Ex mr_X5_readNumber sc (Cl MT pr sc (d + 1)) (rtE (some (.int r)) (mk X) σ2) (29, [(0, .ref 11), (1, .int x1), (2, .int x2), (3, .int x3)], [], mk X, σ)
        refine Ex.blk 5 rfl ?_
        obtain ⟨g3, h⟩ := gd_some h
        refine And.intro (inb_ok g3) ?_
        show Ex mr_X5_readNumber sc (Cl MT pr sc (d + 1)) (rtE (some (.int r)) (mk X) σ2) (38, [(0, .ref 11), (1, .int x1), (2, .int x2), (3, .int x3)], [.int (gI σ 12 (gI σ 11 4).toNatClampNeg)], mk X, σ)
        refine Ex.blk 3 rfl ?_
        obtain ⟨p2, hp2, h⟩ := bind_sp h
        refine Exists.intro (some (.int p2.1)) (Exists.intro (mk X) (Exists.intro p2.2 (And.intro (cl_X9_isDigit (d + 0) hp2) ?_)))
        show Ex mr_X5_readNumber sc (Cl MT pr sc (d + 1)) (rtE (some (.int r)) (mk X) σ2) (44, [(0, .ref 11), (1, .int x1), (2, .int x2), (3, .int x3)], [.int p2.1], mk X, p2.2)
        refine Ex.blk 1000 rfl ?_
        rcases ite_sp h with ⟨c4, h⟩ | ⟨c4, h⟩
        · refine And.intro (fun _ => ?_) (fun hn => absurd c4 hn)
          show Ex mr_X5_readNumber sc (Cl MT pr sc (d + 1)) (rtE (some (.int r)) (mk X) σ2) (78, [(0, .ref 11), (1, .int x1), (2, .int x2), (3, .int x3)], [], mk X, p2.2)
          exact lk_X5_readNumber_78 d _ _ _ _ h
        · refine And.intro (fun hp => absurd hp c4) (fun _ => ?_)
          show Ex mr_X5_readNumber sc (Cl MT pr sc (d + 1)) (rtE (some (.int r)) (mk X) σ2) (47, [(0, .ref 11), (1, .int x1), (2, .int x2), (3, .int x3)], [], mk X, p2.2)
          refine Ex.blk 5 rfl ?_
          show Ex mr_X5_readNumber sc (Cl MT pr sc (d + 1)) (rtE (some (.int r)) (mk X) σ2) (55, [(0, .ref 11), (1, .int x1), (2, .int x2), (3, .int x3)], [.ref 12, .int (10 * x3)], mk X, p2.2)
          refine Ex.blk 3 rfl ?_
          obtain ⟨g5, h⟩ := gd_some h
          refine And.intro (inb_ok g5) ?_
          show Ex mr_X5_readNumber sc (Cl MT pr sc (d + 1)) (rtE (some (.int r)) (mk X) σ2) (60, [(0, .ref 11), (1, .int x1), (2, .int x2), (3, .int x3)], [.int (gI p2.2 12 (gI p2.2 11 4).toNatClampNeg), .int (10 * x3)], mk X, p2.2)
          refine Ex.blk 4 rfl ?_
          show Ex mr_X5_readNumber sc (Cl MT pr sc (d + 1)) (rtE (some (.int r)) (mk X) σ2) (65, [(3, .int (((10 * x3) + (gI p2.2 12 (gI p2.2 11 4).toNatClampNeg)) - 48)), (0, .ref 11), (1, .int x1), (2, .int x2)], [], mk X, p2.2)
          refine Ex.pick (lv' := _) [1, 2, 3, 0] rfl ?_
          exact lk_X5_readNumber_65 d _ ih _ _ _ _ h
theorem lk_X5_readNumber_5 {pr : Ct} {sc : Nat × (Nat → Int32)} {X : En} (d : Nat) {r : Int32} {σ2 : St} (x1 : Int32) (x2 : Int32) (σ : St) (h : f_X5_readNumber_5 x1 x2 σ = some (r, σ2)) : Ex mr_X5_readNumber sc (Cl MT pr sc (d + 1)) (rtE (some (.int r)) (mk X) σ2) (5, [(0, .ref 11), (1, .int x1), (2, .int x2)], [], mk X, σ) := by
  unfold f_X5_readNumber_5 at h
  refine Ex.blk 1000 rfl ?_
  show Ex mr_X5_readNumber sc (Cl MT pr sc (d + 1)) (rtE (some (.int r)) (mk X) σ2) (7, [(3, .int 0), (0, .ref 11), (1, .int x1), (2, .int x2)], [], mk X, σ)
  refine Ex.pick (lv' := _) [1, 2, 3, 0] rfl ?_
  exact lk_X5_readNumber_7 d FU _ _ _ _ h
theorem cl_X5_readNumber {pr : Ct} {sc : Nat × (Nat → Int32)} {X : En} (d : Nat) {r : Int32} {σ2 : St} {x1 : Int32} {σ : St} (h : f_X5_readNumber x1 σ = some (r, σ2)) : Cl MT pr sc (d + 1 + 1) 52 [.ref 11, .int x1] (mk X) σ (some (.int r)) (mk X) σ2 := by
  refine cl_of mr_X5_readNumber rfl rfl ?_
  unfold f_X5_readNumber at h
  refine Ex.blk 3 rfl ?_
  show Ex mr_X5_readNumber sc (Cl MT pr sc (d + 1)) (rtE (some (.int r)) (mk X) σ2) (5, [(2, .int (gI σ 11 4)), (0, .ref 11), (1, .int x1)], [], mk X, σ)
  refine Ex.pick (lv' := _) [1, 2, 0] rfl ?_
  exact lk_X5_readNumber_5 d _ _ _ h
theorem lk_X5_readOften_53 {pr : Ct} {sc : Nat × (Nat → Int32)} {X : En} (d : Nat) {r : Int32} {σ2 : St} (σ : St) (h : f_X5_readOften_53 σ = some (r, σ2)) : Ex mr_X5_readOften sc (Cl MT pr sc (d + 1)) (rtE (some (.int r)) (mk X) σ2) (53, [], [], mk X, σ) := by
  unfold f_X5_readOften_53 at h
  refine Ex.blk 1000 rfl ?_
  cases h
  exact And.intro isb_0 ⟨rfl, rfl, rfl⟩
theorem lk_X5_readOften_72 {pr : Ct} {sc : Nat × (Nat → Int32)} {X : En} (d : Nat) {r : Int32} {σ2 : St} (σ : St) (h : f_X5_readOften_72 σ = some (r, σ2)) : Ex mr_X5_readOften sc (Cl MT pr sc (d + 1)) (rtE (some (.int r)) (mk X) σ2) (72, [(0, .ref 11)], [], mk X, σ) := by
  unfold f_X5_readOften_72 at h
  refine Ex.blk 2 rfl ?_
  obtain ⟨p2, hp2, h⟩ := bind_sp h
  refine Exists.intro none (Exists.intro (mk X) (Exists.intro p2 (And.intro (cl_X5_skipBlanks (d + 0) hp2) ?_)))
  show Ex mr_X5_readOften sc (Cl MT pr sc (d + 1)) (rtE (some (.int r)) (mk X) σ2) (76, [(0, .ref 11)], [], mk X, p2)
  refine Ex.blk 1000 rfl ?_
  cases h
  exact And.intro isb_1 ⟨rfl, rfl, rfl⟩
theorem lk_X5_readOften_41 {pr : Ct} {sc : Nat × (Nat → Int32)} {X : En} (d : Nat) {r : Int32} {σ2 : St} (x1 : Int32) (y0 : Int32) (σ : St) (h : f_X5_readOften_41 x1 y0 σ = some (r, σ2)) : Ex mr_X5_readOften sc (Cl MT pr sc (d + 1)) (rtE (some (.int r)) (mk X) σ2) (41, [(0, .ref 11), (1, .int x1)], [.int y0], mk X, σ) := by
  unfold f_X5_readOften_41 at h
  refine Ex.blk 1000 rfl ?_
  rcases ite_sp h with ⟨c1, h⟩ | ⟨c1, h⟩
  · refine And.intro (fun _ => ?_) (fun hn => absurd c1 hn)
    show Ex mr_X5_readOften sc (Cl MT pr sc (d + 1)) (rtE (some (.int r)) (mk X) σ2) (53, [(2, .int y0), (0, .ref 11), (1, .int x1)], [], mk X, σ)
    refine Ex.pick (lv' := _) [] rfl ?_
    exact lk_X5_readOften_53 d _ h
  · refine And.intro (fun hp => absurd hp c1) (fun _ => ?_)
    show Ex mr_X5_readOften sc (Cl MT pr sc (d + 1)) (rtE (some (.int r)) (mk X) σ2) (47, [(2, .int y0), (0, .ref 11), (1, .int x1)], [], mk X, σ)
    refine Ex.blk 1000 rfl ?_
    rcases ite_sp h with ⟨c2, h⟩ | ⟨c2, h⟩
    · refine And.intro (fun _ => ?_) (fun hn => absurd c2 hn)
      show Ex mr_X5_readOften sc (Cl MT pr sc (d + 1)) (rtE (some (.int r)) (mk X) σ2) (55, [(2, .int y0), (0, .ref 11), (1, .int x1)], [], mk X, σ)
      refine Ex.blk 5 rfl ?_
      obtain ⟨g3, h⟩ := gd_some h
      refine And.intro (inb_ok g3) ?_
      show Ex mr_X5_readOften sc (Cl MT pr sc (d + 1)) (rtE (some (.int r)) (mk X) σ2) (62, [(2, .int y0), (0, .ref 11), (1, .int x1)], [], mk X, (sI σ 13 x1.toNatClampNeg y0))
      refine Ex.blk 5 rfl ?_
      show Ex mr_X5_readOften sc (Cl MT pr sc (d + 1)) (rtE (some (.int r)) (mk X) σ2) (69, [(2, .int y0), (0, .ref 11), (1, .int x1)], [.int ((gI (sI σ 13 x1.toNatClampNeg y0) 11 4) + 1), .ref 11], mk X, (sI σ 13 x1.toNatClampNeg y0))
      refine Ex.blk 1 rfl ?_
      show Ex mr_X5_readOften sc (Cl MT pr sc (d + 1)) (rtE (some (.int r)) (mk X) σ2) (72, [(2, .int y0), (0, .ref 11), (1, .int x1)], [], mk X, (sI (sI σ 13 x1.toNatClampNeg y0) 11 4 ((gI (sI σ 13 x1.toNatClampNeg y0) 11 4) + 1)))
      refine Ex.pick (lv' := _) [1] rfl ?_
      exact lk_X5_readOften_72 d _ h
    · refine And.intro (fun hp => absurd hp c2) (fun _ => ?_)
      show Ex mr_X5_readOften sc (Cl MT pr sc (d + 1)) (rtE (some (.int r)) (mk X) σ2) (53, [(2, .int y0), (0, .ref 11), (1, .int x1)], [], mk X, σ)
      refine Ex.pick (lv' := _) [] rfl ?_
      exact lk_X5_readOften_53 d _ h
theorem cl_X5_readOften {pr : Ct} {sc : Nat × (Nat → Int32)} {X : En} (d : Nat) {r : Int32} {σ2 : St} {x1 : Int32} {σ : St} (h : f_X5_readOften x1 σ = some (r, σ2)) : Cl MT pr sc (d + 1 + 1) 53 [.ref 11, .int x1] (mk X) σ (some (.int r)) (mk X) σ2 := by
  refine cl_of mr_X5_readOften rfl rfl ?_
  unfold f_X5_readOften at h
  refine Ex.blk 5 rfl ?_
  show Ex mr_X5_readOften sc (Cl MT pr sc (d + 1)) (rtE (some (.int r)) (mk X) σ2) (7, [(0, .ref 11), (1, .int x1)], [.int ((gI σ 11 4) + 1), .ref 11], mk X, σ)
  refine Ex.blk 3 rfl ?_
  obtain ⟨p1, hp1, h⟩ := bind_sp h
  refine Exists.intro none (Exists.intro (mk X) (Exists.intro p1 (And.intro (cl_X5_skipBlanks (d + 0) hp1) ?_)))
  show Ex mr_X5_readOften sc (Cl MT pr sc (d + 1)) (rtE (some (.int r)) (mk X) σ2) (14, [(0, .ref 11), (1, .int x1)], [], mk X, p1)
  refine Ex.blk 1000 rfl ?_
  rcases ite_sp h with ⟨c1, h⟩ | ⟨c1, h⟩
  · refine And.intro (fun _ => ?_) (fun hn => absurd c1 hn)
    show Ex mr_X5_readOften sc (Cl MT pr sc (d + 1)) (rtE (some (.int r)) (mk X) σ2) (40, [(0, .ref 11), (1, .int x1)], [], mk X, p1)
    refine Ex.blk 1000 rfl ?_
    show Ex mr_X5_readOften sc (Cl MT pr sc (d + 1)) (rtE (some (.int r)) (mk X) σ2) (41, [(0, .ref 11), (1, .int x1)], [.int 0], mk X, p1)
    exact lk_X5_readOften_41 d _ _ _ h
  · refine And.intro (fun hp => absurd hp c1) (fun _ => ?_)
    show Ex mr_X5_readOften sc (Cl MT pr sc (d + 1)) (rtE (some (.int r)) (mk X) σ2) (25, [(0, .ref 11), (1, .int x1)], [], mk X, p1)
    refine Ex.blk 5 rfl ?_
    obtain ⟨g2, h⟩ := gd_some h
    refine And.intro (inb_ok g2) ?_
    show Ex mr_X5_readOften sc (Cl MT pr sc (d + 1)) (rtE (some (.int r)) (mk X) σ2) (34, [(0, .ref 11), (1, .int x1)], [.int (gI p1 12 (gI p1 11 4).toNatClampNeg)], mk X, p1)
    refine Ex.blk 1000 rfl ?_
    show Ex mr_X5_readOften sc (Cl MT pr sc (d + 1)) (rtE (some (.int r)) (mk X) σ2) (41, [(0, .ref 11), (1, .int x1)], [.int ((gI p1 12 (gI p1 11 4).toNatClampNeg) - 48)], mk X, p1)
    exact lk_X5_readOften_41 d _ _ _ h
theorem lk_X6_driveFrom_174 {pr : Ct} {sc : Nat × (Nat → Int32)} {X : En} (d : Nat) {σ2 : St} (σ : St) (h : f_X6_driveFrom_174 σ = some σ2) : Ex mr_X6_driveFrom sc (Cl MT pr sc (d + 1)) (rtE none (mk X) σ2) (174, [], [], mk X, σ) := by
  unfold f_X6_driveFrom_174 at h
  refine Ex.blk 1000 rfl ?_
  cases h
  exact And.intro trivial ⟨rfl, rfl, rfl⟩
theorem lk_X6_driveFrom_156 {pr : Ct} {sc : Nat × (Nat → Int32)} {X : En} (d : Nat) {σ2 : St} (x6 : Int32) (σ : St) (h : f_X6_driveFrom_156 x6 σ = some σ2) : Ex mr_X6_driveFrom sc (Cl MT pr sc (d + 1)) (rtE none (mk X) σ2) (156, [(0, .ref 21), (6, .int x6)], [], mk X, σ) := by
  unfold f_X6_driveFrom_156 at h
  refine Ex.blk 1000 rfl ?_
  rcases ite_sp h with ⟨c1, h⟩ | ⟨c1, h⟩
  · refine And.intro (fun _ => ?_) (fun hn => absurd c1 hn)
    show Ex mr_X6_driveFrom sc (Cl MT pr sc (d + 1)) (rtE none (mk X) σ2) (174, [(0, .ref 21), (6, .int x6)], [], mk X, σ)
    refine Ex.pick (lv' := _) [] rfl ?_
    exact lk_X6_driveFrom_174 d _ h
  · refine And.intro (fun hp => absurd hp c1) (fun _ => ?_)
    show Ex mr_X6_driveFrom sc (Cl MT pr sc (d + 1)) (rtE none (mk X) σ2) (161, [(0, .ref 21), (6, .int x6)], [], mk X, σ)
    refine Ex.blk 5 rfl ?_
    show Ex mr_X6_driveFrom sc (Cl MT pr sc (d + 1)) (rtE none (mk X) σ2) (170, [(0, .ref 21), (6, .int x6)], [.int (gI σ 21 6), .int (gI σ 21 9), .ref 21], mk X, σ)
    refine Ex.blk 1000 rfl ?_
    show Ex mr_X6_driveFrom sc (Cl MT pr sc (d + 1)) (rtE none (mk X) σ2) (174, [(0, .ref 21), (6, .int x6)], [], mk X, (sI σ 21 10 ((gI σ 21 9) + (gI σ 21 6))))
    refine Ex.pick (lv' := _) [] rfl ?_
    exact lk_X6_driveFrom_174 d _ h
theorem lk_X6_driveFrom_126 {pr : Ct} {sc : Nat × (Nat → Int32)} {X : En} (d : Nat) {σ2 : St} (x1 : Int32) (x5 : Int32) (x6 : Int32) (x7 : Int32) (x8 : Int32) (σ : St) (h : f_X6_driveFrom_126 x1 x5 x6 x7 x8 σ = some σ2) : Ex mr_X6_driveFrom sc (Cl MT pr sc (d + 1)) (rtE none (mk X) σ2) (126, [(0, .ref 21), (1, .int x1), (5, .int x5), (6, .int x6), (7, .int x7), (8, .int x8)], [], mk X, σ) := by
  unfold f_X6_driveFrom_126 at h
  refine Ex.blk 5 rfl ?_
  show Ex mr_X6_driveFrom sc (Cl MT pr sc (d + 1)) (rtE none (mk X) σ2) (135, [(0, .ref 21), (1, .int x1), (5, .int x5), (6, .int x6), (7, .int x7), (8, .int x8)], [.int (gI σ 21 5), .int x8, .int x5, .ref 21], mk X, σ)
  refine Ex.blk 5 rfl ?_
  show Ex mr_X6_driveFrom sc (Cl MT pr sc (d + 1)) (rtE none (mk X) σ2) (143, [(0, .ref 21), (1, .int x1), (5, .int x5), (6, .int x6), (7, .int x7), (8, .int x8)], [.int x7, .ref 21], mk X, (sI σ 21 9 (x5 + (x8 * (gI σ 21 5)))))
  refine Ex.blk 5 rfl ?_
  show Ex mr_X6_driveFrom sc (Cl MT pr sc (d + 1)) (rtE none (mk X) σ2) (152, [(0, .ref 21), (1, .int x1), (5, .int x5), (6, .int x6), (7, .int x7), (8, .int x8)], [.ref 21, .int x1, .ref 26], mk X, (sI (sI σ 21 9 (x5 + (x8 * (gI σ 21 5)))) 21 8 x7))
  refine Ex.blk 2 rfl ?_
  obtain ⟨g1, h⟩ := gd_some h
  refine And.intro (inb_ok g1) ?_
  show Ex mr_X6_driveFrom sc (Cl MT pr sc (d + 1)) (rtE none (mk X) σ2) (156, [(0, .ref 21), (1, .int x1), (5, .int x5), (6, .int x6), (7, .int x7), (8, .int x8)], [], mk X, (sI (sI (sI σ 21 9 (x5 + (x8 * (gI σ 21 5)))) 21 8 x7) 26 x1.toNatClampNeg (gI (sI (sI σ 21 9 (x5 + (x8 * (gI σ 21 5)))) 21 8 x7) 21 9)))
  refine Ex.pick (lv' := _) [0, 3] rfl ?_
  exact lk_X6_driveFrom_156 d _ _ h
theorem lk_X6_driveFrom_107 {pr : Ct} {sc : Nat × (Nat → Int32)} {X : En} (d : Nat) {σ2 : St} (x1 : Int32) (x5 : Int32) (x6 : Int32) (x7 : Int32) (x8 : Int32) (x9 : Int32) (σ : St) (h : f_X6_driveFrom_107 x1 x5 x6 x7 x8 x9 σ = some σ2) : Ex mr_X6_driveFrom sc (Cl MT pr sc (d + 1)) (rtE none (mk X) σ2) (107, [(0, .ref 21), (1, .int x1), (5, .int x5), (6, .int x6), (7, .int x7), (8, .int x8), (9, .int x9)], [], mk X, σ) := by
  unfold f_X6_driveFrom_107 at h
  refine Ex.blk 5 rfl ?_
  obtain ⟨g1, h⟩ := gd_some h
  refine And.intro (inb_ok g1) ?_
  show Ex mr_X6_driveFrom sc (Cl MT pr sc (d + 1)) (rtE none (mk X) σ2) (116, [(0, .ref 21), (1, .int x1), (5, .int x5), (6, .int x6), (7, .int x7), (8, .int x8), (9, .int x9)], [], mk X, (sI σ 24 x9.toNatClampNeg x7))
  refine Ex.blk 5 rfl ?_
  obtain ⟨g2, h⟩ := gd_some h
  refine And.intro (inb_ok g2) ?_
  show Ex mr_X6_driveFrom sc (Cl MT pr sc (d + 1)) (rtE none (mk X) σ2) (123, [(0, .ref 21), (1, .int x1), (5, .int x5), (6, .int x6), (7, .int x7), (8, .int x8), (9, .int x9)], [.int (gI (sI σ 24 x9.toNatClampNeg x7) 25 x1.toNatClampNeg), .int x1, .ref 25], mk X, (sI σ 24 x9.toNatClampNeg x7))
  refine Ex.blk 3 rfl ?_
  obtain ⟨g3, h⟩ := gd_some h
  refine And.intro (inb_ok g3) ?_
  show Ex mr_X6_driveFrom sc (Cl MT pr sc (d + 1)) (rtE none (mk X) σ2) (126, [(0, .ref 21), (1, .int x1), (5, .int x5), (6, .int x6), (7, .int x7), (8, .int x8), (9, .int x9)], [], mk X, (sI (sI σ 24 x9.toNatClampNeg x7) 25 x1.toNatClampNeg ((gI (sI σ 24 x9.toNatClampNeg x7) 25 x1.toNatClampNeg) + 1)))
  refine Ex.pick (lv' := _) [0, 1, 2, 3, 4, 5] rfl ?_
  exact lk_X6_driveFrom_126 d _ _ _ _ _ _ h
theorem lk_X6_driveFrom_87 {pr : Ct} {sc : Nat × (Nat → Int32)} {X : En} (d : Nat) {σ2 : St} (x1 : Int32) (x5 : Int32) (x6 : Int32) (x7 : Int32) (x8 : Int32) (x9 : Int32) (σ : St) (h : f_X6_driveFrom_87 x1 x5 x6 x7 x8 x9 σ = some σ2) : Ex mr_X6_driveFrom sc (Cl MT pr sc (d + 1)) (rtE none (mk X) σ2) (87, [(0, .ref 21), (1, .int x1), (5, .int x5), (6, .int x6), (7, .int x7), (8, .int x8), (9, .int x9)], [], mk X, σ) := by
  unfold f_X6_driveFrom_87 at h
  refine Ex.blk 5 rfl ?_
  obtain ⟨g1, h⟩ := gd_some h
  refine And.intro (inb_ok g1) ?_
  show Ex mr_X6_driveFrom sc (Cl MT pr sc (d + 1)) (rtE none (mk X) σ2) (96, [(0, .ref 21), (1, .int x1), (5, .int x5), (6, .int x6), (7, .int x7), (8, .int x8), (9, .int x9)], [], mk X, (sI σ 22 x9.toNatClampNeg x5))
  refine Ex.blk 5 rfl ?_
  show Ex mr_X6_driveFrom sc (Cl MT pr sc (d + 1)) (rtE none (mk X) σ2) (106, [(0, .ref 21), (1, .int x1), (5, .int x5), (6, .int x6), (7, .int x7), (8, .int x8), (9, .int x9)], [.int (gI (sI σ 22 x9.toNatClampNeg x5) 21 8), .int x9, .ref 23], mk X, (sI σ 22 x9.toNatClampNeg x5))
  refine Ex.blk 1 rfl ?_
  obtain ⟨g2, h⟩ := gd_some h
  refine And.intro (inb_ok g2) ?_
  show Ex mr_X6_driveFrom sc (Cl MT pr sc (d + 1)) (rtE none (mk X) σ2) (107, [(0, .ref 21), (1, .int x1), (5, .int x5), (6, .int x6), (7, .int x7), (8, .int x8), (9, .int x9)], [], mk X, (sI (sI σ 22 x9.toNatClampNeg x5) 23 x9.toNatClampNeg (gI (sI σ 22 x9.toNatClampNeg x5) 21 8)))
  exact lk_X6_driveFrom_107 d _ _ _ _ _ _ _ h
theorem lk_X6_driveFrom_71 {pr : Ct} {sc : Nat × (Nat → Int32)} {X : En} (d : Nat) {σ2 : St} (x1 : Int32) (x5 : Int32) (x6 : Int32) (x7 : Int32) (x8 : Int32) (σ : St) (h : f_X6_driveFrom_71 x1 x5 x6 x7 x8 σ = some σ2) : Ex mr_X6_driveFrom sc (Cl MT pr sc (d + 1)) (rtE none (mk X) σ2) (71, [(0, .ref 21), (1, .int x1), (5, .int x5), (6, .int x6), (7, .int x7), (8, .int x8)], [], mk X, σ) := by
  unfold f_X6_driveFrom_71 at h
  refine Ex.blk 5 rfl ?_
  show Ex mr_X6_driveFrom sc (Cl MT pr sc (d + 1)) (rtE none (mk X) σ2) (78, [(0, .ref 21), (1, .int x1), (5, .int x5), (6, .int x6), (7, .int x7), (8, .int x8)], [.ref 25, .int (2 * x1)], mk X, σ)
  refine Ex.blk 2 rfl ?_
  obtain ⟨g1, h⟩ := gd_some h
  refine And.intro (inb_ok g1) ?_
  show Ex mr_X6_driveFrom sc (Cl MT pr sc (d + 1)) (rtE none (mk X) σ2) (80, [(0, .ref 21), (1, .int x1), (5, .int x5), (6, .int x6), (7, .int x7), (8, .int x8)], [.int (gI σ 25 x1.toNatClampNeg), .int (2 * x1)], mk X, σ)
  refine Ex.blk 4 rfl ?_
  show Ex mr_X6_driveFrom sc (Cl MT pr sc (d + 1)) (rtE none (mk X) σ2) (87, [(9, .int ((2 * x1) + (mnI (gI σ 25 x1.toNatClampNeg) 1))), (0, .ref 21), (1, .int x1), (5, .int x5), (6, .int x6), (7, .int x7), (8, .int x8)], [], mk X, σ)
  refine Ex.pick (lv' := _) [1, 2, 3, 4, 5, 6, 0] rfl ?_
  exact lk_X6_driveFrom_87 d _ _ _ _ _ _ _ h
theorem lk_X6_driveFrom_59 {pr : Ct} {sc : Nat × (Nat → Int32)} {X : En} (d : Nat) {σ2 : St} (x1 : Int32) (x5 : Int32) (x6 : Int32) (x7 : Int32) (σ : St) (h : f_X6_driveFrom_59 x1 x5 x6 x7 σ = some σ2) : Ex mr_X6_driveFrom sc (Cl MT pr sc (d + 1)) (rtE none (mk X) σ2) (59, [(0, .ref 21), (1, .int x1), (5, .int x5), (6, .int x6), (7, .int x7)], [], mk X, σ) := by
  unfold f_X6_driveFrom_59 at h
  refine Ex.blk 5 rfl ?_
  show Ex mr_X6_driveFrom sc (Cl MT pr sc (d + 1)) (rtE none (mk X) σ2) (69, [(0, .ref 21), (1, .int x1), (5, .int x5), (6, .int x6), (7, .int x7)], [.int (abI (x7 - (gI σ 21 8)))], mk X, σ)
  refine Ex.blk 1 rfl ?_
  show Ex mr_X6_driveFrom sc (Cl MT pr sc (d + 1)) (rtE none (mk X) σ2) (71, [(8, .int (abI (x7 - (gI σ 21 8)))), (0, .ref 21), (1, .int x1), (5, .int x5), (6, .int x6), (7, .int x7)], [], mk X, σ)
  refine Ex.pick (lv' := _) [1, 2, 3, 4, 5, 0] rfl ?_
  exact lk_X6_driveFrom_71 d _ _ _ _ _ _ h
theorem lk_X6_driveFrom_52 {pr : Ct} {sc : Nat × (Nat → Int32)} {X : En} (d : Nat) {σ2 : St} (x1 : Int32) (x4 : Int32) (x5 : Int32) (x6 : Int32) (y0 : Int32) (σ : St) (h : f_X6_driveFrom_52 x1 x4 x5 x6 y0 σ = some σ2) : Ex mr_X6_driveFrom sc (Cl MT pr sc (d + 1)) (rtE none (mk X) σ2) (52, [(0, .ref 21), (1, .int x1), (4, .int x4), (5, .int x5), (6, .int x6)], [.int y0], mk X, σ) := by
  unfold f_X6_driveFrom_52 at h
  refine Ex.blk 3 rfl ?_
  show Ex mr_X6_driveFrom sc (Cl MT pr sc (d + 1)) (rtE none (mk X) σ2) (59, [(7, .int (mnI y0 x4)), (0, .ref 21), (1, .int x1), (4, .int x4), (5, .int x5), (6, .int x6)], [], mk X, σ)
  refine Ex.pick (lv' := _) [1, 2, 4, 5, 0] rfl ?_
  exact lk_X6_driveFrom_59 d _ _ _ _ _ h
theorem lk_X6_driveFrom_27 {pr : Ct} {sc : Nat × (Nat → Int32)} {X : En} (d : Nat) {σ2 : St} (x1 : Int32) (x3 : Int32) (x4 : Int32) (x5 : Int32) (y0 : Int32) (σ : St) (h : f_X6_driveFrom_27 x1 x3 x4 x5 y0 σ = some σ2) : Ex mr_X6_driveFrom sc (Cl MT pr sc (d + 1)) (rtE none (mk X) σ2) (27, [(0, .ref 21), (1, .int x1), (3, .int x3), (4, .int x4), (5, .int x5)], [.int y0], mk X, σ) := by
  unfold f_X6_driveFrom_27 at h
  refine Ex.blk 1000 rfl ?_
  rcases ite_sp h with ⟨c1, h⟩ | ⟨c1, h⟩
  · refine And.intro (fun _ => ?_) (fun hn => absurd c1 hn)
    show Ex mr_X6_driveFrom sc (Cl MT pr sc (d + 1)) (rtE none (mk X) σ2) (46, [(6, .int y0), (0, .ref 21), (1, .int x1), (3, .int x3), (4, .int x4), (5, .int x5)], [], mk X, σ)
    refine Ex.blk 1000 rfl ?_
    show Ex mr_X6_driveFrom sc (Cl MT pr sc (d + 1)) (rtE none (mk X) σ2) (52, [(6, .int y0), (0, .ref 21), (1, .int x1), (3, .int x3), (4, .int x4), (5, .int x5)], [.int ((gI σ 21 8) + x3)], mk X, σ)
    refine Ex.pick (lv' := _) [1, 2, 4, 5, 0] rfl ?_
    exact lk_X6_driveFrom_52 d _ _ _ _ _ _ h
  · refine And.intro (fun hp => absurd hp c1) (fun _ => ?_)
    show Ex mr_X6_driveFrom sc (Cl MT pr sc (d + 1)) (rtE none (mk X) σ2) (34, [(6, .int y0), (0, .ref 21), (1, .int x1), (3, .int x3), (4, .int x4), (5, .int x5)], [], mk X, σ)
    refine Ex.blk 5 rfl ?_
    show Ex mr_X6_driveFrom sc (Cl MT pr sc (d + 1)) (rtE none (mk X) σ2) (42, [(6, .int y0), (0, .ref 21), (1, .int x1), (3, .int x3), (4, .int x4), (5, .int x5)], [.int 10, .int ((gI σ 21 8) + x3)], mk X, σ)
    refine Ex.blk 1000 rfl ?_
    show Ex mr_X6_driveFrom sc (Cl MT pr sc (d + 1)) (rtE none (mk X) σ2) (52, [(6, .int y0), (0, .ref 21), (1, .int x1), (3, .int x3), (4, .int x4), (5, .int x5)], [.int (((gI σ 21 8) + x3) - 10)], mk X, σ)
    refine Ex.pick (lv' := _) [1, 2, 4, 5, 0] rfl ?_
    exact lk_X6_driveFrom_52 d _ _ _ _ _ _ h
theorem lk_X6_driveFrom_10 {pr : Ct} {sc : Nat × (Nat → Int32)} {X : En} (d : Nat) {σ2 : St} (x1 : Int32) (x3 : Int32) (x4 : Int32) (x5 : Int32) (σ : St) (h : f_X6_driveFrom_10 x1 x3 x4 x5 σ = some σ2) : Ex mr_X6_driveFrom sc (Cl MT pr sc (d + 1)) (rtE none (mk X) σ2) (10, [(0, .ref 21), (1, .int x1), (3, .int x3), (4, .int x4), (5, .int x5)], [], mk X, σ) := by
  unfold f_X6_driveFrom_10 at h
  refine Ex.blk 5 rfl ?_
  obtain ⟨p1, hp1, h⟩ := bind_sp h
  refine Exists.intro (some (.int p1.1)) (Exists.intro (mk X) (Exists.intro p1.2 (And.intro (cl_X9_isDigit (d + 0) hp1) ?_)))
  show Ex mr_X6_driveFrom sc (Cl MT pr sc (d + 1)) (rtE none (mk X) σ2) (19, [(0, .ref 21), (1, .int x1), (3, .int x3), (4, .int x4), (5, .int x5)], [.int p1.1], mk X, p1.2)
  refine Ex.blk 1000 rfl ?_
  rcases ite_sp h with ⟨c1, h⟩ | ⟨c1, h⟩
  · refine And.intro (fun hp => absurd c1 hp) (fun _ => ?_)
    show Ex mr_X6_driveFrom sc (Cl MT pr sc (d + 1)) (rtE none (mk X) σ2) (22, [(0, .ref 21), (1, .int x1), (3, .int x3), (4, .int x4), (5, .int x5)], [], mk X, p1.2)
    refine Ex.blk 1000 rfl ?_
    show Ex mr_X6_driveFrom sc (Cl MT pr sc (d + 1)) (rtE none (mk X) σ2) (27, [(0, .ref 21), (1, .int x1), (3, .int x3), (4, .int x4), (5, .int x5)], [.int 1], mk X, p1.2)
    exact lk_X6_driveFrom_27 d _ _ _ _ _ _ h
  · refine And.intro (fun _ => ?_) (fun hn => absurd c1 hn)
    show Ex mr_X6_driveFrom sc (Cl MT pr sc (d + 1)) (rtE none (mk X) σ2) (26, [(0, .ref 21), (1, .int x1), (3, .int x3), (4, .int x4), (5, .int x5)], [], mk X, p1.2)
    refine Ex.blk 1000 rfl ?_
    show Ex mr_X6_driveFrom sc (Cl MT pr sc (d + 1)) (rtE none (mk X) σ2) (27, [(0, .ref 21), (1, .int x1), (3, .int x3), (4, .int x4), (5, .int x5)], [.int 0], mk X, p1.2)
    exact lk_X6_driveFrom_27 d _ _ _ _ _ _ h
theorem cl_X6_driveFrom {pr : Ct} {sc : Nat × (Nat → Int32)} {X : En} (d : Nat) {σ2 : St} {x1 : Int32} {x2 : Int32} {x3 : Int32} {x4 : Int32} {σ : St} (h : f_X6_driveFrom x1 x2 x3 x4 σ = some σ2) : Cl MT pr sc (d + 1 + 1) 57 [.ref 21, .int x1, .int x2, .int x3, .int x4] (mk X) σ none (mk X) σ2 := by
  refine cl_of mr_X6_driveFrom rfl rfl ?_
  unfold f_X6_driveFrom at h
  refine Ex.blk 5 rfl ?_
  show Ex mr_X6_driveFrom sc (Cl MT pr sc (d + 1)) (rtE none (mk X) σ2) (10, [(5, .int (mxI x2 (gI σ 21 9))), (0, .ref 21), (1, .int x1), (2, .int x2), (3, .int x3), (4, .int x4)], [], mk X, σ)
  refine Ex.pick (lv' := _) [1, 2, 4, 5, 0] rfl ?_
  exact lk_X6_driveFrom_10 d _ _ _ _ _ h
