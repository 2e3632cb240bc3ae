theorem cl_X10_act {pr : Ct} {sc : Nat × (Nat → Int32)} {X : En} (d : Nat) {r : Int32} {σ2 : St} {x1 : Int32} {σ : St} (h : f_X10_act x1 σ = some (r, σ2)) : Cl MT pr sc (d + 3 + 1) 181 [.ref 38, .int x1] (mk X) σ (some (.int r)) (mk X) σ2 := by
  refine cl_of mr_X10_act rfl rfl ?_
  unfold f_X10_act at h
  refine Ex.blk 5 rfl ?_
  obtain ⟨p1, hp1, h⟩ := bind_sp h
  refine Exists.intro (some (.int p1.1)) (Exists.intro (mk X) (Exists.intro p1.2 (And.intro (cl_X10_in (d + 2) hp1) ?_)))
  show Ex mr_X10_act sc (Cl MT pr sc (d + 3)) (rtE (some (.int r)) (mk X) σ2) (11, [(0, .ref 38), (1, .int x1)], [.int p1.1], mk X, p1.2)
  refine Ex.blk 1000 rfl ?_
  rcases ite_sp h with ⟨c1, h⟩ | ⟨c1, h⟩
  · refine And.intro (fun hp => absurd c1 hp) (fun _ => ?_)
    show Ex mr_X10_act sc (Cl MT pr sc (d + 3)) (rtE (some (.int r)) (mk X) σ2) (14, [(0, .ref 38), (1, .int x1)], [], mk X, p1.2)
    refine Ex.blk 1000 rfl ?_
    cases h
    exact And.intro trivial ⟨rfl, rfl, rfl⟩
  · refine And.intro (fun _ => ?_) (fun hn => absurd c1 hn)
    show Ex mr_X10_act sc (Cl MT pr sc (d + 3)) (rtE (some (.int r)) (mk X) σ2) (16, [(0, .ref 38), (1, .int x1)], [], mk X, p1.2)
    refine Ex.blk 3 rfl ?_
    obtain ⟨p2, hp2, h⟩ := bind_sp h
    refine Exists.intro none (Exists.intro (mk X) (Exists.intro p2 (And.intro (cl_X10_actOf (d + 0) hp2) ?_)))
    show Ex mr_X10_act sc (Cl MT pr sc (d + 3)) (rtE (some (.int r)) (mk X) σ2) (21, [(0, .ref 38), (1, .int x1)], [], mk X, p2)
    refine Ex.blk 4 rfl ?_
    refine And.intro (inb_ok (i := 18) (n := 19) (by decide)) ?_
    show Ex mr_X10_act sc (Cl MT pr sc (d + 3)) (rtE (some (.int r)) (mk X) σ2) (28, [(0, .ref 38), (1, .int x1)], [.int (gI p2 46 (18 : Int32).toNatClampNeg)], mk X, p2)
    refine Ex.blk 1000 rfl ?_
    cases h
    exact And.intro trivial ⟨rfl, rfl, rfl⟩
theorem lk_X10_runOf_79 {pr : Ct} {sc : Nat × (Nat → Int32)} {X : En} (d : Nat) {σ2 : St} (k5 : Int32 → Int32 → St → Option (St)) (k22 : Int32 → Int32 → Int32 → St → Option (St)) (hk5 : ∀ (x1 : Int32) (x2 : Int32) (σ : St), k5 x1 x2 σ = some σ2 → Ex mr_X10_runOf sc (Cl MT pr sc (d + 3)) (rtE none (mk X) σ2) (5, [(0, .ref 38), (1, .int x1), (2, .int x2)], [], mk X, σ)) (hk22 : ∀ (x1 : Int32) (x2 : Int32) (x3 : Int32) (σ : St), k22 x1 x2 x3 σ = some σ2 → Ex mr_X10_runOf sc (Cl MT pr sc (d + 3)) (rtE none (mk X) σ2) (22, [(0, .ref 38), (1, .int x1), (2, .int x2), (3, .int x3)], [], mk X, σ)) (x1 : Int32) (x2 : Int32) (x3 : Int32) (σ : St) (h : f_X10_runOf_79 k5 k22 x1 x2 x3 σ = some σ2) : Ex mr_X10_runOf sc (Cl MT pr sc (d + 3)) (rtE none (mk X) σ2) (79, [(0, .ref 38), (1, .int x1), (2, .int x2), (3, .int x3)], [], mk X, σ) := by
  unfold f_X10_runOf_79 at h
  refine Ex.blk 1000 rfl ?_
  show Ex mr_X10_runOf sc (Cl MT pr sc (d + 3)) (rtE none (mk X) σ2) (22, [(3, .int (x3 + 1)), (0, .ref 38), (1, .int x1), (2, .int x2)], [], mk X, σ)
  refine Ex.pick (lv' := _) [1, 2, 3, 0] rfl ?_
  exact hk22 _ _ _ _ h
theorem lk_X10_runOf_63 {pr : Ct} {sc : Nat × (Nat → Int32)} {X : En} (d : Nat) {σ2 : St} (k5 : Int32 → Int32 → St → Option (St)) (k22 : Int32 → Int32 → Int32 → St → Option (St)) (hk5 : ∀ (x1 : Int32) (x2 : Int32) (σ : St), k5 x1 x2 σ = some σ2 → Ex mr_X10_runOf sc (Cl MT pr sc (d + 3)) (rtE none (mk X) σ2) (5, [(0, .ref 38), (1, .int x1), (2, .int x2)], [], mk X, σ)) (hk22 : ∀ (x1 : Int32) (x2 : Int32) (x3 : Int32) (σ : St), k22 x1 x2 x3 σ = some σ2 → Ex mr_X10_runOf sc (Cl MT pr sc (d + 3)) (rtE none (mk X) σ2) (22, [(0, .ref 38), (1, .int x1), (2, .int x2), (3, .int x3)], [], mk X, σ)) (x1 : Int32) (x2 : Int32) (x3 : Int32) (y0 : Int32) (y1 : Int32) (σ : St) (h : f_X10_runOf_63 k5 k22 x1 x2 x3 y0 y1 σ = some σ2) : Ex mr_X10_runOf sc (Cl MT pr sc (d + 3)) (rtE none (mk X) σ2) (63, [(0, .ref 38), (1, .int x1), (2, .int x2), (3, .int x3)], [.int y0, .int y1, .ref 38], mk X, σ) := by
  unfold f_X10_runOf_63 at h
  refine Ex.blk 1 rfl ?_
  obtain ⟨p2, hp2, h⟩ := bind_sp h
  refine Exists.intro none (Exists.intro (mk X) (Exists.intro p2 (And.intro (cl_X10_addOf (d + 0) hp2) ?_)))
  show Ex mr_X10_runOf sc (Cl MT pr sc (d + 3)) (rtE none (mk X) σ2) (66, [(0, .ref 38), (1, .int x1), (2, .int x2), (3, .int x3)], [], mk X, p2)
  refine Ex.blk 1000 rfl ?_
  show Ex mr_X10_runOf sc (Cl MT pr sc (d + 3)) (rtE none (mk X) σ2) (79, [(0, .ref 38), (1, .int x1), (2, .int x2), (3, .int x3)], [], mk X, p2)
  exact lk_X10_runOf_79 d _ _ hk5 hk22 _ _ _ _ h
theorem lk_X10_runOf_22 {pr : Ct} {sc : Nat × (Nat → Int32)} {X : En} (d : Nat) {σ2 : St} (k5 : Int32 → Int32 → St → Option (St)) (hk5 : ∀ (x1 : Int32) (x2 : Int32) (σ : St), k5 x1 x2 σ = some σ2 → Ex mr_X10_runOf sc (Cl MT pr sc (d + 3)) (rtE none (mk X) σ2) (5, [(0, .ref 38), (1, .int x1), (2, .int x2)], [], mk X, σ)) : ∀ (n : Nat) (x1 : Int32) (x2 : Int32) (x3 : Int32) (σ : St), f_X10_runOf_22 k5 n x1 x2 x3 σ = some σ2 → Ex mr_X10_runOf sc (Cl MT pr sc (d + 3)) (rtE none (mk X) σ2) (22, [(0, .ref 38), (1, .int x1), (2, .int x2), (3, .int x3)], [], mk X, σ) := by
  intro n
  induction n with
  | zero =>
    intro x1 x2 x3 σ h
    cases h
  | succ n ih =>
    intro x1 x2 x3 σ h
    simp only [f_X10_runOf_22] at h
    refine Ex.blk 5 rfl ?_
    obtain ⟨g1, h⟩ := gd_some h
    refine And.intro (inb_ok g1) ?_
    show Ex mr_X10_runOf sc (Cl MT pr sc (d + 3)) (rtE none (mk X) σ2) (29, [(0, .ref 38), (1, .int x1), (2, .int x2), (3, .int x3)], [.int (gI σ 42 x2.toNatClampNeg), .int x3], mk X, σ)
    refine Ex.blk 1000 rfl ?_
    rcases ite_sp h with ⟨c2, h⟩ | ⟨c2, h⟩
    · refine And.intro (fun _ => ?_) (fun hn => absurd c2 hn)
      show Ex mr_X10_runOf sc (Cl MT pr sc (d + 3)) (rtE none (mk X) σ2) (85, [(0, .ref 38), (1, .int x1), (2, .int x2), (3, .int x3)], [], mk X, σ)
      refine Ex.blk 1000 rfl ?_
      show Ex mr_X10_runOf sc (Cl MT pr sc (d + 3)) (rtE none (mk X) σ2) (5, [(2, .int (x2 + 1)), (0, .ref 38), (1, .int x1), (3, .int x3)], [], mk X, σ)
      refine Ex.pick (lv' := _) [1, 2, 0] rfl ?_
      exact hk5 _ _ _ h
    · refine And.intro (fun hp => absurd hp c2) (fun _ => ?_)
      show Ex mr_X10_runOf sc (Cl MT pr sc (d + 3)) (rtE none (mk X) σ2) (32, [(0, .ref 38), (1, .int x1), (2, .int x2), (3, .int x3)], [], mk X, σ)
      refine Ex.blk 4 rfl ?_
      obtain ⟨g3, h⟩ := gd_some h
      refine And.intro (inb_ok g3) ?_
      show Ex mr_X10_runOf sc (Cl MT pr sc (d + 3)) (rtE none (mk X) σ2) (38, [(0, .ref 38), (1, .int x1), (2, .int x2), (3, .int x3)], [.int (gI σ 40 x2.toNatClampNeg)], mk X, σ)
      refine Ex.blk 1000 rfl ?_
      rcases ite_sp h with ⟨c4, h⟩ | ⟨c4, h⟩
      · refine And.intro (fun _ => ?_) (fun hn => absurd c4 hn)
        show Ex mr_X10_runOf sc (Cl MT pr sc (d + 3)) (rtE none (mk X) σ2) (69, [(0, .ref 38), (1, .int x1), (2, .int x2), (3, .int x3)], [], mk X, σ)
        refine Ex.blk 5 rfl ?_
        obtain ⟨g5, h⟩ := gd_some h
        refine And.intro (inb_ok g5) ?_
        show Ex mr_X10_runOf sc (Cl MT pr sc (d + 3)) (rtE none (mk X) σ2) (76, [(0, .ref 38), (1, .int x1), (2, .int x2), (3, .int x3)], [.int (gI σ 40 x2.toNatClampNeg), .ref 38], mk X, σ)
        refine Ex.blk 1 rfl ?_
        obtain ⟨p1, hp1, h⟩ := bind_sp h
        refine Exists.intro none (Exists.intro (mk X) (Exists.intro p1 (And.intro (cl_X10_actOf (d + 0) hp1) ?_)))
        show Ex mr_X10_runOf sc (Cl MT pr sc (d + 3)) (rtE none (mk X) σ2) (79, [(0, .ref 38), (1, .int x1), (2, .int x2), (3, .int x3)], [], mk X, p1)
        exact lk_X10_runOf_79 d _ _ hk5 ih _ _ _ _ h
      · refine And.intro (fun hp => absurd hp c4) (fun _ => ?_)
        show Ex mr_X10_runOf sc (Cl MT pr sc (d + 3)) (rtE none (mk X) σ2) (42, [(0, .ref 38), (1, .int x1), (2, .int x2), (3, .int x3)], [], mk X, σ)
        refine Ex.blk 5 rfl ?_
        obtain ⟨g6, h⟩ := gd_some h
        refine And.intro (inb_ok g6) ?_
        show Ex mr_X10_runOf sc (Cl MT pr sc (d + 3)) (rtE none (mk X) σ2) (49, [(0, .ref 38), (1, .int x1), (2, .int x2), (3, .int x3)], [.int (gI σ 41 x2.toNatClampNeg), .ref 38], mk X, σ)
        refine Ex.blk 4 rfl ?_
        obtain ⟨g7, h⟩ := gd_some h
        refine And.intro (inb_ok g7) ?_
        show Ex mr_X10_runOf sc (Cl MT pr sc (d + 3)) (rtE none (mk X) σ2) (55, [(0, .ref 38), (1, .int x1), (2, .int x2), (3, .int x3)], [.int (gI σ 40 x2.toNatClampNeg), .int (gI σ 41 x2.toNatClampNeg), .ref 38], mk X, σ)
        refine Ex.blk 1000 rfl ?_
        rcases ite_sp h with ⟨c8, h⟩ | ⟨c8, h⟩
        · refine And.intro (fun hp => absurd c8 hp) (fun _ => ?_)
          show Ex mr_X10_runOf sc (Cl MT pr sc (d + 3)) (rtE none (mk X) σ2) (58, [(0, .ref 38), (1, .int x1), (2, .int x2), (3, .int x3)], [.int (gI σ 41 x2.toNatClampNeg), .ref 38], mk X, σ)
          refine Ex.blk 1000 rfl ?_
          show Ex mr_X10_runOf sc (Cl MT pr sc (d + 3)) (rtE none (mk X) σ2) (63, [(0, .ref 38), (1, .int x1), (2, .int x2), (3, .int x3)], [.int 1, .int (gI σ 41 x2.toNatClampNeg), .ref 38], mk X, σ)
          exact lk_X10_runOf_63 d _ _ hk5 ih _ _ _ _ _ _ h
        · refine And.intro (fun _ => ?_) (fun hn => absurd c8 hn)
          show Ex mr_X10_runOf sc (Cl MT pr sc (d + 3)) (rtE none (mk X) σ2) (62, [(0, .ref 38), (1, .int x1), (2, .int x2), (3, .int x3)], [.int (gI σ 41 x2.toNatClampNeg), .ref 38], mk X, σ)
          refine Ex.blk 1000 rfl ?_
          show Ex mr_X10_runOf sc (Cl MT pr sc (d + 3)) (rtE none (mk X) σ2) (63, [(0, .ref 38), (1, .int x1), (2, .int x2), (3, .int x3)], [.int (-1), .int (gI σ 41 x2.toNatClampNeg), .ref 38], mk X, σ)
          exact lk_X10_runOf_63 d _ _ hk5 ih _ _ _ _ _ _ h
theorem lk_X10_runOf_5 {pr : Ct} {sc : Nat × (Nat → Int32)} {X : En} (d : Nat) {σ2 : St} : ∀ (n : Nat) (x1 : Int32) (x2 : Int32) (σ : St), f_X10_runOf_5 n x1 x2 σ = some σ2 → Ex mr_X10_runOf sc (Cl MT pr sc (d + 3)) (rtE none (mk X) σ2) (5, [(0, .ref 38), (1, .int x1), (2, .int x2)], [], mk X, σ) := by
  intro n
  induction n with
  | zero =>
    intro x1 x2 σ h
    cases h
  | succ n ih =>
    intro x1 x2 σ h
    simp only [f_X10_runOf_5] at h
    refine Ex.blk 5 rfl ?_
    show Ex mr_X10_runOf sc (Cl MT pr sc (d + 3)) (rtE none (mk X) σ2) (11, [(0, .ref 38), (1, .int x1), (2, .int x2)], [.ref 38, .int (12 * x1), .int x2], mk X, σ)
    refine Ex.blk 3 rfl ?_
    obtain ⟨g1, h⟩ := gd_some h
    refine And.intro (inb_ok g1) ?_
    show Ex mr_X10_runOf sc (Cl MT pr sc (d + 3)) (rtE none (mk X) σ2) (16, [(0, .ref 38), (1, .int x1), (2, .int x2)], [.int (gI σ 43 x1.toNatClampNeg), .int (12 * x1), .int x2], mk X, σ)
    refine Ex.blk 1000 rfl ?_
    rcases ite_sp h with ⟨c2, h⟩ | ⟨c2, h⟩
    · refine And.intro (fun _ => ?_) (fun hn => absurd c2 hn)
      show Ex mr_X10_runOf sc (Cl MT pr sc (d + 3)) (rtE none (mk X) σ2) (91, [(0, .ref 38), (1, .int x1), (2, .int x2)], [], mk X, σ)
      refine Ex.blk 1000 rfl ?_
      cases h
      exact And.intro trivial ⟨rfl, rfl, rfl⟩
    · refine And.intro (fun hp => absurd hp c2) (fun _ => ?_)
      show Ex mr_X10_runOf sc (Cl MT pr sc (d + 3)) (rtE none (mk X) σ2) (20, [(0, .ref 38), (1, .int x1), (2, .int x2)], [], mk X, σ)
      refine Ex.blk 1000 rfl ?_
      show Ex mr_X10_runOf sc (Cl MT pr sc (d + 3)) (rtE none (mk X) σ2) (22, [(3, .int 0), (0, .ref 38), (1, .int x1), (2, .int x2)], [], mk X, σ)
      refine Ex.pick (lv' := _) [1, 2, 3, 0] rfl ?_
      exact lk_X10_runOf_22 d _ ih FU _ _ _ _ h
theorem cl_X10_runOf {pr : Ct} {sc : Nat × (Nat → Int32)} {X : En} (d : Nat) {σ2 : St} {x1 : Int32} {σ : St} (h : f_X10_runOf x1 σ = some σ2) : Cl MT pr sc (d + 3 + 1) 182 [.ref 38, .int x1] (mk X) σ none (mk X) σ2 := by
  refine cl_of mr_X10_runOf rfl rfl ?_
  unfold f_X10_runOf at h
  refine Ex.blk 1000 rfl ?_
  show Ex mr_X10_runOf sc (Cl MT pr sc (d + 3)) (rtE none (mk X) σ2) (5, [(2, .int (12 * x1)), (0, .ref 38), (1, .int x1)], [], mk X, σ)
  refine Ex.pick (lv' := _) [1, 2, 0] rfl ?_
  exact lk_X10_runOf_5 d FU _ _ _ h
theorem cl_X10_run {pr : Ct} {sc : Nat × (Nat → Int32)} {X : En} (d : Nat) {r : Int32} {σ2 : St} {x1 : Int32} {σ : St} (h : f_X10_run x1 σ = some (r, σ2)) : Cl MT pr sc (d + 4 + 1) 183 [.ref 38, .int x1] (mk X) σ (some (.int r)) (mk X) σ2 := by
  refine cl_of mr_X10_run rfl rfl ?_
  unfold f_X10_run at h
  refine Ex.blk 3 rfl ?_
  obtain ⟨p1, hp1, h⟩ := bind_sp h
  refine Exists.intro (some (.int p1.1)) (Exists.intro (mk X) (Exists.intro p1.2 (And.intro (cl_X10_isSum (d + 2) hp1) ?_)))
  show Ex mr_X10_run sc (Cl MT pr sc (d + 4)) (rtE (some (.int r)) (mk X) σ2) (5, [(0, .ref 38), (1, .int x1)], [.int p1.1], mk X, p1.2)
  refine Ex.blk 1000 rfl ?_
  rcases ite_sp h with ⟨c1, h⟩ | ⟨c1, h⟩
  · refine And.intro (fun hp => absurd c1 hp) (fun _ => ?_)
    show Ex mr_X10_run sc (Cl MT pr sc (d + 4)) (rtE (some (.int r)) (mk X) σ2) (8, [(0, .ref 38), (1, .int x1)], [], mk X, p1.2)
    refine Ex.blk 1000 rfl ?_
    cases h
    exact And.intro trivial ⟨rfl, rfl, rfl⟩
  · refine And.intro (fun _ => ?_) (fun hn => absurd c1 hn)
    show Ex mr_X10_run sc (Cl MT pr sc (d + 4)) (rtE (some (.int r)) (mk X) σ2) (10, [(0, .ref 38), (1, .int x1)], [], mk X, p1.2)
    refine Ex.blk 3 rfl ?_
    obtain ⟨p2, hp2, h⟩ := bind_sp h
    refine Exists.intro none (Exists.intro (mk X) (Exists.intro p2 (And.intro (cl_X10_runOf (d + 0) hp2) ?_)))
    show Ex mr_X10_run sc (Cl MT pr sc (d + 4)) (rtE (some (.int r)) (mk X) σ2) (15, [(0, .ref 38), (1, .int x1)], [], mk X, p2)
    refine Ex.blk 4 rfl ?_
    refine And.intro (inb_ok (i := 18) (n := 19) (by decide)) ?_
    show Ex mr_X10_run sc (Cl MT pr sc (d + 4)) (rtE (some (.int r)) (mk X) σ2) (22, [(0, .ref 38), (1, .int x1)], [.int (gI p2 46 (18 : Int32).toNatClampNeg)], mk X, p2)
    refine Ex.blk 1000 rfl ?_
    cases h
    exact And.intro trivial ⟨rfl, rfl, rfl⟩
theorem lk_X10_undo_63 {pr : Ct} {sc : Nat × (Nat → Int32)} {X : En} (d : Nat) {r : Int32} {σ2 : St} (k37 : Int32 → St → Option (Int32 × St)) (hk37 : ∀ (x1 : Int32) (σ : St), k37 x1 σ = some (r, σ2) → Ex mr_X10_undo sc (Cl MT pr sc (d + 0)) (rtE (some (.int r)) (mk X) σ2) (37, [(0, .ref 38), (1, .int x1)], [], mk X, σ)) (x1 : Int32) (σ : St) (h : f_X10_undo_63 k37 x1 σ = some (r, σ2)) : Ex mr_X10_undo sc (Cl MT pr sc (d + 0)) (rtE (some (.int r)) (mk X) σ2) (63, [(0, .ref 38), (1, .int x1)], [], mk X, σ) := by
  unfold f_X10_undo_63 at h
  refine Ex.blk 1000 rfl ?_
  show Ex mr_X10_undo sc (Cl MT pr sc (d + 0)) (rtE (some (.int r)) (mk X) σ2) (37, [(1, .int (x1 + 1)), (0, .ref 38)], [], mk X, σ)
  refine Ex.pick (lv' := _) [1, 0] rfl ?_
  exact hk37 _ _ h
theorem lk_X10_undo_37 {pr : Ct} {sc : Nat × (Nat → Int32)} {X : En} (d : Nat) {r : Int32} {σ2 : St} : ∀ (n : Nat) (x1 : Int32) (σ : St), f_X10_undo_37 n x1 σ = some (r, σ2) → Ex mr_X10_undo sc (Cl MT pr sc (d + 0)) (rtE (some (.int r)) (mk X) σ2) (37, [(0, .ref 38), (1, .int x1)], [], mk X, σ) := by
  intro n
  induction n with
  | zero =>
    intro x1 σ h
    cases h
  | succ n ih =>
    intro x1 σ h
    simp only [f_X10_undo_37] at h
    refine Ex.blk 1000 rfl ?_
    rcases ite_sp h with ⟨c1, h⟩ | ⟨c1, h⟩
    · refine And.intro (fun _ => ?_) (fun hn => absurd c1 hn)
      show Ex mr_X10_undo sc (Cl MT pr sc (d + 0)) (rtE (some (.int r)) (mk X) σ2) (69, [(0, .ref 38), (1, .int x1)], [], mk X, σ)
      refine Ex.blk 5 rfl ?_
      show Ex mr_X10_undo sc (Cl MT pr sc (d + 0)) (rtE (some (.int r)) (mk X) σ2) (78, [(0, .ref 38), (1, .int x1)], [.int (gI σ 38 28), .ref 50, .ref 38], mk X, σ)
      refine Ex.blk 1 rfl ?_
      obtain ⟨g2, h⟩ := gd_some h
      refine And.intro (inb_ok g2) ?_
      show Ex mr_X10_undo sc (Cl MT pr sc (d + 0)) (rtE (some (.int r)) (mk X) σ2) (79, [(0, .ref 38), (1, .int x1)], [.long (gJ σ 50 (gI σ 38 28).toNatClampNeg), .ref 38], mk X, σ)
      refine Ex.blk 5 rfl ?_
      refine And.intro (inb_ok (i := 18) (n := 19) (by decide)) ?_
      show Ex mr_X10_undo sc (Cl MT pr sc (d + 0)) (rtE (some (.int r)) (mk X) σ2) (89, [(0, .ref 38), (1, .int x1)], [.int (gI (sJ σ 38 18 (gJ σ 50 (gI σ 38 28).toNatClampNeg)) 46 (18 : Int32).toNatClampNeg)], mk X, (sJ σ 38 18 (gJ σ 50 (gI σ 38 28).toNatClampNeg)))
      refine Ex.blk 1000 rfl ?_
      cases h
      exact And.intro trivial ⟨rfl, rfl, rfl⟩
    · refine And.intro (fun hp => absurd hp c1) (fun _ => ?_)
      show Ex mr_X10_undo sc (Cl MT pr sc (d + 0)) (rtE (some (.int r)) (mk X) σ2) (43, [(0, .ref 38), (1, .int x1)], [], mk X, σ)
      refine Ex.blk 5 rfl ?_
      show Ex mr_X10_undo sc (Cl MT pr sc (d + 0)) (rtE (some (.int r)) (mk X) σ2) (52, [(0, .ref 38), (1, .int x1)], [.ref 49, .int x1, .ref 46], mk X, σ)
      refine Ex.blk 5 rfl ?_
      show Ex mr_X10_undo sc (Cl MT pr sc (d + 0)) (rtE (some (.int r)) (mk X) σ2) (60, [(0, .ref 38), (1, .int x1)], [.int x1, .int (19 * (gI σ 38 28)), .ref 49, .int x1, .ref 46], mk X, σ)
      refine Ex.blk 2 rfl ?_
      obtain ⟨g3, h⟩ := gd_some h
      refine And.intro (inb_ok g3) ?_
      show Ex mr_X10_undo sc (Cl MT pr sc (d + 0)) (rtE (some (.int r)) (mk X) σ2) (62, [(0, .ref 38), (1, .int x1)], [.int (gI σ 49 ((19 * (gI σ 38 28)) + x1).toNatClampNeg), .int x1, .ref 46], mk X, σ)
      refine Ex.blk 1 rfl ?_
      obtain ⟨g4, h⟩ := gd_some h
      refine And.intro (inb_ok g4) ?_
      show Ex mr_X10_undo sc (Cl MT pr sc (d + 0)) (rtE (some (.int r)) (mk X) σ2) (63, [(0, .ref 38), (1, .int x1)], [], mk X, (sI σ 46 x1.toNatClampNeg (gI σ 49 ((19 * (gI σ 38 28)) + x1).toNatClampNeg)))
      exact lk_X10_undo_63 d _ ih _ _ h
theorem lk_X10_undo_35 {pr : Ct} {sc : Nat × (Nat → Int32)} {X : En} (d : Nat) {r : Int32} {σ2 : St} (σ : St) (h : f_X10_undo_35 σ = some (r, σ2)) : Ex mr_X10_undo sc (Cl MT pr sc (d + 0)) (rtE (some (.int r)) (mk X) σ2) (35, [(0, .ref 38)], [], mk X, σ) := by
  unfold f_X10_undo_35 at h
  refine Ex.blk 1000 rfl ?_
  show Ex mr_X10_undo sc (Cl MT pr sc (d + 0)) (rtE (some (.int r)) (mk X) σ2) (37, [(1, .int 0), (0, .ref 38)], [], mk X, σ)
  refine Ex.pick (lv' := _) [1, 0] rfl ?_
  exact lk_X10_undo_37 d FU _ _ h
theorem cl_X10_undo {pr : Ct} {sc : Nat × (Nat → Int32)} {X : En} (d : Nat) {r : Int32} {σ2 : St} {σ : St} (h : f_X10_undo σ = some (r, σ2)) : Cl MT pr sc (d + 0 + 1) 184 [.ref 38] (mk X) σ (some (.int r)) (mk X) σ2 := by
  refine cl_of mr_X10_undo rfl rfl ?_
  unfold f_X10_undo at h
  refine Ex.blk 1000 rfl ?_
  rcases ite_sp h with ⟨c1, h⟩ | ⟨c1, h⟩
  · refine And.intro (fun hp => absurd c1 hp) (fun _ => ?_)
    show Ex mr_X10_undo sc (Cl MT pr sc (d + 0)) (rtE (some (.int r)) (mk X) σ2) (7, [(0, .ref 38)], [], mk X, σ)
    refine Ex.blk 1000 rfl ?_
    cases h
    exact And.intro trivial ⟨rfl, rfl, rfl⟩
  · refine And.intro (fun _ => ?_) (fun hn => absurd c1 hn)
    show Ex mr_X10_undo sc (Cl MT pr sc (d + 0)) (rtE (some (.int r)) (mk X) σ2) (9, [(0, .ref 38)], [], mk X, σ)
    refine Ex.blk 5 rfl ?_
    show Ex mr_X10_undo sc (Cl MT pr sc (d + 0)) (rtE (some (.int r)) (mk X) σ2) (16, [(0, .ref 38)], [.int ((gI σ 38 27) - 1), .ref 38], mk X, σ)
    refine Ex.blk 5 rfl ?_
    show Ex mr_X10_undo sc (Cl MT pr sc (d + 0)) (rtE (some (.int r)) (mk X) σ2) (26, [(0, .ref 38)], [.int 40, .int (gI (sI σ 38 27 ((gI σ 38 27) - 1)) 38 28), .ref 38], mk X, (sI σ 38 27 ((gI σ 38 27) - 1)))
    refine Ex.blk 5 rfl ?_
    refine And.intro (nzI_ok (b := 40) (by decide)) ?_
    show Ex mr_X10_undo sc (Cl MT pr sc (d + 0)) (rtE (some (.int r)) (mk X) σ2) (32, [(0, .ref 38)], [.int (rmI (((gI (sI σ 38 27 ((gI σ 38 27) - 1)) 38 28) + 40) - 1) 40), .ref 38], mk X, (sI σ 38 27 ((gI σ 38 27) - 1)))
    refine Ex.blk 1 rfl ?_
    show Ex mr_X10_undo sc (Cl MT pr sc (d + 0)) (rtE (some (.int r)) (mk X) σ2) (35, [(0, .ref 38)], [], mk X, (sI (sI σ 38 27 ((gI σ 38 27) - 1)) 38 28 (rmI (((gI (sI σ 38 27 ((gI σ 38 27) - 1)) 38 28) + 40) - 1) 40)))
    exact lk_X10_undo_35 d _ h
theorem lk_X10_seen_35 {pr : Ct} {sc : Nat × (Nat → Int32)} {X : En} (d : Nat) {r : Int32} {σ2 : St} (y0 : Int32) (y1 : Int32) (σ : St) (h : f_X10_seen_35 y0 y1 σ = some (r, σ2)) : Ex mr_X10_seen sc (Cl MT pr sc (d + 1)) (rtE (some (.int r)) (mk X) σ2) (35, [], [.int y0, .int y1], mk X, σ) := by
  unfold f_X10_seen_35 at h
  refine Ex.blk 1000 rfl ?_
  cases h
  exact And.intro trivial ⟨rfl, rfl, rfl⟩
theorem lk_X10_seen_34 {pr : Ct} {sc : Nat × (Nat → Int32)} {X : En} (d : Nat) {r : Int32} {σ2 : St} (y0 : Int32) (σ : St) (h : f_X10_seen_34 y0 σ = some (r, σ2)) : Ex mr_X10_seen sc (Cl MT pr sc (d + 1)) (rtE (some (.int r)) (mk X) σ2) (34, [], [.int y0], mk X, σ) := by
  unfold f_X10_seen_34 at h
  refine Ex.blk 1000 rfl ?_
  show Ex mr_X10_seen sc (Cl MT pr sc (d + 1)) (rtE (some (.int r)) (mk X) σ2) (35, [], [.int 0, .int y0], mk X, σ)
  exact lk_X10_seen_35 d _ _ _ h
theorem cl_X10_seen {pr : Ct} {sc : Nat × (Nat → Int32)} {X : En} (d : Nat) {r : Int32} {σ2 : St} {x1 : Int32} {σ : St} (h : f_X10_seen x1 σ = some (r, σ2)) : Cl MT pr sc (d + 1 + 1) 185 [.ref 38, .int x1] (mk X) σ (some (.int r)) (mk X) σ2 := by
  refine cl_of mr_X10_seen rfl rfl ?_
  unfold f_X10_seen at h
  refine Ex.blk 5 rfl ?_
  show Ex mr_X10_seen sc (Cl MT pr sc (d + 1)) (rtE (some (.int r)) (mk X) σ2) (7, [(0, .ref 38), (1, .int x1)], [.int (0 + x1), .ref 46], mk X, σ)
  refine Ex.blk 1 rfl ?_
  obtain ⟨g1, h⟩ := gd_some h
  refine And.intro (inb_ok g1) ?_
  show Ex mr_X10_seen sc (Cl MT pr sc (d + 1)) (rtE (some (.int r)) (mk X) σ2) (8, [(0, .ref 38), (1, .int x1)], [.int (gI σ 46 (0 + x1).toNatClampNeg)], mk X, σ)
  refine Ex.blk 4 rfl ?_
  obtain ⟨p1, hp1, h⟩ := bind_sp h
  refine Exists.intro (some (.int p1.1)) (Exists.intro (mk X) (Exists.intro p1.2 (And.intro (cl_X10_has (d + 0) hp1) ?_)))
  show Ex mr_X10_seen sc (Cl MT pr sc (d + 1)) (rtE (some (.int r)) (mk X) σ2) (16, [(0, .ref 38), (1, .int x1)], [.int p1.1, .int (gI σ 46 (0 + x1).toNatClampNeg)], mk X, p1.2)
  refine Ex.blk 1000 rfl ?_
  rcases ite_sp h with ⟨c2, h⟩ | ⟨c2, h⟩
  · refine And.intro (fun _ => ?_) (fun hn => absurd c2 hn)
    show Ex mr_X10_seen sc (Cl MT pr sc (d + 1)) (rtE (some (.int r)) (mk X) σ2) (34, [(0, .ref 38), (1, .int x1)], [.int (gI σ 46 (0 + x1).toNatClampNeg)], mk X, p1.2)
    refine Ex.pick (lv' := _) [] rfl ?_
    exact lk_X10_seen_34 d _ _ h
  · refine And.intro (fun hp => absurd hp c2) (fun _ => ?_)
    show Ex mr_X10_seen sc (Cl MT pr sc (d + 1)) (rtE (some (.int r)) (mk X) σ2) (19, [(0, .ref 38), (1, .int x1)], [.int (gI σ 46 (0 + x1).toNatClampNeg)], mk X, p1.2)
    refine Ex.blk 5 rfl ?_
    show Ex mr_X10_seen sc (Cl MT pr sc (d + 1)) (rtE (some (.int r)) (mk X) σ2) (26, [(0, .ref 38), (1, .int x1)], [.int (0 + x1), .ref 46, .int (gI σ 46 (0 + x1).toNatClampNeg)], mk X, p1.2)
    refine Ex.blk 1 rfl ?_
    obtain ⟨g3, h⟩ := gd_some h
    refine And.intro (inb_ok g3) ?_
    show Ex mr_X10_seen sc (Cl MT pr sc (d + 1)) (rtE (some (.int r)) (mk X) σ2) (27, [(0, .ref 38), (1, .int x1)], [.int (gI p1.2 46 (0 + x1).toNatClampNeg), .int (gI σ 46 (0 + x1).toNatClampNeg)], mk X, p1.2)
    refine Ex.blk 1000 rfl ?_
    rcases ite_sp h with ⟨c4, h⟩ | ⟨c4, h⟩
    · refine And.intro (fun _ => ?_) (fun hn => absurd c4 hn)
      show Ex mr_X10_seen sc (Cl MT pr sc (d + 1)) (rtE (some (.int r)) (mk X) σ2) (34, [(0, .ref 38), (1, .int x1)], [.int (gI σ 46 (0 + x1).toNatClampNeg)], mk X, p1.2)
      refine Ex.pick (lv' := _) [] rfl ?_
      exact lk_X10_seen_34 d _ _ h
    · refine And.intro (fun hp => absurd hp c4) (fun _ => ?_)
      show Ex mr_X10_seen sc (Cl MT pr sc (d + 1)) (rtE (some (.int r)) (mk X) σ2) (30, [(0, .ref 38), (1, .int x1)], [.int (gI σ 46 (0 + x1).toNatClampNeg)], mk X, p1.2)
      refine Ex.blk 1000 rfl ?_
      show Ex mr_X10_seen sc (Cl MT pr sc (d + 1)) (rtE (some (.int r)) (mk X) σ2) (35, [(0, .ref 38), (1, .int x1)], [.int 1, .int (gI σ 46 (0 + x1).toNatClampNeg)], mk X, p1.2)
      refine Ex.pick (lv' := _) [] rfl ?_
      exact lk_X10_seen_35 d _ _ _ h
theorem lk_X10_rope_20 {pr : Ct} {sc : Nat × (Nat → Int32)} {X : En} (d : Nat) {r : Int32} {σ2 : St} (σ : St) (h : f_X10_rope_20 σ = some (r, σ2)) : Ex mr_X10_rope sc (Cl MT pr sc (d + 2)) (rtE (some (.int r)) (mk X) σ2) (20, [], [], mk X, σ) := by
  unfold f_X10_rope_20 at h
  refine Ex.blk 1000 rfl ?_
  cases h
  exact And.intro trivial ⟨rfl, rfl, rfl⟩
theorem lk_X10_rope_72 {pr : Ct} {sc : Nat × (Nat → Int32)} {X : En} (d : Nat) {r : Int32} {σ2 : St} (y0 : Int32) (σ : St) (h : f_X10_rope_72 y0 σ = some (r, σ2)) : Ex mr_X10_rope sc (Cl MT pr sc (d + 2)) (rtE (some (.int r)) (mk X) σ2) (72, [], [.int y0], mk X, σ) := by
  unfold f_X10_rope_72 at h
  refine Ex.blk 1000 rfl ?_
  cases h
  exact And.intro trivial ⟨rfl, rfl, rfl⟩
theorem cl_X10_rope {pr : Ct} {sc : Nat × (Nat → Int32)} {X : En} (d : Nat) {r : Int32} {σ2 : St} {x1 : Int32} {x2 : Int32} {σ : St} (h : f_X10_rope x1 x2 σ = some (r, σ2)) : Cl MT pr sc (d + 2 + 1) 186 [.ref 38, .int x1, .int x2] (mk X) σ (some (.int r)) (mk X) σ2 := by
  refine cl_of mr_X10_rope rfl rfl ?_
  unfold f_X10_rope at h
  refine Ex.blk 3 rfl ?_
  obtain ⟨p1, hp1, h⟩ := bind_sp h
  refine Exists.intro (some (.int p1.1)) (Exists.intro (mk X) (Exists.intro p1.2 (And.intro (cl_X10_isRope (d + 0) hp1) ?_)))
  show Ex mr_X10_rope sc (Cl MT pr sc (d + 2)) (rtE (some (.int r)) (mk X) σ2) (5, [(0, .ref 38), (1, .int x1), (2, .int x2)], [.int p1.1], mk X, p1.2)
  refine Ex.blk 1000 rfl ?_
  rcases ite_sp h with ⟨c1, h⟩ | ⟨c1, h⟩
  · refine And.intro (fun _ => ?_) (fun hn => absurd c1 hn)
    show Ex mr_X10_rope sc (Cl MT pr sc (d + 2)) (rtE (some (.int r)) (mk X) σ2) (20, [(0, .ref 38), (1, .int x1), (2, .int x2)], [], mk X, p1.2)
    refine Ex.pick (lv' := _) [] rfl ?_
    exact lk_X10_rope_20 d _ h
  · refine And.intro (fun hp => absurd hp c1) (fun _ => ?_)
    show Ex mr_X10_rope sc (Cl MT pr sc (d + 2)) (rtE (some (.int r)) (mk X) σ2) (8, [(0, .ref 38), (1, .int x1), (2, .int x2)], [], mk X, p1.2)
    refine Ex.blk 5 rfl ?_
    obtain ⟨p2, hp2, h⟩ := bind_sp h
    refine Exists.intro (some (.int p2.1)) (Exists.intro (mk X) (Exists.intro p2.2 (And.intro (cl_X10_in (d + 1) hp2) ?_)))
    show Ex mr_X10_rope sc (Cl MT pr sc (d + 2)) (rtE (some (.int r)) (mk X) σ2) (17, [(0, .ref 38), (1, .int x1), (2, .int x2)], [.int p2.1], mk X, p2.2)
    refine Ex.blk 1000 rfl ?_
    rcases ite_sp h with ⟨c2, h⟩ | ⟨c2, h⟩
    · refine And.intro (fun hp => absurd c2 hp) (fun _ => ?_)
      show Ex mr_X10_rope sc (Cl MT pr sc (d + 2)) (rtE (some (.int r)) (mk X) σ2) (20, [(0, .ref 38), (1, .int x1), (2, .int x2)], [], mk X, p2.2)
      refine Ex.pick (lv' := _) [] rfl ?_
      exact lk_X10_rope_20 d _ h
    · refine And.intro (fun _ => ?_) (fun hn => absurd c2 hn)
      show Ex mr_X10_rope sc (Cl MT pr sc (d + 2)) (rtE (some (.int r)) (mk X) σ2) (22, [(0, .ref 38), (1, .int x1), (2, .int x2)], [], mk X, p2.2)
      refine Ex.blk 1000 rfl ?_
      rcases ite_sp h with ⟨c3, h⟩ | ⟨c3, h⟩
      · refine And.intro (fun hp => absurd c3 hp) (fun _ => ?_)
        show Ex mr_X10_rope sc (Cl MT pr sc (d + 2)) (rtE (some (.int r)) (mk X) σ2) (26, [(0, .ref 38), (1, .int x1), (2, .int x2)], [], mk X, p2.2)
        refine Ex.blk 5 rfl ?_
        show Ex mr_X10_rope sc (Cl MT pr sc (d + 2)) (rtE (some (.int r)) (mk X) σ2) (33, [(0, .ref 38), (1, .int x1), (2, .int x2)], [.int (0 + x1), .ref 46], mk X, p2.2)
        refine Ex.blk 1 rfl ?_
        obtain ⟨g4, h⟩ := gd_some h
        refine And.intro (inb_ok g4) ?_
        show Ex mr_X10_rope sc (Cl MT pr sc (d + 2)) (rtE (some (.int r)) (mk X) σ2) (34, [(0, .ref 38), (1, .int x1), (2, .int x2)], [.int (gI p2.2 46 (0 + x1).toNatClampNeg)], mk X, p2.2)
        refine Ex.blk 1000 rfl ?_
        show Ex mr_X10_rope sc (Cl MT pr sc (d + 2)) (rtE (some (.int r)) (mk X) σ2) (72, [(0, .ref 38), (1, .int x1), (2, .int x2)], [.int (gI p2.2 46 (0 + x1).toNatClampNeg)], mk X, p2.2)
        refine Ex.pick (lv' := _) [] rfl ?_
        exact lk_X10_rope_72 d _ _ h
      · refine And.intro (fun _ => ?_) (fun hn => absurd c3 hn)
        show Ex mr_X10_rope sc (Cl MT pr sc (d + 2)) (rtE (some (.int r)) (mk X) σ2) (37, [(0, .ref 38), (1, .int x1), (2, .int x2)], [], mk X, p2.2)
        refine Ex.blk 1000 rfl ?_
        rcases ite_sp h with ⟨c5, h⟩ | ⟨c5, h⟩
        · refine And.intro (fun hp => absurd c5 hp) (fun _ => ?_)
          show Ex mr_X10_rope sc (Cl MT pr sc (d + 2)) (rtE (some (.int r)) (mk X) σ2) (42, [(0, .ref 38), (1, .int x1), (2, .int x2)], [], mk X, p2.2)
          refine Ex.blk 4 rfl ?_
          obtain ⟨g6, h⟩ := gd_some h
          refine And.intro (inb_ok g6) ?_
          show Ex mr_X10_rope sc (Cl MT pr sc (d + 2)) (rtE (some (.int r)) (mk X) σ2) (48, [(0, .ref 38), (1, .int x1), (2, .int x2)], [.int (gI p2.2 44 x1.toNatClampNeg)], mk X, p2.2)
          refine Ex.blk 1000 rfl ?_
          show Ex mr_X10_rope sc (Cl MT pr sc (d + 2)) (rtE (some (.int r)) (mk X) σ2) (72, [(0, .ref 38), (1, .int x1), (2, .int x2)], [.int (gI p2.2 44 x1.toNatClampNeg)], mk X, p2.2)
          refine Ex.pick (lv' := _) [] rfl ?_
          exact lk_X10_rope_72 d _ _ h
        · refine And.intro (fun _ => ?_) (fun hn => absurd c5 hn)
          show Ex mr_X10_rope sc (Cl MT pr sc (d + 2)) (rtE (some (.int r)) (mk X) σ2) (51, [(0, .ref 38), (1, .int x1), (2, .int x2)], [], mk X, p2.2)
          refine Ex.blk 4 rfl ?_
          obtain ⟨p3, hp3, h⟩ := bind_sp h
          refine Exists.intro (some (.int p3.1)) (Exists.intro (mk X) (Exists.intro p3.2 (And.intro (cl_X10_has (d + 1) hp3) ?_)))
          show Ex mr_X10_rope sc (Cl MT pr sc (d + 2)) (rtE (some (.int r)) (mk X) σ2) (59, [(0, .ref 38), (1, .int x1), (2, .int x2)], [.int p3.1], mk X, p3.2)
          refine Ex.blk 1000 rfl ?_
          rcases ite_sp h with ⟨c7, h⟩ | ⟨c7, h⟩
          · refine And.intro (fun _ => ?_) (fun hn => absurd c7 hn)
            show Ex mr_X10_rope sc (Cl MT pr sc (d + 2)) (rtE (some (.int r)) (mk X) σ2) (67, [(0, .ref 38), (1, .int x1), (2, .int x2)], [], mk X, p3.2)
            refine Ex.blk 3 rfl ?_
            obtain ⟨p4, hp4, h⟩ := bind_sp h
            refine Exists.intro (some (.int p4.1)) (Exists.intro (mk X) (Exists.intro p4.2 (And.intro (cl_X10_seen (d + 0) hp4) ?_)))
            show Ex mr_X10_rope sc (Cl MT pr sc (d + 2)) (rtE (some (.int r)) (mk X) σ2) (72, [(0, .ref 38), (1, .int x1), (2, .int x2)], [.int p4.1], mk X, p4.2)
            refine Ex.pick (lv' := _) [] rfl ?_
            exact lk_X10_rope_72 d _ _ h
          · refine And.intro (fun hp => absurd hp c7) (fun _ => ?_)
            show Ex mr_X10_rope sc (Cl MT pr sc (d + 2)) (rtE (some (.int r)) (mk X) σ2) (62, [(0, .ref 38), (1, .int x1), (2, .int x2)], [], mk X, p3.2)
            refine Ex.blk 1000 rfl ?_
            show Ex mr_X10_rope sc (Cl MT pr sc (d + 2)) (rtE (some (.int r)) (mk X) σ2) (72, [(0, .ref 38), (1, .int x1), (2, .int x2)], [.int (-2)], mk X, p3.2)
            refine Ex.pick (lv' := _) [] rfl ?_
            exact lk_X10_rope_72 d _ _ h
theorem lk_X10_number_29 {pr : Ct} {sc : Nat × (Nat → Int32)} {X : En} (d : Nat) {r : Int64} {σ2 : St} (k9 : Int64 → Int32 → St → Option (Int64 × St)) (hk9 : ∀ (x1 : Int64) (x3 : Int32) (σ : St), k9 x1 x3 σ = some (r, σ2) → Ex mr_X10_number sc (Cl MT pr sc (d + 0)) (rtE (some (.long r)) (mk X) σ2) (9, [(0, .ref 38), (1, .long x1), (3, .int x3)], [], mk X, σ)) (x1 : Int64) (x3 : Int32) (σ : St) (h : f_X10_number_29 k9 x1 x3 σ = some (r, σ2)) : Ex mr_X10_number sc (Cl MT pr sc (d + 0)) (rtE (some (.long r)) (mk X) σ2) (29, [(0, .ref 38), (1, .long x1), (3, .int x3)], [], mk X, σ) := by
  unfold f_X10_number_29 at h
  refine Ex.blk 1000 rfl ?_
  show Ex mr_X10_number sc (Cl MT pr sc (d + 0)) (rtE (some (.long r)) (mk X) σ2) (9, [(3, .int (x3 + (-1))), (0, .ref 38), (1, .long x1)], [], mk X, σ)
  refine Ex.pick (lv' := _) [1, 2, 0] rfl ?_
  exact hk9 _ _ _ h
theorem lk_X10_number_9 {pr : Ct} {sc : Nat × (Nat → Int32)} {X : En} (d : Nat) {r : Int64} {σ2 : St} : ∀ (n : Nat) (x1 : Int64) (x3 : Int32) (σ : St), f_X10_number_9 n x1 x3 σ = some (r, σ2) → Ex mr_X10_number sc (Cl MT pr sc (d + 0)) (rtE (some (.long r)) (mk X) σ2) (9, [(0, .ref 38), (1, .long x1), (3, .int x3)], [], mk X, σ) := by
  intro n
  induction n with
  | zero =>
    intro x1 x3 σ h
    cases h
  | succ n ih =>
    intro x1 x3 σ h
    simp only [f_X10_number_9] at h
    refine Ex.blk 1000 rfl ?_
    rcases ite_sp h with ⟨c1, h⟩ | ⟨c1, h⟩
    · refine And.intro (fun _ => ?_) (fun hn => absurd c1 hn)
      show Ex mr_X10_number sc (Cl MT pr sc (d + 0)) (rtE (some (.long r)) (mk X) σ2) (35, [(0, .ref 38), (1, .long x1), (3, .int x3)], [], mk X, σ)
      refine Ex.blk 1000 rfl ?_
      cases h
      exact And.intro trivial ⟨rfl, rfl, rfl⟩
    · refine And.intro (fun hp => absurd hp c1) (fun _ => ?_)
      show Ex mr_X10_number sc (Cl MT pr sc (d + 0)) (rtE (some (.long r)) (mk X) σ2) (13, [(0, .ref 38), (1, .long x1), (3, .int x3)], [], mk X, σ)
      refine Ex.blk 5 rfl ?_
      show Ex mr_X10_number sc (Cl MT pr sc (d + 0)) (rtE (some (.long r)) (mk X) σ2) (22, [(0, .ref 38), (1, .long x1), (3, .int x3)], [.ref 46, .long (10 * x1)], mk X, σ)
      refine Ex.blk 4 rfl ?_
      obtain ⟨g2, h⟩ := gd_some h
      refine And.intro (inb_ok g2) ?_
      show Ex mr_X10_number sc (Cl MT pr sc (d + 0)) (rtE (some (.long r)) (mk X) σ2) (26, [(0, .ref 38), (1, .long x1), (3, .int x3)], [.int (gI σ 46 (0 + x3).toNatClampNeg), .long (10 * x1)], mk X, σ)
      refine Ex.blk 3 rfl ?_
      show Ex mr_X10_number sc (Cl MT pr sc (d + 0)) (rtE (some (.long r)) (mk X) σ2) (29, [(1, .long ((10 * x1) + ((gI σ 46 (0 + x3).toNatClampNeg).toInt64))), (0, .ref 38), (3, .int x3)], [], mk X, σ)
      refine Ex.pick (lv' := _) [1, 0, 2] rfl ?_
      exact lk_X10_number_29 d _ ih _ _ _ h
theorem cl_X10_number {pr : Ct} {sc : Nat × (Nat → Int32)} {X : En} (d : Nat) {r : Int64} {σ2 : St} {σ : St} (h : f_X10_number σ = some (r, σ2)) : Cl MT pr sc (d + 0 + 1) 187 [.ref 38] (mk X) σ (some (.long r)) (mk X) σ2 := by
  refine cl_of mr_X10_number rfl rfl ?_
  unfold f_X10_number at h
  refine Ex.blk 5 rfl ?_
  show Ex mr_X10_number sc (Cl MT pr sc (d + 0)) (rtE (some (.long r)) (mk X) σ2) (7, [(1, .long 0), (0, .ref 38)], [.int 1, .int (gI σ 38 1)], mk X, σ)
  refine Ex.blk 1000 rfl ?_
  show Ex mr_X10_number sc (Cl MT pr sc (d + 0)) (rtE (some (.long r)) (mk X) σ2) (9, [(3, .int ((gI σ 38 1) - 1)), (1, .long 0), (0, .ref 38)], [], mk X, σ)
  refine Ex.pick (lv' := _) [2, 1, 0] rfl ?_
  exact lk_X10_number_9 d FU _ _ _ h
theorem lk_X10_told_25 {pr : Ct} {sc : Nat × (Nat → Int32)} {X : En} (d : Nat) {r : Int32} {σ2 : St} (y0 : Int32) (σ : St) (h : f_X10_told_25 y0 σ = some (r, σ2)) : Ex mr_X10_told sc (Cl MT pr sc (d + 1)) (rtE (some (.int r)) (mk X) σ2) (25, [], [.int y0], mk X, σ) := by
  unfold f_X10_told_25 at h
  refine Ex.blk 1000 rfl ?_
  cases h
  exact And.intro trivial ⟨rfl, rfl, rfl⟩
theorem cl_X10_told {pr : Ct} {sc : Nat × (Nat → Int32)} {X : En} (d : Nat) {r : Int32} {σ2 : St} {x1 : Int32} {σ : St} (h : f_X10_told x1 σ = some (r, σ2)) : Cl MT pr sc (d + 1 + 1) 188 [.ref 38, .int x1] (mk X) σ (some (.int r)) (mk X) σ2 := by
  refine cl_of mr_X10_told rfl rfl ?_
  unfold f_X10_told at h
  refine Ex.blk 5 rfl ?_
  obtain ⟨p1, hp1, h⟩ := bind_sp h
  refine Exists.intro (some (.int p1.1)) (Exists.intro (mk X) (Exists.intro p1.2 (And.intro (cl_X10_in (d + 0) hp1) ?_)))
  show Ex mr_X10_told sc (Cl MT pr sc (d + 1)) (rtE (some (.int r)) (mk X) σ2) (9, [(0, .ref 38), (1, .int x1)], [.int p1.1], mk X, p1.2)
  refine Ex.blk 1000 rfl ?_
  rcases ite_sp h with ⟨c1, h⟩ | ⟨c1, h⟩
  · refine And.intro (fun _ => ?_) (fun hn => absurd c1 hn)
    show Ex mr_X10_told sc (Cl MT pr sc (d + 1)) (rtE (some (.int r)) (mk X) σ2) (24, [(0, .ref 38), (1, .int x1)], [], mk X, p1.2)
    refine Ex.blk 1000 rfl ?_
    show Ex mr_X10_told sc (Cl MT pr sc (d + 1)) (rtE (some (.int r)) (mk X) σ2) (25, [(0, .ref 38), (1, .int x1)], [.int (-1)], mk X, p1.2)
    refine Ex.pick (lv' := _) [] rfl ?_
    exact lk_X10_told_25 d _ _ h
  · refine And.intro (fun hp => absurd hp c1) (fun _ => ?_)
    show Ex mr_X10_told sc (Cl MT pr sc (d + 1)) (rtE (some (.int r)) (mk X) σ2) (12, [(0, .ref 38), (1, .int x1)], [], mk X, p1.2)
    refine Ex.blk 5 rfl ?_
    show Ex mr_X10_told sc (Cl MT pr sc (d + 1)) (rtE (some (.int r)) (mk X) σ2) (20, [(0, .ref 38), (1, .int x1)], [.int (12 + x1), .ref 46], mk X, p1.2)
    refine Ex.blk 1 rfl ?_
    obtain ⟨g2, h⟩ := gd_some h
    refine And.intro (inb_ok g2) ?_
    show Ex mr_X10_told sc (Cl MT pr sc (d + 1)) (rtE (some (.int r)) (mk X) σ2) (21, [(0, .ref 38), (1, .int x1)], [.int (gI p1.2 46 (12 + x1).toNatClampNeg)], mk X, p1.2)
    refine Ex.blk 1000 rfl ?_
    show Ex mr_X10_told sc (Cl MT pr sc (d + 1)) (rtE (some (.int r)) (mk X) σ2) (25, [(0, .ref 38), (1, .int x1)], [.int (gI p1.2 46 (12 + x1).toNatClampNeg)], mk X, p1.2)
    refine Ex.pick (lv' := _) [] rfl ?_
    exact lk_X10_told_25 d _ _ h
theorem lk_X10_workAll_229 {pr : Ct} {sc : Nat × (Nat → Int32)} {X : En} (d : Nat) {σ2 : St} (k12 : Int32 → Int32 → Int32 → Int32 → St → Option (St)) (k84 : Int32 → Int32 → Int32 → Int32 → Int32 → Int32 → Int32 → Int32 → Int32 → Int32 → St → Option (St)) (hk12 : ∀ (x1 : Int32) (x2 : Int32) (x3 : Int32) (x4 : Int32) (σ : St), k12 x1 x2 x3 x4 σ = some σ2 → Ex mr_X10_workAll sc (Cl MT pr sc (d + 2)) (rtE none (mk X) σ2) (12, [(0, .ref 38), (1, .int x1), (2, .int x2), (3, .int x3), (4, .int x4)], [], mk X, σ)) (hk84 : ∀ (x1 : Int32) (x2 : Int32) (x3 : Int32) (x4 : Int32) (x5 : Int32) (x6 : Int32) (x7 : Int32) (x8 : Int32) (x9 : Int32) (x10 : Int32) (σ : St), k84 x1 x2 x3 x4 x5 x6 x7 x8 x9 x10 σ = some σ2 → Ex mr_X10_workAll sc (Cl MT pr sc (d + 2)) (rtE none (mk X) σ2) (84, [(0, .ref 38), (1, .int x1), (2, .int x2), (3, .int x3), (4, .int x4), (5, .int x5), (6, .int x6), (7, .int x7), (8, .int x8), (9, .int x9), (10, .int x10)], [], mk X, σ)) (x1 : Int32) (x2 : Int32) (x3 : Int32) (x4 : Int32) (x5 : Int32) (x6 : Int32) (x7 : Int32) (x8 : Int32) (x9 : Int32) (x10 : Int32) (σ : St) (h : f_X10_workAll_229 k12 k84 x1 x2 x3 x4 x5 x6 x7 x8 x9 x10 σ = some σ2) : Ex mr_X10_workAll sc (Cl MT pr sc (d + 2)) (rtE none (mk X) σ2) (229, [(0, .ref 38), (1, .int x1), (2, .int x2), (3, .int x3), (4, .int x4), (5, .int x5), (6, .int x6), (7, .int x7), (8, .int x8), (9, .int x9), (10, .int x10)], [], mk X, σ) := by
  unfold f_X10_workAll_229 at h
  refine Ex.blk 1000 rfl ?_
  show Ex mr_X10_workAll sc (Cl MT pr sc (d + 2)) (rtE none (mk X) σ2) (84, [(10, .int (x10 + 1)), (0, .ref 38), (1, .int x1), (2, .int x2), (3, .int x3), (4, .int x4), (5, .int x5), (6, .int x6), (7, .int x7), (8, .int x8), (9, .int x9)], [], mk X, σ)
  refine Ex.pick (lv' := _) [1, 2, 3, 4, 5, 6, 7, 8, 9, 10, 0] rfl ?_
  exact hk84 _ _ _ _ _ _ _ _ _ _ _ h
theorem lk_X10_workAll_223 {pr : Ct} {sc : Nat × (Nat → Int32)} {X : En} (d : Nat) {σ2 : St} (k12 : Int32 → Int32 → Int32 → Int32 → St → Option (St)) (k84 : Int32 → Int32 → Int32 → Int32 → Int32 → Int32 → Int32 → Int32 → Int32 → Int32 → St → Option (St)) (hk12 : ∀ (x1 : Int32) (x2 : Int32) (x3 : Int32) (x4 : Int32) (σ : St), k12 x1 x2 x3 x4 σ = some σ2 → Ex mr_X10_workAll sc (Cl MT pr sc (d + 2)) (rtE none (mk X) σ2) (12, [(0, .ref 38), (1, .int x1), (2, .int x2), (3, .int x3), (4, .int x4)], [], mk X, σ)) (hk84 : ∀ (x1 : Int32) (x2 : Int32) (x3 : Int32) (x4 : Int32) (x5 : Int32) (x6 : Int32) (x7 : Int32) (x8 : Int32) (x9 : Int32) (x10 : Int32) (σ : St), k84 x1 x2 x3 x4 x5 x6 x7 x8 x9 x10 σ = some σ2 → Ex mr_X10_workAll sc (Cl MT pr sc (d + 2)) (rtE none (mk X) σ2) (84, [(0, .ref 38), (1, .int x1), (2, .int x2), (3, .int x3), (4, .int x4), (5, .int x5), (6, .int x6), (7, .int x7), (8, .int x8), (9, .int x9), (10, .int x10)], [], mk X, σ)) (x1 : Int32) (x2 : Int32) (x3 : Int32) (x4 : Int32) (x5 : Int32) (x7 : Int32) (x9 : Int32) (x10 : Int32) (x14 : Int32) (y0 : Int32) (σ : St) (h : f_X10_workAll_223 k12 k84 x1 x2 x3 x4 x5 x7 x9 x10 x14 y0 σ = some σ2) : Ex mr_X10_workAll sc (Cl MT pr sc (d + 2)) (rtE none (mk X) σ2) (223, [(0, .ref 38), (1, .int x1), (2, .int x2), (3, .int x3), (4, .int x4), (5, .int x5), (7, .int x7), (9, .int x9), (10, .int x10), (14, .int x14)], [.int y0], mk X, σ) := by
  unfold f_X10_workAll_223 at h
  refine Ex.blk 1000 rfl ?_
  show Ex mr_X10_workAll sc (Cl MT pr sc (d + 2)) (rtE none (mk X) σ2) (229, [(6, .int x14), (8, .int y0), (0, .ref 38), (1, .int x1), (2, .int x2), (3, .int x3), (4, .int x4), (5, .int x5), (7, .int x7), (9, .int x9), (10, .int x10), (14, .int x14)], [], mk X, σ)
  refine Ex.pick (lv' := _) [2, 3, 4, 5, 6, 7, 0, 8, 1, 9, 10] rfl ?_
  exact lk_X10_workAll_229 d _ _ hk12 hk84 _ _ _ _ _ _ _ _ _ _ _ h
theorem lk_X10_workAll_204 {pr : Ct} {sc : Nat × (Nat → Int32)} {X : En} (d : Nat) {σ2 : St} (k12 : Int32 → Int32 → Int32 → Int32 → St → Option (St)) (k84 : Int32 → Int32 → Int32 → Int32 → Int32 → Int32 → Int32 → Int32 → Int32 → Int32 → St → Option (St)) (hk12 : ∀ (x1 : Int32) (x2 : Int32) (x3 : Int32) (x4 : Int32) (σ : St), k12 x1 x2 x3 x4 σ = some σ2 → Ex mr_X10_workAll sc (Cl MT pr sc (d + 2)) (rtE none (mk X) σ2) (12, [(0, .ref 38), (1, .int x1), (2, .int x2), (3, .int x3), (4, .int x4)], [], mk X, σ)) (hk84 : ∀ (x1 : Int32) (x2 : Int32) (x3 : Int32) (x4 : Int32) (x5 : Int32) (x6 : Int32) (x7 : Int32) (x8 : Int32) (x9 : Int32) (x10 : Int32) (σ : St), k84 x1 x2 x3 x4 x5 x6 x7 x8 x9 x10 σ = some σ2 → Ex mr_X10_workAll sc (Cl MT pr sc (d + 2)) (rtE none (mk X) σ2) (84, [(0, .ref 38), (1, .int x1), (2, .int x2), (3, .int x3), (4, .int x4), (5, .int x5), (6, .int x6), (7, .int x7), (8, .int x8), (9, .int x9), (10, .int x10)], [], mk X, σ)) (x1 : Int32) (x2 : Int32) (x3 : Int32) (x4 : Int32) (x5 : Int32) (x7 : Int32) (x8 : Int32) (x9 : Int32) (x10 : Int32) (x13 : Int32) (x14 : Int32) (σ : St) (h : f_X10_workAll_204 k12 k84 x1 x2 x3 x4 x5 x7 x8 x9 x10 x13 x14 σ = some σ2) : Ex mr_X10_workAll sc (Cl MT pr sc (d + 2)) (rtE none (mk X) σ2) (204, [(0, .ref 38), (1, .int x1), (2, .int x2), (3, .int x3), (4, .int x4), (5, .int x5), (7, .int x7), (8, .int x8), (9, .int x9), (10, .int x10), (13, .int x13), (14, .int x14)], [], mk X, σ) := by
  unfold f_X10_workAll_204 at h
  refine Ex.blk 1000 rfl ?_
  rcases ite_sp h with ⟨c1, h⟩ | ⟨c1, h⟩
  · refine And.intro (fun _ => ?_) (fun hn => absurd c1 hn)
    show Ex mr_X10_workAll sc (Cl MT pr sc (d + 2)) (rtE none (mk X) σ2) (221, [(0, .ref 38), (1, .int x1), (2, .int x2), (3, .int x3), (4, .int x4), (5, .int x5), (7, .int x7), (8, .int x8), (9, .int x9), (10, .int x10), (13, .int x13), (14, .int x14)], [], mk X, σ)
    refine Ex.blk 1000 rfl ?_
    show Ex mr_X10_workAll sc (Cl MT pr sc (d + 2)) (rtE none (mk X) σ2) (223, [(0, .ref 38), (1, .int x1), (2, .int x2), (3, .int x3), (4, .int x4), (5, .int x5), (7, .int x7), (8, .int x8), (9, .int x9), (10, .int x10), (13, .int x13), (14, .int x14)], [.int x8], mk X, σ)
    refine Ex.pick (lv' := _) [0, 1, 2, 3, 4, 5, 6, 8, 9, 11] rfl ?_
    exact lk_X10_workAll_223 d _ _ hk12 hk84 _ _ _ _ _ _ _ _ _ _ _ h
  · refine And.intro (fun hp => absurd hp c1) (fun _ => ?_)
    show Ex mr_X10_workAll sc (Cl MT pr sc (d + 2)) (rtE none (mk X) σ2) (211, [(0, .ref 38), (1, .int x1), (2, .int x2), (3, .int x3), (4, .int x4), (5, .int x5), (7, .int x7), (8, .int x8), (9, .int x9), (10, .int x10), (13, .int x13), (14, .int x14)], [], mk X, σ)
    refine Ex.blk 1000 rfl ?_
    show Ex mr_X10_workAll sc (Cl MT pr sc (d + 2)) (rtE none (mk X) σ2) (223, [(0, .ref 38), (1, .int x1), (2, .int x2), (3, .int x3), (4, .int x4), (5, .int x5), (7, .int x7), (8, .int x8), (9, .int x9), (10, .int x10), (13, .int x13), (14, .int x14)], [.int (x7 + (gI σ 38 13))], mk X, σ)
    refine Ex.pick (lv' := _) [0, 1, 2, 3, 4, 5, 6, 8, 9, 11] rfl ?_
    exact lk_X10_workAll_223 d _ _ hk12 hk84 _ _ _ _ _ _ _ _ _ _ _ h
theorem lk_X10_workAll_181 {pr : Ct} {sc : Nat × (Nat → Int32)} {X : En} (d : Nat) {σ2 : St} (k12 : Int32 → Int32 → Int32 → Int32 → St → Option (St)) (k84 : Int32 → Int32 → Int32 → Int32 → Int32 → Int32 → Int32 → Int32 → Int32 → Int32 → St → Option (St)) (hk12 : ∀ (x1 : Int32) (x2 : Int32) (x3 : Int32) (x4 : Int32) (σ : St), k12 x1 x2 x3 x4 σ = some σ2 → Ex mr_X10_workAll sc (Cl MT pr sc (d + 2)) (rtE none (mk X) σ2) (12, [(0, .ref 38), (1, .int x1), (2, .int x2), (3, .int x3), (4, .int x4)], [], mk X, σ)) (hk84 : ∀ (x1 : Int32) (x2 : Int32) (x3 : Int32) (x4 : Int32) (x5 : Int32) (x6 : Int32) (x7 : Int32) (x8 : Int32) (x9 : Int32) (x10 : Int32) (σ : St), k84 x1 x2 x3 x4 x5 x6 x7 x8 x9 x10 σ = some σ2 → Ex mr_X10_workAll sc (Cl MT pr sc (d + 2)) (rtE none (mk X) σ2) (84, [(0, .ref 38), (1, .int x1), (2, .int x2), (3, .int x3), (4, .int x4), (5, .int x5), (6, .int x6), (7, .int x7), (8, .int x8), (9, .int x9), (10, .int x10)], [], mk X, σ)) (x1 : Int32) (x2 : Int32) (x3 : Int32) (x4 : Int32) (x5 : Int32) (x6 : Int32) (x7 : Int32) (x8 : Int32) (x9 : Int32) (x10 : Int32) (x12 : Int32) (x13 : Int32) (x14 : Int32) (σ : St) (h : f_X10_workAll_181 k12 k84 x1 x2 x3 x4 x5 x6 x7 x8 x9 x10 x12 x13 x14 σ = some σ2) : Ex mr_X10_workAll sc (Cl MT pr sc (d + 2)) (rtE none (mk X) σ2) (181, [(0, .ref 38), (1, .int x1), (2, .int x2), (3, .int x3), (4, .int x4), (5, .int x5), (6, .int x6), (7, .int x7), (8, .int x8), (9, .int x9), (10, .int x10), (12, .int x12), (13, .int x13), (14, .int x14)], [], mk X, σ) := by
  unfold f_X10_workAll_181 at h
  refine Ex.blk 5 rfl ?_
  show Ex mr_X10_workAll sc (Cl MT pr sc (d + 2)) (rtE none (mk X) σ2) (192, [(0, .ref 38), (1, .int x1), (2, .int x2), (3, .int x3), (4, .int x4), (5, .int x5), (6, .int x6), (7, .int x7), (8, .int x8), (9, .int x9), (10, .int x10), (12, .int x12), (13, .int x13), (14, .int x14)], [.int (gI σ 38 12), .int (mxI x7 x12)], mk X, σ)
  refine Ex.blk 5 rfl ?_
  show Ex mr_X10_workAll sc (Cl MT pr sc (d + 2)) (rtE none (mk X) σ2) (201, [(0, .ref 38), (1, .int x1), (2, .int x2), (3, .int x3), (4, .int x4), (5, .int x5), (6, .int x6), (7, .int x7), (8, .int x8), (9, .int x9), (10, .int x10), (12, .int x12), (13, .int x13), (14, .int x14)], [.int ((gI σ 38 12) * (abI (x14 - x6))), .int (mxI x7 x12)], mk X, σ)
  refine Ex.blk 2 rfl ?_
  show Ex mr_X10_workAll sc (Cl MT pr sc (d + 2)) (rtE none (mk X) σ2) (204, [(7, .int ((mxI x7 x12) + ((gI σ 38 12) * (abI (x14 - x6))))), (0, .ref 38), (1, .int x1), (2, .int x2), (3, .int x3), (4, .int x4), (5, .int x5), (6, .int x6), (8, .int x8), (9, .int x9), (10, .int x10), (12, .int x12), (13, .int x13), (14, .int x14)], [], mk X, σ)
  refine Ex.pick (lv' := _) [1, 2, 3, 4, 5, 6, 0, 8, 9, 10, 12, 13] rfl ?_
  exact lk_X10_workAll_204 d _ _ hk12 hk84 _ _ _ _ _ _ _ _ _ _ _ _ h
theorem lk_X10_workAll_169 {pr : Ct} {sc : Nat × (Nat → Int32)} {X : En} (d : Nat) {σ2 : St} (k12 : Int32 → Int32 → Int32 → Int32 → St → Option (St)) (k84 : Int32 → Int32 → Int32 → Int32 → Int32 → Int32 → Int32 → Int32 → Int32 → Int32 → St → Option (St)) (hk12 : ∀ (x1 : Int32) (x2 : Int32) (x3 : Int32) (x4 : Int32) (σ : St), k12 x1 x2 x3 x4 σ = some σ2 → Ex mr_X10_workAll sc (Cl MT pr sc (d + 2)) (rtE none (mk X) σ2) (12, [(0, .ref 38), (1, .int x1), (2, .int x2), (3, .int x3), (4, .int x4)], [], mk X, σ)) (hk84 : ∀ (x1 : Int32) (x2 : Int32) (x3 : Int32) (x4 : Int32) (x5 : Int32) (x6 : Int32) (x7 : Int32) (x8 : Int32) (x9 : Int32) (x10 : Int32) (σ : St), k84 x1 x2 x3 x4 x5 x6 x7 x8 x9 x10 σ = some σ2 → Ex mr_X10_workAll sc (Cl MT pr sc (d + 2)) (rtE none (mk X) σ2) (84, [(0, .ref 38), (1, .int x1), (2, .int x2), (3, .int x3), (4, .int x4), (5, .int x5), (6, .int x6), (7, .int x7), (8, .int x8), (9, .int x9), (10, .int x10)], [], mk X, σ)) (x1 : Int32) (x2 : Int32) (x3 : Int32) (x4 : Int32) (x5 : Int32) (x6 : Int32) (x7 : Int32) (x8 : Int32) (x9 : Int32) (x10 : Int32) (x12 : Int32) (x13 : Int32) (y0 : Int32) (σ : St) (h : f_X10_workAll_169 k12 k84 x1 x2 x3 x4 x5 x6 x7 x8 x9 x10 x12 x13 y0 σ = some σ2) : Ex mr_X10_workAll sc (Cl MT pr sc (d + 2)) (rtE none (mk X) σ2) (169, [(0, .ref 38), (1, .int x1), (2, .int x2), (3, .int x3), (4, .int x4), (5, .int x5), (6, .int x6), (7, .int x7), (8, .int x8), (9, .int x9), (10, .int x10), (12, .int x12), (13, .int x13)], [.int y0], mk X, σ) := by
  unfold f_X10_workAll_169 at h
  refine Ex.blk 4 rfl ?_
  obtain ⟨g1, h⟩ := gd_some h
  refine And.intro (inb_ok g1) ?_
  show Ex mr_X10_workAll sc (Cl MT pr sc (d + 2)) (rtE none (mk X) σ2) (176, [(0, .ref 38), (1, .int x1), (2, .int x2), (3, .int x3), (4, .int x4), (5, .int x5), (6, .int x6), (7, .int x7), (8, .int x8), (9, .int x9), (10, .int x10), (12, .int x12), (13, .int x13)], [.int (gI σ 44 x4.toNatClampNeg), .int y0], mk X, σ)
  refine Ex.blk 2 rfl ?_
  show Ex mr_X10_workAll sc (Cl MT pr sc (d + 2)) (rtE none (mk X) σ2) (181, [(14, .int (mnI y0 (gI σ 44 x4.toNatClampNeg))), (0, .ref 38), (1, .int x1), (2, .int x2), (3, .int x3), (4, .int x4), (5, .int x5), (6, .int x6), (7, .int x7), (8, .int x8), (9, .int x9), (10, .int x10), (12, .int x12), (13, .int x13)], [], mk X, σ)
  refine Ex.pick (lv' := _) [1, 2, 3, 4, 5, 6, 7, 8, 9, 10, 11, 12, 13, 0] rfl ?_
  exact lk_X10_workAll_181 d _ _ hk12 hk84 _ _ _ _ _ _ _ _ _ _ _ _ _ _ h
theorem lk_X10_workAll_152 {pr : Ct} {sc : Nat × (Nat → Int32)} {X : En} (d : Nat) {σ2 : St} (k12 : Int32 → Int32 → Int32 → Int32 → St → Option (St)) (k84 : Int32 → Int32 → Int32 → Int32 → Int32 → Int32 → Int32 → Int32 → Int32 → Int32 → St → Option (St)) (hk12 : ∀ (x1 : Int32) (x2 : Int32) (x3 : Int32) (x4 : Int32) (σ : St), k12 x1 x2 x3 x4 σ = some σ2 → Ex mr_X10_workAll sc (Cl MT pr sc (d + 2)) (rtE none (mk X) σ2) (12, [(0, .ref 38), (1, .int x1), (2, .int x2), (3, .int x3), (4, .int x4)], [], mk X, σ)) (hk84 : ∀ (x1 : Int32) (x2 : Int32) (x3 : Int32) (x4 : Int32) (x5 : Int32) (x6 : Int32) (x7 : Int32) (x8 : Int32) (x9 : Int32) (x10 : Int32) (σ : St), k84 x1 x2 x3 x4 x5 x6 x7 x8 x9 x10 σ = some σ2 → Ex mr_X10_workAll sc (Cl MT pr sc (d + 2)) (rtE none (mk X) σ2) (84, [(0, .ref 38), (1, .int x1), (2, .int x2), (3, .int x3), (4, .int x4), (5, .int x5), (6, .int x6), (7, .int x7), (8, .int x8), (9, .int x9), (10, .int x10)], [], mk X, σ)) (x1 : Int32) (x2 : Int32) (x3 : Int32) (x4 : Int32) (x5 : Int32) (x6 : Int32) (x7 : Int32) (x8 : Int32) (x9 : Int32) (x10 : Int32) (x12 : Int32) (x13 : Int32) (σ : St) (h : f_X10_workAll_152 k12 k84 x1 x2 x3 x4 x5 x6 x7 x8 x9 x10 x12 x13 σ = some σ2) : Ex mr_X10_workAll sc (Cl MT pr sc (d + 2)) (rtE none (mk X) σ2) (152, [(0, .ref 38), (1, .int x1), (2, .int x2), (3, .int x3), (4, .int x4), (5, .int x5), (6, .int x6), (7, .int x7), (8, .int x8), (9, .int x9), (10, .int x10), (12, .int x12), (13, .int x13)], [], mk X, σ) := by
  unfold f_X10_workAll_152 at h
  refine Ex.blk 1000 rfl ?_
  rcases ite_sp h with ⟨c1, h⟩ | ⟨c1, h⟩
  · refine And.intro (fun _ => ?_) (fun hn => absurd c1 hn)
    show Ex mr_X10_workAll sc (Cl MT pr sc (d + 2)) (rtE none (mk X) σ2) (167, [(0, .ref 38), (1, .int x1), (2, .int x2), (3, .int x3), (4, .int x4), (5, .int x5), (6, .int x6), (7, .int x7), (8, .int x8), (9, .int x9), (10, .int x10), (12, .int x12), (13, .int x13)], [], mk X, σ)
    refine Ex.blk 1000 rfl ?_
    show Ex mr_X10_workAll sc (Cl MT pr sc (d + 2)) (rtE none (mk X) σ2) (169, [(0, .ref 38), (1, .int x1), (2, .int x2), (3, .int x3), (4, .int x4), (5, .int x5), (6, .int x6), (7, .int x7), (8, .int x8), (9, .int x9), (10, .int x10), (12, .int x12), (13, .int x13)], [.int x13], mk X, σ)
    exact lk_X10_workAll_169 d _ _ hk12 hk84 _ _ _ _ _ _ _ _ _ _ _ _ _ _ h
  · refine And.intro (fun hp => absurd hp c1) (fun _ => ?_)
    show Ex mr_X10_workAll sc (Cl MT pr sc (d + 2)) (rtE none (mk X) σ2) (159, [(0, .ref 38), (1, .int x1), (2, .int x2), (3, .int x3), (4, .int x4), (5, .int x5), (6, .int x6), (7, .int x7), (8, .int x8), (9, .int x9), (10, .int x10), (12, .int x12), (13, .int x13)], [], mk X, σ)
    refine Ex.blk 1000 rfl ?_
    show Ex mr_X10_workAll sc (Cl MT pr sc (d + 2)) (rtE none (mk X) σ2) (169, [(0, .ref 38), (1, .int x1), (2, .int x2), (3, .int x3), (4, .int x4), (5, .int x5), (6, .int x6), (7, .int x7), (8, .int x8), (9, .int x9), (10, .int x10), (12, .int x12), (13, .int x13)], [.int (x13 - 10)], mk X, σ)
    exact lk_X10_workAll_169 d _ _ hk12 hk84 _ _ _ _ _ _ _ _ _ _ _ _ _ _ h
theorem lk_X10_workAll_149 {pr : Ct} {sc : Nat × (Nat → Int32)} {X : En} (d : Nat) {σ2 : St} (k12 : Int32 → Int32 → Int32 → Int32 → St → Option (St)) (k84 : Int32 → Int32 → Int32 → Int32 → Int32 → Int32 → Int32 → Int32 → Int32 → Int32 → St → Option (St)) (hk12 : ∀ (x1 : Int32) (x2 : Int32) (x3 : Int32) (x4 : Int32) (σ : St), k12 x1 x2 x3 x4 σ = some σ2 → Ex mr_X10_workAll sc (Cl MT pr sc (d + 2)) (rtE none (mk X) σ2) (12, [(0, .ref 38), (1, .int x1), (2, .int x2), (3, .int x3), (4, .int x4)], [], mk X, σ)) (hk84 : ∀ (x1 : Int32) (x2 : Int32) (x3 : Int32) (x4 : Int32) (x5 : Int32) (x6 : Int32) (x7 : Int32) (x8 : Int32) (x9 : Int32) (x10 : Int32) (σ : St), k84 x1 x2 x3 x4 x5 x6 x7 x8 x9 x10 σ = some σ2 → Ex mr_X10_workAll sc (Cl MT pr sc (d + 2)) (rtE none (mk X) σ2) (84, [(0, .ref 38), (1, .int x1), (2, .int x2), (3, .int x3), (4, .int x4), (5, .int x5), (6, .int x6), (7, .int x7), (8, .int x8), (9, .int x9), (10, .int x10)], [], mk X, σ)) (x1 : Int32) (x2 : Int32) (x3 : Int32) (x4 : Int32) (x5 : Int32) (x6 : Int32) (x7 : Int32) (x8 : Int32) (x9 : Int32) (x10 : Int32) (x12 : Int32) (y0 : Int32) (y1 : Int32) (σ : St) (h : f_X10_workAll_149 k12 k84 x1 x2 x3 x4 x5 x6 x7 x8 x9 x10 x12 y0 y1 σ = some σ2) : Ex mr_X10_workAll sc (Cl MT pr sc (d + 2)) (rtE none (mk X) σ2) (149, [(0, .ref 38), (1, .int x1), (2, .int x2), (3, .int x3), (4, .int x4), (5, .int x5), (6, .int x6), (7, .int x7), (8, .int x8), (9, .int x9), (10, .int x10), (12, .int x12)], [.int y0, .int y1], mk X, σ) := by
  unfold f_X10_workAll_149 at h
  refine Ex.blk 2 rfl ?_
  show Ex mr_X10_workAll sc (Cl MT pr sc (d + 2)) (rtE none (mk X) σ2) (152, [(13, .int (y1 + y0)), (0, .ref 38), (1, .int x1), (2, .int x2), (3, .int x3), (4, .int x4), (5, .int x5), (6, .int x6), (7, .int x7), (8, .int x8), (9, .int x9), (10, .int x10), (12, .int x12)], [], mk X, σ)
  refine Ex.pick (lv' := _) [1, 2, 3, 4, 5, 6, 7, 8, 9, 10, 11, 12, 0] rfl ?_
  exact lk_X10_workAll_152 d _ _ hk12 hk84 _ _ _ _ _ _ _ _ _ _ _ _ _ h
theorem lk_X10_workAll_123 {pr : Ct} {sc : Nat × (Nat → Int32)} {X : En} (d : Nat) {σ2 : St} (k12 : Int32 → Int32 → Int32 → Int32 → St → Option (St)) (k84 : Int32 → Int32 → Int32 → Int32 → Int32 → Int32 → Int32 → Int32 → Int32 → Int32 → St → Option (St)) (hk12 : ∀ (x1 : Int32) (x2 : Int32) (x3 : Int32) (x4 : Int32) (σ : St), k12 x1 x2 x3 x4 σ = some σ2 → Ex mr_X10_workAll sc (Cl MT pr sc (d + 2)) (rtE none (mk X) σ2) (12, [(0, .ref 38), (1, .int x1), (2, .int x2), (3, .int x3), (4, .int x4)], [], mk X, σ)) (hk84 : ∀ (x1 : Int32) (x2 : Int32) (x3 : Int32) (x4 : Int32) (x5 : Int32) (x6 : Int32) (x7 : Int32) (x8 : Int32) (x9 : Int32) (x10 : Int32) (σ : St), k84 x1 x2 x3 x4 x5 x6 x7 x8 x9 x10 σ = some σ2 → Ex mr_X10_workAll sc (Cl MT pr sc (d + 2)) (rtE none (mk X) σ2) (84, [(0, .ref 38), (1, .int x1), (2, .int x2), (3, .int x3), (4, .int x4), (5, .int x5), (6, .int x6), (7, .int x7), (8, .int x8), (9, .int x9), (10, .int x10)], [], mk X, σ)) (x1 : Int32) (x2 : Int32) (x3 : Int32) (x4 : Int32) (x5 : Int32) (x6 : Int32) (x7 : Int32) (x8 : Int32) (x9 : Int32) (x10 : Int32) (x11 : Int32) (y0 : Int32) (σ : St) (h : f_X10_workAll_123 k12 k84 x1 x2 x3 x4 x5 x6 x7 x8 x9 x10 x11 y0 σ = some σ2) : Ex mr_X10_workAll sc (Cl MT pr sc (d + 2)) (rtE none (mk X) σ2) (123, [(0, .ref 38), (1, .int x1), (2, .int x2), (3, .int x3), (4, .int x4), (5, .int x5), (6, .int x6), (7, .int x7), (8, .int x8), (9, .int x9), (10, .int x10), (11, .int x11)], [.int y0], mk X, σ) := by
  unfold f_X10_workAll_123 at h
  refine Ex.blk 1000 rfl ?_
  rcases ite_sp h with ⟨c1, h⟩ | ⟨c1, h⟩
  · refine And.intro (fun _ => ?_) (fun hn => absurd c1 hn)
    show Ex mr_X10_workAll sc (Cl MT pr sc (d + 2)) (rtE none (mk X) σ2) (229, [(12, .int y0), (0, .ref 38), (1, .int x1), (2, .int x2), (3, .int x3), (4, .int x4), (5, .int x5), (6, .int x6), (7, .int x7), (8, .int x8), (9, .int x9), (10, .int x10), (11, .int x11)], [], mk X, σ)
    refine Ex.pick (lv' := _) [1, 2, 3, 4, 5, 6, 7, 8, 9, 10, 11] rfl ?_
    exact lk_X10_workAll_229 d _ _ hk12 hk84 _ _ _ _ _ _ _ _ _ _ _ h
  · refine And.intro (fun hp => absurd hp c1) (fun _ => ?_)
    show Ex mr_X10_workAll sc (Cl MT pr sc (d + 2)) (rtE none (mk X) σ2) (131, [(12, .int y0), (0, .ref 38), (1, .int x1), (2, .int x2), (3, .int x3), (4, .int x4), (5, .int x5), (6, .int x6), (7, .int x7), (8, .int x8), (9, .int x9), (10, .int x10), (11, .int x11)], [], mk X, σ)
    refine Ex.blk 1000 rfl ?_
    rcases ite_sp h with ⟨c2, h⟩ | ⟨c2, h⟩
    · refine And.intro (fun _ => ?_) (fun hn => absurd c2 hn)
      show Ex mr_X10_workAll sc (Cl MT pr sc (d + 2)) (rtE none (mk X) σ2) (148, [(12, .int y0), (0, .ref 38), (1, .int x1), (2, .int x2), (3, .int x3), (4, .int x4), (5, .int x5), (6, .int x6), (7, .int x7), (8, .int x8), (9, .int x9), (10, .int x10), (11, .int x11)], [.int x6], mk X, σ)
      refine Ex.blk 1000 rfl ?_
      show Ex mr_X10_workAll sc (Cl MT pr sc (d + 2)) (rtE none (mk X) σ2) (149, [(12, .int y0), (0, .ref 38), (1, .int x1), (2, .int x2), (3, .int x3), (4, .int x4), (5, .int x5), (6, .int x6), (7, .int x7), (8, .int x8), (9, .int x9), (10, .int x10), (11, .int x11)], [.int 1, .int x6], mk X, σ)
      refine Ex.pick (lv' := _) [1, 2, 3, 4, 5, 6, 7, 8, 9, 10, 11, 0] rfl ?_
      exact lk_X10_workAll_149 d _ _ hk12 hk84 _ _ _ _ _ _ _ _ _ _ _ _ _ _ h
    · refine And.intro (fun hp => absurd hp c2) (fun _ => ?_)
      show Ex mr_X10_workAll sc (Cl MT pr sc (d + 2)) (rtE none (mk X) σ2) (138, [(12, .int y0), (0, .ref 38), (1, .int x1), (2, .int x2), (3, .int x3), (4, .int x4), (5, .int x5), (6, .int x6), (7, .int x7), (8, .int x8), (9, .int x9), (10, .int x10), (11, .int x11)], [.int x6], mk X, σ)
      refine Ex.blk 4 rfl ?_
      obtain ⟨p2, hp2, h⟩ := bind_sp h
      refine Exists.intro (some (.int p2.1)) (Exists.intro (mk X) (Exists.intro p2.2 (And.intro (cl_X10_digitOf (d + 1) hp2) ?_)))
      show Ex mr_X10_workAll sc (Cl MT pr sc (d + 2)) (rtE none (mk X) σ2) (145, [(12, .int y0), (0, .ref 38), (1, .int x1), (2, .int x2), (3, .int x3), (4, .int x4), (5, .int x5), (6, .int x6), (7, .int x7), (8, .int x8), (9, .int x9), (10, .int x10), (11, .int x11)], [.int p2.1, .int x6], mk X, p2.2)
      refine Ex.blk 1000 rfl ?_
      show Ex mr_X10_workAll sc (Cl MT pr sc (d + 2)) (rtE none (mk X) σ2) (149, [(12, .int y0), (0, .ref 38), (1, .int x1), (2, .int x2), (3, .int x3), (4, .int x4), (5, .int x5), (6, .int x6), (7, .int x7), (8, .int x8), (9, .int x9), (10, .int x10), (11, .int x11)], [.int p2.1, .int x6], mk X, p2.2)
      refine Ex.pick (lv' := _) [1, 2, 3, 4, 5, 6, 7, 8, 9, 10, 11, 0] rfl ?_
      exact lk_X10_workAll_149 d _ _ hk12 hk84 _ _ _ _ _ _ _ _ _ _ _ _ _ _ h
theorem lk_X10_workAll_110 {pr : Ct} {sc : Nat × (Nat → Int32)} {X : En} (d : Nat) {σ2 : St} (k12 : Int32 → Int32 → Int32 → Int32 → St → Option (St)) (k84 : Int32 → Int32 → Int32 → Int32 → Int32 → Int32 → Int32 → Int32 → Int32 → Int32 → St → Option (St)) (hk12 : ∀ (x1 : Int32) (x2 : Int32) (x3 : Int32) (x4 : Int32) (σ : St), k12 x1 x2 x3 x4 σ = some σ2 → Ex mr_X10_workAll sc (Cl MT pr sc (d + 2)) (rtE none (mk X) σ2) (12, [(0, .ref 38), (1, .int x1), (2, .int x2), (3, .int x3), (4, .int x4)], [], mk X, σ)) (hk84 : ∀ (x1 : Int32) (x2 : Int32) (x3 : Int32) (x4 : Int32) (x5 : Int32) (x6 : Int32) (x7 : Int32) (x8 : Int32) (x9 : Int32) (x10 : Int32) (σ : St), k84 x1 x2 x3 x4 x5 x6 x7 x8 x9 x10 σ = some σ2 → Ex mr_X10_workAll sc (Cl MT pr sc (d + 2)) (rtE none (mk X) σ2) (84, [(0, .ref 38), (1, .int x1), (2, .int x2), (3, .int x3), (4, .int x4), (5, .int x5), (6, .int x6), (7, .int x7), (8, .int x8), (9, .int x9), (10, .int x10)], [], mk X, σ)) (x1 : Int32) (x2 : Int32) (x3 : Int32) (x4 : Int32) (x5 : Int32) (x6 : Int32) (x7 : Int32) (x8 : Int32) (x9 : Int32) (x10 : Int32) (y0 : Int32) (σ : St) (h : f_X10_workAll_110 k12 k84 x1 x2 x3 x4 x5 x6 x7 x8 x9 x10 y0 σ = some σ2) : Ex mr_X10_workAll sc (Cl MT pr sc (d + 2)) (rtE none (mk X) σ2) (110, [(0, .ref 38), (1, .int x1), (2, .int x2), (3, .int x3), (4, .int x4), (5, .int x5), (6, .int x6), (7, .int x7), (8, .int x8), (9, .int x9), (10, .int x10)], [.int y0], mk X, σ) := by
  unfold f_X10_workAll_110 at h
  refine Ex.blk 1000 rfl ?_
  rcases ite_sp h with ⟨c1, h⟩ | ⟨c1, h⟩
  · refine And.intro (fun _ => ?_) (fun hn => absurd c1 hn)
    show Ex mr_X10_workAll sc (Cl MT pr sc (d + 2)) (rtE none (mk X) σ2) (122, [(11, .int y0), (0, .ref 38), (1, .int x1), (2, .int x2), (3, .int x3), (4, .int x4), (5, .int x5), (6, .int x6), (7, .int x7), (8, .int x8), (9, .int x9), (10, .int x10)], [], mk X, σ)
    refine Ex.blk 1000 rfl ?_
    show Ex mr_X10_workAll sc (Cl MT pr sc (d + 2)) (rtE none (mk X) σ2) (123, [(11, .int y0), (0, .ref 38), (1, .int x1), (2, .int x2), (3, .int x3), (4, .int x4), (5, .int x5), (6, .int x6), (7, .int x7), (8, .int x8), (9, .int x9), (10, .int x10)], [.int x3], mk X, σ)
    refine Ex.pick (lv' := _) [1, 2, 3, 4, 5, 6, 7, 8, 9, 10, 11, 0] rfl ?_
    exact lk_X10_workAll_123 d _ _ hk12 hk84 _ _ _ _ _ _ _ _ _ _ _ _ _ h
  · refine And.intro (fun hp => absurd hp c1) (fun _ => ?_)
    show Ex mr_X10_workAll sc (Cl MT pr sc (d + 2)) (rtE none (mk X) σ2) (117, [(11, .int y0), (0, .ref 38), (1, .int x1), (2, .int x2), (3, .int x3), (4, .int x4), (5, .int x5), (6, .int x6), (7, .int x7), (8, .int x8), (9, .int x9), (10, .int x10)], [], mk X, σ)
    refine Ex.blk 1000 rfl ?_
    show Ex mr_X10_workAll sc (Cl MT pr sc (d + 2)) (rtE none (mk X) σ2) (123, [(11, .int y0), (0, .ref 38), (1, .int x1), (2, .int x2), (3, .int x3), (4, .int x4), (5, .int x5), (6, .int x6), (7, .int x7), (8, .int x8), (9, .int x9), (10, .int x10)], [.int x5], mk X, σ)
    refine Ex.pick (lv' := _) [1, 2, 3, 4, 5, 6, 7, 8, 9, 10, 11, 0] rfl ?_
    exact lk_X10_workAll_123 d _ _ hk12 hk84 _ _ _ _ _ _ _ _ _ _ _ _ _ h
theorem lk_X10_workAll_100 {pr : Ct} {sc : Nat × (Nat → Int32)} {X : En} (d : Nat) {σ2 : St} (k12 : Int32 → Int32 → Int32 → Int32 → St → Option (St)) (k84 : Int32 → Int32 → Int32 → Int32 → Int32 → Int32 → Int32 → Int32 → Int32 → Int32 → St → Option (St)) (hk12 : ∀ (x1 : Int32) (x2 : Int32) (x3 : Int32) (x4 : Int32) (σ : St), k12 x1 x2 x3 x4 σ = some σ2 → Ex mr_X10_workAll sc (Cl MT pr sc (d + 2)) (rtE none (mk X) σ2) (12, [(0, .ref 38), (1, .int x1), (2, .int x2), (3, .int x3), (4, .int x4)], [], mk X, σ)) (hk84 : ∀ (x1 : Int32) (x2 : Int32) (x3 : Int32) (x4 : Int32) (x5 : Int32) (x6 : Int32) (x7 : Int32) (x8 : Int32) (x9 : Int32) (x10 : Int32) (σ : St), k84 x1 x2 x3 x4 x5 x6 x7 x8 x9 x10 σ = some σ2 → Ex mr_X10_workAll sc (Cl MT pr sc (d + 2)) (rtE none (mk X) σ2) (84, [(0, .ref 38), (1, .int x1), (2, .int x2), (3, .int x3), (4, .int x4), (5, .int x5), (6, .int x6), (7, .int x7), (8, .int x8), (9, .int x9), (10, .int x10)], [], mk X, σ)) (x1 : Int32) (x2 : Int32) (x3 : Int32) (x4 : Int32) (x5 : Int32) (x6 : Int32) (x7 : Int32) (x8 : Int32) (x9 : Int32) (x10 : Int32) (y0 : Int32) (σ : St) (h : f_X10_workAll_100 k12 k84 x1 x2 x3 x4 x5 x6 x7 x8 x9 x10 y0 σ = some σ2) : Ex mr_X10_workAll sc (Cl MT pr sc (d + 2)) (rtE none (mk X) σ2) (100, [(0, .ref 38), (1, .int x1), (2, .int x2), (3, .int x3), (4, .int x4), (5, .int x5), (6, .int x6), (7, .int x7), (8, .int x8), (9, .int x9), (10, .int x10)], [.int y0], mk X, σ) := by
  unfold f_X10_workAll_100 at h
  refine Ex.blk 1000 rfl ?_
  rcases ite_sp h with ⟨c1, h⟩ | ⟨c1, h⟩
  · refine And.intro (fun hp => absurd c1 hp) (fun _ => ?_)
    show Ex mr_X10_workAll sc (Cl MT pr sc (d + 2)) (rtE none (mk X) σ2) (105, [(0, .ref 38), (1, .int x1), (2, .int x2), (3, .int x3), (4, .int x4), (5, .int x5), (6, .int x6), (7, .int x7), (8, .int x8), (9, .int x9), (10, .int x10)], [], mk X, σ)
    refine Ex.blk 1000 rfl ?_
    show Ex mr_X10_workAll sc (Cl MT pr sc (d + 2)) (rtE none (mk X) σ2) (110, [(0, .ref 38), (1, .int x1), (2, .int x2), (3, .int x3), (4, .int x4), (5, .int x5), (6, .int x6), (7, .int x7), (8, .int x8), (9, .int x9), (10, .int x10)], [.int 1], mk X, σ)
    exact lk_X10_workAll_110 d _ _ hk12 hk84 _ _ _ _ _ _ _ _ _ _ _ _ h
  · refine And.intro (fun _ => ?_) (fun hn => absurd c1 hn)
    show Ex mr_X10_workAll sc (Cl MT pr sc (d + 2)) (rtE none (mk X) σ2) (109, [(0, .ref 38), (1, .int x1), (2, .int x2), (3, .int x3), (4, .int x4), (5, .int x5), (6, .int x6), (7, .int x7), (8, .int x8), (9, .int x9), (10, .int x10)], [], mk X, σ)
    refine Ex.blk 1000 rfl ?_
    show Ex mr_X10_workAll sc (Cl MT pr sc (d + 2)) (rtE none (mk X) σ2) (110, [(0, .ref 38), (1, .int x1), (2, .int x2), (3, .int x3), (4, .int x4), (5, .int x5), (6, .int x6), (7, .int x7), (8, .int x8), (9, .int x9), (10, .int x10)], [.int 0], mk X, σ)
    exact lk_X10_workAll_110 d _ _ hk12 hk84 _ _ _ _ _ _ _ _ _ _ _ _ h
theorem lk_X10_workAll_84 {pr : Ct} {sc : Nat × (Nat → Int32)} {X : En} (d : Nat) {σ2 : St} (k12 : Int32 → Int32 → Int32 → Int32 → St → Option (St)) (hk12 : ∀ (x1 : Int32) (x2 : Int32) (x3 : Int32) (x4 : Int32) (σ : St), k12 x1 x2 x3 x4 σ = some σ2 → Ex mr_X10_workAll sc (Cl MT pr sc (d + 2)) (rtE none (mk X) σ2) (12, [(0, .ref 38), (1, .int x1), (2, .int x2), (3, .int x3), (4, .int x4)], [], mk X, σ)) : ∀ (n : Nat) (x1 : Int32) (x2 : Int32) (x3 : Int32) (x4 : Int32) (x5 : Int32) (x6 : Int32) (x7 : Int32) (x8 : Int32) (x9 : Int32) (x10 : Int32) (σ : St), f_X10_workAll_84 k12 n x1 x2 x3 x4 x5 x6 x7 x8 x9 x10 σ = some σ2 → Ex mr_X10_workAll sc (Cl MT pr sc (d + 2)) (rtE none (mk X) σ2) (84, [(0, .ref 38), (1, .int x1), (2, .int x2), (3, .int x3), (4, .int x4), (5, .int x5), (6, .int x6), (7, .int x7), (8, .int x8), (9, .int x9), (10, .int x10)], [], mk X, σ) := by
  intro n
  induction n with
  | zero =>
    intro x1 x2 x3 x4 x5 x6 x7 x8 x9 x10 σ h
    cases h
  | succ n ih =>
    intro x1 x2 x3 x4 x5 x6 x7 x8 x9 x10 σ h
    simp only [f_X10_workAll_84] at h
    refine Ex.blk 1000 rfl ?_
    rcases ite_sp h with ⟨c1, h⟩ | ⟨c1, h⟩
    · refine And.intro (fun _ => ?_) (fun hn => absurd c1 hn)
      show Ex mr_X10_workAll sc (Cl MT pr sc (d + 2)) (rtE none (mk X) σ2) (235, [(0, .ref 38), (1, .int x1), (2, .int x2), (3, .int x3), (4, .int x4), (5, .int x5), (6, .int x6), (7, .int x7), (8, .int x8), (9, .int x9), (10, .int x10)], [], mk X, σ)
      refine Ex.blk 5 rfl ?_
      obtain ⟨g2, h⟩ := gd_some h
      refine And.intro (inb_ok g2) ?_
      show Ex mr_X10_workAll sc (Cl MT pr sc (d + 2)) (rtE none (mk X) σ2) (244, [(0, .ref 38), (1, .int x1), (2, .int x2), (3, .int x3), (4, .int x4), (5, .int x5), (6, .int x6), (7, .int x7), (8, .int x8), (9, .int x9), (10, .int x10)], [], mk X, (sI σ 51 x4.toNatClampNeg x7))
      refine Ex.blk 1000 rfl ?_
      show Ex mr_X10_workAll sc (Cl MT pr sc (d + 2)) (rtE none (mk X) σ2) (12, [(4, .int (x4 + 1)), (3, .int x8), (0, .ref 38), (1, .int x1), (2, .int x2), (5, .int x5), (6, .int x6), (7, .int x7), (8, .int x8), (9, .int x9), (10, .int x10)], [], mk X, (sI σ 51 x4.toNatClampNeg x7))
      refine Ex.pick (lv' := _) [2, 3, 4, 1, 0] rfl ?_
      exact hk12 _ _ _ _ _ h
    · refine And.intro (fun hp => absurd hp c1) (fun _ => ?_)
      show Ex mr_X10_workAll sc (Cl MT pr sc (d + 2)) (rtE none (mk X) σ2) (90, [(0, .ref 38), (1, .int x1), (2, .int x2), (3, .int x3), (4, .int x4), (5, .int x5), (6, .int x6), (7, .int x7), (8, .int x8), (9, .int x9), (10, .int x10)], [], mk X, σ)
      refine Ex.blk 1000 rfl ?_
      rcases ite_sp h with ⟨c3, h⟩ | ⟨c3, h⟩
      · refine And.intro (fun hp => absurd c3 hp) (fun _ => ?_)
        show Ex mr_X10_workAll sc (Cl MT pr sc (d + 2)) (rtE none (mk X) σ2) (95, [(0, .ref 38), (1, .int x1), (2, .int x2), (3, .int x3), (4, .int x4), (5, .int x5), (6, .int x6), (7, .int x7), (8, .int x8), (9, .int x9), (10, .int x10)], [], mk X, σ)
        refine Ex.blk 1000 rfl ?_
        show Ex mr_X10_workAll sc (Cl MT pr sc (d + 2)) (rtE none (mk X) σ2) (100, [(0, .ref 38), (1, .int x1), (2, .int x2), (3, .int x3), (4, .int x4), (5, .int x5), (6, .int x6), (7, .int x7), (8, .int x8), (9, .int x9), (10, .int x10)], [.int 1], mk X, σ)
        exact lk_X10_workAll_100 d _ _ hk12 ih _ _ _ _ _ _ _ _ _ _ _ _ h
      · refine And.intro (fun _ => ?_) (fun hn => absurd c3 hn)
        show Ex mr_X10_workAll sc (Cl MT pr sc (d + 2)) (rtE none (mk X) σ2) (99, [(0, .ref 38), (1, .int x1), (2, .int x2), (3, .int x3), (4, .int x4), (5, .int x5), (6, .int x6), (7, .int x7), (8, .int x8), (9, .int x9), (10, .int x10)], [], mk X, σ)
        refine Ex.blk 1000 rfl ?_
        show Ex mr_X10_workAll sc (Cl MT pr sc (d + 2)) (rtE none (mk X) σ2) (100, [(0, .ref 38), (1, .int x1), (2, .int x2), (3, .int x3), (4, .int x4), (5, .int x5), (6, .int x6), (7, .int x7), (8, .int x8), (9, .int x9), (10, .int x10)], [.int 0], mk X, σ)
        exact lk_X10_workAll_100 d _ _ hk12 ih _ _ _ _ _ _ _ _ _ _ _ _ h
theorem lk_X10_workAll_79 {pr : Ct} {sc : Nat × (Nat → Int32)} {X : En} (d : Nat) {σ2 : St} (k12 : Int32 → Int32 → Int32 → Int32 → St → Option (St)) (hk12 : ∀ (x1 : Int32) (x2 : Int32) (x3 : Int32) (x4 : Int32) (σ : St), k12 x1 x2 x3 x4 σ = some σ2 → Ex mr_X10_workAll sc (Cl MT pr sc (d + 2)) (rtE none (mk X) σ2) (12, [(0, .ref 38), (1, .int x1), (2, .int x2), (3, .int x3), (4, .int x4)], [], mk X, σ)) (x1 : Int32) (x2 : Int32) (x3 : Int32) (x4 : Int32) (x5 : Int32) (x6 : Int32) (x7 : Int32) (x8 : Int32) (y0 : Int32) (σ : St) (h : f_X10_workAll_79 k12 x1 x2 x3 x4 x5 x6 x7 x8 y0 σ = some σ2) : Ex mr_X10_workAll sc (Cl MT pr sc (d + 2)) (rtE none (mk X) σ2) (79, [(0, .ref 38), (1, .int x1), (2, .int x2), (3, .int x3), (4, .int x4), (5, .int x5), (6, .int x6), (7, .int x7), (8, .int x8)], [.int y0], mk X, σ) := by
  unfold f_X10_workAll_79 at h
  refine Ex.blk 1000 rfl ?_
  show Ex mr_X10_workAll sc (Cl MT pr sc (d + 2)) (rtE none (mk X) σ2) (84, [(10, .int 0), (9, .int y0), (0, .ref 38), (1, .int x1), (2, .int x2), (3, .int x3), (4, .int x4), (5, .int x5), (6, .int x6), (7, .int x7), (8, .int x8)], [], mk X, σ)
  refine Ex.pick (lv' := _) [2, 3, 4, 5, 6, 7, 8, 9, 10, 1, 0] rfl ?_
  exact lk_X10_workAll_84 d _ hk12 FU _ _ _ _ _ _ _ _ _ _ _ h
theorem lk_X10_workAll_78 {pr : Ct} {sc : Nat × (Nat → Int32)} {X : En} (d : Nat) {σ2 : St} (k12 : Int32 → Int32 → Int32 → Int32 → St → Option (St)) (hk12 : ∀ (x1 : Int32) (x2 : Int32) (x3 : Int32) (x4 : Int32) (σ : St), k12 x1 x2 x3 x4 σ = some σ2 → Ex mr_X10_workAll sc (Cl MT pr sc (d + 2)) (rtE none (mk X) σ2) (12, [(0, .ref 38), (1, .int x1), (2, .int x2), (3, .int x3), (4, .int x4)], [], mk X, σ)) (x1 : Int32) (x2 : Int32) (x3 : Int32) (x4 : Int32) (x5 : Int32) (x6 : Int32) (x7 : Int32) (x8 : Int32) (σ : St) (h : f_X10_workAll_78 k12 x1 x2 x3 x4 x5 x6 x7 x8 σ = some σ2) : Ex mr_X10_workAll sc (Cl MT pr sc (d + 2)) (rtE none (mk X) σ2) (78, [(0, .ref 38), (1, .int x1), (2, .int x2), (3, .int x3), (4, .int x4), (5, .int x5), (6, .int x6), (7, .int x7), (8, .int x8)], [], mk X, σ) := by
  unfold f_X10_workAll_78 at h
  refine Ex.blk 1000 rfl ?_
  show Ex mr_X10_workAll sc (Cl MT pr sc (d + 2)) (rtE none (mk X) σ2) (79, [(0, .ref 38), (1, .int x1), (2, .int x2), (3, .int x3), (4, .int x4), (5, .int x5), (6, .int x6), (7, .int x7), (8, .int x8)], [.int 0], mk X, σ)
  exact lk_X10_workAll_79 d _ hk12 _ _ _ _ _ _ _ _ _ _ h
theorem lk_X10_workAll_74 {pr : Ct} {sc : Nat × (Nat → Int32)} {X : En} (d : Nat) {σ2 : St} (k12 : Int32 → Int32 → Int32 → Int32 → St → Option (St)) (hk12 : ∀ (x1 : Int32) (x2 : Int32) (x3 : Int32) (x4 : Int32) (σ : St), k12 x1 x2 x3 x4 σ = some σ2 → Ex mr_X10_workAll sc (Cl MT pr sc (d + 2)) (rtE none (mk X) σ2) (12, [(0, .ref 38), (1, .int x1), (2, .int x2), (3, .int x3), (4, .int x4)], [], mk X, σ)) (x1 : Int32) (x2 : Int32) (x3 : Int32) (x4 : Int32) (x5 : Int32) (x6 : Int32) (x7 : Int32) (x8 : Int32) (σ : St) (h : f_X10_workAll_74 k12 x1 x2 x3 x4 x5 x6 x7 x8 σ = some σ2) : Ex mr_X10_workAll sc (Cl MT pr sc (d + 2)) (rtE none (mk X) σ2) (74, [(0, .ref 38), (1, .int x1), (2, .int x2), (3, .int x3), (4, .int x4), (5, .int x5), (6, .int x6), (7, .int x7), (8, .int x8)], [], mk X, σ) := by
  unfold f_X10_workAll_74 at h
  refine Ex.blk 1000 rfl ?_
  show Ex mr_X10_workAll sc (Cl MT pr sc (d + 2)) (rtE none (mk X) σ2) (79, [(0, .ref 38), (1, .int x1), (2, .int x2), (3, .int x3), (4, .int x4), (5, .int x5), (6, .int x6), (7, .int x7), (8, .int x8)], [.int 1], mk X, σ)
  exact lk_X10_workAll_79 d _ hk12 _ _ _ _ _ _ _ _ _ _ h
theorem lk_X10_workAll_51 {pr : Ct} {sc : Nat × (Nat → Int32)} {X : En} (d : Nat) {σ2 : St} (k12 : Int32 → Int32 → Int32 → Int32 → St → Option (St)) (hk12 : ∀ (x1 : Int32) (x2 : Int32) (x3 : Int32) (x4 : Int32) (σ : St), k12 x1 x2 x3 x4 σ = some σ2 → Ex mr_X10_workAll sc (Cl MT pr sc (d + 2)) (rtE none (mk X) σ2) (12, [(0, .ref 38), (1, .int x1), (2, .int x2), (3, .int x3), (4, .int x4)], [], mk X, σ)) (x1 : Int32) (x2 : Int32) (x3 : Int32) (x4 : Int32) (x5 : Int32) (x6 : Int32) (σ : St) (h : f_X10_workAll_51 k12 x1 x2 x3 x4 x5 x6 σ = some σ2) : Ex mr_X10_workAll sc (Cl MT pr sc (d + 2)) (rtE none (mk X) σ2) (51, [(0, .ref 38), (1, .int x1), (2, .int x2), (3, .int x3), (4, .int x4), (5, .int x5), (6, .int x6)], [], mk X, σ) := by
  unfold f_X10_workAll_51 at h
  refine Ex.blk 5 rfl ?_
  show Ex mr_X10_workAll sc (Cl MT pr sc (d + 2)) (rtE none (mk X) σ2) (59, [(8, .int (-1)), (7, .int 0), (0, .ref 38), (1, .int x1), (2, .int x2), (3, .int x3), (4, .int x4), (5, .int x5), (6, .int x6)], [.int x5], mk X, σ)
  refine Ex.blk 1000 rfl ?_
  rcases ite_sp h with ⟨c1, h⟩ | ⟨c1, h⟩
  · refine And.intro (fun _ => ?_) (fun hn => absurd c1 hn)
    show Ex mr_X10_workAll sc (Cl MT pr sc (d + 2)) (rtE none (mk X) σ2) (78, [(8, .int (-1)), (7, .int 0), (0, .ref 38), (1, .int x1), (2, .int x2), (3, .int x3), (4, .int x4), (5, .int x5), (6, .int x6)], [], mk X, σ)
    refine Ex.pick (lv' := _) [2, 3, 4, 5, 6, 7, 8, 1, 0] rfl ?_
    exact lk_X10_workAll_78 d _ hk12 _ _ _ _ _ _ _ _ _ h
  · refine And.intro (fun hp => absurd hp c1) (fun _ => ?_)
    show Ex mr_X10_workAll sc (Cl MT pr sc (d + 2)) (rtE none (mk X) σ2) (63, [(8, .int (-1)), (7, .int 0), (0, .ref 38), (1, .int x1), (2, .int x2), (3, .int x3), (4, .int x4), (5, .int x5), (6, .int x6)], [], mk X, σ)
    refine Ex.blk 1000 rfl ?_
    rcases ite_sp h with ⟨c2, h⟩ | ⟨c2, h⟩
    · refine And.intro (fun _ => ?_) (fun hn => absurd c2 hn)
      show Ex mr_X10_workAll sc (Cl MT pr sc (d + 2)) (rtE none (mk X) σ2) (74, [(8, .int (-1)), (7, .int 0), (0, .ref 38), (1, .int x1), (2, .int x2), (3, .int x3), (4, .int x4), (5, .int x5), (6, .int x6)], [], mk X, σ)
      refine Ex.pick (lv' := _) [2, 3, 4, 5, 6, 7, 8, 1, 0] rfl ?_
      exact lk_X10_workAll_74 d _ hk12 _ _ _ _ _ _ _ _ _ h
    · refine And.intro (fun hp => absurd hp c2) (fun _ => ?_)
      show Ex mr_X10_workAll sc (Cl MT pr sc (d + 2)) (rtE none (mk X) σ2) (68, [(8, .int (-1)), (7, .int 0), (0, .ref 38), (1, .int x1), (2, .int x2), (3, .int x3), (4, .int x4), (5, .int x5), (6, .int x6)], [], mk X, σ)
      refine Ex.blk 1000 rfl ?_
      rcases ite_sp h with ⟨c3, h⟩ | ⟨c3, h⟩
      · refine And.intro (fun _ => ?_) (fun hn => absurd c3 hn)
        show Ex mr_X10_workAll sc (Cl MT pr sc (d + 2)) (rtE none (mk X) σ2) (78, [(8, .int (-1)), (7, .int 0), (0, .ref 38), (1, .int x1), (2, .int x2), (3, .int x3), (4, .int x4), (5, .int x5), (6, .int x6)], [], mk X, σ)
        refine Ex.pick (lv' := _) [2, 3, 4, 5, 6, 7, 8, 1, 0] rfl ?_
        exact lk_X10_workAll_78 d _ hk12 _ _ _ _ _ _ _ _ _ h
      · refine And.intro (fun hp => absurd hp c3) (fun _ => ?_)
        show Ex mr_X10_workAll sc (Cl MT pr sc (d + 2)) (rtE none (mk X) σ2) (74, [(8, .int (-1)), (7, .int 0), (0, .ref 38), (1, .int x1), (2, .int x2), (3, .int x3), (4, .int x4), (5, .int x5), (6, .int x6)], [], mk X, σ)
        refine Ex.pick (lv' := _) [2, 3, 4, 5, 6, 7, 8, 1, 0] rfl ?_
        exact lk_X10_workAll_74 d _ hk12 _ _ _ _ _ _ _ _ _ h
theorem lk_X10_workAll_38 {pr : Ct} {sc : Nat × (Nat → Int32)} {X : En} (d : Nat) {σ2 : St} (k12 : Int32 → Int32 → Int32 → Int32 → St → Option (St)) (hk12 : ∀ (x1 : Int32) (x2 : Int32) (x3 : Int32) (x4 : Int32) (σ : St), k12 x1 x2 x3 x4 σ = some σ2 → Ex mr_X10_workAll sc (Cl MT pr sc (d + 2)) (rtE none (mk X) σ2) (12, [(0, .ref 38), (1, .int x1), (2, .int x2), (3, .int x3), (4, .int x4)], [], mk X, σ)) (x1 : Int32) (x2 : Int32) (x3 : Int32) (x4 : Int32) (y0 : Int32) (σ : St) (h : f_X10_workAll_38 k12 x1 x2 x3 x4 y0 σ = some σ2) : Ex mr_X10_workAll sc (Cl MT pr sc (d + 2)) (rtE none (mk X) σ2) (38, [(0, .ref 38), (1, .int x1), (2, .int x2), (3, .int x3), (4, .int x4)], [.int y0], mk X, σ) := by
  unfold f_X10_workAll_38 at h
  refine Ex.blk 5 rfl ?_
  show Ex mr_X10_workAll sc (Cl MT pr sc (d + 2)) (rtE none (mk X) σ2) (47, [(5, .int y0), (0, .ref 38), (1, .int x1), (2, .int x2), (3, .int x3), (4, .int x4)], [.int x4, .int 0, .ref 46], mk X, σ)
  refine Ex.blk 2 rfl ?_
  obtain ⟨g1, h⟩ := gd_some h
  refine And.intro (inb_ok g1) ?_
  show Ex mr_X10_workAll sc (Cl MT pr sc (d + 2)) (rtE none (mk X) σ2) (49, [(5, .int y0), (0, .ref 38), (1, .int x1), (2, .int x2), (3, .int x3), (4, .int x4)], [.int (gI σ 46 (0 + x4).toNatClampNeg)], mk X, σ)
  refine Ex.blk 1 rfl ?_
  show Ex mr_X10_workAll sc (Cl MT pr sc (d + 2)) (rtE none (mk X) σ2) (51, [(6, .int (gI σ 46 (0 + x4).toNatClampNeg)), (5, .int y0), (0, .ref 38), (1, .int x1), (2, .int x2), (3, .int x3), (4, .int x4)], [], mk X, σ)
  refine Ex.pick (lv' := _) [2, 3, 4, 5, 6, 1, 0] rfl ?_
  exact lk_X10_workAll_51 d _ hk12 _ _ _ _ _ _ _ h
theorem lk_X10_workAll_12 {pr : Ct} {sc : Nat × (Nat → Int32)} {X : En} (d : Nat) {σ2 : St} : ∀ (n : Nat) (x1 : Int32) (x2 : Int32) (x3 : Int32) (x4 : Int32) (σ : St), f_X10_workAll_12 n x1 x2 x3 x4 σ = some σ2 → Ex mr_X10_workAll sc (Cl MT pr sc (d + 2)) (rtE none (mk X) σ2) (12, [(0, .ref 38), (1, .int x1), (2, .int x2), (3, .int x3), (4, .int x4)], [], mk X, σ) := by
  intro n
  induction n with
  | zero =>
    intro x1 x2 x3 x4 σ h
    cases h
  | succ n ih =>
    intro x1 x2 x3 x4 σ h
    simp only [f_X10_workAll_12] at h
    refine Ex.blk 1000 rfl ?_
    rcases ite_sp h with ⟨c1, h⟩ | ⟨c1, h⟩
    · refine And.intro (fun _ => ?_) (fun hn => absurd c1 hn)
      show Ex mr_X10_workAll sc (Cl MT pr sc (d + 2)) (rtE none (mk X) σ2) (253, [(0, .ref 38), (1, .int x1), (2, .int x2), (3, .int x3), (4, .int x4)], [], mk X, σ)
      refine Ex.blk 1000 rfl ?_
      cases h
      exact And.intro trivial ⟨rfl, rfl, rfl⟩
    · refine And.intro (fun hp => absurd hp c1) (fun _ => ?_)
      show Ex mr_X10_workAll sc (Cl MT pr sc (d + 2)) (rtE none (mk X) σ2) (21, [(0, .ref 38), (1, .int x1), (2, .int x2), (3, .int x3), (4, .int x4)], [], mk X, σ)
      refine Ex.blk 1000 rfl ?_
      rcases ite_sp h with ⟨c2, h⟩ | ⟨c2, h⟩
      · refine And.intro (fun _ => ?_) (fun hn => absurd c2 hn)
        show Ex mr_X10_workAll sc (Cl MT pr sc (d + 2)) (rtE none (mk X) σ2) (37, [(0, .ref 38), (1, .int x1), (2, .int x2), (3, .int x3), (4, .int x4)], [], mk X, σ)
        refine Ex.blk 1000 rfl ?_
        show Ex mr_X10_workAll sc (Cl MT pr sc (d + 2)) (rtE none (mk X) σ2) (38, [(0, .ref 38), (1, .int x1), (2, .int x2), (3, .int x3), (4, .int x4)], [.int (-1)], mk X, σ)
        exact lk_X10_workAll_38 d _ ih _ _ _ _ _ _ h
      · refine And.intro (fun hp => absurd hp c2) (fun _ => ?_)
        show Ex mr_X10_workAll sc (Cl MT pr sc (d + 2)) (rtE none (mk X) σ2) (27, [(0, .ref 38), (1, .int x1), (2, .int x2), (3, .int x3), (4, .int x4)], [], mk X, σ)
        refine Ex.blk 1000 rfl ?_
        show Ex mr_X10_workAll sc (Cl MT pr sc (d + 2)) (rtE none (mk X) σ2) (38, [(0, .ref 38), (1, .int x1), (2, .int x2), (3, .int x3), (4, .int x4)], [.int ((gI σ 38 14) * x4)], mk X, σ)
        exact lk_X10_workAll_38 d _ ih _ _ _ _ _ _ h
theorem cl_X10_workAll {pr : Ct} {sc : Nat × (Nat → Int32)} {X : En} (d : Nat) {σ2 : St} {x1 : Int32} {σ : St} (h : f_X10_workAll x1 σ = some σ2) : Cl MT pr sc (d + 2 + 1) 189 [.ref 38, .int x1] (mk X) σ none (mk X) σ2 := by
  refine cl_of mr_X10_workAll rfl rfl ?_
  unfold f_X10_workAll at h
  refine Ex.blk 4 rfl ?_
  obtain ⟨p1, hp1, h⟩ := bind_sp h
  refine Exists.intro (some (.int p1.1)) (Exists.intro (mk X) (Exists.intro p1.2 (And.intro (cl_X10_highest (d + 0) hp1) ?_)))
  show Ex mr_X10_workAll sc (Cl MT pr sc (d + 2)) (rtE none (mk X) σ2) (6, [(0, .ref 38), (1, .int x1)], [.int p1.1], mk X, p1.2)
  refine Ex.blk 1000 rfl ?_
  show Ex mr_X10_workAll sc (Cl MT pr sc (d + 2)) (rtE none (mk X) σ2) (12, [(4, .int 0), (3, .int (-1)), (2, .int p1.1), (0, .ref 38), (1, .int x1)], [], mk X, p1.2)
  refine Ex.pick (lv' := _) [3, 4, 2, 1, 0] rfl ?_
  exact lk_X10_workAll_12 d FU _ _ _ _ _ h
theorem lk_X10_done_25 {pr : Ct} {sc : Nat × (Nat → Int32)} {X : En} (d : Nat) {r : Int32} {σ2 : St} (σ : St) (h : f_X10_done_25 σ = some (r, σ2)) : Ex mr_X10_done sc (Cl MT pr sc (d + 3)) (rtE (some (.int r)) (mk X) σ2) (25, [], [], mk X, σ) := by
  unfold f_X10_done_25 at h
  refine Ex.blk 1000 rfl ?_
  cases h
  exact And.intro trivial ⟨rfl, rfl, rfl⟩
theorem lk_X10_done_79 {pr : Ct} {sc : Nat × (Nat → Int32)} {X : En} (d : Nat) {r : Int32} {σ2 : St} (y0 : Int32) (σ : St) (h : f_X10_done_79 y0 σ = some (r, σ2)) : Ex mr_X10_done sc (Cl MT pr sc (d + 3)) (rtE (some (.int r)) (mk X) σ2) (79, [], [.int y0], mk X, σ) := by
  unfold f_X10_done_79 at h
  refine Ex.blk 1000 rfl ?_
  cases h
  exact And.intro trivial ⟨rfl, rfl, rfl⟩
theorem lk_X10_done_58 {pr : Ct} {sc : Nat × (Nat → Int32)} {X : En} (d : Nat) {r : Int32} {σ2 : St} (k37 : Int32 → Int32 → Int32 → St → Option (Int32 × St)) (hk37 : ∀ (x2 : Int32) (x3 : Int32) (x4 : Int32) (σ : St), k37 x2 x3 x4 σ = some (r, σ2) → Ex mr_X10_done sc (Cl MT pr sc (d + 3)) (rtE (some (.int r)) (mk X) σ2) (37, [(0, .ref 38), (2, .int x2), (3, .int x3), (4, .int x4)], [], mk X, σ)) (x2 : Int32) (x3 : Int32) (x4 : Int32) (σ : St) (h : f_X10_done_58 k37 x2 x3 x4 σ = some (r, σ2)) : Ex mr_X10_done sc (Cl MT pr sc (d + 3)) (rtE (some (.int r)) (mk X) σ2) (58, [(0, .ref 38), (2, .int x2), (3, .int x3), (4, .int x4)], [], mk X, σ) := by
  unfold f_X10_done_58 at h
  refine Ex.blk 1000 rfl ?_
  show Ex mr_X10_done sc (Cl MT pr sc (d + 3)) (rtE (some (.int r)) (mk X) σ2) (37, [(4, .int (x4 + 1)), (0, .ref 38), (2, .int x2), (3, .int x3)], [], mk X, σ)
  refine Ex.pick (lv' := _) [1, 2, 3, 0] rfl ?_
  exact hk37 _ _ _ _ h
theorem lk_X10_done_37 {pr : Ct} {sc : Nat × (Nat → Int32)} {X : En} (d : Nat) {r : Int32} {σ2 : St} : ∀ (n : Nat) (x2 : Int32) (x3 : Int32) (x4 : Int32) (σ : St), f_X10_done_37 n x2 x3 x4 σ = some (r, σ2) → Ex mr_X10_done sc (Cl MT pr sc (d + 3)) (rtE (some (.int r)) (mk X) σ2) (37, [(0, .ref 38), (2, .int x2), (3, .int x3), (4, .int x4)], [], mk X, σ) := by
  intro n
  induction n with
  | zero =>
    intro x2 x3 x4 σ h
    cases h
  | succ n ih =>
    intro x2 x3 x4 σ h
    simp only [f_X10_done_37] at h
    refine Ex.blk 1000 rfl ?_
    rcases ite_sp h with ⟨c1, h⟩ | ⟨c1, h⟩
    · refine And.intro (fun _ => ?_) (fun hn => absurd c1 hn)
      show Ex mr_X10_done sc (Cl MT pr sc (d + 3)) (rtE (some (.int r)) (mk X) σ2) (64, [(0, .ref 38), (2, .int x2), (3, .int x3), (4, .int x4)], [], mk X, σ)
      refine Ex.blk 1000 rfl ?_
      rcases ite_sp h with ⟨c2, h⟩ | ⟨c2, h⟩
      · refine And.intro (fun hp => absurd c2 hp) (fun _ => ?_)
        show Ex mr_X10_done sc (Cl MT pr sc (d + 3)) (rtE (some (.int r)) (mk X) σ2) (69, [(0, .ref 38), (2, .int x2), (3, .int x3), (4, .int x4)], [], mk X, σ)
        refine Ex.blk 1000 rfl ?_
        show Ex mr_X10_done sc (Cl MT pr sc (d + 3)) (rtE (some (.int r)) (mk X) σ2) (79, [(0, .ref 38), (2, .int x2), (3, .int x3), (4, .int x4)], [.int x3], mk X, σ)
        refine Ex.pick (lv' := _) [] rfl ?_
        exact lk_X10_done_79 d _ _ h
      · refine And.intro (fun _ => ?_) (fun hn => absurd c2 hn)
        show Ex mr_X10_done sc (Cl MT pr sc (d + 3)) (rtE (some (.int r)) (mk X) σ2) (73, [(0, .ref 38), (2, .int x2), (3, .int x3), (4, .int x4)], [], mk X, σ)
        refine Ex.blk 4 rfl ?_
        obtain ⟨g3, h⟩ := gd_some h
        refine And.intro (inb_ok g3) ?_
        show Ex mr_X10_done sc (Cl MT pr sc (d + 3)) (rtE (some (.int r)) (mk X) σ2) (79, [(0, .ref 38), (2, .int x2), (3, .int x3), (4, .int x4)], [.int (gI σ 51 x2.toNatClampNeg)], mk X, σ)
        refine Ex.pick (lv' := _) [] rfl ?_
        exact lk_X10_done_79 d _ _ h
    · refine And.intro (fun hp => absurd hp c1) (fun _ => ?_)
      show Ex mr_X10_done sc (Cl MT pr sc (d + 3)) (rtE (some (.int r)) (mk X) σ2) (46, [(0, .ref 38), (2, .int x2), (3, .int x3), (4, .int x4)], [], mk X, σ)
      refine Ex.blk 5 rfl ?_
      obtain ⟨g4, h⟩ := gd_some h
      refine And.intro (inb_ok g4) ?_
      show Ex mr_X10_done sc (Cl MT pr sc (d + 3)) (rtE (some (.int r)) (mk X) σ2) (54, [(0, .ref 38), (2, .int x2), (3, .int x3), (4, .int x4)], [.int (gI σ 51 x4.toNatClampNeg), .int x3], mk X, σ)
      refine Ex.blk 2 rfl ?_
      show Ex mr_X10_done sc (Cl MT pr sc (d + 3)) (rtE (some (.int r)) (mk X) σ2) (58, [(3, .int (mxI x3 (gI σ 51 x4.toNatClampNeg))), (0, .ref 38), (2, .int x2), (4, .int x4)], [], mk X, σ)
      refine Ex.pick (lv' := _) [1, 2, 0, 3] rfl ?_
      exact lk_X10_done_58 d _ ih _ _ _ _ h
theorem lk_X10_done_27 {pr : Ct} {sc : Nat × (Nat → Int32)} {X : En} (d : Nat) {r : Int32} {σ2 : St} (x1 : Int32) (x2 : Int32) (σ : St) (h : f_X10_done_27 x1 x2 σ = some (r, σ2)) : Ex mr_X10_done sc (Cl MT pr sc (d + 3)) (rtE (some (.int r)) (mk X) σ2) (27, [(0, .ref 38), (1, .int x1), (2, .int x2)], [], mk X, σ) := by
  unfold f_X10_done_27 at h
  refine Ex.blk 3 rfl ?_
  obtain ⟨p2, hp2, h⟩ := bind_sp h
  refine Exists.intro none (Exists.intro (mk X) (Exists.intro p2 (And.intro (cl_X10_workAll (d + 0) hp2) ?_)))
  show Ex mr_X10_done sc (Cl MT pr sc (d + 3)) (rtE (some (.int r)) (mk X) σ2) (32, [(0, .ref 38), (1, .int x1), (2, .int x2)], [], mk X, p2)
  refine Ex.blk 1000 rfl ?_
  show Ex mr_X10_done sc (Cl MT pr sc (d + 3)) (rtE (some (.int r)) (mk X) σ2) (37, [(4, .int 0), (3, .int 0), (0, .ref 38), (1, .int x1), (2, .int x2)], [], mk X, p2)
  refine Ex.pick (lv' := _) [2, 4, 1, 0] rfl ?_
  exact lk_X10_done_37 d FU _ _ _ _ h
theorem cl_X10_done {pr : Ct} {sc : Nat × (Nat → Int32)} {X : En} (d : Nat) {r : Int32} {σ2 : St} {x1 : Int32} {x2 : Int32} {σ : St} (h : f_X10_done x1 x2 σ = some (r, σ2)) : Cl MT pr sc (d + 3 + 1) 190 [.ref 38, .int x1, .int x2] (mk X) σ (some (.int r)) (mk X) σ2 := by
  refine cl_of mr_X10_done rfl rfl ?_
  unfold f_X10_done at h
  refine Ex.blk 5 rfl ?_
  obtain ⟨p1, hp1, h⟩ := bind_sp h
  refine Exists.intro (some (.int p1.1)) (Exists.intro (mk X) (Exists.intro p1.2 (And.intro (cl_X10_in (d + 2) hp1) ?_)))
  show Ex mr_X10_done sc (Cl MT pr sc (d + 3)) (rtE (some (.int r)) (mk X) σ2) (9, [(0, .ref 38), (1, .int x1), (2, .int x2)], [.int p1.1], mk X, p1.2)
  refine Ex.blk 1000 rfl ?_
  rcases ite_sp h with ⟨c1, h⟩ | ⟨c1, h⟩
  · refine And.intro (fun _ => ?_) (fun hn => absurd c1 hn)
    show Ex mr_X10_done sc (Cl MT pr sc (d + 3)) (rtE (some (.int r)) (mk X) σ2) (25, [(0, .ref 38), (1, .int x1), (2, .int x2)], [], mk X, p1.2)
    refine Ex.pick (lv' := _) [] rfl ?_
    exact lk_X10_done_25 d _ h
  · refine And.intro (fun hp => absurd hp c1) (fun _ => ?_)
    show Ex mr_X10_done sc (Cl MT pr sc (d + 3)) (rtE (some (.int r)) (mk X) σ2) (12, [(0, .ref 38), (1, .int x1), (2, .int x2)], [], mk X, p1.2)
    refine Ex.blk 1000 rfl ?_
    rcases ite_sp h with ⟨c2, h⟩ | ⟨c2, h⟩
    · refine And.intro (fun _ => ?_) (fun hn => absurd c2 hn)
      show Ex mr_X10_done sc (Cl MT pr sc (d + 3)) (rtE (some (.int r)) (mk X) σ2) (27, [(0, .ref 38), (1, .int x1), (2, .int x2)], [], mk X, p1.2)
      exact lk_X10_done_27 d _ _ _ h
    · refine And.intro (fun hp => absurd hp c2) (fun _ => ?_)
      show Ex mr_X10_done sc (Cl MT pr sc (d + 3)) (rtE (some (.int r)) (mk X) σ2) (17, [(0, .ref 38), (1, .int x1), (2, .int x2)], [], mk X, p1.2)
      refine Ex.blk 3 rfl ?_
      obtain ⟨p3, hp3, h⟩ := bind_sp h
      refine Exists.intro (some (.int p3.1)) (Exists.intro (mk X) (Exists.intro p3.2 (And.intro (cl_X10_isRope (d + 1) hp3) ?_)))
      show Ex mr_X10_done sc (Cl MT pr sc (d + 3)) (rtE (some (.int r)) (mk X) σ2) (22, [(0, .ref 38), (1, .int x1), (2, .int x2)], [.int p3.1], mk X, p3.2)
      refine Ex.blk 1000 rfl ?_
      rcases ite_sp h with ⟨c3, h⟩ | ⟨c3, h⟩
      · refine And.intro (fun hp => absurd c3 hp) (fun _ => ?_)
        show Ex mr_X10_done sc (Cl MT pr sc (d + 3)) (rtE (some (.int r)) (mk X) σ2) (25, [(0, .ref 38), (1, .int x1), (2, .int x2)], [], mk X, p3.2)
        refine Ex.pick (lv' := _) [] rfl ?_
        exact lk_X10_done_25 d _ h
      · refine And.intro (fun _ => ?_) (fun hn => absurd c3 hn)
        show Ex mr_X10_done sc (Cl MT pr sc (d + 3)) (rtE (some (.int r)) (mk X) σ2) (27, [(0, .ref 38), (1, .int x1), (2, .int x2)], [], mk X, p3.2)
        exact lk_X10_done_27 d _ _ _ h
theorem lk_X10_two_36 {pr : Ct} {sc : Nat × (Nat → Int32)} {X : En} (d : Nat) {r : Int32} {σ2 : St} (y0 : Int32) (σ : St) (h : f_X10_two_36 y0 σ = some (r, σ2)) : Ex mr_X10_two sc (Cl MT pr sc (d + 2)) (rtE (some (.int r)) (mk X) σ2) (36, [], [.int y0, .ref 38], mk X, σ) := by
  unfold f_X10_two_36 at h
  refine Ex.blk 1000 rfl ?_
  cases h
  exact And.intro isb_1 ⟨rfl, rfl, rfl⟩
theorem cl_X10_two {pr : Ct} {sc : Nat × (Nat → Int32)} {X : En} (d : Nat) {r : Int32} {σ2 : St} {x1 : Int32} {x2 : Int32} {σ : St} (h : f_X10_two x1 x2 σ = some (r, σ2)) : Cl MT pr sc (d + 2 + 1) 191 [.ref 38, .int x1, .int x2] (mk X) σ (some (.int r)) (mk X) σ2 := by
  refine cl_of mr_X10_two rfl rfl ?_
  unfold f_X10_two at h
  refine Ex.blk 3 rfl ?_
  obtain ⟨p1, hp1, h⟩ := bind_sp h
  refine Exists.intro (some (.int p1.1)) (Exists.intro (mk X) (Exists.intro p1.2 (And.intro (cl_X10_isRope (d + 0) hp1) ?_)))
  show Ex mr_X10_two sc (Cl MT pr sc (d + 2)) (rtE (some (.int r)) (mk X) σ2) (5, [(0, .ref 38), (1, .int x1), (2, .int x2)], [.int p1.1], mk X, p1.2)
  refine Ex.blk 1000 rfl ?_
  rcases ite_sp h with ⟨c1, h⟩ | ⟨c1, h⟩
  · refine And.intro (fun hp => absurd c1 hp) (fun _ => ?_)
    show Ex mr_X10_two sc (Cl MT pr sc (d + 2)) (rtE (some (.int r)) (mk X) σ2) (8, [(0, .ref 38), (1, .int x1), (2, .int x2)], [], mk X, p1.2)
    refine Ex.blk 1000 rfl ?_
    cases h
    exact And.intro isb_0 ⟨rfl, rfl, rfl⟩
  · refine And.intro (fun _ => ?_) (fun hn => absurd c1 hn)
    show Ex mr_X10_two sc (Cl MT pr sc (d + 2)) (rtE (some (.int r)) (mk X) σ2) (10, [(0, .ref 38), (1, .int x1), (2, .int x2)], [], mk X, p1.2)
    refine Ex.blk 1000 rfl ?_
    rcases ite_sp h with ⟨c2, h⟩ | ⟨c2, h⟩
    · refine And.intro (fun _ => ?_) (fun hn => absurd c2 hn)
      show Ex mr_X10_two sc (Cl MT pr sc (d + 2)) (rtE (some (.int r)) (mk X) σ2) (26, [(0, .ref 38), (1, .int x1), (2, .int x2)], [.ref 38], mk X, p1.2)
      refine Ex.blk 5 rfl ?_
      show Ex mr_X10_two sc (Cl MT pr sc (d + 2)) (rtE (some (.int r)) (mk X) σ2) (33, [(0, .ref 38), (1, .int x1), (2, .int x2)], [.int (shlI 1 x1), .int (gI p1.2 38 19), .ref 38], mk X, p1.2)
      refine Ex.blk 1000 rfl ?_
      show Ex mr_X10_two sc (Cl MT pr sc (d + 2)) (rtE (some (.int r)) (mk X) σ2) (36, [(0, .ref 38), (1, .int x1), (2, .int x2)], [.int ((gI p1.2 38 19) &&& ((shlI 1 x1) ^^^ (-1))), .ref 38], mk X, p1.2)
      refine Ex.pick (lv' := _) [] rfl ?_
      exact lk_X10_two_36 d _ _ h
    · refine And.intro (fun hp => absurd hp c2) (fun _ => ?_)
      show Ex mr_X10_two sc (Cl MT pr sc (d + 2)) (rtE (some (.int r)) (mk X) σ2) (15, [(0, .ref 38), (1, .int x1), (2, .int x2)], [.ref 38], mk X, p1.2)
      refine Ex.blk 5 rfl ?_
      show Ex mr_X10_two sc (Cl MT pr sc (d + 2)) (rtE (some (.int r)) (mk X) σ2) (22, [(0, .ref 38), (1, .int x1), (2, .int x2)], [.int (shlI 1 x1), .int (gI p1.2 38 19), .ref 38], mk X, p1.2)
      refine Ex.blk 1000 rfl ?_
      show Ex mr_X10_two sc (Cl MT pr sc (d + 2)) (rtE (some (.int r)) (mk X) σ2) (36, [(0, .ref 38), (1, .int x1), (2, .int x2)], [.int ((gI p1.2 38 19) ||| (shlI 1 x1)), .ref 38], mk X, p1.2)
      refine Ex.pick (lv' := _) [] rfl ?_
      exact lk_X10_two_36 d _ _ h
theorem lk_X10_fog_29 {pr : Ct} {sc : Nat × (Nat → Int32)} {X : En} (d : Nat) {r : Int32} {σ2 : St} (σ : St) (h : f_X10_fog_29 σ = some (r, σ2)) : Ex mr_X10_fog sc (Cl MT pr sc (d + 2)) (rtE (some (.int r)) (mk X) σ2) (29, [], [], mk X, σ) := by
  unfold f_X10_fog_29 at h
  refine Ex.blk 1000 rfl ?_
  cases h
  exact And.intro isb_0 ⟨rfl, rfl, rfl⟩
theorem lk_X10_fog_57 {pr : Ct} {sc : Nat × (Nat → Int32)} {X : En} (d : Nat) {r : Int32} {σ2 : St} (y0 : Int32) (σ : St) (h : f_X10_fog_57 y0 σ = some (r, σ2)) : Ex mr_X10_fog sc (Cl MT pr sc (d + 2)) (rtE (some (.int r)) (mk X) σ2) (57, [], [.int y0, .ref 38], mk X, σ) := by
  unfold f_X10_fog_57 at h
  refine Ex.blk 1000 rfl ?_
  cases h
  exact And.intro isb_1 ⟨rfl, rfl, rfl⟩
theorem lk_X10_fog_31 {pr : Ct} {sc : Nat × (Nat → Int32)} {X : En} (d : Nat) {r : Int32} {σ2 : St} (x1 : Int32) (x2 : Int32) (σ : St) (h : f_X10_fog_31 x1 x2 σ = some (r, σ2)) : Ex mr_X10_fog sc (Cl MT pr sc (d + 2)) (rtE (some (.int r)) (mk X) σ2) (31, [(0, .ref 38), (1, .int x1), (2, .int x2)], [], mk X, σ) := by
  unfold f_X10_fog_31 at h
  refine Ex.blk 1000 rfl ?_
  rcases ite_sp h with ⟨c1, h⟩ | ⟨c1, h⟩
  · refine And.intro (fun _ => ?_) (fun hn => absurd c1 hn)
    show Ex mr_X10_fog sc (Cl MT pr sc (d + 2)) (rtE (some (.int r)) (mk X) σ2) (47, [(0, .ref 38), (1, .int x1), (2, .int x2)], [.ref 38], mk X, σ)
    refine Ex.blk 5 rfl ?_
    show Ex mr_X10_fog sc (Cl MT pr sc (d + 2)) (rtE (some (.int r)) (mk X) σ2) (54, [(0, .ref 38), (1, .int x1), (2, .int x2)], [.int (shlI 1 x1), .int (gI σ 38 20), .ref 38], mk X, σ)
    refine Ex.blk 1000 rfl ?_
    show Ex mr_X10_fog sc (Cl MT pr sc (d + 2)) (rtE (some (.int r)) (mk X) σ2) (57, [(0, .ref 38), (1, .int x1), (2, .int x2)], [.int ((gI σ 38 20) &&& ((shlI 1 x1) ^^^ (-1))), .ref 38], mk X, σ)
    refine Ex.pick (lv' := _) [] rfl ?_
    exact lk_X10_fog_57 d _ _ h
  · refine And.intro (fun hp => absurd hp c1) (fun _ => ?_)
    show Ex mr_X10_fog sc (Cl MT pr sc (d + 2)) (rtE (some (.int r)) (mk X) σ2) (36, [(0, .ref 38), (1, .int x1), (2, .int x2)], [.ref 38], mk X, σ)
    refine Ex.blk 5 rfl ?_
    show Ex mr_X10_fog sc (Cl MT pr sc (d + 2)) (rtE (some (.int r)) (mk X) σ2) (43, [(0, .ref 38), (1, .int x1), (2, .int x2)], [.int (shlI 1 x1), .int (gI σ 38 20), .ref 38], mk X, σ)
    refine Ex.blk 1000 rfl ?_
    show Ex mr_X10_fog sc (Cl MT pr sc (d + 2)) (rtE (some (.int r)) (mk X) σ2) (57, [(0, .ref 38), (1, .int x1), (2, .int x2)], [.int ((gI σ 38 20) ||| (shlI 1 x1)), .ref 38], mk X, σ)
    refine Ex.pick (lv' := _) [] rfl ?_
    exact lk_X10_fog_57 d _ _ h
theorem cl_X10_fog {pr : Ct} {sc : Nat × (Nat → Int32)} {X : En} (d : Nat) {r : Int32} {σ2 : St} {x1 : Int32} {x2 : Int32} {σ : St} (h : f_X10_fog x1 x2 σ = some (r, σ2)) : Cl MT pr sc (d + 2 + 1) 192 [.ref 38, .int x1, .int x2] (mk X) σ (some (.int r)) (mk X) σ2 := by
  refine cl_of mr_X10_fog rfl rfl ?_
  unfold f_X10_fog at h
  refine Ex.blk 3 rfl ?_
  obtain ⟨p1, hp1, h⟩ := bind_sp h
  refine Exists.intro (some (.int p1.1)) (Exists.intro (mk X) (Exists.intro p1.2 (And.intro (cl_X10_isRope (d + 0) hp1) ?_)))
  show Ex mr_X10_fog sc (Cl MT pr sc (d + 2)) (rtE (some (.int r)) (mk X) σ2) (5, [(0, .ref 38), (1, .int x1), (2, .int x2)], [.int p1.1], mk X, p1.2)
  refine Ex.blk 1000 rfl ?_
  rcases ite_sp h with ⟨c1, h⟩ | ⟨c1, h⟩
  · refine And.intro (fun _ => ?_) (fun hn => absurd c1 hn)
    show Ex mr_X10_fog sc (Cl MT pr sc (d + 2)) (rtE (some (.int r)) (mk X) σ2) (29, [(0, .ref 38), (1, .int x1), (2, .int x2)], [], mk X, p1.2)
    refine Ex.pick (lv' := _) [] rfl ?_
    exact lk_X10_fog_29 d _ h
  · refine And.intro (fun hp => absurd hp c1) (fun _ => ?_)
    show Ex mr_X10_fog sc (Cl MT pr sc (d + 2)) (rtE (some (.int r)) (mk X) σ2) (8, [(0, .ref 38), (1, .int x1), (2, .int x2)], [], mk X, p1.2)
    refine Ex.blk 1000 rfl ?_
    rcases ite_sp h with ⟨c2, h⟩ | ⟨c2, h⟩
    · refine And.intro (fun _ => ?_) (fun hn => absurd c2 hn)
      show Ex mr_X10_fog sc (Cl MT pr sc (d + 2)) (rtE (some (.int r)) (mk X) σ2) (31, [(0, .ref 38), (1, .int x1), (2, .int x2)], [], mk X, p1.2)
      exact lk_X10_fog_31 d _ _ _ h
    · refine And.intro (fun hp => absurd hp c2) (fun _ => ?_)
      show Ex mr_X10_fog sc (Cl MT pr sc (d + 2)) (rtE (some (.int r)) (mk X) σ2) (12, [(0, .ref 38), (1, .int x1), (2, .int x2)], [], mk X, p1.2)
      refine Ex.blk 5 rfl ?_
      show Ex mr_X10_fog sc (Cl MT pr sc (d + 2)) (rtE (some (.int r)) (mk X) σ2) (19, [(0, .ref 38), (1, .int x1), (2, .int x2)], [.int (shlI 1 x1), .int (gI p1.2 38 20)], mk X, p1.2)
      refine Ex.blk 4 rfl ?_
      obtain ⟨p2, hp2, h⟩ := bind_sp h
      refine Exists.intro (some (.int p2.1)) (Exists.intro (mk X) (Exists.intro p2.2 (And.intro (cl_J6_bitCount_0f7a4 (d + 1) hp2) ?_)))
      show Ex mr_X10_fog sc (Cl MT pr sc (d + 2)) (rtE (some (.int r)) (mk X) σ2) (25, [(0, .ref 38), (1, .int x1), (2, .int x2)], [.int p2.1], mk X, p2.2)
      refine Ex.blk 1000 rfl ?_
      rcases ite_sp h with ⟨c3, h⟩ | ⟨c3, h⟩
      · refine And.intro (fun hp => absurd c3 hp) (fun _ => ?_)
        show Ex mr_X10_fog sc (Cl MT pr sc (d + 2)) (rtE (some (.int r)) (mk X) σ2) (29, [(0, .ref 38), (1, .int x1), (2, .int x2)], [], mk X, p2.2)
        refine Ex.pick (lv' := _) [] rfl ?_
        exact lk_X10_fog_29 d _ h
      · refine And.intro (fun _ => ?_) (fun hn => absurd c3 hn)
        show Ex mr_X10_fog sc (Cl MT pr sc (d + 2)) (rtE (some (.int r)) (mk X) σ2) (31, [(0, .ref 38), (1, .int x1), (2, .int x2)], [], mk X, p2.2)
        exact lk_X10_fog_31 d _ _ _ h
theorem lk_X10_ten_15 {pr : Ct} {sc : Nat × (Nat → Int32)} {X : En} (d : Nat) {r : Int64} {σ2 : St} (k4 : Int32 → Int64 → Int32 → St → Option (Int64 × St)) (hk4 : ∀ (x0 : Int32) (x1 : Int64) (x3 : Int32) (σ : St), k4 x0 x1 x3 σ = some (r, σ2) → Ex mr_X10_ten sc (Cl MT pr sc (d + 0)) (rtE (some (.long r)) (mk X) σ2) (4, [(0, .int x0), (1, .long x1), (3, .int x3)], [], mk X, σ)) (x0 : Int32) (x1 : Int64) (x3 : Int32) (σ : St) (h : f_X10_ten_15 k4 x0 x1 x3 σ = some (r, σ2)) : Ex mr_X10_ten sc (Cl MT pr sc (d + 0)) (rtE (some (.long r)) (mk X) σ2) (15, [(0, .int x0), (1, .long x1), (3, .int x3)], [], mk X, σ) := by
  unfold f_X10_ten_15 at h
  refine Ex.blk 1000 rfl ?_
  show Ex mr_X10_ten sc (Cl MT pr sc (d + 0)) (rtE (some (.long r)) (mk X) σ2) (4, [(3, .int (x3 + 1)), (0, .int x0), (1, .long x1)], [], mk X, σ)
  refine Ex.pick (lv' := _) [1, 2, 0] rfl ?_
  exact hk4 _ _ _ _ h
theorem lk_X10_ten_4 {pr : Ct} {sc : Nat × (Nat → Int32)} {X : En} (d : Nat) {r : Int64} {σ2 : St} : ∀ (n : Nat) (x0 : Int32) (x1 : Int64) (x3 : Int32) (σ : St), f_X10_ten_4 n x0 x1 x3 σ = some (r, σ2) → Ex mr_X10_ten sc (Cl MT pr sc (d + 0)) (rtE (some (.long r)) (mk X) σ2) (4, [(0, .int x0), (1, .long x1), (3, .int x3)], [], mk X, σ) := by
  intro n
  induction n with
  | zero =>
    intro x0 x1 x3 σ h
    cases h
  | succ n ih =>
    intro x0 x1 x3 σ h
    simp only [f_X10_ten_4] at h
    refine Ex.blk 1000 rfl ?_
    rcases ite_sp h with ⟨c1, h⟩ | ⟨c1, h⟩
    · refine And.intro (fun _ => ?_) (fun hn => absurd c1 hn)
      show Ex mr_X10_ten sc (Cl MT pr sc (d + 0)) (rtE (some (.long r)) (mk X) σ2) (21, [(0, .int x0), (1, .long x1), (3, .int x3)], [], mk X, σ)
      refine Ex.blk 1000 rfl ?_
      cases h
      exact And.intro trivial ⟨rfl, rfl, rfl⟩
    · refine And.intro (fun hp => absurd hp c1) (fun _ => ?_)
      show Ex mr_X10_ten sc (Cl MT pr sc (d + 0)) (rtE (some (.long r)) (mk X) σ2) (9, [(0, .int x0), (1, .long x1), (3, .int x3)], [], mk X, σ)
      refine Ex.blk 4 rfl ?_
      show Ex mr_X10_ten sc (Cl MT pr sc (d + 0)) (rtE (some (.long r)) (mk X) σ2) (15, [(1, .long (x1 * 10)), (0, .int x0), (3, .int x3)], [], mk X, σ)
      refine Ex.pick (lv' := _) [1, 0, 2] rfl ?_
      exact lk_X10_ten_15 d _ ih _ _ _ _ h
theorem cl_X10_ten {pr : Ct} {sc : Nat × (Nat → Int32)} {X : En} (d : Nat) {r : Int64} {σ2 : St} {x0 : Int32} {σ : St} (h : f_X10_ten x0 σ = some (r, σ2)) : Cl MT pr sc (d + 0 + 1) 193 [.int x0] (mk X) σ (some (.long r)) (mk X) σ2 := by
  refine cl_of mr_X10_ten rfl rfl ?_
  unfold f_X10_ten at h
  refine Ex.blk 1000 rfl ?_
  show Ex mr_X10_ten sc (Cl MT pr sc (d + 0)) (rtE (some (.long r)) (mk X) σ2) (4, [(3, .int 0), (1, .long 1), (0, .int x0)], [], mk X, σ)
  refine Ex.pick (lv' := _) [2, 1, 0] rfl ?_
  exact lk_X10_ten_4 d FU _ _ _ _ h
theorem lk_X10_seenNumber_41 {pr : Ct} {sc : Nat × (Nat → Int32)} {X : En} (d : Nat) {r : Int64} {σ2 : St} (k4 : Int64 → Int32 → St → Option (Int64 × St)) (hk4 : ∀ (x1 : Int64) (x3 : Int32) (σ : St), k4 x1 x3 σ = some (r, σ2) → Ex mr_X10_seenNumber sc (Cl MT pr sc (d + 2)) (rtE (some (.long r)) (mk X) σ2) (4, [(0, .ref 38), (1, .long x1), (3, .int x3)], [], mk X, σ)) (x1 : Int64) (x3 : Int32) (σ : St) (h : f_X10_seenNumber_41 k4 x1 x3 σ = some (r, σ2)) : Ex mr_X10_seenNumber sc (Cl MT pr sc (d + 2)) (rtE (some (.long r)) (mk X) σ2) (41, [(0, .ref 38), (1, .long x1), (3, .int x3)], [], mk X, σ) := by
  unfold f_X10_seenNumber_41 at h
  refine Ex.blk 1000 rfl ?_
  show Ex mr_X10_seenNumber sc (Cl MT pr sc (d + 2)) (rtE (some (.long r)) (mk X) σ2) (4, [(3, .int (x3 + 1)), (0, .ref 38), (1, .long x1)], [], mk X, σ)
  refine Ex.pick (lv' := _) [1, 2, 0] rfl ?_
  exact hk4 _ _ _ h
theorem lk_X10_seenNumber_39 {pr : Ct} {sc : Nat × (Nat → Int32)} {X : En} (d : Nat) {r : Int64} {σ2 : St} (k4 : Int64 → Int32 → St → Option (Int64 × St)) (hk4 : ∀ (x1 : Int64) (x3 : Int32) (σ : St), k4 x1 x3 σ = some (r, σ2) → Ex mr_X10_seenNumber sc (Cl MT pr sc (d + 2)) (rtE (some (.long r)) (mk X) σ2) (4, [(0, .ref 38), (1, .long x1), (3, .int x3)], [], mk X, σ)) (x3 : Int32) (y0 : Int64) (y1 : Int64) (σ : St) (h : f_X10_seenNumber_39 k4 x3 y0 y1 σ = some (r, σ2)) : Ex mr_X10_seenNumber sc (Cl MT pr sc (d + 2)) (rtE (some (.long r)) (mk X) σ2) (39, [(0, .ref 38), (3, .int x3)], [.long y0, .long y1], mk X, σ) := by
  unfold f_X10_seenNumber_39 at h
  refine Ex.blk 2 rfl ?_
  show Ex mr_X10_seenNumber sc (Cl MT pr sc (d + 2)) (rtE (some (.long r)) (mk X) σ2) (41, [(1, .long (y1 + y0)), (0, .ref 38), (3, .int x3)], [], mk X, σ)
  refine Ex.pick (lv' := _) [1, 0, 2] rfl ?_
  exact lk_X10_seenNumber_41 d _ hk4 _ _ _ h
theorem lk_X10_seenNumber_4 {pr : Ct} {sc : Nat × (Nat → Int32)} {X : En} (d : Nat) {r : Int64} {σ2 : St} : ∀ (n : Nat) (x1 : Int64) (x3 : Int32) (σ : St), f_X10_seenNumber_4 n x1 x3 σ = some (r, σ2) → Ex mr_X10_seenNumber sc (Cl MT pr sc (d + 2)) (rtE (some (.long r)) (mk X) σ2) (4, [(0, .ref 38), (1, .long x1), (3, .int x3)], [], mk X, σ) := by
  intro n
  induction n with
  | zero =>
    intro x1 x3 σ h
    cases h
  | succ n ih =>
    intro x1 x3 σ h
    simp only [f_X10_seenNumber_4] at h
    refine Ex.blk 1000 rfl ?_
    rcases ite_sp h with ⟨c1, h⟩ | ⟨c1, h⟩
    · refine And.intro (fun _ => ?_) (fun hn => absurd c1 hn)
      show Ex mr_X10_seenNumber sc (Cl MT pr sc (d + 2)) (rtE (some (.long r)) (mk X) σ2) (47, [(0, .ref 38), (1, .long x1), (3, .int x3)], [], mk X, σ)
      refine Ex.blk 1000 rfl ?_
      cases h
      exact And.intro trivial ⟨rfl, rfl, rfl⟩
    · refine And.intro (fun hp => absurd hp c1) (fun _ => ?_)
      show Ex mr_X10_seenNumber sc (Cl MT pr sc (d + 2)) (rtE (some (.long r)) (mk X) σ2) (12, [(0, .ref 38), (1, .long x1), (3, .int x3)], [], mk X, σ)
      refine Ex.blk 5 rfl ?_
      obtain ⟨p1, hp1, h⟩ := bind_sp h
      refine Exists.intro (some (.int p1.1)) (Exists.intro (mk X) (Exists.intro p1.2 (And.intro (cl_X10_has (d + 1) hp1) ?_)))
      show Ex mr_X10_seenNumber sc (Cl MT pr sc (d + 2)) (rtE (some (.long r)) (mk X) σ2) (21, [(0, .ref 38), (1, .long x1), (3, .int x3)], [.int p1.1, .long x1], mk X, p1.2)
      refine Ex.blk 1000 rfl ?_
      rcases ite_sp h with ⟨c2, h⟩ | ⟨c2, h⟩
      · refine And.intro (fun _ => ?_) (fun hn => absurd c2 hn)
        show Ex mr_X10_seenNumber sc (Cl MT pr sc (d + 2)) (rtE (some (.long r)) (mk X) σ2) (28, [(0, .ref 38), (1, .long x1), (3, .int x3)], [.long x1], mk X, p1.2)
        refine Ex.blk 3 rfl ?_
        obtain ⟨p2, hp2, h⟩ := bind_sp h
        refine Exists.intro (some (.int p2.1)) (Exists.intro (mk X) (Exists.intro p2.2 (And.intro (cl_X10_seen (d + 0) hp2) ?_)))
        show Ex mr_X10_seenNumber sc (Cl MT pr sc (d + 2)) (rtE (some (.long r)) (mk X) σ2) (33, [(0, .ref 38), (1, .long x1), (3, .int x3)], [.int p2.1, .long x1], mk X, p2.2)
        refine Ex.blk 3 rfl ?_
        obtain ⟨p3, hp3, h⟩ := bind_sp h
        refine Exists.intro (some (.long p3.1)) (Exists.intro (mk X) (Exists.intro p3.2 (And.intro (cl_X10_ten (d + 1) hp3) ?_)))
        show Ex mr_X10_seenNumber sc (Cl MT pr sc (d + 2)) (rtE (some (.long r)) (mk X) σ2) (38, [(0, .ref 38), (1, .long x1), (3, .int x3)], [.long p3.1, .long p2.1.toInt64, .long x1], mk X, p3.2)
        refine Ex.blk 1000 rfl ?_
        show Ex mr_X10_seenNumber sc (Cl MT pr sc (d + 2)) (rtE (some (.long r)) (mk X) σ2) (39, [(0, .ref 38), (1, .long x1), (3, .int x3)], [.long (p2.1.toInt64 * p3.1), .long x1], mk X, p3.2)
        refine Ex.pick (lv' := _) [0, 2] rfl ?_
        exact lk_X10_seenNumber_39 d _ ih _ _ _ _ h
      · refine And.intro (fun hp => absurd hp c2) (fun _ => ?_)
        show Ex mr_X10_seenNumber sc (Cl MT pr sc (d + 2)) (rtE (some (.long r)) (mk X) σ2) (24, [(0, .ref 38), (1, .long x1), (3, .int x3)], [.long x1], mk X, p1.2)
        refine Ex.blk 1000 rfl ?_
        show Ex mr_X10_seenNumber sc (Cl MT pr sc (d + 2)) (rtE (some (.long r)) (mk X) σ2) (39, [(0, .ref 38), (1, .long x1), (3, .int x3)], [.long 0, .long x1], mk X, p1.2)
        refine Ex.pick (lv' := _) [0, 2] rfl ?_
        exact lk_X10_seenNumber_39 d _ ih _ _ _ _ h
theorem cl_X10_seenNumber {pr : Ct} {sc : Nat × (Nat → Int32)} {X : En} (d : Nat) {r : Int64} {σ2 : St} {σ : St} (h : f_X10_seenNumber σ = some (r, σ2)) : Cl MT pr sc (d + 2 + 1) 194 [.ref 38] (mk X) σ (some (.long r)) (mk X) σ2 := by
  refine cl_of mr_X10_seenNumber rfl rfl ?_
  unfold f_X10_seenNumber at h
  refine Ex.blk 1000 rfl ?_
  show Ex mr_X10_seenNumber sc (Cl MT pr sc (d + 2)) (rtE (some (.long r)) (mk X) σ2) (4, [(3, .int 0), (1, .long 0), (0, .ref 38)], [], mk X, σ)
  refine Ex.pick (lv' := _) [2, 1, 0] rfl ?_
  exact lk_X10_seenNumber_4 d FU _ _ _ h
theorem lk_X10_bell_38 {pr : Ct} {sc : Nat × (Nat → Int32)} {X : En} (d : Nat) {r : Int32} {σ2 : St} (y0 : Int32) (σ : St) (h : f_X10_bell_38 y0 σ = some (r, σ2)) : Ex mr_X10_bell sc (Cl MT pr sc (d + 3)) (rtE (some (.int r)) (mk X) σ2) (38, [], [.int y0], mk X, σ) := by
  unfold f_X10_bell_38 at h
  refine Ex.blk 1000 rfl ?_
  cases h
  exact And.intro trivial ⟨rfl, rfl, rfl⟩
theorem cl_X10_bell {pr : Ct} {sc : Nat × (Nat → Int32)} {X : En} (d : Nat) {r : Int32} {σ2 : St} {x1 : Int32} {σ : St} (h : f_X10_bell x1 σ = some (r, σ2)) : Cl MT pr sc (d + 3 + 1) 195 [.ref 38, .int x1] (mk X) σ (some (.int r)) (mk X) σ2 := by
  refine cl_of mr_X10_bell rfl rfl ?_
  unfold f_X10_bell at h
  refine Ex.blk 5 rfl ?_
  obtain ⟨p1, hp1, h⟩ := bind_sp h
  refine Exists.intro (some (.int p1.1)) (Exists.intro (mk X) (Exists.intro p1.2 (And.intro (cl_X10_in (d + 2) hp1) ?_)))
  show Ex mr_X10_bell sc (Cl MT pr sc (d + 3)) (rtE (some (.int r)) (mk X) σ2) (11, [(0, .ref 38), (1, .int x1)], [.int p1.1], mk X, p1.2)
  refine Ex.blk 1000 rfl ?_
  rcases ite_sp h with ⟨c1, h⟩ | ⟨c1, h⟩
  · refine And.intro (fun hp => absurd c1 hp) (fun _ => ?_)
    show Ex mr_X10_bell sc (Cl MT pr sc (d + 3)) (rtE (some (.int r)) (mk X) σ2) (14, [(0, .ref 38), (1, .int x1)], [], mk X, p1.2)
    refine Ex.blk 1000 rfl ?_
    show Ex mr_X10_bell sc (Cl MT pr sc (d + 3)) (rtE (some (.int r)) (mk X) σ2) (38, [(0, .ref 38), (1, .int x1)], [.int (-1)], mk X, p1.2)
    refine Ex.pick (lv' := _) [] rfl ?_
    exact lk_X10_bell_38 d _ _ h
  · refine And.intro (fun _ => ?_) (fun hn => absurd c1 hn)
    show Ex mr_X10_bell sc (Cl MT pr sc (d + 3)) (rtE (some (.int r)) (mk X) σ2) (18, [(0, .ref 38), (1, .int x1)], [], mk X, p1.2)
    refine Ex.blk 1000 rfl ?_
    rcases ite_sp h with ⟨c2, h⟩ | ⟨c2, h⟩
    · refine And.intro (fun _ => ?_) (fun hn => absurd c2 hn)
      show Ex mr_X10_bell sc (Cl MT pr sc (d + 3)) (rtE (some (.int r)) (mk X) σ2) (30, [(0, .ref 38), (1, .int x1)], [], mk X, p1.2)
      refine Ex.blk 2 rfl ?_
      obtain ⟨p2, hp2, h⟩ := bind_sp h
      refine Exists.intro (some (.long p2.1)) (Exists.intro (mk X) (Exists.intro p2.2 (And.intro (cl_X10_seenNumber (d + 0) hp2) ?_)))
      show Ex mr_X10_bell sc (Cl MT pr sc (d + 3)) (rtE (some (.int r)) (mk X) σ2) (34, [(0, .ref 38), (1, .int x1)], [.long p2.1], mk X, p2.2)
      refine Ex.blk 3 rfl ?_
      obtain ⟨g3, h⟩ := gd_some h
      refine And.intro (nzJ_ok g3) ?_
      show Ex mr_X10_bell sc (Cl MT pr sc (d + 3)) (rtE (some (.int r)) (mk X) σ2) (37, [(0, .ref 38), (1, .int x1)], [.long (rmJ p2.1 x1.toInt64)], mk X, p2.2)
      refine Ex.blk 1000 rfl ?_
      show Ex mr_X10_bell sc (Cl MT pr sc (d + 3)) (rtE (some (.int r)) (mk X) σ2) (38, [(0, .ref 38), (1, .int x1)], [.int (rmJ p2.1 x1.toInt64).toInt32], mk X, p2.2)
      refine Ex.pick (lv' := _) [] rfl ?_
      exact lk_X10_bell_38 d _ _ h
    · refine And.intro (fun hp => absurd hp c2) (fun _ => ?_)
      show Ex mr_X10_bell sc (Cl MT pr sc (d + 3)) (rtE (some (.int r)) (mk X) σ2) (25, [(0, .ref 38), (1, .int x1)], [], mk X, p1.2)
      refine Ex.blk 1000 rfl ?_
      show Ex mr_X10_bell sc (Cl MT pr sc (d + 3)) (rtE (some (.int r)) (mk X) σ2) (38, [(0, .ref 38), (1, .int x1)], [.int (-2)], mk X, p1.2)
      refine Ex.pick (lv' := _) [] rfl ?_
      exact lk_X10_bell_38 d _ _ h
theorem lk_X10_itself_25 {pr : Ct} {sc : Nat × (Nat → Int32)} {X : En} (d : Nat) {r : Int32} {σ2 : St} (k5 : Int32 → Int32 → Int32 → St → Option (Int32 × St)) (hk5 : ∀ (x1 : Int32) (x2 : Int32) (x3 : Int32) (σ : St), k5 x1 x2 x3 σ = some (r, σ2) → Ex mr_X10_itself sc (Cl MT pr sc (d + 0)) (rtE (some (.int r)) (mk X) σ2) (5, [(0, .ref 38), (1, .int x1), (2, .int x2), (3, .int x3)], [], mk X, σ)) (x1 : Int32) (x2 : Int32) (x3 : Int32) (σ : St) (h : f_X10_itself_25 k5 x1 x2 x3 σ = some (r, σ2)) : Ex mr_X10_itself sc (Cl MT pr sc (d + 0)) (rtE (some (.int r)) (mk X) σ2) (25, [(0, .ref 38), (1, .int x1), (2, .int x2), (3, .int x3)], [], mk X, σ) := by
  unfold f_X10_itself_25 at h
  refine Ex.blk 1000 rfl ?_
  show Ex mr_X10_itself sc (Cl MT pr sc (d + 0)) (rtE (some (.int r)) (mk X) σ2) (5, [(3, .int (x3 + 1)), (0, .ref 38), (1, .int x1), (2, .int x2)], [], mk X, σ)
  refine Ex.pick (lv' := _) [1, 2, 3, 0] rfl ?_
  exact hk5 _ _ _ _ h
theorem lk_X10_itself_5 {pr : Ct} {sc : Nat × (Nat → Int32)} {X : En} (d : Nat) {r : Int32} {σ2 : St} : ∀ (n : Nat) (x1 : Int32) (x2 : Int32) (x3 : Int32) (σ : St), f_X10_itself_5 n x1 x2 x3 σ = some (r, σ2) → Ex mr_X10_itself sc (Cl MT pr sc (d + 0)) (rtE (some (.int r)) (mk X) σ2) (5, [(0, .ref 38), (1, .int x1), (2, .int x2), (3, .int x3)], [], mk X, σ) := by
  intro n
  induction n with
  | zero =>
    intro x1 x2 x3 σ h
    cases h
  | succ n ih =>
    intro x1 x2 x3 σ h
    simp only [f_X10_itself_5] at h
    refine Ex.blk 1000 rfl ?_
    rcases ite_sp h with ⟨c1, h⟩ | ⟨c1, h⟩
    · refine And.intro (fun _ => ?_) (fun hn => absurd c1 hn)
      show Ex mr_X10_itself sc (Cl MT pr sc (d + 0)) (rtE (some (.int r)) (mk X) σ2) (31, [(0, .ref 38), (1, .int x1), (2, .int x2), (3, .int x3)], [], mk X, σ)
      refine Ex.blk 1000 rfl ?_
      cases h
      exact And.intro trivial ⟨rfl, rfl, rfl⟩
    · refine And.intro (fun hp => absurd hp c1) (fun _ => ?_)
      show Ex mr_X10_itself sc (Cl MT pr sc (d + 0)) (rtE (some (.int r)) (mk X) σ2) (11, [(0, .ref 38), (1, .int x1), (2, .int x2), (3, .int x3)], [], mk X, σ)
      refine Ex.blk 5 rfl ?_
      show Ex mr_X10_itself sc (Cl MT pr sc (d + 0)) (rtE (some (.int r)) (mk X) σ2) (19, [(0, .ref 38), (1, .int x1), (2, .int x2), (3, .int x3)], [.int x1, .int 10, .ref 45, .int x2], mk X, σ)
      refine Ex.blk 4 rfl ?_
      obtain ⟨g2, h⟩ := gd_some h
      refine And.intro (inb_ok g2) ?_
      show Ex mr_X10_itself sc (Cl MT pr sc (d + 0)) (rtE (some (.int r)) (mk X) σ2) (23, [(0, .ref 38), (1, .int x1), (2, .int x2), (3, .int x3)], [.int (gI σ 45 ((10 * x1) + x3).toNatClampNeg), .int x2], mk X, σ)
      refine Ex.blk 2 rfl ?_
      show Ex mr_X10_itself sc (Cl MT pr sc (d + 0)) (rtE (some (.int r)) (mk X) σ2) (25, [(2, .int (x2 - (gI σ 45 ((10 * x1) + x3).toNatClampNeg))), (0, .ref 38), (1, .int x1), (3, .int x3)], [], mk X, σ)
      refine Ex.pick (lv' := _) [1, 2, 0, 3] rfl ?_
      exact lk_X10_itself_25 d _ ih _ _ _ _ h
theorem cl_X10_itself {pr : Ct} {sc : Nat × (Nat → Int32)} {X : En} (d : Nat) {r : Int32} {σ2 : St} {x1 : Int32} {σ : St} (h : f_X10_itself x1 σ = some (r, σ2)) : Cl MT pr sc (d + 0 + 1) 196 [.ref 38, .int x1] (mk X) σ (some (.int r)) (mk X) σ2 := by
  refine cl_of mr_X10_itself rfl rfl ?_
  unfold f_X10_itself at h
  refine Ex.blk 1000 rfl ?_
  show Ex mr_X10_itself sc (Cl MT pr sc (d + 0)) (rtE (some (.int r)) (mk X) σ2) (5, [(3, .int 0), (2, .int 100), (0, .ref 38), (1, .int x1)], [], mk X, σ)
  refine Ex.pick (lv' := _) [2, 3, 1, 0] rfl ?_
  exact lk_X10_itself_5 d FU _ _ _ _ h
theorem lk_X10_many_23 {pr : Ct} {sc : Nat × (Nat → Int32)} {X : En} (d : Nat) {r : Int32} {σ2 : St} (k5 : Int32 → Int64 → St → Option (Int32 × St)) (hk5 : ∀ (x3 : Int32) (x4 : Int64) (σ : St), k5 x3 x4 σ = some (r, σ2) → Ex mr_X10_many sc (Cl MT pr sc (d + 0)) (rtE (some (.int r)) (mk X) σ2) (5, [(3, .int x3), (4, .long x4)], [], mk X, σ)) (x3 : Int32) (x4 : Int64) (σ : St) (h : f_X10_many_23 k5 x3 x4 σ = some (r, σ2)) : Ex mr_X10_many sc (Cl MT pr sc (d + 0)) (rtE (some (.int r)) (mk X) σ2) (23, [(3, .int x3), (4, .long x4)], [], mk X, σ) := by
  unfold f_X10_many_23 at h
  refine Ex.blk 1000 rfl ?_
  show Ex mr_X10_many sc (Cl MT pr sc (d + 0)) (rtE (some (.int r)) (mk X) σ2) (5, [(3, .int x3), (4, .long x4)], [], mk X, σ)
  exact hk5 _ _ _ h
theorem lk_X10_many_5 {pr : Ct} {sc : Nat × (Nat → Int32)} {X : En} (d : Nat) {r : Int32} {σ2 : St} : ∀ (n : Nat) (x3 : Int32) (x4 : Int64) (σ : St), f_X10_many_5 n x3 x4 σ = some (r, σ2) → Ex mr_X10_many sc (Cl MT pr sc (d + 0)) (rtE (some (.int r)) (mk X) σ2) (5, [(3, .int x3), (4, .long x4)], [], mk X, σ) := by
  intro n
  induction n with
  | zero =>
    intro x3 x4 σ h
    cases h
  | succ n ih =>
    intro x3 x4 σ h
    simp only [f_X10_many_5] at h
    refine Ex.blk 1000 rfl ?_
    rcases ite_sp h with ⟨c1, h⟩ | ⟨c1, h⟩
    · refine And.intro (fun _ => ?_) (fun hn => absurd c1 hn)
      show Ex mr_X10_many sc (Cl MT pr sc (d + 0)) (rtE (some (.int r)) (mk X) σ2) (26, [(3, .int x3), (4, .long x4)], [], mk X, σ)
      refine Ex.blk 1000 rfl ?_
      cases h
      exact And.intro trivial ⟨rfl, rfl, rfl⟩
    · refine And.intro (fun hp => absurd hp c1) (fun _ => ?_)
      show Ex mr_X10_many sc (Cl MT pr sc (d + 0)) (rtE (some (.int r)) (mk X) σ2) (12, [(3, .int x3), (4, .long x4)], [], mk X, σ)
      refine Ex.blk 4 rfl ?_
      refine And.intro (nzJ_ok (b := 10) (by decide)) ?_
      show Ex mr_X10_many sc (Cl MT pr sc (d + 0)) (rtE (some (.int r)) (mk X) σ2) (21, [(3, .int (x3 + 1)), (4, .long x4)], [.long (x4 / 10)], mk X, σ)
      refine Ex.blk 1 rfl ?_
      show Ex mr_X10_many sc (Cl MT pr sc (d + 0)) (rtE (some (.int r)) (mk X) σ2) (23, [(4, .long (x4 / 10)), (3, .int (x3 + 1))], [], mk X, σ)
      refine Ex.pick (lv' := _) [1, 0] rfl ?_
      exact lk_X10_many_23 d _ ih _ _ _ h
theorem cl_X10_many {pr : Ct} {sc : Nat × (Nat → Int32)} {X : En} (d : Nat) {r : Int32} {σ2 : St} {x1 : Int64} {σ : St} (h : f_X10_many x1 σ = some (r, σ2)) : Cl MT pr sc (d + 0 + 1) 197 [.ref 38, .long x1] (mk X) σ (some (.int r)) (mk X) σ2 := by
  refine cl_of mr_X10_many rfl rfl ?_
  unfold f_X10_many at h
  refine Ex.blk 1000 rfl ?_
  show Ex mr_X10_many sc (Cl MT pr sc (d + 0)) (rtE (some (.int r)) (mk X) σ2) (5, [(4, .long x1), (3, .int 0), (0, .ref 38), (1, .long x1)], [], mk X, σ)
  refine Ex.pick (lv' := _) [1, 0] rfl ?_
  exact lk_X10_many_5 d FU _ _ _ h
theorem lk_X10_rightly_31 {pr : Ct} {sc : Nat × (Nat → Int32)} {X : En} (d : Nat) {r : Int64} {σ2 : St} (k5 : Int32 → Int64 → Int32 → St → Option (Int64 × St)) (hk5 : ∀ (x1 : Int32) (x2 : Int64) (x4 : Int32) (σ : St), k5 x1 x2 x4 σ = some (r, σ2) → Ex mr_X10_rightly sc (Cl MT pr sc (d + 1)) (rtE (some (.long r)) (mk X) σ2) (5, [(0, .ref 38), (1, .int x1), (2, .long x2), (4, .int x4)], [], mk X, σ)) (x1 : Int32) (x2 : Int64) (x4 : Int32) (σ : St) (h : f_X10_rightly_31 k5 x1 x2 x4 σ = some (r, σ2)) : Ex mr_X10_rightly sc (Cl MT pr sc (d + 1)) (rtE (some (.long r)) (mk X) σ2) (31, [(0, .ref 38), (1, .int x1), (2, .long x2), (4, .int x4)], [], mk X, σ) := by
  unfold f_X10_rightly_31 at h
  refine Ex.blk 1000 rfl ?_
  show Ex mr_X10_rightly sc (Cl MT pr sc (d + 1)) (rtE (some (.long r)) (mk X) σ2) (5, [(4, .int (x4 + 1)), (0, .ref 38), (1, .int x1), (2, .long x2)], [], mk X, σ)
  refine Ex.pick (lv' := _) [1, 2, 3, 0] rfl ?_
  exact hk5 _ _ _ _ h
theorem lk_X10_rightly_5 {pr : Ct} {sc : Nat × (Nat → Int32)} {X : En} (d : Nat) {r : Int64} {σ2 : St} : ∀ (n : Nat) (x1 : Int32) (x2 : Int64) (x4 : Int32) (σ : St), f_X10_rightly_5 n x1 x2 x4 σ = some (r, σ2) → Ex mr_X10_rightly sc (Cl MT pr sc (d + 1)) (rtE (some (.long r)) (mk X) σ2) (5, [(0, .ref 38), (1, .int x1), (2, .long x2), (4, .int x4)], [], mk X, σ) := by
  intro n
  induction n with
  | zero =>
    intro x1 x2 x4 σ h
    cases h
  | succ n ih =>
    intro x1 x2 x4 σ h
    simp only [f_X10_rightly_5] at h
    refine Ex.blk 5 rfl ?_
    obtain ⟨p1, hp1, h⟩ := bind_sp h
    refine Exists.intro (some (.int p1.1)) (Exists.intro (mk X) (Exists.intro p1.2 (And.intro (cl_X10_many (d + 0) hp1) ?_)))
    show Ex mr_X10_rightly sc (Cl MT pr sc (d + 1)) (rtE (some (.long r)) (mk X) σ2) (13, [(0, .ref 38), (1, .int x1), (2, .long x2), (4, .int x4)], [.int p1.1, .int x4], mk X, p1.2)
    refine Ex.blk 1000 rfl ?_
    rcases ite_sp h with ⟨c1, h⟩ | ⟨c1, h⟩
    · refine And.intro (fun _ => ?_) (fun hn => absurd c1 hn)
      show Ex mr_X10_rightly sc (Cl MT pr sc (d + 1)) (rtE (some (.long r)) (mk X) σ2) (37, [(0, .ref 38), (1, .int x1), (2, .long x2), (4, .int x4)], [], mk X, p1.2)
      refine Ex.blk 1000 rfl ?_
      cases h
      exact And.intro trivial ⟨rfl, rfl, rfl⟩
    · refine And.intro (fun hp => absurd hp c1) (fun _ => ?_)
      show Ex mr_X10_rightly sc (Cl MT pr sc (d + 1)) (rtE (some (.long r)) (mk X) σ2) (16, [(0, .ref 38), (1, .int x1), (2, .long x2), (4, .int x4)], [], mk X, p1.2)
      refine Ex.blk 5 rfl ?_
      show Ex mr_X10_rightly sc (Cl MT pr sc (d + 1)) (rtE (some (.long r)) (mk X) σ2) (22, [(0, .ref 38), (1, .int x1), (2, .long x2), (4, .int x4)], [.int x4, .long x1.toInt64, .ref 38, .long x2], mk X, p1.2)
      refine Ex.blk 1 rfl ?_
      obtain ⟨p2, hp2, h⟩ := bind_sp h
      refine Exists.intro (some (.int p2.1)) (Exists.intro (mk X) (Exists.intro p2.2 (And.intro (cl_X10_digitOf (d + 0) hp2) ?_)))
      show Ex mr_X10_rightly sc (Cl MT pr sc (d + 1)) (rtE (some (.long r)) (mk X) σ2) (25, [(0, .ref 38), (1, .int x1), (2, .long x2), (4, .int x4)], [.int p2.1, .ref 38, .long x2], mk X, p2.2)
      refine Ex.blk 1 rfl ?_
      obtain ⟨p3, hp3, h⟩ := bind_sp h
      refine Exists.intro (some (.int p3.1)) (Exists.intro (mk X) (Exists.intro p3.2 (And.intro (cl_X10_itself (d + 0) hp3) ?_)))
      show Ex mr_X10_rightly sc (Cl MT pr sc (d + 1)) (rtE (some (.long r)) (mk X) σ2) (28, [(0, .ref 38), (1, .int x1), (2, .long x2), (4, .int x4)], [.int p3.1, .long x2], mk X, p3.2)
      refine Ex.blk 3 rfl ?_
      show Ex mr_X10_rightly sc (Cl MT pr sc (d + 1)) (rtE (some (.long r)) (mk X) σ2) (31, [(2, .long (x2 * p3.1.toInt64)), (0, .ref 38), (1, .int x1), (4, .int x4)], [], mk X, p3.2)
      refine Ex.pick (lv' := _) [1, 2, 0, 3] rfl ?_
      exact lk_X10_rightly_31 d _ ih _ _ _ _ h
theorem cl_X10_rightly {pr : Ct} {sc : Nat × (Nat → Int32)} {X : En} (d : Nat) {r : Int64} {σ2 : St} {x1 : Int32} {σ : St} (h : f_X10_rightly x1 σ = some (r, σ2)) : Cl MT pr sc (d + 1 + 1) 198 [.ref 38, .int x1] (mk X) σ (some (.long r)) (mk X) σ2 := by
  refine cl_of mr_X10_rightly rfl rfl ?_
  unfold f_X10_rightly at h
  refine Ex.blk 1000 rfl ?_
  show Ex mr_X10_rightly sc (Cl MT pr sc (d + 1)) (rtE (some (.long r)) (mk X) σ2) (5, [(4, .int 0), (2, .long 1), (0, .ref 38), (1, .int x1)], [], mk X, σ)
  refine Ex.pick (lv' := _) [2, 3, 1, 0] rfl ?_
  exact lk_X10_rightly_5 d FU _ _ _ _ h
theorem lk_X10_alike_171 {pr : Ct} {sc : Nat × (Nat → Int32)} {X : En} (d : Nat) {r : Int64} {σ2 : St} (k30 : Int32 → Int32 → Int32 → St → Option (Int64 × St)) (hk30 : ∀ (x1 : Int32) (x2 : Int32) (x3 : Int32) (σ : St), k30 x1 x2 x3 σ = some (r, σ2) → Ex mr_X10_alike sc (Cl MT pr sc (d + 1)) (rtE (some (.long r)) (mk X) σ2) (30, [(0, .ref 38), (1, .int x1), (2, .int x2), (3, .int x3)], [], mk X, σ)) : ∀ (n : Nat) (x1 : Int32) (x2 : Int32) (x3 : Int32) (x6 : Int32) (σ : St), f_X10_alike_171 k30 n x1 x2 x3 x6 σ = some (r, σ2) → Ex mr_X10_alike sc (Cl MT pr sc (d + 1)) (rtE (some (.long r)) (mk X) σ2) (171, [(0, .ref 38), (1, .int x1), (2, .int x2), (3, .int x3), (6, .int x6)], [], mk X, σ) := by
  intro n
  induction n with
  | zero =>
    intro x1 x2 x3 x6 σ h
    cases h
  | succ n ih =>
    intro x1 x2 x3 x6 σ h
    simp only [f_X10_alike_171] at h
    refine Ex.blk 1000 rfl ?_
    rcases ite_sp h with ⟨c1, h⟩ | ⟨c1, h⟩
    · refine And.intro (fun _ => ?_) (fun hn => absurd c1 hn)
      show Ex mr_X10_alike sc (Cl MT pr sc (d + 1)) (rtE (some (.long r)) (mk X) σ2) (197, [(0, .ref 38), (1, .int x1), (2, .int x2), (3, .int x3), (6, .int x6)], [], mk X, σ)
      refine Ex.blk 1000 rfl ?_
      show Ex mr_X10_alike sc (Cl MT pr sc (d + 1)) (rtE (some (.long r)) (mk X) σ2) (30, [(3, .int (x3 + 1)), (0, .ref 38), (1, .int x1), (2, .int x2), (6, .int x6)], [], mk X, σ)
      refine Ex.pick (lv' := _) [1, 2, 3, 0] rfl ?_
      exact hk30 _ _ _ _ h
    · refine And.intro (fun hp => absurd hp c1) (fun _ => ?_)
      show Ex mr_X10_alike sc (Cl MT pr sc (d + 1)) (rtE (some (.long r)) (mk X) σ2) (177, [(0, .ref 38), (1, .int x1), (2, .int x2), (3, .int x3), (6, .int x6)], [], mk X, σ)
      refine Ex.blk 5 rfl ?_
      show Ex mr_X10_alike sc (Cl MT pr sc (d + 1)) (rtE (some (.long r)) (mk X) σ2) (187, [(0, .ref 38), (1, .int x1), (2, .int x2), (3, .int x3), (6, .int x6)], [.ref 53, .int x6, .ref 52], mk X, σ)
      refine Ex.blk 2 rfl ?_
      obtain ⟨g2, h⟩ := gd_some h
      refine And.intro (inb_ok g2) ?_
      show Ex mr_X10_alike sc (Cl MT pr sc (d + 1)) (rtE (some (.long r)) (mk X) σ2) (190, [(0, .ref 38), (1, .int x1), (2, .int x2), (3, .int x3), (6, .int x6)], [.long (gJ σ 53 x6.toNatClampNeg), .int x6, .ref 52], mk X, σ)
      refine Ex.blk 1 rfl ?_
      obtain ⟨g3, h⟩ := gd_some h
      refine And.intro (inb_ok g3) ?_
      show Ex mr_X10_alike sc (Cl MT pr sc (d + 1)) (rtE (some (.long r)) (mk X) σ2) (191, [(0, .ref 38), (1, .int x1), (2, .int x2), (3, .int x3), (6, .int x6)], [], mk X, (sJ σ 52 x6.toNatClampNeg (gJ σ 53 x6.toNatClampNeg)))
      refine Ex.blk 1000 rfl ?_
      show Ex mr_X10_alike sc (Cl MT pr sc (d + 1)) (rtE (some (.long r)) (mk X) σ2) (171, [(6, .int (x6 + 1)), (0, .ref 38), (1, .int x1), (2, .int x2), (3, .int x3)], [], mk X, (sJ σ 52 x6.toNatClampNeg (gJ σ 53 x6.toNatClampNeg)))
      refine Ex.pick (lv' := _) [1, 2, 3, 4, 0] rfl ?_
      exact ih _ _ _ _ _ h
theorem lk_X10_alike_152 {pr : Ct} {sc : Nat × (Nat → Int32)} {X : En} (d : Nat) {r : Int64} {σ2 : St} (k30 : Int32 → Int32 → Int32 → St → Option (Int64 × St)) (k84 : Int32 → Int32 → Int32 → Int32 → Int32 → Int32 → St → Option (Int64 × St)) (k93 : Int32 → Int32 → Int32 → Int32 → Int32 → Int32 → Int32 → St → Option (Int64 × St)) (hk30 : ∀ (x1 : Int32) (x2 : Int32) (x3 : Int32) (σ : St), k30 x1 x2 x3 σ = some (r, σ2) → Ex mr_X10_alike sc (Cl MT pr sc (d + 1)) (rtE (some (.long r)) (mk X) σ2) (30, [(0, .ref 38), (1, .int x1), (2, .int x2), (3, .int x3)], [], mk X, σ)) (hk84 : ∀ (x1 : Int32) (x2 : Int32) (x3 : Int32) (x4 : Int32) (x5 : Int32) (x6 : Int32) (σ : St), k84 x1 x2 x3 x4 x5 x6 σ = some (r, σ2) → Ex mr_X10_alike sc (Cl MT pr sc (d + 1)) (rtE (some (.long r)) (mk X) σ2) (84, [(0, .ref 38), (1, .int x1), (2, .int x2), (3, .int x3), (4, .int x4), (5, .int x5), (6, .int x6)], [], mk X, σ)) (hk93 : ∀ (x1 : Int32) (x2 : Int32) (x3 : Int32) (x4 : Int32) (x5 : Int32) (x6 : Int32) (x7 : Int32) (σ : St), k93 x1 x2 x3 x4 x5 x6 x7 σ = some (r, σ2) → Ex mr_X10_alike sc (Cl MT pr sc (d + 1)) (rtE (some (.long r)) (mk X) σ2) (93, [(0, .ref 38), (1, .int x1), (2, .int x2), (3, .int x3), (4, .int x4), (5, .int x5), (6, .int x6), (7, .int x7)], [], mk X, σ)) (x1 : Int32) (x2 : Int32) (x3 : Int32) (x4 : Int32) (x5 : Int32) (x6 : Int32) (x7 : Int32) (y0 : Int32) (y1 : Int64) (y2 : Int64) (y3 : Int32) (σ : St) (h : f_X10_alike_152 k30 k84 k93 x1 x2 x3 x4 x5 x6 x7 y0 y1 y2 y3 σ = some (r, σ2)) : Ex mr_X10_alike sc (Cl MT pr sc (d + 1)) (rtE (some (.long r)) (mk X) σ2) (152, [(0, .ref 38), (1, .int x1), (2, .int x2), (3, .int x3), (4, .int x4), (5, .int x5), (6, .int x6), (7, .int x7)], [.int y0, .long y1, .long y2, .int y3, .ref 53], mk X, σ) := by
  unfold f_X10_alike_152 at h
  refine Ex.blk 4 rfl ?_
  obtain ⟨g1, h⟩ := gd_some h
  refine And.intro (inb_ok g1) ?_
  show Ex mr_X10_alike sc (Cl MT pr sc (d + 1)) (rtE (some (.long r)) (mk X) σ2) (156, [(0, .ref 38), (1, .int x1), (2, .int x2), (3, .int x3), (4, .int x4), (5, .int x5), (6, .int x6), (7, .int x7)], [], mk X, (sJ σ 53 y3.toNatClampNeg (y2 + (y1 * y0.toInt64))))
  refine Ex.blk 1000 rfl ?_
  show Ex mr_X10_alike sc (Cl MT pr sc (d + 1)) (rtE (some (.long r)) (mk X) σ2) (93, [(7, .int (x7 + 1)), (0, .ref 38), (1, .int x1), (2, .int x2), (3, .int x3), (4, .int x4), (5, .int x5), (6, .int x6)], [], mk X, (sJ σ 53 y3.toNatClampNeg (y2 + (y1 * y0.toInt64))))
  refine Ex.pick (lv' := _) [1, 2, 3, 4, 5, 6, 7, 0] rfl ?_
  exact hk93 _ _ _ _ _ _ _ _ h
theorem lk_X10_alike_93 {pr : Ct} {sc : Nat × (Nat → Int32)} {X : En} (d : Nat) {r : Int64} {σ2 : St} (k30 : Int32 → Int32 → Int32 → St → Option (Int64 × St)) (k84 : Int32 → Int32 → Int32 → Int32 → Int32 → Int32 → St → Option (Int64 × St)) (hk30 : ∀ (x1 : Int32) (x2 : Int32) (x3 : Int32) (σ : St), k30 x1 x2 x3 σ = some (r, σ2) → Ex mr_X10_alike sc (Cl MT pr sc (d + 1)) (rtE (some (.long r)) (mk X) σ2) (30, [(0, .ref 38), (1, .int x1), (2, .int x2), (3, .int x3)], [], mk X, σ)) (hk84 : ∀ (x1 : Int32) (x2 : Int32) (x3 : Int32) (x4 : Int32) (x5 : Int32) (x6 : Int32) (σ : St), k84 x1 x2 x3 x4 x5 x6 σ = some (r, σ2) → Ex mr_X10_alike sc (Cl MT pr sc (d + 1)) (rtE (some (.long r)) (mk X) σ2) (84, [(0, .ref 38), (1, .int x1), (2, .int x2), (3, .int x3), (4, .int x4), (5, .int x5), (6, .int x6)], [], mk X, σ)) : ∀ (n : Nat) (x1 : Int32) (x2 : Int32) (x3 : Int32) (x4 : Int32) (x5 : Int32) (x6 : Int32) (x7 : Int32) (σ : St), f_X10_alike_93 k30 k84 n x1 x2 x3 x4 x5 x6 x7 σ = some (r, σ2) → Ex mr_X10_alike sc (Cl MT pr sc (d + 1)) (rtE (some (.long r)) (mk X) σ2) (93, [(0, .ref 38), (1, .int x1), (2, .int x2), (3, .int x3), (4, .int x4), (5, .int x5), (6, .int x6), (7, .int x7)], [], mk X, σ) := by
  intro n
  induction n with
  | zero =>
    intro x1 x2 x3 x4 x5 x6 x7 σ h
    cases h
  | succ n ih =>
    intro x1 x2 x3 x4 x5 x6 x7 σ h
    simp only [f_X10_alike_93] at h
    refine Ex.blk 1000 rfl ?_
    rcases ite_sp h with ⟨c1, h⟩ | ⟨c1, h⟩
    · refine And.intro (fun _ => ?_) (fun hn => absurd c1 hn)
      show Ex mr_X10_alike sc (Cl MT pr sc (d + 1)) (rtE (some (.long r)) (mk X) σ2) (162, [(0, .ref 38), (1, .int x1), (2, .int x2), (3, .int x3), (4, .int x4), (5, .int x5), (6, .int x6), (7, .int x7)], [], mk X, σ)
      refine Ex.blk 1000 rfl ?_
      show Ex mr_X10_alike sc (Cl MT pr sc (d + 1)) (rtE (some (.long r)) (mk X) σ2) (84, [(6, .int (x6 + 1)), (0, .ref 38), (1, .int x1), (2, .int x2), (3, .int x3), (4, .int x4), (5, .int x5), (7, .int x7)], [], mk X, σ)
      refine Ex.pick (lv' := _) [1, 2, 3, 4, 5, 6, 0] rfl ?_
      exact hk84 _ _ _ _ _ _ _ h
    · refine And.intro (fun hp => absurd hp c1) (fun _ => ?_)
      show Ex mr_X10_alike sc (Cl MT pr sc (d + 1)) (rtE (some (.long r)) (mk X) σ2) (100, [(0, .ref 38), (1, .int x1), (2, .int x2), (3, .int x3), (4, .int x4), (5, .int x5), (6, .int x6), (7, .int x7)], [], mk X, σ)
      refine Ex.blk 5 rfl ?_
      show Ex mr_X10_alike sc (Cl MT pr sc (d + 1)) (rtE (some (.long r)) (mk X) σ2) (110, [(0, .ref 38), (1, .int x1), (2, .int x2), (3, .int x3), (4, .int x4), (5, .int x5), (6, .int x6), (7, .int x7)], [.int x5, .int x7, .int x6, .ref 53], mk X, σ)
      refine Ex.blk 4 rfl ?_
      obtain ⟨g2, h⟩ := gd_some h
      refine And.intro (nzI_ok g2) ?_
      show Ex mr_X10_alike sc (Cl MT pr sc (d + 1)) (rtE (some (.long r)) (mk X) σ2) (114, [(0, .ref 38), (1, .int x1), (2, .int x2), (3, .int x3), (4, .int x4), (5, .int x5), (6, .int x6), (7, .int x7)], [.int (rmI (x6 + (x7 * x5)) x2), .ref 53], mk X, σ)
      refine Ex.blk 2 rfl ?_
      obtain ⟨g3, h⟩ := gd_some h
      refine And.intro (inb_ok g3) ?_
      show Ex mr_X10_alike sc (Cl MT pr sc (d + 1)) (rtE (some (.long r)) (mk X) σ2) (116, [(0, .ref 38), (1, .int x1), (2, .int x2), (3, .int x3), (4, .int x4), (5, .int x5), (6, .int x6), (7, .int x7)], [.long (gJ σ 53 (rmI (x6 + (x7 * x5)) x2).toNatClampNeg), .int (rmI (x6 + (x7 * x5)) x2), .ref 53], mk X, σ)
      refine Ex.blk 4 rfl ?_
      obtain ⟨g4, h⟩ := gd_some h
      refine And.intro (inb_ok g4) ?_
      show Ex mr_X10_alike sc (Cl MT pr sc (d + 1)) (rtE (some (.long r)) (mk X) σ2) (123, [(0, .ref 38), (1, .int x1), (2, .int x2), (3, .int x3), (4, .int x4), (5, .int x5), (6, .int x6), (7, .int x7)], [.long (gJ σ 52 x6.toNatClampNeg), .long (gJ σ 53 (rmI (x6 + (x7 * x5)) x2).toNatClampNeg), .int (rmI (x6 + (x7 * x5)) x2), .ref 53], mk X, σ)
      refine Ex.blk 1000 rfl ?_
      rcases ite_sp h with ⟨c5, h⟩ | ⟨c5, h⟩
      · refine And.intro (fun hp => absurd c5 hp) (fun _ => ?_)
        show Ex mr_X10_alike sc (Cl MT pr sc (d + 1)) (rtE (some (.long r)) (mk X) σ2) (130, [(0, .ref 38), (1, .int x1), (2, .int x2), (3, .int x3), (4, .int x4), (5, .int x5), (6, .int x6), (7, .int x7)], [.long (gJ σ 52 x6.toNatClampNeg), .long (gJ σ 53 (rmI (x6 + (x7 * x5)) x2).toNatClampNeg), .int (rmI (x6 + (x7 * x5)) x2), .ref 53], mk X, σ)
        refine Ex.blk 3 rfl ?_
        obtain ⟨p4, hp4, h⟩ := bind_sp h
        refine Exists.intro (some (.int p4.1)) (Exists.intro (mk X) (Exists.intro p4.2 (And.intro (cl_X10_itself (d + 0) hp4) ?_)))
        show Ex mr_X10_alike sc (Cl MT pr sc (d + 1)) (rtE (some (.long r)) (mk X) σ2) (136, [(0, .ref 38), (1, .int x1), (2, .int x2), (3, .int x3), (4, .int x4), (5, .int x5), (6, .int x6), (7, .int x7)], [.int p4.1, .long (gJ σ 52 x6.toNatClampNeg), .long (gJ σ 53 (rmI (x6 + (x7 * x5)) x2).toNatClampNeg), .int (rmI (x6 + (x7 * x5)) x2), .ref 53], mk X, p4.2)
        refine Ex.blk 1000 rfl ?_
        show Ex mr_X10_alike sc (Cl MT pr sc (d + 1)) (rtE (some (.long r)) (mk X) σ2) (152, [(0, .ref 38), (1, .int x1), (2, .int x2), (3, .int x3), (4, .int x4), (5, .int x5), (6, .int x6), (7, .int x7)], [.int p4.1, .long (gJ σ 52 x6.toNatClampNeg), .long (gJ σ 53 (rmI (x6 + (x7 * x5)) x2).toNatClampNeg), .int (rmI (x6 + (x7 * x5)) x2), .ref 53], mk X, p4.2)
        exact lk_X10_alike_152 d _ _ _ hk30 hk84 ih _ _ _ _ _ _ _ _ _ _ _ _ h
      · refine And.intro (fun _ => ?_) (fun hn => absurd c5 hn)
        show Ex mr_X10_alike sc (Cl MT pr sc (d + 1)) (rtE (some (.long r)) (mk X) σ2) (139, [(0, .ref 38), (1, .int x1), (2, .int x2), (3, .int x3), (4, .int x4), (5, .int x5), (6, .int x6), (7, .int x7)], [.long (gJ σ 52 x6.toNatClampNeg), .long (gJ σ 53 (rmI (x6 + (x7 * x5)) x2).toNatClampNeg), .int (rmI (x6 + (x7 * x5)) x2), .ref 53], mk X, σ)
        refine Ex.blk 5 rfl ?_
        show Ex mr_X10_alike sc (Cl MT pr sc (d + 1)) (rtE (some (.long r)) (mk X) σ2) (148, [(0, .ref 38), (1, .int x1), (2, .int x2), (3, .int x3), (4, .int x4), (5, .int x5), (6, .int x6), (7, .int x7)], [.int (10 * x4), .ref 45, .long (gJ σ 52 x6.toNatClampNeg), .long (gJ σ 53 (rmI (x6 + (x7 * x5)) x2).toNatClampNeg), .int (rmI (x6 + (x7 * x5)) x2), .ref 53], mk X, σ)
        refine Ex.blk 3 rfl ?_
        obtain ⟨g6, h⟩ := gd_some h
        refine And.intro (inb_ok g6) ?_
        show Ex mr_X10_alike sc (Cl MT pr sc (d + 1)) (rtE (some (.long r)) (mk X) σ2) (152, [(0, .ref 38), (1, .int x1), (2, .int x2), (3, .int x3), (4, .int x4), (5, .int x5), (6, .int x6), (7, .int x7)], [.int (gI σ 45 ((10 * x4) + x7).toNatClampNeg), .long (gJ σ 52 x6.toNatClampNeg), .long (gJ σ 53 (rmI (x6 + (x7 * x5)) x2).toNatClampNeg), .int (rmI (x6 + (x7 * x5)) x2), .ref 53], mk X, σ)
        exact lk_X10_alike_152 d _ _ _ hk30 hk84 ih _ _ _ _ _ _ _ _ _ _ _ _ h
theorem lk_X10_alike_84 {pr : Ct} {sc : Nat × (Nat → Int32)} {X : En} (d : Nat) {r : Int64} {σ2 : St} (k30 : Int32 → Int32 → Int32 → St → Option (Int64 × St)) (hk30 : ∀ (x1 : Int32) (x2 : Int32) (x3 : Int32) (σ : St), k30 x1 x2 x3 σ = some (r, σ2) → Ex mr_X10_alike sc (Cl MT pr sc (d + 1)) (rtE (some (.long r)) (mk X) σ2) (30, [(0, .ref 38), (1, .int x1), (2, .int x2), (3, .int x3)], [], mk X, σ)) : ∀ (n : Nat) (x1 : Int32) (x2 : Int32) (x3 : Int32) (x4 : Int32) (x5 : Int32) (x6 : Int32) (σ : St), f_X10_alike_84 k30 n x1 x2 x3 x4 x5 x6 σ = some (r, σ2) → Ex mr_X10_alike sc (Cl MT pr sc (d + 1)) (rtE (some (.long r)) (mk X) σ2) (84, [(0, .ref 38), (1, .int x1), (2, .int x2), (3, .int x3), (4, .int x4), (5, .int x5), (6, .int x6)], [], mk X, σ) := by
  intro n
  induction n with
  | zero =>
    intro x1 x2 x3 x4 x5 x6 σ h
    cases h
  | succ n ih =>
    intro x1 x2 x3 x4 x5 x6 σ h
    simp only [f_X10_alike_84] at h
    refine Ex.blk 1000 rfl ?_
    rcases ite_sp h with ⟨c1, h⟩ | ⟨c1, h⟩
    · refine And.intro (fun _ => ?_) (fun hn => absurd c1 hn)
      show Ex mr_X10_alike sc (Cl MT pr sc (d + 1)) (rtE (some (.long r)) (mk X) σ2) (168, [(0, .ref 38), (1, .int x1), (2, .int x2), (3, .int x3), (4, .int x4), (5, .int x5), (6, .int x6)], [], mk X, σ)
      refine Ex.blk 1000 rfl ?_
      show Ex mr_X10_alike sc (Cl MT pr sc (d + 1)) (rtE (some (.long r)) (mk X) σ2) (171, [(6, .int 0), (0, .ref 38), (1, .int x1), (2, .int x2), (3, .int x3), (4, .int x4), (5, .int x5)], [], mk X, σ)
      refine Ex.pick (lv' := _) [1, 2, 3, 4, 0] rfl ?_
      exact lk_X10_alike_171 d _ hk30 FU _ _ _ _ _ h
    · refine And.intro (fun hp => absurd hp c1) (fun _ => ?_)
      show Ex mr_X10_alike sc (Cl MT pr sc (d + 1)) (rtE (some (.long r)) (mk X) σ2) (90, [(0, .ref 38), (1, .int x1), (2, .int x2), (3, .int x3), (4, .int x4), (5, .int x5), (6, .int x6)], [], mk X, σ)
      refine Ex.blk 1000 rfl ?_
      show Ex mr_X10_alike sc (Cl MT pr sc (d + 1)) (rtE (some (.long r)) (mk X) σ2) (93, [(7, .int 0), (0, .ref 38), (1, .int x1), (2, .int x2), (3, .int x3), (4, .int x4), (5, .int x5), (6, .int x6)], [], mk X, σ)
      refine Ex.pick (lv' := _) [1, 2, 3, 4, 5, 6, 7, 0] rfl ?_
      exact lk_X10_alike_93 d _ _ hk30 ih FU _ _ _ _ _ _ _ _ h
theorem lk_X10_alike_61 {pr : Ct} {sc : Nat × (Nat → Int32)} {X : En} (d : Nat) {r : Int64} {σ2 : St} (k30 : Int32 → Int32 → Int32 → St → Option (Int64 × St)) (hk30 : ∀ (x1 : Int32) (x2 : Int32) (x3 : Int32) (σ : St), k30 x1 x2 x3 σ = some (r, σ2) → Ex mr_X10_alike sc (Cl MT pr sc (d + 1)) (rtE (some (.long r)) (mk X) σ2) (30, [(0, .ref 38), (1, .int x1), (2, .int x2), (3, .int x3)], [], mk X, σ)) : ∀ (n : Nat) (x1 : Int32) (x2 : Int32) (x3 : Int32) (x4 : Int32) (x5 : Int32) (x6 : Int32) (σ : St), f_X10_alike_61 k30 n x1 x2 x3 x4 x5 x6 σ = some (r, σ2) → Ex mr_X10_alike sc (Cl MT pr sc (d + 1)) (rtE (some (.long r)) (mk X) σ2) (61, [(0, .ref 38), (1, .int x1), (2, .int x2), (3, .int x3), (4, .int x4), (5, .int x5), (6, .int x6)], [], mk X, σ) := by
  intro n
  induction n with
  | zero =>
    intro x1 x2 x3 x4 x5 x6 σ h
    cases h
  | succ n ih =>
    intro x1 x2 x3 x4 x5 x6 σ h
    simp only [f_X10_alike_61] at h
    refine Ex.blk 1000 rfl ?_
    rcases ite_sp h with ⟨c1, h⟩ | ⟨c1, h⟩
    · refine And.intro (fun _ => ?_) (fun hn => absurd c1 hn)
      show Ex mr_X10_alike sc (Cl MT pr sc (d + 1)) (rtE (some (.long r)) (mk X) σ2) (81, [(0, .ref 38), (1, .int x1), (2, .int x2), (3, .int x3), (4, .int x4), (5, .int x5), (6, .int x6)], [], mk X, σ)
      refine Ex.blk 1000 rfl ?_
      show Ex mr_X10_alike sc (Cl MT pr sc (d + 1)) (rtE (some (.long r)) (mk X) σ2) (84, [(6, .int 0), (0, .ref 38), (1, .int x1), (2, .int x2), (3, .int x3), (4, .int x4), (5, .int x5)], [], mk X, σ)
      refine Ex.pick (lv' := _) [1, 2, 3, 4, 5, 6, 0] rfl ?_
      exact lk_X10_alike_84 d _ hk30 FU _ _ _ _ _ _ _ h
    · refine And.intro (fun hp => absurd hp c1) (fun _ => ?_)
      show Ex mr_X10_alike sc (Cl MT pr sc (d + 1)) (rtE (some (.long r)) (mk X) σ2) (67, [(0, .ref 38), (1, .int x1), (2, .int x2), (3, .int x3), (4, .int x4), (5, .int x5), (6, .int x6)], [], mk X, σ)
      refine Ex.blk 5 rfl ?_
      obtain ⟨g2, h⟩ := gd_some h
      refine And.intro (inb_ok g2) ?_
      show Ex mr_X10_alike sc (Cl MT pr sc (d + 1)) (rtE (some (.long r)) (mk X) σ2) (75, [(0, .ref 38), (1, .int x1), (2, .int x2), (3, .int x3), (4, .int x4), (5, .int x5), (6, .int x6)], [], mk X, (sJ σ 53 x6.toNatClampNeg 0))
      refine Ex.blk 1000 rfl ?_
      show Ex mr_X10_alike sc (Cl MT pr sc (d + 1)) (rtE (some (.long r)) (mk X) σ2) (61, [(6, .int (x6 + 1)), (0, .ref 38), (1, .int x1), (2, .int x2), (3, .int x3), (4, .int x4), (5, .int x5)], [], mk X, (sJ σ 53 x6.toNatClampNeg 0))
      refine Ex.pick (lv' := _) [1, 2, 3, 4, 5, 6, 0] rfl ?_
      exact ih _ _ _ _ _ _ _ h
theorem lk_X10_alike_58 {pr : Ct} {sc : Nat × (Nat → Int32)} {X : En} (d : Nat) {r : Int64} {σ2 : St} (k30 : Int32 → Int32 → Int32 → St → Option (Int64 × St)) (hk30 : ∀ (x1 : Int32) (x2 : Int32) (x3 : Int32) (σ : St), k30 x1 x2 x3 σ = some (r, σ2) → Ex mr_X10_alike sc (Cl MT pr sc (d + 1)) (rtE (some (.long r)) (mk X) σ2) (30, [(0, .ref 38), (1, .int x1), (2, .int x2), (3, .int x3)], [], mk X, σ)) (x1 : Int32) (x2 : Int32) (x3 : Int32) (x4 : Int32) (x5 : Int32) (σ : St) (h : f_X10_alike_58 k30 x1 x2 x3 x4 x5 σ = some (r, σ2)) : Ex mr_X10_alike sc (Cl MT pr sc (d + 1)) (rtE (some (.long r)) (mk X) σ2) (58, [(0, .ref 38), (1, .int x1), (2, .int x2), (3, .int x3), (4, .int x4), (5, .int x5)], [], mk X, σ) := by
  unfold f_X10_alike_58 at h
  refine Ex.blk 1000 rfl ?_
  show Ex mr_X10_alike sc (Cl MT pr sc (d + 1)) (rtE (some (.long r)) (mk X) σ2) (61, [(6, .int 0), (0, .ref 38), (1, .int x1), (2, .int x2), (3, .int x3), (4, .int x4), (5, .int x5)], [], mk X, σ)
  refine Ex.pick (lv' := _) [1, 2, 3, 4, 5, 6, 0] rfl ?_
  exact lk_X10_alike_61 d _ hk30 FU _ _ _ _ _ _ _ h
theorem lk_X10_alike_30 {pr : Ct} {sc : Nat × (Nat → Int32)} {X : En} (d : Nat) {r : Int64} {σ2 : St} : ∀ (n : Nat) (x1 : Int32) (x2 : Int32) (x3 : Int32) (σ : St), f_X10_alike_30 n x1 x2 x3 σ = some (r, σ2) → Ex mr_X10_alike sc (Cl MT pr sc (d + 1)) (rtE (some (.long r)) (mk X) σ2) (30, [(0, .ref 38), (1, .int x1), (2, .int x2), (3, .int x3)], [], mk X, σ) := by
  intro n
  induction n with
  | zero =>
    intro x1 x2 x3 σ h
    cases h
  | succ n ih =>
    intro x1 x2 x3 σ h
    simp only [f_X10_alike_30] at h
    refine Ex.blk 5 rfl ?_
    obtain ⟨p1, hp1, h⟩ := bind_sp h
    refine Exists.intro (some (.int p1.1)) (Exists.intro (mk X) (Exists.intro p1.2 (And.intro (cl_X10_many (d + 0) hp1) ?_)))
    show Ex mr_X10_alike sc (Cl MT pr sc (d + 1)) (rtE (some (.long r)) (mk X) σ2) (37, [(0, .ref 38), (1, .int x1), (2, .int x2), (3, .int x3)], [.int p1.1, .int x3], mk X, p1.2)
    refine Ex.blk 1000 rfl ?_
    rcases ite_sp h with ⟨c1, h⟩ | ⟨c1, h⟩
    · refine And.intro (fun _ => ?_) (fun hn => absurd c1 hn)
      show Ex mr_X10_alike sc (Cl MT pr sc (d + 1)) (rtE (some (.long r)) (mk X) σ2) (203, [(0, .ref 38), (1, .int x1), (2, .int x2), (3, .int x3)], [], mk X, p1.2)
      refine Ex.blk 5 rfl ?_
      obtain ⟨g2, h⟩ := gd_some h
      refine And.intro (nzI_ok g2) ?_
      show Ex mr_X10_alike sc (Cl MT pr sc (d + 1)) (rtE (some (.long r)) (mk X) σ2) (210, [(0, .ref 38), (1, .int x1), (2, .int x2), (3, .int x3)], [.int (rmI x1 x2), .ref 52], mk X, p1.2)
      refine Ex.blk 1 rfl ?_
      obtain ⟨g3, h⟩ := gd_some h
      refine And.intro (inb_ok g3) ?_
      show Ex mr_X10_alike sc (Cl MT pr sc (d + 1)) (rtE (some (.long r)) (mk X) σ2) (211, [(0, .ref 38), (1, .int x1), (2, .int x2), (3, .int x3)], [.long (gJ p1.2 52 (rmI x1 x2).toNatClampNeg)], mk X, p1.2)
      refine Ex.blk 1000 rfl ?_
      cases h
      exact And.intro trivial ⟨rfl, rfl, rfl⟩
    · refine And.intro (fun hp => absurd hp c1) (fun _ => ?_)
      show Ex mr_X10_alike sc (Cl MT pr sc (d + 1)) (rtE (some (.long r)) (mk X) σ2) (40, [(0, .ref 38), (1, .int x1), (2, .int x2), (3, .int x3)], [], mk X, p1.2)
      refine Ex.blk 4 rfl ?_
      obtain ⟨p2, hp2, h⟩ := bind_sp h
      refine Exists.intro (some (.int p2.1)) (Exists.intro (mk X) (Exists.intro p2.2 (And.intro (cl_X10_digitOf (d + 0) hp2) ?_)))
      show Ex mr_X10_alike sc (Cl MT pr sc (d + 1)) (rtE (some (.long r)) (mk X) σ2) (46, [(0, .ref 38), (1, .int x1), (2, .int x2), (3, .int x3)], [.int p2.1], mk X, p2.2)
      refine Ex.blk 3 rfl ?_
      obtain ⟨p3, hp3, h⟩ := bind_sp h
      refine Exists.intro (some (.long p3.1)) (Exists.intro (mk X) (Exists.intro p3.2 (And.intro (cl_X10_ten (d + 0) hp3) ?_)))
      show Ex mr_X10_alike sc (Cl MT pr sc (d + 1)) (rtE (some (.long r)) (mk X) σ2) (52, [(4, .int p2.1), (0, .ref 38), (1, .int x1), (2, .int x2), (3, .int x3)], [.long p3.1], mk X, p3.2)
      refine Ex.blk 3 rfl ?_
      obtain ⟨g4, h⟩ := gd_some h
      refine And.intro (nzJ_ok g4) ?_
      show Ex mr_X10_alike sc (Cl MT pr sc (d + 1)) (rtE (some (.long r)) (mk X) σ2) (55, [(4, .int p2.1), (0, .ref 38), (1, .int x1), (2, .int x2), (3, .int x3)], [.long (rmJ p3.1 x2.toInt64)], mk X, p3.2)
      refine Ex.blk 2 rfl ?_
      show Ex mr_X10_alike sc (Cl MT pr sc (d + 1)) (rtE (some (.long r)) (mk X) σ2) (58, [(5, .int (rmJ p3.1 x2.toInt64).toInt32), (4, .int p2.1), (0, .ref 38), (1, .int x1), (2, .int x2), (3, .int x3)], [], mk X, p3.2)
      refine Ex.pick (lv' := _) [2, 3, 4, 5, 1, 0] rfl ?_
      exact lk_X10_alike_58 d _ ih _ _ _ _ _ _ h
theorem lk_X10_alike_21 {pr : Ct} {sc : Nat × (Nat → Int32)} {X : En} (d : Nat) {r : Int64} {σ2 : St} (k2 : Int32 → Int32 → Int32 → St → Option (Int64 × St)) (hk2 : ∀ (x1 : Int32) (x2 : Int32) (x3 : Int32) (σ : St), k2 x1 x2 x3 σ = some (r, σ2) → Ex mr_X10_alike sc (Cl MT pr sc (d + 1)) (rtE (some (.long r)) (mk X) σ2) (2, [(0, .ref 38), (1, .int x1), (2, .int x2), (3, .int x3)], [], mk X, σ)) (x1 : Int32) (x2 : Int32) (x3 : Int32) (y0 : Int64) (y1 : Int32) (σ : St) (h : f_X10_alike_21 k2 x1 x2 x3 y0 y1 σ = some (r, σ2)) : Ex mr_X10_alike sc (Cl MT pr sc (d + 1)) (rtE (some (.long r)) (mk X) σ2) (21, [(0, .ref 38), (1, .int x1), (2, .int x2), (3, .int x3)], [.long y0, .int y1, .ref 52], mk X, σ) := by
  unfold f_X10_alike_21 at h
  refine Ex.blk 1 rfl ?_
  obtain ⟨g1, h⟩ := gd_some h
  refine And.intro (inb_ok g1) ?_
  show Ex mr_X10_alike sc (Cl MT pr sc (d + 1)) (rtE (some (.long r)) (mk X) σ2) (22, [(0, .ref 38), (1, .int x1), (2, .int x2), (3, .int x3)], [], mk X, (sJ σ 52 y1.toNatClampNeg y0))
  refine Ex.blk 1000 rfl ?_
  show Ex mr_X10_alike sc (Cl MT pr sc (d + 1)) (rtE (some (.long r)) (mk X) σ2) (2, [(3, .int (x3 + 1)), (0, .ref 38), (1, .int x1), (2, .int x2)], [], mk X, (sJ σ 52 y1.toNatClampNeg y0))
  refine Ex.pick (lv' := _) [1, 2, 3, 0] rfl ?_
  exact hk2 _ _ _ _ h
theorem lk_X10_alike_2 {pr : Ct} {sc : Nat × (Nat → Int32)} {X : En} (d : Nat) {r : Int64} {σ2 : St} : ∀ (n : Nat) (x1 : Int32) (x2 : Int32) (x3 : Int32) (σ : St), f_X10_alike_2 n x1 x2 x3 σ = some (r, σ2) → Ex mr_X10_alike sc (Cl MT pr sc (d + 1)) (rtE (some (.long r)) (mk X) σ2) (2, [(0, .ref 38), (1, .int x1), (2, .int x2), (3, .int x3)], [], mk X, σ) := by
  intro n
  induction n with
  | zero =>
    intro x1 x2 x3 σ h
    cases h
  | succ n ih =>
    intro x1 x2 x3 σ h
    simp only [f_X10_alike_2] at h
    refine Ex.blk 1000 rfl ?_
    rcases ite_sp h with ⟨c1, h⟩ | ⟨c1, h⟩
    · refine And.intro (fun _ => ?_) (fun hn => absurd c1 hn)
      show Ex mr_X10_alike sc (Cl MT pr sc (d + 1)) (rtE (some (.long r)) (mk X) σ2) (28, [(0, .ref 38), (1, .int x1), (2, .int x2), (3, .int x3)], [], mk X, σ)
      refine Ex.blk 1000 rfl ?_
      show Ex mr_X10_alike sc (Cl MT pr sc (d + 1)) (rtE (some (.long r)) (mk X) σ2) (30, [(3, .int 0), (0, .ref 38), (1, .int x1), (2, .int x2)], [], mk X, σ)
      refine Ex.pick (lv' := _) [1, 2, 3, 0] rfl ?_
      exact lk_X10_alike_30 d FU _ _ _ _ h
    · refine And.intro (fun hp => absurd hp c1) (fun _ => ?_)
      show Ex mr_X10_alike sc (Cl MT pr sc (d + 1)) (rtE (some (.long r)) (mk X) σ2) (7, [(0, .ref 38), (1, .int x1), (2, .int x2), (3, .int x3)], [], mk X, σ)
      refine Ex.blk 1000 rfl ?_
      rcases ite_sp h with ⟨c2, h⟩ | ⟨c2, h⟩
      · refine And.intro (fun hp => absurd c2 hp) (fun _ => ?_)
        show Ex mr_X10_alike sc (Cl MT pr sc (d + 1)) (rtE (some (.long r)) (mk X) σ2) (16, [(0, .ref 38), (1, .int x1), (2, .int x2), (3, .int x3)], [.int x3, .ref 52], mk X, σ)
        refine Ex.blk 1000 rfl ?_
        show Ex mr_X10_alike sc (Cl MT pr sc (d + 1)) (rtE (some (.long r)) (mk X) σ2) (21, [(0, .ref 38), (1, .int x1), (2, .int x2), (3, .int x3)], [.long 1, .int x3, .ref 52], mk X, σ)
        exact lk_X10_alike_21 d _ ih _ _ _ _ _ _ h
      · refine And.intro (fun _ => ?_) (fun hn => absurd c2 hn)
        show Ex mr_X10_alike sc (Cl MT pr sc (d + 1)) (rtE (some (.long r)) (mk X) σ2) (20, [(0, .ref 38), (1, .int x1), (2, .int x2), (3, .int x3)], [.int x3, .ref 52], mk X, σ)
        refine Ex.blk 1000 rfl ?_
        show Ex mr_X10_alike sc (Cl MT pr sc (d + 1)) (rtE (some (.long r)) (mk X) σ2) (21, [(0, .ref 38), (1, .int x1), (2, .int x2), (3, .int x3)], [.long 0, .int x3, .ref 52], mk X, σ)
        exact lk_X10_alike_21 d _ ih _ _ _ _ _ _ h
theorem cl_X10_alike {pr : Ct} {sc : Nat × (Nat → Int32)} {X : En} (d : Nat) {r : Int64} {σ2 : St} {x1 : Int32} {x2 : Int32} {σ : St} (h : f_X10_alike x1 x2 σ = some (r, σ2)) : Cl MT pr sc (d + 1 + 1) 199 [.ref 38, .int x1, .int x2] (mk X) σ (some (.long r)) (mk X) σ2 := by
  refine cl_of mr_X10_alike rfl rfl ?_
  unfold f_X10_alike at h
  refine Ex.blk 1000 rfl ?_
  show Ex mr_X10_alike sc (Cl MT pr sc (d + 1)) (rtE (some (.long r)) (mk X) σ2) (2, [(3, .int 0), (0, .ref 38), (1, .int x1), (2, .int x2)], [], mk X, σ)
  refine Ex.pick (lv' := _) [1, 2, 3, 0] rfl ?_
  exact lk_X10_alike_2 d FU _ _ _ _ h
