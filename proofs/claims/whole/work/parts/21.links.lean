theorem lk_X6_planRope_98 {pr : Ct} {sc : Nat × (Nat → Int32)} {X : En} (d : Nat) {r : Int32} {σ2 : St} (σ : St) (h : f_X6_planRope_98 σ = some (r, σ2)) : Ex mr_X6_planRope sc (Cl MT pr sc (d + 2)) (rtE (some (.int r)) (mk X) σ2) (98, [(0, .ref 21)], [], mk X, σ) := by
  unfold f_X6_planRope_98 at h
  refine Ex.blk 1000 rfl ?_
  cases h
  exact And.intro trivial ⟨rfl, rfl, rfl⟩
theorem lk_X6_planRope_79 {pr : Ct} {sc : Nat × (Nat → Int32)} {X : En} (d : Nat) {r : Int32} {σ2 : St} (x1 : Int32) (x3 : Int32) (x4 : Int32) (x6 : Int32) (σ : St) (h : f_X6_planRope_79 x1 x3 x4 x6 σ = some (r, σ2)) : Ex mr_X6_planRope sc (Cl MT pr sc (d + 2)) (rtE (some (.int r)) (mk X) σ2) (79, [(0, .ref 21), (1, .int x1), (3, .int x3), (4, .int x4), (6, .int x6)], [], mk X, σ) := by
  unfold f_X6_planRope_79 at h
  refine Ex.blk 1000 rfl ?_
  rcases ite_sp h with ⟨c1, h⟩ | ⟨c1, h⟩
  · refine And.intro (fun _ => ?_) (fun hn => absurd c1 hn)
    show Ex mr_X6_planRope sc (Cl MT pr sc (d + 2)) (rtE (some (.int r)) (mk X) σ2) (98, [(0, .ref 21), (1, .int x1), (3, .int x3), (4, .int x4), (6, .int x6)], [], mk X, σ)
    refine Ex.pick (lv' := _) [0] rfl ?_
    exact lk_X6_planRope_98 d _ h
  · refine And.intro (fun hp => absurd hp c1) (fun _ => ?_)
    show Ex mr_X6_planRope sc (Cl MT pr sc (d + 2)) (rtE (some (.int r)) (mk X) σ2) (84, [(0, .ref 21), (1, .int x1), (3, .int x3), (4, .int x4), (6, .int x6)], [], mk X, σ)
    refine Ex.blk 1000 rfl ?_
    rcases ite_sp h with ⟨c2, h⟩ | ⟨c2, h⟩
    · refine And.intro (fun hp => absurd c2 hp) (fun _ => ?_)
      show Ex mr_X6_planRope sc (Cl MT pr sc (d + 2)) (rtE (some (.int r)) (mk X) σ2) (89, [(0, .ref 21), (1, .int x1), (3, .int x3), (4, .int x4), (6, .int x6)], [], mk X, σ)
      refine Ex.blk 5 rfl ?_
      show Ex mr_X6_planRope sc (Cl MT pr sc (d + 2)) (rtE (some (.int r)) (mk X) σ2) (95, [(0, .ref 21), (1, .int x1), (3, .int x3), (4, .int x4), (6, .int x6)], [.int x4, .int 1, .int x3, .int x1, .ref 21], mk X, σ)
      refine Ex.blk 1 rfl ?_
      obtain ⟨p1, hp1, h⟩ := bind_sp h
      refine Exists.intro none (Exists.intro (mk X) (Exists.intro p1 (And.intro (cl_X6_driveFrom (d + 0) hp1) ?_)))
      show Ex mr_X6_planRope sc (Cl MT pr sc (d + 2)) (rtE (some (.int r)) (mk X) σ2) (98, [(0, .ref 21), (1, .int x1), (3, .int x3), (4, .int x4), (6, .int x6)], [], mk X, p1)
      refine Ex.pick (lv' := _) [0] rfl ?_
      exact lk_X6_planRope_98 d _ h
    · refine And.intro (fun _ => ?_) (fun hn => absurd c2 hn)
      show Ex mr_X6_planRope sc (Cl MT pr sc (d + 2)) (rtE (some (.int r)) (mk X) σ2) (98, [(0, .ref 21), (1, .int x1), (3, .int x3), (4, .int x4), (6, .int x6)], [], mk X, σ)
      refine Ex.pick (lv' := _) [0] rfl ?_
      exact lk_X6_planRope_98 d _ h
theorem lk_X6_planRope_64 {pr : Ct} {sc : Nat × (Nat → Int32)} {X : En} (d : Nat) {r : Int32} {σ2 : St} (x1 : Int32) (x2 : Int32) (x3 : Int32) (x4 : Int32) (x5 : Int32) (x6 : Int32) (σ : St) (h : f_X6_planRope_64 x1 x2 x3 x4 x5 x6 σ = some (r, σ2)) : Ex mr_X6_planRope sc (Cl MT pr sc (d + 2)) (rtE (some (.int r)) (mk X) σ2) (64, [(0, .ref 21), (1, .int x1), (2, .int x2), (3, .int x3), (4, .int x4), (5, .int x5), (6, .int x6)], [], mk X, σ) := by
  unfold f_X6_planRope_64 at h
  refine Ex.blk 1000 rfl ?_
  rcases ite_sp h with ⟨c1, h⟩ | ⟨c1, h⟩
  · refine And.intro (fun _ => ?_) (fun hn => absurd c1 hn)
    show Ex mr_X6_planRope sc (Cl MT pr sc (d + 2)) (rtE (some (.int r)) (mk X) σ2) (79, [(0, .ref 21), (1, .int x1), (2, .int x2), (3, .int x3), (4, .int x4), (5, .int x5), (6, .int x6)], [], mk X, σ)
    refine Ex.pick (lv' := _) [0, 1, 3, 4, 6] rfl ?_
    exact lk_X6_planRope_79 d _ _ _ _ _ h
  · refine And.intro (fun hp => absurd hp c1) (fun _ => ?_)
    show Ex mr_X6_planRope sc (Cl MT pr sc (d + 2)) (rtE (some (.int r)) (mk X) σ2) (69, [(0, .ref 21), (1, .int x1), (2, .int x2), (3, .int x3), (4, .int x4), (5, .int x5), (6, .int x6)], [], mk X, σ)
    refine Ex.blk 5 rfl ?_
    show Ex mr_X6_planRope sc (Cl MT pr sc (d + 2)) (rtE (some (.int r)) (mk X) σ2) (76, [(0, .ref 21), (1, .int x1), (2, .int x2), (3, .int x3), (4, .int x4), (5, .int x5), (6, .int x6)], [.int x4, .int x2, .int x5, .int x1, .ref 21], mk X, σ)
    refine Ex.blk 1 rfl ?_
    obtain ⟨p2, hp2, h⟩ := bind_sp h
    refine Exists.intro none (Exists.intro (mk X) (Exists.intro p2 (And.intro (cl_X6_driveFrom (d + 0) hp2) ?_)))
    show Ex mr_X6_planRope sc (Cl MT pr sc (d + 2)) (rtE (some (.int r)) (mk X) σ2) (79, [(0, .ref 21), (1, .int x1), (2, .int x2), (3, .int x3), (4, .int x4), (5, .int x5), (6, .int x6)], [], mk X, p2)
    refine Ex.pick (lv' := _) [0, 1, 3, 4, 6] rfl ?_
    exact lk_X6_planRope_79 d _ _ _ _ _ h
theorem lk_X6_planRope_48 {pr : Ct} {sc : Nat × (Nat → Int32)} {X : En} (d : Nat) {r : Int32} {σ2 : St} (x1 : Int32) (x2 : Int32) (x3 : Int32) (x4 : Int32) (x5 : Int32) (y0 : Int32) (σ : St) (h : f_X6_planRope_48 x1 x2 x3 x4 x5 y0 σ = some (r, σ2)) : Ex mr_X6_planRope sc (Cl MT pr sc (d + 2)) (rtE (some (.int r)) (mk X) σ2) (48, [(0, .ref 21), (1, .int x1), (2, .int x2), (3, .int x3), (4, .int x4), (5, .int x5)], [.int y0], mk X, σ) := by
  unfold f_X6_planRope_48 at h
  refine Ex.blk 1000 rfl ?_
  rcases ite_sp h with ⟨c1, h⟩ | ⟨c1, h⟩
  · refine And.intro (fun _ => ?_) (fun hn => absurd c1 hn)
    show Ex mr_X6_planRope sc (Cl MT pr sc (d + 2)) (rtE (some (.int r)) (mk X) σ2) (64, [(6, .int y0), (0, .ref 21), (1, .int x1), (2, .int x2), (3, .int x3), (4, .int x4), (5, .int x5)], [], mk X, σ)
    refine Ex.pick (lv' := _) [1, 2, 3, 4, 5, 6, 0] rfl ?_
    exact lk_X6_planRope_64 d _ _ _ _ _ _ _ h
  · refine And.intro (fun hp => absurd hp c1) (fun _ => ?_)
    show Ex mr_X6_planRope sc (Cl MT pr sc (d + 2)) (rtE (some (.int r)) (mk X) σ2) (55, [(6, .int y0), (0, .ref 21), (1, .int x1), (2, .int x2), (3, .int x3), (4, .int x4), (5, .int x5)], [], mk X, σ)
    refine Ex.blk 5 rfl ?_
    show Ex mr_X6_planRope sc (Cl MT pr sc (d + 2)) (rtE (some (.int r)) (mk X) σ2) (61, [(6, .int y0), (0, .ref 21), (1, .int x1), (2, .int x2), (3, .int x3), (4, .int x4), (5, .int x5)], [.int x4, .int 1, .int x3, .int x1, .ref 21], mk X, σ)
    refine Ex.blk 1 rfl ?_
    obtain ⟨p3, hp3, h⟩ := bind_sp h
    refine Exists.intro none (Exists.intro (mk X) (Exists.intro p3 (And.intro (cl_X6_driveFrom (d + 0) hp3) ?_)))
    show Ex mr_X6_planRope sc (Cl MT pr sc (d + 2)) (rtE (some (.int r)) (mk X) σ2) (64, [(6, .int y0), (0, .ref 21), (1, .int x1), (2, .int x2), (3, .int x3), (4, .int x4), (5, .int x5)], [], mk X, p3)
    refine Ex.pick (lv' := _) [1, 2, 3, 4, 5, 6, 0] rfl ?_
    exact lk_X6_planRope_64 d _ _ _ _ _ _ _ h
theorem lk_X6_planRope_47 {pr : Ct} {sc : Nat × (Nat → Int32)} {X : En} (d : Nat) {r : Int32} {σ2 : St} (x1 : Int32) (x2 : Int32) (x3 : Int32) (x4 : Int32) (x5 : Int32) (σ : St) (h : f_X6_planRope_47 x1 x2 x3 x4 x5 σ = some (r, σ2)) : Ex mr_X6_planRope sc (Cl MT pr sc (d + 2)) (rtE (some (.int r)) (mk X) σ2) (47, [(0, .ref 21), (1, .int x1), (2, .int x2), (3, .int x3), (4, .int x4), (5, .int x5)], [], mk X, σ) := by
  unfold f_X6_planRope_47 at h
  refine Ex.blk 1000 rfl ?_
  show Ex mr_X6_planRope sc (Cl MT pr sc (d + 2)) (rtE (some (.int r)) (mk X) σ2) (48, [(0, .ref 21), (1, .int x1), (2, .int x2), (3, .int x3), (4, .int x4), (5, .int x5)], [.int 0], mk X, σ)
  exact lk_X6_planRope_48 d _ _ _ _ _ _ _ h
theorem lk_X6_planRope_32 {pr : Ct} {sc : Nat × (Nat → Int32)} {X : En} (d : Nat) {r : Int32} {σ2 : St} (x1 : Int32) (x2 : Int32) (x3 : Int32) (x4 : Int32) (x5 : Int32) (σ : St) (h : f_X6_planRope_32 x1 x2 x3 x4 x5 σ = some (r, σ2)) : Ex mr_X6_planRope sc (Cl MT pr sc (d + 2)) (rtE (some (.int r)) (mk X) σ2) (32, [(0, .ref 21), (1, .int x1), (2, .int x2), (3, .int x3), (4, .int x4), (5, .int x5)], [], mk X, σ) := by
  unfold f_X6_planRope_32 at h
  refine Ex.blk 1000 rfl ?_
  rcases ite_sp h with ⟨c1, h⟩ | ⟨c1, h⟩
  · refine And.intro (fun _ => ?_) (fun hn => absurd c1 hn)
    show Ex mr_X6_planRope sc (Cl MT pr sc (d + 2)) (rtE (some (.int r)) (mk X) σ2) (47, [(0, .ref 21), (1, .int x1), (2, .int x2), (3, .int x3), (4, .int x4), (5, .int x5)], [], mk X, σ)
    exact lk_X6_planRope_47 d _ _ _ _ _ _ h
  · refine And.intro (fun hp => absurd hp c1) (fun _ => ?_)
    show Ex mr_X6_planRope sc (Cl MT pr sc (d + 2)) (rtE (some (.int r)) (mk X) σ2) (37, [(0, .ref 21), (1, .int x1), (2, .int x2), (3, .int x3), (4, .int x4), (5, .int x5)], [], mk X, σ)
    refine Ex.blk 1000 rfl ?_
    rcases ite_sp h with ⟨c2, h⟩ | ⟨c2, h⟩
    · refine And.intro (fun _ => ?_) (fun hn => absurd c2 hn)
      show Ex mr_X6_planRope sc (Cl MT pr sc (d + 2)) (rtE (some (.int r)) (mk X) σ2) (47, [(0, .ref 21), (1, .int x1), (2, .int x2), (3, .int x3), (4, .int x4), (5, .int x5)], [], mk X, σ)
      exact lk_X6_planRope_47 d _ _ _ _ _ _ h
    · refine And.intro (fun hp => absurd hp c2) (fun _ => ?_)
      show Ex mr_X6_planRope sc (Cl MT pr sc (d + 2)) (rtE (some (.int r)) (mk X) σ2) (43, [(0, .ref 21), (1, .int x1), (2, .int x2), (3, .int x3), (4, .int x4), (5, .int x5)], [], mk X, σ)
      refine Ex.blk 1000 rfl ?_
      show Ex mr_X6_planRope sc (Cl MT pr sc (d + 2)) (rtE (some (.int r)) (mk X) σ2) (48, [(0, .ref 21), (1, .int x1), (2, .int x2), (3, .int x3), (4, .int x4), (5, .int x5)], [.int 1], mk X, σ)
      exact lk_X6_planRope_48 d _ _ _ _ _ _ _ h
theorem lk_X6_planRope_19 {pr : Ct} {sc : Nat × (Nat → Int32)} {X : En} (d : Nat) {r : Int32} {σ2 : St} (x1 : Int32) (x2 : Int32) (x3 : Int32) (x4 : Int32) (σ : St) (h : f_X6_planRope_19 x1 x2 x3 x4 σ = some (r, σ2)) : Ex mr_X6_planRope sc (Cl MT pr sc (d + 2)) (rtE (some (.int r)) (mk X) σ2) (19, [(0, .ref 21), (1, .int x1), (2, .int x2), (3, .int x3), (4, .int x4)], [], mk X, σ) := by
  unfold f_X6_planRope_19 at h
  refine Ex.blk 5 rfl ?_
  show Ex mr_X6_planRope sc (Cl MT pr sc (d + 2)) (rtE (some (.int r)) (mk X) σ2) (28, [(0, .ref 21), (1, .int x1), (2, .int x2), (3, .int x3), (4, .int x4)], [.int (gI (sI σ 21 10 (-1)) 21 7)], mk X, (sI σ 21 10 (-1)))
  refine Ex.blk 3 rfl ?_
  show Ex mr_X6_planRope sc (Cl MT pr sc (d + 2)) (rtE (some (.int r)) (mk X) σ2) (32, [(5, .int ((gI (sI σ 21 10 (-1)) 21 7) * x1)), (0, .ref 21), (1, .int x1), (2, .int x2), (3, .int x3), (4, .int x4)], [], mk X, (sI σ 21 10 (-1)))
  refine Ex.pick (lv' := _) [1, 2, 3, 4, 5, 0] rfl ?_
  exact lk_X6_planRope_32 d _ _ _ _ _ _ h
theorem cl_X6_planRope {pr : Ct} {sc : Nat × (Nat → Int32)} {X : En} (d : Nat) {r : Int32} {σ2 : St} {x1 : Int32} {x2 : Int32} {x3 : Int32} {x4 : Int32} {σ : St} (h : f_X6_planRope x1 x2 x3 x4 σ = some (r, σ2)) : Cl MT pr sc (d + 2 + 1) 58 [.ref 21, .int x1, .int x2, .int x3, .int x4] (mk X) σ (some (.int r)) (mk X) σ2 := by
  refine cl_of mr_X6_planRope rfl rfl ?_
  unfold f_X6_planRope at h
  refine Ex.blk 5 rfl ?_
  obtain ⟨g1, h⟩ := gd_some h
  refine And.intro (inb_ok g1) ?_
  show Ex mr_X6_planRope sc (Cl MT pr sc (d + 2)) (rtE (some (.int r)) (mk X) σ2) (7, [(0, .ref 21), (1, .int x1), (2, .int x2), (3, .int x3), (4, .int x4)], [], mk X, (sI σ 25 x1.toNatClampNeg 0))
  refine Ex.blk 5 rfl ?_
  obtain ⟨g2, h⟩ := gd_some h
  refine And.intro (inb_ok g2) ?_
  show Ex mr_X6_planRope sc (Cl MT pr sc (d + 2)) (rtE (some (.int r)) (mk X) σ2) (14, [(0, .ref 21), (1, .int x1), (2, .int x2), (3, .int x3), (4, .int x4)], [], mk X, (sI (sI σ 25 x1.toNatClampNeg 0) 26 x1.toNatClampNeg 0))
  refine Ex.blk 3 rfl ?_
  show Ex mr_X6_planRope sc (Cl MT pr sc (d + 2)) (rtE (some (.int r)) (mk X) σ2) (19, [(0, .ref 21), (1, .int x1), (2, .int x2), (3, .int x3), (4, .int x4)], [], mk X, (sI (sI (sI σ 25 x1.toNatClampNeg 0) 26 x1.toNatClampNeg 0) 21 9 0))
  exact lk_X6_planRope_19 d _ _ _ _ _ h
theorem lk_X6_lastRest_32 {pr : Ct} {sc : Nat × (Nat → Int32)} {X : En} (d : Nat) {r : Int32} {σ2 : St} (x2 : Int32) (σ : St) (h : f_X6_lastRest_32 x2 σ = some (r, σ2)) : Ex mr_X6_lastRest sc (Cl MT pr sc (d + 0)) (rtE (some (.int r)) (mk X) σ2) (32, [(2, .int x2)], [], mk X, σ) := by
  unfold f_X6_lastRest_32 at h
  refine Ex.blk 1000 rfl ?_
  cases h
  exact And.intro trivial ⟨rfl, rfl, rfl⟩
theorem lk_X6_lastRest_26 {pr : Ct} {sc : Nat × (Nat → Int32)} {X : En} (d : Nat) {r : Int32} {σ2 : St} (k4 : Int32 → Int32 → Int32 → St → Option (Int32 × St)) (hk4 : ∀ (x1 : Int32) (x2 : Int32) (x3 : Int32) (σ : St), k4 x1 x2 x3 σ = some (r, σ2) → Ex mr_X6_lastRest sc (Cl MT pr sc (d + 0)) (rtE (some (.int r)) (mk X) σ2) (4, [(0, .ref 21), (1, .int x1), (2, .int x2), (3, .int x3)], [], mk X, σ)) (x1 : Int32) (x2 : Int32) (x3 : Int32) (σ : St) (h : f_X6_lastRest_26 k4 x1 x2 x3 σ = some (r, σ2)) : Ex mr_X6_lastRest sc (Cl MT pr sc (d + 0)) (rtE (some (.int r)) (mk X) σ2) (26, [(0, .ref 21), (1, .int x1), (2, .int x2), (3, .int x3)], [], mk X, σ) := by
  unfold f_X6_lastRest_26 at h
  refine Ex.blk 1000 rfl ?_
  show Ex mr_X6_lastRest sc (Cl MT pr sc (d + 0)) (rtE (some (.int r)) (mk X) σ2) (4, [(3, .int (x3 + 1)), (0, .ref 21), (1, .int x1), (2, .int x2)], [], mk X, σ)
  refine Ex.pick (lv' := _) [1, 2, 3, 0] rfl ?_
  exact hk4 _ _ _ _ h
theorem lk_X6_lastRest_4 {pr : Ct} {sc : Nat × (Nat → Int32)} {X : En} (d : Nat) {r : Int32} {σ2 : St} : ∀ (n : Nat) (x1 : Int32) (x2 : Int32) (x3 : Int32) (σ : St), f_X6_lastRest_4 n x1 x2 x3 σ = some (r, σ2) → Ex mr_X6_lastRest sc (Cl MT pr sc (d + 0)) (rtE (some (.int r)) (mk X) σ2) (4, [(0, .ref 21), (1, .int x1), (2, .int x2), (3, .int x3)], [], mk X, σ) := by
  intro n
  induction n with
  | zero =>
    intro x1 x2 x3 σ h
    cases h
  | succ n ih =>
    intro x1 x2 x3 σ h
    simp only [f_X6_lastRest_4] at h
    refine Ex.blk 1000 rfl ?_
    rcases ite_sp h with ⟨c1, h⟩ | ⟨c1, h⟩
    · refine And.intro (fun _ => ?_) (fun hn => absurd c1 hn)
      show Ex mr_X6_lastRest sc (Cl MT pr sc (d + 0)) (rtE (some (.int r)) (mk X) σ2) (32, [(0, .ref 21), (1, .int x1), (2, .int x2), (3, .int x3)], [], mk X, σ)
      refine Ex.pick (lv' := _) [2] rfl ?_
      exact lk_X6_lastRest_32 d _ _ h
    · refine And.intro (fun hp => absurd hp c1) (fun _ => ?_)
      show Ex mr_X6_lastRest sc (Cl MT pr sc (d + 0)) (rtE (some (.int r)) (mk X) σ2) (9, [(0, .ref 21), (1, .int x1), (2, .int x2), (3, .int x3)], [], mk X, σ)
      refine Ex.blk 1000 rfl ?_
      rcases ite_sp h with ⟨c2, h⟩ | ⟨c2, h⟩
      · refine And.intro (fun _ => ?_) (fun hn => absurd c2 hn)
        show Ex mr_X6_lastRest sc (Cl MT pr sc (d + 0)) (rtE (some (.int r)) (mk X) σ2) (32, [(0, .ref 21), (1, .int x1), (2, .int x2), (3, .int x3)], [], mk X, σ)
        refine Ex.pick (lv' := _) [2] rfl ?_
        exact lk_X6_lastRest_32 d _ _ h
      · refine And.intro (fun hp => absurd hp c2) (fun _ => ?_)
        show Ex mr_X6_lastRest sc (Cl MT pr sc (d + 0)) (rtE (some (.int r)) (mk X) σ2) (15, [(0, .ref 21), (1, .int x1), (2, .int x2), (3, .int x3)], [], mk X, σ)
        refine Ex.blk 5 rfl ?_
        obtain ⟨g3, h⟩ := gd_some h
        refine And.intro (inb_ok g3) ?_
        show Ex mr_X6_lastRest sc (Cl MT pr sc (d + 0)) (rtE (some (.int r)) (mk X) σ2) (22, [(0, .ref 21), (1, .int x1), (2, .int x2), (3, .int x3)], [.int (gI σ 26 x3.toNatClampNeg), .int x2], mk X, σ)
        refine Ex.blk 2 rfl ?_
        show Ex mr_X6_lastRest sc (Cl MT pr sc (d + 0)) (rtE (some (.int r)) (mk X) σ2) (26, [(2, .int (mxI x2 (gI σ 26 x3.toNatClampNeg))), (0, .ref 21), (1, .int x1), (3, .int x3)], [], mk X, σ)
        refine Ex.pick (lv' := _) [1, 2, 0, 3] rfl ?_
        exact lk_X6_lastRest_26 d _ ih _ _ _ _ h
theorem cl_X6_lastRest {pr : Ct} {sc : Nat × (Nat → Int32)} {X : En} (d : Nat) {r : Int32} {σ2 : St} {x1 : Int32} {σ : St} (h : f_X6_lastRest x1 σ = some (r, σ2)) : Cl MT pr sc (d + 0 + 1) 60 [.ref 21, .int x1] (mk X) σ (some (.int r)) (mk X) σ2 := by
  refine cl_of mr_X6_lastRest rfl rfl ?_
  unfold f_X6_lastRest at h
  refine Ex.blk 1000 rfl ?_
  show Ex mr_X6_lastRest sc (Cl MT pr sc (d + 0)) (rtE (some (.int r)) (mk X) σ2) (4, [(3, .int 0), (2, .int 0), (0, .ref 21), (1, .int x1)], [], mk X, σ)
  refine Ex.pick (lv' := _) [2, 3, 1, 0] rfl ?_
  exact lk_X6_lastRest_4 d FU _ _ _ _ h
theorem lk_X6_digitAt_122 {pr : Ct} {sc : Nat × (Nat → Int32)} {X : En} (d : Nat) {r : Int32} {σ2 : St} (x4 : Int32) (σ : St) (h : f_X6_digitAt_122 x4 σ = some (r, σ2)) : Ex mr_X6_digitAt sc (Cl MT pr sc (d + 0)) (rtE (some (.int r)) (mk X) σ2) (122, [(4, .int x4)], [], mk X, σ) := by
  unfold f_X6_digitAt_122 at h
  refine Ex.blk 1000 rfl ?_
  cases h
  exact And.intro trivial ⟨rfl, rfl, rfl⟩
theorem lk_X6_digitAt_116 {pr : Ct} {sc : Nat × (Nat → Int32)} {X : En} (d : Nat) {r : Int32} {σ2 : St} (k6 : Int32 → Int32 → Int32 → Int32 → St → Option (Int32 × St)) (hk6 : ∀ (x1 : Int32) (x3 : Int32) (x4 : Int32) (x5 : Int32) (σ : St), k6 x1 x3 x4 x5 σ = some (r, σ2) → Ex mr_X6_digitAt sc (Cl MT pr sc (d + 0)) (rtE (some (.int r)) (mk X) σ2) (6, [(0, .ref 21), (1, .int x1), (3, .int x3), (4, .int x4), (5, .int x5)], [], mk X, σ)) (x1 : Int32) (x3 : Int32) (x4 : Int32) (x5 : Int32) (σ : St) (h : f_X6_digitAt_116 k6 x1 x3 x4 x5 σ = some (r, σ2)) : Ex mr_X6_digitAt sc (Cl MT pr sc (d + 0)) (rtE (some (.int r)) (mk X) σ2) (116, [(0, .ref 21), (1, .int x1), (3, .int x3), (4, .int x4), (5, .int x5)], [], mk X, σ) := by
  unfold f_X6_digitAt_116 at h
  refine Ex.blk 1000 rfl ?_
  show Ex mr_X6_digitAt sc (Cl MT pr sc (d + 0)) (rtE (some (.int r)) (mk X) σ2) (6, [(5, .int (x5 + 1)), (0, .ref 21), (1, .int x1), (3, .int x3), (4, .int x4)], [], mk X, σ)
  refine Ex.pick (lv' := _) [1, 2, 3, 4, 0] rfl ?_
  exact hk6 _ _ _ _ _ h
theorem lk_X6_digitAt_113 {pr : Ct} {sc : Nat × (Nat → Int32)} {X : En} (d : Nat) {r : Int32} {σ2 : St} (k6 : Int32 → Int32 → Int32 → Int32 → St → Option (Int32 × St)) (hk6 : ∀ (x1 : Int32) (x3 : Int32) (x4 : Int32) (x5 : Int32) (σ : St), k6 x1 x3 x4 x5 σ = some (r, σ2) → Ex mr_X6_digitAt sc (Cl MT pr sc (d + 0)) (rtE (some (.int r)) (mk X) σ2) (6, [(0, .ref 21), (1, .int x1), (3, .int x3), (4, .int x4), (5, .int x5)], [], mk X, σ)) (x1 : Int32) (x3 : Int32) (x5 : Int32) (y0 : Int32) (y1 : Int32) (σ : St) (h : f_X6_digitAt_113 k6 x1 x3 x5 y0 y1 σ = some (r, σ2)) : Ex mr_X6_digitAt sc (Cl MT pr sc (d + 0)) (rtE (some (.int r)) (mk X) σ2) (113, [(0, .ref 21), (1, .int x1), (3, .int x3), (5, .int x5)], [.int y0, .int y1], mk X, σ) := by
  unfold f_X6_digitAt_113 at h
  refine Ex.blk 1000 rfl ?_
  show Ex mr_X6_digitAt sc (Cl MT pr sc (d + 0)) (rtE (some (.int r)) (mk X) σ2) (116, [(4, .int (y1 + y0)), (0, .ref 21), (1, .int x1), (3, .int x3), (5, .int x5)], [], mk X, σ)
  refine Ex.pick (lv' := _) [1, 2, 3, 0, 4] rfl ?_
  exact lk_X6_digitAt_116 d _ hk6 _ _ _ _ _ h
theorem lk_X6_digitAt_81 {pr : Ct} {sc : Nat × (Nat → Int32)} {X : En} (d : Nat) {r : Int32} {σ2 : St} (k6 : Int32 → Int32 → Int32 → Int32 → St → Option (Int32 × St)) (hk6 : ∀ (x1 : Int32) (x3 : Int32) (x4 : Int32) (x5 : Int32) (σ : St), k6 x1 x3 x4 x5 σ = some (r, σ2) → Ex mr_X6_digitAt sc (Cl MT pr sc (d + 0)) (rtE (some (.int r)) (mk X) σ2) (6, [(0, .ref 21), (1, .int x1), (3, .int x3), (4, .int x4), (5, .int x5)], [], mk X, σ)) (x1 : Int32) (x3 : Int32) (x5 : Int32) (x6 : Int32) (x7 : Int32) (σ : St) (h : f_X6_digitAt_81 k6 x1 x3 x5 x6 x7 σ = some (r, σ2)) : Ex mr_X6_digitAt sc (Cl MT pr sc (d + 0)) (rtE (some (.int r)) (mk X) σ2) (81, [(0, .ref 21), (1, .int x1), (3, .int x3), (5, .int x5), (6, .int x6), (7, .int x7)], [], mk X, σ) := by
  unfold f_X6_digitAt_81 at h
  refine Ex.blk 4 rfl ?_
  obtain ⟨g1, h⟩ := gd_some h
  refine And.intro (inb_ok g1) ?_
  show Ex mr_X6_digitAt sc (Cl MT pr sc (d + 0)) (rtE (some (.int r)) (mk X) σ2) (88, [(0, .ref 21), (1, .int x1), (3, .int x3), (5, .int x5), (6, .int x6), (7, .int x7)], [.int (gI σ 23 x6.toNatClampNeg)], mk X, σ)
  refine Ex.blk 4 rfl ?_
  obtain ⟨g2, h⟩ := gd_some h
  refine And.intro (inb_ok g2) ?_
  show Ex mr_X6_digitAt sc (Cl MT pr sc (d + 0)) (rtE (some (.int r)) (mk X) σ2) (95, [(0, .ref 21), (1, .int x1), (3, .int x3), (5, .int x5), (6, .int x6), (7, .int x7)], [.int (gI σ 24 x6.toNatClampNeg), .int (gI σ 23 x6.toNatClampNeg)], mk X, σ)
  refine Ex.blk 4 rfl ?_
  obtain ⟨g3, h⟩ := gd_some h
  refine And.intro (inb_ok g3) ?_
  show Ex mr_X6_digitAt sc (Cl MT pr sc (d + 0)) (rtE (some (.int r)) (mk X) σ2) (102, [(0, .ref 21), (1, .int x1), (3, .int x3), (5, .int x5), (6, .int x6), (7, .int x7)], [.int (gI σ 23 x6.toNatClampNeg), .int (gI σ 24 x6.toNatClampNeg), .int (gI σ 23 x6.toNatClampNeg)], mk X, σ)
  refine Ex.blk 1000 rfl ?_
  rcases ite_sp h with ⟨c4, h⟩ | ⟨c4, h⟩
  · refine And.intro (fun _ => ?_) (fun hn => absurd c4 hn)
    show Ex mr_X6_digitAt sc (Cl MT pr sc (d + 0)) (rtE (some (.int r)) (mk X) σ2) (111, [(0, .ref 21), (1, .int x1), (3, .int x3), (5, .int x5), (6, .int x6), (7, .int x7)], [.int (gI σ 23 x6.toNatClampNeg)], mk X, σ)
    refine Ex.blk 1000 rfl ?_
    show Ex mr_X6_digitAt sc (Cl MT pr sc (d + 0)) (rtE (some (.int r)) (mk X) σ2) (113, [(0, .ref 21), (1, .int x1), (3, .int x3), (5, .int x5), (6, .int x6), (7, .int x7)], [.int x7, .int (gI σ 23 x6.toNatClampNeg)], mk X, σ)
    refine Ex.pick (lv' := _) [0, 1, 2, 3] rfl ?_
    exact lk_X6_digitAt_113 d _ hk6 _ _ _ _ _ _ h
  · refine And.intro (fun hp => absurd hp c4) (fun _ => ?_)
    show Ex mr_X6_digitAt sc (Cl MT pr sc (d + 0)) (rtE (some (.int r)) (mk X) σ2) (105, [(0, .ref 21), (1, .int x1), (3, .int x3), (5, .int x5), (6, .int x6), (7, .int x7)], [.int (gI σ 23 x6.toNatClampNeg)], mk X, σ)
    refine Ex.blk 1000 rfl ?_
    show Ex mr_X6_digitAt sc (Cl MT pr sc (d + 0)) (rtE (some (.int r)) (mk X) σ2) (113, [(0, .ref 21), (1, .int x1), (3, .int x3), (5, .int x5), (6, .int x6), (7, .int x7)], [.int (-x7), .int (gI σ 23 x6.toNatClampNeg)], mk X, σ)
    refine Ex.pick (lv' := _) [0, 1, 2, 3] rfl ?_
    exact lk_X6_digitAt_113 d _ hk6 _ _ _ _ _ _ h
theorem lk_X6_digitAt_31 {pr : Ct} {sc : Nat × (Nat → Int32)} {X : En} (d : Nat) {r : Int32} {σ2 : St} (k6 : Int32 → Int32 → Int32 → Int32 → St → Option (Int32 × St)) (hk6 : ∀ (x1 : Int32) (x3 : Int32) (x4 : Int32) (x5 : Int32) (σ : St), k6 x1 x3 x4 x5 σ = some (r, σ2) → Ex mr_X6_digitAt sc (Cl MT pr sc (d + 0)) (rtE (some (.int r)) (mk X) σ2) (6, [(0, .ref 21), (1, .int x1), (3, .int x3), (4, .int x4), (5, .int x5)], [], mk X, σ)) (x1 : Int32) (x3 : Int32) (x4 : Int32) (x5 : Int32) (x6 : Int32) (σ : St) (h : f_X6_digitAt_31 k6 x1 x3 x4 x5 x6 σ = some (r, σ2)) : Ex mr_X6_digitAt sc (Cl MT pr sc (d + 0)) (rtE (some (.int r)) (mk X) σ2) (31, [(0, .ref 21), (1, .int x1), (3, .int x3), (4, .int x4), (5, .int x5), (6, .int x6)], [], mk X, σ) := by
  unfold f_X6_digitAt_31 at h
  refine Ex.blk 4 rfl ?_
  obtain ⟨g1, h⟩ := gd_some h
  refine And.intro (inb_ok g1) ?_
  show Ex mr_X6_digitAt sc (Cl MT pr sc (d + 0)) (rtE (some (.int r)) (mk X) σ2) (38, [(0, .ref 21), (1, .int x1), (3, .int x3), (4, .int x4), (5, .int x5), (6, .int x6)], [.int (gI σ 22 x6.toNatClampNeg)], mk X, σ)
  refine Ex.blk 1000 rfl ?_
  rcases ite_sp h with ⟨c2, h⟩ | ⟨c2, h⟩
  · refine And.intro (fun _ => ?_) (fun hn => absurd c2 hn)
    show Ex mr_X6_digitAt sc (Cl MT pr sc (d + 0)) (rtE (some (.int r)) (mk X) σ2) (116, [(0, .ref 21), (1, .int x1), (3, .int x3), (4, .int x4), (5, .int x5), (6, .int x6)], [], mk X, σ)
    refine Ex.pick (lv' := _) [0, 1, 2, 3, 4] rfl ?_
    exact lk_X6_digitAt_116 d _ hk6 _ _ _ _ _ h
  · refine And.intro (fun hp => absurd hp c2) (fun _ => ?_)
    show Ex mr_X6_digitAt sc (Cl MT pr sc (d + 0)) (rtE (some (.int r)) (mk X) σ2) (42, [(0, .ref 21), (1, .int x1), (3, .int x3), (4, .int x4), (5, .int x5), (6, .int x6)], [], mk X, σ)
    refine Ex.blk 5 rfl ?_
    obtain ⟨g3, h⟩ := gd_some h
    refine And.intro (inb_ok g3) ?_
    show Ex mr_X6_digitAt sc (Cl MT pr sc (d + 0)) (rtE (some (.int r)) (mk X) σ2) (50, [(0, .ref 21), (1, .int x1), (3, .int x3), (4, .int x4), (5, .int x5), (6, .int x6)], [.int (gI σ 22 x6.toNatClampNeg), .int x3], mk X, σ)
    refine Ex.blk 5 rfl ?_
    show Ex mr_X6_digitAt sc (Cl MT pr sc (d + 0)) (rtE (some (.int r)) (mk X) σ2) (57, [(0, .ref 21), (1, .int x1), (3, .int x3), (4, .int x4), (5, .int x5), (6, .int x6)], [.int (gI σ 21 5), .int ((x3 - (gI σ 22 x6.toNatClampNeg)) + 1)], mk X, σ)
    refine Ex.blk 1 rfl ?_
    obtain ⟨g4, h⟩ := gd_some h
    refine And.intro (nzI_ok g4) ?_
    show Ex mr_X6_digitAt sc (Cl MT pr sc (d + 0)) (rtE (some (.int r)) (mk X) σ2) (58, [(0, .ref 21), (1, .int x1), (3, .int x3), (4, .int x4), (5, .int x5), (6, .int x6)], [.int (((x3 - (gI σ 22 x6.toNatClampNeg)) + 1) / (gI σ 21 5))], mk X, σ)
    refine Ex.blk 4 rfl ?_
    obtain ⟨g5, h⟩ := gd_some h
    refine And.intro (inb_ok g5) ?_
    show Ex mr_X6_digitAt sc (Cl MT pr sc (d + 0)) (rtE (some (.int r)) (mk X) σ2) (65, [(0, .ref 21), (1, .int x1), (3, .int x3), (4, .int x4), (5, .int x5), (6, .int x6)], [.int (gI σ 24 x6.toNatClampNeg), .int (((x3 - (gI σ 22 x6.toNatClampNeg)) + 1) / (gI σ 21 5))], mk X, σ)
    refine Ex.blk 4 rfl ?_
    obtain ⟨g6, h⟩ := gd_some h
    refine And.intro (inb_ok g6) ?_
    show Ex mr_X6_digitAt sc (Cl MT pr sc (d + 0)) (rtE (some (.int r)) (mk X) σ2) (72, [(0, .ref 21), (1, .int x1), (3, .int x3), (4, .int x4), (5, .int x5), (6, .int x6)], [.int (gI σ 23 x6.toNatClampNeg), .int (gI σ 24 x6.toNatClampNeg), .int (((x3 - (gI σ 22 x6.toNatClampNeg)) + 1) / (gI σ 21 5))], mk X, σ)
    refine Ex.blk 4 rfl ?_
    show Ex mr_X6_digitAt sc (Cl MT pr sc (d + 0)) (rtE (some (.int r)) (mk X) σ2) (81, [(7, .int (mnI (((x3 - (gI σ 22 x6.toNatClampNeg)) + 1) / (gI σ 21 5)) (abI ((gI σ 24 x6.toNatClampNeg) - (gI σ 23 x6.toNatClampNeg))))), (0, .ref 21), (1, .int x1), (3, .int x3), (4, .int x4), (5, .int x5), (6, .int x6)], [], mk X, σ)
    refine Ex.pick (lv' := _) [1, 2, 3, 5, 6, 0] rfl ?_
    exact lk_X6_digitAt_81 d _ hk6 _ _ _ _ _ _ h
theorem lk_X6_digitAt_6 {pr : Ct} {sc : Nat × (Nat → Int32)} {X : En} (d : Nat) {r : Int32} {σ2 : St} : ∀ (n : Nat) (x1 : Int32) (x3 : Int32) (x4 : Int32) (x5 : Int32) (σ : St), f_X6_digitAt_6 n x1 x3 x4 x5 σ = some (r, σ2) → Ex mr_X6_digitAt sc (Cl MT pr sc (d + 0)) (rtE (some (.int r)) (mk X) σ2) (6, [(0, .ref 21), (1, .int x1), (3, .int x3), (4, .int x4), (5, .int x5)], [], mk X, σ) := by
  intro n
  induction n with
  | zero =>
    intro x1 x3 x4 x5 σ h
    cases h
  | succ n ih =>
    intro x1 x3 x4 x5 σ h
    simp only [f_X6_digitAt_6] at h
    refine Ex.blk 5 rfl ?_
    obtain ⟨g1, h⟩ := gd_some h
    refine And.intro (inb_ok g1) ?_
    show Ex mr_X6_digitAt sc (Cl MT pr sc (d + 0)) (rtE (some (.int r)) (mk X) σ2) (14, [(0, .ref 21), (1, .int x1), (3, .int x3), (4, .int x4), (5, .int x5)], [.int (gI σ 25 x1.toNatClampNeg), .int x5], mk X, σ)
    refine Ex.blk 1000 rfl ?_
    rcases ite_sp h with ⟨c2, h⟩ | ⟨c2, h⟩
    · refine And.intro (fun _ => ?_) (fun hn => absurd c2 hn)
      show Ex mr_X6_digitAt sc (Cl MT pr sc (d + 0)) (rtE (some (.int r)) (mk X) σ2) (122, [(0, .ref 21), (1, .int x1), (3, .int x3), (4, .int x4), (5, .int x5)], [], mk X, σ)
      refine Ex.pick (lv' := _) [3] rfl ?_
      exact lk_X6_digitAt_122 d _ _ h
    · refine And.intro (fun hp => absurd hp c2) (fun _ => ?_)
      show Ex mr_X6_digitAt sc (Cl MT pr sc (d + 0)) (rtE (some (.int r)) (mk X) σ2) (17, [(0, .ref 21), (1, .int x1), (3, .int x3), (4, .int x4), (5, .int x5)], [], mk X, σ)
      refine Ex.blk 1000 rfl ?_
      rcases ite_sp h with ⟨c3, h⟩ | ⟨c3, h⟩
      · refine And.intro (fun _ => ?_) (fun hn => absurd c3 hn)
        show Ex mr_X6_digitAt sc (Cl MT pr sc (d + 0)) (rtE (some (.int r)) (mk X) σ2) (122, [(0, .ref 21), (1, .int x1), (3, .int x3), (4, .int x4), (5, .int x5)], [], mk X, σ)
        refine Ex.pick (lv' := _) [3] rfl ?_
        exact lk_X6_digitAt_122 d _ _ h
      · refine And.intro (fun hp => absurd hp c3) (fun _ => ?_)
        show Ex mr_X6_digitAt sc (Cl MT pr sc (d + 0)) (rtE (some (.int r)) (mk X) σ2) (23, [(0, .ref 21), (1, .int x1), (3, .int x3), (4, .int x4), (5, .int x5)], [], mk X, σ)
        refine Ex.blk 5 rfl ?_
        show Ex mr_X6_digitAt sc (Cl MT pr sc (d + 0)) (rtE (some (.int r)) (mk X) σ2) (29, [(0, .ref 21), (1, .int x1), (3, .int x3), (4, .int x4), (5, .int x5)], [.int ((2 * x1) + x5)], mk X, σ)
        refine Ex.blk 1 rfl ?_
        show Ex mr_X6_digitAt sc (Cl MT pr sc (d + 0)) (rtE (some (.int r)) (mk X) σ2) (31, [(6, .int ((2 * x1) + x5)), (0, .ref 21), (1, .int x1), (3, .int x3), (4, .int x4), (5, .int x5)], [], mk X, σ)
        refine Ex.pick (lv' := _) [1, 2, 3, 4, 5, 0] rfl ?_
        exact lk_X6_digitAt_31 d _ ih _ _ _ _ _ _ h
theorem cl_X6_digitAt {pr : Ct} {sc : Nat × (Nat → Int32)} {X : En} (d : Nat) {r : Int32} {σ2 : St} {x1 : Int32} {x2 : Int32} {x3 : Int32} {σ : St} (h : f_X6_digitAt x1 x2 x3 σ = some (r, σ2)) : Cl MT pr sc (d + 0 + 1) 61 [.ref 21, .int x1, .int x2, .int x3] (mk X) σ (some (.int r)) (mk X) σ2 := by
  refine cl_of mr_X6_digitAt rfl rfl ?_
  unfold f_X6_digitAt at h
  refine Ex.blk 1000 rfl ?_
  show Ex mr_X6_digitAt sc (Cl MT pr sc (d + 0)) (rtE (some (.int r)) (mk X) σ2) (6, [(5, .int 0), (4, .int x2), (0, .ref 21), (1, .int x1), (2, .int x2), (3, .int x3)], [], mk X, σ)
  refine Ex.pick (lv' := _) [2, 3, 5, 1, 0] rfl ?_
  exact lk_X6_digitAt_6 d FU _ _ _ _ _ h
theorem lk_J9_floorMod_f86c9_25 {pr : Ct} {sc : Nat × (Nat → Int32)} {X : En} (d : Nat) {r : Int64} {σ2 : St} (x4 : Int64) (σ : St) (h : f_J9_floorMod_f86c9_25 x4 σ = some (r, σ2)) : Ex mr_J9_floorMod_f86c9 sc (Cl MT pr sc (d + 0)) (rtE (some (.long r)) (mk X) σ2) (25, [(4, .long x4)], [], mk X, σ) := by
  unfold f_J9_floorMod_f86c9_25 at h
  refine Ex.blk 1000 rfl ?_
  cases h
  exact And.intro trivial ⟨rfl, rfl, rfl⟩
theorem lk_J9_floorMod_f86c9_5 {pr : Ct} {sc : Nat × (Nat → Int32)} {X : En} (d : Nat) {r : Int64} {σ2 : St} (x0 : Int64) (x2 : Int64) (x4 : Int64) (σ : St) (h : f_J9_floorMod_f86c9_5 x0 x2 x4 σ = some (r, σ2)) : Ex mr_J9_floorMod_f86c9 sc (Cl MT pr sc (d + 0)) (rtE (some (.long r)) (mk X) σ2) (5, [(0, .long x0), (2, .long x2), (4, .long x4)], [], mk X, σ) := by
  unfold f_J9_floorMod_f86c9_5 at h
  refine Ex.blk 5 rfl ?_
  show Ex mr_J9_floorMod_f86c9 sc (Cl MT pr sc (d + 0)) (rtE (some (.long r)) (mk X) σ2) (10, [(0, .long x0), (2, .long x2), (4, .long x4)], [.int (lg_cmp (x0 ^^^ x2) 0)], mk X, σ)
  refine Ex.blk 1000 rfl ?_
  rcases ite_sp h with ⟨c1, h⟩ | ⟨c1, h⟩
  · refine And.intro (fun _ => ?_) (fun hn => absurd c1 hn)
    show Ex mr_J9_floorMod_f86c9 sc (Cl MT pr sc (d + 0)) (rtE (some (.long r)) (mk X) σ2) (25, [(0, .long x0), (2, .long x2), (4, .long x4)], [], mk X, σ)
    refine Ex.pick (lv' := _) [2] rfl ?_
    exact lk_J9_floorMod_f86c9_25 d _ _ h
  · refine And.intro (fun hp => absurd hp c1) (fun _ => ?_)
    show Ex mr_J9_floorMod_f86c9 sc (Cl MT pr sc (d + 0)) (rtE (some (.long r)) (mk X) σ2) (13, [(0, .long x0), (2, .long x2), (4, .long x4)], [], mk X, σ)
    refine Ex.blk 1000 rfl ?_
    rcases ite_sp h with ⟨c2, h⟩ | ⟨c2, h⟩
    · refine And.intro (fun _ => ?_) (fun hn => absurd c2 hn)
      show Ex mr_J9_floorMod_f86c9 sc (Cl MT pr sc (d + 0)) (rtE (some (.long r)) (mk X) σ2) (25, [(0, .long x0), (2, .long x2), (4, .long x4)], [], mk X, σ)
      refine Ex.pick (lv' := _) [2] rfl ?_
      exact lk_J9_floorMod_f86c9_25 d _ _ h
    · refine And.intro (fun hp => absurd hp c2) (fun _ => ?_)
      show Ex mr_J9_floorMod_f86c9 sc (Cl MT pr sc (d + 0)) (rtE (some (.long r)) (mk X) σ2) (20, [(0, .long x0), (2, .long x2), (4, .long x4)], [], mk X, σ)
      refine Ex.blk 1000 rfl ?_
      cases h
      exact And.intro trivial ⟨rfl, rfl, rfl⟩
theorem cl_J9_floorMod_f86c9 {pr : Ct} {sc : Nat × (Nat → Int32)} {X : En} (d : Nat) {r : Int64} {σ2 : St} {x0 : Int64} {x2 : Int64} {σ : St} (h : f_J9_floorMod_f86c9 x0 x2 σ = some (r, σ2)) : Cl MT pr sc (d + 0 + 1) 75 [.long x0, .long x2] (mk X) σ (some (.long r)) (mk X) σ2 := by
  refine cl_of mr_J9_floorMod_f86c9 rfl rfl ?_
  unfold f_J9_floorMod_f86c9 at h
  refine Ex.blk 3 rfl ?_
  obtain ⟨g1, h⟩ := gd_some h
  refine And.intro (nzJ_ok g1) ?_
  show Ex mr_J9_floorMod_f86c9 sc (Cl MT pr sc (d + 0)) (rtE (some (.long r)) (mk X) σ2) (3, [(0, .long x0), (2, .long x2)], [.long (rmJ x0 x2)], mk X, σ)
  refine Ex.blk 1 rfl ?_
  show Ex mr_J9_floorMod_f86c9 sc (Cl MT pr sc (d + 0)) (rtE (some (.long r)) (mk X) σ2) (5, [(4, .long (rmJ x0 x2)), (0, .long x0), (2, .long x2)], [], mk X, σ)
  refine Ex.pick (lv' := _) [1, 2, 0] rfl ?_
  exact lk_J9_floorMod_f86c9_5 d _ _ _ _ h
theorem lk_X9_bytesIn_27 {pr : Ct} {sc : Nat × (Nat → Int32)} {X : En} (d : Nat) {r : Int32} {σ2 : St} (k5 : Int32 → Int32 → Int32 → St → Option (Int32 × St)) (hk5 : ∀ (x0 : Int32) (x1 : Int32) (x2 : Int32) (σ : St), k5 x0 x1 x2 σ = some (r, σ2) → Ex mr_X9_bytesIn sc (Cl MT pr sc (d + 0)) (rtE (some (.int r)) (mk X) σ2) (5, [(0, .int x0), (1, .int x1), (2, .int x2)], [], mk X, σ)) (x0 : Int32) (x1 : Int32) (x2 : Int32) (σ : St) (h : f_X9_bytesIn_27 k5 x0 x1 x2 σ = some (r, σ2)) : Ex mr_X9_bytesIn sc (Cl MT pr sc (d + 0)) (rtE (some (.int r)) (mk X) σ2) (27, [(0, .int x0), (1, .int x1), (2, .int x2)], [], mk X, σ) := by
  unfold f_X9_bytesIn_27 at h
  refine Ex.blk 1000 rfl ?_
  show Ex mr_X9_bytesIn sc (Cl MT pr sc (d + 0)) (rtE (some (.int r)) (mk X) σ2) (5, [(2, .int (x2 + (-8))), (0, .int x0), (1, .int x1)], [], mk X, σ)
  refine Ex.pick (lv' := _) [1, 2, 0] rfl ?_
  exact hk5 _ _ _ _ h
theorem lk_X9_bytesIn_25 {pr : Ct} {sc : Nat × (Nat → Int32)} {X : En} (d : Nat) {r : Int32} {σ2 : St} (k5 : Int32 → Int32 → Int32 → St → Option (Int32 × St)) (hk5 : ∀ (x0 : Int32) (x1 : Int32) (x2 : Int32) (σ : St), k5 x0 x1 x2 σ = some (r, σ2) → Ex mr_X9_bytesIn sc (Cl MT pr sc (d + 0)) (rtE (some (.int r)) (mk X) σ2) (5, [(0, .int x0), (1, .int x1), (2, .int x2)], [], mk X, σ)) (x0 : Int32) (x2 : Int32) (y0 : Int32) (y1 : Int32) (σ : St) (h : f_X9_bytesIn_25 k5 x0 x2 y0 y1 σ = some (r, σ2)) : Ex mr_X9_bytesIn sc (Cl MT pr sc (d + 0)) (rtE (some (.int r)) (mk X) σ2) (25, [(0, .int x0), (2, .int x2)], [.int y0, .int y1], mk X, σ) := by
  unfold f_X9_bytesIn_25 at h
  refine Ex.blk 2 rfl ?_
  show Ex mr_X9_bytesIn sc (Cl MT pr sc (d + 0)) (rtE (some (.int r)) (mk X) σ2) (27, [(1, .int (y1 + y0)), (0, .int x0), (2, .int x2)], [], mk X, σ)
  refine Ex.pick (lv' := _) [1, 0, 2] rfl ?_
  exact lk_X9_bytesIn_27 d _ hk5 _ _ _ _ h
theorem lk_X9_bytesIn_5 {pr : Ct} {sc : Nat × (Nat → Int32)} {X : En} (d : Nat) {r : Int32} {σ2 : St} : ∀ (n : Nat) (x0 : Int32) (x1 : Int32) (x2 : Int32) (σ : St), f_X9_bytesIn_5 n x0 x1 x2 σ = some (r, σ2) → Ex mr_X9_bytesIn sc (Cl MT pr sc (d + 0)) (rtE (some (.int r)) (mk X) σ2) (5, [(0, .int x0), (1, .int x1), (2, .int x2)], [], mk X, σ) := by
  intro n
  induction n with
  | zero =>
    intro x0 x1 x2 σ h
    cases h
  | succ n ih =>
    intro x0 x1 x2 σ h
    simp only [f_X9_bytesIn_5] at h
    refine Ex.blk 1000 rfl ?_
    rcases ite_sp h with ⟨c1, h⟩ | ⟨c1, h⟩
    · refine And.intro (fun _ => ?_) (fun hn => absurd c1 hn)
      show Ex mr_X9_bytesIn sc (Cl MT pr sc (d + 0)) (rtE (some (.int r)) (mk X) σ2) (33, [(0, .int x0), (1, .int x1), (2, .int x2)], [], mk X, σ)
      refine Ex.blk 1000 rfl ?_
      cases h
      exact And.intro trivial ⟨rfl, rfl, rfl⟩
    · refine And.intro (fun hp => absurd hp c1) (fun _ => ?_)
      show Ex mr_X9_bytesIn sc (Cl MT pr sc (d + 0)) (rtE (some (.int r)) (mk X) σ2) (9, [(0, .int x0), (1, .int x1), (2, .int x2)], [], mk X, σ)
      refine Ex.blk 5 rfl ?_
      show Ex mr_X9_bytesIn sc (Cl MT pr sc (d + 0)) (rtE (some (.int r)) (mk X) σ2) (16, [(0, .int x0), (1, .int x1), (2, .int x2)], [.int 255, .int (ushI x0 x2), .int x1], mk X, σ)
      refine Ex.blk 1000 rfl ?_
      rcases ite_sp h with ⟨c2, h⟩ | ⟨c2, h⟩
      · refine And.intro (fun _ => ?_) (fun hn => absurd c2 hn)
        show Ex mr_X9_bytesIn sc (Cl MT pr sc (d + 0)) (rtE (some (.int r)) (mk X) σ2) (24, [(0, .int x0), (1, .int x1), (2, .int x2)], [.int x1], mk X, σ)
        refine Ex.blk 1000 rfl ?_
        show Ex mr_X9_bytesIn sc (Cl MT pr sc (d + 0)) (rtE (some (.int r)) (mk X) σ2) (25, [(0, .int x0), (1, .int x1), (2, .int x2)], [.int 0, .int x1], mk X, σ)
        refine Ex.pick (lv' := _) [0, 2] rfl ?_
        exact lk_X9_bytesIn_25 d _ ih _ _ _ _ _ h
      · refine And.intro (fun hp => absurd hp c2) (fun _ => ?_)
        show Ex mr_X9_bytesIn sc (Cl MT pr sc (d + 0)) (rtE (some (.int r)) (mk X) σ2) (20, [(0, .int x0), (1, .int x1), (2, .int x2)], [.int x1], mk X, σ)
        refine Ex.blk 1000 rfl ?_
        show Ex mr_X9_bytesIn sc (Cl MT pr sc (d + 0)) (rtE (some (.int r)) (mk X) σ2) (25, [(0, .int x0), (1, .int x1), (2, .int x2)], [.int 1, .int x1], mk X, σ)
        refine Ex.pick (lv' := _) [0, 2] rfl ?_
        exact lk_X9_bytesIn_25 d _ ih _ _ _ _ _ h
theorem cl_X9_bytesIn {pr : Ct} {sc : Nat × (Nat → Int32)} {X : En} (d : Nat) {r : Int32} {σ2 : St} {x0 : Int32} {σ : St} (h : f_X9_bytesIn x0 σ = some (r, σ2)) : Cl MT pr sc (d + 0 + 1) 82 [.int x0] (mk X) σ (some (.int r)) (mk X) σ2 := by
  refine cl_of mr_X9_bytesIn rfl rfl ?_
  unfold f_X9_bytesIn at h
  refine Ex.blk 1000 rfl ?_
  show Ex mr_X9_bytesIn sc (Cl MT pr sc (d + 0)) (rtE (some (.int r)) (mk X) σ2) (5, [(2, .int 24), (1, .int 0), (0, .int x0)], [], mk X, σ)
  refine Ex.pick (lv' := _) [2, 1, 0] rfl ?_
  exact lk_X9_bytesIn_5 d FU _ _ _ _ h
theorem lk_X9_feed_28 {pr : Ct} {sc : Nat × (Nat → Int32)} {X : En} (d : Nat) {r : Int32} {σ2 : St} (x1 : Int32) (x2 : Int32) (x3 : Int32) (x4 : Int32) (x5 : Int32) (x6 : Int32) (σ : St) (h : f_X9_feed_28 x1 x2 x3 x4 x5 x6 σ = some (r, σ2)) : Ex mr_X9_feed sc (Cl MT pr sc (d + 1)) (rtE (some (.int r)) (mk X) σ2) (28, [(0, .ref 0), (1, .int x1), (2, .int x2), (3, .int x3), (4, .int x4), (5, .int x5), (6, .int x6)], [], mk X, σ) := by
  unfold f_X9_feed_28 at h
  refine Ex.blk 5 rfl ?_
  show Ex mr_X9_feed sc (Cl MT pr sc (d + 1)) (rtE (some (.int r)) (mk X) σ2) (38, [(0, .ref 0), (1, .int x1), (2, .int x2), (3, .int x3), (4, .int x4), (5, .int x5), (6, .int x6)], [.int ((gI σ 11 1) + x6)], mk X, σ)
  refine Ex.blk 1000 rfl ?_
  rcases ite_sp h with ⟨c1, h⟩ | ⟨c1, h⟩
  · refine And.intro (fun _ => ?_) (fun hn => absurd c1 hn)
    show Ex mr_X9_feed sc (Cl MT pr sc (d + 1)) (rtE (some (.int r)) (mk X) σ2) (46, [(0, .ref 0), (1, .int x1), (2, .int x2), (3, .int x3), (4, .int x4), (5, .int x5), (6, .int x6)], [], mk X, σ)
    refine Ex.blk 4 rfl ?_
    obtain ⟨p6, hp6, h⟩ := bind_sp h
    refine Exists.intro none (Exists.intro (mk X) (Exists.intro p6 (And.intro (cl_X5_write (d + 0) hp6) ?_)))
    show Ex mr_X9_feed sc (Cl MT pr sc (d + 1)) (rtE (some (.int r)) (mk X) σ2) (54, [(0, .ref 0), (1, .int x1), (2, .int x2), (3, .int x3), (4, .int x4), (5, .int x5), (6, .int x6)], [], mk X, p6)
    refine Ex.blk 4 rfl ?_
    obtain ⟨p7, hp7, h⟩ := bind_sp h
    refine Exists.intro none (Exists.intro (mk X) (Exists.intro p7 (And.intro (cl_X5_write (d + 0) hp7) ?_)))
    show Ex mr_X9_feed sc (Cl MT pr sc (d + 1)) (rtE (some (.int r)) (mk X) σ2) (62, [(0, .ref 0), (1, .int x1), (2, .int x2), (3, .int x3), (4, .int x4), (5, .int x5), (6, .int x6)], [], mk X, p7)
    refine Ex.blk 4 rfl ?_
    obtain ⟨p8, hp8, h⟩ := bind_sp h
    refine Exists.intro none (Exists.intro (mk X) (Exists.intro p8 (And.intro (cl_X5_write (d + 0) hp8) ?_)))
    show Ex mr_X9_feed sc (Cl MT pr sc (d + 1)) (rtE (some (.int r)) (mk X) σ2) (70, [(0, .ref 0), (1, .int x1), (2, .int x2), (3, .int x3), (4, .int x4), (5, .int x5), (6, .int x6)], [], mk X, p8)
    refine Ex.blk 4 rfl ?_
    obtain ⟨p9, hp9, h⟩ := bind_sp h
    refine Exists.intro none (Exists.intro (mk X) (Exists.intro p9 (And.intro (cl_X5_write (d + 0) hp9) ?_)))
    show Ex mr_X9_feed sc (Cl MT pr sc (d + 1)) (rtE (some (.int r)) (mk X) σ2) (79, [(0, .ref 0), (1, .int x1), (2, .int x2), (3, .int x3), (4, .int x4), (5, .int x5), (6, .int x6)], [], mk X, p9)
    refine Ex.blk 4 rfl ?_
    obtain ⟨p10, hp10, h⟩ := bind_sp h
    refine Exists.intro none (Exists.intro (mk X) (Exists.intro p10 (And.intro (cl_X5_write (d + 0) hp10) ?_)))
    show Ex mr_X9_feed sc (Cl MT pr sc (d + 1)) (rtE (some (.int r)) (mk X) σ2) (88, [(0, .ref 0), (1, .int x1), (2, .int x2), (3, .int x3), (4, .int x4), (5, .int x5), (6, .int x6)], [], mk X, p10)
    refine Ex.blk 1000 rfl ?_
    cases h
    exact And.intro trivial ⟨rfl, rfl, rfl⟩
  · refine And.intro (fun hp => absurd hp c1) (fun _ => ?_)
    show Ex mr_X9_feed sc (Cl MT pr sc (d + 1)) (rtE (some (.int r)) (mk X) σ2) (44, [(0, .ref 0), (1, .int x1), (2, .int x2), (3, .int x3), (4, .int x4), (5, .int x5), (6, .int x6)], [], mk X, σ)
    refine Ex.blk 1000 rfl ?_
    cases h
    exact And.intro trivial ⟨rfl, rfl, rfl⟩
theorem cl_X9_feed {pr : Ct} {sc : Nat × (Nat → Int32)} {X : En} (d : Nat) {r : Int32} {σ2 : St} {x1 : Int32} {x2 : Int32} {x3 : Int32} {x4 : Int32} {x5 : Int32} {σ : St} (h : f_X9_feed x1 x2 x3 x4 x5 σ = some (r, σ2)) : Cl MT pr sc (d + 1 + 1) 83 [.ref 0, .int x1, .int x2, .int x3, .int x4, .int x5] (mk X) σ (some (.int r)) (mk X) σ2 := by
  refine cl_of mr_X9_feed rfl rfl ?_
  unfold f_X9_feed at h
  refine Ex.blk 2 rfl ?_
  obtain ⟨p1, hp1, h⟩ := bind_sp h
  refine Exists.intro (some (.int p1.1)) (Exists.intro (mk X) (Exists.intro p1.2 (And.intro (cl_X9_bytesIn (d + 0) hp1) ?_)))
  show Ex mr_X9_feed sc (Cl MT pr sc (d + 1)) (rtE (some (.int r)) (mk X) σ2) (4, [(0, .ref 0), (1, .int x1), (2, .int x2), (3, .int x3), (4, .int x4), (5, .int x5)], [.int p1.1], mk X, p1.2)
  refine Ex.blk 2 rfl ?_
  obtain ⟨p2, hp2, h⟩ := bind_sp h
  refine Exists.intro (some (.int p2.1)) (Exists.intro (mk X) (Exists.intro p2.2 (And.intro (cl_X9_bytesIn (d + 0) hp2) ?_)))
  show Ex mr_X9_feed sc (Cl MT pr sc (d + 1)) (rtE (some (.int r)) (mk X) σ2) (8, [(0, .ref 0), (1, .int x1), (2, .int x2), (3, .int x3), (4, .int x4), (5, .int x5)], [.int p2.1, .int p1.1], mk X, p2.2)
  refine Ex.blk 3 rfl ?_
  obtain ⟨p3, hp3, h⟩ := bind_sp h
  refine Exists.intro (some (.int p3.1)) (Exists.intro (mk X) (Exists.intro p3.2 (And.intro (cl_X9_bytesIn (d + 0) hp3) ?_)))
  show Ex mr_X9_feed sc (Cl MT pr sc (d + 1)) (rtE (some (.int r)) (mk X) σ2) (13, [(0, .ref 0), (1, .int x1), (2, .int x2), (3, .int x3), (4, .int x4), (5, .int x5)], [.int p3.1, .int (p1.1 + p2.1)], mk X, p3.2)
  refine Ex.blk 3 rfl ?_
  obtain ⟨p4, hp4, h⟩ := bind_sp h
  refine Exists.intro (some (.int p4.1)) (Exists.intro (mk X) (Exists.intro p4.2 (And.intro (cl_X9_bytesIn (d + 0) hp4) ?_)))
  show Ex mr_X9_feed sc (Cl MT pr sc (d + 1)) (rtE (some (.int r)) (mk X) σ2) (19, [(0, .ref 0), (1, .int x1), (2, .int x2), (3, .int x3), (4, .int x4), (5, .int x5)], [.int p4.1, .int ((p1.1 + p2.1) + p3.1)], mk X, p4.2)
  refine Ex.blk 3 rfl ?_
  obtain ⟨p5, hp5, h⟩ := bind_sp h
  refine Exists.intro (some (.int p5.1)) (Exists.intro (mk X) (Exists.intro p5.2 (And.intro (cl_X9_bytesIn (d + 0) hp5) ?_)))
  show Ex mr_X9_feed sc (Cl MT pr sc (d + 1)) (rtE (some (.int r)) (mk X) σ2) (25, [(0, .ref 0), (1, .int x1), (2, .int x2), (3, .int x3), (4, .int x4), (5, .int x5)], [.int p5.1, .int (((p1.1 + p2.1) + p3.1) + p4.1)], mk X, p5.2)
  refine Ex.blk 2 rfl ?_
  show Ex mr_X9_feed sc (Cl MT pr sc (d + 1)) (rtE (some (.int r)) (mk X) σ2) (28, [(6, .int ((((p1.1 + p2.1) + p3.1) + p4.1) + p5.1)), (0, .ref 0), (1, .int x1), (2, .int x2), (3, .int x3), (4, .int x4), (5, .int x5)], [], mk X, p5.2)
  refine Ex.pick (lv' := _) [1, 2, 3, 4, 5, 6, 0] rfl ?_
  exact lk_X9_feed_28 d _ _ _ _ _ _ _ h
theorem lk_X9_end_15 {pr : Ct} {sc : Nat × (Nat → Int32)} {X : En} (d : Nat) {r : Int32} {σ2 : St} (σ : St) (h : f_X9_end_15 σ = some (r, σ2)) : Ex mr_X9_end sc (Cl MT pr sc (d + 0)) (rtE (some (.int r)) (mk X) σ2) (15, [], [], mk X, σ) := by
  unfold f_X9_end_15 at h
  refine Ex.blk 1000 rfl ?_
  cases h
  exact And.intro isb_0 ⟨rfl, rfl, rfl⟩
theorem cl_X9_end {pr : Ct} {sc : Nat × (Nat → Int32)} {X : En} (d : Nat) {r : Int32} {σ2 : St} {x1 : Int32} {σ : St} (h : f_X9_end x1 σ = some (r, σ2)) : Cl MT pr sc (d + 0 + 1) 84 [.ref 0, .int x1] (mk X) σ (some (.int r)) (mk X) σ2 := by
  refine cl_of mr_X9_end rfl rfl ?_
  unfold f_X9_end at h
  refine Ex.blk 1000 rfl ?_
  rcases ite_sp h with ⟨c1, h⟩ | ⟨c1, h⟩
  · refine And.intro (fun _ => ?_) (fun hn => absurd c1 hn)
    show Ex mr_X9_end sc (Cl MT pr sc (d + 0)) (rtE (some (.int r)) (mk X) σ2) (15, [(0, .ref 0), (1, .int x1)], [], mk X, σ)
    refine Ex.pick (lv' := _) [] rfl ?_
    exact lk_X9_end_15 d _ h
  · refine And.intro (fun hp => absurd hp c1) (fun _ => ?_)
    show Ex mr_X9_end sc (Cl MT pr sc (d + 0)) (rtE (some (.int r)) (mk X) σ2) (4, [(0, .ref 0), (1, .int x1)], [], mk X, σ)
    refine Ex.blk 1000 rfl ?_
    rcases ite_sp h with ⟨c2, h⟩ | ⟨c2, h⟩
    · refine And.intro (fun _ => ?_) (fun hn => absurd c2 hn)
      show Ex mr_X9_end sc (Cl MT pr sc (d + 0)) (rtE (some (.int r)) (mk X) σ2) (17, [(0, .ref 0), (1, .int x1)], [], mk X, σ)
      refine Ex.blk 5 rfl ?_
      show Ex mr_X9_end sc (Cl MT pr sc (d + 0)) (rtE (some (.int r)) (mk X) σ2) (26, [(0, .ref 0), (1, .int x1)], [.int 1], mk X, (sI σ 11 1 x1))
      refine Ex.blk 1000 rfl ?_
      cases h
      exact And.intro isb_1 ⟨rfl, rfl, rfl⟩
    · refine And.intro (fun hp => absurd hp c2) (fun _ => ?_)
      show Ex mr_X9_end sc (Cl MT pr sc (d + 0)) (rtE (some (.int r)) (mk X) σ2) (15, [(0, .ref 0), (1, .int x1)], [], mk X, σ)
      refine Ex.pick (lv' := _) [] rfl ?_
      exact lk_X9_end_15 d _ h
theorem lk_X9_set_43 {pr : Ct} {sc : Nat × (Nat → Int32)} {X : En} (d : Nat) {r : Int32} {σ2 : St} (σ : St) (h : f_X9_set_43 σ = some (r, σ2)) : Ex mr_X9_set sc (Cl MT pr sc (d + 0)) (rtE (some (.int r)) (mk X) σ2) (43, [], [], mk X, σ) := by
  unfold f_X9_set_43 at h
  refine Ex.blk 1000 rfl ?_
  cases h
  exact And.intro isb_0 ⟨rfl, rfl, rfl⟩
theorem lk_X9_set_101 {pr : Ct} {sc : Nat × (Nat → Int32)} {X : En} (d : Nat) {r : Int32} {σ2 : St} (σ : St) (h : f_X9_set_101 σ = some (r, σ2)) : Ex mr_X9_set sc (Cl MT pr sc (d + 0)) (rtE (some (.int r)) (mk X) σ2) (101, [], [], mk X, σ) := by
  unfold f_X9_set_101 at h
  refine Ex.blk 1000 rfl ?_
  cases h
  exact And.intro isb_1 ⟨rfl, rfl, rfl⟩
theorem lk_X9_set_21 {pr : Ct} {sc : Nat × (Nat → Int32)} {X : En} (d : Nat) {r : Int32} {σ2 : St} (x1 : Int32) (x2 : Int32) (x3 : Int32) (y0 : Int32) (σ : St) (h : f_X9_set_21 x1 x2 x3 y0 σ = some (r, σ2)) : Ex mr_X9_set sc (Cl MT pr sc (d + 0)) (rtE (some (.int r)) (mk X) σ2) (21, [(0, .ref 0), (1, .int x1), (2, .int x2), (3, .int x3)], [.int y0], mk X, σ) := by
  unfold f_X9_set_21 at h
  refine Ex.blk 1000 rfl ?_
  rcases ite_sp h with ⟨c1, h⟩ | ⟨c1, h⟩
  · refine And.intro (fun _ => ?_) (fun hn => absurd c1 hn)
    show Ex mr_X9_set sc (Cl MT pr sc (d + 0)) (rtE (some (.int r)) (mk X) σ2) (43, [(4, .int y0), (0, .ref 0), (1, .int x1), (2, .int x2), (3, .int x3)], [], mk X, σ)
    refine Ex.pick (lv' := _) [] rfl ?_
    exact lk_X9_set_43 d _ h
  · refine And.intro (fun hp => absurd hp c1) (fun _ => ?_)
    show Ex mr_X9_set sc (Cl MT pr sc (d + 0)) (rtE (some (.int r)) (mk X) σ2) (27, [(4, .int y0), (0, .ref 0), (1, .int x1), (2, .int x2), (3, .int x3)], [], mk X, σ)
    refine Ex.blk 1000 rfl ?_
    rcases ite_sp h with ⟨c2, h⟩ | ⟨c2, h⟩
    · refine And.intro (fun _ => ?_) (fun hn => absurd c2 hn)
      show Ex mr_X9_set sc (Cl MT pr sc (d + 0)) (rtE (some (.int r)) (mk X) σ2) (43, [(4, .int y0), (0, .ref 0), (1, .int x1), (2, .int x2), (3, .int x3)], [], mk X, σ)
      refine Ex.pick (lv' := _) [] rfl ?_
      exact lk_X9_set_43 d _ h
    · refine And.intro (fun hp => absurd hp c2) (fun _ => ?_)
      show Ex mr_X9_set sc (Cl MT pr sc (d + 0)) (rtE (some (.int r)) (mk X) σ2) (32, [(4, .int y0), (0, .ref 0), (1, .int x1), (2, .int x2), (3, .int x3)], [], mk X, σ)
      refine Ex.blk 1000 rfl ?_
      rcases ite_sp h with ⟨c3, h⟩ | ⟨c3, h⟩
      · refine And.intro (fun _ => ?_) (fun hn => absurd c3 hn)
        show Ex mr_X9_set sc (Cl MT pr sc (d + 0)) (rtE (some (.int r)) (mk X) σ2) (43, [(4, .int y0), (0, .ref 0), (1, .int x1), (2, .int x2), (3, .int x3)], [], mk X, σ)
        refine Ex.pick (lv' := _) [] rfl ?_
        exact lk_X9_set_43 d _ h
      · refine And.intro (fun hp => absurd hp c3) (fun _ => ?_)
        show Ex mr_X9_set sc (Cl MT pr sc (d + 0)) (rtE (some (.int r)) (mk X) σ2) (37, [(4, .int y0), (0, .ref 0), (1, .int x1), (2, .int x2), (3, .int x3)], [], mk X, σ)
        refine Ex.blk 1000 rfl ?_
        rcases ite_sp h with ⟨c4, h⟩ | ⟨c4, h⟩
        · refine And.intro (fun _ => ?_) (fun hn => absurd c4 hn)
          show Ex mr_X9_set sc (Cl MT pr sc (d + 0)) (rtE (some (.int r)) (mk X) σ2) (45, [(4, .int y0), (0, .ref 0), (1, .int x1), (2, .int x2), (3, .int x3)], [], mk X, σ)
          refine Ex.blk 1000 rfl ?_
          rcases ite_sp h with ⟨c5, h⟩ | ⟨c5, h⟩
          · refine And.intro (fun _ => ?_) (fun hn => absurd (c5.trans (by decide)) hn)
            show Ex mr_X9_set sc (Cl MT pr sc (d + 0)) (rtE (some (.int r)) (mk X) σ2) (72, [(4, .int y0), (0, .ref 0), (1, .int x1), (2, .int x2), (3, .int x3)], [], mk X, σ)
            refine Ex.blk 1000 rfl ?_
            show Ex mr_X9_set sc (Cl MT pr sc (d + 0)) (rtE (some (.int r)) (mk X) σ2) (101, [(4, .int y0), (0, .ref 0), (1, .int x1), (2, .int x2), (3, .int x3)], [], mk X, (sI σ 0 14 x2))
            refine Ex.pick (lv' := _) [] rfl ?_
            exact lk_X9_set_101 d _ h
          refine And.intro (fun hp => absurd (hp.trans (by decide)) c5) (fun _ => ?_)
          rcases ite_sp h with ⟨c6, h⟩ | ⟨c6, h⟩
          · refine And.intro (fun _ => ?_) (fun hn => absurd (c6.trans (by decide)) hn)
            show Ex mr_X9_set sc (Cl MT pr sc (d + 0)) (rtE (some (.int r)) (mk X) σ2) (80, [(4, .int y0), (0, .ref 0), (1, .int x1), (2, .int x2), (3, .int x3)], [], mk X, σ)
            refine Ex.blk 1000 rfl ?_
            show Ex mr_X9_set sc (Cl MT pr sc (d + 0)) (rtE (some (.int r)) (mk X) σ2) (101, [(4, .int y0), (0, .ref 0), (1, .int x1), (2, .int x2), (3, .int x3)], [], mk X, (sI σ 0 15 x2))
            refine Ex.pick (lv' := _) [] rfl ?_
            exact lk_X9_set_101 d _ h
          refine And.intro (fun hp => absurd (hp.trans (by decide)) c6) (fun _ => ?_)
          rcases ite_sp h with ⟨c7, h⟩ | ⟨c7, h⟩
          · refine And.intro (fun _ => ?_) (fun hn => absurd (c7.trans (by decide)) hn)
            show Ex mr_X9_set sc (Cl MT pr sc (d + 0)) (rtE (some (.int r)) (mk X) σ2) (88, [(4, .int y0), (0, .ref 0), (1, .int x1), (2, .int x2), (3, .int x3)], [], mk X, σ)
            refine Ex.blk 1000 rfl ?_
            show Ex mr_X9_set sc (Cl MT pr sc (d + 0)) (rtE (some (.int r)) (mk X) σ2) (101, [(4, .int y0), (0, .ref 0), (1, .int x1), (2, .int x2), (3, .int x3)], [], mk X, (sI σ 0 16 x2))
            refine Ex.pick (lv' := _) [] rfl ?_
            exact lk_X9_set_101 d _ h
          refine And.intro (fun hp => absurd (hp.trans (by decide)) c7) (fun _ => ?_)
          show Ex mr_X9_set sc (Cl MT pr sc (d + 0)) (rtE (some (.int r)) (mk X) σ2) (96, [(4, .int y0), (0, .ref 0), (1, .int x1), (2, .int x2), (3, .int x3)], [], mk X, σ)
          refine Ex.blk 1000 rfl ?_
          show Ex mr_X9_set sc (Cl MT pr sc (d + 0)) (rtE (some (.int r)) (mk X) σ2) (101, [(4, .int y0), (0, .ref 0), (1, .int x1), (2, .int x2), (3, .int x3)], [], mk X, (sI σ 0 17 x2))
          refine Ex.pick (lv' := _) [] rfl ?_
          exact lk_X9_set_101 d _ h
        · refine And.intro (fun hp => absurd hp c4) (fun _ => ?_)
          show Ex mr_X9_set sc (Cl MT pr sc (d + 0)) (rtE (some (.int r)) (mk X) σ2) (43, [(4, .int y0), (0, .ref 0), (1, .int x1), (2, .int x2), (3, .int x3)], [], mk X, σ)
          refine Ex.pick (lv' := _) [] rfl ?_
          exact lk_X9_set_43 d _ h
theorem lk_X9_set_10 {pr : Ct} {sc : Nat × (Nat → Int32)} {X : En} (d : Nat) {r : Int32} {σ2 : St} (x1 : Int32) (x2 : Int32) (y0 : Int32) (σ : St) (h : f_X9_set_10 x1 x2 y0 σ = some (r, σ2)) : Ex mr_X9_set sc (Cl MT pr sc (d + 0)) (rtE (some (.int r)) (mk X) σ2) (10, [(0, .ref 0), (1, .int x1), (2, .int x2)], [.int y0], mk X, σ) := by
  unfold f_X9_set_10 at h
  refine Ex.blk 1000 rfl ?_
  rcases ite_sp h with ⟨c1, h⟩ | ⟨c1, h⟩
  · refine And.intro (fun hp => absurd c1 hp) (fun _ => ?_)
    show Ex mr_X9_set sc (Cl MT pr sc (d + 0)) (rtE (some (.int r)) (mk X) σ2) (15, [(3, .int y0), (0, .ref 0), (1, .int x1), (2, .int x2)], [], mk X, σ)
    refine Ex.blk 1000 rfl ?_
    show Ex mr_X9_set sc (Cl MT pr sc (d + 0)) (rtE (some (.int r)) (mk X) σ2) (21, [(3, .int y0), (0, .ref 0), (1, .int x1), (2, .int x2)], [.int 1], mk X, σ)
    refine Ex.pick (lv' := _) [1, 2, 3, 0] rfl ?_
    exact lk_X9_set_21 d _ _ _ _ _ h
  · refine And.intro (fun _ => ?_) (fun hn => absurd c1 hn)
    show Ex mr_X9_set sc (Cl MT pr sc (d + 0)) (rtE (some (.int r)) (mk X) σ2) (19, [(3, .int y0), (0, .ref 0), (1, .int x1), (2, .int x2)], [], mk X, σ)
    refine Ex.blk 1000 rfl ?_
    show Ex mr_X9_set sc (Cl MT pr sc (d + 0)) (rtE (some (.int r)) (mk X) σ2) (21, [(3, .int y0), (0, .ref 0), (1, .int x1), (2, .int x2)], [.int 9], mk X, σ)
    refine Ex.pick (lv' := _) [1, 2, 3, 0] rfl ?_
    exact lk_X9_set_21 d _ _ _ _ _ h
theorem cl_X9_set {pr : Ct} {sc : Nat × (Nat → Int32)} {X : En} (d : Nat) {r : Int32} {σ2 : St} {x1 : Int32} {x2 : Int32} {σ : St} (h : f_X9_set x1 x2 σ = some (r, σ2)) : Cl MT pr sc (d + 0 + 1) 87 [.ref 0, .int x1, .int x2] (mk X) σ (some (.int r)) (mk X) σ2 := by
  refine cl_of mr_X9_set rfl rfl ?_
  unfold f_X9_set at h
  refine Ex.blk 1000 rfl ?_
  rcases ite_sp h with ⟨c1, h⟩ | ⟨c1, h⟩
  · refine And.intro (fun hp => absurd c1 hp) (fun _ => ?_)
    show Ex mr_X9_set sc (Cl MT pr sc (d + 0)) (rtE (some (.int r)) (mk X) σ2) (5, [(0, .ref 0), (1, .int x1), (2, .int x2)], [], mk X, σ)
    refine Ex.blk 1000 rfl ?_
    show Ex mr_X9_set sc (Cl MT pr sc (d + 0)) (rtE (some (.int r)) (mk X) σ2) (10, [(0, .ref 0), (1, .int x1), (2, .int x2)], [.int 1], mk X, σ)
    exact lk_X9_set_10 d _ _ _ _ h
  · refine And.intro (fun _ => ?_) (fun hn => absurd c1 hn)
    show Ex mr_X9_set sc (Cl MT pr sc (d + 0)) (rtE (some (.int r)) (mk X) σ2) (9, [(0, .ref 0), (1, .int x1), (2, .int x2)], [], mk X, σ)
    refine Ex.blk 1000 rfl ?_
    show Ex mr_X9_set sc (Cl MT pr sc (d + 0)) (rtE (some (.int r)) (mk X) σ2) (10, [(0, .ref 0), (1, .int x1), (2, .int x2)], [.int 0], mk X, σ)
    exact lk_X9_set_10 d _ _ _ _ h
theorem lk_X9_isRope_20 {pr : Ct} {sc : Nat × (Nat → Int32)} {X : En} (d : Nat) {r : Int32} {σ2 : St} (y0 : Int32) (σ : St) (h : f_X9_isRope_20 y0 σ = some (r, σ2)) : Ex mr_X9_isRope sc (Cl MT pr sc (d + 0)) (rtE (some (.int r)) (mk X) σ2) (20, [], [.int y0], mk X, σ) := by
  unfold f_X9_isRope_20 at h
  refine Ex.blk 1000 rfl ?_
  obtain ⟨g1, h⟩ := gd_some h
  cases h
  exact And.intro (isbb_ok g1) ⟨rfl, rfl, rfl⟩
theorem lk_X9_isRope_19 {pr : Ct} {sc : Nat × (Nat → Int32)} {X : En} (d : Nat) {r : Int32} {σ2 : St} (σ : St) (h : f_X9_isRope_19 σ = some (r, σ2)) : Ex mr_X9_isRope sc (Cl MT pr sc (d + 0)) (rtE (some (.int r)) (mk X) σ2) (19, [], [], mk X, σ) := by
  unfold f_X9_isRope_19 at h
  refine Ex.blk 1000 rfl ?_
  show Ex mr_X9_isRope sc (Cl MT pr sc (d + 0)) (rtE (some (.int r)) (mk X) σ2) (20, [], [.int 0], mk X, σ)
  exact lk_X9_isRope_20 d _ _ h
theorem cl_X9_isRope {pr : Ct} {sc : Nat × (Nat → Int32)} {X : En} (d : Nat) {r : Int32} {σ2 : St} {x1 : Int32} {σ : St} (h : f_X9_isRope x1 σ = some (r, σ2)) : Cl MT pr sc (d + 0 + 1) 88 [.ref 0, .int x1] (mk X) σ (some (.int r)) (mk X) σ2 := by
  refine cl_of mr_X9_isRope rfl rfl ?_
  unfold f_X9_isRope at h
  refine Ex.blk 1000 rfl ?_
  rcases ite_sp h with ⟨c1, h⟩ | ⟨c1, h⟩
  · refine And.intro (fun _ => ?_) (fun hn => absurd c1 hn)
    show Ex mr_X9_isRope sc (Cl MT pr sc (d + 0)) (rtE (some (.int r)) (mk X) σ2) (19, [(0, .ref 0), (1, .int x1)], [], mk X, σ)
    refine Ex.pick (lv' := _) [] rfl ?_
    exact lk_X9_isRope_19 d _ h
  · refine And.intro (fun hp => absurd hp c1) (fun _ => ?_)
    show Ex mr_X9_isRope sc (Cl MT pr sc (d + 0)) (rtE (some (.int r)) (mk X) σ2) (4, [(0, .ref 0), (1, .int x1)], [], mk X, σ)
    refine Ex.blk 1000 rfl ?_
    rcases ite_sp h with ⟨c2, h⟩ | ⟨c2, h⟩
    · refine And.intro (fun _ => ?_) (fun hn => absurd c2 hn)
      show Ex mr_X9_isRope sc (Cl MT pr sc (d + 0)) (rtE (some (.int r)) (mk X) σ2) (19, [(0, .ref 0), (1, .int x1)], [], mk X, σ)
      refine Ex.pick (lv' := _) [] rfl ?_
      exact lk_X9_isRope_19 d _ h
    · refine And.intro (fun hp => absurd hp c2) (fun _ => ?_)
      show Ex mr_X9_isRope sc (Cl MT pr sc (d + 0)) (rtE (some (.int r)) (mk X) σ2) (15, [(0, .ref 0), (1, .int x1)], [], mk X, σ)
      refine Ex.blk 1000 rfl ?_
      show Ex mr_X9_isRope sc (Cl MT pr sc (d + 0)) (rtE (some (.int r)) (mk X) σ2) (20, [(0, .ref 0), (1, .int x1)], [.int 1], mk X, σ)
      refine Ex.pick (lv' := _) [] rfl ?_
      exact lk_X9_isRope_20 d _ _ h
theorem lk_X9_goats_31 {pr : Ct} {sc : Nat × (Nat → Int32)} {X : En} (d : Nat) {r : Int32} {σ2 : St} (σ : St) (h : f_X9_goats_31 σ = some (r, σ2)) : Ex mr_X9_goats sc (Cl MT pr sc (d + 1)) (rtE (some (.int r)) (mk X) σ2) (31, [], [], mk X, σ) := by
  unfold f_X9_goats_31 at h
  refine Ex.blk 1000 rfl ?_
  cases h
  exact And.intro isb_0 ⟨rfl, rfl, rfl⟩
theorem cl_X9_goats {pr : Ct} {sc : Nat × (Nat → Int32)} {X : En} (d : Nat) {r : Int32} {σ2 : St} {x1 : Int32} {x2 : Int32} {σ : St} (h : f_X9_goats x1 x2 σ = some (r, σ2)) : Cl MT pr sc (d + 1 + 1) 89 [.ref 0, .int x1, .int x2] (mk X) σ (some (.int r)) (mk X) σ2 := by
  refine cl_of mr_X9_goats rfl rfl ?_
  unfold f_X9_goats at h
  refine Ex.blk 3 rfl ?_
  obtain ⟨p1, hp1, h⟩ := bind_sp h
  refine Exists.intro (some (.int p1.1)) (Exists.intro (mk X) (Exists.intro p1.2 (And.intro (cl_X9_isRope (d + 0) hp1) ?_)))
  show Ex mr_X9_goats sc (Cl MT pr sc (d + 1)) (rtE (some (.int r)) (mk X) σ2) (5, [(0, .ref 0), (1, .int x1), (2, .int x2)], [.int p1.1], mk X, p1.2)
  refine Ex.blk 1000 rfl ?_
  rcases ite_sp h with ⟨c1, h⟩ | ⟨c1, h⟩
  · refine And.intro (fun _ => ?_) (fun hn => absurd c1 hn)
    show Ex mr_X9_goats sc (Cl MT pr sc (d + 1)) (rtE (some (.int r)) (mk X) σ2) (31, [(0, .ref 0), (1, .int x1), (2, .int x2)], [], mk X, p1.2)
    refine Ex.pick (lv' := _) [] rfl ?_
    exact lk_X9_goats_31 d _ h
  · refine And.intro (fun hp => absurd hp c1) (fun _ => ?_)
    show Ex mr_X9_goats sc (Cl MT pr sc (d + 1)) (rtE (some (.int r)) (mk X) σ2) (8, [(0, .ref 0), (1, .int x1), (2, .int x2)], [], mk X, p1.2)
    refine Ex.blk 1000 rfl ?_
    rcases ite_sp h with ⟨c2, h⟩ | ⟨c2, h⟩
    · refine And.intro (fun _ => ?_) (fun hn => absurd c2 hn)
      show Ex mr_X9_goats sc (Cl MT pr sc (d + 1)) (rtE (some (.int r)) (mk X) σ2) (31, [(0, .ref 0), (1, .int x1), (2, .int x2)], [], mk X, p1.2)
      refine Ex.pick (lv' := _) [] rfl ?_
      exact lk_X9_goats_31 d _ h
    · refine And.intro (fun hp => absurd hp c2) (fun _ => ?_)
      show Ex mr_X9_goats sc (Cl MT pr sc (d + 1)) (rtE (some (.int r)) (mk X) σ2) (12, [(0, .ref 0), (1, .int x1), (2, .int x2)], [], mk X, p1.2)
      refine Ex.blk 1000 rfl ?_
      rcases ite_sp h with ⟨c3, h⟩ | ⟨c3, h⟩
      · refine And.intro (fun _ => ?_) (fun hn => absurd c3 hn)
        show Ex mr_X9_goats sc (Cl MT pr sc (d + 1)) (rtE (some (.int r)) (mk X) σ2) (31, [(0, .ref 0), (1, .int x1), (2, .int x2)], [], mk X, p1.2)
        refine Ex.pick (lv' := _) [] rfl ?_
        exact lk_X9_goats_31 d _ h
      · refine And.intro (fun hp => absurd hp c3) (fun _ => ?_)
        show Ex mr_X9_goats sc (Cl MT pr sc (d + 1)) (rtE (some (.int r)) (mk X) σ2) (18, [(0, .ref 0), (1, .int x1), (2, .int x2)], [], mk X, p1.2)
        refine Ex.blk 5 rfl ?_
        show Ex mr_X9_goats sc (Cl MT pr sc (d + 1)) (rtE (some (.int r)) (mk X) σ2) (27, [(0, .ref 0), (1, .int x1), (2, .int x2)], [.int x1, .ref 2, .int x2], mk X, p1.2)
        refine Ex.blk 1 rfl ?_
        obtain ⟨g4, h⟩ := gd_some h
        refine And.intro (inb_ok g4) ?_
        show Ex mr_X9_goats sc (Cl MT pr sc (d + 1)) (rtE (some (.int r)) (mk X) σ2) (28, [(0, .ref 0), (1, .int x1), (2, .int x2)], [.int (gI p1.2 2 x1.toNatClampNeg), .int x2], mk X, p1.2)
        refine Ex.blk 1000 rfl ?_
        rcases ite_sp h with ⟨c5, h⟩ | ⟨c5, h⟩
        · refine And.intro (fun _ => ?_) (fun hn => absurd c5 hn)
          show Ex mr_X9_goats sc (Cl MT pr sc (d + 1)) (rtE (some (.int r)) (mk X) σ2) (33, [(0, .ref 0), (1, .int x1), (2, .int x2)], [], mk X, p1.2)
          refine Ex.blk 5 rfl ?_
          show Ex mr_X9_goats sc (Cl MT pr sc (d + 1)) (rtE (some (.int r)) (mk X) σ2) (42, [(0, .ref 0), (1, .int x1), (2, .int x2)], [.int x2, .int x1, .ref 3], mk X, p1.2)
          refine Ex.blk 1 rfl ?_
          obtain ⟨g6, h⟩ := gd_some h
          refine And.intro (inb_ok g6) ?_
          show Ex mr_X9_goats sc (Cl MT pr sc (d + 1)) (rtE (some (.int r)) (mk X) σ2) (43, [(0, .ref 0), (1, .int x1), (2, .int x2)], [], mk X, (sI p1.2 3 x1.toNatClampNeg x2))
          refine Ex.blk 1000 rfl ?_
          cases h
          exact And.intro isb_1 ⟨rfl, rfl, rfl⟩
        · refine And.intro (fun hp => absurd hp c5) (fun _ => ?_)
          show Ex mr_X9_goats sc (Cl MT pr sc (d + 1)) (rtE (some (.int r)) (mk X) σ2) (31, [(0, .ref 0), (1, .int x1), (2, .int x2)], [], mk X, p1.2)
          refine Ex.pick (lv' := _) [] rfl ?_
          exact lk_X9_goats_31 d _ h
theorem lk_X9_echo_29 {pr : Ct} {sc : Nat × (Nat → Int32)} {X : En} (d : Nat) {r : Int32} {σ2 : St} (σ : St) (h : f_X9_echo_29 σ = some (r, σ2)) : Ex mr_X9_echo sc (Cl MT pr sc (d + 1)) (rtE (some (.int r)) (mk X) σ2) (29, [], [], mk X, σ) := by
  unfold f_X9_echo_29 at h
  refine Ex.blk 1000 rfl ?_
  cases h
  exact And.intro isb_0 ⟨rfl, rfl, rfl⟩
theorem cl_X9_echo {pr : Ct} {sc : Nat × (Nat → Int32)} {X : En} (d : Nat) {r : Int32} {σ2 : St} {x1 : Int32} {x2 : Int32} {x3 : Int32} {σ : St} (h : f_X9_echo x1 x2 x3 σ = some (r, σ2)) : Cl MT pr sc (d + 1 + 1) 90 [.ref 0, .int x1, .int x2, .int x3] (mk X) σ (some (.int r)) (mk X) σ2 := by
  refine cl_of mr_X9_echo rfl rfl ?_
  unfold f_X9_echo at h
  refine Ex.blk 2 rfl ?_
  obtain ⟨p1, hp1, h⟩ := bind_sp h
  refine Exists.intro (some (.int p1.1)) (Exists.intro (mk X) (Exists.intro p1.2 (And.intro (cl_X9_isDigit (d + 0) hp1) ?_)))
  show Ex mr_X9_echo sc (Cl MT pr sc (d + 1)) (rtE (some (.int r)) (mk X) σ2) (4, [(0, .ref 0), (1, .int x1), (2, .int x2), (3, .int x3)], [.int p1.1], mk X, p1.2)
  refine Ex.blk 1000 rfl ?_
  rcases ite_sp h with ⟨c1, h⟩ | ⟨c1, h⟩
  · refine And.intro (fun _ => ?_) (fun hn => absurd c1 hn)
    show Ex mr_X9_echo sc (Cl MT pr sc (d + 1)) (rtE (some (.int r)) (mk X) σ2) (29, [(0, .ref 0), (1, .int x1), (2, .int x2), (3, .int x3)], [], mk X, p1.2)
    refine Ex.pick (lv' := _) [] rfl ?_
    exact lk_X9_echo_29 d _ h
  · refine And.intro (fun hp => absurd hp c1) (fun _ => ?_)
    show Ex mr_X9_echo sc (Cl MT pr sc (d + 1)) (rtE (some (.int r)) (mk X) σ2) (7, [(0, .ref 0), (1, .int x1), (2, .int x2), (3, .int x3)], [], mk X, p1.2)
    refine Ex.blk 2 rfl ?_
    obtain ⟨p2, hp2, h⟩ := bind_sp h
    refine Exists.intro (some (.int p2.1)) (Exists.intro (mk X) (Exists.intro p2.2 (And.intro (cl_X9_isDigit (d + 0) hp2) ?_)))
    show Ex mr_X9_echo sc (Cl MT pr sc (d + 1)) (rtE (some (.int r)) (mk X) σ2) (11, [(0, .ref 0), (1, .int x1), (2, .int x2), (3, .int x3)], [.int p2.1], mk X, p2.2)
    refine Ex.blk 1000 rfl ?_
    rcases ite_sp h with ⟨c2, h⟩ | ⟨c2, h⟩
    · refine And.intro (fun _ => ?_) (fun hn => absurd c2 hn)
      show Ex mr_X9_echo sc (Cl MT pr sc (d + 1)) (rtE (some (.int r)) (mk X) σ2) (29, [(0, .ref 0), (1, .int x1), (2, .int x2), (3, .int x3)], [], mk X, p2.2)
      refine Ex.pick (lv' := _) [] rfl ?_
      exact lk_X9_echo_29 d _ h
    · refine And.intro (fun hp => absurd hp c2) (fun _ => ?_)
      show Ex mr_X9_echo sc (Cl MT pr sc (d + 1)) (rtE (some (.int r)) (mk X) σ2) (14, [(0, .ref 0), (1, .int x1), (2, .int x2), (3, .int x3)], [], mk X, p2.2)
      refine Ex.blk 1000 rfl ?_
      rcases ite_sp h with ⟨c3, h⟩ | ⟨c3, h⟩
      · refine And.intro (fun _ => ?_) (fun hn => absurd c3 hn)
        show Ex mr_X9_echo sc (Cl MT pr sc (d + 1)) (rtE (some (.int r)) (mk X) σ2) (29, [(0, .ref 0), (1, .int x1), (2, .int x2), (3, .int x3)], [], mk X, p2.2)
        refine Ex.pick (lv' := _) [] rfl ?_
        exact lk_X9_echo_29 d _ h
      · refine And.intro (fun hp => absurd hp c3) (fun _ => ?_)
        show Ex mr_X9_echo sc (Cl MT pr sc (d + 1)) (rtE (some (.int r)) (mk X) σ2) (19, [(0, .ref 0), (1, .int x1), (2, .int x2), (3, .int x3)], [], mk X, p2.2)
        refine Ex.blk 1000 rfl ?_
        rcases ite_sp h with ⟨c4, h⟩ | ⟨c4, h⟩
        · refine And.intro (fun _ => ?_) (fun hn => absurd c4 hn)
          show Ex mr_X9_echo sc (Cl MT pr sc (d + 1)) (rtE (some (.int r)) (mk X) σ2) (29, [(0, .ref 0), (1, .int x1), (2, .int x2), (3, .int x3)], [], mk X, p2.2)
          refine Ex.pick (lv' := _) [] rfl ?_
          exact lk_X9_echo_29 d _ h
        · refine And.intro (fun hp => absurd hp c4) (fun _ => ?_)
          show Ex mr_X9_echo sc (Cl MT pr sc (d + 1)) (rtE (some (.int r)) (mk X) σ2) (23, [(0, .ref 0), (1, .int x1), (2, .int x2), (3, .int x3)], [], mk X, p2.2)
          refine Ex.blk 1000 rfl ?_
          rcases ite_sp h with ⟨c5, h⟩ | ⟨c5, h⟩
          · refine And.intro (fun _ => ?_) (fun hn => absurd c5 hn)
            show Ex mr_X9_echo sc (Cl MT pr sc (d + 1)) (rtE (some (.int r)) (mk X) σ2) (31, [(0, .ref 0), (1, .int x1), (2, .int x2), (3, .int x3)], [], mk X, p2.2)
            refine Ex.blk 5 rfl ?_
            show Ex mr_X9_echo sc (Cl MT pr sc (d + 1)) (rtE (some (.int r)) (mk X) σ2) (38, [(0, .ref 0), (1, .int x1), (2, .int x2), (3, .int x3)], [.int x3, .int x2, .int x1, .ref 15], mk X, p2.2)
            refine Ex.blk 1 rfl ?_
            obtain ⟨p3, hp3, h⟩ := bind_sp h
            refine Exists.intro (some (.int p3.1)) (Exists.intro (mk X) (Exists.intro p3.2 (And.intro (cl_X1_learn (d + 0) hp3) ?_)))
            show Ex mr_X9_echo sc (Cl MT pr sc (d + 1)) (rtE (some (.int r)) (mk X) σ2) (41, [(0, .ref 0), (1, .int x1), (2, .int x2), (3, .int x3)], [.int p3.1], mk X, p3.2)
            refine Ex.blk 1000 rfl ?_
            obtain ⟨g6, h⟩ := gd_some h
            cases h
            exact And.intro (isbb_ok g6) ⟨rfl, rfl, rfl⟩
          · refine And.intro (fun hp => absurd hp c5) (fun _ => ?_)
            show Ex mr_X9_echo sc (Cl MT pr sc (d + 1)) (rtE (some (.int r)) (mk X) σ2) (29, [(0, .ref 0), (1, .int x1), (2, .int x2), (3, .int x3)], [], mk X, p2.2)
            refine Ex.pick (lv' := _) [] rfl ?_
            exact lk_X9_echo_29 d _ h
theorem cl_X9_wind {pr : Ct} {sc : Nat × (Nat → Int32)} {X : En} (d : Nat) {σ2 : St} {x1 : Int64} {σ : St} (h : f_X9_wind x1 σ = some σ2) : Cl MT pr sc (d + 0 + 1) 91 [.ref 0, .long x1] (mk X) σ none (mk X) σ2 := by
  refine cl_of mr_X9_wind rfl rfl ?_
  unfold f_X9_wind at h
  refine Ex.blk 1000 rfl ?_
  cases h
  exact And.intro trivial ⟨rfl, rfl, rfl⟩
theorem lk_X9_isNumber_16 {pr : Ct} {sc : Nat × (Nat → Int32)} {X : En} (d : Nat) {r : Int32} {σ2 : St} (y0 : Int32) (σ : St) (h : f_X9_isNumber_16 y0 σ = some (r, σ2)) : Ex mr_X9_isNumber sc (Cl MT pr sc (d + 0)) (rtE (some (.int r)) (mk X) σ2) (16, [], [.int y0], mk X, σ) := by
  unfold f_X9_isNumber_16 at h
  refine Ex.blk 1000 rfl ?_
  obtain ⟨g1, h⟩ := gd_some h
  cases h
  exact And.intro (isbb_ok g1) ⟨rfl, rfl, rfl⟩
theorem lk_X9_isNumber_15 {pr : Ct} {sc : Nat × (Nat → Int32)} {X : En} (d : Nat) {r : Int32} {σ2 : St} (σ : St) (h : f_X9_isNumber_15 σ = some (r, σ2)) : Ex mr_X9_isNumber sc (Cl MT pr sc (d + 0)) (rtE (some (.int r)) (mk X) σ2) (15, [], [], mk X, σ) := by
  unfold f_X9_isNumber_15 at h
  refine Ex.blk 1000 rfl ?_
  show Ex mr_X9_isNumber sc (Cl MT pr sc (d + 0)) (rtE (some (.int r)) (mk X) σ2) (16, [], [.int 0], mk X, σ)
  exact lk_X9_isNumber_16 d _ _ h
theorem cl_X9_isNumber {pr : Ct} {sc : Nat × (Nat → Int32)} {X : En} (d : Nat) {r : Int32} {σ2 : St} {x0 : Int32} {σ : St} (h : f_X9_isNumber x0 σ = some (r, σ2)) : Cl MT pr sc (d + 0 + 1) 92 [.int x0] (mk X) σ (some (.int r)) (mk X) σ2 := by
  refine cl_of mr_X9_isNumber rfl rfl ?_
  unfold f_X9_isNumber at h
  refine Ex.blk 1000 rfl ?_
  rcases ite_sp h with ⟨c1, h⟩ | ⟨c1, h⟩
  · refine And.intro (fun _ => ?_) (fun hn => absurd c1 hn)
    show Ex mr_X9_isNumber sc (Cl MT pr sc (d + 0)) (rtE (some (.int r)) (mk X) σ2) (15, [(0, .int x0)], [], mk X, σ)
    refine Ex.pick (lv' := _) [] rfl ?_
    exact lk_X9_isNumber_15 d _ h
  · refine And.intro (fun hp => absurd hp c1) (fun _ => ?_)
    show Ex mr_X9_isNumber sc (Cl MT pr sc (d + 0)) (rtE (some (.int r)) (mk X) σ2) (4, [(0, .int x0)], [], mk X, σ)
    refine Ex.blk 1000 rfl ?_
    rcases ite_sp h with ⟨c2, h⟩ | ⟨c2, h⟩
    · refine And.intro (fun _ => ?_) (fun hn => absurd c2 hn)
      show Ex mr_X9_isNumber sc (Cl MT pr sc (d + 0)) (rtE (some (.int r)) (mk X) σ2) (15, [(0, .int x0)], [], mk X, σ)
      refine Ex.pick (lv' := _) [] rfl ?_
      exact lk_X9_isNumber_15 d _ h
    · refine And.intro (fun hp => absurd hp c2) (fun _ => ?_)
      show Ex mr_X9_isNumber sc (Cl MT pr sc (d + 0)) (rtE (some (.int r)) (mk X) σ2) (11, [(0, .int x0)], [], mk X, σ)
      refine Ex.blk 1000 rfl ?_
      show Ex mr_X9_isNumber sc (Cl MT pr sc (d + 0)) (rtE (some (.int r)) (mk X) σ2) (16, [(0, .int x0)], [.int 1], mk X, σ)
      refine Ex.pick (lv' := _) [] rfl ?_
      exact lk_X9_isNumber_16 d _ _ h
theorem lk_X7_value_1_28 {pr : Ct} {sc : Nat × (Nat → Int32)} {X : En} (d : Nat) {r : Int64} {σ2 : St} (k4 : Int64 → Int32 → St → Option (Int64 × St)) (hk4 : ∀ (x1 : Int64) (x3 : Int32) (σ : St), k4 x1 x3 σ = some (r, σ2) → Ex mr_X7_value sc (Cl MT pr sc (d + 0)) (rtE (some (.long r)) (mk X) σ2) (4, [(0, .ref 1), (1, .long x1), (3, .int x3)], [], mk X, σ)) (x1 : Int64) (x3 : Int32) (σ : St) (h : f_X7_value_28 1 k4 x1 x3 σ = some (r, σ2)) : Ex mr_X7_value sc (Cl MT pr sc (d + 0)) (rtE (some (.long r)) (mk X) σ2) (28, [(0, .ref 1), (1, .long x1), (3, .int x3)], [], mk X, σ) := by
  unfold f_X7_value_28 at h
  refine Ex.blk 1000 rfl ?_
  show Ex mr_X7_value sc (Cl MT pr sc (d + 0)) (rtE (some (.long r)) (mk X) σ2) (4, [(3, .int (x3 + 1)), (0, .ref 1), (1, .long x1)], [], mk X, σ)
  refine Ex.pick (lv' := _) [1, 2, 0] rfl ?_
  exact hk4 _ _ _ h
theorem lk_X7_value_1_4 {pr : Ct} {sc : Nat × (Nat → Int32)} {X : En} (d : Nat) {r : Int64} {σ2 : St} : ∀ (n : Nat) (x1 : Int64) (x3 : Int32) (σ : St), f_X7_value_4 1 n x1 x3 σ = some (r, σ2) → Ex mr_X7_value sc (Cl MT pr sc (d + 0)) (rtE (some (.long r)) (mk X) σ2) (4, [(0, .ref 1), (1, .long x1), (3, .int x3)], [], mk X, σ) := by
  intro n
  induction n with
  | zero =>
    intro x1 x3 σ h
    cases h
  | succ n ih =>
    intro x1 x3 σ h
    simp only [f_X7_value_4] at h
    refine Ex.blk 1000 rfl ?_
    rcases ite_sp h with ⟨c1, h⟩ | ⟨c1, h⟩
    · refine And.intro (fun _ => ?_) (fun hn => absurd c1 hn)
      show Ex mr_X7_value sc (Cl MT pr sc (d + 0)) (rtE (some (.long r)) (mk X) σ2) (34, [(0, .ref 1), (1, .long x1), (3, .int x3)], [], mk X, σ)
      refine Ex.blk 1000 rfl ?_
      cases h
      exact And.intro trivial ⟨rfl, rfl, rfl⟩
    · refine And.intro (fun hp => absurd hp c1) (fun _ => ?_)
      show Ex mr_X7_value sc (Cl MT pr sc (d + 0)) (rtE (some (.long r)) (mk X) σ2) (12, [(0, .ref 1), (1, .long x1), (3, .int x3)], [], mk X, σ)
      refine Ex.blk 5 rfl ?_
      obtain ⟨g2, h⟩ := gd_some h
      refine And.intro (inb_ok g2) ?_
      show Ex mr_X7_value sc (Cl MT pr sc (d + 0)) (rtE (some (.long r)) (mk X) σ2) (19, [(0, .ref 1), (1, .long x1), (3, .int x3)], [.int (gI σ 2 x3.toNatClampNeg), .long x1], mk X, σ)
      refine Ex.blk 4 rfl ?_
      obtain ⟨g3, h⟩ := gd_some h
      refine And.intro (inb_ok g3) ?_
      show Ex mr_X7_value sc (Cl MT pr sc (d + 0)) (rtE (some (.long r)) (mk X) σ2) (25, [(0, .ref 1), (1, .long x1), (3, .int x3)], [.long (tens x3.toNatClampNeg), .long (gI σ 2 x3.toNatClampNeg).toInt64, .long x1], mk X, σ)
      refine Ex.blk 3 rfl ?_
      show Ex mr_X7_value sc (Cl MT pr sc (d + 0)) (rtE (some (.long r)) (mk X) σ2) (28, [(1, .long (x1 + (((gI σ 2 x3.toNatClampNeg).toInt64) * (tens x3.toNatClampNeg)))), (0, .ref 1), (3, .int x3)], [], mk X, σ)
      refine Ex.pick (lv' := _) [1, 0, 2] rfl ?_
      exact lk_X7_value_1_28 d _ ih _ _ _ h
theorem cl_X7_value_1 {pr : Ct} {sc : Nat × (Nat → Int32)} {X : En} (d : Nat) {r : Int64} {σ2 : St} {σ : St} (h : f_X7_value 1 σ = some (r, σ2)) : Cl MT pr sc (d + 0 + 1) 24 [.ref 1] (mk X) σ (some (.long r)) (mk X) σ2 := by
  refine cl_of mr_X7_value rfl rfl ?_
  unfold f_X7_value at h
  refine Ex.blk 1000 rfl ?_
  show Ex mr_X7_value sc (Cl MT pr sc (d + 0)) (rtE (some (.long r)) (mk X) σ2) (4, [(3, .int 0), (1, .long 0), (0, .ref 1)], [], mk X, σ)
  refine Ex.pick (lv' := _) [2, 1, 0] rfl ?_
  exact lk_X7_value_1_4 d FU _ _ _ h
theorem lk_X2_keep_1_110 {pr : Ct} {sc : Nat × (Nat → Int32)} {X : En} (d : Nat) {σ2 : St} (σ : St) (h : f_X2_keep_110 1 σ = some σ2) : Ex mr_X2_keep sc (Cl MT pr sc (d + 1)) (rtE none (mk X) σ2) (110, [(0, .ref 9)], [], mk X, σ) := by
  unfold f_X2_keep_110 at h
  refine Ex.blk 5 rfl ?_
  show Ex mr_X2_keep sc (Cl MT pr sc (d + 1)) (rtE none (mk X) σ2) (117, [(0, .ref 9)], [.int ((gI σ 9 1) + 1), .ref 9], mk X, σ)
  refine Ex.blk 2 rfl ?_
  refine And.intro (nzI_ok (b := 40) (by decide)) ?_
  show Ex mr_X2_keep sc (Cl MT pr sc (d + 1)) (rtE none (mk X) σ2) (120, [(0, .ref 9)], [.int (rmI ((gI σ 9 1) + 1) 40), .ref 9], mk X, σ)
  refine Ex.blk 5 rfl ?_
  show Ex mr_X2_keep sc (Cl MT pr sc (d + 1)) (rtE none (mk X) σ2) (129, [(0, .ref 9)], [.int 1, .int (gI (sI σ 9 1 (rmI ((gI σ 9 1) + 1) 40)) 9 2), .ref 9], mk X, (sI σ 9 1 (rmI ((gI σ 9 1) + 1) 40)))
  refine Ex.blk 1000 rfl ?_
  cases h
  exact And.intro trivial ⟨rfl, rfl, rfl⟩
theorem lk_X2_keep_1_82 {pr : Ct} {sc : Nat × (Nat → Int32)} {X : En} (d : Nat) {σ2 : St} (x2 : Int32) (σ : St) (h : f_X2_keep_82 1 x2 σ = some σ2) : Ex mr_X2_keep sc (Cl MT pr sc (d + 1)) (rtE none (mk X) σ2) (82, [(0, .ref 9), (1, .ref 1), (2, .int x2)], [], mk X, σ) := by
  unfold f_X2_keep_82 at h
  refine Ex.blk 5 rfl ?_
  show Ex mr_X2_keep sc (Cl MT pr sc (d + 1)) (rtE none (mk X) σ2) (90, [(0, .ref 9), (1, .ref 1), (2, .int x2)], [.int (x2 + 6), .ref 10], mk X, σ)
  refine Ex.blk 4 rfl ?_
  obtain ⟨g1, h⟩ := gd_some h
  refine And.intro (inb_ok g1) ?_
  show Ex mr_X2_keep sc (Cl MT pr sc (d + 1)) (rtE none (mk X) σ2) (96, [(0, .ref 9), (1, .ref 1), (2, .int x2)], [], mk X, (sJ σ 10 (x2 + 6).toNatClampNeg ((gI σ 1 11).toInt64)))
  refine Ex.blk 5 rfl ?_
  show Ex mr_X2_keep sc (Cl MT pr sc (d + 1)) (rtE none (mk X) σ2) (104, [(0, .ref 9), (1, .ref 1), (2, .int x2)], [.int (x2 + 7), .ref 10], mk X, (sJ σ 10 (x2 + 6).toNatClampNeg ((gI σ 1 11).toInt64)))
  refine Ex.blk 4 rfl ?_
  obtain ⟨g2, h⟩ := gd_some h
  refine And.intro (inb_ok g2) ?_
  show Ex mr_X2_keep sc (Cl MT pr sc (d + 1)) (rtE none (mk X) σ2) (110, [(0, .ref 9), (1, .ref 1), (2, .int x2)], [], mk X, (sJ (sJ σ 10 (x2 + 6).toNatClampNeg ((gI σ 1 11).toInt64)) 10 (x2 + 7).toNatClampNeg ((gI (sJ σ 10 (x2 + 6).toNatClampNeg ((gI σ 1 11).toInt64)) 1 12).toInt64)))
  refine Ex.pick (lv' := _) [0] rfl ?_
  exact lk_X2_keep_1_110 d _ h
theorem lk_X2_keep_1_56 {pr : Ct} {sc : Nat × (Nat → Int32)} {X : En} (d : Nat) {σ2 : St} (x2 : Int32) (σ : St) (h : f_X2_keep_56 1 x2 σ = some σ2) : Ex mr_X2_keep sc (Cl MT pr sc (d + 1)) (rtE none (mk X) σ2) (56, [(0, .ref 9), (1, .ref 1), (2, .int x2)], [], mk X, σ) := by
  unfold f_X2_keep_56 at h
  refine Ex.blk 5 rfl ?_
  show Ex mr_X2_keep sc (Cl MT pr sc (d + 1)) (rtE none (mk X) σ2) (63, [(0, .ref 9), (1, .ref 1), (2, .int x2)], [.int (x2 + 4), .ref 10], mk X, σ)
  refine Ex.blk 4 rfl ?_
  obtain ⟨g1, h⟩ := gd_some h
  refine And.intro (inb_ok g1) ?_
  show Ex mr_X2_keep sc (Cl MT pr sc (d + 1)) (rtE none (mk X) σ2) (69, [(0, .ref 9), (1, .ref 1), (2, .int x2)], [], mk X, (sJ σ 10 (x2 + 4).toNatClampNeg ((gI σ 1 9).toInt64)))
  refine Ex.blk 5 rfl ?_
  show Ex mr_X2_keep sc (Cl MT pr sc (d + 1)) (rtE none (mk X) σ2) (76, [(0, .ref 9), (1, .ref 1), (2, .int x2)], [.int (x2 + 5), .ref 10], mk X, (sJ σ 10 (x2 + 4).toNatClampNeg ((gI σ 1 9).toInt64)))
  refine Ex.blk 4 rfl ?_
  obtain ⟨g2, h⟩ := gd_some h
  refine And.intro (inb_ok g2) ?_
  show Ex mr_X2_keep sc (Cl MT pr sc (d + 1)) (rtE none (mk X) σ2) (82, [(0, .ref 9), (1, .ref 1), (2, .int x2)], [], mk X, (sJ (sJ σ 10 (x2 + 4).toNatClampNeg ((gI σ 1 9).toInt64)) 10 (x2 + 5).toNatClampNeg ((gI (sJ σ 10 (x2 + 4).toNatClampNeg ((gI σ 1 9).toInt64)) 1 10).toInt64)))
  exact lk_X2_keep_1_82 d _ _ h
theorem lk_X2_keep_1_30 {pr : Ct} {sc : Nat × (Nat → Int32)} {X : En} (d : Nat) {σ2 : St} (x2 : Int32) (σ : St) (h : f_X2_keep_30 1 x2 σ = some σ2) : Ex mr_X2_keep sc (Cl MT pr sc (d + 1)) (rtE none (mk X) σ2) (30, [(0, .ref 9), (1, .ref 1), (2, .int x2)], [], mk X, σ) := by
  unfold f_X2_keep_30 at h
  refine Ex.blk 5 rfl ?_
  show Ex mr_X2_keep sc (Cl MT pr sc (d + 1)) (rtE none (mk X) σ2) (37, [(0, .ref 9), (1, .ref 1), (2, .int x2)], [.int (x2 + 2), .ref 10], mk X, σ)
  refine Ex.blk 4 rfl ?_
  obtain ⟨g1, h⟩ := gd_some h
  refine And.intro (inb_ok g1) ?_
  show Ex mr_X2_keep sc (Cl MT pr sc (d + 1)) (rtE none (mk X) σ2) (43, [(0, .ref 9), (1, .ref 1), (2, .int x2)], [], mk X, (sJ σ 10 (x2 + 2).toNatClampNeg ((gI σ 1 7).toInt64)))
  refine Ex.blk 5 rfl ?_
  show Ex mr_X2_keep sc (Cl MT pr sc (d + 1)) (rtE none (mk X) σ2) (50, [(0, .ref 9), (1, .ref 1), (2, .int x2)], [.int (x2 + 3), .ref 10], mk X, (sJ σ 10 (x2 + 2).toNatClampNeg ((gI σ 1 7).toInt64)))
  refine Ex.blk 4 rfl ?_
  obtain ⟨g2, h⟩ := gd_some h
  refine And.intro (inb_ok g2) ?_
  show Ex mr_X2_keep sc (Cl MT pr sc (d + 1)) (rtE none (mk X) σ2) (56, [(0, .ref 9), (1, .ref 1), (2, .int x2)], [], mk X, (sJ (sJ σ 10 (x2 + 2).toNatClampNeg ((gI σ 1 7).toInt64)) 10 (x2 + 3).toNatClampNeg ((gI (sJ σ 10 (x2 + 2).toNatClampNeg ((gI σ 1 7).toInt64)) 1 8).toInt64)))
  exact lk_X2_keep_1_56 d _ _ h
theorem lk_X2_keep_1_8 {pr : Ct} {sc : Nat × (Nat → Int32)} {X : En} (d : Nat) {σ2 : St} (x2 : Int32) (σ : St) (h : f_X2_keep_8 1 x2 σ = some σ2) : Ex mr_X2_keep sc (Cl MT pr sc (d + 1)) (rtE none (mk X) σ2) (8, [(0, .ref 9), (1, .ref 1), (2, .int x2)], [], mk X, σ) := by
  unfold f_X2_keep_8 at h
  refine Ex.blk 5 rfl ?_
  obtain ⟨p1, hp1, h⟩ := bind_sp h
  refine Exists.intro (some (.long p1.1)) (Exists.intro (mk X) (Exists.intro p1.2 (And.intro (cl_X7_value_1 (d + 0) hp1) ?_)))
  show Ex mr_X2_keep sc (Cl MT pr sc (d + 1)) (rtE none (mk X) σ2) (17, [(0, .ref 9), (1, .ref 1), (2, .int x2)], [.long p1.1, .int x2, .ref 10], mk X, p1.2)
  refine Ex.blk 1 rfl ?_
  obtain ⟨g1, h⟩ := gd_some h
  refine And.intro (inb_ok g1) ?_
  show Ex mr_X2_keep sc (Cl MT pr sc (d + 1)) (rtE none (mk X) σ2) (18, [(0, .ref 9), (1, .ref 1), (2, .int x2)], [], mk X, (sJ p1.2 10 x2.toNatClampNeg p1.1))
  refine Ex.blk 5 rfl ?_
  show Ex mr_X2_keep sc (Cl MT pr sc (d + 1)) (rtE none (mk X) σ2) (25, [(0, .ref 9), (1, .ref 1), (2, .int x2)], [.int (x2 + 1), .ref 10], mk X, (sJ p1.2 10 x2.toNatClampNeg p1.1))
  refine Ex.blk 3 rfl ?_
  obtain ⟨g2, h⟩ := gd_some h
  refine And.intro (inb_ok g2) ?_
  show Ex mr_X2_keep sc (Cl MT pr sc (d + 1)) (rtE none (mk X) σ2) (30, [(0, .ref 9), (1, .ref 1), (2, .int x2)], [], mk X, (sJ (sJ p1.2 10 x2.toNatClampNeg p1.1) 10 (x2 + 1).toNatClampNeg (gJ (sJ p1.2 10 x2.toNatClampNeg p1.1) 1 6)))
  exact lk_X2_keep_1_30 d _ _ h
theorem cl_X2_keep_1 {pr : Ct} {sc : Nat × (Nat → Int32)} {X : En} (d : Nat) {σ2 : St} {σ : St} (h : f_X2_keep 1 σ = some σ2) : Cl MT pr sc (d + 1 + 1) 25 [.ref 9, .ref 1] (mk X) σ none (mk X) σ2 := by
  refine cl_of mr_X2_keep rfl rfl ?_
  unfold f_X2_keep at h
  refine Ex.blk 5 rfl ?_
  show Ex mr_X2_keep sc (Cl MT pr sc (d + 1)) (rtE none (mk X) σ2) (8, [(2, .int ((gI σ 9 1) * 8)), (0, .ref 9), (1, .ref 1)], [], mk X, σ)
  refine Ex.pick (lv' := _) [1, 2, 0] rfl ?_
  exact lk_X2_keep_1_8 d _ _ h
theorem lk_X7_stand_1_59 {pr : Ct} {sc : Nat × (Nat → Int32)} {X : En} (d : Nat) {σ2 : St} (x1 : Int32) (x3 : Int32) (σ : St) (h : f_X7_stand_59 1 x1 x3 σ = some σ2) : Ex mr_X7_stand sc (Cl MT pr sc (d + 0)) (rtE none (mk X) σ2) (59, [(0, .ref 1), (1, .int x1), (3, .int x3)], [], mk X, σ) := by
  unfold f_X7_stand_59 at h
  refine Ex.blk 5 rfl ?_
  obtain ⟨g1, h⟩ := gd_some h
  refine And.intro (inb_ok g1) ?_
  show Ex mr_X7_stand sc (Cl MT pr sc (d + 0)) (rtE none (mk X) σ2) (66, [(0, .ref 1), (1, .int x1), (3, .int x3)], [], mk X, (sI σ 2 x1.toNatClampNeg x3))
  refine Ex.blk 1000 rfl ?_
  cases h
  exact And.intro trivial ⟨rfl, rfl, rfl⟩
theorem lk_X7_stand_1_27 {pr : Ct} {sc : Nat × (Nat → Int32)} {X : En} (d : Nat) {σ2 : St} (x1 : Int32) (x2 : Int32) (x3 : Int32) (σ : St) (h : f_X7_stand_27 1 x1 x2 x3 σ = some σ2) : Ex mr_X7_stand sc (Cl MT pr sc (d + 0)) (rtE none (mk X) σ2) (27, [(0, .ref 1), (1, .int x1), (2, .int x2), (3, .int x3)], [], mk X, σ) := by
  unfold f_X7_stand_27 at h
  refine Ex.blk 5 rfl ?_
  show Ex mr_X7_stand sc (Cl MT pr sc (d + 0)) (rtE none (mk X) σ2) (34, [(0, .ref 1), (1, .int x1), (2, .int x2), (3, .int x3)], [.int x3, .int x2, .int (gI σ 1 11), .ref 1], mk X, σ)
  refine Ex.blk 5 rfl ?_
  show Ex mr_X7_stand sc (Cl MT pr sc (d + 0)) (rtE none (mk X) σ2) (41, [(0, .ref 1), (1, .int x1), (2, .int x2), (3, .int x3)], [.ref 1, .ref 1], mk X, (sI σ 1 11 ((gI σ 1 11) + (x2 - x3))))
  refine Ex.blk 5 rfl ?_
  show Ex mr_X7_stand sc (Cl MT pr sc (d + 0)) (rtE none (mk X) σ2) (50, [(0, .ref 1), (1, .int x1), (2, .int x2), (3, .int x3)], [.int x1, .ref 2, .int x3, .int (gI (sI σ 1 11 ((gI σ 1 11) + (x2 - x3))) 1 7), .ref 1], mk X, (sI σ 1 11 ((gI σ 1 11) + (x2 - x3))))
  refine Ex.blk 1 rfl ?_
  obtain ⟨g1, h⟩ := gd_some h
  refine And.intro (inb_ok g1) ?_
  show Ex mr_X7_stand sc (Cl MT pr sc (d + 0)) (rtE none (mk X) σ2) (51, [(0, .ref 1), (1, .int x1), (2, .int x2), (3, .int x3)], [.int (gI (sI σ 1 11 ((gI σ 1 11) + (x2 - x3))) 2 x1.toNatClampNeg), .int x3, .int (gI (sI σ 1 11 ((gI σ 1 11) + (x2 - x3))) 1 7), .ref 1], mk X, (sI σ 1 11 ((gI σ 1 11) + (x2 - x3))))
  refine Ex.blk 4 rfl ?_
  show Ex mr_X7_stand sc (Cl MT pr sc (d + 0)) (rtE none (mk X) σ2) (59, [(0, .ref 1), (1, .int x1), (2, .int x2), (3, .int x3)], [], mk X, (sI (sI σ 1 11 ((gI σ 1 11) + (x2 - x3))) 1 7 ((gI (sI σ 1 11 ((gI σ 1 11) + (x2 - x3))) 1 7) + (abI (x3 - (gI (sI σ 1 11 ((gI σ 1 11) + (x2 - x3))) 2 x1.toNatClampNeg))))))
  refine Ex.pick (lv' := _) [0, 1, 3] rfl ?_
  exact lk_X7_stand_1_59 d _ _ _ h
theorem lk_X7_stand_1_16 {pr : Ct} {sc : Nat × (Nat → Int32)} {X : En} (d : Nat) {σ2 : St} (x1 : Int32) (x2 : Int32) (σ : St) (h : f_X7_stand_16 1 x1 x2 σ = some σ2) : Ex mr_X7_stand sc (Cl MT pr sc (d + 0)) (rtE none (mk X) σ2) (16, [(0, .ref 1), (1, .int x1), (2, .int x2)], [], mk X, σ) := by
  unfold f_X7_stand_16 at h
  refine Ex.blk 5 rfl ?_
  obtain ⟨g1, h⟩ := gd_some h
  refine And.intro (inb_ok g1) ?_
  show Ex mr_X7_stand sc (Cl MT pr sc (d + 0)) (rtE none (mk X) σ2) (23, [(0, .ref 1), (1, .int x1), (2, .int x2)], [.int (gI σ 3 x1.toNatClampNeg), .int x2], mk X, σ)
  refine Ex.blk 2 rfl ?_
  show Ex mr_X7_stand sc (Cl MT pr sc (d + 0)) (rtE none (mk X) σ2) (27, [(3, .int (mnI x2 (gI σ 3 x1.toNatClampNeg))), (0, .ref 1), (1, .int x1), (2, .int x2)], [], mk X, σ)
  refine Ex.pick (lv' := _) [1, 2, 3, 0] rfl ?_
  exact lk_X7_stand_1_27 d _ _ _ _ h
theorem cl_X7_stand_1 {pr : Ct} {sc : Nat × (Nat → Int32)} {X : En} (d : Nat) {σ2 : St} {x1 : Int32} {x2 : Int32} {σ : St} (h : f_X7_stand 1 x1 x2 σ = some σ2) : Cl MT pr sc (d + 0 + 1) 35 [.ref 1, .int x1, .int x2] (mk X) σ none (mk X) σ2 := by
  refine cl_of mr_X7_stand rfl rfl ?_
  unfold f_X7_stand at h
  refine Ex.blk 5 rfl ?_
  show Ex mr_X7_stand sc (Cl MT pr sc (d + 0)) (rtE none (mk X) σ2) (9, [(0, .ref 1), (1, .int x1), (2, .int x2)], [.ref 4, .int x1, .ref 4], mk X, σ)
  refine Ex.blk 2 rfl ?_
  obtain ⟨g1, h⟩ := gd_some h
  refine And.intro (inb_ok g1) ?_
  show Ex mr_X7_stand sc (Cl MT pr sc (d + 0)) (rtE none (mk X) σ2) (11, [(0, .ref 1), (1, .int x1), (2, .int x2)], [.int (gI σ 4 x1.toNatClampNeg), .int x1, .ref 4], mk X, σ)
  refine Ex.blk 3 rfl ?_
  obtain ⟨g2, h⟩ := gd_some h
  refine And.intro (inb_ok g2) ?_
  show Ex mr_X7_stand sc (Cl MT pr sc (d + 0)) (rtE none (mk X) σ2) (16, [(0, .ref 1), (1, .int x1), (2, .int x2)], [], mk X, (sI σ 4 x1.toNatClampNeg (mxI (gI σ 4 x1.toNatClampNeg) x2)))
  exact lk_X7_stand_1_16 d _ _ _ h
theorem lk_X7_drive_1_98 {pr : Ct} {sc : Nat × (Nat → Int32)} {X : En} (d : Nat) {σ2 : St} (k5 : Int32 → Int32 → St → Option (St)) (hk5 : ∀ (x3 : Int32) (x4 : Int32) (σ : St), k5 x3 x4 σ = some σ2 → Ex mr_X7_drive sc (Cl MT pr sc (d + 1)) (rtE none (mk X) σ2) (5, [(0, .ref 1), (3, .int x3), (4, .int x4)], [], mk X, σ)) (x4 : Int32) (y0 : Int32) (σ : St) (h : f_X7_drive_98 1 k5 x4 y0 σ = some σ2) : Ex mr_X7_drive sc (Cl MT pr sc (d + 1)) (rtE none (mk X) σ2) (98, [(0, .ref 1), (4, .int x4)], [.int y0], mk X, σ) := by
  unfold f_X7_drive_98 at h
  refine Ex.blk 1000 rfl ?_
  show Ex mr_X7_drive sc (Cl MT pr sc (d + 1)) (rtE none (mk X) σ2) (5, [(4, .int (x4 + 1)), (3, .int y0), (0, .ref 1)], [], mk X, σ)
  refine Ex.pick (lv' := _) [2, 1, 0] rfl ?_
  exact hk5 _ _ _ h
theorem lk_X7_drive_1_70 {pr : Ct} {sc : Nat × (Nat → Int32)} {X : En} (d : Nat) {σ2 : St} (k5 : Int32 → Int32 → St → Option (St)) (hk5 : ∀ (x3 : Int32) (x4 : Int32) (σ : St), k5 x3 x4 σ = some σ2 → Ex mr_X7_drive sc (Cl MT pr sc (d + 1)) (rtE none (mk X) σ2) (5, [(0, .ref 1), (3, .int x3), (4, .int x4)], [], mk X, σ)) (x3 : Int32) (x4 : Int32) (x6 : Int32) (y0 : Int32) (y1 : Int32) (σ : St) (h : f_X7_drive_70 1 k5 x3 x4 x6 y0 y1 σ = some σ2) : Ex mr_X7_drive sc (Cl MT pr sc (d + 1)) (rtE none (mk X) σ2) (70, [(0, .ref 1), (3, .int x3), (4, .int x4), (6, .int x6)], [.int y0, .int y1, .ref 1], mk X, σ) := by
  unfold f_X7_drive_70 at h
  refine Ex.blk 1 rfl ?_
  obtain ⟨p2, hp2, h⟩ := bind_sp h
  refine Exists.intro none (Exists.intro (mk X) (Exists.intro p2 (And.intro (cl_X7_stand_1 (d + 0) hp2) ?_)))
  show Ex mr_X7_drive sc (Cl MT pr sc (d + 1)) (rtE none (mk X) σ2) (73, [(0, .ref 1), (3, .int x3), (4, .int x4), (6, .int x6)], [], mk X, p2)
  refine Ex.blk 1000 rfl ?_
  rcases ite_sp h with ⟨c1, h⟩ | ⟨c1, h⟩
  · refine And.intro (fun hp => absurd c1 hp) (fun _ => ?_)
    show Ex mr_X7_drive sc (Cl MT pr sc (d + 1)) (rtE none (mk X) σ2) (78, [(0, .ref 1), (3, .int x3), (4, .int x4), (6, .int x6)], [], mk X, p2)
    refine Ex.blk 1000 rfl ?_
    cases h
    exact And.intro trivial ⟨rfl, rfl, rfl⟩
  · refine And.intro (fun _ => ?_) (fun hn => absurd c1 hn)
    show Ex mr_X7_drive sc (Cl MT pr sc (d + 1)) (rtE none (mk X) σ2) (79, [(0, .ref 1), (3, .int x3), (4, .int x4), (6, .int x6)], [], mk X, p2)
    refine Ex.blk 5 rfl ?_
    show Ex mr_X7_drive sc (Cl MT pr sc (d + 1)) (rtE none (mk X) σ2) (86, [(0, .ref 1), (3, .int x3), (4, .int x4), (6, .int x6)], [.int ((gI p2 1 8) + 1), .ref 1], mk X, p2)
    refine Ex.blk 1000 rfl ?_
    rcases ite_sp h with ⟨c2, h⟩ | ⟨c2, h⟩
    · refine And.intro (fun _ => ?_) (fun hn => absurd c2 hn)
      show Ex mr_X7_drive sc (Cl MT pr sc (d + 1)) (rtE none (mk X) σ2) (97, [(0, .ref 1), (3, .int x3), (4, .int x4), (6, .int x6)], [], mk X, (sI p2 1 8 ((gI p2 1 8) + 1)))
      refine Ex.blk 1000 rfl ?_
      show Ex mr_X7_drive sc (Cl MT pr sc (d + 1)) (rtE none (mk X) σ2) (98, [(0, .ref 1), (3, .int x3), (4, .int x4), (6, .int x6)], [.int 1], mk X, (sI p2 1 8 ((gI p2 1 8) + 1)))
      refine Ex.pick (lv' := _) [0, 2] rfl ?_
      exact lk_X7_drive_1_98 d _ hk5 _ _ _ h
    · refine And.intro (fun hp => absurd hp c2) (fun _ => ?_)
      show Ex mr_X7_drive sc (Cl MT pr sc (d + 1)) (rtE none (mk X) σ2) (93, [(0, .ref 1), (3, .int x3), (4, .int x4), (6, .int x6)], [], mk X, (sI p2 1 8 ((gI p2 1 8) + 1)))
      refine Ex.blk 1000 rfl ?_
      show Ex mr_X7_drive sc (Cl MT pr sc (d + 1)) (rtE none (mk X) σ2) (98, [(0, .ref 1), (3, .int x3), (4, .int x4), (6, .int x6)], [.int (-1)], mk X, (sI p2 1 8 ((gI p2 1 8) + 1)))
      refine Ex.pick (lv' := _) [0, 2] rfl ?_
      exact lk_X7_drive_1_98 d _ hk5 _ _ _ h
theorem lk_X7_drive_1_38 {pr : Ct} {sc : Nat × (Nat → Int32)} {X : En} (d : Nat) {σ2 : St} (k5 : Int32 → Int32 → St → Option (St)) (hk5 : ∀ (x3 : Int32) (x4 : Int32) (σ : St), k5 x3 x4 σ = some σ2 → Ex mr_X7_drive sc (Cl MT pr sc (d + 1)) (rtE none (mk X) σ2) (5, [(0, .ref 1), (3, .int x3), (4, .int x4)], [], mk X, σ)) (x3 : Int32) (x4 : Int32) (x5 : Int32) (y0 : Int32) (σ : St) (h : f_X7_drive_38 1 k5 x3 x4 x5 y0 σ = some σ2) : Ex mr_X7_drive sc (Cl MT pr sc (d + 1)) (rtE none (mk X) σ2) (38, [(0, .ref 1), (3, .int x3), (4, .int x4), (5, .int x5)], [.int y0], mk X, σ) := by
  unfold f_X7_drive_38 at h
  refine Ex.blk 1000 rfl ?_
  rcases ite_sp h with ⟨c1, h⟩ | ⟨c1, h⟩
  · refine And.intro (fun hp => absurd c1 hp) (fun _ => ?_)
    show Ex mr_X7_drive sc (Cl MT pr sc (d + 1)) (rtE none (mk X) σ2) (48, [(6, .int y0), (0, .ref 1), (3, .int x3), (4, .int x4), (5, .int x5)], [.int x4, .ref 1], mk X, σ)
    refine Ex.blk 1000 rfl ?_
    show Ex mr_X7_drive sc (Cl MT pr sc (d + 1)) (rtE none (mk X) σ2) (70, [(6, .int y0), (0, .ref 1), (3, .int x3), (4, .int x4), (5, .int x5)], [.int x5, .int x4, .ref 1], mk X, σ)
    refine Ex.pick (lv' := _) [1, 2, 3, 0] rfl ?_
    exact lk_X7_drive_1_70 d _ hk5 _ _ _ _ _ _ h
  · refine And.intro (fun _ => ?_) (fun hn => absurd c1 hn)
    show Ex mr_X7_drive sc (Cl MT pr sc (d + 1)) (rtE none (mk X) σ2) (53, [(6, .int y0), (0, .ref 1), (3, .int x3), (4, .int x4), (5, .int x5)], [.int x4, .ref 1], mk X, σ)
    refine Ex.blk 1000 rfl ?_
    rcases ite_sp h with ⟨c2, h⟩ | ⟨c2, h⟩
    · refine And.intro (fun _ => ?_) (fun hn => absurd c2 hn)
      show Ex mr_X7_drive sc (Cl MT pr sc (d + 1)) (rtE none (mk X) σ2) (65, [(6, .int y0), (0, .ref 1), (3, .int x3), (4, .int x4), (5, .int x5)], [.int x4, .ref 1], mk X, σ)
      refine Ex.blk 1000 rfl ?_
      show Ex mr_X7_drive sc (Cl MT pr sc (d + 1)) (rtE none (mk X) σ2) (70, [(6, .int y0), (0, .ref 1), (3, .int x3), (4, .int x4), (5, .int x5)], [.int (x5 - 10), .int x4, .ref 1], mk X, σ)
      refine Ex.pick (lv' := _) [1, 2, 3, 0] rfl ?_
      exact lk_X7_drive_1_70 d _ hk5 _ _ _ _ _ _ h
    · refine And.intro (fun hp => absurd hp c2) (fun _ => ?_)
      show Ex mr_X7_drive sc (Cl MT pr sc (d + 1)) (rtE none (mk X) σ2) (57, [(6, .int y0), (0, .ref 1), (3, .int x3), (4, .int x4), (5, .int x5)], [.int x4, .ref 1], mk X, σ)
      refine Ex.blk 1000 rfl ?_
      show Ex mr_X7_drive sc (Cl MT pr sc (d + 1)) (rtE none (mk X) σ2) (70, [(6, .int y0), (0, .ref 1), (3, .int x3), (4, .int x4), (5, .int x5)], [.int (x5 + 10), .int x4, .ref 1], mk X, σ)
      refine Ex.pick (lv' := _) [1, 2, 3, 0] rfl ?_
      exact lk_X7_drive_1_70 d _ hk5 _ _ _ _ _ _ h
theorem lk_X7_drive_1_25 {pr : Ct} {sc : Nat × (Nat → Int32)} {X : En} (d : Nat) {σ2 : St} (k5 : Int32 → Int32 → St → Option (St)) (hk5 : ∀ (x3 : Int32) (x4 : Int32) (σ : St), k5 x3 x4 σ = some σ2 → Ex mr_X7_drive sc (Cl MT pr sc (d + 1)) (rtE none (mk X) σ2) (5, [(0, .ref 1), (3, .int x3), (4, .int x4)], [], mk X, σ)) (x3 : Int32) (x4 : Int32) (x5 : Int32) (σ : St) (h : f_X7_drive_25 1 k5 x3 x4 x5 σ = some σ2) : Ex mr_X7_drive sc (Cl MT pr sc (d + 1)) (rtE none (mk X) σ2) (25, [(0, .ref 1), (3, .int x3), (4, .int x4), (5, .int x5)], [], mk X, σ) := by
  unfold f_X7_drive_25 at h
  refine Ex.blk 2 rfl ?_
  obtain ⟨p1, hp1, h⟩ := bind_sp h
  refine Exists.intro (some (.int p1.1)) (Exists.intro (mk X) (Exists.intro p1.2 (And.intro (cl_X9_isDigit (d + 0) hp1) ?_)))
  show Ex mr_X7_drive sc (Cl MT pr sc (d + 1)) (rtE none (mk X) σ2) (30, [(0, .ref 1), (3, .int x3), (4, .int x4), (5, .int x5)], [.int p1.1], mk X, p1.2)
  refine Ex.blk 1000 rfl ?_
  rcases ite_sp h with ⟨c1, h⟩ | ⟨c1, h⟩
  · refine And.intro (fun hp => absurd c1 hp) (fun _ => ?_)
    show Ex mr_X7_drive sc (Cl MT pr sc (d + 1)) (rtE none (mk X) σ2) (33, [(0, .ref 1), (3, .int x3), (4, .int x4), (5, .int x5)], [], mk X, p1.2)
    refine Ex.blk 1000 rfl ?_
    show Ex mr_X7_drive sc (Cl MT pr sc (d + 1)) (rtE none (mk X) σ2) (38, [(0, .ref 1), (3, .int x3), (4, .int x4), (5, .int x5)], [.int 1], mk X, p1.2)
    exact lk_X7_drive_1_38 d _ hk5 _ _ _ _ _ h
  · refine And.intro (fun _ => ?_) (fun hn => absurd c1 hn)
    show Ex mr_X7_drive sc (Cl MT pr sc (d + 1)) (rtE none (mk X) σ2) (37, [(0, .ref 1), (3, .int x3), (4, .int x4), (5, .int x5)], [], mk X, p1.2)
    refine Ex.blk 1000 rfl ?_
    show Ex mr_X7_drive sc (Cl MT pr sc (d + 1)) (rtE none (mk X) σ2) (38, [(0, .ref 1), (3, .int x3), (4, .int x4), (5, .int x5)], [.int 0], mk X, p1.2)
    exact lk_X7_drive_1_38 d _ hk5 _ _ _ _ _ h
theorem lk_X7_drive_1_5 {pr : Ct} {sc : Nat × (Nat → Int32)} {X : En} (d : Nat) {σ2 : St} : ∀ (n : Nat) (x3 : Int32) (x4 : Int32) (σ : St), f_X7_drive_5 1 n x3 x4 σ = some σ2 → Ex mr_X7_drive sc (Cl MT pr sc (d + 1)) (rtE none (mk X) σ2) (5, [(0, .ref 1), (3, .int x3), (4, .int x4)], [], mk X, σ) := by
  intro n
  induction n with
  | zero =>
    intro x3 x4 σ h
    cases h
  | succ n ih =>
    intro x3 x4 σ h
    simp only [f_X7_drive_5] at h
    refine Ex.blk 1000 rfl ?_
    rcases ite_sp h with ⟨c1, h⟩ | ⟨c1, h⟩
    · refine And.intro (fun _ => ?_) (fun hn => absurd c1 hn)
      show Ex mr_X7_drive sc (Cl MT pr sc (d + 1)) (rtE none (mk X) σ2) (105, [(0, .ref 1), (3, .int x3), (4, .int x4)], [], mk X, σ)
      refine Ex.blk 5 rfl ?_
      show Ex mr_X7_drive sc (Cl MT pr sc (d + 1)) (rtE none (mk X) σ2) (112, [(0, .ref 1), (3, .int x3), (4, .int x4)], [.int ((gI σ 1 10) + 1), .ref 1], mk X, σ)
      refine Ex.blk 1000 rfl ?_
      cases h
      exact And.intro trivial ⟨rfl, rfl, rfl⟩
    · refine And.intro (fun hp => absurd hp c1) (fun _ => ?_)
      show Ex mr_X7_drive sc (Cl MT pr sc (d + 1)) (rtE none (mk X) σ2) (14, [(0, .ref 1), (3, .int x3), (4, .int x4)], [], mk X, σ)
      refine Ex.blk 4 rfl ?_
      obtain ⟨g2, h⟩ := gd_some h
      refine And.intro (inb_ok g2) ?_
      show Ex mr_X7_drive sc (Cl MT pr sc (d + 1)) (rtE none (mk X) σ2) (21, [(0, .ref 1), (3, .int x3), (4, .int x4)], [.int (gI σ 2 x4.toNatClampNeg)], mk X, σ)
      refine Ex.blk 3 rfl ?_
      show Ex mr_X7_drive sc (Cl MT pr sc (d + 1)) (rtE none (mk X) σ2) (25, [(5, .int ((gI σ 2 x4.toNatClampNeg) + x3)), (0, .ref 1), (3, .int x3), (4, .int x4)], [], mk X, σ)
      refine Ex.pick (lv' := _) [1, 2, 3, 0] rfl ?_
      exact lk_X7_drive_1_25 d _ ih _ _ _ _ h
theorem cl_X7_drive_1 {pr : Ct} {sc : Nat × (Nat → Int32)} {X : En} (d : Nat) {σ2 : St} {x1 : Int32} {x2 : Int32} {σ : St} (h : f_X7_drive 1 x1 x2 σ = some σ2) : Cl MT pr sc (d + 1 + 1) 36 [.ref 1, .int x1, .int x2] (mk X) σ none (mk X) σ2 := by
  refine cl_of mr_X7_drive rfl rfl ?_
  unfold f_X7_drive at h
  refine Ex.blk 1000 rfl ?_
  show Ex mr_X7_drive sc (Cl MT pr sc (d + 1)) (rtE none (mk X) σ2) (5, [(4, .int x1), (3, .int x2), (0, .ref 1), (1, .int x1), (2, .int x2)], [], mk X, σ)
  refine Ex.pick (lv' := _) [2, 1, 0] rfl ?_
  exact lk_X7_drive_1_5 d FU _ _ _ h
theorem lk_X7_draw_1_16 {pr : Ct} {sc : Nat × (Nat → Int32)} {X : En} (d : Nat) {r : Int32} {σ2 : St} (σ : St) (h : f_X7_draw_16 1 σ = some (r, σ2)) : Ex mr_X7_draw sc (Cl MT pr sc (d + 0)) (rtE (some (.int r)) (mk X) σ2) (16, [(0, .ref 1)], [], mk X, σ) := by
  unfold f_X7_draw_16 at h
  refine Ex.blk 5 rfl ?_
  show Ex mr_X7_draw sc (Cl MT pr sc (d + 0)) (rtE (some (.int r)) (mk X) σ2) (26, [(0, .ref 1)], [.long 100, .long (ushJ (gJ σ 1 6) 33)], mk X, σ)
  refine Ex.blk 1 rfl ?_
  refine And.intro (nzJ_ok (b := 100) (by decide)) ?_
  show Ex mr_X7_draw sc (Cl MT pr sc (d + 0)) (rtE (some (.int r)) (mk X) σ2) (27, [(0, .ref 1)], [.long (rmJ (ushJ (gJ σ 1 6) 33) 100)], mk X, σ)
  refine Ex.blk 1000 rfl ?_
  cases h
  exact And.intro trivial ⟨rfl, rfl, rfl⟩
theorem cl_X7_draw_1 {pr : Ct} {sc : Nat × (Nat → Int32)} {X : En} (d : Nat) {r : Int32} {σ2 : St} {σ : St} (h : f_X7_draw 1 σ = some (r, σ2)) : Cl MT pr sc (d + 0 + 1) 34 [.ref 1] (mk X) σ (some (.int r)) (mk X) σ2 := by
  refine cl_of mr_X7_draw rfl rfl ?_
  unfold f_X7_draw at h
  refine Ex.blk 5 rfl ?_
  show Ex mr_X7_draw sc (Cl MT pr sc (d + 0)) (rtE (some (.int r)) (mk X) σ2) (9, [(0, .ref 1)], [.long ((gJ σ 1 6) * 6364136223846793005), .ref 1], mk X, σ)
  refine Ex.blk 3 rfl ?_
  show Ex mr_X7_draw sc (Cl MT pr sc (d + 0)) (rtE (some (.int r)) (mk X) σ2) (16, [(0, .ref 1)], [], mk X, (sJ σ 1 6 (((gJ σ 1 6) * 6364136223846793005) + 1442695040888963407)))
  exact lk_X7_draw_1_16 d _ h
theorem cl_X7_topRope_1 {pr : Ct} {sc : Nat × (Nat → Int32)} {X : En} (d : Nat) {r : Int32} {σ2 : St} {x1 : Int32} {σ : St} (h : f_X7_topRope 1 x1 σ = some (r, σ2)) : Cl MT pr sc (d + 1 + 1) 2 [.ref 1, .int x1] (mk X) σ (some (.int r)) (mk X) σ2 := by
  refine cl_of mr_X7_topRope rfl rfl ?_
  unfold f_X7_topRope at h
  refine Ex.blk 5 rfl ?_
  show Ex mr_X7_topRope sc (Cl MT pr sc (d + 1)) (rtE (some (.int r)) (mk X) σ2) (9, [(0, .ref 1), (1, .int x1)], [.int (gI σ 1 0), .ref TN, .long x1.toInt64], mk X, σ)
  refine Ex.blk 1 rfl ?_
  obtain ⟨g1, h⟩ := gd_some h
  refine And.intro (inb_ok g1) ?_
  show Ex mr_X7_topRope sc (Cl MT pr sc (d + 1)) (rtE (some (.int r)) (mk X) σ2) (10, [(0, .ref 1), (1, .int x1)], [.long (tens (gI σ 1 0).toNatClampNeg), .long x1.toInt64], mk X, σ)
  refine Ex.blk 1 rfl ?_
  obtain ⟨g2, h⟩ := gd_some h
  refine And.intro (nzJ_ok g2) ?_
  show Ex mr_X7_topRope sc (Cl MT pr sc (d + 1)) (rtE (some (.int r)) (mk X) σ2) (11, [(0, .ref 1), (1, .int x1)], [.long (rmJ x1.toInt64 (tens (gI σ 1 0).toNatClampNeg))], mk X, σ)
  refine Ex.blk 1 rfl ?_
  obtain ⟨p1, hp1, h⟩ := bind_sp h
  refine Exists.intro (some (.int p1.1)) (Exists.intro (mk X) (Exists.intro p1.2 (And.intro (cl_X9_topPlace (d + 0) hp1) ?_)))
  show Ex mr_X7_topRope sc (Cl MT pr sc (d + 1)) (rtE (some (.int r)) (mk X) σ2) (14, [(0, .ref 1), (1, .int x1)], [.int p1.1], mk X, p1.2)
  refine Ex.blk 1000 rfl ?_
  cases h
  exact And.intro trivial ⟨rfl, rfl, rfl⟩
theorem lk_X7_bring_e_1_104 {pr : Ct} {sc : Nat × (Nat → Int32)} {X : En} (d : Nat) {σ2 : St} (k34 : Int32 → Int32 → Int32 → Int32 → Int32 → St → Option (St)) (hk34 : ∀ (x1 : Int32) (x2 : Int32) (x3 : Int32) (x5 : Int32) (x6 : Int32) (σ : St), k34 x1 x2 x3 x5 x6 σ = some σ2 → Ex mr_X7_bring sc (Cl MT pr sc (d + 2)) (rtE none (mk X) σ2) (34, [(0, .ref 1), (1, .int x1), (2, .int x2), (3, .int x3), (4, .ref 15), (5, .int x5), (6, .int x6)], [], mk X, σ)) (x1 : Int32) (x2 : Int32) (x3 : Int32) (x5 : Int32) (x6 : Int32) (y0 : Int32) (y1 : Int32) (σ : St) (h : f_X7_bring_e_104 1 k34 x1 x2 x3 x5 x6 y0 y1 σ = some σ2) : Ex mr_X7_bring sc (Cl MT pr sc (d + 2)) (rtE none (mk X) σ2) (104, [(0, .ref 1), (1, .int x1), (2, .int x2), (3, .int x3), (4, .ref 15), (5, .int x5), (6, .int x6)], [.int y0, .int y1, .ref 1], mk X, σ) := by
  unfold f_X7_bring_e_104 at h
  refine Ex.blk 1 rfl ?_
  obtain ⟨p5, hp5, h⟩ := bind_sp h
  refine Exists.intro none (Exists.intro (mk X) (Exists.intro p5 (And.intro (cl_X7_drive_1 (d + 0) hp5) ?_)))
  show Ex mr_X7_bring sc (Cl MT pr sc (d + 2)) (rtE none (mk X) σ2) (107, [(0, .ref 1), (1, .int x1), (2, .int x2), (3, .int x3), (4, .ref 15), (5, .int x5), (6, .int x6)], [], mk X, p5)
  refine Ex.blk 1000 rfl ?_
  show Ex mr_X7_bring sc (Cl MT pr sc (d + 2)) (rtE none (mk X) σ2) (34, [(6, .int (x6 + 1)), (0, .ref 1), (1, .int x1), (2, .int x2), (3, .int x3), (4, .ref 15), (5, .int x5)], [], mk X, p5)
  refine Ex.pick (lv' := _) [1, 2, 3, 4, 5, 6, 0] rfl ?_
  exact hk34 _ _ _ _ _ _ h
theorem lk_X7_bring_e_1_87 {pr : Ct} {sc : Nat × (Nat → Int32)} {X : En} (d : Nat) {σ2 : St} (k34 : Int32 → Int32 → Int32 → Int32 → Int32 → St → Option (St)) (hk34 : ∀ (x1 : Int32) (x2 : Int32) (x3 : Int32) (x5 : Int32) (x6 : Int32) (σ : St), k34 x1 x2 x3 x5 x6 σ = some σ2 → Ex mr_X7_bring sc (Cl MT pr sc (d + 2)) (rtE none (mk X) σ2) (34, [(0, .ref 1), (1, .int x1), (2, .int x2), (3, .int x3), (4, .ref 15), (5, .int x5), (6, .int x6)], [], mk X, σ)) (x1 : Int32) (x2 : Int32) (x3 : Int32) (x5 : Int32) (x6 : Int32) (x7 : Int32) (y0 : Int32) (σ : St) (h : f_X7_bring_e_87 1 k34 x1 x2 x3 x5 x6 x7 y0 σ = some σ2) : Ex mr_X7_bring sc (Cl MT pr sc (d + 2)) (rtE none (mk X) σ2) (87, [(0, .ref 1), (1, .int x1), (2, .int x2), (3, .int x3), (4, .ref 15), (5, .int x5), (6, .int x6), (7, .int x7)], [.int y0], mk X, σ) := by
  unfold f_X7_bring_e_87 at h
  refine Ex.blk 1000 rfl ?_
  rcases ite_sp h with ⟨c1, h⟩ | ⟨c1, h⟩
  · refine And.intro (fun _ => ?_) (fun hn => absurd c1 hn)
    show Ex mr_X7_bring sc (Cl MT pr sc (d + 2)) (rtE none (mk X) σ2) (102, [(9, .int y0), (0, .ref 1), (1, .int x1), (2, .int x2), (3, .int x3), (4, .ref 15), (5, .int x5), (6, .int x6), (7, .int x7)], [.int x7, .ref 1], mk X, σ)
    refine Ex.blk 1000 rfl ?_
    show Ex mr_X7_bring sc (Cl MT pr sc (d + 2)) (rtE none (mk X) σ2) (104, [(9, .int y0), (0, .ref 1), (1, .int x1), (2, .int x2), (3, .int x3), (4, .ref 15), (5, .int x5), (6, .int x6), (7, .int x7)], [.int y0, .int x7, .ref 1], mk X, σ)
    refine Ex.pick (lv' := _) [1, 2, 3, 4, 5, 6, 7] rfl ?_
    exact lk_X7_bring_e_1_104 d _ hk34 _ _ _ _ _ _ _ _ h
  · refine And.intro (fun hp => absurd hp c1) (fun _ => ?_)
    show Ex mr_X7_bring sc (Cl MT pr sc (d + 2)) (rtE none (mk X) σ2) (96, [(9, .int y0), (0, .ref 1), (1, .int x1), (2, .int x2), (3, .int x3), (4, .ref 15), (5, .int x5), (6, .int x6), (7, .int x7)], [.int x7, .ref 1], mk X, σ)
    refine Ex.blk 1000 rfl ?_
    show Ex mr_X7_bring sc (Cl MT pr sc (d + 2)) (rtE none (mk X) σ2) (104, [(9, .int y0), (0, .ref 1), (1, .int x1), (2, .int x2), (3, .int x3), (4, .ref 15), (5, .int x5), (6, .int x6), (7, .int x7)], [.int (-y0), .int x7, .ref 1], mk X, σ)
    refine Ex.pick (lv' := _) [1, 2, 3, 4, 5, 6, 7] rfl ?_
    exact lk_X7_bring_e_1_104 d _ hk34 _ _ _ _ _ _ _ _ h
theorem lk_X7_bring_e_1_55 {pr : Ct} {sc : Nat × (Nat → Int32)} {X : En} (d : Nat) {σ2 : St} (k34 : Int32 → Int32 → Int32 → Int32 → Int32 → St → Option (St)) (hk34 : ∀ (x1 : Int32) (x2 : Int32) (x3 : Int32) (x5 : Int32) (x6 : Int32) (σ : St), k34 x1 x2 x3 x5 x6 σ = some σ2 → Ex mr_X7_bring sc (Cl MT pr sc (d + 2)) (rtE none (mk X) σ2) (34, [(0, .ref 1), (1, .int x1), (2, .int x2), (3, .int x3), (4, .ref 15), (5, .int x5), (6, .int x6)], [], mk X, σ)) (x1 : Int32) (x2 : Int32) (x3 : Int32) (x5 : Int32) (x6 : Int32) (y0 : Int32) (σ : St) (h : f_X7_bring_e_55 1 k34 x1 x2 x3 x5 x6 y0 σ = some σ2) : Ex mr_X7_bring sc (Cl MT pr sc (d + 2)) (rtE none (mk X) σ2) (55, [(0, .ref 1), (1, .int x1), (2, .int x2), (3, .int x3), (4, .ref 15), (5, .int x5), (6, .int x6)], [.int y0], mk X, σ) := by
  unfold f_X7_bring_e_55 at h
  refine Ex.blk 5 rfl ?_
  obtain ⟨p2, hp2, h⟩ := bind_sp h
  refine Exists.intro (some (.int p2.1)) (Exists.intro (mk X) (Exists.intro p2.2 (And.intro (cl_X9_digitOf (d + 1) hp2) ?_)))
  show Ex mr_X7_bring sc (Cl MT pr sc (d + 2)) (rtE none (mk X) σ2) (64, [(7, .int y0), (0, .ref 1), (1, .int x1), (2, .int x2), (3, .int x3), (4, .ref 15), (5, .int x5), (6, .int x6)], [.int p2.1], mk X, p2.2)
  refine Ex.blk 1000 rfl ?_
  refine Ex.blk 4 rfl ?_
  obtain ⟨p3, hp3, h⟩ := bind_sp h
  refine Exists.intro (some (.int p3.1)) (Exists.intro (mk X) (Exists.intro p3.2 (And.intro (cl_X7_draw_1 (d + 1) hp3) ?_)))
  show Ex mr_X7_bring sc (Cl MT pr sc (d + 2)) (rtE none (mk X) σ2) (84, [(8, .int p2.1), (7, .int y0), (0, .ref 1), (1, .int x1), (2, .int x2), (3, .int x3), (4, .ref 15), (5, .int x5), (6, .int x6)], [.int p3.1, .int p2.1, .ref 15], mk X, p3.2)
  refine Ex.blk 1 rfl ?_
  obtain ⟨p4, hp4, h⟩ := bind_sp h
  refine Exists.intro (some (.int p4.1)) (Exists.intro (mk X) (Exists.intro p4.2 (And.intro (cl_X1_hears (d + 1) hp4) ?_)))
  show Ex mr_X7_bring sc (Cl MT pr sc (d + 2)) (rtE none (mk X) σ2) (87, [(8, .int p2.1), (7, .int y0), (0, .ref 1), (1, .int x1), (2, .int x2), (3, .int x3), (4, .ref 15), (5, .int x5), (6, .int x6)], [.int p4.1], mk X, p4.2)
  refine Ex.pick (lv' := _) [2, 3, 4, 5, 6, 7, 8, 1] rfl ?_
  exact lk_X7_bring_e_1_87 d _ hk34 _ _ _ _ _ _ _ _ h
theorem lk_X7_bring_e_1_34 {pr : Ct} {sc : Nat × (Nat → Int32)} {X : En} (d : Nat) {σ2 : St} : ∀ (n : Nat) (x1 : Int32) (x2 : Int32) (x3 : Int32) (x5 : Int32) (x6 : Int32) (σ : St), f_X7_bring_e_34 1 n x1 x2 x3 x5 x6 σ = some σ2 → Ex mr_X7_bring sc (Cl MT pr sc (d + 2)) (rtE none (mk X) σ2) (34, [(0, .ref 1), (1, .int x1), (2, .int x2), (3, .int x3), (4, .ref 15), (5, .int x5), (6, .int x6)], [], mk X, σ) := by
  intro n
  induction n with
  | zero =>
    intro x1 x2 x3 x5 x6 σ h
    cases h
  | succ n ih =>
    intro x1 x2 x3 x5 x6 σ h
    simp only [f_X7_bring_e_34] at h
    refine Ex.blk 1000 rfl ?_
    rcases ite_sp h with ⟨c1, h⟩ | ⟨c1, h⟩
    · refine And.intro (fun _ => ?_) (fun hn => absurd c1 hn)
      show Ex mr_X7_bring sc (Cl MT pr sc (d + 2)) (rtE none (mk X) σ2) (113, [(0, .ref 1), (1, .int x1), (2, .int x2), (3, .int x3), (4, .ref 15), (5, .int x5), (6, .int x6)], [], mk X, σ)
      refine Ex.blk 1000 rfl ?_
      cases h
      exact And.intro trivial ⟨rfl, rfl, rfl⟩
    · refine And.intro (fun hp => absurd hp c1) (fun _ => ?_)
      show Ex mr_X7_bring sc (Cl MT pr sc (d + 2)) (rtE none (mk X) σ2) (41, [(0, .ref 1), (1, .int x1), (2, .int x2), (3, .int x3), (4, .ref 15), (5, .int x5), (6, .int x6)], [], mk X, σ)
      refine Ex.blk 1000 rfl ?_
      rcases ite_sp h with ⟨c2, h⟩ | ⟨c2, h⟩
      · refine And.intro (fun hp => absurd c2 hp) (fun _ => ?_)
        show Ex mr_X7_bring sc (Cl MT pr sc (d + 2)) (rtE none (mk X) σ2) (45, [(0, .ref 1), (1, .int x1), (2, .int x2), (3, .int x3), (4, .ref 15), (5, .int x5), (6, .int x6)], [], mk X, σ)
        refine Ex.blk 1000 rfl ?_
        show Ex mr_X7_bring sc (Cl MT pr sc (d + 2)) (rtE none (mk X) σ2) (55, [(0, .ref 1), (1, .int x1), (2, .int x2), (3, .int x3), (4, .ref 15), (5, .int x5), (6, .int x6)], [.int x6], mk X, σ)
        exact lk_X7_bring_e_1_55 d _ ih _ _ _ _ _ _ _ h
      · refine And.intro (fun _ => ?_) (fun hn => absurd c2 hn)
        show Ex mr_X7_bring sc (Cl MT pr sc (d + 2)) (rtE none (mk X) σ2) (50, [(0, .ref 1), (1, .int x1), (2, .int x2), (3, .int x3), (4, .ref 15), (5, .int x5), (6, .int x6)], [], mk X, σ)
        refine Ex.blk 1000 rfl ?_
        show Ex mr_X7_bring sc (Cl MT pr sc (d + 2)) (rtE none (mk X) σ2) (55, [(0, .ref 1), (1, .int x1), (2, .int x2), (3, .int x3), (4, .ref 15), (5, .int x5), (6, .int x6)], [.int (x5 - x6)], mk X, σ)
        exact lk_X7_bring_e_1_55 d _ ih _ _ _ _ _ _ _ h
theorem lk_X7_bring_e_1_24 {pr : Ct} {sc : Nat × (Nat → Int32)} {X : En} (d : Nat) {σ2 : St} (x1 : Int32) (x2 : Int32) (x3 : Int32) (σ : St) (h : f_X7_bring_e_24 1 x1 x2 x3 σ = some σ2) : Ex mr_X7_bring sc (Cl MT pr sc (d + 2)) (rtE none (mk X) σ2) (24, [(0, .ref 1), (1, .int x1), (2, .int x2), (3, .int x3), (4, .ref 15)], [], mk X, σ) := by
  unfold f_X7_bring_e_24 at h
  refine Ex.blk 3 rfl ?_
  obtain ⟨p1, hp1, h⟩ := bind_sp h
  refine Exists.intro (some (.int p1.1)) (Exists.intro (mk X) (Exists.intro p1.2 (And.intro (cl_X7_topRope_1 (d + 0) hp1) ?_)))
  show Ex mr_X7_bring sc (Cl MT pr sc (d + 2)) (rtE none (mk X) σ2) (29, [(0, .ref 1), (1, .int x1), (2, .int x2), (3, .int x3), (4, .ref 15)], [.int p1.1], mk X, p1.2)
  refine Ex.blk 1000 rfl ?_
  show Ex mr_X7_bring sc (Cl MT pr sc (d + 2)) (rtE none (mk X) σ2) (34, [(6, .int 0), (5, .int p1.1), (0, .ref 1), (1, .int x1), (2, .int x2), (3, .int x3), (4, .ref 15)], [], mk X, p1.2)
  refine Ex.pick (lv' := _) [2, 3, 4, 5, 6, 1, 0] rfl ?_
  exact lk_X7_bring_e_1_34 d FU _ _ _ _ _ _ h
theorem cl_X7_bring_e_1 {pr : Ct} {sc : Nat × (Nat → Int32)} {X : En} (d : Nat) {σ2 : St} {x1 : Int32} {x2 : Int32} {x3 : Int32} {σ : St} (h : f_X7_bring_e 1 x1 x2 x3 σ = some σ2) : Cl MT pr sc (d + 2 + 1) 37 [.ref 1, .int x1, .int x2, .int x3, .ref 15] (mk X) σ none (mk X) σ2 := by
  refine cl_of mr_X7_bring rfl rfl ?_
  unfold f_X7_bring_e at h
  refine Ex.blk 5 rfl ?_
  show Ex mr_X7_bring sc (Cl MT pr sc (d + 2)) (rtE none (mk X) σ2) (9, [(0, .ref 1), (1, .int x1), (2, .int x2), (3, .int x3), (4, .ref 15)], [.int (gI σ 1 0), .ref TN, .long x1.toInt64], mk X, σ)
  refine Ex.blk 1 rfl ?_
  obtain ⟨g1, h⟩ := gd_some h
  refine And.intro (inb_ok g1) ?_
  show Ex mr_X7_bring sc (Cl MT pr sc (d + 2)) (rtE none (mk X) σ2) (10, [(0, .ref 1), (1, .int x1), (2, .int x2), (3, .int x3), (4, .ref 15)], [.long (tens (gI σ 1 0).toNatClampNeg), .long x1.toInt64], mk X, σ)
  refine Ex.blk 1000 rfl ?_
  rcases ite_sp h with ⟨c2, h⟩ | ⟨c2, h⟩
  · refine And.intro (fun _ => ?_) (fun hn => absurd c2 hn)
    show Ex mr_X7_bring sc (Cl MT pr sc (d + 2)) (rtE none (mk X) σ2) (24, [(0, .ref 1), (1, .int x1), (2, .int x2), (3, .int x3), (4, .ref 15)], [], mk X, σ)
    exact lk_X7_bring_e_1_24 d _ _ _ _ h
  · refine And.intro (fun hp => absurd hp c2) (fun _ => ?_)
    show Ex mr_X7_bring sc (Cl MT pr sc (d + 2)) (rtE none (mk X) σ2) (14, [(0, .ref 1), (1, .int x1), (2, .int x2), (3, .int x3), (4, .ref 15)], [], mk X, σ)
    refine Ex.blk 5 rfl ?_
    show Ex mr_X7_bring sc (Cl MT pr sc (d + 2)) (rtE none (mk X) σ2) (21, [(0, .ref 1), (1, .int x1), (2, .int x2), (3, .int x3), (4, .ref 15)], [.int ((gI σ 1 10) + 1), .ref 1], mk X, σ)
    refine Ex.blk 1000 rfl ?_
    show Ex mr_X7_bring sc (Cl MT pr sc (d + 2)) (rtE none (mk X) σ2) (24, [(0, .ref 1), (1, .int x1), (2, .int x2), (3, .int x3), (4, .ref 15)], [], mk X, (sI σ 1 10 ((gI σ 1 10) + 1)))
    exact lk_X7_bring_e_1_24 d _ _ _ _ h
theorem lk_X7_twice_1_7 {pr : Ct} {sc : Nat × (Nat → Int32)} {X : En} (d : Nat) {σ2 : St} : ∀ (n : Nat) (x1 : Int32) (σ : St), f_X7_twice_7 1 n x1 σ = some σ2 → Ex mr_X7_twice sc (Cl MT pr sc (d + 2)) (rtE none (mk X) σ2) (7, [(0, .ref 1), (1, .int x1)], [], mk X, σ) := by
  intro n
  induction n with
  | zero =>
    intro x1 σ h
    cases h
  | succ n ih =>
    intro x1 σ h
    simp only [f_X7_twice_7] at h
    refine Ex.blk 1000 rfl ?_
    rcases ite_sp h with ⟨c1, h⟩ | ⟨c1, h⟩
    · refine And.intro (fun _ => ?_) (fun hn => absurd c1 hn)
      show Ex mr_X7_twice sc (Cl MT pr sc (d + 2)) (rtE none (mk X) σ2) (28, [(0, .ref 1), (1, .int x1)], [], mk X, σ)
      refine Ex.blk 1000 rfl ?_
      cases h
      exact And.intro trivial ⟨rfl, rfl, rfl⟩
    · refine And.intro (fun hp => absurd hp c1) (fun _ => ?_)
      show Ex mr_X7_twice sc (Cl MT pr sc (d + 2)) (rtE none (mk X) σ2) (11, [(0, .ref 1), (1, .int x1)], [], mk X, σ)
      refine Ex.blk 5 rfl ?_
      show Ex mr_X7_twice sc (Cl MT pr sc (d + 2)) (rtE none (mk X) σ2) (18, [(0, .ref 1), (1, .int x1)], [.int x1, .ref 2, .int x1, .ref 1], mk X, σ)
      refine Ex.blk 1 rfl ?_
      obtain ⟨g2, h⟩ := gd_some h
      refine And.intro (inb_ok g2) ?_
      show Ex mr_X7_twice sc (Cl MT pr sc (d + 2)) (rtE none (mk X) σ2) (19, [(0, .ref 1), (1, .int x1)], [.int (gI σ 2 x1.toNatClampNeg), .int x1, .ref 1], mk X, σ)
      refine Ex.blk 1 rfl ?_
      obtain ⟨p1, hp1, h⟩ := bind_sp h
      refine Exists.intro none (Exists.intro (mk X) (Exists.intro p1 (And.intro (cl_X7_drive_1 (d + 0) hp1) ?_)))
      show Ex mr_X7_twice sc (Cl MT pr sc (d + 2)) (rtE none (mk X) σ2) (22, [(0, .ref 1), (1, .int x1)], [], mk X, p1)
      refine Ex.blk 1000 rfl ?_
      show Ex mr_X7_twice sc (Cl MT pr sc (d + 2)) (rtE none (mk X) σ2) (7, [(1, .int (x1 + (-1))), (0, .ref 1)], [], mk X, p1)
      refine Ex.pick (lv' := _) [1, 0] rfl ?_
      exact ih _ _ h
theorem cl_X7_twice_1 {pr : Ct} {sc : Nat × (Nat → Int32)} {X : En} (d : Nat) {σ2 : St} {σ : St} (h : f_X7_twice 1 σ = some σ2) : Cl MT pr sc (d + 2 + 1) 71 [.ref 1] (mk X) σ none (mk X) σ2 := by
  refine cl_of mr_X7_twice rfl rfl ?_
  unfold f_X7_twice at h
  refine Ex.blk 1000 rfl ?_
  show Ex mr_X7_twice sc (Cl MT pr sc (d + 2)) (rtE none (mk X) σ2) (7, [(1, .int ((gI σ 1 0) - 1)), (0, .ref 1)], [], mk X, σ)
  refine Ex.pick (lv' := _) [1, 0] rfl ?_
  exact lk_X7_twice_1_7 d FU _ _ h
theorem lk_X7_halve_1_37 {pr : Ct} {sc : Nat × (Nat → Int32)} {X : En} (d : Nat) {σ2 : St} (k9 : Int32 → Int32 → St → Option (St)) (hk9 : ∀ (x1 : Int32) (x2 : Int32) (σ : St), k9 x1 x2 σ = some σ2 → Ex mr_X7_halve sc (Cl MT pr sc (d + 1)) (rtE none (mk X) σ2) (9, [(0, .ref 1), (1, .int x1), (2, .int x2)], [], mk X, σ)) (x1 : Int32) (x2 : Int32) (σ : St) (h : f_X7_halve_37 1 k9 x1 x2 σ = some σ2) : Ex mr_X7_halve sc (Cl MT pr sc (d + 1)) (rtE none (mk X) σ2) (37, [(0, .ref 1), (1, .int x1), (2, .int x2)], [], mk X, σ) := by
  unfold f_X7_halve_37 at h
  refine Ex.blk 1000 rfl ?_
  show Ex mr_X7_halve sc (Cl MT pr sc (d + 1)) (rtE none (mk X) σ2) (9, [(2, .int (x2 + (-1))), (0, .ref 1), (1, .int x1)], [], mk X, σ)
  refine Ex.pick (lv' := _) [1, 2, 0] rfl ?_
  exact hk9 _ _ _ h
theorem lk_X7_halve_1_25 {pr : Ct} {sc : Nat × (Nat → Int32)} {X : En} (d : Nat) {σ2 : St} (k9 : Int32 → Int32 → St → Option (St)) (hk9 : ∀ (x1 : Int32) (x2 : Int32) (σ : St), k9 x1 x2 σ = some σ2 → Ex mr_X7_halve sc (Cl MT pr sc (d + 1)) (rtE none (mk X) σ2) (9, [(0, .ref 1), (1, .int x1), (2, .int x2)], [], mk X, σ)) (x2 : Int32) (x3 : Int32) (σ : St) (h : f_X7_halve_25 1 k9 x2 x3 σ = some σ2) : Ex mr_X7_halve sc (Cl MT pr sc (d + 1)) (rtE none (mk X) σ2) (25, [(0, .ref 1), (2, .int x2), (3, .int x3)], [], mk X, σ) := by
  unfold f_X7_halve_25 at h
  refine Ex.blk 5 rfl ?_
  refine And.intro (nzI_ok (b := 2) (by decide)) ?_
  show Ex mr_X7_halve sc (Cl MT pr sc (d + 1)) (rtE none (mk X) σ2) (30, [(0, .ref 1), (2, .int x2), (3, .int x3)], [.int (x3 / 2), .int x2, .ref 1], mk X, σ)
  refine Ex.blk 1 rfl ?_
  obtain ⟨p1, hp1, h⟩ := bind_sp h
  refine Exists.intro none (Exists.intro (mk X) (Exists.intro p1 (And.intro (cl_X7_stand_1 (d + 0) hp1) ?_)))
  show Ex mr_X7_halve sc (Cl MT pr sc (d + 1)) (rtE none (mk X) σ2) (33, [(0, .ref 1), (2, .int x2), (3, .int x3)], [], mk X, p1)
  refine Ex.blk 3 rfl ?_
  refine And.intro (nzI_ok (b := 2) (by decide)) ?_
  show Ex mr_X7_halve sc (Cl MT pr sc (d + 1)) (rtE none (mk X) σ2) (36, [(0, .ref 1), (2, .int x2), (3, .int x3)], [.int (rmI x3 2)], mk X, p1)
  refine Ex.blk 1 rfl ?_
  show Ex mr_X7_halve sc (Cl MT pr sc (d + 1)) (rtE none (mk X) σ2) (37, [(1, .int (rmI x3 2)), (0, .ref 1), (2, .int x2), (3, .int x3)], [], mk X, p1)
  refine Ex.pick (lv' := _) [1, 0, 2] rfl ?_
  exact lk_X7_halve_1_37 d _ hk9 _ _ _ h
theorem lk_X7_halve_1_9 {pr : Ct} {sc : Nat × (Nat → Int32)} {X : En} (d : Nat) {σ2 : St} : ∀ (n : Nat) (x1 : Int32) (x2 : Int32) (σ : St), f_X7_halve_9 1 n x1 x2 σ = some σ2 → Ex mr_X7_halve sc (Cl MT pr sc (d + 1)) (rtE none (mk X) σ2) (9, [(0, .ref 1), (1, .int x1), (2, .int x2)], [], mk X, σ) := by
  intro n
  induction n with
  | zero =>
    intro x1 x2 σ h
    cases h
  | succ n ih =>
    intro x1 x2 σ h
    simp only [f_X7_halve_9] at h
    refine Ex.blk 1000 rfl ?_
    rcases ite_sp h with ⟨c1, h⟩ | ⟨c1, h⟩
    · refine And.intro (fun _ => ?_) (fun hn => absurd c1 hn)
      show Ex mr_X7_halve sc (Cl MT pr sc (d + 1)) (rtE none (mk X) σ2) (43, [(0, .ref 1), (1, .int x1), (2, .int x2)], [], mk X, σ)
      refine Ex.blk 1000 rfl ?_
      cases h
      exact And.intro trivial ⟨rfl, rfl, rfl⟩
    · refine And.intro (fun hp => absurd hp c1) (fun _ => ?_)
      show Ex mr_X7_halve sc (Cl MT pr sc (d + 1)) (rtE none (mk X) σ2) (13, [(0, .ref 1), (1, .int x1), (2, .int x2)], [], mk X, σ)
      refine Ex.blk 5 rfl ?_
      show Ex mr_X7_halve sc (Cl MT pr sc (d + 1)) (rtE none (mk X) σ2) (21, [(0, .ref 1), (1, .int x1), (2, .int x2)], [.ref 2, .int (10 * x1)], mk X, σ)
      refine Ex.blk 2 rfl ?_
      obtain ⟨g2, h⟩ := gd_some h
      refine And.intro (inb_ok g2) ?_
      show Ex mr_X7_halve sc (Cl MT pr sc (d + 1)) (rtE none (mk X) σ2) (23, [(0, .ref 1), (1, .int x1), (2, .int x2)], [.int (gI σ 2 x2.toNatClampNeg), .int (10 * x1)], mk X, σ)
      refine Ex.blk 2 rfl ?_
      show Ex mr_X7_halve sc (Cl MT pr sc (d + 1)) (rtE none (mk X) σ2) (25, [(3, .int ((10 * x1) + (gI σ 2 x2.toNatClampNeg))), (0, .ref 1), (1, .int x1), (2, .int x2)], [], mk X, σ)
      refine Ex.pick (lv' := _) [1, 3, 0] rfl ?_
      exact lk_X7_halve_1_25 d _ ih _ _ _ h
theorem cl_X7_halve_1 {pr : Ct} {sc : Nat × (Nat → Int32)} {X : En} (d : Nat) {σ2 : St} {σ : St} (h : f_X7_halve 1 σ = some σ2) : Cl MT pr sc (d + 1 + 1) 72 [.ref 1] (mk X) σ none (mk X) σ2 := by
  refine cl_of mr_X7_halve rfl rfl ?_
  unfold f_X7_halve at h
  refine Ex.blk 5 rfl ?_
  show Ex mr_X7_halve sc (Cl MT pr sc (d + 1)) (rtE none (mk X) σ2) (7, [(1, .int 0), (0, .ref 1)], [.int 1, .int (gI σ 1 0)], mk X, σ)
  refine Ex.blk 1000 rfl ?_
  show Ex mr_X7_halve sc (Cl MT pr sc (d + 1)) (rtE none (mk X) σ2) (9, [(2, .int ((gI σ 1 0) - 1)), (1, .int 0), (0, .ref 1)], [], mk X, σ)
  refine Ex.pick (lv' := _) [2, 1, 0] rfl ?_
  exact lk_X7_halve_1_9 d FU _ _ _ h
theorem lk_X7_empty_1_2 {pr : Ct} {sc : Nat × (Nat → Int32)} {X : En} (d : Nat) {σ2 : St} : ∀ (n : Nat) (x1 : Int32) (σ : St), f_X7_empty_2 1 n x1 σ = some σ2 → Ex mr_X7_empty sc (Cl MT pr sc (d + 1)) (rtE none (mk X) σ2) (2, [(0, .ref 1), (1, .int x1)], [], mk X, σ) := by
  intro n
  induction n with
  | zero =>
    intro x1 σ h
    cases h
  | succ n ih =>
    intro x1 σ h
    simp only [f_X7_empty_2] at h
    refine Ex.blk 1000 rfl ?_
    rcases ite_sp h with ⟨c1, h⟩ | ⟨c1, h⟩
    · refine And.intro (fun _ => ?_) (fun hn => absurd c1 hn)
      show Ex mr_X7_empty sc (Cl MT pr sc (d + 1)) (rtE none (mk X) σ2) (22, [(0, .ref 1), (1, .int x1)], [], mk X, σ)
      refine Ex.blk 1000 rfl ?_
      cases h
      exact And.intro trivial ⟨rfl, rfl, rfl⟩
    · refine And.intro (fun hp => absurd hp c1) (fun _ => ?_)
      show Ex mr_X7_empty sc (Cl MT pr sc (d + 1)) (rtE none (mk X) σ2) (10, [(0, .ref 1), (1, .int x1)], [], mk X, σ)
      refine Ex.blk 4 rfl ?_
      obtain ⟨p1, hp1, h⟩ := bind_sp h
      refine Exists.intro none (Exists.intro (mk X) (Exists.intro p1 (And.intro (cl_X7_stand_1 (d + 0) hp1) ?_)))
      show Ex mr_X7_empty sc (Cl MT pr sc (d + 1)) (rtE none (mk X) σ2) (16, [(0, .ref 1), (1, .int x1)], [], mk X, p1)
      refine Ex.blk 1000 rfl ?_
      show Ex mr_X7_empty sc (Cl MT pr sc (d + 1)) (rtE none (mk X) σ2) (2, [(1, .int (x1 + 1)), (0, .ref 1)], [], mk X, p1)
      refine Ex.pick (lv' := _) [1, 0] rfl ?_
      exact ih _ _ h
theorem cl_X7_empty_1 {pr : Ct} {sc : Nat × (Nat → Int32)} {X : En} (d : Nat) {σ2 : St} {σ : St} (h : f_X7_empty 1 σ = some σ2) : Cl MT pr sc (d + 1 + 1) 73 [.ref 1] (mk X) σ none (mk X) σ2 := by
  refine cl_of mr_X7_empty rfl rfl ?_
  unfold f_X7_empty at h
  refine Ex.blk 1000 rfl ?_
  show Ex mr_X7_empty sc (Cl MT pr sc (d + 1)) (rtE none (mk X) σ2) (2, [(1, .int 0), (0, .ref 1)], [], mk X, σ)
  refine Ex.pick (lv' := _) [1, 0] rfl ?_
  exact lk_X7_empty_1_2 d FU _ _ h
theorem lk_X9_perform_e_1_92 {pr : Ct} {sc : Nat × (Nat → Int32)} {X : En} (d : Nat) {σ2 : St} (x5 : Int32) (x6 : Int32) (σ : St) (h : f_X9_perform_e_92 1 x5 x6 σ = some σ2) : Ex mr_X9_perform sc (Cl MT pr sc (d + 3)) (rtE none (mk X) σ2) (92, [(0, .ref 0), (1, .ref 1), (5, .int x5), (6, .int x6)], [], mk X, σ) := by
  unfold f_X9_perform_e_92 at h
  refine Ex.blk 5 rfl ?_
  show Ex mr_X9_perform sc (Cl MT pr sc (d + 3)) (rtE none (mk X) σ2) (101, [(0, .ref 0), (1, .ref 1), (5, .int x5), (6, .int x6)], [.int (gI σ 1 7), .int (gI σ 1 9), .ref 1], mk X, σ)
  refine Ex.blk 5 rfl ?_
  show Ex mr_X9_perform sc (Cl MT pr sc (d + 3)) (rtE none (mk X) σ2) (109, [(0, .ref 0), (1, .ref 1), (5, .int x5), (6, .int x6)], [.int (((gI σ 1 7) - x5) * (gI σ 0 15)), .int (gI σ 1 9), .ref 1], mk X, σ)
  refine Ex.blk 5 rfl ?_
  show Ex mr_X9_perform sc (Cl MT pr sc (d + 3)) (rtE none (mk X) σ2) (117, [(0, .ref 0), (1, .ref 1), (5, .int x5), (6, .int x6)], [.ref 0, .int ((gI σ 1 8) - x6), .int (((gI σ 1 7) - x5) * (gI σ 0 15)), .int (gI σ 1 9), .ref 1], mk X, σ)
  refine Ex.blk 5 rfl ?_
  show Ex mr_X9_perform sc (Cl MT pr sc (d + 3)) (rtE none (mk X) σ2) (126, [(0, .ref 0), (1, .ref 1), (5, .int x5), (6, .int x6)], [], mk X, (sI σ 1 9 ((gI σ 1 9) + ((((gI σ 1 7) - x5) * (gI σ 0 15)) + (((gI σ 1 8) - x6) * (gI σ 0 16))))))
  refine Ex.blk 1000 rfl ?_
  cases h
  exact And.intro trivial ⟨rfl, rfl, rfl⟩
theorem lk_X9_perform_e_1_12 {pr : Ct} {sc : Nat × (Nat → Int32)} {X : En} (d : Nat) {σ2 : St} (x2 : Int32) (x3 : Int32) (x5 : Int32) (x6 : Int32) (σ : St) (h : f_X9_perform_e_12 1 x2 x3 x5 x6 σ = some σ2) : Ex mr_X9_perform sc (Cl MT pr sc (d + 3)) (rtE none (mk X) σ2) (12, [(0, .ref 0), (1, .ref 1), (2, .int x2), (3, .int x3), (4, .ref 15), (5, .int x5), (6, .int x6)], [], mk X, σ) := by
  unfold f_X9_perform_e_12 at h
  refine Ex.blk 1000 rfl ?_
  rcases ite_sp h with ⟨c1, h⟩ | ⟨c1, h⟩
  · refine And.intro (fun _ => ?_) (fun hn => absurd (c1.trans (by decide)) hn)
    show Ex mr_X9_perform sc (Cl MT pr sc (d + 3)) (rtE none (mk X) σ2) (44, [(0, .ref 0), (1, .ref 1), (2, .int x2), (3, .int x3), (4, .ref 15), (5, .int x5), (6, .int x6)], [], mk X, σ)
    refine Ex.blk 5 rfl ?_
    show Ex mr_X9_perform sc (Cl MT pr sc (d + 3)) (rtE none (mk X) σ2) (51, [(0, .ref 0), (1, .ref 1), (2, .int x2), (3, .int x3), (4, .ref 15), (5, .int x5), (6, .int x6)], [.int (gI σ 0 14), .int 0, .int x3, .ref 1], mk X, σ)
    refine Ex.blk 2 rfl ?_
    obtain ⟨p1, hp1, h⟩ := bind_sp h
    refine Exists.intro none (Exists.intro (mk X) (Exists.intro p1 (And.intro (cl_X7_bring_e_1 (d + 0) hp1) ?_)))
    show Ex mr_X9_perform sc (Cl MT pr sc (d + 3)) (rtE none (mk X) σ2) (56, [(0, .ref 0), (1, .ref 1), (2, .int x2), (3, .int x3), (4, .ref 15), (5, .int x5), (6, .int x6)], [], mk X, p1)
    refine Ex.blk 1000 rfl ?_
    show Ex mr_X9_perform sc (Cl MT pr sc (d + 3)) (rtE none (mk X) σ2) (92, [(0, .ref 0), (1, .ref 1), (2, .int x2), (3, .int x3), (4, .ref 15), (5, .int x5), (6, .int x6)], [], mk X, p1)
    refine Ex.pick (lv' := _) [0, 1, 5, 6] rfl ?_
    exact lk_X9_perform_e_1_92 d _ _ _ h
  refine And.intro (fun hp => absurd (hp.trans (by decide)) c1) (fun _ => ?_)
  rcases ite_sp h with ⟨c2, h⟩ | ⟨c2, h⟩
  · refine And.intro (fun _ => ?_) (fun hn => absurd (c2.trans (by decide)) hn)
    show Ex mr_X9_perform sc (Cl MT pr sc (d + 3)) (rtE none (mk X) σ2) (59, [(0, .ref 0), (1, .ref 1), (2, .int x2), (3, .int x3), (4, .ref 15), (5, .int x5), (6, .int x6)], [], mk X, σ)
    refine Ex.blk 5 rfl ?_
    show Ex mr_X9_perform sc (Cl MT pr sc (d + 3)) (rtE none (mk X) σ2) (66, [(0, .ref 0), (1, .ref 1), (2, .int x2), (3, .int x3), (4, .ref 15), (5, .int x5), (6, .int x6)], [.int (gI σ 0 14), .int 1, .int x3, .ref 1], mk X, σ)
    refine Ex.blk 2 rfl ?_
    obtain ⟨p2, hp2, h⟩ := bind_sp h
    refine Exists.intro none (Exists.intro (mk X) (Exists.intro p2 (And.intro (cl_X7_bring_e_1 (d + 0) hp2) ?_)))
    show Ex mr_X9_perform sc (Cl MT pr sc (d + 3)) (rtE none (mk X) σ2) (71, [(0, .ref 0), (1, .ref 1), (2, .int x2), (3, .int x3), (4, .ref 15), (5, .int x5), (6, .int x6)], [], mk X, p2)
    refine Ex.blk 1000 rfl ?_
    show Ex mr_X9_perform sc (Cl MT pr sc (d + 3)) (rtE none (mk X) σ2) (92, [(0, .ref 0), (1, .ref 1), (2, .int x2), (3, .int x3), (4, .ref 15), (5, .int x5), (6, .int x6)], [], mk X, p2)
    refine Ex.pick (lv' := _) [0, 1, 5, 6] rfl ?_
    exact lk_X9_perform_e_1_92 d _ _ _ h
  refine And.intro (fun hp => absurd (hp.trans (by decide)) c2) (fun _ => ?_)
  rcases ite_sp h with ⟨c3, h⟩ | ⟨c3, h⟩
  · refine And.intro (fun _ => ?_) (fun hn => absurd (c3.trans (by decide)) hn)
    show Ex mr_X9_perform sc (Cl MT pr sc (d + 3)) (rtE none (mk X) σ2) (74, [(0, .ref 0), (1, .ref 1), (2, .int x2), (3, .int x3), (4, .ref 15), (5, .int x5), (6, .int x6)], [], mk X, σ)
    refine Ex.blk 2 rfl ?_
    obtain ⟨p3, hp3, h⟩ := bind_sp h
    refine Exists.intro none (Exists.intro (mk X) (Exists.intro p3 (And.intro (cl_X7_twice_1 (d + 0) hp3) ?_)))
    show Ex mr_X9_perform sc (Cl MT pr sc (d + 3)) (rtE none (mk X) σ2) (78, [(0, .ref 0), (1, .ref 1), (2, .int x2), (3, .int x3), (4, .ref 15), (5, .int x5), (6, .int x6)], [], mk X, p3)
    refine Ex.blk 1000 rfl ?_
    show Ex mr_X9_perform sc (Cl MT pr sc (d + 3)) (rtE none (mk X) σ2) (92, [(0, .ref 0), (1, .ref 1), (2, .int x2), (3, .int x3), (4, .ref 15), (5, .int x5), (6, .int x6)], [], mk X, p3)
    refine Ex.pick (lv' := _) [0, 1, 5, 6] rfl ?_
    exact lk_X9_perform_e_1_92 d _ _ _ h
  refine And.intro (fun hp => absurd (hp.trans (by decide)) c3) (fun _ => ?_)
  rcases ite_sp h with ⟨c4, h⟩ | ⟨c4, h⟩
  · refine And.intro (fun _ => ?_) (fun hn => absurd (c4.trans (by decide)) hn)
    show Ex mr_X9_perform sc (Cl MT pr sc (d + 3)) (rtE none (mk X) σ2) (81, [(0, .ref 0), (1, .ref 1), (2, .int x2), (3, .int x3), (4, .ref 15), (5, .int x5), (6, .int x6)], [], mk X, σ)
    refine Ex.blk 2 rfl ?_
    obtain ⟨p4, hp4, h⟩ := bind_sp h
    refine Exists.intro none (Exists.intro (mk X) (Exists.intro p4 (And.intro (cl_X7_halve_1 (d + 1) hp4) ?_)))
    show Ex mr_X9_perform sc (Cl MT pr sc (d + 3)) (rtE none (mk X) σ2) (85, [(0, .ref 0), (1, .ref 1), (2, .int x2), (3, .int x3), (4, .ref 15), (5, .int x5), (6, .int x6)], [], mk X, p4)
    refine Ex.blk 1000 rfl ?_
    show Ex mr_X9_perform sc (Cl MT pr sc (d + 3)) (rtE none (mk X) σ2) (92, [(0, .ref 0), (1, .ref 1), (2, .int x2), (3, .int x3), (4, .ref 15), (5, .int x5), (6, .int x6)], [], mk X, p4)
    refine Ex.pick (lv' := _) [0, 1, 5, 6] rfl ?_
    exact lk_X9_perform_e_1_92 d _ _ _ h
  refine And.intro (fun hp => absurd (hp.trans (by decide)) c4) (fun _ => ?_)
  show Ex mr_X9_perform sc (Cl MT pr sc (d + 3)) (rtE none (mk X) σ2) (88, [(0, .ref 0), (1, .ref 1), (2, .int x2), (3, .int x3), (4, .ref 15), (5, .int x5), (6, .int x6)], [], mk X, σ)
  refine Ex.blk 2 rfl ?_
  obtain ⟨p5, hp5, h⟩ := bind_sp h
  refine Exists.intro none (Exists.intro (mk X) (Exists.intro p5 (And.intro (cl_X7_empty_1 (d + 1) hp5) ?_)))
  show Ex mr_X9_perform sc (Cl MT pr sc (d + 3)) (rtE none (mk X) σ2) (92, [(0, .ref 0), (1, .ref 1), (2, .int x2), (3, .int x3), (4, .ref 15), (5, .int x5), (6, .int x6)], [], mk X, p5)
  refine Ex.pick (lv' := _) [0, 1, 5, 6] rfl ?_
  exact lk_X9_perform_e_1_92 d _ _ _ h
theorem lk_X9_perform_e_1_6 {pr : Ct} {sc : Nat × (Nat → Int32)} {X : En} (d : Nat) {σ2 : St} (x2 : Int32) (x3 : Int32) (x5 : Int32) (σ : St) (h : f_X9_perform_e_6 1 x2 x3 x5 σ = some σ2) : Ex mr_X9_perform sc (Cl MT pr sc (d + 3)) (rtE none (mk X) σ2) (6, [(0, .ref 0), (1, .ref 1), (2, .int x2), (3, .int x3), (4, .ref 15), (5, .int x5)], [], mk X, σ) := by
  unfold f_X9_perform_e_6 at h
  refine Ex.blk 3 rfl ?_
  show Ex mr_X9_perform sc (Cl MT pr sc (d + 3)) (rtE none (mk X) σ2) (12, [(6, .int (gI σ 1 8)), (0, .ref 0), (1, .ref 1), (2, .int x2), (3, .int x3), (4, .ref 15), (5, .int x5)], [], mk X, σ)
  refine Ex.pick (lv' := _) [1, 2, 3, 4, 5, 6, 0] rfl ?_
  exact lk_X9_perform_e_1_12 d _ _ _ _ _ h
theorem cl_X9_perform_e_1 {pr : Ct} {sc : Nat × (Nat → Int32)} {X : En} (d : Nat) {σ2 : St} {x2 : Int32} {x3 : Int32} {σ : St} (h : f_X9_perform_e 1 x2 x3 σ = some σ2) : Cl MT pr sc (d + 3 + 1) 93 [.ref 0, .ref 1, .int x2, .int x3, .ref 15] (mk X) σ none (mk X) σ2 := by
  refine cl_of mr_X9_perform rfl rfl ?_
  unfold f_X9_perform_e at h
  refine Ex.blk 3 rfl ?_
  show Ex mr_X9_perform sc (Cl MT pr sc (d + 3)) (rtE none (mk X) σ2) (6, [(5, .int (gI σ 1 7)), (0, .ref 0), (1, .ref 1), (2, .int x2), (3, .int x3), (4, .ref 15)], [], mk X, σ)
  refine Ex.pick (lv' := _) [1, 2, 3, 4, 5, 0] rfl ?_
  exact lk_X9_perform_e_1_6 d _ _ _ _ h
