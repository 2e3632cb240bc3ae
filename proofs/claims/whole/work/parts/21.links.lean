theorem lk_X6_planRope_98 {pr : Ct} {sc : Nat × (Nat → Int32)} {X : En} (d : Nat) {r : Int32} {σ2 : St} (σ : St) (h : f_X6_planRope_98 σ = some (r, σ2)) : Ex mr_X6_planRope sc (Cl MT pr sc (d + 2)) (rtE (some (.int r)) (mk X) σ2) (98, [(0, .ref 21)], [], mk X, σ) := by
  unfold f_X6_planRope_98 at h
  refine Ex.blk 1000 rfl ?_
  cases h
  exact And.intro trivial ⟨rfl, rfl, rfl⟩
theorem lk_X6_planRope_79 {pr : Ct} {sc : Nat × (Nat → Int32)} {X : En} (d : Nat) {r : Int32} {σ2 : St} (x1 : Int32) (x3 : Int32) (x4 : Int32) (x6 : Int32) (σ : St) (h : f_X6_planRope_79 x1 x3 x4 x6 σ = some (r, σ2)) : Ex mr_X6_planRope sc (Cl MT pr sc (d + 2)) (rtE (some (.int r)) (mk X) σ2) (79, [(0, .ref 21), (1, .int x1), (3, .int x3), (4, .int x4), (6, .int x6)], [], mk X, σ) := by
  unfold f_X6_planRope_79 at h
  refine Ex.blk 1000 rfl ?_
  rcases ite_sp h with ⟨c1, h⟩ | ⟨c1, h⟩
  · refine And.intro (fun _ => ?_) (fun hn => absurd c1 hn)
    show Ex mr_X6_planRope sc (Cl MT pr sc (d + 2)) (rtE (some (.int r)) (mk X) σ2) (98, [(0, .ref 21), (1, .int x1), (3, .int x3), (4, .int x4), (6, .int x6)], [], mk X, σ)
    refine Ex.pick (lv' := _) [0] rfl ?_
    exact lk_X6_planRope_98 d _ h
  · refine And.intro (fun hp => absurd hp c1) (fun _ => ?_)
    show Ex mr_X6_planRope sc (Cl MT pr sc (d + 2)) (rtE (some (.int r)) (mk X) σ2) (84, [(0, .ref 21), (1, .int x1), (3, .int x3), (4, .int x4), (6, .int x6)], [], mk X, σ)
    refine Ex.blk 1000 rfl ?_
    rcases ite_sp h with ⟨c2, h⟩ | ⟨c2, h⟩
    · refine And.intro (fun hp => absurd c2 hp) (fun _ => ?_)
      show Ex mr_X6_planRope sc (Cl MT pr sc (d + 2)) (rtE (some (.int r)) (mk X) σ2) (89, [(0, .ref 21), (1, .int x1), (3, .int x3), (4, .int x4), (6, .int x6)], [], mk X, σ)
      refine Ex.blk 5 rfl ?_
      show Ex mr_X6_planRope sc (Cl MT pr sc (d + 2)) (rtE (some (.int r)) (mk X) σ2) (95, [(0, .ref 21), (1, .int x1), (3, .int x3), (4, .int x4), (6, .int x6)], [.int x4, .int 1, .int x3, .int x1, .ref 21], mk X, σ)
      refine Ex.blk 1 rfl ?_
      obtain ⟨p1, hp1, h⟩ := bind_sp h
      refine Exists.intro none (Exists.intro (mk X) (Exists.intro p1 (And.intro (cl_X6_driveFrom (d + 0) hp1) ?_)))
      show Ex mr_X6_planRope sc (Cl MT pr sc (d + 2)) (rtE (some (.int r)) (mk X) σ2) (98, [(0, .ref 21), (1, .int x1), (3, .int x3), (4, .int x4), (6, .int x6)], [], mk X, p1)
      refine Ex.pick (lv' := _) [0] rfl ?_
      exact lk_X6_planRope_98 d _ h
    · refine And.intro (fun _ => ?_) (fun hn => absurd c2 hn)
      show Ex mr_X6_planRope sc (Cl MT pr sc (d + 2)) (rtE (some (.int r)) (mk X) σ2) (98, [(0, .ref 21), (1, .int x1), (3, .int x3), (4, .int x4), (6, .int x6)], [], mk X, σ)
      refine Ex.pick (lv' := _) [0] rfl ?_
      exact lk_X6_planRope_98 d _ h
theorem lk_X6_planRope_64 {pr : Ct} {sc : Nat × (Nat → Int32)} {X : En} (d : Nat) {r : Int32} {σ2 : St} (x1 : Int32) (x2 : Int32) (x3 : Int32) (x4 : Int32) (x5 : Int32) (x6 : Int32) (σ : St) (h : f_X6_planRope_64 x1 x2 x3 x4 x5 x6 σ = some (r, σ2)) : Ex mr_X6_planRope sc (Cl MT pr sc (d + 2)) (rtE (some (.int r)) (mk X) σ2) (64, [(0, .ref 21), (1, .int x1), (2, .int x2), (3, .int x3), (4, .int x4), (5, .int x5), (6, .int x6)], [], mk X, σ) := by
  unfold f_X6_planRope_64 at h
  refine Ex.blk 1000 rfl ?_
  rcases ite_sp h with ⟨c1, h⟩ | ⟨c1, h⟩
  · refine And.intro (fun _ => ?_) (fun hn => absurd c1 hn)
    show Ex mr_X6_planRope sc (Cl MT pr sc (d + 2)) (rtE (some (.int r)) (mk X) σ2) (79, [(0, .ref 21), (1, .int x1), (2, .int x2), (3, .int x3), (4, .int x4), (5, .int x5), (6, .int x6)], [], mk X, σ)
    refine Ex.pick (lv' := _) [0, 1, 3, 4, 6] rfl ?_
    exact lk_X6_planRope_79 d _ _ _ _ _ h
  · refine And.intro (fun hp => absurd hp c1) (fun _ => ?_)
    show Ex mr_X6_planRope sc (Cl MT pr sc (d + 2)) (rtE (some (.int r)) (mk X) σ2) (69, [(0, .ref 21), (1, .int x1), (2, .int x2), (3, .int x3), (4, .int x4), (5, .int x5), (6, .int x6)], [], mk X, σ)
    refine Ex.blk 5 rfl ?_
    show Ex mr_X6_planRope sc (Cl MT pr sc (d + 2)) (rtE (some (.int r)) (mk X) σ2) (76, [(0, .ref 21), (1, .int x1), (2, .int x2), (3, .int x3), (4, .int x4), (5, .int x5), (6, .int x6)], [.int x4, .int x2, .int x5, .int x1, .ref 21], mk X, σ)
    refine Ex.blk 1 rfl ?_
    obtain ⟨p2, hp2, h⟩ := bind_sp h
    refine Exists.intro none (Exists.intro (mk X) (Exists.intro p2 (And.intro (cl_X6_driveFrom (d + 0) hp2) ?_)))
    show Ex mr_X6_planRope sc (Cl MT pr sc (d + 2)) (rtE (some (.int r)) (mk X) σ2) (79, [(0, .ref 21), (1, .int x1), (2, .int x2), (3, .int x3), (4, .int x4), (5, .int x5), (6, .int x6)], [], mk X, p2)
    refine Ex.pick (lv' := _) [0, 1, 3, 4, 6] rfl ?_
    exact lk_X6_planRope_79 d _ _ _ _ _ h
theorem lk_X6_planRope_48 {pr : Ct} {sc : Nat × (Nat → Int32)} {X : En} (d : Nat) {r : Int32} {σ2 : St} (x1 : Int32) (x2 : Int32) (x3 : Int32) (x4 : Int32) (x5 : Int32) (y0 : Int32) (σ : St) (h : f_X6_planRope_48 x1 x2 x3 x4 x5 y0 σ = some (r, σ2)) : Ex mr_X6_planRope sc (Cl MT pr sc (d + 2)) (rtE (some (.int r)) (mk X) σ2) (48, [(0, .ref 21), (1, .int x1), (2, .int x2), (3, .int x3), (4, .int x4), (5, .int x5)], [.int y0], mk X, σ) := by
  unfold f_X6_planRope_48 at h
  refine Ex.blk 1000 rfl ?_
  rcases ite_sp h with ⟨c1, h⟩ | ⟨c1, h⟩
  · refine And.intro (fun _ => ?_) (fun hn => absurd c1 hn)
    show Ex mr_X6_planRope sc (Cl MT pr sc (d + 2)) (rtE (some (.int r)) (mk X) σ2) (64, [(6, .int y0), (0, .ref 21), (1, .int x1), (2, .int x2), (3, .int x3), (4, .int x4), (5, .int x5)], [], mk X, σ)
    refine Ex.pick (lv' := _) [1, 2, 3, 4, 5, 6, 0] rfl ?_
    exact lk_X6_planRope_64 d _ _ _ _ _ _ _ h
  · refine And.intro (fun hp => absurd hp c1) (fun _ => ?_)
    show Ex mr_X6_planRope sc (Cl MT pr sc (d + 2)) (rtE (some (.int r)) (mk X) σ2) (55, [(6, .int y0), (0, .ref 21), (1, .int x1), (2, .int x2), (3, .int x3), (4, .int x4), (5, .int x5)], [], mk X, σ)
    refine Ex.blk 5 rfl ?_
    show Ex mr_X6_planRope sc (Cl MT pr sc (d + 2)) (rtE (some (.int r)) (mk X) σ2) (61, [(6, .int y0), (0, .ref 21), (1, .int x1), (2, .int x2), (3, .int x3), (4, .int x4), (5, .int x5)], [.int x4, .int 1, .int x3, .int x1, .ref 21], mk X, σ)
    refine Ex.blk 1 rfl ?_
    obtain ⟨p3, hp3, h⟩ := bind_sp h
    refine Exists.intro none (Exists.intro (mk X) (Exists.intro p3 (And.intro (cl_X6_driveFrom (d + 0) hp3) ?_)))
    show Ex mr_X6_planRope sc (Cl MT pr sc (d + 2)) (rtE (some (.int r)) (mk X) σ2) (64, [(6, .int y0), (0, .ref 21), (1, .int x1), (2, .int x2), (3, .int x3), (4, .int x4), (5, .int x5)], [], mk X, p3)
    refine Ex.pick (lv' := _) [1, 2, 3, 4, 5, 6, 0] rfl ?_
    exact lk_X6_planRope_64 d _ _ _ _ _ _ _ h
theorem lk_X6_planRope_47 {pr : Ct} {sc : Nat × (Nat → Int32)} {X : En} (d : Nat) {r : Int32} {σ2 : St} (x1 : Int32) (x2 : Int32) (x3 : Int32) (x4 : Int32) (x5 : Int32) (σ : St) (h : f_X6_planRope_47 x1 x2 x3 x4 x5 σ = some (r, σ2)) : Ex mr_X6_planRope sc (Cl MT pr sc (d + 2)) (rtE (some (.int r)) (mk X) σ2) (47, [(0, .ref 21), (1, .int x1), (2, .int x2), (3, .int x3), (4, .int x4), (5, .int x5)], [], mk X, σ) := by
  unfold f_X6_planRope_47 at h
  refine Ex.blk 1000 rfl ?_
  show Ex mr_X6_planRope sc (Cl MT pr sc (d + 2)) (rtE (some (.int r)) (mk X) σ2) (48, [(0, .ref 21), (1, .int x1), (2, .int x2), (3, .int x3), (4, .int x4), (5, .int x5)], [.int 0], mk X, σ)
  exact lk_X6_planRope_48 d _ _ _ _ _ _ _ h
theorem lk_X6_planRope_32 {pr : Ct} {sc : Nat × (Nat → Int32)} {X : En} (d : Nat) {r : Int32} {σ2 : St} (x1 : Int32) (x2 : Int32) (x3 : Int32) (x4 : Int32) (x5 : Int32) (σ : St) (h : f_X6_planRope_32 x1 x2 x3 x4 x5 σ = some (r, σ2)) : Ex mr_X6_planRope sc (Cl MT pr sc (d + 2)) (rtE (some (.int r)) (mk X) σ2) (32, [(0, .ref 21), (1, .int x1), (2, .int x2), (3, .int x3), (4, .int x4), (5, .int x5)], [], mk X, σ) := by
  unfold f_X6_planRope_32 at h
  refine Ex.blk 1000 rfl ?_
  rcases ite_sp h with ⟨c1, h⟩ | ⟨c1, h⟩
  · refine And.intro (fun _ => ?_) (fun hn => absurd c1 hn)
    show Ex mr_X6_planRope sc (Cl MT pr sc (d + 2)) (rtE (some (.int r)) (mk X) σ2) (47, [(0, .ref 21), (1, .int x1), (2, .int x2), (3, .int x3), (4, .int x4), (5, .int x5)], [], mk X, σ)
    exact lk_X6_planRope_47 d _ _ _ _ _ _ h
  · refine And.intro (fun hp => absurd hp c1) (fun _ => ?_)
    show Ex mr_X6_planRope sc (Cl MT pr sc (d + 2)) (rtE (some (.int r)) (mk X) σ2) (37, [(0, .ref 21), (1, .int x1), (2, .int x2), (3, .int x3), (4, .int x4), (5, .int x5)], [], mk X, σ)
    refine Ex.blk 1000 rfl ?_
    rcases ite_sp h with ⟨c2, h⟩ | ⟨c2, h⟩
    · refine And.intro (fun _ => ?_) (fun hn => absurd c2 hn)
      show Ex mr_X6_planRope sc (Cl MT pr sc (d + 2)) (rtE (some (.int r)) (mk X) σ2) (47, [(0, .ref 21), (1, .int x1), (2, .int x2), (3, .int x3), (4, .int x4), (5, .int x5)], [], mk X, σ)
      exact lk_X6_planRope_47 d _ _ _ _ _ _ h
    · refine And.intro (fun hp => absurd hp c2) (fun _ => ?_)
      show Ex mr_X6_planRope sc (Cl MT pr sc (d + 2)) (rtE (some (.int r)) (mk X) σ2) (43, [(0, .ref 21), (1, .int x1), (2, .int x2), (3, .int x3), (4, .int x4), (5, .int x5)], [], mk X, σ)
      refine Ex.blk 1000 rfl ?_
      show Ex mr_X6_planRope sc (Cl MT pr sc (d + 2)) (rtE (some (.int r)) (mk X) σ2) (48, [(0, .ref 21), (1, .int x1), (2, .int x2), (3, .int x3), (4, .int x4), (5, .int x5)], [.int 1], mk X, σ)
      exact lk_X6_planRope_48 d _ _ _ _ _ _ _ h
theorem lk_X6_planRope_19 {pr : Ct} {sc : Nat × (Nat → Int32)} {X : En} (d : Nat) {r : Int32} {σ2 : St} (x1 : Int32) (x2 : Int32) (x3 : Int32) (x4 : Int32) (σ : St) (h : f_X6_planRope_19 x1 x2 x3 x4 σ = some (r, σ2)) : Ex mr_X6_planRope sc (Cl MT pr sc (d + 2)) (rtE (some (.int r)) (mk X) σ2) (19, [(0, .ref 21), (1, .int x1), (2, .int x2), (3, .int x3), (4, .int x4)], [], mk X, σ) := by
  unfold f_X6_planRope_19 at h
  refine Ex.blk 5 rfl ?_
  show Ex mr_X6_planRope sc (Cl MT pr sc (d + 2)) (rtE (some (.int r)) (mk X) σ2) (28, [(0, .ref 21), (1, .int x1), (2, .int x2), (3, .int x3), (4, .int x4)], [.int (gI (sI σ 21 10 (-1)) 21 7)], mk X, (sI σ 21 10 (-1)))
  refine Ex.blk 3 rfl ?_
  show Ex mr_X6_planRope sc (Cl MT pr sc (d + 2)) (rtE (some (.int r)) (mk X) σ2) (32, [(5, .int ((gI (sI σ 21 10 (-1)) 21 7) * x1)), (0, .ref 21), (1, .int x1), (2, .int x2), (3, .int x3), (4, .int x4)], [], mk X, (sI σ 21 10 (-1)))
  refine Ex.pick (lv' := _) [1, 2, 3, 4, 5, 0] rfl ?_
  exact lk_X6_planRope_32 d _ _ _ _ _ _ h
theorem cl_X6_planRope {pr : Ct} {sc : Nat × (Nat → Int32)} {X : En} (d : Nat) {r : Int32} {σ2 : St} {x1 : Int32} {x2 : Int32} {x3 : Int32} {x4 : Int32} {σ : St} (h : f_X6_planRope x1 x2 x3 x4 σ = some (r, σ2)) : Cl MT pr sc (d + 2 + 1) 58 [.ref 21, .int x1, .int x2, .int x3, .int x4] (mk X) σ (some (.int r)) (mk X) σ2 := by
  refine cl_of mr_X6_planRope rfl rfl ?_
  unfold f_X6_planRope at h
  refine Ex.blk 5 rfl ?_
  obtain ⟨g1, h⟩ := gd_some h
  refine And.intro (inb_ok g1) ?_
  show Ex mr_X6_planRope sc (Cl MT pr sc (d + 2)) (rtE (some (.int r)) (mk X) σ2) (7, [(0, .ref 21), (1, .int x1), (2, .int x2), (3, .int x3), (4, .int x4)], [], mk X, (sI σ 25 x1.toNatClampNeg 0))
  refine Ex.blk 5 rfl ?_
  obtain ⟨g2, h⟩ := gd_some h
  refine And.intro (inb_ok g2) ?_
  show Ex mr_X6_planRope sc (Cl MT pr sc (d + 2)) (rtE (some (.int r)) (mk X) σ2) (14, [(0, .ref 21), (1, .int x1), (2, .int x2), (3, .int x3), (4, .int x4)], [], mk X, (sI (sI σ 25 x1.toNatClampNeg 0) 26 x1.toNatClampNeg 0))
  refine Ex.blk 3 rfl ?_
  show Ex mr_X6_planRope sc (Cl MT pr sc (d + 2)) (rtE (some (.int r)) (mk X) σ2) (19, [(0, .ref 21), (1, .int x1), (2, .int x2), (3, .int x3), (4, .int x4)], [], mk X, (sI (sI (sI σ 25 x1.toNatClampNeg 0) 26 x1.toNatClampNeg 0) 21 9 0))
  exact lk_X6_planRope_19 d _ _ _ _ _ h
theorem lk_X6_lastRest_32 {pr : Ct} {sc : Nat × (Nat → Int32)} {X : En} (d : Nat) {r : Int32} {σ2 : St} (x2 : Int32) (σ : St) (h : f_X6_lastRest_32 x2 σ = some (r, σ2)) : Ex mr_X6_lastRest sc (Cl MT pr sc (d + 0)) (rtE (some (.int r)) (mk X) σ2) (32, [(2, .int x2)], [], mk X, σ) := by
  unfold f_X6_lastRest_32 at h
  refine Ex.blk 1000 rfl ?_
  cases h
  exact And.intro trivial ⟨rfl, rfl, rfl⟩
theorem lk_X6_lastRest_26 {pr : Ct} {sc : Nat × (Nat → Int32)} {X : En} (d : Nat) {r : Int32} {σ2 : St} (k4 : Int32 → Int32 → Int32 → St → Option (Int32 × St)) (hk4 : ∀ (x1 : Int32) (x2 : Int32) (x3 : Int32) (σ : St), k4 x1 x2 x3 σ = some (r, σ2) → Ex mr_X6_lastRest sc (Cl MT pr sc (d + 0)) (rtE (some (.int r)) (mk X) σ2) (4, [(0, .ref 21), (1, .int x1), (2, .int x2), (3, .int x3)], [], mk X, σ)) (x1 : Int32) (x2 : Int32) (x3 : Int32) (σ : St) (h : f_X6_lastRest_26 k4 x1 x2 x3 σ = some (r, σ2)) : Ex mr_X6_lastRest sc (Cl MT pr sc (d + 0)) (rtE (some (.int r)) (mk X) σ2) (26, [(0, .ref 21), (1, .int x1), (2, .int x2), (3, .int x3)], [], mk X, σ) := by
  unfold f_X6_lastRest_26 at h
  refine Ex.blk 1000 rfl ?_
  show Ex mr_X6_lastRest sc (Cl MT pr sc (d + 0)) (rtE (some (.int r)) (mk X) σ2) (4, [(3, .int (x3 + 1)), (0, .ref 21), (1, .int x1), (2, .int x2)], [], mk X, σ)
  refine Ex.pick (lv' := _) [1, 2, 3, 0] rfl ?_
  exact hk4 _ _ _ _ h
theorem lk_X6_lastRest_4 {pr : Ct} {sc : Nat × (Nat → Int32)} {X : En} (d : Nat) {r : Int32} {σ2 : St} : ∀ (n : Nat) (x1 : Int32) (x2 : Int32) (x3 : Int32) (σ : St), f_X6_lastRest_4 n x1 x2 x3 σ = some (r, σ2) → Ex mr_X6_lastRest sc (Cl MT pr sc (d + 0)) (rtE (some (.int r)) (mk X) σ2) (4, [(0, .ref 21), (1, .int x1), (2, .int x2), (3, .int x3)], [], mk X, σ) := by
  intro n
  induction n with
  | zero =>
    intro x1 x2 x3 σ h
    cases h
  | succ n ih =>
    intro x1 x2 x3 σ h
    simp only [f_X6_lastRest_4] at h
    refine Ex.blk 1000 rfl ?_
    rcases ite_sp h with ⟨c1, h⟩ | ⟨c1, h⟩
    · refine And.intro (fun _ => ?_) (fun hn => absurd c1 hn)
      show Ex mr_X6_lastRest sc (Cl MT pr sc (d + 0)) (rtE (some (.int r)) (mk X) σ2) (32, [(0, .ref 21), (1, .int x1), (2, .int x2), (3, .int x3)], [], mk X, σ)
      refine Ex.pick (lv' := _) [2] rfl ?_
      exact lk_X6_lastRest_32 d _ _ h
    · refine And.intro (fun hp => absurd hp c1) (fun _ => ?_)
      show Ex mr_X6_lastRest sc (Cl MT pr sc (d + 0)) (rtE (some (.int r)) (mk X) σ2) (9, [(0, .ref 21), (1, .int x1), (2, .int x2), (3, .int x3)], [], mk X, σ)
      refine Ex.blk 1000 rfl ?_
      rcases ite_sp h with ⟨c2, h⟩ | ⟨c2, h⟩
      · refine And.intro (fun _ => ?_) (fun hn => absurd c2 hn)
        show Ex mr_X6_lastRest sc (Cl MT pr sc (d + 0)) (rtE (some (.int r)) (mk X) σ2) (32, [(0, .ref 21), (1, .int x1), (2, .int x2), (3, .int x3)], [], mk X, σ)
        refine Ex.pick (lv' := _) [2] rfl ?_
        exact lk_X6_lastRest_32 d _ _ h
      · refine And.intro (fun hp => absurd hp c2) (fun _ => ?_)
        show Ex mr_X6_lastRest sc (Cl MT pr sc (d + 0)) (rtE (some (.int r)) (mk X) σ2) (15, [(0, .ref 21), (1, .int x1), (2, .int x2), (3, .int x3)], [], mk X, σ)
        refine Ex.blk 5 rfl ?_
        obtain ⟨g3, h⟩ := gd_some h
        refine And.intro (inb_ok g3) ?_
        show Ex mr_X6_lastRest sc (Cl MT pr sc (d + 0)) (rtE (some (.int r)) (mk X) σ2) (22, [(0, .ref 21), (1, .int x1), (2, .int x2), (3, .int x3)], [.int (gI σ 26 x3.toNatClampNeg), .int x2], mk X, σ)
        refine Ex.blk 2 rfl ?_
        show Ex mr_X6_lastRest sc (Cl MT pr sc (d + 0)) (rtE (some (.int r)) (mk X) σ2) (26, [(2, .int (mxI x2 (gI σ 26 x3.toNatClampNeg))), (0, .ref 21), (1, .int x1), (3, .int x3)], [], mk X, σ)
        refine Ex.pick (lv' := _) [1, 2, 0, 3] rfl ?_
        exact lk_X6_lastRest_26 d _ ih _ _ _ _ h
theorem cl_X6_lastRest {pr : Ct} {sc : Nat × (Nat → Int32)} {X : En} (d : Nat) {r : Int32} {σ2 : St} {x1 : Int32} {σ : St} (h : f_X6_lastRest x1 σ = some (r, σ2)) : Cl MT pr sc (d + 0 + 1) 60 [.ref 21, .int x1] (mk X) σ (some (.int r)) (mk X) σ2 := by
  refine cl_of mr_X6_lastRest rfl rfl ?_
  unfold f_X6_lastRest at h
  refine Ex.blk 1000 rfl ?_
  show Ex mr_X6_lastRest sc (Cl MT pr sc (d + 0)) (rtE (some (.int r)) (mk X) σ2) (4, [(3, .int 0), (2, .int 0), (0, .ref 21), (1, .int x1)], [], mk X, σ)
  refine Ex.pick (lv' := _) [2, 3, 1, 0] rfl ?_
  exact lk_X6_lastRest_4 d FU _ _ _ _ h
theorem lk_X6_digitAt_122 {pr : Ct} {sc : Nat × (Nat → Int32)} {X : En} (d : Nat) {r : Int32} {σ2 : St} (x4 : Int32) (σ : St) (h : f_X6_digitAt_122 x4 σ = some (r, σ2)) : Ex mr_X6_digitAt sc (Cl MT pr sc (d + 0)) (rtE (some (.int r)) (mk X) σ2) (122, [(4, .int x4)], [], mk X, σ) := by
  unfold f_X6_digitAt_122 at h
  refine Ex.blk 1000 rfl ?_
  cases h
  exact And.intro trivial ⟨rfl, rfl, rfl⟩
theorem lk_X6_digitAt_116 {pr : Ct} {sc : Nat × (Nat → Int32)} {X : En} (d : Nat) {r : Int32} {σ2 : St} (k6 : Int32 → Int32 → Int32 → Int32 → St → Option (Int32 × St)) (hk6 : ∀ (x1 : Int32) (x3 : Int32) (x4 : Int32) (x5 : Int32) (σ : St), k6 x1 x3 x4 x5 σ = some (r, σ2) → Ex mr_X6_digitAt sc (Cl MT pr sc (d + 0)) (rtE (some (.int r)) (mk X) σ2) (6, [(0, .ref 21), (1, .int x1), (3, .int x3), (4, .int x4), (5, .int x5)], [], mk X, σ)) (x1 : Int32) (x3 : Int32) (x4 : Int32) (x5 : Int32) (σ : St) (h : f_X6_digitAt_116 k6 x1 x3 x4 x5 σ = some (r, σ2)) : Ex mr_X6_digitAt sc (Cl MT pr sc (d + 0)) (rtE (some (.int r)) (mk X) σ2) (116, [(0, .ref 21), (1, .int x1), (3, .int x3), (4, .int x4), (5, .int x5)], [], mk X, σ) := by
  unfold f_X6_digitAt_116 at h
  refine Ex.blk 1000 rfl ?_
  show Ex mr_X6_digitAt sc (Cl MT pr sc (d + 0)) (rtE (some (.int r)) (mk X) σ2) (6, [(5, .int (x5 + 1)), (0, .ref 21), (1, .int x1), (3, .int x3), (4, .int x4)], [], mk X, σ)
  refine Ex.pick (lv' := _) [1, 2, 3, 4, 0] rfl ?_
  exact hk6 _ _ _ _ _ h
theorem lk_X6_digitAt_113 {pr : Ct} {sc : Nat × (Nat → Int32)} {X : En} (d : Nat) {r : Int32} {σ2 : St} (k6 : Int32 → Int32 → Int32 → Int32 → St → Option (Int32 × St)) (hk6 : ∀ (x1 : Int32) (x3 : Int32) (x4 : Int32) (x5 : Int32) (σ : St), k6 x1 x3 x4 x5 σ = some (r, σ2) → Ex mr_X6_digitAt sc (Cl MT pr sc (d + 0)) (rtE (some (.int r)) (mk X) σ2) (6, [(0, .ref 21), (1, .int x1), (3, .int x3), (4, .int x4), (5, .int x5)], [], mk X, σ)) (x1 : Int32) (x3 : Int32) (x5 : Int32) (y0 : Int32) (y1 : Int32) (σ : St) (h : f_X6_digitAt_113 k6 x1 x3 x5 y0 y1 σ = some (r, σ2)) : Ex mr_X6_digitAt sc (Cl MT pr sc (d + 0)) (rtE (some (.int r)) (mk X) σ2) (113, [(0, .ref 21), (1, .int x1), (3, .int x3), (5, .int x5)], [.int y0, .int y1], mk X, σ) := by
  unfold f_X6_digitAt_113 at h
  refine Ex.blk 1000 rfl ?_
  show Ex mr_X6_digitAt sc (Cl MT pr sc (d + 0)) (rtE (some (.int r)) (mk X) σ2) (116, [(4, .int (y1 + y0)), (0, .ref 21), (1, .int x1), (3, .int x3), (5, .int x5)], [], mk X, σ)
  refine Ex.pick (lv' := _) [1, 2, 3, 0, 4] rfl ?_
  exact lk_X6_digitAt_116 d _ hk6 _ _ _ _ _ h
theorem lk_X6_digitAt_81 {pr : Ct} {sc : Nat × (Nat → Int32)} {X : En} (d : Nat) {r : Int32} {σ2 : St} (k6 : Int32 → Int32 → Int32 → Int32 → St → Option (Int32 × St)) (hk6 : ∀ (x1 : Int32) (x3 : Int32) (x4 : Int32) (x5 : Int32) (σ : St), k6 x1 x3 x4 x5 σ = some (r, σ2) → Ex mr_X6_digitAt sc (Cl MT pr sc (d + 0)) (rtE (some (.int r)) (mk X) σ2) (6, [(0, .ref 21), (1, .int x1), (3, .int x3), (4, .int x4), (5, .int x5)], [], mk X, σ)) (x1 : Int32) (x3 : Int32) (x5 : Int32) (x6 : Int32) (x7 : Int32) (σ : St) (h : f_X6_digitAt_81 k6 x1 x3 x5 x6 x7 σ = some (r, σ2)) : Ex mr_X6_digitAt sc (Cl MT pr sc (d + 0)) (rtE (some (.int r)) (mk X) σ2) (81, [(0, .ref 21), (1, .int x1), (3, .int x3), (5, .int x5), (6, .int x6), (7, .int x7)], [], mk X, σ) := by
  unfold f_X6_digitAt_81 at h
  refine Ex.blk 4 rfl ?_
  obtain ⟨g1, h⟩ := gd_some h
  refine And.intro (inb_ok g1) ?_
  show Ex mr_X6_digitAt sc (Cl MT pr sc (d + 0)) (rtE (some (.int r)) (mk X) σ2) (88, [(0, .ref 21), (1, .int x1), (3, .int x3), (5, .int x5), (6, .int x6), (7, .int x7)], [.int (gI σ 23 x6.toNatClampNeg)], mk X, σ)
  refine Ex.blk 4 rfl ?_
  obtain ⟨g2, h⟩ := gd_some h
  refine And.intro (inb_ok g2) ?_
  show Ex mr_X6_digitAt sc (Cl MT pr sc (d + 0)) (rtE (some (.int r)) (mk X) σ2) (95, [(0, .ref 21), (1, .int x1), (3, .int x3), (5, .int x5), (6, .int x6), (7, .int x7)], [.int (gI σ 24 x6.toNatClampNeg), .int (gI σ 23 x6.toNatClampNeg)], mk X, σ)
  refine Ex.blk 4 rfl ?_
  obtain ⟨g3, h⟩ := gd_some h
  refine And.intro (inb_ok g3) ?_
  show Ex mr_X6_digitAt sc (Cl MT pr sc (d + 0)) (rtE (some (.int r)) (mk X) σ2) (102, [(0, .ref 21), (1, .int x1), (3, .int x3), (5, .int x5), (6, .int x6), (7, .int x7)], [.int (gI σ 23 x6.toNatClampNeg), .int (gI σ 24 x6.toNatClampNeg), .int (gI σ 23 x6.toNatClampNeg)], mk X, σ)
  refine Ex.blk 1000 rfl ?_
  rcases ite_sp h with ⟨c4, h⟩ | ⟨c4, h⟩
  · refine And.intro (fun _ => ?_) (fun hn => absurd c4 hn)
    show Ex mr_X6_digitAt sc (Cl MT pr sc (d + 0)) (rtE (some (.int r)) (mk X) σ2) (111, [(0, .ref 21), (1, .int x1), (3, .int x3), (5, .int x5), (6, .int x6), (7, .int x7)], [.int (gI σ 23 x6.toNatClampNeg)], mk X, σ)
    refine Ex.blk 1000 rfl ?_
    show Ex mr_X6_digitAt sc (Cl MT pr sc (d + 0)) (rtE (some (.int r)) (mk X) σ2) (113, [(0, .ref 21), (1, .int x1), (3, .int x3), (5, .int x5), (6, .int x6), (7, .int x7)], [.int x7, .int (gI σ 23 x6.toNatClampNeg)], mk X, σ)
    refine Ex.pick (lv' := _) [0, 1, 2, 3] rfl ?_
    exact lk_X6_digitAt_113 d _ hk6 _ _ _ _ _ _ h
  · refine And.intro (fun hp => absurd hp c4) (fun _ => ?_)
    show Ex mr_X6_digitAt sc (Cl MT pr sc (d + 0)) (rtE (some (.int r)) (mk X) σ2) (105, [(0, .ref 21), (1, .int x1), (3, .int x3), (5, .int x5), (6, .int x6), (7, .int x7)], [.int (gI σ 23 x6.toNatClampNeg)], mk X, σ)
    refine Ex.blk 1000 rfl ?_
    show Ex mr_X6_digitAt sc (Cl MT pr sc (d + 0)) (rtE (some (.int r)) (mk X) σ2) (113, [(0, .ref 21), (1, .int x1), (3, .int x3), (5, .int x5), (6, .int x6), (7, .int x7)], [.int (-x7), .int (gI σ 23 x6.toNatClampNeg)], mk X, σ)
    refine Ex.pick (lv' := _) [0, 1, 2, 3] rfl ?_
    exact lk_X6_digitAt_113 d _ hk6 _ _ _ _ _ _ h
theorem lk_X6_digitAt_31 {pr : Ct} {sc : Nat × (Nat → Int32)} {X : En} (d : Nat) {r : Int32} {σ2 : St} (k6 : Int32 → Int32 → Int32 → Int32 → St → Option (Int32 × St)) (hk6 : ∀ (x1 : Int32) (x3 : Int32) (x4 : Int32) (x5 : Int32) (σ : St), k6 x1 x3 x4 x5 σ = some (r, σ2) → Ex mr_X6_digitAt sc (Cl MT pr sc (d + 0)) (rtE (some (.int r)) (mk X) σ2) (6, [(0, .ref 21), (1, .int x1), (3, .int x3), (4, .int x4), (5, .int x5)], [], mk X, σ)) (x1 : Int32) (x3 : Int32) (x4 : Int32) (x5 : Int32) (x6 : Int32) (σ : St) (h : f_X6_digitAt_31 k6 x1 x3 x4 x5 x6 σ = some (r, σ2)) : Ex mr_X6_digitAt sc (Cl MT pr sc (d + 0)) (rtE (some (.int r)) (mk X) σ2) (31, [(0, .ref 21), (1, .int x1), (3, .int x3), (4, .int x4), (5, .int x5), (6, .int x6)], [], mk X, σ) := by
  unfold f_X6_digitAt_31 at h
  refine Ex.blk 4 rfl ?_
  obtain ⟨g1, h⟩ := gd_some h
  refine And.intro (inb_ok g1) ?_
  show Ex mr_X6_digitAt sc (Cl MT pr sc (d + 0)) (rtE (some (.int r)) (mk X) σ2) (38, [(0, .ref 21), (1, .int x1), (3, .int x3), (4, .int x4), (5, .int x5), (6, .int x6)], [.int (gI σ 22 x6.toNatClampNeg)], mk X, σ)
  refine Ex.blk 1000 rfl ?_
  rcases ite_sp h with ⟨c2, h⟩ | ⟨c2, h⟩
  · refine And.intro (fun _ => ?_) (fun hn => absurd c2 hn)
    show Ex mr_X6_digitAt sc (Cl MT pr sc (d + 0)) (rtE (some (.int r)) (mk X) σ2) (116, [(0, .ref 21), (1, .int x1), (3, .int x3), (4, .int x4), (5, .int x5), (6, .int x6)], [], mk X, σ)
    refine Ex.pick (lv' := _) [0, 1, 2, 3, 4] rfl ?_
    exact lk_X6_digitAt_116 d _ hk6 _ _ _ _ _ h
  · refine And.intro (fun hp => absurd hp c2) (fun _ => ?_)
    show Ex mr_X6_digitAt sc (Cl MT pr sc (d + 0)) (rtE (some (.int r)) (mk X) σ2) (42, [(0, .ref 21), (1, .int x1), (3, .int x3), (4, .int x4), (5, .int x5), (6, .int x6)], [], mk X, σ)
    refine Ex.blk 5 rfl ?_
    obtain ⟨g3, h⟩ := gd_some h
    refine And.intro (inb_ok g3) ?_
    show Ex mr_X6_digitAt sc (Cl MT pr sc (d + 0)) (rtE (some (.int r)) (mk X) σ2) (50, [(0, .ref 21), (1, .int x1), (3, .int x3), (4, .int x4), (5, .int x5), (6, .int x6)], [.int (gI σ 22 x6.toNatClampNeg), .int x3], mk X, σ)
    refine Ex.blk 5 rfl ?_
    show Ex mr_X6_digitAt sc (Cl MT pr sc (d + 0)) (rtE (some (.int r)) (mk X) σ2) (57, [(0, .ref 21), (1, .int x1), (3, .int x3), (4, .int x4), (5, .int x5), (6, .int x6)], [.int (gI σ 21 5), .int ((x3 - (gI σ 22 x6.toNatClampNeg)) + 1)], mk X, σ)
    refine Ex.blk 1 rfl ?_
    obtain ⟨g4, h⟩ := gd_some h
    refine And.intro (nzI_ok g4) ?_
    show Ex mr_X6_digitAt sc (Cl MT pr sc (d + 0)) (rtE (some (.int r)) (mk X) σ2) (58, [(0, .ref 21), (1, .int x1), (3, .int x3), (4, .int x4), (5, .int x5), (6, .int x6)], [.int (((x3 - (gI σ 22 x6.toNatClampNeg)) + 1) / (gI σ 21 5))], mk X, σ)
    refine Ex.blk 4 rfl ?_
    obtain ⟨g5, h⟩ := gd_some h
    refine And.intro (inb_ok g5) ?_
    show Ex mr_X6_digitAt sc (Cl MT pr sc (d + 0)) (rtE (some (.int r)) (mk X) σ2) (65, [(0, .ref 21), (1, .int x1), (3, .int x3), (4, .int x4), (5, .int x5), (6, .int x6)], [.int (gI σ 24 x6.toNatClampNeg), .int (((x3 - (gI σ 22 x6.toNatClampNeg)) + 1) / (gI σ 21 5))], mk X, σ)
    refine Ex.blk 4 rfl ?_
    obtain ⟨g6, h⟩ := gd_some h
    refine And.intro (inb_ok g6) ?_
    show Ex mr_X6_digitAt sc (Cl MT pr sc (d + 0)) (rtE (some (.int r)) (mk X) σ2) (72, [(0, .ref 21), (1, .int x1), (3, .int x3), (4, .int x4), (5, .int x5), (6, .int x6)], [.int (gI σ 23 x6.toNatClampNeg), .int (gI σ 24 x6.toNatClampNeg), .int (((x3 - (gI σ 22 x6.toNatClampNeg)) + 1) / (gI σ 21 5))], mk X, σ)
    refine Ex.blk 4 rfl ?_
    show Ex mr_X6_digitAt sc (Cl MT pr sc (d + 0)) (rtE (some (.int r)) (mk X) σ2) (81, [(7, .int (mnI (((x3 - (gI σ 22 x6.toNatClampNeg)) + 1) / (gI σ 21 5)) (abI ((gI σ 24 x6.toNatClampNeg) - (gI σ 23 x6.toNatClampNeg))))), (0, .ref 21), (1, .int x1), (3, .int x3), (4, .int x4), (5, .int x5), (6, .int x6)], [], mk X, σ)
    refine Ex.pick (lv' := _) [1, 2, 3, 5, 6, 0] rfl ?_
    exact lk_X6_digitAt_81 d _ hk6 _ _ _ _ _ _ h
theorem lk_X6_digitAt_6 {pr : Ct} {sc : Nat × (Nat → Int32)} {X : En} (d : Nat) {r : Int32} {σ2 : St} : ∀ (n : Nat) (x1 : Int32) (x3 : Int32) (x4 : Int32) (x5 : Int32) (σ : St), f_X6_digitAt_6 n x1 x3 x4 x5 σ = some (r, σ2) → Ex mr_X6_digitAt sc (Cl MT pr sc (d + 0)) (rtE (some (.int r)) (mk X) σ2) (6, [(0, .ref 21), (1, .int x1), (3, .int x3), (4, .int x4), (5, .int x5)], [], mk X, σ) := by
  intro n
  induction n with
  | zero =>
    intro x1 x3 x4 x5 σ h
    cases h
  | succ n ih =>
    intro x1 x3 x4 x5 σ h
    simp only [f_X6_digitAt_6] at h
    refine Ex.blk 5 rfl ?_
    obtain ⟨g1, h⟩ := gd_some h
    refine And.intro (inb_ok g1) ?_
    show Ex mr_X6_digitAt sc (Cl MT pr sc (d + 0)) (rtE (some (.int r)) (mk X) σ2) (14, [(0, .ref 21), (1, .int x1), (3, .int x3), (4, .int x4), (5, .int x5)], [.int (gI σ 25 x1.toNatClampNeg), .int x5], mk X, σ)
    refine Ex.blk 1000 rfl ?_
    rcases ite_sp h with ⟨c2, h⟩ | ⟨c2, h⟩
    · refine And.intro (fun _ => ?_) (fun hn => absurd c2 hn)
      show Ex mr_X6_digitAt sc (Cl MT pr sc (d + 0)) (rtE (some (.int r)) (mk X) σ2) (122, [(0, .ref 21), (1, .int x1), (3, .int x3), (4, .int x4), (5, .int x5)], [], mk X, σ)
      refine Ex.pick (lv' := _) [3] rfl ?_
      exact lk_X6_digitAt_122 d _ _ h
    · refine And.intro (fun hp => absurd hp c2) (fun _ => ?_)
      show Ex mr_X6_digitAt sc (Cl MT pr sc (d + 0)) (rtE (some (.int r)) (mk X) σ2) (17, [(0, .ref 21), (1, .int x1), (3, .int x3), (4, .int x4), (5, .int x5)], [], mk X, σ)
      refine Ex.blk 1000 rfl ?_
      rcases ite_sp h with ⟨c3, h⟩ | ⟨c3, h⟩
      · refine And.intro (fun _ => ?_) (fun hn => absurd c3 hn)
        show Ex mr_X6_digitAt sc (Cl MT pr sc (d + 0)) (rtE (some (.int r)) (mk X) σ2) (122, [(0, .ref 21), (1, .int x1), (3, .int x3), (4, .int x4), (5, .int x5)], [], mk X, σ)
        refine Ex.pick (lv' := _) [3] rfl ?_
        exact lk_X6_digitAt_122 d _ _ h
      · refine And.intro (fun hp => absurd hp c3) (fun _ => ?_)
        show Ex mr_X6_digitAt sc (Cl MT pr sc (d + 0)) (rtE (some (.int r)) (mk X) σ2) (23, [(0, .ref 21), (1, .int x1), (3, .int x3), (4, .int x4), (5, .int x5)], [], mk X, σ)
        refine Ex.blk 5 rfl ?_
        show Ex mr_X6_digitAt sc (Cl MT pr sc (d + 0)) (rtE (some (.int r)) (mk X) σ2) (29, [(0, .ref 21), (1, .int x1), (3, .int x3), (4, .int x4), (5, .int x5)], [.int ((2 * x1) + x5)], mk X, σ)
        refine Ex.blk 1 rfl ?_
        show Ex mr_X6_digitAt sc (Cl MT pr sc (d + 0)) (rtE (some (.int r)) (mk X) σ2) (31, [(6, .int ((2 * x1) + x5)), (0, .ref 21), (1, .int x1), (3, .int x3), (4, .int x4), (5, .int x5)], [], mk X, σ)
        refine Ex.pick (lv' := _) [1, 2, 3, 4, 5, 0] rfl ?_
        exact lk_X6_digitAt_31 d _ ih _ _ _ _ _ _ h
theorem cl_X6_digitAt {pr : Ct} {sc : Nat × (Nat → Int32)} {X : En} (d : Nat) {r : Int32} {σ2 : St} {x1 : Int32} {x2 : Int32} {x3 : Int32} {σ : St} (h : f_X6_digitAt x1 x2 x3 σ = some (r, σ2)) : Cl MT pr sc (d + 0 + 1) 61 [.ref 21, .int x1, .int x2, .int x3] (mk X) σ (some (.int r)) (mk X) σ2 := by
  refine cl_of mr_X6_digitAt rfl rfl ?_
  unfold f_X6_digitAt at h
  refine Ex.blk 1000 rfl ?_
  show Ex mr_X6_digitAt sc (Cl MT pr sc (d + 0)) (rtE (some (.int r)) (mk X) σ2) (6, [(5, .int 0), (4, .int x2), (0, .ref 21), (1, .int x1), (2, .int x2), (3, .int x3)], [], mk X, σ)
  refine Ex.pick (lv' := _) [2, 3, 5, 1, 0] rfl ?_
  exact lk_X6_digitAt_6 d FU _ _ _ _ _ h
theorem lk_J9_floorMod_f86c9_25 {pr : Ct} {sc : Nat × (Nat → Int32)} {X : En} (d : Nat) {r : Int64} {σ2 : St} (x4 : Int64) (σ : St) (h : f_J9_floorMod_f86c9_25 x4 σ = some (r, σ2)) : Ex mr_J9_floorMod_f86c9 sc (Cl MT pr sc (d + 0)) (rtE (some (.long r)) (mk X) σ2) (25, [(4, .long x4)], [], mk X, σ) := by
  unfold f_J9_floorMod_f86c9_25 at h
  refine Ex.blk 1000 rfl ?_
  cases h
  exact And.intro trivial ⟨rfl, rfl, rfl⟩
theorem lk_J9_floorMod_f86c9_5 {pr : Ct} {sc : Nat × (Nat → Int32)} {X : En} (d : Nat) {r : Int64} {σ2 : St} (x0 : Int64) (x2 : Int64) (x4 : Int64) (σ : St) (h : f_J9_floorMod_f86c9_5 x0 x2 x4 σ = some (r, σ2)) : Ex mr_J9_floorMod_f86c9 sc (Cl MT pr sc (d + 0)) (rtE (some (.long r)) (mk X) σ2) (5, [(0, .long x0), (2, .long x2), (4, .long x4)], [], mk X, σ) := by
  unfold f_J9_floorMod_f86c9_5 at h
  refine Ex.blk 5 rfl ?_
  show Ex mr_J9_floorMod_f86c9 sc (Cl MT pr sc (d + 0)) (rtE (some (.long r)) (mk X) σ2) (10, [(0, .long x0), (2, .long x2), (4, .long x4)], [.int (lg_cmp (x0 ^^^ x2) 0)], mk X, σ)
  refine Ex.blk 1000 rfl ?_
  rcases ite_sp h with ⟨c1, h⟩ | ⟨c1, h⟩
  · refine And.intro (fun _ => ?_) (fun hn => absurd c1 hn)
    show Ex mr_J9_floorMod_f86c9 sc (Cl MT pr sc (d + 0)) (rtE (some (.long r)) (mk X) σ2) (25, [(0, .long x0), (2, .long x2), (4, .long x4)], [], mk X, σ)
    refine Ex.pick (lv' := _) [2] rfl ?_
    exact lk_J9_floorMod_f86c9_25 d _ _ h
  · refine And.intro (fun hp => absurd hp c1) (fun _ => ?_)
    show Ex mr_J9_floorMod_f86c9 sc (Cl MT pr sc (d + 0)) (rtE (some (.long r)) (mk X) σ2) (13, [(0, .long x0), (2, .long x2), (4, .long x4)], [], mk X, σ)
    refine Ex.blk 1000 rfl ?_
    rcases ite_sp h with ⟨c2, h⟩ | ⟨c2, h⟩
    · refine And.intro (fun _ => ?_) (fun hn => absurd c2 hn)
      show Ex mr_J9_floorMod_f86c9 sc (Cl MT pr sc (d + 0)) (rtE (some (.long r)) (mk X) σ2) (25, [(0, .long x0), (2, .long x2), (4, .long x4)], [], mk X, σ)
      refine Ex.pick (lv' := _) [2] rfl ?_
      exact lk_J9_floorMod_f86c9_25 d _ _ h
    · refine And.intro (fun hp => absurd hp c2) (fun _ => ?_)
      show Ex mr_J9_floorMod_f86c9 sc (Cl MT pr sc (d + 0)) (rtE (some (.long r)) (mk X) σ2) (20, [(0, .long x0), (2, .long x2), (4, .long x4)], [], mk X, σ)
      refine Ex.blk 1000 rfl ?_
      cases h
      exact And.intro trivial ⟨rfl, rfl, rfl⟩
theorem cl_J9_floorMod_f86c9 {pr : Ct} {sc : Nat × (Nat → Int32)} {X : En} (d : Nat) {r : Int64} {σ2 : St} {x0 : Int64} {x2 : Int64} {σ : St} (h : f_J9_floorMod_f86c9 x0 x2 σ = some (r, σ2)) : Cl MT pr sc (d + 0 + 1) 75 [.long x0, .long x2] (mk X) σ (some (.long r)) (mk X) σ2 := by
  refine cl_of mr_J9_floorMod_f86c9 rfl rfl ?_
  unfold f_J9_floorMod_f86c9 at h
  refine Ex.blk 3 rfl ?_
  obtain ⟨g1, h⟩ := gd_some h
  refine And.intro (nzJ_ok g1) ?_
  show Ex mr_J9_floorMod_f86c9 sc (Cl MT pr sc (d + 0)) (rtE (some (.long r)) (mk X) σ2) (3, [(0, .long x0), (2, .long x2)], [.long (rmJ x0 x2)], mk X, σ)
  refine Ex.blk 1 rfl ?_
  show Ex mr_J9_floorMod_f86c9 sc (Cl MT pr sc (d + 0)) (rtE (some (.long r)) (mk X) σ2) (5, [(4, .long (rmJ x0 x2)), (0, .long x0), (2, .long x2)], [], mk X, σ)
  refine Ex.pick (lv' := _) [1, 2, 0] rfl ?_
  exact lk_J9_floorMod_f86c9_5 d _ _ _ _ h
theorem lk_X9_bytesIn_27 {pr : Ct} {sc : Nat × (Nat → Int32)} {X : En} (d : Nat) {r : Int32} {σ2 : St} (k5 : Int32 → Int32 → Int32 → St → Option (Int32 × St)) (hk5 : ∀ (x0 : Int32) (x1 : Int32) (x2 : Int32) (σ : St), k5 x0 x1 x2 σ = some (r, σ2) → Ex mr_X9_bytesIn sc (Cl MT pr sc (d + 0)) (rtE (some (.int r)) (mk X) σ2) (5, [(0, .int x0), (1, .int x1), (2, .int x2)], [], mk X, σ)) (x0 : Int32) (x1 : Int32) (x2 : Int32) (σ : St) (h : f_X9_bytesIn_27 k5 x0 x1 x2 σ = some (r, σ2)) : Ex mr_X9_bytesIn sc (Cl MT pr sc (d + 0)) (rtE (some (.int r)) (mk X) σ2) (27, [(0, .int x0), (1, .int x1), (2, .int x2)], [], mk X, σ) := by
  unfold f_X9_bytesIn_27 at h
  refine Ex.blk 1000 rfl ?_
  show Ex mr_X9_bytesIn sc (Cl MT pr sc (d + 0)) (rtE (some (.int r)) (mk X) σ2) (5, [(2, .int (x2 + (-8))), (0, .int x0), (1, .int x1)], [], mk X, σ)
  refine Ex.pick (lv' := _) [1, 2, 0] rfl ?_
  exact hk5 _ _ _ _ h
theorem lk_X9_bytesIn_25 {pr : Ct} {sc : Nat × (Nat → Int32)} {X : En} (d : Nat) {r : Int32} {σ2 : St} (k5 : Int32 → Int32 → Int32 → St → Option (Int32 × St)) (hk5 : ∀ (x0 : Int32) (x1 : Int32) (x2 : Int32) (σ : St), k5 x0 x1 x2 σ = some (r, σ2) → Ex mr_X9_bytesIn sc (Cl MT pr sc (d + 0)) (rtE (some (.int r)) (mk X) σ2) (5, [(0, .int x0), (1, .int x1), (2, .int x2)], [], mk X, σ)) (x0 : Int32) (x2 : Int32) (y0 : Int32) (y1 : Int32) (σ : St) (h : f_X9_bytesIn_25 k5 x0 x2 y0 y1 σ = some (r, σ2)) : Ex mr_X9_bytesIn sc (Cl MT pr sc (d + 0)) (rtE (some (.int r)) (mk X) σ2) (25, [(0, .int x0), (2, .int x2)], [.int y0, .int y1], mk X, σ) := by
  unfold f_X9_bytesIn_25 at h
  refine Ex.blk 2 rfl ?_
  show Ex mr_X9_bytesIn sc (Cl MT pr sc (d + 0)) (rtE (some (.int r)) (mk X) σ2) (27, [(1, .int (y1 + y0)), (0, .int x0), (2, .int x2)], [], mk X, σ)
  refine Ex.pick (lv' := _) [1, 0, 2] rfl ?_
  exact lk_X9_bytesIn_27 d _ hk5 _ _ _ _ h
theorem lk_X9_bytesIn_5 {pr : Ct} {sc : Nat × (Nat → Int32)} {X : En} (d : Nat) {r : Int32} {σ2 : St} : ∀ (n : Nat) (x0 : Int32) (x1 : Int32) (x2 : Int32) (σ : St), f_X9_bytesIn_5 n x0 x1 x2 σ = some (r, σ2) → Ex mr_X9_bytesIn sc (Cl MT pr sc (d + 0)) (rtE (some (.int r)) (mk X) σ2) (5, [(0, .int x0), (1, .int x1), (2, .int x2)], [], mk X, σ) := by
  intro n
  induction n with
  | zero =>
    intro x0 x1 x2 σ h
    cases h
  | succ n ih =>
    intro x0 x1 x2 σ h
    simp only [f_X9_bytesIn_5] at h
    refine Ex.blk 1000 rfl ?_
    rcases ite_sp h with ⟨c1, h⟩ | ⟨c1, h⟩
    · refine And.intro (fun _ => ?_) (fun hn => absurd c1 hn)
      show Ex mr_X9_bytesIn sc (Cl MT pr sc (d + 0)) (rtE (some (.int r)) (mk X) σ2) (33, [(0, .int x0), (1, .int x1), (2, .int x2)], [], mk X, σ)
      refine Ex.blk 1000 rfl ?_
      cases h
      exact And.intro trivial ⟨rfl, rfl, rfl⟩
    · refine And.intro (fun hp => absurd hp c1) (fun _ => ?_)
      show Ex mr_X9_bytesIn sc (Cl MT pr sc (d + 0)) (rtE (some (.int r)) (mk X) σ2) (9, [(0, .int x0), (1, .int x1), (2, .int x2)], [], mk X, σ)
      refine Ex.blk 5 rfl ?_
      show Ex mr_X9_bytesIn sc (Cl MT pr sc (d + 0)) (rtE (some (.int r)) (mk X) σ2) (16, [(0, .int x0), (1, .int x1), (2, .int x2)], [.int 255, .int (ushI x0 x2), .int x1], mk X, σ)
      refine Ex.blk 1000 rfl ?_
      rcases ite_sp h with ⟨c2, h⟩ | ⟨c2, h⟩
      · refine And.intro (fun _ => ?_) (fun hn => absurd c2 hn)
        show Ex mr_X9_bytesIn sc (Cl MT pr sc (d + 0)) (rtE (some (.int r)) (mk X) σ2) (24, [(0, .int x0), (1, .int x1), (2, .int x2)], [.int x1], mk X, σ)
        refine Ex.blk 1000 rfl ?_
        show Ex mr_X9_bytesIn sc (Cl MT pr sc (d + 0)) (rtE (some (.int r)) (mk X) σ2) (25, [(0, .int x0), (1, .int x1), (2, .int x2)], [.int 0, .int x1], mk X, σ)
        refine Ex.pick (lv' := _) [0, 2] rfl ?_
        exact lk_X9_bytesIn_25 d _ ih _ _ _ _ _ h
      · refine And.intro (fun hp => absurd hp c2) (fun _ => ?_)
        show Ex mr_X9_bytesIn sc (Cl MT pr sc (d + 0)) (rtE (some (.int r)) (mk X) σ2) (20, [(0, .int x0), (1, .int x1), (2, .int x2)], [.int x1], mk X, σ)
        refine Ex.blk 1000 rfl ?_
        show Ex mr_X9_bytesIn sc (Cl MT pr sc (d + 0)) (rtE (some (.int r)) (mk X) σ2) (25, [(0, .int x0), (1, .int x1), (2, .int x2)], [.int 1, .int x1], mk X, σ)
        refine Ex.pick (lv' := _) [0, 2] rfl ?_
        exact lk_X9_bytesIn_25 d _ ih _ _ _ _ _ h
theorem cl_X9_bytesIn {pr : Ct} {sc : Nat × (Nat → Int32)} {X : En} (d : Nat) {r : Int32} {σ2 : St} {x0 : Int32} {σ : St} (h : f_X9_bytesIn x0 σ = some (r, σ2)) : Cl MT pr sc (d + 0 + 1) 82 [.int x0] (mk X) σ (some (.int r)) (mk X) σ2 := by
  refine cl_of mr_X9_bytesIn rfl rfl ?_
  unfold f_X9_bytesIn at h
  refine Ex.blk 1000 rfl ?_
  show Ex mr_X9_bytesIn sc (Cl MT pr sc (d + 0)) (rtE (some (.int r)) (mk X) σ2) (5, [(2, .int 24), (1, .int 0), (0, .int x0)], [], mk X, σ)
  refine Ex.pick (lv' := _) [2, 1, 0] rfl ?_
  exact lk_X9_bytesIn_5 d FU _ _ _ _ h
theorem lk_X9_feed_28 {pr : Ct} {sc : Nat × (Nat → Int32)} {X : En} (d : Nat) {r : Int32} {σ2 : St} (x1 : Int32) (x2 : Int32) (x3 : Int32) (x4 : Int32) (x5 : Int32) (x6 : Int32) (σ : St) (h : f_X9_feed_28 x1 x2 x3 x4 x5 x6 σ = some (r, σ2)) : Ex mr_X9_feed sc (Cl MT pr sc (d + 1)) (rtE (some (.int r)) (mk X) σ2) (28, [(0, .ref 0), (1, .int x1), (2, .int x2), (3, .int x3), (4, .int x4), (5, .int x5), (6, .int x6)], [], mk X, σ) := by
  unfold f_X9_feed_28 at h
  refine Ex.blk 5 rfl ?_
  show Ex mr_X9_feed sc (Cl MT pr sc (d + 1)) (rtE (some (.int r)) (mk X) σ2) (38, [(0, .ref 0), (1, .int x1), (2, .int x2), (3, .int x3), (4, .int x4), (5, .int x5), (6, .int x6)], [.int ((gI σ 11 1) + x6)], mk X, σ)
  refine Ex.blk 1000 rfl ?_
  rcases ite_sp h with ⟨c1, h⟩ | ⟨c1, h⟩
  · refine And.intro (fun _ => ?_) (fun hn => absurd c1 hn)
    show Ex mr_X9_feed sc (Cl MT pr sc (d + 1)) (rtE (some (.int r)) (mk X) σ2) (46, [(0, .ref 0), (1, .int x1), (2, .int x2), (3, .int x3), (4, .int x4), (5, .int x5), (6, .int x6)], [], mk X, σ)
    refine Ex.blk 4 rfl ?_
    obtain ⟨p6, hp6, h⟩ := bind_sp h
    refine Exists.intro none (Exists.intro (mk X) (Exists.intro p6 (And.intro (cl_X5_write (d + 0) hp6) ?_)))
    show Ex mr_X9_feed sc (Cl MT pr sc (d + 1)) (rtE (some (.int r)) (mk X) σ2) (54, [(0, .ref 0), (1, .int x1), (2, .int x2), (3, .int x3), (4, .int x4), (5, .int x5), (6, .int x6)], [], mk X, p6)
    refine Ex.blk 4 rfl ?_
    obtain ⟨p7, hp7, h⟩ := bind_sp h
    refine Exists.intro none (Exists.intro (mk X) (Exists.intro p7 (And.intro (cl_X5_write (d + 0) hp7) ?_)))
    show Ex mr_X9_feed sc (Cl MT pr sc (d + 1)) (rtE (some (.int r)) (mk X) σ2) (62, [(0, .ref 0), (1, .int x1), (2, .int x2), (3, .int x3), (4, .int x4), (5, .int x5), (6, .int x6)], [], mk X, p7)
    refine Ex.blk 4 rfl ?_
    obtain ⟨p8, hp8, h⟩ := bind_sp h
    refine Exists.intro none (Exists.intro (mk X) (Exists.intro p8 (And.intro (cl_X5_write (d + 0) hp8) ?_)))
    show Ex mr_X9_feed sc (Cl MT pr sc (d + 1)) (rtE (some (.int r)) (mk X) σ2) (70, [(0, .ref 0), (1, .int x1), (2, .int x2), (3, .int x3), (4, .int x4), (5, .int x5), (6, .int x6)], [], mk X, p8)
    refine Ex.blk 4 rfl ?_
    obtain ⟨p9, hp9, h⟩ := bind_sp h
    refine Exists.intro none (Exists.intro (mk X) (Exists.intro p9 (And.intro (cl_X5_write (d + 0) hp9) ?_)))
    show Ex mr_X9_feed sc (Cl MT pr sc (d + 1)) (rtE (some (.int r)) (mk X) σ2) (79, [(0, .ref 0), (1, .int x1), (2, .int x2), (3, .int x3), (4, .int x4), (5, .int x5), (6, .int x6)], [], mk X, p9)
    refine Ex.blk 4 rfl ?_
    obtain ⟨p10, hp10, h⟩ := bind_sp h
    refine Exists.intro none (Exists.intro (mk X) (Exists.intro p10 (And.intro (cl_X5_write (d + 0) hp10) ?_)))
    show Ex mr_X9_feed sc (Cl MT pr sc (d + 1)) (rtE (some (.int r)) (mk X) σ2) (88, [(0, .ref 0), (1, .int x1), (2, .int x2), (3, .int x3), (4, .int x4), (5, .int x5), (6, .int x6)], [], mk X, p10)
    refine Ex.blk 1000 rfl ?_
    cases h
    exact And.intro trivial ⟨rfl, rfl, rfl⟩
  · refine And.intro (fun hp => absurd hp c1) (fun _ => ?_)
    show Ex mr_X9_feed sc (Cl MT pr sc (d + 1)) (rtE (some (.int r)) (mk X) σ2) (44, [(0, .ref 0), (1, .int x1), (2, .int x2), (3, .int x3), (4, .int x4), (5, .int x5), (6, .int x6)], [], mk X, σ)
    refine Ex.blk 1000 rfl ?_
    cases h
    exact And.intro trivial ⟨rfl, rfl, rfl⟩
theorem cl_X9_feed {pr : Ct} {sc : Nat × (Nat → Int32)} {X : En} (d : Nat) {r : Int32} {σ2 : St} {x1 : Int32} {x2 : Int32} {x3 : Int32} {x4 : Int32} {x5 : Int32} {σ : St} (h : f_X9_feed x1 x2 x3 x4 x5 σ = some (r, σ2)) : Cl MT pr sc (d + 1 + 1) 83 [.ref 0, .int x1, .int x2, .int x3, .int x4, .int x5] (mk X) σ (some (.int r)) (mk X) σ2 := by
  refine cl_of mr_X9_feed rfl rfl ?_
  unfold f_X9_feed at h
  refine Ex.blk 2 rfl ?_
  obtain ⟨p1, hp1, h⟩ := bind_sp h
  refine Exists.intro (some (.int p1.1)) (Exists.intro (mk X) (Exists.intro p1.2 (And.intro (cl_X9_bytesIn (d + 0) hp1) ?_)))
  show Ex mr_X9_feed sc (Cl MT pr sc (d + 1)) (rtE (some (.int r)) (mk X) σ2) (4, [(0, .ref 0), (1, .int x1), (2, .int x2), (3, .int x3), (4, .int x4), (5, .int x5)], [.int p1.1], mk X, p1.2)
  refine Ex.blk 2 rfl ?_
  obtain ⟨p2, hp2, h⟩ := bind_sp h
  refine Exists.intro (some (.int p2.1)) (Exists.intro (mk X) (Exists.intro p2.2 (And.intro (cl_X9_bytesIn (d + 0) hp2) ?_)))
  show Ex mr_X9_feed sc (Cl MT pr sc (d + 1)) (rtE (some (.int r)) (mk X) σ2) (8, [(0, .ref 0), (1, .int x1), (2, .int x2), (3, .int x3), (4, .int x4), (5, .int x5)], [.int p2.1, .int p1.1], mk X, p2.2)
  refine Ex.blk 3 rfl ?_
  obtain ⟨p3, hp3, h⟩ := bind_sp h
  refine Exists.intro (some (.int p3.1)) (Exists.intro (mk X) (Exists.intro p3.2 (And.intro (cl_X9_bytesIn (d + 0) hp3) ?_)))
  show Ex mr_X9_feed sc (Cl MT pr sc (d + 1)) (rtE (some (.int r)) (mk X) σ2) (13, [(0, .ref 0), (1, .int x1), (2, .int x2), (3, .int x3), (4, .int x4), (5, .int x5)], [.int p3.1, .int (p1.1 + p2.1)], mk X, p3.2)
  refine Ex.blk 3 rfl ?_
  obtain ⟨p4, hp4, h⟩ := bind_sp h
  refine Exists.intro (some (.int p4.1)) (Exists.intro (mk X) (Exists.intro p4.2 (And.intro (cl_X9_bytesIn (d + 0) hp4) ?_)))
  show Ex mr_X9_feed sc (Cl MT pr sc (d + 1)) (rtE (some (.int r)) (mk X) σ2) (19, [(0, .ref 0), (1, .int x1), (2, .int x2), (3, .int x3), (4, .int x4), (5, .int x5)], [.int p4.1, .int ((p1.1 + p2.1) + p3.1)], mk X, p4.2)
  refine Ex.blk 3 rfl ?_
  obtain ⟨p5, hp5, h⟩ := bind_sp h
  refine Exists.intro (some (.int p5.1)) (Exists.intro (mk X) (Exists.intro p5.2 (And.intro (cl_X9_bytesIn (d + 0) hp5) ?_)))
  show Ex mr_X9_feed sc (Cl MT pr sc (d + 1)) (rtE (some (.int r)) (mk X) σ2) (25, [(0, .ref 0), (1, .int x1), (2, .int x2), (3, .int x3), (4, .int x4), (5, .int x5)], [.int p5.1, .int (((p1.1 + p2.1) + p3.1) + p4.1)], mk X, p5.2)
  refine Ex.blk 2 rfl ?_
  show Ex mr_X9_feed sc (Cl MT pr sc (d + 1)) (rtE (some (.int r)) (mk X) σ2) (28, [(6, .int ((((p1.1 + p2.1) + p3.1) + p4.1) + p5.1)), (0, .ref 0), (1, .int x1), (2, .int x2), (3, .int x3), (4, .int x4), (5, .int x5)], [], mk X, p5.2)
  refine Ex.pick (lv' := _) [1, 2, 3, 4, 5, 6, 0] rfl ?_
  exact lk_X9_feed_28 d _ _ _ _ _ _ _ h
theorem lk_X9_end_15 {pr : Ct} {sc : Nat × (Nat → Int32)} {X : En} (d : Nat) {r : Int32} {σ2 : St} (σ : St) (h : f_X9_end_15 σ = some (r, σ2)) : Ex mr_X9_end sc (Cl MT pr sc (d + 0)) (rtE (some (.int r)) (mk X) σ2) (15, [], [], mk X, σ) := by
  unfold f_X9_end_15 at h
  refine Ex.blk 1000 rfl ?_
  cases h
  exact And.intro isb_0 ⟨rfl, rfl, rfl⟩
theorem cl_X9_end {pr : Ct} {sc : Nat × (Nat → Int32)} {X : En} (d : Nat) {r : Int32} {σ2 : St} {x1 : Int32} {σ : St} (h : f_X9_end x1 σ = some (r, σ2)) : Cl MT pr sc (d + 0 + 1) 84 [.ref 0, .int x1] (mk X) σ (some (.int r)) (mk X) σ2 := by
  refine cl_of mr_X9_end rfl rfl ?_
  unfold f_X9_end at h
  refine Ex.blk 1000 rfl ?_
  rcases ite_sp h with ⟨c1, h⟩ | ⟨c1, h⟩
  · refine And.intro (fun _ => ?_) (fun hn => absurd c1 hn)
    show Ex mr_X9_end sc (Cl MT pr sc (d + 0)) (rtE (some (.int r)) (mk X) σ2) (15, [(0, .ref 0), (1, .int x1)], [], mk X, σ)
    refine Ex.pick (lv' := _) [] rfl ?_
    exact lk_X9_end_15 d _ h
  · refine And.intro (fun hp => absurd hp c1) (fun _ => ?_)
    show Ex mr_X9_end sc (Cl MT pr sc (d + 0)) (rtE (some (.int r)) (mk X) σ2) (4, [(0, .ref 0), (1, .int x1)], [], mk X, σ)
    refine Ex.blk 1000 rfl ?_
    rcases ite_sp h with ⟨c2, h⟩ | ⟨c2, h⟩
    · refine And.intro (fun _ => ?_) (fun hn => absurd c2 hn)
      show Ex mr_X9_end sc (Cl MT pr sc (d + 0)) (rtE (some (.int r)) (mk X) σ2) (17, [(0, .ref 0), (1, .int x1)], [], mk X, σ)
      refine Ex.blk 5 rfl ?_
      show Ex mr_X9_end sc (Cl MT pr sc (d + 0)) (rtE (some (.int r)) (mk X) σ2) (26, [(0, .ref 0), (1, .int x1)], [.int 1], mk X, (sI σ 11 1 x1))
      refine Ex.blk 1000 rfl ?_
      cases h
      exact And.intro isb_1 ⟨rfl, rfl, rfl⟩
    · refine And.intro (fun hp => absurd hp c2) (fun _ => ?_)
      show Ex mr_X9_end sc (Cl MT pr sc (d + 0)) (rtE (some (.int r)) (mk X) σ2) (15, [(0, .ref 0), (1, .int x1)], [], mk X, σ)
      refine Ex.pick (lv' := _) [] rfl ?_
      exact lk_X9_end_15 d _ h
theorem lk_X9_set_43 {pr : Ct} {sc : Nat × (Nat → Int32)} {X : En} (d : Nat) {r : Int32} {σ2 : St} (σ : St) (h : f_X9_set_43 σ = some (r, σ2)) : Ex mr_X9_set sc (Cl MT pr sc (d + 0)) (rtE (some (.int r)) (mk X) σ2) (43, [], [], mk X, σ) := by
  unfold f_X9_set_43 at h
  refine Ex.blk 1000 rfl ?_
  cases h
  exact And.intro isb_0 ⟨rfl, rfl, rfl⟩
theorem lk_X9_set_101 {pr : Ct} {sc : Nat × (Nat → Int32)} {X : En} (d : Nat) {r : Int32} {σ2 : St} (σ : St) (h : f_X9_set_101 σ = some (r, σ2)) : Ex mr_X9_set sc (Cl MT pr sc (d + 0)) (rtE (some (.int r)) (mk X) σ2) (101, [], [], mk X, σ) := by
  unfold f_X9_set_101 at h
  refine Ex.blk 1000 rfl ?_
  cases h
  exact And.intro isb_1 ⟨rfl, rfl, rfl⟩
theorem lk_X9_set_21 {pr : Ct} {sc : Nat × (Nat → Int32)} {X : En} (d : Nat) {r : Int32} {σ2 : St} (x1 : Int32) (x2 : Int32) (x3 : Int32) (y0 : Int32) (σ : St) (h : f_X9_set_21 x1 x2 x3 y0 σ = some (r, σ2)) : Ex mr_X9_set sc (Cl MT pr sc (d + 0)) (rtE (some (.int r)) (mk X) σ2) (21, [(0, .ref 0), (1, .int x1), (2, .int x2), (3, .int x3)], [.int y0], mk X, σ) := by
  unfold f_X9_set_21 at h
  refine Ex.blk 1000 rfl ?_
  rcases ite_sp h with ⟨c1, h⟩ | ⟨c1, h⟩
  · refine And.intro (fun _ => ?_) (fun hn => absurd c1 hn)
    show Ex mr_X9_set sc (Cl MT pr sc (d + 0)) (rtE (some (.int r)) (mk X) σ2) (43, [(4, .int y0), (0, .ref 0), (1, .int x1), (2, .int x2), (3, .int x3)], [], mk X, σ)
    refine Ex.pick (lv' := _) [] rfl ?_
    exact lk_X9_set_43 d _ h
  · refine And.intro (fun hp => absurd hp c1) (fun _ => ?_)
    show Ex mr_X9_set sc (Cl MT pr sc (d + 0)) (rtE (some (.int r)) (mk X) σ2) (27, [(4, .int y0), (0, .ref 0), (1, .int x1), (2, .int x2), (3, .int x3)], [], mk X, σ)
    refine Ex.blk 1000 rfl ?_
    rcases ite_sp h with ⟨c2, h⟩ | ⟨c2, h⟩
    · refine And.intro (fun _ => ?_) (fun hn => absurd c2 hn)
      show Ex mr_X9_set sc (Cl MT pr sc (d + 0)) (rtE (some (.int r)) (mk X) σ2) (43, [(4, .int y0), (0, .ref 0), (1, .int x1), (2, .int x2), (3, .int x3)], [], mk X, σ)
      refine Ex.pick (lv' := _) [] rfl ?_
      exact lk_X9_set_43 d _ h
    · refine And.intro (fun hp => absurd hp c2) (fun _ => ?_)
      show Ex mr_X9_set sc (Cl MT pr sc (d + 0)) (rtE (some (.int r)) (mk X) σ2) (32, [(4, .int y0), (0, .ref 0), (1, .int x1), (2, .int x2), (3, .int x3)], [], mk X, σ)
      refine Ex.blk 1000 rfl ?_
      rcases ite_sp h with ⟨c3, h⟩ | ⟨c3, h⟩
      · refine And.intro (fun _ => ?_) (fun hn => absurd c3 hn)
        show Ex mr_X9_set sc (Cl MT pr sc (d + 0)) (rtE (some (.int r)) (mk X) σ2) (43, [(4, .int y0), (0, .ref 0), (1, .int x1), (2, .int x2), (3, .int x3)], [], mk X, σ)
        refine Ex.pick (lv' := _) [] rfl ?_
        exact lk_X9_set_43 d _ h
      · refine And.intro (fun hp => absurd hp c3) (fun _ => ?_)
        show Ex mr_X9_set sc (Cl MT pr sc (d + 0)) (rtE (some (.int r)) (mk X) σ2) (37, [(4, .int y0), (0, .ref 0), (1, .int x1), (2, .int x2), (3, .int x3)], [], mk X, σ)
        refine Ex.blk 1000 rfl ?_
        rcases ite_sp h with ⟨c4, h⟩ | ⟨c4, h⟩
        · refine And.intro (fun _ => ?_) (fun hn => absurd c4 hn)
          show Ex mr_X9_set sc (Cl MT pr sc (d + 0)) (rtE (some (.int r)) (mk X) σ2) (45, [(4, .int y0), (0, .ref 0), (1, .int x1), (2, .int x2), (3, .int x3)], [], mk X, σ)
          refine Ex.blk 1000 rfl ?_
          rcases ite_sp h with ⟨c5, h⟩ | ⟨c5, h⟩
          · refine And.intro (fun _ => ?_) (fun hn => absurd (c5.trans (by decide)) hn)
            show Ex mr_X9_set sc (Cl MT pr sc (d + 0)) (rtE (some (.int r)) (mk X) σ2) (72, [(4, .int y0), (0, .ref 0), (1, .int x1), (2, .int x2), (3, .int x3)], [], mk X, σ)
            refine Ex.blk 1000 rfl ?_
            show Ex mr_X9_set sc (Cl MT pr sc (d + 0)) (rtE (some (.int r)) (mk X) σ2) (101, [(4, .int y0), (0, .ref 0), (1, .int x1), (2, .int x2), (3, .int x3)], [], mk X, (sI σ 0 14 x2))
            refine Ex.pick (lv' := _) [] rfl ?_
            exact lk_X9_set_101 d _ h
          refine And.intro (fun hp => absurd (hp.trans (by decide)) c5) (fun _ => ?_)
          rcases ite_sp h with ⟨c6, h⟩ | ⟨c6, h⟩
          · refine And.intro (fun _ => ?_) (fun hn => absurd (c6.trans (by decide)) hn)
            show Ex mr_X9_set sc (Cl MT pr sc (d + 0)) (rtE (some (.int r)) (mk X) σ2) (80, [(4, .int y0), (0, .ref 0), (1, .int x1), (2, .int x2), (3, .int x3)], [], mk X, σ)
            refine Ex.blk 1000 rfl ?_
            show Ex mr_X9_set sc (Cl MT pr sc (d + 0)) (rtE (some (.int r)) (mk X) σ2) (101, [(4, .int y0), (0, .ref 0), (1, .int x1), (2, .int x2), (3, .int x3)], [], mk X, (sI σ 0 15 x2))
            refine Ex.pick (lv' := _) [] rfl ?_
            exact lk_X9_set_101 d _ h
          refine And.intro (fun hp => absurd (hp.trans (by decide)) c6) (fun _ => ?_)
          rcases ite_sp h with ⟨c7, h⟩ | ⟨c7, h⟩
          · refine And.intro (fun _ => ?_) (fun hn => absurd (c7.trans (by decide)) hn)
            show Ex mr_X9_set sc (Cl MT pr sc (d + 0)) (rtE (some (.int r)) (mk X) σ2) (88, [(4, .int y0), (0, .ref 0), (1, .int x1), (2, .int x2), (3, .int x3)], [], mk X, σ)
            refine Ex.blk 1000 rfl ?_
            show Ex mr_X9_set sc (Cl MT pr sc (d + 0)) (rtE (some (.int r)) (mk X) σ2) (101, [(4, .int y0), (0, .ref 0), (1, .int x1), (2, .int x2), (3, .int x3)], [], mk X, (sI σ 0 16 x2))
            refine Ex.pick (lv' := _) [] rfl ?_
            exact lk_X9_set_101 d _ h
          refine And.intro (fun hp => absurd (hp.trans (by decide)) c7) (fun _ => ?_)
          show Ex mr_X9_set sc (Cl MT pr sc (d + 0)) (rtE (some (.int r)) (mk X) σ2) (96, [(4, .int y0), (0, .ref 0), (1, .int x1), (2, .int x2), (3, .int x3)], [], mk X, σ)
          refine Ex.blk 1000 rfl ?_
          show Ex mr_X9_set sc (Cl MT pr sc (d + 0)) (rtE (some (.int r)) (mk X) σ2) (101, [(4, .int y0), (0, .ref 0), (1, .int x1), (2, .int x2), (3, .int x3)], [], mk X, (sI σ 0 17 x2))
          refine Ex.pick (lv' := _) [] rfl ?_
          exact lk_X9_set_101 d _ h
        · refine And.intro (fun hp => absurd hp c4) (fun _ => ?_)
          show Ex mr_X9_set sc (Cl MT pr sc (d + 0)) (rtE (some (.int r)) (mk X) σ2) (43, [(4, .int y0), (0, .ref 0), (1, .int x1), (2, .int x2), (3, .int x3)], [], mk X, σ)
          refine Ex.pick (lv' := _) [] rfl ?_
          exact lk_X9_set_43 d _ h
theorem lk_X9_set_10 {pr : Ct} {sc : Nat × (Nat → Int32)} {X : En} (d : Nat) {r : Int32} {σ2 : St} (x1 : Int32) (x2 : Int32) (y0 : Int32) (σ : St) (h : f_X9_set_10 x1 x2 y0 σ = some (r, σ2)) : Ex mr_X9_set sc (Cl MT pr sc (d + 0)) (rtE (some (.int r)) (mk X) σ2) (10, [(0, .ref 0), (1, .int x1), (2, .int x2)], [.int y0], mk X, σ) := by
  unfold f_X9_set_10 at h
  refine Ex.blk 1000 rfl ?_
  rcases ite_sp h with ⟨c1, h⟩ | ⟨c1, h⟩
  · refine And.intro (fun hp => absurd c1 hp) (fun _ => ?_)
    show Ex mr_X9_set sc (Cl MT pr sc (d + 0)) (rtE (some (.int r)) (mk X) σ2) (15, [(3, .int y0), (0, .ref 0), (1, .int x1), (2, .int x2)], [], mk X, σ)
    refine Ex.blk 1000 rfl ?_
    show Ex mr_X9_set sc (Cl MT pr sc (d + 0)) (rtE (some (.int r)) (mk X) σ2) (21, [(3, .int y0), (0, .ref 0), (1, .int x1), (2, .int x2)], [.int 1], mk X, σ)
    refine Ex.pick (lv' := _) [1, 2, 3, 0] rfl ?_
    exact lk_X9_set_21 d _ _ _ _ _ h
  · refine And.intro (fun _ => ?_) (fun hn => absurd c1 hn)
    show Ex mr_X9_set sc (Cl MT pr sc (d + 0)) (rtE (some (.int r)) (mk X) σ2) (19, [(3, .int y0), (0, .ref 0), (1, .int x1), (2, .int x2)], [], mk X, σ)
    refine Ex.blk 1000 rfl ?_
    show Ex mr_X9_set sc (Cl MT pr sc (d + 0)) (rtE (some (.int r)) (mk X) σ2) (21, [(3, .int y0), (0, .ref 0), (1, .int x1), (2, .int x2)], [.int 9], mk X, σ)
    refine Ex.pick (lv' := _) [1, 2, 3, 0] rfl ?_
    exact lk_X9_set_21 d _ _ _ _ _ h
theorem cl_X9_set {pr : Ct} {sc : Nat × (Nat → Int32)} {X : En} (d : Nat) {r : Int32} {σ2 : St} {x1 : Int32} {x2 : Int32} {σ : St} (h : f_X9_set x1 x2 σ = some (r, σ2)) : Cl MT pr sc (d + 0 + 1) 87 [.ref 0, .int x1, .int x2] (mk X) σ (some (.int r)) (mk X) σ2 := by
  refine cl_of mr_X9_set rfl rfl ?_
  unfold f_X9_set at h
  refine Ex.blk 1000 rfl ?_
  rcases ite_sp h with ⟨c1, h⟩ | ⟨c1, h⟩
  · refine And.intro (fun hp => absurd c1 hp) (fun _ => ?_)
    show Ex mr_X9_set sc (Cl MT pr sc (d + 0)) (rtE (some (.int r)) (mk X) σ2) (5, [(0, .ref 0), (1, .int x1), (2, .int x2)], [], mk X, σ)
    refine Ex.blk 1000 rfl ?_
    show Ex mr_X9_set sc (Cl MT pr sc (d + 0)) (rtE (some (.int r)) (mk X) σ2) (10, [(0, .ref 0), (1, .int x1), (2, .int x2)], [.int 1], mk X, σ)
    exact lk_X9_set_10 d _ _ _ _ h
  · refine And.intro (fun _ => ?_) (fun hn => absurd c1 hn)
    show Ex mr_X9_set sc (Cl MT pr sc (d + 0)) (rtE (some (.int r)) (mk X) σ2) (9, [(0, .ref 0), (1, .int x1), (2, .int x2)], [], mk X, σ)
    refine Ex.blk 1000 rfl ?_
    show Ex mr_X9_set sc (Cl MT pr sc (d + 0)) (rtE (some (.int r)) (mk X) σ2) (10, [(0, .ref 0), (1, .int x1), (2, .int x2)], [.int 0], mk X, σ)
    exact lk_X9_set_10 d _ _ _ _ h
theorem lk_X9_isRope_20 {pr : Ct} {sc : Nat × (Nat → Int32)} {X : En} (d : Nat) {r : Int32} {σ2 : St} (y0 : Int32) (σ : St) (h : f_X9_isRope_20 y0 σ = some (r, σ2)) : Ex mr_X9_isRope sc (Cl MT pr sc (d + 0)) (rtE (some (.int r)) (mk X) σ2) (20, [], [.int y0], mk X, σ) := by
  unfold f_X9_isRope_20 at h
  refine Ex.blk 1000 rfl ?_
  obtain ⟨g1, h⟩ := gd_some h
  cases h
  exact And.intro (isbb_ok g1) ⟨rfl, rfl, rfl⟩
theorem lk_X9_isRope_19 {pr : Ct} {sc : Nat × (Nat → Int32)} {X : En} (d : Nat) {r : Int32} {σ2 : St} (σ : St) (h : f_X9_isRope_19 σ = some (r, σ2)) : Ex mr_X9_isRope sc (Cl MT pr sc (d + 0)) (rtE (some (.int r)) (mk X) σ2) (19, [], [], mk X, σ) := by
  unfold f_X9_isRope_19 at h
  refine Ex.blk 1000 rfl ?_
  show Ex mr_X9_isRope sc (Cl MT pr sc (d + 0)) (rtE (some (.int r)) (mk X) σ2) (20, [], [.int 0], mk X, σ)
  exact lk_X9_isRope_20 d _ _ h
theorem cl_X9_isRope {pr : Ct} {sc : Nat × (Nat → Int32)} {X : En} (d : Nat) {r : Int32} {σ2 : St} {x1 : Int32} {σ : St} (h : f_X9_isRope x1 σ = some (r, σ2)) : Cl MT pr sc (d + 0 + 1) 88 [.ref 0, .int x1] (mk X) σ (some (.int r)) (mk X) σ2 := by
  refine cl_of mr_X9_isRope rfl rfl ?_
  unfold f_X9_isRope at h
  refine Ex.blk 1000 rfl ?_
  rcases ite_sp h with ⟨c1, h⟩ | ⟨c1, h⟩
  · refine And.intro (fun _ => ?_) (fun hn => absurd c1 hn)
    show Ex mr_X9_isRope sc (Cl MT pr sc (d + 0)) (rtE (some (.int r)) (mk X) σ2) (19, [(0, .ref 0), (1, .int x1)], [], mk X, σ)
    refine Ex.pick (lv' := _) [] rfl ?_
    exact lk_X9_isRope_19 d _ h
  · refine And.intro (fun hp => absurd hp c1) (fun _ => ?_)
    show Ex mr_X9_isRope sc (Cl MT pr sc (d + 0)) (rtE (some (.int r)) (mk X) σ2) (4, [(0, .ref 0), (1, .int x1)], [], mk X, σ)
    refine Ex.blk 1000 rfl ?_
    rcases ite_sp h with ⟨c2, h⟩ | ⟨c2, h⟩
    · refine And.intro (fun _ => ?_) (fun hn => absurd c2 hn)
      show Ex mr_X9_isRope sc (Cl MT pr sc (d + 0)) (rtE (some (.int r)) (mk X) σ2) (19, [(0, .ref 0), (1, .int x1)], [], mk X, σ)
      refine Ex.pick (lv' := _) [] rfl ?_
      exact lk_X9_isRope_19 d _ h
    · refine And.intro (fun hp => absurd hp c2) (fun _ => ?_)
      show Ex mr_X9_isRope sc (Cl MT pr sc (d + 0)) (rtE (some (.int r)) (mk X) σ2) (15, [(0, .ref 0), (1, .int x1)], [], mk X, σ)
      refine Ex.blk 1000 rfl ?_
      show Ex mr_X9_isRope sc (Cl MT pr sc (d + 0)) (rtE (some (.int r)) (mk X) σ2) (20, [(0, .ref 0), (1, .int x1)], [.int 1], mk X, σ)
      refine Ex.pick (lv' := _) [] rfl ?_
      exact lk_X9_isRope_20 d _ _ h
theorem lk_X9_goats_31 {pr : Ct} {sc : Nat × (Nat → Int32)} {X : En} (d : Nat) {r : Int32} {σ2 : St} (σ : St) (h : f_X9_goats_31 σ = some (r, σ2)) : Ex mr_X9_goats sc (Cl MT pr sc (d + 1)) (rtE (some (.int r)) (mk X) σ2) (31, [], [], mk X, σ) := by
  unfold f_X9_goats_31 at h
  refine Ex.blk 1000 rfl ?_
  cases h
  exact And.intro isb_0 ⟨rfl, rfl, rfl⟩
theorem cl_X9_goats {pr : Ct} {sc : Nat × (Nat → Int32)} {X : En} (d : Nat) {r : Int32} {σ2 : St} {x1 : Int32} {x2 : Int32} {σ : St} (h : f_X9_goats x1 x2 σ = some (r, σ2)) : Cl MT pr sc (d + 1 + 1) 89 [.ref 0, .int x1, .int x2] (mk X) σ (some (.int r)) (mk X) σ2 := by
  refine cl_of mr_X9_goats rfl rfl ?_
  unfold f_X9_goats at h
  refine Ex.blk 3 rfl ?_
  obtain ⟨p1, hp1, h⟩ := bind_sp h
  refine Exists.intro (some (.int p1.1)) (Exists.intro (mk X) (Exists.intro p1.2 (And.intro (cl_X9_isRope (d + 0) hp1) ?_)))
  show Ex mr_X9_goats sc (Cl MT pr sc (d + 1)) (rtE (some (.int r)) (mk X) σ2) (5, [(0, .ref 0), (1, .int x1), (2, .int x2)], [.int p1.1], mk X, p1.2)
  refine Ex.blk 1000 rfl ?_
  rcases ite_sp h with ⟨c1, h⟩ | ⟨c1, h⟩
  · refine And.intro (fun _ => ?_) (fun hn => absurd c1 hn)
    show Ex mr_X9_goats sc (Cl MT pr sc (d + 1)) (rtE (some (.int r)) (mk X) σ2) (31, [(0, .ref 0), (1, .int x1), (2, .int x2)], [], mk X, p1.2)
    refine Ex.pick (lv' := _) [] rfl ?_
    exact lk_X9_goats_31 d _ h
  · refine And.intro (fun hp => absurd hp c1) (fun _ => ?_)
    show Ex mr_X9_goats sc (Cl MT pr sc (d + 1)) (rtE (some (.int r)) (mk X) σ2) (8, [(0, .ref 0), (1, .int x1), (2, .int x2)], [], mk X, p1.2)
    refine Ex.blk 1000 rfl ?_
    rcases ite_sp h with ⟨c2, h⟩ | ⟨c2, h⟩
    · refine And.intro (fun _ => ?_) (fun hn => absurd c2 hn)
      show Ex mr_X9_goats sc (Cl MT pr sc (d + 1)) (rtE (some (.int r)) (mk X) σ2) (31, [(0, .ref 0), (1, .int x1), (2, .int x2)], [], mk X, p1.2)
      refine Ex.pick (lv' := _) [] rfl ?_
      exact lk_X9_goats_31 d _ h
    · refine And.intro (fun hp => absurd hp c2) (fun _ => ?_)
      show Ex mr_X9_goats sc (Cl MT pr sc (d + 1)) (rtE (some (.int r)) (mk X) σ2) (12, [(0, .ref 0), (1, .int x1), (2, .int x2)], [], mk X, p1.2)
      refine Ex.blk 1000 rfl ?_
      rcases ite_sp h with ⟨c3, h⟩ | ⟨c3, h⟩
      · refine And.intro (fun _ => ?_) (fun hn => absurd c3 hn)
        show Ex mr_X9_goats sc (Cl MT pr sc (d + 1)) (rtE (some (.int r)) (mk X) σ2) (31, [(0, .ref 0), (1, .int x1), (2, .int x2)], [], mk X, p1.2)
        refine Ex.pick (lv' := _) [] rfl ?_
        exact lk_X9_goats_31 d _ h
      · refine And.intro (fun hp => absurd hp c3) (fun _ => ?_)
        show Ex mr_X9_goats sc (Cl MT pr sc (d + 1)) (rtE (some (.int r)) (mk X) σ2) (18, [(0, .ref 0), (1, .int x1), (2, .int x2)], [], mk X, p1.2)
        refine Ex.blk 5 rfl ?_
        show Ex mr_X9_goats sc (Cl MT pr sc (d + 1)) (rtE (some (.int r)) (mk X) σ2) (27, [(0, .ref 0), (1, .int x1), (2, .int x2)], [.int x1, .ref 2, .int x2], mk X, p1.2)
        refine Ex.blk 1 rfl ?_
        obtain ⟨g4, h⟩ := gd_some h
        refine And.intro (inb_ok g4) ?_
        show Ex mr_X9_goats sc (Cl MT pr sc (d + 1)) (rtE (some (.int r)) (mk X) σ2) (28, [(0, .ref 0), (1, .int x1), (2, .int x2)], [.int (gI p1.2 2 x1.toNatClampNeg), .int x2], mk X, p1.2)
        refine Ex.blk 1000 rfl ?_
        rcases ite_sp h with ⟨c5, h⟩ | ⟨c5, h⟩
        · refine And.intro (fun _ => ?_) (fun hn => absurd c5 hn)
          show Ex mr_X9_goats sc (Cl MT pr sc (d + 1)) (rtE (some (.int r)) (mk X) σ2) (33, [(0, .ref 0), (1, .int x1), (2, .int x2)], [], mk X, p1.2)
          refine Ex.blk 5 rfl ?_
          show Ex mr_X9_goats sc (Cl MT pr sc (d + 1)) (rtE (some (.int r)) (mk X) σ2) (42, [(0, .ref 0), (1, .int x1), (2, .int x2)], [.int x2, .int x1, .ref 3], mk X, p1.2)
          refine Ex.blk 1 rfl ?_
          obtain ⟨g6, h⟩ := gd_some h
          refine And.intro (inb_ok g6) ?_
          show Ex mr_X9_goats sc (Cl MT pr sc (d + 1)) (rtE (some (.int r)) (mk X) σ2) (43, [(0, .ref 0), (1, .int x1), (2, .int x2)], [], mk X, (sI p1.2 3 x1.toNatClampNeg x2))
          refine Ex.blk 1000 rfl ?_
          cases h
          exact And.intro isb_1 ⟨rfl, rfl, rfl⟩
        · refine And.intro (fun hp => absurd hp c5) (fun _ => ?_)
          show Ex mr_X9_goats sc (Cl MT pr sc (d + 1)) (rtE (some (.int r)) (mk X) σ2) (31, [(0, .ref 0), (1, .int x1), (2, .int x2)], [], mk X, p1.2)
          refine Ex.pick (lv' := _) [] rfl ?_
          exact lk_X9_goats_31 d _ h
theorem lk_X9_echo_29 {pr : Ct} {sc : Nat × (Nat → Int32)} {X : En} (d : Nat) {r : Int32} {σ2 : St} (σ : St) (h : f_X9_echo_29 σ = some (r, σ2)) : Ex mr_X9_echo sc (Cl MT pr sc (d + 1)) (rtE (some (.int r)) (mk X) σ2) (29, [], [], mk X, σ) := by
  unfold f_X9_echo_29 at h
  refine Ex.blk 1000 rfl ?_
  cases h
  exact And.intro isb_0 ⟨rfl, rfl, rfl⟩
theorem cl_X9_echo {pr : Ct} {sc : Nat × (Nat → Int32)} {X : En} (d : Nat) {r : Int32} {σ2 : St} {x1 : Int32} {x2 : Int32} {x3 : Int32} {σ : St} (h : f_X9_echo x1 x2 x3 σ = some (r, σ2)) : Cl MT pr sc (d + 1 + 1) 90 [.ref 0, .int x1, .int x2, .int x3] (mk X) σ (some (.int r)) (mk X) σ2 := by
  refine cl_of mr_X9_echo rfl rfl ?_
  unfold f_X9_echo at h
  refine Ex.blk 2 rfl ?_
  obtain ⟨p1, hp1, h⟩ := bind_sp h
  refine Exists.intro (some (.int p1.1)) (Exists.intro (mk X) (Exists.intro p1.2 (And.intro (cl_X9_isDigit (d + 0) hp1) ?_)))
  show Ex mr_X9_echo sc (Cl MT pr sc (d + 1)) (rtE (some (.int r)) (mk X) σ2) (4, [(0, .ref 0), (1, .int x1), (2, .int x2), (3, .int x3)], [.int p1.1], mk X, p1.2)
  refine Ex.blk 1000 rfl ?_
  rcases ite_sp h with ⟨c1, h⟩ | ⟨c1, h⟩
  · refine And.intro (fun _ => ?_) (fun hn => absurd c1 hn)
    show Ex mr_X9_echo sc (Cl MT pr sc (d + 1)) (rtE (some (.int r)) (mk X) σ2) (29, [(0, .ref 0), (1, .int x1), (2, .int x2), (3, .int x3)], [], mk X, p1.2)
    refine Ex.pick (lv' := _) [] rfl ?_
    exact lk_X9_echo_29 d _ h
  · refine And.intro (fun hp => absurd hp c1) (fun _ => ?_)
    show Ex mr_X9_echo sc (Cl MT pr sc (d + 1)) (rtE (some (.int r)) (mk X) σ2) (7, [(0, .ref 0), (1, .int x1), (2, .int x2), (3, .int x3)], [], mk X, p1.2)
    refine Ex.blk 2 rfl ?_
    obtain ⟨p2, hp2, h⟩ := bind_sp h
    refine Exists.intro (some (.int p2.1)) (Exists.intro (mk X) (Exists.intro p2.2 (And.intro (cl_X9_isDigit (d + 0) hp2) ?_)))
    show Ex mr_X9_echo sc (Cl MT pr sc (d + 1)) (rtE (some (.int r)) (mk X) σ2) (11, [(0, .ref 0), (1, .int x1), (2, .int x2), (3, .int x3)], [.int p2.1], mk X, p2.2)
    refine Ex.blk 1000 rfl ?_
    rcases ite_sp h with ⟨c2, h⟩ | ⟨c2, h⟩
    · refine And.intro (fun _ => ?_) (fun hn => absurd c2 hn)
      show Ex mr_X9_echo sc (Cl MT pr sc (d + 1)) (rtE (some (.int r)) (mk X) σ2) (29, [(0, .ref 0), (1, .int x1), (2, .int x2), (3, .int x3)], [], mk X, p2.2)
      refine Ex.pick (lv' := _) [] rfl ?_
      exact lk_X9_echo_29 d _ h
    · refine And.intro (fun hp => absurd hp c2) (fun _ => ?_)
      show Ex mr_X9_echo sc (Cl MT pr sc (d + 1)) (rtE (some (.int r)) (mk X) σ2) (14, [(0, .ref 0), (1, .int x1), (2, .int x2), (3, .int x3)], [], mk X, p2.2)
      refine Ex.blk 1000 rfl ?_
      rcases ite_sp h with ⟨c3, h⟩ | ⟨c3, h⟩
      · refine And.intro (fun _ => ?_) (fun hn => absurd c3 hn)
        show Ex mr_X9_echo sc (Cl MT pr sc (d + 1)) (rtE (some (.int r)) (mk X) σ2) (29, [(0, .ref 0), (1, .int x1), (2, .int x2), (3, .int x3)], [], mk X, p2.2)
        refine Ex.pick (lv' := _) [] rfl ?_
        exact lk_X9_echo_29 d _ h
      · refine And.intro (fun hp => absurd hp c3) (fun _ => ?_)
        show Ex mr_X9_echo sc (Cl MT pr sc (d + 1)) (rtE (some (.int r)) (mk X) σ2) (19, [(0, .ref 0), (1, .int x1), (2, .int x2), (3, .int x3)], [], mk X, p2.2)
        refine Ex.blk 1000 rfl ?_
        rcases ite_sp h with ⟨c4, h⟩ | ⟨c4, h⟩
        · refine And.intro (fun _ => ?_) (fun hn => absurd c4 hn)
          show Ex mr_X9_echo sc (Cl MT pr sc (d + 1)) (rtE (some (.int r)) (mk X) σ2) (29, [(0, .ref 0), (1, .int x1), (2, .int x2), (3, .int x3)], [], mk X, p2.2)
          refine Ex.pick (lv' := _) [] rfl ?_
          exact lk_X9_echo_29 d _ h
        · refine And.intro (fun hp => absurd hp c4) (fun _ => ?_)
          show Ex mr_X9_echo sc (Cl MT pr sc (d + 1)) (rtE (some (.int r)) (mk X) σ2) (23, [(0, .ref 0), (1, .int x1), (2, .int x2), (3, .int x3)], [], mk X, p2.2)
          refine Ex.blk 1000 rfl ?_
          rcases ite_sp h with ⟨c5, h⟩ | ⟨c5, h⟩
          · refine And.intro (fun _ => ?_) (fun hn => absurd c5 hn)
            show Ex mr_X9_echo sc (Cl MT pr sc (d + 1)) (rtE (some (.int r)) (mk X) σ2) (31, [(0, .ref 0), (1, .int x1), (2, .int x2), (3, .int x3)], [], mk X, p2.2)
            refine Ex.blk 5 rfl ?_
            show Ex mr_X9_echo sc (Cl MT pr sc (d + 1)) (rtE (some (.int r)) (mk X) σ2) (38, [(0, .ref 0), (1, .int x1), (2, .int x2), (3, .int x3)], [.int x3, .int x2, .int x1, .ref 15], mk X, p2.2)
            refine Ex.blk 1 rfl ?_
            obtain ⟨p3, hp3, h⟩ := bind_sp h
            refine Exists.intro (some (.int p3.1)) (Exists.intro (mk X) (Exists.intro p3.2 (And.intro (cl_X1_learn (d + 0) hp3) ?_)))
            show Ex mr_X9_echo sc (Cl MT pr sc (d + 1)) (rtE (some (.int r)) (mk X) σ2) (41, [(0, .ref 0), (1, .int x1), (2, .int x2), (3, .int x3)], [.int p3.1], mk X, p3.2)
            refine Ex.blk 1000 rfl ?_
            obtain ⟨g6, h⟩ := gd_some h
            cases h
            exact And.intro (isbb_ok g6) ⟨rfl, rfl, rfl⟩
          · refine And.intro (fun hp => absurd hp c5) (fun _ => ?_)
            show Ex mr_X9_echo sc (Cl MT pr sc (d + 1)) (rtE (some (.int r)) (mk X) σ2) (29, [(0, .ref 0), (1, .int x1), (2, .int x2), (3, .int x3)], [], mk X, p2.2)
            refine Ex.pick (lv' := _) [] rfl ?_
            exact lk_X9_echo_29 d _ h
theorem cl_X9_wind {pr : Ct} {sc : Nat × (Nat → Int32)} {X : En} (d : Nat) {σ2 : St} {x1 : Int64} {σ : St} (h : f_X9_wind x1 σ = some σ2) : Cl MT pr sc (d + 0 + 1) 91 [.ref 0, .long x1] (mk X) σ none (mk X) σ2 := by
  refine cl_of mr_X9_wind rfl rfl ?_
  unfold f_X9_wind at h
  refine Ex.blk 1000 rfl ?_
  cases h
  exact And.intro trivial ⟨rfl, rfl, rfl⟩
theorem lk_X9_isNumber_16 {pr : Ct} {sc : Nat × (Nat → Int32)} {X : En} (d : Nat) {r : Int32} {σ2 : St} (y0 : Int32) (σ : St) (h : f_X9_isNumber_16 y0 σ = some (r, σ2)) : Ex mr_X9_isNumber sc (Cl MT pr sc (d + 0)) (rtE (some (.int r)) (mk X) σ2) (16, [], [.int y0], mk X, σ) := by
  unfold f_X9_isNumber_16 at h
  refine Ex.blk 1000 rfl ?_
  obtain ⟨g1, h⟩ := gd_some h
  cases h
  exact And.intro (isbb_ok g1) ⟨rfl, rfl, rfl⟩
theorem lk_X9_isNumber_15 {pr : Ct} {sc : Nat × (Nat → Int32)} {X : En} (d : Nat) {r : Int32} {σ2 : St} (σ : St) (h : f_X9_isNumber_15 σ = some (r, σ2)) : Ex mr_X9_isNumber sc (Cl MT pr sc (d + 0)) (rtE (some (.int r)) (mk X) σ2) (15, [], [], mk X, σ) := by
  unfold f_X9_isNumber_15 at h
  refine Ex.blk 1000 rfl ?_
  show Ex mr_X9_isNumber sc (Cl MT pr sc (d + 0)) (rtE (some (.int r)) (mk X) σ2) (16, [], [.int 0], mk X, σ)
  exact lk_X9_isNumber_16 d _ _ h
theorem cl_X9_isNumber {pr : Ct} {sc : Nat × (Nat → Int32)} {X : En} (d : Nat) {r : Int32} {σ2 : St} {x0 : Int32} {σ : St} (h : f_X9_isNumber x0 σ = some (r, σ2)) : Cl MT pr sc (d + 0 + 1) 92 [.int x0] (mk X) σ (some (.int r)) (mk X) σ2 := by
  refine cl_of mr_X9_isNumber rfl rfl ?_
  unfold f_X9_isNumber at h
  refine Ex.blk 1000 rfl ?_
  rcases ite_sp h with ⟨c1, h⟩ | ⟨c1, h⟩
  · refine And.intro (fun _ => ?_) (fun hn => absurd c1 hn)
    show Ex mr_X9_isNumber sc (Cl MT pr sc (d + 0)) (rtE (some (.int r)) (mk X) σ2) (15, [(0, .int x0)], [], mk X, σ)
    refine Ex.pick (lv' := _) [] rfl ?_
    exact lk_X9_isNumber_15 d _ h
  · refine And.intro (fun hp => absurd hp c1) (fun _ => ?_)
    show Ex mr_X9_isNumber sc (Cl MT pr sc (d + 0)) (rtE (some (.int r)) (mk X) σ2) (4, [(0, .int x0)], [], mk X, σ)
    refine Ex.blk 1000 rfl ?_
    rcases ite_sp h with ⟨c2, h⟩ | ⟨c2, h⟩
    · refine And.intro (fun _ => ?_) (fun hn => absurd c2 hn)
      show Ex mr_X9_isNumber sc (Cl MT pr sc (d + 0)) (rtE (some (.int r)) (mk X) σ2) (15, [(0, .int x0)], [], mk X, σ)
      refine Ex.pick (lv' := _) [] rfl ?_
      exact lk_X9_isNumber_15 d _ h
    · refine And.intro (fun hp => absurd hp c2) (fun _ => ?_)
      show Ex mr_X9_isNumber sc (Cl MT pr sc (d + 0)) (rtE (some (.int r)) (mk X) σ2) (11, [(0, .int x0)], [], mk X, σ)
      refine Ex.blk 1000 rfl ?_
      show Ex mr_X9_isNumber sc (Cl MT pr sc (d + 0)) (rtE (some (.int r)) (mk X) σ2) (16, [(0, .int x0)], [.int 1], mk X, σ)
      refine Ex.pick (lv' := _) [] rfl ?_
      exact lk_X9_isNumber_16 d _ _ h
theorem lk_X7_standFor_1_2 {pr : Ct} {sc : Nat × (Nat → Int32)} {X : En} (d : Nat) {σ2 : St} : ∀ (n : Nat) (x1 : Int64) (x3 : Int32) (σ : St), f_X7_standFor_2 1 n x1 x3 σ = some σ2 → Ex mr_X7_standFor sc (Cl MT pr sc (d + 1)) (rtE none (mk X) σ2) (2, [(0, .ref 1), (1, .long x1), (3, .int x3)], [], mk X, σ) := by
  intro n
  induction n with
  | zero =>
    intro x1 x3 σ h
    cases h
  | succ n ih =>
    intro x1 x3 σ h
    simp only [f_X7_standFor_2] at h
    refine Ex.blk 1000 rfl ?_
    rcases ite_sp h with ⟨c1, h⟩ | ⟨c1, h⟩
    · refine And.intro (fun _ => ?_) (fun hn => absurd c1 hn)
      show Ex mr_X7_standFor sc (Cl MT pr sc (d + 1)) (rtE none (mk X) σ2) (27, [(0, .ref 1), (1, .long x1), (3, .int x3)], [], mk X, σ)
      refine Ex.blk 1000 rfl ?_
      cases h
      exact And.intro trivial ⟨rfl, rfl, rfl⟩
    · refine And.intro (fun hp => absurd hp c1) (fun _ => ?_)
      show Ex mr_X7_standFor sc (Cl MT pr sc (d + 1)) (rtE none (mk X) σ2) (10, [(0, .ref 1), (1, .long x1), (3, .int x3)], [], mk X, σ)
      refine Ex.blk 5 rfl ?_
      show Ex mr_X7_standFor sc (Cl MT pr sc (d + 1)) (rtE none (mk X) σ2) (17, [(0, .ref 1), (1, .long x1), (3, .int x3)], [.int x3, .long x1, .int x3, .ref 2], mk X, σ)
      refine Ex.blk 1 rfl ?_
      obtain ⟨p1, hp1, h⟩ := bind_sp h
      refine Exists.intro (some (.int p1.1)) (Exists.intro (mk X) (Exists.intro p1.2 (And.intro (cl_X9_digitOf (d + 0) hp1) ?_)))
      show Ex mr_X7_standFor sc (Cl MT pr sc (d + 1)) (rtE none (mk X) σ2) (20, [(0, .ref 1), (1, .long x1), (3, .int x3)], [.int p1.1, .int x3, .ref 2], mk X, p1.2)
      refine Ex.blk 1 rfl ?_
      obtain ⟨g2, h⟩ := gd_some h
      refine And.intro (inb_ok g2) ?_
      show Ex mr_X7_standFor sc (Cl MT pr sc (d + 1)) (rtE none (mk X) σ2) (21, [(0, .ref 1), (1, .long x1), (3, .int x3)], [], mk X, (sI p1.2 2 x3.toNatClampNeg p1.1))
      refine Ex.blk 1000 rfl ?_
      show Ex mr_X7_standFor sc (Cl MT pr sc (d + 1)) (rtE none (mk X) σ2) (2, [(3, .int (x3 + 1)), (0, .ref 1), (1, .long x1)], [], mk X, (sI p1.2 2 x3.toNatClampNeg p1.1))
      refine Ex.pick (lv' := _) [1, 2, 0] rfl ?_
      exact ih _ _ _ h
theorem cl_X7_standFor_1 {pr : Ct} {sc : Nat × (Nat → Int32)} {X : En} (d : Nat) {σ2 : St} {x1 : Int64} {σ : St} (h : f_X7_standFor 1 x1 σ = some σ2) : Cl MT pr sc (d + 1 + 1) 26 [.ref 1, .long x1] (mk X) σ none (mk X) σ2 := by
  refine cl_of mr_X7_standFor rfl rfl ?_
  unfold f_X7_standFor at h
  refine Ex.blk 1000 rfl ?_
  show Ex mr_X7_standFor sc (Cl MT pr sc (d + 1)) (rtE none (mk X) σ2) (2, [(3, .int 0), (0, .ref 1), (1, .long x1)], [], mk X, σ)
  refine Ex.pick (lv' := _) [1, 2, 0] rfl ?_
  exact lk_X7_standFor_1_2 d FU _ _ _ h
theorem lk_X2_takeBack_1_131 {pr : Ct} {sc : Nat × (Nat → Int32)} {X : En} (d : Nat) {r : Int32} {σ2 : St} (x2 : Int32) (σ : St) (h : f_X2_takeBack_131 1 x2 σ = some (r, σ2)) : Ex mr_X2_takeBack sc (Cl MT pr sc (d + 2)) (rtE (some (.int r)) (mk X) σ2) (131, [(0, .ref 9), (1, .ref 1), (2, .int x2)], [], mk X, σ) := by
  unfold f_X2_takeBack_131 at h
  refine Ex.blk 5 rfl ?_
  show Ex mr_X2_takeBack sc (Cl MT pr sc (d + 2)) (rtE (some (.int r)) (mk X) σ2) (139, [(0, .ref 9), (1, .ref 1), (2, .int x2)], [.int 7, .int x2, .ref 10, .ref 1], mk X, σ)
  refine Ex.blk 2 rfl ?_
  obtain ⟨g1, h⟩ := gd_some h
  refine And.intro (inb_ok g1) ?_
  show Ex mr_X2_takeBack sc (Cl MT pr sc (d + 2)) (rtE (some (.int r)) (mk X) σ2) (141, [(0, .ref 9), (1, .ref 1), (2, .int x2)], [.long (gJ σ 10 (x2 + 7).toNatClampNeg), .ref 1], mk X, σ)
  refine Ex.blk 1000 rfl ?_
  cases h
  exact And.intro isb_1 ⟨rfl, rfl, rfl⟩
theorem lk_X2_takeBack_1_104 {pr : Ct} {sc : Nat × (Nat → Int32)} {X : En} (d : Nat) {r : Int32} {σ2 : St} (x2 : Int32) (σ : St) (h : f_X2_takeBack_104 1 x2 σ = some (r, σ2)) : Ex mr_X2_takeBack sc (Cl MT pr sc (d + 2)) (rtE (some (.int r)) (mk X) σ2) (104, [(0, .ref 9), (1, .ref 1), (2, .int x2)], [], mk X, σ) := by
  unfold f_X2_takeBack_104 at h
  refine Ex.blk 5 rfl ?_
  show Ex mr_X2_takeBack sc (Cl MT pr sc (d + 2)) (rtE (some (.int r)) (mk X) σ2) (111, [(0, .ref 9), (1, .ref 1), (2, .int x2)], [.int 5, .int x2, .ref 10, .ref 1], mk X, σ)
  refine Ex.blk 2 rfl ?_
  obtain ⟨g1, h⟩ := gd_some h
  refine And.intro (inb_ok g1) ?_
  show Ex mr_X2_takeBack sc (Cl MT pr sc (d + 2)) (rtE (some (.int r)) (mk X) σ2) (113, [(0, .ref 9), (1, .ref 1), (2, .int x2)], [.long (gJ σ 10 (x2 + 5).toNatClampNeg), .ref 1], mk X, σ)
  refine Ex.blk 5 rfl ?_
  show Ex mr_X2_takeBack sc (Cl MT pr sc (d + 2)) (rtE (some (.int r)) (mk X) σ2) (122, [(0, .ref 9), (1, .ref 1), (2, .int x2)], [.ref 10, .ref 1], mk X, (sI σ 1 10 ((gJ σ 10 (x2 + 5).toNatClampNeg).toInt32)))
  refine Ex.blk 4 rfl ?_
  obtain ⟨g2, h⟩ := gd_some h
  refine And.intro (inb_ok g2) ?_
  show Ex mr_X2_takeBack sc (Cl MT pr sc (d + 2)) (rtE (some (.int r)) (mk X) σ2) (127, [(0, .ref 9), (1, .ref 1), (2, .int x2)], [.long (gJ (sI σ 1 10 ((gJ σ 10 (x2 + 5).toNatClampNeg).toInt32)) 10 (x2 + 6).toNatClampNeg), .ref 1], mk X, (sI σ 1 10 ((gJ σ 10 (x2 + 5).toNatClampNeg).toInt32)))
  refine Ex.blk 2 rfl ?_
  show Ex mr_X2_takeBack sc (Cl MT pr sc (d + 2)) (rtE (some (.int r)) (mk X) σ2) (131, [(0, .ref 9), (1, .ref 1), (2, .int x2)], [], mk X, (sI (sI σ 1 10 ((gJ σ 10 (x2 + 5).toNatClampNeg).toInt32)) 1 11 ((gJ (sI σ 1 10 ((gJ σ 10 (x2 + 5).toNatClampNeg).toInt32)) 10 (x2 + 6).toNatClampNeg).toInt32)))
  exact lk_X2_takeBack_1_131 d _ _ h
theorem lk_X2_takeBack_1_78 {pr : Ct} {sc : Nat × (Nat → Int32)} {X : En} (d : Nat) {r : Int32} {σ2 : St} (x2 : Int32) (σ : St) (h : f_X2_takeBack_78 1 x2 σ = some (r, σ2)) : Ex mr_X2_takeBack sc (Cl MT pr sc (d + 2)) (rtE (some (.int r)) (mk X) σ2) (78, [(0, .ref 9), (1, .ref 1), (2, .int x2)], [], mk X, σ) := by
  unfold f_X2_takeBack_78 at h
  refine Ex.blk 5 rfl ?_
  show Ex mr_X2_takeBack sc (Cl MT pr sc (d + 2)) (rtE (some (.int r)) (mk X) σ2) (85, [(0, .ref 9), (1, .ref 1), (2, .int x2)], [.int 3, .int x2, .ref 10, .ref 1], mk X, σ)
  refine Ex.blk 2 rfl ?_
  obtain ⟨g1, h⟩ := gd_some h
  refine And.intro (inb_ok g1) ?_
  show Ex mr_X2_takeBack sc (Cl MT pr sc (d + 2)) (rtE (some (.int r)) (mk X) σ2) (87, [(0, .ref 9), (1, .ref 1), (2, .int x2)], [.long (gJ σ 10 (x2 + 3).toNatClampNeg), .ref 1], mk X, σ)
  refine Ex.blk 5 rfl ?_
  show Ex mr_X2_takeBack sc (Cl MT pr sc (d + 2)) (rtE (some (.int r)) (mk X) σ2) (96, [(0, .ref 9), (1, .ref 1), (2, .int x2)], [.ref 10, .ref 1], mk X, (sI σ 1 8 ((gJ σ 10 (x2 + 3).toNatClampNeg).toInt32)))
  refine Ex.blk 4 rfl ?_
  obtain ⟨g2, h⟩ := gd_some h
  refine And.intro (inb_ok g2) ?_
  show Ex mr_X2_takeBack sc (Cl MT pr sc (d + 2)) (rtE (some (.int r)) (mk X) σ2) (100, [(0, .ref 9), (1, .ref 1), (2, .int x2)], [.long (gJ (sI σ 1 8 ((gJ σ 10 (x2 + 3).toNatClampNeg).toInt32)) 10 (x2 + 4).toNatClampNeg), .ref 1], mk X, (sI σ 1 8 ((gJ σ 10 (x2 + 3).toNatClampNeg).toInt32)))
  refine Ex.blk 2 rfl ?_
  show Ex mr_X2_takeBack sc (Cl MT pr sc (d + 2)) (rtE (some (.int r)) (mk X) σ2) (104, [(0, .ref 9), (1, .ref 1), (2, .int x2)], [], mk X, (sI (sI σ 1 8 ((gJ σ 10 (x2 + 3).toNatClampNeg).toInt32)) 1 9 ((gJ (sI σ 1 8 ((gJ σ 10 (x2 + 3).toNatClampNeg).toInt32)) 10 (x2 + 4).toNatClampNeg).toInt32)))
  exact lk_X2_takeBack_1_104 d _ _ h
theorem lk_X2_takeBack_1_43 {pr : Ct} {sc : Nat × (Nat → Int32)} {X : En} (d : Nat) {r : Int32} {σ2 : St} (x2 : Int32) (σ : St) (h : f_X2_takeBack_43 1 x2 σ = some (r, σ2)) : Ex mr_X2_takeBack sc (Cl MT pr sc (d + 2)) (rtE (some (.int r)) (mk X) σ2) (43, [(0, .ref 9), (1, .ref 1), (2, .int x2)], [], mk X, σ) := by
  unfold f_X2_takeBack_43 at h
  refine Ex.blk 5 rfl ?_
  obtain ⟨g1, h⟩ := gd_some h
  refine And.intro (inb_ok g1) ?_
  show Ex mr_X2_takeBack sc (Cl MT pr sc (d + 2)) (rtE (some (.int r)) (mk X) σ2) (50, [(0, .ref 9), (1, .ref 1), (2, .int x2)], [.long (gJ σ 10 x2.toNatClampNeg), .ref 1], mk X, σ)
  refine Ex.blk 1 rfl ?_
  obtain ⟨p1, hp1, h⟩ := bind_sp h
  refine Exists.intro none (Exists.intro (mk X) (Exists.intro p1 (And.intro (cl_X7_standFor_1 (d + 0) hp1) ?_)))
  show Ex mr_X2_takeBack sc (Cl MT pr sc (d + 2)) (rtE (some (.int r)) (mk X) σ2) (53, [(0, .ref 9), (1, .ref 1), (2, .int x2)], [], mk X, p1)
  refine Ex.blk 5 rfl ?_
  show Ex mr_X2_takeBack sc (Cl MT pr sc (d + 2)) (rtE (some (.int r)) (mk X) σ2) (60, [(0, .ref 9), (1, .ref 1), (2, .int x2)], [.int 1, .int x2, .ref 10, .ref 1], mk X, p1)
  refine Ex.blk 2 rfl ?_
  obtain ⟨g2, h⟩ := gd_some h
  refine And.intro (inb_ok g2) ?_
  show Ex mr_X2_takeBack sc (Cl MT pr sc (d + 2)) (rtE (some (.int r)) (mk X) σ2) (62, [(0, .ref 9), (1, .ref 1), (2, .int x2)], [.long (gJ p1 10 (x2 + 1).toNatClampNeg), .ref 1], mk X, p1)
  refine Ex.blk 5 rfl ?_
  show Ex mr_X2_takeBack sc (Cl MT pr sc (d + 2)) (rtE (some (.int r)) (mk X) σ2) (71, [(0, .ref 9), (1, .ref 1), (2, .int x2)], [.int x2, .ref 10, .ref 1], mk X, (sJ p1 1 6 (gJ p1 10 (x2 + 1).toNatClampNeg)))
  refine Ex.blk 3 rfl ?_
  obtain ⟨g3, h⟩ := gd_some h
  refine And.intro (inb_ok g3) ?_
  show Ex mr_X2_takeBack sc (Cl MT pr sc (d + 2)) (rtE (some (.int r)) (mk X) σ2) (74, [(0, .ref 9), (1, .ref 1), (2, .int x2)], [.long (gJ (sJ p1 1 6 (gJ p1 10 (x2 + 1).toNatClampNeg)) 10 (x2 + 2).toNatClampNeg), .ref 1], mk X, (sJ p1 1 6 (gJ p1 10 (x2 + 1).toNatClampNeg)))
  refine Ex.blk 2 rfl ?_
  show Ex mr_X2_takeBack sc (Cl MT pr sc (d + 2)) (rtE (some (.int r)) (mk X) σ2) (78, [(0, .ref 9), (1, .ref 1), (2, .int x2)], [], mk X, (sI (sJ p1 1 6 (gJ p1 10 (x2 + 1).toNatClampNeg)) 1 7 ((gJ (sJ p1 1 6 (gJ p1 10 (x2 + 1).toNatClampNeg)) 10 (x2 + 2).toNatClampNeg).toInt32)))
  exact lk_X2_takeBack_1_78 d _ _ h
theorem lk_X2_takeBack_1_35 {pr : Ct} {sc : Nat × (Nat → Int32)} {X : En} (d : Nat) {r : Int32} {σ2 : St} (σ : St) (h : f_X2_takeBack_35 1 σ = some (r, σ2)) : Ex mr_X2_takeBack sc (Cl MT pr sc (d + 2)) (rtE (some (.int r)) (mk X) σ2) (35, [(0, .ref 9), (1, .ref 1)], [], mk X, σ) := by
  unfold f_X2_takeBack_35 at h
  refine Ex.blk 5 rfl ?_
  show Ex mr_X2_takeBack sc (Cl MT pr sc (d + 2)) (rtE (some (.int r)) (mk X) σ2) (43, [(2, .int ((gI σ 9 1) * 8)), (0, .ref 9), (1, .ref 1)], [], mk X, σ)
  refine Ex.pick (lv' := _) [1, 2, 0] rfl ?_
  exact lk_X2_takeBack_1_43 d _ _ h
theorem cl_X2_takeBack_1 {pr : Ct} {sc : Nat × (Nat → Int32)} {X : En} (d : Nat) {r : Int32} {σ2 : St} {σ : St} (h : f_X2_takeBack 1 σ = some (r, σ2)) : Cl MT pr sc (d + 2 + 1) 27 [.ref 9, .ref 1] (mk X) σ (some (.int r)) (mk X) σ2 := by
  refine cl_of mr_X2_takeBack rfl rfl ?_
  unfold f_X2_takeBack at h
  refine Ex.blk 1000 rfl ?_
  rcases ite_sp h with ⟨c1, h⟩ | ⟨c1, h⟩
  · refine And.intro (fun hp => absurd c1 hp) (fun _ => ?_)
    show Ex mr_X2_takeBack sc (Cl MT pr sc (d + 2)) (rtE (some (.int r)) (mk X) σ2) (7, [(0, .ref 9), (1, .ref 1)], [], mk X, σ)
    refine Ex.blk 1000 rfl ?_
    cases h
    exact And.intro isb_0 ⟨rfl, rfl, rfl⟩
  · refine And.intro (fun _ => ?_) (fun hn => absurd c1 hn)
    show Ex mr_X2_takeBack sc (Cl MT pr sc (d + 2)) (rtE (some (.int r)) (mk X) σ2) (9, [(0, .ref 9), (1, .ref 1)], [], mk X, σ)
    refine Ex.blk 5 rfl ?_
    show Ex mr_X2_takeBack sc (Cl MT pr sc (d + 2)) (rtE (some (.int r)) (mk X) σ2) (16, [(0, .ref 9), (1, .ref 1)], [.int ((gI σ 9 2) - 1), .ref 9], mk X, σ)
    refine Ex.blk 5 rfl ?_
    show Ex mr_X2_takeBack sc (Cl MT pr sc (d + 2)) (rtE (some (.int r)) (mk X) σ2) (26, [(0, .ref 9), (1, .ref 1)], [.int 40, .int (gI (sI σ 9 2 ((gI σ 9 2) - 1)) 9 1), .ref 9], mk X, (sI σ 9 2 ((gI σ 9 2) - 1)))
    refine Ex.blk 5 rfl ?_
    refine And.intro (nzI_ok (b := 40) (by decide)) ?_
    show Ex mr_X2_takeBack sc (Cl MT pr sc (d + 2)) (rtE (some (.int r)) (mk X) σ2) (32, [(0, .ref 9), (1, .ref 1)], [.int (rmI (((gI (sI σ 9 2 ((gI σ 9 2) - 1)) 9 1) + 40) - 1) 40), .ref 9], mk X, (sI σ 9 2 ((gI σ 9 2) - 1)))
    refine Ex.blk 1 rfl ?_
    show Ex mr_X2_takeBack sc (Cl MT pr sc (d + 2)) (rtE (some (.int r)) (mk X) σ2) (35, [(0, .ref 9), (1, .ref 1)], [], mk X, (sI (sI σ 9 2 ((gI σ 9 2) - 1)) 9 1 (rmI (((gI (sI σ 9 2 ((gI σ 9 2) - 1)) 9 1) + 40) - 1) 40)))
    exact lk_X2_takeBack_1_35 d _ h
theorem cl_X9_undo {pr : Ct} {sc : Nat × (Nat → Int32)} {X : En} (d : Nat) {r : Int32} {σ2 : St} {σ : St} (h : f_X9_undo σ = some (r, σ2)) : Cl MT pr sc (d + 3 + 1) 99 [.ref 0] (mk X) σ (some (.int r)) (mk X) σ2 := by
  refine cl_of mr_X9_undo rfl rfl ?_
  unfold f_X9_undo at h
  refine Ex.blk 5 rfl ?_
  obtain ⟨p1, hp1, h⟩ := bind_sp h
  refine Exists.intro (some (.int p1.1)) (Exists.intro (mk X) (Exists.intro p1.2 (And.intro (cl_X2_takeBack_1 (d + 0) hp1) ?_)))
  show Ex mr_X9_undo sc (Cl MT pr sc (d + 3)) (rtE (some (.int r)) (mk X) σ2) (11, [(0, .ref 0)], [.int p1.1], mk X, p1.2)
  refine Ex.blk 1000 rfl ?_
  rcases ite_sp h with ⟨c1, h⟩ | ⟨c1, h⟩
  · refine And.intro (fun hp => absurd c1 hp) (fun _ => ?_)
    show Ex mr_X9_undo sc (Cl MT pr sc (d + 3)) (rtE (some (.int r)) (mk X) σ2) (14, [(0, .ref 0)], [], mk X, p1.2)
    refine Ex.blk 1000 rfl ?_
    cases h
    exact And.intro trivial ⟨rfl, rfl, rfl⟩
  · refine And.intro (fun _ => ?_) (fun hn => absurd c1 hn)
    show Ex mr_X9_undo sc (Cl MT pr sc (d + 3)) (rtE (some (.int r)) (mk X) σ2) (16, [(0, .ref 0)], [], mk X, p1.2)
    refine Ex.blk 5 rfl ?_
    show Ex mr_X9_undo sc (Cl MT pr sc (d + 3)) (rtE (some (.int r)) (mk X) σ2) (23, [(0, .ref 0)], [.int ((gI p1.2 0 13) - 1), .ref 0], mk X, p1.2)
    refine Ex.blk 1000 rfl ?_
    cases h
    exact And.intro trivial ⟨rfl, rfl, rfl⟩
theorem cl_X7_isFoggy_1 {pr : Ct} {sc : Nat × (Nat → Int32)} {X : En} (d : Nat) {r : Int32} {σ2 : St} {x1 : Int32} {σ : St} (h : f_X7_isFoggy 1 x1 σ = some (r, σ2)) : Cl MT pr sc (d + 1 + 1) 70 [.ref 1, .int x1] (mk X) σ (some (.int r)) (mk X) σ2 := by
  refine cl_of mr_X7_isFoggy rfl rfl ?_
  unfold f_X7_isFoggy at h
  refine Ex.blk 4 rfl ?_
  obtain ⟨p1, hp1, h⟩ := bind_sp h
  refine Exists.intro (some (.int p1.1)) (Exists.intro (mk X) (Exists.intro p1.2 (And.intro (cl_X9_hasBit (d + 0) hp1) ?_)))
  show Ex mr_X7_isFoggy sc (Cl MT pr sc (d + 1)) (rtE (some (.int r)) (mk X) σ2) (8, [(0, .ref 1), (1, .int x1)], [.int p1.1], mk X, p1.2)
  refine Ex.blk 1000 rfl ?_
  obtain ⟨g1, h⟩ := gd_some h
  cases h
  exact And.intro (isbb_ok g1) ⟨rfl, rfl, rfl⟩
theorem lk_X7_seen_1_31 {pr : Ct} {sc : Nat × (Nat → Int32)} {X : En} (d : Nat) {r : Int32} {σ2 : St} (y0 : Int32) (y1 : Int32) (σ : St) (h : f_X7_seen_31 1 y0 y1 σ = some (r, σ2)) : Ex mr_X7_seen sc (Cl MT pr sc (d + 1)) (rtE (some (.int r)) (mk X) σ2) (31, [], [.int y0, .int y1], mk X, σ) := by
  unfold f_X7_seen_31 at h
  refine Ex.blk 1000 rfl ?_
  cases h
  exact And.intro trivial ⟨rfl, rfl, rfl⟩
theorem lk_X7_seen_1_30 {pr : Ct} {sc : Nat × (Nat → Int32)} {X : En} (d : Nat) {r : Int32} {σ2 : St} (y0 : Int32) (σ : St) (h : f_X7_seen_30 1 y0 σ = some (r, σ2)) : Ex mr_X7_seen sc (Cl MT pr sc (d + 1)) (rtE (some (.int r)) (mk X) σ2) (30, [], [.int y0], mk X, σ) := by
  unfold f_X7_seen_30 at h
  refine Ex.blk 1000 rfl ?_
  show Ex mr_X7_seen sc (Cl MT pr sc (d + 1)) (rtE (some (.int r)) (mk X) σ2) (31, [], [.int 0, .int y0], mk X, σ)
  exact lk_X7_seen_1_31 d _ _ _ h
theorem cl_X7_seen_1 {pr : Ct} {sc : Nat × (Nat → Int32)} {X : En} (d : Nat) {r : Int32} {σ2 : St} {x1 : Int32} {σ : St} (h : f_X7_seen 1 x1 σ = some (r, σ2)) : Cl MT pr sc (d + 1 + 1) 68 [.ref 1, .int x1] (mk X) σ (some (.int r)) (mk X) σ2 := by
  refine cl_of mr_X7_seen rfl rfl ?_
  unfold f_X7_seen at h
  refine Ex.blk 4 rfl ?_
  obtain ⟨g1, h⟩ := gd_some h
  refine And.intro (inb_ok g1) ?_
  show Ex mr_X7_seen sc (Cl MT pr sc (d + 1)) (rtE (some (.int r)) (mk X) σ2) (6, [(0, .ref 1), (1, .int x1)], [.int (gI σ 2 x1.toNatClampNeg)], mk X, σ)
  refine Ex.blk 4 rfl ?_
  obtain ⟨p1, hp1, h⟩ := bind_sp h
  refine Exists.intro (some (.int p1.1)) (Exists.intro (mk X) (Exists.intro p1.2 (And.intro (cl_X9_hasBit (d + 0) hp1) ?_)))
  show Ex mr_X7_seen sc (Cl MT pr sc (d + 1)) (rtE (some (.int r)) (mk X) σ2) (14, [(0, .ref 1), (1, .int x1)], [.int p1.1, .int (gI σ 2 x1.toNatClampNeg)], mk X, p1.2)
  refine Ex.blk 1000 rfl ?_
  rcases ite_sp h with ⟨c2, h⟩ | ⟨c2, h⟩
  · refine And.intro (fun _ => ?_) (fun hn => absurd c2 hn)
    show Ex mr_X7_seen sc (Cl MT pr sc (d + 1)) (rtE (some (.int r)) (mk X) σ2) (30, [(0, .ref 1), (1, .int x1)], [.int (gI σ 2 x1.toNatClampNeg)], mk X, p1.2)
    refine Ex.pick (lv' := _) [] rfl ?_
    exact lk_X7_seen_1_30 d _ _ h
  · refine And.intro (fun hp => absurd hp c2) (fun _ => ?_)
    show Ex mr_X7_seen sc (Cl MT pr sc (d + 1)) (rtE (some (.int r)) (mk X) σ2) (17, [(0, .ref 1), (1, .int x1)], [.int (gI σ 2 x1.toNatClampNeg)], mk X, p1.2)
    refine Ex.blk 4 rfl ?_
    obtain ⟨g3, h⟩ := gd_some h
    refine And.intro (inb_ok g3) ?_
    show Ex mr_X7_seen sc (Cl MT pr sc (d + 1)) (rtE (some (.int r)) (mk X) σ2) (23, [(0, .ref 1), (1, .int x1)], [.int (gI p1.2 2 x1.toNatClampNeg), .int (gI σ 2 x1.toNatClampNeg)], mk X, p1.2)
    refine Ex.blk 1000 rfl ?_
    rcases ite_sp h with ⟨c4, h⟩ | ⟨c4, h⟩
    · refine And.intro (fun _ => ?_) (fun hn => absurd c4 hn)
      show Ex mr_X7_seen sc (Cl MT pr sc (d + 1)) (rtE (some (.int r)) (mk X) σ2) (30, [(0, .ref 1), (1, .int x1)], [.int (gI σ 2 x1.toNatClampNeg)], mk X, p1.2)
      refine Ex.pick (lv' := _) [] rfl ?_
      exact lk_X7_seen_1_30 d _ _ h
    · refine And.intro (fun hp => absurd hp c4) (fun _ => ?_)
      show Ex mr_X7_seen sc (Cl MT pr sc (d + 1)) (rtE (some (.int r)) (mk X) σ2) (26, [(0, .ref 1), (1, .int x1)], [.int (gI σ 2 x1.toNatClampNeg)], mk X, p1.2)
      refine Ex.blk 1000 rfl ?_
      show Ex mr_X7_seen sc (Cl MT pr sc (d + 1)) (rtE (some (.int r)) (mk X) σ2) (31, [(0, .ref 1), (1, .int x1)], [.int 1, .int (gI σ 2 x1.toNatClampNeg)], mk X, p1.2)
      refine Ex.pick (lv' := _) [] rfl ?_
      exact lk_X7_seen_1_31 d _ _ _ h
theorem lk_X9_rope_80 {pr : Ct} {sc : Nat × (Nat → Int32)} {X : En} (d : Nat) {r : Int32} {σ2 : St} (y0 : Int32) (σ : St) (h : f_X9_rope_80 y0 σ = some (r, σ2)) : Ex mr_X9_rope sc (Cl MT pr sc (d + 2)) (rtE (some (.int r)) (mk X) σ2) (80, [], [.int y0], mk X, σ) := by
  unfold f_X9_rope_80 at h
  refine Ex.blk 1000 rfl ?_
  cases h
  exact And.intro trivial ⟨rfl, rfl, rfl⟩
theorem cl_X9_rope {pr : Ct} {sc : Nat × (Nat → Int32)} {X : En} (d : Nat) {r : Int32} {σ2 : St} {x1 : Int32} {x2 : Int32} {σ : St} (h : f_X9_rope x1 x2 σ = some (r, σ2)) : Cl MT pr sc (d + 2 + 1) 100 [.ref 0, .int x1, .int x2] (mk X) σ (some (.int r)) (mk X) σ2 := by
  refine cl_of mr_X9_rope rfl rfl ?_
  unfold f_X9_rope at h
  refine Ex.blk 3 rfl ?_
  obtain ⟨p1, hp1, h⟩ := bind_sp h
  refine Exists.intro (some (.int p1.1)) (Exists.intro (mk X) (Exists.intro p1.2 (And.intro (cl_X9_isRope (d + 1) hp1) ?_)))
  show Ex mr_X9_rope sc (Cl MT pr sc (d + 2)) (rtE (some (.int r)) (mk X) σ2) (5, [(0, .ref 0), (1, .int x1), (2, .int x2)], [.int p1.1], mk X, p1.2)
  refine Ex.blk 1000 rfl ?_
  rcases ite_sp h with ⟨c1, h⟩ | ⟨c1, h⟩
  · refine And.intro (fun hp => absurd c1 hp) (fun _ => ?_)
    show Ex mr_X9_rope sc (Cl MT pr sc (d + 2)) (rtE (some (.int r)) (mk X) σ2) (8, [(0, .ref 0), (1, .int x1), (2, .int x2)], [], mk X, p1.2)
    refine Ex.blk 1000 rfl ?_
    cases h
    exact And.intro trivial ⟨rfl, rfl, rfl⟩
  · refine And.intro (fun _ => ?_) (fun hn => absurd c1 hn)
    show Ex mr_X9_rope sc (Cl MT pr sc (d + 2)) (rtE (some (.int r)) (mk X) σ2) (10, [(0, .ref 0), (1, .int x1), (2, .int x2)], [], mk X, p1.2)
    refine Ex.blk 1000 rfl ?_
    rcases ite_sp h with ⟨c2, h⟩ | ⟨c2, h⟩
    · refine And.intro (fun _ => ?_) (fun hn => absurd (c2.trans (by decide)) hn)
      show Ex mr_X9_rope sc (Cl MT pr sc (d + 2)) (rtE (some (.int r)) (mk X) σ2) (36, [(0, .ref 0), (1, .int x1), (2, .int x2)], [], mk X, p1.2)
      refine Ex.blk 5 rfl ?_
      obtain ⟨g3, h⟩ := gd_some h
      refine And.intro (inb_ok g3) ?_
      show Ex mr_X9_rope sc (Cl MT pr sc (d + 2)) (rtE (some (.int r)) (mk X) σ2) (45, [(0, .ref 0), (1, .int x1), (2, .int x2)], [.int (gI p1.2 2 x1.toNatClampNeg)], mk X, p1.2)
      refine Ex.blk 1000 rfl ?_
      cases h
      exact And.intro trivial ⟨rfl, rfl, rfl⟩
    refine And.intro (fun hp => absurd (hp.trans (by decide)) c2) (fun _ => ?_)
    rcases ite_sp h with ⟨c4, h⟩ | ⟨c4, h⟩
    · refine And.intro (fun _ => ?_) (fun hn => absurd (c4.trans (by decide)) hn)
      show Ex mr_X9_rope sc (Cl MT pr sc (d + 2)) (rtE (some (.int r)) (mk X) σ2) (46, [(0, .ref 0), (1, .int x1), (2, .int x2)], [], mk X, p1.2)
      refine Ex.blk 5 rfl ?_
      obtain ⟨g5, h⟩ := gd_some h
      refine And.intro (inb_ok g5) ?_
      show Ex mr_X9_rope sc (Cl MT pr sc (d + 2)) (rtE (some (.int r)) (mk X) σ2) (55, [(0, .ref 0), (1, .int x1), (2, .int x2)], [.int (gI p1.2 3 x1.toNatClampNeg)], mk X, p1.2)
      refine Ex.blk 1000 rfl ?_
      cases h
      exact And.intro trivial ⟨rfl, rfl, rfl⟩
    refine And.intro (fun hp => absurd (hp.trans (by decide)) c4) (fun _ => ?_)
    rcases ite_sp h with ⟨c6, h⟩ | ⟨c6, h⟩
    · refine And.intro (fun _ => ?_) (fun hn => absurd (c6.trans (by decide)) hn)
      show Ex mr_X9_rope sc (Cl MT pr sc (d + 2)) (rtE (some (.int r)) (mk X) σ2) (56, [(0, .ref 0), (1, .int x1), (2, .int x2)], [], mk X, p1.2)
      refine Ex.blk 4 rfl ?_
      obtain ⟨p2, hp2, h⟩ := bind_sp h
      refine Exists.intro (some (.int p2.1)) (Exists.intro (mk X) (Exists.intro p2.2 (And.intro (cl_X7_isFoggy_1 (d + 0) hp2) ?_)))
      show Ex mr_X9_rope sc (Cl MT pr sc (d + 2)) (rtE (some (.int r)) (mk X) σ2) (64, [(0, .ref 0), (1, .int x1), (2, .int x2)], [.int p2.1], mk X, p2.2)
      refine Ex.blk 1000 rfl ?_
      rcases ite_sp h with ⟨c7, h⟩ | ⟨c7, h⟩
      · refine And.intro (fun _ => ?_) (fun hn => absurd c7 hn)
        show Ex mr_X9_rope sc (Cl MT pr sc (d + 2)) (rtE (some (.int r)) (mk X) σ2) (72, [(0, .ref 0), (1, .int x1), (2, .int x2)], [], mk X, p2.2)
        refine Ex.blk 4 rfl ?_
        obtain ⟨p3, hp3, h⟩ := bind_sp h
        refine Exists.intro (some (.int p3.1)) (Exists.intro (mk X) (Exists.intro p3.2 (And.intro (cl_X7_seen_1 (d + 0) hp3) ?_)))
        show Ex mr_X9_rope sc (Cl MT pr sc (d + 2)) (rtE (some (.int r)) (mk X) σ2) (80, [(0, .ref 0), (1, .int x1), (2, .int x2)], [.int p3.1], mk X, p3.2)
        refine Ex.pick (lv' := _) [] rfl ?_
        exact lk_X9_rope_80 d _ _ h
      · refine And.intro (fun hp => absurd hp c7) (fun _ => ?_)
        show Ex mr_X9_rope sc (Cl MT pr sc (d + 2)) (rtE (some (.int r)) (mk X) σ2) (67, [(0, .ref 0), (1, .int x1), (2, .int x2)], [], mk X, p2.2)
        refine Ex.blk 1000 rfl ?_
        show Ex mr_X9_rope sc (Cl MT pr sc (d + 2)) (rtE (some (.int r)) (mk X) σ2) (80, [(0, .ref 0), (1, .int x1), (2, .int x2)], [.int (-2)], mk X, p2.2)
        refine Ex.pick (lv' := _) [] rfl ?_
        exact lk_X9_rope_80 d _ _ h
    refine And.intro (fun hp => absurd (hp.trans (by decide)) c6) (fun _ => ?_)
    show Ex mr_X9_rope sc (Cl MT pr sc (d + 2)) (rtE (some (.int r)) (mk X) σ2) (81, [(0, .ref 0), (1, .int x1), (2, .int x2)], [], mk X, p1.2)
    refine Ex.blk 1000 rfl ?_
    cases h
    exact And.intro trivial ⟨rfl, rfl, rfl⟩
theorem lk_X7_value_1_28 {pr : Ct} {sc : Nat × (Nat → Int32)} {X : En} (d : Nat) {r : Int64} {σ2 : St} (k4 : Int64 → Int32 → St → Option (Int64 × St)) (hk4 : ∀ (x1 : Int64) (x3 : Int32) (σ : St), k4 x1 x3 σ = some (r, σ2) → Ex mr_X7_value sc (Cl MT pr sc (d + 0)) (rtE (some (.long r)) (mk X) σ2) (4, [(0, .ref 1), (1, .long x1), (3, .int x3)], [], mk X, σ)) (x1 : Int64) (x3 : Int32) (σ : St) (h : f_X7_value_28 1 k4 x1 x3 σ = some (r, σ2)) : Ex mr_X7_value sc (Cl MT pr sc (d + 0)) (rtE (some (.long r)) (mk X) σ2) (28, [(0, .ref 1), (1, .long x1), (3, .int x3)], [], mk X, σ) := by
  unfold f_X7_value_28 at h
  refine Ex.blk 1000 rfl ?_
  show Ex mr_X7_value sc (Cl MT pr sc (d + 0)) (rtE (some (.long r)) (mk X) σ2) (4, [(3, .int (x3 + 1)), (0, .ref 1), (1, .long x1)], [], mk X, σ)
  refine Ex.pick (lv' := _) [1, 2, 0] rfl ?_
  exact hk4 _ _ _ h
theorem lk_X7_value_1_4 {pr : Ct} {sc : Nat × (Nat → Int32)} {X : En} (d : Nat) {r : Int64} {σ2 : St} : ∀ (n : Nat) (x1 : Int64) (x3 : Int32) (σ : St), f_X7_value_4 1 n x1 x3 σ = some (r, σ2) → Ex mr_X7_value sc (Cl MT pr sc (d + 0)) (rtE (some (.long r)) (mk X) σ2) (4, [(0, .ref 1), (1, .long x1), (3, .int x3)], [], mk X, σ) := by
  intro n
  induction n with
  | zero =>
    intro x1 x3 σ h
    cases h
  | succ n ih =>
    intro x1 x3 σ h
    simp only [f_X7_value_4] at h
    refine Ex.blk 1000 rfl ?_
    rcases ite_sp h with ⟨c1, h⟩ | ⟨c1, h⟩
    · refine And.intro (fun _ => ?_) (fun hn => absurd c1 hn)
      show Ex mr_X7_value sc (Cl MT pr sc (d + 0)) (rtE (some (.long r)) (mk X) σ2) (34, [(0, .ref 1), (1, .long x1), (3, .int x3)], [], mk X, σ)
      refine Ex.blk 1000 rfl ?_
      cases h
      exact And.intro trivial ⟨rfl, rfl, rfl⟩
    · refine And.intro (fun hp => absurd hp c1) (fun _ => ?_)
      show Ex mr_X7_value sc (Cl MT pr sc (d + 0)) (rtE (some (.long r)) (mk X) σ2) (12, [(0, .ref 1), (1, .long x1), (3, .int x3)], [], mk X, σ)
      refine Ex.blk 5 rfl ?_
      obtain ⟨g2, h⟩ := gd_some h
      refine And.intro (inb_ok g2) ?_
      show Ex mr_X7_value sc (Cl MT pr sc (d + 0)) (rtE (some (.long r)) (mk X) σ2) (19, [(0, .ref 1), (1, .long x1), (3, .int x3)], [.int (gI σ 2 x3.toNatClampNeg), .long x1], mk X, σ)
      refine Ex.blk 4 rfl ?_
      obtain ⟨g3, h⟩ := gd_some h
      refine And.intro (inb_ok g3) ?_
      show Ex mr_X7_value sc (Cl MT pr sc (d + 0)) (rtE (some (.long r)) (mk X) σ2) (25, [(0, .ref 1), (1, .long x1), (3, .int x3)], [.long (tens x3.toNatClampNeg), .long (gI σ 2 x3.toNatClampNeg).toInt64, .long x1], mk X, σ)
      refine Ex.blk 3 rfl ?_
      show Ex mr_X7_value sc (Cl MT pr sc (d + 0)) (rtE (some (.long r)) (mk X) σ2) (28, [(1, .long (x1 + (((gI σ 2 x3.toNatClampNeg).toInt64) * (tens x3.toNatClampNeg)))), (0, .ref 1), (3, .int x3)], [], mk X, σ)
      refine Ex.pick (lv' := _) [1, 0, 2] rfl ?_
      exact lk_X7_value_1_28 d _ ih _ _ _ h
theorem cl_X7_value_1 {pr : Ct} {sc : Nat × (Nat → Int32)} {X : En} (d : Nat) {r : Int64} {σ2 : St} {σ : St} (h : f_X7_value 1 σ = some (r, σ2)) : Cl MT pr sc (d + 0 + 1) 24 [.ref 1] (mk X) σ (some (.long r)) (mk X) σ2 := by
  refine cl_of mr_X7_value rfl rfl ?_
  unfold f_X7_value at h
  refine Ex.blk 1000 rfl ?_
  show Ex mr_X7_value sc (Cl MT pr sc (d + 0)) (rtE (some (.long r)) (mk X) σ2) (4, [(3, .int 0), (1, .long 0), (0, .ref 1)], [], mk X, σ)
  refine Ex.pick (lv' := _) [2, 1, 0] rfl ?_
  exact lk_X7_value_1_4 d FU _ _ _ h
theorem cl_X9_number {pr : Ct} {sc : Nat × (Nat → Int32)} {X : En} (d : Nat) {r : Int64} {σ2 : St} {σ : St} (h : f_X9_number σ = some (r, σ2)) : Cl MT pr sc (d + 1 + 1) 101 [.ref 0] (mk X) σ (some (.long r)) (mk X) σ2 := by
  refine cl_of mr_X9_number rfl rfl ?_
  unfold f_X9_number at h
  refine Ex.blk 3 rfl ?_
  obtain ⟨p1, hp1, h⟩ := bind_sp h
  refine Exists.intro (some (.long p1.1)) (Exists.intro (mk X) (Exists.intro p1.2 (And.intro (cl_X7_value_1 (d + 0) hp1) ?_)))
  show Ex mr_X9_number sc (Cl MT pr sc (d + 1)) (rtE (some (.long r)) (mk X) σ2) (7, [(0, .ref 0)], [.long p1.1], mk X, p1.2)
  refine Ex.blk 1000 rfl ?_
  cases h
  exact And.intro trivial ⟨rfl, rfl, rfl⟩
theorem cl_X9_told {pr : Ct} {sc : Nat × (Nat → Int32)} {X : En} (d : Nat) {r : Int32} {σ2 : St} {x1 : Int32} {σ : St} (h : f_X9_told x1 σ = some (r, σ2)) : Cl MT pr sc (d + 0 + 1) 102 [.ref 0, .int x1] (mk X) σ (some (.int r)) (mk X) σ2 := by
  refine cl_of mr_X9_told rfl rfl ?_
  unfold f_X9_told at h
  refine Ex.blk 1000 rfl ?_
  rcases ite_sp h with ⟨c1, h⟩ | ⟨c1, h⟩
  · refine And.intro (fun _ => ?_) (fun hn => absurd (c1.trans (by decide)) hn)
    show Ex mr_X9_told sc (Cl MT pr sc (d + 0)) (rtE (some (.int r)) (mk X) σ2) (44, [(0, .ref 0), (1, .int x1)], [], mk X, σ)
    refine Ex.blk 1000 rfl ?_
    cases h
    exact And.intro trivial ⟨rfl, rfl, rfl⟩
  refine And.intro (fun hp => absurd (hp.trans (by decide)) c1) (fun _ => ?_)
  rcases ite_sp h with ⟨c2, h⟩ | ⟨c2, h⟩
  · refine And.intro (fun _ => ?_) (fun hn => absurd (c2.trans (by decide)) hn)
    show Ex mr_X9_told sc (Cl MT pr sc (d + 0)) (rtE (some (.int r)) (mk X) σ2) (52, [(0, .ref 0), (1, .int x1)], [], mk X, σ)
    refine Ex.blk 1000 rfl ?_
    cases h
    exact And.intro trivial ⟨rfl, rfl, rfl⟩
  refine And.intro (fun hp => absurd (hp.trans (by decide)) c2) (fun _ => ?_)
  rcases ite_sp h with ⟨c3, h⟩ | ⟨c3, h⟩
  · refine And.intro (fun _ => ?_) (fun hn => absurd (c3.trans (by decide)) hn)
    show Ex mr_X9_told sc (Cl MT pr sc (d + 0)) (rtE (some (.int r)) (mk X) σ2) (60, [(0, .ref 0), (1, .int x1)], [], mk X, σ)
    refine Ex.blk 1000 rfl ?_
    cases h
    exact And.intro trivial ⟨rfl, rfl, rfl⟩
  refine And.intro (fun hp => absurd (hp.trans (by decide)) c3) (fun _ => ?_)
  rcases ite_sp h with ⟨c4, h⟩ | ⟨c4, h⟩
  · refine And.intro (fun _ => ?_) (fun hn => absurd (c4.trans (by decide)) hn)
    show Ex mr_X9_told sc (Cl MT pr sc (d + 0)) (rtE (some (.int r)) (mk X) σ2) (68, [(0, .ref 0), (1, .int x1)], [], mk X, σ)
    refine Ex.blk 1000 rfl ?_
    cases h
    exact And.intro trivial ⟨rfl, rfl, rfl⟩
  refine And.intro (fun hp => absurd (hp.trans (by decide)) c4) (fun _ => ?_)
  rcases ite_sp h with ⟨c5, h⟩ | ⟨c5, h⟩
  · refine And.intro (fun _ => ?_) (fun hn => absurd (c5.trans (by decide)) hn)
    show Ex mr_X9_told sc (Cl MT pr sc (d + 0)) (rtE (some (.int r)) (mk X) σ2) (76, [(0, .ref 0), (1, .int x1)], [], mk X, σ)
    refine Ex.blk 1000 rfl ?_
    cases h
    exact And.intro trivial ⟨rfl, rfl, rfl⟩
  refine And.intro (fun hp => absurd (hp.trans (by decide)) c5) (fun _ => ?_)
  rcases ite_sp h with ⟨c6, h⟩ | ⟨c6, h⟩
  · refine And.intro (fun _ => ?_) (fun hn => absurd (c6.trans (by decide)) hn)
    show Ex mr_X9_told sc (Cl MT pr sc (d + 0)) (rtE (some (.int r)) (mk X) σ2) (84, [(0, .ref 0), (1, .int x1)], [], mk X, σ)
    refine Ex.blk 1000 rfl ?_
    cases h
    exact And.intro trivial ⟨rfl, rfl, rfl⟩
  refine And.intro (fun hp => absurd (hp.trans (by decide)) c6) (fun _ => ?_)
  rcases ite_sp h with ⟨c7, h⟩ | ⟨c7, h⟩
  · refine And.intro (fun _ => ?_) (fun hn => absurd (c7.trans (by decide)) hn)
    show Ex mr_X9_told sc (Cl MT pr sc (d + 0)) (rtE (some (.int r)) (mk X) σ2) (92, [(0, .ref 0), (1, .int x1)], [], mk X, σ)
    refine Ex.blk 1000 rfl ?_
    cases h
    exact And.intro trivial ⟨rfl, rfl, rfl⟩
  refine And.intro (fun hp => absurd (hp.trans (by decide)) c7) (fun _ => ?_)
  show Ex mr_X9_told sc (Cl MT pr sc (d + 0)) (rtE (some (.int r)) (mk X) σ2) (97, [(0, .ref 0), (1, .int x1)], [], mk X, σ)
  refine Ex.blk 1000 rfl ?_
  cases h
  exact And.intro trivial ⟨rfl, rfl, rfl⟩
theorem cl_X7_topRope_1 {pr : Ct} {sc : Nat × (Nat → Int32)} {X : En} (d : Nat) {r : Int32} {σ2 : St} {x1 : Int32} {σ : St} (h : f_X7_topRope 1 x1 σ = some (r, σ2)) : Cl MT pr sc (d + 1 + 1) 2 [.ref 1, .int x1] (mk X) σ (some (.int r)) (mk X) σ2 := by
  refine cl_of mr_X7_topRope rfl rfl ?_
  unfold f_X7_topRope at h
  refine Ex.blk 5 rfl ?_
  show Ex mr_X7_topRope sc (Cl MT pr sc (d + 1)) (rtE (some (.int r)) (mk X) σ2) (9, [(0, .ref 1), (1, .int x1)], [.int (gI σ 1 0), .ref TN, .long x1.toInt64], mk X, σ)
  refine Ex.blk 1 rfl ?_
  obtain ⟨g1, h⟩ := gd_some h
  refine And.intro (inb_ok g1) ?_
  show Ex mr_X7_topRope sc (Cl MT pr sc (d + 1)) (rtE (some (.int r)) (mk X) σ2) (10, [(0, .ref 1), (1, .int x1)], [.long (tens (gI σ 1 0).toNatClampNeg), .long x1.toInt64], mk X, σ)
  refine Ex.blk 1 rfl ?_
  obtain ⟨g2, h⟩ := gd_some h
  refine And.intro (nzJ_ok g2) ?_
  show Ex mr_X7_topRope sc (Cl MT pr sc (d + 1)) (rtE (some (.int r)) (mk X) σ2) (11, [(0, .ref 1), (1, .int x1)], [.long (rmJ x1.toInt64 (tens (gI σ 1 0).toNatClampNeg))], mk X, σ)
  refine Ex.blk 1 rfl ?_
  obtain ⟨p1, hp1, h⟩ := bind_sp h
  refine Exists.intro (some (.int p1.1)) (Exists.intro (mk X) (Exists.intro p1.2 (And.intro (cl_X9_topPlace (d + 0) hp1) ?_)))
  show Ex mr_X7_topRope sc (Cl MT pr sc (d + 1)) (rtE (some (.int r)) (mk X) σ2) (14, [(0, .ref 1), (1, .int x1)], [.int p1.1], mk X, p1.2)
  refine Ex.blk 1000 rfl ?_
  cases h
  exact And.intro trivial ⟨rfl, rfl, rfl⟩
theorem lk_X6_plan_1_75 {pr : Ct} {sc : Nat × (Nat → Int32)} {X : En} (d : Nat) {σ2 : St} (k34 : Int32 → Int32 → Int32 → Int32 → St → Option (St)) (hk34 : ∀ (x2 : Int32) (x6 : Int32) (x7 : Int32) (x8 : Int32) (σ : St), k34 x2 x6 x7 x8 σ = some σ2 → Ex mr_X6_plan sc (Cl MT pr sc (d + 3)) (rtE none (mk X) σ2) (34, [(0, .ref 21), (1, .ref 1), (2, .int x2), (6, .int x6), (7, .int x7), (8, .int x8)], [], mk X, σ)) (x2 : Int32) (x6 : Int32) (x7 : Int32) (x8 : Int32) (y0 : Int32) (y1 : Int32) (σ : St) (h : f_X6_plan_75 1 k34 x2 x6 x7 x8 y0 y1 σ = some σ2) : Ex mr_X6_plan sc (Cl MT pr sc (d + 3)) (rtE none (mk X) σ2) (75, [(0, .ref 21), (1, .ref 1), (2, .int x2), (6, .int x6), (7, .int x7), (8, .int x8)], [.int y0, .int y1, .ref 21], mk X, σ) := by
  unfold f_X6_plan_75 at h
  refine Ex.blk 5 rfl ?_
  obtain ⟨g1, h⟩ := gd_some h
  refine And.intro (inb_ok g1) ?_
  show Ex mr_X6_plan sc (Cl MT pr sc (d + 3)) (rtE none (mk X) σ2) (84, [(0, .ref 21), (1, .ref 1), (2, .int x2), (6, .int x6), (7, .int x7), (8, .int x8)], [.int (gI σ 3 x8.toNatClampNeg), .int x7, .int y0, .int y1, .ref 21], mk X, σ)
  refine Ex.blk 1 rfl ?_
  obtain ⟨p2, hp2, h⟩ := bind_sp h
  refine Exists.intro (some (.int p2.1)) (Exists.intro (mk X) (Exists.intro p2.2 (And.intro (cl_X6_planRope (d + 0) hp2) ?_)))
  show Ex mr_X6_plan sc (Cl MT pr sc (d + 3)) (rtE none (mk X) σ2) (87, [(0, .ref 21), (1, .ref 1), (2, .int x2), (6, .int x6), (7, .int x7), (8, .int x8)], [.int p2.1], mk X, p2.2)
  refine Ex.blk 1000 rfl ?_
  show Ex mr_X6_plan sc (Cl MT pr sc (d + 3)) (rtE none (mk X) σ2) (34, [(8, .int (x8 + 1)), (7, .int p2.1), (0, .ref 21), (1, .ref 1), (2, .int x2), (6, .int x6)], [], mk X, p2.2)
  refine Ex.pick (lv' := _) [2, 3, 4, 5, 1, 0] rfl ?_
  exact hk34 _ _ _ _ _ h
theorem lk_X6_plan_1_34 {pr : Ct} {sc : Nat × (Nat → Int32)} {X : En} (d : Nat) {σ2 : St} : ∀ (n : Nat) (x2 : Int32) (x6 : Int32) (x7 : Int32) (x8 : Int32) (σ : St), f_X6_plan_34 1 n x2 x6 x7 x8 σ = some σ2 → Ex mr_X6_plan sc (Cl MT pr sc (d + 3)) (rtE none (mk X) σ2) (34, [(0, .ref 21), (1, .ref 1), (2, .int x2), (6, .int x6), (7, .int x7), (8, .int x8)], [], mk X, σ) := by
  intro n
  induction n with
  | zero =>
    intro x2 x6 x7 x8 σ h
    cases h
  | succ n ih =>
    intro x2 x6 x7 x8 σ h
    simp only [f_X6_plan_34] at h
    refine Ex.blk 1000 rfl ?_
    rcases ite_sp h with ⟨c1, h⟩ | ⟨c1, h⟩
    · refine And.intro (fun _ => ?_) (fun hn => absurd c1 hn)
      show Ex mr_X6_plan sc (Cl MT pr sc (d + 3)) (rtE none (mk X) σ2) (95, [(0, .ref 21), (1, .ref 1), (2, .int x2), (6, .int x6), (7, .int x7), (8, .int x8)], [], mk X, σ)
      refine Ex.blk 1000 rfl ?_
      cases h
      exact And.intro trivial ⟨rfl, rfl, rfl⟩
    · refine And.intro (fun hp => absurd hp c1) (fun _ => ?_)
      show Ex mr_X6_plan sc (Cl MT pr sc (d + 3)) (rtE none (mk X) σ2) (43, [(0, .ref 21), (1, .ref 1), (2, .int x2), (6, .int x6), (7, .int x7), (8, .int x8)], [], mk X, σ)
      refine Ex.blk 5 rfl ?_
      obtain ⟨g2, h⟩ := gd_some h
      refine And.intro (inb_ok g2) ?_
      show Ex mr_X6_plan sc (Cl MT pr sc (d + 3)) (rtE none (mk X) σ2) (51, [(0, .ref 21), (1, .ref 1), (2, .int x2), (6, .int x6), (7, .int x7), (8, .int x8)], [.int (gI σ 2 x8.toNatClampNeg), .ref 21], mk X, σ)
      refine Ex.blk 5 rfl ?_
      show Ex mr_X6_plan sc (Cl MT pr sc (d + 3)) (rtE none (mk X) σ2) (61, [(0, .ref 21), (1, .ref 1), (2, .int x2), (6, .int x6), (7, .int x7), (8, .int x8)], [.int x6, .int x8, .int x8, .ref 21], mk X, (sI σ 21 8 (gI σ 2 x8.toNatClampNeg)))
      refine Ex.blk 1000 rfl ?_
      rcases ite_sp h with ⟨c3, h⟩ | ⟨c3, h⟩
      · refine And.intro (fun _ => ?_) (fun hn => absurd c3 hn)
        show Ex mr_X6_plan sc (Cl MT pr sc (d + 3)) (rtE none (mk X) σ2) (74, [(0, .ref 21), (1, .ref 1), (2, .int x2), (6, .int x6), (7, .int x7), (8, .int x8)], [.int x8, .ref 21], mk X, (sI σ 21 8 (gI σ 2 x8.toNatClampNeg)))
        refine Ex.blk 1000 rfl ?_
        show Ex mr_X6_plan sc (Cl MT pr sc (d + 3)) (rtE none (mk X) σ2) (75, [(0, .ref 21), (1, .ref 1), (2, .int x2), (6, .int x6), (7, .int x7), (8, .int x8)], [.int (-1), .int x8, .ref 21], mk X, (sI σ 21 8 (gI σ 2 x8.toNatClampNeg)))
        exact lk_X6_plan_1_75 d _ ih _ _ _ _ _ _ _ h
      · refine And.intro (fun hp => absurd hp c3) (fun _ => ?_)
        show Ex mr_X6_plan sc (Cl MT pr sc (d + 3)) (rtE none (mk X) σ2) (64, [(0, .ref 21), (1, .ref 1), (2, .int x2), (6, .int x6), (7, .int x7), (8, .int x8)], [.int x8, .ref 21], mk X, (sI σ 21 8 (gI σ 2 x8.toNatClampNeg)))
        refine Ex.blk 4 rfl ?_
        obtain ⟨p3, hp3, h⟩ := bind_sp h
        refine Exists.intro (some (.int p3.1)) (Exists.intro (mk X) (Exists.intro p3.2 (And.intro (cl_X9_digitOf (d + 2) hp3) ?_)))
        show Ex mr_X6_plan sc (Cl MT pr sc (d + 3)) (rtE none (mk X) σ2) (71, [(0, .ref 21), (1, .ref 1), (2, .int x2), (6, .int x6), (7, .int x7), (8, .int x8)], [.int p3.1, .int x8, .ref 21], mk X, p3.2)
        refine Ex.blk 1000 rfl ?_
        show Ex mr_X6_plan sc (Cl MT pr sc (d + 3)) (rtE none (mk X) σ2) (75, [(0, .ref 21), (1, .ref 1), (2, .int x2), (6, .int x6), (7, .int x7), (8, .int x8)], [.int p3.1, .int x8, .ref 21], mk X, p3.2)
        exact lk_X6_plan_1_75 d _ ih _ _ _ _ _ _ _ h
theorem cl_X6_plan_1 {pr : Ct} {sc : Nat × (Nat → Int32)} {X : En} (d : Nat) {σ2 : St} {x2 : Int32} {x3 : Int32} {x4 : Int32} {x5 : Int32} {σ : St} (h : f_X6_plan 1 x2 x3 x4 x5 σ = some σ2) : Cl MT pr sc (d + 3 + 1) 59 [.ref 21, .ref 1, .int x2, .int x3, .int x4, .int x5] (mk X) σ none (mk X) σ2 := by
  refine cl_of mr_X6_plan rfl rfl ?_
  unfold f_X6_plan at h
  refine Ex.blk 5 rfl ?_
  show Ex mr_X6_plan sc (Cl MT pr sc (d + 3)) (rtE none (mk X) σ2) (9, [(0, .ref 21), (1, .ref 1), (2, .int x2), (3, .int x3), (4, .int x4), (5, .int x5)], [], mk X, (sI σ 21 5 (mxI 1 x3)))
  refine Ex.blk 5 rfl ?_
  show Ex mr_X6_plan sc (Cl MT pr sc (d + 3)) (rtE none (mk X) σ2) (18, [(0, .ref 21), (1, .ref 1), (2, .int x2), (3, .int x3), (4, .int x4), (5, .int x5)], [.int x5, .ref 21], mk X, (sI (sI σ 21 5 (mxI 1 x3)) 21 6 x4))
  refine Ex.blk 4 rfl ?_
  obtain ⟨p1, hp1, h⟩ := bind_sp h
  refine Exists.intro (some (.int p1.1)) (Exists.intro (mk X) (Exists.intro p1.2 (And.intro (cl_X7_topRope_1 (d + 1) hp1) ?_)))
  show Ex mr_X6_plan sc (Cl MT pr sc (d + 3)) (rtE none (mk X) σ2) (26, [(0, .ref 21), (1, .ref 1), (2, .int x2), (3, .int x3), (4, .int x4), (5, .int x5)], [.int p1.1], mk X, p1.2)
  refine Ex.blk 1000 rfl ?_
  show Ex mr_X6_plan sc (Cl MT pr sc (d + 3)) (rtE none (mk X) σ2) (34, [(8, .int 0), (7, .int (-1)), (6, .int p1.1), (0, .ref 21), (1, .ref 1), (2, .int x2), (3, .int x3), (4, .int x4), (5, .int x5)], [], mk X, p1.2)
  refine Ex.pick (lv' := _) [3, 4, 5, 2, 1, 0] rfl ?_
  exact lk_X6_plan_1_34 d FU _ _ _ _ _ h
theorem lk_X9_done_20 {pr : Ct} {sc : Nat × (Nat → Int32)} {X : En} (d : Nat) {r : Int32} {σ2 : St} (σ : St) (h : f_X9_done_20 σ = some (r, σ2)) : Ex mr_X9_done sc (Cl MT pr sc (d + 4)) (rtE (some (.int r)) (mk X) σ2) (20, [], [], mk X, σ) := by
  unfold f_X9_done_20 at h
  refine Ex.blk 1000 rfl ?_
  cases h
  exact And.intro trivial ⟨rfl, rfl, rfl⟩
theorem lk_X9_done_77 {pr : Ct} {sc : Nat × (Nat → Int32)} {X : En} (d : Nat) {r : Int32} {σ2 : St} (y0 : Int32) (σ : St) (h : f_X9_done_77 y0 σ = some (r, σ2)) : Ex mr_X9_done sc (Cl MT pr sc (d + 4)) (rtE (some (.int r)) (mk X) σ2) (77, [], [.int y0], mk X, σ) := by
  unfold f_X9_done_77 at h
  refine Ex.blk 1000 rfl ?_
  cases h
  exact And.intro trivial ⟨rfl, rfl, rfl⟩
theorem lk_X9_done_22 {pr : Ct} {sc : Nat × (Nat → Int32)} {X : En} (d : Nat) {r : Int32} {σ2 : St} (x1 : Int32) (x2 : Int32) (σ : St) (h : f_X9_done_22 x1 x2 σ = some (r, σ2)) : Ex mr_X9_done sc (Cl MT pr sc (d + 4)) (rtE (some (.int r)) (mk X) σ2) (22, [(0, .ref 0), (1, .int x1), (2, .int x2)], [], mk X, σ) := by
  unfold f_X9_done_22 at h
  refine Ex.blk 5 rfl ?_
  show Ex mr_X9_done sc (Cl MT pr sc (d + 4)) (rtE (some (.int r)) (mk X) σ2) (31, [(0, .ref 0), (1, .int x1), (2, .int x2)], [.int x1, .ref 1, .ref 21], mk X, σ)
  refine Ex.blk 5 rfl ?_
  show Ex mr_X9_done sc (Cl MT pr sc (d + 4)) (rtE (some (.int r)) (mk X) σ2) (40, [(0, .ref 0), (1, .int x1), (2, .int x2)], [.ref 0, .int (gI σ 0 16), .int (gI σ 0 15), .int x1, .ref 1, .ref 21], mk X, σ)
  refine Ex.blk 2 rfl ?_
  obtain ⟨p2, hp2, h⟩ := bind_sp h
  refine Exists.intro none (Exists.intro (mk X) (Exists.intro p2 (And.intro (cl_X6_plan_1 (d + 0) hp2) ?_)))
  show Ex mr_X9_done sc (Cl MT pr sc (d + 4)) (rtE (some (.int r)) (mk X) σ2) (46, [(0, .ref 0), (1, .int x1), (2, .int x2)], [], mk X, p2)
  refine Ex.blk 1000 rfl ?_
  rcases ite_sp h with ⟨c1, h⟩ | ⟨c1, h⟩
  · refine And.intro (fun hp => absurd c1 hp) (fun _ => ?_)
    show Ex mr_X9_done sc (Cl MT pr sc (d + 4)) (rtE (some (.int r)) (mk X) σ2) (51, [(0, .ref 0), (1, .int x1), (2, .int x2)], [], mk X, p2)
    refine Ex.blk 5 rfl ?_
    show Ex mr_X9_done sc (Cl MT pr sc (d + 4)) (rtE (some (.int r)) (mk X) σ2) (62, [(0, .ref 0), (1, .int x1), (2, .int x2)], [.int (gI p2 1 0), .ref 21], mk X, p2)
    refine Ex.blk 1 rfl ?_
    obtain ⟨p3, hp3, h⟩ := bind_sp h
    refine Exists.intro (some (.int p3.1)) (Exists.intro (mk X) (Exists.intro p3.2 (And.intro (cl_X6_lastRest (d + 3) hp3) ?_)))
    show Ex mr_X9_done sc (Cl MT pr sc (d + 4)) (rtE (some (.int r)) (mk X) σ2) (65, [(0, .ref 0), (1, .int x1), (2, .int x2)], [.int p3.1], mk X, p3.2)
    refine Ex.blk 1000 rfl ?_
    show Ex mr_X9_done sc (Cl MT pr sc (d + 4)) (rtE (some (.int r)) (mk X) σ2) (77, [(0, .ref 0), (1, .int x1), (2, .int x2)], [.int p3.1], mk X, p3.2)
    refine Ex.pick (lv' := _) [] rfl ?_
    exact lk_X9_done_77 d _ _ h
  · refine And.intro (fun _ => ?_) (fun hn => absurd c1 hn)
    show Ex mr_X9_done sc (Cl MT pr sc (d + 4)) (rtE (some (.int r)) (mk X) σ2) (68, [(0, .ref 0), (1, .int x1), (2, .int x2)], [], mk X, p2)
    refine Ex.blk 5 rfl ?_
    obtain ⟨g2, h⟩ := gd_some h
    refine And.intro (inb_ok g2) ?_
    show Ex mr_X9_done sc (Cl MT pr sc (d + 4)) (rtE (some (.int r)) (mk X) σ2) (77, [(0, .ref 0), (1, .int x1), (2, .int x2)], [.int (gI p2 26 x2.toNatClampNeg)], mk X, p2)
    refine Ex.pick (lv' := _) [] rfl ?_
    exact lk_X9_done_77 d _ _ h
theorem cl_X9_done {pr : Ct} {sc : Nat × (Nat → Int32)} {X : En} (d : Nat) {r : Int32} {σ2 : St} {x1 : Int32} {x2 : Int32} {σ : St} (h : f_X9_done x1 x2 σ = some (r, σ2)) : Cl MT pr sc (d + 4 + 1) 103 [.ref 0, .int x1, .int x2] (mk X) σ (some (.int r)) (mk X) σ2 := by
  refine cl_of mr_X9_done rfl rfl ?_
  unfold f_X9_done at h
  refine Ex.blk 2 rfl ?_
  obtain ⟨p1, hp1, h⟩ := bind_sp h
  refine Exists.intro (some (.int p1.1)) (Exists.intro (mk X) (Exists.intro p1.2 (And.intro (cl_X9_isNumber (d + 3) hp1) ?_)))
  show Ex mr_X9_done sc (Cl MT pr sc (d + 4)) (rtE (some (.int r)) (mk X) σ2) (4, [(0, .ref 0), (1, .int x1), (2, .int x2)], [.int p1.1], mk X, p1.2)
  refine Ex.blk 1000 rfl ?_
  rcases ite_sp h with ⟨c1, h⟩ | ⟨c1, h⟩
  · refine And.intro (fun _ => ?_) (fun hn => absurd c1 hn)
    show Ex mr_X9_done sc (Cl MT pr sc (d + 4)) (rtE (some (.int r)) (mk X) σ2) (20, [(0, .ref 0), (1, .int x1), (2, .int x2)], [], mk X, p1.2)
    refine Ex.pick (lv' := _) [] rfl ?_
    exact lk_X9_done_20 d _ h
  · refine And.intro (fun hp => absurd hp c1) (fun _ => ?_)
    show Ex mr_X9_done sc (Cl MT pr sc (d + 4)) (rtE (some (.int r)) (mk X) σ2) (7, [(0, .ref 0), (1, .int x1), (2, .int x2)], [], mk X, p1.2)
    refine Ex.blk 1000 rfl ?_
    rcases ite_sp h with ⟨c2, h⟩ | ⟨c2, h⟩
    · refine And.intro (fun _ => ?_) (fun hn => absurd c2 hn)
      show Ex mr_X9_done sc (Cl MT pr sc (d + 4)) (rtE (some (.int r)) (mk X) σ2) (22, [(0, .ref 0), (1, .int x1), (2, .int x2)], [], mk X, p1.2)
      exact lk_X9_done_22 d _ _ _ h
    · refine And.intro (fun hp => absurd hp c2) (fun _ => ?_)
      show Ex mr_X9_done sc (Cl MT pr sc (d + 4)) (rtE (some (.int r)) (mk X) σ2) (12, [(0, .ref 0), (1, .int x1), (2, .int x2)], [], mk X, p1.2)
      refine Ex.blk 3 rfl ?_
      obtain ⟨p4, hp4, h⟩ := bind_sp h
      refine Exists.intro (some (.int p4.1)) (Exists.intro (mk X) (Exists.intro p4.2 (And.intro (cl_X9_isRope (d + 3) hp4) ?_)))
      show Ex mr_X9_done sc (Cl MT pr sc (d + 4)) (rtE (some (.int r)) (mk X) σ2) (17, [(0, .ref 0), (1, .int x1), (2, .int x2)], [.int p4.1], mk X, p4.2)
      refine Ex.blk 1000 rfl ?_
      rcases ite_sp h with ⟨c3, h⟩ | ⟨c3, h⟩
      · refine And.intro (fun hp => absurd c3 hp) (fun _ => ?_)
        show Ex mr_X9_done sc (Cl MT pr sc (d + 4)) (rtE (some (.int r)) (mk X) σ2) (20, [(0, .ref 0), (1, .int x1), (2, .int x2)], [], mk X, p4.2)
        refine Ex.pick (lv' := _) [] rfl ?_
        exact lk_X9_done_20 d _ h
      · refine And.intro (fun _ => ?_) (fun hn => absurd c3 hn)
        show Ex mr_X9_done sc (Cl MT pr sc (d + 4)) (rtE (some (.int r)) (mk X) σ2) (22, [(0, .ref 0), (1, .int x1), (2, .int x2)], [], mk X, p4.2)
        exact lk_X9_done_22 d _ _ _ h
theorem lk_X9_standing_26 {pr : Ct} {sc : Nat × (Nat → Int32)} {X : En} (d : Nat) {r : Int32} {σ2 : St} (σ : St) (h : f_X9_standing_26 σ = some (r, σ2)) : Ex mr_X9_standing sc (Cl MT pr sc (d + 4)) (rtE (some (.int r)) (mk X) σ2) (26, [], [], mk X, σ) := by
  unfold f_X9_standing_26 at h
  refine Ex.blk 1000 rfl ?_
  cases h
  exact And.intro trivial ⟨rfl, rfl, rfl⟩
theorem cl_X9_standing {pr : Ct} {sc : Nat × (Nat → Int32)} {X : En} (d : Nat) {r : Int32} {σ2 : St} {x1 : Int32} {x2 : Int32} {x3 : Int32} {σ : St} (h : f_X9_standing x1 x2 x3 σ = some (r, σ2)) : Cl MT pr sc (d + 4 + 1) 104 [.ref 0, .int x1, .int x2, .int x3] (mk X) σ (some (.int r)) (mk X) σ2 := by
  refine cl_of mr_X9_standing rfl rfl ?_
  unfold f_X9_standing at h
  refine Ex.blk 2 rfl ?_
  obtain ⟨p1, hp1, h⟩ := bind_sp h
  refine Exists.intro (some (.int p1.1)) (Exists.intro (mk X) (Exists.intro p1.2 (And.intro (cl_X9_isNumber (d + 3) hp1) ?_)))
  show Ex mr_X9_standing sc (Cl MT pr sc (d + 4)) (rtE (some (.int r)) (mk X) σ2) (4, [(0, .ref 0), (1, .int x1), (2, .int x2), (3, .int x3)], [.int p1.1], mk X, p1.2)
  refine Ex.blk 1000 rfl ?_
  rcases ite_sp h with ⟨c1, h⟩ | ⟨c1, h⟩
  · refine And.intro (fun _ => ?_) (fun hn => absurd c1 hn)
    show Ex mr_X9_standing sc (Cl MT pr sc (d + 4)) (rtE (some (.int r)) (mk X) σ2) (26, [(0, .ref 0), (1, .int x1), (2, .int x2), (3, .int x3)], [], mk X, p1.2)
    refine Ex.pick (lv' := _) [] rfl ?_
    exact lk_X9_standing_26 d _ h
  · refine And.intro (fun hp => absurd hp c1) (fun _ => ?_)
    show Ex mr_X9_standing sc (Cl MT pr sc (d + 4)) (rtE (some (.int r)) (mk X) σ2) (7, [(0, .ref 0), (1, .int x1), (2, .int x2), (3, .int x3)], [], mk X, p1.2)
    refine Ex.blk 3 rfl ?_
    obtain ⟨p2, hp2, h⟩ := bind_sp h
    refine Exists.intro (some (.int p2.1)) (Exists.intro (mk X) (Exists.intro p2.2 (And.intro (cl_X9_isRope (d + 3) hp2) ?_)))
    show Ex mr_X9_standing sc (Cl MT pr sc (d + 4)) (rtE (some (.int r)) (mk X) σ2) (12, [(0, .ref 0), (1, .int x1), (2, .int x2), (3, .int x3)], [.int p2.1], mk X, p2.2)
    refine Ex.blk 1000 rfl ?_
    rcases ite_sp h with ⟨c2, h⟩ | ⟨c2, h⟩
    · refine And.intro (fun _ => ?_) (fun hn => absurd c2 hn)
      show Ex mr_X9_standing sc (Cl MT pr sc (d + 4)) (rtE (some (.int r)) (mk X) σ2) (26, [(0, .ref 0), (1, .int x1), (2, .int x2), (3, .int x3)], [], mk X, p2.2)
      refine Ex.pick (lv' := _) [] rfl ?_
      exact lk_X9_standing_26 d _ h
    · refine And.intro (fun hp => absurd hp c2) (fun _ => ?_)
      show Ex mr_X9_standing sc (Cl MT pr sc (d + 4)) (rtE (some (.int r)) (mk X) σ2) (15, [(0, .ref 0), (1, .int x1), (2, .int x2), (3, .int x3)], [], mk X, p2.2)
      refine Ex.blk 1000 rfl ?_
      rcases ite_sp h with ⟨c3, h⟩ | ⟨c3, h⟩
      · refine And.intro (fun _ => ?_) (fun hn => absurd c3 hn)
        show Ex mr_X9_standing sc (Cl MT pr sc (d + 4)) (rtE (some (.int r)) (mk X) σ2) (26, [(0, .ref 0), (1, .int x1), (2, .int x2), (3, .int x3)], [], mk X, p2.2)
        refine Ex.pick (lv' := _) [] rfl ?_
        exact lk_X9_standing_26 d _ h
      · refine And.intro (fun hp => absurd hp c3) (fun _ => ?_)
        show Ex mr_X9_standing sc (Cl MT pr sc (d + 4)) (rtE (some (.int r)) (mk X) σ2) (19, [(0, .ref 0), (1, .int x1), (2, .int x2), (3, .int x3)], [], mk X, p2.2)
        refine Ex.blk 1000 rfl ?_
        rcases ite_sp h with ⟨c4, h⟩ | ⟨c4, h⟩
        · refine And.intro (fun _ => ?_) (fun hn => absurd c4 hn)
          show Ex mr_X9_standing sc (Cl MT pr sc (d + 4)) (rtE (some (.int r)) (mk X) σ2) (28, [(0, .ref 0), (1, .int x1), (2, .int x2), (3, .int x3)], [], mk X, p2.2)
          refine Ex.blk 5 rfl ?_
          show Ex mr_X9_standing sc (Cl MT pr sc (d + 4)) (rtE (some (.int r)) (mk X) σ2) (37, [(0, .ref 0), (1, .int x1), (2, .int x2), (3, .int x3)], [.int x1, .ref 1, .ref 21], mk X, p2.2)
          refine Ex.blk 5 rfl ?_
          show Ex mr_X9_standing sc (Cl MT pr sc (d + 4)) (rtE (some (.int r)) (mk X) σ2) (46, [(0, .ref 0), (1, .int x1), (2, .int x2), (3, .int x3)], [.ref 0, .int (gI p2.2 0 16), .int (gI p2.2 0 15), .int x1, .ref 1, .ref 21], mk X, p2.2)
          refine Ex.blk 2 rfl ?_
          obtain ⟨p3, hp3, h⟩ := bind_sp h
          refine Exists.intro none (Exists.intro (mk X) (Exists.intro p3 (And.intro (cl_X6_plan_1 (d + 0) hp3) ?_)))
          show Ex mr_X9_standing sc (Cl MT pr sc (d + 4)) (rtE (some (.int r)) (mk X) σ2) (52, [(0, .ref 0), (1, .int x1), (2, .int x2), (3, .int x3)], [], mk X, p3)
          refine Ex.blk 5 rfl ?_
          show Ex mr_X9_standing sc (Cl MT pr sc (d + 4)) (rtE (some (.int r)) (mk X) σ2) (61, [(0, .ref 0), (1, .int x1), (2, .int x2), (3, .int x3)], [.ref 1, .int x2, .ref 21], mk X, p3)
          refine Ex.blk 3 rfl ?_
          obtain ⟨g5, h⟩ := gd_some h
          refine And.intro (inb_ok g5) ?_
          show Ex mr_X9_standing sc (Cl MT pr sc (d + 4)) (rtE (some (.int r)) (mk X) σ2) (66, [(0, .ref 0), (1, .int x1), (2, .int x2), (3, .int x3)], [.int (gI p3 2 x2.toNatClampNeg), .int x2, .ref 21], mk X, p3)
          refine Ex.blk 2 rfl ?_
          obtain ⟨p4, hp4, h⟩ := bind_sp h
          refine Exists.intro (some (.int p4.1)) (Exists.intro (mk X) (Exists.intro p4.2 (And.intro (cl_X6_digitAt (d + 3) hp4) ?_)))
          show Ex mr_X9_standing sc (Cl MT pr sc (d + 4)) (rtE (some (.int r)) (mk X) σ2) (70, [(0, .ref 0), (1, .int x1), (2, .int x2), (3, .int x3)], [.int p4.1], mk X, p4.2)
          refine Ex.blk 1000 rfl ?_
          cases h
          exact And.intro trivial ⟨rfl, rfl, rfl⟩
        · refine And.intro (fun hp => absurd hp c4) (fun _ => ?_)
          show Ex mr_X9_standing sc (Cl MT pr sc (d + 4)) (rtE (some (.int r)) (mk X) σ2) (26, [(0, .ref 0), (1, .int x1), (2, .int x2), (3, .int x3)], [], mk X, p2.2)
          refine Ex.pick (lv' := _) [] rfl ?_
          exact lk_X9_standing_26 d _ h
theorem lk_X9_withBit_19 {pr : Ct} {sc : Nat × (Nat → Int32)} {X : En} (d : Nat) {r : Int32} {σ2 : St} (y0 : Int32) (σ : St) (h : f_X9_withBit_19 y0 σ = some (r, σ2)) : Ex mr_X9_withBit sc (Cl MT pr sc (d + 0)) (rtE (some (.int r)) (mk X) σ2) (19, [], [.int y0], mk X, σ) := by
  unfold f_X9_withBit_19 at h
  refine Ex.blk 1000 rfl ?_
  cases h
  exact And.intro trivial ⟨rfl, rfl, rfl⟩
theorem cl_X9_withBit {pr : Ct} {sc : Nat × (Nat → Int32)} {X : En} (d : Nat) {r : Int32} {σ2 : St} {x0 : Int32} {x1 : Int32} {x2 : Int32} {σ : St} (h : f_X9_withBit x0 x1 x2 σ = some (r, σ2)) : Cl MT pr sc (d + 0 + 1) 105 [.int x0, .int x1, .int x2] (mk X) σ (some (.int r)) (mk X) σ2 := by
  refine cl_of mr_X9_withBit rfl rfl ?_
  unfold f_X9_withBit at h
  refine Ex.blk 1000 rfl ?_
  rcases ite_sp h with ⟨c1, h⟩ | ⟨c1, h⟩
  · refine And.intro (fun _ => ?_) (fun hn => absurd c1 hn)
    show Ex mr_X9_withBit sc (Cl MT pr sc (d + 0)) (rtE (some (.int r)) (mk X) σ2) (12, [(0, .int x0), (1, .int x1), (2, .int x2)], [], mk X, σ)
    refine Ex.blk 5 rfl ?_
    show Ex mr_X9_withBit sc (Cl MT pr sc (d + 0)) (rtE (some (.int r)) (mk X) σ2) (17, [(0, .int x0), (1, .int x1), (2, .int x2)], [.int (-1), .int (shlI 1 x1), .int x0], mk X, σ)
    refine Ex.blk 1000 rfl ?_
    show Ex mr_X9_withBit sc (Cl MT pr sc (d + 0)) (rtE (some (.int r)) (mk X) σ2) (19, [(0, .int x0), (1, .int x1), (2, .int x2)], [.int (x0 &&& ((shlI 1 x1) ^^^ (-1)))], mk X, σ)
    refine Ex.pick (lv' := _) [] rfl ?_
    exact lk_X9_withBit_19 d _ _ h
  · refine And.intro (fun hp => absurd hp c1) (fun _ => ?_)
    show Ex mr_X9_withBit sc (Cl MT pr sc (d + 0)) (rtE (some (.int r)) (mk X) σ2) (4, [(0, .int x0), (1, .int x1), (2, .int x2)], [], mk X, σ)
    refine Ex.blk 5 rfl ?_
    show Ex mr_X9_withBit sc (Cl MT pr sc (d + 0)) (rtE (some (.int r)) (mk X) σ2) (9, [(0, .int x0), (1, .int x1), (2, .int x2)], [.int (x0 ||| (shlI 1 x1))], mk X, σ)
    refine Ex.blk 1000 rfl ?_
    show Ex mr_X9_withBit sc (Cl MT pr sc (d + 0)) (rtE (some (.int r)) (mk X) σ2) (19, [(0, .int x0), (1, .int x1), (2, .int x2)], [.int (x0 ||| (shlI 1 x1))], mk X, σ)
    refine Ex.pick (lv' := _) [] rfl ?_
    exact lk_X9_withBit_19 d _ _ h
