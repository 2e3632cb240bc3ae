theorem cl_X10_fault {pr : Ct} {sc : Nat × (Nat → Int32)} {X : En} (d : Nat) {r : Int32} {σ2 : St} {σ : St} (h : f_X10_fault σ = some (r, σ2)) : Cl MT pr sc (d + 5 + 1) 162 [.ref 38] (mk X) σ (some (.int r)) (mk X) σ2 := by
  refine cl_of mr_X10_fault rfl rfl ?_
  unfold f_X10_fault at h
  refine Ex.blk 3 rfl ?_
  obtain ⟨p1, hp1, h⟩ := bind_sp h
  refine Exists.intro (some (.int p1.1)) (Exists.intro (mk X) (Exists.intro p1.2 (And.intro (cl_X10_read (d + 0) hp1) ?_)))
  show Ex mr_X10_fault sc (Cl MT pr sc (d + 5)) (rtE (some (.int r)) (mk X) σ2) (6, [(0, .ref 38)], [.int p1.1], mk X, p1.2)
  refine Ex.blk 1000 rfl ?_
  cases h
  exact And.intro trivial ⟨rfl, rfl, rfl⟩
theorem lk_X10_text_21 {pr : Ct} {sc : Nat × (Nat → Int32)} {X : En} (d : Nat) {r : Int32} {σ2 : St} (σ : St) (h : f_X10_text_21 σ = some (r, σ2)) : Ex mr_X10_text sc (Cl MT pr sc (d + 5)) (rtE (some (.int r)) (mk X) σ2) (21, [], [], mk X, σ) := by
  unfold f_X10_text_21 at h
  refine Ex.blk 1000 rfl ?_
  cases h
  exact And.intro trivial ⟨rfl, rfl, rfl⟩
theorem lk_X10_text_38 {pr : Ct} {sc : Nat × (Nat → Int32)} {X : En} (d : Nat) {r : Int32} {σ2 : St} (σ : St) (h : f_X10_text_38 σ = some (r, σ2)) : Ex mr_X10_text sc (Cl MT pr sc (d + 5)) (rtE (some (.int r)) (mk X) σ2) (38, [(0, .ref 38)], [], mk X, σ) := by
  unfold f_X10_text_38 at h
  refine Ex.blk 1000 rfl ?_
  cases h
  exact And.intro trivial ⟨rfl, rfl, rfl⟩
theorem cl_X10_text {pr : Ct} {sc : Nat × (Nat → Int32)} {X : En} (d : Nat) {r : Int32} {σ2 : St} {σ : St} (h : f_X10_text σ = some (r, σ2)) : Cl MT pr sc (d + 5 + 1) 163 [.ref 38] (mk X) σ (some (.int r)) (mk X) σ2 := by
  refine cl_of mr_X10_text rfl rfl ?_
  unfold f_X10_text at h
  refine Ex.blk 1000 rfl ?_
  rcases ite_sp h with ⟨c1, h⟩ | ⟨c1, h⟩
  · refine And.intro (fun _ => ?_) (fun hn => absurd c1 hn)
    show Ex mr_X10_text sc (Cl MT pr sc (d + 5)) (rtE (some (.int r)) (mk X) σ2) (21, [(0, .ref 38)], [], mk X, σ)
    refine Ex.pick (lv' := _) [] rfl ?_
    exact lk_X10_text_21 d _ h
  · refine And.intro (fun hp => absurd hp c1) (fun _ => ?_)
    show Ex mr_X10_text sc (Cl MT pr sc (d + 5)) (rtE (some (.int r)) (mk X) σ2) (9, [(0, .ref 38)], [], mk X, σ)
    refine Ex.blk 4 rfl ?_
    obtain ⟨p1, hp1, h⟩ := bind_sp h
    refine Exists.intro (some (.int p1.1)) (Exists.intro (mk X) (Exists.intro p1.2 (And.intro (cl_X10_read (d + 0) hp1) ?_)))
    show Ex mr_X10_text sc (Cl MT pr sc (d + 5)) (rtE (some (.int r)) (mk X) σ2) (17, [(0, .ref 38)], [.int p1.1], mk X, p1.2)
    refine Ex.blk 1000 rfl ?_
    rcases ite_sp h with ⟨c2, h⟩ | ⟨c2, h⟩
    · refine And.intro (fun _ => ?_) (fun hn => absurd c2 hn)
      show Ex mr_X10_text sc (Cl MT pr sc (d + 5)) (rtE (some (.int r)) (mk X) σ2) (23, [(0, .ref 38)], [], mk X, p1.2)
      refine Ex.blk 5 rfl ?_
      show Ex mr_X10_text sc (Cl MT pr sc (d + 5)) (rtE (some (.int r)) (mk X) σ2) (30, [(0, .ref 38)], [.ref 38, .ref 38], mk X, (sI p1.2 38 3 0))
      refine Ex.blk 4 rfl ?_
      show Ex mr_X10_text sc (Cl MT pr sc (d + 5)) (rtE (some (.int r)) (mk X) σ2) (38, [(0, .ref 38)], [], mk X, (sI (sI p1.2 38 3 0) 38 10 ((gI (sI p1.2 38 3 0) 38 10) + 1)))
      exact lk_X10_text_38 d _ h
    · refine And.intro (fun hp => absurd hp c2) (fun _ => ?_)
      show Ex mr_X10_text sc (Cl MT pr sc (d + 5)) (rtE (some (.int r)) (mk X) σ2) (21, [(0, .ref 38)], [], mk X, p1.2)
      refine Ex.pick (lv' := _) [] rfl ?_
      exact lk_X10_text_21 d _ h
theorem cl_X10_isSum {pr : Ct} {sc : Nat × (Nat → Int32)} {X : En} (d : Nat) {r : Int32} {σ2 : St} {x1 : Int32} {σ : St} (h : f_X10_isSum x1 σ = some (r, σ2)) : Cl MT pr sc (d + 1 + 1) 164 [.ref 38, .int x1] (mk X) σ (some (.int r)) (mk X) σ2 := by
  refine cl_of mr_X10_isSum rfl rfl ?_
  unfold f_X10_isSum at h
  refine Ex.blk 5 rfl ?_
  show Ex mr_X10_isSum sc (Cl MT pr sc (d + 1)) (rtE (some (.int r)) (mk X) σ2) (7, [(0, .ref 38), (1, .int x1)], [.int (gI σ 38 10), .long 0, .long x1.toInt64], mk X, σ)
  refine Ex.blk 4 rfl ?_
  obtain ⟨p1, hp1, h⟩ := bind_sp h
  refine Exists.intro (some (.int p1.1)) (Exists.intro (mk X) (Exists.intro p1.2 (And.intro (cl_X10_in (d + 0) hp1) ?_)))
  show Ex mr_X10_isSum sc (Cl MT pr sc (d + 1)) (rtE (some (.int r)) (mk X) σ2) (13, [(0, .ref 38), (1, .int x1)], [.int p1.1], mk X, p1.2)
  refine Ex.blk 1000 rfl ?_
  obtain ⟨g1, h⟩ := gd_some h
  cases h
  exact And.intro (isbb_ok g1) ⟨rfl, rfl, rfl⟩
theorem lk_X10_step_136 {pr : Ct} {sc : Nat × (Nat → Int32)} {X : En} (d : Nat) {r : Int32} {σ2 : St} (y0 : Int32) (σ : St) (h : f_X10_step_136 y0 σ = some (r, σ2)) : Ex mr_X10_step sc (Cl MT pr sc (d + 2)) (rtE (some (.int r)) (mk X) σ2) (136, [], [.int y0], mk X, σ) := by
  unfold f_X10_step_136 at h
  refine Ex.blk 1000 rfl ?_
  cases h
  exact And.intro trivial ⟨rfl, rfl, rfl⟩
theorem lk_X10_step_86 {pr : Ct} {sc : Nat × (Nat → Int32)} {X : En} (d : Nat) {r : Int32} {σ2 : St} (x1 : Int32) (x2 : Int32) (x3 : Int32) (x5 : Int32) (σ : St) (h : f_X10_step_86 x1 x2 x3 x5 σ = some (r, σ2)) : Ex mr_X10_step sc (Cl MT pr sc (d + 2)) (rtE (some (.int r)) (mk X) σ2) (86, [(0, .ref 38), (1, .int x1), (2, .int x2), (3, .int x3), (5, .int x5)], [], mk X, σ) := by
  unfold f_X10_step_86 at h
  refine Ex.blk 1000 rfl ?_
  rcases ite_sp h with ⟨c1, h⟩ | ⟨c1, h⟩
  · refine And.intro (fun hp => absurd c1 hp) (fun _ => ?_)
    show Ex mr_X10_step sc (Cl MT pr sc (d + 2)) (rtE (some (.int r)) (mk X) σ2) (91, [(0, .ref 38), (1, .int x1), (2, .int x2), (3, .int x3), (5, .int x5)], [], mk X, σ)
    refine Ex.blk 4 rfl ?_
    obtain ⟨g2, h⟩ := gd_some h
    refine And.intro (inb_ok g2) ?_
    show Ex mr_X10_step sc (Cl MT pr sc (d + 2)) (rtE (some (.int r)) (mk X) σ2) (97, [(0, .ref 38), (1, .int x1), (2, .int x2), (3, .int x3), (5, .int x5)], [.int (gI σ 43 x1.toNatClampNeg)], mk X, σ)
    refine Ex.blk 1000 rfl ?_
    show Ex mr_X10_step sc (Cl MT pr sc (d + 2)) (rtE (some (.int r)) (mk X) σ2) (136, [(0, .ref 38), (1, .int x1), (2, .int x2), (3, .int x3), (5, .int x5)], [.int (gI σ 43 x1.toNatClampNeg)], mk X, σ)
    refine Ex.pick (lv' := _) [] rfl ?_
    exact lk_X10_step_136 d _ _ h
  · refine And.intro (fun _ => ?_) (fun hn => absurd c1 hn)
    show Ex mr_X10_step sc (Cl MT pr sc (d + 2)) (rtE (some (.int r)) (mk X) σ2) (100, [(0, .ref 38), (1, .int x1), (2, .int x2), (3, .int x3), (5, .int x5)], [], mk X, σ)
    refine Ex.blk 1000 rfl ?_
    rcases ite_sp h with ⟨c3, h⟩ | ⟨c3, h⟩
    · refine And.intro (fun hp => absurd c3 hp) (fun _ => ?_)
      show Ex mr_X10_step sc (Cl MT pr sc (d + 2)) (rtE (some (.int r)) (mk X) σ2) (104, [(0, .ref 38), (1, .int x1), (2, .int x2), (3, .int x3), (5, .int x5)], [], mk X, σ)
      refine Ex.blk 4 rfl ?_
      obtain ⟨g4, h⟩ := gd_some h
      refine And.intro (inb_ok g4) ?_
      show Ex mr_X10_step sc (Cl MT pr sc (d + 2)) (rtE (some (.int r)) (mk X) σ2) (111, [(0, .ref 38), (1, .int x1), (2, .int x2), (3, .int x3), (5, .int x5)], [.int (gI σ 40 x5.toNatClampNeg)], mk X, σ)
      refine Ex.blk 1000 rfl ?_
      show Ex mr_X10_step sc (Cl MT pr sc (d + 2)) (rtE (some (.int r)) (mk X) σ2) (136, [(0, .ref 38), (1, .int x1), (2, .int x2), (3, .int x3), (5, .int x5)], [.int (gI σ 40 x5.toNatClampNeg)], mk X, σ)
      refine Ex.pick (lv' := _) [] rfl ?_
      exact lk_X10_step_136 d _ _ h
    · refine And.intro (fun _ => ?_) (fun hn => absurd c3 hn)
      show Ex mr_X10_step sc (Cl MT pr sc (d + 2)) (rtE (some (.int r)) (mk X) σ2) (114, [(0, .ref 38), (1, .int x1), (2, .int x2), (3, .int x3), (5, .int x5)], [], mk X, σ)
      refine Ex.blk 1000 rfl ?_
      rcases ite_sp h with ⟨c5, h⟩ | ⟨c5, h⟩
      · refine And.intro (fun hp => absurd c5 hp) (fun _ => ?_)
        show Ex mr_X10_step sc (Cl MT pr sc (d + 2)) (rtE (some (.int r)) (mk X) σ2) (119, [(0, .ref 38), (1, .int x1), (2, .int x2), (3, .int x3), (5, .int x5)], [], mk X, σ)
        refine Ex.blk 4 rfl ?_
        obtain ⟨g6, h⟩ := gd_some h
        refine And.intro (inb_ok g6) ?_
        show Ex mr_X10_step sc (Cl MT pr sc (d + 2)) (rtE (some (.int r)) (mk X) σ2) (126, [(0, .ref 38), (1, .int x1), (2, .int x2), (3, .int x3), (5, .int x5)], [.int (gI σ 41 x5.toNatClampNeg)], mk X, σ)
        refine Ex.blk 1000 rfl ?_
        show Ex mr_X10_step sc (Cl MT pr sc (d + 2)) (rtE (some (.int r)) (mk X) σ2) (136, [(0, .ref 38), (1, .int x1), (2, .int x2), (3, .int x3), (5, .int x5)], [.int (gI σ 41 x5.toNatClampNeg)], mk X, σ)
        refine Ex.pick (lv' := _) [] rfl ?_
        exact lk_X10_step_136 d _ _ h
      · refine And.intro (fun _ => ?_) (fun hn => absurd c5 hn)
        show Ex mr_X10_step sc (Cl MT pr sc (d + 2)) (rtE (some (.int r)) (mk X) σ2) (129, [(0, .ref 38), (1, .int x1), (2, .int x2), (3, .int x3), (5, .int x5)], [], mk X, σ)
        refine Ex.blk 4 rfl ?_
        obtain ⟨g7, h⟩ := gd_some h
        refine And.intro (inb_ok g7) ?_
        show Ex mr_X10_step sc (Cl MT pr sc (d + 2)) (rtE (some (.int r)) (mk X) σ2) (136, [(0, .ref 38), (1, .int x1), (2, .int x2), (3, .int x3), (5, .int x5)], [.int (gI σ 42 x5.toNatClampNeg)], mk X, σ)
        refine Ex.pick (lv' := _) [] rfl ?_
        exact lk_X10_step_136 d _ _ h
theorem lk_X10_step_68 {pr : Ct} {sc : Nat × (Nat → Int32)} {X : En} (d : Nat) {r : Int32} {σ2 : St} (x1 : Int32) (x2 : Int32) (x3 : Int32) (x4 : Int32) (y0 : Int32) (σ : St) (h : f_X10_step_68 x1 x2 x3 x4 y0 σ = some (r, σ2)) : Ex mr_X10_step sc (Cl MT pr sc (d + 2)) (rtE (some (.int r)) (mk X) σ2) (68, [(0, .ref 38), (1, .int x1), (2, .int x2), (3, .int x3), (4, .int x4)], [.int y0, .ref 38], mk X, σ) := by
  unfold f_X10_step_68 at h
  refine Ex.blk 1000 rfl ?_
  rcases ite_sp h with ⟨c1, h⟩ | ⟨c1, h⟩
  · refine And.intro (fun hp => absurd c1 hp) (fun _ => ?_)
    show Ex mr_X10_step sc (Cl MT pr sc (d + 2)) (rtE (some (.int r)) (mk X) σ2) (76, [(0, .ref 38), (1, .int x1), (2, .int x2), (3, .int x3), (4, .int x4)], [], mk X, (sI σ 38 0 y0))
    refine Ex.blk 1000 rfl ?_
    cases h
    exact And.intro trivial ⟨rfl, rfl, rfl⟩
  · refine And.intro (fun _ => ?_) (fun hn => absurd c1 hn)
    show Ex mr_X10_step sc (Cl MT pr sc (d + 2)) (rtE (some (.int r)) (mk X) σ2) (78, [(0, .ref 38), (1, .int x1), (2, .int x2), (3, .int x3), (4, .int x4)], [], mk X, (sI σ 38 0 y0))
    refine Ex.blk 5 rfl ?_
    show Ex mr_X10_step sc (Cl MT pr sc (d + 2)) (rtE (some (.int r)) (mk X) σ2) (84, [(0, .ref 38), (1, .int x1), (2, .int x2), (3, .int x3), (4, .int x4)], [.int ((12 * x1) + x2)], mk X, (sI σ 38 0 y0))
    refine Ex.blk 1 rfl ?_
    show Ex mr_X10_step sc (Cl MT pr sc (d + 2)) (rtE (some (.int r)) (mk X) σ2) (86, [(5, .int ((12 * x1) + x2)), (0, .ref 38), (1, .int x1), (2, .int x2), (3, .int x3), (4, .int x4)], [], mk X, (sI σ 38 0 y0))
    refine Ex.pick (lv' := _) [1, 2, 3, 4, 0] rfl ?_
    exact lk_X10_step_86 d _ _ _ _ _ h
theorem lk_X10_step_55 {pr : Ct} {sc : Nat × (Nat → Int32)} {X : En} (d : Nat) {r : Int32} {σ2 : St} (x1 : Int32) (x2 : Int32) (x3 : Int32) (y0 : Int32) (σ : St) (h : f_X10_step_55 x1 x2 x3 y0 σ = some (r, σ2)) : Ex mr_X10_step sc (Cl MT pr sc (d + 2)) (rtE (some (.int r)) (mk X) σ2) (55, [(0, .ref 38), (1, .int x1), (2, .int x2), (3, .int x3)], [.int y0], mk X, σ) := by
  unfold f_X10_step_55 at h
  refine Ex.blk 1000 rfl ?_
  rcases ite_sp h with ⟨c1, h⟩ | ⟨c1, h⟩
  · refine And.intro (fun _ => ?_) (fun hn => absurd c1 hn)
    show Ex mr_X10_step sc (Cl MT pr sc (d + 2)) (rtE (some (.int r)) (mk X) σ2) (67, [(4, .int y0), (0, .ref 38), (1, .int x1), (2, .int x2), (3, .int x3)], [.ref 38], mk X, σ)
    refine Ex.blk 1000 rfl ?_
    show Ex mr_X10_step sc (Cl MT pr sc (d + 2)) (rtE (some (.int r)) (mk X) σ2) (68, [(4, .int y0), (0, .ref 38), (1, .int x1), (2, .int x2), (3, .int x3)], [.int 1, .ref 38], mk X, σ)
    refine Ex.pick (lv' := _) [1, 2, 3, 4, 0] rfl ?_
    exact lk_X10_step_68 d _ _ _ _ _ _ h
  · refine And.intro (fun hp => absurd hp c1) (fun _ => ?_)
    show Ex mr_X10_step sc (Cl MT pr sc (d + 2)) (rtE (some (.int r)) (mk X) σ2) (63, [(4, .int y0), (0, .ref 38), (1, .int x1), (2, .int x2), (3, .int x3)], [.ref 38], mk X, σ)
    refine Ex.blk 1000 rfl ?_
    show Ex mr_X10_step sc (Cl MT pr sc (d + 2)) (rtE (some (.int r)) (mk X) σ2) (68, [(4, .int y0), (0, .ref 38), (1, .int x1), (2, .int x2), (3, .int x3)], [.int 0, .ref 38], mk X, σ)
    refine Ex.pick (lv' := _) [1, 2, 3, 4, 0] rfl ?_
    exact lk_X10_step_68 d _ _ _ _ _ _ h
theorem lk_X10_step_54 {pr : Ct} {sc : Nat × (Nat → Int32)} {X : En} (d : Nat) {r : Int32} {σ2 : St} (x1 : Int32) (x2 : Int32) (x3 : Int32) (σ : St) (h : f_X10_step_54 x1 x2 x3 σ = some (r, σ2)) : Ex mr_X10_step sc (Cl MT pr sc (d + 2)) (rtE (some (.int r)) (mk X) σ2) (54, [(0, .ref 38), (1, .int x1), (2, .int x2), (3, .int x3)], [], mk X, σ) := by
  unfold f_X10_step_54 at h
  refine Ex.blk 1000 rfl ?_
  show Ex mr_X10_step sc (Cl MT pr sc (d + 2)) (rtE (some (.int r)) (mk X) σ2) (55, [(0, .ref 38), (1, .int x1), (2, .int x2), (3, .int x3)], [.int 0], mk X, σ)
  exact lk_X10_step_55 d _ _ _ _ _ h
theorem lk_X10_step_50 {pr : Ct} {sc : Nat × (Nat → Int32)} {X : En} (d : Nat) {r : Int32} {σ2 : St} (x1 : Int32) (x2 : Int32) (x3 : Int32) (σ : St) (h : f_X10_step_50 x1 x2 x3 σ = some (r, σ2)) : Ex mr_X10_step sc (Cl MT pr sc (d + 2)) (rtE (some (.int r)) (mk X) σ2) (50, [(0, .ref 38), (1, .int x1), (2, .int x2), (3, .int x3)], [], mk X, σ) := by
  unfold f_X10_step_50 at h
  refine Ex.blk 1000 rfl ?_
  show Ex mr_X10_step sc (Cl MT pr sc (d + 2)) (rtE (some (.int r)) (mk X) σ2) (55, [(0, .ref 38), (1, .int x1), (2, .int x2), (3, .int x3)], [.int 1], mk X, σ)
  exact lk_X10_step_55 d _ _ _ _ _ h
theorem cl_X10_step {pr : Ct} {sc : Nat × (Nat → Int32)} {X : En} (d : Nat) {r : Int32} {σ2 : St} {x1 : Int32} {x2 : Int32} {x3 : Int32} {σ : St} (h : f_X10_step x1 x2 x3 σ = some (r, σ2)) : Cl MT pr sc (d + 2 + 1) 165 [.ref 38, .int x1, .int x2, .int x3] (mk X) σ (some (.int r)) (mk X) σ2 := by
  refine cl_of mr_X10_step rfl rfl ?_
  unfold f_X10_step at h
  refine Ex.blk 3 rfl ?_
  obtain ⟨p1, hp1, h⟩ := bind_sp h
  refine Exists.intro (some (.int p1.1)) (Exists.intro (mk X) (Exists.intro p1.2 (And.intro (cl_X10_isSum (d + 0) hp1) ?_)))
  show Ex mr_X10_step sc (Cl MT pr sc (d + 2)) (rtE (some (.int r)) (mk X) σ2) (5, [(0, .ref 38), (1, .int x1), (2, .int x2), (3, .int x3)], [.int p1.1], mk X, p1.2)
  refine Ex.blk 1000 rfl ?_
  rcases ite_sp h with ⟨c1, h⟩ | ⟨c1, h⟩
  · refine And.intro (fun _ => ?_) (fun hn => absurd c1 hn)
    show Ex mr_X10_step sc (Cl MT pr sc (d + 2)) (rtE (some (.int r)) (mk X) σ2) (54, [(0, .ref 38), (1, .int x1), (2, .int x2), (3, .int x3)], [], mk X, p1.2)
    exact lk_X10_step_54 d _ _ _ _ h
  · refine And.intro (fun hp => absurd hp c1) (fun _ => ?_)
    show Ex mr_X10_step sc (Cl MT pr sc (d + 2)) (rtE (some (.int r)) (mk X) σ2) (8, [(0, .ref 38), (1, .int x1), (2, .int x2), (3, .int x3)], [], mk X, p1.2)
    refine Ex.blk 1000 rfl ?_
    rcases ite_sp h with ⟨c2, h⟩ | ⟨c2, h⟩
    · refine And.intro (fun hp => absurd c2 hp) (fun _ => ?_)
      show Ex mr_X10_step sc (Cl MT pr sc (d + 2)) (rtE (some (.int r)) (mk X) σ2) (13, [(0, .ref 38), (1, .int x1), (2, .int x2), (3, .int x3)], [], mk X, p1.2)
      refine Ex.blk 1000 rfl ?_
      rcases ite_sp h with ⟨c3, h⟩ | ⟨c3, h⟩
      · refine And.intro (fun hp => absurd c3 hp) (fun _ => ?_)
        show Ex mr_X10_step sc (Cl MT pr sc (d + 2)) (rtE (some (.int r)) (mk X) σ2) (17, [(0, .ref 38), (1, .int x1), (2, .int x2), (3, .int x3)], [], mk X, p1.2)
        refine Ex.blk 1000 rfl ?_
        show Ex mr_X10_step sc (Cl MT pr sc (d + 2)) (rtE (some (.int r)) (mk X) σ2) (50, [(0, .ref 38), (1, .int x1), (2, .int x2), (3, .int x3)], [], mk X, p1.2)
        exact lk_X10_step_50 d _ _ _ _ h
      · refine And.intro (fun _ => ?_) (fun hn => absurd c3 hn)
        show Ex mr_X10_step sc (Cl MT pr sc (d + 2)) (rtE (some (.int r)) (mk X) σ2) (54, [(0, .ref 38), (1, .int x1), (2, .int x2), (3, .int x3)], [], mk X, p1.2)
        exact lk_X10_step_54 d _ _ _ _ h
    · refine And.intro (fun _ => ?_) (fun hn => absurd c2 hn)
      show Ex mr_X10_step sc (Cl MT pr sc (d + 2)) (rtE (some (.int r)) (mk X) σ2) (20, [(0, .ref 38), (1, .int x1), (2, .int x2), (3, .int x3)], [], mk X, p1.2)
      refine Ex.blk 5 rfl ?_
      show Ex mr_X10_step sc (Cl MT pr sc (d + 2)) (rtE (some (.int r)) (mk X) σ2) (27, [(0, .ref 38), (1, .int x1), (2, .int x2), (3, .int x3)], [.ref 43, .long 0, .long x2.toInt64], mk X, p1.2)
      refine Ex.blk 2 rfl ?_
      obtain ⟨g4, h⟩ := gd_some h
      refine And.intro (inb_ok g4) ?_
      show Ex mr_X10_step sc (Cl MT pr sc (d + 2)) (rtE (some (.int r)) (mk X) σ2) (29, [(0, .ref 38), (1, .int x1), (2, .int x2), (3, .int x3)], [.int (gI p1.2 43 x1.toNatClampNeg), .long 0, .long x2.toInt64], mk X, p1.2)
      refine Ex.blk 4 rfl ?_
      obtain ⟨p2, hp2, h⟩ := bind_sp h
      refine Exists.intro (some (.int p2.1)) (Exists.intro (mk X) (Exists.intro p2.2 (And.intro (cl_X10_in (d + 1) hp2) ?_)))
      show Ex mr_X10_step sc (Cl MT pr sc (d + 2)) (rtE (some (.int r)) (mk X) σ2) (35, [(0, .ref 38), (1, .int x1), (2, .int x2), (3, .int x3)], [.int p2.1], mk X, p2.2)
      refine Ex.blk 1000 rfl ?_
      rcases ite_sp h with ⟨c5, h⟩ | ⟨c5, h⟩
      · refine And.intro (fun _ => ?_) (fun hn => absurd c5 hn)
        show Ex mr_X10_step sc (Cl MT pr sc (d + 2)) (rtE (some (.int r)) (mk X) σ2) (54, [(0, .ref 38), (1, .int x1), (2, .int x2), (3, .int x3)], [], mk X, p2.2)
        exact lk_X10_step_54 d _ _ _ _ h
      · refine And.intro (fun hp => absurd hp c5) (fun _ => ?_)
        show Ex mr_X10_step sc (Cl MT pr sc (d + 2)) (rtE (some (.int r)) (mk X) σ2) (38, [(0, .ref 38), (1, .int x1), (2, .int x2), (3, .int x3)], [], mk X, p2.2)
        refine Ex.blk 5 rfl ?_
        obtain ⟨p3, hp3, h⟩ := bind_sp h
        refine Exists.intro (some (.int p3.1)) (Exists.intro (mk X) (Exists.intro p3.2 (And.intro (cl_X10_in (d + 1) hp3) ?_)))
        show Ex mr_X10_step sc (Cl MT pr sc (d + 2)) (rtE (some (.int r)) (mk X) σ2) (47, [(0, .ref 38), (1, .int x1), (2, .int x2), (3, .int x3)], [.int p3.1], mk X, p3.2)
        refine Ex.blk 1000 rfl ?_
        rcases ite_sp h with ⟨c6, h⟩ | ⟨c6, h⟩
        · refine And.intro (fun _ => ?_) (fun hn => absurd c6 hn)
          show Ex mr_X10_step sc (Cl MT pr sc (d + 2)) (rtE (some (.int r)) (mk X) σ2) (54, [(0, .ref 38), (1, .int x1), (2, .int x2), (3, .int x3)], [], mk X, p3.2)
          exact lk_X10_step_54 d _ _ _ _ h
        · refine And.intro (fun hp => absurd hp c6) (fun _ => ?_)
          show Ex mr_X10_step sc (Cl MT pr sc (d + 2)) (rtE (some (.int r)) (mk X) σ2) (50, [(0, .ref 38), (1, .int x1), (2, .int x2), (3, .int x3)], [], mk X, p3.2)
          exact lk_X10_step_50 d _ _ _ _ h
theorem lk_X10_set_41 {pr : Ct} {sc : Nat × (Nat → Int32)} {X : En} (d : Nat) {r : Int32} {σ2 : St} (σ : St) (h : f_X10_set_41 σ = some (r, σ2)) : Ex mr_X10_set sc (Cl MT pr sc (d + 1)) (rtE (some (.int r)) (mk X) σ2) (41, [], [], mk X, σ) := by
  unfold f_X10_set_41 at h
  refine Ex.blk 1000 rfl ?_
  cases h
  exact And.intro isb_0 ⟨rfl, rfl, rfl⟩
theorem lk_X10_set_107 {pr : Ct} {sc : Nat × (Nat → Int32)} {X : En} (d : Nat) {r : Int32} {σ2 : St} (y0 : Int32) (σ : St) (h : f_X10_set_107 y0 σ = some (r, σ2)) : Ex mr_X10_set sc (Cl MT pr sc (d + 1)) (rtE (some (.int r)) (mk X) σ2) (107, [], [.int y0, .ref 38], mk X, σ) := by
  unfold f_X10_set_107 at h
  refine Ex.blk 1000 rfl ?_
  cases h
  exact And.intro isb_1 ⟨rfl, rfl, rfl⟩
theorem lk_X10_set_90 {pr : Ct} {sc : Nat × (Nat → Int32)} {X : En} (d : Nat) {r : Int32} {σ2 : St} (x1 : Int32) (x2 : Int32) (y0 : Int32) (σ : St) (h : f_X10_set_90 x1 x2 y0 σ = some (r, σ2)) : Ex mr_X10_set sc (Cl MT pr sc (d + 1)) (rtE (some (.int r)) (mk X) σ2) (90, [(0, .ref 38), (1, .int x1), (2, .int x2)], [.int y0, .ref 38], mk X, σ) := by
  unfold f_X10_set_90 at h
  refine Ex.blk 1000 rfl ?_
  rcases ite_sp h with ⟨c1, h⟩ | ⟨c1, h⟩
  · refine And.intro (fun hp => absurd c1 hp) (fun _ => ?_)
    show Ex mr_X10_set sc (Cl MT pr sc (d + 1)) (rtE (some (.int r)) (mk X) σ2) (99, [(0, .ref 38), (1, .int x1), (2, .int x2)], [.ref 38], mk X, (sI σ 38 13 y0))
    refine Ex.blk 1000 rfl ?_
    show Ex mr_X10_set sc (Cl MT pr sc (d + 1)) (rtE (some (.int r)) (mk X) σ2) (107, [(0, .ref 38), (1, .int x1), (2, .int x2)], [.int x2, .ref 38], mk X, (sI σ 38 13 y0))
    refine Ex.pick (lv' := _) [] rfl ?_
    exact lk_X10_set_107 d _ _ h
  · refine And.intro (fun _ => ?_) (fun hn => absurd c1 hn)
    show Ex mr_X10_set sc (Cl MT pr sc (d + 1)) (rtE (some (.int r)) (mk X) σ2) (103, [(0, .ref 38), (1, .int x1), (2, .int x2)], [.ref 38], mk X, (sI σ 38 13 y0))
    refine Ex.blk 1000 rfl ?_
    show Ex mr_X10_set sc (Cl MT pr sc (d + 1)) (rtE (some (.int r)) (mk X) σ2) (107, [(0, .ref 38), (1, .int x1), (2, .int x2)], [.int (gI (sI σ 38 13 y0) 38 14), .ref 38], mk X, (sI σ 38 13 y0))
    refine Ex.pick (lv' := _) [] rfl ?_
    exact lk_X10_set_107 d _ _ h
theorem lk_X10_set_73 {pr : Ct} {sc : Nat × (Nat → Int32)} {X : En} (d : Nat) {r : Int32} {σ2 : St} (x1 : Int32) (x2 : Int32) (y0 : Int32) (σ : St) (h : f_X10_set_73 x1 x2 y0 σ = some (r, σ2)) : Ex mr_X10_set sc (Cl MT pr sc (d + 1)) (rtE (some (.int r)) (mk X) σ2) (73, [(0, .ref 38), (1, .int x1), (2, .int x2)], [.int y0, .ref 38], mk X, σ) := by
  unfold f_X10_set_73 at h
  refine Ex.blk 1000 rfl ?_
  rcases ite_sp h with ⟨c1, h⟩ | ⟨c1, h⟩
  · refine And.intro (fun hp => absurd c1 hp) (fun _ => ?_)
    show Ex mr_X10_set sc (Cl MT pr sc (d + 1)) (rtE (some (.int r)) (mk X) σ2) (82, [(0, .ref 38), (1, .int x1), (2, .int x2)], [.ref 38], mk X, (sI σ 38 12 y0))
    refine Ex.blk 1000 rfl ?_
    show Ex mr_X10_set sc (Cl MT pr sc (d + 1)) (rtE (some (.int r)) (mk X) σ2) (90, [(0, .ref 38), (1, .int x1), (2, .int x2)], [.int x2, .ref 38], mk X, (sI σ 38 12 y0))
    exact lk_X10_set_90 d _ _ _ _ h
  · refine And.intro (fun _ => ?_) (fun hn => absurd c1 hn)
    show Ex mr_X10_set sc (Cl MT pr sc (d + 1)) (rtE (some (.int r)) (mk X) σ2) (86, [(0, .ref 38), (1, .int x1), (2, .int x2)], [.ref 38], mk X, (sI σ 38 12 y0))
    refine Ex.blk 1000 rfl ?_
    show Ex mr_X10_set sc (Cl MT pr sc (d + 1)) (rtE (some (.int r)) (mk X) σ2) (90, [(0, .ref 38), (1, .int x1), (2, .int x2)], [.int (gI (sI σ 38 12 y0) 38 13), .ref 38], mk X, (sI σ 38 12 y0))
    exact lk_X10_set_90 d _ _ _ _ h
theorem lk_X10_set_56 {pr : Ct} {sc : Nat × (Nat → Int32)} {X : En} (d : Nat) {r : Int32} {σ2 : St} (x1 : Int32) (x2 : Int32) (y0 : Int32) (σ : St) (h : f_X10_set_56 x1 x2 y0 σ = some (r, σ2)) : Ex mr_X10_set sc (Cl MT pr sc (d + 1)) (rtE (some (.int r)) (mk X) σ2) (56, [(0, .ref 38), (1, .int x1), (2, .int x2)], [.int y0, .ref 38], mk X, σ) := by
  unfold f_X10_set_56 at h
  refine Ex.blk 1000 rfl ?_
  rcases ite_sp h with ⟨c1, h⟩ | ⟨c1, h⟩
  · refine And.intro (fun hp => absurd c1 hp) (fun _ => ?_)
    show Ex mr_X10_set sc (Cl MT pr sc (d + 1)) (rtE (some (.int r)) (mk X) σ2) (65, [(0, .ref 38), (1, .int x1), (2, .int x2)], [.ref 38], mk X, (sI σ 38 11 y0))
    refine Ex.blk 1000 rfl ?_
    show Ex mr_X10_set sc (Cl MT pr sc (d + 1)) (rtE (some (.int r)) (mk X) σ2) (73, [(0, .ref 38), (1, .int x1), (2, .int x2)], [.int x2, .ref 38], mk X, (sI σ 38 11 y0))
    exact lk_X10_set_73 d _ _ _ _ h
  · refine And.intro (fun _ => ?_) (fun hn => absurd c1 hn)
    show Ex mr_X10_set sc (Cl MT pr sc (d + 1)) (rtE (some (.int r)) (mk X) σ2) (69, [(0, .ref 38), (1, .int x1), (2, .int x2)], [.ref 38], mk X, (sI σ 38 11 y0))
    refine Ex.blk 1000 rfl ?_
    show Ex mr_X10_set sc (Cl MT pr sc (d + 1)) (rtE (some (.int r)) (mk X) σ2) (73, [(0, .ref 38), (1, .int x1), (2, .int x2)], [.int (gI (sI σ 38 11 y0) 38 12), .ref 38], mk X, (sI σ 38 11 y0))
    exact lk_X10_set_73 d _ _ _ _ h
theorem lk_X10_set_35 {pr : Ct} {sc : Nat × (Nat → Int32)} {X : En} (d : Nat) {r : Int32} {σ2 : St} (x1 : Int32) (x2 : Int32) (y0 : Int64) (y1 : Int64) (y2 : Int64) (σ : St) (h : f_X10_set_35 x1 x2 y0 y1 y2 σ = some (r, σ2)) : Ex mr_X10_set sc (Cl MT pr sc (d + 1)) (rtE (some (.int r)) (mk X) σ2) (35, [(0, .ref 38), (1, .int x1), (2, .int x2)], [.long y0, .long y1, .long y2], mk X, σ) := by
  unfold f_X10_set_35 at h
  refine Ex.blk 1 rfl ?_
  obtain ⟨p2, hp2, h⟩ := bind_sp h
  refine Exists.intro (some (.int p2.1)) (Exists.intro (mk X) (Exists.intro p2.2 (And.intro (cl_X10_in (d + 0) hp2) ?_)))
  show Ex mr_X10_set sc (Cl MT pr sc (d + 1)) (rtE (some (.int r)) (mk X) σ2) (38, [(0, .ref 38), (1, .int x1), (2, .int x2)], [.int p2.1], mk X, p2.2)
  refine Ex.blk 1000 rfl ?_
  rcases ite_sp h with ⟨c1, h⟩ | ⟨c1, h⟩
  · refine And.intro (fun hp => absurd c1 hp) (fun _ => ?_)
    show Ex mr_X10_set sc (Cl MT pr sc (d + 1)) (rtE (some (.int r)) (mk X) σ2) (41, [(0, .ref 38), (1, .int x1), (2, .int x2)], [], mk X, p2.2)
    refine Ex.pick (lv' := _) [] rfl ?_
    exact lk_X10_set_41 d _ h
  · refine And.intro (fun _ => ?_) (fun hn => absurd c1 hn)
    show Ex mr_X10_set sc (Cl MT pr sc (d + 1)) (rtE (some (.int r)) (mk X) σ2) (43, [(0, .ref 38), (1, .int x1), (2, .int x2)], [], mk X, p2.2)
    refine Ex.blk 1000 rfl ?_
    rcases ite_sp h with ⟨c2, h⟩ | ⟨c2, h⟩
    · refine And.intro (fun hp => absurd c2 hp) (fun _ => ?_)
      show Ex mr_X10_set sc (Cl MT pr sc (d + 1)) (rtE (some (.int r)) (mk X) σ2) (48, [(0, .ref 38), (1, .int x1), (2, .int x2)], [.ref 38], mk X, p2.2)
      refine Ex.blk 1000 rfl ?_
      show Ex mr_X10_set sc (Cl MT pr sc (d + 1)) (rtE (some (.int r)) (mk X) σ2) (56, [(0, .ref 38), (1, .int x1), (2, .int x2)], [.int x2, .ref 38], mk X, p2.2)
      exact lk_X10_set_56 d _ _ _ _ h
    · refine And.intro (fun _ => ?_) (fun hn => absurd c2 hn)
      show Ex mr_X10_set sc (Cl MT pr sc (d + 1)) (rtE (some (.int r)) (mk X) σ2) (52, [(0, .ref 38), (1, .int x1), (2, .int x2)], [.ref 38], mk X, p2.2)
      refine Ex.blk 1000 rfl ?_
      show Ex mr_X10_set sc (Cl MT pr sc (d + 1)) (rtE (some (.int r)) (mk X) σ2) (56, [(0, .ref 38), (1, .int x1), (2, .int x2)], [.int (gI p2.2 38 11), .ref 38], mk X, p2.2)
      exact lk_X10_set_56 d _ _ _ _ h
theorem lk_X10_set_24 {pr : Ct} {sc : Nat × (Nat → Int32)} {X : En} (d : Nat) {r : Int32} {σ2 : St} (x1 : Int32) (x2 : Int32) (y0 : Int64) (y1 : Int64) (σ : St) (h : f_X10_set_24 x1 x2 y0 y1 σ = some (r, σ2)) : Ex mr_X10_set sc (Cl MT pr sc (d + 1)) (rtE (some (.int r)) (mk X) σ2) (24, [(0, .ref 38), (1, .int x1), (2, .int x2)], [.long y0, .long y1], mk X, σ) := by
  unfold f_X10_set_24 at h
  refine Ex.blk 1000 rfl ?_
  rcases ite_sp h with ⟨c1, h⟩ | ⟨c1, h⟩
  · refine And.intro (fun hp => absurd c1 hp) (fun _ => ?_)
    show Ex mr_X10_set sc (Cl MT pr sc (d + 1)) (rtE (some (.int r)) (mk X) σ2) (28, [(0, .ref 38), (1, .int x1), (2, .int x2)], [.long y0, .long y1], mk X, σ)
    refine Ex.blk 1000 rfl ?_
    show Ex mr_X10_set sc (Cl MT pr sc (d + 1)) (rtE (some (.int r)) (mk X) σ2) (35, [(0, .ref 38), (1, .int x1), (2, .int x2)], [.long 1, .long y0, .long y1], mk X, σ)
    exact lk_X10_set_35 d _ _ _ _ _ _ h
  · refine And.intro (fun _ => ?_) (fun hn => absurd c1 hn)
    show Ex mr_X10_set sc (Cl MT pr sc (d + 1)) (rtE (some (.int r)) (mk X) σ2) (32, [(0, .ref 38), (1, .int x1), (2, .int x2)], [.long y0, .long y1], mk X, σ)
    refine Ex.blk 1000 rfl ?_
    show Ex mr_X10_set sc (Cl MT pr sc (d + 1)) (rtE (some (.int r)) (mk X) σ2) (35, [(0, .ref 38), (1, .int x1), (2, .int x2)], [.long 9, .long y0, .long y1], mk X, σ)
    exact lk_X10_set_35 d _ _ _ _ _ _ h
theorem cl_X10_set {pr : Ct} {sc : Nat × (Nat → Int32)} {X : En} (d : Nat) {r : Int32} {σ2 : St} {x1 : Int32} {x2 : Int32} {σ : St} (h : f_X10_set x1 x2 σ = some (r, σ2)) : Cl MT pr sc (d + 1 + 1) 166 [.ref 38, .int x1, .int x2] (mk X) σ (some (.int r)) (mk X) σ2 := by
  refine cl_of mr_X10_set rfl rfl ?_
  unfold f_X10_set at h
  refine Ex.blk 5 rfl ?_
  obtain ⟨p1, hp1, h⟩ := bind_sp h
  refine Exists.intro (some (.int p1.1)) (Exists.intro (mk X) (Exists.intro p1.2 (And.intro (cl_X10_in (d + 0) hp1) ?_)))
  show Ex mr_X10_set sc (Cl MT pr sc (d + 1)) (rtE (some (.int r)) (mk X) σ2) (9, [(0, .ref 38), (1, .int x1), (2, .int x2)], [.int p1.1], mk X, p1.2)
  refine Ex.blk 1000 rfl ?_
  rcases ite_sp h with ⟨c1, h⟩ | ⟨c1, h⟩
  · refine And.intro (fun _ => ?_) (fun hn => absurd c1 hn)
    show Ex mr_X10_set sc (Cl MT pr sc (d + 1)) (rtE (some (.int r)) (mk X) σ2) (41, [(0, .ref 38), (1, .int x1), (2, .int x2)], [], mk X, p1.2)
    refine Ex.pick (lv' := _) [] rfl ?_
    exact lk_X10_set_41 d _ h
  · refine And.intro (fun hp => absurd hp c1) (fun _ => ?_)
    show Ex mr_X10_set sc (Cl MT pr sc (d + 1)) (rtE (some (.int r)) (mk X) σ2) (12, [(0, .ref 38), (1, .int x1), (2, .int x2)], [], mk X, p1.2)
    refine Ex.blk 1000 rfl ?_
    rcases ite_sp h with ⟨c2, h⟩ | ⟨c2, h⟩
    · refine And.intro (fun hp => absurd c2 hp) (fun _ => ?_)
      show Ex mr_X10_set sc (Cl MT pr sc (d + 1)) (rtE (some (.int r)) (mk X) σ2) (19, [(0, .ref 38), (1, .int x1), (2, .int x2)], [.long x2.toInt64], mk X, p1.2)
      refine Ex.blk 1000 rfl ?_
      show Ex mr_X10_set sc (Cl MT pr sc (d + 1)) (rtE (some (.int r)) (mk X) σ2) (24, [(0, .ref 38), (1, .int x1), (2, .int x2)], [.long 1, .long x2.toInt64], mk X, p1.2)
      exact lk_X10_set_24 d _ _ _ _ _ h
    · refine And.intro (fun _ => ?_) (fun hn => absurd c2 hn)
      show Ex mr_X10_set sc (Cl MT pr sc (d + 1)) (rtE (some (.int r)) (mk X) σ2) (23, [(0, .ref 38), (1, .int x1), (2, .int x2)], [.long x2.toInt64], mk X, p1.2)
      refine Ex.blk 1000 rfl ?_
      show Ex mr_X10_set sc (Cl MT pr sc (d + 1)) (rtE (some (.int r)) (mk X) σ2) (24, [(0, .ref 38), (1, .int x1), (2, .int x2)], [.long 0, .long x2.toInt64], mk X, p1.2)
      exact lk_X10_set_24 d _ _ _ _ _ h
theorem cl_X10_isRope {pr : Ct} {sc : Nat × (Nat → Int32)} {X : En} (d : Nat) {r : Int32} {σ2 : St} {x1 : Int32} {σ : St} (h : f_X10_isRope x1 σ = some (r, σ2)) : Cl MT pr sc (d + 1 + 1) 167 [.ref 38, .int x1] (mk X) σ (some (.int r)) (mk X) σ2 := by
  refine cl_of mr_X10_isRope rfl rfl ?_
  unfold f_X10_isRope at h
  refine Ex.blk 5 rfl ?_
  show Ex mr_X10_isRope sc (Cl MT pr sc (d + 1)) (rtE (some (.int r)) (mk X) σ2) (7, [(0, .ref 38), (1, .int x1)], [.int (gI σ 38 1), .long 0, .long x1.toInt64], mk X, σ)
  refine Ex.blk 4 rfl ?_
  obtain ⟨p1, hp1, h⟩ := bind_sp h
  refine Exists.intro (some (.int p1.1)) (Exists.intro (mk X) (Exists.intro p1.2 (And.intro (cl_X10_in (d + 0) hp1) ?_)))
  show Ex mr_X10_isRope sc (Cl MT pr sc (d + 1)) (rtE (some (.int r)) (mk X) σ2) (13, [(0, .ref 38), (1, .int x1)], [.int p1.1], mk X, p1.2)
  refine Ex.blk 1000 rfl ?_
  obtain ⟨g1, h⟩ := gd_some h
  cases h
  exact And.intro (isbb_ok g1) ⟨rfl, rfl, rfl⟩
theorem lk_X10_goats_32 {pr : Ct} {sc : Nat × (Nat → Int32)} {X : En} (d : Nat) {r : Int32} {σ2 : St} (σ : St) (h : f_X10_goats_32 σ = some (r, σ2)) : Ex mr_X10_goats sc (Cl MT pr sc (d + 2)) (rtE (some (.int r)) (mk X) σ2) (32, [], [], mk X, σ) := by
  unfold f_X10_goats_32 at h
  refine Ex.blk 1000 rfl ?_
  cases h
  exact And.intro isb_0 ⟨rfl, rfl, rfl⟩
theorem cl_X10_goats {pr : Ct} {sc : Nat × (Nat → Int32)} {X : En} (d : Nat) {r : Int32} {σ2 : St} {x1 : Int32} {x2 : Int32} {σ : St} (h : f_X10_goats x1 x2 σ = some (r, σ2)) : Cl MT pr sc (d + 2 + 1) 168 [.ref 38, .int x1, .int x2] (mk X) σ (some (.int r)) (mk X) σ2 := by
  refine cl_of mr_X10_goats rfl rfl ?_
  unfold f_X10_goats at h
  refine Ex.blk 3 rfl ?_
  obtain ⟨p1, hp1, h⟩ := bind_sp h
  refine Exists.intro (some (.int p1.1)) (Exists.intro (mk X) (Exists.intro p1.2 (And.intro (cl_X10_isRope (d + 0) hp1) ?_)))
  show Ex mr_X10_goats sc (Cl MT pr sc (d + 2)) (rtE (some (.int r)) (mk X) σ2) (5, [(0, .ref 38), (1, .int x1), (2, .int x2)], [.int p1.1], mk X, p1.2)
  refine Ex.blk 1000 rfl ?_
  rcases ite_sp h with ⟨c1, h⟩ | ⟨c1, h⟩
  · refine And.intro (fun _ => ?_) (fun hn => absurd c1 hn)
    show Ex mr_X10_goats sc (Cl MT pr sc (d + 2)) (rtE (some (.int r)) (mk X) σ2) (32, [(0, .ref 38), (1, .int x1), (2, .int x2)], [], mk X, p1.2)
    refine Ex.pick (lv' := _) [] rfl ?_
    exact lk_X10_goats_32 d _ h
  · refine And.intro (fun hp => absurd hp c1) (fun _ => ?_)
    show Ex mr_X10_goats sc (Cl MT pr sc (d + 2)) (rtE (some (.int r)) (mk X) σ2) (8, [(0, .ref 38), (1, .int x1), (2, .int x2)], [], mk X, p1.2)
    refine Ex.blk 5 rfl ?_
    obtain ⟨p2, hp2, h⟩ := bind_sp h
    refine Exists.intro (some (.int p2.1)) (Exists.intro (mk X) (Exists.intro p2.2 (And.intro (cl_X10_in (d + 1) hp2) ?_)))
    show Ex mr_X10_goats sc (Cl MT pr sc (d + 2)) (rtE (some (.int r)) (mk X) σ2) (17, [(0, .ref 38), (1, .int x1), (2, .int x2)], [.int p2.1], mk X, p2.2)
    refine Ex.blk 1000 rfl ?_
    rcases ite_sp h with ⟨c2, h⟩ | ⟨c2, h⟩
    · refine And.intro (fun _ => ?_) (fun hn => absurd c2 hn)
      show Ex mr_X10_goats sc (Cl MT pr sc (d + 2)) (rtE (some (.int r)) (mk X) σ2) (32, [(0, .ref 38), (1, .int x1), (2, .int x2)], [], mk X, p2.2)
      refine Ex.pick (lv' := _) [] rfl ?_
      exact lk_X10_goats_32 d _ h
    · refine And.intro (fun hp => absurd hp c2) (fun _ => ?_)
      show Ex mr_X10_goats sc (Cl MT pr sc (d + 2)) (rtE (some (.int r)) (mk X) σ2) (20, [(0, .ref 38), (1, .int x1), (2, .int x2)], [], mk X, p2.2)
      refine Ex.blk 5 rfl ?_
      show Ex mr_X10_goats sc (Cl MT pr sc (d + 2)) (rtE (some (.int r)) (mk X) σ2) (27, [(0, .ref 38), (1, .int x1), (2, .int x2)], [.int x1, .int 0, .ref 46, .int x2], mk X, p2.2)
      refine Ex.blk 2 rfl ?_
      obtain ⟨g3, h⟩ := gd_some h
      refine And.intro (inb_ok g3) ?_
      show Ex mr_X10_goats sc (Cl MT pr sc (d + 2)) (rtE (some (.int r)) (mk X) σ2) (29, [(0, .ref 38), (1, .int x1), (2, .int x2)], [.int (gI p2.2 46 (0 + x1).toNatClampNeg), .int x2], mk X, p2.2)
      refine Ex.blk 1000 rfl ?_
      rcases ite_sp h with ⟨c4, h⟩ | ⟨c4, h⟩
      · refine And.intro (fun _ => ?_) (fun hn => absurd c4 hn)
        show Ex mr_X10_goats sc (Cl MT pr sc (d + 2)) (rtE (some (.int r)) (mk X) σ2) (34, [(0, .ref 38), (1, .int x1), (2, .int x2)], [], mk X, p2.2)
        refine Ex.blk 5 rfl ?_
        obtain ⟨g5, h⟩ := gd_some h
        refine And.intro (inb_ok g5) ?_
        show Ex mr_X10_goats sc (Cl MT pr sc (d + 2)) (rtE (some (.int r)) (mk X) σ2) (41, [(0, .ref 38), (1, .int x1), (2, .int x2)], [], mk X, (sI p2.2 44 x1.toNatClampNeg x2))
        refine Ex.blk 1000 rfl ?_
        cases h
        exact And.intro isb_1 ⟨rfl, rfl, rfl⟩
      · refine And.intro (fun hp => absurd hp c4) (fun _ => ?_)
        show Ex mr_X10_goats sc (Cl MT pr sc (d + 2)) (rtE (some (.int r)) (mk X) σ2) (32, [(0, .ref 38), (1, .int x1), (2, .int x2)], [], mk X, p2.2)
        refine Ex.pick (lv' := _) [] rfl ?_
        exact lk_X10_goats_32 d _ h
theorem lk_X10_echo_41 {pr : Ct} {sc : Nat × (Nat → Int32)} {X : En} (d : Nat) {r : Int32} {σ2 : St} (σ : St) (h : f_X10_echo_41 σ = some (r, σ2)) : Ex mr_X10_echo sc (Cl MT pr sc (d + 1)) (rtE (some (.int r)) (mk X) σ2) (41, [], [], mk X, σ) := by
  unfold f_X10_echo_41 at h
  refine Ex.blk 1000 rfl ?_
  cases h
  exact And.intro isb_0 ⟨rfl, rfl, rfl⟩
theorem lk_X10_echo_85 {pr : Ct} {sc : Nat × (Nat → Int32)} {X : En} (d : Nat) {r : Int32} {σ2 : St} (k61 : Int32 → Int32 → Int32 → Int32 → Int32 → St → Option (Int32 × St)) (hk61 : ∀ (x1 : Int32) (x2 : Int32) (x3 : Int32) (x4 : Int32) (x5 : Int32) (σ : St), k61 x1 x2 x3 x4 x5 σ = some (r, σ2) → Ex mr_X10_echo sc (Cl MT pr sc (d + 1)) (rtE (some (.int r)) (mk X) σ2) (61, [(0, .ref 38), (1, .int x1), (2, .int x2), (3, .int x3), (4, .int x4), (5, .int x5)], [], mk X, σ)) (x1 : Int32) (x2 : Int32) (x3 : Int32) (x4 : Int32) (x5 : Int32) (σ : St) (h : f_X10_echo_85 k61 x1 x2 x3 x4 x5 σ = some (r, σ2)) : Ex mr_X10_echo sc (Cl MT pr sc (d + 1)) (rtE (some (.int r)) (mk X) σ2) (85, [(0, .ref 38), (1, .int x1), (2, .int x2), (3, .int x3), (4, .int x4), (5, .int x5)], [], mk X, σ) := by
  unfold f_X10_echo_85 at h
  refine Ex.blk 1000 rfl ?_
  show Ex mr_X10_echo sc (Cl MT pr sc (d + 1)) (rtE (some (.int r)) (mk X) σ2) (61, [(5, .int (x5 + 1)), (0, .ref 38), (1, .int x1), (2, .int x2), (3, .int x3), (4, .int x4)], [], mk X, σ)
  refine Ex.pick (lv' := _) [1, 2, 3, 4, 5, 0] rfl ?_
  exact hk61 _ _ _ _ _ _ h
theorem lk_X10_echo_61 {pr : Ct} {sc : Nat × (Nat → Int32)} {X : En} (d : Nat) {r : Int32} {σ2 : St} : ∀ (n : Nat) (x1 : Int32) (x2 : Int32) (x3 : Int32) (x4 : Int32) (x5 : Int32) (σ : St), f_X10_echo_61 n x1 x2 x3 x4 x5 σ = some (r, σ2) → Ex mr_X10_echo sc (Cl MT pr sc (d + 1)) (rtE (some (.int r)) (mk X) σ2) (61, [(0, .ref 38), (1, .int x1), (2, .int x2), (3, .int x3), (4, .int x4), (5, .int x5)], [], mk X, σ) := by
  intro n
  induction n with
  | zero =>
    intro x1 x2 x3 x4 x5 σ h
    cases h
  | succ n ih =>
    intro x1 x2 x3 x4 x5 σ h
    simp only [f_X10_echo_61] at h
    refine Ex.blk 1000 rfl ?_
    rcases ite_sp h with ⟨c1, h⟩ | ⟨c1, h⟩
    · refine And.intro (fun _ => ?_) (fun hn => absurd c1 hn)
      show Ex mr_X10_echo sc (Cl MT pr sc (d + 1)) (rtE (some (.int r)) (mk X) σ2) (91, [(0, .ref 38), (1, .int x1), (2, .int x2), (3, .int x3), (4, .int x4), (5, .int x5)], [], mk X, σ)
      refine Ex.blk 1000 rfl ?_
      rcases ite_sp h with ⟨c2, h⟩ | ⟨c2, h⟩
      · refine And.intro (fun _ => ?_) (fun hn => absurd c2 hn)
        show Ex mr_X10_echo sc (Cl MT pr sc (d + 1)) (rtE (some (.int r)) (mk X) σ2) (100, [(0, .ref 38), (1, .int x1), (2, .int x2), (3, .int x3), (4, .int x4), (5, .int x5)], [], mk X, σ)
        refine Ex.blk 5 rfl ?_
        show Ex mr_X10_echo sc (Cl MT pr sc (d + 1)) (rtE (some (.int r)) (mk X) σ2) (108, [(0, .ref 38), (1, .int x1), (2, .int x2), (3, .int x3), (4, .int x4), (5, .int x5)], [.int (10 * x1), .ref 45], mk X, σ)
        refine Ex.blk 4 rfl ?_
        obtain ⟨g3, h⟩ := gd_some h
        refine And.intro (inb_ok g3) ?_
        show Ex mr_X10_echo sc (Cl MT pr sc (d + 1)) (rtE (some (.int r)) (mk X) σ2) (112, [(0, .ref 38), (1, .int x1), (2, .int x2), (3, .int x3), (4, .int x4), (5, .int x5)], [], mk X, (sI σ 45 ((10 * x1) + x2).toNatClampNeg x3))
        refine Ex.blk 1000 rfl ?_
        cases h
        exact And.intro isb_1 ⟨rfl, rfl, rfl⟩
      · refine And.intro (fun hp => absurd hp c2) (fun _ => ?_)
        show Ex mr_X10_echo sc (Cl MT pr sc (d + 1)) (rtE (some (.int r)) (mk X) σ2) (98, [(0, .ref 38), (1, .int x1), (2, .int x2), (3, .int x3), (4, .int x4), (5, .int x5)], [], mk X, σ)
        refine Ex.blk 1000 rfl ?_
        cases h
        exact And.intro isb_0 ⟨rfl, rfl, rfl⟩
    · refine And.intro (fun hp => absurd hp c1) (fun _ => ?_)
      show Ex mr_X10_echo sc (Cl MT pr sc (d + 1)) (rtE (some (.int r)) (mk X) σ2) (68, [(0, .ref 38), (1, .int x1), (2, .int x2), (3, .int x3), (4, .int x4), (5, .int x5)], [], mk X, σ)
      refine Ex.blk 5 rfl ?_
      show Ex mr_X10_echo sc (Cl MT pr sc (d + 1)) (rtE (some (.int r)) (mk X) σ2) (77, [(0, .ref 38), (1, .int x1), (2, .int x2), (3, .int x3), (4, .int x4), (5, .int x5)], [.int x1, .int 10, .ref 45, .int x4], mk X, σ)
      refine Ex.blk 4 rfl ?_
      obtain ⟨g4, h⟩ := gd_some h
      refine And.intro (inb_ok g4) ?_
      show Ex mr_X10_echo sc (Cl MT pr sc (d + 1)) (rtE (some (.int r)) (mk X) σ2) (82, [(0, .ref 38), (1, .int x1), (2, .int x2), (3, .int x3), (4, .int x4), (5, .int x5)], [.int (gI σ 45 ((10 * x1) + x5).toNatClampNeg), .int x4], mk X, σ)
      refine Ex.blk 2 rfl ?_
      show Ex mr_X10_echo sc (Cl MT pr sc (d + 1)) (rtE (some (.int r)) (mk X) σ2) (85, [(4, .int (x4 + (gI σ 45 ((10 * x1) + x5).toNatClampNeg))), (0, .ref 38), (1, .int x1), (2, .int x2), (3, .int x3), (5, .int x5)], [], mk X, σ)
      refine Ex.pick (lv' := _) [1, 2, 3, 4, 0, 5] rfl ?_
      exact lk_X10_echo_85 d _ ih _ _ _ _ _ _ h
theorem lk_X10_echo_58 {pr : Ct} {sc : Nat × (Nat → Int32)} {X : En} (d : Nat) {r : Int32} {σ2 : St} (x1 : Int32) (x2 : Int32) (x3 : Int32) (x4 : Int32) (σ : St) (h : f_X10_echo_58 x1 x2 x3 x4 σ = some (r, σ2)) : Ex mr_X10_echo sc (Cl MT pr sc (d + 1)) (rtE (some (.int r)) (mk X) σ2) (58, [(0, .ref 38), (1, .int x1), (2, .int x2), (3, .int x3), (4, .int x4)], [], mk X, σ) := by
  unfold f_X10_echo_58 at h
  refine Ex.blk 1000 rfl ?_
  show Ex mr_X10_echo sc (Cl MT pr sc (d + 1)) (rtE (some (.int r)) (mk X) σ2) (61, [(5, .int 0), (0, .ref 38), (1, .int x1), (2, .int x2), (3, .int x3), (4, .int x4)], [], mk X, σ)
  refine Ex.pick (lv' := _) [1, 2, 3, 4, 5, 0] rfl ?_
  exact lk_X10_echo_61 d FU _ _ _ _ _ _ h
theorem cl_X10_echo {pr : Ct} {sc : Nat × (Nat → Int32)} {X : En} (d : Nat) {r : Int32} {σ2 : St} {x1 : Int32} {x2 : Int32} {x3 : Int32} {σ : St} (h : f_X10_echo x1 x2 x3 σ = some (r, σ2)) : Cl MT pr sc (d + 1 + 1) 169 [.ref 38, .int x1, .int x2, .int x3] (mk X) σ (some (.int r)) (mk X) σ2 := by
  refine cl_of mr_X10_echo rfl rfl ?_
  unfold f_X10_echo at h
  refine Ex.blk 5 rfl ?_
  obtain ⟨p1, hp1, h⟩ := bind_sp h
  refine Exists.intro (some (.int p1.1)) (Exists.intro (mk X) (Exists.intro p1.2 (And.intro (cl_X10_in (d + 0) hp1) ?_)))
  show Ex mr_X10_echo sc (Cl MT pr sc (d + 1)) (rtE (some (.int r)) (mk X) σ2) (9, [(0, .ref 38), (1, .int x1), (2, .int x2), (3, .int x3)], [.int p1.1], mk X, p1.2)
  refine Ex.blk 1000 rfl ?_
  rcases ite_sp h with ⟨c1, h⟩ | ⟨c1, h⟩
  · refine And.intro (fun _ => ?_) (fun hn => absurd c1 hn)
    show Ex mr_X10_echo sc (Cl MT pr sc (d + 1)) (rtE (some (.int r)) (mk X) σ2) (41, [(0, .ref 38), (1, .int x1), (2, .int x2), (3, .int x3)], [], mk X, p1.2)
    refine Ex.pick (lv' := _) [] rfl ?_
    exact lk_X10_echo_41 d _ h
  · refine And.intro (fun hp => absurd hp c1) (fun _ => ?_)
    show Ex mr_X10_echo sc (Cl MT pr sc (d + 1)) (rtE (some (.int r)) (mk X) σ2) (12, [(0, .ref 38), (1, .int x1), (2, .int x2), (3, .int x3)], [], mk X, p1.2)
    refine Ex.blk 5 rfl ?_
    obtain ⟨p2, hp2, h⟩ := bind_sp h
    refine Exists.intro (some (.int p2.1)) (Exists.intro (mk X) (Exists.intro p2.2 (And.intro (cl_X10_in (d + 0) hp2) ?_)))
    show Ex mr_X10_echo sc (Cl MT pr sc (d + 1)) (rtE (some (.int r)) (mk X) σ2) (21, [(0, .ref 38), (1, .int x1), (2, .int x2), (3, .int x3)], [.int p2.1], mk X, p2.2)
    refine Ex.blk 1000 rfl ?_
    rcases ite_sp h with ⟨c2, h⟩ | ⟨c2, h⟩
    · refine And.intro (fun _ => ?_) (fun hn => absurd c2 hn)
      show Ex mr_X10_echo sc (Cl MT pr sc (d + 1)) (rtE (some (.int r)) (mk X) σ2) (41, [(0, .ref 38), (1, .int x1), (2, .int x2), (3, .int x3)], [], mk X, p2.2)
      refine Ex.pick (lv' := _) [] rfl ?_
      exact lk_X10_echo_41 d _ h
    · refine And.intro (fun hp => absurd hp c2) (fun _ => ?_)
      show Ex mr_X10_echo sc (Cl MT pr sc (d + 1)) (rtE (some (.int r)) (mk X) σ2) (24, [(0, .ref 38), (1, .int x1), (2, .int x2), (3, .int x3)], [], mk X, p2.2)
      refine Ex.blk 1000 rfl ?_
      rcases ite_sp h with ⟨c3, h⟩ | ⟨c3, h⟩
      · refine And.intro (fun _ => ?_) (fun hn => absurd c3 hn)
        show Ex mr_X10_echo sc (Cl MT pr sc (d + 1)) (rtE (some (.int r)) (mk X) σ2) (41, [(0, .ref 38), (1, .int x1), (2, .int x2), (3, .int x3)], [], mk X, p2.2)
        refine Ex.pick (lv' := _) [] rfl ?_
        exact lk_X10_echo_41 d _ h
      · refine And.intro (fun hp => absurd hp c3) (fun _ => ?_)
        show Ex mr_X10_echo sc (Cl MT pr sc (d + 1)) (rtE (some (.int r)) (mk X) σ2) (29, [(0, .ref 38), (1, .int x1), (2, .int x2), (3, .int x3)], [], mk X, p2.2)
        refine Ex.blk 5 rfl ?_
        obtain ⟨p3, hp3, h⟩ := bind_sp h
        refine Exists.intro (some (.int p3.1)) (Exists.intro (mk X) (Exists.intro p3.2 (And.intro (cl_X10_in (d + 0) hp3) ?_)))
        show Ex mr_X10_echo sc (Cl MT pr sc (d + 1)) (rtE (some (.int r)) (mk X) σ2) (38, [(0, .ref 38), (1, .int x1), (2, .int x2), (3, .int x3)], [.int p3.1], mk X, p3.2)
        refine Ex.blk 1000 rfl ?_
        rcases ite_sp h with ⟨c4, h⟩ | ⟨c4, h⟩
        · refine And.intro (fun hp => absurd c4 hp) (fun _ => ?_)
          show Ex mr_X10_echo sc (Cl MT pr sc (d + 1)) (rtE (some (.int r)) (mk X) σ2) (41, [(0, .ref 38), (1, .int x1), (2, .int x2), (3, .int x3)], [], mk X, p3.2)
          refine Ex.pick (lv' := _) [] rfl ?_
          exact lk_X10_echo_41 d _ h
        · refine And.intro (fun _ => ?_) (fun hn => absurd c4 hn)
          show Ex mr_X10_echo sc (Cl MT pr sc (d + 1)) (rtE (some (.int r)) (mk X) σ2) (43, [(0, .ref 38), (1, .int x1), (2, .int x2), (3, .int x3)], [], mk X, p3.2)
          refine Ex.blk 5 rfl ?_
          show Ex mr_X10_echo sc (Cl MT pr sc (d + 1)) (rtE (some (.int r)) (mk X) σ2) (51, [(0, .ref 38), (1, .int x1), (2, .int x2), (3, .int x3)], [.int x1, .int 10, .ref 45, .int x3], mk X, p3.2)
          refine Ex.blk 4 rfl ?_
          obtain ⟨g5, h⟩ := gd_some h
          refine And.intro (inb_ok g5) ?_
          show Ex mr_X10_echo sc (Cl MT pr sc (d + 1)) (rtE (some (.int r)) (mk X) σ2) (55, [(0, .ref 38), (1, .int x1), (2, .int x2), (3, .int x3)], [.int (gI p3.2 45 ((10 * x1) + x2).toNatClampNeg), .int x3], mk X, p3.2)
          refine Ex.blk 2 rfl ?_
          show Ex mr_X10_echo sc (Cl MT pr sc (d + 1)) (rtE (some (.int r)) (mk X) σ2) (58, [(4, .int (x3 - (gI p3.2 45 ((10 * x1) + x2).toNatClampNeg))), (0, .ref 38), (1, .int x1), (2, .int x2), (3, .int x3)], [], mk X, p3.2)
          refine Ex.pick (lv' := _) [1, 2, 3, 4, 0] rfl ?_
          exact lk_X10_echo_58 d _ _ _ _ _ h
theorem cl_X10_wind {pr : Ct} {sc : Nat × (Nat → Int32)} {X : En} (d : Nat) {σ2 : St} {x1 : Int64} {σ : St} (h : f_X10_wind x1 σ = some σ2) : Cl MT pr sc (d + 0 + 1) 170 [.ref 38, .long x1] (mk X) σ none (mk X) σ2 := by
  refine cl_of mr_X10_wind rfl rfl ?_
  unfold f_X10_wind at h
  refine Ex.blk 1000 rfl ?_
  cases h
  exact And.intro trivial ⟨rfl, rfl, rfl⟩
theorem lk_X10_draw_16 {pr : Ct} {sc : Nat × (Nat → Int32)} {X : En} (d : Nat) {r : Int32} {σ2 : St} (σ : St) (h : f_X10_draw_16 σ = some (r, σ2)) : Ex mr_X10_draw sc (Cl MT pr sc (d + 0)) (rtE (some (.int r)) (mk X) σ2) (16, [(0, .ref 38)], [], mk X, σ) := by
  unfold f_X10_draw_16 at h
  refine Ex.blk 5 rfl ?_
  show Ex mr_X10_draw sc (Cl MT pr sc (d + 0)) (rtE (some (.int r)) (mk X) σ2) (26, [(0, .ref 38)], [.long 100, .long (ushJ (gJ σ 38 18) 33)], mk X, σ)
  refine Ex.blk 1 rfl ?_
  refine And.intro (nzJ_ok (b := 100) (by decide)) ?_
  show Ex mr_X10_draw sc (Cl MT pr sc (d + 0)) (rtE (some (.int r)) (mk X) σ2) (27, [(0, .ref 38)], [.long (rmJ (ushJ (gJ σ 38 18) 33) 100)], mk X, σ)
  refine Ex.blk 1000 rfl ?_
  cases h
  exact And.intro trivial ⟨rfl, rfl, rfl⟩
theorem cl_X10_draw {pr : Ct} {sc : Nat × (Nat → Int32)} {X : En} (d : Nat) {r : Int32} {σ2 : St} {σ : St} (h : f_X10_draw σ = some (r, σ2)) : Cl MT pr sc (d + 0 + 1) 171 [.ref 38] (mk X) σ (some (.int r)) (mk X) σ2 := by
  refine cl_of mr_X10_draw rfl rfl ?_
  unfold f_X10_draw at h
  refine Ex.blk 5 rfl ?_
  show Ex mr_X10_draw sc (Cl MT pr sc (d + 0)) (rtE (some (.int r)) (mk X) σ2) (9, [(0, .ref 38)], [.long ((gJ σ 38 18) * 6364136223846793005), .ref 38], mk X, σ)
  refine Ex.blk 3 rfl ?_
  show Ex mr_X10_draw sc (Cl MT pr sc (d + 0)) (rtE (some (.int r)) (mk X) σ2) (16, [(0, .ref 38)], [], mk X, (sJ σ 38 18 (((gJ σ 38 18) * 6364136223846793005) + 1442695040888963407)))
  exact lk_X10_draw_16 d _ h
theorem lk_X10_heard_41 {pr : Ct} {sc : Nat × (Nat → Int32)} {X : En} (d : Nat) {r : Int32} {σ2 : St} (k19 : Int32 → Int32 → Int32 → Int32 → St → Option (Int32 × St)) (hk19 : ∀ (x1 : Int32) (x2 : Int32) (x3 : Int32) (x4 : Int32) (σ : St), k19 x1 x2 x3 x4 σ = some (r, σ2) → Ex mr_X10_heard sc (Cl MT pr sc (d + 1)) (rtE (some (.int r)) (mk X) σ2) (19, [(0, .ref 38), (1, .int x1), (2, .int x2), (3, .int x3), (4, .int x4)], [], mk X, σ)) (x1 : Int32) (x2 : Int32) (x3 : Int32) (x4 : Int32) (σ : St) (h : f_X10_heard_41 k19 x1 x2 x3 x4 σ = some (r, σ2)) : Ex mr_X10_heard sc (Cl MT pr sc (d + 1)) (rtE (some (.int r)) (mk X) σ2) (41, [(0, .ref 38), (1, .int x1), (2, .int x2), (3, .int x3), (4, .int x4)], [], mk X, σ) := by
  unfold f_X10_heard_41 at h
  refine Ex.blk 1000 rfl ?_
  rcases ite_sp h with ⟨c1, h⟩ | ⟨c1, h⟩
  · refine And.intro (fun _ => ?_) (fun hn => absurd c1 hn)
    show Ex mr_X10_heard sc (Cl MT pr sc (d + 1)) (rtE (some (.int r)) (mk X) σ2) (49, [(0, .ref 38), (1, .int x1), (2, .int x2), (3, .int x3), (4, .int x4)], [], mk X, σ)
    refine Ex.blk 1000 rfl ?_
    show Ex mr_X10_heard sc (Cl MT pr sc (d + 1)) (rtE (some (.int r)) (mk X) σ2) (19, [(4, .int (x4 + 1)), (0, .ref 38), (1, .int x1), (2, .int x2), (3, .int x3)], [], mk X, σ)
    refine Ex.pick (lv' := _) [1, 2, 3, 4, 0] rfl ?_
    exact hk19 _ _ _ _ _ h
  · refine And.intro (fun hp => absurd hp c1) (fun _ => ?_)
    show Ex mr_X10_heard sc (Cl MT pr sc (d + 1)) (rtE (some (.int r)) (mk X) σ2) (46, [(0, .ref 38), (1, .int x1), (2, .int x2), (3, .int x3), (4, .int x4)], [], mk X, σ)
    refine Ex.blk 1000 rfl ?_
    cases h
    exact And.intro trivial ⟨rfl, rfl, rfl⟩
theorem lk_X10_heard_19 {pr : Ct} {sc : Nat × (Nat → Int32)} {X : En} (d : Nat) {r : Int32} {σ2 : St} : ∀ (n : Nat) (x1 : Int32) (x2 : Int32) (x3 : Int32) (x4 : Int32) (σ : St), f_X10_heard_19 n x1 x2 x3 x4 σ = some (r, σ2) → Ex mr_X10_heard sc (Cl MT pr sc (d + 1)) (rtE (some (.int r)) (mk X) σ2) (19, [(0, .ref 38), (1, .int x1), (2, .int x2), (3, .int x3), (4, .int x4)], [], mk X, σ) := by
  intro n
  induction n with
  | zero =>
    intro x1 x2 x3 x4 σ h
    cases h
  | succ n ih =>
    intro x1 x2 x3 x4 σ h
    simp only [f_X10_heard_19] at h
    refine Ex.blk 1000 rfl ?_
    rcases ite_sp h with ⟨c1, h⟩ | ⟨c1, h⟩
    · refine And.intro (fun _ => ?_) (fun hn => absurd c1 hn)
      show Ex mr_X10_heard sc (Cl MT pr sc (d + 1)) (rtE (some (.int r)) (mk X) σ2) (55, [(0, .ref 38), (1, .int x1), (2, .int x2), (3, .int x3), (4, .int x4)], [], mk X, σ)
      refine Ex.blk 1000 rfl ?_
      cases h
      exact And.intro trivial ⟨rfl, rfl, rfl⟩
    · refine And.intro (fun hp => absurd hp c1) (fun _ => ?_)
      show Ex mr_X10_heard sc (Cl MT pr sc (d + 1)) (rtE (some (.int r)) (mk X) σ2) (26, [(0, .ref 38), (1, .int x1), (2, .int x2), (3, .int x3), (4, .int x4)], [], mk X, σ)
      refine Ex.blk 5 rfl ?_
      show Ex mr_X10_heard sc (Cl MT pr sc (d + 1)) (rtE (some (.int r)) (mk X) σ2) (34, [(0, .ref 38), (1, .int x1), (2, .int x2), (3, .int x3), (4, .int x4)], [.int x1, .int 10, .ref 45, .int x3], mk X, σ)
      refine Ex.blk 4 rfl ?_
      obtain ⟨g2, h⟩ := gd_some h
      refine And.intro (inb_ok g2) ?_
      show Ex mr_X10_heard sc (Cl MT pr sc (d + 1)) (rtE (some (.int r)) (mk X) σ2) (39, [(0, .ref 38), (1, .int x1), (2, .int x2), (3, .int x3), (4, .int x4)], [.int (gI σ 45 ((10 * x1) + x4).toNatClampNeg), .int x3], mk X, σ)
      refine Ex.blk 2 rfl ?_
      show Ex mr_X10_heard sc (Cl MT pr sc (d + 1)) (rtE (some (.int r)) (mk X) σ2) (41, [(3, .int (x3 + (gI σ 45 ((10 * x1) + x4).toNatClampNeg))), (0, .ref 38), (1, .int x1), (2, .int x2), (4, .int x4)], [], mk X, σ)
      refine Ex.pick (lv' := _) [1, 2, 3, 0, 4] rfl ?_
      exact lk_X10_heard_41 d _ ih _ _ _ _ _ h
theorem cl_X10_heard {pr : Ct} {sc : Nat × (Nat → Int32)} {X : En} (d : Nat) {r : Int32} {σ2 : St} {x1 : Int32} {σ : St} (h : f_X10_heard x1 σ = some (r, σ2)) : Cl MT pr sc (d + 1 + 1) 172 [.ref 38, .int x1] (mk X) σ (some (.int r)) (mk X) σ2 := by
  refine cl_of mr_X10_heard rfl rfl ?_
  unfold f_X10_heard at h
  refine Ex.blk 1000 rfl ?_
  rcases ite_sp h with ⟨c1, h⟩ | ⟨c1, h⟩
  · refine And.intro (fun _ => ?_) (fun hn => absurd c1 hn)
    show Ex mr_X10_heard sc (Cl MT pr sc (d + 1)) (rtE (some (.int r)) (mk X) σ2) (9, [(0, .ref 38), (1, .int x1)], [], mk X, σ)
    refine Ex.blk 2 rfl ?_
    obtain ⟨p1, hp1, h⟩ := bind_sp h
    refine Exists.intro (some (.int p1.1)) (Exists.intro (mk X) (Exists.intro p1.2 (And.intro (cl_X10_draw (d + 0) hp1) ?_)))
    show Ex mr_X10_heard sc (Cl MT pr sc (d + 1)) (rtE (some (.int r)) (mk X) σ2) (13, [(0, .ref 38), (1, .int x1)], [.int p1.1], mk X, p1.2)
    refine Ex.blk 1000 rfl ?_
    show Ex mr_X10_heard sc (Cl MT pr sc (d + 1)) (rtE (some (.int r)) (mk X) σ2) (19, [(4, .int 0), (3, .int 0), (2, .int p1.1), (0, .ref 38), (1, .int x1)], [], mk X, p1.2)
    refine Ex.pick (lv' := _) [3, 4, 2, 1, 0] rfl ?_
    exact lk_X10_heard_19 d FU _ _ _ _ _ h
  · refine And.intro (fun hp => absurd hp c1) (fun _ => ?_)
    show Ex mr_X10_heard sc (Cl MT pr sc (d + 1)) (rtE (some (.int r)) (mk X) σ2) (7, [(0, .ref 38), (1, .int x1)], [], mk X, σ)
    refine Ex.blk 1000 rfl ?_
    cases h
    exact And.intro trivial ⟨rfl, rfl, rfl⟩
theorem lk_X10_become_95 {pr : Ct} {sc : Nat × (Nat → Int32)} {X : En} (d : Nat) {σ2 : St} (x1 : Int32) (x3 : Int32) (σ : St) (h : f_X10_become_95 x1 x3 σ = some σ2) : Ex mr_X10_become sc (Cl MT pr sc (d + 0)) (rtE none (mk X) σ2) (95, [(0, .ref 38), (1, .int x1), (3, .int x3)], [], mk X, σ) := by
  unfold f_X10_become_95 at h
  refine Ex.blk 5 rfl ?_
  show Ex mr_X10_become sc (Cl MT pr sc (d + 0)) (rtE none (mk X) σ2) (102, [(0, .ref 38), (1, .int x1), (3, .int x3)], [.int (0 + x1), .ref 46], mk X, σ)
  refine Ex.blk 2 rfl ?_
  obtain ⟨g1, h⟩ := gd_some h
  refine And.intro (inb_ok g1) ?_
  show Ex mr_X10_become sc (Cl MT pr sc (d + 0)) (rtE none (mk X) σ2) (104, [(0, .ref 38), (1, .int x1), (3, .int x3)], [], mk X, (sI σ 46 (0 + x1).toNatClampNeg x3))
  refine Ex.blk 1000 rfl ?_
  cases h
  exact And.intro trivial ⟨rfl, rfl, rfl⟩
theorem lk_X10_become_78 {pr : Ct} {sc : Nat × (Nat → Int32)} {X : En} (d : Nat) {σ2 : St} (x1 : Int32) (x3 : Int32) (x4 : Int32) (σ : St) (h : f_X10_become_78 x1 x3 x4 σ = some σ2) : Ex mr_X10_become sc (Cl MT pr sc (d + 0)) (rtE none (mk X) σ2) (78, [(0, .ref 38), (1, .int x1), (3, .int x3), (4, .int x4)], [], mk X, σ) := by
  unfold f_X10_become_78 at h
  refine Ex.blk 5 rfl ?_
  refine And.intro (inb_ok (i := 14) (n := 19) (by decide)) ?_
  show Ex mr_X10_become sc (Cl MT pr sc (d + 0)) (rtE none (mk X) σ2) (86, [(0, .ref 38), (1, .int x1), (3, .int x3), (4, .int x4)], [.int (gI σ 46 (14 : Int32).toNatClampNeg), .int 14, .ref 46], mk X, σ)
  refine Ex.blk 5 rfl ?_
  show Ex mr_X10_become sc (Cl MT pr sc (d + 0)) (rtE none (mk X) σ2) (94, [(0, .ref 38), (1, .int x1), (3, .int x3), (4, .int x4)], [.int ((gI σ 46 (14 : Int32).toNatClampNeg) + (x4 * (gI σ 38 12))), .int 14, .ref 46], mk X, σ)
  refine Ex.blk 1 rfl ?_
  refine And.intro (inb_ok (i := 14) (n := 19) (by decide)) ?_
  show Ex mr_X10_become sc (Cl MT pr sc (d + 0)) (rtE none (mk X) σ2) (95, [(0, .ref 38), (1, .int x1), (3, .int x3), (4, .int x4)], [], mk X, (sI σ 46 (14 : Int32).toNatClampNeg ((gI σ 46 (14 : Int32).toNatClampNeg) + (x4 * (gI σ 38 12)))))
  refine Ex.pick (lv' := _) [0, 1, 2] rfl ?_
  exact lk_X10_become_95 d _ _ _ h
theorem lk_X10_become_66 {pr : Ct} {sc : Nat × (Nat → Int32)} {X : En} (d : Nat) {σ2 : St} (x1 : Int32) (x3 : Int32) (x4 : Int32) (σ : St) (h : f_X10_become_66 x1 x3 x4 σ = some σ2) : Ex mr_X10_become sc (Cl MT pr sc (d + 0)) (rtE none (mk X) σ2) (66, [(0, .ref 38), (1, .int x1), (3, .int x3), (4, .int x4)], [], mk X, σ) := by
  unfold f_X10_become_66 at h
  refine Ex.blk 5 rfl ?_
  refine And.intro (inb_ok (i := 12) (n := 19) (by decide)) ?_
  show Ex mr_X10_become sc (Cl MT pr sc (d + 0)) (rtE none (mk X) σ2) (74, [(0, .ref 38), (1, .int x1), (3, .int x3), (4, .int x4)], [.int (gI σ 46 (12 : Int32).toNatClampNeg), .int 12, .ref 46], mk X, σ)
  refine Ex.blk 3 rfl ?_
  refine And.intro (inb_ok (i := 12) (n := 19) (by decide)) ?_
  show Ex mr_X10_become sc (Cl MT pr sc (d + 0)) (rtE none (mk X) σ2) (78, [(0, .ref 38), (1, .int x1), (3, .int x3), (4, .int x4)], [], mk X, (sI σ 46 (12 : Int32).toNatClampNeg ((gI σ 46 (12 : Int32).toNatClampNeg) + x4)))
  exact lk_X10_become_78 d _ _ _ _ h
theorem lk_X10_become_51 {pr : Ct} {sc : Nat × (Nat → Int32)} {X : En} (d : Nat) {σ2 : St} (x1 : Int32) (x3 : Int32) (σ : St) (h : f_X10_become_51 x1 x3 σ = some σ2) : Ex mr_X10_become sc (Cl MT pr sc (d + 0)) (rtE none (mk X) σ2) (51, [(0, .ref 38), (1, .int x1), (3, .int x3)], [], mk X, σ) := by
  unfold f_X10_become_51 at h
  refine Ex.blk 5 rfl ?_
  show Ex mr_X10_become sc (Cl MT pr sc (d + 0)) (rtE none (mk X) σ2) (58, [(0, .ref 38), (1, .int x1), (3, .int x3)], [.int x1, .int 0, .ref 46, .int x3], mk X, σ)
  refine Ex.blk 2 rfl ?_
  obtain ⟨g1, h⟩ := gd_some h
  refine And.intro (inb_ok g1) ?_
  show Ex mr_X10_become sc (Cl MT pr sc (d + 0)) (rtE none (mk X) σ2) (60, [(0, .ref 38), (1, .int x1), (3, .int x3)], [.int (gI σ 46 (0 + x1).toNatClampNeg), .int x3], mk X, σ)
  refine Ex.blk 3 rfl ?_
  show Ex mr_X10_become sc (Cl MT pr sc (d + 0)) (rtE none (mk X) σ2) (66, [(4, .int (abI (x3 - (gI σ 46 (0 + x1).toNatClampNeg)))), (0, .ref 38), (1, .int x1), (3, .int x3)], [], mk X, σ)
  refine Ex.pick (lv' := _) [1, 2, 3, 0] rfl ?_
  exact lk_X10_become_66 d _ _ _ _ h
theorem lk_X10_become_38 {pr : Ct} {sc : Nat × (Nat → Int32)} {X : En} (d : Nat) {σ2 : St} (x1 : Int32) (x2 : Int32) (x3 : Int32) (σ : St) (h : f_X10_become_38 x1 x2 x3 σ = some σ2) : Ex mr_X10_become sc (Cl MT pr sc (d + 0)) (rtE none (mk X) σ2) (38, [(0, .ref 38), (1, .int x1), (2, .int x2), (3, .int x3)], [], mk X, σ) := by
  unfold f_X10_become_38 at h
  refine Ex.blk 5 rfl ?_
  refine And.intro (inb_ok (i := 16) (n := 19) (by decide)) ?_
  show Ex mr_X10_become sc (Cl MT pr sc (d + 0)) (rtE none (mk X) σ2) (46, [(0, .ref 38), (1, .int x1), (2, .int x2), (3, .int x3)], [.int (gI σ 46 (16 : Int32).toNatClampNeg), .int 16, .ref 46], mk X, σ)
  refine Ex.blk 5 rfl ?_
  refine And.intro (inb_ok (i := 16) (n := 19) (by decide)) ?_
  show Ex mr_X10_become sc (Cl MT pr sc (d + 0)) (rtE none (mk X) σ2) (51, [(0, .ref 38), (1, .int x1), (2, .int x2), (3, .int x3)], [], mk X, (sI σ 46 (16 : Int32).toNatClampNeg ((gI σ 46 (16 : Int32).toNatClampNeg) + (x2 - x3))))
  refine Ex.pick (lv' := _) [0, 1, 3] rfl ?_
  exact lk_X10_become_51 d _ _ _ h
theorem lk_X10_become_34 {pr : Ct} {sc : Nat × (Nat → Int32)} {X : En} (d : Nat) {σ2 : St} (x1 : Int32) (x2 : Int32) (y0 : Int32) (y1 : Int32) (σ : St) (h : f_X10_become_34 x1 x2 y0 y1 σ = some σ2) : Ex mr_X10_become sc (Cl MT pr sc (d + 0)) (rtE none (mk X) σ2) (34, [(0, .ref 38), (1, .int x1), (2, .int x2)], [.int y0, .int y1], mk X, σ) := by
  unfold f_X10_become_34 at h
  refine Ex.blk 2 rfl ?_
  show Ex mr_X10_become sc (Cl MT pr sc (d + 0)) (rtE none (mk X) σ2) (38, [(3, .int (mnI y1 y0)), (0, .ref 38), (1, .int x1), (2, .int x2)], [], mk X, σ)
  refine Ex.pick (lv' := _) [1, 2, 3, 0] rfl ?_
  exact lk_X10_become_38 d _ _ _ _ h
theorem lk_X10_become_16 {pr : Ct} {sc : Nat × (Nat → Int32)} {X : En} (d : Nat) {σ2 : St} (x1 : Int32) (x2 : Int32) (σ : St) (h : f_X10_become_16 x1 x2 σ = some σ2) : Ex mr_X10_become sc (Cl MT pr sc (d + 0)) (rtE none (mk X) σ2) (16, [(0, .ref 38), (1, .int x1), (2, .int x2)], [], mk X, σ) := by
  unfold f_X10_become_16 at h
  refine Ex.blk 1000 rfl ?_
  rcases ite_sp h with ⟨c1, h⟩ | ⟨c1, h⟩
  · refine And.intro (fun _ => ?_) (fun hn => absurd c1 hn)
    show Ex mr_X10_become sc (Cl MT pr sc (d + 0)) (rtE none (mk X) σ2) (28, [(0, .ref 38), (1, .int x1), (2, .int x2)], [.int x2], mk X, σ)
    refine Ex.blk 4 rfl ?_
    obtain ⟨g2, h⟩ := gd_some h
    refine And.intro (inb_ok g2) ?_
    show Ex mr_X10_become sc (Cl MT pr sc (d + 0)) (rtE none (mk X) σ2) (34, [(0, .ref 38), (1, .int x1), (2, .int x2)], [.int (gI σ 44 x1.toNatClampNeg), .int x2], mk X, σ)
    exact lk_X10_become_34 d _ _ _ _ _ h
  · refine And.intro (fun hp => absurd hp c1) (fun _ => ?_)
    show Ex mr_X10_become sc (Cl MT pr sc (d + 0)) (rtE none (mk X) σ2) (24, [(0, .ref 38), (1, .int x1), (2, .int x2)], [.int x2], mk X, σ)
    refine Ex.blk 1000 rfl ?_
    show Ex mr_X10_become sc (Cl MT pr sc (d + 0)) (rtE none (mk X) σ2) (34, [(0, .ref 38), (1, .int x1), (2, .int x2)], [.int x2, .int x2], mk X, σ)
    exact lk_X10_become_34 d _ _ _ _ _ h
theorem cl_X10_become {pr : Ct} {sc : Nat × (Nat → Int32)} {X : En} (d : Nat) {σ2 : St} {x1 : Int32} {x2 : Int32} {σ : St} (h : f_X10_become x1 x2 σ = some σ2) : Cl MT pr sc (d + 0 + 1) 173 [.ref 38, .int x1, .int x2] (mk X) σ none (mk X) σ2 := by
  refine cl_of mr_X10_become rfl rfl ?_
  unfold f_X10_become at h
  refine Ex.blk 5 rfl ?_
  show Ex mr_X10_become sc (Cl MT pr sc (d + 0)) (rtE none (mk X) σ2) (9, [(0, .ref 38), (1, .int x1), (2, .int x2)], [.ref 47, .int x1, .ref 47], mk X, σ)
  refine Ex.blk 2 rfl ?_
  obtain ⟨g1, h⟩ := gd_some h
  refine And.intro (inb_ok g1) ?_
  show Ex mr_X10_become sc (Cl MT pr sc (d + 0)) (rtE none (mk X) σ2) (11, [(0, .ref 38), (1, .int x1), (2, .int x2)], [.int (gI σ 47 x1.toNatClampNeg), .int x1, .ref 47], mk X, σ)
  refine Ex.blk 3 rfl ?_
  obtain ⟨g2, h⟩ := gd_some h
  refine And.intro (inb_ok g2) ?_
  show Ex mr_X10_become sc (Cl MT pr sc (d + 0)) (rtE none (mk X) σ2) (16, [(0, .ref 38), (1, .int x1), (2, .int x2)], [], mk X, (sI σ 47 x1.toNatClampNeg (mxI (gI σ 47 x1.toNatClampNeg) x2)))
  exact lk_X10_become_16 d _ _ _ h
theorem lk_X10_drive_147 {pr : Ct} {sc : Nat × (Nat → Int32)} {X : En} (d : Nat) {σ2 : St} (k9 : Int32 → Int32 → Int32 → Int32 → St → Option (St)) (hk9 : ∀ (x3 : Int32) (x4 : Int32) (x5 : Int32) (x6 : Int32) (σ : St), k9 x3 x4 x5 x6 σ = some σ2 → Ex mr_X10_drive sc (Cl MT pr sc (d + 1)) (rtE none (mk X) σ2) (9, [(0, .ref 38), (3, .int x3), (4, .int x4), (5, .int x5), (6, .int x6)], [], mk X, σ)) (x3 : Int32) (x6 : Int32) (x8 : Int32) (y0 : Int32) (y1 : Int32) (y2 : Int32) (σ : St) (h : f_X10_drive_147 k9 x3 x6 x8 y0 y1 y2 σ = some σ2) : Ex mr_X10_drive sc (Cl MT pr sc (d + 1)) (rtE none (mk X) σ2) (147, [(0, .ref 38), (3, .int x3), (6, .int x6), (8, .int x8)], [.int y0, .int y1, .int y2, .ref 46], mk X, σ) := by
  unfold f_X10_drive_147 at h
  refine Ex.blk 2 rfl ?_
  obtain ⟨g1, h⟩ := gd_some h
  refine And.intro (inb_ok g1) ?_
  show Ex mr_X10_drive sc (Cl MT pr sc (d + 1)) (rtE none (mk X) σ2) (149, [(0, .ref 38), (3, .int x3), (6, .int x6), (8, .int x8)], [], mk X, (sI σ 46 y2.toNatClampNeg (y1 + y0)))
  refine Ex.blk 5 rfl ?_
  show Ex mr_X10_drive sc (Cl MT pr sc (d + 1)) (rtE none (mk X) σ2) (159, [(6, .int (x6 + 1)), (4, .int 1), (5, .int x8), (0, .ref 38), (3, .int x3), (8, .int x8)], [], mk X, (sI σ 46 y2.toNatClampNeg (y1 + y0)))
  refine Ex.blk 1000 rfl ?_
  show Ex mr_X10_drive sc (Cl MT pr sc (d + 1)) (rtE none (mk X) σ2) (9, [(6, .int (x6 + 1)), (4, .int 1), (5, .int x8), (0, .ref 38), (3, .int x3), (8, .int x8)], [], mk X, (sI σ 46 y2.toNatClampNeg (y1 + y0)))
  refine Ex.pick (lv' := _) [3, 4, 1, 2, 0] rfl ?_
  exact hk9 _ _ _ _ _ h
theorem lk_X10_drive_124 {pr : Ct} {sc : Nat × (Nat → Int32)} {X : En} (d : Nat) {σ2 : St} (k9 : Int32 → Int32 → Int32 → Int32 → St → Option (St)) (hk9 : ∀ (x3 : Int32) (x4 : Int32) (x5 : Int32) (x6 : Int32) (σ : St), k9 x3 x4 x5 x6 σ = some σ2 → Ex mr_X10_drive sc (Cl MT pr sc (d + 1)) (rtE none (mk X) σ2) (9, [(0, .ref 38), (3, .int x3), (4, .int x4), (5, .int x5), (6, .int x6)], [], mk X, σ)) (x3 : Int32) (x6 : Int32) (x8 : Int32) (y0 : Int32) (y1 : Int32) (y2 : Int32) (σ : St) (h : f_X10_drive_124 k9 x3 x6 x8 y0 y1 y2 σ = some σ2) : Ex mr_X10_drive sc (Cl MT pr sc (d + 1)) (rtE none (mk X) σ2) (124, [(0, .ref 38), (3, .int x3), (6, .int x6), (8, .int x8)], [.int y0, .int y1, .int y2, .ref 46], mk X, σ) := by
  unfold f_X10_drive_124 at h
  refine Ex.blk 2 rfl ?_
  obtain ⟨g1, h⟩ := gd_some h
  refine And.intro (inb_ok g1) ?_
  show Ex mr_X10_drive sc (Cl MT pr sc (d + 1)) (rtE none (mk X) σ2) (126, [(0, .ref 38), (3, .int x3), (6, .int x6), (8, .int x8)], [], mk X, (sI σ 46 y2.toNatClampNeg (y1 + y0)))
  refine Ex.blk 5 rfl ?_
  refine And.intro (inb_ok (i := 14) (n := 19) (by decide)) ?_
  show Ex mr_X10_drive sc (Cl MT pr sc (d + 1)) (rtE none (mk X) σ2) (134, [(0, .ref 38), (3, .int x3), (6, .int x6), (8, .int x8)], [.int (gI (sI σ 46 y2.toNatClampNeg (y1 + y0)) 46 (14 : Int32).toNatClampNeg), .int 14, .ref 46], mk X, (sI σ 46 y2.toNatClampNeg (y1 + y0)))
  refine Ex.blk 1000 rfl ?_
  rcases ite_sp h with ⟨c2, h⟩ | ⟨c2, h⟩
  · refine And.intro (fun _ => ?_) (fun hn => absurd c2 hn)
    show Ex mr_X10_drive sc (Cl MT pr sc (d + 1)) (rtE none (mk X) σ2) (146, [(0, .ref 38), (3, .int x3), (6, .int x6), (8, .int x8)], [.int (gI (sI σ 46 y2.toNatClampNeg (y1 + y0)) 46 (14 : Int32).toNatClampNeg), .int 14, .ref 46], mk X, (sI σ 46 y2.toNatClampNeg (y1 + y0)))
    refine Ex.blk 1000 rfl ?_
    show Ex mr_X10_drive sc (Cl MT pr sc (d + 1)) (rtE none (mk X) σ2) (147, [(0, .ref 38), (3, .int x3), (6, .int x6), (8, .int x8)], [.int 0, .int (gI (sI σ 46 y2.toNatClampNeg (y1 + y0)) 46 (14 : Int32).toNatClampNeg), .int 14, .ref 46], mk X, (sI σ 46 y2.toNatClampNeg (y1 + y0)))
    exact lk_X10_drive_147 d _ hk9 _ _ _ _ _ _ _ h
  · refine And.intro (fun hp => absurd hp c2) (fun _ => ?_)
    show Ex mr_X10_drive sc (Cl MT pr sc (d + 1)) (rtE none (mk X) σ2) (139, [(0, .ref 38), (3, .int x3), (6, .int x6), (8, .int x8)], [.int (gI (sI σ 46 y2.toNatClampNeg (y1 + y0)) 46 (14 : Int32).toNatClampNeg), .int 14, .ref 46], mk X, (sI σ 46 y2.toNatClampNeg (y1 + y0)))
    refine Ex.blk 1000 rfl ?_
    show Ex mr_X10_drive sc (Cl MT pr sc (d + 1)) (rtE none (mk X) σ2) (147, [(0, .ref 38), (3, .int x3), (6, .int x6), (8, .int x8)], [.int (gI (sI σ 46 y2.toNatClampNeg (y1 + y0)) 38 13), .int (gI (sI σ 46 y2.toNatClampNeg (y1 + y0)) 46 (14 : Int32).toNatClampNeg), .int 14, .ref 46], mk X, (sI σ 46 y2.toNatClampNeg (y1 + y0)))
    exact lk_X10_drive_147 d _ hk9 _ _ _ _ _ _ _ h
theorem lk_X10_drive_103 {pr : Ct} {sc : Nat × (Nat → Int32)} {X : En} (d : Nat) {σ2 : St} (k9 : Int32 → Int32 → Int32 → Int32 → St → Option (St)) (hk9 : ∀ (x3 : Int32) (x4 : Int32) (x5 : Int32) (x6 : Int32) (σ : St), k9 x3 x4 x5 x6 σ = some σ2 → Ex mr_X10_drive sc (Cl MT pr sc (d + 1)) (rtE none (mk X) σ2) (9, [(0, .ref 38), (3, .int x3), (4, .int x4), (5, .int x5), (6, .int x6)], [], mk X, σ)) (x3 : Int32) (x6 : Int32) (x8 : Int32) (y0 : Int32) (y1 : Int32) (σ : St) (h : f_X10_drive_103 k9 x3 x6 x8 y0 y1 σ = some σ2) : Ex mr_X10_drive sc (Cl MT pr sc (d + 1)) (rtE none (mk X) σ2) (103, [(0, .ref 38), (3, .int x3), (6, .int x6), (8, .int x8)], [.int y0, .int y1, .ref 38], mk X, σ) := by
  unfold f_X10_drive_103 at h
  refine Ex.blk 1 rfl ?_
  obtain ⟨p1, hp1, h⟩ := bind_sp h
  refine Exists.intro none (Exists.intro (mk X) (Exists.intro p1 (And.intro (cl_X10_become (d + 0) hp1) ?_)))
  show Ex mr_X10_drive sc (Cl MT pr sc (d + 1)) (rtE none (mk X) σ2) (106, [(0, .ref 38), (3, .int x3), (6, .int x6), (8, .int x8)], [], mk X, p1)
  refine Ex.blk 5 rfl ?_
  refine And.intro (inb_ok (i := 13) (n := 19) (by decide)) ?_
  show Ex mr_X10_drive sc (Cl MT pr sc (d + 1)) (rtE none (mk X) σ2) (114, [(0, .ref 38), (3, .int x3), (6, .int x6), (8, .int x8)], [.int (gI p1 46 (13 : Int32).toNatClampNeg), .int 13, .ref 46], mk X, p1)
  refine Ex.blk 1000 rfl ?_
  rcases ite_sp h with ⟨c1, h⟩ | ⟨c1, h⟩
  · refine And.intro (fun _ => ?_) (fun hn => absurd c1 hn)
    show Ex mr_X10_drive sc (Cl MT pr sc (d + 1)) (rtE none (mk X) σ2) (123, [(0, .ref 38), (3, .int x3), (6, .int x6), (8, .int x8)], [.int (gI p1 46 (13 : Int32).toNatClampNeg), .int 13, .ref 46], mk X, p1)
    refine Ex.blk 1000 rfl ?_
    show Ex mr_X10_drive sc (Cl MT pr sc (d + 1)) (rtE none (mk X) σ2) (124, [(0, .ref 38), (3, .int x3), (6, .int x6), (8, .int x8)], [.int 0, .int (gI p1 46 (13 : Int32).toNatClampNeg), .int 13, .ref 46], mk X, p1)
    exact lk_X10_drive_124 d _ hk9 _ _ _ _ _ _ _ h
  · refine And.intro (fun hp => absurd hp c1) (fun _ => ?_)
    show Ex mr_X10_drive sc (Cl MT pr sc (d + 1)) (rtE none (mk X) σ2) (119, [(0, .ref 38), (3, .int x3), (6, .int x6), (8, .int x8)], [.int (gI p1 46 (13 : Int32).toNatClampNeg), .int 13, .ref 46], mk X, p1)
    refine Ex.blk 1000 rfl ?_
    show Ex mr_X10_drive sc (Cl MT pr sc (d + 1)) (rtE none (mk X) σ2) (124, [(0, .ref 38), (3, .int x3), (6, .int x6), (8, .int x8)], [.int 1, .int (gI p1 46 (13 : Int32).toNatClampNeg), .int 13, .ref 46], mk X, p1)
    exact lk_X10_drive_124 d _ hk9 _ _ _ _ _ _ _ h
theorem lk_X10_drive_68 {pr : Ct} {sc : Nat × (Nat → Int32)} {X : En} (d : Nat) {σ2 : St} (k9 : Int32 → Int32 → Int32 → Int32 → St → Option (St)) (hk9 : ∀ (x3 : Int32) (x4 : Int32) (x5 : Int32) (x6 : Int32) (σ : St), k9 x3 x4 x5 x6 σ = some σ2 → Ex mr_X10_drive sc (Cl MT pr sc (d + 1)) (rtE none (mk X) σ2) (9, [(0, .ref 38), (3, .int x3), (4, .int x4), (5, .int x5), (6, .int x6)], [], mk X, σ)) (x3 : Int32) (x6 : Int32) (x7 : Int32) (y0 : Int32) (σ : St) (h : f_X10_drive_68 k9 x3 x6 x7 y0 σ = some σ2) : Ex mr_X10_drive sc (Cl MT pr sc (d + 1)) (rtE none (mk X) σ2) (68, [(0, .ref 38), (3, .int x3), (6, .int x6), (7, .int x7)], [.int y0], mk X, σ) := by
  unfold f_X10_drive_68 at h
  refine Ex.blk 5 rfl ?_
  show Ex mr_X10_drive sc (Cl MT pr sc (d + 1)) (rtE none (mk X) σ2) (77, [(8, .int y0), (0, .ref 38), (3, .int x3), (6, .int x6), (7, .int x7)], [.int 9, .int x7, .int x6, .ref 38], mk X, σ)
  refine Ex.blk 1000 rfl ?_
  rcases ite_sp h with ⟨c1, h⟩ | ⟨c1, h⟩
  · refine And.intro (fun _ => ?_) (fun hn => absurd c1 hn)
    show Ex mr_X10_drive sc (Cl MT pr sc (d + 1)) (rtE none (mk X) σ2) (88, [(8, .int y0), (0, .ref 38), (3, .int x3), (6, .int x6), (7, .int x7)], [.int x6, .ref 38], mk X, σ)
    refine Ex.blk 1000 rfl ?_
    rcases ite_sp h with ⟨c2, h⟩ | ⟨c2, h⟩
    · refine And.intro (fun _ => ?_) (fun hn => absurd c2 hn)
      show Ex mr_X10_drive sc (Cl MT pr sc (d + 1)) (rtE none (mk X) σ2) (101, [(8, .int y0), (0, .ref 38), (3, .int x3), (6, .int x6), (7, .int x7)], [.int x6, .ref 38], mk X, σ)
      refine Ex.blk 1000 rfl ?_
      show Ex mr_X10_drive sc (Cl MT pr sc (d + 1)) (rtE none (mk X) σ2) (103, [(8, .int y0), (0, .ref 38), (3, .int x3), (6, .int x6), (7, .int x7)], [.int x7, .int x6, .ref 38], mk X, σ)
      refine Ex.pick (lv' := _) [1, 2, 3, 0] rfl ?_
      exact lk_X10_drive_103 d _ hk9 _ _ _ _ _ _ h
    · refine And.intro (fun hp => absurd hp c2) (fun _ => ?_)
      show Ex mr_X10_drive sc (Cl MT pr sc (d + 1)) (rtE none (mk X) σ2) (93, [(8, .int y0), (0, .ref 38), (3, .int x3), (6, .int x6), (7, .int x7)], [.int x6, .ref 38], mk X, σ)
      refine Ex.blk 1000 rfl ?_
      show Ex mr_X10_drive sc (Cl MT pr sc (d + 1)) (rtE none (mk X) σ2) (103, [(8, .int y0), (0, .ref 38), (3, .int x3), (6, .int x6), (7, .int x7)], [.int (x7 + 10), .int x6, .ref 38], mk X, σ)
      refine Ex.pick (lv' := _) [1, 2, 3, 0] rfl ?_
      exact lk_X10_drive_103 d _ hk9 _ _ _ _ _ _ h
  · refine And.intro (fun hp => absurd hp c1) (fun _ => ?_)
    show Ex mr_X10_drive sc (Cl MT pr sc (d + 1)) (rtE none (mk X) σ2) (80, [(8, .int y0), (0, .ref 38), (3, .int x3), (6, .int x6), (7, .int x7)], [.int x6, .ref 38], mk X, σ)
    refine Ex.blk 1000 rfl ?_
    show Ex mr_X10_drive sc (Cl MT pr sc (d + 1)) (rtE none (mk X) σ2) (103, [(8, .int y0), (0, .ref 38), (3, .int x3), (6, .int x6), (7, .int x7)], [.int (x7 - 10), .int x6, .ref 38], mk X, σ)
    refine Ex.pick (lv' := _) [1, 2, 3, 0] rfl ?_
    exact lk_X10_drive_103 d _ hk9 _ _ _ _ _ _ h
theorem lk_X10_drive_63 {pr : Ct} {sc : Nat × (Nat → Int32)} {X : En} (d : Nat) {σ2 : St} (k9 : Int32 → Int32 → Int32 → Int32 → St → Option (St)) (hk9 : ∀ (x3 : Int32) (x4 : Int32) (x5 : Int32) (x6 : Int32) (σ : St), k9 x3 x4 x5 x6 σ = some σ2 → Ex mr_X10_drive sc (Cl MT pr sc (d + 1)) (rtE none (mk X) σ2) (9, [(0, .ref 38), (3, .int x3), (4, .int x4), (5, .int x5), (6, .int x6)], [], mk X, σ)) (x3 : Int32) (x6 : Int32) (x7 : Int32) (σ : St) (h : f_X10_drive_63 k9 x3 x6 x7 σ = some σ2) : Ex mr_X10_drive sc (Cl MT pr sc (d + 1)) (rtE none (mk X) σ2) (63, [(0, .ref 38), (3, .int x3), (6, .int x6), (7, .int x7)], [], mk X, σ) := by
  unfold f_X10_drive_63 at h
  refine Ex.blk 1000 rfl ?_
  show Ex mr_X10_drive sc (Cl MT pr sc (d + 1)) (rtE none (mk X) σ2) (68, [(0, .ref 38), (3, .int x3), (6, .int x6), (7, .int x7)], [.int 1], mk X, σ)
  exact lk_X10_drive_68 d _ hk9 _ _ _ _ _ h
theorem lk_X10_drive_51 {pr : Ct} {sc : Nat × (Nat → Int32)} {X : En} (d : Nat) {σ2 : St} (k9 : Int32 → Int32 → Int32 → Int32 → St → Option (St)) (hk9 : ∀ (x3 : Int32) (x4 : Int32) (x5 : Int32) (x6 : Int32) (σ : St), k9 x3 x4 x5 x6 σ = some σ2 → Ex mr_X10_drive sc (Cl MT pr sc (d + 1)) (rtE none (mk X) σ2) (9, [(0, .ref 38), (3, .int x3), (4, .int x4), (5, .int x5), (6, .int x6)], [], mk X, σ)) (x3 : Int32) (x6 : Int32) (x7 : Int32) (σ : St) (h : f_X10_drive_51 k9 x3 x6 x7 σ = some σ2) : Ex mr_X10_drive sc (Cl MT pr sc (d + 1)) (rtE none (mk X) σ2) (51, [(0, .ref 38), (3, .int x3), (6, .int x6), (7, .int x7)], [], mk X, σ) := by
  unfold f_X10_drive_51 at h
  refine Ex.blk 1000 rfl ?_
  rcases ite_sp h with ⟨c1, h⟩ | ⟨c1, h⟩
  · refine And.intro (fun _ => ?_) (fun hn => absurd c1 hn)
    show Ex mr_X10_drive sc (Cl MT pr sc (d + 1)) (rtE none (mk X) σ2) (63, [(0, .ref 38), (3, .int x3), (6, .int x6), (7, .int x7)], [], mk X, σ)
    exact lk_X10_drive_63 d _ hk9 _ _ _ _ h
  · refine And.intro (fun hp => absurd hp c1) (fun _ => ?_)
    show Ex mr_X10_drive sc (Cl MT pr sc (d + 1)) (rtE none (mk X) σ2) (58, [(0, .ref 38), (3, .int x3), (6, .int x6), (7, .int x7)], [], mk X, σ)
    refine Ex.blk 1000 rfl ?_
    rcases ite_sp h with ⟨c2, h⟩ | ⟨c2, h⟩
    · refine And.intro (fun _ => ?_) (fun hn => absurd c2 hn)
      show Ex mr_X10_drive sc (Cl MT pr sc (d + 1)) (rtE none (mk X) σ2) (67, [(0, .ref 38), (3, .int x3), (6, .int x6), (7, .int x7)], [], mk X, σ)
      refine Ex.blk 1000 rfl ?_
      show Ex mr_X10_drive sc (Cl MT pr sc (d + 1)) (rtE none (mk X) σ2) (68, [(0, .ref 38), (3, .int x3), (6, .int x6), (7, .int x7)], [.int 0], mk X, σ)
      exact lk_X10_drive_68 d _ hk9 _ _ _ _ _ h
    · refine And.intro (fun hp => absurd hp c2) (fun _ => ?_)
      show Ex mr_X10_drive sc (Cl MT pr sc (d + 1)) (rtE none (mk X) σ2) (63, [(0, .ref 38), (3, .int x3), (6, .int x6), (7, .int x7)], [], mk X, σ)
      exact lk_X10_drive_63 d _ hk9 _ _ _ _ h
theorem lk_X10_drive_9 {pr : Ct} {sc : Nat × (Nat → Int32)} {X : En} (d : Nat) {σ2 : St} : ∀ (n : Nat) (x3 : Int32) (x4 : Int32) (x5 : Int32) (x6 : Int32) (σ : St), f_X10_drive_9 n x3 x4 x5 x6 σ = some σ2 → Ex mr_X10_drive sc (Cl MT pr sc (d + 1)) (rtE none (mk X) σ2) (9, [(0, .ref 38), (3, .int x3), (4, .int x4), (5, .int x5), (6, .int x6)], [], mk X, σ) := by
  intro n
  induction n with
  | zero =>
    intro x3 x4 x5 x6 σ h
    cases h
  | succ n ih =>
    intro x3 x4 x5 x6 σ h
    simp only [f_X10_drive_9] at h
    refine Ex.blk 1000 rfl ?_
    rcases ite_sp h with ⟨c1, h⟩ | ⟨c1, h⟩
    · refine And.intro (fun _ => ?_) (fun hn => absurd c1 hn)
      show Ex mr_X10_drive sc (Cl MT pr sc (d + 1)) (rtE none (mk X) σ2) (162, [(0, .ref 38), (3, .int x3), (4, .int x4), (5, .int x5), (6, .int x6)], [], mk X, σ)
      refine Ex.blk 1000 rfl ?_
      cases h
      exact And.intro trivial ⟨rfl, rfl, rfl⟩
    · refine And.intro (fun hp => absurd hp c1) (fun _ => ?_)
      show Ex mr_X10_drive sc (Cl MT pr sc (d + 1)) (rtE none (mk X) σ2) (14, [(0, .ref 38), (3, .int x3), (4, .int x4), (5, .int x5), (6, .int x6)], [], mk X, σ)
      refine Ex.blk 1000 rfl ?_
      rcases ite_sp h with ⟨c2, h⟩ | ⟨c2, h⟩
      · refine And.intro (fun hp => absurd c2 hp) (fun _ => ?_)
        show Ex mr_X10_drive sc (Cl MT pr sc (d + 1)) (rtE none (mk X) σ2) (23, [(0, .ref 38), (3, .int x3), (4, .int x4), (5, .int x5), (6, .int x6)], [], mk X, σ)
        refine Ex.blk 5 rfl ?_
        refine And.intro (inb_ok (i := 15) (n := 19) (by decide)) ?_
        show Ex mr_X10_drive sc (Cl MT pr sc (d + 1)) (rtE none (mk X) σ2) (31, [(0, .ref 38), (3, .int x3), (4, .int x4), (5, .int x5), (6, .int x6)], [.int (gI σ 46 (15 : Int32).toNatClampNeg), .int 15, .ref 46], mk X, σ)
        refine Ex.blk 3 rfl ?_
        refine And.intro (inb_ok (i := 15) (n := 19) (by decide)) ?_
        show Ex mr_X10_drive sc (Cl MT pr sc (d + 1)) (rtE none (mk X) σ2) (34, [(0, .ref 38), (3, .int x3), (4, .int x4), (5, .int x5), (6, .int x6)], [], mk X, (sI σ 46 (15 : Int32).toNatClampNeg ((gI σ 46 (15 : Int32).toNatClampNeg) + 1)))
        refine Ex.blk 1000 rfl ?_
        cases h
        exact And.intro trivial ⟨rfl, rfl, rfl⟩
      · refine And.intro (fun _ => ?_) (fun hn => absurd c2 hn)
        show Ex mr_X10_drive sc (Cl MT pr sc (d + 1)) (rtE none (mk X) σ2) (35, [(0, .ref 38), (3, .int x3), (4, .int x4), (5, .int x5), (6, .int x6)], [], mk X, σ)
        refine Ex.blk 5 rfl ?_
        show Ex mr_X10_drive sc (Cl MT pr sc (d + 1)) (rtE none (mk X) σ2) (43, [(0, .ref 38), (3, .int x3), (4, .int x4), (5, .int x5), (6, .int x6)], [.int (0 + x6), .ref 46], mk X, σ)
        refine Ex.blk 1 rfl ?_
        obtain ⟨g3, h⟩ := gd_some h
        refine And.intro (inb_ok g3) ?_
        show Ex mr_X10_drive sc (Cl MT pr sc (d + 1)) (rtE none (mk X) σ2) (44, [(0, .ref 38), (3, .int x3), (4, .int x4), (5, .int x5), (6, .int x6)], [.int (gI σ 46 (0 + x6).toNatClampNeg)], mk X, σ)
        refine Ex.blk 5 rfl ?_
        show Ex mr_X10_drive sc (Cl MT pr sc (d + 1)) (rtE none (mk X) σ2) (51, [(7, .int ((gI σ 46 (0 + x6).toNatClampNeg) + (x3 * x4))), (0, .ref 38), (3, .int x3), (4, .int x4), (5, .int x5), (6, .int x6)], [], mk X, σ)
        refine Ex.pick (lv' := _) [1, 2, 5, 0] rfl ?_
        exact lk_X10_drive_51 d _ ih _ _ _ _ h
theorem cl_X10_drive {pr : Ct} {sc : Nat × (Nat → Int32)} {X : En} (d : Nat) {σ2 : St} {x1 : Int32} {x2 : Int32} {x3 : Int32} {σ : St} (h : f_X10_drive x1 x2 x3 σ = some σ2) : Cl MT pr sc (d + 1 + 1) 174 [.ref 38, .int x1, .int x2, .int x3] (mk X) σ none (mk X) σ2 := by
  refine cl_of mr_X10_drive rfl rfl ?_
  unfold f_X10_drive at h
  refine Ex.blk 5 rfl ?_
  show Ex mr_X10_drive sc (Cl MT pr sc (d + 1)) (rtE none (mk X) σ2) (7, [(5, .int 1), (4, .int x2), (0, .ref 38), (1, .int x1), (2, .int x2), (3, .int x3)], [.int x1], mk X, σ)
  refine Ex.blk 1000 rfl ?_
  show Ex mr_X10_drive sc (Cl MT pr sc (d + 1)) (rtE none (mk X) σ2) (9, [(6, .int x1), (5, .int 1), (4, .int x2), (0, .ref 38), (1, .int x1), (2, .int x2), (3, .int x3)], [], mk X, σ)
  refine Ex.pick (lv' := _) [3, 6, 2, 1, 0] rfl ?_
  exact lk_X10_drive_9 d FU _ _ _ _ _ h
theorem lk_X10_digitOf_17 {pr : Ct} {sc : Nat × (Nat → Int32)} {X : En} (d : Nat) {r : Int32} {σ2 : St} (k5 : Int32 → Int64 → Int32 → St → Option (Int32 × St)) (hk5 : ∀ (x2 : Int32) (x3 : Int64) (x5 : Int32) (σ : St), k5 x2 x3 x5 σ = some (r, σ2) → Ex mr_X10_digitOf sc (Cl MT pr sc (d + 0)) (rtE (some (.int r)) (mk X) σ2) (5, [(2, .int x2), (3, .long x3), (5, .int x5)], [], mk X, σ)) (x2 : Int32) (x3 : Int64) (x5 : Int32) (σ : St) (h : f_X10_digitOf_17 k5 x2 x3 x5 σ = some (r, σ2)) : Ex mr_X10_digitOf sc (Cl MT pr sc (d + 0)) (rtE (some (.int r)) (mk X) σ2) (17, [(2, .int x2), (3, .long x3), (5, .int x5)], [], mk X, σ) := by
  unfold f_X10_digitOf_17 at h
  refine Ex.blk 1000 rfl ?_
  show Ex mr_X10_digitOf sc (Cl MT pr sc (d + 0)) (rtE (some (.int r)) (mk X) σ2) (5, [(5, .int (x5 + 1)), (2, .int x2), (3, .long x3)], [], mk X, σ)
  refine Ex.pick (lv' := _) [1, 2, 0] rfl ?_
  exact hk5 _ _ _ _ h
theorem lk_X10_digitOf_5 {pr : Ct} {sc : Nat × (Nat → Int32)} {X : En} (d : Nat) {r : Int32} {σ2 : St} : ∀ (n : Nat) (x2 : Int32) (x3 : Int64) (x5 : Int32) (σ : St), f_X10_digitOf_5 n x2 x3 x5 σ = some (r, σ2) → Ex mr_X10_digitOf sc (Cl MT pr sc (d + 0)) (rtE (some (.int r)) (mk X) σ2) (5, [(2, .int x2), (3, .long x3), (5, .int x5)], [], mk X, σ) := by
  intro n
  induction n with
  | zero =>
    intro x2 x3 x5 σ h
    cases h
  | succ n ih =>
    intro x2 x3 x5 σ h
    simp only [f_X10_digitOf_5] at h
    refine Ex.blk 1000 rfl ?_
    rcases ite_sp h with ⟨c1, h⟩ | ⟨c1, h⟩
    · refine And.intro (fun _ => ?_) (fun hn => absurd c1 hn)
      show Ex mr_X10_digitOf sc (Cl MT pr sc (d + 0)) (rtE (some (.int r)) (mk X) σ2) (23, [(2, .int x2), (3, .long x3), (5, .int x5)], [], mk X, σ)
      refine Ex.blk 3 rfl ?_
      refine And.intro (nzJ_ok (b := 10) (by decide)) ?_
      show Ex mr_X10_digitOf sc (Cl MT pr sc (d + 0)) (rtE (some (.int r)) (mk X) σ2) (28, [(2, .int x2), (3, .long x3), (5, .int x5)], [.long (rmJ x3 10)], mk X, σ)
      refine Ex.blk 1000 rfl ?_
      cases h
      exact And.intro trivial ⟨rfl, rfl, rfl⟩
    · refine And.intro (fun hp => absurd hp c1) (fun _ => ?_)
      show Ex mr_X10_digitOf sc (Cl MT pr sc (d + 0)) (rtE (some (.int r)) (mk X) σ2) (11, [(2, .int x2), (3, .long x3), (5, .int x5)], [], mk X, σ)
      refine Ex.blk 3 rfl ?_
      refine And.intro (nzJ_ok (b := 10) (by decide)) ?_
      show Ex mr_X10_digitOf sc (Cl MT pr sc (d + 0)) (rtE (some (.int r)) (mk X) σ2) (16, [(2, .int x2), (3, .long x3), (5, .int x5)], [.long (x3 / 10)], mk X, σ)
      refine Ex.blk 1 rfl ?_
      show Ex mr_X10_digitOf sc (Cl MT pr sc (d + 0)) (rtE (some (.int r)) (mk X) σ2) (17, [(3, .long (x3 / 10)), (2, .int x2), (5, .int x5)], [], mk X, σ)
      refine Ex.pick (lv' := _) [1, 0, 2] rfl ?_
      exact lk_X10_digitOf_17 d _ ih _ _ _ _ h
theorem cl_X10_digitOf {pr : Ct} {sc : Nat × (Nat → Int32)} {X : En} (d : Nat) {r : Int32} {σ2 : St} {x0 : Int64} {x2 : Int32} {σ : St} (h : f_X10_digitOf x0 x2 σ = some (r, σ2)) : Cl MT pr sc (d + 0 + 1) 175 [.long x0, .int x2] (mk X) σ (some (.int r)) (mk X) σ2 := by
  refine cl_of mr_X10_digitOf rfl rfl ?_
  unfold f_X10_digitOf at h
  refine Ex.blk 1000 rfl ?_
  show Ex mr_X10_digitOf sc (Cl MT pr sc (d + 0)) (rtE (some (.int r)) (mk X) σ2) (5, [(5, .int 0), (3, .long x0), (0, .long x0), (2, .int x2)], [], mk X, σ)
  refine Ex.pick (lv' := _) [3, 1, 0] rfl ?_
  exact lk_X10_digitOf_5 d FU _ _ _ _ h
theorem lk_X10_highest_29 {pr : Ct} {sc : Nat × (Nat → Int32)} {X : En} (d : Nat) {r : Int32} {σ2 : St} (k5 : Int64 → Int32 → Int32 → St → Option (Int32 × St)) (hk5 : ∀ (x1 : Int64) (x3 : Int32) (x4 : Int32) (σ : St), k5 x1 x3 x4 σ = some (r, σ2) → Ex mr_X10_highest sc (Cl MT pr sc (d + 1)) (rtE (some (.int r)) (mk X) σ2) (5, [(0, .ref 38), (1, .long x1), (3, .int x3), (4, .int x4)], [], mk X, σ)) (x1 : Int64) (x4 : Int32) (y0 : Int32) (σ : St) (h : f_X10_highest_29 k5 x1 x4 y0 σ = some (r, σ2)) : Ex mr_X10_highest sc (Cl MT pr sc (d + 1)) (rtE (some (.int r)) (mk X) σ2) (29, [(0, .ref 38), (1, .long x1), (4, .int x4)], [.int y0], mk X, σ) := by
  unfold f_X10_highest_29 at h
  refine Ex.blk 1000 rfl ?_
  show Ex mr_X10_highest sc (Cl MT pr sc (d + 1)) (rtE (some (.int r)) (mk X) σ2) (5, [(4, .int (x4 + 1)), (3, .int y0), (0, .ref 38), (1, .long x1)], [], mk X, σ)
  refine Ex.pick (lv' := _) [2, 3, 1, 0] rfl ?_
  exact hk5 _ _ _ _ h
theorem lk_X10_highest_5 {pr : Ct} {sc : Nat × (Nat → Int32)} {X : En} (d : Nat) {r : Int32} {σ2 : St} : ∀ (n : Nat) (x1 : Int64) (x3 : Int32) (x4 : Int32) (σ : St), f_X10_highest_5 n x1 x3 x4 σ = some (r, σ2) → Ex mr_X10_highest sc (Cl MT pr sc (d + 1)) (rtE (some (.int r)) (mk X) σ2) (5, [(0, .ref 38), (1, .long x1), (3, .int x3), (4, .int x4)], [], mk X, σ) := by
  intro n
  induction n with
  | zero =>
    intro x1 x3 x4 σ h
    cases h
  | succ n ih =>
    intro x1 x3 x4 σ h
    simp only [f_X10_highest_5] at h
    refine Ex.blk 1000 rfl ?_
    rcases ite_sp h with ⟨c1, h⟩ | ⟨c1, h⟩
    · refine And.intro (fun _ => ?_) (fun hn => absurd c1 hn)
      show Ex mr_X10_highest sc (Cl MT pr sc (d + 1)) (rtE (some (.int r)) (mk X) σ2) (36, [(0, .ref 38), (1, .long x1), (3, .int x3), (4, .int x4)], [], mk X, σ)
      refine Ex.blk 1000 rfl ?_
      cases h
      exact And.intro trivial ⟨rfl, rfl, rfl⟩
    · refine And.intro (fun hp => absurd hp c1) (fun _ => ?_)
      show Ex mr_X10_highest sc (Cl MT pr sc (d + 1)) (rtE (some (.int r)) (mk X) σ2) (14, [(0, .ref 38), (1, .long x1), (3, .int x3), (4, .int x4)], [], mk X, σ)
      refine Ex.blk 3 rfl ?_
      obtain ⟨p1, hp1, h⟩ := bind_sp h
      refine Exists.intro (some (.int p1.1)) (Exists.intro (mk X) (Exists.intro p1.2 (And.intro (cl_X10_digitOf (d + 0) hp1) ?_)))
      show Ex mr_X10_highest sc (Cl MT pr sc (d + 1)) (rtE (some (.int r)) (mk X) σ2) (20, [(0, .ref 38), (1, .long x1), (3, .int x3), (4, .int x4)], [.int p1.1], mk X, p1.2)
      refine Ex.blk 1000 rfl ?_
      rcases ite_sp h with ⟨c2, h⟩ | ⟨c2, h⟩
      · refine And.intro (fun _ => ?_) (fun hn => absurd c2 hn)
        show Ex mr_X10_highest sc (Cl MT pr sc (d + 1)) (rtE (some (.int r)) (mk X) σ2) (28, [(0, .ref 38), (1, .long x1), (3, .int x3), (4, .int x4)], [], mk X, p1.2)
        refine Ex.blk 1000 rfl ?_
        show Ex mr_X10_highest sc (Cl MT pr sc (d + 1)) (rtE (some (.int r)) (mk X) σ2) (29, [(0, .ref 38), (1, .long x1), (3, .int x3), (4, .int x4)], [.int x3], mk X, p1.2)
        refine Ex.pick (lv' := _) [0, 1, 3] rfl ?_
        exact lk_X10_highest_29 d _ ih _ _ _ _ h
      · refine And.intro (fun hp => absurd hp c2) (fun _ => ?_)
        show Ex mr_X10_highest sc (Cl MT pr sc (d + 1)) (rtE (some (.int r)) (mk X) σ2) (23, [(0, .ref 38), (1, .long x1), (3, .int x3), (4, .int x4)], [], mk X, p1.2)
        refine Ex.blk 1000 rfl ?_
        show Ex mr_X10_highest sc (Cl MT pr sc (d + 1)) (rtE (some (.int r)) (mk X) σ2) (29, [(0, .ref 38), (1, .long x1), (3, .int x3), (4, .int x4)], [.int x4], mk X, p1.2)
        refine Ex.pick (lv' := _) [0, 1, 3] rfl ?_
        exact lk_X10_highest_29 d _ ih _ _ _ _ h
theorem cl_X10_highest {pr : Ct} {sc : Nat × (Nat → Int32)} {X : En} (d : Nat) {r : Int32} {σ2 : St} {x1 : Int64} {σ : St} (h : f_X10_highest x1 σ = some (r, σ2)) : Cl MT pr sc (d + 1 + 1) 176 [.ref 38, .long x1] (mk X) σ (some (.int r)) (mk X) σ2 := by
  refine cl_of mr_X10_highest rfl rfl ?_
  unfold f_X10_highest at h
  refine Ex.blk 1000 rfl ?_
  show Ex mr_X10_highest sc (Cl MT pr sc (d + 1)) (rtE (some (.int r)) (mk X) σ2) (5, [(4, .int 0), (3, .int (-1)), (0, .ref 38), (1, .long x1)], [], mk X, σ)
  refine Ex.pick (lv' := _) [2, 3, 1, 0] rfl ?_
  exact lk_X10_highest_5 d FU _ _ _ _ h
theorem lk_X10_keep_60 {pr : Ct} {sc : Nat × (Nat → Int32)} {X : En} (d : Nat) {σ2 : St} (σ : St) (h : f_X10_keep_60 σ = some σ2) : Ex mr_X10_keep sc (Cl MT pr sc (d + 0)) (rtE none (mk X) σ2) (60, [(0, .ref 38)], [], mk X, σ) := by
  unfold f_X10_keep_60 at h
  refine Ex.blk 5 rfl ?_
  show Ex mr_X10_keep sc (Cl MT pr sc (d + 0)) (rtE none (mk X) σ2) (68, [(0, .ref 38)], [.int 1, .int (gI σ 38 27), .int 40, .ref 38], mk X, σ)
  refine Ex.blk 1000 rfl ?_
  cases h
  exact And.intro trivial ⟨rfl, rfl, rfl⟩
theorem lk_X10_keep_28 {pr : Ct} {sc : Nat × (Nat → Int32)} {X : En} (d : Nat) {σ2 : St} (k2 : Int32 → St → Option (St)) (hk2 : ∀ (x1 : Int32) (σ : St), k2 x1 σ = some σ2 → Ex mr_X10_keep sc (Cl MT pr sc (d + 0)) (rtE none (mk X) σ2) (2, [(0, .ref 38), (1, .int x1)], [], mk X, σ)) (x1 : Int32) (σ : St) (h : f_X10_keep_28 k2 x1 σ = some σ2) : Ex mr_X10_keep sc (Cl MT pr sc (d + 0)) (rtE none (mk X) σ2) (28, [(0, .ref 38), (1, .int x1)], [], mk X, σ) := by
  unfold f_X10_keep_28 at h
  refine Ex.blk 1000 rfl ?_
  show Ex mr_X10_keep sc (Cl MT pr sc (d + 0)) (rtE none (mk X) σ2) (2, [(1, .int (x1 + 1)), (0, .ref 38)], [], mk X, σ)
  refine Ex.pick (lv' := _) [1, 0] rfl ?_
  exact hk2 _ _ h
theorem lk_X10_keep_2 {pr : Ct} {sc : Nat × (Nat → Int32)} {X : En} (d : Nat) {σ2 : St} : ∀ (n : Nat) (x1 : Int32) (σ : St), f_X10_keep_2 n x1 σ = some σ2 → Ex mr_X10_keep sc (Cl MT pr sc (d + 0)) (rtE none (mk X) σ2) (2, [(0, .ref 38), (1, .int x1)], [], mk X, σ) := by
  intro n
  induction n with
  | zero =>
    intro x1 σ h
    cases h
  | succ n ih =>
    intro x1 σ h
    simp only [f_X10_keep_2] at h
    refine Ex.blk 1000 rfl ?_
    rcases ite_sp h with ⟨c1, h⟩ | ⟨c1, h⟩
    · refine And.intro (fun _ => ?_) (fun hn => absurd c1 hn)
      show Ex mr_X10_keep sc (Cl MT pr sc (d + 0)) (rtE none (mk X) σ2) (34, [(0, .ref 38), (1, .int x1)], [], mk X, σ)
      refine Ex.blk 5 rfl ?_
      show Ex mr_X10_keep sc (Cl MT pr sc (d + 0)) (rtE none (mk X) σ2) (43, [(0, .ref 38), (1, .int x1)], [.ref 38, .int (gI σ 38 28), .ref 50], mk X, σ)
      refine Ex.blk 2 rfl ?_
      obtain ⟨g2, h⟩ := gd_some h
      refine And.intro (inb_ok g2) ?_
      show Ex mr_X10_keep sc (Cl MT pr sc (d + 0)) (rtE none (mk X) σ2) (47, [(0, .ref 38), (1, .int x1)], [], mk X, (sJ σ 50 (gI σ 38 28).toNatClampNeg (gJ σ 38 18)))
      refine Ex.blk 5 rfl ?_
      show Ex mr_X10_keep sc (Cl MT pr sc (d + 0)) (rtE none (mk X) σ2) (54, [(0, .ref 38), (1, .int x1)], [.int ((gI (sJ σ 50 (gI σ 38 28).toNatClampNeg (gJ σ 38 18)) 38 28) + 1), .ref 38], mk X, (sJ σ 50 (gI σ 38 28).toNatClampNeg (gJ σ 38 18)))
      refine Ex.blk 2 rfl ?_
      refine And.intro (nzI_ok (b := 40) (by decide)) ?_
      show Ex mr_X10_keep sc (Cl MT pr sc (d + 0)) (rtE none (mk X) σ2) (57, [(0, .ref 38), (1, .int x1)], [.int (rmI ((gI (sJ σ 50 (gI σ 38 28).toNatClampNeg (gJ σ 38 18)) 38 28) + 1) 40), .ref 38], mk X, (sJ σ 50 (gI σ 38 28).toNatClampNeg (gJ σ 38 18)))
      refine Ex.blk 1 rfl ?_
      show Ex mr_X10_keep sc (Cl MT pr sc (d + 0)) (rtE none (mk X) σ2) (60, [(0, .ref 38), (1, .int x1)], [], mk X, (sI (sJ σ 50 (gI σ 38 28).toNatClampNeg (gJ σ 38 18)) 38 28 (rmI ((gI (sJ σ 50 (gI σ 38 28).toNatClampNeg (gJ σ 38 18)) 38 28) + 1) 40)))
      refine Ex.pick (lv' := _) [0] rfl ?_
      exact lk_X10_keep_60 d _ h
    · refine And.intro (fun hp => absurd hp c1) (fun _ => ?_)
      show Ex mr_X10_keep sc (Cl MT pr sc (d + 0)) (rtE none (mk X) σ2) (8, [(0, .ref 38), (1, .int x1)], [], mk X, σ)
      refine Ex.blk 5 rfl ?_
      show Ex mr_X10_keep sc (Cl MT pr sc (d + 0)) (rtE none (mk X) σ2) (18, [(0, .ref 38), (1, .int x1)], [.int (gI σ 38 28), .int 19, .ref 49], mk X, σ)
      refine Ex.blk 5 rfl ?_
      show Ex mr_X10_keep sc (Cl MT pr sc (d + 0)) (rtE none (mk X) σ2) (25, [(0, .ref 38), (1, .int x1)], [.ref 46, .int ((19 * (gI σ 38 28)) + x1), .ref 49], mk X, σ)
      refine Ex.blk 2 rfl ?_
      obtain ⟨g3, h⟩ := gd_some h
      refine And.intro (inb_ok g3) ?_
      show Ex mr_X10_keep sc (Cl MT pr sc (d + 0)) (rtE none (mk X) σ2) (27, [(0, .ref 38), (1, .int x1)], [.int (gI σ 46 x1.toNatClampNeg), .int ((19 * (gI σ 38 28)) + x1), .ref 49], mk X, σ)
      refine Ex.blk 1 rfl ?_
      obtain ⟨g4, h⟩ := gd_some h
      refine And.intro (inb_ok g4) ?_
      show Ex mr_X10_keep sc (Cl MT pr sc (d + 0)) (rtE none (mk X) σ2) (28, [(0, .ref 38), (1, .int x1)], [], mk X, (sI σ 49 ((19 * (gI σ 38 28)) + x1).toNatClampNeg (gI σ 46 x1.toNatClampNeg)))
      exact lk_X10_keep_28 d _ ih _ _ h
theorem cl_X10_keep {pr : Ct} {sc : Nat × (Nat → Int32)} {X : En} (d : Nat) {σ2 : St} {σ : St} (h : f_X10_keep σ = some σ2) : Cl MT pr sc (d + 0 + 1) 177 [.ref 38] (mk X) σ none (mk X) σ2 := by
  refine cl_of mr_X10_keep rfl rfl ?_
  unfold f_X10_keep at h
  refine Ex.blk 1000 rfl ?_
  show Ex mr_X10_keep sc (Cl MT pr sc (d + 0)) (rtE none (mk X) σ2) (2, [(1, .int 0), (0, .ref 38)], [], mk X, σ)
  refine Ex.pick (lv' := _) [1, 0] rfl ?_
  exact lk_X10_keep_2 d FU _ _ h
theorem lk_X10_addOf_107 {pr : Ct} {sc : Nat × (Nat → Int32)} {X : En} (d : Nat) {σ2 : St} (k85 : Int32 → Int32 → Int32 → Int32 → St → Option (St)) (hk85 : ∀ (x1 : Int32) (x2 : Int32) (x3 : Int32) (x5 : Int32) (σ : St), k85 x1 x2 x3 x5 σ = some σ2 → Ex mr_X10_addOf sc (Cl MT pr sc (d + 2)) (rtE none (mk X) σ2) (85, [(0, .ref 38), (1, .int x1), (2, .int x2), (3, .int x3), (5, .int x5)], [], mk X, σ)) (x1 : Int32) (x2 : Int32) (x3 : Int32) (x5 : Int32) (y0 : Int32) (σ : St) (h : f_X10_addOf_107 k85 x1 x2 x3 x5 y0 σ = some σ2) : Ex mr_X10_addOf sc (Cl MT pr sc (d + 2)) (rtE none (mk X) σ2) (107, [(0, .ref 38), (1, .int x1), (2, .int x2), (3, .int x3), (5, .int x5)], [.int y0], mk X, σ) := by
  unfold f_X10_addOf_107 at h
  refine Ex.blk 5 rfl ?_
  show Ex mr_X10_addOf sc (Cl MT pr sc (d + 2)) (rtE none (mk X) σ2) (114, [(6, .int y0), (0, .ref 38), (1, .int x1), (2, .int x2), (3, .int x3), (5, .int x5)], [.int x1, .ref 38, .int y0, .ref 38], mk X, σ)
  refine Ex.blk 3 rfl ?_
  obtain ⟨p2, hp2, h⟩ := bind_sp h
  refine Exists.intro (some (.int p2.1)) (Exists.intro (mk X) (Exists.intro p2.2 (And.intro (cl_X10_digitOf (d + 1) hp2) ?_)))
  show Ex mr_X10_addOf sc (Cl MT pr sc (d + 2)) (rtE none (mk X) σ2) (120, [(6, .int y0), (0, .ref 38), (1, .int x1), (2, .int x2), (3, .int x3), (5, .int x5)], [.int p2.1, .ref 38, .int y0, .ref 38], mk X, p2.2)
  refine Ex.blk 1 rfl ?_
  obtain ⟨p3, hp3, h⟩ := bind_sp h
  refine Exists.intro (some (.int p3.1)) (Exists.intro (mk X) (Exists.intro p3.2 (And.intro (cl_X10_heard (d + 0) hp3) ?_)))
  show Ex mr_X10_addOf sc (Cl MT pr sc (d + 2)) (rtE none (mk X) σ2) (123, [(6, .int y0), (0, .ref 38), (1, .int x1), (2, .int x2), (3, .int x3), (5, .int x5)], [.int p3.1, .int y0, .ref 38], mk X, p3.2)
  refine Ex.blk 2 rfl ?_
  obtain ⟨p4, hp4, h⟩ := bind_sp h
  refine Exists.intro none (Exists.intro (mk X) (Exists.intro p4 (And.intro (cl_X10_drive (d + 0) hp4) ?_)))
  show Ex mr_X10_addOf sc (Cl MT pr sc (d + 2)) (rtE none (mk X) σ2) (127, [(6, .int y0), (0, .ref 38), (1, .int x1), (2, .int x2), (3, .int x3), (5, .int x5)], [], mk X, p4)
  refine Ex.blk 1000 rfl ?_
  show Ex mr_X10_addOf sc (Cl MT pr sc (d + 2)) (rtE none (mk X) σ2) (85, [(5, .int (x5 + 1)), (6, .int y0), (0, .ref 38), (1, .int x1), (2, .int x2), (3, .int x3)], [], mk X, p4)
  refine Ex.pick (lv' := _) [2, 3, 4, 5, 0] rfl ?_
  exact hk85 _ _ _ _ _ h
theorem lk_X10_addOf_85 {pr : Ct} {sc : Nat × (Nat → Int32)} {X : En} (d : Nat) {σ2 : St} : ∀ (n : Nat) (x1 : Int32) (x2 : Int32) (x3 : Int32) (x5 : Int32) (σ : St), f_X10_addOf_85 n x1 x2 x3 x5 σ = some σ2 → Ex mr_X10_addOf sc (Cl MT pr sc (d + 2)) (rtE none (mk X) σ2) (85, [(0, .ref 38), (1, .int x1), (2, .int x2), (3, .int x3), (5, .int x5)], [], mk X, σ) := by
  intro n
  induction n with
  | zero =>
    intro x1 x2 x3 x5 σ h
    cases h
  | succ n ih =>
    intro x1 x2 x3 x5 σ h
    simp only [f_X10_addOf_85] at h
    refine Ex.blk 1000 rfl ?_
    rcases ite_sp h with ⟨c1, h⟩ | ⟨c1, h⟩
    · refine And.intro (fun _ => ?_) (fun hn => absurd c1 hn)
      show Ex mr_X10_addOf sc (Cl MT pr sc (d + 2)) (rtE none (mk X) σ2) (133, [(0, .ref 38), (1, .int x1), (2, .int x2), (3, .int x3), (5, .int x5)], [], mk X, σ)
      refine Ex.blk 5 rfl ?_
      refine And.intro (inb_ok (i := 18) (n := 19) (by decide)) ?_
      show Ex mr_X10_addOf sc (Cl MT pr sc (d + 2)) (rtE none (mk X) σ2) (141, [(0, .ref 38), (1, .int x1), (2, .int x2), (3, .int x3), (5, .int x5)], [.int (gI σ 46 (18 : Int32).toNatClampNeg), .int 18, .ref 46], mk X, σ)
      refine Ex.blk 3 rfl ?_
      refine And.intro (inb_ok (i := 18) (n := 19) (by decide)) ?_
      show Ex mr_X10_addOf sc (Cl MT pr sc (d + 2)) (rtE none (mk X) σ2) (144, [(0, .ref 38), (1, .int x1), (2, .int x2), (3, .int x3), (5, .int x5)], [], mk X, (sI σ 46 (18 : Int32).toNatClampNeg ((gI σ 46 (18 : Int32).toNatClampNeg) + 1)))
      refine Ex.blk 1000 rfl ?_
      cases h
      exact And.intro trivial ⟨rfl, rfl, rfl⟩
    · refine And.intro (fun hp => absurd hp c1) (fun _ => ?_)
      show Ex mr_X10_addOf sc (Cl MT pr sc (d + 2)) (rtE none (mk X) σ2) (91, [(0, .ref 38), (1, .int x1), (2, .int x2), (3, .int x3), (5, .int x5)], [], mk X, σ)
      refine Ex.blk 1000 rfl ?_
      rcases ite_sp h with ⟨c2, h⟩ | ⟨c2, h⟩
      · refine And.intro (fun hp => absurd c2 hp) (fun _ => ?_)
        show Ex mr_X10_addOf sc (Cl MT pr sc (d + 2)) (rtE none (mk X) σ2) (98, [(0, .ref 38), (1, .int x1), (2, .int x2), (3, .int x3), (5, .int x5)], [], mk X, σ)
        refine Ex.blk 1000 rfl ?_
        show Ex mr_X10_addOf sc (Cl MT pr sc (d + 2)) (rtE none (mk X) σ2) (107, [(0, .ref 38), (1, .int x1), (2, .int x2), (3, .int x3), (5, .int x5)], [.int x5], mk X, σ)
        exact lk_X10_addOf_107 d _ ih _ _ _ _ _ _ h
      · refine And.intro (fun _ => ?_) (fun hn => absurd c2 hn)
        show Ex mr_X10_addOf sc (Cl MT pr sc (d + 2)) (rtE none (mk X) σ2) (103, [(0, .ref 38), (1, .int x1), (2, .int x2), (3, .int x3), (5, .int x5)], [], mk X, σ)
        refine Ex.blk 1000 rfl ?_
        show Ex mr_X10_addOf sc (Cl MT pr sc (d + 2)) (rtE none (mk X) σ2) (107, [(0, .ref 38), (1, .int x1), (2, .int x2), (3, .int x3), (5, .int x5)], [.int (x3 - x5)], mk X, σ)
        exact lk_X10_addOf_107 d _ ih _ _ _ _ _ _ h
theorem lk_X10_addOf_80 {pr : Ct} {sc : Nat × (Nat → Int32)} {X : En} (d : Nat) {σ2 : St} (x1 : Int32) (x2 : Int32) (x3 : Int32) (y0 : Int32) (y1 : Int32) (y2 : Int32) (σ : St) (h : f_X10_addOf_80 x1 x2 x3 y0 y1 y2 σ = some σ2) : Ex mr_X10_addOf sc (Cl MT pr sc (d + 2)) (rtE none (mk X) σ2) (80, [(0, .ref 38), (1, .int x1), (2, .int x2), (3, .int x3)], [.int y0, .int y1, .int y2, .ref 46], mk X, σ) := by
  unfold f_X10_addOf_80 at h
  refine Ex.blk 2 rfl ?_
  obtain ⟨g1, h⟩ := gd_some h
  refine And.intro (inb_ok g1) ?_
  show Ex mr_X10_addOf sc (Cl MT pr sc (d + 2)) (rtE none (mk X) σ2) (82, [(0, .ref 38), (1, .int x1), (2, .int x2), (3, .int x3)], [], mk X, (sI σ 46 y2.toNatClampNeg (y1 + y0)))
  refine Ex.blk 1000 rfl ?_
  show Ex mr_X10_addOf sc (Cl MT pr sc (d + 2)) (rtE none (mk X) σ2) (85, [(5, .int 0), (0, .ref 38), (1, .int x1), (2, .int x2), (3, .int x3)], [], mk X, (sI σ 46 y2.toNatClampNeg (y1 + y0)))
  refine Ex.pick (lv' := _) [1, 2, 3, 4, 0] rfl ?_
  exact lk_X10_addOf_85 d FU _ _ _ _ _ h
theorem lk_X10_addOf_54 {pr : Ct} {sc : Nat × (Nat → Int32)} {X : En} (d : Nat) {σ2 : St} (k27 : Int32 → Int32 → Int32 → Int32 → Int32 → St → Option (St)) (hk27 : ∀ (x1 : Int32) (x2 : Int32) (x3 : Int32) (x4 : Int32) (x5 : Int32) (σ : St), k27 x1 x2 x3 x4 x5 σ = some σ2 → Ex mr_X10_addOf sc (Cl MT pr sc (d + 2)) (rtE none (mk X) σ2) (27, [(0, .ref 38), (1, .int x1), (2, .int x2), (3, .int x3), (4, .int x4), (5, .int x5)], [], mk X, σ)) (x1 : Int32) (x2 : Int32) (x3 : Int32) (x5 : Int32) (y0 : Int32) (σ : St) (h : f_X10_addOf_54 k27 x1 x2 x3 x5 y0 σ = some σ2) : Ex mr_X10_addOf sc (Cl MT pr sc (d + 2)) (rtE none (mk X) σ2) (54, [(0, .ref 38), (1, .int x1), (2, .int x2), (3, .int x3), (5, .int x5)], [.int y0], mk X, σ) := by
  unfold f_X10_addOf_54 at h
  refine Ex.blk 1000 rfl ?_
  show Ex mr_X10_addOf sc (Cl MT pr sc (d + 2)) (rtE none (mk X) σ2) (27, [(5, .int (x5 + 1)), (4, .int y0), (0, .ref 38), (1, .int x1), (2, .int x2), (3, .int x3)], [], mk X, σ)
  refine Ex.pick (lv' := _) [2, 3, 4, 5, 1, 0] rfl ?_
  exact hk27 _ _ _ _ _ _ h
theorem lk_X10_addOf_49 {pr : Ct} {sc : Nat × (Nat → Int32)} {X : En} (d : Nat) {σ2 : St} (k27 : Int32 → Int32 → Int32 → Int32 → Int32 → St → Option (St)) (hk27 : ∀ (x1 : Int32) (x2 : Int32) (x3 : Int32) (x4 : Int32) (x5 : Int32) (σ : St), k27 x1 x2 x3 x4 x5 σ = some σ2 → Ex mr_X10_addOf sc (Cl MT pr sc (d + 2)) (rtE none (mk X) σ2) (27, [(0, .ref 38), (1, .int x1), (2, .int x2), (3, .int x3), (4, .int x4), (5, .int x5)], [], mk X, σ)) (x1 : Int32) (x2 : Int32) (x3 : Int32) (x5 : Int32) (σ : St) (h : f_X10_addOf_49 k27 x1 x2 x3 x5 σ = some σ2) : Ex mr_X10_addOf sc (Cl MT pr sc (d + 2)) (rtE none (mk X) σ2) (49, [(0, .ref 38), (1, .int x1), (2, .int x2), (3, .int x3), (5, .int x5)], [], mk X, σ) := by
  unfold f_X10_addOf_49 at h
  refine Ex.blk 1000 rfl ?_
  show Ex mr_X10_addOf sc (Cl MT pr sc (d + 2)) (rtE none (mk X) σ2) (54, [(0, .ref 38), (1, .int x1), (2, .int x2), (3, .int x3), (5, .int x5)], [.int 1], mk X, σ)
  exact lk_X10_addOf_54 d _ hk27 _ _ _ _ _ _ h
theorem lk_X10_addOf_27 {pr : Ct} {sc : Nat × (Nat → Int32)} {X : En} (d : Nat) {σ2 : St} : ∀ (n : Nat) (x1 : Int32) (x2 : Int32) (x3 : Int32) (x4 : Int32) (x5 : Int32) (σ : St), f_X10_addOf_27 n x1 x2 x3 x4 x5 σ = some σ2 → Ex mr_X10_addOf sc (Cl MT pr sc (d + 2)) (rtE none (mk X) σ2) (27, [(0, .ref 38), (1, .int x1), (2, .int x2), (3, .int x3), (4, .int x4), (5, .int x5)], [], mk X, σ) := by
  intro n
  induction n with
  | zero =>
    intro x1 x2 x3 x4 x5 σ h
    cases h
  | succ n ih =>
    intro x1 x2 x3 x4 x5 σ h
    simp only [f_X10_addOf_27] at h
    refine Ex.blk 1000 rfl ?_
    rcases ite_sp h with ⟨c1, h⟩ | ⟨c1, h⟩
    · refine And.intro (fun _ => ?_) (fun hn => absurd c1 hn)
      show Ex mr_X10_addOf sc (Cl MT pr sc (d + 2)) (rtE none (mk X) σ2) (62, [(0, .ref 38), (1, .int x1), (2, .int x2), (3, .int x3), (4, .int x4), (5, .int x5)], [], mk X, σ)
      refine Ex.blk 5 rfl ?_
      refine And.intro (inb_ok (i := 15) (n := 19) (by decide)) ?_
      show Ex mr_X10_addOf sc (Cl MT pr sc (d + 2)) (rtE none (mk X) σ2) (70, [(0, .ref 38), (1, .int x1), (2, .int x2), (3, .int x3), (4, .int x4), (5, .int x5)], [.int (gI σ 46 (15 : Int32).toNatClampNeg), .int 15, .ref 46], mk X, σ)
      refine Ex.blk 1000 rfl ?_
      rcases ite_sp h with ⟨c2, h⟩ | ⟨c2, h⟩
      · refine And.intro (fun _ => ?_) (fun hn => absurd c2 hn)
        show Ex mr_X10_addOf sc (Cl MT pr sc (d + 2)) (rtE none (mk X) σ2) (79, [(0, .ref 38), (1, .int x1), (2, .int x2), (3, .int x3), (4, .int x4), (5, .int x5)], [.int (gI σ 46 (15 : Int32).toNatClampNeg), .int 15, .ref 46], mk X, σ)
        refine Ex.blk 1000 rfl ?_
        show Ex mr_X10_addOf sc (Cl MT pr sc (d + 2)) (rtE none (mk X) σ2) (80, [(0, .ref 38), (1, .int x1), (2, .int x2), (3, .int x3), (4, .int x4), (5, .int x5)], [.int 0, .int (gI σ 46 (15 : Int32).toNatClampNeg), .int 15, .ref 46], mk X, σ)
        refine Ex.pick (lv' := _) [0, 1, 2, 3] rfl ?_
        exact lk_X10_addOf_80 d _ _ _ _ _ _ _ h
      · refine And.intro (fun hp => absurd hp c2) (fun _ => ?_)
        show Ex mr_X10_addOf sc (Cl MT pr sc (d + 2)) (rtE none (mk X) σ2) (75, [(0, .ref 38), (1, .int x1), (2, .int x2), (3, .int x3), (4, .int x4), (5, .int x5)], [.int (gI σ 46 (15 : Int32).toNatClampNeg), .int 15, .ref 46], mk X, σ)
        refine Ex.blk 1000 rfl ?_
        show Ex mr_X10_addOf sc (Cl MT pr sc (d + 2)) (rtE none (mk X) σ2) (80, [(0, .ref 38), (1, .int x1), (2, .int x2), (3, .int x3), (4, .int x4), (5, .int x5)], [.int 1, .int (gI σ 46 (15 : Int32).toNatClampNeg), .int 15, .ref 46], mk X, σ)
        refine Ex.pick (lv' := _) [0, 1, 2, 3] rfl ?_
        exact lk_X10_addOf_80 d _ _ _ _ _ _ _ h
    · refine And.intro (fun hp => absurd hp c1) (fun _ => ?_)
      show Ex mr_X10_addOf sc (Cl MT pr sc (d + 2)) (rtE none (mk X) σ2) (34, [(0, .ref 38), (1, .int x1), (2, .int x2), (3, .int x3), (4, .int x4), (5, .int x5)], [], mk X, σ)
      refine Ex.blk 1000 rfl ?_
      rcases ite_sp h with ⟨c3, h⟩ | ⟨c3, h⟩
      · refine And.intro (fun hp => absurd c3 hp) (fun _ => ?_)
        show Ex mr_X10_addOf sc (Cl MT pr sc (d + 2)) (rtE none (mk X) σ2) (39, [(0, .ref 38), (1, .int x1), (2, .int x2), (3, .int x3), (4, .int x4), (5, .int x5)], [], mk X, σ)
        refine Ex.blk 4 rfl ?_
        obtain ⟨p5, hp5, h⟩ := bind_sp h
        refine Exists.intro (some (.int p5.1)) (Exists.intro (mk X) (Exists.intro p5.2 (And.intro (cl_X10_digitOf (d + 1) hp5) ?_)))
        show Ex mr_X10_addOf sc (Cl MT pr sc (d + 2)) (rtE none (mk X) σ2) (46, [(0, .ref 38), (1, .int x1), (2, .int x2), (3, .int x3), (4, .int x4), (5, .int x5)], [.int p5.1], mk X, p5.2)
        refine Ex.blk 1000 rfl ?_
        rcases ite_sp h with ⟨c4, h⟩ | ⟨c4, h⟩
        · refine And.intro (fun _ => ?_) (fun hn => absurd c4 hn)
          show Ex mr_X10_addOf sc (Cl MT pr sc (d + 2)) (rtE none (mk X) σ2) (53, [(0, .ref 38), (1, .int x1), (2, .int x2), (3, .int x3), (4, .int x4), (5, .int x5)], [], mk X, p5.2)
          refine Ex.blk 1000 rfl ?_
          show Ex mr_X10_addOf sc (Cl MT pr sc (d + 2)) (rtE none (mk X) σ2) (54, [(0, .ref 38), (1, .int x1), (2, .int x2), (3, .int x3), (4, .int x4), (5, .int x5)], [.int 0], mk X, p5.2)
          refine Ex.pick (lv' := _) [0, 1, 2, 3, 5] rfl ?_
          exact lk_X10_addOf_54 d _ ih _ _ _ _ _ _ h
        · refine And.intro (fun hp => absurd hp c4) (fun _ => ?_)
          show Ex mr_X10_addOf sc (Cl MT pr sc (d + 2)) (rtE none (mk X) σ2) (49, [(0, .ref 38), (1, .int x1), (2, .int x2), (3, .int x3), (4, .int x4), (5, .int x5)], [], mk X, p5.2)
          refine Ex.pick (lv' := _) [0, 1, 2, 3, 5] rfl ?_
          exact lk_X10_addOf_49 d _ ih _ _ _ _ _ h
      · refine And.intro (fun _ => ?_) (fun hn => absurd c3 hn)
        show Ex mr_X10_addOf sc (Cl MT pr sc (d + 2)) (rtE none (mk X) σ2) (49, [(0, .ref 38), (1, .int x1), (2, .int x2), (3, .int x3), (4, .int x4), (5, .int x5)], [], mk X, σ)
        refine Ex.pick (lv' := _) [0, 1, 2, 3, 5] rfl ?_
        exact lk_X10_addOf_49 d _ ih _ _ _ _ _ h
theorem lk_X10_addOf_11 {pr : Ct} {sc : Nat × (Nat → Int32)} {X : En} (d : Nat) {σ2 : St} (x1 : Int32) (x2 : Int32) (σ : St) (h : f_X10_addOf_11 x1 x2 σ = some σ2) : Ex mr_X10_addOf sc (Cl MT pr sc (d + 2)) (rtE none (mk X) σ2) (11, [(0, .ref 38), (1, .int x1), (2, .int x2)], [], mk X, σ) := by
  unfold f_X10_addOf_11 at h
  refine Ex.blk 4 rfl ?_
  obtain ⟨p1, hp1, h⟩ := bind_sp h
  refine Exists.intro (some (.int p1.1)) (Exists.intro (mk X) (Exists.intro p1.2 (And.intro (cl_X10_highest (d + 0) hp1) ?_)))
  show Ex mr_X10_addOf sc (Cl MT pr sc (d + 2)) (rtE none (mk X) σ2) (17, [(0, .ref 38), (1, .int x1), (2, .int x2)], [.int p1.1], mk X, p1.2)
  refine Ex.blk 5 rfl ?_
  show Ex mr_X10_addOf sc (Cl MT pr sc (d + 2)) (rtE none (mk X) σ2) (25, [(4, .int 0), (3, .int p1.1), (0, .ref 38), (1, .int x1), (2, .int x2)], [.int (gI p1.2 38 1)], mk X, p1.2)
  refine Ex.blk 1000 rfl ?_
  show Ex mr_X10_addOf sc (Cl MT pr sc (d + 2)) (rtE none (mk X) σ2) (27, [(5, .int (gI p1.2 38 1)), (4, .int 0), (3, .int p1.1), (0, .ref 38), (1, .int x1), (2, .int x2)], [], mk X, p1.2)
  refine Ex.pick (lv' := _) [3, 4, 5, 2, 1, 0] rfl ?_
  exact lk_X10_addOf_27 d FU _ _ _ _ _ _ h
theorem cl_X10_addOf {pr : Ct} {sc : Nat × (Nat → Int32)} {X : En} (d : Nat) {σ2 : St} {x1 : Int32} {x2 : Int32} {σ : St} (h : f_X10_addOf x1 x2 σ = some σ2) : Cl MT pr sc (d + 2 + 1) 178 [.ref 38, .int x1, .int x2] (mk X) σ none (mk X) σ2 := by
  refine cl_of mr_X10_addOf rfl rfl ?_
  unfold f_X10_addOf at h
  refine Ex.blk 1000 rfl ?_
  rcases ite_sp h with ⟨c1, h⟩ | ⟨c1, h⟩
  · refine And.intro (fun hp => absurd c1 hp) (fun _ => ?_)
    show Ex mr_X10_addOf sc (Cl MT pr sc (d + 2)) (rtE none (mk X) σ2) (7, [(0, .ref 38), (1, .int x1), (2, .int x2)], [], mk X, σ)
    refine Ex.blk 2 rfl ?_
    obtain ⟨p6, hp6, h⟩ := bind_sp h
    refine Exists.intro none (Exists.intro (mk X) (Exists.intro p6 (And.intro (cl_X10_keep (d + 1) hp6) ?_)))
    show Ex mr_X10_addOf sc (Cl MT pr sc (d + 2)) (rtE none (mk X) σ2) (11, [(0, .ref 38), (1, .int x1), (2, .int x2)], [], mk X, p6)
    exact lk_X10_addOf_11 d _ _ _ h
  · refine And.intro (fun _ => ?_) (fun hn => absurd c1 hn)
    show Ex mr_X10_addOf sc (Cl MT pr sc (d + 2)) (rtE none (mk X) σ2) (11, [(0, .ref 38), (1, .int x1), (2, .int x2)], [], mk X, σ)
    exact lk_X10_addOf_11 d _ _ _ h
theorem lk_X10_actOf_138 {pr : Ct} {sc : Nat × (Nat → Int32)} {X : En} (d : Nat) {σ2 : St} (y0 : Int32) (y1 : Int32) (σ : St) (h : f_X10_actOf_138 y0 y1 σ = some σ2) : Ex mr_X10_actOf sc (Cl MT pr sc (d + 2)) (rtE none (mk X) σ2) (138, [(0, .ref 38)], [.int y0, .int y1, .ref 46], mk X, σ) := by
  unfold f_X10_actOf_138 at h
  refine Ex.blk 1 rfl ?_
  obtain ⟨g1, h⟩ := gd_some h
  refine And.intro (inb_ok g1) ?_
  show Ex mr_X10_actOf sc (Cl MT pr sc (d + 2)) (rtE none (mk X) σ2) (139, [(0, .ref 38)], [], mk X, (sI σ 46 y1.toNatClampNeg y0))
  refine Ex.blk 5 rfl ?_
  refine And.intro (inb_ok (i := 18) (n := 19) (by decide)) ?_
  show Ex mr_X10_actOf sc (Cl MT pr sc (d + 2)) (rtE none (mk X) σ2) (147, [(0, .ref 38)], [.int (gI (sI σ 46 y1.toNatClampNeg y0) 46 (18 : Int32).toNatClampNeg), .int 18, .ref 46], mk X, (sI σ 46 y1.toNatClampNeg y0))
  refine Ex.blk 3 rfl ?_
  refine And.intro (inb_ok (i := 18) (n := 19) (by decide)) ?_
  show Ex mr_X10_actOf sc (Cl MT pr sc (d + 2)) (rtE none (mk X) σ2) (150, [(0, .ref 38)], [], mk X, (sI (sI σ 46 y1.toNatClampNeg y0) 46 (18 : Int32).toNatClampNeg ((gI (sI σ 46 y1.toNatClampNeg y0) 46 (18 : Int32).toNatClampNeg) + 1)))
  refine Ex.blk 1000 rfl ?_
  cases h
  exact And.intro trivial ⟨rfl, rfl, rfl⟩
theorem lk_X10_actOf_110 {pr : Ct} {sc : Nat × (Nat → Int32)} {X : En} (d : Nat) {σ2 : St} (k50 : Int32 → Int32 → Int32 → St → Option (St)) (hk50 : ∀ (x1 : Int32) (x2 : Int32) (x3 : Int32) (σ : St), k50 x1 x2 x3 σ = some σ2 → Ex mr_X10_actOf sc (Cl MT pr sc (d + 2)) (rtE none (mk X) σ2) (50, [(0, .ref 38), (1, .int x1), (2, .int x2), (3, .int x3)], [], mk X, σ)) (x1 : Int32) (x2 : Int32) (x3 : Int32) (σ : St) (h : f_X10_actOf_110 k50 x1 x2 x3 σ = some σ2) : Ex mr_X10_actOf sc (Cl MT pr sc (d + 2)) (rtE none (mk X) σ2) (110, [(0, .ref 38), (1, .int x1), (2, .int x2), (3, .int x3)], [], mk X, σ) := by
  unfold f_X10_actOf_110 at h
  refine Ex.blk 1000 rfl ?_
  show Ex mr_X10_actOf sc (Cl MT pr sc (d + 2)) (rtE none (mk X) σ2) (50, [(3, .int (x3 + (-1))), (0, .ref 38), (1, .int x1), (2, .int x2)], [], mk X, σ)
  refine Ex.pick (lv' := _) [1, 2, 3, 0] rfl ?_
  exact hk50 _ _ _ _ h
theorem lk_X10_actOf_101 {pr : Ct} {sc : Nat × (Nat → Int32)} {X : En} (d : Nat) {σ2 : St} (k50 : Int32 → Int32 → Int32 → St → Option (St)) (hk50 : ∀ (x1 : Int32) (x2 : Int32) (x3 : Int32) (σ : St), k50 x1 x2 x3 σ = some σ2 → Ex mr_X10_actOf sc (Cl MT pr sc (d + 2)) (rtE none (mk X) σ2) (50, [(0, .ref 38), (1, .int x1), (2, .int x2), (3, .int x3)], [], mk X, σ)) (x1 : Int32) (x2 : Int32) (x3 : Int32) (x4 : Int32) (σ : St) (h : f_X10_actOf_101 k50 x1 x2 x3 x4 σ = some σ2) : Ex mr_X10_actOf sc (Cl MT pr sc (d + 2)) (rtE none (mk X) σ2) (101, [(0, .ref 38), (1, .int x1), (2, .int x2), (3, .int x3), (4, .int x4)], [], mk X, σ) := by
  unfold f_X10_actOf_101 at h
  refine Ex.blk 5 rfl ?_
  refine And.intro (nzI_ok (b := 2) (by decide)) ?_
  show Ex mr_X10_actOf sc (Cl MT pr sc (d + 2)) (rtE none (mk X) σ2) (107, [(0, .ref 38), (1, .int x1), (2, .int x2), (3, .int x3), (4, .int x4)], [.int (x4 / 2), .int x3, .ref 38], mk X, σ)
  refine Ex.blk 1 rfl ?_
  obtain ⟨p1, hp1, h⟩ := bind_sp h
  refine Exists.intro none (Exists.intro (mk X) (Exists.intro p1 (And.intro (cl_X10_become (d + 1) hp1) ?_)))
  show Ex mr_X10_actOf sc (Cl MT pr sc (d + 2)) (rtE none (mk X) σ2) (110, [(0, .ref 38), (1, .int x1), (2, .int x2), (3, .int x3), (4, .int x4)], [], mk X, p1)
  refine Ex.pick (lv' := _) [0, 1, 2, 3] rfl ?_
  exact lk_X10_actOf_110 d _ hk50 _ _ _ _ h
theorem lk_X10_actOf_94 {pr : Ct} {sc : Nat × (Nat → Int32)} {X : En} (d : Nat) {σ2 : St} (k50 : Int32 → Int32 → Int32 → St → Option (St)) (hk50 : ∀ (x1 : Int32) (x2 : Int32) (x3 : Int32) (σ : St), k50 x1 x2 x3 σ = some σ2 → Ex mr_X10_actOf sc (Cl MT pr sc (d + 2)) (rtE none (mk X) σ2) (50, [(0, .ref 38), (1, .int x1), (2, .int x2), (3, .int x3)], [], mk X, σ)) (x1 : Int32) (x3 : Int32) (y0 : Int32) (σ : St) (h : f_X10_actOf_94 k50 x1 x3 y0 σ = some σ2) : Ex mr_X10_actOf sc (Cl MT pr sc (d + 2)) (rtE none (mk X) σ2) (94, [(0, .ref 38), (1, .int x1), (3, .int x3)], [.int y0], mk X, σ) := by
  unfold f_X10_actOf_94 at h
  refine Ex.blk 4 rfl ?_
  refine And.intro (nzI_ok (b := 2) (by decide)) ?_
  show Ex mr_X10_actOf sc (Cl MT pr sc (d + 2)) (rtE none (mk X) σ2) (100, [(4, .int y0), (0, .ref 38), (1, .int x1), (3, .int x3)], [.int (rmI y0 2)], mk X, σ)
  refine Ex.blk 1 rfl ?_
  show Ex mr_X10_actOf sc (Cl MT pr sc (d + 2)) (rtE none (mk X) σ2) (101, [(2, .int (rmI y0 2)), (4, .int y0), (0, .ref 38), (1, .int x1), (3, .int x3)], [], mk X, σ)
  refine Ex.pick (lv' := _) [2, 3, 0, 4, 1] rfl ?_
  exact lk_X10_actOf_101 d _ hk50 _ _ _ _ _ h
theorem lk_X10_actOf_50 {pr : Ct} {sc : Nat × (Nat → Int32)} {X : En} (d : Nat) {σ2 : St} : ∀ (n : Nat) (x1 : Int32) (x2 : Int32) (x3 : Int32) (σ : St), f_X10_actOf_50 n x1 x2 x3 σ = some σ2 → Ex mr_X10_actOf sc (Cl MT pr sc (d + 2)) (rtE none (mk X) σ2) (50, [(0, .ref 38), (1, .int x1), (2, .int x2), (3, .int x3)], [], mk X, σ) := by
  intro n
  induction n with
  | zero =>
    intro x1 x2 x3 σ h
    cases h
  | succ n ih =>
    intro x1 x2 x3 σ h
    simp only [f_X10_actOf_50] at h
    refine Ex.blk 1000 rfl ?_
    rcases ite_sp h with ⟨c1, h⟩ | ⟨c1, h⟩
    · refine And.intro (fun _ => ?_) (fun hn => absurd c1 hn)
      show Ex mr_X10_actOf sc (Cl MT pr sc (d + 2)) (rtE none (mk X) σ2) (116, [(0, .ref 38), (1, .int x1), (2, .int x2), (3, .int x3)], [], mk X, σ)
      refine Ex.blk 5 rfl ?_
      show Ex mr_X10_actOf sc (Cl MT pr sc (d + 2)) (rtE none (mk X) σ2) (124, [(0, .ref 38), (1, .int x1), (2, .int x2), (3, .int x3)], [.int 3, .int x1, .int 17, .ref 46], mk X, σ)
      refine Ex.blk 1000 rfl ?_
      rcases ite_sp h with ⟨c2, h⟩ | ⟨c2, h⟩
      · refine And.intro (fun hp => absurd c2 hp) (fun _ => ?_)
        show Ex mr_X10_actOf sc (Cl MT pr sc (d + 2)) (rtE none (mk X) σ2) (127, [(0, .ref 38), (1, .int x1), (2, .int x2), (3, .int x3)], [.int 17, .ref 46], mk X, σ)
        refine Ex.blk 1000 rfl ?_
        show Ex mr_X10_actOf sc (Cl MT pr sc (d + 2)) (rtE none (mk X) σ2) (138, [(0, .ref 38), (1, .int x1), (2, .int x2), (3, .int x3)], [.int x2, .int 17, .ref 46], mk X, σ)
        refine Ex.pick (lv' := _) [0] rfl ?_
        exact lk_X10_actOf_138 d _ _ _ h
      · refine And.intro (fun _ => ?_) (fun hn => absurd c2 hn)
        show Ex mr_X10_actOf sc (Cl MT pr sc (d + 2)) (rtE none (mk X) σ2) (131, [(0, .ref 38), (1, .int x1), (2, .int x2), (3, .int x3)], [.int 17, .ref 46], mk X, σ)
        refine Ex.blk 4 rfl ?_
        refine And.intro (inb_ok (i := 17) (n := 19) (by decide)) ?_
        show Ex mr_X10_actOf sc (Cl MT pr sc (d + 2)) (rtE none (mk X) σ2) (138, [(0, .ref 38), (1, .int x1), (2, .int x2), (3, .int x3)], [.int (gI σ 46 (17 : Int32).toNatClampNeg), .int 17, .ref 46], mk X, σ)
        refine Ex.pick (lv' := _) [0] rfl ?_
        exact lk_X10_actOf_138 d _ _ _ h
    · refine And.intro (fun hp => absurd hp c1) (fun _ => ?_)
      show Ex mr_X10_actOf sc (Cl MT pr sc (d + 2)) (rtE none (mk X) σ2) (54, [(0, .ref 38), (1, .int x1), (2, .int x2), (3, .int x3)], [], mk X, σ)
      refine Ex.blk 1000 rfl ?_
      rcases ite_sp h with ⟨c3, h⟩ | ⟨c3, h⟩
      · refine And.intro (fun hp => absurd c3 hp) (fun _ => ?_)
        show Ex mr_X10_actOf sc (Cl MT pr sc (d + 2)) (rtE none (mk X) σ2) (59, [(0, .ref 38), (1, .int x1), (2, .int x2), (3, .int x3)], [], mk X, σ)
        refine Ex.blk 5 rfl ?_
        show Ex mr_X10_actOf sc (Cl MT pr sc (d + 2)) (rtE none (mk X) σ2) (66, [(0, .ref 38), (1, .int x1), (2, .int x2), (3, .int x3)], [.int x3, .ref 48, .int x3, .ref 38], mk X, σ)
        refine Ex.blk 1 rfl ?_
        obtain ⟨g4, h⟩ := gd_some h
        refine And.intro (inb_ok g4) ?_
        show Ex mr_X10_actOf sc (Cl MT pr sc (d + 2)) (rtE none (mk X) σ2) (67, [(0, .ref 38), (1, .int x1), (2, .int x2), (3, .int x3)], [.int (gI σ 48 x3.toNatClampNeg), .int x3, .ref 38], mk X, σ)
        refine Ex.blk 2 rfl ?_
        obtain ⟨p2, hp2, h⟩ := bind_sp h
        refine Exists.intro none (Exists.intro (mk X) (Exists.intro p2 (And.intro (cl_X10_drive (d + 0) hp2) ?_)))
        show Ex mr_X10_actOf sc (Cl MT pr sc (d + 2)) (rtE none (mk X) σ2) (71, [(0, .ref 38), (1, .int x1), (2, .int x2), (3, .int x3)], [], mk X, p2)
        refine Ex.blk 1000 rfl ?_
        show Ex mr_X10_actOf sc (Cl MT pr sc (d + 2)) (rtE none (mk X) σ2) (110, [(0, .ref 38), (1, .int x1), (2, .int x2), (3, .int x3)], [], mk X, p2)
        exact lk_X10_actOf_110 d _ ih _ _ _ _ h
      · refine And.intro (fun _ => ?_) (fun hn => absurd c3 hn)
        show Ex mr_X10_actOf sc (Cl MT pr sc (d + 2)) (rtE none (mk X) σ2) (74, [(0, .ref 38), (1, .int x1), (2, .int x2), (3, .int x3)], [], mk X, σ)
        refine Ex.blk 1000 rfl ?_
        rcases ite_sp h with ⟨c5, h⟩ | ⟨c5, h⟩
        · refine And.intro (fun hp => absurd c5 hp) (fun _ => ?_)
          show Ex mr_X10_actOf sc (Cl MT pr sc (d + 2)) (rtE none (mk X) σ2) (79, [(0, .ref 38), (1, .int x1), (2, .int x2), (3, .int x3)], [], mk X, σ)
          refine Ex.blk 5 rfl ?_
          show Ex mr_X10_actOf sc (Cl MT pr sc (d + 2)) (rtE none (mk X) σ2) (87, [(0, .ref 38), (1, .int x1), (2, .int x2), (3, .int x3)], [.ref 48, .int (10 * x2)], mk X, σ)
          refine Ex.blk 2 rfl ?_
          obtain ⟨g6, h⟩ := gd_some h
          refine And.intro (inb_ok g6) ?_
          show Ex mr_X10_actOf sc (Cl MT pr sc (d + 2)) (rtE none (mk X) σ2) (89, [(0, .ref 38), (1, .int x1), (2, .int x2), (3, .int x3)], [.int (gI σ 48 x3.toNatClampNeg), .int (10 * x2)], mk X, σ)
          refine Ex.blk 1000 rfl ?_
          show Ex mr_X10_actOf sc (Cl MT pr sc (d + 2)) (rtE none (mk X) σ2) (94, [(0, .ref 38), (1, .int x1), (2, .int x2), (3, .int x3)], [.int ((10 * x2) + (gI σ 48 x3.toNatClampNeg))], mk X, σ)
          refine Ex.pick (lv' := _) [0, 1, 3] rfl ?_
          exact lk_X10_actOf_94 d _ ih _ _ _ _ h
        · refine And.intro (fun _ => ?_) (fun hn => absurd c5 hn)
          show Ex mr_X10_actOf sc (Cl MT pr sc (d + 2)) (rtE none (mk X) σ2) (93, [(0, .ref 38), (1, .int x1), (2, .int x2), (3, .int x3)], [], mk X, σ)
          refine Ex.blk 1000 rfl ?_
          show Ex mr_X10_actOf sc (Cl MT pr sc (d + 2)) (rtE none (mk X) σ2) (94, [(0, .ref 38), (1, .int x1), (2, .int x2), (3, .int x3)], [.int 0], mk X, σ)
          refine Ex.pick (lv' := _) [0, 1, 3] rfl ?_
          exact lk_X10_actOf_94 d _ ih _ _ _ _ h
theorem lk_X10_actOf_13 {pr : Ct} {sc : Nat × (Nat → Int32)} {X : En} (d : Nat) {σ2 : St} : ∀ (n : Nat) (x1 : Int32) (x2 : Int32) (σ : St), f_X10_actOf_13 n x1 x2 σ = some σ2 → Ex mr_X10_actOf sc (Cl MT pr sc (d + 2)) (rtE none (mk X) σ2) (13, [(0, .ref 38), (1, .int x1), (2, .int x2)], [], mk X, σ) := by
  intro n
  induction n with
  | zero =>
    intro x1 x2 σ h
    cases h
  | succ n ih =>
    intro x1 x2 σ h
    simp only [f_X10_actOf_13] at h
    refine Ex.blk 1000 rfl ?_
    rcases ite_sp h with ⟨c1, h⟩ | ⟨c1, h⟩
    · refine And.intro (fun _ => ?_) (fun hn => absurd c1 hn)
      show Ex mr_X10_actOf sc (Cl MT pr sc (d + 2)) (rtE none (mk X) σ2) (41, [(0, .ref 38), (1, .int x1), (2, .int x2)], [], mk X, σ)
      refine Ex.blk 5 rfl ?_
      show Ex mr_X10_actOf sc (Cl MT pr sc (d + 2)) (rtE none (mk X) σ2) (48, [(2, .int 0), (0, .ref 38), (1, .int x1)], [.int 1, .int (gI σ 38 1)], mk X, σ)
      refine Ex.blk 1000 rfl ?_
      show Ex mr_X10_actOf sc (Cl MT pr sc (d + 2)) (rtE none (mk X) σ2) (50, [(3, .int ((gI σ 38 1) - 1)), (2, .int 0), (0, .ref 38), (1, .int x1)], [], mk X, σ)
      refine Ex.pick (lv' := _) [2, 3, 1, 0] rfl ?_
      exact lk_X10_actOf_50 d FU _ _ _ _ h
    · refine And.intro (fun hp => absurd hp c1) (fun _ => ?_)
      show Ex mr_X10_actOf sc (Cl MT pr sc (d + 2)) (rtE none (mk X) σ2) (21, [(0, .ref 38), (1, .int x1), (2, .int x2)], [], mk X, σ)
      refine Ex.blk 5 rfl ?_
      show Ex mr_X10_actOf sc (Cl MT pr sc (d + 2)) (rtE none (mk X) σ2) (30, [(0, .ref 38), (1, .int x1), (2, .int x2)], [.ref 46, .int x2, .ref 48], mk X, σ)
      refine Ex.blk 4 rfl ?_
      obtain ⟨g2, h⟩ := gd_some h
      refine And.intro (inb_ok g2) ?_
      show Ex mr_X10_actOf sc (Cl MT pr sc (d + 2)) (rtE none (mk X) σ2) (34, [(0, .ref 38), (1, .int x1), (2, .int x2)], [.int (gI σ 46 (0 + x2).toNatClampNeg), .int x2, .ref 48], mk X, σ)
      refine Ex.blk 1 rfl ?_
      obtain ⟨g3, h⟩ := gd_some h
      refine And.intro (inb_ok g3) ?_
      show Ex mr_X10_actOf sc (Cl MT pr sc (d + 2)) (rtE none (mk X) σ2) (35, [(0, .ref 38), (1, .int x1), (2, .int x2)], [], mk X, (sI σ 48 x2.toNatClampNeg (gI σ 46 (0 + x2).toNatClampNeg)))
      refine Ex.blk 1000 rfl ?_
      show Ex mr_X10_actOf sc (Cl MT pr sc (d + 2)) (rtE none (mk X) σ2) (13, [(2, .int (x2 + 1)), (0, .ref 38), (1, .int x1)], [], mk X, (sI σ 48 x2.toNatClampNeg (gI σ 46 (0 + x2).toNatClampNeg)))
      refine Ex.pick (lv' := _) [1, 2, 0] rfl ?_
      exact ih _ _ _ h
theorem lk_X10_actOf_11 {pr : Ct} {sc : Nat × (Nat → Int32)} {X : En} (d : Nat) {σ2 : St} (x1 : Int32) (σ : St) (h : f_X10_actOf_11 x1 σ = some σ2) : Ex mr_X10_actOf sc (Cl MT pr sc (d + 2)) (rtE none (mk X) σ2) (11, [(0, .ref 38), (1, .int x1)], [], mk X, σ) := by
  unfold f_X10_actOf_11 at h
  refine Ex.blk 1000 rfl ?_
  show Ex mr_X10_actOf sc (Cl MT pr sc (d + 2)) (rtE none (mk X) σ2) (13, [(2, .int 0), (0, .ref 38), (1, .int x1)], [], mk X, σ)
  refine Ex.pick (lv' := _) [1, 2, 0] rfl ?_
  exact lk_X10_actOf_13 d FU _ _ _ h
theorem cl_X10_actOf {pr : Ct} {sc : Nat × (Nat → Int32)} {X : En} (d : Nat) {σ2 : St} {x1 : Int32} {σ : St} (h : f_X10_actOf x1 σ = some σ2) : Cl MT pr sc (d + 2 + 1) 179 [.ref 38, .int x1] (mk X) σ none (mk X) σ2 := by
  refine cl_of mr_X10_actOf rfl rfl ?_
  unfold f_X10_actOf at h
  refine Ex.blk 1000 rfl ?_
  rcases ite_sp h with ⟨c1, h⟩ | ⟨c1, h⟩
  · refine And.intro (fun hp => absurd c1 hp) (fun _ => ?_)
    show Ex mr_X10_actOf sc (Cl MT pr sc (d + 2)) (rtE none (mk X) σ2) (7, [(0, .ref 38), (1, .int x1)], [], mk X, σ)
    refine Ex.blk 2 rfl ?_
    obtain ⟨p3, hp3, h⟩ := bind_sp h
    refine Exists.intro none (Exists.intro (mk X) (Exists.intro p3 (And.intro (cl_X10_keep (d + 1) hp3) ?_)))
    show Ex mr_X10_actOf sc (Cl MT pr sc (d + 2)) (rtE none (mk X) σ2) (11, [(0, .ref 38), (1, .int x1)], [], mk X, p3)
    exact lk_X10_actOf_11 d _ _ h
  · refine And.intro (fun _ => ?_) (fun hn => absurd c1 hn)
    show Ex mr_X10_actOf sc (Cl MT pr sc (d + 2)) (rtE none (mk X) σ2) (11, [(0, .ref 38), (1, .int x1)], [], mk X, σ)
    exact lk_X10_actOf_11 d _ _ h
theorem lk_X10_add_25 {pr : Ct} {sc : Nat × (Nat → Int32)} {X : En} (d : Nat) {r : Int32} {σ2 : St} (y0 : Int32) (y1 : Int32) (σ : St) (h : f_X10_add_25 y0 y1 σ = some (r, σ2)) : Ex mr_X10_add sc (Cl MT pr sc (d + 3)) (rtE (some (.int r)) (mk X) σ2) (25, [(0, .ref 38)], [.int y0, .int y1, .ref 38], mk X, σ) := by
  unfold f_X10_add_25 at h
  refine Ex.blk 1 rfl ?_
  obtain ⟨p2, hp2, h⟩ := bind_sp h
  refine Exists.intro none (Exists.intro (mk X) (Exists.intro p2 (And.intro (cl_X10_addOf (d + 0) hp2) ?_)))
  show Ex mr_X10_add sc (Cl MT pr sc (d + 3)) (rtE (some (.int r)) (mk X) σ2) (28, [(0, .ref 38)], [], mk X, p2)
  refine Ex.blk 4 rfl ?_
  refine And.intro (inb_ok (i := 18) (n := 19) (by decide)) ?_
  show Ex mr_X10_add sc (Cl MT pr sc (d + 3)) (rtE (some (.int r)) (mk X) σ2) (35, [(0, .ref 38)], [.int (gI p2 46 (18 : Int32).toNatClampNeg)], mk X, p2)
  refine Ex.blk 1000 rfl ?_
  cases h
  exact And.intro trivial ⟨rfl, rfl, rfl⟩
theorem cl_X10_add {pr : Ct} {sc : Nat × (Nat → Int32)} {X : En} (d : Nat) {r : Int32} {σ2 : St} {x1 : Int32} {x2 : Int32} {σ : St} (h : f_X10_add x1 x2 σ = some (r, σ2)) : Cl MT pr sc (d + 3 + 1) 180 [.ref 38, .int x1, .int x2] (mk X) σ (some (.int r)) (mk X) σ2 := by
  refine cl_of mr_X10_add rfl rfl ?_
  unfold f_X10_add at h
  refine Ex.blk 5 rfl ?_
  obtain ⟨p1, hp1, h⟩ := bind_sp h
  refine Exists.intro (some (.int p1.1)) (Exists.intro (mk X) (Exists.intro p1.2 (And.intro (cl_X10_in (d + 2) hp1) ?_)))
  show Ex mr_X10_add sc (Cl MT pr sc (d + 3)) (rtE (some (.int r)) (mk X) σ2) (9, [(0, .ref 38), (1, .int x1), (2, .int x2)], [.int p1.1], mk X, p1.2)
  refine Ex.blk 1000 rfl ?_
  rcases ite_sp h with ⟨c1, h⟩ | ⟨c1, h⟩
  · refine And.intro (fun hp => absurd c1 hp) (fun _ => ?_)
    show Ex mr_X10_add sc (Cl MT pr sc (d + 3)) (rtE (some (.int r)) (mk X) σ2) (12, [(0, .ref 38), (1, .int x1), (2, .int x2)], [], mk X, p1.2)
    refine Ex.blk 1000 rfl ?_
    cases h
    exact And.intro trivial ⟨rfl, rfl, rfl⟩
  · refine And.intro (fun _ => ?_) (fun hn => absurd c1 hn)
    show Ex mr_X10_add sc (Cl MT pr sc (d + 3)) (rtE (some (.int r)) (mk X) σ2) (14, [(0, .ref 38), (1, .int x1), (2, .int x2)], [], mk X, p1.2)
    refine Ex.blk 1000 rfl ?_
    rcases ite_sp h with ⟨c2, h⟩ | ⟨c2, h⟩
    · refine And.intro (fun _ => ?_) (fun hn => absurd c2 hn)
      show Ex mr_X10_add sc (Cl MT pr sc (d + 3)) (rtE (some (.int r)) (mk X) σ2) (24, [(0, .ref 38), (1, .int x1), (2, .int x2)], [.int x1, .ref 38], mk X, p1.2)
      refine Ex.blk 1000 rfl ?_
      show Ex mr_X10_add sc (Cl MT pr sc (d + 3)) (rtE (some (.int r)) (mk X) σ2) (25, [(0, .ref 38), (1, .int x1), (2, .int x2)], [.int 1, .int x1, .ref 38], mk X, p1.2)
      refine Ex.pick (lv' := _) [0] rfl ?_
      exact lk_X10_add_25 d _ _ _ h
    · refine And.intro (fun hp => absurd hp c2) (fun _ => ?_)
      show Ex mr_X10_add sc (Cl MT pr sc (d + 3)) (rtE (some (.int r)) (mk X) σ2) (20, [(0, .ref 38), (1, .int x1), (2, .int x2)], [.int x1, .ref 38], mk X, p1.2)
      refine Ex.blk 1000 rfl ?_
      show Ex mr_X10_add sc (Cl MT pr sc (d + 3)) (rtE (some (.int r)) (mk X) σ2) (25, [(0, .ref 38), (1, .int x1), (2, .int x2)], [.int (-1), .int x1, .ref 38], mk X, p1.2)
      refine Ex.pick (lv' := _) [0] rfl ?_
      exact lk_X10_add_25 d _ _ _ h
