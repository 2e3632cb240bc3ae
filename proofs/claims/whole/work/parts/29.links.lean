theorem lk_X10_needs_16 {pr : Ct} {sc : Nat × (Nat → Int32)} {X : En} (d : Nat) {r : Int32} {σ2 : St} (σ : St) (h : f_X10_needs_16 σ = some (r, σ2)) : Ex mr_X10_needs sc (Cl MT pr sc (d + 4)) (rtE (some (.int r)) (mk X) σ2) (16, [], [], mk X, σ) := by
  unfold f_X10_needs_16 at h
  refine Ex.blk 1000 rfl ?_
  cases h
  exact And.intro trivial ⟨rfl, rfl, rfl⟩
theorem cl_X10_needs {pr : Ct} {sc : Nat × (Nat → Int32)} {X : En} (d : Nat) {r : Int32} {σ2 : St} {x1 : Int32} {x2 : Int32} {σ : St} (h : f_X10_needs x1 x2 σ = some (r, σ2)) : Cl MT pr sc (d + 4 + 1) 225 [.ref 38, .int x1, .int x2] (mk X) σ (some (.int r)) (mk X) σ2 := by
  refine cl_of mr_X10_needs rfl rfl ?_
  unfold f_X10_needs at h
  refine Ex.blk 3 rfl ?_
  obtain ⟨p1, hp1, h⟩ := bind_sp h
  refine Exists.intro (some (.int p1.1)) (Exists.intro (mk X) (Exists.intro p1.2 (And.intro (cl_X10_isSum (d + 2) hp1) ?_)))
  show Ex mr_X10_needs sc (Cl MT pr sc (d + 4)) (rtE (some (.int r)) (mk X) σ2) (5, [(0, .ref 38), (1, .int x1), (2, .int x2)], [.int p1.1], mk X, p1.2)
  refine Ex.blk 1000 rfl ?_
  rcases ite_sp h with ⟨c1, h⟩ | ⟨c1, h⟩
  · refine And.intro (fun _ => ?_) (fun hn => absurd c1 hn)
    show Ex mr_X10_needs sc (Cl MT pr sc (d + 4)) (rtE (some (.int r)) (mk X) σ2) (16, [(0, .ref 38), (1, .int x1), (2, .int x2)], [], mk X, p1.2)
    refine Ex.pick (lv' := _) [] rfl ?_
    exact lk_X10_needs_16 d _ h
  · refine And.intro (fun hp => absurd hp c1) (fun _ => ?_)
    show Ex mr_X10_needs sc (Cl MT pr sc (d + 4)) (rtE (some (.int r)) (mk X) σ2) (8, [(0, .ref 38), (1, .int x1), (2, .int x2)], [], mk X, p1.2)
    refine Ex.blk 3 rfl ?_
    obtain ⟨p2, hp2, h⟩ := bind_sp h
    refine Exists.intro (some (.int p2.1)) (Exists.intro (mk X) (Exists.intro p2.2 (And.intro (cl_X10_isRope (d + 2) hp2) ?_)))
    show Ex mr_X10_needs sc (Cl MT pr sc (d + 4)) (rtE (some (.int r)) (mk X) σ2) (13, [(0, .ref 38), (1, .int x1), (2, .int x2)], [.int p2.1], mk X, p2.2)
    refine Ex.blk 1000 rfl ?_
    rcases ite_sp h with ⟨c2, h⟩ | ⟨c2, h⟩
    · refine And.intro (fun hp => absurd c2 hp) (fun _ => ?_)
      show Ex mr_X10_needs sc (Cl MT pr sc (d + 4)) (rtE (some (.int r)) (mk X) σ2) (16, [(0, .ref 38), (1, .int x1), (2, .int x2)], [], mk X, p2.2)
      refine Ex.pick (lv' := _) [] rfl ?_
      exact lk_X10_needs_16 d _ h
    · refine And.intro (fun _ => ?_) (fun hn => absurd c2 hn)
      show Ex mr_X10_needs sc (Cl MT pr sc (d + 4)) (rtE (some (.int r)) (mk X) σ2) (18, [(0, .ref 38), (1, .int x1), (2, .int x2)], [], mk X, p2.2)
      refine Ex.blk 3 rfl ?_
      obtain ⟨p3, hp3, h⟩ := bind_sp h
      refine Exists.intro none (Exists.intro (mk X) (Exists.intro p3 (And.intro (cl_X10_begin (d + 3) hp3) ?_)))
      show Ex mr_X10_needs sc (Cl MT pr sc (d + 4)) (rtE (some (.int r)) (mk X) σ2) (23, [(0, .ref 38), (1, .int x1), (2, .int x2)], [], mk X, p3)
      refine Ex.blk 3 rfl ?_
      obtain ⟨p4, hp4, h⟩ := bind_sp h
      refine Exists.intro none (Exists.intro (mk X) (Exists.intro p4 (And.intro (cl_X10_runOf (d + 0) hp4) ?_)))
      show Ex mr_X10_needs sc (Cl MT pr sc (d + 4)) (rtE (some (.int r)) (mk X) σ2) (28, [(0, .ref 38), (1, .int x1), (2, .int x2)], [], mk X, p4)
      refine Ex.blk 2 rfl ?_
      obtain ⟨p5, hp5, h⟩ := bind_sp h
      refine Exists.intro none (Exists.intro (mk X) (Exists.intro p5 (And.intro (cl_X10_over (d + 3) hp5) ?_)))
      show Ex mr_X10_needs sc (Cl MT pr sc (d + 4)) (rtE (some (.int r)) (mk X) σ2) (32, [(0, .ref 38), (1, .int x1), (2, .int x2)], [], mk X, p5)
      refine Ex.blk 4 rfl ?_
      obtain ⟨g3, h⟩ := gd_some h
      refine And.intro (inb_ok g3) ?_
      show Ex mr_X10_needs sc (Cl MT pr sc (d + 4)) (rtE (some (.int r)) (mk X) σ2) (38, [(0, .ref 38), (1, .int x1), (2, .int x2)], [.int (gI p5 47 x2.toNatClampNeg)], mk X, p5)
      refine Ex.blk 1000 rfl ?_
      cases h
      exact And.intro trivial ⟨rfl, rfl, rfl⟩
theorem lk_X10_herd_45 {pr : Ct} {sc : Nat × (Nat → Int32)} {X : En} (d : Nat) {r : Int32} {σ2 : St} (k28 : Int32 → Int32 → St → Option (Int32 × St)) (hk28 : ∀ (x2 : Int32) (x3 : Int32) (σ : St), k28 x2 x3 σ = some (r, σ2) → Ex mr_X10_herd sc (Cl MT pr sc (d + 4)) (rtE (some (.int r)) (mk X) σ2) (28, [(0, .ref 38), (2, .int x2), (3, .int x3)], [], mk X, σ)) (x2 : Int32) (x3 : Int32) (σ : St) (h : f_X10_herd_45 k28 x2 x3 σ = some (r, σ2)) : Ex mr_X10_herd sc (Cl MT pr sc (d + 4)) (rtE (some (.int r)) (mk X) σ2) (45, [(0, .ref 38), (2, .int x2), (3, .int x3)], [], mk X, σ) := by
  unfold f_X10_herd_45 at h
  refine Ex.blk 1000 rfl ?_
  show Ex mr_X10_herd sc (Cl MT pr sc (d + 4)) (rtE (some (.int r)) (mk X) σ2) (28, [(3, .int (x3 + 1)), (0, .ref 38), (2, .int x2)], [], mk X, σ)
  refine Ex.pick (lv' := _) [1, 2, 0] rfl ?_
  exact hk28 _ _ _ h
theorem lk_X10_herd_28 {pr : Ct} {sc : Nat × (Nat → Int32)} {X : En} (d : Nat) {r : Int32} {σ2 : St} : ∀ (n : Nat) (x2 : Int32) (x3 : Int32) (σ : St), f_X10_herd_28 n x2 x3 σ = some (r, σ2) → Ex mr_X10_herd sc (Cl MT pr sc (d + 4)) (rtE (some (.int r)) (mk X) σ2) (28, [(0, .ref 38), (2, .int x2), (3, .int x3)], [], mk X, σ) := by
  intro n
  induction n with
  | zero =>
    intro x2 x3 σ h
    cases h
  | succ n ih =>
    intro x2 x3 σ h
    simp only [f_X10_herd_28] at h
    refine Ex.blk 1000 rfl ?_
    rcases ite_sp h with ⟨c1, h⟩ | ⟨c1, h⟩
    · refine And.intro (fun _ => ?_) (fun hn => absurd c1 hn)
      show Ex mr_X10_herd sc (Cl MT pr sc (d + 4)) (rtE (some (.int r)) (mk X) σ2) (51, [(0, .ref 38), (2, .int x2), (3, .int x3)], [], mk X, σ)
      refine Ex.blk 1000 rfl ?_
      cases h
      exact And.intro trivial ⟨rfl, rfl, rfl⟩
    · refine And.intro (fun hp => absurd hp c1) (fun _ => ?_)
      show Ex mr_X10_herd sc (Cl MT pr sc (d + 4)) (rtE (some (.int r)) (mk X) σ2) (36, [(0, .ref 38), (2, .int x2), (3, .int x3)], [], mk X, σ)
      refine Ex.blk 5 rfl ?_
      obtain ⟨g2, h⟩ := gd_some h
      refine And.intro (inb_ok g2) ?_
      show Ex mr_X10_herd sc (Cl MT pr sc (d + 4)) (rtE (some (.int r)) (mk X) σ2) (43, [(0, .ref 38), (2, .int x2), (3, .int x3)], [.int (gI σ 47 x3.toNatClampNeg), .int x2], mk X, σ)
      refine Ex.blk 2 rfl ?_
      show Ex mr_X10_herd sc (Cl MT pr sc (d + 4)) (rtE (some (.int r)) (mk X) σ2) (45, [(2, .int (x2 + (gI σ 47 x3.toNatClampNeg))), (0, .ref 38), (3, .int x3)], [], mk X, σ)
      refine Ex.pick (lv' := _) [1, 0, 2] rfl ?_
      exact lk_X10_herd_45 d _ ih _ _ _ h
theorem cl_X10_herd {pr : Ct} {sc : Nat × (Nat → Int32)} {X : En} (d : Nat) {r : Int32} {σ2 : St} {x1 : Int32} {σ : St} (h : f_X10_herd x1 σ = some (r, σ2)) : Cl MT pr sc (d + 4 + 1) 226 [.ref 38, .int x1] (mk X) σ (some (.int r)) (mk X) σ2 := by
  refine cl_of mr_X10_herd rfl rfl ?_
  unfold f_X10_herd at h
  refine Ex.blk 3 rfl ?_
  obtain ⟨p1, hp1, h⟩ := bind_sp h
  refine Exists.intro (some (.int p1.1)) (Exists.intro (mk X) (Exists.intro p1.2 (And.intro (cl_X10_isSum (d + 2) hp1) ?_)))
  show Ex mr_X10_herd sc (Cl MT pr sc (d + 4)) (rtE (some (.int r)) (mk X) σ2) (5, [(0, .ref 38), (1, .int x1)], [.int p1.1], mk X, p1.2)
  refine Ex.blk 1000 rfl ?_
  rcases ite_sp h with ⟨c1, h⟩ | ⟨c1, h⟩
  · refine And.intro (fun hp => absurd c1 hp) (fun _ => ?_)
    show Ex mr_X10_herd sc (Cl MT pr sc (d + 4)) (rtE (some (.int r)) (mk X) σ2) (8, [(0, .ref 38), (1, .int x1)], [], mk X, p1.2)
    refine Ex.blk 1000 rfl ?_
    cases h
    exact And.intro trivial ⟨rfl, rfl, rfl⟩
  · refine And.intro (fun _ => ?_) (fun hn => absurd c1 hn)
    show Ex mr_X10_herd sc (Cl MT pr sc (d + 4)) (rtE (some (.int r)) (mk X) σ2) (10, [(0, .ref 38), (1, .int x1)], [], mk X, p1.2)
    refine Ex.blk 3 rfl ?_
    obtain ⟨p2, hp2, h⟩ := bind_sp h
    refine Exists.intro none (Exists.intro (mk X) (Exists.intro p2 (And.intro (cl_X10_begin (d + 3) hp2) ?_)))
    show Ex mr_X10_herd sc (Cl MT pr sc (d + 4)) (rtE (some (.int r)) (mk X) σ2) (15, [(0, .ref 38), (1, .int x1)], [], mk X, p2)
    refine Ex.blk 3 rfl ?_
    obtain ⟨p3, hp3, h⟩ := bind_sp h
    refine Exists.intro none (Exists.intro (mk X) (Exists.intro p3 (And.intro (cl_X10_runOf (d + 0) hp3) ?_)))
    show Ex mr_X10_herd sc (Cl MT pr sc (d + 4)) (rtE (some (.int r)) (mk X) σ2) (20, [(0, .ref 38), (1, .int x1)], [], mk X, p3)
    refine Ex.blk 2 rfl ?_
    obtain ⟨p4, hp4, h⟩ := bind_sp h
    refine Exists.intro none (Exists.intro (mk X) (Exists.intro p4 (And.intro (cl_X10_over (d + 3) hp4) ?_)))
    show Ex mr_X10_herd sc (Cl MT pr sc (d + 4)) (rtE (some (.int r)) (mk X) σ2) (24, [(0, .ref 38), (1, .int x1)], [], mk X, p4)
    refine Ex.blk 1000 rfl ?_
    show Ex mr_X10_herd sc (Cl MT pr sc (d + 4)) (rtE (some (.int r)) (mk X) σ2) (28, [(3, .int 0), (2, .int 0), (0, .ref 38), (1, .int x1)], [], mk X, p4)
    refine Ex.pick (lv' := _) [2, 1, 0] rfl ?_
    exact lk_X10_herd_28 d FU _ _ _ h
theorem lk_X10_cheaper_102 {pr : Ct} {sc : Nat × (Nat → Int32)} {X : En} (d : Nat) {r : Int32} {σ2 : St} (k27 : Int32 → Int32 → Int32 → Int32 → Int32 → St → Option (Int32 × St)) (hk27 : ∀ (x1 : Int32) (x2 : Int32) (x3 : Int32) (x4 : Int32) (x5 : Int32) (σ : St), k27 x1 x2 x3 x4 x5 σ = some (r, σ2) → Ex mr_X10_cheaper sc (Cl MT pr sc (d + 3)) (rtE (some (.int r)) (mk X) σ2) (27, [(0, .ref 38), (1, .int x1), (2, .int x2), (3, .int x3), (4, .int x4), (5, .int x5)], [], mk X, σ)) (x1 : Int32) (x2 : Int32) (x3 : Int32) (x5 : Int32) (y0 : Int32) (σ : St) (h : f_X10_cheaper_102 k27 x1 x2 x3 x5 y0 σ = some (r, σ2)) : Ex mr_X10_cheaper sc (Cl MT pr sc (d + 3)) (rtE (some (.int r)) (mk X) σ2) (102, [(0, .ref 38), (1, .int x1), (2, .int x2), (3, .int x3), (5, .int x5)], [.int y0], mk X, σ) := by
  unfold f_X10_cheaper_102 at h
  refine Ex.blk 1000 rfl ?_
  show Ex mr_X10_cheaper sc (Cl MT pr sc (d + 3)) (rtE (some (.int r)) (mk X) σ2) (27, [(5, .int (x5 + 1)), (4, .int y0), (0, .ref 38), (1, .int x1), (2, .int x2), (3, .int x3)], [], mk X, σ)
  refine Ex.pick (lv' := _) [2, 3, 4, 5, 1, 0] rfl ?_
  exact hk27 _ _ _ _ _ _ h
theorem lk_X10_cheaper_89 {pr : Ct} {sc : Nat × (Nat → Int32)} {X : En} (d : Nat) {r : Int32} {σ2 : St} (k27 : Int32 → Int32 → Int32 → Int32 → Int32 → St → Option (Int32 × St)) (hk27 : ∀ (x1 : Int32) (x2 : Int32) (x3 : Int32) (x4 : Int32) (x5 : Int32) (σ : St), k27 x1 x2 x3 x4 x5 σ = some (r, σ2) → Ex mr_X10_cheaper sc (Cl MT pr sc (d + 3)) (rtE (some (.int r)) (mk X) σ2) (27, [(0, .ref 38), (1, .int x1), (2, .int x2), (3, .int x3), (4, .int x4), (5, .int x5)], [], mk X, σ)) (x1 : Int32) (x2 : Int32) (x4 : Int32) (x5 : Int32) (x6 : Int32) (y0 : Int32) (σ : St) (h : f_X10_cheaper_89 k27 x1 x2 x4 x5 x6 y0 σ = some (r, σ2)) : Ex mr_X10_cheaper sc (Cl MT pr sc (d + 3)) (rtE (some (.int r)) (mk X) σ2) (89, [(0, .ref 38), (1, .int x1), (2, .int x2), (4, .int x4), (5, .int x5), (6, .int x6)], [.int y0], mk X, σ) := by
  unfold f_X10_cheaper_89 at h
  refine Ex.blk 1000 rfl ?_
  rcases ite_sp h with ⟨c1, h⟩ | ⟨c1, h⟩
  · refine And.intro (fun hp => absurd c1 hp) (fun _ => ?_)
    show Ex mr_X10_cheaper sc (Cl MT pr sc (d + 3)) (rtE (some (.int r)) (mk X) σ2) (95, [(3, .int y0), (0, .ref 38), (1, .int x1), (2, .int x2), (4, .int x4), (5, .int x5), (6, .int x6)], [], mk X, σ)
    refine Ex.blk 1000 rfl ?_
    show Ex mr_X10_cheaper sc (Cl MT pr sc (d + 3)) (rtE (some (.int r)) (mk X) σ2) (102, [(3, .int y0), (0, .ref 38), (1, .int x1), (2, .int x2), (4, .int x4), (5, .int x5), (6, .int x6)], [.int x6], mk X, σ)
    refine Ex.pick (lv' := _) [1, 2, 3, 0, 5] rfl ?_
    exact lk_X10_cheaper_102 d _ hk27 _ _ _ _ _ _ h
  · refine And.intro (fun _ => ?_) (fun hn => absurd c1 hn)
    show Ex mr_X10_cheaper sc (Cl MT pr sc (d + 3)) (rtE (some (.int r)) (mk X) σ2) (100, [(3, .int y0), (0, .ref 38), (1, .int x1), (2, .int x2), (4, .int x4), (5, .int x5), (6, .int x6)], [], mk X, σ)
    refine Ex.blk 1000 rfl ?_
    show Ex mr_X10_cheaper sc (Cl MT pr sc (d + 3)) (rtE (some (.int r)) (mk X) σ2) (102, [(3, .int y0), (0, .ref 38), (1, .int x1), (2, .int x2), (4, .int x4), (5, .int x5), (6, .int x6)], [.int x4], mk X, σ)
    refine Ex.pick (lv' := _) [1, 2, 3, 0, 5] rfl ?_
    exact lk_X10_cheaper_102 d _ hk27 _ _ _ _ _ _ h
theorem lk_X10_cheaper_88 {pr : Ct} {sc : Nat × (Nat → Int32)} {X : En} (d : Nat) {r : Int32} {σ2 : St} (k27 : Int32 → Int32 → Int32 → Int32 → Int32 → St → Option (Int32 × St)) (hk27 : ∀ (x1 : Int32) (x2 : Int32) (x3 : Int32) (x4 : Int32) (x5 : Int32) (σ : St), k27 x1 x2 x3 x4 x5 σ = some (r, σ2) → Ex mr_X10_cheaper sc (Cl MT pr sc (d + 3)) (rtE (some (.int r)) (mk X) σ2) (27, [(0, .ref 38), (1, .int x1), (2, .int x2), (3, .int x3), (4, .int x4), (5, .int x5)], [], mk X, σ)) (x1 : Int32) (x2 : Int32) (x3 : Int32) (x4 : Int32) (x5 : Int32) (x6 : Int32) (σ : St) (h : f_X10_cheaper_88 k27 x1 x2 x3 x4 x5 x6 σ = some (r, σ2)) : Ex mr_X10_cheaper sc (Cl MT pr sc (d + 3)) (rtE (some (.int r)) (mk X) σ2) (88, [(0, .ref 38), (1, .int x1), (2, .int x2), (3, .int x3), (4, .int x4), (5, .int x5), (6, .int x6)], [], mk X, σ) := by
  unfold f_X10_cheaper_88 at h
  refine Ex.blk 1000 rfl ?_
  show Ex mr_X10_cheaper sc (Cl MT pr sc (d + 3)) (rtE (some (.int r)) (mk X) σ2) (89, [(0, .ref 38), (1, .int x1), (2, .int x2), (3, .int x3), (4, .int x4), (5, .int x5), (6, .int x6)], [.int x3], mk X, σ)
  refine Ex.pick (lv' := _) [0, 1, 2, 4, 5, 6] rfl ?_
  exact lk_X10_cheaper_89 d _ hk27 _ _ _ _ _ _ _ h
theorem lk_X10_cheaper_67 {pr : Ct} {sc : Nat × (Nat → Int32)} {X : En} (d : Nat) {r : Int32} {σ2 : St} (k27 : Int32 → Int32 → Int32 → Int32 → Int32 → St → Option (Int32 × St)) (hk27 : ∀ (x1 : Int32) (x2 : Int32) (x3 : Int32) (x4 : Int32) (x5 : Int32) (σ : St), k27 x1 x2 x3 x4 x5 σ = some (r, σ2) → Ex mr_X10_cheaper sc (Cl MT pr sc (d + 3)) (rtE (some (.int r)) (mk X) σ2) (27, [(0, .ref 38), (1, .int x1), (2, .int x2), (3, .int x3), (4, .int x4), (5, .int x5)], [], mk X, σ)) (x1 : Int32) (x2 : Int32) (x3 : Int32) (x4 : Int32) (x5 : Int32) (x6 : Int32) (σ : St) (h : f_X10_cheaper_67 k27 x1 x2 x3 x4 x5 x6 σ = some (r, σ2)) : Ex mr_X10_cheaper sc (Cl MT pr sc (d + 3)) (rtE (some (.int r)) (mk X) σ2) (67, [(0, .ref 38), (1, .int x1), (2, .int x2), (3, .int x3), (4, .int x4), (5, .int x5), (6, .int x6)], [], mk X, σ) := by
  unfold f_X10_cheaper_67 at h
  refine Ex.blk 2 rfl ?_
  obtain ⟨p4, hp4, h⟩ := bind_sp h
  refine Exists.intro none (Exists.intro (mk X) (Exists.intro p4 (And.intro (cl_X10_over (d + 2) hp4) ?_)))
  show Ex mr_X10_cheaper sc (Cl MT pr sc (d + 3)) (rtE (some (.int r)) (mk X) σ2) (71, [(0, .ref 38), (1, .int x1), (2, .int x2), (3, .int x3), (4, .int x4), (5, .int x5), (6, .int x6)], [], mk X, p4)
  refine Ex.blk 1000 rfl ?_
  rcases ite_sp h with ⟨c1, h⟩ | ⟨c1, h⟩
  · refine And.intro (fun hp => absurd c1 hp) (fun _ => ?_)
    show Ex mr_X10_cheaper sc (Cl MT pr sc (d + 3)) (rtE (some (.int r)) (mk X) σ2) (77, [(0, .ref 38), (1, .int x1), (2, .int x2), (3, .int x3), (4, .int x4), (5, .int x5), (6, .int x6)], [], mk X, p4)
    refine Ex.blk 1000 rfl ?_
    rcases ite_sp h with ⟨c2, h⟩ | ⟨c2, h⟩
    · refine And.intro (fun _ => ?_) (fun hn => absurd c2 hn)
      show Ex mr_X10_cheaper sc (Cl MT pr sc (d + 3)) (rtE (some (.int r)) (mk X) σ2) (88, [(0, .ref 38), (1, .int x1), (2, .int x2), (3, .int x3), (4, .int x4), (5, .int x5), (6, .int x6)], [], mk X, p4)
      exact lk_X10_cheaper_88 d _ hk27 _ _ _ _ _ _ _ h
    · refine And.intro (fun hp => absurd hp c2) (fun _ => ?_)
      show Ex mr_X10_cheaper sc (Cl MT pr sc (d + 3)) (rtE (some (.int r)) (mk X) σ2) (84, [(0, .ref 38), (1, .int x1), (2, .int x2), (3, .int x3), (4, .int x4), (5, .int x5), (6, .int x6)], [], mk X, p4)
      refine Ex.blk 1000 rfl ?_
      show Ex mr_X10_cheaper sc (Cl MT pr sc (d + 3)) (rtE (some (.int r)) (mk X) σ2) (89, [(0, .ref 38), (1, .int x1), (2, .int x2), (3, .int x3), (4, .int x4), (5, .int x5), (6, .int x6)], [.int 1], mk X, p4)
      refine Ex.pick (lv' := _) [0, 1, 2, 4, 5, 6] rfl ?_
      exact lk_X10_cheaper_89 d _ hk27 _ _ _ _ _ _ _ h
  · refine And.intro (fun _ => ?_) (fun hn => absurd c1 hn)
    show Ex mr_X10_cheaper sc (Cl MT pr sc (d + 3)) (rtE (some (.int r)) (mk X) σ2) (88, [(0, .ref 38), (1, .int x1), (2, .int x2), (3, .int x3), (4, .int x4), (5, .int x5), (6, .int x6)], [], mk X, p4)
    exact lk_X10_cheaper_88 d _ hk27 _ _ _ _ _ _ _ h
theorem lk_X10_cheaper_27 {pr : Ct} {sc : Nat × (Nat → Int32)} {X : En} (d : Nat) {r : Int32} {σ2 : St} : ∀ (n : Nat) (x1 : Int32) (x2 : Int32) (x3 : Int32) (x4 : Int32) (x5 : Int32) (σ : St), f_X10_cheaper_27 n x1 x2 x3 x4 x5 σ = some (r, σ2) → Ex mr_X10_cheaper sc (Cl MT pr sc (d + 3)) (rtE (some (.int r)) (mk X) σ2) (27, [(0, .ref 38), (1, .int x1), (2, .int x2), (3, .int x3), (4, .int x4), (5, .int x5)], [], mk X, σ) := by
  intro n
  induction n with
  | zero =>
    intro x1 x2 x3 x4 x5 σ h
    cases h
  | succ n ih =>
    intro x1 x2 x3 x4 x5 σ h
    simp only [f_X10_cheaper_27] at h
    refine Ex.blk 1000 rfl ?_
    rcases ite_sp h with ⟨c1, h⟩ | ⟨c1, h⟩
    · refine And.intro (fun _ => ?_) (fun hn => absurd c1 hn)
      show Ex mr_X10_cheaper sc (Cl MT pr sc (d + 3)) (rtE (some (.int r)) (mk X) σ2) (110, [(0, .ref 38), (1, .int x1), (2, .int x2), (3, .int x3), (4, .int x4), (5, .int x5)], [], mk X, σ)
      refine Ex.blk 1000 rfl ?_
      cases h
      exact And.intro trivial ⟨rfl, rfl, rfl⟩
    · refine And.intro (fun hp => absurd hp c1) (fun _ => ?_)
      show Ex mr_X10_cheaper sc (Cl MT pr sc (d + 3)) (rtE (some (.int r)) (mk X) σ2) (33, [(0, .ref 38), (1, .int x1), (2, .int x2), (3, .int x3), (4, .int x4), (5, .int x5)], [], mk X, σ)
      refine Ex.blk 3 rfl ?_
      obtain ⟨p2, hp2, h⟩ := bind_sp h
      refine Exists.intro none (Exists.intro (mk X) (Exists.intro p2 (And.intro (cl_X10_begin (d + 2) hp2) ?_)))
      show Ex mr_X10_cheaper sc (Cl MT pr sc (d + 3)) (rtE (some (.int r)) (mk X) σ2) (38, [(0, .ref 38), (1, .int x1), (2, .int x2), (3, .int x3), (4, .int x4), (5, .int x5)], [], mk X, p2)
      refine Ex.blk 5 rfl ?_
      show Ex mr_X10_cheaper sc (Cl MT pr sc (d + 3)) (rtE (some (.int r)) (mk X) σ2) (46, [(0, .ref 38), (1, .int x1), (2, .int x2), (3, .int x3), (4, .int x4), (5, .int x5)], [.int x1, .ref 38], mk X, (sI p2 38 11 x5))
      refine Ex.blk 2 rfl ?_
      obtain ⟨p3, hp3, h⟩ := bind_sp h
      refine Exists.intro none (Exists.intro (mk X) (Exists.intro p3 (And.intro (cl_X10_addOf (d + 0) hp3) ?_)))
      show Ex mr_X10_cheaper sc (Cl MT pr sc (d + 3)) (rtE (some (.int r)) (mk X) σ2) (50, [(0, .ref 38), (1, .int x1), (2, .int x2), (3, .int x3), (4, .int x4), (5, .int x5)], [], mk X, p3)
      refine Ex.blk 4 rfl ?_
      refine And.intro (inb_ok (i := 12) (n := 19) (by decide)) ?_
      show Ex mr_X10_cheaper sc (Cl MT pr sc (d + 3)) (rtE (some (.int r)) (mk X) σ2) (57, [(0, .ref 38), (1, .int x1), (2, .int x2), (3, .int x3), (4, .int x4), (5, .int x5)], [.int (gI p3 46 (12 : Int32).toNatClampNeg)], mk X, p3)
      refine Ex.blk 4 rfl ?_
      refine And.intro (inb_ok (i := 12) (n := 19) (by decide)) ?_
      show Ex mr_X10_cheaper sc (Cl MT pr sc (d + 3)) (rtE (some (.int r)) (mk X) σ2) (64, [(0, .ref 38), (1, .int x1), (2, .int x2), (3, .int x3), (4, .int x4), (5, .int x5)], [.int (gI p3 57 (12 : Int32).toNatClampNeg), .int (gI p3 46 (12 : Int32).toNatClampNeg)], mk X, p3)
      refine Ex.blk 2 rfl ?_
      show Ex mr_X10_cheaper sc (Cl MT pr sc (d + 3)) (rtE (some (.int r)) (mk X) σ2) (67, [(6, .int ((gI p3 46 (12 : Int32).toNatClampNeg) - (gI p3 57 (12 : Int32).toNatClampNeg))), (0, .ref 38), (1, .int x1), (2, .int x2), (3, .int x3), (4, .int x4), (5, .int x5)], [], mk X, p3)
      refine Ex.pick (lv' := _) [1, 2, 3, 4, 5, 6, 0] rfl ?_
      exact lk_X10_cheaper_67 d _ ih _ _ _ _ _ _ _ h
theorem lk_X10_cheaper_19 {pr : Ct} {sc : Nat × (Nat → Int32)} {X : En} (d : Nat) {r : Int32} {σ2 : St} (x1 : Int32) (x2 : Int32) (σ : St) (h : f_X10_cheaper_19 x1 x2 σ = some (r, σ2)) : Ex mr_X10_cheaper sc (Cl MT pr sc (d + 3)) (rtE (some (.int r)) (mk X) σ2) (19, [(0, .ref 38), (1, .int x1), (2, .int x2)], [], mk X, σ) := by
  unfold f_X10_cheaper_19 at h
  refine Ex.blk 5 rfl ?_
  show Ex mr_X10_cheaper sc (Cl MT pr sc (d + 3)) (rtE (some (.int r)) (mk X) σ2) (25, [(4, .int 0), (3, .int 0), (0, .ref 38), (1, .int x1), (2, .int x2)], [.int 0], mk X, σ)
  refine Ex.blk 1000 rfl ?_
  show Ex mr_X10_cheaper sc (Cl MT pr sc (d + 3)) (rtE (some (.int r)) (mk X) σ2) (27, [(5, .int 0), (4, .int 0), (3, .int 0), (0, .ref 38), (1, .int x1), (2, .int x2)], [], mk X, σ)
  refine Ex.pick (lv' := _) [3, 4, 5, 2, 1, 0] rfl ?_
  exact lk_X10_cheaper_27 d FU _ _ _ _ _ _ h
theorem cl_X10_cheaper {pr : Ct} {sc : Nat × (Nat → Int32)} {X : En} (d : Nat) {r : Int32} {σ2 : St} {x1 : Int32} {σ : St} (h : f_X10_cheaper x1 σ = some (r, σ2)) : Cl MT pr sc (d + 3 + 1) 227 [.ref 38, .int x1] (mk X) σ (some (.int r)) (mk X) σ2 := by
  refine cl_of mr_X10_cheaper rfl rfl ?_
  unfold f_X10_cheaper at h
  refine Ex.blk 5 rfl ?_
  obtain ⟨p1, hp1, h⟩ := bind_sp h
  refine Exists.intro (some (.int p1.1)) (Exists.intro (mk X) (Exists.intro p1.2 (And.intro (cl_X10_in (d + 2) hp1) ?_)))
  show Ex mr_X10_cheaper sc (Cl MT pr sc (d + 3)) (rtE (some (.int r)) (mk X) σ2) (9, [(0, .ref 38), (1, .int x1)], [.int p1.1], mk X, p1.2)
  refine Ex.blk 1000 rfl ?_
  rcases ite_sp h with ⟨c1, h⟩ | ⟨c1, h⟩
  · refine And.intro (fun hp => absurd c1 hp) (fun _ => ?_)
    show Ex mr_X10_cheaper sc (Cl MT pr sc (d + 3)) (rtE (some (.int r)) (mk X) σ2) (12, [(0, .ref 38), (1, .int x1)], [], mk X, p1.2)
    refine Ex.blk 1000 rfl ?_
    cases h
    exact And.intro trivial ⟨rfl, rfl, rfl⟩
  · refine And.intro (fun _ => ?_) (fun hn => absurd c1 hn)
    show Ex mr_X10_cheaper sc (Cl MT pr sc (d + 3)) (rtE (some (.int r)) (mk X) σ2) (14, [(0, .ref 38), (1, .int x1)], [], mk X, p1.2)
    refine Ex.blk 3 rfl ?_
    show Ex mr_X10_cheaper sc (Cl MT pr sc (d + 3)) (rtE (some (.int r)) (mk X) σ2) (19, [(2, .int (gI p1.2 38 11)), (0, .ref 38), (1, .int x1)], [], mk X, p1.2)
    refine Ex.pick (lv' := _) [1, 2, 0] rfl ?_
    exact lk_X10_cheaper_19 d _ _ _ h
theorem lk_X10_standingAt_291 {pr : Ct} {sc : Nat × (Nat → Int32)} {X : En} (d : Nat) {r : Int32} {σ2 : St} (k17 : Int32 → Int32 → Int32 → Int32 → Int32 → Int32 → Int32 → St → Option (Int32 × St)) (k93 : Int32 → Int32 → Int32 → Int32 → Int32 → Int32 → Int32 → Int32 → Int32 → Int32 → Int32 → Int32 → Int32 → St → Option (Int32 × St)) (hk17 : ∀ (x1 : Int32) (x2 : Int32) (x3 : Int32) (x4 : Int32) (x5 : Int32) (x6 : Int32) (x7 : Int32) (σ : St), k17 x1 x2 x3 x4 x5 x6 x7 σ = some (r, σ2) → Ex mr_X10_standingAt sc (Cl MT pr sc (d + 2)) (rtE (some (.int r)) (mk X) σ2) (17, [(0, .ref 38), (1, .int x1), (2, .int x2), (3, .int x3), (4, .int x4), (5, .int x5), (6, .int x6), (7, .int x7)], [], mk X, σ)) (hk93 : ∀ (x1 : Int32) (x2 : Int32) (x3 : Int32) (x4 : Int32) (x5 : Int32) (x6 : Int32) (x7 : Int32) (x8 : Int32) (x9 : Int32) (x10 : Int32) (x11 : Int32) (x12 : Int32) (x13 : Int32) (σ : St), k93 x1 x2 x3 x4 x5 x6 x7 x8 x9 x10 x11 x12 x13 σ = some (r, σ2) → Ex mr_X10_standingAt sc (Cl MT pr sc (d + 2)) (rtE (some (.int r)) (mk X) σ2) (93, [(0, .ref 38), (1, .int x1), (2, .int x2), (3, .int x3), (4, .int x4), (5, .int x5), (6, .int x6), (7, .int x7), (8, .int x8), (9, .int x9), (10, .int x10), (11, .int x11), (12, .int x12), (13, .int x13)], [], mk X, σ)) (x1 : Int32) (x2 : Int32) (x3 : Int32) (x4 : Int32) (x5 : Int32) (x6 : Int32) (x7 : Int32) (x8 : Int32) (x9 : Int32) (x10 : Int32) (x11 : Int32) (x12 : Int32) (x13 : Int32) (σ : St) (h : f_X10_standingAt_291 k17 k93 x1 x2 x3 x4 x5 x6 x7 x8 x9 x10 x11 x12 x13 σ = some (r, σ2)) : Ex mr_X10_standingAt sc (Cl MT pr sc (d + 2)) (rtE (some (.int r)) (mk X) σ2) (291, [(0, .ref 38), (1, .int x1), (2, .int x2), (3, .int x3), (4, .int x4), (5, .int x5), (6, .int x6), (7, .int x7), (8, .int x8), (9, .int x9), (10, .int x10), (11, .int x11), (12, .int x12), (13, .int x13)], [], mk X, σ) := by
  unfold f_X10_standingAt_291 at h
  refine Ex.blk 1000 rfl ?_
  show Ex mr_X10_standingAt sc (Cl MT pr sc (d + 2)) (rtE (some (.int r)) (mk X) σ2) (93, [(13, .int (x13 + 1)), (0, .ref 38), (1, .int x1), (2, .int x2), (3, .int x3), (4, .int x4), (5, .int x5), (6, .int x6), (7, .int x7), (8, .int x8), (9, .int x9), (10, .int x10), (11, .int x11), (12, .int x12)], [], mk X, σ)
  refine Ex.pick (lv' := _) [1, 2, 3, 4, 5, 6, 7, 8, 9, 10, 11, 12, 13, 0] rfl ?_
  exact hk93 _ _ _ _ _ _ _ _ _ _ _ _ _ _ h
theorem lk_X10_standingAt_285 {pr : Ct} {sc : Nat × (Nat → Int32)} {X : En} (d : Nat) {r : Int32} {σ2 : St} (k17 : Int32 → Int32 → Int32 → Int32 → Int32 → Int32 → Int32 → St → Option (Int32 × St)) (k93 : Int32 → Int32 → Int32 → Int32 → Int32 → Int32 → Int32 → Int32 → Int32 → Int32 → Int32 → Int32 → Int32 → St → Option (Int32 × St)) (hk17 : ∀ (x1 : Int32) (x2 : Int32) (x3 : Int32) (x4 : Int32) (x5 : Int32) (x6 : Int32) (x7 : Int32) (σ : St), k17 x1 x2 x3 x4 x5 x6 x7 σ = some (r, σ2) → Ex mr_X10_standingAt sc (Cl MT pr sc (d + 2)) (rtE (some (.int r)) (mk X) σ2) (17, [(0, .ref 38), (1, .int x1), (2, .int x2), (3, .int x3), (4, .int x4), (5, .int x5), (6, .int x6), (7, .int x7)], [], mk X, σ)) (hk93 : ∀ (x1 : Int32) (x2 : Int32) (x3 : Int32) (x4 : Int32) (x5 : Int32) (x6 : Int32) (x7 : Int32) (x8 : Int32) (x9 : Int32) (x10 : Int32) (x11 : Int32) (x12 : Int32) (x13 : Int32) (σ : St), k93 x1 x2 x3 x4 x5 x6 x7 x8 x9 x10 x11 x12 x13 σ = some (r, σ2) → Ex mr_X10_standingAt sc (Cl MT pr sc (d + 2)) (rtE (some (.int r)) (mk X) σ2) (93, [(0, .ref 38), (1, .int x1), (2, .int x2), (3, .int x3), (4, .int x4), (5, .int x5), (6, .int x6), (7, .int x7), (8, .int x8), (9, .int x9), (10, .int x10), (11, .int x11), (12, .int x12), (13, .int x13)], [], mk X, σ)) (x1 : Int32) (x2 : Int32) (x3 : Int32) (x4 : Int32) (x5 : Int32) (x6 : Int32) (x7 : Int32) (x8 : Int32) (x10 : Int32) (x12 : Int32) (x13 : Int32) (x17 : Int32) (y0 : Int32) (σ : St) (h : f_X10_standingAt_285 k17 k93 x1 x2 x3 x4 x5 x6 x7 x8 x10 x12 x13 x17 y0 σ = some (r, σ2)) : Ex mr_X10_standingAt sc (Cl MT pr sc (d + 2)) (rtE (some (.int r)) (mk X) σ2) (285, [(0, .ref 38), (1, .int x1), (2, .int x2), (3, .int x3), (4, .int x4), (5, .int x5), (6, .int x6), (7, .int x7), (8, .int x8), (10, .int x10), (12, .int x12), (13, .int x13), (17, .int x17)], [.int y0], mk X, σ) := by
  unfold f_X10_standingAt_285 at h
  refine Ex.blk 1000 rfl ?_
  show Ex mr_X10_standingAt sc (Cl MT pr sc (d + 2)) (rtE (some (.int r)) (mk X) σ2) (291, [(9, .int x17), (11, .int y0), (0, .ref 38), (1, .int x1), (2, .int x2), (3, .int x3), (4, .int x4), (5, .int x5), (6, .int x6), (7, .int x7), (8, .int x8), (10, .int x10), (12, .int x12), (13, .int x13), (17, .int x17)], [], mk X, σ)
  refine Ex.pick (lv' := _) [2, 3, 4, 5, 6, 7, 8, 9, 10, 0, 11, 1, 12, 13] rfl ?_
  exact lk_X10_standingAt_291 d _ _ hk17 hk93 _ _ _ _ _ _ _ _ _ _ _ _ _ _ h
theorem lk_X10_standingAt_266 {pr : Ct} {sc : Nat × (Nat → Int32)} {X : En} (d : Nat) {r : Int32} {σ2 : St} (k17 : Int32 → Int32 → Int32 → Int32 → Int32 → Int32 → Int32 → St → Option (Int32 × St)) (k93 : Int32 → Int32 → Int32 → Int32 → Int32 → Int32 → Int32 → Int32 → Int32 → Int32 → Int32 → Int32 → Int32 → St → Option (Int32 × St)) (hk17 : ∀ (x1 : Int32) (x2 : Int32) (x3 : Int32) (x4 : Int32) (x5 : Int32) (x6 : Int32) (x7 : Int32) (σ : St), k17 x1 x2 x3 x4 x5 x6 x7 σ = some (r, σ2) → Ex mr_X10_standingAt sc (Cl MT pr sc (d + 2)) (rtE (some (.int r)) (mk X) σ2) (17, [(0, .ref 38), (1, .int x1), (2, .int x2), (3, .int x3), (4, .int x4), (5, .int x5), (6, .int x6), (7, .int x7)], [], mk X, σ)) (hk93 : ∀ (x1 : Int32) (x2 : Int32) (x3 : Int32) (x4 : Int32) (x5 : Int32) (x6 : Int32) (x7 : Int32) (x8 : Int32) (x9 : Int32) (x10 : Int32) (x11 : Int32) (x12 : Int32) (x13 : Int32) (σ : St), k93 x1 x2 x3 x4 x5 x6 x7 x8 x9 x10 x11 x12 x13 σ = some (r, σ2) → Ex mr_X10_standingAt sc (Cl MT pr sc (d + 2)) (rtE (some (.int r)) (mk X) σ2) (93, [(0, .ref 38), (1, .int x1), (2, .int x2), (3, .int x3), (4, .int x4), (5, .int x5), (6, .int x6), (7, .int x7), (8, .int x8), (9, .int x9), (10, .int x10), (11, .int x11), (12, .int x12), (13, .int x13)], [], mk X, σ)) (x1 : Int32) (x2 : Int32) (x3 : Int32) (x4 : Int32) (x5 : Int32) (x6 : Int32) (x7 : Int32) (x8 : Int32) (x10 : Int32) (x11 : Int32) (x12 : Int32) (x13 : Int32) (x16 : Int32) (x17 : Int32) (σ : St) (h : f_X10_standingAt_266 k17 k93 x1 x2 x3 x4 x5 x6 x7 x8 x10 x11 x12 x13 x16 x17 σ = some (r, σ2)) : Ex mr_X10_standingAt sc (Cl MT pr sc (d + 2)) (rtE (some (.int r)) (mk X) σ2) (266, [(0, .ref 38), (1, .int x1), (2, .int x2), (3, .int x3), (4, .int x4), (5, .int x5), (6, .int x6), (7, .int x7), (8, .int x8), (10, .int x10), (11, .int x11), (12, .int x12), (13, .int x13), (16, .int x16), (17, .int x17)], [], mk X, σ) := by
  unfold f_X10_standingAt_266 at h
  refine Ex.blk 1000 rfl ?_
  rcases ite_sp h with ⟨c1, h⟩ | ⟨c1, h⟩
  · refine And.intro (fun _ => ?_) (fun hn => absurd c1 hn)
    show Ex mr_X10_standingAt sc (Cl MT pr sc (d + 2)) (rtE (some (.int r)) (mk X) σ2) (283, [(0, .ref 38), (1, .int x1), (2, .int x2), (3, .int x3), (4, .int x4), (5, .int x5), (6, .int x6), (7, .int x7), (8, .int x8), (10, .int x10), (11, .int x11), (12, .int x12), (13, .int x13), (16, .int x16), (17, .int x17)], [], mk X, σ)
    refine Ex.blk 1000 rfl ?_
    show Ex mr_X10_standingAt sc (Cl MT pr sc (d + 2)) (rtE (some (.int r)) (mk X) σ2) (285, [(0, .ref 38), (1, .int x1), (2, .int x2), (3, .int x3), (4, .int x4), (5, .int x5), (6, .int x6), (7, .int x7), (8, .int x8), (10, .int x10), (11, .int x11), (12, .int x12), (13, .int x13), (16, .int x16), (17, .int x17)], [.int x11], mk X, σ)
    refine Ex.pick (lv' := _) [0, 1, 2, 3, 4, 5, 6, 7, 8, 9, 11, 12, 14] rfl ?_
    exact lk_X10_standingAt_285 d _ _ hk17 hk93 _ _ _ _ _ _ _ _ _ _ _ _ _ _ h
  · refine And.intro (fun hp => absurd hp c1) (fun _ => ?_)
    show Ex mr_X10_standingAt sc (Cl MT pr sc (d + 2)) (rtE (some (.int r)) (mk X) σ2) (273, [(0, .ref 38), (1, .int x1), (2, .int x2), (3, .int x3), (4, .int x4), (5, .int x5), (6, .int x6), (7, .int x7), (8, .int x8), (10, .int x10), (11, .int x11), (12, .int x12), (13, .int x13), (16, .int x16), (17, .int x17)], [], mk X, σ)
    refine Ex.blk 1000 rfl ?_
    show Ex mr_X10_standingAt sc (Cl MT pr sc (d + 2)) (rtE (some (.int r)) (mk X) σ2) (285, [(0, .ref 38), (1, .int x1), (2, .int x2), (3, .int x3), (4, .int x4), (5, .int x5), (6, .int x6), (7, .int x7), (8, .int x8), (10, .int x10), (11, .int x11), (12, .int x12), (13, .int x13), (16, .int x16), (17, .int x17)], [.int (x10 + (gI σ 38 13))], mk X, σ)
    refine Ex.pick (lv' := _) [0, 1, 2, 3, 4, 5, 6, 7, 8, 9, 11, 12, 14] rfl ?_
    exact lk_X10_standingAt_285 d _ _ hk17 hk93 _ _ _ _ _ _ _ _ _ _ _ _ _ _ h
theorem lk_X10_standingAt_248 {pr : Ct} {sc : Nat × (Nat → Int32)} {X : En} (d : Nat) {r : Int32} {σ2 : St} (k17 : Int32 → Int32 → Int32 → Int32 → Int32 → Int32 → Int32 → St → Option (Int32 × St)) (k93 : Int32 → Int32 → Int32 → Int32 → Int32 → Int32 → Int32 → Int32 → Int32 → Int32 → Int32 → Int32 → Int32 → St → Option (Int32 × St)) (hk17 : ∀ (x1 : Int32) (x2 : Int32) (x3 : Int32) (x4 : Int32) (x5 : Int32) (x6 : Int32) (x7 : Int32) (σ : St), k17 x1 x2 x3 x4 x5 x6 x7 σ = some (r, σ2) → Ex mr_X10_standingAt sc (Cl MT pr sc (d + 2)) (rtE (some (.int r)) (mk X) σ2) (17, [(0, .ref 38), (1, .int x1), (2, .int x2), (3, .int x3), (4, .int x4), (5, .int x5), (6, .int x6), (7, .int x7)], [], mk X, σ)) (hk93 : ∀ (x1 : Int32) (x2 : Int32) (x3 : Int32) (x4 : Int32) (x5 : Int32) (x6 : Int32) (x7 : Int32) (x8 : Int32) (x9 : Int32) (x10 : Int32) (x11 : Int32) (x12 : Int32) (x13 : Int32) (σ : St), k93 x1 x2 x3 x4 x5 x6 x7 x8 x9 x10 x11 x12 x13 σ = some (r, σ2) → Ex mr_X10_standingAt sc (Cl MT pr sc (d + 2)) (rtE (some (.int r)) (mk X) σ2) (93, [(0, .ref 38), (1, .int x1), (2, .int x2), (3, .int x3), (4, .int x4), (5, .int x5), (6, .int x6), (7, .int x7), (8, .int x8), (9, .int x9), (10, .int x10), (11, .int x11), (12, .int x12), (13, .int x13)], [], mk X, σ)) (x1 : Int32) (x2 : Int32) (x3 : Int32) (x4 : Int32) (x5 : Int32) (x6 : Int32) (x7 : Int32) (x8 : Int32) (x9 : Int32) (x11 : Int32) (x12 : Int32) (x13 : Int32) (x16 : Int32) (x17 : Int32) (x18 : Int32) (σ : St) (h : f_X10_standingAt_248 k17 k93 x1 x2 x3 x4 x5 x6 x7 x8 x9 x11 x12 x13 x16 x17 x18 σ = some (r, σ2)) : Ex mr_X10_standingAt sc (Cl MT pr sc (d + 2)) (rtE (some (.int r)) (mk X) σ2) (248, [(0, .ref 38), (1, .int x1), (2, .int x2), (3, .int x3), (4, .int x4), (5, .int x5), (6, .int x6), (7, .int x7), (8, .int x8), (9, .int x9), (11, .int x11), (12, .int x12), (13, .int x13), (16, .int x16), (17, .int x17), (18, .int x18)], [], mk X, σ) := by
  unfold f_X10_standingAt_248 at h
  refine Ex.blk 5 rfl ?_
  show Ex mr_X10_standingAt sc (Cl MT pr sc (d + 2)) (rtE (some (.int r)) (mk X) σ2) (258, [(0, .ref 38), (1, .int x1), (2, .int x2), (3, .int x3), (4, .int x4), (5, .int x5), (6, .int x6), (7, .int x7), (8, .int x8), (9, .int x9), (11, .int x11), (12, .int x12), (13, .int x13), (16, .int x16), (17, .int x17), (18, .int x18)], [.int x9, .int x17, .int (gI σ 38 12), .int x18], mk X, σ)
  refine Ex.blk 5 rfl ?_
  show Ex mr_X10_standingAt sc (Cl MT pr sc (d + 2)) (rtE (some (.int r)) (mk X) σ2) (266, [(10, .int (x18 + ((gI σ 38 12) * (abI (x17 - x9))))), (0, .ref 38), (1, .int x1), (2, .int x2), (3, .int x3), (4, .int x4), (5, .int x5), (6, .int x6), (7, .int x7), (8, .int x8), (9, .int x9), (11, .int x11), (12, .int x12), (13, .int x13), (16, .int x16), (17, .int x17), (18, .int x18)], [], mk X, σ)
  refine Ex.pick (lv' := _) [1, 2, 3, 4, 5, 6, 7, 8, 9, 0, 11, 12, 13, 14, 15] rfl ?_
  exact lk_X10_standingAt_266 d _ _ hk17 hk93 _ _ _ _ _ _ _ _ _ _ _ _ _ _ _ h
theorem lk_X10_standingAt_245 {pr : Ct} {sc : Nat × (Nat → Int32)} {X : En} (d : Nat) {r : Int32} {σ2 : St} (k17 : Int32 → Int32 → Int32 → Int32 → Int32 → Int32 → Int32 → St → Option (Int32 × St)) (k93 : Int32 → Int32 → Int32 → Int32 → Int32 → Int32 → Int32 → Int32 → Int32 → Int32 → Int32 → Int32 → Int32 → St → Option (Int32 × St)) (hk17 : ∀ (x1 : Int32) (x2 : Int32) (x3 : Int32) (x4 : Int32) (x5 : Int32) (x6 : Int32) (x7 : Int32) (σ : St), k17 x1 x2 x3 x4 x5 x6 x7 σ = some (r, σ2) → Ex mr_X10_standingAt sc (Cl MT pr sc (d + 2)) (rtE (some (.int r)) (mk X) σ2) (17, [(0, .ref 38), (1, .int x1), (2, .int x2), (3, .int x3), (4, .int x4), (5, .int x5), (6, .int x6), (7, .int x7)], [], mk X, σ)) (hk93 : ∀ (x1 : Int32) (x2 : Int32) (x3 : Int32) (x4 : Int32) (x5 : Int32) (x6 : Int32) (x7 : Int32) (x8 : Int32) (x9 : Int32) (x10 : Int32) (x11 : Int32) (x12 : Int32) (x13 : Int32) (σ : St), k93 x1 x2 x3 x4 x5 x6 x7 x8 x9 x10 x11 x12 x13 σ = some (r, σ2) → Ex mr_X10_standingAt sc (Cl MT pr sc (d + 2)) (rtE (some (.int r)) (mk X) σ2) (93, [(0, .ref 38), (1, .int x1), (2, .int x2), (3, .int x3), (4, .int x4), (5, .int x5), (6, .int x6), (7, .int x7), (8, .int x8), (9, .int x9), (10, .int x10), (11, .int x11), (12, .int x12), (13, .int x13)], [], mk X, σ)) (x1 : Int32) (x2 : Int32) (x3 : Int32) (x4 : Int32) (x5 : Int32) (x7 : Int32) (x8 : Int32) (x9 : Int32) (x11 : Int32) (x12 : Int32) (x13 : Int32) (x16 : Int32) (x17 : Int32) (x18 : Int32) (y0 : Int32) (y1 : Int32) (σ : St) (h : f_X10_standingAt_245 k17 k93 x1 x2 x3 x4 x5 x7 x8 x9 x11 x12 x13 x16 x17 x18 y0 y1 σ = some (r, σ2)) : Ex mr_X10_standingAt sc (Cl MT pr sc (d + 2)) (rtE (some (.int r)) (mk X) σ2) (245, [(0, .ref 38), (1, .int x1), (2, .int x2), (3, .int x3), (4, .int x4), (5, .int x5), (7, .int x7), (8, .int x8), (9, .int x9), (11, .int x11), (12, .int x12), (13, .int x13), (16, .int x16), (17, .int x17), (18, .int x18)], [.int y0, .int y1], mk X, σ) := by
  unfold f_X10_standingAt_245 at h
  refine Ex.blk 2 rfl ?_
  show Ex mr_X10_standingAt sc (Cl MT pr sc (d + 2)) (rtE (some (.int r)) (mk X) σ2) (248, [(6, .int (y1 + y0)), (0, .ref 38), (1, .int x1), (2, .int x2), (3, .int x3), (4, .int x4), (5, .int x5), (7, .int x7), (8, .int x8), (9, .int x9), (11, .int x11), (12, .int x12), (13, .int x13), (16, .int x16), (17, .int x17), (18, .int x18)], [], mk X, σ)
  refine Ex.pick (lv' := _) [1, 2, 3, 4, 5, 6, 0, 7, 8, 9, 10, 11, 12, 13, 14, 15] rfl ?_
  exact lk_X10_standingAt_248 d _ _ hk17 hk93 _ _ _ _ _ _ _ _ _ _ _ _ _ _ _ _ h
theorem lk_X10_standingAt_228 {pr : Ct} {sc : Nat × (Nat → Int32)} {X : En} (d : Nat) {r : Int32} {σ2 : St} (k17 : Int32 → Int32 → Int32 → Int32 → Int32 → Int32 → Int32 → St → Option (Int32 × St)) (k93 : Int32 → Int32 → Int32 → Int32 → Int32 → Int32 → Int32 → Int32 → Int32 → Int32 → Int32 → Int32 → Int32 → St → Option (Int32 × St)) (hk17 : ∀ (x1 : Int32) (x2 : Int32) (x3 : Int32) (x4 : Int32) (x5 : Int32) (x6 : Int32) (x7 : Int32) (σ : St), k17 x1 x2 x3 x4 x5 x6 x7 σ = some (r, σ2) → Ex mr_X10_standingAt sc (Cl MT pr sc (d + 2)) (rtE (some (.int r)) (mk X) σ2) (17, [(0, .ref 38), (1, .int x1), (2, .int x2), (3, .int x3), (4, .int x4), (5, .int x5), (6, .int x6), (7, .int x7)], [], mk X, σ)) (hk93 : ∀ (x1 : Int32) (x2 : Int32) (x3 : Int32) (x4 : Int32) (x5 : Int32) (x6 : Int32) (x7 : Int32) (x8 : Int32) (x9 : Int32) (x10 : Int32) (x11 : Int32) (x12 : Int32) (x13 : Int32) (σ : St), k93 x1 x2 x3 x4 x5 x6 x7 x8 x9 x10 x11 x12 x13 σ = some (r, σ2) → Ex mr_X10_standingAt sc (Cl MT pr sc (d + 2)) (rtE (some (.int r)) (mk X) σ2) (93, [(0, .ref 38), (1, .int x1), (2, .int x2), (3, .int x3), (4, .int x4), (5, .int x5), (6, .int x6), (7, .int x7), (8, .int x8), (9, .int x9), (10, .int x10), (11, .int x11), (12, .int x12), (13, .int x13)], [], mk X, σ)) (x1 : Int32) (x2 : Int32) (x3 : Int32) (x4 : Int32) (x5 : Int32) (x6 : Int32) (x7 : Int32) (x8 : Int32) (x9 : Int32) (x11 : Int32) (x12 : Int32) (x13 : Int32) (x16 : Int32) (x17 : Int32) (x18 : Int32) (x19 : Int32) (σ : St) (h : f_X10_standingAt_228 k17 k93 x1 x2 x3 x4 x5 x6 x7 x8 x9 x11 x12 x13 x16 x17 x18 x19 σ = some (r, σ2)) : Ex mr_X10_standingAt sc (Cl MT pr sc (d + 2)) (rtE (some (.int r)) (mk X) σ2) (228, [(0, .ref 38), (1, .int x1), (2, .int x2), (3, .int x3), (4, .int x4), (5, .int x5), (6, .int x6), (7, .int x7), (8, .int x8), (9, .int x9), (11, .int x11), (12, .int x12), (13, .int x13), (16, .int x16), (17, .int x17), (18, .int x18), (19, .int x19)], [], mk X, σ) := by
  unfold f_X10_standingAt_228 at h
  refine Ex.blk 1000 rfl ?_
  rcases ite_sp h with ⟨c1, h⟩ | ⟨c1, h⟩
  · refine And.intro (fun _ => ?_) (fun hn => absurd c1 hn)
    show Ex mr_X10_standingAt sc (Cl MT pr sc (d + 2)) (rtE (some (.int r)) (mk X) σ2) (242, [(0, .ref 38), (1, .int x1), (2, .int x2), (3, .int x3), (4, .int x4), (5, .int x5), (6, .int x6), (7, .int x7), (8, .int x8), (9, .int x9), (11, .int x11), (12, .int x12), (13, .int x13), (16, .int x16), (17, .int x17), (18, .int x18), (19, .int x19)], [.int x6], mk X, σ)
    refine Ex.blk 1000 rfl ?_
    show Ex mr_X10_standingAt sc (Cl MT pr sc (d + 2)) (rtE (some (.int r)) (mk X) σ2) (245, [(0, .ref 38), (1, .int x1), (2, .int x2), (3, .int x3), (4, .int x4), (5, .int x5), (6, .int x6), (7, .int x7), (8, .int x8), (9, .int x9), (11, .int x11), (12, .int x12), (13, .int x13), (16, .int x16), (17, .int x17), (18, .int x18), (19, .int x19)], [.int (-x19), .int x6], mk X, σ)
    refine Ex.pick (lv' := _) [0, 1, 2, 3, 4, 5, 7, 8, 9, 10, 11, 12, 13, 14, 15] rfl ?_
    exact lk_X10_standingAt_245 d _ _ hk17 hk93 _ _ _ _ _ _ _ _ _ _ _ _ _ _ _ _ _ h
  · refine And.intro (fun hp => absurd hp c1) (fun _ => ?_)
    show Ex mr_X10_standingAt sc (Cl MT pr sc (d + 2)) (rtE (some (.int r)) (mk X) σ2) (237, [(0, .ref 38), (1, .int x1), (2, .int x2), (3, .int x3), (4, .int x4), (5, .int x5), (6, .int x6), (7, .int x7), (8, .int x8), (9, .int x9), (11, .int x11), (12, .int x12), (13, .int x13), (16, .int x16), (17, .int x17), (18, .int x18), (19, .int x19)], [.int x6], mk X, σ)
    refine Ex.blk 1000 rfl ?_
    show Ex mr_X10_standingAt sc (Cl MT pr sc (d + 2)) (rtE (some (.int r)) (mk X) σ2) (245, [(0, .ref 38), (1, .int x1), (2, .int x2), (3, .int x3), (4, .int x4), (5, .int x5), (6, .int x6), (7, .int x7), (8, .int x8), (9, .int x9), (11, .int x11), (12, .int x12), (13, .int x13), (16, .int x16), (17, .int x17), (18, .int x18), (19, .int x19)], [.int x19, .int x6], mk X, σ)
    refine Ex.pick (lv' := _) [0, 1, 2, 3, 4, 5, 7, 8, 9, 10, 11, 12, 13, 14, 15] rfl ?_
    exact lk_X10_standingAt_245 d _ _ hk17 hk93 _ _ _ _ _ _ _ _ _ _ _ _ _ _ _ _ _ h
theorem lk_X10_standingAt_200 {pr : Ct} {sc : Nat × (Nat → Int32)} {X : En} (d : Nat) {r : Int32} {σ2 : St} (k17 : Int32 → Int32 → Int32 → Int32 → Int32 → Int32 → Int32 → St → Option (Int32 × St)) (k93 : Int32 → Int32 → Int32 → Int32 → Int32 → Int32 → Int32 → Int32 → Int32 → Int32 → Int32 → Int32 → Int32 → St → Option (Int32 × St)) (hk17 : ∀ (x1 : Int32) (x2 : Int32) (x3 : Int32) (x4 : Int32) (x5 : Int32) (x6 : Int32) (x7 : Int32) (σ : St), k17 x1 x2 x3 x4 x5 x6 x7 σ = some (r, σ2) → Ex mr_X10_standingAt sc (Cl MT pr sc (d + 2)) (rtE (some (.int r)) (mk X) σ2) (17, [(0, .ref 38), (1, .int x1), (2, .int x2), (3, .int x3), (4, .int x4), (5, .int x5), (6, .int x6), (7, .int x7)], [], mk X, σ)) (hk93 : ∀ (x1 : Int32) (x2 : Int32) (x3 : Int32) (x4 : Int32) (x5 : Int32) (x6 : Int32) (x7 : Int32) (x8 : Int32) (x9 : Int32) (x10 : Int32) (x11 : Int32) (x12 : Int32) (x13 : Int32) (σ : St), k93 x1 x2 x3 x4 x5 x6 x7 x8 x9 x10 x11 x12 x13 σ = some (r, σ2) → Ex mr_X10_standingAt sc (Cl MT pr sc (d + 2)) (rtE (some (.int r)) (mk X) σ2) (93, [(0, .ref 38), (1, .int x1), (2, .int x2), (3, .int x3), (4, .int x4), (5, .int x5), (6, .int x6), (7, .int x7), (8, .int x8), (9, .int x9), (10, .int x10), (11, .int x11), (12, .int x12), (13, .int x13)], [], mk X, σ)) (x1 : Int32) (x2 : Int32) (x3 : Int32) (x4 : Int32) (x5 : Int32) (x6 : Int32) (x7 : Int32) (x8 : Int32) (x9 : Int32) (x11 : Int32) (x12 : Int32) (x13 : Int32) (x16 : Int32) (x17 : Int32) (x18 : Int32) (σ : St) (h : f_X10_standingAt_200 k17 k93 x1 x2 x3 x4 x5 x6 x7 x8 x9 x11 x12 x13 x16 x17 x18 σ = some (r, σ2)) : Ex mr_X10_standingAt sc (Cl MT pr sc (d + 2)) (rtE (some (.int r)) (mk X) σ2) (200, [(0, .ref 38), (1, .int x1), (2, .int x2), (3, .int x3), (4, .int x4), (5, .int x5), (6, .int x6), (7, .int x7), (8, .int x8), (9, .int x9), (11, .int x11), (12, .int x12), (13, .int x13), (16, .int x16), (17, .int x17), (18, .int x18)], [], mk X, σ) := by
  unfold f_X10_standingAt_200 at h
  refine Ex.blk 5 rfl ?_
  show Ex mr_X10_standingAt sc (Cl MT pr sc (d + 2)) (rtE (some (.int r)) (mk X) σ2) (209, [(0, .ref 38), (1, .int x1), (2, .int x2), (3, .int x3), (4, .int x4), (5, .int x5), (6, .int x6), (7, .int x7), (8, .int x8), (9, .int x9), (11, .int x11), (12, .int x12), (13, .int x13), (16, .int x16), (17, .int x17), (18, .int x18)], [.int (abI (x17 - x9)), .int 0], mk X, σ)
  refine Ex.blk 5 rfl ?_
  show Ex mr_X10_standingAt sc (Cl MT pr sc (d + 2)) (rtE (some (.int r)) (mk X) σ2) (215, [(0, .ref 38), (1, .int x1), (2, .int x2), (3, .int x3), (4, .int x4), (5, .int x5), (6, .int x6), (7, .int x7), (8, .int x8), (9, .int x9), (11, .int x11), (12, .int x12), (13, .int x13), (16, .int x16), (17, .int x17), (18, .int x18)], [.int ((x3 - x18) + 1), .int (abI (x17 - x9)), .int 0], mk X, σ)
  refine Ex.blk 3 rfl ?_
  obtain ⟨g1, h⟩ := gd_some h
  refine And.intro (nzI_ok g1) ?_
  show Ex mr_X10_standingAt sc (Cl MT pr sc (d + 2)) (rtE (some (.int r)) (mk X) σ2) (220, [(0, .ref 38), (1, .int x1), (2, .int x2), (3, .int x3), (4, .int x4), (5, .int x5), (6, .int x6), (7, .int x7), (8, .int x8), (9, .int x9), (11, .int x11), (12, .int x12), (13, .int x13), (16, .int x16), (17, .int x17), (18, .int x18)], [.int (((x3 - x18) + 1) / (gI σ 38 12)), .int (abI (x17 - x9)), .int 0], mk X, σ)
  refine Ex.blk 3 rfl ?_
  show Ex mr_X10_standingAt sc (Cl MT pr sc (d + 2)) (rtE (some (.int r)) (mk X) σ2) (228, [(19, .int (mxI 0 (mnI (abI (x17 - x9)) (((x3 - x18) + 1) / (gI σ 38 12))))), (0, .ref 38), (1, .int x1), (2, .int x2), (3, .int x3), (4, .int x4), (5, .int x5), (6, .int x6), (7, .int x7), (8, .int x8), (9, .int x9), (11, .int x11), (12, .int x12), (13, .int x13), (16, .int x16), (17, .int x17), (18, .int x18)], [], mk X, σ)
  refine Ex.pick (lv' := _) [1, 2, 3, 4, 5, 6, 7, 8, 9, 10, 11, 12, 13, 14, 15, 16, 0] rfl ?_
  exact lk_X10_standingAt_228 d _ _ hk17 hk93 _ _ _ _ _ _ _ _ _ _ _ _ _ _ _ _ _ h
theorem lk_X10_standingAt_191 {pr : Ct} {sc : Nat × (Nat → Int32)} {X : En} (d : Nat) {r : Int32} {σ2 : St} (k17 : Int32 → Int32 → Int32 → Int32 → Int32 → Int32 → Int32 → St → Option (Int32 × St)) (k93 : Int32 → Int32 → Int32 → Int32 → Int32 → Int32 → Int32 → Int32 → Int32 → Int32 → Int32 → Int32 → Int32 → St → Option (Int32 × St)) (hk17 : ∀ (x1 : Int32) (x2 : Int32) (x3 : Int32) (x4 : Int32) (x5 : Int32) (x6 : Int32) (x7 : Int32) (σ : St), k17 x1 x2 x3 x4 x5 x6 x7 σ = some (r, σ2) → Ex mr_X10_standingAt sc (Cl MT pr sc (d + 2)) (rtE (some (.int r)) (mk X) σ2) (17, [(0, .ref 38), (1, .int x1), (2, .int x2), (3, .int x3), (4, .int x4), (5, .int x5), (6, .int x6), (7, .int x7)], [], mk X, σ)) (hk93 : ∀ (x1 : Int32) (x2 : Int32) (x3 : Int32) (x4 : Int32) (x5 : Int32) (x6 : Int32) (x7 : Int32) (x8 : Int32) (x9 : Int32) (x10 : Int32) (x11 : Int32) (x12 : Int32) (x13 : Int32) (σ : St), k93 x1 x2 x3 x4 x5 x6 x7 x8 x9 x10 x11 x12 x13 σ = some (r, σ2) → Ex mr_X10_standingAt sc (Cl MT pr sc (d + 2)) (rtE (some (.int r)) (mk X) σ2) (93, [(0, .ref 38), (1, .int x1), (2, .int x2), (3, .int x3), (4, .int x4), (5, .int x5), (6, .int x6), (7, .int x7), (8, .int x8), (9, .int x9), (10, .int x10), (11, .int x11), (12, .int x12), (13, .int x13)], [], mk X, σ)) (x1 : Int32) (x2 : Int32) (x3 : Int32) (x4 : Int32) (x5 : Int32) (x6 : Int32) (x7 : Int32) (x8 : Int32) (x9 : Int32) (x10 : Int32) (x11 : Int32) (x12 : Int32) (x13 : Int32) (x15 : Int32) (x16 : Int32) (x17 : Int32) (σ : St) (h : f_X10_standingAt_191 k17 k93 x1 x2 x3 x4 x5 x6 x7 x8 x9 x10 x11 x12 x13 x15 x16 x17 σ = some (r, σ2)) : Ex mr_X10_standingAt sc (Cl MT pr sc (d + 2)) (rtE (some (.int r)) (mk X) σ2) (191, [(0, .ref 38), (1, .int x1), (2, .int x2), (3, .int x3), (4, .int x4), (5, .int x5), (6, .int x6), (7, .int x7), (8, .int x8), (9, .int x9), (10, .int x10), (11, .int x11), (12, .int x12), (13, .int x13), (15, .int x15), (16, .int x16), (17, .int x17)], [], mk X, σ) := by
  unfold f_X10_standingAt_191 at h
  refine Ex.blk 4 rfl ?_
  show Ex mr_X10_standingAt sc (Cl MT pr sc (d + 2)) (rtE (some (.int r)) (mk X) σ2) (200, [(18, .int (mxI x10 x15)), (0, .ref 38), (1, .int x1), (2, .int x2), (3, .int x3), (4, .int x4), (5, .int x5), (6, .int x6), (7, .int x7), (8, .int x8), (9, .int x9), (10, .int x10), (11, .int x11), (12, .int x12), (13, .int x13), (15, .int x15), (16, .int x16), (17, .int x17)], [], mk X, σ)
  refine Ex.pick (lv' := _) [1, 2, 3, 4, 5, 6, 7, 8, 9, 10, 12, 13, 14, 16, 17, 0] rfl ?_
  exact lk_X10_standingAt_200 d _ _ hk17 hk93 _ _ _ _ _ _ _ _ _ _ _ _ _ _ _ _ h
theorem lk_X10_standingAt_179 {pr : Ct} {sc : Nat × (Nat → Int32)} {X : En} (d : Nat) {r : Int32} {σ2 : St} (k17 : Int32 → Int32 → Int32 → Int32 → Int32 → Int32 → Int32 → St → Option (Int32 × St)) (k93 : Int32 → Int32 → Int32 → Int32 → Int32 → Int32 → Int32 → Int32 → Int32 → Int32 → Int32 → Int32 → Int32 → St → Option (Int32 × St)) (hk17 : ∀ (x1 : Int32) (x2 : Int32) (x3 : Int32) (x4 : Int32) (x5 : Int32) (x6 : Int32) (x7 : Int32) (σ : St), k17 x1 x2 x3 x4 x5 x6 x7 σ = some (r, σ2) → Ex mr_X10_standingAt sc (Cl MT pr sc (d + 2)) (rtE (some (.int r)) (mk X) σ2) (17, [(0, .ref 38), (1, .int x1), (2, .int x2), (3, .int x3), (4, .int x4), (5, .int x5), (6, .int x6), (7, .int x7)], [], mk X, σ)) (hk93 : ∀ (x1 : Int32) (x2 : Int32) (x3 : Int32) (x4 : Int32) (x5 : Int32) (x6 : Int32) (x7 : Int32) (x8 : Int32) (x9 : Int32) (x10 : Int32) (x11 : Int32) (x12 : Int32) (x13 : Int32) (σ : St), k93 x1 x2 x3 x4 x5 x6 x7 x8 x9 x10 x11 x12 x13 σ = some (r, σ2) → Ex mr_X10_standingAt sc (Cl MT pr sc (d + 2)) (rtE (some (.int r)) (mk X) σ2) (93, [(0, .ref 38), (1, .int x1), (2, .int x2), (3, .int x3), (4, .int x4), (5, .int x5), (6, .int x6), (7, .int x7), (8, .int x8), (9, .int x9), (10, .int x10), (11, .int x11), (12, .int x12), (13, .int x13)], [], mk X, σ)) (x1 : Int32) (x2 : Int32) (x3 : Int32) (x4 : Int32) (x5 : Int32) (x6 : Int32) (x7 : Int32) (x8 : Int32) (x9 : Int32) (x10 : Int32) (x11 : Int32) (x12 : Int32) (x13 : Int32) (x15 : Int32) (x16 : Int32) (y0 : Int32) (σ : St) (h : f_X10_standingAt_179 k17 k93 x1 x2 x3 x4 x5 x6 x7 x8 x9 x10 x11 x12 x13 x15 x16 y0 σ = some (r, σ2)) : Ex mr_X10_standingAt sc (Cl MT pr sc (d + 2)) (rtE (some (.int r)) (mk X) σ2) (179, [(0, .ref 38), (1, .int x1), (2, .int x2), (3, .int x3), (4, .int x4), (5, .int x5), (6, .int x6), (7, .int x7), (8, .int x8), (9, .int x9), (10, .int x10), (11, .int x11), (12, .int x12), (13, .int x13), (15, .int x15), (16, .int x16)], [.int y0], mk X, σ) := by
  unfold f_X10_standingAt_179 at h
  refine Ex.blk 4 rfl ?_
  obtain ⟨g1, h⟩ := gd_some h
  refine And.intro (inb_ok g1) ?_
  show Ex mr_X10_standingAt sc (Cl MT pr sc (d + 2)) (rtE (some (.int r)) (mk X) σ2) (186, [(0, .ref 38), (1, .int x1), (2, .int x2), (3, .int x3), (4, .int x4), (5, .int x5), (6, .int x6), (7, .int x7), (8, .int x8), (9, .int x9), (10, .int x10), (11, .int x11), (12, .int x12), (13, .int x13), (15, .int x15), (16, .int x16)], [.int (gI σ 44 x7.toNatClampNeg), .int y0], mk X, σ)
  refine Ex.blk 2 rfl ?_
  show Ex mr_X10_standingAt sc (Cl MT pr sc (d + 2)) (rtE (some (.int r)) (mk X) σ2) (191, [(17, .int (mnI y0 (gI σ 44 x7.toNatClampNeg))), (0, .ref 38), (1, .int x1), (2, .int x2), (3, .int x3), (4, .int x4), (5, .int x5), (6, .int x6), (7, .int x7), (8, .int x8), (9, .int x9), (10, .int x10), (11, .int x11), (12, .int x12), (13, .int x13), (15, .int x15), (16, .int x16)], [], mk X, σ)
  refine Ex.pick (lv' := _) [1, 2, 3, 4, 5, 6, 7, 8, 9, 10, 11, 12, 13, 14, 15, 16, 0] rfl ?_
  exact lk_X10_standingAt_191 d _ _ hk17 hk93 _ _ _ _ _ _ _ _ _ _ _ _ _ _ _ _ _ h
theorem lk_X10_standingAt_162 {pr : Ct} {sc : Nat × (Nat → Int32)} {X : En} (d : Nat) {r : Int32} {σ2 : St} (k17 : Int32 → Int32 → Int32 → Int32 → Int32 → Int32 → Int32 → St → Option (Int32 × St)) (k93 : Int32 → Int32 → Int32 → Int32 → Int32 → Int32 → Int32 → Int32 → Int32 → Int32 → Int32 → Int32 → Int32 → St → Option (Int32 × St)) (hk17 : ∀ (x1 : Int32) (x2 : Int32) (x3 : Int32) (x4 : Int32) (x5 : Int32) (x6 : Int32) (x7 : Int32) (σ : St), k17 x1 x2 x3 x4 x5 x6 x7 σ = some (r, σ2) → Ex mr_X10_standingAt sc (Cl MT pr sc (d + 2)) (rtE (some (.int r)) (mk X) σ2) (17, [(0, .ref 38), (1, .int x1), (2, .int x2), (3, .int x3), (4, .int x4), (5, .int x5), (6, .int x6), (7, .int x7)], [], mk X, σ)) (hk93 : ∀ (x1 : Int32) (x2 : Int32) (x3 : Int32) (x4 : Int32) (x5 : Int32) (x6 : Int32) (x7 : Int32) (x8 : Int32) (x9 : Int32) (x10 : Int32) (x11 : Int32) (x12 : Int32) (x13 : Int32) (σ : St), k93 x1 x2 x3 x4 x5 x6 x7 x8 x9 x10 x11 x12 x13 σ = some (r, σ2) → Ex mr_X10_standingAt sc (Cl MT pr sc (d + 2)) (rtE (some (.int r)) (mk X) σ2) (93, [(0, .ref 38), (1, .int x1), (2, .int x2), (3, .int x3), (4, .int x4), (5, .int x5), (6, .int x6), (7, .int x7), (8, .int x8), (9, .int x9), (10, .int x10), (11, .int x11), (12, .int x12), (13, .int x13)], [], mk X, σ)) (x1 : Int32) (x2 : Int32) (x3 : Int32) (x4 : Int32) (x5 : Int32) (x6 : Int32) (x7 : Int32) (x8 : Int32) (x9 : Int32) (x10 : Int32) (x11 : Int32) (x12 : Int32) (x13 : Int32) (x15 : Int32) (x16 : Int32) (σ : St) (h : f_X10_standingAt_162 k17 k93 x1 x2 x3 x4 x5 x6 x7 x8 x9 x10 x11 x12 x13 x15 x16 σ = some (r, σ2)) : Ex mr_X10_standingAt sc (Cl MT pr sc (d + 2)) (rtE (some (.int r)) (mk X) σ2) (162, [(0, .ref 38), (1, .int x1), (2, .int x2), (3, .int x3), (4, .int x4), (5, .int x5), (6, .int x6), (7, .int x7), (8, .int x8), (9, .int x9), (10, .int x10), (11, .int x11), (12, .int x12), (13, .int x13), (15, .int x15), (16, .int x16)], [], mk X, σ) := by
  unfold f_X10_standingAt_162 at h
  refine Ex.blk 1000 rfl ?_
  rcases ite_sp h with ⟨c1, h⟩ | ⟨c1, h⟩
  · refine And.intro (fun _ => ?_) (fun hn => absurd c1 hn)
    show Ex mr_X10_standingAt sc (Cl MT pr sc (d + 2)) (rtE (some (.int r)) (mk X) σ2) (177, [(0, .ref 38), (1, .int x1), (2, .int x2), (3, .int x3), (4, .int x4), (5, .int x5), (6, .int x6), (7, .int x7), (8, .int x8), (9, .int x9), (10, .int x10), (11, .int x11), (12, .int x12), (13, .int x13), (15, .int x15), (16, .int x16)], [], mk X, σ)
    refine Ex.blk 1000 rfl ?_
    show Ex mr_X10_standingAt sc (Cl MT pr sc (d + 2)) (rtE (some (.int r)) (mk X) σ2) (179, [(0, .ref 38), (1, .int x1), (2, .int x2), (3, .int x3), (4, .int x4), (5, .int x5), (6, .int x6), (7, .int x7), (8, .int x8), (9, .int x9), (10, .int x10), (11, .int x11), (12, .int x12), (13, .int x13), (15, .int x15), (16, .int x16)], [.int x16], mk X, σ)
    exact lk_X10_standingAt_179 d _ _ hk17 hk93 _ _ _ _ _ _ _ _ _ _ _ _ _ _ _ _ _ h
  · refine And.intro (fun hp => absurd hp c1) (fun _ => ?_)
    show Ex mr_X10_standingAt sc (Cl MT pr sc (d + 2)) (rtE (some (.int r)) (mk X) σ2) (169, [(0, .ref 38), (1, .int x1), (2, .int x2), (3, .int x3), (4, .int x4), (5, .int x5), (6, .int x6), (7, .int x7), (8, .int x8), (9, .int x9), (10, .int x10), (11, .int x11), (12, .int x12), (13, .int x13), (15, .int x15), (16, .int x16)], [], mk X, σ)
    refine Ex.blk 1000 rfl ?_
    show Ex mr_X10_standingAt sc (Cl MT pr sc (d + 2)) (rtE (some (.int r)) (mk X) σ2) (179, [(0, .ref 38), (1, .int x1), (2, .int x2), (3, .int x3), (4, .int x4), (5, .int x5), (6, .int x6), (7, .int x7), (8, .int x8), (9, .int x9), (10, .int x10), (11, .int x11), (12, .int x12), (13, .int x13), (15, .int x15), (16, .int x16)], [.int (x16 - 10)], mk X, σ)
    exact lk_X10_standingAt_179 d _ _ hk17 hk93 _ _ _ _ _ _ _ _ _ _ _ _ _ _ _ _ _ h
theorem lk_X10_standingAt_159 {pr : Ct} {sc : Nat × (Nat → Int32)} {X : En} (d : Nat) {r : Int32} {σ2 : St} (k17 : Int32 → Int32 → Int32 → Int32 → Int32 → Int32 → Int32 → St → Option (Int32 × St)) (k93 : Int32 → Int32 → Int32 → Int32 → Int32 → Int32 → Int32 → Int32 → Int32 → Int32 → Int32 → Int32 → Int32 → St → Option (Int32 × St)) (hk17 : ∀ (x1 : Int32) (x2 : Int32) (x3 : Int32) (x4 : Int32) (x5 : Int32) (x6 : Int32) (x7 : Int32) (σ : St), k17 x1 x2 x3 x4 x5 x6 x7 σ = some (r, σ2) → Ex mr_X10_standingAt sc (Cl MT pr sc (d + 2)) (rtE (some (.int r)) (mk X) σ2) (17, [(0, .ref 38), (1, .int x1), (2, .int x2), (3, .int x3), (4, .int x4), (5, .int x5), (6, .int x6), (7, .int x7)], [], mk X, σ)) (hk93 : ∀ (x1 : Int32) (x2 : Int32) (x3 : Int32) (x4 : Int32) (x5 : Int32) (x6 : Int32) (x7 : Int32) (x8 : Int32) (x9 : Int32) (x10 : Int32) (x11 : Int32) (x12 : Int32) (x13 : Int32) (σ : St), k93 x1 x2 x3 x4 x5 x6 x7 x8 x9 x10 x11 x12 x13 σ = some (r, σ2) → Ex mr_X10_standingAt sc (Cl MT pr sc (d + 2)) (rtE (some (.int r)) (mk X) σ2) (93, [(0, .ref 38), (1, .int x1), (2, .int x2), (3, .int x3), (4, .int x4), (5, .int x5), (6, .int x6), (7, .int x7), (8, .int x8), (9, .int x9), (10, .int x10), (11, .int x11), (12, .int x12), (13, .int x13)], [], mk X, σ)) (x1 : Int32) (x2 : Int32) (x3 : Int32) (x4 : Int32) (x5 : Int32) (x6 : Int32) (x7 : Int32) (x8 : Int32) (x9 : Int32) (x10 : Int32) (x11 : Int32) (x12 : Int32) (x13 : Int32) (x15 : Int32) (y0 : Int32) (y1 : Int32) (σ : St) (h : f_X10_standingAt_159 k17 k93 x1 x2 x3 x4 x5 x6 x7 x8 x9 x10 x11 x12 x13 x15 y0 y1 σ = some (r, σ2)) : Ex mr_X10_standingAt sc (Cl MT pr sc (d + 2)) (rtE (some (.int r)) (mk X) σ2) (159, [(0, .ref 38), (1, .int x1), (2, .int x2), (3, .int x3), (4, .int x4), (5, .int x5), (6, .int x6), (7, .int x7), (8, .int x8), (9, .int x9), (10, .int x10), (11, .int x11), (12, .int x12), (13, .int x13), (15, .int x15)], [.int y0, .int y1], mk X, σ) := by
  unfold f_X10_standingAt_159 at h
  refine Ex.blk 2 rfl ?_
  show Ex mr_X10_standingAt sc (Cl MT pr sc (d + 2)) (rtE (some (.int r)) (mk X) σ2) (162, [(16, .int (y1 + y0)), (0, .ref 38), (1, .int x1), (2, .int x2), (3, .int x3), (4, .int x4), (5, .int x5), (6, .int x6), (7, .int x7), (8, .int x8), (9, .int x9), (10, .int x10), (11, .int x11), (12, .int x12), (13, .int x13), (15, .int x15)], [], mk X, σ)
  refine Ex.pick (lv' := _) [1, 2, 3, 4, 5, 6, 7, 8, 9, 10, 11, 12, 13, 14, 15, 0] rfl ?_
  exact lk_X10_standingAt_162 d _ _ hk17 hk93 _ _ _ _ _ _ _ _ _ _ _ _ _ _ _ _ h
theorem lk_X10_standingAt_133 {pr : Ct} {sc : Nat × (Nat → Int32)} {X : En} (d : Nat) {r : Int32} {σ2 : St} (k17 : Int32 → Int32 → Int32 → Int32 → Int32 → Int32 → Int32 → St → Option (Int32 × St)) (k93 : Int32 → Int32 → Int32 → Int32 → Int32 → Int32 → Int32 → Int32 → Int32 → Int32 → Int32 → Int32 → Int32 → St → Option (Int32 × St)) (hk17 : ∀ (x1 : Int32) (x2 : Int32) (x3 : Int32) (x4 : Int32) (x5 : Int32) (x6 : Int32) (x7 : Int32) (σ : St), k17 x1 x2 x3 x4 x5 x6 x7 σ = some (r, σ2) → Ex mr_X10_standingAt sc (Cl MT pr sc (d + 2)) (rtE (some (.int r)) (mk X) σ2) (17, [(0, .ref 38), (1, .int x1), (2, .int x2), (3, .int x3), (4, .int x4), (5, .int x5), (6, .int x6), (7, .int x7)], [], mk X, σ)) (hk93 : ∀ (x1 : Int32) (x2 : Int32) (x3 : Int32) (x4 : Int32) (x5 : Int32) (x6 : Int32) (x7 : Int32) (x8 : Int32) (x9 : Int32) (x10 : Int32) (x11 : Int32) (x12 : Int32) (x13 : Int32) (σ : St), k93 x1 x2 x3 x4 x5 x6 x7 x8 x9 x10 x11 x12 x13 σ = some (r, σ2) → Ex mr_X10_standingAt sc (Cl MT pr sc (d + 2)) (rtE (some (.int r)) (mk X) σ2) (93, [(0, .ref 38), (1, .int x1), (2, .int x2), (3, .int x3), (4, .int x4), (5, .int x5), (6, .int x6), (7, .int x7), (8, .int x8), (9, .int x9), (10, .int x10), (11, .int x11), (12, .int x12), (13, .int x13)], [], mk X, σ)) (x1 : Int32) (x2 : Int32) (x3 : Int32) (x4 : Int32) (x5 : Int32) (x6 : Int32) (x7 : Int32) (x8 : Int32) (x9 : Int32) (x10 : Int32) (x11 : Int32) (x12 : Int32) (x13 : Int32) (x14 : Int32) (y0 : Int32) (σ : St) (h : f_X10_standingAt_133 k17 k93 x1 x2 x3 x4 x5 x6 x7 x8 x9 x10 x11 x12 x13 x14 y0 σ = some (r, σ2)) : Ex mr_X10_standingAt sc (Cl MT pr sc (d + 2)) (rtE (some (.int r)) (mk X) σ2) (133, [(0, .ref 38), (1, .int x1), (2, .int x2), (3, .int x3), (4, .int x4), (5, .int x5), (6, .int x6), (7, .int x7), (8, .int x8), (9, .int x9), (10, .int x10), (11, .int x11), (12, .int x12), (13, .int x13), (14, .int x14)], [.int y0], mk X, σ) := by
  unfold f_X10_standingAt_133 at h
  refine Ex.blk 1000 rfl ?_
  rcases ite_sp h with ⟨c1, h⟩ | ⟨c1, h⟩
  · refine And.intro (fun _ => ?_) (fun hn => absurd c1 hn)
    show Ex mr_X10_standingAt sc (Cl MT pr sc (d + 2)) (rtE (some (.int r)) (mk X) σ2) (291, [(15, .int y0), (0, .ref 38), (1, .int x1), (2, .int x2), (3, .int x3), (4, .int x4), (5, .int x5), (6, .int x6), (7, .int x7), (8, .int x8), (9, .int x9), (10, .int x10), (11, .int x11), (12, .int x12), (13, .int x13), (14, .int x14)], [], mk X, σ)
    refine Ex.pick (lv' := _) [1, 2, 3, 4, 5, 6, 7, 8, 9, 10, 11, 12, 13, 14] rfl ?_
    exact lk_X10_standingAt_291 d _ _ hk17 hk93 _ _ _ _ _ _ _ _ _ _ _ _ _ _ h
  · refine And.intro (fun hp => absurd hp c1) (fun _ => ?_)
    show Ex mr_X10_standingAt sc (Cl MT pr sc (d + 2)) (rtE (some (.int r)) (mk X) σ2) (141, [(15, .int y0), (0, .ref 38), (1, .int x1), (2, .int x2), (3, .int x3), (4, .int x4), (5, .int x5), (6, .int x6), (7, .int x7), (8, .int x8), (9, .int x9), (10, .int x10), (11, .int x11), (12, .int x12), (13, .int x13), (14, .int x14)], [], mk X, σ)
    refine Ex.blk 1000 rfl ?_
    rcases ite_sp h with ⟨c2, h⟩ | ⟨c2, h⟩
    · refine And.intro (fun _ => ?_) (fun hn => absurd c2 hn)
      show Ex mr_X10_standingAt sc (Cl MT pr sc (d + 2)) (rtE (some (.int r)) (mk X) σ2) (158, [(15, .int y0), (0, .ref 38), (1, .int x1), (2, .int x2), (3, .int x3), (4, .int x4), (5, .int x5), (6, .int x6), (7, .int x7), (8, .int x8), (9, .int x9), (10, .int x10), (11, .int x11), (12, .int x12), (13, .int x13), (14, .int x14)], [.int x9], mk X, σ)
      refine Ex.blk 1000 rfl ?_
      show Ex mr_X10_standingAt sc (Cl MT pr sc (d + 2)) (rtE (some (.int r)) (mk X) σ2) (159, [(15, .int y0), (0, .ref 38), (1, .int x1), (2, .int x2), (3, .int x3), (4, .int x4), (5, .int x5), (6, .int x6), (7, .int x7), (8, .int x8), (9, .int x9), (10, .int x10), (11, .int x11), (12, .int x12), (13, .int x13), (14, .int x14)], [.int 1, .int x9], mk X, σ)
      refine Ex.pick (lv' := _) [1, 2, 3, 4, 5, 6, 7, 8, 9, 10, 11, 12, 13, 14, 0] rfl ?_
      exact lk_X10_standingAt_159 d _ _ hk17 hk93 _ _ _ _ _ _ _ _ _ _ _ _ _ _ _ _ _ h
    · refine And.intro (fun hp => absurd hp c2) (fun _ => ?_)
      show Ex mr_X10_standingAt sc (Cl MT pr sc (d + 2)) (rtE (some (.int r)) (mk X) σ2) (148, [(15, .int y0), (0, .ref 38), (1, .int x1), (2, .int x2), (3, .int x3), (4, .int x4), (5, .int x5), (6, .int x6), (7, .int x7), (8, .int x8), (9, .int x9), (10, .int x10), (11, .int x11), (12, .int x12), (13, .int x13), (14, .int x14)], [.int x9], mk X, σ)
      refine Ex.blk 4 rfl ?_
      obtain ⟨p2, hp2, h⟩ := bind_sp h
      refine Exists.intro (some (.int p2.1)) (Exists.intro (mk X) (Exists.intro p2.2 (And.intro (cl_X10_digitOf (d + 1) hp2) ?_)))
      show Ex mr_X10_standingAt sc (Cl MT pr sc (d + 2)) (rtE (some (.int r)) (mk X) σ2) (155, [(15, .int y0), (0, .ref 38), (1, .int x1), (2, .int x2), (3, .int x3), (4, .int x4), (5, .int x5), (6, .int x6), (7, .int x7), (8, .int x8), (9, .int x9), (10, .int x10), (11, .int x11), (12, .int x12), (13, .int x13), (14, .int x14)], [.int p2.1, .int x9], mk X, p2.2)
      refine Ex.blk 1000 rfl ?_
      show Ex mr_X10_standingAt sc (Cl MT pr sc (d + 2)) (rtE (some (.int r)) (mk X) σ2) (159, [(15, .int y0), (0, .ref 38), (1, .int x1), (2, .int x2), (3, .int x3), (4, .int x4), (5, .int x5), (6, .int x6), (7, .int x7), (8, .int x8), (9, .int x9), (10, .int x10), (11, .int x11), (12, .int x12), (13, .int x13), (14, .int x14)], [.int p2.1, .int x9], mk X, p2.2)
      refine Ex.pick (lv' := _) [1, 2, 3, 4, 5, 6, 7, 8, 9, 10, 11, 12, 13, 14, 0] rfl ?_
      exact lk_X10_standingAt_159 d _ _ hk17 hk93 _ _ _ _ _ _ _ _ _ _ _ _ _ _ _ _ _ h
theorem lk_X10_standingAt_119 {pr : Ct} {sc : Nat × (Nat → Int32)} {X : En} (d : Nat) {r : Int32} {σ2 : St} (k17 : Int32 → Int32 → Int32 → Int32 → Int32 → Int32 → Int32 → St → Option (Int32 × St)) (k93 : Int32 → Int32 → Int32 → Int32 → Int32 → Int32 → Int32 → Int32 → Int32 → Int32 → Int32 → Int32 → Int32 → St → Option (Int32 × St)) (hk17 : ∀ (x1 : Int32) (x2 : Int32) (x3 : Int32) (x4 : Int32) (x5 : Int32) (x6 : Int32) (x7 : Int32) (σ : St), k17 x1 x2 x3 x4 x5 x6 x7 σ = some (r, σ2) → Ex mr_X10_standingAt sc (Cl MT pr sc (d + 2)) (rtE (some (.int r)) (mk X) σ2) (17, [(0, .ref 38), (1, .int x1), (2, .int x2), (3, .int x3), (4, .int x4), (5, .int x5), (6, .int x6), (7, .int x7)], [], mk X, σ)) (hk93 : ∀ (x1 : Int32) (x2 : Int32) (x3 : Int32) (x4 : Int32) (x5 : Int32) (x6 : Int32) (x7 : Int32) (x8 : Int32) (x9 : Int32) (x10 : Int32) (x11 : Int32) (x12 : Int32) (x13 : Int32) (σ : St), k93 x1 x2 x3 x4 x5 x6 x7 x8 x9 x10 x11 x12 x13 σ = some (r, σ2) → Ex mr_X10_standingAt sc (Cl MT pr sc (d + 2)) (rtE (some (.int r)) (mk X) σ2) (93, [(0, .ref 38), (1, .int x1), (2, .int x2), (3, .int x3), (4, .int x4), (5, .int x5), (6, .int x6), (7, .int x7), (8, .int x8), (9, .int x9), (10, .int x10), (11, .int x11), (12, .int x12), (13, .int x13)], [], mk X, σ)) (x1 : Int32) (x2 : Int32) (x3 : Int32) (x4 : Int32) (x5 : Int32) (x6 : Int32) (x7 : Int32) (x8 : Int32) (x9 : Int32) (x10 : Int32) (x11 : Int32) (x12 : Int32) (x13 : Int32) (y0 : Int32) (σ : St) (h : f_X10_standingAt_119 k17 k93 x1 x2 x3 x4 x5 x6 x7 x8 x9 x10 x11 x12 x13 y0 σ = some (r, σ2)) : Ex mr_X10_standingAt sc (Cl MT pr sc (d + 2)) (rtE (some (.int r)) (mk X) σ2) (119, [(0, .ref 38), (1, .int x1), (2, .int x2), (3, .int x3), (4, .int x4), (5, .int x5), (6, .int x6), (7, .int x7), (8, .int x8), (9, .int x9), (10, .int x10), (11, .int x11), (12, .int x12), (13, .int x13)], [.int y0], mk X, σ) := by
  unfold f_X10_standingAt_119 at h
  refine Ex.blk 1000 rfl ?_
  rcases ite_sp h with ⟨c1, h⟩ | ⟨c1, h⟩
  · refine And.intro (fun _ => ?_) (fun hn => absurd c1 hn)
    show Ex mr_X10_standingAt sc (Cl MT pr sc (d + 2)) (rtE (some (.int r)) (mk X) σ2) (131, [(14, .int y0), (0, .ref 38), (1, .int x1), (2, .int x2), (3, .int x3), (4, .int x4), (5, .int x5), (6, .int x6), (7, .int x7), (8, .int x8), (9, .int x9), (10, .int x10), (11, .int x11), (12, .int x12), (13, .int x13)], [], mk X, σ)
    refine Ex.blk 1000 rfl ?_
    show Ex mr_X10_standingAt sc (Cl MT pr sc (d + 2)) (rtE (some (.int r)) (mk X) σ2) (133, [(14, .int y0), (0, .ref 38), (1, .int x1), (2, .int x2), (3, .int x3), (4, .int x4), (5, .int x5), (6, .int x6), (7, .int x7), (8, .int x8), (9, .int x9), (10, .int x10), (11, .int x11), (12, .int x12), (13, .int x13)], [.int x5], mk X, σ)
    refine Ex.pick (lv' := _) [1, 2, 3, 4, 5, 6, 7, 8, 9, 10, 11, 12, 13, 14, 0] rfl ?_
    exact lk_X10_standingAt_133 d _ _ hk17 hk93 _ _ _ _ _ _ _ _ _ _ _ _ _ _ _ _ h
  · refine And.intro (fun hp => absurd hp c1) (fun _ => ?_)
    show Ex mr_X10_standingAt sc (Cl MT pr sc (d + 2)) (rtE (some (.int r)) (mk X) σ2) (126, [(14, .int y0), (0, .ref 38), (1, .int x1), (2, .int x2), (3, .int x3), (4, .int x4), (5, .int x5), (6, .int x6), (7, .int x7), (8, .int x8), (9, .int x9), (10, .int x10), (11, .int x11), (12, .int x12), (13, .int x13)], [], mk X, σ)
    refine Ex.blk 1000 rfl ?_
    show Ex mr_X10_standingAt sc (Cl MT pr sc (d + 2)) (rtE (some (.int r)) (mk X) σ2) (133, [(14, .int y0), (0, .ref 38), (1, .int x1), (2, .int x2), (3, .int x3), (4, .int x4), (5, .int x5), (6, .int x6), (7, .int x7), (8, .int x8), (9, .int x9), (10, .int x10), (11, .int x11), (12, .int x12), (13, .int x13)], [.int x8], mk X, σ)
    refine Ex.pick (lv' := _) [1, 2, 3, 4, 5, 6, 7, 8, 9, 10, 11, 12, 13, 14, 0] rfl ?_
    exact lk_X10_standingAt_133 d _ _ hk17 hk93 _ _ _ _ _ _ _ _ _ _ _ _ _ _ _ _ h
theorem lk_X10_standingAt_109 {pr : Ct} {sc : Nat × (Nat → Int32)} {X : En} (d : Nat) {r : Int32} {σ2 : St} (k17 : Int32 → Int32 → Int32 → Int32 → Int32 → Int32 → Int32 → St → Option (Int32 × St)) (k93 : Int32 → Int32 → Int32 → Int32 → Int32 → Int32 → Int32 → Int32 → Int32 → Int32 → Int32 → Int32 → Int32 → St → Option (Int32 × St)) (hk17 : ∀ (x1 : Int32) (x2 : Int32) (x3 : Int32) (x4 : Int32) (x5 : Int32) (x6 : Int32) (x7 : Int32) (σ : St), k17 x1 x2 x3 x4 x5 x6 x7 σ = some (r, σ2) → Ex mr_X10_standingAt sc (Cl MT pr sc (d + 2)) (rtE (some (.int r)) (mk X) σ2) (17, [(0, .ref 38), (1, .int x1), (2, .int x2), (3, .int x3), (4, .int x4), (5, .int x5), (6, .int x6), (7, .int x7)], [], mk X, σ)) (hk93 : ∀ (x1 : Int32) (x2 : Int32) (x3 : Int32) (x4 : Int32) (x5 : Int32) (x6 : Int32) (x7 : Int32) (x8 : Int32) (x9 : Int32) (x10 : Int32) (x11 : Int32) (x12 : Int32) (x13 : Int32) (σ : St), k93 x1 x2 x3 x4 x5 x6 x7 x8 x9 x10 x11 x12 x13 σ = some (r, σ2) → Ex mr_X10_standingAt sc (Cl MT pr sc (d + 2)) (rtE (some (.int r)) (mk X) σ2) (93, [(0, .ref 38), (1, .int x1), (2, .int x2), (3, .int x3), (4, .int x4), (5, .int x5), (6, .int x6), (7, .int x7), (8, .int x8), (9, .int x9), (10, .int x10), (11, .int x11), (12, .int x12), (13, .int x13)], [], mk X, σ)) (x1 : Int32) (x2 : Int32) (x3 : Int32) (x4 : Int32) (x5 : Int32) (x6 : Int32) (x7 : Int32) (x8 : Int32) (x9 : Int32) (x10 : Int32) (x11 : Int32) (x12 : Int32) (x13 : Int32) (y0 : Int32) (σ : St) (h : f_X10_standingAt_109 k17 k93 x1 x2 x3 x4 x5 x6 x7 x8 x9 x10 x11 x12 x13 y0 σ = some (r, σ2)) : Ex mr_X10_standingAt sc (Cl MT pr sc (d + 2)) (rtE (some (.int r)) (mk X) σ2) (109, [(0, .ref 38), (1, .int x1), (2, .int x2), (3, .int x3), (4, .int x4), (5, .int x5), (6, .int x6), (7, .int x7), (8, .int x8), (9, .int x9), (10, .int x10), (11, .int x11), (12, .int x12), (13, .int x13)], [.int y0], mk X, σ) := by
  unfold f_X10_standingAt_109 at h
  refine Ex.blk 1000 rfl ?_
  rcases ite_sp h with ⟨c1, h⟩ | ⟨c1, h⟩
  · refine And.intro (fun hp => absurd c1 hp) (fun _ => ?_)
    show Ex mr_X10_standingAt sc (Cl MT pr sc (d + 2)) (rtE (some (.int r)) (mk X) σ2) (114, [(0, .ref 38), (1, .int x1), (2, .int x2), (3, .int x3), (4, .int x4), (5, .int x5), (6, .int x6), (7, .int x7), (8, .int x8), (9, .int x9), (10, .int x10), (11, .int x11), (12, .int x12), (13, .int x13)], [], mk X, σ)
    refine Ex.blk 1000 rfl ?_
    show Ex mr_X10_standingAt sc (Cl MT pr sc (d + 2)) (rtE (some (.int r)) (mk X) σ2) (119, [(0, .ref 38), (1, .int x1), (2, .int x2), (3, .int x3), (4, .int x4), (5, .int x5), (6, .int x6), (7, .int x7), (8, .int x8), (9, .int x9), (10, .int x10), (11, .int x11), (12, .int x12), (13, .int x13)], [.int 1], mk X, σ)
    exact lk_X10_standingAt_119 d _ _ hk17 hk93 _ _ _ _ _ _ _ _ _ _ _ _ _ _ _ h
  · refine And.intro (fun _ => ?_) (fun hn => absurd c1 hn)
    show Ex mr_X10_standingAt sc (Cl MT pr sc (d + 2)) (rtE (some (.int r)) (mk X) σ2) (118, [(0, .ref 38), (1, .int x1), (2, .int x2), (3, .int x3), (4, .int x4), (5, .int x5), (6, .int x6), (7, .int x7), (8, .int x8), (9, .int x9), (10, .int x10), (11, .int x11), (12, .int x12), (13, .int x13)], [], mk X, σ)
    refine Ex.blk 1000 rfl ?_
    show Ex mr_X10_standingAt sc (Cl MT pr sc (d + 2)) (rtE (some (.int r)) (mk X) σ2) (119, [(0, .ref 38), (1, .int x1), (2, .int x2), (3, .int x3), (4, .int x4), (5, .int x5), (6, .int x6), (7, .int x7), (8, .int x8), (9, .int x9), (10, .int x10), (11, .int x11), (12, .int x12), (13, .int x13)], [.int 0], mk X, σ)
    exact lk_X10_standingAt_119 d _ _ hk17 hk93 _ _ _ _ _ _ _ _ _ _ _ _ _ _ _ h
theorem lk_X10_standingAt_93 {pr : Ct} {sc : Nat × (Nat → Int32)} {X : En} (d : Nat) {r : Int32} {σ2 : St} (k17 : Int32 → Int32 → Int32 → Int32 → Int32 → Int32 → Int32 → St → Option (Int32 × St)) (hk17 : ∀ (x1 : Int32) (x2 : Int32) (x3 : Int32) (x4 : Int32) (x5 : Int32) (x6 : Int32) (x7 : Int32) (σ : St), k17 x1 x2 x3 x4 x5 x6 x7 σ = some (r, σ2) → Ex mr_X10_standingAt sc (Cl MT pr sc (d + 2)) (rtE (some (.int r)) (mk X) σ2) (17, [(0, .ref 38), (1, .int x1), (2, .int x2), (3, .int x3), (4, .int x4), (5, .int x5), (6, .int x6), (7, .int x7)], [], mk X, σ)) : ∀ (n : Nat) (x1 : Int32) (x2 : Int32) (x3 : Int32) (x4 : Int32) (x5 : Int32) (x6 : Int32) (x7 : Int32) (x8 : Int32) (x9 : Int32) (x10 : Int32) (x11 : Int32) (x12 : Int32) (x13 : Int32) (σ : St), f_X10_standingAt_93 k17 n x1 x2 x3 x4 x5 x6 x7 x8 x9 x10 x11 x12 x13 σ = some (r, σ2) → Ex mr_X10_standingAt sc (Cl MT pr sc (d + 2)) (rtE (some (.int r)) (mk X) σ2) (93, [(0, .ref 38), (1, .int x1), (2, .int x2), (3, .int x3), (4, .int x4), (5, .int x5), (6, .int x6), (7, .int x7), (8, .int x8), (9, .int x9), (10, .int x10), (11, .int x11), (12, .int x12), (13, .int x13)], [], mk X, σ) := by
  intro n
  induction n with
  | zero =>
    intro x1 x2 x3 x4 x5 x6 x7 x8 x9 x10 x11 x12 x13 σ h
    cases h
  | succ n ih =>
    intro x1 x2 x3 x4 x5 x6 x7 x8 x9 x10 x11 x12 x13 σ h
    simp only [f_X10_standingAt_93] at h
    refine Ex.blk 1000 rfl ?_
    rcases ite_sp h with ⟨c1, h⟩ | ⟨c1, h⟩
    · refine And.intro (fun _ => ?_) (fun hn => absurd c1 hn)
      show Ex mr_X10_standingAt sc (Cl MT pr sc (d + 2)) (rtE (some (.int r)) (mk X) σ2) (297, [(0, .ref 38), (1, .int x1), (2, .int x2), (3, .int x3), (4, .int x4), (5, .int x5), (6, .int x6), (7, .int x7), (8, .int x8), (9, .int x9), (10, .int x10), (11, .int x11), (12, .int x12), (13, .int x13)], [], mk X, σ)
      refine Ex.blk 1000 rfl ?_
      show Ex mr_X10_standingAt sc (Cl MT pr sc (d + 2)) (rtE (some (.int r)) (mk X) σ2) (17, [(7, .int (x7 + 1)), (5, .int x11), (0, .ref 38), (1, .int x1), (2, .int x2), (3, .int x3), (4, .int x4), (6, .int x6), (8, .int x8), (9, .int x9), (10, .int x10), (11, .int x11), (12, .int x12), (13, .int x13)], [], mk X, σ)
      refine Ex.pick (lv' := _) [2, 3, 4, 5, 6, 1, 7, 0] rfl ?_
      exact hk17 _ _ _ _ _ _ _ _ h
    · refine And.intro (fun hp => absurd hp c1) (fun _ => ?_)
      show Ex mr_X10_standingAt sc (Cl MT pr sc (d + 2)) (rtE (some (.int r)) (mk X) σ2) (99, [(0, .ref 38), (1, .int x1), (2, .int x2), (3, .int x3), (4, .int x4), (5, .int x5), (6, .int x6), (7, .int x7), (8, .int x8), (9, .int x9), (10, .int x10), (11, .int x11), (12, .int x12), (13, .int x13)], [], mk X, σ)
      refine Ex.blk 1000 rfl ?_
      rcases ite_sp h with ⟨c2, h⟩ | ⟨c2, h⟩
      · refine And.intro (fun hp => absurd c2 hp) (fun _ => ?_)
        show Ex mr_X10_standingAt sc (Cl MT pr sc (d + 2)) (rtE (some (.int r)) (mk X) σ2) (104, [(0, .ref 38), (1, .int x1), (2, .int x2), (3, .int x3), (4, .int x4), (5, .int x5), (6, .int x6), (7, .int x7), (8, .int x8), (9, .int x9), (10, .int x10), (11, .int x11), (12, .int x12), (13, .int x13)], [], mk X, σ)
        refine Ex.blk 1000 rfl ?_
        show Ex mr_X10_standingAt sc (Cl MT pr sc (d + 2)) (rtE (some (.int r)) (mk X) σ2) (109, [(0, .ref 38), (1, .int x1), (2, .int x2), (3, .int x3), (4, .int x4), (5, .int x5), (6, .int x6), (7, .int x7), (8, .int x8), (9, .int x9), (10, .int x10), (11, .int x11), (12, .int x12), (13, .int x13)], [.int 1], mk X, σ)
        exact lk_X10_standingAt_109 d _ _ hk17 ih _ _ _ _ _ _ _ _ _ _ _ _ _ _ _ h
      · refine And.intro (fun _ => ?_) (fun hn => absurd c2 hn)
        show Ex mr_X10_standingAt sc (Cl MT pr sc (d + 2)) (rtE (some (.int r)) (mk X) σ2) (108, [(0, .ref 38), (1, .int x1), (2, .int x2), (3, .int x3), (4, .int x4), (5, .int x5), (6, .int x6), (7, .int x7), (8, .int x8), (9, .int x9), (10, .int x10), (11, .int x11), (12, .int x12), (13, .int x13)], [], mk X, σ)
        refine Ex.blk 1000 rfl ?_
        show Ex mr_X10_standingAt sc (Cl MT pr sc (d + 2)) (rtE (some (.int r)) (mk X) σ2) (109, [(0, .ref 38), (1, .int x1), (2, .int x2), (3, .int x3), (4, .int x4), (5, .int x5), (6, .int x6), (7, .int x7), (8, .int x8), (9, .int x9), (10, .int x10), (11, .int x11), (12, .int x12), (13, .int x13)], [.int 0], mk X, σ)
        exact lk_X10_standingAt_109 d _ _ hk17 ih _ _ _ _ _ _ _ _ _ _ _ _ _ _ _ h
theorem lk_X10_standingAt_88 {pr : Ct} {sc : Nat × (Nat → Int32)} {X : En} (d : Nat) {r : Int32} {σ2 : St} (k17 : Int32 → Int32 → Int32 → Int32 → Int32 → Int32 → Int32 → St → Option (Int32 × St)) (hk17 : ∀ (x1 : Int32) (x2 : Int32) (x3 : Int32) (x4 : Int32) (x5 : Int32) (x6 : Int32) (x7 : Int32) (σ : St), k17 x1 x2 x3 x4 x5 x6 x7 σ = some (r, σ2) → Ex mr_X10_standingAt sc (Cl MT pr sc (d + 2)) (rtE (some (.int r)) (mk X) σ2) (17, [(0, .ref 38), (1, .int x1), (2, .int x2), (3, .int x3), (4, .int x4), (5, .int x5), (6, .int x6), (7, .int x7)], [], mk X, σ)) (x1 : Int32) (x2 : Int32) (x3 : Int32) (x4 : Int32) (x5 : Int32) (x6 : Int32) (x7 : Int32) (x8 : Int32) (x9 : Int32) (x10 : Int32) (x11 : Int32) (y0 : Int32) (σ : St) (h : f_X10_standingAt_88 k17 x1 x2 x3 x4 x5 x6 x7 x8 x9 x10 x11 y0 σ = some (r, σ2)) : Ex mr_X10_standingAt sc (Cl MT pr sc (d + 2)) (rtE (some (.int r)) (mk X) σ2) (88, [(0, .ref 38), (1, .int x1), (2, .int x2), (3, .int x3), (4, .int x4), (5, .int x5), (6, .int x6), (7, .int x7), (8, .int x8), (9, .int x9), (10, .int x10), (11, .int x11)], [.int y0], mk X, σ) := by
  unfold f_X10_standingAt_88 at h
  refine Ex.blk 1000 rfl ?_
  show Ex mr_X10_standingAt sc (Cl MT pr sc (d + 2)) (rtE (some (.int r)) (mk X) σ2) (93, [(13, .int 0), (12, .int y0), (0, .ref 38), (1, .int x1), (2, .int x2), (3, .int x3), (4, .int x4), (5, .int x5), (6, .int x6), (7, .int x7), (8, .int x8), (9, .int x9), (10, .int x10), (11, .int x11)], [], mk X, σ)
  refine Ex.pick (lv' := _) [2, 3, 4, 5, 6, 7, 8, 9, 10, 11, 12, 13, 1, 0] rfl ?_
  exact lk_X10_standingAt_93 d _ hk17 FU _ _ _ _ _ _ _ _ _ _ _ _ _ _ h
theorem lk_X10_standingAt_87 {pr : Ct} {sc : Nat × (Nat → Int32)} {X : En} (d : Nat) {r : Int32} {σ2 : St} (k17 : Int32 → Int32 → Int32 → Int32 → Int32 → Int32 → Int32 → St → Option (Int32 × St)) (hk17 : ∀ (x1 : Int32) (x2 : Int32) (x3 : Int32) (x4 : Int32) (x5 : Int32) (x6 : Int32) (x7 : Int32) (σ : St), k17 x1 x2 x3 x4 x5 x6 x7 σ = some (r, σ2) → Ex mr_X10_standingAt sc (Cl MT pr sc (d + 2)) (rtE (some (.int r)) (mk X) σ2) (17, [(0, .ref 38), (1, .int x1), (2, .int x2), (3, .int x3), (4, .int x4), (5, .int x5), (6, .int x6), (7, .int x7)], [], mk X, σ)) (x1 : Int32) (x2 : Int32) (x3 : Int32) (x4 : Int32) (x5 : Int32) (x6 : Int32) (x7 : Int32) (x8 : Int32) (x9 : Int32) (x10 : Int32) (x11 : Int32) (σ : St) (h : f_X10_standingAt_87 k17 x1 x2 x3 x4 x5 x6 x7 x8 x9 x10 x11 σ = some (r, σ2)) : Ex mr_X10_standingAt sc (Cl MT pr sc (d + 2)) (rtE (some (.int r)) (mk X) σ2) (87, [(0, .ref 38), (1, .int x1), (2, .int x2), (3, .int x3), (4, .int x4), (5, .int x5), (6, .int x6), (7, .int x7), (8, .int x8), (9, .int x9), (10, .int x10), (11, .int x11)], [], mk X, σ) := by
  unfold f_X10_standingAt_87 at h
  refine Ex.blk 1000 rfl ?_
  show Ex mr_X10_standingAt sc (Cl MT pr sc (d + 2)) (rtE (some (.int r)) (mk X) σ2) (88, [(0, .ref 38), (1, .int x1), (2, .int x2), (3, .int x3), (4, .int x4), (5, .int x5), (6, .int x6), (7, .int x7), (8, .int x8), (9, .int x9), (10, .int x10), (11, .int x11)], [.int 0], mk X, σ)
  exact lk_X10_standingAt_88 d _ hk17 _ _ _ _ _ _ _ _ _ _ _ _ _ h
theorem lk_X10_standingAt_83 {pr : Ct} {sc : Nat × (Nat → Int32)} {X : En} (d : Nat) {r : Int32} {σ2 : St} (k17 : Int32 → Int32 → Int32 → Int32 → Int32 → Int32 → Int32 → St → Option (Int32 × St)) (hk17 : ∀ (x1 : Int32) (x2 : Int32) (x3 : Int32) (x4 : Int32) (x5 : Int32) (x6 : Int32) (x7 : Int32) (σ : St), k17 x1 x2 x3 x4 x5 x6 x7 σ = some (r, σ2) → Ex mr_X10_standingAt sc (Cl MT pr sc (d + 2)) (rtE (some (.int r)) (mk X) σ2) (17, [(0, .ref 38), (1, .int x1), (2, .int x2), (3, .int x3), (4, .int x4), (5, .int x5), (6, .int x6), (7, .int x7)], [], mk X, σ)) (x1 : Int32) (x2 : Int32) (x3 : Int32) (x4 : Int32) (x5 : Int32) (x6 : Int32) (x7 : Int32) (x8 : Int32) (x9 : Int32) (x10 : Int32) (x11 : Int32) (σ : St) (h : f_X10_standingAt_83 k17 x1 x2 x3 x4 x5 x6 x7 x8 x9 x10 x11 σ = some (r, σ2)) : Ex mr_X10_standingAt sc (Cl MT pr sc (d + 2)) (rtE (some (.int r)) (mk X) σ2) (83, [(0, .ref 38), (1, .int x1), (2, .int x2), (3, .int x3), (4, .int x4), (5, .int x5), (6, .int x6), (7, .int x7), (8, .int x8), (9, .int x9), (10, .int x10), (11, .int x11)], [], mk X, σ) := by
  unfold f_X10_standingAt_83 at h
  refine Ex.blk 1000 rfl ?_
  show Ex mr_X10_standingAt sc (Cl MT pr sc (d + 2)) (rtE (some (.int r)) (mk X) σ2) (88, [(0, .ref 38), (1, .int x1), (2, .int x2), (3, .int x3), (4, .int x4), (5, .int x5), (6, .int x6), (7, .int x7), (8, .int x8), (9, .int x9), (10, .int x10), (11, .int x11)], [.int 1], mk X, σ)
  exact lk_X10_standingAt_88 d _ hk17 _ _ _ _ _ _ _ _ _ _ _ _ _ h
theorem lk_X10_standingAt_54 {pr : Ct} {sc : Nat × (Nat → Int32)} {X : En} (d : Nat) {r : Int32} {σ2 : St} (k17 : Int32 → Int32 → Int32 → Int32 → Int32 → Int32 → Int32 → St → Option (Int32 × St)) (hk17 : ∀ (x1 : Int32) (x2 : Int32) (x3 : Int32) (x4 : Int32) (x5 : Int32) (x6 : Int32) (x7 : Int32) (σ : St), k17 x1 x2 x3 x4 x5 x6 x7 σ = some (r, σ2) → Ex mr_X10_standingAt sc (Cl MT pr sc (d + 2)) (rtE (some (.int r)) (mk X) σ2) (17, [(0, .ref 38), (1, .int x1), (2, .int x2), (3, .int x3), (4, .int x4), (5, .int x5), (6, .int x6), (7, .int x7)], [], mk X, σ)) (x1 : Int32) (x2 : Int32) (x3 : Int32) (x4 : Int32) (x5 : Int32) (x7 : Int32) (x8 : Int32) (x9 : Int32) (σ : St) (h : f_X10_standingAt_54 k17 x1 x2 x3 x4 x5 x7 x8 x9 σ = some (r, σ2)) : Ex mr_X10_standingAt sc (Cl MT pr sc (d + 2)) (rtE (some (.int r)) (mk X) σ2) (54, [(0, .ref 38), (1, .int x1), (2, .int x2), (3, .int x3), (4, .int x4), (5, .int x5), (7, .int x7), (8, .int x8), (9, .int x9)], [], mk X, σ) := by
  unfold f_X10_standingAt_54 at h
  refine Ex.blk 5 rfl ?_
  show Ex mr_X10_standingAt sc (Cl MT pr sc (d + 2)) (rtE (some (.int r)) (mk X) σ2) (62, [(11, .int (-1)), (10, .int 0), (0, .ref 38), (1, .int x1), (2, .int x2), (3, .int x3), (4, .int x4), (5, .int x5), (7, .int x7), (8, .int x8), (9, .int x9)], [.int x9], mk X, σ)
  refine Ex.blk 1000 rfl ?_
  rcases ite_sp h with ⟨c1, h⟩ | ⟨c1, h⟩
  · refine And.intro (fun _ => ?_) (fun hn => absurd c1 hn)
    show Ex mr_X10_standingAt sc (Cl MT pr sc (d + 2)) (rtE (some (.int r)) (mk X) σ2) (87, [(6, .int x9), (11, .int (-1)), (10, .int 0), (0, .ref 38), (1, .int x1), (2, .int x2), (3, .int x3), (4, .int x4), (5, .int x5), (7, .int x7), (8, .int x8), (9, .int x9)], [], mk X, σ)
    refine Ex.pick (lv' := _) [3, 4, 5, 6, 7, 8, 0, 9, 10, 11, 2, 1] rfl ?_
    exact lk_X10_standingAt_87 d _ hk17 _ _ _ _ _ _ _ _ _ _ _ _ h
  · refine And.intro (fun hp => absurd hp c1) (fun _ => ?_)
    show Ex mr_X10_standingAt sc (Cl MT pr sc (d + 2)) (rtE (some (.int r)) (mk X) σ2) (70, [(6, .int x9), (11, .int (-1)), (10, .int 0), (0, .ref 38), (1, .int x1), (2, .int x2), (3, .int x3), (4, .int x4), (5, .int x5), (7, .int x7), (8, .int x8), (9, .int x9)], [], mk X, σ)
    refine Ex.blk 1000 rfl ?_
    rcases ite_sp h with ⟨c2, h⟩ | ⟨c2, h⟩
    · refine And.intro (fun _ => ?_) (fun hn => absurd c2 hn)
      show Ex mr_X10_standingAt sc (Cl MT pr sc (d + 2)) (rtE (some (.int r)) (mk X) σ2) (83, [(6, .int x9), (11, .int (-1)), (10, .int 0), (0, .ref 38), (1, .int x1), (2, .int x2), (3, .int x3), (4, .int x4), (5, .int x5), (7, .int x7), (8, .int x8), (9, .int x9)], [], mk X, σ)
      refine Ex.pick (lv' := _) [3, 4, 5, 6, 7, 8, 0, 9, 10, 11, 2, 1] rfl ?_
      exact lk_X10_standingAt_83 d _ hk17 _ _ _ _ _ _ _ _ _ _ _ _ h
    · refine And.intro (fun hp => absurd hp c2) (fun _ => ?_)
      show Ex mr_X10_standingAt sc (Cl MT pr sc (d + 2)) (rtE (some (.int r)) (mk X) σ2) (76, [(6, .int x9), (11, .int (-1)), (10, .int 0), (0, .ref 38), (1, .int x1), (2, .int x2), (3, .int x3), (4, .int x4), (5, .int x5), (7, .int x7), (8, .int x8), (9, .int x9)], [], mk X, σ)
      refine Ex.blk 1000 rfl ?_
      rcases ite_sp h with ⟨c3, h⟩ | ⟨c3, h⟩
      · refine And.intro (fun _ => ?_) (fun hn => absurd c3 hn)
        show Ex mr_X10_standingAt sc (Cl MT pr sc (d + 2)) (rtE (some (.int r)) (mk X) σ2) (87, [(6, .int x9), (11, .int (-1)), (10, .int 0), (0, .ref 38), (1, .int x1), (2, .int x2), (3, .int x3), (4, .int x4), (5, .int x5), (7, .int x7), (8, .int x8), (9, .int x9)], [], mk X, σ)
        refine Ex.pick (lv' := _) [3, 4, 5, 6, 7, 8, 0, 9, 10, 11, 2, 1] rfl ?_
        exact lk_X10_standingAt_87 d _ hk17 _ _ _ _ _ _ _ _ _ _ _ _ h
      · refine And.intro (fun hp => absurd hp c3) (fun _ => ?_)
        show Ex mr_X10_standingAt sc (Cl MT pr sc (d + 2)) (rtE (some (.int r)) (mk X) σ2) (83, [(6, .int x9), (11, .int (-1)), (10, .int 0), (0, .ref 38), (1, .int x1), (2, .int x2), (3, .int x3), (4, .int x4), (5, .int x5), (7, .int x7), (8, .int x8), (9, .int x9)], [], mk X, σ)
        refine Ex.pick (lv' := _) [3, 4, 5, 6, 7, 8, 0, 9, 10, 11, 2, 1] rfl ?_
        exact lk_X10_standingAt_83 d _ hk17 _ _ _ _ _ _ _ _ _ _ _ _ h
theorem lk_X10_standingAt_41 {pr : Ct} {sc : Nat × (Nat → Int32)} {X : En} (d : Nat) {r : Int32} {σ2 : St} (k17 : Int32 → Int32 → Int32 → Int32 → Int32 → Int32 → Int32 → St → Option (Int32 × St)) (hk17 : ∀ (x1 : Int32) (x2 : Int32) (x3 : Int32) (x4 : Int32) (x5 : Int32) (x6 : Int32) (x7 : Int32) (σ : St), k17 x1 x2 x3 x4 x5 x6 x7 σ = some (r, σ2) → Ex mr_X10_standingAt sc (Cl MT pr sc (d + 2)) (rtE (some (.int r)) (mk X) σ2) (17, [(0, .ref 38), (1, .int x1), (2, .int x2), (3, .int x3), (4, .int x4), (5, .int x5), (6, .int x6), (7, .int x7)], [], mk X, σ)) (x1 : Int32) (x2 : Int32) (x3 : Int32) (x4 : Int32) (x5 : Int32) (x7 : Int32) (y0 : Int32) (σ : St) (h : f_X10_standingAt_41 k17 x1 x2 x3 x4 x5 x7 y0 σ = some (r, σ2)) : Ex mr_X10_standingAt sc (Cl MT pr sc (d + 2)) (rtE (some (.int r)) (mk X) σ2) (41, [(0, .ref 38), (1, .int x1), (2, .int x2), (3, .int x3), (4, .int x4), (5, .int x5), (7, .int x7)], [.int y0], mk X, σ) := by
  unfold f_X10_standingAt_41 at h
  refine Ex.blk 5 rfl ?_
  show Ex mr_X10_standingAt sc (Cl MT pr sc (d + 2)) (rtE (some (.int r)) (mk X) σ2) (50, [(8, .int y0), (0, .ref 38), (1, .int x1), (2, .int x2), (3, .int x3), (4, .int x4), (5, .int x5), (7, .int x7)], [.int x7, .int 0, .ref 46], mk X, σ)
  refine Ex.blk 2 rfl ?_
  obtain ⟨g1, h⟩ := gd_some h
  refine And.intro (inb_ok g1) ?_
  show Ex mr_X10_standingAt sc (Cl MT pr sc (d + 2)) (rtE (some (.int r)) (mk X) σ2) (52, [(8, .int y0), (0, .ref 38), (1, .int x1), (2, .int x2), (3, .int x3), (4, .int x4), (5, .int x5), (7, .int x7)], [.int (gI σ 46 (0 + x7).toNatClampNeg)], mk X, σ)
  refine Ex.blk 1 rfl ?_
  show Ex mr_X10_standingAt sc (Cl MT pr sc (d + 2)) (rtE (some (.int r)) (mk X) σ2) (54, [(9, .int (gI σ 46 (0 + x7).toNatClampNeg)), (8, .int y0), (0, .ref 38), (1, .int x1), (2, .int x2), (3, .int x3), (4, .int x4), (5, .int x5), (7, .int x7)], [], mk X, σ)
  refine Ex.pick (lv' := _) [2, 3, 4, 5, 6, 7, 8, 1, 0] rfl ?_
  exact lk_X10_standingAt_54 d _ hk17 _ _ _ _ _ _ _ _ _ h
theorem lk_X10_standingAt_17 {pr : Ct} {sc : Nat × (Nat → Int32)} {X : En} (d : Nat) {r : Int32} {σ2 : St} : ∀ (n : Nat) (x1 : Int32) (x2 : Int32) (x3 : Int32) (x4 : Int32) (x5 : Int32) (x6 : Int32) (x7 : Int32) (σ : St), f_X10_standingAt_17 n x1 x2 x3 x4 x5 x6 x7 σ = some (r, σ2) → Ex mr_X10_standingAt sc (Cl MT pr sc (d + 2)) (rtE (some (.int r)) (mk X) σ2) (17, [(0, .ref 38), (1, .int x1), (2, .int x2), (3, .int x3), (4, .int x4), (5, .int x5), (6, .int x6), (7, .int x7)], [], mk X, σ) := by
  intro n
  induction n with
  | zero =>
    intro x1 x2 x3 x4 x5 x6 x7 σ h
    cases h
  | succ n ih =>
    intro x1 x2 x3 x4 x5 x6 x7 σ h
    simp only [f_X10_standingAt_17] at h
    refine Ex.blk 1000 rfl ?_
    rcases ite_sp h with ⟨c1, h⟩ | ⟨c1, h⟩
    · refine And.intro (fun _ => ?_) (fun hn => absurd c1 hn)
      show Ex mr_X10_standingAt sc (Cl MT pr sc (d + 2)) (rtE (some (.int r)) (mk X) σ2) (307, [(0, .ref 38), (1, .int x1), (2, .int x2), (3, .int x3), (4, .int x4), (5, .int x5), (6, .int x6), (7, .int x7)], [], mk X, σ)
      refine Ex.blk 1000 rfl ?_
      cases h
      exact And.intro trivial ⟨rfl, rfl, rfl⟩
    · refine And.intro (fun hp => absurd hp c1) (fun _ => ?_)
      show Ex mr_X10_standingAt sc (Cl MT pr sc (d + 2)) (rtE (some (.int r)) (mk X) σ2) (23, [(0, .ref 38), (1, .int x1), (2, .int x2), (3, .int x3), (4, .int x4), (5, .int x5), (6, .int x6), (7, .int x7)], [], mk X, σ)
      refine Ex.blk 1000 rfl ?_
      rcases ite_sp h with ⟨c2, h⟩ | ⟨c2, h⟩
      · refine And.intro (fun _ => ?_) (fun hn => absurd c2 hn)
        show Ex mr_X10_standingAt sc (Cl MT pr sc (d + 2)) (rtE (some (.int r)) (mk X) σ2) (40, [(0, .ref 38), (1, .int x1), (2, .int x2), (3, .int x3), (4, .int x4), (5, .int x5), (6, .int x6), (7, .int x7)], [], mk X, σ)
        refine Ex.blk 1000 rfl ?_
        show Ex mr_X10_standingAt sc (Cl MT pr sc (d + 2)) (rtE (some (.int r)) (mk X) σ2) (41, [(0, .ref 38), (1, .int x1), (2, .int x2), (3, .int x3), (4, .int x4), (5, .int x5), (6, .int x6), (7, .int x7)], [.int (-1)], mk X, σ)
        refine Ex.pick (lv' := _) [0, 1, 2, 3, 4, 5, 7] rfl ?_
        exact lk_X10_standingAt_41 d _ ih _ _ _ _ _ _ _ _ h
      · refine And.intro (fun hp => absurd hp c2) (fun _ => ?_)
        show Ex mr_X10_standingAt sc (Cl MT pr sc (d + 2)) (rtE (some (.int r)) (mk X) σ2) (30, [(0, .ref 38), (1, .int x1), (2, .int x2), (3, .int x3), (4, .int x4), (5, .int x5), (6, .int x6), (7, .int x7)], [], mk X, σ)
        refine Ex.blk 1000 rfl ?_
        show Ex mr_X10_standingAt sc (Cl MT pr sc (d + 2)) (rtE (some (.int r)) (mk X) σ2) (41, [(0, .ref 38), (1, .int x1), (2, .int x2), (3, .int x3), (4, .int x4), (5, .int x5), (6, .int x6), (7, .int x7)], [.int ((gI σ 38 14) * x7)], mk X, σ)
        refine Ex.pick (lv' := _) [0, 1, 2, 3, 4, 5, 7] rfl ?_
        exact lk_X10_standingAt_41 d _ ih _ _ _ _ _ _ _ _ h
theorem cl_X10_standingAt {pr : Ct} {sc : Nat × (Nat → Int32)} {X : En} (d : Nat) {r : Int32} {σ2 : St} {x1 : Int32} {x2 : Int32} {x3 : Int32} {σ : St} (h : f_X10_standingAt x1 x2 x3 σ = some (r, σ2)) : Cl MT pr sc (d + 2 + 1) 228 [.ref 38, .int x1, .int x2, .int x3] (mk X) σ (some (.int r)) (mk X) σ2 := by
  refine cl_of mr_X10_standingAt rfl rfl ?_
  unfold f_X10_standingAt at h
  refine Ex.blk 4 rfl ?_
  obtain ⟨p1, hp1, h⟩ := bind_sp h
  refine Exists.intro (some (.int p1.1)) (Exists.intro (mk X) (Exists.intro p1.2 (And.intro (cl_X10_highest (d + 0) hp1) ?_)))
  show Ex mr_X10_standingAt sc (Cl MT pr sc (d + 2)) (rtE (some (.int r)) (mk X) σ2) (6, [(0, .ref 38), (1, .int x1), (2, .int x2), (3, .int x3)], [.int p1.1], mk X, p1.2)
  refine Ex.blk 5 rfl ?_
  show Ex mr_X10_standingAt sc (Cl MT pr sc (d + 2)) (rtE (some (.int r)) (mk X) σ2) (14, [(6, .int 0), (5, .int (-1)), (4, .int p1.1), (0, .ref 38), (1, .int x1), (2, .int x2), (3, .int x3)], [], mk X, p1.2)
  refine Ex.blk 1000 rfl ?_
  show Ex mr_X10_standingAt sc (Cl MT pr sc (d + 2)) (rtE (some (.int r)) (mk X) σ2) (17, [(7, .int 0), (6, .int 0), (5, .int (-1)), (4, .int p1.1), (0, .ref 38), (1, .int x1), (2, .int x2), (3, .int x3)], [], mk X, p1.2)
  refine Ex.pick (lv' := _) [4, 5, 6, 7, 3, 2, 1, 0] rfl ?_
  exact lk_X10_standingAt_17 d FU _ _ _ _ _ _ _ _ h
theorem lk_X10_standing_43 {pr : Ct} {sc : Nat × (Nat → Int32)} {X : En} (d : Nat) {r : Int32} {σ2 : St} (y0 : Int32) (σ : St) (h : f_X10_standing_43 y0 σ = some (r, σ2)) : Ex mr_X10_standing sc (Cl MT pr sc (d + 3)) (rtE (some (.int r)) (mk X) σ2) (43, [], [.int y0], mk X, σ) := by
  unfold f_X10_standing_43 at h
  refine Ex.blk 1000 rfl ?_
  cases h
  exact And.intro trivial ⟨rfl, rfl, rfl⟩
theorem lk_X10_standing_42 {pr : Ct} {sc : Nat × (Nat → Int32)} {X : En} (d : Nat) {r : Int32} {σ2 : St} (σ : St) (h : f_X10_standing_42 σ = some (r, σ2)) : Ex mr_X10_standing sc (Cl MT pr sc (d + 3)) (rtE (some (.int r)) (mk X) σ2) (42, [], [], mk X, σ) := by
  unfold f_X10_standing_42 at h
  refine Ex.blk 1000 rfl ?_
  show Ex mr_X10_standing sc (Cl MT pr sc (d + 3)) (rtE (some (.int r)) (mk X) σ2) (43, [], [.int (-1)], mk X, σ)
  exact lk_X10_standing_43 d _ _ h
theorem cl_X10_standing {pr : Ct} {sc : Nat × (Nat → Int32)} {X : En} (d : Nat) {r : Int32} {σ2 : St} {x1 : Int32} {x2 : Int32} {x3 : Int32} {σ : St} (h : f_X10_standing x1 x2 x3 σ = some (r, σ2)) : Cl MT pr sc (d + 3 + 1) 229 [.ref 38, .int x1, .int x2, .int x3] (mk X) σ (some (.int r)) (mk X) σ2 := by
  refine cl_of mr_X10_standing rfl rfl ?_
  unfold f_X10_standing at h
  refine Ex.blk 5 rfl ?_
  obtain ⟨p1, hp1, h⟩ := bind_sp h
  refine Exists.intro (some (.int p1.1)) (Exists.intro (mk X) (Exists.intro p1.2 (And.intro (cl_X10_in (d + 2) hp1) ?_)))
  show Ex mr_X10_standing sc (Cl MT pr sc (d + 3)) (rtE (some (.int r)) (mk X) σ2) (9, [(0, .ref 38), (1, .int x1), (2, .int x2), (3, .int x3)], [.int p1.1], mk X, p1.2)
  refine Ex.blk 1000 rfl ?_
  rcases ite_sp h with ⟨c1, h⟩ | ⟨c1, h⟩
  · refine And.intro (fun _ => ?_) (fun hn => absurd c1 hn)
    show Ex mr_X10_standing sc (Cl MT pr sc (d + 3)) (rtE (some (.int r)) (mk X) σ2) (42, [(0, .ref 38), (1, .int x1), (2, .int x2), (3, .int x3)], [], mk X, p1.2)
    refine Ex.pick (lv' := _) [] rfl ?_
    exact lk_X10_standing_42 d _ h
  · refine And.intro (fun hp => absurd hp c1) (fun _ => ?_)
    show Ex mr_X10_standing sc (Cl MT pr sc (d + 3)) (rtE (some (.int r)) (mk X) σ2) (12, [(0, .ref 38), (1, .int x1), (2, .int x2), (3, .int x3)], [], mk X, p1.2)
    refine Ex.blk 3 rfl ?_
    obtain ⟨p2, hp2, h⟩ := bind_sp h
    refine Exists.intro (some (.int p2.1)) (Exists.intro (mk X) (Exists.intro p2.2 (And.intro (cl_X10_isRope (d + 1) hp2) ?_)))
    show Ex mr_X10_standing sc (Cl MT pr sc (d + 3)) (rtE (some (.int r)) (mk X) σ2) (17, [(0, .ref 38), (1, .int x1), (2, .int x2), (3, .int x3)], [.int p2.1], mk X, p2.2)
    refine Ex.blk 1000 rfl ?_
    rcases ite_sp h with ⟨c2, h⟩ | ⟨c2, h⟩
    · refine And.intro (fun _ => ?_) (fun hn => absurd c2 hn)
      show Ex mr_X10_standing sc (Cl MT pr sc (d + 3)) (rtE (some (.int r)) (mk X) σ2) (42, [(0, .ref 38), (1, .int x1), (2, .int x2), (3, .int x3)], [], mk X, p2.2)
      refine Ex.pick (lv' := _) [] rfl ?_
      exact lk_X10_standing_42 d _ h
    · refine And.intro (fun hp => absurd hp c2) (fun _ => ?_)
      show Ex mr_X10_standing sc (Cl MT pr sc (d + 3)) (rtE (some (.int r)) (mk X) σ2) (20, [(0, .ref 38), (1, .int x1), (2, .int x2), (3, .int x3)], [], mk X, p2.2)
      refine Ex.blk 5 rfl ?_
      obtain ⟨p3, hp3, h⟩ := bind_sp h
      refine Exists.intro (some (.int p3.1)) (Exists.intro (mk X) (Exists.intro p3.2 (And.intro (cl_X10_in (d + 2) hp3) ?_)))
      show Ex mr_X10_standing sc (Cl MT pr sc (d + 3)) (rtE (some (.int r)) (mk X) σ2) (29, [(0, .ref 38), (1, .int x1), (2, .int x2), (3, .int x3)], [.int p3.1], mk X, p3.2)
      refine Ex.blk 1000 rfl ?_
      rcases ite_sp h with ⟨c3, h⟩ | ⟨c3, h⟩
      · refine And.intro (fun _ => ?_) (fun hn => absurd c3 hn)
        show Ex mr_X10_standing sc (Cl MT pr sc (d + 3)) (rtE (some (.int r)) (mk X) σ2) (42, [(0, .ref 38), (1, .int x1), (2, .int x2), (3, .int x3)], [], mk X, p3.2)
        refine Ex.pick (lv' := _) [] rfl ?_
        exact lk_X10_standing_42 d _ h
      · refine And.intro (fun hp => absurd hp c3) (fun _ => ?_)
        show Ex mr_X10_standing sc (Cl MT pr sc (d + 3)) (rtE (some (.int r)) (mk X) σ2) (32, [(0, .ref 38), (1, .int x1), (2, .int x2), (3, .int x3)], [], mk X, p3.2)
        refine Ex.blk 5 rfl ?_
        obtain ⟨p4, hp4, h⟩ := bind_sp h
        refine Exists.intro (some (.int p4.1)) (Exists.intro (mk X) (Exists.intro p4.2 (And.intro (cl_X10_standingAt (d + 0) hp4) ?_)))
        show Ex mr_X10_standing sc (Cl MT pr sc (d + 3)) (rtE (some (.int r)) (mk X) σ2) (39, [(0, .ref 38), (1, .int x1), (2, .int x2), (3, .int x3)], [.int p4.1], mk X, p4.2)
        refine Ex.blk 1000 rfl ?_
        show Ex mr_X10_standing sc (Cl MT pr sc (d + 3)) (rtE (some (.int r)) (mk X) σ2) (43, [(0, .ref 38), (1, .int x1), (2, .int x2), (3, .int x3)], [.int p4.1], mk X, p4.2)
        refine Ex.pick (lv' := _) [] rfl ?_
        exact lk_X10_standing_43 d _ _ h
theorem lk_X10_heardAs_86 {pr : Ct} {sc : Nat × (Nat → Int32)} {X : En} (d : Nat) {r : Int64} {σ2 : St} (k22 : Int32 → Int64 → Int64 → Int32 → St → Option (Int64 × St)) (hk22 : ∀ (x1 : Int32) (x2 : Int64) (x4 : Int64) (x6 : Int32) (σ : St), k22 x1 x2 x4 x6 σ = some (r, σ2) → Ex mr_X10_heardAs sc (Cl MT pr sc (d + 1)) (rtE (some (.long r)) (mk X) σ2) (22, [(0, .ref 38), (1, .int x1), (2, .long x2), (4, .long x4), (6, .int x6)], [], mk X, σ)) (x1 : Int32) (x2 : Int64) (x4 : Int64) (x6 : Int32) (σ : St) (h : f_X10_heardAs_86 k22 x1 x2 x4 x6 σ = some (r, σ2)) : Ex mr_X10_heardAs sc (Cl MT pr sc (d + 1)) (rtE (some (.long r)) (mk X) σ2) (86, [(0, .ref 38), (1, .int x1), (2, .long x2), (4, .long x4), (6, .int x6)], [], mk X, σ) := by
  unfold f_X10_heardAs_86 at h
  refine Ex.blk 1000 rfl ?_
  show Ex mr_X10_heardAs sc (Cl MT pr sc (d + 1)) (rtE (some (.long r)) (mk X) σ2) (22, [(6, .int (x6 + 1)), (0, .ref 38), (1, .int x1), (2, .long x2), (4, .long x4)], [], mk X, σ)
  refine Ex.pick (lv' := _) [1, 2, 3, 4, 0] rfl ?_
  exact hk22 _ _ _ _ _ h
theorem lk_X10_heardAs_83 {pr : Ct} {sc : Nat × (Nat → Int32)} {X : En} (d : Nat) {r : Int64} {σ2 : St} (k22 : Int32 → Int64 → Int64 → Int32 → St → Option (Int64 × St)) (hk22 : ∀ (x1 : Int32) (x2 : Int64) (x4 : Int64) (x6 : Int32) (σ : St), k22 x1 x2 x4 x6 σ = some (r, σ2) → Ex mr_X10_heardAs sc (Cl MT pr sc (d + 1)) (rtE (some (.long r)) (mk X) σ2) (22, [(0, .ref 38), (1, .int x1), (2, .long x2), (4, .long x4), (6, .int x6)], [], mk X, σ)) (x1 : Int32) (x2 : Int64) (x6 : Int32) (y0 : Int64) (y1 : Int64) (σ : St) (h : f_X10_heardAs_83 k22 x1 x2 x6 y0 y1 σ = some (r, σ2)) : Ex mr_X10_heardAs sc (Cl MT pr sc (d + 1)) (rtE (some (.long r)) (mk X) σ2) (83, [(0, .ref 38), (1, .int x1), (2, .long x2), (6, .int x6)], [.long y0, .long y1], mk X, σ) := by
  unfold f_X10_heardAs_83 at h
  refine Ex.blk 2 rfl ?_
  show Ex mr_X10_heardAs sc (Cl MT pr sc (d + 1)) (rtE (some (.long r)) (mk X) σ2) (86, [(4, .long (y1 * y0)), (0, .ref 38), (1, .int x1), (2, .long x2), (6, .int x6)], [], mk X, σ)
  refine Ex.pick (lv' := _) [1, 2, 3, 0, 4] rfl ?_
  exact lk_X10_heardAs_86 d _ hk22 _ _ _ _ _ h
theorem lk_X10_heardAs_22 {pr : Ct} {sc : Nat × (Nat → Int32)} {X : En} (d : Nat) {r : Int64} {σ2 : St} : ∀ (n : Nat) (x1 : Int32) (x2 : Int64) (x4 : Int64) (x6 : Int32) (σ : St), f_X10_heardAs_22 n x1 x2 x4 x6 σ = some (r, σ2) → Ex mr_X10_heardAs sc (Cl MT pr sc (d + 1)) (rtE (some (.long r)) (mk X) σ2) (22, [(0, .ref 38), (1, .int x1), (2, .long x2), (4, .long x4), (6, .int x6)], [], mk X, σ) := by
  intro n
  induction n with
  | zero =>
    intro x1 x2 x4 x6 σ h
    cases h
  | succ n ih =>
    intro x1 x2 x4 x6 σ h
    simp only [f_X10_heardAs_22] at h
    refine Ex.blk 5 rfl ?_
    obtain ⟨p3, hp3, h⟩ := bind_sp h
    refine Exists.intro (some (.int p3.1)) (Exists.intro (mk X) (Exists.intro p3.2 (And.intro (cl_X10_many (d + 0) hp3) ?_)))
    show Ex mr_X10_heardAs sc (Cl MT pr sc (d + 1)) (rtE (some (.long r)) (mk X) σ2) (30, [(0, .ref 38), (1, .int x1), (2, .long x2), (4, .long x4), (6, .int x6)], [.int p3.1, .int x6], mk X, p3.2)
    refine Ex.blk 1000 rfl ?_
    rcases ite_sp h with ⟨c1, h⟩ | ⟨c1, h⟩
    · refine And.intro (fun _ => ?_) (fun hn => absurd c1 hn)
      show Ex mr_X10_heardAs sc (Cl MT pr sc (d + 1)) (rtE (some (.long r)) (mk X) σ2) (92, [(0, .ref 38), (1, .int x1), (2, .long x2), (4, .long x4), (6, .int x6)], [], mk X, p3.2)
      refine Ex.blk 1000 rfl ?_
      cases h
      exact And.intro trivial ⟨rfl, rfl, rfl⟩
    · refine And.intro (fun hp => absurd hp c1) (fun _ => ?_)
      show Ex mr_X10_heardAs sc (Cl MT pr sc (d + 1)) (rtE (some (.long r)) (mk X) σ2) (33, [(0, .ref 38), (1, .int x1), (2, .long x2), (4, .long x4), (6, .int x6)], [], mk X, p3.2)
      refine Ex.blk 4 rfl ?_
      obtain ⟨p4, hp4, h⟩ := bind_sp h
      refine Exists.intro (some (.int p4.1)) (Exists.intro (mk X) (Exists.intro p4.2 (And.intro (cl_X10_digitOf (d + 0) hp4) ?_)))
      show Ex mr_X10_heardAs sc (Cl MT pr sc (d + 1)) (rtE (some (.long r)) (mk X) σ2) (40, [(0, .ref 38), (1, .int x1), (2, .long x2), (4, .long x4), (6, .int x6)], [.int p4.1], mk X, p4.2)
      refine Ex.blk 4 rfl ?_
      obtain ⟨p5, hp5, h⟩ := bind_sp h
      refine Exists.intro (some (.int p5.1)) (Exists.intro (mk X) (Exists.intro p5.2 (And.intro (cl_X10_digitOf (d + 0) hp5) ?_)))
      show Ex mr_X10_heardAs sc (Cl MT pr sc (d + 1)) (rtE (some (.long r)) (mk X) σ2) (48, [(7, .int p4.1), (0, .ref 38), (1, .int x1), (2, .long x2), (4, .long x4), (6, .int x6)], [.int p5.1], mk X, p5.2)
      refine Ex.blk 1000 rfl ?_
      rcases ite_sp h with ⟨c2, h⟩ | ⟨c2, h⟩
      · refine And.intro (fun hp => absurd c2 hp) (fun _ => ?_)
        show Ex mr_X10_heardAs sc (Cl MT pr sc (d + 1)) (rtE (some (.long r)) (mk X) σ2) (59, [(8, .int p5.1), (7, .int p4.1), (0, .ref 38), (1, .int x1), (2, .long x2), (4, .long x4), (6, .int x6)], [.long x4], mk X, p5.2)
        refine Ex.blk 3 rfl ?_
        obtain ⟨p6, hp6, h⟩ := bind_sp h
        refine Exists.intro (some (.int p6.1)) (Exists.intro (mk X) (Exists.intro p6.2 (And.intro (cl_X10_itself (d + 0) hp6) ?_)))
        show Ex mr_X10_heardAs sc (Cl MT pr sc (d + 1)) (rtE (some (.long r)) (mk X) σ2) (65, [(8, .int p5.1), (7, .int p4.1), (0, .ref 38), (1, .int x1), (2, .long x2), (4, .long x4), (6, .int x6)], [.int p6.1, .long x4], mk X, p6.2)
        refine Ex.blk 1000 rfl ?_
        show Ex mr_X10_heardAs sc (Cl MT pr sc (d + 1)) (rtE (some (.long r)) (mk X) σ2) (83, [(8, .int p5.1), (7, .int p4.1), (0, .ref 38), (1, .int x1), (2, .long x2), (4, .long x4), (6, .int x6)], [.long p6.1.toInt64, .long x4], mk X, p6.2)
        refine Ex.pick (lv' := _) [2, 3, 4, 6] rfl ?_
        exact lk_X10_heardAs_83 d _ ih _ _ _ _ _ _ h
      · refine And.intro (fun _ => ?_) (fun hn => absurd c2 hn)
        show Ex mr_X10_heardAs sc (Cl MT pr sc (d + 1)) (rtE (some (.long r)) (mk X) σ2) (69, [(8, .int p5.1), (7, .int p4.1), (0, .ref 38), (1, .int x1), (2, .long x2), (4, .long x4), (6, .int x6)], [.long x4], mk X, p5.2)
        refine Ex.blk 5 rfl ?_
        show Ex mr_X10_heardAs sc (Cl MT pr sc (d + 1)) (rtE (some (.long r)) (mk X) σ2) (78, [(8, .int p5.1), (7, .int p4.1), (0, .ref 38), (1, .int x1), (2, .long x2), (4, .long x4), (6, .int x6)], [.int (10 * p4.1), .ref 45, .long x4], mk X, p5.2)
        refine Ex.blk 3 rfl ?_
        obtain ⟨g3, h⟩ := gd_some h
        refine And.intro (inb_ok g3) ?_
        show Ex mr_X10_heardAs sc (Cl MT pr sc (d + 1)) (rtE (some (.long r)) (mk X) σ2) (82, [(8, .int p5.1), (7, .int p4.1), (0, .ref 38), (1, .int x1), (2, .long x2), (4, .long x4), (6, .int x6)], [.int (gI p5.2 45 ((10 * p4.1) + p5.1).toNatClampNeg), .long x4], mk X, p5.2)
        refine Ex.blk 1000 rfl ?_
        show Ex mr_X10_heardAs sc (Cl MT pr sc (d + 1)) (rtE (some (.long r)) (mk X) σ2) (83, [(8, .int p5.1), (7, .int p4.1), (0, .ref 38), (1, .int x1), (2, .long x2), (4, .long x4), (6, .int x6)], [.long (gI p5.2 45 ((10 * p4.1) + p5.1).toNatClampNeg).toInt64, .long x4], mk X, p5.2)
        refine Ex.pick (lv' := _) [2, 3, 4, 6] rfl ?_
        exact lk_X10_heardAs_83 d _ ih _ _ _ _ _ _ h
theorem cl_X10_heardAs {pr : Ct} {sc : Nat × (Nat → Int32)} {X : En} (d : Nat) {r : Int64} {σ2 : St} {x1 : Int32} {x2 : Int64} {σ : St} (h : f_X10_heardAs x1 x2 σ = some (r, σ2)) : Cl MT pr sc (d + 1 + 1) 230 [.ref 38, .int x1, .long x2] (mk X) σ (some (.long r)) (mk X) σ2 := by
  refine cl_of mr_X10_heardAs rfl rfl ?_
  unfold f_X10_heardAs at h
  refine Ex.blk 3 rfl ?_
  obtain ⟨p1, hp1, h⟩ := bind_sp h
  refine Exists.intro (some (.int p1.1)) (Exists.intro (mk X) (Exists.intro p1.2 (And.intro (cl_X10_many (d + 0) hp1) ?_)))
  show Ex mr_X10_heardAs sc (Cl MT pr sc (d + 1)) (rtE (some (.long r)) (mk X) σ2) (5, [(0, .ref 38), (1, .int x1), (2, .long x2)], [.int p1.1], mk X, p1.2)
  refine Ex.blk 4 rfl ?_
  obtain ⟨p2, hp2, h⟩ := bind_sp h
  refine Exists.intro (some (.int p2.1)) (Exists.intro (mk X) (Exists.intro p2.2 (And.intro (cl_X10_many (d + 0) hp2) ?_)))
  show Ex mr_X10_heardAs sc (Cl MT pr sc (d + 1)) (rtE (some (.long r)) (mk X) σ2) (11, [(0, .ref 38), (1, .int x1), (2, .long x2)], [.int p2.1, .int p1.1], mk X, p2.2)
  refine Ex.blk 1000 rfl ?_
  rcases ite_sp h with ⟨c1, h⟩ | ⟨c1, h⟩
  · refine And.intro (fun _ => ?_) (fun hn => absurd c1 hn)
    show Ex mr_X10_heardAs sc (Cl MT pr sc (d + 1)) (rtE (some (.long r)) (mk X) σ2) (16, [(0, .ref 38), (1, .int x1), (2, .long x2)], [], mk X, p2.2)
    refine Ex.blk 1000 rfl ?_
    show Ex mr_X10_heardAs sc (Cl MT pr sc (d + 1)) (rtE (some (.long r)) (mk X) σ2) (22, [(6, .int 0), (4, .long 1), (0, .ref 38), (1, .int x1), (2, .long x2)], [], mk X, p2.2)
    refine Ex.pick (lv' := _) [2, 3, 4, 1, 0] rfl ?_
    exact lk_X10_heardAs_22 d FU _ _ _ _ _ h
  · refine And.intro (fun hp => absurd hp c1) (fun _ => ?_)
    show Ex mr_X10_heardAs sc (Cl MT pr sc (d + 1)) (rtE (some (.long r)) (mk X) σ2) (14, [(0, .ref 38), (1, .int x1), (2, .long x2)], [], mk X, p2.2)
    refine Ex.blk 1000 rfl ?_
    cases h
    exact And.intro trivial ⟨rfl, rfl, rfl⟩
theorem lk_X10_as_24 {pr : Ct} {sc : Nat × (Nat → Int32)} {X : En} (d : Nat) {r : Int32} {σ2 : St} (σ : St) (h : f_X10_as_24 σ = some (r, σ2)) : Ex mr_X10_as sc (Cl MT pr sc (d + 2)) (rtE (some (.int r)) (mk X) σ2) (24, [], [], mk X, σ) := by
  unfold f_X10_as_24 at h
  refine Ex.blk 1000 rfl ?_
  cases h
  exact And.intro trivial ⟨rfl, rfl, rfl⟩
theorem lk_X10_as_74 {pr : Ct} {sc : Nat × (Nat → Int32)} {X : En} (d : Nat) {r : Int32} {σ2 : St} (y0 : Int64) (σ : St) (h : f_X10_as_74 y0 σ = some (r, σ2)) : Ex mr_X10_as sc (Cl MT pr sc (d + 2)) (rtE (some (.int r)) (mk X) σ2) (74, [], [.long y0], mk X, σ) := by
  unfold f_X10_as_74 at h
  refine Ex.blk 1000 rfl ?_
  cases h
  exact And.intro trivial ⟨rfl, rfl, rfl⟩
theorem cl_X10_as {pr : Ct} {sc : Nat × (Nat → Int32)} {X : En} (d : Nat) {r : Int32} {σ2 : St} {x1 : Int32} {x2 : Int32} {σ : St} (h : f_X10_as x1 x2 σ = some (r, σ2)) : Cl MT pr sc (d + 2 + 1) 231 [.ref 38, .int x1, .int x2] (mk X) σ (some (.int r)) (mk X) σ2 := by
  refine cl_of mr_X10_as rfl rfl ?_
  unfold f_X10_as at h
  refine Ex.blk 5 rfl ?_
  obtain ⟨p1, hp1, h⟩ := bind_sp h
  refine Exists.intro (some (.int p1.1)) (Exists.intro (mk X) (Exists.intro p1.2 (And.intro (cl_X10_in (d + 1) hp1) ?_)))
  show Ex mr_X10_as sc (Cl MT pr sc (d + 2)) (rtE (some (.int r)) (mk X) σ2) (9, [(0, .ref 38), (1, .int x1), (2, .int x2)], [.int p1.1], mk X, p1.2)
  refine Ex.blk 1000 rfl ?_
  rcases ite_sp h with ⟨c1, h⟩ | ⟨c1, h⟩
  · refine And.intro (fun _ => ?_) (fun hn => absurd c1 hn)
    show Ex mr_X10_as sc (Cl MT pr sc (d + 2)) (rtE (some (.int r)) (mk X) σ2) (24, [(0, .ref 38), (1, .int x1), (2, .int x2)], [], mk X, p1.2)
    refine Ex.pick (lv' := _) [] rfl ?_
    exact lk_X10_as_24 d _ h
  · refine And.intro (fun hp => absurd hp c1) (fun _ => ?_)
    show Ex mr_X10_as sc (Cl MT pr sc (d + 2)) (rtE (some (.int r)) (mk X) σ2) (12, [(0, .ref 38), (1, .int x1), (2, .int x2)], [], mk X, p1.2)
    refine Ex.blk 5 rfl ?_
    obtain ⟨p2, hp2, h⟩ := bind_sp h
    refine Exists.intro (some (.int p2.1)) (Exists.intro (mk X) (Exists.intro p2.2 (And.intro (cl_X10_in (d + 1) hp2) ?_)))
    show Ex mr_X10_as sc (Cl MT pr sc (d + 2)) (rtE (some (.int r)) (mk X) σ2) (21, [(0, .ref 38), (1, .int x1), (2, .int x2)], [.int p2.1], mk X, p2.2)
    refine Ex.blk 1000 rfl ?_
    rcases ite_sp h with ⟨c2, h⟩ | ⟨c2, h⟩
    · refine And.intro (fun hp => absurd c2 hp) (fun _ => ?_)
      show Ex mr_X10_as sc (Cl MT pr sc (d + 2)) (rtE (some (.int r)) (mk X) σ2) (24, [(0, .ref 38), (1, .int x1), (2, .int x2)], [], mk X, p2.2)
      refine Ex.pick (lv' := _) [] rfl ?_
      exact lk_X10_as_24 d _ h
    · refine And.intro (fun _ => ?_) (fun hn => absurd c2 hn)
      show Ex mr_X10_as sc (Cl MT pr sc (d + 2)) (rtE (some (.int r)) (mk X) σ2) (26, [(0, .ref 38), (1, .int x1), (2, .int x2)], [], mk X, p2.2)
      refine Ex.blk 5 rfl ?_
      obtain ⟨p3, hp3, h⟩ := bind_sp h
      refine Exists.intro (some (.int p3.1)) (Exists.intro (mk X) (Exists.intro p3.2 (And.intro (cl_X10_many (d + 1) hp3) ?_)))
      show Ex mr_X10_as sc (Cl MT pr sc (d + 2)) (rtE (some (.int r)) (mk X) σ2) (33, [(0, .ref 38), (1, .int x1), (2, .int x2)], [.int p3.1, .int 2], mk X, p3.2)
      refine Ex.blk 2 rfl ?_
      obtain ⟨p4, hp4, h⟩ := bind_sp h
      refine Exists.intro (some (.long p4.1)) (Exists.intro (mk X) (Exists.intro p4.2 (And.intro (cl_X10_ten (d + 1) hp4) ?_)))
      show Ex mr_X10_as sc (Cl MT pr sc (d + 2)) (rtE (some (.int r)) (mk X) σ2) (37, [(0, .ref 38), (1, .int x1), (2, .int x2)], [.long p4.1], mk X, p4.2)
      refine Ex.blk 5 rfl ?_
      show Ex mr_X10_as sc (Cl MT pr sc (d + 2)) (rtE (some (.int r)) (mk X) σ2) (42, [(3, .long p4.1), (0, .ref 38), (1, .int x1), (2, .int x2)], [.long x2.toInt64, .int x1, .ref 38], mk X, p4.2)
      refine Ex.blk 1 rfl ?_
      obtain ⟨p5, hp5, h⟩ := bind_sp h
      refine Exists.intro (some (.long p5.1)) (Exists.intro (mk X) (Exists.intro p5.2 (And.intro (cl_X10_heardAs (d + 0) hp5) ?_)))
      show Ex mr_X10_as sc (Cl MT pr sc (d + 2)) (rtE (some (.int r)) (mk X) σ2) (45, [(3, .long p4.1), (0, .ref 38), (1, .int x1), (2, .int x2)], [.long p5.1], mk X, p5.2)
      refine Ex.blk 1000 rfl ?_
      rcases ite_sp h with ⟨c3, h⟩ | ⟨c3, h⟩
      · refine And.intro (fun _ => ?_) (fun hn => absurd c3 hn)
        show Ex mr_X10_as sc (Cl MT pr sc (d + 2)) (rtE (some (.int r)) (mk X) σ2) (66, [(5, .long p5.1), (3, .long p4.1), (0, .ref 38), (1, .int x1), (2, .int x2)], [], mk X, p5.2)
        refine Ex.blk 4 rfl ?_
        obtain ⟨g4, h⟩ := gd_some h
        refine And.intro (nzJ_ok g4) ?_
        show Ex mr_X10_as sc (Cl MT pr sc (d + 2)) (rtE (some (.int r)) (mk X) σ2) (73, [(5, .long p5.1), (3, .long p4.1), (0, .ref 38), (1, .int x1), (2, .int x2)], [.long (1000000 / p4.1), .long p5.1], mk X, p5.2)
        refine Ex.blk 1000 rfl ?_
        show Ex mr_X10_as sc (Cl MT pr sc (d + 2)) (rtE (some (.int r)) (mk X) σ2) (74, [(5, .long p5.1), (3, .long p4.1), (0, .ref 38), (1, .int x1), (2, .int x2)], [.long (p5.1 * (1000000 / p4.1))], mk X, p5.2)
        refine Ex.pick (lv' := _) [] rfl ?_
        exact lk_X10_as_74 d _ _ h
      · refine And.intro (fun hp => absurd hp c3) (fun _ => ?_)
        show Ex mr_X10_as sc (Cl MT pr sc (d + 2)) (rtE (some (.int r)) (mk X) σ2) (55, [(5, .long p5.1), (3, .long p4.1), (0, .ref 38), (1, .int x1), (2, .int x2)], [], mk X, p5.2)
        refine Ex.blk 4 rfl ?_
        refine And.intro (nzJ_ok (b := 1000000) (by decide)) ?_
        show Ex mr_X10_as sc (Cl MT pr sc (d + 2)) (rtE (some (.int r)) (mk X) σ2) (62, [(5, .long p5.1), (3, .long p4.1), (0, .ref 38), (1, .int x1), (2, .int x2)], [.long (p4.1 / 1000000), .long p5.1], mk X, p5.2)
        refine Ex.blk 1 rfl ?_
        obtain ⟨g5, h⟩ := gd_some h
        refine And.intro (nzJ_ok g5) ?_
        show Ex mr_X10_as sc (Cl MT pr sc (d + 2)) (rtE (some (.int r)) (mk X) σ2) (63, [(5, .long p5.1), (3, .long p4.1), (0, .ref 38), (1, .int x1), (2, .int x2)], [.long (p5.1 / (p4.1 / 1000000))], mk X, p5.2)
        refine Ex.blk 1000 rfl ?_
        show Ex mr_X10_as sc (Cl MT pr sc (d + 2)) (rtE (some (.int r)) (mk X) σ2) (74, [(5, .long p5.1), (3, .long p4.1), (0, .ref 38), (1, .int x1), (2, .int x2)], [.long (p5.1 / (p4.1 / 1000000))], mk X, p5.2)
        refine Ex.pick (lv' := _) [] rfl ?_
        exact lk_X10_as_74 d _ _ h
theorem lk_X10_guess_79 {pr : Ct} {sc : Nat × (Nat → Int32)} {X : En} (d : Nat) {r : Int32} {σ2 : St} (k21 : Int32 → Int32 → Int64 → Int32 → St → Option (Int32 × St)) (hk21 : ∀ (x1 : Int32) (x2 : Int32) (x3 : Int64) (x5 : Int32) (σ : St), k21 x1 x2 x3 x5 σ = some (r, σ2) → Ex mr_X10_guess sc (Cl MT pr sc (d + 2)) (rtE (some (.int r)) (mk X) σ2) (21, [(0, .ref 38), (1, .int x1), (2, .int x2), (3, .long x3), (5, .int x5)], [], mk X, σ)) (x1 : Int32) (x2 : Int32) (x3 : Int64) (x5 : Int32) (σ : St) (h : f_X10_guess_79 k21 x1 x2 x3 x5 σ = some (r, σ2)) : Ex mr_X10_guess sc (Cl MT pr sc (d + 2)) (rtE (some (.int r)) (mk X) σ2) (79, [(0, .ref 38), (1, .int x1), (2, .int x2), (3, .long x3), (5, .int x5)], [], mk X, σ) := by
  unfold f_X10_guess_79 at h
  refine Ex.blk 1000 rfl ?_
  show Ex mr_X10_guess sc (Cl MT pr sc (d + 2)) (rtE (some (.int r)) (mk X) σ2) (21, [(5, .int (x5 + 1)), (0, .ref 38), (1, .int x1), (2, .int x2), (3, .long x3)], [], mk X, σ)
  refine Ex.pick (lv' := _) [1, 2, 3, 4, 0] rfl ?_
  exact hk21 _ _ _ _ _ h
theorem lk_X10_guess_66 {pr : Ct} {sc : Nat × (Nat → Int32)} {X : En} (d : Nat) {r : Int32} {σ2 : St} (k21 : Int32 → Int32 → Int64 → Int32 → St → Option (Int32 × St)) (hk21 : ∀ (x1 : Int32) (x2 : Int32) (x3 : Int64) (x5 : Int32) (σ : St), k21 x1 x2 x3 x5 σ = some (r, σ2) → Ex mr_X10_guess sc (Cl MT pr sc (d + 2)) (rtE (some (.int r)) (mk X) σ2) (21, [(0, .ref 38), (1, .int x1), (2, .int x2), (3, .long x3), (5, .int x5)], [], mk X, σ)) (x1 : Int32) (x2 : Int32) (x3 : Int64) (x5 : Int32) (x6 : Int64) (σ : St) (h : f_X10_guess_66 k21 x1 x2 x3 x5 x6 σ = some (r, σ2)) : Ex mr_X10_guess sc (Cl MT pr sc (d + 2)) (rtE (some (.int r)) (mk X) σ2) (66, [(0, .ref 38), (1, .int x1), (2, .int x2), (3, .long x3), (5, .int x5), (6, .long x6)], [], mk X, σ) := by
  unfold f_X10_guess_66 at h
  refine Ex.blk 1000 rfl ?_
  rcases ite_sp h with ⟨c1, h⟩ | ⟨c1, h⟩
  · refine And.intro (fun _ => ?_) (fun hn => absurd c1 hn)
    show Ex mr_X10_guess sc (Cl MT pr sc (d + 2)) (rtE (some (.int r)) (mk X) σ2) (79, [(0, .ref 38), (1, .int x1), (2, .int x2), (3, .long x3), (5, .int x5), (6, .long x6)], [], mk X, σ)
    refine Ex.pick (lv' := _) [0, 1, 2, 3, 4] rfl ?_
    exact lk_X10_guess_79 d _ hk21 _ _ _ _ _ h
  · refine And.intro (fun hp => absurd hp c1) (fun _ => ?_)
    show Ex mr_X10_guess sc (Cl MT pr sc (d + 2)) (rtE (some (.int r)) (mk X) σ2) (73, [(0, .ref 38), (1, .int x1), (2, .int x2), (3, .long x3), (5, .int x5), (6, .long x6)], [], mk X, σ)
    refine Ex.blk 1000 rfl ?_
    show Ex mr_X10_guess sc (Cl MT pr sc (d + 2)) (rtE (some (.int r)) (mk X) σ2) (79, [(3, .long x6), (2, .int x5), (0, .ref 38), (1, .int x1), (5, .int x5), (6, .long x6)], [], mk X, σ)
    refine Ex.pick (lv' := _) [2, 3, 1, 0, 4] rfl ?_
    exact lk_X10_guess_79 d _ hk21 _ _ _ _ _ h
theorem lk_X10_guess_21 {pr : Ct} {sc : Nat × (Nat → Int32)} {X : En} (d : Nat) {r : Int32} {σ2 : St} : ∀ (n : Nat) (x1 : Int32) (x2 : Int32) (x3 : Int64) (x5 : Int32) (σ : St), f_X10_guess_21 n x1 x2 x3 x5 σ = some (r, σ2) → Ex mr_X10_guess sc (Cl MT pr sc (d + 2)) (rtE (some (.int r)) (mk X) σ2) (21, [(0, .ref 38), (1, .int x1), (2, .int x2), (3, .long x3), (5, .int x5)], [], mk X, σ) := by
  intro n
  induction n with
  | zero =>
    intro x1 x2 x3 x5 σ h
    cases h
  | succ n ih =>
    intro x1 x2 x3 x5 σ h
    simp only [f_X10_guess_21] at h
    refine Ex.blk 1000 rfl ?_
    rcases ite_sp h with ⟨c1, h⟩ | ⟨c1, h⟩
    · refine And.intro (fun _ => ?_) (fun hn => absurd c1 hn)
      show Ex mr_X10_guess sc (Cl MT pr sc (d + 2)) (rtE (some (.int r)) (mk X) σ2) (85, [(0, .ref 38), (1, .int x1), (2, .int x2), (3, .long x3), (5, .int x5)], [], mk X, σ)
      refine Ex.blk 1000 rfl ?_
      cases h
      exact And.intro trivial ⟨rfl, rfl, rfl⟩
    · refine And.intro (fun hp => absurd hp c1) (fun _ => ?_)
      show Ex mr_X10_guess sc (Cl MT pr sc (d + 2)) (rtE (some (.int r)) (mk X) σ2) (30, [(0, .ref 38), (1, .int x1), (2, .int x2), (3, .long x3), (5, .int x5)], [], mk X, σ)
      refine Ex.blk 5 rfl ?_
      obtain ⟨g2, h⟩ := gd_some h
      refine And.intro (inb_ok g2) ?_
      show Ex mr_X10_guess sc (Cl MT pr sc (d + 2)) (rtE (some (.int r)) (mk X) σ2) (38, [(0, .ref 38), (1, .int x1), (2, .int x2), (3, .long x3), (5, .int x5)], [.int (gI σ 54 x5.toNatClampNeg), .ref 38], mk X, σ)
      refine Ex.blk 3 rfl ?_
      obtain ⟨p2, hp2, h⟩ := bind_sp h
      refine Exists.intro (some (.long p2.1)) (Exists.intro (mk X) (Exists.intro p2.2 (And.intro (cl_X10_heardAs (d + 0) hp2) ?_)))
      show Ex mr_X10_guess sc (Cl MT pr sc (d + 2)) (rtE (some (.int r)) (mk X) σ2) (43, [(0, .ref 38), (1, .int x1), (2, .int x2), (3, .long x3), (5, .int x5)], [.long p2.1], mk X, p2.2)
      refine Ex.blk 5 rfl ?_
      show Ex mr_X10_guess sc (Cl MT pr sc (d + 2)) (rtE (some (.int r)) (mk X) σ2) (51, [(0, .ref 38), (1, .int x1), (2, .int x2), (3, .long x3), (5, .int x5)], [.ref 54, .ref 38, .int 2, .int 18, .long p2.1], mk X, p2.2)
      refine Ex.blk 2 rfl ?_
      obtain ⟨g3, h⟩ := gd_some h
      refine And.intro (inb_ok g3) ?_
      show Ex mr_X10_guess sc (Cl MT pr sc (d + 2)) (rtE (some (.int r)) (mk X) σ2) (54, [(0, .ref 38), (1, .int x1), (2, .int x2), (3, .long x3), (5, .int x5)], [.int (gI p2.2 54 x5.toNatClampNeg), .ref 38, .int 2, .int 18, .long p2.1], mk X, p2.2)
      refine Ex.blk 2 rfl ?_
      obtain ⟨p3, hp3, h⟩ := bind_sp h
      refine Exists.intro (some (.int p3.1)) (Exists.intro (mk X) (Exists.intro p3.2 (And.intro (cl_X10_many (d + 1) hp3) ?_)))
      show Ex mr_X10_guess sc (Cl MT pr sc (d + 2)) (rtE (some (.int r)) (mk X) σ2) (58, [(0, .ref 38), (1, .int x1), (2, .int x2), (3, .long x3), (5, .int x5)], [.int p3.1, .int 2, .int 18, .long p2.1], mk X, p3.2)
      refine Ex.blk 3 rfl ?_
      obtain ⟨p4, hp4, h⟩ := bind_sp h
      refine Exists.intro (some (.long p4.1)) (Exists.intro (mk X) (Exists.intro p4.2 (And.intro (cl_X10_ten (d + 1) hp4) ?_)))
      show Ex mr_X10_guess sc (Cl MT pr sc (d + 2)) (rtE (some (.int r)) (mk X) σ2) (63, [(0, .ref 38), (1, .int x1), (2, .int x2), (3, .long x3), (5, .int x5)], [.long p4.1, .long p2.1], mk X, p4.2)
      refine Ex.blk 2 rfl ?_
      show Ex mr_X10_guess sc (Cl MT pr sc (d + 2)) (rtE (some (.int r)) (mk X) σ2) (66, [(6, .long (p2.1 * p4.1)), (0, .ref 38), (1, .int x1), (2, .int x2), (3, .long x3), (5, .int x5)], [], mk X, p4.2)
      refine Ex.pick (lv' := _) [1, 2, 3, 4, 5, 0] rfl ?_
      exact lk_X10_guess_66 d _ ih _ _ _ _ _ _ h
theorem cl_X10_guess {pr : Ct} {sc : Nat × (Nat → Int32)} {X : En} (d : Nat) {r : Int32} {σ2 : St} {x1 : Int32} {σ : St} (h : f_X10_guess x1 σ = some (r, σ2)) : Cl MT pr sc (d + 2 + 1) 232 [.ref 38, .int x1] (mk X) σ (some (.int r)) (mk X) σ2 := by
  refine cl_of mr_X10_guess rfl rfl ?_
  unfold f_X10_guess at h
  refine Ex.blk 5 rfl ?_
  obtain ⟨p1, hp1, h⟩ := bind_sp h
  refine Exists.intro (some (.int p1.1)) (Exists.intro (mk X) (Exists.intro p1.2 (And.intro (cl_X10_in (d + 1) hp1) ?_)))
  show Ex mr_X10_guess sc (Cl MT pr sc (d + 2)) (rtE (some (.int r)) (mk X) σ2) (9, [(0, .ref 38), (1, .int x1)], [.int p1.1], mk X, p1.2)
  refine Ex.blk 1000 rfl ?_
  rcases ite_sp h with ⟨c1, h⟩ | ⟨c1, h⟩
  · refine And.intro (fun hp => absurd c1 hp) (fun _ => ?_)
    show Ex mr_X10_guess sc (Cl MT pr sc (d + 2)) (rtE (some (.int r)) (mk X) σ2) (12, [(0, .ref 38), (1, .int x1)], [], mk X, p1.2)
    refine Ex.blk 1000 rfl ?_
    cases h
    exact And.intro trivial ⟨rfl, rfl, rfl⟩
  · refine And.intro (fun _ => ?_) (fun hn => absurd c1 hn)
    show Ex mr_X10_guess sc (Cl MT pr sc (d + 2)) (rtE (some (.int r)) (mk X) σ2) (14, [(0, .ref 38), (1, .int x1)], [], mk X, p1.2)
    refine Ex.blk 5 rfl ?_
    show Ex mr_X10_guess sc (Cl MT pr sc (d + 2)) (rtE (some (.int r)) (mk X) σ2) (19, [(3, .long 0), (2, .int (-1)), (0, .ref 38), (1, .int x1)], [.int 0], mk X, p1.2)
    refine Ex.blk 1000 rfl ?_
    show Ex mr_X10_guess sc (Cl MT pr sc (d + 2)) (rtE (some (.int r)) (mk X) σ2) (21, [(5, .int 0), (3, .long 0), (2, .int (-1)), (0, .ref 38), (1, .int x1)], [], mk X, p1.2)
    refine Ex.pick (lv' := _) [3, 4, 2, 1, 0] rfl ?_
    exact lk_X10_guess_21 d FU _ _ _ _ _ h
theorem lk_X10_safest_26 {pr : Ct} {sc : Nat × (Nat → Int32)} {X : En} (d : Nat) {r : Int32} {σ2 : St} (σ : St) (h : f_X10_safest_26 σ = some (r, σ2)) : Ex mr_X10_safest sc (Cl MT pr sc (d + 3)) (rtE (some (.int r)) (mk X) σ2) (26, [], [], mk X, σ) := by
  unfold f_X10_safest_26 at h
  refine Ex.blk 1000 rfl ?_
  cases h
  exact And.intro trivial ⟨rfl, rfl, rfl⟩
theorem lk_X10_safest_61 {pr : Ct} {sc : Nat × (Nat → Int32)} {X : En} (d : Nat) {r : Int32} {σ2 : St} (k33 : Int32 → Int32 → Int32 → Int32 → St → Option (Int32 × St)) (hk33 : ∀ (x1 : Int32) (x2 : Int32) (x3 : Int32) (x4 : Int32) (σ : St), k33 x1 x2 x3 x4 σ = some (r, σ2) → Ex mr_X10_safest sc (Cl MT pr sc (d + 3)) (rtE (some (.int r)) (mk X) σ2) (33, [(0, .ref 38), (1, .int x1), (2, .int x2), (3, .int x3), (4, .int x4)], [], mk X, σ)) (x1 : Int32) (x2 : Int32) (x4 : Int32) (y0 : Int32) (σ : St) (h : f_X10_safest_61 k33 x1 x2 x4 y0 σ = some (r, σ2)) : Ex mr_X10_safest sc (Cl MT pr sc (d + 3)) (rtE (some (.int r)) (mk X) σ2) (61, [(0, .ref 38), (1, .int x1), (2, .int x2), (4, .int x4)], [.int y0], mk X, σ) := by
  unfold f_X10_safest_61 at h
  refine Ex.blk 1000 rfl ?_
  show Ex mr_X10_safest sc (Cl MT pr sc (d + 3)) (rtE (some (.int r)) (mk X) σ2) (33, [(4, .int (x4 + 1)), (3, .int y0), (0, .ref 38), (1, .int x1), (2, .int x2)], [], mk X, σ)
  refine Ex.pick (lv' := _) [2, 3, 4, 1, 0] rfl ?_
  exact hk33 _ _ _ _ _ h
theorem lk_X10_safest_33 {pr : Ct} {sc : Nat × (Nat → Int32)} {X : En} (d : Nat) {r : Int32} {σ2 : St} : ∀ (n : Nat) (x1 : Int32) (x2 : Int32) (x3 : Int32) (x4 : Int32) (σ : St), f_X10_safest_33 n x1 x2 x3 x4 σ = some (r, σ2) → Ex mr_X10_safest sc (Cl MT pr sc (d + 3)) (rtE (some (.int r)) (mk X) σ2) (33, [(0, .ref 38), (1, .int x1), (2, .int x2), (3, .int x3), (4, .int x4)], [], mk X, σ) := by
  intro n
  induction n with
  | zero =>
    intro x1 x2 x3 x4 σ h
    cases h
  | succ n ih =>
    intro x1 x2 x3 x4 σ h
    simp only [f_X10_safest_33] at h
    refine Ex.blk 1000 rfl ?_
    rcases ite_sp h with ⟨c1, h⟩ | ⟨c1, h⟩
    · refine And.intro (fun _ => ?_) (fun hn => absurd c1 hn)
      show Ex mr_X10_safest sc (Cl MT pr sc (d + 3)) (rtE (some (.int r)) (mk X) σ2) (68, [(0, .ref 38), (1, .int x1), (2, .int x2), (3, .int x3), (4, .int x4)], [], mk X, σ)
      refine Ex.blk 1000 rfl ?_
      cases h
      exact And.intro trivial ⟨rfl, rfl, rfl⟩
    · refine And.intro (fun hp => absurd hp c1) (fun _ => ?_)
      show Ex mr_X10_safest sc (Cl MT pr sc (d + 3)) (rtE (some (.int r)) (mk X) σ2) (39, [(0, .ref 38), (1, .int x1), (2, .int x2), (3, .int x3), (4, .int x4)], [], mk X, σ)
      refine Ex.blk 4 rfl ?_
      obtain ⟨p3, hp3, h⟩ := bind_sp h
      refine Exists.intro (some (.int p3.1)) (Exists.intro (mk X) (Exists.intro p3.2 (And.intro (cl_X10_miss (d + 0) hp3) ?_)))
      show Ex mr_X10_safest sc (Cl MT pr sc (d + 3)) (rtE (some (.int r)) (mk X) σ2) (46, [(0, .ref 38), (1, .int x1), (2, .int x2), (3, .int x3), (4, .int x4)], [.int p3.1], mk X, p3.2)
      refine Ex.blk 4 rfl ?_
      obtain ⟨p4, hp4, h⟩ := bind_sp h
      refine Exists.intro (some (.int p4.1)) (Exists.intro (mk X) (Exists.intro p4.2 (And.intro (cl_X10_miss (d + 0) hp4) ?_)))
      show Ex mr_X10_safest sc (Cl MT pr sc (d + 3)) (rtE (some (.int r)) (mk X) σ2) (52, [(0, .ref 38), (1, .int x1), (2, .int x2), (3, .int x3), (4, .int x4)], [.int p4.1, .int p3.1], mk X, p4.2)
      refine Ex.blk 1000 rfl ?_
      rcases ite_sp h with ⟨c2, h⟩ | ⟨c2, h⟩
      · refine And.intro (fun _ => ?_) (fun hn => absurd c2 hn)
        show Ex mr_X10_safest sc (Cl MT pr sc (d + 3)) (rtE (some (.int r)) (mk X) σ2) (60, [(0, .ref 38), (1, .int x1), (2, .int x2), (3, .int x3), (4, .int x4)], [], mk X, p4.2)
        refine Ex.blk 1000 rfl ?_
        show Ex mr_X10_safest sc (Cl MT pr sc (d + 3)) (rtE (some (.int r)) (mk X) σ2) (61, [(0, .ref 38), (1, .int x1), (2, .int x2), (3, .int x3), (4, .int x4)], [.int x3], mk X, p4.2)
        refine Ex.pick (lv' := _) [0, 1, 2, 4] rfl ?_
        exact lk_X10_safest_61 d _ ih _ _ _ _ _ h
      · refine And.intro (fun hp => absurd hp c2) (fun _ => ?_)
        show Ex mr_X10_safest sc (Cl MT pr sc (d + 3)) (rtE (some (.int r)) (mk X) σ2) (55, [(0, .ref 38), (1, .int x1), (2, .int x2), (3, .int x3), (4, .int x4)], [], mk X, p4.2)
        refine Ex.blk 1000 rfl ?_
        show Ex mr_X10_safest sc (Cl MT pr sc (d + 3)) (rtE (some (.int r)) (mk X) σ2) (61, [(0, .ref 38), (1, .int x1), (2, .int x2), (3, .int x3), (4, .int x4)], [.int x4], mk X, p4.2)
        refine Ex.pick (lv' := _) [0, 1, 2, 4] rfl ?_
        exact lk_X10_safest_61 d _ ih _ _ _ _ _ h
theorem cl_X10_safest {pr : Ct} {sc : Nat × (Nat → Int32)} {X : En} (d : Nat) {r : Int32} {σ2 : St} {x1 : Int32} {x2 : Int32} {σ : St} (h : f_X10_safest x1 x2 σ = some (r, σ2)) : Cl MT pr sc (d + 3 + 1) 233 [.ref 38, .int x1, .int x2] (mk X) σ (some (.int r)) (mk X) σ2 := by
  refine cl_of mr_X10_safest rfl rfl ?_
  unfold f_X10_safest at h
  refine Ex.blk 5 rfl ?_
  obtain ⟨p1, hp1, h⟩ := bind_sp h
  refine Exists.intro (some (.int p1.1)) (Exists.intro (mk X) (Exists.intro p1.2 (And.intro (cl_X10_in (d + 2) hp1) ?_)))
  show Ex mr_X10_safest sc (Cl MT pr sc (d + 3)) (rtE (some (.int r)) (mk X) σ2) (9, [(0, .ref 38), (1, .int x1), (2, .int x2)], [.int p1.1], mk X, p1.2)
  refine Ex.blk 1000 rfl ?_
  rcases ite_sp h with ⟨c1, h⟩ | ⟨c1, h⟩
  · refine And.intro (fun _ => ?_) (fun hn => absurd c1 hn)
    show Ex mr_X10_safest sc (Cl MT pr sc (d + 3)) (rtE (some (.int r)) (mk X) σ2) (26, [(0, .ref 38), (1, .int x1), (2, .int x2)], [], mk X, p1.2)
    refine Ex.pick (lv' := _) [] rfl ?_
    exact lk_X10_safest_26 d _ h
  · refine And.intro (fun hp => absurd hp c1) (fun _ => ?_)
    show Ex mr_X10_safest sc (Cl MT pr sc (d + 3)) (rtE (some (.int r)) (mk X) σ2) (12, [(0, .ref 38), (1, .int x1), (2, .int x2)], [], mk X, p1.2)
    refine Ex.blk 5 rfl ?_
    obtain ⟨p2, hp2, h⟩ := bind_sp h
    refine Exists.intro (some (.int p2.1)) (Exists.intro (mk X) (Exists.intro p2.2 (And.intro (cl_X10_in (d + 2) hp2) ?_)))
    show Ex mr_X10_safest sc (Cl MT pr sc (d + 3)) (rtE (some (.int r)) (mk X) σ2) (23, [(0, .ref 38), (1, .int x1), (2, .int x2)], [.int p2.1], mk X, p2.2)
    refine Ex.blk 1000 rfl ?_
    rcases ite_sp h with ⟨c2, h⟩ | ⟨c2, h⟩
    · refine And.intro (fun hp => absurd c2 hp) (fun _ => ?_)
      show Ex mr_X10_safest sc (Cl MT pr sc (d + 3)) (rtE (some (.int r)) (mk X) σ2) (26, [(0, .ref 38), (1, .int x1), (2, .int x2)], [], mk X, p2.2)
      refine Ex.pick (lv' := _) [] rfl ?_
      exact lk_X10_safest_26 d _ h
    · refine And.intro (fun _ => ?_) (fun hn => absurd c2 hn)
      show Ex mr_X10_safest sc (Cl MT pr sc (d + 3)) (rtE (some (.int r)) (mk X) σ2) (28, [(0, .ref 38), (1, .int x1), (2, .int x2)], [], mk X, p2.2)
      refine Ex.blk 1000 rfl ?_
      show Ex mr_X10_safest sc (Cl MT pr sc (d + 3)) (rtE (some (.int r)) (mk X) σ2) (33, [(4, .int 3), (3, .int 2), (0, .ref 38), (1, .int x1), (2, .int x2)], [], mk X, p2.2)
      refine Ex.pick (lv' := _) [2, 3, 4, 1, 0] rfl ?_
      exact lk_X10_safest_33 d FU _ _ _ _ _ h
