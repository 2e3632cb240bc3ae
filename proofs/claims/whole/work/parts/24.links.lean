theorem lk_X9_make_20 {pr : Ct} {sc : Nat × (Nat → Int32)} {X : En} (d : Nat) {r : Int32} {σ2 : St} (σ : St) (h : f_X9_make_20 σ = some (r, σ2)) : Ex mr_X9_make sc (Cl MT pr sc (d + 1)) (rtE (some (.int r)) (mk X) σ2) (20, [], [], mk X, σ) := by
  unfold f_X9_make_20 at h
  refine Ex.blk 1000 rfl ?_
  cases h
  exact And.intro trivial ⟨rfl, rfl, rfl⟩
theorem lk_X9_make_60 {pr : Ct} {sc : Nat × (Nat → Int32)} {X : En} (d : Nat) {r : Int32} {σ2 : St} (k27 : Int32 → Int32 → Int32 → Int32 → St → Option (Int32 × St)) (hk27 : ∀ (x1 : Int32) (x2 : Int32) (x3 : Int32) (x4 : Int32) (σ : St), k27 x1 x2 x3 x4 σ = some (r, σ2) → Ex mr_X9_make sc (Cl MT pr sc (d + 1)) (rtE (some (.int r)) (mk X) σ2) (27, [(1, .int x1), (2, .int x2), (3, .int x3), (4, .int x4)], [], mk X, σ)) (x1 : Int32) (x2 : Int32) (x3 : Int32) (x4 : Int32) (σ : St) (h : f_X9_make_60 k27 x1 x2 x3 x4 σ = some (r, σ2)) : Ex mr_X9_make sc (Cl MT pr sc (d + 1)) (rtE (some (.int r)) (mk X) σ2) (60, [(1, .int x1), (2, .int x2), (3, .int x3), (4, .int x4)], [], mk X, σ) := by
  unfold f_X9_make_60 at h
  refine Ex.blk 1000 rfl ?_
  show Ex mr_X9_make sc (Cl MT pr sc (d + 1)) (rtE (some (.int r)) (mk X) σ2) (27, [(4, .int (x4 + 1)), (1, .int x1), (2, .int x2), (3, .int x3)], [], mk X, σ)
  refine Ex.pick (lv' := _) [1, 2, 3, 0] rfl ?_
  exact hk27 _ _ _ _ _ h
theorem lk_X9_make_58 {pr : Ct} {sc : Nat × (Nat → Int32)} {X : En} (d : Nat) {r : Int32} {σ2 : St} (k27 : Int32 → Int32 → Int32 → Int32 → St → Option (Int32 × St)) (hk27 : ∀ (x1 : Int32) (x2 : Int32) (x3 : Int32) (x4 : Int32) (σ : St), k27 x1 x2 x3 x4 σ = some (r, σ2) → Ex mr_X9_make sc (Cl MT pr sc (d + 1)) (rtE (some (.int r)) (mk X) σ2) (27, [(1, .int x1), (2, .int x2), (3, .int x3), (4, .int x4)], [], mk X, σ)) (x1 : Int32) (x2 : Int32) (x4 : Int32) (y0 : Int32) (y1 : Int32) (σ : St) (h : f_X9_make_58 k27 x1 x2 x4 y0 y1 σ = some (r, σ2)) : Ex mr_X9_make sc (Cl MT pr sc (d + 1)) (rtE (some (.int r)) (mk X) σ2) (58, [(1, .int x1), (2, .int x2), (4, .int x4)], [.int y0, .int y1], mk X, σ) := by
  unfold f_X9_make_58 at h
  refine Ex.blk 2 rfl ?_
  show Ex mr_X9_make sc (Cl MT pr sc (d + 1)) (rtE (some (.int r)) (mk X) σ2) (60, [(3, .int (y1 + y0)), (1, .int x1), (2, .int x2), (4, .int x4)], [], mk X, σ)
  refine Ex.pick (lv' := _) [1, 2, 0, 3] rfl ?_
  exact lk_X9_make_60 d _ hk27 _ _ _ _ _ h
theorem lk_X9_make_27 {pr : Ct} {sc : Nat × (Nat → Int32)} {X : En} (d : Nat) {r : Int32} {σ2 : St} : ∀ (n : Nat) (x1 : Int32) (x2 : Int32) (x3 : Int32) (x4 : Int32) (σ : St), f_X9_make_27 n x1 x2 x3 x4 σ = some (r, σ2) → Ex mr_X9_make sc (Cl MT pr sc (d + 1)) (rtE (some (.int r)) (mk X) σ2) (27, [(1, .int x1), (2, .int x2), (3, .int x3), (4, .int x4)], [], mk X, σ) := by
  intro n
  induction n with
  | zero =>
    intro x1 x2 x3 x4 σ h
    cases h
  | succ n ih =>
    intro x1 x2 x3 x4 σ h
    simp only [f_X9_make_27] at h
    refine Ex.blk 1000 rfl ?_
    rcases ite_sp h with ⟨c1, h⟩ | ⟨c1, h⟩
    · refine And.intro (fun _ => ?_) (fun hn => absurd c1 hn)
      show Ex mr_X9_make sc (Cl MT pr sc (d + 1)) (rtE (some (.int r)) (mk X) σ2) (66, [(1, .int x1), (2, .int x2), (3, .int x3), (4, .int x4)], [], mk X, σ)
      refine Ex.blk 1000 rfl ?_
      cases h
      exact And.intro trivial ⟨rfl, rfl, rfl⟩
    · refine And.intro (fun hp => absurd hp c1) (fun _ => ?_)
      show Ex mr_X9_make sc (Cl MT pr sc (d + 1)) (rtE (some (.int r)) (mk X) σ2) (33, [(1, .int x1), (2, .int x2), (3, .int x3), (4, .int x4)], [], mk X, σ)
      refine Ex.blk 4 rfl ?_
      obtain ⟨p1, hp1, h⟩ := bind_sp h
      refine Exists.intro (some (.int p1.1)) (Exists.intro (mk X) (Exists.intro p1.2 (And.intro (cl_X9_digitOf (d + 0) hp1) ?_)))
      show Ex mr_X9_make sc (Cl MT pr sc (d + 1)) (rtE (some (.int r)) (mk X) σ2) (40, [(1, .int x1), (2, .int x2), (3, .int x3), (4, .int x4)], [.int p1.1], mk X, p1.2)
      refine Ex.blk 1000 rfl ?_
      rcases ite_sp h with ⟨c2, h⟩ | ⟨c2, h⟩
      · refine And.intro (fun hp => absurd c2 hp) (fun _ => ?_)
        show Ex mr_X9_make sc (Cl MT pr sc (d + 1)) (rtE (some (.int r)) (mk X) σ2) (47, [(5, .int p1.1), (1, .int x1), (2, .int x2), (3, .int x3), (4, .int x4)], [.int x3], mk X, p1.2)
        refine Ex.blk 1000 rfl ?_
        show Ex mr_X9_make sc (Cl MT pr sc (d + 1)) (rtE (some (.int r)) (mk X) σ2) (58, [(5, .int p1.1), (1, .int x1), (2, .int x2), (3, .int x3), (4, .int x4)], [.int p1.1, .int x3], mk X, p1.2)
        refine Ex.pick (lv' := _) [1, 2, 4] rfl ?_
        exact lk_X9_make_58 d _ ih _ _ _ _ _ _ h
      · refine And.intro (fun _ => ?_) (fun hn => absurd c2 hn)
        show Ex mr_X9_make sc (Cl MT pr sc (d + 1)) (rtE (some (.int r)) (mk X) σ2) (52, [(5, .int p1.1), (1, .int x1), (2, .int x2), (3, .int x3), (4, .int x4)], [.int x3], mk X, p1.2)
        refine Ex.blk 1000 rfl ?_
        show Ex mr_X9_make sc (Cl MT pr sc (d + 1)) (rtE (some (.int r)) (mk X) σ2) (58, [(5, .int p1.1), (1, .int x1), (2, .int x2), (3, .int x3), (4, .int x4)], [.int (mnI p1.1 1), .int x3], mk X, p1.2)
        refine Ex.pick (lv' := _) [1, 2, 4] rfl ?_
        exact lk_X9_make_58 d _ ih _ _ _ _ _ _ h
theorem cl_X9_make {pr : Ct} {sc : Nat × (Nat → Int32)} {X : En} (d : Nat) {r : Int32} {σ2 : St} {x1 : Int32} {x2 : Int32} {σ : St} (h : f_X9_make x1 x2 σ = some (r, σ2)) : Cl MT pr sc (d + 1 + 1) 133 [.ref 0, .int x1, .int x2] (mk X) σ (some (.int r)) (mk X) σ2 := by
  refine cl_of mr_X9_make rfl rfl ?_
  unfold f_X9_make at h
  refine Ex.blk 1000 rfl ?_
  rcases ite_sp h with ⟨c1, h⟩ | ⟨c1, h⟩
  · refine And.intro (fun _ => ?_) (fun hn => absurd c1 hn)
    show Ex mr_X9_make sc (Cl MT pr sc (d + 1)) (rtE (some (.int r)) (mk X) σ2) (20, [(0, .ref 0), (1, .int x1), (2, .int x2)], [], mk X, σ)
    refine Ex.pick (lv' := _) [] rfl ?_
    exact lk_X9_make_20 d _ h
  · refine And.intro (fun hp => absurd hp c1) (fun _ => ?_)
    show Ex mr_X9_make sc (Cl MT pr sc (d + 1)) (rtE (some (.int r)) (mk X) σ2) (4, [(0, .ref 0), (1, .int x1), (2, .int x2)], [], mk X, σ)
    refine Ex.blk 1000 rfl ?_
    rcases ite_sp h with ⟨c2, h⟩ | ⟨c2, h⟩
    · refine And.intro (fun _ => ?_) (fun hn => absurd c2 hn)
      show Ex mr_X9_make sc (Cl MT pr sc (d + 1)) (rtE (some (.int r)) (mk X) σ2) (20, [(0, .ref 0), (1, .int x1), (2, .int x2)], [], mk X, σ)
      refine Ex.pick (lv' := _) [] rfl ?_
      exact lk_X9_make_20 d _ h
    · refine And.intro (fun hp => absurd hp c2) (fun _ => ?_)
      show Ex mr_X9_make sc (Cl MT pr sc (d + 1)) (rtE (some (.int r)) (mk X) σ2) (11, [(0, .ref 0), (1, .int x1), (2, .int x2)], [], mk X, σ)
      refine Ex.blk 1000 rfl ?_
      rcases ite_sp h with ⟨c3, h⟩ | ⟨c3, h⟩
      · refine And.intro (fun _ => ?_) (fun hn => absurd c3 hn)
        show Ex mr_X9_make sc (Cl MT pr sc (d + 1)) (rtE (some (.int r)) (mk X) σ2) (20, [(0, .ref 0), (1, .int x1), (2, .int x2)], [], mk X, σ)
        refine Ex.pick (lv' := _) [] rfl ?_
        exact lk_X9_make_20 d _ h
      · refine And.intro (fun hp => absurd hp c3) (fun _ => ?_)
        show Ex mr_X9_make sc (Cl MT pr sc (d + 1)) (rtE (some (.int r)) (mk X) σ2) (15, [(0, .ref 0), (1, .int x1), (2, .int x2)], [], mk X, σ)
        refine Ex.blk 1000 rfl ?_
        rcases ite_sp h with ⟨c4, h⟩ | ⟨c4, h⟩
        · refine And.intro (fun _ => ?_) (fun hn => absurd c4 hn)
          show Ex mr_X9_make sc (Cl MT pr sc (d + 1)) (rtE (some (.int r)) (mk X) σ2) (22, [(0, .ref 0), (1, .int x1), (2, .int x2)], [], mk X, σ)
          refine Ex.blk 1000 rfl ?_
          show Ex mr_X9_make sc (Cl MT pr sc (d + 1)) (rtE (some (.int r)) (mk X) σ2) (27, [(4, .int 0), (3, .int 0), (0, .ref 0), (1, .int x1), (2, .int x2)], [], mk X, σ)
          refine Ex.pick (lv' := _) [3, 4, 1, 0] rfl ?_
          exact lk_X9_make_27 d FU _ _ _ _ _ h
        · refine And.intro (fun hp => absurd hp c4) (fun _ => ?_)
          show Ex mr_X9_make sc (Cl MT pr sc (d + 1)) (rtE (some (.int r)) (mk X) σ2) (20, [(0, .ref 0), (1, .int x1), (2, .int x2)], [], mk X, σ)
          refine Ex.pick (lv' := _) [] rfl ?_
          exact lk_X9_make_20 d _ h
theorem lk_X7_beginAs_5_1_53 {pr : Ct} {sc : Nat × (Nat → Int32)} {X : En} (d : Nat) {σ2 : St} (σ : St) (h : f_X7_beginAs_53 5 1 σ = some σ2) : Ex mr_X7_beginAs sc (Cl MT pr sc (d + 1)) (rtE none (mk X) σ2) (53, [(0, .ref 5)], [], mk X, σ) := by
  unfold f_X7_beginAs_53 at h
  refine Ex.blk 2 rfl ?_
  obtain ⟨p1, hp1, h⟩ := bind_sp h
  refine Exists.intro none (Exists.intro (mk X) (Exists.intro p1 (And.intro (cl_X7_startCounts_5 (d + 0) hp1) ?_)))
  show Ex mr_X7_beginAs sc (Cl MT pr sc (d + 1)) (rtE none (mk X) σ2) (57, [(0, .ref 5)], [], mk X, p1)
  refine Ex.blk 1000 rfl ?_
  cases h
  exact And.intro trivial ⟨rfl, rfl, rfl⟩
theorem lk_X7_beginAs_5_1_38 {pr : Ct} {sc : Nat × (Nat → Int32)} {X : En} (d : Nat) {σ2 : St} (σ : St) (h : f_X7_beginAs_38 5 1 σ = some σ2) : Ex mr_X7_beginAs sc (Cl MT pr sc (d + 1)) (rtE none (mk X) σ2) (38, [(0, .ref 5), (1, .ref 1)], [], mk X, σ) := by
  unfold f_X7_beginAs_38 at h
  refine Ex.blk 5 rfl ?_
  show Ex mr_X7_beginAs sc (Cl MT pr sc (d + 1)) (rtE none (mk X) σ2) (47, [(0, .ref 5), (1, .ref 1)], [.ref 8, .int 0, .ref 2], mk X, σ)
  refine Ex.blk 3 rfl ?_
  refine And.intro (cp_ok 12) ?_
  show Ex mr_X7_beginAs sc (Cl MT pr sc (d + 1)) (rtE none (mk X) σ2) (53, [(0, .ref 5), (1, .ref 1)], [], mk X, (cpI σ 2 (0 : Int32).toNatClampNeg 8 (0 : Int32).toNatClampNeg (12 : Int32).toNatClampNeg))
  refine Ex.pick (lv' := _) [0] rfl ?_
  exact lk_X7_beginAs_5_1_53 d _ h
theorem lk_X7_beginAs_5_1_23 {pr : Ct} {sc : Nat × (Nat → Int32)} {X : En} (d : Nat) {σ2 : St} (σ : St) (h : f_X7_beginAs_23 5 1 σ = some σ2) : Ex mr_X7_beginAs sc (Cl MT pr sc (d + 1)) (rtE none (mk X) σ2) (23, [(0, .ref 5), (1, .ref 1)], [], mk X, σ) := by
  unfold f_X7_beginAs_23 at h
  refine Ex.blk 5 rfl ?_
  show Ex mr_X7_beginAs sc (Cl MT pr sc (d + 1)) (rtE none (mk X) σ2) (32, [(0, .ref 5), (1, .ref 1)], [.ref 7, .int 0, .ref 3], mk X, σ)
  refine Ex.blk 3 rfl ?_
  refine And.intro (cp_ok 12) ?_
  show Ex mr_X7_beginAs sc (Cl MT pr sc (d + 1)) (rtE none (mk X) σ2) (38, [(0, .ref 5), (1, .ref 1)], [], mk X, (cpI σ 3 (0 : Int32).toNatClampNeg 7 (0 : Int32).toNatClampNeg (12 : Int32).toNatClampNeg))
  exact lk_X7_beginAs_5_1_38 d _ h
theorem cl_X7_beginAs_5_1 {pr : Ct} {sc : Nat × (Nat → Int32)} {X : En} (d : Nat) {σ2 : St} {σ : St} (h : f_X7_beginAs 5 1 σ = some σ2) : Cl MT pr sc (d + 1 + 1) 66 [.ref 5, .ref 1] (mk X) σ none (mk X) σ2 := by
  refine cl_of mr_X7_beginAs rfl rfl ?_
  unfold f_X7_beginAs at h
  refine Ex.blk 5 rfl ?_
  show Ex mr_X7_beginAs sc (Cl MT pr sc (d + 1)) (rtE none (mk X) σ2) (9, [(0, .ref 5), (1, .ref 1)], [.ref 1], mk X, (sI σ 5 0 (gI σ 1 0)))
  refine Ex.blk 5 rfl ?_
  show Ex mr_X7_beginAs sc (Cl MT pr sc (d + 1)) (rtE none (mk X) σ2) (18, [(0, .ref 5), (1, .ref 1)], [.int 0, .ref 6, .int 0, .ref 2], mk X, (sI σ 5 0 (gI σ 1 0)))
  refine Ex.blk 2 rfl ?_
  refine And.intro (cp_ok 12) ?_
  show Ex mr_X7_beginAs sc (Cl MT pr sc (d + 1)) (rtE none (mk X) σ2) (23, [(0, .ref 5), (1, .ref 1)], [], mk X, (cpI (sI σ 5 0 (gI σ 1 0)) 2 (0 : Int32).toNatClampNeg 6 (0 : Int32).toNatClampNeg (12 : Int32).toNatClampNeg))
  exact lk_X7_beginAs_5_1_23 d _ h
theorem cl_X9_walksByOrder {pr : Ct} {sc : Nat × (Nat → Int32)} {X : En} (d : Nat) {r : Int32} {σ2 : St} {x1 : Int32} {x2 : Int32} {σ : St} (h : f_X9_walksByOrder x1 x2 σ = some (r, σ2)) : Cl MT pr sc (d + 3 + 1) 138 [.ref 0, .int x1, .int x2] (mk X) σ (some (.int r)) (mk X) σ2 := by
  refine cl_of mr_X9_walksByOrder rfl rfl ?_
  unfold f_X9_walksByOrder at h
  refine Ex.blk 5 rfl ?_
  obtain ⟨p1, hp1, h⟩ := bind_sp h
  refine Exists.intro none (Exists.intro (mk X) (Exists.intro p1 (And.intro (cl_X7_beginAs_5_1 (d + 1) hp1) ?_)))
  show Ex mr_X9_walksByOrder sc (Cl MT pr sc (d + 3)) (rtE (some (.int r)) (mk X) σ2) (11, [(0, .ref 0), (1, .int x1), (2, .int x2)], [], mk X, p1)
  refine Ex.blk 5 rfl ?_
  show Ex mr_X9_walksByOrder sc (Cl MT pr sc (d + 3)) (rtE (some (.int r)) (mk X) σ2) (18, [(0, .ref 0), (1, .int x1), (2, .int x2)], [.int x2, .int 0, .int x1, .ref 5], mk X, p1)
  refine Ex.blk 2 rfl ?_
  obtain ⟨p2, hp2, h⟩ := bind_sp h
  refine Exists.intro none (Exists.intro (mk X) (Exists.intro p2 (And.intro (cl_X7_bring_n_5 (d + 0) hp2) ?_)))
  show Ex mr_X9_walksByOrder sc (Cl MT pr sc (d + 3)) (rtE (some (.int r)) (mk X) σ2) (22, [(0, .ref 0), (1, .int x1), (2, .int x2)], [], mk X, p2)
  refine Ex.blk 1000 rfl ?_
  cases h
  exact And.intro trivial ⟨rfl, rfl, rfl⟩
theorem lk_X9_cheaper_29 {pr : Ct} {sc : Nat × (Nat → Int32)} {X : En} (d : Nat) {r : Int32} {σ2 : St} (y0 : Int32) (σ : St) (h : f_X9_cheaper_29 y0 σ = some (r, σ2)) : Ex mr_X9_cheaper sc (Cl MT pr sc (d + 4)) (rtE (some (.int r)) (mk X) σ2) (29, [], [.int y0], mk X, σ) := by
  unfold f_X9_cheaper_29 at h
  refine Ex.blk 1000 rfl ?_
  cases h
  exact And.intro trivial ⟨rfl, rfl, rfl⟩
theorem cl_X9_cheaper {pr : Ct} {sc : Nat × (Nat → Int32)} {X : En} (d : Nat) {r : Int32} {σ2 : St} {x1 : Int32} {σ : St} (h : f_X9_cheaper x1 σ = some (r, σ2)) : Cl MT pr sc (d + 4 + 1) 139 [.ref 0, .int x1] (mk X) σ (some (.int r)) (mk X) σ2 := by
  refine cl_of mr_X9_cheaper rfl rfl ?_
  unfold f_X9_cheaper at h
  refine Ex.blk 2 rfl ?_
  obtain ⟨p1, hp1, h⟩ := bind_sp h
  refine Exists.intro (some (.int p1.1)) (Exists.intro (mk X) (Exists.intro p1.2 (And.intro (cl_X9_isNumber (d + 3) hp1) ?_)))
  show Ex mr_X9_cheaper sc (Cl MT pr sc (d + 4)) (rtE (some (.int r)) (mk X) σ2) (4, [(0, .ref 0), (1, .int x1)], [.int p1.1], mk X, p1.2)
  refine Ex.blk 1000 rfl ?_
  rcases ite_sp h with ⟨c1, h⟩ | ⟨c1, h⟩
  · refine And.intro (fun hp => absurd c1 hp) (fun _ => ?_)
    show Ex mr_X9_cheaper sc (Cl MT pr sc (d + 4)) (rtE (some (.int r)) (mk X) σ2) (7, [(0, .ref 0), (1, .int x1)], [], mk X, p1.2)
    refine Ex.blk 1000 rfl ?_
    cases h
    exact And.intro trivial ⟨rfl, rfl, rfl⟩
  · refine And.intro (fun _ => ?_) (fun hn => absurd c1 hn)
    show Ex mr_X9_cheaper sc (Cl MT pr sc (d + 4)) (rtE (some (.int r)) (mk X) σ2) (9, [(0, .ref 0), (1, .int x1)], [], mk X, p1.2)
    refine Ex.blk 4 rfl ?_
    obtain ⟨p2, hp2, h⟩ := bind_sp h
    refine Exists.intro (some (.int p2.1)) (Exists.intro (mk X) (Exists.intro p2.2 (And.intro (cl_X9_walksByOrder (d + 0) hp2) ?_)))
    show Ex mr_X9_cheaper sc (Cl MT pr sc (d + 4)) (rtE (some (.int r)) (mk X) σ2) (15, [(0, .ref 0), (1, .int x1)], [.int p2.1], mk X, p2.2)
    refine Ex.blk 4 rfl ?_
    obtain ⟨p3, hp3, h⟩ := bind_sp h
    refine Exists.intro (some (.int p3.1)) (Exists.intro (mk X) (Exists.intro p3.2 (And.intro (cl_X9_walksByOrder (d + 0) hp3) ?_)))
    show Ex mr_X9_cheaper sc (Cl MT pr sc (d + 4)) (rtE (some (.int r)) (mk X) σ2) (21, [(0, .ref 0), (1, .int x1)], [.int p3.1, .int p2.1], mk X, p3.2)
    refine Ex.blk 1000 rfl ?_
    rcases ite_sp h with ⟨c2, h⟩ | ⟨c2, h⟩
    · refine And.intro (fun _ => ?_) (fun hn => absurd c2 hn)
      show Ex mr_X9_cheaper sc (Cl MT pr sc (d + 4)) (rtE (some (.int r)) (mk X) σ2) (28, [(0, .ref 0), (1, .int x1)], [], mk X, p3.2)
      refine Ex.blk 1000 rfl ?_
      show Ex mr_X9_cheaper sc (Cl MT pr sc (d + 4)) (rtE (some (.int r)) (mk X) σ2) (29, [(0, .ref 0), (1, .int x1)], [.int 0], mk X, p3.2)
      refine Ex.pick (lv' := _) [] rfl ?_
      exact lk_X9_cheaper_29 d _ _ h
    · refine And.intro (fun hp => absurd hp c2) (fun _ => ?_)
      show Ex mr_X9_cheaper sc (Cl MT pr sc (d + 4)) (rtE (some (.int r)) (mk X) σ2) (24, [(0, .ref 0), (1, .int x1)], [], mk X, p3.2)
      refine Ex.blk 1000 rfl ?_
      show Ex mr_X9_cheaper sc (Cl MT pr sc (d + 4)) (rtE (some (.int r)) (mk X) σ2) (29, [(0, .ref 0), (1, .int x1)], [.int 1], mk X, p3.2)
      refine Ex.pick (lv' := _) [] rfl ?_
      exact lk_X9_cheaper_29 d _ _ h
theorem lk_X9_kids_17 {pr : Ct} {sc : Nat × (Nat → Int32)} {X : En} (d : Nat) {r : Int32} {σ2 : St} (σ : St) (h : f_X9_kids_17 σ = some (r, σ2)) : Ex mr_X9_kids sc (Cl MT pr sc (d + 1)) (rtE (some (.int r)) (mk X) σ2) (17, [], [], mk X, σ) := by
  unfold f_X9_kids_17 at h
  refine Ex.blk 1000 rfl ?_
  cases h
  exact And.intro trivial ⟨rfl, rfl, rfl⟩
theorem lk_X9_kids_114 {pr : Ct} {sc : Nat × (Nat → Int32)} {X : En} (d : Nat) {r : Int32} {σ2 : St} (k66 : Int32 → Int32 → Int32 → St → Option (Int32 × St)) (hk66 : ∀ (x1 : Int32) (x2 : Int32) (x3 : Int32) (σ : St), k66 x1 x2 x3 σ = some (r, σ2) → Ex mr_X9_kids sc (Cl MT pr sc (d + 1)) (rtE (some (.int r)) (mk X) σ2) (66, [(0, .ref 0), (1, .int x1), (2, .int x2), (3, .int x3)], [], mk X, σ)) (x1 : Int32) (x2 : Int32) (x3 : Int32) (σ : St) (h : f_X9_kids_114 k66 x1 x2 x3 σ = some (r, σ2)) : Ex mr_X9_kids sc (Cl MT pr sc (d + 1)) (rtE (some (.int r)) (mk X) σ2) (114, [(0, .ref 0), (1, .int x1), (2, .int x2), (3, .int x3)], [], mk X, σ) := by
  unfold f_X9_kids_114 at h
  refine Ex.blk 1000 rfl ?_
  show Ex mr_X9_kids sc (Cl MT pr sc (d + 1)) (rtE (some (.int r)) (mk X) σ2) (66, [(3, .int (x3 + 1)), (0, .ref 0), (1, .int x1), (2, .int x2)], [], mk X, σ)
  refine Ex.pick (lv' := _) [1, 2, 3, 0] rfl ?_
  exact hk66 _ _ _ _ h
theorem lk_X9_kids_100 {pr : Ct} {sc : Nat × (Nat → Int32)} {X : En} (d : Nat) {r : Int32} {σ2 : St} (k66 : Int32 → Int32 → Int32 → St → Option (Int32 × St)) (hk66 : ∀ (x1 : Int32) (x2 : Int32) (x3 : Int32) (σ : St), k66 x1 x2 x3 σ = some (r, σ2) → Ex mr_X9_kids sc (Cl MT pr sc (d + 1)) (rtE (some (.int r)) (mk X) σ2) (66, [(0, .ref 0), (1, .int x1), (2, .int x2), (3, .int x3)], [], mk X, σ)) (x1 : Int32) (x2 : Int32) (x3 : Int32) (y0 : Int32) (y1 : Int32) (y2 : Int32) (σ : St) (h : f_X9_kids_100 k66 x1 x2 x3 y0 y1 y2 σ = some (r, σ2)) : Ex mr_X9_kids sc (Cl MT pr sc (d + 1)) (rtE (some (.int r)) (mk X) σ2) (100, [(0, .ref 0), (1, .int x1), (2, .int x2), (3, .int x3)], [.int y0, .int y1, .int y2, .ref 3], mk X, σ) := by
  unfold f_X9_kids_100 at h
  refine Ex.blk 2 rfl ?_
  obtain ⟨g1, h⟩ := gd_some h
  refine And.intro (inb_ok g1) ?_
  show Ex mr_X9_kids sc (Cl MT pr sc (d + 1)) (rtE (some (.int r)) (mk X) σ2) (102, [(0, .ref 0), (1, .int x1), (2, .int x2), (3, .int x3)], [], mk X, (sI σ 3 y2.toNatClampNeg (y1 + y0)))
  refine Ex.blk 5 rfl ?_
  show Ex mr_X9_kids sc (Cl MT pr sc (d + 1)) (rtE (some (.int r)) (mk X) σ2) (111, [(0, .ref 0), (1, .int x1), (2, .int x2), (3, .int x3)], [.int x3, .ref 3, .int x2], mk X, (sI σ 3 y2.toNatClampNeg (y1 + y0)))
  refine Ex.blk 1 rfl ?_
  obtain ⟨g2, h⟩ := gd_some h
  refine And.intro (inb_ok g2) ?_
  show Ex mr_X9_kids sc (Cl MT pr sc (d + 1)) (rtE (some (.int r)) (mk X) σ2) (112, [(0, .ref 0), (1, .int x1), (2, .int x2), (3, .int x3)], [.int (gI (sI σ 3 y2.toNatClampNeg (y1 + y0)) 3 x3.toNatClampNeg), .int x2], mk X, (sI σ 3 y2.toNatClampNeg (y1 + y0)))
  refine Ex.blk 2 rfl ?_
  show Ex mr_X9_kids sc (Cl MT pr sc (d + 1)) (rtE (some (.int r)) (mk X) σ2) (114, [(2, .int (x2 + (gI (sI σ 3 y2.toNatClampNeg (y1 + y0)) 3 x3.toNatClampNeg))), (0, .ref 0), (1, .int x1), (3, .int x3)], [], mk X, (sI σ 3 y2.toNatClampNeg (y1 + y0)))
  refine Ex.pick (lv' := _) [1, 2, 0, 3] rfl ?_
  exact lk_X9_kids_114 d _ hk66 _ _ _ _ h
theorem lk_X9_kids_66 {pr : Ct} {sc : Nat × (Nat → Int32)} {X : En} (d : Nat) {r : Int32} {σ2 : St} : ∀ (n : Nat) (x1 : Int32) (x2 : Int32) (x3 : Int32) (σ : St), f_X9_kids_66 n x1 x2 x3 σ = some (r, σ2) → Ex mr_X9_kids sc (Cl MT pr sc (d + 1)) (rtE (some (.int r)) (mk X) σ2) (66, [(0, .ref 0), (1, .int x1), (2, .int x2), (3, .int x3)], [], mk X, σ) := by
  intro n
  induction n with
  | zero =>
    intro x1 x2 x3 σ h
    cases h
  | succ n ih =>
    intro x1 x2 x3 σ h
    simp only [f_X9_kids_66] at h
    refine Ex.blk 1000 rfl ?_
    rcases ite_sp h with ⟨c1, h⟩ | ⟨c1, h⟩
    · refine And.intro (fun _ => ?_) (fun hn => absurd c1 hn)
      show Ex mr_X9_kids sc (Cl MT pr sc (d + 1)) (rtE (some (.int r)) (mk X) σ2) (120, [(0, .ref 0), (1, .int x1), (2, .int x2), (3, .int x3)], [], mk X, σ)
      refine Ex.blk 1000 rfl ?_
      cases h
      exact And.intro trivial ⟨rfl, rfl, rfl⟩
    · refine And.intro (fun hp => absurd hp c1) (fun _ => ?_)
      show Ex mr_X9_kids sc (Cl MT pr sc (d + 1)) (rtE (some (.int r)) (mk X) σ2) (77, [(0, .ref 0), (1, .int x1), (2, .int x2), (3, .int x3)], [], mk X, σ)
      refine Ex.blk 5 rfl ?_
      show Ex mr_X9_kids sc (Cl MT pr sc (d + 1)) (rtE (some (.int r)) (mk X) σ2) (86, [(0, .ref 0), (1, .int x1), (2, .int x2), (3, .int x3)], [.int x3, .ref 3, .int x3, .ref 3], mk X, σ)
      refine Ex.blk 1 rfl ?_
      obtain ⟨g2, h⟩ := gd_some h
      refine And.intro (inb_ok g2) ?_
      show Ex mr_X9_kids sc (Cl MT pr sc (d + 1)) (rtE (some (.int r)) (mk X) σ2) (87, [(0, .ref 0), (1, .int x1), (2, .int x2), (3, .int x3)], [.int (gI σ 3 x3.toNatClampNeg), .int x3, .ref 3], mk X, σ)
      refine Ex.blk 3 rfl ?_
      obtain ⟨p1, hp1, h⟩ := bind_sp h
      refine Exists.intro (some (.int p1.1)) (Exists.intro (mk X) (Exists.intro p1.2 (And.intro (cl_X9_hasBit (d + 0) hp1) ?_)))
      show Ex mr_X9_kids sc (Cl MT pr sc (d + 1)) (rtE (some (.int r)) (mk X) σ2) (92, [(0, .ref 0), (1, .int x1), (2, .int x2), (3, .int x3)], [.int p1.1, .int (gI σ 3 x3.toNatClampNeg), .int x3, .ref 3], mk X, p1.2)
      refine Ex.blk 1000 rfl ?_
      rcases ite_sp h with ⟨c3, h⟩ | ⟨c3, h⟩
      · refine And.intro (fun _ => ?_) (fun hn => absurd c3 hn)
        show Ex mr_X9_kids sc (Cl MT pr sc (d + 1)) (rtE (some (.int r)) (mk X) σ2) (99, [(0, .ref 0), (1, .int x1), (2, .int x2), (3, .int x3)], [.int (gI σ 3 x3.toNatClampNeg), .int x3, .ref 3], mk X, p1.2)
        refine Ex.blk 1000 rfl ?_
        show Ex mr_X9_kids sc (Cl MT pr sc (d + 1)) (rtE (some (.int r)) (mk X) σ2) (100, [(0, .ref 0), (1, .int x1), (2, .int x2), (3, .int x3)], [.int 0, .int (gI σ 3 x3.toNatClampNeg), .int x3, .ref 3], mk X, p1.2)
        exact lk_X9_kids_100 d _ ih _ _ _ _ _ _ _ h
      · refine And.intro (fun hp => absurd hp c3) (fun _ => ?_)
        show Ex mr_X9_kids sc (Cl MT pr sc (d + 1)) (rtE (some (.int r)) (mk X) σ2) (95, [(0, .ref 0), (1, .int x1), (2, .int x2), (3, .int x3)], [.int (gI σ 3 x3.toNatClampNeg), .int x3, .ref 3], mk X, p1.2)
        refine Ex.blk 1000 rfl ?_
        show Ex mr_X9_kids sc (Cl MT pr sc (d + 1)) (rtE (some (.int r)) (mk X) σ2) (100, [(0, .ref 0), (1, .int x1), (2, .int x2), (3, .int x3)], [.int 1, .int (gI σ 3 x3.toNatClampNeg), .int x3, .ref 3], mk X, p1.2)
        exact lk_X9_kids_100 d _ ih _ _ _ _ _ _ _ h
theorem lk_X9_kids_56 {pr : Ct} {sc : Nat × (Nat → Int32)} {X : En} (d : Nat) {r : Int32} {σ2 : St} (k21 : Int32 → Int32 → St → Option (Int32 × St)) (hk21 : ∀ (x1 : Int32) (x2 : Int32) (σ : St), k21 x1 x2 σ = some (r, σ2) → Ex mr_X9_kids sc (Cl MT pr sc (d + 1)) (rtE (some (.int r)) (mk X) σ2) (21, [(0, .ref 0), (1, .int x1), (2, .int x2)], [], mk X, σ)) (x1 : Int32) (x2 : Int32) (σ : St) (h : f_X9_kids_56 k21 x1 x2 σ = some (r, σ2)) : Ex mr_X9_kids sc (Cl MT pr sc (d + 1)) (rtE (some (.int r)) (mk X) σ2) (56, [(0, .ref 0), (1, .int x1), (2, .int x2)], [], mk X, σ) := by
  unfold f_X9_kids_56 at h
  refine Ex.blk 1000 rfl ?_
  show Ex mr_X9_kids sc (Cl MT pr sc (d + 1)) (rtE (some (.int r)) (mk X) σ2) (21, [(2, .int (x2 + 1)), (0, .ref 0), (1, .int x1)], [], mk X, σ)
  refine Ex.pick (lv' := _) [1, 2, 0] rfl ?_
  exact hk21 _ _ _ h
theorem lk_X9_kids_21 {pr : Ct} {sc : Nat × (Nat → Int32)} {X : En} (d : Nat) {r : Int32} {σ2 : St} : ∀ (n : Nat) (x1 : Int32) (x2 : Int32) (σ : St), f_X9_kids_21 n x1 x2 σ = some (r, σ2) → Ex mr_X9_kids sc (Cl MT pr sc (d + 1)) (rtE (some (.int r)) (mk X) σ2) (21, [(0, .ref 0), (1, .int x1), (2, .int x2)], [], mk X, σ) := by
  intro n
  induction n with
  | zero =>
    intro x1 x2 σ h
    cases h
  | succ n ih =>
    intro x1 x2 σ h
    simp only [f_X9_kids_21] at h
    refine Ex.blk 1000 rfl ?_
    rcases ite_sp h with ⟨c1, h⟩ | ⟨c1, h⟩
    · refine And.intro (fun _ => ?_) (fun hn => absurd c1 hn)
      show Ex mr_X9_kids sc (Cl MT pr sc (d + 1)) (rtE (some (.int r)) (mk X) σ2) (62, [(0, .ref 0), (1, .int x1), (2, .int x2)], [], mk X, σ)
      refine Ex.blk 1000 rfl ?_
      show Ex mr_X9_kids sc (Cl MT pr sc (d + 1)) (rtE (some (.int r)) (mk X) σ2) (66, [(3, .int 0), (2, .int 0), (0, .ref 0), (1, .int x1)], [], mk X, σ)
      refine Ex.pick (lv' := _) [2, 3, 1, 0] rfl ?_
      exact lk_X9_kids_66 d FU _ _ _ _ h
    · refine And.intro (fun hp => absurd hp c1) (fun _ => ?_)
      show Ex mr_X9_kids sc (Cl MT pr sc (d + 1)) (rtE (some (.int r)) (mk X) σ2) (32, [(0, .ref 0), (1, .int x1), (2, .int x2)], [], mk X, σ)
      refine Ex.blk 3 rfl ?_
      obtain ⟨p2, hp2, h⟩ := bind_sp h
      refine Exists.intro (some (.int p2.1)) (Exists.intro (mk X) (Exists.intro p2.2 (And.intro (cl_X9_hasBit (d + 0) hp2) ?_)))
      show Ex mr_X9_kids sc (Cl MT pr sc (d + 1)) (rtE (some (.int r)) (mk X) σ2) (37, [(0, .ref 0), (1, .int x1), (2, .int x2)], [.int p2.1], mk X, p2.2)
      refine Ex.blk 1000 rfl ?_
      rcases ite_sp h with ⟨c2, h⟩ | ⟨c2, h⟩
      · refine And.intro (fun _ => ?_) (fun hn => absurd c2 hn)
        show Ex mr_X9_kids sc (Cl MT pr sc (d + 1)) (rtE (some (.int r)) (mk X) σ2) (56, [(0, .ref 0), (1, .int x1), (2, .int x2)], [], mk X, p2.2)
        exact lk_X9_kids_56 d _ ih _ _ _ h
      · refine And.intro (fun hp => absurd hp c2) (fun _ => ?_)
        show Ex mr_X9_kids sc (Cl MT pr sc (d + 1)) (rtE (some (.int r)) (mk X) σ2) (40, [(0, .ref 0), (1, .int x1), (2, .int x2)], [], mk X, p2.2)
        refine Ex.blk 5 rfl ?_
        obtain ⟨g3, h⟩ := gd_some h
        refine And.intro (inb_ok g3) ?_
        show Ex mr_X9_kids sc (Cl MT pr sc (d + 1)) (rtE (some (.int r)) (mk X) σ2) (49, [(0, .ref 0), (1, .int x1), (2, .int x2)], [.int (gI p2.2 3 x2.toNatClampNeg)], mk X, p2.2)
        refine Ex.blk 1000 rfl ?_
        rcases ite_sp h with ⟨c4, h⟩ | ⟨c4, h⟩
        · refine And.intro (fun _ => ?_) (fun hn => absurd c4 hn)
          show Ex mr_X9_kids sc (Cl MT pr sc (d + 1)) (rtE (some (.int r)) (mk X) σ2) (56, [(0, .ref 0), (1, .int x1), (2, .int x2)], [], mk X, p2.2)
          exact lk_X9_kids_56 d _ ih _ _ _ h
        · refine And.intro (fun hp => absurd hp c4) (fun _ => ?_)
          show Ex mr_X9_kids sc (Cl MT pr sc (d + 1)) (rtE (some (.int r)) (mk X) σ2) (54, [(0, .ref 0), (1, .int x1), (2, .int x2)], [], mk X, p2.2)
          refine Ex.blk 1000 rfl ?_
          cases h
          exact And.intro trivial ⟨rfl, rfl, rfl⟩
theorem cl_X9_kids {pr : Ct} {sc : Nat × (Nat → Int32)} {X : En} (d : Nat) {r : Int32} {σ2 : St} {x1 : Int32} {σ : St} (h : f_X9_kids x1 σ = some (r, σ2)) : Cl MT pr sc (d + 1 + 1) 140 [.ref 0, .int x1] (mk X) σ (some (.int r)) (mk X) σ2 := by
  refine cl_of mr_X9_kids rfl rfl ?_
  unfold f_X9_kids at h
  refine Ex.blk 1000 rfl ?_
  rcases ite_sp h with ⟨c1, h⟩ | ⟨c1, h⟩
  · refine And.intro (fun _ => ?_) (fun hn => absurd c1 hn)
    show Ex mr_X9_kids sc (Cl MT pr sc (d + 1)) (rtE (some (.int r)) (mk X) σ2) (17, [(0, .ref 0), (1, .int x1)], [], mk X, σ)
    refine Ex.pick (lv' := _) [] rfl ?_
    exact lk_X9_kids_17 d _ h
  · refine And.intro (fun hp => absurd hp c1) (fun _ => ?_)
    show Ex mr_X9_kids sc (Cl MT pr sc (d + 1)) (rtE (some (.int r)) (mk X) σ2) (4, [(0, .ref 0), (1, .int x1)], [], mk X, σ)
    refine Ex.blk 5 rfl ?_
    show Ex mr_X9_kids sc (Cl MT pr sc (d + 1)) (rtE (some (.int r)) (mk X) σ2) (13, [(0, .ref 0), (1, .int x1)], [.int (gI σ 1 0), .int 1, .int x1], mk X, σ)
    refine Ex.blk 1000 rfl ?_
    rcases ite_sp h with ⟨c2, h⟩ | ⟨c2, h⟩
    · refine And.intro (fun _ => ?_) (fun hn => absurd c2 hn)
      show Ex mr_X9_kids sc (Cl MT pr sc (d + 1)) (rtE (some (.int r)) (mk X) σ2) (19, [(0, .ref 0), (1, .int x1)], [], mk X, σ)
      refine Ex.blk 1000 rfl ?_
      show Ex mr_X9_kids sc (Cl MT pr sc (d + 1)) (rtE (some (.int r)) (mk X) σ2) (21, [(2, .int 0), (0, .ref 0), (1, .int x1)], [], mk X, σ)
      refine Ex.pick (lv' := _) [1, 2, 0] rfl ?_
      exact lk_X9_kids_21 d FU _ _ _ h
    · refine And.intro (fun hp => absurd hp c2) (fun _ => ?_)
      show Ex mr_X9_kids sc (Cl MT pr sc (d + 1)) (rtE (some (.int r)) (mk X) σ2) (17, [(0, .ref 0), (1, .int x1)], [], mk X, σ)
      refine Ex.pick (lv' := _) [] rfl ?_
      exact lk_X9_kids_17 d _ h
theorem lk_X9_isPack_16 {pr : Ct} {sc : Nat × (Nat → Int32)} {X : En} (d : Nat) {r : Int32} {σ2 : St} (y0 : Int32) (σ : St) (h : f_X9_isPack_16 y0 σ = some (r, σ2)) : Ex mr_X9_isPack sc (Cl MT pr sc (d + 0)) (rtE (some (.int r)) (mk X) σ2) (16, [], [.int y0], mk X, σ) := by
  unfold f_X9_isPack_16 at h
  refine Ex.blk 1000 rfl ?_
  obtain ⟨g1, h⟩ := gd_some h
  cases h
  exact And.intro (isbb_ok g1) ⟨rfl, rfl, rfl⟩
theorem lk_X9_isPack_15 {pr : Ct} {sc : Nat × (Nat → Int32)} {X : En} (d : Nat) {r : Int32} {σ2 : St} (σ : St) (h : f_X9_isPack_15 σ = some (r, σ2)) : Ex mr_X9_isPack sc (Cl MT pr sc (d + 0)) (rtE (some (.int r)) (mk X) σ2) (15, [], [], mk X, σ) := by
  unfold f_X9_isPack_15 at h
  refine Ex.blk 1000 rfl ?_
  show Ex mr_X9_isPack sc (Cl MT pr sc (d + 0)) (rtE (some (.int r)) (mk X) σ2) (16, [], [.int 0], mk X, σ)
  exact lk_X9_isPack_16 d _ _ h
theorem cl_X9_isPack {pr : Ct} {sc : Nat × (Nat → Int32)} {X : En} (d : Nat) {r : Int32} {σ2 : St} {x0 : Int32} {σ : St} (h : f_X9_isPack x0 σ = some (r, σ2)) : Cl MT pr sc (d + 0 + 1) 141 [.int x0] (mk X) σ (some (.int r)) (mk X) σ2 := by
  refine cl_of mr_X9_isPack rfl rfl ?_
  unfold f_X9_isPack at h
  refine Ex.blk 1000 rfl ?_
  rcases ite_sp h with ⟨c1, h⟩ | ⟨c1, h⟩
  · refine And.intro (fun _ => ?_) (fun hn => absurd c1 hn)
    show Ex mr_X9_isPack sc (Cl MT pr sc (d + 0)) (rtE (some (.int r)) (mk X) σ2) (15, [(0, .int x0)], [], mk X, σ)
    refine Ex.pick (lv' := _) [] rfl ?_
    exact lk_X9_isPack_15 d _ h
  · refine And.intro (fun hp => absurd hp c1) (fun _ => ?_)
    show Ex mr_X9_isPack sc (Cl MT pr sc (d + 0)) (rtE (some (.int r)) (mk X) σ2) (5, [(0, .int x0)], [], mk X, σ)
    refine Ex.blk 1000 rfl ?_
    rcases ite_sp h with ⟨c2, h⟩ | ⟨c2, h⟩
    · refine And.intro (fun _ => ?_) (fun hn => absurd c2 hn)
      show Ex mr_X9_isPack sc (Cl MT pr sc (d + 0)) (rtE (some (.int r)) (mk X) σ2) (15, [(0, .int x0)], [], mk X, σ)
      refine Ex.pick (lv' := _) [] rfl ?_
      exact lk_X9_isPack_15 d _ h
    · refine And.intro (fun hp => absurd hp c2) (fun _ => ?_)
      show Ex mr_X9_isPack sc (Cl MT pr sc (d + 0)) (rtE (some (.int r)) (mk X) σ2) (11, [(0, .int x0)], [], mk X, σ)
      refine Ex.blk 1000 rfl ?_
      show Ex mr_X9_isPack sc (Cl MT pr sc (d + 0)) (rtE (some (.int r)) (mk X) σ2) (16, [(0, .int x0)], [.int 1], mk X, σ)
      refine Ex.pick (lv' := _) [] rfl ?_
      exact lk_X9_isPack_16 d _ _ h
theorem lk_X0_setOut_1_151 {pr : Ct} {sc : Nat × (Nat → Int32)} {X : En} (d : Nat) {σ2 : St} (k49 : Int32 → Int32 → Int32 → St → Option (St)) (hk49 : ∀ (x2 : Int32) (x4 : Int32) (x5 : Int32) (σ : St), k49 x2 x4 x5 σ = some σ2 → Ex mr_X0_setOut sc (Cl MT pr sc (d + 2)) (rtE none (mk X) σ2) (49, [(0, .ref 27), (1, .ref 1), (2, .int x2), (4, .int x4), (5, .int x5)], [], mk X, σ)) (x2 : Int32) (x4 : Int32) (x5 : Int32) (σ : St) (h : f_X0_setOut_151 1 k49 x2 x4 x5 σ = some σ2) : Ex mr_X0_setOut sc (Cl MT pr sc (d + 2)) (rtE none (mk X) σ2) (151, [(0, .ref 27), (1, .ref 1), (2, .int x2), (4, .int x4), (5, .int x5)], [], mk X, σ) := by
  unfold f_X0_setOut_151 at h
  refine Ex.blk 1000 rfl ?_
  show Ex mr_X0_setOut sc (Cl MT pr sc (d + 2)) (rtE none (mk X) σ2) (49, [(5, .int (x5 + 1)), (0, .ref 27), (1, .ref 1), (2, .int x2), (4, .int x4)], [], mk X, σ)
  refine Ex.pick (lv' := _) [1, 2, 3, 4, 0] rfl ?_
  exact hk49 _ _ _ _ h
theorem lk_X0_setOut_1_127 {pr : Ct} {sc : Nat × (Nat → Int32)} {X : En} (d : Nat) {σ2 : St} (k49 : Int32 → Int32 → Int32 → St → Option (St)) (hk49 : ∀ (x2 : Int32) (x4 : Int32) (x5 : Int32) (σ : St), k49 x2 x4 x5 σ = some σ2 → Ex mr_X0_setOut sc (Cl MT pr sc (d + 2)) (rtE none (mk X) σ2) (49, [(0, .ref 27), (1, .ref 1), (2, .int x2), (4, .int x4), (5, .int x5)], [], mk X, σ)) (x2 : Int32) (x4 : Int32) (x5 : Int32) (σ : St) (h : f_X0_setOut_127 1 k49 x2 x4 x5 σ = some σ2) : Ex mr_X0_setOut sc (Cl MT pr sc (d + 2)) (rtE none (mk X) σ2) (127, [(0, .ref 27), (1, .ref 1), (2, .int x2), (4, .int x4), (5, .int x5)], [], mk X, σ) := by
  unfold f_X0_setOut_127 at h
  refine Ex.blk 5 rfl ?_
  obtain ⟨g1, h⟩ := gd_some h
  refine And.intro ⟨inb_ok g1, isb_0⟩ ?_
  show Ex mr_X0_setOut sc (Cl MT pr sc (d + 2)) (rtE none (mk X) σ2) (135, [(0, .ref 27), (1, .ref 1), (2, .int x2), (4, .int x4), (5, .int x5)], [], mk X, (sI σ 35 x5.toNatClampNeg 0))
  refine Ex.blk 5 rfl ?_
  obtain ⟨g2, h⟩ := gd_some h
  refine And.intro ⟨inb_ok g2, isb_0⟩ ?_
  show Ex mr_X0_setOut sc (Cl MT pr sc (d + 2)) (rtE none (mk X) σ2) (143, [(0, .ref 27), (1, .ref 1), (2, .int x2), (4, .int x4), (5, .int x5)], [], mk X, (sI (sI σ 35 x5.toNatClampNeg 0) 36 x5.toNatClampNeg 0))
  refine Ex.blk 5 rfl ?_
  obtain ⟨g3, h⟩ := gd_some h
  refine And.intro (inb_ok g3) ?_
  show Ex mr_X0_setOut sc (Cl MT pr sc (d + 2)) (rtE none (mk X) σ2) (151, [(0, .ref 27), (1, .ref 1), (2, .int x2), (4, .int x4), (5, .int x5)], [], mk X, (sI (sI (sI σ 35 x5.toNatClampNeg 0) 36 x5.toNatClampNeg 0) 37 x5.toNatClampNeg (-1)))
  exact lk_X0_setOut_1_151 d _ hk49 _ _ _ _ h
theorem lk_X0_setOut_1_110 {pr : Ct} {sc : Nat × (Nat → Int32)} {X : En} (d : Nat) {σ2 : St} (k49 : Int32 → Int32 → Int32 → St → Option (St)) (hk49 : ∀ (x2 : Int32) (x4 : Int32) (x5 : Int32) (σ : St), k49 x2 x4 x5 σ = some σ2 → Ex mr_X0_setOut sc (Cl MT pr sc (d + 2)) (rtE none (mk X) σ2) (49, [(0, .ref 27), (1, .ref 1), (2, .int x2), (4, .int x4), (5, .int x5)], [], mk X, σ)) (x2 : Int32) (x4 : Int32) (x5 : Int32) (y0 : Int32) (y1 : Int32) (σ : St) (h : f_X0_setOut_110 1 k49 x2 x4 x5 y0 y1 σ = some σ2) : Ex mr_X0_setOut sc (Cl MT pr sc (d + 2)) (rtE none (mk X) σ2) (110, [(0, .ref 27), (1, .ref 1), (2, .int x2), (4, .int x4), (5, .int x5)], [.int y0, .int y1, .ref 30], mk X, σ) := by
  unfold f_X0_setOut_110 at h
  refine Ex.blk 1 rfl ?_
  obtain ⟨g1, h⟩ := gd_some h
  refine And.intro (inb_ok g1) ?_
  show Ex mr_X0_setOut sc (Cl MT pr sc (d + 2)) (rtE none (mk X) σ2) (111, [(0, .ref 27), (1, .ref 1), (2, .int x2), (4, .int x4), (5, .int x5)], [], mk X, (sI σ 30 y1.toNatClampNeg y0))
  refine Ex.blk 5 rfl ?_
  obtain ⟨g2, h⟩ := gd_some h
  refine And.intro (inb_ok g2) ?_
  show Ex mr_X0_setOut sc (Cl MT pr sc (d + 2)) (rtE none (mk X) σ2) (119, [(0, .ref 27), (1, .ref 1), (2, .int x2), (4, .int x4), (5, .int x5)], [], mk X, (sI (sI σ 30 y1.toNatClampNeg y0) 31 x5.toNatClampNeg 0))
  refine Ex.blk 5 rfl ?_
  obtain ⟨g3, h⟩ := gd_some h
  refine And.intro ⟨inb_ok g3, isb_0⟩ ?_
  show Ex mr_X0_setOut sc (Cl MT pr sc (d + 2)) (rtE none (mk X) σ2) (127, [(0, .ref 27), (1, .ref 1), (2, .int x2), (4, .int x4), (5, .int x5)], [], mk X, (sI (sI (sI σ 30 y1.toNatClampNeg y0) 31 x5.toNatClampNeg 0) 32 x5.toNatClampNeg 0))
  exact lk_X0_setOut_1_127 d _ hk49 _ _ _ _ h
theorem lk_X0_setOut_1_86 {pr : Ct} {sc : Nat × (Nat → Int32)} {X : En} (d : Nat) {σ2 : St} (k49 : Int32 → Int32 → Int32 → St → Option (St)) (hk49 : ∀ (x2 : Int32) (x4 : Int32) (x5 : Int32) (σ : St), k49 x2 x4 x5 σ = some σ2 → Ex mr_X0_setOut sc (Cl MT pr sc (d + 2)) (rtE none (mk X) σ2) (49, [(0, .ref 27), (1, .ref 1), (2, .int x2), (4, .int x4), (5, .int x5)], [], mk X, σ)) (x2 : Int32) (x4 : Int32) (x5 : Int32) (σ : St) (h : f_X0_setOut_86 1 k49 x2 x4 x5 σ = some σ2) : Ex mr_X0_setOut sc (Cl MT pr sc (d + 2)) (rtE none (mk X) σ2) (86, [(0, .ref 27), (1, .ref 1), (2, .int x2), (4, .int x4), (5, .int x5)], [], mk X, σ) := by
  unfold f_X0_setOut_86 at h
  refine Ex.blk 5 rfl ?_
  show Ex mr_X0_setOut sc (Cl MT pr sc (d + 2)) (rtE none (mk X) σ2) (96, [(0, .ref 27), (1, .ref 1), (2, .int x2), (4, .int x4), (5, .int x5)], [.int x4, .int x5, .int x5, .ref 30], mk X, σ)
  refine Ex.blk 1000 rfl ?_
  rcases ite_sp h with ⟨c1, h⟩ | ⟨c1, h⟩
  · refine And.intro (fun _ => ?_) (fun hn => absurd c1 hn)
    show Ex mr_X0_setOut sc (Cl MT pr sc (d + 2)) (rtE none (mk X) σ2) (109, [(0, .ref 27), (1, .ref 1), (2, .int x2), (4, .int x4), (5, .int x5)], [.int x5, .ref 30], mk X, σ)
    refine Ex.blk 1000 rfl ?_
    show Ex mr_X0_setOut sc (Cl MT pr sc (d + 2)) (rtE none (mk X) σ2) (110, [(0, .ref 27), (1, .ref 1), (2, .int x2), (4, .int x4), (5, .int x5)], [.int (-1), .int x5, .ref 30], mk X, σ)
    exact lk_X0_setOut_1_110 d _ hk49 _ _ _ _ _ _ h
  · refine And.intro (fun hp => absurd hp c1) (fun _ => ?_)
    show Ex mr_X0_setOut sc (Cl MT pr sc (d + 2)) (rtE none (mk X) σ2) (99, [(0, .ref 27), (1, .ref 1), (2, .int x2), (4, .int x4), (5, .int x5)], [.int x5, .ref 30], mk X, σ)
    refine Ex.blk 4 rfl ?_
    obtain ⟨p2, hp2, h⟩ := bind_sp h
    refine Exists.intro (some (.int p2.1)) (Exists.intro (mk X) (Exists.intro p2.2 (And.intro (cl_X9_digitOf (d + 1) hp2) ?_)))
    show Ex mr_X0_setOut sc (Cl MT pr sc (d + 2)) (rtE none (mk X) σ2) (106, [(0, .ref 27), (1, .ref 1), (2, .int x2), (4, .int x4), (5, .int x5)], [.int p2.1, .int x5, .ref 30], mk X, p2.2)
    refine Ex.blk 1000 rfl ?_
    show Ex mr_X0_setOut sc (Cl MT pr sc (d + 2)) (rtE none (mk X) σ2) (110, [(0, .ref 27), (1, .ref 1), (2, .int x2), (4, .int x4), (5, .int x5)], [.int p2.1, .int x5, .ref 30], mk X, p2.2)
    exact lk_X0_setOut_1_110 d _ hk49 _ _ _ _ _ _ h
theorem lk_X0_setOut_1_49 {pr : Ct} {sc : Nat × (Nat → Int32)} {X : En} (d : Nat) {σ2 : St} : ∀ (n : Nat) (x2 : Int32) (x4 : Int32) (x5 : Int32) (σ : St), f_X0_setOut_49 1 n x2 x4 x5 σ = some σ2 → Ex mr_X0_setOut sc (Cl MT pr sc (d + 2)) (rtE none (mk X) σ2) (49, [(0, .ref 27), (1, .ref 1), (2, .int x2), (4, .int x4), (5, .int x5)], [], mk X, σ) := by
  intro n
  induction n with
  | zero =>
    intro x2 x4 x5 σ h
    cases h
  | succ n ih =>
    intro x2 x4 x5 σ h
    simp only [f_X0_setOut_49] at h
    refine Ex.blk 1000 rfl ?_
    rcases ite_sp h with ⟨c1, h⟩ | ⟨c1, h⟩
    · refine And.intro (fun _ => ?_) (fun hn => absurd c1 hn)
      show Ex mr_X0_setOut sc (Cl MT pr sc (d + 2)) (rtE none (mk X) σ2) (157, [(0, .ref 27), (1, .ref 1), (2, .int x2), (4, .int x4), (5, .int x5)], [], mk X, σ)
      refine Ex.blk 1000 rfl ?_
      cases h
      exact And.intro trivial ⟨rfl, rfl, rfl⟩
    · refine And.intro (fun hp => absurd hp c1) (fun _ => ?_)
      show Ex mr_X0_setOut sc (Cl MT pr sc (d + 2)) (rtE none (mk X) σ2) (58, [(0, .ref 27), (1, .ref 1), (2, .int x2), (4, .int x4), (5, .int x5)], [], mk X, σ)
      refine Ex.blk 5 rfl ?_
      show Ex mr_X0_setOut sc (Cl MT pr sc (d + 2)) (rtE none (mk X) σ2) (68, [(0, .ref 27), (1, .ref 1), (2, .int x2), (4, .int x4), (5, .int x5)], [.ref 2, .int x5, .ref 28], mk X, σ)
      refine Ex.blk 2 rfl ?_
      obtain ⟨g2, h⟩ := gd_some h
      refine And.intro (inb_ok g2) ?_
      show Ex mr_X0_setOut sc (Cl MT pr sc (d + 2)) (rtE none (mk X) σ2) (71, [(0, .ref 27), (1, .ref 1), (2, .int x2), (4, .int x4), (5, .int x5)], [.int (gI σ 2 x5.toNatClampNeg), .int x5, .ref 28], mk X, σ)
      refine Ex.blk 1 rfl ?_
      obtain ⟨g3, h⟩ := gd_some h
      refine And.intro (inb_ok g3) ?_
      show Ex mr_X0_setOut sc (Cl MT pr sc (d + 2)) (rtE none (mk X) σ2) (72, [(0, .ref 27), (1, .ref 1), (2, .int x2), (4, .int x4), (5, .int x5)], [], mk X, (sI σ 28 x5.toNatClampNeg (gI σ 2 x5.toNatClampNeg)))
      refine Ex.blk 5 rfl ?_
      show Ex mr_X0_setOut sc (Cl MT pr sc (d + 2)) (rtE none (mk X) σ2) (82, [(0, .ref 27), (1, .ref 1), (2, .int x2), (4, .int x4), (5, .int x5)], [.ref 3, .int x5, .ref 29], mk X, (sI σ 28 x5.toNatClampNeg (gI σ 2 x5.toNatClampNeg)))
      refine Ex.blk 2 rfl ?_
      obtain ⟨g4, h⟩ := gd_some h
      refine And.intro (inb_ok g4) ?_
      show Ex mr_X0_setOut sc (Cl MT pr sc (d + 2)) (rtE none (mk X) σ2) (85, [(0, .ref 27), (1, .ref 1), (2, .int x2), (4, .int x4), (5, .int x5)], [.int (gI (sI σ 28 x5.toNatClampNeg (gI σ 2 x5.toNatClampNeg)) 3 x5.toNatClampNeg), .int x5, .ref 29], mk X, (sI σ 28 x5.toNatClampNeg (gI σ 2 x5.toNatClampNeg)))
      refine Ex.blk 1 rfl ?_
      obtain ⟨g5, h⟩ := gd_some h
      refine And.intro (inb_ok g5) ?_
      show Ex mr_X0_setOut sc (Cl MT pr sc (d + 2)) (rtE none (mk X) σ2) (86, [(0, .ref 27), (1, .ref 1), (2, .int x2), (4, .int x4), (5, .int x5)], [], mk X, (sI (sI σ 28 x5.toNatClampNeg (gI σ 2 x5.toNatClampNeg)) 29 x5.toNatClampNeg (gI (sI σ 28 x5.toNatClampNeg (gI σ 2 x5.toNatClampNeg)) 3 x5.toNatClampNeg)))
      exact lk_X0_setOut_1_86 d _ ih _ _ _ _ h
theorem lk_X0_setOut_1_43 {pr : Ct} {sc : Nat × (Nat → Int32)} {X : En} (d : Nat) {σ2 : St} (x2 : Int32) (x4 : Int32) (y0 : Int32) (σ : St) (h : f_X0_setOut_43 1 x2 x4 y0 σ = some σ2) : Ex mr_X0_setOut sc (Cl MT pr sc (d + 2)) (rtE none (mk X) σ2) (43, [(0, .ref 27), (1, .ref 1), (2, .int x2), (4, .int x4)], [.int y0, .ref 27], mk X, σ) := by
  unfold f_X0_setOut_43 at h
  refine Ex.blk 1000 rfl ?_
  show Ex mr_X0_setOut sc (Cl MT pr sc (d + 2)) (rtE none (mk X) σ2) (49, [(5, .int 0), (0, .ref 27), (1, .ref 1), (2, .int x2), (4, .int x4)], [], mk X, (sI σ 27 12 y0))
  refine Ex.pick (lv' := _) [1, 2, 3, 4, 0] rfl ?_
  exact lk_X0_setOut_1_49 d FU _ _ _ _ h
theorem cl_X0_setOut_1 {pr : Ct} {sc : Nat × (Nat → Int32)} {X : En} (d : Nat) {σ2 : St} {x2 : Int32} {x3 : Int32} {σ : St} (h : f_X0_setOut 1 x2 x3 σ = some σ2) : Cl MT pr sc (d + 2 + 1) 4 [.ref 27, .ref 1, .int x2, .int x3] (mk X) σ none (mk X) σ2 := by
  refine cl_of mr_X0_setOut rfl rfl ?_
  unfold f_X0_setOut at h
  refine Ex.blk 5 rfl ?_
  show Ex mr_X0_setOut sc (Cl MT pr sc (d + 2)) (rtE none (mk X) σ2) (10, [(0, .ref 27), (1, .ref 1), (2, .int x2), (3, .int x3)], [.int (mnI (gI σ 1 0) 12), .ref 27], mk X, σ)
  refine Ex.blk 5 rfl ?_
  show Ex mr_X0_setOut sc (Cl MT pr sc (d + 2)) (rtE none (mk X) σ2) (19, [(0, .ref 27), (1, .ref 1), (2, .int x2), (3, .int x3)], [.ref 1], mk X, (sI (sI σ 27 10 (mnI (gI σ 1 0) 12)) 27 11 x3))
  refine Ex.blk 2 rfl ?_
  obtain ⟨p1, hp1, h⟩ := bind_sp h
  refine Exists.intro (some (.int p1.1)) (Exists.intro (mk X) (Exists.intro p1.2 (And.intro (cl_X7_topRope_1 (d + 0) hp1) ?_)))
  show Ex mr_X0_setOut sc (Cl MT pr sc (d + 2)) (rtE none (mk X) σ2) (23, [(0, .ref 27), (1, .ref 1), (2, .int x2), (3, .int x3)], [.int p1.1], mk X, p1.2)
  refine Ex.blk 1000 rfl ?_
  rcases ite_sp h with ⟨c1, h⟩ | ⟨c1, h⟩
  · refine And.intro (fun hp => absurd c1 hp) (fun _ => ?_)
    show Ex mr_X0_setOut sc (Cl MT pr sc (d + 2)) (rtE none (mk X) σ2) (32, [(4, .int p1.1), (0, .ref 27), (1, .ref 1), (2, .int x2), (3, .int x3)], [.ref 27], mk X, p1.2)
    refine Ex.blk 1000 rfl ?_
    show Ex mr_X0_setOut sc (Cl MT pr sc (d + 2)) (rtE none (mk X) σ2) (43, [(4, .int p1.1), (0, .ref 27), (1, .ref 1), (2, .int x2), (3, .int x3)], [.int 0, .ref 27], mk X, p1.2)
    refine Ex.pick (lv' := _) [1, 2, 3, 0] rfl ?_
    exact lk_X0_setOut_1_43 d _ _ _ _ h
  · refine And.intro (fun _ => ?_) (fun hn => absurd c1 hn)
    show Ex mr_X0_setOut sc (Cl MT pr sc (d + 2)) (rtE none (mk X) σ2) (36, [(4, .int p1.1), (0, .ref 27), (1, .ref 1), (2, .int x2), (3, .int x3)], [.ref 27], mk X, p1.2)
    refine Ex.blk 1000 rfl ?_
    show Ex mr_X0_setOut sc (Cl MT pr sc (d + 2)) (rtE none (mk X) σ2) (43, [(4, .int p1.1), (0, .ref 27), (1, .ref 1), (2, .int x2), (3, .int x3)], [.int ((gI p1.2 27 11) * p1.1), .ref 27], mk X, p1.2)
    refine Ex.pick (lv' := _) [1, 2, 3, 0] rfl ?_
    exact lk_X0_setOut_1_43 d _ _ _ _ h
theorem cl_X9_restByRank {pr : Ct} {sc : Nat × (Nat → Int32)} {X : En} (d : Nat) {r : Int32} {σ2 : St} {x1 : Int32} {x2 : Int32} {x3 : Int32} {σ : St} (h : f_X9_restByRank x1 x2 x3 σ = some (r, σ2)) : Cl MT pr sc (d + 4 + 1) 142 [.ref 0, .int x1, .int x2, .int x3] (mk X) σ (some (.int r)) (mk X) σ2 := by
  refine cl_of mr_X9_restByRank rfl rfl ?_
  unfold f_X9_restByRank at h
  refine Ex.blk 5 rfl ?_
  show Ex mr_X9_restByRank sc (Cl MT pr sc (d + 4)) (rtE (some (.int r)) (mk X) σ2) (9, [(0, .ref 0), (1, .int x1), (2, .int x2), (3, .int x3)], [.int x1, .ref 1, .ref 27], mk X, σ)
  refine Ex.blk 3 rfl ?_
  obtain ⟨p1, hp1, h⟩ := bind_sp h
  refine Exists.intro none (Exists.intro (mk X) (Exists.intro p1 (And.intro (cl_X0_setOut_1 (d + 1) hp1) ?_)))
  show Ex mr_X9_restByRank sc (Cl MT pr sc (d + 4)) (rtE (some (.int r)) (mk X) σ2) (16, [(0, .ref 0), (1, .int x1), (2, .int x2), (3, .int x3)], [], mk X, p1)
  refine Ex.blk 5 rfl ?_
  show Ex mr_X9_restByRank sc (Cl MT pr sc (d + 4)) (rtE (some (.int r)) (mk X) σ2) (23, [(0, .ref 0), (1, .int x1), (2, .int x2), (3, .int x3)], [.ref 0, .int x3, .int x2, .ref 27], mk X, p1)
  refine Ex.blk 4 rfl ?_
  obtain ⟨p2, hp2, h⟩ := bind_sp h
  refine Exists.intro (some (.int p2.1)) (Exists.intro (mk X) (Exists.intro p2.2 (And.intro (cl_X0_minuteOfRest (d + 0) hp2) ?_)))
  show Ex mr_X9_restByRank sc (Cl MT pr sc (d + 4)) (rtE (some (.int r)) (mk X) σ2) (33, [(0, .ref 0), (1, .int x1), (2, .int x2), (3, .int x3)], [.int p2.1], mk X, p2.2)
  refine Ex.blk 1000 rfl ?_
  cases h
  exact And.intro trivial ⟨rfl, rfl, rfl⟩
theorem lk_X9_relay_23 {pr : Ct} {sc : Nat × (Nat → Int32)} {X : En} (d : Nat) {r : Int32} {σ2 : St} (σ : St) (h : f_X9_relay_23 σ = some (r, σ2)) : Ex mr_X9_relay sc (Cl MT pr sc (d + 5)) (rtE (some (.int r)) (mk X) σ2) (23, [], [], mk X, σ) := by
  unfold f_X9_relay_23 at h
  refine Ex.blk 1000 rfl ?_
  cases h
  exact And.intro trivial ⟨rfl, rfl, rfl⟩
theorem cl_X9_relay {pr : Ct} {sc : Nat × (Nat → Int32)} {X : En} (d : Nat) {r : Int32} {σ2 : St} {x1 : Int32} {x2 : Int32} {x3 : Int32} {σ : St} (h : f_X9_relay x1 x2 x3 σ = some (r, σ2)) : Cl MT pr sc (d + 5 + 1) 143 [.ref 0, .int x1, .int x2, .int x3] (mk X) σ (some (.int r)) (mk X) σ2 := by
  refine cl_of mr_X9_relay rfl rfl ?_
  unfold f_X9_relay at h
  refine Ex.blk 2 rfl ?_
  obtain ⟨p1, hp1, h⟩ := bind_sp h
  refine Exists.intro (some (.int p1.1)) (Exists.intro (mk X) (Exists.intro p1.2 (And.intro (cl_X9_isNumber (d + 4) hp1) ?_)))
  show Ex mr_X9_relay sc (Cl MT pr sc (d + 5)) (rtE (some (.int r)) (mk X) σ2) (4, [(0, .ref 0), (1, .int x1), (2, .int x2), (3, .int x3)], [.int p1.1], mk X, p1.2)
  refine Ex.blk 1000 rfl ?_
  rcases ite_sp h with ⟨c1, h⟩ | ⟨c1, h⟩
  · refine And.intro (fun _ => ?_) (fun hn => absurd c1 hn)
    show Ex mr_X9_relay sc (Cl MT pr sc (d + 5)) (rtE (some (.int r)) (mk X) σ2) (23, [(0, .ref 0), (1, .int x1), (2, .int x2), (3, .int x3)], [], mk X, p1.2)
    refine Ex.pick (lv' := _) [] rfl ?_
    exact lk_X9_relay_23 d _ h
  · refine And.intro (fun hp => absurd hp c1) (fun _ => ?_)
    show Ex mr_X9_relay sc (Cl MT pr sc (d + 5)) (rtE (some (.int r)) (mk X) σ2) (7, [(0, .ref 0), (1, .int x1), (2, .int x2), (3, .int x3)], [], mk X, p1.2)
    refine Ex.blk 2 rfl ?_
    obtain ⟨p2, hp2, h⟩ := bind_sp h
    refine Exists.intro (some (.int p2.1)) (Exists.intro (mk X) (Exists.intro p2.2 (And.intro (cl_X9_isPack (d + 4) hp2) ?_)))
    show Ex mr_X9_relay sc (Cl MT pr sc (d + 5)) (rtE (some (.int r)) (mk X) σ2) (11, [(0, .ref 0), (1, .int x1), (2, .int x2), (3, .int x3)], [.int p2.1], mk X, p2.2)
    refine Ex.blk 1000 rfl ?_
    rcases ite_sp h with ⟨c2, h⟩ | ⟨c2, h⟩
    · refine And.intro (fun _ => ?_) (fun hn => absurd c2 hn)
      show Ex mr_X9_relay sc (Cl MT pr sc (d + 5)) (rtE (some (.int r)) (mk X) σ2) (23, [(0, .ref 0), (1, .int x1), (2, .int x2), (3, .int x3)], [], mk X, p2.2)
      refine Ex.pick (lv' := _) [] rfl ?_
      exact lk_X9_relay_23 d _ h
    · refine And.intro (fun hp => absurd hp c2) (fun _ => ?_)
      show Ex mr_X9_relay sc (Cl MT pr sc (d + 5)) (rtE (some (.int r)) (mk X) σ2) (14, [(0, .ref 0), (1, .int x1), (2, .int x2), (3, .int x3)], [], mk X, p2.2)
      refine Ex.blk 1000 rfl ?_
      rcases ite_sp h with ⟨c3, h⟩ | ⟨c3, h⟩
      · refine And.intro (fun _ => ?_) (fun hn => absurd c3 hn)
        show Ex mr_X9_relay sc (Cl MT pr sc (d + 5)) (rtE (some (.int r)) (mk X) σ2) (23, [(0, .ref 0), (1, .int x1), (2, .int x2), (3, .int x3)], [], mk X, p2.2)
        refine Ex.pick (lv' := _) [] rfl ?_
        exact lk_X9_relay_23 d _ h
      · refine And.intro (fun hp => absurd hp c3) (fun _ => ?_)
        show Ex mr_X9_relay sc (Cl MT pr sc (d + 5)) (rtE (some (.int r)) (mk X) σ2) (18, [(0, .ref 0), (1, .int x1), (2, .int x2), (3, .int x3)], [], mk X, p2.2)
        refine Ex.blk 1000 rfl ?_
        rcases ite_sp h with ⟨c4, h⟩ | ⟨c4, h⟩
        · refine And.intro (fun _ => ?_) (fun hn => absurd c4 hn)
          show Ex mr_X9_relay sc (Cl MT pr sc (d + 5)) (rtE (some (.int r)) (mk X) σ2) (25, [(0, .ref 0), (1, .int x1), (2, .int x2), (3, .int x3)], [], mk X, p2.2)
          refine Ex.blk 5 rfl ?_
          obtain ⟨p3, hp3, h⟩ := bind_sp h
          refine Exists.intro (some (.int p3.1)) (Exists.intro (mk X) (Exists.intro p3.2 (And.intro (cl_X9_restByRank (d + 0) hp3) ?_)))
          show Ex mr_X9_relay sc (Cl MT pr sc (d + 5)) (rtE (some (.int r)) (mk X) σ2) (32, [(0, .ref 0), (1, .int x1), (2, .int x2), (3, .int x3)], [.int p3.1], mk X, p3.2)
          refine Ex.blk 1000 rfl ?_
          cases h
          exact And.intro trivial ⟨rfl, rfl, rfl⟩
        · refine And.intro (fun hp => absurd hp c4) (fun _ => ?_)
          show Ex mr_X9_relay sc (Cl MT pr sc (d + 5)) (rtE (some (.int r)) (mk X) σ2) (23, [(0, .ref 0), (1, .int x1), (2, .int x2), (3, .int x3)], [], mk X, p2.2)
          refine Ex.pick (lv' := _) [] rfl ?_
          exact lk_X9_relay_23 d _ h
theorem lk_X9_ranked_14 {pr : Ct} {sc : Nat × (Nat → Int32)} {X : En} (d : Nat) {r : Int32} {σ2 : St} (σ : St) (h : f_X9_ranked_14 σ = some (r, σ2)) : Ex mr_X9_ranked sc (Cl MT pr sc (d + 5)) (rtE (some (.int r)) (mk X) σ2) (14, [], [], mk X, σ) := by
  unfold f_X9_ranked_14 at h
  refine Ex.blk 1000 rfl ?_
  cases h
  exact And.intro trivial ⟨rfl, rfl, rfl⟩
theorem lk_X9_ranked_38 {pr : Ct} {sc : Nat × (Nat → Int32)} {X : En} (d : Nat) {r : Int32} {σ2 : St} (y0 : Int32) (σ : St) (h : f_X9_ranked_38 y0 σ = some (r, σ2)) : Ex mr_X9_ranked sc (Cl MT pr sc (d + 5)) (rtE (some (.int r)) (mk X) σ2) (38, [], [.int y0], mk X, σ) := by
  unfold f_X9_ranked_38 at h
  refine Ex.blk 1000 rfl ?_
  cases h
  exact And.intro trivial ⟨rfl, rfl, rfl⟩
theorem cl_X9_ranked {pr : Ct} {sc : Nat × (Nat → Int32)} {X : En} (d : Nat) {r : Int32} {σ2 : St} {x1 : Int32} {x2 : Int32} {σ : St} (h : f_X9_ranked x1 x2 σ = some (r, σ2)) : Cl MT pr sc (d + 5 + 1) 144 [.ref 0, .int x1, .int x2] (mk X) σ (some (.int r)) (mk X) σ2 := by
  refine cl_of mr_X9_ranked rfl rfl ?_
  unfold f_X9_ranked at h
  refine Ex.blk 2 rfl ?_
  obtain ⟨p1, hp1, h⟩ := bind_sp h
  refine Exists.intro (some (.int p1.1)) (Exists.intro (mk X) (Exists.intro p1.2 (And.intro (cl_X9_isNumber (d + 4) hp1) ?_)))
  show Ex mr_X9_ranked sc (Cl MT pr sc (d + 5)) (rtE (some (.int r)) (mk X) σ2) (4, [(0, .ref 0), (1, .int x1), (2, .int x2)], [.int p1.1], mk X, p1.2)
  refine Ex.blk 1000 rfl ?_
  rcases ite_sp h with ⟨c1, h⟩ | ⟨c1, h⟩
  · refine And.intro (fun _ => ?_) (fun hn => absurd c1 hn)
    show Ex mr_X9_ranked sc (Cl MT pr sc (d + 5)) (rtE (some (.int r)) (mk X) σ2) (14, [(0, .ref 0), (1, .int x1), (2, .int x2)], [], mk X, p1.2)
    refine Ex.pick (lv' := _) [] rfl ?_
    exact lk_X9_ranked_14 d _ h
  · refine And.intro (fun hp => absurd hp c1) (fun _ => ?_)
    show Ex mr_X9_ranked sc (Cl MT pr sc (d + 5)) (rtE (some (.int r)) (mk X) σ2) (7, [(0, .ref 0), (1, .int x1), (2, .int x2)], [], mk X, p1.2)
    refine Ex.blk 2 rfl ?_
    obtain ⟨p2, hp2, h⟩ := bind_sp h
    refine Exists.intro (some (.int p2.1)) (Exists.intro (mk X) (Exists.intro p2.2 (And.intro (cl_X9_isPack (d + 4) hp2) ?_)))
    show Ex mr_X9_ranked sc (Cl MT pr sc (d + 5)) (rtE (some (.int r)) (mk X) σ2) (11, [(0, .ref 0), (1, .int x1), (2, .int x2)], [.int p2.1], mk X, p2.2)
    refine Ex.blk 1000 rfl ?_
    rcases ite_sp h with ⟨c2, h⟩ | ⟨c2, h⟩
    · refine And.intro (fun hp => absurd c2 hp) (fun _ => ?_)
      show Ex mr_X9_ranked sc (Cl MT pr sc (d + 5)) (rtE (some (.int r)) (mk X) σ2) (14, [(0, .ref 0), (1, .int x1), (2, .int x2)], [], mk X, p2.2)
      refine Ex.pick (lv' := _) [] rfl ?_
      exact lk_X9_ranked_14 d _ h
    · refine And.intro (fun _ => ?_) (fun hn => absurd c2 hn)
      show Ex mr_X9_ranked sc (Cl MT pr sc (d + 5)) (rtE (some (.int r)) (mk X) σ2) (16, [(0, .ref 0), (1, .int x1), (2, .int x2)], [], mk X, p2.2)
      refine Ex.blk 5 rfl ?_
      obtain ⟨p3, hp3, h⟩ := bind_sp h
      refine Exists.intro (some (.int p3.1)) (Exists.intro (mk X) (Exists.intro p3.2 (And.intro (cl_X9_restByRank (d + 0) hp3) ?_)))
      show Ex mr_X9_ranked sc (Cl MT pr sc (d + 5)) (rtE (some (.int r)) (mk X) σ2) (23, [(0, .ref 0), (1, .int x1), (2, .int x2)], [.int p3.1], mk X, p3.2)
      refine Ex.blk 5 rfl ?_
      obtain ⟨p4, hp4, h⟩ := bind_sp h
      refine Exists.intro (some (.int p4.1)) (Exists.intro (mk X) (Exists.intro p4.2 (And.intro (cl_X9_restByRank (d + 0) hp4) ?_)))
      show Ex mr_X9_ranked sc (Cl MT pr sc (d + 5)) (rtE (some (.int r)) (mk X) σ2) (30, [(0, .ref 0), (1, .int x1), (2, .int x2)], [.int p4.1, .int p3.1], mk X, p4.2)
      refine Ex.blk 1000 rfl ?_
      rcases ite_sp h with ⟨c3, h⟩ | ⟨c3, h⟩
      · refine And.intro (fun _ => ?_) (fun hn => absurd c3 hn)
        show Ex mr_X9_ranked sc (Cl MT pr sc (d + 5)) (rtE (some (.int r)) (mk X) σ2) (37, [(0, .ref 0), (1, .int x1), (2, .int x2)], [], mk X, p4.2)
        refine Ex.blk 1000 rfl ?_
        show Ex mr_X9_ranked sc (Cl MT pr sc (d + 5)) (rtE (some (.int r)) (mk X) σ2) (38, [(0, .ref 0), (1, .int x1), (2, .int x2)], [.int 0], mk X, p4.2)
        refine Ex.pick (lv' := _) [] rfl ?_
        exact lk_X9_ranked_38 d _ _ h
      · refine And.intro (fun hp => absurd hp c3) (fun _ => ?_)
        show Ex mr_X9_ranked sc (Cl MT pr sc (d + 5)) (rtE (some (.int r)) (mk X) σ2) (33, [(0, .ref 0), (1, .int x1), (2, .int x2)], [], mk X, p4.2)
        refine Ex.blk 1000 rfl ?_
        show Ex mr_X9_ranked sc (Cl MT pr sc (d + 5)) (rtE (some (.int r)) (mk X) σ2) (38, [(0, .ref 0), (1, .int x1), (2, .int x2)], [.int 1], mk X, p4.2)
        refine Ex.pick (lv' := _) [] rfl ?_
        exact lk_X9_ranked_38 d _ _ h
theorem cl_X9_count {pr : Ct} {sc : Nat × (Nat → Int32)} {X : En} (d : Nat) {r : Int32} {σ2 : St} {x1 : Int32} {σ : St} (h : f_X9_count x1 σ = some (r, σ2)) : Cl MT pr sc (d + 0 + 1) 147 [.ref 0, .int x1] (mk X) σ (some (.int r)) (mk X) σ2 := by
  refine cl_of mr_X9_count rfl rfl ?_
  unfold f_X9_count at h
  refine Ex.blk 1000 rfl ?_
  rcases ite_sp h with ⟨c1, h⟩ | ⟨c1, h⟩
  · refine And.intro (fun _ => ?_) (fun hn => absurd (c1.trans (by decide)) hn)
    show Ex mr_X9_count sc (Cl MT pr sc (d + 0)) (rtE (some (.int r)) (mk X) σ2) (36, [(0, .ref 0), (1, .int x1)], [], mk X, σ)
    refine Ex.blk 1000 rfl ?_
    cases h
    exact And.intro trivial ⟨rfl, rfl, rfl⟩
  refine And.intro (fun hp => absurd (hp.trans (by decide)) c1) (fun _ => ?_)
  rcases ite_sp h with ⟨c2, h⟩ | ⟨c2, h⟩
  · refine And.intro (fun _ => ?_) (fun hn => absurd (c2.trans (by decide)) hn)
    show Ex mr_X9_count sc (Cl MT pr sc (d + 0)) (rtE (some (.int r)) (mk X) σ2) (44, [(0, .ref 0), (1, .int x1)], [], mk X, σ)
    refine Ex.blk 1000 rfl ?_
    cases h
    exact And.intro trivial ⟨rfl, rfl, rfl⟩
  refine And.intro (fun hp => absurd (hp.trans (by decide)) c2) (fun _ => ?_)
  rcases ite_sp h with ⟨c3, h⟩ | ⟨c3, h⟩
  · refine And.intro (fun _ => ?_) (fun hn => absurd (c3.trans (by decide)) hn)
    show Ex mr_X9_count sc (Cl MT pr sc (d + 0)) (rtE (some (.int r)) (mk X) σ2) (49, [(0, .ref 0), (1, .int x1)], [], mk X, σ)
    refine Ex.blk 1000 rfl ?_
    cases h
    exact And.intro trivial ⟨rfl, rfl, rfl⟩
  refine And.intro (fun hp => absurd (hp.trans (by decide)) c3) (fun _ => ?_)
  rcases ite_sp h with ⟨c4, h⟩ | ⟨c4, h⟩
  · refine And.intro (fun _ => ?_) (fun hn => absurd (c4.trans (by decide)) hn)
    show Ex mr_X9_count sc (Cl MT pr sc (d + 0)) (rtE (some (.int r)) (mk X) σ2) (57, [(0, .ref 0), (1, .int x1)], [], mk X, σ)
    refine Ex.blk 1000 rfl ?_
    cases h
    exact And.intro trivial ⟨rfl, rfl, rfl⟩
  refine And.intro (fun hp => absurd (hp.trans (by decide)) c4) (fun _ => ?_)
  rcases ite_sp h with ⟨c5, h⟩ | ⟨c5, h⟩
  · refine And.intro (fun _ => ?_) (fun hn => absurd (c5.trans (by decide)) hn)
    show Ex mr_X9_count sc (Cl MT pr sc (d + 0)) (rtE (some (.int r)) (mk X) σ2) (65, [(0, .ref 0), (1, .int x1)], [], mk X, σ)
    refine Ex.blk 1000 rfl ?_
    cases h
    exact And.intro trivial ⟨rfl, rfl, rfl⟩
  refine And.intro (fun hp => absurd (hp.trans (by decide)) c5) (fun _ => ?_)
  show Ex mr_X9_count sc (Cl MT pr sc (d + 0)) (rtE (some (.int r)) (mk X) σ2) (73, [(0, .ref 0), (1, .int x1)], [], mk X, σ)
  refine Ex.blk 1000 rfl ?_
  cases h
  exact And.intro trivial ⟨rfl, rfl, rfl⟩
theorem lk_X10_in_18 {pr : Ct} {sc : Nat × (Nat → Int32)} {X : En} (d : Nat) {r : Int32} {σ2 : St} (y0 : Int32) (σ : St) (h : f_X10_in_18 y0 σ = some (r, σ2)) : Ex mr_X10_in sc (Cl MT pr sc (d + 0)) (rtE (some (.int r)) (mk X) σ2) (18, [], [.int y0], mk X, σ) := by
  unfold f_X10_in_18 at h
  refine Ex.blk 1000 rfl ?_
  obtain ⟨g1, h⟩ := gd_some h
  cases h
  exact And.intro (isbb_ok g1) ⟨rfl, rfl, rfl⟩
theorem lk_X10_in_17 {pr : Ct} {sc : Nat × (Nat → Int32)} {X : En} (d : Nat) {r : Int32} {σ2 : St} (σ : St) (h : f_X10_in_17 σ = some (r, σ2)) : Ex mr_X10_in sc (Cl MT pr sc (d + 0)) (rtE (some (.int r)) (mk X) σ2) (17, [], [], mk X, σ) := by
  unfold f_X10_in_17 at h
  refine Ex.blk 1000 rfl ?_
  show Ex mr_X10_in sc (Cl MT pr sc (d + 0)) (rtE (some (.int r)) (mk X) σ2) (18, [], [.int 0], mk X, σ)
  exact lk_X10_in_18 d _ _ h
theorem cl_X10_in {pr : Ct} {sc : Nat × (Nat → Int32)} {X : En} (d : Nat) {r : Int32} {σ2 : St} {x0 : Int64} {x2 : Int64} {x4 : Int64} {σ : St} (h : f_X10_in x0 x2 x4 σ = some (r, σ2)) : Cl MT pr sc (d + 0 + 1) 148 [.long x0, .long x2, .long x4] (mk X) σ (some (.int r)) (mk X) σ2 := by
  refine cl_of mr_X10_in rfl rfl ?_
  unfold f_X10_in at h
  refine Ex.blk 1000 rfl ?_
  rcases ite_sp h with ⟨c1, h⟩ | ⟨c1, h⟩
  · refine And.intro (fun _ => ?_) (fun hn => absurd c1 hn)
    show Ex mr_X10_in sc (Cl MT pr sc (d + 0)) (rtE (some (.int r)) (mk X) σ2) (17, [(0, .long x0), (2, .long x2), (4, .long x4)], [], mk X, σ)
    refine Ex.pick (lv' := _) [] rfl ?_
    exact lk_X10_in_17 d _ h
  · refine And.intro (fun hp => absurd hp c1) (fun _ => ?_)
    show Ex mr_X10_in sc (Cl MT pr sc (d + 0)) (rtE (some (.int r)) (mk X) σ2) (6, [(0, .long x0), (2, .long x2), (4, .long x4)], [], mk X, σ)
    refine Ex.blk 1000 rfl ?_
    rcases ite_sp h with ⟨c2, h⟩ | ⟨c2, h⟩
    · refine And.intro (fun _ => ?_) (fun hn => absurd c2 hn)
      show Ex mr_X10_in sc (Cl MT pr sc (d + 0)) (rtE (some (.int r)) (mk X) σ2) (17, [(0, .long x0), (2, .long x2), (4, .long x4)], [], mk X, σ)
      refine Ex.pick (lv' := _) [] rfl ?_
      exact lk_X10_in_17 d _ h
    · refine And.intro (fun hp => absurd hp c2) (fun _ => ?_)
      show Ex mr_X10_in sc (Cl MT pr sc (d + 0)) (rtE (some (.int r)) (mk X) σ2) (13, [(0, .long x0), (2, .long x2), (4, .long x4)], [], mk X, σ)
      refine Ex.blk 1000 rfl ?_
      show Ex mr_X10_in sc (Cl MT pr sc (d + 0)) (rtE (some (.int r)) (mk X) σ2) (18, [(0, .long x0), (2, .long x2), (4, .long x4)], [.int 1], mk X, σ)
      refine Ex.pick (lv' := _) [] rfl ?_
      exact lk_X10_in_18 d _ _ h
theorem lk_X10_has_14 {pr : Ct} {sc : Nat × (Nat → Int32)} {X : En} (d : Nat) {r : Int32} {σ2 : St} (y0 : Int32) (σ : St) (h : f_X10_has_14 y0 σ = some (r, σ2)) : Ex mr_X10_has sc (Cl MT pr sc (d + 0)) (rtE (some (.int r)) (mk X) σ2) (14, [], [.int y0], mk X, σ) := by
  unfold f_X10_has_14 at h
  refine Ex.blk 1000 rfl ?_
  obtain ⟨g1, h⟩ := gd_some h
  cases h
  exact And.intro (isbb_ok g1) ⟨rfl, rfl, rfl⟩
theorem cl_X10_has {pr : Ct} {sc : Nat × (Nat → Int32)} {X : En} (d : Nat) {r : Int32} {σ2 : St} {x0 : Int32} {x1 : Int32} {σ : St} (h : f_X10_has x0 x1 σ = some (r, σ2)) : Cl MT pr sc (d + 0 + 1) 149 [.int x0, .int x1] (mk X) σ (some (.int r)) (mk X) σ2 := by
  refine cl_of mr_X10_has rfl rfl ?_
  unfold f_X10_has at h
  refine Ex.blk 5 rfl ?_
  show Ex mr_X10_has sc (Cl MT pr sc (d + 0)) (rtE (some (.int r)) (mk X) σ2) (5, [(0, .int x0), (1, .int x1)], [.int ((shrI x0 x1) &&& 1)], mk X, σ)
  refine Ex.blk 1000 rfl ?_
  rcases ite_sp h with ⟨c1, h⟩ | ⟨c1, h⟩
  · refine And.intro (fun hp => absurd c1 hp) (fun _ => ?_)
    show Ex mr_X10_has sc (Cl MT pr sc (d + 0)) (rtE (some (.int r)) (mk X) σ2) (9, [(0, .int x0), (1, .int x1)], [], mk X, σ)
    refine Ex.blk 1000 rfl ?_
    show Ex mr_X10_has sc (Cl MT pr sc (d + 0)) (rtE (some (.int r)) (mk X) σ2) (14, [(0, .int x0), (1, .int x1)], [.int 1], mk X, σ)
    refine Ex.pick (lv' := _) [] rfl ?_
    exact lk_X10_has_14 d _ _ h
  · refine And.intro (fun _ => ?_) (fun hn => absurd c1 hn)
    show Ex mr_X10_has sc (Cl MT pr sc (d + 0)) (rtE (some (.int r)) (mk X) σ2) (13, [(0, .int x0), (1, .int x1)], [], mk X, σ)
    refine Ex.blk 1000 rfl ?_
    show Ex mr_X10_has sc (Cl MT pr sc (d + 0)) (rtE (some (.int r)) (mk X) σ2) (14, [(0, .int x0), (1, .int x1)], [.int 0], mk X, σ)
    refine Ex.pick (lv' := _) [] rfl ?_
    exact lk_X10_has_14 d _ _ h
theorem cl_X10_thrown {pr : Ct} {sc : Nat × (Nat → Int32)} {X : En} (d : Nat) {r : Int32} {σ2 : St} {σ : St} (h : f_X10_thrown σ = some (r, σ2)) : Cl MT pr sc (d + 0 + 1) 151 [.ref 38] (mk X) σ (some (.int r)) (mk X) σ2 := by
  refine cl_of mr_X10_thrown rfl rfl ?_
  unfold f_X10_thrown at h
  refine Ex.blk 1000 rfl ?_
  cases h
  exact And.intro trivial ⟨rfl, rfl, rfl⟩
theorem lk_X10_byteOf_45 {pr : Ct} {sc : Nat × (Nat → Int32)} {X : En} (d : Nat) {r : Int32} {σ2 : St} (x5 : Int32) (y0 : Int32) (σ : St) (h : f_X10_byteOf_45 x5 y0 σ = some (r, σ2)) : Ex mr_X10_byteOf sc (Cl MT pr sc (d + 0)) (rtE (some (.int r)) (mk X) σ2) (45, [(5, .int x5)], [.int y0], mk X, σ) := by
  unfold f_X10_byteOf_45 at h
  refine Ex.blk 5 rfl ?_
  show Ex mr_X10_byteOf sc (Cl MT pr sc (d + 0)) (rtE (some (.int r)) (mk X) σ2) (55, [(6, .int y0), (5, .int x5)], [.int x5, .int 8, .int 24, .int y0], mk X, σ)
  refine Ex.blk 2 rfl ?_
  refine And.intro (nzI_ok (b := 4) (by decide)) ?_
  show Ex mr_X10_byteOf sc (Cl MT pr sc (d + 0)) (rtE (some (.int r)) (mk X) σ2) (57, [(6, .int y0), (5, .int x5)], [.int (rmI x5 4), .int 8, .int 24, .int y0], mk X, σ)
  refine Ex.blk 5 rfl ?_
  show Ex mr_X10_byteOf sc (Cl MT pr sc (d + 0)) (rtE (some (.int r)) (mk X) σ2) (64, [(6, .int y0), (5, .int x5)], [.int ((shrI y0 (24 - (8 * (rmI x5 4)))) &&& 255)], mk X, σ)
  refine Ex.blk 1000 rfl ?_
  cases h
  exact And.intro trivial ⟨rfl, rfl, rfl⟩
theorem cl_X10_byteOf {pr : Ct} {sc : Nat × (Nat → Int32)} {X : En} (d : Nat) {r : Int32} {σ2 : St} {x0 : Int32} {x1 : Int32} {x2 : Int32} {x3 : Int32} {x4 : Int32} {x5 : Int32} {σ : St} (h : f_X10_byteOf x0 x1 x2 x3 x4 x5 σ = some (r, σ2)) : Cl MT pr sc (d + 0 + 1) 152 [.int x0, .int x1, .int x2, .int x3, .int x4, .int x5] (mk X) σ (some (.int r)) (mk X) σ2 := by
  refine cl_of mr_X10_byteOf rfl rfl ?_
  unfold f_X10_byteOf at h
  refine Ex.blk 1000 rfl ?_
  rcases ite_sp h with ⟨c1, h⟩ | ⟨c1, h⟩
  · refine And.intro (fun _ => ?_) (fun hn => absurd c1 hn)
    show Ex mr_X10_byteOf sc (Cl MT pr sc (d + 0)) (rtE (some (.int r)) (mk X) σ2) (10, [(0, .int x0), (1, .int x1), (2, .int x2), (3, .int x3), (4, .int x4), (5, .int x5)], [], mk X, σ)
    refine Ex.blk 1000 rfl ?_
    rcases ite_sp h with ⟨c2, h⟩ | ⟨c2, h⟩
    · refine And.intro (fun _ => ?_) (fun hn => absurd c2 hn)
      show Ex mr_X10_byteOf sc (Cl MT pr sc (d + 0)) (rtE (some (.int r)) (mk X) σ2) (21, [(0, .int x0), (1, .int x1), (2, .int x2), (3, .int x3), (4, .int x4), (5, .int x5)], [], mk X, σ)
      refine Ex.blk 1000 rfl ?_
      rcases ite_sp h with ⟨c3, h⟩ | ⟨c3, h⟩
      · refine And.intro (fun _ => ?_) (fun hn => absurd c3 hn)
        show Ex mr_X10_byteOf sc (Cl MT pr sc (d + 0)) (rtE (some (.int r)) (mk X) σ2) (32, [(0, .int x0), (1, .int x1), (2, .int x2), (3, .int x3), (4, .int x4), (5, .int x5)], [], mk X, σ)
        refine Ex.blk 1000 rfl ?_
        rcases ite_sp h with ⟨c4, h⟩ | ⟨c4, h⟩
        · refine And.intro (fun _ => ?_) (fun hn => absurd c4 hn)
          show Ex mr_X10_byteOf sc (Cl MT pr sc (d + 0)) (rtE (some (.int r)) (mk X) σ2) (43, [(0, .int x0), (1, .int x1), (2, .int x2), (3, .int x3), (4, .int x4), (5, .int x5)], [], mk X, σ)
          refine Ex.blk 1000 rfl ?_
          show Ex mr_X10_byteOf sc (Cl MT pr sc (d + 0)) (rtE (some (.int r)) (mk X) σ2) (45, [(0, .int x0), (1, .int x1), (2, .int x2), (3, .int x3), (4, .int x4), (5, .int x5)], [.int x4], mk X, σ)
          refine Ex.pick (lv' := _) [5] rfl ?_
          exact lk_X10_byteOf_45 d _ _ _ h
        · refine And.intro (fun hp => absurd hp c4) (fun _ => ?_)
          show Ex mr_X10_byteOf sc (Cl MT pr sc (d + 0)) (rtE (some (.int r)) (mk X) σ2) (39, [(0, .int x0), (1, .int x1), (2, .int x2), (3, .int x3), (4, .int x4), (5, .int x5)], [], mk X, σ)
          refine Ex.blk 1000 rfl ?_
          show Ex mr_X10_byteOf sc (Cl MT pr sc (d + 0)) (rtE (some (.int r)) (mk X) σ2) (45, [(0, .int x0), (1, .int x1), (2, .int x2), (3, .int x3), (4, .int x4), (5, .int x5)], [.int x3], mk X, σ)
          refine Ex.pick (lv' := _) [5] rfl ?_
          exact lk_X10_byteOf_45 d _ _ _ h
      · refine And.intro (fun hp => absurd hp c3) (fun _ => ?_)
        show Ex mr_X10_byteOf sc (Cl MT pr sc (d + 0)) (rtE (some (.int r)) (mk X) σ2) (28, [(0, .int x0), (1, .int x1), (2, .int x2), (3, .int x3), (4, .int x4), (5, .int x5)], [], mk X, σ)
        refine Ex.blk 1000 rfl ?_
        show Ex mr_X10_byteOf sc (Cl MT pr sc (d + 0)) (rtE (some (.int r)) (mk X) σ2) (45, [(0, .int x0), (1, .int x1), (2, .int x2), (3, .int x3), (4, .int x4), (5, .int x5)], [.int x2], mk X, σ)
        refine Ex.pick (lv' := _) [5] rfl ?_
        exact lk_X10_byteOf_45 d _ _ _ h
    · refine And.intro (fun hp => absurd hp c2) (fun _ => ?_)
      show Ex mr_X10_byteOf sc (Cl MT pr sc (d + 0)) (rtE (some (.int r)) (mk X) σ2) (17, [(0, .int x0), (1, .int x1), (2, .int x2), (3, .int x3), (4, .int x4), (5, .int x5)], [], mk X, σ)
      refine Ex.blk 1000 rfl ?_
      show Ex mr_X10_byteOf sc (Cl MT pr sc (d + 0)) (rtE (some (.int r)) (mk X) σ2) (45, [(0, .int x0), (1, .int x1), (2, .int x2), (3, .int x3), (4, .int x4), (5, .int x5)], [.int x1], mk X, σ)
      refine Ex.pick (lv' := _) [5] rfl ?_
      exact lk_X10_byteOf_45 d _ _ _ h
  · refine And.intro (fun hp => absurd hp c1) (fun _ => ?_)
    show Ex mr_X10_byteOf sc (Cl MT pr sc (d + 0)) (rtE (some (.int r)) (mk X) σ2) (6, [(0, .int x0), (1, .int x1), (2, .int x2), (3, .int x3), (4, .int x4), (5, .int x5)], [], mk X, σ)
    refine Ex.blk 1000 rfl ?_
    show Ex mr_X10_byteOf sc (Cl MT pr sc (d + 0)) (rtE (some (.int r)) (mk X) σ2) (45, [(0, .int x0), (1, .int x1), (2, .int x2), (3, .int x3), (4, .int x4), (5, .int x5)], [.int x0], mk X, σ)
    refine Ex.pick (lv' := _) [5] rfl ?_
    exact lk_X10_byteOf_45 d _ _ _ h
theorem lk_X10_feed_109 {pr : Ct} {sc : Nat × (Nat → Int32)} {X : En} (d : Nat) {r : Int32} {σ2 : St} (k62 : Int32 → Int32 → Int32 → Int32 → Int32 → Int32 → St → Option (Int32 × St)) (hk62 : ∀ (x1 : Int32) (x2 : Int32) (x3 : Int32) (x4 : Int32) (x5 : Int32) (x7 : Int32) (σ : St), k62 x1 x2 x3 x4 x5 x7 σ = some (r, σ2) → Ex mr_X10_feed sc (Cl MT pr sc (d + 1)) (rtE (some (.int r)) (mk X) σ2) (62, [(0, .ref 38), (1, .int x1), (2, .int x2), (3, .int x3), (4, .int x4), (5, .int x5), (7, .int x7)], [], mk X, σ)) (x1 : Int32) (x2 : Int32) (x3 : Int32) (x4 : Int32) (x5 : Int32) (x7 : Int32) (σ : St) (h : f_X10_feed_109 k62 x1 x2 x3 x4 x5 x7 σ = some (r, σ2)) : Ex mr_X10_feed sc (Cl MT pr sc (d + 1)) (rtE (some (.int r)) (mk X) σ2) (109, [(0, .ref 38), (1, .int x1), (2, .int x2), (3, .int x3), (4, .int x4), (5, .int x5), (7, .int x7)], [], mk X, σ) := by
  unfold f_X10_feed_109 at h
  refine Ex.blk 1000 rfl ?_
  show Ex mr_X10_feed sc (Cl MT pr sc (d + 1)) (rtE (some (.int r)) (mk X) σ2) (62, [(7, .int (x7 + 1)), (0, .ref 38), (1, .int x1), (2, .int x2), (3, .int x3), (4, .int x4), (5, .int x5)], [], mk X, σ)
  refine Ex.pick (lv' := _) [1, 2, 3, 4, 5, 6, 0] rfl ?_
  exact hk62 _ _ _ _ _ _ _ h
theorem lk_X10_feed_62 {pr : Ct} {sc : Nat × (Nat → Int32)} {X : En} (d : Nat) {r : Int32} {σ2 : St} : ∀ (n : Nat) (x1 : Int32) (x2 : Int32) (x3 : Int32) (x4 : Int32) (x5 : Int32) (x7 : Int32) (σ : St), f_X10_feed_62 n x1 x2 x3 x4 x5 x7 σ = some (r, σ2) → Ex mr_X10_feed sc (Cl MT pr sc (d + 1)) (rtE (some (.int r)) (mk X) σ2) (62, [(0, .ref 38), (1, .int x1), (2, .int x2), (3, .int x3), (4, .int x4), (5, .int x5), (7, .int x7)], [], mk X, σ) := by
  intro n
  induction n with
  | zero =>
    intro x1 x2 x3 x4 x5 x7 σ h
    cases h
  | succ n ih =>
    intro x1 x2 x3 x4 x5 x7 σ h
    simp only [f_X10_feed_62] at h
    refine Ex.blk 1000 rfl ?_
    rcases ite_sp h with ⟨c1, h⟩ | ⟨c1, h⟩
    · refine And.intro (fun _ => ?_) (fun hn => absurd c1 hn)
      show Ex mr_X10_feed sc (Cl MT pr sc (d + 1)) (rtE (some (.int r)) (mk X) σ2) (115, [(0, .ref 38), (1, .int x1), (2, .int x2), (3, .int x3), (4, .int x4), (5, .int x5), (7, .int x7)], [], mk X, σ)
      refine Ex.blk 1000 rfl ?_
      cases h
      exact And.intro trivial ⟨rfl, rfl, rfl⟩
    · refine And.intro (fun hp => absurd hp c1) (fun _ => ?_)
      show Ex mr_X10_feed sc (Cl MT pr sc (d + 1)) (rtE (some (.int r)) (mk X) σ2) (69, [(0, .ref 38), (1, .int x1), (2, .int x2), (3, .int x3), (4, .int x4), (5, .int x5), (7, .int x7)], [], mk X, σ)
      refine Ex.blk 5 rfl ?_
      show Ex mr_X10_feed sc (Cl MT pr sc (d + 1)) (rtE (some (.int r)) (mk X) σ2) (76, [(0, .ref 38), (1, .int x1), (2, .int x2), (3, .int x3), (4, .int x4), (5, .int x5), (7, .int x7)], [.int x5, .int x4, .int x3, .int x2, .int x1], mk X, σ)
      refine Ex.blk 2 rfl ?_
      obtain ⟨p1, hp1, h⟩ := bind_sp h
      refine Exists.intro (some (.int p1.1)) (Exists.intro (mk X) (Exists.intro p1.2 (And.intro (cl_X10_byteOf (d + 0) hp1) ?_)))
      show Ex mr_X10_feed sc (Cl MT pr sc (d + 1)) (rtE (some (.int r)) (mk X) σ2) (81, [(0, .ref 38), (1, .int x1), (2, .int x2), (3, .int x3), (4, .int x4), (5, .int x5), (7, .int x7)], [.int p1.1], mk X, p1.2)
      refine Ex.blk 1000 rfl ?_
      rcases ite_sp h with ⟨c2, h⟩ | ⟨c2, h⟩
      · refine And.intro (fun _ => ?_) (fun hn => absurd c2 hn)
        show Ex mr_X10_feed sc (Cl MT pr sc (d + 1)) (rtE (some (.int r)) (mk X) σ2) (109, [(8, .int p1.1), (0, .ref 38), (1, .int x1), (2, .int x2), (3, .int x3), (4, .int x4), (5, .int x5), (7, .int x7)], [], mk X, p1.2)
        refine Ex.pick (lv' := _) [1, 2, 3, 4, 5, 6, 7] rfl ?_
        exact lk_X10_feed_109 d _ ih _ _ _ _ _ _ _ h
      · refine And.intro (fun hp => absurd hp c2) (fun _ => ?_)
        show Ex mr_X10_feed sc (Cl MT pr sc (d + 1)) (rtE (some (.int r)) (mk X) σ2) (88, [(8, .int p1.1), (0, .ref 38), (1, .int x1), (2, .int x2), (3, .int x3), (4, .int x4), (5, .int x5), (7, .int x7)], [], mk X, p1.2)
        refine Ex.blk 5 rfl ?_
        show Ex mr_X10_feed sc (Cl MT pr sc (d + 1)) (rtE (some (.int r)) (mk X) σ2) (98, [(8, .int p1.1), (0, .ref 38), (1, .int x1), (2, .int x2), (3, .int x3), (4, .int x4), (5, .int x5), (7, .int x7)], [.int p1.1, .int (gI p1.2 38 3), .ref 39], mk X, p1.2)
        refine Ex.blk 1 rfl ?_
        obtain ⟨g3, h⟩ := gd_some h
        refine And.intro (inb_ok g3) ?_
        show Ex mr_X10_feed sc (Cl MT pr sc (d + 1)) (rtE (some (.int r)) (mk X) σ2) (99, [(8, .int p1.1), (0, .ref 38), (1, .int x1), (2, .int x2), (3, .int x3), (4, .int x4), (5, .int x5), (7, .int x7)], [], mk X, (sI p1.2 39 (gI p1.2 38 3).toNatClampNeg p1.1))
        refine Ex.blk 5 rfl ?_
        show Ex mr_X10_feed sc (Cl MT pr sc (d + 1)) (rtE (some (.int r)) (mk X) σ2) (106, [(8, .int p1.1), (0, .ref 38), (1, .int x1), (2, .int x2), (3, .int x3), (4, .int x4), (5, .int x5), (7, .int x7)], [.int ((gI (sI p1.2 39 (gI p1.2 38 3).toNatClampNeg p1.1) 38 3) + 1), .ref 38], mk X, (sI p1.2 39 (gI p1.2 38 3).toNatClampNeg p1.1))
        refine Ex.blk 1000 rfl ?_
        show Ex mr_X10_feed sc (Cl MT pr sc (d + 1)) (rtE (some (.int r)) (mk X) σ2) (109, [(8, .int p1.1), (0, .ref 38), (1, .int x1), (2, .int x2), (3, .int x3), (4, .int x4), (5, .int x5), (7, .int x7)], [], mk X, (sI (sI p1.2 39 (gI p1.2 38 3).toNatClampNeg p1.1) 38 3 ((gI (sI p1.2 39 (gI p1.2 38 3).toNatClampNeg p1.1) 38 3) + 1)))
        refine Ex.pick (lv' := _) [1, 2, 3, 4, 5, 6, 7] rfl ?_
        exact lk_X10_feed_109 d _ ih _ _ _ _ _ _ _ h
theorem lk_X10_feed_38 {pr : Ct} {sc : Nat × (Nat → Int32)} {X : En} (d : Nat) {r : Int32} {σ2 : St} (k6 : Int32 → Int32 → Int32 → Int32 → Int32 → Int32 → Int32 → St → Option (Int32 × St)) (hk6 : ∀ (x1 : Int32) (x2 : Int32) (x3 : Int32) (x4 : Int32) (x5 : Int32) (x6 : Int32) (x7 : Int32) (σ : St), k6 x1 x2 x3 x4 x5 x6 x7 σ = some (r, σ2) → Ex mr_X10_feed sc (Cl MT pr sc (d + 1)) (rtE (some (.int r)) (mk X) σ2) (6, [(0, .ref 38), (1, .int x1), (2, .int x2), (3, .int x3), (4, .int x4), (5, .int x5), (6, .int x6), (7, .int x7)], [], mk X, σ)) (x1 : Int32) (x2 : Int32) (x3 : Int32) (x4 : Int32) (x5 : Int32) (x6 : Int32) (x7 : Int32) (σ : St) (h : f_X10_feed_38 k6 x1 x2 x3 x4 x5 x6 x7 σ = some (r, σ2)) : Ex mr_X10_feed sc (Cl MT pr sc (d + 1)) (rtE (some (.int r)) (mk X) σ2) (38, [(0, .ref 38), (1, .int x1), (2, .int x2), (3, .int x3), (4, .int x4), (5, .int x5), (6, .int x6), (7, .int x7)], [], mk X, σ) := by
  unfold f_X10_feed_38 at h
  refine Ex.blk 1000 rfl ?_
  show Ex mr_X10_feed sc (Cl MT pr sc (d + 1)) (rtE (some (.int r)) (mk X) σ2) (6, [(7, .int (x7 + 1)), (0, .ref 38), (1, .int x1), (2, .int x2), (3, .int x3), (4, .int x4), (5, .int x5), (6, .int x6)], [], mk X, σ)
  refine Ex.pick (lv' := _) [1, 2, 3, 4, 5, 6, 7, 0] rfl ?_
  exact hk6 _ _ _ _ _ _ _ _ h
theorem lk_X10_feed_35 {pr : Ct} {sc : Nat × (Nat → Int32)} {X : En} (d : Nat) {r : Int32} {σ2 : St} (k6 : Int32 → Int32 → Int32 → Int32 → Int32 → Int32 → Int32 → St → Option (Int32 × St)) (hk6 : ∀ (x1 : Int32) (x2 : Int32) (x3 : Int32) (x4 : Int32) (x5 : Int32) (x6 : Int32) (x7 : Int32) (σ : St), k6 x1 x2 x3 x4 x5 x6 x7 σ = some (r, σ2) → Ex mr_X10_feed sc (Cl MT pr sc (d + 1)) (rtE (some (.int r)) (mk X) σ2) (6, [(0, .ref 38), (1, .int x1), (2, .int x2), (3, .int x3), (4, .int x4), (5, .int x5), (6, .int x6), (7, .int x7)], [], mk X, σ)) (x1 : Int32) (x2 : Int32) (x3 : Int32) (x4 : Int32) (x5 : Int32) (x7 : Int32) (y0 : Int32) (y1 : Int32) (σ : St) (h : f_X10_feed_35 k6 x1 x2 x3 x4 x5 x7 y0 y1 σ = some (r, σ2)) : Ex mr_X10_feed sc (Cl MT pr sc (d + 1)) (rtE (some (.int r)) (mk X) σ2) (35, [(0, .ref 38), (1, .int x1), (2, .int x2), (3, .int x3), (4, .int x4), (5, .int x5), (7, .int x7)], [.int y0, .int y1], mk X, σ) := by
  unfold f_X10_feed_35 at h
  refine Ex.blk 2 rfl ?_
  show Ex mr_X10_feed sc (Cl MT pr sc (d + 1)) (rtE (some (.int r)) (mk X) σ2) (38, [(6, .int (y1 + y0)), (0, .ref 38), (1, .int x1), (2, .int x2), (3, .int x3), (4, .int x4), (5, .int x5), (7, .int x7)], [], mk X, σ)
  refine Ex.pick (lv' := _) [1, 2, 3, 4, 5, 6, 0, 7] rfl ?_
  exact lk_X10_feed_38 d _ hk6 _ _ _ _ _ _ _ _ h
theorem lk_X10_feed_6 {pr : Ct} {sc : Nat × (Nat → Int32)} {X : En} (d : Nat) {r : Int32} {σ2 : St} : ∀ (n : Nat) (x1 : Int32) (x2 : Int32) (x3 : Int32) (x4 : Int32) (x5 : Int32) (x6 : Int32) (x7 : Int32) (σ : St), f_X10_feed_6 n x1 x2 x3 x4 x5 x6 x7 σ = some (r, σ2) → Ex mr_X10_feed sc (Cl MT pr sc (d + 1)) (rtE (some (.int r)) (mk X) σ2) (6, [(0, .ref 38), (1, .int x1), (2, .int x2), (3, .int x3), (4, .int x4), (5, .int x5), (6, .int x6), (7, .int x7)], [], mk X, σ) := by
  intro n
  induction n with
  | zero =>
    intro x1 x2 x3 x4 x5 x6 x7 σ h
    cases h
  | succ n ih =>
    intro x1 x2 x3 x4 x5 x6 x7 σ h
    simp only [f_X10_feed_6] at h
    refine Ex.blk 1000 rfl ?_
    rcases ite_sp h with ⟨c1, h⟩ | ⟨c1, h⟩
    · refine And.intro (fun _ => ?_) (fun hn => absurd c1 hn)
      show Ex mr_X10_feed sc (Cl MT pr sc (d + 1)) (rtE (some (.int r)) (mk X) σ2) (44, [(0, .ref 38), (1, .int x1), (2, .int x2), (3, .int x3), (4, .int x4), (5, .int x5), (6, .int x6), (7, .int x7)], [], mk X, σ)
      refine Ex.blk 5 rfl ?_
      show Ex mr_X10_feed sc (Cl MT pr sc (d + 1)) (rtE (some (.int r)) (mk X) σ2) (54, [(0, .ref 38), (1, .int x1), (2, .int x2), (3, .int x3), (4, .int x4), (5, .int x5), (6, .int x6), (7, .int x7)], [.int 160, .int ((gI σ 38 3) + x6)], mk X, σ)
      refine Ex.blk 1000 rfl ?_
      rcases ite_sp h with ⟨c2, h⟩ | ⟨c2, h⟩
      · refine And.intro (fun _ => ?_) (fun hn => absurd c2 hn)
        show Ex mr_X10_feed sc (Cl MT pr sc (d + 1)) (rtE (some (.int r)) (mk X) σ2) (59, [(0, .ref 38), (1, .int x1), (2, .int x2), (3, .int x3), (4, .int x4), (5, .int x5), (6, .int x6), (7, .int x7)], [], mk X, σ)
        refine Ex.blk 1000 rfl ?_
        show Ex mr_X10_feed sc (Cl MT pr sc (d + 1)) (rtE (some (.int r)) (mk X) σ2) (62, [(7, .int 0), (0, .ref 38), (1, .int x1), (2, .int x2), (3, .int x3), (4, .int x4), (5, .int x5), (6, .int x6)], [], mk X, σ)
        refine Ex.pick (lv' := _) [1, 2, 3, 4, 5, 6, 0] rfl ?_
        exact lk_X10_feed_62 d FU _ _ _ _ _ _ _ h
      · refine And.intro (fun hp => absurd hp c2) (fun _ => ?_)
        show Ex mr_X10_feed sc (Cl MT pr sc (d + 1)) (rtE (some (.int r)) (mk X) σ2) (57, [(0, .ref 38), (1, .int x1), (2, .int x2), (3, .int x3), (4, .int x4), (5, .int x5), (6, .int x6), (7, .int x7)], [], mk X, σ)
        refine Ex.blk 1000 rfl ?_
        cases h
        exact And.intro trivial ⟨rfl, rfl, rfl⟩
    · refine And.intro (fun hp => absurd hp c1) (fun _ => ?_)
      show Ex mr_X10_feed sc (Cl MT pr sc (d + 1)) (rtE (some (.int r)) (mk X) σ2) (13, [(0, .ref 38), (1, .int x1), (2, .int x2), (3, .int x3), (4, .int x4), (5, .int x5), (6, .int x6), (7, .int x7)], [], mk X, σ)
      refine Ex.blk 5 rfl ?_
      show Ex mr_X10_feed sc (Cl MT pr sc (d + 1)) (rtE (some (.int r)) (mk X) σ2) (20, [(0, .ref 38), (1, .int x1), (2, .int x2), (3, .int x3), (4, .int x4), (5, .int x5), (6, .int x6), (7, .int x7)], [.int x4, .int x3, .int x2, .int x1, .int x6], mk X, σ)
      refine Ex.blk 3 rfl ?_
      obtain ⟨p2, hp2, h⟩ := bind_sp h
      refine Exists.intro (some (.int p2.1)) (Exists.intro (mk X) (Exists.intro p2.2 (And.intro (cl_X10_byteOf (d + 0) hp2) ?_)))
      show Ex mr_X10_feed sc (Cl MT pr sc (d + 1)) (rtE (some (.int r)) (mk X) σ2) (27, [(0, .ref 38), (1, .int x1), (2, .int x2), (3, .int x3), (4, .int x4), (5, .int x5), (6, .int x6), (7, .int x7)], [.int p2.1, .int x6], mk X, p2.2)
      refine Ex.blk 1000 rfl ?_
      rcases ite_sp h with ⟨c3, h⟩ | ⟨c3, h⟩
      · refine And.intro (fun _ => ?_) (fun hn => absurd c3 hn)
        show Ex mr_X10_feed sc (Cl MT pr sc (d + 1)) (rtE (some (.int r)) (mk X) σ2) (34, [(0, .ref 38), (1, .int x1), (2, .int x2), (3, .int x3), (4, .int x4), (5, .int x5), (6, .int x6), (7, .int x7)], [.int x6], mk X, p2.2)
        refine Ex.blk 1000 rfl ?_
        show Ex mr_X10_feed sc (Cl MT pr sc (d + 1)) (rtE (some (.int r)) (mk X) σ2) (35, [(0, .ref 38), (1, .int x1), (2, .int x2), (3, .int x3), (4, .int x4), (5, .int x5), (6, .int x6), (7, .int x7)], [.int 0, .int x6], mk X, p2.2)
        refine Ex.pick (lv' := _) [0, 1, 2, 3, 4, 5, 7] rfl ?_
        exact lk_X10_feed_35 d _ ih _ _ _ _ _ _ _ _ _ h
      · refine And.intro (fun hp => absurd hp c3) (fun _ => ?_)
        show Ex mr_X10_feed sc (Cl MT pr sc (d + 1)) (rtE (some (.int r)) (mk X) σ2) (30, [(0, .ref 38), (1, .int x1), (2, .int x2), (3, .int x3), (4, .int x4), (5, .int x5), (6, .int x6), (7, .int x7)], [.int x6], mk X, p2.2)
        refine Ex.blk 1000 rfl ?_
        show Ex mr_X10_feed sc (Cl MT pr sc (d + 1)) (rtE (some (.int r)) (mk X) σ2) (35, [(0, .ref 38), (1, .int x1), (2, .int x2), (3, .int x3), (4, .int x4), (5, .int x5), (6, .int x6), (7, .int x7)], [.int 1, .int x6], mk X, p2.2)
        refine Ex.pick (lv' := _) [0, 1, 2, 3, 4, 5, 7] rfl ?_
        exact lk_X10_feed_35 d _ ih _ _ _ _ _ _ _ _ _ h
theorem cl_X10_feed {pr : Ct} {sc : Nat × (Nat → Int32)} {X : En} (d : Nat) {r : Int32} {σ2 : St} {x1 : Int32} {x2 : Int32} {x3 : Int32} {x4 : Int32} {x5 : Int32} {σ : St} (h : f_X10_feed x1 x2 x3 x4 x5 σ = some (r, σ2)) : Cl MT pr sc (d + 1 + 1) 153 [.ref 38, .int x1, .int x2, .int x3, .int x4, .int x5] (mk X) σ (some (.int r)) (mk X) σ2 := by
  refine cl_of mr_X10_feed rfl rfl ?_
  unfold f_X10_feed at h
  refine Ex.blk 1000 rfl ?_
  show Ex mr_X10_feed sc (Cl MT pr sc (d + 1)) (rtE (some (.int r)) (mk X) σ2) (6, [(7, .int 0), (6, .int 0), (0, .ref 38), (1, .int x1), (2, .int x2), (3, .int x3), (4, .int x4), (5, .int x5)], [], mk X, σ)
  refine Ex.pick (lv' := _) [2, 3, 4, 5, 6, 7, 1, 0] rfl ?_
  exact lk_X10_feed_6 d FU _ _ _ _ _ _ _ _ h
theorem lk_X10_end_12 {pr : Ct} {sc : Nat × (Nat → Int32)} {X : En} (d : Nat) {r : Int32} {σ2 : St} (σ : St) (h : f_X10_end_12 σ = some (r, σ2)) : Ex mr_X10_end sc (Cl MT pr sc (d + 0)) (rtE (some (.int r)) (mk X) σ2) (12, [], [], mk X, σ) := by
  unfold f_X10_end_12 at h
  refine Ex.blk 1000 rfl ?_
  cases h
  exact And.intro isb_0 ⟨rfl, rfl, rfl⟩
theorem cl_X10_end {pr : Ct} {sc : Nat × (Nat → Int32)} {X : En} (d : Nat) {r : Int32} {σ2 : St} {x1 : Int32} {σ : St} (h : f_X10_end x1 σ = some (r, σ2)) : Cl MT pr sc (d + 0 + 1) 154 [.ref 38, .int x1] (mk X) σ (some (.int r)) (mk X) σ2 := by
  refine cl_of mr_X10_end rfl rfl ?_
  unfold f_X10_end at h
  refine Ex.blk 1000 rfl ?_
  rcases ite_sp h with ⟨c1, h⟩ | ⟨c1, h⟩
  · refine And.intro (fun _ => ?_) (fun hn => absurd c1 hn)
    show Ex mr_X10_end sc (Cl MT pr sc (d + 0)) (rtE (some (.int r)) (mk X) σ2) (12, [(0, .ref 38), (1, .int x1)], [], mk X, σ)
    refine Ex.pick (lv' := _) [] rfl ?_
    exact lk_X10_end_12 d _ h
  · refine And.intro (fun hp => absurd hp c1) (fun _ => ?_)
    show Ex mr_X10_end sc (Cl MT pr sc (d + 0)) (rtE (some (.int r)) (mk X) σ2) (4, [(0, .ref 38), (1, .int x1)], [], mk X, σ)
    refine Ex.blk 1000 rfl ?_
    rcases ite_sp h with ⟨c2, h⟩ | ⟨c2, h⟩
    · refine And.intro (fun _ => ?_) (fun hn => absurd c2 hn)
      show Ex mr_X10_end sc (Cl MT pr sc (d + 0)) (rtE (some (.int r)) (mk X) σ2) (14, [(0, .ref 38), (1, .int x1)], [], mk X, σ)
      refine Ex.blk 1000 rfl ?_
      cases h
      exact And.intro isb_1 ⟨rfl, rfl, rfl⟩
    · refine And.intro (fun hp => absurd hp c2) (fun _ => ?_)
      show Ex mr_X10_end sc (Cl MT pr sc (d + 0)) (rtE (some (.int r)) (mk X) σ2) (12, [(0, .ref 38), (1, .int x1)], [], mk X, σ)
      refine Ex.pick (lv' := _) [] rfl ?_
      exact lk_X10_end_12 d _ h
theorem lk_X10_here_24 {pr : Ct} {sc : Nat × (Nat → Int32)} {X : En} (d : Nat) {r : Int32} {σ2 : St} (y0 : Int32) (σ : St) (h : f_X10_here_24 y0 σ = some (r, σ2)) : Ex mr_X10_here sc (Cl MT pr sc (d + 0)) (rtE (some (.int r)) (mk X) σ2) (24, [], [.int y0], mk X, σ) := by
  unfold f_X10_here_24 at h
  refine Ex.blk 1000 rfl ?_
  cases h
  exact And.intro trivial ⟨rfl, rfl, rfl⟩
theorem cl_X10_here {pr : Ct} {sc : Nat × (Nat → Int32)} {X : En} (d : Nat) {r : Int32} {σ2 : St} {σ : St} (h : f_X10_here σ = some (r, σ2)) : Cl MT pr sc (d + 0 + 1) 155 [.ref 38] (mk X) σ (some (.int r)) (mk X) σ2 := by
  refine cl_of mr_X10_here rfl rfl ?_
  unfold f_X10_here at h
  refine Ex.blk 1000 rfl ?_
  rcases ite_sp h with ⟨c1, h⟩ | ⟨c1, h⟩
  · refine And.intro (fun _ => ?_) (fun hn => absurd c1 hn)
    show Ex mr_X10_here sc (Cl MT pr sc (d + 0)) (rtE (some (.int r)) (mk X) σ2) (23, [(0, .ref 38)], [], mk X, σ)
    refine Ex.blk 1000 rfl ?_
    show Ex mr_X10_here sc (Cl MT pr sc (d + 0)) (rtE (some (.int r)) (mk X) σ2) (24, [(0, .ref 38)], [.int (-1)], mk X, σ)
    refine Ex.pick (lv' := _) [] rfl ?_
    exact lk_X10_here_24 d _ _ h
  · refine And.intro (fun hp => absurd hp c1) (fun _ => ?_)
    show Ex mr_X10_here sc (Cl MT pr sc (d + 0)) (rtE (some (.int r)) (mk X) σ2) (11, [(0, .ref 38)], [], mk X, σ)
    refine Ex.blk 5 rfl ?_
    obtain ⟨g2, h⟩ := gd_some h
    refine And.intro (inb_ok g2) ?_
    show Ex mr_X10_here sc (Cl MT pr sc (d + 0)) (rtE (some (.int r)) (mk X) σ2) (20, [(0, .ref 38)], [.int (gI σ 39 (gI σ 38 4).toNatClampNeg)], mk X, σ)
    refine Ex.blk 1000 rfl ?_
    show Ex mr_X10_here sc (Cl MT pr sc (d + 0)) (rtE (some (.int r)) (mk X) σ2) (24, [(0, .ref 38)], [.int (gI σ 39 (gI σ 38 4).toNatClampNeg)], mk X, σ)
    refine Ex.pick (lv' := _) [] rfl ?_
    exact lk_X10_here_24 d _ _ h
theorem lk_X10_look_0 {pr : Ct} {sc : Nat × (Nat → Int32)} {X : En} (d : Nat) {r : Int32} {σ2 : St} : ∀ (n : Nat) (σ : St), f_X10_look_0 n σ = some (r, σ2) → Ex mr_X10_look sc (Cl MT pr sc (d + 1)) (rtE (some (.int r)) (mk X) σ2) (0, [(0, .ref 38)], [], mk X, σ) := by
  intro n
  induction n with
  | zero =>
    intro σ h
    cases h
  | succ n ih =>
    intro σ h
    simp only [f_X10_look_0] at h
    refine Ex.blk 2 rfl ?_
    obtain ⟨p1, hp1, h⟩ := bind_sp h
    refine Exists.intro (some (.int p1.1)) (Exists.intro (mk X) (Exists.intro p1.2 (And.intro (cl_X10_here (d + 0) hp1) ?_)))
    show Ex mr_X10_look sc (Cl MT pr sc (d + 1)) (rtE (some (.int r)) (mk X) σ2) (4, [(0, .ref 38)], [.int p1.1], mk X, p1.2)
    refine Ex.blk 1000 rfl ?_
    rcases ite_sp h with ⟨c1, h⟩ | ⟨c1, h⟩
    · refine And.intro (fun hp => absurd c1 hp) (fun _ => ?_)
      show Ex mr_X10_look sc (Cl MT pr sc (d + 1)) (rtE (some (.int r)) (mk X) σ2) (9, [(0, .ref 38)], [], mk X, p1.2)
      refine Ex.blk 5 rfl ?_
      show Ex mr_X10_look sc (Cl MT pr sc (d + 1)) (rtE (some (.int r)) (mk X) σ2) (16, [(0, .ref 38)], [.int ((gI p1.2 38 4) + 1), .ref 38], mk X, p1.2)
      refine Ex.blk 1000 rfl ?_
      show Ex mr_X10_look sc (Cl MT pr sc (d + 1)) (rtE (some (.int r)) (mk X) σ2) (0, [(0, .ref 38)], [], mk X, (sI p1.2 38 4 ((gI p1.2 38 4) + 1)))
      exact ih _ h
    · refine And.intro (fun _ => ?_) (fun hn => absurd c1 hn)
      show Ex mr_X10_look sc (Cl MT pr sc (d + 1)) (rtE (some (.int r)) (mk X) σ2) (22, [(0, .ref 38)], [], mk X, p1.2)
      refine Ex.blk 2 rfl ?_
      obtain ⟨p2, hp2, h⟩ := bind_sp h
      refine Exists.intro (some (.int p2.1)) (Exists.intro (mk X) (Exists.intro p2.2 (And.intro (cl_X10_here (d + 0) hp2) ?_)))
      show Ex mr_X10_look sc (Cl MT pr sc (d + 1)) (rtE (some (.int r)) (mk X) σ2) (26, [(0, .ref 38)], [.int p2.1], mk X, p2.2)
      refine Ex.blk 1000 rfl ?_
      cases h
      exact And.intro trivial ⟨rfl, rfl, rfl⟩
theorem cl_X10_look {pr : Ct} {sc : Nat × (Nat → Int32)} {X : En} (d : Nat) {r : Int32} {σ2 : St} {σ : St} (h : f_X10_look σ = some (r, σ2)) : Cl MT pr sc (d + 1 + 1) 156 [.ref 38] (mk X) σ (some (.int r)) (mk X) σ2 := by
  refine cl_of mr_X10_look rfl rfl ?_
  unfold f_X10_look at h
  exact lk_X10_look_0 d FU _ h
theorem lk_X10_bad_20 {pr : Ct} {sc : Nat × (Nat → Int32)} {X : En} (d : Nat) {σ2 : St} (y0 : Int32) (σ : St) (h : f_X10_bad_20 y0 σ = some σ2) : Ex mr_X10_bad sc (Cl MT pr sc (d + 0)) (rtE none (mk X) σ2) (20, [], [.int y0, .ref 38], mk X, σ) := by
  unfold f_X10_bad_20 at h
  refine Ex.blk 1000 rfl ?_
  cases h
  exact And.intro trivial ⟨rfl, rfl, rfl⟩
theorem cl_X10_bad {pr : Ct} {sc : Nat × (Nat → Int32)} {X : En} (d : Nat) {σ2 : St} {σ : St} (h : f_X10_bad σ = some σ2) : Cl MT pr sc (d + 0 + 1) 157 [.ref 38] (mk X) σ none (mk X) σ2 := by
  refine cl_of mr_X10_bad rfl rfl ?_
  unfold f_X10_bad at h
  refine Ex.blk 1000 rfl ?_
  rcases ite_sp h with ⟨c1, h⟩ | ⟨c1, h⟩
  · refine And.intro (fun hp => absurd c1 hp) (fun _ => ?_)
    show Ex mr_X10_bad sc (Cl MT pr sc (d + 0)) (rtE none (mk X) σ2) (9, [(0, .ref 38)], [.ref 38], mk X, σ)
    refine Ex.blk 1000 rfl ?_
    show Ex mr_X10_bad sc (Cl MT pr sc (d + 0)) (rtE none (mk X) σ2) (20, [(0, .ref 38)], [.int (gI σ 38 4), .ref 38], mk X, σ)
    refine Ex.pick (lv' := _) [] rfl ?_
    exact lk_X10_bad_20 d _ _ h
  · refine And.intro (fun _ => ?_) (fun hn => absurd c1 hn)
    show Ex mr_X10_bad sc (Cl MT pr sc (d + 0)) (rtE none (mk X) σ2) (16, [(0, .ref 38)], [.ref 38], mk X, σ)
    refine Ex.blk 1000 rfl ?_
    show Ex mr_X10_bad sc (Cl MT pr sc (d + 0)) (rtE none (mk X) σ2) (20, [(0, .ref 38)], [.int (gI σ 38 5), .ref 38], mk X, σ)
    refine Ex.pick (lv' := _) [] rfl ?_
    exact lk_X10_bad_20 d _ _ h
theorem lk_X10_isDigit_17 {pr : Ct} {sc : Nat × (Nat → Int32)} {X : En} (d : Nat) {r : Int32} {σ2 : St} (y0 : Int32) (σ : St) (h : f_X10_isDigit_17 y0 σ = some (r, σ2)) : Ex mr_X10_isDigit sc (Cl MT pr sc (d + 0)) (rtE (some (.int r)) (mk X) σ2) (17, [], [.int y0], mk X, σ) := by
  unfold f_X10_isDigit_17 at h
  refine Ex.blk 1000 rfl ?_
  obtain ⟨g1, h⟩ := gd_some h
  cases h
  exact And.intro (isbb_ok g1) ⟨rfl, rfl, rfl⟩
theorem lk_X10_isDigit_16 {pr : Ct} {sc : Nat × (Nat → Int32)} {X : En} (d : Nat) {r : Int32} {σ2 : St} (σ : St) (h : f_X10_isDigit_16 σ = some (r, σ2)) : Ex mr_X10_isDigit sc (Cl MT pr sc (d + 0)) (rtE (some (.int r)) (mk X) σ2) (16, [], [], mk X, σ) := by
  unfold f_X10_isDigit_16 at h
  refine Ex.blk 1000 rfl ?_
  show Ex mr_X10_isDigit sc (Cl MT pr sc (d + 0)) (rtE (some (.int r)) (mk X) σ2) (17, [], [.int 0], mk X, σ)
  exact lk_X10_isDigit_17 d _ _ h
theorem cl_X10_isDigit {pr : Ct} {sc : Nat × (Nat → Int32)} {X : En} (d : Nat) {r : Int32} {σ2 : St} {x0 : Int32} {σ : St} (h : f_X10_isDigit x0 σ = some (r, σ2)) : Cl MT pr sc (d + 0 + 1) 158 [.int x0] (mk X) σ (some (.int r)) (mk X) σ2 := by
  refine cl_of mr_X10_isDigit rfl rfl ?_
  unfold f_X10_isDigit at h
  refine Ex.blk 1000 rfl ?_
  rcases ite_sp h with ⟨c1, h⟩ | ⟨c1, h⟩
  · refine And.intro (fun _ => ?_) (fun hn => absurd c1 hn)
    show Ex mr_X10_isDigit sc (Cl MT pr sc (d + 0)) (rtE (some (.int r)) (mk X) σ2) (16, [(0, .int x0)], [], mk X, σ)
    refine Ex.pick (lv' := _) [] rfl ?_
    exact lk_X10_isDigit_16 d _ h
  · refine And.intro (fun hp => absurd hp c1) (fun _ => ?_)
    show Ex mr_X10_isDigit sc (Cl MT pr sc (d + 0)) (rtE (some (.int r)) (mk X) σ2) (6, [(0, .int x0)], [], mk X, σ)
    refine Ex.blk 1000 rfl ?_
    rcases ite_sp h with ⟨c2, h⟩ | ⟨c2, h⟩
    · refine And.intro (fun _ => ?_) (fun hn => absurd c2 hn)
      show Ex mr_X10_isDigit sc (Cl MT pr sc (d + 0)) (rtE (some (.int r)) (mk X) σ2) (16, [(0, .int x0)], [], mk X, σ)
      refine Ex.pick (lv' := _) [] rfl ?_
      exact lk_X10_isDigit_16 d _ h
    · refine And.intro (fun hp => absurd hp c2) (fun _ => ?_)
      show Ex mr_X10_isDigit sc (Cl MT pr sc (d + 0)) (rtE (some (.int r)) (mk X) σ2) (12, [(0, .int x0)], [], mk X, σ)
      refine Ex.blk 1000 rfl ?_
      show Ex mr_X10_isDigit sc (Cl MT pr sc (d + 0)) (rtE (some (.int r)) (mk X) σ2) (17, [(0, .int x0)], [.int 1], mk X, σ)
      refine Ex.pick (lv' := _) [] rfl ?_
      exact lk_X10_isDigit_17 d _ _ h
theorem lk_X10_numeral_79 {pr : Ct} {sc : Nat × (Nat → Int32)} {X : En} (d : Nat) {r : Int32} {σ2 : St} (x1 : Int32) (σ : St) (h : f_X10_numeral_79 x1 σ = some (r, σ2)) : Ex mr_X10_numeral sc (Cl MT pr sc (d + 2)) (rtE (some (.int r)) (mk X) σ2) (79, [(1, .int x1)], [], mk X, σ) := by
  unfold f_X10_numeral_79 at h
  refine Ex.blk 1000 rfl ?_
  cases h
  exact And.intro trivial ⟨rfl, rfl, rfl⟩
theorem lk_X10_numeral_65 {pr : Ct} {sc : Nat × (Nat → Int32)} {X : En} (d : Nat) {r : Int32} {σ2 : St} (x1 : Int32) (σ : St) (h : f_X10_numeral_65 x1 σ = some (r, σ2)) : Ex mr_X10_numeral sc (Cl MT pr sc (d + 2)) (rtE (some (.int r)) (mk X) σ2) (65, [(0, .ref 38), (1, .int x1)], [], mk X, σ) := by
  unfold f_X10_numeral_65 at h
  refine Ex.blk 2 rfl ?_
  obtain ⟨p3, hp3, h⟩ := bind_sp h
  refine Exists.intro (some (.int p3.1)) (Exists.intro (mk X) (Exists.intro p3.2 (And.intro (cl_X10_here (d + 1) hp3) ?_)))
  show Ex mr_X10_numeral sc (Cl MT pr sc (d + 2)) (rtE (some (.int r)) (mk X) σ2) (69, [(0, .ref 38), (1, .int x1)], [.int p3.1], mk X, p3.2)
  refine Ex.blk 1 rfl ?_
  obtain ⟨p4, hp4, h⟩ := bind_sp h
  refine Exists.intro (some (.int p4.1)) (Exists.intro (mk X) (Exists.intro p4.2 (And.intro (cl_X10_isDigit (d + 1) hp4) ?_)))
  show Ex mr_X10_numeral sc (Cl MT pr sc (d + 2)) (rtE (some (.int r)) (mk X) σ2) (72, [(0, .ref 38), (1, .int x1)], [.int p4.1], mk X, p4.2)
  refine Ex.blk 1000 rfl ?_
  rcases ite_sp h with ⟨c1, h⟩ | ⟨c1, h⟩
  · refine And.intro (fun _ => ?_) (fun hn => absurd c1 hn)
    show Ex mr_X10_numeral sc (Cl MT pr sc (d + 2)) (rtE (some (.int r)) (mk X) σ2) (79, [(0, .ref 38), (1, .int x1)], [], mk X, p4.2)
    refine Ex.pick (lv' := _) [1] rfl ?_
    exact lk_X10_numeral_79 d _ _ h
  · refine And.intro (fun hp => absurd hp c1) (fun _ => ?_)
    show Ex mr_X10_numeral sc (Cl MT pr sc (d + 2)) (rtE (some (.int r)) (mk X) σ2) (75, [(0, .ref 38), (1, .int x1)], [], mk X, p4.2)
    refine Ex.blk 2 rfl ?_
    obtain ⟨p5, hp5, h⟩ := bind_sp h
    refine Exists.intro none (Exists.intro (mk X) (Exists.intro p5 (And.intro (cl_X10_bad (d + 1) hp5) ?_)))
    show Ex mr_X10_numeral sc (Cl MT pr sc (d + 2)) (rtE (some (.int r)) (mk X) σ2) (79, [(0, .ref 38), (1, .int x1)], [], mk X, p5)
    refine Ex.pick (lv' := _) [1] rfl ?_
    exact lk_X10_numeral_79 d _ _ h
theorem lk_X10_numeral_49 {pr : Ct} {sc : Nat × (Nat → Int32)} {X : En} (d : Nat) {r : Int32} {σ2 : St} (k20 : Int32 → Int32 → St → Option (Int32 × St)) (hk20 : ∀ (x1 : Int32) (x2 : Int32) (σ : St), k20 x1 x2 σ = some (r, σ2) → Ex mr_X10_numeral sc (Cl MT pr sc (d + 2)) (rtE (some (.int r)) (mk X) σ2) (20, [(0, .ref 38), (1, .int x1), (2, .int x2)], [], mk X, σ)) (x1 : Int32) (x2 : Int32) (σ : St) (h : f_X10_numeral_49 k20 x1 x2 σ = some (r, σ2)) : Ex mr_X10_numeral sc (Cl MT pr sc (d + 2)) (rtE (some (.int r)) (mk X) σ2) (49, [(0, .ref 38), (1, .int x1), (2, .int x2)], [], mk X, σ) := by
  unfold f_X10_numeral_49 at h
  refine Ex.blk 5 rfl ?_
  show Ex mr_X10_numeral sc (Cl MT pr sc (d + 2)) (rtE (some (.int r)) (mk X) σ2) (56, [(0, .ref 38), (1, .int x1), (2, .int x2)], [.int ((gI σ 38 4) + 1), .ref 38], mk X, σ)
  refine Ex.blk 1000 rfl ?_
  show Ex mr_X10_numeral sc (Cl MT pr sc (d + 2)) (rtE (some (.int r)) (mk X) σ2) (20, [(2, .int (x2 + 1)), (0, .ref 38), (1, .int x1)], [], mk X, (sI σ 38 4 ((gI σ 38 4) + 1)))
  refine Ex.pick (lv' := _) [1, 2, 0] rfl ?_
  exact hk20 _ _ _ h
theorem lk_X10_numeral_20 {pr : Ct} {sc : Nat × (Nat → Int32)} {X : En} (d : Nat) {r : Int32} {σ2 : St} : ∀ (n : Nat) (x1 : Int32) (x2 : Int32) (σ : St), f_X10_numeral_20 n x1 x2 σ = some (r, σ2) → Ex mr_X10_numeral sc (Cl MT pr sc (d + 2)) (rtE (some (.int r)) (mk X) σ2) (20, [(0, .ref 38), (1, .int x1), (2, .int x2)], [], mk X, σ) := by
  intro n
  induction n with
  | zero =>
    intro x1 x2 σ h
    cases h
  | succ n ih =>
    intro x1 x2 σ h
    simp only [f_X10_numeral_20] at h
    refine Ex.blk 1000 rfl ?_
    rcases ite_sp h with ⟨c1, h⟩ | ⟨c1, h⟩
    · refine And.intro (fun _ => ?_) (fun hn => absurd c1 hn)
      show Ex mr_X10_numeral sc (Cl MT pr sc (d + 2)) (rtE (some (.int r)) (mk X) σ2) (65, [(0, .ref 38), (1, .int x1), (2, .int x2)], [], mk X, σ)
      refine Ex.pick (lv' := _) [0, 1] rfl ?_
      exact lk_X10_numeral_65 d _ _ h
    · refine And.intro (fun hp => absurd hp c1) (fun _ => ?_)
      show Ex mr_X10_numeral sc (Cl MT pr sc (d + 2)) (rtE (some (.int r)) (mk X) σ2) (26, [(0, .ref 38), (1, .int x1), (2, .int x2)], [], mk X, σ)
      refine Ex.blk 2 rfl ?_
      obtain ⟨p6, hp6, h⟩ := bind_sp h
      refine Exists.intro (some (.int p6.1)) (Exists.intro (mk X) (Exists.intro p6.2 (And.intro (cl_X10_here (d + 1) hp6) ?_)))
      show Ex mr_X10_numeral sc (Cl MT pr sc (d + 2)) (rtE (some (.int r)) (mk X) σ2) (30, [(0, .ref 38), (1, .int x1), (2, .int x2)], [.int p6.1], mk X, p6.2)
      refine Ex.blk 1 rfl ?_
      obtain ⟨p7, hp7, h⟩ := bind_sp h
      refine Exists.intro (some (.int p7.1)) (Exists.intro (mk X) (Exists.intro p7.2 (And.intro (cl_X10_isDigit (d + 1) hp7) ?_)))
      show Ex mr_X10_numeral sc (Cl MT pr sc (d + 2)) (rtE (some (.int r)) (mk X) σ2) (33, [(0, .ref 38), (1, .int x1), (2, .int x2)], [.int p7.1], mk X, p7.2)
      refine Ex.blk 1000 rfl ?_
      rcases ite_sp h with ⟨c2, h⟩ | ⟨c2, h⟩
      · refine And.intro (fun _ => ?_) (fun hn => absurd c2 hn)
        show Ex mr_X10_numeral sc (Cl MT pr sc (d + 2)) (rtE (some (.int r)) (mk X) σ2) (65, [(0, .ref 38), (1, .int x1), (2, .int x2)], [], mk X, p7.2)
        refine Ex.pick (lv' := _) [0, 1] rfl ?_
        exact lk_X10_numeral_65 d _ _ h
      · refine And.intro (fun hp => absurd hp c2) (fun _ => ?_)
        show Ex mr_X10_numeral sc (Cl MT pr sc (d + 2)) (rtE (some (.int r)) (mk X) σ2) (36, [(0, .ref 38), (1, .int x1), (2, .int x2)], [], mk X, p7.2)
        refine Ex.blk 5 rfl ?_
        obtain ⟨p8, hp8, h⟩ := bind_sp h
        refine Exists.intro (some (.int p8.1)) (Exists.intro (mk X) (Exists.intro p8.2 (And.intro (cl_X10_here (d + 1) hp8) ?_)))
        show Ex mr_X10_numeral sc (Cl MT pr sc (d + 2)) (rtE (some (.int r)) (mk X) σ2) (44, [(0, .ref 38), (1, .int x1), (2, .int x2)], [.int p8.1, .int (10 * x1)], mk X, p8.2)
        refine Ex.blk 4 rfl ?_
        show Ex mr_X10_numeral sc (Cl MT pr sc (d + 2)) (rtE (some (.int r)) (mk X) σ2) (49, [(1, .int (((10 * x1) + p8.1) - 48)), (0, .ref 38), (2, .int x2)], [], mk X, p8.2)
        refine Ex.pick (lv' := _) [1, 0, 2] rfl ?_
        exact lk_X10_numeral_49 d _ ih _ _ _ h
theorem cl_X10_numeral {pr : Ct} {sc : Nat × (Nat → Int32)} {X : En} (d : Nat) {r : Int32} {σ2 : St} {σ : St} (h : f_X10_numeral σ = some (r, σ2)) : Cl MT pr sc (d + 2 + 1) 159 [.ref 38] (mk X) σ (some (.int r)) (mk X) σ2 := by
  refine cl_of mr_X10_numeral rfl rfl ?_
  unfold f_X10_numeral at h
  refine Ex.blk 2 rfl ?_
  obtain ⟨p1, hp1, h⟩ := bind_sp h
  refine Exists.intro (some (.int p1.1)) (Exists.intro (mk X) (Exists.intro p1.2 (And.intro (cl_X10_look (d + 0) hp1) ?_)))
  show Ex mr_X10_numeral sc (Cl MT pr sc (d + 2)) (rtE (some (.int r)) (mk X) σ2) (4, [(0, .ref 38)], [.int p1.1], mk X, p1.2)
  refine Ex.blk 1 rfl ?_
  obtain ⟨p2, hp2, h⟩ := bind_sp h
  refine Exists.intro (some (.int p2.1)) (Exists.intro (mk X) (Exists.intro p2.2 (And.intro (cl_X10_isDigit (d + 1) hp2) ?_)))
  show Ex mr_X10_numeral sc (Cl MT pr sc (d + 2)) (rtE (some (.int r)) (mk X) σ2) (7, [(0, .ref 38)], [.int p2.1], mk X, p2.2)
  refine Ex.blk 1000 rfl ?_
  rcases ite_sp h with ⟨c1, h⟩ | ⟨c1, h⟩
  · refine And.intro (fun hp => absurd c1 hp) (fun _ => ?_)
    show Ex mr_X10_numeral sc (Cl MT pr sc (d + 2)) (rtE (some (.int r)) (mk X) σ2) (10, [(0, .ref 38)], [], mk X, p2.2)
    refine Ex.blk 2 rfl ?_
    obtain ⟨p9, hp9, h⟩ := bind_sp h
    refine Exists.intro none (Exists.intro (mk X) (Exists.intro p9 (And.intro (cl_X10_bad (d + 1) hp9) ?_)))
    show Ex mr_X10_numeral sc (Cl MT pr sc (d + 2)) (rtE (some (.int r)) (mk X) σ2) (14, [(0, .ref 38)], [], mk X, p9)
    refine Ex.blk 1000 rfl ?_
    cases h
    exact And.intro trivial ⟨rfl, rfl, rfl⟩
  · refine And.intro (fun _ => ?_) (fun hn => absurd c1 hn)
    show Ex mr_X10_numeral sc (Cl MT pr sc (d + 2)) (rtE (some (.int r)) (mk X) σ2) (16, [(0, .ref 38)], [], mk X, p2.2)
    refine Ex.blk 1000 rfl ?_
    show Ex mr_X10_numeral sc (Cl MT pr sc (d + 2)) (rtE (some (.int r)) (mk X) σ2) (20, [(2, .int 0), (1, .int 0), (0, .ref 38)], [], mk X, p2.2)
    refine Ex.pick (lv' := _) [2, 1, 0] rfl ?_
    exact lk_X10_numeral_20 d FU _ _ _ h
theorem lk_X10_stepOf_201 {pr : Ct} {sc : Nat × (Nat → Int32)} {X : En} (d : Nat) {σ2 : St} (x1 : Int32) (σ : St) (h : f_X10_stepOf_201 x1 σ = some σ2) : Ex mr_X10_stepOf sc (Cl MT pr sc (d + 3)) (rtE none (mk X) σ2) (201, [(0, .ref 38), (1, .int x1)], [], mk X, σ) := by
  unfold f_X10_stepOf_201 at h
  refine Ex.blk 5 rfl ?_
  obtain ⟨g1, h⟩ := gd_some h
  refine And.intro (inb_ok g1) ?_
  show Ex mr_X10_stepOf sc (Cl MT pr sc (d + 3)) (rtE none (mk X) σ2) (208, [(0, .ref 38), (1, .int x1)], [.int (gI σ 43 x1.toNatClampNeg), .int x1, .ref 43], mk X, σ)
  refine Ex.blk 3 rfl ?_
  obtain ⟨g2, h⟩ := gd_some h
  refine And.intro (inb_ok g2) ?_
  show Ex mr_X10_stepOf sc (Cl MT pr sc (d + 3)) (rtE none (mk X) σ2) (211, [(0, .ref 38), (1, .int x1)], [], mk X, (sI σ 43 x1.toNatClampNeg ((gI σ 43 x1.toNatClampNeg) + 1)))
  refine Ex.blk 1000 rfl ?_
  cases h
  exact And.intro trivial ⟨rfl, rfl, rfl⟩
theorem lk_X10_stepOf_174 {pr : Ct} {sc : Nat × (Nat → Int32)} {X : En} (d : Nat) {σ2 : St} (σ : St) (h : f_X10_stepOf_174 σ = some σ2) : Ex mr_X10_stepOf sc (Cl MT pr sc (d + 3)) (rtE none (mk X) σ2) (174, [(0, .ref 38)], [], mk X, σ) := by
  unfold f_X10_stepOf_174 at h
  refine Ex.blk 2 rfl ?_
  obtain ⟨p5, hp5, h⟩ := bind_sp h
  refine Exists.intro none (Exists.intro (mk X) (Exists.intro p5 (And.intro (cl_X10_bad (d + 2) hp5) ?_)))
  show Ex mr_X10_stepOf sc (Cl MT pr sc (d + 3)) (rtE none (mk X) σ2) (178, [(0, .ref 38)], [], mk X, p5)
  refine Ex.blk 1000 rfl ?_
  cases h
  exact And.intro trivial ⟨rfl, rfl, rfl⟩
theorem lk_X10_stepOf_117 {pr : Ct} {sc : Nat × (Nat → Int32)} {X : En} (d : Nat) {σ2 : St} (x1 : Int32) (x4 : Int32) (y0 : Int32) (y1 : Int32) (σ : St) (h : f_X10_stepOf_117 x1 x4 y0 y1 σ = some σ2) : Ex mr_X10_stepOf sc (Cl MT pr sc (d + 3)) (rtE none (mk X) σ2) (117, [(0, .ref 38), (1, .int x1), (4, .int x4)], [.int y0, .int y1, .ref 41], mk X, σ) := by
  unfold f_X10_stepOf_117 at h
  refine Ex.blk 1 rfl ?_
  obtain ⟨g1, h⟩ := gd_some h
  refine And.intro (inb_ok g1) ?_
  show Ex mr_X10_stepOf sc (Cl MT pr sc (d + 3)) (rtE none (mk X) σ2) (118, [(0, .ref 38), (1, .int x1), (4, .int x4)], [], mk X, (sI σ 41 y1.toNatClampNeg y0))
  refine Ex.blk 5 rfl ?_
  obtain ⟨g2, h⟩ := gd_some h
  refine And.intro (inb_ok g2) ?_
  show Ex mr_X10_stepOf sc (Cl MT pr sc (d + 3)) (rtE none (mk X) σ2) (126, [(0, .ref 38), (1, .int x1), (4, .int x4)], [], mk X, (sI (sI σ 41 y1.toNatClampNeg y0) 42 x4.toNatClampNeg 1))
  refine Ex.blk 1000 rfl ?_
  rcases ite_sp h with ⟨c3, h⟩ | ⟨c3, h⟩
  · refine And.intro (fun hp => absurd c3 hp) (fun _ => ?_)
    show Ex mr_X10_stepOf sc (Cl MT pr sc (d + 3)) (rtE none (mk X) σ2) (134, [(0, .ref 38), (1, .int x1), (4, .int x4)], [], mk X, (sI (sI σ 41 y1.toNatClampNeg y0) 42 x4.toNatClampNeg 1))
    refine Ex.blk 2 rfl ?_
    obtain ⟨p2, hp2, h⟩ := bind_sp h
    refine Exists.intro (some (.int p2.1)) (Exists.intro (mk X) (Exists.intro p2.2 (And.intro (cl_X10_look (d + 1) hp2) ?_)))
    show Ex mr_X10_stepOf sc (Cl MT pr sc (d + 3)) (rtE none (mk X) σ2) (138, [(0, .ref 38), (1, .int x1), (4, .int x4)], [.int p2.1], mk X, p2.2)
    refine Ex.blk 1000 rfl ?_
    rcases ite_sp h with ⟨c4, h⟩ | ⟨c4, h⟩
    · refine And.intro (fun hp => absurd c4 hp) (fun _ => ?_)
      show Ex mr_X10_stepOf sc (Cl MT pr sc (d + 3)) (rtE none (mk X) σ2) (143, [(0, .ref 38), (1, .int x1), (4, .int x4)], [], mk X, p2.2)
      refine Ex.blk 5 rfl ?_
      show Ex mr_X10_stepOf sc (Cl MT pr sc (d + 3)) (rtE none (mk X) σ2) (150, [(0, .ref 38), (1, .int x1), (4, .int x4)], [.int ((gI p2.2 38 4) + 1), .ref 38], mk X, p2.2)
      refine Ex.blk 3 rfl ?_
      obtain ⟨p3, hp3, h⟩ := bind_sp h
      refine Exists.intro (some (.int p3.1)) (Exists.intro (mk X) (Exists.intro p3.2 (And.intro (cl_X10_look (d + 1) hp3) ?_)))
      show Ex mr_X10_stepOf sc (Cl MT pr sc (d + 3)) (rtE none (mk X) σ2) (157, [(0, .ref 38), (1, .int x1), (4, .int x4)], [.int p3.1], mk X, p3.2)
      refine Ex.blk 3 rfl ?_
      obtain ⟨p4, hp4, h⟩ := bind_sp h
      refine Exists.intro (some (.int p4.1)) (Exists.intro (mk X) (Exists.intro p4.2 (And.intro (cl_X10_isDigit (d + 2) hp4) ?_)))
      show Ex mr_X10_stepOf sc (Cl MT pr sc (d + 3)) (rtE none (mk X) σ2) (164, [(5, .int p3.1), (0, .ref 38), (1, .int x1), (4, .int x4)], [.int p4.1], mk X, p4.2)
      refine Ex.blk 1000 rfl ?_
      rcases ite_sp h with ⟨c5, h⟩ | ⟨c5, h⟩
      · refine And.intro (fun _ => ?_) (fun hn => absurd c5 hn)
        show Ex mr_X10_stepOf sc (Cl MT pr sc (d + 3)) (rtE none (mk X) σ2) (174, [(5, .int p3.1), (0, .ref 38), (1, .int x1), (4, .int x4)], [], mk X, p4.2)
        refine Ex.pick (lv' := _) [1] rfl ?_
        exact lk_X10_stepOf_174 d _ h
      · refine And.intro (fun hp => absurd hp c5) (fun _ => ?_)
        show Ex mr_X10_stepOf sc (Cl MT pr sc (d + 3)) (rtE none (mk X) σ2) (167, [(5, .int p3.1), (0, .ref 38), (1, .int x1), (4, .int x4)], [], mk X, p4.2)
        refine Ex.blk 1000 rfl ?_
        rcases ite_sp h with ⟨c6, h⟩ | ⟨c6, h⟩
        · refine And.intro (fun hp => absurd c6 hp) (fun _ => ?_)
          show Ex mr_X10_stepOf sc (Cl MT pr sc (d + 3)) (rtE none (mk X) σ2) (174, [(5, .int p3.1), (0, .ref 38), (1, .int x1), (4, .int x4)], [], mk X, p4.2)
          refine Ex.pick (lv' := _) [1] rfl ?_
          exact lk_X10_stepOf_174 d _ h
        · refine And.intro (fun _ => ?_) (fun hn => absurd c6 hn)
          show Ex mr_X10_stepOf sc (Cl MT pr sc (d + 3)) (rtE none (mk X) σ2) (179, [(5, .int p3.1), (0, .ref 38), (1, .int x1), (4, .int x4)], [], mk X, p4.2)
          refine Ex.blk 5 rfl ?_
          show Ex mr_X10_stepOf sc (Cl MT pr sc (d + 3)) (rtE none (mk X) σ2) (189, [(5, .int p3.1), (0, .ref 38), (1, .int x1), (4, .int x4)], [.int 48, .int p3.1, .int x4, .ref 42], mk X, p4.2)
          refine Ex.blk 2 rfl ?_
          obtain ⟨g7, h⟩ := gd_some h
          refine And.intro (inb_ok g7) ?_
          show Ex mr_X10_stepOf sc (Cl MT pr sc (d + 3)) (rtE none (mk X) σ2) (191, [(5, .int p3.1), (0, .ref 38), (1, .int x1), (4, .int x4)], [], mk X, (sI p4.2 42 x4.toNatClampNeg (p3.1 - 48)))
          refine Ex.blk 5 rfl ?_
          show Ex mr_X10_stepOf sc (Cl MT pr sc (d + 3)) (rtE none (mk X) σ2) (198, [(5, .int p3.1), (0, .ref 38), (1, .int x1), (4, .int x4)], [.int ((gI (sI p4.2 42 x4.toNatClampNeg (p3.1 - 48)) 38 4) + 1), .ref 38], mk X, (sI p4.2 42 x4.toNatClampNeg (p3.1 - 48)))
          refine Ex.blk 1000 rfl ?_
          show Ex mr_X10_stepOf sc (Cl MT pr sc (d + 3)) (rtE none (mk X) σ2) (201, [(5, .int p3.1), (0, .ref 38), (1, .int x1), (4, .int x4)], [], mk X, (sI (sI p4.2 42 x4.toNatClampNeg (p3.1 - 48)) 38 4 ((gI (sI p4.2 42 x4.toNatClampNeg (p3.1 - 48)) 38 4) + 1)))
          refine Ex.pick (lv' := _) [1, 2] rfl ?_
          exact lk_X10_stepOf_201 d _ _ h
    · refine And.intro (fun _ => ?_) (fun hn => absurd c4 hn)
      show Ex mr_X10_stepOf sc (Cl MT pr sc (d + 3)) (rtE none (mk X) σ2) (201, [(0, .ref 38), (1, .int x1), (4, .int x4)], [], mk X, p2.2)
      refine Ex.pick (lv' := _) [0, 1] rfl ?_
      exact lk_X10_stepOf_201 d _ _ h
  · refine And.intro (fun _ => ?_) (fun hn => absurd c3 hn)
    show Ex mr_X10_stepOf sc (Cl MT pr sc (d + 3)) (rtE none (mk X) σ2) (201, [(0, .ref 38), (1, .int x1), (4, .int x4)], [], mk X, (sI (sI σ 41 y1.toNatClampNeg y0) 42 x4.toNatClampNeg 1))
    refine Ex.pick (lv' := _) [0, 1] rfl ?_
    exact lk_X10_stepOf_201 d _ _ h
theorem lk_X10_stepOf_90 {pr : Ct} {sc : Nat × (Nat → Int32)} {X : En} (d : Nat) {σ2 : St} (x1 : Int32) (x3 : Int32) (x4 : Int32) (σ : St) (h : f_X10_stepOf_90 x1 x3 x4 σ = some σ2) : Ex mr_X10_stepOf sc (Cl MT pr sc (d + 3)) (rtE none (mk X) σ2) (90, [(0, .ref 38), (1, .int x1), (3, .int x3), (4, .int x4)], [], mk X, σ) := by
  unfold f_X10_stepOf_90 at h
  refine Ex.blk 5 rfl ?_
  obtain ⟨g1, h⟩ := gd_some h
  refine And.intro (inb_ok g1) ?_
  show Ex mr_X10_stepOf sc (Cl MT pr sc (d + 3)) (rtE none (mk X) σ2) (98, [(0, .ref 38), (1, .int x1), (3, .int x3), (4, .int x4)], [], mk X, (sI σ 40 x4.toNatClampNeg x3))
  refine Ex.blk 5 rfl ?_
  show Ex mr_X10_stepOf sc (Cl MT pr sc (d + 3)) (rtE none (mk X) σ2) (106, [(0, .ref 38), (1, .int x1), (3, .int x3), (4, .int x4)], [.int 2, .int x3, .int x4, .ref 41], mk X, (sI σ 40 x4.toNatClampNeg x3))
  refine Ex.blk 1000 rfl ?_
  rcases ite_sp h with ⟨c2, h⟩ | ⟨c2, h⟩
  · refine And.intro (fun _ => ?_) (fun hn => absurd c2 hn)
    show Ex mr_X10_stepOf sc (Cl MT pr sc (d + 3)) (rtE none (mk X) σ2) (116, [(0, .ref 38), (1, .int x1), (3, .int x3), (4, .int x4)], [.int x4, .ref 41], mk X, (sI σ 40 x4.toNatClampNeg x3))
    refine Ex.blk 1000 rfl ?_
    show Ex mr_X10_stepOf sc (Cl MT pr sc (d + 3)) (rtE none (mk X) σ2) (117, [(0, .ref 38), (1, .int x1), (3, .int x3), (4, .int x4)], [.int 0, .int x4, .ref 41], mk X, (sI σ 40 x4.toNatClampNeg x3))
    refine Ex.pick (lv' := _) [0, 1, 3] rfl ?_
    exact lk_X10_stepOf_117 d _ _ _ _ _ h
  · refine And.intro (fun hp => absurd hp c2) (fun _ => ?_)
    show Ex mr_X10_stepOf sc (Cl MT pr sc (d + 3)) (rtE none (mk X) σ2) (109, [(0, .ref 38), (1, .int x1), (3, .int x3), (4, .int x4)], [.int x4, .ref 41], mk X, (sI σ 40 x4.toNatClampNeg x3))
    refine Ex.blk 2 rfl ?_
    obtain ⟨p6, hp6, h⟩ := bind_sp h
    refine Exists.intro (some (.int p6.1)) (Exists.intro (mk X) (Exists.intro p6.2 (And.intro (cl_X10_numeral (d + 0) hp6) ?_)))
    show Ex mr_X10_stepOf sc (Cl MT pr sc (d + 3)) (rtE none (mk X) σ2) (113, [(0, .ref 38), (1, .int x1), (3, .int x3), (4, .int x4)], [.int p6.1, .int x4, .ref 41], mk X, p6.2)
    refine Ex.blk 1000 rfl ?_
    show Ex mr_X10_stepOf sc (Cl MT pr sc (d + 3)) (rtE none (mk X) σ2) (117, [(0, .ref 38), (1, .int x1), (3, .int x3), (4, .int x4)], [.int p6.1, .int x4, .ref 41], mk X, p6.2)
    refine Ex.pick (lv' := _) [0, 1, 3] rfl ?_
    exact lk_X10_stepOf_117 d _ _ _ _ _ h
theorem lk_X10_stepOf_56 {pr : Ct} {sc : Nat × (Nat → Int32)} {X : En} (d : Nat) {σ2 : St} (x1 : Int32) (y0 : Int32) (σ : St) (h : f_X10_stepOf_56 x1 y0 σ = some σ2) : Ex mr_X10_stepOf sc (Cl MT pr sc (d + 3)) (rtE none (mk X) σ2) (56, [(0, .ref 38), (1, .int x1)], [.int y0], mk X, σ) := by
  unfold f_X10_stepOf_56 at h
  refine Ex.blk 1000 rfl ?_
  rcases ite_sp h with ⟨c1, h⟩ | ⟨c1, h⟩
  · refine And.intro (fun hp => absurd c1 hp) (fun _ => ?_)
    show Ex mr_X10_stepOf sc (Cl MT pr sc (d + 3)) (rtE none (mk X) σ2) (62, [(3, .int y0), (0, .ref 38), (1, .int x1)], [], mk X, σ)
    refine Ex.blk 2 rfl ?_
    obtain ⟨p7, hp7, h⟩ := bind_sp h
    refine Exists.intro none (Exists.intro (mk X) (Exists.intro p7 (And.intro (cl_X10_bad (d + 2) hp7) ?_)))
    show Ex mr_X10_stepOf sc (Cl MT pr sc (d + 3)) (rtE none (mk X) σ2) (66, [(3, .int y0), (0, .ref 38), (1, .int x1)], [], mk X, p7)
    refine Ex.blk 1000 rfl ?_
    cases h
    exact And.intro trivial ⟨rfl, rfl, rfl⟩
  · refine And.intro (fun _ => ?_) (fun hn => absurd c1 hn)
    show Ex mr_X10_stepOf sc (Cl MT pr sc (d + 3)) (rtE none (mk X) σ2) (67, [(3, .int y0), (0, .ref 38), (1, .int x1)], [], mk X, σ)
    refine Ex.blk 5 rfl ?_
    show Ex mr_X10_stepOf sc (Cl MT pr sc (d + 3)) (rtE none (mk X) σ2) (74, [(3, .int y0), (0, .ref 38), (1, .int x1)], [.int ((gI σ 38 4) + 1), .ref 38], mk X, σ)
    refine Ex.blk 5 rfl ?_
    show Ex mr_X10_stepOf sc (Cl MT pr sc (d + 3)) (rtE none (mk X) σ2) (82, [(3, .int y0), (0, .ref 38), (1, .int x1)], [.ref 38, .int (12 * x1)], mk X, (sI σ 38 4 ((gI σ 38 4) + 1)))
    refine Ex.blk 3 rfl ?_
    obtain ⟨g2, h⟩ := gd_some h
    refine And.intro (inb_ok g2) ?_
    show Ex mr_X10_stepOf sc (Cl MT pr sc (d + 3)) (rtE none (mk X) σ2) (87, [(3, .int y0), (0, .ref 38), (1, .int x1)], [.int (gI (sI σ 38 4 ((gI σ 38 4) + 1)) 43 x1.toNatClampNeg), .int (12 * x1)], mk X, (sI σ 38 4 ((gI σ 38 4) + 1)))
    refine Ex.blk 2 rfl ?_
    show Ex mr_X10_stepOf sc (Cl MT pr sc (d + 3)) (rtE none (mk X) σ2) (90, [(4, .int ((12 * x1) + (gI (sI σ 38 4 ((gI σ 38 4) + 1)) 43 x1.toNatClampNeg))), (3, .int y0), (0, .ref 38), (1, .int x1)], [], mk X, (sI σ 38 4 ((gI σ 38 4) + 1)))
    refine Ex.pick (lv' := _) [2, 3, 1, 0] rfl ?_
    exact lk_X10_stepOf_90 d _ _ _ _ h
theorem cl_X10_stepOf {pr : Ct} {sc : Nat × (Nat → Int32)} {X : En} (d : Nat) {σ2 : St} {x1 : Int32} {σ : St} (h : f_X10_stepOf x1 σ = some σ2) : Cl MT pr sc (d + 3 + 1) 160 [.ref 38, .int x1] (mk X) σ none (mk X) σ2 := by
  refine cl_of mr_X10_stepOf rfl rfl ?_
  unfold f_X10_stepOf at h
  refine Ex.blk 2 rfl ?_
  obtain ⟨p1, hp1, h⟩ := bind_sp h
  refine Exists.intro (some (.int p1.1)) (Exists.intro (mk X) (Exists.intro p1.2 (And.intro (cl_X10_look (d + 1) hp1) ?_)))
  show Ex mr_X10_stepOf sc (Cl MT pr sc (d + 3)) (rtE none (mk X) σ2) (4, [(0, .ref 38), (1, .int x1)], [.int p1.1], mk X, p1.2)
  refine Ex.blk 1000 rfl ?_
  rcases ite_sp h with ⟨c1, h⟩ | ⟨c1, h⟩
  · refine And.intro (fun hp => absurd c1 hp) (fun _ => ?_)
    show Ex mr_X10_stepOf sc (Cl MT pr sc (d + 3)) (rtE none (mk X) σ2) (11, [(2, .int p1.1), (0, .ref 38), (1, .int x1)], [], mk X, p1.2)
    refine Ex.blk 1000 rfl ?_
    show Ex mr_X10_stepOf sc (Cl MT pr sc (d + 3)) (rtE none (mk X) σ2) (56, [(2, .int p1.1), (0, .ref 38), (1, .int x1)], [.int 0], mk X, p1.2)
    refine Ex.pick (lv' := _) [1, 2] rfl ?_
    exact lk_X10_stepOf_56 d _ _ _ h
  · refine And.intro (fun _ => ?_) (fun hn => absurd c1 hn)
    show Ex mr_X10_stepOf sc (Cl MT pr sc (d + 3)) (rtE none (mk X) σ2) (15, [(2, .int p1.1), (0, .ref 38), (1, .int x1)], [], mk X, p1.2)
    refine Ex.blk 1000 rfl ?_
    rcases ite_sp h with ⟨c2, h⟩ | ⟨c2, h⟩
    · refine And.intro (fun hp => absurd c2 hp) (fun _ => ?_)
      show Ex mr_X10_stepOf sc (Cl MT pr sc (d + 3)) (rtE none (mk X) σ2) (21, [(2, .int p1.1), (0, .ref 38), (1, .int x1)], [], mk X, p1.2)
      refine Ex.blk 1000 rfl ?_
      show Ex mr_X10_stepOf sc (Cl MT pr sc (d + 3)) (rtE none (mk X) σ2) (56, [(2, .int p1.1), (0, .ref 38), (1, .int x1)], [.int 1], mk X, p1.2)
      refine Ex.pick (lv' := _) [1, 2] rfl ?_
      exact lk_X10_stepOf_56 d _ _ _ h
    · refine And.intro (fun _ => ?_) (fun hn => absurd c2 hn)
      show Ex mr_X10_stepOf sc (Cl MT pr sc (d + 3)) (rtE none (mk X) σ2) (25, [(2, .int p1.1), (0, .ref 38), (1, .int x1)], [], mk X, p1.2)
      refine Ex.blk 1000 rfl ?_
      rcases ite_sp h with ⟨c3, h⟩ | ⟨c3, h⟩
      · refine And.intro (fun hp => absurd c3 hp) (fun _ => ?_)
        show Ex mr_X10_stepOf sc (Cl MT pr sc (d + 3)) (rtE none (mk X) σ2) (31, [(2, .int p1.1), (0, .ref 38), (1, .int x1)], [], mk X, p1.2)
        refine Ex.blk 1000 rfl ?_
        show Ex mr_X10_stepOf sc (Cl MT pr sc (d + 3)) (rtE none (mk X) σ2) (56, [(2, .int p1.1), (0, .ref 38), (1, .int x1)], [.int 2], mk X, p1.2)
        refine Ex.pick (lv' := _) [1, 2] rfl ?_
        exact lk_X10_stepOf_56 d _ _ _ h
      · refine And.intro (fun _ => ?_) (fun hn => absurd c3 hn)
        show Ex mr_X10_stepOf sc (Cl MT pr sc (d + 3)) (rtE none (mk X) σ2) (35, [(2, .int p1.1), (0, .ref 38), (1, .int x1)], [], mk X, p1.2)
        refine Ex.blk 1000 rfl ?_
        rcases ite_sp h with ⟨c4, h⟩ | ⟨c4, h⟩
        · refine And.intro (fun hp => absurd c4 hp) (fun _ => ?_)
          show Ex mr_X10_stepOf sc (Cl MT pr sc (d + 3)) (rtE none (mk X) σ2) (41, [(2, .int p1.1), (0, .ref 38), (1, .int x1)], [], mk X, p1.2)
          refine Ex.blk 1000 rfl ?_
          show Ex mr_X10_stepOf sc (Cl MT pr sc (d + 3)) (rtE none (mk X) σ2) (56, [(2, .int p1.1), (0, .ref 38), (1, .int x1)], [.int 3], mk X, p1.2)
          refine Ex.pick (lv' := _) [1, 2] rfl ?_
          exact lk_X10_stepOf_56 d _ _ _ h
        · refine And.intro (fun _ => ?_) (fun hn => absurd c4 hn)
          show Ex mr_X10_stepOf sc (Cl MT pr sc (d + 3)) (rtE none (mk X) σ2) (45, [(2, .int p1.1), (0, .ref 38), (1, .int x1)], [], mk X, p1.2)
          refine Ex.blk 1000 rfl ?_
          rcases ite_sp h with ⟨c5, h⟩ | ⟨c5, h⟩
          · refine And.intro (fun hp => absurd c5 hp) (fun _ => ?_)
            show Ex mr_X10_stepOf sc (Cl MT pr sc (d + 3)) (rtE none (mk X) σ2) (51, [(2, .int p1.1), (0, .ref 38), (1, .int x1)], [], mk X, p1.2)
            refine Ex.blk 1000 rfl ?_
            show Ex mr_X10_stepOf sc (Cl MT pr sc (d + 3)) (rtE none (mk X) σ2) (56, [(2, .int p1.1), (0, .ref 38), (1, .int x1)], [.int 4], mk X, p1.2)
            refine Ex.pick (lv' := _) [1, 2] rfl ?_
            exact lk_X10_stepOf_56 d _ _ _ h
          · refine And.intro (fun _ => ?_) (fun hn => absurd c5 hn)
            show Ex mr_X10_stepOf sc (Cl MT pr sc (d + 3)) (rtE none (mk X) σ2) (55, [(2, .int p1.1), (0, .ref 38), (1, .int x1)], [], mk X, p1.2)
            refine Ex.blk 1000 rfl ?_
            show Ex mr_X10_stepOf sc (Cl MT pr sc (d + 3)) (rtE none (mk X) σ2) (56, [(2, .int p1.1), (0, .ref 38), (1, .int x1)], [.int (-1)], mk X, p1.2)
            refine Ex.pick (lv' := _) [1, 2] rfl ?_
            exact lk_X10_stepOf_56 d _ _ _ h
theorem lk_X10_read_88 {pr : Ct} {sc : Nat × (Nat → Int32)} {X : En} (d : Nat) {r : Int32} {σ2 : St} (σ : St) (h : f_X10_read_88 σ = some (r, σ2)) : Ex mr_X10_read sc (Cl MT pr sc (d + 4)) (rtE (some (.int r)) (mk X) σ2) (88, [(0, .ref 38)], [], mk X, σ) := by
  unfold f_X10_read_88 at h
  refine Ex.blk 1000 rfl ?_
  cases h
  exact And.intro trivial ⟨rfl, rfl, rfl⟩
theorem lk_X10_read_68 {pr : Ct} {sc : Nat × (Nat → Int32)} {X : En} (d : Nat) {r : Int32} {σ2 : St} (σ : St) (h : f_X10_read_68 σ = some (r, σ2)) : Ex mr_X10_read sc (Cl MT pr sc (d + 4)) (rtE (some (.int r)) (mk X) σ2) (68, [(0, .ref 38)], [], mk X, σ) := by
  unfold f_X10_read_68 at h
  refine Ex.blk 1000 rfl ?_
  rcases ite_sp h with ⟨c1, h⟩ | ⟨c1, h⟩
  · refine And.intro (fun hp => absurd c1 hp) (fun _ => ?_)
    show Ex mr_X10_read sc (Cl MT pr sc (d + 4)) (rtE (some (.int r)) (mk X) σ2) (76, [(0, .ref 38)], [], mk X, σ)
    refine Ex.blk 2 rfl ?_
    obtain ⟨p2, hp2, h⟩ := bind_sp h
    refine Exists.intro (some (.int p2.1)) (Exists.intro (mk X) (Exists.intro p2.2 (And.intro (cl_X10_look (d + 2) hp2) ?_)))
    show Ex mr_X10_read sc (Cl MT pr sc (d + 4)) (rtE (some (.int r)) (mk X) σ2) (80, [(0, .ref 38)], [.int p2.1], mk X, p2.2)
    refine Ex.blk 1000 rfl ?_
    rcases ite_sp h with ⟨c2, h⟩ | ⟨c2, h⟩
    · refine And.intro (fun _ => ?_) (fun hn => absurd c2 hn)
      show Ex mr_X10_read sc (Cl MT pr sc (d + 4)) (rtE (some (.int r)) (mk X) σ2) (88, [(0, .ref 38)], [], mk X, p2.2)
      exact lk_X10_read_88 d _ h
    · refine And.intro (fun hp => absurd hp c2) (fun _ => ?_)
      show Ex mr_X10_read sc (Cl MT pr sc (d + 4)) (rtE (some (.int r)) (mk X) σ2) (84, [(0, .ref 38)], [], mk X, p2.2)
      refine Ex.blk 2 rfl ?_
      obtain ⟨p3, hp3, h⟩ := bind_sp h
      refine Exists.intro none (Exists.intro (mk X) (Exists.intro p3 (And.intro (cl_X10_bad (d + 3) hp3) ?_)))
      show Ex mr_X10_read sc (Cl MT pr sc (d + 4)) (rtE (some (.int r)) (mk X) σ2) (88, [(0, .ref 38)], [], mk X, p3)
      exact lk_X10_read_88 d _ h
  · refine And.intro (fun _ => ?_) (fun hn => absurd c1 hn)
    show Ex mr_X10_read sc (Cl MT pr sc (d + 4)) (rtE (some (.int r)) (mk X) σ2) (88, [(0, .ref 38)], [], mk X, σ)
    exact lk_X10_read_88 d _ h
theorem lk_X10_read_22 {pr : Ct} {sc : Nat × (Nat → Int32)} {X : En} (d : Nat) {r : Int32} {σ2 : St} : ∀ (n : Nat) (x1 : Int32) (σ : St), f_X10_read_22 n x1 σ = some (r, σ2) → Ex mr_X10_read sc (Cl MT pr sc (d + 4)) (rtE (some (.int r)) (mk X) σ2) (22, [(0, .ref 38), (1, .int x1)], [], mk X, σ) := by
  intro n
  induction n with
  | zero =>
    intro x1 σ h
    cases h
  | succ n ih =>
    intro x1 σ h
    simp only [f_X10_read_22] at h
    refine Ex.blk 1000 rfl ?_
    rcases ite_sp h with ⟨c1, h⟩ | ⟨c1, h⟩
    · refine And.intro (fun hp => absurd c1 hp) (fun _ => ?_)
      show Ex mr_X10_read sc (Cl MT pr sc (d + 4)) (rtE (some (.int r)) (mk X) σ2) (30, [(0, .ref 38), (1, .int x1)], [], mk X, σ)
      refine Ex.blk 2 rfl ?_
      obtain ⟨p4, hp4, h⟩ := bind_sp h
      refine Exists.intro (some (.int p4.1)) (Exists.intro (mk X) (Exists.intro p4.2 (And.intro (cl_X10_look (d + 2) hp4) ?_)))
      show Ex mr_X10_read sc (Cl MT pr sc (d + 4)) (rtE (some (.int r)) (mk X) σ2) (34, [(0, .ref 38), (1, .int x1)], [.int p4.1], mk X, p4.2)
      refine Ex.blk 1000 rfl ?_
      rcases ite_sp h with ⟨c2, h⟩ | ⟨c2, h⟩
      · refine And.intro (fun hp => absurd c2 hp) (fun _ => ?_)
        show Ex mr_X10_read sc (Cl MT pr sc (d + 4)) (rtE (some (.int r)) (mk X) σ2) (39, [(0, .ref 38), (1, .int x1)], [], mk X, p4.2)
        refine Ex.blk 4 rfl ?_
        obtain ⟨g3, h⟩ := gd_some h
        refine And.intro (inb_ok g3) ?_
        show Ex mr_X10_read sc (Cl MT pr sc (d + 4)) (rtE (some (.int r)) (mk X) σ2) (45, [(0, .ref 38), (1, .int x1)], [.int (gI p4.2 43 x1.toNatClampNeg)], mk X, p4.2)
        refine Ex.blk 1000 rfl ?_
        rcases ite_sp h with ⟨c4, h⟩ | ⟨c4, h⟩
        · refine And.intro (fun _ => ?_) (fun hn => absurd c4 hn)
          show Ex mr_X10_read sc (Cl MT pr sc (d + 4)) (rtE (some (.int r)) (mk X) σ2) (68, [(0, .ref 38), (1, .int x1)], [], mk X, p4.2)
          refine Ex.pick (lv' := _) [0] rfl ?_
          exact lk_X10_read_68 d _ h
        · refine And.intro (fun hp => absurd hp c4) (fun _ => ?_)
          show Ex mr_X10_read sc (Cl MT pr sc (d + 4)) (rtE (some (.int r)) (mk X) σ2) (50, [(0, .ref 38), (1, .int x1)], [], mk X, p4.2)
          refine Ex.blk 5 rfl ?_
          show Ex mr_X10_read sc (Cl MT pr sc (d + 4)) (rtE (some (.int r)) (mk X) σ2) (57, [(0, .ref 38), (1, .int x1)], [.int ((gI p4.2 38 4) + 1), .ref 38], mk X, p4.2)
          refine Ex.blk 4 rfl ?_
          obtain ⟨p5, hp5, h⟩ := bind_sp h
          refine Exists.intro none (Exists.intro (mk X) (Exists.intro p5 (And.intro (cl_X10_stepOf (d + 0) hp5) ?_)))
          show Ex mr_X10_read sc (Cl MT pr sc (d + 4)) (rtE (some (.int r)) (mk X) σ2) (65, [(0, .ref 38), (1, .int x1)], [], mk X, p5)
          refine Ex.blk 1000 rfl ?_
          show Ex mr_X10_read sc (Cl MT pr sc (d + 4)) (rtE (some (.int r)) (mk X) σ2) (22, [(0, .ref 38), (1, .int x1)], [], mk X, p5)
          exact ih _ _ h
      · refine And.intro (fun _ => ?_) (fun hn => absurd c2 hn)
        show Ex mr_X10_read sc (Cl MT pr sc (d + 4)) (rtE (some (.int r)) (mk X) σ2) (68, [(0, .ref 38), (1, .int x1)], [], mk X, p4.2)
        refine Ex.pick (lv' := _) [0] rfl ?_
        exact lk_X10_read_68 d _ h
    · refine And.intro (fun _ => ?_) (fun hn => absurd c1 hn)
      show Ex mr_X10_read sc (Cl MT pr sc (d + 4)) (rtE (some (.int r)) (mk X) σ2) (68, [(0, .ref 38), (1, .int x1)], [], mk X, σ)
      refine Ex.pick (lv' := _) [0] rfl ?_
      exact lk_X10_read_68 d _ h
theorem cl_X10_read {pr : Ct} {sc : Nat × (Nat → Int32)} {X : En} (d : Nat) {r : Int32} {σ2 : St} {x1 : Int32} {σ : St} (h : f_X10_read x1 σ = some (r, σ2)) : Cl MT pr sc (d + 4 + 1) 161 [.ref 38, .int x1] (mk X) σ (some (.int r)) (mk X) σ2 := by
  refine cl_of mr_X10_read rfl rfl ?_
  unfold f_X10_read at h
  refine Ex.blk 5 rfl ?_
  show Ex mr_X10_read sc (Cl MT pr sc (d + 4)) (rtE (some (.int r)) (mk X) σ2) (7, [(0, .ref 38), (1, .int x1)], [.int (-1), .ref 38], mk X, (sI σ 38 4 0))
  refine Ex.blk 5 rfl ?_
  show Ex mr_X10_read sc (Cl MT pr sc (d + 4)) (rtE (some (.int r)) (mk X) σ2) (16, [(0, .ref 38), (1, .int x1)], [.int 0, .int x1, .ref 43], mk X, (sI (sI σ 38 4 0) 38 5 (-1)))
  refine Ex.blk 1 rfl ?_
  obtain ⟨g1, h⟩ := gd_some h
  refine And.intro (inb_ok g1) ?_
  show Ex mr_X10_read sc (Cl MT pr sc (d + 4)) (rtE (some (.int r)) (mk X) σ2) (17, [(0, .ref 38), (1, .int x1)], [], mk X, (sI (sI (sI σ 38 4 0) 38 5 (-1)) 43 x1.toNatClampNeg 0))
  refine Ex.blk 3 rfl ?_
  obtain ⟨p1, hp1, h⟩ := bind_sp h
  refine Exists.intro none (Exists.intro (mk X) (Exists.intro p1 (And.intro (cl_X10_stepOf (d + 0) hp1) ?_)))
  show Ex mr_X10_read sc (Cl MT pr sc (d + 4)) (rtE (some (.int r)) (mk X) σ2) (22, [(0, .ref 38), (1, .int x1)], [], mk X, p1)
  exact lk_X10_read_22 d FU _ _ h
