theorem cl_X9_two {pr : Ct} {sc : Nat × (Nat → Int32)} {X : En} (d : Nat) {r : Int32} {σ2 : St} {x1 : Int32} {x2 : Int32} {σ : St} (h : f_X9_two x1 x2 σ = some (r, σ2)) : Cl MT pr sc (d + 1 + 1) 106 [.ref 0, .int x1, .int x2] (mk X) σ (some (.int r)) (mk X) σ2 := by
  refine cl_of mr_X9_two rfl rfl ?_
  unfold f_X9_two at h
  refine Ex.blk 3 rfl ?_
  obtain ⟨p1, hp1, h⟩ := bind_sp h
  refine Exists.intro (some (.int p1.1)) (Exists.intro (mk X) (Exists.intro p1.2 (And.intro (cl_X9_isRope (d + 0) hp1) ?_)))
  show Ex mr_X9_two sc (Cl MT pr sc (d + 1)) (rtE (some (.int r)) (mk X) σ2) (5, [(0, .ref 0), (1, .int x1), (2, .int x2)], [.int p1.1], mk X, p1.2)
  refine Ex.blk 1000 rfl ?_
  rcases ite_sp h with ⟨c1, h⟩ | ⟨c1, h⟩
  · refine And.intro (fun hp => absurd c1 hp) (fun _ => ?_)
    show Ex mr_X9_two sc (Cl MT pr sc (d + 1)) (rtE (some (.int r)) (mk X) σ2) (8, [(0, .ref 0), (1, .int x1), (2, .int x2)], [], mk X, p1.2)
    refine Ex.blk 1000 rfl ?_
    cases h
    exact And.intro isb_0 ⟨rfl, rfl, rfl⟩
  · refine And.intro (fun _ => ?_) (fun hn => absurd c1 hn)
    show Ex mr_X9_two sc (Cl MT pr sc (d + 1)) (rtE (some (.int r)) (mk X) σ2) (10, [(0, .ref 0), (1, .int x1), (2, .int x2)], [], mk X, p1.2)
    refine Ex.blk 5 rfl ?_
    show Ex mr_X9_two sc (Cl MT pr sc (d + 1)) (rtE (some (.int r)) (mk X) σ2) (21, [(0, .ref 0), (1, .int x1), (2, .int x2)], [.int (gI p1.2 1 4), .ref 1], mk X, p1.2)
    refine Ex.blk 3 rfl ?_
    obtain ⟨p2, hp2, h⟩ := bind_sp h
    refine Exists.intro (some (.int p2.1)) (Exists.intro (mk X) (Exists.intro p2.2 (And.intro (cl_X9_withBit (d + 0) hp2) ?_)))
    show Ex mr_X9_two sc (Cl MT pr sc (d + 1)) (rtE (some (.int r)) (mk X) σ2) (26, [(0, .ref 0), (1, .int x1), (2, .int x2)], [.int p2.1, .ref 1], mk X, p2.2)
    refine Ex.blk 1000 rfl ?_
    cases h
    exact And.intro isb_1 ⟨rfl, rfl, rfl⟩
theorem lk_J6_bitCount_0f7a4_48 {pr : Ct} {sc : Nat × (Nat → Int32)} {X : En} (d : Nat) {r : Int32} {σ2 : St} (x0 : Int32) (σ : St) (h : f_J6_bitCount_0f7a4_48 x0 σ = some (r, σ2)) : Ex mr_J6_bitCount_0f7a4 sc (Cl MT pr sc (d + 0)) (rtE (some (.int r)) (mk X) σ2) (48, [(0, .int x0)], [], mk X, σ) := by
  unfold f_J6_bitCount_0f7a4_48 at h
  refine Ex.blk 1000 rfl ?_
  cases h
  exact And.intro trivial ⟨rfl, rfl, rfl⟩
theorem lk_J6_bitCount_0f7a4_41 {pr : Ct} {sc : Nat × (Nat → Int32)} {X : En} (d : Nat) {r : Int32} {σ2 : St} (x0 : Int32) (σ : St) (h : f_J6_bitCount_0f7a4_41 x0 σ = some (r, σ2)) : Ex mr_J6_bitCount_0f7a4 sc (Cl MT pr sc (d + 0)) (rtE (some (.int r)) (mk X) σ2) (41, [(0, .int x0)], [], mk X, σ) := by
  unfold f_J6_bitCount_0f7a4_41 at h
  refine Ex.blk 5 rfl ?_
  show Ex mr_J6_bitCount_0f7a4 sc (Cl MT pr sc (d + 0)) (rtE (some (.int r)) (mk X) σ2) (47, [(0, .int x0)], [.int (x0 + (ushI x0 16))], mk X, σ)
  refine Ex.blk 1 rfl ?_
  show Ex mr_J6_bitCount_0f7a4 sc (Cl MT pr sc (d + 0)) (rtE (some (.int r)) (mk X) σ2) (48, [(0, .int (x0 + (ushI x0 16)))], [], mk X, σ)
  exact lk_J6_bitCount_0f7a4_48 d _ _ h
theorem lk_J6_bitCount_0f7a4_34 {pr : Ct} {sc : Nat × (Nat → Int32)} {X : En} (d : Nat) {r : Int32} {σ2 : St} (x0 : Int32) (σ : St) (h : f_J6_bitCount_0f7a4_34 x0 σ = some (r, σ2)) : Ex mr_J6_bitCount_0f7a4 sc (Cl MT pr sc (d + 0)) (rtE (some (.int r)) (mk X) σ2) (34, [(0, .int x0)], [], mk X, σ) := by
  unfold f_J6_bitCount_0f7a4_34 at h
  refine Ex.blk 5 rfl ?_
  show Ex mr_J6_bitCount_0f7a4 sc (Cl MT pr sc (d + 0)) (rtE (some (.int r)) (mk X) σ2) (40, [(0, .int x0)], [.int (x0 + (ushI x0 8))], mk X, σ)
  refine Ex.blk 1 rfl ?_
  show Ex mr_J6_bitCount_0f7a4 sc (Cl MT pr sc (d + 0)) (rtE (some (.int r)) (mk X) σ2) (41, [(0, .int (x0 + (ushI x0 8)))], [], mk X, σ)
  exact lk_J6_bitCount_0f7a4_41 d _ _ h
theorem lk_J6_bitCount_0f7a4_24 {pr : Ct} {sc : Nat × (Nat → Int32)} {X : En} (d : Nat) {r : Int32} {σ2 : St} (x0 : Int32) (σ : St) (h : f_J6_bitCount_0f7a4_24 x0 σ = some (r, σ2)) : Ex mr_J6_bitCount_0f7a4 sc (Cl MT pr sc (d + 0)) (rtE (some (.int r)) (mk X) σ2) (24, [(0, .int x0)], [], mk X, σ) := by
  unfold f_J6_bitCount_0f7a4_24 at h
  refine Ex.blk 5 rfl ?_
  show Ex mr_J6_bitCount_0f7a4 sc (Cl MT pr sc (d + 0)) (rtE (some (.int r)) (mk X) σ2) (29, [(0, .int x0)], [.int (x0 + (ushI x0 4))], mk X, σ)
  refine Ex.blk 3 rfl ?_
  show Ex mr_J6_bitCount_0f7a4 sc (Cl MT pr sc (d + 0)) (rtE (some (.int r)) (mk X) σ2) (34, [(0, .int ((x0 + (ushI x0 4)) &&& 252645135))], [], mk X, σ)
  exact lk_J6_bitCount_0f7a4_34 d _ _ h
theorem lk_J6_bitCount_0f7a4_10 {pr : Ct} {sc : Nat × (Nat → Int32)} {X : En} (d : Nat) {r : Int32} {σ2 : St} (x0 : Int32) (σ : St) (h : f_J6_bitCount_0f7a4_10 x0 σ = some (r, σ2)) : Ex mr_J6_bitCount_0f7a4 sc (Cl MT pr sc (d + 0)) (rtE (some (.int r)) (mk X) σ2) (10, [(0, .int x0)], [], mk X, σ) := by
  unfold f_J6_bitCount_0f7a4_10 at h
  refine Ex.blk 5 rfl ?_
  show Ex mr_J6_bitCount_0f7a4 sc (Cl MT pr sc (d + 0)) (rtE (some (.int r)) (mk X) σ2) (17, [(0, .int x0)], [.int 2, .int x0, .int (x0 &&& 858993459)], mk X, σ)
  refine Ex.blk 5 rfl ?_
  show Ex mr_J6_bitCount_0f7a4 sc (Cl MT pr sc (d + 0)) (rtE (some (.int r)) (mk X) σ2) (24, [(0, .int ((x0 &&& 858993459) + ((ushI x0 2) &&& 858993459)))], [], mk X, σ)
  exact lk_J6_bitCount_0f7a4_24 d _ _ h
theorem cl_J6_bitCount_0f7a4 {pr : Ct} {sc : Nat × (Nat → Int32)} {X : En} (d : Nat) {r : Int32} {σ2 : St} {x0 : Int32} {σ : St} (h : f_J6_bitCount_0f7a4 x0 σ = some (r, σ2)) : Cl MT pr sc (d + 0 + 1) 107 [.int x0] (mk X) σ (some (.int r)) (mk X) σ2 := by
  refine cl_of mr_J6_bitCount_0f7a4 rfl rfl ?_
  unfold f_J6_bitCount_0f7a4 at h
  refine Ex.blk 5 rfl ?_
  show Ex mr_J6_bitCount_0f7a4 sc (Cl MT pr sc (d + 0)) (rtE (some (.int r)) (mk X) σ2) (7, [(0, .int x0)], [.int 1431655765, .int (ushI x0 1), .int x0], mk X, σ)
  refine Ex.blk 3 rfl ?_
  show Ex mr_J6_bitCount_0f7a4 sc (Cl MT pr sc (d + 0)) (rtE (some (.int r)) (mk X) σ2) (10, [(0, .int (x0 - ((ushI x0 1) &&& 1431655765)))], [], mk X, σ)
  exact lk_J6_bitCount_0f7a4_10 d _ _ h
theorem lk_X9_fog_35 {pr : Ct} {sc : Nat × (Nat → Int32)} {X : En} (d : Nat) {r : Int32} {σ2 : St} (x1 : Int32) (x2 : Int32) (σ : St) (h : f_X9_fog_35 x1 x2 σ = some (r, σ2)) : Ex mr_X9_fog sc (Cl MT pr sc (d + 1)) (rtE (some (.int r)) (mk X) σ2) (35, [(0, .ref 0), (1, .int x1), (2, .int x2)], [], mk X, σ) := by
  unfold f_X9_fog_35 at h
  refine Ex.blk 5 rfl ?_
  show Ex mr_X9_fog sc (Cl MT pr sc (d + 1)) (rtE (some (.int r)) (mk X) σ2) (46, [(0, .ref 0), (1, .int x1), (2, .int x2)], [.int (gI σ 1 5), .ref 1], mk X, σ)
  refine Ex.blk 3 rfl ?_
  obtain ⟨p2, hp2, h⟩ := bind_sp h
  refine Exists.intro (some (.int p2.1)) (Exists.intro (mk X) (Exists.intro p2.2 (And.intro (cl_X9_withBit (d + 0) hp2) ?_)))
  show Ex mr_X9_fog sc (Cl MT pr sc (d + 1)) (rtE (some (.int r)) (mk X) σ2) (51, [(0, .ref 0), (1, .int x1), (2, .int x2)], [.int p2.1, .ref 1], mk X, p2.2)
  refine Ex.blk 1000 rfl ?_
  cases h
  exact And.intro isb_1 ⟨rfl, rfl, rfl⟩
theorem cl_X9_fog {pr : Ct} {sc : Nat × (Nat → Int32)} {X : En} (d : Nat) {r : Int32} {σ2 : St} {x1 : Int32} {x2 : Int32} {σ : St} (h : f_X9_fog x1 x2 σ = some (r, σ2)) : Cl MT pr sc (d + 1 + 1) 108 [.ref 0, .int x1, .int x2] (mk X) σ (some (.int r)) (mk X) σ2 := by
  refine cl_of mr_X9_fog rfl rfl ?_
  unfold f_X9_fog at h
  refine Ex.blk 3 rfl ?_
  obtain ⟨p1, hp1, h⟩ := bind_sp h
  refine Exists.intro (some (.int p1.1)) (Exists.intro (mk X) (Exists.intro p1.2 (And.intro (cl_X9_isRope (d + 0) hp1) ?_)))
  show Ex mr_X9_fog sc (Cl MT pr sc (d + 1)) (rtE (some (.int r)) (mk X) σ2) (5, [(0, .ref 0), (1, .int x1), (2, .int x2)], [.int p1.1], mk X, p1.2)
  refine Ex.blk 1000 rfl ?_
  rcases ite_sp h with ⟨c1, h⟩ | ⟨c1, h⟩
  · refine And.intro (fun hp => absurd c1 hp) (fun _ => ?_)
    show Ex mr_X9_fog sc (Cl MT pr sc (d + 1)) (rtE (some (.int r)) (mk X) σ2) (8, [(0, .ref 0), (1, .int x1), (2, .int x2)], [], mk X, p1.2)
    refine Ex.blk 1000 rfl ?_
    cases h
    exact And.intro isb_0 ⟨rfl, rfl, rfl⟩
  · refine And.intro (fun _ => ?_) (fun hn => absurd c1 hn)
    show Ex mr_X9_fog sc (Cl MT pr sc (d + 1)) (rtE (some (.int r)) (mk X) σ2) (10, [(0, .ref 0), (1, .int x1), (2, .int x2)], [], mk X, p1.2)
    refine Ex.blk 1000 rfl ?_
    rcases ite_sp h with ⟨c2, h⟩ | ⟨c2, h⟩
    · refine And.intro (fun _ => ?_) (fun hn => absurd c2 hn)
      show Ex mr_X9_fog sc (Cl MT pr sc (d + 1)) (rtE (some (.int r)) (mk X) σ2) (35, [(0, .ref 0), (1, .int x1), (2, .int x2)], [], mk X, p1.2)
      exact lk_X9_fog_35 d _ _ _ h
    · refine And.intro (fun hp => absurd hp c2) (fun _ => ?_)
      show Ex mr_X9_fog sc (Cl MT pr sc (d + 1)) (rtE (some (.int r)) (mk X) σ2) (14, [(0, .ref 0), (1, .int x1), (2, .int x2)], [], mk X, p1.2)
      refine Ex.blk 5 rfl ?_
      show Ex mr_X9_fog sc (Cl MT pr sc (d + 1)) (rtE (some (.int r)) (mk X) σ2) (23, [(0, .ref 0), (1, .int x1), (2, .int x2)], [.int 0, .int x1, .int (gI p1.2 1 5)], mk X, p1.2)
      refine Ex.blk 1 rfl ?_
      obtain ⟨p3, hp3, h⟩ := bind_sp h
      refine Exists.intro (some (.int p3.1)) (Exists.intro (mk X) (Exists.intro p3.2 (And.intro (cl_X9_withBit (d + 0) hp3) ?_)))
      show Ex mr_X9_fog sc (Cl MT pr sc (d + 1)) (rtE (some (.int r)) (mk X) σ2) (26, [(0, .ref 0), (1, .int x1), (2, .int x2)], [.int p3.1], mk X, p3.2)
      refine Ex.blk 1 rfl ?_
      obtain ⟨p4, hp4, h⟩ := bind_sp h
      refine Exists.intro (some (.int p4.1)) (Exists.intro (mk X) (Exists.intro p4.2 (And.intro (cl_J6_bitCount_0f7a4 (d + 0) hp4) ?_)))
      show Ex mr_X9_fog sc (Cl MT pr sc (d + 1)) (rtE (some (.int r)) (mk X) σ2) (29, [(0, .ref 0), (1, .int x1), (2, .int x2)], [.int p4.1], mk X, p4.2)
      refine Ex.blk 1000 rfl ?_
      rcases ite_sp h with ⟨c3, h⟩ | ⟨c3, h⟩
      · refine And.intro (fun _ => ?_) (fun hn => absurd c3 hn)
        show Ex mr_X9_fog sc (Cl MT pr sc (d + 1)) (rtE (some (.int r)) (mk X) σ2) (35, [(0, .ref 0), (1, .int x1), (2, .int x2)], [], mk X, p4.2)
        exact lk_X9_fog_35 d _ _ _ h
      · refine And.intro (fun hp => absurd hp c3) (fun _ => ?_)
        show Ex mr_X9_fog sc (Cl MT pr sc (d + 1)) (rtE (some (.int r)) (mk X) σ2) (33, [(0, .ref 0), (1, .int x1), (2, .int x2)], [], mk X, p4.2)
        refine Ex.blk 1000 rfl ?_
        cases h
        exact And.intro isb_0 ⟨rfl, rfl, rfl⟩
theorem lk_X9_isBell_16 {pr : Ct} {sc : Nat × (Nat → Int32)} {X : En} (d : Nat) {r : Int32} {σ2 : St} (y0 : Int32) (σ : St) (h : f_X9_isBell_16 y0 σ = some (r, σ2)) : Ex mr_X9_isBell sc (Cl MT pr sc (d + 0)) (rtE (some (.int r)) (mk X) σ2) (16, [], [.int y0], mk X, σ) := by
  unfold f_X9_isBell_16 at h
  refine Ex.blk 1000 rfl ?_
  obtain ⟨g1, h⟩ := gd_some h
  cases h
  exact And.intro (isbb_ok g1) ⟨rfl, rfl, rfl⟩
theorem lk_X9_isBell_15 {pr : Ct} {sc : Nat × (Nat → Int32)} {X : En} (d : Nat) {r : Int32} {σ2 : St} (σ : St) (h : f_X9_isBell_15 σ = some (r, σ2)) : Ex mr_X9_isBell sc (Cl MT pr sc (d + 0)) (rtE (some (.int r)) (mk X) σ2) (15, [], [], mk X, σ) := by
  unfold f_X9_isBell_15 at h
  refine Ex.blk 1000 rfl ?_
  show Ex mr_X9_isBell sc (Cl MT pr sc (d + 0)) (rtE (some (.int r)) (mk X) σ2) (16, [], [.int 0], mk X, σ)
  exact lk_X9_isBell_16 d _ _ h
theorem cl_X9_isBell {pr : Ct} {sc : Nat × (Nat → Int32)} {X : En} (d : Nat) {r : Int32} {σ2 : St} {x0 : Int32} {σ : St} (h : f_X9_isBell x0 σ = some (r, σ2)) : Cl MT pr sc (d + 0 + 1) 109 [.int x0] (mk X) σ (some (.int r)) (mk X) σ2 := by
  refine cl_of mr_X9_isBell rfl rfl ?_
  unfold f_X9_isBell at h
  refine Ex.blk 1000 rfl ?_
  rcases ite_sp h with ⟨c1, h⟩ | ⟨c1, h⟩
  · refine And.intro (fun _ => ?_) (fun hn => absurd c1 hn)
    show Ex mr_X9_isBell sc (Cl MT pr sc (d + 0)) (rtE (some (.int r)) (mk X) σ2) (15, [(0, .int x0)], [], mk X, σ)
    refine Ex.pick (lv' := _) [] rfl ?_
    exact lk_X9_isBell_15 d _ h
  · refine And.intro (fun hp => absurd hp c1) (fun _ => ?_)
    show Ex mr_X9_isBell sc (Cl MT pr sc (d + 0)) (rtE (some (.int r)) (mk X) σ2) (5, [(0, .int x0)], [], mk X, σ)
    refine Ex.blk 1000 rfl ?_
    rcases ite_sp h with ⟨c2, h⟩ | ⟨c2, h⟩
    · refine And.intro (fun _ => ?_) (fun hn => absurd c2 hn)
      show Ex mr_X9_isBell sc (Cl MT pr sc (d + 0)) (rtE (some (.int r)) (mk X) σ2) (15, [(0, .int x0)], [], mk X, σ)
      refine Ex.pick (lv' := _) [] rfl ?_
      exact lk_X9_isBell_15 d _ h
    · refine And.intro (fun hp => absurd hp c2) (fun _ => ?_)
      show Ex mr_X9_isBell sc (Cl MT pr sc (d + 0)) (rtE (some (.int r)) (mk X) σ2) (11, [(0, .int x0)], [], mk X, σ)
      refine Ex.blk 1000 rfl ?_
      show Ex mr_X9_isBell sc (Cl MT pr sc (d + 0)) (rtE (some (.int r)) (mk X) σ2) (16, [(0, .int x0)], [.int 1], mk X, σ)
      refine Ex.pick (lv' := _) [] rfl ?_
      exact lk_X9_isBell_16 d _ _ h
theorem lk_X7_valueSeen_1_27 {pr : Ct} {sc : Nat × (Nat → Int32)} {X : En} (d : Nat) {r : Int64} {σ2 : St} (k4 : Int64 → Int32 → St → Option (Int64 × St)) (hk4 : ∀ (x1 : Int64) (x3 : Int32) (σ : St), k4 x1 x3 σ = some (r, σ2) → Ex mr_X7_valueSeen sc (Cl MT pr sc (d + 2)) (rtE (some (.long r)) (mk X) σ2) (4, [(0, .ref 1), (1, .long x1), (3, .int x3)], [], mk X, σ)) (x1 : Int64) (x3 : Int32) (σ : St) (h : f_X7_valueSeen_27 1 k4 x1 x3 σ = some (r, σ2)) : Ex mr_X7_valueSeen sc (Cl MT pr sc (d + 2)) (rtE (some (.long r)) (mk X) σ2) (27, [(0, .ref 1), (1, .long x1), (3, .int x3)], [], mk X, σ) := by
  unfold f_X7_valueSeen_27 at h
  refine Ex.blk 1000 rfl ?_
  show Ex mr_X7_valueSeen sc (Cl MT pr sc (d + 2)) (rtE (some (.long r)) (mk X) σ2) (4, [(3, .int (x3 + 1)), (0, .ref 1), (1, .long x1)], [], mk X, σ)
  refine Ex.pick (lv' := _) [1, 2, 0] rfl ?_
  exact hk4 _ _ _ h
theorem lk_X7_valueSeen_1_4 {pr : Ct} {sc : Nat × (Nat → Int32)} {X : En} (d : Nat) {r : Int64} {σ2 : St} : ∀ (n : Nat) (x1 : Int64) (x3 : Int32) (σ : St), f_X7_valueSeen_4 1 n x1 x3 σ = some (r, σ2) → Ex mr_X7_valueSeen sc (Cl MT pr sc (d + 2)) (rtE (some (.long r)) (mk X) σ2) (4, [(0, .ref 1), (1, .long x1), (3, .int x3)], [], mk X, σ) := by
  intro n
  induction n with
  | zero =>
    intro x1 x3 σ h
    cases h
  | succ n ih =>
    intro x1 x3 σ h
    simp only [f_X7_valueSeen_4] at h
    refine Ex.blk 1000 rfl ?_
    rcases ite_sp h with ⟨c1, h⟩ | ⟨c1, h⟩
    · refine And.intro (fun _ => ?_) (fun hn => absurd c1 hn)
      show Ex mr_X7_valueSeen sc (Cl MT pr sc (d + 2)) (rtE (some (.long r)) (mk X) σ2) (33, [(0, .ref 1), (1, .long x1), (3, .int x3)], [], mk X, σ)
      refine Ex.blk 1000 rfl ?_
      cases h
      exact And.intro trivial ⟨rfl, rfl, rfl⟩
    · refine And.intro (fun hp => absurd hp c1) (fun _ => ?_)
      show Ex mr_X7_valueSeen sc (Cl MT pr sc (d + 2)) (rtE (some (.long r)) (mk X) σ2) (12, [(0, .ref 1), (1, .long x1), (3, .int x3)], [], mk X, σ)
      refine Ex.blk 4 rfl ?_
      obtain ⟨p1, hp1, h⟩ := bind_sp h
      refine Exists.intro (some (.int p1.1)) (Exists.intro (mk X) (Exists.intro p1.2 (And.intro (cl_X7_seen_1 (d + 0) hp1) ?_)))
      show Ex mr_X7_valueSeen sc (Cl MT pr sc (d + 2)) (rtE (some (.long r)) (mk X) σ2) (18, [(0, .ref 1), (1, .long x1), (3, .int x3)], [.int p1.1, .long x1], mk X, p1.2)
      refine Ex.blk 4 rfl ?_
      obtain ⟨g2, h⟩ := gd_some h
      refine And.intro (inb_ok g2) ?_
      show Ex mr_X7_valueSeen sc (Cl MT pr sc (d + 2)) (rtE (some (.long r)) (mk X) σ2) (24, [(0, .ref 1), (1, .long x1), (3, .int x3)], [.long (tens x3.toNatClampNeg), .long p1.1.toInt64, .long x1], mk X, p1.2)
      refine Ex.blk 3 rfl ?_
      show Ex mr_X7_valueSeen sc (Cl MT pr sc (d + 2)) (rtE (some (.long r)) (mk X) σ2) (27, [(1, .long (x1 + (p1.1.toInt64 * (tens x3.toNatClampNeg)))), (0, .ref 1), (3, .int x3)], [], mk X, p1.2)
      refine Ex.pick (lv' := _) [1, 0, 2] rfl ?_
      exact lk_X7_valueSeen_1_27 d _ ih _ _ _ h
theorem cl_X7_valueSeen_1 {pr : Ct} {sc : Nat × (Nat → Int32)} {X : En} (d : Nat) {r : Int64} {σ2 : St} {σ : St} (h : f_X7_valueSeen 1 σ = some (r, σ2)) : Cl MT pr sc (d + 2 + 1) 69 [.ref 1] (mk X) σ (some (.long r)) (mk X) σ2 := by
  refine cl_of mr_X7_valueSeen rfl rfl ?_
  unfold f_X7_valueSeen at h
  refine Ex.blk 1000 rfl ?_
  show Ex mr_X7_valueSeen sc (Cl MT pr sc (d + 2)) (rtE (some (.long r)) (mk X) σ2) (4, [(3, .int 0), (1, .long 0), (0, .ref 1)], [], mk X, σ)
  refine Ex.pick (lv' := _) [2, 1, 0] rfl ?_
  exact lk_X7_valueSeen_1_4 d FU _ _ _ h
theorem cl_X9_bell {pr : Ct} {sc : Nat × (Nat → Int32)} {X : En} (d : Nat) {r : Int32} {σ2 : St} {x1 : Int32} {σ : St} (h : f_X9_bell x1 σ = some (r, σ2)) : Cl MT pr sc (d + 3 + 1) 110 [.ref 0, .int x1] (mk X) σ (some (.int r)) (mk X) σ2 := by
  refine cl_of mr_X9_bell rfl rfl ?_
  unfold f_X9_bell at h
  refine Ex.blk 2 rfl ?_
  obtain ⟨p1, hp1, h⟩ := bind_sp h
  refine Exists.intro (some (.int p1.1)) (Exists.intro (mk X) (Exists.intro p1.2 (And.intro (cl_X9_isBell (d + 2) hp1) ?_)))
  show Ex mr_X9_bell sc (Cl MT pr sc (d + 3)) (rtE (some (.int r)) (mk X) σ2) (4, [(0, .ref 0), (1, .int x1)], [.int p1.1], mk X, p1.2)
  refine Ex.blk 1000 rfl ?_
  rcases ite_sp h with ⟨c1, h⟩ | ⟨c1, h⟩
  · refine And.intro (fun hp => absurd c1 hp) (fun _ => ?_)
    show Ex mr_X9_bell sc (Cl MT pr sc (d + 3)) (rtE (some (.int r)) (mk X) σ2) (7, [(0, .ref 0), (1, .int x1)], [], mk X, p1.2)
    refine Ex.blk 1000 rfl ?_
    cases h
    exact And.intro trivial ⟨rfl, rfl, rfl⟩
  · refine And.intro (fun _ => ?_) (fun hn => absurd c1 hn)
    show Ex mr_X9_bell sc (Cl MT pr sc (d + 3)) (rtE (some (.int r)) (mk X) σ2) (9, [(0, .ref 0), (1, .int x1)], [], mk X, p1.2)
    refine Ex.blk 1000 rfl ?_
    rcases ite_sp h with ⟨c2, h⟩ | ⟨c2, h⟩
    · refine And.intro (fun _ => ?_) (fun hn => absurd c2 hn)
      show Ex mr_X9_bell sc (Cl MT pr sc (d + 3)) (rtE (some (.int r)) (mk X) σ2) (22, [(0, .ref 0), (1, .int x1)], [], mk X, p1.2)
      refine Ex.blk 3 rfl ?_
      obtain ⟨p2, hp2, h⟩ := bind_sp h
      refine Exists.intro (some (.long p2.1)) (Exists.intro (mk X) (Exists.intro p2.2 (And.intro (cl_X7_valueSeen_1 (d + 0) hp2) ?_)))
      show Ex mr_X9_bell sc (Cl MT pr sc (d + 3)) (rtE (some (.int r)) (mk X) σ2) (29, [(0, .ref 0), (1, .int x1)], [.long p2.1], mk X, p2.2)
      refine Ex.blk 3 rfl ?_
      obtain ⟨g3, h⟩ := gd_some h
      refine And.intro (nzJ_ok g3) ?_
      show Ex mr_X9_bell sc (Cl MT pr sc (d + 3)) (rtE (some (.int r)) (mk X) σ2) (32, [(0, .ref 0), (1, .int x1)], [.long (rmJ p2.1 x1.toInt64)], mk X, p2.2)
      refine Ex.blk 1000 rfl ?_
      cases h
      exact And.intro trivial ⟨rfl, rfl, rfl⟩
    · refine And.intro (fun hp => absurd hp c2) (fun _ => ?_)
      show Ex mr_X9_bell sc (Cl MT pr sc (d + 3)) (rtE (some (.int r)) (mk X) σ2) (19, [(0, .ref 0), (1, .int x1)], [], mk X, p1.2)
      refine Ex.blk 1000 rfl ?_
      cases h
      exact And.intro trivial ⟨rfl, rfl, rfl⟩
theorem lk_X9_isRest_25 {pr : Ct} {sc : Nat × (Nat → Int32)} {X : En} (d : Nat) {r : Int32} {σ2 : St} (y0 : Int32) (σ : St) (h : f_X9_isRest_25 y0 σ = some (r, σ2)) : Ex mr_X9_isRest sc (Cl MT pr sc (d + 0)) (rtE (some (.int r)) (mk X) σ2) (25, [], [.int y0], mk X, σ) := by
  unfold f_X9_isRest_25 at h
  refine Ex.blk 1000 rfl ?_
  obtain ⟨g1, h⟩ := gd_some h
  cases h
  exact And.intro (isbb_ok g1) ⟨rfl, rfl, rfl⟩
theorem lk_X9_isRest_24 {pr : Ct} {sc : Nat × (Nat → Int32)} {X : En} (d : Nat) {r : Int32} {σ2 : St} (σ : St) (h : f_X9_isRest_24 σ = some (r, σ2)) : Ex mr_X9_isRest sc (Cl MT pr sc (d + 0)) (rtE (some (.int r)) (mk X) σ2) (24, [], [], mk X, σ) := by
  unfold f_X9_isRest_24 at h
  refine Ex.blk 1000 rfl ?_
  show Ex mr_X9_isRest sc (Cl MT pr sc (d + 0)) (rtE (some (.int r)) (mk X) σ2) (25, [], [.int 0], mk X, σ)
  exact lk_X9_isRest_25 d _ _ h
theorem cl_X9_isRest {pr : Ct} {sc : Nat × (Nat → Int32)} {X : En} (d : Nat) {r : Int32} {σ2 : St} {x0 : Int32} {x1 : Int32} {σ : St} (h : f_X9_isRest x0 x1 σ = some (r, σ2)) : Cl MT pr sc (d + 0 + 1) 113 [.int x0, .int x1] (mk X) σ (some (.int r)) (mk X) σ2 := by
  refine cl_of mr_X9_isRest rfl rfl ?_
  unfold f_X9_isRest at h
  refine Ex.blk 1000 rfl ?_
  rcases ite_sp h with ⟨c1, h⟩ | ⟨c1, h⟩
  · refine And.intro (fun _ => ?_) (fun hn => absurd c1 hn)
    show Ex mr_X9_isRest sc (Cl MT pr sc (d + 0)) (rtE (some (.int r)) (mk X) σ2) (24, [(0, .int x0), (1, .int x1)], [], mk X, σ)
    refine Ex.pick (lv' := _) [] rfl ?_
    exact lk_X9_isRest_24 d _ h
  · refine And.intro (fun hp => absurd hp c1) (fun _ => ?_)
    show Ex mr_X9_isRest sc (Cl MT pr sc (d + 0)) (rtE (some (.int r)) (mk X) σ2) (5, [(0, .int x0), (1, .int x1)], [], mk X, σ)
    refine Ex.blk 1000 rfl ?_
    rcases ite_sp h with ⟨c2, h⟩ | ⟨c2, h⟩
    · refine And.intro (fun _ => ?_) (fun hn => absurd c2 hn)
      show Ex mr_X9_isRest sc (Cl MT pr sc (d + 0)) (rtE (some (.int r)) (mk X) σ2) (24, [(0, .int x0), (1, .int x1)], [], mk X, σ)
      refine Ex.pick (lv' := _) [] rfl ?_
      exact lk_X9_isRest_24 d _ h
    · refine And.intro (fun hp => absurd hp c2) (fun _ => ?_)
      show Ex mr_X9_isRest sc (Cl MT pr sc (d + 0)) (rtE (some (.int r)) (mk X) σ2) (11, [(0, .int x0), (1, .int x1)], [], mk X, σ)
      refine Ex.blk 1000 rfl ?_
      rcases ite_sp h with ⟨c3, h⟩ | ⟨c3, h⟩
      · refine And.intro (fun _ => ?_) (fun hn => absurd c3 hn)
        show Ex mr_X9_isRest sc (Cl MT pr sc (d + 0)) (rtE (some (.int r)) (mk X) σ2) (24, [(0, .int x0), (1, .int x1)], [], mk X, σ)
        refine Ex.pick (lv' := _) [] rfl ?_
        exact lk_X9_isRest_24 d _ h
      · refine And.intro (fun hp => absurd hp c3) (fun _ => ?_)
        show Ex mr_X9_isRest sc (Cl MT pr sc (d + 0)) (rtE (some (.int r)) (mk X) σ2) (15, [(0, .int x0), (1, .int x1)], [], mk X, σ)
        refine Ex.blk 1000 rfl ?_
        rcases ite_sp h with ⟨c4, h⟩ | ⟨c4, h⟩
        · refine And.intro (fun _ => ?_) (fun hn => absurd c4 hn)
          show Ex mr_X9_isRest sc (Cl MT pr sc (d + 0)) (rtE (some (.int r)) (mk X) σ2) (24, [(0, .int x0), (1, .int x1)], [], mk X, σ)
          refine Ex.pick (lv' := _) [] rfl ?_
          exact lk_X9_isRest_24 d _ h
        · refine And.intro (fun hp => absurd hp c4) (fun _ => ?_)
          show Ex mr_X9_isRest sc (Cl MT pr sc (d + 0)) (rtE (some (.int r)) (mk X) σ2) (20, [(0, .int x0), (1, .int x1)], [], mk X, σ)
          refine Ex.blk 1000 rfl ?_
          show Ex mr_X9_isRest sc (Cl MT pr sc (d + 0)) (rtE (some (.int r)) (mk X) σ2) (25, [(0, .int x0), (1, .int x1)], [.int 1], mk X, σ)
          refine Ex.pick (lv' := _) [] rfl ?_
          exact lk_X9_isRest_25 d _ _ h
theorem lk_X9_astray_13 {pr : Ct} {sc : Nat × (Nat → Int32)} {X : En} (d : Nat) {r : Int32} {σ2 : St} (σ : St) (h : f_X9_astray_13 σ = some (r, σ2)) : Ex mr_X9_astray sc (Cl MT pr sc (d + 3)) (rtE (some (.int r)) (mk X) σ2) (13, [], [], mk X, σ) := by
  unfold f_X9_astray_13 at h
  refine Ex.blk 1000 rfl ?_
  cases h
  exact And.intro trivial ⟨rfl, rfl, rfl⟩
theorem lk_X9_astray_164 {pr : Ct} {sc : Nat × (Nat → Int32)} {X : En} (d : Nat) {r : Int32} {σ2 : St} (y0 : Int32) (σ : St) (h : f_X9_astray_164 y0 σ = some (r, σ2)) : Ex mr_X9_astray sc (Cl MT pr sc (d + 3)) (rtE (some (.int r)) (mk X) σ2) (164, [], [.int y0], mk X, σ) := by
  unfold f_X9_astray_164 at h
  refine Ex.blk 1000 rfl ?_
  cases h
  exact And.intro trivial ⟨rfl, rfl, rfl⟩
theorem lk_X9_astray_141 {pr : Ct} {sc : Nat × (Nat → Int32)} {X : En} (d : Nat) {r : Int32} {σ2 : St} (k43 : Int32 → Int32 → Int32 → Int64 → Int32 → Int32 → St → Option (Int32 × St)) (k80 : Int32 → Int32 → Int32 → Int64 → Int32 → Int32 → Int64 → Int32 → St → Option (Int32 × St)) (hk43 : ∀ (x1 : Int32) (x2 : Int32) (x3 : Int32) (x4 : Int64) (x6 : Int32) (x7 : Int32) (σ : St), k43 x1 x2 x3 x4 x6 x7 σ = some (r, σ2) → Ex mr_X9_astray sc (Cl MT pr sc (d + 3)) (rtE (some (.int r)) (mk X) σ2) (43, [(0, .ref 0), (1, .int x1), (2, .int x2), (3, .int x3), (4, .long x4), (6, .int x6), (7, .int x7)], [], mk X, σ)) (hk80 : ∀ (x1 : Int32) (x2 : Int32) (x3 : Int32) (x4 : Int64) (x6 : Int32) (x7 : Int32) (x8 : Int64) (x10 : Int32) (σ : St), k80 x1 x2 x3 x4 x6 x7 x8 x10 σ = some (r, σ2) → Ex mr_X9_astray sc (Cl MT pr sc (d + 3)) (rtE (some (.int r)) (mk X) σ2) (80, [(0, .ref 0), (1, .int x1), (2, .int x2), (3, .int x3), (4, .long x4), (6, .int x6), (7, .int x7), (8, .long x8), (10, .int x10)], [], mk X, σ)) (x1 : Int32) (x2 : Int32) (x3 : Int32) (x4 : Int64) (x6 : Int32) (x7 : Int32) (x8 : Int64) (x10 : Int32) (σ : St) (h : f_X9_astray_141 k43 k80 x1 x2 x3 x4 x6 x7 x8 x10 σ = some (r, σ2)) : Ex mr_X9_astray sc (Cl MT pr sc (d + 3)) (rtE (some (.int r)) (mk X) σ2) (141, [(0, .ref 0), (1, .int x1), (2, .int x2), (3, .int x3), (4, .long x4), (6, .int x6), (7, .int x7), (8, .long x8), (10, .int x10)], [], mk X, σ) := by
  unfold f_X9_astray_141 at h
  refine Ex.blk 1000 rfl ?_
  show Ex mr_X9_astray sc (Cl MT pr sc (d + 3)) (rtE (some (.int r)) (mk X) σ2) (80, [(10, .int (x10 + 1)), (0, .ref 0), (1, .int x1), (2, .int x2), (3, .int x3), (4, .long x4), (6, .int x6), (7, .int x7), (8, .long x8)], [], mk X, σ)
  refine Ex.pick (lv' := _) [1, 2, 3, 4, 5, 6, 7, 8, 0] rfl ?_
  exact hk80 _ _ _ _ _ _ _ _ _ h
theorem lk_X9_astray_80 {pr : Ct} {sc : Nat × (Nat → Int32)} {X : En} (d : Nat) {r : Int32} {σ2 : St} (k43 : Int32 → Int32 → Int32 → Int64 → Int32 → Int32 → St → Option (Int32 × St)) (hk43 : ∀ (x1 : Int32) (x2 : Int32) (x3 : Int32) (x4 : Int64) (x6 : Int32) (x7 : Int32) (σ : St), k43 x1 x2 x3 x4 x6 x7 σ = some (r, σ2) → Ex mr_X9_astray sc (Cl MT pr sc (d + 3)) (rtE (some (.int r)) (mk X) σ2) (43, [(0, .ref 0), (1, .int x1), (2, .int x2), (3, .int x3), (4, .long x4), (6, .int x6), (7, .int x7)], [], mk X, σ)) : ∀ (n : Nat) (x1 : Int32) (x2 : Int32) (x3 : Int32) (x4 : Int64) (x6 : Int32) (x7 : Int32) (x8 : Int64) (x10 : Int32) (σ : St), f_X9_astray_80 k43 n x1 x2 x3 x4 x6 x7 x8 x10 σ = some (r, σ2) → Ex mr_X9_astray sc (Cl MT pr sc (d + 3)) (rtE (some (.int r)) (mk X) σ2) (80, [(0, .ref 0), (1, .int x1), (2, .int x2), (3, .int x3), (4, .long x4), (6, .int x6), (7, .int x7), (8, .long x8), (10, .int x10)], [], mk X, σ) := by
  intro n
  induction n with
  | zero =>
    intro x1 x2 x3 x4 x6 x7 x8 x10 σ h
    cases h
  | succ n ih =>
    intro x1 x2 x3 x4 x6 x7 x8 x10 σ h
    simp only [f_X9_astray_80] at h
    refine Ex.blk 1000 rfl ?_
    rcases ite_sp h with ⟨c1, h⟩ | ⟨c1, h⟩
    · refine And.intro (fun _ => ?_) (fun hn => absurd c1 hn)
      show Ex mr_X9_astray sc (Cl MT pr sc (d + 3)) (rtE (some (.int r)) (mk X) σ2) (147, [(0, .ref 0), (1, .int x1), (2, .int x2), (3, .int x3), (4, .long x4), (6, .int x6), (7, .int x7), (8, .long x8), (10, .int x10)], [], mk X, σ)
      refine Ex.blk 1000 rfl ?_
      show Ex mr_X9_astray sc (Cl MT pr sc (d + 3)) (rtE (some (.int r)) (mk X) σ2) (43, [(7, .int (x7 + 1)), (0, .ref 0), (1, .int x1), (2, .int x2), (3, .int x3), (4, .long x4), (6, .int x6), (8, .long x8), (10, .int x10)], [], mk X, σ)
      refine Ex.pick (lv' := _) [1, 2, 3, 4, 5, 6, 0] rfl ?_
      exact hk43 _ _ _ _ _ _ _ h
    · refine And.intro (fun hp => absurd hp c1) (fun _ => ?_)
      show Ex mr_X9_astray sc (Cl MT pr sc (d + 3)) (rtE (some (.int r)) (mk X) σ2) (87, [(0, .ref 0), (1, .int x1), (2, .int x2), (3, .int x3), (4, .long x4), (6, .int x6), (7, .int x7), (8, .long x8), (10, .int x10)], [], mk X, σ)
      refine Ex.blk 5 rfl ?_
      obtain ⟨p4, hp4, h⟩ := bind_sp h
      refine Exists.intro (some (.int p4.1)) (Exists.intro (mk X) (Exists.intro p4.2 (And.intro (cl_X7_seen_1 (d + 1) hp4) ?_)))
      show Ex mr_X9_astray sc (Cl MT pr sc (d + 3)) (rtE (some (.int r)) (mk X) σ2) (98, [(0, .ref 0), (1, .int x1), (2, .int x2), (3, .int x3), (4, .long x4), (6, .int x6), (7, .int x7), (8, .long x8), (10, .int x10)], [.int p4.1, .int x10], mk X, p4.2)
      refine Ex.blk 1000 rfl ?_
      rcases ite_sp h with ⟨c2, h⟩ | ⟨c2, h⟩
      · refine And.intro (fun _ => ?_) (fun hn => absurd c2 hn)
        show Ex mr_X9_astray sc (Cl MT pr sc (d + 3)) (rtE (some (.int r)) (mk X) σ2) (141, [(0, .ref 0), (1, .int x1), (2, .int x2), (3, .int x3), (4, .long x4), (6, .int x6), (7, .int x7), (8, .long x8), (10, .int x10)], [], mk X, p4.2)
        exact lk_X9_astray_141 d _ _ hk43 ih _ _ _ _ _ _ _ _ _ h
      · refine And.intro (fun hp => absurd hp c2) (fun _ => ?_)
        show Ex mr_X9_astray sc (Cl MT pr sc (d + 3)) (rtE (some (.int r)) (mk X) σ2) (101, [(0, .ref 0), (1, .int x1), (2, .int x2), (3, .int x3), (4, .long x4), (6, .int x6), (7, .int x7), (8, .long x8), (10, .int x10)], [], mk X, p4.2)
        refine Ex.blk 5 rfl ?_
        show Ex mr_X9_astray sc (Cl MT pr sc (d + 3)) (rtE (some (.int r)) (mk X) σ2) (111, [(0, .ref 0), (1, .int x1), (2, .int x2), (3, .int x3), (4, .long x4), (6, .int x6), (7, .int x7), (8, .long x8), (10, .int x10)], [.int x7, .ref TN, .long x10.toInt64, .long x8], mk X, p4.2)
        refine Ex.blk 1 rfl ?_
        obtain ⟨g3, h⟩ := gd_some h
        refine And.intro (inb_ok g3) ?_
        show Ex mr_X9_astray sc (Cl MT pr sc (d + 3)) (rtE (some (.int r)) (mk X) σ2) (112, [(0, .ref 0), (1, .int x1), (2, .int x2), (3, .int x3), (4, .long x4), (6, .int x6), (7, .int x7), (8, .long x8), (10, .int x10)], [.long (tens x7.toNatClampNeg), .long x10.toInt64, .long x8], mk X, p4.2)
        refine Ex.blk 5 rfl ?_
        obtain ⟨g4, h⟩ := gd_some h
        refine And.intro (nzJ_ok g4) ?_
        show Ex mr_X9_astray sc (Cl MT pr sc (d + 3)) (rtE (some (.int r)) (mk X) σ2) (117, [(0, .ref 0), (1, .int x1), (2, .int x2), (3, .int x3), (4, .long x4), (6, .int x6), (7, .int x7), (8, .long x8), (10, .int x10)], [.long (rmJ (x8 + (x10.toInt64 * (tens x7.toNatClampNeg))) x1.toInt64)], mk X, p4.2)
        refine Ex.blk 1000 rfl ?_
        rcases ite_sp h with ⟨c5, h⟩ | ⟨c5, h⟩
        · refine And.intro (fun hp => absurd c5 hp) (fun _ => ?_)
          show Ex mr_X9_astray sc (Cl MT pr sc (d + 3)) (rtE (some (.int r)) (mk X) σ2) (123, [(0, .ref 0), (1, .int x1), (2, .int x2), (3, .int x3), (4, .long x4), (6, .int x6), (7, .int x7), (8, .long x8), (10, .int x10)], [], mk X, p4.2)
          refine Ex.blk 1000 rfl ?_
          rcases ite_sp h with ⟨c6, h⟩ | ⟨c6, h⟩
          · refine And.intro (fun hp => absurd c6 hp) (fun _ => ?_)
            show Ex mr_X9_astray sc (Cl MT pr sc (d + 3)) (rtE (some (.int r)) (mk X) σ2) (129, [(0, .ref 0), (1, .int x1), (2, .int x2), (3, .int x3), (4, .long x4), (6, .int x6), (7, .int x7), (8, .long x8), (10, .int x10)], [], mk X, p4.2)
            refine Ex.blk 5 rfl ?_
            show Ex mr_X9_astray sc (Cl MT pr sc (d + 3)) (rtE (some (.int r)) (mk X) σ2) (137, [(0, .ref 0), (1, .int x1), (2, .int x2), (3, .int x3), (4, .long x4), (6, .int x6), (7, .int x7), (8, .long x8), (10, .int x10)], [.int ((10 * x7) + x10)], mk X, p4.2)
            refine Ex.blk 1000 rfl ?_
            cases h
            exact And.intro trivial ⟨rfl, rfl, rfl⟩
          · refine And.intro (fun _ => ?_) (fun hn => absurd c6 hn)
            show Ex mr_X9_astray sc (Cl MT pr sc (d + 3)) (rtE (some (.int r)) (mk X) σ2) (138, [(0, .ref 0), (1, .int x1), (2, .int x2), (3, .int x3), (4, .long x4), (6, .int x6), (7, .int x7), (8, .long x8), (10, .int x10)], [], mk X, p4.2)
            refine Ex.blk 1000 rfl ?_
            show Ex mr_X9_astray sc (Cl MT pr sc (d + 3)) (rtE (some (.int r)) (mk X) σ2) (141, [(6, .int (x6 + 1)), (0, .ref 0), (1, .int x1), (2, .int x2), (3, .int x3), (4, .long x4), (7, .int x7), (8, .long x8), (10, .int x10)], [], mk X, p4.2)
            refine Ex.pick (lv' := _) [1, 2, 3, 4, 5, 0, 6, 7, 8] rfl ?_
            exact lk_X9_astray_141 d _ _ hk43 ih _ _ _ _ _ _ _ _ _ h
        · refine And.intro (fun _ => ?_) (fun hn => absurd c5 hn)
          show Ex mr_X9_astray sc (Cl MT pr sc (d + 3)) (rtE (some (.int r)) (mk X) σ2) (141, [(0, .ref 0), (1, .int x1), (2, .int x2), (3, .int x3), (4, .long x4), (6, .int x6), (7, .int x7), (8, .long x8), (10, .int x10)], [], mk X, p4.2)
          exact lk_X9_astray_141 d _ _ hk43 ih _ _ _ _ _ _ _ _ _ h
theorem lk_X9_astray_77 {pr : Ct} {sc : Nat × (Nat → Int32)} {X : En} (d : Nat) {r : Int32} {σ2 : St} (k43 : Int32 → Int32 → Int32 → Int64 → Int32 → Int32 → St → Option (Int32 × St)) (hk43 : ∀ (x1 : Int32) (x2 : Int32) (x3 : Int32) (x4 : Int64) (x6 : Int32) (x7 : Int32) (σ : St), k43 x1 x2 x3 x4 x6 x7 σ = some (r, σ2) → Ex mr_X9_astray sc (Cl MT pr sc (d + 3)) (rtE (some (.int r)) (mk X) σ2) (43, [(0, .ref 0), (1, .int x1), (2, .int x2), (3, .int x3), (4, .long x4), (6, .int x6), (7, .int x7)], [], mk X, σ)) (x1 : Int32) (x2 : Int32) (x3 : Int32) (x4 : Int64) (x6 : Int32) (x7 : Int32) (x8 : Int64) (σ : St) (h : f_X9_astray_77 k43 x1 x2 x3 x4 x6 x7 x8 σ = some (r, σ2)) : Ex mr_X9_astray sc (Cl MT pr sc (d + 3)) (rtE (some (.int r)) (mk X) σ2) (77, [(0, .ref 0), (1, .int x1), (2, .int x2), (3, .int x3), (4, .long x4), (6, .int x6), (7, .int x7), (8, .long x8)], [], mk X, σ) := by
  unfold f_X9_astray_77 at h
  refine Ex.blk 1000 rfl ?_
  show Ex mr_X9_astray sc (Cl MT pr sc (d + 3)) (rtE (some (.int r)) (mk X) σ2) (80, [(10, .int 0), (0, .ref 0), (1, .int x1), (2, .int x2), (3, .int x3), (4, .long x4), (6, .int x6), (7, .int x7), (8, .long x8)], [], mk X, σ)
  refine Ex.pick (lv' := _) [1, 2, 3, 4, 5, 6, 7, 8, 0] rfl ?_
  exact lk_X9_astray_80 d _ hk43 FU _ _ _ _ _ _ _ _ _ h
theorem lk_X9_astray_43 {pr : Ct} {sc : Nat × (Nat → Int32)} {X : En} (d : Nat) {r : Int32} {σ2 : St} : ∀ (n : Nat) (x1 : Int32) (x2 : Int32) (x3 : Int32) (x4 : Int64) (x6 : Int32) (x7 : Int32) (σ : St), f_X9_astray_43 n x1 x2 x3 x4 x6 x7 σ = some (r, σ2) → Ex mr_X9_astray sc (Cl MT pr sc (d + 3)) (rtE (some (.int r)) (mk X) σ2) (43, [(0, .ref 0), (1, .int x1), (2, .int x2), (3, .int x3), (4, .long x4), (6, .int x6), (7, .int x7)], [], mk X, σ) := by
  intro n
  induction n with
  | zero =>
    intro x1 x2 x3 x4 x6 x7 σ h
    cases h
  | succ n ih =>
    intro x1 x2 x3 x4 x6 x7 σ h
    simp only [f_X9_astray_43] at h
    refine Ex.blk 1000 rfl ?_
    rcases ite_sp h with ⟨c1, h⟩ | ⟨c1, h⟩
    · refine And.intro (fun _ => ?_) (fun hn => absurd c1 hn)
      show Ex mr_X9_astray sc (Cl MT pr sc (d + 3)) (rtE (some (.int r)) (mk X) σ2) (153, [(0, .ref 0), (1, .int x1), (2, .int x2), (3, .int x3), (4, .long x4), (6, .int x6), (7, .int x7)], [], mk X, σ)
      refine Ex.blk 1000 rfl ?_
      rcases ite_sp h with ⟨c2, h⟩ | ⟨c2, h⟩
      · refine And.intro (fun hp => absurd c2 hp) (fun _ => ?_)
        show Ex mr_X9_astray sc (Cl MT pr sc (d + 3)) (rtE (some (.int r)) (mk X) σ2) (158, [(0, .ref 0), (1, .int x1), (2, .int x2), (3, .int x3), (4, .long x4), (6, .int x6), (7, .int x7)], [], mk X, σ)
        refine Ex.blk 1000 rfl ?_
        show Ex mr_X9_astray sc (Cl MT pr sc (d + 3)) (rtE (some (.int r)) (mk X) σ2) (164, [(0, .ref 0), (1, .int x1), (2, .int x2), (3, .int x3), (4, .long x4), (6, .int x6), (7, .int x7)], [.int x6], mk X, σ)
        refine Ex.pick (lv' := _) [] rfl ?_
        exact lk_X9_astray_164 d _ _ h
      · refine And.intro (fun _ => ?_) (fun hn => absurd c2 hn)
        show Ex mr_X9_astray sc (Cl MT pr sc (d + 3)) (rtE (some (.int r)) (mk X) σ2) (163, [(0, .ref 0), (1, .int x1), (2, .int x2), (3, .int x3), (4, .long x4), (6, .int x6), (7, .int x7)], [], mk X, σ)
        refine Ex.blk 1000 rfl ?_
        show Ex mr_X9_astray sc (Cl MT pr sc (d + 3)) (rtE (some (.int r)) (mk X) σ2) (164, [(0, .ref 0), (1, .int x1), (2, .int x2), (3, .int x3), (4, .long x4), (6, .int x6), (7, .int x7)], [.int (-1)], mk X, σ)
        refine Ex.pick (lv' := _) [] rfl ?_
        exact lk_X9_astray_164 d _ _ h
    · refine And.intro (fun hp => absurd hp c1) (fun _ => ?_)
      show Ex mr_X9_astray sc (Cl MT pr sc (d + 3)) (rtE (some (.int r)) (mk X) σ2) (55, [(0, .ref 0), (1, .int x1), (2, .int x2), (3, .int x3), (4, .long x4), (6, .int x6), (7, .int x7)], [], mk X, σ)
      refine Ex.blk 5 rfl ?_
      obtain ⟨p3, hp3, h⟩ := bind_sp h
      refine Exists.intro (some (.int p3.1)) (Exists.intro (mk X) (Exists.intro p3.2 (And.intro (cl_X7_seen_1 (d + 1) hp3) ?_)))
      show Ex mr_X9_astray sc (Cl MT pr sc (d + 3)) (rtE (some (.int r)) (mk X) σ2) (66, [(0, .ref 0), (1, .int x1), (2, .int x2), (3, .int x3), (4, .long x4), (6, .int x6), (7, .int x7)], [.int p3.1, .long x4], mk X, p3.2)
      refine Ex.blk 4 rfl ?_
      obtain ⟨g3, h⟩ := gd_some h
      refine And.intro (inb_ok g3) ?_
      show Ex mr_X9_astray sc (Cl MT pr sc (d + 3)) (rtE (some (.int r)) (mk X) σ2) (73, [(0, .ref 0), (1, .int x1), (2, .int x2), (3, .int x3), (4, .long x4), (6, .int x6), (7, .int x7)], [.long (tens x7.toNatClampNeg), .long p3.1.toInt64, .long x4], mk X, p3.2)
      refine Ex.blk 3 rfl ?_
      show Ex mr_X9_astray sc (Cl MT pr sc (d + 3)) (rtE (some (.int r)) (mk X) σ2) (77, [(8, .long (x4 - (p3.1.toInt64 * (tens x7.toNatClampNeg)))), (0, .ref 0), (1, .int x1), (2, .int x2), (3, .int x3), (4, .long x4), (6, .int x6), (7, .int x7)], [], mk X, p3.2)
      refine Ex.pick (lv' := _) [1, 2, 3, 4, 5, 6, 7, 0] rfl ?_
      exact lk_X9_astray_77 d _ ih _ _ _ _ _ _ _ _ h
theorem cl_X9_astray {pr : Ct} {sc : Nat × (Nat → Int32)} {X : En} (d : Nat) {r : Int32} {σ2 : St} {x1 : Int32} {x2 : Int32} {x3 : Int32} {σ : St} (h : f_X9_astray x1 x2 x3 σ = some (r, σ2)) : Cl MT pr sc (d + 3 + 1) 115 [.ref 0, .int x1, .int x2, .int x3] (mk X) σ (some (.int r)) (mk X) σ2 := by
  refine cl_of mr_X9_astray rfl rfl ?_
  unfold f_X9_astray at h
  refine Ex.blk 3 rfl ?_
  obtain ⟨p1, hp1, h⟩ := bind_sp h
  refine Exists.intro (some (.int p1.1)) (Exists.intro (mk X) (Exists.intro p1.2 (And.intro (cl_X9_isRest (d + 2) hp1) ?_)))
  show Ex mr_X9_astray sc (Cl MT pr sc (d + 3)) (rtE (some (.int r)) (mk X) σ2) (5, [(0, .ref 0), (1, .int x1), (2, .int x2), (3, .int x3)], [.int p1.1], mk X, p1.2)
  refine Ex.blk 1000 rfl ?_
  rcases ite_sp h with ⟨c1, h⟩ | ⟨c1, h⟩
  · refine And.intro (fun _ => ?_) (fun hn => absurd c1 hn)
    show Ex mr_X9_astray sc (Cl MT pr sc (d + 3)) (rtE (some (.int r)) (mk X) σ2) (13, [(0, .ref 0), (1, .int x1), (2, .int x2), (3, .int x3)], [], mk X, p1.2)
    refine Ex.pick (lv' := _) [] rfl ?_
    exact lk_X9_astray_13 d _ h
  · refine And.intro (fun hp => absurd hp c1) (fun _ => ?_)
    show Ex mr_X9_astray sc (Cl MT pr sc (d + 3)) (rtE (some (.int r)) (mk X) σ2) (8, [(0, .ref 0), (1, .int x1), (2, .int x2), (3, .int x3)], [], mk X, p1.2)
    refine Ex.blk 1000 rfl ?_
    rcases ite_sp h with ⟨c2, h⟩ | ⟨c2, h⟩
    · refine And.intro (fun _ => ?_) (fun hn => absurd c2 hn)
      show Ex mr_X9_astray sc (Cl MT pr sc (d + 3)) (rtE (some (.int r)) (mk X) σ2) (15, [(0, .ref 0), (1, .int x1), (2, .int x2), (3, .int x3)], [], mk X, p1.2)
      refine Ex.blk 1000 rfl ?_
      rcases ite_sp h with ⟨c3, h⟩ | ⟨c3, h⟩
      · refine And.intro (fun _ => ?_) (fun hn => absurd c3 hn)
        show Ex mr_X9_astray sc (Cl MT pr sc (d + 3)) (rtE (some (.int r)) (mk X) σ2) (28, [(0, .ref 0), (1, .int x1), (2, .int x2), (3, .int x3)], [], mk X, p1.2)
        refine Ex.blk 3 rfl ?_
        obtain ⟨p2, hp2, h⟩ := bind_sp h
        refine Exists.intro (some (.long p2.1)) (Exists.intro (mk X) (Exists.intro p2.2 (And.intro (cl_X7_valueSeen_1 (d + 0) hp2) ?_)))
        show Ex mr_X9_astray sc (Cl MT pr sc (d + 3)) (rtE (some (.int r)) (mk X) σ2) (35, [(0, .ref 0), (1, .int x1), (2, .int x2), (3, .int x3)], [.long p2.1], mk X, p2.2)
        refine Ex.blk 1000 rfl ?_
        show Ex mr_X9_astray sc (Cl MT pr sc (d + 3)) (rtE (some (.int r)) (mk X) σ2) (43, [(7, .int 0), (6, .int 0), (4, .long p2.1), (0, .ref 0), (1, .int x1), (2, .int x2), (3, .int x3)], [], mk X, p2.2)
        refine Ex.pick (lv' := _) [3, 4, 5, 6, 2, 1, 0] rfl ?_
        exact lk_X9_astray_43 d FU _ _ _ _ _ _ _ h
      · refine And.intro (fun hp => absurd hp c3) (fun _ => ?_)
        show Ex mr_X9_astray sc (Cl MT pr sc (d + 3)) (rtE (some (.int r)) (mk X) σ2) (25, [(0, .ref 0), (1, .int x1), (2, .int x2), (3, .int x3)], [], mk X, p1.2)
        refine Ex.blk 1000 rfl ?_
        cases h
        exact And.intro trivial ⟨rfl, rfl, rfl⟩
    · refine And.intro (fun hp => absurd hp c2) (fun _ => ?_)
      show Ex mr_X9_astray sc (Cl MT pr sc (d + 3)) (rtE (some (.int r)) (mk X) σ2) (13, [(0, .ref 0), (1, .int x1), (2, .int x2), (3, .int x3)], [], mk X, p1.2)
      refine Ex.pick (lv' := _) [] rfl ?_
      exact lk_X9_astray_13 d _ h
theorem lk_X9_harvest_19 {pr : Ct} {sc : Nat × (Nat → Int32)} {X : En} (d : Nat) {r : Int32} {σ2 : St} (σ : St) (h : f_X9_harvest_19 σ = some (r, σ2)) : Ex mr_X9_harvest sc (Cl MT pr sc (d + 1)) (rtE (some (.int r)) (mk X) σ2) (19, [], [], mk X, σ) := by
  unfold f_X9_harvest_19 at h
  refine Ex.blk 1000 rfl ?_
  cases h
  exact And.intro trivial ⟨rfl, rfl, rfl⟩
theorem cl_X9_harvest {pr : Ct} {sc : Nat × (Nat → Int32)} {X : En} (d : Nat) {r : Int32} {σ2 : St} {x1 : Int32} {σ : St} (h : f_X9_harvest x1 σ = some (r, σ2)) : Cl MT pr sc (d + 1 + 1) 116 [.ref 0, .int x1] (mk X) σ (some (.int r)) (mk X) σ2 := by
  refine cl_of mr_X9_harvest rfl rfl ?_
  unfold f_X9_harvest at h
  refine Ex.blk 2 rfl ?_
  obtain ⟨p1, hp1, h⟩ := bind_sp h
  refine Exists.intro (some (.int p1.1)) (Exists.intro (mk X) (Exists.intro p1.2 (And.intro (cl_X9_isNumber (d + 0) hp1) ?_)))
  show Ex mr_X9_harvest sc (Cl MT pr sc (d + 1)) (rtE (some (.int r)) (mk X) σ2) (4, [(0, .ref 0), (1, .int x1)], [.int p1.1], mk X, p1.2)
  refine Ex.blk 1000 rfl ?_
  rcases ite_sp h with ⟨c1, h⟩ | ⟨c1, h⟩
  · refine And.intro (fun _ => ?_) (fun hn => absurd c1 hn)
    show Ex mr_X9_harvest sc (Cl MT pr sc (d + 1)) (rtE (some (.int r)) (mk X) σ2) (19, [(0, .ref 0), (1, .int x1)], [], mk X, p1.2)
    refine Ex.pick (lv' := _) [] rfl ?_
    exact lk_X9_harvest_19 d _ h
  · refine And.intro (fun hp => absurd hp c1) (fun _ => ?_)
    show Ex mr_X9_harvest sc (Cl MT pr sc (d + 1)) (rtE (some (.int r)) (mk X) σ2) (7, [(0, .ref 0), (1, .int x1)], [], mk X, p1.2)
    refine Ex.blk 1000 rfl ?_
    rcases ite_sp h with ⟨c2, h⟩ | ⟨c2, h⟩
    · refine And.intro (fun _ => ?_) (fun hn => absurd c2 hn)
      show Ex mr_X9_harvest sc (Cl MT pr sc (d + 1)) (rtE (some (.int r)) (mk X) σ2) (21, [(0, .ref 0), (1, .int x1)], [], mk X, p1.2)
      refine Ex.blk 4 rfl ?_
      obtain ⟨p2, hp2, h⟩ := bind_sp h
      refine Exists.intro none (Exists.intro (mk X) (Exists.intro p2 (And.intro (cl_X3_bringIn (d + 0) hp2) ?_)))
      show Ex mr_X9_harvest sc (Cl MT pr sc (d + 1)) (rtE (some (.int r)) (mk X) σ2) (29, [(0, .ref 0), (1, .int x1)], [], mk X, p2)
      refine Ex.blk 1000 rfl ?_
      cases h
      exact And.intro trivial ⟨rfl, rfl, rfl⟩
    · refine And.intro (fun hp => absurd hp c2) (fun _ => ?_)
      show Ex mr_X9_harvest sc (Cl MT pr sc (d + 1)) (rtE (some (.int r)) (mk X) σ2) (19, [(0, .ref 0), (1, .int x1)], [], mk X, p1.2)
      refine Ex.pick (lv' := _) [] rfl ?_
      exact lk_X9_harvest_19 d _ h
theorem lk_X9_added_89 {pr : Ct} {sc : Nat × (Nat → Int32)} {X : En} (d : Nat) {r : Int32} {σ2 : St} (y0 : Int32) (σ : St) (h : f_X9_added_89 y0 σ = some (r, σ2)) : Ex mr_X9_added sc (Cl MT pr sc (d + 3)) (rtE (some (.int r)) (mk X) σ2) (89, [], [.int y0], mk X, σ) := by
  unfold f_X9_added_89 at h
  refine Ex.blk 1000 rfl ?_
  cases h
  exact And.intro trivial ⟨rfl, rfl, rfl⟩
theorem lk_X9_added_72 {pr : Ct} {sc : Nat × (Nat → Int32)} {X : En} (d : Nat) {r : Int32} {σ2 : St} (k34 : Int32 → Int64 → Int32 → Int32 → St → Option (Int32 × St)) (hk34 : ∀ (x1 : Int32) (x2 : Int64) (x4 : Int32) (x5 : Int32) (σ : St), k34 x1 x2 x4 x5 σ = some (r, σ2) → Ex mr_X9_added sc (Cl MT pr sc (d + 3)) (rtE (some (.int r)) (mk X) σ2) (34, [(0, .ref 0), (1, .int x1), (2, .long x2), (4, .int x4), (5, .int x5)], [], mk X, σ)) (x1 : Int32) (x2 : Int64) (x4 : Int32) (x5 : Int32) (σ : St) (h : f_X9_added_72 k34 x1 x2 x4 x5 σ = some (r, σ2)) : Ex mr_X9_added sc (Cl MT pr sc (d + 3)) (rtE (some (.int r)) (mk X) σ2) (72, [(0, .ref 0), (1, .int x1), (2, .long x2), (4, .int x4), (5, .int x5)], [], mk X, σ) := by
  unfold f_X9_added_72 at h
  refine Ex.blk 1000 rfl ?_
  show Ex mr_X9_added sc (Cl MT pr sc (d + 3)) (rtE (some (.int r)) (mk X) σ2) (34, [(5, .int (x5 + 1)), (0, .ref 0), (1, .int x1), (2, .long x2), (4, .int x4)], [], mk X, σ)
  refine Ex.pick (lv' := _) [1, 2, 3, 4, 0] rfl ?_
  exact hk34 _ _ _ _ _ h
theorem lk_X9_added_34 {pr : Ct} {sc : Nat × (Nat → Int32)} {X : En} (d : Nat) {r : Int32} {σ2 : St} : ∀ (n : Nat) (x1 : Int32) (x2 : Int64) (x4 : Int32) (x5 : Int32) (σ : St), f_X9_added_34 n x1 x2 x4 x5 σ = some (r, σ2) → Ex mr_X9_added sc (Cl MT pr sc (d + 3)) (rtE (some (.int r)) (mk X) σ2) (34, [(0, .ref 0), (1, .int x1), (2, .long x2), (4, .int x4), (5, .int x5)], [], mk X, σ) := by
  intro n
  induction n with
  | zero =>
    intro x1 x2 x4 x5 σ h
    cases h
  | succ n ih =>
    intro x1 x2 x4 x5 σ h
    simp only [f_X9_added_34] at h
    refine Ex.blk 4 rfl ?_
    obtain ⟨p2, hp2, h⟩ := bind_sp h
    refine Exists.intro (some (.int p2.1)) (Exists.intro (mk X) (Exists.intro p2.2 (And.intro (cl_X3_sets (d + 2) hp2) ?_)))
    show Ex mr_X9_added sc (Cl MT pr sc (d + 3)) (rtE (some (.int r)) (mk X) σ2) (43, [(0, .ref 0), (1, .int x1), (2, .long x2), (4, .int x4), (5, .int x5)], [.int p2.1, .int x5], mk X, p2.2)
    refine Ex.blk 1000 rfl ?_
    rcases ite_sp h with ⟨c1, h⟩ | ⟨c1, h⟩
    · refine And.intro (fun _ => ?_) (fun hn => absurd c1 hn)
      show Ex mr_X9_added sc (Cl MT pr sc (d + 3)) (rtE (some (.int r)) (mk X) σ2) (78, [(0, .ref 0), (1, .int x1), (2, .long x2), (4, .int x4), (5, .int x5)], [], mk X, p2.2)
      refine Ex.blk 1000 rfl ?_
      rcases ite_sp h with ⟨c2, h⟩ | ⟨c2, h⟩
      · refine And.intro (fun hp => absurd c2 hp) (fun _ => ?_)
        show Ex mr_X9_added sc (Cl MT pr sc (d + 3)) (rtE (some (.int r)) (mk X) σ2) (83, [(0, .ref 0), (1, .int x1), (2, .long x2), (4, .int x4), (5, .int x5)], [], mk X, p2.2)
        refine Ex.blk 1000 rfl ?_
        show Ex mr_X9_added sc (Cl MT pr sc (d + 3)) (rtE (some (.int r)) (mk X) σ2) (89, [(0, .ref 0), (1, .int x1), (2, .long x2), (4, .int x4), (5, .int x5)], [.int x4], mk X, p2.2)
        refine Ex.pick (lv' := _) [] rfl ?_
        exact lk_X9_added_89 d _ _ h
      · refine And.intro (fun _ => ?_) (fun hn => absurd c2 hn)
        show Ex mr_X9_added sc (Cl MT pr sc (d + 3)) (rtE (some (.int r)) (mk X) σ2) (88, [(0, .ref 0), (1, .int x1), (2, .long x2), (4, .int x4), (5, .int x5)], [], mk X, p2.2)
        refine Ex.blk 1000 rfl ?_
        show Ex mr_X9_added sc (Cl MT pr sc (d + 3)) (rtE (some (.int r)) (mk X) σ2) (89, [(0, .ref 0), (1, .int x1), (2, .long x2), (4, .int x4), (5, .int x5)], [.int (-1)], mk X, p2.2)
        refine Ex.pick (lv' := _) [] rfl ?_
        exact lk_X9_added_89 d _ _ h
    · refine And.intro (fun hp => absurd hp c1) (fun _ => ?_)
      show Ex mr_X9_added sc (Cl MT pr sc (d + 3)) (rtE (some (.int r)) (mk X) σ2) (46, [(0, .ref 0), (1, .int x1), (2, .long x2), (4, .int x4), (5, .int x5)], [], mk X, p2.2)
      refine Ex.blk 4 rfl ?_
      obtain ⟨p3, hp3, h⟩ := bind_sp h
      refine Exists.intro (some (.long p3.1)) (Exists.intro (mk X) (Exists.intro p3.2 (And.intro (cl_X3_sumOf (d + 1) hp3) ?_)))
      show Ex mr_X9_added sc (Cl MT pr sc (d + 3)) (rtE (some (.int r)) (mk X) σ2) (55, [(0, .ref 0), (1, .int x1), (2, .long x2), (4, .int x4), (5, .int x5)], [.long p3.1], mk X, p3.2)
      refine Ex.blk 1000 rfl ?_
      rcases ite_sp h with ⟨c3, h⟩ | ⟨c3, h⟩
      · refine And.intro (fun hp => absurd c3 hp) (fun _ => ?_)
        show Ex mr_X9_added sc (Cl MT pr sc (d + 3)) (rtE (some (.int r)) (mk X) σ2) (60, [(0, .ref 0), (1, .int x1), (2, .long x2), (4, .int x4), (5, .int x5)], [], mk X, p3.2)
        refine Ex.blk 1000 rfl ?_
        rcases ite_sp h with ⟨c4, h⟩ | ⟨c4, h⟩
        · refine And.intro (fun hp => absurd c4 hp) (fun _ => ?_)
          show Ex mr_X9_added sc (Cl MT pr sc (d + 3)) (rtE (some (.int r)) (mk X) σ2) (66, [(0, .ref 0), (1, .int x1), (2, .long x2), (4, .int x4), (5, .int x5)], [], mk X, p3.2)
          refine Ex.blk 1000 rfl ?_
          cases h
          exact And.intro trivial ⟨rfl, rfl, rfl⟩
        · refine And.intro (fun _ => ?_) (fun hn => absurd c4 hn)
          show Ex mr_X9_added sc (Cl MT pr sc (d + 3)) (rtE (some (.int r)) (mk X) σ2) (69, [(0, .ref 0), (1, .int x1), (2, .long x2), (4, .int x4), (5, .int x5)], [], mk X, p3.2)
          refine Ex.blk 1000 rfl ?_
          show Ex mr_X9_added sc (Cl MT pr sc (d + 3)) (rtE (some (.int r)) (mk X) σ2) (72, [(4, .int (x4 + 1)), (0, .ref 0), (1, .int x1), (2, .long x2), (5, .int x5)], [], mk X, p3.2)
          refine Ex.pick (lv' := _) [1, 2, 3, 0, 4] rfl ?_
          exact lk_X9_added_72 d _ ih _ _ _ _ _ h
      · refine And.intro (fun _ => ?_) (fun hn => absurd c3 hn)
        show Ex mr_X9_added sc (Cl MT pr sc (d + 3)) (rtE (some (.int r)) (mk X) σ2) (72, [(0, .ref 0), (1, .int x1), (2, .long x2), (4, .int x4), (5, .int x5)], [], mk X, p3.2)
        exact lk_X9_added_72 d _ ih _ _ _ _ _ h
theorem cl_X9_added {pr : Ct} {sc : Nat × (Nat → Int32)} {X : En} (d : Nat) {r : Int32} {σ2 : St} {x1 : Int32} {σ : St} (h : f_X9_added x1 σ = some (r, σ2)) : Cl MT pr sc (d + 3 + 1) 118 [.ref 0, .int x1] (mk X) σ (some (.int r)) (mk X) σ2 := by
  refine cl_of mr_X9_added rfl rfl ?_
  unfold f_X9_added at h
  refine Ex.blk 1000 rfl ?_
  rcases ite_sp h with ⟨c1, h⟩ | ⟨c1, h⟩
  · refine And.intro (fun _ => ?_) (fun hn => absurd c1 hn)
    show Ex mr_X9_added sc (Cl MT pr sc (d + 3)) (rtE (some (.int r)) (mk X) σ2) (7, [(0, .ref 0), (1, .int x1)], [], mk X, σ)
    refine Ex.blk 1000 rfl ?_
    rcases ite_sp h with ⟨c2, h⟩ | ⟨c2, h⟩
    · refine And.intro (fun _ => ?_) (fun hn => absurd c2 hn)
      show Ex mr_X9_added sc (Cl MT pr sc (d + 3)) (rtE (some (.int r)) (mk X) σ2) (20, [(0, .ref 0), (1, .int x1)], [], mk X, σ)
      refine Ex.blk 3 rfl ?_
      obtain ⟨p1, hp1, h⟩ := bind_sp h
      refine Exists.intro (some (.long p1.1)) (Exists.intro (mk X) (Exists.intro p1.2 (And.intro (cl_X7_valueSeen_1 (d + 0) hp1) ?_)))
      show Ex mr_X9_added sc (Cl MT pr sc (d + 3)) (rtE (some (.int r)) (mk X) σ2) (27, [(0, .ref 0), (1, .int x1)], [.long p1.1], mk X, p1.2)
      refine Ex.blk 1000 rfl ?_
      show Ex mr_X9_added sc (Cl MT pr sc (d + 3)) (rtE (some (.int r)) (mk X) σ2) (34, [(5, .int 0), (4, .int 0), (2, .long p1.1), (0, .ref 0), (1, .int x1)], [], mk X, p1.2)
      refine Ex.pick (lv' := _) [3, 4, 2, 1, 0] rfl ?_
      exact lk_X9_added_34 d FU _ _ _ _ _ h
    · refine And.intro (fun hp => absurd hp c2) (fun _ => ?_)
      show Ex mr_X9_added sc (Cl MT pr sc (d + 3)) (rtE (some (.int r)) (mk X) σ2) (17, [(0, .ref 0), (1, .int x1)], [], mk X, σ)
      refine Ex.blk 1000 rfl ?_
      cases h
      exact And.intro trivial ⟨rfl, rfl, rfl⟩
  · refine And.intro (fun hp => absurd hp c1) (fun _ => ?_)
    show Ex mr_X9_added sc (Cl MT pr sc (d + 3)) (rtE (some (.int r)) (mk X) σ2) (5, [(0, .ref 0), (1, .int x1)], [], mk X, σ)
    refine Ex.blk 1000 rfl ?_
    cases h
    exact And.intro trivial ⟨rfl, rfl, rfl⟩
theorem lk_X9_near_134 {pr : Ct} {sc : Nat × (Nat → Int32)} {X : En} (d : Nat) {r : Int32} {σ2 : St} (k26 : Int64 → Int32 → Int32 → St → Option (Int32 × St)) (k54 : Int64 → Int32 → Int32 → Int64 → Int32 → St → Option (Int32 × St)) (hk26 : ∀ (x1 : Int64) (x3 : Int32) (x4 : Int32) (σ : St), k26 x1 x3 x4 σ = some (r, σ2) → Ex mr_X9_near sc (Cl MT pr sc (d + 3)) (rtE (some (.int r)) (mk X) σ2) (26, [(0, .ref 0), (1, .long x1), (3, .int x3), (4, .int x4)], [], mk X, σ)) (hk54 : ∀ (x1 : Int64) (x3 : Int32) (x4 : Int32) (x5 : Int64) (x7 : Int32) (σ : St), k54 x1 x3 x4 x5 x7 σ = some (r, σ2) → Ex mr_X9_near sc (Cl MT pr sc (d + 3)) (rtE (some (.int r)) (mk X) σ2) (54, [(0, .ref 0), (1, .long x1), (3, .int x3), (4, .int x4), (5, .long x5), (7, .int x7)], [], mk X, σ)) (x1 : Int64) (x3 : Int32) (x4 : Int32) (x5 : Int64) (x7 : Int32) (σ : St) (h : f_X9_near_134 k26 k54 x1 x3 x4 x5 x7 σ = some (r, σ2)) : Ex mr_X9_near sc (Cl MT pr sc (d + 3)) (rtE (some (.int r)) (mk X) σ2) (134, [(0, .ref 0), (1, .long x1), (3, .int x3), (4, .int x4), (5, .long x5), (7, .int x7)], [], mk X, σ) := by
  unfold f_X9_near_134 at h
  refine Ex.blk 1000 rfl ?_
  show Ex mr_X9_near sc (Cl MT pr sc (d + 3)) (rtE (some (.int r)) (mk X) σ2) (54, [(7, .int (x7 + 1)), (0, .ref 0), (1, .long x1), (3, .int x3), (4, .int x4), (5, .long x5)], [], mk X, σ)
  refine Ex.pick (lv' := _) [1, 2, 3, 4, 5, 0] rfl ?_
  exact hk54 _ _ _ _ _ _ h
theorem lk_X9_near_101 {pr : Ct} {sc : Nat × (Nat → Int32)} {X : En} (d : Nat) {r : Int32} {σ2 : St} (k26 : Int64 → Int32 → Int32 → St → Option (Int32 × St)) (k54 : Int64 → Int32 → Int32 → Int64 → Int32 → St → Option (Int32 × St)) (hk26 : ∀ (x1 : Int64) (x3 : Int32) (x4 : Int32) (σ : St), k26 x1 x3 x4 σ = some (r, σ2) → Ex mr_X9_near sc (Cl MT pr sc (d + 3)) (rtE (some (.int r)) (mk X) σ2) (26, [(0, .ref 0), (1, .long x1), (3, .int x3), (4, .int x4)], [], mk X, σ)) (hk54 : ∀ (x1 : Int64) (x3 : Int32) (x4 : Int32) (x5 : Int64) (x7 : Int32) (σ : St), k54 x1 x3 x4 x5 x7 σ = some (r, σ2) → Ex mr_X9_near sc (Cl MT pr sc (d + 3)) (rtE (some (.int r)) (mk X) σ2) (54, [(0, .ref 0), (1, .long x1), (3, .int x3), (4, .int x4), (5, .long x5), (7, .int x7)], [], mk X, σ)) (x1 : Int64) (x3 : Int32) (x4 : Int32) (x5 : Int64) (x7 : Int32) (σ : St) (h : f_X9_near_101 k26 k54 x1 x3 x4 x5 x7 σ = some (r, σ2)) : Ex mr_X9_near sc (Cl MT pr sc (d + 3)) (rtE (some (.int r)) (mk X) σ2) (101, [(0, .ref 0), (1, .long x1), (3, .int x3), (4, .int x4), (5, .long x5), (7, .int x7)], [], mk X, σ) := by
  unfold f_X9_near_101 at h
  refine Ex.blk 4 rfl ?_
  obtain ⟨g1, h⟩ := gd_some h
  refine And.intro (inb_ok g1) ?_
  show Ex mr_X9_near sc (Cl MT pr sc (d + 3)) (rtE (some (.int r)) (mk X) σ2) (109, [(0, .ref 0), (1, .long x1), (3, .int x3), (4, .int x4), (5, .long x5), (7, .int x7)], [.long (tens x7.toNatClampNeg), .long x5], mk X, σ)
  refine Ex.blk 1000 rfl ?_
  rcases ite_sp h with ⟨c2, h⟩ | ⟨c2, h⟩
  · refine And.intro (fun hp => absurd c2 hp) (fun _ => ?_)
    show Ex mr_X9_near sc (Cl MT pr sc (d + 3)) (rtE (some (.int r)) (mk X) σ2) (114, [(0, .ref 0), (1, .long x1), (3, .int x3), (4, .int x4), (5, .long x5), (7, .int x7)], [], mk X, σ)
    refine Ex.blk 4 rfl ?_
    obtain ⟨p4, hp4, h⟩ := bind_sp h
    refine Exists.intro (some (.int p4.1)) (Exists.intro (mk X) (Exists.intro p4.2 (And.intro (cl_X7_seen_1 (d + 1) hp4) ?_)))
    show Ex mr_X9_near sc (Cl MT pr sc (d + 3)) (rtE (some (.int r)) (mk X) σ2) (123, [(0, .ref 0), (1, .long x1), (3, .int x3), (4, .int x4), (5, .long x5), (7, .int x7)], [.int p4.1], mk X, p4.2)
    refine Ex.blk 3 rfl ?_
    obtain ⟨p5, hp5, h⟩ := bind_sp h
    refine Exists.intro (some (.int p5.1)) (Exists.intro (mk X) (Exists.intro p5.2 (And.intro (cl_X9_isDigit (d + 2) hp5) ?_)))
    show Ex mr_X9_near sc (Cl MT pr sc (d + 3)) (rtE (some (.int r)) (mk X) σ2) (128, [(0, .ref 0), (1, .long x1), (3, .int x3), (4, .int x4), (5, .long x5), (7, .int x7)], [.int p5.1], mk X, p5.2)
    refine Ex.blk 1000 rfl ?_
    rcases ite_sp h with ⟨c3, h⟩ | ⟨c3, h⟩
    · refine And.intro (fun _ => ?_) (fun hn => absurd c3 hn)
      show Ex mr_X9_near sc (Cl MT pr sc (d + 3)) (rtE (some (.int r)) (mk X) σ2) (134, [(0, .ref 0), (1, .long x1), (3, .int x3), (4, .int x4), (5, .long x5), (7, .int x7)], [], mk X, p5.2)
      exact lk_X9_near_134 d _ _ hk26 hk54 _ _ _ _ _ _ h
    · refine And.intro (fun hp => absurd hp c3) (fun _ => ?_)
      show Ex mr_X9_near sc (Cl MT pr sc (d + 3)) (rtE (some (.int r)) (mk X) σ2) (131, [(0, .ref 0), (1, .long x1), (3, .int x3), (4, .int x4), (5, .long x5), (7, .int x7)], [], mk X, p5.2)
      refine Ex.blk 1000 rfl ?_
      show Ex mr_X9_near sc (Cl MT pr sc (d + 3)) (rtE (some (.int r)) (mk X) σ2) (134, [(3, .int (x3 + 1)), (0, .ref 0), (1, .long x1), (4, .int x4), (5, .long x5), (7, .int x7)], [], mk X, p5.2)
      refine Ex.pick (lv' := _) [1, 2, 0, 3, 4, 5] rfl ?_
      exact lk_X9_near_134 d _ _ hk26 hk54 _ _ _ _ _ _ h
  · refine And.intro (fun _ => ?_) (fun hn => absurd c2 hn)
    show Ex mr_X9_near sc (Cl MT pr sc (d + 3)) (rtE (some (.int r)) (mk X) σ2) (134, [(0, .ref 0), (1, .long x1), (3, .int x3), (4, .int x4), (5, .long x5), (7, .int x7)], [], mk X, σ)
    exact lk_X9_near_134 d _ _ hk26 hk54 _ _ _ _ _ _ h
theorem lk_X9_near_54 {pr : Ct} {sc : Nat × (Nat → Int32)} {X : En} (d : Nat) {r : Int32} {σ2 : St} (k26 : Int64 → Int32 → Int32 → St → Option (Int32 × St)) (hk26 : ∀ (x1 : Int64) (x3 : Int32) (x4 : Int32) (σ : St), k26 x1 x3 x4 σ = some (r, σ2) → Ex mr_X9_near sc (Cl MT pr sc (d + 3)) (rtE (some (.int r)) (mk X) σ2) (26, [(0, .ref 0), (1, .long x1), (3, .int x3), (4, .int x4)], [], mk X, σ)) : ∀ (n : Nat) (x1 : Int64) (x3 : Int32) (x4 : Int32) (x5 : Int64) (x7 : Int32) (σ : St), f_X9_near_54 k26 n x1 x3 x4 x5 x7 σ = some (r, σ2) → Ex mr_X9_near sc (Cl MT pr sc (d + 3)) (rtE (some (.int r)) (mk X) σ2) (54, [(0, .ref 0), (1, .long x1), (3, .int x3), (4, .int x4), (5, .long x5), (7, .int x7)], [], mk X, σ) := by
  intro n
  induction n with
  | zero =>
    intro x1 x3 x4 x5 x7 σ h
    cases h
  | succ n ih =>
    intro x1 x3 x4 x5 x7 σ h
    simp only [f_X9_near_54] at h
    refine Ex.blk 1000 rfl ?_
    rcases ite_sp h with ⟨c1, h⟩ | ⟨c1, h⟩
    · refine And.intro (fun _ => ?_) (fun hn => absurd c1 hn)
      show Ex mr_X9_near sc (Cl MT pr sc (d + 3)) (rtE (some (.int r)) (mk X) σ2) (140, [(0, .ref 0), (1, .long x1), (3, .int x3), (4, .int x4), (5, .long x5), (7, .int x7)], [], mk X, σ)
      refine Ex.blk 1000 rfl ?_
      show Ex mr_X9_near sc (Cl MT pr sc (d + 3)) (rtE (some (.int r)) (mk X) σ2) (26, [(4, .int (x4 + 1)), (0, .ref 0), (1, .long x1), (3, .int x3), (5, .long x5), (7, .int x7)], [], mk X, σ)
      refine Ex.pick (lv' := _) [1, 2, 3, 0] rfl ?_
      exact hk26 _ _ _ _ h
    · refine And.intro (fun hp => absurd hp c1) (fun _ => ?_)
      show Ex mr_X9_near sc (Cl MT pr sc (d + 3)) (rtE (some (.int r)) (mk X) σ2) (66, [(0, .ref 0), (1, .long x1), (3, .int x3), (4, .int x4), (5, .long x5), (7, .int x7)], [], mk X, σ)
      refine Ex.blk 4 rfl ?_
      obtain ⟨g2, h⟩ := gd_some h
      refine And.intro (inb_ok g2) ?_
      show Ex mr_X9_near sc (Cl MT pr sc (d + 3)) (rtE (some (.int r)) (mk X) σ2) (74, [(0, .ref 0), (1, .long x1), (3, .int x3), (4, .int x4), (5, .long x5), (7, .int x7)], [.long (tens x7.toNatClampNeg), .long x5], mk X, σ)
      refine Ex.blk 1000 rfl ?_
      rcases ite_sp h with ⟨c3, h⟩ | ⟨c3, h⟩
      · refine And.intro (fun hp => absurd c3 hp) (fun _ => ?_)
        show Ex mr_X9_near sc (Cl MT pr sc (d + 3)) (rtE (some (.int r)) (mk X) σ2) (78, [(0, .ref 0), (1, .long x1), (3, .int x3), (4, .int x4), (5, .long x5), (7, .int x7)], [], mk X, σ)
        refine Ex.blk 4 rfl ?_
        obtain ⟨p6, hp6, h⟩ := bind_sp h
        refine Exists.intro (some (.int p6.1)) (Exists.intro (mk X) (Exists.intro p6.2 (And.intro (cl_X7_seen_1 (d + 1) hp6) ?_)))
        show Ex mr_X9_near sc (Cl MT pr sc (d + 3)) (rtE (some (.int r)) (mk X) σ2) (87, [(0, .ref 0), (1, .long x1), (3, .int x3), (4, .int x4), (5, .long x5), (7, .int x7)], [.int p6.1], mk X, p6.2)
        refine Ex.blk 3 rfl ?_
        obtain ⟨p7, hp7, h⟩ := bind_sp h
        refine Exists.intro (some (.int p7.1)) (Exists.intro (mk X) (Exists.intro p7.2 (And.intro (cl_X9_isDigit (d + 2) hp7) ?_)))
        show Ex mr_X9_near sc (Cl MT pr sc (d + 3)) (rtE (some (.int r)) (mk X) σ2) (92, [(0, .ref 0), (1, .long x1), (3, .int x3), (4, .int x4), (5, .long x5), (7, .int x7)], [.int p7.1], mk X, p7.2)
        refine Ex.blk 1000 rfl ?_
        rcases ite_sp h with ⟨c4, h⟩ | ⟨c4, h⟩
        · refine And.intro (fun _ => ?_) (fun hn => absurd c4 hn)
          show Ex mr_X9_near sc (Cl MT pr sc (d + 3)) (rtE (some (.int r)) (mk X) σ2) (101, [(0, .ref 0), (1, .long x1), (3, .int x3), (4, .int x4), (5, .long x5), (7, .int x7)], [], mk X, p7.2)
          exact lk_X9_near_101 d _ _ hk26 ih _ _ _ _ _ _ h
        · refine And.intro (fun hp => absurd hp c4) (fun _ => ?_)
          show Ex mr_X9_near sc (Cl MT pr sc (d + 3)) (rtE (some (.int r)) (mk X) σ2) (95, [(0, .ref 0), (1, .long x1), (3, .int x3), (4, .int x4), (5, .long x5), (7, .int x7)], [], mk X, p7.2)
          refine Ex.blk 1000 rfl ?_
          show Ex mr_X9_near sc (Cl MT pr sc (d + 3)) (rtE (some (.int r)) (mk X) σ2) (134, [(3, .int (x3 + 1)), (0, .ref 0), (1, .long x1), (4, .int x4), (5, .long x5), (7, .int x7)], [], mk X, p7.2)
          refine Ex.pick (lv' := _) [1, 2, 0, 3, 4, 5] rfl ?_
          exact lk_X9_near_134 d _ _ hk26 ih _ _ _ _ _ _ h
      · refine And.intro (fun _ => ?_) (fun hn => absurd c3 hn)
        show Ex mr_X9_near sc (Cl MT pr sc (d + 3)) (rtE (some (.int r)) (mk X) σ2) (101, [(0, .ref 0), (1, .long x1), (3, .int x3), (4, .int x4), (5, .long x5), (7, .int x7)], [], mk X, σ)
        exact lk_X9_near_101 d _ _ hk26 ih _ _ _ _ _ _ h
theorem lk_X9_near_51 {pr : Ct} {sc : Nat × (Nat → Int32)} {X : En} (d : Nat) {r : Int32} {σ2 : St} (k26 : Int64 → Int32 → Int32 → St → Option (Int32 × St)) (hk26 : ∀ (x1 : Int64) (x3 : Int32) (x4 : Int32) (σ : St), k26 x1 x3 x4 σ = some (r, σ2) → Ex mr_X9_near sc (Cl MT pr sc (d + 3)) (rtE (some (.int r)) (mk X) σ2) (26, [(0, .ref 0), (1, .long x1), (3, .int x3), (4, .int x4)], [], mk X, σ)) (x1 : Int64) (x3 : Int32) (x4 : Int32) (x5 : Int64) (σ : St) (h : f_X9_near_51 k26 x1 x3 x4 x5 σ = some (r, σ2)) : Ex mr_X9_near sc (Cl MT pr sc (d + 3)) (rtE (some (.int r)) (mk X) σ2) (51, [(0, .ref 0), (1, .long x1), (3, .int x3), (4, .int x4), (5, .long x5)], [], mk X, σ) := by
  unfold f_X9_near_51 at h
  refine Ex.blk 1000 rfl ?_
  show Ex mr_X9_near sc (Cl MT pr sc (d + 3)) (rtE (some (.int r)) (mk X) σ2) (54, [(7, .int 0), (0, .ref 0), (1, .long x1), (3, .int x3), (4, .int x4), (5, .long x5)], [], mk X, σ)
  refine Ex.pick (lv' := _) [1, 2, 3, 4, 5, 0] rfl ?_
  exact lk_X9_near_54 d _ hk26 FU _ _ _ _ _ _ h
theorem lk_X9_near_26 {pr : Ct} {sc : Nat × (Nat → Int32)} {X : En} (d : Nat) {r : Int32} {σ2 : St} : ∀ (n : Nat) (x1 : Int64) (x3 : Int32) (x4 : Int32) (σ : St), f_X9_near_26 n x1 x3 x4 σ = some (r, σ2) → Ex mr_X9_near sc (Cl MT pr sc (d + 3)) (rtE (some (.int r)) (mk X) σ2) (26, [(0, .ref 0), (1, .long x1), (3, .int x3), (4, .int x4)], [], mk X, σ) := by
  intro n
  induction n with
  | zero =>
    intro x1 x3 x4 σ h
    cases h
  | succ n ih =>
    intro x1 x3 x4 σ h
    simp only [f_X9_near_26] at h
    refine Ex.blk 4 rfl ?_
    obtain ⟨p2, hp2, h⟩ := bind_sp h
    refine Exists.intro (some (.int p2.1)) (Exists.intro (mk X) (Exists.intro p2.2 (And.intro (cl_X3_sets (d + 2) hp2) ?_)))
    show Ex mr_X9_near sc (Cl MT pr sc (d + 3)) (rtE (some (.int r)) (mk X) σ2) (35, [(0, .ref 0), (1, .long x1), (3, .int x3), (4, .int x4)], [.int p2.1, .int x4], mk X, p2.2)
    refine Ex.blk 1000 rfl ?_
    rcases ite_sp h with ⟨c1, h⟩ | ⟨c1, h⟩
    · refine And.intro (fun _ => ?_) (fun hn => absurd c1 hn)
      show Ex mr_X9_near sc (Cl MT pr sc (d + 3)) (rtE (some (.int r)) (mk X) σ2) (146, [(0, .ref 0), (1, .long x1), (3, .int x3), (4, .int x4)], [], mk X, p2.2)
      refine Ex.blk 1000 rfl ?_
      cases h
      exact And.intro trivial ⟨rfl, rfl, rfl⟩
    · refine And.intro (fun hp => absurd hp c1) (fun _ => ?_)
      show Ex mr_X9_near sc (Cl MT pr sc (d + 3)) (rtE (some (.int r)) (mk X) σ2) (38, [(0, .ref 0), (1, .long x1), (3, .int x3), (4, .int x4)], [], mk X, p2.2)
      refine Ex.blk 4 rfl ?_
      obtain ⟨p3, hp3, h⟩ := bind_sp h
      refine Exists.intro (some (.long p3.1)) (Exists.intro (mk X) (Exists.intro p3.2 (And.intro (cl_X3_sumOf (d + 1) hp3) ?_)))
      show Ex mr_X9_near sc (Cl MT pr sc (d + 3)) (rtE (some (.int r)) (mk X) σ2) (47, [(0, .ref 0), (1, .long x1), (3, .int x3), (4, .int x4)], [.long p3.1], mk X, p3.2)
      refine Ex.blk 3 rfl ?_
      show Ex mr_X9_near sc (Cl MT pr sc (d + 3)) (rtE (some (.int r)) (mk X) σ2) (51, [(5, .long (p3.1 - x1)), (0, .ref 0), (1, .long x1), (3, .int x3), (4, .int x4)], [], mk X, p3.2)
      refine Ex.pick (lv' := _) [1, 2, 3, 4, 0] rfl ?_
      exact lk_X9_near_51 d _ ih _ _ _ _ _ h
theorem cl_X9_near {pr : Ct} {sc : Nat × (Nat → Int32)} {X : En} (d : Nat) {r : Int32} {σ2 : St} {σ : St} (h : f_X9_near σ = some (r, σ2)) : Cl MT pr sc (d + 3 + 1) 119 [.ref 0] (mk X) σ (some (.int r)) (mk X) σ2 := by
  refine cl_of mr_X9_near rfl rfl ?_
  unfold f_X9_near at h
  refine Ex.blk 1000 rfl ?_
  rcases ite_sp h with ⟨c1, h⟩ | ⟨c1, h⟩
  · refine And.intro (fun _ => ?_) (fun hn => absurd c1 hn)
    show Ex mr_X9_near sc (Cl MT pr sc (d + 3)) (rtE (some (.int r)) (mk X) σ2) (13, [(0, .ref 0)], [], mk X, σ)
    refine Ex.blk 3 rfl ?_
    obtain ⟨p1, hp1, h⟩ := bind_sp h
    refine Exists.intro (some (.long p1.1)) (Exists.intro (mk X) (Exists.intro p1.2 (And.intro (cl_X7_valueSeen_1 (d + 0) hp1) ?_)))
    show Ex mr_X9_near sc (Cl MT pr sc (d + 3)) (rtE (some (.int r)) (mk X) σ2) (20, [(0, .ref 0)], [.long p1.1], mk X, p1.2)
    refine Ex.blk 1000 rfl ?_
    show Ex mr_X9_near sc (Cl MT pr sc (d + 3)) (rtE (some (.int r)) (mk X) σ2) (26, [(4, .int 0), (3, .int 0), (1, .long p1.1), (0, .ref 0)], [], mk X, p1.2)
    refine Ex.pick (lv' := _) [3, 2, 1, 0] rfl ?_
    exact lk_X9_near_26 d FU _ _ _ _ h
  · refine And.intro (fun hp => absurd hp c1) (fun _ => ?_)
    show Ex mr_X9_near sc (Cl MT pr sc (d + 3)) (rtE (some (.int r)) (mk X) σ2) (10, [(0, .ref 0)], [], mk X, σ)
    refine Ex.blk 1000 rfl ?_
    cases h
    exact And.intro trivial ⟨rfl, rfl, rfl⟩
theorem lk_X9_as_14 {pr : Ct} {sc : Nat × (Nat → Int32)} {X : En} (d : Nat) {r : Int32} {σ2 : St} (σ : St) (h : f_X9_as_14 σ = some (r, σ2)) : Ex mr_X9_as sc (Cl MT pr sc (d + 2)) (rtE (some (.int r)) (mk X) σ2) (14, [], [], mk X, σ) := by
  unfold f_X9_as_14 at h
  refine Ex.blk 1000 rfl ?_
  cases h
  exact And.intro trivial ⟨rfl, rfl, rfl⟩
theorem cl_X9_as {pr : Ct} {sc : Nat × (Nat → Int32)} {X : En} (d : Nat) {r : Int32} {σ2 : St} {x1 : Int32} {x2 : Int32} {σ : St} (h : f_X9_as x1 x2 σ = some (r, σ2)) : Cl MT pr sc (d + 2 + 1) 120 [.ref 0, .int x1, .int x2] (mk X) σ (some (.int r)) (mk X) σ2 := by
  refine cl_of mr_X9_as rfl rfl ?_
  unfold f_X9_as at h
  refine Ex.blk 2 rfl ?_
  obtain ⟨p1, hp1, h⟩ := bind_sp h
  refine Exists.intro (some (.int p1.1)) (Exists.intro (mk X) (Exists.intro p1.2 (And.intro (cl_X9_isNumber (d + 1) hp1) ?_)))
  show Ex mr_X9_as sc (Cl MT pr sc (d + 2)) (rtE (some (.int r)) (mk X) σ2) (4, [(0, .ref 0), (1, .int x1), (2, .int x2)], [.int p1.1], mk X, p1.2)
  refine Ex.blk 1000 rfl ?_
  rcases ite_sp h with ⟨c1, h⟩ | ⟨c1, h⟩
  · refine And.intro (fun _ => ?_) (fun hn => absurd c1 hn)
    show Ex mr_X9_as sc (Cl MT pr sc (d + 2)) (rtE (some (.int r)) (mk X) σ2) (14, [(0, .ref 0), (1, .int x1), (2, .int x2)], [], mk X, p1.2)
    refine Ex.pick (lv' := _) [] rfl ?_
    exact lk_X9_as_14 d _ h
  · refine And.intro (fun hp => absurd hp c1) (fun _ => ?_)
    show Ex mr_X9_as sc (Cl MT pr sc (d + 2)) (rtE (some (.int r)) (mk X) σ2) (7, [(0, .ref 0), (1, .int x1), (2, .int x2)], [], mk X, p1.2)
    refine Ex.blk 2 rfl ?_
    obtain ⟨p2, hp2, h⟩ := bind_sp h
    refine Exists.intro (some (.int p2.1)) (Exists.intro (mk X) (Exists.intro p2.2 (And.intro (cl_X9_isNumber (d + 1) hp2) ?_)))
    show Ex mr_X9_as sc (Cl MT pr sc (d + 2)) (rtE (some (.int r)) (mk X) σ2) (11, [(0, .ref 0), (1, .int x1), (2, .int x2)], [.int p2.1], mk X, p2.2)
    refine Ex.blk 1000 rfl ?_
    rcases ite_sp h with ⟨c2, h⟩ | ⟨c2, h⟩
    · refine And.intro (fun hp => absurd c2 hp) (fun _ => ?_)
      show Ex mr_X9_as sc (Cl MT pr sc (d + 2)) (rtE (some (.int r)) (mk X) σ2) (14, [(0, .ref 0), (1, .int x1), (2, .int x2)], [], mk X, p2.2)
      refine Ex.pick (lv' := _) [] rfl ?_
      exact lk_X9_as_14 d _ h
    · refine And.intro (fun _ => ?_) (fun hn => absurd c2 hn)
      show Ex mr_X9_as sc (Cl MT pr sc (d + 2)) (rtE (some (.int r)) (mk X) σ2) (16, [(0, .ref 0), (1, .int x1), (2, .int x2)], [], mk X, p2.2)
      refine Ex.blk 5 rfl ?_
      show Ex mr_X9_as sc (Cl MT pr sc (d + 2)) (rtE (some (.int r)) (mk X) σ2) (23, [(0, .ref 0), (1, .int x1), (2, .int x2)], [.long x2.toInt64, .int x1, .ref 15], mk X, p2.2)
      refine Ex.blk 1 rfl ?_
      obtain ⟨p3, hp3, h⟩ := bind_sp h
      refine Exists.intro (some (.long p3.1)) (Exists.intro (mk X) (Exists.intro p3.2 (And.intro (cl_X1_likely (d + 0) hp3) ?_)))
      show Ex mr_X9_as sc (Cl MT pr sc (d + 2)) (rtE (some (.int r)) (mk X) σ2) (26, [(0, .ref 0), (1, .int x1), (2, .int x2)], [.long p3.1], mk X, p3.2)
      refine Ex.blk 2 rfl ?_
      refine And.intro (nzJ_ok (b := 1000000000000) (by decide)) ?_
      show Ex mr_X9_as sc (Cl MT pr sc (d + 2)) (rtE (some (.int r)) (mk X) σ2) (30, [(0, .ref 0), (1, .int x1), (2, .int x2)], [.long (p3.1 / 1000000000000)], mk X, p3.2)
      refine Ex.blk 1000 rfl ?_
      cases h
      exact And.intro trivial ⟨rfl, rfl, rfl⟩
theorem lk_X9_guess_62 {pr : Ct} {sc : Nat × (Nat → Int32)} {X : En} (d : Nat) {r : Int32} {σ2 : St} (k16 : Int32 → Int32 → Int64 → Int32 → St → Option (Int32 × St)) (hk16 : ∀ (x1 : Int32) (x2 : Int32) (x3 : Int64) (x5 : Int32) (σ : St), k16 x1 x2 x3 x5 σ = some (r, σ2) → Ex mr_X9_guess sc (Cl MT pr sc (d + 2)) (rtE (some (.int r)) (mk X) σ2) (16, [(0, .ref 0), (1, .int x1), (2, .int x2), (3, .long x3), (5, .int x5)], [], mk X, σ)) (x1 : Int32) (x2 : Int32) (x3 : Int64) (x5 : Int32) (σ : St) (h : f_X9_guess_62 k16 x1 x2 x3 x5 σ = some (r, σ2)) : Ex mr_X9_guess sc (Cl MT pr sc (d + 2)) (rtE (some (.int r)) (mk X) σ2) (62, [(0, .ref 0), (1, .int x1), (2, .int x2), (3, .long x3), (5, .int x5)], [], mk X, σ) := by
  unfold f_X9_guess_62 at h
  refine Ex.blk 1000 rfl ?_
  show Ex mr_X9_guess sc (Cl MT pr sc (d + 2)) (rtE (some (.int r)) (mk X) σ2) (16, [(5, .int (x5 + 1)), (0, .ref 0), (1, .int x1), (2, .int x2), (3, .long x3)], [], mk X, σ)
  refine Ex.pick (lv' := _) [1, 2, 3, 4, 0] rfl ?_
  exact hk16 _ _ _ _ _ h
theorem lk_X9_guess_16 {pr : Ct} {sc : Nat × (Nat → Int32)} {X : En} (d : Nat) {r : Int32} {σ2 : St} : ∀ (n : Nat) (x1 : Int32) (x2 : Int32) (x3 : Int64) (x5 : Int32) (σ : St), f_X9_guess_16 n x1 x2 x3 x5 σ = some (r, σ2) → Ex mr_X9_guess sc (Cl MT pr sc (d + 2)) (rtE (some (.int r)) (mk X) σ2) (16, [(0, .ref 0), (1, .int x1), (2, .int x2), (3, .long x3), (5, .int x5)], [], mk X, σ) := by
  intro n
  induction n with
  | zero =>
    intro x1 x2 x3 x5 σ h
    cases h
  | succ n ih =>
    intro x1 x2 x3 x5 σ h
    simp only [f_X9_guess_16] at h
    refine Ex.blk 1000 rfl ?_
    rcases ite_sp h with ⟨c1, h⟩ | ⟨c1, h⟩
    · refine And.intro (fun _ => ?_) (fun hn => absurd c1 hn)
      show Ex mr_X9_guess sc (Cl MT pr sc (d + 2)) (rtE (some (.int r)) (mk X) σ2) (68, [(0, .ref 0), (1, .int x1), (2, .int x2), (3, .long x3), (5, .int x5)], [], mk X, σ)
      refine Ex.blk 1000 rfl ?_
      cases h
      exact And.intro trivial ⟨rfl, rfl, rfl⟩
    · refine And.intro (fun hp => absurd hp c1) (fun _ => ?_)
      show Ex mr_X9_guess sc (Cl MT pr sc (d + 2)) (rtE (some (.int r)) (mk X) σ2) (28, [(0, .ref 0), (1, .int x1), (2, .int x2), (3, .long x3), (5, .int x5)], [], mk X, σ)
      refine Ex.blk 5 rfl ?_
      show Ex mr_X9_guess sc (Cl MT pr sc (d + 2)) (rtE (some (.int r)) (mk X) σ2) (39, [(0, .ref 0), (1, .int x1), (2, .int x2), (3, .long x3), (5, .int x5)], [.ref 20, .ref 15], mk X, σ)
      refine Ex.blk 2 rfl ?_
      obtain ⟨g2, h⟩ := gd_some h
      refine And.intro (inb_ok g2) ?_
      show Ex mr_X9_guess sc (Cl MT pr sc (d + 2)) (rtE (some (.int r)) (mk X) σ2) (42, [(0, .ref 0), (1, .int x1), (2, .int x2), (3, .long x3), (5, .int x5)], [.int (gI σ 20 x5.toNatClampNeg), .ref 15], mk X, σ)
      refine Ex.blk 3 rfl ?_
      obtain ⟨p2, hp2, h⟩ := bind_sp h
      refine Exists.intro (some (.long p2.1)) (Exists.intro (mk X) (Exists.intro p2.2 (And.intro (cl_X1_likely (d + 0) hp2) ?_)))
      show Ex mr_X9_guess sc (Cl MT pr sc (d + 2)) (rtE (some (.int r)) (mk X) σ2) (47, [(0, .ref 0), (1, .int x1), (2, .int x2), (3, .long x3), (5, .int x5)], [.long p2.1], mk X, p2.2)
      refine Ex.blk 1000 rfl ?_
      rcases ite_sp h with ⟨c3, h⟩ | ⟨c3, h⟩
      · refine And.intro (fun _ => ?_) (fun hn => absurd c3 hn)
        show Ex mr_X9_guess sc (Cl MT pr sc (d + 2)) (rtE (some (.int r)) (mk X) σ2) (62, [(6, .long p2.1), (0, .ref 0), (1, .int x1), (2, .int x2), (3, .long x3), (5, .int x5)], [], mk X, p2.2)
        refine Ex.pick (lv' := _) [1, 2, 3, 4, 5] rfl ?_
        exact lk_X9_guess_62 d _ ih _ _ _ _ _ h
      · refine And.intro (fun hp => absurd hp c3) (fun _ => ?_)
        show Ex mr_X9_guess sc (Cl MT pr sc (d + 2)) (rtE (some (.int r)) (mk X) σ2) (56, [(6, .long p2.1), (0, .ref 0), (1, .int x1), (2, .int x2), (3, .long x3), (5, .int x5)], [], mk X, p2.2)
        refine Ex.blk 1000 rfl ?_
        show Ex mr_X9_guess sc (Cl MT pr sc (d + 2)) (rtE (some (.int r)) (mk X) σ2) (62, [(2, .int x5), (3, .long p2.1), (6, .long p2.1), (0, .ref 0), (1, .int x1), (5, .int x5)], [], mk X, p2.2)
        refine Ex.pick (lv' := _) [3, 4, 0, 1, 5] rfl ?_
        exact lk_X9_guess_62 d _ ih _ _ _ _ _ h
theorem cl_X9_guess {pr : Ct} {sc : Nat × (Nat → Int32)} {X : En} (d : Nat) {r : Int32} {σ2 : St} {x1 : Int32} {σ : St} (h : f_X9_guess x1 σ = some (r, σ2)) : Cl MT pr sc (d + 2 + 1) 121 [.ref 0, .int x1] (mk X) σ (some (.int r)) (mk X) σ2 := by
  refine cl_of mr_X9_guess rfl rfl ?_
  unfold f_X9_guess at h
  refine Ex.blk 2 rfl ?_
  obtain ⟨p1, hp1, h⟩ := bind_sp h
  refine Exists.intro (some (.int p1.1)) (Exists.intro (mk X) (Exists.intro p1.2 (And.intro (cl_X9_isNumber (d + 1) hp1) ?_)))
  show Ex mr_X9_guess sc (Cl MT pr sc (d + 2)) (rtE (some (.int r)) (mk X) σ2) (4, [(0, .ref 0), (1, .int x1)], [.int p1.1], mk X, p1.2)
  refine Ex.blk 1000 rfl ?_
  rcases ite_sp h with ⟨c1, h⟩ | ⟨c1, h⟩
  · refine And.intro (fun hp => absurd c1 hp) (fun _ => ?_)
    show Ex mr_X9_guess sc (Cl MT pr sc (d + 2)) (rtE (some (.int r)) (mk X) σ2) (7, [(0, .ref 0), (1, .int x1)], [], mk X, p1.2)
    refine Ex.blk 1000 rfl ?_
    cases h
    exact And.intro trivial ⟨rfl, rfl, rfl⟩
  · refine And.intro (fun _ => ?_) (fun hn => absurd c1 hn)
    show Ex mr_X9_guess sc (Cl MT pr sc (d + 2)) (rtE (some (.int r)) (mk X) σ2) (9, [(0, .ref 0), (1, .int x1)], [], mk X, p1.2)
    refine Ex.blk 5 rfl ?_
    show Ex mr_X9_guess sc (Cl MT pr sc (d + 2)) (rtE (some (.int r)) (mk X) σ2) (14, [(3, .long 0), (2, .int (-1)), (0, .ref 0), (1, .int x1)], [.int 0], mk X, p1.2)
    refine Ex.blk 1000 rfl ?_
    show Ex mr_X9_guess sc (Cl MT pr sc (d + 2)) (rtE (some (.int r)) (mk X) σ2) (16, [(5, .int 0), (3, .long 0), (2, .int (-1)), (0, .ref 0), (1, .int x1)], [], mk X, p1.2)
    refine Ex.pick (lv' := _) [3, 4, 2, 1, 0] rfl ?_
    exact lk_X9_guess_16 d FU _ _ _ _ _ h
theorem lk_X9_confused_95 {pr : Ct} {sc : Nat × (Nat → Int32)} {X : En} (d : Nat) {r : Int32} {σ2 : St} (k4 : Int32 → Int32 → St → Option (Int32 × St)) (k19 : Int32 → Int32 → Int32 → St → Option (Int32 × St)) (hk4 : ∀ (x1 : Int32) (x2 : Int32) (σ : St), k4 x1 x2 σ = some (r, σ2) → Ex mr_X9_confused sc (Cl MT pr sc (d + 2)) (rtE (some (.int r)) (mk X) σ2) (4, [(0, .ref 0), (1, .int x1), (2, .int x2)], [], mk X, σ)) (hk19 : ∀ (x1 : Int32) (x2 : Int32) (x3 : Int32) (σ : St), k19 x1 x2 x3 σ = some (r, σ2) → Ex mr_X9_confused sc (Cl MT pr sc (d + 2)) (rtE (some (.int r)) (mk X) σ2) (19, [(0, .ref 0), (1, .int x1), (2, .int x2), (3, .int x3)], [], mk X, σ)) (x1 : Int32) (x2 : Int32) (x3 : Int32) (σ : St) (h : f_X9_confused_95 k4 k19 x1 x2 x3 σ = some (r, σ2)) : Ex mr_X9_confused sc (Cl MT pr sc (d + 2)) (rtE (some (.int r)) (mk X) σ2) (95, [(0, .ref 0), (1, .int x1), (2, .int x2), (3, .int x3)], [], mk X, σ) := by
  unfold f_X9_confused_95 at h
  refine Ex.blk 1000 rfl ?_
  show Ex mr_X9_confused sc (Cl MT pr sc (d + 2)) (rtE (some (.int r)) (mk X) σ2) (19, [(3, .int (x3 + 1)), (0, .ref 0), (1, .int x1), (2, .int x2)], [], mk X, σ)
  refine Ex.pick (lv' := _) [1, 2, 3, 0] rfl ?_
  exact hk19 _ _ _ _ h
theorem lk_X9_confused_92 {pr : Ct} {sc : Nat × (Nat → Int32)} {X : En} (d : Nat) {r : Int32} {σ2 : St} (k4 : Int32 → Int32 → St → Option (Int32 × St)) (k19 : Int32 → Int32 → Int32 → St → Option (Int32 × St)) (hk4 : ∀ (x1 : Int32) (x2 : Int32) (σ : St), k4 x1 x2 σ = some (r, σ2) → Ex mr_X9_confused sc (Cl MT pr sc (d + 2)) (rtE (some (.int r)) (mk X) σ2) (4, [(0, .ref 0), (1, .int x1), (2, .int x2)], [], mk X, σ)) (hk19 : ∀ (x1 : Int32) (x2 : Int32) (x3 : Int32) (σ : St), k19 x1 x2 x3 σ = some (r, σ2) → Ex mr_X9_confused sc (Cl MT pr sc (d + 2)) (rtE (some (.int r)) (mk X) σ2) (19, [(0, .ref 0), (1, .int x1), (2, .int x2), (3, .int x3)], [], mk X, σ)) (x1 : Int32) (x2 : Int32) (x3 : Int32) (σ : St) (h : f_X9_confused_92 k4 k19 x1 x2 x3 σ = some (r, σ2)) : Ex mr_X9_confused sc (Cl MT pr sc (d + 2)) (rtE (some (.int r)) (mk X) σ2) (92, [(0, .ref 0), (1, .int x1), (2, .int x2), (3, .int x3)], [], mk X, σ) := by
  unfold f_X9_confused_92 at h
  refine Ex.blk 1000 rfl ?_
  show Ex mr_X9_confused sc (Cl MT pr sc (d + 2)) (rtE (some (.int r)) (mk X) σ2) (95, [(1, .int (x1 + 1)), (0, .ref 0), (2, .int x2), (3, .int x3)], [], mk X, σ)
  refine Ex.pick (lv' := _) [1, 0, 2, 3] rfl ?_
  exact lk_X9_confused_95 d _ _ hk4 hk19 _ _ _ _ h
theorem lk_X9_confused_19 {pr : Ct} {sc : Nat × (Nat → Int32)} {X : En} (d : Nat) {r : Int32} {σ2 : St} (k4 : Int32 → Int32 → St → Option (Int32 × St)) (hk4 : ∀ (x1 : Int32) (x2 : Int32) (σ : St), k4 x1 x2 σ = some (r, σ2) → Ex mr_X9_confused sc (Cl MT pr sc (d + 2)) (rtE (some (.int r)) (mk X) σ2) (4, [(0, .ref 0), (1, .int x1), (2, .int x2)], [], mk X, σ)) : ∀ (n : Nat) (x1 : Int32) (x2 : Int32) (x3 : Int32) (σ : St), f_X9_confused_19 k4 n x1 x2 x3 σ = some (r, σ2) → Ex mr_X9_confused sc (Cl MT pr sc (d + 2)) (rtE (some (.int r)) (mk X) σ2) (19, [(0, .ref 0), (1, .int x1), (2, .int x2), (3, .int x3)], [], mk X, σ) := by
  intro n
  induction n with
  | zero =>
    intro x1 x2 x3 σ h
    cases h
  | succ n ih =>
    intro x1 x2 x3 σ h
    simp only [f_X9_confused_19] at h
    refine Ex.blk 1000 rfl ?_
    rcases ite_sp h with ⟨c1, h⟩ | ⟨c1, h⟩
    · refine And.intro (fun _ => ?_) (fun hn => absurd c1 hn)
      show Ex mr_X9_confused sc (Cl MT pr sc (d + 2)) (rtE (some (.int r)) (mk X) σ2) (101, [(0, .ref 0), (1, .int x1), (2, .int x2), (3, .int x3)], [], mk X, σ)
      refine Ex.blk 1000 rfl ?_
      show Ex mr_X9_confused sc (Cl MT pr sc (d + 2)) (rtE (some (.int r)) (mk X) σ2) (4, [(2, .int (x2 + 1)), (0, .ref 0), (1, .int x1), (3, .int x3)], [], mk X, σ)
      refine Ex.pick (lv' := _) [1, 2, 0] rfl ?_
      exact hk4 _ _ _ h
    · refine And.intro (fun hp => absurd hp c1) (fun _ => ?_)
      show Ex mr_X9_confused sc (Cl MT pr sc (d + 2)) (rtE (some (.int r)) (mk X) σ2) (30, [(0, .ref 0), (1, .int x1), (2, .int x2), (3, .int x3)], [], mk X, σ)
      refine Ex.blk 5 rfl ?_
      show Ex mr_X9_confused sc (Cl MT pr sc (d + 2)) (rtE (some (.int r)) (mk X) σ2) (41, [(0, .ref 0), (1, .int x1), (2, .int x2), (3, .int x3)], [.ref 20, .ref 15], mk X, σ)
      refine Ex.blk 2 rfl ?_
      obtain ⟨g2, h⟩ := gd_some h
      refine And.intro (inb_ok g2) ?_
      show Ex mr_X9_confused sc (Cl MT pr sc (d + 2)) (rtE (some (.int r)) (mk X) σ2) (43, [(0, .ref 0), (1, .int x1), (2, .int x2), (3, .int x3)], [.int (gI σ 20 x2.toNatClampNeg), .ref 15], mk X, σ)
      refine Ex.blk 5 rfl ?_
      obtain ⟨g3, h⟩ := gd_some h
      refine And.intro (inb_ok g3) ?_
      show Ex mr_X9_confused sc (Cl MT pr sc (d + 2)) (rtE (some (.int r)) (mk X) σ2) (52, [(0, .ref 0), (1, .int x1), (2, .int x2), (3, .int x3)], [.int (gI σ 20 x3.toNatClampNeg), .int (gI σ 20 x2.toNatClampNeg), .ref 15], mk X, σ)
      refine Ex.blk 2 rfl ?_
      obtain ⟨p1, hp1, h⟩ := bind_sp h
      refine Exists.intro (some (.long p1.1)) (Exists.intro (mk X) (Exists.intro p1.2 (And.intro (cl_X1_likely (d + 0) hp1) ?_)))
      show Ex mr_X9_confused sc (Cl MT pr sc (d + 2)) (rtE (some (.int r)) (mk X) σ2) (56, [(0, .ref 0), (1, .int x1), (2, .int x2), (3, .int x3)], [.long p1.1], mk X, p1.2)
      refine Ex.blk 1000 rfl ?_
      rcases ite_sp h with ⟨c4, h⟩ | ⟨c4, h⟩
      · refine And.intro (fun _ => ?_) (fun hn => absurd c4 hn)
        show Ex mr_X9_confused sc (Cl MT pr sc (d + 2)) (rtE (some (.int r)) (mk X) σ2) (92, [(0, .ref 0), (1, .int x1), (2, .int x2), (3, .int x3)], [], mk X, p1.2)
        exact lk_X9_confused_92 d _ _ hk4 ih _ _ _ _ h
      · refine And.intro (fun hp => absurd hp c4) (fun _ => ?_)
        show Ex mr_X9_confused sc (Cl MT pr sc (d + 2)) (rtE (some (.int r)) (mk X) σ2) (61, [(0, .ref 0), (1, .int x1), (2, .int x2), (3, .int x3)], [], mk X, p1.2)
        refine Ex.blk 5 rfl ?_
        show Ex mr_X9_confused sc (Cl MT pr sc (d + 2)) (rtE (some (.int r)) (mk X) σ2) (72, [(0, .ref 0), (1, .int x1), (2, .int x2), (3, .int x3)], [.ref 20, .ref 15], mk X, p1.2)
        refine Ex.blk 2 rfl ?_
        obtain ⟨g5, h⟩ := gd_some h
        refine And.intro (inb_ok g5) ?_
        show Ex mr_X9_confused sc (Cl MT pr sc (d + 2)) (rtE (some (.int r)) (mk X) σ2) (74, [(0, .ref 0), (1, .int x1), (2, .int x2), (3, .int x3)], [.int (gI p1.2 20 x3.toNatClampNeg), .ref 15], mk X, p1.2)
        refine Ex.blk 5 rfl ?_
        obtain ⟨g6, h⟩ := gd_some h
        refine And.intro (inb_ok g6) ?_
        show Ex mr_X9_confused sc (Cl MT pr sc (d + 2)) (rtE (some (.int r)) (mk X) σ2) (83, [(0, .ref 0), (1, .int x1), (2, .int x2), (3, .int x3)], [.int (gI p1.2 20 x2.toNatClampNeg), .int (gI p1.2 20 x3.toNatClampNeg), .ref 15], mk X, p1.2)
        refine Ex.blk 2 rfl ?_
        obtain ⟨p2, hp2, h⟩ := bind_sp h
        refine Exists.intro (some (.long p2.1)) (Exists.intro (mk X) (Exists.intro p2.2 (And.intro (cl_X1_likely (d + 0) hp2) ?_)))
        show Ex mr_X9_confused sc (Cl MT pr sc (d + 2)) (rtE (some (.int r)) (mk X) σ2) (87, [(0, .ref 0), (1, .int x1), (2, .int x2), (3, .int x3)], [.long p2.1], mk X, p2.2)
        refine Ex.blk 1000 rfl ?_
        rcases ite_sp h with ⟨c7, h⟩ | ⟨c7, h⟩
        · refine And.intro (fun _ => ?_) (fun hn => absurd c7 hn)
          show Ex mr_X9_confused sc (Cl MT pr sc (d + 2)) (rtE (some (.int r)) (mk X) σ2) (95, [(0, .ref 0), (1, .int x1), (2, .int x2), (3, .int x3)], [], mk X, p2.2)
          exact lk_X9_confused_95 d _ _ hk4 ih _ _ _ _ h
        · refine And.intro (fun hp => absurd hp c7) (fun _ => ?_)
          show Ex mr_X9_confused sc (Cl MT pr sc (d + 2)) (rtE (some (.int r)) (mk X) σ2) (92, [(0, .ref 0), (1, .int x1), (2, .int x2), (3, .int x3)], [], mk X, p2.2)
          exact lk_X9_confused_92 d _ _ hk4 ih _ _ _ _ h
theorem lk_X9_confused_4 {pr : Ct} {sc : Nat × (Nat → Int32)} {X : En} (d : Nat) {r : Int32} {σ2 : St} : ∀ (n : Nat) (x1 : Int32) (x2 : Int32) (σ : St), f_X9_confused_4 n x1 x2 σ = some (r, σ2) → Ex mr_X9_confused sc (Cl MT pr sc (d + 2)) (rtE (some (.int r)) (mk X) σ2) (4, [(0, .ref 0), (1, .int x1), (2, .int x2)], [], mk X, σ) := by
  intro n
  induction n with
  | zero =>
    intro x1 x2 σ h
    cases h
  | succ n ih =>
    intro x1 x2 σ h
    simp only [f_X9_confused_4] at h
    refine Ex.blk 1000 rfl ?_
    rcases ite_sp h with ⟨c1, h⟩ | ⟨c1, h⟩
    · refine And.intro (fun _ => ?_) (fun hn => absurd c1 hn)
      show Ex mr_X9_confused sc (Cl MT pr sc (d + 2)) (rtE (some (.int r)) (mk X) σ2) (107, [(0, .ref 0), (1, .int x1), (2, .int x2)], [], mk X, σ)
      refine Ex.blk 1000 rfl ?_
      cases h
      exact And.intro trivial ⟨rfl, rfl, rfl⟩
    · refine And.intro (fun hp => absurd hp c1) (fun _ => ?_)
      show Ex mr_X9_confused sc (Cl MT pr sc (d + 2)) (rtE (some (.int r)) (mk X) σ2) (15, [(0, .ref 0), (1, .int x1), (2, .int x2)], [], mk X, σ)
      refine Ex.blk 1000 rfl ?_
      show Ex mr_X9_confused sc (Cl MT pr sc (d + 2)) (rtE (some (.int r)) (mk X) σ2) (19, [(3, .int (x2 + 1)), (0, .ref 0), (1, .int x1), (2, .int x2)], [], mk X, σ)
      refine Ex.pick (lv' := _) [1, 2, 3, 0] rfl ?_
      exact lk_X9_confused_19 d _ ih FU _ _ _ _ h
theorem cl_X9_confused {pr : Ct} {sc : Nat × (Nat → Int32)} {X : En} (d : Nat) {r : Int32} {σ2 : St} {σ : St} (h : f_X9_confused σ = some (r, σ2)) : Cl MT pr sc (d + 2 + 1) 122 [.ref 0] (mk X) σ (some (.int r)) (mk X) σ2 := by
  refine cl_of mr_X9_confused rfl rfl ?_
  unfold f_X9_confused at h
  refine Ex.blk 1000 rfl ?_
  show Ex mr_X9_confused sc (Cl MT pr sc (d + 2)) (rtE (some (.int r)) (mk X) σ2) (4, [(2, .int 0), (1, .int 0), (0, .ref 0)], [], mk X, σ)
  refine Ex.pick (lv' := _) [2, 1, 0] rfl ?_
  exact lk_X9_confused_4 d FU _ _ _ h
theorem lk_X9_millionths_93 {pr : Ct} {sc : Nat × (Nat → Int32)} {X : En} (d : Nat) {r : Int32} {σ2 : St} (k22 : Int64 → Int32 → Int64 → Int32 → St → Option (Int32 × St)) (hk22 : ∀ (x2 : Int64) (x4 : Int32) (x5 : Int64) (x7 : Int32) (σ : St), k22 x2 x4 x5 x7 σ = some (r, σ2) → Ex mr_X9_millionths sc (Cl MT pr sc (d + 0)) (rtE (some (.int r)) (mk X) σ2) (22, [(2, .long x2), (4, .int x4), (5, .long x5), (7, .int x7)], [], mk X, σ)) (x2 : Int64) (x4 : Int32) (x7 : Int32) (x9 : Int64) (σ : St) (h : f_X9_millionths_93 k22 x2 x4 x7 x9 σ = some (r, σ2)) : Ex mr_X9_millionths sc (Cl MT pr sc (d + 0)) (rtE (some (.int r)) (mk X) σ2) (93, [(2, .long x2), (4, .int x4), (7, .int x7), (9, .long x9)], [], mk X, σ) := by
  unfold f_X9_millionths_93 at h
  refine Ex.blk 1000 rfl ?_
  show Ex mr_X9_millionths sc (Cl MT pr sc (d + 0)) (rtE (some (.int r)) (mk X) σ2) (22, [(7, .int (x7 + 1)), (5, .long x9), (2, .long x2), (4, .int x4), (9, .long x9)], [], mk X, σ)
  refine Ex.pick (lv' := _) [2, 3, 1, 0] rfl ?_
  exact hk22 _ _ _ _ _ h
theorem lk_X9_millionths_77 {pr : Ct} {sc : Nat × (Nat → Int32)} {X : En} (d : Nat) {r : Int32} {σ2 : St} (k22 : Int64 → Int32 → Int64 → Int32 → St → Option (Int32 × St)) (k38 : Int64 → Int32 → Int64 → Int32 → Int32 → Int64 → Int32 → St → Option (Int32 × St)) (hk22 : ∀ (x2 : Int64) (x4 : Int32) (x5 : Int64) (x7 : Int32) (σ : St), k22 x2 x4 x5 x7 σ = some (r, σ2) → Ex mr_X9_millionths sc (Cl MT pr sc (d + 0)) (rtE (some (.int r)) (mk X) σ2) (22, [(2, .long x2), (4, .int x4), (5, .long x5), (7, .int x7)], [], mk X, σ)) (hk38 : ∀ (x2 : Int64) (x4 : Int32) (x5 : Int64) (x7 : Int32) (x8 : Int32) (x9 : Int64) (x11 : Int32) (σ : St), k38 x2 x4 x5 x7 x8 x9 x11 σ = some (r, σ2) → Ex mr_X9_millionths sc (Cl MT pr sc (d + 0)) (rtE (some (.int r)) (mk X) σ2) (38, [(2, .long x2), (4, .int x4), (5, .long x5), (7, .int x7), (8, .int x8), (9, .long x9), (11, .int x11)], [], mk X, σ)) (x2 : Int64) (x4 : Int32) (x5 : Int64) (x7 : Int32) (x8 : Int32) (x9 : Int64) (x11 : Int32) (σ : St) (h : f_X9_millionths_77 k22 k38 x2 x4 x5 x7 x8 x9 x11 σ = some (r, σ2)) : Ex mr_X9_millionths sc (Cl MT pr sc (d + 0)) (rtE (some (.int r)) (mk X) σ2) (77, [(2, .long x2), (4, .int x4), (5, .long x5), (7, .int x7), (8, .int x8), (9, .long x9), (11, .int x11)], [], mk X, σ) := by
  unfold f_X9_millionths_77 at h
  refine Ex.blk 1000 rfl ?_
  show Ex mr_X9_millionths sc (Cl MT pr sc (d + 0)) (rtE (some (.int r)) (mk X) σ2) (38, [(11, .int (x11 + 1)), (2, .long x2), (4, .int x4), (5, .long x5), (7, .int x7), (8, .int x8), (9, .long x9)], [], mk X, σ)
  refine Ex.pick (lv' := _) [1, 2, 3, 4, 5, 6, 0] rfl ?_
  exact hk38 _ _ _ _ _ _ _ _ h
theorem lk_X9_millionths_64 {pr : Ct} {sc : Nat × (Nat → Int32)} {X : En} (d : Nat) {r : Int32} {σ2 : St} (k22 : Int64 → Int32 → Int64 → Int32 → St → Option (Int32 × St)) (k38 : Int64 → Int32 → Int64 → Int32 → Int32 → Int64 → Int32 → St → Option (Int32 × St)) (hk22 : ∀ (x2 : Int64) (x4 : Int32) (x5 : Int64) (x7 : Int32) (σ : St), k22 x2 x4 x5 x7 σ = some (r, σ2) → Ex mr_X9_millionths sc (Cl MT pr sc (d + 0)) (rtE (some (.int r)) (mk X) σ2) (22, [(2, .long x2), (4, .int x4), (5, .long x5), (7, .int x7)], [], mk X, σ)) (hk38 : ∀ (x2 : Int64) (x4 : Int32) (x5 : Int64) (x7 : Int32) (x8 : Int32) (x9 : Int64) (x11 : Int32) (σ : St), k38 x2 x4 x5 x7 x8 x9 x11 σ = some (r, σ2) → Ex mr_X9_millionths sc (Cl MT pr sc (d + 0)) (rtE (some (.int r)) (mk X) σ2) (38, [(2, .long x2), (4, .int x4), (5, .long x5), (7, .int x7), (8, .int x8), (9, .long x9), (11, .int x11)], [], mk X, σ)) (x2 : Int64) (x4 : Int32) (x5 : Int64) (x7 : Int32) (x8 : Int32) (x9 : Int64) (x11 : Int32) (σ : St) (h : f_X9_millionths_64 k22 k38 x2 x4 x5 x7 x8 x9 x11 σ = some (r, σ2)) : Ex mr_X9_millionths sc (Cl MT pr sc (d + 0)) (rtE (some (.int r)) (mk X) σ2) (64, [(2, .long x2), (4, .int x4), (5, .long x5), (7, .int x7), (8, .int x8), (9, .long x9), (11, .int x11)], [], mk X, σ) := by
  unfold f_X9_millionths_64 at h
  refine Ex.blk 1000 rfl ?_
  show Ex mr_X9_millionths sc (Cl MT pr sc (d + 0)) (rtE (some (.int r)) (mk X) σ2) (77, [(8, .int (x8 + 1)), (2, .long x2), (4, .int x4), (5, .long x5), (7, .int x7), (9, .long x9), (11, .int x11)], [], mk X, σ)
  refine Ex.pick (lv' := _) [1, 2, 3, 4, 0, 5, 6] rfl ?_
  exact lk_X9_millionths_77 d _ _ hk22 hk38 _ _ _ _ _ _ _ _ h
theorem lk_X9_millionths_38 {pr : Ct} {sc : Nat × (Nat → Int32)} {X : En} (d : Nat) {r : Int32} {σ2 : St} (k22 : Int64 → Int32 → Int64 → Int32 → St → Option (Int32 × St)) (hk22 : ∀ (x2 : Int64) (x4 : Int32) (x5 : Int64) (x7 : Int32) (σ : St), k22 x2 x4 x5 x7 σ = some (r, σ2) → Ex mr_X9_millionths sc (Cl MT pr sc (d + 0)) (rtE (some (.int r)) (mk X) σ2) (22, [(2, .long x2), (4, .int x4), (5, .long x5), (7, .int x7)], [], mk X, σ)) : ∀ (n : Nat) (x2 : Int64) (x4 : Int32) (x5 : Int64) (x7 : Int32) (x8 : Int32) (x9 : Int64) (x11 : Int32) (σ : St), f_X9_millionths_38 k22 n x2 x4 x5 x7 x8 x9 x11 σ = some (r, σ2) → Ex mr_X9_millionths sc (Cl MT pr sc (d + 0)) (rtE (some (.int r)) (mk X) σ2) (38, [(2, .long x2), (4, .int x4), (5, .long x5), (7, .int x7), (8, .int x8), (9, .long x9), (11, .int x11)], [], mk X, σ) := by
  intro n
  induction n with
  | zero =>
    intro x2 x4 x5 x7 x8 x9 x11 σ h
    cases h
  | succ n ih =>
    intro x2 x4 x5 x7 x8 x9 x11 σ h
    simp only [f_X9_millionths_38] at h
    refine Ex.blk 1000 rfl ?_
    rcases ite_sp h with ⟨c1, h⟩ | ⟨c1, h⟩
    · refine And.intro (fun _ => ?_) (fun hn => absurd c1 hn)
      show Ex mr_X9_millionths sc (Cl MT pr sc (d + 0)) (rtE (some (.int r)) (mk X) σ2) (83, [(2, .long x2), (4, .int x4), (5, .long x5), (7, .int x7), (8, .int x8), (9, .long x9), (11, .int x11)], [], mk X, σ)
      refine Ex.blk 5 rfl ?_
      show Ex mr_X9_millionths sc (Cl MT pr sc (d + 0)) (rtE (some (.int r)) (mk X) σ2) (91, [(2, .long x2), (4, .int x4), (5, .long x5), (7, .int x7), (8, .int x8), (9, .long x9), (11, .int x11)], [.int ((10 * x4) + x8)], mk X, σ)
      refine Ex.blk 1 rfl ?_
      show Ex mr_X9_millionths sc (Cl MT pr sc (d + 0)) (rtE (some (.int r)) (mk X) σ2) (93, [(4, .int ((10 * x4) + x8)), (2, .long x2), (5, .long x5), (7, .int x7), (8, .int x8), (9, .long x9), (11, .int x11)], [], mk X, σ)
      refine Ex.pick (lv' := _) [1, 0, 3, 5] rfl ?_
      exact lk_X9_millionths_93 d _ hk22 _ _ _ _ _ h
    · refine And.intro (fun hp => absurd hp c1) (fun _ => ?_)
      show Ex mr_X9_millionths sc (Cl MT pr sc (d + 0)) (rtE (some (.int r)) (mk X) σ2) (45, [(2, .long x2), (4, .int x4), (5, .long x5), (7, .int x7), (8, .int x8), (9, .long x9), (11, .int x11)], [], mk X, σ)
      refine Ex.blk 5 rfl ?_
      show Ex mr_X9_millionths sc (Cl MT pr sc (d + 0)) (rtE (some (.int r)) (mk X) σ2) (52, [(2, .long x2), (4, .int x4), (5, .long x5), (7, .int x7), (8, .int x8), (9, .long x9), (11, .int x11)], [.int (lg_cmp x9 (x2 - x5))], mk X, σ)
      refine Ex.blk 1000 rfl ?_
      rcases ite_sp h with ⟨c2, h⟩ | ⟨c2, h⟩
      · refine And.intro (fun _ => ?_) (fun hn => absurd c2 hn)
        show Ex mr_X9_millionths sc (Cl MT pr sc (d + 0)) (rtE (some (.int r)) (mk X) σ2) (70, [(2, .long x2), (4, .int x4), (5, .long x5), (7, .int x7), (8, .int x8), (9, .long x9), (11, .int x11)], [], mk X, σ)
        refine Ex.blk 1000 rfl ?_
        show Ex mr_X9_millionths sc (Cl MT pr sc (d + 0)) (rtE (some (.int r)) (mk X) σ2) (77, [(9, .long (x9 + x5)), (2, .long x2), (4, .int x4), (5, .long x5), (7, .int x7), (8, .int x8), (11, .int x11)], [], mk X, σ)
        refine Ex.pick (lv' := _) [1, 2, 3, 4, 5, 0, 6] rfl ?_
        exact lk_X9_millionths_77 d _ _ hk22 ih _ _ _ _ _ _ _ _ h
      · refine And.intro (fun hp => absurd hp c2) (fun _ => ?_)
        show Ex mr_X9_millionths sc (Cl MT pr sc (d + 0)) (rtE (some (.int r)) (mk X) σ2) (55, [(2, .long x2), (4, .int x4), (5, .long x5), (7, .int x7), (8, .int x8), (9, .long x9), (11, .int x11)], [], mk X, σ)
        refine Ex.blk 5 rfl ?_
        show Ex mr_X9_millionths sc (Cl MT pr sc (d + 0)) (rtE (some (.int r)) (mk X) σ2) (62, [(2, .long x2), (4, .int x4), (5, .long x5), (7, .int x7), (8, .int x8), (9, .long x9), (11, .int x11)], [.long (x9 - (x2 - x5))], mk X, σ)
        refine Ex.blk 1 rfl ?_
        show Ex mr_X9_millionths sc (Cl MT pr sc (d + 0)) (rtE (some (.int r)) (mk X) σ2) (64, [(9, .long (x9 - (x2 - x5))), (2, .long x2), (4, .int x4), (5, .long x5), (7, .int x7), (8, .int x8), (11, .int x11)], [], mk X, σ)
        refine Ex.pick (lv' := _) [1, 2, 3, 4, 5, 0, 6] rfl ?_
        exact lk_X9_millionths_64 d _ _ hk22 ih _ _ _ _ _ _ _ _ h
theorem lk_X9_millionths_22 {pr : Ct} {sc : Nat × (Nat → Int32)} {X : En} (d : Nat) {r : Int32} {σ2 : St} : ∀ (n : Nat) (x2 : Int64) (x4 : Int32) (x5 : Int64) (x7 : Int32) (σ : St), f_X9_millionths_22 n x2 x4 x5 x7 σ = some (r, σ2) → Ex mr_X9_millionths sc (Cl MT pr sc (d + 0)) (rtE (some (.int r)) (mk X) σ2) (22, [(2, .long x2), (4, .int x4), (5, .long x5), (7, .int x7)], [], mk X, σ) := by
  intro n
  induction n with
  | zero =>
    intro x2 x4 x5 x7 σ h
    cases h
  | succ n ih =>
    intro x2 x4 x5 x7 σ h
    simp only [f_X9_millionths_22] at h
    refine Ex.blk 1000 rfl ?_
    rcases ite_sp h with ⟨c1, h⟩ | ⟨c1, h⟩
    · refine And.intro (fun _ => ?_) (fun hn => absurd c1 hn)
      show Ex mr_X9_millionths sc (Cl MT pr sc (d + 0)) (rtE (some (.int r)) (mk X) σ2) (103, [(2, .long x2), (4, .int x4), (5, .long x5), (7, .int x7)], [], mk X, σ)
      refine Ex.blk 1000 rfl ?_
      cases h
      exact And.intro trivial ⟨rfl, rfl, rfl⟩
    · refine And.intro (fun hp => absurd hp c1) (fun _ => ?_)
      show Ex mr_X9_millionths sc (Cl MT pr sc (d + 0)) (rtE (some (.int r)) (mk X) σ2) (29, [(2, .long x2), (4, .int x4), (5, .long x5), (7, .int x7)], [], mk X, σ)
      refine Ex.blk 5 rfl ?_
      show Ex mr_X9_millionths sc (Cl MT pr sc (d + 0)) (rtE (some (.int r)) (mk X) σ2) (36, [(9, .long 0), (8, .int 0), (2, .long x2), (4, .int x4), (5, .long x5), (7, .int x7)], [.int 0], mk X, σ)
      refine Ex.blk 1000 rfl ?_
      show Ex mr_X9_millionths sc (Cl MT pr sc (d + 0)) (rtE (some (.int r)) (mk X) σ2) (38, [(11, .int 0), (9, .long 0), (8, .int 0), (2, .long x2), (4, .int x4), (5, .long x5), (7, .int x7)], [], mk X, σ)
      refine Ex.pick (lv' := _) [3, 4, 5, 6, 2, 1, 0] rfl ?_
      exact lk_X9_millionths_38 d _ ih FU _ _ _ _ _ _ _ _ h
theorem lk_X9_millionths_19 {pr : Ct} {sc : Nat × (Nat → Int32)} {X : En} (d : Nat) {r : Int32} {σ2 : St} (x2 : Int64) (x4 : Int32) (x5 : Int64) (σ : St) (h : f_X9_millionths_19 x2 x4 x5 σ = some (r, σ2)) : Ex mr_X9_millionths sc (Cl MT pr sc (d + 0)) (rtE (some (.int r)) (mk X) σ2) (19, [(2, .long x2), (4, .int x4), (5, .long x5)], [], mk X, σ) := by
  unfold f_X9_millionths_19 at h
  refine Ex.blk 1000 rfl ?_
  show Ex mr_X9_millionths sc (Cl MT pr sc (d + 0)) (rtE (some (.int r)) (mk X) σ2) (22, [(7, .int 0), (2, .long x2), (4, .int x4), (5, .long x5)], [], mk X, σ)
  refine Ex.pick (lv' := _) [1, 2, 3, 0] rfl ?_
  exact lk_X9_millionths_22 d FU _ _ _ _ _ h
theorem lk_X9_millionths_14 {pr : Ct} {sc : Nat × (Nat → Int32)} {X : En} (d : Nat) {r : Int32} {σ2 : St} (x0 : Int64) (x2 : Int64) (x4 : Int32) (σ : St) (h : f_X9_millionths_14 x0 x2 x4 σ = some (r, σ2)) : Ex mr_X9_millionths sc (Cl MT pr sc (d + 0)) (rtE (some (.int r)) (mk X) σ2) (14, [(0, .long x0), (2, .long x2), (4, .int x4)], [], mk X, σ) := by
  unfold f_X9_millionths_14 at h
  refine Ex.blk 3 rfl ?_
  obtain ⟨g1, h⟩ := gd_some h
  refine And.intro (nzJ_ok g1) ?_
  show Ex mr_X9_millionths sc (Cl MT pr sc (d + 0)) (rtE (some (.int r)) (mk X) σ2) (17, [(0, .long x0), (2, .long x2), (4, .int x4)], [.long (rmJ x0 x2)], mk X, σ)
  refine Ex.blk 1 rfl ?_
  show Ex mr_X9_millionths sc (Cl MT pr sc (d + 0)) (rtE (some (.int r)) (mk X) σ2) (19, [(5, .long (rmJ x0 x2)), (0, .long x0), (2, .long x2), (4, .int x4)], [], mk X, σ)
  refine Ex.pick (lv' := _) [2, 3, 0] rfl ?_
  exact lk_X9_millionths_19 d _ _ _ _ h
theorem cl_X9_millionths {pr : Ct} {sc : Nat × (Nat → Int32)} {X : En} (d : Nat) {r : Int32} {σ2 : St} {x0 : Int64} {x2 : Int64} {σ : St} (h : f_X9_millionths x0 x2 σ = some (r, σ2)) : Cl MT pr sc (d + 0 + 1) 123 [.long x0, .long x2] (mk X) σ (some (.int r)) (mk X) σ2 := by
  refine cl_of mr_X9_millionths rfl rfl ?_
  unfold f_X9_millionths at h
  refine Ex.blk 1000 rfl ?_
  rcases ite_sp h with ⟨c1, h⟩ | ⟨c1, h⟩
  · refine And.intro (fun _ => ?_) (fun hn => absurd c1 hn)
    show Ex mr_X9_millionths sc (Cl MT pr sc (d + 0)) (rtE (some (.int r)) (mk X) σ2) (8, [(0, .long x0), (2, .long x2)], [], mk X, σ)
    refine Ex.blk 3 rfl ?_
    obtain ⟨g2, h⟩ := gd_some h
    refine And.intro (nzJ_ok g2) ?_
    show Ex mr_X9_millionths sc (Cl MT pr sc (d + 0)) (rtE (some (.int r)) (mk X) σ2) (11, [(0, .long x0), (2, .long x2)], [.long (x0 / x2)], mk X, σ)
    refine Ex.blk 2 rfl ?_
    show Ex mr_X9_millionths sc (Cl MT pr sc (d + 0)) (rtE (some (.int r)) (mk X) σ2) (14, [(4, .int (x0 / x2).toInt32), (0, .long x0), (2, .long x2)], [], mk X, σ)
    refine Ex.pick (lv' := _) [1, 2, 0] rfl ?_
    exact lk_X9_millionths_14 d _ _ _ _ h
  · refine And.intro (fun hp => absurd hp c1) (fun _ => ?_)
    show Ex mr_X9_millionths sc (Cl MT pr sc (d + 0)) (rtE (some (.int r)) (mk X) σ2) (6, [(0, .long x0), (2, .long x2)], [], mk X, σ)
    refine Ex.blk 1000 rfl ?_
    cases h
    exact And.intro trivial ⟨rfl, rfl, rfl⟩
theorem lk_X9_odds_15 {pr : Ct} {sc : Nat × (Nat → Int32)} {X : En} (d : Nat) {r : Int32} {σ2 : St} (σ : St) (h : f_X9_odds_15 σ = some (r, σ2)) : Ex mr_X9_odds sc (Cl MT pr sc (d + 3)) (rtE (some (.int r)) (mk X) σ2) (15, [], [], mk X, σ) := by
  unfold f_X9_odds_15 at h
  refine Ex.blk 1000 rfl ?_
  cases h
  exact And.intro trivial ⟨rfl, rfl, rfl⟩
theorem lk_X9_odds_79 {pr : Ct} {sc : Nat × (Nat → Int32)} {X : En} (d : Nat) {r : Int32} {σ2 : St} (k44 : Int32 → Int64 → Int64 → Int32 → St → Option (Int32 × St)) (hk44 : ∀ (x1 : Int32) (x2 : Int64) (x4 : Int64) (x6 : Int32) (σ : St), k44 x1 x2 x4 x6 σ = some (r, σ2) → Ex mr_X9_odds sc (Cl MT pr sc (d + 3)) (rtE (some (.int r)) (mk X) σ2) (44, [(0, .ref 0), (1, .int x1), (2, .long x2), (4, .long x4), (6, .int x6)], [], mk X, σ)) (x1 : Int32) (x2 : Int64) (x4 : Int64) (x6 : Int32) (σ : St) (h : f_X9_odds_79 k44 x1 x2 x4 x6 σ = some (r, σ2)) : Ex mr_X9_odds sc (Cl MT pr sc (d + 3)) (rtE (some (.int r)) (mk X) σ2) (79, [(0, .ref 0), (1, .int x1), (2, .long x2), (4, .long x4), (6, .int x6)], [], mk X, σ) := by
  unfold f_X9_odds_79 at h
  refine Ex.blk 1000 rfl ?_
  show Ex mr_X9_odds sc (Cl MT pr sc (d + 3)) (rtE (some (.int r)) (mk X) σ2) (44, [(6, .int (x6 + 1)), (0, .ref 0), (1, .int x1), (2, .long x2), (4, .long x4)], [], mk X, σ)
  refine Ex.pick (lv' := _) [1, 2, 3, 4, 0] rfl ?_
  exact hk44 _ _ _ _ _ h
theorem lk_X9_odds_44 {pr : Ct} {sc : Nat × (Nat → Int32)} {X : En} (d : Nat) {r : Int32} {σ2 : St} : ∀ (n : Nat) (x1 : Int32) (x2 : Int64) (x4 : Int64) (x6 : Int32) (σ : St), f_X9_odds_44 n x1 x2 x4 x6 σ = some (r, σ2) → Ex mr_X9_odds sc (Cl MT pr sc (d + 3)) (rtE (some (.int r)) (mk X) σ2) (44, [(0, .ref 0), (1, .int x1), (2, .long x2), (4, .long x4), (6, .int x6)], [], mk X, σ) := by
  intro n
  induction n with
  | zero =>
    intro x1 x2 x4 x6 σ h
    cases h
  | succ n ih =>
    intro x1 x2 x4 x6 σ h
    simp only [f_X9_odds_44] at h
    refine Ex.blk 1000 rfl ?_
    rcases ite_sp h with ⟨c1, h⟩ | ⟨c1, h⟩
    · refine And.intro (fun _ => ?_) (fun hn => absurd c1 hn)
      show Ex mr_X9_odds sc (Cl MT pr sc (d + 3)) (rtE (some (.int r)) (mk X) σ2) (85, [(0, .ref 0), (1, .int x1), (2, .long x2), (4, .long x4), (6, .int x6)], [], mk X, σ)
      refine Ex.blk 5 rfl ?_
      show Ex mr_X9_odds sc (Cl MT pr sc (d + 3)) (rtE (some (.int r)) (mk X) σ2) (96, [(0, .ref 0), (1, .int x1), (2, .long x2), (4, .long x4), (6, .int x6)], [.ref 20, .ref 15], mk X, σ)
      refine Ex.blk 2 rfl ?_
      obtain ⟨g2, h⟩ := gd_some h
      refine And.intro (inb_ok g2) ?_
      show Ex mr_X9_odds sc (Cl MT pr sc (d + 3)) (rtE (some (.int r)) (mk X) σ2) (98, [(0, .ref 0), (1, .int x1), (2, .long x2), (4, .long x4), (6, .int x6)], [.int (gI σ 20 x1.toNatClampNeg), .ref 15], mk X, σ)
      refine Ex.blk 2 rfl ?_
      obtain ⟨p2, hp2, h⟩ := bind_sp h
      refine Exists.intro (some (.long p2.1)) (Exists.intro (mk X) (Exists.intro p2.2 (And.intro (cl_X1_likely (d + 1) hp2) ?_)))
      show Ex mr_X9_odds sc (Cl MT pr sc (d + 3)) (rtE (some (.int r)) (mk X) σ2) (102, [(0, .ref 0), (1, .int x1), (2, .long x2), (4, .long x4), (6, .int x6)], [.long p2.1], mk X, p2.2)
      refine Ex.blk 2 rfl ?_
      obtain ⟨p3, hp3, h⟩ := bind_sp h
      refine Exists.intro (some (.int p3.1)) (Exists.intro (mk X) (Exists.intro p3.2 (And.intro (cl_X9_millionths (d + 2) hp3) ?_)))
      show Ex mr_X9_odds sc (Cl MT pr sc (d + 3)) (rtE (some (.int r)) (mk X) σ2) (107, [(0, .ref 0), (1, .int x1), (2, .long x2), (4, .long x4), (6, .int x6)], [.int p3.1], mk X, p3.2)
      refine Ex.blk 1000 rfl ?_
      cases h
      exact And.intro trivial ⟨rfl, rfl, rfl⟩
    · refine And.intro (fun hp => absurd hp c1) (fun _ => ?_)
      show Ex mr_X9_odds sc (Cl MT pr sc (d + 3)) (rtE (some (.int r)) (mk X) σ2) (56, [(0, .ref 0), (1, .int x1), (2, .long x2), (4, .long x4), (6, .int x6)], [], mk X, σ)
      refine Ex.blk 5 rfl ?_
      show Ex mr_X9_odds sc (Cl MT pr sc (d + 3)) (rtE (some (.int r)) (mk X) σ2) (66, [(0, .ref 0), (1, .int x1), (2, .long x2), (4, .long x4), (6, .int x6)], [.ref 19, .ref 15, .long x4], mk X, σ)
      refine Ex.blk 3 rfl ?_
      obtain ⟨g3, h⟩ := gd_some h
      refine And.intro (inb_ok g3) ?_
      show Ex mr_X9_odds sc (Cl MT pr sc (d + 3)) (rtE (some (.int r)) (mk X) σ2) (72, [(0, .ref 0), (1, .int x1), (2, .long x2), (4, .long x4), (6, .int x6)], [.int (gI σ 20 x6.toNatClampNeg), .ref 15, .long x4], mk X, σ)
      refine Ex.blk 2 rfl ?_
      obtain ⟨p4, hp4, h⟩ := bind_sp h
      refine Exists.intro (some (.long p4.1)) (Exists.intro (mk X) (Exists.intro p4.2 (And.intro (cl_X1_likely (d + 1) hp4) ?_)))
      show Ex mr_X9_odds sc (Cl MT pr sc (d + 3)) (rtE (some (.int r)) (mk X) σ2) (76, [(0, .ref 0), (1, .int x1), (2, .long x2), (4, .long x4), (6, .int x6)], [.long p4.1, .long x4], mk X, p4.2)
      refine Ex.blk 2 rfl ?_
      show Ex mr_X9_odds sc (Cl MT pr sc (d + 3)) (rtE (some (.int r)) (mk X) σ2) (79, [(4, .long (x4 + p4.1)), (0, .ref 0), (1, .int x1), (2, .long x2), (6, .int x6)], [], mk X, p4.2)
      refine Ex.pick (lv' := _) [1, 2, 3, 0, 4] rfl ?_
      exact lk_X9_odds_79 d _ ih _ _ _ _ _ h
theorem cl_X9_odds {pr : Ct} {sc : Nat × (Nat → Int32)} {X : En} (d : Nat) {r : Int32} {σ2 : St} {x1 : Int32} {σ : St} (h : f_X9_odds x1 σ = some (r, σ2)) : Cl MT pr sc (d + 3 + 1) 124 [.ref 0, .int x1] (mk X) σ (some (.int r)) (mk X) σ2 := by
  refine cl_of mr_X9_odds rfl rfl ?_
  unfold f_X9_odds at h
  refine Ex.blk 1000 rfl ?_
  rcases ite_sp h with ⟨c1, h⟩ | ⟨c1, h⟩
  · refine And.intro (fun _ => ?_) (fun hn => absurd c1 hn)
    show Ex mr_X9_odds sc (Cl MT pr sc (d + 3)) (rtE (some (.int r)) (mk X) σ2) (15, [(0, .ref 0), (1, .int x1)], [], mk X, σ)
    refine Ex.pick (lv' := _) [] rfl ?_
    exact lk_X9_odds_15 d _ h
  · refine And.intro (fun hp => absurd hp c1) (fun _ => ?_)
    show Ex mr_X9_odds sc (Cl MT pr sc (d + 3)) (rtE (some (.int r)) (mk X) σ2) (4, [(0, .ref 0), (1, .int x1)], [], mk X, σ)
    refine Ex.blk 1000 rfl ?_
    rcases ite_sp h with ⟨c2, h⟩ | ⟨c2, h⟩
    · refine And.intro (fun _ => ?_) (fun hn => absurd c2 hn)
      show Ex mr_X9_odds sc (Cl MT pr sc (d + 3)) (rtE (some (.int r)) (mk X) σ2) (17, [(0, .ref 0), (1, .int x1)], [], mk X, σ)
      refine Ex.blk 1000 rfl ?_
      rcases ite_sp h with ⟨c3, h⟩ | ⟨c3, h⟩
      · refine And.intro (fun _ => ?_) (fun hn => absurd c3 hn)
        show Ex mr_X9_odds sc (Cl MT pr sc (d + 3)) (rtE (some (.int r)) (mk X) σ2) (30, [(0, .ref 0), (1, .int x1)], [], mk X, σ)
        refine Ex.blk 3 rfl ?_
        obtain ⟨p1, hp1, h⟩ := bind_sp h
        refine Exists.intro (some (.long p1.1)) (Exists.intro (mk X) (Exists.intro p1.2 (And.intro (cl_X7_valueSeen_1 (d + 0) hp1) ?_)))
        show Ex mr_X9_odds sc (Cl MT pr sc (d + 3)) (rtE (some (.int r)) (mk X) σ2) (37, [(0, .ref 0), (1, .int x1)], [.long p1.1], mk X, p1.2)
        refine Ex.blk 1000 rfl ?_
        show Ex mr_X9_odds sc (Cl MT pr sc (d + 3)) (rtE (some (.int r)) (mk X) σ2) (44, [(6, .int 0), (4, .long 0), (2, .long p1.1), (0, .ref 0), (1, .int x1)], [], mk X, p1.2)
        refine Ex.pick (lv' := _) [3, 4, 2, 1, 0] rfl ?_
        exact lk_X9_odds_44 d FU _ _ _ _ _ h
      · refine And.intro (fun hp => absurd hp c3) (fun _ => ?_)
        show Ex mr_X9_odds sc (Cl MT pr sc (d + 3)) (rtE (some (.int r)) (mk X) σ2) (27, [(0, .ref 0), (1, .int x1)], [], mk X, σ)
        refine Ex.blk 1000 rfl ?_
        cases h
        exact And.intro trivial ⟨rfl, rfl, rfl⟩
    · refine And.intro (fun hp => absurd hp c2) (fun _ => ?_)
      show Ex mr_X9_odds sc (Cl MT pr sc (d + 3)) (rtE (some (.int r)) (mk X) σ2) (15, [(0, .ref 0), (1, .int x1)], [], mk X, σ)
      refine Ex.pick (lv' := _) [] rfl ?_
      exact lk_X9_odds_15 d _ h
theorem lk_X9_isFactor_16 {pr : Ct} {sc : Nat × (Nat → Int32)} {X : En} (d : Nat) {r : Int32} {σ2 : St} (y0 : Int32) (σ : St) (h : f_X9_isFactor_16 y0 σ = some (r, σ2)) : Ex mr_X9_isFactor sc (Cl MT pr sc (d + 0)) (rtE (some (.int r)) (mk X) σ2) (16, [], [.int y0], mk X, σ) := by
  unfold f_X9_isFactor_16 at h
  refine Ex.blk 1000 rfl ?_
  obtain ⟨g1, h⟩ := gd_some h
  cases h
  exact And.intro (isbb_ok g1) ⟨rfl, rfl, rfl⟩
theorem lk_X9_isFactor_15 {pr : Ct} {sc : Nat × (Nat → Int32)} {X : En} (d : Nat) {r : Int32} {σ2 : St} (σ : St) (h : f_X9_isFactor_15 σ = some (r, σ2)) : Ex mr_X9_isFactor sc (Cl MT pr sc (d + 0)) (rtE (some (.int r)) (mk X) σ2) (15, [], [], mk X, σ) := by
  unfold f_X9_isFactor_15 at h
  refine Ex.blk 1000 rfl ?_
  show Ex mr_X9_isFactor sc (Cl MT pr sc (d + 0)) (rtE (some (.int r)) (mk X) σ2) (16, [], [.int 0], mk X, σ)
  exact lk_X9_isFactor_16 d _ _ h
theorem cl_X9_isFactor {pr : Ct} {sc : Nat × (Nat → Int32)} {X : En} (d : Nat) {r : Int32} {σ2 : St} {x0 : Int32} {σ : St} (h : f_X9_isFactor x0 σ = some (r, σ2)) : Cl MT pr sc (d + 0 + 1) 125 [.int x0] (mk X) σ (some (.int r)) (mk X) σ2 := by
  refine cl_of mr_X9_isFactor rfl rfl ?_
  unfold f_X9_isFactor at h
  refine Ex.blk 1000 rfl ?_
  rcases ite_sp h with ⟨c1, h⟩ | ⟨c1, h⟩
  · refine And.intro (fun _ => ?_) (fun hn => absurd c1 hn)
    show Ex mr_X9_isFactor sc (Cl MT pr sc (d + 0)) (rtE (some (.int r)) (mk X) σ2) (15, [(0, .int x0)], [], mk X, σ)
    refine Ex.pick (lv' := _) [] rfl ?_
    exact lk_X9_isFactor_15 d _ h
  · refine And.intro (fun hp => absurd hp c1) (fun _ => ?_)
    show Ex mr_X9_isFactor sc (Cl MT pr sc (d + 0)) (rtE (some (.int r)) (mk X) σ2) (4, [(0, .int x0)], [], mk X, σ)
    refine Ex.blk 1000 rfl ?_
    rcases ite_sp h with ⟨c2, h⟩ | ⟨c2, h⟩
    · refine And.intro (fun _ => ?_) (fun hn => absurd c2 hn)
      show Ex mr_X9_isFactor sc (Cl MT pr sc (d + 0)) (rtE (some (.int r)) (mk X) σ2) (15, [(0, .int x0)], [], mk X, σ)
      refine Ex.pick (lv' := _) [] rfl ?_
      exact lk_X9_isFactor_15 d _ h
    · refine And.intro (fun hp => absurd hp c2) (fun _ => ?_)
      show Ex mr_X9_isFactor sc (Cl MT pr sc (d + 0)) (rtE (some (.int r)) (mk X) σ2) (11, [(0, .int x0)], [], mk X, σ)
      refine Ex.blk 1000 rfl ?_
      show Ex mr_X9_isFactor sc (Cl MT pr sc (d + 0)) (rtE (some (.int r)) (mk X) σ2) (16, [(0, .int x0)], [.int 1], mk X, σ)
      refine Ex.pick (lv' := _) [] rfl ?_
      exact lk_X9_isFactor_16 d _ _ h
theorem lk_J6_numberOfLeadingZeros_0f7a4_73 {pr : Ct} {sc : Nat × (Nat → Int32)} {X : En} (d : Nat) {r : Int32} {σ2 : St} (x0 : Int32) (x1 : Int32) (σ : St) (h : f_J6_numberOfLeadingZeros_0f7a4_73 x0 x1 σ = some (r, σ2)) : Ex mr_J6_numberOfLeadingZeros_0f7a4 sc (Cl MT pr sc (d + 0)) (rtE (some (.int r)) (mk X) σ2) (73, [(0, .int x0), (1, .int x1)], [], mk X, σ) := by
  unfold f_J6_numberOfLeadingZeros_0f7a4_73 at h
  refine Ex.blk 5 rfl ?_
  show Ex mr_J6_numberOfLeadingZeros_0f7a4 sc (Cl MT pr sc (d + 0)) (rtE (some (.int r)) (mk X) σ2) (78, [(0, .int x0), (1, .int x1)], [.int (x1 - (ushI x0 1))], mk X, σ)
  refine Ex.blk 1000 rfl ?_
  cases h
  exact And.intro trivial ⟨rfl, rfl, rfl⟩
theorem lk_J6_numberOfLeadingZeros_0f7a4_61 {pr : Ct} {sc : Nat × (Nat → Int32)} {X : En} (d : Nat) {r : Int32} {σ2 : St} (x0 : Int32) (x1 : Int32) (σ : St) (h : f_J6_numberOfLeadingZeros_0f7a4_61 x0 x1 σ = some (r, σ2)) : Ex mr_J6_numberOfLeadingZeros_0f7a4 sc (Cl MT pr sc (d + 0)) (rtE (some (.int r)) (mk X) σ2) (61, [(0, .int x0), (1, .int x1)], [], mk X, σ) := by
  unfold f_J6_numberOfLeadingZeros_0f7a4_61 at h
  refine Ex.blk 1000 rfl ?_
  rcases ite_sp h with ⟨c1, h⟩ | ⟨c1, h⟩
  · refine And.intro (fun _ => ?_) (fun hn => absurd c1 hn)
    show Ex mr_J6_numberOfLeadingZeros_0f7a4 sc (Cl MT pr sc (d + 0)) (rtE (some (.int r)) (mk X) σ2) (73, [(0, .int x0), (1, .int x1)], [], mk X, σ)
    exact lk_J6_numberOfLeadingZeros_0f7a4_73 d _ _ _ h
  · refine And.intro (fun hp => absurd hp c1) (fun _ => ?_)
    show Ex mr_J6_numberOfLeadingZeros_0f7a4 sc (Cl MT pr sc (d + 0)) (rtE (some (.int r)) (mk X) σ2) (66, [(0, .int x0), (1, .int x1)], [], mk X, σ)
    refine Ex.blk 1000 rfl ?_
    show Ex mr_J6_numberOfLeadingZeros_0f7a4 sc (Cl MT pr sc (d + 0)) (rtE (some (.int r)) (mk X) σ2) (73, [(0, .int (ushI x0 2)), (1, .int (x1 + (-2)))], [], mk X, σ)
    exact lk_J6_numberOfLeadingZeros_0f7a4_73 d _ _ _ h
theorem lk_J6_numberOfLeadingZeros_0f7a4_48 {pr : Ct} {sc : Nat × (Nat → Int32)} {X : En} (d : Nat) {r : Int32} {σ2 : St} (x0 : Int32) (x1 : Int32) (σ : St) (h : f_J6_numberOfLeadingZeros_0f7a4_48 x0 x1 σ = some (r, σ2)) : Ex mr_J6_numberOfLeadingZeros_0f7a4 sc (Cl MT pr sc (d + 0)) (rtE (some (.int r)) (mk X) σ2) (48, [(0, .int x0), (1, .int x1)], [], mk X, σ) := by
  unfold f_J6_numberOfLeadingZeros_0f7a4_48 at h
  refine Ex.blk 1000 rfl ?_
  rcases ite_sp h with ⟨c1, h⟩ | ⟨c1, h⟩
  · refine And.intro (fun _ => ?_) (fun hn => absurd c1 hn)
    show Ex mr_J6_numberOfLeadingZeros_0f7a4 sc (Cl MT pr sc (d + 0)) (rtE (some (.int r)) (mk X) σ2) (61, [(0, .int x0), (1, .int x1)], [], mk X, σ)
    exact lk_J6_numberOfLeadingZeros_0f7a4_61 d _ _ _ h
  · refine And.intro (fun hp => absurd hp c1) (fun _ => ?_)
    show Ex mr_J6_numberOfLeadingZeros_0f7a4 sc (Cl MT pr sc (d + 0)) (rtE (some (.int r)) (mk X) σ2) (54, [(0, .int x0), (1, .int x1)], [], mk X, σ)
    refine Ex.blk 1000 rfl ?_
    show Ex mr_J6_numberOfLeadingZeros_0f7a4 sc (Cl MT pr sc (d + 0)) (rtE (some (.int r)) (mk X) σ2) (61, [(0, .int (ushI x0 4)), (1, .int (x1 + (-4)))], [], mk X, σ)
    exact lk_J6_numberOfLeadingZeros_0f7a4_61 d _ _ _ h
theorem lk_J6_numberOfLeadingZeros_0f7a4_33 {pr : Ct} {sc : Nat × (Nat → Int32)} {X : En} (d : Nat) {r : Int32} {σ2 : St} (x0 : Int32) (x1 : Int32) (σ : St) (h : f_J6_numberOfLeadingZeros_0f7a4_33 x0 x1 σ = some (r, σ2)) : Ex mr_J6_numberOfLeadingZeros_0f7a4 sc (Cl MT pr sc (d + 0)) (rtE (some (.int r)) (mk X) σ2) (33, [(0, .int x0), (1, .int x1)], [], mk X, σ) := by
  unfold f_J6_numberOfLeadingZeros_0f7a4_33 at h
  refine Ex.blk 1000 rfl ?_
  rcases ite_sp h with ⟨c1, h⟩ | ⟨c1, h⟩
  · refine And.intro (fun _ => ?_) (fun hn => absurd c1 hn)
    show Ex mr_J6_numberOfLeadingZeros_0f7a4 sc (Cl MT pr sc (d + 0)) (rtE (some (.int r)) (mk X) σ2) (48, [(0, .int x0), (1, .int x1)], [], mk X, σ)
    exact lk_J6_numberOfLeadingZeros_0f7a4_48 d _ _ _ h
  · refine And.intro (fun hp => absurd hp c1) (fun _ => ?_)
    show Ex mr_J6_numberOfLeadingZeros_0f7a4 sc (Cl MT pr sc (d + 0)) (rtE (some (.int r)) (mk X) σ2) (40, [(0, .int x0), (1, .int x1)], [], mk X, σ)
    refine Ex.blk 1000 rfl ?_
    show Ex mr_J6_numberOfLeadingZeros_0f7a4 sc (Cl MT pr sc (d + 0)) (rtE (some (.int r)) (mk X) σ2) (48, [(0, .int (ushI x0 8)), (1, .int (x1 + (-8)))], [], mk X, σ)
    exact lk_J6_numberOfLeadingZeros_0f7a4_48 d _ _ _ h
theorem lk_J6_numberOfLeadingZeros_0f7a4_14 {pr : Ct} {sc : Nat × (Nat → Int32)} {X : En} (d : Nat) {r : Int32} {σ2 : St} (y0 : Int32) (σ : St) (h : f_J6_numberOfLeadingZeros_0f7a4_14 y0 σ = some (r, σ2)) : Ex mr_J6_numberOfLeadingZeros_0f7a4 sc (Cl MT pr sc (d + 0)) (rtE (some (.int r)) (mk X) σ2) (14, [], [.int y0], mk X, σ) := by
  unfold f_J6_numberOfLeadingZeros_0f7a4_14 at h
  refine Ex.blk 1000 rfl ?_
  cases h
  exact And.intro trivial ⟨rfl, rfl, rfl⟩
theorem cl_J6_numberOfLeadingZeros_0f7a4 {pr : Ct} {sc : Nat × (Nat → Int32)} {X : En} (d : Nat) {r : Int32} {σ2 : St} {x0 : Int32} {σ : St} (h : f_J6_numberOfLeadingZeros_0f7a4 x0 σ = some (r, σ2)) : Cl MT pr sc (d + 0 + 1) 126 [.int x0] (mk X) σ (some (.int r)) (mk X) σ2 := by
  refine cl_of mr_J6_numberOfLeadingZeros_0f7a4 rfl rfl ?_
  unfold f_J6_numberOfLeadingZeros_0f7a4 at h
  refine Ex.blk 1000 rfl ?_
  rcases ite_sp h with ⟨c1, h⟩ | ⟨c1, h⟩
  · refine And.intro (fun _ => ?_) (fun hn => absurd c1 hn)
    show Ex mr_J6_numberOfLeadingZeros_0f7a4 sc (Cl MT pr sc (d + 0)) (rtE (some (.int r)) (mk X) σ2) (15, [(0, .int x0)], [], mk X, σ)
    refine Ex.blk 1000 rfl ?_
    rcases ite_sp h with ⟨c2, h⟩ | ⟨c2, h⟩
    · refine And.intro (fun _ => ?_) (fun hn => absurd c2 hn)
      show Ex mr_J6_numberOfLeadingZeros_0f7a4 sc (Cl MT pr sc (d + 0)) (rtE (some (.int r)) (mk X) σ2) (33, [(1, .int 31), (0, .int x0)], [], mk X, σ)
      refine Ex.pick (lv' := _) [1, 0] rfl ?_
      exact lk_J6_numberOfLeadingZeros_0f7a4_33 d _ _ _ h
    · refine And.intro (fun hp => absurd hp c2) (fun _ => ?_)
      show Ex mr_J6_numberOfLeadingZeros_0f7a4 sc (Cl MT pr sc (d + 0)) (rtE (some (.int r)) (mk X) σ2) (25, [(1, .int 31), (0, .int x0)], [], mk X, σ)
      refine Ex.blk 1000 rfl ?_
      show Ex mr_J6_numberOfLeadingZeros_0f7a4 sc (Cl MT pr sc (d + 0)) (rtE (some (.int r)) (mk X) σ2) (33, [(0, .int (ushI x0 16)), (1, .int (31 + (-16)))], [], mk X, σ)
      exact lk_J6_numberOfLeadingZeros_0f7a4_33 d _ _ _ h
  · refine And.intro (fun hp => absurd hp c1) (fun _ => ?_)
    show Ex mr_J6_numberOfLeadingZeros_0f7a4 sc (Cl MT pr sc (d + 0)) (rtE (some (.int r)) (mk X) σ2) (4, [(0, .int x0)], [], mk X, σ)
    refine Ex.blk 1000 rfl ?_
    rcases ite_sp h with ⟨c3, h⟩ | ⟨c3, h⟩
    · refine And.intro (fun hp => absurd c3 hp) (fun _ => ?_)
      show Ex mr_J6_numberOfLeadingZeros_0f7a4 sc (Cl MT pr sc (d + 0)) (rtE (some (.int r)) (mk X) σ2) (8, [(0, .int x0)], [], mk X, σ)
      refine Ex.blk 1000 rfl ?_
      show Ex mr_J6_numberOfLeadingZeros_0f7a4 sc (Cl MT pr sc (d + 0)) (rtE (some (.int r)) (mk X) σ2) (14, [(0, .int x0)], [.int 32], mk X, σ)
      refine Ex.pick (lv' := _) [] rfl ?_
      exact lk_J6_numberOfLeadingZeros_0f7a4_14 d _ _ h
    · refine And.intro (fun _ => ?_) (fun hn => absurd c3 hn)
      show Ex mr_J6_numberOfLeadingZeros_0f7a4 sc (Cl MT pr sc (d + 0)) (rtE (some (.int r)) (mk X) σ2) (13, [(0, .int x0)], [], mk X, σ)
      refine Ex.blk 1000 rfl ?_
      show Ex mr_J6_numberOfLeadingZeros_0f7a4 sc (Cl MT pr sc (d + 0)) (rtE (some (.int r)) (mk X) σ2) (14, [(0, .int x0)], [.int 0], mk X, σ)
      refine Ex.pick (lv' := _) [] rfl ?_
      exact lk_J6_numberOfLeadingZeros_0f7a4_14 d _ _ h
theorem lk_X9_make_20 {pr : Ct} {sc : Nat × (Nat → Int32)} {X : En} (d : Nat) {r : Int32} {σ2 : St} (σ : St) (h : f_X9_make_20 σ = some (r, σ2)) : Ex mr_X9_make sc (Cl MT pr sc (d + 1)) (rtE (some (.int r)) (mk X) σ2) (20, [], [], mk X, σ) := by
  unfold f_X9_make_20 at h
  refine Ex.blk 1000 rfl ?_
  cases h
  exact And.intro trivial ⟨rfl, rfl, rfl⟩
theorem lk_X9_make_60 {pr : Ct} {sc : Nat × (Nat → Int32)} {X : En} (d : Nat) {r : Int32} {σ2 : St} (k27 : Int32 → Int32 → Int32 → Int32 → St → Option (Int32 × St)) (hk27 : ∀ (x1 : Int32) (x2 : Int32) (x3 : Int32) (x4 : Int32) (σ : St), k27 x1 x2 x3 x4 σ = some (r, σ2) → Ex mr_X9_make sc (Cl MT pr sc (d + 1)) (rtE (some (.int r)) (mk X) σ2) (27, [(1, .int x1), (2, .int x2), (3, .int x3), (4, .int x4)], [], mk X, σ)) (x1 : Int32) (x2 : Int32) (x3 : Int32) (x4 : Int32) (σ : St) (h : f_X9_make_60 k27 x1 x2 x3 x4 σ = some (r, σ2)) : Ex mr_X9_make sc (Cl MT pr sc (d + 1)) (rtE (some (.int r)) (mk X) σ2) (60, [(1, .int x1), (2, .int x2), (3, .int x3), (4, .int x4)], [], mk X, σ) := by
  unfold f_X9_make_60 at h
  refine Ex.blk 1000 rfl ?_
  show Ex mr_X9_make sc (Cl MT pr sc (d + 1)) (rtE (some (.int r)) (mk X) σ2) (27, [(4, .int (x4 + 1)), (1, .int x1), (2, .int x2), (3, .int x3)], [], mk X, σ)
  refine Ex.pick (lv' := _) [1, 2, 3, 0] rfl ?_
  exact hk27 _ _ _ _ _ h
theorem lk_X9_make_58 {pr : Ct} {sc : Nat × (Nat → Int32)} {X : En} (d : Nat) {r : Int32} {σ2 : St} (k27 : Int32 → Int32 → Int32 → Int32 → St → Option (Int32 × St)) (hk27 : ∀ (x1 : Int32) (x2 : Int32) (x3 : Int32) (x4 : Int32) (σ : St), k27 x1 x2 x3 x4 σ = some (r, σ2) → Ex mr_X9_make sc (Cl MT pr sc (d + 1)) (rtE (some (.int r)) (mk X) σ2) (27, [(1, .int x1), (2, .int x2), (3, .int x3), (4, .int x4)], [], mk X, σ)) (x1 : Int32) (x2 : Int32) (x4 : Int32) (y0 : Int32) (y1 : Int32) (σ : St) (h : f_X9_make_58 k27 x1 x2 x4 y0 y1 σ = some (r, σ2)) : Ex mr_X9_make sc (Cl MT pr sc (d + 1)) (rtE (some (.int r)) (mk X) σ2) (58, [(1, .int x1), (2, .int x2), (4, .int x4)], [.int y0, .int y1], mk X, σ) := by
  unfold f_X9_make_58 at h
  refine Ex.blk 2 rfl ?_
  show Ex mr_X9_make sc (Cl MT pr sc (d + 1)) (rtE (some (.int r)) (mk X) σ2) (60, [(3, .int (y1 + y0)), (1, .int x1), (2, .int x2), (4, .int x4)], [], mk X, σ)
  refine Ex.pick (lv' := _) [1, 2, 0, 3] rfl ?_
  exact lk_X9_make_60 d _ hk27 _ _ _ _ _ h
theorem lk_X9_make_27 {pr : Ct} {sc : Nat × (Nat → Int32)} {X : En} (d : Nat) {r : Int32} {σ2 : St} : ∀ (n : Nat) (x1 : Int32) (x2 : Int32) (x3 : Int32) (x4 : Int32) (σ : St), f_X9_make_27 n x1 x2 x3 x4 σ = some (r, σ2) → Ex mr_X9_make sc (Cl MT pr sc (d + 1)) (rtE (some (.int r)) (mk X) σ2) (27, [(1, .int x1), (2, .int x2), (3, .int x3), (4, .int x4)], [], mk X, σ) := by
  intro n
  induction n with
  | zero =>
    intro x1 x2 x3 x4 σ h
    cases h
  | succ n ih =>
    intro x1 x2 x3 x4 σ h
    simp only [f_X9_make_27] at h
    refine Ex.blk 1000 rfl ?_
    rcases ite_sp h with ⟨c1, h⟩ | ⟨c1, h⟩
    · refine And.intro (fun _ => ?_) (fun hn => absurd c1 hn)
      show Ex mr_X9_make sc (Cl MT pr sc (d + 1)) (rtE (some (.int r)) (mk X) σ2) (66, [(1, .int x1), (2, .int x2), (3, .int x3), (4, .int x4)], [], mk X, σ)
      refine Ex.blk 1000 rfl ?_
      cases h
      exact And.intro trivial ⟨rfl, rfl, rfl⟩
    · refine And.intro (fun hp => absurd hp c1) (fun _ => ?_)
      show Ex mr_X9_make sc (Cl MT pr sc (d + 1)) (rtE (some (.int r)) (mk X) σ2) (33, [(1, .int x1), (2, .int x2), (3, .int x3), (4, .int x4)], [], mk X, σ)
      refine Ex.blk 4 rfl ?_
      obtain ⟨p1, hp1, h⟩ := bind_sp h
      refine Exists.intro (some (.int p1.1)) (Exists.intro (mk X) (Exists.intro p1.2 (And.intro (cl_X9_digitOf (d + 0) hp1) ?_)))
      show Ex mr_X9_make sc (Cl MT pr sc (d + 1)) (rtE (some (.int r)) (mk X) σ2) (40, [(1, .int x1), (2, .int x2), (3, .int x3), (4, .int x4)], [.int p1.1], mk X, p1.2)
      refine Ex.blk 1000 rfl ?_
      rcases ite_sp h with ⟨c2, h⟩ | ⟨c2, h⟩
      · refine And.intro (fun hp => absurd c2 hp) (fun _ => ?_)
        show Ex mr_X9_make sc (Cl MT pr sc (d + 1)) (rtE (some (.int r)) (mk X) σ2) (47, [(5, .int p1.1), (1, .int x1), (2, .int x2), (3, .int x3), (4, .int x4)], [.int x3], mk X, p1.2)
        refine Ex.blk 1000 rfl ?_
        show Ex mr_X9_make sc (Cl MT pr sc (d + 1)) (rtE (some (.int r)) (mk X) σ2) (58, [(5, .int p1.1), (1, .int x1), (2, .int x2), (3, .int x3), (4, .int x4)], [.int p1.1, .int x3], mk X, p1.2)
        refine Ex.pick (lv' := _) [1, 2, 4] rfl ?_
        exact lk_X9_make_58 d _ ih _ _ _ _ _ _ h
      · refine And.intro (fun _ => ?_) (fun hn => absurd c2 hn)
        show Ex mr_X9_make sc (Cl MT pr sc (d + 1)) (rtE (some (.int r)) (mk X) σ2) (52, [(5, .int p1.1), (1, .int x1), (2, .int x2), (3, .int x3), (4, .int x4)], [.int x3], mk X, p1.2)
        refine Ex.blk 1000 rfl ?_
        show Ex mr_X9_make sc (Cl MT pr sc (d + 1)) (rtE (some (.int r)) (mk X) σ2) (58, [(5, .int p1.1), (1, .int x1), (2, .int x2), (3, .int x3), (4, .int x4)], [.int (mnI p1.1 1), .int x3], mk X, p1.2)
        refine Ex.pick (lv' := _) [1, 2, 4] rfl ?_
        exact lk_X9_make_58 d _ ih _ _ _ _ _ _ h
theorem cl_X9_make {pr : Ct} {sc : Nat × (Nat → Int32)} {X : En} (d : Nat) {r : Int32} {σ2 : St} {x1 : Int32} {x2 : Int32} {σ : St} (h : f_X9_make x1 x2 σ = some (r, σ2)) : Cl MT pr sc (d + 1 + 1) 133 [.ref 0, .int x1, .int x2] (mk X) σ (some (.int r)) (mk X) σ2 := by
  refine cl_of mr_X9_make rfl rfl ?_
  unfold f_X9_make at h
  refine Ex.blk 1000 rfl ?_
  rcases ite_sp h with ⟨c1, h⟩ | ⟨c1, h⟩
  · refine And.intro (fun _ => ?_) (fun hn => absurd c1 hn)
    show Ex mr_X9_make sc (Cl MT pr sc (d + 1)) (rtE (some (.int r)) (mk X) σ2) (20, [(0, .ref 0), (1, .int x1), (2, .int x2)], [], mk X, σ)
    refine Ex.pick (lv' := _) [] rfl ?_
    exact lk_X9_make_20 d _ h
  · refine And.intro (fun hp => absurd hp c1) (fun _ => ?_)
    show Ex mr_X9_make sc (Cl MT pr sc (d + 1)) (rtE (some (.int r)) (mk X) σ2) (4, [(0, .ref 0), (1, .int x1), (2, .int x2)], [], mk X, σ)
    refine Ex.blk 1000 rfl ?_
    rcases ite_sp h with ⟨c2, h⟩ | ⟨c2, h⟩
    · refine And.intro (fun _ => ?_) (fun hn => absurd c2 hn)
      show Ex mr_X9_make sc (Cl MT pr sc (d + 1)) (rtE (some (.int r)) (mk X) σ2) (20, [(0, .ref 0), (1, .int x1), (2, .int x2)], [], mk X, σ)
      refine Ex.pick (lv' := _) [] rfl ?_
      exact lk_X9_make_20 d _ h
    · refine And.intro (fun hp => absurd hp c2) (fun _ => ?_)
      show Ex mr_X9_make sc (Cl MT pr sc (d + 1)) (rtE (some (.int r)) (mk X) σ2) (11, [(0, .ref 0), (1, .int x1), (2, .int x2)], [], mk X, σ)
      refine Ex.blk 1000 rfl ?_
      rcases ite_sp h with ⟨c3, h⟩ | ⟨c3, h⟩
      · refine And.intro (fun _ => ?_) (fun hn => absurd c3 hn)
        show Ex mr_X9_make sc (Cl MT pr sc (d + 1)) (rtE (some (.int r)) (mk X) σ2) (20, [(0, .ref 0), (1, .int x1), (2, .int x2)], [], mk X, σ)
        refine Ex.pick (lv' := _) [] rfl ?_
        exact lk_X9_make_20 d _ h
      · refine And.intro (fun hp => absurd hp c3) (fun _ => ?_)
        show Ex mr_X9_make sc (Cl MT pr sc (d + 1)) (rtE (some (.int r)) (mk X) σ2) (15, [(0, .ref 0), (1, .int x1), (2, .int x2)], [], mk X, σ)
        refine Ex.blk 1000 rfl ?_
        rcases ite_sp h with ⟨c4, h⟩ | ⟨c4, h⟩
        · refine And.intro (fun _ => ?_) (fun hn => absurd c4 hn)
          show Ex mr_X9_make sc (Cl MT pr sc (d + 1)) (rtE (some (.int r)) (mk X) σ2) (22, [(0, .ref 0), (1, .int x1), (2, .int x2)], [], mk X, σ)
          refine Ex.blk 1000 rfl ?_
          show Ex mr_X9_make sc (Cl MT pr sc (d + 1)) (rtE (some (.int r)) (mk X) σ2) (27, [(4, .int 0), (3, .int 0), (0, .ref 0), (1, .int x1), (2, .int x2)], [], mk X, σ)
          refine Ex.pick (lv' := _) [3, 4, 1, 0] rfl ?_
          exact lk_X9_make_27 d FU _ _ _ _ _ h
        · refine And.intro (fun hp => absurd hp c4) (fun _ => ?_)
          show Ex mr_X9_make sc (Cl MT pr sc (d + 1)) (rtE (some (.int r)) (mk X) σ2) (20, [(0, .ref 0), (1, .int x1), (2, .int x2)], [], mk X, σ)
          refine Ex.pick (lv' := _) [] rfl ?_
          exact lk_X9_make_20 d _ h
