theorem lk_X10_miss_31 {pr : Ct} {sc : Nat × (Nat → Int32)} {X : En} (d : Nat) {r : Int32} {σ2 : St} (σ : St) (h : f_X10_miss_31 σ = some (r, σ2)) : Ex mr_X10_miss sc (Cl MT pr sc (d + 2)) (rtE (some (.int r)) (mk X) σ2) (31, [], [], mk X, σ) := by
  unfold f_X10_miss_31 at h
  refine Ex.blk 1000 rfl ?_
  cases h
  exact And.intro trivial ⟨rfl, rfl, rfl⟩
theorem lk_X10_miss_95 {pr : Ct} {sc : Nat × (Nat → Int32)} {X : En} (d : Nat) {r : Int32} {σ2 : St} (y0 : Int64) (σ : St) (h : f_X10_miss_95 y0 σ = some (r, σ2)) : Ex mr_X10_miss sc (Cl MT pr sc (d + 2)) (rtE (some (.int r)) (mk X) σ2) (95, [], [.long y0], mk X, σ) := by
  unfold f_X10_miss_95 at h
  refine Ex.blk 1000 rfl ?_
  cases h
  exact And.intro trivial ⟨rfl, rfl, rfl⟩
theorem lk_X10_miss_68 {pr : Ct} {sc : Nat × (Nat → Int32)} {X : En} (d : Nat) {r : Int32} {σ2 : St} (x3 : Int64) (x5 : Int64) (σ : St) (h : f_X10_miss_68 x3 x5 σ = some (r, σ2)) : Ex mr_X10_miss sc (Cl MT pr sc (d + 2)) (rtE (some (.int r)) (mk X) σ2) (68, [(3, .long x3), (5, .long x5)], [], mk X, σ) := by
  unfold f_X10_miss_68 at h
  refine Ex.blk 1000 rfl ?_
  rcases ite_sp h with ⟨c1, h⟩ | ⟨c1, h⟩
  · refine And.intro (fun _ => ?_) (fun hn => absurd c1 hn)
    show Ex mr_X10_miss sc (Cl MT pr sc (d + 2)) (rtE (some (.int r)) (mk X) σ2) (87, [(3, .long x3), (5, .long x5)], [], mk X, σ)
    refine Ex.blk 4 rfl ?_
    obtain ⟨g2, h⟩ := gd_some h
    refine And.intro (nzJ_ok g2) ?_
    show Ex mr_X10_miss sc (Cl MT pr sc (d + 2)) (rtE (some (.int r)) (mk X) σ2) (94, [(3, .long x3), (5, .long x5)], [.long (1000000 / x3), .long x5], mk X, σ)
    refine Ex.blk 1000 rfl ?_
    show Ex mr_X10_miss sc (Cl MT pr sc (d + 2)) (rtE (some (.int r)) (mk X) σ2) (95, [(3, .long x3), (5, .long x5)], [.long (x5 * (1000000 / x3))], mk X, σ)
    refine Ex.pick (lv' := _) [] rfl ?_
    exact lk_X10_miss_95 d _ _ h
  · refine And.intro (fun hp => absurd hp c1) (fun _ => ?_)
    show Ex mr_X10_miss sc (Cl MT pr sc (d + 2)) (rtE (some (.int r)) (mk X) σ2) (76, [(3, .long x3), (5, .long x5)], [], mk X, σ)
    refine Ex.blk 4 rfl ?_
    refine And.intro (nzJ_ok (b := 1000000) (by decide)) ?_
    show Ex mr_X10_miss sc (Cl MT pr sc (d + 2)) (rtE (some (.int r)) (mk X) σ2) (83, [(3, .long x3), (5, .long x5)], [.long (x3 / 1000000), .long x5], mk X, σ)
    refine Ex.blk 1 rfl ?_
    obtain ⟨g3, h⟩ := gd_some h
    refine And.intro (nzJ_ok g3) ?_
    show Ex mr_X10_miss sc (Cl MT pr sc (d + 2)) (rtE (some (.int r)) (mk X) σ2) (84, [(3, .long x3), (5, .long x5)], [.long (x5 / (x3 / 1000000))], mk X, σ)
    refine Ex.blk 1000 rfl ?_
    show Ex mr_X10_miss sc (Cl MT pr sc (d + 2)) (rtE (some (.int r)) (mk X) σ2) (95, [(3, .long x3), (5, .long x5)], [.long (x5 / (x3 / 1000000))], mk X, σ)
    refine Ex.pick (lv' := _) [] rfl ?_
    exact lk_X10_miss_95 d _ _ h
theorem lk_X10_miss_60 {pr : Ct} {sc : Nat × (Nat → Int32)} {X : En} (d : Nat) {r : Int32} {σ2 : St} (x1 : Int32) (x3 : Int64) (y0 : Int64) (σ : St) (h : f_X10_miss_60 x1 x3 y0 σ = some (r, σ2)) : Ex mr_X10_miss sc (Cl MT pr sc (d + 2)) (rtE (some (.int r)) (mk X) σ2) (60, [(0, .ref 38), (1, .int x1), (3, .long x3)], [.long y0], mk X, σ) := by
  unfold f_X10_miss_60 at h
  refine Ex.blk 3 rfl ?_
  obtain ⟨p5, hp5, h⟩ := bind_sp h
  refine Exists.intro (some (.long p5.1)) (Exists.intro (mk X) (Exists.intro p5.2 (And.intro (cl_X10_rightly (d + 0) hp5) ?_)))
  show Ex mr_X10_miss sc (Cl MT pr sc (d + 2)) (rtE (some (.int r)) (mk X) σ2) (65, [(0, .ref 38), (1, .int x1), (3, .long x3)], [.long p5.1, .long y0], mk X, p5.2)
  refine Ex.blk 2 rfl ?_
  show Ex mr_X10_miss sc (Cl MT pr sc (d + 2)) (rtE (some (.int r)) (mk X) σ2) (68, [(5, .long (y0 - p5.1)), (0, .ref 38), (1, .int x1), (3, .long x3)], [], mk X, p5.2)
  refine Ex.pick (lv' := _) [3, 0] rfl ?_
  exact lk_X10_miss_68 d _ _ _ h
theorem lk_X10_miss_33 {pr : Ct} {sc : Nat × (Nat → Int32)} {X : En} (d : Nat) {r : Int32} {σ2 : St} (x1 : Int32) (x2 : Int32) (σ : St) (h : f_X10_miss_33 x1 x2 σ = some (r, σ2)) : Ex mr_X10_miss sc (Cl MT pr sc (d + 2)) (rtE (some (.int r)) (mk X) σ2) (33, [(0, .ref 38), (1, .int x1), (2, .int x2)], [], mk X, σ) := by
  unfold f_X10_miss_33 at h
  refine Ex.blk 5 rfl ?_
  obtain ⟨p2, hp2, h⟩ := bind_sp h
  refine Exists.intro (some (.int p2.1)) (Exists.intro (mk X) (Exists.intro p2.2 (And.intro (cl_X10_many (d + 1) hp2) ?_)))
  show Ex mr_X10_miss sc (Cl MT pr sc (d + 2)) (rtE (some (.int r)) (mk X) σ2) (40, [(0, .ref 38), (1, .int x1), (2, .int x2)], [.int p2.1, .int 2], mk X, p2.2)
  refine Ex.blk 2 rfl ?_
  obtain ⟨p3, hp3, h⟩ := bind_sp h
  refine Exists.intro (some (.long p3.1)) (Exists.intro (mk X) (Exists.intro p3.2 (And.intro (cl_X10_ten (d + 1) hp3) ?_)))
  show Ex mr_X10_miss sc (Cl MT pr sc (d + 2)) (rtE (some (.int r)) (mk X) σ2) (44, [(0, .ref 38), (1, .int x1), (2, .int x2)], [.long p3.1], mk X, p3.2)
  refine Ex.blk 1000 rfl ?_
  rcases ite_sp h with ⟨c1, h⟩ | ⟨c1, h⟩
  · refine And.intro (fun hp => absurd c1 hp) (fun _ => ?_)
    show Ex mr_X10_miss sc (Cl MT pr sc (d + 2)) (rtE (some (.int r)) (mk X) σ2) (50, [(3, .long p3.1), (0, .ref 38), (1, .int x1), (2, .int x2)], [], mk X, p3.2)
    refine Ex.blk 1000 rfl ?_
    show Ex mr_X10_miss sc (Cl MT pr sc (d + 2)) (rtE (some (.int r)) (mk X) σ2) (60, [(3, .long p3.1), (0, .ref 38), (1, .int x1), (2, .int x2)], [.long p3.1], mk X, p3.2)
    refine Ex.pick (lv' := _) [1, 2, 0] rfl ?_
    exact lk_X10_miss_60 d _ _ _ _ h
  · refine And.intro (fun _ => ?_) (fun hn => absurd c1 hn)
    show Ex mr_X10_miss sc (Cl MT pr sc (d + 2)) (rtE (some (.int r)) (mk X) σ2) (54, [(3, .long p3.1), (0, .ref 38), (1, .int x1), (2, .int x2)], [], mk X, p3.2)
    refine Ex.blk 4 rfl ?_
    obtain ⟨p4, hp4, h⟩ := bind_sp h
    refine Exists.intro (some (.long p4.1)) (Exists.intro (mk X) (Exists.intro p4.2 (And.intro (cl_X10_alike (d + 0) hp4) ?_)))
    show Ex mr_X10_miss sc (Cl MT pr sc (d + 2)) (rtE (some (.int r)) (mk X) σ2) (60, [(3, .long p3.1), (0, .ref 38), (1, .int x1), (2, .int x2)], [.long p4.1], mk X, p4.2)
    refine Ex.pick (lv' := _) [1, 2, 0] rfl ?_
    exact lk_X10_miss_60 d _ _ _ _ h
theorem cl_X10_miss {pr : Ct} {sc : Nat × (Nat → Int32)} {X : En} (d : Nat) {r : Int32} {σ2 : St} {x1 : Int32} {x2 : Int32} {σ : St} (h : f_X10_miss x1 x2 σ = some (r, σ2)) : Cl MT pr sc (d + 2 + 1) 200 [.ref 38, .int x1, .int x2] (mk X) σ (some (.int r)) (mk X) σ2 := by
  refine cl_of mr_X10_miss rfl rfl ?_
  unfold f_X10_miss at h
  refine Ex.blk 5 rfl ?_
  obtain ⟨p1, hp1, h⟩ := bind_sp h
  refine Exists.intro (some (.int p1.1)) (Exists.intro (mk X) (Exists.intro p1.2 (And.intro (cl_X10_in (d + 1) hp1) ?_)))
  show Ex mr_X10_miss sc (Cl MT pr sc (d + 2)) (rtE (some (.int r)) (mk X) σ2) (9, [(0, .ref 38), (1, .int x1), (2, .int x2)], [.int p1.1], mk X, p1.2)
  refine Ex.blk 1000 rfl ?_
  rcases ite_sp h with ⟨c1, h⟩ | ⟨c1, h⟩
  · refine And.intro (fun _ => ?_) (fun hn => absurd c1 hn)
    show Ex mr_X10_miss sc (Cl MT pr sc (d + 2)) (rtE (some (.int r)) (mk X) σ2) (31, [(0, .ref 38), (1, .int x1), (2, .int x2)], [], mk X, p1.2)
    refine Ex.pick (lv' := _) [] rfl ?_
    exact lk_X10_miss_31 d _ h
  · refine And.intro (fun hp => absurd hp c1) (fun _ => ?_)
    show Ex mr_X10_miss sc (Cl MT pr sc (d + 2)) (rtE (some (.int r)) (mk X) σ2) (12, [(0, .ref 38), (1, .int x1), (2, .int x2)], [], mk X, p1.2)
    refine Ex.blk 1000 rfl ?_
    rcases ite_sp h with ⟨c2, h⟩ | ⟨c2, h⟩
    · refine And.intro (fun _ => ?_) (fun hn => absurd c2 hn)
      show Ex mr_X10_miss sc (Cl MT pr sc (d + 2)) (rtE (some (.int r)) (mk X) σ2) (33, [(0, .ref 38), (1, .int x1), (2, .int x2)], [], mk X, p1.2)
      exact lk_X10_miss_33 d _ _ _ h
    · refine And.intro (fun hp => absurd hp c2) (fun _ => ?_)
      show Ex mr_X10_miss sc (Cl MT pr sc (d + 2)) (rtE (some (.int r)) (mk X) σ2) (17, [(0, .ref 38), (1, .int x1), (2, .int x2)], [], mk X, p1.2)
      refine Ex.blk 5 rfl ?_
      obtain ⟨p6, hp6, h⟩ := bind_sp h
      refine Exists.intro (some (.int p6.1)) (Exists.intro (mk X) (Exists.intro p6.2 (And.intro (cl_X10_in (d + 1) hp6) ?_)))
      show Ex mr_X10_miss sc (Cl MT pr sc (d + 2)) (rtE (some (.int r)) (mk X) σ2) (28, [(0, .ref 38), (1, .int x1), (2, .int x2)], [.int p6.1], mk X, p6.2)
      refine Ex.blk 1000 rfl ?_
      rcases ite_sp h with ⟨c3, h⟩ | ⟨c3, h⟩
      · refine And.intro (fun hp => absurd c3 hp) (fun _ => ?_)
        show Ex mr_X10_miss sc (Cl MT pr sc (d + 2)) (rtE (some (.int r)) (mk X) σ2) (31, [(0, .ref 38), (1, .int x1), (2, .int x2)], [], mk X, p6.2)
        refine Ex.pick (lv' := _) [] rfl ?_
        exact lk_X10_miss_31 d _ h
      · refine And.intro (fun _ => ?_) (fun hn => absurd c3 hn)
        show Ex mr_X10_miss sc (Cl MT pr sc (d + 2)) (rtE (some (.int r)) (mk X) σ2) (33, [(0, .ref 38), (1, .int x1), (2, .int x2)], [], mk X, p6.2)
        exact lk_X10_miss_33 d _ _ _ h
theorem lk_X10_isRest_30 {pr : Ct} {sc : Nat × (Nat → Int32)} {X : En} (d : Nat) {r : Int32} {σ2 : St} (y0 : Int32) (σ : St) (h : f_X10_isRest_30 y0 σ = some (r, σ2)) : Ex mr_X10_isRest sc (Cl MT pr sc (d + 1)) (rtE (some (.int r)) (mk X) σ2) (30, [], [.int y0], mk X, σ) := by
  unfold f_X10_isRest_30 at h
  refine Ex.blk 1000 rfl ?_
  obtain ⟨g1, h⟩ := gd_some h
  cases h
  exact And.intro (isbb_ok g1) ⟨rfl, rfl, rfl⟩
theorem lk_X10_isRest_29 {pr : Ct} {sc : Nat × (Nat → Int32)} {X : En} (d : Nat) {r : Int32} {σ2 : St} (σ : St) (h : f_X10_isRest_29 σ = some (r, σ2)) : Ex mr_X10_isRest sc (Cl MT pr sc (d + 1)) (rtE (some (.int r)) (mk X) σ2) (29, [], [], mk X, σ) := by
  unfold f_X10_isRest_29 at h
  refine Ex.blk 1000 rfl ?_
  show Ex mr_X10_isRest sc (Cl MT pr sc (d + 1)) (rtE (some (.int r)) (mk X) σ2) (30, [], [.int 0], mk X, σ)
  exact lk_X10_isRest_30 d _ _ h
theorem cl_X10_isRest {pr : Ct} {sc : Nat × (Nat → Int32)} {X : En} (d : Nat) {r : Int32} {σ2 : St} {x0 : Int32} {x1 : Int32} {σ : St} (h : f_X10_isRest x0 x1 σ = some (r, σ2)) : Cl MT pr sc (d + 1 + 1) 201 [.int x0, .int x1] (mk X) σ (some (.int r)) (mk X) σ2 := by
  refine cl_of mr_X10_isRest rfl rfl ?_
  unfold f_X10_isRest at h
  refine Ex.blk 5 rfl ?_
  obtain ⟨p1, hp1, h⟩ := bind_sp h
  refine Exists.intro (some (.int p1.1)) (Exists.intro (mk X) (Exists.intro p1.2 (And.intro (cl_X10_in (d + 0) hp1) ?_)))
  show Ex mr_X10_isRest sc (Cl MT pr sc (d + 1)) (rtE (some (.int r)) (mk X) σ2) (9, [(0, .int x0), (1, .int x1)], [.int p1.1], mk X, p1.2)
  refine Ex.blk 1000 rfl ?_
  rcases ite_sp h with ⟨c1, h⟩ | ⟨c1, h⟩
  · refine And.intro (fun _ => ?_) (fun hn => absurd c1 hn)
    show Ex mr_X10_isRest sc (Cl MT pr sc (d + 1)) (rtE (some (.int r)) (mk X) σ2) (29, [(0, .int x0), (1, .int x1)], [], mk X, p1.2)
    refine Ex.pick (lv' := _) [] rfl ?_
    exact lk_X10_isRest_29 d _ h
  · refine And.intro (fun hp => absurd hp c1) (fun _ => ?_)
    show Ex mr_X10_isRest sc (Cl MT pr sc (d + 1)) (rtE (some (.int r)) (mk X) σ2) (12, [(0, .int x0), (1, .int x1)], [], mk X, p1.2)
    refine Ex.blk 5 rfl ?_
    show Ex mr_X10_isRest sc (Cl MT pr sc (d + 1)) (rtE (some (.int r)) (mk X) σ2) (17, [(0, .int x0), (1, .int x1)], [.int 1, .int x0, .long 0, .long x1.toInt64], mk X, p1.2)
    refine Ex.blk 3 rfl ?_
    obtain ⟨p2, hp2, h⟩ := bind_sp h
    refine Exists.intro (some (.int p2.1)) (Exists.intro (mk X) (Exists.intro p2.2 (And.intro (cl_X10_in (d + 0) hp2) ?_)))
    show Ex mr_X10_isRest sc (Cl MT pr sc (d + 1)) (rtE (some (.int r)) (mk X) σ2) (22, [(0, .int x0), (1, .int x1)], [.int p2.1], mk X, p2.2)
    refine Ex.blk 1000 rfl ?_
    rcases ite_sp h with ⟨c2, h⟩ | ⟨c2, h⟩
    · refine And.intro (fun _ => ?_) (fun hn => absurd c2 hn)
      show Ex mr_X10_isRest sc (Cl MT pr sc (d + 1)) (rtE (some (.int r)) (mk X) σ2) (29, [(0, .int x0), (1, .int x1)], [], mk X, p2.2)
      refine Ex.pick (lv' := _) [] rfl ?_
      exact lk_X10_isRest_29 d _ h
    · refine And.intro (fun hp => absurd hp c2) (fun _ => ?_)
      show Ex mr_X10_isRest sc (Cl MT pr sc (d + 1)) (rtE (some (.int r)) (mk X) σ2) (25, [(0, .int x0), (1, .int x1)], [], mk X, p2.2)
      refine Ex.blk 1000 rfl ?_
      show Ex mr_X10_isRest sc (Cl MT pr sc (d + 1)) (rtE (some (.int r)) (mk X) σ2) (30, [(0, .int x0), (1, .int x1)], [.int 1], mk X, p2.2)
      refine Ex.pick (lv' := _) [] rfl ?_
      exact lk_X10_isRest_30 d _ _ h
theorem lk_X10_span_20 {pr : Ct} {sc : Nat × (Nat → Int32)} {X : En} (d : Nat) {r : Int64} {σ2 : St} (σ : St) (h : f_X10_span_20 σ = some (r, σ2)) : Ex mr_X10_span sc (Cl MT pr sc (d + 3)) (rtE (some (.long r)) (mk X) σ2) (20, [], [], mk X, σ) := by
  unfold f_X10_span_20 at h
  refine Ex.blk 1000 rfl ?_
  cases h
  exact And.intro trivial ⟨rfl, rfl, rfl⟩
theorem lk_X10_span_204 {pr : Ct} {sc : Nat × (Nat → Int32)} {X : En} (d : Nat) {r : Int64} {σ2 : St} (y0 : Int64) (σ : St) (h : f_X10_span_204 y0 σ = some (r, σ2)) : Ex mr_X10_span sc (Cl MT pr sc (d + 3)) (rtE (some (.long r)) (mk X) σ2) (204, [], [.long y0], mk X, σ) := by
  unfold f_X10_span_204 at h
  refine Ex.blk 1000 rfl ?_
  cases h
  exact And.intro trivial ⟨rfl, rfl, rfl⟩
theorem lk_X10_span_177 {pr : Ct} {sc : Nat × (Nat → Int32)} {X : En} (d : Nat) {r : Int64} {σ2 : St} (k59 : Int32 → Int32 → Int32 → Int64 → Int32 → Int64 → Int64 → Int64 → Int32 → St → Option (Int64 × St)) (hk59 : ∀ (x1 : Int32) (x2 : Int32) (x3 : Int32) (x4 : Int64) (x6 : Int32) (x7 : Int64) (x9 : Int64) (x11 : Int64) (x13 : Int32) (σ : St), k59 x1 x2 x3 x4 x6 x7 x9 x11 x13 σ = some (r, σ2) → Ex mr_X10_span sc (Cl MT pr sc (d + 3)) (rtE (some (.long r)) (mk X) σ2) (59, [(0, .ref 38), (1, .int x1), (2, .int x2), (3, .int x3), (4, .long x4), (6, .int x6), (7, .long x7), (9, .long x9), (11, .long x11), (13, .int x13)], [], mk X, σ)) (x1 : Int32) (x2 : Int32) (x3 : Int32) (x4 : Int64) (x6 : Int32) (x7 : Int64) (x9 : Int64) (x11 : Int64) (x13 : Int32) (σ : St) (h : f_X10_span_177 k59 x1 x2 x3 x4 x6 x7 x9 x11 x13 σ = some (r, σ2)) : Ex mr_X10_span sc (Cl MT pr sc (d + 3)) (rtE (some (.long r)) (mk X) σ2) (177, [(0, .ref 38), (1, .int x1), (2, .int x2), (3, .int x3), (4, .long x4), (6, .int x6), (7, .long x7), (9, .long x9), (11, .long x11), (13, .int x13)], [], mk X, σ) := by
  unfold f_X10_span_177 at h
  refine Ex.blk 1000 rfl ?_
  show Ex mr_X10_span sc (Cl MT pr sc (d + 3)) (rtE (some (.long r)) (mk X) σ2) (59, [(13, .int (x13 + 1)), (0, .ref 38), (1, .int x1), (2, .int x2), (3, .int x3), (4, .long x4), (6, .int x6), (7, .long x7), (9, .long x9), (11, .long x11)], [], mk X, σ)
  refine Ex.pick (lv' := _) [1, 2, 3, 4, 5, 6, 7, 8, 9, 0] rfl ?_
  exact hk59 _ _ _ _ _ _ _ _ _ _ h
theorem lk_X10_span_166 {pr : Ct} {sc : Nat × (Nat → Int32)} {X : En} (d : Nat) {r : Int64} {σ2 : St} (k59 : Int32 → Int32 → Int32 → Int64 → Int32 → Int64 → Int64 → Int64 → Int32 → St → Option (Int64 × St)) (hk59 : ∀ (x1 : Int32) (x2 : Int32) (x3 : Int32) (x4 : Int64) (x6 : Int32) (x7 : Int64) (x9 : Int64) (x11 : Int64) (x13 : Int32) (σ : St), k59 x1 x2 x3 x4 x6 x7 x9 x11 x13 σ = some (r, σ2) → Ex mr_X10_span sc (Cl MT pr sc (d + 3)) (rtE (some (.long r)) (mk X) σ2) (59, [(0, .ref 38), (1, .int x1), (2, .int x2), (3, .int x3), (4, .long x4), (6, .int x6), (7, .long x7), (9, .long x9), (11, .long x11), (13, .int x13)], [], mk X, σ)) (x1 : Int32) (x2 : Int32) (x3 : Int32) (x4 : Int64) (x6 : Int32) (x7 : Int64) (x11 : Int64) (x13 : Int32) (x14 : Int64) (y0 : Int64) (σ : St) (h : f_X10_span_166 k59 x1 x2 x3 x4 x6 x7 x11 x13 x14 y0 σ = some (r, σ2)) : Ex mr_X10_span sc (Cl MT pr sc (d + 3)) (rtE (some (.long r)) (mk X) σ2) (166, [(0, .ref 38), (1, .int x1), (2, .int x2), (3, .int x3), (4, .long x4), (6, .int x6), (7, .long x7), (11, .long x11), (13, .int x13), (14, .long x14)], [.long y0], mk X, σ) := by
  unfold f_X10_span_166 at h
  refine Ex.blk 1000 rfl ?_
  show Ex mr_X10_span sc (Cl MT pr sc (d + 3)) (rtE (some (.long r)) (mk X) σ2) (177, [(11, .long (mxJ x11 x14)), (9, .long y0), (0, .ref 38), (1, .int x1), (2, .int x2), (3, .int x3), (4, .long x4), (6, .int x6), (7, .long x7), (13, .int x13), (14, .long x14)], [], mk X, σ)
  refine Ex.pick (lv' := _) [2, 3, 4, 5, 6, 7, 8, 1, 0, 9] rfl ?_
  exact lk_X10_span_177 d _ hk59 _ _ _ _ _ _ _ _ _ _ h
theorem lk_X10_span_122 {pr : Ct} {sc : Nat × (Nat → Int32)} {X : En} (d : Nat) {r : Int64} {σ2 : St} (k59 : Int32 → Int32 → Int32 → Int64 → Int32 → Int64 → Int64 → Int64 → Int32 → St → Option (Int64 × St)) (k77 : Int32 → Int32 → Int32 → Int64 → Int32 → Int64 → Int64 → Int64 → Int32 → Int64 → Int32 → Int32 → St → Option (Int64 × St)) (hk59 : ∀ (x1 : Int32) (x2 : Int32) (x3 : Int32) (x4 : Int64) (x6 : Int32) (x7 : Int64) (x9 : Int64) (x11 : Int64) (x13 : Int32) (σ : St), k59 x1 x2 x3 x4 x6 x7 x9 x11 x13 σ = some (r, σ2) → Ex mr_X10_span sc (Cl MT pr sc (d + 3)) (rtE (some (.long r)) (mk X) σ2) (59, [(0, .ref 38), (1, .int x1), (2, .int x2), (3, .int x3), (4, .long x4), (6, .int x6), (7, .long x7), (9, .long x9), (11, .long x11), (13, .int x13)], [], mk X, σ)) (hk77 : ∀ (x1 : Int32) (x2 : Int32) (x3 : Int32) (x4 : Int64) (x6 : Int32) (x7 : Int64) (x9 : Int64) (x11 : Int64) (x13 : Int32) (x14 : Int64) (x16 : Int32) (x17 : Int32) (σ : St), k77 x1 x2 x3 x4 x6 x7 x9 x11 x13 x14 x16 x17 σ = some (r, σ2) → Ex mr_X10_span sc (Cl MT pr sc (d + 3)) (rtE (some (.long r)) (mk X) σ2) (77, [(0, .ref 38), (1, .int x1), (2, .int x2), (3, .int x3), (4, .long x4), (6, .int x6), (7, .long x7), (9, .long x9), (11, .long x11), (13, .int x13), (14, .long x14), (16, .int x16), (17, .int x17)], [], mk X, σ)) (x1 : Int32) (x2 : Int32) (x3 : Int32) (x4 : Int64) (x6 : Int32) (x7 : Int64) (x9 : Int64) (x11 : Int64) (x13 : Int32) (x14 : Int64) (x16 : Int32) (x17 : Int32) (σ : St) (h : f_X10_span_122 k59 k77 x1 x2 x3 x4 x6 x7 x9 x11 x13 x14 x16 x17 σ = some (r, σ2)) : Ex mr_X10_span sc (Cl MT pr sc (d + 3)) (rtE (some (.long r)) (mk X) σ2) (122, [(0, .ref 38), (1, .int x1), (2, .int x2), (3, .int x3), (4, .long x4), (6, .int x6), (7, .long x7), (9, .long x9), (11, .long x11), (13, .int x13), (14, .long x14), (16, .int x16), (17, .int x17)], [], mk X, σ) := by
  unfold f_X10_span_122 at h
  refine Ex.blk 1000 rfl ?_
  show Ex mr_X10_span sc (Cl MT pr sc (d + 3)) (rtE (some (.long r)) (mk X) σ2) (77, [(17, .int (x17 + 1)), (0, .ref 38), (1, .int x1), (2, .int x2), (3, .int x3), (4, .long x4), (6, .int x6), (7, .long x7), (9, .long x9), (11, .long x11), (13, .int x13), (14, .long x14), (16, .int x16)], [], mk X, σ)
  refine Ex.pick (lv' := _) [1, 2, 3, 4, 5, 6, 7, 8, 9, 10, 11, 12, 0] rfl ?_
  exact hk77 _ _ _ _ _ _ _ _ _ _ _ _ _ h
theorem lk_X10_span_115 {pr : Ct} {sc : Nat × (Nat → Int32)} {X : En} (d : Nat) {r : Int64} {σ2 : St} (k59 : Int32 → Int32 → Int32 → Int64 → Int32 → Int64 → Int64 → Int64 → Int32 → St → Option (Int64 × St)) (k77 : Int32 → Int32 → Int32 → Int64 → Int32 → Int64 → Int64 → Int64 → Int32 → Int64 → Int32 → Int32 → St → Option (Int64 × St)) (hk59 : ∀ (x1 : Int32) (x2 : Int32) (x3 : Int32) (x4 : Int64) (x6 : Int32) (x7 : Int64) (x9 : Int64) (x11 : Int64) (x13 : Int32) (σ : St), k59 x1 x2 x3 x4 x6 x7 x9 x11 x13 σ = some (r, σ2) → Ex mr_X10_span sc (Cl MT pr sc (d + 3)) (rtE (some (.long r)) (mk X) σ2) (59, [(0, .ref 38), (1, .int x1), (2, .int x2), (3, .int x3), (4, .long x4), (6, .int x6), (7, .long x7), (9, .long x9), (11, .long x11), (13, .int x13)], [], mk X, σ)) (hk77 : ∀ (x1 : Int32) (x2 : Int32) (x3 : Int32) (x4 : Int64) (x6 : Int32) (x7 : Int64) (x9 : Int64) (x11 : Int64) (x13 : Int32) (x14 : Int64) (x16 : Int32) (x17 : Int32) (σ : St), k77 x1 x2 x3 x4 x6 x7 x9 x11 x13 x14 x16 x17 σ = some (r, σ2) → Ex mr_X10_span sc (Cl MT pr sc (d + 3)) (rtE (some (.long r)) (mk X) σ2) (77, [(0, .ref 38), (1, .int x1), (2, .int x2), (3, .int x3), (4, .long x4), (6, .int x6), (7, .long x7), (9, .long x9), (11, .long x11), (13, .int x13), (14, .long x14), (16, .int x16), (17, .int x17)], [], mk X, σ)) (x1 : Int32) (x2 : Int32) (x3 : Int32) (x4 : Int64) (x6 : Int32) (x7 : Int64) (x9 : Int64) (x11 : Int64) (x13 : Int32) (x14 : Int64) (x16 : Int32) (x17 : Int32) (σ : St) (h : f_X10_span_115 k59 k77 x1 x2 x3 x4 x6 x7 x9 x11 x13 x14 x16 x17 σ = some (r, σ2)) : Ex mr_X10_span sc (Cl MT pr sc (d + 3)) (rtE (some (.long r)) (mk X) σ2) (115, [(0, .ref 38), (1, .int x1), (2, .int x2), (3, .int x3), (4, .long x4), (6, .int x6), (7, .long x7), (9, .long x9), (11, .long x11), (13, .int x13), (14, .long x14), (16, .int x16), (17, .int x17)], [], mk X, σ) := by
  unfold f_X10_span_115 at h
  refine Ex.blk 3 rfl ?_
  refine And.intro (nzI_ok (b := 10) (by decide)) ?_
  show Ex mr_X10_span sc (Cl MT pr sc (d + 3)) (rtE (some (.long r)) (mk X) σ2) (120, [(0, .ref 38), (1, .int x1), (2, .int x2), (3, .int x3), (4, .long x4), (6, .int x6), (7, .long x7), (9, .long x9), (11, .long x11), (13, .int x13), (14, .long x14), (16, .int x16), (17, .int x17)], [.int (x16 / 10)], mk X, σ)
  refine Ex.blk 1000 rfl ?_
  show Ex mr_X10_span sc (Cl MT pr sc (d + 3)) (rtE (some (.long r)) (mk X) σ2) (122, [(16, .int (x16 / 10)), (0, .ref 38), (1, .int x1), (2, .int x2), (3, .int x3), (4, .long x4), (6, .int x6), (7, .long x7), (9, .long x9), (11, .long x11), (13, .int x13), (14, .long x14), (17, .int x17)], [], mk X, σ)
  refine Ex.pick (lv' := _) [1, 2, 3, 4, 5, 6, 7, 8, 9, 10, 11, 0, 12] rfl ?_
  exact lk_X10_span_122 d _ _ hk59 hk77 _ _ _ _ _ _ _ _ _ _ _ _ _ h
theorem lk_X10_span_77 {pr : Ct} {sc : Nat × (Nat → Int32)} {X : En} (d : Nat) {r : Int64} {σ2 : St} (k59 : Int32 → Int32 → Int32 → Int64 → Int32 → Int64 → Int64 → Int64 → Int32 → St → Option (Int64 × St)) (hk59 : ∀ (x1 : Int32) (x2 : Int32) (x3 : Int32) (x4 : Int64) (x6 : Int32) (x7 : Int64) (x9 : Int64) (x11 : Int64) (x13 : Int32) (σ : St), k59 x1 x2 x3 x4 x6 x7 x9 x11 x13 σ = some (r, σ2) → Ex mr_X10_span sc (Cl MT pr sc (d + 3)) (rtE (some (.long r)) (mk X) σ2) (59, [(0, .ref 38), (1, .int x1), (2, .int x2), (3, .int x3), (4, .long x4), (6, .int x6), (7, .long x7), (9, .long x9), (11, .long x11), (13, .int x13)], [], mk X, σ)) : ∀ (n : Nat) (x1 : Int32) (x2 : Int32) (x3 : Int32) (x4 : Int64) (x6 : Int32) (x7 : Int64) (x9 : Int64) (x11 : Int64) (x13 : Int32) (x14 : Int64) (x16 : Int32) (x17 : Int32) (σ : St), f_X10_span_77 k59 n x1 x2 x3 x4 x6 x7 x9 x11 x13 x14 x16 x17 σ = some (r, σ2) → Ex mr_X10_span sc (Cl MT pr sc (d + 3)) (rtE (some (.long r)) (mk X) σ2) (77, [(0, .ref 38), (1, .int x1), (2, .int x2), (3, .int x3), (4, .long x4), (6, .int x6), (7, .long x7), (9, .long x9), (11, .long x11), (13, .int x13), (14, .long x14), (16, .int x16), (17, .int x17)], [], mk X, σ) := by
  intro n
  induction n with
  | zero =>
    intro x1 x2 x3 x4 x6 x7 x9 x11 x13 x14 x16 x17 σ h
    cases h
  | succ n ih =>
    intro x1 x2 x3 x4 x6 x7 x9 x11 x13 x14 x16 x17 σ h
    simp only [f_X10_span_77] at h
    refine Ex.blk 1000 rfl ?_
    rcases ite_sp h with ⟨c1, h⟩ | ⟨c1, h⟩
    · refine And.intro (fun _ => ?_) (fun hn => absurd c1 hn)
      show Ex mr_X10_span sc (Cl MT pr sc (d + 3)) (rtE (some (.long r)) (mk X) σ2) (128, [(0, .ref 38), (1, .int x1), (2, .int x2), (3, .int x3), (4, .long x4), (6, .int x6), (7, .long x7), (9, .long x9), (11, .long x11), (13, .int x13), (14, .long x14), (16, .int x16), (17, .int x17)], [], mk X, σ)
      refine Ex.blk 4 rfl ?_
      obtain ⟨g2, h⟩ := gd_some h
      refine And.intro (nzJ_ok g2) ?_
      show Ex mr_X10_span sc (Cl MT pr sc (d + 3)) (rtE (some (.long r)) (mk X) σ2) (133, [(0, .ref 38), (1, .int x1), (2, .int x2), (3, .int x3), (4, .long x4), (6, .int x6), (7, .long x7), (9, .long x9), (11, .long x11), (13, .int x13), (14, .long x14), (16, .int x16), (17, .int x17)], [.long (rmJ x14 x1.toInt64)], mk X, σ)
      refine Ex.blk 1000 rfl ?_
      rcases ite_sp h with ⟨c3, h⟩ | ⟨c3, h⟩
      · refine And.intro (fun hp => absurd c3 hp) (fun _ => ?_)
        show Ex mr_X10_span sc (Cl MT pr sc (d + 3)) (rtE (some (.long r)) (mk X) σ2) (139, [(0, .ref 38), (1, .int x1), (2, .int x2), (3, .int x3), (4, .long x4), (6, .int x6), (7, .long x7), (9, .long x9), (11, .long x11), (13, .int x13), (14, .long x14), (16, .int x16), (17, .int x17)], [], mk X, σ)
        refine Ex.blk 5 rfl ?_
        show Ex mr_X10_span sc (Cl MT pr sc (d + 3)) (rtE (some (.long r)) (mk X) σ2) (147, [(7, .long (x7 + 1)), (0, .ref 38), (1, .int x1), (2, .int x2), (3, .int x3), (4, .long x4), (6, .int x6), (9, .long x9), (11, .long x11), (13, .int x13), (14, .long x14), (16, .int x16), (17, .int x17)], [.long x9], mk X, σ)
        refine Ex.blk 1000 rfl ?_
        rcases ite_sp h with ⟨c4, h⟩ | ⟨c4, h⟩
        · refine And.intro (fun hp => absurd c4 hp) (fun _ => ?_)
          show Ex mr_X10_span sc (Cl MT pr sc (d + 3)) (rtE (some (.long r)) (mk X) σ2) (154, [(7, .long (x7 + 1)), (0, .ref 38), (1, .int x1), (2, .int x2), (3, .int x3), (4, .long x4), (6, .int x6), (9, .long x9), (11, .long x11), (13, .int x13), (14, .long x14), (16, .int x16), (17, .int x17)], [], mk X, σ)
          refine Ex.blk 1000 rfl ?_
          show Ex mr_X10_span sc (Cl MT pr sc (d + 3)) (rtE (some (.long r)) (mk X) σ2) (166, [(7, .long (x7 + 1)), (0, .ref 38), (1, .int x1), (2, .int x2), (3, .int x3), (4, .long x4), (6, .int x6), (9, .long x9), (11, .long x11), (13, .int x13), (14, .long x14), (16, .int x16), (17, .int x17)], [.long x14], mk X, σ)
          refine Ex.pick (lv' := _) [1, 2, 3, 4, 5, 6, 0, 8, 9, 10] rfl ?_
          exact lk_X10_span_166 d _ hk59 _ _ _ _ _ _ _ _ _ _ _ h
        · refine And.intro (fun _ => ?_) (fun hn => absurd c4 hn)
          show Ex mr_X10_span sc (Cl MT pr sc (d + 3)) (rtE (some (.long r)) (mk X) σ2) (159, [(7, .long (x7 + 1)), (0, .ref 38), (1, .int x1), (2, .int x2), (3, .int x3), (4, .long x4), (6, .int x6), (9, .long x9), (11, .long x11), (13, .int x13), (14, .long x14), (16, .int x16), (17, .int x17)], [], mk X, σ)
          refine Ex.blk 1000 rfl ?_
          show Ex mr_X10_span sc (Cl MT pr sc (d + 3)) (rtE (some (.long r)) (mk X) σ2) (166, [(7, .long (x7 + 1)), (0, .ref 38), (1, .int x1), (2, .int x2), (3, .int x3), (4, .long x4), (6, .int x6), (9, .long x9), (11, .long x11), (13, .int x13), (14, .long x14), (16, .int x16), (17, .int x17)], [.long (mnJ x9 x14)], mk X, σ)
          refine Ex.pick (lv' := _) [1, 2, 3, 4, 5, 6, 0, 8, 9, 10] rfl ?_
          exact lk_X10_span_166 d _ hk59 _ _ _ _ _ _ _ _ _ _ _ h
      · refine And.intro (fun _ => ?_) (fun hn => absurd c3 hn)
        show Ex mr_X10_span sc (Cl MT pr sc (d + 3)) (rtE (some (.long r)) (mk X) σ2) (177, [(0, .ref 38), (1, .int x1), (2, .int x2), (3, .int x3), (4, .long x4), (6, .int x6), (7, .long x7), (9, .long x9), (11, .long x11), (13, .int x13), (14, .long x14), (16, .int x16), (17, .int x17)], [], mk X, σ)
        refine Ex.pick (lv' := _) [0, 1, 2, 3, 4, 5, 6, 7, 8, 9] rfl ?_
        exact lk_X10_span_177 d _ hk59 _ _ _ _ _ _ _ _ _ _ h
    · refine And.intro (fun hp => absurd hp c1) (fun _ => ?_)
      show Ex mr_X10_span sc (Cl MT pr sc (d + 3)) (rtE (some (.long r)) (mk X) σ2) (86, [(0, .ref 38), (1, .int x1), (2, .int x2), (3, .int x3), (4, .long x4), (6, .int x6), (7, .long x7), (9, .long x9), (11, .long x11), (13, .int x13), (14, .long x14), (16, .int x16), (17, .int x17)], [], mk X, σ)
      refine Ex.blk 4 rfl ?_
      obtain ⟨p6, hp6, h⟩ := bind_sp h
      refine Exists.intro (some (.int p6.1)) (Exists.intro (mk X) (Exists.intro p6.2 (And.intro (cl_X10_has (d + 2) hp6) ?_)))
      show Ex mr_X10_span sc (Cl MT pr sc (d + 3)) (rtE (some (.long r)) (mk X) σ2) (95, [(0, .ref 38), (1, .int x1), (2, .int x2), (3, .int x3), (4, .long x4), (6, .int x6), (7, .long x7), (9, .long x9), (11, .long x11), (13, .int x13), (14, .long x14), (16, .int x16), (17, .int x17)], [.int p6.1], mk X, p6.2)
      refine Ex.blk 1000 rfl ?_
      rcases ite_sp h with ⟨c5, h⟩ | ⟨c5, h⟩
      · refine And.intro (fun _ => ?_) (fun hn => absurd c5 hn)
        show Ex mr_X10_span sc (Cl MT pr sc (d + 3)) (rtE (some (.long r)) (mk X) σ2) (122, [(0, .ref 38), (1, .int x1), (2, .int x2), (3, .int x3), (4, .long x4), (6, .int x6), (7, .long x7), (9, .long x9), (11, .long x11), (13, .int x13), (14, .long x14), (16, .int x16), (17, .int x17)], [], mk X, p6.2)
        exact lk_X10_span_122 d _ _ hk59 ih _ _ _ _ _ _ _ _ _ _ _ _ _ h
      · refine And.intro (fun hp => absurd hp c5) (fun _ => ?_)
        show Ex mr_X10_span sc (Cl MT pr sc (d + 3)) (rtE (some (.long r)) (mk X) σ2) (98, [(0, .ref 38), (1, .int x1), (2, .int x2), (3, .int x3), (4, .long x4), (6, .int x6), (7, .long x7), (9, .long x9), (11, .long x11), (13, .int x13), (14, .long x14), (16, .int x16), (17, .int x17)], [], mk X, p6.2)
        refine Ex.blk 4 rfl ?_
        refine And.intro (nzI_ok (b := 10) (by decide)) ?_
        show Ex mr_X10_span sc (Cl MT pr sc (d + 3)) (rtE (some (.long r)) (mk X) σ2) (105, [(0, .ref 38), (1, .int x1), (2, .int x2), (3, .int x3), (4, .long x4), (6, .int x6), (7, .long x7), (9, .long x9), (11, .long x11), (13, .int x13), (14, .long x14), (16, .int x16), (17, .int x17)], [.int (rmI x16 10), .long x14], mk X, p6.2)
        refine Ex.blk 3 rfl ?_
        obtain ⟨p7, hp7, h⟩ := bind_sp h
        refine Exists.intro (some (.long p7.1)) (Exists.intro (mk X) (Exists.intro p7.2 (And.intro (cl_X10_ten (d + 2) hp7) ?_)))
        show Ex mr_X10_span sc (Cl MT pr sc (d + 3)) (rtE (some (.long r)) (mk X) σ2) (111, [(0, .ref 38), (1, .int x1), (2, .int x2), (3, .int x3), (4, .long x4), (6, .int x6), (7, .long x7), (9, .long x9), (11, .long x11), (13, .int x13), (14, .long x14), (16, .int x16), (17, .int x17)], [.long p7.1, .long (rmI x16 10).toInt64, .long x14], mk X, p7.2)
        refine Ex.blk 3 rfl ?_
        show Ex mr_X10_span sc (Cl MT pr sc (d + 3)) (rtE (some (.long r)) (mk X) σ2) (115, [(14, .long (x14 + (((rmI x16 10).toInt64) * p7.1))), (0, .ref 38), (1, .int x1), (2, .int x2), (3, .int x3), (4, .long x4), (6, .int x6), (7, .long x7), (9, .long x9), (11, .long x11), (13, .int x13), (16, .int x16), (17, .int x17)], [], mk X, p7.2)
        refine Ex.pick (lv' := _) [1, 2, 3, 4, 5, 6, 7, 8, 9, 10, 0, 11, 12] rfl ?_
        exact lk_X10_span_115 d _ _ hk59 ih _ _ _ _ _ _ _ _ _ _ _ _ _ h
theorem lk_X10_span_59 {pr : Ct} {sc : Nat × (Nat → Int32)} {X : En} (d : Nat) {r : Int64} {σ2 : St} : ∀ (n : Nat) (x1 : Int32) (x2 : Int32) (x3 : Int32) (x4 : Int64) (x6 : Int32) (x7 : Int64) (x9 : Int64) (x11 : Int64) (x13 : Int32) (σ : St), f_X10_span_59 n x1 x2 x3 x4 x6 x7 x9 x11 x13 σ = some (r, σ2) → Ex mr_X10_span sc (Cl MT pr sc (d + 3)) (rtE (some (.long r)) (mk X) σ2) (59, [(0, .ref 38), (1, .int x1), (2, .int x2), (3, .int x3), (4, .long x4), (6, .int x6), (7, .long x7), (9, .long x9), (11, .long x11), (13, .int x13)], [], mk X, σ) := by
  intro n
  induction n with
  | zero =>
    intro x1 x2 x3 x4 x6 x7 x9 x11 x13 σ h
    cases h
  | succ n ih =>
    intro x1 x2 x3 x4 x6 x7 x9 x11 x13 σ h
    simp only [f_X10_span_59] at h
    refine Ex.blk 1000 rfl ?_
    rcases ite_sp h with ⟨c1, h⟩ | ⟨c1, h⟩
    · refine And.intro (fun _ => ?_) (fun hn => absurd c1 hn)
      show Ex mr_X10_span sc (Cl MT pr sc (d + 3)) (rtE (some (.long r)) (mk X) σ2) (183, [(0, .ref 38), (1, .int x1), (2, .int x2), (3, .int x3), (4, .long x4), (6, .int x6), (7, .long x7), (9, .long x9), (11, .long x11), (13, .int x13)], [], mk X, σ)
      refine Ex.blk 1000 rfl ?_
      rcases ite_sp h with ⟨c2, h⟩ | ⟨c2, h⟩
      · refine And.intro (fun hp => absurd c2 hp) (fun _ => ?_)
        show Ex mr_X10_span sc (Cl MT pr sc (d + 3)) (rtE (some (.long r)) (mk X) σ2) (187, [(0, .ref 38), (1, .int x1), (2, .int x2), (3, .int x3), (4, .long x4), (6, .int x6), (7, .long x7), (9, .long x9), (11, .long x11), (13, .int x13)], [], mk X, σ)
        refine Ex.blk 1000 rfl ?_
        show Ex mr_X10_span sc (Cl MT pr sc (d + 3)) (rtE (some (.long r)) (mk X) σ2) (204, [(0, .ref 38), (1, .int x1), (2, .int x2), (3, .int x3), (4, .long x4), (6, .int x6), (7, .long x7), (9, .long x9), (11, .long x11), (13, .int x13)], [.long x7], mk X, σ)
        refine Ex.pick (lv' := _) [] rfl ?_
        exact lk_X10_span_204 d _ _ h
      · refine And.intro (fun _ => ?_) (fun hn => absurd c2 hn)
        show Ex mr_X10_span sc (Cl MT pr sc (d + 3)) (rtE (some (.long r)) (mk X) σ2) (192, [(0, .ref 38), (1, .int x1), (2, .int x2), (3, .int x3), (4, .long x4), (6, .int x6), (7, .long x7), (9, .long x9), (11, .long x11), (13, .int x13)], [], mk X, σ)
        refine Ex.blk 1000 rfl ?_
        rcases ite_sp h with ⟨c3, h⟩ | ⟨c3, h⟩
        · refine And.intro (fun hp => absurd c3 hp) (fun _ => ?_)
          show Ex mr_X10_span sc (Cl MT pr sc (d + 3)) (rtE (some (.long r)) (mk X) σ2) (197, [(0, .ref 38), (1, .int x1), (2, .int x2), (3, .int x3), (4, .long x4), (6, .int x6), (7, .long x7), (9, .long x9), (11, .long x11), (13, .int x13)], [], mk X, σ)
          refine Ex.blk 1000 rfl ?_
          show Ex mr_X10_span sc (Cl MT pr sc (d + 3)) (rtE (some (.long r)) (mk X) σ2) (204, [(0, .ref 38), (1, .int x1), (2, .int x2), (3, .int x3), (4, .long x4), (6, .int x6), (7, .long x7), (9, .long x9), (11, .long x11), (13, .int x13)], [.long x9], mk X, σ)
          refine Ex.pick (lv' := _) [] rfl ?_
          exact lk_X10_span_204 d _ _ h
        · refine And.intro (fun _ => ?_) (fun hn => absurd c3 hn)
          show Ex mr_X10_span sc (Cl MT pr sc (d + 3)) (rtE (some (.long r)) (mk X) σ2) (202, [(0, .ref 38), (1, .int x1), (2, .int x2), (3, .int x3), (4, .long x4), (6, .int x6), (7, .long x7), (9, .long x9), (11, .long x11), (13, .int x13)], [], mk X, σ)
          refine Ex.blk 1000 rfl ?_
          show Ex mr_X10_span sc (Cl MT pr sc (d + 3)) (rtE (some (.long r)) (mk X) σ2) (204, [(0, .ref 38), (1, .int x1), (2, .int x2), (3, .int x3), (4, .long x4), (6, .int x6), (7, .long x7), (9, .long x9), (11, .long x11), (13, .int x13)], [.long x11], mk X, σ)
          refine Ex.pick (lv' := _) [] rfl ?_
          exact lk_X10_span_204 d _ _ h
    · refine And.intro (fun hp => absurd hp c1) (fun _ => ?_)
      show Ex mr_X10_span sc (Cl MT pr sc (d + 3)) (rtE (some (.long r)) (mk X) σ2) (66, [(0, .ref 38), (1, .int x1), (2, .int x2), (3, .int x3), (4, .long x4), (6, .int x6), (7, .long x7), (9, .long x9), (11, .long x11), (13, .int x13)], [], mk X, σ)
      refine Ex.blk 5 rfl ?_
      show Ex mr_X10_span sc (Cl MT pr sc (d + 3)) (rtE (some (.long r)) (mk X) σ2) (75, [(16, .int x13), (14, .long x4), (0, .ref 38), (1, .int x1), (2, .int x2), (3, .int x3), (4, .long x4), (6, .int x6), (7, .long x7), (9, .long x9), (11, .long x11), (13, .int x13)], [.int 0], mk X, σ)
      refine Ex.blk 1000 rfl ?_
      show Ex mr_X10_span sc (Cl MT pr sc (d + 3)) (rtE (some (.long r)) (mk X) σ2) (77, [(17, .int 0), (16, .int x13), (14, .long x4), (0, .ref 38), (1, .int x1), (2, .int x2), (3, .int x3), (4, .long x4), (6, .int x6), (7, .long x7), (9, .long x9), (11, .long x11), (13, .int x13)], [], mk X, σ)
      refine Ex.pick (lv' := _) [3, 4, 5, 6, 7, 8, 9, 10, 11, 12, 2, 1, 0] rfl ?_
      exact lk_X10_span_77 d _ ih FU _ _ _ _ _ _ _ _ _ _ _ _ _ h
theorem lk_X10_span_43 {pr : Ct} {sc : Nat × (Nat → Int32)} {X : En} (d : Nat) {r : Int64} {σ2 : St} (x1 : Int32) (x2 : Int32) (x3 : Int32) (x4 : Int64) (x6 : Int32) (σ : St) (h : f_X10_span_43 x1 x2 x3 x4 x6 σ = some (r, σ2)) : Ex mr_X10_span sc (Cl MT pr sc (d + 3)) (rtE (some (.long r)) (mk X) σ2) (43, [(0, .ref 38), (1, .int x1), (2, .int x2), (3, .int x3), (4, .long x4), (6, .int x6)], [], mk X, σ) := by
  unfold f_X10_span_43 at h
  refine Ex.blk 5 rfl ?_
  show Ex mr_X10_span sc (Cl MT pr sc (d + 3)) (rtE (some (.long r)) (mk X) σ2) (54, [(9, .long (-1)), (7, .long 0), (0, .ref 38), (1, .int x1), (2, .int x2), (3, .int x3), (4, .long x4), (6, .int x6)], [.long (-1)], mk X, σ)
  refine Ex.blk 1000 rfl ?_
  show Ex mr_X10_span sc (Cl MT pr sc (d + 3)) (rtE (some (.long r)) (mk X) σ2) (59, [(13, .int 0), (11, .long (-1)), (9, .long (-1)), (7, .long 0), (0, .ref 38), (1, .int x1), (2, .int x2), (3, .int x3), (4, .long x4), (6, .int x6)], [], mk X, σ)
  refine Ex.pick (lv' := _) [4, 5, 6, 7, 8, 9, 3, 2, 1, 0] rfl ?_
  exact lk_X10_span_59 d FU _ _ _ _ _ _ _ _ _ _ h
theorem cl_X10_span {pr : Ct} {sc : Nat × (Nat → Int32)} {X : En} (d : Nat) {r : Int64} {σ2 : St} {x1 : Int32} {x2 : Int32} {x3 : Int32} {σ : St} (h : f_X10_span x1 x2 x3 σ = some (r, σ2)) : Cl MT pr sc (d + 3 + 1) 202 [.ref 38, .int x1, .int x2, .int x3] (mk X) σ (some (.long r)) (mk X) σ2 := by
  refine cl_of mr_X10_span rfl rfl ?_
  unfold f_X10_span at h
  refine Ex.blk 3 rfl ?_
  obtain ⟨p1, hp1, h⟩ := bind_sp h
  refine Exists.intro (some (.int p1.1)) (Exists.intro (mk X) (Exists.intro p1.2 (And.intro (cl_X10_isRest (d + 1) hp1) ?_)))
  show Ex mr_X10_span sc (Cl MT pr sc (d + 3)) (rtE (some (.long r)) (mk X) σ2) (5, [(0, .ref 38), (1, .int x1), (2, .int x2), (3, .int x3)], [.int p1.1], mk X, p1.2)
  refine Ex.blk 1000 rfl ?_
  rcases ite_sp h with ⟨c1, h⟩ | ⟨c1, h⟩
  · refine And.intro (fun _ => ?_) (fun hn => absurd c1 hn)
    show Ex mr_X10_span sc (Cl MT pr sc (d + 3)) (rtE (some (.long r)) (mk X) σ2) (20, [(0, .ref 38), (1, .int x1), (2, .int x2), (3, .int x3)], [], mk X, p1.2)
    refine Ex.pick (lv' := _) [] rfl ?_
    exact lk_X10_span_20 d _ h
  · refine And.intro (fun hp => absurd hp c1) (fun _ => ?_)
    show Ex mr_X10_span sc (Cl MT pr sc (d + 3)) (rtE (some (.long r)) (mk X) σ2) (8, [(0, .ref 38), (1, .int x1), (2, .int x2), (3, .int x3)], [], mk X, p1.2)
    refine Ex.blk 5 rfl ?_
    obtain ⟨p2, hp2, h⟩ := bind_sp h
    refine Exists.intro (some (.int p2.1)) (Exists.intro (mk X) (Exists.intro p2.2 (And.intro (cl_X10_in (d + 2) hp2) ?_)))
    show Ex mr_X10_span sc (Cl MT pr sc (d + 3)) (rtE (some (.long r)) (mk X) σ2) (17, [(0, .ref 38), (1, .int x1), (2, .int x2), (3, .int x3)], [.int p2.1], mk X, p2.2)
    refine Ex.blk 1000 rfl ?_
    rcases ite_sp h with ⟨c2, h⟩ | ⟨c2, h⟩
    · refine And.intro (fun hp => absurd c2 hp) (fun _ => ?_)
      show Ex mr_X10_span sc (Cl MT pr sc (d + 3)) (rtE (some (.long r)) (mk X) σ2) (20, [(0, .ref 38), (1, .int x1), (2, .int x2), (3, .int x3)], [], mk X, p2.2)
      refine Ex.pick (lv' := _) [] rfl ?_
      exact lk_X10_span_20 d _ h
    · refine And.intro (fun _ => ?_) (fun hn => absurd c2 hn)
      show Ex mr_X10_span sc (Cl MT pr sc (d + 3)) (rtE (some (.long r)) (mk X) σ2) (24, [(0, .ref 38), (1, .int x1), (2, .int x2), (3, .int x3)], [], mk X, p2.2)
      refine Ex.blk 2 rfl ?_
      obtain ⟨p3, hp3, h⟩ := bind_sp h
      refine Exists.intro (some (.long p3.1)) (Exists.intro (mk X) (Exists.intro p3.2 (And.intro (cl_X10_seenNumber (d + 0) hp3) ?_)))
      show Ex mr_X10_span sc (Cl MT pr sc (d + 3)) (rtE (some (.long r)) (mk X) σ2) (28, [(0, .ref 38), (1, .int x1), (2, .int x2), (3, .int x3)], [.long p3.1], mk X, p3.2)
      refine Ex.blk 4 rfl ?_
      obtain ⟨p4, hp4, h⟩ := bind_sp h
      refine Exists.intro (some (.int p4.1)) (Exists.intro (mk X) (Exists.intro p4.2 (And.intro (cl_J6_bitCount_0f7a4 (d + 2) hp4) ?_)))
      show Ex mr_X10_span sc (Cl MT pr sc (d + 3)) (rtE (some (.long r)) (mk X) σ2) (37, [(4, .long p3.1), (0, .ref 38), (1, .int x1), (2, .int x2), (3, .int x3)], [.int p4.1], mk X, p4.2)
      refine Ex.blk 1 rfl ?_
      obtain ⟨p5, hp5, h⟩ := bind_sp h
      refine Exists.intro (some (.long p5.1)) (Exists.intro (mk X) (Exists.intro p5.2 (And.intro (cl_X10_ten (d + 2) hp5) ?_)))
      show Ex mr_X10_span sc (Cl MT pr sc (d + 3)) (rtE (some (.long r)) (mk X) σ2) (40, [(4, .long p3.1), (0, .ref 38), (1, .int x1), (2, .int x2), (3, .int x3)], [.long p5.1], mk X, p5.2)
      refine Ex.blk 2 rfl ?_
      show Ex mr_X10_span sc (Cl MT pr sc (d + 3)) (rtE (some (.long r)) (mk X) σ2) (43, [(6, .int p5.1.toInt32), (4, .long p3.1), (0, .ref 38), (1, .int x1), (2, .int x2), (3, .int x3)], [], mk X, p5.2)
      refine Ex.pick (lv' := _) [2, 3, 4, 5, 1, 0] rfl ?_
      exact lk_X10_span_43 d _ _ _ _ _ _ h
theorem lk_X10_astray_13 {pr : Ct} {sc : Nat × (Nat → Int32)} {X : En} (d : Nat) {r : Int32} {σ2 : St} (σ : St) (h : f_X10_astray_13 σ = some (r, σ2)) : Ex mr_X10_astray sc (Cl MT pr sc (d + 3)) (rtE (some (.int r)) (mk X) σ2) (13, [], [], mk X, σ) := by
  unfold f_X10_astray_13 at h
  refine Ex.blk 1000 rfl ?_
  cases h
  exact And.intro trivial ⟨rfl, rfl, rfl⟩
theorem lk_X10_astray_146 {pr : Ct} {sc : Nat × (Nat → Int32)} {X : En} (d : Nat) {r : Int32} {σ2 : St} (y0 : Int32) (σ : St) (h : f_X10_astray_146 y0 σ = some (r, σ2)) : Ex mr_X10_astray sc (Cl MT pr sc (d + 3)) (rtE (some (.int r)) (mk X) σ2) (146, [], [.int y0], mk X, σ) := by
  unfold f_X10_astray_146 at h
  refine Ex.blk 1000 rfl ?_
  cases h
  exact And.intro trivial ⟨rfl, rfl, rfl⟩
theorem lk_X10_astray_122 {pr : Ct} {sc : Nat × (Nat → Int32)} {X : En} (d : Nat) {r : Int32} {σ2 : St} (k40 : Int32 → Int32 → Int32 → Int64 → Int32 → Int32 → Int32 → St → Option (Int32 × St)) (k52 : Int32 → Int32 → Int32 → Int64 → Int32 → Int32 → Int32 → Int32 → St → Option (Int32 × St)) (hk40 : ∀ (x1 : Int32) (x2 : Int32) (x3 : Int32) (x4 : Int64) (x6 : Int32) (x7 : Int32) (x8 : Int32) (σ : St), k40 x1 x2 x3 x4 x6 x7 x8 σ = some (r, σ2) → Ex mr_X10_astray sc (Cl MT pr sc (d + 3)) (rtE (some (.int r)) (mk X) σ2) (40, [(0, .ref 38), (1, .int x1), (2, .int x2), (3, .int x3), (4, .long x4), (6, .int x6), (7, .int x7), (8, .int x8)], [], mk X, σ)) (hk52 : ∀ (x1 : Int32) (x2 : Int32) (x3 : Int32) (x4 : Int64) (x6 : Int32) (x7 : Int32) (x8 : Int32) (x9 : Int32) (σ : St), k52 x1 x2 x3 x4 x6 x7 x8 x9 σ = some (r, σ2) → Ex mr_X10_astray sc (Cl MT pr sc (d + 3)) (rtE (some (.int r)) (mk X) σ2) (52, [(0, .ref 38), (1, .int x1), (2, .int x2), (3, .int x3), (4, .long x4), (6, .int x6), (7, .int x7), (8, .int x8), (9, .int x9)], [], mk X, σ)) (x1 : Int32) (x2 : Int32) (x3 : Int32) (x4 : Int64) (x6 : Int32) (x7 : Int32) (x8 : Int32) (x9 : Int32) (σ : St) (h : f_X10_astray_122 k40 k52 x1 x2 x3 x4 x6 x7 x8 x9 σ = some (r, σ2)) : Ex mr_X10_astray sc (Cl MT pr sc (d + 3)) (rtE (some (.int r)) (mk X) σ2) (122, [(0, .ref 38), (1, .int x1), (2, .int x2), (3, .int x3), (4, .long x4), (6, .int x6), (7, .int x7), (8, .int x8), (9, .int x9)], [], mk X, σ) := by
  unfold f_X10_astray_122 at h
  refine Ex.blk 1000 rfl ?_
  show Ex mr_X10_astray sc (Cl MT pr sc (d + 3)) (rtE (some (.int r)) (mk X) σ2) (52, [(9, .int (x9 + 1)), (0, .ref 38), (1, .int x1), (2, .int x2), (3, .int x3), (4, .long x4), (6, .int x6), (7, .int x7), (8, .int x8)], [], mk X, σ)
  refine Ex.pick (lv' := _) [1, 2, 3, 4, 5, 6, 7, 8, 0] rfl ?_
  exact hk52 _ _ _ _ _ _ _ _ _ h
theorem lk_X10_astray_117 {pr : Ct} {sc : Nat × (Nat → Int32)} {X : En} (d : Nat) {r : Int32} {σ2 : St} (k40 : Int32 → Int32 → Int32 → Int64 → Int32 → Int32 → Int32 → St → Option (Int32 × St)) (k52 : Int32 → Int32 → Int32 → Int64 → Int32 → Int32 → Int32 → Int32 → St → Option (Int32 × St)) (hk40 : ∀ (x1 : Int32) (x2 : Int32) (x3 : Int32) (x4 : Int64) (x6 : Int32) (x7 : Int32) (x8 : Int32) (σ : St), k40 x1 x2 x3 x4 x6 x7 x8 σ = some (r, σ2) → Ex mr_X10_astray sc (Cl MT pr sc (d + 3)) (rtE (some (.int r)) (mk X) σ2) (40, [(0, .ref 38), (1, .int x1), (2, .int x2), (3, .int x3), (4, .long x4), (6, .int x6), (7, .int x7), (8, .int x8)], [], mk X, σ)) (hk52 : ∀ (x1 : Int32) (x2 : Int32) (x3 : Int32) (x4 : Int64) (x6 : Int32) (x7 : Int32) (x8 : Int32) (x9 : Int32) (σ : St), k52 x1 x2 x3 x4 x6 x7 x8 x9 σ = some (r, σ2) → Ex mr_X10_astray sc (Cl MT pr sc (d + 3)) (rtE (some (.int r)) (mk X) σ2) (52, [(0, .ref 38), (1, .int x1), (2, .int x2), (3, .int x3), (4, .long x4), (6, .int x6), (7, .int x7), (8, .int x8), (9, .int x9)], [], mk X, σ)) (x1 : Int32) (x2 : Int32) (x3 : Int32) (x4 : Int64) (x6 : Int32) (x8 : Int32) (x9 : Int32) (y0 : Int32) (σ : St) (h : f_X10_astray_117 k40 k52 x1 x2 x3 x4 x6 x8 x9 y0 σ = some (r, σ2)) : Ex mr_X10_astray sc (Cl MT pr sc (d + 3)) (rtE (some (.int r)) (mk X) σ2) (117, [(0, .ref 38), (1, .int x1), (2, .int x2), (3, .int x3), (4, .long x4), (6, .int x6), (8, .int x8), (9, .int x9)], [.int y0], mk X, σ) := by
  unfold f_X10_astray_117 at h
  refine Ex.blk 1000 rfl ?_
  show Ex mr_X10_astray sc (Cl MT pr sc (d + 3)) (rtE (some (.int r)) (mk X) σ2) (122, [(6, .int (x6 + 1)), (7, .int y0), (0, .ref 38), (1, .int x1), (2, .int x2), (3, .int x3), (4, .long x4), (8, .int x8), (9, .int x9)], [], mk X, σ)
  refine Ex.pick (lv' := _) [2, 3, 4, 5, 6, 0, 1, 7, 8] rfl ?_
  exact lk_X10_astray_122 d _ _ hk40 hk52 _ _ _ _ _ _ _ _ _ h
theorem lk_X10_astray_52 {pr : Ct} {sc : Nat × (Nat → Int32)} {X : En} (d : Nat) {r : Int32} {σ2 : St} (k40 : Int32 → Int32 → Int32 → Int64 → Int32 → Int32 → Int32 → St → Option (Int32 × St)) (hk40 : ∀ (x1 : Int32) (x2 : Int32) (x3 : Int32) (x4 : Int64) (x6 : Int32) (x7 : Int32) (x8 : Int32) (σ : St), k40 x1 x2 x3 x4 x6 x7 x8 σ = some (r, σ2) → Ex mr_X10_astray sc (Cl MT pr sc (d + 3)) (rtE (some (.int r)) (mk X) σ2) (40, [(0, .ref 38), (1, .int x1), (2, .int x2), (3, .int x3), (4, .long x4), (6, .int x6), (7, .int x7), (8, .int x8)], [], mk X, σ)) : ∀ (n : Nat) (x1 : Int32) (x2 : Int32) (x3 : Int32) (x4 : Int64) (x6 : Int32) (x7 : Int32) (x8 : Int32) (x9 : Int32) (σ : St), f_X10_astray_52 k40 n x1 x2 x3 x4 x6 x7 x8 x9 σ = some (r, σ2) → Ex mr_X10_astray sc (Cl MT pr sc (d + 3)) (rtE (some (.int r)) (mk X) σ2) (52, [(0, .ref 38), (1, .int x1), (2, .int x2), (3, .int x3), (4, .long x4), (6, .int x6), (7, .int x7), (8, .int x8), (9, .int x9)], [], mk X, σ) := by
  intro n
  induction n with
  | zero =>
    intro x1 x2 x3 x4 x6 x7 x8 x9 σ h
    cases h
  | succ n ih =>
    intro x1 x2 x3 x4 x6 x7 x8 x9 σ h
    simp only [f_X10_astray_52] at h
    refine Ex.blk 1000 rfl ?_
    rcases ite_sp h with ⟨c1, h⟩ | ⟨c1, h⟩
    · refine And.intro (fun _ => ?_) (fun hn => absurd c1 hn)
      show Ex mr_X10_astray sc (Cl MT pr sc (d + 3)) (rtE (some (.int r)) (mk X) σ2) (128, [(0, .ref 38), (1, .int x1), (2, .int x2), (3, .int x3), (4, .long x4), (6, .int x6), (7, .int x7), (8, .int x8), (9, .int x9)], [], mk X, σ)
      refine Ex.blk 1000 rfl ?_
      show Ex mr_X10_astray sc (Cl MT pr sc (d + 3)) (rtE (some (.int r)) (mk X) σ2) (40, [(8, .int (x8 + 1)), (0, .ref 38), (1, .int x1), (2, .int x2), (3, .int x3), (4, .long x4), (6, .int x6), (7, .int x7), (9, .int x9)], [], mk X, σ)
      refine Ex.pick (lv' := _) [1, 2, 3, 4, 5, 6, 7, 0] rfl ?_
      exact hk40 _ _ _ _ _ _ _ _ h
    · refine And.intro (fun hp => absurd hp c1) (fun _ => ?_)
      show Ex mr_X10_astray sc (Cl MT pr sc (d + 3)) (rtE (some (.int r)) (mk X) σ2) (59, [(0, .ref 38), (1, .int x1), (2, .int x2), (3, .int x3), (4, .long x4), (6, .int x6), (7, .int x7), (8, .int x8), (9, .int x9)], [], mk X, σ)
      refine Ex.blk 4 rfl ?_
      obtain ⟨p3, hp3, h⟩ := bind_sp h
      refine Exists.intro (some (.int p3.1)) (Exists.intro (mk X) (Exists.intro p3.2 (And.intro (cl_X10_seen (d + 1) hp3) ?_)))
      show Ex mr_X10_astray sc (Cl MT pr sc (d + 3)) (rtE (some (.int r)) (mk X) σ2) (67, [(0, .ref 38), (1, .int x1), (2, .int x2), (3, .int x3), (4, .long x4), (6, .int x6), (7, .int x7), (8, .int x8), (9, .int x9)], [.int p3.1, .int x9], mk X, p3.2)
      refine Ex.blk 1000 rfl ?_
      rcases ite_sp h with ⟨c2, h⟩ | ⟨c2, h⟩
      · refine And.intro (fun _ => ?_) (fun hn => absurd c2 hn)
        show Ex mr_X10_astray sc (Cl MT pr sc (d + 3)) (rtE (some (.int r)) (mk X) σ2) (122, [(0, .ref 38), (1, .int x1), (2, .int x2), (3, .int x3), (4, .long x4), (6, .int x6), (7, .int x7), (8, .int x8), (9, .int x9)], [], mk X, p3.2)
        exact lk_X10_astray_122 d _ _ hk40 ih _ _ _ _ _ _ _ _ _ h
      · refine And.intro (fun hp => absurd hp c2) (fun _ => ?_)
        show Ex mr_X10_astray sc (Cl MT pr sc (d + 3)) (rtE (some (.int r)) (mk X) σ2) (70, [(0, .ref 38), (1, .int x1), (2, .int x2), (3, .int x3), (4, .long x4), (6, .int x6), (7, .int x7), (8, .int x8), (9, .int x9)], [], mk X, p3.2)
        refine Ex.blk 5 rfl ?_
        obtain ⟨p4, hp4, h⟩ := bind_sp h
        refine Exists.intro (some (.int p4.1)) (Exists.intro (mk X) (Exists.intro p4.2 (And.intro (cl_X10_seen (d + 1) hp4) ?_)))
        show Ex mr_X10_astray sc (Cl MT pr sc (d + 3)) (rtE (some (.int r)) (mk X) σ2) (80, [(0, .ref 38), (1, .int x1), (2, .int x2), (3, .int x3), (4, .long x4), (6, .int x6), (7, .int x7), (8, .int x8), (9, .int x9)], [.int p4.1, .int x9, .long x4], mk X, p4.2)
        refine Ex.blk 4 rfl ?_
        obtain ⟨p5, hp5, h⟩ := bind_sp h
        refine Exists.intro (some (.long p5.1)) (Exists.intro (mk X) (Exists.intro p5.2 (And.intro (cl_X10_ten (d + 2) hp5) ?_)))
        show Ex mr_X10_astray sc (Cl MT pr sc (d + 3)) (rtE (some (.int r)) (mk X) σ2) (87, [(0, .ref 38), (1, .int x1), (2, .int x2), (3, .int x3), (4, .long x4), (6, .int x6), (7, .int x7), (8, .int x8), (9, .int x9)], [.long p5.1, .long (x9 - p4.1).toInt64, .long x4], mk X, p5.2)
        refine Ex.blk 5 rfl ?_
        obtain ⟨g3, h⟩ := gd_some h
        refine And.intro (nzJ_ok g3) ?_
        show Ex mr_X10_astray sc (Cl MT pr sc (d + 3)) (rtE (some (.int r)) (mk X) σ2) (92, [(0, .ref 38), (1, .int x1), (2, .int x2), (3, .int x3), (4, .long x4), (6, .int x6), (7, .int x7), (8, .int x8), (9, .int x9)], [.long (rmJ (x4 + (((x9 - p4.1).toInt64) * p5.1)) x1.toInt64)], mk X, p5.2)
        refine Ex.blk 1000 rfl ?_
        rcases ite_sp h with ⟨c4, h⟩ | ⟨c4, h⟩
        · refine And.intro (fun hp => absurd c4 hp) (fun _ => ?_)
          show Ex mr_X10_astray sc (Cl MT pr sc (d + 3)) (rtE (some (.int r)) (mk X) σ2) (98, [(0, .ref 38), (1, .int x1), (2, .int x2), (3, .int x3), (4, .long x4), (6, .int x6), (7, .int x7), (8, .int x8), (9, .int x9)], [], mk X, p5.2)
          refine Ex.blk 1000 rfl ?_
          rcases ite_sp h with ⟨c5, h⟩ | ⟨c5, h⟩
          · refine And.intro (fun hp => absurd c5 hp) (fun _ => ?_)
            show Ex mr_X10_astray sc (Cl MT pr sc (d + 3)) (rtE (some (.int r)) (mk X) σ2) (104, [(0, .ref 38), (1, .int x1), (2, .int x2), (3, .int x3), (4, .long x4), (6, .int x6), (7, .int x7), (8, .int x8), (9, .int x9)], [], mk X, p5.2)
            refine Ex.blk 5 rfl ?_
            show Ex mr_X10_astray sc (Cl MT pr sc (d + 3)) (rtE (some (.int r)) (mk X) σ2) (112, [(0, .ref 38), (1, .int x1), (2, .int x2), (3, .int x3), (4, .long x4), (6, .int x6), (7, .int x7), (8, .int x8), (9, .int x9)], [.int ((10 * x8) + x9)], mk X, p5.2)
            refine Ex.blk 1000 rfl ?_
            show Ex mr_X10_astray sc (Cl MT pr sc (d + 3)) (rtE (some (.int r)) (mk X) σ2) (117, [(0, .ref 38), (1, .int x1), (2, .int x2), (3, .int x3), (4, .long x4), (6, .int x6), (7, .int x7), (8, .int x8), (9, .int x9)], [.int ((10 * x8) + x9)], mk X, p5.2)
            refine Ex.pick (lv' := _) [0, 1, 2, 3, 4, 5, 7, 8] rfl ?_
            exact lk_X10_astray_117 d _ _ hk40 ih _ _ _ _ _ _ _ _ _ h
          · refine And.intro (fun _ => ?_) (fun hn => absurd c5 hn)
            show Ex mr_X10_astray sc (Cl MT pr sc (d + 3)) (rtE (some (.int r)) (mk X) σ2) (115, [(0, .ref 38), (1, .int x1), (2, .int x2), (3, .int x3), (4, .long x4), (6, .int x6), (7, .int x7), (8, .int x8), (9, .int x9)], [], mk X, p5.2)
            refine Ex.blk 1000 rfl ?_
            show Ex mr_X10_astray sc (Cl MT pr sc (d + 3)) (rtE (some (.int r)) (mk X) σ2) (117, [(0, .ref 38), (1, .int x1), (2, .int x2), (3, .int x3), (4, .long x4), (6, .int x6), (7, .int x7), (8, .int x8), (9, .int x9)], [.int x7], mk X, p5.2)
            refine Ex.pick (lv' := _) [0, 1, 2, 3, 4, 5, 7, 8] rfl ?_
            exact lk_X10_astray_117 d _ _ hk40 ih _ _ _ _ _ _ _ _ _ h
        · refine And.intro (fun _ => ?_) (fun hn => absurd c4 hn)
          show Ex mr_X10_astray sc (Cl MT pr sc (d + 3)) (rtE (some (.int r)) (mk X) σ2) (122, [(0, .ref 38), (1, .int x1), (2, .int x2), (3, .int x3), (4, .long x4), (6, .int x6), (7, .int x7), (8, .int x8), (9, .int x9)], [], mk X, p5.2)
          exact lk_X10_astray_122 d _ _ hk40 ih _ _ _ _ _ _ _ _ _ h
theorem lk_X10_astray_40 {pr : Ct} {sc : Nat × (Nat → Int32)} {X : En} (d : Nat) {r : Int32} {σ2 : St} : ∀ (n : Nat) (x1 : Int32) (x2 : Int32) (x3 : Int32) (x4 : Int64) (x6 : Int32) (x7 : Int32) (x8 : Int32) (σ : St), f_X10_astray_40 n x1 x2 x3 x4 x6 x7 x8 σ = some (r, σ2) → Ex mr_X10_astray sc (Cl MT pr sc (d + 3)) (rtE (some (.int r)) (mk X) σ2) (40, [(0, .ref 38), (1, .int x1), (2, .int x2), (3, .int x3), (4, .long x4), (6, .int x6), (7, .int x7), (8, .int x8)], [], mk X, σ) := by
  intro n
  induction n with
  | zero =>
    intro x1 x2 x3 x4 x6 x7 x8 σ h
    cases h
  | succ n ih =>
    intro x1 x2 x3 x4 x6 x7 x8 σ h
    simp only [f_X10_astray_40] at h
    refine Ex.blk 1000 rfl ?_
    rcases ite_sp h with ⟨c1, h⟩ | ⟨c1, h⟩
    · refine And.intro (fun _ => ?_) (fun hn => absurd c1 hn)
      show Ex mr_X10_astray sc (Cl MT pr sc (d + 3)) (rtE (some (.int r)) (mk X) σ2) (134, [(0, .ref 38), (1, .int x1), (2, .int x2), (3, .int x3), (4, .long x4), (6, .int x6), (7, .int x7), (8, .int x8)], [], mk X, σ)
      refine Ex.blk 1000 rfl ?_
      rcases ite_sp h with ⟨c2, h⟩ | ⟨c2, h⟩
      · refine And.intro (fun hp => absurd c2 hp) (fun _ => ?_)
        show Ex mr_X10_astray sc (Cl MT pr sc (d + 3)) (rtE (some (.int r)) (mk X) σ2) (139, [(0, .ref 38), (1, .int x1), (2, .int x2), (3, .int x3), (4, .long x4), (6, .int x6), (7, .int x7), (8, .int x8)], [], mk X, σ)
        refine Ex.blk 1000 rfl ?_
        show Ex mr_X10_astray sc (Cl MT pr sc (d + 3)) (rtE (some (.int r)) (mk X) σ2) (146, [(0, .ref 38), (1, .int x1), (2, .int x2), (3, .int x3), (4, .long x4), (6, .int x6), (7, .int x7), (8, .int x8)], [.int x6], mk X, σ)
        refine Ex.pick (lv' := _) [] rfl ?_
        exact lk_X10_astray_146 d _ _ h
      · refine And.intro (fun _ => ?_) (fun hn => absurd c2 hn)
        show Ex mr_X10_astray sc (Cl MT pr sc (d + 3)) (rtE (some (.int r)) (mk X) σ2) (144, [(0, .ref 38), (1, .int x1), (2, .int x2), (3, .int x3), (4, .long x4), (6, .int x6), (7, .int x7), (8, .int x8)], [], mk X, σ)
        refine Ex.blk 1000 rfl ?_
        show Ex mr_X10_astray sc (Cl MT pr sc (d + 3)) (rtE (some (.int r)) (mk X) σ2) (146, [(0, .ref 38), (1, .int x1), (2, .int x2), (3, .int x3), (4, .long x4), (6, .int x6), (7, .int x7), (8, .int x8)], [.int x7], mk X, σ)
        refine Ex.pick (lv' := _) [] rfl ?_
        exact lk_X10_astray_146 d _ _ h
    · refine And.intro (fun hp => absurd hp c1) (fun _ => ?_)
      show Ex mr_X10_astray sc (Cl MT pr sc (d + 3)) (rtE (some (.int r)) (mk X) σ2) (49, [(0, .ref 38), (1, .int x1), (2, .int x2), (3, .int x3), (4, .long x4), (6, .int x6), (7, .int x7), (8, .int x8)], [], mk X, σ)
      refine Ex.blk 1000 rfl ?_
      show Ex mr_X10_astray sc (Cl MT pr sc (d + 3)) (rtE (some (.int r)) (mk X) σ2) (52, [(9, .int 0), (0, .ref 38), (1, .int x1), (2, .int x2), (3, .int x3), (4, .long x4), (6, .int x6), (7, .int x7), (8, .int x8)], [], mk X, σ)
      refine Ex.pick (lv' := _) [1, 2, 3, 4, 5, 6, 7, 8, 0] rfl ?_
      exact lk_X10_astray_52 d _ ih FU _ _ _ _ _ _ _ _ _ h
theorem cl_X10_astray {pr : Ct} {sc : Nat × (Nat → Int32)} {X : En} (d : Nat) {r : Int32} {σ2 : St} {x1 : Int32} {x2 : Int32} {x3 : Int32} {σ : St} (h : f_X10_astray x1 x2 x3 σ = some (r, σ2)) : Cl MT pr sc (d + 3 + 1) 203 [.ref 38, .int x1, .int x2, .int x3] (mk X) σ (some (.int r)) (mk X) σ2 := by
  refine cl_of mr_X10_astray rfl rfl ?_
  unfold f_X10_astray at h
  refine Ex.blk 3 rfl ?_
  obtain ⟨p1, hp1, h⟩ := bind_sp h
  refine Exists.intro (some (.int p1.1)) (Exists.intro (mk X) (Exists.intro p1.2 (And.intro (cl_X10_isRest (d + 1) hp1) ?_)))
  show Ex mr_X10_astray sc (Cl MT pr sc (d + 3)) (rtE (some (.int r)) (mk X) σ2) (5, [(0, .ref 38), (1, .int x1), (2, .int x2), (3, .int x3)], [.int p1.1], mk X, p1.2)
  refine Ex.blk 1000 rfl ?_
  rcases ite_sp h with ⟨c1, h⟩ | ⟨c1, h⟩
  · refine And.intro (fun _ => ?_) (fun hn => absurd c1 hn)
    show Ex mr_X10_astray sc (Cl MT pr sc (d + 3)) (rtE (some (.int r)) (mk X) σ2) (13, [(0, .ref 38), (1, .int x1), (2, .int x2), (3, .int x3)], [], mk X, p1.2)
    refine Ex.pick (lv' := _) [] rfl ?_
    exact lk_X10_astray_13 d _ h
  · refine And.intro (fun hp => absurd hp c1) (fun _ => ?_)
    show Ex mr_X10_astray sc (Cl MT pr sc (d + 3)) (rtE (some (.int r)) (mk X) σ2) (8, [(0, .ref 38), (1, .int x1), (2, .int x2), (3, .int x3)], [], mk X, p1.2)
    refine Ex.blk 1000 rfl ?_
    rcases ite_sp h with ⟨c2, h⟩ | ⟨c2, h⟩
    · refine And.intro (fun _ => ?_) (fun hn => absurd c2 hn)
      show Ex mr_X10_astray sc (Cl MT pr sc (d + 3)) (rtE (some (.int r)) (mk X) σ2) (15, [(0, .ref 38), (1, .int x1), (2, .int x2), (3, .int x3)], [], mk X, p1.2)
      refine Ex.blk 1000 rfl ?_
      rcases ite_sp h with ⟨c3, h⟩ | ⟨c3, h⟩
      · refine And.intro (fun _ => ?_) (fun hn => absurd c3 hn)
        show Ex mr_X10_astray sc (Cl MT pr sc (d + 3)) (rtE (some (.int r)) (mk X) σ2) (25, [(0, .ref 38), (1, .int x1), (2, .int x2), (3, .int x3)], [], mk X, p1.2)
        refine Ex.blk 2 rfl ?_
        obtain ⟨p2, hp2, h⟩ := bind_sp h
        refine Exists.intro (some (.long p2.1)) (Exists.intro (mk X) (Exists.intro p2.2 (And.intro (cl_X10_seenNumber (d + 0) hp2) ?_)))
        show Ex mr_X10_astray sc (Cl MT pr sc (d + 3)) (rtE (some (.int r)) (mk X) σ2) (29, [(0, .ref 38), (1, .int x1), (2, .int x2), (3, .int x3)], [.long p2.1], mk X, p2.2)
        refine Ex.blk 5 rfl ?_
        show Ex mr_X10_astray sc (Cl MT pr sc (d + 3)) (rtE (some (.int r)) (mk X) σ2) (37, [(7, .int (-1)), (6, .int 0), (4, .long p2.1), (0, .ref 38), (1, .int x1), (2, .int x2), (3, .int x3)], [], mk X, p2.2)
        refine Ex.blk 1000 rfl ?_
        show Ex mr_X10_astray sc (Cl MT pr sc (d + 3)) (rtE (some (.int r)) (mk X) σ2) (40, [(8, .int 0), (7, .int (-1)), (6, .int 0), (4, .long p2.1), (0, .ref 38), (1, .int x1), (2, .int x2), (3, .int x3)], [], mk X, p2.2)
        refine Ex.pick (lv' := _) [4, 5, 6, 7, 3, 2, 1, 0] rfl ?_
        exact lk_X10_astray_40 d FU _ _ _ _ _ _ _ _ h
      · refine And.intro (fun hp => absurd hp c3) (fun _ => ?_)
        show Ex mr_X10_astray sc (Cl MT pr sc (d + 3)) (rtE (some (.int r)) (mk X) σ2) (22, [(0, .ref 38), (1, .int x1), (2, .int x2), (3, .int x3)], [], mk X, p1.2)
        refine Ex.blk 1000 rfl ?_
        cases h
        exact And.intro trivial ⟨rfl, rfl, rfl⟩
    · refine And.intro (fun hp => absurd hp c2) (fun _ => ?_)
      show Ex mr_X10_astray sc (Cl MT pr sc (d + 3)) (rtE (some (.int r)) (mk X) σ2) (13, [(0, .ref 38), (1, .int x1), (2, .int x2), (3, .int x3)], [], mk X, p1.2)
      refine Ex.pick (lv' := _) [] rfl ?_
      exact lk_X10_astray_13 d _ h
theorem lk_X10_harvest_21 {pr : Ct} {sc : Nat × (Nat → Int32)} {X : En} (d : Nat) {r : Int32} {σ2 : St} (σ : St) (h : f_X10_harvest_21 σ = some (r, σ2)) : Ex mr_X10_harvest sc (Cl MT pr sc (d + 1)) (rtE (some (.int r)) (mk X) σ2) (21, [], [], mk X, σ) := by
  unfold f_X10_harvest_21 at h
  refine Ex.blk 1000 rfl ?_
  cases h
  exact And.intro trivial ⟨rfl, rfl, rfl⟩
theorem lk_X10_harvest_43 {pr : Ct} {sc : Nat × (Nat → Int32)} {X : En} (d : Nat) {r : Int32} {σ2 : St} (σ : St) (h : f_X10_harvest_43 σ = some (r, σ2)) : Ex mr_X10_harvest sc (Cl MT pr sc (d + 1)) (rtE (some (.int r)) (mk X) σ2) (43, [(0, .ref 38)], [], mk X, σ) := by
  unfold f_X10_harvest_43 at h
  refine Ex.blk 1000 rfl ?_
  cases h
  exact And.intro trivial ⟨rfl, rfl, rfl⟩
theorem cl_X10_harvest {pr : Ct} {sc : Nat × (Nat → Int32)} {X : En} (d : Nat) {r : Int32} {σ2 : St} {x1 : Int32} {σ : St} (h : f_X10_harvest x1 σ = some (r, σ2)) : Cl MT pr sc (d + 1 + 1) 204 [.ref 38, .int x1] (mk X) σ (some (.int r)) (mk X) σ2 := by
  refine cl_of mr_X10_harvest rfl rfl ?_
  unfold f_X10_harvest at h
  refine Ex.blk 5 rfl ?_
  obtain ⟨p1, hp1, h⟩ := bind_sp h
  refine Exists.intro (some (.int p1.1)) (Exists.intro (mk X) (Exists.intro p1.2 (And.intro (cl_X10_in (d + 0) hp1) ?_)))
  show Ex mr_X10_harvest sc (Cl MT pr sc (d + 1)) (rtE (some (.int r)) (mk X) σ2) (9, [(0, .ref 38), (1, .int x1)], [.int p1.1], mk X, p1.2)
  refine Ex.blk 1000 rfl ?_
  rcases ite_sp h with ⟨c1, h⟩ | ⟨c1, h⟩
  · refine And.intro (fun _ => ?_) (fun hn => absurd c1 hn)
    show Ex mr_X10_harvest sc (Cl MT pr sc (d + 1)) (rtE (some (.int r)) (mk X) σ2) (21, [(0, .ref 38), (1, .int x1)], [], mk X, p1.2)
    refine Ex.pick (lv' := _) [] rfl ?_
    exact lk_X10_harvest_21 d _ h
  · refine And.intro (fun hp => absurd hp c1) (fun _ => ?_)
    show Ex mr_X10_harvest sc (Cl MT pr sc (d + 1)) (rtE (some (.int r)) (mk X) σ2) (12, [(0, .ref 38), (1, .int x1)], [], mk X, p1.2)
    refine Ex.blk 1000 rfl ?_
    rcases ite_sp h with ⟨c2, h⟩ | ⟨c2, h⟩
    · refine And.intro (fun hp => absurd c2 hp) (fun _ => ?_)
      show Ex mr_X10_harvest sc (Cl MT pr sc (d + 1)) (rtE (some (.int r)) (mk X) σ2) (21, [(0, .ref 38), (1, .int x1)], [], mk X, p1.2)
      refine Ex.pick (lv' := _) [] rfl ?_
      exact lk_X10_harvest_21 d _ h
    · refine And.intro (fun _ => ?_) (fun hn => absurd c2 hn)
      show Ex mr_X10_harvest sc (Cl MT pr sc (d + 1)) (rtE (some (.int r)) (mk X) σ2) (23, [(0, .ref 38), (1, .int x1)], [], mk X, p1.2)
      refine Ex.blk 5 rfl ?_
      show Ex mr_X10_harvest sc (Cl MT pr sc (d + 1)) (rtE (some (.int r)) (mk X) σ2) (32, [(0, .ref 38), (1, .int x1)], [.int x1, .int (gI p1.2 38 33), .ref 54], mk X, p1.2)
      refine Ex.blk 1 rfl ?_
      obtain ⟨g3, h⟩ := gd_some h
      refine And.intro (inb_ok g3) ?_
      show Ex mr_X10_harvest sc (Cl MT pr sc (d + 1)) (rtE (some (.int r)) (mk X) σ2) (33, [(0, .ref 38), (1, .int x1)], [], mk X, (sI p1.2 54 (gI p1.2 38 33).toNatClampNeg x1))
      refine Ex.blk 5 rfl ?_
      show Ex mr_X10_harvest sc (Cl MT pr sc (d + 1)) (rtE (some (.int r)) (mk X) σ2) (40, [(0, .ref 38), (1, .int x1)], [.int ((gI (sI p1.2 54 (gI p1.2 38 33).toNatClampNeg x1) 38 33) + 1), .ref 38], mk X, (sI p1.2 54 (gI p1.2 38 33).toNatClampNeg x1))
      refine Ex.blk 1 rfl ?_
      show Ex mr_X10_harvest sc (Cl MT pr sc (d + 1)) (rtE (some (.int r)) (mk X) σ2) (43, [(0, .ref 38), (1, .int x1)], [], mk X, (sI (sI p1.2 54 (gI p1.2 38 33).toNatClampNeg x1) 38 33 ((gI (sI p1.2 54 (gI p1.2 38 33).toNatClampNeg x1) 38 33) + 1)))
      refine Ex.pick (lv' := _) [0] rfl ?_
      exact lk_X10_harvest_43 d _ h
theorem lk_X10_walksOf_136 {pr : Ct} {sc : Nat × (Nat → Int32)} {X : En} (d : Nat) {r : Int32} {σ2 : St} (k15 : Int64 → Int32 → Int32 → Int64 → Int32 → St → Option (Int32 × St)) (hk15 : ∀ (x2 : Int64) (x4 : Int32) (x5 : Int32) (x6 : Int64) (x8 : Int32) (σ : St), k15 x2 x4 x5 x6 x8 σ = some (r, σ2) → Ex mr_X10_walksOf sc (Cl MT pr sc (d + 1)) (rtE (some (.int r)) (mk X) σ2) (15, [(2, .long x2), (4, .int x4), (5, .int x5), (6, .long x6), (8, .int x8)], [], mk X, σ)) (x2 : Int64) (x4 : Int32) (x5 : Int32) (x6 : Int64) (x8 : Int32) (σ : St) (h : f_X10_walksOf_136 k15 x2 x4 x5 x6 x8 σ = some (r, σ2)) : Ex mr_X10_walksOf sc (Cl MT pr sc (d + 1)) (rtE (some (.int r)) (mk X) σ2) (136, [(2, .long x2), (4, .int x4), (5, .int x5), (6, .long x6), (8, .int x8)], [], mk X, σ) := by
  unfold f_X10_walksOf_136 at h
  refine Ex.blk 1000 rfl ?_
  show Ex mr_X10_walksOf sc (Cl MT pr sc (d + 1)) (rtE (some (.int r)) (mk X) σ2) (15, [(8, .int (x8 + 1)), (2, .long x2), (4, .int x4), (5, .int x5), (6, .long x6)], [], mk X, σ)
  refine Ex.pick (lv' := _) [1, 2, 3, 4, 0] rfl ?_
  exact hk15 _ _ _ _ _ _ h
theorem lk_X10_walksOf_128 {pr : Ct} {sc : Nat × (Nat → Int32)} {X : En} (d : Nat) {r : Int32} {σ2 : St} (k15 : Int64 → Int32 → Int32 → Int64 → Int32 → St → Option (Int32 × St)) (k34 : Int64 → Int32 → Int32 → Int64 → Int32 → Int32 → Int32 → St → Option (Int32 × St)) (hk15 : ∀ (x2 : Int64) (x4 : Int32) (x5 : Int32) (x6 : Int64) (x8 : Int32) (σ : St), k15 x2 x4 x5 x6 x8 σ = some (r, σ2) → Ex mr_X10_walksOf sc (Cl MT pr sc (d + 1)) (rtE (some (.int r)) (mk X) σ2) (15, [(2, .long x2), (4, .int x4), (5, .int x5), (6, .long x6), (8, .int x8)], [], mk X, σ)) (hk34 : ∀ (x2 : Int64) (x4 : Int32) (x5 : Int32) (x6 : Int64) (x8 : Int32) (x9 : Int32) (x10 : Int32) (σ : St), k34 x2 x4 x5 x6 x8 x9 x10 σ = some (r, σ2) → Ex mr_X10_walksOf sc (Cl MT pr sc (d + 1)) (rtE (some (.int r)) (mk X) σ2) (34, [(2, .long x2), (4, .int x4), (5, .int x5), (6, .long x6), (8, .int x8), (9, .int x9), (10, .int x10)], [], mk X, σ)) (x2 : Int64) (x4 : Int32) (x5 : Int32) (x6 : Int64) (x8 : Int32) (x10 : Int32) (y0 : Int32) (σ : St) (h : f_X10_walksOf_128 k15 k34 x2 x4 x5 x6 x8 x10 y0 σ = some (r, σ2)) : Ex mr_X10_walksOf sc (Cl MT pr sc (d + 1)) (rtE (some (.int r)) (mk X) σ2) (128, [(2, .long x2), (4, .int x4), (5, .int x5), (6, .long x6), (8, .int x8), (10, .int x10)], [.int y0], mk X, σ) := by
  unfold f_X10_walksOf_128 at h
  refine Ex.blk 1000 rfl ?_
  show Ex mr_X10_walksOf sc (Cl MT pr sc (d + 1)) (rtE (some (.int r)) (mk X) σ2) (34, [(10, .int (x10 + 1)), (9, .int y0), (2, .long x2), (4, .int x4), (5, .int x5), (6, .long x6), (8, .int x8)], [], mk X, σ)
  refine Ex.pick (lv' := _) [2, 3, 4, 5, 6, 1, 0] rfl ?_
  exact hk34 _ _ _ _ _ _ _ _ h
theorem lk_X10_walksOf_113 {pr : Ct} {sc : Nat × (Nat → Int32)} {X : En} (d : Nat) {r : Int32} {σ2 : St} (k15 : Int64 → Int32 → Int32 → Int64 → Int32 → St → Option (Int32 × St)) (k34 : Int64 → Int32 → Int32 → Int64 → Int32 → Int32 → Int32 → St → Option (Int32 × St)) (hk15 : ∀ (x2 : Int64) (x4 : Int32) (x5 : Int32) (x6 : Int64) (x8 : Int32) (σ : St), k15 x2 x4 x5 x6 x8 σ = some (r, σ2) → Ex mr_X10_walksOf sc (Cl MT pr sc (d + 1)) (rtE (some (.int r)) (mk X) σ2) (15, [(2, .long x2), (4, .int x4), (5, .int x5), (6, .long x6), (8, .int x8)], [], mk X, σ)) (hk34 : ∀ (x2 : Int64) (x4 : Int32) (x5 : Int32) (x6 : Int64) (x8 : Int32) (x9 : Int32) (x10 : Int32) (σ : St), k34 x2 x4 x5 x6 x8 x9 x10 σ = some (r, σ2) → Ex mr_X10_walksOf sc (Cl MT pr sc (d + 1)) (rtE (some (.int r)) (mk X) σ2) (34, [(2, .long x2), (4, .int x4), (5, .int x5), (6, .long x6), (8, .int x8), (9, .int x9), (10, .int x10)], [], mk X, σ)) (x2 : Int64) (x4 : Int32) (x5 : Int32) (x6 : Int64) (x8 : Int32) (x9 : Int32) (x10 : Int32) (x11 : Int32) (σ : St) (h : f_X10_walksOf_113 k15 k34 x2 x4 x5 x6 x8 x9 x10 x11 σ = some (r, σ2)) : Ex mr_X10_walksOf sc (Cl MT pr sc (d + 1)) (rtE (some (.int r)) (mk X) σ2) (113, [(2, .long x2), (4, .int x4), (5, .int x5), (6, .long x6), (8, .int x8), (9, .int x9), (10, .int x10), (11, .int x11)], [], mk X, σ) := by
  unfold f_X10_walksOf_113 at h
  refine Ex.blk 1000 rfl ?_
  rcases ite_sp h with ⟨c1, h⟩ | ⟨c1, h⟩
  · refine And.intro (fun _ => ?_) (fun hn => absurd c1 hn)
    show Ex mr_X10_walksOf sc (Cl MT pr sc (d + 1)) (rtE (some (.int r)) (mk X) σ2) (127, [(2, .long x2), (4, .int x4), (5, .int x5), (6, .long x6), (8, .int x8), (9, .int x9), (10, .int x10), (11, .int x11)], [], mk X, σ)
    refine Ex.blk 1000 rfl ?_
    show Ex mr_X10_walksOf sc (Cl MT pr sc (d + 1)) (rtE (some (.int r)) (mk X) σ2) (128, [(2, .long x2), (4, .int x4), (5, .int x5), (6, .long x6), (8, .int x8), (9, .int x9), (10, .int x10), (11, .int x11)], [.int 0], mk X, σ)
    refine Ex.pick (lv' := _) [0, 1, 2, 3, 4, 6] rfl ?_
    exact lk_X10_walksOf_128 d _ _ hk15 hk34 _ _ _ _ _ _ _ _ h
  · refine And.intro (fun hp => absurd hp c1) (fun _ => ?_)
    show Ex mr_X10_walksOf sc (Cl MT pr sc (d + 1)) (rtE (some (.int r)) (mk X) σ2) (123, [(2, .long x2), (4, .int x4), (5, .int x5), (6, .long x6), (8, .int x8), (9, .int x9), (10, .int x10), (11, .int x11)], [], mk X, σ)
    refine Ex.blk 1000 rfl ?_
    show Ex mr_X10_walksOf sc (Cl MT pr sc (d + 1)) (rtE (some (.int r)) (mk X) σ2) (128, [(2, .long x2), (4, .int x4), (5, .int x5), (6, .long x6), (8, .int x8), (9, .int x9), (10, .int x10), (11, .int x11)], [.int 1], mk X, σ)
    refine Ex.pick (lv' := _) [0, 1, 2, 3, 4, 6] rfl ?_
    exact lk_X10_walksOf_128 d _ _ hk15 hk34 _ _ _ _ _ _ _ _ h
theorem lk_X10_walksOf_96 {pr : Ct} {sc : Nat × (Nat → Int32)} {X : En} (d : Nat) {r : Int32} {σ2 : St} (k15 : Int64 → Int32 → Int32 → Int64 → Int32 → St → Option (Int32 × St)) (k34 : Int64 → Int32 → Int32 → Int64 → Int32 → Int32 → Int32 → St → Option (Int32 × St)) (hk15 : ∀ (x2 : Int64) (x4 : Int32) (x5 : Int32) (x6 : Int64) (x8 : Int32) (σ : St), k15 x2 x4 x5 x6 x8 σ = some (r, σ2) → Ex mr_X10_walksOf sc (Cl MT pr sc (d + 1)) (rtE (some (.int r)) (mk X) σ2) (15, [(2, .long x2), (4, .int x4), (5, .int x5), (6, .long x6), (8, .int x8)], [], mk X, σ)) (hk34 : ∀ (x2 : Int64) (x4 : Int32) (x5 : Int32) (x6 : Int64) (x8 : Int32) (x9 : Int32) (x10 : Int32) (σ : St), k34 x2 x4 x5 x6 x8 x9 x10 σ = some (r, σ2) → Ex mr_X10_walksOf sc (Cl MT pr sc (d + 1)) (rtE (some (.int r)) (mk X) σ2) (34, [(2, .long x2), (4, .int x4), (5, .int x5), (6, .long x6), (8, .int x8), (9, .int x9), (10, .int x10)], [], mk X, σ)) (x2 : Int64) (x4 : Int32) (x5 : Int32) (x6 : Int64) (x8 : Int32) (x9 : Int32) (x10 : Int32) (x11 : Int32) (x12 : Int32) (σ : St) (h : f_X10_walksOf_96 k15 k34 x2 x4 x5 x6 x8 x9 x10 x11 x12 σ = some (r, σ2)) : Ex mr_X10_walksOf sc (Cl MT pr sc (d + 1)) (rtE (some (.int r)) (mk X) σ2) (96, [(2, .long x2), (4, .int x4), (5, .int x5), (6, .long x6), (8, .int x8), (9, .int x9), (10, .int x10), (11, .int x11), (12, .int x12)], [], mk X, σ) := by
  unfold f_X10_walksOf_96 at h
  refine Ex.blk 5 rfl ?_
  show Ex mr_X10_walksOf sc (Cl MT pr sc (d + 1)) (rtE (some (.int r)) (mk X) σ2) (104, [(2, .long x2), (4, .int x4), (5, .int x5), (6, .long x6), (8, .int x8), (9, .int x9), (10, .int x10), (11, .int x11), (12, .int x12)], [.long (x12 - x11).toInt64, .long x6], mk X, σ)
  refine Ex.blk 2 rfl ?_
  obtain ⟨p4, hp4, h⟩ := bind_sp h
  refine Exists.intro (some (.long p4.1)) (Exists.intro (mk X) (Exists.intro p4.2 (And.intro (cl_X10_ten (d + 0) hp4) ?_)))
  show Ex mr_X10_walksOf sc (Cl MT pr sc (d + 1)) (rtE (some (.int r)) (mk X) σ2) (109, [(2, .long x2), (4, .int x4), (5, .int x5), (6, .long x6), (8, .int x8), (9, .int x9), (10, .int x10), (11, .int x11), (12, .int x12)], [.long p4.1, .long (x12 - x11).toInt64, .long x6], mk X, p4.2)
  refine Ex.blk 3 rfl ?_
  show Ex mr_X10_walksOf sc (Cl MT pr sc (d + 1)) (rtE (some (.int r)) (mk X) σ2) (113, [(6, .long (x6 + (((x12 - x11).toInt64) * p4.1))), (2, .long x2), (4, .int x4), (5, .int x5), (8, .int x8), (9, .int x9), (10, .int x10), (11, .int x11), (12, .int x12)], [], mk X, p4.2)
  refine Ex.pick (lv' := _) [1, 2, 3, 0, 4, 5, 6, 7] rfl ?_
  exact lk_X10_walksOf_113 d _ _ hk15 hk34 _ _ _ _ _ _ _ _ _ h
theorem lk_X10_walksOf_81 {pr : Ct} {sc : Nat × (Nat → Int32)} {X : En} (d : Nat) {r : Int32} {σ2 : St} (k15 : Int64 → Int32 → Int32 → Int64 → Int32 → St → Option (Int32 × St)) (k34 : Int64 → Int32 → Int32 → Int64 → Int32 → Int32 → Int32 → St → Option (Int32 × St)) (hk15 : ∀ (x2 : Int64) (x4 : Int32) (x5 : Int32) (x6 : Int64) (x8 : Int32) (σ : St), k15 x2 x4 x5 x6 x8 σ = some (r, σ2) → Ex mr_X10_walksOf sc (Cl MT pr sc (d + 1)) (rtE (some (.int r)) (mk X) σ2) (15, [(2, .long x2), (4, .int x4), (5, .int x5), (6, .long x6), (8, .int x8)], [], mk X, σ)) (hk34 : ∀ (x2 : Int64) (x4 : Int32) (x5 : Int32) (x6 : Int64) (x8 : Int32) (x9 : Int32) (x10 : Int32) (σ : St), k34 x2 x4 x5 x6 x8 x9 x10 σ = some (r, σ2) → Ex mr_X10_walksOf sc (Cl MT pr sc (d + 1)) (rtE (some (.int r)) (mk X) σ2) (34, [(2, .long x2), (4, .int x4), (5, .int x5), (6, .long x6), (8, .int x8), (9, .int x9), (10, .int x10)], [], mk X, σ)) (x2 : Int64) (x4 : Int32) (x5 : Int32) (x6 : Int64) (x8 : Int32) (x9 : Int32) (x10 : Int32) (x11 : Int32) (y0 : Int32) (σ : St) (h : f_X10_walksOf_81 k15 k34 x2 x4 x5 x6 x8 x9 x10 x11 y0 σ = some (r, σ2)) : Ex mr_X10_walksOf sc (Cl MT pr sc (d + 1)) (rtE (some (.int r)) (mk X) σ2) (81, [(2, .long x2), (4, .int x4), (5, .int x5), (6, .long x6), (8, .int x8), (9, .int x9), (10, .int x10), (11, .int x11)], [.int y0], mk X, σ) := by
  unfold f_X10_walksOf_81 at h
  refine Ex.blk 5 rfl ?_
  show Ex mr_X10_walksOf sc (Cl MT pr sc (d + 1)) (rtE (some (.int r)) (mk X) σ2) (90, [(12, .int y0), (2, .long x2), (4, .int x4), (5, .int x5), (6, .long x6), (8, .int x8), (9, .int x9), (10, .int x10), (11, .int x11)], [.int (y0 - x11), .int x5], mk X, σ)
  refine Ex.blk 3 rfl ?_
  show Ex mr_X10_walksOf sc (Cl MT pr sc (d + 1)) (rtE (some (.int r)) (mk X) σ2) (96, [(5, .int (x5 + (abI (y0 - x11)))), (12, .int y0), (2, .long x2), (4, .int x4), (6, .long x6), (8, .int x8), (9, .int x9), (10, .int x10), (11, .int x11)], [], mk X, σ)
  refine Ex.pick (lv' := _) [2, 3, 0, 4, 5, 6, 7, 8, 1] rfl ?_
  exact lk_X10_walksOf_96 d _ _ hk15 hk34 _ _ _ _ _ _ _ _ _ _ h
theorem lk_X10_walksOf_34 {pr : Ct} {sc : Nat × (Nat → Int32)} {X : En} (d : Nat) {r : Int32} {σ2 : St} (k15 : Int64 → Int32 → Int32 → Int64 → Int32 → St → Option (Int32 × St)) (hk15 : ∀ (x2 : Int64) (x4 : Int32) (x5 : Int32) (x6 : Int64) (x8 : Int32) (σ : St), k15 x2 x4 x5 x6 x8 σ = some (r, σ2) → Ex mr_X10_walksOf sc (Cl MT pr sc (d + 1)) (rtE (some (.int r)) (mk X) σ2) (15, [(2, .long x2), (4, .int x4), (5, .int x5), (6, .long x6), (8, .int x8)], [], mk X, σ)) : ∀ (n : Nat) (x2 : Int64) (x4 : Int32) (x5 : Int32) (x6 : Int64) (x8 : Int32) (x9 : Int32) (x10 : Int32) (σ : St), f_X10_walksOf_34 k15 n x2 x4 x5 x6 x8 x9 x10 σ = some (r, σ2) → Ex mr_X10_walksOf sc (Cl MT pr sc (d + 1)) (rtE (some (.int r)) (mk X) σ2) (34, [(2, .long x2), (4, .int x4), (5, .int x5), (6, .long x6), (8, .int x8), (9, .int x9), (10, .int x10)], [], mk X, σ) := by
  intro n
  induction n with
  | zero =>
    intro x2 x4 x5 x6 x8 x9 x10 σ h
    cases h
  | succ n ih =>
    intro x2 x4 x5 x6 x8 x9 x10 σ h
    simp only [f_X10_walksOf_34] at h
    refine Ex.blk 1000 rfl ?_
    rcases ite_sp h with ⟨c1, h⟩ | ⟨c1, h⟩
    · refine And.intro (fun _ => ?_) (fun hn => absurd c1 hn)
      show Ex mr_X10_walksOf sc (Cl MT pr sc (d + 1)) (rtE (some (.int r)) (mk X) σ2) (136, [(2, .long x2), (4, .int x4), (5, .int x5), (6, .long x6), (8, .int x8), (9, .int x9), (10, .int x10)], [], mk X, σ)
      refine Ex.pick (lv' := _) [0, 1, 2, 3, 4] rfl ?_
      exact lk_X10_walksOf_136 d _ hk15 _ _ _ _ _ _ h
    · refine And.intro (fun hp => absurd hp c1) (fun _ => ?_)
      show Ex mr_X10_walksOf sc (Cl MT pr sc (d + 1)) (rtE (some (.int r)) (mk X) σ2) (39, [(2, .long x2), (4, .int x4), (5, .int x5), (6, .long x6), (8, .int x8), (9, .int x9), (10, .int x10)], [], mk X, σ)
      refine Ex.blk 1000 rfl ?_
      rcases ite_sp h with ⟨c2, h⟩ | ⟨c2, h⟩
      · refine And.intro (fun _ => ?_) (fun hn => absurd c2 hn)
        show Ex mr_X10_walksOf sc (Cl MT pr sc (d + 1)) (rtE (some (.int r)) (mk X) σ2) (136, [(2, .long x2), (4, .int x4), (5, .int x5), (6, .long x6), (8, .int x8), (9, .int x9), (10, .int x10)], [], mk X, σ)
        refine Ex.pick (lv' := _) [0, 1, 2, 3, 4] rfl ?_
        exact lk_X10_walksOf_136 d _ hk15 _ _ _ _ _ _ h
      · refine And.intro (fun hp => absurd hp c2) (fun _ => ?_)
        show Ex mr_X10_walksOf sc (Cl MT pr sc (d + 1)) (rtE (some (.int r)) (mk X) σ2) (46, [(2, .long x2), (4, .int x4), (5, .int x5), (6, .long x6), (8, .int x8), (9, .int x9), (10, .int x10)], [], mk X, σ)
        refine Ex.blk 3 rfl ?_
        obtain ⟨p3, hp3, h⟩ := bind_sp h
        refine Exists.intro (some (.int p3.1)) (Exists.intro (mk X) (Exists.intro p3.2 (And.intro (cl_X10_digitOf (d + 0) hp3) ?_)))
        show Ex mr_X10_walksOf sc (Cl MT pr sc (d + 1)) (rtE (some (.int r)) (mk X) σ2) (53, [(2, .long x2), (4, .int x4), (5, .int x5), (6, .long x6), (8, .int x8), (9, .int x9), (10, .int x10)], [.int p3.1], mk X, p3.2)
        refine Ex.blk 5 rfl ?_
        show Ex mr_X10_walksOf sc (Cl MT pr sc (d + 1)) (rtE (some (.int r)) (mk X) σ2) (62, [(11, .int p3.1), (2, .long x2), (4, .int x4), (5, .int x5), (6, .long x6), (8, .int x8), (9, .int x9), (10, .int x10)], [.int 9, .int (p3.1 + x9)], mk X, p3.2)
        refine Ex.blk 1000 rfl ?_
        rcases ite_sp h with ⟨c3, h⟩ | ⟨c3, h⟩
        · refine And.intro (fun _ => ?_) (fun hn => absurd c3 hn)
          show Ex mr_X10_walksOf sc (Cl MT pr sc (d + 1)) (rtE (some (.int r)) (mk X) σ2) (76, [(11, .int p3.1), (2, .long x2), (4, .int x4), (5, .int x5), (6, .long x6), (8, .int x8), (9, .int x9), (10, .int x10)], [], mk X, p3.2)
          refine Ex.blk 1000 rfl ?_
          show Ex mr_X10_walksOf sc (Cl MT pr sc (d + 1)) (rtE (some (.int r)) (mk X) σ2) (81, [(11, .int p3.1), (2, .long x2), (4, .int x4), (5, .int x5), (6, .long x6), (8, .int x8), (9, .int x9), (10, .int x10)], [.int (p3.1 + x9)], mk X, p3.2)
          refine Ex.pick (lv' := _) [1, 2, 3, 4, 5, 6, 7, 0] rfl ?_
          exact lk_X10_walksOf_81 d _ _ hk15 ih _ _ _ _ _ _ _ _ _ _ h
        · refine And.intro (fun hp => absurd hp c3) (fun _ => ?_)
          show Ex mr_X10_walksOf sc (Cl MT pr sc (d + 1)) (rtE (some (.int r)) (mk X) σ2) (65, [(11, .int p3.1), (2, .long x2), (4, .int x4), (5, .int x5), (6, .long x6), (8, .int x8), (9, .int x9), (10, .int x10)], [], mk X, p3.2)
          refine Ex.blk 5 rfl ?_
          show Ex mr_X10_walksOf sc (Cl MT pr sc (d + 1)) (rtE (some (.int r)) (mk X) σ2) (73, [(11, .int p3.1), (2, .long x2), (4, .int x4), (5, .int x5), (6, .long x6), (8, .int x8), (9, .int x9), (10, .int x10)], [.int ((p3.1 + x9) - 10)], mk X, p3.2)
          refine Ex.blk 1000 rfl ?_
          show Ex mr_X10_walksOf sc (Cl MT pr sc (d + 1)) (rtE (some (.int r)) (mk X) σ2) (81, [(11, .int p3.1), (2, .long x2), (4, .int x4), (5, .int x5), (6, .long x6), (8, .int x8), (9, .int x9), (10, .int x10)], [.int ((p3.1 + x9) - 10)], mk X, p3.2)
          refine Ex.pick (lv' := _) [1, 2, 3, 4, 5, 6, 7, 0] rfl ?_
          exact lk_X10_walksOf_81 d _ _ hk15 ih _ _ _ _ _ _ _ _ _ _ h
theorem lk_X10_walksOf_15 {pr : Ct} {sc : Nat × (Nat → Int32)} {X : En} (d : Nat) {r : Int32} {σ2 : St} : ∀ (n : Nat) (x2 : Int64) (x4 : Int32) (x5 : Int32) (x6 : Int64) (x8 : Int32) (σ : St), f_X10_walksOf_15 n x2 x4 x5 x6 x8 σ = some (r, σ2) → Ex mr_X10_walksOf sc (Cl MT pr sc (d + 1)) (rtE (some (.int r)) (mk X) σ2) (15, [(2, .long x2), (4, .int x4), (5, .int x5), (6, .long x6), (8, .int x8)], [], mk X, σ) := by
  intro n
  induction n with
  | zero =>
    intro x2 x4 x5 x6 x8 σ h
    cases h
  | succ n ih =>
    intro x2 x4 x5 x6 x8 σ h
    simp only [f_X10_walksOf_15] at h
    refine Ex.blk 1000 rfl ?_
    rcases ite_sp h with ⟨c1, h⟩ | ⟨c1, h⟩
    · refine And.intro (fun _ => ?_) (fun hn => absurd c1 hn)
      show Ex mr_X10_walksOf sc (Cl MT pr sc (d + 1)) (rtE (some (.int r)) (mk X) σ2) (142, [(2, .long x2), (4, .int x4), (5, .int x5), (6, .long x6), (8, .int x8)], [], mk X, σ)
      refine Ex.blk 1000 rfl ?_
      cases h
      exact And.intro trivial ⟨rfl, rfl, rfl⟩
    · refine And.intro (fun hp => absurd hp c1) (fun _ => ?_)
      show Ex mr_X10_walksOf sc (Cl MT pr sc (d + 1)) (rtE (some (.int r)) (mk X) σ2) (22, [(2, .long x2), (4, .int x4), (5, .int x5), (6, .long x6), (8, .int x8)], [], mk X, σ)
      refine Ex.blk 3 rfl ?_
      obtain ⟨p2, hp2, h⟩ := bind_sp h
      refine Exists.intro (some (.int p2.1)) (Exists.intro (mk X) (Exists.intro p2.2 (And.intro (cl_X10_digitOf (d + 0) hp2) ?_)))
      show Ex mr_X10_walksOf sc (Cl MT pr sc (d + 1)) (rtE (some (.int r)) (mk X) σ2) (28, [(2, .long x2), (4, .int x4), (5, .int x5), (6, .long x6), (8, .int x8)], [.int p2.1], mk X, p2.2)
      refine Ex.blk 1000 rfl ?_
      show Ex mr_X10_walksOf sc (Cl MT pr sc (d + 1)) (rtE (some (.int r)) (mk X) σ2) (34, [(10, .int x8), (9, .int p2.1), (2, .long x2), (4, .int x4), (5, .int x5), (6, .long x6), (8, .int x8)], [], mk X, p2.2)
      refine Ex.pick (lv' := _) [2, 3, 4, 5, 6, 1, 0] rfl ?_
      exact lk_X10_walksOf_34 d _ ih FU _ _ _ _ _ _ _ _ h
theorem lk_X10_walksOf_12 {pr : Ct} {sc : Nat × (Nat → Int32)} {X : En} (d : Nat) {r : Int32} {σ2 : St} (x2 : Int64) (x4 : Int32) (x5 : Int32) (x6 : Int64) (σ : St) (h : f_X10_walksOf_12 x2 x4 x5 x6 σ = some (r, σ2)) : Ex mr_X10_walksOf sc (Cl MT pr sc (d + 1)) (rtE (some (.int r)) (mk X) σ2) (12, [(2, .long x2), (4, .int x4), (5, .int x5), (6, .long x6)], [], mk X, σ) := by
  unfold f_X10_walksOf_12 at h
  refine Ex.blk 1000 rfl ?_
  show Ex mr_X10_walksOf sc (Cl MT pr sc (d + 1)) (rtE (some (.int r)) (mk X) σ2) (15, [(8, .int 0), (2, .long x2), (4, .int x4), (5, .int x5), (6, .long x6)], [], mk X, σ)
  refine Ex.pick (lv' := _) [1, 2, 3, 4, 0] rfl ?_
  exact lk_X10_walksOf_15 d FU _ _ _ _ _ _ h
theorem cl_X10_walksOf {pr : Ct} {sc : Nat × (Nat → Int32)} {X : En} (d : Nat) {r : Int32} {σ2 : St} {x0 : Int64} {x2 : Int64} {x4 : Int32} {σ : St} (h : f_X10_walksOf x0 x2 x4 σ = some (r, σ2)) : Cl MT pr sc (d + 1 + 1) 205 [.long x0, .long x2, .int x4] (mk X) σ (some (.int r)) (mk X) σ2 := by
  refine cl_of mr_X10_walksOf rfl rfl ?_
  unfold f_X10_walksOf at h
  refine Ex.blk 5 rfl ?_
  obtain ⟨p1, hp1, h⟩ := bind_sp h
  refine Exists.intro (some (.long p1.1)) (Exists.intro (mk X) (Exists.intro p1.2 (And.intro (cl_X10_ten (d + 0) hp1) ?_)))
  show Ex mr_X10_walksOf sc (Cl MT pr sc (d + 1)) (rtE (some (.int r)) (mk X) σ2) (9, [(5, .int 0), (0, .long x0), (2, .long x2), (4, .int x4)], [.long p1.1, .long x0], mk X, p1.2)
  refine Ex.blk 1 rfl ?_
  obtain ⟨g1, h⟩ := gd_some h
  refine And.intro (nzJ_ok g1) ?_
  show Ex mr_X10_walksOf sc (Cl MT pr sc (d + 1)) (rtE (some (.int r)) (mk X) σ2) (10, [(5, .int 0), (0, .long x0), (2, .long x2), (4, .int x4)], [.long (rmJ x0 p1.1)], mk X, p1.2)
  refine Ex.blk 1 rfl ?_
  show Ex mr_X10_walksOf sc (Cl MT pr sc (d + 1)) (rtE (some (.int r)) (mk X) σ2) (12, [(6, .long (rmJ x0 p1.1)), (5, .int 0), (0, .long x0), (2, .long x2), (4, .int x4)], [], mk X, p1.2)
  refine Ex.pick (lv' := _) [3, 4, 1, 0] rfl ?_
  exact lk_X10_walksOf_12 d _ _ _ _ _ h
theorem lk_X10_sumOf_38 {pr : Ct} {sc : Nat × (Nat → Int32)} {X : En} (d : Nat) {r : Int64} {σ2 : St} (k5 : Int32 → Int64 → Int32 → St → Option (Int64 × St)) (hk5 : ∀ (x1 : Int32) (x2 : Int64) (x4 : Int32) (σ : St), k5 x1 x2 x4 σ = some (r, σ2) → Ex mr_X10_sumOf sc (Cl MT pr sc (d + 1)) (rtE (some (.long r)) (mk X) σ2) (5, [(0, .ref 38), (1, .int x1), (2, .long x2), (4, .int x4)], [], mk X, σ)) (x1 : Int32) (x2 : Int64) (x4 : Int32) (σ : St) (h : f_X10_sumOf_38 k5 x1 x2 x4 σ = some (r, σ2)) : Ex mr_X10_sumOf sc (Cl MT pr sc (d + 1)) (rtE (some (.long r)) (mk X) σ2) (38, [(0, .ref 38), (1, .int x1), (2, .long x2), (4, .int x4)], [], mk X, σ) := by
  unfold f_X10_sumOf_38 at h
  refine Ex.blk 1000 rfl ?_
  show Ex mr_X10_sumOf sc (Cl MT pr sc (d + 1)) (rtE (some (.long r)) (mk X) σ2) (5, [(4, .int (x4 + 1)), (0, .ref 38), (1, .int x1), (2, .long x2)], [], mk X, σ)
  refine Ex.pick (lv' := _) [1, 2, 3, 0] rfl ?_
  exact hk5 _ _ _ _ h
theorem lk_X10_sumOf_36 {pr : Ct} {sc : Nat × (Nat → Int32)} {X : En} (d : Nat) {r : Int64} {σ2 : St} (k5 : Int32 → Int64 → Int32 → St → Option (Int64 × St)) (hk5 : ∀ (x1 : Int32) (x2 : Int64) (x4 : Int32) (σ : St), k5 x1 x2 x4 σ = some (r, σ2) → Ex mr_X10_sumOf sc (Cl MT pr sc (d + 1)) (rtE (some (.long r)) (mk X) σ2) (5, [(0, .ref 38), (1, .int x1), (2, .long x2), (4, .int x4)], [], mk X, σ)) (x1 : Int32) (x4 : Int32) (y0 : Int64) (y1 : Int64) (σ : St) (h : f_X10_sumOf_36 k5 x1 x4 y0 y1 σ = some (r, σ2)) : Ex mr_X10_sumOf sc (Cl MT pr sc (d + 1)) (rtE (some (.long r)) (mk X) σ2) (36, [(0, .ref 38), (1, .int x1), (4, .int x4)], [.long y0, .long y1], mk X, σ) := by
  unfold f_X10_sumOf_36 at h
  refine Ex.blk 2 rfl ?_
  show Ex mr_X10_sumOf sc (Cl MT pr sc (d + 1)) (rtE (some (.long r)) (mk X) σ2) (38, [(2, .long (y1 + y0)), (0, .ref 38), (1, .int x1), (4, .int x4)], [], mk X, σ)
  refine Ex.pick (lv' := _) [1, 2, 0, 3] rfl ?_
  exact lk_X10_sumOf_38 d _ hk5 _ _ _ _ h
theorem lk_X10_sumOf_5 {pr : Ct} {sc : Nat × (Nat → Int32)} {X : En} (d : Nat) {r : Int64} {σ2 : St} : ∀ (n : Nat) (x1 : Int32) (x2 : Int64) (x4 : Int32) (σ : St), f_X10_sumOf_5 n x1 x2 x4 σ = some (r, σ2) → Ex mr_X10_sumOf sc (Cl MT pr sc (d + 1)) (rtE (some (.long r)) (mk X) σ2) (5, [(0, .ref 38), (1, .int x1), (2, .long x2), (4, .int x4)], [], mk X, σ) := by
  intro n
  induction n with
  | zero =>
    intro x1 x2 x4 σ h
    cases h
  | succ n ih =>
    intro x1 x2 x4 σ h
    simp only [f_X10_sumOf_5] at h
    refine Ex.blk 1000 rfl ?_
    rcases ite_sp h with ⟨c1, h⟩ | ⟨c1, h⟩
    · refine And.intro (fun _ => ?_) (fun hn => absurd c1 hn)
      show Ex mr_X10_sumOf sc (Cl MT pr sc (d + 1)) (rtE (some (.long r)) (mk X) σ2) (44, [(0, .ref 38), (1, .int x1), (2, .long x2), (4, .int x4)], [], mk X, σ)
      refine Ex.blk 1000 rfl ?_
      cases h
      exact And.intro trivial ⟨rfl, rfl, rfl⟩
    · refine And.intro (fun hp => absurd hp c1) (fun _ => ?_)
      show Ex mr_X10_sumOf sc (Cl MT pr sc (d + 1)) (rtE (some (.long r)) (mk X) σ2) (14, [(0, .ref 38), (1, .int x1), (2, .long x2), (4, .int x4)], [], mk X, σ)
      refine Ex.blk 4 rfl ?_
      obtain ⟨p1, hp1, h⟩ := bind_sp h
      refine Exists.intro (some (.int p1.1)) (Exists.intro (mk X) (Exists.intro p1.2 (And.intro (cl_X10_has (d + 0) hp1) ?_)))
      show Ex mr_X10_sumOf sc (Cl MT pr sc (d + 1)) (rtE (some (.long r)) (mk X) σ2) (21, [(0, .ref 38), (1, .int x1), (2, .long x2), (4, .int x4)], [.int p1.1, .long x2], mk X, p1.2)
      refine Ex.blk 1000 rfl ?_
      rcases ite_sp h with ⟨c2, h⟩ | ⟨c2, h⟩
      · refine And.intro (fun _ => ?_) (fun hn => absurd c2 hn)
        show Ex mr_X10_sumOf sc (Cl MT pr sc (d + 1)) (rtE (some (.long r)) (mk X) σ2) (35, [(0, .ref 38), (1, .int x1), (2, .long x2), (4, .int x4)], [.long x2], mk X, p1.2)
        refine Ex.blk 1000 rfl ?_
        show Ex mr_X10_sumOf sc (Cl MT pr sc (d + 1)) (rtE (some (.long r)) (mk X) σ2) (36, [(0, .ref 38), (1, .int x1), (2, .long x2), (4, .int x4)], [.long 0, .long x2], mk X, p1.2)
        refine Ex.pick (lv' := _) [0, 1, 3] rfl ?_
        exact lk_X10_sumOf_36 d _ ih _ _ _ _ _ h
      · refine And.intro (fun hp => absurd hp c2) (fun _ => ?_)
        show Ex mr_X10_sumOf sc (Cl MT pr sc (d + 1)) (rtE (some (.long r)) (mk X) σ2) (24, [(0, .ref 38), (1, .int x1), (2, .long x2), (4, .int x4)], [.long x2], mk X, p1.2)
        refine Ex.blk 4 rfl ?_
        obtain ⟨g3, h⟩ := gd_some h
        refine And.intro (inb_ok g3) ?_
        show Ex mr_X10_sumOf sc (Cl MT pr sc (d + 1)) (rtE (some (.long r)) (mk X) σ2) (31, [(0, .ref 38), (1, .int x1), (2, .long x2), (4, .int x4)], [.int (gI p1.2 54 x4.toNatClampNeg), .long x2], mk X, p1.2)
        refine Ex.blk 1000 rfl ?_
        show Ex mr_X10_sumOf sc (Cl MT pr sc (d + 1)) (rtE (some (.long r)) (mk X) σ2) (36, [(0, .ref 38), (1, .int x1), (2, .long x2), (4, .int x4)], [.long (gI p1.2 54 x4.toNatClampNeg).toInt64, .long x2], mk X, p1.2)
        refine Ex.pick (lv' := _) [0, 1, 3] rfl ?_
        exact lk_X10_sumOf_36 d _ ih _ _ _ _ _ h
theorem cl_X10_sumOf {pr : Ct} {sc : Nat × (Nat → Int32)} {X : En} (d : Nat) {r : Int64} {σ2 : St} {x1 : Int32} {σ : St} (h : f_X10_sumOf x1 σ = some (r, σ2)) : Cl MT pr sc (d + 1 + 1) 206 [.ref 38, .int x1] (mk X) σ (some (.long r)) (mk X) σ2 := by
  refine cl_of mr_X10_sumOf rfl rfl ?_
  unfold f_X10_sumOf at h
  refine Ex.blk 1000 rfl ?_
  show Ex mr_X10_sumOf sc (Cl MT pr sc (d + 1)) (rtE (some (.long r)) (mk X) σ2) (5, [(4, .int 0), (2, .long 0), (0, .ref 38), (1, .int x1)], [], mk X, σ)
  refine Ex.pick (lv' := _) [2, 3, 1, 0] rfl ?_
  exact lk_X10_sumOf_5 d FU _ _ _ _ h
theorem lk_X10_lookOnward_113 {pr : Ct} {sc : Nat × (Nat → Int32)} {X : En} (d : Nat) {σ2 : St} (k11 : Int32 → Int32 → St → Option (St)) (k33 : Int32 → Int32 → Int32 → St → Option (St)) (hk11 : ∀ (x1 : Int32) (x2 : Int32) (σ : St), k11 x1 x2 σ = some σ2 → Ex mr_X10_lookOnward sc (Cl MT pr sc (d + 2)) (rtE none (mk X) σ2) (11, [(0, .ref 38), (1, .int x1), (2, .int x2)], [], mk X, σ)) (hk33 : ∀ (x1 : Int32) (x2 : Int32) (x3 : Int32) (σ : St), k33 x1 x2 x3 σ = some σ2 → Ex mr_X10_lookOnward sc (Cl MT pr sc (d + 2)) (rtE none (mk X) σ2) (33, [(0, .ref 38), (1, .int x1), (2, .int x2), (3, .int x3)], [], mk X, σ)) (x1 : Int32) (x2 : Int32) (x3 : Int32) (σ : St) (h : f_X10_lookOnward_113 k11 k33 x1 x2 x3 σ = some σ2) : Ex mr_X10_lookOnward sc (Cl MT pr sc (d + 2)) (rtE none (mk X) σ2) (113, [(0, .ref 38), (1, .int x1), (2, .int x2), (3, .int x3)], [], mk X, σ) := by
  unfold f_X10_lookOnward_113 at h
  refine Ex.blk 1000 rfl ?_
  show Ex mr_X10_lookOnward sc (Cl MT pr sc (d + 2)) (rtE none (mk X) σ2) (33, [(3, .int (x3 + 1)), (0, .ref 38), (1, .int x1), (2, .int x2)], [], mk X, σ)
  refine Ex.pick (lv' := _) [1, 2, 3, 0] rfl ?_
  exact hk33 _ _ _ _ h
theorem lk_X10_lookOnward_112 {pr : Ct} {sc : Nat × (Nat → Int32)} {X : En} (d : Nat) {σ2 : St} (k11 : Int32 → Int32 → St → Option (St)) (k33 : Int32 → Int32 → Int32 → St → Option (St)) (hk11 : ∀ (x1 : Int32) (x2 : Int32) (σ : St), k11 x1 x2 σ = some σ2 → Ex mr_X10_lookOnward sc (Cl MT pr sc (d + 2)) (rtE none (mk X) σ2) (11, [(0, .ref 38), (1, .int x1), (2, .int x2)], [], mk X, σ)) (hk33 : ∀ (x1 : Int32) (x2 : Int32) (x3 : Int32) (σ : St), k33 x1 x2 x3 σ = some σ2 → Ex mr_X10_lookOnward sc (Cl MT pr sc (d + 2)) (rtE none (mk X) σ2) (33, [(0, .ref 38), (1, .int x1), (2, .int x2), (3, .int x3)], [], mk X, σ)) (x1 : Int32) (x2 : Int32) (x3 : Int32) (y0 : Int32) (y1 : Int32) (σ : St) (h : f_X10_lookOnward_112 k11 k33 x1 x2 x3 y0 y1 σ = some σ2) : Ex mr_X10_lookOnward sc (Cl MT pr sc (d + 2)) (rtE none (mk X) σ2) (112, [(0, .ref 38), (1, .int x1), (2, .int x2), (3, .int x3)], [.int y0, .int y1, .ref 55], mk X, σ) := by
  unfold f_X10_lookOnward_112 at h
  refine Ex.blk 1 rfl ?_
  obtain ⟨g1, h⟩ := gd_some h
  refine And.intro (inb_ok g1) ?_
  show Ex mr_X10_lookOnward sc (Cl MT pr sc (d + 2)) (rtE none (mk X) σ2) (113, [(0, .ref 38), (1, .int x1), (2, .int x2), (3, .int x3)], [], mk X, (sI σ 55 y1.toNatClampNeg y0))
  exact lk_X10_lookOnward_113 d _ _ hk11 hk33 _ _ _ _ h
theorem lk_X10_lookOnward_81 {pr : Ct} {sc : Nat × (Nat → Int32)} {X : En} (d : Nat) {σ2 : St} (k11 : Int32 → Int32 → St → Option (St)) (k33 : Int32 → Int32 → Int32 → St → Option (St)) (hk11 : ∀ (x1 : Int32) (x2 : Int32) (σ : St), k11 x1 x2 σ = some σ2 → Ex mr_X10_lookOnward sc (Cl MT pr sc (d + 2)) (rtE none (mk X) σ2) (11, [(0, .ref 38), (1, .int x1), (2, .int x2)], [], mk X, σ)) (hk33 : ∀ (x1 : Int32) (x2 : Int32) (x3 : Int32) (σ : St), k33 x1 x2 x3 σ = some σ2 → Ex mr_X10_lookOnward sc (Cl MT pr sc (d + 2)) (rtE none (mk X) σ2) (33, [(0, .ref 38), (1, .int x1), (2, .int x2), (3, .int x3)], [], mk X, σ)) (x1 : Int32) (x2 : Int32) (x3 : Int32) (x4 : Int32) (σ : St) (h : f_X10_lookOnward_81 k11 k33 x1 x2 x3 x4 σ = some σ2) : Ex mr_X10_lookOnward sc (Cl MT pr sc (d + 2)) (rtE none (mk X) σ2) (81, [(0, .ref 38), (1, .int x1), (2, .int x2), (3, .int x3), (4, .int x4)], [], mk X, σ) := by
  unfold f_X10_lookOnward_81 at h
  refine Ex.blk 5 rfl ?_
  show Ex mr_X10_lookOnward sc (Cl MT pr sc (d + 2)) (rtE none (mk X) σ2) (90, [(0, .ref 38), (1, .int x1), (2, .int x2), (3, .int x3), (4, .int x4)], [.ref 55, .int x2, .ref 55], mk X, σ)
  refine Ex.blk 2 rfl ?_
  obtain ⟨g1, h⟩ := gd_some h
  refine And.intro (inb_ok g1) ?_
  show Ex mr_X10_lookOnward sc (Cl MT pr sc (d + 2)) (rtE none (mk X) σ2) (92, [(0, .ref 38), (1, .int x1), (2, .int x2), (3, .int x3), (4, .int x4)], [.int (gI σ 55 x2.toNatClampNeg), .int x2, .ref 55], mk X, σ)
  refine Ex.blk 1000 rfl ?_
  rcases ite_sp h with ⟨c2, h⟩ | ⟨c2, h⟩
  · refine And.intro (fun hp => absurd c2 hp) (fun _ => ?_)
    show Ex mr_X10_lookOnward sc (Cl MT pr sc (d + 2)) (rtE none (mk X) σ2) (96, [(0, .ref 38), (1, .int x1), (2, .int x2), (3, .int x3), (4, .int x4)], [.int x2, .ref 55], mk X, σ)
    refine Ex.blk 1000 rfl ?_
    show Ex mr_X10_lookOnward sc (Cl MT pr sc (d + 2)) (rtE none (mk X) σ2) (112, [(0, .ref 38), (1, .int x1), (2, .int x2), (3, .int x3), (4, .int x4)], [.int x4, .int x2, .ref 55], mk X, σ)
    refine Ex.pick (lv' := _) [0, 1, 2, 3] rfl ?_
    exact lk_X10_lookOnward_112 d _ _ hk11 hk33 _ _ _ _ _ _ h
  · refine And.intro (fun _ => ?_) (fun hn => absurd c2 hn)
    show Ex mr_X10_lookOnward sc (Cl MT pr sc (d + 2)) (rtE none (mk X) σ2) (101, [(0, .ref 38), (1, .int x1), (2, .int x2), (3, .int x3), (4, .int x4)], [.int x2, .ref 55], mk X, σ)
    refine Ex.blk 4 rfl ?_
    obtain ⟨g3, h⟩ := gd_some h
    refine And.intro (inb_ok g3) ?_
    show Ex mr_X10_lookOnward sc (Cl MT pr sc (d + 2)) (rtE none (mk X) σ2) (107, [(0, .ref 38), (1, .int x1), (2, .int x2), (3, .int x3), (4, .int x4)], [.int (gI σ 55 x2.toNatClampNeg), .int x2, .ref 55], mk X, σ)
    refine Ex.blk 1000 rfl ?_
    show Ex mr_X10_lookOnward sc (Cl MT pr sc (d + 2)) (rtE none (mk X) σ2) (112, [(0, .ref 38), (1, .int x1), (2, .int x2), (3, .int x3), (4, .int x4)], [.int (mnI (gI σ 55 x2.toNatClampNeg) x4), .int x2, .ref 55], mk X, σ)
    refine Ex.pick (lv' := _) [0, 1, 2, 3] rfl ?_
    exact lk_X10_lookOnward_112 d _ _ hk11 hk33 _ _ _ _ _ _ h
theorem lk_X10_lookOnward_33 {pr : Ct} {sc : Nat × (Nat → Int32)} {X : En} (d : Nat) {σ2 : St} (k11 : Int32 → Int32 → St → Option (St)) (hk11 : ∀ (x1 : Int32) (x2 : Int32) (σ : St), k11 x1 x2 σ = some σ2 → Ex mr_X10_lookOnward sc (Cl MT pr sc (d + 2)) (rtE none (mk X) σ2) (11, [(0, .ref 38), (1, .int x1), (2, .int x2)], [], mk X, σ)) : ∀ (n : Nat) (x1 : Int32) (x2 : Int32) (x3 : Int32) (σ : St), f_X10_lookOnward_33 k11 n x1 x2 x3 σ = some σ2 → Ex mr_X10_lookOnward sc (Cl MT pr sc (d + 2)) (rtE none (mk X) σ2) (33, [(0, .ref 38), (1, .int x1), (2, .int x2), (3, .int x3)], [], mk X, σ) := by
  intro n
  induction n with
  | zero =>
    intro x1 x2 x3 σ h
    cases h
  | succ n ih =>
    intro x1 x2 x3 σ h
    simp only [f_X10_lookOnward_33] at h
    refine Ex.blk 1000 rfl ?_
    rcases ite_sp h with ⟨c1, h⟩ | ⟨c1, h⟩
    · refine And.intro (fun _ => ?_) (fun hn => absurd c1 hn)
      show Ex mr_X10_lookOnward sc (Cl MT pr sc (d + 2)) (rtE none (mk X) σ2) (119, [(0, .ref 38), (1, .int x1), (2, .int x2), (3, .int x3)], [], mk X, σ)
      refine Ex.blk 1000 rfl ?_
      show Ex mr_X10_lookOnward sc (Cl MT pr sc (d + 2)) (rtE none (mk X) σ2) (11, [(2, .int (x2 + (-1))), (0, .ref 38), (1, .int x1), (3, .int x3)], [], mk X, σ)
      refine Ex.pick (lv' := _) [1, 2, 0] rfl ?_
      exact hk11 _ _ _ h
    · refine And.intro (fun hp => absurd hp c1) (fun _ => ?_)
      show Ex mr_X10_lookOnward sc (Cl MT pr sc (d + 2)) (rtE none (mk X) σ2) (41, [(0, .ref 38), (1, .int x1), (2, .int x2), (3, .int x3)], [], mk X, σ)
      refine Ex.blk 3 rfl ?_
      obtain ⟨p1, hp1, h⟩ := bind_sp h
      refine Exists.intro (some (.int p1.1)) (Exists.intro (mk X) (Exists.intro p1.2 (And.intro (cl_X10_has (d + 1) hp1) ?_)))
      show Ex mr_X10_lookOnward sc (Cl MT pr sc (d + 2)) (rtE none (mk X) σ2) (46, [(0, .ref 38), (1, .int x1), (2, .int x2), (3, .int x3)], [.int p1.1], mk X, p1.2)
      refine Ex.blk 1000 rfl ?_
      rcases ite_sp h with ⟨c2, h⟩ | ⟨c2, h⟩
      · refine And.intro (fun hp => absurd c2 hp) (fun _ => ?_)
        show Ex mr_X10_lookOnward sc (Cl MT pr sc (d + 2)) (rtE none (mk X) σ2) (49, [(0, .ref 38), (1, .int x1), (2, .int x2), (3, .int x3)], [], mk X, p1.2)
        refine Ex.blk 3 rfl ?_
        obtain ⟨p2, hp2, h⟩ := bind_sp h
        refine Exists.intro (some (.long p2.1)) (Exists.intro (mk X) (Exists.intro p2.2 (And.intro (cl_X10_sumOf (d + 0) hp2) ?_)))
        show Ex mr_X10_lookOnward sc (Cl MT pr sc (d + 2)) (rtE none (mk X) σ2) (54, [(0, .ref 38), (1, .int x1), (2, .int x2), (3, .int x3)], [.long p2.1], mk X, p2.2)
        refine Ex.blk 4 rfl ?_
        obtain ⟨g3, h⟩ := gd_some h
        refine And.intro (inb_ok g3) ?_
        show Ex mr_X10_lookOnward sc (Cl MT pr sc (d + 2)) (rtE none (mk X) σ2) (60, [(0, .ref 38), (1, .int x1), (2, .int x2), (3, .int x3)], [.int (gI p2.2 54 x3.toNatClampNeg), .long p2.1], mk X, p2.2)
        refine Ex.blk 4 rfl ?_
        obtain ⟨p3, hp3, h⟩ := bind_sp h
        refine Exists.intro (some (.int p3.1)) (Exists.intro (mk X) (Exists.intro p3.2 (And.intro (cl_X10_walksOf (d + 0) hp3) ?_)))
        show Ex mr_X10_lookOnward sc (Cl MT pr sc (d + 2)) (rtE none (mk X) σ2) (68, [(0, .ref 38), (1, .int x1), (2, .int x2), (3, .int x3)], [.int p3.1], mk X, p3.2)
        refine Ex.blk 5 rfl ?_
        show Ex mr_X10_lookOnward sc (Cl MT pr sc (d + 2)) (rtE none (mk X) σ2) (75, [(0, .ref 38), (1, .int x1), (2, .int x2), (3, .int x3)], [.int x3, .int 1, .int x2, .ref 55, .int p3.1], mk X, p3.2)
        refine Ex.blk 3 rfl ?_
        obtain ⟨g4, h⟩ := gd_some h
        refine And.intro (inb_ok g4) ?_
        show Ex mr_X10_lookOnward sc (Cl MT pr sc (d + 2)) (rtE none (mk X) σ2) (78, [(0, .ref 38), (1, .int x1), (2, .int x2), (3, .int x3)], [.int (gI p3.2 55 (x2 ||| (shlI 1 x3)).toNatClampNeg), .int p3.1], mk X, p3.2)
        refine Ex.blk 2 rfl ?_
        show Ex mr_X10_lookOnward sc (Cl MT pr sc (d + 2)) (rtE none (mk X) σ2) (81, [(4, .int (p3.1 + (gI p3.2 55 (x2 ||| (shlI 1 x3)).toNatClampNeg))), (0, .ref 38), (1, .int x1), (2, .int x2), (3, .int x3)], [], mk X, p3.2)
        refine Ex.pick (lv' := _) [1, 2, 3, 4, 0] rfl ?_
        exact lk_X10_lookOnward_81 d _ _ hk11 ih _ _ _ _ _ h
      · refine And.intro (fun _ => ?_) (fun hn => absurd c2 hn)
        show Ex mr_X10_lookOnward sc (Cl MT pr sc (d + 2)) (rtE none (mk X) σ2) (113, [(0, .ref 38), (1, .int x1), (2, .int x2), (3, .int x3)], [], mk X, p1.2)
        exact lk_X10_lookOnward_113 d _ _ hk11 ih _ _ _ _ h
theorem lk_X10_lookOnward_30 {pr : Ct} {sc : Nat × (Nat → Int32)} {X : En} (d : Nat) {σ2 : St} (k11 : Int32 → Int32 → St → Option (St)) (hk11 : ∀ (x1 : Int32) (x2 : Int32) (σ : St), k11 x1 x2 σ = some σ2 → Ex mr_X10_lookOnward sc (Cl MT pr sc (d + 2)) (rtE none (mk X) σ2) (11, [(0, .ref 38), (1, .int x1), (2, .int x2)], [], mk X, σ)) (x1 : Int32) (x2 : Int32) (y0 : Int32) (y1 : Int32) (σ : St) (h : f_X10_lookOnward_30 k11 x1 x2 y0 y1 σ = some σ2) : Ex mr_X10_lookOnward sc (Cl MT pr sc (d + 2)) (rtE none (mk X) σ2) (30, [(0, .ref 38), (1, .int x1), (2, .int x2)], [.int y0, .int y1, .ref 55], mk X, σ) := by
  unfold f_X10_lookOnward_30 at h
  refine Ex.blk 1 rfl ?_
  obtain ⟨g1, h⟩ := gd_some h
  refine And.intro (inb_ok g1) ?_
  show Ex mr_X10_lookOnward sc (Cl MT pr sc (d + 2)) (rtE none (mk X) σ2) (31, [(0, .ref 38), (1, .int x1), (2, .int x2)], [], mk X, (sI σ 55 y1.toNatClampNeg y0))
  refine Ex.blk 1000 rfl ?_
  show Ex mr_X10_lookOnward sc (Cl MT pr sc (d + 2)) (rtE none (mk X) σ2) (33, [(3, .int 0), (0, .ref 38), (1, .int x1), (2, .int x2)], [], mk X, (sI σ 55 y1.toNatClampNeg y0))
  refine Ex.pick (lv' := _) [1, 2, 3, 0] rfl ?_
  exact lk_X10_lookOnward_33 d _ hk11 FU _ _ _ _ h
theorem lk_X10_lookOnward_11 {pr : Ct} {sc : Nat × (Nat → Int32)} {X : En} (d : Nat) {σ2 : St} : ∀ (n : Nat) (x1 : Int32) (x2 : Int32) (σ : St), f_X10_lookOnward_11 n x1 x2 σ = some σ2 → Ex mr_X10_lookOnward sc (Cl MT pr sc (d + 2)) (rtE none (mk X) σ2) (11, [(0, .ref 38), (1, .int x1), (2, .int x2)], [], mk X, σ) := by
  intro n
  induction n with
  | zero =>
    intro x1 x2 σ h
    cases h
  | succ n ih =>
    intro x1 x2 σ h
    simp only [f_X10_lookOnward_11] at h
    refine Ex.blk 1000 rfl ?_
    rcases ite_sp h with ⟨c1, h⟩ | ⟨c1, h⟩
    · refine And.intro (fun _ => ?_) (fun hn => absurd c1 hn)
      show Ex mr_X10_lookOnward sc (Cl MT pr sc (d + 2)) (rtE none (mk X) σ2) (125, [(0, .ref 38), (1, .int x1), (2, .int x2)], [], mk X, σ)
      refine Ex.blk 1000 rfl ?_
      cases h
      exact And.intro trivial ⟨rfl, rfl, rfl⟩
    · refine And.intro (fun hp => absurd hp c1) (fun _ => ?_)
      show Ex mr_X10_lookOnward sc (Cl MT pr sc (d + 2)) (rtE none (mk X) σ2) (15, [(0, .ref 38), (1, .int x1), (2, .int x2)], [], mk X, σ)
      refine Ex.blk 5 rfl ?_
      show Ex mr_X10_lookOnward sc (Cl MT pr sc (d + 2)) (rtE none (mk X) σ2) (22, [(0, .ref 38), (1, .int x1), (2, .int x2)], [.int x1, .int x2, .int x2, .ref 55], mk X, σ)
      refine Ex.blk 1000 rfl ?_
      rcases ite_sp h with ⟨c2, h⟩ | ⟨c2, h⟩
      · refine And.intro (fun hp => absurd c2 hp) (fun _ => ?_)
        show Ex mr_X10_lookOnward sc (Cl MT pr sc (d + 2)) (rtE none (mk X) σ2) (25, [(0, .ref 38), (1, .int x1), (2, .int x2)], [.int x2, .ref 55], mk X, σ)
        refine Ex.blk 1000 rfl ?_
        show Ex mr_X10_lookOnward sc (Cl MT pr sc (d + 2)) (rtE none (mk X) σ2) (30, [(0, .ref 38), (1, .int x1), (2, .int x2)], [.int 0, .int x2, .ref 55], mk X, σ)
        exact lk_X10_lookOnward_30 d _ ih _ _ _ _ _ h
      · refine And.intro (fun _ => ?_) (fun hn => absurd c2 hn)
        show Ex mr_X10_lookOnward sc (Cl MT pr sc (d + 2)) (rtE none (mk X) σ2) (29, [(0, .ref 38), (1, .int x1), (2, .int x2)], [.int x2, .ref 55], mk X, σ)
        refine Ex.blk 1000 rfl ?_
        show Ex mr_X10_lookOnward sc (Cl MT pr sc (d + 2)) (rtE none (mk X) σ2) (30, [(0, .ref 38), (1, .int x1), (2, .int x2)], [.int (-1), .int x2, .ref 55], mk X, σ)
        exact lk_X10_lookOnward_30 d _ ih _ _ _ _ _ h
theorem lk_X10_lookOnward_9 {pr : Ct} {sc : Nat × (Nat → Int32)} {X : En} (d : Nat) {σ2 : St} (x1 : Int32) (σ : St) (h : f_X10_lookOnward_9 x1 σ = some σ2) : Ex mr_X10_lookOnward sc (Cl MT pr sc (d + 2)) (rtE none (mk X) σ2) (9, [(0, .ref 38), (1, .int x1)], [], mk X, σ) := by
  unfold f_X10_lookOnward_9 at h
  refine Ex.blk 1000 rfl ?_
  show Ex mr_X10_lookOnward sc (Cl MT pr sc (d + 2)) (rtE none (mk X) σ2) (11, [(2, .int x1), (0, .ref 38), (1, .int x1)], [], mk X, σ)
  refine Ex.pick (lv' := _) [1, 2, 0] rfl ?_
  exact lk_X10_lookOnward_11 d FU _ _ _ h
theorem cl_X10_lookOnward {pr : Ct} {sc : Nat × (Nat → Int32)} {X : En} (d : Nat) {σ2 : St} {σ : St} (h : f_X10_lookOnward σ = some σ2) : Cl MT pr sc (d + 2 + 1) 207 [.ref 38] (mk X) σ none (mk X) σ2 := by
  refine cl_of mr_X10_lookOnward rfl rfl ?_
  unfold f_X10_lookOnward at h
  refine Ex.blk 5 rfl ?_
  show Ex mr_X10_lookOnward sc (Cl MT pr sc (d + 2)) (rtE none (mk X) σ2) (7, [(0, .ref 38)], [.int 1, .int (shlI 1 (gI σ 38 33))], mk X, σ)
  refine Ex.blk 2 rfl ?_
  show Ex mr_X10_lookOnward sc (Cl MT pr sc (d + 2)) (rtE none (mk X) σ2) (9, [(1, .int ((shlI 1 (gI σ 38 33)) - 1)), (0, .ref 38)], [], mk X, σ)
  refine Ex.pick (lv' := _) [1, 0] rfl ?_
  exact lk_X10_lookOnward_9 d _ _ h
theorem lk_X10_comes_62 {pr : Ct} {sc : Nat × (Nat → Int32)} {X : En} (d : Nat) {r : Int32} {σ2 : St} (k7 : Int32 → Int32 → Int32 → Int32 → St → Option (Int32 × St)) (k15 : Int32 → Int32 → Int32 → Int32 → St → Option (Int32 × St)) (hk7 : ∀ (x1 : Int32) (x2 : Int32) (x3 : Int32) (x4 : Int32) (σ : St), k7 x1 x2 x3 x4 σ = some (r, σ2) → Ex mr_X10_comes sc (Cl MT pr sc (d + 2)) (rtE (some (.int r)) (mk X) σ2) (7, [(0, .ref 38), (1, .int x1), (2, .int x2), (3, .int x3), (4, .int x4)], [], mk X, σ)) (hk15 : ∀ (x1 : Int32) (x2 : Int32) (x3 : Int32) (x4 : Int32) (σ : St), k15 x1 x2 x3 x4 σ = some (r, σ2) → Ex mr_X10_comes sc (Cl MT pr sc (d + 2)) (rtE (some (.int r)) (mk X) σ2) (15, [(0, .ref 38), (1, .int x1), (2, .int x2), (3, .int x3), (4, .int x4)], [], mk X, σ)) (x1 : Int32) (x2 : Int32) (x3 : Int32) (x4 : Int32) (σ : St) (h : f_X10_comes_62 k7 k15 x1 x2 x3 x4 σ = some (r, σ2)) : Ex mr_X10_comes sc (Cl MT pr sc (d + 2)) (rtE (some (.int r)) (mk X) σ2) (62, [(0, .ref 38), (1, .int x1), (2, .int x2), (3, .int x3), (4, .int x4)], [], mk X, σ) := by
  unfold f_X10_comes_62 at h
  refine Ex.blk 1000 rfl ?_
  show Ex mr_X10_comes sc (Cl MT pr sc (d + 2)) (rtE (some (.int r)) (mk X) σ2) (15, [(3, .int (x3 + 1)), (0, .ref 38), (1, .int x1), (2, .int x2), (4, .int x4)], [], mk X, σ)
  refine Ex.pick (lv' := _) [1, 2, 3, 0, 4] rfl ?_
  exact hk15 _ _ _ _ _ h
theorem lk_X10_comes_74 {pr : Ct} {sc : Nat × (Nat → Int32)} {X : En} (d : Nat) {r : Int32} {σ2 : St} (k7 : Int32 → Int32 → Int32 → Int32 → St → Option (Int32 × St)) (hk7 : ∀ (x1 : Int32) (x2 : Int32) (x3 : Int32) (x4 : Int32) (σ : St), k7 x1 x2 x3 x4 σ = some (r, σ2) → Ex mr_X10_comes sc (Cl MT pr sc (d + 2)) (rtE (some (.int r)) (mk X) σ2) (7, [(0, .ref 38), (1, .int x1), (2, .int x2), (3, .int x3), (4, .int x4)], [], mk X, σ)) (x1 : Int32) (x2 : Int32) (x3 : Int32) (x4 : Int32) (σ : St) (h : f_X10_comes_74 k7 x1 x2 x3 x4 σ = some (r, σ2)) : Ex mr_X10_comes sc (Cl MT pr sc (d + 2)) (rtE (some (.int r)) (mk X) σ2) (74, [(0, .ref 38), (1, .int x1), (2, .int x2), (3, .int x3), (4, .int x4)], [], mk X, σ) := by
  unfold f_X10_comes_74 at h
  refine Ex.blk 1000 rfl ?_
  show Ex mr_X10_comes sc (Cl MT pr sc (d + 2)) (rtE (some (.int r)) (mk X) σ2) (7, [(4, .int (x4 + 1)), (0, .ref 38), (1, .int x1), (2, .int x2), (3, .int x3)], [], mk X, σ)
  refine Ex.pick (lv' := _) [1, 2, 3, 4, 0] rfl ?_
  exact hk7 _ _ _ _ _ h
theorem lk_X10_comes_15 {pr : Ct} {sc : Nat × (Nat → Int32)} {X : En} (d : Nat) {r : Int32} {σ2 : St} (k7 : Int32 → Int32 → Int32 → Int32 → St → Option (Int32 × St)) (hk7 : ∀ (x1 : Int32) (x2 : Int32) (x3 : Int32) (x4 : Int32) (σ : St), k7 x1 x2 x3 x4 σ = some (r, σ2) → Ex mr_X10_comes sc (Cl MT pr sc (d + 2)) (rtE (some (.int r)) (mk X) σ2) (7, [(0, .ref 38), (1, .int x1), (2, .int x2), (3, .int x3), (4, .int x4)], [], mk X, σ)) : ∀ (n : Nat) (x1 : Int32) (x2 : Int32) (x3 : Int32) (x4 : Int32) (σ : St), f_X10_comes_15 k7 n x1 x2 x3 x4 σ = some (r, σ2) → Ex mr_X10_comes sc (Cl MT pr sc (d + 2)) (rtE (some (.int r)) (mk X) σ2) (15, [(0, .ref 38), (1, .int x1), (2, .int x2), (3, .int x3), (4, .int x4)], [], mk X, σ) := by
  intro n
  induction n with
  | zero =>
    intro x1 x2 x3 x4 σ h
    cases h
  | succ n ih =>
    intro x1 x2 x3 x4 σ h
    simp only [f_X10_comes_15] at h
    refine Ex.blk 3 rfl ?_
    obtain ⟨p1, hp1, h⟩ := bind_sp h
    refine Exists.intro (some (.int p1.1)) (Exists.intro (mk X) (Exists.intro p1.2 (And.intro (cl_X10_has (d + 1) hp1) ?_)))
    show Ex mr_X10_comes sc (Cl MT pr sc (d + 2)) (rtE (some (.int r)) (mk X) σ2) (20, [(0, .ref 38), (1, .int x1), (2, .int x2), (3, .int x3), (4, .int x4)], [.int p1.1], mk X, p1.2)
    refine Ex.blk 1000 rfl ?_
    rcases ite_sp h with ⟨c1, h⟩ | ⟨c1, h⟩
    · refine And.intro (fun hp => absurd c1 hp) (fun _ => ?_)
      show Ex mr_X10_comes sc (Cl MT pr sc (d + 2)) (rtE (some (.int r)) (mk X) σ2) (23, [(0, .ref 38), (1, .int x1), (2, .int x2), (3, .int x3), (4, .int x4)], [], mk X, p1.2)
      refine Ex.blk 3 rfl ?_
      obtain ⟨p2, hp2, h⟩ := bind_sp h
      refine Exists.intro (some (.long p2.1)) (Exists.intro (mk X) (Exists.intro p2.2 (And.intro (cl_X10_sumOf (d + 0) hp2) ?_)))
      show Ex mr_X10_comes sc (Cl MT pr sc (d + 2)) (rtE (some (.int r)) (mk X) σ2) (28, [(0, .ref 38), (1, .int x1), (2, .int x2), (3, .int x3), (4, .int x4)], [.long p2.1], mk X, p2.2)
      refine Ex.blk 4 rfl ?_
      obtain ⟨g2, h⟩ := gd_some h
      refine And.intro (inb_ok g2) ?_
      show Ex mr_X10_comes sc (Cl MT pr sc (d + 2)) (rtE (some (.int r)) (mk X) σ2) (34, [(0, .ref 38), (1, .int x1), (2, .int x2), (3, .int x3), (4, .int x4)], [.int (gI p2.2 54 x3.toNatClampNeg), .long p2.1], mk X, p2.2)
      refine Ex.blk 4 rfl ?_
      obtain ⟨p3, hp3, h⟩ := bind_sp h
      refine Exists.intro (some (.int p3.1)) (Exists.intro (mk X) (Exists.intro p3.2 (And.intro (cl_X10_walksOf (d + 0) hp3) ?_)))
      show Ex mr_X10_comes sc (Cl MT pr sc (d + 2)) (rtE (some (.int r)) (mk X) σ2) (42, [(0, .ref 38), (1, .int x1), (2, .int x2), (3, .int x3), (4, .int x4)], [.int p3.1], mk X, p3.2)
      refine Ex.blk 5 rfl ?_
      show Ex mr_X10_comes sc (Cl MT pr sc (d + 2)) (rtE (some (.int r)) (mk X) σ2) (49, [(0, .ref 38), (1, .int x1), (2, .int x2), (3, .int x3), (4, .int x4)], [.int x3, .int 1, .int x2, .ref 55, .int p3.1], mk X, p3.2)
      refine Ex.blk 3 rfl ?_
      obtain ⟨g3, h⟩ := gd_some h
      refine And.intro (inb_ok g3) ?_
      show Ex mr_X10_comes sc (Cl MT pr sc (d + 2)) (rtE (some (.int r)) (mk X) σ2) (52, [(0, .ref 38), (1, .int x1), (2, .int x2), (3, .int x3), (4, .int x4)], [.int (gI p3.2 55 (x2 ||| (shlI 1 x3)).toNatClampNeg), .int p3.1], mk X, p3.2)
      refine Ex.blk 5 rfl ?_
      obtain ⟨g4, h⟩ := gd_some h
      refine And.intro (inb_ok g4) ?_
      show Ex mr_X10_comes sc (Cl MT pr sc (d + 2)) (rtE (some (.int r)) (mk X) σ2) (59, [(0, .ref 38), (1, .int x1), (2, .int x2), (3, .int x3), (4, .int x4)], [.int (gI p3.2 55 x2.toNatClampNeg), .int (p3.1 + (gI p3.2 55 (x2 ||| (shlI 1 x3)).toNatClampNeg))], mk X, p3.2)
      refine Ex.blk 1000 rfl ?_
      rcases ite_sp h with ⟨c5, h⟩ | ⟨c5, h⟩
      · refine And.intro (fun _ => ?_) (fun hn => absurd c5 hn)
        show Ex mr_X10_comes sc (Cl MT pr sc (d + 2)) (rtE (some (.int r)) (mk X) σ2) (68, [(0, .ref 38), (1, .int x1), (2, .int x2), (3, .int x3), (4, .int x4)], [], mk X, p3.2)
        refine Ex.blk 5 rfl ?_
        show Ex mr_X10_comes sc (Cl MT pr sc (d + 2)) (rtE (some (.int r)) (mk X) σ2) (73, [(0, .ref 38), (1, .int x1), (2, .int x2), (3, .int x3), (4, .int x4)], [.int (x2 ||| (shlI 1 x3))], mk X, p3.2)
        refine Ex.blk 1 rfl ?_
        show Ex mr_X10_comes sc (Cl MT pr sc (d + 2)) (rtE (some (.int r)) (mk X) σ2) (74, [(2, .int (x2 ||| (shlI 1 x3))), (0, .ref 38), (1, .int x1), (3, .int x3), (4, .int x4)], [], mk X, p3.2)
        refine Ex.pick (lv' := _) [1, 2, 0, 3, 4] rfl ?_
        exact lk_X10_comes_74 d _ hk7 _ _ _ _ _ h
      · refine And.intro (fun hp => absurd hp c5) (fun _ => ?_)
        show Ex mr_X10_comes sc (Cl MT pr sc (d + 2)) (rtE (some (.int r)) (mk X) σ2) (62, [(0, .ref 38), (1, .int x1), (2, .int x2), (3, .int x3), (4, .int x4)], [], mk X, p3.2)
        exact lk_X10_comes_62 d _ _ hk7 ih _ _ _ _ _ h
    · refine And.intro (fun _ => ?_) (fun hn => absurd c1 hn)
      show Ex mr_X10_comes sc (Cl MT pr sc (d + 2)) (rtE (some (.int r)) (mk X) σ2) (62, [(0, .ref 38), (1, .int x1), (2, .int x2), (3, .int x3), (4, .int x4)], [], mk X, p1.2)
      exact lk_X10_comes_62 d _ _ hk7 ih _ _ _ _ _ h
theorem lk_X10_comes_7 {pr : Ct} {sc : Nat × (Nat → Int32)} {X : En} (d : Nat) {r : Int32} {σ2 : St} : ∀ (n : Nat) (x1 : Int32) (x2 : Int32) (x3 : Int32) (x4 : Int32) (σ : St), f_X10_comes_7 n x1 x2 x3 x4 σ = some (r, σ2) → Ex mr_X10_comes sc (Cl MT pr sc (d + 2)) (rtE (some (.int r)) (mk X) σ2) (7, [(0, .ref 38), (1, .int x1), (2, .int x2), (3, .int x3), (4, .int x4)], [], mk X, σ) := by
  intro n
  induction n with
  | zero =>
    intro x1 x2 x3 x4 σ h
    cases h
  | succ n ih =>
    intro x1 x2 x3 x4 σ h
    simp only [f_X10_comes_7] at h
    refine Ex.blk 1000 rfl ?_
    rcases ite_sp h with ⟨c1, h⟩ | ⟨c1, h⟩
    · refine And.intro (fun _ => ?_) (fun hn => absurd c1 hn)
      show Ex mr_X10_comes sc (Cl MT pr sc (d + 2)) (rtE (some (.int r)) (mk X) σ2) (80, [(0, .ref 38), (1, .int x1), (2, .int x2), (3, .int x3), (4, .int x4)], [], mk X, σ)
      refine Ex.blk 1000 rfl ?_
      cases h
      exact And.intro trivial ⟨rfl, rfl, rfl⟩
    · refine And.intro (fun hp => absurd hp c1) (fun _ => ?_)
      show Ex mr_X10_comes sc (Cl MT pr sc (d + 2)) (rtE (some (.int r)) (mk X) σ2) (13, [(0, .ref 38), (1, .int x1), (2, .int x2), (3, .int x3), (4, .int x4)], [], mk X, σ)
      refine Ex.blk 1000 rfl ?_
      show Ex mr_X10_comes sc (Cl MT pr sc (d + 2)) (rtE (some (.int r)) (mk X) σ2) (15, [(3, .int 0), (0, .ref 38), (1, .int x1), (2, .int x2), (4, .int x4)], [], mk X, σ)
      refine Ex.pick (lv' := _) [1, 2, 3, 0, 4] rfl ?_
      exact lk_X10_comes_15 d _ ih FU _ _ _ _ _ h
theorem cl_X10_comes {pr : Ct} {sc : Nat × (Nat → Int32)} {X : En} (d : Nat) {r : Int32} {σ2 : St} {x1 : Int32} {σ : St} (h : f_X10_comes x1 σ = some (r, σ2)) : Cl MT pr sc (d + 2 + 1) 208 [.ref 38, .int x1] (mk X) σ (some (.int r)) (mk X) σ2 := by
  refine cl_of mr_X10_comes rfl rfl ?_
  unfold f_X10_comes at h
  refine Ex.blk 5 rfl ?_
  show Ex mr_X10_comes sc (Cl MT pr sc (d + 2)) (rtE (some (.int r)) (mk X) σ2) (5, [(3, .int 0), (2, .int 0), (0, .ref 38), (1, .int x1)], [.int 0], mk X, σ)
  refine Ex.blk 1000 rfl ?_
  show Ex mr_X10_comes sc (Cl MT pr sc (d + 2)) (rtE (some (.int r)) (mk X) σ2) (7, [(4, .int 0), (3, .int 0), (2, .int 0), (0, .ref 38), (1, .int x1)], [], mk X, σ)
  refine Ex.pick (lv' := _) [3, 4, 2, 1, 0] rfl ?_
  exact lk_X10_comes_7 d FU _ _ _ _ _ h
theorem lk_X10_fewest_23 {pr : Ct} {sc : Nat × (Nat → Int32)} {X : En} (d : Nat) {r : Int32} {σ2 : St} (σ : St) (h : f_X10_fewest_23 σ = some (r, σ2)) : Ex mr_X10_fewest sc (Cl MT pr sc (d + 3)) (rtE (some (.int r)) (mk X) σ2) (23, [], [], mk X, σ) := by
  unfold f_X10_fewest_23 at h
  refine Ex.blk 1000 rfl ?_
  cases h
  exact And.intro trivial ⟨rfl, rfl, rfl⟩
theorem lk_X10_fewest_101 {pr : Ct} {sc : Nat × (Nat → Int32)} {X : En} (d : Nat) {r : Int32} {σ2 : St} (y0 : Int32) (σ : St) (h : f_X10_fewest_101 y0 σ = some (r, σ2)) : Ex mr_X10_fewest sc (Cl MT pr sc (d + 3)) (rtE (some (.int r)) (mk X) σ2) (101, [], [.int y0], mk X, σ) := by
  unfold f_X10_fewest_101 at h
  refine Ex.blk 1000 rfl ?_
  cases h
  exact And.intro trivial ⟨rfl, rfl, rfl⟩
theorem lk_X10_fewest_69 {pr : Ct} {sc : Nat × (Nat → Int32)} {X : En} (d : Nat) {r : Int32} {σ2 : St} (k35 : Int32 → Int32 → St → Option (Int32 × St)) (hk35 : ∀ (x2 : Int32) (x3 : Int32) (σ : St), k35 x2 x3 σ = some (r, σ2) → Ex mr_X10_fewest sc (Cl MT pr sc (d + 3)) (rtE (some (.int r)) (mk X) σ2) (35, [(0, .ref 38), (2, .int x2), (3, .int x3)], [], mk X, σ)) (x2 : Int32) (x3 : Int32) (σ : St) (h : f_X10_fewest_69 k35 x2 x3 σ = some (r, σ2)) : Ex mr_X10_fewest sc (Cl MT pr sc (d + 3)) (rtE (some (.int r)) (mk X) σ2) (69, [(0, .ref 38), (2, .int x2), (3, .int x3)], [], mk X, σ) := by
  unfold f_X10_fewest_69 at h
  refine Ex.blk 1000 rfl ?_
  show Ex mr_X10_fewest sc (Cl MT pr sc (d + 3)) (rtE (some (.int r)) (mk X) σ2) (35, [(3, .int (x3 + 1)), (0, .ref 38), (2, .int x2)], [], mk X, σ)
  refine Ex.pick (lv' := _) [1, 2, 0] rfl ?_
  exact hk35 _ _ _ h
theorem lk_X10_fewest_35 {pr : Ct} {sc : Nat × (Nat → Int32)} {X : En} (d : Nat) {r : Int32} {σ2 : St} : ∀ (n : Nat) (x2 : Int32) (x3 : Int32) (σ : St), f_X10_fewest_35 n x2 x3 σ = some (r, σ2) → Ex mr_X10_fewest sc (Cl MT pr sc (d + 3)) (rtE (some (.int r)) (mk X) σ2) (35, [(0, .ref 38), (2, .int x2), (3, .int x3)], [], mk X, σ) := by
  intro n
  induction n with
  | zero =>
    intro x2 x3 σ h
    cases h
  | succ n ih =>
    intro x2 x3 σ h
    simp only [f_X10_fewest_35] at h
    refine Ex.blk 1000 rfl ?_
    rcases ite_sp h with ⟨c1, h⟩ | ⟨c1, h⟩
    · refine And.intro (fun _ => ?_) (fun hn => absurd c1 hn)
      show Ex mr_X10_fewest sc (Cl MT pr sc (d + 3)) (rtE (some (.int r)) (mk X) σ2) (75, [(0, .ref 38), (2, .int x2), (3, .int x3)], [], mk X, σ)
      refine Ex.blk 1000 rfl ?_
      cases h
      exact And.intro trivial ⟨rfl, rfl, rfl⟩
    · refine And.intro (fun hp => absurd hp c1) (fun _ => ?_)
      show Ex mr_X10_fewest sc (Cl MT pr sc (d + 3)) (rtE (some (.int r)) (mk X) σ2) (43, [(0, .ref 38), (2, .int x2), (3, .int x3)], [], mk X, σ)
      refine Ex.blk 5 rfl ?_
      show Ex mr_X10_fewest sc (Cl MT pr sc (d + 3)) (rtE (some (.int r)) (mk X) σ2) (48, [(0, .ref 38), (2, .int x2), (3, .int x3)], [.int (shlI 1 x3), .ref 38, .int x2], mk X, σ)
      refine Ex.blk 3 rfl ?_
      obtain ⟨p4, hp4, h⟩ := bind_sp h
      refine Exists.intro (some (.long p4.1)) (Exists.intro (mk X) (Exists.intro p4.2 (And.intro (cl_X10_sumOf (d + 1) hp4) ?_)))
      show Ex mr_X10_fewest sc (Cl MT pr sc (d + 3)) (rtE (some (.int r)) (mk X) σ2) (53, [(0, .ref 38), (2, .int x2), (3, .int x3)], [.long p4.1, .int x2], mk X, p4.2)
      refine Ex.blk 4 rfl ?_
      obtain ⟨g2, h⟩ := gd_some h
      refine And.intro (inb_ok g2) ?_
      show Ex mr_X10_fewest sc (Cl MT pr sc (d + 3)) (rtE (some (.int r)) (mk X) σ2) (59, [(0, .ref 38), (2, .int x2), (3, .int x3)], [.int (gI p4.2 54 x3.toNatClampNeg), .long p4.1, .int x2], mk X, p4.2)
      refine Ex.blk 4 rfl ?_
      obtain ⟨p5, hp5, h⟩ := bind_sp h
      refine Exists.intro (some (.int p5.1)) (Exists.intro (mk X) (Exists.intro p5.2 (And.intro (cl_X10_walksOf (d + 1) hp5) ?_)))
      show Ex mr_X10_fewest sc (Cl MT pr sc (d + 3)) (rtE (some (.int r)) (mk X) σ2) (67, [(0, .ref 38), (2, .int x2), (3, .int x3)], [.int p5.1, .int x2], mk X, p5.2)
      refine Ex.blk 2 rfl ?_
      show Ex mr_X10_fewest sc (Cl MT pr sc (d + 3)) (rtE (some (.int r)) (mk X) σ2) (69, [(2, .int (x2 + p5.1)), (0, .ref 38), (3, .int x3)], [], mk X, p5.2)
      refine Ex.pick (lv' := _) [1, 0, 2] rfl ?_
      exact lk_X10_fewest_69 d _ ih _ _ _ h
theorem cl_X10_fewest {pr : Ct} {sc : Nat × (Nat → Int32)} {X : En} (d : Nat) {r : Int32} {σ2 : St} {x1 : Int32} {σ : St} (h : f_X10_fewest x1 σ = some (r, σ2)) : Cl MT pr sc (d + 3 + 1) 209 [.ref 38, .int x1] (mk X) σ (some (.int r)) (mk X) σ2 := by
  refine cl_of mr_X10_fewest rfl rfl ?_
  unfold f_X10_fewest at h
  refine Ex.blk 1000 rfl ?_
  rcases ite_sp h with ⟨c1, h⟩ | ⟨c1, h⟩
  · refine And.intro (fun _ => ?_) (fun hn => absurd c1 hn)
    show Ex mr_X10_fewest sc (Cl MT pr sc (d + 3)) (rtE (some (.int r)) (mk X) σ2) (23, [(0, .ref 38), (1, .int x1)], [], mk X, σ)
    refine Ex.pick (lv' := _) [] rfl ?_
    exact lk_X10_fewest_23 d _ h
  · refine And.intro (fun hp => absurd hp c1) (fun _ => ?_)
    show Ex mr_X10_fewest sc (Cl MT pr sc (d + 3)) (rtE (some (.int r)) (mk X) σ2) (7, [(0, .ref 38), (1, .int x1)], [], mk X, σ)
    refine Ex.blk 5 rfl ?_
    show Ex mr_X10_fewest sc (Cl MT pr sc (d + 3)) (rtE (some (.int r)) (mk X) σ2) (16, [(0, .ref 38), (1, .int x1)], [.int (gI σ 38 33), .long (-1), .long x1.toInt64], mk X, σ)
    refine Ex.blk 2 rfl ?_
    obtain ⟨p1, hp1, h⟩ := bind_sp h
    refine Exists.intro (some (.int p1.1)) (Exists.intro (mk X) (Exists.intro p1.2 (And.intro (cl_X10_in (d + 2) hp1) ?_)))
    show Ex mr_X10_fewest sc (Cl MT pr sc (d + 3)) (rtE (some (.int r)) (mk X) σ2) (20, [(0, .ref 38), (1, .int x1)], [.int p1.1], mk X, p1.2)
    refine Ex.blk 1000 rfl ?_
    rcases ite_sp h with ⟨c2, h⟩ | ⟨c2, h⟩
    · refine And.intro (fun hp => absurd c2 hp) (fun _ => ?_)
      show Ex mr_X10_fewest sc (Cl MT pr sc (d + 3)) (rtE (some (.int r)) (mk X) σ2) (23, [(0, .ref 38), (1, .int x1)], [], mk X, p1.2)
      refine Ex.pick (lv' := _) [] rfl ?_
      exact lk_X10_fewest_23 d _ h
    · refine And.intro (fun _ => ?_) (fun hn => absurd c2 hn)
      show Ex mr_X10_fewest sc (Cl MT pr sc (d + 3)) (rtE (some (.int r)) (mk X) σ2) (26, [(0, .ref 38), (1, .int x1)], [], mk X, p1.2)
      refine Ex.blk 1000 rfl ?_
      rcases ite_sp h with ⟨c3, h⟩ | ⟨c3, h⟩
      · refine And.intro (fun hp => absurd c3 hp) (fun _ => ?_)
        show Ex mr_X10_fewest sc (Cl MT pr sc (d + 3)) (rtE (some (.int r)) (mk X) σ2) (31, [(0, .ref 38), (1, .int x1)], [], mk X, p1.2)
        refine Ex.blk 1000 rfl ?_
        show Ex mr_X10_fewest sc (Cl MT pr sc (d + 3)) (rtE (some (.int r)) (mk X) σ2) (35, [(3, .int 0), (2, .int 0), (0, .ref 38), (1, .int x1)], [], mk X, p1.2)
        refine Ex.pick (lv' := _) [2, 1, 0] rfl ?_
        exact lk_X10_fewest_35 d FU _ _ _ h
      · refine And.intro (fun _ => ?_) (fun hn => absurd c3 hn)
        show Ex mr_X10_fewest sc (Cl MT pr sc (d + 3)) (rtE (some (.int r)) (mk X) σ2) (77, [(0, .ref 38), (1, .int x1)], [], mk X, p1.2)
        refine Ex.blk 2 rfl ?_
        obtain ⟨p2, hp2, h⟩ := bind_sp h
        refine Exists.intro none (Exists.intro (mk X) (Exists.intro p2 (And.intro (cl_X10_lookOnward (d + 0) hp2) ?_)))
        show Ex mr_X10_fewest sc (Cl MT pr sc (d + 3)) (rtE (some (.int r)) (mk X) σ2) (81, [(0, .ref 38), (1, .int x1)], [], mk X, p2)
        refine Ex.blk 1000 rfl ?_
        rcases ite_sp h with ⟨c4, h⟩ | ⟨c4, h⟩
        · refine And.intro (fun hp => absurd c4 hp) (fun _ => ?_)
          show Ex mr_X10_fewest sc (Cl MT pr sc (d + 3)) (rtE (some (.int r)) (mk X) σ2) (85, [(0, .ref 38), (1, .int x1)], [], mk X, p2)
          refine Ex.blk 4 rfl ?_
          refine And.intro (inb_ok (i := 0) (n := 256) (by decide)) ?_
          show Ex mr_X10_fewest sc (Cl MT pr sc (d + 3)) (rtE (some (.int r)) (mk X) σ2) (91, [(0, .ref 38), (1, .int x1)], [.int (gI p2 55 (0 : Int32).toNatClampNeg)], mk X, p2)
          refine Ex.blk 1000 rfl ?_
          show Ex mr_X10_fewest sc (Cl MT pr sc (d + 3)) (rtE (some (.int r)) (mk X) σ2) (101, [(0, .ref 38), (1, .int x1)], [.int (gI p2 55 (0 : Int32).toNatClampNeg)], mk X, p2)
          refine Ex.pick (lv' := _) [] rfl ?_
          exact lk_X10_fewest_101 d _ _ h
        · refine And.intro (fun _ => ?_) (fun hn => absurd c4 hn)
          show Ex mr_X10_fewest sc (Cl MT pr sc (d + 3)) (rtE (some (.int r)) (mk X) σ2) (94, [(0, .ref 38), (1, .int x1)], [], mk X, p2)
          refine Ex.blk 5 rfl ?_
          obtain ⟨p3, hp3, h⟩ := bind_sp h
          refine Exists.intro (some (.int p3.1)) (Exists.intro (mk X) (Exists.intro p3.2 (And.intro (cl_X10_comes (d + 0) hp3) ?_)))
          show Ex mr_X10_fewest sc (Cl MT pr sc (d + 3)) (rtE (some (.int r)) (mk X) σ2) (101, [(0, .ref 38), (1, .int x1)], [.int p3.1], mk X, p3.2)
          refine Ex.pick (lv' := _) [] rfl ?_
          exact lk_X10_fewest_101 d _ _ h
theorem lk_X10_added_89 {pr : Ct} {sc : Nat × (Nat → Int32)} {X : En} (d : Nat) {r : Int32} {σ2 : St} (y0 : Int32) (σ : St) (h : f_X10_added_89 y0 σ = some (r, σ2)) : Ex mr_X10_added sc (Cl MT pr sc (d + 3)) (rtE (some (.int r)) (mk X) σ2) (89, [], [.int y0], mk X, σ) := by
  unfold f_X10_added_89 at h
  refine Ex.blk 1000 rfl ?_
  cases h
  exact And.intro trivial ⟨rfl, rfl, rfl⟩
theorem lk_X10_added_71 {pr : Ct} {sc : Nat × (Nat → Int32)} {X : En} (d : Nat) {r : Int32} {σ2 : St} (k31 : Int32 → Int64 → Int32 → Int32 → Int32 → St → Option (Int32 × St)) (hk31 : ∀ (x1 : Int32) (x2 : Int64) (x4 : Int32) (x5 : Int32) (x6 : Int32) (σ : St), k31 x1 x2 x4 x5 x6 σ = some (r, σ2) → Ex mr_X10_added sc (Cl MT pr sc (d + 3)) (rtE (some (.int r)) (mk X) σ2) (31, [(0, .ref 38), (1, .int x1), (2, .long x2), (4, .int x4), (5, .int x5), (6, .int x6)], [], mk X, σ)) (x1 : Int32) (x2 : Int64) (x4 : Int32) (x5 : Int32) (x6 : Int32) (σ : St) (h : f_X10_added_71 k31 x1 x2 x4 x5 x6 σ = some (r, σ2)) : Ex mr_X10_added sc (Cl MT pr sc (d + 3)) (rtE (some (.int r)) (mk X) σ2) (71, [(0, .ref 38), (1, .int x1), (2, .long x2), (4, .int x4), (5, .int x5), (6, .int x6)], [], mk X, σ) := by
  unfold f_X10_added_71 at h
  refine Ex.blk 1000 rfl ?_
  show Ex mr_X10_added sc (Cl MT pr sc (d + 3)) (rtE (some (.int r)) (mk X) σ2) (31, [(6, .int (x6 + 1)), (0, .ref 38), (1, .int x1), (2, .long x2), (4, .int x4), (5, .int x5)], [], mk X, σ)
  refine Ex.pick (lv' := _) [1, 2, 3, 4, 5, 0] rfl ?_
  exact hk31 _ _ _ _ _ _ h
theorem lk_X10_added_66 {pr : Ct} {sc : Nat × (Nat → Int32)} {X : En} (d : Nat) {r : Int32} {σ2 : St} (k31 : Int32 → Int64 → Int32 → Int32 → Int32 → St → Option (Int32 × St)) (hk31 : ∀ (x1 : Int32) (x2 : Int64) (x4 : Int32) (x5 : Int32) (x6 : Int32) (σ : St), k31 x1 x2 x4 x5 x6 σ = some (r, σ2) → Ex mr_X10_added sc (Cl MT pr sc (d + 3)) (rtE (some (.int r)) (mk X) σ2) (31, [(0, .ref 38), (1, .int x1), (2, .long x2), (4, .int x4), (5, .int x5), (6, .int x6)], [], mk X, σ)) (x1 : Int32) (x2 : Int64) (x4 : Int32) (x6 : Int32) (y0 : Int32) (σ : St) (h : f_X10_added_66 k31 x1 x2 x4 x6 y0 σ = some (r, σ2)) : Ex mr_X10_added sc (Cl MT pr sc (d + 3)) (rtE (some (.int r)) (mk X) σ2) (66, [(0, .ref 38), (1, .int x1), (2, .long x2), (4, .int x4), (6, .int x6)], [.int y0], mk X, σ) := by
  unfold f_X10_added_66 at h
  refine Ex.blk 1000 rfl ?_
  show Ex mr_X10_added sc (Cl MT pr sc (d + 3)) (rtE (some (.int r)) (mk X) σ2) (71, [(4, .int (x4 + 1)), (5, .int y0), (0, .ref 38), (1, .int x1), (2, .long x2), (6, .int x6)], [], mk X, σ)
  refine Ex.pick (lv' := _) [2, 3, 4, 0, 1, 5] rfl ?_
  exact lk_X10_added_71 d _ hk31 _ _ _ _ _ _ h
theorem lk_X10_added_31 {pr : Ct} {sc : Nat × (Nat → Int32)} {X : En} (d : Nat) {r : Int32} {σ2 : St} : ∀ (n : Nat) (x1 : Int32) (x2 : Int64) (x4 : Int32) (x5 : Int32) (x6 : Int32) (σ : St), f_X10_added_31 n x1 x2 x4 x5 x6 σ = some (r, σ2) → Ex mr_X10_added sc (Cl MT pr sc (d + 3)) (rtE (some (.int r)) (mk X) σ2) (31, [(0, .ref 38), (1, .int x1), (2, .long x2), (4, .int x4), (5, .int x5), (6, .int x6)], [], mk X, σ) := by
  intro n
  induction n with
  | zero =>
    intro x1 x2 x4 x5 x6 σ h
    cases h
  | succ n ih =>
    intro x1 x2 x4 x5 x6 σ h
    simp only [f_X10_added_31] at h
    refine Ex.blk 5 rfl ?_
    show Ex mr_X10_added sc (Cl MT pr sc (d + 3)) (rtE (some (.int r)) (mk X) σ2) (39, [(0, .ref 38), (1, .int x1), (2, .long x2), (4, .int x4), (5, .int x5), (6, .int x6)], [.int (shlI 1 (gI σ 38 33)), .int x6], mk X, σ)
    refine Ex.blk 1000 rfl ?_
    rcases ite_sp h with ⟨c1, h⟩ | ⟨c1, h⟩
    · refine And.intro (fun _ => ?_) (fun hn => absurd c1 hn)
      show Ex mr_X10_added sc (Cl MT pr sc (d + 3)) (rtE (some (.int r)) (mk X) σ2) (77, [(0, .ref 38), (1, .int x1), (2, .long x2), (4, .int x4), (5, .int x5), (6, .int x6)], [], mk X, σ)
      refine Ex.blk 1000 rfl ?_
      rcases ite_sp h with ⟨c2, h⟩ | ⟨c2, h⟩
      · refine And.intro (fun hp => absurd c2 hp) (fun _ => ?_)
        show Ex mr_X10_added sc (Cl MT pr sc (d + 3)) (rtE (some (.int r)) (mk X) σ2) (82, [(0, .ref 38), (1, .int x1), (2, .long x2), (4, .int x4), (5, .int x5), (6, .int x6)], [], mk X, σ)
        refine Ex.blk 1000 rfl ?_
        show Ex mr_X10_added sc (Cl MT pr sc (d + 3)) (rtE (some (.int r)) (mk X) σ2) (89, [(0, .ref 38), (1, .int x1), (2, .long x2), (4, .int x4), (5, .int x5), (6, .int x6)], [.int x4], mk X, σ)
        refine Ex.pick (lv' := _) [] rfl ?_
        exact lk_X10_added_89 d _ _ h
      · refine And.intro (fun _ => ?_) (fun hn => absurd c2 hn)
        show Ex mr_X10_added sc (Cl MT pr sc (d + 3)) (rtE (some (.int r)) (mk X) σ2) (87, [(0, .ref 38), (1, .int x1), (2, .long x2), (4, .int x4), (5, .int x5), (6, .int x6)], [], mk X, σ)
        refine Ex.blk 1000 rfl ?_
        show Ex mr_X10_added sc (Cl MT pr sc (d + 3)) (rtE (some (.int r)) (mk X) σ2) (89, [(0, .ref 38), (1, .int x1), (2, .long x2), (4, .int x4), (5, .int x5), (6, .int x6)], [.int x5], mk X, σ)
        refine Ex.pick (lv' := _) [] rfl ?_
        exact lk_X10_added_89 d _ _ h
    · refine And.intro (fun hp => absurd hp c1) (fun _ => ?_)
      show Ex mr_X10_added sc (Cl MT pr sc (d + 3)) (rtE (some (.int r)) (mk X) σ2) (42, [(0, .ref 38), (1, .int x1), (2, .long x2), (4, .int x4), (5, .int x5), (6, .int x6)], [], mk X, σ)
      refine Ex.blk 3 rfl ?_
      obtain ⟨p2, hp2, h⟩ := bind_sp h
      refine Exists.intro (some (.long p2.1)) (Exists.intro (mk X) (Exists.intro p2.2 (And.intro (cl_X10_sumOf (d + 1) hp2) ?_)))
      show Ex mr_X10_added sc (Cl MT pr sc (d + 3)) (rtE (some (.int r)) (mk X) σ2) (48, [(0, .ref 38), (1, .int x1), (2, .long x2), (4, .int x4), (5, .int x5), (6, .int x6)], [.long p2.1], mk X, p2.2)
      refine Ex.blk 1000 rfl ?_
      rcases ite_sp h with ⟨c3, h⟩ | ⟨c3, h⟩
      · refine And.intro (fun hp => absurd c3 hp) (fun _ => ?_)
        show Ex mr_X10_added sc (Cl MT pr sc (d + 3)) (rtE (some (.int r)) (mk X) σ2) (53, [(0, .ref 38), (1, .int x1), (2, .long x2), (4, .int x4), (5, .int x5), (6, .int x6)], [], mk X, p2.2)
        refine Ex.blk 1000 rfl ?_
        rcases ite_sp h with ⟨c4, h⟩ | ⟨c4, h⟩
        · refine And.intro (fun hp => absurd c4 hp) (fun _ => ?_)
          show Ex mr_X10_added sc (Cl MT pr sc (d + 3)) (rtE (some (.int r)) (mk X) σ2) (59, [(0, .ref 38), (1, .int x1), (2, .long x2), (4, .int x4), (5, .int x5), (6, .int x6)], [], mk X, p2.2)
          refine Ex.blk 1000 rfl ?_
          show Ex mr_X10_added sc (Cl MT pr sc (d + 3)) (rtE (some (.int r)) (mk X) σ2) (66, [(0, .ref 38), (1, .int x1), (2, .long x2), (4, .int x4), (5, .int x5), (6, .int x6)], [.int x6], mk X, p2.2)
          refine Ex.pick (lv' := _) [0, 1, 2, 3, 5] rfl ?_
          exact lk_X10_added_66 d _ ih _ _ _ _ _ _ h
        · refine And.intro (fun _ => ?_) (fun hn => absurd c4 hn)
          show Ex mr_X10_added sc (Cl MT pr sc (d + 3)) (rtE (some (.int r)) (mk X) σ2) (64, [(0, .ref 38), (1, .int x1), (2, .long x2), (4, .int x4), (5, .int x5), (6, .int x6)], [], mk X, p2.2)
          refine Ex.blk 1000 rfl ?_
          show Ex mr_X10_added sc (Cl MT pr sc (d + 3)) (rtE (some (.int r)) (mk X) σ2) (66, [(0, .ref 38), (1, .int x1), (2, .long x2), (4, .int x4), (5, .int x5), (6, .int x6)], [.int x5], mk X, p2.2)
          refine Ex.pick (lv' := _) [0, 1, 2, 3, 5] rfl ?_
          exact lk_X10_added_66 d _ ih _ _ _ _ _ _ h
      · refine And.intro (fun _ => ?_) (fun hn => absurd c3 hn)
        show Ex mr_X10_added sc (Cl MT pr sc (d + 3)) (rtE (some (.int r)) (mk X) σ2) (71, [(0, .ref 38), (1, .int x1), (2, .long x2), (4, .int x4), (5, .int x5), (6, .int x6)], [], mk X, p2.2)
        exact lk_X10_added_71 d _ ih _ _ _ _ _ _ h
theorem cl_X10_added {pr : Ct} {sc : Nat × (Nat → Int32)} {X : En} (d : Nat) {r : Int32} {σ2 : St} {x1 : Int32} {σ : St} (h : f_X10_added x1 σ = some (r, σ2)) : Cl MT pr sc (d + 3 + 1) 210 [.ref 38, .int x1] (mk X) σ (some (.int r)) (mk X) σ2 := by
  refine cl_of mr_X10_added rfl rfl ?_
  unfold f_X10_added at h
  refine Ex.blk 1000 rfl ?_
  rcases ite_sp h with ⟨c1, h⟩ | ⟨c1, h⟩
  · refine And.intro (fun _ => ?_) (fun hn => absurd c1 hn)
    show Ex mr_X10_added sc (Cl MT pr sc (d + 3)) (rtE (some (.int r)) (mk X) σ2) (7, [(0, .ref 38), (1, .int x1)], [], mk X, σ)
    refine Ex.blk 1000 rfl ?_
    rcases ite_sp h with ⟨c2, h⟩ | ⟨c2, h⟩
    · refine And.intro (fun _ => ?_) (fun hn => absurd c2 hn)
      show Ex mr_X10_added sc (Cl MT pr sc (d + 3)) (rtE (some (.int r)) (mk X) σ2) (17, [(0, .ref 38), (1, .int x1)], [], mk X, σ)
      refine Ex.blk 2 rfl ?_
      obtain ⟨p1, hp1, h⟩ := bind_sp h
      refine Exists.intro (some (.long p1.1)) (Exists.intro (mk X) (Exists.intro p1.2 (And.intro (cl_X10_seenNumber (d + 0) hp1) ?_)))
      show Ex mr_X10_added sc (Cl MT pr sc (d + 3)) (rtE (some (.int r)) (mk X) σ2) (21, [(0, .ref 38), (1, .int x1)], [.long p1.1], mk X, p1.2)
      refine Ex.blk 5 rfl ?_
      show Ex mr_X10_added sc (Cl MT pr sc (d + 3)) (rtE (some (.int r)) (mk X) σ2) (28, [(5, .int (-1)), (4, .int 0), (2, .long p1.1), (0, .ref 38), (1, .int x1)], [], mk X, p1.2)
      refine Ex.blk 1000 rfl ?_
      show Ex mr_X10_added sc (Cl MT pr sc (d + 3)) (rtE (some (.int r)) (mk X) σ2) (31, [(6, .int 0), (5, .int (-1)), (4, .int 0), (2, .long p1.1), (0, .ref 38), (1, .int x1)], [], mk X, p1.2)
      refine Ex.pick (lv' := _) [4, 5, 3, 2, 1, 0] rfl ?_
      exact lk_X10_added_31 d FU _ _ _ _ _ _ h
    · refine And.intro (fun hp => absurd hp c2) (fun _ => ?_)
      show Ex mr_X10_added sc (Cl MT pr sc (d + 3)) (rtE (some (.int r)) (mk X) σ2) (14, [(0, .ref 38), (1, .int x1)], [], mk X, σ)
      refine Ex.blk 1000 rfl ?_
      cases h
      exact And.intro trivial ⟨rfl, rfl, rfl⟩
  · refine And.intro (fun hp => absurd hp c1) (fun _ => ?_)
    show Ex mr_X10_added sc (Cl MT pr sc (d + 3)) (rtE (some (.int r)) (mk X) σ2) (5, [(0, .ref 38), (1, .int x1)], [], mk X, σ)
    refine Ex.blk 1000 rfl ?_
    cases h
    exact And.intro trivial ⟨rfl, rfl, rfl⟩
