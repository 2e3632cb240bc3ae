theorem lk_X10_relay_45 {pr : Ct} {sc : Nat × (Nat → Int32)} {X : En} (d : Nat) {r : Int32} {σ2 : St} (y0 : Int32) (σ : St) (h : f_X10_relay_45 y0 σ = some (r, σ2)) : Ex mr_X10_relay sc (Cl MT pr sc (d + 3)) (rtE (some (.int r)) (mk X) σ2) (45, [], [.int y0], mk X, σ) := by
  unfold f_X10_relay_45 at h
  refine Ex.blk 1000 rfl ?_
  cases h
  exact And.intro trivial ⟨rfl, rfl, rfl⟩
theorem lk_X10_relay_44 {pr : Ct} {sc : Nat × (Nat → Int32)} {X : En} (d : Nat) {r : Int32} {σ2 : St} (σ : St) (h : f_X10_relay_44 σ = some (r, σ2)) : Ex mr_X10_relay sc (Cl MT pr sc (d + 3)) (rtE (some (.int r)) (mk X) σ2) (44, [], [], mk X, σ) := by
  unfold f_X10_relay_44 at h
  refine Ex.blk 1000 rfl ?_
  show Ex mr_X10_relay sc (Cl MT pr sc (d + 3)) (rtE (some (.int r)) (mk X) σ2) (45, [], [.int (-1)], mk X, σ)
  exact lk_X10_relay_45 d _ _ h
theorem cl_X10_relay {pr : Ct} {sc : Nat × (Nat → Int32)} {X : En} (d : Nat) {r : Int32} {σ2 : St} {x1 : Int32} {x2 : Int32} {x3 : Int32} {σ : St} (h : f_X10_relay x1 x2 x3 σ = some (r, σ2)) : Cl MT pr sc (d + 3 + 1) 242 [.ref 38, .int x1, .int x2, .int x3] (mk X) σ (some (.int r)) (mk X) σ2 := by
  refine cl_of mr_X10_relay rfl rfl ?_
  unfold f_X10_relay at h
  refine Ex.blk 5 rfl ?_
  obtain ⟨p1, hp1, h⟩ := bind_sp h
  refine Exists.intro (some (.int p1.1)) (Exists.intro (mk X) (Exists.intro p1.2 (And.intro (cl_X10_in (d + 2) hp1) ?_)))
  show Ex mr_X10_relay sc (Cl MT pr sc (d + 3)) (rtE (some (.int r)) (mk X) σ2) (9, [(0, .ref 38), (1, .int x1), (2, .int x2), (3, .int x3)], [.int p1.1], mk X, p1.2)
  refine Ex.blk 1000 rfl ?_
  rcases ite_sp h with ⟨c1, h⟩ | ⟨c1, h⟩
  · refine And.intro (fun _ => ?_) (fun hn => absurd c1 hn)
    show Ex mr_X10_relay sc (Cl MT pr sc (d + 3)) (rtE (some (.int r)) (mk X) σ2) (44, [(0, .ref 38), (1, .int x1), (2, .int x2), (3, .int x3)], [], mk X, p1.2)
    refine Ex.pick (lv' := _) [] rfl ?_
    exact lk_X10_relay_44 d _ h
  · refine And.intro (fun hp => absurd hp c1) (fun _ => ?_)
    show Ex mr_X10_relay sc (Cl MT pr sc (d + 3)) (rtE (some (.int r)) (mk X) σ2) (12, [(0, .ref 38), (1, .int x1), (2, .int x2), (3, .int x3)], [], mk X, p1.2)
    refine Ex.blk 5 rfl ?_
    obtain ⟨p2, hp2, h⟩ := bind_sp h
    refine Exists.intro (some (.int p2.1)) (Exists.intro (mk X) (Exists.intro p2.2 (And.intro (cl_X10_in (d + 2) hp2) ?_)))
    show Ex mr_X10_relay sc (Cl MT pr sc (d + 3)) (rtE (some (.int r)) (mk X) σ2) (21, [(0, .ref 38), (1, .int x1), (2, .int x2), (3, .int x3)], [.int p2.1], mk X, p2.2)
    refine Ex.blk 1000 rfl ?_
    rcases ite_sp h with ⟨c2, h⟩ | ⟨c2, h⟩
    · refine And.intro (fun _ => ?_) (fun hn => absurd c2 hn)
      show Ex mr_X10_relay sc (Cl MT pr sc (d + 3)) (rtE (some (.int r)) (mk X) σ2) (44, [(0, .ref 38), (1, .int x1), (2, .int x2), (3, .int x3)], [], mk X, p2.2)
      refine Ex.pick (lv' := _) [] rfl ?_
      exact lk_X10_relay_44 d _ h
    · refine And.intro (fun hp => absurd hp c2) (fun _ => ?_)
      show Ex mr_X10_relay sc (Cl MT pr sc (d + 3)) (rtE (some (.int r)) (mk X) σ2) (24, [(0, .ref 38), (1, .int x1), (2, .int x2), (3, .int x3)], [], mk X, p2.2)
      refine Ex.blk 5 rfl ?_
      obtain ⟨p3, hp3, h⟩ := bind_sp h
      refine Exists.intro (some (.int p3.1)) (Exists.intro (mk X) (Exists.intro p3.2 (And.intro (cl_X10_in (d + 2) hp3) ?_)))
      show Ex mr_X10_relay sc (Cl MT pr sc (d + 3)) (rtE (some (.int r)) (mk X) σ2) (31, [(0, .ref 38), (1, .int x1), (2, .int x2), (3, .int x3)], [.int p3.1], mk X, p3.2)
      refine Ex.blk 1000 rfl ?_
      rcases ite_sp h with ⟨c3, h⟩ | ⟨c3, h⟩
      · refine And.intro (fun _ => ?_) (fun hn => absurd c3 hn)
        show Ex mr_X10_relay sc (Cl MT pr sc (d + 3)) (rtE (some (.int r)) (mk X) σ2) (44, [(0, .ref 38), (1, .int x1), (2, .int x2), (3, .int x3)], [], mk X, p3.2)
        refine Ex.pick (lv' := _) [] rfl ?_
        exact lk_X10_relay_44 d _ h
      · refine And.intro (fun hp => absurd hp c3) (fun _ => ?_)
        show Ex mr_X10_relay sc (Cl MT pr sc (d + 3)) (rtE (some (.int r)) (mk X) σ2) (34, [(0, .ref 38), (1, .int x1), (2, .int x2), (3, .int x3)], [], mk X, p3.2)
        refine Ex.blk 5 rfl ?_
        obtain ⟨p4, hp4, h⟩ := bind_sp h
        refine Exists.intro (some (.int p4.1)) (Exists.intro (mk X) (Exists.intro p4.2 (And.intro (cl_X10_relayOf (d + 0) hp4) ?_)))
        show Ex mr_X10_relay sc (Cl MT pr sc (d + 3)) (rtE (some (.int r)) (mk X) σ2) (41, [(0, .ref 38), (1, .int x1), (2, .int x2), (3, .int x3)], [.int p4.1], mk X, p4.2)
        refine Ex.blk 1000 rfl ?_
        show Ex mr_X10_relay sc (Cl MT pr sc (d + 3)) (rtE (some (.int r)) (mk X) σ2) (45, [(0, .ref 38), (1, .int x1), (2, .int x2), (3, .int x3)], [.int p4.1], mk X, p4.2)
        refine Ex.pick (lv' := _) [] rfl ?_
        exact lk_X10_relay_45 d _ _ h
theorem lk_X10_ranked_50 {pr : Ct} {sc : Nat × (Nat → Int32)} {X : En} (d : Nat) {r : Int32} {σ2 : St} (y0 : Int32) (σ : St) (h : f_X10_ranked_50 y0 σ = some (r, σ2)) : Ex mr_X10_ranked sc (Cl MT pr sc (d + 3)) (rtE (some (.int r)) (mk X) σ2) (50, [], [.int y0], mk X, σ) := by
  unfold f_X10_ranked_50 at h
  refine Ex.blk 1000 rfl ?_
  cases h
  exact And.intro trivial ⟨rfl, rfl, rfl⟩
theorem lk_X10_ranked_49 {pr : Ct} {sc : Nat × (Nat → Int32)} {X : En} (d : Nat) {r : Int32} {σ2 : St} (σ : St) (h : f_X10_ranked_49 σ = some (r, σ2)) : Ex mr_X10_ranked sc (Cl MT pr sc (d + 3)) (rtE (some (.int r)) (mk X) σ2) (49, [], [], mk X, σ) := by
  unfold f_X10_ranked_49 at h
  refine Ex.blk 1000 rfl ?_
  show Ex mr_X10_ranked sc (Cl MT pr sc (d + 3)) (rtE (some (.int r)) (mk X) σ2) (50, [], [.int (-1)], mk X, σ)
  exact lk_X10_ranked_50 d _ _ h
theorem cl_X10_ranked {pr : Ct} {sc : Nat × (Nat → Int32)} {X : En} (d : Nat) {r : Int32} {σ2 : St} {x1 : Int32} {x2 : Int32} {σ : St} (h : f_X10_ranked x1 x2 σ = some (r, σ2)) : Cl MT pr sc (d + 3 + 1) 243 [.ref 38, .int x1, .int x2] (mk X) σ (some (.int r)) (mk X) σ2 := by
  refine cl_of mr_X10_ranked rfl rfl ?_
  unfold f_X10_ranked at h
  refine Ex.blk 5 rfl ?_
  obtain ⟨p1, hp1, h⟩ := bind_sp h
  refine Exists.intro (some (.int p1.1)) (Exists.intro (mk X) (Exists.intro p1.2 (And.intro (cl_X10_in (d + 2) hp1) ?_)))
  show Ex mr_X10_ranked sc (Cl MT pr sc (d + 3)) (rtE (some (.int r)) (mk X) σ2) (9, [(0, .ref 38), (1, .int x1), (2, .int x2)], [.int p1.1], mk X, p1.2)
  refine Ex.blk 1000 rfl ?_
  rcases ite_sp h with ⟨c1, h⟩ | ⟨c1, h⟩
  · refine And.intro (fun _ => ?_) (fun hn => absurd c1 hn)
    show Ex mr_X10_ranked sc (Cl MT pr sc (d + 3)) (rtE (some (.int r)) (mk X) σ2) (49, [(0, .ref 38), (1, .int x1), (2, .int x2)], [], mk X, p1.2)
    refine Ex.pick (lv' := _) [] rfl ?_
    exact lk_X10_ranked_49 d _ h
  · refine And.intro (fun hp => absurd hp c1) (fun _ => ?_)
    show Ex mr_X10_ranked sc (Cl MT pr sc (d + 3)) (rtE (some (.int r)) (mk X) σ2) (12, [(0, .ref 38), (1, .int x1), (2, .int x2)], [], mk X, p1.2)
    refine Ex.blk 5 rfl ?_
    obtain ⟨p2, hp2, h⟩ := bind_sp h
    refine Exists.intro (some (.int p2.1)) (Exists.intro (mk X) (Exists.intro p2.2 (And.intro (cl_X10_in (d + 2) hp2) ?_)))
    show Ex mr_X10_ranked sc (Cl MT pr sc (d + 3)) (rtE (some (.int r)) (mk X) σ2) (21, [(0, .ref 38), (1, .int x1), (2, .int x2)], [.int p2.1], mk X, p2.2)
    refine Ex.blk 1000 rfl ?_
    rcases ite_sp h with ⟨c2, h⟩ | ⟨c2, h⟩
    · refine And.intro (fun _ => ?_) (fun hn => absurd c2 hn)
      show Ex mr_X10_ranked sc (Cl MT pr sc (d + 3)) (rtE (some (.int r)) (mk X) σ2) (49, [(0, .ref 38), (1, .int x1), (2, .int x2)], [], mk X, p2.2)
      refine Ex.pick (lv' := _) [] rfl ?_
      exact lk_X10_ranked_49 d _ h
    · refine And.intro (fun hp => absurd hp c2) (fun _ => ?_)
      show Ex mr_X10_ranked sc (Cl MT pr sc (d + 3)) (rtE (some (.int r)) (mk X) σ2) (24, [(0, .ref 38), (1, .int x1), (2, .int x2)], [], mk X, p2.2)
      refine Ex.blk 5 rfl ?_
      obtain ⟨p3, hp3, h⟩ := bind_sp h
      refine Exists.intro (some (.int p3.1)) (Exists.intro (mk X) (Exists.intro p3.2 (And.intro (cl_X10_relayOf (d + 0) hp3) ?_)))
      show Ex mr_X10_ranked sc (Cl MT pr sc (d + 3)) (rtE (some (.int r)) (mk X) σ2) (31, [(0, .ref 38), (1, .int x1), (2, .int x2)], [.int p3.1], mk X, p3.2)
      refine Ex.blk 5 rfl ?_
      obtain ⟨p4, hp4, h⟩ := bind_sp h
      refine Exists.intro (some (.int p4.1)) (Exists.intro (mk X) (Exists.intro p4.2 (And.intro (cl_X10_relayOf (d + 0) hp4) ?_)))
      show Ex mr_X10_ranked sc (Cl MT pr sc (d + 3)) (rtE (some (.int r)) (mk X) σ2) (38, [(0, .ref 38), (1, .int x1), (2, .int x2)], [.int p4.1, .int p3.1], mk X, p4.2)
      refine Ex.blk 1000 rfl ?_
      rcases ite_sp h with ⟨c3, h⟩ | ⟨c3, h⟩
      · refine And.intro (fun _ => ?_) (fun hn => absurd c3 hn)
        show Ex mr_X10_ranked sc (Cl MT pr sc (d + 3)) (rtE (some (.int r)) (mk X) σ2) (45, [(0, .ref 38), (1, .int x1), (2, .int x2)], [], mk X, p4.2)
        refine Ex.blk 1000 rfl ?_
        show Ex mr_X10_ranked sc (Cl MT pr sc (d + 3)) (rtE (some (.int r)) (mk X) σ2) (50, [(0, .ref 38), (1, .int x1), (2, .int x2)], [.int 0], mk X, p4.2)
        refine Ex.pick (lv' := _) [] rfl ?_
        exact lk_X10_ranked_50 d _ _ h
      · refine And.intro (fun hp => absurd hp c3) (fun _ => ?_)
        show Ex mr_X10_ranked sc (Cl MT pr sc (d + 3)) (rtE (some (.int r)) (mk X) σ2) (41, [(0, .ref 38), (1, .int x1), (2, .int x2)], [], mk X, p4.2)
        refine Ex.blk 1000 rfl ?_
        show Ex mr_X10_ranked sc (Cl MT pr sc (d + 3)) (rtE (some (.int r)) (mk X) σ2) (50, [(0, .ref 38), (1, .int x1), (2, .int x2)], [.int 1], mk X, p4.2)
        refine Ex.pick (lv' := _) [] rfl ?_
        exact lk_X10_ranked_50 d _ _ h
theorem lk_X10_walksTwice_48 {pr : Ct} {sc : Nat × (Nat → Int32)} {X : En} (d : Nat) {r : Int32} {σ2 : St} (k10 : Int64 → Int32 → Int32 → Int64 → Int32 → St → Option (Int32 × St)) (hk10 : ∀ (x0 : Int64) (x2 : Int32) (x3 : Int32) (x4 : Int64) (x6 : Int32) (σ : St), k10 x0 x2 x3 x4 x6 σ = some (r, σ2) → Ex mr_X10_walksTwice sc (Cl MT pr sc (d + 2)) (rtE (some (.int r)) (mk X) σ2) (10, [(0, .long x0), (2, .int x2), (3, .int x3), (4, .long x4), (6, .int x6)], [], mk X, σ)) (x0 : Int64) (x2 : Int32) (x3 : Int32) (x4 : Int64) (x6 : Int32) (σ : St) (h : f_X10_walksTwice_48 k10 x0 x2 x3 x4 x6 σ = some (r, σ2)) : Ex mr_X10_walksTwice sc (Cl MT pr sc (d + 2)) (rtE (some (.int r)) (mk X) σ2) (48, [(0, .long x0), (2, .int x2), (3, .int x3), (4, .long x4), (6, .int x6)], [], mk X, σ) := by
  unfold f_X10_walksTwice_48 at h
  refine Ex.blk 1000 rfl ?_
  show Ex mr_X10_walksTwice sc (Cl MT pr sc (d + 2)) (rtE (some (.int r)) (mk X) σ2) (10, [(6, .int (x6 + (-1))), (0, .long x0), (2, .int x2), (3, .int x3), (4, .long x4)], [], mk X, σ)
  refine Ex.pick (lv' := _) [1, 2, 3, 4, 0] rfl ?_
  exact hk10 _ _ _ _ _ _ h
theorem lk_X10_walksTwice_41 {pr : Ct} {sc : Nat × (Nat → Int32)} {X : En} (d : Nat) {r : Int32} {σ2 : St} (k10 : Int64 → Int32 → Int32 → Int64 → Int32 → St → Option (Int32 × St)) (hk10 : ∀ (x0 : Int64) (x2 : Int32) (x3 : Int32) (x4 : Int64) (x6 : Int32) (σ : St), k10 x0 x2 x3 x4 x6 σ = some (r, σ2) → Ex mr_X10_walksTwice sc (Cl MT pr sc (d + 2)) (rtE (some (.int r)) (mk X) σ2) (10, [(0, .long x0), (2, .int x2), (3, .int x3), (4, .long x4), (6, .int x6)], [], mk X, σ)) (x0 : Int64) (x2 : Int32) (x3 : Int32) (x4 : Int64) (x6 : Int32) (x7 : Int64) (σ : St) (h : f_X10_walksTwice_41 k10 x0 x2 x3 x4 x6 x7 σ = some (r, σ2)) : Ex mr_X10_walksTwice sc (Cl MT pr sc (d + 2)) (rtE (some (.int r)) (mk X) σ2) (41, [(0, .long x0), (2, .int x2), (3, .int x3), (4, .long x4), (6, .int x6), (7, .long x7)], [], mk X, σ) := by
  unfold f_X10_walksTwice_41 at h
  refine Ex.blk 4 rfl ?_
  show Ex mr_X10_walksTwice sc (Cl MT pr sc (d + 2)) (rtE (some (.int r)) (mk X) σ2) (48, [(4, .long (x4 + x7)), (0, .long x0), (2, .int x2), (3, .int x3), (6, .int x6), (7, .long x7)], [], mk X, σ)
  refine Ex.pick (lv' := _) [1, 2, 3, 0, 4] rfl ?_
  exact lk_X10_walksTwice_48 d _ hk10 _ _ _ _ _ _ h
theorem lk_X10_walksTwice_30 {pr : Ct} {sc : Nat × (Nat → Int32)} {X : En} (d : Nat) {r : Int32} {σ2 : St} (k10 : Int64 → Int32 → Int32 → Int64 → Int32 → St → Option (Int32 × St)) (hk10 : ∀ (x0 : Int64) (x2 : Int32) (x3 : Int32) (x4 : Int64) (x6 : Int32) (σ : St), k10 x0 x2 x3 x4 x6 σ = some (r, σ2) → Ex mr_X10_walksTwice sc (Cl MT pr sc (d + 2)) (rtE (some (.int r)) (mk X) σ2) (10, [(0, .long x0), (2, .int x2), (3, .int x3), (4, .long x4), (6, .int x6)], [], mk X, σ)) (x0 : Int64) (x2 : Int32) (x3 : Int32) (x4 : Int64) (x6 : Int32) (x7 : Int64) (σ : St) (h : f_X10_walksTwice_30 k10 x0 x2 x3 x4 x6 x7 σ = some (r, σ2)) : Ex mr_X10_walksTwice sc (Cl MT pr sc (d + 2)) (rtE (some (.int r)) (mk X) σ2) (30, [(0, .long x0), (2, .int x2), (3, .int x3), (4, .long x4), (6, .int x6), (7, .long x7)], [], mk X, σ) := by
  unfold f_X10_walksTwice_30 at h
  refine Ex.blk 5 rfl ?_
  obtain ⟨p3, hp3, h⟩ := bind_sp h
  refine Exists.intro (some (.int p3.1)) (Exists.intro (mk X) (Exists.intro p3.2 (And.intro (cl_X10_walksOf (d + 0) hp3) ?_)))
  show Ex mr_X10_walksTwice sc (Cl MT pr sc (d + 2)) (rtE (some (.int r)) (mk X) σ2) (39, [(0, .long x0), (2, .int x2), (3, .int x3), (4, .long x4), (6, .int x6), (7, .long x7)], [.int p3.1, .int x3], mk X, p3.2)
  refine Ex.blk 2 rfl ?_
  show Ex mr_X10_walksTwice sc (Cl MT pr sc (d + 2)) (rtE (some (.int r)) (mk X) σ2) (41, [(3, .int (x3 + p3.1)), (0, .long x0), (2, .int x2), (4, .long x4), (6, .int x6), (7, .long x7)], [], mk X, p3.2)
  refine Ex.pick (lv' := _) [1, 2, 0, 3, 4, 5] rfl ?_
  exact lk_X10_walksTwice_41 d _ hk10 _ _ _ _ _ _ _ h
theorem lk_X10_walksTwice_10 {pr : Ct} {sc : Nat × (Nat → Int32)} {X : En} (d : Nat) {r : Int32} {σ2 : St} : ∀ (n : Nat) (x0 : Int64) (x2 : Int32) (x3 : Int32) (x4 : Int64) (x6 : Int32) (σ : St), f_X10_walksTwice_10 n x0 x2 x3 x4 x6 σ = some (r, σ2) → Ex mr_X10_walksTwice sc (Cl MT pr sc (d + 2)) (rtE (some (.int r)) (mk X) σ2) (10, [(0, .long x0), (2, .int x2), (3, .int x3), (4, .long x4), (6, .int x6)], [], mk X, σ) := by
  intro n
  induction n with
  | zero =>
    intro x0 x2 x3 x4 x6 σ h
    cases h
  | succ n ih =>
    intro x0 x2 x3 x4 x6 σ h
    simp only [f_X10_walksTwice_10] at h
    refine Ex.blk 1000 rfl ?_
    rcases ite_sp h with ⟨c1, h⟩ | ⟨c1, h⟩
    · refine And.intro (fun _ => ?_) (fun hn => absurd c1 hn)
      show Ex mr_X10_walksTwice sc (Cl MT pr sc (d + 2)) (rtE (some (.int r)) (mk X) σ2) (54, [(0, .long x0), (2, .int x2), (3, .int x3), (4, .long x4), (6, .int x6)], [], mk X, σ)
      refine Ex.blk 1000 rfl ?_
      cases h
      exact And.intro trivial ⟨rfl, rfl, rfl⟩
    · refine And.intro (fun hp => absurd hp c1) (fun _ => ?_)
      show Ex mr_X10_walksTwice sc (Cl MT pr sc (d + 2)) (rtE (some (.int r)) (mk X) σ2) (15, [(0, .long x0), (2, .int x2), (3, .int x3), (4, .long x4), (6, .int x6)], [], mk X, σ)
      refine Ex.blk 3 rfl ?_
      obtain ⟨p1, hp1, h⟩ := bind_sp h
      refine Exists.intro (some (.int p1.1)) (Exists.intro (mk X) (Exists.intro p1.2 (And.intro (cl_X10_digitOf (d + 1) hp1) ?_)))
      show Ex mr_X10_walksTwice sc (Cl MT pr sc (d + 2)) (rtE (some (.int r)) (mk X) σ2) (21, [(0, .long x0), (2, .int x2), (3, .int x3), (4, .long x4), (6, .int x6)], [.int p1.1], mk X, p1.2)
      refine Ex.blk 3 rfl ?_
      obtain ⟨p2, hp2, h⟩ := bind_sp h
      refine Exists.intro (some (.long p2.1)) (Exists.intro (mk X) (Exists.intro p2.2 (And.intro (cl_X10_ten (d + 1) hp2) ?_)))
      show Ex mr_X10_walksTwice sc (Cl MT pr sc (d + 2)) (rtE (some (.int r)) (mk X) σ2) (27, [(0, .long x0), (2, .int x2), (3, .int x3), (4, .long x4), (6, .int x6)], [.long p2.1, .long p1.1.toInt64], mk X, p2.2)
      refine Ex.blk 2 rfl ?_
      show Ex mr_X10_walksTwice sc (Cl MT pr sc (d + 2)) (rtE (some (.int r)) (mk X) σ2) (30, [(7, .long (p1.1.toInt64 * p2.1)), (0, .long x0), (2, .int x2), (3, .int x3), (4, .long x4), (6, .int x6)], [], mk X, p2.2)
      refine Ex.pick (lv' := _) [1, 2, 3, 4, 5, 0] rfl ?_
      exact lk_X10_walksTwice_30 d _ ih _ _ _ _ _ _ _ h
theorem cl_X10_walksTwice {pr : Ct} {sc : Nat × (Nat → Int32)} {X : En} (d : Nat) {r : Int32} {σ2 : St} {x0 : Int64} {x2 : Int32} {σ : St} (h : f_X10_walksTwice x0 x2 σ = some (r, σ2)) : Cl MT pr sc (d + 2 + 1) 244 [.long x0, .int x2] (mk X) σ (some (.int r)) (mk X) σ2 := by
  refine cl_of mr_X10_walksTwice rfl rfl ?_
  unfold f_X10_walksTwice at h
  refine Ex.blk 5 rfl ?_
  show Ex mr_X10_walksTwice sc (Cl MT pr sc (d + 2)) (rtE (some (.int r)) (mk X) σ2) (6, [(4, .long x0), (3, .int 0), (0, .long x0), (2, .int x2)], [.int x2], mk X, σ)
  refine Ex.blk 1000 rfl ?_
  show Ex mr_X10_walksTwice sc (Cl MT pr sc (d + 2)) (rtE (some (.int r)) (mk X) σ2) (10, [(6, .int (x2 - 1)), (4, .long x0), (3, .int 0), (0, .long x0), (2, .int x2)], [], mk X, σ)
  refine Ex.pick (lv' := _) [3, 4, 2, 1, 0] rfl ?_
  exact lk_X10_walksTwice_10 d FU _ _ _ _ _ _ h
theorem lk_X10_relax_53 {pr : Ct} {sc : Nat × (Nat → Int32)} {X : En} (d : Nat) {σ2 : St} (y0 : Int32) (y1 : Int32) (σ : St) (h : f_X10_relax_53 y0 y1 σ = some σ2) : Ex mr_X10_relax sc (Cl MT pr sc (d + 0)) (rtE none (mk X) σ2) (53, [], [.int y0, .int y1, .ref 67], mk X, σ) := by
  unfold f_X10_relax_53 at h
  refine Ex.blk 1 rfl ?_
  obtain ⟨g1, h⟩ := gd_some h
  refine And.intro (inb_ok g1) ?_
  show Ex mr_X10_relax sc (Cl MT pr sc (d + 0)) (rtE none (mk X) σ2) (54, [], [], mk X, (sI σ 67 y1.toNatClampNeg y0))
  refine Ex.blk 1000 rfl ?_
  cases h
  exact And.intro trivial ⟨rfl, rfl, rfl⟩
theorem lk_X10_relax_42 {pr : Ct} {sc : Nat × (Nat → Int32)} {X : En} (d : Nat) {σ2 : St} (x4 : Int32) (y0 : Int32) (σ : St) (h : f_X10_relax_42 x4 y0 σ = some σ2) : Ex mr_X10_relax sc (Cl MT pr sc (d + 0)) (rtE none (mk X) σ2) (42, [(4, .int x4)], [.int y0, .ref 67], mk X, σ) := by
  unfold f_X10_relax_42 at h
  refine Ex.blk 1000 rfl ?_
  show Ex mr_X10_relax sc (Cl MT pr sc (d + 0)) (rtE none (mk X) σ2) (53, [(4, .int x4)], [.int x4, .int y0, .ref 67], mk X, σ)
  refine Ex.pick (lv' := _) [] rfl ?_
  exact lk_X10_relax_53 d _ _ _ h
theorem lk_X10_relax_16 {pr : Ct} {sc : Nat × (Nat → Int32)} {X : En} (d : Nat) {σ2 : St} (x2 : Int32) (x4 : Int32) (σ : St) (h : f_X10_relax_16 x2 x4 σ = some σ2) : Ex mr_X10_relax sc (Cl MT pr sc (d + 0)) (rtE none (mk X) σ2) (16, [(0, .ref 38), (2, .int x2), (4, .int x4)], [], mk X, σ) := by
  unfold f_X10_relax_16 at h
  refine Ex.blk 5 rfl ?_
  show Ex mr_X10_relax sc (Cl MT pr sc (d + 0)) (rtE none (mk X) σ2) (25, [(0, .ref 38), (2, .int x2), (4, .int x4)], [.ref 67, .int x2, .ref 67], mk X, σ)
  refine Ex.blk 2 rfl ?_
  obtain ⟨g1, h⟩ := gd_some h
  refine And.intro (inb_ok g1) ?_
  show Ex mr_X10_relax sc (Cl MT pr sc (d + 0)) (rtE none (mk X) σ2) (27, [(0, .ref 38), (2, .int x2), (4, .int x4)], [.int (gI σ 67 x2.toNatClampNeg), .int x2, .ref 67], mk X, σ)
  refine Ex.blk 1000 rfl ?_
  rcases ite_sp h with ⟨c2, h⟩ | ⟨c2, h⟩
  · refine And.intro (fun _ => ?_) (fun hn => absurd c2 hn)
    show Ex mr_X10_relax sc (Cl MT pr sc (d + 0)) (rtE none (mk X) σ2) (42, [(0, .ref 38), (2, .int x2), (4, .int x4)], [.int x2, .ref 67], mk X, σ)
    refine Ex.pick (lv' := _) [2] rfl ?_
    exact lk_X10_relax_42 d _ _ _ h
  · refine And.intro (fun hp => absurd hp c2) (fun _ => ?_)
    show Ex mr_X10_relax sc (Cl MT pr sc (d + 0)) (rtE none (mk X) σ2) (31, [(0, .ref 38), (2, .int x2), (4, .int x4)], [.int x2, .ref 67], mk X, σ)
    refine Ex.blk 5 rfl ?_
    obtain ⟨g3, h⟩ := gd_some h
    refine And.intro (inb_ok g3) ?_
    show Ex mr_X10_relax sc (Cl MT pr sc (d + 0)) (rtE none (mk X) σ2) (39, [(0, .ref 38), (2, .int x2), (4, .int x4)], [.int (gI σ 67 x2.toNatClampNeg), .int x4, .int x2, .ref 67], mk X, σ)
    refine Ex.blk 1000 rfl ?_
    rcases ite_sp h with ⟨c4, h⟩ | ⟨c4, h⟩
    · refine And.intro (fun _ => ?_) (fun hn => absurd c4 hn)
      show Ex mr_X10_relax sc (Cl MT pr sc (d + 0)) (rtE none (mk X) σ2) (47, [(0, .ref 38), (2, .int x2), (4, .int x4)], [.int x2, .ref 67], mk X, σ)
      refine Ex.blk 4 rfl ?_
      obtain ⟨g5, h⟩ := gd_some h
      refine And.intro (inb_ok g5) ?_
      show Ex mr_X10_relax sc (Cl MT pr sc (d + 0)) (rtE none (mk X) σ2) (53, [(0, .ref 38), (2, .int x2), (4, .int x4)], [.int (gI σ 67 x2.toNatClampNeg), .int x2, .ref 67], mk X, σ)
      refine Ex.pick (lv' := _) [] rfl ?_
      exact lk_X10_relax_53 d _ _ _ h
    · refine And.intro (fun hp => absurd hp c4) (fun _ => ?_)
      show Ex mr_X10_relax sc (Cl MT pr sc (d + 0)) (rtE none (mk X) σ2) (42, [(0, .ref 38), (2, .int x2), (4, .int x4)], [.int x2, .ref 67], mk X, σ)
      refine Ex.pick (lv' := _) [2] rfl ?_
      exact lk_X10_relax_42 d _ _ _ h
theorem cl_X10_relax {pr : Ct} {sc : Nat × (Nat → Int32)} {X : En} (d : Nat) {σ2 : St} {x1 : Int32} {x2 : Int32} {x3 : Int32} {σ : St} (h : f_X10_relax x1 x2 x3 σ = some σ2) : Cl MT pr sc (d + 0 + 1) 245 [.ref 38, .int x1, .int x2, .int x3] (mk X) σ none (mk X) σ2 := by
  refine cl_of mr_X10_relax rfl rfl ?_
  unfold f_X10_relax at h
  refine Ex.blk 4 rfl ?_
  obtain ⟨g1, h⟩ := gd_some h
  refine And.intro (inb_ok g1) ?_
  show Ex mr_X10_relax sc (Cl MT pr sc (d + 0)) (rtE none (mk X) σ2) (6, [(0, .ref 38), (1, .int x1), (2, .int x2), (3, .int x3)], [.int (gI σ 67 x1.toNatClampNeg)], mk X, σ)
  refine Ex.blk 5 rfl ?_
  show Ex mr_X10_relax sc (Cl MT pr sc (d + 0)) (rtE none (mk X) σ2) (13, [(0, .ref 38), (1, .int x1), (2, .int x2), (3, .int x3)], [.int 1, .int ((gI σ 67 x1.toNatClampNeg) + (1000 * x3))], mk X, σ)
  refine Ex.blk 2 rfl ?_
  show Ex mr_X10_relax sc (Cl MT pr sc (d + 0)) (rtE none (mk X) σ2) (16, [(4, .int (((gI σ 67 x1.toNatClampNeg) + (1000 * x3)) + 1)), (0, .ref 38), (1, .int x1), (2, .int x2), (3, .int x3)], [], mk X, σ)
  refine Ex.pick (lv' := _) [1, 3, 0] rfl ?_
  exact lk_X10_relax_16 d _ _ _ h
theorem lk_X10_makeAll_206 {pr : Ct} {sc : Nat × (Nat → Int32)} {X : En} (d : Nat) {σ2 : St} (k39 : Int32 → St → Option (St)) (hk39 : ∀ (x1 : Int32) (σ : St), k39 x1 σ = some σ2 → Ex mr_X10_makeAll sc (Cl MT pr sc (d + 3)) (rtE none (mk X) σ2) (39, [(0, .ref 38), (1, .int x1)], [], mk X, σ)) (x1 : Int32) (σ : St) (h : f_X10_makeAll_206 k39 x1 σ = some σ2) : Ex mr_X10_makeAll sc (Cl MT pr sc (d + 3)) (rtE none (mk X) σ2) (206, [(0, .ref 38), (1, .int x1)], [], mk X, σ) := by
  unfold f_X10_makeAll_206 at h
  refine Ex.blk 1000 rfl ?_
  show Ex mr_X10_makeAll sc (Cl MT pr sc (d + 3)) (rtE none (mk X) σ2) (39, [(1, .int (x1 + 1)), (0, .ref 38)], [], mk X, σ)
  refine Ex.pick (lv' := _) [1, 0] rfl ?_
  exact hk39 _ _ h
theorem lk_X10_makeAll_171 {pr : Ct} {sc : Nat × (Nat → Int32)} {X : En} (d : Nat) {σ2 : St} (k39 : Int32 → St → Option (St)) (k117 : Int32 → Int32 → Int32 → St → Option (St)) (k125 : Int32 → Int32 → Int32 → Int32 → St → Option (St)) (hk39 : ∀ (x1 : Int32) (σ : St), k39 x1 σ = some σ2 → Ex mr_X10_makeAll sc (Cl MT pr sc (d + 3)) (rtE none (mk X) σ2) (39, [(0, .ref 38), (1, .int x1)], [], mk X, σ)) (hk117 : ∀ (x1 : Int32) (x2 : Int32) (x3 : Int32) (σ : St), k117 x1 x2 x3 σ = some σ2 → Ex mr_X10_makeAll sc (Cl MT pr sc (d + 3)) (rtE none (mk X) σ2) (117, [(0, .ref 38), (1, .int x1), (2, .int x2), (3, .int x3)], [], mk X, σ)) (hk125 : ∀ (x1 : Int32) (x2 : Int32) (x3 : Int32) (x4 : Int32) (σ : St), k125 x1 x2 x3 x4 σ = some σ2 → Ex mr_X10_makeAll sc (Cl MT pr sc (d + 3)) (rtE none (mk X) σ2) (125, [(0, .ref 38), (1, .int x1), (2, .int x2), (3, .int x3), (4, .int x4)], [], mk X, σ)) (x1 : Int32) (x2 : Int32) (x3 : Int32) (x4 : Int32) (σ : St) (h : f_X10_makeAll_171 k39 k117 k125 x1 x2 x3 x4 σ = some σ2) : Ex mr_X10_makeAll sc (Cl MT pr sc (d + 3)) (rtE none (mk X) σ2) (171, [(0, .ref 38), (1, .int x1), (2, .int x2), (3, .int x3), (4, .int x4)], [], mk X, σ) := by
  unfold f_X10_makeAll_171 at h
  refine Ex.blk 1000 rfl ?_
  show Ex mr_X10_makeAll sc (Cl MT pr sc (d + 3)) (rtE none (mk X) σ2) (125, [(4, .int (x4 + 1)), (0, .ref 38), (1, .int x1), (2, .int x2), (3, .int x3)], [], mk X, σ)
  refine Ex.pick (lv' := _) [1, 2, 3, 4, 0] rfl ?_
  exact hk125 _ _ _ _ _ h
theorem lk_X10_makeAll_143 {pr : Ct} {sc : Nat × (Nat → Int32)} {X : En} (d : Nat) {σ2 : St} (k39 : Int32 → St → Option (St)) (k117 : Int32 → Int32 → Int32 → St → Option (St)) (k125 : Int32 → Int32 → Int32 → Int32 → St → Option (St)) (hk39 : ∀ (x1 : Int32) (σ : St), k39 x1 σ = some σ2 → Ex mr_X10_makeAll sc (Cl MT pr sc (d + 3)) (rtE none (mk X) σ2) (39, [(0, .ref 38), (1, .int x1)], [], mk X, σ)) (hk117 : ∀ (x1 : Int32) (x2 : Int32) (x3 : Int32) (σ : St), k117 x1 x2 x3 σ = some σ2 → Ex mr_X10_makeAll sc (Cl MT pr sc (d + 3)) (rtE none (mk X) σ2) (117, [(0, .ref 38), (1, .int x1), (2, .int x2), (3, .int x3)], [], mk X, σ)) (hk125 : ∀ (x1 : Int32) (x2 : Int32) (x3 : Int32) (x4 : Int32) (σ : St), k125 x1 x2 x3 x4 σ = some σ2 → Ex mr_X10_makeAll sc (Cl MT pr sc (d + 3)) (rtE none (mk X) σ2) (125, [(0, .ref 38), (1, .int x1), (2, .int x2), (3, .int x3), (4, .int x4)], [], mk X, σ)) (x1 : Int32) (x2 : Int32) (x3 : Int32) (x4 : Int32) (x5 : Int32) (σ : St) (h : f_X10_makeAll_143 k39 k117 k125 x1 x2 x3 x4 x5 σ = some σ2) : Ex mr_X10_makeAll sc (Cl MT pr sc (d + 3)) (rtE none (mk X) σ2) (143, [(0, .ref 38), (1, .int x1), (2, .int x2), (3, .int x3), (4, .int x4), (5, .int x5)], [], mk X, σ) := by
  unfold f_X10_makeAll_143 at h
  refine Ex.blk 1000 rfl ?_
  rcases ite_sp h with ⟨c1, h⟩ | ⟨c1, h⟩
  · refine And.intro (fun _ => ?_) (fun hn => absurd c1 hn)
    show Ex mr_X10_makeAll sc (Cl MT pr sc (d + 3)) (rtE none (mk X) σ2) (171, [(0, .ref 38), (1, .int x1), (2, .int x2), (3, .int x3), (4, .int x4), (5, .int x5)], [], mk X, σ)
    refine Ex.pick (lv' := _) [0, 1, 2, 3, 4] rfl ?_
    exact lk_X10_makeAll_171 d _ _ _ hk39 hk117 hk125 _ _ _ _ _ h
  · refine And.intro (fun hp => absurd hp c1) (fun _ => ?_)
    show Ex mr_X10_makeAll sc (Cl MT pr sc (d + 3)) (rtE none (mk X) σ2) (153, [(0, .ref 38), (1, .int x1), (2, .int x2), (3, .int x3), (4, .int x4), (5, .int x5)], [], mk X, σ)
    refine Ex.blk 5 rfl ?_
    show Ex mr_X10_makeAll sc (Cl MT pr sc (d + 3)) (rtE none (mk X) σ2) (159, [(0, .ref 38), (1, .int x1), (2, .int x2), (3, .int x3), (4, .int x4), (5, .int x5)], [.int (x2 + x5), .int x2, .ref 38], mk X, σ)
    refine Ex.blk 5 rfl ?_
    show Ex mr_X10_makeAll sc (Cl MT pr sc (d + 3)) (rtE none (mk X) σ2) (165, [(0, .ref 38), (1, .int x1), (2, .int x2), (3, .int x3), (4, .int x4), (5, .int x5)], [.int 3, .long x5.toInt64, .long x2.toInt64, .int (x2 + x5), .int x2, .ref 38], mk X, σ)
    refine Ex.blk 1 rfl ?_
    obtain ⟨p4, hp4, h⟩ := bind_sp h
    refine Exists.intro (some (.int p4.1)) (Exists.intro (mk X) (Exists.intro p4.2 (And.intro (cl_X10_walksOf (d + 1) hp4) ?_)))
    show Ex mr_X10_makeAll sc (Cl MT pr sc (d + 3)) (rtE none (mk X) σ2) (168, [(0, .ref 38), (1, .int x1), (2, .int x2), (3, .int x3), (4, .int x4), (5, .int x5)], [.int p4.1, .int (x2 + x5), .int x2, .ref 38], mk X, p4.2)
    refine Ex.blk 1 rfl ?_
    obtain ⟨p5, hp5, h⟩ := bind_sp h
    refine Exists.intro none (Exists.intro (mk X) (Exists.intro p5 (And.intro (cl_X10_relax (d + 2) hp5) ?_)))
    show Ex mr_X10_makeAll sc (Cl MT pr sc (d + 3)) (rtE none (mk X) σ2) (171, [(0, .ref 38), (1, .int x1), (2, .int x2), (3, .int x3), (4, .int x4), (5, .int x5)], [], mk X, p5)
    refine Ex.pick (lv' := _) [0, 1, 2, 3, 4] rfl ?_
    exact lk_X10_makeAll_171 d _ _ _ hk39 hk117 hk125 _ _ _ _ _ h
theorem lk_X10_makeAll_125 {pr : Ct} {sc : Nat × (Nat → Int32)} {X : En} (d : Nat) {σ2 : St} (k39 : Int32 → St → Option (St)) (k117 : Int32 → Int32 → Int32 → St → Option (St)) (hk39 : ∀ (x1 : Int32) (σ : St), k39 x1 σ = some σ2 → Ex mr_X10_makeAll sc (Cl MT pr sc (d + 3)) (rtE none (mk X) σ2) (39, [(0, .ref 38), (1, .int x1)], [], mk X, σ)) (hk117 : ∀ (x1 : Int32) (x2 : Int32) (x3 : Int32) (σ : St), k117 x1 x2 x3 σ = some σ2 → Ex mr_X10_makeAll sc (Cl MT pr sc (d + 3)) (rtE none (mk X) σ2) (117, [(0, .ref 38), (1, .int x1), (2, .int x2), (3, .int x3)], [], mk X, σ)) : ∀ (n : Nat) (x1 : Int32) (x2 : Int32) (x3 : Int32) (x4 : Int32) (σ : St), f_X10_makeAll_125 k39 k117 n x1 x2 x3 x4 σ = some σ2 → Ex mr_X10_makeAll sc (Cl MT pr sc (d + 3)) (rtE none (mk X) σ2) (125, [(0, .ref 38), (1, .int x1), (2, .int x2), (3, .int x3), (4, .int x4)], [], mk X, σ) := by
  intro n
  induction n with
  | zero =>
    intro x1 x2 x3 x4 σ h
    cases h
  | succ n ih =>
    intro x1 x2 x3 x4 σ h
    simp only [f_X10_makeAll_125] at h
    refine Ex.blk 1000 rfl ?_
    rcases ite_sp h with ⟨c1, h⟩ | ⟨c1, h⟩
    · refine And.intro (fun _ => ?_) (fun hn => absurd c1 hn)
      show Ex mr_X10_makeAll sc (Cl MT pr sc (d + 3)) (rtE none (mk X) σ2) (177, [(0, .ref 38), (1, .int x1), (2, .int x2), (3, .int x3), (4, .int x4)], [], mk X, σ)
      refine Ex.blk 1000 rfl ?_
      show Ex mr_X10_makeAll sc (Cl MT pr sc (d + 3)) (rtE none (mk X) σ2) (117, [(3, .int (x3 + 1)), (0, .ref 38), (1, .int x1), (2, .int x2), (4, .int x4)], [], mk X, σ)
      refine Ex.pick (lv' := _) [1, 2, 3, 0] rfl ?_
      exact hk117 _ _ _ _ h
    · refine And.intro (fun hp => absurd hp c1) (fun _ => ?_)
      show Ex mr_X10_makeAll sc (Cl MT pr sc (d + 3)) (rtE none (mk X) σ2) (132, [(0, .ref 38), (1, .int x1), (2, .int x2), (3, .int x3), (4, .int x4)], [], mk X, σ)
      refine Ex.blk 4 rfl ?_
      obtain ⟨p3, hp3, h⟩ := bind_sp h
      refine Exists.intro (some (.long p3.1)) (Exists.intro (mk X) (Exists.intro p3.2 (And.intro (cl_X10_ten (d + 2) hp3) ?_)))
      show Ex mr_X10_makeAll sc (Cl MT pr sc (d + 3)) (rtE none (mk X) σ2) (139, [(0, .ref 38), (1, .int x1), (2, .int x2), (3, .int x3), (4, .int x4)], [.long p3.1, .long x4.toInt64], mk X, p3.2)
      refine Ex.blk 3 rfl ?_
      show Ex mr_X10_makeAll sc (Cl MT pr sc (d + 3)) (rtE none (mk X) σ2) (143, [(5, .int (x4.toInt64 * p3.1).toInt32), (0, .ref 38), (1, .int x1), (2, .int x2), (3, .int x3), (4, .int x4)], [], mk X, p3.2)
      refine Ex.pick (lv' := _) [1, 2, 3, 4, 5, 0] rfl ?_
      exact lk_X10_makeAll_143 d _ _ _ hk39 hk117 ih _ _ _ _ _ _ h
theorem lk_X10_makeAll_117 {pr : Ct} {sc : Nat × (Nat → Int32)} {X : En} (d : Nat) {σ2 : St} (k39 : Int32 → St → Option (St)) (hk39 : ∀ (x1 : Int32) (σ : St), k39 x1 σ = some σ2 → Ex mr_X10_makeAll sc (Cl MT pr sc (d + 3)) (rtE none (mk X) σ2) (39, [(0, .ref 38), (1, .int x1)], [], mk X, σ)) : ∀ (n : Nat) (x1 : Int32) (x2 : Int32) (x3 : Int32) (σ : St), f_X10_makeAll_117 k39 n x1 x2 x3 σ = some σ2 → Ex mr_X10_makeAll sc (Cl MT pr sc (d + 3)) (rtE none (mk X) σ2) (117, [(0, .ref 38), (1, .int x1), (2, .int x2), (3, .int x3)], [], mk X, σ) := by
  intro n
  induction n with
  | zero =>
    intro x1 x2 x3 σ h
    cases h
  | succ n ih =>
    intro x1 x2 x3 σ h
    simp only [f_X10_makeAll_117] at h
    refine Ex.blk 1000 rfl ?_
    rcases ite_sp h with ⟨c1, h⟩ | ⟨c1, h⟩
    · refine And.intro (fun _ => ?_) (fun hn => absurd c1 hn)
      show Ex mr_X10_makeAll sc (Cl MT pr sc (d + 3)) (rtE none (mk X) σ2) (183, [(0, .ref 38), (1, .int x1), (2, .int x2), (3, .int x3)], [], mk X, σ)
      refine Ex.blk 1000 rfl ?_
      rcases ite_sp h with ⟨c2, h⟩ | ⟨c2, h⟩
      · refine And.intro (fun _ => ?_) (fun hn => absurd c2 hn)
        show Ex mr_X10_makeAll sc (Cl MT pr sc (d + 3)) (rtE none (mk X) σ2) (206, [(0, .ref 38), (1, .int x1), (2, .int x2), (3, .int x3)], [], mk X, σ)
        refine Ex.pick (lv' := _) [0, 1] rfl ?_
        exact lk_X10_makeAll_206 d _ hk39 _ _ h
      · refine And.intro (fun hp => absurd hp c2) (fun _ => ?_)
        show Ex mr_X10_makeAll sc (Cl MT pr sc (d + 3)) (rtE none (mk X) σ2) (192, [(0, .ref 38), (1, .int x1), (2, .int x2), (3, .int x3)], [], mk X, σ)
        refine Ex.blk 5 rfl ?_
        show Ex mr_X10_makeAll sc (Cl MT pr sc (d + 3)) (rtE none (mk X) σ2) (197, [(0, .ref 38), (1, .int x1), (2, .int x2), (3, .int x3)], [.int (2 * x2), .int x2, .ref 38], mk X, σ)
        refine Ex.blk 4 rfl ?_
        obtain ⟨p1, hp1, h⟩ := bind_sp h
        refine Exists.intro (some (.int p1.1)) (Exists.intro (mk X) (Exists.intro p1.2 (And.intro (cl_X10_walksTwice (d + 0) hp1) ?_)))
        show Ex mr_X10_makeAll sc (Cl MT pr sc (d + 3)) (rtE none (mk X) σ2) (203, [(0, .ref 38), (1, .int x1), (2, .int x2), (3, .int x3)], [.int p1.1, .int (2 * x2), .int x2, .ref 38], mk X, p1.2)
        refine Ex.blk 1 rfl ?_
        obtain ⟨p2, hp2, h⟩ := bind_sp h
        refine Exists.intro none (Exists.intro (mk X) (Exists.intro p2 (And.intro (cl_X10_relax (d + 2) hp2) ?_)))
        show Ex mr_X10_makeAll sc (Cl MT pr sc (d + 3)) (rtE none (mk X) σ2) (206, [(0, .ref 38), (1, .int x1), (2, .int x2), (3, .int x3)], [], mk X, p2)
        refine Ex.pick (lv' := _) [0, 1] rfl ?_
        exact lk_X10_makeAll_206 d _ hk39 _ _ h
    · refine And.intro (fun hp => absurd hp c1) (fun _ => ?_)
      show Ex mr_X10_makeAll sc (Cl MT pr sc (d + 3)) (rtE none (mk X) σ2) (122, [(0, .ref 38), (1, .int x1), (2, .int x2), (3, .int x3)], [], mk X, σ)
      refine Ex.blk 1000 rfl ?_
      show Ex mr_X10_makeAll sc (Cl MT pr sc (d + 3)) (rtE none (mk X) σ2) (125, [(4, .int 1), (0, .ref 38), (1, .int x1), (2, .int x2), (3, .int x3)], [], mk X, σ)
      refine Ex.pick (lv' := _) [1, 2, 3, 4, 0] rfl ?_
      exact lk_X10_makeAll_125 d _ _ hk39 ih FU _ _ _ _ _ h
theorem lk_X10_makeAll_101 {pr : Ct} {sc : Nat × (Nat → Int32)} {X : En} (d : Nat) {σ2 : St} (k39 : Int32 → St → Option (St)) (k50 : Int32 → Int32 → Int32 → St → Option (St)) (hk39 : ∀ (x1 : Int32) (σ : St), k39 x1 σ = some σ2 → Ex mr_X10_makeAll sc (Cl MT pr sc (d + 3)) (rtE none (mk X) σ2) (39, [(0, .ref 38), (1, .int x1)], [], mk X, σ)) (hk50 : ∀ (x1 : Int32) (x2 : Int32) (x3 : Int32) (σ : St), k50 x1 x2 x3 σ = some σ2 → Ex mr_X10_makeAll sc (Cl MT pr sc (d + 3)) (rtE none (mk X) σ2) (50, [(0, .ref 38), (1, .int x1), (2, .int x2), (3, .int x3)], [], mk X, σ)) (x1 : Int32) (x3 : Int32) (y0 : Int32) (σ : St) (h : f_X10_makeAll_101 k39 k50 x1 x3 y0 σ = some σ2) : Ex mr_X10_makeAll sc (Cl MT pr sc (d + 3)) (rtE none (mk X) σ2) (101, [(0, .ref 38), (1, .int x1), (3, .int x3)], [.int y0], mk X, σ) := by
  unfold f_X10_makeAll_101 at h
  refine Ex.blk 1000 rfl ?_
  show Ex mr_X10_makeAll sc (Cl MT pr sc (d + 3)) (rtE none (mk X) σ2) (50, [(3, .int (x3 + 1)), (2, .int y0), (0, .ref 38), (1, .int x1)], [], mk X, σ)
  refine Ex.pick (lv' := _) [2, 3, 1, 0] rfl ?_
  exact hk50 _ _ _ _ h
theorem lk_X10_makeAll_100 {pr : Ct} {sc : Nat × (Nat → Int32)} {X : En} (d : Nat) {σ2 : St} (k39 : Int32 → St → Option (St)) (k50 : Int32 → Int32 → Int32 → St → Option (St)) (hk39 : ∀ (x1 : Int32) (σ : St), k39 x1 σ = some σ2 → Ex mr_X10_makeAll sc (Cl MT pr sc (d + 3)) (rtE none (mk X) σ2) (39, [(0, .ref 38), (1, .int x1)], [], mk X, σ)) (hk50 : ∀ (x1 : Int32) (x2 : Int32) (x3 : Int32) (σ : St), k50 x1 x2 x3 σ = some σ2 → Ex mr_X10_makeAll sc (Cl MT pr sc (d + 3)) (rtE none (mk X) σ2) (50, [(0, .ref 38), (1, .int x1), (2, .int x2), (3, .int x3)], [], mk X, σ)) (x1 : Int32) (x2 : Int32) (x3 : Int32) (σ : St) (h : f_X10_makeAll_100 k39 k50 x1 x2 x3 σ = some σ2) : Ex mr_X10_makeAll sc (Cl MT pr sc (d + 3)) (rtE none (mk X) σ2) (100, [(0, .ref 38), (1, .int x1), (2, .int x2), (3, .int x3)], [], mk X, σ) := by
  unfold f_X10_makeAll_100 at h
  refine Ex.blk 1000 rfl ?_
  show Ex mr_X10_makeAll sc (Cl MT pr sc (d + 3)) (rtE none (mk X) σ2) (101, [(0, .ref 38), (1, .int x1), (2, .int x2), (3, .int x3)], [.int x2], mk X, σ)
  refine Ex.pick (lv' := _) [0, 1, 3] rfl ?_
  exact lk_X10_makeAll_101 d _ _ hk39 hk50 _ _ _ _ h
theorem lk_X10_makeAll_96 {pr : Ct} {sc : Nat × (Nat → Int32)} {X : En} (d : Nat) {σ2 : St} (k39 : Int32 → St → Option (St)) (k50 : Int32 → Int32 → Int32 → St → Option (St)) (hk39 : ∀ (x1 : Int32) (σ : St), k39 x1 σ = some σ2 → Ex mr_X10_makeAll sc (Cl MT pr sc (d + 3)) (rtE none (mk X) σ2) (39, [(0, .ref 38), (1, .int x1)], [], mk X, σ)) (hk50 : ∀ (x1 : Int32) (x2 : Int32) (x3 : Int32) (σ : St), k50 x1 x2 x3 σ = some σ2 → Ex mr_X10_makeAll sc (Cl MT pr sc (d + 3)) (rtE none (mk X) σ2) (50, [(0, .ref 38), (1, .int x1), (2, .int x2), (3, .int x3)], [], mk X, σ)) (x1 : Int32) (x3 : Int32) (σ : St) (h : f_X10_makeAll_96 k39 k50 x1 x3 σ = some σ2) : Ex mr_X10_makeAll sc (Cl MT pr sc (d + 3)) (rtE none (mk X) σ2) (96, [(0, .ref 38), (1, .int x1), (3, .int x3)], [], mk X, σ) := by
  unfold f_X10_makeAll_96 at h
  refine Ex.blk 1000 rfl ?_
  show Ex mr_X10_makeAll sc (Cl MT pr sc (d + 3)) (rtE none (mk X) σ2) (101, [(0, .ref 38), (1, .int x1), (3, .int x3)], [.int x3], mk X, σ)
  exact lk_X10_makeAll_101 d _ _ hk39 hk50 _ _ _ _ h
theorem lk_X10_makeAll_50 {pr : Ct} {sc : Nat × (Nat → Int32)} {X : En} (d : Nat) {σ2 : St} (k39 : Int32 → St → Option (St)) (hk39 : ∀ (x1 : Int32) (σ : St), k39 x1 σ = some σ2 → Ex mr_X10_makeAll sc (Cl MT pr sc (d + 3)) (rtE none (mk X) σ2) (39, [(0, .ref 38), (1, .int x1)], [], mk X, σ)) : ∀ (n : Nat) (x1 : Int32) (x2 : Int32) (x3 : Int32) (σ : St), f_X10_makeAll_50 k39 n x1 x2 x3 σ = some σ2 → Ex mr_X10_makeAll sc (Cl MT pr sc (d + 3)) (rtE none (mk X) σ2) (50, [(0, .ref 38), (1, .int x1), (2, .int x2), (3, .int x3)], [], mk X, σ) := by
  intro n
  induction n with
  | zero =>
    intro x1 x2 x3 σ h
    cases h
  | succ n ih =>
    intro x1 x2 x3 σ h
    simp only [f_X10_makeAll_50] at h
    refine Ex.blk 1000 rfl ?_
    rcases ite_sp h with ⟨c1, h⟩ | ⟨c1, h⟩
    · refine And.intro (fun _ => ?_) (fun hn => absurd c1 hn)
      show Ex mr_X10_makeAll sc (Cl MT pr sc (d + 3)) (rtE none (mk X) σ2) (108, [(0, .ref 38), (1, .int x1), (2, .int x2), (3, .int x3)], [], mk X, σ)
      refine Ex.blk 5 rfl ?_
      obtain ⟨g2, h⟩ := gd_some h
      refine And.intro ⟨inb_ok g2, isb_1⟩ ?_
      show Ex mr_X10_makeAll sc (Cl MT pr sc (d + 3)) (rtE none (mk X) σ2) (115, [(0, .ref 38), (1, .int x1), (2, .int x2), (3, .int x3)], [], mk X, (sI σ 68 x2.toNatClampNeg 1))
      refine Ex.blk 1000 rfl ?_
      show Ex mr_X10_makeAll sc (Cl MT pr sc (d + 3)) (rtE none (mk X) σ2) (117, [(3, .int 0), (0, .ref 38), (1, .int x1), (2, .int x2)], [], mk X, (sI σ 68 x2.toNatClampNeg 1))
      refine Ex.pick (lv' := _) [1, 2, 3, 0] rfl ?_
      exact lk_X10_makeAll_117 d _ hk39 FU _ _ _ _ h
    · refine And.intro (fun hp => absurd hp c1) (fun _ => ?_)
      show Ex mr_X10_makeAll sc (Cl MT pr sc (d + 3)) (rtE none (mk X) σ2) (57, [(0, .ref 38), (1, .int x1), (2, .int x2), (3, .int x3)], [], mk X, σ)
      refine Ex.blk 4 rfl ?_
      obtain ⟨g3, h⟩ := gd_some h
      refine And.intro (inb_ok g3) ?_
      show Ex mr_X10_makeAll sc (Cl MT pr sc (d + 3)) (rtE none (mk X) σ2) (63, [(0, .ref 38), (1, .int x1), (2, .int x2), (3, .int x3)], [.int (gI σ 68 x3.toNatClampNeg)], mk X, σ)
      refine Ex.blk 1000 rfl ?_
      rcases ite_sp h with ⟨c4, h⟩ | ⟨c4, h⟩
      · refine And.intro (fun hp => absurd c4 hp) (fun _ => ?_)
        show Ex mr_X10_makeAll sc (Cl MT pr sc (d + 3)) (rtE none (mk X) σ2) (66, [(0, .ref 38), (1, .int x1), (2, .int x2), (3, .int x3)], [], mk X, σ)
        refine Ex.blk 4 rfl ?_
        obtain ⟨g5, h⟩ := gd_some h
        refine And.intro (inb_ok g5) ?_
        show Ex mr_X10_makeAll sc (Cl MT pr sc (d + 3)) (rtE none (mk X) σ2) (72, [(0, .ref 38), (1, .int x1), (2, .int x2), (3, .int x3)], [.int (gI σ 67 x3.toNatClampNeg)], mk X, σ)
        refine Ex.blk 1000 rfl ?_
        rcases ite_sp h with ⟨c6, h⟩ | ⟨c6, h⟩
        · refine And.intro (fun _ => ?_) (fun hn => absurd c6 hn)
          show Ex mr_X10_makeAll sc (Cl MT pr sc (d + 3)) (rtE none (mk X) σ2) (100, [(0, .ref 38), (1, .int x1), (2, .int x2), (3, .int x3)], [], mk X, σ)
          exact lk_X10_makeAll_100 d _ _ hk39 ih _ _ _ _ h
        · refine And.intro (fun hp => absurd hp c6) (fun _ => ?_)
          show Ex mr_X10_makeAll sc (Cl MT pr sc (d + 3)) (rtE none (mk X) σ2) (76, [(0, .ref 38), (1, .int x1), (2, .int x2), (3, .int x3)], [], mk X, σ)
          refine Ex.blk 1000 rfl ?_
          rcases ite_sp h with ⟨c7, h⟩ | ⟨c7, h⟩
          · refine And.intro (fun _ => ?_) (fun hn => absurd c7 hn)
            show Ex mr_X10_makeAll sc (Cl MT pr sc (d + 3)) (rtE none (mk X) σ2) (96, [(0, .ref 38), (1, .int x1), (2, .int x2), (3, .int x3)], [], mk X, σ)
            refine Ex.pick (lv' := _) [0, 1, 3] rfl ?_
            exact lk_X10_makeAll_96 d _ _ hk39 ih _ _ _ h
          · refine And.intro (fun hp => absurd hp c7) (fun _ => ?_)
            show Ex mr_X10_makeAll sc (Cl MT pr sc (d + 3)) (rtE none (mk X) σ2) (81, [(0, .ref 38), (1, .int x1), (2, .int x2), (3, .int x3)], [], mk X, σ)
            refine Ex.blk 4 rfl ?_
            obtain ⟨g8, h⟩ := gd_some h
            refine And.intro (inb_ok g8) ?_
            show Ex mr_X10_makeAll sc (Cl MT pr sc (d + 3)) (rtE none (mk X) σ2) (87, [(0, .ref 38), (1, .int x1), (2, .int x2), (3, .int x3)], [.int (gI σ 67 x3.toNatClampNeg)], mk X, σ)
            refine Ex.blk 4 rfl ?_
            obtain ⟨g9, h⟩ := gd_some h
            refine And.intro (inb_ok g9) ?_
            show Ex mr_X10_makeAll sc (Cl MT pr sc (d + 3)) (rtE none (mk X) σ2) (93, [(0, .ref 38), (1, .int x1), (2, .int x2), (3, .int x3)], [.int (gI σ 67 x2.toNatClampNeg), .int (gI σ 67 x3.toNatClampNeg)], mk X, σ)
            refine Ex.blk 1000 rfl ?_
            rcases ite_sp h with ⟨c10, h⟩ | ⟨c10, h⟩
            · refine And.intro (fun _ => ?_) (fun hn => absurd c10 hn)
              show Ex mr_X10_makeAll sc (Cl MT pr sc (d + 3)) (rtE none (mk X) σ2) (100, [(0, .ref 38), (1, .int x1), (2, .int x2), (3, .int x3)], [], mk X, σ)
              exact lk_X10_makeAll_100 d _ _ hk39 ih _ _ _ _ h
            · refine And.intro (fun hp => absurd hp c10) (fun _ => ?_)
              show Ex mr_X10_makeAll sc (Cl MT pr sc (d + 3)) (rtE none (mk X) σ2) (96, [(0, .ref 38), (1, .int x1), (2, .int x2), (3, .int x3)], [], mk X, σ)
              refine Ex.pick (lv' := _) [0, 1, 3] rfl ?_
              exact lk_X10_makeAll_96 d _ _ hk39 ih _ _ _ h
      · refine And.intro (fun _ => ?_) (fun hn => absurd c4 hn)
        show Ex mr_X10_makeAll sc (Cl MT pr sc (d + 3)) (rtE none (mk X) σ2) (100, [(0, .ref 38), (1, .int x1), (2, .int x2), (3, .int x3)], [], mk X, σ)
        exact lk_X10_makeAll_100 d _ _ hk39 ih _ _ _ _ h
theorem lk_X10_makeAll_39 {pr : Ct} {sc : Nat × (Nat → Int32)} {X : En} (d : Nat) {σ2 : St} : ∀ (n : Nat) (x1 : Int32) (σ : St), f_X10_makeAll_39 n x1 σ = some σ2 → Ex mr_X10_makeAll sc (Cl MT pr sc (d + 3)) (rtE none (mk X) σ2) (39, [(0, .ref 38), (1, .int x1)], [], mk X, σ) := by
  intro n
  induction n with
  | zero =>
    intro x1 σ h
    cases h
  | succ n ih =>
    intro x1 σ h
    simp only [f_X10_makeAll_39] at h
    refine Ex.blk 1000 rfl ?_
    rcases ite_sp h with ⟨c1, h⟩ | ⟨c1, h⟩
    · refine And.intro (fun _ => ?_) (fun hn => absurd c1 hn)
      show Ex mr_X10_makeAll sc (Cl MT pr sc (d + 3)) (rtE none (mk X) σ2) (212, [(0, .ref 38), (1, .int x1)], [], mk X, σ)
      refine Ex.blk 1000 rfl ?_
      cases h
      exact And.intro trivial ⟨rfl, rfl, rfl⟩
    · refine And.intro (fun hp => absurd hp c1) (fun _ => ?_)
      show Ex mr_X10_makeAll sc (Cl MT pr sc (d + 3)) (rtE none (mk X) σ2) (46, [(0, .ref 38), (1, .int x1)], [], mk X, σ)
      refine Ex.blk 1000 rfl ?_
      show Ex mr_X10_makeAll sc (Cl MT pr sc (d + 3)) (rtE none (mk X) σ2) (50, [(3, .int 0), (2, .int (-1)), (0, .ref 38), (1, .int x1)], [], mk X, σ)
      refine Ex.pick (lv' := _) [2, 3, 1, 0] rfl ?_
      exact lk_X10_makeAll_50 d _ ih FU _ _ _ _ h
theorem lk_X10_makeAll_23 {pr : Ct} {sc : Nat × (Nat → Int32)} {X : En} (d : Nat) {σ2 : St} (k2 : Int32 → St → Option (St)) (hk2 : ∀ (x1 : Int32) (σ : St), k2 x1 σ = some σ2 → Ex mr_X10_makeAll sc (Cl MT pr sc (d + 3)) (rtE none (mk X) σ2) (2, [(0, .ref 38), (1, .int x1)], [], mk X, σ)) (x1 : Int32) (y0 : Int32) (y1 : Int32) (σ : St) (h : f_X10_makeAll_23 k2 x1 y0 y1 σ = some σ2) : Ex mr_X10_makeAll sc (Cl MT pr sc (d + 3)) (rtE none (mk X) σ2) (23, [(0, .ref 38), (1, .int x1)], [.int y0, .int y1, .ref 67], mk X, σ) := by
  unfold f_X10_makeAll_23 at h
  refine Ex.blk 1 rfl ?_
  obtain ⟨g1, h⟩ := gd_some h
  refine And.intro (inb_ok g1) ?_
  show Ex mr_X10_makeAll sc (Cl MT pr sc (d + 3)) (rtE none (mk X) σ2) (24, [(0, .ref 38), (1, .int x1)], [], mk X, (sI σ 67 y1.toNatClampNeg y0))
  refine Ex.blk 5 rfl ?_
  obtain ⟨g2, h⟩ := gd_some h
  refine And.intro ⟨inb_ok g2, isb_0⟩ ?_
  show Ex mr_X10_makeAll sc (Cl MT pr sc (d + 3)) (rtE none (mk X) σ2) (31, [(0, .ref 38), (1, .int x1)], [], mk X, (sI (sI σ 67 y1.toNatClampNeg y0) 68 x1.toNatClampNeg 0))
  refine Ex.blk 1000 rfl ?_
  show Ex mr_X10_makeAll sc (Cl MT pr sc (d + 3)) (rtE none (mk X) σ2) (2, [(1, .int (x1 + 1)), (0, .ref 38)], [], mk X, (sI (sI σ 67 y1.toNatClampNeg y0) 68 x1.toNatClampNeg 0))
  refine Ex.pick (lv' := _) [1, 0] rfl ?_
  exact hk2 _ _ h
theorem lk_X10_makeAll_2 {pr : Ct} {sc : Nat × (Nat → Int32)} {X : En} (d : Nat) {σ2 : St} : ∀ (n : Nat) (x1 : Int32) (σ : St), f_X10_makeAll_2 n x1 σ = some σ2 → Ex mr_X10_makeAll sc (Cl MT pr sc (d + 3)) (rtE none (mk X) σ2) (2, [(0, .ref 38), (1, .int x1)], [], mk X, σ) := by
  intro n
  induction n with
  | zero =>
    intro x1 σ h
    cases h
  | succ n ih =>
    intro x1 σ h
    simp only [f_X10_makeAll_2] at h
    refine Ex.blk 1000 rfl ?_
    rcases ite_sp h with ⟨c1, h⟩ | ⟨c1, h⟩
    · refine And.intro (fun _ => ?_) (fun hn => absurd c1 hn)
      show Ex mr_X10_makeAll sc (Cl MT pr sc (d + 3)) (rtE none (mk X) σ2) (37, [(0, .ref 38), (1, .int x1)], [], mk X, σ)
      refine Ex.blk 1000 rfl ?_
      show Ex mr_X10_makeAll sc (Cl MT pr sc (d + 3)) (rtE none (mk X) σ2) (39, [(1, .int 0), (0, .ref 38)], [], mk X, σ)
      refine Ex.pick (lv' := _) [1, 0] rfl ?_
      exact lk_X10_makeAll_39 d FU _ _ h
    · refine And.intro (fun hp => absurd hp c1) (fun _ => ?_)
      show Ex mr_X10_makeAll sc (Cl MT pr sc (d + 3)) (rtE none (mk X) σ2) (9, [(0, .ref 38), (1, .int x1)], [], mk X, σ)
      refine Ex.blk 1000 rfl ?_
      rcases ite_sp h with ⟨c2, h⟩ | ⟨c2, h⟩
      · refine And.intro (fun hp => absurd c2 hp) (fun _ => ?_)
        show Ex mr_X10_makeAll sc (Cl MT pr sc (d + 3)) (rtE none (mk X) σ2) (18, [(0, .ref 38), (1, .int x1)], [.int x1, .ref 67], mk X, σ)
        refine Ex.blk 1000 rfl ?_
        show Ex mr_X10_makeAll sc (Cl MT pr sc (d + 3)) (rtE none (mk X) σ2) (23, [(0, .ref 38), (1, .int x1)], [.int 0, .int x1, .ref 67], mk X, σ)
        exact lk_X10_makeAll_23 d _ ih _ _ _ _ h
      · refine And.intro (fun _ => ?_) (fun hn => absurd c2 hn)
        show Ex mr_X10_makeAll sc (Cl MT pr sc (d + 3)) (rtE none (mk X) σ2) (22, [(0, .ref 38), (1, .int x1)], [.int x1, .ref 67], mk X, σ)
        refine Ex.blk 1000 rfl ?_
        show Ex mr_X10_makeAll sc (Cl MT pr sc (d + 3)) (rtE none (mk X) σ2) (23, [(0, .ref 38), (1, .int x1)], [.int (-1), .int x1, .ref 67], mk X, σ)
        exact lk_X10_makeAll_23 d _ ih _ _ _ _ h
theorem cl_X10_makeAll {pr : Ct} {sc : Nat × (Nat → Int32)} {X : En} (d : Nat) {σ2 : St} {σ : St} (h : f_X10_makeAll σ = some σ2) : Cl MT pr sc (d + 3 + 1) 246 [.ref 38] (mk X) σ none (mk X) σ2 := by
  refine cl_of mr_X10_makeAll rfl rfl ?_
  unfold f_X10_makeAll at h
  refine Ex.blk 1000 rfl ?_
  show Ex mr_X10_makeAll sc (Cl MT pr sc (d + 3)) (rtE none (mk X) σ2) (2, [(1, .int 0), (0, .ref 38)], [], mk X, σ)
  refine Ex.pick (lv' := _) [1, 0] rfl ?_
  exact lk_X10_makeAll_2 d FU _ _ h
theorem lk_X10_make_22 {pr : Ct} {sc : Nat × (Nat → Int32)} {X : En} (d : Nat) {r : Int32} {σ2 : St} (σ : St) (h : f_X10_make_22 σ = some (r, σ2)) : Ex mr_X10_make sc (Cl MT pr sc (d + 4)) (rtE (some (.int r)) (mk X) σ2) (22, [], [], mk X, σ) := by
  unfold f_X10_make_22 at h
  refine Ex.blk 1000 rfl ?_
  cases h
  exact And.intro trivial ⟨rfl, rfl, rfl⟩
theorem lk_X10_make_55 {pr : Ct} {sc : Nat × (Nat → Int32)} {X : En} (d : Nat) {r : Int32} {σ2 : St} (y0 : Int32) (σ : St) (h : f_X10_make_55 y0 σ = some (r, σ2)) : Ex mr_X10_make sc (Cl MT pr sc (d + 4)) (rtE (some (.int r)) (mk X) σ2) (55, [], [.int y0], mk X, σ) := by
  unfold f_X10_make_55 at h
  refine Ex.blk 1000 rfl ?_
  cases h
  exact And.intro trivial ⟨rfl, rfl, rfl⟩
theorem cl_X10_make {pr : Ct} {sc : Nat × (Nat → Int32)} {X : En} (d : Nat) {r : Int32} {σ2 : St} {x1 : Int32} {x2 : Int32} {σ : St} (h : f_X10_make x1 x2 σ = some (r, σ2)) : Cl MT pr sc (d + 4 + 1) 247 [.ref 38, .int x1, .int x2] (mk X) σ (some (.int r)) (mk X) σ2 := by
  refine cl_of mr_X10_make rfl rfl ?_
  unfold f_X10_make at h
  refine Ex.blk 5 rfl ?_
  obtain ⟨p1, hp1, h⟩ := bind_sp h
  refine Exists.intro (some (.int p1.1)) (Exists.intro (mk X) (Exists.intro p1.2 (And.intro (cl_X10_in (d + 3) hp1) ?_)))
  show Ex mr_X10_make sc (Cl MT pr sc (d + 4)) (rtE (some (.int r)) (mk X) σ2) (9, [(0, .ref 38), (1, .int x1), (2, .int x2)], [.int p1.1], mk X, p1.2)
  refine Ex.blk 1000 rfl ?_
  rcases ite_sp h with ⟨c1, h⟩ | ⟨c1, h⟩
  · refine And.intro (fun _ => ?_) (fun hn => absurd c1 hn)
    show Ex mr_X10_make sc (Cl MT pr sc (d + 4)) (rtE (some (.int r)) (mk X) σ2) (22, [(0, .ref 38), (1, .int x1), (2, .int x2)], [], mk X, p1.2)
    refine Ex.pick (lv' := _) [] rfl ?_
    exact lk_X10_make_22 d _ h
  · refine And.intro (fun hp => absurd hp c1) (fun _ => ?_)
    show Ex mr_X10_make sc (Cl MT pr sc (d + 4)) (rtE (some (.int r)) (mk X) σ2) (12, [(0, .ref 38), (1, .int x1), (2, .int x2)], [], mk X, p1.2)
    refine Ex.blk 5 rfl ?_
    obtain ⟨p2, hp2, h⟩ := bind_sp h
    refine Exists.intro (some (.int p2.1)) (Exists.intro (mk X) (Exists.intro p2.2 (And.intro (cl_X10_in (d + 3) hp2) ?_)))
    show Ex mr_X10_make sc (Cl MT pr sc (d + 4)) (rtE (some (.int r)) (mk X) σ2) (19, [(0, .ref 38), (1, .int x1), (2, .int x2)], [.int p2.1], mk X, p2.2)
    refine Ex.blk 1000 rfl ?_
    rcases ite_sp h with ⟨c2, h⟩ | ⟨c2, h⟩
    · refine And.intro (fun hp => absurd c2 hp) (fun _ => ?_)
      show Ex mr_X10_make sc (Cl MT pr sc (d + 4)) (rtE (some (.int r)) (mk X) σ2) (22, [(0, .ref 38), (1, .int x1), (2, .int x2)], [], mk X, p2.2)
      refine Ex.pick (lv' := _) [] rfl ?_
      exact lk_X10_make_22 d _ h
    · refine And.intro (fun _ => ?_) (fun hn => absurd c2 hn)
      show Ex mr_X10_make sc (Cl MT pr sc (d + 4)) (rtE (some (.int r)) (mk X) σ2) (24, [(0, .ref 38), (1, .int x1), (2, .int x2)], [], mk X, p2.2)
      refine Ex.blk 2 rfl ?_
      obtain ⟨p3, hp3, h⟩ := bind_sp h
      refine Exists.intro none (Exists.intro (mk X) (Exists.intro p3 (And.intro (cl_X10_makeAll (d + 0) hp3) ?_)))
      show Ex mr_X10_make sc (Cl MT pr sc (d + 4)) (rtE (some (.int r)) (mk X) σ2) (28, [(0, .ref 38), (1, .int x1), (2, .int x2)], [], mk X, p3)
      refine Ex.blk 1000 rfl ?_
      rcases ite_sp h with ⟨c3, h⟩ | ⟨c3, h⟩
      · refine And.intro (fun hp => absurd c3 hp) (fun _ => ?_)
        show Ex mr_X10_make sc (Cl MT pr sc (d + 4)) (rtE (some (.int r)) (mk X) σ2) (32, [(0, .ref 38), (1, .int x1), (2, .int x2)], [], mk X, p3)
        refine Ex.blk 4 rfl ?_
        obtain ⟨g4, h⟩ := gd_some h
        refine And.intro (inb_ok g4) ?_
        show Ex mr_X10_make sc (Cl MT pr sc (d + 4)) (rtE (some (.int r)) (mk X) σ2) (38, [(0, .ref 38), (1, .int x1), (2, .int x2)], [.int (gI p3 67 x1.toNatClampNeg)], mk X, p3)
        refine Ex.blk 2 rfl ?_
        refine And.intro (nzI_ok (b := 1000) (by decide)) ?_
        show Ex mr_X10_make sc (Cl MT pr sc (d + 4)) (rtE (some (.int r)) (mk X) σ2) (42, [(0, .ref 38), (1, .int x1), (2, .int x2)], [.int ((gI p3 67 x1.toNatClampNeg) / 1000)], mk X, p3)
        refine Ex.blk 1000 rfl ?_
        show Ex mr_X10_make sc (Cl MT pr sc (d + 4)) (rtE (some (.int r)) (mk X) σ2) (55, [(0, .ref 38), (1, .int x1), (2, .int x2)], [.int ((gI p3 67 x1.toNatClampNeg) / 1000)], mk X, p3)
        refine Ex.pick (lv' := _) [] rfl ?_
        exact lk_X10_make_55 d _ _ h
      · refine And.intro (fun _ => ?_) (fun hn => absurd c3 hn)
        show Ex mr_X10_make sc (Cl MT pr sc (d + 4)) (rtE (some (.int r)) (mk X) σ2) (45, [(0, .ref 38), (1, .int x1), (2, .int x2)], [], mk X, p3)
        refine Ex.blk 4 rfl ?_
        obtain ⟨g5, h⟩ := gd_some h
        refine And.intro (inb_ok g5) ?_
        show Ex mr_X10_make sc (Cl MT pr sc (d + 4)) (rtE (some (.int r)) (mk X) σ2) (51, [(0, .ref 38), (1, .int x1), (2, .int x2)], [.int (gI p3 67 x1.toNatClampNeg)], mk X, p3)
        refine Ex.blk 2 rfl ?_
        refine And.intro (nzI_ok (b := 1000) (by decide)) ?_
        show Ex mr_X10_make sc (Cl MT pr sc (d + 4)) (rtE (some (.int r)) (mk X) σ2) (55, [(0, .ref 38), (1, .int x1), (2, .int x2)], [.int (rmI (gI p3 67 x1.toNatClampNeg) 1000)], mk X, p3)
        refine Ex.pick (lv' := _) [] rfl ?_
        exact lk_X10_make_55 d _ _ h
theorem lk_X10_kids_13 {pr : Ct} {sc : Nat × (Nat → Int32)} {X : En} (d : Nat) {r : Int32} {σ2 : St} (σ : St) (h : f_X10_kids_13 σ = some (r, σ2)) : Ex mr_X10_kids sc (Cl MT pr sc (d + 1)) (rtE (some (.int r)) (mk X) σ2) (13, [], [], mk X, σ) := by
  unfold f_X10_kids_13 at h
  refine Ex.blk 1000 rfl ?_
  cases h
  exact And.intro trivial ⟨rfl, rfl, rfl⟩
theorem lk_X10_kids_95 {pr : Ct} {sc : Nat × (Nat → Int32)} {X : En} (d : Nat) {r : Int32} {σ2 : St} (k56 : Int32 → Int32 → Int32 → St → Option (Int32 × St)) (hk56 : ∀ (x1 : Int32) (x2 : Int32) (x3 : Int32) (σ : St), k56 x1 x2 x3 σ = some (r, σ2) → Ex mr_X10_kids sc (Cl MT pr sc (d + 1)) (rtE (some (.int r)) (mk X) σ2) (56, [(0, .ref 38), (1, .int x1), (2, .int x2), (3, .int x3)], [], mk X, σ)) (x1 : Int32) (x2 : Int32) (x3 : Int32) (σ : St) (h : f_X10_kids_95 k56 x1 x2 x3 σ = some (r, σ2)) : Ex mr_X10_kids sc (Cl MT pr sc (d + 1)) (rtE (some (.int r)) (mk X) σ2) (95, [(0, .ref 38), (1, .int x1), (2, .int x2), (3, .int x3)], [], mk X, σ) := by
  unfold f_X10_kids_95 at h
  refine Ex.blk 1000 rfl ?_
  show Ex mr_X10_kids sc (Cl MT pr sc (d + 1)) (rtE (some (.int r)) (mk X) σ2) (56, [(3, .int (x3 + 1)), (0, .ref 38), (1, .int x1), (2, .int x2)], [], mk X, σ)
  refine Ex.pick (lv' := _) [1, 2, 3, 0] rfl ?_
  exact hk56 _ _ _ _ h
theorem lk_X10_kids_84 {pr : Ct} {sc : Nat × (Nat → Int32)} {X : En} (d : Nat) {r : Int32} {σ2 : St} (k56 : Int32 → Int32 → Int32 → St → Option (Int32 × St)) (hk56 : ∀ (x1 : Int32) (x2 : Int32) (x3 : Int32) (σ : St), k56 x1 x2 x3 σ = some (r, σ2) → Ex mr_X10_kids sc (Cl MT pr sc (d + 1)) (rtE (some (.int r)) (mk X) σ2) (56, [(0, .ref 38), (1, .int x1), (2, .int x2), (3, .int x3)], [], mk X, σ)) (x1 : Int32) (x2 : Int32) (x3 : Int32) (y0 : Int32) (y1 : Int32) (y2 : Int32) (σ : St) (h : f_X10_kids_84 k56 x1 x2 x3 y0 y1 y2 σ = some (r, σ2)) : Ex mr_X10_kids sc (Cl MT pr sc (d + 1)) (rtE (some (.int r)) (mk X) σ2) (84, [(0, .ref 38), (1, .int x1), (2, .int x2), (3, .int x3)], [.int y0, .int y1, .int y2, .ref 44], mk X, σ) := by
  unfold f_X10_kids_84 at h
  refine Ex.blk 2 rfl ?_
  obtain ⟨g1, h⟩ := gd_some h
  refine And.intro (inb_ok g1) ?_
  show Ex mr_X10_kids sc (Cl MT pr sc (d + 1)) (rtE (some (.int r)) (mk X) σ2) (86, [(0, .ref 38), (1, .int x1), (2, .int x2), (3, .int x3)], [], mk X, (sI σ 44 y2.toNatClampNeg (y1 + y0)))
  refine Ex.blk 5 rfl ?_
  obtain ⟨g2, h⟩ := gd_some h
  refine And.intro (inb_ok g2) ?_
  show Ex mr_X10_kids sc (Cl MT pr sc (d + 1)) (rtE (some (.int r)) (mk X) σ2) (93, [(0, .ref 38), (1, .int x1), (2, .int x2), (3, .int x3)], [.int (gI (sI σ 44 y2.toNatClampNeg (y1 + y0)) 44 x3.toNatClampNeg), .int x2], mk X, (sI σ 44 y2.toNatClampNeg (y1 + y0)))
  refine Ex.blk 2 rfl ?_
  show Ex mr_X10_kids sc (Cl MT pr sc (d + 1)) (rtE (some (.int r)) (mk X) σ2) (95, [(2, .int (x2 + (gI (sI σ 44 y2.toNatClampNeg (y1 + y0)) 44 x3.toNatClampNeg))), (0, .ref 38), (1, .int x1), (3, .int x3)], [], mk X, (sI σ 44 y2.toNatClampNeg (y1 + y0)))
  refine Ex.pick (lv' := _) [1, 2, 0, 3] rfl ?_
  exact lk_X10_kids_95 d _ hk56 _ _ _ _ h
theorem lk_X10_kids_56 {pr : Ct} {sc : Nat × (Nat → Int32)} {X : En} (d : Nat) {r : Int32} {σ2 : St} : ∀ (n : Nat) (x1 : Int32) (x2 : Int32) (x3 : Int32) (σ : St), f_X10_kids_56 n x1 x2 x3 σ = some (r, σ2) → Ex mr_X10_kids sc (Cl MT pr sc (d + 1)) (rtE (some (.int r)) (mk X) σ2) (56, [(0, .ref 38), (1, .int x1), (2, .int x2), (3, .int x3)], [], mk X, σ) := by
  intro n
  induction n with
  | zero =>
    intro x1 x2 x3 σ h
    cases h
  | succ n ih =>
    intro x1 x2 x3 σ h
    simp only [f_X10_kids_56] at h
    refine Ex.blk 1000 rfl ?_
    rcases ite_sp h with ⟨c1, h⟩ | ⟨c1, h⟩
    · refine And.intro (fun _ => ?_) (fun hn => absurd c1 hn)
      show Ex mr_X10_kids sc (Cl MT pr sc (d + 1)) (rtE (some (.int r)) (mk X) σ2) (101, [(0, .ref 38), (1, .int x1), (2, .int x2), (3, .int x3)], [], mk X, σ)
      refine Ex.blk 1000 rfl ?_
      cases h
      exact And.intro trivial ⟨rfl, rfl, rfl⟩
    · refine And.intro (fun hp => absurd hp c1) (fun _ => ?_)
      show Ex mr_X10_kids sc (Cl MT pr sc (d + 1)) (rtE (some (.int r)) (mk X) σ2) (64, [(0, .ref 38), (1, .int x1), (2, .int x2), (3, .int x3)], [], mk X, σ)
      refine Ex.blk 5 rfl ?_
      obtain ⟨g2, h⟩ := gd_some h
      refine And.intro (inb_ok g2) ?_
      show Ex mr_X10_kids sc (Cl MT pr sc (d + 1)) (rtE (some (.int r)) (mk X) σ2) (71, [(0, .ref 38), (1, .int x1), (2, .int x2), (3, .int x3)], [.int (gI σ 44 x3.toNatClampNeg), .int x3, .ref 44], mk X, σ)
      refine Ex.blk 3 rfl ?_
      obtain ⟨p1, hp1, h⟩ := bind_sp h
      refine Exists.intro (some (.int p1.1)) (Exists.intro (mk X) (Exists.intro p1.2 (And.intro (cl_X10_has (d + 0) hp1) ?_)))
      show Ex mr_X10_kids sc (Cl MT pr sc (d + 1)) (rtE (some (.int r)) (mk X) σ2) (76, [(0, .ref 38), (1, .int x1), (2, .int x2), (3, .int x3)], [.int p1.1, .int (gI σ 44 x3.toNatClampNeg), .int x3, .ref 44], mk X, p1.2)
      refine Ex.blk 1000 rfl ?_
      rcases ite_sp h with ⟨c3, h⟩ | ⟨c3, h⟩
      · refine And.intro (fun _ => ?_) (fun hn => absurd c3 hn)
        show Ex mr_X10_kids sc (Cl MT pr sc (d + 1)) (rtE (some (.int r)) (mk X) σ2) (83, [(0, .ref 38), (1, .int x1), (2, .int x2), (3, .int x3)], [.int (gI σ 44 x3.toNatClampNeg), .int x3, .ref 44], mk X, p1.2)
        refine Ex.blk 1000 rfl ?_
        show Ex mr_X10_kids sc (Cl MT pr sc (d + 1)) (rtE (some (.int r)) (mk X) σ2) (84, [(0, .ref 38), (1, .int x1), (2, .int x2), (3, .int x3)], [.int 0, .int (gI σ 44 x3.toNatClampNeg), .int x3, .ref 44], mk X, p1.2)
        exact lk_X10_kids_84 d _ ih _ _ _ _ _ _ _ h
      · refine And.intro (fun hp => absurd hp c3) (fun _ => ?_)
        show Ex mr_X10_kids sc (Cl MT pr sc (d + 1)) (rtE (some (.int r)) (mk X) σ2) (79, [(0, .ref 38), (1, .int x1), (2, .int x2), (3, .int x3)], [.int (gI σ 44 x3.toNatClampNeg), .int x3, .ref 44], mk X, p1.2)
        refine Ex.blk 1000 rfl ?_
        show Ex mr_X10_kids sc (Cl MT pr sc (d + 1)) (rtE (some (.int r)) (mk X) σ2) (84, [(0, .ref 38), (1, .int x1), (2, .int x2), (3, .int x3)], [.int 1, .int (gI σ 44 x3.toNatClampNeg), .int x3, .ref 44], mk X, p1.2)
        exact lk_X10_kids_84 d _ ih _ _ _ _ _ _ _ h
theorem lk_X10_kids_48 {pr : Ct} {sc : Nat × (Nat → Int32)} {X : En} (d : Nat) {r : Int32} {σ2 : St} (k19 : Int32 → Int32 → Int32 → St → Option (Int32 × St)) (hk19 : ∀ (x1 : Int32) (x2 : Int32) (x3 : Int32) (σ : St), k19 x1 x2 x3 σ = some (r, σ2) → Ex mr_X10_kids sc (Cl MT pr sc (d + 1)) (rtE (some (.int r)) (mk X) σ2) (19, [(0, .ref 38), (1, .int x1), (2, .int x2), (3, .int x3)], [], mk X, σ)) (x1 : Int32) (x2 : Int32) (x3 : Int32) (σ : St) (h : f_X10_kids_48 k19 x1 x2 x3 σ = some (r, σ2)) : Ex mr_X10_kids sc (Cl MT pr sc (d + 1)) (rtE (some (.int r)) (mk X) σ2) (48, [(0, .ref 38), (1, .int x1), (2, .int x2), (3, .int x3)], [], mk X, σ) := by
  unfold f_X10_kids_48 at h
  refine Ex.blk 1000 rfl ?_
  show Ex mr_X10_kids sc (Cl MT pr sc (d + 1)) (rtE (some (.int r)) (mk X) σ2) (19, [(3, .int (x3 + 1)), (0, .ref 38), (1, .int x1), (2, .int x2)], [], mk X, σ)
  refine Ex.pick (lv' := _) [1, 2, 3, 0] rfl ?_
  exact hk19 _ _ _ _ h
theorem lk_X10_kids_19 {pr : Ct} {sc : Nat × (Nat → Int32)} {X : En} (d : Nat) {r : Int32} {σ2 : St} : ∀ (n : Nat) (x1 : Int32) (x2 : Int32) (x3 : Int32) (σ : St), f_X10_kids_19 n x1 x2 x3 σ = some (r, σ2) → Ex mr_X10_kids sc (Cl MT pr sc (d + 1)) (rtE (some (.int r)) (mk X) σ2) (19, [(0, .ref 38), (1, .int x1), (2, .int x2), (3, .int x3)], [], mk X, σ) := by
  intro n
  induction n with
  | zero =>
    intro x1 x2 x3 σ h
    cases h
  | succ n ih =>
    intro x1 x2 x3 σ h
    simp only [f_X10_kids_19] at h
    refine Ex.blk 1000 rfl ?_
    rcases ite_sp h with ⟨c1, h⟩ | ⟨c1, h⟩
    · refine And.intro (fun _ => ?_) (fun hn => absurd c1 hn)
      show Ex mr_X10_kids sc (Cl MT pr sc (d + 1)) (rtE (some (.int r)) (mk X) σ2) (54, [(0, .ref 38), (1, .int x1), (2, .int x2), (3, .int x3)], [], mk X, σ)
      refine Ex.blk 1000 rfl ?_
      show Ex mr_X10_kids sc (Cl MT pr sc (d + 1)) (rtE (some (.int r)) (mk X) σ2) (56, [(3, .int 0), (0, .ref 38), (1, .int x1), (2, .int x2)], [], mk X, σ)
      refine Ex.pick (lv' := _) [1, 2, 3, 0] rfl ?_
      exact lk_X10_kids_56 d FU _ _ _ _ h
    · refine And.intro (fun hp => absurd hp c1) (fun _ => ?_)
      show Ex mr_X10_kids sc (Cl MT pr sc (d + 1)) (rtE (some (.int r)) (mk X) σ2) (27, [(0, .ref 38), (1, .int x1), (2, .int x2), (3, .int x3)], [], mk X, σ)
      refine Ex.blk 3 rfl ?_
      obtain ⟨p2, hp2, h⟩ := bind_sp h
      refine Exists.intro (some (.int p2.1)) (Exists.intro (mk X) (Exists.intro p2.2 (And.intro (cl_X10_has (d + 0) hp2) ?_)))
      show Ex mr_X10_kids sc (Cl MT pr sc (d + 1)) (rtE (some (.int r)) (mk X) σ2) (32, [(0, .ref 38), (1, .int x1), (2, .int x2), (3, .int x3)], [.int p2.1], mk X, p2.2)
      refine Ex.blk 1000 rfl ?_
      rcases ite_sp h with ⟨c2, h⟩ | ⟨c2, h⟩
      · refine And.intro (fun _ => ?_) (fun hn => absurd c2 hn)
        show Ex mr_X10_kids sc (Cl MT pr sc (d + 1)) (rtE (some (.int r)) (mk X) σ2) (48, [(0, .ref 38), (1, .int x1), (2, .int x2), (3, .int x3)], [], mk X, p2.2)
        exact lk_X10_kids_48 d _ ih _ _ _ _ h
      · refine And.intro (fun hp => absurd hp c2) (fun _ => ?_)
        show Ex mr_X10_kids sc (Cl MT pr sc (d + 1)) (rtE (some (.int r)) (mk X) σ2) (35, [(0, .ref 38), (1, .int x1), (2, .int x2), (3, .int x3)], [], mk X, p2.2)
        refine Ex.blk 4 rfl ?_
        obtain ⟨g3, h⟩ := gd_some h
        refine And.intro (inb_ok g3) ?_
        show Ex mr_X10_kids sc (Cl MT pr sc (d + 1)) (rtE (some (.int r)) (mk X) σ2) (41, [(0, .ref 38), (1, .int x1), (2, .int x2), (3, .int x3)], [.int (gI p2.2 44 x3.toNatClampNeg)], mk X, p2.2)
        refine Ex.blk 1000 rfl ?_
        rcases ite_sp h with ⟨c4, h⟩ | ⟨c4, h⟩
        · refine And.intro (fun hp => absurd c4 hp) (fun _ => ?_)
          show Ex mr_X10_kids sc (Cl MT pr sc (d + 1)) (rtE (some (.int r)) (mk X) σ2) (46, [(0, .ref 38), (1, .int x1), (2, .int x2), (3, .int x3)], [], mk X, p2.2)
          refine Ex.blk 1000 rfl ?_
          cases h
          exact And.intro trivial ⟨rfl, rfl, rfl⟩
        · refine And.intro (fun _ => ?_) (fun hn => absurd c4 hn)
          show Ex mr_X10_kids sc (Cl MT pr sc (d + 1)) (rtE (some (.int r)) (mk X) σ2) (48, [(0, .ref 38), (1, .int x1), (2, .int x2), (3, .int x3)], [], mk X, p2.2)
          exact lk_X10_kids_48 d _ ih _ _ _ _ h
theorem cl_X10_kids {pr : Ct} {sc : Nat × (Nat → Int32)} {X : En} (d : Nat) {r : Int32} {σ2 : St} {x1 : Int32} {σ : St} (h : f_X10_kids x1 σ = some (r, σ2)) : Cl MT pr sc (d + 1 + 1) 248 [.ref 38, .int x1] (mk X) σ (some (.int r)) (mk X) σ2 := by
  refine cl_of mr_X10_kids rfl rfl ?_
  unfold f_X10_kids at h
  refine Ex.blk 1000 rfl ?_
  rcases ite_sp h with ⟨c1, h⟩ | ⟨c1, h⟩
  · refine And.intro (fun _ => ?_) (fun hn => absurd c1 hn)
    show Ex mr_X10_kids sc (Cl MT pr sc (d + 1)) (rtE (some (.int r)) (mk X) σ2) (13, [(0, .ref 38), (1, .int x1)], [], mk X, σ)
    refine Ex.pick (lv' := _) [] rfl ?_
    exact lk_X10_kids_13 d _ h
  · refine And.intro (fun hp => absurd hp c1) (fun _ => ?_)
    show Ex mr_X10_kids sc (Cl MT pr sc (d + 1)) (rtE (some (.int r)) (mk X) σ2) (4, [(0, .ref 38), (1, .int x1)], [], mk X, σ)
    refine Ex.blk 1000 rfl ?_
    rcases ite_sp h with ⟨c2, h⟩ | ⟨c2, h⟩
    · refine And.intro (fun _ => ?_) (fun hn => absurd c2 hn)
      show Ex mr_X10_kids sc (Cl MT pr sc (d + 1)) (rtE (some (.int r)) (mk X) σ2) (15, [(0, .ref 38), (1, .int x1)], [], mk X, σ)
      refine Ex.blk 1000 rfl ?_
      show Ex mr_X10_kids sc (Cl MT pr sc (d + 1)) (rtE (some (.int r)) (mk X) σ2) (19, [(3, .int 0), (2, .int 0), (0, .ref 38), (1, .int x1)], [], mk X, σ)
      refine Ex.pick (lv' := _) [2, 3, 1, 0] rfl ?_
      exact lk_X10_kids_19 d FU _ _ _ _ h
    · refine And.intro (fun hp => absurd hp c2) (fun _ => ?_)
      show Ex mr_X10_kids sc (Cl MT pr sc (d + 1)) (rtE (some (.int r)) (mk X) σ2) (13, [(0, .ref 38), (1, .int x1)], [], mk X, σ)
      refine Ex.pick (lv' := _) [] rfl ?_
      exact lk_X10_kids_13 d _ h
theorem lk_X10_image_68 {pr : Ct} {sc : Nat × (Nat → Int32)} {X : En} (d : Nat) {r : Int32} {σ2 : St} (σ : St) (h : f_X10_image_68 σ = some (r, σ2)) : Ex mr_X10_image sc (Cl MT pr sc (d + 0)) (rtE (some (.int r)) (mk X) σ2) (68, [(0, .ref 38)], [], mk X, σ) := by
  unfold f_X10_image_68 at h
  refine Ex.blk 5 rfl ?_
  show Ex mr_X10_image sc (Cl MT pr sc (d + 0)) (rtE (some (.int r)) (mk X) σ2) (77, [(0, .ref 38)], [.ref 38], mk X, (sJ σ 38 55 (gJ σ 38 18)))
  refine Ex.blk 2 rfl ?_
  refine And.intro (isb_1) ?_
  show Ex mr_X10_image sc (Cl MT pr sc (d + 0)) (rtE (some (.int r)) (mk X) σ2) (81, [(0, .ref 38)], [], mk X, (sI (sJ σ 38 55 (gJ σ 38 18)) 38 56 1))
  refine Ex.blk 4 rfl ?_
  refine And.intro (inb_ok (i := 18) (n := 19) (by decide)) ?_
  show Ex mr_X10_image sc (Cl MT pr sc (d + 0)) (rtE (some (.int r)) (mk X) σ2) (88, [(0, .ref 38)], [.int (gI (sI (sJ σ 38 55 (gJ σ 38 18)) 38 56 1) 46 (18 : Int32).toNatClampNeg)], mk X, (sI (sJ σ 38 55 (gJ σ 38 18)) 38 56 1))
  refine Ex.blk 1000 rfl ?_
  cases h
  exact And.intro trivial ⟨rfl, rfl, rfl⟩
theorem lk_X10_image_28 {pr : Ct} {sc : Nat × (Nat → Int32)} {X : En} (d : Nat) {r : Int32} {σ2 : St} : ∀ (n : Nat) (x1 : Int32) (σ : St), f_X10_image_28 n x1 σ = some (r, σ2) → Ex mr_X10_image sc (Cl MT pr sc (d + 0)) (rtE (some (.int r)) (mk X) σ2) (28, [(0, .ref 38), (1, .int x1)], [], mk X, σ) := by
  intro n
  induction n with
  | zero =>
    intro x1 σ h
    cases h
  | succ n ih =>
    intro x1 σ h
    simp only [f_X10_image_28] at h
    refine Ex.blk 1000 rfl ?_
    rcases ite_sp h with ⟨c1, h⟩ | ⟨c1, h⟩
    · refine And.intro (fun _ => ?_) (fun hn => absurd c1 hn)
      show Ex mr_X10_image sc (Cl MT pr sc (d + 0)) (rtE (some (.int r)) (mk X) σ2) (52, [(0, .ref 38), (1, .int x1)], [], mk X, σ)
      refine Ex.blk 5 rfl ?_
      show Ex mr_X10_image sc (Cl MT pr sc (d + 0)) (rtE (some (.int r)) (mk X) σ2) (61, [(0, .ref 38), (1, .int x1)], [.ref 38], mk X, (sI σ 38 53 (gI σ 38 19)))
      refine Ex.blk 3 rfl ?_
      show Ex mr_X10_image sc (Cl MT pr sc (d + 0)) (rtE (some (.int r)) (mk X) σ2) (68, [(0, .ref 38), (1, .int x1)], [], mk X, (sI (sI σ 38 53 (gI σ 38 19)) 38 54 (gI (sI σ 38 53 (gI σ 38 19)) 38 20)))
      refine Ex.pick (lv' := _) [0] rfl ?_
      exact lk_X10_image_68 d _ h
    · refine And.intro (fun hp => absurd hp c1) (fun _ => ?_)
      show Ex mr_X10_image sc (Cl MT pr sc (d + 0)) (rtE (some (.int r)) (mk X) σ2) (34, [(0, .ref 38), (1, .int x1)], [], mk X, σ)
      refine Ex.blk 5 rfl ?_
      show Ex mr_X10_image sc (Cl MT pr sc (d + 0)) (rtE (some (.int r)) (mk X) σ2) (43, [(0, .ref 38), (1, .int x1)], [.ref 44, .int x1, .ref 70], mk X, σ)
      refine Ex.blk 2 rfl ?_
      obtain ⟨g2, h⟩ := gd_some h
      refine And.intro (inb_ok g2) ?_
      show Ex mr_X10_image sc (Cl MT pr sc (d + 0)) (rtE (some (.int r)) (mk X) σ2) (45, [(0, .ref 38), (1, .int x1)], [.int (gI σ 44 x1.toNatClampNeg), .int x1, .ref 70], mk X, σ)
      refine Ex.blk 1 rfl ?_
      obtain ⟨g3, h⟩ := gd_some h
      refine And.intro (inb_ok g3) ?_
      show Ex mr_X10_image sc (Cl MT pr sc (d + 0)) (rtE (some (.int r)) (mk X) σ2) (46, [(0, .ref 38), (1, .int x1)], [], mk X, (sI σ 70 x1.toNatClampNeg (gI σ 44 x1.toNatClampNeg)))
      refine Ex.blk 1000 rfl ?_
      show Ex mr_X10_image sc (Cl MT pr sc (d + 0)) (rtE (some (.int r)) (mk X) σ2) (28, [(1, .int (x1 + 1)), (0, .ref 38)], [], mk X, (sI σ 70 x1.toNatClampNeg (gI σ 44 x1.toNatClampNeg)))
      refine Ex.pick (lv' := _) [1, 0] rfl ?_
      exact ih _ _ h
theorem lk_X10_image_2 {pr : Ct} {sc : Nat × (Nat → Int32)} {X : En} (d : Nat) {r : Int32} {σ2 : St} : ∀ (n : Nat) (x1 : Int32) (σ : St), f_X10_image_2 n x1 σ = some (r, σ2) → Ex mr_X10_image sc (Cl MT pr sc (d + 0)) (rtE (some (.int r)) (mk X) σ2) (2, [(0, .ref 38), (1, .int x1)], [], mk X, σ) := by
  intro n
  induction n with
  | zero =>
    intro x1 σ h
    cases h
  | succ n ih =>
    intro x1 σ h
    simp only [f_X10_image_2] at h
    refine Ex.blk 1000 rfl ?_
    rcases ite_sp h with ⟨c1, h⟩ | ⟨c1, h⟩
    · refine And.intro (fun _ => ?_) (fun hn => absurd c1 hn)
      show Ex mr_X10_image sc (Cl MT pr sc (d + 0)) (rtE (some (.int r)) (mk X) σ2) (26, [(0, .ref 38), (1, .int x1)], [], mk X, σ)
      refine Ex.blk 1000 rfl ?_
      show Ex mr_X10_image sc (Cl MT pr sc (d + 0)) (rtE (some (.int r)) (mk X) σ2) (28, [(1, .int 0), (0, .ref 38)], [], mk X, σ)
      refine Ex.pick (lv' := _) [1, 0] rfl ?_
      exact lk_X10_image_28 d FU _ _ h
    · refine And.intro (fun hp => absurd hp c1) (fun _ => ?_)
      show Ex mr_X10_image sc (Cl MT pr sc (d + 0)) (rtE (some (.int r)) (mk X) σ2) (8, [(0, .ref 38), (1, .int x1)], [], mk X, σ)
      refine Ex.blk 5 rfl ?_
      show Ex mr_X10_image sc (Cl MT pr sc (d + 0)) (rtE (some (.int r)) (mk X) σ2) (17, [(0, .ref 38), (1, .int x1)], [.ref 46, .int x1, .ref 69], mk X, σ)
      refine Ex.blk 2 rfl ?_
      obtain ⟨g2, h⟩ := gd_some h
      refine And.intro (inb_ok g2) ?_
      show Ex mr_X10_image sc (Cl MT pr sc (d + 0)) (rtE (some (.int r)) (mk X) σ2) (19, [(0, .ref 38), (1, .int x1)], [.int (gI σ 46 x1.toNatClampNeg), .int x1, .ref 69], mk X, σ)
      refine Ex.blk 1 rfl ?_
      obtain ⟨g3, h⟩ := gd_some h
      refine And.intro (inb_ok g3) ?_
      show Ex mr_X10_image sc (Cl MT pr sc (d + 0)) (rtE (some (.int r)) (mk X) σ2) (20, [(0, .ref 38), (1, .int x1)], [], mk X, (sI σ 69 x1.toNatClampNeg (gI σ 46 x1.toNatClampNeg)))
      refine Ex.blk 1000 rfl ?_
      show Ex mr_X10_image sc (Cl MT pr sc (d + 0)) (rtE (some (.int r)) (mk X) σ2) (2, [(1, .int (x1 + 1)), (0, .ref 38)], [], mk X, (sI σ 69 x1.toNatClampNeg (gI σ 46 x1.toNatClampNeg)))
      refine Ex.pick (lv' := _) [1, 0] rfl ?_
      exact ih _ _ h
theorem cl_X10_image {pr : Ct} {sc : Nat × (Nat → Int32)} {X : En} (d : Nat) {r : Int32} {σ2 : St} {σ : St} (h : f_X10_image σ = some (r, σ2)) : Cl MT pr sc (d + 0 + 1) 249 [.ref 38] (mk X) σ (some (.int r)) (mk X) σ2 := by
  refine cl_of mr_X10_image rfl rfl ?_
  unfold f_X10_image at h
  refine Ex.blk 1000 rfl ?_
  show Ex mr_X10_image sc (Cl MT pr sc (d + 0)) (rtE (some (.int r)) (mk X) σ2) (2, [(1, .int 0), (0, .ref 38)], [], mk X, σ)
  refine Ex.pick (lv' := _) [1, 0] rfl ?_
  exact lk_X10_image_2 d FU _ _ h
theorem lk_X10_back_77 {pr : Ct} {sc : Nat × (Nat → Int32)} {X : En} (d : Nat) {r : Int32} {σ2 : St} (σ : St) (h : f_X10_back_77 σ = some (r, σ2)) : Ex mr_X10_back sc (Cl MT pr sc (d + 0)) (rtE (some (.int r)) (mk X) σ2) (77, [(0, .ref 38)], [], mk X, σ) := by
  unfold f_X10_back_77 at h
  refine Ex.blk 5 rfl ?_
  show Ex mr_X10_back sc (Cl MT pr sc (d + 0)) (rtE (some (.int r)) (mk X) σ2) (86, [(0, .ref 38)], [.ref 38], mk X, (sJ σ 38 18 (gJ σ 38 55)))
  refine Ex.blk 5 rfl ?_
  show Ex mr_X10_back sc (Cl MT pr sc (d + 0)) (rtE (some (.int r)) (mk X) σ2) (96, [(0, .ref 38)], [.int 18, .ref 46], mk X, (sI (sJ σ 38 18 (gJ σ 38 55)) 38 27 0))
  refine Ex.blk 1 rfl ?_
  refine And.intro (inb_ok (i := 18) (n := 19) (by decide)) ?_
  show Ex mr_X10_back sc (Cl MT pr sc (d + 0)) (rtE (some (.int r)) (mk X) σ2) (97, [(0, .ref 38)], [.int (gI (sI (sJ σ 38 18 (gJ σ 38 55)) 38 27 0) 46 (18 : Int32).toNatClampNeg)], mk X, (sI (sJ σ 38 18 (gJ σ 38 55)) 38 27 0))
  refine Ex.blk 1000 rfl ?_
  cases h
  exact And.intro trivial ⟨rfl, rfl, rfl⟩
theorem lk_X10_back_37 {pr : Ct} {sc : Nat × (Nat → Int32)} {X : En} (d : Nat) {r : Int32} {σ2 : St} : ∀ (n : Nat) (x1 : Int32) (σ : St), f_X10_back_37 n x1 σ = some (r, σ2) → Ex mr_X10_back sc (Cl MT pr sc (d + 0)) (rtE (some (.int r)) (mk X) σ2) (37, [(0, .ref 38), (1, .int x1)], [], mk X, σ) := by
  intro n
  induction n with
  | zero =>
    intro x1 σ h
    cases h
  | succ n ih =>
    intro x1 σ h
    simp only [f_X10_back_37] at h
    refine Ex.blk 1000 rfl ?_
    rcases ite_sp h with ⟨c1, h⟩ | ⟨c1, h⟩
    · refine And.intro (fun _ => ?_) (fun hn => absurd c1 hn)
      show Ex mr_X10_back sc (Cl MT pr sc (d + 0)) (rtE (some (.int r)) (mk X) σ2) (61, [(0, .ref 38), (1, .int x1)], [], mk X, σ)
      refine Ex.blk 5 rfl ?_
      show Ex mr_X10_back sc (Cl MT pr sc (d + 0)) (rtE (some (.int r)) (mk X) σ2) (70, [(0, .ref 38), (1, .int x1)], [.ref 38], mk X, (sI σ 38 19 (gI σ 38 53)))
      refine Ex.blk 3 rfl ?_
      show Ex mr_X10_back sc (Cl MT pr sc (d + 0)) (rtE (some (.int r)) (mk X) σ2) (77, [(0, .ref 38), (1, .int x1)], [], mk X, (sI (sI σ 38 19 (gI σ 38 53)) 38 20 (gI (sI σ 38 19 (gI σ 38 53)) 38 54)))
      refine Ex.pick (lv' := _) [0] rfl ?_
      exact lk_X10_back_77 d _ h
    · refine And.intro (fun hp => absurd hp c1) (fun _ => ?_)
      show Ex mr_X10_back sc (Cl MT pr sc (d + 0)) (rtE (some (.int r)) (mk X) σ2) (43, [(0, .ref 38), (1, .int x1)], [], mk X, σ)
      refine Ex.blk 5 rfl ?_
      show Ex mr_X10_back sc (Cl MT pr sc (d + 0)) (rtE (some (.int r)) (mk X) σ2) (52, [(0, .ref 38), (1, .int x1)], [.ref 70, .int x1, .ref 44], mk X, σ)
      refine Ex.blk 2 rfl ?_
      obtain ⟨g2, h⟩ := gd_some h
      refine And.intro (inb_ok g2) ?_
      show Ex mr_X10_back sc (Cl MT pr sc (d + 0)) (rtE (some (.int r)) (mk X) σ2) (54, [(0, .ref 38), (1, .int x1)], [.int (gI σ 70 x1.toNatClampNeg), .int x1, .ref 44], mk X, σ)
      refine Ex.blk 1 rfl ?_
      obtain ⟨g3, h⟩ := gd_some h
      refine And.intro (inb_ok g3) ?_
      show Ex mr_X10_back sc (Cl MT pr sc (d + 0)) (rtE (some (.int r)) (mk X) σ2) (55, [(0, .ref 38), (1, .int x1)], [], mk X, (sI σ 44 x1.toNatClampNeg (gI σ 70 x1.toNatClampNeg)))
      refine Ex.blk 1000 rfl ?_
      show Ex mr_X10_back sc (Cl MT pr sc (d + 0)) (rtE (some (.int r)) (mk X) σ2) (37, [(1, .int (x1 + 1)), (0, .ref 38)], [], mk X, (sI σ 44 x1.toNatClampNeg (gI σ 70 x1.toNatClampNeg)))
      refine Ex.pick (lv' := _) [1, 0] rfl ?_
      exact ih _ _ h
theorem lk_X10_back_11 {pr : Ct} {sc : Nat × (Nat → Int32)} {X : En} (d : Nat) {r : Int32} {σ2 : St} : ∀ (n : Nat) (x1 : Int32) (σ : St), f_X10_back_11 n x1 σ = some (r, σ2) → Ex mr_X10_back sc (Cl MT pr sc (d + 0)) (rtE (some (.int r)) (mk X) σ2) (11, [(0, .ref 38), (1, .int x1)], [], mk X, σ) := by
  intro n
  induction n with
  | zero =>
    intro x1 σ h
    cases h
  | succ n ih =>
    intro x1 σ h
    simp only [f_X10_back_11] at h
    refine Ex.blk 1000 rfl ?_
    rcases ite_sp h with ⟨c1, h⟩ | ⟨c1, h⟩
    · refine And.intro (fun _ => ?_) (fun hn => absurd c1 hn)
      show Ex mr_X10_back sc (Cl MT pr sc (d + 0)) (rtE (some (.int r)) (mk X) σ2) (35, [(0, .ref 38), (1, .int x1)], [], mk X, σ)
      refine Ex.blk 1000 rfl ?_
      show Ex mr_X10_back sc (Cl MT pr sc (d + 0)) (rtE (some (.int r)) (mk X) σ2) (37, [(1, .int 0), (0, .ref 38)], [], mk X, σ)
      refine Ex.pick (lv' := _) [1, 0] rfl ?_
      exact lk_X10_back_37 d FU _ _ h
    · refine And.intro (fun hp => absurd hp c1) (fun _ => ?_)
      show Ex mr_X10_back sc (Cl MT pr sc (d + 0)) (rtE (some (.int r)) (mk X) σ2) (17, [(0, .ref 38), (1, .int x1)], [], mk X, σ)
      refine Ex.blk 5 rfl ?_
      show Ex mr_X10_back sc (Cl MT pr sc (d + 0)) (rtE (some (.int r)) (mk X) σ2) (26, [(0, .ref 38), (1, .int x1)], [.ref 69, .int x1, .ref 46], mk X, σ)
      refine Ex.blk 2 rfl ?_
      obtain ⟨g2, h⟩ := gd_some h
      refine And.intro (inb_ok g2) ?_
      show Ex mr_X10_back sc (Cl MT pr sc (d + 0)) (rtE (some (.int r)) (mk X) σ2) (28, [(0, .ref 38), (1, .int x1)], [.int (gI σ 69 x1.toNatClampNeg), .int x1, .ref 46], mk X, σ)
      refine Ex.blk 1 rfl ?_
      obtain ⟨g3, h⟩ := gd_some h
      refine And.intro (inb_ok g3) ?_
      show Ex mr_X10_back sc (Cl MT pr sc (d + 0)) (rtE (some (.int r)) (mk X) σ2) (29, [(0, .ref 38), (1, .int x1)], [], mk X, (sI σ 46 x1.toNatClampNeg (gI σ 69 x1.toNatClampNeg)))
      refine Ex.blk 1000 rfl ?_
      show Ex mr_X10_back sc (Cl MT pr sc (d + 0)) (rtE (some (.int r)) (mk X) σ2) (11, [(1, .int (x1 + 1)), (0, .ref 38)], [], mk X, (sI σ 46 x1.toNatClampNeg (gI σ 69 x1.toNatClampNeg)))
      refine Ex.pick (lv' := _) [1, 0] rfl ?_
      exact ih _ _ h
theorem cl_X10_back {pr : Ct} {sc : Nat × (Nat → Int32)} {X : En} (d : Nat) {r : Int32} {σ2 : St} {σ : St} (h : f_X10_back σ = some (r, σ2)) : Cl MT pr sc (d + 0 + 1) 250 [.ref 38] (mk X) σ (some (.int r)) (mk X) σ2 := by
  refine cl_of mr_X10_back rfl rfl ?_
  unfold f_X10_back at h
  refine Ex.blk 1000 rfl ?_
  rcases ite_sp h with ⟨c1, h⟩ | ⟨c1, h⟩
  · refine And.intro (fun hp => absurd c1 hp) (fun _ => ?_)
    show Ex mr_X10_back sc (Cl MT pr sc (d + 0)) (rtE (some (.int r)) (mk X) σ2) (7, [(0, .ref 38)], [], mk X, σ)
    refine Ex.blk 1000 rfl ?_
    cases h
    exact And.intro trivial ⟨rfl, rfl, rfl⟩
  · refine And.intro (fun _ => ?_) (fun hn => absurd c1 hn)
    show Ex mr_X10_back sc (Cl MT pr sc (d + 0)) (rtE (some (.int r)) (mk X) σ2) (9, [(0, .ref 38)], [], mk X, σ)
    refine Ex.blk 1000 rfl ?_
    show Ex mr_X10_back sc (Cl MT pr sc (d + 0)) (rtE (some (.int r)) (mk X) σ2) (11, [(1, .int 0), (0, .ref 38)], [], mk X, σ)
    refine Ex.pick (lv' := _) [1, 0] rfl ?_
    exact lk_X10_back_11 d FU _ _ h
theorem cl_X10_count {pr : Ct} {sc : Nat × (Nat → Int32)} {X : En} (d : Nat) {r : Int32} {σ2 : St} {x1 : Int32} {σ : St} (h : f_X10_count x1 σ = some (r, σ2)) : Cl MT pr sc (d + 0 + 1) 251 [.ref 38, .int x1] (mk X) σ (some (.int r)) (mk X) σ2 := by
  refine cl_of mr_X10_count rfl rfl ?_
  unfold f_X10_count at h
  refine Ex.blk 1000 rfl ?_
  rcases ite_sp h with ⟨c1, h⟩ | ⟨c1, h⟩
  · refine And.intro (fun _ => ?_) (fun hn => absurd (c1.trans (by decide)) hn)
    show Ex mr_X10_count sc (Cl MT pr sc (d + 0)) (rtE (some (.int r)) (mk X) σ2) (36, [(0, .ref 38), (1, .int x1)], [], mk X, σ)
    refine Ex.blk 1000 rfl ?_
    cases h
    exact And.intro trivial ⟨rfl, rfl, rfl⟩
  refine And.intro (fun hp => absurd (hp.trans (by decide)) c1) (fun _ => ?_)
  rcases ite_sp h with ⟨c2, h⟩ | ⟨c2, h⟩
  · refine And.intro (fun _ => ?_) (fun hn => absurd (c2.trans (by decide)) hn)
    show Ex mr_X10_count sc (Cl MT pr sc (d + 0)) (rtE (some (.int r)) (mk X) σ2) (41, [(0, .ref 38), (1, .int x1)], [], mk X, σ)
    refine Ex.blk 1000 rfl ?_
    cases h
    exact And.intro trivial ⟨rfl, rfl, rfl⟩
  refine And.intro (fun hp => absurd (hp.trans (by decide)) c2) (fun _ => ?_)
  rcases ite_sp h with ⟨c3, h⟩ | ⟨c3, h⟩
  · refine And.intro (fun _ => ?_) (fun hn => absurd (c3.trans (by decide)) hn)
    show Ex mr_X10_count sc (Cl MT pr sc (d + 0)) (rtE (some (.int r)) (mk X) σ2) (46, [(0, .ref 38), (1, .int x1)], [], mk X, σ)
    refine Ex.blk 1000 rfl ?_
    cases h
    exact And.intro trivial ⟨rfl, rfl, rfl⟩
  refine And.intro (fun hp => absurd (hp.trans (by decide)) c3) (fun _ => ?_)
  rcases ite_sp h with ⟨c4, h⟩ | ⟨c4, h⟩
  · refine And.intro (fun _ => ?_) (fun hn => absurd (c4.trans (by decide)) hn)
    show Ex mr_X10_count sc (Cl MT pr sc (d + 0)) (rtE (some (.int r)) (mk X) σ2) (51, [(0, .ref 38), (1, .int x1)], [], mk X, σ)
    refine Ex.blk 1000 rfl ?_
    cases h
    exact And.intro trivial ⟨rfl, rfl, rfl⟩
  refine And.intro (fun hp => absurd (hp.trans (by decide)) c4) (fun _ => ?_)
  rcases ite_sp h with ⟨c5, h⟩ | ⟨c5, h⟩
  · refine And.intro (fun _ => ?_) (fun hn => absurd (c5.trans (by decide)) hn)
    show Ex mr_X10_count sc (Cl MT pr sc (d + 0)) (rtE (some (.int r)) (mk X) σ2) (56, [(0, .ref 38), (1, .int x1)], [], mk X, σ)
    refine Ex.blk 1000 rfl ?_
    cases h
    exact And.intro trivial ⟨rfl, rfl, rfl⟩
  refine And.intro (fun hp => absurd (hp.trans (by decide)) c5) (fun _ => ?_)
  show Ex mr_X10_count sc (Cl MT pr sc (d + 0)) (rtE (some (.int r)) (mk X) σ2) (61, [(0, .ref 38), (1, .int x1)], [], mk X, σ)
  refine Ex.blk 1000 rfl ?_
  cases h
  exact And.intro trivial ⟨rfl, rfl, rfl⟩
