theorem lk_X10_near_131 {pr : Ct} {sc : Nat × (Nat → Int32)} {X : En} (d : Nat) {r : Int32} {σ2 : St} (k20 : Int64 → Int32 → Int32 → St → Option (Int32 × St)) (k34 : Int64 → Int32 → Int32 → Int32 → St → Option (Int32 × St)) (hk20 : ∀ (x1 : Int64) (x3 : Int32) (x4 : Int32) (σ : St), k20 x1 x3 x4 σ = some (r, σ2) → Ex mr_X10_near sc (Cl MT pr sc (d + 3)) (rtE (some (.int r)) (mk X) σ2) (20, [(0, .ref 38), (1, .long x1), (3, .int x3), (4, .int x4)], [], mk X, σ)) (hk34 : ∀ (x1 : Int64) (x3 : Int32) (x4 : Int32) (x5 : Int32) (σ : St), k34 x1 x3 x4 x5 σ = some (r, σ2) → Ex mr_X10_near sc (Cl MT pr sc (d + 3)) (rtE (some (.int r)) (mk X) σ2) (34, [(0, .ref 38), (1, .long x1), (3, .int x3), (4, .int x4), (5, .int x5)], [], mk X, σ)) (x1 : Int64) (x3 : Int32) (x4 : Int32) (x5 : Int32) (σ : St) (h : f_X10_near_131 k20 k34 x1 x3 x4 x5 σ = some (r, σ2)) : Ex mr_X10_near sc (Cl MT pr sc (d + 3)) (rtE (some (.int r)) (mk X) σ2) (131, [(0, .ref 38), (1, .long x1), (3, .int x3), (4, .int x4), (5, .int x5)], [], mk X, σ) := by
  unfold f_X10_near_131 at h
  refine Ex.blk 1000 rfl ?_
  show Ex mr_X10_near sc (Cl MT pr sc (d + 3)) (rtE (some (.int r)) (mk X) σ2) (34, [(5, .int (x5 + 1)), (0, .ref 38), (1, .long x1), (3, .int x3), (4, .int x4)], [], mk X, σ)
  refine Ex.pick (lv' := _) [1, 2, 3, 4, 0] rfl ?_
  exact hk34 _ _ _ _ _ h
theorem lk_X10_near_129 {pr : Ct} {sc : Nat × (Nat → Int32)} {X : En} (d : Nat) {r : Int32} {σ2 : St} (k20 : Int64 → Int32 → Int32 → St → Option (Int32 × St)) (k34 : Int64 → Int32 → Int32 → Int32 → St → Option (Int32 × St)) (hk20 : ∀ (x1 : Int64) (x3 : Int32) (x4 : Int32) (σ : St), k20 x1 x3 x4 σ = some (r, σ2) → Ex mr_X10_near sc (Cl MT pr sc (d + 3)) (rtE (some (.int r)) (mk X) σ2) (20, [(0, .ref 38), (1, .long x1), (3, .int x3), (4, .int x4)], [], mk X, σ)) (hk34 : ∀ (x1 : Int64) (x3 : Int32) (x4 : Int32) (x5 : Int32) (σ : St), k34 x1 x3 x4 x5 σ = some (r, σ2) → Ex mr_X10_near sc (Cl MT pr sc (d + 3)) (rtE (some (.int r)) (mk X) σ2) (34, [(0, .ref 38), (1, .long x1), (3, .int x3), (4, .int x4), (5, .int x5)], [], mk X, σ)) (x1 : Int64) (x4 : Int32) (x5 : Int32) (y0 : Int32) (y1 : Int32) (σ : St) (h : f_X10_near_129 k20 k34 x1 x4 x5 y0 y1 σ = some (r, σ2)) : Ex mr_X10_near sc (Cl MT pr sc (d + 3)) (rtE (some (.int r)) (mk X) σ2) (129, [(0, .ref 38), (1, .long x1), (4, .int x4), (5, .int x5)], [.int y0, .int y1], mk X, σ) := by
  unfold f_X10_near_129 at h
  refine Ex.blk 2 rfl ?_
  show Ex mr_X10_near sc (Cl MT pr sc (d + 3)) (rtE (some (.int r)) (mk X) σ2) (131, [(3, .int (y1 + y0)), (0, .ref 38), (1, .long x1), (4, .int x4), (5, .int x5)], [], mk X, σ)
  refine Ex.pick (lv' := _) [1, 2, 0, 3, 4] rfl ?_
  exact lk_X10_near_131 d _ _ hk20 hk34 _ _ _ _ _ h
theorem lk_X10_near_128 {pr : Ct} {sc : Nat × (Nat → Int32)} {X : En} (d : Nat) {r : Int32} {σ2 : St} (k20 : Int64 → Int32 → Int32 → St → Option (Int32 × St)) (k34 : Int64 → Int32 → Int32 → Int32 → St → Option (Int32 × St)) (hk20 : ∀ (x1 : Int64) (x3 : Int32) (x4 : Int32) (σ : St), k20 x1 x3 x4 σ = some (r, σ2) → Ex mr_X10_near sc (Cl MT pr sc (d + 3)) (rtE (some (.int r)) (mk X) σ2) (20, [(0, .ref 38), (1, .long x1), (3, .int x3), (4, .int x4)], [], mk X, σ)) (hk34 : ∀ (x1 : Int64) (x3 : Int32) (x4 : Int32) (x5 : Int32) (σ : St), k34 x1 x3 x4 x5 σ = some (r, σ2) → Ex mr_X10_near sc (Cl MT pr sc (d + 3)) (rtE (some (.int r)) (mk X) σ2) (34, [(0, .ref 38), (1, .long x1), (3, .int x3), (4, .int x4), (5, .int x5)], [], mk X, σ)) (x1 : Int64) (x4 : Int32) (x5 : Int32) (y0 : Int32) (σ : St) (h : f_X10_near_128 k20 k34 x1 x4 x5 y0 σ = some (r, σ2)) : Ex mr_X10_near sc (Cl MT pr sc (d + 3)) (rtE (some (.int r)) (mk X) σ2) (128, [(0, .ref 38), (1, .long x1), (4, .int x4), (5, .int x5)], [.int y0], mk X, σ) := by
  unfold f_X10_near_128 at h
  refine Ex.blk 1000 rfl ?_
  show Ex mr_X10_near sc (Cl MT pr sc (d + 3)) (rtE (some (.int r)) (mk X) σ2) (129, [(0, .ref 38), (1, .long x1), (4, .int x4), (5, .int x5)], [.int 0, .int y0], mk X, σ)
  exact lk_X10_near_129 d _ _ hk20 hk34 _ _ _ _ _ _ h
theorem lk_X10_near_87 {pr : Ct} {sc : Nat × (Nat → Int32)} {X : En} (d : Nat) {r : Int32} {σ2 : St} (k20 : Int64 → Int32 → Int32 → St → Option (Int32 × St)) (k34 : Int64 → Int32 → Int32 → Int32 → St → Option (Int32 × St)) (hk20 : ∀ (x1 : Int64) (x3 : Int32) (x4 : Int32) (σ : St), k20 x1 x3 x4 σ = some (r, σ2) → Ex mr_X10_near sc (Cl MT pr sc (d + 3)) (rtE (some (.int r)) (mk X) σ2) (20, [(0, .ref 38), (1, .long x1), (3, .int x3), (4, .int x4)], [], mk X, σ)) (hk34 : ∀ (x1 : Int64) (x3 : Int32) (x4 : Int32) (x5 : Int32) (σ : St), k34 x1 x3 x4 x5 σ = some (r, σ2) → Ex mr_X10_near sc (Cl MT pr sc (d + 3)) (rtE (some (.int r)) (mk X) σ2) (34, [(0, .ref 38), (1, .long x1), (3, .int x3), (4, .int x4), (5, .int x5)], [], mk X, σ)) (x1 : Int64) (x3 : Int32) (x4 : Int32) (x5 : Int32) (σ : St) (h : f_X10_near_87 k20 k34 x1 x3 x4 x5 σ = some (r, σ2)) : Ex mr_X10_near sc (Cl MT pr sc (d + 3)) (rtE (some (.int r)) (mk X) σ2) (87, [(0, .ref 38), (1, .long x1), (3, .int x3), (4, .int x4), (5, .int x5)], [], mk X, σ) := by
  unfold f_X10_near_87 at h
  refine Ex.blk 4 rfl ?_
  obtain ⟨p4, hp4, h⟩ := bind_sp h
  refine Exists.intro (some (.int p4.1)) (Exists.intro (mk X) (Exists.intro p4.2 (And.intro (cl_X10_seen (d + 1) hp4) ?_)))
  show Ex mr_X10_near sc (Cl MT pr sc (d + 3)) (rtE (some (.int r)) (mk X) σ2) (94, [(0, .ref 38), (1, .long x1), (3, .int x3), (4, .int x4), (5, .int x5)], [.int p4.1, .int x3], mk X, p4.2)
  refine Ex.blk 5 rfl ?_
  show Ex mr_X10_near sc (Cl MT pr sc (d + 3)) (rtE (some (.int r)) (mk X) σ2) (101, [(0, .ref 38), (1, .long x1), (3, .int x3), (4, .int x4), (5, .int x5)], [.long 9, .long 0, .long (p4.1 - 1).toInt64, .int x3], mk X, p4.2)
  refine Ex.blk 1 rfl ?_
  obtain ⟨p5, hp5, h⟩ := bind_sp h
  refine Exists.intro (some (.int p5.1)) (Exists.intro (mk X) (Exists.intro p5.2 (And.intro (cl_X10_in (d + 2) hp5) ?_)))
  show Ex mr_X10_near sc (Cl MT pr sc (d + 3)) (rtE (some (.int r)) (mk X) σ2) (104, [(0, .ref 38), (1, .long x1), (3, .int x3), (4, .int x4), (5, .int x5)], [.int p5.1, .int x3], mk X, p5.2)
  refine Ex.blk 1000 rfl ?_
  rcases ite_sp h with ⟨c1, h⟩ | ⟨c1, h⟩
  · refine And.intro (fun _ => ?_) (fun hn => absurd c1 hn)
    show Ex mr_X10_near sc (Cl MT pr sc (d + 3)) (rtE (some (.int r)) (mk X) σ2) (128, [(0, .ref 38), (1, .long x1), (3, .int x3), (4, .int x4), (5, .int x5)], [.int x3], mk X, p5.2)
    refine Ex.pick (lv' := _) [0, 1, 3, 4] rfl ?_
    exact lk_X10_near_128 d _ _ hk20 hk34 _ _ _ _ _ h
  · refine And.intro (fun hp => absurd hp c1) (fun _ => ?_)
    show Ex mr_X10_near sc (Cl MT pr sc (d + 3)) (rtE (some (.int r)) (mk X) σ2) (107, [(0, .ref 38), (1, .long x1), (3, .int x3), (4, .int x4), (5, .int x5)], [.int x3], mk X, p5.2)
    refine Ex.blk 3 rfl ?_
    obtain ⟨p6, hp6, h⟩ := bind_sp h
    refine Exists.intro (some (.long p6.1)) (Exists.intro (mk X) (Exists.intro p6.2 (And.intro (cl_X10_sumOf (d + 1) hp6) ?_)))
    show Ex mr_X10_near sc (Cl MT pr sc (d + 3)) (rtE (some (.int r)) (mk X) σ2) (113, [(0, .ref 38), (1, .long x1), (3, .int x3), (4, .int x4), (5, .int x5)], [.long p6.1, .int x3], mk X, p6.2)
    refine Ex.blk 3 rfl ?_
    obtain ⟨p7, hp7, h⟩ := bind_sp h
    refine Exists.intro (some (.long p7.1)) (Exists.intro (mk X) (Exists.intro p7.2 (And.intro (cl_X10_ten (d + 2) hp7) ?_)))
    show Ex mr_X10_near sc (Cl MT pr sc (d + 3)) (rtE (some (.int r)) (mk X) σ2) (119, [(0, .ref 38), (1, .long x1), (3, .int x3), (4, .int x4), (5, .int x5)], [.long p7.1, .long x1, .long p6.1, .int x3], mk X, p7.2)
    refine Ex.blk 1000 rfl ?_
    rcases ite_sp h with ⟨c2, h⟩ | ⟨c2, h⟩
    · refine And.intro (fun hp => absurd c2 hp) (fun _ => ?_)
      show Ex mr_X10_near sc (Cl MT pr sc (d + 3)) (rtE (some (.int r)) (mk X) σ2) (124, [(0, .ref 38), (1, .long x1), (3, .int x3), (4, .int x4), (5, .int x5)], [.int x3], mk X, p7.2)
      refine Ex.blk 1000 rfl ?_
      show Ex mr_X10_near sc (Cl MT pr sc (d + 3)) (rtE (some (.int r)) (mk X) σ2) (129, [(0, .ref 38), (1, .long x1), (3, .int x3), (4, .int x4), (5, .int x5)], [.int 1, .int x3], mk X, p7.2)
      refine Ex.pick (lv' := _) [0, 1, 3, 4] rfl ?_
      exact lk_X10_near_129 d _ _ hk20 hk34 _ _ _ _ _ _ h
    · refine And.intro (fun _ => ?_) (fun hn => absurd c2 hn)
      show Ex mr_X10_near sc (Cl MT pr sc (d + 3)) (rtE (some (.int r)) (mk X) σ2) (128, [(0, .ref 38), (1, .long x1), (3, .int x3), (4, .int x4), (5, .int x5)], [.int x3], mk X, p7.2)
      refine Ex.pick (lv' := _) [0, 1, 3, 4] rfl ?_
      exact lk_X10_near_128 d _ _ hk20 hk34 _ _ _ _ _ h
theorem lk_X10_near_85 {pr : Ct} {sc : Nat × (Nat → Int32)} {X : En} (d : Nat) {r : Int32} {σ2 : St} (k20 : Int64 → Int32 → Int32 → St → Option (Int32 × St)) (k34 : Int64 → Int32 → Int32 → Int32 → St → Option (Int32 × St)) (hk20 : ∀ (x1 : Int64) (x3 : Int32) (x4 : Int32) (σ : St), k20 x1 x3 x4 σ = some (r, σ2) → Ex mr_X10_near sc (Cl MT pr sc (d + 3)) (rtE (some (.int r)) (mk X) σ2) (20, [(0, .ref 38), (1, .long x1), (3, .int x3), (4, .int x4)], [], mk X, σ)) (hk34 : ∀ (x1 : Int64) (x3 : Int32) (x4 : Int32) (x5 : Int32) (σ : St), k34 x1 x3 x4 x5 σ = some (r, σ2) → Ex mr_X10_near sc (Cl MT pr sc (d + 3)) (rtE (some (.int r)) (mk X) σ2) (34, [(0, .ref 38), (1, .long x1), (3, .int x3), (4, .int x4), (5, .int x5)], [], mk X, σ)) (x1 : Int64) (x4 : Int32) (x5 : Int32) (y0 : Int32) (y1 : Int32) (σ : St) (h : f_X10_near_85 k20 k34 x1 x4 x5 y0 y1 σ = some (r, σ2)) : Ex mr_X10_near sc (Cl MT pr sc (d + 3)) (rtE (some (.int r)) (mk X) σ2) (85, [(0, .ref 38), (1, .long x1), (4, .int x4), (5, .int x5)], [.int y0, .int y1], mk X, σ) := by
  unfold f_X10_near_85 at h
  refine Ex.blk 2 rfl ?_
  show Ex mr_X10_near sc (Cl MT pr sc (d + 3)) (rtE (some (.int r)) (mk X) σ2) (87, [(3, .int (y1 + y0)), (0, .ref 38), (1, .long x1), (4, .int x4), (5, .int x5)], [], mk X, σ)
  refine Ex.pick (lv' := _) [1, 2, 0, 3, 4] rfl ?_
  exact lk_X10_near_87 d _ _ hk20 hk34 _ _ _ _ _ h
theorem lk_X10_near_84 {pr : Ct} {sc : Nat × (Nat → Int32)} {X : En} (d : Nat) {r : Int32} {σ2 : St} (k20 : Int64 → Int32 → Int32 → St → Option (Int32 × St)) (k34 : Int64 → Int32 → Int32 → Int32 → St → Option (Int32 × St)) (hk20 : ∀ (x1 : Int64) (x3 : Int32) (x4 : Int32) (σ : St), k20 x1 x3 x4 σ = some (r, σ2) → Ex mr_X10_near sc (Cl MT pr sc (d + 3)) (rtE (some (.int r)) (mk X) σ2) (20, [(0, .ref 38), (1, .long x1), (3, .int x3), (4, .int x4)], [], mk X, σ)) (hk34 : ∀ (x1 : Int64) (x3 : Int32) (x4 : Int32) (x5 : Int32) (σ : St), k34 x1 x3 x4 x5 σ = some (r, σ2) → Ex mr_X10_near sc (Cl MT pr sc (d + 3)) (rtE (some (.int r)) (mk X) σ2) (34, [(0, .ref 38), (1, .long x1), (3, .int x3), (4, .int x4), (5, .int x5)], [], mk X, σ)) (x1 : Int64) (x4 : Int32) (x5 : Int32) (y0 : Int32) (σ : St) (h : f_X10_near_84 k20 k34 x1 x4 x5 y0 σ = some (r, σ2)) : Ex mr_X10_near sc (Cl MT pr sc (d + 3)) (rtE (some (.int r)) (mk X) σ2) (84, [(0, .ref 38), (1, .long x1), (4, .int x4), (5, .int x5)], [.int y0], mk X, σ) := by
  unfold f_X10_near_84 at h
  refine Ex.blk 1000 rfl ?_
  show Ex mr_X10_near sc (Cl MT pr sc (d + 3)) (rtE (some (.int r)) (mk X) σ2) (85, [(0, .ref 38), (1, .long x1), (4, .int x4), (5, .int x5)], [.int 0, .int y0], mk X, σ)
  exact lk_X10_near_85 d _ _ hk20 hk34 _ _ _ _ _ _ h
theorem lk_X10_near_34 {pr : Ct} {sc : Nat × (Nat → Int32)} {X : En} (d : Nat) {r : Int32} {σ2 : St} (k20 : Int64 → Int32 → Int32 → St → Option (Int32 × St)) (hk20 : ∀ (x1 : Int64) (x3 : Int32) (x4 : Int32) (σ : St), k20 x1 x3 x4 σ = some (r, σ2) → Ex mr_X10_near sc (Cl MT pr sc (d + 3)) (rtE (some (.int r)) (mk X) σ2) (20, [(0, .ref 38), (1, .long x1), (3, .int x3), (4, .int x4)], [], mk X, σ)) : ∀ (n : Nat) (x1 : Int64) (x3 : Int32) (x4 : Int32) (x5 : Int32) (σ : St), f_X10_near_34 k20 n x1 x3 x4 x5 σ = some (r, σ2) → Ex mr_X10_near sc (Cl MT pr sc (d + 3)) (rtE (some (.int r)) (mk X) σ2) (34, [(0, .ref 38), (1, .long x1), (3, .int x3), (4, .int x4), (5, .int x5)], [], mk X, σ) := by
  intro n
  induction n with
  | zero =>
    intro x1 x3 x4 x5 σ h
    cases h
  | succ n ih =>
    intro x1 x3 x4 x5 σ h
    simp only [f_X10_near_34] at h
    refine Ex.blk 1000 rfl ?_
    rcases ite_sp h with ⟨c1, h⟩ | ⟨c1, h⟩
    · refine And.intro (fun _ => ?_) (fun hn => absurd c1 hn)
      show Ex mr_X10_near sc (Cl MT pr sc (d + 3)) (rtE (some (.int r)) (mk X) σ2) (137, [(0, .ref 38), (1, .long x1), (3, .int x3), (4, .int x4), (5, .int x5)], [], mk X, σ)
      refine Ex.blk 1000 rfl ?_
      show Ex mr_X10_near sc (Cl MT pr sc (d + 3)) (rtE (some (.int r)) (mk X) σ2) (20, [(4, .int (x4 + 1)), (0, .ref 38), (1, .long x1), (3, .int x3), (5, .int x5)], [], mk X, σ)
      refine Ex.pick (lv' := _) [1, 2, 3, 0] rfl ?_
      exact hk20 _ _ _ _ h
    · refine And.intro (fun hp => absurd hp c1) (fun _ => ?_)
      show Ex mr_X10_near sc (Cl MT pr sc (d + 3)) (rtE (some (.int r)) (mk X) σ2) (43, [(0, .ref 38), (1, .long x1), (3, .int x3), (4, .int x4), (5, .int x5)], [], mk X, σ)
      refine Ex.blk 4 rfl ?_
      obtain ⟨p2, hp2, h⟩ := bind_sp h
      refine Exists.intro (some (.int p2.1)) (Exists.intro (mk X) (Exists.intro p2.2 (And.intro (cl_X10_seen (d + 1) hp2) ?_)))
      show Ex mr_X10_near sc (Cl MT pr sc (d + 3)) (rtE (some (.int r)) (mk X) σ2) (50, [(0, .ref 38), (1, .long x1), (3, .int x3), (4, .int x4), (5, .int x5)], [.int p2.1, .int x3], mk X, p2.2)
      refine Ex.blk 5 rfl ?_
      show Ex mr_X10_near sc (Cl MT pr sc (d + 3)) (rtE (some (.int r)) (mk X) σ2) (57, [(0, .ref 38), (1, .long x1), (3, .int x3), (4, .int x4), (5, .int x5)], [.long 9, .long 0, .long (p2.1 + 1).toInt64, .int x3], mk X, p2.2)
      refine Ex.blk 1 rfl ?_
      obtain ⟨p3, hp3, h⟩ := bind_sp h
      refine Exists.intro (some (.int p3.1)) (Exists.intro (mk X) (Exists.intro p3.2 (And.intro (cl_X10_in (d + 2) hp3) ?_)))
      show Ex mr_X10_near sc (Cl MT pr sc (d + 3)) (rtE (some (.int r)) (mk X) σ2) (60, [(0, .ref 38), (1, .long x1), (3, .int x3), (4, .int x4), (5, .int x5)], [.int p3.1, .int x3], mk X, p3.2)
      refine Ex.blk 1000 rfl ?_
      rcases ite_sp h with ⟨c2, h⟩ | ⟨c2, h⟩
      · refine And.intro (fun _ => ?_) (fun hn => absurd c2 hn)
        show Ex mr_X10_near sc (Cl MT pr sc (d + 3)) (rtE (some (.int r)) (mk X) σ2) (84, [(0, .ref 38), (1, .long x1), (3, .int x3), (4, .int x4), (5, .int x5)], [.int x3], mk X, p3.2)
        refine Ex.pick (lv' := _) [0, 1, 3, 4] rfl ?_
        exact lk_X10_near_84 d _ _ hk20 ih _ _ _ _ _ h
      · refine And.intro (fun hp => absurd hp c2) (fun _ => ?_)
        show Ex mr_X10_near sc (Cl MT pr sc (d + 3)) (rtE (some (.int r)) (mk X) σ2) (63, [(0, .ref 38), (1, .long x1), (3, .int x3), (4, .int x4), (5, .int x5)], [.int x3], mk X, p3.2)
        refine Ex.blk 3 rfl ?_
        obtain ⟨p8, hp8, h⟩ := bind_sp h
        refine Exists.intro (some (.long p8.1)) (Exists.intro (mk X) (Exists.intro p8.2 (And.intro (cl_X10_sumOf (d + 1) hp8) ?_)))
        show Ex mr_X10_near sc (Cl MT pr sc (d + 3)) (rtE (some (.int r)) (mk X) σ2) (69, [(0, .ref 38), (1, .long x1), (3, .int x3), (4, .int x4), (5, .int x5)], [.long p8.1, .int x3], mk X, p8.2)
        refine Ex.blk 3 rfl ?_
        obtain ⟨p9, hp9, h⟩ := bind_sp h
        refine Exists.intro (some (.long p9.1)) (Exists.intro (mk X) (Exists.intro p9.2 (And.intro (cl_X10_ten (d + 2) hp9) ?_)))
        show Ex mr_X10_near sc (Cl MT pr sc (d + 3)) (rtE (some (.int r)) (mk X) σ2) (75, [(0, .ref 38), (1, .long x1), (3, .int x3), (4, .int x4), (5, .int x5)], [.long p9.1, .long x1, .long p8.1, .int x3], mk X, p9.2)
        refine Ex.blk 1000 rfl ?_
        rcases ite_sp h with ⟨c3, h⟩ | ⟨c3, h⟩
        · refine And.intro (fun hp => absurd c3 hp) (fun _ => ?_)
          show Ex mr_X10_near sc (Cl MT pr sc (d + 3)) (rtE (some (.int r)) (mk X) σ2) (80, [(0, .ref 38), (1, .long x1), (3, .int x3), (4, .int x4), (5, .int x5)], [.int x3], mk X, p9.2)
          refine Ex.blk 1000 rfl ?_
          show Ex mr_X10_near sc (Cl MT pr sc (d + 3)) (rtE (some (.int r)) (mk X) σ2) (85, [(0, .ref 38), (1, .long x1), (3, .int x3), (4, .int x4), (5, .int x5)], [.int 1, .int x3], mk X, p9.2)
          refine Ex.pick (lv' := _) [0, 1, 3, 4] rfl ?_
          exact lk_X10_near_85 d _ _ hk20 ih _ _ _ _ _ _ h
        · refine And.intro (fun _ => ?_) (fun hn => absurd c3 hn)
          show Ex mr_X10_near sc (Cl MT pr sc (d + 3)) (rtE (some (.int r)) (mk X) σ2) (84, [(0, .ref 38), (1, .long x1), (3, .int x3), (4, .int x4), (5, .int x5)], [.int x3], mk X, p9.2)
          refine Ex.pick (lv' := _) [0, 1, 3, 4] rfl ?_
          exact lk_X10_near_84 d _ _ hk20 ih _ _ _ _ _ h
theorem lk_X10_near_20 {pr : Ct} {sc : Nat × (Nat → Int32)} {X : En} (d : Nat) {r : Int32} {σ2 : St} : ∀ (n : Nat) (x1 : Int64) (x3 : Int32) (x4 : Int32) (σ : St), f_X10_near_20 n x1 x3 x4 σ = some (r, σ2) → Ex mr_X10_near sc (Cl MT pr sc (d + 3)) (rtE (some (.int r)) (mk X) σ2) (20, [(0, .ref 38), (1, .long x1), (3, .int x3), (4, .int x4)], [], mk X, σ) := by
  intro n
  induction n with
  | zero =>
    intro x1 x3 x4 σ h
    cases h
  | succ n ih =>
    intro x1 x3 x4 σ h
    simp only [f_X10_near_20] at h
    refine Ex.blk 5 rfl ?_
    show Ex mr_X10_near sc (Cl MT pr sc (d + 3)) (rtE (some (.int r)) (mk X) σ2) (28, [(0, .ref 38), (1, .long x1), (3, .int x3), (4, .int x4)], [.int (shlI 1 (gI σ 38 33)), .int x4], mk X, σ)
    refine Ex.blk 1000 rfl ?_
    rcases ite_sp h with ⟨c1, h⟩ | ⟨c1, h⟩
    · refine And.intro (fun _ => ?_) (fun hn => absurd c1 hn)
      show Ex mr_X10_near sc (Cl MT pr sc (d + 3)) (rtE (some (.int r)) (mk X) σ2) (143, [(0, .ref 38), (1, .long x1), (3, .int x3), (4, .int x4)], [], mk X, σ)
      refine Ex.blk 1000 rfl ?_
      cases h
      exact And.intro trivial ⟨rfl, rfl, rfl⟩
    · refine And.intro (fun hp => absurd hp c1) (fun _ => ?_)
      show Ex mr_X10_near sc (Cl MT pr sc (d + 3)) (rtE (some (.int r)) (mk X) σ2) (31, [(0, .ref 38), (1, .long x1), (3, .int x3), (4, .int x4)], [], mk X, σ)
      refine Ex.blk 1000 rfl ?_
      show Ex mr_X10_near sc (Cl MT pr sc (d + 3)) (rtE (some (.int r)) (mk X) σ2) (34, [(5, .int 0), (0, .ref 38), (1, .long x1), (3, .int x3), (4, .int x4)], [], mk X, σ)
      refine Ex.pick (lv' := _) [1, 2, 3, 4, 0] rfl ?_
      exact lk_X10_near_34 d _ ih FU _ _ _ _ _ h
theorem cl_X10_near {pr : Ct} {sc : Nat × (Nat → Int32)} {X : En} (d : Nat) {r : Int32} {σ2 : St} {σ : St} (h : f_X10_near σ = some (r, σ2)) : Cl MT pr sc (d + 3 + 1) 211 [.ref 38] (mk X) σ (some (.int r)) (mk X) σ2 := by
  refine cl_of mr_X10_near rfl rfl ?_
  unfold f_X10_near at h
  refine Ex.blk 1000 rfl ?_
  rcases ite_sp h with ⟨c1, h⟩ | ⟨c1, h⟩
  · refine And.intro (fun _ => ?_) (fun hn => absurd c1 hn)
    show Ex mr_X10_near sc (Cl MT pr sc (d + 3)) (rtE (some (.int r)) (mk X) σ2) (10, [(0, .ref 38)], [], mk X, σ)
    refine Ex.blk 2 rfl ?_
    obtain ⟨p1, hp1, h⟩ := bind_sp h
    refine Exists.intro (some (.long p1.1)) (Exists.intro (mk X) (Exists.intro p1.2 (And.intro (cl_X10_seenNumber (d + 0) hp1) ?_)))
    show Ex mr_X10_near sc (Cl MT pr sc (d + 3)) (rtE (some (.int r)) (mk X) σ2) (14, [(0, .ref 38)], [.long p1.1], mk X, p1.2)
    refine Ex.blk 1000 rfl ?_
    show Ex mr_X10_near sc (Cl MT pr sc (d + 3)) (rtE (some (.int r)) (mk X) σ2) (20, [(4, .int 0), (3, .int 0), (1, .long p1.1), (0, .ref 38)], [], mk X, p1.2)
    refine Ex.pick (lv' := _) [3, 2, 1, 0] rfl ?_
    exact lk_X10_near_20 d FU _ _ _ _ h
  · refine And.intro (fun hp => absurd hp c1) (fun _ => ?_)
    show Ex mr_X10_near sc (Cl MT pr sc (d + 3)) (rtE (some (.int r)) (mk X) σ2) (7, [(0, .ref 38)], [], mk X, σ)
    refine Ex.blk 1000 rfl ?_
    cases h
    exact And.intro trivial ⟨rfl, rfl, rfl⟩
theorem lk_X10_addTo_29 {pr : Ct} {sc : Nat × (Nat → Int32)} {X : En} (d : Nat) {σ2 : St} (σ : St) (h : f_X10_addTo_29 σ = some σ2) : Ex mr_X10_addTo sc (Cl MT pr sc (d + 2)) (rtE none (mk X) σ2) (29, [(0, .ref 38)], [], mk X, σ) := by
  unfold f_X10_addTo_29 at h
  refine Ex.blk 5 rfl ?_
  show Ex mr_X10_addTo sc (Cl MT pr sc (d + 2)) (rtE none (mk X) σ2) (36, [(0, .ref 38)], [.int ((gI σ 38 37) + 1), .ref 38], mk X, σ)
  refine Ex.blk 1000 rfl ?_
  cases h
  exact And.intro trivial ⟨rfl, rfl, rfl⟩
theorem cl_X10_addTo {pr : Ct} {sc : Nat × (Nat → Int32)} {X : En} (d : Nat) {σ2 : St} {x1 : Int64} {σ : St} (h : f_X10_addTo x1 σ = some σ2) : Cl MT pr sc (d + 2 + 1) 212 [.ref 38, .long x1] (mk X) σ none (mk X) σ2 := by
  refine cl_of mr_X10_addTo rfl rfl ?_
  unfold f_X10_addTo at h
  refine Ex.blk 5 rfl ?_
  show Ex mr_X10_addTo sc (Cl MT pr sc (d + 2)) (rtE none (mk X) σ2) (9, [(0, .ref 38), (1, .long x1)], [.long (gJ σ 38 35), .int (gI σ 38 36), .ref 38], mk X, σ)
  refine Ex.blk 3 rfl ?_
  obtain ⟨p1, hp1, h⟩ := bind_sp h
  refine Exists.intro (some (.int p1.1)) (Exists.intro (mk X) (Exists.intro p1.2 (And.intro (cl_X10_walksOf (d + 0) hp1) ?_)))
  show Ex mr_X10_addTo sc (Cl MT pr sc (d + 2)) (rtE none (mk X) σ2) (15, [(0, .ref 38), (1, .long x1)], [.int p1.1, .int (gI σ 38 36), .ref 38], mk X, p1.2)
  refine Ex.blk 5 rfl ?_
  show Ex mr_X10_addTo sc (Cl MT pr sc (d + 2)) (rtE none (mk X) σ2) (24, [(0, .ref 38), (1, .long x1)], [.long (gJ (sI p1.2 38 36 ((gI σ 38 36) + p1.1)) 38 35), .ref 38], mk X, (sI p1.2 38 36 ((gI σ 38 36) + p1.1)))
  refine Ex.blk 3 rfl ?_
  show Ex mr_X10_addTo sc (Cl MT pr sc (d + 2)) (rtE none (mk X) σ2) (29, [(0, .ref 38), (1, .long x1)], [], mk X, (sJ (sI p1.2 38 36 ((gI σ 38 36) + p1.1)) 38 35 ((gJ (sI p1.2 38 36 ((gI σ 38 36) + p1.1)) 38 35) + x1)))
  refine Ex.pick (lv' := _) [0] rfl ?_
  exact lk_X10_addTo_29 d _ h
theorem lk_X10_twice_61 {pr : Ct} {sc : Nat × (Nat → Int32)} {X : En} (d : Nat) {σ2 : St} (k8 : Int64 → Int32 → St → Option (St)) (hk8 : ∀ (x1 : Int64) (x3 : Int32) (σ : St), k8 x1 x3 σ = some σ2 → Ex mr_X10_twice sc (Cl MT pr sc (d + 2)) (rtE none (mk X) σ2) (8, [(0, .ref 38), (1, .long x1), (3, .int x3)], [], mk X, σ)) (x1 : Int64) (x3 : Int32) (σ : St) (h : f_X10_twice_61 k8 x1 x3 σ = some σ2) : Ex mr_X10_twice sc (Cl MT pr sc (d + 2)) (rtE none (mk X) σ2) (61, [(0, .ref 38), (1, .long x1), (3, .int x3)], [], mk X, σ) := by
  unfold f_X10_twice_61 at h
  refine Ex.blk 1000 rfl ?_
  show Ex mr_X10_twice sc (Cl MT pr sc (d + 2)) (rtE none (mk X) σ2) (8, [(3, .int (x3 + (-1))), (0, .ref 38), (1, .long x1)], [], mk X, σ)
  refine Ex.pick (lv' := _) [1, 2, 0] rfl ?_
  exact hk8 _ _ _ h
theorem lk_X10_twice_8 {pr : Ct} {sc : Nat × (Nat → Int32)} {X : En} (d : Nat) {σ2 : St} : ∀ (n : Nat) (x1 : Int64) (x3 : Int32) (σ : St), f_X10_twice_8 n x1 x3 σ = some σ2 → Ex mr_X10_twice sc (Cl MT pr sc (d + 2)) (rtE none (mk X) σ2) (8, [(0, .ref 38), (1, .long x1), (3, .int x3)], [], mk X, σ) := by
  intro n
  induction n with
  | zero =>
    intro x1 x3 σ h
    cases h
  | succ n ih =>
    intro x1 x3 σ h
    simp only [f_X10_twice_8] at h
    refine Ex.blk 1000 rfl ?_
    rcases ite_sp h with ⟨c1, h⟩ | ⟨c1, h⟩
    · refine And.intro (fun _ => ?_) (fun hn => absurd c1 hn)
      show Ex mr_X10_twice sc (Cl MT pr sc (d + 2)) (rtE none (mk X) σ2) (67, [(0, .ref 38), (1, .long x1), (3, .int x3)], [], mk X, σ)
      refine Ex.blk 5 rfl ?_
      show Ex mr_X10_twice sc (Cl MT pr sc (d + 2)) (rtE none (mk X) σ2) (74, [(0, .ref 38), (1, .long x1), (3, .int x3)], [.int ((gI σ 38 37) + 1), .ref 38], mk X, σ)
      refine Ex.blk 1000 rfl ?_
      cases h
      exact And.intro trivial ⟨rfl, rfl, rfl⟩
    · refine And.intro (fun hp => absurd hp c1) (fun _ => ?_)
      show Ex mr_X10_twice sc (Cl MT pr sc (d + 2)) (rtE none (mk X) σ2) (12, [(0, .ref 38), (1, .long x1), (3, .int x3)], [], mk X, σ)
      refine Ex.blk 5 rfl ?_
      show Ex mr_X10_twice sc (Cl MT pr sc (d + 2)) (rtE none (mk X) σ2) (21, [(0, .ref 38), (1, .long x1), (3, .int x3)], [.long (gJ σ 38 35), .int (gI σ 38 36), .ref 38], mk X, σ)
      refine Ex.blk 3 rfl ?_
      obtain ⟨p1, hp1, h⟩ := bind_sp h
      refine Exists.intro (some (.int p1.1)) (Exists.intro (mk X) (Exists.intro p1.2 (And.intro (cl_X10_digitOf (d + 1) hp1) ?_)))
      show Ex mr_X10_twice sc (Cl MT pr sc (d + 2)) (rtE none (mk X) σ2) (26, [(0, .ref 38), (1, .long x1), (3, .int x3)], [.int p1.1, .long (gJ σ 38 35), .int (gI σ 38 36), .ref 38], mk X, p1.2)
      refine Ex.blk 3 rfl ?_
      obtain ⟨p2, hp2, h⟩ := bind_sp h
      refine Exists.intro (some (.long p2.1)) (Exists.intro (mk X) (Exists.intro p2.2 (And.intro (cl_X10_ten (d + 1) hp2) ?_)))
      show Ex mr_X10_twice sc (Cl MT pr sc (d + 2)) (rtE none (mk X) σ2) (31, [(0, .ref 38), (1, .long x1), (3, .int x3)], [.long p2.1, .long p1.1.toInt64, .long (gJ σ 38 35), .int (gI σ 38 36), .ref 38], mk X, p2.2)
      refine Ex.blk 3 rfl ?_
      obtain ⟨p3, hp3, h⟩ := bind_sp h
      refine Exists.intro (some (.int p3.1)) (Exists.intro (mk X) (Exists.intro p3.2 (And.intro (cl_X10_walksOf (d + 0) hp3) ?_)))
      show Ex mr_X10_twice sc (Cl MT pr sc (d + 2)) (rtE none (mk X) σ2) (37, [(0, .ref 38), (1, .long x1), (3, .int x3)], [.int p3.1, .int (gI σ 38 36), .ref 38], mk X, p3.2)
      refine Ex.blk 5 rfl ?_
      show Ex mr_X10_twice sc (Cl MT pr sc (d + 2)) (rtE none (mk X) σ2) (46, [(0, .ref 38), (1, .long x1), (3, .int x3)], [.long (gJ (sI p3.2 38 36 ((gI σ 38 36) + p3.1)) 38 35), .ref 38], mk X, (sI p3.2 38 36 ((gI σ 38 36) + p3.1)))
      refine Ex.blk 3 rfl ?_
      obtain ⟨p4, hp4, h⟩ := bind_sp h
      refine Exists.intro (some (.int p4.1)) (Exists.intro (mk X) (Exists.intro p4.2 (And.intro (cl_X10_digitOf (d + 1) hp4) ?_)))
      show Ex mr_X10_twice sc (Cl MT pr sc (d + 2)) (rtE none (mk X) σ2) (51, [(0, .ref 38), (1, .long x1), (3, .int x3)], [.int p4.1, .long (gJ (sI p3.2 38 36 ((gI σ 38 36) + p3.1)) 38 35), .ref 38], mk X, p4.2)
      refine Ex.blk 3 rfl ?_
      obtain ⟨p5, hp5, h⟩ := bind_sp h
      refine Exists.intro (some (.long p5.1)) (Exists.intro (mk X) (Exists.intro p5.2 (And.intro (cl_X10_ten (d + 1) hp5) ?_)))
      show Ex mr_X10_twice sc (Cl MT pr sc (d + 2)) (rtE none (mk X) σ2) (56, [(0, .ref 38), (1, .long x1), (3, .int x3)], [.long p5.1, .long p4.1.toInt64, .long (gJ (sI p3.2 38 36 ((gI σ 38 36) + p3.1)) 38 35), .ref 38], mk X, p5.2)
      refine Ex.blk 3 rfl ?_
      show Ex mr_X10_twice sc (Cl MT pr sc (d + 2)) (rtE none (mk X) σ2) (61, [(0, .ref 38), (1, .long x1), (3, .int x3)], [], mk X, (sJ p5.2 38 35 ((gJ (sI p3.2 38 36 ((gI σ 38 36) + p3.1)) 38 35) + (p4.1.toInt64 * p5.1))))
      exact lk_X10_twice_61 d _ ih _ _ _ h
theorem lk_X10_twice_5 {pr : Ct} {sc : Nat × (Nat → Int32)} {X : En} (d : Nat) {σ2 : St} (x1 : Int64) (σ : St) (h : f_X10_twice_5 x1 σ = some σ2) : Ex mr_X10_twice sc (Cl MT pr sc (d + 2)) (rtE none (mk X) σ2) (5, [(0, .ref 38), (1, .long x1)], [], mk X, σ) := by
  unfold f_X10_twice_5 at h
  refine Ex.blk 1000 rfl ?_
  show Ex mr_X10_twice sc (Cl MT pr sc (d + 2)) (rtE none (mk X) σ2) (8, [(3, .int 8), (0, .ref 38), (1, .long x1)], [], mk X, σ)
  refine Ex.pick (lv' := _) [1, 2, 0] rfl ?_
  exact lk_X10_twice_8 d FU _ _ _ h
theorem cl_X10_twice {pr : Ct} {sc : Nat × (Nat → Int32)} {X : En} (d : Nat) {σ2 : St} {σ : St} (h : f_X10_twice σ = some σ2) : Cl MT pr sc (d + 2 + 1) 213 [.ref 38] (mk X) σ none (mk X) σ2 := by
  refine cl_of mr_X10_twice rfl rfl ?_
  unfold f_X10_twice at h
  refine Ex.blk 3 rfl ?_
  show Ex mr_X10_twice sc (Cl MT pr sc (d + 2)) (rtE none (mk X) σ2) (5, [(1, .long (gJ σ 38 35)), (0, .ref 38)], [], mk X, σ)
  refine Ex.pick (lv' := _) [1, 0] rfl ?_
  exact lk_X10_twice_5 d _ _ h
theorem lk_X10_multiply_96 {pr : Ct} {sc : Nat × (Nat → Int32)} {X : En} (d : Nat) {σ2 : St} (k66 : Int32 → Int32 → Int32 → Int32 → St → Option (St)) (hk66 : ∀ (x1 : Int32) (x2 : Int32) (x3 : Int32) (x4 : Int32) (σ : St), k66 x1 x2 x3 x4 σ = some σ2 → Ex mr_X10_multiply sc (Cl MT pr sc (d + 3)) (rtE none (mk X) σ2) (66, [(0, .ref 38), (1, .int x1), (2, .int x2), (3, .int x3), (4, .int x4)], [], mk X, σ)) : ∀ (n : Nat) (x1 : Int32) (x2 : Int32) (x3 : Int32) (x4 : Int32) (x5 : Int32) (x6 : Int32) (σ : St), f_X10_multiply_96 k66 n x1 x2 x3 x4 x5 x6 σ = some σ2 → Ex mr_X10_multiply sc (Cl MT pr sc (d + 3)) (rtE none (mk X) σ2) (96, [(0, .ref 38), (1, .int x1), (2, .int x2), (3, .int x3), (4, .int x4), (5, .int x5), (6, .int x6)], [], mk X, σ) := by
  intro n
  induction n with
  | zero =>
    intro x1 x2 x3 x4 x5 x6 σ h
    cases h
  | succ n ih =>
    intro x1 x2 x3 x4 x5 x6 σ h
    simp only [f_X10_multiply_96] at h
    refine Ex.blk 1000 rfl ?_
    rcases ite_sp h with ⟨c1, h⟩ | ⟨c1, h⟩
    · refine And.intro (fun _ => ?_) (fun hn => absurd c1 hn)
      show Ex mr_X10_multiply sc (Cl MT pr sc (d + 3)) (rtE none (mk X) σ2) (119, [(0, .ref 38), (1, .int x1), (2, .int x2), (3, .int x3), (4, .int x4), (5, .int x5), (6, .int x6)], [], mk X, σ)
      refine Ex.blk 1000 rfl ?_
      show Ex mr_X10_multiply sc (Cl MT pr sc (d + 3)) (rtE none (mk X) σ2) (66, [(4, .int (x4 + 1)), (0, .ref 38), (1, .int x1), (2, .int x2), (3, .int x3), (5, .int x5), (6, .int x6)], [], mk X, σ)
      refine Ex.pick (lv' := _) [1, 2, 3, 4, 0] rfl ?_
      exact hk66 _ _ _ _ _ h
    · refine And.intro (fun hp => absurd hp c1) (fun _ => ?_)
      show Ex mr_X10_multiply sc (Cl MT pr sc (d + 3)) (rtE none (mk X) σ2) (101, [(0, .ref 38), (1, .int x1), (2, .int x2), (3, .int x3), (4, .int x4), (5, .int x5), (6, .int x6)], [], mk X, σ)
      refine Ex.blk 5 rfl ?_
      obtain ⟨p2, hp2, h⟩ := bind_sp h
      refine Exists.intro (some (.long p2.1)) (Exists.intro (mk X) (Exists.intro p2.2 (And.intro (cl_X10_ten (d + 2) hp2) ?_)))
      show Ex mr_X10_multiply sc (Cl MT pr sc (d + 3)) (rtE none (mk X) σ2) (109, [(0, .ref 38), (1, .int x1), (2, .int x2), (3, .int x3), (4, .int x4), (5, .int x5), (6, .int x6)], [.long p2.1, .long x1.toInt64, .ref 38], mk X, p2.2)
      refine Ex.blk 2 rfl ?_
      obtain ⟨p3, hp3, h⟩ := bind_sp h
      refine Exists.intro none (Exists.intro (mk X) (Exists.intro p3 (And.intro (cl_X10_addTo (d + 0) hp3) ?_)))
      show Ex mr_X10_multiply sc (Cl MT pr sc (d + 3)) (rtE none (mk X) σ2) (113, [(0, .ref 38), (1, .int x1), (2, .int x2), (3, .int x3), (4, .int x4), (5, .int x5), (6, .int x6)], [], mk X, p3)
      refine Ex.blk 1000 rfl ?_
      show Ex mr_X10_multiply sc (Cl MT pr sc (d + 3)) (rtE none (mk X) σ2) (96, [(6, .int (x6 + (-1))), (0, .ref 38), (1, .int x1), (2, .int x2), (3, .int x3), (4, .int x4), (5, .int x5)], [], mk X, p3)
      refine Ex.pick (lv' := _) [1, 2, 3, 4, 5, 6, 0] rfl ?_
      exact ih _ _ _ _ _ _ _ h
theorem lk_X10_multiply_85 {pr : Ct} {sc : Nat × (Nat → Int32)} {X : En} (d : Nat) {σ2 : St} (k66 : Int32 → Int32 → Int32 → Int32 → St → Option (St)) (hk66 : ∀ (x1 : Int32) (x2 : Int32) (x3 : Int32) (x4 : Int32) (σ : St), k66 x1 x2 x3 x4 σ = some σ2 → Ex mr_X10_multiply sc (Cl MT pr sc (d + 3)) (rtE none (mk X) σ2) (66, [(0, .ref 38), (1, .int x1), (2, .int x2), (3, .int x3), (4, .int x4)], [], mk X, σ)) (x1 : Int32) (x2 : Int32) (x3 : Int32) (x4 : Int32) (y0 : Int32) (σ : St) (h : f_X10_multiply_85 k66 x1 x2 x3 x4 y0 σ = some σ2) : Ex mr_X10_multiply sc (Cl MT pr sc (d + 3)) (rtE none (mk X) σ2) (85, [(0, .ref 38), (1, .int x1), (2, .int x2), (3, .int x3), (4, .int x4)], [.int y0], mk X, σ) := by
  unfold f_X10_multiply_85 at h
  refine Ex.blk 5 rfl ?_
  obtain ⟨p1, hp1, h⟩ := bind_sp h
  refine Exists.intro (some (.int p1.1)) (Exists.intro (mk X) (Exists.intro p1.2 (And.intro (cl_X10_digitOf (d + 2) hp1) ?_)))
  show Ex mr_X10_multiply sc (Cl MT pr sc (d + 3)) (rtE none (mk X) σ2) (94, [(5, .int y0), (0, .ref 38), (1, .int x1), (2, .int x2), (3, .int x3), (4, .int x4)], [.int p1.1], mk X, p1.2)
  refine Ex.blk 1000 rfl ?_
  show Ex mr_X10_multiply sc (Cl MT pr sc (d + 3)) (rtE none (mk X) σ2) (96, [(6, .int p1.1), (5, .int y0), (0, .ref 38), (1, .int x1), (2, .int x2), (3, .int x3), (4, .int x4)], [], mk X, p1.2)
  refine Ex.pick (lv' := _) [2, 3, 4, 5, 6, 1, 0] rfl ?_
  exact lk_X10_multiply_96 d _ hk66 FU _ _ _ _ _ _ _ h
theorem lk_X10_multiply_66 {pr : Ct} {sc : Nat × (Nat → Int32)} {X : En} (d : Nat) {σ2 : St} : ∀ (n : Nat) (x1 : Int32) (x2 : Int32) (x3 : Int32) (x4 : Int32) (σ : St), f_X10_multiply_66 n x1 x2 x3 x4 σ = some σ2 → Ex mr_X10_multiply sc (Cl MT pr sc (d + 3)) (rtE none (mk X) σ2) (66, [(0, .ref 38), (1, .int x1), (2, .int x2), (3, .int x3), (4, .int x4)], [], mk X, σ) := by
  intro n
  induction n with
  | zero =>
    intro x1 x2 x3 x4 σ h
    cases h
  | succ n ih =>
    intro x1 x2 x3 x4 σ h
    simp only [f_X10_multiply_66] at h
    refine Ex.blk 1000 rfl ?_
    rcases ite_sp h with ⟨c1, h⟩ | ⟨c1, h⟩
    · refine And.intro (fun _ => ?_) (fun hn => absurd c1 hn)
      show Ex mr_X10_multiply sc (Cl MT pr sc (d + 3)) (rtE none (mk X) σ2) (125, [(0, .ref 38), (1, .int x1), (2, .int x2), (3, .int x3), (4, .int x4)], [], mk X, σ)
      refine Ex.blk 1000 rfl ?_
      cases h
      exact And.intro trivial ⟨rfl, rfl, rfl⟩
    · refine And.intro (fun hp => absurd hp c1) (fun _ => ?_)
      show Ex mr_X10_multiply sc (Cl MT pr sc (d + 3)) (rtE none (mk X) σ2) (72, [(0, .ref 38), (1, .int x1), (2, .int x2), (3, .int x3), (4, .int x4)], [], mk X, σ)
      refine Ex.blk 1000 rfl ?_
      rcases ite_sp h with ⟨c2, h⟩ | ⟨c2, h⟩
      · refine And.intro (fun hp => absurd c2 hp) (fun _ => ?_)
        show Ex mr_X10_multiply sc (Cl MT pr sc (d + 3)) (rtE none (mk X) σ2) (76, [(0, .ref 38), (1, .int x1), (2, .int x2), (3, .int x3), (4, .int x4)], [], mk X, σ)
        refine Ex.blk 1000 rfl ?_
        show Ex mr_X10_multiply sc (Cl MT pr sc (d + 3)) (rtE none (mk X) σ2) (85, [(0, .ref 38), (1, .int x1), (2, .int x2), (3, .int x3), (4, .int x4)], [.int x4], mk X, σ)
        exact lk_X10_multiply_85 d _ ih _ _ _ _ _ _ h
      · refine And.intro (fun _ => ?_) (fun hn => absurd c2 hn)
        show Ex mr_X10_multiply sc (Cl MT pr sc (d + 3)) (rtE none (mk X) σ2) (81, [(0, .ref 38), (1, .int x1), (2, .int x2), (3, .int x3), (4, .int x4)], [], mk X, σ)
        refine Ex.blk 1000 rfl ?_
        show Ex mr_X10_multiply sc (Cl MT pr sc (d + 3)) (rtE none (mk X) σ2) (85, [(0, .ref 38), (1, .int x1), (2, .int x2), (3, .int x3), (4, .int x4)], [.int (3 - x4)], mk X, σ)
        exact lk_X10_multiply_85 d _ ih _ _ _ _ _ _ h
theorem lk_X10_multiply_56 {pr : Ct} {sc : Nat × (Nat → Int32)} {X : En} (d : Nat) {σ2 : St} (k24 : Int32 → Int32 → Int32 → St → Option (St)) (hk24 : ∀ (x1 : Int32) (x2 : Int32) (x4 : Int32) (σ : St), k24 x1 x2 x4 σ = some σ2 → Ex mr_X10_multiply sc (Cl MT pr sc (d + 3)) (rtE none (mk X) σ2) (24, [(0, .ref 38), (1, .int x1), (2, .int x2), (4, .int x4)], [], mk X, σ)) (x1 : Int32) (x2 : Int32) (x4 : Int32) (σ : St) (h : f_X10_multiply_56 k24 x1 x2 x4 σ = some σ2) : Ex mr_X10_multiply sc (Cl MT pr sc (d + 3)) (rtE none (mk X) σ2) (56, [(0, .ref 38), (1, .int x1), (2, .int x2), (4, .int x4)], [], mk X, σ) := by
  unfold f_X10_multiply_56 at h
  refine Ex.blk 1000 rfl ?_
  show Ex mr_X10_multiply sc (Cl MT pr sc (d + 3)) (rtE none (mk X) σ2) (24, [(4, .int (x4 + (-1))), (0, .ref 38), (1, .int x1), (2, .int x2)], [], mk X, σ)
  refine Ex.pick (lv' := _) [1, 2, 3, 0] rfl ?_
  exact hk24 _ _ _ _ h
theorem lk_X10_multiply_24 {pr : Ct} {sc : Nat × (Nat → Int32)} {X : En} (d : Nat) {σ2 : St} : ∀ (n : Nat) (x1 : Int32) (x2 : Int32) (x4 : Int32) (σ : St), f_X10_multiply_24 n x1 x2 x4 σ = some σ2 → Ex mr_X10_multiply sc (Cl MT pr sc (d + 3)) (rtE none (mk X) σ2) (24, [(0, .ref 38), (1, .int x1), (2, .int x2), (4, .int x4)], [], mk X, σ) := by
  intro n
  induction n with
  | zero =>
    intro x1 x2 x4 σ h
    cases h
  | succ n ih =>
    intro x1 x2 x4 σ h
    simp only [f_X10_multiply_24] at h
    refine Ex.blk 1000 rfl ?_
    rcases ite_sp h with ⟨c1, h⟩ | ⟨c1, h⟩
    · refine And.intro (fun _ => ?_) (fun hn => absurd c1 hn)
      show Ex mr_X10_multiply sc (Cl MT pr sc (d + 3)) (rtE none (mk X) σ2) (62, [(0, .ref 38), (1, .int x1), (2, .int x2), (4, .int x4)], [], mk X, σ)
      refine Ex.blk 1000 rfl ?_
      cases h
      exact And.intro trivial ⟨rfl, rfl, rfl⟩
    · refine And.intro (fun hp => absurd hp c1) (fun _ => ?_)
      show Ex mr_X10_multiply sc (Cl MT pr sc (d + 3)) (rtE none (mk X) σ2) (29, [(0, .ref 38), (1, .int x1), (2, .int x2), (4, .int x4)], [], mk X, σ)
      refine Ex.blk 1000 rfl ?_
      rcases ite_sp h with ⟨c2, h⟩ | ⟨c2, h⟩
      · refine And.intro (fun _ => ?_) (fun hn => absurd c2 hn)
        show Ex mr_X10_multiply sc (Cl MT pr sc (d + 3)) (rtE none (mk X) σ2) (56, [(0, .ref 38), (1, .int x1), (2, .int x2), (4, .int x4)], [], mk X, σ)
        exact lk_X10_multiply_56 d _ ih _ _ _ _ h
      · refine And.intro (fun hp => absurd hp c2) (fun _ => ?_)
        show Ex mr_X10_multiply sc (Cl MT pr sc (d + 3)) (rtE none (mk X) σ2) (36, [(0, .ref 38), (1, .int x1), (2, .int x2), (4, .int x4)], [], mk X, σ)
        refine Ex.blk 2 rfl ?_
        obtain ⟨p4, hp4, h⟩ := bind_sp h
        refine Exists.intro none (Exists.intro (mk X) (Exists.intro p4 (And.intro (cl_X10_twice (d + 0) hp4) ?_)))
        show Ex mr_X10_multiply sc (Cl MT pr sc (d + 3)) (rtE none (mk X) σ2) (40, [(0, .ref 38), (1, .int x1), (2, .int x2), (4, .int x4)], [], mk X, p4)
        refine Ex.blk 5 rfl ?_
        show Ex mr_X10_multiply sc (Cl MT pr sc (d + 3)) (rtE none (mk X) σ2) (46, [(0, .ref 38), (1, .int x1), (2, .int x2), (4, .int x4)], [.int ((shrI x2 x4) &&& 1)], mk X, p4)
        refine Ex.blk 1000 rfl ?_
        rcases ite_sp h with ⟨c3, h⟩ | ⟨c3, h⟩
        · refine And.intro (fun hp => absurd c3 hp) (fun _ => ?_)
          show Ex mr_X10_multiply sc (Cl MT pr sc (d + 3)) (rtE none (mk X) σ2) (50, [(0, .ref 38), (1, .int x1), (2, .int x2), (4, .int x4)], [], mk X, p4)
          refine Ex.blk 4 rfl ?_
          obtain ⟨p5, hp5, h⟩ := bind_sp h
          refine Exists.intro none (Exists.intro (mk X) (Exists.intro p5 (And.intro (cl_X10_addTo (d + 0) hp5) ?_)))
          show Ex mr_X10_multiply sc (Cl MT pr sc (d + 3)) (rtE none (mk X) σ2) (56, [(0, .ref 38), (1, .int x1), (2, .int x2), (4, .int x4)], [], mk X, p5)
          exact lk_X10_multiply_56 d _ ih _ _ _ _ h
        · refine And.intro (fun _ => ?_) (fun hn => absurd c3 hn)
          show Ex mr_X10_multiply sc (Cl MT pr sc (d + 3)) (rtE none (mk X) σ2) (56, [(0, .ref 38), (1, .int x1), (2, .int x2), (4, .int x4)], [], mk X, p4)
          exact lk_X10_multiply_56 d _ ih _ _ _ _ h
theorem cl_X10_multiply {pr : Ct} {sc : Nat × (Nat → Int32)} {X : En} (d : Nat) {σ2 : St} {x1 : Int32} {x2 : Int32} {x3 : Int32} {σ : St} (h : f_X10_multiply x1 x2 x3 σ = some σ2) : Cl MT pr sc (d + 3 + 1) 214 [.ref 38, .int x1, .int x2, .int x3] (mk X) σ none (mk X) σ2 := by
  refine cl_of mr_X10_multiply rfl rfl ?_
  unfold f_X10_multiply at h
  refine Ex.blk 5 rfl ?_
  show Ex mr_X10_multiply sc (Cl MT pr sc (d + 3)) (rtE none (mk X) σ2) (7, [(0, .ref 38), (1, .int x1), (2, .int x2), (3, .int x3)], [.int 0, .ref 38], mk X, (sJ σ 38 35 0))
  refine Ex.blk 5 rfl ?_
  show Ex mr_X10_multiply sc (Cl MT pr sc (d + 3)) (rtE none (mk X) σ2) (16, [(0, .ref 38), (1, .int x1), (2, .int x2), (3, .int x3)], [.int x3], mk X, (sI (sI (sJ σ 38 35 0) 38 36 0) 38 37 0))
  refine Ex.blk 1000 rfl ?_
  rcases ite_sp h with ⟨c1, h⟩ | ⟨c1, h⟩
  · refine And.intro (fun hp => absurd c1 hp) (fun _ => ?_)
    show Ex mr_X10_multiply sc (Cl MT pr sc (d + 3)) (rtE none (mk X) σ2) (20, [(0, .ref 38), (1, .int x1), (2, .int x2), (3, .int x3)], [], mk X, (sI (sI (sJ σ 38 35 0) 38 36 0) 38 37 0))
    refine Ex.blk 1000 rfl ?_
    show Ex mr_X10_multiply sc (Cl MT pr sc (d + 3)) (rtE none (mk X) σ2) (24, [(4, .int 13), (0, .ref 38), (1, .int x1), (2, .int x2), (3, .int x3)], [], mk X, (sI (sI (sJ σ 38 35 0) 38 36 0) 38 37 0))
    refine Ex.pick (lv' := _) [1, 2, 3, 0] rfl ?_
    exact lk_X10_multiply_24 d FU _ _ _ _ h
  · refine And.intro (fun _ => ?_) (fun hn => absurd c1 hn)
    show Ex mr_X10_multiply sc (Cl MT pr sc (d + 3)) (rtE none (mk X) σ2) (63, [(0, .ref 38), (1, .int x1), (2, .int x2), (3, .int x3)], [], mk X, (sI (sI (sJ σ 38 35 0) 38 36 0) 38 37 0))
    refine Ex.blk 1000 rfl ?_
    show Ex mr_X10_multiply sc (Cl MT pr sc (d + 3)) (rtE none (mk X) σ2) (66, [(4, .int 0), (0, .ref 38), (1, .int x1), (2, .int x2), (3, .int x3)], [], mk X, (sI (sI (sJ σ 38 35 0) 38 36 0) 38 37 0))
    refine Ex.pick (lv' := _) [1, 2, 3, 4, 0] rfl ?_
    exact lk_X10_multiply_66 d FU _ _ _ _ _ h
theorem lk_X10_product_49 {pr : Ct} {sc : Nat × (Nat → Int32)} {X : En} (d : Nat) {r : Int64} {σ2 : St} (σ : St) (h : f_X10_product_49 σ = some (r, σ2)) : Ex mr_X10_product sc (Cl MT pr sc (d + 4)) (rtE (some (.long r)) (mk X) σ2) (49, [], [], mk X, σ) := by
  unfold f_X10_product_49 at h
  refine Ex.blk 1000 rfl ?_
  cases h
  exact And.intro trivial ⟨rfl, rfl, rfl⟩
theorem lk_X10_product_91 {pr : Ct} {sc : Nat × (Nat → Int32)} {X : En} (d : Nat) {r : Int64} {σ2 : St} (y0 : Int64) (σ : St) (h : f_X10_product_91 y0 σ = some (r, σ2)) : Ex mr_X10_product sc (Cl MT pr sc (d + 4)) (rtE (some (.long r)) (mk X) σ2) (91, [], [.long y0], mk X, σ) := by
  unfold f_X10_product_91 at h
  refine Ex.blk 1000 rfl ?_
  cases h
  exact And.intro trivial ⟨rfl, rfl, rfl⟩
theorem cl_X10_product {pr : Ct} {sc : Nat × (Nat → Int32)} {X : En} (d : Nat) {r : Int64} {σ2 : St} {x1 : Int32} {x2 : Int32} {x3 : Int32} {x4 : Int32} {σ : St} (h : f_X10_product x1 x2 x3 x4 σ = some (r, σ2)) : Cl MT pr sc (d + 4 + 1) 215 [.ref 38, .int x1, .int x2, .int x3, .int x4] (mk X) σ (some (.long r)) (mk X) σ2 := by
  refine cl_of mr_X10_product rfl rfl ?_
  unfold f_X10_product at h
  refine Ex.blk 5 rfl ?_
  obtain ⟨p1, hp1, h⟩ := bind_sp h
  refine Exists.intro (some (.int p1.1)) (Exists.intro (mk X) (Exists.intro p1.2 (And.intro (cl_X10_in (d + 3) hp1) ?_)))
  show Ex mr_X10_product sc (Cl MT pr sc (d + 4)) (rtE (some (.long r)) (mk X) σ2) (9, [(0, .ref 38), (1, .int x1), (2, .int x2), (3, .int x3), (4, .int x4)], [.int p1.1], mk X, p1.2)
  refine Ex.blk 1000 rfl ?_
  rcases ite_sp h with ⟨c1, h⟩ | ⟨c1, h⟩
  · refine And.intro (fun _ => ?_) (fun hn => absurd c1 hn)
    show Ex mr_X10_product sc (Cl MT pr sc (d + 4)) (rtE (some (.long r)) (mk X) σ2) (49, [(0, .ref 38), (1, .int x1), (2, .int x2), (3, .int x3), (4, .int x4)], [], mk X, p1.2)
    refine Ex.pick (lv' := _) [] rfl ?_
    exact lk_X10_product_49 d _ h
  · refine And.intro (fun hp => absurd hp c1) (fun _ => ?_)
    show Ex mr_X10_product sc (Cl MT pr sc (d + 4)) (rtE (some (.long r)) (mk X) σ2) (12, [(0, .ref 38), (1, .int x1), (2, .int x2), (3, .int x3), (4, .int x4)], [], mk X, p1.2)
    refine Ex.blk 5 rfl ?_
    obtain ⟨p2, hp2, h⟩ := bind_sp h
    refine Exists.intro (some (.int p2.1)) (Exists.intro (mk X) (Exists.intro p2.2 (And.intro (cl_X10_in (d + 3) hp2) ?_)))
    show Ex mr_X10_product sc (Cl MT pr sc (d + 4)) (rtE (some (.long r)) (mk X) σ2) (21, [(0, .ref 38), (1, .int x1), (2, .int x2), (3, .int x3), (4, .int x4)], [.int p2.1], mk X, p2.2)
    refine Ex.blk 1000 rfl ?_
    rcases ite_sp h with ⟨c2, h⟩ | ⟨c2, h⟩
    · refine And.intro (fun _ => ?_) (fun hn => absurd c2 hn)
      show Ex mr_X10_product sc (Cl MT pr sc (d + 4)) (rtE (some (.long r)) (mk X) σ2) (49, [(0, .ref 38), (1, .int x1), (2, .int x2), (3, .int x3), (4, .int x4)], [], mk X, p2.2)
      refine Ex.pick (lv' := _) [] rfl ?_
      exact lk_X10_product_49 d _ h
    · refine And.intro (fun hp => absurd hp c2) (fun _ => ?_)
      show Ex mr_X10_product sc (Cl MT pr sc (d + 4)) (rtE (some (.long r)) (mk X) σ2) (24, [(0, .ref 38), (1, .int x1), (2, .int x2), (3, .int x3), (4, .int x4)], [], mk X, p2.2)
      refine Ex.blk 5 rfl ?_
      obtain ⟨p3, hp3, h⟩ := bind_sp h
      refine Exists.intro (some (.int p3.1)) (Exists.intro (mk X) (Exists.intro p3.2 (And.intro (cl_X10_in (d + 3) hp3) ?_)))
      show Ex mr_X10_product sc (Cl MT pr sc (d + 4)) (rtE (some (.long r)) (mk X) σ2) (33, [(0, .ref 38), (1, .int x1), (2, .int x2), (3, .int x3), (4, .int x4)], [.int p3.1], mk X, p3.2)
      refine Ex.blk 1000 rfl ?_
      rcases ite_sp h with ⟨c3, h⟩ | ⟨c3, h⟩
      · refine And.intro (fun _ => ?_) (fun hn => absurd c3 hn)
        show Ex mr_X10_product sc (Cl MT pr sc (d + 4)) (rtE (some (.long r)) (mk X) σ2) (49, [(0, .ref 38), (1, .int x1), (2, .int x2), (3, .int x3), (4, .int x4)], [], mk X, p3.2)
        refine Ex.pick (lv' := _) [] rfl ?_
        exact lk_X10_product_49 d _ h
      · refine And.intro (fun hp => absurd hp c3) (fun _ => ?_)
        show Ex mr_X10_product sc (Cl MT pr sc (d + 4)) (rtE (some (.long r)) (mk X) σ2) (36, [(0, .ref 38), (1, .int x1), (2, .int x2), (3, .int x3), (4, .int x4)], [], mk X, p3.2)
        refine Ex.blk 5 rfl ?_
        obtain ⟨p4, hp4, h⟩ := bind_sp h
        refine Exists.intro (some (.int p4.1)) (Exists.intro (mk X) (Exists.intro p4.2 (And.intro (cl_X10_in (d + 3) hp4) ?_)))
        show Ex mr_X10_product sc (Cl MT pr sc (d + 4)) (rtE (some (.long r)) (mk X) σ2) (46, [(0, .ref 38), (1, .int x1), (2, .int x2), (3, .int x3), (4, .int x4)], [.int p4.1], mk X, p4.2)
        refine Ex.blk 1000 rfl ?_
        rcases ite_sp h with ⟨c4, h⟩ | ⟨c4, h⟩
        · refine And.intro (fun hp => absurd c4 hp) (fun _ => ?_)
          show Ex mr_X10_product sc (Cl MT pr sc (d + 4)) (rtE (some (.long r)) (mk X) σ2) (49, [(0, .ref 38), (1, .int x1), (2, .int x2), (3, .int x3), (4, .int x4)], [], mk X, p4.2)
          refine Ex.pick (lv' := _) [] rfl ?_
          exact lk_X10_product_49 d _ h
        · refine And.intro (fun _ => ?_) (fun hn => absurd c4 hn)
          show Ex mr_X10_product sc (Cl MT pr sc (d + 4)) (rtE (some (.long r)) (mk X) σ2) (53, [(0, .ref 38), (1, .int x1), (2, .int x2), (3, .int x3), (4, .int x4)], [], mk X, p4.2)
          refine Ex.blk 5 rfl ?_
          obtain ⟨p5, hp5, h⟩ := bind_sp h
          refine Exists.intro none (Exists.intro (mk X) (Exists.intro p5 (And.intro (cl_X10_multiply (d + 0) hp5) ?_)))
          show Ex mr_X10_product sc (Cl MT pr sc (d + 4)) (rtE (some (.long r)) (mk X) σ2) (60, [(0, .ref 38), (1, .int x1), (2, .int x2), (3, .int x3), (4, .int x4)], [], mk X, p5)
          refine Ex.blk 1000 rfl ?_
          rcases ite_sp h with ⟨c5, h⟩ | ⟨c5, h⟩
          · refine And.intro (fun hp => absurd c5 hp) (fun _ => ?_)
            show Ex mr_X10_product sc (Cl MT pr sc (d + 4)) (rtE (some (.long r)) (mk X) σ2) (65, [(0, .ref 38), (1, .int x1), (2, .int x2), (3, .int x3), (4, .int x4)], [], mk X, p5)
            refine Ex.blk 1000 rfl ?_
            show Ex mr_X10_product sc (Cl MT pr sc (d + 4)) (rtE (some (.long r)) (mk X) σ2) (91, [(0, .ref 38), (1, .int x1), (2, .int x2), (3, .int x3), (4, .int x4)], [.long (gI p5 38 36).toInt64], mk X, p5)
            refine Ex.pick (lv' := _) [] rfl ?_
            exact lk_X10_product_91 d _ _ h
          · refine And.intro (fun _ => ?_) (fun hn => absurd c5 hn)
            show Ex mr_X10_product sc (Cl MT pr sc (d + 4)) (rtE (some (.long r)) (mk X) σ2) (73, [(0, .ref 38), (1, .int x1), (2, .int x2), (3, .int x3), (4, .int x4)], [], mk X, p5)
            refine Ex.blk 1000 rfl ?_
            rcases ite_sp h with ⟨c6, h⟩ | ⟨c6, h⟩
            · refine And.intro (fun hp => absurd c6 hp) (fun _ => ?_)
              show Ex mr_X10_product sc (Cl MT pr sc (d + 4)) (rtE (some (.long r)) (mk X) σ2) (79, [(0, .ref 38), (1, .int x1), (2, .int x2), (3, .int x3), (4, .int x4)], [], mk X, p5)
              refine Ex.blk 1000 rfl ?_
              show Ex mr_X10_product sc (Cl MT pr sc (d + 4)) (rtE (some (.long r)) (mk X) σ2) (91, [(0, .ref 38), (1, .int x1), (2, .int x2), (3, .int x3), (4, .int x4)], [.long (gI p5 38 37).toInt64], mk X, p5)
              refine Ex.pick (lv' := _) [] rfl ?_
              exact lk_X10_product_91 d _ _ h
            · refine And.intro (fun _ => ?_) (fun hn => absurd c6 hn)
              show Ex mr_X10_product sc (Cl MT pr sc (d + 4)) (rtE (some (.long r)) (mk X) σ2) (87, [(0, .ref 38), (1, .int x1), (2, .int x2), (3, .int x3), (4, .int x4)], [], mk X, p5)
              refine Ex.blk 1000 rfl ?_
              show Ex mr_X10_product sc (Cl MT pr sc (d + 4)) (rtE (some (.long r)) (mk X) σ2) (91, [(0, .ref 38), (1, .int x1), (2, .int x2), (3, .int x3), (4, .int x4)], [.long (gJ p5 38 35)], mk X, p5)
              refine Ex.pick (lv' := _) [] rfl ?_
              exact lk_X10_product_91 d _ _ h
theorem lk_X10_rival_24 {pr : Ct} {sc : Nat × (Nat → Int32)} {X : En} (d : Nat) {r : Int32} {σ2 : St} (σ : St) (h : f_X10_rival_24 σ = some (r, σ2)) : Ex mr_X10_rival sc (Cl MT pr sc (d + 4)) (rtE (some (.int r)) (mk X) σ2) (24, [], [], mk X, σ) := by
  unfold f_X10_rival_24 at h
  refine Ex.blk 1000 rfl ?_
  cases h
  exact And.intro trivial ⟨rfl, rfl, rfl⟩
theorem lk_X10_rival_71 {pr : Ct} {sc : Nat × (Nat → Int32)} {X : En} (d : Nat) {r : Int32} {σ2 : St} (k34 : Int32 → Int32 → Int32 → Int32 → Int32 → St → Option (Int32 × St)) (hk34 : ∀ (x1 : Int32) (x2 : Int32) (x3 : Int32) (x4 : Int32) (x5 : Int32) (σ : St), k34 x1 x2 x3 x4 x5 σ = some (r, σ2) → Ex mr_X10_rival sc (Cl MT pr sc (d + 4)) (rtE (some (.int r)) (mk X) σ2) (34, [(0, .ref 38), (1, .int x1), (2, .int x2), (3, .int x3), (4, .int x4), (5, .int x5)], [], mk X, σ)) (x1 : Int32) (x2 : Int32) (x3 : Int32) (x4 : Int32) (x5 : Int32) (σ : St) (h : f_X10_rival_71 k34 x1 x2 x3 x4 x5 σ = some (r, σ2)) : Ex mr_X10_rival sc (Cl MT pr sc (d + 4)) (rtE (some (.int r)) (mk X) σ2) (71, [(0, .ref 38), (1, .int x1), (2, .int x2), (3, .int x3), (4, .int x4), (5, .int x5)], [], mk X, σ) := by
  unfold f_X10_rival_71 at h
  refine Ex.blk 1000 rfl ?_
  show Ex mr_X10_rival sc (Cl MT pr sc (d + 4)) (rtE (some (.int r)) (mk X) σ2) (34, [(5, .int (x5 + 1)), (0, .ref 38), (1, .int x1), (2, .int x2), (3, .int x3), (4, .int x4)], [], mk X, σ)
  refine Ex.pick (lv' := _) [1, 2, 3, 4, 5, 0] rfl ?_
  exact hk34 _ _ _ _ _ _ h
theorem lk_X10_rival_62 {pr : Ct} {sc : Nat × (Nat → Int32)} {X : En} (d : Nat) {r : Int32} {σ2 : St} (k34 : Int32 → Int32 → Int32 → Int32 → Int32 → St → Option (Int32 × St)) (hk34 : ∀ (x1 : Int32) (x2 : Int32) (x3 : Int32) (x4 : Int32) (x5 : Int32) (σ : St), k34 x1 x2 x3 x4 x5 σ = some (r, σ2) → Ex mr_X10_rival sc (Cl MT pr sc (d + 4)) (rtE (some (.int r)) (mk X) σ2) (34, [(0, .ref 38), (1, .int x1), (2, .int x2), (3, .int x3), (4, .int x4), (5, .int x5)], [], mk X, σ)) (x1 : Int32) (x2 : Int32) (x5 : Int32) (σ : St) (h : f_X10_rival_62 k34 x1 x2 x5 σ = some (r, σ2)) : Ex mr_X10_rival sc (Cl MT pr sc (d + 4)) (rtE (some (.int r)) (mk X) σ2) (62, [(0, .ref 38), (1, .int x1), (2, .int x2), (5, .int x5)], [], mk X, σ) := by
  unfold f_X10_rival_62 at h
  refine Ex.blk 1000 rfl ?_
  show Ex mr_X10_rival sc (Cl MT pr sc (d + 4)) (rtE (some (.int r)) (mk X) σ2) (71, [(4, .int (gI σ 38 36)), (3, .int x5), (0, .ref 38), (1, .int x1), (2, .int x2), (5, .int x5)], [], mk X, σ)
  refine Ex.pick (lv' := _) [2, 3, 4, 1, 0, 5] rfl ?_
  exact lk_X10_rival_71 d _ hk34 _ _ _ _ _ _ h
theorem lk_X10_rival_34 {pr : Ct} {sc : Nat × (Nat → Int32)} {X : En} (d : Nat) {r : Int32} {σ2 : St} : ∀ (n : Nat) (x1 : Int32) (x2 : Int32) (x3 : Int32) (x4 : Int32) (x5 : Int32) (σ : St), f_X10_rival_34 n x1 x2 x3 x4 x5 σ = some (r, σ2) → Ex mr_X10_rival sc (Cl MT pr sc (d + 4)) (rtE (some (.int r)) (mk X) σ2) (34, [(0, .ref 38), (1, .int x1), (2, .int x2), (3, .int x3), (4, .int x4), (5, .int x5)], [], mk X, σ) := by
  intro n
  induction n with
  | zero =>
    intro x1 x2 x3 x4 x5 σ h
    cases h
  | succ n ih =>
    intro x1 x2 x3 x4 x5 σ h
    simp only [f_X10_rival_34] at h
    refine Ex.blk 1000 rfl ?_
    rcases ite_sp h with ⟨c1, h⟩ | ⟨c1, h⟩
    · refine And.intro (fun _ => ?_) (fun hn => absurd c1 hn)
      show Ex mr_X10_rival sc (Cl MT pr sc (d + 4)) (rtE (some (.int r)) (mk X) σ2) (77, [(0, .ref 38), (1, .int x1), (2, .int x2), (3, .int x3), (4, .int x4), (5, .int x5)], [], mk X, σ)
      refine Ex.blk 1000 rfl ?_
      cases h
      exact And.intro trivial ⟨rfl, rfl, rfl⟩
    · refine And.intro (fun hp => absurd hp c1) (fun _ => ?_)
      show Ex mr_X10_rival sc (Cl MT pr sc (d + 4)) (rtE (some (.int r)) (mk X) σ2) (40, [(0, .ref 38), (1, .int x1), (2, .int x2), (3, .int x3), (4, .int x4), (5, .int x5)], [], mk X, σ)
      refine Ex.blk 5 rfl ?_
      obtain ⟨p3, hp3, h⟩ := bind_sp h
      refine Exists.intro none (Exists.intro (mk X) (Exists.intro p3 (And.intro (cl_X10_multiply (d + 0) hp3) ?_)))
      show Ex mr_X10_rival sc (Cl MT pr sc (d + 4)) (rtE (some (.int r)) (mk X) σ2) (48, [(0, .ref 38), (1, .int x1), (2, .int x2), (3, .int x3), (4, .int x4), (5, .int x5)], [], mk X, p3)
      refine Ex.blk 1000 rfl ?_
      rcases ite_sp h with ⟨c2, h⟩ | ⟨c2, h⟩
      · refine And.intro (fun _ => ?_) (fun hn => absurd c2 hn)
        show Ex mr_X10_rival sc (Cl MT pr sc (d + 4)) (rtE (some (.int r)) (mk X) σ2) (62, [(0, .ref 38), (1, .int x1), (2, .int x2), (3, .int x3), (4, .int x4), (5, .int x5)], [], mk X, p3)
        refine Ex.pick (lv' := _) [0, 1, 2, 5] rfl ?_
        exact lk_X10_rival_62 d _ ih _ _ _ _ h
      · refine And.intro (fun hp => absurd hp c2) (fun _ => ?_)
        show Ex mr_X10_rival sc (Cl MT pr sc (d + 4)) (rtE (some (.int r)) (mk X) σ2) (53, [(0, .ref 38), (1, .int x1), (2, .int x2), (3, .int x3), (4, .int x4), (5, .int x5)], [], mk X, p3)
        refine Ex.blk 1000 rfl ?_
        rcases ite_sp h with ⟨c3, h⟩ | ⟨c3, h⟩
        · refine And.intro (fun _ => ?_) (fun hn => absurd c3 hn)
          show Ex mr_X10_rival sc (Cl MT pr sc (d + 4)) (rtE (some (.int r)) (mk X) σ2) (71, [(0, .ref 38), (1, .int x1), (2, .int x2), (3, .int x3), (4, .int x4), (5, .int x5)], [], mk X, p3)
          exact lk_X10_rival_71 d _ ih _ _ _ _ _ _ h
        · refine And.intro (fun hp => absurd hp c3) (fun _ => ?_)
          show Ex mr_X10_rival sc (Cl MT pr sc (d + 4)) (rtE (some (.int r)) (mk X) σ2) (62, [(0, .ref 38), (1, .int x1), (2, .int x2), (3, .int x3), (4, .int x4), (5, .int x5)], [], mk X, p3)
          refine Ex.pick (lv' := _) [0, 1, 2, 5] rfl ?_
          exact lk_X10_rival_62 d _ ih _ _ _ _ h
theorem cl_X10_rival {pr : Ct} {sc : Nat × (Nat → Int32)} {X : En} (d : Nat) {r : Int32} {σ2 : St} {x1 : Int32} {x2 : Int32} {σ : St} (h : f_X10_rival x1 x2 σ = some (r, σ2)) : Cl MT pr sc (d + 4 + 1) 216 [.ref 38, .int x1, .int x2] (mk X) σ (some (.int r)) (mk X) σ2 := by
  refine cl_of mr_X10_rival rfl rfl ?_
  unfold f_X10_rival at h
  refine Ex.blk 5 rfl ?_
  obtain ⟨p1, hp1, h⟩ := bind_sp h
  refine Exists.intro (some (.int p1.1)) (Exists.intro (mk X) (Exists.intro p1.2 (And.intro (cl_X10_in (d + 3) hp1) ?_)))
  show Ex mr_X10_rival sc (Cl MT pr sc (d + 4)) (rtE (some (.int r)) (mk X) σ2) (9, [(0, .ref 38), (1, .int x1), (2, .int x2)], [.int p1.1], mk X, p1.2)
  refine Ex.blk 1000 rfl ?_
  rcases ite_sp h with ⟨c1, h⟩ | ⟨c1, h⟩
  · refine And.intro (fun _ => ?_) (fun hn => absurd c1 hn)
    show Ex mr_X10_rival sc (Cl MT pr sc (d + 4)) (rtE (some (.int r)) (mk X) σ2) (24, [(0, .ref 38), (1, .int x1), (2, .int x2)], [], mk X, p1.2)
    refine Ex.pick (lv' := _) [] rfl ?_
    exact lk_X10_rival_24 d _ h
  · refine And.intro (fun hp => absurd hp c1) (fun _ => ?_)
    show Ex mr_X10_rival sc (Cl MT pr sc (d + 4)) (rtE (some (.int r)) (mk X) σ2) (12, [(0, .ref 38), (1, .int x1), (2, .int x2)], [], mk X, p1.2)
    refine Ex.blk 5 rfl ?_
    obtain ⟨p2, hp2, h⟩ := bind_sp h
    refine Exists.intro (some (.int p2.1)) (Exists.intro (mk X) (Exists.intro p2.2 (And.intro (cl_X10_in (d + 3) hp2) ?_)))
    show Ex mr_X10_rival sc (Cl MT pr sc (d + 4)) (rtE (some (.int r)) (mk X) σ2) (21, [(0, .ref 38), (1, .int x1), (2, .int x2)], [.int p2.1], mk X, p2.2)
    refine Ex.blk 1000 rfl ?_
    rcases ite_sp h with ⟨c2, h⟩ | ⟨c2, h⟩
    · refine And.intro (fun hp => absurd c2 hp) (fun _ => ?_)
      show Ex mr_X10_rival sc (Cl MT pr sc (d + 4)) (rtE (some (.int r)) (mk X) σ2) (24, [(0, .ref 38), (1, .int x1), (2, .int x2)], [], mk X, p2.2)
      refine Ex.pick (lv' := _) [] rfl ?_
      exact lk_X10_rival_24 d _ h
    · refine And.intro (fun _ => ?_) (fun hn => absurd c2 hn)
      show Ex mr_X10_rival sc (Cl MT pr sc (d + 4)) (rtE (some (.int r)) (mk X) σ2) (26, [(0, .ref 38), (1, .int x1), (2, .int x2)], [], mk X, p2.2)
      refine Ex.blk 5 rfl ?_
      show Ex mr_X10_rival sc (Cl MT pr sc (d + 4)) (rtE (some (.int r)) (mk X) σ2) (32, [(4, .int 0), (3, .int (-1)), (0, .ref 38), (1, .int x1), (2, .int x2)], [.int 0], mk X, p2.2)
      refine Ex.blk 1000 rfl ?_
      show Ex mr_X10_rival sc (Cl MT pr sc (d + 4)) (rtE (some (.int r)) (mk X) σ2) (34, [(5, .int 0), (4, .int 0), (3, .int (-1)), (0, .ref 38), (1, .int x1), (2, .int x2)], [], mk X, p2.2)
      refine Ex.pick (lv' := _) [3, 4, 5, 2, 1, 0] rfl ?_
      exact lk_X10_rival_34 d FU _ _ _ _ _ _ h
theorem lk_X10_makes_68 {pr : Ct} {sc : Nat × (Nat → Int32)} {X : En} (d : Nat) {r : Int32} {σ2 : St} (y0 : Int32) (σ : St) (h : f_X10_makes_68 y0 σ = some (r, σ2)) : Ex mr_X10_makes sc (Cl MT pr sc (d + 0)) (rtE (some (.int r)) (mk X) σ2) (68, [], [.int y0], mk X, σ) := by
  unfold f_X10_makes_68 at h
  refine Ex.blk 1000 rfl ?_
  obtain ⟨g1, h⟩ := gd_some h
  cases h
  exact And.intro (isbb_ok g1) ⟨rfl, rfl, rfl⟩
theorem lk_X10_makes_34 {pr : Ct} {sc : Nat × (Nat → Int32)} {X : En} (d : Nat) {r : Int32} {σ2 : St} (k4 : Int32 → Int32 → Int32 → St → Option (Int32 × St)) (k13 : Int32 → Int32 → Int32 → Int32 → St → Option (Int32 × St)) (hk4 : ∀ (x1 : Int32) (x2 : Int32) (x3 : Int32) (σ : St), k4 x1 x2 x3 σ = some (r, σ2) → Ex mr_X10_makes sc (Cl MT pr sc (d + 0)) (rtE (some (.int r)) (mk X) σ2) (4, [(0, .ref 38), (1, .int x1), (2, .int x2), (3, .int x3)], [], mk X, σ)) (hk13 : ∀ (x1 : Int32) (x2 : Int32) (x3 : Int32) (x4 : Int32) (σ : St), k13 x1 x2 x3 x4 σ = some (r, σ2) → Ex mr_X10_makes sc (Cl MT pr sc (d + 0)) (rtE (some (.int r)) (mk X) σ2) (13, [(0, .ref 38), (1, .int x1), (2, .int x2), (3, .int x3), (4, .int x4)], [], mk X, σ)) (x1 : Int32) (x2 : Int32) (x3 : Int32) (x4 : Int32) (σ : St) (h : f_X10_makes_34 k4 k13 x1 x2 x3 x4 σ = some (r, σ2)) : Ex mr_X10_makes sc (Cl MT pr sc (d + 0)) (rtE (some (.int r)) (mk X) σ2) (34, [(0, .ref 38), (1, .int x1), (2, .int x2), (3, .int x3), (4, .int x4)], [], mk X, σ) := by
  unfold f_X10_makes_34 at h
  refine Ex.blk 1000 rfl ?_
  show Ex mr_X10_makes sc (Cl MT pr sc (d + 0)) (rtE (some (.int r)) (mk X) σ2) (13, [(4, .int (x4 + 1)), (0, .ref 38), (1, .int x1), (2, .int x2), (3, .int x3)], [], mk X, σ)
  refine Ex.pick (lv' := _) [1, 2, 3, 4, 0] rfl ?_
  exact hk13 _ _ _ _ _ h
theorem lk_X10_makes_13 {pr : Ct} {sc : Nat × (Nat → Int32)} {X : En} (d : Nat) {r : Int32} {σ2 : St} (k4 : Int32 → Int32 → Int32 → St → Option (Int32 × St)) (hk4 : ∀ (x1 : Int32) (x2 : Int32) (x3 : Int32) (σ : St), k4 x1 x2 x3 σ = some (r, σ2) → Ex mr_X10_makes sc (Cl MT pr sc (d + 0)) (rtE (some (.int r)) (mk X) σ2) (4, [(0, .ref 38), (1, .int x1), (2, .int x2), (3, .int x3)], [], mk X, σ)) : ∀ (n : Nat) (x1 : Int32) (x2 : Int32) (x3 : Int32) (x4 : Int32) (σ : St), f_X10_makes_13 k4 n x1 x2 x3 x4 σ = some (r, σ2) → Ex mr_X10_makes sc (Cl MT pr sc (d + 0)) (rtE (some (.int r)) (mk X) σ2) (13, [(0, .ref 38), (1, .int x1), (2, .int x2), (3, .int x3), (4, .int x4)], [], mk X, σ) := by
  intro n
  induction n with
  | zero =>
    intro x1 x2 x3 x4 σ h
    cases h
  | succ n ih =>
    intro x1 x2 x3 x4 σ h
    simp only [f_X10_makes_13] at h
    refine Ex.blk 5 rfl ?_
    obtain ⟨g1, h⟩ := gd_some h
    refine And.intro (inb_ok g1) ?_
    show Ex mr_X10_makes sc (Cl MT pr sc (d + 0)) (rtE (some (.int r)) (mk X) σ2) (21, [(0, .ref 38), (1, .int x1), (2, .int x2), (3, .int x3), (4, .int x4)], [.int (gI σ 56 x3.toNatClampNeg), .int x4], mk X, σ)
    refine Ex.blk 1000 rfl ?_
    rcases ite_sp h with ⟨c2, h⟩ | ⟨c2, h⟩
    · refine And.intro (fun _ => ?_) (fun hn => absurd c2 hn)
      show Ex mr_X10_makes sc (Cl MT pr sc (d + 0)) (rtE (some (.int r)) (mk X) σ2) (40, [(0, .ref 38), (1, .int x1), (2, .int x2), (3, .int x3), (4, .int x4)], [], mk X, σ)
      refine Ex.blk 1000 rfl ?_
      show Ex mr_X10_makes sc (Cl MT pr sc (d + 0)) (rtE (some (.int r)) (mk X) σ2) (4, [(3, .int (x3 + 1)), (0, .ref 38), (1, .int x1), (2, .int x2), (4, .int x4)], [], mk X, σ)
      refine Ex.pick (lv' := _) [1, 2, 3, 0] rfl ?_
      exact hk4 _ _ _ _ h
    · refine And.intro (fun hp => absurd hp c2) (fun _ => ?_)
      show Ex mr_X10_makes sc (Cl MT pr sc (d + 0)) (rtE (some (.int r)) (mk X) σ2) (24, [(0, .ref 38), (1, .int x1), (2, .int x2), (3, .int x3), (4, .int x4)], [], mk X, σ)
      refine Ex.blk 5 rfl ?_
      show Ex mr_X10_makes sc (Cl MT pr sc (d + 0)) (rtE (some (.int r)) (mk X) σ2) (31, [(0, .ref 38), (1, .int x1), (2, .int x2), (3, .int x3), (4, .int x4)], [.int 1023, .int (shlI x2 x3), .int x2], mk X, σ)
      refine Ex.blk 3 rfl ?_
      show Ex mr_X10_makes sc (Cl MT pr sc (d + 0)) (rtE (some (.int r)) (mk X) σ2) (34, [(2, .int (x2 ||| ((shlI x2 x3) &&& 1023))), (0, .ref 38), (1, .int x1), (3, .int x3), (4, .int x4)], [], mk X, σ)
      refine Ex.pick (lv' := _) [1, 2, 0, 3, 4] rfl ?_
      exact lk_X10_makes_34 d _ _ hk4 ih _ _ _ _ _ h
theorem lk_X10_makes_4 {pr : Ct} {sc : Nat × (Nat → Int32)} {X : En} (d : Nat) {r : Int32} {σ2 : St} : ∀ (n : Nat) (x1 : Int32) (x2 : Int32) (x3 : Int32) (σ : St), f_X10_makes_4 n x1 x2 x3 σ = some (r, σ2) → Ex mr_X10_makes sc (Cl MT pr sc (d + 0)) (rtE (some (.int r)) (mk X) σ2) (4, [(0, .ref 38), (1, .int x1), (2, .int x2), (3, .int x3)], [], mk X, σ) := by
  intro n
  induction n with
  | zero =>
    intro x1 x2 x3 σ h
    cases h
  | succ n ih =>
    intro x1 x2 x3 σ h
    simp only [f_X10_makes_4] at h
    refine Ex.blk 1000 rfl ?_
    rcases ite_sp h with ⟨c1, h⟩ | ⟨c1, h⟩
    · refine And.intro (fun _ => ?_) (fun hn => absurd c1 hn)
      show Ex mr_X10_makes sc (Cl MT pr sc (d + 0)) (rtE (some (.int r)) (mk X) σ2) (46, [(0, .ref 38), (1, .int x1), (2, .int x2), (3, .int x3)], [], mk X, σ)
      refine Ex.blk 5 rfl ?_
      show Ex mr_X10_makes sc (Cl MT pr sc (d + 0)) (rtE (some (.int r)) (mk X) σ2) (51, [(0, .ref 38), (1, .int x1), (2, .int x2), (3, .int x3)], [.int x1, .int 1, .int (shrI x2 1)], mk X, σ)
      refine Ex.blk 5 rfl ?_
      show Ex mr_X10_makes sc (Cl MT pr sc (d + 0)) (rtE (some (.int r)) (mk X) σ2) (56, [(0, .ref 38), (1, .int x1), (2, .int x2), (3, .int x3)], [.int 1, .int ((shrI x2 1) &&& ((shlI 1 x1) - 1))], mk X, σ)
      refine Ex.blk 1000 rfl ?_
      rcases ite_sp h with ⟨c2, h⟩ | ⟨c2, h⟩
      · refine And.intro (fun hp => absurd c2 hp) (fun _ => ?_)
        show Ex mr_X10_makes sc (Cl MT pr sc (d + 0)) (rtE (some (.int r)) (mk X) σ2) (63, [(0, .ref 38), (1, .int x1), (2, .int x2), (3, .int x3)], [], mk X, σ)
        refine Ex.blk 1000 rfl ?_
        show Ex mr_X10_makes sc (Cl MT pr sc (d + 0)) (rtE (some (.int r)) (mk X) σ2) (68, [(0, .ref 38), (1, .int x1), (2, .int x2), (3, .int x3)], [.int 1], mk X, σ)
        refine Ex.pick (lv' := _) [] rfl ?_
        exact lk_X10_makes_68 d _ _ h
      · refine And.intro (fun _ => ?_) (fun hn => absurd c2 hn)
        show Ex mr_X10_makes sc (Cl MT pr sc (d + 0)) (rtE (some (.int r)) (mk X) σ2) (67, [(0, .ref 38), (1, .int x1), (2, .int x2), (3, .int x3)], [], mk X, σ)
        refine Ex.blk 1000 rfl ?_
        show Ex mr_X10_makes sc (Cl MT pr sc (d + 0)) (rtE (some (.int r)) (mk X) σ2) (68, [(0, .ref 38), (1, .int x1), (2, .int x2), (3, .int x3)], [.int 0], mk X, σ)
        refine Ex.pick (lv' := _) [] rfl ?_
        exact lk_X10_makes_68 d _ _ h
    · refine And.intro (fun hp => absurd hp c1) (fun _ => ?_)
      show Ex mr_X10_makes sc (Cl MT pr sc (d + 0)) (rtE (some (.int r)) (mk X) σ2) (10, [(0, .ref 38), (1, .int x1), (2, .int x2), (3, .int x3)], [], mk X, σ)
      refine Ex.blk 1000 rfl ?_
      show Ex mr_X10_makes sc (Cl MT pr sc (d + 0)) (rtE (some (.int r)) (mk X) σ2) (13, [(4, .int 0), (0, .ref 38), (1, .int x1), (2, .int x2), (3, .int x3)], [], mk X, σ)
      refine Ex.pick (lv' := _) [1, 2, 3, 4, 0] rfl ?_
      exact lk_X10_makes_13 d _ ih FU _ _ _ _ _ h
theorem cl_X10_makes {pr : Ct} {sc : Nat × (Nat → Int32)} {X : En} (d : Nat) {r : Int32} {σ2 : St} {x1 : Int32} {σ : St} (h : f_X10_makes x1 σ = some (r, σ2)) : Cl MT pr sc (d + 0 + 1) 217 [.ref 38, .int x1] (mk X) σ (some (.int r)) (mk X) σ2 := by
  refine cl_of mr_X10_makes rfl rfl ?_
  unfold f_X10_makes at h
  refine Ex.blk 1000 rfl ?_
  show Ex mr_X10_makes sc (Cl MT pr sc (d + 0)) (rtE (some (.int r)) (mk X) σ2) (4, [(3, .int 1), (2, .int 1), (0, .ref 38), (1, .int x1)], [], mk X, σ)
  refine Ex.pick (lv' := _) [2, 3, 1, 0] rfl ?_
  exact lk_X10_makes_4 d FU _ _ _ _ h
theorem lk_X10_tailFrom_19 {pr : Ct} {sc : Nat × (Nat → Int32)} {X : En} (d : Nat) {r : Int32} {σ2 : St} (k4 : Int32 → Int32 → St → Option (Int32 × St)) (hk4 : ∀ (x2 : Int32) (x3 : Int32) (σ : St), k4 x2 x3 σ = some (r, σ2) → Ex mr_X10_tailFrom sc (Cl MT pr sc (d + 0)) (rtE (some (.int r)) (mk X) σ2) (4, [(0, .ref 38), (2, .int x2), (3, .int x3)], [], mk X, σ)) (x2 : Int32) (x3 : Int32) (σ : St) (h : f_X10_tailFrom_19 k4 x2 x3 σ = some (r, σ2)) : Ex mr_X10_tailFrom sc (Cl MT pr sc (d + 0)) (rtE (some (.int r)) (mk X) σ2) (19, [(0, .ref 38), (2, .int x2), (3, .int x3)], [], mk X, σ) := by
  unfold f_X10_tailFrom_19 at h
  refine Ex.blk 1000 rfl ?_
  show Ex mr_X10_tailFrom sc (Cl MT pr sc (d + 0)) (rtE (some (.int r)) (mk X) σ2) (4, [(3, .int (x3 + 1)), (0, .ref 38), (2, .int x2)], [], mk X, σ)
  refine Ex.pick (lv' := _) [1, 2, 0] rfl ?_
  exact hk4 _ _ _ h
theorem lk_X10_tailFrom_4 {pr : Ct} {sc : Nat × (Nat → Int32)} {X : En} (d : Nat) {r : Int32} {σ2 : St} : ∀ (n : Nat) (x2 : Int32) (x3 : Int32) (σ : St), f_X10_tailFrom_4 n x2 x3 σ = some (r, σ2) → Ex mr_X10_tailFrom sc (Cl MT pr sc (d + 0)) (rtE (some (.int r)) (mk X) σ2) (4, [(0, .ref 38), (2, .int x2), (3, .int x3)], [], mk X, σ) := by
  intro n
  induction n with
  | zero =>
    intro x2 x3 σ h
    cases h
  | succ n ih =>
    intro x2 x3 σ h
    simp only [f_X10_tailFrom_4] at h
    refine Ex.blk 1000 rfl ?_
    rcases ite_sp h with ⟨c1, h⟩ | ⟨c1, h⟩
    · refine And.intro (fun _ => ?_) (fun hn => absurd c1 hn)
      show Ex mr_X10_tailFrom sc (Cl MT pr sc (d + 0)) (rtE (some (.int r)) (mk X) σ2) (25, [(0, .ref 38), (2, .int x2), (3, .int x3)], [], mk X, σ)
      refine Ex.blk 1000 rfl ?_
      cases h
      exact And.intro trivial ⟨rfl, rfl, rfl⟩
    · refine And.intro (fun hp => absurd hp c1) (fun _ => ?_)
      show Ex mr_X10_tailFrom sc (Cl MT pr sc (d + 0)) (rtE (some (.int r)) (mk X) σ2) (10, [(0, .ref 38), (2, .int x2), (3, .int x3)], [], mk X, σ)
      refine Ex.blk 5 rfl ?_
      obtain ⟨g2, h⟩ := gd_some h
      refine And.intro (inb_ok g2) ?_
      show Ex mr_X10_tailFrom sc (Cl MT pr sc (d + 0)) (rtE (some (.int r)) (mk X) σ2) (17, [(0, .ref 38), (2, .int x2), (3, .int x3)], [.int (gI σ 56 x3.toNatClampNeg), .int x2], mk X, σ)
      refine Ex.blk 2 rfl ?_
      show Ex mr_X10_tailFrom sc (Cl MT pr sc (d + 0)) (rtE (some (.int r)) (mk X) σ2) (19, [(2, .int (x2 + (gI σ 56 x3.toNatClampNeg))), (0, .ref 38), (3, .int x3)], [], mk X, σ)
      refine Ex.pick (lv' := _) [1, 0, 2] rfl ?_
      exact lk_X10_tailFrom_19 d _ ih _ _ _ h
theorem cl_X10_tailFrom {pr : Ct} {sc : Nat × (Nat → Int32)} {X : En} (d : Nat) {r : Int32} {σ2 : St} {x1 : Int32} {σ : St} (h : f_X10_tailFrom x1 σ = some (r, σ2)) : Cl MT pr sc (d + 0 + 1) 218 [.ref 38, .int x1] (mk X) σ (some (.int r)) (mk X) σ2 := by
  refine cl_of mr_X10_tailFrom rfl rfl ?_
  unfold f_X10_tailFrom at h
  refine Ex.blk 1000 rfl ?_
  show Ex mr_X10_tailFrom sc (Cl MT pr sc (d + 0)) (rtE (some (.int r)) (mk X) σ2) (4, [(3, .int x1), (2, .int 0), (0, .ref 38), (1, .int x1)], [], mk X, σ)
  refine Ex.pick (lv' := _) [2, 1, 0] rfl ?_
  exact lk_X10_tailFrom_4 d FU _ _ _ h
theorem lk_X10_nextRow_106 {pr : Ct} {sc : Nat × (Nat → Int32)} {X : En} (d : Nat) {r : Int32} {σ2 : St} : ∀ (n : Nat) (x5 : Int32) (x6 : Int32) (σ : St), f_X10_nextRow_106 n x5 x6 σ = some (r, σ2) → Ex mr_X10_nextRow sc (Cl MT pr sc (d + 1)) (rtE (some (.int r)) (mk X) σ2) (106, [(0, .ref 38), (5, .int x5), (6, .int x6)], [], mk X, σ) := by
  intro n
  induction n with
  | zero =>
    intro x5 x6 σ h
    cases h
  | succ n ih =>
    intro x5 x6 σ h
    simp only [f_X10_nextRow_106] at h
    refine Ex.blk 1000 rfl ?_
    rcases ite_sp h with ⟨c1, h⟩ | ⟨c1, h⟩
    · refine And.intro (fun _ => ?_) (fun hn => absurd c1 hn)
      show Ex mr_X10_nextRow sc (Cl MT pr sc (d + 1)) (rtE (some (.int r)) (mk X) σ2) (127, [(0, .ref 38), (5, .int x5), (6, .int x6)], [], mk X, σ)
      refine Ex.blk 5 rfl ?_
      refine And.intro (inb_ok (i := 9) (n := 10) (by decide)) ?_
      show Ex mr_X10_nextRow sc (Cl MT pr sc (d + 1)) (rtE (some (.int r)) (mk X) σ2) (136, [(0, .ref 38), (5, .int x5), (6, .int x6)], [], mk X, (sI σ 56 (9 : Int32).toNatClampNeg x5))
      refine Ex.blk 1000 rfl ?_
      cases h
      exact And.intro isb_1 ⟨rfl, rfl, rfl⟩
    · refine And.intro (fun hp => absurd hp c1) (fun _ => ?_)
      show Ex mr_X10_nextRow sc (Cl MT pr sc (d + 1)) (rtE (some (.int r)) (mk X) σ2) (113, [(0, .ref 38), (5, .int x5), (6, .int x6)], [], mk X, σ)
      refine Ex.blk 5 rfl ?_
      obtain ⟨g2, h⟩ := gd_some h
      refine And.intro (inb_ok g2) ?_
      show Ex mr_X10_nextRow sc (Cl MT pr sc (d + 1)) (rtE (some (.int r)) (mk X) σ2) (121, [(0, .ref 38), (5, .int x5), (6, .int x6)], [], mk X, (sI σ 56 x6.toNatClampNeg 0))
      refine Ex.blk 1000 rfl ?_
      show Ex mr_X10_nextRow sc (Cl MT pr sc (d + 1)) (rtE (some (.int r)) (mk X) σ2) (106, [(6, .int (x6 + 1)), (0, .ref 38), (5, .int x5)], [], mk X, (sI σ 56 x6.toNatClampNeg 0))
      refine Ex.pick (lv' := _) [1, 2, 0] rfl ?_
      exact ih _ _ _ h
theorem lk_X10_nextRow_100 {pr : Ct} {sc : Nat × (Nat → Int32)} {X : En} (d : Nat) {r : Int32} {σ2 : St} (x4 : Int32) (x5 : Int32) (σ : St) (h : f_X10_nextRow_100 x4 x5 σ = some (r, σ2)) : Ex mr_X10_nextRow sc (Cl MT pr sc (d + 1)) (rtE (some (.int r)) (mk X) σ2) (100, [(0, .ref 38), (4, .int x4), (5, .int x5)], [], mk X, σ) := by
  unfold f_X10_nextRow_100 at h
  refine Ex.blk 1000 rfl ?_
  show Ex mr_X10_nextRow sc (Cl MT pr sc (d + 1)) (rtE (some (.int r)) (mk X) σ2) (106, [(6, .int (x4 + 1)), (0, .ref 38), (4, .int x4), (5, .int x5)], [], mk X, σ)
  refine Ex.pick (lv' := _) [1, 3, 0] rfl ?_
  exact lk_X10_nextRow_106 d FU _ _ _ h
theorem lk_X10_nextRow_71 {pr : Ct} {sc : Nat × (Nat → Int32)} {X : En} (d : Nat) {r : Int32} {σ2 : St} (k52 : Int32 → Int32 → Int32 → St → Option (Int32 × St)) (hk52 : ∀ (x4 : Int32) (x5 : Int32) (x6 : Int32) (σ : St), k52 x4 x5 x6 σ = some (r, σ2) → Ex mr_X10_nextRow sc (Cl MT pr sc (d + 1)) (rtE (some (.int r)) (mk X) σ2) (52, [(0, .ref 38), (4, .int x4), (5, .int x5), (6, .int x6)], [], mk X, σ)) (x4 : Int32) (x5 : Int32) (x6 : Int32) (σ : St) (h : f_X10_nextRow_71 k52 x4 x5 x6 σ = some (r, σ2)) : Ex mr_X10_nextRow sc (Cl MT pr sc (d + 1)) (rtE (some (.int r)) (mk X) σ2) (71, [(0, .ref 38), (4, .int x4), (5, .int x5), (6, .int x6)], [], mk X, σ) := by
  unfold f_X10_nextRow_71 at h
  refine Ex.blk 1000 rfl ?_
  show Ex mr_X10_nextRow sc (Cl MT pr sc (d + 1)) (rtE (some (.int r)) (mk X) σ2) (52, [(6, .int (x6 + 1)), (0, .ref 38), (4, .int x4), (5, .int x5)], [], mk X, σ)
  refine Ex.pick (lv' := _) [1, 2, 3, 0] rfl ?_
  exact hk52 _ _ _ _ h
theorem lk_X10_nextRow_52 {pr : Ct} {sc : Nat × (Nat → Int32)} {X : En} (d : Nat) {r : Int32} {σ2 : St} : ∀ (n : Nat) (x4 : Int32) (x5 : Int32) (x6 : Int32) (σ : St), f_X10_nextRow_52 n x4 x5 x6 σ = some (r, σ2) → Ex mr_X10_nextRow sc (Cl MT pr sc (d + 1)) (rtE (some (.int r)) (mk X) σ2) (52, [(0, .ref 38), (4, .int x4), (5, .int x5), (6, .int x6)], [], mk X, σ) := by
  intro n
  induction n with
  | zero =>
    intro x4 x5 x6 σ h
    cases h
  | succ n ih =>
    intro x4 x5 x6 σ h
    simp only [f_X10_nextRow_52] at h
    refine Ex.blk 1000 rfl ?_
    rcases ite_sp h with ⟨c1, h⟩ | ⟨c1, h⟩
    · refine And.intro (fun _ => ?_) (fun hn => absurd c1 hn)
      show Ex mr_X10_nextRow sc (Cl MT pr sc (d + 1)) (rtE (some (.int r)) (mk X) σ2) (77, [(0, .ref 38), (4, .int x4), (5, .int x5), (6, .int x6)], [], mk X, σ)
      refine Ex.blk 5 rfl ?_
      obtain ⟨g2, h⟩ := gd_some h
      refine And.intro (inb_ok g2) ?_
      show Ex mr_X10_nextRow sc (Cl MT pr sc (d + 1)) (rtE (some (.int r)) (mk X) σ2) (85, [(0, .ref 38), (4, .int x4), (5, .int x5), (6, .int x6)], [.int (gI σ 56 x4.toNatClampNeg), .int x4, .ref 56], mk X, σ)
      refine Ex.blk 3 rfl ?_
      obtain ⟨g3, h⟩ := gd_some h
      refine And.intro (inb_ok g3) ?_
      show Ex mr_X10_nextRow sc (Cl MT pr sc (d + 1)) (rtE (some (.int r)) (mk X) σ2) (88, [(0, .ref 38), (4, .int x4), (5, .int x5), (6, .int x6)], [], mk X, (sI σ 56 x4.toNatClampNeg ((gI σ 56 x4.toNatClampNeg) + 1)))
      refine Ex.blk 5 rfl ?_
      obtain ⟨g4, h⟩ := gd_some h
      refine And.intro (inb_ok g4) ?_
      show Ex mr_X10_nextRow sc (Cl MT pr sc (d + 1)) (rtE (some (.int r)) (mk X) σ2) (97, [(0, .ref 38), (4, .int x4), (5, .int x5), (6, .int x6)], [.int (gI (sI σ 56 x4.toNatClampNeg ((gI σ 56 x4.toNatClampNeg) + 1)) 56 x4.toNatClampNeg), .int x5], mk X, (sI σ 56 x4.toNatClampNeg ((gI σ 56 x4.toNatClampNeg) + 1)))
      refine Ex.blk 2 rfl ?_
      show Ex mr_X10_nextRow sc (Cl MT pr sc (d + 1)) (rtE (some (.int r)) (mk X) σ2) (100, [(5, .int (x5 - (gI (sI σ 56 x4.toNatClampNeg ((gI σ 56 x4.toNatClampNeg) + 1)) 56 x4.toNatClampNeg))), (0, .ref 38), (4, .int x4), (6, .int x6)], [], mk X, (sI σ 56 x4.toNatClampNeg ((gI σ 56 x4.toNatClampNeg) + 1)))
      refine Ex.pick (lv' := _) [1, 2, 0] rfl ?_
      exact lk_X10_nextRow_100 d _ _ _ h
    · refine And.intro (fun hp => absurd hp c1) (fun _ => ?_)
      show Ex mr_X10_nextRow sc (Cl MT pr sc (d + 1)) (rtE (some (.int r)) (mk X) σ2) (59, [(0, .ref 38), (4, .int x4), (5, .int x5), (6, .int x6)], [], mk X, σ)
      refine Ex.blk 5 rfl ?_
      obtain ⟨g5, h⟩ := gd_some h
      refine And.intro (inb_ok g5) ?_
      show Ex mr_X10_nextRow sc (Cl MT pr sc (d + 1)) (rtE (some (.int r)) (mk X) σ2) (68, [(0, .ref 38), (4, .int x4), (5, .int x5), (6, .int x6)], [.int (gI σ 56 x6.toNatClampNeg), .int x5], mk X, σ)
      refine Ex.blk 2 rfl ?_
      show Ex mr_X10_nextRow sc (Cl MT pr sc (d + 1)) (rtE (some (.int r)) (mk X) σ2) (71, [(5, .int (x5 - (gI σ 56 x6.toNatClampNeg))), (0, .ref 38), (4, .int x4), (6, .int x6)], [], mk X, σ)
      refine Ex.pick (lv' := _) [1, 2, 0, 3] rfl ?_
      exact lk_X10_nextRow_71 d _ ih _ _ _ _ h
theorem lk_X10_nextRow_35 {pr : Ct} {sc : Nat × (Nat → Int32)} {X : En} (d : Nat) {r : Int32} {σ2 : St} (x1 : Int32) (x2 : Int32) (x3 : Int32) (σ : St) (h : f_X10_nextRow_35 x1 x2 x3 σ = some (r, σ2)) : Ex mr_X10_nextRow sc (Cl MT pr sc (d + 1)) (rtE (some (.int r)) (mk X) σ2) (35, [(0, .ref 38), (1, .int x1), (2, .int x2), (3, .int x3)], [], mk X, σ) := by
  unfold f_X10_nextRow_35 at h
  refine Ex.blk 1000 rfl ?_
  rcases ite_sp h with ⟨c1, h⟩ | ⟨c1, h⟩
  · refine And.intro (fun hp => absurd c1 hp) (fun _ => ?_)
    show Ex mr_X10_nextRow sc (Cl MT pr sc (d + 1)) (rtE (some (.int r)) (mk X) σ2) (39, [(0, .ref 38), (1, .int x1), (2, .int x2), (3, .int x3)], [], mk X, σ)
    refine Ex.blk 1000 rfl ?_
    cases h
    exact And.intro isb_0 ⟨rfl, rfl, rfl⟩
  · refine And.intro (fun _ => ?_) (fun hn => absurd c1 hn)
    show Ex mr_X10_nextRow sc (Cl MT pr sc (d + 1)) (rtE (some (.int r)) (mk X) σ2) (41, [(0, .ref 38), (1, .int x1), (2, .int x2), (3, .int x3)], [], mk X, σ)
    refine Ex.blk 5 rfl ?_
    show Ex mr_X10_nextRow sc (Cl MT pr sc (d + 1)) (rtE (some (.int r)) (mk X) σ2) (47, [(4, .int (x2 - 1)), (0, .ref 38), (1, .int x1), (2, .int x2), (3, .int x3)], [.int x1], mk X, σ)
    refine Ex.blk 1000 rfl ?_
    show Ex mr_X10_nextRow sc (Cl MT pr sc (d + 1)) (rtE (some (.int r)) (mk X) σ2) (52, [(6, .int 1), (5, .int x1), (4, .int (x2 - 1)), (0, .ref 38), (1, .int x1), (2, .int x2), (3, .int x3)], [], mk X, σ)
    refine Ex.pick (lv' := _) [3, 2, 1, 0] rfl ?_
    exact lk_X10_nextRow_52 d FU _ _ _ _ h
theorem lk_X10_nextRow_31 {pr : Ct} {sc : Nat × (Nat → Int32)} {X : En} (d : Nat) {r : Int32} {σ2 : St} (k5 : Int32 → Int32 → Int32 → St → Option (Int32 × St)) (hk5 : ∀ (x1 : Int32) (x2 : Int32) (x3 : Int32) (σ : St), k5 x1 x2 x3 σ = some (r, σ2) → Ex mr_X10_nextRow sc (Cl MT pr sc (d + 1)) (rtE (some (.int r)) (mk X) σ2) (5, [(0, .ref 38), (1, .int x1), (2, .int x2), (3, .int x3)], [], mk X, σ)) (x1 : Int32) (x3 : Int32) (y0 : Int32) (σ : St) (h : f_X10_nextRow_31 k5 x1 x3 y0 σ = some (r, σ2)) : Ex mr_X10_nextRow sc (Cl MT pr sc (d + 1)) (rtE (some (.int r)) (mk X) σ2) (31, [(0, .ref 38), (1, .int x1), (3, .int x3)], [.int y0], mk X, σ) := by
  unfold f_X10_nextRow_31 at h
  refine Ex.blk 1000 rfl ?_
  show Ex mr_X10_nextRow sc (Cl MT pr sc (d + 1)) (rtE (some (.int r)) (mk X) σ2) (5, [(2, .int y0), (0, .ref 38), (1, .int x1), (3, .int x3)], [], mk X, σ)
  refine Ex.pick (lv' := _) [1, 2, 0, 3] rfl ?_
  exact hk5 _ _ _ _ h
theorem lk_X10_nextRow_5 {pr : Ct} {sc : Nat × (Nat → Int32)} {X : En} (d : Nat) {r : Int32} {σ2 : St} : ∀ (n : Nat) (x1 : Int32) (x2 : Int32) (x3 : Int32) (σ : St), f_X10_nextRow_5 n x1 x2 x3 σ = some (r, σ2) → Ex mr_X10_nextRow sc (Cl MT pr sc (d + 1)) (rtE (some (.int r)) (mk X) σ2) (5, [(0, .ref 38), (1, .int x1), (2, .int x2), (3, .int x3)], [], mk X, σ) := by
  intro n
  induction n with
  | zero =>
    intro x1 x2 x3 σ h
    cases h
  | succ n ih =>
    intro x1 x2 x3 σ h
    simp only [f_X10_nextRow_5] at h
    refine Ex.blk 1000 rfl ?_
    rcases ite_sp h with ⟨c1, h⟩ | ⟨c1, h⟩
    · refine And.intro (fun _ => ?_) (fun hn => absurd c1 hn)
      show Ex mr_X10_nextRow sc (Cl MT pr sc (d + 1)) (rtE (some (.int r)) (mk X) σ2) (35, [(0, .ref 38), (1, .int x1), (2, .int x2), (3, .int x3)], [], mk X, σ)
      exact lk_X10_nextRow_35 d _ _ _ _ h
    · refine And.intro (fun hp => absurd hp c1) (fun _ => ?_)
      show Ex mr_X10_nextRow sc (Cl MT pr sc (d + 1)) (rtE (some (.int r)) (mk X) σ2) (10, [(0, .ref 38), (1, .int x1), (2, .int x2), (3, .int x3)], [], mk X, σ)
      refine Ex.blk 1000 rfl ?_
      rcases ite_sp h with ⟨c2, h⟩ | ⟨c2, h⟩
      · refine And.intro (fun hp => absurd c2 hp) (fun _ => ?_)
        show Ex mr_X10_nextRow sc (Cl MT pr sc (d + 1)) (rtE (some (.int r)) (mk X) σ2) (14, [(0, .ref 38), (1, .int x1), (2, .int x2), (3, .int x3)], [], mk X, σ)
        refine Ex.blk 3 rfl ?_
        obtain ⟨p1, hp1, h⟩ := bind_sp h
        refine Exists.intro (some (.int p1.1)) (Exists.intro (mk X) (Exists.intro p1.2 (And.intro (cl_X10_tailFrom (d + 0) hp1) ?_)))
        show Ex mr_X10_nextRow sc (Cl MT pr sc (d + 1)) (rtE (some (.int r)) (mk X) σ2) (19, [(0, .ref 38), (1, .int x1), (2, .int x2), (3, .int x3)], [.int p1.1], mk X, p1.2)
        refine Ex.blk 1000 rfl ?_
        rcases ite_sp h with ⟨c3, h⟩ | ⟨c3, h⟩
        · refine And.intro (fun hp => absurd c3 hp) (fun _ => ?_)
          show Ex mr_X10_nextRow sc (Cl MT pr sc (d + 1)) (rtE (some (.int r)) (mk X) σ2) (24, [(3, .int p1.1), (0, .ref 38), (1, .int x1), (2, .int x2)], [], mk X, p1.2)
          refine Ex.blk 1000 rfl ?_
          show Ex mr_X10_nextRow sc (Cl MT pr sc (d + 1)) (rtE (some (.int r)) (mk X) σ2) (31, [(3, .int p1.1), (0, .ref 38), (1, .int x1), (2, .int x2)], [.int (x2 - 1)], mk X, p1.2)
          refine Ex.pick (lv' := _) [1, 2, 0] rfl ?_
          exact lk_X10_nextRow_31 d _ ih _ _ _ _ h
        · refine And.intro (fun _ => ?_) (fun hn => absurd c3 hn)
          show Ex mr_X10_nextRow sc (Cl MT pr sc (d + 1)) (rtE (some (.int r)) (mk X) σ2) (30, [(3, .int p1.1), (0, .ref 38), (1, .int x1), (2, .int x2)], [], mk X, p1.2)
          refine Ex.blk 1000 rfl ?_
          show Ex mr_X10_nextRow sc (Cl MT pr sc (d + 1)) (rtE (some (.int r)) (mk X) σ2) (31, [(3, .int p1.1), (0, .ref 38), (1, .int x1), (2, .int x2)], [.int x2], mk X, p1.2)
          refine Ex.pick (lv' := _) [1, 2, 0] rfl ?_
          exact lk_X10_nextRow_31 d _ ih _ _ _ _ h
      · refine And.intro (fun _ => ?_) (fun hn => absurd c2 hn)
        show Ex mr_X10_nextRow sc (Cl MT pr sc (d + 1)) (rtE (some (.int r)) (mk X) σ2) (35, [(0, .ref 38), (1, .int x1), (2, .int x2), (3, .int x3)], [], mk X, σ)
        exact lk_X10_nextRow_35 d _ _ _ _ h
theorem cl_X10_nextRow {pr : Ct} {sc : Nat × (Nat → Int32)} {X : En} (d : Nat) {r : Int32} {σ2 : St} {x1 : Int32} {σ : St} (h : f_X10_nextRow x1 σ = some (r, σ2)) : Cl MT pr sc (d + 1 + 1) 219 [.ref 38, .int x1] (mk X) σ (some (.int r)) (mk X) σ2 := by
  refine cl_of mr_X10_nextRow rfl rfl ?_
  unfold f_X10_nextRow at h
  refine Ex.blk 1000 rfl ?_
  show Ex mr_X10_nextRow sc (Cl MT pr sc (d + 1)) (rtE (some (.int r)) (mk X) σ2) (5, [(3, .int 0), (2, .int 9), (0, .ref 38), (1, .int x1)], [], mk X, σ)
  refine Ex.pick (lv' := _) [2, 3, 1, 0] rfl ?_
  exact lk_X10_nextRow_5 d FU _ _ _ _ h
theorem lk_X10_isOf_29 {pr : Ct} {sc : Nat × (Nat → Int32)} {X : En} (d : Nat) {r : Int32} {σ2 : St} (k2 : Int32 → Int32 → St → Option (Int32 × St)) (hk2 : ∀ (x1 : Int32) (x2 : Int32) (σ : St), k2 x1 x2 σ = some (r, σ2) → Ex mr_X10_isOf sc (Cl MT pr sc (d + 1)) (rtE (some (.int r)) (mk X) σ2) (2, [(0, .ref 38), (1, .int x1), (2, .int x2)], [], mk X, σ)) (x1 : Int32) (x2 : Int32) (σ : St) (h : f_X10_isOf_29 k2 x1 x2 σ = some (r, σ2)) : Ex mr_X10_isOf sc (Cl MT pr sc (d + 1)) (rtE (some (.int r)) (mk X) σ2) (29, [(0, .ref 38), (1, .int x1), (2, .int x2)], [], mk X, σ) := by
  unfold f_X10_isOf_29 at h
  refine Ex.blk 1000 rfl ?_
  show Ex mr_X10_isOf sc (Cl MT pr sc (d + 1)) (rtE (some (.int r)) (mk X) σ2) (2, [(2, .int (x2 + 1)), (0, .ref 38), (1, .int x1)], [], mk X, σ)
  refine Ex.pick (lv' := _) [1, 2, 0] rfl ?_
  exact hk2 _ _ _ h
theorem lk_X10_isOf_2 {pr : Ct} {sc : Nat × (Nat → Int32)} {X : En} (d : Nat) {r : Int32} {σ2 : St} : ∀ (n : Nat) (x1 : Int32) (x2 : Int32) (σ : St), f_X10_isOf_2 n x1 x2 σ = some (r, σ2) → Ex mr_X10_isOf sc (Cl MT pr sc (d + 1)) (rtE (some (.int r)) (mk X) σ2) (2, [(0, .ref 38), (1, .int x1), (2, .int x2)], [], mk X, σ) := by
  intro n
  induction n with
  | zero =>
    intro x1 x2 σ h
    cases h
  | succ n ih =>
    intro x1 x2 σ h
    simp only [f_X10_isOf_2] at h
    refine Ex.blk 1000 rfl ?_
    rcases ite_sp h with ⟨c1, h⟩ | ⟨c1, h⟩
    · refine And.intro (fun _ => ?_) (fun hn => absurd c1 hn)
      show Ex mr_X10_isOf sc (Cl MT pr sc (d + 1)) (rtE (some (.int r)) (mk X) σ2) (35, [(0, .ref 38), (1, .int x1), (2, .int x2)], [], mk X, σ)
      refine Ex.blk 1000 rfl ?_
      cases h
      exact And.intro isb_1 ⟨rfl, rfl, rfl⟩
    · refine And.intro (fun hp => absurd hp c1) (fun _ => ?_)
      show Ex mr_X10_isOf sc (Cl MT pr sc (d + 1)) (rtE (some (.int r)) (mk X) σ2) (8, [(0, .ref 38), (1, .int x1), (2, .int x2)], [], mk X, σ)
      refine Ex.blk 4 rfl ?_
      obtain ⟨g2, h⟩ := gd_some h
      refine And.intro (inb_ok g2) ?_
      show Ex mr_X10_isOf sc (Cl MT pr sc (d + 1)) (rtE (some (.int r)) (mk X) σ2) (14, [(0, .ref 38), (1, .int x1), (2, .int x2)], [.int (gI σ 56 x2.toNatClampNeg)], mk X, σ)
      refine Ex.blk 1000 rfl ?_
      rcases ite_sp h with ⟨c3, h⟩ | ⟨c3, h⟩
      · refine And.intro (fun _ => ?_) (fun hn => absurd c3 hn)
        show Ex mr_X10_isOf sc (Cl MT pr sc (d + 1)) (rtE (some (.int r)) (mk X) σ2) (29, [(0, .ref 38), (1, .int x1), (2, .int x2)], [], mk X, σ)
        exact lk_X10_isOf_29 d _ ih _ _ _ h
      · refine And.intro (fun hp => absurd hp c3) (fun _ => ?_)
        show Ex mr_X10_isOf sc (Cl MT pr sc (d + 1)) (rtE (some (.int r)) (mk X) σ2) (17, [(0, .ref 38), (1, .int x1), (2, .int x2)], [], mk X, σ)
        refine Ex.blk 5 rfl ?_
        obtain ⟨p1, hp1, h⟩ := bind_sp h
        refine Exists.intro (some (.int p1.1)) (Exists.intro (mk X) (Exists.intro p1.2 (And.intro (cl_X10_has (d + 0) hp1) ?_)))
        show Ex mr_X10_isOf sc (Cl MT pr sc (d + 1)) (rtE (some (.int r)) (mk X) σ2) (24, [(0, .ref 38), (1, .int x1), (2, .int x2)], [.int p1.1], mk X, p1.2)
        refine Ex.blk 1000 rfl ?_
        rcases ite_sp h with ⟨c4, h⟩ | ⟨c4, h⟩
        · refine And.intro (fun hp => absurd c4 hp) (fun _ => ?_)
          show Ex mr_X10_isOf sc (Cl MT pr sc (d + 1)) (rtE (some (.int r)) (mk X) σ2) (27, [(0, .ref 38), (1, .int x1), (2, .int x2)], [], mk X, p1.2)
          refine Ex.blk 1000 rfl ?_
          cases h
          exact And.intro isb_0 ⟨rfl, rfl, rfl⟩
        · refine And.intro (fun _ => ?_) (fun hn => absurd c4 hn)
          show Ex mr_X10_isOf sc (Cl MT pr sc (d + 1)) (rtE (some (.int r)) (mk X) σ2) (29, [(0, .ref 38), (1, .int x1), (2, .int x2)], [], mk X, p1.2)
          exact lk_X10_isOf_29 d _ ih _ _ _ h
theorem cl_X10_isOf {pr : Ct} {sc : Nat × (Nat → Int32)} {X : En} (d : Nat) {r : Int32} {σ2 : St} {x1 : Int32} {σ : St} (h : f_X10_isOf x1 σ = some (r, σ2)) : Cl MT pr sc (d + 1 + 1) 220 [.ref 38, .int x1] (mk X) σ (some (.int r)) (mk X) σ2 := by
  refine cl_of mr_X10_isOf rfl rfl ?_
  unfold f_X10_isOf at h
  refine Ex.blk 1000 rfl ?_
  show Ex mr_X10_isOf sc (Cl MT pr sc (d + 1)) (rtE (some (.int r)) (mk X) σ2) (2, [(2, .int 1), (0, .ref 38), (1, .int x1)], [], mk X, σ)
  refine Ex.pick (lv' := _) [1, 2, 0] rfl ?_
  exact lk_X10_isOf_2 d FU _ _ _ h
theorem lk_X10_all_34 {pr : Ct} {sc : Nat × (Nat → Int32)} {X : En} (d : Nat) {r : Int32} {σ2 : St} (σ : St) (h : f_X10_all_34 σ = some (r, σ2)) : Ex mr_X10_all sc (Cl MT pr sc (d + 2)) (rtE (some (.int r)) (mk X) σ2) (34, [], [], mk X, σ) := by
  unfold f_X10_all_34 at h
  refine Ex.blk 1000 rfl ?_
  cases h
  exact And.intro trivial ⟨rfl, rfl, rfl⟩
theorem lk_X10_all_166 {pr : Ct} {sc : Nat × (Nat → Int32)} {X : En} (d : Nat) {r : Int32} {σ2 : St} (y0 : Int32) (σ : St) (h : f_X10_all_166 y0 σ = some (r, σ2)) : Ex mr_X10_all sc (Cl MT pr sc (d + 2)) (rtE (some (.int r)) (mk X) σ2) (166, [], [.int y0], mk X, σ) := by
  unfold f_X10_all_166 at h
  refine Ex.blk 1000 rfl ?_
  cases h
  exact And.intro trivial ⟨rfl, rfl, rfl⟩
theorem lk_X10_all_149 {pr : Ct} {sc : Nat × (Nat → Int32)} {X : En} (d : Nat) {r : Int32} {σ2 : St} (k128 : Int32 → Int32 → Int32 → Int32 → St → Option (Int32 × St)) (hk128 : ∀ (x3 : Int32) (x4 : Int32) (x6 : Int32) (x7 : Int32) (σ : St), k128 x3 x4 x6 x7 σ = some (r, σ2) → Ex mr_X10_all sc (Cl MT pr sc (d + 2)) (rtE (some (.int r)) (mk X) σ2) (128, [(0, .ref 38), (3, .int x3), (4, .int x4), (6, .int x6), (7, .int x7)], [], mk X, σ)) (x3 : Int32) (x4 : Int32) (x6 : Int32) (x7 : Int32) (σ : St) (h : f_X10_all_149 k128 x3 x4 x6 x7 σ = some (r, σ2)) : Ex mr_X10_all sc (Cl MT pr sc (d + 2)) (rtE (some (.int r)) (mk X) σ2) (149, [(0, .ref 38), (3, .int x3), (4, .int x4), (6, .int x6), (7, .int x7)], [], mk X, σ) := by
  unfold f_X10_all_149 at h
  refine Ex.blk 1000 rfl ?_
  show Ex mr_X10_all sc (Cl MT pr sc (d + 2)) (rtE (some (.int r)) (mk X) σ2) (128, [(7, .int (x7 + (-1))), (0, .ref 38), (3, .int x3), (4, .int x4), (6, .int x6)], [], mk X, σ)
  refine Ex.pick (lv' := _) [1, 2, 3, 4, 0] rfl ?_
  exact hk128 _ _ _ _ _ h
theorem lk_X10_all_128 {pr : Ct} {sc : Nat × (Nat → Int32)} {X : En} (d : Nat) {r : Int32} {σ2 : St} : ∀ (n : Nat) (x3 : Int32) (x4 : Int32) (x6 : Int32) (x7 : Int32) (σ : St), f_X10_all_128 n x3 x4 x6 x7 σ = some (r, σ2) → Ex mr_X10_all sc (Cl MT pr sc (d + 2)) (rtE (some (.int r)) (mk X) σ2) (128, [(0, .ref 38), (3, .int x3), (4, .int x4), (6, .int x6), (7, .int x7)], [], mk X, σ) := by
  intro n
  induction n with
  | zero =>
    intro x3 x4 x6 x7 σ h
    cases h
  | succ n ih =>
    intro x3 x4 x6 x7 σ h
    simp only [f_X10_all_128] at h
    refine Ex.blk 1000 rfl ?_
    rcases ite_sp h with ⟨c1, h⟩ | ⟨c1, h⟩
    · refine And.intro (fun _ => ?_) (fun hn => absurd c1 hn)
      show Ex mr_X10_all sc (Cl MT pr sc (d + 2)) (rtE (some (.int r)) (mk X) σ2) (155, [(0, .ref 38), (3, .int x3), (4, .int x4), (6, .int x6), (7, .int x7)], [], mk X, σ)
      refine Ex.blk 1000 rfl ?_
      rcases ite_sp h with ⟨c2, h⟩ | ⟨c2, h⟩
      · refine And.intro (fun hp => absurd c2 hp) (fun _ => ?_)
        show Ex mr_X10_all sc (Cl MT pr sc (d + 2)) (rtE (some (.int r)) (mk X) σ2) (159, [(0, .ref 38), (3, .int x3), (4, .int x4), (6, .int x6), (7, .int x7)], [], mk X, σ)
        refine Ex.blk 1000 rfl ?_
        show Ex mr_X10_all sc (Cl MT pr sc (d + 2)) (rtE (some (.int r)) (mk X) σ2) (166, [(0, .ref 38), (3, .int x3), (4, .int x4), (6, .int x6), (7, .int x7)], [.int x4], mk X, σ)
        refine Ex.pick (lv' := _) [] rfl ?_
        exact lk_X10_all_166 d _ _ h
      · refine And.intro (fun _ => ?_) (fun hn => absurd c2 hn)
        show Ex mr_X10_all sc (Cl MT pr sc (d + 2)) (rtE (some (.int r)) (mk X) σ2) (164, [(0, .ref 38), (3, .int x3), (4, .int x4), (6, .int x6), (7, .int x7)], [], mk X, σ)
        refine Ex.blk 1000 rfl ?_
        show Ex mr_X10_all sc (Cl MT pr sc (d + 2)) (rtE (some (.int r)) (mk X) σ2) (166, [(0, .ref 38), (3, .int x3), (4, .int x4), (6, .int x6), (7, .int x7)], [.int x6], mk X, σ)
        refine Ex.pick (lv' := _) [] rfl ?_
        exact lk_X10_all_166 d _ _ h
    · refine And.intro (fun hp => absurd hp c1) (fun _ => ?_)
      show Ex mr_X10_all sc (Cl MT pr sc (d + 2)) (rtE (some (.int r)) (mk X) σ2) (134, [(0, .ref 38), (3, .int x3), (4, .int x4), (6, .int x6), (7, .int x7)], [], mk X, σ)
      refine Ex.blk 5 rfl ?_
      show Ex mr_X10_all sc (Cl MT pr sc (d + 2)) (rtE (some (.int r)) (mk X) σ2) (143, [(0, .ref 38), (3, .int x3), (4, .int x4), (6, .int x6), (7, .int x7)], [.ref 56, .int (10 * x6)], mk X, σ)
      refine Ex.blk 2 rfl ?_
      obtain ⟨g3, h⟩ := gd_some h
      refine And.intro (inb_ok g3) ?_
      show Ex mr_X10_all sc (Cl MT pr sc (d + 2)) (rtE (some (.int r)) (mk X) σ2) (146, [(0, .ref 38), (3, .int x3), (4, .int x4), (6, .int x6), (7, .int x7)], [.int (gI σ 56 x7.toNatClampNeg), .int (10 * x6)], mk X, σ)
      refine Ex.blk 2 rfl ?_
      show Ex mr_X10_all sc (Cl MT pr sc (d + 2)) (rtE (some (.int r)) (mk X) σ2) (149, [(6, .int ((10 * x6) + (gI σ 56 x7.toNatClampNeg))), (0, .ref 38), (3, .int x3), (4, .int x4), (7, .int x7)], [], mk X, σ)
      refine Ex.pick (lv' := _) [1, 2, 3, 0, 4] rfl ?_
      exact lk_X10_all_149 d _ ih _ _ _ _ _ h
theorem lk_X10_all_116 {pr : Ct} {sc : Nat × (Nat → Int32)} {X : En} (d : Nat) {r : Int32} {σ2 : St} (k39 : Int32 → Int32 → Int32 → Int32 → St → Option (Int32 × St)) (hk39 : ∀ (x1 : Int32) (x2 : Int32) (x3 : Int32) (x4 : Int32) (σ : St), k39 x1 x2 x3 x4 σ = some (r, σ2) → Ex mr_X10_all sc (Cl MT pr sc (d + 2)) (rtE (some (.int r)) (mk X) σ2) (39, [(0, .ref 38), (1, .int x1), (2, .int x2), (3, .int x3), (4, .int x4)], [], mk X, σ)) (x1 : Int32) (x2 : Int32) (x3 : Int32) (x4 : Int32) (x5 : Int32) (σ : St) (h : f_X10_all_116 k39 x1 x2 x3 x4 x5 σ = some (r, σ2)) : Ex mr_X10_all sc (Cl MT pr sc (d + 2)) (rtE (some (.int r)) (mk X) σ2) (116, [(0, .ref 38), (1, .int x1), (2, .int x2), (3, .int x3), (4, .int x4), (5, .int x5)], [], mk X, σ) := by
  unfold f_X10_all_116 at h
  refine Ex.blk 1000 rfl ?_
  rcases ite_sp h with ⟨c1, h⟩ | ⟨c1, h⟩
  · refine And.intro (fun _ => ?_) (fun hn => absurd c1 hn)
    show Ex mr_X10_all sc (Cl MT pr sc (d + 2)) (rtE (some (.int r)) (mk X) σ2) (167, [(0, .ref 38), (1, .int x1), (2, .int x2), (3, .int x3), (4, .int x4), (5, .int x5)], [], mk X, σ)
    refine Ex.blk 1000 rfl ?_
    show Ex mr_X10_all sc (Cl MT pr sc (d + 2)) (rtE (some (.int r)) (mk X) σ2) (39, [(4, .int (x4 + 1)), (0, .ref 38), (1, .int x1), (2, .int x2), (3, .int x3), (5, .int x5)], [], mk X, σ)
    refine Ex.pick (lv' := _) [1, 2, 3, 4, 0] rfl ?_
    exact hk39 _ _ _ _ _ h
  · refine And.intro (fun hp => absurd hp c1) (fun _ => ?_)
    show Ex mr_X10_all sc (Cl MT pr sc (d + 2)) (rtE (some (.int r)) (mk X) σ2) (121, [(0, .ref 38), (1, .int x1), (2, .int x2), (3, .int x3), (4, .int x4), (5, .int x5)], [], mk X, σ)
    refine Ex.blk 1000 rfl ?_
    show Ex mr_X10_all sc (Cl MT pr sc (d + 2)) (rtE (some (.int r)) (mk X) σ2) (128, [(7, .int 9), (6, .int 0), (0, .ref 38), (1, .int x1), (2, .int x2), (3, .int x3), (4, .int x4), (5, .int x5)], [], mk X, σ)
    refine Ex.pick (lv' := _) [2, 5, 6, 1, 0] rfl ?_
    exact lk_X10_all_128 d FU _ _ _ _ _ h
theorem lk_X10_all_105 {pr : Ct} {sc : Nat × (Nat → Int32)} {X : En} (d : Nat) {r : Int32} {σ2 : St} (k39 : Int32 → Int32 → Int32 → Int32 → St → Option (Int32 × St)) (k84 : Int32 → Int32 → Int32 → Int32 → Int32 → St → Option (Int32 × St)) (hk39 : ∀ (x1 : Int32) (x2 : Int32) (x3 : Int32) (x4 : Int32) (σ : St), k39 x1 x2 x3 x4 σ = some (r, σ2) → Ex mr_X10_all sc (Cl MT pr sc (d + 2)) (rtE (some (.int r)) (mk X) σ2) (39, [(0, .ref 38), (1, .int x1), (2, .int x2), (3, .int x3), (4, .int x4)], [], mk X, σ)) (hk84 : ∀ (x1 : Int32) (x2 : Int32) (x3 : Int32) (x4 : Int32) (x5 : Int32) (σ : St), k84 x1 x2 x3 x4 x5 σ = some (r, σ2) → Ex mr_X10_all sc (Cl MT pr sc (d + 2)) (rtE (some (.int r)) (mk X) σ2) (84, [(0, .ref 38), (1, .int x1), (2, .int x2), (3, .int x3), (4, .int x4), (5, .int x5)], [], mk X, σ)) (x1 : Int32) (x2 : Int32) (x3 : Int32) (x4 : Int32) (σ : St) (h : f_X10_all_105 k39 k84 x1 x2 x3 x4 σ = some (r, σ2)) : Ex mr_X10_all sc (Cl MT pr sc (d + 2)) (rtE (some (.int r)) (mk X) σ2) (105, [(0, .ref 38), (1, .int x1), (2, .int x2), (3, .int x3), (4, .int x4)], [], mk X, σ) := by
  unfold f_X10_all_105 at h
  refine Ex.blk 3 rfl ?_
  obtain ⟨p5, hp5, h⟩ := bind_sp h
  refine Exists.intro (some (.int p5.1)) (Exists.intro (mk X) (Exists.intro p5.2 (And.intro (cl_X10_nextRow (d + 0) hp5) ?_)))
  show Ex mr_X10_all sc (Cl MT pr sc (d + 2)) (rtE (some (.int r)) (mk X) σ2) (111, [(0, .ref 38), (1, .int x1), (2, .int x2), (3, .int x3), (4, .int x4)], [.int p5.1], mk X, p5.2)
  refine Ex.blk 1000 rfl ?_
  show Ex mr_X10_all sc (Cl MT pr sc (d + 2)) (rtE (some (.int r)) (mk X) σ2) (84, [(5, .int p5.1), (0, .ref 38), (1, .int x1), (2, .int x2), (3, .int x3), (4, .int x4)], [], mk X, p5.2)
  refine Ex.pick (lv' := _) [1, 2, 3, 4, 5, 0] rfl ?_
  exact hk84 _ _ _ _ _ _ h
theorem lk_X10_all_84 {pr : Ct} {sc : Nat × (Nat → Int32)} {X : En} (d : Nat) {r : Int32} {σ2 : St} (k39 : Int32 → Int32 → Int32 → Int32 → St → Option (Int32 × St)) (hk39 : ∀ (x1 : Int32) (x2 : Int32) (x3 : Int32) (x4 : Int32) (σ : St), k39 x1 x2 x3 x4 σ = some (r, σ2) → Ex mr_X10_all sc (Cl MT pr sc (d + 2)) (rtE (some (.int r)) (mk X) σ2) (39, [(0, .ref 38), (1, .int x1), (2, .int x2), (3, .int x3), (4, .int x4)], [], mk X, σ)) : ∀ (n : Nat) (x1 : Int32) (x2 : Int32) (x3 : Int32) (x4 : Int32) (x5 : Int32) (σ : St), f_X10_all_84 k39 n x1 x2 x3 x4 x5 σ = some (r, σ2) → Ex mr_X10_all sc (Cl MT pr sc (d + 2)) (rtE (some (.int r)) (mk X) σ2) (84, [(0, .ref 38), (1, .int x1), (2, .int x2), (3, .int x3), (4, .int x4), (5, .int x5)], [], mk X, σ) := by
  intro n
  induction n with
  | zero =>
    intro x1 x2 x3 x4 x5 σ h
    cases h
  | succ n ih =>
    intro x1 x2 x3 x4 x5 σ h
    simp only [f_X10_all_84] at h
    refine Ex.blk 1000 rfl ?_
    rcases ite_sp h with ⟨c1, h⟩ | ⟨c1, h⟩
    · refine And.intro (fun _ => ?_) (fun hn => absurd c1 hn)
      show Ex mr_X10_all sc (Cl MT pr sc (d + 2)) (rtE (some (.int r)) (mk X) σ2) (116, [(0, .ref 38), (1, .int x1), (2, .int x2), (3, .int x3), (4, .int x4), (5, .int x5)], [], mk X, σ)
      exact lk_X10_all_116 d _ hk39 _ _ _ _ _ _ h
    · refine And.intro (fun hp => absurd hp c1) (fun _ => ?_)
      show Ex mr_X10_all sc (Cl MT pr sc (d + 2)) (rtE (some (.int r)) (mk X) σ2) (89, [(0, .ref 38), (1, .int x1), (2, .int x2), (3, .int x3), (4, .int x4), (5, .int x5)], [], mk X, σ)
      refine Ex.blk 3 rfl ?_
      obtain ⟨p4, hp4, h⟩ := bind_sp h
      refine Exists.intro (some (.int p4.1)) (Exists.intro (mk X) (Exists.intro p4.2 (And.intro (cl_X10_isOf (d + 0) hp4) ?_)))
      show Ex mr_X10_all sc (Cl MT pr sc (d + 2)) (rtE (some (.int r)) (mk X) σ2) (94, [(0, .ref 38), (1, .int x1), (2, .int x2), (3, .int x3), (4, .int x4), (5, .int x5)], [.int p4.1], mk X, p4.2)
      refine Ex.blk 1000 rfl ?_
      rcases ite_sp h with ⟨c2, h⟩ | ⟨c2, h⟩
      · refine And.intro (fun _ => ?_) (fun hn => absurd c2 hn)
        show Ex mr_X10_all sc (Cl MT pr sc (d + 2)) (rtE (some (.int r)) (mk X) σ2) (105, [(0, .ref 38), (1, .int x1), (2, .int x2), (3, .int x3), (4, .int x4), (5, .int x5)], [], mk X, p4.2)
        refine Ex.pick (lv' := _) [0, 1, 2, 3, 4] rfl ?_
        exact lk_X10_all_105 d _ _ hk39 ih _ _ _ _ _ h
      · refine And.intro (fun hp => absurd hp c2) (fun _ => ?_)
        show Ex mr_X10_all sc (Cl MT pr sc (d + 2)) (rtE (some (.int r)) (mk X) σ2) (97, [(0, .ref 38), (1, .int x1), (2, .int x2), (3, .int x3), (4, .int x4), (5, .int x5)], [], mk X, p4.2)
        refine Ex.blk 3 rfl ?_
        obtain ⟨p6, hp6, h⟩ := bind_sp h
        refine Exists.intro (some (.int p6.1)) (Exists.intro (mk X) (Exists.intro p6.2 (And.intro (cl_X10_makes (d + 1) hp6) ?_)))
        show Ex mr_X10_all sc (Cl MT pr sc (d + 2)) (rtE (some (.int r)) (mk X) σ2) (102, [(0, .ref 38), (1, .int x1), (2, .int x2), (3, .int x3), (4, .int x4), (5, .int x5)], [.int p6.1], mk X, p6.2)
        refine Ex.blk 1000 rfl ?_
        rcases ite_sp h with ⟨c3, h⟩ | ⟨c3, h⟩
        · refine And.intro (fun hp => absurd c3 hp) (fun _ => ?_)
          show Ex mr_X10_all sc (Cl MT pr sc (d + 2)) (rtE (some (.int r)) (mk X) σ2) (105, [(0, .ref 38), (1, .int x1), (2, .int x2), (3, .int x3), (4, .int x4), (5, .int x5)], [], mk X, p6.2)
          refine Ex.pick (lv' := _) [0, 1, 2, 3, 4] rfl ?_
          exact lk_X10_all_105 d _ _ hk39 ih _ _ _ _ _ h
        · refine And.intro (fun _ => ?_) (fun hn => absurd c3 hn)
          show Ex mr_X10_all sc (Cl MT pr sc (d + 2)) (rtE (some (.int r)) (mk X) σ2) (116, [(0, .ref 38), (1, .int x1), (2, .int x2), (3, .int x3), (4, .int x4), (5, .int x5)], [], mk X, p6.2)
          exact lk_X10_all_116 d _ hk39 _ _ _ _ _ _ h
theorem lk_X10_all_74 {pr : Ct} {sc : Nat × (Nat → Int32)} {X : En} (d : Nat) {r : Int32} {σ2 : St} (k39 : Int32 → Int32 → Int32 → Int32 → St → Option (Int32 × St)) (k48 : Int32 → Int32 → Int32 → Int32 → Int32 → St → Option (Int32 × St)) (hk39 : ∀ (x1 : Int32) (x2 : Int32) (x3 : Int32) (x4 : Int32) (σ : St), k39 x1 x2 x3 x4 σ = some (r, σ2) → Ex mr_X10_all sc (Cl MT pr sc (d + 2)) (rtE (some (.int r)) (mk X) σ2) (39, [(0, .ref 38), (1, .int x1), (2, .int x2), (3, .int x3), (4, .int x4)], [], mk X, σ)) (hk48 : ∀ (x1 : Int32) (x2 : Int32) (x3 : Int32) (x4 : Int32) (x5 : Int32) (σ : St), k48 x1 x2 x3 x4 x5 σ = some (r, σ2) → Ex mr_X10_all sc (Cl MT pr sc (d + 2)) (rtE (some (.int r)) (mk X) σ2) (48, [(0, .ref 38), (1, .int x1), (2, .int x2), (3, .int x3), (4, .int x4), (5, .int x5)], [], mk X, σ)) (x1 : Int32) (x2 : Int32) (x3 : Int32) (x4 : Int32) (x5 : Int32) (y0 : Int32) (y1 : Int32) (σ : St) (h : f_X10_all_74 k39 k48 x1 x2 x3 x4 x5 y0 y1 σ = some (r, σ2)) : Ex mr_X10_all sc (Cl MT pr sc (d + 2)) (rtE (some (.int r)) (mk X) σ2) (74, [(0, .ref 38), (1, .int x1), (2, .int x2), (3, .int x3), (4, .int x4), (5, .int x5)], [.int y0, .int y1, .ref 56], mk X, σ) := by
  unfold f_X10_all_74 at h
  refine Ex.blk 1 rfl ?_
  obtain ⟨g1, h⟩ := gd_some h
  refine And.intro (inb_ok g1) ?_
  show Ex mr_X10_all sc (Cl MT pr sc (d + 2)) (rtE (some (.int r)) (mk X) σ2) (75, [(0, .ref 38), (1, .int x1), (2, .int x2), (3, .int x3), (4, .int x4), (5, .int x5)], [], mk X, (sI σ 56 y1.toNatClampNeg y0))
  refine Ex.blk 1000 rfl ?_
  show Ex mr_X10_all sc (Cl MT pr sc (d + 2)) (rtE (some (.int r)) (mk X) σ2) (48, [(5, .int (x5 + 1)), (0, .ref 38), (1, .int x1), (2, .int x2), (3, .int x3), (4, .int x4)], [], mk X, (sI σ 56 y1.toNatClampNeg y0))
  refine Ex.pick (lv' := _) [1, 2, 3, 4, 5, 0] rfl ?_
  exact hk48 _ _ _ _ _ _ h
theorem lk_X10_all_48 {pr : Ct} {sc : Nat × (Nat → Int32)} {X : En} (d : Nat) {r : Int32} {σ2 : St} (k39 : Int32 → Int32 → Int32 → Int32 → St → Option (Int32 × St)) (hk39 : ∀ (x1 : Int32) (x2 : Int32) (x3 : Int32) (x4 : Int32) (σ : St), k39 x1 x2 x3 x4 σ = some (r, σ2) → Ex mr_X10_all sc (Cl MT pr sc (d + 2)) (rtE (some (.int r)) (mk X) σ2) (39, [(0, .ref 38), (1, .int x1), (2, .int x2), (3, .int x3), (4, .int x4)], [], mk X, σ)) : ∀ (n : Nat) (x1 : Int32) (x2 : Int32) (x3 : Int32) (x4 : Int32) (x5 : Int32) (σ : St), f_X10_all_48 k39 n x1 x2 x3 x4 x5 σ = some (r, σ2) → Ex mr_X10_all sc (Cl MT pr sc (d + 2)) (rtE (some (.int r)) (mk X) σ2) (48, [(0, .ref 38), (1, .int x1), (2, .int x2), (3, .int x3), (4, .int x4), (5, .int x5)], [], mk X, σ) := by
  intro n
  induction n with
  | zero =>
    intro x1 x2 x3 x4 x5 σ h
    cases h
  | succ n ih =>
    intro x1 x2 x3 x4 x5 σ h
    simp only [f_X10_all_48] at h
    refine Ex.blk 1000 rfl ?_
    rcases ite_sp h with ⟨c1, h⟩ | ⟨c1, h⟩
    · refine And.intro (fun _ => ?_) (fun hn => absurd c1 hn)
      show Ex mr_X10_all sc (Cl MT pr sc (d + 2)) (rtE (some (.int r)) (mk X) σ2) (81, [(0, .ref 38), (1, .int x1), (2, .int x2), (3, .int x3), (4, .int x4), (5, .int x5)], [], mk X, σ)
      refine Ex.blk 1000 rfl ?_
      show Ex mr_X10_all sc (Cl MT pr sc (d + 2)) (rtE (some (.int r)) (mk X) σ2) (84, [(5, .int 1), (0, .ref 38), (1, .int x1), (2, .int x2), (3, .int x3), (4, .int x4)], [], mk X, σ)
      refine Ex.pick (lv' := _) [1, 2, 3, 4, 5, 0] rfl ?_
      exact lk_X10_all_84 d _ hk39 FU _ _ _ _ _ _ h
    · refine And.intro (fun hp => absurd hp c1) (fun _ => ?_)
      show Ex mr_X10_all sc (Cl MT pr sc (d + 2)) (rtE (some (.int r)) (mk X) σ2) (55, [(0, .ref 38), (1, .int x1), (2, .int x2), (3, .int x3), (4, .int x4), (5, .int x5)], [], mk X, σ)
      refine Ex.blk 5 rfl ?_
      show Ex mr_X10_all sc (Cl MT pr sc (d + 2)) (rtE (some (.int r)) (mk X) σ2) (65, [(0, .ref 38), (1, .int x1), (2, .int x2), (3, .int x3), (4, .int x4), (5, .int x5)], [.int 9, .int x5, .int x5, .ref 56], mk X, σ)
      refine Ex.blk 1000 rfl ?_
      rcases ite_sp h with ⟨c2, h⟩ | ⟨c2, h⟩
      · refine And.intro (fun hp => absurd c2 hp) (fun _ => ?_)
        show Ex mr_X10_all sc (Cl MT pr sc (d + 2)) (rtE (some (.int r)) (mk X) σ2) (68, [(0, .ref 38), (1, .int x1), (2, .int x2), (3, .int x3), (4, .int x4), (5, .int x5)], [.int x5, .ref 56], mk X, σ)
        refine Ex.blk 1000 rfl ?_
        show Ex mr_X10_all sc (Cl MT pr sc (d + 2)) (rtE (some (.int r)) (mk X) σ2) (74, [(0, .ref 38), (1, .int x1), (2, .int x2), (3, .int x3), (4, .int x4), (5, .int x5)], [.int x4, .int x5, .ref 56], mk X, σ)
        exact lk_X10_all_74 d _ _ hk39 ih _ _ _ _ _ _ _ _ h
      · refine And.intro (fun _ => ?_) (fun hn => absurd c2 hn)
        show Ex mr_X10_all sc (Cl MT pr sc (d + 2)) (rtE (some (.int r)) (mk X) σ2) (73, [(0, .ref 38), (1, .int x1), (2, .int x2), (3, .int x3), (4, .int x4), (5, .int x5)], [.int x5, .ref 56], mk X, σ)
        refine Ex.blk 1000 rfl ?_
        show Ex mr_X10_all sc (Cl MT pr sc (d + 2)) (rtE (some (.int r)) (mk X) σ2) (74, [(0, .ref 38), (1, .int x1), (2, .int x2), (3, .int x3), (4, .int x4), (5, .int x5)], [.int 0, .int x5, .ref 56], mk X, σ)
        exact lk_X10_all_74 d _ _ hk39 ih _ _ _ _ _ _ _ _ h
theorem lk_X10_all_39 {pr : Ct} {sc : Nat × (Nat → Int32)} {X : En} (d : Nat) {r : Int32} {σ2 : St} : ∀ (n : Nat) (x1 : Int32) (x2 : Int32) (x3 : Int32) (x4 : Int32) (σ : St), f_X10_all_39 n x1 x2 x3 x4 σ = some (r, σ2) → Ex mr_X10_all sc (Cl MT pr sc (d + 2)) (rtE (some (.int r)) (mk X) σ2) (39, [(0, .ref 38), (1, .int x1), (2, .int x2), (3, .int x3), (4, .int x4)], [], mk X, σ) := by
  intro n
  induction n with
  | zero =>
    intro x1 x2 x3 x4 σ h
    cases h
  | succ n ih =>
    intro x1 x2 x3 x4 σ h
    simp only [f_X10_all_39] at h
    refine Ex.blk 1000 rfl ?_
    rcases ite_sp h with ⟨c1, h⟩ | ⟨c1, h⟩
    · refine And.intro (fun _ => ?_) (fun hn => absurd c1 hn)
      show Ex mr_X10_all sc (Cl MT pr sc (d + 2)) (rtE (some (.int r)) (mk X) σ2) (173, [(0, .ref 38), (1, .int x1), (2, .int x2), (3, .int x3), (4, .int x4)], [], mk X, σ)
      refine Ex.blk 1000 rfl ?_
      cases h
      exact And.intro trivial ⟨rfl, rfl, rfl⟩
    · refine And.intro (fun hp => absurd hp c1) (fun _ => ?_)
      show Ex mr_X10_all sc (Cl MT pr sc (d + 2)) (rtE (some (.int r)) (mk X) σ2) (45, [(0, .ref 38), (1, .int x1), (2, .int x2), (3, .int x3), (4, .int x4)], [], mk X, σ)
      refine Ex.blk 1000 rfl ?_
      show Ex mr_X10_all sc (Cl MT pr sc (d + 2)) (rtE (some (.int r)) (mk X) σ2) (48, [(5, .int 1), (0, .ref 38), (1, .int x1), (2, .int x2), (3, .int x3), (4, .int x4)], [], mk X, σ)
      refine Ex.pick (lv' := _) [1, 2, 3, 4, 5, 0] rfl ?_
      exact lk_X10_all_48 d _ ih FU _ _ _ _ _ _ h
theorem cl_X10_all {pr : Ct} {sc : Nat × (Nat → Int32)} {X : En} (d : Nat) {r : Int32} {σ2 : St} {x1 : Int32} {x2 : Int32} {x3 : Int32} {σ : St} (h : f_X10_all x1 x2 x3 σ = some (r, σ2)) : Cl MT pr sc (d + 2 + 1) 221 [.ref 38, .int x1, .int x2, .int x3] (mk X) σ (some (.int r)) (mk X) σ2 := by
  refine cl_of mr_X10_all rfl rfl ?_
  unfold f_X10_all at h
  refine Ex.blk 5 rfl ?_
  obtain ⟨p1, hp1, h⟩ := bind_sp h
  refine Exists.intro (some (.int p1.1)) (Exists.intro (mk X) (Exists.intro p1.2 (And.intro (cl_X10_in (d + 1) hp1) ?_)))
  show Ex mr_X10_all sc (Cl MT pr sc (d + 2)) (rtE (some (.int r)) (mk X) σ2) (9, [(0, .ref 38), (1, .int x1), (2, .int x2), (3, .int x3)], [.int p1.1], mk X, p1.2)
  refine Ex.blk 1000 rfl ?_
  rcases ite_sp h with ⟨c1, h⟩ | ⟨c1, h⟩
  · refine And.intro (fun _ => ?_) (fun hn => absurd c1 hn)
    show Ex mr_X10_all sc (Cl MT pr sc (d + 2)) (rtE (some (.int r)) (mk X) σ2) (34, [(0, .ref 38), (1, .int x1), (2, .int x2), (3, .int x3)], [], mk X, p1.2)
    refine Ex.pick (lv' := _) [] rfl ?_
    exact lk_X10_all_34 d _ h
  · refine And.intro (fun hp => absurd hp c1) (fun _ => ?_)
    show Ex mr_X10_all sc (Cl MT pr sc (d + 2)) (rtE (some (.int r)) (mk X) σ2) (12, [(0, .ref 38), (1, .int x1), (2, .int x2), (3, .int x3)], [], mk X, p1.2)
    refine Ex.blk 5 rfl ?_
    obtain ⟨p2, hp2, h⟩ := bind_sp h
    refine Exists.intro (some (.int p2.1)) (Exists.intro (mk X) (Exists.intro p2.2 (And.intro (cl_X10_in (d + 1) hp2) ?_)))
    show Ex mr_X10_all sc (Cl MT pr sc (d + 2)) (rtE (some (.int r)) (mk X) σ2) (21, [(0, .ref 38), (1, .int x1), (2, .int x2), (3, .int x3)], [.int p2.1], mk X, p2.2)
    refine Ex.blk 1000 rfl ?_
    rcases ite_sp h with ⟨c2, h⟩ | ⟨c2, h⟩
    · refine And.intro (fun _ => ?_) (fun hn => absurd c2 hn)
      show Ex mr_X10_all sc (Cl MT pr sc (d + 2)) (rtE (some (.int r)) (mk X) σ2) (34, [(0, .ref 38), (1, .int x1), (2, .int x2), (3, .int x3)], [], mk X, p2.2)
      refine Ex.pick (lv' := _) [] rfl ?_
      exact lk_X10_all_34 d _ h
    · refine And.intro (fun hp => absurd hp c2) (fun _ => ?_)
      show Ex mr_X10_all sc (Cl MT pr sc (d + 2)) (rtE (some (.int r)) (mk X) σ2) (24, [(0, .ref 38), (1, .int x1), (2, .int x2), (3, .int x3)], [], mk X, p2.2)
      refine Ex.blk 5 rfl ?_
      obtain ⟨p3, hp3, h⟩ := bind_sp h
      refine Exists.intro (some (.int p3.1)) (Exists.intro (mk X) (Exists.intro p3.2 (And.intro (cl_X10_in (d + 1) hp3) ?_)))
      show Ex mr_X10_all sc (Cl MT pr sc (d + 2)) (rtE (some (.int r)) (mk X) σ2) (31, [(0, .ref 38), (1, .int x1), (2, .int x2), (3, .int x3)], [.int p3.1], mk X, p3.2)
      refine Ex.blk 1000 rfl ?_
      rcases ite_sp h with ⟨c3, h⟩ | ⟨c3, h⟩
      · refine And.intro (fun hp => absurd c3 hp) (fun _ => ?_)
        show Ex mr_X10_all sc (Cl MT pr sc (d + 2)) (rtE (some (.int r)) (mk X) σ2) (34, [(0, .ref 38), (1, .int x1), (2, .int x2), (3, .int x3)], [], mk X, p3.2)
        refine Ex.pick (lv' := _) [] rfl ?_
        exact lk_X10_all_34 d _ h
      · refine And.intro (fun _ => ?_) (fun hn => absurd c3 hn)
        show Ex mr_X10_all sc (Cl MT pr sc (d + 2)) (rtE (some (.int r)) (mk X) σ2) (36, [(0, .ref 38), (1, .int x1), (2, .int x2), (3, .int x3)], [], mk X, p3.2)
        refine Ex.blk 1000 rfl ?_
        show Ex mr_X10_all sc (Cl MT pr sc (d + 2)) (rtE (some (.int r)) (mk X) σ2) (39, [(4, .int 1), (0, .ref 38), (1, .int x1), (2, .int x2), (3, .int x3)], [], mk X, p3.2)
        refine Ex.pick (lv' := _) [1, 2, 3, 4, 0] rfl ?_
        exact lk_X10_all_39 d FU _ _ _ _ _ h
theorem lk_X10_begin_58 {pr : Ct} {sc : Nat × (Nat → Int32)} {X : En} (d : Nat) {σ2 : St} : ∀ (n : Nat) (x2 : Int32) (σ : St), f_X10_begin_58 n x2 σ = some σ2 → Ex mr_X10_begin sc (Cl MT pr sc (d + 0)) (rtE none (mk X) σ2) (58, [(0, .ref 38), (2, .int x2)], [], mk X, σ) := by
  intro n
  induction n with
  | zero =>
    intro x2 σ h
    cases h
  | succ n ih =>
    intro x2 σ h
    simp only [f_X10_begin_58] at h
    refine Ex.blk 1000 rfl ?_
    rcases ite_sp h with ⟨c1, h⟩ | ⟨c1, h⟩
    · refine And.intro (fun _ => ?_) (fun hn => absurd c1 hn)
      show Ex mr_X10_begin sc (Cl MT pr sc (d + 0)) (rtE none (mk X) σ2) (84, [(0, .ref 38), (2, .int x2)], [], mk X, σ)
      refine Ex.blk 1000 rfl ?_
      cases h
      exact And.intro trivial ⟨rfl, rfl, rfl⟩
    · refine And.intro (fun hp => absurd hp c1) (fun _ => ?_)
      show Ex mr_X10_begin sc (Cl MT pr sc (d + 0)) (rtE none (mk X) σ2) (64, [(0, .ref 38), (2, .int x2)], [], mk X, σ)
      refine Ex.blk 5 rfl ?_
      show Ex mr_X10_begin sc (Cl MT pr sc (d + 0)) (rtE none (mk X) σ2) (73, [(0, .ref 38), (2, .int x2)], [.ref 46, .int x2, .ref 47], mk X, σ)
      refine Ex.blk 4 rfl ?_
      obtain ⟨g2, h⟩ := gd_some h
      refine And.intro (inb_ok g2) ?_
      show Ex mr_X10_begin sc (Cl MT pr sc (d + 0)) (rtE none (mk X) σ2) (77, [(0, .ref 38), (2, .int x2)], [.int (gI σ 46 (0 + x2).toNatClampNeg), .int x2, .ref 47], mk X, σ)
      refine Ex.blk 1 rfl ?_
      obtain ⟨g3, h⟩ := gd_some h
      refine And.intro (inb_ok g3) ?_
      show Ex mr_X10_begin sc (Cl MT pr sc (d + 0)) (rtE none (mk X) σ2) (78, [(0, .ref 38), (2, .int x2)], [], mk X, (sI σ 47 x2.toNatClampNeg (gI σ 46 (0 + x2).toNatClampNeg)))
      refine Ex.blk 1000 rfl ?_
      show Ex mr_X10_begin sc (Cl MT pr sc (d + 0)) (rtE none (mk X) σ2) (58, [(2, .int (x2 + 1)), (0, .ref 38)], [], mk X, (sI σ 47 x2.toNatClampNeg (gI σ 46 (0 + x2).toNatClampNeg)))
      refine Ex.pick (lv' := _) [1, 0] rfl ?_
      exact ih _ _ h
theorem lk_X10_begin_49 {pr : Ct} {sc : Nat × (Nat → Int32)} {X : En} (d : Nat) {σ2 : St} (k12 : Int32 → Int32 → St → Option (St)) (hk12 : ∀ (x1 : Int32) (x2 : Int32) (σ : St), k12 x1 x2 σ = some σ2 → Ex mr_X10_begin sc (Cl MT pr sc (d + 0)) (rtE none (mk X) σ2) (12, [(0, .ref 38), (1, .int x1), (2, .int x2)], [], mk X, σ)) (x1 : Int32) (x2 : Int32) (y0 : Int32) (y1 : Int32) (σ : St) (h : f_X10_begin_49 k12 x1 x2 y0 y1 σ = some σ2) : Ex mr_X10_begin sc (Cl MT pr sc (d + 0)) (rtE none (mk X) σ2) (49, [(0, .ref 38), (1, .int x1), (2, .int x2)], [.int y0, .int y1, .ref 46], mk X, σ) := by
  unfold f_X10_begin_49 at h
  refine Ex.blk 1 rfl ?_
  obtain ⟨g1, h⟩ := gd_some h
  refine And.intro (inb_ok g1) ?_
  show Ex mr_X10_begin sc (Cl MT pr sc (d + 0)) (rtE none (mk X) σ2) (50, [(0, .ref 38), (1, .int x1), (2, .int x2)], [], mk X, (sI σ 46 y1.toNatClampNeg y0))
  refine Ex.blk 1000 rfl ?_
  show Ex mr_X10_begin sc (Cl MT pr sc (d + 0)) (rtE none (mk X) σ2) (12, [(2, .int (x2 + 1)), (0, .ref 38), (1, .int x1)], [], mk X, (sI σ 46 y1.toNatClampNeg y0))
  refine Ex.pick (lv' := _) [1, 2, 0] rfl ?_
  exact hk12 _ _ _ h
theorem lk_X10_begin_12 {pr : Ct} {sc : Nat × (Nat → Int32)} {X : En} (d : Nat) {σ2 : St} : ∀ (n : Nat) (x1 : Int32) (x2 : Int32) (σ : St), f_X10_begin_12 n x1 x2 σ = some σ2 → Ex mr_X10_begin sc (Cl MT pr sc (d + 0)) (rtE none (mk X) σ2) (12, [(0, .ref 38), (1, .int x1), (2, .int x2)], [], mk X, σ) := by
  intro n
  induction n with
  | zero =>
    intro x1 x2 σ h
    cases h
  | succ n ih =>
    intro x1 x2 σ h
    simp only [f_X10_begin_12] at h
    refine Ex.blk 1000 rfl ?_
    rcases ite_sp h with ⟨c1, h⟩ | ⟨c1, h⟩
    · refine And.intro (fun _ => ?_) (fun hn => absurd c1 hn)
      show Ex mr_X10_begin sc (Cl MT pr sc (d + 0)) (rtE none (mk X) σ2) (56, [(0, .ref 38), (1, .int x1), (2, .int x2)], [], mk X, σ)
      refine Ex.blk 1000 rfl ?_
      show Ex mr_X10_begin sc (Cl MT pr sc (d + 0)) (rtE none (mk X) σ2) (58, [(2, .int 0), (0, .ref 38), (1, .int x1)], [], mk X, σ)
      refine Ex.pick (lv' := _) [1, 0] rfl ?_
      exact lk_X10_begin_58 d FU _ _ h
    · refine And.intro (fun hp => absurd hp c1) (fun _ => ?_)
      show Ex mr_X10_begin sc (Cl MT pr sc (d + 0)) (rtE none (mk X) σ2) (18, [(0, .ref 38), (1, .int x1), (2, .int x2)], [], mk X, σ)
      refine Ex.blk 5 rfl ?_
      show Ex mr_X10_begin sc (Cl MT pr sc (d + 0)) (rtE none (mk X) σ2) (27, [(0, .ref 38), (1, .int x1), (2, .int x2)], [.ref 46, .int x2, .ref 57], mk X, σ)
      refine Ex.blk 2 rfl ?_
      obtain ⟨g2, h⟩ := gd_some h
      refine And.intro (inb_ok g2) ?_
      show Ex mr_X10_begin sc (Cl MT pr sc (d + 0)) (rtE none (mk X) σ2) (29, [(0, .ref 38), (1, .int x1), (2, .int x2)], [.int (gI σ 46 x2.toNatClampNeg), .int x2, .ref 57], mk X, σ)
      refine Ex.blk 1 rfl ?_
      obtain ⟨g3, h⟩ := gd_some h
      refine And.intro (inb_ok g3) ?_
      show Ex mr_X10_begin sc (Cl MT pr sc (d + 0)) (rtE none (mk X) σ2) (30, [(0, .ref 38), (1, .int x1), (2, .int x2)], [], mk X, (sI σ 57 x2.toNatClampNeg (gI σ 46 x2.toNatClampNeg)))
      refine Ex.blk 1000 rfl ?_
      rcases ite_sp h with ⟨c4, h⟩ | ⟨c4, h⟩
      · refine And.intro (fun _ => ?_) (fun hn => absurd c4 hn)
        show Ex mr_X10_begin sc (Cl MT pr sc (d + 0)) (rtE none (mk X) σ2) (43, [(0, .ref 38), (1, .int x1), (2, .int x2)], [.int x2, .ref 46], mk X, (sI σ 57 x2.toNatClampNeg (gI σ 46 x2.toNatClampNeg)))
        refine Ex.blk 4 rfl ?_
        obtain ⟨g5, h⟩ := gd_some h
        refine And.intro (inb_ok g5) ?_
        show Ex mr_X10_begin sc (Cl MT pr sc (d + 0)) (rtE none (mk X) σ2) (49, [(0, .ref 38), (1, .int x1), (2, .int x2)], [.int (gI (sI σ 57 x2.toNatClampNeg (gI σ 46 x2.toNatClampNeg)) 46 x2.toNatClampNeg), .int x2, .ref 46], mk X, (sI σ 57 x2.toNatClampNeg (gI σ 46 x2.toNatClampNeg)))
        exact lk_X10_begin_49 d _ ih _ _ _ _ _ h
      · refine And.intro (fun hp => absurd hp c4) (fun _ => ?_)
        show Ex mr_X10_begin sc (Cl MT pr sc (d + 0)) (rtE none (mk X) σ2) (39, [(0, .ref 38), (1, .int x1), (2, .int x2)], [.int x2, .ref 46], mk X, (sI σ 57 x2.toNatClampNeg (gI σ 46 x2.toNatClampNeg)))
        refine Ex.blk 1000 rfl ?_
        show Ex mr_X10_begin sc (Cl MT pr sc (d + 0)) (rtE none (mk X) σ2) (49, [(0, .ref 38), (1, .int x1), (2, .int x2)], [.int 0, .int x2, .ref 46], mk X, (sI σ 57 x2.toNatClampNeg (gI σ 46 x2.toNatClampNeg)))
        exact lk_X10_begin_49 d _ ih _ _ _ _ _ h
theorem cl_X10_begin {pr : Ct} {sc : Nat × (Nat → Int32)} {X : En} (d : Nat) {σ2 : St} {x1 : Int32} {σ : St} (h : f_X10_begin x1 σ = some σ2) : Cl MT pr sc (d + 0 + 1) 222 [.ref 38, .int x1] (mk X) σ none (mk X) σ2 := by
  refine cl_of mr_X10_begin rfl rfl ?_
  unfold f_X10_begin at h
  refine Ex.blk 3 rfl ?_
  refine And.intro (isb_1) ?_
  show Ex mr_X10_begin sc (Cl MT pr sc (d + 0)) (rtE none (mk X) σ2) (5, [(0, .ref 38), (1, .int x1)], [], mk X, (sI σ 38 21 1))
  refine Ex.blk 3 rfl ?_
  obtain ⟨g1, h⟩ := gd_some h
  refine And.intro (isbb_ok g1) ?_
  show Ex mr_X10_begin sc (Cl MT pr sc (d + 0)) (rtE none (mk X) σ2) (10, [(0, .ref 38), (1, .int x1)], [], mk X, (sI (sI σ 38 21 1) 38 22 x1))
  refine Ex.blk 1000 rfl ?_
  show Ex mr_X10_begin sc (Cl MT pr sc (d + 0)) (rtE none (mk X) σ2) (12, [(2, .int 0), (0, .ref 38), (1, .int x1)], [], mk X, (sI (sI σ 38 21 1) 38 22 x1))
  refine Ex.pick (lv' := _) [1, 2, 0] rfl ?_
  exact lk_X10_begin_12 d FU _ _ _ h
theorem lk_X10_over_2 {pr : Ct} {sc : Nat × (Nat → Int32)} {X : En} (d : Nat) {σ2 : St} : ∀ (n : Nat) (x1 : Int32) (σ : St), f_X10_over_2 n x1 σ = some σ2 → Ex mr_X10_over sc (Cl MT pr sc (d + 0)) (rtE none (mk X) σ2) (2, [(0, .ref 38), (1, .int x1)], [], mk X, σ) := by
  intro n
  induction n with
  | zero =>
    intro x1 σ h
    cases h
  | succ n ih =>
    intro x1 σ h
    simp only [f_X10_over_2] at h
    refine Ex.blk 1000 rfl ?_
    rcases ite_sp h with ⟨c1, h⟩ | ⟨c1, h⟩
    · refine And.intro (fun _ => ?_) (fun hn => absurd c1 hn)
      show Ex mr_X10_over sc (Cl MT pr sc (d + 0)) (rtE none (mk X) σ2) (26, [(0, .ref 38), (1, .int x1)], [], mk X, σ)
      refine Ex.blk 3 rfl ?_
      refine And.intro (isb_0) ?_
      show Ex mr_X10_over sc (Cl MT pr sc (d + 0)) (rtE none (mk X) σ2) (31, [(0, .ref 38), (1, .int x1)], [], mk X, (sI σ 38 21 0))
      refine Ex.blk 3 rfl ?_
      refine And.intro (isb_0) ?_
      show Ex mr_X10_over sc (Cl MT pr sc (d + 0)) (rtE none (mk X) σ2) (36, [(0, .ref 38), (1, .int x1)], [], mk X, (sI (sI σ 38 21 0) 38 22 0))
      refine Ex.blk 1000 rfl ?_
      cases h
      exact And.intro trivial ⟨rfl, rfl, rfl⟩
    · refine And.intro (fun hp => absurd hp c1) (fun _ => ?_)
      show Ex mr_X10_over sc (Cl MT pr sc (d + 0)) (rtE none (mk X) σ2) (8, [(0, .ref 38), (1, .int x1)], [], mk X, σ)
      refine Ex.blk 5 rfl ?_
      show Ex mr_X10_over sc (Cl MT pr sc (d + 0)) (rtE none (mk X) σ2) (17, [(0, .ref 38), (1, .int x1)], [.ref 57, .int x1, .ref 46], mk X, σ)
      refine Ex.blk 2 rfl ?_
      obtain ⟨g2, h⟩ := gd_some h
      refine And.intro (inb_ok g2) ?_
      show Ex mr_X10_over sc (Cl MT pr sc (d + 0)) (rtE none (mk X) σ2) (19, [(0, .ref 38), (1, .int x1)], [.int (gI σ 57 x1.toNatClampNeg), .int x1, .ref 46], mk X, σ)
      refine Ex.blk 1 rfl ?_
      obtain ⟨g3, h⟩ := gd_some h
      refine And.intro (inb_ok g3) ?_
      show Ex mr_X10_over sc (Cl MT pr sc (d + 0)) (rtE none (mk X) σ2) (20, [(0, .ref 38), (1, .int x1)], [], mk X, (sI σ 46 x1.toNatClampNeg (gI σ 57 x1.toNatClampNeg)))
      refine Ex.blk 1000 rfl ?_
      show Ex mr_X10_over sc (Cl MT pr sc (d + 0)) (rtE none (mk X) σ2) (2, [(1, .int (x1 + 1)), (0, .ref 38)], [], mk X, (sI σ 46 x1.toNatClampNeg (gI σ 57 x1.toNatClampNeg)))
      refine Ex.pick (lv' := _) [1, 0] rfl ?_
      exact ih _ _ h
theorem cl_X10_over {pr : Ct} {sc : Nat × (Nat → Int32)} {X : En} (d : Nat) {σ2 : St} {σ : St} (h : f_X10_over σ = some σ2) : Cl MT pr sc (d + 0 + 1) 223 [.ref 38] (mk X) σ none (mk X) σ2 := by
  refine cl_of mr_X10_over rfl rfl ?_
  unfold f_X10_over at h
  refine Ex.blk 1000 rfl ?_
  show Ex mr_X10_over sc (Cl MT pr sc (d + 0)) (rtE none (mk X) σ2) (2, [(1, .int 0), (0, .ref 38)], [], mk X, σ)
  refine Ex.pick (lv' := _) [1, 0] rfl ?_
  exact lk_X10_over_2 d FU _ _ h
theorem lk_X10_tried_20 {pr : Ct} {sc : Nat × (Nat → Int32)} {X : En} (d : Nat) {r : Int64} {σ2 : St} (σ : St) (h : f_X10_tried_20 σ = some (r, σ2)) : Ex mr_X10_tried sc (Cl MT pr sc (d + 4)) (rtE (some (.long r)) (mk X) σ2) (20, [], [], mk X, σ) := by
  unfold f_X10_tried_20 at h
  refine Ex.blk 1000 rfl ?_
  cases h
  exact And.intro trivial ⟨rfl, rfl, rfl⟩
theorem lk_X10_tried_102 {pr : Ct} {sc : Nat × (Nat → Int32)} {X : En} (d : Nat) {r : Int64} {σ2 : St} (y0 : Int64) (σ : St) (h : f_X10_tried_102 y0 σ = some (r, σ2)) : Ex mr_X10_tried sc (Cl MT pr sc (d + 4)) (rtE (some (.long r)) (mk X) σ2) (102, [(0, .ref 38)], [.long y0], mk X, σ) := by
  unfold f_X10_tried_102 at h
  refine Ex.blk 3 rfl ?_
  obtain ⟨p5, hp5, h⟩ := bind_sp h
  refine Exists.intro none (Exists.intro (mk X) (Exists.intro p5 (And.intro (cl_X10_over (d + 3) hp5) ?_)))
  show Ex mr_X10_tried sc (Cl MT pr sc (d + 4)) (rtE (some (.long r)) (mk X) σ2) (108, [(4, .long y0), (0, .ref 38)], [], mk X, p5)
  refine Ex.blk 1000 rfl ?_
  cases h
  exact And.intro trivial ⟨rfl, rfl, rfl⟩
theorem lk_X10_tried_76 {pr : Ct} {sc : Nat × (Nat → Int32)} {X : En} (d : Nat) {r : Int64} {σ2 : St} (x2 : Int32) (y0 : Int32) (σ : St) (h : f_X10_tried_76 x2 y0 σ = some (r, σ2)) : Ex mr_X10_tried sc (Cl MT pr sc (d + 4)) (rtE (some (.long r)) (mk X) σ2) (76, [(0, .ref 38), (2, .int x2)], [.int y0], mk X, σ) := by
  unfold f_X10_tried_76 at h
  refine Ex.blk 1000 rfl ?_
  rcases ite_sp h with ⟨c1, h⟩ | ⟨c1, h⟩
  · refine And.intro (fun hp => absurd c1 hp) (fun _ => ?_)
    show Ex mr_X10_tried sc (Cl MT pr sc (d + 4)) (rtE (some (.long r)) (mk X) σ2) (81, [(3, .int y0), (0, .ref 38), (2, .int x2)], [], mk X, σ)
    refine Ex.blk 2 rfl ?_
    obtain ⟨p6, hp6, h⟩ := bind_sp h
    refine Exists.intro (some (.long p6.1)) (Exists.intro (mk X) (Exists.intro p6.2 (And.intro (cl_X10_number (d + 3) hp6) ?_)))
    show Ex mr_X10_tried sc (Cl MT pr sc (d + 4)) (rtE (some (.long r)) (mk X) σ2) (85, [(3, .int y0), (0, .ref 38), (2, .int x2)], [.long p6.1], mk X, p6.2)
    refine Ex.blk 1000 rfl ?_
    show Ex mr_X10_tried sc (Cl MT pr sc (d + 4)) (rtE (some (.long r)) (mk X) σ2) (102, [(3, .int y0), (0, .ref 38), (2, .int x2)], [.long p6.1], mk X, p6.2)
    refine Ex.pick (lv' := _) [1] rfl ?_
    exact lk_X10_tried_102 d _ _ h
  · refine And.intro (fun _ => ?_) (fun hn => absurd c1 hn)
    show Ex mr_X10_tried sc (Cl MT pr sc (d + 4)) (rtE (some (.long r)) (mk X) σ2) (88, [(3, .int y0), (0, .ref 38), (2, .int x2)], [], mk X, σ)
    refine Ex.blk 4 rfl ?_
    obtain ⟨g2, h⟩ := gd_some h
    refine And.intro (inb_ok g2) ?_
    show Ex mr_X10_tried sc (Cl MT pr sc (d + 4)) (rtE (some (.long r)) (mk X) σ2) (94, [(3, .int y0), (0, .ref 38), (2, .int x2)], [.int (gI σ 46 y0.toNatClampNeg)], mk X, σ)
    refine Ex.blk 4 rfl ?_
    obtain ⟨g3, h⟩ := gd_some h
    refine And.intro (inb_ok g3) ?_
    show Ex mr_X10_tried sc (Cl MT pr sc (d + 4)) (rtE (some (.long r)) (mk X) σ2) (100, [(3, .int y0), (0, .ref 38), (2, .int x2)], [.int (gI σ 57 y0.toNatClampNeg), .int (gI σ 46 y0.toNatClampNeg)], mk X, σ)
    refine Ex.blk 1000 rfl ?_
    show Ex mr_X10_tried sc (Cl MT pr sc (d + 4)) (rtE (some (.long r)) (mk X) σ2) (102, [(3, .int y0), (0, .ref 38), (2, .int x2)], [.long ((gI σ 46 y0.toNatClampNeg) - (gI σ 57 y0.toNatClampNeg)).toInt64], mk X, σ)
    refine Ex.pick (lv' := _) [1] rfl ?_
    exact lk_X10_tried_102 d _ _ h
theorem cl_X10_tried {pr : Ct} {sc : Nat × (Nat → Int32)} {X : En} (d : Nat) {r : Int64} {σ2 : St} {x1 : Int32} {x2 : Int32} {σ : St} (h : f_X10_tried x1 x2 σ = some (r, σ2)) : Cl MT pr sc (d + 4 + 1) 224 [.ref 38, .int x1, .int x2] (mk X) σ (some (.long r)) (mk X) σ2 := by
  refine cl_of mr_X10_tried rfl rfl ?_
  unfold f_X10_tried at h
  refine Ex.blk 3 rfl ?_
  obtain ⟨p1, hp1, h⟩ := bind_sp h
  refine Exists.intro (some (.int p1.1)) (Exists.intro (mk X) (Exists.intro p1.2 (And.intro (cl_X10_isSum (d + 2) hp1) ?_)))
  show Ex mr_X10_tried sc (Cl MT pr sc (d + 4)) (rtE (some (.long r)) (mk X) σ2) (5, [(0, .ref 38), (1, .int x1), (2, .int x2)], [.int p1.1], mk X, p1.2)
  refine Ex.blk 1000 rfl ?_
  rcases ite_sp h with ⟨c1, h⟩ | ⟨c1, h⟩
  · refine And.intro (fun _ => ?_) (fun hn => absurd c1 hn)
    show Ex mr_X10_tried sc (Cl MT pr sc (d + 4)) (rtE (some (.long r)) (mk X) σ2) (20, [(0, .ref 38), (1, .int x1), (2, .int x2)], [], mk X, p1.2)
    refine Ex.pick (lv' := _) [] rfl ?_
    exact lk_X10_tried_20 d _ h
  · refine And.intro (fun hp => absurd hp c1) (fun _ => ?_)
    show Ex mr_X10_tried sc (Cl MT pr sc (d + 4)) (rtE (some (.long r)) (mk X) σ2) (8, [(0, .ref 38), (1, .int x1), (2, .int x2)], [], mk X, p1.2)
    refine Ex.blk 5 rfl ?_
    obtain ⟨p2, hp2, h⟩ := bind_sp h
    refine Exists.intro (some (.int p2.1)) (Exists.intro (mk X) (Exists.intro p2.2 (And.intro (cl_X10_in (d + 3) hp2) ?_)))
    show Ex mr_X10_tried sc (Cl MT pr sc (d + 4)) (rtE (some (.long r)) (mk X) σ2) (17, [(0, .ref 38), (1, .int x1), (2, .int x2)], [.int p2.1], mk X, p2.2)
    refine Ex.blk 1000 rfl ?_
    rcases ite_sp h with ⟨c2, h⟩ | ⟨c2, h⟩
    · refine And.intro (fun hp => absurd c2 hp) (fun _ => ?_)
      show Ex mr_X10_tried sc (Cl MT pr sc (d + 4)) (rtE (some (.long r)) (mk X) σ2) (20, [(0, .ref 38), (1, .int x1), (2, .int x2)], [], mk X, p2.2)
      refine Ex.pick (lv' := _) [] rfl ?_
      exact lk_X10_tried_20 d _ h
    · refine And.intro (fun _ => ?_) (fun hn => absurd c2 hn)
      show Ex mr_X10_tried sc (Cl MT pr sc (d + 4)) (rtE (some (.long r)) (mk X) σ2) (24, [(0, .ref 38), (1, .int x1), (2, .int x2)], [], mk X, p2.2)
      refine Ex.blk 3 rfl ?_
      obtain ⟨p3, hp3, h⟩ := bind_sp h
      refine Exists.intro none (Exists.intro (mk X) (Exists.intro p3 (And.intro (cl_X10_begin (d + 3) hp3) ?_)))
      show Ex mr_X10_tried sc (Cl MT pr sc (d + 4)) (rtE (some (.long r)) (mk X) σ2) (29, [(0, .ref 38), (1, .int x1), (2, .int x2)], [], mk X, p3)
      refine Ex.blk 3 rfl ?_
      obtain ⟨p4, hp4, h⟩ := bind_sp h
      refine Exists.intro none (Exists.intro (mk X) (Exists.intro p4 (And.intro (cl_X10_runOf (d + 0) hp4) ?_)))
      show Ex mr_X10_tried sc (Cl MT pr sc (d + 4)) (rtE (some (.long r)) (mk X) σ2) (34, [(0, .ref 38), (1, .int x1), (2, .int x2)], [], mk X, p4)
      refine Ex.blk 1000 rfl ?_
      rcases ite_sp h with ⟨c3, h⟩ | ⟨c3, h⟩
      · refine And.intro (fun hp => absurd c3 hp) (fun _ => ?_)
        show Ex mr_X10_tried sc (Cl MT pr sc (d + 4)) (rtE (some (.long r)) (mk X) σ2) (39, [(0, .ref 38), (1, .int x1), (2, .int x2)], [], mk X, p4)
        refine Ex.blk 1000 rfl ?_
        show Ex mr_X10_tried sc (Cl MT pr sc (d + 4)) (rtE (some (.long r)) (mk X) σ2) (76, [(0, .ref 38), (1, .int x1), (2, .int x2)], [.int 12], mk X, p4)
        refine Ex.pick (lv' := _) [0, 2] rfl ?_
        exact lk_X10_tried_76 d _ _ _ h
      · refine And.intro (fun _ => ?_) (fun hn => absurd c3 hn)
        show Ex mr_X10_tried sc (Cl MT pr sc (d + 4)) (rtE (some (.long r)) (mk X) σ2) (44, [(0, .ref 38), (1, .int x1), (2, .int x2)], [], mk X, p4)
        refine Ex.blk 1000 rfl ?_
        rcases ite_sp h with ⟨c4, h⟩ | ⟨c4, h⟩
        · refine And.intro (fun hp => absurd c4 hp) (fun _ => ?_)
          show Ex mr_X10_tried sc (Cl MT pr sc (d + 4)) (rtE (some (.long r)) (mk X) σ2) (49, [(0, .ref 38), (1, .int x1), (2, .int x2)], [], mk X, p4)
          refine Ex.blk 1000 rfl ?_
          show Ex mr_X10_tried sc (Cl MT pr sc (d + 4)) (rtE (some (.long r)) (mk X) σ2) (76, [(0, .ref 38), (1, .int x1), (2, .int x2)], [.int 13], mk X, p4)
          refine Ex.pick (lv' := _) [0, 2] rfl ?_
          exact lk_X10_tried_76 d _ _ _ h
        · refine And.intro (fun _ => ?_) (fun hn => absurd c4 hn)
          show Ex mr_X10_tried sc (Cl MT pr sc (d + 4)) (rtE (some (.long r)) (mk X) σ2) (54, [(0, .ref 38), (1, .int x1), (2, .int x2)], [], mk X, p4)
          refine Ex.blk 1000 rfl ?_
          rcases ite_sp h with ⟨c5, h⟩ | ⟨c5, h⟩
          · refine And.intro (fun hp => absurd c5 hp) (fun _ => ?_)
            show Ex mr_X10_tried sc (Cl MT pr sc (d + 4)) (rtE (some (.long r)) (mk X) σ2) (59, [(0, .ref 38), (1, .int x1), (2, .int x2)], [], mk X, p4)
            refine Ex.blk 1000 rfl ?_
            show Ex mr_X10_tried sc (Cl MT pr sc (d + 4)) (rtE (some (.long r)) (mk X) σ2) (76, [(0, .ref 38), (1, .int x1), (2, .int x2)], [.int 14], mk X, p4)
            refine Ex.pick (lv' := _) [0, 2] rfl ?_
            exact lk_X10_tried_76 d _ _ _ h
          · refine And.intro (fun _ => ?_) (fun hn => absurd c5 hn)
            show Ex mr_X10_tried sc (Cl MT pr sc (d + 4)) (rtE (some (.long r)) (mk X) σ2) (64, [(0, .ref 38), (1, .int x1), (2, .int x2)], [], mk X, p4)
            refine Ex.blk 1000 rfl ?_
            rcases ite_sp h with ⟨c6, h⟩ | ⟨c6, h⟩
            · refine And.intro (fun hp => absurd c6 hp) (fun _ => ?_)
              show Ex mr_X10_tried sc (Cl MT pr sc (d + 4)) (rtE (some (.long r)) (mk X) σ2) (69, [(0, .ref 38), (1, .int x1), (2, .int x2)], [], mk X, p4)
              refine Ex.blk 1000 rfl ?_
              show Ex mr_X10_tried sc (Cl MT pr sc (d + 4)) (rtE (some (.long r)) (mk X) σ2) (76, [(0, .ref 38), (1, .int x1), (2, .int x2)], [.int 16], mk X, p4)
              refine Ex.pick (lv' := _) [0, 2] rfl ?_
              exact lk_X10_tried_76 d _ _ _ h
            · refine And.intro (fun _ => ?_) (fun hn => absurd c6 hn)
              show Ex mr_X10_tried sc (Cl MT pr sc (d + 4)) (rtE (some (.long r)) (mk X) σ2) (74, [(0, .ref 38), (1, .int x1), (2, .int x2)], [], mk X, p4)
              refine Ex.blk 1000 rfl ?_
              show Ex mr_X10_tried sc (Cl MT pr sc (d + 4)) (rtE (some (.long r)) (mk X) σ2) (76, [(0, .ref 38), (1, .int x1), (2, .int x2)], [.int 15], mk X, p4)
              refine Ex.pick (lv' := _) [0, 2] rfl ?_
              exact lk_X10_tried_76 d _ _ _ h
