theorem lk_X10_confused_71 {pr : Ct} {sc : Nat × (Nat → Int32)} {X : En} (d : Nat) {r : Int32} {σ2 : St} (k4 : Int32 → Int32 → St → Option (Int32 × St)) (k14 : Int32 → Int32 → Int32 → St → Option (Int32 × St)) (hk4 : ∀ (x1 : Int32) (x2 : Int32) (σ : St), k4 x1 x2 σ = some (r, σ2) → Ex mr_X10_confused sc (Cl MT pr sc (d + 2)) (rtE (some (.int r)) (mk X) σ2) (4, [(0, .ref 38), (1, .int x1), (2, .int x2)], [], mk X, σ)) (hk14 : ∀ (x1 : Int32) (x2 : Int32) (x3 : Int32) (σ : St), k14 x1 x2 x3 σ = some (r, σ2) → Ex mr_X10_confused sc (Cl MT pr sc (d + 2)) (rtE (some (.int r)) (mk X) σ2) (14, [(0, .ref 38), (1, .int x1), (2, .int x2), (3, .int x3)], [], mk X, σ)) (x1 : Int32) (x2 : Int32) (x3 : Int32) (σ : St) (h : f_X10_confused_71 k4 k14 x1 x2 x3 σ = some (r, σ2)) : Ex mr_X10_confused sc (Cl MT pr sc (d + 2)) (rtE (some (.int r)) (mk X) σ2) (71, [(0, .ref 38), (1, .int x1), (2, .int x2), (3, .int x3)], [], mk X, σ) := by
  unfold f_X10_confused_71 at h
  refine Ex.blk 1000 rfl ?_
  show Ex mr_X10_confused sc (Cl MT pr sc (d + 2)) (rtE (some (.int r)) (mk X) σ2) (14, [(3, .int (x3 + 1)), (0, .ref 38), (1, .int x1), (2, .int x2)], [], mk X, σ)
  refine Ex.pick (lv' := _) [1, 2, 3, 0] rfl ?_
  exact hk14 _ _ _ _ h
theorem lk_X10_confused_69 {pr : Ct} {sc : Nat × (Nat → Int32)} {X : En} (d : Nat) {r : Int32} {σ2 : St} (k4 : Int32 → Int32 → St → Option (Int32 × St)) (k14 : Int32 → Int32 → Int32 → St → Option (Int32 × St)) (hk4 : ∀ (x1 : Int32) (x2 : Int32) (σ : St), k4 x1 x2 σ = some (r, σ2) → Ex mr_X10_confused sc (Cl MT pr sc (d + 2)) (rtE (some (.int r)) (mk X) σ2) (4, [(0, .ref 38), (1, .int x1), (2, .int x2)], [], mk X, σ)) (hk14 : ∀ (x1 : Int32) (x2 : Int32) (x3 : Int32) (σ : St), k14 x1 x2 x3 σ = some (r, σ2) → Ex mr_X10_confused sc (Cl MT pr sc (d + 2)) (rtE (some (.int r)) (mk X) σ2) (14, [(0, .ref 38), (1, .int x1), (2, .int x2), (3, .int x3)], [], mk X, σ)) (x2 : Int32) (x3 : Int32) (y0 : Int32) (y1 : Int32) (σ : St) (h : f_X10_confused_69 k4 k14 x2 x3 y0 y1 σ = some (r, σ2)) : Ex mr_X10_confused sc (Cl MT pr sc (d + 2)) (rtE (some (.int r)) (mk X) σ2) (69, [(0, .ref 38), (2, .int x2), (3, .int x3)], [.int y0, .int y1], mk X, σ) := by
  unfold f_X10_confused_69 at h
  refine Ex.blk 2 rfl ?_
  show Ex mr_X10_confused sc (Cl MT pr sc (d + 2)) (rtE (some (.int r)) (mk X) σ2) (71, [(1, .int (y1 + y0)), (0, .ref 38), (2, .int x2), (3, .int x3)], [], mk X, σ)
  refine Ex.pick (lv' := _) [1, 0, 2, 3] rfl ?_
  exact lk_X10_confused_71 d _ _ hk4 hk14 _ _ _ _ h
theorem lk_X10_confused_64 {pr : Ct} {sc : Nat × (Nat → Int32)} {X : En} (d : Nat) {r : Int32} {σ2 : St} (k4 : Int32 → Int32 → St → Option (Int32 × St)) (k14 : Int32 → Int32 → Int32 → St → Option (Int32 × St)) (hk4 : ∀ (x1 : Int32) (x2 : Int32) (σ : St), k4 x1 x2 σ = some (r, σ2) → Ex mr_X10_confused sc (Cl MT pr sc (d + 2)) (rtE (some (.int r)) (mk X) σ2) (4, [(0, .ref 38), (1, .int x1), (2, .int x2)], [], mk X, σ)) (hk14 : ∀ (x1 : Int32) (x2 : Int32) (x3 : Int32) (σ : St), k14 x1 x2 x3 σ = some (r, σ2) → Ex mr_X10_confused sc (Cl MT pr sc (d + 2)) (rtE (some (.int r)) (mk X) σ2) (14, [(0, .ref 38), (1, .int x1), (2, .int x2), (3, .int x3)], [], mk X, σ)) (x2 : Int32) (x3 : Int32) (y0 : Int32) (σ : St) (h : f_X10_confused_64 k4 k14 x2 x3 y0 σ = some (r, σ2)) : Ex mr_X10_confused sc (Cl MT pr sc (d + 2)) (rtE (some (.int r)) (mk X) σ2) (64, [(0, .ref 38), (2, .int x2), (3, .int x3)], [.int y0], mk X, σ) := by
  unfold f_X10_confused_64 at h
  refine Ex.blk 1000 rfl ?_
  show Ex mr_X10_confused sc (Cl MT pr sc (d + 2)) (rtE (some (.int r)) (mk X) σ2) (69, [(0, .ref 38), (2, .int x2), (3, .int x3)], [.int 1, .int y0], mk X, σ)
  exact lk_X10_confused_69 d _ _ hk4 hk14 _ _ _ _ _ h
theorem lk_X10_confused_14 {pr : Ct} {sc : Nat × (Nat → Int32)} {X : En} (d : Nat) {r : Int32} {σ2 : St} (k4 : Int32 → Int32 → St → Option (Int32 × St)) (hk4 : ∀ (x1 : Int32) (x2 : Int32) (σ : St), k4 x1 x2 σ = some (r, σ2) → Ex mr_X10_confused sc (Cl MT pr sc (d + 2)) (rtE (some (.int r)) (mk X) σ2) (4, [(0, .ref 38), (1, .int x1), (2, .int x2)], [], mk X, σ)) : ∀ (n : Nat) (x1 : Int32) (x2 : Int32) (x3 : Int32) (σ : St), f_X10_confused_14 k4 n x1 x2 x3 σ = some (r, σ2) → Ex mr_X10_confused sc (Cl MT pr sc (d + 2)) (rtE (some (.int r)) (mk X) σ2) (14, [(0, .ref 38), (1, .int x1), (2, .int x2), (3, .int x3)], [], mk X, σ) := by
  intro n
  induction n with
  | zero =>
    intro x1 x2 x3 σ h
    cases h
  | succ n ih =>
    intro x1 x2 x3 σ h
    simp only [f_X10_confused_14] at h
    refine Ex.blk 1000 rfl ?_
    rcases ite_sp h with ⟨c1, h⟩ | ⟨c1, h⟩
    · refine And.intro (fun _ => ?_) (fun hn => absurd c1 hn)
      show Ex mr_X10_confused sc (Cl MT pr sc (d + 2)) (rtE (some (.int r)) (mk X) σ2) (77, [(0, .ref 38), (1, .int x1), (2, .int x2), (3, .int x3)], [], mk X, σ)
      refine Ex.blk 1000 rfl ?_
      show Ex mr_X10_confused sc (Cl MT pr sc (d + 2)) (rtE (some (.int r)) (mk X) σ2) (4, [(2, .int (x2 + 1)), (0, .ref 38), (1, .int x1), (3, .int x3)], [], mk X, σ)
      refine Ex.pick (lv' := _) [1, 2, 0] rfl ?_
      exact hk4 _ _ _ h
    · refine And.intro (fun hp => absurd hp c1) (fun _ => ?_)
      show Ex mr_X10_confused sc (Cl MT pr sc (d + 2)) (rtE (some (.int r)) (mk X) σ2) (19, [(0, .ref 38), (1, .int x1), (2, .int x2), (3, .int x3)], [], mk X, σ)
      refine Ex.blk 5 rfl ?_
      show Ex mr_X10_confused sc (Cl MT pr sc (d + 2)) (rtE (some (.int r)) (mk X) σ2) (26, [(0, .ref 38), (1, .int x1), (2, .int x2), (3, .int x3)], [.int x2, .ref 54, .ref 38, .int x1], mk X, σ)
      refine Ex.blk 1 rfl ?_
      obtain ⟨g2, h⟩ := gd_some h
      refine And.intro (inb_ok g2) ?_
      show Ex mr_X10_confused sc (Cl MT pr sc (d + 2)) (rtE (some (.int r)) (mk X) σ2) (27, [(0, .ref 38), (1, .int x1), (2, .int x2), (3, .int x3)], [.int (gI σ 54 x2.toNatClampNeg), .ref 38, .int x1], mk X, σ)
      refine Ex.blk 4 rfl ?_
      obtain ⟨g3, h⟩ := gd_some h
      refine And.intro (inb_ok g3) ?_
      show Ex mr_X10_confused sc (Cl MT pr sc (d + 2)) (rtE (some (.int r)) (mk X) σ2) (33, [(0, .ref 38), (1, .int x1), (2, .int x2), (3, .int x3)], [.int (gI σ 54 x3.toNatClampNeg), .int (gI σ 54 x2.toNatClampNeg), .ref 38, .int x1], mk X, σ)
      refine Ex.blk 2 rfl ?_
      obtain ⟨p1, hp1, h⟩ := bind_sp h
      refine Exists.intro (some (.long p1.1)) (Exists.intro (mk X) (Exists.intro p1.2 (And.intro (cl_X10_heardAs (d + 0) hp1) ?_)))
      show Ex mr_X10_confused sc (Cl MT pr sc (d + 2)) (rtE (some (.int r)) (mk X) σ2) (37, [(0, .ref 38), (1, .int x1), (2, .int x2), (3, .int x3)], [.long p1.1, .int x1], mk X, p1.2)
      refine Ex.blk 1000 rfl ?_
      rcases ite_sp h with ⟨c4, h⟩ | ⟨c4, h⟩
      · refine And.intro (fun _ => ?_) (fun hn => absurd c4 hn)
        show Ex mr_X10_confused sc (Cl MT pr sc (d + 2)) (rtE (some (.int r)) (mk X) σ2) (64, [(0, .ref 38), (1, .int x1), (2, .int x2), (3, .int x3)], [.int x1], mk X, p1.2)
        refine Ex.pick (lv' := _) [0, 2, 3] rfl ?_
        exact lk_X10_confused_64 d _ _ hk4 ih _ _ _ _ h
      · refine And.intro (fun hp => absurd hp c4) (fun _ => ?_)
        show Ex mr_X10_confused sc (Cl MT pr sc (d + 2)) (rtE (some (.int r)) (mk X) σ2) (42, [(0, .ref 38), (1, .int x1), (2, .int x2), (3, .int x3)], [.int x1], mk X, p1.2)
        refine Ex.blk 5 rfl ?_
        obtain ⟨g5, h⟩ := gd_some h
        refine And.intro (inb_ok g5) ?_
        show Ex mr_X10_confused sc (Cl MT pr sc (d + 2)) (rtE (some (.int r)) (mk X) σ2) (49, [(0, .ref 38), (1, .int x1), (2, .int x2), (3, .int x3)], [.int (gI p1.2 54 x3.toNatClampNeg), .ref 38, .int x1], mk X, p1.2)
        refine Ex.blk 4 rfl ?_
        obtain ⟨g6, h⟩ := gd_some h
        refine And.intro (inb_ok g6) ?_
        show Ex mr_X10_confused sc (Cl MT pr sc (d + 2)) (rtE (some (.int r)) (mk X) σ2) (55, [(0, .ref 38), (1, .int x1), (2, .int x2), (3, .int x3)], [.int (gI p1.2 54 x2.toNatClampNeg), .int (gI p1.2 54 x3.toNatClampNeg), .ref 38, .int x1], mk X, p1.2)
        refine Ex.blk 2 rfl ?_
        obtain ⟨p2, hp2, h⟩ := bind_sp h
        refine Exists.intro (some (.long p2.1)) (Exists.intro (mk X) (Exists.intro p2.2 (And.intro (cl_X10_heardAs (d + 0) hp2) ?_)))
        show Ex mr_X10_confused sc (Cl MT pr sc (d + 2)) (rtE (some (.int r)) (mk X) σ2) (59, [(0, .ref 38), (1, .int x1), (2, .int x2), (3, .int x3)], [.long p2.1, .int x1], mk X, p2.2)
        refine Ex.blk 1000 rfl ?_
        rcases ite_sp h with ⟨c7, h⟩ | ⟨c7, h⟩
        · refine And.intro (fun _ => ?_) (fun hn => absurd c7 hn)
          show Ex mr_X10_confused sc (Cl MT pr sc (d + 2)) (rtE (some (.int r)) (mk X) σ2) (68, [(0, .ref 38), (1, .int x1), (2, .int x2), (3, .int x3)], [.int x1], mk X, p2.2)
          refine Ex.blk 1000 rfl ?_
          show Ex mr_X10_confused sc (Cl MT pr sc (d + 2)) (rtE (some (.int r)) (mk X) σ2) (69, [(0, .ref 38), (1, .int x1), (2, .int x2), (3, .int x3)], [.int 0, .int x1], mk X, p2.2)
          refine Ex.pick (lv' := _) [0, 2, 3] rfl ?_
          exact lk_X10_confused_69 d _ _ hk4 ih _ _ _ _ _ h
        · refine And.intro (fun hp => absurd hp c7) (fun _ => ?_)
          show Ex mr_X10_confused sc (Cl MT pr sc (d + 2)) (rtE (some (.int r)) (mk X) σ2) (64, [(0, .ref 38), (1, .int x1), (2, .int x2), (3, .int x3)], [.int x1], mk X, p2.2)
          refine Ex.pick (lv' := _) [0, 2, 3] rfl ?_
          exact lk_X10_confused_64 d _ _ hk4 ih _ _ _ _ h
theorem lk_X10_confused_4 {pr : Ct} {sc : Nat × (Nat → Int32)} {X : En} (d : Nat) {r : Int32} {σ2 : St} : ∀ (n : Nat) (x1 : Int32) (x2 : Int32) (σ : St), f_X10_confused_4 n x1 x2 σ = some (r, σ2) → Ex mr_X10_confused sc (Cl MT pr sc (d + 2)) (rtE (some (.int r)) (mk X) σ2) (4, [(0, .ref 38), (1, .int x1), (2, .int x2)], [], mk X, σ) := by
  intro n
  induction n with
  | zero =>
    intro x1 x2 σ h
    cases h
  | succ n ih =>
    intro x1 x2 σ h
    simp only [f_X10_confused_4] at h
    refine Ex.blk 1000 rfl ?_
    rcases ite_sp h with ⟨c1, h⟩ | ⟨c1, h⟩
    · refine And.intro (fun _ => ?_) (fun hn => absurd c1 hn)
      show Ex mr_X10_confused sc (Cl MT pr sc (d + 2)) (rtE (some (.int r)) (mk X) σ2) (83, [(0, .ref 38), (1, .int x1), (2, .int x2)], [], mk X, σ)
      refine Ex.blk 1000 rfl ?_
      cases h
      exact And.intro trivial ⟨rfl, rfl, rfl⟩
    · refine And.intro (fun hp => absurd hp c1) (fun _ => ?_)
      show Ex mr_X10_confused sc (Cl MT pr sc (d + 2)) (rtE (some (.int r)) (mk X) σ2) (12, [(0, .ref 38), (1, .int x1), (2, .int x2)], [], mk X, σ)
      refine Ex.blk 1000 rfl ?_
      show Ex mr_X10_confused sc (Cl MT pr sc (d + 2)) (rtE (some (.int r)) (mk X) σ2) (14, [(3, .int 0), (0, .ref 38), (1, .int x1), (2, .int x2)], [], mk X, σ)
      refine Ex.pick (lv' := _) [1, 2, 3, 0] rfl ?_
      exact lk_X10_confused_14 d _ ih FU _ _ _ _ h
theorem cl_X10_confused {pr : Ct} {sc : Nat × (Nat → Int32)} {X : En} (d : Nat) {r : Int32} {σ2 : St} {σ : St} (h : f_X10_confused σ = some (r, σ2)) : Cl MT pr sc (d + 2 + 1) 234 [.ref 38] (mk X) σ (some (.int r)) (mk X) σ2 := by
  refine cl_of mr_X10_confused rfl rfl ?_
  unfold f_X10_confused at h
  refine Ex.blk 1000 rfl ?_
  show Ex mr_X10_confused sc (Cl MT pr sc (d + 2)) (rtE (some (.int r)) (mk X) σ2) (4, [(2, .int 0), (1, .int 0), (0, .ref 38)], [], mk X, σ)
  refine Ex.pick (lv' := _) [2, 1, 0] rfl ?_
  exact lk_X10_confused_4 d FU _ _ _ h
theorem lk_J9_multiplyHigh_f86c9_71 {pr : Ct} {sc : Nat × (Nat → Int32)} {X : En} (d : Nat) {r : Int64} {σ2 : St} (x4 : Int64) (x8 : Int64) (x16 : Int64) (x18 : Int64) (σ : St) (h : f_J9_multiplyHigh_f86c9_71 x4 x8 x16 x18 σ = some (r, σ2)) : Ex mr_J9_multiplyHigh_f86c9 sc (Cl MT pr sc (d + 0)) (rtE (some (.long r)) (mk X) σ2) (71, [(4, .long x4), (8, .long x8), (16, .long x16), (18, .long x18)], [], mk X, σ) := by
  unfold f_J9_multiplyHigh_f86c9_71 at h
  refine Ex.blk 5 rfl ?_
  show Ex mr_J9_multiplyHigh_f86c9 sc (Cl MT pr sc (d + 0)) (rtE (some (.long r)) (mk X) σ2) (79, [(4, .long x4), (8, .long x8), (16, .long x16), (18, .long x18)], [.long ((x4 * x8) + x18)], mk X, σ)
  refine Ex.blk 1000 rfl ?_
  cases h
  exact And.intro trivial ⟨rfl, rfl, rfl⟩
theorem lk_J9_multiplyHigh_f86c9_61 {pr : Ct} {sc : Nat × (Nat → Int32)} {X : En} (d : Nat) {r : Int64} {σ2 : St} (x4 : Int64) (x6 : Int64) (x8 : Int64) (x16 : Int64) (x18 : Int64) (σ : St) (h : f_J9_multiplyHigh_f86c9_61 x4 x6 x8 x16 x18 σ = some (r, σ2)) : Ex mr_J9_multiplyHigh_f86c9 sc (Cl MT pr sc (d + 0)) (rtE (some (.long r)) (mk X) σ2) (61, [(4, .long x4), (6, .long x6), (8, .long x8), (16, .long x16), (18, .long x18)], [], mk X, σ) := by
  unfold f_J9_multiplyHigh_f86c9_61 at h
  refine Ex.blk 5 rfl ?_
  show Ex mr_J9_multiplyHigh_f86c9 sc (Cl MT pr sc (d + 0)) (rtE (some (.long r)) (mk X) σ2) (69, [(4, .long x4), (6, .long x6), (8, .long x8), (16, .long x16), (18, .long x18)], [.long (x16 + (x6 * x8))], mk X, σ)
  refine Ex.blk 1 rfl ?_
  show Ex mr_J9_multiplyHigh_f86c9 sc (Cl MT pr sc (d + 0)) (rtE (some (.long r)) (mk X) σ2) (71, [(16, .long (x16 + (x6 * x8))), (4, .long x4), (6, .long x6), (8, .long x8), (18, .long x18)], [], mk X, σ)
  refine Ex.pick (lv' := _) [1, 3, 0, 4] rfl ?_
  exact lk_J9_multiplyHigh_f86c9_71 d _ _ _ _ _ h
theorem lk_J9_multiplyHigh_f86c9_54 {pr : Ct} {sc : Nat × (Nat → Int32)} {X : En} (d : Nat) {r : Int64} {σ2 : St} (x4 : Int64) (x6 : Int64) (x8 : Int64) (x14 : Int64) (x16 : Int64) (σ : St) (h : f_J9_multiplyHigh_f86c9_54 x4 x6 x8 x14 x16 σ = some (r, σ2)) : Ex mr_J9_multiplyHigh_f86c9 sc (Cl MT pr sc (d + 0)) (rtE (some (.long r)) (mk X) σ2) (54, [(4, .long x4), (6, .long x6), (8, .long x8), (14, .long x14), (16, .long x16)], [], mk X, σ) := by
  unfold f_J9_multiplyHigh_f86c9_54 at h
  refine Ex.blk 4 rfl ?_
  show Ex mr_J9_multiplyHigh_f86c9 sc (Cl MT pr sc (d + 0)) (rtE (some (.long r)) (mk X) σ2) (61, [(18, .long (shrJ x14 32)), (4, .long x4), (6, .long x6), (8, .long x8), (14, .long x14), (16, .long x16)], [], mk X, σ)
  refine Ex.pick (lv' := _) [1, 2, 3, 5, 0] rfl ?_
  exact lk_J9_multiplyHigh_f86c9_61 d _ _ _ _ _ _ h
theorem lk_J9_multiplyHigh_f86c9_46 {pr : Ct} {sc : Nat × (Nat → Int32)} {X : En} (d : Nat) {r : Int64} {σ2 : St} (x4 : Int64) (x6 : Int64) (x8 : Int64) (x14 : Int64) (σ : St) (h : f_J9_multiplyHigh_f86c9_46 x4 x6 x8 x14 σ = some (r, σ2)) : Ex mr_J9_multiplyHigh_f86c9 sc (Cl MT pr sc (d + 0)) (rtE (some (.long r)) (mk X) σ2) (46, [(4, .long x4), (6, .long x6), (8, .long x8), (14, .long x14)], [], mk X, σ) := by
  unfold f_J9_multiplyHigh_f86c9_46 at h
  refine Ex.blk 4 rfl ?_
  show Ex mr_J9_multiplyHigh_f86c9 sc (Cl MT pr sc (d + 0)) (rtE (some (.long r)) (mk X) σ2) (54, [(16, .long (x14 &&& 4294967295)), (4, .long x4), (6, .long x6), (8, .long x8), (14, .long x14)], [], mk X, σ)
  refine Ex.pick (lv' := _) [1, 2, 3, 4, 0] rfl ?_
  exact lk_J9_multiplyHigh_f86c9_54 d _ _ _ _ _ _ h
theorem lk_J9_multiplyHigh_f86c9_33 {pr : Ct} {sc : Nat × (Nat → Int32)} {X : En} (d : Nat) {r : Int64} {σ2 : St} (x4 : Int64) (x6 : Int64) (x8 : Int64) (x10 : Int64) (x12 : Int64) (σ : St) (h : f_J9_multiplyHigh_f86c9_33 x4 x6 x8 x10 x12 σ = some (r, σ2)) : Ex mr_J9_multiplyHigh_f86c9 sc (Cl MT pr sc (d + 0)) (rtE (some (.long r)) (mk X) σ2) (33, [(4, .long x4), (6, .long x6), (8, .long x8), (10, .long x10), (12, .long x12)], [], mk X, σ) := by
  unfold f_J9_multiplyHigh_f86c9_33 at h
  refine Ex.blk 5 rfl ?_
  show Ex mr_J9_multiplyHigh_f86c9 sc (Cl MT pr sc (d + 0)) (rtE (some (.long r)) (mk X) σ2) (42, [(4, .long x4), (6, .long x6), (8, .long x8), (10, .long x10), (12, .long x12)], [.int 32, .long x12, .long (x4 * x10)], mk X, σ)
  refine Ex.blk 3 rfl ?_
  show Ex mr_J9_multiplyHigh_f86c9 sc (Cl MT pr sc (d + 0)) (rtE (some (.long r)) (mk X) σ2) (46, [(14, .long ((x4 * x10) + (ushJ x12 32))), (4, .long x4), (6, .long x6), (8, .long x8), (10, .long x10), (12, .long x12)], [], mk X, σ)
  refine Ex.pick (lv' := _) [1, 2, 3, 0] rfl ?_
  exact lk_J9_multiplyHigh_f86c9_46 d _ _ _ _ _ h
theorem lk_J9_multiplyHigh_f86c9_26 {pr : Ct} {sc : Nat × (Nat → Int32)} {X : En} (d : Nat) {r : Int64} {σ2 : St} (x4 : Int64) (x6 : Int64) (x8 : Int64) (x10 : Int64) (σ : St) (h : f_J9_multiplyHigh_f86c9_26 x4 x6 x8 x10 σ = some (r, σ2)) : Ex mr_J9_multiplyHigh_f86c9 sc (Cl MT pr sc (d + 0)) (rtE (some (.long r)) (mk X) σ2) (26, [(4, .long x4), (6, .long x6), (8, .long x8), (10, .long x10)], [], mk X, σ) := by
  unfold f_J9_multiplyHigh_f86c9_26 at h
  refine Ex.blk 4 rfl ?_
  show Ex mr_J9_multiplyHigh_f86c9 sc (Cl MT pr sc (d + 0)) (rtE (some (.long r)) (mk X) σ2) (33, [(12, .long (x6 * x10)), (4, .long x4), (6, .long x6), (8, .long x8), (10, .long x10)], [], mk X, σ)
  refine Ex.pick (lv' := _) [1, 2, 3, 4, 0] rfl ?_
  exact lk_J9_multiplyHigh_f86c9_33 d _ _ _ _ _ _ h
theorem lk_J9_multiplyHigh_f86c9_19 {pr : Ct} {sc : Nat × (Nat → Int32)} {X : En} (d : Nat) {r : Int64} {σ2 : St} (x2 : Int64) (x4 : Int64) (x6 : Int64) (x8 : Int64) (σ : St) (h : f_J9_multiplyHigh_f86c9_19 x2 x4 x6 x8 σ = some (r, σ2)) : Ex mr_J9_multiplyHigh_f86c9 sc (Cl MT pr sc (d + 0)) (rtE (some (.long r)) (mk X) σ2) (19, [(2, .long x2), (4, .long x4), (6, .long x6), (8, .long x8)], [], mk X, σ) := by
  unfold f_J9_multiplyHigh_f86c9_19 at h
  refine Ex.blk 4 rfl ?_
  show Ex mr_J9_multiplyHigh_f86c9 sc (Cl MT pr sc (d + 0)) (rtE (some (.long r)) (mk X) σ2) (26, [(10, .long (x2 &&& 4294967295)), (2, .long x2), (4, .long x4), (6, .long x6), (8, .long x8)], [], mk X, σ)
  refine Ex.pick (lv' := _) [2, 3, 4, 0] rfl ?_
  exact lk_J9_multiplyHigh_f86c9_26 d _ _ _ _ _ h
theorem lk_J9_multiplyHigh_f86c9_13 {pr : Ct} {sc : Nat × (Nat → Int32)} {X : En} (d : Nat) {r : Int64} {σ2 : St} (x2 : Int64) (x4 : Int64) (x6 : Int64) (σ : St) (h : f_J9_multiplyHigh_f86c9_13 x2 x4 x6 σ = some (r, σ2)) : Ex mr_J9_multiplyHigh_f86c9 sc (Cl MT pr sc (d + 0)) (rtE (some (.long r)) (mk X) σ2) (13, [(2, .long x2), (4, .long x4), (6, .long x6)], [], mk X, σ) := by
  unfold f_J9_multiplyHigh_f86c9_13 at h
  refine Ex.blk 4 rfl ?_
  show Ex mr_J9_multiplyHigh_f86c9 sc (Cl MT pr sc (d + 0)) (rtE (some (.long r)) (mk X) σ2) (19, [(8, .long (shrJ x2 32)), (2, .long x2), (4, .long x4), (6, .long x6)], [], mk X, σ)
  refine Ex.pick (lv' := _) [1, 2, 3, 0] rfl ?_
  exact lk_J9_multiplyHigh_f86c9_19 d _ _ _ _ _ h
theorem lk_J9_multiplyHigh_f86c9_6 {pr : Ct} {sc : Nat × (Nat → Int32)} {X : En} (d : Nat) {r : Int64} {σ2 : St} (x0 : Int64) (x2 : Int64) (x4 : Int64) (σ : St) (h : f_J9_multiplyHigh_f86c9_6 x0 x2 x4 σ = some (r, σ2)) : Ex mr_J9_multiplyHigh_f86c9 sc (Cl MT pr sc (d + 0)) (rtE (some (.long r)) (mk X) σ2) (6, [(0, .long x0), (2, .long x2), (4, .long x4)], [], mk X, σ) := by
  unfold f_J9_multiplyHigh_f86c9_6 at h
  refine Ex.blk 4 rfl ?_
  show Ex mr_J9_multiplyHigh_f86c9 sc (Cl MT pr sc (d + 0)) (rtE (some (.long r)) (mk X) σ2) (13, [(6, .long (x0 &&& 4294967295)), (0, .long x0), (2, .long x2), (4, .long x4)], [], mk X, σ)
  refine Ex.pick (lv' := _) [2, 3, 0] rfl ?_
  exact lk_J9_multiplyHigh_f86c9_13 d _ _ _ _ h
theorem cl_J9_multiplyHigh_f86c9 {pr : Ct} {sc : Nat × (Nat → Int32)} {X : En} (d : Nat) {r : Int64} {σ2 : St} {x0 : Int64} {x2 : Int64} {σ : St} (h : f_J9_multiplyHigh_f86c9 x0 x2 σ = some (r, σ2)) : Cl MT pr sc (d + 0 + 1) 235 [.long x0, .long x2] (mk X) σ (some (.long r)) (mk X) σ2 := by
  refine cl_of mr_J9_multiplyHigh_f86c9 rfl rfl ?_
  unfold f_J9_multiplyHigh_f86c9 at h
  refine Ex.blk 4 rfl ?_
  show Ex mr_J9_multiplyHigh_f86c9 sc (Cl MT pr sc (d + 0)) (rtE (some (.long r)) (mk X) σ2) (6, [(4, .long (shrJ x0 32)), (0, .long x0), (2, .long x2)], [], mk X, σ)
  refine Ex.pick (lv' := _) [1, 2, 0] rfl ?_
  exact lk_J9_multiplyHigh_f86c9_6 d _ _ _ _ h
theorem lk_X10_partOf_112 {pr : Ct} {sc : Nat × (Nat → Int32)} {X : En} (d : Nat) {r : Int32} {σ2 : St} (k8 : Int64 → Int64 → Int32 → Int32 → St → Option (Int32 × St)) (hk8 : ∀ (x0 : Int64) (x2 : Int64) (x4 : Int32) (x5 : Int32) (σ : St), k8 x0 x2 x4 x5 σ = some (r, σ2) → Ex mr_X10_partOf sc (Cl MT pr sc (d + 1)) (rtE (some (.int r)) (mk X) σ2) (8, [(0, .long x0), (2, .long x2), (4, .int x4), (5, .int x5)], [], mk X, σ)) (x0 : Int64) (x2 : Int64) (x4 : Int32) (x5 : Int32) (σ : St) (h : f_X10_partOf_112 k8 x0 x2 x4 x5 σ = some (r, σ2)) : Ex mr_X10_partOf sc (Cl MT pr sc (d + 1)) (rtE (some (.int r)) (mk X) σ2) (112, [(0, .long x0), (2, .long x2), (4, .int x4), (5, .int x5)], [], mk X, σ) := by
  unfold f_X10_partOf_112 at h
  refine Ex.blk 1000 rfl ?_
  show Ex mr_X10_partOf sc (Cl MT pr sc (d + 1)) (rtE (some (.int r)) (mk X) σ2) (8, [(0, .long x0), (2, .long x2), (4, .int x4), (5, .int x5)], [], mk X, σ)
  exact hk8 _ _ _ _ _ h
theorem lk_X10_partOf_106 {pr : Ct} {sc : Nat × (Nat → Int32)} {X : En} (d : Nat) {r : Int32} {σ2 : St} (k8 : Int64 → Int64 → Int32 → Int32 → St → Option (Int32 × St)) (hk8 : ∀ (x0 : Int64) (x2 : Int64) (x4 : Int32) (x5 : Int32) (σ : St), k8 x0 x2 x4 x5 σ = some (r, σ2) → Ex mr_X10_partOf sc (Cl MT pr sc (d + 1)) (rtE (some (.int r)) (mk X) σ2) (8, [(0, .long x0), (2, .long x2), (4, .int x4), (5, .int x5)], [], mk X, σ)) (x0 : Int64) (x2 : Int64) (x4 : Int32) (x5 : Int32) (σ : St) (h : f_X10_partOf_106 k8 x0 x2 x4 x5 σ = some (r, σ2)) : Ex mr_X10_partOf sc (Cl MT pr sc (d + 1)) (rtE (some (.int r)) (mk X) σ2) (106, [(0, .long x0), (2, .long x2), (4, .int x4), (5, .int x5)], [], mk X, σ) := by
  unfold f_X10_partOf_106 at h
  refine Ex.blk 4 rfl ?_
  show Ex mr_X10_partOf sc (Cl MT pr sc (d + 1)) (rtE (some (.int r)) (mk X) σ2) (112, [(5, .int (shrI x5 1)), (0, .long x0), (2, .long x2), (4, .int x4)], [], mk X, σ)
  refine Ex.pick (lv' := _) [1, 2, 3, 0] rfl ?_
  exact lk_X10_partOf_112 d _ hk8 _ _ _ _ _ h
theorem lk_X10_partOf_103 {pr : Ct} {sc : Nat × (Nat → Int32)} {X : En} (d : Nat) {r : Int32} {σ2 : St} (k8 : Int64 → Int64 → Int32 → Int32 → St → Option (Int32 × St)) (hk8 : ∀ (x0 : Int64) (x2 : Int64) (x4 : Int32) (x5 : Int32) (σ : St), k8 x0 x2 x4 x5 σ = some (r, σ2) → Ex mr_X10_partOf sc (Cl MT pr sc (d + 1)) (rtE (some (.int r)) (mk X) σ2) (8, [(0, .long x0), (2, .long x2), (4, .int x4), (5, .int x5)], [], mk X, σ)) (x0 : Int64) (x2 : Int64) (x5 : Int32) (y0 : Int32) (y1 : Int32) (σ : St) (h : f_X10_partOf_103 k8 x0 x2 x5 y0 y1 σ = some (r, σ2)) : Ex mr_X10_partOf sc (Cl MT pr sc (d + 1)) (rtE (some (.int r)) (mk X) σ2) (103, [(0, .long x0), (2, .long x2), (5, .int x5)], [.int y0, .int y1], mk X, σ) := by
  unfold f_X10_partOf_103 at h
  refine Ex.blk 2 rfl ?_
  show Ex mr_X10_partOf sc (Cl MT pr sc (d + 1)) (rtE (some (.int r)) (mk X) σ2) (106, [(4, .int (y1 + y0)), (0, .long x0), (2, .long x2), (5, .int x5)], [], mk X, σ)
  refine Ex.pick (lv' := _) [1, 2, 0, 3] rfl ?_
  exact lk_X10_partOf_106 d _ hk8 _ _ _ _ _ h
theorem lk_X10_partOf_88 {pr : Ct} {sc : Nat × (Nat → Int32)} {X : En} (d : Nat) {r : Int32} {σ2 : St} (k8 : Int64 → Int64 → Int32 → Int32 → St → Option (Int32 × St)) (hk8 : ∀ (x0 : Int64) (x2 : Int64) (x4 : Int32) (x5 : Int32) (σ : St), k8 x0 x2 x4 x5 σ = some (r, σ2) → Ex mr_X10_partOf sc (Cl MT pr sc (d + 1)) (rtE (some (.int r)) (mk X) σ2) (8, [(0, .long x0), (2, .long x2), (4, .int x4), (5, .int x5)], [], mk X, σ)) (x0 : Int64) (x2 : Int64) (x4 : Int32) (x5 : Int32) (y0 : Int32) (σ : St) (h : f_X10_partOf_88 k8 x0 x2 x4 x5 y0 σ = some (r, σ2)) : Ex mr_X10_partOf sc (Cl MT pr sc (d + 1)) (rtE (some (.int r)) (mk X) σ2) (88, [(0, .long x0), (2, .long x2), (4, .int x4), (5, .int x5)], [.int y0], mk X, σ) := by
  unfold f_X10_partOf_88 at h
  refine Ex.blk 1000 rfl ?_
  rcases ite_sp h with ⟨c1, h⟩ | ⟨c1, h⟩
  · refine And.intro (fun _ => ?_) (fun hn => absurd c1 hn)
    show Ex mr_X10_partOf sc (Cl MT pr sc (d + 1)) (rtE (some (.int r)) (mk X) σ2) (102, [(14, .int y0), (0, .long x0), (2, .long x2), (4, .int x4), (5, .int x5)], [.int x4], mk X, σ)
    refine Ex.blk 1000 rfl ?_
    show Ex mr_X10_partOf sc (Cl MT pr sc (d + 1)) (rtE (some (.int r)) (mk X) σ2) (103, [(14, .int y0), (0, .long x0), (2, .long x2), (4, .int x4), (5, .int x5)], [.int 0, .int x4], mk X, σ)
    refine Ex.pick (lv' := _) [1, 2, 4] rfl ?_
    exact lk_X10_partOf_103 d _ hk8 _ _ _ _ _ _ h
  · refine And.intro (fun hp => absurd hp c1) (fun _ => ?_)
    show Ex mr_X10_partOf sc (Cl MT pr sc (d + 1)) (rtE (some (.int r)) (mk X) σ2) (97, [(14, .int y0), (0, .long x0), (2, .long x2), (4, .int x4), (5, .int x5)], [.int x4], mk X, σ)
    refine Ex.blk 1000 rfl ?_
    show Ex mr_X10_partOf sc (Cl MT pr sc (d + 1)) (rtE (some (.int r)) (mk X) σ2) (103, [(14, .int y0), (0, .long x0), (2, .long x2), (4, .int x4), (5, .int x5)], [.int x5, .int x4], mk X, σ)
    refine Ex.pick (lv' := _) [1, 2, 4] rfl ?_
    exact lk_X10_partOf_103 d _ hk8 _ _ _ _ _ _ h
theorem lk_X10_partOf_83 {pr : Ct} {sc : Nat × (Nat → Int32)} {X : En} (d : Nat) {r : Int32} {σ2 : St} (k8 : Int64 → Int64 → Int32 → Int32 → St → Option (Int32 × St)) (hk8 : ∀ (x0 : Int64) (x2 : Int64) (x4 : Int32) (x5 : Int32) (σ : St), k8 x0 x2 x4 x5 σ = some (r, σ2) → Ex mr_X10_partOf sc (Cl MT pr sc (d + 1)) (rtE (some (.int r)) (mk X) σ2) (8, [(0, .long x0), (2, .long x2), (4, .int x4), (5, .int x5)], [], mk X, σ)) (x0 : Int64) (x2 : Int64) (x4 : Int32) (x5 : Int32) (σ : St) (h : f_X10_partOf_83 k8 x0 x2 x4 x5 σ = some (r, σ2)) : Ex mr_X10_partOf sc (Cl MT pr sc (d + 1)) (rtE (some (.int r)) (mk X) σ2) (83, [(0, .long x0), (2, .long x2), (4, .int x4), (5, .int x5)], [], mk X, σ) := by
  unfold f_X10_partOf_83 at h
  refine Ex.blk 1000 rfl ?_
  show Ex mr_X10_partOf sc (Cl MT pr sc (d + 1)) (rtE (some (.int r)) (mk X) σ2) (88, [(0, .long x0), (2, .long x2), (4, .int x4), (5, .int x5)], [.int 1], mk X, σ)
  exact lk_X10_partOf_88 d _ hk8 _ _ _ _ _ _ h
theorem lk_X10_partOf_87 {pr : Ct} {sc : Nat × (Nat → Int32)} {X : En} (d : Nat) {r : Int32} {σ2 : St} (k8 : Int64 → Int64 → Int32 → Int32 → St → Option (Int32 × St)) (hk8 : ∀ (x0 : Int64) (x2 : Int64) (x4 : Int32) (x5 : Int32) (σ : St), k8 x0 x2 x4 x5 σ = some (r, σ2) → Ex mr_X10_partOf sc (Cl MT pr sc (d + 1)) (rtE (some (.int r)) (mk X) σ2) (8, [(0, .long x0), (2, .long x2), (4, .int x4), (5, .int x5)], [], mk X, σ)) (x0 : Int64) (x2 : Int64) (x4 : Int32) (x5 : Int32) (σ : St) (h : f_X10_partOf_87 k8 x0 x2 x4 x5 σ = some (r, σ2)) : Ex mr_X10_partOf sc (Cl MT pr sc (d + 1)) (rtE (some (.int r)) (mk X) σ2) (87, [(0, .long x0), (2, .long x2), (4, .int x4), (5, .int x5)], [], mk X, σ) := by
  unfold f_X10_partOf_87 at h
  refine Ex.blk 1000 rfl ?_
  show Ex mr_X10_partOf sc (Cl MT pr sc (d + 1)) (rtE (some (.int r)) (mk X) σ2) (88, [(0, .long x0), (2, .long x2), (4, .int x4), (5, .int x5)], [.int 0], mk X, σ)
  exact lk_X10_partOf_88 d _ hk8 _ _ _ _ _ _ h
theorem lk_X10_partOf_51 {pr : Ct} {sc : Nat × (Nat → Int32)} {X : En} (d : Nat) {r : Int32} {σ2 : St} (k8 : Int64 → Int64 → Int32 → Int32 → St → Option (Int32 × St)) (hk8 : ∀ (x0 : Int64) (x2 : Int64) (x4 : Int32) (x5 : Int32) (σ : St), k8 x0 x2 x4 x5 σ = some (r, σ2) → Ex mr_X10_partOf sc (Cl MT pr sc (d + 1)) (rtE (some (.int r)) (mk X) σ2) (8, [(0, .long x0), (2, .long x2), (4, .int x4), (5, .int x5)], [], mk X, σ)) (x0 : Int64) (x2 : Int64) (x4 : Int32) (x5 : Int32) (x6 : Int64) (x8 : Int64) (x10 : Int64) (x12 : Int64) (σ : St) (h : f_X10_partOf_51 k8 x0 x2 x4 x5 x6 x8 x10 x12 σ = some (r, σ2)) : Ex mr_X10_partOf sc (Cl MT pr sc (d + 1)) (rtE (some (.int r)) (mk X) σ2) (51, [(0, .long x0), (2, .long x2), (4, .int x4), (5, .int x5), (6, .long x6), (8, .long x8), (10, .long x10), (12, .long x12)], [], mk X, σ) := by
  unfold f_X10_partOf_51 at h
  refine Ex.blk 1000 rfl ?_
  rcases ite_sp h with ⟨c1, h⟩ | ⟨c1, h⟩
  · refine And.intro (fun _ => ?_) (fun hn => absurd c1 hn)
    show Ex mr_X10_partOf sc (Cl MT pr sc (d + 1)) (rtE (some (.int r)) (mk X) σ2) (83, [(0, .long x0), (2, .long x2), (4, .int x4), (5, .int x5), (6, .long x6), (8, .long x8), (10, .long x10), (12, .long x12)], [], mk X, σ)
    refine Ex.pick (lv' := _) [0, 1, 2, 3] rfl ?_
    exact lk_X10_partOf_83 d _ hk8 _ _ _ _ _ h
  · refine And.intro (fun hp => absurd hp c1) (fun _ => ?_)
    show Ex mr_X10_partOf sc (Cl MT pr sc (d + 1)) (rtE (some (.int r)) (mk X) σ2) (59, [(0, .long x0), (2, .long x2), (4, .int x4), (5, .int x5), (6, .long x6), (8, .long x8), (10, .long x10), (12, .long x12)], [], mk X, σ)
    refine Ex.blk 1000 rfl ?_
    rcases ite_sp h with ⟨c2, h⟩ | ⟨c2, h⟩
    · refine And.intro (fun hp => absurd c2 hp) (fun _ => ?_)
      show Ex mr_X10_partOf sc (Cl MT pr sc (d + 1)) (rtE (some (.int r)) (mk X) σ2) (67, [(0, .long x0), (2, .long x2), (4, .int x4), (5, .int x5), (6, .long x6), (8, .long x8), (10, .long x10), (12, .long x12)], [], mk X, σ)
      refine Ex.blk 5 rfl ?_
      show Ex mr_X10_partOf sc (Cl MT pr sc (d + 1)) (rtE (some (.int r)) (mk X) σ2) (78, [(0, .long x0), (2, .long x2), (4, .int x4), (5, .int x5), (6, .long x6), (8, .long x8), (10, .long x10), (12, .long x12)], [.long (-9223372036854775808), .long x12, .long (x8 + (-9223372036854775808))], mk X, σ)
      refine Ex.blk 1000 rfl ?_
      rcases ite_sp h with ⟨c3, h⟩ | ⟨c3, h⟩
      · refine And.intro (fun _ => ?_) (fun hn => absurd c3 hn)
        show Ex mr_X10_partOf sc (Cl MT pr sc (d + 1)) (rtE (some (.int r)) (mk X) σ2) (87, [(0, .long x0), (2, .long x2), (4, .int x4), (5, .int x5), (6, .long x6), (8, .long x8), (10, .long x10), (12, .long x12)], [], mk X, σ)
        refine Ex.pick (lv' := _) [0, 1, 2, 3] rfl ?_
        exact lk_X10_partOf_87 d _ hk8 _ _ _ _ _ h
      · refine And.intro (fun hp => absurd hp c3) (fun _ => ?_)
        show Ex mr_X10_partOf sc (Cl MT pr sc (d + 1)) (rtE (some (.int r)) (mk X) σ2) (83, [(0, .long x0), (2, .long x2), (4, .int x4), (5, .int x5), (6, .long x6), (8, .long x8), (10, .long x10), (12, .long x12)], [], mk X, σ)
        refine Ex.pick (lv' := _) [0, 1, 2, 3] rfl ?_
        exact lk_X10_partOf_83 d _ hk8 _ _ _ _ _ h
    · refine And.intro (fun _ => ?_) (fun hn => absurd c2 hn)
      show Ex mr_X10_partOf sc (Cl MT pr sc (d + 1)) (rtE (some (.int r)) (mk X) σ2) (87, [(0, .long x0), (2, .long x2), (4, .int x4), (5, .int x5), (6, .long x6), (8, .long x8), (10, .long x10), (12, .long x12)], [], mk X, σ)
      refine Ex.pick (lv' := _) [0, 1, 2, 3] rfl ?_
      exact lk_X10_partOf_87 d _ hk8 _ _ _ _ _ h
theorem lk_X10_partOf_35 {pr : Ct} {sc : Nat × (Nat → Int32)} {X : En} (d : Nat) {r : Int32} {σ2 : St} (k8 : Int64 → Int64 → Int32 → Int32 → St → Option (Int32 × St)) (hk8 : ∀ (x0 : Int64) (x2 : Int64) (x4 : Int32) (x5 : Int32) (σ : St), k8 x0 x2 x4 x5 σ = some (r, σ2) → Ex mr_X10_partOf sc (Cl MT pr sc (d + 1)) (rtE (some (.int r)) (mk X) σ2) (8, [(0, .long x0), (2, .long x2), (4, .int x4), (5, .int x5)], [], mk X, σ)) (x0 : Int64) (x2 : Int64) (x4 : Int32) (x5 : Int32) (x6 : Int64) (x8 : Int64) (σ : St) (h : f_X10_partOf_35 k8 x0 x2 x4 x5 x6 x8 σ = some (r, σ2)) : Ex mr_X10_partOf sc (Cl MT pr sc (d + 1)) (rtE (some (.int r)) (mk X) σ2) (35, [(0, .long x0), (2, .long x2), (4, .int x4), (5, .int x5), (6, .long x6), (8, .long x8)], [], mk X, σ) := by
  unfold f_X10_partOf_35 at h
  refine Ex.blk 3 rfl ?_
  obtain ⟨p2, hp2, h⟩ := bind_sp h
  refine Exists.intro (some (.long p2.1)) (Exists.intro (mk X) (Exists.intro p2.2 (And.intro (cl_J9_multiplyHigh_f86c9 (d + 0) hp2) ?_)))
  show Ex mr_X10_partOf sc (Cl MT pr sc (d + 1)) (rtE (some (.int r)) (mk X) σ2) (42, [(0, .long x0), (2, .long x2), (4, .int x4), (5, .int x5), (6, .long x6), (8, .long x8)], [.long p2.1], mk X, p2.2)
  refine Ex.blk 5 rfl ?_
  show Ex mr_X10_partOf sc (Cl MT pr sc (d + 1)) (rtE (some (.int r)) (mk X) σ2) (51, [(12, .long (x0 * 1000000)), (10, .long p2.1), (0, .long x0), (2, .long x2), (4, .int x4), (5, .int x5), (6, .long x6), (8, .long x8)], [], mk X, p2.2)
  refine Ex.pick (lv' := _) [2, 3, 4, 5, 6, 7, 1, 0] rfl ?_
  exact lk_X10_partOf_51 d _ hk8 _ _ _ _ _ _ _ _ _ h
theorem lk_X10_partOf_8 {pr : Ct} {sc : Nat × (Nat → Int32)} {X : En} (d : Nat) {r : Int32} {σ2 : St} : ∀ (n : Nat) (x0 : Int64) (x2 : Int64) (x4 : Int32) (x5 : Int32) (σ : St), f_X10_partOf_8 n x0 x2 x4 x5 σ = some (r, σ2) → Ex mr_X10_partOf sc (Cl MT pr sc (d + 1)) (rtE (some (.int r)) (mk X) σ2) (8, [(0, .long x0), (2, .long x2), (4, .int x4), (5, .int x5)], [], mk X, σ) := by
  intro n
  induction n with
  | zero =>
    intro x0 x2 x4 x5 σ h
    cases h
  | succ n ih =>
    intro x0 x2 x4 x5 σ h
    simp only [f_X10_partOf_8] at h
    refine Ex.blk 1000 rfl ?_
    rcases ite_sp h with ⟨c1, h⟩ | ⟨c1, h⟩
    · refine And.intro (fun _ => ?_) (fun hn => absurd c1 hn)
      show Ex mr_X10_partOf sc (Cl MT pr sc (d + 1)) (rtE (some (.int r)) (mk X) σ2) (115, [(0, .long x0), (2, .long x2), (4, .int x4), (5, .int x5)], [], mk X, σ)
      refine Ex.blk 1000 rfl ?_
      cases h
      exact And.intro trivial ⟨rfl, rfl, rfl⟩
    · refine And.intro (fun hp => absurd hp c1) (fun _ => ?_)
      show Ex mr_X10_partOf sc (Cl MT pr sc (d + 1)) (rtE (some (.int r)) (mk X) σ2) (13, [(0, .long x0), (2, .long x2), (4, .int x4), (5, .int x5)], [], mk X, σ)
      refine Ex.blk 5 rfl ?_
      show Ex mr_X10_partOf sc (Cl MT pr sc (d + 1)) (rtE (some (.int r)) (mk X) σ2) (20, [(0, .long x0), (2, .long x2), (4, .int x4), (5, .int x5)], [.long (x4 + x5).toInt64, .long x2], mk X, σ)
      refine Ex.blk 1 rfl ?_
      obtain ⟨p1, hp1, h⟩ := bind_sp h
      refine Exists.intro (some (.long p1.1)) (Exists.intro (mk X) (Exists.intro p1.2 (And.intro (cl_J9_multiplyHigh_f86c9 (d + 0) hp1) ?_)))
      show Ex mr_X10_partOf sc (Cl MT pr sc (d + 1)) (rtE (some (.int r)) (mk X) σ2) (23, [(0, .long x0), (2, .long x2), (4, .int x4), (5, .int x5)], [.long p1.1], mk X, p1.2)
      refine Ex.blk 5 rfl ?_
      show Ex mr_X10_partOf sc (Cl MT pr sc (d + 1)) (rtE (some (.int r)) (mk X) σ2) (31, [(6, .long p1.1), (0, .long x0), (2, .long x2), (4, .int x4), (5, .int x5)], [.int (x4 + x5), .long x2], mk X, p1.2)
      refine Ex.blk 3 rfl ?_
      show Ex mr_X10_partOf sc (Cl MT pr sc (d + 1)) (rtE (some (.int r)) (mk X) σ2) (35, [(8, .long (x2 * ((x4 + x5).toInt64))), (6, .long p1.1), (0, .long x0), (2, .long x2), (4, .int x4), (5, .int x5)], [], mk X, p1.2)
      refine Ex.pick (lv' := _) [2, 3, 4, 5, 1, 0] rfl ?_
      exact lk_X10_partOf_35 d _ ih _ _ _ _ _ _ _ h
theorem cl_X10_partOf {pr : Ct} {sc : Nat × (Nat → Int32)} {X : En} (d : Nat) {r : Int32} {σ2 : St} {x0 : Int64} {x2 : Int64} {σ : St} (h : f_X10_partOf x0 x2 σ = some (r, σ2)) : Cl MT pr sc (d + 1 + 1) 236 [.long x0, .long x2] (mk X) σ (some (.int r)) (mk X) σ2 := by
  refine cl_of mr_X10_partOf rfl rfl ?_
  unfold f_X10_partOf at h
  refine Ex.blk 1000 rfl ?_
  show Ex mr_X10_partOf sc (Cl MT pr sc (d + 1)) (rtE (some (.int r)) (mk X) σ2) (8, [(5, .int 524288), (4, .int 0), (0, .long x0), (2, .long x2)], [], mk X, σ)
  refine Ex.pick (lv' := _) [2, 3, 1, 0] rfl ?_
  exact lk_X10_partOf_8 d FU _ _ _ _ _ h
theorem lk_X10_odds_132 {pr : Ct} {sc : Nat × (Nat → Int32)} {X : En} (d : Nat) {r : Int32} {σ2 : St} (y0 : Int32) (σ : St) (h : f_X10_odds_132 y0 σ = some (r, σ2)) : Ex mr_X10_odds sc (Cl MT pr sc (d + 3)) (rtE (some (.int r)) (mk X) σ2) (132, [], [.int y0], mk X, σ) := by
  unfold f_X10_odds_132 at h
  refine Ex.blk 1000 rfl ?_
  cases h
  exact And.intro trivial ⟨rfl, rfl, rfl⟩
theorem lk_X10_odds_106 {pr : Ct} {sc : Nat × (Nat → Int32)} {X : En} (d : Nat) {r : Int32} {σ2 : St} (k42 : Int32 → Int64 → Int64 → Int64 → Int32 → St → Option (Int32 × St)) (hk42 : ∀ (x1 : Int32) (x2 : Int64) (x4 : Int64) (x6 : Int64) (x8 : Int32) (σ : St), k42 x1 x2 x4 x6 x8 σ = some (r, σ2) → Ex mr_X10_odds sc (Cl MT pr sc (d + 3)) (rtE (some (.int r)) (mk X) σ2) (42, [(0, .ref 38), (1, .int x1), (2, .long x2), (4, .long x4), (6, .long x6), (8, .int x8)], [], mk X, σ)) (x1 : Int32) (x2 : Int64) (x4 : Int64) (x8 : Int32) (y0 : Int64) (σ : St) (h : f_X10_odds_106 k42 x1 x2 x4 x8 y0 σ = some (r, σ2)) : Ex mr_X10_odds sc (Cl MT pr sc (d + 3)) (rtE (some (.int r)) (mk X) σ2) (106, [(0, .ref 38), (1, .int x1), (2, .long x2), (4, .long x4), (8, .int x8)], [.long y0], mk X, σ) := by
  unfold f_X10_odds_106 at h
  refine Ex.blk 1000 rfl ?_
  show Ex mr_X10_odds sc (Cl MT pr sc (d + 3)) (rtE (some (.int r)) (mk X) σ2) (42, [(8, .int (x8 + 1)), (6, .long y0), (0, .ref 38), (1, .int x1), (2, .long x2), (4, .long x4)], [], mk X, σ)
  refine Ex.pick (lv' := _) [2, 3, 4, 5, 1, 0] rfl ?_
  exact hk42 _ _ _ _ _ _ h
theorem lk_X10_odds_93 {pr : Ct} {sc : Nat × (Nat → Int32)} {X : En} (d : Nat) {r : Int32} {σ2 : St} (k42 : Int32 → Int64 → Int64 → Int64 → Int32 → St → Option (Int32 × St)) (hk42 : ∀ (x1 : Int32) (x2 : Int64) (x4 : Int64) (x6 : Int64) (x8 : Int32) (σ : St), k42 x1 x2 x4 x6 x8 σ = some (r, σ2) → Ex mr_X10_odds sc (Cl MT pr sc (d + 3)) (rtE (some (.int r)) (mk X) σ2) (42, [(0, .ref 38), (1, .int x1), (2, .long x2), (4, .long x4), (6, .long x6), (8, .int x8)], [], mk X, σ)) (x1 : Int32) (x2 : Int64) (x4 : Int64) (x6 : Int64) (x8 : Int32) (x9 : Int64) (σ : St) (h : f_X10_odds_93 k42 x1 x2 x4 x6 x8 x9 σ = some (r, σ2)) : Ex mr_X10_odds sc (Cl MT pr sc (d + 3)) (rtE (some (.int r)) (mk X) σ2) (93, [(0, .ref 38), (1, .int x1), (2, .long x2), (4, .long x4), (6, .long x6), (8, .int x8), (9, .long x9)], [], mk X, σ) := by
  unfold f_X10_odds_93 at h
  refine Ex.blk 1000 rfl ?_
  rcases ite_sp h with ⟨c1, h⟩ | ⟨c1, h⟩
  · refine And.intro (fun hp => absurd c1 hp) (fun _ => ?_)
    show Ex mr_X10_odds sc (Cl MT pr sc (d + 3)) (rtE (some (.int r)) (mk X) σ2) (99, [(0, .ref 38), (1, .int x1), (2, .long x2), (4, .long x4), (6, .long x6), (8, .int x8), (9, .long x9)], [], mk X, σ)
    refine Ex.blk 1000 rfl ?_
    show Ex mr_X10_odds sc (Cl MT pr sc (d + 3)) (rtE (some (.int r)) (mk X) σ2) (106, [(0, .ref 38), (1, .int x1), (2, .long x2), (4, .long x4), (6, .long x6), (8, .int x8), (9, .long x9)], [.long x9], mk X, σ)
    refine Ex.pick (lv' := _) [0, 1, 2, 3, 5] rfl ?_
    exact lk_X10_odds_106 d _ hk42 _ _ _ _ _ _ h
  · refine And.intro (fun _ => ?_) (fun hn => absurd c1 hn)
    show Ex mr_X10_odds sc (Cl MT pr sc (d + 3)) (rtE (some (.int r)) (mk X) σ2) (104, [(0, .ref 38), (1, .int x1), (2, .long x2), (4, .long x4), (6, .long x6), (8, .int x8), (9, .long x9)], [], mk X, σ)
    refine Ex.blk 1000 rfl ?_
    show Ex mr_X10_odds sc (Cl MT pr sc (d + 3)) (rtE (some (.int r)) (mk X) σ2) (106, [(0, .ref 38), (1, .int x1), (2, .long x2), (4, .long x4), (6, .long x6), (8, .int x8), (9, .long x9)], [.long x6], mk X, σ)
    refine Ex.pick (lv' := _) [0, 1, 2, 3, 5] rfl ?_
    exact lk_X10_odds_106 d _ hk42 _ _ _ _ _ _ h
theorem lk_X10_odds_86 {pr : Ct} {sc : Nat × (Nat → Int32)} {X : En} (d : Nat) {r : Int32} {σ2 : St} (k42 : Int32 → Int64 → Int64 → Int64 → Int32 → St → Option (Int32 × St)) (hk42 : ∀ (x1 : Int32) (x2 : Int64) (x4 : Int64) (x6 : Int64) (x8 : Int32) (σ : St), k42 x1 x2 x4 x6 x8 σ = some (r, σ2) → Ex mr_X10_odds sc (Cl MT pr sc (d + 3)) (rtE (some (.int r)) (mk X) σ2) (42, [(0, .ref 38), (1, .int x1), (2, .long x2), (4, .long x4), (6, .long x6), (8, .int x8)], [], mk X, σ)) (x1 : Int32) (x2 : Int64) (x4 : Int64) (x6 : Int64) (x8 : Int32) (x9 : Int64) (σ : St) (h : f_X10_odds_86 k42 x1 x2 x4 x6 x8 x9 σ = some (r, σ2)) : Ex mr_X10_odds sc (Cl MT pr sc (d + 3)) (rtE (some (.int r)) (mk X) σ2) (86, [(0, .ref 38), (1, .int x1), (2, .long x2), (4, .long x4), (6, .long x6), (8, .int x8), (9, .long x9)], [], mk X, σ) := by
  unfold f_X10_odds_86 at h
  refine Ex.blk 4 rfl ?_
  show Ex mr_X10_odds sc (Cl MT pr sc (d + 3)) (rtE (some (.int r)) (mk X) σ2) (93, [(4, .long (x4 + x9)), (0, .ref 38), (1, .int x1), (2, .long x2), (6, .long x6), (8, .int x8), (9, .long x9)], [], mk X, σ)
  refine Ex.pick (lv' := _) [1, 2, 3, 0, 4, 5, 6] rfl ?_
  exact lk_X10_odds_93 d _ hk42 _ _ _ _ _ _ _ h
theorem lk_X10_odds_42 {pr : Ct} {sc : Nat × (Nat → Int32)} {X : En} (d : Nat) {r : Int32} {σ2 : St} : ∀ (n : Nat) (x1 : Int32) (x2 : Int64) (x4 : Int64) (x6 : Int64) (x8 : Int32) (σ : St), f_X10_odds_42 n x1 x2 x4 x6 x8 σ = some (r, σ2) → Ex mr_X10_odds sc (Cl MT pr sc (d + 3)) (rtE (some (.int r)) (mk X) σ2) (42, [(0, .ref 38), (1, .int x1), (2, .long x2), (4, .long x4), (6, .long x6), (8, .int x8)], [], mk X, σ) := by
  intro n
  induction n with
  | zero =>
    intro x1 x2 x4 x6 x8 σ h
    cases h
  | succ n ih =>
    intro x1 x2 x4 x6 x8 σ h
    simp only [f_X10_odds_42] at h
    refine Ex.blk 1000 rfl ?_
    rcases ite_sp h with ⟨c1, h⟩ | ⟨c1, h⟩
    · refine And.intro (fun _ => ?_) (fun hn => absurd c1 hn)
      show Ex mr_X10_odds sc (Cl MT pr sc (d + 3)) (rtE (some (.int r)) (mk X) σ2) (114, [(0, .ref 38), (1, .int x1), (2, .long x2), (4, .long x4), (6, .long x6), (8, .int x8)], [], mk X, σ)
      refine Ex.blk 1000 rfl ?_
      rcases ite_sp h with ⟨c2, h⟩ | ⟨c2, h⟩
      · refine And.intro (fun hp => absurd c2 hp) (fun _ => ?_)
        show Ex mr_X10_odds sc (Cl MT pr sc (d + 3)) (rtE (some (.int r)) (mk X) σ2) (121, [(0, .ref 38), (1, .int x1), (2, .long x2), (4, .long x4), (6, .long x6), (8, .int x8)], [], mk X, σ)
        refine Ex.blk 1000 rfl ?_
        show Ex mr_X10_odds sc (Cl MT pr sc (d + 3)) (rtE (some (.int r)) (mk X) σ2) (132, [(0, .ref 38), (1, .int x1), (2, .long x2), (4, .long x4), (6, .long x6), (8, .int x8)], [.int 0], mk X, σ)
        refine Ex.pick (lv' := _) [] rfl ?_
        exact lk_X10_odds_132 d _ _ h
      · refine And.intro (fun _ => ?_) (fun hn => absurd c2 hn)
        show Ex mr_X10_odds sc (Cl MT pr sc (d + 3)) (rtE (some (.int r)) (mk X) σ2) (125, [(0, .ref 38), (1, .int x1), (2, .long x2), (4, .long x4), (6, .long x6), (8, .int x8)], [], mk X, σ)
        refine Ex.blk 3 rfl ?_
        obtain ⟨p3, hp3, h⟩ := bind_sp h
        refine Exists.intro (some (.int p3.1)) (Exists.intro (mk X) (Exists.intro p3.2 (And.intro (cl_X10_partOf (d + 1) hp3) ?_)))
        show Ex mr_X10_odds sc (Cl MT pr sc (d + 3)) (rtE (some (.int r)) (mk X) σ2) (132, [(0, .ref 38), (1, .int x1), (2, .long x2), (4, .long x4), (6, .long x6), (8, .int x8)], [.int p3.1], mk X, p3.2)
        refine Ex.pick (lv' := _) [] rfl ?_
        exact lk_X10_odds_132 d _ _ h
    · refine And.intro (fun hp => absurd hp c1) (fun _ => ?_)
      show Ex mr_X10_odds sc (Cl MT pr sc (d + 3)) (rtE (some (.int r)) (mk X) σ2) (51, [(0, .ref 38), (1, .int x1), (2, .long x2), (4, .long x4), (6, .long x6), (8, .int x8)], [], mk X, σ)
      refine Ex.blk 5 rfl ?_
      obtain ⟨g3, h⟩ := gd_some h
      refine And.intro (inb_ok g3) ?_
      show Ex mr_X10_odds sc (Cl MT pr sc (d + 3)) (rtE (some (.int r)) (mk X) σ2) (59, [(0, .ref 38), (1, .int x1), (2, .long x2), (4, .long x4), (6, .long x6), (8, .int x8)], [.int (gI σ 54 x8.toNatClampNeg), .ref 38], mk X, σ)
      refine Ex.blk 2 rfl ?_
      obtain ⟨p4, hp4, h⟩ := bind_sp h
      refine Exists.intro (some (.long p4.1)) (Exists.intro (mk X) (Exists.intro p4.2 (And.intro (cl_X10_heardAs (d + 1) hp4) ?_)))
      show Ex mr_X10_odds sc (Cl MT pr sc (d + 3)) (rtE (some (.int r)) (mk X) σ2) (63, [(0, .ref 38), (1, .int x1), (2, .long x2), (4, .long x4), (6, .long x6), (8, .int x8)], [.long p4.1], mk X, p4.2)
      refine Ex.blk 5 rfl ?_
      show Ex mr_X10_odds sc (Cl MT pr sc (d + 3)) (rtE (some (.int r)) (mk X) σ2) (71, [(0, .ref 38), (1, .int x1), (2, .long x2), (4, .long x4), (6, .long x6), (8, .int x8)], [.ref 54, .ref 38, .int 2, .int 18, .long p4.1], mk X, p4.2)
      refine Ex.blk 2 rfl ?_
      obtain ⟨g4, h⟩ := gd_some h
      refine And.intro (inb_ok g4) ?_
      show Ex mr_X10_odds sc (Cl MT pr sc (d + 3)) (rtE (some (.int r)) (mk X) σ2) (74, [(0, .ref 38), (1, .int x1), (2, .long x2), (4, .long x4), (6, .long x6), (8, .int x8)], [.int (gI p4.2 54 x8.toNatClampNeg), .ref 38, .int 2, .int 18, .long p4.1], mk X, p4.2)
      refine Ex.blk 2 rfl ?_
      obtain ⟨p5, hp5, h⟩ := bind_sp h
      refine Exists.intro (some (.int p5.1)) (Exists.intro (mk X) (Exists.intro p5.2 (And.intro (cl_X10_many (d + 2) hp5) ?_)))
      show Ex mr_X10_odds sc (Cl MT pr sc (d + 3)) (rtE (some (.int r)) (mk X) σ2) (78, [(0, .ref 38), (1, .int x1), (2, .long x2), (4, .long x4), (6, .long x6), (8, .int x8)], [.int p5.1, .int 2, .int 18, .long p4.1], mk X, p5.2)
      refine Ex.blk 3 rfl ?_
      obtain ⟨p6, hp6, h⟩ := bind_sp h
      refine Exists.intro (some (.long p6.1)) (Exists.intro (mk X) (Exists.intro p6.2 (And.intro (cl_X10_ten (d + 2) hp6) ?_)))
      show Ex mr_X10_odds sc (Cl MT pr sc (d + 3)) (rtE (some (.int r)) (mk X) σ2) (83, [(0, .ref 38), (1, .int x1), (2, .long x2), (4, .long x4), (6, .long x6), (8, .int x8)], [.long p6.1, .long p4.1], mk X, p6.2)
      refine Ex.blk 2 rfl ?_
      show Ex mr_X10_odds sc (Cl MT pr sc (d + 3)) (rtE (some (.int r)) (mk X) σ2) (86, [(9, .long (p4.1 * p6.1)), (0, .ref 38), (1, .int x1), (2, .long x2), (4, .long x4), (6, .long x6), (8, .int x8)], [], mk X, p6.2)
      refine Ex.pick (lv' := _) [1, 2, 3, 4, 5, 6, 0] rfl ?_
      exact lk_X10_odds_86 d _ ih _ _ _ _ _ _ _ h
theorem cl_X10_odds {pr : Ct} {sc : Nat × (Nat → Int32)} {X : En} (d : Nat) {r : Int32} {σ2 : St} {x1 : Int32} {σ : St} (h : f_X10_odds x1 σ = some (r, σ2)) : Cl MT pr sc (d + 3 + 1) 237 [.ref 38, .int x1] (mk X) σ (some (.int r)) (mk X) σ2 := by
  refine cl_of mr_X10_odds rfl rfl ?_
  unfold f_X10_odds at h
  refine Ex.blk 5 rfl ?_
  show Ex mr_X10_odds sc (Cl MT pr sc (d + 3)) (rtE (some (.int r)) (mk X) σ2) (7, [(0, .ref 38), (1, .int x1)], [.int (gI σ 38 33), .long 0, .long x1.toInt64], mk X, σ)
  refine Ex.blk 4 rfl ?_
  obtain ⟨p1, hp1, h⟩ := bind_sp h
  refine Exists.intro (some (.int p1.1)) (Exists.intro (mk X) (Exists.intro p1.2 (And.intro (cl_X10_in (d + 2) hp1) ?_)))
  show Ex mr_X10_odds sc (Cl MT pr sc (d + 3)) (rtE (some (.int r)) (mk X) σ2) (13, [(0, .ref 38), (1, .int x1)], [.int p1.1], mk X, p1.2)
  refine Ex.blk 1000 rfl ?_
  rcases ite_sp h with ⟨c1, h⟩ | ⟨c1, h⟩
  · refine And.intro (fun hp => absurd c1 hp) (fun _ => ?_)
    show Ex mr_X10_odds sc (Cl MT pr sc (d + 3)) (rtE (some (.int r)) (mk X) σ2) (16, [(0, .ref 38), (1, .int x1)], [], mk X, p1.2)
    refine Ex.blk 1000 rfl ?_
    cases h
    exact And.intro trivial ⟨rfl, rfl, rfl⟩
  · refine And.intro (fun _ => ?_) (fun hn => absurd c1 hn)
    show Ex mr_X10_odds sc (Cl MT pr sc (d + 3)) (rtE (some (.int r)) (mk X) σ2) (18, [(0, .ref 38), (1, .int x1)], [], mk X, p1.2)
    refine Ex.blk 1000 rfl ?_
    rcases ite_sp h with ⟨c2, h⟩ | ⟨c2, h⟩
    · refine And.intro (fun _ => ?_) (fun hn => absurd c2 hn)
      show Ex mr_X10_odds sc (Cl MT pr sc (d + 3)) (rtE (some (.int r)) (mk X) σ2) (28, [(0, .ref 38), (1, .int x1)], [], mk X, p1.2)
      refine Ex.blk 2 rfl ?_
      obtain ⟨p2, hp2, h⟩ := bind_sp h
      refine Exists.intro (some (.long p2.1)) (Exists.intro (mk X) (Exists.intro p2.2 (And.intro (cl_X10_seenNumber (d + 0) hp2) ?_)))
      show Ex mr_X10_odds sc (Cl MT pr sc (d + 3)) (rtE (some (.int r)) (mk X) σ2) (32, [(0, .ref 38), (1, .int x1)], [.long p2.1], mk X, p2.2)
      refine Ex.blk 5 rfl ?_
      show Ex mr_X10_odds sc (Cl MT pr sc (d + 3)) (rtE (some (.int r)) (mk X) σ2) (39, [(6, .long 0), (4, .long 0), (2, .long p2.1), (0, .ref 38), (1, .int x1)], [], mk X, p2.2)
      refine Ex.blk 1000 rfl ?_
      show Ex mr_X10_odds sc (Cl MT pr sc (d + 3)) (rtE (some (.int r)) (mk X) σ2) (42, [(8, .int 0), (6, .long 0), (4, .long 0), (2, .long p2.1), (0, .ref 38), (1, .int x1)], [], mk X, p2.2)
      refine Ex.pick (lv' := _) [4, 5, 3, 2, 1, 0] rfl ?_
      exact lk_X10_odds_42 d FU _ _ _ _ _ _ h
    · refine And.intro (fun hp => absurd hp c2) (fun _ => ?_)
      show Ex mr_X10_odds sc (Cl MT pr sc (d + 3)) (rtE (some (.int r)) (mk X) σ2) (25, [(0, .ref 38), (1, .int x1)], [], mk X, p1.2)
      refine Ex.blk 1000 rfl ?_
      cases h
      exact And.intro trivial ⟨rfl, rfl, rfl⟩
theorem lk_X10_ends_35 {pr : Ct} {sc : Nat × (Nat → Int32)} {X : En} (d : Nat) {σ2 : St} (y0 : Int32) (y1 : Int32) (y2 : Int32) (σ : St) (h : f_X10_ends_35 y0 y1 y2 σ = some σ2) : Ex mr_X10_ends sc (Cl MT pr sc (d + 0)) (rtE none (mk X) σ2) (35, [], [.int y0, .int y1, .int y2, .ref 62], mk X, σ) := by
  unfold f_X10_ends_35 at h
  refine Ex.blk 2 rfl ?_
  obtain ⟨g1, h⟩ := gd_some h
  refine And.intro (inb_ok g1) ?_
  show Ex mr_X10_ends sc (Cl MT pr sc (d + 0)) (rtE none (mk X) σ2) (37, [], [], mk X, (sI σ 62 y2.toNatClampNeg (y1 + y0)))
  refine Ex.blk 1000 rfl ?_
  cases h
  exact And.intro trivial ⟨rfl, rfl, rfl⟩
theorem lk_X10_ends_19 {pr : Ct} {sc : Nat × (Nat → Int32)} {X : En} (d : Nat) {σ2 : St} (x1 : Int32) (x2 : Int32) (σ : St) (h : f_X10_ends_19 x1 x2 σ = some σ2) : Ex mr_X10_ends sc (Cl MT pr sc (d + 0)) (rtE none (mk X) σ2) (19, [(0, .ref 38), (1, .int x1), (2, .int x2)], [], mk X, σ) := by
  unfold f_X10_ends_19 at h
  refine Ex.blk 5 rfl ?_
  obtain ⟨g1, h⟩ := gd_some h
  refine And.intro (inb_ok g1) ?_
  show Ex mr_X10_ends sc (Cl MT pr sc (d + 0)) (rtE none (mk X) σ2) (26, [(0, .ref 38), (1, .int x1), (2, .int x2)], [.int (gI σ 62 x1.toNatClampNeg), .int x1, .ref 62], mk X, σ)
  refine Ex.blk 1000 rfl ?_
  rcases ite_sp h with ⟨c2, h⟩ | ⟨c2, h⟩
  · refine And.intro (fun _ => ?_) (fun hn => absurd c2 hn)
    show Ex mr_X10_ends sc (Cl MT pr sc (d + 0)) (rtE none (mk X) σ2) (34, [(0, .ref 38), (1, .int x1), (2, .int x2)], [.int (gI σ 62 x1.toNatClampNeg), .int x1, .ref 62], mk X, σ)
    refine Ex.blk 1000 rfl ?_
    show Ex mr_X10_ends sc (Cl MT pr sc (d + 0)) (rtE none (mk X) σ2) (35, [(0, .ref 38), (1, .int x1), (2, .int x2)], [.int 0, .int (gI σ 62 x1.toNatClampNeg), .int x1, .ref 62], mk X, σ)
    refine Ex.pick (lv' := _) [] rfl ?_
    exact lk_X10_ends_35 d _ _ _ _ h
  · refine And.intro (fun hp => absurd hp c2) (fun _ => ?_)
    show Ex mr_X10_ends sc (Cl MT pr sc (d + 0)) (rtE none (mk X) σ2) (30, [(0, .ref 38), (1, .int x1), (2, .int x2)], [.int (gI σ 62 x1.toNatClampNeg), .int x1, .ref 62], mk X, σ)
    refine Ex.blk 1000 rfl ?_
    show Ex mr_X10_ends sc (Cl MT pr sc (d + 0)) (rtE none (mk X) σ2) (35, [(0, .ref 38), (1, .int x1), (2, .int x2)], [.int 1, .int (gI σ 62 x1.toNatClampNeg), .int x1, .ref 62], mk X, σ)
    refine Ex.pick (lv' := _) [] rfl ?_
    exact lk_X10_ends_35 d _ _ _ _ h
theorem cl_X10_ends {pr : Ct} {sc : Nat × (Nat → Int32)} {X : En} (d : Nat) {σ2 : St} {x1 : Int32} {x2 : Int32} {σ : St} (h : f_X10_ends x1 x2 σ = some σ2) : Cl MT pr sc (d + 0 + 1) 238 [.ref 38, .int x1, .int x2] (mk X) σ none (mk X) σ2 := by
  refine cl_of mr_X10_ends rfl rfl ?_
  unfold f_X10_ends at h
  refine Ex.blk 5 rfl ?_
  show Ex mr_X10_ends sc (Cl MT pr sc (d + 0)) (rtE none (mk X) σ2) (9, [(0, .ref 38), (1, .int x1), (2, .int x2)], [.ref 59, .int x1, .ref 64], mk X, σ)
  refine Ex.blk 2 rfl ?_
  obtain ⟨g1, h⟩ := gd_some h
  refine And.intro (inb_ok g1) ?_
  show Ex mr_X10_ends sc (Cl MT pr sc (d + 0)) (rtE none (mk X) σ2) (11, [(0, .ref 38), (1, .int x1), (2, .int x2)], [.int (gI σ 59 x1.toNatClampNeg), .int x1, .ref 64], mk X, σ)
  refine Ex.blk 1 rfl ?_
  obtain ⟨g2, h⟩ := gd_some h
  refine And.intro (inb_ok g2) ?_
  show Ex mr_X10_ends sc (Cl MT pr sc (d + 0)) (rtE none (mk X) σ2) (12, [(0, .ref 38), (1, .int x1), (2, .int x2)], [], mk X, (sI σ 64 x1.toNatClampNeg (gI σ 59 x1.toNatClampNeg)))
  refine Ex.blk 5 rfl ?_
  obtain ⟨g3, h⟩ := gd_some h
  refine And.intro (inb_ok g3) ?_
  show Ex mr_X10_ends sc (Cl MT pr sc (d + 0)) (rtE none (mk X) σ2) (19, [(0, .ref 38), (1, .int x1), (2, .int x2)], [], mk X, (sI (sI σ 64 x1.toNatClampNeg (gI σ 59 x1.toNatClampNeg)) 58 x1.toNatClampNeg (-1)))
  exact lk_X10_ends_19 d _ _ _ h
theorem lk_X10_work_267 {pr : Ct} {sc : Nat × (Nat → Int32)} {X : En} (d : Nat) {σ2 : St} (σ : St) (h : f_X10_work_267 σ = some σ2) : Ex mr_X10_work sc (Cl MT pr sc (d + 1)) (rtE none (mk X) σ2) (267, [], [], mk X, σ) := by
  unfold f_X10_work_267 at h
  refine Ex.blk 1000 rfl ?_
  cases h
  exact And.intro trivial ⟨rfl, rfl, rfl⟩
theorem lk_X10_work_264 {pr : Ct} {sc : Nat × (Nat → Int32)} {X : En} (d : Nat) {σ2 : St} (k24 : Int32 → Int32 → Int32 → Int32 → Int32 → St → Option (St)) (hk24 : ∀ (x1 : Int32) (x2 : Int32) (x3 : Int32) (x4 : Int32) (x5 : Int32) (σ : St), k24 x1 x2 x3 x4 x5 σ = some σ2 → Ex mr_X10_work sc (Cl MT pr sc (d + 1)) (rtE none (mk X) σ2) (24, [(0, .ref 38), (1, .int x1), (2, .int x2), (3, .int x3), (4, .int x4), (5, .int x5)], [], mk X, σ)) (x1 : Int32) (x2 : Int32) (x3 : Int32) (x4 : Int32) (x5 : Int32) (σ : St) (h : f_X10_work_264 k24 x1 x2 x3 x4 x5 σ = some σ2) : Ex mr_X10_work sc (Cl MT pr sc (d + 1)) (rtE none (mk X) σ2) (264, [(0, .ref 38), (1, .int x1), (2, .int x2), (3, .int x3), (4, .int x4), (5, .int x5)], [], mk X, σ) := by
  unfold f_X10_work_264 at h
  refine Ex.blk 1000 rfl ?_
  show Ex mr_X10_work sc (Cl MT pr sc (d + 1)) (rtE none (mk X) σ2) (24, [(0, .ref 38), (1, .int x1), (2, .int x2), (3, .int x3), (4, .int x4), (5, .int x5)], [], mk X, σ)
  exact hk24 _ _ _ _ _ _ h
theorem lk_X10_work_233 {pr : Ct} {sc : Nat × (Nat → Int32)} {X : En} (d : Nat) {σ2 : St} (k24 : Int32 → Int32 → Int32 → Int32 → Int32 → St → Option (St)) (hk24 : ∀ (x1 : Int32) (x2 : Int32) (x3 : Int32) (x4 : Int32) (x5 : Int32) (σ : St), k24 x1 x2 x3 x4 x5 σ = some σ2 → Ex mr_X10_work sc (Cl MT pr sc (d + 1)) (rtE none (mk X) σ2) (24, [(0, .ref 38), (1, .int x1), (2, .int x2), (3, .int x3), (4, .int x4), (5, .int x5)], [], mk X, σ)) (x1 : Int32) (x2 : Int32) (x3 : Int32) (x4 : Int32) (x5 : Int32) (x8 : Int32) (σ : St) (h : f_X10_work_233 k24 x1 x2 x3 x4 x5 x8 σ = some σ2) : Ex mr_X10_work sc (Cl MT pr sc (d + 1)) (rtE none (mk X) σ2) (233, [(0, .ref 38), (1, .int x1), (2, .int x2), (3, .int x3), (4, .int x4), (5, .int x5), (8, .int x8)], [], mk X, σ) := by
  unfold f_X10_work_233 at h
  refine Ex.blk 5 rfl ?_
  show Ex mr_X10_work sc (Cl MT pr sc (d + 1)) (rtE none (mk X) σ2) (241, [(0, .ref 38), (1, .int x1), (2, .int x2), (3, .int x3), (4, .int x4), (5, .int x5), (8, .int x8)], [.int x8, .int x2, .int x1, .ref 58], mk X, σ)
  refine Ex.blk 5 rfl ?_
  obtain ⟨g1, h⟩ := gd_some h
  refine And.intro (inb_ok g1) ?_
  show Ex mr_X10_work sc (Cl MT pr sc (d + 1)) (rtE none (mk X) σ2) (248, [(0, .ref 38), (1, .int x1), (2, .int x2), (3, .int x3), (4, .int x4), (5, .int x5), (8, .int x8)], [], mk X, (sI σ 58 x1.toNatClampNeg (x2 + (x8 * (gI σ 38 12)))))
  refine Ex.blk 1000 rfl ?_
  rcases ite_sp h with ⟨c2, h⟩ | ⟨c2, h⟩
  · refine And.intro (fun hp => absurd c2 hp) (fun _ => ?_)
    show Ex mr_X10_work sc (Cl MT pr sc (d + 1)) (rtE none (mk X) σ2) (253, [(0, .ref 38), (1, .int x1), (2, .int x2), (3, .int x3), (4, .int x4), (5, .int x5), (8, .int x8)], [], mk X, (sI σ 58 x1.toNatClampNeg (x2 + (x8 * (gI σ 38 12)))))
    refine Ex.blk 5 rfl ?_
    show Ex mr_X10_work sc (Cl MT pr sc (d + 1)) (rtE none (mk X) σ2) (260, [(0, .ref 38), (1, .int x1), (2, .int x2), (3, .int x3), (4, .int x4), (5, .int x5), (8, .int x8)], [.int x1, .ref 60, .int x1, .ref 38], mk X, (sI σ 58 x1.toNatClampNeg (x2 + (x8 * (gI σ 38 12)))))
    refine Ex.blk 1 rfl ?_
    obtain ⟨g3, h⟩ := gd_some h
    refine And.intro (inb_ok g3) ?_
    show Ex mr_X10_work sc (Cl MT pr sc (d + 1)) (rtE none (mk X) σ2) (261, [(0, .ref 38), (1, .int x1), (2, .int x2), (3, .int x3), (4, .int x4), (5, .int x5), (8, .int x8)], [.int (gI (sI σ 58 x1.toNatClampNeg (x2 + (x8 * (gI σ 38 12)))) 60 x1.toNatClampNeg), .int x1, .ref 38], mk X, (sI σ 58 x1.toNatClampNeg (x2 + (x8 * (gI σ 38 12)))))
    refine Ex.blk 1 rfl ?_
    obtain ⟨p1, hp1, h⟩ := bind_sp h
    refine Exists.intro none (Exists.intro (mk X) (Exists.intro p1 (And.intro (cl_X10_ends (d + 0) hp1) ?_)))
    show Ex mr_X10_work sc (Cl MT pr sc (d + 1)) (rtE none (mk X) σ2) (264, [(0, .ref 38), (1, .int x1), (2, .int x2), (3, .int x3), (4, .int x4), (5, .int x5), (8, .int x8)], [], mk X, p1)
    refine Ex.pick (lv' := _) [0, 1, 2, 3, 4, 5] rfl ?_
    exact lk_X10_work_264 d _ hk24 _ _ _ _ _ _ h
  · refine And.intro (fun _ => ?_) (fun hn => absurd c2 hn)
    show Ex mr_X10_work sc (Cl MT pr sc (d + 1)) (rtE none (mk X) σ2) (264, [(0, .ref 38), (1, .int x1), (2, .int x2), (3, .int x3), (4, .int x4), (5, .int x5), (8, .int x8)], [], mk X, (sI σ 58 x1.toNatClampNeg (x2 + (x8 * (gI σ 38 12)))))
    refine Ex.pick (lv' := _) [0, 1, 2, 3, 4, 5] rfl ?_
    exact lk_X10_work_264 d _ hk24 _ _ _ _ _ _ h
theorem lk_X10_work_214 {pr : Ct} {sc : Nat × (Nat → Int32)} {X : En} (d : Nat) {σ2 : St} (k24 : Int32 → Int32 → Int32 → Int32 → Int32 → St → Option (St)) (hk24 : ∀ (x1 : Int32) (x2 : Int32) (x3 : Int32) (x4 : Int32) (x5 : Int32) (σ : St), k24 x1 x2 x3 x4 x5 σ = some σ2 → Ex mr_X10_work sc (Cl MT pr sc (d + 1)) (rtE none (mk X) σ2) (24, [(0, .ref 38), (1, .int x1), (2, .int x2), (3, .int x3), (4, .int x4), (5, .int x5)], [], mk X, σ)) (x1 : Int32) (x2 : Int32) (x3 : Int32) (x4 : Int32) (x5 : Int32) (y0 : Int32) (y1 : Int32) (σ : St) (h : f_X10_work_214 k24 x1 x2 x3 x4 x5 y0 y1 σ = some σ2) : Ex mr_X10_work sc (Cl MT pr sc (d + 1)) (rtE none (mk X) σ2) (214, [(0, .ref 38), (1, .int x1), (2, .int x2), (3, .int x3), (4, .int x4), (5, .int x5)], [.int y0, .int y1, .ref 60], mk X, σ) := by
  unfold f_X10_work_214 at h
  refine Ex.blk 1 rfl ?_
  obtain ⟨g1, h⟩ := gd_some h
  refine And.intro (inbz_ok g1) ?_
  show Ex mr_X10_work sc (Cl MT pr sc (d + 1)) (rtE none (mk X) σ2) (215, [(0, .ref 38), (1, .int x1), (2, .int x2), (3, .int x3), (4, .int x4), (5, .int x5)], [], mk X, (sI σ 60 y1.toNatClampNeg y0))
  refine Ex.blk 4 rfl ?_
  obtain ⟨g2, h⟩ := gd_some h
  refine And.intro (inb_ok g2) ?_
  show Ex mr_X10_work sc (Cl MT pr sc (d + 1)) (rtE none (mk X) σ2) (221, [(0, .ref 38), (1, .int x1), (2, .int x2), (3, .int x3), (4, .int x4), (5, .int x5)], [.int (gI (sI σ 60 y1.toNatClampNeg y0) 59 x1.toNatClampNeg)], mk X, (sI σ 60 y1.toNatClampNeg y0))
  refine Ex.blk 4 rfl ?_
  obtain ⟨g3, h⟩ := gd_some h
  refine And.intro (inb_ok g3) ?_
  show Ex mr_X10_work sc (Cl MT pr sc (d + 1)) (rtE none (mk X) σ2) (227, [(0, .ref 38), (1, .int x1), (2, .int x2), (3, .int x3), (4, .int x4), (5, .int x5)], [.int (gI (sI σ 60 y1.toNatClampNeg y0) 64 x1.toNatClampNeg), .int (gI (sI σ 60 y1.toNatClampNeg y0) 59 x1.toNatClampNeg)], mk X, (sI σ 60 y1.toNatClampNeg y0))
  refine Ex.blk 3 rfl ?_
  show Ex mr_X10_work sc (Cl MT pr sc (d + 1)) (rtE none (mk X) σ2) (233, [(8, .int (abI ((gI (sI σ 60 y1.toNatClampNeg y0) 59 x1.toNatClampNeg) - (gI (sI σ 60 y1.toNatClampNeg y0) 64 x1.toNatClampNeg)))), (0, .ref 38), (1, .int x1), (2, .int x2), (3, .int x3), (4, .int x4), (5, .int x5)], [], mk X, (sI σ 60 y1.toNatClampNeg y0))
  refine Ex.pick (lv' := _) [1, 2, 3, 4, 5, 6, 0] rfl ?_
  exact lk_X10_work_233 d _ hk24 _ _ _ _ _ _ _ h
theorem lk_X10_work_197 {pr : Ct} {sc : Nat × (Nat → Int32)} {X : En} (d : Nat) {σ2 : St} (k24 : Int32 → Int32 → Int32 → Int32 → Int32 → St → Option (St)) (hk24 : ∀ (x1 : Int32) (x2 : Int32) (x3 : Int32) (x4 : Int32) (x5 : Int32) (σ : St), k24 x1 x2 x3 x4 x5 σ = some σ2 → Ex mr_X10_work sc (Cl MT pr sc (d + 1)) (rtE none (mk X) σ2) (24, [(0, .ref 38), (1, .int x1), (2, .int x2), (3, .int x3), (4, .int x4), (5, .int x5)], [], mk X, σ)) (x1 : Int32) (x2 : Int32) (x3 : Int32) (x4 : Int32) (x5 : Int32) (x7 : Int32) (σ : St) (h : f_X10_work_197 k24 x1 x2 x3 x4 x5 x7 σ = some σ2) : Ex mr_X10_work sc (Cl MT pr sc (d + 1)) (rtE none (mk X) σ2) (197, [(0, .ref 38), (1, .int x1), (2, .int x2), (3, .int x3), (4, .int x4), (5, .int x5), (7, .int x7)], [], mk X, σ) := by
  unfold f_X10_work_197 at h
  refine Ex.blk 5 rfl ?_
  show Ex mr_X10_work sc (Cl MT pr sc (d + 1)) (rtE none (mk X) σ2) (206, [(0, .ref 38), (1, .int x1), (2, .int x2), (3, .int x3), (4, .int x4), (5, .int x5), (7, .int x7)], [.int 9, .int x7, .int x1, .ref 60], mk X, σ)
  refine Ex.blk 1000 rfl ?_
  rcases ite_sp h with ⟨c1, h⟩ | ⟨c1, h⟩
  · refine And.intro (fun _ => ?_) (fun hn => absurd c1 hn)
    show Ex mr_X10_work sc (Cl MT pr sc (d + 1)) (rtE none (mk X) σ2) (213, [(0, .ref 38), (1, .int x1), (2, .int x2), (3, .int x3), (4, .int x4), (5, .int x5), (7, .int x7)], [.int x1, .ref 60], mk X, σ)
    refine Ex.blk 1000 rfl ?_
    show Ex mr_X10_work sc (Cl MT pr sc (d + 1)) (rtE none (mk X) σ2) (214, [(0, .ref 38), (1, .int x1), (2, .int x2), (3, .int x3), (4, .int x4), (5, .int x5), (7, .int x7)], [.int 0, .int x1, .ref 60], mk X, σ)
    refine Ex.pick (lv' := _) [0, 1, 2, 3, 4, 5] rfl ?_
    exact lk_X10_work_214 d _ hk24 _ _ _ _ _ _ _ _ h
  · refine And.intro (fun hp => absurd hp c1) (fun _ => ?_)
    show Ex mr_X10_work sc (Cl MT pr sc (d + 1)) (rtE none (mk X) σ2) (209, [(0, .ref 38), (1, .int x1), (2, .int x2), (3, .int x3), (4, .int x4), (5, .int x5), (7, .int x7)], [.int x1, .ref 60], mk X, σ)
    refine Ex.blk 1000 rfl ?_
    show Ex mr_X10_work sc (Cl MT pr sc (d + 1)) (rtE none (mk X) σ2) (214, [(0, .ref 38), (1, .int x1), (2, .int x2), (3, .int x3), (4, .int x4), (5, .int x5), (7, .int x7)], [.int 1, .int x1, .ref 60], mk X, σ)
    refine Ex.pick (lv' := _) [0, 1, 2, 3, 4, 5] rfl ?_
    exact lk_X10_work_214 d _ hk24 _ _ _ _ _ _ _ _ h
theorem lk_X10_work_187 {pr : Ct} {sc : Nat × (Nat → Int32)} {X : En} (d : Nat) {σ2 : St} (k24 : Int32 → Int32 → Int32 → Int32 → Int32 → St → Option (St)) (hk24 : ∀ (x1 : Int32) (x2 : Int32) (x3 : Int32) (x4 : Int32) (x5 : Int32) (σ : St), k24 x1 x2 x3 x4 x5 σ = some σ2 → Ex mr_X10_work sc (Cl MT pr sc (d + 1)) (rtE none (mk X) σ2) (24, [(0, .ref 38), (1, .int x1), (2, .int x2), (3, .int x3), (4, .int x4), (5, .int x5)], [], mk X, σ)) (x1 : Int32) (x2 : Int32) (x3 : Int32) (x4 : Int32) (x5 : Int32) (x7 : Int32) (y0 : Int32) (y1 : Int32) (σ : St) (h : f_X10_work_187 k24 x1 x2 x3 x4 x5 x7 y0 y1 σ = some σ2) : Ex mr_X10_work sc (Cl MT pr sc (d + 1)) (rtE none (mk X) σ2) (187, [(0, .ref 38), (1, .int x1), (2, .int x2), (3, .int x3), (4, .int x4), (5, .int x5), (7, .int x7)], [.int y0, .int y1, .ref 59], mk X, σ) := by
  unfold f_X10_work_187 at h
  refine Ex.blk 4 rfl ?_
  obtain ⟨g1, h⟩ := gd_some h
  refine And.intro (inb_ok g1) ?_
  show Ex mr_X10_work sc (Cl MT pr sc (d + 1)) (rtE none (mk X) σ2) (193, [(0, .ref 38), (1, .int x1), (2, .int x2), (3, .int x3), (4, .int x4), (5, .int x5), (7, .int x7)], [.int (gI σ 44 x1.toNatClampNeg), .int y0, .int y1, .ref 59], mk X, σ)
  refine Ex.blk 2 rfl ?_
  obtain ⟨g2, h⟩ := gd_some h
  refine And.intro (inb_ok g2) ?_
  show Ex mr_X10_work sc (Cl MT pr sc (d + 1)) (rtE none (mk X) σ2) (197, [(0, .ref 38), (1, .int x1), (2, .int x2), (3, .int x3), (4, .int x4), (5, .int x5), (7, .int x7)], [], mk X, (sI σ 59 y1.toNatClampNeg (mnI y0 (gI σ 44 x1.toNatClampNeg))))
  exact lk_X10_work_197 d _ hk24 _ _ _ _ _ _ _ h
theorem lk_X10_work_163 {pr : Ct} {sc : Nat × (Nat → Int32)} {X : En} (d : Nat) {σ2 : St} (k24 : Int32 → Int32 → Int32 → Int32 → Int32 → St → Option (St)) (hk24 : ∀ (x1 : Int32) (x2 : Int32) (x3 : Int32) (x4 : Int32) (x5 : Int32) (σ : St), k24 x1 x2 x3 x4 x5 σ = some σ2 → Ex mr_X10_work sc (Cl MT pr sc (d + 1)) (rtE none (mk X) σ2) (24, [(0, .ref 38), (1, .int x1), (2, .int x2), (3, .int x3), (4, .int x4), (5, .int x5)], [], mk X, σ)) (x1 : Int32) (x2 : Int32) (x3 : Int32) (x4 : Int32) (x5 : Int32) (x7 : Int32) (y0 : Int32) (y1 : Int32) (y2 : Int32) (σ : St) (h : f_X10_work_163 k24 x1 x2 x3 x4 x5 x7 y0 y1 y2 σ = some σ2) : Ex mr_X10_work sc (Cl MT pr sc (d + 1)) (rtE none (mk X) σ2) (163, [(0, .ref 38), (1, .int x1), (2, .int x2), (3, .int x3), (4, .int x4), (5, .int x5), (7, .int x7)], [.int y0, .int y1, .int y2, .ref 63], mk X, σ) := by
  unfold f_X10_work_163 at h
  refine Ex.blk 2 rfl ?_
  obtain ⟨g1, h⟩ := gd_some h
  refine And.intro (inb_ok g1) ?_
  show Ex mr_X10_work sc (Cl MT pr sc (d + 1)) (rtE none (mk X) σ2) (165, [(0, .ref 38), (1, .int x1), (2, .int x2), (3, .int x3), (4, .int x4), (5, .int x5), (7, .int x7)], [], mk X, (sI σ 63 y2.toNatClampNeg (y1 - y0)))
  refine Ex.blk 5 rfl ?_
  show Ex mr_X10_work sc (Cl MT pr sc (d + 1)) (rtE none (mk X) σ2) (174, [(0, .ref 38), (1, .int x1), (2, .int x2), (3, .int x3), (4, .int x4), (5, .int x5), (7, .int x7)], [.int 9, .int x7, .int x1, .ref 59], mk X, (sI σ 63 y2.toNatClampNeg (y1 - y0)))
  refine Ex.blk 1000 rfl ?_
  rcases ite_sp h with ⟨c2, h⟩ | ⟨c2, h⟩
  · refine And.intro (fun _ => ?_) (fun hn => absurd c2 hn)
    show Ex mr_X10_work sc (Cl MT pr sc (d + 1)) (rtE none (mk X) σ2) (185, [(0, .ref 38), (1, .int x1), (2, .int x2), (3, .int x3), (4, .int x4), (5, .int x5), (7, .int x7)], [.int x1, .ref 59], mk X, (sI σ 63 y2.toNatClampNeg (y1 - y0)))
    refine Ex.blk 1000 rfl ?_
    show Ex mr_X10_work sc (Cl MT pr sc (d + 1)) (rtE none (mk X) σ2) (187, [(0, .ref 38), (1, .int x1), (2, .int x2), (3, .int x3), (4, .int x4), (5, .int x5), (7, .int x7)], [.int x7, .int x1, .ref 59], mk X, (sI σ 63 y2.toNatClampNeg (y1 - y0)))
    exact lk_X10_work_187 d _ hk24 _ _ _ _ _ _ _ _ _ h
  · refine And.intro (fun hp => absurd hp c2) (fun _ => ?_)
    show Ex mr_X10_work sc (Cl MT pr sc (d + 1)) (rtE none (mk X) σ2) (177, [(0, .ref 38), (1, .int x1), (2, .int x2), (3, .int x3), (4, .int x4), (5, .int x5), (7, .int x7)], [.int x1, .ref 59], mk X, (sI σ 63 y2.toNatClampNeg (y1 - y0)))
    refine Ex.blk 1000 rfl ?_
    show Ex mr_X10_work sc (Cl MT pr sc (d + 1)) (rtE none (mk X) σ2) (187, [(0, .ref 38), (1, .int x1), (2, .int x2), (3, .int x3), (4, .int x4), (5, .int x5), (7, .int x7)], [.int (x7 - 10), .int x1, .ref 59], mk X, (sI σ 63 y2.toNatClampNeg (y1 - y0)))
    exact lk_X10_work_187 d _ hk24 _ _ _ _ _ _ _ _ _ h
theorem lk_X10_work_145 {pr : Ct} {sc : Nat × (Nat → Int32)} {X : En} (d : Nat) {σ2 : St} (k24 : Int32 → Int32 → Int32 → Int32 → Int32 → St → Option (St)) (hk24 : ∀ (x1 : Int32) (x2 : Int32) (x3 : Int32) (x4 : Int32) (x5 : Int32) (σ : St), k24 x1 x2 x3 x4 x5 σ = some σ2 → Ex mr_X10_work sc (Cl MT pr sc (d + 1)) (rtE none (mk X) σ2) (24, [(0, .ref 38), (1, .int x1), (2, .int x2), (3, .int x3), (4, .int x4), (5, .int x5)], [], mk X, σ)) (x1 : Int32) (x2 : Int32) (x3 : Int32) (x4 : Int32) (x5 : Int32) (x6 : Int32) (x7 : Int32) (y0 : Int32) (y1 : Int32) (σ : St) (h : f_X10_work_145 k24 x1 x2 x3 x4 x5 x6 x7 y0 y1 σ = some σ2) : Ex mr_X10_work sc (Cl MT pr sc (d + 1)) (rtE none (mk X) σ2) (145, [(0, .ref 38), (1, .int x1), (2, .int x2), (3, .int x3), (4, .int x4), (5, .int x5), (6, .int x6), (7, .int x7)], [.int y0, .int y1, .ref 61], mk X, σ) := by
  unfold f_X10_work_145 at h
  refine Ex.blk 1 rfl ?_
  obtain ⟨g1, h⟩ := gd_some h
  refine And.intro (inbz_ok g1) ?_
  show Ex mr_X10_work sc (Cl MT pr sc (d + 1)) (rtE none (mk X) σ2) (146, [(0, .ref 38), (1, .int x1), (2, .int x2), (3, .int x3), (4, .int x4), (5, .int x5), (6, .int x6), (7, .int x7)], [], mk X, (sI σ 61 y1.toNatClampNeg y0))
  refine Ex.blk 5 rfl ?_
  obtain ⟨g2, h⟩ := gd_some h
  refine And.intro (inb_ok g2) ?_
  show Ex mr_X10_work sc (Cl MT pr sc (d + 1)) (rtE none (mk X) σ2) (153, [(0, .ref 38), (1, .int x1), (2, .int x2), (3, .int x3), (4, .int x4), (5, .int x5), (6, .int x6), (7, .int x7)], [.int (gI (sI σ 61 y1.toNatClampNeg y0) 63 x1.toNatClampNeg), .int x1, .ref 63], mk X, (sI σ 61 y1.toNatClampNeg y0))
  refine Ex.blk 1000 rfl ?_
  rcases ite_sp h with ⟨c3, h⟩ | ⟨c3, h⟩
  · refine And.intro (fun _ => ?_) (fun hn => absurd c3 hn)
    show Ex mr_X10_work sc (Cl MT pr sc (d + 1)) (rtE none (mk X) σ2) (162, [(0, .ref 38), (1, .int x1), (2, .int x2), (3, .int x3), (4, .int x4), (5, .int x5), (6, .int x6), (7, .int x7)], [.int (gI (sI σ 61 y1.toNatClampNeg y0) 63 x1.toNatClampNeg), .int x1, .ref 63], mk X, (sI σ 61 y1.toNatClampNeg y0))
    refine Ex.blk 1000 rfl ?_
    show Ex mr_X10_work sc (Cl MT pr sc (d + 1)) (rtE none (mk X) σ2) (163, [(0, .ref 38), (1, .int x1), (2, .int x2), (3, .int x3), (4, .int x4), (5, .int x5), (6, .int x6), (7, .int x7)], [.int 1, .int (gI (sI σ 61 y1.toNatClampNeg y0) 63 x1.toNatClampNeg), .int x1, .ref 63], mk X, (sI σ 61 y1.toNatClampNeg y0))
    refine Ex.pick (lv' := _) [0, 1, 2, 3, 4, 5, 7] rfl ?_
    exact lk_X10_work_163 d _ hk24 _ _ _ _ _ _ _ _ _ _ h
  · refine And.intro (fun hp => absurd hp c3) (fun _ => ?_)
    show Ex mr_X10_work sc (Cl MT pr sc (d + 1)) (rtE none (mk X) σ2) (158, [(0, .ref 38), (1, .int x1), (2, .int x2), (3, .int x3), (4, .int x4), (5, .int x5), (6, .int x6), (7, .int x7)], [.int (gI (sI σ 61 y1.toNatClampNeg y0) 63 x1.toNatClampNeg), .int x1, .ref 63], mk X, (sI σ 61 y1.toNatClampNeg y0))
    refine Ex.blk 1000 rfl ?_
    show Ex mr_X10_work sc (Cl MT pr sc (d + 1)) (rtE none (mk X) σ2) (163, [(0, .ref 38), (1, .int x1), (2, .int x2), (3, .int x3), (4, .int x4), (5, .int x5), (6, .int x6), (7, .int x7)], [.int 0, .int (gI (sI σ 61 y1.toNatClampNeg y0) 63 x1.toNatClampNeg), .int x1, .ref 63], mk X, (sI σ 61 y1.toNatClampNeg y0))
    refine Ex.pick (lv' := _) [0, 1, 2, 3, 4, 5, 7] rfl ?_
    exact lk_X10_work_163 d _ hk24 _ _ _ _ _ _ _ _ _ _ h
theorem lk_X10_work_140 {pr : Ct} {sc : Nat × (Nat → Int32)} {X : En} (d : Nat) {σ2 : St} (k24 : Int32 → Int32 → Int32 → Int32 → Int32 → St → Option (St)) (hk24 : ∀ (x1 : Int32) (x2 : Int32) (x3 : Int32) (x4 : Int32) (x5 : Int32) (σ : St), k24 x1 x2 x3 x4 x5 σ = some σ2 → Ex mr_X10_work sc (Cl MT pr sc (d + 1)) (rtE none (mk X) σ2) (24, [(0, .ref 38), (1, .int x1), (2, .int x2), (3, .int x3), (4, .int x4), (5, .int x5)], [], mk X, σ)) (x1 : Int32) (x2 : Int32) (x3 : Int32) (x4 : Int32) (x5 : Int32) (x6 : Int32) (x7 : Int32) (y0 : Int32) (σ : St) (h : f_X10_work_140 k24 x1 x2 x3 x4 x5 x6 x7 y0 σ = some σ2) : Ex mr_X10_work sc (Cl MT pr sc (d + 1)) (rtE none (mk X) σ2) (140, [(0, .ref 38), (1, .int x1), (2, .int x2), (3, .int x3), (4, .int x4), (5, .int x5), (6, .int x6), (7, .int x7)], [.int y0, .ref 61], mk X, σ) := by
  unfold f_X10_work_140 at h
  refine Ex.blk 1000 rfl ?_
  show Ex mr_X10_work sc (Cl MT pr sc (d + 1)) (rtE none (mk X) σ2) (145, [(0, .ref 38), (1, .int x1), (2, .int x2), (3, .int x3), (4, .int x4), (5, .int x5), (6, .int x6), (7, .int x7)], [.int 1, .int y0, .ref 61], mk X, σ)
  exact lk_X10_work_145 d _ hk24 _ _ _ _ _ _ _ _ _ _ h
theorem lk_X10_work_121 {pr : Ct} {sc : Nat × (Nat → Int32)} {X : En} (d : Nat) {σ2 : St} (k24 : Int32 → Int32 → Int32 → Int32 → Int32 → St → Option (St)) (hk24 : ∀ (x1 : Int32) (x2 : Int32) (x3 : Int32) (x4 : Int32) (x5 : Int32) (σ : St), k24 x1 x2 x3 x4 x5 σ = some σ2 → Ex mr_X10_work sc (Cl MT pr sc (d + 1)) (rtE none (mk X) σ2) (24, [(0, .ref 38), (1, .int x1), (2, .int x2), (3, .int x3), (4, .int x4), (5, .int x5)], [], mk X, σ)) (x1 : Int32) (x2 : Int32) (x3 : Int32) (x4 : Int32) (x5 : Int32) (x6 : Int32) (x7 : Int32) (σ : St) (h : f_X10_work_121 k24 x1 x2 x3 x4 x5 x6 x7 σ = some σ2) : Ex mr_X10_work sc (Cl MT pr sc (d + 1)) (rtE none (mk X) σ2) (121, [(0, .ref 38), (1, .int x1), (2, .int x2), (3, .int x3), (4, .int x4), (5, .int x5), (6, .int x6), (7, .int x7)], [], mk X, σ) := by
  unfold f_X10_work_121 at h
  refine Ex.blk 5 rfl ?_
  show Ex mr_X10_work sc (Cl MT pr sc (d + 1)) (rtE none (mk X) σ2) (130, [(0, .ref 38), (1, .int x1), (2, .int x2), (3, .int x3), (4, .int x4), (5, .int x5), (6, .int x6), (7, .int x7)], [.ref 61, .int x1, .ref 61], mk X, σ)
  refine Ex.blk 2 rfl ?_
  obtain ⟨g1, h⟩ := gd_some h
  refine And.intro (inb_ok g1) ?_
  show Ex mr_X10_work sc (Cl MT pr sc (d + 1)) (rtE none (mk X) σ2) (132, [(0, .ref 38), (1, .int x1), (2, .int x2), (3, .int x3), (4, .int x4), (5, .int x5), (6, .int x6), (7, .int x7)], [.int (gI σ 61 x1.toNatClampNeg), .int x1, .ref 61], mk X, σ)
  refine Ex.blk 1000 rfl ?_
  rcases ite_sp h with ⟨c2, h⟩ | ⟨c2, h⟩
  · refine And.intro (fun hp => absurd c2 hp) (fun _ => ?_)
    show Ex mr_X10_work sc (Cl MT pr sc (d + 1)) (rtE none (mk X) σ2) (135, [(0, .ref 38), (1, .int x1), (2, .int x2), (3, .int x3), (4, .int x4), (5, .int x5), (6, .int x6), (7, .int x7)], [.int x1, .ref 61], mk X, σ)
    refine Ex.blk 1000 rfl ?_
    rcases ite_sp h with ⟨c3, h⟩ | ⟨c3, h⟩
    · refine And.intro (fun _ => ?_) (fun hn => absurd c3 hn)
      show Ex mr_X10_work sc (Cl MT pr sc (d + 1)) (rtE none (mk X) σ2) (144, [(0, .ref 38), (1, .int x1), (2, .int x2), (3, .int x3), (4, .int x4), (5, .int x5), (6, .int x6), (7, .int x7)], [.int x1, .ref 61], mk X, σ)
      refine Ex.blk 1000 rfl ?_
      show Ex mr_X10_work sc (Cl MT pr sc (d + 1)) (rtE none (mk X) σ2) (145, [(0, .ref 38), (1, .int x1), (2, .int x2), (3, .int x3), (4, .int x4), (5, .int x5), (6, .int x6), (7, .int x7)], [.int 0, .int x1, .ref 61], mk X, σ)
      exact lk_X10_work_145 d _ hk24 _ _ _ _ _ _ _ _ _ _ h
    · refine And.intro (fun hp => absurd hp c3) (fun _ => ?_)
      show Ex mr_X10_work sc (Cl MT pr sc (d + 1)) (rtE none (mk X) σ2) (140, [(0, .ref 38), (1, .int x1), (2, .int x2), (3, .int x3), (4, .int x4), (5, .int x5), (6, .int x6), (7, .int x7)], [.int x1, .ref 61], mk X, σ)
      exact lk_X10_work_140 d _ hk24 _ _ _ _ _ _ _ _ _ h
  · refine And.intro (fun _ => ?_) (fun hn => absurd c2 hn)
    show Ex mr_X10_work sc (Cl MT pr sc (d + 1)) (rtE none (mk X) σ2) (140, [(0, .ref 38), (1, .int x1), (2, .int x2), (3, .int x3), (4, .int x4), (5, .int x5), (6, .int x6), (7, .int x7)], [.int x1, .ref 61], mk X, σ)
    exact lk_X10_work_140 d _ hk24 _ _ _ _ _ _ _ _ _ h
theorem lk_X10_work_118 {pr : Ct} {sc : Nat × (Nat → Int32)} {X : En} (d : Nat) {σ2 : St} (k24 : Int32 → Int32 → Int32 → Int32 → Int32 → St → Option (St)) (hk24 : ∀ (x1 : Int32) (x2 : Int32) (x3 : Int32) (x4 : Int32) (x5 : Int32) (σ : St), k24 x1 x2 x3 x4 x5 σ = some σ2 → Ex mr_X10_work sc (Cl MT pr sc (d + 1)) (rtE none (mk X) σ2) (24, [(0, .ref 38), (1, .int x1), (2, .int x2), (3, .int x3), (4, .int x4), (5, .int x5)], [], mk X, σ)) (x1 : Int32) (x2 : Int32) (x3 : Int32) (x4 : Int32) (x5 : Int32) (x6 : Int32) (y0 : Int32) (y1 : Int32) (σ : St) (h : f_X10_work_118 k24 x1 x2 x3 x4 x5 x6 y0 y1 σ = some σ2) : Ex mr_X10_work sc (Cl MT pr sc (d + 1)) (rtE none (mk X) σ2) (118, [(0, .ref 38), (1, .int x1), (2, .int x2), (3, .int x3), (4, .int x4), (5, .int x5), (6, .int x6)], [.int y0, .int y1], mk X, σ) := by
  unfold f_X10_work_118 at h
  refine Ex.blk 2 rfl ?_
  show Ex mr_X10_work sc (Cl MT pr sc (d + 1)) (rtE none (mk X) σ2) (121, [(7, .int (y1 + y0)), (0, .ref 38), (1, .int x1), (2, .int x2), (3, .int x3), (4, .int x4), (5, .int x5), (6, .int x6)], [], mk X, σ)
  refine Ex.pick (lv' := _) [1, 2, 3, 4, 5, 6, 7, 0] rfl ?_
  exact lk_X10_work_121 d _ hk24 _ _ _ _ _ _ _ _ h
theorem lk_X10_work_90 {pr : Ct} {sc : Nat × (Nat → Int32)} {X : En} (d : Nat) {σ2 : St} (k24 : Int32 → Int32 → Int32 → Int32 → Int32 → St → Option (St)) (hk24 : ∀ (x1 : Int32) (x2 : Int32) (x3 : Int32) (x4 : Int32) (x5 : Int32) (σ : St), k24 x1 x2 x3 x4 x5 σ = some σ2 → Ex mr_X10_work sc (Cl MT pr sc (d + 1)) (rtE none (mk X) σ2) (24, [(0, .ref 38), (1, .int x1), (2, .int x2), (3, .int x3), (4, .int x4), (5, .int x5)], [], mk X, σ)) (x1 : Int32) (x2 : Int32) (x3 : Int32) (x4 : Int32) (x6 : Int32) (y0 : Int32) (σ : St) (h : f_X10_work_90 k24 x1 x2 x3 x4 x6 y0 σ = some σ2) : Ex mr_X10_work sc (Cl MT pr sc (d + 1)) (rtE none (mk X) σ2) (90, [(0, .ref 38), (1, .int x1), (2, .int x2), (3, .int x3), (4, .int x4), (6, .int x6)], [.int y0], mk X, σ) := by
  unfold f_X10_work_90 at h
  refine Ex.blk 1000 rfl ?_
  rcases ite_sp h with ⟨c1, h⟩ | ⟨c1, h⟩
  · refine And.intro (fun _ => ?_) (fun hn => absurd c1 hn)
    show Ex mr_X10_work sc (Cl MT pr sc (d + 1)) (rtE none (mk X) σ2) (264, [(5, .int y0), (0, .ref 38), (1, .int x1), (2, .int x2), (3, .int x3), (4, .int x4), (6, .int x6)], [], mk X, σ)
    refine Ex.pick (lv' := _) [1, 2, 3, 4, 5, 0] rfl ?_
    exact lk_X10_work_264 d _ hk24 _ _ _ _ _ _ h
  · refine And.intro (fun hp => absurd hp c1) (fun _ => ?_)
    show Ex mr_X10_work sc (Cl MT pr sc (d + 1)) (rtE none (mk X) σ2) (97, [(5, .int y0), (0, .ref 38), (1, .int x1), (2, .int x2), (3, .int x3), (4, .int x4), (6, .int x6)], [], mk X, σ)
    refine Ex.blk 4 rfl ?_
    obtain ⟨g2, h⟩ := gd_some h
    refine And.intro (inb_ok g2) ?_
    show Ex mr_X10_work sc (Cl MT pr sc (d + 1)) (rtE none (mk X) σ2) (103, [(5, .int y0), (0, .ref 38), (1, .int x1), (2, .int x2), (3, .int x3), (4, .int x4), (6, .int x6)], [.int (gI σ 64 x1.toNatClampNeg)], mk X, σ)
    refine Ex.blk 1000 rfl ?_
    rcases ite_sp h with ⟨c3, h⟩ | ⟨c3, h⟩
    · refine And.intro (fun _ => ?_) (fun hn => absurd c3 hn)
      show Ex mr_X10_work sc (Cl MT pr sc (d + 1)) (rtE none (mk X) σ2) (117, [(5, .int y0), (0, .ref 38), (1, .int x1), (2, .int x2), (3, .int x3), (4, .int x4), (6, .int x6)], [.int (gI σ 64 x1.toNatClampNeg)], mk X, σ)
      refine Ex.blk 1000 rfl ?_
      show Ex mr_X10_work sc (Cl MT pr sc (d + 1)) (rtE none (mk X) σ2) (118, [(5, .int y0), (0, .ref 38), (1, .int x1), (2, .int x2), (3, .int x3), (4, .int x4), (6, .int x6)], [.int 1, .int (gI σ 64 x1.toNatClampNeg)], mk X, σ)
      refine Ex.pick (lv' := _) [1, 2, 3, 4, 5, 0, 6] rfl ?_
      exact lk_X10_work_118 d _ hk24 _ _ _ _ _ _ _ _ _ h
    · refine And.intro (fun hp => absurd hp c3) (fun _ => ?_)
      show Ex mr_X10_work sc (Cl MT pr sc (d + 1)) (rtE none (mk X) σ2) (108, [(5, .int y0), (0, .ref 38), (1, .int x1), (2, .int x2), (3, .int x3), (4, .int x4), (6, .int x6)], [.int (gI σ 64 x1.toNatClampNeg)], mk X, σ)
      refine Ex.blk 4 rfl ?_
      obtain ⟨p2, hp2, h⟩ := bind_sp h
      refine Exists.intro (some (.int p2.1)) (Exists.intro (mk X) (Exists.intro p2.2 (And.intro (cl_X10_digitOf (d + 0) hp2) ?_)))
      show Ex mr_X10_work sc (Cl MT pr sc (d + 1)) (rtE none (mk X) σ2) (114, [(5, .int y0), (0, .ref 38), (1, .int x1), (2, .int x2), (3, .int x3), (4, .int x4), (6, .int x6)], [.int p2.1, .int (gI σ 64 x1.toNatClampNeg)], mk X, p2.2)
      refine Ex.blk 1000 rfl ?_
      show Ex mr_X10_work sc (Cl MT pr sc (d + 1)) (rtE none (mk X) σ2) (118, [(5, .int y0), (0, .ref 38), (1, .int x1), (2, .int x2), (3, .int x3), (4, .int x4), (6, .int x6)], [.int p2.1, .int (gI σ 64 x1.toNatClampNeg)], mk X, p2.2)
      refine Ex.pick (lv' := _) [1, 2, 3, 4, 5, 0, 6] rfl ?_
      exact lk_X10_work_118 d _ hk24 _ _ _ _ _ _ _ _ _ h
theorem lk_X10_work_85 {pr : Ct} {sc : Nat × (Nat → Int32)} {X : En} (d : Nat) {σ2 : St} (k24 : Int32 → Int32 → Int32 → Int32 → Int32 → St → Option (St)) (hk24 : ∀ (x1 : Int32) (x2 : Int32) (x3 : Int32) (x4 : Int32) (x5 : Int32) (σ : St), k24 x1 x2 x3 x4 x5 σ = some σ2 → Ex mr_X10_work sc (Cl MT pr sc (d + 1)) (rtE none (mk X) σ2) (24, [(0, .ref 38), (1, .int x1), (2, .int x2), (3, .int x3), (4, .int x4), (5, .int x5)], [], mk X, σ)) (x1 : Int32) (x2 : Int32) (x3 : Int32) (x4 : Int32) (x6 : Int32) (σ : St) (h : f_X10_work_85 k24 x1 x2 x3 x4 x6 σ = some σ2) : Ex mr_X10_work sc (Cl MT pr sc (d + 1)) (rtE none (mk X) σ2) (85, [(0, .ref 38), (1, .int x1), (2, .int x2), (3, .int x3), (4, .int x4), (6, .int x6)], [], mk X, σ) := by
  unfold f_X10_work_85 at h
  refine Ex.blk 1000 rfl ?_
  show Ex mr_X10_work sc (Cl MT pr sc (d + 1)) (rtE none (mk X) σ2) (90, [(0, .ref 38), (1, .int x1), (2, .int x2), (3, .int x3), (4, .int x4), (6, .int x6)], [.int 1], mk X, σ)
  exact lk_X10_work_90 d _ hk24 _ _ _ _ _ _ _ h
theorem lk_X10_work_69 {pr : Ct} {sc : Nat × (Nat → Int32)} {X : En} (d : Nat) {σ2 : St} (k24 : Int32 → Int32 → Int32 → Int32 → Int32 → St → Option (St)) (hk24 : ∀ (x1 : Int32) (x2 : Int32) (x3 : Int32) (x4 : Int32) (x5 : Int32) (σ : St), k24 x1 x2 x3 x4 x5 σ = some σ2 → Ex mr_X10_work sc (Cl MT pr sc (d + 1)) (rtE none (mk X) σ2) (24, [(0, .ref 38), (1, .int x1), (2, .int x2), (3, .int x3), (4, .int x4), (5, .int x5)], [], mk X, σ)) (x1 : Int32) (x2 : Int32) (x3 : Int32) (x4 : Int32) (y0 : Int32) (σ : St) (h : f_X10_work_69 k24 x1 x2 x3 x4 y0 σ = some σ2) : Ex mr_X10_work sc (Cl MT pr sc (d + 1)) (rtE none (mk X) σ2) (69, [(0, .ref 38), (1, .int x1), (2, .int x2), (3, .int x3), (4, .int x4)], [.int y0], mk X, σ) := by
  unfold f_X10_work_69 at h
  refine Ex.blk 1000 rfl ?_
  rcases ite_sp h with ⟨c1, h⟩ | ⟨c1, h⟩
  · refine And.intro (fun hp => absurd c1 hp) (fun _ => ?_)
    show Ex mr_X10_work sc (Cl MT pr sc (d + 1)) (rtE none (mk X) σ2) (76, [(6, .int y0), (0, .ref 38), (1, .int x1), (2, .int x2), (3, .int x3), (4, .int x4)], [], mk X, σ)
    refine Ex.blk 4 rfl ?_
    obtain ⟨g2, h⟩ := gd_some h
    refine And.intro (inb_ok g2) ?_
    show Ex mr_X10_work sc (Cl MT pr sc (d + 1)) (rtE none (mk X) σ2) (82, [(6, .int y0), (0, .ref 38), (1, .int x1), (2, .int x2), (3, .int x3), (4, .int x4)], [.int (gI σ 63 x1.toNatClampNeg)], mk X, σ)
    refine Ex.blk 1000 rfl ?_
    rcases ite_sp h with ⟨c3, h⟩ | ⟨c3, h⟩
    · refine And.intro (fun _ => ?_) (fun hn => absurd c3 hn)
      show Ex mr_X10_work sc (Cl MT pr sc (d + 1)) (rtE none (mk X) σ2) (89, [(6, .int y0), (0, .ref 38), (1, .int x1), (2, .int x2), (3, .int x3), (4, .int x4)], [], mk X, σ)
      refine Ex.blk 1000 rfl ?_
      show Ex mr_X10_work sc (Cl MT pr sc (d + 1)) (rtE none (mk X) σ2) (90, [(6, .int y0), (0, .ref 38), (1, .int x1), (2, .int x2), (3, .int x3), (4, .int x4)], [.int 0], mk X, σ)
      refine Ex.pick (lv' := _) [1, 2, 3, 4, 5, 0] rfl ?_
      exact lk_X10_work_90 d _ hk24 _ _ _ _ _ _ _ h
    · refine And.intro (fun hp => absurd hp c3) (fun _ => ?_)
      show Ex mr_X10_work sc (Cl MT pr sc (d + 1)) (rtE none (mk X) σ2) (85, [(6, .int y0), (0, .ref 38), (1, .int x1), (2, .int x2), (3, .int x3), (4, .int x4)], [], mk X, σ)
      refine Ex.pick (lv' := _) [1, 2, 3, 4, 5, 0] rfl ?_
      exact lk_X10_work_85 d _ hk24 _ _ _ _ _ _ h
  · refine And.intro (fun _ => ?_) (fun hn => absurd c1 hn)
    show Ex mr_X10_work sc (Cl MT pr sc (d + 1)) (rtE none (mk X) σ2) (85, [(6, .int y0), (0, .ref 38), (1, .int x1), (2, .int x2), (3, .int x3), (4, .int x4)], [], mk X, σ)
    refine Ex.pick (lv' := _) [1, 2, 3, 4, 5, 0] rfl ?_
    exact lk_X10_work_85 d _ hk24 _ _ _ _ _ _ h
theorem lk_X10_work_68 {pr : Ct} {sc : Nat × (Nat → Int32)} {X : En} (d : Nat) {σ2 : St} (k24 : Int32 → Int32 → Int32 → Int32 → Int32 → St → Option (St)) (hk24 : ∀ (x1 : Int32) (x2 : Int32) (x3 : Int32) (x4 : Int32) (x5 : Int32) (σ : St), k24 x1 x2 x3 x4 x5 σ = some σ2 → Ex mr_X10_work sc (Cl MT pr sc (d + 1)) (rtE none (mk X) σ2) (24, [(0, .ref 38), (1, .int x1), (2, .int x2), (3, .int x3), (4, .int x4), (5, .int x5)], [], mk X, σ)) (x1 : Int32) (x2 : Int32) (x3 : Int32) (x4 : Int32) (σ : St) (h : f_X10_work_68 k24 x1 x2 x3 x4 σ = some σ2) : Ex mr_X10_work sc (Cl MT pr sc (d + 1)) (rtE none (mk X) σ2) (68, [(0, .ref 38), (1, .int x1), (2, .int x2), (3, .int x3), (4, .int x4)], [], mk X, σ) := by
  unfold f_X10_work_68 at h
  refine Ex.blk 1000 rfl ?_
  show Ex mr_X10_work sc (Cl MT pr sc (d + 1)) (rtE none (mk X) σ2) (69, [(0, .ref 38), (1, .int x1), (2, .int x2), (3, .int x3), (4, .int x4)], [.int 0], mk X, σ)
  exact lk_X10_work_69 d _ hk24 _ _ _ _ _ _ h
theorem lk_X10_work_24 {pr : Ct} {sc : Nat × (Nat → Int32)} {X : En} (d : Nat) {σ2 : St} : ∀ (n : Nat) (x1 : Int32) (x2 : Int32) (x3 : Int32) (x4 : Int32) (x5 : Int32) (σ : St), f_X10_work_24 n x1 x2 x3 x4 x5 σ = some σ2 → Ex mr_X10_work sc (Cl MT pr sc (d + 1)) (rtE none (mk X) σ2) (24, [(0, .ref 38), (1, .int x1), (2, .int x2), (3, .int x3), (4, .int x4), (5, .int x5)], [], mk X, σ) := by
  intro n
  induction n with
  | zero =>
    intro x1 x2 x3 x4 x5 σ h
    cases h
  | succ n ih =>
    intro x1 x2 x3 x4 x5 σ h
    simp only [f_X10_work_24] at h
    refine Ex.blk 1000 rfl ?_
    rcases ite_sp h with ⟨c1, h⟩ | ⟨c1, h⟩
    · refine And.intro (fun _ => ?_) (fun hn => absurd c1 hn)
      show Ex mr_X10_work sc (Cl MT pr sc (d + 1)) (rtE none (mk X) σ2) (267, [(0, .ref 38), (1, .int x1), (2, .int x2), (3, .int x3), (4, .int x4), (5, .int x5)], [], mk X, σ)
      refine Ex.pick (lv' := _) [] rfl ?_
      exact lk_X10_work_267 d _ h
    · refine And.intro (fun hp => absurd hp c1) (fun _ => ?_)
      show Ex mr_X10_work sc (Cl MT pr sc (d + 1)) (rtE none (mk X) σ2) (29, [(0, .ref 38), (1, .int x1), (2, .int x2), (3, .int x3), (4, .int x4), (5, .int x5)], [], mk X, σ)
      refine Ex.blk 4 rfl ?_
      obtain ⟨g2, h⟩ := gd_some h
      refine And.intro (inb_ok g2) ?_
      show Ex mr_X10_work sc (Cl MT pr sc (d + 1)) (rtE none (mk X) σ2) (35, [(0, .ref 38), (1, .int x1), (2, .int x2), (3, .int x3), (4, .int x4), (5, .int x5)], [.int (gI σ 58 x1.toNatClampNeg)], mk X, σ)
      refine Ex.blk 1000 rfl ?_
      rcases ite_sp h with ⟨c3, h⟩ | ⟨c3, h⟩
      · refine And.intro (fun hp => absurd c3 hp) (fun _ => ?_)
        show Ex mr_X10_work sc (Cl MT pr sc (d + 1)) (rtE none (mk X) σ2) (39, [(0, .ref 38), (1, .int x1), (2, .int x2), (3, .int x3), (4, .int x4), (5, .int x5)], [], mk X, σ)
        refine Ex.blk 4 rfl ?_
        obtain ⟨g4, h⟩ := gd_some h
        refine And.intro (inb_ok g4) ?_
        show Ex mr_X10_work sc (Cl MT pr sc (d + 1)) (rtE none (mk X) σ2) (45, [(0, .ref 38), (1, .int x1), (2, .int x2), (3, .int x3), (4, .int x4), (5, .int x5)], [.int (gI σ 61 x1.toNatClampNeg)], mk X, σ)
        refine Ex.blk 1000 rfl ?_
        rcases ite_sp h with ⟨c5, h⟩ | ⟨c5, h⟩
        · refine And.intro (fun hp => absurd c5 hp) (fun _ => ?_)
          show Ex mr_X10_work sc (Cl MT pr sc (d + 1)) (rtE none (mk X) σ2) (48, [(0, .ref 38), (1, .int x1), (2, .int x2), (3, .int x3), (4, .int x4), (5, .int x5)], [], mk X, σ)
          refine Ex.blk 1000 rfl ?_
          rcases ite_sp h with ⟨c6, h⟩ | ⟨c6, h⟩
          · refine And.intro (fun _ => ?_) (fun hn => absurd c6 hn)
            show Ex mr_X10_work sc (Cl MT pr sc (d + 1)) (rtE none (mk X) σ2) (68, [(0, .ref 38), (1, .int x1), (2, .int x2), (3, .int x3), (4, .int x4), (5, .int x5)], [], mk X, σ)
            refine Ex.pick (lv' := _) [0, 1, 2, 3, 4] rfl ?_
            exact lk_X10_work_68 d _ ih _ _ _ _ _ h
          · refine And.intro (fun hp => absurd hp c6) (fun _ => ?_)
            show Ex mr_X10_work sc (Cl MT pr sc (d + 1)) (rtE none (mk X) σ2) (54, [(0, .ref 38), (1, .int x1), (2, .int x2), (3, .int x3), (4, .int x4), (5, .int x5)], [], mk X, σ)
            refine Ex.blk 5 rfl ?_
            show Ex mr_X10_work sc (Cl MT pr sc (d + 1)) (rtE none (mk X) σ2) (61, [(0, .ref 38), (1, .int x1), (2, .int x2), (3, .int x3), (4, .int x4), (5, .int x5)], [.int ((gI σ 38 14) * x1), .int x2], mk X, σ)
            refine Ex.blk 1000 rfl ?_
            rcases ite_sp h with ⟨c7, h⟩ | ⟨c7, h⟩
            · refine And.intro (fun _ => ?_) (fun hn => absurd c7 hn)
              show Ex mr_X10_work sc (Cl MT pr sc (d + 1)) (rtE none (mk X) σ2) (68, [(0, .ref 38), (1, .int x1), (2, .int x2), (3, .int x3), (4, .int x4), (5, .int x5)], [], mk X, σ)
              refine Ex.pick (lv' := _) [0, 1, 2, 3, 4] rfl ?_
              exact lk_X10_work_68 d _ ih _ _ _ _ _ h
            · refine And.intro (fun hp => absurd hp c7) (fun _ => ?_)
              show Ex mr_X10_work sc (Cl MT pr sc (d + 1)) (rtE none (mk X) σ2) (64, [(0, .ref 38), (1, .int x1), (2, .int x2), (3, .int x3), (4, .int x4), (5, .int x5)], [], mk X, σ)
              refine Ex.blk 1000 rfl ?_
              show Ex mr_X10_work sc (Cl MT pr sc (d + 1)) (rtE none (mk X) σ2) (69, [(0, .ref 38), (1, .int x1), (2, .int x2), (3, .int x3), (4, .int x4), (5, .int x5)], [.int 1], mk X, σ)
              refine Ex.pick (lv' := _) [0, 1, 2, 3, 4] rfl ?_
              exact lk_X10_work_69 d _ ih _ _ _ _ _ _ h
        · refine And.intro (fun _ => ?_) (fun hn => absurd c5 hn)
          show Ex mr_X10_work sc (Cl MT pr sc (d + 1)) (rtE none (mk X) σ2) (68, [(0, .ref 38), (1, .int x1), (2, .int x2), (3, .int x3), (4, .int x4), (5, .int x5)], [], mk X, σ)
          refine Ex.pick (lv' := _) [0, 1, 2, 3, 4] rfl ?_
          exact lk_X10_work_68 d _ ih _ _ _ _ _ h
      · refine And.intro (fun _ => ?_) (fun hn => absurd c3 hn)
        show Ex mr_X10_work sc (Cl MT pr sc (d + 1)) (rtE none (mk X) σ2) (267, [(0, .ref 38), (1, .int x1), (2, .int x2), (3, .int x3), (4, .int x4), (5, .int x5)], [], mk X, σ)
        refine Ex.pick (lv' := _) [] rfl ?_
        exact lk_X10_work_267 d _ h
theorem lk_X10_work_21 {pr : Ct} {sc : Nat × (Nat → Int32)} {X : En} (d : Nat) {σ2 : St} (x1 : Int32) (x2 : Int32) (x3 : Int32) (x4 : Int32) (σ : St) (h : f_X10_work_21 x1 x2 x3 x4 σ = some σ2) : Ex mr_X10_work sc (Cl MT pr sc (d + 1)) (rtE none (mk X) σ2) (21, [(0, .ref 38), (1, .int x1), (2, .int x2), (3, .int x3), (4, .int x4)], [], mk X, σ) := by
  unfold f_X10_work_21 at h
  refine Ex.blk 1000 rfl ?_
  show Ex mr_X10_work sc (Cl MT pr sc (d + 1)) (rtE none (mk X) σ2) (24, [(5, .int 1), (0, .ref 38), (1, .int x1), (2, .int x2), (3, .int x3), (4, .int x4)], [], mk X, σ)
  refine Ex.pick (lv' := _) [1, 2, 3, 4, 5, 0] rfl ?_
  exact lk_X10_work_24 d FU _ _ _ _ _ _ h
theorem cl_X10_work {pr : Ct} {sc : Nat × (Nat → Int32)} {X : En} (d : Nat) {σ2 : St} {x1 : Int32} {x2 : Int32} {x3 : Int32} {x4 : Int32} {σ : St} (h : f_X10_work x1 x2 x3 x4 σ = some σ2) : Cl MT pr sc (d + 1 + 1) 239 [.ref 38, .int x1, .int x2, .int x3, .int x4] (mk X) σ none (mk X) σ2 := by
  refine cl_of mr_X10_work rfl rfl ?_
  unfold f_X10_work at h
  refine Ex.blk 4 rfl ?_
  obtain ⟨g1, h⟩ := gd_some h
  refine And.intro (inb_ok g1) ?_
  show Ex mr_X10_work sc (Cl MT pr sc (d + 1)) (rtE none (mk X) σ2) (6, [(0, .ref 38), (1, .int x1), (2, .int x2), (3, .int x3), (4, .int x4)], [.int (gI σ 58 x1.toNatClampNeg)], mk X, σ)
  refine Ex.blk 1000 rfl ?_
  rcases ite_sp h with ⟨c2, h⟩ | ⟨c2, h⟩
  · refine And.intro (fun hp => absurd c2 hp) (fun _ => ?_)
    show Ex mr_X10_work sc (Cl MT pr sc (d + 1)) (rtE none (mk X) σ2) (10, [(0, .ref 38), (1, .int x1), (2, .int x2), (3, .int x3), (4, .int x4)], [], mk X, σ)
    refine Ex.blk 5 rfl ?_
    show Ex mr_X10_work sc (Cl MT pr sc (d + 1)) (rtE none (mk X) σ2) (17, [(0, .ref 38), (1, .int x1), (2, .int x2), (3, .int x3), (4, .int x4)], [.int x1, .ref 60, .int x1, .ref 38], mk X, σ)
    refine Ex.blk 1 rfl ?_
    obtain ⟨g3, h⟩ := gd_some h
    refine And.intro (inb_ok g3) ?_
    show Ex mr_X10_work sc (Cl MT pr sc (d + 1)) (rtE none (mk X) σ2) (18, [(0, .ref 38), (1, .int x1), (2, .int x2), (3, .int x3), (4, .int x4)], [.int (gI σ 60 x1.toNatClampNeg), .int x1, .ref 38], mk X, σ)
    refine Ex.blk 1 rfl ?_
    obtain ⟨p3, hp3, h⟩ := bind_sp h
    refine Exists.intro none (Exists.intro (mk X) (Exists.intro p3 (And.intro (cl_X10_ends (d + 0) hp3) ?_)))
    show Ex mr_X10_work sc (Cl MT pr sc (d + 1)) (rtE none (mk X) σ2) (21, [(0, .ref 38), (1, .int x1), (2, .int x2), (3, .int x3), (4, .int x4)], [], mk X, p3)
    exact lk_X10_work_21 d _ _ _ _ _ h
  · refine And.intro (fun _ => ?_) (fun hn => absurd c2 hn)
    show Ex mr_X10_work sc (Cl MT pr sc (d + 1)) (rtE none (mk X) σ2) (21, [(0, .ref 38), (1, .int x1), (2, .int x2), (3, .int x3), (4, .int x4)], [], mk X, σ)
    exact lk_X10_work_21 d _ _ _ _ _ h
theorem lk_X10_areAtRest_62 {pr : Ct} {sc : Nat × (Nat → Int32)} {X : En} (d : Nat) {r : Int32} {σ2 : St} : ∀ (n : Nat) (x2 : Int32) (x3 : Int32) (σ : St), f_X10_areAtRest_62 n x2 x3 σ = some (r, σ2) → Ex mr_X10_areAtRest sc (Cl MT pr sc (d + 0)) (rtE (some (.int r)) (mk X) σ2) (62, [(0, .ref 38), (2, .int x2), (3, .int x3)], [], mk X, σ) := by
  intro n
  induction n with
  | zero =>
    intro x2 x3 σ h
    cases h
  | succ n ih =>
    intro x2 x3 σ h
    simp only [f_X10_areAtRest_62] at h
    refine Ex.blk 1000 rfl ?_
    rcases ite_sp h with ⟨c1, h⟩ | ⟨c1, h⟩
    · refine And.intro (fun _ => ?_) (fun hn => absurd c1 hn)
      show Ex mr_X10_areAtRest sc (Cl MT pr sc (d + 0)) (rtE (some (.int r)) (mk X) σ2) (85, [(0, .ref 38), (2, .int x2), (3, .int x3)], [], mk X, σ)
      refine Ex.blk 1000 rfl ?_
      cases h
      exact And.intro isb_1 ⟨rfl, rfl, rfl⟩
    · refine And.intro (fun hp => absurd hp c1) (fun _ => ?_)
      show Ex mr_X10_areAtRest sc (Cl MT pr sc (d + 0)) (rtE (some (.int r)) (mk X) σ2) (67, [(0, .ref 38), (2, .int x2), (3, .int x3)], [], mk X, σ)
      refine Ex.blk 4 rfl ?_
      obtain ⟨g2, h⟩ := gd_some h
      refine And.intro (inb_ok g2) ?_
      show Ex mr_X10_areAtRest sc (Cl MT pr sc (d + 0)) (rtE (some (.int r)) (mk X) σ2) (73, [(0, .ref 38), (2, .int x2), (3, .int x3)], [.int (gI σ 65 x3.toNatClampNeg)], mk X, σ)
      refine Ex.blk 1000 rfl ?_
      rcases ite_sp h with ⟨c3, h⟩ | ⟨c3, h⟩
      · refine And.intro (fun _ => ?_) (fun hn => absurd c3 hn)
        show Ex mr_X10_areAtRest sc (Cl MT pr sc (d + 0)) (rtE (some (.int r)) (mk X) σ2) (79, [(0, .ref 38), (2, .int x2), (3, .int x3)], [], mk X, σ)
        refine Ex.blk 1000 rfl ?_
        show Ex mr_X10_areAtRest sc (Cl MT pr sc (d + 0)) (rtE (some (.int r)) (mk X) σ2) (62, [(3, .int (x3 + 1)), (0, .ref 38), (2, .int x2)], [], mk X, σ)
        refine Ex.pick (lv' := _) [1, 2, 0] rfl ?_
        exact ih _ _ _ h
      · refine And.intro (fun hp => absurd hp c3) (fun _ => ?_)
        show Ex mr_X10_areAtRest sc (Cl MT pr sc (d + 0)) (rtE (some (.int r)) (mk X) σ2) (77, [(0, .ref 38), (2, .int x2), (3, .int x3)], [], mk X, σ)
        refine Ex.blk 1000 rfl ?_
        cases h
        exact And.intro isb_0 ⟨rfl, rfl, rfl⟩
theorem lk_X10_areAtRest_52 {pr : Ct} {sc : Nat × (Nat → Int32)} {X : En} (d : Nat) {r : Int32} {σ2 : St} (σ : St) (h : f_X10_areAtRest_52 σ = some (r, σ2)) : Ex mr_X10_areAtRest sc (Cl MT pr sc (d + 0)) (rtE (some (.int r)) (mk X) σ2) (52, [], [], mk X, σ) := by
  unfold f_X10_areAtRest_52 at h
  refine Ex.blk 1000 rfl ?_
  cases h
  exact And.intro isb_0 ⟨rfl, rfl, rfl⟩
theorem lk_X10_areAtRest_54 {pr : Ct} {sc : Nat × (Nat → Int32)} {X : En} (d : Nat) {r : Int32} {σ2 : St} (k2 : Int32 → Int32 → Int32 → St → Option (Int32 × St)) (hk2 : ∀ (x1 : Int32) (x2 : Int32) (x3 : Int32) (σ : St), k2 x1 x2 x3 σ = some (r, σ2) → Ex mr_X10_areAtRest sc (Cl MT pr sc (d + 0)) (rtE (some (.int r)) (mk X) σ2) (2, [(0, .ref 38), (1, .int x1), (2, .int x2), (3, .int x3)], [], mk X, σ)) (x1 : Int32) (x2 : Int32) (x3 : Int32) (σ : St) (h : f_X10_areAtRest_54 k2 x1 x2 x3 σ = some (r, σ2)) : Ex mr_X10_areAtRest sc (Cl MT pr sc (d + 0)) (rtE (some (.int r)) (mk X) σ2) (54, [(0, .ref 38), (1, .int x1), (2, .int x2), (3, .int x3)], [], mk X, σ) := by
  unfold f_X10_areAtRest_54 at h
  refine Ex.blk 1000 rfl ?_
  show Ex mr_X10_areAtRest sc (Cl MT pr sc (d + 0)) (rtE (some (.int r)) (mk X) σ2) (2, [(3, .int (x3 + 1)), (0, .ref 38), (1, .int x1), (2, .int x2)], [], mk X, σ)
  refine Ex.pick (lv' := _) [1, 2, 3, 0] rfl ?_
  exact hk2 _ _ _ _ h
theorem lk_X10_areAtRest_2 {pr : Ct} {sc : Nat × (Nat → Int32)} {X : En} (d : Nat) {r : Int32} {σ2 : St} : ∀ (n : Nat) (x1 : Int32) (x2 : Int32) (x3 : Int32) (σ : St), f_X10_areAtRest_2 n x1 x2 x3 σ = some (r, σ2) → Ex mr_X10_areAtRest sc (Cl MT pr sc (d + 0)) (rtE (some (.int r)) (mk X) σ2) (2, [(0, .ref 38), (1, .int x1), (2, .int x2), (3, .int x3)], [], mk X, σ) := by
  intro n
  induction n with
  | zero =>
    intro x1 x2 x3 σ h
    cases h
  | succ n ih =>
    intro x1 x2 x3 σ h
    simp only [f_X10_areAtRest_2] at h
    refine Ex.blk 1000 rfl ?_
    rcases ite_sp h with ⟨c1, h⟩ | ⟨c1, h⟩
    · refine And.intro (fun _ => ?_) (fun hn => absurd c1 hn)
      show Ex mr_X10_areAtRest sc (Cl MT pr sc (d + 0)) (rtE (some (.int r)) (mk X) σ2) (60, [(0, .ref 38), (1, .int x1), (2, .int x2), (3, .int x3)], [], mk X, σ)
      refine Ex.blk 1000 rfl ?_
      show Ex mr_X10_areAtRest sc (Cl MT pr sc (d + 0)) (rtE (some (.int r)) (mk X) σ2) (62, [(3, .int 0), (0, .ref 38), (1, .int x1), (2, .int x2)], [], mk X, σ)
      refine Ex.pick (lv' := _) [1, 3, 0] rfl ?_
      exact lk_X10_areAtRest_62 d FU _ _ _ h
    · refine And.intro (fun hp => absurd hp c1) (fun _ => ?_)
      show Ex mr_X10_areAtRest sc (Cl MT pr sc (d + 0)) (rtE (some (.int r)) (mk X) σ2) (10, [(0, .ref 38), (1, .int x1), (2, .int x2), (3, .int x3)], [], mk X, σ)
      refine Ex.blk 4 rfl ?_
      obtain ⟨g2, h⟩ := gd_some h
      refine And.intro (inb_ok g2) ?_
      show Ex mr_X10_areAtRest sc (Cl MT pr sc (d + 0)) (rtE (some (.int r)) (mk X) σ2) (16, [(0, .ref 38), (1, .int x1), (2, .int x2), (3, .int x3)], [.int (gI σ 58 x3.toNatClampNeg)], mk X, σ)
      refine Ex.blk 1000 rfl ?_
      rcases ite_sp h with ⟨c3, h⟩ | ⟨c3, h⟩
      · refine And.intro (fun hp => absurd c3 hp) (fun _ => ?_)
        show Ex mr_X10_areAtRest sc (Cl MT pr sc (d + 0)) (rtE (some (.int r)) (mk X) σ2) (20, [(0, .ref 38), (1, .int x1), (2, .int x2), (3, .int x3)], [], mk X, σ)
        refine Ex.blk 4 rfl ?_
        obtain ⟨g4, h⟩ := gd_some h
        refine And.intro (inb_ok g4) ?_
        show Ex mr_X10_areAtRest sc (Cl MT pr sc (d + 0)) (rtE (some (.int r)) (mk X) σ2) (26, [(0, .ref 38), (1, .int x1), (2, .int x2), (3, .int x3)], [.int (gI σ 62 x3.toNatClampNeg)], mk X, σ)
        refine Ex.blk 1000 rfl ?_
        rcases ite_sp h with ⟨c5, h⟩ | ⟨c5, h⟩
        · refine And.intro (fun _ => ?_) (fun hn => absurd c5 hn)
          show Ex mr_X10_areAtRest sc (Cl MT pr sc (d + 0)) (rtE (some (.int r)) (mk X) σ2) (52, [(0, .ref 38), (1, .int x1), (2, .int x2), (3, .int x3)], [], mk X, σ)
          refine Ex.pick (lv' := _) [] rfl ?_
          exact lk_X10_areAtRest_52 d _ h
        · refine And.intro (fun hp => absurd hp c5) (fun _ => ?_)
          show Ex mr_X10_areAtRest sc (Cl MT pr sc (d + 0)) (rtE (some (.int r)) (mk X) σ2) (29, [(0, .ref 38), (1, .int x1), (2, .int x2), (3, .int x3)], [], mk X, σ)
          refine Ex.blk 4 rfl ?_
          obtain ⟨g6, h⟩ := gd_some h
          refine And.intro (inb_ok g6) ?_
          show Ex mr_X10_areAtRest sc (Cl MT pr sc (d + 0)) (rtE (some (.int r)) (mk X) σ2) (35, [(0, .ref 38), (1, .int x1), (2, .int x2), (3, .int x3)], [.int (gI σ 63 x3.toNatClampNeg)], mk X, σ)
          refine Ex.blk 1000 rfl ?_
          rcases ite_sp h with ⟨c7, h⟩ | ⟨c7, h⟩
          · refine And.intro (fun _ => ?_) (fun hn => absurd c7 hn)
            show Ex mr_X10_areAtRest sc (Cl MT pr sc (d + 0)) (rtE (some (.int r)) (mk X) σ2) (52, [(0, .ref 38), (1, .int x1), (2, .int x2), (3, .int x3)], [], mk X, σ)
            refine Ex.pick (lv' := _) [] rfl ?_
            exact lk_X10_areAtRest_52 d _ h
          · refine And.intro (fun hp => absurd hp c7) (fun _ => ?_)
            show Ex mr_X10_areAtRest sc (Cl MT pr sc (d + 0)) (rtE (some (.int r)) (mk X) σ2) (38, [(0, .ref 38), (1, .int x1), (2, .int x2), (3, .int x3)], [], mk X, σ)
            refine Ex.blk 1000 rfl ?_
            rcases ite_sp h with ⟨c8, h⟩ | ⟨c8, h⟩
            · refine And.intro (fun _ => ?_) (fun hn => absurd c8 hn)
              show Ex mr_X10_areAtRest sc (Cl MT pr sc (d + 0)) (rtE (some (.int r)) (mk X) σ2) (54, [(0, .ref 38), (1, .int x1), (2, .int x2), (3, .int x3)], [], mk X, σ)
              exact lk_X10_areAtRest_54 d _ ih _ _ _ _ h
            · refine And.intro (fun hp => absurd hp c8) (fun _ => ?_)
              show Ex mr_X10_areAtRest sc (Cl MT pr sc (d + 0)) (rtE (some (.int r)) (mk X) σ2) (43, [(0, .ref 38), (1, .int x1), (2, .int x2), (3, .int x3)], [], mk X, σ)
              refine Ex.blk 4 rfl ?_
              obtain ⟨g9, h⟩ := gd_some h
              refine And.intro (inb_ok g9) ?_
              show Ex mr_X10_areAtRest sc (Cl MT pr sc (d + 0)) (rtE (some (.int r)) (mk X) σ2) (49, [(0, .ref 38), (1, .int x1), (2, .int x2), (3, .int x3)], [.int (gI σ 61 x3.toNatClampNeg)], mk X, σ)
              refine Ex.blk 1000 rfl ?_
              rcases ite_sp h with ⟨c10, h⟩ | ⟨c10, h⟩
              · refine And.intro (fun hp => absurd c10 hp) (fun _ => ?_)
                show Ex mr_X10_areAtRest sc (Cl MT pr sc (d + 0)) (rtE (some (.int r)) (mk X) σ2) (52, [(0, .ref 38), (1, .int x1), (2, .int x2), (3, .int x3)], [], mk X, σ)
                refine Ex.pick (lv' := _) [] rfl ?_
                exact lk_X10_areAtRest_52 d _ h
              · refine And.intro (fun _ => ?_) (fun hn => absurd c10 hn)
                show Ex mr_X10_areAtRest sc (Cl MT pr sc (d + 0)) (rtE (some (.int r)) (mk X) σ2) (54, [(0, .ref 38), (1, .int x1), (2, .int x2), (3, .int x3)], [], mk X, σ)
                exact lk_X10_areAtRest_54 d _ ih _ _ _ _ h
      · refine And.intro (fun _ => ?_) (fun hn => absurd c3 hn)
        show Ex mr_X10_areAtRest sc (Cl MT pr sc (d + 0)) (rtE (some (.int r)) (mk X) σ2) (52, [(0, .ref 38), (1, .int x1), (2, .int x2), (3, .int x3)], [], mk X, σ)
        refine Ex.pick (lv' := _) [] rfl ?_
        exact lk_X10_areAtRest_52 d _ h
theorem cl_X10_areAtRest {pr : Ct} {sc : Nat × (Nat → Int32)} {X : En} (d : Nat) {r : Int32} {σ2 : St} {x1 : Int32} {x2 : Int32} {σ : St} (h : f_X10_areAtRest x1 x2 σ = some (r, σ2)) : Cl MT pr sc (d + 0 + 1) 240 [.ref 38, .int x1, .int x2] (mk X) σ (some (.int r)) (mk X) σ2 := by
  refine cl_of mr_X10_areAtRest rfl rfl ?_
  unfold f_X10_areAtRest at h
  refine Ex.blk 1000 rfl ?_
  show Ex mr_X10_areAtRest sc (Cl MT pr sc (d + 0)) (rtE (some (.int r)) (mk X) σ2) (2, [(3, .int 0), (0, .ref 38), (1, .int x1), (2, .int x2)], [], mk X, σ)
  refine Ex.pick (lv' := _) [1, 2, 3, 0] rfl ?_
  exact lk_X10_areAtRest_2 d FU _ _ _ _ h
theorem lk_X10_relayOf_306 {pr : Ct} {sc : Nat × (Nat → Int32)} {X : En} (d : Nat) {r : Int32} {σ2 : St} (k103 : Int32 → Int32 → Int32 → Int32 → Int32 → Int32 → St → Option (Int32 × St)) (k209 : Int32 → Int32 → Int32 → Int32 → Int32 → Int32 → St → Option (Int32 × St)) (k241 : Int32 → Int32 → Int32 → Int32 → Int32 → Int32 → Int32 → Int32 → St → Option (Int32 × St)) (hk103 : ∀ (x1 : Int32) (x2 : Int32) (x3 : Int32) (x4 : Int32) (x5 : Int32) (x6 : Int32) (σ : St), k103 x1 x2 x3 x4 x5 x6 σ = some (r, σ2) → Ex mr_X10_relayOf sc (Cl MT pr sc (d + 2)) (rtE (some (.int r)) (mk X) σ2) (103, [(0, .ref 38), (1, .int x1), (2, .int x2), (3, .int x3), (4, .int x4), (5, .int x5), (6, .int x6)], [], mk X, σ)) (hk209 : ∀ (x1 : Int32) (x2 : Int32) (x3 : Int32) (x4 : Int32) (x5 : Int32) (x7 : Int32) (σ : St), k209 x1 x2 x3 x4 x5 x7 σ = some (r, σ2) → Ex mr_X10_relayOf sc (Cl MT pr sc (d + 2)) (rtE (some (.int r)) (mk X) σ2) (209, [(0, .ref 38), (1, .int x1), (2, .int x2), (3, .int x3), (4, .int x4), (5, .int x5), (7, .int x7)], [], mk X, σ)) (hk241 : ∀ (x1 : Int32) (x2 : Int32) (x3 : Int32) (x4 : Int32) (x5 : Int32) (x7 : Int32) (x8 : Int32) (x9 : Int32) (σ : St), k241 x1 x2 x3 x4 x5 x7 x8 x9 σ = some (r, σ2) → Ex mr_X10_relayOf sc (Cl MT pr sc (d + 2)) (rtE (some (.int r)) (mk X) σ2) (241, [(0, .ref 38), (1, .int x1), (2, .int x2), (3, .int x3), (4, .int x4), (5, .int x5), (7, .int x7), (8, .int x8), (9, .int x9)], [], mk X, σ)) (x1 : Int32) (x2 : Int32) (x3 : Int32) (x4 : Int32) (x5 : Int32) (x7 : Int32) (x8 : Int32) (x9 : Int32) (σ : St) (h : f_X10_relayOf_306 k103 k209 k241 x1 x2 x3 x4 x5 x7 x8 x9 σ = some (r, σ2)) : Ex mr_X10_relayOf sc (Cl MT pr sc (d + 2)) (rtE (some (.int r)) (mk X) σ2) (306, [(0, .ref 38), (1, .int x1), (2, .int x2), (3, .int x3), (4, .int x4), (5, .int x5), (7, .int x7), (8, .int x8), (9, .int x9)], [], mk X, σ) := by
  unfold f_X10_relayOf_306 at h
  refine Ex.blk 1000 rfl ?_
  show Ex mr_X10_relayOf sc (Cl MT pr sc (d + 2)) (rtE (some (.int r)) (mk X) σ2) (241, [(9, .int (x9 + 1)), (0, .ref 38), (1, .int x1), (2, .int x2), (3, .int x3), (4, .int x4), (5, .int x5), (7, .int x7), (8, .int x8)], [], mk X, σ)
  refine Ex.pick (lv' := _) [1, 2, 3, 4, 5, 6, 7, 8, 0] rfl ?_
  exact hk241 _ _ _ _ _ _ _ _ _ h
theorem lk_X10_relayOf_297 {pr : Ct} {sc : Nat × (Nat → Int32)} {X : En} (d : Nat) {r : Int32} {σ2 : St} (k103 : Int32 → Int32 → Int32 → Int32 → Int32 → Int32 → St → Option (Int32 × St)) (k209 : Int32 → Int32 → Int32 → Int32 → Int32 → Int32 → St → Option (Int32 × St)) (k241 : Int32 → Int32 → Int32 → Int32 → Int32 → Int32 → Int32 → Int32 → St → Option (Int32 × St)) (hk103 : ∀ (x1 : Int32) (x2 : Int32) (x3 : Int32) (x4 : Int32) (x5 : Int32) (x6 : Int32) (σ : St), k103 x1 x2 x3 x4 x5 x6 σ = some (r, σ2) → Ex mr_X10_relayOf sc (Cl MT pr sc (d + 2)) (rtE (some (.int r)) (mk X) σ2) (103, [(0, .ref 38), (1, .int x1), (2, .int x2), (3, .int x3), (4, .int x4), (5, .int x5), (6, .int x6)], [], mk X, σ)) (hk209 : ∀ (x1 : Int32) (x2 : Int32) (x3 : Int32) (x4 : Int32) (x5 : Int32) (x7 : Int32) (σ : St), k209 x1 x2 x3 x4 x5 x7 σ = some (r, σ2) → Ex mr_X10_relayOf sc (Cl MT pr sc (d + 2)) (rtE (some (.int r)) (mk X) σ2) (209, [(0, .ref 38), (1, .int x1), (2, .int x2), (3, .int x3), (4, .int x4), (5, .int x5), (7, .int x7)], [], mk X, σ)) (hk241 : ∀ (x1 : Int32) (x2 : Int32) (x3 : Int32) (x4 : Int32) (x5 : Int32) (x7 : Int32) (x8 : Int32) (x9 : Int32) (σ : St), k241 x1 x2 x3 x4 x5 x7 x8 x9 σ = some (r, σ2) → Ex mr_X10_relayOf sc (Cl MT pr sc (d + 2)) (rtE (some (.int r)) (mk X) σ2) (241, [(0, .ref 38), (1, .int x1), (2, .int x2), (3, .int x3), (4, .int x4), (5, .int x5), (7, .int x7), (8, .int x8), (9, .int x9)], [], mk X, σ)) (x1 : Int32) (x2 : Int32) (x3 : Int32) (x4 : Int32) (x5 : Int32) (x7 : Int32) (x8 : Int32) (x9 : Int32) (σ : St) (h : f_X10_relayOf_297 k103 k209 k241 x1 x2 x3 x4 x5 x7 x8 x9 σ = some (r, σ2)) : Ex mr_X10_relayOf sc (Cl MT pr sc (d + 2)) (rtE (some (.int r)) (mk X) σ2) (297, [(0, .ref 38), (1, .int x1), (2, .int x2), (3, .int x3), (4, .int x4), (5, .int x5), (7, .int x7), (8, .int x8), (9, .int x9)], [], mk X, σ) := by
  unfold f_X10_relayOf_297 at h
  refine Ex.blk 5 rfl ?_
  obtain ⟨g1, h⟩ := gd_some h
  refine And.intro (inb_ok g1) ?_
  show Ex mr_X10_relayOf sc (Cl MT pr sc (d + 2)) (rtE (some (.int r)) (mk X) σ2) (306, [(0, .ref 38), (1, .int x1), (2, .int x2), (3, .int x3), (4, .int x4), (5, .int x5), (7, .int x7), (8, .int x8), (9, .int x9)], [], mk X, (sI σ 66 x9.toNatClampNeg x8))
  exact lk_X10_relayOf_306 d _ _ _ hk103 hk209 hk241 _ _ _ _ _ _ _ _ _ h
theorem lk_X10_relayOf_241 {pr : Ct} {sc : Nat × (Nat → Int32)} {X : En} (d : Nat) {r : Int32} {σ2 : St} (k103 : Int32 → Int32 → Int32 → Int32 → Int32 → Int32 → St → Option (Int32 × St)) (k209 : Int32 → Int32 → Int32 → Int32 → Int32 → Int32 → St → Option (Int32 × St)) (hk103 : ∀ (x1 : Int32) (x2 : Int32) (x3 : Int32) (x4 : Int32) (x5 : Int32) (x6 : Int32) (σ : St), k103 x1 x2 x3 x4 x5 x6 σ = some (r, σ2) → Ex mr_X10_relayOf sc (Cl MT pr sc (d + 2)) (rtE (some (.int r)) (mk X) σ2) (103, [(0, .ref 38), (1, .int x1), (2, .int x2), (3, .int x3), (4, .int x4), (5, .int x5), (6, .int x6)], [], mk X, σ)) (hk209 : ∀ (x1 : Int32) (x2 : Int32) (x3 : Int32) (x4 : Int32) (x5 : Int32) (x7 : Int32) (σ : St), k209 x1 x2 x3 x4 x5 x7 σ = some (r, σ2) → Ex mr_X10_relayOf sc (Cl MT pr sc (d + 2)) (rtE (some (.int r)) (mk X) σ2) (209, [(0, .ref 38), (1, .int x1), (2, .int x2), (3, .int x3), (4, .int x4), (5, .int x5), (7, .int x7)], [], mk X, σ)) : ∀ (n : Nat) (x1 : Int32) (x2 : Int32) (x3 : Int32) (x4 : Int32) (x5 : Int32) (x7 : Int32) (x8 : Int32) (x9 : Int32) (σ : St), f_X10_relayOf_241 k103 k209 n x1 x2 x3 x4 x5 x7 x8 x9 σ = some (r, σ2) → Ex mr_X10_relayOf sc (Cl MT pr sc (d + 2)) (rtE (some (.int r)) (mk X) σ2) (241, [(0, .ref 38), (1, .int x1), (2, .int x2), (3, .int x3), (4, .int x4), (5, .int x5), (7, .int x7), (8, .int x8), (9, .int x9)], [], mk X, σ) := by
  intro n
  induction n with
  | zero =>
    intro x1 x2 x3 x4 x5 x7 x8 x9 σ h
    cases h
  | succ n ih =>
    intro x1 x2 x3 x4 x5 x7 x8 x9 σ h
    simp only [f_X10_relayOf_241] at h
    refine Ex.blk 1000 rfl ?_
    rcases ite_sp h with ⟨c1, h⟩ | ⟨c1, h⟩
    · refine And.intro (fun _ => ?_) (fun hn => absurd c1 hn)
      show Ex mr_X10_relayOf sc (Cl MT pr sc (d + 2)) (rtE (some (.int r)) (mk X) σ2) (312, [(0, .ref 38), (1, .int x1), (2, .int x2), (3, .int x3), (4, .int x4), (5, .int x5), (7, .int x7), (8, .int x8), (9, .int x9)], [], mk X, σ)
      refine Ex.blk 1000 rfl ?_
      show Ex mr_X10_relayOf sc (Cl MT pr sc (d + 2)) (rtE (some (.int r)) (mk X) σ2) (209, [(7, .int (x7 + 1)), (0, .ref 38), (1, .int x1), (2, .int x2), (3, .int x3), (4, .int x4), (5, .int x5), (8, .int x8), (9, .int x9)], [], mk X, σ)
      refine Ex.pick (lv' := _) [1, 2, 3, 4, 5, 6, 0] rfl ?_
      exact hk209 _ _ _ _ _ _ _ h
    · refine And.intro (fun hp => absurd hp c1) (fun _ => ?_)
      show Ex mr_X10_relayOf sc (Cl MT pr sc (d + 2)) (rtE (some (.int r)) (mk X) σ2) (247, [(0, .ref 38), (1, .int x1), (2, .int x2), (3, .int x3), (4, .int x4), (5, .int x5), (7, .int x7), (8, .int x8), (9, .int x9)], [], mk X, σ)
      refine Ex.blk 4 rfl ?_
      obtain ⟨g2, h⟩ := gd_some h
      refine And.intro (inb_ok g2) ?_
      show Ex mr_X10_relayOf sc (Cl MT pr sc (d + 2)) (rtE (some (.int r)) (mk X) σ2) (254, [(0, .ref 38), (1, .int x1), (2, .int x2), (3, .int x3), (4, .int x4), (5, .int x5), (7, .int x7), (8, .int x8), (9, .int x9)], [.int (gI σ 62 x8.toNatClampNeg)], mk X, σ)
      refine Ex.blk 1000 rfl ?_
      rcases ite_sp h with ⟨c3, h⟩ | ⟨c3, h⟩
      · refine And.intro (fun _ => ?_) (fun hn => absurd c3 hn)
        show Ex mr_X10_relayOf sc (Cl MT pr sc (d + 2)) (rtE (some (.int r)) (mk X) σ2) (306, [(0, .ref 38), (1, .int x1), (2, .int x2), (3, .int x3), (4, .int x4), (5, .int x5), (7, .int x7), (8, .int x8), (9, .int x9)], [], mk X, σ)
        exact lk_X10_relayOf_306 d _ _ _ hk103 hk209 ih _ _ _ _ _ _ _ _ _ h
      · refine And.intro (fun hp => absurd hp c3) (fun _ => ?_)
        show Ex mr_X10_relayOf sc (Cl MT pr sc (d + 2)) (rtE (some (.int r)) (mk X) σ2) (257, [(0, .ref 38), (1, .int x1), (2, .int x2), (3, .int x3), (4, .int x4), (5, .int x5), (7, .int x7), (8, .int x8), (9, .int x9)], [], mk X, σ)
        refine Ex.blk 4 rfl ?_
        obtain ⟨g4, h⟩ := gd_some h
        refine And.intro (inb_ok g4) ?_
        show Ex mr_X10_relayOf sc (Cl MT pr sc (d + 2)) (rtE (some (.int r)) (mk X) σ2) (264, [(0, .ref 38), (1, .int x1), (2, .int x2), (3, .int x3), (4, .int x4), (5, .int x5), (7, .int x7), (8, .int x8), (9, .int x9)], [.int (gI σ 65 x9.toNatClampNeg)], mk X, σ)
        refine Ex.blk 1000 rfl ?_
        rcases ite_sp h with ⟨c5, h⟩ | ⟨c5, h⟩
        · refine And.intro (fun hp => absurd c5 hp) (fun _ => ?_)
          show Ex mr_X10_relayOf sc (Cl MT pr sc (d + 2)) (rtE (some (.int r)) (mk X) σ2) (268, [(0, .ref 38), (1, .int x1), (2, .int x2), (3, .int x3), (4, .int x4), (5, .int x5), (7, .int x7), (8, .int x8), (9, .int x9)], [], mk X, σ)
          refine Ex.blk 5 rfl ?_
          obtain ⟨g6, h⟩ := gd_some h
          refine And.intro (inb_ok g6) ?_
          show Ex mr_X10_relayOf sc (Cl MT pr sc (d + 2)) (rtE (some (.int r)) (mk X) σ2) (276, [(0, .ref 38), (1, .int x1), (2, .int x2), (3, .int x3), (4, .int x4), (5, .int x5), (7, .int x7), (8, .int x8), (9, .int x9)], [.int (gI σ 62 x8.toNatClampNeg), .int x8, .ref 62], mk X, σ)
          refine Ex.blk 3 rfl ?_
          obtain ⟨g7, h⟩ := gd_some h
          refine And.intro (inb_ok g7) ?_
          show Ex mr_X10_relayOf sc (Cl MT pr sc (d + 2)) (rtE (some (.int r)) (mk X) σ2) (279, [(0, .ref 38), (1, .int x1), (2, .int x2), (3, .int x3), (4, .int x4), (5, .int x5), (7, .int x7), (8, .int x8), (9, .int x9)], [], mk X, (sI σ 62 x8.toNatClampNeg ((gI σ 62 x8.toNatClampNeg) - 1)))
          refine Ex.blk 5 rfl ?_
          show Ex mr_X10_relayOf sc (Cl MT pr sc (d + 2)) (rtE (some (.int r)) (mk X) σ2) (288, [(0, .ref 38), (1, .int x1), (2, .int x2), (3, .int x3), (4, .int x4), (5, .int x5), (7, .int x7), (8, .int x8), (9, .int x9)], [.int 1, .int x5, .int x9, .ref 65], mk X, (sI σ 62 x8.toNatClampNeg ((gI σ 62 x8.toNatClampNeg) - 1)))
          refine Ex.blk 5 rfl ?_
          obtain ⟨g8, h⟩ := gd_some h
          refine And.intro (inb_ok g8) ?_
          show Ex mr_X10_relayOf sc (Cl MT pr sc (d + 2)) (rtE (some (.int r)) (mk X) σ2) (297, [(0, .ref 38), (1, .int x1), (2, .int x2), (3, .int x3), (4, .int x4), (5, .int x5), (7, .int x7), (8, .int x8), (9, .int x9)], [], mk X, (sI (sI σ 62 x8.toNatClampNeg ((gI σ 62 x8.toNatClampNeg) - 1)) 65 x9.toNatClampNeg (x5 + (mxI 1 (gI (sI σ 62 x8.toNatClampNeg ((gI σ 62 x8.toNatClampNeg) - 1)) 38 13)))))
          exact lk_X10_relayOf_297 d _ _ _ hk103 hk209 ih _ _ _ _ _ _ _ _ _ h
        · refine And.intro (fun _ => ?_) (fun hn => absurd c5 hn)
          show Ex mr_X10_relayOf sc (Cl MT pr sc (d + 2)) (rtE (some (.int r)) (mk X) σ2) (306, [(0, .ref 38), (1, .int x1), (2, .int x2), (3, .int x3), (4, .int x4), (5, .int x5), (7, .int x7), (8, .int x8), (9, .int x9)], [], mk X, σ)
          exact lk_X10_relayOf_306 d _ _ _ hk103 hk209 ih _ _ _ _ _ _ _ _ _ h
theorem lk_X10_relayOf_236 {pr : Ct} {sc : Nat × (Nat → Int32)} {X : En} (d : Nat) {r : Int32} {σ2 : St} (k103 : Int32 → Int32 → Int32 → Int32 → Int32 → Int32 → St → Option (Int32 × St)) (k209 : Int32 → Int32 → Int32 → Int32 → Int32 → Int32 → St → Option (Int32 × St)) (hk103 : ∀ (x1 : Int32) (x2 : Int32) (x3 : Int32) (x4 : Int32) (x5 : Int32) (x6 : Int32) (σ : St), k103 x1 x2 x3 x4 x5 x6 σ = some (r, σ2) → Ex mr_X10_relayOf sc (Cl MT pr sc (d + 2)) (rtE (some (.int r)) (mk X) σ2) (103, [(0, .ref 38), (1, .int x1), (2, .int x2), (3, .int x3), (4, .int x4), (5, .int x5), (6, .int x6)], [], mk X, σ)) (hk209 : ∀ (x1 : Int32) (x2 : Int32) (x3 : Int32) (x4 : Int32) (x5 : Int32) (x7 : Int32) (σ : St), k209 x1 x2 x3 x4 x5 x7 σ = some (r, σ2) → Ex mr_X10_relayOf sc (Cl MT pr sc (d + 2)) (rtE (some (.int r)) (mk X) σ2) (209, [(0, .ref 38), (1, .int x1), (2, .int x2), (3, .int x3), (4, .int x4), (5, .int x5), (7, .int x7)], [], mk X, σ)) (x1 : Int32) (x2 : Int32) (x3 : Int32) (x4 : Int32) (x5 : Int32) (x7 : Int32) (y0 : Int32) (σ : St) (h : f_X10_relayOf_236 k103 k209 x1 x2 x3 x4 x5 x7 y0 σ = some (r, σ2)) : Ex mr_X10_relayOf sc (Cl MT pr sc (d + 2)) (rtE (some (.int r)) (mk X) σ2) (236, [(0, .ref 38), (1, .int x1), (2, .int x2), (3, .int x3), (4, .int x4), (5, .int x5), (7, .int x7)], [.int y0], mk X, σ) := by
  unfold f_X10_relayOf_236 at h
  refine Ex.blk 1000 rfl ?_
  show Ex mr_X10_relayOf sc (Cl MT pr sc (d + 2)) (rtE (some (.int r)) (mk X) σ2) (241, [(9, .int 0), (8, .int y0), (0, .ref 38), (1, .int x1), (2, .int x2), (3, .int x3), (4, .int x4), (5, .int x5), (7, .int x7)], [], mk X, σ)
  refine Ex.pick (lv' := _) [2, 3, 4, 5, 6, 7, 8, 1, 0] rfl ?_
  exact lk_X10_relayOf_241 d _ _ hk103 hk209 FU _ _ _ _ _ _ _ _ _ h
theorem lk_X10_relayOf_209 {pr : Ct} {sc : Nat × (Nat → Int32)} {X : En} (d : Nat) {r : Int32} {σ2 : St} (k103 : Int32 → Int32 → Int32 → Int32 → Int32 → Int32 → St → Option (Int32 × St)) (hk103 : ∀ (x1 : Int32) (x2 : Int32) (x3 : Int32) (x4 : Int32) (x5 : Int32) (x6 : Int32) (σ : St), k103 x1 x2 x3 x4 x5 x6 σ = some (r, σ2) → Ex mr_X10_relayOf sc (Cl MT pr sc (d + 2)) (rtE (some (.int r)) (mk X) σ2) (103, [(0, .ref 38), (1, .int x1), (2, .int x2), (3, .int x3), (4, .int x4), (5, .int x5), (6, .int x6)], [], mk X, σ)) : ∀ (n : Nat) (x1 : Int32) (x2 : Int32) (x3 : Int32) (x4 : Int32) (x5 : Int32) (x7 : Int32) (σ : St), f_X10_relayOf_209 k103 n x1 x2 x3 x4 x5 x7 σ = some (r, σ2) → Ex mr_X10_relayOf sc (Cl MT pr sc (d + 2)) (rtE (some (.int r)) (mk X) σ2) (209, [(0, .ref 38), (1, .int x1), (2, .int x2), (3, .int x3), (4, .int x4), (5, .int x5), (7, .int x7)], [], mk X, σ) := by
  intro n
  induction n with
  | zero =>
    intro x1 x2 x3 x4 x5 x7 σ h
    cases h
  | succ n ih =>
    intro x1 x2 x3 x4 x5 x7 σ h
    simp only [f_X10_relayOf_209] at h
    refine Ex.blk 1000 rfl ?_
    rcases ite_sp h with ⟨c1, h⟩ | ⟨c1, h⟩
    · refine And.intro (fun _ => ?_) (fun hn => absurd c1 hn)
      show Ex mr_X10_relayOf sc (Cl MT pr sc (d + 2)) (rtE (some (.int r)) (mk X) σ2) (318, [(0, .ref 38), (1, .int x1), (2, .int x2), (3, .int x3), (4, .int x4), (5, .int x5), (7, .int x7)], [], mk X, σ)
      refine Ex.blk 4 rfl ?_
      obtain ⟨p2, hp2, h⟩ := bind_sp h
      refine Exists.intro (some (.int p2.1)) (Exists.intro (mk X) (Exists.intro p2.2 (And.intro (cl_X10_areAtRest (d + 1) hp2) ?_)))
      show Ex mr_X10_relayOf sc (Cl MT pr sc (d + 2)) (rtE (some (.int r)) (mk X) σ2) (325, [(0, .ref 38), (1, .int x1), (2, .int x2), (3, .int x3), (4, .int x4), (5, .int x5), (7, .int x7)], [.int p2.1], mk X, p2.2)
      refine Ex.blk 1000 rfl ?_
      show Ex mr_X10_relayOf sc (Cl MT pr sc (d + 2)) (rtE (some (.int r)) (mk X) σ2) (103, [(5, .int (x5 + 1)), (6, .int p2.1), (0, .ref 38), (1, .int x1), (2, .int x2), (3, .int x3), (4, .int x4), (7, .int x7)], [], mk X, p2.2)
      refine Ex.pick (lv' := _) [2, 3, 4, 5, 6, 0, 1] rfl ?_
      exact hk103 _ _ _ _ _ _ _ h
    · refine And.intro (fun hp => absurd hp c1) (fun _ => ?_)
      show Ex mr_X10_relayOf sc (Cl MT pr sc (d + 2)) (rtE (some (.int r)) (mk X) σ2) (218, [(0, .ref 38), (1, .int x1), (2, .int x2), (3, .int x3), (4, .int x4), (5, .int x5), (7, .int x7)], [], mk X, σ)
      refine Ex.blk 1000 rfl ?_
      rcases ite_sp h with ⟨c2, h⟩ | ⟨c2, h⟩
      · refine And.intro (fun hp => absurd c2 hp) (fun _ => ?_)
        show Ex mr_X10_relayOf sc (Cl MT pr sc (d + 2)) (rtE (some (.int r)) (mk X) σ2) (222, [(0, .ref 38), (1, .int x1), (2, .int x2), (3, .int x3), (4, .int x4), (5, .int x5), (7, .int x7)], [], mk X, σ)
        refine Ex.blk 1000 rfl ?_
        show Ex mr_X10_relayOf sc (Cl MT pr sc (d + 2)) (rtE (some (.int r)) (mk X) σ2) (236, [(0, .ref 38), (1, .int x1), (2, .int x2), (3, .int x3), (4, .int x4), (5, .int x5), (7, .int x7)], [.int x7], mk X, σ)
        exact lk_X10_relayOf_236 d _ _ hk103 ih _ _ _ _ _ _ _ _ h
      · refine And.intro (fun _ => ?_) (fun hn => absurd c2 hn)
        show Ex mr_X10_relayOf sc (Cl MT pr sc (d + 2)) (rtE (some (.int r)) (mk X) σ2) (227, [(0, .ref 38), (1, .int x1), (2, .int x2), (3, .int x3), (4, .int x4), (5, .int x5), (7, .int x7)], [], mk X, σ)
        refine Ex.blk 5 rfl ?_
        show Ex mr_X10_relayOf sc (Cl MT pr sc (d + 2)) (rtE (some (.int r)) (mk X) σ2) (235, [(0, .ref 38), (1, .int x1), (2, .int x2), (3, .int x3), (4, .int x4), (5, .int x5), (7, .int x7)], [.int x7, .int ((gI σ 38 1) - 1)], mk X, σ)
        refine Ex.blk 1000 rfl ?_
        show Ex mr_X10_relayOf sc (Cl MT pr sc (d + 2)) (rtE (some (.int r)) (mk X) σ2) (236, [(0, .ref 38), (1, .int x1), (2, .int x2), (3, .int x3), (4, .int x4), (5, .int x5), (7, .int x7)], [.int (((gI σ 38 1) - 1) - x7)], mk X, σ)
        exact lk_X10_relayOf_236 d _ _ hk103 ih _ _ _ _ _ _ _ _ h
theorem lk_X10_relayOf_180 {pr : Ct} {sc : Nat × (Nat → Int32)} {X : En} (d : Nat) {r : Int32} {σ2 : St} (k103 : Int32 → Int32 → Int32 → Int32 → Int32 → Int32 → St → Option (Int32 × St)) (hk103 : ∀ (x1 : Int32) (x2 : Int32) (x3 : Int32) (x4 : Int32) (x5 : Int32) (x6 : Int32) (σ : St), k103 x1 x2 x3 x4 x5 x6 σ = some (r, σ2) → Ex mr_X10_relayOf sc (Cl MT pr sc (d + 2)) (rtE (some (.int r)) (mk X) σ2) (103, [(0, .ref 38), (1, .int x1), (2, .int x2), (3, .int x3), (4, .int x4), (5, .int x5), (6, .int x6)], [], mk X, σ)) : ∀ (n : Nat) (x1 : Int32) (x2 : Int32) (x3 : Int32) (x4 : Int32) (x5 : Int32) (x7 : Int32) (σ : St), f_X10_relayOf_180 k103 n x1 x2 x3 x4 x5 x7 σ = some (r, σ2) → Ex mr_X10_relayOf sc (Cl MT pr sc (d + 2)) (rtE (some (.int r)) (mk X) σ2) (180, [(0, .ref 38), (1, .int x1), (2, .int x2), (3, .int x3), (4, .int x4), (5, .int x5), (7, .int x7)], [], mk X, σ) := by
  intro n
  induction n with
  | zero =>
    intro x1 x2 x3 x4 x5 x7 σ h
    cases h
  | succ n ih =>
    intro x1 x2 x3 x4 x5 x7 σ h
    simp only [f_X10_relayOf_180] at h
    refine Ex.blk 1000 rfl ?_
    rcases ite_sp h with ⟨c1, h⟩ | ⟨c1, h⟩
    · refine And.intro (fun _ => ?_) (fun hn => absurd c1 hn)
      show Ex mr_X10_relayOf sc (Cl MT pr sc (d + 2)) (rtE (some (.int r)) (mk X) σ2) (206, [(0, .ref 38), (1, .int x1), (2, .int x2), (3, .int x3), (4, .int x4), (5, .int x5), (7, .int x7)], [], mk X, σ)
      refine Ex.blk 1000 rfl ?_
      show Ex mr_X10_relayOf sc (Cl MT pr sc (d + 2)) (rtE (some (.int r)) (mk X) σ2) (209, [(7, .int 0), (0, .ref 38), (1, .int x1), (2, .int x2), (3, .int x3), (4, .int x4), (5, .int x5)], [], mk X, σ)
      refine Ex.pick (lv' := _) [1, 2, 3, 4, 5, 6, 0] rfl ?_
      exact lk_X10_relayOf_209 d _ hk103 FU _ _ _ _ _ _ _ h
    · refine And.intro (fun hp => absurd hp c1) (fun _ => ?_)
      show Ex mr_X10_relayOf sc (Cl MT pr sc (d + 2)) (rtE (some (.int r)) (mk X) σ2) (189, [(0, .ref 38), (1, .int x1), (2, .int x2), (3, .int x3), (4, .int x4), (5, .int x5), (7, .int x7)], [], mk X, σ)
      refine Ex.blk 5 rfl ?_
      show Ex mr_X10_relayOf sc (Cl MT pr sc (d + 2)) (rtE (some (.int r)) (mk X) σ2) (197, [(0, .ref 38), (1, .int x1), (2, .int x2), (3, .int x3), (4, .int x4), (5, .int x5), (7, .int x7)], [.int x4, .int x1, .int x5, .int x7, .ref 38], mk X, σ)
      refine Ex.blk 1 rfl ?_
      obtain ⟨p3, hp3, h⟩ := bind_sp h
      refine Exists.intro none (Exists.intro (mk X) (Exists.intro p3 (And.intro (cl_X10_work (d + 0) hp3) ?_)))
      show Ex mr_X10_relayOf sc (Cl MT pr sc (d + 2)) (rtE (some (.int r)) (mk X) σ2) (200, [(0, .ref 38), (1, .int x1), (2, .int x2), (3, .int x3), (4, .int x4), (5, .int x5), (7, .int x7)], [], mk X, p3)
      refine Ex.blk 1000 rfl ?_
      show Ex mr_X10_relayOf sc (Cl MT pr sc (d + 2)) (rtE (some (.int r)) (mk X) σ2) (180, [(7, .int (x7 + 1)), (0, .ref 38), (1, .int x1), (2, .int x2), (3, .int x3), (4, .int x4), (5, .int x5)], [], mk X, p3)
      refine Ex.pick (lv' := _) [1, 2, 3, 4, 5, 6, 0] rfl ?_
      exact ih _ _ _ _ _ _ _ h
theorem lk_X10_relayOf_171 {pr : Ct} {sc : Nat × (Nat → Int32)} {X : En} (d : Nat) {r : Int32} {σ2 : St} (k103 : Int32 → Int32 → Int32 → Int32 → Int32 → Int32 → St → Option (Int32 × St)) (k111 : Int32 → Int32 → Int32 → Int32 → Int32 → Int32 → St → Option (Int32 × St)) (hk103 : ∀ (x1 : Int32) (x2 : Int32) (x3 : Int32) (x4 : Int32) (x5 : Int32) (x6 : Int32) (σ : St), k103 x1 x2 x3 x4 x5 x6 σ = some (r, σ2) → Ex mr_X10_relayOf sc (Cl MT pr sc (d + 2)) (rtE (some (.int r)) (mk X) σ2) (103, [(0, .ref 38), (1, .int x1), (2, .int x2), (3, .int x3), (4, .int x4), (5, .int x5), (6, .int x6)], [], mk X, σ)) (hk111 : ∀ (x1 : Int32) (x2 : Int32) (x3 : Int32) (x4 : Int32) (x5 : Int32) (x7 : Int32) (σ : St), k111 x1 x2 x3 x4 x5 x7 σ = some (r, σ2) → Ex mr_X10_relayOf sc (Cl MT pr sc (d + 2)) (rtE (some (.int r)) (mk X) σ2) (111, [(0, .ref 38), (1, .int x1), (2, .int x2), (3, .int x3), (4, .int x4), (5, .int x5), (7, .int x7)], [], mk X, σ)) (x1 : Int32) (x2 : Int32) (x3 : Int32) (x4 : Int32) (x5 : Int32) (x7 : Int32) (σ : St) (h : f_X10_relayOf_171 k103 k111 x1 x2 x3 x4 x5 x7 σ = some (r, σ2)) : Ex mr_X10_relayOf sc (Cl MT pr sc (d + 2)) (rtE (some (.int r)) (mk X) σ2) (171, [(0, .ref 38), (1, .int x1), (2, .int x2), (3, .int x3), (4, .int x4), (5, .int x5), (7, .int x7)], [], mk X, σ) := by
  unfold f_X10_relayOf_171 at h
  refine Ex.blk 1000 rfl ?_
  show Ex mr_X10_relayOf sc (Cl MT pr sc (d + 2)) (rtE (some (.int r)) (mk X) σ2) (111, [(7, .int (x7 + 1)), (0, .ref 38), (1, .int x1), (2, .int x2), (3, .int x3), (4, .int x4), (5, .int x5)], [], mk X, σ)
  refine Ex.pick (lv' := _) [1, 2, 3, 4, 5, 6, 0] rfl ?_
  exact hk111 _ _ _ _ _ _ _ h
theorem lk_X10_relayOf_111 {pr : Ct} {sc : Nat × (Nat → Int32)} {X : En} (d : Nat) {r : Int32} {σ2 : St} (k103 : Int32 → Int32 → Int32 → Int32 → Int32 → Int32 → St → Option (Int32 × St)) (hk103 : ∀ (x1 : Int32) (x2 : Int32) (x3 : Int32) (x4 : Int32) (x5 : Int32) (x6 : Int32) (σ : St), k103 x1 x2 x3 x4 x5 x6 σ = some (r, σ2) → Ex mr_X10_relayOf sc (Cl MT pr sc (d + 2)) (rtE (some (.int r)) (mk X) σ2) (103, [(0, .ref 38), (1, .int x1), (2, .int x2), (3, .int x3), (4, .int x4), (5, .int x5), (6, .int x6)], [], mk X, σ)) : ∀ (n : Nat) (x1 : Int32) (x2 : Int32) (x3 : Int32) (x4 : Int32) (x5 : Int32) (x7 : Int32) (σ : St), f_X10_relayOf_111 k103 n x1 x2 x3 x4 x5 x7 σ = some (r, σ2) → Ex mr_X10_relayOf sc (Cl MT pr sc (d + 2)) (rtE (some (.int r)) (mk X) σ2) (111, [(0, .ref 38), (1, .int x1), (2, .int x2), (3, .int x3), (4, .int x4), (5, .int x5), (7, .int x7)], [], mk X, σ) := by
  intro n
  induction n with
  | zero =>
    intro x1 x2 x3 x4 x5 x7 σ h
    cases h
  | succ n ih =>
    intro x1 x2 x3 x4 x5 x7 σ h
    simp only [f_X10_relayOf_111] at h
    refine Ex.blk 1000 rfl ?_
    rcases ite_sp h with ⟨c1, h⟩ | ⟨c1, h⟩
    · refine And.intro (fun _ => ?_) (fun hn => absurd c1 hn)
      show Ex mr_X10_relayOf sc (Cl MT pr sc (d + 2)) (rtE (some (.int r)) (mk X) σ2) (177, [(0, .ref 38), (1, .int x1), (2, .int x2), (3, .int x3), (4, .int x4), (5, .int x5), (7, .int x7)], [], mk X, σ)
      refine Ex.blk 1000 rfl ?_
      show Ex mr_X10_relayOf sc (Cl MT pr sc (d + 2)) (rtE (some (.int r)) (mk X) σ2) (180, [(7, .int 0), (0, .ref 38), (1, .int x1), (2, .int x2), (3, .int x3), (4, .int x4), (5, .int x5)], [], mk X, σ)
      refine Ex.pick (lv' := _) [1, 2, 3, 4, 5, 6, 0] rfl ?_
      exact lk_X10_relayOf_180 d _ hk103 FU _ _ _ _ _ _ _ h
    · refine And.intro (fun hp => absurd hp c1) (fun _ => ?_)
      show Ex mr_X10_relayOf sc (Cl MT pr sc (d + 2)) (rtE (some (.int r)) (mk X) σ2) (117, [(0, .ref 38), (1, .int x1), (2, .int x2), (3, .int x3), (4, .int x4), (5, .int x5), (7, .int x7)], [], mk X, σ)
      refine Ex.blk 4 rfl ?_
      obtain ⟨g2, h⟩ := gd_some h
      refine And.intro (inb_ok g2) ?_
      show Ex mr_X10_relayOf sc (Cl MT pr sc (d + 2)) (rtE (some (.int r)) (mk X) σ2) (124, [(0, .ref 38), (1, .int x1), (2, .int x2), (3, .int x3), (4, .int x4), (5, .int x5), (7, .int x7)], [.int (gI σ 65 x7.toNatClampNeg)], mk X, σ)
      refine Ex.blk 1000 rfl ?_
      rcases ite_sp h with ⟨c3, h⟩ | ⟨c3, h⟩
      · refine And.intro (fun hp => absurd c3 hp) (fun _ => ?_)
        show Ex mr_X10_relayOf sc (Cl MT pr sc (d + 2)) (rtE (some (.int r)) (mk X) σ2) (129, [(0, .ref 38), (1, .int x1), (2, .int x2), (3, .int x3), (4, .int x4), (5, .int x5), (7, .int x7)], [], mk X, σ)
        refine Ex.blk 5 rfl ?_
        obtain ⟨g4, h⟩ := gd_some h
        refine And.intro (inb_ok g4) ?_
        show Ex mr_X10_relayOf sc (Cl MT pr sc (d + 2)) (rtE (some (.int r)) (mk X) σ2) (137, [(0, .ref 38), (1, .int x1), (2, .int x2), (3, .int x3), (4, .int x4), (5, .int x5), (7, .int x7)], [], mk X, (sI σ 65 x7.toNatClampNeg (-1)))
        refine Ex.blk 4 rfl ?_
        obtain ⟨g5, h⟩ := gd_some h
        refine And.intro (inb_ok g5) ?_
        show Ex mr_X10_relayOf sc (Cl MT pr sc (d + 2)) (rtE (some (.int r)) (mk X) σ2) (144, [(0, .ref 38), (1, .int x1), (2, .int x2), (3, .int x3), (4, .int x4), (5, .int x5), (7, .int x7)], [.int (gI (sI σ 65 x7.toNatClampNeg (-1)) 66 x7.toNatClampNeg)], mk X, (sI σ 65 x7.toNatClampNeg (-1)))
        refine Ex.blk 1000 rfl ?_
        rcases ite_sp h with ⟨c6, h⟩ | ⟨c6, h⟩
        · refine And.intro (fun _ => ?_) (fun hn => absurd c6 hn)
          show Ex mr_X10_relayOf sc (Cl MT pr sc (d + 2)) (rtE (some (.int r)) (mk X) σ2) (171, [(0, .ref 38), (1, .int x1), (2, .int x2), (3, .int x3), (4, .int x4), (5, .int x5), (7, .int x7)], [], mk X, (sI σ 65 x7.toNatClampNeg (-1)))
          exact lk_X10_relayOf_171 d _ _ hk103 ih _ _ _ _ _ _ _ h
        · refine And.intro (fun hp => absurd hp c6) (fun _ => ?_)
          show Ex mr_X10_relayOf sc (Cl MT pr sc (d + 2)) (rtE (some (.int r)) (mk X) σ2) (153, [(0, .ref 38), (1, .int x1), (2, .int x2), (3, .int x3), (4, .int x4), (5, .int x5), (7, .int x7)], [], mk X, (sI σ 65 x7.toNatClampNeg (-1)))
          refine Ex.blk 5 rfl ?_
          show Ex mr_X10_relayOf sc (Cl MT pr sc (d + 2)) (rtE (some (.int r)) (mk X) σ2) (163, [(0, .ref 38), (1, .int x1), (2, .int x2), (3, .int x3), (4, .int x4), (5, .int x5), (7, .int x7)], [.int x7, .ref 66, .ref 63], mk X, (sI σ 65 x7.toNatClampNeg (-1)))
          refine Ex.blk 1 rfl ?_
          obtain ⟨g7, h⟩ := gd_some h
          refine And.intro (inb_ok g7) ?_
          show Ex mr_X10_relayOf sc (Cl MT pr sc (d + 2)) (rtE (some (.int r)) (mk X) σ2) (164, [(0, .ref 38), (1, .int x1), (2, .int x2), (3, .int x3), (4, .int x4), (5, .int x5), (7, .int x7)], [.int (gI (sI σ 65 x7.toNatClampNeg (-1)) 66 x7.toNatClampNeg), .ref 63], mk X, (sI σ 65 x7.toNatClampNeg (-1)))
          refine Ex.blk 4 rfl ?_
          obtain ⟨g8, h⟩ := gd_some h
          refine And.intro (inb_ok g8) ?_
          show Ex mr_X10_relayOf sc (Cl MT pr sc (d + 2)) (rtE (some (.int r)) (mk X) σ2) (168, [(0, .ref 38), (1, .int x1), (2, .int x2), (3, .int x3), (4, .int x4), (5, .int x5), (7, .int x7)], [.int (gI (sI σ 65 x7.toNatClampNeg (-1)) 63 ((gI (sI σ 65 x7.toNatClampNeg (-1)) 66 x7.toNatClampNeg) + 1).toNatClampNeg), .int ((gI (sI σ 65 x7.toNatClampNeg (-1)) 66 x7.toNatClampNeg) + 1), .ref 63], mk X, (sI σ 65 x7.toNatClampNeg (-1)))
          refine Ex.blk 3 rfl ?_
          obtain ⟨g9, h⟩ := gd_some h
          refine And.intro (inb_ok g9) ?_
          show Ex mr_X10_relayOf sc (Cl MT pr sc (d + 2)) (rtE (some (.int r)) (mk X) σ2) (171, [(0, .ref 38), (1, .int x1), (2, .int x2), (3, .int x3), (4, .int x4), (5, .int x5), (7, .int x7)], [], mk X, (sI (sI σ 65 x7.toNatClampNeg (-1)) 63 ((gI (sI σ 65 x7.toNatClampNeg (-1)) 66 x7.toNatClampNeg) + 1).toNatClampNeg ((gI (sI σ 65 x7.toNatClampNeg (-1)) 63 ((gI (sI σ 65 x7.toNatClampNeg (-1)) 66 x7.toNatClampNeg) + 1).toNatClampNeg) + 1)))
          exact lk_X10_relayOf_171 d _ _ hk103 ih _ _ _ _ _ _ _ h
      · refine And.intro (fun _ => ?_) (fun hn => absurd c3 hn)
        show Ex mr_X10_relayOf sc (Cl MT pr sc (d + 2)) (rtE (some (.int r)) (mk X) σ2) (171, [(0, .ref 38), (1, .int x1), (2, .int x2), (3, .int x3), (4, .int x4), (5, .int x5), (7, .int x7)], [], mk X, σ)
        exact lk_X10_relayOf_171 d _ _ hk103 ih _ _ _ _ _ _ _ h
theorem lk_X10_relayOf_103 {pr : Ct} {sc : Nat × (Nat → Int32)} {X : En} (d : Nat) {r : Int32} {σ2 : St} : ∀ (n : Nat) (x1 : Int32) (x2 : Int32) (x3 : Int32) (x4 : Int32) (x5 : Int32) (x6 : Int32) (σ : St), f_X10_relayOf_103 n x1 x2 x3 x4 x5 x6 σ = some (r, σ2) → Ex mr_X10_relayOf sc (Cl MT pr sc (d + 2)) (rtE (some (.int r)) (mk X) σ2) (103, [(0, .ref 38), (1, .int x1), (2, .int x2), (3, .int x3), (4, .int x4), (5, .int x5), (6, .int x6)], [], mk X, σ) := by
  intro n
  induction n with
  | zero =>
    intro x1 x2 x3 x4 x5 x6 σ h
    cases h
  | succ n ih =>
    intro x1 x2 x3 x4 x5 x6 σ h
    simp only [f_X10_relayOf_103] at h
    refine Ex.blk 1000 rfl ?_
    rcases ite_sp h with ⟨c1, h⟩ | ⟨c1, h⟩
    · refine And.intro (fun hp => absurd c1 hp) (fun _ => ?_)
      show Ex mr_X10_relayOf sc (Cl MT pr sc (d + 2)) (rtE (some (.int r)) (mk X) σ2) (108, [(0, .ref 38), (1, .int x1), (2, .int x2), (3, .int x3), (4, .int x4), (5, .int x5), (6, .int x6)], [], mk X, σ)
      refine Ex.blk 1000 rfl ?_
      show Ex mr_X10_relayOf sc (Cl MT pr sc (d + 2)) (rtE (some (.int r)) (mk X) σ2) (111, [(7, .int 0), (0, .ref 38), (1, .int x1), (2, .int x2), (3, .int x3), (4, .int x4), (5, .int x5), (6, .int x6)], [], mk X, σ)
      refine Ex.pick (lv' := _) [1, 2, 3, 4, 5, 6, 0] rfl ?_
      exact lk_X10_relayOf_111 d _ ih FU _ _ _ _ _ _ _ h
    · refine And.intro (fun _ => ?_) (fun hn => absurd c1 hn)
      show Ex mr_X10_relayOf sc (Cl MT pr sc (d + 2)) (rtE (some (.int r)) (mk X) σ2) (333, [(0, .ref 38), (1, .int x1), (2, .int x2), (3, .int x3), (4, .int x4), (5, .int x5), (6, .int x6)], [], mk X, σ)
      refine Ex.blk 1000 rfl ?_
      cases h
      exact And.intro trivial ⟨rfl, rfl, rfl⟩
theorem lk_X10_relayOf_77 {pr : Ct} {sc : Nat × (Nat → Int32)} {X : En} (d : Nat) {r : Int32} {σ2 : St} : ∀ (n : Nat) (x1 : Int32) (x2 : Int32) (x3 : Int32) (x4 : Int32) (x5 : Int32) (σ : St), f_X10_relayOf_77 n x1 x2 x3 x4 x5 σ = some (r, σ2) → Ex mr_X10_relayOf sc (Cl MT pr sc (d + 2)) (rtE (some (.int r)) (mk X) σ2) (77, [(0, .ref 38), (1, .int x1), (2, .int x2), (3, .int x3), (4, .int x4), (5, .int x5)], [], mk X, σ) := by
  intro n
  induction n with
  | zero =>
    intro x1 x2 x3 x4 x5 σ h
    cases h
  | succ n ih =>
    intro x1 x2 x3 x4 x5 σ h
    simp only [f_X10_relayOf_77] at h
    refine Ex.blk 1000 rfl ?_
    rcases ite_sp h with ⟨c1, h⟩ | ⟨c1, h⟩
    · refine And.intro (fun _ => ?_) (fun hn => absurd c1 hn)
      show Ex mr_X10_relayOf sc (Cl MT pr sc (d + 2)) (rtE (some (.int r)) (mk X) σ2) (97, [(0, .ref 38), (1, .int x1), (2, .int x2), (3, .int x3), (4, .int x4), (5, .int x5)], [], mk X, σ)
      refine Ex.blk 1000 rfl ?_
      show Ex mr_X10_relayOf sc (Cl MT pr sc (d + 2)) (rtE (some (.int r)) (mk X) σ2) (103, [(6, .int 0), (5, .int 0), (0, .ref 38), (1, .int x1), (2, .int x2), (3, .int x3), (4, .int x4)], [], mk X, σ)
      refine Ex.pick (lv' := _) [2, 3, 4, 5, 6, 1, 0] rfl ?_
      exact lk_X10_relayOf_103 d FU _ _ _ _ _ _ _ h
    · refine And.intro (fun hp => absurd hp c1) (fun _ => ?_)
      show Ex mr_X10_relayOf sc (Cl MT pr sc (d + 2)) (rtE (some (.int r)) (mk X) σ2) (83, [(0, .ref 38), (1, .int x1), (2, .int x2), (3, .int x3), (4, .int x4), (5, .int x5)], [], mk X, σ)
      refine Ex.blk 5 rfl ?_
      obtain ⟨g2, h⟩ := gd_some h
      refine And.intro (inb_ok g2) ?_
      show Ex mr_X10_relayOf sc (Cl MT pr sc (d + 2)) (rtE (some (.int r)) (mk X) σ2) (91, [(0, .ref 38), (1, .int x1), (2, .int x2), (3, .int x3), (4, .int x4), (5, .int x5)], [], mk X, (sI σ 65 x5.toNatClampNeg (-1)))
      refine Ex.blk 1000 rfl ?_
      show Ex mr_X10_relayOf sc (Cl MT pr sc (d + 2)) (rtE (some (.int r)) (mk X) σ2) (77, [(5, .int (x5 + 1)), (0, .ref 38), (1, .int x1), (2, .int x2), (3, .int x3), (4, .int x4)], [], mk X, (sI σ 65 x5.toNatClampNeg (-1)))
      refine Ex.pick (lv' := _) [1, 2, 3, 4, 5, 0] rfl ?_
      exact ih _ _ _ _ _ _ h
theorem lk_X10_relayOf_68 {pr : Ct} {sc : Nat × (Nat → Int32)} {X : En} (d : Nat) {r : Int32} {σ2 : St} (k11 : Int32 → Int32 → Int32 → Int32 → Int32 → St → Option (Int32 × St)) (hk11 : ∀ (x1 : Int32) (x2 : Int32) (x3 : Int32) (x4 : Int32) (x5 : Int32) (σ : St), k11 x1 x2 x3 x4 x5 σ = some (r, σ2) → Ex mr_X10_relayOf sc (Cl MT pr sc (d + 2)) (rtE (some (.int r)) (mk X) σ2) (11, [(0, .ref 38), (1, .int x1), (2, .int x2), (3, .int x3), (4, .int x4), (5, .int x5)], [], mk X, σ)) (x1 : Int32) (x2 : Int32) (x3 : Int32) (x4 : Int32) (x5 : Int32) (σ : St) (h : f_X10_relayOf_68 k11 x1 x2 x3 x4 x5 σ = some (r, σ2)) : Ex mr_X10_relayOf sc (Cl MT pr sc (d + 2)) (rtE (some (.int r)) (mk X) σ2) (68, [(0, .ref 38), (1, .int x1), (2, .int x2), (3, .int x3), (4, .int x4), (5, .int x5)], [], mk X, σ) := by
  unfold f_X10_relayOf_68 at h
  refine Ex.blk 1000 rfl ?_
  show Ex mr_X10_relayOf sc (Cl MT pr sc (d + 2)) (rtE (some (.int r)) (mk X) σ2) (11, [(5, .int (x5 + 1)), (0, .ref 38), (1, .int x1), (2, .int x2), (3, .int x3), (4, .int x4)], [], mk X, σ)
  refine Ex.pick (lv' := _) [1, 2, 3, 4, 5, 0] rfl ?_
  exact hk11 _ _ _ _ _ _ h
theorem lk_X10_relayOf_44 {pr : Ct} {sc : Nat × (Nat → Int32)} {X : En} (d : Nat) {r : Int32} {σ2 : St} (k11 : Int32 → Int32 → Int32 → Int32 → Int32 → St → Option (Int32 × St)) (hk11 : ∀ (x1 : Int32) (x2 : Int32) (x3 : Int32) (x4 : Int32) (x5 : Int32) (σ : St), k11 x1 x2 x3 x4 x5 σ = some (r, σ2) → Ex mr_X10_relayOf sc (Cl MT pr sc (d + 2)) (rtE (some (.int r)) (mk X) σ2) (11, [(0, .ref 38), (1, .int x1), (2, .int x2), (3, .int x3), (4, .int x4), (5, .int x5)], [], mk X, σ)) (x1 : Int32) (x2 : Int32) (x3 : Int32) (x4 : Int32) (x5 : Int32) (σ : St) (h : f_X10_relayOf_44 k11 x1 x2 x3 x4 x5 σ = some (r, σ2)) : Ex mr_X10_relayOf sc (Cl MT pr sc (d + 2)) (rtE (some (.int r)) (mk X) σ2) (44, [(0, .ref 38), (1, .int x1), (2, .int x2), (3, .int x3), (4, .int x4), (5, .int x5)], [], mk X, σ) := by
  unfold f_X10_relayOf_44 at h
  refine Ex.blk 5 rfl ?_
  obtain ⟨g1, h⟩ := gd_some h
  refine And.intro (inb_ok g1) ?_
  show Ex mr_X10_relayOf sc (Cl MT pr sc (d + 2)) (rtE (some (.int r)) (mk X) σ2) (52, [(0, .ref 38), (1, .int x1), (2, .int x2), (3, .int x3), (4, .int x4), (5, .int x5)], [], mk X, (sI σ 63 x5.toNatClampNeg 0))
  refine Ex.blk 5 rfl ?_
  show Ex mr_X10_relayOf sc (Cl MT pr sc (d + 2)) (rtE (some (.int r)) (mk X) σ2) (62, [(0, .ref 38), (1, .int x1), (2, .int x2), (3, .int x3), (4, .int x4), (5, .int x5)], [.ref 46, .int x5, .ref 64], mk X, (sI σ 63 x5.toNatClampNeg 0))
  refine Ex.blk 4 rfl ?_
  obtain ⟨g2, h⟩ := gd_some h
  refine And.intro (inb_ok g2) ?_
  show Ex mr_X10_relayOf sc (Cl MT pr sc (d + 2)) (rtE (some (.int r)) (mk X) σ2) (67, [(0, .ref 38), (1, .int x1), (2, .int x2), (3, .int x3), (4, .int x4), (5, .int x5)], [.int (gI (sI σ 63 x5.toNatClampNeg 0) 46 (0 + x5).toNatClampNeg), .int x5, .ref 64], mk X, (sI σ 63 x5.toNatClampNeg 0))
  refine Ex.blk 1 rfl ?_
  obtain ⟨g3, h⟩ := gd_some h
  refine And.intro (inb_ok g3) ?_
  show Ex mr_X10_relayOf sc (Cl MT pr sc (d + 2)) (rtE (some (.int r)) (mk X) σ2) (68, [(0, .ref 38), (1, .int x1), (2, .int x2), (3, .int x3), (4, .int x4), (5, .int x5)], [], mk X, (sI (sI σ 63 x5.toNatClampNeg 0) 64 x5.toNatClampNeg (gI (sI σ 63 x5.toNatClampNeg 0) 46 (0 + x5).toNatClampNeg)))
  exact lk_X10_relayOf_68 d _ hk11 _ _ _ _ _ _ h
theorem lk_X10_relayOf_11 {pr : Ct} {sc : Nat × (Nat → Int32)} {X : En} (d : Nat) {r : Int32} {σ2 : St} : ∀ (n : Nat) (x1 : Int32) (x2 : Int32) (x3 : Int32) (x4 : Int32) (x5 : Int32) (σ : St), f_X10_relayOf_11 n x1 x2 x3 x4 x5 σ = some (r, σ2) → Ex mr_X10_relayOf sc (Cl MT pr sc (d + 2)) (rtE (some (.int r)) (mk X) σ2) (11, [(0, .ref 38), (1, .int x1), (2, .int x2), (3, .int x3), (4, .int x4), (5, .int x5)], [], mk X, σ) := by
  intro n
  induction n with
  | zero =>
    intro x1 x2 x3 x4 x5 σ h
    cases h
  | succ n ih =>
    intro x1 x2 x3 x4 x5 σ h
    simp only [f_X10_relayOf_11] at h
    refine Ex.blk 1000 rfl ?_
    rcases ite_sp h with ⟨c1, h⟩ | ⟨c1, h⟩
    · refine And.intro (fun _ => ?_) (fun hn => absurd c1 hn)
      show Ex mr_X10_relayOf sc (Cl MT pr sc (d + 2)) (rtE (some (.int r)) (mk X) σ2) (74, [(0, .ref 38), (1, .int x1), (2, .int x2), (3, .int x3), (4, .int x4), (5, .int x5)], [], mk X, σ)
      refine Ex.blk 1000 rfl ?_
      show Ex mr_X10_relayOf sc (Cl MT pr sc (d + 2)) (rtE (some (.int r)) (mk X) σ2) (77, [(5, .int 0), (0, .ref 38), (1, .int x1), (2, .int x2), (3, .int x3), (4, .int x4)], [], mk X, σ)
      refine Ex.pick (lv' := _) [1, 2, 3, 4, 5, 0] rfl ?_
      exact lk_X10_relayOf_77 d FU _ _ _ _ _ _ h
    · refine And.intro (fun hp => absurd hp c1) (fun _ => ?_)
      show Ex mr_X10_relayOf sc (Cl MT pr sc (d + 2)) (rtE (some (.int r)) (mk X) σ2) (20, [(0, .ref 38), (1, .int x1), (2, .int x2), (3, .int x3), (4, .int x4), (5, .int x5)], [], mk X, σ)
      refine Ex.blk 5 rfl ?_
      obtain ⟨g2, h⟩ := gd_some h
      refine And.intro (inb_ok g2) ?_
      show Ex mr_X10_relayOf sc (Cl MT pr sc (d + 2)) (rtE (some (.int r)) (mk X) σ2) (28, [(0, .ref 38), (1, .int x1), (2, .int x2), (3, .int x3), (4, .int x4), (5, .int x5)], [], mk X, (sI σ 58 x5.toNatClampNeg (-1)))
      refine Ex.blk 5 rfl ?_
      obtain ⟨g3, h⟩ := gd_some h
      refine And.intro ⟨inb_ok g3, isb_0⟩ ?_
      show Ex mr_X10_relayOf sc (Cl MT pr sc (d + 2)) (rtE (some (.int r)) (mk X) σ2) (36, [(0, .ref 38), (1, .int x1), (2, .int x2), (3, .int x3), (4, .int x4), (5, .int x5)], [], mk X, (sI (sI σ 58 x5.toNatClampNeg (-1)) 61 x5.toNatClampNeg 0))
      refine Ex.blk 5 rfl ?_
      obtain ⟨g4, h⟩ := gd_some h
      refine And.intro (inb_ok g4) ?_
      show Ex mr_X10_relayOf sc (Cl MT pr sc (d + 2)) (rtE (some (.int r)) (mk X) σ2) (44, [(0, .ref 38), (1, .int x1), (2, .int x2), (3, .int x3), (4, .int x4), (5, .int x5)], [], mk X, (sI (sI (sI σ 58 x5.toNatClampNeg (-1)) 61 x5.toNatClampNeg 0) 62 x5.toNatClampNeg 0))
      exact lk_X10_relayOf_44 d _ ih _ _ _ _ _ _ h
theorem cl_X10_relayOf {pr : Ct} {sc : Nat × (Nat → Int32)} {X : En} (d : Nat) {r : Int32} {σ2 : St} {x1 : Int32} {x2 : Int32} {x3 : Int32} {σ : St} (h : f_X10_relayOf x1 x2 x3 σ = some (r, σ2)) : Cl MT pr sc (d + 2 + 1) 241 [.ref 38, .int x1, .int x2, .int x3] (mk X) σ (some (.int r)) (mk X) σ2 := by
  refine cl_of mr_X10_relayOf rfl rfl ?_
  unfold f_X10_relayOf at h
  refine Ex.blk 4 rfl ?_
  obtain ⟨p1, hp1, h⟩ := bind_sp h
  refine Exists.intro (some (.int p1.1)) (Exists.intro (mk X) (Exists.intro p1.2 (And.intro (cl_X10_highest (d + 0) hp1) ?_)))
  show Ex mr_X10_relayOf sc (Cl MT pr sc (d + 2)) (rtE (some (.int r)) (mk X) σ2) (6, [(0, .ref 38), (1, .int x1), (2, .int x2), (3, .int x3)], [.int p1.1], mk X, p1.2)
  refine Ex.blk 1000 rfl ?_
  show Ex mr_X10_relayOf sc (Cl MT pr sc (d + 2)) (rtE (some (.int r)) (mk X) σ2) (11, [(5, .int 0), (4, .int p1.1), (0, .ref 38), (1, .int x1), (2, .int x2), (3, .int x3)], [], mk X, p1.2)
  refine Ex.pick (lv' := _) [2, 3, 4, 5, 1, 0] rfl ?_
  exact lk_X10_relayOf_11 d FU _ _ _ _ _ _ h
