theorem lk_X9_guess_62 {pr : Ct} {sc : Nat × (Nat → Int32)} {X : En} (d : Nat) {r : Int32} {σ2 : St} (k16 : Int32 → Int32 → Int64 → Int32 → St → Option (Int32 × St)) (hk16 : ∀ (x1 : Int32) (x2 : Int32) (x3 : Int64) (x5 : Int32) (σ : St), k16 x1 x2 x3 x5 σ = some (r, σ2) → Ex mr_X9_guess sc (Cl MT pr sc (d + 2)) (rtE (some (.int r)) (mk X) σ2) (16, [(0, .ref 0), (1, .int x1), (2, .int x2), (3, .long x3), (5, .int x5)], [], mk X, σ)) (x1 : Int32) (x2 : Int32) (x3 : Int64) (x5 : Int32) (σ : St) (h : f_X9_guess_62 k16 x1 x2 x3 x5 σ = some (r, σ2)) : Ex mr_X9_guess sc (Cl MT pr sc (d + 2)) (rtE (some (.int r)) (mk X) σ2) (62, [(0, .ref 0), (1, .int x1), (2, .int x2), (3, .long x3), (5, .int x5)], [], mk X, σ) := by
  unfold f_X9_guess_62 at h
  refine Ex.blk 1000 rfl ?_
  show Ex mr_X9_guess sc (Cl MT pr sc (d + 2)) (rtE (some (.int r)) (mk X) σ2) (16, [(5, .int (x5 + 1)), (0, .ref 0), (1, .int x1), (2, .int x2), (3, .long x3)], [], mk X, σ)
  refine Ex.pick (lv' := _) [1, 2, 3, 4, 0] rfl ?_
  exact hk16 _ _ _ _ _ h
theorem lk_X9_guess_16 {pr : Ct} {sc : Nat × (Nat → Int32)} {X : En} (d : Nat) {r : Int32} {σ2 : St} : ∀ (n : Nat) (x1 : Int32) (x2 : Int32) (x3 : Int64) (x5 : Int32) (σ : St), f_X9_guess_16 n x1 x2 x3 x5 σ = some (r, σ2) → Ex mr_X9_guess sc (Cl MT pr sc (d + 2)) (rtE (some (.int r)) (mk X) σ2) (16, [(0, .ref 0), (1, .int x1), (2, .int x2), (3, .long x3), (5, .int x5)], [], mk X, σ) := by
  intro n
  induction n with
  | zero =>
    intro x1 x2 x3 x5 σ h
    cases h
  | succ n ih =>
    intro x1 x2 x3 x5 σ h
    simp only [f_X9_guess_16] at h
    refine Ex.blk 1000 rfl ?_
    rcases ite_sp h with ⟨c1, h⟩ | ⟨c1, h⟩
    · refine And.intro (fun _ => ?_) (fun hn => absurd c1 hn)
      show Ex mr_X9_guess sc (Cl MT pr sc (d + 2)) (rtE (some (.int r)) (mk X) σ2) (68, [(0, .ref 0), (1, .int x1), (2, .int x2), (3, .long x3), (5, .int x5)], [], mk X, σ)
      refine Ex.blk 1000 rfl ?_
      cases h
      exact And.intro trivial ⟨rfl, rfl, rfl⟩
    · refine And.intro (fun hp => absurd hp c1) (fun _ => ?_)
      show Ex mr_X9_guess sc (Cl MT pr sc (d + 2)) (rtE (some (.int r)) (mk X) σ2) (28, [(0, .ref 0), (1, .int x1), (2, .int x2), (3, .long x3), (5, .int x5)], [], mk X, σ)
      refine Ex.blk 5 rfl ?_
      show Ex mr_X9_guess sc (Cl MT pr sc (d + 2)) (rtE (some (.int r)) (mk X) σ2) (39, [(0, .ref 0), (1, .int x1), (2, .int x2), (3, .long x3), (5, .int x5)], [.ref 20, .ref 15], mk X, σ)
      refine Ex.blk 2 rfl ?_
      obtain ⟨g2, h⟩ := gd_some h
      refine And.intro (inb_ok g2) ?_
      show Ex mr_X9_guess sc (Cl MT pr sc (d + 2)) (rtE (some (.int r)) (mk X) σ2) (42, [(0, .ref 0), (1, .int x1), (2, .int x2), (3, .long x3), (5, .int x5)], [.int (gI σ 20 x5.toNatClampNeg), .ref 15], mk X, σ)
      refine Ex.blk 3 rfl ?_
      obtain ⟨p2, hp2, h⟩ := bind_sp h
      refine Exists.intro (some (.long p2.1)) (Exists.intro (mk X) (Exists.intro p2.2 (And.intro (cl_X1_likely (d + 0) hp2) ?_)))
      show Ex mr_X9_guess sc (Cl MT pr sc (d + 2)) (rtE (some (.int r)) (mk X) σ2) (47, [(0, .ref 0), (1, .int x1), (2, .int x2), (3, .long x3), (5, .int x5)], [.long p2.1], mk X, p2.2)
      refine Ex.blk 1000 rfl ?_
      rcases ite_sp h with ⟨c3, h⟩ | ⟨c3, h⟩
      · refine And.intro (fun _ => ?_) (fun hn => absurd c3 hn)
        show Ex mr_X9_guess sc (Cl MT pr sc (d + 2)) (rtE (some (.int r)) (mk X) σ2) (62, [(6, .long p2.1), (0, .ref 0), (1, .int x1), (2, .int x2), (3, .long x3), (5, .int x5)], [], mk X, p2.2)
        refine Ex.pick (lv' := _) [1, 2, 3, 4, 5] rfl ?_
        exact lk_X9_guess_62 d _ ih _ _ _ _ _ h
      · refine And.intro (fun hp => absurd hp c3) (fun _ => ?_)
        show Ex mr_X9_guess sc (Cl MT pr sc (d + 2)) (rtE (some (.int r)) (mk X) σ2) (56, [(6, .long p2.1), (0, .ref 0), (1, .int x1), (2, .int x2), (3, .long x3), (5, .int x5)], [], mk X, p2.2)
        refine Ex.blk 1000 rfl ?_
        show Ex mr_X9_guess sc (Cl MT pr sc (d + 2)) (rtE (some (.int r)) (mk X) σ2) (62, [(2, .int x5), (3, .long p2.1), (6, .long p2.1), (0, .ref 0), (1, .int x1), (5, .int x5)], [], mk X, p2.2)
        refine Ex.pick (lv' := _) [3, 4, 0, 1, 5] rfl ?_
        exact lk_X9_guess_62 d _ ih _ _ _ _ _ h
theorem cl_X9_guess {pr : Ct} {sc : Nat × (Nat → Int32)} {X : En} (d : Nat) {r : Int32} {σ2 : St} {x1 : Int32} {σ : St} (h : f_X9_guess x1 σ = some (r, σ2)) : Cl MT pr sc (d + 2 + 1) 121 [.ref 0, .int x1] (mk X) σ (some (.int r)) (mk X) σ2 := by
  refine cl_of mr_X9_guess rfl rfl ?_
  unfold f_X9_guess at h
  refine Ex.blk 2 rfl ?_
  obtain ⟨p1, hp1, h⟩ := bind_sp h
  refine Exists.intro (some (.int p1.1)) (Exists.intro (mk X) (Exists.intro p1.2 (And.intro (cl_X9_isNumber (d + 1) hp1) ?_)))
  show Ex mr_X9_guess sc (Cl MT pr sc (d + 2)) (rtE (some (.int r)) (mk X) σ2) (4, [(0, .ref 0), (1, .int x1)], [.int p1.1], mk X, p1.2)
  refine Ex.blk 1000 rfl ?_
  rcases ite_sp h with ⟨c1, h⟩ | ⟨c1, h⟩
  · refine And.intro (fun hp => absurd c1 hp) (fun _ => ?_)
    show Ex mr_X9_guess sc (Cl MT pr sc (d + 2)) (rtE (some (.int r)) (mk X) σ2) (7, [(0, .ref 0), (1, .int x1)], [], mk X, p1.2)
    refine Ex.blk 1000 rfl ?_
    cases h
    exact And.intro trivial ⟨rfl, rfl, rfl⟩
  · refine And.intro (fun _ => ?_) (fun hn => absurd c1 hn)
    show Ex mr_X9_guess sc (Cl MT pr sc (d + 2)) (rtE (some (.int r)) (mk X) σ2) (9, [(0, .ref 0), (1, .int x1)], [], mk X, p1.2)
    refine Ex.blk 5 rfl ?_
    show Ex mr_X9_guess sc (Cl MT pr sc (d + 2)) (rtE (some (.int r)) (mk X) σ2) (14, [(3, .long 0), (2, .int (-1)), (0, .ref 0), (1, .int x1)], [.int 0], mk X, p1.2)
    refine Ex.blk 1000 rfl ?_
    show Ex mr_X9_guess sc (Cl MT pr sc (d + 2)) (rtE (some (.int r)) (mk X) σ2) (16, [(5, .int 0), (3, .long 0), (2, .int (-1)), (0, .ref 0), (1, .int x1)], [], mk X, p1.2)
    refine Ex.pick (lv' := _) [3, 4, 2, 1, 0] rfl ?_
    exact lk_X9_guess_16 d FU _ _ _ _ _ h
theorem lk_X9_confused_95 {pr : Ct} {sc : Nat × (Nat → Int32)} {X : En} (d : Nat) {r : Int32} {σ2 : St} (k4 : Int32 → Int32 → St → Option (Int32 × St)) (k19 : Int32 → Int32 → Int32 → St → Option (Int32 × St)) (hk4 : ∀ (x1 : Int32) (x2 : Int32) (σ : St), k4 x1 x2 σ = some (r, σ2) → Ex mr_X9_confused sc (Cl MT pr sc (d + 2)) (rtE (some (.int r)) (mk X) σ2) (4, [(0, .ref 0), (1, .int x1), (2, .int x2)], [], mk X, σ)) (hk19 : ∀ (x1 : Int32) (x2 : Int32) (x3 : Int32) (σ : St), k19 x1 x2 x3 σ = some (r, σ2) → Ex mr_X9_confused sc (Cl MT pr sc (d + 2)) (rtE (some (.int r)) (mk X) σ2) (19, [(0, .ref 0), (1, .int x1), (2, .int x2), (3, .int x3)], [], mk X, σ)) (x1 : Int32) (x2 : Int32) (x3 : Int32) (σ : St) (h : f_X9_confused_95 k4 k19 x1 x2 x3 σ = some (r, σ2)) : Ex mr_X9_confused sc (Cl MT pr sc (d + 2)) (rtE (some (.int r)) (mk X) σ2) (95, [(0, .ref 0), (1, .int x1), (2, .int x2), (3, .int x3)], [], mk X, σ) := by
  unfold f_X9_confused_95 at h
  refine Ex.blk 1000 rfl ?_
  show Ex mr_X9_confused sc (Cl MT pr sc (d + 2)) (rtE (some (.int r)) (mk X) σ2) (19, [(3, .int (x3 + 1)), (0, .ref 0), (1, .int x1), (2, .int x2)], [], mk X, σ)
  refine Ex.pick (lv' := _) [1, 2, 3, 0] rfl ?_
  exact hk19 _ _ _ _ h
theorem lk_X9_confused_92 {pr : Ct} {sc : Nat × (Nat → Int32)} {X : En} (d : Nat) {r : Int32} {σ2 : St} (k4 : Int32 → Int32 → St → Option (Int32 × St)) (k19 : Int32 → Int32 → Int32 → St → Option (Int32 × St)) (hk4 : ∀ (x1 : Int32) (x2 : Int32) (σ : St), k4 x1 x2 σ = some (r, σ2) → Ex mr_X9_confused sc (Cl MT pr sc (d + 2)) (rtE (some (.int r)) (mk X) σ2) (4, [(0, .ref 0), (1, .int x1), (2, .int x2)], [], mk X, σ)) (hk19 : ∀ (x1 : Int32) (x2 : Int32) (x3 : Int32) (σ : St), k19 x1 x2 x3 σ = some (r, σ2) → Ex mr_X9_confused sc (Cl MT pr sc (d + 2)) (rtE (some (.int r)) (mk X) σ2) (19, [(0, .ref 0), (1, .int x1), (2, .int x2), (3, .int x3)], [], mk X, σ)) (x1 : Int32) (x2 : Int32) (x3 : Int32) (σ : St) (h : f_X9_confused_92 k4 k19 x1 x2 x3 σ = some (r, σ2)) : Ex mr_X9_confused sc (Cl MT pr sc (d + 2)) (rtE (some (.int r)) (mk X) σ2) (92, [(0, .ref 0), (1, .int x1), (2, .int x2), (3, .int x3)], [], mk X, σ) := by
  unfold f_X9_confused_92 at h
  refine Ex.blk 1000 rfl ?_
  show Ex mr_X9_confused sc (Cl MT pr sc (d + 2)) (rtE (some (.int r)) (mk X) σ2) (95, [(1, .int (x1 + 1)), (0, .ref 0), (2, .int x2), (3, .int x3)], [], mk X, σ)
  refine Ex.pick (lv' := _) [1, 0, 2, 3] rfl ?_
  exact lk_X9_confused_95 d _ _ hk4 hk19 _ _ _ _ h
theorem lk_X9_confused_19 {pr : Ct} {sc : Nat × (Nat → Int32)} {X : En} (d : Nat) {r : Int32} {σ2 : St} (k4 : Int32 → Int32 → St → Option (Int32 × St)) (hk4 : ∀ (x1 : Int32) (x2 : Int32) (σ : St), k4 x1 x2 σ = some (r, σ2) → Ex mr_X9_confused sc (Cl MT pr sc (d + 2)) (rtE (some (.int r)) (mk X) σ2) (4, [(0, .ref 0), (1, .int x1), (2, .int x2)], [], mk X, σ)) : ∀ (n : Nat) (x1 : Int32) (x2 : Int32) (x3 : Int32) (σ : St), f_X9_confused_19 k4 n x1 x2 x3 σ = some (r, σ2) → Ex mr_X9_confused sc (Cl MT pr sc (d + 2)) (rtE (some (.int r)) (mk X) σ2) (19, [(0, .ref 0), (1, .int x1), (2, .int x2), (3, .int x3)], [], mk X, σ) := by
  intro n
  induction n with
  | zero =>
    intro x1 x2 x3 σ h
    cases h
  | succ n ih =>
    intro x1 x2 x3 σ h
    simp only [f_X9_confused_19] at h
    refine Ex.blk 1000 rfl ?_
    rcases ite_sp h with ⟨c1, h⟩ | ⟨c1, h⟩
    · refine And.intro (fun _ => ?_) (fun hn => absurd c1 hn)
      show Ex mr_X9_confused sc (Cl MT pr sc (d + 2)) (rtE (some (.int r)) (mk X) σ2) (101, [(0, .ref 0), (1, .int x1), (2, .int x2), (3, .int x3)], [], mk X, σ)
      refine Ex.blk 1000 rfl ?_
      show Ex mr_X9_confused sc (Cl MT pr sc (d + 2)) (rtE (some (.int r)) (mk X) σ2) (4, [(2, .int (x2 + 1)), (0, .ref 0), (1, .int x1), (3, .int x3)], [], mk X, σ)
      refine Ex.pick (lv' := _) [1, 2, 0] rfl ?_
      exact hk4 _ _ _ h
    · refine And.intro (fun hp => absurd hp c1) (fun _ => ?_)
      show Ex mr_X9_confused sc (Cl MT pr sc (d + 2)) (rtE (some (.int r)) (mk X) σ2) (30, [(0, .ref 0), (1, .int x1), (2, .int x2), (3, .int x3)], [], mk X, σ)
      refine Ex.blk 5 rfl ?_
      show Ex mr_X9_confused sc (Cl MT pr sc (d + 2)) (rtE (some (.int r)) (mk X) σ2) (41, [(0, .ref 0), (1, .int x1), (2, .int x2), (3, .int x3)], [.ref 20, .ref 15], mk X, σ)
      refine Ex.blk 2 rfl ?_
      obtain ⟨g2, h⟩ := gd_some h
      refine And.intro (inb_ok g2) ?_
      show Ex mr_X9_confused sc (Cl MT pr sc (d + 2)) (rtE (some (.int r)) (mk X) σ2) (43, [(0, .ref 0), (1, .int x1), (2, .int x2), (3, .int x3)], [.int (gI σ 20 x2.toNatClampNeg), .ref 15], mk X, σ)
      refine Ex.blk 5 rfl ?_
      obtain ⟨g3, h⟩ := gd_some h
      refine And.intro (inb_ok g3) ?_
      show Ex mr_X9_confused sc (Cl MT pr sc (d + 2)) (rtE (some (.int r)) (mk X) σ2) (52, [(0, .ref 0), (1, .int x1), (2, .int x2), (3, .int x3)], [.int (gI σ 20 x3.toNatClampNeg), .int (gI σ 20 x2.toNatClampNeg), .ref 15], mk X, σ)
      refine Ex.blk 2 rfl ?_
      obtain ⟨p1, hp1, h⟩ := bind_sp h
      refine Exists.intro (some (.long p1.1)) (Exists.intro (mk X) (Exists.intro p1.2 (And.intro (cl_X1_likely (d + 0) hp1) ?_)))
      show Ex mr_X9_confused sc (Cl MT pr sc (d + 2)) (rtE (some (.int r)) (mk X) σ2) (56, [(0, .ref 0), (1, .int x1), (2, .int x2), (3, .int x3)], [.long p1.1], mk X, p1.2)
      refine Ex.blk 1000 rfl ?_
      rcases ite_sp h with ⟨c4, h⟩ | ⟨c4, h⟩
      · refine And.intro (fun _ => ?_) (fun hn => absurd c4 hn)
        show Ex mr_X9_confused sc (Cl MT pr sc (d + 2)) (rtE (some (.int r)) (mk X) σ2) (92, [(0, .ref 0), (1, .int x1), (2, .int x2), (3, .int x3)], [], mk X, p1.2)
        exact lk_X9_confused_92 d _ _ hk4 ih _ _ _ _ h
      · refine And.intro (fun hp => absurd hp c4) (fun _ => ?_)
        show Ex mr_X9_confused sc (Cl MT pr sc (d + 2)) (rtE (some (.int r)) (mk X) σ2) (61, [(0, .ref 0), (1, .int x1), (2, .int x2), (3, .int x3)], [], mk X, p1.2)
        refine Ex.blk 5 rfl ?_
        show Ex mr_X9_confused sc (Cl MT pr sc (d + 2)) (rtE (some (.int r)) (mk X) σ2) (72, [(0, .ref 0), (1, .int x1), (2, .int x2), (3, .int x3)], [.ref 20, .ref 15], mk X, p1.2)
        refine Ex.blk 2 rfl ?_
        obtain ⟨g5, h⟩ := gd_some h
        refine And.intro (inb_ok g5) ?_
        show Ex mr_X9_confused sc (Cl MT pr sc (d + 2)) (rtE (some (.int r)) (mk X) σ2) (74, [(0, .ref 0), (1, .int x1), (2, .int x2), (3, .int x3)], [.int (gI p1.2 20 x3.toNatClampNeg), .ref 15], mk X, p1.2)
        refine Ex.blk 5 rfl ?_
        obtain ⟨g6, h⟩ := gd_some h
        refine And.intro (inb_ok g6) ?_
        show Ex mr_X9_confused sc (Cl MT pr sc (d + 2)) (rtE (some (.int r)) (mk X) σ2) (83, [(0, .ref 0), (1, .int x1), (2, .int x2), (3, .int x3)], [.int (gI p1.2 20 x2.toNatClampNeg), .int (gI p1.2 20 x3.toNatClampNeg), .ref 15], mk X, p1.2)
        refine Ex.blk 2 rfl ?_
        obtain ⟨p2, hp2, h⟩ := bind_sp h
        refine Exists.intro (some (.long p2.1)) (Exists.intro (mk X) (Exists.intro p2.2 (And.intro (cl_X1_likely (d + 0) hp2) ?_)))
        show Ex mr_X9_confused sc (Cl MT pr sc (d + 2)) (rtE (some (.int r)) (mk X) σ2) (87, [(0, .ref 0), (1, .int x1), (2, .int x2), (3, .int x3)], [.long p2.1], mk X, p2.2)
        refine Ex.blk 1000 rfl ?_
        rcases ite_sp h with ⟨c7, h⟩ | ⟨c7, h⟩
        · refine And.intro (fun _ => ?_) (fun hn => absurd c7 hn)
          show Ex mr_X9_confused sc (Cl MT pr sc (d + 2)) (rtE (some (.int r)) (mk X) σ2) (95, [(0, .ref 0), (1, .int x1), (2, .int x2), (3, .int x3)], [], mk X, p2.2)
          exact lk_X9_confused_95 d _ _ hk4 ih _ _ _ _ h
        · refine And.intro (fun hp => absurd hp c7) (fun _ => ?_)
          show Ex mr_X9_confused sc (Cl MT pr sc (d + 2)) (rtE (some (.int r)) (mk X) σ2) (92, [(0, .ref 0), (1, .int x1), (2, .int x2), (3, .int x3)], [], mk X, p2.2)
          exact lk_X9_confused_92 d _ _ hk4 ih _ _ _ _ h
theorem lk_X9_confused_4 {pr : Ct} {sc : Nat × (Nat → Int32)} {X : En} (d : Nat) {r : Int32} {σ2 : St} : ∀ (n : Nat) (x1 : Int32) (x2 : Int32) (σ : St), f_X9_confused_4 n x1 x2 σ = some (r, σ2) → Ex mr_X9_confused sc (Cl MT pr sc (d + 2)) (rtE (some (.int r)) (mk X) σ2) (4, [(0, .ref 0), (1, .int x1), (2, .int x2)], [], mk X, σ) := by
  intro n
  induction n with
  | zero =>
    intro x1 x2 σ h
    cases h
  | succ n ih =>
    intro x1 x2 σ h
    simp only [f_X9_confused_4] at h
    refine Ex.blk 1000 rfl ?_
    rcases ite_sp h with ⟨c1, h⟩ | ⟨c1, h⟩
    · refine And.intro (fun _ => ?_) (fun hn => absurd c1 hn)
      show Ex mr_X9_confused sc (Cl MT pr sc (d + 2)) (rtE (some (.int r)) (mk X) σ2) (107, [(0, .ref 0), (1, .int x1), (2, .int x2)], [], mk X, σ)
      refine Ex.blk 1000 rfl ?_
      cases h
      exact And.intro trivial ⟨rfl, rfl, rfl⟩
    · refine And.intro (fun hp => absurd hp c1) (fun _ => ?_)
      show Ex mr_X9_confused sc (Cl MT pr sc (d + 2)) (rtE (some (.int r)) (mk X) σ2) (15, [(0, .ref 0), (1, .int x1), (2, .int x2)], [], mk X, σ)
      refine Ex.blk 1000 rfl ?_
      show Ex mr_X9_confused sc (Cl MT pr sc (d + 2)) (rtE (some (.int r)) (mk X) σ2) (19, [(3, .int (x2 + 1)), (0, .ref 0), (1, .int x1), (2, .int x2)], [], mk X, σ)
      refine Ex.pick (lv' := _) [1, 2, 3, 0] rfl ?_
      exact lk_X9_confused_19 d _ ih FU _ _ _ _ h
theorem cl_X9_confused {pr : Ct} {sc : Nat × (Nat → Int32)} {X : En} (d : Nat) {r : Int32} {σ2 : St} {σ : St} (h : f_X9_confused σ = some (r, σ2)) : Cl MT pr sc (d + 2 + 1) 122 [.ref 0] (mk X) σ (some (.int r)) (mk X) σ2 := by
  refine cl_of mr_X9_confused rfl rfl ?_
  unfold f_X9_confused at h
  refine Ex.blk 1000 rfl ?_
  show Ex mr_X9_confused sc (Cl MT pr sc (d + 2)) (rtE (some (.int r)) (mk X) σ2) (4, [(2, .int 0), (1, .int 0), (0, .ref 0)], [], mk X, σ)
  refine Ex.pick (lv' := _) [2, 1, 0] rfl ?_
  exact lk_X9_confused_4 d FU _ _ _ h
theorem lk_X9_millionths_93 {pr : Ct} {sc : Nat × (Nat → Int32)} {X : En} (d : Nat) {r : Int32} {σ2 : St} (k22 : Int64 → Int32 → Int64 → Int32 → St → Option (Int32 × St)) (hk22 : ∀ (x2 : Int64) (x4 : Int32) (x5 : Int64) (x7 : Int32) (σ : St), k22 x2 x4 x5 x7 σ = some (r, σ2) → Ex mr_X9_millionths sc (Cl MT pr sc (d + 0)) (rtE (some (.int r)) (mk X) σ2) (22, [(2, .long x2), (4, .int x4), (5, .long x5), (7, .int x7)], [], mk X, σ)) (x2 : Int64) (x4 : Int32) (x7 : Int32) (x9 : Int64) (σ : St) (h : f_X9_millionths_93 k22 x2 x4 x7 x9 σ = some (r, σ2)) : Ex mr_X9_millionths sc (Cl MT pr sc (d + 0)) (rtE (some (.int r)) (mk X) σ2) (93, [(2, .long x2), (4, .int x4), (7, .int x7), (9, .long x9)], [], mk X, σ) := by
  unfold f_X9_millionths_93 at h
  refine Ex.blk 1000 rfl ?_
  show Ex mr_X9_millionths sc (Cl MT pr sc (d + 0)) (rtE (some (.int r)) (mk X) σ2) (22, [(7, .int (x7 + 1)), (5, .long x9), (2, .long x2), (4, .int x4), (9, .long x9)], [], mk X, σ)
  refine Ex.pick (lv' := _) [2, 3, 1, 0] rfl ?_
  exact hk22 _ _ _ _ _ h
theorem lk_X9_millionths_77 {pr : Ct} {sc : Nat × (Nat → Int32)} {X : En} (d : Nat) {r : Int32} {σ2 : St} (k22 : Int64 → Int32 → Int64 → Int32 → St → Option (Int32 × St)) (k38 : Int64 → Int32 → Int64 → Int32 → Int32 → Int64 → Int32 → St → Option (Int32 × St)) (hk22 : ∀ (x2 : Int64) (x4 : Int32) (x5 : Int64) (x7 : Int32) (σ : St), k22 x2 x4 x5 x7 σ = some (r, σ2) → Ex mr_X9_millionths sc (Cl MT pr sc (d + 0)) (rtE (some (.int r)) (mk X) σ2) (22, [(2, .long x2), (4, .int x4), (5, .long x5), (7, .int x7)], [], mk X, σ)) (hk38 : ∀ (x2 : Int64) (x4 : Int32) (x5 : Int64) (x7 : Int32) (x8 : Int32) (x9 : Int64) (x11 : Int32) (σ : St), k38 x2 x4 x5 x7 x8 x9 x11 σ = some (r, σ2) → Ex mr_X9_millionths sc (Cl MT pr sc (d + 0)) (rtE (some (.int r)) (mk X) σ2) (38, [(2, .long x2), (4, .int x4), (5, .long x5), (7, .int x7), (8, .int x8), (9, .long x9), (11, .int x11)], [], mk X, σ)) (x2 : Int64) (x4 : Int32) (x5 : Int64) (x7 : Int32) (x8 : Int32) (x9 : Int64) (x11 : Int32) (σ : St) (h : f_X9_millionths_77 k22 k38 x2 x4 x5 x7 x8 x9 x11 σ = some (r, σ2)) : Ex mr_X9_millionths sc (Cl MT pr sc (d + 0)) (rtE (some (.int r)) (mk X) σ2) (77, [(2, .long x2), (4, .int x4), (5, .long x5), (7, .int x7), (8, .int x8), (9, .long x9), (11, .int x11)], [], mk X, σ) := by
  unfold f_X9_millionths_77 at h
  refine Ex.blk 1000 rfl ?_
  show Ex mr_X9_millionths sc (Cl MT pr sc (d + 0)) (rtE (some (.int r)) (mk X) σ2) (38, [(11, .int (x11 + 1)), (2, .long x2), (4, .int x4), (5, .long x5), (7, .int x7), (8, .int x8), (9, .long x9)], [], mk X, σ)
  refine Ex.pick (lv' := _) [1, 2, 3, 4, 5, 6, 0] rfl ?_
  exact hk38 _ _ _ _ _ _ _ _ h
theorem lk_X9_millionths_64 {pr : Ct} {sc : Nat × (Nat → Int32)} {X : En} (d : Nat) {r : Int32} {σ2 : St} (k22 : Int64 → Int32 → Int64 → Int32 → St → Option (Int32 × St)) (k38 : Int64 → Int32 → Int64 → Int32 → Int32 → Int64 → Int32 → St → Option (Int32 × St)) (hk22 : ∀ (x2 : Int64) (x4 : Int32) (x5 : Int64) (x7 : Int32) (σ : St), k22 x2 x4 x5 x7 σ = some (r, σ2) → Ex mr_X9_millionths sc (Cl MT pr sc (d + 0)) (rtE (some (.int r)) (mk X) σ2) (22, [(2, .long x2), (4, .int x4), (5, .long x5), (7, .int x7)], [], mk X, σ)) (hk38 : ∀ (x2 : Int64) (x4 : Int32) (x5 : Int64) (x7 : Int32) (x8 : Int32) (x9 : Int64) (x11 : Int32) (σ : St), k38 x2 x4 x5 x7 x8 x9 x11 σ = some (r, σ2) → Ex mr_X9_millionths sc (Cl MT pr sc (d + 0)) (rtE (some (.int r)) (mk X) σ2) (38, [(2, .long x2), (4, .int x4), (5, .long x5), (7, .int x7), (8, .int x8), (9, .long x9), (11, .int x11)], [], mk X, σ)) (x2 : Int64) (x4 : Int32) (x5 : Int64) (x7 : Int32) (x8 : Int32) (x9 : Int64) (x11 : Int32) (σ : St) (h : f_X9_millionths_64 k22 k38 x2 x4 x5 x7 x8 x9 x11 σ = some (r, σ2)) : Ex mr_X9_millionths sc (Cl MT pr sc (d + 0)) (rtE (some (.int r)) (mk X) σ2) (64, [(2, .long x2), (4, .int x4), (5, .long x5), (7, .int x7), (8, .int x8), (9, .long x9), (11, .int x11)], [], mk X, σ) := by
  unfold f_X9_millionths_64 at h
  refine Ex.blk 1000 rfl ?_
  show Ex mr_X9_millionths sc (Cl MT pr sc (d + 0)) (rtE (some (.int r)) (mk X) σ2) (77, [(8, .int (x8 + 1)), (2, .long x2), (4, .int x4), (5, .long x5), (7, .int x7), (9, .long x9), (11, .int x11)], [], mk X, σ)
  refine Ex.pick (lv' := _) [1, 2, 3, 4, 0, 5, 6] rfl ?_
  exact lk_X9_millionths_77 d _ _ hk22 hk38 _ _ _ _ _ _ _ _ h
theorem lk_X9_millionths_38 {pr : Ct} {sc : Nat × (Nat → Int32)} {X : En} (d : Nat) {r : Int32} {σ2 : St} (k22 : Int64 → Int32 → Int64 → Int32 → St → Option (Int32 × St)) (hk22 : ∀ (x2 : Int64) (x4 : Int32) (x5 : Int64) (x7 : Int32) (σ : St), k22 x2 x4 x5 x7 σ = some (r, σ2) → Ex mr_X9_millionths sc (Cl MT pr sc (d + 0)) (rtE (some (.int r)) (mk X) σ2) (22, [(2, .long x2), (4, .int x4), (5, .long x5), (7, .int x7)], [], mk X, σ)) : ∀ (n : Nat) (x2 : Int64) (x4 : Int32) (x5 : Int64) (x7 : Int32) (x8 : Int32) (x9 : Int64) (x11 : Int32) (σ : St), f_X9_millionths_38 k22 n x2 x4 x5 x7 x8 x9 x11 σ = some (r, σ2) → Ex mr_X9_millionths sc (Cl MT pr sc (d + 0)) (rtE (some (.int r)) (mk X) σ2) (38, [(2, .long x2), (4, .int x4), (5, .long x5), (7, .int x7), (8, .int x8), (9, .long x9), (11, .int x11)], [], mk X, σ) := by
  intro n
  induction n with
  | zero =>
    intro x2 x4 x5 x7 x8 x9 x11 σ h
    cases h
  | succ n ih =>
    intro x2 x4 x5 x7 x8 x9 x11 σ h
    simp only [f_X9_millionths_38] at h
    refine Ex.blk 1000 rfl ?_
    rcases ite_sp h with ⟨c1, h⟩ | ⟨c1, h⟩
    · refine And.intro (fun _ => ?_) (fun hn => absurd c1 hn)
      show Ex mr_X9_millionths sc (Cl MT pr sc (d + 0)) (rtE (some (.int r)) (mk X) σ2) (83, [(2, .long x2), (4, .int x4), (5, .long x5), (7, .int x7), (8, .int x8), (9, .long x9), (11, .int x11)], [], mk X, σ)
      refine Ex.blk 5 rfl ?_
      show Ex mr_X9_millionths sc (Cl MT pr sc (d + 0)) (rtE (some (.int r)) (mk X) σ2) (91, [(2, .long x2), (4, .int x4), (5, .long x5), (7, .int x7), (8, .int x8), (9, .long x9), (11, .int x11)], [.int ((10 * x4) + x8)], mk X, σ)
      refine Ex.blk 1 rfl ?_
      show Ex mr_X9_millionths sc (Cl MT pr sc (d + 0)) (rtE (some (.int r)) (mk X) σ2) (93, [(4, .int ((10 * x4) + x8)), (2, .long x2), (5, .long x5), (7, .int x7), (8, .int x8), (9, .long x9), (11, .int x11)], [], mk X, σ)
      refine Ex.pick (lv' := _) [1, 0, 3, 5] rfl ?_
      exact lk_X9_millionths_93 d _ hk22 _ _ _ _ _ h
    · refine And.intro (fun hp => absurd hp c1) (fun _ => ?_)
      show Ex mr_X9_millionths sc (Cl MT pr sc (d + 0)) (rtE (some (.int r)) (mk X) σ2) (45, [(2, .long x2), (4, .int x4), (5, .long x5), (7, .int x7), (8, .int x8), (9, .long x9), (11, .int x11)], [], mk X, σ)
      refine Ex.blk 5 rfl ?_
      show Ex mr_X9_millionths sc (Cl MT pr sc (d + 0)) (rtE (some (.int r)) (mk X) σ2) (52, [(2, .long x2), (4, .int x4), (5, .long x5), (7, .int x7), (8, .int x8), (9, .long x9), (11, .int x11)], [.int (lg_cmp x9 (x2 - x5))], mk X, σ)
      refine Ex.blk 1000 rfl ?_
      rcases ite_sp h with ⟨c2, h⟩ | ⟨c2, h⟩
      · refine And.intro (fun _ => ?_) (fun hn => absurd c2 hn)
        show Ex mr_X9_millionths sc (Cl MT pr sc (d + 0)) (rtE (some (.int r)) (mk X) σ2) (70, [(2, .long x2), (4, .int x4), (5, .long x5), (7, .int x7), (8, .int x8), (9, .long x9), (11, .int x11)], [], mk X, σ)
        refine Ex.blk 1000 rfl ?_
        show Ex mr_X9_millionths sc (Cl MT pr sc (d + 0)) (rtE (some (.int r)) (mk X) σ2) (77, [(9, .long (x9 + x5)), (2, .long x2), (4, .int x4), (5, .long x5), (7, .int x7), (8, .int x8), (11, .int x11)], [], mk X, σ)
        refine Ex.pick (lv' := _) [1, 2, 3, 4, 5, 0, 6] rfl ?_
        exact lk_X9_millionths_77 d _ _ hk22 ih _ _ _ _ _ _ _ _ h
      · refine And.intro (fun hp => absurd hp c2) (fun _ => ?_)
        show Ex mr_X9_millionths sc (Cl MT pr sc (d + 0)) (rtE (some (.int r)) (mk X) σ2) (55, [(2, .long x2), (4, .int x4), (5, .long x5), (7, .int x7), (8, .int x8), (9, .long x9), (11, .int x11)], [], mk X, σ)
        refine Ex.blk 5 rfl ?_
        show Ex mr_X9_millionths sc (Cl MT pr sc (d + 0)) (rtE (some (.int r)) (mk X) σ2) (62, [(2, .long x2), (4, .int x4), (5, .long x5), (7, .int x7), (8, .int x8), (9, .long x9), (11, .int x11)], [.long (x9 - (x2 - x5))], mk X, σ)
        refine Ex.blk 1 rfl ?_
        show Ex mr_X9_millionths sc (Cl MT pr sc (d + 0)) (rtE (some (.int r)) (mk X) σ2) (64, [(9, .long (x9 - (x2 - x5))), (2, .long x2), (4, .int x4), (5, .long x5), (7, .int x7), (8, .int x8), (11, .int x11)], [], mk X, σ)
        refine Ex.pick (lv' := _) [1, 2, 3, 4, 5, 0, 6] rfl ?_
        exact lk_X9_millionths_64 d _ _ hk22 ih _ _ _ _ _ _ _ _ h
theorem lk_X9_millionths_22 {pr : Ct} {sc : Nat × (Nat → Int32)} {X : En} (d : Nat) {r : Int32} {σ2 : St} : ∀ (n : Nat) (x2 : Int64) (x4 : Int32) (x5 : Int64) (x7 : Int32) (σ : St), f_X9_millionths_22 n x2 x4 x5 x7 σ = some (r, σ2) → Ex mr_X9_millionths sc (Cl MT pr sc (d + 0)) (rtE (some (.int r)) (mk X) σ2) (22, [(2, .long x2), (4, .int x4), (5, .long x5), (7, .int x7)], [], mk X, σ) := by
  intro n
  induction n with
  | zero =>
    intro x2 x4 x5 x7 σ h
    cases h
  | succ n ih =>
    intro x2 x4 x5 x7 σ h
    simp only [f_X9_millionths_22] at h
    refine Ex.blk 1000 rfl ?_
    rcases ite_sp h with ⟨c1, h⟩ | ⟨c1, h⟩
    · refine And.intro (fun _ => ?_) (fun hn => absurd c1 hn)
      show Ex mr_X9_millionths sc (Cl MT pr sc (d + 0)) (rtE (some (.int r)) (mk X) σ2) (103, [(2, .long x2), (4, .int x4), (5, .long x5), (7, .int x7)], [], mk X, σ)
      refine Ex.blk 1000 rfl ?_
      cases h
      exact And.intro trivial ⟨rfl, rfl, rfl⟩
    · refine And.intro (fun hp => absurd hp c1) (fun _ => ?_)
      show Ex mr_X9_millionths sc (Cl MT pr sc (d + 0)) (rtE (some (.int r)) (mk X) σ2) (29, [(2, .long x2), (4, .int x4), (5, .long x5), (7, .int x7)], [], mk X, σ)
      refine Ex.blk 5 rfl ?_
      show Ex mr_X9_millionths sc (Cl MT pr sc (d + 0)) (rtE (some (.int r)) (mk X) σ2) (36, [(9, .long 0), (8, .int 0), (2, .long x2), (4, .int x4), (5, .long x5), (7, .int x7)], [.int 0], mk X, σ)
      refine Ex.blk 1000 rfl ?_
      show Ex mr_X9_millionths sc (Cl MT pr sc (d + 0)) (rtE (some (.int r)) (mk X) σ2) (38, [(11, .int 0), (9, .long 0), (8, .int 0), (2, .long x2), (4, .int x4), (5, .long x5), (7, .int x7)], [], mk X, σ)
      refine Ex.pick (lv' := _) [3, 4, 5, 6, 2, 1, 0] rfl ?_
      exact lk_X9_millionths_38 d _ ih FU _ _ _ _ _ _ _ _ h
theorem lk_X9_millionths_19 {pr : Ct} {sc : Nat × (Nat → Int32)} {X : En} (d : Nat) {r : Int32} {σ2 : St} (x2 : Int64) (x4 : Int32) (x5 : Int64) (σ : St) (h : f_X9_millionths_19 x2 x4 x5 σ = some (r, σ2)) : Ex mr_X9_millionths sc (Cl MT pr sc (d + 0)) (rtE (some (.int r)) (mk X) σ2) (19, [(2, .long x2), (4, .int x4), (5, .long x5)], [], mk X, σ) := by
  unfold f_X9_millionths_19 at h
  refine Ex.blk 1000 rfl ?_
  show Ex mr_X9_millionths sc (Cl MT pr sc (d + 0)) (rtE (some (.int r)) (mk X) σ2) (22, [(7, .int 0), (2, .long x2), (4, .int x4), (5, .long x5)], [], mk X, σ)
  refine Ex.pick (lv' := _) [1, 2, 3, 0] rfl ?_
  exact lk_X9_millionths_22 d FU _ _ _ _ _ h
theorem lk_X9_millionths_14 {pr : Ct} {sc : Nat × (Nat → Int32)} {X : En} (d : Nat) {r : Int32} {σ2 : St} (x0 : Int64) (x2 : Int64) (x4 : Int32) (σ : St) (h : f_X9_millionths_14 x0 x2 x4 σ = some (r, σ2)) : Ex mr_X9_millionths sc (Cl MT pr sc (d + 0)) (rtE (some (.int r)) (mk X) σ2) (14, [(0, .long x0), (2, .long x2), (4, .int x4)], [], mk X, σ) := by
  unfold f_X9_millionths_14 at h
  refine Ex.blk 3 rfl ?_
  obtain ⟨g1, h⟩ := gd_some h
  refine And.intro (nzJ_ok g1) ?_
  show Ex mr_X9_millionths sc (Cl MT pr sc (d + 0)) (rtE (some (.int r)) (mk X) σ2) (17, [(0, .long x0), (2, .long x2), (4, .int x4)], [.long (rmJ x0 x2)], mk X, σ)
  refine Ex.blk 1 rfl ?_
  show Ex mr_X9_millionths sc (Cl MT pr sc (d + 0)) (rtE (some (.int r)) (mk X) σ2) (19, [(5, .long (rmJ x0 x2)), (0, .long x0), (2, .long x2), (4, .int x4)], [], mk X, σ)
  refine Ex.pick (lv' := _) [2, 3, 0] rfl ?_
  exact lk_X9_millionths_19 d _ _ _ _ h
theorem cl_X9_millionths {pr : Ct} {sc : Nat × (Nat → Int32)} {X : En} (d : Nat) {r : Int32} {σ2 : St} {x0 : Int64} {x2 : Int64} {σ : St} (h : f_X9_millionths x0 x2 σ = some (r, σ2)) : Cl MT pr sc (d + 0 + 1) 123 [.long x0, .long x2] (mk X) σ (some (.int r)) (mk X) σ2 := by
  refine cl_of mr_X9_millionths rfl rfl ?_
  unfold f_X9_millionths at h
  refine Ex.blk 1000 rfl ?_
  rcases ite_sp h with ⟨c1, h⟩ | ⟨c1, h⟩
  · refine And.intro (fun _ => ?_) (fun hn => absurd c1 hn)
    show Ex mr_X9_millionths sc (Cl MT pr sc (d + 0)) (rtE (some (.int r)) (mk X) σ2) (8, [(0, .long x0), (2, .long x2)], [], mk X, σ)
    refine Ex.blk 3 rfl ?_
    obtain ⟨g2, h⟩ := gd_some h
    refine And.intro (nzJ_ok g2) ?_
    show Ex mr_X9_millionths sc (Cl MT pr sc (d + 0)) (rtE (some (.int r)) (mk X) σ2) (11, [(0, .long x0), (2, .long x2)], [.long (x0 / x2)], mk X, σ)
    refine Ex.blk 2 rfl ?_
    show Ex mr_X9_millionths sc (Cl MT pr sc (d + 0)) (rtE (some (.int r)) (mk X) σ2) (14, [(4, .int (x0 / x2).toInt32), (0, .long x0), (2, .long x2)], [], mk X, σ)
    refine Ex.pick (lv' := _) [1, 2, 0] rfl ?_
    exact lk_X9_millionths_14 d _ _ _ _ h
  · refine And.intro (fun hp => absurd hp c1) (fun _ => ?_)
    show Ex mr_X9_millionths sc (Cl MT pr sc (d + 0)) (rtE (some (.int r)) (mk X) σ2) (6, [(0, .long x0), (2, .long x2)], [], mk X, σ)
    refine Ex.blk 1000 rfl ?_
    cases h
    exact And.intro trivial ⟨rfl, rfl, rfl⟩
theorem lk_X9_odds_15 {pr : Ct} {sc : Nat × (Nat → Int32)} {X : En} (d : Nat) {r : Int32} {σ2 : St} (σ : St) (h : f_X9_odds_15 σ = some (r, σ2)) : Ex mr_X9_odds sc (Cl MT pr sc (d + 3)) (rtE (some (.int r)) (mk X) σ2) (15, [], [], mk X, σ) := by
  unfold f_X9_odds_15 at h
  refine Ex.blk 1000 rfl ?_
  cases h
  exact And.intro trivial ⟨rfl, rfl, rfl⟩
theorem lk_X9_odds_79 {pr : Ct} {sc : Nat × (Nat → Int32)} {X : En} (d : Nat) {r : Int32} {σ2 : St} (k44 : Int32 → Int64 → Int64 → Int32 → St → Option (Int32 × St)) (hk44 : ∀ (x1 : Int32) (x2 : Int64) (x4 : Int64) (x6 : Int32) (σ : St), k44 x1 x2 x4 x6 σ = some (r, σ2) → Ex mr_X9_odds sc (Cl MT pr sc (d + 3)) (rtE (some (.int r)) (mk X) σ2) (44, [(0, .ref 0), (1, .int x1), (2, .long x2), (4, .long x4), (6, .int x6)], [], mk X, σ)) (x1 : Int32) (x2 : Int64) (x4 : Int64) (x6 : Int32) (σ : St) (h : f_X9_odds_79 k44 x1 x2 x4 x6 σ = some (r, σ2)) : Ex mr_X9_odds sc (Cl MT pr sc (d + 3)) (rtE (some (.int r)) (mk X) σ2) (79, [(0, .ref 0), (1, .int x1), (2, .long x2), (4, .long x4), (6, .int x6)], [], mk X, σ) := by
  unfold f_X9_odds_79 at h
  refine Ex.blk 1000 rfl ?_
  show Ex mr_X9_odds sc (Cl MT pr sc (d + 3)) (rtE (some (.int r)) (mk X) σ2) (44, [(6, .int (x6 + 1)), (0, .ref 0), (1, .int x1), (2, .long x2), (4, .long x4)], [], mk X, σ)
  refine Ex.pick (lv' := _) [1, 2, 3, 4, 0] rfl ?_
  exact hk44 _ _ _ _ _ h
theorem lk_X9_odds_44 {pr : Ct} {sc : Nat × (Nat → Int32)} {X : En} (d : Nat) {r : Int32} {σ2 : St} : ∀ (n : Nat) (x1 : Int32) (x2 : Int64) (x4 : Int64) (x6 : Int32) (σ : St), f_X9_odds_44 n x1 x2 x4 x6 σ = some (r, σ2) → Ex mr_X9_odds sc (Cl MT pr sc (d + 3)) (rtE (some (.int r)) (mk X) σ2) (44, [(0, .ref 0), (1, .int x1), (2, .long x2), (4, .long x4), (6, .int x6)], [], mk X, σ) := by
  intro n
  induction n with
  | zero =>
    intro x1 x2 x4 x6 σ h
    cases h
  | succ n ih =>
    intro x1 x2 x4 x6 σ h
    simp only [f_X9_odds_44] at h
    refine Ex.blk 1000 rfl ?_
    rcases ite_sp h with ⟨c1, h⟩ | ⟨c1, h⟩
    · refine And.intro (fun _ => ?_) (fun hn => absurd c1 hn)
      show Ex mr_X9_odds sc (Cl MT pr sc (d + 3)) (rtE (some (.int r)) (mk X) σ2) (85, [(0, .ref 0), (1, .int x1), (2, .long x2), (4, .long x4), (6, .int x6)], [], mk X, σ)
      refine Ex.blk 5 rfl ?_
      show Ex mr_X9_odds sc (Cl MT pr sc (d + 3)) (rtE (some (.int r)) (mk X) σ2) (96, [(0, .ref 0), (1, .int x1), (2, .long x2), (4, .long x4), (6, .int x6)], [.ref 20, .ref 15], mk X, σ)
      refine Ex.blk 2 rfl ?_
      obtain ⟨g2, h⟩ := gd_some h
      refine And.intro (inb_ok g2) ?_
      show Ex mr_X9_odds sc (Cl MT pr sc (d + 3)) (rtE (some (.int r)) (mk X) σ2) (98, [(0, .ref 0), (1, .int x1), (2, .long x2), (4, .long x4), (6, .int x6)], [.int (gI σ 20 x1.toNatClampNeg), .ref 15], mk X, σ)
      refine Ex.blk 2 rfl ?_
      obtain ⟨p2, hp2, h⟩ := bind_sp h
      refine Exists.intro (some (.long p2.1)) (Exists.intro (mk X) (Exists.intro p2.2 (And.intro (cl_X1_likely (d + 1) hp2) ?_)))
      show Ex mr_X9_odds sc (Cl MT pr sc (d + 3)) (rtE (some (.int r)) (mk X) σ2) (102, [(0, .ref 0), (1, .int x1), (2, .long x2), (4, .long x4), (6, .int x6)], [.long p2.1], mk X, p2.2)
      refine Ex.blk 2 rfl ?_
      obtain ⟨p3, hp3, h⟩ := bind_sp h
      refine Exists.intro (some (.int p3.1)) (Exists.intro (mk X) (Exists.intro p3.2 (And.intro (cl_X9_millionths (d + 2) hp3) ?_)))
      show Ex mr_X9_odds sc (Cl MT pr sc (d + 3)) (rtE (some (.int r)) (mk X) σ2) (107, [(0, .ref 0), (1, .int x1), (2, .long x2), (4, .long x4), (6, .int x6)], [.int p3.1], mk X, p3.2)
      refine Ex.blk 1000 rfl ?_
      cases h
      exact And.intro trivial ⟨rfl, rfl, rfl⟩
    · refine And.intro (fun hp => absurd hp c1) (fun _ => ?_)
      show Ex mr_X9_odds sc (Cl MT pr sc (d + 3)) (rtE (some (.int r)) (mk X) σ2) (56, [(0, .ref 0), (1, .int x1), (2, .long x2), (4, .long x4), (6, .int x6)], [], mk X, σ)
      refine Ex.blk 5 rfl ?_
      show Ex mr_X9_odds sc (Cl MT pr sc (d + 3)) (rtE (some (.int r)) (mk X) σ2) (66, [(0, .ref 0), (1, .int x1), (2, .long x2), (4, .long x4), (6, .int x6)], [.ref 19, .ref 15, .long x4], mk X, σ)
      refine Ex.blk 3 rfl ?_
      obtain ⟨g3, h⟩ := gd_some h
      refine And.intro (inb_ok g3) ?_
      show Ex mr_X9_odds sc (Cl MT pr sc (d + 3)) (rtE (some (.int r)) (mk X) σ2) (72, [(0, .ref 0), (1, .int x1), (2, .long x2), (4, .long x4), (6, .int x6)], [.int (gI σ 20 x6.toNatClampNeg), .ref 15, .long x4], mk X, σ)
      refine Ex.blk 2 rfl ?_
      obtain ⟨p4, hp4, h⟩ := bind_sp h
      refine Exists.intro (some (.long p4.1)) (Exists.intro (mk X) (Exists.intro p4.2 (And.intro (cl_X1_likely (d + 1) hp4) ?_)))
      show Ex mr_X9_odds sc (Cl MT pr sc (d + 3)) (rtE (some (.int r)) (mk X) σ2) (76, [(0, .ref 0), (1, .int x1), (2, .long x2), (4, .long x4), (6, .int x6)], [.long p4.1, .long x4], mk X, p4.2)
      refine Ex.blk 2 rfl ?_
      show Ex mr_X9_odds sc (Cl MT pr sc (d + 3)) (rtE (some (.int r)) (mk X) σ2) (79, [(4, .long (x4 + p4.1)), (0, .ref 0), (1, .int x1), (2, .long x2), (6, .int x6)], [], mk X, p4.2)
      refine Ex.pick (lv' := _) [1, 2, 3, 0, 4] rfl ?_
      exact lk_X9_odds_79 d _ ih _ _ _ _ _ h
theorem cl_X9_odds {pr : Ct} {sc : Nat × (Nat → Int32)} {X : En} (d : Nat) {r : Int32} {σ2 : St} {x1 : Int32} {σ : St} (h : f_X9_odds x1 σ = some (r, σ2)) : Cl MT pr sc (d + 3 + 1) 124 [.ref 0, .int x1] (mk X) σ (some (.int r)) (mk X) σ2 := by
  refine cl_of mr_X9_odds rfl rfl ?_
  unfold f_X9_odds at h
  refine Ex.blk 1000 rfl ?_
  rcases ite_sp h with ⟨c1, h⟩ | ⟨c1, h⟩
  · refine And.intro (fun _ => ?_) (fun hn => absurd c1 hn)
    show Ex mr_X9_odds sc (Cl MT pr sc (d + 3)) (rtE (some (.int r)) (mk X) σ2) (15, [(0, .ref 0), (1, .int x1)], [], mk X, σ)
    refine Ex.pick (lv' := _) [] rfl ?_
    exact lk_X9_odds_15 d _ h
  · refine And.intro (fun hp => absurd hp c1) (fun _ => ?_)
    show Ex mr_X9_odds sc (Cl MT pr sc (d + 3)) (rtE (some (.int r)) (mk X) σ2) (4, [(0, .ref 0), (1, .int x1)], [], mk X, σ)
    refine Ex.blk 1000 rfl ?_
    rcases ite_sp h with ⟨c2, h⟩ | ⟨c2, h⟩
    · refine And.intro (fun _ => ?_) (fun hn => absurd c2 hn)
      show Ex mr_X9_odds sc (Cl MT pr sc (d + 3)) (rtE (some (.int r)) (mk X) σ2) (17, [(0, .ref 0), (1, .int x1)], [], mk X, σ)
      refine Ex.blk 1000 rfl ?_
      rcases ite_sp h with ⟨c3, h⟩ | ⟨c3, h⟩
      · refine And.intro (fun _ => ?_) (fun hn => absurd c3 hn)
        show Ex mr_X9_odds sc (Cl MT pr sc (d + 3)) (rtE (some (.int r)) (mk X) σ2) (30, [(0, .ref 0), (1, .int x1)], [], mk X, σ)
        refine Ex.blk 3 rfl ?_
        obtain ⟨p1, hp1, h⟩ := bind_sp h
        refine Exists.intro (some (.long p1.1)) (Exists.intro (mk X) (Exists.intro p1.2 (And.intro (cl_X7_valueSeen_1 (d + 0) hp1) ?_)))
        show Ex mr_X9_odds sc (Cl MT pr sc (d + 3)) (rtE (some (.int r)) (mk X) σ2) (37, [(0, .ref 0), (1, .int x1)], [.long p1.1], mk X, p1.2)
        refine Ex.blk 1000 rfl ?_
        show Ex mr_X9_odds sc (Cl MT pr sc (d + 3)) (rtE (some (.int r)) (mk X) σ2) (44, [(6, .int 0), (4, .long 0), (2, .long p1.1), (0, .ref 0), (1, .int x1)], [], mk X, p1.2)
        refine Ex.pick (lv' := _) [3, 4, 2, 1, 0] rfl ?_
        exact lk_X9_odds_44 d FU _ _ _ _ _ h
      · refine And.intro (fun hp => absurd hp c3) (fun _ => ?_)
        show Ex mr_X9_odds sc (Cl MT pr sc (d + 3)) (rtE (some (.int r)) (mk X) σ2) (27, [(0, .ref 0), (1, .int x1)], [], mk X, σ)
        refine Ex.blk 1000 rfl ?_
        cases h
        exact And.intro trivial ⟨rfl, rfl, rfl⟩
    · refine And.intro (fun hp => absurd hp c2) (fun _ => ?_)
      show Ex mr_X9_odds sc (Cl MT pr sc (d + 3)) (rtE (some (.int r)) (mk X) σ2) (15, [(0, .ref 0), (1, .int x1)], [], mk X, σ)
      refine Ex.pick (lv' := _) [] rfl ?_
      exact lk_X9_odds_15 d _ h
theorem lk_X9_isFactor_16 {pr : Ct} {sc : Nat × (Nat → Int32)} {X : En} (d : Nat) {r : Int32} {σ2 : St} (y0 : Int32) (σ : St) (h : f_X9_isFactor_16 y0 σ = some (r, σ2)) : Ex mr_X9_isFactor sc (Cl MT pr sc (d + 0)) (rtE (some (.int r)) (mk X) σ2) (16, [], [.int y0], mk X, σ) := by
  unfold f_X9_isFactor_16 at h
  refine Ex.blk 1000 rfl ?_
  obtain ⟨g1, h⟩ := gd_some h
  cases h
  exact And.intro (isbb_ok g1) ⟨rfl, rfl, rfl⟩
theorem lk_X9_isFactor_15 {pr : Ct} {sc : Nat × (Nat → Int32)} {X : En} (d : Nat) {r : Int32} {σ2 : St} (σ : St) (h : f_X9_isFactor_15 σ = some (r, σ2)) : Ex mr_X9_isFactor sc (Cl MT pr sc (d + 0)) (rtE (some (.int r)) (mk X) σ2) (15, [], [], mk X, σ) := by
  unfold f_X9_isFactor_15 at h
  refine Ex.blk 1000 rfl ?_
  show Ex mr_X9_isFactor sc (Cl MT pr sc (d + 0)) (rtE (some (.int r)) (mk X) σ2) (16, [], [.int 0], mk X, σ)
  exact lk_X9_isFactor_16 d _ _ h
theorem cl_X9_isFactor {pr : Ct} {sc : Nat × (Nat → Int32)} {X : En} (d : Nat) {r : Int32} {σ2 : St} {x0 : Int32} {σ : St} (h : f_X9_isFactor x0 σ = some (r, σ2)) : Cl MT pr sc (d + 0 + 1) 125 [.int x0] (mk X) σ (some (.int r)) (mk X) σ2 := by
  refine cl_of mr_X9_isFactor rfl rfl ?_
  unfold f_X9_isFactor at h
  refine Ex.blk 1000 rfl ?_
  rcases ite_sp h with ⟨c1, h⟩ | ⟨c1, h⟩
  · refine And.intro (fun _ => ?_) (fun hn => absurd c1 hn)
    show Ex mr_X9_isFactor sc (Cl MT pr sc (d + 0)) (rtE (some (.int r)) (mk X) σ2) (15, [(0, .int x0)], [], mk X, σ)
    refine Ex.pick (lv' := _) [] rfl ?_
    exact lk_X9_isFactor_15 d _ h
  · refine And.intro (fun hp => absurd hp c1) (fun _ => ?_)
    show Ex mr_X9_isFactor sc (Cl MT pr sc (d + 0)) (rtE (some (.int r)) (mk X) σ2) (4, [(0, .int x0)], [], mk X, σ)
    refine Ex.blk 1000 rfl ?_
    rcases ite_sp h with ⟨c2, h⟩ | ⟨c2, h⟩
    · refine And.intro (fun _ => ?_) (fun hn => absurd c2 hn)
      show Ex mr_X9_isFactor sc (Cl MT pr sc (d + 0)) (rtE (some (.int r)) (mk X) σ2) (15, [(0, .int x0)], [], mk X, σ)
      refine Ex.pick (lv' := _) [] rfl ?_
      exact lk_X9_isFactor_15 d _ h
    · refine And.intro (fun hp => absurd hp c2) (fun _ => ?_)
      show Ex mr_X9_isFactor sc (Cl MT pr sc (d + 0)) (rtE (some (.int r)) (mk X) σ2) (11, [(0, .int x0)], [], mk X, σ)
      refine Ex.blk 1000 rfl ?_
      show Ex mr_X9_isFactor sc (Cl MT pr sc (d + 0)) (rtE (some (.int r)) (mk X) σ2) (16, [(0, .int x0)], [.int 1], mk X, σ)
      refine Ex.pick (lv' := _) [] rfl ?_
      exact lk_X9_isFactor_16 d _ _ h
theorem lk_J6_numberOfLeadingZeros_0f7a4_73 {pr : Ct} {sc : Nat × (Nat → Int32)} {X : En} (d : Nat) {r : Int32} {σ2 : St} (x0 : Int32) (x1 : Int32) (σ : St) (h : f_J6_numberOfLeadingZeros_0f7a4_73 x0 x1 σ = some (r, σ2)) : Ex mr_J6_numberOfLeadingZeros_0f7a4 sc (Cl MT pr sc (d + 0)) (rtE (some (.int r)) (mk X) σ2) (73, [(0, .int x0), (1, .int x1)], [], mk X, σ) := by
  unfold f_J6_numberOfLeadingZeros_0f7a4_73 at h
  refine Ex.blk 5 rfl ?_
  show Ex mr_J6_numberOfLeadingZeros_0f7a4 sc (Cl MT pr sc (d + 0)) (rtE (some (.int r)) (mk X) σ2) (78, [(0, .int x0), (1, .int x1)], [.int (x1 - (ushI x0 1))], mk X, σ)
  refine Ex.blk 1000 rfl ?_
  cases h
  exact And.intro trivial ⟨rfl, rfl, rfl⟩
theorem lk_J6_numberOfLeadingZeros_0f7a4_61 {pr : Ct} {sc : Nat × (Nat → Int32)} {X : En} (d : Nat) {r : Int32} {σ2 : St} (x0 : Int32) (x1 : Int32) (σ : St) (h : f_J6_numberOfLeadingZeros_0f7a4_61 x0 x1 σ = some (r, σ2)) : Ex mr_J6_numberOfLeadingZeros_0f7a4 sc (Cl MT pr sc (d + 0)) (rtE (some (.int r)) (mk X) σ2) (61, [(0, .int x0), (1, .int x1)], [], mk X, σ) := by
  unfold f_J6_numberOfLeadingZeros_0f7a4_61 at h
  refine Ex.blk 1000 rfl ?_
  rcases ite_sp h with ⟨c1, h⟩ | ⟨c1, h⟩
  · refine And.intro (fun _ => ?_) (fun hn => absurd c1 hn)
    show Ex mr_J6_numberOfLeadingZeros_0f7a4 sc (Cl MT pr sc (d + 0)) (rtE (some (.int r)) (mk X) σ2) (73, [(0, .int x0), (1, .int x1)], [], mk X, σ)
    exact lk_J6_numberOfLeadingZeros_0f7a4_73 d _ _ _ h
  · refine And.intro (fun hp => absurd hp c1) (fun _ => ?_)
    show Ex mr_J6_numberOfLeadingZeros_0f7a4 sc (Cl MT pr sc (d + 0)) (rtE (some (.int r)) (mk X) σ2) (66, [(0, .int x0), (1, .int x1)], [], mk X, σ)
    refine Ex.blk 1000 rfl ?_
    show Ex mr_J6_numberOfLeadingZeros_0f7a4 sc (Cl MT pr sc (d + 0)) (rtE (some (.int r)) (mk X) σ2) (73, [(0, .int (ushI x0 2)), (1, .int (x1 + (-2)))], [], mk X, σ)
    exact lk_J6_numberOfLeadingZeros_0f7a4_73 d _ _ _ h
theorem lk_J6_numberOfLeadingZeros_0f7a4_48 {pr : Ct} {sc : Nat × (Nat → Int32)} {X : En} (d : Nat) {r : Int32} {σ2 : St} (x0 : Int32) (x1 : Int32) (σ : St) (h : f_J6_numberOfLeadingZeros_0f7a4_48 x0 x1 σ = some (r, σ2)) : Ex mr_J6_numberOfLeadingZeros_0f7a4 sc (Cl MT pr sc (d + 0)) (rtE (some (.int r)) (mk X) σ2) (48, [(0, .int x0), (1, .int x1)], [], mk X, σ) := by
  unfold f_J6_numberOfLeadingZeros_0f7a4_48 at h
  refine Ex.blk 1000 rfl ?_
  rcases ite_sp h with ⟨c1, h⟩ | ⟨c1, h⟩
  · refine And.intro (fun _ => ?_) (fun hn => absurd c1 hn)
    show Ex mr_J6_numberOfLeadingZeros_0f7a4 sc (Cl MT pr sc (d + 0)) (rtE (some (.int r)) (mk X) σ2) (61, [(0, .int x0), (1, .int x1)], [], mk X, σ)
    exact lk_J6_numberOfLeadingZeros_0f7a4_61 d _ _ _ h
  · refine And.intro (fun hp => absurd hp c1) (fun _ => ?_)
    show Ex mr_J6_numberOfLeadingZeros_0f7a4 sc (Cl MT pr sc (d + 0)) (rtE (some (.int r)) (mk X) σ2) (54, [(0, .int x0), (1, .int x1)], [], mk X, σ)
    refine Ex.blk 1000 rfl ?_
    show Ex mr_J6_numberOfLeadingZeros_0f7a4 sc (Cl MT pr sc (d + 0)) (rtE (some (.int r)) (mk X) σ2) (61, [(0, .int (ushI x0 4)), (1, .int (x1 + (-4)))], [], mk X, σ)
    exact lk_J6_numberOfLeadingZeros_0f7a4_61 d _ _ _ h
theorem lk_J6_numberOfLeadingZeros_0f7a4_33 {pr : Ct} {sc : Nat × (Nat → Int32)} {X : En} (d : Nat) {r : Int32} {σ2 : St} (x0 : Int32) (x1 : Int32) (σ : St) (h : f_J6_numberOfLeadingZeros_0f7a4_33 x0 x1 σ = some (r, σ2)) : Ex mr_J6_numberOfLeadingZeros_0f7a4 sc (Cl MT pr sc (d + 0)) (rtE (some (.int r)) (mk X) σ2) (33, [(0, .int x0), (1, .int x1)], [], mk X, σ) := by
  unfold f_J6_numberOfLeadingZeros_0f7a4_33 at h
  refine Ex.blk 1000 rfl ?_
  rcases ite_sp h with ⟨c1, h⟩ | ⟨c1, h⟩
  · refine And.intro (fun _ => ?_) (fun hn => absurd c1 hn)
    show Ex mr_J6_numberOfLeadingZeros_0f7a4 sc (Cl MT pr sc (d + 0)) (rtE (some (.int r)) (mk X) σ2) (48, [(0, .int x0), (1, .int x1)], [], mk X, σ)
    exact lk_J6_numberOfLeadingZeros_0f7a4_48 d _ _ _ h
  · refine And.intro (fun hp => absurd hp c1) (fun _ => ?_)
    show Ex mr_J6_numberOfLeadingZeros_0f7a4 sc (Cl MT pr sc (d + 0)) (rtE (some (.int r)) (mk X) σ2) (40, [(0, .int x0), (1, .int x1)], [], mk X, σ)
    refine Ex.blk 1000 rfl ?_
    show Ex mr_J6_numberOfLeadingZeros_0f7a4 sc (Cl MT pr sc (d + 0)) (rtE (some (.int r)) (mk X) σ2) (48, [(0, .int (ushI x0 8)), (1, .int (x1 + (-8)))], [], mk X, σ)
    exact lk_J6_numberOfLeadingZeros_0f7a4_48 d _ _ _ h
theorem lk_J6_numberOfLeadingZeros_0f7a4_14 {pr : Ct} {sc : Nat × (Nat → Int32)} {X : En} (d : Nat) {r : Int32} {σ2 : St} (y0 : Int32) (σ : St) (h : f_J6_numberOfLeadingZeros_0f7a4_14 y0 σ = some (r, σ2)) : Ex mr_J6_numberOfLeadingZeros_0f7a4 sc (Cl MT pr sc (d + 0)) (rtE (some (.int r)) (mk X) σ2) (14, [], [.int y0], mk X, σ) := by
  unfold f_J6_numberOfLeadingZeros_0f7a4_14 at h
  refine Ex.blk 1000 rfl ?_
  cases h
  exact And.intro trivial ⟨rfl, rfl, rfl⟩
theorem cl_J6_numberOfLeadingZeros_0f7a4 {pr : Ct} {sc : Nat × (Nat → Int32)} {X : En} (d : Nat) {r : Int32} {σ2 : St} {x0 : Int32} {σ : St} (h : f_J6_numberOfLeadingZeros_0f7a4 x0 σ = some (r, σ2)) : Cl MT pr sc (d + 0 + 1) 126 [.int x0] (mk X) σ (some (.int r)) (mk X) σ2 := by
  refine cl_of mr_J6_numberOfLeadingZeros_0f7a4 rfl rfl ?_
  unfold f_J6_numberOfLeadingZeros_0f7a4 at h
  refine Ex.blk 1000 rfl ?_
  rcases ite_sp h with ⟨c1, h⟩ | ⟨c1, h⟩
  · refine And.intro (fun _ => ?_) (fun hn => absurd c1 hn)
    show Ex mr_J6_numberOfLeadingZeros_0f7a4 sc (Cl MT pr sc (d + 0)) (rtE (some (.int r)) (mk X) σ2) (15, [(0, .int x0)], [], mk X, σ)
    refine Ex.blk 1000 rfl ?_
    rcases ite_sp h with ⟨c2, h⟩ | ⟨c2, h⟩
    · refine And.intro (fun _ => ?_) (fun hn => absurd c2 hn)
      show Ex mr_J6_numberOfLeadingZeros_0f7a4 sc (Cl MT pr sc (d + 0)) (rtE (some (.int r)) (mk X) σ2) (33, [(1, .int 31), (0, .int x0)], [], mk X, σ)
      refine Ex.pick (lv' := _) [1, 0] rfl ?_
      exact lk_J6_numberOfLeadingZeros_0f7a4_33 d _ _ _ h
    · refine And.intro (fun hp => absurd hp c2) (fun _ => ?_)
      show Ex mr_J6_numberOfLeadingZeros_0f7a4 sc (Cl MT pr sc (d + 0)) (rtE (some (.int r)) (mk X) σ2) (25, [(1, .int 31), (0, .int x0)], [], mk X, σ)
      refine Ex.blk 1000 rfl ?_
      show Ex mr_J6_numberOfLeadingZeros_0f7a4 sc (Cl MT pr sc (d + 0)) (rtE (some (.int r)) (mk X) σ2) (33, [(0, .int (ushI x0 16)), (1, .int (31 + (-16)))], [], mk X, σ)
      exact lk_J6_numberOfLeadingZeros_0f7a4_33 d _ _ _ h
  · refine And.intro (fun hp => absurd hp c1) (fun _ => ?_)
    show Ex mr_J6_numberOfLeadingZeros_0f7a4 sc (Cl MT pr sc (d + 0)) (rtE (some (.int r)) (mk X) σ2) (4, [(0, .int x0)], [], mk X, σ)
    refine Ex.blk 1000 rfl ?_
    rcases ite_sp h with ⟨c3, h⟩ | ⟨c3, h⟩
    · refine And.intro (fun hp => absurd c3 hp) (fun _ => ?_)
      show Ex mr_J6_numberOfLeadingZeros_0f7a4 sc (Cl MT pr sc (d + 0)) (rtE (some (.int r)) (mk X) σ2) (8, [(0, .int x0)], [], mk X, σ)
      refine Ex.blk 1000 rfl ?_
      show Ex mr_J6_numberOfLeadingZeros_0f7a4 sc (Cl MT pr sc (d + 0)) (rtE (some (.int r)) (mk X) σ2) (14, [(0, .int x0)], [.int 32], mk X, σ)
      refine Ex.pick (lv' := _) [] rfl ?_
      exact lk_J6_numberOfLeadingZeros_0f7a4_14 d _ _ h
    · refine And.intro (fun _ => ?_) (fun hn => absurd c3 hn)
      show Ex mr_J6_numberOfLeadingZeros_0f7a4 sc (Cl MT pr sc (d + 0)) (rtE (some (.int r)) (mk X) σ2) (13, [(0, .int x0)], [], mk X, σ)
      refine Ex.blk 1000 rfl ?_
      show Ex mr_J6_numberOfLeadingZeros_0f7a4 sc (Cl MT pr sc (d + 0)) (rtE (some (.int r)) (mk X) σ2) (14, [(0, .int x0)], [.int 0], mk X, σ)
      refine Ex.pick (lv' := _) [] rfl ?_
      exact lk_J6_numberOfLeadingZeros_0f7a4_14 d _ _ h
theorem lk_X7_stand_5_59 {pr : Ct} {sc : Nat × (Nat → Int32)} {X : En} (d : Nat) {σ2 : St} (x1 : Int32) (x3 : Int32) (σ : St) (h : f_X7_stand_59 5 x1 x3 σ = some σ2) : Ex mr_X7_stand sc (Cl MT pr sc (d + 0)) (rtE none (mk X) σ2) (59, [(0, .ref 5), (1, .int x1), (3, .int x3)], [], mk X, σ) := by
  unfold f_X7_stand_59 at h
  refine Ex.blk 5 rfl ?_
  obtain ⟨g1, h⟩ := gd_some h
  refine And.intro (inb_ok g1) ?_
  show Ex mr_X7_stand sc (Cl MT pr sc (d + 0)) (rtE none (mk X) σ2) (66, [(0, .ref 5), (1, .int x1), (3, .int x3)], [], mk X, (sI σ 6 x1.toNatClampNeg x3))
  refine Ex.blk 1000 rfl ?_
  cases h
  exact And.intro trivial ⟨rfl, rfl, rfl⟩
theorem lk_X7_stand_5_27 {pr : Ct} {sc : Nat × (Nat → Int32)} {X : En} (d : Nat) {σ2 : St} (x1 : Int32) (x2 : Int32) (x3 : Int32) (σ : St) (h : f_X7_stand_27 5 x1 x2 x3 σ = some σ2) : Ex mr_X7_stand sc (Cl MT pr sc (d + 0)) (rtE none (mk X) σ2) (27, [(0, .ref 5), (1, .int x1), (2, .int x2), (3, .int x3)], [], mk X, σ) := by
  unfold f_X7_stand_27 at h
  refine Ex.blk 5 rfl ?_
  show Ex mr_X7_stand sc (Cl MT pr sc (d + 0)) (rtE none (mk X) σ2) (34, [(0, .ref 5), (1, .int x1), (2, .int x2), (3, .int x3)], [.int x3, .int x2, .int (gI σ 5 11), .ref 5], mk X, σ)
  refine Ex.blk 5 rfl ?_
  show Ex mr_X7_stand sc (Cl MT pr sc (d + 0)) (rtE none (mk X) σ2) (41, [(0, .ref 5), (1, .int x1), (2, .int x2), (3, .int x3)], [.ref 5, .ref 5], mk X, (sI σ 5 11 ((gI σ 5 11) + (x2 - x3))))
  refine Ex.blk 5 rfl ?_
  show Ex mr_X7_stand sc (Cl MT pr sc (d + 0)) (rtE none (mk X) σ2) (50, [(0, .ref 5), (1, .int x1), (2, .int x2), (3, .int x3)], [.int x1, .ref 6, .int x3, .int (gI (sI σ 5 11 ((gI σ 5 11) + (x2 - x3))) 5 7), .ref 5], mk X, (sI σ 5 11 ((gI σ 5 11) + (x2 - x3))))
  refine Ex.blk 1 rfl ?_
  obtain ⟨g1, h⟩ := gd_some h
  refine And.intro (inb_ok g1) ?_
  show Ex mr_X7_stand sc (Cl MT pr sc (d + 0)) (rtE none (mk X) σ2) (51, [(0, .ref 5), (1, .int x1), (2, .int x2), (3, .int x3)], [.int (gI (sI σ 5 11 ((gI σ 5 11) + (x2 - x3))) 6 x1.toNatClampNeg), .int x3, .int (gI (sI σ 5 11 ((gI σ 5 11) + (x2 - x3))) 5 7), .ref 5], mk X, (sI σ 5 11 ((gI σ 5 11) + (x2 - x3))))
  refine Ex.blk 4 rfl ?_
  show Ex mr_X7_stand sc (Cl MT pr sc (d + 0)) (rtE none (mk X) σ2) (59, [(0, .ref 5), (1, .int x1), (2, .int x2), (3, .int x3)], [], mk X, (sI (sI σ 5 11 ((gI σ 5 11) + (x2 - x3))) 5 7 ((gI (sI σ 5 11 ((gI σ 5 11) + (x2 - x3))) 5 7) + (abI (x3 - (gI (sI σ 5 11 ((gI σ 5 11) + (x2 - x3))) 6 x1.toNatClampNeg))))))
  refine Ex.pick (lv' := _) [0, 1, 3] rfl ?_
  exact lk_X7_stand_5_59 d _ _ _ h
theorem lk_X7_stand_5_16 {pr : Ct} {sc : Nat × (Nat → Int32)} {X : En} (d : Nat) {σ2 : St} (x1 : Int32) (x2 : Int32) (σ : St) (h : f_X7_stand_16 5 x1 x2 σ = some σ2) : Ex mr_X7_stand sc (Cl MT pr sc (d + 0)) (rtE none (mk X) σ2) (16, [(0, .ref 5), (1, .int x1), (2, .int x2)], [], mk X, σ) := by
  unfold f_X7_stand_16 at h
  refine Ex.blk 5 rfl ?_
  obtain ⟨g1, h⟩ := gd_some h
  refine And.intro (inb_ok g1) ?_
  show Ex mr_X7_stand sc (Cl MT pr sc (d + 0)) (rtE none (mk X) σ2) (23, [(0, .ref 5), (1, .int x1), (2, .int x2)], [.int (gI σ 7 x1.toNatClampNeg), .int x2], mk X, σ)
  refine Ex.blk 2 rfl ?_
  show Ex mr_X7_stand sc (Cl MT pr sc (d + 0)) (rtE none (mk X) σ2) (27, [(3, .int (mnI x2 (gI σ 7 x1.toNatClampNeg))), (0, .ref 5), (1, .int x1), (2, .int x2)], [], mk X, σ)
  refine Ex.pick (lv' := _) [1, 2, 3, 0] rfl ?_
  exact lk_X7_stand_5_27 d _ _ _ _ h
theorem cl_X7_stand_5 {pr : Ct} {sc : Nat × (Nat → Int32)} {X : En} (d : Nat) {σ2 : St} {x1 : Int32} {x2 : Int32} {σ : St} (h : f_X7_stand 5 x1 x2 σ = some σ2) : Cl MT pr sc (d + 0 + 1) 35 [.ref 5, .int x1, .int x2] (mk X) σ none (mk X) σ2 := by
  refine cl_of mr_X7_stand rfl rfl ?_
  unfold f_X7_stand at h
  refine Ex.blk 5 rfl ?_
  show Ex mr_X7_stand sc (Cl MT pr sc (d + 0)) (rtE none (mk X) σ2) (9, [(0, .ref 5), (1, .int x1), (2, .int x2)], [.ref 8, .int x1, .ref 8], mk X, σ)
  refine Ex.blk 2 rfl ?_
  obtain ⟨g1, h⟩ := gd_some h
  refine And.intro (inb_ok g1) ?_
  show Ex mr_X7_stand sc (Cl MT pr sc (d + 0)) (rtE none (mk X) σ2) (11, [(0, .ref 5), (1, .int x1), (2, .int x2)], [.int (gI σ 8 x1.toNatClampNeg), .int x1, .ref 8], mk X, σ)
  refine Ex.blk 3 rfl ?_
  obtain ⟨g2, h⟩ := gd_some h
  refine And.intro (inb_ok g2) ?_
  show Ex mr_X7_stand sc (Cl MT pr sc (d + 0)) (rtE none (mk X) σ2) (16, [(0, .ref 5), (1, .int x1), (2, .int x2)], [], mk X, (sI σ 8 x1.toNatClampNeg (mxI (gI σ 8 x1.toNatClampNeg) x2)))
  exact lk_X7_stand_5_16 d _ _ _ h
theorem lk_X7_drive_5_98 {pr : Ct} {sc : Nat × (Nat → Int32)} {X : En} (d : Nat) {σ2 : St} (k5 : Int32 → Int32 → St → Option (St)) (hk5 : ∀ (x3 : Int32) (x4 : Int32) (σ : St), k5 x3 x4 σ = some σ2 → Ex mr_X7_drive sc (Cl MT pr sc (d + 1)) (rtE none (mk X) σ2) (5, [(0, .ref 5), (3, .int x3), (4, .int x4)], [], mk X, σ)) (x4 : Int32) (y0 : Int32) (σ : St) (h : f_X7_drive_98 5 k5 x4 y0 σ = some σ2) : Ex mr_X7_drive sc (Cl MT pr sc (d + 1)) (rtE none (mk X) σ2) (98, [(0, .ref 5), (4, .int x4)], [.int y0], mk X, σ) := by
  unfold f_X7_drive_98 at h
  refine Ex.blk 1000 rfl ?_
  show Ex mr_X7_drive sc (Cl MT pr sc (d + 1)) (rtE none (mk X) σ2) (5, [(4, .int (x4 + 1)), (3, .int y0), (0, .ref 5)], [], mk X, σ)
  refine Ex.pick (lv' := _) [2, 1, 0] rfl ?_
  exact hk5 _ _ _ h
theorem lk_X7_drive_5_70 {pr : Ct} {sc : Nat × (Nat → Int32)} {X : En} (d : Nat) {σ2 : St} (k5 : Int32 → Int32 → St → Option (St)) (hk5 : ∀ (x3 : Int32) (x4 : Int32) (σ : St), k5 x3 x4 σ = some σ2 → Ex mr_X7_drive sc (Cl MT pr sc (d + 1)) (rtE none (mk X) σ2) (5, [(0, .ref 5), (3, .int x3), (4, .int x4)], [], mk X, σ)) (x3 : Int32) (x4 : Int32) (x6 : Int32) (y0 : Int32) (y1 : Int32) (σ : St) (h : f_X7_drive_70 5 k5 x3 x4 x6 y0 y1 σ = some σ2) : Ex mr_X7_drive sc (Cl MT pr sc (d + 1)) (rtE none (mk X) σ2) (70, [(0, .ref 5), (3, .int x3), (4, .int x4), (6, .int x6)], [.int y0, .int y1, .ref 5], mk X, σ) := by
  unfold f_X7_drive_70 at h
  refine Ex.blk 1 rfl ?_
  obtain ⟨p2, hp2, h⟩ := bind_sp h
  refine Exists.intro none (Exists.intro (mk X) (Exists.intro p2 (And.intro (cl_X7_stand_5 (d + 0) hp2) ?_)))
  show Ex mr_X7_drive sc (Cl MT pr sc (d + 1)) (rtE none (mk X) σ2) (73, [(0, .ref 5), (3, .int x3), (4, .int x4), (6, .int x6)], [], mk X, p2)
  refine Ex.blk 1000 rfl ?_
  rcases ite_sp h with ⟨c1, h⟩ | ⟨c1, h⟩
  · refine And.intro (fun hp => absurd c1 hp) (fun _ => ?_)
    show Ex mr_X7_drive sc (Cl MT pr sc (d + 1)) (rtE none (mk X) σ2) (78, [(0, .ref 5), (3, .int x3), (4, .int x4), (6, .int x6)], [], mk X, p2)
    refine Ex.blk 1000 rfl ?_
    cases h
    exact And.intro trivial ⟨rfl, rfl, rfl⟩
  · refine And.intro (fun _ => ?_) (fun hn => absurd c1 hn)
    show Ex mr_X7_drive sc (Cl MT pr sc (d + 1)) (rtE none (mk X) σ2) (79, [(0, .ref 5), (3, .int x3), (4, .int x4), (6, .int x6)], [], mk X, p2)
    refine Ex.blk 5 rfl ?_
    show Ex mr_X7_drive sc (Cl MT pr sc (d + 1)) (rtE none (mk X) σ2) (86, [(0, .ref 5), (3, .int x3), (4, .int x4), (6, .int x6)], [.int ((gI p2 5 8) + 1), .ref 5], mk X, p2)
    refine Ex.blk 1000 rfl ?_
    rcases ite_sp h with ⟨c2, h⟩ | ⟨c2, h⟩
    · refine And.intro (fun _ => ?_) (fun hn => absurd c2 hn)
      show Ex mr_X7_drive sc (Cl MT pr sc (d + 1)) (rtE none (mk X) σ2) (97, [(0, .ref 5), (3, .int x3), (4, .int x4), (6, .int x6)], [], mk X, (sI p2 5 8 ((gI p2 5 8) + 1)))
      refine Ex.blk 1000 rfl ?_
      show Ex mr_X7_drive sc (Cl MT pr sc (d + 1)) (rtE none (mk X) σ2) (98, [(0, .ref 5), (3, .int x3), (4, .int x4), (6, .int x6)], [.int 1], mk X, (sI p2 5 8 ((gI p2 5 8) + 1)))
      refine Ex.pick (lv' := _) [0, 2] rfl ?_
      exact lk_X7_drive_5_98 d _ hk5 _ _ _ h
    · refine And.intro (fun hp => absurd hp c2) (fun _ => ?_)
      show Ex mr_X7_drive sc (Cl MT pr sc (d + 1)) (rtE none (mk X) σ2) (93, [(0, .ref 5), (3, .int x3), (4, .int x4), (6, .int x6)], [], mk X, (sI p2 5 8 ((gI p2 5 8) + 1)))
      refine Ex.blk 1000 rfl ?_
      show Ex mr_X7_drive sc (Cl MT pr sc (d + 1)) (rtE none (mk X) σ2) (98, [(0, .ref 5), (3, .int x3), (4, .int x4), (6, .int x6)], [.int (-1)], mk X, (sI p2 5 8 ((gI p2 5 8) + 1)))
      refine Ex.pick (lv' := _) [0, 2] rfl ?_
      exact lk_X7_drive_5_98 d _ hk5 _ _ _ h
theorem lk_X7_drive_5_38 {pr : Ct} {sc : Nat × (Nat → Int32)} {X : En} (d : Nat) {σ2 : St} (k5 : Int32 → Int32 → St → Option (St)) (hk5 : ∀ (x3 : Int32) (x4 : Int32) (σ : St), k5 x3 x4 σ = some σ2 → Ex mr_X7_drive sc (Cl MT pr sc (d + 1)) (rtE none (mk X) σ2) (5, [(0, .ref 5), (3, .int x3), (4, .int x4)], [], mk X, σ)) (x3 : Int32) (x4 : Int32) (x5 : Int32) (y0 : Int32) (σ : St) (h : f_X7_drive_38 5 k5 x3 x4 x5 y0 σ = some σ2) : Ex mr_X7_drive sc (Cl MT pr sc (d + 1)) (rtE none (mk X) σ2) (38, [(0, .ref 5), (3, .int x3), (4, .int x4), (5, .int x5)], [.int y0], mk X, σ) := by
  unfold f_X7_drive_38 at h
  refine Ex.blk 1000 rfl ?_
  rcases ite_sp h with ⟨c1, h⟩ | ⟨c1, h⟩
  · refine And.intro (fun hp => absurd c1 hp) (fun _ => ?_)
    show Ex mr_X7_drive sc (Cl MT pr sc (d + 1)) (rtE none (mk X) σ2) (48, [(6, .int y0), (0, .ref 5), (3, .int x3), (4, .int x4), (5, .int x5)], [.int x4, .ref 5], mk X, σ)
    refine Ex.blk 1000 rfl ?_
    show Ex mr_X7_drive sc (Cl MT pr sc (d + 1)) (rtE none (mk X) σ2) (70, [(6, .int y0), (0, .ref 5), (3, .int x3), (4, .int x4), (5, .int x5)], [.int x5, .int x4, .ref 5], mk X, σ)
    refine Ex.pick (lv' := _) [1, 2, 3, 0] rfl ?_
    exact lk_X7_drive_5_70 d _ hk5 _ _ _ _ _ _ h
  · refine And.intro (fun _ => ?_) (fun hn => absurd c1 hn)
    show Ex mr_X7_drive sc (Cl MT pr sc (d + 1)) (rtE none (mk X) σ2) (53, [(6, .int y0), (0, .ref 5), (3, .int x3), (4, .int x4), (5, .int x5)], [.int x4, .ref 5], mk X, σ)
    refine Ex.blk 1000 rfl ?_
    rcases ite_sp h with ⟨c2, h⟩ | ⟨c2, h⟩
    · refine And.intro (fun _ => ?_) (fun hn => absurd c2 hn)
      show Ex mr_X7_drive sc (Cl MT pr sc (d + 1)) (rtE none (mk X) σ2) (65, [(6, .int y0), (0, .ref 5), (3, .int x3), (4, .int x4), (5, .int x5)], [.int x4, .ref 5], mk X, σ)
      refine Ex.blk 1000 rfl ?_
      show Ex mr_X7_drive sc (Cl MT pr sc (d + 1)) (rtE none (mk X) σ2) (70, [(6, .int y0), (0, .ref 5), (3, .int x3), (4, .int x4), (5, .int x5)], [.int (x5 - 10), .int x4, .ref 5], mk X, σ)
      refine Ex.pick (lv' := _) [1, 2, 3, 0] rfl ?_
      exact lk_X7_drive_5_70 d _ hk5 _ _ _ _ _ _ h
    · refine And.intro (fun hp => absurd hp c2) (fun _ => ?_)
      show Ex mr_X7_drive sc (Cl MT pr sc (d + 1)) (rtE none (mk X) σ2) (57, [(6, .int y0), (0, .ref 5), (3, .int x3), (4, .int x4), (5, .int x5)], [.int x4, .ref 5], mk X, σ)
      refine Ex.blk 1000 rfl ?_
      show Ex mr_X7_drive sc (Cl MT pr sc (d + 1)) (rtE none (mk X) σ2) (70, [(6, .int y0), (0, .ref 5), (3, .int x3), (4, .int x4), (5, .int x5)], [.int (x5 + 10), .int x4, .ref 5], mk X, σ)
      refine Ex.pick (lv' := _) [1, 2, 3, 0] rfl ?_
      exact lk_X7_drive_5_70 d _ hk5 _ _ _ _ _ _ h
theorem lk_X7_drive_5_25 {pr : Ct} {sc : Nat × (Nat → Int32)} {X : En} (d : Nat) {σ2 : St} (k5 : Int32 → Int32 → St → Option (St)) (hk5 : ∀ (x3 : Int32) (x4 : Int32) (σ : St), k5 x3 x4 σ = some σ2 → Ex mr_X7_drive sc (Cl MT pr sc (d + 1)) (rtE none (mk X) σ2) (5, [(0, .ref 5), (3, .int x3), (4, .int x4)], [], mk X, σ)) (x3 : Int32) (x4 : Int32) (x5 : Int32) (σ : St) (h : f_X7_drive_25 5 k5 x3 x4 x5 σ = some σ2) : Ex mr_X7_drive sc (Cl MT pr sc (d + 1)) (rtE none (mk X) σ2) (25, [(0, .ref 5), (3, .int x3), (4, .int x4), (5, .int x5)], [], mk X, σ) := by
  unfold f_X7_drive_25 at h
  refine Ex.blk 2 rfl ?_
  obtain ⟨p1, hp1, h⟩ := bind_sp h
  refine Exists.intro (some (.int p1.1)) (Exists.intro (mk X) (Exists.intro p1.2 (And.intro (cl_X9_isDigit (d + 0) hp1) ?_)))
  show Ex mr_X7_drive sc (Cl MT pr sc (d + 1)) (rtE none (mk X) σ2) (30, [(0, .ref 5), (3, .int x3), (4, .int x4), (5, .int x5)], [.int p1.1], mk X, p1.2)
  refine Ex.blk 1000 rfl ?_
  rcases ite_sp h with ⟨c1, h⟩ | ⟨c1, h⟩
  · refine And.intro (fun hp => absurd c1 hp) (fun _ => ?_)
    show Ex mr_X7_drive sc (Cl MT pr sc (d + 1)) (rtE none (mk X) σ2) (33, [(0, .ref 5), (3, .int x3), (4, .int x4), (5, .int x5)], [], mk X, p1.2)
    refine Ex.blk 1000 rfl ?_
    show Ex mr_X7_drive sc (Cl MT pr sc (d + 1)) (rtE none (mk X) σ2) (38, [(0, .ref 5), (3, .int x3), (4, .int x4), (5, .int x5)], [.int 1], mk X, p1.2)
    exact lk_X7_drive_5_38 d _ hk5 _ _ _ _ _ h
  · refine And.intro (fun _ => ?_) (fun hn => absurd c1 hn)
    show Ex mr_X7_drive sc (Cl MT pr sc (d + 1)) (rtE none (mk X) σ2) (37, [(0, .ref 5), (3, .int x3), (4, .int x4), (5, .int x5)], [], mk X, p1.2)
    refine Ex.blk 1000 rfl ?_
    show Ex mr_X7_drive sc (Cl MT pr sc (d + 1)) (rtE none (mk X) σ2) (38, [(0, .ref 5), (3, .int x3), (4, .int x4), (5, .int x5)], [.int 0], mk X, p1.2)
    exact lk_X7_drive_5_38 d _ hk5 _ _ _ _ _ h
theorem lk_X7_drive_5_5 {pr : Ct} {sc : Nat × (Nat → Int32)} {X : En} (d : Nat) {σ2 : St} : ∀ (n : Nat) (x3 : Int32) (x4 : Int32) (σ : St), f_X7_drive_5 5 n x3 x4 σ = some σ2 → Ex mr_X7_drive sc (Cl MT pr sc (d + 1)) (rtE none (mk X) σ2) (5, [(0, .ref 5), (3, .int x3), (4, .int x4)], [], mk X, σ) := by
  intro n
  induction n with
  | zero =>
    intro x3 x4 σ h
    cases h
  | succ n ih =>
    intro x3 x4 σ h
    simp only [f_X7_drive_5] at h
    refine Ex.blk 1000 rfl ?_
    rcases ite_sp h with ⟨c1, h⟩ | ⟨c1, h⟩
    · refine And.intro (fun _ => ?_) (fun hn => absurd c1 hn)
      show Ex mr_X7_drive sc (Cl MT pr sc (d + 1)) (rtE none (mk X) σ2) (105, [(0, .ref 5), (3, .int x3), (4, .int x4)], [], mk X, σ)
      refine Ex.blk 5 rfl ?_
      show Ex mr_X7_drive sc (Cl MT pr sc (d + 1)) (rtE none (mk X) σ2) (112, [(0, .ref 5), (3, .int x3), (4, .int x4)], [.int ((gI σ 5 10) + 1), .ref 5], mk X, σ)
      refine Ex.blk 1000 rfl ?_
      cases h
      exact And.intro trivial ⟨rfl, rfl, rfl⟩
    · refine And.intro (fun hp => absurd hp c1) (fun _ => ?_)
      show Ex mr_X7_drive sc (Cl MT pr sc (d + 1)) (rtE none (mk X) σ2) (14, [(0, .ref 5), (3, .int x3), (4, .int x4)], [], mk X, σ)
      refine Ex.blk 4 rfl ?_
      obtain ⟨g2, h⟩ := gd_some h
      refine And.intro (inb_ok g2) ?_
      show Ex mr_X7_drive sc (Cl MT pr sc (d + 1)) (rtE none (mk X) σ2) (21, [(0, .ref 5), (3, .int x3), (4, .int x4)], [.int (gI σ 6 x4.toNatClampNeg)], mk X, σ)
      refine Ex.blk 3 rfl ?_
      show Ex mr_X7_drive sc (Cl MT pr sc (d + 1)) (rtE none (mk X) σ2) (25, [(5, .int ((gI σ 6 x4.toNatClampNeg) + x3)), (0, .ref 5), (3, .int x3), (4, .int x4)], [], mk X, σ)
      refine Ex.pick (lv' := _) [1, 2, 3, 0] rfl ?_
      exact lk_X7_drive_5_25 d _ ih _ _ _ _ h
theorem cl_X7_drive_5 {pr : Ct} {sc : Nat × (Nat → Int32)} {X : En} (d : Nat) {σ2 : St} {x1 : Int32} {x2 : Int32} {σ : St} (h : f_X7_drive 5 x1 x2 σ = some σ2) : Cl MT pr sc (d + 1 + 1) 36 [.ref 5, .int x1, .int x2] (mk X) σ none (mk X) σ2 := by
  refine cl_of mr_X7_drive rfl rfl ?_
  unfold f_X7_drive at h
  refine Ex.blk 1000 rfl ?_
  show Ex mr_X7_drive sc (Cl MT pr sc (d + 1)) (rtE none (mk X) σ2) (5, [(4, .int x1), (3, .int x2), (0, .ref 5), (1, .int x1), (2, .int x2)], [], mk X, σ)
  refine Ex.pick (lv' := _) [2, 1, 0] rfl ?_
  exact lk_X7_drive_5_5 d FU _ _ _ h
theorem lk_X7_twice_5_7 {pr : Ct} {sc : Nat × (Nat → Int32)} {X : En} (d : Nat) {σ2 : St} : ∀ (n : Nat) (x1 : Int32) (σ : St), f_X7_twice_7 5 n x1 σ = some σ2 → Ex mr_X7_twice sc (Cl MT pr sc (d + 2)) (rtE none (mk X) σ2) (7, [(0, .ref 5), (1, .int x1)], [], mk X, σ) := by
  intro n
  induction n with
  | zero =>
    intro x1 σ h
    cases h
  | succ n ih =>
    intro x1 σ h
    simp only [f_X7_twice_7] at h
    refine Ex.blk 1000 rfl ?_
    rcases ite_sp h with ⟨c1, h⟩ | ⟨c1, h⟩
    · refine And.intro (fun _ => ?_) (fun hn => absurd c1 hn)
      show Ex mr_X7_twice sc (Cl MT pr sc (d + 2)) (rtE none (mk X) σ2) (28, [(0, .ref 5), (1, .int x1)], [], mk X, σ)
      refine Ex.blk 1000 rfl ?_
      cases h
      exact And.intro trivial ⟨rfl, rfl, rfl⟩
    · refine And.intro (fun hp => absurd hp c1) (fun _ => ?_)
      show Ex mr_X7_twice sc (Cl MT pr sc (d + 2)) (rtE none (mk X) σ2) (11, [(0, .ref 5), (1, .int x1)], [], mk X, σ)
      refine Ex.blk 5 rfl ?_
      show Ex mr_X7_twice sc (Cl MT pr sc (d + 2)) (rtE none (mk X) σ2) (18, [(0, .ref 5), (1, .int x1)], [.int x1, .ref 6, .int x1, .ref 5], mk X, σ)
      refine Ex.blk 1 rfl ?_
      obtain ⟨g2, h⟩ := gd_some h
      refine And.intro (inb_ok g2) ?_
      show Ex mr_X7_twice sc (Cl MT pr sc (d + 2)) (rtE none (mk X) σ2) (19, [(0, .ref 5), (1, .int x1)], [.int (gI σ 6 x1.toNatClampNeg), .int x1, .ref 5], mk X, σ)
      refine Ex.blk 1 rfl ?_
      obtain ⟨p1, hp1, h⟩ := bind_sp h
      refine Exists.intro none (Exists.intro (mk X) (Exists.intro p1 (And.intro (cl_X7_drive_5 (d + 0) hp1) ?_)))
      show Ex mr_X7_twice sc (Cl MT pr sc (d + 2)) (rtE none (mk X) σ2) (22, [(0, .ref 5), (1, .int x1)], [], mk X, p1)
      refine Ex.blk 1000 rfl ?_
      show Ex mr_X7_twice sc (Cl MT pr sc (d + 2)) (rtE none (mk X) σ2) (7, [(1, .int (x1 + (-1))), (0, .ref 5)], [], mk X, p1)
      refine Ex.pick (lv' := _) [1, 0] rfl ?_
      exact ih _ _ h
theorem cl_X7_twice_5 {pr : Ct} {sc : Nat × (Nat → Int32)} {X : En} (d : Nat) {σ2 : St} {σ : St} (h : f_X7_twice 5 σ = some σ2) : Cl MT pr sc (d + 2 + 1) 71 [.ref 5] (mk X) σ none (mk X) σ2 := by
  refine cl_of mr_X7_twice rfl rfl ?_
  unfold f_X7_twice at h
  refine Ex.blk 1000 rfl ?_
  show Ex mr_X7_twice sc (Cl MT pr sc (d + 2)) (rtE none (mk X) σ2) (7, [(1, .int ((gI σ 5 0) - 1)), (0, .ref 5)], [], mk X, σ)
  refine Ex.pick (lv' := _) [1, 0] rfl ?_
  exact lk_X7_twice_5_7 d FU _ _ h
theorem cl_X7_topRope_5 {pr : Ct} {sc : Nat × (Nat → Int32)} {X : En} (d : Nat) {r : Int32} {σ2 : St} {x1 : Int32} {σ : St} (h : f_X7_topRope 5 x1 σ = some (r, σ2)) : Cl MT pr sc (d + 1 + 1) 2 [.ref 5, .int x1] (mk X) σ (some (.int r)) (mk X) σ2 := by
  refine cl_of mr_X7_topRope rfl rfl ?_
  unfold f_X7_topRope at h
  refine Ex.blk 5 rfl ?_
  show Ex mr_X7_topRope sc (Cl MT pr sc (d + 1)) (rtE (some (.int r)) (mk X) σ2) (9, [(0, .ref 5), (1, .int x1)], [.int (gI σ 5 0), .ref TN, .long x1.toInt64], mk X, σ)
  refine Ex.blk 1 rfl ?_
  obtain ⟨g1, h⟩ := gd_some h
  refine And.intro (inb_ok g1) ?_
  show Ex mr_X7_topRope sc (Cl MT pr sc (d + 1)) (rtE (some (.int r)) (mk X) σ2) (10, [(0, .ref 5), (1, .int x1)], [.long (tens (gI σ 5 0).toNatClampNeg), .long x1.toInt64], mk X, σ)
  refine Ex.blk 1 rfl ?_
  obtain ⟨g2, h⟩ := gd_some h
  refine And.intro (nzJ_ok g2) ?_
  show Ex mr_X7_topRope sc (Cl MT pr sc (d + 1)) (rtE (some (.int r)) (mk X) σ2) (11, [(0, .ref 5), (1, .int x1)], [.long (rmJ x1.toInt64 (tens (gI σ 5 0).toNatClampNeg))], mk X, σ)
  refine Ex.blk 1 rfl ?_
  obtain ⟨p1, hp1, h⟩ := bind_sp h
  refine Exists.intro (some (.int p1.1)) (Exists.intro (mk X) (Exists.intro p1.2 (And.intro (cl_X9_topPlace (d + 0) hp1) ?_)))
  show Ex mr_X7_topRope sc (Cl MT pr sc (d + 1)) (rtE (some (.int r)) (mk X) σ2) (14, [(0, .ref 5), (1, .int x1)], [.int p1.1], mk X, p1.2)
  refine Ex.blk 1000 rfl ?_
  cases h
  exact And.intro trivial ⟨rfl, rfl, rfl⟩
theorem lk_X7_bring_n_5_104 {pr : Ct} {sc : Nat × (Nat → Int32)} {X : En} (d : Nat) {σ2 : St} (k34 : Int32 → Int32 → Int32 → Int32 → Int32 → St → Option (St)) (hk34 : ∀ (x1 : Int32) (x2 : Int32) (x3 : Int32) (x5 : Int32) (x6 : Int32) (σ : St), k34 x1 x2 x3 x5 x6 σ = some σ2 → Ex mr_X7_bring sc (Cl MT pr sc (d + 2)) (rtE none (mk X) σ2) (34, [(0, .ref 5), (1, .int x1), (2, .int x2), (3, .int x3), (4, .null), (5, .int x5), (6, .int x6)], [], mk X, σ)) (x1 : Int32) (x2 : Int32) (x3 : Int32) (x5 : Int32) (x6 : Int32) (y0 : Int32) (y1 : Int32) (σ : St) (h : f_X7_bring_n_104 5 k34 x1 x2 x3 x5 x6 y0 y1 σ = some σ2) : Ex mr_X7_bring sc (Cl MT pr sc (d + 2)) (rtE none (mk X) σ2) (104, [(0, .ref 5), (1, .int x1), (2, .int x2), (3, .int x3), (4, .null), (5, .int x5), (6, .int x6)], [.int y0, .int y1, .ref 5], mk X, σ) := by
  unfold f_X7_bring_n_104 at h
  refine Ex.blk 1 rfl ?_
  obtain ⟨p3, hp3, h⟩ := bind_sp h
  refine Exists.intro none (Exists.intro (mk X) (Exists.intro p3 (And.intro (cl_X7_drive_5 (d + 0) hp3) ?_)))
  show Ex mr_X7_bring sc (Cl MT pr sc (d + 2)) (rtE none (mk X) σ2) (107, [(0, .ref 5), (1, .int x1), (2, .int x2), (3, .int x3), (4, .null), (5, .int x5), (6, .int x6)], [], mk X, p3)
  refine Ex.blk 1000 rfl ?_
  show Ex mr_X7_bring sc (Cl MT pr sc (d + 2)) (rtE none (mk X) σ2) (34, [(6, .int (x6 + 1)), (0, .ref 5), (1, .int x1), (2, .int x2), (3, .int x3), (4, .null), (5, .int x5)], [], mk X, p3)
  refine Ex.pick (lv' := _) [1, 2, 3, 4, 5, 6, 0] rfl ?_
  exact hk34 _ _ _ _ _ _ h
theorem lk_X7_bring_n_5_87 {pr : Ct} {sc : Nat × (Nat → Int32)} {X : En} (d : Nat) {σ2 : St} (k34 : Int32 → Int32 → Int32 → Int32 → Int32 → St → Option (St)) (hk34 : ∀ (x1 : Int32) (x2 : Int32) (x3 : Int32) (x5 : Int32) (x6 : Int32) (σ : St), k34 x1 x2 x3 x5 x6 σ = some σ2 → Ex mr_X7_bring sc (Cl MT pr sc (d + 2)) (rtE none (mk X) σ2) (34, [(0, .ref 5), (1, .int x1), (2, .int x2), (3, .int x3), (4, .null), (5, .int x5), (6, .int x6)], [], mk X, σ)) (x1 : Int32) (x2 : Int32) (x3 : Int32) (x5 : Int32) (x6 : Int32) (x7 : Int32) (y0 : Int32) (σ : St) (h : f_X7_bring_n_87 5 k34 x1 x2 x3 x5 x6 x7 y0 σ = some σ2) : Ex mr_X7_bring sc (Cl MT pr sc (d + 2)) (rtE none (mk X) σ2) (87, [(0, .ref 5), (1, .int x1), (2, .int x2), (3, .int x3), (4, .null), (5, .int x5), (6, .int x6), (7, .int x7)], [.int y0], mk X, σ) := by
  unfold f_X7_bring_n_87 at h
  refine Ex.blk 1000 rfl ?_
  rcases ite_sp h with ⟨c1, h⟩ | ⟨c1, h⟩
  · refine And.intro (fun _ => ?_) (fun hn => absurd c1 hn)
    show Ex mr_X7_bring sc (Cl MT pr sc (d + 2)) (rtE none (mk X) σ2) (102, [(9, .int y0), (0, .ref 5), (1, .int x1), (2, .int x2), (3, .int x3), (4, .null), (5, .int x5), (6, .int x6), (7, .int x7)], [.int x7, .ref 5], mk X, σ)
    refine Ex.blk 1000 rfl ?_
    show Ex mr_X7_bring sc (Cl MT pr sc (d + 2)) (rtE none (mk X) σ2) (104, [(9, .int y0), (0, .ref 5), (1, .int x1), (2, .int x2), (3, .int x3), (4, .null), (5, .int x5), (6, .int x6), (7, .int x7)], [.int y0, .int x7, .ref 5], mk X, σ)
    refine Ex.pick (lv' := _) [1, 2, 3, 4, 5, 6, 7] rfl ?_
    exact lk_X7_bring_n_5_104 d _ hk34 _ _ _ _ _ _ _ _ h
  · refine And.intro (fun hp => absurd hp c1) (fun _ => ?_)
    show Ex mr_X7_bring sc (Cl MT pr sc (d + 2)) (rtE none (mk X) σ2) (96, [(9, .int y0), (0, .ref 5), (1, .int x1), (2, .int x2), (3, .int x3), (4, .null), (5, .int x5), (6, .int x6), (7, .int x7)], [.int x7, .ref 5], mk X, σ)
    refine Ex.blk 1000 rfl ?_
    show Ex mr_X7_bring sc (Cl MT pr sc (d + 2)) (rtE none (mk X) σ2) (104, [(9, .int y0), (0, .ref 5), (1, .int x1), (2, .int x2), (3, .int x3), (4, .null), (5, .int x5), (6, .int x6), (7, .int x7)], [.int (-y0), .int x7, .ref 5], mk X, σ)
    refine Ex.pick (lv' := _) [1, 2, 3, 4, 5, 6, 7] rfl ?_
    exact lk_X7_bring_n_5_104 d _ hk34 _ _ _ _ _ _ _ _ h
theorem lk_X7_bring_n_5_55 {pr : Ct} {sc : Nat × (Nat → Int32)} {X : En} (d : Nat) {σ2 : St} (k34 : Int32 → Int32 → Int32 → Int32 → Int32 → St → Option (St)) (hk34 : ∀ (x1 : Int32) (x2 : Int32) (x3 : Int32) (x5 : Int32) (x6 : Int32) (σ : St), k34 x1 x2 x3 x5 x6 σ = some σ2 → Ex mr_X7_bring sc (Cl MT pr sc (d + 2)) (rtE none (mk X) σ2) (34, [(0, .ref 5), (1, .int x1), (2, .int x2), (3, .int x3), (4, .null), (5, .int x5), (6, .int x6)], [], mk X, σ)) (x1 : Int32) (x2 : Int32) (x3 : Int32) (x5 : Int32) (x6 : Int32) (y0 : Int32) (σ : St) (h : f_X7_bring_n_55 5 k34 x1 x2 x3 x5 x6 y0 σ = some σ2) : Ex mr_X7_bring sc (Cl MT pr sc (d + 2)) (rtE none (mk X) σ2) (55, [(0, .ref 5), (1, .int x1), (2, .int x2), (3, .int x3), (4, .null), (5, .int x5), (6, .int x6)], [.int y0], mk X, σ) := by
  unfold f_X7_bring_n_55 at h
  refine Ex.blk 5 rfl ?_
  obtain ⟨p2, hp2, h⟩ := bind_sp h
  refine Exists.intro (some (.int p2.1)) (Exists.intro (mk X) (Exists.intro p2.2 (And.intro (cl_X9_digitOf (d + 1) hp2) ?_)))
  show Ex mr_X7_bring sc (Cl MT pr sc (d + 2)) (rtE none (mk X) σ2) (64, [(7, .int y0), (0, .ref 5), (1, .int x1), (2, .int x2), (3, .int x3), (4, .null), (5, .int x5), (6, .int x6)], [.int p2.1], mk X, p2.2)
  refine Ex.blk 1000 rfl ?_
  refine Ex.blk 1000 rfl ?_
  show Ex mr_X7_bring sc (Cl MT pr sc (d + 2)) (rtE none (mk X) σ2) (87, [(8, .int p2.1), (7, .int y0), (0, .ref 5), (1, .int x1), (2, .int x2), (3, .int x3), (4, .null), (5, .int x5), (6, .int x6)], [.int p2.1], mk X, p2.2)
  refine Ex.pick (lv' := _) [2, 3, 4, 5, 6, 7, 8, 1] rfl ?_
  exact lk_X7_bring_n_5_87 d _ hk34 _ _ _ _ _ _ _ _ h
theorem lk_X7_bring_n_5_34 {pr : Ct} {sc : Nat × (Nat → Int32)} {X : En} (d : Nat) {σ2 : St} : ∀ (n : Nat) (x1 : Int32) (x2 : Int32) (x3 : Int32) (x5 : Int32) (x6 : Int32) (σ : St), f_X7_bring_n_34 5 n x1 x2 x3 x5 x6 σ = some σ2 → Ex mr_X7_bring sc (Cl MT pr sc (d + 2)) (rtE none (mk X) σ2) (34, [(0, .ref 5), (1, .int x1), (2, .int x2), (3, .int x3), (4, .null), (5, .int x5), (6, .int x6)], [], mk X, σ) := by
  intro n
  induction n with
  | zero =>
    intro x1 x2 x3 x5 x6 σ h
    cases h
  | succ n ih =>
    intro x1 x2 x3 x5 x6 σ h
    simp only [f_X7_bring_n_34] at h
    refine Ex.blk 1000 rfl ?_
    rcases ite_sp h with ⟨c1, h⟩ | ⟨c1, h⟩
    · refine And.intro (fun _ => ?_) (fun hn => absurd c1 hn)
      show Ex mr_X7_bring sc (Cl MT pr sc (d + 2)) (rtE none (mk X) σ2) (113, [(0, .ref 5), (1, .int x1), (2, .int x2), (3, .int x3), (4, .null), (5, .int x5), (6, .int x6)], [], mk X, σ)
      refine Ex.blk 1000 rfl ?_
      cases h
      exact And.intro trivial ⟨rfl, rfl, rfl⟩
    · refine And.intro (fun hp => absurd hp c1) (fun _ => ?_)
      show Ex mr_X7_bring sc (Cl MT pr sc (d + 2)) (rtE none (mk X) σ2) (41, [(0, .ref 5), (1, .int x1), (2, .int x2), (3, .int x3), (4, .null), (5, .int x5), (6, .int x6)], [], mk X, σ)
      refine Ex.blk 1000 rfl ?_
      rcases ite_sp h with ⟨c2, h⟩ | ⟨c2, h⟩
      · refine And.intro (fun hp => absurd c2 hp) (fun _ => ?_)
        show Ex mr_X7_bring sc (Cl MT pr sc (d + 2)) (rtE none (mk X) σ2) (45, [(0, .ref 5), (1, .int x1), (2, .int x2), (3, .int x3), (4, .null), (5, .int x5), (6, .int x6)], [], mk X, σ)
        refine Ex.blk 1000 rfl ?_
        show Ex mr_X7_bring sc (Cl MT pr sc (d + 2)) (rtE none (mk X) σ2) (55, [(0, .ref 5), (1, .int x1), (2, .int x2), (3, .int x3), (4, .null), (5, .int x5), (6, .int x6)], [.int x6], mk X, σ)
        exact lk_X7_bring_n_5_55 d _ ih _ _ _ _ _ _ _ h
      · refine And.intro (fun _ => ?_) (fun hn => absurd c2 hn)
        show Ex mr_X7_bring sc (Cl MT pr sc (d + 2)) (rtE none (mk X) σ2) (50, [(0, .ref 5), (1, .int x1), (2, .int x2), (3, .int x3), (4, .null), (5, .int x5), (6, .int x6)], [], mk X, σ)
        refine Ex.blk 1000 rfl ?_
        show Ex mr_X7_bring sc (Cl MT pr sc (d + 2)) (rtE none (mk X) σ2) (55, [(0, .ref 5), (1, .int x1), (2, .int x2), (3, .int x3), (4, .null), (5, .int x5), (6, .int x6)], [.int (x5 - x6)], mk X, σ)
        exact lk_X7_bring_n_5_55 d _ ih _ _ _ _ _ _ _ h
theorem lk_X7_bring_n_5_24 {pr : Ct} {sc : Nat × (Nat → Int32)} {X : En} (d : Nat) {σ2 : St} (x1 : Int32) (x2 : Int32) (x3 : Int32) (σ : St) (h : f_X7_bring_n_24 5 x1 x2 x3 σ = some σ2) : Ex mr_X7_bring sc (Cl MT pr sc (d + 2)) (rtE none (mk X) σ2) (24, [(0, .ref 5), (1, .int x1), (2, .int x2), (3, .int x3), (4, .null)], [], mk X, σ) := by
  unfold f_X7_bring_n_24 at h
  refine Ex.blk 3 rfl ?_
  obtain ⟨p1, hp1, h⟩ := bind_sp h
  refine Exists.intro (some (.int p1.1)) (Exists.intro (mk X) (Exists.intro p1.2 (And.intro (cl_X7_topRope_5 (d + 0) hp1) ?_)))
  show Ex mr_X7_bring sc (Cl MT pr sc (d + 2)) (rtE none (mk X) σ2) (29, [(0, .ref 5), (1, .int x1), (2, .int x2), (3, .int x3), (4, .null)], [.int p1.1], mk X, p1.2)
  refine Ex.blk 1000 rfl ?_
  show Ex mr_X7_bring sc (Cl MT pr sc (d + 2)) (rtE none (mk X) σ2) (34, [(6, .int 0), (5, .int p1.1), (0, .ref 5), (1, .int x1), (2, .int x2), (3, .int x3), (4, .null)], [], mk X, p1.2)
  refine Ex.pick (lv' := _) [2, 3, 4, 5, 6, 1, 0] rfl ?_
  exact lk_X7_bring_n_5_34 d FU _ _ _ _ _ _ h
theorem cl_X7_bring_n_5 {pr : Ct} {sc : Nat × (Nat → Int32)} {X : En} (d : Nat) {σ2 : St} {x1 : Int32} {x2 : Int32} {x3 : Int32} {σ : St} (h : f_X7_bring_n 5 x1 x2 x3 σ = some σ2) : Cl MT pr sc (d + 2 + 1) 37 [.ref 5, .int x1, .int x2, .int x3, .null] (mk X) σ none (mk X) σ2 := by
  refine cl_of mr_X7_bring rfl rfl ?_
  unfold f_X7_bring_n at h
  refine Ex.blk 5 rfl ?_
  show Ex mr_X7_bring sc (Cl MT pr sc (d + 2)) (rtE none (mk X) σ2) (9, [(0, .ref 5), (1, .int x1), (2, .int x2), (3, .int x3), (4, .null)], [.int (gI σ 5 0), .ref TN, .long x1.toInt64], mk X, σ)
  refine Ex.blk 1 rfl ?_
  obtain ⟨g1, h⟩ := gd_some h
  refine And.intro (inb_ok g1) ?_
  show Ex mr_X7_bring sc (Cl MT pr sc (d + 2)) (rtE none (mk X) σ2) (10, [(0, .ref 5), (1, .int x1), (2, .int x2), (3, .int x3), (4, .null)], [.long (tens (gI σ 5 0).toNatClampNeg), .long x1.toInt64], mk X, σ)
  refine Ex.blk 1000 rfl ?_
  rcases ite_sp h with ⟨c2, h⟩ | ⟨c2, h⟩
  · refine And.intro (fun _ => ?_) (fun hn => absurd c2 hn)
    show Ex mr_X7_bring sc (Cl MT pr sc (d + 2)) (rtE none (mk X) σ2) (24, [(0, .ref 5), (1, .int x1), (2, .int x2), (3, .int x3), (4, .null)], [], mk X, σ)
    exact lk_X7_bring_n_5_24 d _ _ _ _ h
  · refine And.intro (fun hp => absurd hp c2) (fun _ => ?_)
    show Ex mr_X7_bring sc (Cl MT pr sc (d + 2)) (rtE none (mk X) σ2) (14, [(0, .ref 5), (1, .int x1), (2, .int x2), (3, .int x3), (4, .null)], [], mk X, σ)
    refine Ex.blk 5 rfl ?_
    show Ex mr_X7_bring sc (Cl MT pr sc (d + 2)) (rtE none (mk X) σ2) (21, [(0, .ref 5), (1, .int x1), (2, .int x2), (3, .int x3), (4, .null)], [.int ((gI σ 5 10) + 1), .ref 5], mk X, σ)
    refine Ex.blk 1000 rfl ?_
    show Ex mr_X7_bring sc (Cl MT pr sc (d + 2)) (rtE none (mk X) σ2) (24, [(0, .ref 5), (1, .int x1), (2, .int x2), (3, .int x3), (4, .null)], [], mk X, (sI σ 5 10 ((gI σ 5 10) + 1)))
    exact lk_X7_bring_n_5_24 d _ _ _ _ h
theorem lk_X9_multiplyByBits_49 {pr : Ct} {sc : Nat × (Nat → Int32)} {X : En} (d : Nat) {r : Int32} {σ2 : St} (k11 : Int32 → Int32 → Int32 → Int32 → St → Option (Int32 × St)) (hk11 : ∀ (x1 : Int32) (x2 : Int32) (x3 : Int32) (x4 : Int32) (σ : St), k11 x1 x2 x3 x4 σ = some (r, σ2) → Ex mr_X9_multiplyByBits sc (Cl MT pr sc (d + 3)) (rtE (some (.int r)) (mk X) σ2) (11, [(0, .ref 0), (1, .int x1), (2, .int x2), (3, .int x3), (4, .int x4)], [], mk X, σ)) (x1 : Int32) (x2 : Int32) (x3 : Int32) (x4 : Int32) (σ : St) (h : f_X9_multiplyByBits_49 k11 x1 x2 x3 x4 σ = some (r, σ2)) : Ex mr_X9_multiplyByBits sc (Cl MT pr sc (d + 3)) (rtE (some (.int r)) (mk X) σ2) (49, [(0, .ref 0), (1, .int x1), (2, .int x2), (3, .int x3), (4, .int x4)], [], mk X, σ) := by
  unfold f_X9_multiplyByBits_49 at h
  refine Ex.blk 1000 rfl ?_
  show Ex mr_X9_multiplyByBits sc (Cl MT pr sc (d + 3)) (rtE (some (.int r)) (mk X) σ2) (11, [(4, .int (x4 + (-1))), (0, .ref 0), (1, .int x1), (2, .int x2), (3, .int x3)], [], mk X, σ)
  refine Ex.pick (lv' := _) [1, 2, 3, 4, 0] rfl ?_
  exact hk11 _ _ _ _ _ h
theorem lk_X9_multiplyByBits_11 {pr : Ct} {sc : Nat × (Nat → Int32)} {X : En} (d : Nat) {r : Int32} {σ2 : St} : ∀ (n : Nat) (x1 : Int32) (x2 : Int32) (x3 : Int32) (x4 : Int32) (σ : St), f_X9_multiplyByBits_11 n x1 x2 x3 x4 σ = some (r, σ2) → Ex mr_X9_multiplyByBits sc (Cl MT pr sc (d + 3)) (rtE (some (.int r)) (mk X) σ2) (11, [(0, .ref 0), (1, .int x1), (2, .int x2), (3, .int x3), (4, .int x4)], [], mk X, σ) := by
  intro n
  induction n with
  | zero =>
    intro x1 x2 x3 x4 σ h
    cases h
  | succ n ih =>
    intro x1 x2 x3 x4 σ h
    simp only [f_X9_multiplyByBits_11] at h
    refine Ex.blk 1000 rfl ?_
    rcases ite_sp h with ⟨c1, h⟩ | ⟨c1, h⟩
    · refine And.intro (fun _ => ?_) (fun hn => absurd c1 hn)
      show Ex mr_X9_multiplyByBits sc (Cl MT pr sc (d + 3)) (rtE (some (.int r)) (mk X) σ2) (55, [(0, .ref 0), (1, .int x1), (2, .int x2), (3, .int x3), (4, .int x4)], [], mk X, σ)
      refine Ex.blk 1000 rfl ?_
      cases h
      exact And.intro trivial ⟨rfl, rfl, rfl⟩
    · refine And.intro (fun hp => absurd hp c1) (fun _ => ?_)
      show Ex mr_X9_multiplyByBits sc (Cl MT pr sc (d + 3)) (rtE (some (.int r)) (mk X) σ2) (16, [(0, .ref 0), (1, .int x1), (2, .int x2), (3, .int x3), (4, .int x4)], [], mk X, σ)
      refine Ex.blk 3 rfl ?_
      obtain ⟨p2, hp2, h⟩ := bind_sp h
      refine Exists.intro none (Exists.intro (mk X) (Exists.intro p2 (And.intro (cl_X7_twice_5 (d + 0) hp2) ?_)))
      show Ex mr_X9_multiplyByBits sc (Cl MT pr sc (d + 3)) (rtE (some (.int r)) (mk X) σ2) (23, [(0, .ref 0), (1, .int x1), (2, .int x2), (3, .int x3), (4, .int x4)], [], mk X, p2)
      refine Ex.blk 4 rfl ?_
      obtain ⟨p3, hp3, h⟩ := bind_sp h
      refine Exists.intro (some (.int p3.1)) (Exists.intro (mk X) (Exists.intro p3.2 (And.intro (cl_X9_hasBit (d + 2) hp3) ?_)))
      show Ex mr_X9_multiplyByBits sc (Cl MT pr sc (d + 3)) (rtE (some (.int r)) (mk X) σ2) (32, [(3, .int (x3 + 1)), (0, .ref 0), (1, .int x1), (2, .int x2), (4, .int x4)], [.int p3.1], mk X, p3.2)
      refine Ex.blk 1000 rfl ?_
      rcases ite_sp h with ⟨c2, h⟩ | ⟨c2, h⟩
      · refine And.intro (fun _ => ?_) (fun hn => absurd c2 hn)
        show Ex mr_X9_multiplyByBits sc (Cl MT pr sc (d + 3)) (rtE (some (.int r)) (mk X) σ2) (49, [(3, .int (x3 + 1)), (0, .ref 0), (1, .int x1), (2, .int x2), (4, .int x4)], [], mk X, p3.2)
        refine Ex.pick (lv' := _) [1, 2, 3, 0, 4] rfl ?_
        exact lk_X9_multiplyByBits_49 d _ ih _ _ _ _ _ h
      · refine And.intro (fun hp => absurd hp c2) (fun _ => ?_)
        show Ex mr_X9_multiplyByBits sc (Cl MT pr sc (d + 3)) (rtE (some (.int r)) (mk X) σ2) (35, [(3, .int (x3 + 1)), (0, .ref 0), (1, .int x1), (2, .int x2), (4, .int x4)], [], mk X, p3.2)
        refine Ex.blk 5 rfl ?_
        show Ex mr_X9_multiplyByBits sc (Cl MT pr sc (d + 3)) (rtE (some (.int r)) (mk X) σ2) (42, [(3, .int (x3 + 1)), (0, .ref 0), (1, .int x1), (2, .int x2), (4, .int x4)], [.int 0, .int 0, .int x1, .ref 5], mk X, p3.2)
        refine Ex.blk 2 rfl ?_
        obtain ⟨p4, hp4, h⟩ := bind_sp h
        refine Exists.intro none (Exists.intro (mk X) (Exists.intro p4 (And.intro (cl_X7_bring_n_5 (d + 0) hp4) ?_)))
        show Ex mr_X9_multiplyByBits sc (Cl MT pr sc (d + 3)) (rtE (some (.int r)) (mk X) σ2) (46, [(3, .int (x3 + 1)), (0, .ref 0), (1, .int x1), (2, .int x2), (4, .int x4)], [], mk X, p4)
        refine Ex.blk 1000 rfl ?_
        show Ex mr_X9_multiplyByBits sc (Cl MT pr sc (d + 3)) (rtE (some (.int r)) (mk X) σ2) (49, [(3, .int ((x3 + 1) + 1)), (0, .ref 0), (1, .int x1), (2, .int x2), (4, .int x4)], [], mk X, p4)
        refine Ex.pick (lv' := _) [1, 2, 3, 0, 4] rfl ?_
        exact lk_X9_multiplyByBits_49 d _ ih _ _ _ _ _ h
theorem cl_X9_multiplyByBits {pr : Ct} {sc : Nat × (Nat → Int32)} {X : En} (d : Nat) {r : Int32} {σ2 : St} {x1 : Int32} {x2 : Int32} {σ : St} (h : f_X9_multiplyByBits x1 x2 σ = some (r, σ2)) : Cl MT pr sc (d + 3 + 1) 127 [.ref 0, .int x1, .int x2] (mk X) σ (some (.int r)) (mk X) σ2 := by
  refine cl_of mr_X9_multiplyByBits rfl rfl ?_
  unfold f_X9_multiplyByBits at h
  refine Ex.blk 5 rfl ?_
  obtain ⟨p1, hp1, h⟩ := bind_sp h
  refine Exists.intro (some (.int p1.1)) (Exists.intro (mk X) (Exists.intro p1.2 (And.intro (cl_J6_numberOfLeadingZeros_0f7a4 (d + 2) hp1) ?_)))
  show Ex mr_X9_multiplyByBits sc (Cl MT pr sc (d + 3)) (rtE (some (.int r)) (mk X) σ2) (8, [(3, .int 0), (0, .ref 0), (1, .int x1), (2, .int x2)], [.int p1.1, .int 31], mk X, p1.2)
  refine Ex.blk 1000 rfl ?_
  show Ex mr_X9_multiplyByBits sc (Cl MT pr sc (d + 3)) (rtE (some (.int r)) (mk X) σ2) (11, [(4, .int (31 - p1.1)), (3, .int 0), (0, .ref 0), (1, .int x1), (2, .int x2)], [], mk X, p1.2)
  refine Ex.pick (lv' := _) [2, 3, 4, 1, 0] rfl ?_
  exact lk_X9_multiplyByBits_11 d FU _ _ _ _ _ h
theorem lk_J7_fill_53178_6_12_5 {pr : Ct} {sc : Nat × (Nat → Int32)} {X : En} (d : Nat) {σ2 : St} : ∀ (n : Nat) (x1 : Int32) (x2 : Int32) (x3 : Int32) (σ : St), f_J7_fill_53178_5 6 12 n x1 x2 x3 σ = some σ2 → Ex mr_J7_fill_53178 sc (Cl MT pr sc (d + 0)) (rtE none (mk X) σ2) (5, [(0, .ref 6), (1, .int x1), (2, .int x2), (3, .int x3)], [], mk X, σ) := by
  intro n
  induction n with
  | zero =>
    intro x1 x2 x3 σ h
    cases h
  | succ n ih =>
    intro x1 x2 x3 σ h
    simp only [f_J7_fill_53178_5] at h
    refine Ex.blk 1000 rfl ?_
    rcases ite_sp h with ⟨c1, h⟩ | ⟨c1, h⟩
    · refine And.intro (fun _ => ?_) (fun hn => absurd c1 hn)
      show Ex mr_J7_fill_53178 sc (Cl MT pr sc (d + 0)) (rtE none (mk X) σ2) (20, [(0, .ref 6), (1, .int x1), (2, .int x2), (3, .int x3)], [], mk X, σ)
      refine Ex.blk 1000 rfl ?_
      cases h
      exact And.intro trivial ⟨rfl, rfl, rfl⟩
    · refine And.intro (fun hp => absurd hp c1) (fun _ => ?_)
      show Ex mr_J7_fill_53178 sc (Cl MT pr sc (d + 0)) (rtE none (mk X) σ2) (10, [(0, .ref 6), (1, .int x1), (2, .int x2), (3, .int x3)], [], mk X, σ)
      refine Ex.blk 4 rfl ?_
      obtain ⟨g2, h⟩ := gd_some h
      refine And.intro (inb_ok g2) ?_
      show Ex mr_J7_fill_53178 sc (Cl MT pr sc (d + 0)) (rtE none (mk X) σ2) (14, [(0, .ref 6), (1, .int x1), (2, .int x2), (3, .int x3)], [], mk X, (sI σ 6 x2.toNatClampNeg x1))
      refine Ex.blk 1000 rfl ?_
      show Ex mr_J7_fill_53178 sc (Cl MT pr sc (d + 0)) (rtE none (mk X) σ2) (5, [(2, .int (x2 + 1)), (0, .ref 6), (1, .int x1), (3, .int x3)], [], mk X, (sI σ 6 x2.toNatClampNeg x1))
      refine Ex.pick (lv' := _) [1, 2, 0, 3] rfl ?_
      exact ih _ _ _ _ h
theorem cl_J7_fill_53178_6_12 {pr : Ct} {sc : Nat × (Nat → Int32)} {X : En} (d : Nat) {σ2 : St} {x1 : Int32} {σ : St} (h : f_J7_fill_53178 6 12 x1 σ = some σ2) : Cl MT pr sc (d + 0 + 1) 62 [.ref 6, .int x1] (mk X) σ none (mk X) σ2 := by
  refine cl_of mr_J7_fill_53178 rfl rfl ?_
  unfold f_J7_fill_53178 at h
  refine Ex.blk 1000 rfl ?_
  show Ex mr_J7_fill_53178 sc (Cl MT pr sc (d + 0)) (rtE none (mk X) σ2) (5, [(3, .int (Int32.ofNat 12)), (2, .int 0), (0, .ref 6), (1, .int x1)], [], mk X, σ)
  refine Ex.pick (lv' := _) [2, 3, 1, 0] rfl ?_
  exact lk_J7_fill_53178_6_12_5 d FU _ _ _ _ h
theorem lk_J7_fill_53178_7_12_5 {pr : Ct} {sc : Nat × (Nat → Int32)} {X : En} (d : Nat) {σ2 : St} : ∀ (n : Nat) (x1 : Int32) (x2 : Int32) (x3 : Int32) (σ : St), f_J7_fill_53178_5 7 12 n x1 x2 x3 σ = some σ2 → Ex mr_J7_fill_53178 sc (Cl MT pr sc (d + 0)) (rtE none (mk X) σ2) (5, [(0, .ref 7), (1, .int x1), (2, .int x2), (3, .int x3)], [], mk X, σ) := by
  intro n
  induction n with
  | zero =>
    intro x1 x2 x3 σ h
    cases h
  | succ n ih =>
    intro x1 x2 x3 σ h
    simp only [f_J7_fill_53178_5] at h
    refine Ex.blk 1000 rfl ?_
    rcases ite_sp h with ⟨c1, h⟩ | ⟨c1, h⟩
    · refine And.intro (fun _ => ?_) (fun hn => absurd c1 hn)
      show Ex mr_J7_fill_53178 sc (Cl MT pr sc (d + 0)) (rtE none (mk X) σ2) (20, [(0, .ref 7), (1, .int x1), (2, .int x2), (3, .int x3)], [], mk X, σ)
      refine Ex.blk 1000 rfl ?_
      cases h
      exact And.intro trivial ⟨rfl, rfl, rfl⟩
    · refine And.intro (fun hp => absurd hp c1) (fun _ => ?_)
      show Ex mr_J7_fill_53178 sc (Cl MT pr sc (d + 0)) (rtE none (mk X) σ2) (10, [(0, .ref 7), (1, .int x1), (2, .int x2), (3, .int x3)], [], mk X, σ)
      refine Ex.blk 4 rfl ?_
      obtain ⟨g2, h⟩ := gd_some h
      refine And.intro (inb_ok g2) ?_
      show Ex mr_J7_fill_53178 sc (Cl MT pr sc (d + 0)) (rtE none (mk X) σ2) (14, [(0, .ref 7), (1, .int x1), (2, .int x2), (3, .int x3)], [], mk X, (sI σ 7 x2.toNatClampNeg x1))
      refine Ex.blk 1000 rfl ?_
      show Ex mr_J7_fill_53178 sc (Cl MT pr sc (d + 0)) (rtE none (mk X) σ2) (5, [(2, .int (x2 + 1)), (0, .ref 7), (1, .int x1), (3, .int x3)], [], mk X, (sI σ 7 x2.toNatClampNeg x1))
      refine Ex.pick (lv' := _) [1, 2, 0, 3] rfl ?_
      exact ih _ _ _ _ h
theorem cl_J7_fill_53178_7_12 {pr : Ct} {sc : Nat × (Nat → Int32)} {X : En} (d : Nat) {σ2 : St} {x1 : Int32} {σ : St} (h : f_J7_fill_53178 7 12 x1 σ = some σ2) : Cl MT pr sc (d + 0 + 1) 62 [.ref 7, .int x1] (mk X) σ none (mk X) σ2 := by
  refine cl_of mr_J7_fill_53178 rfl rfl ?_
  unfold f_J7_fill_53178 at h
  refine Ex.blk 1000 rfl ?_
  show Ex mr_J7_fill_53178 sc (Cl MT pr sc (d + 0)) (rtE none (mk X) σ2) (5, [(3, .int (Int32.ofNat 12)), (2, .int 0), (0, .ref 7), (1, .int x1)], [], mk X, σ)
  refine Ex.pick (lv' := _) [2, 3, 1, 0] rfl ?_
  exact lk_J7_fill_53178_7_12_5 d FU _ _ _ _ h
theorem lk_J7_fill_53178_8_12_5 {pr : Ct} {sc : Nat × (Nat → Int32)} {X : En} (d : Nat) {σ2 : St} : ∀ (n : Nat) (x1 : Int32) (x2 : Int32) (x3 : Int32) (σ : St), f_J7_fill_53178_5 8 12 n x1 x2 x3 σ = some σ2 → Ex mr_J7_fill_53178 sc (Cl MT pr sc (d + 0)) (rtE none (mk X) σ2) (5, [(0, .ref 8), (1, .int x1), (2, .int x2), (3, .int x3)], [], mk X, σ) := by
  intro n
  induction n with
  | zero =>
    intro x1 x2 x3 σ h
    cases h
  | succ n ih =>
    intro x1 x2 x3 σ h
    simp only [f_J7_fill_53178_5] at h
    refine Ex.blk 1000 rfl ?_
    rcases ite_sp h with ⟨c1, h⟩ | ⟨c1, h⟩
    · refine And.intro (fun _ => ?_) (fun hn => absurd c1 hn)
      show Ex mr_J7_fill_53178 sc (Cl MT pr sc (d + 0)) (rtE none (mk X) σ2) (20, [(0, .ref 8), (1, .int x1), (2, .int x2), (3, .int x3)], [], mk X, σ)
      refine Ex.blk 1000 rfl ?_
      cases h
      exact And.intro trivial ⟨rfl, rfl, rfl⟩
    · refine And.intro (fun hp => absurd hp c1) (fun _ => ?_)
      show Ex mr_J7_fill_53178 sc (Cl MT pr sc (d + 0)) (rtE none (mk X) σ2) (10, [(0, .ref 8), (1, .int x1), (2, .int x2), (3, .int x3)], [], mk X, σ)
      refine Ex.blk 4 rfl ?_
      obtain ⟨g2, h⟩ := gd_some h
      refine And.intro (inb_ok g2) ?_
      show Ex mr_J7_fill_53178 sc (Cl MT pr sc (d + 0)) (rtE none (mk X) σ2) (14, [(0, .ref 8), (1, .int x1), (2, .int x2), (3, .int x3)], [], mk X, (sI σ 8 x2.toNatClampNeg x1))
      refine Ex.blk 1000 rfl ?_
      show Ex mr_J7_fill_53178 sc (Cl MT pr sc (d + 0)) (rtE none (mk X) σ2) (5, [(2, .int (x2 + 1)), (0, .ref 8), (1, .int x1), (3, .int x3)], [], mk X, (sI σ 8 x2.toNatClampNeg x1))
      refine Ex.pick (lv' := _) [1, 2, 0, 3] rfl ?_
      exact ih _ _ _ _ h
theorem cl_J7_fill_53178_8_12 {pr : Ct} {sc : Nat × (Nat → Int32)} {X : En} (d : Nat) {σ2 : St} {x1 : Int32} {σ : St} (h : f_J7_fill_53178 8 12 x1 σ = some σ2) : Cl MT pr sc (d + 0 + 1) 62 [.ref 8, .int x1] (mk X) σ none (mk X) σ2 := by
  refine cl_of mr_J7_fill_53178 rfl rfl ?_
  unfold f_J7_fill_53178 at h
  refine Ex.blk 1000 rfl ?_
  show Ex mr_J7_fill_53178 sc (Cl MT pr sc (d + 0)) (rtE none (mk X) σ2) (5, [(3, .int (Int32.ofNat 12)), (2, .int 0), (0, .ref 8), (1, .int x1)], [], mk X, σ)
  refine Ex.pick (lv' := _) [2, 3, 1, 0] rfl ?_
  exact lk_J7_fill_53178_8_12_5 d FU _ _ _ _ h
theorem cl_X7_startCounts_5 {pr : Ct} {sc : Nat × (Nat → Int32)} {X : En} (d : Nat) {σ2 : St} {σ : St} (h : f_X7_startCounts 5 σ = some σ2) : Cl MT pr sc (d + 0 + 1) 64 [.ref 5] (mk X) σ none (mk X) σ2 := by
  refine cl_of mr_X7_startCounts rfl rfl ?_
  unfold f_X7_startCounts at h
  refine Ex.blk 5 rfl ?_
  show Ex mr_X7_startCounts sc (Cl MT pr sc (d + 0)) (rtE none (mk X) σ2) (7, [(0, .ref 5)], [.int 0, .ref 5], mk X, (sI σ 5 7 0))
  refine Ex.blk 5 rfl ?_
  show Ex mr_X7_startCounts sc (Cl MT pr sc (d + 0)) (rtE none (mk X) σ2) (16, [(0, .ref 5)], [.ref 5], mk X, (sI (sI (sI σ 5 7 0) 5 8 0) 5 9 0))
  refine Ex.blk 5 rfl ?_
  show Ex mr_X7_startCounts sc (Cl MT pr sc (d + 0)) (rtE none (mk X) σ2) (25, [(0, .ref 5)], [], mk X, (sI (sI (sI (sI (sI σ 5 7 0) 5 8 0) 5 9 0) 5 10 0) 5 11 0))
  refine Ex.blk 1000 rfl ?_
  cases h
  exact And.intro trivial ⟨rfl, rfl, rfl⟩
theorem cl_X7_clear_5 {pr : Ct} {sc : Nat × (Nat → Int32)} {X : En} (d : Nat) {σ2 : St} {x1 : Int32} {σ : St} (h : f_X7_clear 5 x1 σ = some σ2) : Cl MT pr sc (d + 1 + 1) 65 [.ref 5, .int x1] (mk X) σ none (mk X) σ2 := by
  refine cl_of mr_X7_clear rfl rfl ?_
  unfold f_X7_clear at h
  refine Ex.blk 5 rfl ?_
  show Ex mr_X7_clear sc (Cl MT pr sc (d + 1)) (rtE none (mk X) σ2) (9, [(0, .ref 5), (1, .int x1)], [.ref 6], mk X, (sI σ 5 0 x1))
  refine Ex.blk 2 rfl ?_
  obtain ⟨p1, hp1, h⟩ := bind_sp h
  refine Exists.intro none (Exists.intro (mk X) (Exists.intro p1 (And.intro (cl_J7_fill_53178_6_12 (d + 0) hp1) ?_)))
  show Ex mr_X7_clear sc (Cl MT pr sc (d + 1)) (rtE none (mk X) σ2) (13, [(0, .ref 5), (1, .int x1)], [], mk X, p1)
  refine Ex.blk 4 rfl ?_
  obtain ⟨p2, hp2, h⟩ := bind_sp h
  refine Exists.intro none (Exists.intro (mk X) (Exists.intro p2 (And.intro (cl_J7_fill_53178_7_12 (d + 0) hp2) ?_)))
  show Ex mr_X7_clear sc (Cl MT pr sc (d + 1)) (rtE none (mk X) σ2) (22, [(0, .ref 5), (1, .int x1)], [], mk X, p2)
  refine Ex.blk 4 rfl ?_
  obtain ⟨p3, hp3, h⟩ := bind_sp h
  refine Exists.intro none (Exists.intro (mk X) (Exists.intro p3 (And.intro (cl_J7_fill_53178_8_12 (d + 0) hp3) ?_)))
  show Ex mr_X7_clear sc (Cl MT pr sc (d + 1)) (rtE none (mk X) σ2) (30, [(0, .ref 5), (1, .int x1)], [], mk X, p3)
  refine Ex.blk 2 rfl ?_
  obtain ⟨p4, hp4, h⟩ := bind_sp h
  refine Exists.intro none (Exists.intro (mk X) (Exists.intro p4 (And.intro (cl_X7_startCounts_5 (d + 0) hp4) ?_)))
  show Ex mr_X7_clear sc (Cl MT pr sc (d + 1)) (rtE none (mk X) σ2) (34, [(0, .ref 5), (1, .int x1)], [], mk X, p4)
  refine Ex.blk 1000 rfl ?_
  cases h
  exact And.intro trivial ⟨rfl, rfl, rfl⟩
theorem lk_X9_multiply_100 {pr : Ct} {sc : Nat × (Nat → Int32)} {X : En} (d : Nat) {r : Int32} {σ2 : St} (k27 : Int32 → Int32 → Int32 → Int32 → Int32 → St → Option (Int32 × St)) (hk27 : ∀ (x1 : Int32) (x2 : Int32) (x3 : Int32) (x4 : Int32) (x5 : Int32) (σ : St), k27 x1 x2 x3 x4 x5 σ = some (r, σ2) → Ex mr_X9_multiply sc (Cl MT pr sc (d + 4)) (rtE (some (.int r)) (mk X) σ2) (27, [(0, .ref 0), (1, .int x1), (2, .int x2), (3, .int x3), (4, .int x4), (5, .int x5)], [], mk X, σ)) (x1 : Int32) (x2 : Int32) (x3 : Int32) (x4 : Int32) (x5 : Int32) (σ : St) (h : f_X9_multiply_100 k27 x1 x2 x3 x4 x5 σ = some (r, σ2)) : Ex mr_X9_multiply sc (Cl MT pr sc (d + 4)) (rtE (some (.int r)) (mk X) σ2) (100, [(0, .ref 0), (1, .int x1), (2, .int x2), (3, .int x3), (4, .int x4), (5, .int x5)], [], mk X, σ) := by
  unfold f_X9_multiply_100 at h
  refine Ex.blk 1000 rfl ?_
  show Ex mr_X9_multiply sc (Cl MT pr sc (d + 4)) (rtE (some (.int r)) (mk X) σ2) (27, [(5, .int (x5 + 1)), (0, .ref 0), (1, .int x1), (2, .int x2), (3, .int x3), (4, .int x4)], [], mk X, σ)
  refine Ex.pick (lv' := _) [1, 2, 3, 4, 5, 0] rfl ?_
  exact hk27 _ _ _ _ _ _ h
theorem lk_X9_multiply_60 {pr : Ct} {sc : Nat × (Nat → Int32)} {X : En} (d : Nat) {r : Int32} {σ2 : St} (k27 : Int32 → Int32 → Int32 → Int32 → Int32 → St → Option (Int32 × St)) (hk27 : ∀ (x1 : Int32) (x2 : Int32) (x3 : Int32) (x4 : Int32) (x5 : Int32) (σ : St), k27 x1 x2 x3 x4 x5 σ = some (r, σ2) → Ex mr_X9_multiply sc (Cl MT pr sc (d + 4)) (rtE (some (.int r)) (mk X) σ2) (27, [(0, .ref 0), (1, .int x1), (2, .int x2), (3, .int x3), (4, .int x4), (5, .int x5)], [], mk X, σ)) : ∀ (n : Nat) (x1 : Int32) (x2 : Int32) (x3 : Int32) (x4 : Int32) (x5 : Int32) (x6 : Int32) (x7 : Int32) (x8 : Int32) (σ : St), f_X9_multiply_60 k27 n x1 x2 x3 x4 x5 x6 x7 x8 σ = some (r, σ2) → Ex mr_X9_multiply sc (Cl MT pr sc (d + 4)) (rtE (some (.int r)) (mk X) σ2) (60, [(0, .ref 0), (1, .int x1), (2, .int x2), (3, .int x3), (4, .int x4), (5, .int x5), (6, .int x6), (7, .int x7), (8, .int x8)], [], mk X, σ) := by
  intro n
  induction n with
  | zero =>
    intro x1 x2 x3 x4 x5 x6 x7 x8 σ h
    cases h
  | succ n ih =>
    intro x1 x2 x3 x4 x5 x6 x7 x8 σ h
    simp only [f_X9_multiply_60] at h
    refine Ex.blk 1000 rfl ?_
    rcases ite_sp h with ⟨c1, h⟩ | ⟨c1, h⟩
    · refine And.intro (fun _ => ?_) (fun hn => absurd c1 hn)
      show Ex mr_X9_multiply sc (Cl MT pr sc (d + 4)) (rtE (some (.int r)) (mk X) σ2) (93, [(0, .ref 0), (1, .int x1), (2, .int x2), (3, .int x3), (4, .int x4), (5, .int x5), (6, .int x6), (7, .int x7), (8, .int x8)], [], mk X, σ)
      refine Ex.blk 4 rfl ?_
      show Ex mr_X9_multiply sc (Cl MT pr sc (d + 4)) (rtE (some (.int r)) (mk X) σ2) (100, [(4, .int (x4 + x7)), (0, .ref 0), (1, .int x1), (2, .int x2), (3, .int x3), (5, .int x5), (6, .int x6), (7, .int x7), (8, .int x8)], [], mk X, σ)
      refine Ex.pick (lv' := _) [1, 2, 3, 4, 0, 5] rfl ?_
      exact lk_X9_multiply_100 d _ hk27 _ _ _ _ _ _ h
    · refine And.intro (fun hp => absurd hp c1) (fun _ => ?_)
      show Ex mr_X9_multiply sc (Cl MT pr sc (d + 4)) (rtE (some (.int r)) (mk X) σ2) (67, [(0, .ref 0), (1, .int x1), (2, .int x2), (3, .int x3), (4, .int x4), (5, .int x5), (6, .int x6), (7, .int x7), (8, .int x8)], [], mk X, σ)
      refine Ex.blk 5 rfl ?_
      show Ex mr_X9_multiply sc (Cl MT pr sc (d + 4)) (rtE (some (.int r)) (mk X) σ2) (76, [(0, .ref 0), (1, .int x1), (2, .int x2), (3, .int x3), (4, .int x4), (5, .int x5), (6, .int x6), (7, .int x7), (8, .int x8)], [.ref TN, .long x1.toInt64, .ref 5], mk X, σ)
      refine Ex.blk 2 rfl ?_
      obtain ⟨g2, h⟩ := gd_some h
      refine And.intro (inb_ok g2) ?_
      show Ex mr_X9_multiply sc (Cl MT pr sc (d + 4)) (rtE (some (.int r)) (mk X) σ2) (79, [(0, .ref 0), (1, .int x1), (2, .int x2), (3, .int x3), (4, .int x4), (5, .int x5), (6, .int x6), (7, .int x7), (8, .int x8)], [.long (tens x6.toNatClampNeg), .long x1.toInt64, .ref 5], mk X, σ)
      refine Ex.blk 5 rfl ?_
      show Ex mr_X9_multiply sc (Cl MT pr sc (d + 4)) (rtE (some (.int r)) (mk X) σ2) (84, [(0, .ref 0), (1, .int x1), (2, .int x2), (3, .int x3), (4, .int x4), (5, .int x5), (6, .int x6), (7, .int x7), (8, .int x8)], [.null, .int 0, .int 0, .int (x1.toInt64 * (tens x6.toNatClampNeg)).toInt32, .ref 5], mk X, σ)
      refine Ex.blk 1 rfl ?_
      obtain ⟨p3, hp3, h⟩ := bind_sp h
      refine Exists.intro none (Exists.intro (mk X) (Exists.intro p3 (And.intro (cl_X7_bring_n_5 (d + 1) hp3) ?_)))
      show Ex mr_X9_multiply sc (Cl MT pr sc (d + 4)) (rtE (some (.int r)) (mk X) σ2) (87, [(0, .ref 0), (1, .int x1), (2, .int x2), (3, .int x3), (4, .int x4), (5, .int x5), (6, .int x6), (7, .int x7), (8, .int x8)], [], mk X, p3)
      refine Ex.blk 1000 rfl ?_
      show Ex mr_X9_multiply sc (Cl MT pr sc (d + 4)) (rtE (some (.int r)) (mk X) σ2) (60, [(8, .int (x8 + 1)), (0, .ref 0), (1, .int x1), (2, .int x2), (3, .int x3), (4, .int x4), (5, .int x5), (6, .int x6), (7, .int x7)], [], mk X, p3)
      refine Ex.pick (lv' := _) [1, 2, 3, 4, 5, 6, 7, 8, 0] rfl ?_
      exact ih _ _ _ _ _ _ _ _ _ h
theorem lk_X9_multiply_46 {pr : Ct} {sc : Nat × (Nat → Int32)} {X : En} (d : Nat) {r : Int32} {σ2 : St} (k27 : Int32 → Int32 → Int32 → Int32 → Int32 → St → Option (Int32 × St)) (hk27 : ∀ (x1 : Int32) (x2 : Int32) (x3 : Int32) (x4 : Int32) (x5 : Int32) (σ : St), k27 x1 x2 x3 x4 x5 σ = some (r, σ2) → Ex mr_X9_multiply sc (Cl MT pr sc (d + 4)) (rtE (some (.int r)) (mk X) σ2) (27, [(0, .ref 0), (1, .int x1), (2, .int x2), (3, .int x3), (4, .int x4), (5, .int x5)], [], mk X, σ)) (x1 : Int32) (x2 : Int32) (x3 : Int32) (x4 : Int32) (x5 : Int32) (y0 : Int32) (σ : St) (h : f_X9_multiply_46 k27 x1 x2 x3 x4 x5 y0 σ = some (r, σ2)) : Ex mr_X9_multiply sc (Cl MT pr sc (d + 4)) (rtE (some (.int r)) (mk X) σ2) (46, [(0, .ref 0), (1, .int x1), (2, .int x2), (3, .int x3), (4, .int x4), (5, .int x5)], [.int y0], mk X, σ) := by
  unfold f_X9_multiply_46 at h
  refine Ex.blk 5 rfl ?_
  obtain ⟨p2, hp2, h⟩ := bind_sp h
  refine Exists.intro (some (.int p2.1)) (Exists.intro (mk X) (Exists.intro p2.2 (And.intro (cl_X9_digitOf (d + 3) hp2) ?_)))
  show Ex mr_X9_multiply sc (Cl MT pr sc (d + 4)) (rtE (some (.int r)) (mk X) σ2) (55, [(6, .int y0), (0, .ref 0), (1, .int x1), (2, .int x2), (3, .int x3), (4, .int x4), (5, .int x5)], [.int p2.1], mk X, p2.2)
  refine Ex.blk 1000 rfl ?_
  show Ex mr_X9_multiply sc (Cl MT pr sc (d + 4)) (rtE (some (.int r)) (mk X) σ2) (60, [(8, .int 0), (7, .int p2.1), (6, .int y0), (0, .ref 0), (1, .int x1), (2, .int x2), (3, .int x3), (4, .int x4), (5, .int x5)], [], mk X, p2.2)
  refine Ex.pick (lv' := _) [3, 4, 5, 6, 7, 8, 2, 1, 0] rfl ?_
  exact lk_X9_multiply_60 d _ hk27 FU _ _ _ _ _ _ _ _ _ h
theorem lk_X9_multiply_27 {pr : Ct} {sc : Nat × (Nat → Int32)} {X : En} (d : Nat) {r : Int32} {σ2 : St} : ∀ (n : Nat) (x1 : Int32) (x2 : Int32) (x3 : Int32) (x4 : Int32) (x5 : Int32) (σ : St), f_X9_multiply_27 n x1 x2 x3 x4 x5 σ = some (r, σ2) → Ex mr_X9_multiply sc (Cl MT pr sc (d + 4)) (rtE (some (.int r)) (mk X) σ2) (27, [(0, .ref 0), (1, .int x1), (2, .int x2), (3, .int x3), (4, .int x4), (5, .int x5)], [], mk X, σ) := by
  intro n
  induction n with
  | zero =>
    intro x1 x2 x3 x4 x5 σ h
    cases h
  | succ n ih =>
    intro x1 x2 x3 x4 x5 σ h
    simp only [f_X9_multiply_27] at h
    refine Ex.blk 1000 rfl ?_
    rcases ite_sp h with ⟨c1, h⟩ | ⟨c1, h⟩
    · refine And.intro (fun _ => ?_) (fun hn => absurd c1 hn)
      show Ex mr_X9_multiply sc (Cl MT pr sc (d + 4)) (rtE (some (.int r)) (mk X) σ2) (106, [(0, .ref 0), (1, .int x1), (2, .int x2), (3, .int x3), (4, .int x4), (5, .int x5)], [], mk X, σ)
      refine Ex.blk 1000 rfl ?_
      cases h
      exact And.intro trivial ⟨rfl, rfl, rfl⟩
    · refine And.intro (fun hp => absurd hp c1) (fun _ => ?_)
      show Ex mr_X9_multiply sc (Cl MT pr sc (d + 4)) (rtE (some (.int r)) (mk X) σ2) (33, [(0, .ref 0), (1, .int x1), (2, .int x2), (3, .int x3), (4, .int x4), (5, .int x5)], [], mk X, σ)
      refine Ex.blk 1000 rfl ?_
      rcases ite_sp h with ⟨c2, h⟩ | ⟨c2, h⟩
      · refine And.intro (fun hp => absurd c2 hp) (fun _ => ?_)
        show Ex mr_X9_multiply sc (Cl MT pr sc (d + 4)) (rtE (some (.int r)) (mk X) σ2) (37, [(0, .ref 0), (1, .int x1), (2, .int x2), (3, .int x3), (4, .int x4), (5, .int x5)], [], mk X, σ)
        refine Ex.blk 1000 rfl ?_
        show Ex mr_X9_multiply sc (Cl MT pr sc (d + 4)) (rtE (some (.int r)) (mk X) σ2) (46, [(0, .ref 0), (1, .int x1), (2, .int x2), (3, .int x3), (4, .int x4), (5, .int x5)], [.int x5], mk X, σ)
        exact lk_X9_multiply_46 d _ ih _ _ _ _ _ _ _ h
      · refine And.intro (fun _ => ?_) (fun hn => absurd c2 hn)
        show Ex mr_X9_multiply sc (Cl MT pr sc (d + 4)) (rtE (some (.int r)) (mk X) σ2) (42, [(0, .ref 0), (1, .int x1), (2, .int x2), (3, .int x3), (4, .int x4), (5, .int x5)], [], mk X, σ)
        refine Ex.blk 1000 rfl ?_
        show Ex mr_X9_multiply sc (Cl MT pr sc (d + 4)) (rtE (some (.int r)) (mk X) σ2) (46, [(0, .ref 0), (1, .int x1), (2, .int x2), (3, .int x3), (4, .int x4), (5, .int x5)], [.int (3 - x5)], mk X, σ)
        exact lk_X9_multiply_46 d _ ih _ _ _ _ _ _ _ h
theorem cl_X9_multiply {pr : Ct} {sc : Nat × (Nat → Int32)} {X : En} (d : Nat) {r : Int32} {σ2 : St} {x1 : Int32} {x2 : Int32} {x3 : Int32} {σ : St} (h : f_X9_multiply x1 x2 x3 σ = some (r, σ2)) : Cl MT pr sc (d + 4 + 1) 128 [.ref 0, .int x1, .int x2, .int x3] (mk X) σ (some (.int r)) (mk X) σ2 := by
  refine cl_of mr_X9_multiply rfl rfl ?_
  unfold f_X9_multiply at h
  refine Ex.blk 4 rfl ?_
  obtain ⟨p1, hp1, h⟩ := bind_sp h
  refine Exists.intro none (Exists.intro (mk X) (Exists.intro p1 (And.intro (cl_X7_clear_5 (d + 2) hp1) ?_)))
  show Ex mr_X9_multiply sc (Cl MT pr sc (d + 4)) (rtE (some (.int r)) (mk X) σ2) (9, [(0, .ref 0), (1, .int x1), (2, .int x2), (3, .int x3)], [], mk X, p1)
  refine Ex.blk 1000 rfl ?_
  rcases ite_sp h with ⟨c1, h⟩ | ⟨c1, h⟩
  · refine And.intro (fun hp => absurd c1 hp) (fun _ => ?_)
    show Ex mr_X9_multiply sc (Cl MT pr sc (d + 4)) (rtE (some (.int r)) (mk X) σ2) (14, [(0, .ref 0), (1, .int x1), (2, .int x2), (3, .int x3)], [], mk X, p1)
    refine Ex.blk 4 rfl ?_
    obtain ⟨p4, hp4, h⟩ := bind_sp h
    refine Exists.intro (some (.int p4.1)) (Exists.intro (mk X) (Exists.intro p4.2 (And.intro (cl_X9_multiplyByBits (d + 0) hp4) ?_)))
    show Ex mr_X9_multiply sc (Cl MT pr sc (d + 4)) (rtE (some (.int r)) (mk X) σ2) (20, [(0, .ref 0), (1, .int x1), (2, .int x2), (3, .int x3)], [.int p4.1], mk X, p4.2)
    refine Ex.blk 1000 rfl ?_
    cases h
    exact And.intro trivial ⟨rfl, rfl, rfl⟩
  · refine And.intro (fun _ => ?_) (fun hn => absurd c1 hn)
    show Ex mr_X9_multiply sc (Cl MT pr sc (d + 4)) (rtE (some (.int r)) (mk X) σ2) (21, [(0, .ref 0), (1, .int x1), (2, .int x2), (3, .int x3)], [], mk X, p1)
    refine Ex.blk 1000 rfl ?_
    show Ex mr_X9_multiply sc (Cl MT pr sc (d + 4)) (rtE (some (.int r)) (mk X) σ2) (27, [(5, .int 0), (4, .int 0), (0, .ref 0), (1, .int x1), (2, .int x2), (3, .int x3)], [], mk X, p1)
    refine Ex.pick (lv' := _) [2, 3, 4, 5, 1, 0] rfl ?_
    exact lk_X9_multiply_27 d FU _ _ _ _ _ _ h
theorem lk_X7_value_5_28 {pr : Ct} {sc : Nat × (Nat → Int32)} {X : En} (d : Nat) {r : Int64} {σ2 : St} (k4 : Int64 → Int32 → St → Option (Int64 × St)) (hk4 : ∀ (x1 : Int64) (x3 : Int32) (σ : St), k4 x1 x3 σ = some (r, σ2) → Ex mr_X7_value sc (Cl MT pr sc (d + 0)) (rtE (some (.long r)) (mk X) σ2) (4, [(0, .ref 5), (1, .long x1), (3, .int x3)], [], mk X, σ)) (x1 : Int64) (x3 : Int32) (σ : St) (h : f_X7_value_28 5 k4 x1 x3 σ = some (r, σ2)) : Ex mr_X7_value sc (Cl MT pr sc (d + 0)) (rtE (some (.long r)) (mk X) σ2) (28, [(0, .ref 5), (1, .long x1), (3, .int x3)], [], mk X, σ) := by
  unfold f_X7_value_28 at h
  refine Ex.blk 1000 rfl ?_
  show Ex mr_X7_value sc (Cl MT pr sc (d + 0)) (rtE (some (.long r)) (mk X) σ2) (4, [(3, .int (x3 + 1)), (0, .ref 5), (1, .long x1)], [], mk X, σ)
  refine Ex.pick (lv' := _) [1, 2, 0] rfl ?_
  exact hk4 _ _ _ h
theorem lk_X7_value_5_4 {pr : Ct} {sc : Nat × (Nat → Int32)} {X : En} (d : Nat) {r : Int64} {σ2 : St} : ∀ (n : Nat) (x1 : Int64) (x3 : Int32) (σ : St), f_X7_value_4 5 n x1 x3 σ = some (r, σ2) → Ex mr_X7_value sc (Cl MT pr sc (d + 0)) (rtE (some (.long r)) (mk X) σ2) (4, [(0, .ref 5), (1, .long x1), (3, .int x3)], [], mk X, σ) := by
  intro n
  induction n with
  | zero =>
    intro x1 x3 σ h
    cases h
  | succ n ih =>
    intro x1 x3 σ h
    simp only [f_X7_value_4] at h
    refine Ex.blk 1000 rfl ?_
    rcases ite_sp h with ⟨c1, h⟩ | ⟨c1, h⟩
    · refine And.intro (fun _ => ?_) (fun hn => absurd c1 hn)
      show Ex mr_X7_value sc (Cl MT pr sc (d + 0)) (rtE (some (.long r)) (mk X) σ2) (34, [(0, .ref 5), (1, .long x1), (3, .int x3)], [], mk X, σ)
      refine Ex.blk 1000 rfl ?_
      cases h
      exact And.intro trivial ⟨rfl, rfl, rfl⟩
    · refine And.intro (fun hp => absurd hp c1) (fun _ => ?_)
      show Ex mr_X7_value sc (Cl MT pr sc (d + 0)) (rtE (some (.long r)) (mk X) σ2) (12, [(0, .ref 5), (1, .long x1), (3, .int x3)], [], mk X, σ)
      refine Ex.blk 5 rfl ?_
      obtain ⟨g2, h⟩ := gd_some h
      refine And.intro (inb_ok g2) ?_
      show Ex mr_X7_value sc (Cl MT pr sc (d + 0)) (rtE (some (.long r)) (mk X) σ2) (19, [(0, .ref 5), (1, .long x1), (3, .int x3)], [.int (gI σ 6 x3.toNatClampNeg), .long x1], mk X, σ)
      refine Ex.blk 4 rfl ?_
      obtain ⟨g3, h⟩ := gd_some h
      refine And.intro (inb_ok g3) ?_
      show Ex mr_X7_value sc (Cl MT pr sc (d + 0)) (rtE (some (.long r)) (mk X) σ2) (25, [(0, .ref 5), (1, .long x1), (3, .int x3)], [.long (tens x3.toNatClampNeg), .long (gI σ 6 x3.toNatClampNeg).toInt64, .long x1], mk X, σ)
      refine Ex.blk 3 rfl ?_
      show Ex mr_X7_value sc (Cl MT pr sc (d + 0)) (rtE (some (.long r)) (mk X) σ2) (28, [(1, .long (x1 + (((gI σ 6 x3.toNatClampNeg).toInt64) * (tens x3.toNatClampNeg)))), (0, .ref 5), (3, .int x3)], [], mk X, σ)
      refine Ex.pick (lv' := _) [1, 0, 2] rfl ?_
      exact lk_X7_value_5_28 d _ ih _ _ _ h
theorem cl_X7_value_5 {pr : Ct} {sc : Nat × (Nat → Int32)} {X : En} (d : Nat) {r : Int64} {σ2 : St} {σ : St} (h : f_X7_value 5 σ = some (r, σ2)) : Cl MT pr sc (d + 0 + 1) 24 [.ref 5] (mk X) σ (some (.long r)) (mk X) σ2 := by
  refine cl_of mr_X7_value rfl rfl ?_
  unfold f_X7_value at h
  refine Ex.blk 1000 rfl ?_
  show Ex mr_X7_value sc (Cl MT pr sc (d + 0)) (rtE (some (.long r)) (mk X) σ2) (4, [(3, .int 0), (1, .long 0), (0, .ref 5)], [], mk X, σ)
  refine Ex.pick (lv' := _) [2, 1, 0] rfl ?_
  exact lk_X7_value_5_4 d FU _ _ _ h
theorem lk_X9_product_34 {pr : Ct} {sc : Nat × (Nat → Int32)} {X : En} (d : Nat) {r : Int64} {σ2 : St} (σ : St) (h : f_X9_product_34 σ = some (r, σ2)) : Ex mr_X9_product sc (Cl MT pr sc (d + 5)) (rtE (some (.long r)) (mk X) σ2) (34, [], [], mk X, σ) := by
  unfold f_X9_product_34 at h
  refine Ex.blk 1000 rfl ?_
  cases h
  exact And.intro trivial ⟨rfl, rfl, rfl⟩
theorem lk_X9_product_82 {pr : Ct} {sc : Nat × (Nat → Int32)} {X : En} (d : Nat) {r : Int64} {σ2 : St} (y0 : Int64) (σ : St) (h : f_X9_product_82 y0 σ = some (r, σ2)) : Ex mr_X9_product sc (Cl MT pr sc (d + 5)) (rtE (some (.long r)) (mk X) σ2) (82, [], [.long y0], mk X, σ) := by
  unfold f_X9_product_82 at h
  refine Ex.blk 1000 rfl ?_
  cases h
  exact And.intro trivial ⟨rfl, rfl, rfl⟩
theorem cl_X9_product {pr : Ct} {sc : Nat × (Nat → Int32)} {X : En} (d : Nat) {r : Int64} {σ2 : St} {x1 : Int32} {x2 : Int32} {x3 : Int32} {x4 : Int32} {σ : St} (h : f_X9_product x1 x2 x3 x4 σ = some (r, σ2)) : Cl MT pr sc (d + 5 + 1) 129 [.ref 0, .int x1, .int x2, .int x3, .int x4] (mk X) σ (some (.long r)) (mk X) σ2 := by
  refine cl_of mr_X9_product rfl rfl ?_
  unfold f_X9_product at h
  refine Ex.blk 2 rfl ?_
  obtain ⟨p1, hp1, h⟩ := bind_sp h
  refine Exists.intro (some (.int p1.1)) (Exists.intro (mk X) (Exists.intro p1.2 (And.intro (cl_X9_isFactor (d + 4) hp1) ?_)))
  show Ex mr_X9_product sc (Cl MT pr sc (d + 5)) (rtE (some (.long r)) (mk X) σ2) (4, [(0, .ref 0), (1, .int x1), (2, .int x2), (3, .int x3), (4, .int x4)], [.int p1.1], mk X, p1.2)
  refine Ex.blk 1000 rfl ?_
  rcases ite_sp h with ⟨c1, h⟩ | ⟨c1, h⟩
  · refine And.intro (fun _ => ?_) (fun hn => absurd c1 hn)
    show Ex mr_X9_product sc (Cl MT pr sc (d + 5)) (rtE (some (.long r)) (mk X) σ2) (34, [(0, .ref 0), (1, .int x1), (2, .int x2), (3, .int x3), (4, .int x4)], [], mk X, p1.2)
    refine Ex.pick (lv' := _) [] rfl ?_
    exact lk_X9_product_34 d _ h
  · refine And.intro (fun hp => absurd hp c1) (fun _ => ?_)
    show Ex mr_X9_product sc (Cl MT pr sc (d + 5)) (rtE (some (.long r)) (mk X) σ2) (7, [(0, .ref 0), (1, .int x1), (2, .int x2), (3, .int x3), (4, .int x4)], [], mk X, p1.2)
    refine Ex.blk 2 rfl ?_
    obtain ⟨p2, hp2, h⟩ := bind_sp h
    refine Exists.intro (some (.int p2.1)) (Exists.intro (mk X) (Exists.intro p2.2 (And.intro (cl_X9_isFactor (d + 4) hp2) ?_)))
    show Ex mr_X9_product sc (Cl MT pr sc (d + 5)) (rtE (some (.long r)) (mk X) σ2) (11, [(0, .ref 0), (1, .int x1), (2, .int x2), (3, .int x3), (4, .int x4)], [.int p2.1], mk X, p2.2)
    refine Ex.blk 1000 rfl ?_
    rcases ite_sp h with ⟨c2, h⟩ | ⟨c2, h⟩
    · refine And.intro (fun _ => ?_) (fun hn => absurd c2 hn)
      show Ex mr_X9_product sc (Cl MT pr sc (d + 5)) (rtE (some (.long r)) (mk X) σ2) (34, [(0, .ref 0), (1, .int x1), (2, .int x2), (3, .int x3), (4, .int x4)], [], mk X, p2.2)
      refine Ex.pick (lv' := _) [] rfl ?_
      exact lk_X9_product_34 d _ h
    · refine And.intro (fun hp => absurd hp c2) (fun _ => ?_)
      show Ex mr_X9_product sc (Cl MT pr sc (d + 5)) (rtE (some (.long r)) (mk X) σ2) (14, [(0, .ref 0), (1, .int x1), (2, .int x2), (3, .int x3), (4, .int x4)], [], mk X, p2.2)
      refine Ex.blk 1000 rfl ?_
      rcases ite_sp h with ⟨c3, h⟩ | ⟨c3, h⟩
      · refine And.intro (fun _ => ?_) (fun hn => absurd c3 hn)
        show Ex mr_X9_product sc (Cl MT pr sc (d + 5)) (rtE (some (.long r)) (mk X) σ2) (34, [(0, .ref 0), (1, .int x1), (2, .int x2), (3, .int x3), (4, .int x4)], [], mk X, p2.2)
        refine Ex.pick (lv' := _) [] rfl ?_
        exact lk_X9_product_34 d _ h
      · refine And.intro (fun hp => absurd hp c3) (fun _ => ?_)
        show Ex mr_X9_product sc (Cl MT pr sc (d + 5)) (rtE (some (.long r)) (mk X) σ2) (18, [(0, .ref 0), (1, .int x1), (2, .int x2), (3, .int x3), (4, .int x4)], [], mk X, p2.2)
        refine Ex.blk 1000 rfl ?_
        rcases ite_sp h with ⟨c4, h⟩ | ⟨c4, h⟩
        · refine And.intro (fun _ => ?_) (fun hn => absurd c4 hn)
          show Ex mr_X9_product sc (Cl MT pr sc (d + 5)) (rtE (some (.long r)) (mk X) σ2) (34, [(0, .ref 0), (1, .int x1), (2, .int x2), (3, .int x3), (4, .int x4)], [], mk X, p2.2)
          refine Ex.pick (lv' := _) [] rfl ?_
          exact lk_X9_product_34 d _ h
        · refine And.intro (fun hp => absurd hp c4) (fun _ => ?_)
          show Ex mr_X9_product sc (Cl MT pr sc (d + 5)) (rtE (some (.long r)) (mk X) σ2) (23, [(0, .ref 0), (1, .int x1), (2, .int x2), (3, .int x3), (4, .int x4)], [], mk X, p2.2)
          refine Ex.blk 1000 rfl ?_
          rcases ite_sp h with ⟨c5, h⟩ | ⟨c5, h⟩
          · refine And.intro (fun _ => ?_) (fun hn => absurd c5 hn)
            show Ex mr_X9_product sc (Cl MT pr sc (d + 5)) (rtE (some (.long r)) (mk X) σ2) (34, [(0, .ref 0), (1, .int x1), (2, .int x2), (3, .int x3), (4, .int x4)], [], mk X, p2.2)
            refine Ex.pick (lv' := _) [] rfl ?_
            exact lk_X9_product_34 d _ h
          · refine And.intro (fun hp => absurd hp c5) (fun _ => ?_)
            show Ex mr_X9_product sc (Cl MT pr sc (d + 5)) (rtE (some (.long r)) (mk X) σ2) (28, [(0, .ref 0), (1, .int x1), (2, .int x2), (3, .int x3), (4, .int x4)], [], mk X, p2.2)
            refine Ex.blk 1000 rfl ?_
            rcases ite_sp h with ⟨c6, h⟩ | ⟨c6, h⟩
            · refine And.intro (fun _ => ?_) (fun hn => absurd c6 hn)
              show Ex mr_X9_product sc (Cl MT pr sc (d + 5)) (rtE (some (.long r)) (mk X) σ2) (38, [(0, .ref 0), (1, .int x1), (2, .int x2), (3, .int x3), (4, .int x4)], [], mk X, p2.2)
              refine Ex.blk 5 rfl ?_
              obtain ⟨p3, hp3, h⟩ := bind_sp h
              refine Exists.intro (some (.int p3.1)) (Exists.intro (mk X) (Exists.intro p3.2 (And.intro (cl_X9_multiply (d + 0) hp3) ?_)))
              show Ex mr_X9_product sc (Cl MT pr sc (d + 5)) (rtE (some (.long r)) (mk X) σ2) (45, [(0, .ref 0), (1, .int x1), (2, .int x2), (3, .int x3), (4, .int x4)], [.int p3.1], mk X, p3.2)
              refine Ex.blk 1000 rfl ?_
              rcases ite_sp h with ⟨c7, h⟩ | ⟨c7, h⟩
              · refine And.intro (fun hp => absurd c7 hp) (fun _ => ?_)
                show Ex mr_X9_product sc (Cl MT pr sc (d + 5)) (rtE (some (.long r)) (mk X) σ2) (52, [(5, .int p3.1), (0, .ref 0), (1, .int x1), (2, .int x2), (3, .int x3), (4, .int x4)], [], mk X, p3.2)
                refine Ex.blk 1000 rfl ?_
                show Ex mr_X9_product sc (Cl MT pr sc (d + 5)) (rtE (some (.long r)) (mk X) σ2) (82, [(5, .int p3.1), (0, .ref 0), (1, .int x1), (2, .int x2), (3, .int x3), (4, .int x4)], [.long (gI p3.2 5 7).toInt64], mk X, p3.2)
                refine Ex.pick (lv' := _) [] rfl ?_
                exact lk_X9_product_82 d _ _ h
              · refine And.intro (fun _ => ?_) (fun hn => absurd c7 hn)
                show Ex mr_X9_product sc (Cl MT pr sc (d + 5)) (rtE (some (.long r)) (mk X) σ2) (63, [(5, .int p3.1), (0, .ref 0), (1, .int x1), (2, .int x2), (3, .int x3), (4, .int x4)], [], mk X, p3.2)
                refine Ex.blk 1000 rfl ?_
                rcases ite_sp h with ⟨c8, h⟩ | ⟨c8, h⟩
                · refine And.intro (fun hp => absurd c8 hp) (fun _ => ?_)
                  show Ex mr_X9_product sc (Cl MT pr sc (d + 5)) (rtE (some (.long r)) (mk X) σ2) (69, [(5, .int p3.1), (0, .ref 0), (1, .int x1), (2, .int x2), (3, .int x3), (4, .int x4)], [], mk X, p3.2)
                  refine Ex.blk 1000 rfl ?_
                  show Ex mr_X9_product sc (Cl MT pr sc (d + 5)) (rtE (some (.long r)) (mk X) σ2) (82, [(5, .int p3.1), (0, .ref 0), (1, .int x1), (2, .int x2), (3, .int x3), (4, .int x4)], [.long p3.1.toInt64], mk X, p3.2)
                  refine Ex.pick (lv' := _) [] rfl ?_
                  exact lk_X9_product_82 d _ _ h
                · refine And.intro (fun _ => ?_) (fun hn => absurd c8 hn)
                  show Ex mr_X9_product sc (Cl MT pr sc (d + 5)) (rtE (some (.long r)) (mk X) σ2) (75, [(5, .int p3.1), (0, .ref 0), (1, .int x1), (2, .int x2), (3, .int x3), (4, .int x4)], [], mk X, p3.2)
                  refine Ex.blk 3 rfl ?_
                  obtain ⟨p4, hp4, h⟩ := bind_sp h
                  refine Exists.intro (some (.long p4.1)) (Exists.intro (mk X) (Exists.intro p4.2 (And.intro (cl_X7_value_5 (d + 4) hp4) ?_)))
                  show Ex mr_X9_product sc (Cl MT pr sc (d + 5)) (rtE (some (.long r)) (mk X) σ2) (82, [(5, .int p3.1), (0, .ref 0), (1, .int x1), (2, .int x2), (3, .int x3), (4, .int x4)], [.long p4.1], mk X, p4.2)
                  refine Ex.pick (lv' := _) [] rfl ?_
                  exact lk_X9_product_82 d _ _ h
            · refine And.intro (fun hp => absurd hp c6) (fun _ => ?_)
              show Ex mr_X9_product sc (Cl MT pr sc (d + 5)) (rtE (some (.long r)) (mk X) σ2) (34, [(0, .ref 0), (1, .int x1), (2, .int x2), (3, .int x3), (4, .int x4)], [], mk X, p2.2)
              refine Ex.pick (lv' := _) [] rfl ?_
              exact lk_X9_product_34 d _ h
theorem lk_X9_rival_14 {pr : Ct} {sc : Nat × (Nat → Int32)} {X : En} (d : Nat) {r : Int32} {σ2 : St} (σ : St) (h : f_X9_rival_14 σ = some (r, σ2)) : Ex mr_X9_rival sc (Cl MT pr sc (d + 5)) (rtE (some (.int r)) (mk X) σ2) (14, [], [], mk X, σ) := by
  unfold f_X9_rival_14 at h
  refine Ex.blk 1000 rfl ?_
  cases h
  exact And.intro trivial ⟨rfl, rfl, rfl⟩
theorem lk_X9_rival_65 {pr : Ct} {sc : Nat × (Nat → Int32)} {X : En} (d : Nat) {r : Int32} {σ2 : St} (k26 : Int32 → Int32 → Int32 → Int32 → Int32 → St → Option (Int32 × St)) (hk26 : ∀ (x1 : Int32) (x2 : Int32) (x3 : Int32) (x4 : Int32) (x5 : Int32) (σ : St), k26 x1 x2 x3 x4 x5 σ = some (r, σ2) → Ex mr_X9_rival sc (Cl MT pr sc (d + 5)) (rtE (some (.int r)) (mk X) σ2) (26, [(0, .ref 0), (1, .int x1), (2, .int x2), (3, .int x3), (4, .int x4), (5, .int x5)], [], mk X, σ)) (x1 : Int32) (x2 : Int32) (x3 : Int32) (x4 : Int32) (x5 : Int32) (σ : St) (h : f_X9_rival_65 k26 x1 x2 x3 x4 x5 σ = some (r, σ2)) : Ex mr_X9_rival sc (Cl MT pr sc (d + 5)) (rtE (some (.int r)) (mk X) σ2) (65, [(0, .ref 0), (1, .int x1), (2, .int x2), (3, .int x3), (4, .int x4), (5, .int x5)], [], mk X, σ) := by
  unfold f_X9_rival_65 at h
  refine Ex.blk 1000 rfl ?_
  show Ex mr_X9_rival sc (Cl MT pr sc (d + 5)) (rtE (some (.int r)) (mk X) σ2) (26, [(5, .int (x5 + 1)), (0, .ref 0), (1, .int x1), (2, .int x2), (3, .int x3), (4, .int x4)], [], mk X, σ)
  refine Ex.pick (lv' := _) [1, 2, 3, 4, 5, 0] rfl ?_
  exact hk26 _ _ _ _ _ _ h
theorem lk_X9_rival_62 {pr : Ct} {sc : Nat × (Nat → Int32)} {X : En} (d : Nat) {r : Int32} {σ2 : St} (k26 : Int32 → Int32 → Int32 → Int32 → Int32 → St → Option (Int32 × St)) (hk26 : ∀ (x1 : Int32) (x2 : Int32) (x3 : Int32) (x4 : Int32) (x5 : Int32) (σ : St), k26 x1 x2 x3 x4 x5 σ = some (r, σ2) → Ex mr_X9_rival sc (Cl MT pr sc (d + 5)) (rtE (some (.int r)) (mk X) σ2) (26, [(0, .ref 0), (1, .int x1), (2, .int x2), (3, .int x3), (4, .int x4), (5, .int x5)], [], mk X, σ)) (x1 : Int32) (x2 : Int32) (x4 : Int32) (x5 : Int32) (σ : St) (h : f_X9_rival_62 k26 x1 x2 x4 x5 σ = some (r, σ2)) : Ex mr_X9_rival sc (Cl MT pr sc (d + 5)) (rtE (some (.int r)) (mk X) σ2) (62, [(0, .ref 0), (1, .int x1), (2, .int x2), (4, .int x4), (5, .int x5)], [], mk X, σ) := by
  unfold f_X9_rival_62 at h
  refine Ex.blk 1000 rfl ?_
  show Ex mr_X9_rival sc (Cl MT pr sc (d + 5)) (rtE (some (.int r)) (mk X) σ2) (65, [(3, .int x5), (0, .ref 0), (1, .int x1), (2, .int x2), (4, .int x4), (5, .int x5)], [], mk X, σ)
  refine Ex.pick (lv' := _) [1, 2, 3, 0, 4, 5] rfl ?_
  exact lk_X9_rival_65 d _ hk26 _ _ _ _ _ _ h
theorem lk_X9_rival_26 {pr : Ct} {sc : Nat × (Nat → Int32)} {X : En} (d : Nat) {r : Int32} {σ2 : St} : ∀ (n : Nat) (x1 : Int32) (x2 : Int32) (x3 : Int32) (x4 : Int32) (x5 : Int32) (σ : St), f_X9_rival_26 n x1 x2 x3 x4 x5 σ = some (r, σ2) → Ex mr_X9_rival sc (Cl MT pr sc (d + 5)) (rtE (some (.int r)) (mk X) σ2) (26, [(0, .ref 0), (1, .int x1), (2, .int x2), (3, .int x3), (4, .int x4), (5, .int x5)], [], mk X, σ) := by
  intro n
  induction n with
  | zero =>
    intro x1 x2 x3 x4 x5 σ h
    cases h
  | succ n ih =>
    intro x1 x2 x3 x4 x5 σ h
    simp only [f_X9_rival_26] at h
    refine Ex.blk 1000 rfl ?_
    rcases ite_sp h with ⟨c1, h⟩ | ⟨c1, h⟩
    · refine And.intro (fun _ => ?_) (fun hn => absurd c1 hn)
      show Ex mr_X9_rival sc (Cl MT pr sc (d + 5)) (rtE (some (.int r)) (mk X) σ2) (71, [(0, .ref 0), (1, .int x1), (2, .int x2), (3, .int x3), (4, .int x4), (5, .int x5)], [], mk X, σ)
      refine Ex.blk 1000 rfl ?_
      cases h
      exact And.intro trivial ⟨rfl, rfl, rfl⟩
    · refine And.intro (fun hp => absurd hp c1) (fun _ => ?_)
      show Ex mr_X9_rival sc (Cl MT pr sc (d + 5)) (rtE (some (.int r)) (mk X) σ2) (32, [(0, .ref 0), (1, .int x1), (2, .int x2), (3, .int x3), (4, .int x4), (5, .int x5)], [], mk X, σ)
      refine Ex.blk 5 rfl ?_
      obtain ⟨p3, hp3, h⟩ := bind_sp h
      refine Exists.intro (some (.int p3.1)) (Exists.intro (mk X) (Exists.intro p3.2 (And.intro (cl_X9_multiply (d + 0) hp3) ?_)))
      show Ex mr_X9_rival sc (Cl MT pr sc (d + 5)) (rtE (some (.int r)) (mk X) σ2) (40, [(0, .ref 0), (1, .int x1), (2, .int x2), (3, .int x3), (4, .int x4), (5, .int x5)], [.int p3.1], mk X, p3.2)
      refine Ex.blk 5 rfl ?_
      show Ex mr_X9_rival sc (Cl MT pr sc (d + 5)) (rtE (some (.int r)) (mk X) σ2) (50, [(0, .ref 0), (1, .int x1), (2, .int x2), (3, .int x3), (4, .int x4), (5, .int x5)], [.int x4, .int (gI p3.2 5 7)], mk X, p3.2)
      refine Ex.blk 1000 rfl ?_
      rcases ite_sp h with ⟨c2, h⟩ | ⟨c2, h⟩
      · refine And.intro (fun _ => ?_) (fun hn => absurd c2 hn)
        show Ex mr_X9_rival sc (Cl MT pr sc (d + 5)) (rtE (some (.int r)) (mk X) σ2) (65, [(0, .ref 0), (1, .int x1), (2, .int x2), (3, .int x3), (4, .int x4), (5, .int x5)], [], mk X, p3.2)
        exact lk_X9_rival_65 d _ ih _ _ _ _ _ _ h
      · refine And.intro (fun hp => absurd hp c2) (fun _ => ?_)
        show Ex mr_X9_rival sc (Cl MT pr sc (d + 5)) (rtE (some (.int r)) (mk X) σ2) (53, [(0, .ref 0), (1, .int x1), (2, .int x2), (3, .int x3), (4, .int x4), (5, .int x5)], [], mk X, p3.2)
        refine Ex.blk 4 rfl ?_
        show Ex mr_X9_rival sc (Cl MT pr sc (d + 5)) (rtE (some (.int r)) (mk X) σ2) (62, [(4, .int (gI p3.2 5 7)), (0, .ref 0), (1, .int x1), (2, .int x2), (3, .int x3), (5, .int x5)], [], mk X, p3.2)
        refine Ex.pick (lv' := _) [1, 2, 3, 0, 5] rfl ?_
        exact lk_X9_rival_62 d _ ih _ _ _ _ _ h
theorem cl_X9_rival {pr : Ct} {sc : Nat × (Nat → Int32)} {X : En} (d : Nat) {r : Int32} {σ2 : St} {x1 : Int32} {x2 : Int32} {σ : St} (h : f_X9_rival x1 x2 σ = some (r, σ2)) : Cl MT pr sc (d + 5 + 1) 130 [.ref 0, .int x1, .int x2] (mk X) σ (some (.int r)) (mk X) σ2 := by
  refine cl_of mr_X9_rival rfl rfl ?_
  unfold f_X9_rival at h
  refine Ex.blk 2 rfl ?_
  obtain ⟨p1, hp1, h⟩ := bind_sp h
  refine Exists.intro (some (.int p1.1)) (Exists.intro (mk X) (Exists.intro p1.2 (And.intro (cl_X9_isFactor (d + 4) hp1) ?_)))
  show Ex mr_X9_rival sc (Cl MT pr sc (d + 5)) (rtE (some (.int r)) (mk X) σ2) (4, [(0, .ref 0), (1, .int x1), (2, .int x2)], [.int p1.1], mk X, p1.2)
  refine Ex.blk 1000 rfl ?_
  rcases ite_sp h with ⟨c1, h⟩ | ⟨c1, h⟩
  · refine And.intro (fun _ => ?_) (fun hn => absurd c1 hn)
    show Ex mr_X9_rival sc (Cl MT pr sc (d + 5)) (rtE (some (.int r)) (mk X) σ2) (14, [(0, .ref 0), (1, .int x1), (2, .int x2)], [], mk X, p1.2)
    refine Ex.pick (lv' := _) [] rfl ?_
    exact lk_X9_rival_14 d _ h
  · refine And.intro (fun hp => absurd hp c1) (fun _ => ?_)
    show Ex mr_X9_rival sc (Cl MT pr sc (d + 5)) (rtE (some (.int r)) (mk X) σ2) (7, [(0, .ref 0), (1, .int x1), (2, .int x2)], [], mk X, p1.2)
    refine Ex.blk 2 rfl ?_
    obtain ⟨p2, hp2, h⟩ := bind_sp h
    refine Exists.intro (some (.int p2.1)) (Exists.intro (mk X) (Exists.intro p2.2 (And.intro (cl_X9_isFactor (d + 4) hp2) ?_)))
    show Ex mr_X9_rival sc (Cl MT pr sc (d + 5)) (rtE (some (.int r)) (mk X) σ2) (11, [(0, .ref 0), (1, .int x1), (2, .int x2)], [.int p2.1], mk X, p2.2)
    refine Ex.blk 1000 rfl ?_
    rcases ite_sp h with ⟨c2, h⟩ | ⟨c2, h⟩
    · refine And.intro (fun hp => absurd c2 hp) (fun _ => ?_)
      show Ex mr_X9_rival sc (Cl MT pr sc (d + 5)) (rtE (some (.int r)) (mk X) σ2) (14, [(0, .ref 0), (1, .int x1), (2, .int x2)], [], mk X, p2.2)
      refine Ex.pick (lv' := _) [] rfl ?_
      exact lk_X9_rival_14 d _ h
    · refine And.intro (fun _ => ?_) (fun hn => absurd c2 hn)
      show Ex mr_X9_rival sc (Cl MT pr sc (d + 5)) (rtE (some (.int r)) (mk X) σ2) (16, [(0, .ref 0), (1, .int x1), (2, .int x2)], [], mk X, p2.2)
      refine Ex.blk 5 rfl ?_
      show Ex mr_X9_rival sc (Cl MT pr sc (d + 5)) (rtE (some (.int r)) (mk X) σ2) (24, [(4, .int 2147483647), (3, .int 0), (0, .ref 0), (1, .int x1), (2, .int x2)], [.int 0], mk X, p2.2)
      refine Ex.blk 1000 rfl ?_
      show Ex mr_X9_rival sc (Cl MT pr sc (d + 5)) (rtE (some (.int r)) (mk X) σ2) (26, [(5, .int 0), (4, .int 2147483647), (3, .int 0), (0, .ref 0), (1, .int x1), (2, .int x2)], [], mk X, p2.2)
      refine Ex.pick (lv' := _) [3, 4, 5, 2, 1, 0] rfl ?_
      exact lk_X9_rival_26 d FU _ _ _ _ _ _ h
