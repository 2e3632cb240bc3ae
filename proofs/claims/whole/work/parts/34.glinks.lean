theorem lk_X7_standFor_5_2 {pr : Ct} {sc : Nat × (Nat → Int32)} {X : En} (d : Nat) {σ2 : St} : ∀ (n : Nat) (x1 : Int64) (x3 : Int32) (σ : St), f_X7_standFor_2 5 n x1 x3 σ = some σ2 → Ex mr_X7_standFor sc (Cl MT pr sc (d + 1)) (rtE none (mk X) σ2) (2, [(0, .ref 5), (1, .long x1), (3, .int x3)], [], mk X, σ) := by
  intro n
  induction n with
  | zero =>
    intro x1 x3 σ h
    cases h
  | succ n ih =>
    intro x1 x3 σ h
    simp only [f_X7_standFor_2] at h
    refine Ex.blk 1000 rfl ?_
    rcases ite_sp h with ⟨c1, h⟩ | ⟨c1, h⟩
    · refine And.intro (fun _ => ?_) (fun hn => absurd c1 hn)
      show Ex mr_X7_standFor sc (Cl MT pr sc (d + 1)) (rtE none (mk X) σ2) (27, [(0, .ref 5), (1, .long x1), (3, .int x3)], [], mk X, σ)
      refine Ex.blk 1000 rfl ?_
      cases h
      exact And.intro trivial ⟨rfl, rfl, rfl⟩
    · refine And.intro (fun hp => absurd hp c1) (fun _ => ?_)
      show Ex mr_X7_standFor sc (Cl MT pr sc (d + 1)) (rtE none (mk X) σ2) (10, [(0, .ref 5), (1, .long x1), (3, .int x3)], [], mk X, σ)
      refine Ex.blk 5 rfl ?_
      show Ex mr_X7_standFor sc (Cl MT pr sc (d + 1)) (rtE none (mk X) σ2) (17, [(0, .ref 5), (1, .long x1), (3, .int x3)], [.int x3, .long x1, .int x3, .ref 6], mk X, σ)
      refine Ex.blk 1 rfl ?_
      obtain ⟨p1, hp1, h⟩ := bind_sp h
      refine Exists.intro (some (.int p1.1)) (Exists.intro (mk X) (Exists.intro p1.2 (And.intro (cl_X9_digitOf (d + 0) hp1) ?_)))
      show Ex mr_X7_standFor sc (Cl MT pr sc (d + 1)) (rtE none (mk X) σ2) (20, [(0, .ref 5), (1, .long x1), (3, .int x3)], [.int p1.1, .int x3, .ref 6], mk X, p1.2)
      refine Ex.blk 1 rfl ?_
      obtain ⟨g2, h⟩ := gd_some h
      refine And.intro (inb_ok g2) ?_
      show Ex mr_X7_standFor sc (Cl MT pr sc (d + 1)) (rtE none (mk X) σ2) (21, [(0, .ref 5), (1, .long x1), (3, .int x3)], [], mk X, (sI p1.2 6 x3.toNatClampNeg p1.1))
      refine Ex.blk 1000 rfl ?_
      show Ex mr_X7_standFor sc (Cl MT pr sc (d + 1)) (rtE none (mk X) σ2) (2, [(3, .int (x3 + 1)), (0, .ref 5), (1, .long x1)], [], mk X, (sI p1.2 6 x3.toNatClampNeg p1.1))
      refine Ex.pick (lv' := _) [1, 2, 0] rfl ?_
      exact ih _ _ _ h
theorem cl_X7_standFor_5 {pr : Ct} {sc : Nat × (Nat → Int32)} {X : En} (d : Nat) {σ2 : St} {x1 : Int64} {σ : St} (h : f_X7_standFor 5 x1 σ = some σ2) : Cl MT pr sc (d + 1 + 1) 26 [.ref 5, .long x1] (mk X) σ none (mk X) σ2 := by
  refine cl_of mr_X7_standFor rfl rfl ?_
  unfold f_X7_standFor at h
  refine Ex.blk 1000 rfl ?_
  show Ex mr_X7_standFor sc (Cl MT pr sc (d + 1)) (rtE none (mk X) σ2) (2, [(3, .int 0), (0, .ref 5), (1, .long x1)], [], mk X, σ)
  refine Ex.pick (lv' := _) [1, 2, 0] rfl ?_
  exact lk_X7_standFor_5_2 d FU _ _ _ h
theorem lk_X3_walksAsTold_5_2 {pr : Ct} {sc : Nat × (Nat → Int32)} {X : En} (d : Nat) {r : Int32} {σ2 : St} : ∀ (n : Nat) (x2 : Int32) (σ : St), f_X3_walksAsTold_2 5 n x2 σ = some (r, σ2) → Ex mr_X3_walksAsTold sc (Cl MT pr sc (d + 3)) (rtE (some (.int r)) (mk X) σ2) (2, [(0, .ref 19), (1, .ref 5), (2, .int x2)], [], mk X, σ) := by
  intro n
  induction n with
  | zero =>
    intro x2 σ h
    cases h
  | succ n ih =>
    intro x2 σ h
    simp only [f_X3_walksAsTold_2] at h
    refine Ex.blk 1000 rfl ?_
    rcases ite_sp h with ⟨c1, h⟩ | ⟨c1, h⟩
    · refine And.intro (fun _ => ?_) (fun hn => absurd c1 hn)
      show Ex mr_X3_walksAsTold sc (Cl MT pr sc (d + 3)) (rtE (some (.int r)) (mk X) σ2) (29, [(0, .ref 19), (1, .ref 5), (2, .int x2)], [], mk X, σ)
      refine Ex.blk 1000 rfl ?_
      cases h
      exact And.intro trivial ⟨rfl, rfl, rfl⟩
    · refine And.intro (fun hp => absurd hp c1) (fun _ => ?_)
      show Ex mr_X3_walksAsTold sc (Cl MT pr sc (d + 3)) (rtE (some (.int r)) (mk X) σ2) (10, [(0, .ref 19), (1, .ref 5), (2, .int x2)], [], mk X, σ)
      refine Ex.blk 5 rfl ?_
      obtain ⟨g2, h⟩ := gd_some h
      refine And.intro (inb_ok g2) ?_
      show Ex mr_X3_walksAsTold sc (Cl MT pr sc (d + 3)) (rtE (some (.int r)) (mk X) σ2) (17, [(0, .ref 19), (1, .ref 5), (2, .int x2)], [.int (gI σ 20 x2.toNatClampNeg), .ref 5], mk X, σ)
      refine Ex.blk 4 rfl ?_
      obtain ⟨p1, hp1, h⟩ := bind_sp h
      refine Exists.intro none (Exists.intro (mk X) (Exists.intro p1 (And.intro (cl_X7_bring_n_5 (d + 0) hp1) ?_)))
      show Ex mr_X3_walksAsTold sc (Cl MT pr sc (d + 3)) (rtE (some (.int r)) (mk X) σ2) (23, [(0, .ref 19), (1, .ref 5), (2, .int x2)], [], mk X, p1)
      refine Ex.blk 1000 rfl ?_
      show Ex mr_X3_walksAsTold sc (Cl MT pr sc (d + 3)) (rtE (some (.int r)) (mk X) σ2) (2, [(2, .int (x2 + 1)), (0, .ref 19), (1, .ref 5)], [], mk X, p1)
      refine Ex.pick (lv' := _) [1, 2, 0] rfl ?_
      exact ih _ _ h
theorem cl_X3_walksAsTold_5 {pr : Ct} {sc : Nat × (Nat → Int32)} {X : En} (d : Nat) {r : Int32} {σ2 : St} {σ : St} (h : f_X3_walksAsTold 5 σ = some (r, σ2)) : Cl MT pr sc (d + 3 + 1) 38 [.ref 19, .ref 5] (mk X) σ (some (.int r)) (mk X) σ2 := by
  refine cl_of mr_X3_walksAsTold rfl rfl ?_
  unfold f_X3_walksAsTold at h
  refine Ex.blk 1000 rfl ?_
  show Ex mr_X3_walksAsTold sc (Cl MT pr sc (d + 3)) (rtE (some (.int r)) (mk X) σ2) (2, [(2, .int 0), (0, .ref 19), (1, .ref 5)], [], mk X, σ)
  refine Ex.pick (lv' := _) [1, 2, 0] rfl ?_
  exact lk_X3_walksAsTold_5_2 d FU _ _ h
theorem lk_X7_halve_5_37 {pr : Ct} {sc : Nat × (Nat → Int32)} {X : En} (d : Nat) {σ2 : St} (k9 : Int32 → Int32 → St → Option (St)) (hk9 : ∀ (x1 : Int32) (x2 : Int32) (σ : St), k9 x1 x2 σ = some σ2 → Ex mr_X7_halve sc (Cl MT pr sc (d + 1)) (rtE none (mk X) σ2) (9, [(0, .ref 5), (1, .int x1), (2, .int x2)], [], mk X, σ)) (x1 : Int32) (x2 : Int32) (σ : St) (h : f_X7_halve_37 5 k9 x1 x2 σ = some σ2) : Ex mr_X7_halve sc (Cl MT pr sc (d + 1)) (rtE none (mk X) σ2) (37, [(0, .ref 5), (1, .int x1), (2, .int x2)], [], mk X, σ) := by
  unfold f_X7_halve_37 at h
  refine Ex.blk 1000 rfl ?_
  show Ex mr_X7_halve sc (Cl MT pr sc (d + 1)) (rtE none (mk X) σ2) (9, [(2, .int (x2 + (-1))), (0, .ref 5), (1, .int x1)], [], mk X, σ)
  refine Ex.pick (lv' := _) [1, 2, 0] rfl ?_
  exact hk9 _ _ _ h
theorem lk_X7_halve_5_25 {pr : Ct} {sc : Nat × (Nat → Int32)} {X : En} (d : Nat) {σ2 : St} (k9 : Int32 → Int32 → St → Option (St)) (hk9 : ∀ (x1 : Int32) (x2 : Int32) (σ : St), k9 x1 x2 σ = some σ2 → Ex mr_X7_halve sc (Cl MT pr sc (d + 1)) (rtE none (mk X) σ2) (9, [(0, .ref 5), (1, .int x1), (2, .int x2)], [], mk X, σ)) (x2 : Int32) (x3 : Int32) (σ : St) (h : f_X7_halve_25 5 k9 x2 x3 σ = some σ2) : Ex mr_X7_halve sc (Cl MT pr sc (d + 1)) (rtE none (mk X) σ2) (25, [(0, .ref 5), (2, .int x2), (3, .int x3)], [], mk X, σ) := by
  unfold f_X7_halve_25 at h
  refine Ex.blk 5 rfl ?_
  refine And.intro (nzI_ok (b := 2) (by decide)) ?_
  show Ex mr_X7_halve sc (Cl MT pr sc (d + 1)) (rtE none (mk X) σ2) (30, [(0, .ref 5), (2, .int x2), (3, .int x3)], [.int (x3 / 2), .int x2, .ref 5], mk X, σ)
  refine Ex.blk 1 rfl ?_
  obtain ⟨p1, hp1, h⟩ := bind_sp h
  refine Exists.intro none (Exists.intro (mk X) (Exists.intro p1 (And.intro (cl_X7_stand_5 (d + 0) hp1) ?_)))
  show Ex mr_X7_halve sc (Cl MT pr sc (d + 1)) (rtE none (mk X) σ2) (33, [(0, .ref 5), (2, .int x2), (3, .int x3)], [], mk X, p1)
  refine Ex.blk 3 rfl ?_
  refine And.intro (nzI_ok (b := 2) (by decide)) ?_
  show Ex mr_X7_halve sc (Cl MT pr sc (d + 1)) (rtE none (mk X) σ2) (36, [(0, .ref 5), (2, .int x2), (3, .int x3)], [.int (rmI x3 2)], mk X, p1)
  refine Ex.blk 1 rfl ?_
  show Ex mr_X7_halve sc (Cl MT pr sc (d + 1)) (rtE none (mk X) σ2) (37, [(1, .int (rmI x3 2)), (0, .ref 5), (2, .int x2), (3, .int x3)], [], mk X, p1)
  refine Ex.pick (lv' := _) [1, 0, 2] rfl ?_
  exact lk_X7_halve_5_37 d _ hk9 _ _ _ h
theorem lk_X7_halve_5_9 {pr : Ct} {sc : Nat × (Nat → Int32)} {X : En} (d : Nat) {σ2 : St} : ∀ (n : Nat) (x1 : Int32) (x2 : Int32) (σ : St), f_X7_halve_9 5 n x1 x2 σ = some σ2 → Ex mr_X7_halve sc (Cl MT pr sc (d + 1)) (rtE none (mk X) σ2) (9, [(0, .ref 5), (1, .int x1), (2, .int x2)], [], mk X, σ) := by
  intro n
  induction n with
  | zero =>
    intro x1 x2 σ h
    cases h
  | succ n ih =>
    intro x1 x2 σ h
    simp only [f_X7_halve_9] at h
    refine Ex.blk 1000 rfl ?_
    rcases ite_sp h with ⟨c1, h⟩ | ⟨c1, h⟩
    · refine And.intro (fun _ => ?_) (fun hn => absurd c1 hn)
      show Ex mr_X7_halve sc (Cl MT pr sc (d + 1)) (rtE none (mk X) σ2) (43, [(0, .ref 5), (1, .int x1), (2, .int x2)], [], mk X, σ)
      refine Ex.blk 1000 rfl ?_
      cases h
      exact And.intro trivial ⟨rfl, rfl, rfl⟩
    · refine And.intro (fun hp => absurd hp c1) (fun _ => ?_)
      show Ex mr_X7_halve sc (Cl MT pr sc (d + 1)) (rtE none (mk X) σ2) (13, [(0, .ref 5), (1, .int x1), (2, .int x2)], [], mk X, σ)
      refine Ex.blk 5 rfl ?_
      show Ex mr_X7_halve sc (Cl MT pr sc (d + 1)) (rtE none (mk X) σ2) (21, [(0, .ref 5), (1, .int x1), (2, .int x2)], [.ref 6, .int (10 * x1)], mk X, σ)
      refine Ex.blk 2 rfl ?_
      obtain ⟨g2, h⟩ := gd_some h
      refine And.intro (inb_ok g2) ?_
      show Ex mr_X7_halve sc (Cl MT pr sc (d + 1)) (rtE none (mk X) σ2) (23, [(0, .ref 5), (1, .int x1), (2, .int x2)], [.int (gI σ 6 x2.toNatClampNeg), .int (10 * x1)], mk X, σ)
      refine Ex.blk 2 rfl ?_
      show Ex mr_X7_halve sc (Cl MT pr sc (d + 1)) (rtE none (mk X) σ2) (25, [(3, .int ((10 * x1) + (gI σ 6 x2.toNatClampNeg))), (0, .ref 5), (1, .int x1), (2, .int x2)], [], mk X, σ)
      refine Ex.pick (lv' := _) [1, 3, 0] rfl ?_
      exact lk_X7_halve_5_25 d _ ih _ _ _ h
theorem cl_X7_halve_5 {pr : Ct} {sc : Nat × (Nat → Int32)} {X : En} (d : Nat) {σ2 : St} {σ : St} (h : f_X7_halve 5 σ = some σ2) : Cl MT pr sc (d + 1 + 1) 72 [.ref 5] (mk X) σ none (mk X) σ2 := by
  refine cl_of mr_X7_halve rfl rfl ?_
  unfold f_X7_halve at h
  refine Ex.blk 5 rfl ?_
  show Ex mr_X7_halve sc (Cl MT pr sc (d + 1)) (rtE none (mk X) σ2) (7, [(1, .int 0), (0, .ref 5)], [.int 1, .int (gI σ 5 0)], mk X, σ)
  refine Ex.blk 1000 rfl ?_
  show Ex mr_X7_halve sc (Cl MT pr sc (d + 1)) (rtE none (mk X) σ2) (9, [(2, .int ((gI σ 5 0) - 1)), (1, .int 0), (0, .ref 5)], [], mk X, σ)
  refine Ex.pick (lv' := _) [2, 1, 0] rfl ?_
  exact lk_X7_halve_5_9 d FU _ _ _ h
theorem lk_X7_empty_5_2 {pr : Ct} {sc : Nat × (Nat → Int32)} {X : En} (d : Nat) {σ2 : St} : ∀ (n : Nat) (x1 : Int32) (σ : St), f_X7_empty_2 5 n x1 σ = some σ2 → Ex mr_X7_empty sc (Cl MT pr sc (d + 1)) (rtE none (mk X) σ2) (2, [(0, .ref 5), (1, .int x1)], [], mk X, σ) := by
  intro n
  induction n with
  | zero =>
    intro x1 σ h
    cases h
  | succ n ih =>
    intro x1 σ h
    simp only [f_X7_empty_2] at h
    refine Ex.blk 1000 rfl ?_
    rcases ite_sp h with ⟨c1, h⟩ | ⟨c1, h⟩
    · refine And.intro (fun _ => ?_) (fun hn => absurd c1 hn)
      show Ex mr_X7_empty sc (Cl MT pr sc (d + 1)) (rtE none (mk X) σ2) (22, [(0, .ref 5), (1, .int x1)], [], mk X, σ)
      refine Ex.blk 1000 rfl ?_
      cases h
      exact And.intro trivial ⟨rfl, rfl, rfl⟩
    · refine And.intro (fun hp => absurd hp c1) (fun _ => ?_)
      show Ex mr_X7_empty sc (Cl MT pr sc (d + 1)) (rtE none (mk X) σ2) (10, [(0, .ref 5), (1, .int x1)], [], mk X, σ)
      refine Ex.blk 4 rfl ?_
      obtain ⟨p1, hp1, h⟩ := bind_sp h
      refine Exists.intro none (Exists.intro (mk X) (Exists.intro p1 (And.intro (cl_X7_stand_5 (d + 0) hp1) ?_)))
      show Ex mr_X7_empty sc (Cl MT pr sc (d + 1)) (rtE none (mk X) σ2) (16, [(0, .ref 5), (1, .int x1)], [], mk X, p1)
      refine Ex.blk 1000 rfl ?_
      show Ex mr_X7_empty sc (Cl MT pr sc (d + 1)) (rtE none (mk X) σ2) (2, [(1, .int (x1 + 1)), (0, .ref 5)], [], mk X, p1)
      refine Ex.pick (lv' := _) [1, 0] rfl ?_
      exact ih _ _ h
theorem cl_X7_empty_5 {pr : Ct} {sc : Nat × (Nat → Int32)} {X : En} (d : Nat) {σ2 : St} {σ : St} (h : f_X7_empty 5 σ = some σ2) : Cl MT pr sc (d + 1 + 1) 73 [.ref 5] (mk X) σ none (mk X) σ2 := by
  refine cl_of mr_X7_empty rfl rfl ?_
  unfold f_X7_empty at h
  refine Ex.blk 1000 rfl ?_
  show Ex mr_X7_empty sc (Cl MT pr sc (d + 1)) (rtE none (mk X) σ2) (2, [(1, .int 0), (0, .ref 5)], [], mk X, σ)
  refine Ex.pick (lv' := _) [1, 0] rfl ?_
  exact lk_X7_empty_5_2 d FU _ _ h
theorem lk_X9_perform_n_5_92 {pr : Ct} {sc : Nat × (Nat → Int32)} {X : En} (d : Nat) {σ2 : St} (x5 : Int32) (x6 : Int32) (σ : St) (h : f_X9_perform_n_92 5 x5 x6 σ = some σ2) : Ex mr_X9_perform sc (Cl MT pr sc (d + 3)) (rtE none (mk X) σ2) (92, [(0, .ref 0), (1, .ref 5), (5, .int x5), (6, .int x6)], [], mk X, σ) := by
  unfold f_X9_perform_n_92 at h
  refine Ex.blk 5 rfl ?_
  show Ex mr_X9_perform sc (Cl MT pr sc (d + 3)) (rtE none (mk X) σ2) (101, [(0, .ref 0), (1, .ref 5), (5, .int x5), (6, .int x6)], [.int (gI σ 5 7), .int (gI σ 5 9), .ref 5], mk X, σ)
  refine Ex.blk 5 rfl ?_
  show Ex mr_X9_perform sc (Cl MT pr sc (d + 3)) (rtE none (mk X) σ2) (109, [(0, .ref 0), (1, .ref 5), (5, .int x5), (6, .int x6)], [.int (((gI σ 5 7) - x5) * (gI σ 0 15)), .int (gI σ 5 9), .ref 5], mk X, σ)
  refine Ex.blk 5 rfl ?_
  show Ex mr_X9_perform sc (Cl MT pr sc (d + 3)) (rtE none (mk X) σ2) (117, [(0, .ref 0), (1, .ref 5), (5, .int x5), (6, .int x6)], [.ref 0, .int ((gI σ 5 8) - x6), .int (((gI σ 5 7) - x5) * (gI σ 0 15)), .int (gI σ 5 9), .ref 5], mk X, σ)
  refine Ex.blk 5 rfl ?_
  show Ex mr_X9_perform sc (Cl MT pr sc (d + 3)) (rtE none (mk X) σ2) (126, [(0, .ref 0), (1, .ref 5), (5, .int x5), (6, .int x6)], [], mk X, (sI σ 5 9 ((gI σ 5 9) + ((((gI σ 5 7) - x5) * (gI σ 0 15)) + (((gI σ 5 8) - x6) * (gI σ 0 16))))))
  refine Ex.blk 1000 rfl ?_
  cases h
  exact And.intro trivial ⟨rfl, rfl, rfl⟩
theorem lk_X9_perform_n_5_12 {pr : Ct} {sc : Nat × (Nat → Int32)} {X : En} (d : Nat) {σ2 : St} (x2 : Int32) (x3 : Int32) (x5 : Int32) (x6 : Int32) (σ : St) (h : f_X9_perform_n_12 5 x2 x3 x5 x6 σ = some σ2) : Ex mr_X9_perform sc (Cl MT pr sc (d + 3)) (rtE none (mk X) σ2) (12, [(0, .ref 0), (1, .ref 5), (2, .int x2), (3, .int x3), (4, .null), (5, .int x5), (6, .int x6)], [], mk X, σ) := by
  unfold f_X9_perform_n_12 at h
  refine Ex.blk 1000 rfl ?_
  rcases ite_sp h with ⟨c1, h⟩ | ⟨c1, h⟩
  · refine And.intro (fun _ => ?_) (fun hn => absurd (c1.trans (by decide)) hn)
    show Ex mr_X9_perform sc (Cl MT pr sc (d + 3)) (rtE none (mk X) σ2) (44, [(0, .ref 0), (1, .ref 5), (2, .int x2), (3, .int x3), (4, .null), (5, .int x5), (6, .int x6)], [], mk X, σ)
    refine Ex.blk 5 rfl ?_
    show Ex mr_X9_perform sc (Cl MT pr sc (d + 3)) (rtE none (mk X) σ2) (51, [(0, .ref 0), (1, .ref 5), (2, .int x2), (3, .int x3), (4, .null), (5, .int x5), (6, .int x6)], [.int (gI σ 0 14), .int 0, .int x3, .ref 5], mk X, σ)
    refine Ex.blk 2 rfl ?_
    obtain ⟨p1, hp1, h⟩ := bind_sp h
    refine Exists.intro none (Exists.intro (mk X) (Exists.intro p1 (And.intro (cl_X7_bring_n_5 (d + 0) hp1) ?_)))
    show Ex mr_X9_perform sc (Cl MT pr sc (d + 3)) (rtE none (mk X) σ2) (56, [(0, .ref 0), (1, .ref 5), (2, .int x2), (3, .int x3), (4, .null), (5, .int x5), (6, .int x6)], [], mk X, p1)
    refine Ex.blk 1000 rfl ?_
    show Ex mr_X9_perform sc (Cl MT pr sc (d + 3)) (rtE none (mk X) σ2) (92, [(0, .ref 0), (1, .ref 5), (2, .int x2), (3, .int x3), (4, .null), (5, .int x5), (6, .int x6)], [], mk X, p1)
    refine Ex.pick (lv' := _) [0, 1, 5, 6] rfl ?_
    exact lk_X9_perform_n_5_92 d _ _ _ h
  refine And.intro (fun hp => absurd (hp.trans (by decide)) c1) (fun _ => ?_)
  rcases ite_sp h with ⟨c2, h⟩ | ⟨c2, h⟩
  · refine And.intro (fun _ => ?_) (fun hn => absurd (c2.trans (by decide)) hn)
    show Ex mr_X9_perform sc (Cl MT pr sc (d + 3)) (rtE none (mk X) σ2) (59, [(0, .ref 0), (1, .ref 5), (2, .int x2), (3, .int x3), (4, .null), (5, .int x5), (6, .int x6)], [], mk X, σ)
    refine Ex.blk 5 rfl ?_
    show Ex mr_X9_perform sc (Cl MT pr sc (d + 3)) (rtE none (mk X) σ2) (66, [(0, .ref 0), (1, .ref 5), (2, .int x2), (3, .int x3), (4, .null), (5, .int x5), (6, .int x6)], [.int (gI σ 0 14), .int 1, .int x3, .ref 5], mk X, σ)
    refine Ex.blk 2 rfl ?_
    obtain ⟨p2, hp2, h⟩ := bind_sp h
    refine Exists.intro none (Exists.intro (mk X) (Exists.intro p2 (And.intro (cl_X7_bring_n_5 (d + 0) hp2) ?_)))
    show Ex mr_X9_perform sc (Cl MT pr sc (d + 3)) (rtE none (mk X) σ2) (71, [(0, .ref 0), (1, .ref 5), (2, .int x2), (3, .int x3), (4, .null), (5, .int x5), (6, .int x6)], [], mk X, p2)
    refine Ex.blk 1000 rfl ?_
    show Ex mr_X9_perform sc (Cl MT pr sc (d + 3)) (rtE none (mk X) σ2) (92, [(0, .ref 0), (1, .ref 5), (2, .int x2), (3, .int x3), (4, .null), (5, .int x5), (6, .int x6)], [], mk X, p2)
    refine Ex.pick (lv' := _) [0, 1, 5, 6] rfl ?_
    exact lk_X9_perform_n_5_92 d _ _ _ h
  refine And.intro (fun hp => absurd (hp.trans (by decide)) c2) (fun _ => ?_)
  rcases ite_sp h with ⟨c3, h⟩ | ⟨c3, h⟩
  · refine And.intro (fun _ => ?_) (fun hn => absurd (c3.trans (by decide)) hn)
    show Ex mr_X9_perform sc (Cl MT pr sc (d + 3)) (rtE none (mk X) σ2) (74, [(0, .ref 0), (1, .ref 5), (2, .int x2), (3, .int x3), (4, .null), (5, .int x5), (6, .int x6)], [], mk X, σ)
    refine Ex.blk 2 rfl ?_
    obtain ⟨p3, hp3, h⟩ := bind_sp h
    refine Exists.intro none (Exists.intro (mk X) (Exists.intro p3 (And.intro (cl_X7_twice_5 (d + 0) hp3) ?_)))
    show Ex mr_X9_perform sc (Cl MT pr sc (d + 3)) (rtE none (mk X) σ2) (78, [(0, .ref 0), (1, .ref 5), (2, .int x2), (3, .int x3), (4, .null), (5, .int x5), (6, .int x6)], [], mk X, p3)
    refine Ex.blk 1000 rfl ?_
    show Ex mr_X9_perform sc (Cl MT pr sc (d + 3)) (rtE none (mk X) σ2) (92, [(0, .ref 0), (1, .ref 5), (2, .int x2), (3, .int x3), (4, .null), (5, .int x5), (6, .int x6)], [], mk X, p3)
    refine Ex.pick (lv' := _) [0, 1, 5, 6] rfl ?_
    exact lk_X9_perform_n_5_92 d _ _ _ h
  refine And.intro (fun hp => absurd (hp.trans (by decide)) c3) (fun _ => ?_)
  rcases ite_sp h with ⟨c4, h⟩ | ⟨c4, h⟩
  · refine And.intro (fun _ => ?_) (fun hn => absurd (c4.trans (by decide)) hn)
    show Ex mr_X9_perform sc (Cl MT pr sc (d + 3)) (rtE none (mk X) σ2) (81, [(0, .ref 0), (1, .ref 5), (2, .int x2), (3, .int x3), (4, .null), (5, .int x5), (6, .int x6)], [], mk X, σ)
    refine Ex.blk 2 rfl ?_
    obtain ⟨p4, hp4, h⟩ := bind_sp h
    refine Exists.intro none (Exists.intro (mk X) (Exists.intro p4 (And.intro (cl_X7_halve_5 (d + 1) hp4) ?_)))
    show Ex mr_X9_perform sc (Cl MT pr sc (d + 3)) (rtE none (mk X) σ2) (85, [(0, .ref 0), (1, .ref 5), (2, .int x2), (3, .int x3), (4, .null), (5, .int x5), (6, .int x6)], [], mk X, p4)
    refine Ex.blk 1000 rfl ?_
    show Ex mr_X9_perform sc (Cl MT pr sc (d + 3)) (rtE none (mk X) σ2) (92, [(0, .ref 0), (1, .ref 5), (2, .int x2), (3, .int x3), (4, .null), (5, .int x5), (6, .int x6)], [], mk X, p4)
    refine Ex.pick (lv' := _) [0, 1, 5, 6] rfl ?_
    exact lk_X9_perform_n_5_92 d _ _ _ h
  refine And.intro (fun hp => absurd (hp.trans (by decide)) c4) (fun _ => ?_)
  show Ex mr_X9_perform sc (Cl MT pr sc (d + 3)) (rtE none (mk X) σ2) (88, [(0, .ref 0), (1, .ref 5), (2, .int x2), (3, .int x3), (4, .null), (5, .int x5), (6, .int x6)], [], mk X, σ)
  refine Ex.blk 2 rfl ?_
  obtain ⟨p5, hp5, h⟩ := bind_sp h
  refine Exists.intro none (Exists.intro (mk X) (Exists.intro p5 (And.intro (cl_X7_empty_5 (d + 1) hp5) ?_)))
  show Ex mr_X9_perform sc (Cl MT pr sc (d + 3)) (rtE none (mk X) σ2) (92, [(0, .ref 0), (1, .ref 5), (2, .int x2), (3, .int x3), (4, .null), (5, .int x5), (6, .int x6)], [], mk X, p5)
  refine Ex.pick (lv' := _) [0, 1, 5, 6] rfl ?_
  exact lk_X9_perform_n_5_92 d _ _ _ h
theorem lk_X9_perform_n_5_6 {pr : Ct} {sc : Nat × (Nat → Int32)} {X : En} (d : Nat) {σ2 : St} (x2 : Int32) (x3 : Int32) (x5 : Int32) (σ : St) (h : f_X9_perform_n_6 5 x2 x3 x5 σ = some σ2) : Ex mr_X9_perform sc (Cl MT pr sc (d + 3)) (rtE none (mk X) σ2) (6, [(0, .ref 0), (1, .ref 5), (2, .int x2), (3, .int x3), (4, .null), (5, .int x5)], [], mk X, σ) := by
  unfold f_X9_perform_n_6 at h
  refine Ex.blk 3 rfl ?_
  show Ex mr_X9_perform sc (Cl MT pr sc (d + 3)) (rtE none (mk X) σ2) (12, [(6, .int (gI σ 5 8)), (0, .ref 0), (1, .ref 5), (2, .int x2), (3, .int x3), (4, .null), (5, .int x5)], [], mk X, σ)
  refine Ex.pick (lv' := _) [1, 2, 3, 4, 5, 6, 0] rfl ?_
  exact lk_X9_perform_n_5_12 d _ _ _ _ _ h
theorem cl_X9_perform_n_5 {pr : Ct} {sc : Nat × (Nat → Int32)} {X : En} (d : Nat) {σ2 : St} {x2 : Int32} {x3 : Int32} {σ : St} (h : f_X9_perform_n 5 x2 x3 σ = some σ2) : Cl MT pr sc (d + 3 + 1) 93 [.ref 0, .ref 5, .int x2, .int x3, .null] (mk X) σ none (mk X) σ2 := by
  refine cl_of mr_X9_perform rfl rfl ?_
  unfold f_X9_perform_n at h
  refine Ex.blk 3 rfl ?_
  show Ex mr_X9_perform sc (Cl MT pr sc (d + 3)) (rtE none (mk X) σ2) (6, [(5, .int (gI σ 5 7)), (0, .ref 0), (1, .ref 5), (2, .int x2), (3, .int x3), (4, .null)], [], mk X, σ)
  refine Ex.pick (lv' := _) [1, 2, 3, 4, 5, 0] rfl ?_
  exact lk_X9_perform_n_5_6 d _ _ _ _ h
theorem le_J7_fill_53178_5 {pr : Ct} {sc : Nat × (Nat → Int32)} (d : Nat) (ar : Nat)  {X2 : En} {σ2 : St} : ∀ (n : Nat) (x1 : Int32) (x2 : Int32) (x3 : Int32) (X : En) (σ : St), e_J7_fill_53178_5 ar n x1 x2 x3 X σ = some (X2, σ2) → Ex mr_J7_fill_53178 sc (Cl MT pr sc (d + 0)) (rtE none X2 σ2) (5, [(0, .ref ar), (1, .int x1), (2, .int x2), (3, .int x3)], [], X, σ) := by
  intro n
  induction n with
  | zero =>
    intro x1 x2 x3 X σ h
    cases h
  | succ n ih =>
    intro x1 x2 x3 X σ h
    simp only [e_J7_fill_53178_5] at h
    obtain ⟨hk_ar_X, h⟩ := gd_some h
    refine Ex.blk 3 rfl ?_
    rcases ite_sp h with ⟨c2, h⟩ | ⟨c2, h⟩
    · refine And.intro (fun _ => ?_) (fun hn => absurd c2 hn)
      show Ex mr_J7_fill_53178 sc (Cl MT pr sc (d + 0)) (rtE none X2 σ2) (20, [(0, .ref ar), (1, .int x1), (2, .int x2), (3, .int x3)], [], X, σ)
      refine Ex.blk 1 rfl ?_
      cases h
      exact And.intro trivial ⟨rfl, rfl, rfl⟩
    · refine And.intro (fun hp => absurd hp c2) (fun _ => ?_)
      show Ex mr_J7_fill_53178 sc (Cl MT pr sc (d + 0)) (rtE none X2 σ2) (10, [(0, .ref ar), (1, .int x1), (2, .int x2), (3, .int x3)], [], X, σ)
      refine Ex.blk 3 rfl ?_
      show Ex mr_J7_fill_53178 sc (Cl MT pr sc (d + 0)) (rtE none X2 σ2) (13, [(0, .ref ar), (1, .int x1), (2, .int x2), (3, .int x3)], [.int x1, .int x2, .ref ar], X, σ)
      obtain ⟨g1, h⟩ := gd_some h
      refine ex_iast rfl hk_ar_X g1 ?_
      show Ex mr_J7_fill_53178 sc (Cl MT pr sc (d + 0)) (rtE none X2 σ2) (14, [(0, .ref ar), (1, .int x1), (2, .int x2), (3, .int x3)], [], X, (sI σ ar x2.toNatClampNeg x1))
      refine Ex.blk 2 rfl ?_
      show Ex mr_J7_fill_53178 sc (Cl MT pr sc (d + 0)) (rtE none X2 σ2) (5, [(2, .int (x2 + 1)), (0, .ref ar), (1, .int x1), (3, .int x3)], [], X, (sI σ ar x2.toNatClampNeg x1))
      show Ex mr_J7_fill_53178 sc (Cl MT pr sc (d + 0)) (rtE none X2 σ2) (5, [(2, .int (x2 + 1)), (0, .ref ar), (1, .int x1), (3, .int x3)], [], X, (sI σ ar x2.toNatClampNeg x1))
      refine Ex.pick (lv' := _) [1, 2, 0, 3] rfl ?_
      exact ih _ _ _ _ _ h
theorem ce_J7_fill_53178 {pr : Ct} {sc : Nat × (Nat → Int32)} (d : Nat)  {X2 : En} {σ2 : St} {ar : Nat} {x1 : Int32} {X : En} {σ : St} (h : e_J7_fill_53178 ar x1 X σ = some (X2, σ2)) : Cl MT pr sc (d + 0 + 1) 62 [.ref ar, .int x1] X σ none X2 σ2 := by
  unfold e_J7_fill_53178 at h
  obtain ⟨p, hp, h⟩ := bind_sp h
  obtain ⟨hz, h⟩ := gd_some h
  cases h
  refine cl_of2 mr_J7_fill_53178 rfl rfl hz ?_
  have h := hp
  clear hp
  unfold e_J7_fill_53178_b at h
  obtain ⟨hk_ar_X, h⟩ := gd_some h
  refine Ex.blk 3 rfl ?_
  show Ex mr_J7_fill_53178 sc (Cl MT pr sc (d + 0)) (rtE none X2 σ2) (3, [(2, .int 0), (0, .ref ar), (1, .int x1)], [.ref ar], X, σ)
  refine ex_alen rfl hk_ar_X (by decide) ?_
  show Ex mr_J7_fill_53178 sc (Cl MT pr sc (d + 0)) (rtE none X2 σ2) (4, [(2, .int 0), (0, .ref ar), (1, .int x1)], [.int (Int32.ofNat (eL X ar))], X, σ)
  refine Ex.blk 1 rfl ?_
  show Ex mr_J7_fill_53178 sc (Cl MT pr sc (d + 0)) (rtE none X2 σ2) (5, [(3, .int (Int32.ofNat (eL X ar))), (2, .int 0), (0, .ref ar), (1, .int x1)], [], X, σ)
  show Ex mr_J7_fill_53178 sc (Cl MT pr sc (d + 0)) (rtE none X2 σ2) (5, [(3, .int (Int32.ofNat (eL X ar))), (2, .int 0), (0, .ref ar), (1, .int x1)], [], X, σ)
  refine Ex.pick (lv' := _) [2, 3, 1, 0] rfl ?_
  exact le_J7_fill_53178_5 d ar FU _ _ _ _ _ h
theorem ce_X7_init {pr : Ct} {sc : Nat × (Nat → Int32)} (d : Nat)  {X2 : En} {σ2 : St} {o : Nat} {x1 : Int32} {X : En} {σ : St} (h : e_X7_init o x1 X σ = some (X2, σ2)) : Cl MT pr sc (d + 1 + 1) 63 [.ref o, .int x1] X σ none X2 σ2 := by
  unfold e_X7_init at h
  obtain ⟨p, hp, h⟩ := bind_sp h
  obtain ⟨hz, h⟩ := gd_some h
  cases h
  refine cl_of2 mr_X7_init rfl rfl hz ?_
  have h := hp
  clear hp
  unfold e_X7_init_b at h
  obtain ⟨hk_o_X, h⟩ := gd_some h
  refine Ex.blk 4 rfl ?_
  show Ex mr_X7_init sc (Cl MT pr sc (d + 1)) (rtE none X2 σ2) (7, [(0, .ref o), (1, .int x1)], [.int 12, .ref o], X, σ)
  obtain ⟨t1, Y2, τ3, he4, h⟩ := mkA_sp h
  refine ex_nwa rfl (by decide) he4 ?_
  show Ex mr_X7_init sc (Cl MT pr sc (d + 1)) (rtE none X2 σ2) (9, [(0, .ref o), (1, .int x1)], [.ref t1, .ref o], Y2, τ3)
  obtain ⟨hk_o_Y2, h⟩ := gd_some h
  obtain ⟨hk_t1_Y2, h⟩ := gd_some h
  obtain ⟨Y5, he6, h⟩ := ptS_sp h
  refine ex_putS rfl hk_o_Y2 rfl he6 ?_
  show Ex mr_X7_init sc (Cl MT pr sc (d + 1)) (rtE none X2 σ2) (12, [(0, .ref o), (1, .int x1)], [], Y5, τ3)
  obtain ⟨hk_o_Y5, h⟩ := gd_some h
  refine Ex.blk 2 rfl ?_
  show Ex mr_X7_init sc (Cl MT pr sc (d + 1)) (rtE none X2 σ2) (15, [(0, .ref o), (1, .int x1)], [.int 12, .ref o], Y5, τ3)
  obtain ⟨t7, Y8, τ9, he10, h⟩ := mkA_sp h
  refine ex_nwa rfl (by decide) he10 ?_
  show Ex mr_X7_init sc (Cl MT pr sc (d + 1)) (rtE none X2 σ2) (17, [(0, .ref o), (1, .int x1)], [.ref t7, .ref o], Y8, τ9)
  obtain ⟨hk_o_Y8, h⟩ := gd_some h
  obtain ⟨hk_t7_Y8, h⟩ := gd_some h
  obtain ⟨Y11, he12, h⟩ := ptS_sp h
  refine ex_putS rfl hk_o_Y8 rfl he12 ?_
  show Ex mr_X7_init sc (Cl MT pr sc (d + 1)) (rtE none X2 σ2) (20, [(0, .ref o), (1, .int x1)], [], Y11, τ9)
  obtain ⟨hk_o_Y11, h⟩ := gd_some h
  refine Ex.blk 2 rfl ?_
  show Ex mr_X7_init sc (Cl MT pr sc (d + 1)) (rtE none X2 σ2) (23, [(0, .ref o), (1, .int x1)], [.int 12, .ref o], Y11, τ9)
  obtain ⟨t13, Y14, τ15, he16, h⟩ := mkA_sp h
  refine ex_nwa rfl (by decide) he16 ?_
  show Ex mr_X7_init sc (Cl MT pr sc (d + 1)) (rtE none X2 σ2) (25, [(0, .ref o), (1, .int x1)], [.ref t13, .ref o], Y14, τ15)
  obtain ⟨hk_o_Y14, h⟩ := gd_some h
  obtain ⟨hk_t13_Y14, h⟩ := gd_some h
  obtain ⟨Y17, he18, h⟩ := ptS_sp h
  refine ex_putS rfl hk_o_Y14 rfl he18 ?_
  show Ex mr_X7_init sc (Cl MT pr sc (d + 1)) (rtE none X2 σ2) (28, [(0, .ref o), (1, .int x1)], [], Y17, τ15)
  obtain ⟨hk_o_Y17, h⟩ := gd_some h
  refine Ex.blk 2 rfl ?_
  show Ex mr_X7_init sc (Cl MT pr sc (d + 1)) (rtE none X2 σ2) (30, [(0, .ref o), (1, .int x1)], [.int x1, .ref o], Y17, τ15)
  refine ex_putI rfl hk_o_Y17 rfl ?_
  show Ex mr_X7_init sc (Cl MT pr sc (d + 1)) (rtE none X2 σ2) (33, [(0, .ref o), (1, .int x1)], [], Y17, (sI τ15 o 0 x1))
  refine Ex.blk 1 rfl ?_
  show Ex mr_X7_init sc (Cl MT pr sc (d + 1)) (rtE none X2 σ2) (34, [(0, .ref o), (1, .int x1)], [.ref o], Y17, (sI τ15 o 0 x1))
  obtain ⟨b19, hb20, h⟩ := bind_sp h
  refine ex_get rfl hk_o_Y17 (congrArg orv hb20) ?_
  show Ex mr_X7_init sc (Cl MT pr sc (d + 1)) (rtE none X2 σ2) (37, [(0, .ref o), (1, .int x1)], [.ref b19], Y17, (sI τ15 o 0 x1))
  obtain ⟨hk_b19_Y17, h⟩ := gd_some h
  refine Ex.blk 1 rfl ?_
  show Ex mr_X7_init sc (Cl MT pr sc (d + 1)) (rtE none X2 σ2) (39, [(0, .ref o), (1, .int x1)], [.int 9, .ref b19], Y17, (sI τ15 o 0 x1))
  obtain ⟨p21, hp21, h⟩ := bind_sp h
  refine Ex.blk 1 rfl ?_
  refine Exists.intro none (Exists.intro p21.1 (Exists.intro p21.2 (And.intro (ce_J7_fill_53178 (d + 0) hp21) ?_)))
  show Ex mr_X7_init sc (Cl MT pr sc (d + 1)) (rtE none X2 σ2) (42, [(0, .ref o), (1, .int x1)], [], p21.1, p21.2)
  obtain ⟨hk_o_p21_1, h⟩ := gd_some h
  refine Ex.blk 1 rfl ?_
  cases h
  exact And.intro trivial ⟨rfl, rfl, rfl⟩
theorem ce_X2_init {pr : Ct} {sc : Nat × (Nat → Int32)} (d : Nat)  {X2 : En} {σ2 : St} {o : Nat} {X : En} {σ : St} (h : e_X2_init o X σ = some (X2, σ2)) : Cl MT pr sc (d + 0 + 1) 23 [.ref o] X σ none X2 σ2 := by
  unfold e_X2_init at h
  obtain ⟨p, hp, h⟩ := bind_sp h
  obtain ⟨hz, h⟩ := gd_some h
  cases h
  refine cl_of2 mr_X2_init rfl rfl hz ?_
  have h := hp
  clear hp
  unfold e_X2_init_b at h
  obtain ⟨hk_o_X, h⟩ := gd_some h
  refine Ex.blk 4 rfl ?_
  show Ex mr_X2_init sc (Cl MT pr sc (d + 0)) (rtE none X2 σ2) (8, [(0, .ref o)], [.int 320, .ref o], X, σ)
  obtain ⟨t1, Y2, τ3, he4, h⟩ := mkA_sp h
  refine ex_nwa rfl (by decide) he4 ?_
  show Ex mr_X2_init sc (Cl MT pr sc (d + 0)) (rtE none X2 σ2) (10, [(0, .ref o)], [.ref t1, .ref o], Y2, τ3)
  obtain ⟨hk_o_Y2, h⟩ := gd_some h
  obtain ⟨hk_t1_Y2, h⟩ := gd_some h
  obtain ⟨Y5, he6, h⟩ := ptS_sp h
  refine ex_putS rfl hk_o_Y2 rfl he6 ?_
  show Ex mr_X2_init sc (Cl MT pr sc (d + 0)) (rtE none X2 σ2) (13, [(0, .ref o)], [], Y5, τ3)
  obtain ⟨hk_o_Y5, h⟩ := gd_some h
  refine Ex.blk 1 rfl ?_
  cases h
  exact And.intro trivial ⟨rfl, rfl, rfl⟩
theorem ce_X5_init {pr : Ct} {sc : Nat × (Nat → Int32)} (d : Nat)  {X2 : En} {σ2 : St} {o : Nat} {X : En} {σ : St} (h : e_X5_init o X σ = some (X2, σ2)) : Cl MT pr sc (d + 0 + 1) 47 [.ref o] X σ none X2 σ2 := by
  unfold e_X5_init at h
  obtain ⟨p, hp, h⟩ := bind_sp h
  obtain ⟨hz, h⟩ := gd_some h
  cases h
  refine cl_of2 mr_X5_init rfl rfl hz ?_
  have h := hp
  clear hp
  unfold e_X5_init_b at h
  obtain ⟨hk_o_X, h⟩ := gd_some h
  refine Ex.blk 4 rfl ?_
  show Ex mr_X5_init sc (Cl MT pr sc (d + 0)) (rtE none X2 σ2) (8, [(0, .ref o)], [.int 160, .ref o], X, σ)
  obtain ⟨t1, Y2, τ3, he4, h⟩ := mkA_sp h
  refine ex_nwa rfl (by decide) he4 ?_
  show Ex mr_X5_init sc (Cl MT pr sc (d + 0)) (rtE none X2 σ2) (10, [(0, .ref o)], [.ref t1, .ref o], Y2, τ3)
  obtain ⟨hk_o_Y2, h⟩ := gd_some h
  obtain ⟨hk_t1_Y2, h⟩ := gd_some h
  obtain ⟨Y5, he6, h⟩ := ptS_sp h
  refine ex_putS rfl hk_o_Y2 rfl he6 ?_
  show Ex mr_X5_init sc (Cl MT pr sc (d + 0)) (rtE none X2 σ2) (13, [(0, .ref o)], [], Y5, τ3)
  obtain ⟨hk_o_Y5, h⟩ := gd_some h
  refine Ex.blk 2 rfl ?_
  show Ex mr_X5_init sc (Cl MT pr sc (d + 0)) (rtE none X2 σ2) (16, [(0, .ref o)], [.int 36, .ref o], Y5, τ3)
  obtain ⟨t7, Y8, τ9, he10, h⟩ := mkA_sp h
  refine ex_nwa rfl (by decide) he10 ?_
  show Ex mr_X5_init sc (Cl MT pr sc (d + 0)) (rtE none X2 σ2) (18, [(0, .ref o)], [.ref t7, .ref o], Y8, τ9)
  obtain ⟨hk_o_Y8, h⟩ := gd_some h
  obtain ⟨hk_t7_Y8, h⟩ := gd_some h
  obtain ⟨Y11, he12, h⟩ := ptS_sp h
  refine ex_putS rfl hk_o_Y8 rfl he12 ?_
  show Ex mr_X5_init sc (Cl MT pr sc (d + 0)) (rtE none X2 σ2) (21, [(0, .ref o)], [], Y11, τ9)
  obtain ⟨hk_o_Y11, h⟩ := gd_some h
  refine Ex.blk 1 rfl ?_
  cases h
  exact And.intro trivial ⟨rfl, rfl, rfl⟩
theorem le_X1_init_30 {pr : Ct} {sc : Nat × (Nat → Int32)} (d : Nat) (o : Nat)  {X2 : En} {σ2 : St} : ∀ (n : Nat) (x1 : Int32) (X : En) (σ : St), e_X1_init_30 o n x1 X σ = some (X2, σ2) → Ex mr_X1_init sc (Cl MT pr sc (d + 0)) (rtE none X2 σ2) (30, [(0, .ref o), (1, .int x1)], [], X, σ) := by
  intro n
  induction n with
  | zero =>
    intro x1 X σ h
    cases h
  | succ n ih =>
    intro x1 X σ h
    simp only [e_X1_init_30] at h
    obtain ⟨hk_o_X, h⟩ := gd_some h
    refine Ex.blk 3 rfl ?_
    rcases ite_sp h with ⟨c18, h⟩ | ⟨c18, h⟩
    · refine And.intro (fun _ => ?_) (fun hn => absurd c18 hn)
      show Ex mr_X1_init sc (Cl MT pr sc (d + 0)) (rtE none X2 σ2) (53, [(0, .ref o), (1, .int x1)], [], X, σ)
      refine Ex.blk 1 rfl ?_
      cases h
      exact And.intro trivial ⟨rfl, rfl, rfl⟩
    · refine And.intro (fun hp => absurd hp c18) (fun _ => ?_)
      show Ex mr_X1_init sc (Cl MT pr sc (d + 0)) (rtE none X2 σ2) (36, [(0, .ref o), (1, .int x1)], [], X, σ)
      refine Ex.blk 1 rfl ?_
      show Ex mr_X1_init sc (Cl MT pr sc (d + 0)) (rtE none X2 σ2) (37, [(0, .ref o), (1, .int x1)], [.ref o], X, σ)
      obtain ⟨b15, hb16, h⟩ := bind_sp h
      refine ex_get rfl hk_o_X (congrArg orv hb16) ?_
      show Ex mr_X1_init sc (Cl MT pr sc (d + 0)) (rtE none X2 σ2) (40, [(0, .ref o), (1, .int x1)], [.ref b15], X, σ)
      obtain ⟨hk_b15_X, h⟩ := gd_some h
      refine Ex.blk 4 rfl ?_
      show Ex mr_X1_init sc (Cl MT pr sc (d + 0)) (rtE none X2 σ2) (46, [(0, .ref o), (1, .int x1)], [.int 100, .int (11 * x1), .ref b15], X, σ)
      obtain ⟨g17, h⟩ := gd_some h
      refine ex_iast rfl hk_b15_X g17 ?_
      show Ex mr_X1_init sc (Cl MT pr sc (d + 0)) (rtE none X2 σ2) (47, [(0, .ref o), (1, .int x1)], [], X, (sI σ b15 (11 * x1).toNatClampNeg 100))
      refine Ex.blk 2 rfl ?_
      show Ex mr_X1_init sc (Cl MT pr sc (d + 0)) (rtE none X2 σ2) (30, [(1, .int (x1 + 1)), (0, .ref o)], [], X, (sI σ b15 (11 * x1).toNatClampNeg 100))
      show Ex mr_X1_init sc (Cl MT pr sc (d + 0)) (rtE none X2 σ2) (30, [(1, .int (x1 + 1)), (0, .ref o)], [], X, (sI σ b15 (11 * x1).toNatClampNeg 100))
      refine Ex.pick (lv' := _) [1, 0] rfl ?_
      exact ih _ _ _ h
theorem ce_X1_init {pr : Ct} {sc : Nat × (Nat → Int32)} (d : Nat)  {X2 : En} {σ2 : St} {o : Nat} {X : En} {σ : St} (h : e_X1_init o X σ = some (X2, σ2)) : Cl MT pr sc (d + 0 + 1) 14 [.ref o] X σ none X2 σ2 := by
  unfold e_X1_init at h
  obtain ⟨p, hp, h⟩ := bind_sp h
  obtain ⟨hz, h⟩ := gd_some h
  cases h
  refine cl_of2 mr_X1_init rfl rfl hz ?_
  have h := hp
  clear hp
  unfold e_X1_init_b at h
  obtain ⟨hk_o_X, h⟩ := gd_some h
  refine Ex.blk 4 rfl ?_
  show Ex mr_X1_init sc (Cl MT pr sc (d + 0)) (rtE none X2 σ2) (7, [(0, .ref o)], [.int 100, .ref o], X, σ)
  obtain ⟨t1, Y2, τ3, he4, h⟩ := mkA_sp h
  refine ex_nwa rfl (by decide) he4 ?_
  show Ex mr_X1_init sc (Cl MT pr sc (d + 0)) (rtE none X2 σ2) (9, [(0, .ref o)], [.ref t1, .ref o], Y2, τ3)
  obtain ⟨hk_o_Y2, h⟩ := gd_some h
  obtain ⟨hk_t1_Y2, h⟩ := gd_some h
  obtain ⟨Y5, he6, h⟩ := ptS_sp h
  refine ex_putS rfl hk_o_Y2 rfl he6 ?_
  show Ex mr_X1_init sc (Cl MT pr sc (d + 0)) (rtE none X2 σ2) (12, [(0, .ref o)], [], Y5, τ3)
  obtain ⟨hk_o_Y5, h⟩ := gd_some h
  refine Ex.blk 2 rfl ?_
  show Ex mr_X1_init sc (Cl MT pr sc (d + 0)) (rtE none X2 σ2) (15, [(0, .ref o)], [.int 99, .ref o], Y5, τ3)
  obtain ⟨t7, Y8, τ9, he10, h⟩ := mkA_sp h
  refine ex_nwa rfl (by decide) he10 ?_
  show Ex mr_X1_init sc (Cl MT pr sc (d + 0)) (rtE none X2 σ2) (17, [(0, .ref o)], [.ref t7, .ref o], Y8, τ9)
  obtain ⟨hk_o_Y8, h⟩ := gd_some h
  obtain ⟨hk_t7_Y8, h⟩ := gd_some h
  refine ex_putM rfl hk_o_Y8 rfl ?_
  show Ex mr_X1_init sc (Cl MT pr sc (d + 0)) (rtE none X2 σ2) (20, [(0, .ref o)], [], Y8, (sR τ9 o 1 (some t7)))
  refine Ex.blk 2 rfl ?_
  show Ex mr_X1_init sc (Cl MT pr sc (d + 0)) (rtE none X2 σ2) (23, [(0, .ref o)], [.int 99, .ref o], Y8, (sR τ9 o 1 (some t7)))
  obtain ⟨t11, Y12, τ13, he14, h⟩ := mkA_sp h
  refine ex_nwa rfl (by decide) he14 ?_
  show Ex mr_X1_init sc (Cl MT pr sc (d + 0)) (rtE none X2 σ2) (25, [(0, .ref o)], [.ref t11, .ref o], Y12, τ13)
  obtain ⟨hk_o_Y12, h⟩ := gd_some h
  obtain ⟨hk_t11_Y12, h⟩ := gd_some h
  refine ex_putM rfl hk_o_Y12 rfl ?_
  show Ex mr_X1_init sc (Cl MT pr sc (d + 0)) (rtE none X2 σ2) (28, [(0, .ref o)], [], Y12, (sR τ13 o 2 (some t11)))
  refine Ex.blk 2 rfl ?_
  show Ex mr_X1_init sc (Cl MT pr sc (d + 0)) (rtE none X2 σ2) (30, [(1, .int 0), (0, .ref o)], [], Y12, (sR τ13 o 2 (some t11)))
  show Ex mr_X1_init sc (Cl MT pr sc (d + 0)) (rtE none X2 σ2) (30, [(1, .int 0), (0, .ref o)], [], Y12, (sR τ13 o 2 (some t11)))
  refine Ex.pick (lv' := _) [1, 0] rfl ?_
  exact le_X1_init_30 d o FU _ _ _ h
theorem ce_X3_init {pr : Ct} {sc : Nat × (Nat → Int32)} (d : Nat)  {X2 : En} {σ2 : St} {o : Nat} {X : En} {σ : St} (h : e_X3_init o X σ = some (X2, σ2)) : Cl MT pr sc (d + 0 + 1) 29 [.ref o] X σ none X2 σ2 := by
  unfold e_X3_init at h
  obtain ⟨p, hp, h⟩ := bind_sp h
  obtain ⟨hz, h⟩ := gd_some h
  cases h
  refine cl_of2 mr_X3_init rfl rfl hz ?_
  have h := hp
  clear hp
  unfold e_X3_init_b at h
  obtain ⟨hk_o_X, h⟩ := gd_some h
  refine Ex.blk 4 rfl ?_
  show Ex mr_X3_init sc (Cl MT pr sc (d + 0)) (rtE none X2 σ2) (7, [(0, .ref o)], [.int 8, .ref o], X, σ)
  obtain ⟨t1, Y2, τ3, he4, h⟩ := mkA_sp h
  refine ex_nwa rfl (by decide) he4 ?_
  show Ex mr_X3_init sc (Cl MT pr sc (d + 0)) (rtE none X2 σ2) (9, [(0, .ref o)], [.ref t1, .ref o], Y2, τ3)
  obtain ⟨hk_o_Y2, h⟩ := gd_some h
  obtain ⟨hk_t1_Y2, h⟩ := gd_some h
  obtain ⟨Y5, he6, h⟩ := ptS_sp h
  refine ex_putS rfl hk_o_Y2 rfl he6 ?_
  show Ex mr_X3_init sc (Cl MT pr sc (d + 0)) (rtE none X2 σ2) (12, [(0, .ref o)], [], Y5, τ3)
  obtain ⟨hk_o_Y5, h⟩ := gd_some h
  refine Ex.blk 1 rfl ?_
  cases h
  exact And.intro trivial ⟨rfl, rfl, rfl⟩
theorem ce_X6_init {pr : Ct} {sc : Nat × (Nat → Int32)} (d : Nat)  {X2 : En} {σ2 : St} {o : Nat} {X : En} {σ : St} (h : e_X6_init o X σ = some (X2, σ2)) : Cl MT pr sc (d + 0 + 1) 56 [.ref o] X σ none X2 σ2 := by
  unfold e_X6_init at h
  obtain ⟨p, hp, h⟩ := bind_sp h
  obtain ⟨hz, h⟩ := gd_some h
  cases h
  refine cl_of2 mr_X6_init rfl rfl hz ?_
  have h := hp
  clear hp
  unfold e_X6_init_b at h
  obtain ⟨hk_o_X, h⟩ := gd_some h
  refine Ex.blk 4 rfl ?_
  show Ex mr_X6_init sc (Cl MT pr sc (d + 0)) (rtE none X2 σ2) (7, [(0, .ref o)], [.int 24, .ref o], X, σ)
  obtain ⟨t1, Y2, τ3, he4, h⟩ := mkA_sp h
  refine ex_nwa rfl (by decide) he4 ?_
  show Ex mr_X6_init sc (Cl MT pr sc (d + 0)) (rtE none X2 σ2) (9, [(0, .ref o)], [.ref t1, .ref o], Y2, τ3)
  obtain ⟨hk_o_Y2, h⟩ := gd_some h
  obtain ⟨hk_t1_Y2, h⟩ := gd_some h
  obtain ⟨Y5, he6, h⟩ := ptS_sp h
  refine ex_putS rfl hk_o_Y2 rfl he6 ?_
  show Ex mr_X6_init sc (Cl MT pr sc (d + 0)) (rtE none X2 σ2) (12, [(0, .ref o)], [], Y5, τ3)
  obtain ⟨hk_o_Y5, h⟩ := gd_some h
  refine Ex.blk 2 rfl ?_
  show Ex mr_X6_init sc (Cl MT pr sc (d + 0)) (rtE none X2 σ2) (15, [(0, .ref o)], [.int 24, .ref o], Y5, τ3)
  obtain ⟨t7, Y8, τ9, he10, h⟩ := mkA_sp h
  refine ex_nwa rfl (by decide) he10 ?_
  show Ex mr_X6_init sc (Cl MT pr sc (d + 0)) (rtE none X2 σ2) (17, [(0, .ref o)], [.ref t7, .ref o], Y8, τ9)
  obtain ⟨hk_o_Y8, h⟩ := gd_some h
  obtain ⟨hk_t7_Y8, h⟩ := gd_some h
  obtain ⟨Y11, he12, h⟩ := ptS_sp h
  refine ex_putS rfl hk_o_Y8 rfl he12 ?_
  show Ex mr_X6_init sc (Cl MT pr sc (d + 0)) (rtE none X2 σ2) (20, [(0, .ref o)], [], Y11, τ9)
  obtain ⟨hk_o_Y11, h⟩ := gd_some h
  refine Ex.blk 2 rfl ?_
  show Ex mr_X6_init sc (Cl MT pr sc (d + 0)) (rtE none X2 σ2) (23, [(0, .ref o)], [.int 24, .ref o], Y11, τ9)
  obtain ⟨t13, Y14, τ15, he16, h⟩ := mkA_sp h
  refine ex_nwa rfl (by decide) he16 ?_
  show Ex mr_X6_init sc (Cl MT pr sc (d + 0)) (rtE none X2 σ2) (25, [(0, .ref o)], [.ref t13, .ref o], Y14, τ15)
  obtain ⟨hk_o_Y14, h⟩ := gd_some h
  obtain ⟨hk_t13_Y14, h⟩ := gd_some h
  obtain ⟨Y17, he18, h⟩ := ptS_sp h
  refine ex_putS rfl hk_o_Y14 rfl he18 ?_
  show Ex mr_X6_init sc (Cl MT pr sc (d + 0)) (rtE none X2 σ2) (28, [(0, .ref o)], [], Y17, τ15)
  obtain ⟨hk_o_Y17, h⟩ := gd_some h
  refine Ex.blk 2 rfl ?_
  show Ex mr_X6_init sc (Cl MT pr sc (d + 0)) (rtE none X2 σ2) (31, [(0, .ref o)], [.int 12, .ref o], Y17, τ15)
  obtain ⟨t19, Y20, τ21, he22, h⟩ := mkA_sp h
  refine ex_nwa rfl (by decide) he22 ?_
  show Ex mr_X6_init sc (Cl MT pr sc (d + 0)) (rtE none X2 σ2) (33, [(0, .ref o)], [.ref t19, .ref o], Y20, τ21)
  obtain ⟨hk_o_Y20, h⟩ := gd_some h
  obtain ⟨hk_t19_Y20, h⟩ := gd_some h
  obtain ⟨Y23, he24, h⟩ := ptS_sp h
  refine ex_putS rfl hk_o_Y20 rfl he24 ?_
  show Ex mr_X6_init sc (Cl MT pr sc (d + 0)) (rtE none X2 σ2) (36, [(0, .ref o)], [], Y23, τ21)
  obtain ⟨hk_o_Y23, h⟩ := gd_some h
  refine Ex.blk 2 rfl ?_
  show Ex mr_X6_init sc (Cl MT pr sc (d + 0)) (rtE none X2 σ2) (39, [(0, .ref o)], [.int 12, .ref o], Y23, τ21)
  obtain ⟨t25, Y26, τ27, he28, h⟩ := mkA_sp h
  refine ex_nwa rfl (by decide) he28 ?_
  show Ex mr_X6_init sc (Cl MT pr sc (d + 0)) (rtE none X2 σ2) (41, [(0, .ref o)], [.ref t25, .ref o], Y26, τ27)
  obtain ⟨hk_o_Y26, h⟩ := gd_some h
  obtain ⟨hk_t25_Y26, h⟩ := gd_some h
  obtain ⟨Y29, he30, h⟩ := ptS_sp h
  refine ex_putS rfl hk_o_Y26 rfl he30 ?_
  show Ex mr_X6_init sc (Cl MT pr sc (d + 0)) (rtE none X2 σ2) (44, [(0, .ref o)], [], Y29, τ27)
  obtain ⟨hk_o_Y29, h⟩ := gd_some h
  refine Ex.blk 2 rfl ?_
  show Ex mr_X6_init sc (Cl MT pr sc (d + 0)) (rtE none X2 σ2) (46, [(0, .ref o)], [.int 1, .ref o], Y29, τ27)
  refine ex_putI rfl hk_o_Y29 rfl ?_
  show Ex mr_X6_init sc (Cl MT pr sc (d + 0)) (rtE none X2 σ2) (49, [(0, .ref o)], [], Y29, (sI τ27 o 5 1))
  refine Ex.blk 1 rfl ?_
  cases h
  exact And.intro trivial ⟨rfl, rfl, rfl⟩
theorem ce_X0_init {pr : Ct} {sc : Nat × (Nat → Int32)} (d : Nat)  {X2 : En} {σ2 : St} {o : Nat} {X : En} {σ : St} (h : e_X0_init o X σ = some (X2, σ2)) : Cl MT pr sc (d + 0 + 1) 0 [.ref o] X σ none X2 σ2 := by
  unfold e_X0_init at h
  obtain ⟨p, hp, h⟩ := bind_sp h
  obtain ⟨hz, h⟩ := gd_some h
  cases h
  refine cl_of2 mr_X0_init rfl rfl hz ?_
  have h := hp
  clear hp
  unfold e_X0_init_b at h
  obtain ⟨hk_o_X, h⟩ := gd_some h
  refine Ex.blk 4 rfl ?_
  show Ex mr_X0_init sc (Cl MT pr sc (d + 0)) (rtE none X2 σ2) (7, [(0, .ref o)], [.int 12, .ref o], X, σ)
  obtain ⟨t1, Y2, τ3, he4, h⟩ := mkA_sp h
  refine ex_nwa rfl (by decide) he4 ?_
  show Ex mr_X0_init sc (Cl MT pr sc (d + 0)) (rtE none X2 σ2) (9, [(0, .ref o)], [.ref t1, .ref o], Y2, τ3)
  obtain ⟨hk_o_Y2, h⟩ := gd_some h
  obtain ⟨hk_t1_Y2, h⟩ := gd_some h
  obtain ⟨Y5, he6, h⟩ := ptS_sp h
  refine ex_putS rfl hk_o_Y2 rfl he6 ?_
  show Ex mr_X0_init sc (Cl MT pr sc (d + 0)) (rtE none X2 σ2) (12, [(0, .ref o)], [], Y5, τ3)
  obtain ⟨hk_o_Y5, h⟩ := gd_some h
  refine Ex.blk 2 rfl ?_
  show Ex mr_X0_init sc (Cl MT pr sc (d + 0)) (rtE none X2 σ2) (15, [(0, .ref o)], [.int 12, .ref o], Y5, τ3)
  obtain ⟨t7, Y8, τ9, he10, h⟩ := mkA_sp h
  refine ex_nwa rfl (by decide) he10 ?_
  show Ex mr_X0_init sc (Cl MT pr sc (d + 0)) (rtE none X2 σ2) (17, [(0, .ref o)], [.ref t7, .ref o], Y8, τ9)
  obtain ⟨hk_o_Y8, h⟩ := gd_some h
  obtain ⟨hk_t7_Y8, h⟩ := gd_some h
  obtain ⟨Y11, he12, h⟩ := ptS_sp h
  refine ex_putS rfl hk_o_Y8 rfl he12 ?_
  show Ex mr_X0_init sc (Cl MT pr sc (d + 0)) (rtE none X2 σ2) (20, [(0, .ref o)], [], Y11, τ9)
  obtain ⟨hk_o_Y11, h⟩ := gd_some h
  refine Ex.blk 2 rfl ?_
  show Ex mr_X0_init sc (Cl MT pr sc (d + 0)) (rtE none X2 σ2) (23, [(0, .ref o)], [.int 12, .ref o], Y11, τ9)
  obtain ⟨t13, Y14, τ15, he16, h⟩ := mkA_sp h
  refine ex_nwa rfl (by decide) he16 ?_
  show Ex mr_X0_init sc (Cl MT pr sc (d + 0)) (rtE none X2 σ2) (25, [(0, .ref o)], [.ref t13, .ref o], Y14, τ15)
  obtain ⟨hk_o_Y14, h⟩ := gd_some h
  obtain ⟨hk_t13_Y14, h⟩ := gd_some h
  obtain ⟨Y17, he18, h⟩ := ptS_sp h
  refine ex_putS rfl hk_o_Y14 rfl he18 ?_
  show Ex mr_X0_init sc (Cl MT pr sc (d + 0)) (rtE none X2 σ2) (28, [(0, .ref o)], [], Y17, τ15)
  obtain ⟨hk_o_Y17, h⟩ := gd_some h
  refine Ex.blk 2 rfl ?_
  show Ex mr_X0_init sc (Cl MT pr sc (d + 0)) (rtE none X2 σ2) (31, [(0, .ref o)], [.int 12, .ref o], Y17, τ15)
  obtain ⟨t19, Y20, τ21, he22, h⟩ := mkA_sp h
  refine ex_nwa rfl (by decide) he22 ?_
  show Ex mr_X0_init sc (Cl MT pr sc (d + 0)) (rtE none X2 σ2) (33, [(0, .ref o)], [.ref t19, .ref o], Y20, τ21)
  obtain ⟨hk_o_Y20, h⟩ := gd_some h
  obtain ⟨hk_t19_Y20, h⟩ := gd_some h
  obtain ⟨Y23, he24, h⟩ := ptS_sp h
  refine ex_putS rfl hk_o_Y20 rfl he24 ?_
  show Ex mr_X0_init sc (Cl MT pr sc (d + 0)) (rtE none X2 σ2) (36, [(0, .ref o)], [], Y23, τ21)
  obtain ⟨hk_o_Y23, h⟩ := gd_some h
  refine Ex.blk 2 rfl ?_
  show Ex mr_X0_init sc (Cl MT pr sc (d + 0)) (rtE none X2 σ2) (39, [(0, .ref o)], [.int 12, .ref o], Y23, τ21)
  obtain ⟨t25, Y26, τ27, he28, h⟩ := mkA_sp h
  refine ex_nwa rfl (by decide) he28 ?_
  show Ex mr_X0_init sc (Cl MT pr sc (d + 0)) (rtE none X2 σ2) (41, [(0, .ref o)], [.ref t25, .ref o], Y26, τ27)
  obtain ⟨hk_o_Y26, h⟩ := gd_some h
  obtain ⟨hk_t25_Y26, h⟩ := gd_some h
  obtain ⟨Y29, he30, h⟩ := ptS_sp h
  refine ex_putS rfl hk_o_Y26 rfl he30 ?_
  show Ex mr_X0_init sc (Cl MT pr sc (d + 0)) (rtE none X2 σ2) (44, [(0, .ref o)], [], Y29, τ27)
  obtain ⟨hk_o_Y29, h⟩ := gd_some h
  refine Ex.blk 2 rfl ?_
  show Ex mr_X0_init sc (Cl MT pr sc (d + 0)) (rtE none X2 σ2) (47, [(0, .ref o)], [.int 12, .ref o], Y29, τ27)
  obtain ⟨t31, Y32, τ33, he34, h⟩ := mkA_sp h
  refine ex_nwa rfl (by decide) he34 ?_
  show Ex mr_X0_init sc (Cl MT pr sc (d + 0)) (rtE none X2 σ2) (49, [(0, .ref o)], [.ref t31, .ref o], Y32, τ33)
  obtain ⟨hk_o_Y32, h⟩ := gd_some h
  obtain ⟨hk_t31_Y32, h⟩ := gd_some h
  obtain ⟨Y35, he36, h⟩ := ptS_sp h
  refine ex_putS rfl hk_o_Y32 rfl he36 ?_
  show Ex mr_X0_init sc (Cl MT pr sc (d + 0)) (rtE none X2 σ2) (52, [(0, .ref o)], [], Y35, τ33)
  obtain ⟨hk_o_Y35, h⟩ := gd_some h
  refine Ex.blk 2 rfl ?_
  show Ex mr_X0_init sc (Cl MT pr sc (d + 0)) (rtE none X2 σ2) (55, [(0, .ref o)], [.int 12, .ref o], Y35, τ33)
  obtain ⟨t37, Y38, τ39, he40, h⟩ := mkA_sp h
  refine ex_nwa rfl (by decide) he40 ?_
  show Ex mr_X0_init sc (Cl MT pr sc (d + 0)) (rtE none X2 σ2) (57, [(0, .ref o)], [.ref t37, .ref o], Y38, τ39)
  obtain ⟨hk_o_Y38, h⟩ := gd_some h
  obtain ⟨hk_t37_Y38, h⟩ := gd_some h
  obtain ⟨Y41, he42, h⟩ := ptS_sp h
  refine ex_putS rfl hk_o_Y38 rfl he42 ?_
  show Ex mr_X0_init sc (Cl MT pr sc (d + 0)) (rtE none X2 σ2) (60, [(0, .ref o)], [], Y41, τ39)
  obtain ⟨hk_o_Y41, h⟩ := gd_some h
  refine Ex.blk 2 rfl ?_
  show Ex mr_X0_init sc (Cl MT pr sc (d + 0)) (rtE none X2 σ2) (63, [(0, .ref o)], [.int 12, .ref o], Y41, τ39)
  obtain ⟨t43, Y44, τ45, he46, h⟩ := mkA_sp h
  refine ex_nwa rfl (by decide) he46 ?_
  show Ex mr_X0_init sc (Cl MT pr sc (d + 0)) (rtE none X2 σ2) (65, [(0, .ref o)], [.ref t43, .ref o], Y44, τ45)
  obtain ⟨hk_o_Y44, h⟩ := gd_some h
  obtain ⟨hk_t43_Y44, h⟩ := gd_some h
  obtain ⟨Y47, he48, h⟩ := ptS_sp h
  refine ex_putS rfl hk_o_Y44 rfl he48 ?_
  show Ex mr_X0_init sc (Cl MT pr sc (d + 0)) (rtE none X2 σ2) (68, [(0, .ref o)], [], Y47, τ45)
  obtain ⟨hk_o_Y47, h⟩ := gd_some h
  refine Ex.blk 2 rfl ?_
  show Ex mr_X0_init sc (Cl MT pr sc (d + 0)) (rtE none X2 σ2) (71, [(0, .ref o)], [.int 12, .ref o], Y47, τ45)
  obtain ⟨t49, Y50, τ51, he52, h⟩ := mkA_sp h
  refine ex_nwa rfl (by decide) he52 ?_
  show Ex mr_X0_init sc (Cl MT pr sc (d + 0)) (rtE none X2 σ2) (73, [(0, .ref o)], [.ref t49, .ref o], Y50, τ51)
  obtain ⟨hk_o_Y50, h⟩ := gd_some h
  obtain ⟨hk_t49_Y50, h⟩ := gd_some h
  obtain ⟨Y53, he54, h⟩ := ptS_sp h
  refine ex_putS rfl hk_o_Y50 rfl he54 ?_
  show Ex mr_X0_init sc (Cl MT pr sc (d + 0)) (rtE none X2 σ2) (76, [(0, .ref o)], [], Y53, τ51)
  obtain ⟨hk_o_Y53, h⟩ := gd_some h
  refine Ex.blk 2 rfl ?_
  show Ex mr_X0_init sc (Cl MT pr sc (d + 0)) (rtE none X2 σ2) (79, [(0, .ref o)], [.int 12, .ref o], Y53, τ51)
  obtain ⟨t55, Y56, τ57, he58, h⟩ := mkA_sp h
  refine ex_nwa rfl (by decide) he58 ?_
  show Ex mr_X0_init sc (Cl MT pr sc (d + 0)) (rtE none X2 σ2) (81, [(0, .ref o)], [.ref t55, .ref o], Y56, τ57)
  obtain ⟨hk_o_Y56, h⟩ := gd_some h
  obtain ⟨hk_t55_Y56, h⟩ := gd_some h
  obtain ⟨Y59, he60, h⟩ := ptS_sp h
  refine ex_putS rfl hk_o_Y56 rfl he60 ?_
  show Ex mr_X0_init sc (Cl MT pr sc (d + 0)) (rtE none X2 σ2) (84, [(0, .ref o)], [], Y59, τ57)
  obtain ⟨hk_o_Y59, h⟩ := gd_some h
  refine Ex.blk 1 rfl ?_
  cases h
  exact And.intro trivial ⟨rfl, rfl, rfl⟩
theorem ce_X9_init {pr : Ct} {sc : Nat × (Nat → Int32)} (d : Nat)  {X2 : En} {σ2 : St} {o : Nat} {x1 : Int32} {X : En} {σ : St} (h : e_X9_init o x1 X σ = some (X2, σ2)) : Cl MT pr sc (d + 2 + 1) 81 [.ref o, .int x1] X σ none X2 σ2 := by
  unfold e_X9_init at h
  obtain ⟨p, hp, h⟩ := bind_sp h
  obtain ⟨hz, h⟩ := gd_some h
  cases h
  refine cl_of2 mr_X9_init rfl rfl hz ?_
  have h := hp
  clear hp
  unfold e_X9_init_b at h
  obtain ⟨hk_o_X, h⟩ := gd_some h
  refine Ex.blk 3 rfl ?_
  show Ex mr_X9_init sc (Cl MT pr sc (d + 2)) (rtE none X2 σ2) (5, [(0, .ref o), (1, .int x1)], [.ref o], X, σ)
  obtain ⟨t1, Y2, τ3, he4, h⟩ := mkO_sp h
  refine ex_new rfl he4 ?_
  show Ex mr_X9_init sc (Cl MT pr sc (d + 2)) (rtE none X2 σ2) (8, [(0, .ref o), (1, .int x1)], [.ref t1, .ref o], Y2, τ3)
  obtain ⟨hk_o_Y2, h⟩ := gd_some h
  obtain ⟨hk_t1_Y2, h⟩ := gd_some h
  refine Ex.blk 5 rfl ?_
  show Ex mr_X9_init sc (Cl MT pr sc (d + 2)) (rtE none X2 σ2) (16, [(0, .ref o), (1, .int x1)], [.int (mnI 12 x1), .int 2, .ref t1, .ref t1, .ref o], Y2, τ3)
  refine Ex.blk 1 rfl ?_
  show Ex mr_X9_init sc (Cl MT pr sc (d + 2)) (rtE none X2 σ2) (19, [(0, .ref o), (1, .int x1)], [.int (mxI 2 (mnI 12 x1)), .ref t1, .ref t1, .ref o], Y2, τ3)
  obtain ⟨p5, hp5, h⟩ := bind_sp h
  refine Ex.blk 1 rfl ?_
  refine Exists.intro none (Exists.intro p5.1 (Exists.intro p5.2 (And.intro (ce_X7_init (d + 0) hp5) ?_)))
  show Ex mr_X9_init sc (Cl MT pr sc (d + 2)) (rtE none X2 σ2) (22, [(0, .ref o), (1, .int x1)], [.ref t1, .ref o], p5.1, p5.2)
  obtain ⟨hk_o_p5_1, h⟩ := gd_some h
  obtain ⟨hk_t1_p5_1, h⟩ := gd_some h
  obtain ⟨Y6, he7, h⟩ := ptS_sp h
  refine ex_putS rfl hk_o_p5_1 rfl he7 ?_
  show Ex mr_X9_init sc (Cl MT pr sc (d + 2)) (rtE none X2 σ2) (25, [(0, .ref o), (1, .int x1)], [], Y6, p5.2)
  obtain ⟨hk_o_Y6, h⟩ := gd_some h
  refine Ex.blk 1 rfl ?_
  show Ex mr_X9_init sc (Cl MT pr sc (d + 2)) (rtE none X2 σ2) (26, [(0, .ref o), (1, .int x1)], [.ref o], Y6, p5.2)
  obtain ⟨t8, Y9, τ10, he11, h⟩ := mkO_sp h
  refine ex_new rfl he11 ?_
  show Ex mr_X9_init sc (Cl MT pr sc (d + 2)) (rtE none X2 σ2) (29, [(0, .ref o), (1, .int x1)], [.ref t8, .ref o], Y9, τ10)
  obtain ⟨hk_o_Y9, h⟩ := gd_some h
  obtain ⟨hk_t8_Y9, h⟩ := gd_some h
  refine Ex.blk 2 rfl ?_
  show Ex mr_X9_init sc (Cl MT pr sc (d + 2)) (rtE none X2 σ2) (31, [(0, .ref o), (1, .int x1)], [.ref o, .ref t8, .ref t8, .ref o], Y9, τ10)
  obtain ⟨b12, hb13, h⟩ := bind_sp h
  refine ex_get rfl hk_o_Y9 (congrArg orv hb13) ?_
  show Ex mr_X9_init sc (Cl MT pr sc (d + 2)) (rtE none X2 σ2) (34, [(0, .ref o), (1, .int x1)], [.ref b12, .ref t8, .ref t8, .ref o], Y9, τ10)
  obtain ⟨hk_b12_Y9, h⟩ := gd_some h
  refine ex_get rfl hk_b12_Y9 rfl ?_
  show Ex mr_X9_init sc (Cl MT pr sc (d + 2)) (rtE none X2 σ2) (37, [(0, .ref o), (1, .int x1)], [.int (gI τ10 b12 0), .ref t8, .ref t8, .ref o], Y9, τ10)
  obtain ⟨p14, hp14, h⟩ := bind_sp h
  refine Ex.blk 1 rfl ?_
  refine Exists.intro none (Exists.intro p14.1 (Exists.intro p14.2 (And.intro (ce_X7_init (d + 0) hp14) ?_)))
  show Ex mr_X9_init sc (Cl MT pr sc (d + 2)) (rtE none X2 σ2) (40, [(0, .ref o), (1, .int x1)], [.ref t8, .ref o], p14.1, p14.2)
  obtain ⟨hk_o_p14_1, h⟩ := gd_some h
  obtain ⟨hk_t8_p14_1, h⟩ := gd_some h
  obtain ⟨Y15, he16, h⟩ := ptS_sp h
  refine ex_putS rfl hk_o_p14_1 rfl he16 ?_
  show Ex mr_X9_init sc (Cl MT pr sc (d + 2)) (rtE none X2 σ2) (43, [(0, .ref o), (1, .int x1)], [], Y15, p14.2)
  obtain ⟨hk_o_Y15, h⟩ := gd_some h
  refine Ex.blk 1 rfl ?_
  show Ex mr_X9_init sc (Cl MT pr sc (d + 2)) (rtE none X2 σ2) (44, [(0, .ref o), (1, .int x1)], [.ref o], Y15, p14.2)
  obtain ⟨t17, Y18, τ19, he20, h⟩ := mkO_sp h
  refine ex_new rfl he20 ?_
  show Ex mr_X9_init sc (Cl MT pr sc (d + 2)) (rtE none X2 σ2) (47, [(0, .ref o), (1, .int x1)], [.ref t17, .ref o], Y18, τ19)
  obtain ⟨hk_o_Y18, h⟩ := gd_some h
  obtain ⟨hk_t17_Y18, h⟩ := gd_some h
  refine Ex.blk 1 rfl ?_
  show Ex mr_X9_init sc (Cl MT pr sc (d + 2)) (rtE none X2 σ2) (48, [(0, .ref o), (1, .int x1)], [.ref t17, .ref t17, .ref o], Y18, τ19)
  obtain ⟨p21, hp21, h⟩ := bind_sp h
  refine Ex.blk 1 rfl ?_
  refine Exists.intro none (Exists.intro p21.1 (Exists.intro p21.2 (And.intro (ce_X2_init (d + 1) hp21) ?_)))
  show Ex mr_X9_init sc (Cl MT pr sc (d + 2)) (rtE none X2 σ2) (51, [(0, .ref o), (1, .int x1)], [.ref t17, .ref o], p21.1, p21.2)
  obtain ⟨hk_o_p21_1, h⟩ := gd_some h
  obtain ⟨hk_t17_p21_1, h⟩ := gd_some h
  obtain ⟨Y22, he23, h⟩ := ptS_sp h
  refine ex_putS rfl hk_o_p21_1 rfl he23 ?_
  show Ex mr_X9_init sc (Cl MT pr sc (d + 2)) (rtE none X2 σ2) (54, [(0, .ref o), (1, .int x1)], [], Y22, p21.2)
  obtain ⟨hk_o_Y22, h⟩ := gd_some h
  refine Ex.blk 1 rfl ?_
  show Ex mr_X9_init sc (Cl MT pr sc (d + 2)) (rtE none X2 σ2) (55, [(0, .ref o), (1, .int x1)], [.ref o], Y22, p21.2)
  obtain ⟨t24, Y25, τ26, he27, h⟩ := mkO_sp h
  refine ex_new rfl he27 ?_
  show Ex mr_X9_init sc (Cl MT pr sc (d + 2)) (rtE none X2 σ2) (58, [(0, .ref o), (1, .int x1)], [.ref t24, .ref o], Y25, τ26)
  obtain ⟨hk_o_Y25, h⟩ := gd_some h
  obtain ⟨hk_t24_Y25, h⟩ := gd_some h
  refine Ex.blk 1 rfl ?_
  show Ex mr_X9_init sc (Cl MT pr sc (d + 2)) (rtE none X2 σ2) (59, [(0, .ref o), (1, .int x1)], [.ref t24, .ref t24, .ref o], Y25, τ26)
  obtain ⟨p28, hp28, h⟩ := bind_sp h
  refine Ex.blk 1 rfl ?_
  refine Exists.intro none (Exists.intro p28.1 (Exists.intro p28.2 (And.intro (ce_X5_init (d + 1) hp28) ?_)))
  show Ex mr_X9_init sc (Cl MT pr sc (d + 2)) (rtE none X2 σ2) (62, [(0, .ref o), (1, .int x1)], [.ref t24, .ref o], p28.1, p28.2)
  obtain ⟨hk_o_p28_1, h⟩ := gd_some h
  obtain ⟨hk_t24_p28_1, h⟩ := gd_some h
  obtain ⟨Y29, he30, h⟩ := ptS_sp h
  refine ex_putS rfl hk_o_p28_1 rfl he30 ?_
  show Ex mr_X9_init sc (Cl MT pr sc (d + 2)) (rtE none X2 σ2) (65, [(0, .ref o), (1, .int x1)], [], Y29, p28.2)
  obtain ⟨hk_o_Y29, h⟩ := gd_some h
  refine Ex.blk 2 rfl ?_
  show Ex mr_X9_init sc (Cl MT pr sc (d + 2)) (rtE none X2 σ2) (68, [(0, .ref o), (1, .int x1)], [.int 6, .ref o], Y29, p28.2)
  obtain ⟨t31, Y32, τ33, he34, h⟩ := mkA_sp h
  refine ex_nwr rfl (by decide) he34 ?_
  show Ex mr_X9_init sc (Cl MT pr sc (d + 2)) (rtE none X2 σ2) (71, [(0, .ref o), (1, .int x1)], [.ref t31, .ref o], Y32, τ33)
  obtain ⟨hk_o_Y32, h⟩ := gd_some h
  obtain ⟨hk_t31_Y32, h⟩ := gd_some h
  obtain ⟨Y35, he36, h⟩ := ptS_sp h
  refine ex_putS rfl hk_o_Y32 rfl he36 ?_
  show Ex mr_X9_init sc (Cl MT pr sc (d + 2)) (rtE none X2 σ2) (74, [(0, .ref o), (1, .int x1)], [], Y35, τ33)
  obtain ⟨hk_o_Y35, h⟩ := gd_some h
  refine Ex.blk 1 rfl ?_
  show Ex mr_X9_init sc (Cl MT pr sc (d + 2)) (rtE none X2 σ2) (75, [(0, .ref o), (1, .int x1)], [.ref o], Y35, τ33)
  obtain ⟨t37, Y38, τ39, he40, h⟩ := mkO_sp h
  refine ex_new rfl he40 ?_
  show Ex mr_X9_init sc (Cl MT pr sc (d + 2)) (rtE none X2 σ2) (78, [(0, .ref o), (1, .int x1)], [.ref t37, .ref o], Y38, τ39)
  obtain ⟨hk_o_Y38, h⟩ := gd_some h
  obtain ⟨hk_t37_Y38, h⟩ := gd_some h
  refine Ex.blk 1 rfl ?_
  show Ex mr_X9_init sc (Cl MT pr sc (d + 2)) (rtE none X2 σ2) (79, [(0, .ref o), (1, .int x1)], [.ref t37, .ref t37, .ref o], Y38, τ39)
  obtain ⟨p41, hp41, h⟩ := bind_sp h
  refine Ex.blk 1 rfl ?_
  refine Exists.intro none (Exists.intro p41.1 (Exists.intro p41.2 (And.intro (ce_X1_init (d + 1) hp41) ?_)))
  show Ex mr_X9_init sc (Cl MT pr sc (d + 2)) (rtE none X2 σ2) (82, [(0, .ref o), (1, .int x1)], [.ref t37, .ref o], p41.1, p41.2)
  obtain ⟨hk_o_p41_1, h⟩ := gd_some h
  obtain ⟨hk_t37_p41_1, h⟩ := gd_some h
  obtain ⟨Y42, he43, h⟩ := ptS_sp h
  refine ex_putS rfl hk_o_p41_1 rfl he43 ?_
  show Ex mr_X9_init sc (Cl MT pr sc (d + 2)) (rtE none X2 σ2) (85, [(0, .ref o), (1, .int x1)], [], Y42, p41.2)
  obtain ⟨hk_o_Y42, h⟩ := gd_some h
  refine Ex.blk 1 rfl ?_
  show Ex mr_X9_init sc (Cl MT pr sc (d + 2)) (rtE none X2 σ2) (86, [(0, .ref o), (1, .int x1)], [.ref o], Y42, p41.2)
  obtain ⟨t44, Y45, τ46, he47, h⟩ := mkO_sp h
  refine ex_new rfl he47 ?_
  show Ex mr_X9_init sc (Cl MT pr sc (d + 2)) (rtE none X2 σ2) (89, [(0, .ref o), (1, .int x1)], [.ref t44, .ref o], Y45, τ46)
  obtain ⟨hk_o_Y45, h⟩ := gd_some h
  obtain ⟨hk_t44_Y45, h⟩ := gd_some h
  refine Ex.blk 1 rfl ?_
  show Ex mr_X9_init sc (Cl MT pr sc (d + 2)) (rtE none X2 σ2) (90, [(0, .ref o), (1, .int x1)], [.ref t44, .ref t44, .ref o], Y45, τ46)
  obtain ⟨p48, hp48, h⟩ := bind_sp h
  refine Ex.blk 1 rfl ?_
  refine Exists.intro none (Exists.intro p48.1 (Exists.intro p48.2 (And.intro (ce_X3_init (d + 1) hp48) ?_)))
  show Ex mr_X9_init sc (Cl MT pr sc (d + 2)) (rtE none X2 σ2) (93, [(0, .ref o), (1, .int x1)], [.ref t44, .ref o], p48.1, p48.2)
  obtain ⟨hk_o_p48_1, h⟩ := gd_some h
  obtain ⟨hk_t44_p48_1, h⟩ := gd_some h
  obtain ⟨Y49, he50, h⟩ := ptS_sp h
  refine ex_putS rfl hk_o_p48_1 rfl he50 ?_
  show Ex mr_X9_init sc (Cl MT pr sc (d + 2)) (rtE none X2 σ2) (96, [(0, .ref o), (1, .int x1)], [], Y49, p48.2)
  obtain ⟨hk_o_Y49, h⟩ := gd_some h
  refine Ex.blk 1 rfl ?_
  show Ex mr_X9_init sc (Cl MT pr sc (d + 2)) (rtE none X2 σ2) (97, [(0, .ref o), (1, .int x1)], [.ref o], Y49, p48.2)
  obtain ⟨t51, Y52, τ53, he54, h⟩ := mkO_sp h
  refine ex_new rfl he54 ?_
  show Ex mr_X9_init sc (Cl MT pr sc (d + 2)) (rtE none X2 σ2) (100, [(0, .ref o), (1, .int x1)], [.ref t51, .ref o], Y52, τ53)
  obtain ⟨hk_o_Y52, h⟩ := gd_some h
  obtain ⟨hk_t51_Y52, h⟩ := gd_some h
  refine Ex.blk 1 rfl ?_
  show Ex mr_X9_init sc (Cl MT pr sc (d + 2)) (rtE none X2 σ2) (101, [(0, .ref o), (1, .int x1)], [.ref t51, .ref t51, .ref o], Y52, τ53)
  obtain ⟨p55, hp55, h⟩ := bind_sp h
  refine Ex.blk 1 rfl ?_
  refine Exists.intro none (Exists.intro p55.1 (Exists.intro p55.2 (And.intro (ce_X6_init (d + 1) hp55) ?_)))
  show Ex mr_X9_init sc (Cl MT pr sc (d + 2)) (rtE none X2 σ2) (104, [(0, .ref o), (1, .int x1)], [.ref t51, .ref o], p55.1, p55.2)
  obtain ⟨hk_o_p55_1, h⟩ := gd_some h
  obtain ⟨hk_t51_p55_1, h⟩ := gd_some h
  obtain ⟨Y56, he57, h⟩ := ptS_sp h
  refine ex_putS rfl hk_o_p55_1 rfl he57 ?_
  show Ex mr_X9_init sc (Cl MT pr sc (d + 2)) (rtE none X2 σ2) (107, [(0, .ref o), (1, .int x1)], [], Y56, p55.2)
  obtain ⟨hk_o_Y56, h⟩ := gd_some h
  refine Ex.blk 1 rfl ?_
  show Ex mr_X9_init sc (Cl MT pr sc (d + 2)) (rtE none X2 σ2) (108, [(0, .ref o), (1, .int x1)], [.ref o], Y56, p55.2)
  obtain ⟨t58, Y59, τ60, he61, h⟩ := mkO_sp h
  refine ex_new rfl he61 ?_
  show Ex mr_X9_init sc (Cl MT pr sc (d + 2)) (rtE none X2 σ2) (111, [(0, .ref o), (1, .int x1)], [.ref t58, .ref o], Y59, τ60)
  obtain ⟨hk_o_Y59, h⟩ := gd_some h
  obtain ⟨hk_t58_Y59, h⟩ := gd_some h
  refine Ex.blk 1 rfl ?_
  show Ex mr_X9_init sc (Cl MT pr sc (d + 2)) (rtE none X2 σ2) (112, [(0, .ref o), (1, .int x1)], [.ref t58, .ref t58, .ref o], Y59, τ60)
  obtain ⟨p62, hp62, h⟩ := bind_sp h
  refine Ex.blk 1 rfl ?_
  refine Exists.intro none (Exists.intro p62.1 (Exists.intro p62.2 (And.intro (ce_X0_init (d + 1) hp62) ?_)))
  show Ex mr_X9_init sc (Cl MT pr sc (d + 2)) (rtE none X2 σ2) (115, [(0, .ref o), (1, .int x1)], [.ref t58, .ref o], p62.1, p62.2)
  obtain ⟨hk_o_p62_1, h⟩ := gd_some h
  obtain ⟨hk_t58_p62_1, h⟩ := gd_some h
  obtain ⟨Y63, he64, h⟩ := ptS_sp h
  refine ex_putS rfl hk_o_p62_1 rfl he64 ?_
  show Ex mr_X9_init sc (Cl MT pr sc (d + 2)) (rtE none X2 σ2) (118, [(0, .ref o), (1, .int x1)], [], Y63, p62.2)
  obtain ⟨hk_o_Y63, h⟩ := gd_some h
  refine Ex.blk 2 rfl ?_
  show Ex mr_X9_init sc (Cl MT pr sc (d + 2)) (rtE none X2 σ2) (120, [(0, .ref o), (1, .int x1)], [.int 1, .ref o], Y63, p62.2)
  refine ex_putI rfl hk_o_Y63 rfl ?_
  show Ex mr_X9_init sc (Cl MT pr sc (d + 2)) (rtE none X2 σ2) (123, [(0, .ref o), (1, .int x1)], [], Y63, (sI p62.2 o 15 1))
  refine Ex.blk 2 rfl ?_
  show Ex mr_X9_init sc (Cl MT pr sc (d + 2)) (rtE none X2 σ2) (125, [(0, .ref o), (1, .int x1)], [.int 2, .ref o], Y63, (sI p62.2 o 15 1))
  refine ex_putI rfl hk_o_Y63 rfl ?_
  show Ex mr_X9_init sc (Cl MT pr sc (d + 2)) (rtE none X2 σ2) (128, [(0, .ref o), (1, .int x1)], [], Y63, (sI (sI p62.2 o 15 1) o 16 2))
  refine Ex.blk 2 rfl ?_
  show Ex mr_X9_init sc (Cl MT pr sc (d + 2)) (rtE none X2 σ2) (130, [(0, .ref o), (1, .int x1)], [.int 1, .ref o], Y63, (sI (sI p62.2 o 15 1) o 16 2))
  refine ex_putI rfl hk_o_Y63 rfl ?_
  show Ex mr_X9_init sc (Cl MT pr sc (d + 2)) (rtE none X2 σ2) (133, [(0, .ref o), (1, .int x1)], [], Y63, (sI (sI (sI p62.2 o 15 1) o 16 2) o 17 1))
  refine Ex.blk 1 rfl ?_
  cases h
  exact And.intro trivial ⟨rfl, rfl, rfl⟩
theorem le_X10_init_296 {pr : Ct} {sc : Nat × (Nat → Int32)} (d : Nat) (o : Nat)  {X2 : En} {σ2 : St} : ∀ (n : Nat) (x2 : Int32) (X : En) (σ : St), e_X10_init_296 o n x2 X σ = some (X2, σ2) → Ex mr_X10_init sc (Cl MT pr sc (d + 0)) (rtE none X2 σ2) (296, [(0, .ref o), (2, .int x2)], [], X, σ) := by
  intro n
  induction n with
  | zero =>
    intro x2 X σ h
    cases h
  | succ n ih =>
    intro x2 X σ h
    simp only [e_X10_init_296] at h
    obtain ⟨hk_o_X, h⟩ := gd_some h
    refine Ex.blk 3 rfl ?_
    rcases ite_sp h with ⟨c196, h⟩ | ⟨c196, h⟩
    · refine And.intro (fun _ => ?_) (fun hn => absurd c196 hn)
      show Ex mr_X10_init sc (Cl MT pr sc (d + 0)) (rtE none X2 σ2) (316, [(0, .ref o), (2, .int x2)], [], X, σ)
      refine Ex.blk 1 rfl ?_
      cases h
      exact And.intro trivial ⟨rfl, rfl, rfl⟩
    · refine And.intro (fun hp => absurd hp c196) (fun _ => ?_)
      show Ex mr_X10_init sc (Cl MT pr sc (d + 0)) (rtE none X2 σ2) (302, [(0, .ref o), (2, .int x2)], [], X, σ)
      refine Ex.blk 1 rfl ?_
      show Ex mr_X10_init sc (Cl MT pr sc (d + 0)) (rtE none X2 σ2) (303, [(0, .ref o), (2, .int x2)], [.ref o], X, σ)
      obtain ⟨b193, hb194, h⟩ := bind_sp h
      refine ex_get rfl hk_o_X (congrArg orv hb194) ?_
      show Ex mr_X10_init sc (Cl MT pr sc (d + 0)) (rtE none X2 σ2) (306, [(0, .ref o), (2, .int x2)], [.ref b193], X, σ)
      obtain ⟨hk_b193_X, h⟩ := gd_some h
      refine Ex.blk 2 rfl ?_
      show Ex mr_X10_init sc (Cl MT pr sc (d + 0)) (rtE none X2 σ2) (309, [(0, .ref o), (2, .int x2)], [.int 9, .int x2, .ref b193], X, σ)
      obtain ⟨g195, h⟩ := gd_some h
      refine ex_iast rfl hk_b193_X g195 ?_
      show Ex mr_X10_init sc (Cl MT pr sc (d + 0)) (rtE none X2 σ2) (310, [(0, .ref o), (2, .int x2)], [], X, (sI σ b193 x2.toNatClampNeg 9))
      refine Ex.blk 2 rfl ?_
      show Ex mr_X10_init sc (Cl MT pr sc (d + 0)) (rtE none X2 σ2) (296, [(2, .int (x2 + 1)), (0, .ref o)], [], X, (sI σ b193 x2.toNatClampNeg 9))
      show Ex mr_X10_init sc (Cl MT pr sc (d + 0)) (rtE none X2 σ2) (296, [(2, .int (x2 + 1)), (0, .ref o)], [], X, (sI σ b193 x2.toNatClampNeg 9))
      refine Ex.pick (lv' := _) [1, 0] rfl ?_
      exact ih _ _ _ h
theorem ce_X10_init {pr : Ct} {sc : Nat × (Nat → Int32)} (d : Nat)  {X2 : En} {σ2 : St} {o : Nat} {x1 : Int32} {X : En} {σ : St} (h : e_X10_init o x1 X σ = some (X2, σ2)) : Cl MT pr sc (d + 0 + 1) 150 [.ref o, .int x1] X σ none X2 σ2 := by
  unfold e_X10_init at h
  obtain ⟨p, hp, h⟩ := bind_sp h
  obtain ⟨hz, h⟩ := gd_some h
  cases h
  refine cl_of2 mr_X10_init rfl rfl hz ?_
  have h := hp
  clear hp
  unfold e_X10_init_b at h
  obtain ⟨hk_o_X, h⟩ := gd_some h
  refine Ex.blk 4 rfl ?_
  show Ex mr_X10_init sc (Cl MT pr sc (d + 0)) (rtE none X2 σ2) (8, [(0, .ref o), (1, .int x1)], [.int 160, .ref o], X, σ)
  obtain ⟨t1, Y2, τ3, he4, h⟩ := mkA_sp h
  refine ex_nwa rfl (by decide) he4 ?_
  show Ex mr_X10_init sc (Cl MT pr sc (d + 0)) (rtE none X2 σ2) (10, [(0, .ref o), (1, .int x1)], [.ref t1, .ref o], Y2, τ3)
  obtain ⟨hk_o_Y2, h⟩ := gd_some h
  obtain ⟨hk_t1_Y2, h⟩ := gd_some h
  obtain ⟨Y5, he6, h⟩ := ptS_sp h
  refine ex_putS rfl hk_o_Y2 rfl he6 ?_
  show Ex mr_X10_init sc (Cl MT pr sc (d + 0)) (rtE none X2 σ2) (13, [(0, .ref o), (1, .int x1)], [], Y5, τ3)
  obtain ⟨hk_o_Y5, h⟩ := gd_some h
  refine Ex.blk 2 rfl ?_
  show Ex mr_X10_init sc (Cl MT pr sc (d + 0)) (rtE none X2 σ2) (16, [(0, .ref o), (1, .int x1)], [.int 84, .ref o], Y5, τ3)
  obtain ⟨t7, Y8, τ9, he10, h⟩ := mkA_sp h
  refine ex_nwa rfl (by decide) he10 ?_
  show Ex mr_X10_init sc (Cl MT pr sc (d + 0)) (rtE none X2 σ2) (18, [(0, .ref o), (1, .int x1)], [.ref t7, .ref o], Y8, τ9)
  obtain ⟨hk_o_Y8, h⟩ := gd_some h
  obtain ⟨hk_t7_Y8, h⟩ := gd_some h
  obtain ⟨Y11, he12, h⟩ := ptS_sp h
  refine ex_putS rfl hk_o_Y8 rfl he12 ?_
  show Ex mr_X10_init sc (Cl MT pr sc (d + 0)) (rtE none X2 σ2) (21, [(0, .ref o), (1, .int x1)], [], Y11, τ9)
  obtain ⟨hk_o_Y11, h⟩ := gd_some h
  refine Ex.blk 2 rfl ?_
  show Ex mr_X10_init sc (Cl MT pr sc (d + 0)) (rtE none X2 σ2) (24, [(0, .ref o), (1, .int x1)], [.int 84, .ref o], Y11, τ9)
  obtain ⟨t13, Y14, τ15, he16, h⟩ := mkA_sp h
  refine ex_nwa rfl (by decide) he16 ?_
  show Ex mr_X10_init sc (Cl MT pr sc (d + 0)) (rtE none X2 σ2) (26, [(0, .ref o), (1, .int x1)], [.ref t13, .ref o], Y14, τ15)
  obtain ⟨hk_o_Y14, h⟩ := gd_some h
  obtain ⟨hk_t13_Y14, h⟩ := gd_some h
  obtain ⟨Y17, he18, h⟩ := ptS_sp h
  refine ex_putS rfl hk_o_Y14 rfl he18 ?_
  show Ex mr_X10_init sc (Cl MT pr sc (d + 0)) (rtE none X2 σ2) (29, [(0, .ref o), (1, .int x1)], [], Y17, τ15)
  obtain ⟨hk_o_Y17, h⟩ := gd_some h
  refine Ex.blk 2 rfl ?_
  show Ex mr_X10_init sc (Cl MT pr sc (d + 0)) (rtE none X2 σ2) (32, [(0, .ref o), (1, .int x1)], [.int 84, .ref o], Y17, τ15)
  obtain ⟨t19, Y20, τ21, he22, h⟩ := mkA_sp h
  refine ex_nwa rfl (by decide) he22 ?_
  show Ex mr_X10_init sc (Cl MT pr sc (d + 0)) (rtE none X2 σ2) (34, [(0, .ref o), (1, .int x1)], [.ref t19, .ref o], Y20, τ21)
  obtain ⟨hk_o_Y20, h⟩ := gd_some h
  obtain ⟨hk_t19_Y20, h⟩ := gd_some h
  obtain ⟨Y23, he24, h⟩ := ptS_sp h
  refine ex_putS rfl hk_o_Y20 rfl he24 ?_
  show Ex mr_X10_init sc (Cl MT pr sc (d + 0)) (rtE none X2 σ2) (37, [(0, .ref o), (1, .int x1)], [], Y23, τ21)
  obtain ⟨hk_o_Y23, h⟩ := gd_some h
  refine Ex.blk 2 rfl ?_
  show Ex mr_X10_init sc (Cl MT pr sc (d + 0)) (rtE none X2 σ2) (40, [(0, .ref o), (1, .int x1)], [.int 7, .ref o], Y23, τ21)
  obtain ⟨t25, Y26, τ27, he28, h⟩ := mkA_sp h
  refine ex_nwa rfl (by decide) he28 ?_
  show Ex mr_X10_init sc (Cl MT pr sc (d + 0)) (rtE none X2 σ2) (42, [(0, .ref o), (1, .int x1)], [.ref t25, .ref o], Y26, τ27)
  obtain ⟨hk_o_Y26, h⟩ := gd_some h
  obtain ⟨hk_t25_Y26, h⟩ := gd_some h
  obtain ⟨Y29, he30, h⟩ := ptS_sp h
  refine ex_putS rfl hk_o_Y26 rfl he30 ?_
  show Ex mr_X10_init sc (Cl MT pr sc (d + 0)) (rtE none X2 σ2) (45, [(0, .ref o), (1, .int x1)], [], Y29, τ27)
  obtain ⟨hk_o_Y29, h⟩ := gd_some h
  refine Ex.blk 2 rfl ?_
  show Ex mr_X10_init sc (Cl MT pr sc (d + 0)) (rtE none X2 σ2) (47, [(0, .ref o), (1, .int x1)], [.int 1, .ref o], Y29, τ27)
  refine ex_putI rfl hk_o_Y29 rfl ?_
  show Ex mr_X10_init sc (Cl MT pr sc (d + 0)) (rtE none X2 σ2) (50, [(0, .ref o), (1, .int x1)], [], Y29, (sI τ27 o 12 1))
  refine Ex.blk 2 rfl ?_
  show Ex mr_X10_init sc (Cl MT pr sc (d + 0)) (rtE none X2 σ2) (52, [(0, .ref o), (1, .int x1)], [.int 2, .ref o], Y29, (sI τ27 o 12 1))
  refine ex_putI rfl hk_o_Y29 rfl ?_
  show Ex mr_X10_init sc (Cl MT pr sc (d + 0)) (rtE none X2 σ2) (55, [(0, .ref o), (1, .int x1)], [], Y29, (sI (sI τ27 o 12 1) o 13 2))
  refine Ex.blk 2 rfl ?_
  show Ex mr_X10_init sc (Cl MT pr sc (d + 0)) (rtE none X2 σ2) (57, [(0, .ref o), (1, .int x1)], [.int 1, .ref o], Y29, (sI (sI τ27 o 12 1) o 13 2))
  refine ex_putI rfl hk_o_Y29 rfl ?_
  show Ex mr_X10_init sc (Cl MT pr sc (d + 0)) (rtE none X2 σ2) (60, [(0, .ref o), (1, .int x1)], [], Y29, (sI (sI (sI τ27 o 12 1) o 13 2) o 14 1))
  refine Ex.blk 2 rfl ?_
  show Ex mr_X10_init sc (Cl MT pr sc (d + 0)) (rtE none X2 σ2) (63, [(0, .ref o), (1, .int x1)], [.int 12, .ref o], Y29, (sI (sI (sI τ27 o 12 1) o 13 2) o 14 1))
  obtain ⟨t31, Y32, τ33, he34, h⟩ := mkA_sp h
  refine ex_nwa rfl (by decide) he34 ?_
  show Ex mr_X10_init sc (Cl MT pr sc (d + 0)) (rtE none X2 σ2) (65, [(0, .ref o), (1, .int x1)], [.ref t31, .ref o], Y32, τ33)
  obtain ⟨hk_o_Y32, h⟩ := gd_some h
  obtain ⟨hk_t31_Y32, h⟩ := gd_some h
  obtain ⟨Y35, he36, h⟩ := ptS_sp h
  refine ex_putS rfl hk_o_Y32 rfl he36 ?_
  show Ex mr_X10_init sc (Cl MT pr sc (d + 0)) (rtE none X2 σ2) (68, [(0, .ref o), (1, .int x1)], [], Y35, τ33)
  obtain ⟨hk_o_Y35, h⟩ := gd_some h
  refine Ex.blk 2 rfl ?_
  show Ex mr_X10_init sc (Cl MT pr sc (d + 0)) (rtE none X2 σ2) (71, [(0, .ref o), (1, .int x1)], [.int 100, .ref o], Y35, τ33)
  obtain ⟨t37, Y38, τ39, he40, h⟩ := mkA_sp h
  refine ex_nwa rfl (by decide) he40 ?_
  show Ex mr_X10_init sc (Cl MT pr sc (d + 0)) (rtE none X2 σ2) (73, [(0, .ref o), (1, .int x1)], [.ref t37, .ref o], Y38, τ39)
  obtain ⟨hk_o_Y38, h⟩ := gd_some h
  obtain ⟨hk_t37_Y38, h⟩ := gd_some h
  obtain ⟨Y41, he42, h⟩ := ptS_sp h
  refine ex_putS rfl hk_o_Y38 rfl he42 ?_
  show Ex mr_X10_init sc (Cl MT pr sc (d + 0)) (rtE none X2 σ2) (76, [(0, .ref o), (1, .int x1)], [], Y41, τ39)
  obtain ⟨hk_o_Y41, h⟩ := gd_some h
  refine Ex.blk 2 rfl ?_
  show Ex mr_X10_init sc (Cl MT pr sc (d + 0)) (rtE none X2 σ2) (79, [(0, .ref o), (1, .int x1)], [.int 19, .ref o], Y41, τ39)
  obtain ⟨t43, Y44, τ45, he46, h⟩ := mkA_sp h
  refine ex_nwa rfl (by decide) he46 ?_
  show Ex mr_X10_init sc (Cl MT pr sc (d + 0)) (rtE none X2 σ2) (81, [(0, .ref o), (1, .int x1)], [.ref t43, .ref o], Y44, τ45)
  obtain ⟨hk_o_Y44, h⟩ := gd_some h
  obtain ⟨hk_t43_Y44, h⟩ := gd_some h
  obtain ⟨Y47, he48, h⟩ := ptS_sp h
  refine ex_putS rfl hk_o_Y44 rfl he48 ?_
  show Ex mr_X10_init sc (Cl MT pr sc (d + 0)) (rtE none X2 σ2) (84, [(0, .ref o), (1, .int x1)], [], Y47, τ45)
  obtain ⟨hk_o_Y47, h⟩ := gd_some h
  refine Ex.blk 2 rfl ?_
  show Ex mr_X10_init sc (Cl MT pr sc (d + 0)) (rtE none X2 σ2) (87, [(0, .ref o), (1, .int x1)], [.int 12, .ref o], Y47, τ45)
  obtain ⟨t49, Y50, τ51, he52, h⟩ := mkA_sp h
  refine ex_nwa rfl (by decide) he52 ?_
  show Ex mr_X10_init sc (Cl MT pr sc (d + 0)) (rtE none X2 σ2) (89, [(0, .ref o), (1, .int x1)], [.ref t49, .ref o], Y50, τ51)
  obtain ⟨hk_o_Y50, h⟩ := gd_some h
  obtain ⟨hk_t49_Y50, h⟩ := gd_some h
  obtain ⟨Y53, he54, h⟩ := ptS_sp h
  refine ex_putS rfl hk_o_Y50 rfl he54 ?_
  show Ex mr_X10_init sc (Cl MT pr sc (d + 0)) (rtE none X2 σ2) (92, [(0, .ref o), (1, .int x1)], [], Y53, τ51)
  obtain ⟨hk_o_Y53, h⟩ := gd_some h
  refine Ex.blk 2 rfl ?_
  show Ex mr_X10_init sc (Cl MT pr sc (d + 0)) (rtE none X2 σ2) (95, [(0, .ref o), (1, .int x1)], [.int 12, .ref o], Y53, τ51)
  obtain ⟨t55, Y56, τ57, he58, h⟩ := mkA_sp h
  refine ex_nwa rfl (by decide) he58 ?_
  show Ex mr_X10_init sc (Cl MT pr sc (d + 0)) (rtE none X2 σ2) (97, [(0, .ref o), (1, .int x1)], [.ref t55, .ref o], Y56, τ57)
  obtain ⟨hk_o_Y56, h⟩ := gd_some h
  obtain ⟨hk_t55_Y56, h⟩ := gd_some h
  obtain ⟨Y59, he60, h⟩ := ptS_sp h
  refine ex_putS rfl hk_o_Y56 rfl he60 ?_
  show Ex mr_X10_init sc (Cl MT pr sc (d + 0)) (rtE none X2 σ2) (100, [(0, .ref o), (1, .int x1)], [], Y59, τ57)
  obtain ⟨hk_o_Y59, h⟩ := gd_some h
  refine Ex.blk 2 rfl ?_
  show Ex mr_X10_init sc (Cl MT pr sc (d + 0)) (rtE none X2 σ2) (104, [(0, .ref o), (1, .int x1)], [.int 760, .ref o], Y59, τ57)
  obtain ⟨t61, Y62, τ63, he64, h⟩ := mkA_sp h
  refine ex_nwa rfl (by decide) he64 ?_
  show Ex mr_X10_init sc (Cl MT pr sc (d + 0)) (rtE none X2 σ2) (106, [(0, .ref o), (1, .int x1)], [.ref t61, .ref o], Y62, τ63)
  obtain ⟨hk_o_Y62, h⟩ := gd_some h
  obtain ⟨hk_t61_Y62, h⟩ := gd_some h
  obtain ⟨Y65, he66, h⟩ := ptS_sp h
  refine ex_putS rfl hk_o_Y62 rfl he66 ?_
  show Ex mr_X10_init sc (Cl MT pr sc (d + 0)) (rtE none X2 σ2) (109, [(0, .ref o), (1, .int x1)], [], Y65, τ63)
  obtain ⟨hk_o_Y65, h⟩ := gd_some h
  refine Ex.blk 2 rfl ?_
  show Ex mr_X10_init sc (Cl MT pr sc (d + 0)) (rtE none X2 σ2) (112, [(0, .ref o), (1, .int x1)], [.int 40, .ref o], Y65, τ63)
  obtain ⟨t67, Y68, τ69, he70, h⟩ := mkA_sp h
  refine ex_nwa rfl (by decide) he70 ?_
  show Ex mr_X10_init sc (Cl MT pr sc (d + 0)) (rtE none X2 σ2) (114, [(0, .ref o), (1, .int x1)], [.ref t67, .ref o], Y68, τ69)
  obtain ⟨hk_o_Y68, h⟩ := gd_some h
  obtain ⟨hk_t67_Y68, h⟩ := gd_some h
  obtain ⟨Y71, he72, h⟩ := ptS_sp h
  refine ex_putS rfl hk_o_Y68 rfl he72 ?_
  show Ex mr_X10_init sc (Cl MT pr sc (d + 0)) (rtE none X2 σ2) (117, [(0, .ref o), (1, .int x1)], [], Y71, τ69)
  obtain ⟨hk_o_Y71, h⟩ := gd_some h
  refine Ex.blk 2 rfl ?_
  show Ex mr_X10_init sc (Cl MT pr sc (d + 0)) (rtE none X2 σ2) (120, [(0, .ref o), (1, .int x1)], [.int 12, .ref o], Y71, τ69)
  obtain ⟨t73, Y74, τ75, he76, h⟩ := mkA_sp h
  refine ex_nwa rfl (by decide) he76 ?_
  show Ex mr_X10_init sc (Cl MT pr sc (d + 0)) (rtE none X2 σ2) (122, [(0, .ref o), (1, .int x1)], [.ref t73, .ref o], Y74, τ75)
  obtain ⟨hk_o_Y74, h⟩ := gd_some h
  obtain ⟨hk_t73_Y74, h⟩ := gd_some h
  obtain ⟨Y77, he78, h⟩ := ptS_sp h
  refine ex_putS rfl hk_o_Y74 rfl he78 ?_
  show Ex mr_X10_init sc (Cl MT pr sc (d + 0)) (rtE none X2 σ2) (125, [(0, .ref o), (1, .int x1)], [], Y77, τ75)
  obtain ⟨hk_o_Y77, h⟩ := gd_some h
  refine Ex.blk 2 rfl ?_
  show Ex mr_X10_init sc (Cl MT pr sc (d + 0)) (rtE none X2 σ2) (128, [(0, .ref o), (1, .int x1)], [.int 99, .ref o], Y77, τ75)
  obtain ⟨t79, Y80, τ81, he82, h⟩ := mkA_sp h
  refine ex_nwa rfl (by decide) he82 ?_
  show Ex mr_X10_init sc (Cl MT pr sc (d + 0)) (rtE none X2 σ2) (130, [(0, .ref o), (1, .int x1)], [.ref t79, .ref o], Y80, τ81)
  obtain ⟨hk_o_Y80, h⟩ := gd_some h
  obtain ⟨hk_t79_Y80, h⟩ := gd_some h
  obtain ⟨Y83, he84, h⟩ := ptS_sp h
  refine ex_putS rfl hk_o_Y80 rfl he84 ?_
  show Ex mr_X10_init sc (Cl MT pr sc (d + 0)) (rtE none X2 σ2) (133, [(0, .ref o), (1, .int x1)], [], Y83, τ81)
  obtain ⟨hk_o_Y83, h⟩ := gd_some h
  refine Ex.blk 2 rfl ?_
  show Ex mr_X10_init sc (Cl MT pr sc (d + 0)) (rtE none X2 σ2) (136, [(0, .ref o), (1, .int x1)], [.int 99, .ref o], Y83, τ81)
  obtain ⟨t85, Y86, τ87, he88, h⟩ := mkA_sp h
  refine ex_nwa rfl (by decide) he88 ?_
  show Ex mr_X10_init sc (Cl MT pr sc (d + 0)) (rtE none X2 σ2) (138, [(0, .ref o), (1, .int x1)], [.ref t85, .ref o], Y86, τ87)
  obtain ⟨hk_o_Y86, h⟩ := gd_some h
  obtain ⟨hk_t85_Y86, h⟩ := gd_some h
  obtain ⟨Y89, he90, h⟩ := ptS_sp h
  refine ex_putS rfl hk_o_Y86 rfl he90 ?_
  show Ex mr_X10_init sc (Cl MT pr sc (d + 0)) (rtE none X2 σ2) (141, [(0, .ref o), (1, .int x1)], [], Y89, τ87)
  obtain ⟨hk_o_Y89, h⟩ := gd_some h
  refine Ex.blk 2 rfl ?_
  show Ex mr_X10_init sc (Cl MT pr sc (d + 0)) (rtE none X2 σ2) (144, [(0, .ref o), (1, .int x1)], [.int 8, .ref o], Y89, τ87)
  obtain ⟨t91, Y92, τ93, he94, h⟩ := mkA_sp h
  refine ex_nwa rfl (by decide) he94 ?_
  show Ex mr_X10_init sc (Cl MT pr sc (d + 0)) (rtE none X2 σ2) (146, [(0, .ref o), (1, .int x1)], [.ref t91, .ref o], Y92, τ93)
  obtain ⟨hk_o_Y92, h⟩ := gd_some h
  obtain ⟨hk_t91_Y92, h⟩ := gd_some h
  obtain ⟨Y95, he96, h⟩ := ptS_sp h
  refine ex_putS rfl hk_o_Y92 rfl he96 ?_
  show Ex mr_X10_init sc (Cl MT pr sc (d + 0)) (rtE none X2 σ2) (149, [(0, .ref o), (1, .int x1)], [], Y95, τ93)
  obtain ⟨hk_o_Y95, h⟩ := gd_some h
  refine Ex.blk 2 rfl ?_
  show Ex mr_X10_init sc (Cl MT pr sc (d + 0)) (rtE none X2 σ2) (153, [(0, .ref o), (1, .int x1)], [.int 256, .ref o], Y95, τ93)
  obtain ⟨t97, Y98, τ99, he100, h⟩ := mkA_sp h
  refine ex_nwa rfl (by decide) he100 ?_
  show Ex mr_X10_init sc (Cl MT pr sc (d + 0)) (rtE none X2 σ2) (155, [(0, .ref o), (1, .int x1)], [.ref t97, .ref o], Y98, τ99)
  obtain ⟨hk_o_Y98, h⟩ := gd_some h
  obtain ⟨hk_t97_Y98, h⟩ := gd_some h
  obtain ⟨Y101, he102, h⟩ := ptS_sp h
  refine ex_putS rfl hk_o_Y98 rfl he102 ?_
  show Ex mr_X10_init sc (Cl MT pr sc (d + 0)) (rtE none X2 σ2) (158, [(0, .ref o), (1, .int x1)], [], Y101, τ99)
  obtain ⟨hk_o_Y101, h⟩ := gd_some h
  refine Ex.blk 2 rfl ?_
  show Ex mr_X10_init sc (Cl MT pr sc (d + 0)) (rtE none X2 σ2) (161, [(0, .ref o), (1, .int x1)], [.int 10, .ref o], Y101, τ99)
  obtain ⟨t103, Y104, τ105, he106, h⟩ := mkA_sp h
  refine ex_nwa rfl (by decide) he106 ?_
  show Ex mr_X10_init sc (Cl MT pr sc (d + 0)) (rtE none X2 σ2) (163, [(0, .ref o), (1, .int x1)], [.ref t103, .ref o], Y104, τ105)
  obtain ⟨hk_o_Y104, h⟩ := gd_some h
  obtain ⟨hk_t103_Y104, h⟩ := gd_some h
  obtain ⟨Y107, he108, h⟩ := ptS_sp h
  refine ex_putS rfl hk_o_Y104 rfl he108 ?_
  show Ex mr_X10_init sc (Cl MT pr sc (d + 0)) (rtE none X2 σ2) (166, [(0, .ref o), (1, .int x1)], [], Y107, τ105)
  obtain ⟨hk_o_Y107, h⟩ := gd_some h
  refine Ex.blk 2 rfl ?_
  show Ex mr_X10_init sc (Cl MT pr sc (d + 0)) (rtE none X2 σ2) (169, [(0, .ref o), (1, .int x1)], [.int 19, .ref o], Y107, τ105)
  obtain ⟨t109, Y110, τ111, he112, h⟩ := mkA_sp h
  refine ex_nwa rfl (by decide) he112 ?_
  show Ex mr_X10_init sc (Cl MT pr sc (d + 0)) (rtE none X2 σ2) (171, [(0, .ref o), (1, .int x1)], [.ref t109, .ref o], Y110, τ111)
  obtain ⟨hk_o_Y110, h⟩ := gd_some h
  obtain ⟨hk_t109_Y110, h⟩ := gd_some h
  obtain ⟨Y113, he114, h⟩ := ptS_sp h
  refine ex_putS rfl hk_o_Y110 rfl he114 ?_
  show Ex mr_X10_init sc (Cl MT pr sc (d + 0)) (rtE none X2 σ2) (174, [(0, .ref o), (1, .int x1)], [], Y113, τ111)
  obtain ⟨hk_o_Y113, h⟩ := gd_some h
  refine Ex.blk 2 rfl ?_
  show Ex mr_X10_init sc (Cl MT pr sc (d + 0)) (rtE none X2 σ2) (177, [(0, .ref o), (1, .int x1)], [.int 12, .ref o], Y113, τ111)
  obtain ⟨t115, Y116, τ117, he118, h⟩ := mkA_sp h
  refine ex_nwa rfl (by decide) he118 ?_
  show Ex mr_X10_init sc (Cl MT pr sc (d + 0)) (rtE none X2 σ2) (179, [(0, .ref o), (1, .int x1)], [.ref t115, .ref o], Y116, τ117)
  obtain ⟨hk_o_Y116, h⟩ := gd_some h
  obtain ⟨hk_t115_Y116, h⟩ := gd_some h
  obtain ⟨Y119, he120, h⟩ := ptS_sp h
  refine ex_putS rfl hk_o_Y116 rfl he120 ?_
  show Ex mr_X10_init sc (Cl MT pr sc (d + 0)) (rtE none X2 σ2) (182, [(0, .ref o), (1, .int x1)], [], Y119, τ117)
  obtain ⟨hk_o_Y119, h⟩ := gd_some h
  refine Ex.blk 2 rfl ?_
  show Ex mr_X10_init sc (Cl MT pr sc (d + 0)) (rtE none X2 σ2) (185, [(0, .ref o), (1, .int x1)], [.int 12, .ref o], Y119, τ117)
  obtain ⟨t121, Y122, τ123, he124, h⟩ := mkA_sp h
  refine ex_nwa rfl (by decide) he124 ?_
  show Ex mr_X10_init sc (Cl MT pr sc (d + 0)) (rtE none X2 σ2) (187, [(0, .ref o), (1, .int x1)], [.ref t121, .ref o], Y122, τ123)
  obtain ⟨hk_o_Y122, h⟩ := gd_some h
  obtain ⟨hk_t121_Y122, h⟩ := gd_some h
  obtain ⟨Y125, he126, h⟩ := ptS_sp h
  refine ex_putS rfl hk_o_Y122 rfl he126 ?_
  show Ex mr_X10_init sc (Cl MT pr sc (d + 0)) (rtE none X2 σ2) (190, [(0, .ref o), (1, .int x1)], [], Y125, τ123)
  obtain ⟨hk_o_Y125, h⟩ := gd_some h
  refine Ex.blk 2 rfl ?_
  show Ex mr_X10_init sc (Cl MT pr sc (d + 0)) (rtE none X2 σ2) (193, [(0, .ref o), (1, .int x1)], [.int 12, .ref o], Y125, τ123)
  obtain ⟨t127, Y128, τ129, he130, h⟩ := mkA_sp h
  refine ex_nwa rfl (by decide) he130 ?_
  show Ex mr_X10_init sc (Cl MT pr sc (d + 0)) (rtE none X2 σ2) (195, [(0, .ref o), (1, .int x1)], [.ref t127, .ref o], Y128, τ129)
  obtain ⟨hk_o_Y128, h⟩ := gd_some h
  obtain ⟨hk_t127_Y128, h⟩ := gd_some h
  obtain ⟨Y131, he132, h⟩ := ptS_sp h
  refine ex_putS rfl hk_o_Y128 rfl he132 ?_
  show Ex mr_X10_init sc (Cl MT pr sc (d + 0)) (rtE none X2 σ2) (198, [(0, .ref o), (1, .int x1)], [], Y131, τ129)
  obtain ⟨hk_o_Y131, h⟩ := gd_some h
  refine Ex.blk 2 rfl ?_
  show Ex mr_X10_init sc (Cl MT pr sc (d + 0)) (rtE none X2 σ2) (201, [(0, .ref o), (1, .int x1)], [.int 12, .ref o], Y131, τ129)
  obtain ⟨t133, Y134, τ135, he136, h⟩ := mkA_sp h
  refine ex_nwa rfl (by decide) he136 ?_
  show Ex mr_X10_init sc (Cl MT pr sc (d + 0)) (rtE none X2 σ2) (203, [(0, .ref o), (1, .int x1)], [.ref t133, .ref o], Y134, τ135)
  obtain ⟨hk_o_Y134, h⟩ := gd_some h
  obtain ⟨hk_t133_Y134, h⟩ := gd_some h
  obtain ⟨Y137, he138, h⟩ := ptS_sp h
  refine ex_putS rfl hk_o_Y134 rfl he138 ?_
  show Ex mr_X10_init sc (Cl MT pr sc (d + 0)) (rtE none X2 σ2) (206, [(0, .ref o), (1, .int x1)], [], Y137, τ135)
  obtain ⟨hk_o_Y137, h⟩ := gd_some h
  refine Ex.blk 2 rfl ?_
  show Ex mr_X10_init sc (Cl MT pr sc (d + 0)) (rtE none X2 σ2) (209, [(0, .ref o), (1, .int x1)], [.int 12, .ref o], Y137, τ135)
  obtain ⟨t139, Y140, τ141, he142, h⟩ := mkA_sp h
  refine ex_nwa rfl (by decide) he142 ?_
  show Ex mr_X10_init sc (Cl MT pr sc (d + 0)) (rtE none X2 σ2) (211, [(0, .ref o), (1, .int x1)], [.ref t139, .ref o], Y140, τ141)
  obtain ⟨hk_o_Y140, h⟩ := gd_some h
  obtain ⟨hk_t139_Y140, h⟩ := gd_some h
  obtain ⟨Y143, he144, h⟩ := ptS_sp h
  refine ex_putS rfl hk_o_Y140 rfl he144 ?_
  show Ex mr_X10_init sc (Cl MT pr sc (d + 0)) (rtE none X2 σ2) (214, [(0, .ref o), (1, .int x1)], [], Y143, τ141)
  obtain ⟨hk_o_Y143, h⟩ := gd_some h
  refine Ex.blk 2 rfl ?_
  show Ex mr_X10_init sc (Cl MT pr sc (d + 0)) (rtE none X2 σ2) (217, [(0, .ref o), (1, .int x1)], [.int 12, .ref o], Y143, τ141)
  obtain ⟨t145, Y146, τ147, he148, h⟩ := mkA_sp h
  refine ex_nwa rfl (by decide) he148 ?_
  show Ex mr_X10_init sc (Cl MT pr sc (d + 0)) (rtE none X2 σ2) (219, [(0, .ref o), (1, .int x1)], [.ref t145, .ref o], Y146, τ147)
  obtain ⟨hk_o_Y146, h⟩ := gd_some h
  obtain ⟨hk_t145_Y146, h⟩ := gd_some h
  obtain ⟨Y149, he150, h⟩ := ptS_sp h
  refine ex_putS rfl hk_o_Y146 rfl he150 ?_
  show Ex mr_X10_init sc (Cl MT pr sc (d + 0)) (rtE none X2 σ2) (222, [(0, .ref o), (1, .int x1)], [], Y149, τ147)
  obtain ⟨hk_o_Y149, h⟩ := gd_some h
  refine Ex.blk 2 rfl ?_
  show Ex mr_X10_init sc (Cl MT pr sc (d + 0)) (rtE none X2 σ2) (225, [(0, .ref o), (1, .int x1)], [.int 12, .ref o], Y149, τ147)
  obtain ⟨t151, Y152, τ153, he154, h⟩ := mkA_sp h
  refine ex_nwa rfl (by decide) he154 ?_
  show Ex mr_X10_init sc (Cl MT pr sc (d + 0)) (rtE none X2 σ2) (227, [(0, .ref o), (1, .int x1)], [.ref t151, .ref o], Y152, τ153)
  obtain ⟨hk_o_Y152, h⟩ := gd_some h
  obtain ⟨hk_t151_Y152, h⟩ := gd_some h
  obtain ⟨Y155, he156, h⟩ := ptS_sp h
  refine ex_putS rfl hk_o_Y152 rfl he156 ?_
  show Ex mr_X10_init sc (Cl MT pr sc (d + 0)) (rtE none X2 σ2) (230, [(0, .ref o), (1, .int x1)], [], Y155, τ153)
  obtain ⟨hk_o_Y155, h⟩ := gd_some h
  refine Ex.blk 2 rfl ?_
  show Ex mr_X10_init sc (Cl MT pr sc (d + 0)) (rtE none X2 σ2) (233, [(0, .ref o), (1, .int x1)], [.int 9, .ref o], Y155, τ153)
  obtain ⟨t157, Y158, τ159, he160, h⟩ := mkA_sp h
  refine ex_nwa rfl (by decide) he160 ?_
  show Ex mr_X10_init sc (Cl MT pr sc (d + 0)) (rtE none X2 σ2) (235, [(0, .ref o), (1, .int x1)], [.ref t157, .ref o], Y158, τ159)
  obtain ⟨hk_o_Y158, h⟩ := gd_some h
  obtain ⟨hk_t157_Y158, h⟩ := gd_some h
  obtain ⟨Y161, he162, h⟩ := ptS_sp h
  refine ex_putS rfl hk_o_Y158 rfl he162 ?_
  show Ex mr_X10_init sc (Cl MT pr sc (d + 0)) (rtE none X2 σ2) (238, [(0, .ref o), (1, .int x1)], [], Y161, τ159)
  obtain ⟨hk_o_Y161, h⟩ := gd_some h
  refine Ex.blk 2 rfl ?_
  show Ex mr_X10_init sc (Cl MT pr sc (d + 0)) (rtE none X2 σ2) (241, [(0, .ref o), (1, .int x1)], [.int 9, .ref o], Y161, τ159)
  obtain ⟨t163, Y164, τ165, he166, h⟩ := mkA_sp h
  refine ex_nwa rfl (by decide) he166 ?_
  show Ex mr_X10_init sc (Cl MT pr sc (d + 0)) (rtE none X2 σ2) (243, [(0, .ref o), (1, .int x1)], [.ref t163, .ref o], Y164, τ165)
  obtain ⟨hk_o_Y164, h⟩ := gd_some h
  obtain ⟨hk_t163_Y164, h⟩ := gd_some h
  obtain ⟨Y167, he168, h⟩ := ptS_sp h
  refine ex_putS rfl hk_o_Y164 rfl he168 ?_
  show Ex mr_X10_init sc (Cl MT pr sc (d + 0)) (rtE none X2 σ2) (246, [(0, .ref o), (1, .int x1)], [], Y167, τ165)
  obtain ⟨hk_o_Y167, h⟩ := gd_some h
  refine Ex.blk 2 rfl ?_
  show Ex mr_X10_init sc (Cl MT pr sc (d + 0)) (rtE none X2 σ2) (250, [(0, .ref o), (1, .int x1)], [.int 1000, .ref o], Y167, τ165)
  obtain ⟨t169, Y170, τ171, he172, h⟩ := mkA_sp h
  refine ex_nwa rfl (by decide) he172 ?_
  show Ex mr_X10_init sc (Cl MT pr sc (d + 0)) (rtE none X2 σ2) (252, [(0, .ref o), (1, .int x1)], [.ref t169, .ref o], Y170, τ171)
  obtain ⟨hk_o_Y170, h⟩ := gd_some h
  obtain ⟨hk_t169_Y170, h⟩ := gd_some h
  obtain ⟨Y173, he174, h⟩ := ptS_sp h
  refine ex_putS rfl hk_o_Y170 rfl he174 ?_
  show Ex mr_X10_init sc (Cl MT pr sc (d + 0)) (rtE none X2 σ2) (255, [(0, .ref o), (1, .int x1)], [], Y173, τ171)
  obtain ⟨hk_o_Y173, h⟩ := gd_some h
  refine Ex.blk 2 rfl ?_
  show Ex mr_X10_init sc (Cl MT pr sc (d + 0)) (rtE none X2 σ2) (259, [(0, .ref o), (1, .int x1)], [.int 1000, .ref o], Y173, τ171)
  obtain ⟨t175, Y176, τ177, he178, h⟩ := mkA_sp h
  refine ex_nwa rfl (by decide) he178 ?_
  show Ex mr_X10_init sc (Cl MT pr sc (d + 0)) (rtE none X2 σ2) (261, [(0, .ref o), (1, .int x1)], [.ref t175, .ref o], Y176, τ177)
  obtain ⟨hk_o_Y176, h⟩ := gd_some h
  obtain ⟨hk_t175_Y176, h⟩ := gd_some h
  obtain ⟨Y179, he180, h⟩ := ptS_sp h
  refine ex_putS rfl hk_o_Y176 rfl he180 ?_
  show Ex mr_X10_init sc (Cl MT pr sc (d + 0)) (rtE none X2 σ2) (264, [(0, .ref o), (1, .int x1)], [], Y179, τ177)
  obtain ⟨hk_o_Y179, h⟩ := gd_some h
  refine Ex.blk 2 rfl ?_
  show Ex mr_X10_init sc (Cl MT pr sc (d + 0)) (rtE none X2 σ2) (267, [(0, .ref o), (1, .int x1)], [.int 19, .ref o], Y179, τ177)
  obtain ⟨t181, Y182, τ183, he184, h⟩ := mkA_sp h
  refine ex_nwa rfl (by decide) he184 ?_
  show Ex mr_X10_init sc (Cl MT pr sc (d + 0)) (rtE none X2 σ2) (269, [(0, .ref o), (1, .int x1)], [.ref t181, .ref o], Y182, τ183)
  obtain ⟨hk_o_Y182, h⟩ := gd_some h
  obtain ⟨hk_t181_Y182, h⟩ := gd_some h
  obtain ⟨Y185, he186, h⟩ := ptS_sp h
  refine ex_putS rfl hk_o_Y182 rfl he186 ?_
  show Ex mr_X10_init sc (Cl MT pr sc (d + 0)) (rtE none X2 σ2) (272, [(0, .ref o), (1, .int x1)], [], Y185, τ183)
  obtain ⟨hk_o_Y185, h⟩ := gd_some h
  refine Ex.blk 2 rfl ?_
  show Ex mr_X10_init sc (Cl MT pr sc (d + 0)) (rtE none X2 σ2) (275, [(0, .ref o), (1, .int x1)], [.int 12, .ref o], Y185, τ183)
  obtain ⟨t187, Y188, τ189, he190, h⟩ := mkA_sp h
  refine ex_nwa rfl (by decide) he190 ?_
  show Ex mr_X10_init sc (Cl MT pr sc (d + 0)) (rtE none X2 σ2) (277, [(0, .ref o), (1, .int x1)], [.ref t187, .ref o], Y188, τ189)
  obtain ⟨hk_o_Y188, h⟩ := gd_some h
  obtain ⟨hk_t187_Y188, h⟩ := gd_some h
  obtain ⟨Y191, he192, h⟩ := ptS_sp h
  refine ex_putS rfl hk_o_Y188 rfl he192 ?_
  show Ex mr_X10_init sc (Cl MT pr sc (d + 0)) (rtE none X2 σ2) (280, [(0, .ref o), (1, .int x1)], [], Y191, τ189)
  obtain ⟨hk_o_Y191, h⟩ := gd_some h
  refine Ex.blk 5 rfl ?_
  show Ex mr_X10_init sc (Cl MT pr sc (d + 0)) (rtE none X2 σ2) (288, [(0, .ref o), (1, .int x1)], [.int (mnI 12 x1), .int 2, .ref o], Y191, τ189)
  refine Ex.blk 1 rfl ?_
  show Ex mr_X10_init sc (Cl MT pr sc (d + 0)) (rtE none X2 σ2) (291, [(0, .ref o), (1, .int x1)], [.int (mxI 2 (mnI 12 x1)), .ref o], Y191, τ189)
  refine ex_putI rfl hk_o_Y191 rfl ?_
  show Ex mr_X10_init sc (Cl MT pr sc (d + 0)) (rtE none X2 σ2) (294, [(0, .ref o), (1, .int x1)], [], Y191, (sI τ189 o 1 (mxI 2 (mnI 12 x1))))
  refine Ex.blk 2 rfl ?_
  show Ex mr_X10_init sc (Cl MT pr sc (d + 0)) (rtE none X2 σ2) (296, [(2, .int 0), (0, .ref o), (1, .int x1)], [], Y191, (sI τ189 o 1 (mxI 2 (mnI 12 x1))))
  show Ex mr_X10_init sc (Cl MT pr sc (d + 0)) (rtE none X2 σ2) (296, [(2, .int 0), (0, .ref o), (1, .int x1)], [], Y191, (sI τ189 o 1 (mxI 2 (mnI 12 x1))))
  refine Ex.pick (lv' := _) [1, 0] rfl ?_
  exact le_X10_init_296 d o FU _ _ _ h
theorem lg_J7_fill_53178_5 {pr : Ct} {sc : Nat × (Nat → Int32)} (d : Nat) (ar : Nat)  {X2 : En} {σ2 : St} : ∀ (n : Nat) (x1 : Int32) (x2 : Int32) (x3 : Int32) (X : En) (σ : St), g_J7_fill_53178_5 ar n x1 x2 x3 X σ = some (X2, σ2) → Ex mr_J7_fill_53178 sc (Cl MT pr sc (d + 0)) (rtE none (mk X2) σ2) (5, [(0, .ref ar), (1, .int x1), (2, .int x2), (3, .int x3)], [], mk X, σ) := by
  intro n
  induction n with
  | zero =>
    intro x1 x2 x3 X σ h
    cases h
  | succ n ih =>
    intro x1 x2 x3 X σ h
    simp only [g_J7_fill_53178_5] at h
    obtain ⟨hk_ar_X, h⟩ := gd_some h
    refine Ex.blk 3 rfl ?_
    rcases ite_sp h with ⟨c2, h⟩ | ⟨c2, h⟩
    · refine And.intro (fun _ => ?_) (fun hn => absurd c2 hn)
      show Ex mr_J7_fill_53178 sc (Cl MT pr sc (d + 0)) (rtE none (mk X2) σ2) (20, [(0, .ref ar), (1, .int x1), (2, .int x2), (3, .int x3)], [], mk X, σ)
      refine Ex.blk 1 rfl ?_
      cases h
      exact And.intro trivial ⟨rfl, rfl, rfl⟩
    · refine And.intro (fun hp => absurd hp c2) (fun _ => ?_)
      show Ex mr_J7_fill_53178 sc (Cl MT pr sc (d + 0)) (rtE none (mk X2) σ2) (10, [(0, .ref ar), (1, .int x1), (2, .int x2), (3, .int x3)], [], mk X, σ)
      refine Ex.blk 3 rfl ?_
      show Ex mr_J7_fill_53178 sc (Cl MT pr sc (d + 0)) (rtE none (mk X2) σ2) (13, [(0, .ref ar), (1, .int x1), (2, .int x2), (3, .int x3)], [.int x1, .int x2, .ref ar], mk X, σ)
      obtain ⟨g1, h⟩ := gd_some h
      refine ex_iast rfl hk_ar_X g1 ?_
      show Ex mr_J7_fill_53178 sc (Cl MT pr sc (d + 0)) (rtE none (mk X2) σ2) (14, [(0, .ref ar), (1, .int x1), (2, .int x2), (3, .int x3)], [], mk X, (sI σ ar x2.toNatClampNeg x1))
      refine Ex.blk 2 rfl ?_
      show Ex mr_J7_fill_53178 sc (Cl MT pr sc (d + 0)) (rtE none (mk X2) σ2) (5, [(2, .int (x2 + 1)), (0, .ref ar), (1, .int x1), (3, .int x3)], [], mk X, (sI σ ar x2.toNatClampNeg x1))
      show Ex mr_J7_fill_53178 sc (Cl MT pr sc (d + 0)) (rtE none (mk X2) σ2) (5, [(2, .int (x2 + 1)), (0, .ref ar), (1, .int x1), (3, .int x3)], [], mk X, (sI σ ar x2.toNatClampNeg x1))
      refine Ex.pick (lv' := _) [1, 2, 0, 3] rfl ?_
      exact ih _ _ _ _ _ h
theorem cg_J7_fill_53178 {pr : Ct} {sc : Nat × (Nat → Int32)} (d : Nat)  {X2 : En} {σ2 : St} {ar : Nat} {x1 : Int32} {X : En} {σ : St} (h : g_J7_fill_53178 ar x1 X σ = some (X2, σ2)) : Cl MT pr sc (d + 0 + 1) 62 [.ref ar, .int x1] (mk X) σ none (mk X2) σ2 := by
  unfold g_J7_fill_53178 at h
  obtain ⟨p, hp, h⟩ := bind_sp h
  obtain ⟨hz, h⟩ := gd_some h
  cases h
  refine cl_of2 mr_J7_fill_53178 rfl rfl hz ?_
  have h := hp
  clear hp
  unfold g_J7_fill_53178_b at h
  obtain ⟨hk_ar_X, h⟩ := gd_some h
  refine Ex.blk 3 rfl ?_
  show Ex mr_J7_fill_53178 sc (Cl MT pr sc (d + 0)) (rtE none (mk X2) σ2) (3, [(2, .int 0), (0, .ref ar), (1, .int x1)], [.ref ar], mk X, σ)
  refine ex_alen rfl hk_ar_X (by decide) ?_
  show Ex mr_J7_fill_53178 sc (Cl MT pr sc (d + 0)) (rtE none (mk X2) σ2) (4, [(2, .int 0), (0, .ref ar), (1, .int x1)], [.int (Int32.ofNat (eL (mk X) ar))], mk X, σ)
  refine Ex.blk 1 rfl ?_
  show Ex mr_J7_fill_53178 sc (Cl MT pr sc (d + 0)) (rtE none (mk X2) σ2) (5, [(3, .int (Int32.ofNat (eL (mk X) ar))), (2, .int 0), (0, .ref ar), (1, .int x1)], [], mk X, σ)
  show Ex mr_J7_fill_53178 sc (Cl MT pr sc (d + 0)) (rtE none (mk X2) σ2) (5, [(3, .int (Int32.ofNat (eL (mk X) ar))), (2, .int 0), (0, .ref ar), (1, .int x1)], [], mk X, σ)
  refine Ex.pick (lv' := _) [2, 3, 1, 0] rfl ?_
  exact lg_J7_fill_53178_5 d ar FU _ _ _ _ _ h
theorem lg_J7_fill_d0a16_6 {pr : Ct} {sc : Nat × (Nat → Int32)} (d : Nat) (ar : Nat)  {X2 : En} {σ2 : St} : ∀ (n : Nat) (x1 : Int64) (x3 : Int32) (x4 : Int32) (X : En) (σ : St), g_J7_fill_d0a16_6 ar n x1 x3 x4 X σ = some (X2, σ2) → Ex mr_J7_fill_d0a16 sc (Cl MT pr sc (d + 0)) (rtE none (mk X2) σ2) (6, [(0, .ref ar), (1, .long x1), (3, .int x3), (4, .int x4)], [], mk X, σ) := by
  intro n
  induction n with
  | zero =>
    intro x1 x3 x4 X σ h
    cases h
  | succ n ih =>
    intro x1 x3 x4 X σ h
    simp only [g_J7_fill_d0a16_6] at h
    obtain ⟨hk_ar_X, h⟩ := gd_some h
    refine Ex.blk 3 rfl ?_
    rcases ite_sp h with ⟨c2, h⟩ | ⟨c2, h⟩
    · refine And.intro (fun _ => ?_) (fun hn => absurd c2 hn)
      show Ex mr_J7_fill_d0a16 sc (Cl MT pr sc (d + 0)) (rtE none (mk X2) σ2) (22, [(0, .ref ar), (1, .long x1), (3, .int x3), (4, .int x4)], [], mk X, σ)
      refine Ex.blk 1 rfl ?_
      cases h
      exact And.intro trivial ⟨rfl, rfl, rfl⟩
    · refine And.intro (fun hp => absurd hp c2) (fun _ => ?_)
      show Ex mr_J7_fill_d0a16 sc (Cl MT pr sc (d + 0)) (rtE none (mk X2) σ2) (12, [(0, .ref ar), (1, .long x1), (3, .int x3), (4, .int x4)], [], mk X, σ)
      refine Ex.blk 3 rfl ?_
      show Ex mr_J7_fill_d0a16 sc (Cl MT pr sc (d + 0)) (rtE none (mk X2) σ2) (15, [(0, .ref ar), (1, .long x1), (3, .int x3), (4, .int x4)], [.long x1, .int x3, .ref ar], mk X, σ)
      obtain ⟨g1, h⟩ := gd_some h
      refine ex_last rfl hk_ar_X g1 ?_
      show Ex mr_J7_fill_d0a16 sc (Cl MT pr sc (d + 0)) (rtE none (mk X2) σ2) (16, [(0, .ref ar), (1, .long x1), (3, .int x3), (4, .int x4)], [], mk X, (sJ σ ar x3.toNatClampNeg x1))
      refine Ex.blk 2 rfl ?_
      show Ex mr_J7_fill_d0a16 sc (Cl MT pr sc (d + 0)) (rtE none (mk X2) σ2) (6, [(3, .int (x3 + 1)), (0, .ref ar), (1, .long x1), (4, .int x4)], [], mk X, (sJ σ ar x3.toNatClampNeg x1))
      show Ex mr_J7_fill_d0a16 sc (Cl MT pr sc (d + 0)) (rtE none (mk X2) σ2) (6, [(3, .int (x3 + 1)), (0, .ref ar), (1, .long x1), (4, .int x4)], [], mk X, (sJ σ ar x3.toNatClampNeg x1))
      refine Ex.pick (lv' := _) [1, 2, 0, 3] rfl ?_
      exact ih _ _ _ _ _ h
theorem cg_J7_fill_d0a16 {pr : Ct} {sc : Nat × (Nat → Int32)} (d : Nat)  {X2 : En} {σ2 : St} {ar : Nat} {x1 : Int64} {X : En} {σ : St} (h : g_J7_fill_d0a16 ar x1 X σ = some (X2, σ2)) : Cl MT pr sc (d + 0 + 1) 19 [.ref ar, .long x1] (mk X) σ none (mk X2) σ2 := by
  unfold g_J7_fill_d0a16 at h
  obtain ⟨p, hp, h⟩ := bind_sp h
  obtain ⟨hz, h⟩ := gd_some h
  cases h
  refine cl_of2 mr_J7_fill_d0a16 rfl rfl hz ?_
  have h := hp
  clear hp
  unfold g_J7_fill_d0a16_b at h
  obtain ⟨hk_ar_X, h⟩ := gd_some h
  refine Ex.blk 3 rfl ?_
  show Ex mr_J7_fill_d0a16 sc (Cl MT pr sc (d + 0)) (rtE none (mk X2) σ2) (3, [(3, .int 0), (0, .ref ar), (1, .long x1)], [.ref ar], mk X, σ)
  refine ex_alen rfl hk_ar_X (by decide) ?_
  show Ex mr_J7_fill_d0a16 sc (Cl MT pr sc (d + 0)) (rtE none (mk X2) σ2) (4, [(3, .int 0), (0, .ref ar), (1, .long x1)], [.int (Int32.ofNat (eL (mk X) ar))], mk X, σ)
  refine Ex.blk 1 rfl ?_
  show Ex mr_J7_fill_d0a16 sc (Cl MT pr sc (d + 0)) (rtE none (mk X2) σ2) (6, [(4, .int (Int32.ofNat (eL (mk X) ar))), (3, .int 0), (0, .ref ar), (1, .long x1)], [], mk X, σ)
  show Ex mr_J7_fill_d0a16 sc (Cl MT pr sc (d + 0)) (rtE none (mk X2) σ2) (6, [(4, .int (Int32.ofNat (eL (mk X) ar))), (3, .int 0), (0, .ref ar), (1, .long x1)], [], mk X, σ)
  refine Ex.pick (lv' := _) [2, 3, 1, 0] rfl ?_
  exact lg_J7_fill_d0a16_6 d ar FU _ _ _ _ _ h
theorem cg_X7_init {pr : Ct} {sc : Nat × (Nat → Int32)} (d : Nat)  {X2 : En} {σ2 : St} {o : Nat} {x1 : Int32} {X : En} {σ : St} (h : g_X7_init o x1 X σ = some (X2, σ2)) : Cl MT pr sc (d + 1 + 1) 63 [.ref o, .int x1] (mk X) σ none (mk X2) σ2 := by
  unfold g_X7_init at h
  obtain ⟨p, hp, h⟩ := bind_sp h
  obtain ⟨hz, h⟩ := gd_some h
  cases h
  refine cl_of2 mr_X7_init rfl rfl hz ?_
  have h := hp
  clear hp
  unfold g_X7_init_b at h
  obtain ⟨hk_o_X, h⟩ := gd_some h
  refine Ex.blk 4 rfl ?_
  show Ex mr_X7_init sc (Cl MT pr sc (d + 1)) (rtE none (mk X2) σ2) (7, [(0, .ref o), (1, .int x1)], [.int 12, .ref o], mk X, σ)
  obtain ⟨g30, h⟩ := gd_some h
  obtain ⟨t1, Y2, τ3, he4, h⟩ := mkA_sp h
  refine ex_nwaX rfl (by decide) g30 he4 ?_
  show Ex mr_X7_init sc (Cl MT pr sc (d + 1)) (rtE none (mk X2) σ2) (9, [(0, .ref o), (1, .int x1)], [.ref t1, .ref o], mk Y2, τ3)
  obtain ⟨hk_o_Y2, h⟩ := gd_some h
  obtain ⟨hk_t1_Y2, h⟩ := gd_some h
  obtain ⟨g28, h⟩ := gd_some h
  obtain ⟨Y5, he6, h⟩ := ptS_sp h
  refine ex_putSX rfl hk_o_Y2 rfl g28 he6 ?_
  show Ex mr_X7_init sc (Cl MT pr sc (d + 1)) (rtE none (mk X2) σ2) (12, [(0, .ref o), (1, .int x1)], [], mk Y5, τ3)
  obtain ⟨hk_o_Y5, h⟩ := gd_some h
  refine Ex.blk 2 rfl ?_
  show Ex mr_X7_init sc (Cl MT pr sc (d + 1)) (rtE none (mk X2) σ2) (15, [(0, .ref o), (1, .int x1)], [.int 12, .ref o], mk Y5, τ3)
  obtain ⟨g27, h⟩ := gd_some h
  obtain ⟨t7, Y8, τ9, he10, h⟩ := mkA_sp h
  refine ex_nwaX rfl (by decide) g27 he10 ?_
  show Ex mr_X7_init sc (Cl MT pr sc (d + 1)) (rtE none (mk X2) σ2) (17, [(0, .ref o), (1, .int x1)], [.ref t7, .ref o], mk Y8, τ9)
  obtain ⟨hk_o_Y8, h⟩ := gd_some h
  obtain ⟨hk_t7_Y8, h⟩ := gd_some h
  obtain ⟨g25, h⟩ := gd_some h
  obtain ⟨Y11, he12, h⟩ := ptS_sp h
  refine ex_putSX rfl hk_o_Y8 rfl g25 he12 ?_
  show Ex mr_X7_init sc (Cl MT pr sc (d + 1)) (rtE none (mk X2) σ2) (20, [(0, .ref o), (1, .int x1)], [], mk Y11, τ9)
  obtain ⟨hk_o_Y11, h⟩ := gd_some h
  refine Ex.blk 2 rfl ?_
  show Ex mr_X7_init sc (Cl MT pr sc (d + 1)) (rtE none (mk X2) σ2) (23, [(0, .ref o), (1, .int x1)], [.int 12, .ref o], mk Y11, τ9)
  obtain ⟨g24, h⟩ := gd_some h
  obtain ⟨t13, Y14, τ15, he16, h⟩ := mkA_sp h
  refine ex_nwaX rfl (by decide) g24 he16 ?_
  show Ex mr_X7_init sc (Cl MT pr sc (d + 1)) (rtE none (mk X2) σ2) (25, [(0, .ref o), (1, .int x1)], [.ref t13, .ref o], mk Y14, τ15)
  obtain ⟨hk_o_Y14, h⟩ := gd_some h
  obtain ⟨hk_t13_Y14, h⟩ := gd_some h
  obtain ⟨g22, h⟩ := gd_some h
  obtain ⟨Y17, he18, h⟩ := ptS_sp h
  refine ex_putSX rfl hk_o_Y14 rfl g22 he18 ?_
  show Ex mr_X7_init sc (Cl MT pr sc (d + 1)) (rtE none (mk X2) σ2) (28, [(0, .ref o), (1, .int x1)], [], mk Y17, τ15)
  obtain ⟨hk_o_Y17, h⟩ := gd_some h
  refine Ex.blk 2 rfl ?_
  show Ex mr_X7_init sc (Cl MT pr sc (d + 1)) (rtE none (mk X2) σ2) (30, [(0, .ref o), (1, .int x1)], [.int x1, .ref o], mk Y17, τ15)
  refine ex_putI rfl hk_o_Y17 rfl ?_
  show Ex mr_X7_init sc (Cl MT pr sc (d + 1)) (rtE none (mk X2) σ2) (33, [(0, .ref o), (1, .int x1)], [], mk Y17, (sI τ15 o 0 x1))
  refine Ex.blk 1 rfl ?_
  show Ex mr_X7_init sc (Cl MT pr sc (d + 1)) (rtE none (mk X2) σ2) (34, [(0, .ref o), (1, .int x1)], [.ref o], mk Y17, (sI τ15 o 0 x1))
  obtain ⟨b19, hb20, h⟩ := bind_sp h
  refine ex_get rfl hk_o_Y17 (congrArg orv hb20) ?_
  show Ex mr_X7_init sc (Cl MT pr sc (d + 1)) (rtE none (mk X2) σ2) (37, [(0, .ref o), (1, .int x1)], [.ref b19], mk Y17, (sI τ15 o 0 x1))
  obtain ⟨hk_b19_Y17, h⟩ := gd_some h
  refine Ex.blk 1 rfl ?_
  show Ex mr_X7_init sc (Cl MT pr sc (d + 1)) (rtE none (mk X2) σ2) (39, [(0, .ref o), (1, .int x1)], [.int 9, .ref b19], mk Y17, (sI τ15 o 0 x1))
  obtain ⟨p21, hp21, h⟩ := bind_sp h
  refine Ex.blk 1 rfl ?_
  refine Exists.intro none (Exists.intro (mk p21.1) (Exists.intro p21.2 (And.intro (cg_J7_fill_53178 (d + 0) hp21) ?_)))
  show Ex mr_X7_init sc (Cl MT pr sc (d + 1)) (rtE none (mk X2) σ2) (42, [(0, .ref o), (1, .int x1)], [], mk p21.1, p21.2)
  obtain ⟨hk_o_p21_1, h⟩ := gd_some h
  refine Ex.blk 1 rfl ?_
  cases h
  exact And.intro trivial ⟨rfl, rfl, rfl⟩
theorem cg_X7_startCounts {pr : Ct} {sc : Nat × (Nat → Int32)} (d : Nat)  {X2 : En} {σ2 : St} {o : Nat} {X : En} {σ : St} (h : g_X7_startCounts o X σ = some (X2, σ2)) : Cl MT pr sc (d + 0 + 1) 64 [.ref o] (mk X) σ none (mk X2) σ2 := by
  unfold g_X7_startCounts at h
  obtain ⟨p, hp, h⟩ := bind_sp h
  obtain ⟨hz, h⟩ := gd_some h
  cases h
  refine cl_of2 mr_X7_startCounts rfl rfl hz ?_
  have h := hp
  clear hp
  unfold g_X7_startCounts_b at h
  obtain ⟨hk_o_X, h⟩ := gd_some h
  refine Ex.blk 2 rfl ?_
  show Ex mr_X7_startCounts sc (Cl MT pr sc (d + 0)) (rtE none (mk X2) σ2) (2, [(0, .ref o)], [.int 0, .ref o], mk X, σ)
  refine ex_putI rfl hk_o_X rfl ?_
  show Ex mr_X7_startCounts sc (Cl MT pr sc (d + 0)) (rtE none (mk X2) σ2) (5, [(0, .ref o)], [], mk X, (sI σ o 7 0))
  refine Ex.blk 2 rfl ?_
  show Ex mr_X7_startCounts sc (Cl MT pr sc (d + 0)) (rtE none (mk X2) σ2) (7, [(0, .ref o)], [.int 0, .ref o], mk X, (sI σ o 7 0))
  refine ex_putI rfl hk_o_X rfl ?_
  show Ex mr_X7_startCounts sc (Cl MT pr sc (d + 0)) (rtE none (mk X2) σ2) (10, [(0, .ref o)], [], mk X, (sI (sI σ o 7 0) o 8 0))
  refine Ex.blk 2 rfl ?_
  show Ex mr_X7_startCounts sc (Cl MT pr sc (d + 0)) (rtE none (mk X2) σ2) (12, [(0, .ref o)], [.int 0, .ref o], mk X, (sI (sI σ o 7 0) o 8 0))
  refine ex_putI rfl hk_o_X rfl ?_
  show Ex mr_X7_startCounts sc (Cl MT pr sc (d + 0)) (rtE none (mk X2) σ2) (15, [(0, .ref o)], [], mk X, (sI (sI (sI σ o 7 0) o 8 0) o 9 0))
  refine Ex.blk 2 rfl ?_
  show Ex mr_X7_startCounts sc (Cl MT pr sc (d + 0)) (rtE none (mk X2) σ2) (17, [(0, .ref o)], [.int 0, .ref o], mk X, (sI (sI (sI σ o 7 0) o 8 0) o 9 0))
  refine ex_putI rfl hk_o_X rfl ?_
  show Ex mr_X7_startCounts sc (Cl MT pr sc (d + 0)) (rtE none (mk X2) σ2) (20, [(0, .ref o)], [], mk X, (sI (sI (sI (sI σ o 7 0) o 8 0) o 9 0) o 10 0))
  refine Ex.blk 2 rfl ?_
  show Ex mr_X7_startCounts sc (Cl MT pr sc (d + 0)) (rtE none (mk X2) σ2) (22, [(0, .ref o)], [.int 0, .ref o], mk X, (sI (sI (sI (sI σ o 7 0) o 8 0) o 9 0) o 10 0))
  refine ex_putI rfl hk_o_X rfl ?_
  show Ex mr_X7_startCounts sc (Cl MT pr sc (d + 0)) (rtE none (mk X2) σ2) (25, [(0, .ref o)], [], mk X, (sI (sI (sI (sI (sI σ o 7 0) o 8 0) o 9 0) o 10 0) o 11 0))
  refine Ex.blk 2 rfl ?_
  show Ex mr_X7_startCounts sc (Cl MT pr sc (d + 0)) (rtE none (mk X2) σ2) (27, [(0, .ref o)], [.int 0, .ref o], mk X, (sI (sI (sI (sI (sI σ o 7 0) o 8 0) o 9 0) o 10 0) o 11 0))
  refine ex_putI rfl hk_o_X rfl ?_
  show Ex mr_X7_startCounts sc (Cl MT pr sc (d + 0)) (rtE none (mk X2) σ2) (30, [(0, .ref o)], [], mk X, (sI (sI (sI (sI (sI (sI σ o 7 0) o 8 0) o 9 0) o 10 0) o 11 0) o 12 0))
  refine Ex.blk 1 rfl ?_
  cases h
  exact And.intro trivial ⟨rfl, rfl, rfl⟩
theorem lg_X7_beginAs_53 {pr : Ct} {sc : Nat × (Nat → Int32)} (d : Nat) (o : Nat) (q : Nat)  {X2 : En} {σ2 : St} (X : En) (σ : St) (h : g_X7_beginAs_53 o q X σ = some (X2, σ2)) : Ex mr_X7_beginAs sc (Cl MT pr sc (d + 1)) (rtE none (mk X2) σ2) (53, [(0, .ref o)], [], mk X, σ) := by
  unfold g_X7_beginAs_53 at h
  obtain ⟨hk_o_X, h⟩ := gd_some h
  refine Ex.blk 1 rfl ?_
  show Ex mr_X7_beginAs sc (Cl MT pr sc (d + 1)) (rtE none (mk X2) σ2) (54, [(0, .ref o)], [.ref o], mk X, σ)
  obtain ⟨p19, hp19, h⟩ := bind_sp h
  refine ex_callV (rv := none) (E1 := (mk p19.1)) (σ1 := p19.2) rfl rfl hk_o_X rfl rfl rfl (cg_X7_startCounts (d + 0) hp19) ?_
  show Ex mr_X7_beginAs sc (Cl MT pr sc (d + 1)) (rtE none (mk X2) σ2) (57, [(0, .ref o)], [], mk p19.1, p19.2)
  obtain ⟨hk_o_p19_1, h⟩ := gd_some h
  refine Ex.blk 1 rfl ?_
  cases h
  exact And.intro trivial ⟨rfl, rfl, rfl⟩
theorem lg_X7_beginAs_23 {pr : Ct} {sc : Nat × (Nat → Int32)} (d : Nat) (o : Nat) (q : Nat)  {X2 : En} {σ2 : St} (X : En) (σ : St) (h : g_X7_beginAs_23 o q X σ = some (X2, σ2)) : Ex mr_X7_beginAs sc (Cl MT pr sc (d + 1)) (rtE none (mk X2) σ2) (23, [(0, .ref o), (1, .ref q)], [], mk X, σ) := by
  unfold g_X7_beginAs_23 at h
  obtain ⟨hk_o_X, h⟩ := gd_some h
  obtain ⟨hk_q_X, h⟩ := gd_some h
  refine Ex.blk 1 rfl ?_
  show Ex mr_X7_beginAs sc (Cl MT pr sc (d + 1)) (rtE none (mk X2) σ2) (24, [(0, .ref o), (1, .ref q)], [.ref q], mk X, σ)
  obtain ⟨b7, hb8, h⟩ := bind_sp h
  refine ex_get rfl hk_q_X (congrArg orv hb8) ?_
  show Ex mr_X7_beginAs sc (Cl MT pr sc (d + 1)) (rtE none (mk X2) σ2) (27, [(0, .ref o), (1, .ref q)], [.ref b7], mk X, σ)
  obtain ⟨hk_b7_X, h⟩ := gd_some h
  refine Ex.blk 2 rfl ?_
  show Ex mr_X7_beginAs sc (Cl MT pr sc (d + 1)) (rtE none (mk X2) σ2) (29, [(0, .ref o), (1, .ref q)], [.ref o, .int 0, .ref b7], mk X, σ)
  obtain ⟨b9, hb10, h⟩ := bind_sp h
  refine ex_get rfl hk_o_X (congrArg orv hb10) ?_
  show Ex mr_X7_beginAs sc (Cl MT pr sc (d + 1)) (rtE none (mk X2) σ2) (32, [(0, .ref o), (1, .ref q)], [.ref b9, .int 0, .ref b7], mk X, σ)
  obtain ⟨hk_b9_X, h⟩ := gd_some h
  refine Ex.blk 2 rfl ?_
  show Ex mr_X7_beginAs sc (Cl MT pr sc (d + 1)) (rtE none (mk X2) σ2) (35, [(0, .ref o), (1, .ref q)], [.int 12, .int 0, .ref b9, .int 0, .ref b7], mk X, σ)
  obtain ⟨g11, h⟩ := gd_some h
  obtain ⟨g12, h⟩ := gd_some h
  refine ex_copy rfl rfl hk_b7_X hk_b9_X g11 rfl g12 ?_
  show Ex mr_X7_beginAs sc (Cl MT pr sc (d + 1)) (rtE none (mk X2) σ2) (38, [(0, .ref o), (1, .ref q)], [], mk X, (cpI σ b7 0 b9 0 (12 : Int32).toNatClampNeg))
  refine Ex.blk 1 rfl ?_
  show Ex mr_X7_beginAs sc (Cl MT pr sc (d + 1)) (rtE none (mk X2) σ2) (39, [(0, .ref o), (1, .ref q)], [.ref q], mk X, (cpI σ b7 0 b9 0 (12 : Int32).toNatClampNeg))
  obtain ⟨b13, hb14, h⟩ := bind_sp h
  refine ex_get rfl hk_q_X (congrArg orv hb14) ?_
  show Ex mr_X7_beginAs sc (Cl MT pr sc (d + 1)) (rtE none (mk X2) σ2) (42, [(0, .ref o), (1, .ref q)], [.ref b13], mk X, (cpI σ b7 0 b9 0 (12 : Int32).toNatClampNeg))
  obtain ⟨hk_b13_X, h⟩ := gd_some h
  refine Ex.blk 2 rfl ?_
  show Ex mr_X7_beginAs sc (Cl MT pr sc (d + 1)) (rtE none (mk X2) σ2) (44, [(0, .ref o), (1, .ref q)], [.ref o, .int 0, .ref b13], mk X, (cpI σ b7 0 b9 0 (12 : Int32).toNatClampNeg))
  obtain ⟨b15, hb16, h⟩ := bind_sp h
  refine ex_get rfl hk_o_X (congrArg orv hb16) ?_
  show Ex mr_X7_beginAs sc (Cl MT pr sc (d + 1)) (rtE none (mk X2) σ2) (47, [(0, .ref o), (1, .ref q)], [.ref b15, .int 0, .ref b13], mk X, (cpI σ b7 0 b9 0 (12 : Int32).toNatClampNeg))
  obtain ⟨hk_b15_X, h⟩ := gd_some h
  refine Ex.blk 2 rfl ?_
  show Ex mr_X7_beginAs sc (Cl MT pr sc (d + 1)) (rtE none (mk X2) σ2) (50, [(0, .ref o), (1, .ref q)], [.int 12, .int 0, .ref b15, .int 0, .ref b13], mk X, (cpI σ b7 0 b9 0 (12 : Int32).toNatClampNeg))
  obtain ⟨g17, h⟩ := gd_some h
  obtain ⟨g18, h⟩ := gd_some h
  refine ex_copy rfl rfl hk_b13_X hk_b15_X g17 rfl g18 ?_
  show Ex mr_X7_beginAs sc (Cl MT pr sc (d + 1)) (rtE none (mk X2) σ2) (53, [(0, .ref o), (1, .ref q)], [], mk X, (cpI (cpI σ b7 0 b9 0 (12 : Int32).toNatClampNeg) b13 0 b15 0 (12 : Int32).toNatClampNeg))
  show Ex mr_X7_beginAs sc (Cl MT pr sc (d + 1)) (rtE none (mk X2) σ2) (53, [(0, .ref o), (1, .ref q)], [], mk X, (cpI (cpI σ b7 0 b9 0 (12 : Int32).toNatClampNeg) b13 0 b15 0 (12 : Int32).toNatClampNeg))
  refine Ex.pick (lv' := _) [0] rfl ?_
  exact lg_X7_beginAs_53 d o q _ _ h
theorem cg_X7_beginAs {pr : Ct} {sc : Nat × (Nat → Int32)} (d : Nat)  {X2 : En} {σ2 : St} {o : Nat} {q : Nat} {X : En} {σ : St} (h : g_X7_beginAs o q X σ = some (X2, σ2)) : Cl MT pr sc (d + 1 + 1) 66 [.ref o, .ref q] (mk X) σ none (mk X2) σ2 := by
  unfold g_X7_beginAs at h
  obtain ⟨p, hp, h⟩ := bind_sp h
  obtain ⟨hz, h⟩ := gd_some h
  cases h
  refine cl_of2 mr_X7_beginAs rfl rfl hz ?_
  have h := hp
  clear hp
  unfold g_X7_beginAs_b at h
  obtain ⟨hk_o_X, h⟩ := gd_some h
  obtain ⟨hk_q_X, h⟩ := gd_some h
  refine Ex.blk 2 rfl ?_
  show Ex mr_X7_beginAs sc (Cl MT pr sc (d + 1)) (rtE none (mk X2) σ2) (2, [(0, .ref o), (1, .ref q)], [.ref q, .ref o], mk X, σ)
  refine ex_get rfl hk_q_X rfl ?_
  show Ex mr_X7_beginAs sc (Cl MT pr sc (d + 1)) (rtE none (mk X2) σ2) (5, [(0, .ref o), (1, .ref q)], [.int (gI σ q 0), .ref o], mk X, σ)
  refine ex_putI rfl hk_o_X rfl ?_
  show Ex mr_X7_beginAs sc (Cl MT pr sc (d + 1)) (rtE none (mk X2) σ2) (8, [(0, .ref o), (1, .ref q)], [], mk X, (sI σ o 0 (gI σ q 0)))
  refine Ex.blk 1 rfl ?_
  show Ex mr_X7_beginAs sc (Cl MT pr sc (d + 1)) (rtE none (mk X2) σ2) (9, [(0, .ref o), (1, .ref q)], [.ref q], mk X, (sI σ o 0 (gI σ q 0)))
  obtain ⟨b1, hb2, h⟩ := bind_sp h
  refine ex_get rfl hk_q_X (congrArg orv hb2) ?_
  show Ex mr_X7_beginAs sc (Cl MT pr sc (d + 1)) (rtE none (mk X2) σ2) (12, [(0, .ref o), (1, .ref q)], [.ref b1], mk X, (sI σ o 0 (gI σ q 0)))
  obtain ⟨hk_b1_X, h⟩ := gd_some h
  refine Ex.blk 2 rfl ?_
  show Ex mr_X7_beginAs sc (Cl MT pr sc (d + 1)) (rtE none (mk X2) σ2) (14, [(0, .ref o), (1, .ref q)], [.ref o, .int 0, .ref b1], mk X, (sI σ o 0 (gI σ q 0)))
  obtain ⟨b3, hb4, h⟩ := bind_sp h
  refine ex_get rfl hk_o_X (congrArg orv hb4) ?_
  show Ex mr_X7_beginAs sc (Cl MT pr sc (d + 1)) (rtE none (mk X2) σ2) (17, [(0, .ref o), (1, .ref q)], [.ref b3, .int 0, .ref b1], mk X, (sI σ o 0 (gI σ q 0)))
  obtain ⟨hk_b3_X, h⟩ := gd_some h
  refine Ex.blk 2 rfl ?_
  show Ex mr_X7_beginAs sc (Cl MT pr sc (d + 1)) (rtE none (mk X2) σ2) (20, [(0, .ref o), (1, .ref q)], [.int 12, .int 0, .ref b3, .int 0, .ref b1], mk X, (sI σ o 0 (gI σ q 0)))
  obtain ⟨g5, h⟩ := gd_some h
  obtain ⟨g6, h⟩ := gd_some h
  refine ex_copy rfl rfl hk_b1_X hk_b3_X g5 rfl g6 ?_
  show Ex mr_X7_beginAs sc (Cl MT pr sc (d + 1)) (rtE none (mk X2) σ2) (23, [(0, .ref o), (1, .ref q)], [], mk X, (cpI (sI σ o 0 (gI σ q 0)) b1 0 b3 0 (12 : Int32).toNatClampNeg))
  show Ex mr_X7_beginAs sc (Cl MT pr sc (d + 1)) (rtE none (mk X2) σ2) (23, [(0, .ref o), (1, .ref q)], [], mk X, (cpI (sI σ o 0 (gI σ q 0)) b1 0 b3 0 (12 : Int32).toNatClampNeg))
  exact lg_X7_beginAs_23 d o q _ _ h
theorem lg_X7_becomeAs_69 {pr : Ct} {sc : Nat × (Nat → Int32)} (d : Nat) (o : Nat) (q : Nat)  {X2 : En} {σ2 : St} (X : En) (σ : St) (h : g_X7_becomeAs_69 o q X σ = some (X2, σ2)) : Ex mr_X7_becomeAs sc (Cl MT pr sc (d + 2)) (rtE none (mk X2) σ2) (69, [(0, .ref o), (1, .ref q)], [], mk X, σ) := by
  unfold g_X7_becomeAs_69 at h
  obtain ⟨hk_o_X, h⟩ := gd_some h
  obtain ⟨hk_q_X, h⟩ := gd_some h
  refine Ex.blk 2 rfl ?_
  show Ex mr_X7_becomeAs sc (Cl MT pr sc (d + 2)) (rtE none (mk X2) σ2) (71, [(0, .ref o), (1, .ref q)], [.ref q, .ref o], mk X, σ)
  refine ex_get rfl hk_q_X rfl ?_
  show Ex mr_X7_becomeAs sc (Cl MT pr sc (d + 2)) (rtE none (mk X2) σ2) (74, [(0, .ref o), (1, .ref q)], [.int (gI σ q 12), .ref o], mk X, σ)
  refine ex_putI rfl hk_o_X rfl ?_
  show Ex mr_X7_becomeAs sc (Cl MT pr sc (d + 2)) (rtE none (mk X2) σ2) (77, [(0, .ref o), (1, .ref q)], [], mk X, (sI σ o 12 (gI σ q 12)))
  refine Ex.blk 1 rfl ?_
  cases h
  exact And.intro trivial ⟨rfl, rfl, rfl⟩
theorem lg_X7_becomeAs_53 {pr : Ct} {sc : Nat × (Nat → Int32)} (d : Nat) (o : Nat) (q : Nat)  {X2 : En} {σ2 : St} (X : En) (σ : St) (h : g_X7_becomeAs_53 o q X σ = some (X2, σ2)) : Ex mr_X7_becomeAs sc (Cl MT pr sc (d + 2)) (rtE none (mk X2) σ2) (53, [(0, .ref o), (1, .ref q)], [], mk X, σ) := by
  unfold g_X7_becomeAs_53 at h
  obtain ⟨hk_o_X, h⟩ := gd_some h
  obtain ⟨hk_q_X, h⟩ := gd_some h
  refine Ex.blk 2 rfl ?_
  show Ex mr_X7_becomeAs sc (Cl MT pr sc (d + 2)) (rtE none (mk X2) σ2) (55, [(0, .ref o), (1, .ref q)], [.ref q, .ref o], mk X, σ)
  refine ex_get rfl hk_q_X rfl ?_
  show Ex mr_X7_becomeAs sc (Cl MT pr sc (d + 2)) (rtE none (mk X2) σ2) (58, [(0, .ref o), (1, .ref q)], [.int (gI σ q 10), .ref o], mk X, σ)
  refine ex_putI rfl hk_o_X rfl ?_
  show Ex mr_X7_becomeAs sc (Cl MT pr sc (d + 2)) (rtE none (mk X2) σ2) (61, [(0, .ref o), (1, .ref q)], [], mk X, (sI σ o 10 (gI σ q 10)))
  refine Ex.blk 2 rfl ?_
  show Ex mr_X7_becomeAs sc (Cl MT pr sc (d + 2)) (rtE none (mk X2) σ2) (63, [(0, .ref o), (1, .ref q)], [.ref q, .ref o], mk X, (sI σ o 10 (gI σ q 10)))
  refine ex_get rfl hk_q_X rfl ?_
  show Ex mr_X7_becomeAs sc (Cl MT pr sc (d + 2)) (rtE none (mk X2) σ2) (66, [(0, .ref o), (1, .ref q)], [.int (gI (sI σ o 10 (gI σ q 10)) q 11), .ref o], mk X, (sI σ o 10 (gI σ q 10)))
  refine ex_putI rfl hk_o_X rfl ?_
  show Ex mr_X7_becomeAs sc (Cl MT pr sc (d + 2)) (rtE none (mk X2) σ2) (69, [(0, .ref o), (1, .ref q)], [], mk X, (sI (sI σ o 10 (gI σ q 10)) o 11 (gI (sI σ o 10 (gI σ q 10)) q 11)))
  show Ex mr_X7_becomeAs sc (Cl MT pr sc (d + 2)) (rtE none (mk X2) σ2) (69, [(0, .ref o), (1, .ref q)], [], mk X, (sI (sI σ o 10 (gI σ q 10)) o 11 (gI (sI σ o 10 (gI σ q 10)) q 11)))
  exact lg_X7_becomeAs_69 d o q _ _ h
theorem lg_X7_becomeAs_37 {pr : Ct} {sc : Nat × (Nat → Int32)} (d : Nat) (o : Nat) (q : Nat)  {X2 : En} {σ2 : St} (X : En) (σ : St) (h : g_X7_becomeAs_37 o q X σ = some (X2, σ2)) : Ex mr_X7_becomeAs sc (Cl MT pr sc (d + 2)) (rtE none (mk X2) σ2) (37, [(0, .ref o), (1, .ref q)], [], mk X, σ) := by
  unfold g_X7_becomeAs_37 at h
  obtain ⟨hk_o_X, h⟩ := gd_some h
  obtain ⟨hk_q_X, h⟩ := gd_some h
  refine Ex.blk 2 rfl ?_
  show Ex mr_X7_becomeAs sc (Cl MT pr sc (d + 2)) (rtE none (mk X2) σ2) (39, [(0, .ref o), (1, .ref q)], [.ref q, .ref o], mk X, σ)
  refine ex_get rfl hk_q_X rfl ?_
  show Ex mr_X7_becomeAs sc (Cl MT pr sc (d + 2)) (rtE none (mk X2) σ2) (42, [(0, .ref o), (1, .ref q)], [.int (gI σ q 8), .ref o], mk X, σ)
  refine ex_putI rfl hk_o_X rfl ?_
  show Ex mr_X7_becomeAs sc (Cl MT pr sc (d + 2)) (rtE none (mk X2) σ2) (45, [(0, .ref o), (1, .ref q)], [], mk X, (sI σ o 8 (gI σ q 8)))
  refine Ex.blk 2 rfl ?_
  show Ex mr_X7_becomeAs sc (Cl MT pr sc (d + 2)) (rtE none (mk X2) σ2) (47, [(0, .ref o), (1, .ref q)], [.ref q, .ref o], mk X, (sI σ o 8 (gI σ q 8)))
  refine ex_get rfl hk_q_X rfl ?_
  show Ex mr_X7_becomeAs sc (Cl MT pr sc (d + 2)) (rtE none (mk X2) σ2) (50, [(0, .ref o), (1, .ref q)], [.int (gI (sI σ o 8 (gI σ q 8)) q 9), .ref o], mk X, (sI σ o 8 (gI σ q 8)))
  refine ex_putI rfl hk_o_X rfl ?_
  show Ex mr_X7_becomeAs sc (Cl MT pr sc (d + 2)) (rtE none (mk X2) σ2) (53, [(0, .ref o), (1, .ref q)], [], mk X, (sI (sI σ o 8 (gI σ q 8)) o 9 (gI (sI σ o 8 (gI σ q 8)) q 9)))
  show Ex mr_X7_becomeAs sc (Cl MT pr sc (d + 2)) (rtE none (mk X2) σ2) (53, [(0, .ref o), (1, .ref q)], [], mk X, (sI (sI σ o 8 (gI σ q 8)) o 9 (gI (sI σ o 8 (gI σ q 8)) q 9)))
  exact lg_X7_becomeAs_53 d o q _ _ h
theorem lg_X7_becomeAs_21 {pr : Ct} {sc : Nat × (Nat → Int32)} (d : Nat) (o : Nat) (q : Nat)  {X2 : En} {σ2 : St} (X : En) (σ : St) (h : g_X7_becomeAs_21 o q X σ = some (X2, σ2)) : Ex mr_X7_becomeAs sc (Cl MT pr sc (d + 2)) (rtE none (mk X2) σ2) (21, [(0, .ref o), (1, .ref q)], [], mk X, σ) := by
  unfold g_X7_becomeAs_21 at h
  obtain ⟨hk_o_X, h⟩ := gd_some h
  obtain ⟨hk_q_X, h⟩ := gd_some h
  refine Ex.blk 2 rfl ?_
  show Ex mr_X7_becomeAs sc (Cl MT pr sc (d + 2)) (rtE none (mk X2) σ2) (23, [(0, .ref o), (1, .ref q)], [.ref q, .ref o], mk X, σ)
  refine ex_get rfl hk_q_X rfl ?_
  show Ex mr_X7_becomeAs sc (Cl MT pr sc (d + 2)) (rtE none (mk X2) σ2) (26, [(0, .ref o), (1, .ref q)], [.long (gJ σ q 6), .ref o], mk X, σ)
  refine ex_putJ rfl hk_o_X rfl ?_
  show Ex mr_X7_becomeAs sc (Cl MT pr sc (d + 2)) (rtE none (mk X2) σ2) (29, [(0, .ref o), (1, .ref q)], [], mk X, (sJ σ o 6 (gJ σ q 6)))
  refine Ex.blk 2 rfl ?_
  show Ex mr_X7_becomeAs sc (Cl MT pr sc (d + 2)) (rtE none (mk X2) σ2) (31, [(0, .ref o), (1, .ref q)], [.ref q, .ref o], mk X, (sJ σ o 6 (gJ σ q 6)))
  refine ex_get rfl hk_q_X rfl ?_
  show Ex mr_X7_becomeAs sc (Cl MT pr sc (d + 2)) (rtE none (mk X2) σ2) (34, [(0, .ref o), (1, .ref q)], [.int (gI (sJ σ o 6 (gJ σ q 6)) q 7), .ref o], mk X, (sJ σ o 6 (gJ σ q 6)))
  refine ex_putI rfl hk_o_X rfl ?_
  show Ex mr_X7_becomeAs sc (Cl MT pr sc (d + 2)) (rtE none (mk X2) σ2) (37, [(0, .ref o), (1, .ref q)], [], mk X, (sI (sJ σ o 6 (gJ σ q 6)) o 7 (gI (sJ σ o 6 (gJ σ q 6)) q 7)))
  show Ex mr_X7_becomeAs sc (Cl MT pr sc (d + 2)) (rtE none (mk X2) σ2) (37, [(0, .ref o), (1, .ref q)], [], mk X, (sI (sJ σ o 6 (gJ σ q 6)) o 7 (gI (sJ σ o 6 (gJ σ q 6)) q 7)))
  exact lg_X7_becomeAs_37 d o q _ _ h
theorem cg_X7_becomeAs {pr : Ct} {sc : Nat × (Nat → Int32)} (d : Nat)  {X2 : En} {σ2 : St} {o : Nat} {q : Nat} {X : En} {σ : St} (h : g_X7_becomeAs o q X σ = some (X2, σ2)) : Cl MT pr sc (d + 2 + 1) 67 [.ref o, .ref q] (mk X) σ none (mk X2) σ2 := by
  unfold g_X7_becomeAs at h
  obtain ⟨p, hp, h⟩ := bind_sp h
  obtain ⟨hz, h⟩ := gd_some h
  cases h
  refine cl_of2 mr_X7_becomeAs rfl rfl hz ?_
  have h := hp
  clear hp
  unfold g_X7_becomeAs_b at h
  obtain ⟨hk_o_X, h⟩ := gd_some h
  obtain ⟨hk_q_X, h⟩ := gd_some h
  refine Ex.blk 2 rfl ?_
  show Ex mr_X7_becomeAs sc (Cl MT pr sc (d + 2)) (rtE none (mk X2) σ2) (2, [(0, .ref o), (1, .ref q)], [.ref q, .ref o], mk X, σ)
  obtain ⟨p1, hp1, h⟩ := bind_sp h
  refine ex_callV (rv := none) (E1 := (mk p1.1)) (σ1 := p1.2) rfl rfl hk_o_X rfl rfl rfl (cg_X7_beginAs (d + 0) hp1) ?_
  show Ex mr_X7_becomeAs sc (Cl MT pr sc (d + 2)) (rtE none (mk X2) σ2) (5, [(0, .ref o), (1, .ref q)], [], mk p1.1, p1.2)
  obtain ⟨hk_o_p1_1, h⟩ := gd_some h
  obtain ⟨hk_q_p1_1, h⟩ := gd_some h
  refine Ex.blk 2 rfl ?_
  show Ex mr_X7_becomeAs sc (Cl MT pr sc (d + 2)) (rtE none (mk X2) σ2) (7, [(0, .ref o), (1, .ref q)], [.ref q, .ref o], mk p1.1, p1.2)
  refine ex_get rfl hk_q_p1_1 rfl ?_
  show Ex mr_X7_becomeAs sc (Cl MT pr sc (d + 2)) (rtE none (mk X2) σ2) (10, [(0, .ref o), (1, .ref q)], [.int (gI p1.2 q 4), .ref o], mk p1.1, p1.2)
  refine ex_putI rfl hk_o_p1_1 rfl ?_
  show Ex mr_X7_becomeAs sc (Cl MT pr sc (d + 2)) (rtE none (mk X2) σ2) (13, [(0, .ref o), (1, .ref q)], [], mk p1.1, (sI p1.2 o 4 (gI p1.2 q 4)))
  refine Ex.blk 2 rfl ?_
  show Ex mr_X7_becomeAs sc (Cl MT pr sc (d + 2)) (rtE none (mk X2) σ2) (15, [(0, .ref o), (1, .ref q)], [.ref q, .ref o], mk p1.1, (sI p1.2 o 4 (gI p1.2 q 4)))
  refine ex_get rfl hk_q_p1_1 rfl ?_
  show Ex mr_X7_becomeAs sc (Cl MT pr sc (d + 2)) (rtE none (mk X2) σ2) (18, [(0, .ref o), (1, .ref q)], [.int (gI (sI p1.2 o 4 (gI p1.2 q 4)) q 5), .ref o], mk p1.1, (sI p1.2 o 4 (gI p1.2 q 4)))
  refine ex_putI rfl hk_o_p1_1 rfl ?_
  show Ex mr_X7_becomeAs sc (Cl MT pr sc (d + 2)) (rtE none (mk X2) σ2) (21, [(0, .ref o), (1, .ref q)], [], mk p1.1, (sI (sI p1.2 o 4 (gI p1.2 q 4)) o 5 (gI (sI p1.2 o 4 (gI p1.2 q 4)) q 5)))
  show Ex mr_X7_becomeAs sc (Cl MT pr sc (d + 2)) (rtE none (mk X2) σ2) (21, [(0, .ref o), (1, .ref q)], [], mk p1.1, (sI (sI p1.2 o 4 (gI p1.2 q 4)) o 5 (gI (sI p1.2 o 4 (gI p1.2 q 4)) q 5)))
  exact lg_X7_becomeAs_21 d o q _ _ h
theorem lg_X9_image_25 {pr : Ct} {sc : Nat × (Nat → Int32)} (d : Nat) {r : Int32} {X2 : En} {σ2 : St} (X : En) (σ : St) (h : g_X9_image_25 X σ = some (r, X2, σ2)) : Ex mr_X9_image sc (Cl MT pr sc (d + 3)) (rtE (some (.int r)) (mk X2) σ2) (25, [(0, .ref 0)], [], mk X, σ) := by
  unfold g_X9_image_25 at h
  refine Ex.blk 1 rfl ?_
  show Ex mr_X9_image sc (Cl MT pr sc (d + 3)) (rtE (some (.int r)) (mk X2) σ2) (26, [(0, .ref 0)], [.ref 0], mk X, σ)
  rcases mR_sp h with ⟨hb4, h⟩ | ⟨b3, hb4, h⟩
  · refine ex_get rfl (by rfl) (congrArg orv hb4) ?_
    show Ex mr_X9_image sc (Cl MT pr sc (d + 3)) (rtE (some (.int r)) (mk X2) σ2) (29, [(0, .ref 0)], [.null], mk X, σ)
    cases h
  · refine ex_get rfl (by rfl) (congrArg orv hb4) ?_
    show Ex mr_X9_image sc (Cl MT pr sc (d + 3)) (rtE (some (.int r)) (mk X2) σ2) (29, [(0, .ref 0)], [.ref b3], mk X, σ)
    obtain ⟨hk_b3_X, h⟩ := gd_some h
    refine Ex.blk 2 rfl ?_
    show Ex mr_X9_image sc (Cl MT pr sc (d + 3)) (rtE (some (.int r)) (mk X2) σ2) (33, [(0, .ref 0)], [.ref 1, .ref b3], mk X, σ)
    obtain ⟨p5, hp5, h⟩ := bind_sp h
    refine ex_callV (rv := none) (E1 := (mk p5.1)) (σ1 := p5.2) rfl rfl hk_b3_X rfl rfl rfl (cg_X7_becomeAs (d + 0) hp5) ?_
    show Ex mr_X9_image sc (Cl MT pr sc (d + 3)) (rtE (some (.int r)) (mk X2) σ2) (36, [(0, .ref 0)], [], mk p5.1, p5.2)
    refine Ex.blk 5 rfl ?_
    show Ex mr_X9_image sc (Cl MT pr sc (d + 3)) (rtE (some (.int r)) (mk X2) σ2) (45, [(0, .ref 0)], [.ref 0], mk p5.1, (sI p5.2 0 3 (gI p5.2 0 13)))
    refine Ex.blk 2 rfl ?_
    cases h
    exact And.intro trivial ⟨rfl, rfl, rfl⟩
theorem cg_X9_image {pr : Ct} {sc : Nat × (Nat → Int32)} (d : Nat) {r : Int32} {X2 : En} {σ2 : St} {X : En} {σ : St} (h : g_X9_image X σ = some (r, X2, σ2)) : Cl MT pr sc (d + 3 + 1) 145 [.ref 0] (mk X) σ (some (.int r)) (mk X2) σ2 := by
  unfold g_X9_image at h
  obtain ⟨p, hp, h⟩ := bind_sp h
  obtain ⟨hz, h⟩ := gd_some h
  cases h
  refine cl_of2 mr_X9_image rfl rfl hz ?_
  have h := hp
  clear hp
  unfold g_X9_image_b at h
  refine Ex.blk 1 rfl ?_
  show Ex mr_X9_image sc (Cl MT pr sc (d + 3)) (rtE (some (.int r)) (mk X2) σ2) (1, [(0, .ref 0)], [.ref 0], mk X, σ)
  rcases mR_sp h with ⟨hb2, h⟩ | ⟨b1, hb2, h⟩
  · refine ex_get rfl (by rfl) (congrArg orv hb2) ?_
    show Ex mr_X9_image sc (Cl MT pr sc (d + 3)) (rtE (some (.int r)) (mk X2) σ2) (4, [(0, .ref 0)], [.null], mk X, σ)
    refine Ex.blk 1 rfl ?_
    show Ex mr_X9_image sc (Cl MT pr sc (d + 3)) (rtE (some (.int r)) (mk X2) σ2) (7, [(0, .ref 0)], [], mk X, σ)
    refine Ex.blk 1 rfl ?_
    show Ex mr_X9_image sc (Cl MT pr sc (d + 3)) (rtE (some (.int r)) (mk X2) σ2) (8, [(0, .ref 0)], [.ref 0], mk X, σ)
    obtain ⟨g12, h⟩ := gd_some h
    obtain ⟨t7, Y8, τ9, he10, h⟩ := mkO_sp h
    refine ex_newX rfl g12 he10 ?_
    show Ex mr_X9_image sc (Cl MT pr sc (d + 3)) (rtE (some (.int r)) (mk X2) σ2) (11, [(0, .ref 0)], [.ref t7, .ref 0], mk Y8, τ9)
    obtain ⟨hk_t7_Y8, h⟩ := gd_some h
    refine Ex.blk 4 rfl ?_
    show Ex mr_X9_image sc (Cl MT pr sc (d + 3)) (rtE (some (.int r)) (mk X2) σ2) (19, [(0, .ref 0)], [.int (gI τ9 1 0), .ref t7, .ref t7, .ref 0], mk Y8, τ9)
    obtain ⟨p11, hp11, h⟩ := bind_sp h
    refine Ex.blk 1 rfl ?_
    refine Exists.intro none (Exists.intro (mk p11.1) (Exists.intro p11.2 (And.intro (cg_X7_init (d + 1) hp11) ?_)))
    show Ex mr_X9_image sc (Cl MT pr sc (d + 3)) (rtE (some (.int r)) (mk X2) σ2) (22, [(0, .ref 0)], [.ref t7, .ref 0], mk p11.1, p11.2)
    obtain ⟨hk_t7_p11_1, h⟩ := gd_some h
    refine Ex.blk 1 rfl ?_
    show Ex mr_X9_image sc (Cl MT pr sc (d + 3)) (rtE (some (.int r)) (mk X2) σ2) (25, [(0, .ref 0)], [], mk p11.1, (sR p11.2 0 2 (some t7)))
    show Ex mr_X9_image sc (Cl MT pr sc (d + 3)) (rtE (some (.int r)) (mk X2) σ2) (25, [(0, .ref 0)], [], mk p11.1, (sR p11.2 0 2 (some t7)))
    exact lg_X9_image_25 d _ _ h
  · refine ex_get rfl (by rfl) (congrArg orv hb2) ?_
    show Ex mr_X9_image sc (Cl MT pr sc (d + 3)) (rtE (some (.int r)) (mk X2) σ2) (4, [(0, .ref 0)], [.ref b1], mk X, σ)
    obtain ⟨hk_b1_X, h⟩ := gd_some h
    refine Ex.blk 1 rfl ?_
    show Ex mr_X9_image sc (Cl MT pr sc (d + 3)) (rtE (some (.int r)) (mk X2) σ2) (25, [(0, .ref 0)], [], mk X, σ)
    show Ex mr_X9_image sc (Cl MT pr sc (d + 3)) (rtE (some (.int r)) (mk X2) σ2) (25, [(0, .ref 0)], [], mk X, σ)
    exact lg_X9_image_25 d _ _ h
theorem cg_X9_back {pr : Ct} {sc : Nat × (Nat → Int32)} (d : Nat) {r : Int32} {X2 : En} {σ2 : St} {X : En} {σ : St} (h : g_X9_back X σ = some (r, X2, σ2)) : Cl MT pr sc (d + 3 + 1) 146 [.ref 0] (mk X) σ (some (.int r)) (mk X2) σ2 := by
  unfold g_X9_back at h
  obtain ⟨p, hp, h⟩ := bind_sp h
  obtain ⟨hz, h⟩ := gd_some h
  cases h
  refine cl_of2 mr_X9_back rfl rfl hz ?_
  have h := hp
  clear hp
  unfold g_X9_back_b at h
  refine Ex.blk 1 rfl ?_
  show Ex mr_X9_back sc (Cl MT pr sc (d + 3)) (rtE (some (.int r)) (mk X2) σ2) (1, [(0, .ref 0)], [.ref 0], mk X, σ)
  rcases mR_sp h with ⟨hb2, h⟩ | ⟨b1, hb2, h⟩
  · refine ex_get rfl (by rfl) (congrArg orv hb2) ?_
    show Ex mr_X9_back sc (Cl MT pr sc (d + 3)) (rtE (some (.int r)) (mk X2) σ2) (4, [(0, .ref 0)], [.null], mk X, σ)
    refine Ex.blk 1 rfl ?_
    show Ex mr_X9_back sc (Cl MT pr sc (d + 3)) (rtE (some (.int r)) (mk X2) σ2) (7, [(0, .ref 0)], [], mk X, σ)
    refine Ex.blk 2 rfl ?_
    cases h
    exact And.intro trivial ⟨rfl, rfl, rfl⟩
  · refine ex_get rfl (by rfl) (congrArg orv hb2) ?_
    show Ex mr_X9_back sc (Cl MT pr sc (d + 3)) (rtE (some (.int r)) (mk X2) σ2) (4, [(0, .ref 0)], [.ref b1], mk X, σ)
    obtain ⟨hk_b1_X, h⟩ := gd_some h
    refine Ex.blk 1 rfl ?_
    show Ex mr_X9_back sc (Cl MT pr sc (d + 3)) (rtE (some (.int r)) (mk X2) σ2) (9, [(0, .ref 0)], [], mk X, σ)
    refine Ex.blk 3 rfl ?_
    show Ex mr_X9_back sc (Cl MT pr sc (d + 3)) (rtE (some (.int r)) (mk X2) σ2) (14, [(0, .ref 0)], [.ref 0, .ref 1], mk X, σ)
    rcases mR_sp h with ⟨hb4, h⟩ | ⟨b3, hb4, h⟩
    · refine ex_get rfl (by rfl) (congrArg orv hb4) ?_
      show Ex mr_X9_back sc (Cl MT pr sc (d + 3)) (rtE (some (.int r)) (mk X2) σ2) (17, [(0, .ref 0)], [.null, .ref 1], mk X, σ)
      cases h
    · refine ex_get rfl (by rfl) (congrArg orv hb4) ?_
      show Ex mr_X9_back sc (Cl MT pr sc (d + 3)) (rtE (some (.int r)) (mk X2) σ2) (17, [(0, .ref 0)], [.ref b3, .ref 1], mk X, σ)
      obtain ⟨hk_b3_X, h⟩ := gd_some h
      obtain ⟨p5, hp5, h⟩ := bind_sp h
      refine Ex.blk 1 rfl ?_
      refine Exists.intro none (Exists.intro (mk p5.1) (Exists.intro p5.2 (And.intro (cg_X7_becomeAs (d + 0) hp5) ?_)))
      show Ex mr_X9_back sc (Cl MT pr sc (d + 3)) (rtE (some (.int r)) (mk X2) σ2) (20, [(0, .ref 0)], [], mk p5.1, p5.2)
      refine Ex.blk 5 rfl ?_
      show Ex mr_X9_back sc (Cl MT pr sc (d + 3)) (rtE (some (.int r)) (mk X2) σ2) (29, [(0, .ref 0)], [.ref 0], mk p5.1, (sI p5.2 0 13 (gI p5.2 0 3)))
      refine Ex.blk 1 rfl ?_
      show Ex mr_X9_back sc (Cl MT pr sc (d + 3)) (rtE (some (.int r)) (mk X2) σ2) (32, [(0, .ref 0)], [.ref 9], mk p5.1, (sI p5.2 0 13 (gI p5.2 0 3)))
      obtain ⟨p6, hp6, h⟩ := bind_sp h
      refine Ex.blk 1 rfl ?_
      refine Exists.intro none (Exists.intro (mk p5.1) (Exists.intro p6 (And.intro (cl_X2_forget (d + 2) hp6) ?_)))
      show Ex mr_X9_back sc (Cl MT pr sc (d + 3)) (rtE (some (.int r)) (mk X2) σ2) (35, [(0, .ref 0)], [], mk p5.1, p6)
      refine Ex.blk 3 rfl ?_
      cases h
      exact And.intro trivial ⟨rfl, rfl, rfl⟩
