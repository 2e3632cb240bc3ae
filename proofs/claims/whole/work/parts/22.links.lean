theorem cl_X9_actOnce {pr : Ct} {sc : Nat × (Nat → Int32)} {X : En} (d : Nat) {r : Int32} {σ2 : St} {x1 : Int32} {x2 : Int32} {σ : St} (h : f_X9_actOnce x1 x2 σ = some (r, σ2)) : Cl MT pr sc (d + 4 + 1) 94 [.ref 0, .int x1, .int x2] (mk X) σ (some (.int r)) (mk X) σ2 := by
  refine cl_of mr_X9_actOnce rfl rfl ?_
  unfold f_X9_actOnce at h
  refine Ex.blk 5 rfl ?_
  obtain ⟨p1, hp1, h⟩ := bind_sp h
  refine Exists.intro none (Exists.intro (mk X) (Exists.intro p1 (And.intro (cl_X2_keep_1 (d + 2) hp1) ?_)))
  show Ex mr_X9_actOnce sc (Cl MT pr sc (d + 4)) (rtE (some (.int r)) (mk X) σ2) (11, [(0, .ref 0), (1, .int x1), (2, .int x2)], [], mk X, p1)
  refine Ex.blk 5 rfl ?_
  show Ex mr_X9_actOnce sc (Cl MT pr sc (d + 4)) (rtE (some (.int r)) (mk X) σ2) (18, [(0, .ref 0), (1, .int x1), (2, .int x2)], [.int x2, .int x1, .ref 1, .ref 0], mk X, p1)
  refine Ex.blk 3 rfl ?_
  obtain ⟨p2, hp2, h⟩ := bind_sp h
  refine Exists.intro none (Exists.intro (mk X) (Exists.intro p2 (And.intro (cl_X9_perform_e_1 (d + 0) hp2) ?_)))
  show Ex mr_X9_actOnce sc (Cl MT pr sc (d + 4)) (rtE (some (.int r)) (mk X) σ2) (25, [(0, .ref 0), (1, .int x1), (2, .int x2)], [], mk X, p2)
  refine Ex.blk 5 rfl ?_
  show Ex mr_X9_actOnce sc (Cl MT pr sc (d + 4)) (rtE (some (.int r)) (mk X) σ2) (32, [(0, .ref 0), (1, .int x1), (2, .int x2)], [.int ((gI p2 0 13) + 1), .ref 0], mk X, p2)
  refine Ex.blk 1000 rfl ?_
  cases h
  exact And.intro trivial ⟨rfl, rfl, rfl⟩
theorem lk_X9_add_19 {pr : Ct} {sc : Nat × (Nat → Int32)} {X : En} (d : Nat) {r : Int32} {σ2 : St} (x1 : Int32) (y0 : Int32) (σ : St) (h : f_X9_add_19 x1 y0 σ = some (r, σ2)) : Ex mr_X9_add sc (Cl MT pr sc (d + 5)) (rtE (some (.int r)) (mk X) σ2) (19, [(1, .int x1)], [.int y0, .ref 0], mk X, σ) := by
  unfold f_X9_add_19 at h
  refine Ex.blk 2 rfl ?_
  obtain ⟨p2, hp2, h⟩ := bind_sp h
  refine Exists.intro (some (.int p2.1)) (Exists.intro (mk X) (Exists.intro p2.2 (And.intro (cl_X9_actOnce (d + 0) hp2) ?_)))
  show Ex mr_X9_add sc (Cl MT pr sc (d + 5)) (rtE (some (.int r)) (mk X) σ2) (23, [(1, .int x1)], [.int p2.1], mk X, p2.2)
  refine Ex.blk 1000 rfl ?_
  cases h
  exact And.intro trivial ⟨rfl, rfl, rfl⟩
theorem cl_X9_add {pr : Ct} {sc : Nat × (Nat → Int32)} {X : En} (d : Nat) {r : Int32} {σ2 : St} {x1 : Int32} {x2 : Int32} {σ : St} (h : f_X9_add x1 x2 σ = some (r, σ2)) : Cl MT pr sc (d + 5 + 1) 95 [.ref 0, .int x1, .int x2] (mk X) σ (some (.int r)) (mk X) σ2 := by
  refine cl_of mr_X9_add rfl rfl ?_
  unfold f_X9_add at h
  refine Ex.blk 2 rfl ?_
  obtain ⟨p1, hp1, h⟩ := bind_sp h
  refine Exists.intro (some (.int p1.1)) (Exists.intro (mk X) (Exists.intro p1.2 (And.intro (cl_X9_isNumber (d + 4) hp1) ?_)))
  show Ex mr_X9_add sc (Cl MT pr sc (d + 5)) (rtE (some (.int r)) (mk X) σ2) (4, [(0, .ref 0), (1, .int x1), (2, .int x2)], [.int p1.1], mk X, p1.2)
  refine Ex.blk 1000 rfl ?_
  rcases ite_sp h with ⟨c1, h⟩ | ⟨c1, h⟩
  · refine And.intro (fun hp => absurd c1 hp) (fun _ => ?_)
    show Ex mr_X9_add sc (Cl MT pr sc (d + 5)) (rtE (some (.int r)) (mk X) σ2) (7, [(0, .ref 0), (1, .int x1), (2, .int x2)], [], mk X, p1.2)
    refine Ex.blk 1000 rfl ?_
    cases h
    exact And.intro trivial ⟨rfl, rfl, rfl⟩
  · refine And.intro (fun _ => ?_) (fun hn => absurd c1 hn)
    show Ex mr_X9_add sc (Cl MT pr sc (d + 5)) (rtE (some (.int r)) (mk X) σ2) (9, [(0, .ref 0), (1, .int x1), (2, .int x2)], [], mk X, p1.2)
    refine Ex.blk 1000 rfl ?_
    rcases ite_sp h with ⟨c2, h⟩ | ⟨c2, h⟩
    · refine And.intro (fun _ => ?_) (fun hn => absurd c2 hn)
      show Ex mr_X9_add sc (Cl MT pr sc (d + 5)) (rtE (some (.int r)) (mk X) σ2) (18, [(0, .ref 0), (1, .int x1), (2, .int x2)], [.ref 0], mk X, p1.2)
      refine Ex.blk 1000 rfl ?_
      show Ex mr_X9_add sc (Cl MT pr sc (d + 5)) (rtE (some (.int r)) (mk X) σ2) (19, [(0, .ref 0), (1, .int x1), (2, .int x2)], [.int 0, .ref 0], mk X, p1.2)
      refine Ex.pick (lv' := _) [1] rfl ?_
      exact lk_X9_add_19 d _ _ _ h
    · refine And.intro (fun hp => absurd hp c2) (fun _ => ?_)
      show Ex mr_X9_add sc (Cl MT pr sc (d + 5)) (rtE (some (.int r)) (mk X) σ2) (14, [(0, .ref 0), (1, .int x1), (2, .int x2)], [.ref 0], mk X, p1.2)
      refine Ex.blk 1000 rfl ?_
      show Ex mr_X9_add sc (Cl MT pr sc (d + 5)) (rtE (some (.int r)) (mk X) σ2) (19, [(0, .ref 0), (1, .int x1), (2, .int x2)], [.int 1, .ref 0], mk X, p1.2)
      refine Ex.pick (lv' := _) [1] rfl ?_
      exact lk_X9_add_19 d _ _ _ h
theorem lk_X9_act_10 {pr : Ct} {sc : Nat × (Nat → Int32)} {X : En} (d : Nat) {r : Int32} {σ2 : St} (σ : St) (h : f_X9_act_10 σ = some (r, σ2)) : Ex mr_X9_act sc (Cl MT pr sc (d + 5)) (rtE (some (.int r)) (mk X) σ2) (10, [], [], mk X, σ) := by
  unfold f_X9_act_10 at h
  refine Ex.blk 1000 rfl ?_
  cases h
  exact And.intro trivial ⟨rfl, rfl, rfl⟩
theorem cl_X9_act {pr : Ct} {sc : Nat × (Nat → Int32)} {X : En} (d : Nat) {r : Int32} {σ2 : St} {x1 : Int32} {σ : St} (h : f_X9_act x1 σ = some (r, σ2)) : Cl MT pr sc (d + 5 + 1) 96 [.ref 0, .int x1] (mk X) σ (some (.int r)) (mk X) σ2 := by
  refine cl_of mr_X9_act rfl rfl ?_
  unfold f_X9_act at h
  refine Ex.blk 1000 rfl ?_
  rcases ite_sp h with ⟨c1, h⟩ | ⟨c1, h⟩
  · refine And.intro (fun _ => ?_) (fun hn => absurd c1 hn)
    show Ex mr_X9_act sc (Cl MT pr sc (d + 5)) (rtE (some (.int r)) (mk X) σ2) (10, [(0, .ref 0), (1, .int x1)], [], mk X, σ)
    refine Ex.pick (lv' := _) [] rfl ?_
    exact lk_X9_act_10 d _ h
  · refine And.intro (fun hp => absurd hp c1) (fun _ => ?_)
    show Ex mr_X9_act sc (Cl MT pr sc (d + 5)) (rtE (some (.int r)) (mk X) σ2) (5, [(0, .ref 0), (1, .int x1)], [], mk X, σ)
    refine Ex.blk 1000 rfl ?_
    rcases ite_sp h with ⟨c2, h⟩ | ⟨c2, h⟩
    · refine And.intro (fun _ => ?_) (fun hn => absurd c2 hn)
      show Ex mr_X9_act sc (Cl MT pr sc (d + 5)) (rtE (some (.int r)) (mk X) σ2) (12, [(0, .ref 0), (1, .int x1)], [], mk X, σ)
      refine Ex.blk 4 rfl ?_
      obtain ⟨p1, hp1, h⟩ := bind_sp h
      refine Exists.intro (some (.int p1.1)) (Exists.intro (mk X) (Exists.intro p1.2 (And.intro (cl_X9_actOnce (d + 0) hp1) ?_)))
      show Ex mr_X9_act sc (Cl MT pr sc (d + 5)) (rtE (some (.int r)) (mk X) σ2) (18, [(0, .ref 0), (1, .int x1)], [.int p1.1], mk X, p1.2)
      refine Ex.blk 1000 rfl ?_
      cases h
      exact And.intro trivial ⟨rfl, rfl, rfl⟩
    · refine And.intro (fun hp => absurd hp c2) (fun _ => ?_)
      show Ex mr_X9_act sc (Cl MT pr sc (d + 5)) (rtE (some (.int r)) (mk X) σ2) (10, [(0, .ref 0), (1, .int x1)], [], mk X, σ)
      refine Ex.pick (lv' := _) [] rfl ?_
      exact lk_X9_act_10 d _ h
theorem lk_X7_standFor_1_2 {pr : Ct} {sc : Nat × (Nat → Int32)} {X : En} (d : Nat) {σ2 : St} : ∀ (n : Nat) (x1 : Int64) (x3 : Int32) (σ : St), f_X7_standFor_2 1 n x1 x3 σ = some σ2 → Ex mr_X7_standFor sc (Cl MT pr sc (d + 1)) (rtE none (mk X) σ2) (2, [(0, .ref 1), (1, .long x1), (3, .int x3)], [], mk X, σ) := by
  intro n
  induction n with
  | zero =>
    intro x1 x3 σ h
    cases h
  | succ n ih =>
    intro x1 x3 σ h
    simp only [f_X7_standFor_2] at h
    refine Ex.blk 1000 rfl ?_
    rcases ite_sp h with ⟨c1, h⟩ | ⟨c1, h⟩
    · refine And.intro (fun _ => ?_) (fun hn => absurd c1 hn)
      show Ex mr_X7_standFor sc (Cl MT pr sc (d + 1)) (rtE none (mk X) σ2) (27, [(0, .ref 1), (1, .long x1), (3, .int x3)], [], mk X, σ)
      refine Ex.blk 1000 rfl ?_
      cases h
      exact And.intro trivial ⟨rfl, rfl, rfl⟩
    · refine And.intro (fun hp => absurd hp c1) (fun _ => ?_)
      show Ex mr_X7_standFor sc (Cl MT pr sc (d + 1)) (rtE none (mk X) σ2) (10, [(0, .ref 1), (1, .long x1), (3, .int x3)], [], mk X, σ)
      refine Ex.blk 5 rfl ?_
      show Ex mr_X7_standFor sc (Cl MT pr sc (d + 1)) (rtE none (mk X) σ2) (17, [(0, .ref 1), (1, .long x1), (3, .int x3)], [.int x3, .long x1, .int x3, .ref 2], mk X, σ)
      refine Ex.blk 1 rfl ?_
      obtain ⟨p1, hp1, h⟩ := bind_sp h
      refine Exists.intro (some (.int p1.1)) (Exists.intro (mk X) (Exists.intro p1.2 (And.intro (cl_X9_digitOf (d + 0) hp1) ?_)))
      show Ex mr_X7_standFor sc (Cl MT pr sc (d + 1)) (rtE none (mk X) σ2) (20, [(0, .ref 1), (1, .long x1), (3, .int x3)], [.int p1.1, .int x3, .ref 2], mk X, p1.2)
      refine Ex.blk 1 rfl ?_
      obtain ⟨g2, h⟩ := gd_some h
      refine And.intro (inb_ok g2) ?_
      show Ex mr_X7_standFor sc (Cl MT pr sc (d + 1)) (rtE none (mk X) σ2) (21, [(0, .ref 1), (1, .long x1), (3, .int x3)], [], mk X, (sI p1.2 2 x3.toNatClampNeg p1.1))
      refine Ex.blk 1000 rfl ?_
      show Ex mr_X7_standFor sc (Cl MT pr sc (d + 1)) (rtE none (mk X) σ2) (2, [(3, .int (x3 + 1)), (0, .ref 1), (1, .long x1)], [], mk X, (sI p1.2 2 x3.toNatClampNeg p1.1))
      refine Ex.pick (lv' := _) [1, 2, 0] rfl ?_
      exact ih _ _ _ h
theorem cl_X7_standFor_1 {pr : Ct} {sc : Nat × (Nat → Int32)} {X : En} (d : Nat) {σ2 : St} {x1 : Int64} {σ : St} (h : f_X7_standFor 1 x1 σ = some σ2) : Cl MT pr sc (d + 1 + 1) 26 [.ref 1, .long x1] (mk X) σ none (mk X) σ2 := by
  refine cl_of mr_X7_standFor rfl rfl ?_
  unfold f_X7_standFor at h
  refine Ex.blk 1000 rfl ?_
  show Ex mr_X7_standFor sc (Cl MT pr sc (d + 1)) (rtE none (mk X) σ2) (2, [(3, .int 0), (0, .ref 1), (1, .long x1)], [], mk X, σ)
  refine Ex.pick (lv' := _) [1, 2, 0] rfl ?_
  exact lk_X7_standFor_1_2 d FU _ _ _ h
theorem lk_X2_takeBack_1_131 {pr : Ct} {sc : Nat × (Nat → Int32)} {X : En} (d : Nat) {r : Int32} {σ2 : St} (x2 : Int32) (σ : St) (h : f_X2_takeBack_131 1 x2 σ = some (r, σ2)) : Ex mr_X2_takeBack sc (Cl MT pr sc (d + 2)) (rtE (some (.int r)) (mk X) σ2) (131, [(0, .ref 9), (1, .ref 1), (2, .int x2)], [], mk X, σ) := by
  unfold f_X2_takeBack_131 at h
  refine Ex.blk 5 rfl ?_
  show Ex mr_X2_takeBack sc (Cl MT pr sc (d + 2)) (rtE (some (.int r)) (mk X) σ2) (139, [(0, .ref 9), (1, .ref 1), (2, .int x2)], [.int 7, .int x2, .ref 10, .ref 1], mk X, σ)
  refine Ex.blk 2 rfl ?_
  obtain ⟨g1, h⟩ := gd_some h
  refine And.intro (inb_ok g1) ?_
  show Ex mr_X2_takeBack sc (Cl MT pr sc (d + 2)) (rtE (some (.int r)) (mk X) σ2) (141, [(0, .ref 9), (1, .ref 1), (2, .int x2)], [.long (gJ σ 10 (x2 + 7).toNatClampNeg), .ref 1], mk X, σ)
  refine Ex.blk 1000 rfl ?_
  cases h
  exact And.intro isb_1 ⟨rfl, rfl, rfl⟩
theorem lk_X2_takeBack_1_104 {pr : Ct} {sc : Nat × (Nat → Int32)} {X : En} (d : Nat) {r : Int32} {σ2 : St} (x2 : Int32) (σ : St) (h : f_X2_takeBack_104 1 x2 σ = some (r, σ2)) : Ex mr_X2_takeBack sc (Cl MT pr sc (d + 2)) (rtE (some (.int r)) (mk X) σ2) (104, [(0, .ref 9), (1, .ref 1), (2, .int x2)], [], mk X, σ) := by
  unfold f_X2_takeBack_104 at h
  refine Ex.blk 5 rfl ?_
  show Ex mr_X2_takeBack sc (Cl MT pr sc (d + 2)) (rtE (some (.int r)) (mk X) σ2) (111, [(0, .ref 9), (1, .ref 1), (2, .int x2)], [.int 5, .int x2, .ref 10, .ref 1], mk X, σ)
  refine Ex.blk 2 rfl ?_
  obtain ⟨g1, h⟩ := gd_some h
  refine And.intro (inb_ok g1) ?_
  show Ex mr_X2_takeBack sc (Cl MT pr sc (d + 2)) (rtE (some (.int r)) (mk X) σ2) (113, [(0, .ref 9), (1, .ref 1), (2, .int x2)], [.long (gJ σ 10 (x2 + 5).toNatClampNeg), .ref 1], mk X, σ)
  refine Ex.blk 5 rfl ?_
  show Ex mr_X2_takeBack sc (Cl MT pr sc (d + 2)) (rtE (some (.int r)) (mk X) σ2) (122, [(0, .ref 9), (1, .ref 1), (2, .int x2)], [.ref 10, .ref 1], mk X, (sI σ 1 10 ((gJ σ 10 (x2 + 5).toNatClampNeg).toInt32)))
  refine Ex.blk 4 rfl ?_
  obtain ⟨g2, h⟩ := gd_some h
  refine And.intro (inb_ok g2) ?_
  show Ex mr_X2_takeBack sc (Cl MT pr sc (d + 2)) (rtE (some (.int r)) (mk X) σ2) (127, [(0, .ref 9), (1, .ref 1), (2, .int x2)], [.long (gJ (sI σ 1 10 ((gJ σ 10 (x2 + 5).toNatClampNeg).toInt32)) 10 (x2 + 6).toNatClampNeg), .ref 1], mk X, (sI σ 1 10 ((gJ σ 10 (x2 + 5).toNatClampNeg).toInt32)))
  refine Ex.blk 2 rfl ?_
  show Ex mr_X2_takeBack sc (Cl MT pr sc (d + 2)) (rtE (some (.int r)) (mk X) σ2) (131, [(0, .ref 9), (1, .ref 1), (2, .int x2)], [], mk X, (sI (sI σ 1 10 ((gJ σ 10 (x2 + 5).toNatClampNeg).toInt32)) 1 11 ((gJ (sI σ 1 10 ((gJ σ 10 (x2 + 5).toNatClampNeg).toInt32)) 10 (x2 + 6).toNatClampNeg).toInt32)))
  exact lk_X2_takeBack_1_131 d _ _ h
theorem lk_X2_takeBack_1_78 {pr : Ct} {sc : Nat × (Nat → Int32)} {X : En} (d : Nat) {r : Int32} {σ2 : St} (x2 : Int32) (σ : St) (h : f_X2_takeBack_78 1 x2 σ = some (r, σ2)) : Ex mr_X2_takeBack sc (Cl MT pr sc (d + 2)) (rtE (some (.int r)) (mk X) σ2) (78, [(0, .ref 9), (1, .ref 1), (2, .int x2)], [], mk X, σ) := by
  unfold f_X2_takeBack_78 at h
  refine Ex.blk 5 rfl ?_
  show Ex mr_X2_takeBack sc (Cl MT pr sc (d + 2)) (rtE (some (.int r)) (mk X) σ2) (85, [(0, .ref 9), (1, .ref 1), (2, .int x2)], [.int 3, .int x2, .ref 10, .ref 1], mk X, σ)
  refine Ex.blk 2 rfl ?_
  obtain ⟨g1, h⟩ := gd_some h
  refine And.intro (inb_ok g1) ?_
  show Ex mr_X2_takeBack sc (Cl MT pr sc (d + 2)) (rtE (some (.int r)) (mk X) σ2) (87, [(0, .ref 9), (1, .ref 1), (2, .int x2)], [.long (gJ σ 10 (x2 + 3).toNatClampNeg), .ref 1], mk X, σ)
  refine Ex.blk 5 rfl ?_
  show Ex mr_X2_takeBack sc (Cl MT pr sc (d + 2)) (rtE (some (.int r)) (mk X) σ2) (96, [(0, .ref 9), (1, .ref 1), (2, .int x2)], [.ref 10, .ref 1], mk X, (sI σ 1 8 ((gJ σ 10 (x2 + 3).toNatClampNeg).toInt32)))
  refine Ex.blk 4 rfl ?_
  obtain ⟨g2, h⟩ := gd_some h
  refine And.intro (inb_ok g2) ?_
  show Ex mr_X2_takeBack sc (Cl MT pr sc (d + 2)) (rtE (some (.int r)) (mk X) σ2) (100, [(0, .ref 9), (1, .ref 1), (2, .int x2)], [.long (gJ (sI σ 1 8 ((gJ σ 10 (x2 + 3).toNatClampNeg).toInt32)) 10 (x2 + 4).toNatClampNeg), .ref 1], mk X, (sI σ 1 8 ((gJ σ 10 (x2 + 3).toNatClampNeg).toInt32)))
  refine Ex.blk 2 rfl ?_
  show Ex mr_X2_takeBack sc (Cl MT pr sc (d + 2)) (rtE (some (.int r)) (mk X) σ2) (104, [(0, .ref 9), (1, .ref 1), (2, .int x2)], [], mk X, (sI (sI σ 1 8 ((gJ σ 10 (x2 + 3).toNatClampNeg).toInt32)) 1 9 ((gJ (sI σ 1 8 ((gJ σ 10 (x2 + 3).toNatClampNeg).toInt32)) 10 (x2 + 4).toNatClampNeg).toInt32)))
  exact lk_X2_takeBack_1_104 d _ _ h
theorem lk_X2_takeBack_1_43 {pr : Ct} {sc : Nat × (Nat → Int32)} {X : En} (d : Nat) {r : Int32} {σ2 : St} (x2 : Int32) (σ : St) (h : f_X2_takeBack_43 1 x2 σ = some (r, σ2)) : Ex mr_X2_takeBack sc (Cl MT pr sc (d + 2)) (rtE (some (.int r)) (mk X) σ2) (43, [(0, .ref 9), (1, .ref 1), (2, .int x2)], [], mk X, σ) := by
  unfold f_X2_takeBack_43 at h
  refine Ex.blk 5 rfl ?_
  obtain ⟨g1, h⟩ := gd_some h
  refine And.intro (inb_ok g1) ?_
  show Ex mr_X2_takeBack sc (Cl MT pr sc (d + 2)) (rtE (some (.int r)) (mk X) σ2) (50, [(0, .ref 9), (1, .ref 1), (2, .int x2)], [.long (gJ σ 10 x2.toNatClampNeg), .ref 1], mk X, σ)
  refine Ex.blk 1 rfl ?_
  obtain ⟨p1, hp1, h⟩ := bind_sp h
  refine Exists.intro none (Exists.intro (mk X) (Exists.intro p1 (And.intro (cl_X7_standFor_1 (d + 0) hp1) ?_)))
  show Ex mr_X2_takeBack sc (Cl MT pr sc (d + 2)) (rtE (some (.int r)) (mk X) σ2) (53, [(0, .ref 9), (1, .ref 1), (2, .int x2)], [], mk X, p1)
  refine Ex.blk 5 rfl ?_
  show Ex mr_X2_takeBack sc (Cl MT pr sc (d + 2)) (rtE (some (.int r)) (mk X) σ2) (60, [(0, .ref 9), (1, .ref 1), (2, .int x2)], [.int 1, .int x2, .ref 10, .ref 1], mk X, p1)
  refine Ex.blk 2 rfl ?_
  obtain ⟨g2, h⟩ := gd_some h
  refine And.intro (inb_ok g2) ?_
  show Ex mr_X2_takeBack sc (Cl MT pr sc (d + 2)) (rtE (some (.int r)) (mk X) σ2) (62, [(0, .ref 9), (1, .ref 1), (2, .int x2)], [.long (gJ p1 10 (x2 + 1).toNatClampNeg), .ref 1], mk X, p1)
  refine Ex.blk 5 rfl ?_
  show Ex mr_X2_takeBack sc (Cl MT pr sc (d + 2)) (rtE (some (.int r)) (mk X) σ2) (71, [(0, .ref 9), (1, .ref 1), (2, .int x2)], [.int x2, .ref 10, .ref 1], mk X, (sJ p1 1 6 (gJ p1 10 (x2 + 1).toNatClampNeg)))
  refine Ex.blk 3 rfl ?_
  obtain ⟨g3, h⟩ := gd_some h
  refine And.intro (inb_ok g3) ?_
  show Ex mr_X2_takeBack sc (Cl MT pr sc (d + 2)) (rtE (some (.int r)) (mk X) σ2) (74, [(0, .ref 9), (1, .ref 1), (2, .int x2)], [.long (gJ (sJ p1 1 6 (gJ p1 10 (x2 + 1).toNatClampNeg)) 10 (x2 + 2).toNatClampNeg), .ref 1], mk X, (sJ p1 1 6 (gJ p1 10 (x2 + 1).toNatClampNeg)))
  refine Ex.blk 2 rfl ?_
  show Ex mr_X2_takeBack sc (Cl MT pr sc (d + 2)) (rtE (some (.int r)) (mk X) σ2) (78, [(0, .ref 9), (1, .ref 1), (2, .int x2)], [], mk X, (sI (sJ p1 1 6 (gJ p1 10 (x2 + 1).toNatClampNeg)) 1 7 ((gJ (sJ p1 1 6 (gJ p1 10 (x2 + 1).toNatClampNeg)) 10 (x2 + 2).toNatClampNeg).toInt32)))
  exact lk_X2_takeBack_1_78 d _ _ h
theorem lk_X2_takeBack_1_35 {pr : Ct} {sc : Nat × (Nat → Int32)} {X : En} (d : Nat) {r : Int32} {σ2 : St} (σ : St) (h : f_X2_takeBack_35 1 σ = some (r, σ2)) : Ex mr_X2_takeBack sc (Cl MT pr sc (d + 2)) (rtE (some (.int r)) (mk X) σ2) (35, [(0, .ref 9), (1, .ref 1)], [], mk X, σ) := by
  unfold f_X2_takeBack_35 at h
  refine Ex.blk 5 rfl ?_
  show Ex mr_X2_takeBack sc (Cl MT pr sc (d + 2)) (rtE (some (.int r)) (mk X) σ2) (43, [(2, .int ((gI σ 9 1) * 8)), (0, .ref 9), (1, .ref 1)], [], mk X, σ)
  refine Ex.pick (lv' := _) [1, 2, 0] rfl ?_
  exact lk_X2_takeBack_1_43 d _ _ h
theorem cl_X2_takeBack_1 {pr : Ct} {sc : Nat × (Nat → Int32)} {X : En} (d : Nat) {r : Int32} {σ2 : St} {σ : St} (h : f_X2_takeBack 1 σ = some (r, σ2)) : Cl MT pr sc (d + 2 + 1) 27 [.ref 9, .ref 1] (mk X) σ (some (.int r)) (mk X) σ2 := by
  refine cl_of mr_X2_takeBack rfl rfl ?_
  unfold f_X2_takeBack at h
  refine Ex.blk 1000 rfl ?_
  rcases ite_sp h with ⟨c1, h⟩ | ⟨c1, h⟩
  · refine And.intro (fun hp => absurd c1 hp) (fun _ => ?_)
    show Ex mr_X2_takeBack sc (Cl MT pr sc (d + 2)) (rtE (some (.int r)) (mk X) σ2) (7, [(0, .ref 9), (1, .ref 1)], [], mk X, σ)
    refine Ex.blk 1000 rfl ?_
    cases h
    exact And.intro isb_0 ⟨rfl, rfl, rfl⟩
  · refine And.intro (fun _ => ?_) (fun hn => absurd c1 hn)
    show Ex mr_X2_takeBack sc (Cl MT pr sc (d + 2)) (rtE (some (.int r)) (mk X) σ2) (9, [(0, .ref 9), (1, .ref 1)], [], mk X, σ)
    refine Ex.blk 5 rfl ?_
    show Ex mr_X2_takeBack sc (Cl MT pr sc (d + 2)) (rtE (some (.int r)) (mk X) σ2) (16, [(0, .ref 9), (1, .ref 1)], [.int ((gI σ 9 2) - 1), .ref 9], mk X, σ)
    refine Ex.blk 5 rfl ?_
    show Ex mr_X2_takeBack sc (Cl MT pr sc (d + 2)) (rtE (some (.int r)) (mk X) σ2) (26, [(0, .ref 9), (1, .ref 1)], [.int 40, .int (gI (sI σ 9 2 ((gI σ 9 2) - 1)) 9 1), .ref 9], mk X, (sI σ 9 2 ((gI σ 9 2) - 1)))
    refine Ex.blk 5 rfl ?_
    refine And.intro (nzI_ok (b := 40) (by decide)) ?_
    show Ex mr_X2_takeBack sc (Cl MT pr sc (d + 2)) (rtE (some (.int r)) (mk X) σ2) (32, [(0, .ref 9), (1, .ref 1)], [.int (rmI (((gI (sI σ 9 2 ((gI σ 9 2) - 1)) 9 1) + 40) - 1) 40), .ref 9], mk X, (sI σ 9 2 ((gI σ 9 2) - 1)))
    refine Ex.blk 1 rfl ?_
    show Ex mr_X2_takeBack sc (Cl MT pr sc (d + 2)) (rtE (some (.int r)) (mk X) σ2) (35, [(0, .ref 9), (1, .ref 1)], [], mk X, (sI (sI σ 9 2 ((gI σ 9 2) - 1)) 9 1 (rmI (((gI (sI σ 9 2 ((gI σ 9 2) - 1)) 9 1) + 40) - 1) 40)))
    exact lk_X2_takeBack_1_35 d _ h
theorem cl_X9_undo {pr : Ct} {sc : Nat × (Nat → Int32)} {X : En} (d : Nat) {r : Int32} {σ2 : St} {σ : St} (h : f_X9_undo σ = some (r, σ2)) : Cl MT pr sc (d + 3 + 1) 99 [.ref 0] (mk X) σ (some (.int r)) (mk X) σ2 := by
  refine cl_of mr_X9_undo rfl rfl ?_
  unfold f_X9_undo at h
  refine Ex.blk 5 rfl ?_
  obtain ⟨p1, hp1, h⟩ := bind_sp h
  refine Exists.intro (some (.int p1.1)) (Exists.intro (mk X) (Exists.intro p1.2 (And.intro (cl_X2_takeBack_1 (d + 0) hp1) ?_)))
  show Ex mr_X9_undo sc (Cl MT pr sc (d + 3)) (rtE (some (.int r)) (mk X) σ2) (11, [(0, .ref 0)], [.int p1.1], mk X, p1.2)
  refine Ex.blk 1000 rfl ?_
  rcases ite_sp h with ⟨c1, h⟩ | ⟨c1, h⟩
  · refine And.intro (fun hp => absurd c1 hp) (fun _ => ?_)
    show Ex mr_X9_undo sc (Cl MT pr sc (d + 3)) (rtE (some (.int r)) (mk X) σ2) (14, [(0, .ref 0)], [], mk X, p1.2)
    refine Ex.blk 1000 rfl ?_
    cases h
    exact And.intro trivial ⟨rfl, rfl, rfl⟩
  · refine And.intro (fun _ => ?_) (fun hn => absurd c1 hn)
    show Ex mr_X9_undo sc (Cl MT pr sc (d + 3)) (rtE (some (.int r)) (mk X) σ2) (16, [(0, .ref 0)], [], mk X, p1.2)
    refine Ex.blk 5 rfl ?_
    show Ex mr_X9_undo sc (Cl MT pr sc (d + 3)) (rtE (some (.int r)) (mk X) σ2) (23, [(0, .ref 0)], [.int ((gI p1.2 0 13) - 1), .ref 0], mk X, p1.2)
    refine Ex.blk 1000 rfl ?_
    cases h
    exact And.intro trivial ⟨rfl, rfl, rfl⟩
theorem cl_X7_isFoggy_1 {pr : Ct} {sc : Nat × (Nat → Int32)} {X : En} (d : Nat) {r : Int32} {σ2 : St} {x1 : Int32} {σ : St} (h : f_X7_isFoggy 1 x1 σ = some (r, σ2)) : Cl MT pr sc (d + 1 + 1) 70 [.ref 1, .int x1] (mk X) σ (some (.int r)) (mk X) σ2 := by
  refine cl_of mr_X7_isFoggy rfl rfl ?_
  unfold f_X7_isFoggy at h
  refine Ex.blk 4 rfl ?_
  obtain ⟨p1, hp1, h⟩ := bind_sp h
  refine Exists.intro (some (.int p1.1)) (Exists.intro (mk X) (Exists.intro p1.2 (And.intro (cl_X9_hasBit (d + 0) hp1) ?_)))
  show Ex mr_X7_isFoggy sc (Cl MT pr sc (d + 1)) (rtE (some (.int r)) (mk X) σ2) (8, [(0, .ref 1), (1, .int x1)], [.int p1.1], mk X, p1.2)
  refine Ex.blk 1000 rfl ?_
  obtain ⟨g1, h⟩ := gd_some h
  cases h
  exact And.intro (isbb_ok g1) ⟨rfl, rfl, rfl⟩
theorem lk_X7_seen_1_31 {pr : Ct} {sc : Nat × (Nat → Int32)} {X : En} (d : Nat) {r : Int32} {σ2 : St} (y0 : Int32) (y1 : Int32) (σ : St) (h : f_X7_seen_31 1 y0 y1 σ = some (r, σ2)) : Ex mr_X7_seen sc (Cl MT pr sc (d + 1)) (rtE (some (.int r)) (mk X) σ2) (31, [], [.int y0, .int y1], mk X, σ) := by
  unfold f_X7_seen_31 at h
  refine Ex.blk 1000 rfl ?_
  cases h
  exact And.intro trivial ⟨rfl, rfl, rfl⟩
theorem lk_X7_seen_1_30 {pr : Ct} {sc : Nat × (Nat → Int32)} {X : En} (d : Nat) {r : Int32} {σ2 : St} (y0 : Int32) (σ : St) (h : f_X7_seen_30 1 y0 σ = some (r, σ2)) : Ex mr_X7_seen sc (Cl MT pr sc (d + 1)) (rtE (some (.int r)) (mk X) σ2) (30, [], [.int y0], mk X, σ) := by
  unfold f_X7_seen_30 at h
  refine Ex.blk 1000 rfl ?_
  show Ex mr_X7_seen sc (Cl MT pr sc (d + 1)) (rtE (some (.int r)) (mk X) σ2) (31, [], [.int 0, .int y0], mk X, σ)
  exact lk_X7_seen_1_31 d _ _ _ h
theorem cl_X7_seen_1 {pr : Ct} {sc : Nat × (Nat → Int32)} {X : En} (d : Nat) {r : Int32} {σ2 : St} {x1 : Int32} {σ : St} (h : f_X7_seen 1 x1 σ = some (r, σ2)) : Cl MT pr sc (d + 1 + 1) 68 [.ref 1, .int x1] (mk X) σ (some (.int r)) (mk X) σ2 := by
  refine cl_of mr_X7_seen rfl rfl ?_
  unfold f_X7_seen at h
  refine Ex.blk 4 rfl ?_
  obtain ⟨g1, h⟩ := gd_some h
  refine And.intro (inb_ok g1) ?_
  show Ex mr_X7_seen sc (Cl MT pr sc (d + 1)) (rtE (some (.int r)) (mk X) σ2) (6, [(0, .ref 1), (1, .int x1)], [.int (gI σ 2 x1.toNatClampNeg)], mk X, σ)
  refine Ex.blk 4 rfl ?_
  obtain ⟨p1, hp1, h⟩ := bind_sp h
  refine Exists.intro (some (.int p1.1)) (Exists.intro (mk X) (Exists.intro p1.2 (And.intro (cl_X9_hasBit (d + 0) hp1) ?_)))
  show Ex mr_X7_seen sc (Cl MT pr sc (d + 1)) (rtE (some (.int r)) (mk X) σ2) (14, [(0, .ref 1), (1, .int x1)], [.int p1.1, .int (gI σ 2 x1.toNatClampNeg)], mk X, p1.2)
  refine Ex.blk 1000 rfl ?_
  rcases ite_sp h with ⟨c2, h⟩ | ⟨c2, h⟩
  · refine And.intro (fun _ => ?_) (fun hn => absurd c2 hn)
    show Ex mr_X7_seen sc (Cl MT pr sc (d + 1)) (rtE (some (.int r)) (mk X) σ2) (30, [(0, .ref 1), (1, .int x1)], [.int (gI σ 2 x1.toNatClampNeg)], mk X, p1.2)
    refine Ex.pick (lv' := _) [] rfl ?_
    exact lk_X7_seen_1_30 d _ _ h
  · refine And.intro (fun hp => absurd hp c2) (fun _ => ?_)
    show Ex mr_X7_seen sc (Cl MT pr sc (d + 1)) (rtE (some (.int r)) (mk X) σ2) (17, [(0, .ref 1), (1, .int x1)], [.int (gI σ 2 x1.toNatClampNeg)], mk X, p1.2)
    refine Ex.blk 4 rfl ?_
    obtain ⟨g3, h⟩ := gd_some h
    refine And.intro (inb_ok g3) ?_
    show Ex mr_X7_seen sc (Cl MT pr sc (d + 1)) (rtE (some (.int r)) (mk X) σ2) (23, [(0, .ref 1), (1, .int x1)], [.int (gI p1.2 2 x1.toNatClampNeg), .int (gI σ 2 x1.toNatClampNeg)], mk X, p1.2)
    refine Ex.blk 1000 rfl ?_
    rcases ite_sp h with ⟨c4, h⟩ | ⟨c4, h⟩
    · refine And.intro (fun _ => ?_) (fun hn => absurd c4 hn)
      show Ex mr_X7_seen sc (Cl MT pr sc (d + 1)) (rtE (some (.int r)) (mk X) σ2) (30, [(0, .ref 1), (1, .int x1)], [.int (gI σ 2 x1.toNatClampNeg)], mk X, p1.2)
      refine Ex.pick (lv' := _) [] rfl ?_
      exact lk_X7_seen_1_30 d _ _ h
    · refine And.intro (fun hp => absurd hp c4) (fun _ => ?_)
      show Ex mr_X7_seen sc (Cl MT pr sc (d + 1)) (rtE (some (.int r)) (mk X) σ2) (26, [(0, .ref 1), (1, .int x1)], [.int (gI σ 2 x1.toNatClampNeg)], mk X, p1.2)
      refine Ex.blk 1000 rfl ?_
      show Ex mr_X7_seen sc (Cl MT pr sc (d + 1)) (rtE (some (.int r)) (mk X) σ2) (31, [(0, .ref 1), (1, .int x1)], [.int 1, .int (gI σ 2 x1.toNatClampNeg)], mk X, p1.2)
      refine Ex.pick (lv' := _) [] rfl ?_
      exact lk_X7_seen_1_31 d _ _ _ h
theorem lk_X9_rope_80 {pr : Ct} {sc : Nat × (Nat → Int32)} {X : En} (d : Nat) {r : Int32} {σ2 : St} (y0 : Int32) (σ : St) (h : f_X9_rope_80 y0 σ = some (r, σ2)) : Ex mr_X9_rope sc (Cl MT pr sc (d + 2)) (rtE (some (.int r)) (mk X) σ2) (80, [], [.int y0], mk X, σ) := by
  unfold f_X9_rope_80 at h
  refine Ex.blk 1000 rfl ?_
  cases h
  exact And.intro trivial ⟨rfl, rfl, rfl⟩
theorem cl_X9_rope {pr : Ct} {sc : Nat × (Nat → Int32)} {X : En} (d : Nat) {r : Int32} {σ2 : St} {x1 : Int32} {x2 : Int32} {σ : St} (h : f_X9_rope x1 x2 σ = some (r, σ2)) : Cl MT pr sc (d + 2 + 1) 100 [.ref 0, .int x1, .int x2] (mk X) σ (some (.int r)) (mk X) σ2 := by
  refine cl_of mr_X9_rope rfl rfl ?_
  unfold f_X9_rope at h
  refine Ex.blk 3 rfl ?_
  obtain ⟨p1, hp1, h⟩ := bind_sp h
  refine Exists.intro (some (.int p1.1)) (Exists.intro (mk X) (Exists.intro p1.2 (And.intro (cl_X9_isRope (d + 1) hp1) ?_)))
  show Ex mr_X9_rope sc (Cl MT pr sc (d + 2)) (rtE (some (.int r)) (mk X) σ2) (5, [(0, .ref 0), (1, .int x1), (2, .int x2)], [.int p1.1], mk X, p1.2)
  refine Ex.blk 1000 rfl ?_
  rcases ite_sp h with ⟨c1, h⟩ | ⟨c1, h⟩
  · refine And.intro (fun hp => absurd c1 hp) (fun _ => ?_)
    show Ex mr_X9_rope sc (Cl MT pr sc (d + 2)) (rtE (some (.int r)) (mk X) σ2) (8, [(0, .ref 0), (1, .int x1), (2, .int x2)], [], mk X, p1.2)
    refine Ex.blk 1000 rfl ?_
    cases h
    exact And.intro trivial ⟨rfl, rfl, rfl⟩
  · refine And.intro (fun _ => ?_) (fun hn => absurd c1 hn)
    show Ex mr_X9_rope sc (Cl MT pr sc (d + 2)) (rtE (some (.int r)) (mk X) σ2) (10, [(0, .ref 0), (1, .int x1), (2, .int x2)], [], mk X, p1.2)
    refine Ex.blk 1000 rfl ?_
    rcases ite_sp h with ⟨c2, h⟩ | ⟨c2, h⟩
    · refine And.intro (fun _ => ?_) (fun hn => absurd (c2.trans (by decide)) hn)
      show Ex mr_X9_rope sc (Cl MT pr sc (d + 2)) (rtE (some (.int r)) (mk X) σ2) (36, [(0, .ref 0), (1, .int x1), (2, .int x2)], [], mk X, p1.2)
      refine Ex.blk 5 rfl ?_
      obtain ⟨g3, h⟩ := gd_some h
      refine And.intro (inb_ok g3) ?_
      show Ex mr_X9_rope sc (Cl MT pr sc (d + 2)) (rtE (some (.int r)) (mk X) σ2) (45, [(0, .ref 0), (1, .int x1), (2, .int x2)], [.int (gI p1.2 2 x1.toNatClampNeg)], mk X, p1.2)
      refine Ex.blk 1000 rfl ?_
      cases h
      exact And.intro trivial ⟨rfl, rfl, rfl⟩
    refine And.intro (fun hp => absurd (hp.trans (by decide)) c2) (fun _ => ?_)
    rcases ite_sp h with ⟨c4, h⟩ | ⟨c4, h⟩
    · refine And.intro (fun _ => ?_) (fun hn => absurd (c4.trans (by decide)) hn)
      show Ex mr_X9_rope sc (Cl MT pr sc (d + 2)) (rtE (some (.int r)) (mk X) σ2) (46, [(0, .ref 0), (1, .int x1), (2, .int x2)], [], mk X, p1.2)
      refine Ex.blk 5 rfl ?_
      obtain ⟨g5, h⟩ := gd_some h
      refine And.intro (inb_ok g5) ?_
      show Ex mr_X9_rope sc (Cl MT pr sc (d + 2)) (rtE (some (.int r)) (mk X) σ2) (55, [(0, .ref 0), (1, .int x1), (2, .int x2)], [.int (gI p1.2 3 x1.toNatClampNeg)], mk X, p1.2)
      refine Ex.blk 1000 rfl ?_
      cases h
      exact And.intro trivial ⟨rfl, rfl, rfl⟩
    refine And.intro (fun hp => absurd (hp.trans (by decide)) c4) (fun _ => ?_)
    rcases ite_sp h with ⟨c6, h⟩ | ⟨c6, h⟩
    · refine And.intro (fun _ => ?_) (fun hn => absurd (c6.trans (by decide)) hn)
      show Ex mr_X9_rope sc (Cl MT pr sc (d + 2)) (rtE (some (.int r)) (mk X) σ2) (56, [(0, .ref 0), (1, .int x1), (2, .int x2)], [], mk X, p1.2)
      refine Ex.blk 4 rfl ?_
      obtain ⟨p2, hp2, h⟩ := bind_sp h
      refine Exists.intro (some (.int p2.1)) (Exists.intro (mk X) (Exists.intro p2.2 (And.intro (cl_X7_isFoggy_1 (d + 0) hp2) ?_)))
      show Ex mr_X9_rope sc (Cl MT pr sc (d + 2)) (rtE (some (.int r)) (mk X) σ2) (64, [(0, .ref 0), (1, .int x1), (2, .int x2)], [.int p2.1], mk X, p2.2)
      refine Ex.blk 1000 rfl ?_
      rcases ite_sp h with ⟨c7, h⟩ | ⟨c7, h⟩
      · refine And.intro (fun _ => ?_) (fun hn => absurd c7 hn)
        show Ex mr_X9_rope sc (Cl MT pr sc (d + 2)) (rtE (some (.int r)) (mk X) σ2) (72, [(0, .ref 0), (1, .int x1), (2, .int x2)], [], mk X, p2.2)
        refine Ex.blk 4 rfl ?_
        obtain ⟨p3, hp3, h⟩ := bind_sp h
        refine Exists.intro (some (.int p3.1)) (Exists.intro (mk X) (Exists.intro p3.2 (And.intro (cl_X7_seen_1 (d + 0) hp3) ?_)))
        show Ex mr_X9_rope sc (Cl MT pr sc (d + 2)) (rtE (some (.int r)) (mk X) σ2) (80, [(0, .ref 0), (1, .int x1), (2, .int x2)], [.int p3.1], mk X, p3.2)
        refine Ex.pick (lv' := _) [] rfl ?_
        exact lk_X9_rope_80 d _ _ h
      · refine And.intro (fun hp => absurd hp c7) (fun _ => ?_)
        show Ex mr_X9_rope sc (Cl MT pr sc (d + 2)) (rtE (some (.int r)) (mk X) σ2) (67, [(0, .ref 0), (1, .int x1), (2, .int x2)], [], mk X, p2.2)
        refine Ex.blk 1000 rfl ?_
        show Ex mr_X9_rope sc (Cl MT pr sc (d + 2)) (rtE (some (.int r)) (mk X) σ2) (80, [(0, .ref 0), (1, .int x1), (2, .int x2)], [.int (-2)], mk X, p2.2)
        refine Ex.pick (lv' := _) [] rfl ?_
        exact lk_X9_rope_80 d _ _ h
    refine And.intro (fun hp => absurd (hp.trans (by decide)) c6) (fun _ => ?_)
    show Ex mr_X9_rope sc (Cl MT pr sc (d + 2)) (rtE (some (.int r)) (mk X) σ2) (81, [(0, .ref 0), (1, .int x1), (2, .int x2)], [], mk X, p1.2)
    refine Ex.blk 1000 rfl ?_
    cases h
    exact And.intro trivial ⟨rfl, rfl, rfl⟩
theorem cl_X9_number {pr : Ct} {sc : Nat × (Nat → Int32)} {X : En} (d : Nat) {r : Int64} {σ2 : St} {σ : St} (h : f_X9_number σ = some (r, σ2)) : Cl MT pr sc (d + 1 + 1) 101 [.ref 0] (mk X) σ (some (.long r)) (mk X) σ2 := by
  refine cl_of mr_X9_number rfl rfl ?_
  unfold f_X9_number at h
  refine Ex.blk 3 rfl ?_
  obtain ⟨p1, hp1, h⟩ := bind_sp h
  refine Exists.intro (some (.long p1.1)) (Exists.intro (mk X) (Exists.intro p1.2 (And.intro (cl_X7_value_1 (d + 0) hp1) ?_)))
  show Ex mr_X9_number sc (Cl MT pr sc (d + 1)) (rtE (some (.long r)) (mk X) σ2) (7, [(0, .ref 0)], [.long p1.1], mk X, p1.2)
  refine Ex.blk 1000 rfl ?_
  cases h
  exact And.intro trivial ⟨rfl, rfl, rfl⟩
theorem cl_X9_told {pr : Ct} {sc : Nat × (Nat → Int32)} {X : En} (d : Nat) {r : Int32} {σ2 : St} {x1 : Int32} {σ : St} (h : f_X9_told x1 σ = some (r, σ2)) : Cl MT pr sc (d + 0 + 1) 102 [.ref 0, .int x1] (mk X) σ (some (.int r)) (mk X) σ2 := by
  refine cl_of mr_X9_told rfl rfl ?_
  unfold f_X9_told at h
  refine Ex.blk 1000 rfl ?_
  rcases ite_sp h with ⟨c1, h⟩ | ⟨c1, h⟩
  · refine And.intro (fun _ => ?_) (fun hn => absurd (c1.trans (by decide)) hn)
    show Ex mr_X9_told sc (Cl MT pr sc (d + 0)) (rtE (some (.int r)) (mk X) σ2) (44, [(0, .ref 0), (1, .int x1)], [], mk X, σ)
    refine Ex.blk 1000 rfl ?_
    cases h
    exact And.intro trivial ⟨rfl, rfl, rfl⟩
  refine And.intro (fun hp => absurd (hp.trans (by decide)) c1) (fun _ => ?_)
  rcases ite_sp h with ⟨c2, h⟩ | ⟨c2, h⟩
  · refine And.intro (fun _ => ?_) (fun hn => absurd (c2.trans (by decide)) hn)
    show Ex mr_X9_told sc (Cl MT pr sc (d + 0)) (rtE (some (.int r)) (mk X) σ2) (52, [(0, .ref 0), (1, .int x1)], [], mk X, σ)
    refine Ex.blk 1000 rfl ?_
    cases h
    exact And.intro trivial ⟨rfl, rfl, rfl⟩
  refine And.intro (fun hp => absurd (hp.trans (by decide)) c2) (fun _ => ?_)
  rcases ite_sp h with ⟨c3, h⟩ | ⟨c3, h⟩
  · refine And.intro (fun _ => ?_) (fun hn => absurd (c3.trans (by decide)) hn)
    show Ex mr_X9_told sc (Cl MT pr sc (d + 0)) (rtE (some (.int r)) (mk X) σ2) (60, [(0, .ref 0), (1, .int x1)], [], mk X, σ)
    refine Ex.blk 1000 rfl ?_
    cases h
    exact And.intro trivial ⟨rfl, rfl, rfl⟩
  refine And.intro (fun hp => absurd (hp.trans (by decide)) c3) (fun _ => ?_)
  rcases ite_sp h with ⟨c4, h⟩ | ⟨c4, h⟩
  · refine And.intro (fun _ => ?_) (fun hn => absurd (c4.trans (by decide)) hn)
    show Ex mr_X9_told sc (Cl MT pr sc (d + 0)) (rtE (some (.int r)) (mk X) σ2) (68, [(0, .ref 0), (1, .int x1)], [], mk X, σ)
    refine Ex.blk 1000 rfl ?_
    cases h
    exact And.intro trivial ⟨rfl, rfl, rfl⟩
  refine And.intro (fun hp => absurd (hp.trans (by decide)) c4) (fun _ => ?_)
  rcases ite_sp h with ⟨c5, h⟩ | ⟨c5, h⟩
  · refine And.intro (fun _ => ?_) (fun hn => absurd (c5.trans (by decide)) hn)
    show Ex mr_X9_told sc (Cl MT pr sc (d + 0)) (rtE (some (.int r)) (mk X) σ2) (76, [(0, .ref 0), (1, .int x1)], [], mk X, σ)
    refine Ex.blk 1000 rfl ?_
    cases h
    exact And.intro trivial ⟨rfl, rfl, rfl⟩
  refine And.intro (fun hp => absurd (hp.trans (by decide)) c5) (fun _ => ?_)
  rcases ite_sp h with ⟨c6, h⟩ | ⟨c6, h⟩
  · refine And.intro (fun _ => ?_) (fun hn => absurd (c6.trans (by decide)) hn)
    show Ex mr_X9_told sc (Cl MT pr sc (d + 0)) (rtE (some (.int r)) (mk X) σ2) (84, [(0, .ref 0), (1, .int x1)], [], mk X, σ)
    refine Ex.blk 1000 rfl ?_
    cases h
    exact And.intro trivial ⟨rfl, rfl, rfl⟩
  refine And.intro (fun hp => absurd (hp.trans (by decide)) c6) (fun _ => ?_)
  rcases ite_sp h with ⟨c7, h⟩ | ⟨c7, h⟩
  · refine And.intro (fun _ => ?_) (fun hn => absurd (c7.trans (by decide)) hn)
    show Ex mr_X9_told sc (Cl MT pr sc (d + 0)) (rtE (some (.int r)) (mk X) σ2) (92, [(0, .ref 0), (1, .int x1)], [], mk X, σ)
    refine Ex.blk 1000 rfl ?_
    cases h
    exact And.intro trivial ⟨rfl, rfl, rfl⟩
  refine And.intro (fun hp => absurd (hp.trans (by decide)) c7) (fun _ => ?_)
  show Ex mr_X9_told sc (Cl MT pr sc (d + 0)) (rtE (some (.int r)) (mk X) σ2) (97, [(0, .ref 0), (1, .int x1)], [], mk X, σ)
  refine Ex.blk 1000 rfl ?_
  cases h
  exact And.intro trivial ⟨rfl, rfl, rfl⟩
theorem lk_X6_plan_1_75 {pr : Ct} {sc : Nat × (Nat → Int32)} {X : En} (d : Nat) {σ2 : St} (k34 : Int32 → Int32 → Int32 → Int32 → St → Option (St)) (hk34 : ∀ (x2 : Int32) (x6 : Int32) (x7 : Int32) (x8 : Int32) (σ : St), k34 x2 x6 x7 x8 σ = some σ2 → Ex mr_X6_plan sc (Cl MT pr sc (d + 3)) (rtE none (mk X) σ2) (34, [(0, .ref 21), (1, .ref 1), (2, .int x2), (6, .int x6), (7, .int x7), (8, .int x8)], [], mk X, σ)) (x2 : Int32) (x6 : Int32) (x7 : Int32) (x8 : Int32) (y0 : Int32) (y1 : Int32) (σ : St) (h : f_X6_plan_75 1 k34 x2 x6 x7 x8 y0 y1 σ = some σ2) : Ex mr_X6_plan sc (Cl MT pr sc (d + 3)) (rtE none (mk X) σ2) (75, [(0, .ref 21), (1, .ref 1), (2, .int x2), (6, .int x6), (7, .int x7), (8, .int x8)], [.int y0, .int y1, .ref 21], mk X, σ) := by
  unfold f_X6_plan_75 at h
  refine Ex.blk 5 rfl ?_
  obtain ⟨g1, h⟩ := gd_some h
  refine And.intro (inb_ok g1) ?_
  show Ex mr_X6_plan sc (Cl MT pr sc (d + 3)) (rtE none (mk X) σ2) (84, [(0, .ref 21), (1, .ref 1), (2, .int x2), (6, .int x6), (7, .int x7), (8, .int x8)], [.int (gI σ 3 x8.toNatClampNeg), .int x7, .int y0, .int y1, .ref 21], mk X, σ)
  refine Ex.blk 1 rfl ?_
  obtain ⟨p2, hp2, h⟩ := bind_sp h
  refine Exists.intro (some (.int p2.1)) (Exists.intro (mk X) (Exists.intro p2.2 (And.intro (cl_X6_planRope (d + 0) hp2) ?_)))
  show Ex mr_X6_plan sc (Cl MT pr sc (d + 3)) (rtE none (mk X) σ2) (87, [(0, .ref 21), (1, .ref 1), (2, .int x2), (6, .int x6), (7, .int x7), (8, .int x8)], [.int p2.1], mk X, p2.2)
  refine Ex.blk 1000 rfl ?_
  show Ex mr_X6_plan sc (Cl MT pr sc (d + 3)) (rtE none (mk X) σ2) (34, [(8, .int (x8 + 1)), (7, .int p2.1), (0, .ref 21), (1, .ref 1), (2, .int x2), (6, .int x6)], [], mk X, p2.2)
  refine Ex.pick (lv' := _) [2, 3, 4, 5, 1, 0] rfl ?_
  exact hk34 _ _ _ _ _ h
theorem lk_X6_plan_1_34 {pr : Ct} {sc : Nat × (Nat → Int32)} {X : En} (d : Nat) {σ2 : St} : ∀ (n : Nat) (x2 : Int32) (x6 : Int32) (x7 : Int32) (x8 : Int32) (σ : St), f_X6_plan_34 1 n x2 x6 x7 x8 σ = some σ2 → Ex mr_X6_plan sc (Cl MT pr sc (d + 3)) (rtE none (mk X) σ2) (34, [(0, .ref 21), (1, .ref 1), (2, .int x2), (6, .int x6), (7, .int x7), (8, .int x8)], [], mk X, σ) := by
  intro n
  induction n with
  | zero =>
    intro x2 x6 x7 x8 σ h
    cases h
  | succ n ih =>
    intro x2 x6 x7 x8 σ h
    simp only [f_X6_plan_34] at h
    refine Ex.blk 1000 rfl ?_
    rcases ite_sp h with ⟨c1, h⟩ | ⟨c1, h⟩
    · refine And.intro (fun _ => ?_) (fun hn => absurd c1 hn)
      show Ex mr_X6_plan sc (Cl MT pr sc (d + 3)) (rtE none (mk X) σ2) (95, [(0, .ref 21), (1, .ref 1), (2, .int x2), (6, .int x6), (7, .int x7), (8, .int x8)], [], mk X, σ)
      refine Ex.blk 1000 rfl ?_
      cases h
      exact And.intro trivial ⟨rfl, rfl, rfl⟩
    · refine And.intro (fun hp => absurd hp c1) (fun _ => ?_)
      show Ex mr_X6_plan sc (Cl MT pr sc (d + 3)) (rtE none (mk X) σ2) (43, [(0, .ref 21), (1, .ref 1), (2, .int x2), (6, .int x6), (7, .int x7), (8, .int x8)], [], mk X, σ)
      refine Ex.blk 5 rfl ?_
      obtain ⟨g2, h⟩ := gd_some h
      refine And.intro (inb_ok g2) ?_
      show Ex mr_X6_plan sc (Cl MT pr sc (d + 3)) (rtE none (mk X) σ2) (51, [(0, .ref 21), (1, .ref 1), (2, .int x2), (6, .int x6), (7, .int x7), (8, .int x8)], [.int (gI σ 2 x8.toNatClampNeg), .ref 21], mk X, σ)
      refine Ex.blk 5 rfl ?_
      show Ex mr_X6_plan sc (Cl MT pr sc (d + 3)) (rtE none (mk X) σ2) (61, [(0, .ref 21), (1, .ref 1), (2, .int x2), (6, .int x6), (7, .int x7), (8, .int x8)], [.int x6, .int x8, .int x8, .ref 21], mk X, (sI σ 21 8 (gI σ 2 x8.toNatClampNeg)))
      refine Ex.blk 1000 rfl ?_
      rcases ite_sp h with ⟨c3, h⟩ | ⟨c3, h⟩
      · refine And.intro (fun _ => ?_) (fun hn => absurd c3 hn)
        show Ex mr_X6_plan sc (Cl MT pr sc (d + 3)) (rtE none (mk X) σ2) (74, [(0, .ref 21), (1, .ref 1), (2, .int x2), (6, .int x6), (7, .int x7), (8, .int x8)], [.int x8, .ref 21], mk X, (sI σ 21 8 (gI σ 2 x8.toNatClampNeg)))
        refine Ex.blk 1000 rfl ?_
        show Ex mr_X6_plan sc (Cl MT pr sc (d + 3)) (rtE none (mk X) σ2) (75, [(0, .ref 21), (1, .ref 1), (2, .int x2), (6, .int x6), (7, .int x7), (8, .int x8)], [.int (-1), .int x8, .ref 21], mk X, (sI σ 21 8 (gI σ 2 x8.toNatClampNeg)))
        exact lk_X6_plan_1_75 d _ ih _ _ _ _ _ _ _ h
      · refine And.intro (fun hp => absurd hp c3) (fun _ => ?_)
        show Ex mr_X6_plan sc (Cl MT pr sc (d + 3)) (rtE none (mk X) σ2) (64, [(0, .ref 21), (1, .ref 1), (2, .int x2), (6, .int x6), (7, .int x7), (8, .int x8)], [.int x8, .ref 21], mk X, (sI σ 21 8 (gI σ 2 x8.toNatClampNeg)))
        refine Ex.blk 4 rfl ?_
        obtain ⟨p3, hp3, h⟩ := bind_sp h
        refine Exists.intro (some (.int p3.1)) (Exists.intro (mk X) (Exists.intro p3.2 (And.intro (cl_X9_digitOf (d + 2) hp3) ?_)))
        show Ex mr_X6_plan sc (Cl MT pr sc (d + 3)) (rtE none (mk X) σ2) (71, [(0, .ref 21), (1, .ref 1), (2, .int x2), (6, .int x6), (7, .int x7), (8, .int x8)], [.int p3.1, .int x8, .ref 21], mk X, p3.2)
        refine Ex.blk 1000 rfl ?_
        show Ex mr_X6_plan sc (Cl MT pr sc (d + 3)) (rtE none (mk X) σ2) (75, [(0, .ref 21), (1, .ref 1), (2, .int x2), (6, .int x6), (7, .int x7), (8, .int x8)], [.int p3.1, .int x8, .ref 21], mk X, p3.2)
        exact lk_X6_plan_1_75 d _ ih _ _ _ _ _ _ _ h
theorem cl_X6_plan_1 {pr : Ct} {sc : Nat × (Nat → Int32)} {X : En} (d : Nat) {σ2 : St} {x2 : Int32} {x3 : Int32} {x4 : Int32} {x5 : Int32} {σ : St} (h : f_X6_plan 1 x2 x3 x4 x5 σ = some σ2) : Cl MT pr sc (d + 3 + 1) 59 [.ref 21, .ref 1, .int x2, .int x3, .int x4, .int x5] (mk X) σ none (mk X) σ2 := by
  refine cl_of mr_X6_plan rfl rfl ?_
  unfold f_X6_plan at h
  refine Ex.blk 5 rfl ?_
  show Ex mr_X6_plan sc (Cl MT pr sc (d + 3)) (rtE none (mk X) σ2) (9, [(0, .ref 21), (1, .ref 1), (2, .int x2), (3, .int x3), (4, .int x4), (5, .int x5)], [], mk X, (sI σ 21 5 (mxI 1 x3)))
  refine Ex.blk 5 rfl ?_
  show Ex mr_X6_plan sc (Cl MT pr sc (d + 3)) (rtE none (mk X) σ2) (18, [(0, .ref 21), (1, .ref 1), (2, .int x2), (3, .int x3), (4, .int x4), (5, .int x5)], [.int x5, .ref 21], mk X, (sI (sI σ 21 5 (mxI 1 x3)) 21 6 x4))
  refine Ex.blk 4 rfl ?_
  obtain ⟨p1, hp1, h⟩ := bind_sp h
  refine Exists.intro (some (.int p1.1)) (Exists.intro (mk X) (Exists.intro p1.2 (And.intro (cl_X7_topRope_1 (d + 1) hp1) ?_)))
  show Ex mr_X6_plan sc (Cl MT pr sc (d + 3)) (rtE none (mk X) σ2) (26, [(0, .ref 21), (1, .ref 1), (2, .int x2), (3, .int x3), (4, .int x4), (5, .int x5)], [.int p1.1], mk X, p1.2)
  refine Ex.blk 1000 rfl ?_
  show Ex mr_X6_plan sc (Cl MT pr sc (d + 3)) (rtE none (mk X) σ2) (34, [(8, .int 0), (7, .int (-1)), (6, .int p1.1), (0, .ref 21), (1, .ref 1), (2, .int x2), (3, .int x3), (4, .int x4), (5, .int x5)], [], mk X, p1.2)
  refine Ex.pick (lv' := _) [3, 4, 5, 2, 1, 0] rfl ?_
  exact lk_X6_plan_1_34 d FU _ _ _ _ _ h
theorem lk_X9_done_20 {pr : Ct} {sc : Nat × (Nat → Int32)} {X : En} (d : Nat) {r : Int32} {σ2 : St} (σ : St) (h : f_X9_done_20 σ = some (r, σ2)) : Ex mr_X9_done sc (Cl MT pr sc (d + 4)) (rtE (some (.int r)) (mk X) σ2) (20, [], [], mk X, σ) := by
  unfold f_X9_done_20 at h
  refine Ex.blk 1000 rfl ?_
  cases h
  exact And.intro trivial ⟨rfl, rfl, rfl⟩
theorem lk_X9_done_77 {pr : Ct} {sc : Nat × (Nat → Int32)} {X : En} (d : Nat) {r : Int32} {σ2 : St} (y0 : Int32) (σ : St) (h : f_X9_done_77 y0 σ = some (r, σ2)) : Ex mr_X9_done sc (Cl MT pr sc (d + 4)) (rtE (some (.int r)) (mk X) σ2) (77, [], [.int y0], mk X, σ) := by
  unfold f_X9_done_77 at h
  refine Ex.blk 1000 rfl ?_
  cases h
  exact And.intro trivial ⟨rfl, rfl, rfl⟩
theorem lk_X9_done_22 {pr : Ct} {sc : Nat × (Nat → Int32)} {X : En} (d : Nat) {r : Int32} {σ2 : St} (x1 : Int32) (x2 : Int32) (σ : St) (h : f_X9_done_22 x1 x2 σ = some (r, σ2)) : Ex mr_X9_done sc (Cl MT pr sc (d + 4)) (rtE (some (.int r)) (mk X) σ2) (22, [(0, .ref 0), (1, .int x1), (2, .int x2)], [], mk X, σ) := by
  unfold f_X9_done_22 at h
  refine Ex.blk 5 rfl ?_
  show Ex mr_X9_done sc (Cl MT pr sc (d + 4)) (rtE (some (.int r)) (mk X) σ2) (31, [(0, .ref 0), (1, .int x1), (2, .int x2)], [.int x1, .ref 1, .ref 21], mk X, σ)
  refine Ex.blk 5 rfl ?_
  show Ex mr_X9_done sc (Cl MT pr sc (d + 4)) (rtE (some (.int r)) (mk X) σ2) (40, [(0, .ref 0), (1, .int x1), (2, .int x2)], [.ref 0, .int (gI σ 0 16), .int (gI σ 0 15), .int x1, .ref 1, .ref 21], mk X, σ)
  refine Ex.blk 2 rfl ?_
  obtain ⟨p2, hp2, h⟩ := bind_sp h
  refine Exists.intro none (Exists.intro (mk X) (Exists.intro p2 (And.intro (cl_X6_plan_1 (d + 0) hp2) ?_)))
  show Ex mr_X9_done sc (Cl MT pr sc (d + 4)) (rtE (some (.int r)) (mk X) σ2) (46, [(0, .ref 0), (1, .int x1), (2, .int x2)], [], mk X, p2)
  refine Ex.blk 1000 rfl ?_
  rcases ite_sp h with ⟨c1, h⟩ | ⟨c1, h⟩
  · refine And.intro (fun hp => absurd c1 hp) (fun _ => ?_)
    show Ex mr_X9_done sc (Cl MT pr sc (d + 4)) (rtE (some (.int r)) (mk X) σ2) (51, [(0, .ref 0), (1, .int x1), (2, .int x2)], [], mk X, p2)
    refine Ex.blk 5 rfl ?_
    show Ex mr_X9_done sc (Cl MT pr sc (d + 4)) (rtE (some (.int r)) (mk X) σ2) (62, [(0, .ref 0), (1, .int x1), (2, .int x2)], [.int (gI p2 1 0), .ref 21], mk X, p2)
    refine Ex.blk 1 rfl ?_
    obtain ⟨p3, hp3, h⟩ := bind_sp h
    refine Exists.intro (some (.int p3.1)) (Exists.intro (mk X) (Exists.intro p3.2 (And.intro (cl_X6_lastRest (d + 3) hp3) ?_)))
    show Ex mr_X9_done sc (Cl MT pr sc (d + 4)) (rtE (some (.int r)) (mk X) σ2) (65, [(0, .ref 0), (1, .int x1), (2, .int x2)], [.int p3.1], mk X, p3.2)
    refine Ex.blk 1000 rfl ?_
    show Ex mr_X9_done sc (Cl MT pr sc (d + 4)) (rtE (some (.int r)) (mk X) σ2) (77, [(0, .ref 0), (1, .int x1), (2, .int x2)], [.int p3.1], mk X, p3.2)
    refine Ex.pick (lv' := _) [] rfl ?_
    exact lk_X9_done_77 d _ _ h
  · refine And.intro (fun _ => ?_) (fun hn => absurd c1 hn)
    show Ex mr_X9_done sc (Cl MT pr sc (d + 4)) (rtE (some (.int r)) (mk X) σ2) (68, [(0, .ref 0), (1, .int x1), (2, .int x2)], [], mk X, p2)
    refine Ex.blk 5 rfl ?_
    obtain ⟨g2, h⟩ := gd_some h
    refine And.intro (inb_ok g2) ?_
    show Ex mr_X9_done sc (Cl MT pr sc (d + 4)) (rtE (some (.int r)) (mk X) σ2) (77, [(0, .ref 0), (1, .int x1), (2, .int x2)], [.int (gI p2 26 x2.toNatClampNeg)], mk X, p2)
    refine Ex.pick (lv' := _) [] rfl ?_
    exact lk_X9_done_77 d _ _ h
theorem cl_X9_done {pr : Ct} {sc : Nat × (Nat → Int32)} {X : En} (d : Nat) {r : Int32} {σ2 : St} {x1 : Int32} {x2 : Int32} {σ : St} (h : f_X9_done x1 x2 σ = some (r, σ2)) : Cl MT pr sc (d + 4 + 1) 103 [.ref 0, .int x1, .int x2] (mk X) σ (some (.int r)) (mk X) σ2 := by
  refine cl_of mr_X9_done rfl rfl ?_
  unfold f_X9_done at h
  refine Ex.blk 2 rfl ?_
  obtain ⟨p1, hp1, h⟩ := bind_sp h
  refine Exists.intro (some (.int p1.1)) (Exists.intro (mk X) (Exists.intro p1.2 (And.intro (cl_X9_isNumber (d + 3) hp1) ?_)))
  show Ex mr_X9_done sc (Cl MT pr sc (d + 4)) (rtE (some (.int r)) (mk X) σ2) (4, [(0, .ref 0), (1, .int x1), (2, .int x2)], [.int p1.1], mk X, p1.2)
  refine Ex.blk 1000 rfl ?_
  rcases ite_sp h with ⟨c1, h⟩ | ⟨c1, h⟩
  · refine And.intro (fun _ => ?_) (fun hn => absurd c1 hn)
    show Ex mr_X9_done sc (Cl MT pr sc (d + 4)) (rtE (some (.int r)) (mk X) σ2) (20, [(0, .ref 0), (1, .int x1), (2, .int x2)], [], mk X, p1.2)
    refine Ex.pick (lv' := _) [] rfl ?_
    exact lk_X9_done_20 d _ h
  · refine And.intro (fun hp => absurd hp c1) (fun _ => ?_)
    show Ex mr_X9_done sc (Cl MT pr sc (d + 4)) (rtE (some (.int r)) (mk X) σ2) (7, [(0, .ref 0), (1, .int x1), (2, .int x2)], [], mk X, p1.2)
    refine Ex.blk 1000 rfl ?_
    rcases ite_sp h with ⟨c2, h⟩ | ⟨c2, h⟩
    · refine And.intro (fun _ => ?_) (fun hn => absurd c2 hn)
      show Ex mr_X9_done sc (Cl MT pr sc (d + 4)) (rtE (some (.int r)) (mk X) σ2) (22, [(0, .ref 0), (1, .int x1), (2, .int x2)], [], mk X, p1.2)
      exact lk_X9_done_22 d _ _ _ h
    · refine And.intro (fun hp => absurd hp c2) (fun _ => ?_)
      show Ex mr_X9_done sc (Cl MT pr sc (d + 4)) (rtE (some (.int r)) (mk X) σ2) (12, [(0, .ref 0), (1, .int x1), (2, .int x2)], [], mk X, p1.2)
      refine Ex.blk 3 rfl ?_
      obtain ⟨p4, hp4, h⟩ := bind_sp h
      refine Exists.intro (some (.int p4.1)) (Exists.intro (mk X) (Exists.intro p4.2 (And.intro (cl_X9_isRope (d + 3) hp4) ?_)))
      show Ex mr_X9_done sc (Cl MT pr sc (d + 4)) (rtE (some (.int r)) (mk X) σ2) (17, [(0, .ref 0), (1, .int x1), (2, .int x2)], [.int p4.1], mk X, p4.2)
      refine Ex.blk 1000 rfl ?_
      rcases ite_sp h with ⟨c3, h⟩ | ⟨c3, h⟩
      · refine And.intro (fun hp => absurd c3 hp) (fun _ => ?_)
        show Ex mr_X9_done sc (Cl MT pr sc (d + 4)) (rtE (some (.int r)) (mk X) σ2) (20, [(0, .ref 0), (1, .int x1), (2, .int x2)], [], mk X, p4.2)
        refine Ex.pick (lv' := _) [] rfl ?_
        exact lk_X9_done_20 d _ h
      · refine And.intro (fun _ => ?_) (fun hn => absurd c3 hn)
        show Ex mr_X9_done sc (Cl MT pr sc (d + 4)) (rtE (some (.int r)) (mk X) σ2) (22, [(0, .ref 0), (1, .int x1), (2, .int x2)], [], mk X, p4.2)
        exact lk_X9_done_22 d _ _ _ h
theorem lk_X9_standing_26 {pr : Ct} {sc : Nat × (Nat → Int32)} {X : En} (d : Nat) {r : Int32} {σ2 : St} (σ : St) (h : f_X9_standing_26 σ = some (r, σ2)) : Ex mr_X9_standing sc (Cl MT pr sc (d + 4)) (rtE (some (.int r)) (mk X) σ2) (26, [], [], mk X, σ) := by
  unfold f_X9_standing_26 at h
  refine Ex.blk 1000 rfl ?_
  cases h
  exact And.intro trivial ⟨rfl, rfl, rfl⟩
theorem cl_X9_standing {pr : Ct} {sc : Nat × (Nat → Int32)} {X : En} (d : Nat) {r : Int32} {σ2 : St} {x1 : Int32} {x2 : Int32} {x3 : Int32} {σ : St} (h : f_X9_standing x1 x2 x3 σ = some (r, σ2)) : Cl MT pr sc (d + 4 + 1) 104 [.ref 0, .int x1, .int x2, .int x3] (mk X) σ (some (.int r)) (mk X) σ2 := by
  refine cl_of mr_X9_standing rfl rfl ?_
  unfold f_X9_standing at h
  refine Ex.blk 2 rfl ?_
  obtain ⟨p1, hp1, h⟩ := bind_sp h
  refine Exists.intro (some (.int p1.1)) (Exists.intro (mk X) (Exists.intro p1.2 (And.intro (cl_X9_isNumber (d + 3) hp1) ?_)))
  show Ex mr_X9_standing sc (Cl MT pr sc (d + 4)) (rtE (some (.int r)) (mk X) σ2) (4, [(0, .ref 0), (1, .int x1), (2, .int x2), (3, .int x3)], [.int p1.1], mk X, p1.2)
  refine Ex.blk 1000 rfl ?_
  rcases ite_sp h with ⟨c1, h⟩ | ⟨c1, h⟩
  · refine And.intro (fun _ => ?_) (fun hn => absurd c1 hn)
    show Ex mr_X9_standing sc (Cl MT pr sc (d + 4)) (rtE (some (.int r)) (mk X) σ2) (26, [(0, .ref 0), (1, .int x1), (2, .int x2), (3, .int x3)], [], mk X, p1.2)
    refine Ex.pick (lv' := _) [] rfl ?_
    exact lk_X9_standing_26 d _ h
  · refine And.intro (fun hp => absurd hp c1) (fun _ => ?_)
    show Ex mr_X9_standing sc (Cl MT pr sc (d + 4)) (rtE (some (.int r)) (mk X) σ2) (7, [(0, .ref 0), (1, .int x1), (2, .int x2), (3, .int x3)], [], mk X, p1.2)
    refine Ex.blk 3 rfl ?_
    obtain ⟨p2, hp2, h⟩ := bind_sp h
    refine Exists.intro (some (.int p2.1)) (Exists.intro (mk X) (Exists.intro p2.2 (And.intro (cl_X9_isRope (d + 3) hp2) ?_)))
    show Ex mr_X9_standing sc (Cl MT pr sc (d + 4)) (rtE (some (.int r)) (mk X) σ2) (12, [(0, .ref 0), (1, .int x1), (2, .int x2), (3, .int x3)], [.int p2.1], mk X, p2.2)
    refine Ex.blk 1000 rfl ?_
    rcases ite_sp h with ⟨c2, h⟩ | ⟨c2, h⟩
    · refine And.intro (fun _ => ?_) (fun hn => absurd c2 hn)
      show Ex mr_X9_standing sc (Cl MT pr sc (d + 4)) (rtE (some (.int r)) (mk X) σ2) (26, [(0, .ref 0), (1, .int x1), (2, .int x2), (3, .int x3)], [], mk X, p2.2)
      refine Ex.pick (lv' := _) [] rfl ?_
      exact lk_X9_standing_26 d _ h
    · refine And.intro (fun hp => absurd hp c2) (fun _ => ?_)
      show Ex mr_X9_standing sc (Cl MT pr sc (d + 4)) (rtE (some (.int r)) (mk X) σ2) (15, [(0, .ref 0), (1, .int x1), (2, .int x2), (3, .int x3)], [], mk X, p2.2)
      refine Ex.blk 1000 rfl ?_
      rcases ite_sp h with ⟨c3, h⟩ | ⟨c3, h⟩
      · refine And.intro (fun _ => ?_) (fun hn => absurd c3 hn)
        show Ex mr_X9_standing sc (Cl MT pr sc (d + 4)) (rtE (some (.int r)) (mk X) σ2) (26, [(0, .ref 0), (1, .int x1), (2, .int x2), (3, .int x3)], [], mk X, p2.2)
        refine Ex.pick (lv' := _) [] rfl ?_
        exact lk_X9_standing_26 d _ h
      · refine And.intro (fun hp => absurd hp c3) (fun _ => ?_)
        show Ex mr_X9_standing sc (Cl MT pr sc (d + 4)) (rtE (some (.int r)) (mk X) σ2) (19, [(0, .ref 0), (1, .int x1), (2, .int x2), (3, .int x3)], [], mk X, p2.2)
        refine Ex.blk 1000 rfl ?_
        rcases ite_sp h with ⟨c4, h⟩ | ⟨c4, h⟩
        · refine And.intro (fun _ => ?_) (fun hn => absurd c4 hn)
          show Ex mr_X9_standing sc (Cl MT pr sc (d + 4)) (rtE (some (.int r)) (mk X) σ2) (28, [(0, .ref 0), (1, .int x1), (2, .int x2), (3, .int x3)], [], mk X, p2.2)
          refine Ex.blk 5 rfl ?_
          show Ex mr_X9_standing sc (Cl MT pr sc (d + 4)) (rtE (some (.int r)) (mk X) σ2) (37, [(0, .ref 0), (1, .int x1), (2, .int x2), (3, .int x3)], [.int x1, .ref 1, .ref 21], mk X, p2.2)
          refine Ex.blk 5 rfl ?_
          show Ex mr_X9_standing sc (Cl MT pr sc (d + 4)) (rtE (some (.int r)) (mk X) σ2) (46, [(0, .ref 0), (1, .int x1), (2, .int x2), (3, .int x3)], [.ref 0, .int (gI p2.2 0 16), .int (gI p2.2 0 15), .int x1, .ref 1, .ref 21], mk X, p2.2)
          refine Ex.blk 2 rfl ?_
          obtain ⟨p3, hp3, h⟩ := bind_sp h
          refine Exists.intro none (Exists.intro (mk X) (Exists.intro p3 (And.intro (cl_X6_plan_1 (d + 0) hp3) ?_)))
          show Ex mr_X9_standing sc (Cl MT pr sc (d + 4)) (rtE (some (.int r)) (mk X) σ2) (52, [(0, .ref 0), (1, .int x1), (2, .int x2), (3, .int x3)], [], mk X, p3)
          refine Ex.blk 5 rfl ?_
          show Ex mr_X9_standing sc (Cl MT pr sc (d + 4)) (rtE (some (.int r)) (mk X) σ2) (61, [(0, .ref 0), (1, .int x1), (2, .int x2), (3, .int x3)], [.ref 1, .int x2, .ref 21], mk X, p3)
          refine Ex.blk 3 rfl ?_
          obtain ⟨g5, h⟩ := gd_some h
          refine And.intro (inb_ok g5) ?_
          show Ex mr_X9_standing sc (Cl MT pr sc (d + 4)) (rtE (some (.int r)) (mk X) σ2) (66, [(0, .ref 0), (1, .int x1), (2, .int x2), (3, .int x3)], [.int (gI p3 2 x2.toNatClampNeg), .int x2, .ref 21], mk X, p3)
          refine Ex.blk 2 rfl ?_
          obtain ⟨p4, hp4, h⟩ := bind_sp h
          refine Exists.intro (some (.int p4.1)) (Exists.intro (mk X) (Exists.intro p4.2 (And.intro (cl_X6_digitAt (d + 3) hp4) ?_)))
          show Ex mr_X9_standing sc (Cl MT pr sc (d + 4)) (rtE (some (.int r)) (mk X) σ2) (70, [(0, .ref 0), (1, .int x1), (2, .int x2), (3, .int x3)], [.int p4.1], mk X, p4.2)
          refine Ex.blk 1000 rfl ?_
          cases h
          exact And.intro trivial ⟨rfl, rfl, rfl⟩
        · refine And.intro (fun hp => absurd hp c4) (fun _ => ?_)
          show Ex mr_X9_standing sc (Cl MT pr sc (d + 4)) (rtE (some (.int r)) (mk X) σ2) (26, [(0, .ref 0), (1, .int x1), (2, .int x2), (3, .int x3)], [], mk X, p2.2)
          refine Ex.pick (lv' := _) [] rfl ?_
          exact lk_X9_standing_26 d _ h
theorem lk_X9_withBit_19 {pr : Ct} {sc : Nat × (Nat → Int32)} {X : En} (d : Nat) {r : Int32} {σ2 : St} (y0 : Int32) (σ : St) (h : f_X9_withBit_19 y0 σ = some (r, σ2)) : Ex mr_X9_withBit sc (Cl MT pr sc (d + 0)) (rtE (some (.int r)) (mk X) σ2) (19, [], [.int y0], mk X, σ) := by
  unfold f_X9_withBit_19 at h
  refine Ex.blk 1000 rfl ?_
  cases h
  exact And.intro trivial ⟨rfl, rfl, rfl⟩
theorem cl_X9_withBit {pr : Ct} {sc : Nat × (Nat → Int32)} {X : En} (d : Nat) {r : Int32} {σ2 : St} {x0 : Int32} {x1 : Int32} {x2 : Int32} {σ : St} (h : f_X9_withBit x0 x1 x2 σ = some (r, σ2)) : Cl MT pr sc (d + 0 + 1) 105 [.int x0, .int x1, .int x2] (mk X) σ (some (.int r)) (mk X) σ2 := by
  refine cl_of mr_X9_withBit rfl rfl ?_
  unfold f_X9_withBit at h
  refine Ex.blk 1000 rfl ?_
  rcases ite_sp h with ⟨c1, h⟩ | ⟨c1, h⟩
  · refine And.intro (fun _ => ?_) (fun hn => absurd c1 hn)
    show Ex mr_X9_withBit sc (Cl MT pr sc (d + 0)) (rtE (some (.int r)) (mk X) σ2) (12, [(0, .int x0), (1, .int x1), (2, .int x2)], [], mk X, σ)
    refine Ex.blk 5 rfl ?_
    show Ex mr_X9_withBit sc (Cl MT pr sc (d + 0)) (rtE (some (.int r)) (mk X) σ2) (17, [(0, .int x0), (1, .int x1), (2, .int x2)], [.int (-1), .int (shlI 1 x1), .int x0], mk X, σ)
    refine Ex.blk 1000 rfl ?_
    show Ex mr_X9_withBit sc (Cl MT pr sc (d + 0)) (rtE (some (.int r)) (mk X) σ2) (19, [(0, .int x0), (1, .int x1), (2, .int x2)], [.int (x0 &&& ((shlI 1 x1) ^^^ (-1)))], mk X, σ)
    refine Ex.pick (lv' := _) [] rfl ?_
    exact lk_X9_withBit_19 d _ _ h
  · refine And.intro (fun hp => absurd hp c1) (fun _ => ?_)
    show Ex mr_X9_withBit sc (Cl MT pr sc (d + 0)) (rtE (some (.int r)) (mk X) σ2) (4, [(0, .int x0), (1, .int x1), (2, .int x2)], [], mk X, σ)
    refine Ex.blk 5 rfl ?_
    show Ex mr_X9_withBit sc (Cl MT pr sc (d + 0)) (rtE (some (.int r)) (mk X) σ2) (9, [(0, .int x0), (1, .int x1), (2, .int x2)], [.int (x0 ||| (shlI 1 x1))], mk X, σ)
    refine Ex.blk 1000 rfl ?_
    show Ex mr_X9_withBit sc (Cl MT pr sc (d + 0)) (rtE (some (.int r)) (mk X) σ2) (19, [(0, .int x0), (1, .int x1), (2, .int x2)], [.int (x0 ||| (shlI 1 x1))], mk X, σ)
    refine Ex.pick (lv' := _) [] rfl ?_
    exact lk_X9_withBit_19 d _ _ h
theorem cl_X9_two {pr : Ct} {sc : Nat × (Nat → Int32)} {X : En} (d : Nat) {r : Int32} {σ2 : St} {x1 : Int32} {x2 : Int32} {σ : St} (h : f_X9_two x1 x2 σ = some (r, σ2)) : Cl MT pr sc (d + 1 + 1) 106 [.ref 0, .int x1, .int x2] (mk X) σ (some (.int r)) (mk X) σ2 := by
  refine cl_of mr_X9_two rfl rfl ?_
  unfold f_X9_two at h
  refine Ex.blk 3 rfl ?_
  obtain ⟨p1, hp1, h⟩ := bind_sp h
  refine Exists.intro (some (.int p1.1)) (Exists.intro (mk X) (Exists.intro p1.2 (And.intro (cl_X9_isRope (d + 0) hp1) ?_)))
  show Ex mr_X9_two sc (Cl MT pr sc (d + 1)) (rtE (some (.int r)) (mk X) σ2) (5, [(0, .ref 0), (1, .int x1), (2, .int x2)], [.int p1.1], mk X, p1.2)
  refine Ex.blk 1000 rfl ?_
  rcases ite_sp h with ⟨c1, h⟩ | ⟨c1, h⟩
  · refine And.intro (fun hp => absurd c1 hp) (fun _ => ?_)
    show Ex mr_X9_two sc (Cl MT pr sc (d + 1)) (rtE (some (.int r)) (mk X) σ2) (8, [(0, .ref 0), (1, .int x1), (2, .int x2)], [], mk X, p1.2)
    refine Ex.blk 1000 rfl ?_
    cases h
    exact And.intro isb_0 ⟨rfl, rfl, rfl⟩
  · refine And.intro (fun _ => ?_) (fun hn => absurd c1 hn)
    show Ex mr_X9_two sc (Cl MT pr sc (d + 1)) (rtE (some (.int r)) (mk X) σ2) (10, [(0, .ref 0), (1, .int x1), (2, .int x2)], [], mk X, p1.2)
    refine Ex.blk 5 rfl ?_
    show Ex mr_X9_two sc (Cl MT pr sc (d + 1)) (rtE (some (.int r)) (mk X) σ2) (21, [(0, .ref 0), (1, .int x1), (2, .int x2)], [.int (gI p1.2 1 4), .ref 1], mk X, p1.2)
    refine Ex.blk 3 rfl ?_
    obtain ⟨p2, hp2, h⟩ := bind_sp h
    refine Exists.intro (some (.int p2.1)) (Exists.intro (mk X) (Exists.intro p2.2 (And.intro (cl_X9_withBit (d + 0) hp2) ?_)))
    show Ex mr_X9_two sc (Cl MT pr sc (d + 1)) (rtE (some (.int r)) (mk X) σ2) (26, [(0, .ref 0), (1, .int x1), (2, .int x2)], [.int p2.1, .ref 1], mk X, p2.2)
    refine Ex.blk 1000 rfl ?_
    cases h
    exact And.intro isb_1 ⟨rfl, rfl, rfl⟩
theorem lk_J6_bitCount_0f7a4_48 {pr : Ct} {sc : Nat × (Nat → Int32)} {X : En} (d : Nat) {r : Int32} {σ2 : St} (x0 : Int32) (σ : St) (h : f_J6_bitCount_0f7a4_48 x0 σ = some (r, σ2)) : Ex mr_J6_bitCount_0f7a4 sc (Cl MT pr sc (d + 0)) (rtE (some (.int r)) (mk X) σ2) (48, [(0, .int x0)], [], mk X, σ) := by
  unfold f_J6_bitCount_0f7a4_48 at h
  refine Ex.blk 1000 rfl ?_
  cases h
  exact And.intro trivial ⟨rfl, rfl, rfl⟩
theorem lk_J6_bitCount_0f7a4_41 {pr : Ct} {sc : Nat × (Nat → Int32)} {X : En} (d : Nat) {r : Int32} {σ2 : St} (x0 : Int32) (σ : St) (h : f_J6_bitCount_0f7a4_41 x0 σ = some (r, σ2)) : Ex mr_J6_bitCount_0f7a4 sc (Cl MT pr sc (d + 0)) (rtE (some (.int r)) (mk X) σ2) (41, [(0, .int x0)], [], mk X, σ) := by
  unfold f_J6_bitCount_0f7a4_41 at h
  refine Ex.blk 5 rfl ?_
  show Ex mr_J6_bitCount_0f7a4 sc (Cl MT pr sc (d + 0)) (rtE (some (.int r)) (mk X) σ2) (47, [(0, .int x0)], [.int (x0 + (ushI x0 16))], mk X, σ)
  refine Ex.blk 1 rfl ?_
  show Ex mr_J6_bitCount_0f7a4 sc (Cl MT pr sc (d + 0)) (rtE (some (.int r)) (mk X) σ2) (48, [(0, .int (x0 + (ushI x0 16)))], [], mk X, σ)
  exact lk_J6_bitCount_0f7a4_48 d _ _ h
theorem lk_J6_bitCount_0f7a4_34 {pr : Ct} {sc : Nat × (Nat → Int32)} {X : En} (d : Nat) {r : Int32} {σ2 : St} (x0 : Int32) (σ : St) (h : f_J6_bitCount_0f7a4_34 x0 σ = some (r, σ2)) : Ex mr_J6_bitCount_0f7a4 sc (Cl MT pr sc (d + 0)) (rtE (some (.int r)) (mk X) σ2) (34, [(0, .int x0)], [], mk X, σ) := by
  unfold f_J6_bitCount_0f7a4_34 at h
  refine Ex.blk 5 rfl ?_
  show Ex mr_J6_bitCount_0f7a4 sc (Cl MT pr sc (d + 0)) (rtE (some (.int r)) (mk X) σ2) (40, [(0, .int x0)], [.int (x0 + (ushI x0 8))], mk X, σ)
  refine Ex.blk 1 rfl ?_
  show Ex mr_J6_bitCount_0f7a4 sc (Cl MT pr sc (d + 0)) (rtE (some (.int r)) (mk X) σ2) (41, [(0, .int (x0 + (ushI x0 8)))], [], mk X, σ)
  exact lk_J6_bitCount_0f7a4_41 d _ _ h
theorem lk_J6_bitCount_0f7a4_24 {pr : Ct} {sc : Nat × (Nat → Int32)} {X : En} (d : Nat) {r : Int32} {σ2 : St} (x0 : Int32) (σ : St) (h : f_J6_bitCount_0f7a4_24 x0 σ = some (r, σ2)) : Ex mr_J6_bitCount_0f7a4 sc (Cl MT pr sc (d + 0)) (rtE (some (.int r)) (mk X) σ2) (24, [(0, .int x0)], [], mk X, σ) := by
  unfold f_J6_bitCount_0f7a4_24 at h
  refine Ex.blk 5 rfl ?_
  show Ex mr_J6_bitCount_0f7a4 sc (Cl MT pr sc (d + 0)) (rtE (some (.int r)) (mk X) σ2) (29, [(0, .int x0)], [.int (x0 + (ushI x0 4))], mk X, σ)
  refine Ex.blk 3 rfl ?_
  show Ex mr_J6_bitCount_0f7a4 sc (Cl MT pr sc (d + 0)) (rtE (some (.int r)) (mk X) σ2) (34, [(0, .int ((x0 + (ushI x0 4)) &&& 252645135))], [], mk X, σ)
  exact lk_J6_bitCount_0f7a4_34 d _ _ h
theorem lk_J6_bitCount_0f7a4_10 {pr : Ct} {sc : Nat × (Nat → Int32)} {X : En} (d : Nat) {r : Int32} {σ2 : St} (x0 : Int32) (σ : St) (h : f_J6_bitCount_0f7a4_10 x0 σ = some (r, σ2)) : Ex mr_J6_bitCount_0f7a4 sc (Cl MT pr sc (d + 0)) (rtE (some (.int r)) (mk X) σ2) (10, [(0, .int x0)], [], mk X, σ) := by
  unfold f_J6_bitCount_0f7a4_10 at h
  refine Ex.blk 5 rfl ?_
  show Ex mr_J6_bitCount_0f7a4 sc (Cl MT pr sc (d + 0)) (rtE (some (.int r)) (mk X) σ2) (17, [(0, .int x0)], [.int 2, .int x0, .int (x0 &&& 858993459)], mk X, σ)
  refine Ex.blk 5 rfl ?_
  show Ex mr_J6_bitCount_0f7a4 sc (Cl MT pr sc (d + 0)) (rtE (some (.int r)) (mk X) σ2) (24, [(0, .int ((x0 &&& 858993459) + ((ushI x0 2) &&& 858993459)))], [], mk X, σ)
  exact lk_J6_bitCount_0f7a4_24 d _ _ h
theorem cl_J6_bitCount_0f7a4 {pr : Ct} {sc : Nat × (Nat → Int32)} {X : En} (d : Nat) {r : Int32} {σ2 : St} {x0 : Int32} {σ : St} (h : f_J6_bitCount_0f7a4 x0 σ = some (r, σ2)) : Cl MT pr sc (d + 0 + 1) 107 [.int x0] (mk X) σ (some (.int r)) (mk X) σ2 := by
  refine cl_of mr_J6_bitCount_0f7a4 rfl rfl ?_
  unfold f_J6_bitCount_0f7a4 at h
  refine Ex.blk 5 rfl ?_
  show Ex mr_J6_bitCount_0f7a4 sc (Cl MT pr sc (d + 0)) (rtE (some (.int r)) (mk X) σ2) (7, [(0, .int x0)], [.int 1431655765, .int (ushI x0 1), .int x0], mk X, σ)
  refine Ex.blk 3 rfl ?_
  show Ex mr_J6_bitCount_0f7a4 sc (Cl MT pr sc (d + 0)) (rtE (some (.int r)) (mk X) σ2) (10, [(0, .int (x0 - ((ushI x0 1) &&& 1431655765)))], [], mk X, σ)
  exact lk_J6_bitCount_0f7a4_10 d _ _ h
theorem lk_X9_fog_35 {pr : Ct} {sc : Nat × (Nat → Int32)} {X : En} (d : Nat) {r : Int32} {σ2 : St} (x1 : Int32) (x2 : Int32) (σ : St) (h : f_X9_fog_35 x1 x2 σ = some (r, σ2)) : Ex mr_X9_fog sc (Cl MT pr sc (d + 1)) (rtE (some (.int r)) (mk X) σ2) (35, [(0, .ref 0), (1, .int x1), (2, .int x2)], [], mk X, σ) := by
  unfold f_X9_fog_35 at h
  refine Ex.blk 5 rfl ?_
  show Ex mr_X9_fog sc (Cl MT pr sc (d + 1)) (rtE (some (.int r)) (mk X) σ2) (46, [(0, .ref 0), (1, .int x1), (2, .int x2)], [.int (gI σ 1 5), .ref 1], mk X, σ)
  refine Ex.blk 3 rfl ?_
  obtain ⟨p2, hp2, h⟩ := bind_sp h
  refine Exists.intro (some (.int p2.1)) (Exists.intro (mk X) (Exists.intro p2.2 (And.intro (cl_X9_withBit (d + 0) hp2) ?_)))
  show Ex mr_X9_fog sc (Cl MT pr sc (d + 1)) (rtE (some (.int r)) (mk X) σ2) (51, [(0, .ref 0), (1, .int x1), (2, .int x2)], [.int p2.1, .ref 1], mk X, p2.2)
  refine Ex.blk 1000 rfl ?_
  cases h
  exact And.intro isb_1 ⟨rfl, rfl, rfl⟩
theorem cl_X9_fog {pr : Ct} {sc : Nat × (Nat → Int32)} {X : En} (d : Nat) {r : Int32} {σ2 : St} {x1 : Int32} {x2 : Int32} {σ : St} (h : f_X9_fog x1 x2 σ = some (r, σ2)) : Cl MT pr sc (d + 1 + 1) 108 [.ref 0, .int x1, .int x2] (mk X) σ (some (.int r)) (mk X) σ2 := by
  refine cl_of mr_X9_fog rfl rfl ?_
  unfold f_X9_fog at h
  refine Ex.blk 3 rfl ?_
  obtain ⟨p1, hp1, h⟩ := bind_sp h
  refine Exists.intro (some (.int p1.1)) (Exists.intro (mk X) (Exists.intro p1.2 (And.intro (cl_X9_isRope (d + 0) hp1) ?_)))
  show Ex mr_X9_fog sc (Cl MT pr sc (d + 1)) (rtE (some (.int r)) (mk X) σ2) (5, [(0, .ref 0), (1, .int x1), (2, .int x2)], [.int p1.1], mk X, p1.2)
  refine Ex.blk 1000 rfl ?_
  rcases ite_sp h with ⟨c1, h⟩ | ⟨c1, h⟩
  · refine And.intro (fun hp => absurd c1 hp) (fun _ => ?_)
    show Ex mr_X9_fog sc (Cl MT pr sc (d + 1)) (rtE (some (.int r)) (mk X) σ2) (8, [(0, .ref 0), (1, .int x1), (2, .int x2)], [], mk X, p1.2)
    refine Ex.blk 1000 rfl ?_
    cases h
    exact And.intro isb_0 ⟨rfl, rfl, rfl⟩
  · refine And.intro (fun _ => ?_) (fun hn => absurd c1 hn)
    show Ex mr_X9_fog sc (Cl MT pr sc (d + 1)) (rtE (some (.int r)) (mk X) σ2) (10, [(0, .ref 0), (1, .int x1), (2, .int x2)], [], mk X, p1.2)
    refine Ex.blk 1000 rfl ?_
    rcases ite_sp h with ⟨c2, h⟩ | ⟨c2, h⟩
    · refine And.intro (fun _ => ?_) (fun hn => absurd c2 hn)
      show Ex mr_X9_fog sc (Cl MT pr sc (d + 1)) (rtE (some (.int r)) (mk X) σ2) (35, [(0, .ref 0), (1, .int x1), (2, .int x2)], [], mk X, p1.2)
      exact lk_X9_fog_35 d _ _ _ h
    · refine And.intro (fun hp => absurd hp c2) (fun _ => ?_)
      show Ex mr_X9_fog sc (Cl MT pr sc (d + 1)) (rtE (some (.int r)) (mk X) σ2) (14, [(0, .ref 0), (1, .int x1), (2, .int x2)], [], mk X, p1.2)
      refine Ex.blk 5 rfl ?_
      show Ex mr_X9_fog sc (Cl MT pr sc (d + 1)) (rtE (some (.int r)) (mk X) σ2) (23, [(0, .ref 0), (1, .int x1), (2, .int x2)], [.int 0, .int x1, .int (gI p1.2 1 5)], mk X, p1.2)
      refine Ex.blk 1 rfl ?_
      obtain ⟨p3, hp3, h⟩ := bind_sp h
      refine Exists.intro (some (.int p3.1)) (Exists.intro (mk X) (Exists.intro p3.2 (And.intro (cl_X9_withBit (d + 0) hp3) ?_)))
      show Ex mr_X9_fog sc (Cl MT pr sc (d + 1)) (rtE (some (.int r)) (mk X) σ2) (26, [(0, .ref 0), (1, .int x1), (2, .int x2)], [.int p3.1], mk X, p3.2)
      refine Ex.blk 1 rfl ?_
      obtain ⟨p4, hp4, h⟩ := bind_sp h
      refine Exists.intro (some (.int p4.1)) (Exists.intro (mk X) (Exists.intro p4.2 (And.intro (cl_J6_bitCount_0f7a4 (d + 0) hp4) ?_)))
      show Ex mr_X9_fog sc (Cl MT pr sc (d + 1)) (rtE (some (.int r)) (mk X) σ2) (29, [(0, .ref 0), (1, .int x1), (2, .int x2)], [.int p4.1], mk X, p4.2)
      refine Ex.blk 1000 rfl ?_
      rcases ite_sp h with ⟨c3, h⟩ | ⟨c3, h⟩
      · refine And.intro (fun _ => ?_) (fun hn => absurd c3 hn)
        show Ex mr_X9_fog sc (Cl MT pr sc (d + 1)) (rtE (some (.int r)) (mk X) σ2) (35, [(0, .ref 0), (1, .int x1), (2, .int x2)], [], mk X, p4.2)
        exact lk_X9_fog_35 d _ _ _ h
      · refine And.intro (fun hp => absurd hp c3) (fun _ => ?_)
        show Ex mr_X9_fog sc (Cl MT pr sc (d + 1)) (rtE (some (.int r)) (mk X) σ2) (33, [(0, .ref 0), (1, .int x1), (2, .int x2)], [], mk X, p4.2)
        refine Ex.blk 1000 rfl ?_
        cases h
        exact And.intro isb_0 ⟨rfl, rfl, rfl⟩
theorem lk_X9_isBell_16 {pr : Ct} {sc : Nat × (Nat → Int32)} {X : En} (d : Nat) {r : Int32} {σ2 : St} (y0 : Int32) (σ : St) (h : f_X9_isBell_16 y0 σ = some (r, σ2)) : Ex mr_X9_isBell sc (Cl MT pr sc (d + 0)) (rtE (some (.int r)) (mk X) σ2) (16, [], [.int y0], mk X, σ) := by
  unfold f_X9_isBell_16 at h
  refine Ex.blk 1000 rfl ?_
  obtain ⟨g1, h⟩ := gd_some h
  cases h
  exact And.intro (isbb_ok g1) ⟨rfl, rfl, rfl⟩
theorem lk_X9_isBell_15 {pr : Ct} {sc : Nat × (Nat → Int32)} {X : En} (d : Nat) {r : Int32} {σ2 : St} (σ : St) (h : f_X9_isBell_15 σ = some (r, σ2)) : Ex mr_X9_isBell sc (Cl MT pr sc (d + 0)) (rtE (some (.int r)) (mk X) σ2) (15, [], [], mk X, σ) := by
  unfold f_X9_isBell_15 at h
  refine Ex.blk 1000 rfl ?_
  show Ex mr_X9_isBell sc (Cl MT pr sc (d + 0)) (rtE (some (.int r)) (mk X) σ2) (16, [], [.int 0], mk X, σ)
  exact lk_X9_isBell_16 d _ _ h
theorem cl_X9_isBell {pr : Ct} {sc : Nat × (Nat → Int32)} {X : En} (d : Nat) {r : Int32} {σ2 : St} {x0 : Int32} {σ : St} (h : f_X9_isBell x0 σ = some (r, σ2)) : Cl MT pr sc (d + 0 + 1) 109 [.int x0] (mk X) σ (some (.int r)) (mk X) σ2 := by
  refine cl_of mr_X9_isBell rfl rfl ?_
  unfold f_X9_isBell at h
  refine Ex.blk 1000 rfl ?_
  rcases ite_sp h with ⟨c1, h⟩ | ⟨c1, h⟩
  · refine And.intro (fun _ => ?_) (fun hn => absurd c1 hn)
    show Ex mr_X9_isBell sc (Cl MT pr sc (d + 0)) (rtE (some (.int r)) (mk X) σ2) (15, [(0, .int x0)], [], mk X, σ)
    refine Ex.pick (lv' := _) [] rfl ?_
    exact lk_X9_isBell_15 d _ h
  · refine And.intro (fun hp => absurd hp c1) (fun _ => ?_)
    show Ex mr_X9_isBell sc (Cl MT pr sc (d + 0)) (rtE (some (.int r)) (mk X) σ2) (5, [(0, .int x0)], [], mk X, σ)
    refine Ex.blk 1000 rfl ?_
    rcases ite_sp h with ⟨c2, h⟩ | ⟨c2, h⟩
    · refine And.intro (fun _ => ?_) (fun hn => absurd c2 hn)
      show Ex mr_X9_isBell sc (Cl MT pr sc (d + 0)) (rtE (some (.int r)) (mk X) σ2) (15, [(0, .int x0)], [], mk X, σ)
      refine Ex.pick (lv' := _) [] rfl ?_
      exact lk_X9_isBell_15 d _ h
    · refine And.intro (fun hp => absurd hp c2) (fun _ => ?_)
      show Ex mr_X9_isBell sc (Cl MT pr sc (d + 0)) (rtE (some (.int r)) (mk X) σ2) (11, [(0, .int x0)], [], mk X, σ)
      refine Ex.blk 1000 rfl ?_
      show Ex mr_X9_isBell sc (Cl MT pr sc (d + 0)) (rtE (some (.int r)) (mk X) σ2) (16, [(0, .int x0)], [.int 1], mk X, σ)
      refine Ex.pick (lv' := _) [] rfl ?_
      exact lk_X9_isBell_16 d _ _ h
theorem lk_X7_valueSeen_1_27 {pr : Ct} {sc : Nat × (Nat → Int32)} {X : En} (d : Nat) {r : Int64} {σ2 : St} (k4 : Int64 → Int32 → St → Option (Int64 × St)) (hk4 : ∀ (x1 : Int64) (x3 : Int32) (σ : St), k4 x1 x3 σ = some (r, σ2) → Ex mr_X7_valueSeen sc (Cl MT pr sc (d + 2)) (rtE (some (.long r)) (mk X) σ2) (4, [(0, .ref 1), (1, .long x1), (3, .int x3)], [], mk X, σ)) (x1 : Int64) (x3 : Int32) (σ : St) (h : f_X7_valueSeen_27 1 k4 x1 x3 σ = some (r, σ2)) : Ex mr_X7_valueSeen sc (Cl MT pr sc (d + 2)) (rtE (some (.long r)) (mk X) σ2) (27, [(0, .ref 1), (1, .long x1), (3, .int x3)], [], mk X, σ) := by
  unfold f_X7_valueSeen_27 at h
  refine Ex.blk 1000 rfl ?_
  show Ex mr_X7_valueSeen sc (Cl MT pr sc (d + 2)) (rtE (some (.long r)) (mk X) σ2) (4, [(3, .int (x3 + 1)), (0, .ref 1), (1, .long x1)], [], mk X, σ)
  refine Ex.pick (lv' := _) [1, 2, 0] rfl ?_
  exact hk4 _ _ _ h
theorem lk_X7_valueSeen_1_4 {pr : Ct} {sc : Nat × (Nat → Int32)} {X : En} (d : Nat) {r : Int64} {σ2 : St} : ∀ (n : Nat) (x1 : Int64) (x3 : Int32) (σ : St), f_X7_valueSeen_4 1 n x1 x3 σ = some (r, σ2) → Ex mr_X7_valueSeen sc (Cl MT pr sc (d + 2)) (rtE (some (.long r)) (mk X) σ2) (4, [(0, .ref 1), (1, .long x1), (3, .int x3)], [], mk X, σ) := by
  intro n
  induction n with
  | zero =>
    intro x1 x3 σ h
    cases h
  | succ n ih =>
    intro x1 x3 σ h
    simp only [f_X7_valueSeen_4] at h
    refine Ex.blk 1000 rfl ?_
    rcases ite_sp h with ⟨c1, h⟩ | ⟨c1, h⟩
    · refine And.intro (fun _ => ?_) (fun hn => absurd c1 hn)
      show Ex mr_X7_valueSeen sc (Cl MT pr sc (d + 2)) (rtE (some (.long r)) (mk X) σ2) (33, [(0, .ref 1), (1, .long x1), (3, .int x3)], [], mk X, σ)
      refine Ex.blk 1000 rfl ?_
      cases h
      exact And.intro trivial ⟨rfl, rfl, rfl⟩
    · refine And.intro (fun hp => absurd hp c1) (fun _ => ?_)
      show Ex mr_X7_valueSeen sc (Cl MT pr sc (d + 2)) (rtE (some (.long r)) (mk X) σ2) (12, [(0, .ref 1), (1, .long x1), (3, .int x3)], [], mk X, σ)
      refine Ex.blk 4 rfl ?_
      obtain ⟨p1, hp1, h⟩ := bind_sp h
      refine Exists.intro (some (.int p1.1)) (Exists.intro (mk X) (Exists.intro p1.2 (And.intro (cl_X7_seen_1 (d + 0) hp1) ?_)))
      show Ex mr_X7_valueSeen sc (Cl MT pr sc (d + 2)) (rtE (some (.long r)) (mk X) σ2) (18, [(0, .ref 1), (1, .long x1), (3, .int x3)], [.int p1.1, .long x1], mk X, p1.2)
      refine Ex.blk 4 rfl ?_
      obtain ⟨g2, h⟩ := gd_some h
      refine And.intro (inb_ok g2) ?_
      show Ex mr_X7_valueSeen sc (Cl MT pr sc (d + 2)) (rtE (some (.long r)) (mk X) σ2) (24, [(0, .ref 1), (1, .long x1), (3, .int x3)], [.long (tens x3.toNatClampNeg), .long p1.1.toInt64, .long x1], mk X, p1.2)
      refine Ex.blk 3 rfl ?_
      show Ex mr_X7_valueSeen sc (Cl MT pr sc (d + 2)) (rtE (some (.long r)) (mk X) σ2) (27, [(1, .long (x1 + (p1.1.toInt64 * (tens x3.toNatClampNeg)))), (0, .ref 1), (3, .int x3)], [], mk X, p1.2)
      refine Ex.pick (lv' := _) [1, 0, 2] rfl ?_
      exact lk_X7_valueSeen_1_27 d _ ih _ _ _ h
theorem cl_X7_valueSeen_1 {pr : Ct} {sc : Nat × (Nat → Int32)} {X : En} (d : Nat) {r : Int64} {σ2 : St} {σ : St} (h : f_X7_valueSeen 1 σ = some (r, σ2)) : Cl MT pr sc (d + 2 + 1) 69 [.ref 1] (mk X) σ (some (.long r)) (mk X) σ2 := by
  refine cl_of mr_X7_valueSeen rfl rfl ?_
  unfold f_X7_valueSeen at h
  refine Ex.blk 1000 rfl ?_
  show Ex mr_X7_valueSeen sc (Cl MT pr sc (d + 2)) (rtE (some (.long r)) (mk X) σ2) (4, [(3, .int 0), (1, .long 0), (0, .ref 1)], [], mk X, σ)
  refine Ex.pick (lv' := _) [2, 1, 0] rfl ?_
  exact lk_X7_valueSeen_1_4 d FU _ _ _ h
theorem cl_X9_bell {pr : Ct} {sc : Nat × (Nat → Int32)} {X : En} (d : Nat) {r : Int32} {σ2 : St} {x1 : Int32} {σ : St} (h : f_X9_bell x1 σ = some (r, σ2)) : Cl MT pr sc (d + 3 + 1) 110 [.ref 0, .int x1] (mk X) σ (some (.int r)) (mk X) σ2 := by
  refine cl_of mr_X9_bell rfl rfl ?_
  unfold f_X9_bell at h
  refine Ex.blk 2 rfl ?_
  obtain ⟨p1, hp1, h⟩ := bind_sp h
  refine Exists.intro (some (.int p1.1)) (Exists.intro (mk X) (Exists.intro p1.2 (And.intro (cl_X9_isBell (d + 2) hp1) ?_)))
  show Ex mr_X9_bell sc (Cl MT pr sc (d + 3)) (rtE (some (.int r)) (mk X) σ2) (4, [(0, .ref 0), (1, .int x1)], [.int p1.1], mk X, p1.2)
  refine Ex.blk 1000 rfl ?_
  rcases ite_sp h with ⟨c1, h⟩ | ⟨c1, h⟩
  · refine And.intro (fun hp => absurd c1 hp) (fun _ => ?_)
    show Ex mr_X9_bell sc (Cl MT pr sc (d + 3)) (rtE (some (.int r)) (mk X) σ2) (7, [(0, .ref 0), (1, .int x1)], [], mk X, p1.2)
    refine Ex.blk 1000 rfl ?_
    cases h
    exact And.intro trivial ⟨rfl, rfl, rfl⟩
  · refine And.intro (fun _ => ?_) (fun hn => absurd c1 hn)
    show Ex mr_X9_bell sc (Cl MT pr sc (d + 3)) (rtE (some (.int r)) (mk X) σ2) (9, [(0, .ref 0), (1, .int x1)], [], mk X, p1.2)
    refine Ex.blk 1000 rfl ?_
    rcases ite_sp h with ⟨c2, h⟩ | ⟨c2, h⟩
    · refine And.intro (fun _ => ?_) (fun hn => absurd c2 hn)
      show Ex mr_X9_bell sc (Cl MT pr sc (d + 3)) (rtE (some (.int r)) (mk X) σ2) (22, [(0, .ref 0), (1, .int x1)], [], mk X, p1.2)
      refine Ex.blk 3 rfl ?_
      obtain ⟨p2, hp2, h⟩ := bind_sp h
      refine Exists.intro (some (.long p2.1)) (Exists.intro (mk X) (Exists.intro p2.2 (And.intro (cl_X7_valueSeen_1 (d + 0) hp2) ?_)))
      show Ex mr_X9_bell sc (Cl MT pr sc (d + 3)) (rtE (some (.int r)) (mk X) σ2) (29, [(0, .ref 0), (1, .int x1)], [.long p2.1], mk X, p2.2)
      refine Ex.blk 3 rfl ?_
      obtain ⟨g3, h⟩ := gd_some h
      refine And.intro (nzJ_ok g3) ?_
      show Ex mr_X9_bell sc (Cl MT pr sc (d + 3)) (rtE (some (.int r)) (mk X) σ2) (32, [(0, .ref 0), (1, .int x1)], [.long (rmJ p2.1 x1.toInt64)], mk X, p2.2)
      refine Ex.blk 1000 rfl ?_
      cases h
      exact And.intro trivial ⟨rfl, rfl, rfl⟩
    · refine And.intro (fun hp => absurd hp c2) (fun _ => ?_)
      show Ex mr_X9_bell sc (Cl MT pr sc (d + 3)) (rtE (some (.int r)) (mk X) σ2) (19, [(0, .ref 0), (1, .int x1)], [], mk X, p1.2)
      refine Ex.blk 1000 rfl ?_
      cases h
      exact And.intro trivial ⟨rfl, rfl, rfl⟩
theorem lk_X9_isRest_25 {pr : Ct} {sc : Nat × (Nat → Int32)} {X : En} (d : Nat) {r : Int32} {σ2 : St} (y0 : Int32) (σ : St) (h : f_X9_isRest_25 y0 σ = some (r, σ2)) : Ex mr_X9_isRest sc (Cl MT pr sc (d + 0)) (rtE (some (.int r)) (mk X) σ2) (25, [], [.int y0], mk X, σ) := by
  unfold f_X9_isRest_25 at h
  refine Ex.blk 1000 rfl ?_
  obtain ⟨g1, h⟩ := gd_some h
  cases h
  exact And.intro (isbb_ok g1) ⟨rfl, rfl, rfl⟩
theorem lk_X9_isRest_24 {pr : Ct} {sc : Nat × (Nat → Int32)} {X : En} (d : Nat) {r : Int32} {σ2 : St} (σ : St) (h : f_X9_isRest_24 σ = some (r, σ2)) : Ex mr_X9_isRest sc (Cl MT pr sc (d + 0)) (rtE (some (.int r)) (mk X) σ2) (24, [], [], mk X, σ) := by
  unfold f_X9_isRest_24 at h
  refine Ex.blk 1000 rfl ?_
  show Ex mr_X9_isRest sc (Cl MT pr sc (d + 0)) (rtE (some (.int r)) (mk X) σ2) (25, [], [.int 0], mk X, σ)
  exact lk_X9_isRest_25 d _ _ h
theorem cl_X9_isRest {pr : Ct} {sc : Nat × (Nat → Int32)} {X : En} (d : Nat) {r : Int32} {σ2 : St} {x0 : Int32} {x1 : Int32} {σ : St} (h : f_X9_isRest x0 x1 σ = some (r, σ2)) : Cl MT pr sc (d + 0 + 1) 113 [.int x0, .int x1] (mk X) σ (some (.int r)) (mk X) σ2 := by
  refine cl_of mr_X9_isRest rfl rfl ?_
  unfold f_X9_isRest at h
  refine Ex.blk 1000 rfl ?_
  rcases ite_sp h with ⟨c1, h⟩ | ⟨c1, h⟩
  · refine And.intro (fun _ => ?_) (fun hn => absurd c1 hn)
    show Ex mr_X9_isRest sc (Cl MT pr sc (d + 0)) (rtE (some (.int r)) (mk X) σ2) (24, [(0, .int x0), (1, .int x1)], [], mk X, σ)
    refine Ex.pick (lv' := _) [] rfl ?_
    exact lk_X9_isRest_24 d _ h
  · refine And.intro (fun hp => absurd hp c1) (fun _ => ?_)
    show Ex mr_X9_isRest sc (Cl MT pr sc (d + 0)) (rtE (some (.int r)) (mk X) σ2) (5, [(0, .int x0), (1, .int x1)], [], mk X, σ)
    refine Ex.blk 1000 rfl ?_
    rcases ite_sp h with ⟨c2, h⟩ | ⟨c2, h⟩
    · refine And.intro (fun _ => ?_) (fun hn => absurd c2 hn)
      show Ex mr_X9_isRest sc (Cl MT pr sc (d + 0)) (rtE (some (.int r)) (mk X) σ2) (24, [(0, .int x0), (1, .int x1)], [], mk X, σ)
      refine Ex.pick (lv' := _) [] rfl ?_
      exact lk_X9_isRest_24 d _ h
    · refine And.intro (fun hp => absurd hp c2) (fun _ => ?_)
      show Ex mr_X9_isRest sc (Cl MT pr sc (d + 0)) (rtE (some (.int r)) (mk X) σ2) (11, [(0, .int x0), (1, .int x1)], [], mk X, σ)
      refine Ex.blk 1000 rfl ?_
      rcases ite_sp h with ⟨c3, h⟩ | ⟨c3, h⟩
      · refine And.intro (fun _ => ?_) (fun hn => absurd c3 hn)
        show Ex mr_X9_isRest sc (Cl MT pr sc (d + 0)) (rtE (some (.int r)) (mk X) σ2) (24, [(0, .int x0), (1, .int x1)], [], mk X, σ)
        refine Ex.pick (lv' := _) [] rfl ?_
        exact lk_X9_isRest_24 d _ h
      · refine And.intro (fun hp => absurd hp c3) (fun _ => ?_)
        show Ex mr_X9_isRest sc (Cl MT pr sc (d + 0)) (rtE (some (.int r)) (mk X) σ2) (15, [(0, .int x0), (1, .int x1)], [], mk X, σ)
        refine Ex.blk 1000 rfl ?_
        rcases ite_sp h with ⟨c4, h⟩ | ⟨c4, h⟩
        · refine And.intro (fun _ => ?_) (fun hn => absurd c4 hn)
          show Ex mr_X9_isRest sc (Cl MT pr sc (d + 0)) (rtE (some (.int r)) (mk X) σ2) (24, [(0, .int x0), (1, .int x1)], [], mk X, σ)
          refine Ex.pick (lv' := _) [] rfl ?_
          exact lk_X9_isRest_24 d _ h
        · refine And.intro (fun hp => absurd hp c4) (fun _ => ?_)
          show Ex mr_X9_isRest sc (Cl MT pr sc (d + 0)) (rtE (some (.int r)) (mk X) σ2) (20, [(0, .int x0), (1, .int x1)], [], mk X, σ)
          refine Ex.blk 1000 rfl ?_
          show Ex mr_X9_isRest sc (Cl MT pr sc (d + 0)) (rtE (some (.int r)) (mk X) σ2) (25, [(0, .int x0), (1, .int x1)], [.int 1], mk X, σ)
          refine Ex.pick (lv' := _) [] rfl ?_
          exact lk_X9_isRest_25 d _ _ h
theorem lk_X9_astray_13 {pr : Ct} {sc : Nat × (Nat → Int32)} {X : En} (d : Nat) {r : Int32} {σ2 : St} (σ : St) (h : f_X9_astray_13 σ = some (r, σ2)) : Ex mr_X9_astray sc (Cl MT pr sc (d + 3)) (rtE (some (.int r)) (mk X) σ2) (13, [], [], mk X, σ) := by
  unfold f_X9_astray_13 at h
  refine Ex.blk 1000 rfl ?_
  cases h
  exact And.intro trivial ⟨rfl, rfl, rfl⟩
theorem lk_X9_astray_164 {pr : Ct} {sc : Nat × (Nat → Int32)} {X : En} (d : Nat) {r : Int32} {σ2 : St} (y0 : Int32) (σ : St) (h : f_X9_astray_164 y0 σ = some (r, σ2)) : Ex mr_X9_astray sc (Cl MT pr sc (d + 3)) (rtE (some (.int r)) (mk X) σ2) (164, [], [.int y0], mk X, σ) := by
  unfold f_X9_astray_164 at h
  refine Ex.blk 1000 rfl ?_
  cases h
  exact And.intro trivial ⟨rfl, rfl, rfl⟩
theorem lk_X9_astray_141 {pr : Ct} {sc : Nat × (Nat → Int32)} {X : En} (d : Nat) {r : Int32} {σ2 : St} (k43 : Int32 → Int32 → Int32 → Int64 → Int32 → Int32 → St → Option (Int32 × St)) (k80 : Int32 → Int32 → Int32 → Int64 → Int32 → Int32 → Int64 → Int32 → St → Option (Int32 × St)) (hk43 : ∀ (x1 : Int32) (x2 : Int32) (x3 : Int32) (x4 : Int64) (x6 : Int32) (x7 : Int32) (σ : St), k43 x1 x2 x3 x4 x6 x7 σ = some (r, σ2) → Ex mr_X9_astray sc (Cl MT pr sc (d + 3)) (rtE (some (.int r)) (mk X) σ2) (43, [(0, .ref 0), (1, .int x1), (2, .int x2), (3, .int x3), (4, .long x4), (6, .int x6), (7, .int x7)], [], mk X, σ)) (hk80 : ∀ (x1 : Int32) (x2 : Int32) (x3 : Int32) (x4 : Int64) (x6 : Int32) (x7 : Int32) (x8 : Int64) (x10 : Int32) (σ : St), k80 x1 x2 x3 x4 x6 x7 x8 x10 σ = some (r, σ2) → Ex mr_X9_astray sc (Cl MT pr sc (d + 3)) (rtE (some (.int r)) (mk X) σ2) (80, [(0, .ref 0), (1, .int x1), (2, .int x2), (3, .int x3), (4, .long x4), (6, .int x6), (7, .int x7), (8, .long x8), (10, .int x10)], [], mk X, σ)) (x1 : Int32) (x2 : Int32) (x3 : Int32) (x4 : Int64) (x6 : Int32) (x7 : Int32) (x8 : Int64) (x10 : Int32) (σ : St) (h : f_X9_astray_141 k43 k80 x1 x2 x3 x4 x6 x7 x8 x10 σ = some (r, σ2)) : Ex mr_X9_astray sc (Cl MT pr sc (d + 3)) (rtE (some (.int r)) (mk X) σ2) (141, [(0, .ref 0), (1, .int x1), (2, .int x2), (3, .int x3), (4, .long x4), (6, .int x6), (7, .int x7), (8, .long x8), (10, .int x10)], [], mk X, σ) := by
  unfold f_X9_astray_141 at h
  refine Ex.blk 1000 rfl ?_
  show Ex mr_X9_astray sc (Cl MT pr sc (d + 3)) (rtE (some (.int r)) (mk X) σ2) (80, [(10, .int (x10 + 1)), (0, .ref 0), (1, .int x1), (2, .int x2), (3, .int x3), (4, .long x4), (6, .int x6), (7, .int x7), (8, .long x8)], [], mk X, σ)
  refine Ex.pick (lv' := _) [1, 2, 3, 4, 5, 6, 7, 8, 0] rfl ?_
  exact hk80 _ _ _ _ _ _ _ _ _ h
theorem lk_X9_astray_80 {pr : Ct} {sc : Nat × (Nat → Int32)} {X : En} (d : Nat) {r : Int32} {σ2 : St} (k43 : Int32 → Int32 → Int32 → Int64 → Int32 → Int32 → St → Option (Int32 × St)) (hk43 : ∀ (x1 : Int32) (x2 : Int32) (x3 : Int32) (x4 : Int64) (x6 : Int32) (x7 : Int32) (σ : St), k43 x1 x2 x3 x4 x6 x7 σ = some (r, σ2) → Ex mr_X9_astray sc (Cl MT pr sc (d + 3)) (rtE (some (.int r)) (mk X) σ2) (43, [(0, .ref 0), (1, .int x1), (2, .int x2), (3, .int x3), (4, .long x4), (6, .int x6), (7, .int x7)], [], mk X, σ)) : ∀ (n : Nat) (x1 : Int32) (x2 : Int32) (x3 : Int32) (x4 : Int64) (x6 : Int32) (x7 : Int32) (x8 : Int64) (x10 : Int32) (σ : St), f_X9_astray_80 k43 n x1 x2 x3 x4 x6 x7 x8 x10 σ = some (r, σ2) → Ex mr_X9_astray sc (Cl MT pr sc (d + 3)) (rtE (some (.int r)) (mk X) σ2) (80, [(0, .ref 0), (1, .int x1), (2, .int x2), (3, .int x3), (4, .long x4), (6, .int x6), (7, .int x7), (8, .long x8), (10, .int x10)], [], mk X, σ) := by
  intro n
  induction n with
  | zero =>
    intro x1 x2 x3 x4 x6 x7 x8 x10 σ h
    cases h
  | succ n ih =>
    intro x1 x2 x3 x4 x6 x7 x8 x10 σ h
    simp only [f_X9_astray_80] at h
    refine Ex.blk 1000 rfl ?_
    rcases ite_sp h with ⟨c1, h⟩ | ⟨c1, h⟩
    · refine And.intro (fun _ => ?_) (fun hn => absurd c1 hn)
      show Ex mr_X9_astray sc (Cl MT pr sc (d + 3)) (rtE (some (.int r)) (mk X) σ2) (147, [(0, .ref 0), (1, .int x1), (2, .int x2), (3, .int x3), (4, .long x4), (6, .int x6), (7, .int x7), (8, .long x8), (10, .int x10)], [], mk X, σ)
      refine Ex.blk 1000 rfl ?_
      show Ex mr_X9_astray sc (Cl MT pr sc (d + 3)) (rtE (some (.int r)) (mk X) σ2) (43, [(7, .int (x7 + 1)), (0, .ref 0), (1, .int x1), (2, .int x2), (3, .int x3), (4, .long x4), (6, .int x6), (8, .long x8), (10, .int x10)], [], mk X, σ)
      refine Ex.pick (lv' := _) [1, 2, 3, 4, 5, 6, 0] rfl ?_
      exact hk43 _ _ _ _ _ _ _ h
    · refine And.intro (fun hp => absurd hp c1) (fun _ => ?_)
      show Ex mr_X9_astray sc (Cl MT pr sc (d + 3)) (rtE (some (.int r)) (mk X) σ2) (87, [(0, .ref 0), (1, .int x1), (2, .int x2), (3, .int x3), (4, .long x4), (6, .int x6), (7, .int x7), (8, .long x8), (10, .int x10)], [], mk X, σ)
      refine Ex.blk 5 rfl ?_
      obtain ⟨p4, hp4, h⟩ := bind_sp h
      refine Exists.intro (some (.int p4.1)) (Exists.intro (mk X) (Exists.intro p4.2 (And.intro (cl_X7_seen_1 (d + 1) hp4) ?_)))
      show Ex mr_X9_astray sc (Cl MT pr sc (d + 3)) (rtE (some (.int r)) (mk X) σ2) (98, [(0, .ref 0), (1, .int x1), (2, .int x2), (3, .int x3), (4, .long x4), (6, .int x6), (7, .int x7), (8, .long x8), (10, .int x10)], [.int p4.1, .int x10], mk X, p4.2)
      refine Ex.blk 1000 rfl ?_
      rcases ite_sp h with ⟨c2, h⟩ | ⟨c2, h⟩
      · refine And.intro (fun _ => ?_) (fun hn => absurd c2 hn)
        show Ex mr_X9_astray sc (Cl MT pr sc (d + 3)) (rtE (some (.int r)) (mk X) σ2) (141, [(0, .ref 0), (1, .int x1), (2, .int x2), (3, .int x3), (4, .long x4), (6, .int x6), (7, .int x7), (8, .long x8), (10, .int x10)], [], mk X, p4.2)
        exact lk_X9_astray_141 d _ _ hk43 ih _ _ _ _ _ _ _ _ _ h
      · refine And.intro (fun hp => absurd hp c2) (fun _ => ?_)
        show Ex mr_X9_astray sc (Cl MT pr sc (d + 3)) (rtE (some (.int r)) (mk X) σ2) (101, [(0, .ref 0), (1, .int x1), (2, .int x2), (3, .int x3), (4, .long x4), (6, .int x6), (7, .int x7), (8, .long x8), (10, .int x10)], [], mk X, p4.2)
        refine Ex.blk 5 rfl ?_
        show Ex mr_X9_astray sc (Cl MT pr sc (d + 3)) (rtE (some (.int r)) (mk X) σ2) (111, [(0, .ref 0), (1, .int x1), (2, .int x2), (3, .int x3), (4, .long x4), (6, .int x6), (7, .int x7), (8, .long x8), (10, .int x10)], [.int x7, .ref TN, .long x10.toInt64, .long x8], mk X, p4.2)
        refine Ex.blk 1 rfl ?_
        obtain ⟨g3, h⟩ := gd_some h
        refine And.intro (inb_ok g3) ?_
        show Ex mr_X9_astray sc (Cl MT pr sc (d + 3)) (rtE (some (.int r)) (mk X) σ2) (112, [(0, .ref 0), (1, .int x1), (2, .int x2), (3, .int x3), (4, .long x4), (6, .int x6), (7, .int x7), (8, .long x8), (10, .int x10)], [.long (tens x7.toNatClampNeg), .long x10.toInt64, .long x8], mk X, p4.2)
        refine Ex.blk 5 rfl ?_
        obtain ⟨g4, h⟩ := gd_some h
        refine And.intro (nzJ_ok g4) ?_
        show Ex mr_X9_astray sc (Cl MT pr sc (d + 3)) (rtE (some (.int r)) (mk X) σ2) (117, [(0, .ref 0), (1, .int x1), (2, .int x2), (3, .int x3), (4, .long x4), (6, .int x6), (7, .int x7), (8, .long x8), (10, .int x10)], [.long (rmJ (x8 + (x10.toInt64 * (tens x7.toNatClampNeg))) x1.toInt64)], mk X, p4.2)
        refine Ex.blk 1000 rfl ?_
        rcases ite_sp h with ⟨c5, h⟩ | ⟨c5, h⟩
        · refine And.intro (fun hp => absurd c5 hp) (fun _ => ?_)
          show Ex mr_X9_astray sc (Cl MT pr sc (d + 3)) (rtE (some (.int r)) (mk X) σ2) (123, [(0, .ref 0), (1, .int x1), (2, .int x2), (3, .int x3), (4, .long x4), (6, .int x6), (7, .int x7), (8, .long x8), (10, .int x10)], [], mk X, p4.2)
          refine Ex.blk 1000 rfl ?_
          rcases ite_sp h with ⟨c6, h⟩ | ⟨c6, h⟩
          · refine And.intro (fun hp => absurd c6 hp) (fun _ => ?_)
            show Ex mr_X9_astray sc (Cl MT pr sc (d + 3)) (rtE (some (.int r)) (mk X) σ2) (129, [(0, .ref 0), (1, .int x1), (2, .int x2), (3, .int x3), (4, .long x4), (6, .int x6), (7, .int x7), (8, .long x8), (10, .int x10)], [], mk X, p4.2)
            refine Ex.blk 5 rfl ?_
            show Ex mr_X9_astray sc (Cl MT pr sc (d + 3)) (rtE (some (.int r)) (mk X) σ2) (137, [(0, .ref 0), (1, .int x1), (2, .int x2), (3, .int x3), (4, .long x4), (6, .int x6), (7, .int x7), (8, .long x8), (10, .int x10)], [.int ((10 * x7) + x10)], mk X, p4.2)
            refine Ex.blk 1000 rfl ?_
            cases h
            exact And.intro trivial ⟨rfl, rfl, rfl⟩
          · refine And.intro (fun _ => ?_) (fun hn => absurd c6 hn)
            show Ex mr_X9_astray sc (Cl MT pr sc (d + 3)) (rtE (some (.int r)) (mk X) σ2) (138, [(0, .ref 0), (1, .int x1), (2, .int x2), (3, .int x3), (4, .long x4), (6, .int x6), (7, .int x7), (8, .long x8), (10, .int x10)], [], mk X, p4.2)
            refine Ex.blk 1000 rfl ?_
            show Ex mr_X9_astray sc (Cl MT pr sc (d + 3)) (rtE (some (.int r)) (mk X) σ2) (141, [(6, .int (x6 + 1)), (0, .ref 0), (1, .int x1), (2, .int x2), (3, .int x3), (4, .long x4), (7, .int x7), (8, .long x8), (10, .int x10)], [], mk X, p4.2)
            refine Ex.pick (lv' := _) [1, 2, 3, 4, 5, 0, 6, 7, 8] rfl ?_
            exact lk_X9_astray_141 d _ _ hk43 ih _ _ _ _ _ _ _ _ _ h
        · refine And.intro (fun _ => ?_) (fun hn => absurd c5 hn)
          show Ex mr_X9_astray sc (Cl MT pr sc (d + 3)) (rtE (some (.int r)) (mk X) σ2) (141, [(0, .ref 0), (1, .int x1), (2, .int x2), (3, .int x3), (4, .long x4), (6, .int x6), (7, .int x7), (8, .long x8), (10, .int x10)], [], mk X, p4.2)
          exact lk_X9_astray_141 d _ _ hk43 ih _ _ _ _ _ _ _ _ _ h
theorem lk_X9_astray_77 {pr : Ct} {sc : Nat × (Nat → Int32)} {X : En} (d : Nat) {r : Int32} {σ2 : St} (k43 : Int32 → Int32 → Int32 → Int64 → Int32 → Int32 → St → Option (Int32 × St)) (hk43 : ∀ (x1 : Int32) (x2 : Int32) (x3 : Int32) (x4 : Int64) (x6 : Int32) (x7 : Int32) (σ : St), k43 x1 x2 x3 x4 x6 x7 σ = some (r, σ2) → Ex mr_X9_astray sc (Cl MT pr sc (d + 3)) (rtE (some (.int r)) (mk X) σ2) (43, [(0, .ref 0), (1, .int x1), (2, .int x2), (3, .int x3), (4, .long x4), (6, .int x6), (7, .int x7)], [], mk X, σ)) (x1 : Int32) (x2 : Int32) (x3 : Int32) (x4 : Int64) (x6 : Int32) (x7 : Int32) (x8 : Int64) (σ : St) (h : f_X9_astray_77 k43 x1 x2 x3 x4 x6 x7 x8 σ = some (r, σ2)) : Ex mr_X9_astray sc (Cl MT pr sc (d + 3)) (rtE (some (.int r)) (mk X) σ2) (77, [(0, .ref 0), (1, .int x1), (2, .int x2), (3, .int x3), (4, .long x4), (6, .int x6), (7, .int x7), (8, .long x8)], [], mk X, σ) := by
  unfold f_X9_astray_77 at h
  refine Ex.blk 1000 rfl ?_
  show Ex mr_X9_astray sc (Cl MT pr sc (d + 3)) (rtE (some (.int r)) (mk X) σ2) (80, [(10, .int 0), (0, .ref 0), (1, .int x1), (2, .int x2), (3, .int x3), (4, .long x4), (6, .int x6), (7, .int x7), (8, .long x8)], [], mk X, σ)
  refine Ex.pick (lv' := _) [1, 2, 3, 4, 5, 6, 7, 8, 0] rfl ?_
  exact lk_X9_astray_80 d _ hk43 FU _ _ _ _ _ _ _ _ _ h
theorem lk_X9_astray_43 {pr : Ct} {sc : Nat × (Nat → Int32)} {X : En} (d : Nat) {r : Int32} {σ2 : St} : ∀ (n : Nat) (x1 : Int32) (x2 : Int32) (x3 : Int32) (x4 : Int64) (x6 : Int32) (x7 : Int32) (σ : St), f_X9_astray_43 n x1 x2 x3 x4 x6 x7 σ = some (r, σ2) → Ex mr_X9_astray sc (Cl MT pr sc (d + 3)) (rtE (some (.int r)) (mk X) σ2) (43, [(0, .ref 0), (1, .int x1), (2, .int x2), (3, .int x3), (4, .long x4), (6, .int x6), (7, .int x7)], [], mk X, σ) := by
  intro n
  induction n with
  | zero =>
    intro x1 x2 x3 x4 x6 x7 σ h
    cases h
  | succ n ih =>
    intro x1 x2 x3 x4 x6 x7 σ h
    simp only [f_X9_astray_43] at h
    refine Ex.blk 1000 rfl ?_
    rcases ite_sp h with ⟨c1, h⟩ | ⟨c1, h⟩
    · refine And.intro (fun _ => ?_) (fun hn => absurd c1 hn)
      show Ex mr_X9_astray sc (Cl MT pr sc (d + 3)) (rtE (some (.int r)) (mk X) σ2) (153, [(0, .ref 0), (1, .int x1), (2, .int x2), (3, .int x3), (4, .long x4), (6, .int x6), (7, .int x7)], [], mk X, σ)
      refine Ex.blk 1000 rfl ?_
      rcases ite_sp h with ⟨c2, h⟩ | ⟨c2, h⟩
      · refine And.intro (fun hp => absurd c2 hp) (fun _ => ?_)
        show Ex mr_X9_astray sc (Cl MT pr sc (d + 3)) (rtE (some (.int r)) (mk X) σ2) (158, [(0, .ref 0), (1, .int x1), (2, .int x2), (3, .int x3), (4, .long x4), (6, .int x6), (7, .int x7)], [], mk X, σ)
        refine Ex.blk 1000 rfl ?_
        show Ex mr_X9_astray sc (Cl MT pr sc (d + 3)) (rtE (some (.int r)) (mk X) σ2) (164, [(0, .ref 0), (1, .int x1), (2, .int x2), (3, .int x3), (4, .long x4), (6, .int x6), (7, .int x7)], [.int x6], mk X, σ)
        refine Ex.pick (lv' := _) [] rfl ?_
        exact lk_X9_astray_164 d _ _ h
      · refine And.intro (fun _ => ?_) (fun hn => absurd c2 hn)
        show Ex mr_X9_astray sc (Cl MT pr sc (d + 3)) (rtE (some (.int r)) (mk X) σ2) (163, [(0, .ref 0), (1, .int x1), (2, .int x2), (3, .int x3), (4, .long x4), (6, .int x6), (7, .int x7)], [], mk X, σ)
        refine Ex.blk 1000 rfl ?_
        show Ex mr_X9_astray sc (Cl MT pr sc (d + 3)) (rtE (some (.int r)) (mk X) σ2) (164, [(0, .ref 0), (1, .int x1), (2, .int x2), (3, .int x3), (4, .long x4), (6, .int x6), (7, .int x7)], [.int (-1)], mk X, σ)
        refine Ex.pick (lv' := _) [] rfl ?_
        exact lk_X9_astray_164 d _ _ h
    · refine And.intro (fun hp => absurd hp c1) (fun _ => ?_)
      show Ex mr_X9_astray sc (Cl MT pr sc (d + 3)) (rtE (some (.int r)) (mk X) σ2) (55, [(0, .ref 0), (1, .int x1), (2, .int x2), (3, .int x3), (4, .long x4), (6, .int x6), (7, .int x7)], [], mk X, σ)
      refine Ex.blk 5 rfl ?_
      obtain ⟨p3, hp3, h⟩ := bind_sp h
      refine Exists.intro (some (.int p3.1)) (Exists.intro (mk X) (Exists.intro p3.2 (And.intro (cl_X7_seen_1 (d + 1) hp3) ?_)))
      show Ex mr_X9_astray sc (Cl MT pr sc (d + 3)) (rtE (some (.int r)) (mk X) σ2) (66, [(0, .ref 0), (1, .int x1), (2, .int x2), (3, .int x3), (4, .long x4), (6, .int x6), (7, .int x7)], [.int p3.1, .long x4], mk X, p3.2)
      refine Ex.blk 4 rfl ?_
      obtain ⟨g3, h⟩ := gd_some h
      refine And.intro (inb_ok g3) ?_
      show Ex mr_X9_astray sc (Cl MT pr sc (d + 3)) (rtE (some (.int r)) (mk X) σ2) (73, [(0, .ref 0), (1, .int x1), (2, .int x2), (3, .int x3), (4, .long x4), (6, .int x6), (7, .int x7)], [.long (tens x7.toNatClampNeg), .long p3.1.toInt64, .long x4], mk X, p3.2)
      refine Ex.blk 3 rfl ?_
      show Ex mr_X9_astray sc (Cl MT pr sc (d + 3)) (rtE (some (.int r)) (mk X) σ2) (77, [(8, .long (x4 - (p3.1.toInt64 * (tens x7.toNatClampNeg)))), (0, .ref 0), (1, .int x1), (2, .int x2), (3, .int x3), (4, .long x4), (6, .int x6), (7, .int x7)], [], mk X, p3.2)
      refine Ex.pick (lv' := _) [1, 2, 3, 4, 5, 6, 7, 0] rfl ?_
      exact lk_X9_astray_77 d _ ih _ _ _ _ _ _ _ _ h
theorem cl_X9_astray {pr : Ct} {sc : Nat × (Nat → Int32)} {X : En} (d : Nat) {r : Int32} {σ2 : St} {x1 : Int32} {x2 : Int32} {x3 : Int32} {σ : St} (h : f_X9_astray x1 x2 x3 σ = some (r, σ2)) : Cl MT pr sc (d + 3 + 1) 115 [.ref 0, .int x1, .int x2, .int x3] (mk X) σ (some (.int r)) (mk X) σ2 := by
  refine cl_of mr_X9_astray rfl rfl ?_
  unfold f_X9_astray at h
  refine Ex.blk 3 rfl ?_
  obtain ⟨p1, hp1, h⟩ := bind_sp h
  refine Exists.intro (some (.int p1.1)) (Exists.intro (mk X) (Exists.intro p1.2 (And.intro (cl_X9_isRest (d + 2) hp1) ?_)))
  show Ex mr_X9_astray sc (Cl MT pr sc (d + 3)) (rtE (some (.int r)) (mk X) σ2) (5, [(0, .ref 0), (1, .int x1), (2, .int x2), (3, .int x3)], [.int p1.1], mk X, p1.2)
  refine Ex.blk 1000 rfl ?_
  rcases ite_sp h with ⟨c1, h⟩ | ⟨c1, h⟩
  · refine And.intro (fun _ => ?_) (fun hn => absurd c1 hn)
    show Ex mr_X9_astray sc (Cl MT pr sc (d + 3)) (rtE (some (.int r)) (mk X) σ2) (13, [(0, .ref 0), (1, .int x1), (2, .int x2), (3, .int x3)], [], mk X, p1.2)
    refine Ex.pick (lv' := _) [] rfl ?_
    exact lk_X9_astray_13 d _ h
  · refine And.intro (fun hp => absurd hp c1) (fun _ => ?_)
    show Ex mr_X9_astray sc (Cl MT pr sc (d + 3)) (rtE (some (.int r)) (mk X) σ2) (8, [(0, .ref 0), (1, .int x1), (2, .int x2), (3, .int x3)], [], mk X, p1.2)
    refine Ex.blk 1000 rfl ?_
    rcases ite_sp h with ⟨c2, h⟩ | ⟨c2, h⟩
    · refine And.intro (fun _ => ?_) (fun hn => absurd c2 hn)
      show Ex mr_X9_astray sc (Cl MT pr sc (d + 3)) (rtE (some (.int r)) (mk X) σ2) (15, [(0, .ref 0), (1, .int x1), (2, .int x2), (3, .int x3)], [], mk X, p1.2)
      refine Ex.blk 1000 rfl ?_
      rcases ite_sp h with ⟨c3, h⟩ | ⟨c3, h⟩
      · refine And.intro (fun _ => ?_) (fun hn => absurd c3 hn)
        show Ex mr_X9_astray sc (Cl MT pr sc (d + 3)) (rtE (some (.int r)) (mk X) σ2) (28, [(0, .ref 0), (1, .int x1), (2, .int x2), (3, .int x3)], [], mk X, p1.2)
        refine Ex.blk 3 rfl ?_
        obtain ⟨p2, hp2, h⟩ := bind_sp h
        refine Exists.intro (some (.long p2.1)) (Exists.intro (mk X) (Exists.intro p2.2 (And.intro (cl_X7_valueSeen_1 (d + 0) hp2) ?_)))
        show Ex mr_X9_astray sc (Cl MT pr sc (d + 3)) (rtE (some (.int r)) (mk X) σ2) (35, [(0, .ref 0), (1, .int x1), (2, .int x2), (3, .int x3)], [.long p2.1], mk X, p2.2)
        refine Ex.blk 1000 rfl ?_
        show Ex mr_X9_astray sc (Cl MT pr sc (d + 3)) (rtE (some (.int r)) (mk X) σ2) (43, [(7, .int 0), (6, .int 0), (4, .long p2.1), (0, .ref 0), (1, .int x1), (2, .int x2), (3, .int x3)], [], mk X, p2.2)
        refine Ex.pick (lv' := _) [3, 4, 5, 6, 2, 1, 0] rfl ?_
        exact lk_X9_astray_43 d FU _ _ _ _ _ _ _ h
      · refine And.intro (fun hp => absurd hp c3) (fun _ => ?_)
        show Ex mr_X9_astray sc (Cl MT pr sc (d + 3)) (rtE (some (.int r)) (mk X) σ2) (25, [(0, .ref 0), (1, .int x1), (2, .int x2), (3, .int x3)], [], mk X, p1.2)
        refine Ex.blk 1000 rfl ?_
        cases h
        exact And.intro trivial ⟨rfl, rfl, rfl⟩
    · refine And.intro (fun hp => absurd hp c2) (fun _ => ?_)
      show Ex mr_X9_astray sc (Cl MT pr sc (d + 3)) (rtE (some (.int r)) (mk X) σ2) (13, [(0, .ref 0), (1, .int x1), (2, .int x2), (3, .int x3)], [], mk X, p1.2)
      refine Ex.pick (lv' := _) [] rfl ?_
      exact lk_X9_astray_13 d _ h
theorem lk_X9_harvest_19 {pr : Ct} {sc : Nat × (Nat → Int32)} {X : En} (d : Nat) {r : Int32} {σ2 : St} (σ : St) (h : f_X9_harvest_19 σ = some (r, σ2)) : Ex mr_X9_harvest sc (Cl MT pr sc (d + 1)) (rtE (some (.int r)) (mk X) σ2) (19, [], [], mk X, σ) := by
  unfold f_X9_harvest_19 at h
  refine Ex.blk 1000 rfl ?_
  cases h
  exact And.intro trivial ⟨rfl, rfl, rfl⟩
theorem cl_X9_harvest {pr : Ct} {sc : Nat × (Nat → Int32)} {X : En} (d : Nat) {r : Int32} {σ2 : St} {x1 : Int32} {σ : St} (h : f_X9_harvest x1 σ = some (r, σ2)) : Cl MT pr sc (d + 1 + 1) 116 [.ref 0, .int x1] (mk X) σ (some (.int r)) (mk X) σ2 := by
  refine cl_of mr_X9_harvest rfl rfl ?_
  unfold f_X9_harvest at h
  refine Ex.blk 2 rfl ?_
  obtain ⟨p1, hp1, h⟩ := bind_sp h
  refine Exists.intro (some (.int p1.1)) (Exists.intro (mk X) (Exists.intro p1.2 (And.intro (cl_X9_isNumber (d + 0) hp1) ?_)))
  show Ex mr_X9_harvest sc (Cl MT pr sc (d + 1)) (rtE (some (.int r)) (mk X) σ2) (4, [(0, .ref 0), (1, .int x1)], [.int p1.1], mk X, p1.2)
  refine Ex.blk 1000 rfl ?_
  rcases ite_sp h with ⟨c1, h⟩ | ⟨c1, h⟩
  · refine And.intro (fun _ => ?_) (fun hn => absurd c1 hn)
    show Ex mr_X9_harvest sc (Cl MT pr sc (d + 1)) (rtE (some (.int r)) (mk X) σ2) (19, [(0, .ref 0), (1, .int x1)], [], mk X, p1.2)
    refine Ex.pick (lv' := _) [] rfl ?_
    exact lk_X9_harvest_19 d _ h
  · refine And.intro (fun hp => absurd hp c1) (fun _ => ?_)
    show Ex mr_X9_harvest sc (Cl MT pr sc (d + 1)) (rtE (some (.int r)) (mk X) σ2) (7, [(0, .ref 0), (1, .int x1)], [], mk X, p1.2)
    refine Ex.blk 1000 rfl ?_
    rcases ite_sp h with ⟨c2, h⟩ | ⟨c2, h⟩
    · refine And.intro (fun _ => ?_) (fun hn => absurd c2 hn)
      show Ex mr_X9_harvest sc (Cl MT pr sc (d + 1)) (rtE (some (.int r)) (mk X) σ2) (21, [(0, .ref 0), (1, .int x1)], [], mk X, p1.2)
      refine Ex.blk 4 rfl ?_
      obtain ⟨p2, hp2, h⟩ := bind_sp h
      refine Exists.intro none (Exists.intro (mk X) (Exists.intro p2 (And.intro (cl_X3_bringIn (d + 0) hp2) ?_)))
      show Ex mr_X9_harvest sc (Cl MT pr sc (d + 1)) (rtE (some (.int r)) (mk X) σ2) (29, [(0, .ref 0), (1, .int x1)], [], mk X, p2)
      refine Ex.blk 1000 rfl ?_
      cases h
      exact And.intro trivial ⟨rfl, rfl, rfl⟩
    · refine And.intro (fun hp => absurd hp c2) (fun _ => ?_)
      show Ex mr_X9_harvest sc (Cl MT pr sc (d + 1)) (rtE (some (.int r)) (mk X) σ2) (19, [(0, .ref 0), (1, .int x1)], [], mk X, p1.2)
      refine Ex.pick (lv' := _) [] rfl ?_
      exact lk_X9_harvest_19 d _ h
theorem lk_X9_added_89 {pr : Ct} {sc : Nat × (Nat → Int32)} {X : En} (d : Nat) {r : Int32} {σ2 : St} (y0 : Int32) (σ : St) (h : f_X9_added_89 y0 σ = some (r, σ2)) : Ex mr_X9_added sc (Cl MT pr sc (d + 3)) (rtE (some (.int r)) (mk X) σ2) (89, [], [.int y0], mk X, σ) := by
  unfold f_X9_added_89 at h
  refine Ex.blk 1000 rfl ?_
  cases h
  exact And.intro trivial ⟨rfl, rfl, rfl⟩
theorem lk_X9_added_72 {pr : Ct} {sc : Nat × (Nat → Int32)} {X : En} (d : Nat) {r : Int32} {σ2 : St} (k34 : Int32 → Int64 → Int32 → Int32 → St → Option (Int32 × St)) (hk34 : ∀ (x1 : Int32) (x2 : Int64) (x4 : Int32) (x5 : Int32) (σ : St), k34 x1 x2 x4 x5 σ = some (r, σ2) → Ex mr_X9_added sc (Cl MT pr sc (d + 3)) (rtE (some (.int r)) (mk X) σ2) (34, [(0, .ref 0), (1, .int x1), (2, .long x2), (4, .int x4), (5, .int x5)], [], mk X, σ)) (x1 : Int32) (x2 : Int64) (x4 : Int32) (x5 : Int32) (σ : St) (h : f_X9_added_72 k34 x1 x2 x4 x5 σ = some (r, σ2)) : Ex mr_X9_added sc (Cl MT pr sc (d + 3)) (rtE (some (.int r)) (mk X) σ2) (72, [(0, .ref 0), (1, .int x1), (2, .long x2), (4, .int x4), (5, .int x5)], [], mk X, σ) := by
  unfold f_X9_added_72 at h
  refine Ex.blk 1000 rfl ?_
  show Ex mr_X9_added sc (Cl MT pr sc (d + 3)) (rtE (some (.int r)) (mk X) σ2) (34, [(5, .int (x5 + 1)), (0, .ref 0), (1, .int x1), (2, .long x2), (4, .int x4)], [], mk X, σ)
  refine Ex.pick (lv' := _) [1, 2, 3, 4, 0] rfl ?_
  exact hk34 _ _ _ _ _ h
theorem lk_X9_added_34 {pr : Ct} {sc : Nat × (Nat → Int32)} {X : En} (d : Nat) {r : Int32} {σ2 : St} : ∀ (n : Nat) (x1 : Int32) (x2 : Int64) (x4 : Int32) (x5 : Int32) (σ : St), f_X9_added_34 n x1 x2 x4 x5 σ = some (r, σ2) → Ex mr_X9_added sc (Cl MT pr sc (d + 3)) (rtE (some (.int r)) (mk X) σ2) (34, [(0, .ref 0), (1, .int x1), (2, .long x2), (4, .int x4), (5, .int x5)], [], mk X, σ) := by
  intro n
  induction n with
  | zero =>
    intro x1 x2 x4 x5 σ h
    cases h
  | succ n ih =>
    intro x1 x2 x4 x5 σ h
    simp only [f_X9_added_34] at h
    refine Ex.blk 4 rfl ?_
    obtain ⟨p2, hp2, h⟩ := bind_sp h
    refine Exists.intro (some (.int p2.1)) (Exists.intro (mk X) (Exists.intro p2.2 (And.intro (cl_X3_sets (d + 2) hp2) ?_)))
    show Ex mr_X9_added sc (Cl MT pr sc (d + 3)) (rtE (some (.int r)) (mk X) σ2) (43, [(0, .ref 0), (1, .int x1), (2, .long x2), (4, .int x4), (5, .int x5)], [.int p2.1, .int x5], mk X, p2.2)
    refine Ex.blk 1000 rfl ?_
    rcases ite_sp h with ⟨c1, h⟩ | ⟨c1, h⟩
    · refine And.intro (fun _ => ?_) (fun hn => absurd c1 hn)
      show Ex mr_X9_added sc (Cl MT pr sc (d + 3)) (rtE (some (.int r)) (mk X) σ2) (78, [(0, .ref 0), (1, .int x1), (2, .long x2), (4, .int x4), (5, .int x5)], [], mk X, p2.2)
      refine Ex.blk 1000 rfl ?_
      rcases ite_sp h with ⟨c2, h⟩ | ⟨c2, h⟩
      · refine And.intro (fun hp => absurd c2 hp) (fun _ => ?_)
        show Ex mr_X9_added sc (Cl MT pr sc (d + 3)) (rtE (some (.int r)) (mk X) σ2) (83, [(0, .ref 0), (1, .int x1), (2, .long x2), (4, .int x4), (5, .int x5)], [], mk X, p2.2)
        refine Ex.blk 1000 rfl ?_
        show Ex mr_X9_added sc (Cl MT pr sc (d + 3)) (rtE (some (.int r)) (mk X) σ2) (89, [(0, .ref 0), (1, .int x1), (2, .long x2), (4, .int x4), (5, .int x5)], [.int x4], mk X, p2.2)
        refine Ex.pick (lv' := _) [] rfl ?_
        exact lk_X9_added_89 d _ _ h
      · refine And.intro (fun _ => ?_) (fun hn => absurd c2 hn)
        show Ex mr_X9_added sc (Cl MT pr sc (d + 3)) (rtE (some (.int r)) (mk X) σ2) (88, [(0, .ref 0), (1, .int x1), (2, .long x2), (4, .int x4), (5, .int x5)], [], mk X, p2.2)
        refine Ex.blk 1000 rfl ?_
        show Ex mr_X9_added sc (Cl MT pr sc (d + 3)) (rtE (some (.int r)) (mk X) σ2) (89, [(0, .ref 0), (1, .int x1), (2, .long x2), (4, .int x4), (5, .int x5)], [.int (-1)], mk X, p2.2)
        refine Ex.pick (lv' := _) [] rfl ?_
        exact lk_X9_added_89 d _ _ h
    · refine And.intro (fun hp => absurd hp c1) (fun _ => ?_)
      show Ex mr_X9_added sc (Cl MT pr sc (d + 3)) (rtE (some (.int r)) (mk X) σ2) (46, [(0, .ref 0), (1, .int x1), (2, .long x2), (4, .int x4), (5, .int x5)], [], mk X, p2.2)
      refine Ex.blk 4 rfl ?_
      obtain ⟨p3, hp3, h⟩ := bind_sp h
      refine Exists.intro (some (.long p3.1)) (Exists.intro (mk X) (Exists.intro p3.2 (And.intro (cl_X3_sumOf (d + 1) hp3) ?_)))
      show Ex mr_X9_added sc (Cl MT pr sc (d + 3)) (rtE (some (.int r)) (mk X) σ2) (55, [(0, .ref 0), (1, .int x1), (2, .long x2), (4, .int x4), (5, .int x5)], [.long p3.1], mk X, p3.2)
      refine Ex.blk 1000 rfl ?_
      rcases ite_sp h with ⟨c3, h⟩ | ⟨c3, h⟩
      · refine And.intro (fun hp => absurd c3 hp) (fun _ => ?_)
        show Ex mr_X9_added sc (Cl MT pr sc (d + 3)) (rtE (some (.int r)) (mk X) σ2) (60, [(0, .ref 0), (1, .int x1), (2, .long x2), (4, .int x4), (5, .int x5)], [], mk X, p3.2)
        refine Ex.blk 1000 rfl ?_
        rcases ite_sp h with ⟨c4, h⟩ | ⟨c4, h⟩
        · refine And.intro (fun hp => absurd c4 hp) (fun _ => ?_)
          show Ex mr_X9_added sc (Cl MT pr sc (d + 3)) (rtE (some (.int r)) (mk X) σ2) (66, [(0, .ref 0), (1, .int x1), (2, .long x2), (4, .int x4), (5, .int x5)], [], mk X, p3.2)
          refine Ex.blk 1000 rfl ?_
          cases h
          exact And.intro trivial ⟨rfl, rfl, rfl⟩
        · refine And.intro (fun _ => ?_) (fun hn => absurd c4 hn)
          show Ex mr_X9_added sc (Cl MT pr sc (d + 3)) (rtE (some (.int r)) (mk X) σ2) (69, [(0, .ref 0), (1, .int x1), (2, .long x2), (4, .int x4), (5, .int x5)], [], mk X, p3.2)
          refine Ex.blk 1000 rfl ?_
          show Ex mr_X9_added sc (Cl MT pr sc (d + 3)) (rtE (some (.int r)) (mk X) σ2) (72, [(4, .int (x4 + 1)), (0, .ref 0), (1, .int x1), (2, .long x2), (5, .int x5)], [], mk X, p3.2)
          refine Ex.pick (lv' := _) [1, 2, 3, 0, 4] rfl ?_
          exact lk_X9_added_72 d _ ih _ _ _ _ _ h
      · refine And.intro (fun _ => ?_) (fun hn => absurd c3 hn)
        show Ex mr_X9_added sc (Cl MT pr sc (d + 3)) (rtE (some (.int r)) (mk X) σ2) (72, [(0, .ref 0), (1, .int x1), (2, .long x2), (4, .int x4), (5, .int x5)], [], mk X, p3.2)
        exact lk_X9_added_72 d _ ih _ _ _ _ _ h
theorem cl_X9_added {pr : Ct} {sc : Nat × (Nat → Int32)} {X : En} (d : Nat) {r : Int32} {σ2 : St} {x1 : Int32} {σ : St} (h : f_X9_added x1 σ = some (r, σ2)) : Cl MT pr sc (d + 3 + 1) 118 [.ref 0, .int x1] (mk X) σ (some (.int r)) (mk X) σ2 := by
  refine cl_of mr_X9_added rfl rfl ?_
  unfold f_X9_added at h
  refine Ex.blk 1000 rfl ?_
  rcases ite_sp h with ⟨c1, h⟩ | ⟨c1, h⟩
  · refine And.intro (fun _ => ?_) (fun hn => absurd c1 hn)
    show Ex mr_X9_added sc (Cl MT pr sc (d + 3)) (rtE (some (.int r)) (mk X) σ2) (7, [(0, .ref 0), (1, .int x1)], [], mk X, σ)
    refine Ex.blk 1000 rfl ?_
    rcases ite_sp h with ⟨c2, h⟩ | ⟨c2, h⟩
    · refine And.intro (fun _ => ?_) (fun hn => absurd c2 hn)
      show Ex mr_X9_added sc (Cl MT pr sc (d + 3)) (rtE (some (.int r)) (mk X) σ2) (20, [(0, .ref 0), (1, .int x1)], [], mk X, σ)
      refine Ex.blk 3 rfl ?_
      obtain ⟨p1, hp1, h⟩ := bind_sp h
      refine Exists.intro (some (.long p1.1)) (Exists.intro (mk X) (Exists.intro p1.2 (And.intro (cl_X7_valueSeen_1 (d + 0) hp1) ?_)))
      show Ex mr_X9_added sc (Cl MT pr sc (d + 3)) (rtE (some (.int r)) (mk X) σ2) (27, [(0, .ref 0), (1, .int x1)], [.long p1.1], mk X, p1.2)
      refine Ex.blk 1000 rfl ?_
      show Ex mr_X9_added sc (Cl MT pr sc (d + 3)) (rtE (some (.int r)) (mk X) σ2) (34, [(5, .int 0), (4, .int 0), (2, .long p1.1), (0, .ref 0), (1, .int x1)], [], mk X, p1.2)
      refine Ex.pick (lv' := _) [3, 4, 2, 1, 0] rfl ?_
      exact lk_X9_added_34 d FU _ _ _ _ _ h
    · refine And.intro (fun hp => absurd hp c2) (fun _ => ?_)
      show Ex mr_X9_added sc (Cl MT pr sc (d + 3)) (rtE (some (.int r)) (mk X) σ2) (17, [(0, .ref 0), (1, .int x1)], [], mk X, σ)
      refine Ex.blk 1000 rfl ?_
      cases h
      exact And.intro trivial ⟨rfl, rfl, rfl⟩
  · refine And.intro (fun hp => absurd hp c1) (fun _ => ?_)
    show Ex mr_X9_added sc (Cl MT pr sc (d + 3)) (rtE (some (.int r)) (mk X) σ2) (5, [(0, .ref 0), (1, .int x1)], [], mk X, σ)
    refine Ex.blk 1000 rfl ?_
    cases h
    exact And.intro trivial ⟨rfl, rfl, rfl⟩
theorem lk_X9_near_134 {pr : Ct} {sc : Nat × (Nat → Int32)} {X : En} (d : Nat) {r : Int32} {σ2 : St} (k26 : Int64 → Int32 → Int32 → St → Option (Int32 × St)) (k54 : Int64 → Int32 → Int32 → Int64 → Int32 → St → Option (Int32 × St)) (hk26 : ∀ (x1 : Int64) (x3 : Int32) (x4 : Int32) (σ : St), k26 x1 x3 x4 σ = some (r, σ2) → Ex mr_X9_near sc (Cl MT pr sc (d + 3)) (rtE (some (.int r)) (mk X) σ2) (26, [(0, .ref 0), (1, .long x1), (3, .int x3), (4, .int x4)], [], mk X, σ)) (hk54 : ∀ (x1 : Int64) (x3 : Int32) (x4 : Int32) (x5 : Int64) (x7 : Int32) (σ : St), k54 x1 x3 x4 x5 x7 σ = some (r, σ2) → Ex mr_X9_near sc (Cl MT pr sc (d + 3)) (rtE (some (.int r)) (mk X) σ2) (54, [(0, .ref 0), (1, .long x1), (3, .int x3), (4, .int x4), (5, .long x5), (7, .int x7)], [], mk X, σ)) (x1 : Int64) (x3 : Int32) (x4 : Int32) (x5 : Int64) (x7 : Int32) (σ : St) (h : f_X9_near_134 k26 k54 x1 x3 x4 x5 x7 σ = some (r, σ2)) : Ex mr_X9_near sc (Cl MT pr sc (d + 3)) (rtE (some (.int r)) (mk X) σ2) (134, [(0, .ref 0), (1, .long x1), (3, .int x3), (4, .int x4), (5, .long x5), (7, .int x7)], [], mk X, σ) := by
  unfold f_X9_near_134 at h
  refine Ex.blk 1000 rfl ?_
  show Ex mr_X9_near sc (Cl MT pr sc (d + 3)) (rtE (some (.int r)) (mk X) σ2) (54, [(7, .int (x7 + 1)), (0, .ref 0), (1, .long x1), (3, .int x3), (4, .int x4), (5, .long x5)], [], mk X, σ)
  refine Ex.pick (lv' := _) [1, 2, 3, 4, 5, 0] rfl ?_
  exact hk54 _ _ _ _ _ _ h
theorem lk_X9_near_101 {pr : Ct} {sc : Nat × (Nat → Int32)} {X : En} (d : Nat) {r : Int32} {σ2 : St} (k26 : Int64 → Int32 → Int32 → St → Option (Int32 × St)) (k54 : Int64 → Int32 → Int32 → Int64 → Int32 → St → Option (Int32 × St)) (hk26 : ∀ (x1 : Int64) (x3 : Int32) (x4 : Int32) (σ : St), k26 x1 x3 x4 σ = some (r, σ2) → Ex mr_X9_near sc (Cl MT pr sc (d + 3)) (rtE (some (.int r)) (mk X) σ2) (26, [(0, .ref 0), (1, .long x1), (3, .int x3), (4, .int x4)], [], mk X, σ)) (hk54 : ∀ (x1 : Int64) (x3 : Int32) (x4 : Int32) (x5 : Int64) (x7 : Int32) (σ : St), k54 x1 x3 x4 x5 x7 σ = some (r, σ2) → Ex mr_X9_near sc (Cl MT pr sc (d + 3)) (rtE (some (.int r)) (mk X) σ2) (54, [(0, .ref 0), (1, .long x1), (3, .int x3), (4, .int x4), (5, .long x5), (7, .int x7)], [], mk X, σ)) (x1 : Int64) (x3 : Int32) (x4 : Int32) (x5 : Int64) (x7 : Int32) (σ : St) (h : f_X9_near_101 k26 k54 x1 x3 x4 x5 x7 σ = some (r, σ2)) : Ex mr_X9_near sc (Cl MT pr sc (d + 3)) (rtE (some (.int r)) (mk X) σ2) (101, [(0, .ref 0), (1, .long x1), (3, .int x3), (4, .int x4), (5, .long x5), (7, .int x7)], [], mk X, σ) := by
  unfold f_X9_near_101 at h
  refine Ex.blk 4 rfl ?_
  obtain ⟨g1, h⟩ := gd_some h
  refine And.intro (inb_ok g1) ?_
  show Ex mr_X9_near sc (Cl MT pr sc (d + 3)) (rtE (some (.int r)) (mk X) σ2) (109, [(0, .ref 0), (1, .long x1), (3, .int x3), (4, .int x4), (5, .long x5), (7, .int x7)], [.long (tens x7.toNatClampNeg), .long x5], mk X, σ)
  refine Ex.blk 1000 rfl ?_
  rcases ite_sp h with ⟨c2, h⟩ | ⟨c2, h⟩
  · refine And.intro (fun hp => absurd c2 hp) (fun _ => ?_)
    show Ex mr_X9_near sc (Cl MT pr sc (d + 3)) (rtE (some (.int r)) (mk X) σ2) (114, [(0, .ref 0), (1, .long x1), (3, .int x3), (4, .int x4), (5, .long x5), (7, .int x7)], [], mk X, σ)
    refine Ex.blk 4 rfl ?_
    obtain ⟨p4, hp4, h⟩ := bind_sp h
    refine Exists.intro (some (.int p4.1)) (Exists.intro (mk X) (Exists.intro p4.2 (And.intro (cl_X7_seen_1 (d + 1) hp4) ?_)))
    show Ex mr_X9_near sc (Cl MT pr sc (d + 3)) (rtE (some (.int r)) (mk X) σ2) (123, [(0, .ref 0), (1, .long x1), (3, .int x3), (4, .int x4), (5, .long x5), (7, .int x7)], [.int p4.1], mk X, p4.2)
    refine Ex.blk 3 rfl ?_
    obtain ⟨p5, hp5, h⟩ := bind_sp h
    refine Exists.intro (some (.int p5.1)) (Exists.intro (mk X) (Exists.intro p5.2 (And.intro (cl_X9_isDigit (d + 2) hp5) ?_)))
    show Ex mr_X9_near sc (Cl MT pr sc (d + 3)) (rtE (some (.int r)) (mk X) σ2) (128, [(0, .ref 0), (1, .long x1), (3, .int x3), (4, .int x4), (5, .long x5), (7, .int x7)], [.int p5.1], mk X, p5.2)
    refine Ex.blk 1000 rfl ?_
    rcases ite_sp h with ⟨c3, h⟩ | ⟨c3, h⟩
    · refine And.intro (fun _ => ?_) (fun hn => absurd c3 hn)
      show Ex mr_X9_near sc (Cl MT pr sc (d + 3)) (rtE (some (.int r)) (mk X) σ2) (134, [(0, .ref 0), (1, .long x1), (3, .int x3), (4, .int x4), (5, .long x5), (7, .int x7)], [], mk X, p5.2)
      exact lk_X9_near_134 d _ _ hk26 hk54 _ _ _ _ _ _ h
    · refine And.intro (fun hp => absurd hp c3) (fun _ => ?_)
      show Ex mr_X9_near sc (Cl MT pr sc (d + 3)) (rtE (some (.int r)) (mk X) σ2) (131, [(0, .ref 0), (1, .long x1), (3, .int x3), (4, .int x4), (5, .long x5), (7, .int x7)], [], mk X, p5.2)
      refine Ex.blk 1000 rfl ?_
      show Ex mr_X9_near sc (Cl MT pr sc (d + 3)) (rtE (some (.int r)) (mk X) σ2) (134, [(3, .int (x3 + 1)), (0, .ref 0), (1, .long x1), (4, .int x4), (5, .long x5), (7, .int x7)], [], mk X, p5.2)
      refine Ex.pick (lv' := _) [1, 2, 0, 3, 4, 5] rfl ?_
      exact lk_X9_near_134 d _ _ hk26 hk54 _ _ _ _ _ _ h
  · refine And.intro (fun _ => ?_) (fun hn => absurd c2 hn)
    show Ex mr_X9_near sc (Cl MT pr sc (d + 3)) (rtE (some (.int r)) (mk X) σ2) (134, [(0, .ref 0), (1, .long x1), (3, .int x3), (4, .int x4), (5, .long x5), (7, .int x7)], [], mk X, σ)
    exact lk_X9_near_134 d _ _ hk26 hk54 _ _ _ _ _ _ h
theorem lk_X9_near_54 {pr : Ct} {sc : Nat × (Nat → Int32)} {X : En} (d : Nat) {r : Int32} {σ2 : St} (k26 : Int64 → Int32 → Int32 → St → Option (Int32 × St)) (hk26 : ∀ (x1 : Int64) (x3 : Int32) (x4 : Int32) (σ : St), k26 x1 x3 x4 σ = some (r, σ2) → Ex mr_X9_near sc (Cl MT pr sc (d + 3)) (rtE (some (.int r)) (mk X) σ2) (26, [(0, .ref 0), (1, .long x1), (3, .int x3), (4, .int x4)], [], mk X, σ)) : ∀ (n : Nat) (x1 : Int64) (x3 : Int32) (x4 : Int32) (x5 : Int64) (x7 : Int32) (σ : St), f_X9_near_54 k26 n x1 x3 x4 x5 x7 σ = some (r, σ2) → Ex mr_X9_near sc (Cl MT pr sc (d + 3)) (rtE (some (.int r)) (mk X) σ2) (54, [(0, .ref 0), (1, .long x1), (3, .int x3), (4, .int x4), (5, .long x5), (7, .int x7)], [], mk X, σ) := by
  intro n
  induction n with
  | zero =>
    intro x1 x3 x4 x5 x7 σ h
    cases h
  | succ n ih =>
    intro x1 x3 x4 x5 x7 σ h
    simp only [f_X9_near_54] at h
    refine Ex.blk 1000 rfl ?_
    rcases ite_sp h with ⟨c1, h⟩ | ⟨c1, h⟩
    · refine And.intro (fun _ => ?_) (fun hn => absurd c1 hn)
      show Ex mr_X9_near sc (Cl MT pr sc (d + 3)) (rtE (some (.int r)) (mk X) σ2) (140, [(0, .ref 0), (1, .long x1), (3, .int x3), (4, .int x4), (5, .long x5), (7, .int x7)], [], mk X, σ)
      refine Ex.blk 1000 rfl ?_
      show Ex mr_X9_near sc (Cl MT pr sc (d + 3)) (rtE (some (.int r)) (mk X) σ2) (26, [(4, .int (x4 + 1)), (0, .ref 0), (1, .long x1), (3, .int x3), (5, .long x5), (7, .int x7)], [], mk X, σ)
      refine Ex.pick (lv' := _) [1, 2, 3, 0] rfl ?_
      exact hk26 _ _ _ _ h
    · refine And.intro (fun hp => absurd hp c1) (fun _ => ?_)
      show Ex mr_X9_near sc (Cl MT pr sc (d + 3)) (rtE (some (.int r)) (mk X) σ2) (66, [(0, .ref 0), (1, .long x1), (3, .int x3), (4, .int x4), (5, .long x5), (7, .int x7)], [], mk X, σ)
      refine Ex.blk 4 rfl ?_
      obtain ⟨g2, h⟩ := gd_some h
      refine And.intro (inb_ok g2) ?_
      show Ex mr_X9_near sc (Cl MT pr sc (d + 3)) (rtE (some (.int r)) (mk X) σ2) (74, [(0, .ref 0), (1, .long x1), (3, .int x3), (4, .int x4), (5, .long x5), (7, .int x7)], [.long (tens x7.toNatClampNeg), .long x5], mk X, σ)
      refine Ex.blk 1000 rfl ?_
      rcases ite_sp h with ⟨c3, h⟩ | ⟨c3, h⟩
      · refine And.intro (fun hp => absurd c3 hp) (fun _ => ?_)
        show Ex mr_X9_near sc (Cl MT pr sc (d + 3)) (rtE (some (.int r)) (mk X) σ2) (78, [(0, .ref 0), (1, .long x1), (3, .int x3), (4, .int x4), (5, .long x5), (7, .int x7)], [], mk X, σ)
        refine Ex.blk 4 rfl ?_
        obtain ⟨p6, hp6, h⟩ := bind_sp h
        refine Exists.intro (some (.int p6.1)) (Exists.intro (mk X) (Exists.intro p6.2 (And.intro (cl_X7_seen_1 (d + 1) hp6) ?_)))
        show Ex mr_X9_near sc (Cl MT pr sc (d + 3)) (rtE (some (.int r)) (mk X) σ2) (87, [(0, .ref 0), (1, .long x1), (3, .int x3), (4, .int x4), (5, .long x5), (7, .int x7)], [.int p6.1], mk X, p6.2)
        refine Ex.blk 3 rfl ?_
        obtain ⟨p7, hp7, h⟩ := bind_sp h
        refine Exists.intro (some (.int p7.1)) (Exists.intro (mk X) (Exists.intro p7.2 (And.intro (cl_X9_isDigit (d + 2) hp7) ?_)))
        show Ex mr_X9_near sc (Cl MT pr sc (d + 3)) (rtE (some (.int r)) (mk X) σ2) (92, [(0, .ref 0), (1, .long x1), (3, .int x3), (4, .int x4), (5, .long x5), (7, .int x7)], [.int p7.1], mk X, p7.2)
        refine Ex.blk 1000 rfl ?_
        rcases ite_sp h with ⟨c4, h⟩ | ⟨c4, h⟩
        · refine And.intro (fun _ => ?_) (fun hn => absurd c4 hn)
          show Ex mr_X9_near sc (Cl MT pr sc (d + 3)) (rtE (some (.int r)) (mk X) σ2) (101, [(0, .ref 0), (1, .long x1), (3, .int x3), (4, .int x4), (5, .long x5), (7, .int x7)], [], mk X, p7.2)
          exact lk_X9_near_101 d _ _ hk26 ih _ _ _ _ _ _ h
        · refine And.intro (fun hp => absurd hp c4) (fun _ => ?_)
          show Ex mr_X9_near sc (Cl MT pr sc (d + 3)) (rtE (some (.int r)) (mk X) σ2) (95, [(0, .ref 0), (1, .long x1), (3, .int x3), (4, .int x4), (5, .long x5), (7, .int x7)], [], mk X, p7.2)
          refine Ex.blk 1000 rfl ?_
          show Ex mr_X9_near sc (Cl MT pr sc (d + 3)) (rtE (some (.int r)) (mk X) σ2) (134, [(3, .int (x3 + 1)), (0, .ref 0), (1, .long x1), (4, .int x4), (5, .long x5), (7, .int x7)], [], mk X, p7.2)
          refine Ex.pick (lv' := _) [1, 2, 0, 3, 4, 5] rfl ?_
          exact lk_X9_near_134 d _ _ hk26 ih _ _ _ _ _ _ h
      · refine And.intro (fun _ => ?_) (fun hn => absurd c3 hn)
        show Ex mr_X9_near sc (Cl MT pr sc (d + 3)) (rtE (some (.int r)) (mk X) σ2) (101, [(0, .ref 0), (1, .long x1), (3, .int x3), (4, .int x4), (5, .long x5), (7, .int x7)], [], mk X, σ)
        exact lk_X9_near_101 d _ _ hk26 ih _ _ _ _ _ _ h
theorem lk_X9_near_51 {pr : Ct} {sc : Nat × (Nat → Int32)} {X : En} (d : Nat) {r : Int32} {σ2 : St} (k26 : Int64 → Int32 → Int32 → St → Option (Int32 × St)) (hk26 : ∀ (x1 : Int64) (x3 : Int32) (x4 : Int32) (σ : St), k26 x1 x3 x4 σ = some (r, σ2) → Ex mr_X9_near sc (Cl MT pr sc (d + 3)) (rtE (some (.int r)) (mk X) σ2) (26, [(0, .ref 0), (1, .long x1), (3, .int x3), (4, .int x4)], [], mk X, σ)) (x1 : Int64) (x3 : Int32) (x4 : Int32) (x5 : Int64) (σ : St) (h : f_X9_near_51 k26 x1 x3 x4 x5 σ = some (r, σ2)) : Ex mr_X9_near sc (Cl MT pr sc (d + 3)) (rtE (some (.int r)) (mk X) σ2) (51, [(0, .ref 0), (1, .long x1), (3, .int x3), (4, .int x4), (5, .long x5)], [], mk X, σ) := by
  unfold f_X9_near_51 at h
  refine Ex.blk 1000 rfl ?_
  show Ex mr_X9_near sc (Cl MT pr sc (d + 3)) (rtE (some (.int r)) (mk X) σ2) (54, [(7, .int 0), (0, .ref 0), (1, .long x1), (3, .int x3), (4, .int x4), (5, .long x5)], [], mk X, σ)
  refine Ex.pick (lv' := _) [1, 2, 3, 4, 5, 0] rfl ?_
  exact lk_X9_near_54 d _ hk26 FU _ _ _ _ _ _ h
theorem lk_X9_near_26 {pr : Ct} {sc : Nat × (Nat → Int32)} {X : En} (d : Nat) {r : Int32} {σ2 : St} : ∀ (n : Nat) (x1 : Int64) (x3 : Int32) (x4 : Int32) (σ : St), f_X9_near_26 n x1 x3 x4 σ = some (r, σ2) → Ex mr_X9_near sc (Cl MT pr sc (d + 3)) (rtE (some (.int r)) (mk X) σ2) (26, [(0, .ref 0), (1, .long x1), (3, .int x3), (4, .int x4)], [], mk X, σ) := by
  intro n
  induction n with
  | zero =>
    intro x1 x3 x4 σ h
    cases h
  | succ n ih =>
    intro x1 x3 x4 σ h
    simp only [f_X9_near_26] at h
    refine Ex.blk 4 rfl ?_
    obtain ⟨p2, hp2, h⟩ := bind_sp h
    refine Exists.intro (some (.int p2.1)) (Exists.intro (mk X) (Exists.intro p2.2 (And.intro (cl_X3_sets (d + 2) hp2) ?_)))
    show Ex mr_X9_near sc (Cl MT pr sc (d + 3)) (rtE (some (.int r)) (mk X) σ2) (35, [(0, .ref 0), (1, .long x1), (3, .int x3), (4, .int x4)], [.int p2.1, .int x4], mk X, p2.2)
    refine Ex.blk 1000 rfl ?_
    rcases ite_sp h with ⟨c1, h⟩ | ⟨c1, h⟩
    · refine And.intro (fun _ => ?_) (fun hn => absurd c1 hn)
      show Ex mr_X9_near sc (Cl MT pr sc (d + 3)) (rtE (some (.int r)) (mk X) σ2) (146, [(0, .ref 0), (1, .long x1), (3, .int x3), (4, .int x4)], [], mk X, p2.2)
      refine Ex.blk 1000 rfl ?_
      cases h
      exact And.intro trivial ⟨rfl, rfl, rfl⟩
    · refine And.intro (fun hp => absurd hp c1) (fun _ => ?_)
      show Ex mr_X9_near sc (Cl MT pr sc (d + 3)) (rtE (some (.int r)) (mk X) σ2) (38, [(0, .ref 0), (1, .long x1), (3, .int x3), (4, .int x4)], [], mk X, p2.2)
      refine Ex.blk 4 rfl ?_
      obtain ⟨p3, hp3, h⟩ := bind_sp h
      refine Exists.intro (some (.long p3.1)) (Exists.intro (mk X) (Exists.intro p3.2 (And.intro (cl_X3_sumOf (d + 1) hp3) ?_)))
      show Ex mr_X9_near sc (Cl MT pr sc (d + 3)) (rtE (some (.int r)) (mk X) σ2) (47, [(0, .ref 0), (1, .long x1), (3, .int x3), (4, .int x4)], [.long p3.1], mk X, p3.2)
      refine Ex.blk 3 rfl ?_
      show Ex mr_X9_near sc (Cl MT pr sc (d + 3)) (rtE (some (.int r)) (mk X) σ2) (51, [(5, .long (p3.1 - x1)), (0, .ref 0), (1, .long x1), (3, .int x3), (4, .int x4)], [], mk X, p3.2)
      refine Ex.pick (lv' := _) [1, 2, 3, 4, 0] rfl ?_
      exact lk_X9_near_51 d _ ih _ _ _ _ _ h
theorem cl_X9_near {pr : Ct} {sc : Nat × (Nat → Int32)} {X : En} (d : Nat) {r : Int32} {σ2 : St} {σ : St} (h : f_X9_near σ = some (r, σ2)) : Cl MT pr sc (d + 3 + 1) 119 [.ref 0] (mk X) σ (some (.int r)) (mk X) σ2 := by
  refine cl_of mr_X9_near rfl rfl ?_
  unfold f_X9_near at h
  refine Ex.blk 1000 rfl ?_
  rcases ite_sp h with ⟨c1, h⟩ | ⟨c1, h⟩
  · refine And.intro (fun _ => ?_) (fun hn => absurd c1 hn)
    show Ex mr_X9_near sc (Cl MT pr sc (d + 3)) (rtE (some (.int r)) (mk X) σ2) (13, [(0, .ref 0)], [], mk X, σ)
    refine Ex.blk 3 rfl ?_
    obtain ⟨p1, hp1, h⟩ := bind_sp h
    refine Exists.intro (some (.long p1.1)) (Exists.intro (mk X) (Exists.intro p1.2 (And.intro (cl_X7_valueSeen_1 (d + 0) hp1) ?_)))
    show Ex mr_X9_near sc (Cl MT pr sc (d + 3)) (rtE (some (.int r)) (mk X) σ2) (20, [(0, .ref 0)], [.long p1.1], mk X, p1.2)
    refine Ex.blk 1000 rfl ?_
    show Ex mr_X9_near sc (Cl MT pr sc (d + 3)) (rtE (some (.int r)) (mk X) σ2) (26, [(4, .int 0), (3, .int 0), (1, .long p1.1), (0, .ref 0)], [], mk X, p1.2)
    refine Ex.pick (lv' := _) [3, 2, 1, 0] rfl ?_
    exact lk_X9_near_26 d FU _ _ _ _ h
  · refine And.intro (fun hp => absurd hp c1) (fun _ => ?_)
    show Ex mr_X9_near sc (Cl MT pr sc (d + 3)) (rtE (some (.int r)) (mk X) σ2) (10, [(0, .ref 0)], [], mk X, σ)
    refine Ex.blk 1000 rfl ?_
    cases h
    exact And.intro trivial ⟨rfl, rfl, rfl⟩
theorem lk_X9_as_14 {pr : Ct} {sc : Nat × (Nat → Int32)} {X : En} (d : Nat) {r : Int32} {σ2 : St} (σ : St) (h : f_X9_as_14 σ = some (r, σ2)) : Ex mr_X9_as sc (Cl MT pr sc (d + 2)) (rtE (some (.int r)) (mk X) σ2) (14, [], [], mk X, σ) := by
  unfold f_X9_as_14 at h
  refine Ex.blk 1000 rfl ?_
  cases h
  exact And.intro trivial ⟨rfl, rfl, rfl⟩
theorem cl_X9_as {pr : Ct} {sc : Nat × (Nat → Int32)} {X : En} (d : Nat) {r : Int32} {σ2 : St} {x1 : Int32} {x2 : Int32} {σ : St} (h : f_X9_as x1 x2 σ = some (r, σ2)) : Cl MT pr sc (d + 2 + 1) 120 [.ref 0, .int x1, .int x2] (mk X) σ (some (.int r)) (mk X) σ2 := by
  refine cl_of mr_X9_as rfl rfl ?_
  unfold f_X9_as at h
  refine Ex.blk 2 rfl ?_
  obtain ⟨p1, hp1, h⟩ := bind_sp h
  refine Exists.intro (some (.int p1.1)) (Exists.intro (mk X) (Exists.intro p1.2 (And.intro (cl_X9_isNumber (d + 1) hp1) ?_)))
  show Ex mr_X9_as sc (Cl MT pr sc (d + 2)) (rtE (some (.int r)) (mk X) σ2) (4, [(0, .ref 0), (1, .int x1), (2, .int x2)], [.int p1.1], mk X, p1.2)
  refine Ex.blk 1000 rfl ?_
  rcases ite_sp h with ⟨c1, h⟩ | ⟨c1, h⟩
  · refine And.intro (fun _ => ?_) (fun hn => absurd c1 hn)
    show Ex mr_X9_as sc (Cl MT pr sc (d + 2)) (rtE (some (.int r)) (mk X) σ2) (14, [(0, .ref 0), (1, .int x1), (2, .int x2)], [], mk X, p1.2)
    refine Ex.pick (lv' := _) [] rfl ?_
    exact lk_X9_as_14 d _ h
  · refine And.intro (fun hp => absurd hp c1) (fun _ => ?_)
    show Ex mr_X9_as sc (Cl MT pr sc (d + 2)) (rtE (some (.int r)) (mk X) σ2) (7, [(0, .ref 0), (1, .int x1), (2, .int x2)], [], mk X, p1.2)
    refine Ex.blk 2 rfl ?_
    obtain ⟨p2, hp2, h⟩ := bind_sp h
    refine Exists.intro (some (.int p2.1)) (Exists.intro (mk X) (Exists.intro p2.2 (And.intro (cl_X9_isNumber (d + 1) hp2) ?_)))
    show Ex mr_X9_as sc (Cl MT pr sc (d + 2)) (rtE (some (.int r)) (mk X) σ2) (11, [(0, .ref 0), (1, .int x1), (2, .int x2)], [.int p2.1], mk X, p2.2)
    refine Ex.blk 1000 rfl ?_
    rcases ite_sp h with ⟨c2, h⟩ | ⟨c2, h⟩
    · refine And.intro (fun hp => absurd c2 hp) (fun _ => ?_)
      show Ex mr_X9_as sc (Cl MT pr sc (d + 2)) (rtE (some (.int r)) (mk X) σ2) (14, [(0, .ref 0), (1, .int x1), (2, .int x2)], [], mk X, p2.2)
      refine Ex.pick (lv' := _) [] rfl ?_
      exact lk_X9_as_14 d _ h
    · refine And.intro (fun _ => ?_) (fun hn => absurd c2 hn)
      show Ex mr_X9_as sc (Cl MT pr sc (d + 2)) (rtE (some (.int r)) (mk X) σ2) (16, [(0, .ref 0), (1, .int x1), (2, .int x2)], [], mk X, p2.2)
      refine Ex.blk 5 rfl ?_
      show Ex mr_X9_as sc (Cl MT pr sc (d + 2)) (rtE (some (.int r)) (mk X) σ2) (23, [(0, .ref 0), (1, .int x1), (2, .int x2)], [.long x2.toInt64, .int x1, .ref 15], mk X, p2.2)
      refine Ex.blk 1 rfl ?_
      obtain ⟨p3, hp3, h⟩ := bind_sp h
      refine Exists.intro (some (.long p3.1)) (Exists.intro (mk X) (Exists.intro p3.2 (And.intro (cl_X1_likely (d + 0) hp3) ?_)))
      show Ex mr_X9_as sc (Cl MT pr sc (d + 2)) (rtE (some (.int r)) (mk X) σ2) (26, [(0, .ref 0), (1, .int x1), (2, .int x2)], [.long p3.1], mk X, p3.2)
      refine Ex.blk 2 rfl ?_
      refine And.intro (nzJ_ok (b := 1000000000000) (by decide)) ?_
      show Ex mr_X9_as sc (Cl MT pr sc (d + 2)) (rtE (some (.int r)) (mk X) σ2) (30, [(0, .ref 0), (1, .int x1), (2, .int x2)], [.long (p3.1 / 1000000000000)], mk X, p3.2)
      refine Ex.blk 1000 rfl ?_
      cases h
      exact And.intro trivial ⟨rfl, rfl, rfl⟩
