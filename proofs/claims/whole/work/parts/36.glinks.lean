theorem lg_X8_countWays_27 {pr : Ct} {sc : Nat × (Nat → Int32)} (d : Nat) (o : Nat)  {X2 : En} {σ2 : St} (k17 : Int32 → En → St → Option (En × St)) (hk17 : ∀ (x1 : Int32) (X : En) (σ : St), k17 x1 X σ = some (X2, σ2) → Ex mr_X8_countWays sc (Cl MT pr sc (d + 2)) (rtE none (mk X2) σ2) (17, [(0, .ref o), (1, .int x1)], [], mk X, σ)) : ∀ (n : Nat) (x1 : Int32) (x2 : Int32) (X : En) (σ : St), g_X8_countWays_27 o k17 n x1 x2 X σ = some (X2, σ2) → Ex mr_X8_countWays sc (Cl MT pr sc (d + 2)) (rtE none (mk X2) σ2) (27, [(0, .ref o), (1, .int x1), (2, .int x2)], [], mk X, σ) := by
  intro n
  induction n with
  | zero =>
    intro x1 x2 X σ h
    cases h
  | succ n ih =>
    intro x1 x2 X σ h
    simp only [g_X8_countWays_27] at h
    obtain ⟨hk_o_X, h⟩ := gd_some h
    refine Ex.blk 3 rfl ?_
    rcases ite_sp h with ⟨c21, h⟩ | ⟨c21, h⟩
    · refine And.intro (fun _ => ?_) (fun hn => absurd c21 hn)
      show Ex mr_X8_countWays sc (Cl MT pr sc (d + 2)) (rtE none (mk X2) σ2) (133, [(0, .ref o), (1, .int x1), (2, .int x2)], [], mk X, σ)
      refine Ex.blk 2 rfl ?_
      show Ex mr_X8_countWays sc (Cl MT pr sc (d + 2)) (rtE none (mk X2) σ2) (17, [(1, .int (x1 + 1)), (0, .ref o), (2, .int x2)], [], mk X, σ)
      show Ex mr_X8_countWays sc (Cl MT pr sc (d + 2)) (rtE none (mk X2) σ2) (17, [(1, .int (x1 + 1)), (0, .ref o), (2, .int x2)], [], mk X, σ)
      refine Ex.pick (lv' := _) [1, 0] rfl ?_
      exact hk17 _ _ _ h
    · refine And.intro (fun hp => absurd hp c21) (fun _ => ?_)
      show Ex mr_X8_countWays sc (Cl MT pr sc (d + 2)) (rtE none (mk X2) σ2) (33, [(0, .ref o), (1, .int x1), (2, .int x2)], [], mk X, σ)
      refine Ex.blk 5 rfl ?_
      show Ex mr_X8_countWays sc (Cl MT pr sc (d + 2)) (rtE none (mk X2) σ2) (40, [(0, .ref o), (1, .int x1), (2, .int x2)], [.ref o, .ref TN, .long x2.toInt64, .ref o], mk X, σ)
      obtain ⟨b7, hb8, h⟩ := bind_sp h
      refine ex_get rfl hk_o_X (congrArg orv hb8) ?_
      show Ex mr_X8_countWays sc (Cl MT pr sc (d + 2)) (rtE none (mk X2) σ2) (43, [(0, .ref o), (1, .int x1), (2, .int x2)], [.ref b7, .ref TN, .long x2.toInt64, .ref o], mk X, σ)
      obtain ⟨hk_b7_X, h⟩ := gd_some h
      refine Ex.blk 1 rfl ?_
      show Ex mr_X8_countWays sc (Cl MT pr sc (d + 2)) (rtE none (mk X2) σ2) (44, [(0, .ref o), (1, .int x1), (2, .int x2)], [.int x1, .ref b7, .ref TN, .long x2.toInt64, .ref o], mk X, σ)
      obtain ⟨g9, h⟩ := gd_some h
      refine ex_iald rfl hk_b7_X g9 ?_
      show Ex mr_X8_countWays sc (Cl MT pr sc (d + 2)) (rtE none (mk X2) σ2) (45, [(0, .ref o), (1, .int x1), (2, .int x2)], [.int (gI σ b7 x1.toNatClampNeg), .ref TN, .long x2.toInt64, .ref o], mk X, σ)
      obtain ⟨g10, h⟩ := gd_some h
      refine Ex.blk 1 rfl ?_
      refine And.intro (inb_ok g10) ?_
      show Ex mr_X8_countWays sc (Cl MT pr sc (d + 2)) (rtE none (mk X2) σ2) (46, [(0, .ref o), (1, .int x1), (2, .int x2)], [.long (tens (gI σ b7 x1.toNatClampNeg).toNatClampNeg), .long x2.toInt64, .ref o], mk X, σ)
      refine Ex.blk 1 rfl ?_
      show Ex mr_X8_countWays sc (Cl MT pr sc (d + 2)) (rtE none (mk X2) σ2) (47, [(0, .ref o), (1, .int x1), (2, .int x2)], [.long (x2.toInt64 * (tens (gI σ b7 x1.toNatClampNeg).toNatClampNeg)), .ref o], mk X, σ)
      obtain ⟨p11, hp11, h⟩ := bind_sp h
      refine ex_callV (rv := (some (.int p11.1))) (E1 := (mk p11.2.1)) (σ1 := p11.2.2) rfl rfl hk_o_X rfl rfl rfl (cg_X8_restOf (d + 0) hp11) ?_
      show Ex mr_X8_countWays sc (Cl MT pr sc (d + 2)) (rtE none (mk X2) σ2) (50, [(0, .ref o), (1, .int x1), (2, .int x2)], [.int p11.1], mk p11.2.1, p11.2.2)
      obtain ⟨hk_o_p11_2_1, h⟩ := gd_some h
      refine Ex.blk 3 rfl ?_
      show Ex mr_X8_countWays sc (Cl MT pr sc (d + 2)) (rtE none (mk X2) σ2) (54, [(4, .int 0), (3, .int p11.1), (0, .ref o), (1, .int x1), (2, .int x2)], [], mk p11.2.1, p11.2.2)
      show Ex mr_X8_countWays sc (Cl MT pr sc (d + 2)) (rtE none (mk X2) σ2) (54, [(4, .int 0), (3, .int p11.1), (0, .ref o), (1, .int x1), (2, .int x2)], [], mk p11.2.1, p11.2.2)
      refine Ex.pick (lv' := _) [2, 3, 4, 1, 0] rfl ?_
      exact lg_X8_countWays_54 d o _ _ hk17 ih FU _ _ _ _ _ _ h
theorem lg_X8_countWays_17 {pr : Ct} {sc : Nat × (Nat → Int32)} (d : Nat) (o : Nat)  {X2 : En} {σ2 : St} : ∀ (n : Nat) (x1 : Int32) (X : En) (σ : St), g_X8_countWays_17 o n x1 X σ = some (X2, σ2) → Ex mr_X8_countWays sc (Cl MT pr sc (d + 2)) (rtE none (mk X2) σ2) (17, [(0, .ref o), (1, .int x1)], [], mk X, σ) := by
  intro n
  induction n with
  | zero =>
    intro x1 X σ h
    cases h
  | succ n ih =>
    intro x1 X σ h
    simp only [g_X8_countWays_17] at h
    obtain ⟨hk_o_X, h⟩ := gd_some h
    refine Ex.blk 2 rfl ?_
    show Ex mr_X8_countWays sc (Cl MT pr sc (d + 2)) (rtE none (mk X2) σ2) (19, [(0, .ref o), (1, .int x1)], [.ref o, .int x1], mk X, σ)
    refine ex_get rfl hk_o_X rfl ?_
    show Ex mr_X8_countWays sc (Cl MT pr sc (d + 2)) (rtE none (mk X2) σ2) (22, [(0, .ref o), (1, .int x1)], [.int (gI σ o 2), .int x1], mk X, σ)
    refine Ex.blk 1 rfl ?_
    rcases ite_sp h with ⟨c22, h⟩ | ⟨c22, h⟩
    · refine And.intro (fun _ => ?_) (fun hn => absurd c22 hn)
      show Ex mr_X8_countWays sc (Cl MT pr sc (d + 2)) (rtE none (mk X2) σ2) (139, [(0, .ref o), (1, .int x1)], [], mk X, σ)
      refine Ex.blk 1 rfl ?_
      cases h
      exact And.intro trivial ⟨rfl, rfl, rfl⟩
    · refine And.intro (fun hp => absurd hp c22) (fun _ => ?_)
      show Ex mr_X8_countWays sc (Cl MT pr sc (d + 2)) (rtE none (mk X2) σ2) (25, [(0, .ref o), (1, .int x1)], [], mk X, σ)
      refine Ex.blk 2 rfl ?_
      show Ex mr_X8_countWays sc (Cl MT pr sc (d + 2)) (rtE none (mk X2) σ2) (27, [(2, .int 0), (0, .ref o), (1, .int x1)], [], mk X, σ)
      show Ex mr_X8_countWays sc (Cl MT pr sc (d + 2)) (rtE none (mk X2) σ2) (27, [(2, .int 0), (0, .ref o), (1, .int x1)], [], mk X, σ)
      refine Ex.pick (lv' := _) [1, 2, 0] rfl ?_
      exact lg_X8_countWays_27 d o _ ih FU _ _ _ _ h
theorem cg_X8_countWays {pr : Ct} {sc : Nat × (Nat → Int32)} (d : Nat)  {X2 : En} {σ2 : St} {o : Nat} {X : En} {σ : St} (h : g_X8_countWays o X σ = some (X2, σ2)) : Cl MT pr sc (d + 2 + 1) 77 [.ref o] (mk X) σ none (mk X2) σ2 := by
  unfold g_X8_countWays at h
  obtain ⟨p, hp, h⟩ := bind_sp h
  obtain ⟨hz, h⟩ := gd_some h
  cases h
  refine cl_of2 mr_X8_countWays rfl rfl hz ?_
  have h := hp
  clear hp
  unfold g_X8_countWays_b at h
  obtain ⟨hk_o_X, h⟩ := gd_some h
  refine Ex.blk 1 rfl ?_
  show Ex mr_X8_countWays sc (Cl MT pr sc (d + 2)) (rtE none (mk X2) σ2) (1, [(0, .ref o)], [.ref o], mk X, σ)
  obtain ⟨b1, hb2, h⟩ := bind_sp h
  refine ex_get rfl hk_o_X (congrArg orv hb2) ?_
  show Ex mr_X8_countWays sc (Cl MT pr sc (d + 2)) (rtE none (mk X2) σ2) (4, [(0, .ref o)], [.ref b1], mk X, σ)
  obtain ⟨hk_b1_X, h⟩ := gd_some h
  refine Ex.blk 1 rfl ?_
  show Ex mr_X8_countWays sc (Cl MT pr sc (d + 2)) (rtE none (mk X2) σ2) (5, [(0, .ref o)], [.int 0, .ref b1], mk X, σ)
  obtain ⟨p3, hp3, h⟩ := bind_sp h
  refine Ex.blk 1 rfl ?_
  refine Exists.intro none (Exists.intro (mk p3.1) (Exists.intro p3.2 (And.intro (cg_J7_fill_53178 (d + 1) hp3) ?_)))
  show Ex mr_X8_countWays sc (Cl MT pr sc (d + 2)) (rtE none (mk X2) σ2) (8, [(0, .ref o)], [], mk p3.1, p3.2)
  obtain ⟨hk_o_p3_1, h⟩ := gd_some h
  refine Ex.blk 1 rfl ?_
  show Ex mr_X8_countWays sc (Cl MT pr sc (d + 2)) (rtE none (mk X2) σ2) (9, [(0, .ref o)], [.ref o], mk p3.1, p3.2)
  obtain ⟨b4, hb5, h⟩ := bind_sp h
  refine ex_get rfl hk_o_p3_1 (congrArg orv hb5) ?_
  show Ex mr_X8_countWays sc (Cl MT pr sc (d + 2)) (rtE none (mk X2) σ2) (12, [(0, .ref o)], [.ref b4], mk p3.1, p3.2)
  obtain ⟨hk_b4_p3_1, h⟩ := gd_some h
  refine Ex.blk 2 rfl ?_
  show Ex mr_X8_countWays sc (Cl MT pr sc (d + 2)) (rtE none (mk X2) σ2) (14, [(0, .ref o)], [.int 1, .int 0, .ref b4], mk p3.1, p3.2)
  obtain ⟨g6, h⟩ := gd_some h
  refine ex_iast rfl hk_b4_p3_1 g6 ?_
  show Ex mr_X8_countWays sc (Cl MT pr sc (d + 2)) (rtE none (mk X2) σ2) (15, [(0, .ref o)], [], mk p3.1, (sI p3.2 b4 (0 : Int32).toNatClampNeg 1))
  refine Ex.blk 2 rfl ?_
  show Ex mr_X8_countWays sc (Cl MT pr sc (d + 2)) (rtE none (mk X2) σ2) (17, [(1, .int 0), (0, .ref o)], [], mk p3.1, (sI p3.2 b4 (0 : Int32).toNatClampNeg 1))
  show Ex mr_X8_countWays sc (Cl MT pr sc (d + 2)) (rtE none (mk X2) σ2) (17, [(1, .int 0), (0, .ref o)], [], mk p3.1, (sI p3.2 b4 (0 : Int32).toNatClampNeg 1))
  refine Ex.pick (lv' := _) [1, 0] rfl ?_
  exact lg_X8_countWays_17 d o FU _ _ _ h
theorem lg_X8_look_94 {pr : Ct} {sc : Nat × (Nat → Int32)} (d : Nat) (o : Nat)  {X2 : En} {σ2 : St} (k26 : Int32 → En → St → Option (En × St)) (hk26 : ∀ (x3 : Int32) (X : En) (σ : St), k26 x3 X σ = some (X2, σ2) → Ex mr_X8_look sc (Cl MT pr sc (d + 3)) (rtE none (mk X2) σ2) (26, [(0, .ref o), (1, .ref 1), (3, .int x3)], [], mk X, σ)) (x3 : Int32) (X : En) (σ : St) (h : g_X8_look_94 o k26 x3 X σ = some (X2, σ2)) : Ex mr_X8_look sc (Cl MT pr sc (d + 3)) (rtE none (mk X2) σ2) (94, [(0, .ref o), (1, .ref 1), (3, .int x3)], [], mk X, σ) := by
  unfold g_X8_look_94 at h
  obtain ⟨hk_o_X, h⟩ := gd_some h
  refine Ex.blk 2 rfl ?_
  show Ex mr_X8_look sc (Cl MT pr sc (d + 3)) (rtE none (mk X2) σ2) (26, [(3, .int (x3 + 1)), (0, .ref o), (1, .ref 1)], [], mk X, σ)
  show Ex mr_X8_look sc (Cl MT pr sc (d + 3)) (rtE none (mk X2) σ2) (26, [(3, .int (x3 + 1)), (0, .ref o), (1, .ref 1)], [], mk X, σ)
  refine Ex.pick (lv' := _) [1, 2, 0] rfl ?_
  exact hk26 _ _ _ h
theorem lg_X8_look_26 {pr : Ct} {sc : Nat × (Nat → Int32)} (d : Nat) (o : Nat)  {X2 : En} {σ2 : St} : ∀ (n : Nat) (x3 : Int32) (X : En) (σ : St), g_X8_look_26 o n x3 X σ = some (X2, σ2) → Ex mr_X8_look sc (Cl MT pr sc (d + 3)) (rtE none (mk X2) σ2) (26, [(0, .ref o), (1, .ref 1), (3, .int x3)], [], mk X, σ) := by
  intro n
  induction n with
  | zero =>
    intro x3 X σ h
    cases h
  | succ n ih =>
    intro x3 X σ h
    simp only [g_X8_look_26] at h
    obtain ⟨hk_o_X, h⟩ := gd_some h
    refine Ex.blk 4 rfl ?_
    rcases ite_sp h with ⟨c10, h⟩ | ⟨c10, h⟩
    · refine And.intro (fun _ => ?_) (fun hn => absurd c10 hn)
      show Ex mr_X8_look sc (Cl MT pr sc (d + 3)) (rtE none (mk X2) σ2) (100, [(0, .ref o), (1, .ref 1), (3, .int x3)], [], mk X, σ)
      refine Ex.blk 1 rfl ?_
      show Ex mr_X8_look sc (Cl MT pr sc (d + 3)) (rtE none (mk X2) σ2) (101, [(0, .ref o), (1, .ref 1), (3, .int x3)], [.ref o], mk X, σ)
      obtain ⟨p1, hp1, h⟩ := bind_sp h
      refine ex_callV (rv := none) (E1 := (mk p1.1)) (σ1 := p1.2) rfl rfl hk_o_X rfl rfl rfl (cg_X8_countWays (d + 0) hp1) ?_
      show Ex mr_X8_look sc (Cl MT pr sc (d + 3)) (rtE none (mk X2) σ2) (104, [(0, .ref o), (1, .ref 1), (3, .int x3)], [], mk p1.1, p1.2)
      obtain ⟨hk_o_p1_1, h⟩ := gd_some h
      refine Ex.blk 1 rfl ?_
      cases h
      exact And.intro trivial ⟨rfl, rfl, rfl⟩
    · refine And.intro (fun hp => absurd hp c10) (fun _ => ?_)
      show Ex mr_X8_look sc (Cl MT pr sc (d + 3)) (rtE none (mk X2) σ2) (34, [(0, .ref o), (1, .ref 1), (3, .int x3)], [], mk X, σ)
      refine Ex.blk 2 rfl ?_
      show Ex mr_X8_look sc (Cl MT pr sc (d + 3)) (rtE none (mk X2) σ2) (36, [(0, .ref o), (1, .ref 1), (3, .int x3)], [.int x3, .ref 1], mk X, σ)
      obtain ⟨p2, hp2, h⟩ := bind_sp h
      refine Ex.blk 1 rfl ?_
      refine Exists.intro (some (.int p2.1)) (Exists.intro (mk X) (Exists.intro p2.2 (And.intro (cl_X7_isFoggy_1 (d + 1) hp2) ?_)))
      show Ex mr_X8_look sc (Cl MT pr sc (d + 3)) (rtE none (mk X2) σ2) (39, [(0, .ref o), (1, .ref 1), (3, .int x3)], [.int p2.1], mk X, p2.2)
      refine Ex.blk 1 rfl ?_
      rcases ite_sp h with ⟨c9, h⟩ | ⟨c9, h⟩
      · refine And.intro (fun hp => absurd c9 hp) (fun _ => ?_)
        show Ex mr_X8_look sc (Cl MT pr sc (d + 3)) (rtE none (mk X2) σ2) (42, [(0, .ref o), (1, .ref 1), (3, .int x3)], [], mk X, p2.2)
        refine Ex.blk 2 rfl ?_
        show Ex mr_X8_look sc (Cl MT pr sc (d + 3)) (rtE none (mk X2) σ2) (44, [(0, .ref o), (1, .ref 1), (3, .int x3)], [.ref o, .ref o], mk X, p2.2)
        refine ex_get rfl hk_o_X rfl ?_
        show Ex mr_X8_look sc (Cl MT pr sc (d + 3)) (rtE none (mk X2) σ2) (47, [(0, .ref o), (1, .ref 1), (3, .int x3)], [.long (gJ p2.2 o 4), .ref o], mk X, p2.2)
        refine Ex.blk 2 rfl ?_
        show Ex mr_X8_look sc (Cl MT pr sc (d + 3)) (rtE none (mk X2) σ2) (49, [(0, .ref o), (1, .ref 1), (3, .int x3)], [.int x3, .ref 1, .long (gJ p2.2 o 4), .ref o], mk X, p2.2)
        obtain ⟨p7, hp7, h⟩ := bind_sp h
        refine Ex.blk 1 rfl ?_
        refine Exists.intro (some (.int p7.1)) (Exists.intro (mk X) (Exists.intro p7.2 (And.intro (cl_X7_seen_1 (d + 1) hp7) ?_)))
        show Ex mr_X8_look sc (Cl MT pr sc (d + 3)) (rtE none (mk X2) σ2) (52, [(0, .ref o), (1, .ref 1), (3, .int x3)], [.int p7.1, .long (gJ p2.2 o 4), .ref o], mk X, p7.2)
        refine Ex.blk 3 rfl ?_
        show Ex mr_X8_look sc (Cl MT pr sc (d + 3)) (rtE none (mk X2) σ2) (57, [(0, .ref o), (1, .ref 1), (3, .int x3)], [.int x3, .ref TN, .long p7.1.toInt64, .long (gJ p2.2 o 4), .ref o], mk X, p7.2)
        obtain ⟨g8, h⟩ := gd_some h
        refine Ex.blk 1 rfl ?_
        refine And.intro (inb_ok g8) ?_
        show Ex mr_X8_look sc (Cl MT pr sc (d + 3)) (rtE none (mk X2) σ2) (58, [(0, .ref o), (1, .ref 1), (3, .int x3)], [.long (tens x3.toNatClampNeg), .long p7.1.toInt64, .long (gJ p2.2 o 4), .ref o], mk X, p7.2)
        refine Ex.blk 2 rfl ?_
        show Ex mr_X8_look sc (Cl MT pr sc (d + 3)) (rtE none (mk X2) σ2) (60, [(0, .ref o), (1, .ref 1), (3, .int x3)], [.long ((gJ p2.2 o 4) + (p7.1.toInt64 * (tens x3.toNatClampNeg))), .ref o], mk X, p7.2)
        refine ex_putJ rfl hk_o_X rfl ?_
        show Ex mr_X8_look sc (Cl MT pr sc (d + 3)) (rtE none (mk X2) σ2) (63, [(0, .ref o), (1, .ref 1), (3, .int x3)], [], mk X, (sJ p7.2 o 4 ((gJ p2.2 o 4) + (p7.1.toInt64 * (tens x3.toNatClampNeg)))))
        refine Ex.blk 1 rfl ?_
        show Ex mr_X8_look sc (Cl MT pr sc (d + 3)) (rtE none (mk X2) σ2) (94, [(0, .ref o), (1, .ref 1), (3, .int x3)], [], mk X, (sJ p7.2 o 4 ((gJ p2.2 o 4) + (p7.1.toInt64 * (tens x3.toNatClampNeg)))))
        show Ex mr_X8_look sc (Cl MT pr sc (d + 3)) (rtE none (mk X2) σ2) (94, [(0, .ref o), (1, .ref 1), (3, .int x3)], [], mk X, (sJ p7.2 o 4 ((gJ p2.2 o 4) + (p7.1.toInt64 * (tens x3.toNatClampNeg)))))
        exact lg_X8_look_94 d o _ ih _ _ _ h
      · refine And.intro (fun _ => ?_) (fun hn => absurd c9 hn)
        show Ex mr_X8_look sc (Cl MT pr sc (d + 3)) (rtE none (mk X2) σ2) (66, [(0, .ref o), (1, .ref 1), (3, .int x3)], [], mk X, p2.2)
        refine Ex.blk 1 rfl ?_
        show Ex mr_X8_look sc (Cl MT pr sc (d + 3)) (rtE none (mk X2) σ2) (67, [(0, .ref o), (1, .ref 1), (3, .int x3)], [.ref o], mk X, p2.2)
        refine ex_get rfl hk_o_X rfl ?_
        show Ex mr_X8_look sc (Cl MT pr sc (d + 3)) (rtE none (mk X2) σ2) (70, [(0, .ref o), (1, .ref 1), (3, .int x3)], [.int (gI p2.2 o 2)], mk X, p2.2)
        refine Ex.blk 2 rfl ?_
        rcases ite_sp h with ⟨c6, h⟩ | ⟨c6, h⟩
        · refine And.intro (fun _ => ?_) (fun hn => absurd c6 hn)
          show Ex mr_X8_look sc (Cl MT pr sc (d + 3)) (rtE none (mk X2) σ2) (94, [(0, .ref o), (1, .ref 1), (3, .int x3)], [], mk X, p2.2)
          show Ex mr_X8_look sc (Cl MT pr sc (d + 3)) (rtE none (mk X2) σ2) (94, [(0, .ref o), (1, .ref 1), (3, .int x3)], [], mk X, p2.2)
          exact lg_X8_look_94 d o _ ih _ _ _ h
        · refine And.intro (fun hp => absurd hp c6) (fun _ => ?_)
          show Ex mr_X8_look sc (Cl MT pr sc (d + 3)) (rtE none (mk X2) σ2) (74, [(0, .ref o), (1, .ref 1), (3, .int x3)], [], mk X, p2.2)
          refine Ex.blk 1 rfl ?_
          show Ex mr_X8_look sc (Cl MT pr sc (d + 3)) (rtE none (mk X2) σ2) (75, [(0, .ref o), (1, .ref 1), (3, .int x3)], [.ref o], mk X, p2.2)
          obtain ⟨b3, hb4, h⟩ := bind_sp h
          refine ex_get rfl hk_o_X (congrArg orv hb4) ?_
          show Ex mr_X8_look sc (Cl MT pr sc (d + 3)) (rtE none (mk X2) σ2) (78, [(0, .ref o), (1, .ref 1), (3, .int x3)], [.ref b3], mk X, p2.2)
          obtain ⟨hk_b3_X, h⟩ := gd_some h
          refine Ex.blk 1 rfl ?_
          show Ex mr_X8_look sc (Cl MT pr sc (d + 3)) (rtE none (mk X2) σ2) (79, [(0, .ref o), (1, .ref 1), (3, .int x3)], [.ref o, .ref b3], mk X, p2.2)
          refine ex_get rfl hk_o_X rfl ?_
          show Ex mr_X8_look sc (Cl MT pr sc (d + 3)) (rtE none (mk X2) σ2) (82, [(0, .ref o), (1, .ref 1), (3, .int x3)], [.int (gI p2.2 o 2), .ref b3], mk X, p2.2)
          refine Ex.blk 1 rfl ?_
          show Ex mr_X8_look sc (Cl MT pr sc (d + 3)) (rtE none (mk X2) σ2) (83, [(0, .ref o), (1, .ref 1), (3, .int x3)], [.int x3, .int (gI p2.2 o 2), .ref b3], mk X, p2.2)
          obtain ⟨g5, h⟩ := gd_some h
          refine ex_iast rfl hk_b3_X g5 ?_
          show Ex mr_X8_look sc (Cl MT pr sc (d + 3)) (rtE none (mk X2) σ2) (84, [(0, .ref o), (1, .ref 1), (3, .int x3)], [], mk X, (sI p2.2 b3 (gI p2.2 o 2).toNatClampNeg x3))
          refine Ex.blk 2 rfl ?_
          show Ex mr_X8_look sc (Cl MT pr sc (d + 3)) (rtE none (mk X2) σ2) (86, [(0, .ref o), (1, .ref 1), (3, .int x3)], [.ref o, .ref o], mk X, (sI p2.2 b3 (gI p2.2 o 2).toNatClampNeg x3))
          refine ex_get rfl hk_o_X rfl ?_
          show Ex mr_X8_look sc (Cl MT pr sc (d + 3)) (rtE none (mk X2) σ2) (89, [(0, .ref o), (1, .ref 1), (3, .int x3)], [.int (gI (sI p2.2 b3 (gI p2.2 o 2).toNatClampNeg x3) o 2), .ref o], mk X, (sI p2.2 b3 (gI p2.2 o 2).toNatClampNeg x3))
          refine Ex.blk 2 rfl ?_
          show Ex mr_X8_look sc (Cl MT pr sc (d + 3)) (rtE none (mk X2) σ2) (91, [(0, .ref o), (1, .ref 1), (3, .int x3)], [.int ((gI (sI p2.2 b3 (gI p2.2 o 2).toNatClampNeg x3) o 2) + 1), .ref o], mk X, (sI p2.2 b3 (gI p2.2 o 2).toNatClampNeg x3))
          refine ex_putI rfl hk_o_X rfl ?_
          show Ex mr_X8_look sc (Cl MT pr sc (d + 3)) (rtE none (mk X2) σ2) (94, [(0, .ref o), (1, .ref 1), (3, .int x3)], [], mk X, (sI (sI p2.2 b3 (gI p2.2 o 2).toNatClampNeg x3) o 2 ((gI (sI p2.2 b3 (gI p2.2 o 2).toNatClampNeg x3) o 2) + 1)))
          show Ex mr_X8_look sc (Cl MT pr sc (d + 3)) (rtE none (mk X2) σ2) (94, [(0, .ref o), (1, .ref 1), (3, .int x3)], [], mk X, (sI (sI p2.2 b3 (gI p2.2 o 2).toNatClampNeg x3) o 2 ((gI (sI p2.2 b3 (gI p2.2 o 2).toNatClampNeg x3) o 2) + 1)))
          exact lg_X8_look_94 d o _ ih _ _ _ h
theorem cg_X8_look {pr : Ct} {sc : Nat × (Nat → Int32)} (d : Nat)  {X2 : En} {σ2 : St} {o : Nat} {x2 : Int32} {X : En} {σ : St} (h : g_X8_look o x2 X σ = some (X2, σ2)) : Cl MT pr sc (d + 3 + 1) 78 [.ref o, .ref 1, .int x2] (mk X) σ none (mk X2) σ2 := by
  unfold g_X8_look at h
  obtain ⟨p, hp, h⟩ := bind_sp h
  obtain ⟨hz, h⟩ := gd_some h
  cases h
  refine cl_of2 mr_X8_look rfl rfl hz ?_
  have h := hp
  clear hp
  unfold g_X8_look_b at h
  obtain ⟨hk_o_X, h⟩ := gd_some h
  refine Ex.blk 5 rfl ?_
  show Ex mr_X8_look sc (Cl MT pr sc (d + 3)) (rtE none (mk X2) σ2) (8, [(0, .ref o), (1, .ref 1), (2, .int x2)], [.int (mnI 99 x2), .int 1, .ref o], mk X, σ)
  refine Ex.blk 1 rfl ?_
  show Ex mr_X8_look sc (Cl MT pr sc (d + 3)) (rtE none (mk X2) σ2) (11, [(0, .ref o), (1, .ref 1), (2, .int x2)], [.int (mxI 1 (mnI 99 x2)), .ref o], mk X, σ)
  refine ex_putI rfl hk_o_X rfl ?_
  show Ex mr_X8_look sc (Cl MT pr sc (d + 3)) (rtE none (mk X2) σ2) (14, [(0, .ref o), (1, .ref 1), (2, .int x2)], [], mk X, (sI σ o 3 (mxI 1 (mnI 99 x2))))
  refine Ex.blk 2 rfl ?_
  show Ex mr_X8_look sc (Cl MT pr sc (d + 3)) (rtE none (mk X2) σ2) (16, [(0, .ref o), (1, .ref 1), (2, .int x2)], [.int 0, .ref o], mk X, (sI σ o 3 (mxI 1 (mnI 99 x2))))
  refine ex_putI rfl hk_o_X rfl ?_
  show Ex mr_X8_look sc (Cl MT pr sc (d + 3)) (rtE none (mk X2) σ2) (19, [(0, .ref o), (1, .ref 1), (2, .int x2)], [], mk X, (sI (sI σ o 3 (mxI 1 (mnI 99 x2))) o 2 0))
  refine Ex.blk 2 rfl ?_
  show Ex mr_X8_look sc (Cl MT pr sc (d + 3)) (rtE none (mk X2) σ2) (21, [(0, .ref o), (1, .ref 1), (2, .int x2)], [.long 0, .ref o], mk X, (sI (sI σ o 3 (mxI 1 (mnI 99 x2))) o 2 0))
  refine ex_putJ rfl hk_o_X rfl ?_
  show Ex mr_X8_look sc (Cl MT pr sc (d + 3)) (rtE none (mk X2) σ2) (24, [(0, .ref o), (1, .ref 1), (2, .int x2)], [], mk X, (sJ (sI (sI σ o 3 (mxI 1 (mnI 99 x2))) o 2 0) o 4 0))
  refine Ex.blk 2 rfl ?_
  show Ex mr_X8_look sc (Cl MT pr sc (d + 3)) (rtE none (mk X2) σ2) (26, [(3, .int 0), (0, .ref o), (1, .ref 1), (2, .int x2)], [], mk X, (sJ (sI (sI σ o 3 (mxI 1 (mnI 99 x2))) o 2 0) o 4 0))
  show Ex mr_X8_look sc (Cl MT pr sc (d + 3)) (rtE none (mk X2) σ2) (26, [(3, .int 0), (0, .ref o), (1, .ref 1), (2, .int x2)], [], mk X, (sJ (sI (sI σ o 3 (mxI 1 (mnI 99 x2))) o 2 0) o 4 0))
  refine Ex.pick (lv' := _) [1, 2, 0] rfl ?_
  exact lg_X8_look_26 d o FU _ _ _ h
theorem cg_X8_howMany {pr : Ct} {sc : Nat × (Nat → Int32)} (d : Nat) {r : Int32} {X2 : En} {σ2 : St} {o : Nat} {x1 : Int32} {X : En} {σ : St} (h : g_X8_howMany o x1 X σ = some (r, X2, σ2)) : Cl MT pr sc (d + 2 + 1) 79 [.ref o, .int x1] (mk X) σ (some (.int r)) (mk X2) σ2 := by
  unfold g_X8_howMany at h
  obtain ⟨p, hp, h⟩ := bind_sp h
  obtain ⟨hz, h⟩ := gd_some h
  cases h
  refine cl_of2 mr_X8_howMany rfl rfl hz ?_
  have h := hp
  clear hp
  unfold g_X8_howMany_b at h
  obtain ⟨hk_o_X, h⟩ := gd_some h
  refine Ex.blk 1 rfl ?_
  show Ex mr_X8_howMany sc (Cl MT pr sc (d + 2)) (rtE (some (.int r)) (mk X2) σ2) (1, [(0, .ref o), (1, .int x1)], [.ref o], mk X, σ)
  obtain ⟨b1, hb2, h⟩ := bind_sp h
  refine ex_get rfl hk_o_X (congrArg orv hb2) ?_
  show Ex mr_X8_howMany sc (Cl MT pr sc (d + 2)) (rtE (some (.int r)) (mk X2) σ2) (4, [(0, .ref o), (1, .int x1)], [.ref b1], mk X, σ)
  obtain ⟨hk_b1_X, h⟩ := gd_some h
  refine Ex.blk 1 rfl ?_
  show Ex mr_X8_howMany sc (Cl MT pr sc (d + 2)) (rtE (some (.int r)) (mk X2) σ2) (5, [(0, .ref o), (1, .int x1)], [.ref o, .ref b1], mk X, σ)
  refine ex_get rfl hk_o_X rfl ?_
  show Ex mr_X8_howMany sc (Cl MT pr sc (d + 2)) (rtE (some (.int r)) (mk X2) σ2) (8, [(0, .ref o), (1, .int x1)], [.int (gI σ o 2), .ref b1], mk X, σ)
  refine Ex.blk 5 rfl ?_
  show Ex mr_X8_howMany sc (Cl MT pr sc (d + 2)) (rtE (some (.int r)) (mk X2) σ2) (14, [(0, .ref o), (1, .int x1)], [.long x1.toInt64, .ref o, .int ((gI σ o 2) * 99), .ref b1], mk X, σ)
  refine Ex.blk 1 rfl ?_
  show Ex mr_X8_howMany sc (Cl MT pr sc (d + 2)) (rtE (some (.int r)) (mk X2) σ2) (15, [(0, .ref o), (1, .int x1)], [.ref o, .long x1.toInt64, .ref o, .int ((gI σ o 2) * 99), .ref b1], mk X, σ)
  refine ex_get rfl hk_o_X rfl ?_
  show Ex mr_X8_howMany sc (Cl MT pr sc (d + 2)) (rtE (some (.int r)) (mk X2) σ2) (18, [(0, .ref o), (1, .int x1)], [.long (gJ σ o 4), .long x1.toInt64, .ref o, .int ((gI σ o 2) * 99), .ref b1], mk X, σ)
  refine Ex.blk 1 rfl ?_
  show Ex mr_X8_howMany sc (Cl MT pr sc (d + 2)) (rtE (some (.int r)) (mk X2) σ2) (19, [(0, .ref o), (1, .int x1)], [.long (x1.toInt64 - (gJ σ o 4)), .ref o, .int ((gI σ o 2) * 99), .ref b1], mk X, σ)
  obtain ⟨p3, hp3, h⟩ := bind_sp h
  refine ex_callV (rv := (some (.int p3.1))) (E1 := (mk p3.2.1)) (σ1 := p3.2.2) rfl rfl hk_o_X rfl rfl rfl (cg_X8_restOf (d + 0) hp3) ?_
  show Ex mr_X8_howMany sc (Cl MT pr sc (d + 2)) (rtE (some (.int r)) (mk X2) σ2) (22, [(0, .ref o), (1, .int x1)], [.int p3.1, .int ((gI σ o 2) * 99), .ref b1], mk p3.2.1, p3.2.2)
  obtain ⟨hk_o_p3_2_1, h⟩ := gd_some h
  obtain ⟨hk_b1_p3_2_1, h⟩ := gd_some h
  refine Ex.blk 1 rfl ?_
  show Ex mr_X8_howMany sc (Cl MT pr sc (d + 2)) (rtE (some (.int r)) (mk X2) σ2) (23, [(0, .ref o), (1, .int x1)], [.int (((gI σ o 2) * 99) + p3.1), .ref b1], mk p3.2.1, p3.2.2)
  obtain ⟨g4, h⟩ := gd_some h
  refine ex_iald rfl hk_b1_p3_2_1 g4 ?_
  show Ex mr_X8_howMany sc (Cl MT pr sc (d + 2)) (rtE (some (.int r)) (mk X2) σ2) (24, [(0, .ref o), (1, .int x1)], [.int (gI p3.2.2 b1 (((gI σ o 2) * 99) + p3.1).toNatClampNeg)], mk p3.2.1, p3.2.2)
  refine Ex.blk 1 rfl ?_
  cases h
  exact And.intro trivial ⟨rfl, rfl, rfl⟩
theorem lg_X8_outermost_118 {pr : Ct} {sc : Nat × (Nat → Int32)} (d : Nat) (o : Nat) {r : Int64} {X2 : En} {σ2 : St} (k13 : Int32 → Int32 → Int64 → Int32 → En → St → Option (Int64 × En × St)) (hk13 : ∀ (x1 : Int32) (x2 : Int32) (x3 : Int64) (x5 : Int32) (X : En) (σ : St), k13 x1 x2 x3 x5 X σ = some (r, X2, σ2) → Ex mr_X8_outermost sc (Cl MT pr sc (d + 2)) (rtE (some (.long r)) (mk X2) σ2) (13, [(0, .ref o), (1, .int x1), (2, .int x2), (3, .long x3), (5, .int x5)], [], mk X, σ)) (x1 : Int32) (x2 : Int32) (x3 : Int64) (x5 : Int32) (X : En) (σ : St) (h : g_X8_outermost_118 o k13 x1 x2 x3 x5 X σ = some (r, X2, σ2)) : Ex mr_X8_outermost sc (Cl MT pr sc (d + 2)) (rtE (some (.long r)) (mk X2) σ2) (118, [(0, .ref o), (1, .int x1), (2, .int x2), (3, .long x3), (5, .int x5)], [], mk X, σ) := by
  unfold g_X8_outermost_118 at h
  obtain ⟨hk_o_X, h⟩ := gd_some h
  refine Ex.blk 2 rfl ?_
  show Ex mr_X8_outermost sc (Cl MT pr sc (d + 2)) (rtE (some (.long r)) (mk X2) σ2) (13, [(5, .int (x5 + (-1))), (0, .ref o), (1, .int x1), (2, .int x2), (3, .long x3)], [], mk X, σ)
  show Ex mr_X8_outermost sc (Cl MT pr sc (d + 2)) (rtE (some (.long r)) (mk X2) σ2) (13, [(5, .int (x5 + (-1))), (0, .ref o), (1, .int x1), (2, .int x2), (3, .long x3)], [], mk X, σ)
  refine Ex.pick (lv' := _) [1, 2, 3, 4, 0] rfl ?_
  exact hk13 _ _ _ _ _ _ h
theorem lg_X8_outermost_105 {pr : Ct} {sc : Nat × (Nat → Int32)} (d : Nat) (o : Nat) {r : Int64} {X2 : En} {σ2 : St} (k13 : Int32 → Int32 → Int64 → Int32 → En → St → Option (Int64 × En × St)) (hk13 : ∀ (x1 : Int32) (x2 : Int32) (x3 : Int64) (x5 : Int32) (X : En) (σ : St), k13 x1 x2 x3 x5 X σ = some (r, X2, σ2) → Ex mr_X8_outermost sc (Cl MT pr sc (d + 2)) (rtE (some (.long r)) (mk X2) σ2) (13, [(0, .ref o), (1, .int x1), (2, .int x2), (3, .long x3), (5, .int x5)], [], mk X, σ)) (x1 : Int32) (x2 : Int32) (x3 : Int64) (x5 : Int32) (x6 : Int64) (x8 : Int32) (X : En) (σ : St) (h : g_X8_outermost_105 o k13 x1 x2 x3 x5 x6 x8 X σ = some (r, X2, σ2)) : Ex mr_X8_outermost sc (Cl MT pr sc (d + 2)) (rtE (some (.long r)) (mk X2) σ2) (105, [(0, .ref o), (1, .int x1), (2, .int x2), (3, .long x3), (5, .int x5), (6, .long x6), (8, .int x8)], [], mk X, σ) := by
  unfold g_X8_outermost_105 at h
  obtain ⟨hk_o_X, h⟩ := gd_some h
  refine Ex.blk 5 rfl ?_
  show Ex mr_X8_outermost sc (Cl MT pr sc (d + 2)) (rtE (some (.long r)) (mk X2) σ2) (113, [(0, .ref o), (1, .int x1), (2, .int x2), (3, .long x3), (5, .int x5), (6, .long x6), (8, .int x8)], [.long ((mxI x8 0).toInt64), .long x3], mk X, σ)
  refine Ex.blk 4 rfl ?_
  show Ex mr_X8_outermost sc (Cl MT pr sc (d + 2)) (rtE (some (.long r)) (mk X2) σ2) (118, [(3, .long (x3 + (((mxI x8 0).toInt64) * x6))), (0, .ref o), (1, .int x1), (2, .int x2), (5, .int x5), (6, .long x6), (8, .int x8)], [], mk X, σ)
  show Ex mr_X8_outermost sc (Cl MT pr sc (d + 2)) (rtE (some (.long r)) (mk X2) σ2) (118, [(3, .long (x3 + (((mxI x8 0).toInt64) * x6))), (0, .ref o), (1, .int x1), (2, .int x2), (5, .int x5), (6, .long x6), (8, .int x8)], [], mk X, σ)
  refine Ex.pick (lv' := _) [1, 2, 3, 0, 4] rfl ?_
  exact lg_X8_outermost_118 d o _ hk13 _ _ _ _ _ _ h
theorem lg_X8_outermost_99 {pr : Ct} {sc : Nat × (Nat → Int32)} (d : Nat) (o : Nat) {r : Int64} {X2 : En} {σ2 : St} (k13 : Int32 → Int32 → Int64 → Int32 → En → St → Option (Int64 × En × St)) (k37 : Int32 → Int32 → Int64 → Int32 → Int64 → Int32 → Int32 → En → St → Option (Int64 × En × St)) (hk13 : ∀ (x1 : Int32) (x2 : Int32) (x3 : Int64) (x5 : Int32) (X : En) (σ : St), k13 x1 x2 x3 x5 X σ = some (r, X2, σ2) → Ex mr_X8_outermost sc (Cl MT pr sc (d + 2)) (rtE (some (.long r)) (mk X2) σ2) (13, [(0, .ref o), (1, .int x1), (2, .int x2), (3, .long x3), (5, .int x5)], [], mk X, σ)) (hk37 : ∀ (x1 : Int32) (x2 : Int32) (x3 : Int64) (x5 : Int32) (x6 : Int64) (x8 : Int32) (x9 : Int32) (X : En) (σ : St), k37 x1 x2 x3 x5 x6 x8 x9 X σ = some (r, X2, σ2) → Ex mr_X8_outermost sc (Cl MT pr sc (d + 2)) (rtE (some (.long r)) (mk X2) σ2) (37, [(0, .ref o), (1, .int x1), (2, .int x2), (3, .long x3), (5, .int x5), (6, .long x6), (8, .int x8), (9, .int x9)], [], mk X, σ)) (x1 : Int32) (x2 : Int32) (x3 : Int64) (x5 : Int32) (x6 : Int64) (x8 : Int32) (x9 : Int32) (X : En) (σ : St) (h : g_X8_outermost_99 o k13 k37 x1 x2 x3 x5 x6 x8 x9 X σ = some (r, X2, σ2)) : Ex mr_X8_outermost sc (Cl MT pr sc (d + 2)) (rtE (some (.long r)) (mk X2) σ2) (99, [(0, .ref o), (1, .int x1), (2, .int x2), (3, .long x3), (5, .int x5), (6, .long x6), (8, .int x8), (9, .int x9)], [], mk X, σ) := by
  unfold g_X8_outermost_99 at h
  obtain ⟨hk_o_X, h⟩ := gd_some h
  refine Ex.blk 2 rfl ?_
  show Ex mr_X8_outermost sc (Cl MT pr sc (d + 2)) (rtE (some (.long r)) (mk X2) σ2) (37, [(9, .int (x9 + 1)), (0, .ref o), (1, .int x1), (2, .int x2), (3, .long x3), (5, .int x5), (6, .long x6), (8, .int x8)], [], mk X, σ)
  show Ex mr_X8_outermost sc (Cl MT pr sc (d + 2)) (rtE (some (.long r)) (mk X2) σ2) (37, [(9, .int (x9 + 1)), (0, .ref o), (1, .int x1), (2, .int x2), (3, .long x3), (5, .int x5), (6, .long x6), (8, .int x8)], [], mk X, σ)
  refine Ex.pick (lv' := _) [1, 2, 3, 4, 5, 6, 7, 0] rfl ?_
  exact hk37 _ _ _ _ _ _ _ _ _ h
theorem lg_X8_outermost_64 {pr : Ct} {sc : Nat × (Nat → Int32)} (d : Nat) (o : Nat) {r : Int64} {X2 : En} {σ2 : St} (k13 : Int32 → Int32 → Int64 → Int32 → En → St → Option (Int64 × En × St)) (k37 : Int32 → Int32 → Int64 → Int32 → Int64 → Int32 → Int32 → En → St → Option (Int64 × En × St)) (hk13 : ∀ (x1 : Int32) (x2 : Int32) (x3 : Int64) (x5 : Int32) (X : En) (σ : St), k13 x1 x2 x3 x5 X σ = some (r, X2, σ2) → Ex mr_X8_outermost sc (Cl MT pr sc (d + 2)) (rtE (some (.long r)) (mk X2) σ2) (13, [(0, .ref o), (1, .int x1), (2, .int x2), (3, .long x3), (5, .int x5)], [], mk X, σ)) (hk37 : ∀ (x1 : Int32) (x2 : Int32) (x3 : Int64) (x5 : Int32) (x6 : Int64) (x8 : Int32) (x9 : Int32) (X : En) (σ : St), k37 x1 x2 x3 x5 x6 x8 x9 X σ = some (r, X2, σ2) → Ex mr_X8_outermost sc (Cl MT pr sc (d + 2)) (rtE (some (.long r)) (mk X2) σ2) (37, [(0, .ref o), (1, .int x1), (2, .int x2), (3, .long x3), (5, .int x5), (6, .long x6), (8, .int x8), (9, .int x9)], [], mk X, σ)) (x1 : Int32) (x2 : Int32) (x3 : Int64) (x5 : Int32) (x6 : Int64) (x8 : Int32) (x9 : Int32) (y0 : Int32) (X : En) (σ : St) (h : g_X8_outermost_64 o k13 k37 x1 x2 x3 x5 x6 x8 x9 y0 X σ = some (r, X2, σ2)) : Ex mr_X8_outermost sc (Cl MT pr sc (d + 2)) (rtE (some (.long r)) (mk X2) σ2) (64, [(0, .ref o), (1, .int x1), (2, .int x2), (3, .long x3), (5, .int x5), (6, .long x6), (8, .int x8), (9, .int x9)], [.int y0], mk X, σ) := by
  unfold g_X8_outermost_64 at h
  obtain ⟨hk_o_X, h⟩ := gd_some h
  refine Ex.blk 2 rfl ?_
  show Ex mr_X8_outermost sc (Cl MT pr sc (d + 2)) (rtE (some (.long r)) (mk X2) σ2) (67, [(10, .int y0), (0, .ref o), (1, .int x1), (2, .int x2), (3, .long x3), (5, .int x5), (6, .long x6), (8, .int x8), (9, .int x9)], [.ref o], mk X, σ)
  obtain ⟨b5, hb6, h⟩ := bind_sp h
  refine ex_get rfl hk_o_X (congrArg orv hb6) ?_
  show Ex mr_X8_outermost sc (Cl MT pr sc (d + 2)) (rtE (some (.long r)) (mk X2) σ2) (70, [(10, .int y0), (0, .ref o), (1, .int x1), (2, .int x2), (3, .long x3), (5, .int x5), (6, .long x6), (8, .int x8), (9, .int x9)], [.ref b5], mk X, σ)
  obtain ⟨hk_b5_X, h⟩ := gd_some h
  refine Ex.blk 5 rfl ?_
  show Ex mr_X8_outermost sc (Cl MT pr sc (d + 2)) (rtE (some (.long r)) (mk X2) σ2) (77, [(10, .int y0), (0, .ref o), (1, .int x1), (2, .int x2), (3, .long x3), (5, .int x5), (6, .long x6), (8, .int x8), (9, .int x9)], [.int x1, .ref o, .int (x5 * 99), .ref b5], mk X, σ)
  refine Ex.blk 5 rfl ?_
  show Ex mr_X8_outermost sc (Cl MT pr sc (d + 2)) (rtE (some (.long r)) (mk X2) σ2) (83, [(10, .int y0), (0, .ref o), (1, .int x1), (2, .int x2), (3, .long x3), (5, .int x5), (6, .long x6), (8, .int x8), (9, .int x9)], [.long y0.toInt64, .long (x1.toInt64 - x3), .ref o, .int (x5 * 99), .ref b5], mk X, σ)
  refine Ex.blk 3 rfl ?_
  show Ex mr_X8_outermost sc (Cl MT pr sc (d + 2)) (rtE (some (.long r)) (mk X2) σ2) (87, [(10, .int y0), (0, .ref o), (1, .int x1), (2, .int x2), (3, .long x3), (5, .int x5), (6, .long x6), (8, .int x8), (9, .int x9)], [.long ((x1.toInt64 - x3) - (y0.toInt64 * x6)), .ref o, .int (x5 * 99), .ref b5], mk X, σ)
  obtain ⟨p7, hp7, h⟩ := bind_sp h
  refine ex_callV (rv := (some (.int p7.1))) (E1 := (mk p7.2.1)) (σ1 := p7.2.2) rfl rfl hk_o_X rfl rfl rfl (cg_X8_restOf (d + 0) hp7) ?_
  show Ex mr_X8_outermost sc (Cl MT pr sc (d + 2)) (rtE (some (.long r)) (mk X2) σ2) (90, [(10, .int y0), (0, .ref o), (1, .int x1), (2, .int x2), (3, .long x3), (5, .int x5), (6, .long x6), (8, .int x8), (9, .int x9)], [.int p7.1, .int (x5 * 99), .ref b5], mk p7.2.1, p7.2.2)
  obtain ⟨hk_o_p7_2_1, h⟩ := gd_some h
  obtain ⟨hk_b5_p7_2_1, h⟩ := gd_some h
  refine Ex.blk 1 rfl ?_
  show Ex mr_X8_outermost sc (Cl MT pr sc (d + 2)) (rtE (some (.long r)) (mk X2) σ2) (91, [(10, .int y0), (0, .ref o), (1, .int x1), (2, .int x2), (3, .long x3), (5, .int x5), (6, .long x6), (8, .int x8), (9, .int x9)], [.int ((x5 * 99) + p7.1), .ref b5], mk p7.2.1, p7.2.2)
  obtain ⟨g8, h⟩ := gd_some h
  refine ex_iald rfl hk_b5_p7_2_1 g8 ?_
  show Ex mr_X8_outermost sc (Cl MT pr sc (d + 2)) (rtE (some (.long r)) (mk X2) σ2) (92, [(10, .int y0), (0, .ref o), (1, .int x1), (2, .int x2), (3, .long x3), (5, .int x5), (6, .long x6), (8, .int x8), (9, .int x9)], [.int (gI p7.2.2 b5 ((x5 * 99) + p7.1).toNatClampNeg)], mk p7.2.1, p7.2.2)
  refine Ex.blk 1 rfl ?_
  rcases ite_sp h with ⟨c9, h⟩ | ⟨c9, h⟩
  · refine And.intro (fun _ => ?_) (fun hn => absurd c9 hn)
    show Ex mr_X8_outermost sc (Cl MT pr sc (d + 2)) (rtE (some (.long r)) (mk X2) σ2) (99, [(10, .int y0), (0, .ref o), (1, .int x1), (2, .int x2), (3, .long x3), (5, .int x5), (6, .long x6), (8, .int x8), (9, .int x9)], [], mk p7.2.1, p7.2.2)
    show Ex mr_X8_outermost sc (Cl MT pr sc (d + 2)) (rtE (some (.long r)) (mk X2) σ2) (99, [(10, .int y0), (0, .ref o), (1, .int x1), (2, .int x2), (3, .long x3), (5, .int x5), (6, .long x6), (8, .int x8), (9, .int x9)], [], mk p7.2.1, p7.2.2)
    refine Ex.pick (lv' := _) [1, 2, 3, 4, 5, 6, 7, 8] rfl ?_
    exact lg_X8_outermost_99 d o _ _ hk13 hk37 _ _ _ _ _ _ _ _ _ h
  · refine And.intro (fun hp => absurd hp c9) (fun _ => ?_)
    show Ex mr_X8_outermost sc (Cl MT pr sc (d + 2)) (rtE (some (.long r)) (mk X2) σ2) (95, [(10, .int y0), (0, .ref o), (1, .int x1), (2, .int x2), (3, .long x3), (5, .int x5), (6, .long x6), (8, .int x8), (9, .int x9)], [], mk p7.2.1, p7.2.2)
    refine Ex.blk 2 rfl ?_
    show Ex mr_X8_outermost sc (Cl MT pr sc (d + 2)) (rtE (some (.long r)) (mk X2) σ2) (99, [(8, .int y0), (10, .int y0), (0, .ref o), (1, .int x1), (2, .int x2), (3, .long x3), (5, .int x5), (6, .long x6), (9, .int x9)], [], mk p7.2.1, p7.2.2)
    show Ex mr_X8_outermost sc (Cl MT pr sc (d + 2)) (rtE (some (.long r)) (mk X2) σ2) (99, [(8, .int y0), (10, .int y0), (0, .ref o), (1, .int x1), (2, .int x2), (3, .long x3), (5, .int x5), (6, .long x6), (9, .int x9)], [], mk p7.2.1, p7.2.2)
    refine Ex.pick (lv' := _) [2, 3, 4, 5, 6, 7, 0, 8] rfl ?_
    exact lg_X8_outermost_99 d o _ _ hk13 hk37 _ _ _ _ _ _ _ _ _ h
theorem lg_X8_outermost_37 {pr : Ct} {sc : Nat × (Nat → Int32)} (d : Nat) (o : Nat) {r : Int64} {X2 : En} {σ2 : St} (k13 : Int32 → Int32 → Int64 → Int32 → En → St → Option (Int64 × En × St)) (hk13 : ∀ (x1 : Int32) (x2 : Int32) (x3 : Int64) (x5 : Int32) (X : En) (σ : St), k13 x1 x2 x3 x5 X σ = some (r, X2, σ2) → Ex mr_X8_outermost sc (Cl MT pr sc (d + 2)) (rtE (some (.long r)) (mk X2) σ2) (13, [(0, .ref o), (1, .int x1), (2, .int x2), (3, .long x3), (5, .int x5)], [], mk X, σ)) : ∀ (n : Nat) (x1 : Int32) (x2 : Int32) (x3 : Int64) (x5 : Int32) (x6 : Int64) (x8 : Int32) (x9 : Int32) (X : En) (σ : St), g_X8_outermost_37 o k13 n x1 x2 x3 x5 x6 x8 x9 X σ = some (r, X2, σ2) → Ex mr_X8_outermost sc (Cl MT pr sc (d + 2)) (rtE (some (.long r)) (mk X2) σ2) (37, [(0, .ref o), (1, .int x1), (2, .int x2), (3, .long x3), (5, .int x5), (6, .long x6), (8, .int x8), (9, .int x9)], [], mk X, σ) := by
  intro n
  induction n with
  | zero =>
    intro x1 x2 x3 x5 x6 x8 x9 X σ h
    cases h
  | succ n ih =>
    intro x1 x2 x3 x5 x6 x8 x9 X σ h
    simp only [g_X8_outermost_37] at h
    obtain ⟨hk_o_X, h⟩ := gd_some h
    refine Ex.blk 3 rfl ?_
    rcases ite_sp h with ⟨c12, h⟩ | ⟨c12, h⟩
    · refine And.intro (fun _ => ?_) (fun hn => absurd c12 hn)
      show Ex mr_X8_outermost sc (Cl MT pr sc (d + 2)) (rtE (some (.long r)) (mk X2) σ2) (105, [(0, .ref o), (1, .int x1), (2, .int x2), (3, .long x3), (5, .int x5), (6, .long x6), (8, .int x8), (9, .int x9)], [], mk X, σ)
      show Ex mr_X8_outermost sc (Cl MT pr sc (d + 2)) (rtE (some (.long r)) (mk X2) σ2) (105, [(0, .ref o), (1, .int x1), (2, .int x2), (3, .long x3), (5, .int x5), (6, .long x6), (8, .int x8), (9, .int x9)], [], mk X, σ)
      refine Ex.pick (lv' := _) [0, 1, 2, 3, 4, 5, 6] rfl ?_
      exact lg_X8_outermost_105 d o _ hk13 _ _ _ _ _ _ _ _ h
    · refine And.intro (fun hp => absurd hp c12) (fun _ => ?_)
      show Ex mr_X8_outermost sc (Cl MT pr sc (d + 2)) (rtE (some (.long r)) (mk X2) σ2) (44, [(0, .ref o), (1, .int x1), (2, .int x2), (3, .long x3), (5, .int x5), (6, .long x6), (8, .int x8), (9, .int x9)], [], mk X, σ)
      refine Ex.blk 3 rfl ?_
      rcases ite_sp h with ⟨c11, h⟩ | ⟨c11, h⟩
      · refine And.intro (fun hp => absurd c11 hp) (fun _ => ?_)
        show Ex mr_X8_outermost sc (Cl MT pr sc (d + 2)) (rtE (some (.long r)) (mk X2) σ2) (50, [(0, .ref o), (1, .int x1), (2, .int x2), (3, .long x3), (5, .int x5), (6, .long x6), (8, .int x8), (9, .int x9)], [], mk X, σ)
        refine Ex.blk 2 rfl ?_
        rcases ite_sp h with ⟨c10, h⟩ | ⟨c10, h⟩
        · refine And.intro (fun _ => ?_) (fun hn => absurd c10 hn)
          show Ex mr_X8_outermost sc (Cl MT pr sc (d + 2)) (rtE (some (.long r)) (mk X2) σ2) (62, [(0, .ref o), (1, .int x1), (2, .int x2), (3, .long x3), (5, .int x5), (6, .long x6), (8, .int x8), (9, .int x9)], [], mk X, σ)
          refine Ex.blk 1 rfl ?_
          show Ex mr_X8_outermost sc (Cl MT pr sc (d + 2)) (rtE (some (.long r)) (mk X2) σ2) (64, [(0, .ref o), (1, .int x1), (2, .int x2), (3, .long x3), (5, .int x5), (6, .long x6), (8, .int x8), (9, .int x9)], [.int x9], mk X, σ)
          show Ex mr_X8_outermost sc (Cl MT pr sc (d + 2)) (rtE (some (.long r)) (mk X2) σ2) (64, [(0, .ref o), (1, .int x1), (2, .int x2), (3, .long x3), (5, .int x5), (6, .long x6), (8, .int x8), (9, .int x9)], [.int x9], mk X, σ)
          exact lg_X8_outermost_64 d o _ _ hk13 ih _ _ _ _ _ _ _ _ _ _ h
        · refine And.intro (fun hp => absurd hp c10) (fun _ => ?_)
          show Ex mr_X8_outermost sc (Cl MT pr sc (d + 2)) (rtE (some (.long r)) (mk X2) σ2) (54, [(0, .ref o), (1, .int x1), (2, .int x2), (3, .long x3), (5, .int x5), (6, .long x6), (8, .int x8), (9, .int x9)], [], mk X, σ)
          refine Ex.blk 4 rfl ?_
          show Ex mr_X8_outermost sc (Cl MT pr sc (d + 2)) (rtE (some (.long r)) (mk X2) σ2) (64, [(0, .ref o), (1, .int x1), (2, .int x2), (3, .long x3), (5, .int x5), (6, .long x6), (8, .int x8), (9, .int x9)], [.int (9 - x9)], mk X, σ)
          show Ex mr_X8_outermost sc (Cl MT pr sc (d + 2)) (rtE (some (.long r)) (mk X2) σ2) (64, [(0, .ref o), (1, .int x1), (2, .int x2), (3, .long x3), (5, .int x5), (6, .long x6), (8, .int x8), (9, .int x9)], [.int (9 - x9)], mk X, σ)
          exact lg_X8_outermost_64 d o _ _ hk13 ih _ _ _ _ _ _ _ _ _ _ h
      · refine And.intro (fun _ => ?_) (fun hn => absurd c11 hn)
        show Ex mr_X8_outermost sc (Cl MT pr sc (d + 2)) (rtE (some (.long r)) (mk X2) σ2) (105, [(0, .ref o), (1, .int x1), (2, .int x2), (3, .long x3), (5, .int x5), (6, .long x6), (8, .int x8), (9, .int x9)], [], mk X, σ)
        show Ex mr_X8_outermost sc (Cl MT pr sc (d + 2)) (rtE (some (.long r)) (mk X2) σ2) (105, [(0, .ref o), (1, .int x1), (2, .int x2), (3, .long x3), (5, .int x5), (6, .long x6), (8, .int x8), (9, .int x9)], [], mk X, σ)
        refine Ex.pick (lv' := _) [0, 1, 2, 3, 4, 5, 6] rfl ?_
        exact lg_X8_outermost_105 d o _ hk13 _ _ _ _ _ _ _ _ h
theorem lg_X8_outermost_31 {pr : Ct} {sc : Nat × (Nat → Int32)} (d : Nat) (o : Nat) {r : Int64} {X2 : En} {σ2 : St} (k13 : Int32 → Int32 → Int64 → Int32 → En → St → Option (Int64 × En × St)) (hk13 : ∀ (x1 : Int32) (x2 : Int32) (x3 : Int64) (x5 : Int32) (X : En) (σ : St), k13 x1 x2 x3 x5 X σ = some (r, X2, σ2) → Ex mr_X8_outermost sc (Cl MT pr sc (d + 2)) (rtE (some (.long r)) (mk X2) σ2) (13, [(0, .ref o), (1, .int x1), (2, .int x2), (3, .long x3), (5, .int x5)], [], mk X, σ)) (x1 : Int32) (x2 : Int32) (x3 : Int64) (x5 : Int32) (x6 : Int64) (X : En) (σ : St) (h : g_X8_outermost_31 o k13 x1 x2 x3 x5 x6 X σ = some (r, X2, σ2)) : Ex mr_X8_outermost sc (Cl MT pr sc (d + 2)) (rtE (some (.long r)) (mk X2) σ2) (31, [(0, .ref o), (1, .int x1), (2, .int x2), (3, .long x3), (5, .int x5), (6, .long x6)], [], mk X, σ) := by
  unfold g_X8_outermost_31 at h
  obtain ⟨hk_o_X, h⟩ := gd_some h
  refine Ex.blk 4 rfl ?_
  show Ex mr_X8_outermost sc (Cl MT pr sc (d + 2)) (rtE (some (.long r)) (mk X2) σ2) (37, [(9, .int 0), (8, .int (-1)), (0, .ref o), (1, .int x1), (2, .int x2), (3, .long x3), (5, .int x5), (6, .long x6)], [], mk X, σ)
  show Ex mr_X8_outermost sc (Cl MT pr sc (d + 2)) (rtE (some (.long r)) (mk X2) σ2) (37, [(9, .int 0), (8, .int (-1)), (0, .ref o), (1, .int x1), (2, .int x2), (3, .long x3), (5, .int x5), (6, .long x6)], [], mk X, σ)
  refine Ex.pick (lv' := _) [2, 3, 4, 5, 6, 7, 1, 0] rfl ?_
  exact lg_X8_outermost_37 d o _ hk13 FU _ _ _ _ _ _ _ _ _ h
theorem lg_X8_outermost_13 {pr : Ct} {sc : Nat × (Nat → Int32)} (d : Nat) (o : Nat) {r : Int64} {X2 : En} {σ2 : St} : ∀ (n : Nat) (x1 : Int32) (x2 : Int32) (x3 : Int64) (x5 : Int32) (X : En) (σ : St), g_X8_outermost_13 o n x1 x2 x3 x5 X σ = some (r, X2, σ2) → Ex mr_X8_outermost sc (Cl MT pr sc (d + 2)) (rtE (some (.long r)) (mk X2) σ2) (13, [(0, .ref o), (1, .int x1), (2, .int x2), (3, .long x3), (5, .int x5)], [], mk X, σ) := by
  intro n
  induction n with
  | zero =>
    intro x1 x2 x3 x5 X σ h
    cases h
  | succ n ih =>
    intro x1 x2 x3 x5 X σ h
    simp only [g_X8_outermost_13] at h
    obtain ⟨hk_o_X, h⟩ := gd_some h
    refine Ex.blk 2 rfl ?_
    rcases ite_sp h with ⟨c13, h⟩ | ⟨c13, h⟩
    · refine And.intro (fun _ => ?_) (fun hn => absurd c13 hn)
      show Ex mr_X8_outermost sc (Cl MT pr sc (d + 2)) (rtE (some (.long r)) (mk X2) σ2) (124, [(0, .ref o), (1, .int x1), (2, .int x2), (3, .long x3), (5, .int x5)], [], mk X, σ)
      refine Ex.blk 2 rfl ?_
      cases h
      exact And.intro trivial ⟨rfl, rfl, rfl⟩
    · refine And.intro (fun hp => absurd hp c13) (fun _ => ?_)
      show Ex mr_X8_outermost sc (Cl MT pr sc (d + 2)) (rtE (some (.long r)) (mk X2) σ2) (18, [(0, .ref o), (1, .int x1), (2, .int x2), (3, .long x3), (5, .int x5)], [], mk X, σ)
      refine Ex.blk 2 rfl ?_
      show Ex mr_X8_outermost sc (Cl MT pr sc (d + 2)) (rtE (some (.long r)) (mk X2) σ2) (22, [(0, .ref o), (1, .int x1), (2, .int x2), (3, .long x3), (5, .int x5)], [.ref o, .ref TN], mk X, σ)
      obtain ⟨b1, hb2, h⟩ := bind_sp h
      refine ex_get rfl hk_o_X (congrArg orv hb2) ?_
      show Ex mr_X8_outermost sc (Cl MT pr sc (d + 2)) (rtE (some (.long r)) (mk X2) σ2) (25, [(0, .ref o), (1, .int x1), (2, .int x2), (3, .long x3), (5, .int x5)], [.ref b1, .ref TN], mk X, σ)
      obtain ⟨hk_b1_X, h⟩ := gd_some h
      refine Ex.blk 1 rfl ?_
      show Ex mr_X8_outermost sc (Cl MT pr sc (d + 2)) (rtE (some (.long r)) (mk X2) σ2) (27, [(0, .ref o), (1, .int x1), (2, .int x2), (3, .long x3), (5, .int x5)], [.int x5, .ref b1, .ref TN], mk X, σ)
      obtain ⟨g3, h⟩ := gd_some h
      refine ex_iald rfl hk_b1_X g3 ?_
      show Ex mr_X8_outermost sc (Cl MT pr sc (d + 2)) (rtE (some (.long r)) (mk X2) σ2) (28, [(0, .ref o), (1, .int x1), (2, .int x2), (3, .long x3), (5, .int x5)], [.int (gI σ b1 x5.toNatClampNeg), .ref TN], mk X, σ)
      obtain ⟨g4, h⟩ := gd_some h
      refine Ex.blk 1 rfl ?_
      refine And.intro (inb_ok g4) ?_
      show Ex mr_X8_outermost sc (Cl MT pr sc (d + 2)) (rtE (some (.long r)) (mk X2) σ2) (29, [(0, .ref o), (1, .int x1), (2, .int x2), (3, .long x3), (5, .int x5)], [.long (tens (gI σ b1 x5.toNatClampNeg).toNatClampNeg)], mk X, σ)
      refine Ex.blk 1 rfl ?_
      show Ex mr_X8_outermost sc (Cl MT pr sc (d + 2)) (rtE (some (.long r)) (mk X2) σ2) (31, [(6, .long (tens (gI σ b1 x5.toNatClampNeg).toNatClampNeg)), (0, .ref o), (1, .int x1), (2, .int x2), (3, .long x3), (5, .int x5)], [], mk X, σ)
      show Ex mr_X8_outermost sc (Cl MT pr sc (d + 2)) (rtE (some (.long r)) (mk X2) σ2) (31, [(6, .long (tens (gI σ b1 x5.toNatClampNeg).toNatClampNeg)), (0, .ref o), (1, .int x1), (2, .int x2), (3, .long x3), (5, .int x5)], [], mk X, σ)
      refine Ex.pick (lv' := _) [1, 2, 3, 4, 5, 0] rfl ?_
      exact lg_X8_outermost_31 d o _ ih _ _ _ _ _ _ _ h
theorem lg_X8_outermost_5 {pr : Ct} {sc : Nat × (Nat → Int32)} (d : Nat) (o : Nat) {r : Int64} {X2 : En} {σ2 : St} (x1 : Int32) (x2 : Int32) (x3 : Int64) (X : En) (σ : St) (h : g_X8_outermost_5 o x1 x2 x3 X σ = some (r, X2, σ2)) : Ex mr_X8_outermost sc (Cl MT pr sc (d + 2)) (rtE (some (.long r)) (mk X2) σ2) (5, [(0, .ref o), (1, .int x1), (2, .int x2), (3, .long x3)], [], mk X, σ) := by
  unfold g_X8_outermost_5 at h
  obtain ⟨hk_o_X, h⟩ := gd_some h
  refine Ex.blk 1 rfl ?_
  show Ex mr_X8_outermost sc (Cl MT pr sc (d + 2)) (rtE (some (.long r)) (mk X2) σ2) (6, [(0, .ref o), (1, .int x1), (2, .int x2), (3, .long x3)], [.ref o], mk X, σ)
  refine ex_get rfl hk_o_X rfl ?_
  show Ex mr_X8_outermost sc (Cl MT pr sc (d + 2)) (rtE (some (.long r)) (mk X2) σ2) (9, [(0, .ref o), (1, .int x1), (2, .int x2), (3, .long x3)], [.int (gI σ o 2)], mk X, σ)
  refine Ex.blk 3 rfl ?_
  show Ex mr_X8_outermost sc (Cl MT pr sc (d + 2)) (rtE (some (.long r)) (mk X2) σ2) (13, [(5, .int ((gI σ o 2) - 1)), (0, .ref o), (1, .int x1), (2, .int x2), (3, .long x3)], [], mk X, σ)
  show Ex mr_X8_outermost sc (Cl MT pr sc (d + 2)) (rtE (some (.long r)) (mk X2) σ2) (13, [(5, .int ((gI σ o 2) - 1)), (0, .ref o), (1, .int x1), (2, .int x2), (3, .long x3)], [], mk X, σ)
  refine Ex.pick (lv' := _) [1, 2, 3, 4, 0] rfl ?_
  exact lg_X8_outermost_13 d o FU _ _ _ _ _ _ h
theorem cg_X8_outermost {pr : Ct} {sc : Nat × (Nat → Int32)} (d : Nat) {r : Int64} {X2 : En} {σ2 : St} {o : Nat} {x1 : Int32} {x2 : Int32} {X : En} {σ : St} (h : g_X8_outermost o x1 x2 X σ = some (r, X2, σ2)) : Cl MT pr sc (d + 2 + 1) 80 [.ref o, .int x1, .int x2] (mk X) σ (some (.long r)) (mk X2) σ2 := by
  unfold g_X8_outermost at h
  obtain ⟨p, hp, h⟩ := bind_sp h
  obtain ⟨hz, h⟩ := gd_some h
  cases h
  refine cl_of2 mr_X8_outermost rfl rfl hz ?_
  have h := hp
  clear hp
  unfold g_X8_outermost_b at h
  obtain ⟨hk_o_X, h⟩ := gd_some h
  refine Ex.blk 1 rfl ?_
  show Ex mr_X8_outermost sc (Cl MT pr sc (d + 2)) (rtE (some (.long r)) (mk X2) σ2) (1, [(0, .ref o), (1, .int x1), (2, .int x2)], [.ref o], mk X, σ)
  refine ex_get rfl hk_o_X rfl ?_
  show Ex mr_X8_outermost sc (Cl MT pr sc (d + 2)) (rtE (some (.long r)) (mk X2) σ2) (4, [(0, .ref o), (1, .int x1), (2, .int x2)], [.long (gJ σ o 4)], mk X, σ)
  refine Ex.blk 1 rfl ?_
  show Ex mr_X8_outermost sc (Cl MT pr sc (d + 2)) (rtE (some (.long r)) (mk X2) σ2) (5, [(3, .long (gJ σ o 4)), (0, .ref o), (1, .int x1), (2, .int x2)], [], mk X, σ)
  show Ex mr_X8_outermost sc (Cl MT pr sc (d + 2)) (rtE (some (.long r)) (mk X2) σ2) (5, [(3, .long (gJ σ o 4)), (0, .ref o), (1, .int x1), (2, .int x2)], [], mk X, σ)
  refine Ex.pick (lv' := _) [1, 2, 3, 0] rfl ?_
  exact lg_X8_outermost_5 d o _ _ _ _ _ h
theorem lg_X9_span_17 {pr : Ct} {sc : Nat × (Nat → Int32)} (d : Nat) {r : Int64} {X2 : En} {σ2 : St} (X : En) (σ : St) (h : g_X9_span_17 X σ = some (r, X2, σ2)) : Ex mr_X9_span sc (Cl MT pr sc (d + 4)) (rtE (some (.long r)) (mk X2) σ2) (17, [], [], mk X, σ) := by
  unfold g_X9_span_17 at h
  refine Ex.blk 2 rfl ?_
  cases h
  exact And.intro trivial ⟨rfl, rfl, rfl⟩
theorem lg_X9_span_98 {pr : Ct} {sc : Nat × (Nat → Int32)} (d : Nat) {r : Int64} {X2 : En} {σ2 : St} (y0 : Int64) (X : En) (σ : St) (h : g_X9_span_98 y0 X σ = some (r, X2, σ2)) : Ex mr_X9_span sc (Cl MT pr sc (d + 4)) (rtE (some (.long r)) (mk X2) σ2) (98, [], [.long y0], mk X, σ) := by
  unfold g_X9_span_98 at h
  refine Ex.blk 1 rfl ?_
  cases h
  exact And.intro trivial ⟨rfl, rfl, rfl⟩
theorem lg_X9_span_95 {pr : Ct} {sc : Nat × (Nat → Int32)} (d : Nat) {r : Int64} {X2 : En} {σ2 : St} (w2 : Nat) (y0 : Int32) (y1 : Int32) (X : En) (σ : St) (h : g_X9_span_95 w2 y0 y1 X σ = some (r, X2, σ2)) : Ex mr_X9_span sc (Cl MT pr sc (d + 4)) (rtE (some (.long r)) (mk X2) σ2) (95, [], [.int y0, .int y1, .ref w2], mk X, σ) := by
  unfold g_X9_span_95 at h
  obtain ⟨hk_w2_X, h⟩ := gd_some h
  obtain ⟨p12, hp12, h⟩ := bind_sp h
  refine ex_callV (rv := (some (.long p12.1))) (E1 := (mk p12.2.1)) (σ1 := p12.2.2) rfl rfl hk_w2_X rfl rfl rfl (cg_X8_outermost (d + 1) hp12) ?_
  show Ex mr_X9_span sc (Cl MT pr sc (d + 4)) (rtE (some (.long r)) (mk X2) σ2) (98, [], [.long p12.1], mk p12.2.1, p12.2.2)
  show Ex mr_X9_span sc (Cl MT pr sc (d + 4)) (rtE (some (.long r)) (mk X2) σ2) (98, [], [.long p12.1], mk p12.2.1, p12.2.2)
  exact lg_X9_span_98 d _ _ _ h
theorem lg_X9_span_39 {pr : Ct} {sc : Nat × (Nat → Int32)} (d : Nat) {r : Int64} {X2 : En} {σ2 : St} (x1 : Int32) (x2 : Int32) (x3 : Int32) (X : En) (σ : St) (h : g_X9_span_39 x1 x2 x3 X σ = some (r, X2, σ2)) : Ex mr_X9_span sc (Cl MT pr sc (d + 4)) (rtE (some (.long r)) (mk X2) σ2) (39, [(0, .ref 0), (1, .int x1), (2, .int x2), (3, .int x3)], [], mk X, σ) := by
  unfold g_X9_span_39 at h
  refine Ex.blk 1 rfl ?_
  show Ex mr_X9_span sc (Cl MT pr sc (d + 4)) (rtE (some (.long r)) (mk X2) σ2) (40, [(0, .ref 0), (1, .int x1), (2, .int x2), (3, .int x3)], [.ref 0], mk X, σ)
  rcases mR_sp h with ⟨hb5, h⟩ | ⟨b4, hb5, h⟩
  · refine ex_get rfl (by rfl) (congrArg orv hb5) ?_
    show Ex mr_X9_span sc (Cl MT pr sc (d + 4)) (rtE (some (.long r)) (mk X2) σ2) (43, [(0, .ref 0), (1, .int x1), (2, .int x2), (3, .int x3)], [.null], mk X, σ)
    cases h
  · refine ex_get rfl (by rfl) (congrArg orv hb5) ?_
    show Ex mr_X9_span sc (Cl MT pr sc (d + 4)) (rtE (some (.long r)) (mk X2) σ2) (43, [(0, .ref 0), (1, .int x1), (2, .int x2), (3, .int x3)], [.ref b4], mk X, σ)
    obtain ⟨hk_b4_X, h⟩ := gd_some h
    refine Ex.blk 3 rfl ?_
    show Ex mr_X9_span sc (Cl MT pr sc (d + 4)) (rtE (some (.long r)) (mk X2) σ2) (48, [(0, .ref 0), (1, .int x1), (2, .int x2), (3, .int x3)], [.int x1, .ref 1, .ref b4], mk X, σ)
    obtain ⟨p6, hp6, h⟩ := bind_sp h
    refine ex_callV (rv := none) (E1 := (mk p6.1)) (σ1 := p6.2) rfl rfl hk_b4_X rfl rfl rfl (cg_X8_look (d + 0) hp6) ?_
    show Ex mr_X9_span sc (Cl MT pr sc (d + 4)) (rtE (some (.long r)) (mk X2) σ2) (51, [(0, .ref 0), (1, .int x1), (2, .int x2), (3, .int x3)], [], mk p6.1, p6.2)
    refine Ex.blk 1 rfl ?_
    show Ex mr_X9_span sc (Cl MT pr sc (d + 4)) (rtE (some (.long r)) (mk X2) σ2) (52, [(0, .ref 0), (1, .int x1), (2, .int x2), (3, .int x3)], [.ref 0], mk p6.1, p6.2)
    rcases mR_sp h with ⟨hb8, h⟩ | ⟨b7, hb8, h⟩
    · refine ex_get rfl (by rfl) (congrArg orv hb8) ?_
      show Ex mr_X9_span sc (Cl MT pr sc (d + 4)) (rtE (some (.long r)) (mk X2) σ2) (55, [(0, .ref 0), (1, .int x1), (2, .int x2), (3, .int x3)], [.null], mk p6.1, p6.2)
      cases h
    · refine ex_get rfl (by rfl) (congrArg orv hb8) ?_
      show Ex mr_X9_span sc (Cl MT pr sc (d + 4)) (rtE (some (.long r)) (mk X2) σ2) (55, [(0, .ref 0), (1, .int x1), (2, .int x2), (3, .int x3)], [.ref b7], mk p6.1, p6.2)
      obtain ⟨hk_b7_p6_1, h⟩ := gd_some h
      refine Ex.blk 1 rfl ?_
      show Ex mr_X9_span sc (Cl MT pr sc (d + 4)) (rtE (some (.long r)) (mk X2) σ2) (56, [(0, .ref 0), (1, .int x1), (2, .int x2), (3, .int x3)], [.int x2, .ref b7], mk p6.1, p6.2)
      obtain ⟨p9, hp9, h⟩ := bind_sp h
      refine ex_callV (rv := (some (.int p9.1))) (E1 := (mk p9.2.1)) (σ1 := p9.2.2) rfl rfl hk_b7_p6_1 rfl rfl rfl (cg_X8_howMany (d + 1) hp9) ?_
      show Ex mr_X9_span sc (Cl MT pr sc (d + 4)) (rtE (some (.long r)) (mk X2) σ2) (59, [(0, .ref 0), (1, .int x1), (2, .int x2), (3, .int x3)], [.int p9.1], mk p9.2.1, p9.2.2)
      refine Ex.blk 3 rfl ?_
      rcases ite_sp h with ⟨c15, h⟩ | ⟨c15, h⟩
      · refine And.intro (fun hp => absurd c15 hp) (fun _ => ?_)
        show Ex mr_X9_span sc (Cl MT pr sc (d + 4)) (rtE (some (.long r)) (mk X2) σ2) (65, [(4, .int p9.1), (0, .ref 0), (1, .int x1), (2, .int x2), (3, .int x3)], [], mk p9.2.1, p9.2.2)
        refine Ex.blk 3 rfl ?_
        cases h
        exact And.intro trivial ⟨rfl, rfl, rfl⟩
      · refine And.intro (fun _ => ?_) (fun hn => absurd c15 hn)
        show Ex mr_X9_span sc (Cl MT pr sc (d + 4)) (rtE (some (.long r)) (mk X2) σ2) (69, [(4, .int p9.1), (0, .ref 0), (1, .int x1), (2, .int x2), (3, .int x3)], [], mk p9.2.1, p9.2.2)
        refine Ex.blk 2 rfl ?_
        rcases ite_sp h with ⟨c14, h⟩ | ⟨c14, h⟩
        · refine And.intro (fun hp => absurd c14 hp) (fun _ => ?_)
          show Ex mr_X9_span sc (Cl MT pr sc (d + 4)) (rtE (some (.long r)) (mk X2) σ2) (74, [(4, .int p9.1), (0, .ref 0), (1, .int x1), (2, .int x2), (3, .int x3)], [], mk p9.2.1, p9.2.2)
          refine Ex.blk 2 rfl ?_
          show Ex mr_X9_span sc (Cl MT pr sc (d + 4)) (rtE (some (.long r)) (mk X2) σ2) (98, [(4, .int p9.1), (0, .ref 0), (1, .int x1), (2, .int x2), (3, .int x3)], [.long (-1)], mk p9.2.1, p9.2.2)
          show Ex mr_X9_span sc (Cl MT pr sc (d + 4)) (rtE (some (.long r)) (mk X2) σ2) (98, [(4, .int p9.1), (0, .ref 0), (1, .int x1), (2, .int x2), (3, .int x3)], [.long (-1)], mk p9.2.1, p9.2.2)
          refine Ex.pick (lv' := _) [] rfl ?_
          exact lg_X9_span_98 d _ _ _ h
        · refine And.intro (fun _ => ?_) (fun hn => absurd c14 hn)
          show Ex mr_X9_span sc (Cl MT pr sc (d + 4)) (rtE (some (.long r)) (mk X2) σ2) (80, [(4, .int p9.1), (0, .ref 0), (1, .int x1), (2, .int x2), (3, .int x3)], [], mk p9.2.1, p9.2.2)
          refine Ex.blk 1 rfl ?_
          show Ex mr_X9_span sc (Cl MT pr sc (d + 4)) (rtE (some (.long r)) (mk X2) σ2) (81, [(4, .int p9.1), (0, .ref 0), (1, .int x1), (2, .int x2), (3, .int x3)], [.ref 0], mk p9.2.1, p9.2.2)
          rcases mR_sp h with ⟨hb11, h⟩ | ⟨b10, hb11, h⟩
          · refine ex_get rfl (by rfl) (congrArg orv hb11) ?_
            show Ex mr_X9_span sc (Cl MT pr sc (d + 4)) (rtE (some (.long r)) (mk X2) σ2) (84, [(4, .int p9.1), (0, .ref 0), (1, .int x1), (2, .int x2), (3, .int x3)], [.null], mk p9.2.1, p9.2.2)
            cases h
          · refine ex_get rfl (by rfl) (congrArg orv hb11) ?_
            show Ex mr_X9_span sc (Cl MT pr sc (d + 4)) (rtE (some (.long r)) (mk X2) σ2) (84, [(4, .int p9.1), (0, .ref 0), (1, .int x1), (2, .int x2), (3, .int x3)], [.ref b10], mk p9.2.1, p9.2.2)
            obtain ⟨hk_b10_p9_2_1, h⟩ := gd_some h
            refine Ex.blk 4 rfl ?_
            rcases ite_sp h with ⟨c13, h⟩ | ⟨c13, h⟩
            · refine And.intro (fun hp => absurd c13 hp) (fun _ => ?_)
              show Ex mr_X9_span sc (Cl MT pr sc (d + 4)) (rtE (some (.long r)) (mk X2) σ2) (90, [(4, .int p9.1), (0, .ref 0), (1, .int x1), (2, .int x2), (3, .int x3)], [.int x2, .ref b10], mk p9.2.1, p9.2.2)
              refine Ex.blk 2 rfl ?_
              show Ex mr_X9_span sc (Cl MT pr sc (d + 4)) (rtE (some (.long r)) (mk X2) σ2) (95, [(4, .int p9.1), (0, .ref 0), (1, .int x1), (2, .int x2), (3, .int x3)], [.int 1, .int x2, .ref b10], mk p9.2.1, p9.2.2)
              show Ex mr_X9_span sc (Cl MT pr sc (d + 4)) (rtE (some (.long r)) (mk X2) σ2) (95, [(4, .int p9.1), (0, .ref 0), (1, .int x1), (2, .int x2), (3, .int x3)], [.int 1, .int x2, .ref b10], mk p9.2.1, p9.2.2)
              refine Ex.pick (lv' := _) [] rfl ?_
              exact lg_X9_span_95 d _ _ _ _ _ h
            · refine And.intro (fun _ => ?_) (fun hn => absurd c13 hn)
              show Ex mr_X9_span sc (Cl MT pr sc (d + 4)) (rtE (some (.long r)) (mk X2) σ2) (94, [(4, .int p9.1), (0, .ref 0), (1, .int x1), (2, .int x2), (3, .int x3)], [.int x2, .ref b10], mk p9.2.1, p9.2.2)
              refine Ex.blk 1 rfl ?_
              show Ex mr_X9_span sc (Cl MT pr sc (d + 4)) (rtE (some (.long r)) (mk X2) σ2) (95, [(4, .int p9.1), (0, .ref 0), (1, .int x1), (2, .int x2), (3, .int x3)], [.int 0, .int x2, .ref b10], mk p9.2.1, p9.2.2)
              show Ex mr_X9_span sc (Cl MT pr sc (d + 4)) (rtE (some (.long r)) (mk X2) σ2) (95, [(4, .int p9.1), (0, .ref 0), (1, .int x1), (2, .int x2), (3, .int x3)], [.int 0, .int x2, .ref b10], mk p9.2.1, p9.2.2)
              refine Ex.pick (lv' := _) [] rfl ?_
              exact lg_X9_span_95 d _ _ _ _ _ h
theorem cg_X9_span {pr : Ct} {sc : Nat × (Nat → Int32)} (d : Nat) {r : Int64} {X2 : En} {σ2 : St} {x1 : Int32} {x2 : Int32} {x3 : Int32} {X : En} {σ : St} (h : g_X9_span x1 x2 x3 X σ = some (r, X2, σ2)) : Cl MT pr sc (d + 4 + 1) 114 [.ref 0, .int x1, .int x2, .int x3] (mk X) σ (some (.long r)) (mk X2) σ2 := by
  unfold g_X9_span at h
  obtain ⟨p, hp, h⟩ := bind_sp h
  obtain ⟨hz, h⟩ := gd_some h
  cases h
  refine cl_of2 mr_X9_span rfl rfl hz ?_
  have h := hp
  clear hp
  unfold g_X9_span_b at h
  refine Ex.blk 2 rfl ?_
  show Ex mr_X9_span sc (Cl MT pr sc (d + 4)) (rtE (some (.long r)) (mk X2) σ2) (2, [(0, .ref 0), (1, .int x1), (2, .int x2), (3, .int x3)], [.int x2, .int x1], mk X, σ)
  obtain ⟨p1, hp1, h⟩ := bind_sp h
  refine Ex.blk 1 rfl ?_
  refine Exists.intro (some (.int p1.1)) (Exists.intro (mk X) (Exists.intro p1.2 (And.intro (cl_X9_isRest (d + 3) hp1) ?_)))
  show Ex mr_X9_span sc (Cl MT pr sc (d + 4)) (rtE (some (.long r)) (mk X2) σ2) (5, [(0, .ref 0), (1, .int x1), (2, .int x2), (3, .int x3)], [.int p1.1], mk X, p1.2)
  refine Ex.blk 1 rfl ?_
  rcases ite_sp h with ⟨c26, h⟩ | ⟨c26, h⟩
  · refine And.intro (fun _ => ?_) (fun hn => absurd c26 hn)
    show Ex mr_X9_span sc (Cl MT pr sc (d + 4)) (rtE (some (.long r)) (mk X2) σ2) (17, [(0, .ref 0), (1, .int x1), (2, .int x2), (3, .int x3)], [], mk X, p1.2)
    show Ex mr_X9_span sc (Cl MT pr sc (d + 4)) (rtE (some (.long r)) (mk X2) σ2) (17, [(0, .ref 0), (1, .int x1), (2, .int x2), (3, .int x3)], [], mk X, p1.2)
    refine Ex.pick (lv' := _) [] rfl ?_
    exact lg_X9_span_17 d _ _ h
  · refine And.intro (fun hp => absurd hp c26) (fun _ => ?_)
    show Ex mr_X9_span sc (Cl MT pr sc (d + 4)) (rtE (some (.long r)) (mk X2) σ2) (8, [(0, .ref 0), (1, .int x1), (2, .int x2), (3, .int x3)], [], mk X, p1.2)
    refine Ex.blk 2 rfl ?_
    rcases ite_sp h with ⟨c25, h⟩ | ⟨c25, h⟩
    · refine And.intro (fun _ => ?_) (fun hn => absurd c25 hn)
      show Ex mr_X9_span sc (Cl MT pr sc (d + 4)) (rtE (some (.long r)) (mk X2) σ2) (17, [(0, .ref 0), (1, .int x1), (2, .int x2), (3, .int x3)], [], mk X, p1.2)
      show Ex mr_X9_span sc (Cl MT pr sc (d + 4)) (rtE (some (.long r)) (mk X2) σ2) (17, [(0, .ref 0), (1, .int x1), (2, .int x2), (3, .int x3)], [], mk X, p1.2)
      refine Ex.pick (lv' := _) [] rfl ?_
      exact lg_X9_span_17 d _ _ h
    · refine And.intro (fun hp => absurd hp c25) (fun _ => ?_)
      show Ex mr_X9_span sc (Cl MT pr sc (d + 4)) (rtE (some (.long r)) (mk X2) σ2) (12, [(0, .ref 0), (1, .int x1), (2, .int x2), (3, .int x3)], [], mk X, p1.2)
      refine Ex.blk 3 rfl ?_
      rcases ite_sp h with ⟨c24, h⟩ | ⟨c24, h⟩
      · refine And.intro (fun _ => ?_) (fun hn => absurd c24 hn)
        show Ex mr_X9_span sc (Cl MT pr sc (d + 4)) (rtE (some (.long r)) (mk X2) σ2) (21, [(0, .ref 0), (1, .int x1), (2, .int x2), (3, .int x3)], [], mk X, p1.2)
        refine Ex.blk 1 rfl ?_
        show Ex mr_X9_span sc (Cl MT pr sc (d + 4)) (rtE (some (.long r)) (mk X2) σ2) (22, [(0, .ref 0), (1, .int x1), (2, .int x2), (3, .int x3)], [.ref 0], mk X, p1.2)
        rcases mR_sp h with ⟨hb3, h⟩ | ⟨b2, hb3, h⟩
        · refine ex_get rfl (by rfl) (congrArg orv hb3) ?_
          show Ex mr_X9_span sc (Cl MT pr sc (d + 4)) (rtE (some (.long r)) (mk X2) σ2) (25, [(0, .ref 0), (1, .int x1), (2, .int x2), (3, .int x3)], [.null], mk X, p1.2)
          refine Ex.blk 1 rfl ?_
          show Ex mr_X9_span sc (Cl MT pr sc (d + 4)) (rtE (some (.long r)) (mk X2) σ2) (28, [(0, .ref 0), (1, .int x1), (2, .int x2), (3, .int x3)], [], mk X, p1.2)
          refine Ex.blk 1 rfl ?_
          show Ex mr_X9_span sc (Cl MT pr sc (d + 4)) (rtE (some (.long r)) (mk X2) σ2) (29, [(0, .ref 0), (1, .int x1), (2, .int x2), (3, .int x3)], [.ref 0], mk X, p1.2)
          obtain ⟨g23, h⟩ := gd_some h
          obtain ⟨t18, Y19, τ20, he21, h⟩ := mkO_sp h
          refine ex_newX rfl g23 he21 ?_
          show Ex mr_X9_span sc (Cl MT pr sc (d + 4)) (rtE (some (.long r)) (mk X2) σ2) (32, [(0, .ref 0), (1, .int x1), (2, .int x2), (3, .int x3)], [.ref t18, .ref 0], mk Y19, τ20)
          obtain ⟨hk_t18_Y19, h⟩ := gd_some h
          refine Ex.blk 1 rfl ?_
          show Ex mr_X9_span sc (Cl MT pr sc (d + 4)) (rtE (some (.long r)) (mk X2) σ2) (33, [(0, .ref 0), (1, .int x1), (2, .int x2), (3, .int x3)], [.ref t18, .ref t18, .ref 0], mk Y19, τ20)
          obtain ⟨p22, hp22, h⟩ := bind_sp h
          refine Ex.blk 1 rfl ?_
          refine Exists.intro none (Exists.intro (mk p22.1) (Exists.intro p22.2 (And.intro (cg_X8_init (d + 3) hp22) ?_)))
          show Ex mr_X9_span sc (Cl MT pr sc (d + 4)) (rtE (some (.long r)) (mk X2) σ2) (36, [(0, .ref 0), (1, .int x1), (2, .int x2), (3, .int x3)], [.ref t18, .ref 0], mk p22.1, p22.2)
          obtain ⟨hk_t18_p22_1, h⟩ := gd_some h
          refine Ex.blk 1 rfl ?_
          show Ex mr_X9_span sc (Cl MT pr sc (d + 4)) (rtE (some (.long r)) (mk X2) σ2) (39, [(0, .ref 0), (1, .int x1), (2, .int x2), (3, .int x3)], [], mk p22.1, (sR p22.2 0 12 (some t18)))
          show Ex mr_X9_span sc (Cl MT pr sc (d + 4)) (rtE (some (.long r)) (mk X2) σ2) (39, [(0, .ref 0), (1, .int x1), (2, .int x2), (3, .int x3)], [], mk p22.1, (sR p22.2 0 12 (some t18)))
          exact lg_X9_span_39 d _ _ _ _ _ h
        · refine ex_get rfl (by rfl) (congrArg orv hb3) ?_
          show Ex mr_X9_span sc (Cl MT pr sc (d + 4)) (rtE (some (.long r)) (mk X2) σ2) (25, [(0, .ref 0), (1, .int x1), (2, .int x2), (3, .int x3)], [.ref b2], mk X, p1.2)
          obtain ⟨hk_b2_X, h⟩ := gd_some h
          refine Ex.blk 1 rfl ?_
          show Ex mr_X9_span sc (Cl MT pr sc (d + 4)) (rtE (some (.long r)) (mk X2) σ2) (39, [(0, .ref 0), (1, .int x1), (2, .int x2), (3, .int x3)], [], mk X, p1.2)
          show Ex mr_X9_span sc (Cl MT pr sc (d + 4)) (rtE (some (.long r)) (mk X2) σ2) (39, [(0, .ref 0), (1, .int x1), (2, .int x2), (3, .int x3)], [], mk X, p1.2)
          exact lg_X9_span_39 d _ _ _ _ _ h
      · refine And.intro (fun hp => absurd hp c24) (fun _ => ?_)
        show Ex mr_X9_span sc (Cl MT pr sc (d + 4)) (rtE (some (.long r)) (mk X2) σ2) (17, [(0, .ref 0), (1, .int x1), (2, .int x2), (3, .int x3)], [], mk X, p1.2)
        show Ex mr_X9_span sc (Cl MT pr sc (d + 4)) (rtE (some (.long r)) (mk X2) σ2) (17, [(0, .ref 0), (1, .int x1), (2, .int x2), (3, .int x3)], [], mk X, p1.2)
        refine Ex.pick (lv' := _) [] rfl ?_
        exact lg_X9_span_17 d _ _ h
theorem cg_J7_copyOf_59c91 {pr : Ct} {sc : Nat × (Nat → Int32)} (d : Nat) {r : Nat} {X2 : En} {σ2 : St} {x1 : Int32} {X : En} {σ : St} (h : g_J7_copyOf_59c91 x1 X σ = some (r, X2, σ2)) : Cl MT pr sc (d + 0 + 1) 44 [.ref 13, .int x1] (mk X) σ (some (.ref r)) (mk X2) σ2 := by
  unfold g_J7_copyOf_59c91 at h
  obtain ⟨p, hp, h⟩ := bind_sp h
  obtain ⟨hz, h⟩ := gd_some h
  cases h
  refine cl_of2 mr_J7_copyOf_59c91 rfl rfl hz ?_
  have h := hp
  clear hp
  unfold g_J7_copyOf_59c91_b at h
  refine Ex.blk 4 rfl ?_
  rcases ite_sp h with ⟨c14, h⟩ | ⟨c14, h⟩
  · refine And.intro (fun hp => absurd c14 hp) (fun _ => ?_)
    show Ex mr_J7_copyOf_59c91 sc (Cl MT pr sc (d + 0)) (rtE (some (.ref r)) (mk X2) σ2) (6, [(0, .ref 13), (1, .int x1)], [], mk X, σ)
    refine Ex.blk 1 rfl ?_
    show Ex mr_J7_copyOf_59c91 sc (Cl MT pr sc (d + 0)) (rtE (some (.ref r)) (mk X2) σ2) (7, [(0, .ref 13), (1, .int x1)], [.ref 13], mk X, σ)
    obtain ⟨g13, h⟩ := gd_some h
    obtain ⟨t9, Y10, τ11, he12, h⟩ := clA_sp h
    refine ex_cloneX rfl rfl rfl (by rfl) rfl g13 he12 ?_
    show Ex mr_J7_copyOf_59c91 sc (Cl MT pr sc (d + 0)) (rtE (some (.ref r)) (mk X2) σ2) (10, [(0, .ref 13), (1, .int x1)], [.ref t9], mk Y10, τ11)
    obtain ⟨hk_t9_Y10, h⟩ := gd_some h
    refine ex_cast rfl hk_t9_Y10 ?_
    show Ex mr_J7_copyOf_59c91 sc (Cl MT pr sc (d + 0)) (rtE (some (.ref r)) (mk X2) σ2) (13, [(0, .ref 13), (1, .int x1)], [.ref t9], mk Y10, τ11)
    refine Ex.blk 1 rfl ?_
    cases h
    exact And.intro trivial ⟨rfl, rfl, rfl⟩
  · refine And.intro (fun _ => ?_) (fun hn => absurd c14 hn)
    show Ex mr_J7_copyOf_59c91 sc (Cl MT pr sc (d + 0)) (rtE (some (.ref r)) (mk X2) σ2) (14, [(0, .ref 13), (1, .int x1)], [], mk X, σ)
    refine Ex.blk 1 rfl ?_
    show Ex mr_J7_copyOf_59c91 sc (Cl MT pr sc (d + 0)) (rtE (some (.ref r)) (mk X2) σ2) (15, [(0, .ref 13), (1, .int x1)], [.int x1], mk X, σ)
    obtain ⟨g7, h⟩ := gd_some h
    obtain ⟨g8, h⟩ := gd_some h
    obtain ⟨t1, Y2, τ3, he4, h⟩ := mkA_sp h
    refine ex_nwaX rfl g7 g8 he4 ?_
    show Ex mr_J7_copyOf_59c91 sc (Cl MT pr sc (d + 0)) (rtE (some (.ref r)) (mk X2) σ2) (17, [(0, .ref 13), (1, .int x1)], [.ref t1], mk Y2, τ3)
    obtain ⟨hk_t1_Y2, h⟩ := gd_some h
    refine Ex.blk 5 rfl ?_
    show Ex mr_J7_copyOf_59c91 sc (Cl MT pr sc (d + 0)) (rtE (some (.ref r)) (mk X2) σ2) (22, [(2, .ref t1), (0, .ref 13), (1, .int x1)], [.int 0, .ref t1, .int 0, .ref 13], mk Y2, τ3)
    refine Ex.blk 4 rfl ?_
    show Ex mr_J7_copyOf_59c91 sc (Cl MT pr sc (d + 0)) (rtE (some (.ref r)) (mk X2) σ2) (28, [(2, .ref t1), (0, .ref 13), (1, .int x1)], [.int (mnI 36 x1), .int 0, .ref t1, .int 0, .ref 13], mk Y2, τ3)
    obtain ⟨g5, h⟩ := gd_some h
    obtain ⟨g6, h⟩ := gd_some h
    refine ex_copy rfl rfl (by rfl) hk_t1_Y2 g5 rfl g6 ?_
    show Ex mr_J7_copyOf_59c91 sc (Cl MT pr sc (d + 0)) (rtE (some (.ref r)) (mk X2) σ2) (31, [(2, .ref t1), (0, .ref 13), (1, .int x1)], [], mk Y2, (cpI τ3 13 0 t1 0 (mnI 36 x1).toNatClampNeg))
    refine Ex.blk 2 rfl ?_
    cases h
    exact And.intro trivial ⟨rfl, rfl, rfl⟩
theorem cg_X4_init {pr : Ct} {sc : Nat × (Nat → Int32)} (d : Nat)  {X2 : En} {σ2 : St} {o : Nat} {x2 : Int32} {X : En} {σ : St} (h : g_X4_init o x2 X σ = some (X2, σ2)) : Cl MT pr sc (d + 1 + 1) 45 [.ref o, .ref 13, .int x2] (mk X) σ none (mk X2) σ2 := by
  unfold g_X4_init at h
  obtain ⟨p, hp, h⟩ := bind_sp h
  obtain ⟨hz, h⟩ := gd_some h
  cases h
  refine cl_of2 mr_X4_init rfl rfl hz ?_
  have h := hp
  clear hp
  unfold g_X4_init_b at h
  obtain ⟨hk_o_X, h⟩ := gd_some h
  refine Ex.blk 4 rfl ?_
  show Ex mr_X4_init sc (Cl MT pr sc (d + 1)) (rtE none (mk X2) σ2) (6, [(0, .ref o), (1, .ref 13), (2, .int x2)], [.int x2, .ref o], mk X, σ)
  refine ex_putI rfl hk_o_X rfl ?_
  show Ex mr_X4_init sc (Cl MT pr sc (d + 1)) (rtE none (mk X2) σ2) (9, [(0, .ref o), (1, .ref 13), (2, .int x2)], [], mk X, (sI σ o 0 x2))
  refine Ex.blk 5 rfl ?_
  show Ex mr_X4_init sc (Cl MT pr sc (d + 1)) (rtE none (mk X2) σ2) (14, [(0, .ref o), (1, .ref 13), (2, .int x2)], [.int (x2 * 3), .ref 13, .ref o], mk X, (sI σ o 0 x2))
  obtain ⟨p1, hp1, h⟩ := bind_sp h
  refine Ex.blk 1 rfl ?_
  refine Exists.intro (some (.ref p1.1)) (Exists.intro (mk p1.2.1) (Exists.intro p1.2.2 (And.intro (cg_J7_copyOf_59c91 (d + 0) hp1) ?_)))
  show Ex mr_X4_init sc (Cl MT pr sc (d + 1)) (rtE none (mk X2) σ2) (17, [(0, .ref o), (1, .ref 13), (2, .int x2)], [.ref p1.1, .ref o], mk p1.2.1, p1.2.2)
  obtain ⟨hk_o_p1_2_1, h⟩ := gd_some h
  obtain ⟨hk_p1_1_p1_2_1, h⟩ := gd_some h
  obtain ⟨g4, h⟩ := gd_some h
  obtain ⟨Y2, he3, h⟩ := ptS_sp h
  refine ex_putSX rfl hk_o_p1_2_1 rfl g4 he3 ?_
  show Ex mr_X4_init sc (Cl MT pr sc (d + 1)) (rtE none (mk X2) σ2) (20, [(0, .ref o), (1, .ref 13), (2, .int x2)], [], mk Y2, p1.2.2)
  obtain ⟨hk_o_Y2, h⟩ := gd_some h
  refine Ex.blk 1 rfl ?_
  cases h
  exact And.intro trivial ⟨rfl, rfl, rfl⟩
theorem cg_X4_part {pr : Ct} {sc : Nat × (Nat → Int32)} (d : Nat) {r : Int32} {X2 : En} {σ2 : St} {o : Nat} {x1 : Int32} {x2 : Int32} {X : En} {σ : St} (h : g_X4_part o x1 x2 X σ = some (r, X2, σ2)) : Cl MT pr sc (d + 0 + 1) 46 [.ref o, .int x1, .int x2] (mk X) σ (some (.int r)) (mk X2) σ2 := by
  unfold g_X4_part at h
  obtain ⟨p, hp, h⟩ := bind_sp h
  obtain ⟨hz, h⟩ := gd_some h
  cases h
  refine cl_of2 mr_X4_part rfl rfl hz ?_
  have h := hp
  clear hp
  unfold g_X4_part_b at h
  obtain ⟨hk_o_X, h⟩ := gd_some h
  refine Ex.blk 1 rfl ?_
  show Ex mr_X4_part sc (Cl MT pr sc (d + 0)) (rtE (some (.int r)) (mk X2) σ2) (1, [(0, .ref o), (1, .int x1), (2, .int x2)], [.ref o], mk X, σ)
  obtain ⟨b1, hb2, h⟩ := bind_sp h
  refine ex_get rfl hk_o_X (congrArg orv hb2) ?_
  show Ex mr_X4_part sc (Cl MT pr sc (d + 0)) (rtE (some (.int r)) (mk X2) σ2) (4, [(0, .ref o), (1, .int x1), (2, .int x2)], [.ref b1], mk X, σ)
  obtain ⟨hk_b1_X, h⟩ := gd_some h
  refine Ex.blk 5 rfl ?_
  show Ex mr_X4_part sc (Cl MT pr sc (d + 0)) (rtE (some (.int r)) (mk X2) σ2) (9, [(0, .ref o), (1, .int x1), (2, .int x2)], [.int ((x1 * 3) + x2), .ref b1], mk X, σ)
  obtain ⟨g3, h⟩ := gd_some h
  refine ex_iald rfl hk_b1_X g3 ?_
  show Ex mr_X4_part sc (Cl MT pr sc (d + 0)) (rtE (some (.int r)) (mk X2) σ2) (10, [(0, .ref o), (1, .int x1), (2, .int x2)], [.int (gI σ b1 ((x1 * 3) + x2).toNatClampNeg)], mk X, σ)
  refine Ex.blk 1 rfl ?_
  cases h
  exact And.intro trivial ⟨rfl, rfl, rfl⟩
theorem lg_X5_readStep_118 {pr : Ct} {sc : Nat × (Nat → Int32)} (hpr : ∀ (c : Int32) (E : En) (σ : St) (d : Nat), Cl MT pr sc (d + 9) 51 [.ref LN, .int c] E σ (some (.int (ixo c))) E σ) (d : Nat) {r : Int32} {X2 : En} {σ2 : St} (X : En) (σ : St) (h : g_X5_readStep_118 X σ = some (r, X2, σ2)) : Ex mr_X5_readStep sc (Cl MT pr sc (d + 9)) (rtE (some (.int r)) (mk X2) σ2) (118, [], [], mk X, σ) := by
  unfold g_X5_readStep_118 at h
  refine Ex.blk 2 rfl ?_
  cases h
  exact And.intro isb_1 ⟨rfl, rfl, rfl⟩
theorem lg_X5_readStep_97 {pr : Ct} {sc : Nat × (Nat → Int32)} (hpr : ∀ (c : Int32) (E : En) (σ : St) (d : Nat), Cl MT pr sc (d + 9) 51 [.ref LN, .int c] E σ (some (.int (ixo c))) E σ) (d : Nat) {r : Int32} {X2 : En} {σ2 : St} (x1 : Int32) (X : En) (σ : St) (h : g_X5_readStep_97 x1 X σ = some (r, X2, σ2)) : Ex mr_X5_readStep sc (Cl MT pr sc (d + 9)) (rtE (some (.int r)) (mk X2) σ2) (97, [(0, .ref 11), (1, .int x1)], [], mk X, σ) := by
  unfold g_X5_readStep_97 at h
  refine Ex.blk 2 rfl ?_
  show Ex mr_X5_readStep sc (Cl MT pr sc (d + 9)) (rtE (some (.int r)) (mk X2) σ2) (100, [(0, .ref 11), (1, .int x1)], [.int 120, .ref 11], mk X, σ)
  obtain ⟨p6, hp6, h⟩ := bind_sp h
  refine Ex.blk 1 rfl ?_
  refine Exists.intro (some (.int p6.1)) (Exists.intro (mk X) (Exists.intro p6.2 (And.intro (cl_X5_isNext (d + 8) hp6) ?_)))
  show Ex mr_X5_readStep sc (Cl MT pr sc (d + 9)) (rtE (some (.int r)) (mk X2) σ2) (103, [(0, .ref 11), (1, .int x1)], [.int p6.1], mk X, p6.2)
  refine Ex.blk 1 rfl ?_
  rcases ite_sp h with ⟨c9, h⟩ | ⟨c9, h⟩
  · refine And.intro (fun _ => ?_) (fun hn => absurd c9 hn)
    show Ex mr_X5_readStep sc (Cl MT pr sc (d + 9)) (rtE (some (.int r)) (mk X2) σ2) (118, [(0, .ref 11), (1, .int x1)], [], mk X, p6.2)
    show Ex mr_X5_readStep sc (Cl MT pr sc (d + 9)) (rtE (some (.int r)) (mk X2) σ2) (118, [(0, .ref 11), (1, .int x1)], [], mk X, p6.2)
    refine Ex.pick (lv' := _) [] rfl ?_
    exact lg_X5_readStep_118 hpr d _ _ h
  · refine And.intro (fun hp => absurd hp c9) (fun _ => ?_)
    show Ex mr_X5_readStep sc (Cl MT pr sc (d + 9)) (rtE (some (.int r)) (mk X2) σ2) (106, [(0, .ref 11), (1, .int x1)], [], mk X, p6.2)
    refine Ex.blk 4 rfl ?_
    show Ex mr_X5_readStep sc (Cl MT pr sc (d + 9)) (rtE (some (.int r)) (mk X2) σ2) (110, [(0, .ref 11), (1, .int x1)], [.int (x1 + 2), .ref 11], mk X, p6.2)
    obtain ⟨p7, hp7, h⟩ := bind_sp h
    refine Ex.blk 1 rfl ?_
    refine Exists.intro (some (.int p7.1)) (Exists.intro (mk X) (Exists.intro p7.2 (And.intro (cl_X5_readOften (d + 7) hp7) ?_)))
    show Ex mr_X5_readStep sc (Cl MT pr sc (d + 9)) (rtE (some (.int r)) (mk X2) σ2) (113, [(0, .ref 11), (1, .int x1)], [.int p7.1], mk X, p7.2)
    refine Ex.blk 1 rfl ?_
    rcases ite_sp h with ⟨c8, h⟩ | ⟨c8, h⟩
    · refine And.intro (fun hp => absurd c8 hp) (fun _ => ?_)
      show Ex mr_X5_readStep sc (Cl MT pr sc (d + 9)) (rtE (some (.int r)) (mk X2) σ2) (116, [(0, .ref 11), (1, .int x1)], [], mk X, p7.2)
      refine Ex.blk 2 rfl ?_
      cases h
      exact And.intro isb_0 ⟨rfl, rfl, rfl⟩
    · refine And.intro (fun _ => ?_) (fun hn => absurd c8 hn)
      show Ex mr_X5_readStep sc (Cl MT pr sc (d + 9)) (rtE (some (.int r)) (mk X2) σ2) (118, [(0, .ref 11), (1, .int x1)], [], mk X, p7.2)
      show Ex mr_X5_readStep sc (Cl MT pr sc (d + 9)) (rtE (some (.int r)) (mk X2) σ2) (118, [(0, .ref 11), (1, .int x1)], [], mk X, p7.2)
      refine Ex.pick (lv' := _) [] rfl ?_
      exact lg_X5_readStep_118 hpr d _ _ h
theorem lg_X5_readStep_71 {pr : Ct} {sc : Nat × (Nat → Int32)} (hpr : ∀ (c : Int32) (E : En) (σ : St) (d : Nat), Cl MT pr sc (d + 9) 51 [.ref LN, .int c] E σ (some (.int (ixo c))) E σ) (d : Nat) {r : Int32} {X2 : En} {σ2 : St} (x1 : Int32) (x2 : Int32) (X : En) (σ : St) (h : g_X5_readStep_71 x1 x2 X σ = some (r, X2, σ2)) : Ex mr_X5_readStep sc (Cl MT pr sc (d + 9)) (rtE (some (.int r)) (mk X2) σ2) (71, [(0, .ref 11), (1, .int x1), (2, .int x2)], [], mk X, σ) := by
  unfold g_X5_readStep_71 at h
  refine Ex.blk 5 rfl ?_
  show Ex mr_X5_readStep sc (Cl MT pr sc (d + 9)) (rtE (some (.int r)) (mk X2) σ2) (78, [(0, .ref 11), (1, .int x1), (2, .int x2)], [.int (x1 + 2), .ref 13], mk X, σ)
  refine Ex.blk 1 rfl ?_
  show Ex mr_X5_readStep sc (Cl MT pr sc (d + 9)) (rtE (some (.int r)) (mk X2) σ2) (79, [(0, .ref 11), (1, .int x1), (2, .int x2)], [.int 1, .int (x1 + 2), .ref 13], mk X, σ)
  obtain ⟨g5, h⟩ := gd_some h
  refine Ex.blk 1 rfl ?_
  refine And.intro (inb_ok g5) ?_
  show Ex mr_X5_readStep sc (Cl MT pr sc (d + 9)) (rtE (some (.int r)) (mk X2) σ2) (80, [(0, .ref 11), (1, .int x1), (2, .int x2)], [], mk X, (sI σ 13 (x1 + 2).toNatClampNeg 1))
  refine Ex.blk 3 rfl ?_
  rcases ite_sp h with ⟨c12, h⟩ | ⟨c12, h⟩
  · refine And.intro (fun _ => ?_) (fun hn => absurd c12 hn)
    show Ex mr_X5_readStep sc (Cl MT pr sc (d + 9)) (rtE (some (.int r)) (mk X2) σ2) (97, [(0, .ref 11), (1, .int x1), (2, .int x2)], [], mk X, (sI σ 13 (x1 + 2).toNatClampNeg 1))
    show Ex mr_X5_readStep sc (Cl MT pr sc (d + 9)) (rtE (some (.int r)) (mk X2) σ2) (97, [(0, .ref 11), (1, .int x1), (2, .int x2)], [], mk X, (sI σ 13 (x1 + 2).toNatClampNeg 1))
    refine Ex.pick (lv' := _) [0, 1] rfl ?_
    exact lg_X5_readStep_97 hpr d _ _ _ h
  · refine And.intro (fun hp => absurd hp c12) (fun _ => ?_)
    show Ex mr_X5_readStep sc (Cl MT pr sc (d + 9)) (rtE (some (.int r)) (mk X2) σ2) (85, [(0, .ref 11), (1, .int x1), (2, .int x2)], [], mk X, (sI σ 13 (x1 + 2).toNatClampNeg 1))
    refine Ex.blk 4 rfl ?_
    show Ex mr_X5_readStep sc (Cl MT pr sc (d + 9)) (rtE (some (.int r)) (mk X2) σ2) (89, [(0, .ref 11), (1, .int x1), (2, .int x2)], [.int (x1 + 1), .ref 11], mk X, (sI σ 13 (x1 + 2).toNatClampNeg 1))
    obtain ⟨p10, hp10, h⟩ := bind_sp h
    refine Ex.blk 1 rfl ?_
    refine Exists.intro (some (.int p10.1)) (Exists.intro (mk X) (Exists.intro p10.2 (And.intro (cl_X5_readNumber (d + 7) hp10) ?_)))
    show Ex mr_X5_readStep sc (Cl MT pr sc (d + 9)) (rtE (some (.int r)) (mk X2) σ2) (92, [(0, .ref 11), (1, .int x1), (2, .int x2)], [.int p10.1], mk X, p10.2)
    refine Ex.blk 1 rfl ?_
    rcases ite_sp h with ⟨c11, h⟩ | ⟨c11, h⟩
    · refine And.intro (fun hp => absurd c11 hp) (fun _ => ?_)
      show Ex mr_X5_readStep sc (Cl MT pr sc (d + 9)) (rtE (some (.int r)) (mk X2) σ2) (95, [(0, .ref 11), (1, .int x1), (2, .int x2)], [], mk X, p10.2)
      refine Ex.blk 2 rfl ?_
      cases h
      exact And.intro isb_0 ⟨rfl, rfl, rfl⟩
    · refine And.intro (fun _ => ?_) (fun hn => absurd c11 hn)
      show Ex mr_X5_readStep sc (Cl MT pr sc (d + 9)) (rtE (some (.int r)) (mk X2) σ2) (97, [(0, .ref 11), (1, .int x1), (2, .int x2)], [], mk X, p10.2)
      show Ex mr_X5_readStep sc (Cl MT pr sc (d + 9)) (rtE (some (.int r)) (mk X2) σ2) (97, [(0, .ref 11), (1, .int x1), (2, .int x2)], [], mk X, p10.2)
      refine Ex.pick (lv' := _) [0, 1] rfl ?_
      exact lg_X5_readStep_97 hpr d _ _ _ h
theorem lg_X5_readStep_34 {pr : Ct} {sc : Nat × (Nat → Int32)} (hpr : ∀ (c : Int32) (E : En) (σ : St) (d : Nat), Cl MT pr sc (d + 9) 51 [.ref LN, .int c] E σ (some (.int (ixo c))) E σ) (d : Nat) {r : Int32} {X2 : En} {σ2 : St} (x1 : Int32) (y0 : Int32) (X : En) (σ : St) (h : g_X5_readStep_34 x1 y0 X σ = some (r, X2, σ2)) : Ex mr_X5_readStep sc (Cl MT pr sc (d + 9)) (rtE (some (.int r)) (mk X2) σ2) (34, [(0, .ref 11), (1, .int x1)], [.int y0], mk X, σ) := by
  unfold g_X5_readStep_34 at h
  refine Ex.blk 3 rfl ?_
  rcases ite_sp h with ⟨c13, h⟩ | ⟨c13, h⟩
  · refine And.intro (fun _ => ?_) (fun hn => absurd c13 hn)
    show Ex mr_X5_readStep sc (Cl MT pr sc (d + 9)) (rtE (some (.int r)) (mk X2) σ2) (41, [(2, .int y0), (0, .ref 11), (1, .int x1)], [], mk X, σ)
    refine Ex.blk 5 rfl ?_
    show Ex mr_X5_readStep sc (Cl MT pr sc (d + 9)) (rtE (some (.int r)) (mk X2) σ2) (48, [(2, .int y0), (0, .ref 11), (1, .int x1)], [.int ((gI σ 11 4) + 1), .ref 11], mk X, σ)
    refine Ex.blk 2 rfl ?_
    show Ex mr_X5_readStep sc (Cl MT pr sc (d + 9)) (rtE (some (.int r)) (mk X2) σ2) (52, [(2, .int y0), (0, .ref 11), (1, .int x1)], [.ref 11], mk X, (sI σ 11 4 ((gI σ 11 4) + 1)))
    obtain ⟨p2, hp2, h⟩ := bind_sp h
    refine Ex.blk 1 rfl ?_
    refine Exists.intro none (Exists.intro (mk X) (Exists.intro p2 (And.intro (cl_X5_skipBlanks (d + 8) hp2) ?_)))
    show Ex mr_X5_readStep sc (Cl MT pr sc (d + 9)) (rtE (some (.int r)) (mk X2) σ2) (55, [(2, .int y0), (0, .ref 11), (1, .int x1)], [], mk X, p2)
    refine Ex.blk 4 rfl ?_
    show Ex mr_X5_readStep sc (Cl MT pr sc (d + 9)) (rtE (some (.int r)) (mk X2) σ2) (61, [(2, .int y0), (0, .ref 11), (1, .int x1)], [.int y0, .int x1, .ref 13], mk X, p2)
    obtain ⟨g3, h⟩ := gd_some h
    refine Ex.blk 1 rfl ?_
    refine And.intro (inb_ok g3) ?_
    show Ex mr_X5_readStep sc (Cl MT pr sc (d + 9)) (rtE (some (.int r)) (mk X2) σ2) (62, [(2, .int y0), (0, .ref 11), (1, .int x1)], [], mk X, (sI p2 13 x1.toNatClampNeg y0))
    refine Ex.blk 5 rfl ?_
    show Ex mr_X5_readStep sc (Cl MT pr sc (d + 9)) (rtE (some (.int r)) (mk X2) σ2) (69, [(2, .int y0), (0, .ref 11), (1, .int x1)], [.int (x1 + 1), .ref 13], mk X, (sI p2 13 x1.toNatClampNeg y0))
    refine Ex.blk 1 rfl ?_
    show Ex mr_X5_readStep sc (Cl MT pr sc (d + 9)) (rtE (some (.int r)) (mk X2) σ2) (70, [(2, .int y0), (0, .ref 11), (1, .int x1)], [.int 0, .int (x1 + 1), .ref 13], mk X, (sI p2 13 x1.toNatClampNeg y0))
    obtain ⟨g4, h⟩ := gd_some h
    refine Ex.blk 1 rfl ?_
    refine And.intro (inb_ok g4) ?_
    show Ex mr_X5_readStep sc (Cl MT pr sc (d + 9)) (rtE (some (.int r)) (mk X2) σ2) (71, [(2, .int y0), (0, .ref 11), (1, .int x1)], [], mk X, (sI (sI p2 13 x1.toNatClampNeg y0) 13 (x1 + 1).toNatClampNeg 0))
    refine Ex.pick (lv' := _) [1, 2, 0] rfl ?_
    exact lg_X5_readStep_71 hpr d _ _ _ _ h
  · refine And.intro (fun hp => absurd hp c13) (fun _ => ?_)
    show Ex mr_X5_readStep sc (Cl MT pr sc (d + 9)) (rtE (some (.int r)) (mk X2) σ2) (39, [(2, .int y0), (0, .ref 11), (1, .int x1)], [], mk X, σ)
    refine Ex.blk 2 rfl ?_
    cases h
    exact And.intro isb_0 ⟨rfl, rfl, rfl⟩
theorem cg_X5_readStep {pr : Ct} {sc : Nat × (Nat → Int32)} (hpr : ∀ (c : Int32) (E : En) (σ : St) (d : Nat), Cl MT pr sc (d + 9) 51 [.ref LN, .int c] E σ (some (.int (ixo c))) E σ) (d : Nat) {r : Int32} {X2 : En} {σ2 : St} {x1 : Int32} {X : En} {σ : St} (h : g_X5_readStep x1 X σ = some (r, X2, σ2)) : Cl MT pr sc (d + 9 + 1) 54 [.ref 11, .int x1] (mk X) σ (some (.int r)) (mk X2) σ2 := by
  unfold g_X5_readStep at h
  obtain ⟨p, hp, h⟩ := bind_sp h
  obtain ⟨hz, h⟩ := gd_some h
  cases h
  refine cl_of2 mr_X5_readStep rfl rfl hz ?_
  have h := hp
  clear hp
  unfold g_X5_readStep_b at h
  refine Ex.blk 1 rfl ?_
  show Ex mr_X5_readStep sc (Cl MT pr sc (d + 9)) (rtE (some (.int r)) (mk X2) σ2) (1, [(0, .ref 11), (1, .int x1)], [.ref 11], mk X, σ)
  obtain ⟨p1, hp1, h⟩ := bind_sp h
  refine Ex.blk 1 rfl ?_
  refine Exists.intro none (Exists.intro (mk X) (Exists.intro p1 (And.intro (cl_X5_skipBlanks (d + 8) hp1) ?_)))
  show Ex mr_X5_readStep sc (Cl MT pr sc (d + 9)) (rtE (some (.int r)) (mk X2) σ2) (4, [(0, .ref 11), (1, .int x1)], [], mk X, p1)
  refine Ex.blk 5 rfl ?_
  rcases ite_sp h with ⟨c15, h⟩ | ⟨c15, h⟩
  · refine And.intro (fun _ => ?_) (fun hn => absurd c15 hn)
    show Ex mr_X5_readStep sc (Cl MT pr sc (d + 9)) (rtE (some (.int r)) (mk X2) σ2) (33, [(0, .ref 11), (1, .int x1)], [], mk X, p1)
    refine Ex.blk 1 rfl ?_
    show Ex mr_X5_readStep sc (Cl MT pr sc (d + 9)) (rtE (some (.int r)) (mk X2) σ2) (34, [(0, .ref 11), (1, .int x1)], [.int (-1)], mk X, p1)
    show Ex mr_X5_readStep sc (Cl MT pr sc (d + 9)) (rtE (some (.int r)) (mk X2) σ2) (34, [(0, .ref 11), (1, .int x1)], [.int (-1)], mk X, p1)
    exact lg_X5_readStep_34 hpr d _ _ _ _ h
  · refine And.intro (fun hp => absurd hp c15) (fun _ => ?_)
    show Ex mr_X5_readStep sc (Cl MT pr sc (d + 9)) (rtE (some (.int r)) (mk X2) σ2) (15, [(0, .ref 11), (1, .int x1)], [], mk X, p1)
    refine Ex.blk 5 rfl ?_
    show Ex mr_X5_readStep sc (Cl MT pr sc (d + 9)) (rtE (some (.int r)) (mk X2) σ2) (25, [(0, .ref 11), (1, .int x1)], [.int (gI p1 11 4), .ref 12, .ref LN], mk X, p1)
    obtain ⟨g14, h⟩ := gd_some h
    refine Ex.blk 1 rfl ?_
    refine And.intro (inb_ok g14) ?_
    show Ex mr_X5_readStep sc (Cl MT pr sc (d + 9)) (rtE (some (.int r)) (mk X2) σ2) (26, [(0, .ref 11), (1, .int x1)], [.int (gI p1 12 (gI p1 11 4).toNatClampNeg), .ref LN], mk X, p1)
    refine Ex.blk 1 rfl ?_
    show Ex mr_X5_readStep sc (Cl MT pr sc (d + 9)) (rtE (some (.int r)) (mk X2) σ2) (27, [(0, .ref 11), (1, .int x1)], [.int (toC (gI p1 12 (gI p1 11 4).toNatClampNeg)), .ref LN], mk X, p1)
    refine Ex.blk 1 rfl ?_
    refine Exists.intro (some (.int (ixo (toC (gI p1 12 (gI p1 11 4).toNatClampNeg))))) (Exists.intro (mk X) (Exists.intro p1 (And.intro (hpr _ _ _ _) ?_)))
    show Ex mr_X5_readStep sc (Cl MT pr sc (d + 9)) (rtE (some (.int r)) (mk X2) σ2) (30, [(0, .ref 11), (1, .int x1)], [.int (ixo (toC (gI p1 12 (gI p1 11 4).toNatClampNeg)))], mk X, p1)
    refine Ex.blk 1 rfl ?_
    show Ex mr_X5_readStep sc (Cl MT pr sc (d + 9)) (rtE (some (.int r)) (mk X2) σ2) (34, [(0, .ref 11), (1, .int x1)], [.int (ixo (toC (gI p1 12 (gI p1 11 4).toNatClampNeg)))], mk X, p1)
    show Ex mr_X5_readStep sc (Cl MT pr sc (d + 9)) (rtE (some (.int r)) (mk X2) σ2) (34, [(0, .ref 11), (1, .int x1)], [.int (ixo (toC (gI p1 12 (gI p1 11 4).toNatClampNeg)))], mk X, p1)
    exact lg_X5_readStep_34 hpr d _ _ _ _ h
theorem lg_X5_look_50 {pr : Ct} {sc : Nat × (Nat → Int32)} (hpr : ∀ (c : Int32) (E : En) (σ : St) (d : Nat), Cl MT pr sc (d + 9) 51 [.ref LN, .int c] E σ (some (.int (ixo c))) E σ) (d : Nat) {r : Int32} {X2 : En} {σ2 : St} (k10 : En → St → Option (Int32 × En × St)) (hk10 : ∀ (X : En) (σ : St), k10 X σ = some (r, X2, σ2) → Ex mr_X5_look sc (Cl MT pr sc (d + 10)) (rtE (some (.int r)) (mk X2) σ2) (10, [(0, .ref 11)], [], mk X, σ)) (X : En) (σ : St) (h : g_X5_look_50 k10 X σ = some (r, X2, σ2)) : Ex mr_X5_look sc (Cl MT pr sc (d + 10)) (rtE (some (.int r)) (mk X2) σ2) (50, [(0, .ref 11)], [], mk X, σ) := by
  unfold g_X5_look_50 at h
  refine Ex.blk 5 rfl ?_
  show Ex mr_X5_look sc (Cl MT pr sc (d + 10)) (rtE (some (.int r)) (mk X2) σ2) (57, [(0, .ref 11)], [.int ((gI σ 11 3) * 3), .ref 11], mk X, σ)
  obtain ⟨p1, hp1, h⟩ := bind_sp h
  refine Ex.blk 1 rfl ?_
  refine Exists.intro (some (.int p1.1)) (Exists.intro (mk p1.2.1) (Exists.intro p1.2.2 (And.intro (cg_X5_readStep hpr (d + 0) hp1) ?_)))
  show Ex mr_X5_look sc (Cl MT pr sc (d + 10)) (rtE (some (.int r)) (mk X2) σ2) (60, [(0, .ref 11)], [.int p1.1], mk p1.2.1, p1.2.2)
  refine Ex.blk 1 rfl ?_
  rcases ite_sp h with ⟨c3, h⟩ | ⟨c3, h⟩
  · refine And.intro (fun hp => absurd c3 hp) (fun _ => ?_)
    show Ex mr_X5_look sc (Cl MT pr sc (d + 10)) (rtE (some (.int r)) (mk X2) σ2) (63, [(0, .ref 11)], [], mk p1.2.1, p1.2.2)
    refine Ex.blk 3 rfl ?_
    cases h
    exact And.intro trivial ⟨rfl, rfl, rfl⟩
  · refine And.intro (fun _ => ?_) (fun hn => absurd c3 hn)
    show Ex mr_X5_look sc (Cl MT pr sc (d + 10)) (rtE (some (.int r)) (mk X2) σ2) (68, [(0, .ref 11)], [], mk p1.2.1, p1.2.2)
    refine Ex.blk 5 rfl ?_
    rcases ite_sp h with ⟨c2, h⟩ | ⟨c2, h⟩
    · refine And.intro (fun _ => ?_) (fun hn => absurd c2 hn)
      show Ex mr_X5_look sc (Cl MT pr sc (d + 10)) (rtE (some (.int r)) (mk X2) σ2) (91, [(0, .ref 11)], [], mk p1.2.1, p1.2.2)
      refine Ex.blk 5 rfl ?_
      show Ex mr_X5_look sc (Cl MT pr sc (d + 10)) (rtE (some (.int r)) (mk X2) σ2) (98, [(0, .ref 11)], [.int ((gI p1.2.2 11 3) + 1), .ref 11], mk p1.2.1, p1.2.2)
      refine Ex.blk 2 rfl ?_
      show Ex mr_X5_look sc (Cl MT pr sc (d + 10)) (rtE (some (.int r)) (mk X2) σ2) (10, [(0, .ref 11)], [], mk p1.2.1, (sI p1.2.2 11 3 ((gI p1.2.2 11 3) + 1)))
      show Ex mr_X5_look sc (Cl MT pr sc (d + 10)) (rtE (some (.int r)) (mk X2) σ2) (10, [(0, .ref 11)], [], mk p1.2.1, (sI p1.2.2 11 3 ((gI p1.2.2 11 3) + 1)))
      exact hk10 _ _ h
    · refine And.intro (fun hp => absurd hp c2) (fun _ => ?_)
      show Ex mr_X5_look sc (Cl MT pr sc (d + 10)) (rtE (some (.int r)) (mk X2) σ2) (79, [(0, .ref 11)], [], mk p1.2.1, p1.2.2)
      refine Ex.blk 5 rfl ?_
      show Ex mr_X5_look sc (Cl MT pr sc (d + 10)) (rtE (some (.int r)) (mk X2) σ2) (86, [(0, .ref 11)], [.int ((gI p1.2.2 11 3) + 1), .ref 11], mk p1.2.1, p1.2.2)
      refine Ex.blk 3 rfl ?_
      cases h
      exact And.intro trivial ⟨rfl, rfl, rfl⟩
theorem lg_X5_look_10 {pr : Ct} {sc : Nat × (Nat → Int32)} (hpr : ∀ (c : Int32) (E : En) (σ : St) (d : Nat), Cl MT pr sc (d + 9) 51 [.ref LN, .int c] E σ (some (.int (ixo c))) E σ) (d : Nat) {r : Int32} {X2 : En} {σ2 : St} : ∀ (n : Nat) (X : En) (σ : St), g_X5_look_10 n X σ = some (r, X2, σ2) → Ex mr_X5_look sc (Cl MT pr sc (d + 10)) (rtE (some (.int r)) (mk X2) σ2) (10, [(0, .ref 11)], [], mk X, σ) := by
  intro n
  induction n with
  | zero =>
    intro X σ h
    cases h
  | succ n ih =>
    intro X σ h
    simp only [g_X5_look_10] at h
    refine Ex.blk 4 rfl ?_
    rcases ite_sp h with ⟨c7, h⟩ | ⟨c7, h⟩
    · refine And.intro (fun _ => ?_) (fun hn => absurd c7 hn)
      show Ex mr_X5_look sc (Cl MT pr sc (d + 10)) (rtE (some (.int r)) (mk X2) σ2) (104, [(0, .ref 11)], [], mk X, σ)
      refine Ex.blk 3 rfl ?_
      cases h
      exact And.intro trivial ⟨rfl, rfl, rfl⟩
    · refine And.intro (fun hp => absurd hp c7) (fun _ => ?_)
      show Ex mr_X5_look sc (Cl MT pr sc (d + 10)) (rtE (some (.int r)) (mk X2) σ2) (19, [(0, .ref 11)], [], mk X, σ)
      refine Ex.blk 3 rfl ?_
      rcases ite_sp h with ⟨c6, h⟩ | ⟨c6, h⟩
      · refine And.intro (fun _ => ?_) (fun hn => absurd c6 hn)
        show Ex mr_X5_look sc (Cl MT pr sc (d + 10)) (rtE (some (.int r)) (mk X2) σ2) (50, [(0, .ref 11)], [], mk X, σ)
        show Ex mr_X5_look sc (Cl MT pr sc (d + 10)) (rtE (some (.int r)) (mk X2) σ2) (50, [(0, .ref 11)], [], mk X, σ)
        exact lg_X5_look_50 hpr d _ ih _ _ h
      · refine And.intro (fun hp => absurd hp c6) (fun _ => ?_)
        show Ex mr_X5_look sc (Cl MT pr sc (d + 10)) (rtE (some (.int r)) (mk X2) σ2) (26, [(0, .ref 11)], [], mk X, σ)
        refine Ex.blk 2 rfl ?_
        show Ex mr_X5_look sc (Cl MT pr sc (d + 10)) (rtE (some (.int r)) (mk X2) σ2) (29, [(0, .ref 11)], [.int 59, .ref 11], mk X, σ)
        obtain ⟨p4, hp4, h⟩ := bind_sp h
        refine Ex.blk 1 rfl ?_
        refine Exists.intro (some (.int p4.1)) (Exists.intro (mk X) (Exists.intro p4.2 (And.intro (cl_X5_isNext (d + 9) hp4) ?_)))
        show Ex mr_X5_look sc (Cl MT pr sc (d + 10)) (rtE (some (.int r)) (mk X2) σ2) (32, [(0, .ref 11)], [.int p4.1], mk X, p4.2)
        refine Ex.blk 1 rfl ?_
        rcases ite_sp h with ⟨c5, h⟩ | ⟨c5, h⟩
        · refine And.intro (fun hp => absurd c5 hp) (fun _ => ?_)
          show Ex mr_X5_look sc (Cl MT pr sc (d + 10)) (rtE (some (.int r)) (mk X2) σ2) (35, [(0, .ref 11)], [], mk X, p4.2)
          refine Ex.blk 3 rfl ?_
          cases h
          exact And.intro trivial ⟨rfl, rfl, rfl⟩
        · refine And.intro (fun _ => ?_) (fun hn => absurd c5 hn)
          show Ex mr_X5_look sc (Cl MT pr sc (d + 10)) (rtE (some (.int r)) (mk X2) σ2) (40, [(0, .ref 11)], [], mk X, p4.2)
          refine Ex.blk 5 rfl ?_
          show Ex mr_X5_look sc (Cl MT pr sc (d + 10)) (rtE (some (.int r)) (mk X2) σ2) (47, [(0, .ref 11)], [.int ((gI p4.2 11 4) + 1), .ref 11], mk X, p4.2)
          refine Ex.blk 1 rfl ?_
          show Ex mr_X5_look sc (Cl MT pr sc (d + 10)) (rtE (some (.int r)) (mk X2) σ2) (50, [(0, .ref 11)], [], mk X, (sI p4.2 11 4 ((gI p4.2 11 4) + 1)))
          show Ex mr_X5_look sc (Cl MT pr sc (d + 10)) (rtE (some (.int r)) (mk X2) σ2) (50, [(0, .ref 11)], [], mk X, (sI p4.2 11 4 ((gI p4.2 11 4) + 1)))
          exact lg_X5_look_50 hpr d _ ih _ _ h
theorem cg_X5_look {pr : Ct} {sc : Nat × (Nat → Int32)} (hpr : ∀ (c : Int32) (E : En) (σ : St) (d : Nat), Cl MT pr sc (d + 9) 51 [.ref LN, .int c] E σ (some (.int (ixo c))) E σ) (d : Nat) {r : Int32} {X2 : En} {σ2 : St} {X : En} {σ : St} (h : g_X5_look X σ = some (r, X2, σ2)) : Cl MT pr sc (d + 10 + 1) 55 [.ref 11] (mk X) σ (some (.int r)) (mk X2) σ2 := by
  unfold g_X5_look at h
  obtain ⟨p, hp, h⟩ := bind_sp h
  obtain ⟨hz, h⟩ := gd_some h
  cases h
  refine cl_of2 mr_X5_look rfl rfl hz ?_
  have h := hp
  clear hp
  unfold g_X5_look_b at h
  refine Ex.blk 5 rfl ?_
  show Ex mr_X5_look sc (Cl MT pr sc (d + 10)) (rtE (some (.int r)) (mk X2) σ2) (7, [(0, .ref 11)], [.int 0, .ref 11], mk X, (sI σ 11 4 0))
  refine Ex.blk 1 rfl ?_
  show Ex mr_X5_look sc (Cl MT pr sc (d + 10)) (rtE (some (.int r)) (mk X2) σ2) (10, [(0, .ref 11)], [], mk X, (sI (sI σ 11 4 0) 11 3 0))
  show Ex mr_X5_look sc (Cl MT pr sc (d + 10)) (rtE (some (.int r)) (mk X2) σ2) (10, [(0, .ref 11)], [], mk X, (sI (sI σ 11 4 0) 11 3 0))
  exact lg_X5_look_10 hpr d FU _ _ h
theorem cg_X9_fault {pr : Ct} {sc : Nat × (Nat → Int32)} (hpr : ∀ (c : Int32) (E : En) (σ : St) (d : Nat), Cl MT pr sc (d + 9) 51 [.ref LN, .int c] E σ (some (.int (ixo c))) E σ) (d : Nat) {r : Int32} {X2 : En} {σ2 : St} {X : En} {σ : St} (h : g_X9_fault X σ = some (r, X2, σ2)) : Cl MT pr sc (d + 11 + 1) 85 [.ref 0] (mk X) σ (some (.int r)) (mk X2) σ2 := by
  unfold g_X9_fault at h
  obtain ⟨p, hp, h⟩ := bind_sp h
  obtain ⟨hz, h⟩ := gd_some h
  cases h
  refine cl_of2 mr_X9_fault rfl rfl hz ?_
  have h := hp
  clear hp
  unfold g_X9_fault_b at h
  refine Ex.blk 2 rfl ?_
  show Ex mr_X9_fault sc (Cl MT pr sc (d + 11)) (rtE (some (.int r)) (mk X2) σ2) (4, [(0, .ref 0)], [.ref 11], mk X, σ)
  obtain ⟨p1, hp1, h⟩ := bind_sp h
  refine Ex.blk 1 rfl ?_
  refine Exists.intro (some (.int p1.1)) (Exists.intro (mk p1.2.1) (Exists.intro p1.2.2 (And.intro (cg_X5_look hpr (d + 0) hp1) ?_)))
  show Ex mr_X9_fault sc (Cl MT pr sc (d + 11)) (rtE (some (.int r)) (mk X2) σ2) (7, [(0, .ref 0)], [.int p1.1], mk p1.2.1, p1.2.2)
  refine Ex.blk 1 rfl ?_
  cases h
  exact And.intro trivial ⟨rfl, rfl, rfl⟩
theorem lg_X9_text_20 {pr : Ct} {sc : Nat × (Nat → Int32)} (hpr : ∀ (c : Int32) (E : En) (σ : St) (d : Nat), Cl MT pr sc (d + 9) 51 [.ref LN, .int c] E σ (some (.int (ixo c))) E σ) (d : Nat) {r : Int32} {X2 : En} {σ2 : St} (X : En) (σ : St) (h : g_X9_text_20 X σ = some (r, X2, σ2)) : Ex mr_X9_text sc (Cl MT pr sc (d + 11)) (rtE (some (.int r)) (mk X2) σ2) (20, [], [], mk X, σ) := by
  unfold g_X9_text_20 at h
  refine Ex.blk 2 rfl ?_
  cases h
  exact And.intro trivial ⟨rfl, rfl, rfl⟩
theorem lg_X9_text_62 {pr : Ct} {sc : Nat × (Nat → Int32)} (hpr : ∀ (c : Int32) (E : En) (σ : St) (d : Nat), Cl MT pr sc (d + 9) 51 [.ref LN, .int c] E σ (some (.int (ixo c))) E σ) (d : Nat) {r : Int32} {X2 : En} {σ2 : St} (X : En) (σ : St) (h : g_X9_text_62 X σ = some (r, X2, σ2)) : Ex mr_X9_text sc (Cl MT pr sc (d + 11)) (rtE (some (.int r)) (mk X2) σ2) (62, [(0, .ref 0)], [], mk X, σ) := by
  unfold g_X9_text_62 at h
  refine Ex.blk 5 rfl ?_
  show Ex mr_X9_text sc (Cl MT pr sc (d + 11)) (rtE (some (.int r)) (mk X2) σ2) (71, [(0, .ref 0)], [.ref 0], mk X, (sI σ 11 1 0))
  refine Ex.blk 4 rfl ?_
  cases h
  exact And.intro trivial ⟨rfl, rfl, rfl⟩
theorem cg_X9_text {pr : Ct} {sc : Nat × (Nat → Int32)} (hpr : ∀ (c : Int32) (E : En) (σ : St) (d : Nat), Cl MT pr sc (d + 9) 51 [.ref LN, .int c] E σ (some (.int (ixo c))) E σ) (d : Nat) {r : Int32} {X2 : En} {σ2 : St} {X : En} {σ : St} (h : g_X9_text X σ = some (r, X2, σ2)) : Cl MT pr sc (d + 11 + 1) 86 [.ref 0] (mk X) σ (some (.int r)) (mk X2) σ2 := by
  unfold g_X9_text at h
  obtain ⟨p, hp, h⟩ := bind_sp h
  obtain ⟨hz, h⟩ := gd_some h
  cases h
  refine cl_of2 mr_X9_text rfl rfl hz ?_
  have h := hp
  clear hp
  unfold g_X9_text_b at h
  refine Ex.blk 4 rfl ?_
  rcases ite_sp h with ⟨c10, h⟩ | ⟨c10, h⟩
  · refine And.intro (fun _ => ?_) (fun hn => absurd c10 hn)
    show Ex mr_X9_text sc (Cl MT pr sc (d + 11)) (rtE (some (.int r)) (mk X2) σ2) (20, [(0, .ref 0)], [], mk X, σ)
    show Ex mr_X9_text sc (Cl MT pr sc (d + 11)) (rtE (some (.int r)) (mk X2) σ2) (20, [(0, .ref 0)], [], mk X, σ)
    refine Ex.pick (lv' := _) [] rfl ?_
    exact lg_X9_text_20 hpr d _ _ h
  · refine And.intro (fun hp => absurd hp c10) (fun _ => ?_)
    show Ex mr_X9_text sc (Cl MT pr sc (d + 11)) (rtE (some (.int r)) (mk X2) σ2) (9, [(0, .ref 0)], [], mk X, σ)
    refine Ex.blk 2 rfl ?_
    show Ex mr_X9_text sc (Cl MT pr sc (d + 11)) (rtE (some (.int r)) (mk X2) σ2) (13, [(0, .ref 0)], [.ref 11], mk X, σ)
    obtain ⟨p1, hp1, h⟩ := bind_sp h
    refine Ex.blk 1 rfl ?_
    refine Exists.intro (some (.int p1.1)) (Exists.intro (mk p1.2.1) (Exists.intro p1.2.2 (And.intro (cg_X5_look hpr (d + 0) hp1) ?_)))
    show Ex mr_X9_text sc (Cl MT pr sc (d + 11)) (rtE (some (.int r)) (mk X2) σ2) (16, [(0, .ref 0)], [.int p1.1], mk p1.2.1, p1.2.2)
    refine Ex.blk 2 rfl ?_
    rcases ite_sp h with ⟨c9, h⟩ | ⟨c9, h⟩
    · refine And.intro (fun _ => ?_) (fun hn => absurd c9 hn)
      show Ex mr_X9_text sc (Cl MT pr sc (d + 11)) (rtE (some (.int r)) (mk X2) σ2) (22, [(0, .ref 0)], [], mk p1.2.1, p1.2.2)
      refine Ex.blk 4 rfl ?_
      show Ex mr_X9_text sc (Cl MT pr sc (d + 11)) (rtE (some (.int r)) (mk X2) σ2) (30, [(0, .ref 0)], [.int (gI p1.2.2 0 7), .ref 14], mk p1.2.1, p1.2.2)
      obtain ⟨g8, h⟩ := gd_some h
      obtain ⟨t2, Y3, τ4, he5, h⟩ := mkO_sp h
      refine ex_newX rfl g8 he5 ?_
      show Ex mr_X9_text sc (Cl MT pr sc (d + 11)) (rtE (some (.int r)) (mk X2) σ2) (33, [(0, .ref 0)], [.ref t2, .int (gI p1.2.2 0 7), .ref 14], mk Y3, τ4)
      obtain ⟨hk_t2_Y3, h⟩ := gd_some h
      refine Ex.blk 5 rfl ?_
      show Ex mr_X9_text sc (Cl MT pr sc (d + 11)) (rtE (some (.int r)) (mk X2) σ2) (42, [(0, .ref 0)], [.ref 0, .ref 13, .ref t2, .ref t2, .int (gI p1.2.2 0 7), .ref 14], mk Y3, τ4)
      refine Ex.blk 2 rfl ?_
      show Ex mr_X9_text sc (Cl MT pr sc (d + 11)) (rtE (some (.int r)) (mk X2) σ2) (48, [(0, .ref 0)], [.int (gI τ4 11 3), .ref 13, .ref t2, .ref t2, .int (gI p1.2.2 0 7), .ref 14], mk Y3, τ4)
      obtain ⟨p6, hp6, h⟩ := bind_sp h
      refine Ex.blk 1 rfl ?_
      refine Exists.intro none (Exists.intro (mk p6.1) (Exists.intro p6.2 (And.intro (cg_X4_init (d + 9) hp6) ?_)))
      show Ex mr_X9_text sc (Cl MT pr sc (d + 11)) (rtE (some (.int r)) (mk X2) σ2) (51, [(0, .ref 0)], [.ref t2, .int (gI p1.2.2 0 7), .ref 14], mk p6.1, p6.2)
      obtain ⟨hk_t2_p6_1, h⟩ := gd_some h
      obtain ⟨g7, h⟩ := gd_some h
      refine ex_aast rfl (by rfl) hk_t2_p6_1 g7 ?_
      show Ex mr_X9_text sc (Cl MT pr sc (d + 11)) (rtE (some (.int r)) (mk X2) σ2) (52, [(0, .ref 0)], [], mk p6.1, (sR p6.2 14 (gI p1.2.2 0 7).toNatClampNeg (some t2)))
      refine Ex.blk 5 rfl ?_
      show Ex mr_X9_text sc (Cl MT pr sc (d + 11)) (rtE (some (.int r)) (mk X2) σ2) (59, [(0, .ref 0)], [.int ((gI (sR p6.2 14 (gI p1.2.2 0 7).toNatClampNeg (some t2)) 0 7) + 1), .ref 0], mk p6.1, (sR p6.2 14 (gI p1.2.2 0 7).toNatClampNeg (some t2)))
      refine Ex.blk 1 rfl ?_
      show Ex mr_X9_text sc (Cl MT pr sc (d + 11)) (rtE (some (.int r)) (mk X2) σ2) (62, [(0, .ref 0)], [], mk p6.1, (sI (sR p6.2 14 (gI p1.2.2 0 7).toNatClampNeg (some t2)) 0 7 ((gI (sR p6.2 14 (gI p1.2.2 0 7).toNatClampNeg (some t2)) 0 7) + 1)))
      show Ex mr_X9_text sc (Cl MT pr sc (d + 11)) (rtE (some (.int r)) (mk X2) σ2) (62, [(0, .ref 0)], [], mk p6.1, (sI (sR p6.2 14 (gI p1.2.2 0 7).toNatClampNeg (some t2)) 0 7 ((gI (sR p6.2 14 (gI p1.2.2 0 7).toNatClampNeg (some t2)) 0 7) + 1)))
      exact lg_X9_text_62 hpr d _ _ h
    · refine And.intro (fun hp => absurd hp c9) (fun _ => ?_)
      show Ex mr_X9_text sc (Cl MT pr sc (d + 11)) (rtE (some (.int r)) (mk X2) σ2) (20, [(0, .ref 0)], [], mk p1.2.1, p1.2.2)
      show Ex mr_X9_text sc (Cl MT pr sc (d + 11)) (rtE (some (.int r)) (mk X2) σ2) (20, [(0, .ref 0)], [], mk p1.2.1, p1.2.2)
      refine Ex.pick (lv' := _) [] rfl ?_
      exact lg_X9_text_20 hpr d _ _ h
theorem lg_X9_sumAt_22 {pr : Ct} {sc : Nat × (Nat → Int32)} (d : Nat) {r : Option Nat} {X2 : En} {σ2 : St} (z0 : Option Nat) (X : En) (σ : St) (h : g_X9_sumAt_22 z0 X σ = some (r, X2, σ2)) : Ex mr_X9_sumAt sc (Cl MT pr sc (d + 0)) (rtE (some (orv r)) (mk X2) σ2) (22, [], [orv z0], mk X, σ) := by
  unfold g_X9_sumAt_22 at h
  cases h
  cases r with
  | none => exact Ex.blk 1 rfl (And.intro trivial ⟨rfl, rfl, rfl⟩)
  | some r => exact Ex.blk 1 rfl (And.intro trivial ⟨rfl, rfl, rfl⟩)
theorem lg_X9_sumAt_21 {pr : Ct} {sc : Nat × (Nat → Int32)} (d : Nat) {r : Option Nat} {X2 : En} {σ2 : St} (X : En) (σ : St) (h : g_X9_sumAt_21 X σ = some (r, X2, σ2)) : Ex mr_X9_sumAt sc (Cl MT pr sc (d + 0)) (rtE (some (orv r)) (mk X2) σ2) (21, [], [], mk X, σ) := by
  unfold g_X9_sumAt_21 at h
  refine Ex.blk 1 rfl ?_
  show Ex mr_X9_sumAt sc (Cl MT pr sc (d + 0)) (rtE (some (orv r)) (mk X2) σ2) (22, [], [.null], mk X, σ)
  show Ex mr_X9_sumAt sc (Cl MT pr sc (d + 0)) (rtE (some (orv r)) (mk X2) σ2) (22, [], [.null], mk X, σ)
  exact lg_X9_sumAt_22 d _ _ _ h
theorem cg_X9_sumAt {pr : Ct} {sc : Nat × (Nat → Int32)} (d : Nat) {r : Option Nat} {X2 : En} {σ2 : St} {x1 : Int32} {X : En} {σ : St} (h : g_X9_sumAt x1 X σ = some (r, X2, σ2)) : Cl MT pr sc (d + 0 + 1) 97 [.ref 0, .int x1] (mk X) σ (some (orv r)) (mk X2) σ2 := by
  unfold g_X9_sumAt at h
  obtain ⟨p, hp, h⟩ := bind_sp h
  obtain ⟨hz, h⟩ := gd_some h
  cases h
  refine cl_of2 mr_X9_sumAt rfl rfl hz ?_
  have h := hp
  clear hp
  unfold g_X9_sumAt_b at h
  refine Ex.blk 2 rfl ?_
  rcases ite_sp h with ⟨c5, h⟩ | ⟨c5, h⟩
  · refine And.intro (fun _ => ?_) (fun hn => absurd c5 hn)
    show Ex mr_X9_sumAt sc (Cl MT pr sc (d + 0)) (rtE (some (orv r)) (mk X2) σ2) (21, [(0, .ref 0), (1, .int x1)], [], mk X, σ)
    show Ex mr_X9_sumAt sc (Cl MT pr sc (d + 0)) (rtE (some (orv r)) (mk X2) σ2) (21, [(0, .ref 0), (1, .int x1)], [], mk X, σ)
    refine Ex.pick (lv' := _) [] rfl ?_
    exact lg_X9_sumAt_21 d _ _ h
  · refine And.intro (fun hp => absurd hp c5) (fun _ => ?_)
    show Ex mr_X9_sumAt sc (Cl MT pr sc (d + 0)) (rtE (some (orv r)) (mk X2) σ2) (4, [(0, .ref 0), (1, .int x1)], [], mk X, σ)
    refine Ex.blk 4 rfl ?_
    rcases ite_sp h with ⟨c4, h⟩ | ⟨c4, h⟩
    · refine And.intro (fun _ => ?_) (fun hn => absurd c4 hn)
      show Ex mr_X9_sumAt sc (Cl MT pr sc (d + 0)) (rtE (some (orv r)) (mk X2) σ2) (21, [(0, .ref 0), (1, .int x1)], [], mk X, σ)
      show Ex mr_X9_sumAt sc (Cl MT pr sc (d + 0)) (rtE (some (orv r)) (mk X2) σ2) (21, [(0, .ref 0), (1, .int x1)], [], mk X, σ)
      refine Ex.pick (lv' := _) [] rfl ?_
      exact lg_X9_sumAt_21 d _ _ h
    · refine And.intro (fun hp => absurd hp c4) (fun _ => ?_)
      show Ex mr_X9_sumAt sc (Cl MT pr sc (d + 0)) (rtE (some (orv r)) (mk X2) σ2) (12, [(0, .ref 0), (1, .int x1)], [], mk X, σ)
      refine Ex.blk 3 rfl ?_
      show Ex mr_X9_sumAt sc (Cl MT pr sc (d + 0)) (rtE (some (orv r)) (mk X2) σ2) (17, [(0, .ref 0), (1, .int x1)], [.int x1, .ref 14], mk X, σ)
      obtain ⟨g1, h⟩ := gd_some h
      refine ex_aald rfl (by rfl) g1 rfl ?_
      show Ex mr_X9_sumAt sc (Cl MT pr sc (d + 0)) (rtE (some (orv r)) (mk X2) σ2) (18, [(0, .ref 0), (1, .int x1)], [orv (gR σ 14 x1.toNatClampNeg)], mk X, σ)
      refine Ex.blk 1 rfl ?_
      show Ex mr_X9_sumAt sc (Cl MT pr sc (d + 0)) (rtE (some (orv r)) (mk X2) σ2) (22, [(0, .ref 0), (1, .int x1)], [orv (gR σ 14 x1.toNatClampNeg)], mk X, σ)
      show Ex mr_X9_sumAt sc (Cl MT pr sc (d + 0)) (rtE (some (orv r)) (mk X2) σ2) (22, [(0, .ref 0), (1, .int x1)], [orv (gR σ 14 x1.toNatClampNeg)], mk X, σ)
      refine Ex.pick (lv' := _) [] rfl ?_
      exact lg_X9_sumAt_22 d _ _ _ h
theorem lg_X9_run_25 {pr : Ct} {sc : Nat × (Nat → Int32)} (d : Nat) {r : Int32} {X2 : En} {σ2 : St} (k14 : Nat → Int32 → En → St → Option (Int32 × En × St)) (hk14 : ∀ (v2 : Nat) (x3 : Int32) (X : En) (σ : St), k14 v2 x3 X σ = some (r, X2, σ2) → Ex mr_X9_run sc (Cl MT pr sc (d + 5)) (rtE (some (.int r)) (mk X2) σ2) (14, [(0, .ref 0), (2, .ref v2), (3, .int x3)], [], mk X, σ)) : ∀ (n : Nat) (v2 : Nat) (x3 : Int32) (x4 : Int32) (X : En) (σ : St), g_X9_run_25 k14 n v2 x3 x4 X σ = some (r, X2, σ2) → Ex mr_X9_run sc (Cl MT pr sc (d + 5)) (rtE (some (.int r)) (mk X2) σ2) (25, [(0, .ref 0), (2, .ref v2), (3, .int x3), (4, .int x4)], [], mk X, σ) := by
  intro n
  induction n with
  | zero =>
    intro v2 x3 x4 X σ h
    cases h
  | succ n ih =>
    intro v2 x3 x4 X σ h
    simp only [g_X9_run_25] at h
    obtain ⟨hk_v2_X, h⟩ := gd_some h
    refine Ex.blk 4 rfl ?_
    show Ex mr_X9_run sc (Cl MT pr sc (d + 5)) (rtE (some (.int r)) (mk X2) σ2) (30, [(0, .ref 0), (2, .ref v2), (3, .int x3), (4, .int x4)], [.int 2, .int x3, .ref v2, .int x4], mk X, σ)
    obtain ⟨p4, hp4, h⟩ := bind_sp h
    refine ex_callV (rv := (some (.int p4.1))) (E1 := (mk p4.2.1)) (σ1 := p4.2.2) rfl rfl hk_v2_X rfl rfl rfl (cg_X4_part (d + 4) hp4) ?_
    show Ex mr_X9_run sc (Cl MT pr sc (d + 5)) (rtE (some (.int r)) (mk X2) σ2) (33, [(0, .ref 0), (2, .ref v2), (3, .int x3), (4, .int x4)], [.int p4.1, .int x4], mk p4.2.1, p4.2.2)
    obtain ⟨hk_v2_p4_2_1, h⟩ := gd_some h
    refine Ex.blk 1 rfl ?_
    rcases ite_sp h with ⟨c8, h⟩ | ⟨c8, h⟩
    · refine And.intro (fun _ => ?_) (fun hn => absurd c8 hn)
      show Ex mr_X9_run sc (Cl MT pr sc (d + 5)) (rtE (some (.int r)) (mk X2) σ2) (59, [(0, .ref 0), (2, .ref v2), (3, .int x3), (4, .int x4)], [], mk p4.2.1, p4.2.2)
      refine Ex.blk 2 rfl ?_
      show Ex mr_X9_run sc (Cl MT pr sc (d + 5)) (rtE (some (.int r)) (mk X2) σ2) (14, [(3, .int (x3 + 1)), (0, .ref 0), (2, .ref v2), (4, .int x4)], [], mk p4.2.1, p4.2.2)
      show Ex mr_X9_run sc (Cl MT pr sc (d + 5)) (rtE (some (.int r)) (mk X2) σ2) (14, [(3, .int (x3 + 1)), (0, .ref 0), (2, .ref v2), (4, .int x4)], [], mk p4.2.1, p4.2.2)
      refine Ex.pick (lv' := _) [1, 2, 0] rfl ?_
      exact hk14 _ _ _ _ h
    · refine And.intro (fun hp => absurd hp c8) (fun _ => ?_)
      show Ex mr_X9_run sc (Cl MT pr sc (d + 5)) (rtE (some (.int r)) (mk X2) σ2) (36, [(0, .ref 0), (2, .ref v2), (3, .int x3), (4, .int x4)], [], mk p4.2.1, p4.2.2)
      refine Ex.blk 4 rfl ?_
      show Ex mr_X9_run sc (Cl MT pr sc (d + 5)) (rtE (some (.int r)) (mk X2) σ2) (40, [(0, .ref 0), (2, .ref v2), (3, .int x3), (4, .int x4)], [.int 0, .int x3, .ref v2, .ref 0], mk p4.2.1, p4.2.2)
      obtain ⟨p5, hp5, h⟩ := bind_sp h
      refine ex_callV (rv := (some (.int p5.1))) (E1 := (mk p5.2.1)) (σ1 := p5.2.2) rfl rfl hk_v2_p4_2_1 rfl rfl rfl (cg_X4_part (d + 4) hp5) ?_
      show Ex mr_X9_run sc (Cl MT pr sc (d + 5)) (rtE (some (.int r)) (mk X2) σ2) (43, [(0, .ref 0), (2, .ref v2), (3, .int x3), (4, .int x4)], [.int p5.1, .ref 0], mk p5.2.1, p5.2.2)
      obtain ⟨hk_v2_p5_2_1, h⟩ := gd_some h
      refine Ex.blk 3 rfl ?_
      show Ex mr_X9_run sc (Cl MT pr sc (d + 5)) (rtE (some (.int r)) (mk X2) σ2) (46, [(0, .ref 0), (2, .ref v2), (3, .int x3), (4, .int x4)], [.int 1, .int x3, .ref v2, .int p5.1, .ref 0], mk p5.2.1, p5.2.2)
      obtain ⟨p6, hp6, h⟩ := bind_sp h
      refine ex_callV (rv := (some (.int p6.1))) (E1 := (mk p6.2.1)) (σ1 := p6.2.2) rfl rfl hk_v2_p5_2_1 rfl rfl rfl (cg_X4_part (d + 4) hp6) ?_
      show Ex mr_X9_run sc (Cl MT pr sc (d + 5)) (rtE (some (.int r)) (mk X2) σ2) (49, [(0, .ref 0), (2, .ref v2), (3, .int x3), (4, .int x4)], [.int p6.1, .int p5.1, .ref 0], mk p6.2.1, p6.2.2)
      obtain ⟨hk_v2_p6_2_1, h⟩ := gd_some h
      obtain ⟨p7, hp7, h⟩ := bind_sp h
      refine Ex.blk 1 rfl ?_
      refine Exists.intro (some (.int p7.1)) (Exists.intro (mk p6.2.1) (Exists.intro p7.2 (And.intro (cl_X9_actOnce (d + 0) hp7) ?_)))
      show Ex mr_X9_run sc (Cl MT pr sc (d + 5)) (rtE (some (.int r)) (mk X2) σ2) (52, [(0, .ref 0), (2, .ref v2), (3, .int x3), (4, .int x4)], [.int p7.1], mk p6.2.1, p7.2)
      refine Ex.blk 3 rfl ?_
      show Ex mr_X9_run sc (Cl MT pr sc (d + 5)) (rtE (some (.int r)) (mk X2) σ2) (25, [(4, .int (x4 + 1)), (0, .ref 0), (2, .ref v2), (3, .int x3)], [], mk p6.2.1, p7.2)
      show Ex mr_X9_run sc (Cl MT pr sc (d + 5)) (rtE (some (.int r)) (mk X2) σ2) (25, [(4, .int (x4 + 1)), (0, .ref 0), (2, .ref v2), (3, .int x3)], [], mk p6.2.1, p7.2)
      refine Ex.pick (lv' := _) [1, 2, 3, 0] rfl ?_
      exact ih _ _ _ _ _ h
theorem lg_X9_run_14 {pr : Ct} {sc : Nat × (Nat → Int32)} (d : Nat) {r : Int32} {X2 : En} {σ2 : St} : ∀ (n : Nat) (v2 : Nat) (x3 : Int32) (X : En) (σ : St), g_X9_run_14 n v2 x3 X σ = some (r, X2, σ2) → Ex mr_X9_run sc (Cl MT pr sc (d + 5)) (rtE (some (.int r)) (mk X2) σ2) (14, [(0, .ref 0), (2, .ref v2), (3, .int x3)], [], mk X, σ) := by
  intro n
  induction n with
  | zero =>
    intro v2 x3 X σ h
    cases h
  | succ n ih =>
    intro v2 x3 X σ h
    simp only [g_X9_run_14] at h
    obtain ⟨hk_v2_X, h⟩ := gd_some h
    refine Ex.blk 2 rfl ?_
    show Ex mr_X9_run sc (Cl MT pr sc (d + 5)) (rtE (some (.int r)) (mk X2) σ2) (16, [(0, .ref 0), (2, .ref v2), (3, .int x3)], [.ref v2, .int x3], mk X, σ)
    refine ex_get rfl hk_v2_X rfl ?_
    show Ex mr_X9_run sc (Cl MT pr sc (d + 5)) (rtE (some (.int r)) (mk X2) σ2) (19, [(0, .ref 0), (2, .ref v2), (3, .int x3)], [.int (gI σ v2 0), .int x3], mk X, σ)
    refine Ex.blk 1 rfl ?_
    rcases ite_sp h with ⟨c9, h⟩ | ⟨c9, h⟩
    · refine And.intro (fun _ => ?_) (fun hn => absurd c9 hn)
      show Ex mr_X9_run sc (Cl MT pr sc (d + 5)) (rtE (some (.int r)) (mk X2) σ2) (65, [(0, .ref 0), (2, .ref v2), (3, .int x3)], [], mk X, σ)
      refine Ex.blk 3 rfl ?_
      cases h
      exact And.intro trivial ⟨rfl, rfl, rfl⟩
    · refine And.intro (fun hp => absurd hp c9) (fun _ => ?_)
      show Ex mr_X9_run sc (Cl MT pr sc (d + 5)) (rtE (some (.int r)) (mk X2) σ2) (22, [(0, .ref 0), (2, .ref v2), (3, .int x3)], [], mk X, σ)
      refine Ex.blk 2 rfl ?_
      show Ex mr_X9_run sc (Cl MT pr sc (d + 5)) (rtE (some (.int r)) (mk X2) σ2) (25, [(4, .int 0), (0, .ref 0), (2, .ref v2), (3, .int x3)], [], mk X, σ)
      show Ex mr_X9_run sc (Cl MT pr sc (d + 5)) (rtE (some (.int r)) (mk X2) σ2) (25, [(4, .int 0), (0, .ref 0), (2, .ref v2), (3, .int x3)], [], mk X, σ)
      refine Ex.pick (lv' := _) [1, 2, 3, 0] rfl ?_
      exact lg_X9_run_25 d _ ih FU _ _ _ _ _ h
theorem cg_X9_run {pr : Ct} {sc : Nat × (Nat → Int32)} (d : Nat) {r : Int32} {X2 : En} {σ2 : St} {x1 : Int32} {X : En} {σ : St} (h : g_X9_run x1 X σ = some (r, X2, σ2)) : Cl MT pr sc (d + 5 + 1) 98 [.ref 0, .int x1] (mk X) σ (some (.int r)) (mk X2) σ2 := by
  unfold g_X9_run at h
  obtain ⟨p, hp, h⟩ := bind_sp h
  obtain ⟨hz, h⟩ := gd_some h
  cases h
  refine cl_of2 mr_X9_run rfl rfl hz ?_
  have h := hp
  clear hp
  unfold g_X9_run_b at h
  refine Ex.blk 2 rfl ?_
  show Ex mr_X9_run sc (Cl MT pr sc (d + 5)) (rtE (some (.int r)) (mk X2) σ2) (2, [(0, .ref 0), (1, .int x1)], [.int x1, .ref 0], mk X, σ)
  obtain ⟨p1, hp1, h⟩ := bind_sp h
  refine Ex.blk 1 rfl ?_
  refine Exists.intro (some (orv p1.1)) (Exists.intro (mk p1.2.1) (Exists.intro p1.2.2 (And.intro (cg_X9_sumAt (d + 4) hp1) ?_)))
  show Ex mr_X9_run sc (Cl MT pr sc (d + 5)) (rtE (some (.int r)) (mk X2) σ2) (5, [(0, .ref 0), (1, .int x1)], [orv p1.1], mk p1.2.1, p1.2.2)
  rcases mR_sp h with ⟨hb3, h⟩ | ⟨b2, hb3, h⟩
  · rw [hb3]
    show Ex mr_X9_run sc (Cl MT pr sc (d + 5)) (rtE (some (.int r)) (mk X2) σ2) (5, [(0, .ref 0), (1, .int x1)], [.null], mk p1.2.1, p1.2.2)
    refine Ex.blk 3 rfl ?_
    show Ex mr_X9_run sc (Cl MT pr sc (d + 5)) (rtE (some (.int r)) (mk X2) σ2) (10, [(2, .null), (0, .ref 0), (1, .int x1)], [], mk p1.2.1, p1.2.2)
    refine Ex.blk 2 rfl ?_
    cases h
    exact And.intro trivial ⟨rfl, rfl, rfl⟩
  · rw [hb3]
    show Ex mr_X9_run sc (Cl MT pr sc (d + 5)) (rtE (some (.int r)) (mk X2) σ2) (5, [(0, .ref 0), (1, .int x1)], [.ref b2], mk p1.2.1, p1.2.2)
    obtain ⟨hk_b2_p1_2_1, h⟩ := gd_some h
    refine Ex.blk 3 rfl ?_
    show Ex mr_X9_run sc (Cl MT pr sc (d + 5)) (rtE (some (.int r)) (mk X2) σ2) (12, [(2, .ref b2), (0, .ref 0), (1, .int x1)], [], mk p1.2.1, p1.2.2)
    refine Ex.blk 2 rfl ?_
    show Ex mr_X9_run sc (Cl MT pr sc (d + 5)) (rtE (some (.int r)) (mk X2) σ2) (14, [(3, .int 0), (2, .ref b2), (0, .ref 0), (1, .int x1)], [], mk p1.2.1, p1.2.2)
    show Ex mr_X9_run sc (Cl MT pr sc (d + 5)) (rtE (some (.int r)) (mk X2) σ2) (14, [(3, .int 0), (2, .ref b2), (0, .ref 0), (1, .int x1)], [], mk p1.2.1, p1.2.2)
    refine Ex.pick (lv' := _) [2, 1, 0] rfl ?_
    exact lg_X9_run_14 d FU _ _ _ _ h
theorem lg_X9_goThrough_12 {pr : Ct} {sc : Nat × (Nat → Int32)} (d : Nat) (t : Nat)  {X2 : En} {σ2 : St} (k2 : Int32 → En → St → Option (En × St)) (hk2 : ∀ (x2 : Int32) (X : En) (σ : St), k2 x2 X σ = some (X2, σ2) → Ex mr_X9_goThrough sc (Cl MT pr sc (d + 4)) (rtE none (mk X2) σ2) (2, [(0, .ref 0), (1, .ref t), (2, .int x2)], [], mk X, σ)) : ∀ (n : Nat) (x2 : Int32) (x3 : Int32) (X : En) (σ : St), g_X9_goThrough_12 t k2 n x2 x3 X σ = some (X2, σ2) → Ex mr_X9_goThrough sc (Cl MT pr sc (d + 4)) (rtE none (mk X2) σ2) (12, [(0, .ref 0), (1, .ref t), (2, .int x2), (3, .int x3)], [], mk X, σ) := by
  intro n
  induction n with
  | zero =>
    intro x2 x3 X σ h
    cases h
  | succ n ih =>
    intro x2 x3 X σ h
    simp only [g_X9_goThrough_12] at h
    obtain ⟨hk_t_X, h⟩ := gd_some h
    refine Ex.blk 4 rfl ?_
    show Ex mr_X9_goThrough sc (Cl MT pr sc (d + 4)) (rtE none (mk X2) σ2) (16, [(0, .ref 0), (1, .ref t), (2, .int x2), (3, .int x3)], [.int 2, .int x2, .ref t, .int x3], mk X, σ)
    obtain ⟨p1, hp1, h⟩ := bind_sp h
    refine ex_callV (rv := (some (.int p1.1))) (E1 := (mk p1.2.1)) (σ1 := p1.2.2) rfl rfl hk_t_X rfl rfl rfl (cg_X4_part (d + 3) hp1) ?_
    show Ex mr_X9_goThrough sc (Cl MT pr sc (d + 4)) (rtE none (mk X2) σ2) (19, [(0, .ref 0), (1, .ref t), (2, .int x2), (3, .int x3)], [.int p1.1, .int x3], mk p1.2.1, p1.2.2)
    obtain ⟨hk_t_p1_2_1, h⟩ := gd_some h
    refine Ex.blk 1 rfl ?_
    rcases ite_sp h with ⟨c5, h⟩ | ⟨c5, h⟩
    · refine And.intro (fun _ => ?_) (fun hn => absurd c5 hn)
      show Ex mr_X9_goThrough sc (Cl MT pr sc (d + 4)) (rtE none (mk X2) σ2) (49, [(0, .ref 0), (1, .ref t), (2, .int x2), (3, .int x3)], [], mk p1.2.1, p1.2.2)
      refine Ex.blk 2 rfl ?_
      show Ex mr_X9_goThrough sc (Cl MT pr sc (d + 4)) (rtE none (mk X2) σ2) (2, [(2, .int (x2 + 1)), (0, .ref 0), (1, .ref t), (3, .int x3)], [], mk p1.2.1, p1.2.2)
      show Ex mr_X9_goThrough sc (Cl MT pr sc (d + 4)) (rtE none (mk X2) σ2) (2, [(2, .int (x2 + 1)), (0, .ref 0), (1, .ref t), (3, .int x3)], [], mk p1.2.1, p1.2.2)
      refine Ex.pick (lv' := _) [1, 2, 0] rfl ?_
      exact hk2 _ _ _ h
    · refine And.intro (fun hp => absurd hp c5) (fun _ => ?_)
      show Ex mr_X9_goThrough sc (Cl MT pr sc (d + 4)) (rtE none (mk X2) σ2) (22, [(0, .ref 0), (1, .ref t), (2, .int x2), (3, .int x3)], [], mk p1.2.1, p1.2.2)
      refine Ex.blk 5 rfl ?_
      show Ex mr_X9_goThrough sc (Cl MT pr sc (d + 4)) (rtE none (mk X2) σ2) (29, [(0, .ref 0), (1, .ref t), (2, .int x2), (3, .int x3)], [.int x2, .ref t, .ref 5, .ref 0], mk p1.2.1, p1.2.2)
      refine Ex.blk 1 rfl ?_
      show Ex mr_X9_goThrough sc (Cl MT pr sc (d + 4)) (rtE none (mk X2) σ2) (30, [(0, .ref 0), (1, .ref t), (2, .int x2), (3, .int x3)], [.int 0, .int x2, .ref t, .ref 5, .ref 0], mk p1.2.1, p1.2.2)
      obtain ⟨p2, hp2, h⟩ := bind_sp h
      refine ex_callV (rv := (some (.int p2.1))) (E1 := (mk p2.2.1)) (σ1 := p2.2.2) rfl rfl hk_t_p1_2_1 rfl rfl rfl (cg_X4_part (d + 3) hp2) ?_
      show Ex mr_X9_goThrough sc (Cl MT pr sc (d + 4)) (rtE none (mk X2) σ2) (33, [(0, .ref 0), (1, .ref t), (2, .int x2), (3, .int x3)], [.int p2.1, .ref 5, .ref 0], mk p2.2.1, p2.2.2)
      obtain ⟨hk_t_p2_2_1, h⟩ := gd_some h
      refine Ex.blk 3 rfl ?_
      show Ex mr_X9_goThrough sc (Cl MT pr sc (d + 4)) (rtE none (mk X2) σ2) (36, [(0, .ref 0), (1, .ref t), (2, .int x2), (3, .int x3)], [.int 1, .int x2, .ref t, .int p2.1, .ref 5, .ref 0], mk p2.2.1, p2.2.2)
      obtain ⟨p3, hp3, h⟩ := bind_sp h
      refine ex_callV (rv := (some (.int p3.1))) (E1 := (mk p3.2.1)) (σ1 := p3.2.2) rfl rfl hk_t_p2_2_1 rfl rfl rfl (cg_X4_part (d + 3) hp3) ?_
      show Ex mr_X9_goThrough sc (Cl MT pr sc (d + 4)) (rtE none (mk X2) σ2) (39, [(0, .ref 0), (1, .ref t), (2, .int x2), (3, .int x3)], [.int p3.1, .int p2.1, .ref 5, .ref 0], mk p3.2.1, p3.2.2)
      obtain ⟨hk_t_p3_2_1, h⟩ := gd_some h
      refine Ex.blk 1 rfl ?_
      show Ex mr_X9_goThrough sc (Cl MT pr sc (d + 4)) (rtE none (mk X2) σ2) (40, [(0, .ref 0), (1, .ref t), (2, .int x2), (3, .int x3)], [.null, .int p3.1, .int p2.1, .ref 5, .ref 0], mk p3.2.1, p3.2.2)
      obtain ⟨p4, hp4, h⟩ := bind_sp h
      refine Ex.blk 1 rfl ?_
      refine Exists.intro none (Exists.intro (mk p3.2.1) (Exists.intro p4 (And.intro (cl_X9_perform_n_5 (d + 0) hp4) ?_)))
      show Ex mr_X9_goThrough sc (Cl MT pr sc (d + 4)) (rtE none (mk X2) σ2) (43, [(0, .ref 0), (1, .ref t), (2, .int x2), (3, .int x3)], [], mk p3.2.1, p4)
      refine Ex.blk 2 rfl ?_
      show Ex mr_X9_goThrough sc (Cl MT pr sc (d + 4)) (rtE none (mk X2) σ2) (12, [(3, .int (x3 + 1)), (0, .ref 0), (1, .ref t), (2, .int x2)], [], mk p3.2.1, p4)
      show Ex mr_X9_goThrough sc (Cl MT pr sc (d + 4)) (rtE none (mk X2) σ2) (12, [(3, .int (x3 + 1)), (0, .ref 0), (1, .ref t), (2, .int x2)], [], mk p3.2.1, p4)
      refine Ex.pick (lv' := _) [1, 2, 3, 0] rfl ?_
      exact ih _ _ _ _ h
theorem lg_X9_goThrough_2 {pr : Ct} {sc : Nat × (Nat → Int32)} (d : Nat) (t : Nat)  {X2 : En} {σ2 : St} : ∀ (n : Nat) (x2 : Int32) (X : En) (σ : St), g_X9_goThrough_2 t n x2 X σ = some (X2, σ2) → Ex mr_X9_goThrough sc (Cl MT pr sc (d + 4)) (rtE none (mk X2) σ2) (2, [(0, .ref 0), (1, .ref t), (2, .int x2)], [], mk X, σ) := by
  intro n
  induction n with
  | zero =>
    intro x2 X σ h
    cases h
  | succ n ih =>
    intro x2 X σ h
    simp only [g_X9_goThrough_2] at h
    obtain ⟨hk_t_X, h⟩ := gd_some h
    refine Ex.blk 2 rfl ?_
    show Ex mr_X9_goThrough sc (Cl MT pr sc (d + 4)) (rtE none (mk X2) σ2) (4, [(0, .ref 0), (1, .ref t), (2, .int x2)], [.ref t, .int x2], mk X, σ)
    refine ex_get rfl hk_t_X rfl ?_
    show Ex mr_X9_goThrough sc (Cl MT pr sc (d + 4)) (rtE none (mk X2) σ2) (7, [(0, .ref 0), (1, .ref t), (2, .int x2)], [.int (gI σ t 0), .int x2], mk X, σ)
    refine Ex.blk 1 rfl ?_
    rcases ite_sp h with ⟨c6, h⟩ | ⟨c6, h⟩
    · refine And.intro (fun _ => ?_) (fun hn => absurd c6 hn)
      show Ex mr_X9_goThrough sc (Cl MT pr sc (d + 4)) (rtE none (mk X2) σ2) (55, [(0, .ref 0), (1, .ref t), (2, .int x2)], [], mk X, σ)
      refine Ex.blk 1 rfl ?_
      cases h
      exact And.intro trivial ⟨rfl, rfl, rfl⟩
    · refine And.intro (fun hp => absurd hp c6) (fun _ => ?_)
      show Ex mr_X9_goThrough sc (Cl MT pr sc (d + 4)) (rtE none (mk X2) σ2) (10, [(0, .ref 0), (1, .ref t), (2, .int x2)], [], mk X, σ)
      refine Ex.blk 2 rfl ?_
      show Ex mr_X9_goThrough sc (Cl MT pr sc (d + 4)) (rtE none (mk X2) σ2) (12, [(3, .int 0), (0, .ref 0), (1, .ref t), (2, .int x2)], [], mk X, σ)
      show Ex mr_X9_goThrough sc (Cl MT pr sc (d + 4)) (rtE none (mk X2) σ2) (12, [(3, .int 0), (0, .ref 0), (1, .ref t), (2, .int x2)], [], mk X, σ)
      refine Ex.pick (lv' := _) [1, 2, 3, 0] rfl ?_
      exact lg_X9_goThrough_12 d t _ ih FU _ _ _ _ h
theorem cg_X9_goThrough {pr : Ct} {sc : Nat × (Nat → Int32)} (d : Nat)  {X2 : En} {σ2 : St} {t : Nat} {X : En} {σ : St} (h : g_X9_goThrough t X σ = some (X2, σ2)) : Cl MT pr sc (d + 4 + 1) 134 [.ref 0, .ref t] (mk X) σ none (mk X2) σ2 := by
  unfold g_X9_goThrough at h
  obtain ⟨p, hp, h⟩ := bind_sp h
  obtain ⟨hz, h⟩ := gd_some h
  cases h
  refine cl_of2 mr_X9_goThrough rfl rfl hz ?_
  have h := hp
  clear hp
  unfold g_X9_goThrough_b at h
  obtain ⟨hk_t_X, h⟩ := gd_some h
  refine Ex.blk 2 rfl ?_
  show Ex mr_X9_goThrough sc (Cl MT pr sc (d + 4)) (rtE none (mk X2) σ2) (2, [(2, .int 0), (0, .ref 0), (1, .ref t)], [], mk X, σ)
  show Ex mr_X9_goThrough sc (Cl MT pr sc (d + 4)) (rtE none (mk X2) σ2) (2, [(2, .int 0), (0, .ref 0), (1, .ref t)], [], mk X, σ)
  refine Ex.pick (lv' := _) [1, 2, 0] rfl ?_
  exact lg_X9_goThrough_2 d t FU _ _ _ h
theorem lg_X9_leastHerd_38 {pr : Ct} {sc : Nat × (Nat → Int32)} (d : Nat) (self : Int32 → Int32 → Int32 → Int32 → Int32 → En → St → Option (Int32 × En × St)) (hs : ∀ (x0 : Int32) (x1 : Int32) (x2 : Int32) (x3 : Int32) (x4 : Int32) (X : En) (σ : St) (r : Int32) (X2 : En) (σ2 : St), self x0 x1 x2 x3 x4 X σ = some (r, X2, σ2) → Cl MT pr sc (d + 1) 131 [.int x0, .int x1, .int x2, .int x3, .int x4] (mk X) σ (some (.int r)) (mk X2) σ2) {r : Int32} {X2 : En} {σ2 : St} (y0 : Int32) (X : En) (σ : St) (h : g_X9_leastHerd_38 self y0 X σ = some (r, X2, σ2)) : Ex mr_X9_leastHerd sc (Cl MT pr sc (d + 1)) (rtE (some (.int r)) (mk X2) σ2) (38, [], [.int y0], mk X, σ) := by
  unfold g_X9_leastHerd_38 at h
  refine Ex.blk 1 rfl ?_
  cases h
  exact And.intro trivial ⟨rfl, rfl, rfl⟩
theorem lg_X9_leastHerd_37 {pr : Ct} {sc : Nat × (Nat → Int32)} (d : Nat) (self : Int32 → Int32 → Int32 → Int32 → Int32 → En → St → Option (Int32 × En × St)) (hs : ∀ (x0 : Int32) (x1 : Int32) (x2 : Int32) (x3 : Int32) (x4 : Int32) (X : En) (σ : St) (r : Int32) (X2 : En) (σ2 : St), self x0 x1 x2 x3 x4 X σ = some (r, X2, σ2) → Cl MT pr sc (d + 1) 131 [.int x0, .int x1, .int x2, .int x3, .int x4] (mk X) σ (some (.int r)) (mk X2) σ2) {r : Int32} {X2 : En} {σ2 : St} (X : En) (σ : St) (h : g_X9_leastHerd_37 self X σ = some (r, X2, σ2)) : Ex mr_X9_leastHerd sc (Cl MT pr sc (d + 1)) (rtE (some (.int r)) (mk X2) σ2) (37, [], [], mk X, σ) := by
  unfold g_X9_leastHerd_37 at h
  refine Ex.blk 1 rfl ?_
  show Ex mr_X9_leastHerd sc (Cl MT pr sc (d + 1)) (rtE (some (.int r)) (mk X2) σ2) (38, [], [.int (-1)], mk X, σ)
  show Ex mr_X9_leastHerd sc (Cl MT pr sc (d + 1)) (rtE (some (.int r)) (mk X2) σ2) (38, [], [.int (-1)], mk X, σ)
  exact lg_X9_leastHerd_38 d self hs _ _ _ h
theorem lg_X9_leastHerd_20 {pr : Ct} {sc : Nat × (Nat → Int32)} (d : Nat) (self : Int32 → Int32 → Int32 → Int32 → Int32 → En → St → Option (Int32 × En × St)) (hs : ∀ (x0 : Int32) (x1 : Int32) (x2 : Int32) (x3 : Int32) (x4 : Int32) (X : En) (σ : St) (r : Int32) (X2 : En) (σ2 : St), self x0 x1 x2 x3 x4 X σ = some (r, X2, σ2) → Cl MT pr sc (d + 1) 131 [.int x0, .int x1, .int x2, .int x3, .int x4] (mk X) σ (some (.int r)) (mk X2) σ2) {r : Int32} {X2 : En} {σ2 : St} (x2 : Int32) (x3 : Int32) (x5 : Int32) (X : En) (σ : St) (h : g_X9_leastHerd_20 self x2 x3 x5 X σ = some (r, X2, σ2)) : Ex mr_X9_leastHerd sc (Cl MT pr sc (d + 1)) (rtE (some (.int r)) (mk X2) σ2) (20, [(2, .int x2), (3, .int x3), (5, .int x5)], [], mk X, σ) := by
  unfold g_X9_leastHerd_20 at h
  refine Ex.blk 2 rfl ?_
  rcases ite_sp h with ⟨c2, h⟩ | ⟨c2, h⟩
  · refine And.intro (fun hp => absurd c2 hp) (fun _ => ?_)
    show Ex mr_X9_leastHerd sc (Cl MT pr sc (d + 1)) (rtE (some (.int r)) (mk X2) σ2) (24, [(2, .int x2), (3, .int x3), (5, .int x5)], [], mk X, σ)
    refine Ex.blk 5 rfl ?_
    rcases ite_sp h with ⟨c1, h⟩ | ⟨c1, h⟩
    · refine And.intro (fun hp => absurd c1 hp) (fun _ => ?_)
      show Ex mr_X9_leastHerd sc (Cl MT pr sc (d + 1)) (rtE (some (.int r)) (mk X2) σ2) (33, [(2, .int x2), (3, .int x3), (5, .int x5)], [], mk X, σ)
      refine Ex.blk 2 rfl ?_
      show Ex mr_X9_leastHerd sc (Cl MT pr sc (d + 1)) (rtE (some (.int r)) (mk X2) σ2) (38, [(2, .int x2), (3, .int x3), (5, .int x5)], [.int 0], mk X, σ)
      show Ex mr_X9_leastHerd sc (Cl MT pr sc (d + 1)) (rtE (some (.int r)) (mk X2) σ2) (38, [(2, .int x2), (3, .int x3), (5, .int x5)], [.int 0], mk X, σ)
      refine Ex.pick (lv' := _) [] rfl ?_
      exact lg_X9_leastHerd_38 d self hs _ _ _ h
    · refine And.intro (fun _ => ?_) (fun hn => absurd c1 hn)
      show Ex mr_X9_leastHerd sc (Cl MT pr sc (d + 1)) (rtE (some (.int r)) (mk X2) σ2) (37, [(2, .int x2), (3, .int x3), (5, .int x5)], [], mk X, σ)
      show Ex mr_X9_leastHerd sc (Cl MT pr sc (d + 1)) (rtE (some (.int r)) (mk X2) σ2) (37, [(2, .int x2), (3, .int x3), (5, .int x5)], [], mk X, σ)
      refine Ex.pick (lv' := _) [] rfl ?_
      exact lg_X9_leastHerd_37 d self hs _ _ h
  · refine And.intro (fun _ => ?_) (fun hn => absurd c2 hn)
    show Ex mr_X9_leastHerd sc (Cl MT pr sc (d + 1)) (rtE (some (.int r)) (mk X2) σ2) (37, [(2, .int x2), (3, .int x3), (5, .int x5)], [], mk X, σ)
    show Ex mr_X9_leastHerd sc (Cl MT pr sc (d + 1)) (rtE (some (.int r)) (mk X2) σ2) (37, [(2, .int x2), (3, .int x3), (5, .int x5)], [], mk X, σ)
    refine Ex.pick (lv' := _) [] rfl ?_
    exact lg_X9_leastHerd_37 d self hs _ _ h
