theorem lg_X1_spread_111 {pr : Ct} {sc : Nat × (Nat → Int32)} (d : Nat)  {X2 : En} {σ2 : St} (k11 : Int32 → Int64 → Int32 → Int32 → En → St → Option (En × St)) (hk11 : ∀ (x1 : Int32) (x2 : Int64) (x4 : Int32) (x5 : Int32) (X : En) (σ : St), k11 x1 x2 x4 x5 X σ = some (X2, σ2) → Ex mr_X1_spread sc (Cl MT pr sc (d + 1)) (rtE none (mk X2) σ2) (11, [(0, .ref 15), (1, .int x1), (2, .long x2), (4, .int x4), (5, .int x5)], [], mk X, σ)) (x1 : Int32) (x2 : Int64) (x4 : Int32) (x5 : Int32) (X : En) (σ : St) (h : g_X1_spread_111 k11 x1 x2 x4 x5 X σ = some (X2, σ2)) : Ex mr_X1_spread sc (Cl MT pr sc (d + 1)) (rtE none (mk X2) σ2) (111, [(0, .ref 15), (1, .int x1), (2, .long x2), (4, .int x4), (5, .int x5)], [], mk X, σ) := by
  unfold g_X1_spread_111 at h
  refine Ex.blk 2 rfl ?_
  show Ex mr_X1_spread sc (Cl MT pr sc (d + 1)) (rtE none (mk X2) σ2) (11, [(5, .int (x5 + 1)), (0, .ref 15), (1, .int x1), (2, .long x2), (4, .int x4)], [], mk X, σ)
  show Ex mr_X1_spread sc (Cl MT pr sc (d + 1)) (rtE none (mk X2) σ2) (11, [(5, .int (x5 + 1)), (0, .ref 15), (1, .int x1), (2, .long x2), (4, .int x4)], [], mk X, σ)
  refine Ex.pick (lv' := _) [1, 2, 3, 4, 0] rfl ?_
  exact hk11 _ _ _ _ _ _ h
theorem lg_X1_spread_105 {pr : Ct} {sc : Nat × (Nat → Int32)} (d : Nat)  {X2 : En} {σ2 : St} (k11 : Int32 → Int64 → Int32 → Int32 → En → St → Option (En × St)) (k44 : Int32 → Int64 → Int32 → Int32 → Int32 → Int32 → Int32 → En → St → Option (En × St)) (hk11 : ∀ (x1 : Int32) (x2 : Int64) (x4 : Int32) (x5 : Int32) (X : En) (σ : St), k11 x1 x2 x4 x5 X σ = some (X2, σ2) → Ex mr_X1_spread sc (Cl MT pr sc (d + 1)) (rtE none (mk X2) σ2) (11, [(0, .ref 15), (1, .int x1), (2, .long x2), (4, .int x4), (5, .int x5)], [], mk X, σ)) (hk44 : ∀ (x1 : Int32) (x2 : Int64) (x4 : Int32) (x5 : Int32) (x6 : Int32) (x7 : Int32) (x8 : Int32) (X : En) (σ : St), k44 x1 x2 x4 x5 x6 x7 x8 X σ = some (X2, σ2) → Ex mr_X1_spread sc (Cl MT pr sc (d + 1)) (rtE none (mk X2) σ2) (44, [(0, .ref 15), (1, .int x1), (2, .long x2), (4, .int x4), (5, .int x5), (6, .int x6), (7, .int x7), (8, .int x8)], [], mk X, σ)) (x1 : Int32) (x2 : Int64) (x4 : Int32) (x5 : Int32) (x6 : Int32) (x7 : Int32) (x8 : Int32) (X : En) (σ : St) (h : g_X1_spread_105 k11 k44 x1 x2 x4 x5 x6 x7 x8 X σ = some (X2, σ2)) : Ex mr_X1_spread sc (Cl MT pr sc (d + 1)) (rtE none (mk X2) σ2) (105, [(0, .ref 15), (1, .int x1), (2, .long x2), (4, .int x4), (5, .int x5), (6, .int x6), (7, .int x7), (8, .int x8)], [], mk X, σ) := by
  unfold g_X1_spread_105 at h
  refine Ex.blk 2 rfl ?_
  show Ex mr_X1_spread sc (Cl MT pr sc (d + 1)) (rtE none (mk X2) σ2) (44, [(8, .int (x8 + 1)), (0, .ref 15), (1, .int x1), (2, .long x2), (4, .int x4), (5, .int x5), (6, .int x6), (7, .int x7)], [], mk X, σ)
  show Ex mr_X1_spread sc (Cl MT pr sc (d + 1)) (rtE none (mk X2) σ2) (44, [(8, .int (x8 + 1)), (0, .ref 15), (1, .int x1), (2, .long x2), (4, .int x4), (5, .int x5), (6, .int x6), (7, .int x7)], [], mk X, σ)
  refine Ex.pick (lv' := _) [1, 2, 3, 4, 5, 6, 7, 0] rfl ?_
  exact hk44 _ _ _ _ _ _ _ _ _ h
theorem lg_X1_spread_82 {pr : Ct} {sc : Nat × (Nat → Int32)} (d : Nat)  {X2 : En} {σ2 : St} (k11 : Int32 → Int64 → Int32 → Int32 → En → St → Option (En × St)) (k44 : Int32 → Int64 → Int32 → Int32 → Int32 → Int32 → Int32 → En → St → Option (En × St)) (hk11 : ∀ (x1 : Int32) (x2 : Int64) (x4 : Int32) (x5 : Int32) (X : En) (σ : St), k11 x1 x2 x4 x5 X σ = some (X2, σ2) → Ex mr_X1_spread sc (Cl MT pr sc (d + 1)) (rtE none (mk X2) σ2) (11, [(0, .ref 15), (1, .int x1), (2, .long x2), (4, .int x4), (5, .int x5)], [], mk X, σ)) (hk44 : ∀ (x1 : Int32) (x2 : Int64) (x4 : Int32) (x5 : Int32) (x6 : Int32) (x7 : Int32) (x8 : Int32) (X : En) (σ : St), k44 x1 x2 x4 x5 x6 x7 x8 X σ = some (X2, σ2) → Ex mr_X1_spread sc (Cl MT pr sc (d + 1)) (rtE none (mk X2) σ2) (44, [(0, .ref 15), (1, .int x1), (2, .long x2), (4, .int x4), (5, .int x5), (6, .int x6), (7, .int x7), (8, .int x8)], [], mk X, σ)) (x1 : Int32) (x2 : Int64) (x4 : Int32) (x5 : Int32) (x6 : Int32) (x7 : Int32) (x8 : Int32) (y0 : Int32) (X : En) (σ : St) (h : g_X1_spread_82 k11 k44 x1 x2 x4 x5 x6 x7 x8 y0 X σ = some (X2, σ2)) : Ex mr_X1_spread sc (Cl MT pr sc (d + 1)) (rtE none (mk X2) σ2) (82, [(0, .ref 15), (1, .int x1), (2, .long x2), (4, .int x4), (5, .int x5), (6, .int x6), (7, .int x7), (8, .int x8)], [.int y0], mk X, σ) := by
  unfold g_X1_spread_82 at h
  refine Ex.blk 2 rfl ?_
  show Ex mr_X1_spread sc (Cl MT pr sc (d + 1)) (rtE none (mk X2) σ2) (85, [(9, .int y0), (0, .ref 15), (1, .int x1), (2, .long x2), (4, .int x4), (5, .int x5), (6, .int x6), (7, .int x7), (8, .int x8)], [.ref 15], mk X, σ)
  obtain ⟨b10, hb11, h⟩ := bind_sp h
  refine ex_get rfl (by rfl) (congrArg orv hb11) ?_
  show Ex mr_X1_spread sc (Cl MT pr sc (d + 1)) (rtE none (mk X2) σ2) (88, [(9, .int y0), (0, .ref 15), (1, .int x1), (2, .long x2), (4, .int x4), (5, .int x5), (6, .int x6), (7, .int x7), (8, .int x8)], [.ref b10], mk X, σ)
  obtain ⟨hk_b10_X, h⟩ := gd_some h
  refine Ex.blk 2 rfl ?_
  show Ex mr_X1_spread sc (Cl MT pr sc (d + 1)) (rtE none (mk X2) σ2) (91, [(9, .int y0), (0, .ref 15), (1, .int x1), (2, .long x2), (4, .int x4), (5, .int x5), (6, .int x6), (7, .int x7), (8, .int x8)], [.int y0, .ref b10, .int y0, .ref b10], mk X, σ)
  obtain ⟨g12, h⟩ := gd_some h
  refine ex_lald rfl hk_b10_X g12 ?_
  show Ex mr_X1_spread sc (Cl MT pr sc (d + 1)) (rtE none (mk X2) σ2) (92, [(9, .int y0), (0, .ref 15), (1, .int x1), (2, .long x2), (4, .int x4), (5, .int x5), (6, .int x6), (7, .int x7), (8, .int x8)], [.long (gJ σ b10 y0.toNatClampNeg), .int y0, .ref b10], mk X, σ)
  refine Ex.blk 1 rfl ?_
  show Ex mr_X1_spread sc (Cl MT pr sc (d + 1)) (rtE none (mk X2) σ2) (93, [(9, .int y0), (0, .ref 15), (1, .int x1), (2, .long x2), (4, .int x4), (5, .int x5), (6, .int x6), (7, .int x7), (8, .int x8)], [.ref 15, .long (gJ σ b10 y0.toNatClampNeg), .int y0, .ref b10], mk X, σ)
  obtain ⟨b13, hb14, h⟩ := bind_sp h
  refine ex_get rfl (by rfl) (congrArg orv hb14) ?_
  show Ex mr_X1_spread sc (Cl MT pr sc (d + 1)) (rtE none (mk X2) σ2) (96, [(9, .int y0), (0, .ref 15), (1, .int x1), (2, .long x2), (4, .int x4), (5, .int x5), (6, .int x6), (7, .int x7), (8, .int x8)], [.ref b13, .long (gJ σ b10 y0.toNatClampNeg), .int y0, .ref b10], mk X, σ)
  obtain ⟨hk_b13_X, h⟩ := gd_some h
  refine Ex.blk 1 rfl ?_
  show Ex mr_X1_spread sc (Cl MT pr sc (d + 1)) (rtE none (mk X2) σ2) (98, [(9, .int y0), (0, .ref 15), (1, .int x1), (2, .long x2), (4, .int x4), (5, .int x5), (6, .int x6), (7, .int x7), (8, .int x8)], [.int x8, .ref b13, .long (gJ σ b10 y0.toNatClampNeg), .int y0, .ref b10], mk X, σ)
  obtain ⟨g15, h⟩ := gd_some h
  refine ex_lald rfl hk_b13_X g15 ?_
  show Ex mr_X1_spread sc (Cl MT pr sc (d + 1)) (rtE none (mk X2) σ2) (99, [(9, .int y0), (0, .ref 15), (1, .int x1), (2, .long x2), (4, .int x4), (5, .int x5), (6, .int x6), (7, .int x7), (8, .int x8)], [.long (gJ σ b13 x8.toNatClampNeg), .long (gJ σ b10 y0.toNatClampNeg), .int y0, .ref b10], mk X, σ)
  refine Ex.blk 4 rfl ?_
  show Ex mr_X1_spread sc (Cl MT pr sc (d + 1)) (rtE none (mk X2) σ2) (104, [(9, .int y0), (0, .ref 15), (1, .int x1), (2, .long x2), (4, .int x4), (5, .int x5), (6, .int x6), (7, .int x7), (8, .int x8)], [.long ((gJ σ b10 y0.toNatClampNeg) + ((gJ σ b13 x8.toNatClampNeg) * x6.toInt64)), .int y0, .ref b10], mk X, σ)
  obtain ⟨g16, h⟩ := gd_some h
  refine ex_last rfl hk_b10_X g16 ?_
  show Ex mr_X1_spread sc (Cl MT pr sc (d + 1)) (rtE none (mk X2) σ2) (105, [(9, .int y0), (0, .ref 15), (1, .int x1), (2, .long x2), (4, .int x4), (5, .int x5), (6, .int x6), (7, .int x7), (8, .int x8)], [], mk X, (sJ σ b10 y0.toNatClampNeg ((gJ σ b10 y0.toNatClampNeg) + ((gJ σ b13 x8.toNatClampNeg) * x6.toInt64))))
  refine Ex.pick (lv' := _) [1, 2, 3, 4, 5, 6, 7, 8] rfl ?_
  exact lg_X1_spread_105 d _ _ hk11 hk44 _ _ _ _ _ _ _ _ _ h
theorem lg_X1_spread_44 {pr : Ct} {sc : Nat × (Nat → Int32)} (d : Nat)  {X2 : En} {σ2 : St} (k11 : Int32 → Int64 → Int32 → Int32 → En → St → Option (En × St)) (hk11 : ∀ (x1 : Int32) (x2 : Int64) (x4 : Int32) (x5 : Int32) (X : En) (σ : St), k11 x1 x2 x4 x5 X σ = some (X2, σ2) → Ex mr_X1_spread sc (Cl MT pr sc (d + 1)) (rtE none (mk X2) σ2) (11, [(0, .ref 15), (1, .int x1), (2, .long x2), (4, .int x4), (5, .int x5)], [], mk X, σ)) : ∀ (n : Nat) (x1 : Int32) (x2 : Int64) (x4 : Int32) (x5 : Int32) (x6 : Int32) (x7 : Int32) (x8 : Int32) (X : En) (σ : St), g_X1_spread_44 k11 n x1 x2 x4 x5 x6 x7 x8 X σ = some (X2, σ2) → Ex mr_X1_spread sc (Cl MT pr sc (d + 1)) (rtE none (mk X2) σ2) (44, [(0, .ref 15), (1, .int x1), (2, .long x2), (4, .int x4), (5, .int x5), (6, .int x6), (7, .int x7), (8, .int x8)], [], mk X, σ) := by
  intro n
  induction n with
  | zero =>
    intro x1 x2 x4 x5 x6 x7 x8 X σ h
    cases h
  | succ n ih =>
    intro x1 x2 x4 x5 x6 x7 x8 X σ h
    simp only [g_X1_spread_44] at h
    refine Ex.blk 3 rfl ?_
    rcases ite_sp h with ⟨c19, h⟩ | ⟨c19, h⟩
    · refine And.intro (fun _ => ?_) (fun hn => absurd c19 hn)
      show Ex mr_X1_spread sc (Cl MT pr sc (d + 1)) (rtE none (mk X2) σ2) (111, [(0, .ref 15), (1, .int x1), (2, .long x2), (4, .int x4), (5, .int x5), (6, .int x6), (7, .int x7), (8, .int x8)], [], mk X, σ)
      show Ex mr_X1_spread sc (Cl MT pr sc (d + 1)) (rtE none (mk X2) σ2) (111, [(0, .ref 15), (1, .int x1), (2, .long x2), (4, .int x4), (5, .int x5), (6, .int x6), (7, .int x7), (8, .int x8)], [], mk X, σ)
      refine Ex.pick (lv' := _) [0, 1, 2, 3, 4] rfl ?_
      exact lg_X1_spread_111 d _ hk11 _ _ _ _ _ _ h
    · refine And.intro (fun hp => absurd hp c19) (fun _ => ?_)
      show Ex mr_X1_spread sc (Cl MT pr sc (d + 1)) (rtE none (mk X2) σ2) (51, [(0, .ref 15), (1, .int x1), (2, .long x2), (4, .int x4), (5, .int x5), (6, .int x6), (7, .int x7), (8, .int x8)], [], mk X, σ)
      refine Ex.blk 2 rfl ?_
      rcases ite_sp h with ⟨c18, h⟩ | ⟨c18, h⟩
      · refine And.intro (fun _ => ?_) (fun hn => absurd c18 hn)
        show Ex mr_X1_spread sc (Cl MT pr sc (d + 1)) (rtE none (mk X2) σ2) (111, [(0, .ref 15), (1, .int x1), (2, .long x2), (4, .int x4), (5, .int x5), (6, .int x6), (7, .int x7), (8, .int x8)], [], mk X, σ)
        show Ex mr_X1_spread sc (Cl MT pr sc (d + 1)) (rtE none (mk X2) σ2) (111, [(0, .ref 15), (1, .int x1), (2, .long x2), (4, .int x4), (5, .int x5), (6, .int x6), (7, .int x7), (8, .int x8)], [], mk X, σ)
        refine Ex.pick (lv' := _) [0, 1, 2, 3, 4] rfl ?_
        exact lg_X1_spread_111 d _ hk11 _ _ _ _ _ _ h
      · refine And.intro (fun hp => absurd hp c18) (fun _ => ?_)
        show Ex mr_X1_spread sc (Cl MT pr sc (d + 1)) (rtE none (mk X2) σ2) (56, [(0, .ref 15), (1, .int x1), (2, .long x2), (4, .int x4), (5, .int x5), (6, .int x6), (7, .int x7), (8, .int x8)], [], mk X, σ)
        refine Ex.blk 5 rfl ?_
        rcases ite_sp h with ⟨c17, h⟩ | ⟨c17, h⟩
        · refine And.intro (fun _ => ?_) (fun hn => absurd c17 hn)
          show Ex mr_X1_spread sc (Cl MT pr sc (d + 1)) (rtE none (mk X2) σ2) (74, [(0, .ref 15), (1, .int x1), (2, .long x2), (4, .int x4), (5, .int x5), (6, .int x6), (7, .int x7), (8, .int x8)], [], mk X, σ)
          refine Ex.blk 5 rfl ?_
          show Ex mr_X1_spread sc (Cl MT pr sc (d + 1)) (rtE none (mk X2) σ2) (82, [(0, .ref 15), (1, .int x1), (2, .long x2), (4, .int x4), (5, .int x5), (6, .int x6), (7, .int x7), (8, .int x8)], [.int ((x8 + x7) - x4)], mk X, σ)
          show Ex mr_X1_spread sc (Cl MT pr sc (d + 1)) (rtE none (mk X2) σ2) (82, [(0, .ref 15), (1, .int x1), (2, .long x2), (4, .int x4), (5, .int x5), (6, .int x6), (7, .int x7), (8, .int x8)], [.int ((x8 + x7) - x4)], mk X, σ)
          exact lg_X1_spread_82 d _ _ hk11 ih _ _ _ _ _ _ _ _ _ _ h
        · refine And.intro (fun hp => absurd hp c17) (fun _ => ?_)
          show Ex mr_X1_spread sc (Cl MT pr sc (d + 1)) (rtE none (mk X2) σ2) (66, [(0, .ref 15), (1, .int x1), (2, .long x2), (4, .int x4), (5, .int x5), (6, .int x6), (7, .int x7), (8, .int x8)], [], mk X, σ)
          refine Ex.blk 4 rfl ?_
          show Ex mr_X1_spread sc (Cl MT pr sc (d + 1)) (rtE none (mk X2) σ2) (82, [(0, .ref 15), (1, .int x1), (2, .long x2), (4, .int x4), (5, .int x5), (6, .int x6), (7, .int x7), (8, .int x8)], [.int (x8 + x7)], mk X, σ)
          show Ex mr_X1_spread sc (Cl MT pr sc (d + 1)) (rtE none (mk X2) σ2) (82, [(0, .ref 15), (1, .int x1), (2, .long x2), (4, .int x4), (5, .int x5), (6, .int x6), (7, .int x7), (8, .int x8)], [.int (x8 + x7)], mk X, σ)
          exact lg_X1_spread_82 d _ _ hk11 ih _ _ _ _ _ _ _ _ _ _ h
theorem lg_X1_spread_41 {pr : Ct} {sc : Nat × (Nat → Int32)} (d : Nat)  {X2 : En} {σ2 : St} (k11 : Int32 → Int64 → Int32 → Int32 → En → St → Option (En × St)) (hk11 : ∀ (x1 : Int32) (x2 : Int64) (x4 : Int32) (x5 : Int32) (X : En) (σ : St), k11 x1 x2 x4 x5 X σ = some (X2, σ2) → Ex mr_X1_spread sc (Cl MT pr sc (d + 1)) (rtE none (mk X2) σ2) (11, [(0, .ref 15), (1, .int x1), (2, .long x2), (4, .int x4), (5, .int x5)], [], mk X, σ)) (x1 : Int32) (x2 : Int64) (x4 : Int32) (x5 : Int32) (x6 : Int32) (x7 : Int32) (X : En) (σ : St) (h : g_X1_spread_41 k11 x1 x2 x4 x5 x6 x7 X σ = some (X2, σ2)) : Ex mr_X1_spread sc (Cl MT pr sc (d + 1)) (rtE none (mk X2) σ2) (41, [(0, .ref 15), (1, .int x1), (2, .long x2), (4, .int x4), (5, .int x5), (6, .int x6), (7, .int x7)], [], mk X, σ) := by
  unfold g_X1_spread_41 at h
  refine Ex.blk 2 rfl ?_
  show Ex mr_X1_spread sc (Cl MT pr sc (d + 1)) (rtE none (mk X2) σ2) (44, [(8, .int 0), (0, .ref 15), (1, .int x1), (2, .long x2), (4, .int x4), (5, .int x5), (6, .int x6), (7, .int x7)], [], mk X, σ)
  show Ex mr_X1_spread sc (Cl MT pr sc (d + 1)) (rtE none (mk X2) σ2) (44, [(8, .int 0), (0, .ref 15), (1, .int x1), (2, .long x2), (4, .int x4), (5, .int x5), (6, .int x6), (7, .int x7)], [], mk X, σ)
  refine Ex.pick (lv' := _) [1, 2, 3, 4, 5, 6, 7, 0] rfl ?_
  exact lg_X1_spread_44 d _ hk11 FU _ _ _ _ _ _ _ _ _ h
theorem lg_X1_spread_29 {pr : Ct} {sc : Nat × (Nat → Int32)} (d : Nat)  {X2 : En} {σ2 : St} (k11 : Int32 → Int64 → Int32 → Int32 → En → St → Option (En × St)) (hk11 : ∀ (x1 : Int32) (x2 : Int64) (x4 : Int32) (x5 : Int32) (X : En) (σ : St), k11 x1 x2 x4 x5 X σ = some (X2, σ2) → Ex mr_X1_spread sc (Cl MT pr sc (d + 1)) (rtE none (mk X2) σ2) (11, [(0, .ref 15), (1, .int x1), (2, .long x2), (4, .int x4), (5, .int x5)], [], mk X, σ)) (x1 : Int32) (x2 : Int64) (x4 : Int32) (x5 : Int32) (x6 : Int32) (X : En) (σ : St) (h : g_X1_spread_29 k11 x1 x2 x4 x5 x6 X σ = some (X2, σ2)) : Ex mr_X1_spread sc (Cl MT pr sc (d + 1)) (rtE none (mk X2) σ2) (29, [(0, .ref 15), (1, .int x1), (2, .long x2), (4, .int x4), (5, .int x5), (6, .int x6)], [], mk X, σ) := by
  unfold g_X1_spread_29 at h
  refine Ex.blk 5 rfl ?_
  show Ex mr_X1_spread sc (Cl MT pr sc (d + 1)) (rtE none (mk X2) σ2) (36, [(0, .ref 15), (1, .int x1), (2, .long x2), (4, .int x4), (5, .int x5), (6, .int x6)], [.int x4, .long (x5.toInt64 * x2)], mk X, σ)
  refine Ex.blk 1 rfl ?_
  show Ex mr_X1_spread sc (Cl MT pr sc (d + 1)) (rtE none (mk X2) σ2) (37, [(0, .ref 15), (1, .int x1), (2, .long x2), (4, .int x4), (5, .int x5), (6, .int x6)], [.long x4.toInt64, .long (x5.toInt64 * x2)], mk X, σ)
  obtain ⟨g9, h⟩ := gd_some h
  refine Ex.blk 1 rfl ?_
  refine And.intro (nzJ_ok g9) ?_
  show Ex mr_X1_spread sc (Cl MT pr sc (d + 1)) (rtE none (mk X2) σ2) (38, [(0, .ref 15), (1, .int x1), (2, .long x2), (4, .int x4), (5, .int x5), (6, .int x6)], [.long (rmJ (x5.toInt64 * x2) x4.toInt64)], mk X, σ)
  refine Ex.blk 2 rfl ?_
  show Ex mr_X1_spread sc (Cl MT pr sc (d + 1)) (rtE none (mk X2) σ2) (41, [(7, .int ((rmJ (x5.toInt64 * x2) x4.toInt64).toInt32)), (0, .ref 15), (1, .int x1), (2, .long x2), (4, .int x4), (5, .int x5), (6, .int x6)], [], mk X, σ)
  show Ex mr_X1_spread sc (Cl MT pr sc (d + 1)) (rtE none (mk X2) σ2) (41, [(7, .int ((rmJ (x5.toInt64 * x2) x4.toInt64).toInt32)), (0, .ref 15), (1, .int x1), (2, .long x2), (4, .int x4), (5, .int x5), (6, .int x6)], [], mk X, σ)
  refine Ex.pick (lv' := _) [1, 2, 3, 4, 5, 6, 0] rfl ?_
  exact lg_X1_spread_41 d _ hk11 _ _ _ _ _ _ _ _ h
theorem lg_X1_spread_11 {pr : Ct} {sc : Nat × (Nat → Int32)} (d : Nat)  {X2 : En} {σ2 : St} : ∀ (n : Nat) (x1 : Int32) (x2 : Int64) (x4 : Int32) (x5 : Int32) (X : En) (σ : St), g_X1_spread_11 n x1 x2 x4 x5 X σ = some (X2, σ2) → Ex mr_X1_spread sc (Cl MT pr sc (d + 1)) (rtE none (mk X2) σ2) (11, [(0, .ref 15), (1, .int x1), (2, .long x2), (4, .int x4), (5, .int x5)], [], mk X, σ) := by
  intro n
  induction n with
  | zero =>
    intro x1 x2 x4 x5 X σ h
    cases h
  | succ n ih =>
    intro x1 x2 x4 x5 X σ h
    simp only [g_X1_spread_11] at h
    refine Ex.blk 3 rfl ?_
    rcases ite_sp h with ⟨c20, h⟩ | ⟨c20, h⟩
    · refine And.intro (fun _ => ?_) (fun hn => absurd c20 hn)
      show Ex mr_X1_spread sc (Cl MT pr sc (d + 1)) (rtE none (mk X2) σ2) (117, [(0, .ref 15), (1, .int x1), (2, .long x2), (4, .int x4), (5, .int x5)], [], mk X, σ)
      refine Ex.blk 1 rfl ?_
      show Ex mr_X1_spread sc (Cl MT pr sc (d + 1)) (rtE none (mk X2) σ2) (118, [(0, .ref 15), (1, .int x1), (2, .long x2), (4, .int x4), (5, .int x5)], [.ref 15], mk X, σ)
      obtain ⟨b4, hb5, h⟩ := bind_sp h
      refine ex_get rfl (by rfl) (congrArg orv hb5) ?_
      show Ex mr_X1_spread sc (Cl MT pr sc (d + 1)) (rtE none (mk X2) σ2) (121, [(0, .ref 15), (1, .int x1), (2, .long x2), (4, .int x4), (5, .int x5)], [.ref b4], mk X, σ)
      obtain ⟨hk_b4_X, h⟩ := gd_some h
      refine Ex.blk 3 rfl ?_
      show Ex mr_X1_spread sc (Cl MT pr sc (d + 1)) (rtE none (mk X2) σ2) (125, [(5, .ref b4), (0, .ref 15), (1, .int x1), (2, .long x2), (4, .int x4)], [.ref 15, .ref 15], mk X, σ)
      obtain ⟨b6, hb7, h⟩ := bind_sp h
      refine ex_get rfl (by rfl) (congrArg orv hb7) ?_
      show Ex mr_X1_spread sc (Cl MT pr sc (d + 1)) (rtE none (mk X2) σ2) (128, [(5, .ref b4), (0, .ref 15), (1, .int x1), (2, .long x2), (4, .int x4)], [.ref b6, .ref 15], mk X, σ)
      obtain ⟨hk_b6_X, h⟩ := gd_some h
      refine Ex.blk 5 rfl ?_
      cases h
      exact And.intro trivial ⟨rfl, rfl, rfl⟩
    · refine And.intro (fun hp => absurd hp c20) (fun _ => ?_)
      show Ex mr_X1_spread sc (Cl MT pr sc (d + 1)) (rtE none (mk X2) σ2) (18, [(0, .ref 15), (1, .int x1), (2, .long x2), (4, .int x4), (5, .int x5)], [], mk X, σ)
      refine Ex.blk 5 rfl ?_
      show Ex mr_X1_spread sc (Cl MT pr sc (d + 1)) (rtE none (mk X2) σ2) (26, [(0, .ref 15), (1, .int x1), (2, .long x2), (4, .int x4), (5, .int x5)], [.int (x1 + x5), .ref 16], mk X, σ)
      obtain ⟨g8, h⟩ := gd_some h
      refine Ex.blk 1 rfl ?_
      refine And.intro (inb_ok g8) ?_
      show Ex mr_X1_spread sc (Cl MT pr sc (d + 1)) (rtE none (mk X2) σ2) (27, [(0, .ref 15), (1, .int x1), (2, .long x2), (4, .int x4), (5, .int x5)], [.int (gI σ 16 (x1 + x5).toNatClampNeg)], mk X, σ)
      refine Ex.blk 1 rfl ?_
      show Ex mr_X1_spread sc (Cl MT pr sc (d + 1)) (rtE none (mk X2) σ2) (29, [(6, .int (gI σ 16 (x1 + x5).toNatClampNeg)), (0, .ref 15), (1, .int x1), (2, .long x2), (4, .int x4), (5, .int x5)], [], mk X, σ)
      show Ex mr_X1_spread sc (Cl MT pr sc (d + 1)) (rtE none (mk X2) σ2) (29, [(6, .int (gI σ 16 (x1 + x5).toNatClampNeg)), (0, .ref 15), (1, .int x1), (2, .long x2), (4, .int x4), (5, .int x5)], [], mk X, σ)
      refine Ex.pick (lv' := _) [1, 2, 3, 4, 5, 0] rfl ?_
      exact lg_X1_spread_29 d _ ih _ _ _ _ _ _ _ h
theorem cg_X1_spread {pr : Ct} {sc : Nat × (Nat → Int32)} (d : Nat)  {X2 : En} {σ2 : St} {x1 : Int32} {x2 : Int64} {x4 : Int32} {X : En} {σ : St} (h : g_X1_spread x1 x2 x4 X σ = some (X2, σ2)) : Cl MT pr sc (d + 1 + 1) 20 [.ref 15, .int x1, .long x2, .int x4] (mk X) σ none (mk X2) σ2 := by
  unfold g_X1_spread at h
  obtain ⟨p, hp, h⟩ := bind_sp h
  obtain ⟨hz, h⟩ := gd_some h
  cases h
  refine cl_of2 mr_X1_spread rfl rfl hz ?_
  have h := hp
  clear hp
  unfold g_X1_spread_b at h
  refine Ex.blk 1 rfl ?_
  show Ex mr_X1_spread sc (Cl MT pr sc (d + 1)) (rtE none (mk X2) σ2) (1, [(0, .ref 15), (1, .int x1), (2, .long x2), (4, .int x4)], [.ref 15], mk X, σ)
  obtain ⟨b1, hb2, h⟩ := bind_sp h
  refine ex_get rfl (by rfl) (congrArg orv hb2) ?_
  show Ex mr_X1_spread sc (Cl MT pr sc (d + 1)) (rtE none (mk X2) σ2) (4, [(0, .ref 15), (1, .int x1), (2, .long x2), (4, .int x4)], [.ref b1], mk X, σ)
  obtain ⟨hk_b1_X, h⟩ := gd_some h
  refine Ex.blk 1 rfl ?_
  show Ex mr_X1_spread sc (Cl MT pr sc (d + 1)) (rtE none (mk X2) σ2) (5, [(0, .ref 15), (1, .int x1), (2, .long x2), (4, .int x4)], [.long 0, .ref b1], mk X, σ)
  obtain ⟨p3, hp3, h⟩ := bind_sp h
  refine Ex.blk 1 rfl ?_
  refine Exists.intro none (Exists.intro (mk p3.1) (Exists.intro p3.2 (And.intro (cg_J7_fill_d0a16 (d + 0) hp3) ?_)))
  show Ex mr_X1_spread sc (Cl MT pr sc (d + 1)) (rtE none (mk X2) σ2) (8, [(0, .ref 15), (1, .int x1), (2, .long x2), (4, .int x4)], [], mk p3.1, p3.2)
  refine Ex.blk 2 rfl ?_
  show Ex mr_X1_spread sc (Cl MT pr sc (d + 1)) (rtE none (mk X2) σ2) (11, [(5, .int 0), (0, .ref 15), (1, .int x1), (2, .long x2), (4, .int x4)], [], mk p3.1, p3.2)
  show Ex mr_X1_spread sc (Cl MT pr sc (d + 1)) (rtE none (mk X2) σ2) (11, [(5, .int 0), (0, .ref 15), (1, .int x1), (2, .long x2), (4, .int x4)], [], mk p3.1, p3.2)
  refine Ex.pick (lv' := _) [1, 2, 3, 4, 0] rfl ?_
  exact lg_X1_spread_11 d FU _ _ _ _ _ _ h
theorem lg_X1_alike_92 {pr : Ct} {sc : Nat × (Nat → Int32)} (d : Nat) {r : Int64} {X2 : En} {σ2 : St} (k24 : Int32 → Int32 → Int32 → Int32 → En → St → Option (Int64 × En × St)) (hk24 : ∀ (x1 : Int32) (x2 : Int32) (x3 : Int32) (x4 : Int32) (X : En) (σ : St), k24 x1 x2 x3 x4 X σ = some (r, X2, σ2) → Ex mr_X1_alike sc (Cl MT pr sc (d + 2)) (rtE (some (.long r)) (mk X2) σ2) (24, [(0, .ref 15), (1, .int x1), (2, .int x2), (3, .int x3), (4, .int x4)], [], mk X, σ)) (x1 : Int32) (x2 : Int32) (x3 : Int32) (x4 : Int32) (X : En) (σ : St) (h : g_X1_alike_92 k24 x1 x2 x3 x4 X σ = some (r, X2, σ2)) : Ex mr_X1_alike sc (Cl MT pr sc (d + 2)) (rtE (some (.long r)) (mk X2) σ2) (92, [(0, .ref 15), (1, .int x1), (2, .int x2), (3, .int x3), (4, .int x4)], [], mk X, σ) := by
  unfold g_X1_alike_92 at h
  refine Ex.blk 2 rfl ?_
  show Ex mr_X1_alike sc (Cl MT pr sc (d + 2)) (rtE (some (.long r)) (mk X2) σ2) (24, [(4, .int (x4 + 1)), (0, .ref 15), (1, .int x1), (2, .int x2), (3, .int x3)], [], mk X, σ)
  show Ex mr_X1_alike sc (Cl MT pr sc (d + 2)) (rtE (some (.long r)) (mk X2) σ2) (24, [(4, .int (x4 + 1)), (0, .ref 15), (1, .int x1), (2, .int x2), (3, .int x3)], [], mk X, σ)
  refine Ex.pick (lv' := _) [1, 2, 3, 4, 0] rfl ?_
  exact hk24 _ _ _ _ _ _ h
theorem lg_X1_alike_86 {pr : Ct} {sc : Nat × (Nat → Int32)} (d : Nat) {r : Int64} {X2 : En} {σ2 : St} (k24 : Int32 → Int32 → Int32 → Int32 → En → St → Option (Int64 × En × St)) (k67 : Int32 → Int32 → Int32 → Int32 → Int32 → En → St → Option (Int64 × En × St)) (hk24 : ∀ (x1 : Int32) (x2 : Int32) (x3 : Int32) (x4 : Int32) (X : En) (σ : St), k24 x1 x2 x3 x4 X σ = some (r, X2, σ2) → Ex mr_X1_alike sc (Cl MT pr sc (d + 2)) (rtE (some (.long r)) (mk X2) σ2) (24, [(0, .ref 15), (1, .int x1), (2, .int x2), (3, .int x3), (4, .int x4)], [], mk X, σ)) (hk67 : ∀ (x1 : Int32) (x2 : Int32) (x3 : Int32) (x4 : Int32) (x5 : Int32) (X : En) (σ : St), k67 x1 x2 x3 x4 x5 X σ = some (r, X2, σ2) → Ex mr_X1_alike sc (Cl MT pr sc (d + 2)) (rtE (some (.long r)) (mk X2) σ2) (67, [(0, .ref 15), (1, .int x1), (2, .int x2), (3, .int x3), (4, .int x4), (5, .int x5)], [], mk X, σ)) (x1 : Int32) (x2 : Int32) (x3 : Int32) (x4 : Int32) (x5 : Int32) (X : En) (σ : St) (h : g_X1_alike_86 k24 k67 x1 x2 x3 x4 x5 X σ = some (r, X2, σ2)) : Ex mr_X1_alike sc (Cl MT pr sc (d + 2)) (rtE (some (.long r)) (mk X2) σ2) (86, [(0, .ref 15), (1, .int x1), (2, .int x2), (3, .int x3), (4, .int x4), (5, .int x5)], [], mk X, σ) := by
  unfold g_X1_alike_86 at h
  refine Ex.blk 2 rfl ?_
  show Ex mr_X1_alike sc (Cl MT pr sc (d + 2)) (rtE (some (.long r)) (mk X2) σ2) (67, [(5, .int (x5 + 1)), (0, .ref 15), (1, .int x1), (2, .int x2), (3, .int x3), (4, .int x4)], [], mk X, σ)
  show Ex mr_X1_alike sc (Cl MT pr sc (d + 2)) (rtE (some (.long r)) (mk X2) σ2) (67, [(5, .int (x5 + 1)), (0, .ref 15), (1, .int x1), (2, .int x2), (3, .int x3), (4, .int x4)], [], mk X, σ)
  refine Ex.pick (lv' := _) [1, 2, 3, 4, 5, 0] rfl ?_
  exact hk67 _ _ _ _ _ _ _ h
theorem lg_X1_alike_67 {pr : Ct} {sc : Nat × (Nat → Int32)} (d : Nat) {r : Int64} {X2 : En} {σ2 : St} (k24 : Int32 → Int32 → Int32 → Int32 → En → St → Option (Int64 × En × St)) (hk24 : ∀ (x1 : Int32) (x2 : Int32) (x3 : Int32) (x4 : Int32) (X : En) (σ : St), k24 x1 x2 x3 x4 X σ = some (r, X2, σ2) → Ex mr_X1_alike sc (Cl MT pr sc (d + 2)) (rtE (some (.long r)) (mk X2) σ2) (24, [(0, .ref 15), (1, .int x1), (2, .int x2), (3, .int x3), (4, .int x4)], [], mk X, σ)) : ∀ (n : Nat) (x1 : Int32) (x2 : Int32) (x3 : Int32) (x4 : Int32) (x5 : Int32) (X : En) (σ : St), g_X1_alike_67 k24 n x1 x2 x3 x4 x5 X σ = some (r, X2, σ2) → Ex mr_X1_alike sc (Cl MT pr sc (d + 2)) (rtE (some (.long r)) (mk X2) σ2) (67, [(0, .ref 15), (1, .int x1), (2, .int x2), (3, .int x3), (4, .int x4), (5, .int x5)], [], mk X, σ) := by
  intro n
  induction n with
  | zero =>
    intro x1 x2 x3 x4 x5 X σ h
    cases h
  | succ n ih =>
    intro x1 x2 x3 x4 x5 X σ h
    simp only [g_X1_alike_67] at h
    refine Ex.blk 3 rfl ?_
    rcases ite_sp h with ⟨c16, h⟩ | ⟨c16, h⟩
    · refine And.intro (fun _ => ?_) (fun hn => absurd c16 hn)
      show Ex mr_X1_alike sc (Cl MT pr sc (d + 2)) (rtE (some (.long r)) (mk X2) σ2) (92, [(0, .ref 15), (1, .int x1), (2, .int x2), (3, .int x3), (4, .int x4), (5, .int x5)], [], mk X, σ)
      show Ex mr_X1_alike sc (Cl MT pr sc (d + 2)) (rtE (some (.long r)) (mk X2) σ2) (92, [(0, .ref 15), (1, .int x1), (2, .int x2), (3, .int x3), (4, .int x4), (5, .int x5)], [], mk X, σ)
      refine Ex.pick (lv' := _) [0, 1, 2, 3, 4] rfl ?_
      exact lg_X1_alike_92 d _ hk24 _ _ _ _ _ _ h
    · refine And.intro (fun hp => absurd hp c16) (fun _ => ?_)
      show Ex mr_X1_alike sc (Cl MT pr sc (d + 2)) (rtE (some (.long r)) (mk X2) σ2) (73, [(0, .ref 15), (1, .int x1), (2, .int x2), (3, .int x3), (4, .int x4), (5, .int x5)], [], mk X, σ)
      refine Ex.blk 1 rfl ?_
      show Ex mr_X1_alike sc (Cl MT pr sc (d + 2)) (rtE (some (.long r)) (mk X2) σ2) (74, [(0, .ref 15), (1, .int x1), (2, .int x2), (3, .int x3), (4, .int x4), (5, .int x5)], [.ref 15], mk X, σ)
      obtain ⟨b12, hb13, h⟩ := bind_sp h
      refine ex_get rfl (by rfl) (congrArg orv hb13) ?_
      show Ex mr_X1_alike sc (Cl MT pr sc (d + 2)) (rtE (some (.long r)) (mk X2) σ2) (77, [(0, .ref 15), (1, .int x1), (2, .int x2), (3, .int x3), (4, .int x4), (5, .int x5)], [.ref b12], mk X, σ)
      obtain ⟨hk_b12_X, h⟩ := gd_some h
      refine Ex.blk 2 rfl ?_
      show Ex mr_X1_alike sc (Cl MT pr sc (d + 2)) (rtE (some (.long r)) (mk X2) σ2) (80, [(0, .ref 15), (1, .int x1), (2, .int x2), (3, .int x3), (4, .int x4), (5, .int x5)], [.int x5, .ref b12, .int x5, .ref b12], mk X, σ)
      obtain ⟨g14, h⟩ := gd_some h
      refine ex_lald rfl hk_b12_X g14 ?_
      show Ex mr_X1_alike sc (Cl MT pr sc (d + 2)) (rtE (some (.long r)) (mk X2) σ2) (81, [(0, .ref 15), (1, .int x1), (2, .int x2), (3, .int x3), (4, .int x4), (5, .int x5)], [.long (gJ σ b12 x5.toNatClampNeg), .int x5, .ref b12], mk X, σ)
      refine Ex.blk 2 rfl ?_
      show Ex mr_X1_alike sc (Cl MT pr sc (d + 2)) (rtE (some (.long r)) (mk X2) σ2) (85, [(0, .ref 15), (1, .int x1), (2, .int x2), (3, .int x3), (4, .int x4), (5, .int x5)], [.long ((gJ σ b12 x5.toNatClampNeg) * 100), .int x5, .ref b12], mk X, σ)
      obtain ⟨g15, h⟩ := gd_some h
      refine ex_last rfl hk_b12_X g15 ?_
      show Ex mr_X1_alike sc (Cl MT pr sc (d + 2)) (rtE (some (.long r)) (mk X2) σ2) (86, [(0, .ref 15), (1, .int x1), (2, .int x2), (3, .int x3), (4, .int x4), (5, .int x5)], [], mk X, (sJ σ b12 x5.toNatClampNeg ((gJ σ b12 x5.toNatClampNeg) * 100)))
      exact lg_X1_alike_86 d _ _ hk24 ih _ _ _ _ _ _ _ h
theorem lg_X1_alike_24 {pr : Ct} {sc : Nat × (Nat → Int32)} (d : Nat) {r : Int64} {X2 : En} {σ2 : St} : ∀ (n : Nat) (x1 : Int32) (x2 : Int32) (x3 : Int32) (x4 : Int32) (X : En) (σ : St), g_X1_alike_24 n x1 x2 x3 x4 X σ = some (r, X2, σ2) → Ex mr_X1_alike sc (Cl MT pr sc (d + 2)) (rtE (some (.long r)) (mk X2) σ2) (24, [(0, .ref 15), (1, .int x1), (2, .int x2), (3, .int x3), (4, .int x4)], [], mk X, σ) := by
  intro n
  induction n with
  | zero =>
    intro x1 x2 x3 x4 X σ h
    cases h
  | succ n ih =>
    intro x1 x2 x3 x4 X σ h
    simp only [g_X1_alike_24] at h
    refine Ex.blk 3 rfl ?_
    rcases ite_sp h with ⟨c22, h⟩ | ⟨c22, h⟩
    · refine And.intro (fun _ => ?_) (fun hn => absurd c22 hn)
      show Ex mr_X1_alike sc (Cl MT pr sc (d + 2)) (rtE (some (.long r)) (mk X2) σ2) (98, [(0, .ref 15), (1, .int x1), (2, .int x2), (3, .int x3), (4, .int x4)], [], mk X, σ)
      refine Ex.blk 1 rfl ?_
      show Ex mr_X1_alike sc (Cl MT pr sc (d + 2)) (rtE (some (.long r)) (mk X2) σ2) (99, [(0, .ref 15), (1, .int x1), (2, .int x2), (3, .int x3), (4, .int x4)], [.ref 15], mk X, σ)
      obtain ⟨b8, hb9, h⟩ := bind_sp h
      refine ex_get rfl (by rfl) (congrArg orv hb9) ?_
      show Ex mr_X1_alike sc (Cl MT pr sc (d + 2)) (rtE (some (.long r)) (mk X2) σ2) (102, [(0, .ref 15), (1, .int x1), (2, .int x2), (3, .int x3), (4, .int x4)], [.ref b8], mk X, σ)
      obtain ⟨hk_b8_X, h⟩ := gd_some h
      refine Ex.blk 2 rfl ?_
      show Ex mr_X1_alike sc (Cl MT pr sc (d + 2)) (rtE (some (.long r)) (mk X2) σ2) (104, [(0, .ref 15), (1, .int x1), (2, .int x2), (3, .int x3), (4, .int x4)], [.int x2, .int x1, .ref b8], mk X, σ)
      obtain ⟨g10, h⟩ := gd_some h
      refine Ex.blk 1 rfl ?_
      refine And.intro (nzI_ok g10) ?_
      show Ex mr_X1_alike sc (Cl MT pr sc (d + 2)) (rtE (some (.long r)) (mk X2) σ2) (105, [(0, .ref 15), (1, .int x1), (2, .int x2), (3, .int x3), (4, .int x4)], [.int (rmI x1 x2), .ref b8], mk X, σ)
      obtain ⟨g11, h⟩ := gd_some h
      refine ex_lald rfl hk_b8_X g11 ?_
      show Ex mr_X1_alike sc (Cl MT pr sc (d + 2)) (rtE (some (.long r)) (mk X2) σ2) (106, [(0, .ref 15), (1, .int x1), (2, .int x2), (3, .int x3), (4, .int x4)], [.long (gJ σ b8 (rmI x1 x2).toNatClampNeg)], mk X, σ)
      refine Ex.blk 1 rfl ?_
      cases h
      exact And.intro trivial ⟨rfl, rfl, rfl⟩
    · refine And.intro (fun hp => absurd hp c22) (fun _ => ?_)
      show Ex mr_X1_alike sc (Cl MT pr sc (d + 2)) (rtE (some (.long r)) (mk X2) σ2) (31, [(0, .ref 15), (1, .int x1), (2, .int x2), (3, .int x3), (4, .int x4)], [], mk X, σ)
      refine Ex.blk 3 rfl ?_
      rcases ite_sp h with ⟨c21, h⟩ | ⟨c21, h⟩
      · refine And.intro (fun _ => ?_) (fun hn => absurd c21 hn)
        show Ex mr_X1_alike sc (Cl MT pr sc (d + 2)) (rtE (some (.long r)) (mk X2) σ2) (64, [(0, .ref 15), (1, .int x1), (2, .int x2), (3, .int x3), (4, .int x4)], [], mk X, σ)
        refine Ex.blk 2 rfl ?_
        show Ex mr_X1_alike sc (Cl MT pr sc (d + 2)) (rtE (some (.long r)) (mk X2) σ2) (67, [(5, .int 0), (0, .ref 15), (1, .int x1), (2, .int x2), (3, .int x3), (4, .int x4)], [], mk X, σ)
        show Ex mr_X1_alike sc (Cl MT pr sc (d + 2)) (rtE (some (.long r)) (mk X2) σ2) (67, [(5, .int 0), (0, .ref 15), (1, .int x1), (2, .int x2), (3, .int x3), (4, .int x4)], [], mk X, σ)
        refine Ex.pick (lv' := _) [1, 2, 3, 4, 5, 0] rfl ?_
        exact lg_X1_alike_67 d _ ih FU _ _ _ _ _ _ _ h
      · refine And.intro (fun hp => absurd hp c21) (fun _ => ?_)
        show Ex mr_X1_alike sc (Cl MT pr sc (d + 2)) (rtE (some (.long r)) (mk X2) σ2) (37, [(0, .ref 15), (1, .int x1), (2, .int x2), (3, .int x3), (4, .int x4)], [], mk X, σ)
        refine Ex.blk 5 rfl ?_
        show Ex mr_X1_alike sc (Cl MT pr sc (d + 2)) (rtE (some (.long r)) (mk X2) σ2) (44, [(0, .ref 15), (1, .int x1), (2, .int x2), (3, .int x3), (4, .int x4)], [.int x4, .long x1.toInt64, .int 10, .ref 15], mk X, σ)
        obtain ⟨p17, hp17, h⟩ := bind_sp h
        refine Ex.blk 1 rfl ?_
        refine Exists.intro (some (.int p17.1)) (Exists.intro (mk X) (Exists.intro p17.2 (And.intro (cl_X9_digitOf (d + 1) hp17) ?_)))
        show Ex mr_X1_alike sc (Cl MT pr sc (d + 2)) (rtE (some (.long r)) (mk X2) σ2) (47, [(0, .ref 15), (1, .int x1), (2, .int x2), (3, .int x3), (4, .int x4)], [.int p17.1, .int 10, .ref 15], mk X, p17.2)
        refine Ex.blk 3 rfl ?_
        show Ex mr_X1_alike sc (Cl MT pr sc (d + 2)) (rtE (some (.long r)) (mk X2) σ2) (53, [(0, .ref 15), (1, .int x1), (2, .int x2), (3, .int x3), (4, .int x4)], [.int x4, .ref TN, .int (10 * p17.1), .ref 15], mk X, p17.2)
        obtain ⟨g18, h⟩ := gd_some h
        refine Ex.blk 1 rfl ?_
        refine And.intro (inb_ok g18) ?_
        show Ex mr_X1_alike sc (Cl MT pr sc (d + 2)) (rtE (some (.long r)) (mk X2) σ2) (54, [(0, .ref 15), (1, .int x1), (2, .int x2), (3, .int x3), (4, .int x4)], [.long (tens x4.toNatClampNeg), .int (10 * p17.1), .ref 15], mk X, p17.2)
        refine Ex.blk 2 rfl ?_
        show Ex mr_X1_alike sc (Cl MT pr sc (d + 2)) (rtE (some (.long r)) (mk X2) σ2) (56, [(0, .ref 15), (1, .int x1), (2, .int x2), (3, .int x3), (4, .int x4)], [.long x2.toInt64, .long (tens x4.toNatClampNeg), .int (10 * p17.1), .ref 15], mk X, p17.2)
        obtain ⟨g19, h⟩ := gd_some h
        refine Ex.blk 1 rfl ?_
        refine And.intro (nzJ_ok g19) ?_
        show Ex mr_X1_alike sc (Cl MT pr sc (d + 2)) (rtE (some (.long r)) (mk X2) σ2) (57, [(0, .ref 15), (1, .int x1), (2, .int x2), (3, .int x3), (4, .int x4)], [.long (rmJ (tens x4.toNatClampNeg) x2.toInt64), .int (10 * p17.1), .ref 15], mk X, p17.2)
        refine Ex.blk 1 rfl ?_
        show Ex mr_X1_alike sc (Cl MT pr sc (d + 2)) (rtE (some (.long r)) (mk X2) σ2) (58, [(0, .ref 15), (1, .int x1), (2, .int x2), (3, .int x3), (4, .int x4)], [.int x2, .long (rmJ (tens x4.toNatClampNeg) x2.toInt64), .int (10 * p17.1), .ref 15], mk X, p17.2)
        obtain ⟨p20, hp20, h⟩ := bind_sp h
        refine Ex.blk 1 rfl ?_
        refine Exists.intro none (Exists.intro (mk p20.1) (Exists.intro p20.2 (And.intro (cg_X1_spread (d + 0) hp20) ?_)))
        show Ex mr_X1_alike sc (Cl MT pr sc (d + 2)) (rtE (some (.long r)) (mk X2) σ2) (61, [(0, .ref 15), (1, .int x1), (2, .int x2), (3, .int x3), (4, .int x4)], [], mk p20.1, p20.2)
        refine Ex.blk 1 rfl ?_
        show Ex mr_X1_alike sc (Cl MT pr sc (d + 2)) (rtE (some (.long r)) (mk X2) σ2) (92, [(0, .ref 15), (1, .int x1), (2, .int x2), (3, .int x3), (4, .int x4)], [], mk p20.1, p20.2)
        show Ex mr_X1_alike sc (Cl MT pr sc (d + 2)) (rtE (some (.long r)) (mk X2) σ2) (92, [(0, .ref 15), (1, .int x1), (2, .int x2), (3, .int x3), (4, .int x4)], [], mk p20.1, p20.2)
        exact lg_X1_alike_92 d _ ih _ _ _ _ _ _ h
theorem cg_X1_alike {pr : Ct} {sc : Nat × (Nat → Int32)} (d : Nat) {r : Int64} {X2 : En} {σ2 : St} {x1 : Int32} {x2 : Int32} {X : En} {σ : St} (h : g_X1_alike x1 x2 X σ = some (r, X2, σ2)) : Cl MT pr sc (d + 2 + 1) 21 [.ref 15, .int x1, .int x2] (mk X) σ (some (.long r)) (mk X2) σ2 := by
  unfold g_X1_alike at h
  obtain ⟨p, hp, h⟩ := bind_sp h
  obtain ⟨hz, h⟩ := gd_some h
  cases h
  refine cl_of2 mr_X1_alike rfl rfl hz ?_
  have h := hp
  clear hp
  unfold g_X1_alike_b at h
  refine Ex.blk 1 rfl ?_
  show Ex mr_X1_alike sc (Cl MT pr sc (d + 2)) (rtE (some (.long r)) (mk X2) σ2) (1, [(0, .ref 15), (1, .int x1), (2, .int x2)], [.ref 15], mk X, σ)
  obtain ⟨b1, hb2, h⟩ := bind_sp h
  refine ex_get rfl (by rfl) (congrArg orv hb2) ?_
  show Ex mr_X1_alike sc (Cl MT pr sc (d + 2)) (rtE (some (.long r)) (mk X2) σ2) (4, [(0, .ref 15), (1, .int x1), (2, .int x2)], [.ref b1], mk X, σ)
  obtain ⟨hk_b1_X, h⟩ := gd_some h
  refine Ex.blk 1 rfl ?_
  show Ex mr_X1_alike sc (Cl MT pr sc (d + 2)) (rtE (some (.long r)) (mk X2) σ2) (5, [(0, .ref 15), (1, .int x1), (2, .int x2)], [.long 0, .ref b1], mk X, σ)
  obtain ⟨p3, hp3, h⟩ := bind_sp h
  refine Ex.blk 1 rfl ?_
  refine Exists.intro none (Exists.intro (mk p3.1) (Exists.intro p3.2 (And.intro (cg_J7_fill_d0a16 (d + 1) hp3) ?_)))
  show Ex mr_X1_alike sc (Cl MT pr sc (d + 2)) (rtE (some (.long r)) (mk X2) σ2) (8, [(0, .ref 15), (1, .int x1), (2, .int x2)], [], mk p3.1, p3.2)
  refine Ex.blk 1 rfl ?_
  show Ex mr_X1_alike sc (Cl MT pr sc (d + 2)) (rtE (some (.long r)) (mk X2) σ2) (9, [(0, .ref 15), (1, .int x1), (2, .int x2)], [.ref 15], mk p3.1, p3.2)
  obtain ⟨b4, hb5, h⟩ := bind_sp h
  refine ex_get rfl (by rfl) (congrArg orv hb5) ?_
  show Ex mr_X1_alike sc (Cl MT pr sc (d + 2)) (rtE (some (.long r)) (mk X2) σ2) (12, [(0, .ref 15), (1, .int x1), (2, .int x2)], [.ref b4], mk p3.1, p3.2)
  obtain ⟨hk_b4_p3_1, h⟩ := gd_some h
  refine Ex.blk 2 rfl ?_
  show Ex mr_X1_alike sc (Cl MT pr sc (d + 2)) (rtE (some (.long r)) (mk X2) σ2) (14, [(0, .ref 15), (1, .int x1), (2, .int x2)], [.long 1, .int 0, .ref b4], mk p3.1, p3.2)
  obtain ⟨g6, h⟩ := gd_some h
  refine ex_last rfl hk_b4_p3_1 g6 ?_
  show Ex mr_X1_alike sc (Cl MT pr sc (d + 2)) (rtE (some (.long r)) (mk X2) σ2) (15, [(0, .ref 15), (1, .int x1), (2, .int x2)], [], mk p3.1, (sJ p3.2 b4 (0 : Int32).toNatClampNeg 1))
  refine Ex.blk 2 rfl ?_
  show Ex mr_X1_alike sc (Cl MT pr sc (d + 2)) (rtE (some (.long r)) (mk X2) σ2) (17, [(0, .ref 15), (1, .int x1), (2, .int x2)], [.long x1.toInt64], mk p3.1, (sJ p3.2 b4 (0 : Int32).toNatClampNeg 1))
  obtain ⟨p7, hp7, h⟩ := bind_sp h
  refine Ex.blk 1 rfl ?_
  refine Exists.intro (some (.int p7.1)) (Exists.intro (mk p3.1) (Exists.intro p7.2 (And.intro (cl_X9_topPlace (d + 1) hp7) ?_)))
  show Ex mr_X1_alike sc (Cl MT pr sc (d + 2)) (rtE (some (.long r)) (mk X2) σ2) (20, [(0, .ref 15), (1, .int x1), (2, .int x2)], [.int p7.1], mk p3.1, p7.2)
  refine Ex.blk 3 rfl ?_
  show Ex mr_X1_alike sc (Cl MT pr sc (d + 2)) (rtE (some (.long r)) (mk X2) σ2) (24, [(4, .int 0), (3, .int p7.1), (0, .ref 15), (1, .int x1), (2, .int x2)], [], mk p3.1, p7.2)
  show Ex mr_X1_alike sc (Cl MT pr sc (d + 2)) (rtE (some (.long r)) (mk X2) σ2) (24, [(4, .int 0), (3, .int p7.1), (0, .ref 15), (1, .int x1), (2, .int x2)], [], mk p3.1, p7.2)
  refine Ex.pick (lv' := _) [2, 3, 4, 1, 0] rfl ?_
  exact lg_X1_alike_24 d FU _ _ _ _ _ _ h
theorem cg_X1_missed {pr : Ct} {sc : Nat × (Nat → Int32)} (d : Nat) {r : Int32} {X2 : En} {σ2 : St} {x1 : Int32} {x2 : Int32} {X : En} {σ : St} (h : g_X1_missed x1 x2 X σ = some (r, X2, σ2)) : Cl MT pr sc (d + 3 + 1) 22 [.ref 15, .int x1, .int x2] (mk X) σ (some (.int r)) (mk X2) σ2 := by
  unfold g_X1_missed at h
  obtain ⟨p, hp, h⟩ := bind_sp h
  obtain ⟨hz, h⟩ := gd_some h
  cases h
  refine cl_of2 mr_X1_missed rfl rfl hz ?_
  have h := hp
  clear hp
  unfold g_X1_missed_b at h
  refine Ex.blk 3 rfl ?_
  show Ex mr_X1_missed sc (Cl MT pr sc (d + 3)) (rtE (some (.int r)) (mk X2) σ2) (3, [(0, .ref 15), (1, .int x1), (2, .int x2)], [.int x2, .int x1, .ref 15], mk X, σ)
  obtain ⟨p1, hp1, h⟩ := bind_sp h
  refine Ex.blk 1 rfl ?_
  refine Exists.intro (some (.long p1.1)) (Exists.intro (mk p1.2.1) (Exists.intro p1.2.2 (And.intro (cg_X1_alike (d + 0) hp1) ?_)))
  show Ex mr_X1_missed sc (Cl MT pr sc (d + 3)) (rtE (some (.int r)) (mk X2) σ2) (6, [(0, .ref 15), (1, .int x1), (2, .int x2)], [.long p1.1], mk p1.2.1, p1.2.2)
  refine Ex.blk 4 rfl ?_
  show Ex mr_X1_missed sc (Cl MT pr sc (d + 3)) (rtE (some (.int r)) (mk X2) σ2) (10, [(0, .ref 15), (1, .int x1), (2, .int x2)], [.long x1.toInt64, .int x1, .ref 15, .long p1.1], mk p1.2.1, p1.2.2)
  obtain ⟨p2, hp2, h⟩ := bind_sp h
  refine Ex.blk 1 rfl ?_
  refine Exists.intro (some (.long p2.1)) (Exists.intro (mk p1.2.1) (Exists.intro p2.2 (And.intro (cl_X1_likely (d + 1) hp2) ?_)))
  show Ex mr_X1_missed sc (Cl MT pr sc (d + 3)) (rtE (some (.int r)) (mk X2) σ2) (13, [(0, .ref 15), (1, .int x1), (2, .int x2)], [.long p2.1, .long p1.1], mk p1.2.1, p2.2)
  refine Ex.blk 2 rfl ?_
  show Ex mr_X1_missed sc (Cl MT pr sc (d + 3)) (rtE (some (.int r)) (mk X2) σ2) (17, [(0, .ref 15), (1, .int x1), (2, .int x2)], [.long 1000000000000, .long (p1.1 - p2.1)], mk p1.2.1, p2.2)
  obtain ⟨g3, h⟩ := gd_some h
  refine Ex.blk 1 rfl ?_
  refine And.intro (nzJ_ok g3) ?_
  show Ex mr_X1_missed sc (Cl MT pr sc (d + 3)) (rtE (some (.int r)) (mk X2) σ2) (18, [(0, .ref 15), (1, .int x1), (2, .int x2)], [.long ((p1.1 - p2.1) / 1000000000000)], mk p1.2.1, p2.2)
  refine Ex.blk 2 rfl ?_
  cases h
  exact And.intro trivial ⟨rfl, rfl, rfl⟩
theorem lg_X9_miss_19 {pr : Ct} {sc : Nat × (Nat → Int32)} (d : Nat) {r : Int32} {X2 : En} {σ2 : St} (X : En) (σ : St) (h : g_X9_miss_19 X σ = some (r, X2, σ2)) : Ex mr_X9_miss sc (Cl MT pr sc (d + 4)) (rtE (some (.int r)) (mk X2) σ2) (19, [], [], mk X, σ) := by
  unfold g_X9_miss_19 at h
  refine Ex.blk 2 rfl ?_
  cases h
  exact And.intro trivial ⟨rfl, rfl, rfl⟩
theorem lg_X9_miss_46 {pr : Ct} {sc : Nat × (Nat → Int32)} (d : Nat) {r : Int32} {X2 : En} {σ2 : St} (y0 : Int32) (X : En) (σ : St) (h : g_X9_miss_46 y0 X σ = some (r, X2, σ2)) : Ex mr_X9_miss sc (Cl MT pr sc (d + 4)) (rtE (some (.int r)) (mk X2) σ2) (46, [], [.int y0], mk X, σ) := by
  unfold g_X9_miss_46 at h
  refine Ex.blk 1 rfl ?_
  cases h
  exact And.intro trivial ⟨rfl, rfl, rfl⟩
theorem lg_X9_miss_21 {pr : Ct} {sc : Nat × (Nat → Int32)} (d : Nat) {r : Int32} {X2 : En} {σ2 : St} (x1 : Int32) (x2 : Int32) (X : En) (σ : St) (h : g_X9_miss_21 x1 x2 X σ = some (r, X2, σ2)) : Ex mr_X9_miss sc (Cl MT pr sc (d + 4)) (rtE (some (.int r)) (mk X2) σ2) (21, [(0, .ref 0), (1, .int x1), (2, .int x2)], [], mk X, σ) := by
  unfold g_X9_miss_21 at h
  refine Ex.blk 3 rfl ?_
  rcases ite_sp h with ⟨c4, h⟩ | ⟨c4, h⟩
  · refine And.intro (fun hp => absurd c4 hp) (fun _ => ?_)
    show Ex mr_X9_miss sc (Cl MT pr sc (d + 4)) (rtE (some (.int r)) (mk X2) σ2) (26, [(0, .ref 0), (1, .int x1), (2, .int x2)], [], mk X, σ)
    refine Ex.blk 3 rfl ?_
    show Ex mr_X9_miss sc (Cl MT pr sc (d + 4)) (rtE (some (.int r)) (mk X2) σ2) (31, [(0, .ref 0), (1, .int x1), (2, .int x2)], [.int x1, .ref 15], mk X, σ)
    obtain ⟨p3, hp3, h⟩ := bind_sp h
    refine Ex.blk 1 rfl ?_
    refine Exists.intro (some (.int p3.1)) (Exists.intro (mk X) (Exists.intro p3.2 (And.intro (cl_X1_wrong (d + 1) hp3) ?_)))
    show Ex mr_X9_miss sc (Cl MT pr sc (d + 4)) (rtE (some (.int r)) (mk X2) σ2) (34, [(0, .ref 0), (1, .int x1), (2, .int x2)], [.int p3.1], mk X, p3.2)
    refine Ex.blk 1 rfl ?_
    show Ex mr_X9_miss sc (Cl MT pr sc (d + 4)) (rtE (some (.int r)) (mk X2) σ2) (46, [(0, .ref 0), (1, .int x1), (2, .int x2)], [.int p3.1], mk X, p3.2)
    show Ex mr_X9_miss sc (Cl MT pr sc (d + 4)) (rtE (some (.int r)) (mk X2) σ2) (46, [(0, .ref 0), (1, .int x1), (2, .int x2)], [.int p3.1], mk X, p3.2)
    refine Ex.pick (lv' := _) [] rfl ?_
    exact lg_X9_miss_46 d _ _ _ h
  · refine And.intro (fun _ => ?_) (fun hn => absurd c4 hn)
    show Ex mr_X9_miss sc (Cl MT pr sc (d + 4)) (rtE (some (.int r)) (mk X2) σ2) (37, [(0, .ref 0), (1, .int x1), (2, .int x2)], [], mk X, σ)
    refine Ex.blk 4 rfl ?_
    show Ex mr_X9_miss sc (Cl MT pr sc (d + 4)) (rtE (some (.int r)) (mk X2) σ2) (43, [(0, .ref 0), (1, .int x1), (2, .int x2)], [.int x2, .int x1, .ref 15], mk X, σ)
    obtain ⟨p2, hp2, h⟩ := bind_sp h
    refine Ex.blk 1 rfl ?_
    refine Exists.intro (some (.int p2.1)) (Exists.intro (mk p2.2.1) (Exists.intro p2.2.2 (And.intro (cg_X1_missed (d + 0) hp2) ?_)))
    show Ex mr_X9_miss sc (Cl MT pr sc (d + 4)) (rtE (some (.int r)) (mk X2) σ2) (46, [(0, .ref 0), (1, .int x1), (2, .int x2)], [.int p2.1], mk p2.2.1, p2.2.2)
    show Ex mr_X9_miss sc (Cl MT pr sc (d + 4)) (rtE (some (.int r)) (mk X2) σ2) (46, [(0, .ref 0), (1, .int x1), (2, .int x2)], [.int p2.1], mk p2.2.1, p2.2.2)
    refine Ex.pick (lv' := _) [] rfl ?_
    exact lg_X9_miss_46 d _ _ _ h
theorem cg_X9_miss {pr : Ct} {sc : Nat × (Nat → Int32)} (d : Nat) {r : Int32} {X2 : En} {σ2 : St} {x1 : Int32} {x2 : Int32} {X : En} {σ : St} (h : g_X9_miss x1 x2 X σ = some (r, X2, σ2)) : Cl MT pr sc (d + 4 + 1) 111 [.ref 0, .int x1, .int x2] (mk X) σ (some (.int r)) (mk X2) σ2 := by
  unfold g_X9_miss at h
  obtain ⟨p, hp, h⟩ := bind_sp h
  obtain ⟨hz, h⟩ := gd_some h
  cases h
  refine cl_of2 mr_X9_miss rfl rfl hz ?_
  have h := hp
  clear hp
  unfold g_X9_miss_b at h
  refine Ex.blk 1 rfl ?_
  show Ex mr_X9_miss sc (Cl MT pr sc (d + 4)) (rtE (some (.int r)) (mk X2) σ2) (1, [(0, .ref 0), (1, .int x1), (2, .int x2)], [.int x1], mk X, σ)
  obtain ⟨p1, hp1, h⟩ := bind_sp h
  refine Ex.blk 1 rfl ?_
  refine Exists.intro (some (.int p1.1)) (Exists.intro (mk X) (Exists.intro p1.2 (And.intro (cl_X9_isNumber (d + 3) hp1) ?_)))
  show Ex mr_X9_miss sc (Cl MT pr sc (d + 4)) (rtE (some (.int r)) (mk X2) σ2) (4, [(0, .ref 0), (1, .int x1), (2, .int x2)], [.int p1.1], mk X, p1.2)
  refine Ex.blk 1 rfl ?_
  rcases ite_sp h with ⟨c8, h⟩ | ⟨c8, h⟩
  · refine And.intro (fun _ => ?_) (fun hn => absurd c8 hn)
    show Ex mr_X9_miss sc (Cl MT pr sc (d + 4)) (rtE (some (.int r)) (mk X2) σ2) (19, [(0, .ref 0), (1, .int x1), (2, .int x2)], [], mk X, p1.2)
    show Ex mr_X9_miss sc (Cl MT pr sc (d + 4)) (rtE (some (.int r)) (mk X2) σ2) (19, [(0, .ref 0), (1, .int x1), (2, .int x2)], [], mk X, p1.2)
    refine Ex.pick (lv' := _) [] rfl ?_
    exact lg_X9_miss_19 d _ _ h
  · refine And.intro (fun hp => absurd hp c8) (fun _ => ?_)
    show Ex mr_X9_miss sc (Cl MT pr sc (d + 4)) (rtE (some (.int r)) (mk X2) σ2) (7, [(0, .ref 0), (1, .int x1), (2, .int x2)], [], mk X, p1.2)
    refine Ex.blk 3 rfl ?_
    rcases ite_sp h with ⟨c7, h⟩ | ⟨c7, h⟩
    · refine And.intro (fun _ => ?_) (fun hn => absurd c7 hn)
      show Ex mr_X9_miss sc (Cl MT pr sc (d + 4)) (rtE (some (.int r)) (mk X2) σ2) (21, [(0, .ref 0), (1, .int x1), (2, .int x2)], [], mk X, p1.2)
      show Ex mr_X9_miss sc (Cl MT pr sc (d + 4)) (rtE (some (.int r)) (mk X2) σ2) (21, [(0, .ref 0), (1, .int x1), (2, .int x2)], [], mk X, p1.2)
      exact lg_X9_miss_21 d _ _ _ _ h
    · refine And.intro (fun hp => absurd hp c7) (fun _ => ?_)
      show Ex mr_X9_miss sc (Cl MT pr sc (d + 4)) (rtE (some (.int r)) (mk X2) σ2) (12, [(0, .ref 0), (1, .int x1), (2, .int x2)], [], mk X, p1.2)
      refine Ex.blk 1 rfl ?_
      show Ex mr_X9_miss sc (Cl MT pr sc (d + 4)) (rtE (some (.int r)) (mk X2) σ2) (13, [(0, .ref 0), (1, .int x1), (2, .int x2)], [.int x2], mk X, p1.2)
      obtain ⟨p5, hp5, h⟩ := bind_sp h
      refine Ex.blk 1 rfl ?_
      refine Exists.intro (some (.int p5.1)) (Exists.intro (mk X) (Exists.intro p5.2 (And.intro (cl_X9_isBell (d + 3) hp5) ?_)))
      show Ex mr_X9_miss sc (Cl MT pr sc (d + 4)) (rtE (some (.int r)) (mk X2) σ2) (16, [(0, .ref 0), (1, .int x1), (2, .int x2)], [.int p5.1], mk X, p5.2)
      refine Ex.blk 1 rfl ?_
      rcases ite_sp h with ⟨c6, h⟩ | ⟨c6, h⟩
      · refine And.intro (fun hp => absurd c6 hp) (fun _ => ?_)
        show Ex mr_X9_miss sc (Cl MT pr sc (d + 4)) (rtE (some (.int r)) (mk X2) σ2) (19, [(0, .ref 0), (1, .int x1), (2, .int x2)], [], mk X, p5.2)
        show Ex mr_X9_miss sc (Cl MT pr sc (d + 4)) (rtE (some (.int r)) (mk X2) σ2) (19, [(0, .ref 0), (1, .int x1), (2, .int x2)], [], mk X, p5.2)
        refine Ex.pick (lv' := _) [] rfl ?_
        exact lg_X9_miss_19 d _ _ h
      · refine And.intro (fun _ => ?_) (fun hn => absurd c6 hn)
        show Ex mr_X9_miss sc (Cl MT pr sc (d + 4)) (rtE (some (.int r)) (mk X2) σ2) (21, [(0, .ref 0), (1, .int x1), (2, .int x2)], [], mk X, p5.2)
        show Ex mr_X9_miss sc (Cl MT pr sc (d + 4)) (rtE (some (.int r)) (mk X2) σ2) (21, [(0, .ref 0), (1, .int x1), (2, .int x2)], [], mk X, p5.2)
        exact lg_X9_miss_21 d _ _ _ _ h
theorem lg_X9_safest_14 {pr : Ct} {sc : Nat × (Nat → Int32)} (d : Nat) {r : Int32} {X2 : En} {σ2 : St} (X : En) (σ : St) (h : g_X9_safest_14 X σ = some (r, X2, σ2)) : Ex mr_X9_safest sc (Cl MT pr sc (d + 4)) (rtE (some (.int r)) (mk X2) σ2) (14, [], [], mk X, σ) := by
  unfold g_X9_safest_14 at h
  refine Ex.blk 2 rfl ?_
  cases h
  exact And.intro trivial ⟨rfl, rfl, rfl⟩
theorem lg_X9_safest_75 {pr : Ct} {sc : Nat × (Nat → Int32)} (d : Nat) {r : Int32} {X2 : En} {σ2 : St} (x3 : Int32) (X : En) (σ : St) (h : g_X9_safest_75 x3 X σ = some (r, X2, σ2)) : Ex mr_X9_safest sc (Cl MT pr sc (d + 4)) (rtE (some (.int r)) (mk X2) σ2) (75, [(3, .int x3)], [], mk X, σ) := by
  unfold g_X9_safest_75 at h
  refine Ex.blk 2 rfl ?_
  cases h
  exact And.intro trivial ⟨rfl, rfl, rfl⟩
theorem lg_X9_safest_69 {pr : Ct} {sc : Nat × (Nat → Int32)} (d : Nat) {r : Int32} {X2 : En} {σ2 : St} (k32 : Int32 → Int32 → Int32 → Int32 → Int32 → En → St → Option (Int32 × En × St)) (hk32 : ∀ (x1 : Int32) (x2 : Int32) (x3 : Int32) (x4 : Int32) (x5 : Int32) (X : En) (σ : St), k32 x1 x2 x3 x4 x5 X σ = some (r, X2, σ2) → Ex mr_X9_safest sc (Cl MT pr sc (d + 4)) (rtE (some (.int r)) (mk X2) σ2) (32, [(0, .ref 0), (1, .int x1), (2, .int x2), (3, .int x3), (4, .int x4), (5, .int x5)], [], mk X, σ)) (x1 : Int32) (x2 : Int32) (x3 : Int32) (x4 : Int32) (x5 : Int32) (X : En) (σ : St) (h : g_X9_safest_69 k32 x1 x2 x3 x4 x5 X σ = some (r, X2, σ2)) : Ex mr_X9_safest sc (Cl MT pr sc (d + 4)) (rtE (some (.int r)) (mk X2) σ2) (69, [(0, .ref 0), (1, .int x1), (2, .int x2), (3, .int x3), (4, .int x4), (5, .int x5)], [], mk X, σ) := by
  unfold g_X9_safest_69 at h
  refine Ex.blk 2 rfl ?_
  show Ex mr_X9_safest sc (Cl MT pr sc (d + 4)) (rtE (some (.int r)) (mk X2) σ2) (32, [(5, .int (x5 + 1)), (0, .ref 0), (1, .int x1), (2, .int x2), (3, .int x3), (4, .int x4)], [], mk X, σ)
  show Ex mr_X9_safest sc (Cl MT pr sc (d + 4)) (rtE (some (.int r)) (mk X2) σ2) (32, [(5, .int (x5 + 1)), (0, .ref 0), (1, .int x1), (2, .int x2), (3, .int x3), (4, .int x4)], [], mk X, σ)
  refine Ex.pick (lv' := _) [1, 2, 3, 4, 5, 0] rfl ?_
  exact hk32 _ _ _ _ _ _ _ h
theorem lg_X9_safest_32 {pr : Ct} {sc : Nat × (Nat → Int32)} (d : Nat) {r : Int32} {X2 : En} {σ2 : St} : ∀ (n : Nat) (x1 : Int32) (x2 : Int32) (x3 : Int32) (x4 : Int32) (x5 : Int32) (X : En) (σ : St), g_X9_safest_32 n x1 x2 x3 x4 x5 X σ = some (r, X2, σ2) → Ex mr_X9_safest sc (Cl MT pr sc (d + 4)) (rtE (some (.int r)) (mk X2) σ2) (32, [(0, .ref 0), (1, .int x1), (2, .int x2), (3, .int x3), (4, .int x4), (5, .int x5)], [], mk X, σ) := by
  intro n
  induction n with
  | zero =>
    intro x1 x2 x3 x4 x5 X σ h
    cases h
  | succ n ih =>
    intro x1 x2 x3 x4 x5 X σ h
    simp only [g_X9_safest_32] at h
    refine Ex.blk 3 rfl ?_
    rcases ite_sp h with ⟨c7, h⟩ | ⟨c7, h⟩
    · refine And.intro (fun _ => ?_) (fun hn => absurd c7 hn)
      show Ex mr_X9_safest sc (Cl MT pr sc (d + 4)) (rtE (some (.int r)) (mk X2) σ2) (75, [(0, .ref 0), (1, .int x1), (2, .int x2), (3, .int x3), (4, .int x4), (5, .int x5)], [], mk X, σ)
      show Ex mr_X9_safest sc (Cl MT pr sc (d + 4)) (rtE (some (.int r)) (mk X2) σ2) (75, [(0, .ref 0), (1, .int x1), (2, .int x2), (3, .int x3), (4, .int x4), (5, .int x5)], [], mk X, σ)
      refine Ex.pick (lv' := _) [3] rfl ?_
      exact lg_X9_safest_75 d _ _ _ h
    · refine And.intro (fun hp => absurd hp c7) (fun _ => ?_)
      show Ex mr_X9_safest sc (Cl MT pr sc (d + 4)) (rtE (some (.int r)) (mk X2) σ2) (38, [(0, .ref 0), (1, .int x1), (2, .int x2), (3, .int x3), (4, .int x4), (5, .int x5)], [], mk X, σ)
      refine Ex.blk 2 rfl ?_
      rcases ite_sp h with ⟨c6, h⟩ | ⟨c6, h⟩
      · refine And.intro (fun _ => ?_) (fun hn => absurd c6 hn)
        show Ex mr_X9_safest sc (Cl MT pr sc (d + 4)) (rtE (some (.int r)) (mk X2) σ2) (75, [(0, .ref 0), (1, .int x1), (2, .int x2), (3, .int x3), (4, .int x4), (5, .int x5)], [], mk X, σ)
        show Ex mr_X9_safest sc (Cl MT pr sc (d + 4)) (rtE (some (.int r)) (mk X2) σ2) (75, [(0, .ref 0), (1, .int x1), (2, .int x2), (3, .int x3), (4, .int x4), (5, .int x5)], [], mk X, σ)
        refine Ex.pick (lv' := _) [3] rfl ?_
        exact lg_X9_safest_75 d _ _ _ h
      · refine And.intro (fun hp => absurd hp c6) (fun _ => ?_)
        show Ex mr_X9_safest sc (Cl MT pr sc (d + 4)) (rtE (some (.int r)) (mk X2) σ2) (43, [(0, .ref 0), (1, .int x1), (2, .int x2), (3, .int x3), (4, .int x4), (5, .int x5)], [], mk X, σ)
        refine Ex.blk 4 rfl ?_
        show Ex mr_X9_safest sc (Cl MT pr sc (d + 4)) (rtE (some (.int r)) (mk X2) σ2) (50, [(0, .ref 0), (1, .int x1), (2, .int x2), (3, .int x3), (4, .int x4), (5, .int x5)], [.int x5, .int x1, .ref 15], mk X, σ)
        obtain ⟨p4, hp4, h⟩ := bind_sp h
        refine Ex.blk 1 rfl ?_
        refine Exists.intro (some (.int p4.1)) (Exists.intro (mk p4.2.1) (Exists.intro p4.2.2 (And.intro (cg_X1_missed (d + 0) hp4) ?_)))
        show Ex mr_X9_safest sc (Cl MT pr sc (d + 4)) (rtE (some (.int r)) (mk X2) σ2) (53, [(0, .ref 0), (1, .int x1), (2, .int x2), (3, .int x3), (4, .int x4), (5, .int x5)], [.int p4.1], mk p4.2.1, p4.2.2)
        refine Ex.blk 4 rfl ?_
        rcases ite_sp h with ⟨c5, h⟩ | ⟨c5, h⟩
        · refine And.intro (fun _ => ?_) (fun hn => absurd c5 hn)
          show Ex mr_X9_safest sc (Cl MT pr sc (d + 4)) (rtE (some (.int r)) (mk X2) σ2) (69, [(6, .int p4.1), (0, .ref 0), (1, .int x1), (2, .int x2), (3, .int x3), (4, .int x4), (5, .int x5)], [], mk p4.2.1, p4.2.2)
          show Ex mr_X9_safest sc (Cl MT pr sc (d + 4)) (rtE (some (.int r)) (mk X2) σ2) (69, [(6, .int p4.1), (0, .ref 0), (1, .int x1), (2, .int x2), (3, .int x3), (4, .int x4), (5, .int x5)], [], mk p4.2.1, p4.2.2)
          refine Ex.pick (lv' := _) [1, 2, 3, 4, 5, 6] rfl ?_
          exact lg_X9_safest_69 d _ ih _ _ _ _ _ _ _ h
        · refine And.intro (fun hp => absurd hp c5) (fun _ => ?_)
          show Ex mr_X9_safest sc (Cl MT pr sc (d + 4)) (rtE (some (.int r)) (mk X2) σ2) (62, [(6, .int p4.1), (0, .ref 0), (1, .int x1), (2, .int x2), (3, .int x3), (4, .int x4), (5, .int x5)], [], mk p4.2.1, p4.2.2)
          refine Ex.blk 4 rfl ?_
          show Ex mr_X9_safest sc (Cl MT pr sc (d + 4)) (rtE (some (.int r)) (mk X2) σ2) (69, [(3, .int x5), (4, .int p4.1), (6, .int p4.1), (0, .ref 0), (1, .int x1), (2, .int x2), (5, .int x5)], [], mk p4.2.1, p4.2.2)
          show Ex mr_X9_safest sc (Cl MT pr sc (d + 4)) (rtE (some (.int r)) (mk X2) σ2) (69, [(3, .int x5), (4, .int p4.1), (6, .int p4.1), (0, .ref 0), (1, .int x1), (2, .int x2), (5, .int x5)], [], mk p4.2.1, p4.2.2)
          refine Ex.pick (lv' := _) [3, 4, 5, 0, 1, 6] rfl ?_
          exact lg_X9_safest_69 d _ ih _ _ _ _ _ _ _ h
theorem cg_X9_safest {pr : Ct} {sc : Nat × (Nat → Int32)} (d : Nat) {r : Int32} {X2 : En} {σ2 : St} {x1 : Int32} {x2 : Int32} {X : En} {σ : St} (h : g_X9_safest x1 x2 X σ = some (r, X2, σ2)) : Cl MT pr sc (d + 4 + 1) 112 [.ref 0, .int x1, .int x2] (mk X) σ (some (.int r)) (mk X2) σ2 := by
  unfold g_X9_safest at h
  obtain ⟨p, hp, h⟩ := bind_sp h
  obtain ⟨hz, h⟩ := gd_some h
  cases h
  refine cl_of2 mr_X9_safest rfl rfl hz ?_
  have h := hp
  clear hp
  unfold g_X9_safest_b at h
  refine Ex.blk 1 rfl ?_
  show Ex mr_X9_safest sc (Cl MT pr sc (d + 4)) (rtE (some (.int r)) (mk X2) σ2) (1, [(0, .ref 0), (1, .int x1), (2, .int x2)], [.int x1], mk X, σ)
  obtain ⟨p1, hp1, h⟩ := bind_sp h
  refine Ex.blk 1 rfl ?_
  refine Exists.intro (some (.int p1.1)) (Exists.intro (mk X) (Exists.intro p1.2 (And.intro (cl_X9_isNumber (d + 3) hp1) ?_)))
  show Ex mr_X9_safest sc (Cl MT pr sc (d + 4)) (rtE (some (.int r)) (mk X2) σ2) (4, [(0, .ref 0), (1, .int x1), (2, .int x2)], [.int p1.1], mk X, p1.2)
  refine Ex.blk 1 rfl ?_
  rcases ite_sp h with ⟨c9, h⟩ | ⟨c9, h⟩
  · refine And.intro (fun _ => ?_) (fun hn => absurd c9 hn)
    show Ex mr_X9_safest sc (Cl MT pr sc (d + 4)) (rtE (some (.int r)) (mk X2) σ2) (14, [(0, .ref 0), (1, .int x1), (2, .int x2)], [], mk X, p1.2)
    show Ex mr_X9_safest sc (Cl MT pr sc (d + 4)) (rtE (some (.int r)) (mk X2) σ2) (14, [(0, .ref 0), (1, .int x1), (2, .int x2)], [], mk X, p1.2)
    refine Ex.pick (lv' := _) [] rfl ?_
    exact lg_X9_safest_14 d _ _ h
  · refine And.intro (fun hp => absurd hp c9) (fun _ => ?_)
    show Ex mr_X9_safest sc (Cl MT pr sc (d + 4)) (rtE (some (.int r)) (mk X2) σ2) (7, [(0, .ref 0), (1, .int x1), (2, .int x2)], [], mk X, p1.2)
    refine Ex.blk 1 rfl ?_
    show Ex mr_X9_safest sc (Cl MT pr sc (d + 4)) (rtE (some (.int r)) (mk X2) σ2) (8, [(0, .ref 0), (1, .int x1), (2, .int x2)], [.int x2], mk X, p1.2)
    obtain ⟨p2, hp2, h⟩ := bind_sp h
    refine Ex.blk 1 rfl ?_
    refine Exists.intro (some (.int p2.1)) (Exists.intro (mk X) (Exists.intro p2.2 (And.intro (cl_X9_isBell (d + 3) hp2) ?_)))
    show Ex mr_X9_safest sc (Cl MT pr sc (d + 4)) (rtE (some (.int r)) (mk X2) σ2) (11, [(0, .ref 0), (1, .int x1), (2, .int x2)], [.int p2.1], mk X, p2.2)
    refine Ex.blk 1 rfl ?_
    rcases ite_sp h with ⟨c8, h⟩ | ⟨c8, h⟩
    · refine And.intro (fun hp => absurd c8 hp) (fun _ => ?_)
      show Ex mr_X9_safest sc (Cl MT pr sc (d + 4)) (rtE (some (.int r)) (mk X2) σ2) (14, [(0, .ref 0), (1, .int x1), (2, .int x2)], [], mk X, p2.2)
      show Ex mr_X9_safest sc (Cl MT pr sc (d + 4)) (rtE (some (.int r)) (mk X2) σ2) (14, [(0, .ref 0), (1, .int x1), (2, .int x2)], [], mk X, p2.2)
      refine Ex.pick (lv' := _) [] rfl ?_
      exact lg_X9_safest_14 d _ _ h
    · refine And.intro (fun _ => ?_) (fun hn => absurd c8 hn)
      show Ex mr_X9_safest sc (Cl MT pr sc (d + 4)) (rtE (some (.int r)) (mk X2) σ2) (16, [(0, .ref 0), (1, .int x1), (2, .int x2)], [], mk X, p2.2)
      refine Ex.blk 5 rfl ?_
      show Ex mr_X9_safest sc (Cl MT pr sc (d + 4)) (rtE (some (.int r)) (mk X2) σ2) (23, [(3, .int 2), (0, .ref 0), (1, .int x1), (2, .int x2)], [.int x1, .ref 15], mk X, p2.2)
      refine Ex.blk 1 rfl ?_
      show Ex mr_X9_safest sc (Cl MT pr sc (d + 4)) (rtE (some (.int r)) (mk X2) σ2) (24, [(3, .int 2), (0, .ref 0), (1, .int x1), (2, .int x2)], [.int 2, .int x1, .ref 15], mk X, p2.2)
      obtain ⟨p3, hp3, h⟩ := bind_sp h
      refine Ex.blk 1 rfl ?_
      refine Exists.intro (some (.int p3.1)) (Exists.intro (mk p3.2.1) (Exists.intro p3.2.2 (And.intro (cg_X1_missed (d + 0) hp3) ?_)))
      show Ex mr_X9_safest sc (Cl MT pr sc (d + 4)) (rtE (some (.int r)) (mk X2) σ2) (27, [(3, .int 2), (0, .ref 0), (1, .int x1), (2, .int x2)], [.int p3.1], mk p3.2.1, p3.2.2)
      refine Ex.blk 3 rfl ?_
      show Ex mr_X9_safest sc (Cl MT pr sc (d + 4)) (rtE (some (.int r)) (mk X2) σ2) (32, [(5, .int 3), (4, .int p3.1), (3, .int 2), (0, .ref 0), (1, .int x1), (2, .int x2)], [], mk p3.2.1, p3.2.2)
      show Ex mr_X9_safest sc (Cl MT pr sc (d + 4)) (rtE (some (.int r)) (mk X2) σ2) (32, [(5, .int 3), (4, .int p3.1), (3, .int 2), (0, .ref 0), (1, .int x1), (2, .int x2)], [], mk p3.2.1, p3.2.2)
      refine Ex.pick (lv' := _) [3, 4, 5, 2, 1, 0] rfl ?_
      exact lg_X9_safest_32 d FU _ _ _ _ _ _ _ h
theorem lg_X3_walksBy_49 {pr : Ct} {sc : Nat × (Nat → Int32)} (d : Nat) {r : Int32} {X2 : En} {σ2 : St} (x4 : Int32) (y0 : Int32) (X : En) (σ : St) (h : g_X3_walksBy_49 x4 y0 X σ = some (r, X2, σ2)) : Ex mr_X3_walksBy sc (Cl MT pr sc (d + 3)) (rtE (some (.int r)) (mk X2) σ2) (49, [(1, .ref 5), (4, .int x4)], [.int y0], mk X, σ) := by
  unfold g_X3_walksBy_49 at h
  refine Ex.blk 5 rfl ?_
  show Ex mr_X3_walksBy sc (Cl MT pr sc (d + 3)) (rtE (some (.int r)) (mk X2) σ2) (58, [(5, .int y0), (1, .ref 5), (4, .int x4)], [.int ((gI σ 5 7) - x4)], mk X, σ)
  refine Ex.blk 3 rfl ?_
  cases h
  exact And.intro trivial ⟨rfl, rfl, rfl⟩
theorem lg_X3_walksBy_6 {pr : Ct} {sc : Nat × (Nat → Int32)} (d : Nat) {r : Int32} {X2 : En} {σ2 : St} (x2 : Int32) (x3 : Int32) (x4 : Int32) (X : En) (σ : St) (h : g_X3_walksBy_6 x2 x3 x4 X σ = some (r, X2, σ2)) : Ex mr_X3_walksBy sc (Cl MT pr sc (d + 3)) (rtE (some (.int r)) (mk X2) σ2) (6, [(0, .ref 19), (1, .ref 5), (2, .int x2), (3, .int x3), (4, .int x4)], [], mk X, σ) := by
  unfold g_X3_walksBy_6 at h
  refine Ex.blk 3 rfl ?_
  show Ex mr_X3_walksBy sc (Cl MT pr sc (d + 3)) (rtE (some (.int r)) (mk X2) σ2) (9, [(0, .ref 19), (1, .ref 5), (2, .int x2), (3, .int x3), (4, .int x4)], [.int x2, .ref 19, .ref 5], mk X, σ)
  obtain ⟨p1, hp1, h⟩ := bind_sp h
  refine Ex.blk 1 rfl ?_
  refine Exists.intro (some (.long p1.1)) (Exists.intro (mk X) (Exists.intro p1.2 (And.intro (cl_X3_sumOf (d + 1) hp1) ?_)))
  show Ex mr_X3_walksBy sc (Cl MT pr sc (d + 3)) (rtE (some (.int r)) (mk X2) σ2) (12, [(0, .ref 19), (1, .ref 5), (2, .int x2), (3, .int x3), (4, .int x4)], [.long p1.1, .ref 5], mk X, p1.2)
  obtain ⟨p2, hp2, h⟩ := bind_sp h
  refine Ex.blk 1 rfl ?_
  refine Exists.intro none (Exists.intro (mk X) (Exists.intro p2 (And.intro (cl_X7_standFor_5 (d + 1) hp2) ?_)))
  show Ex mr_X3_walksBy sc (Cl MT pr sc (d + 3)) (rtE (some (.int r)) (mk X2) σ2) (15, [(0, .ref 19), (1, .ref 5), (2, .int x2), (3, .int x3), (4, .int x4)], [], mk X, p2)
  refine Ex.blk 4 rfl ?_
  show Ex mr_X3_walksBy sc (Cl MT pr sc (d + 3)) (rtE (some (.int r)) (mk X2) σ2) (21, [(0, .ref 19), (1, .ref 5), (2, .int x2), (3, .int x3), (4, .int x4)], [.int x3, .ref 20, .ref 5], mk X, p2)
  obtain ⟨g3, h⟩ := gd_some h
  refine Ex.blk 1 rfl ?_
  refine And.intro (inb_ok g3) ?_
  show Ex mr_X3_walksBy sc (Cl MT pr sc (d + 3)) (rtE (some (.int r)) (mk X2) σ2) (22, [(0, .ref 19), (1, .ref 5), (2, .int x2), (3, .int x3), (4, .int x4)], [.int (gI p2 20 x3.toNatClampNeg), .ref 5], mk X, p2)
  refine Ex.blk 3 rfl ?_
  show Ex mr_X3_walksBy sc (Cl MT pr sc (d + 3)) (rtE (some (.int r)) (mk X2) σ2) (25, [(0, .ref 19), (1, .ref 5), (2, .int x2), (3, .int x3), (4, .int x4)], [.null, .int 0, .int 0, .int (gI p2 20 x3.toNatClampNeg), .ref 5], mk X, p2)
  obtain ⟨p4, hp4, h⟩ := bind_sp h
  refine Ex.blk 1 rfl ?_
  refine Exists.intro none (Exists.intro (mk X) (Exists.intro p4 (And.intro (cl_X7_bring_n_5 (d + 0) hp4) ?_)))
  show Ex mr_X3_walksBy sc (Cl MT pr sc (d + 3)) (rtE (some (.int r)) (mk X2) σ2) (28, [(0, .ref 19), (1, .ref 5), (2, .int x2), (3, .int x3), (4, .int x4)], [], mk X, p4)
  refine Ex.blk 1 rfl ?_
  show Ex mr_X3_walksBy sc (Cl MT pr sc (d + 3)) (rtE (some (.int r)) (mk X2) σ2) (29, [(0, .ref 19), (1, .ref 5), (2, .int x2), (3, .int x3), (4, .int x4)], [.ref 19], mk X, p4)
  rcases mR_sp h with ⟨hb6, h⟩ | ⟨b5, hb6, h⟩
  · refine ex_get rfl (by rfl) (congrArg orv hb6) ?_
    show Ex mr_X3_walksBy sc (Cl MT pr sc (d + 3)) (rtE (some (.int r)) (mk X2) σ2) (32, [(0, .ref 19), (1, .ref 5), (2, .int x2), (3, .int x3), (4, .int x4)], [.null], mk X, p4)
    refine Ex.blk 1 rfl ?_
    show Ex mr_X3_walksBy sc (Cl MT pr sc (d + 3)) (rtE (some (.int r)) (mk X2) σ2) (35, [(0, .ref 19), (1, .ref 5), (2, .int x2), (3, .int x3), (4, .int x4)], [], mk X, p4)
    refine Ex.blk 2 rfl ?_
    show Ex mr_X3_walksBy sc (Cl MT pr sc (d + 3)) (rtE (some (.int r)) (mk X2) σ2) (49, [(0, .ref 19), (1, .ref 5), (2, .int x2), (3, .int x3), (4, .int x4)], [.int 0], mk X, p4)
    show Ex mr_X3_walksBy sc (Cl MT pr sc (d + 3)) (rtE (some (.int r)) (mk X2) σ2) (49, [(0, .ref 19), (1, .ref 5), (2, .int x2), (3, .int x3), (4, .int x4)], [.int 0], mk X, p4)
    refine Ex.pick (lv' := _) [1, 4] rfl ?_
    exact lg_X3_walksBy_49 d _ _ _ _ h
  · refine ex_get rfl (by rfl) (congrArg orv hb6) ?_
    show Ex mr_X3_walksBy sc (Cl MT pr sc (d + 3)) (rtE (some (.int r)) (mk X2) σ2) (32, [(0, .ref 19), (1, .ref 5), (2, .int x2), (3, .int x3), (4, .int x4)], [.ref b5], mk X, p4)
    obtain ⟨hk_b5_X, h⟩ := gd_some h
    refine Ex.blk 1 rfl ?_
    show Ex mr_X3_walksBy sc (Cl MT pr sc (d + 3)) (rtE (some (.int r)) (mk X2) σ2) (39, [(0, .ref 19), (1, .ref 5), (2, .int x2), (3, .int x3), (4, .int x4)], [], mk X, p4)
    refine Ex.blk 1 rfl ?_
    show Ex mr_X3_walksBy sc (Cl MT pr sc (d + 3)) (rtE (some (.int r)) (mk X2) σ2) (40, [(0, .ref 19), (1, .ref 5), (2, .int x2), (3, .int x3), (4, .int x4)], [.ref 19], mk X, p4)
    rcases mR_sp h with ⟨hb8, h⟩ | ⟨b7, hb8, h⟩
    · refine ex_get rfl (by rfl) (congrArg orv hb8) ?_
      show Ex mr_X3_walksBy sc (Cl MT pr sc (d + 3)) (rtE (some (.int r)) (mk X2) σ2) (43, [(0, .ref 19), (1, .ref 5), (2, .int x2), (3, .int x3), (4, .int x4)], [.null], mk X, p4)
      cases h
    · refine ex_get rfl (by rfl) (congrArg orv hb8) ?_
      show Ex mr_X3_walksBy sc (Cl MT pr sc (d + 3)) (rtE (some (.int r)) (mk X2) σ2) (43, [(0, .ref 19), (1, .ref 5), (2, .int x2), (3, .int x3), (4, .int x4)], [.ref b7], mk X, p4)
      obtain ⟨hk_b7_X, h⟩ := gd_some h
      refine Ex.blk 5 rfl ?_
      show Ex mr_X3_walksBy sc (Cl MT pr sc (d + 3)) (rtE (some (.int r)) (mk X2) σ2) (48, [(0, .ref 19), (1, .ref 5), (2, .int x2), (3, .int x3), (4, .int x4)], [.int (x2 ||| (shlI 1 x3)), .ref b7], mk X, p4)
      obtain ⟨g9, h⟩ := gd_some h
      refine ex_iald rfl hk_b7_X g9 ?_
      show Ex mr_X3_walksBy sc (Cl MT pr sc (d + 3)) (rtE (some (.int r)) (mk X2) σ2) (49, [(0, .ref 19), (1, .ref 5), (2, .int x2), (3, .int x3), (4, .int x4)], [.int (gI p4 b7 (x2 ||| (shlI 1 x3)).toNatClampNeg)], mk X, p4)
      show Ex mr_X3_walksBy sc (Cl MT pr sc (d + 3)) (rtE (some (.int r)) (mk X2) σ2) (49, [(0, .ref 19), (1, .ref 5), (2, .int x2), (3, .int x3), (4, .int x4)], [.int (gI p4 b7 (x2 ||| (shlI 1 x3)).toNatClampNeg)], mk X, p4)
      refine Ex.pick (lv' := _) [1, 4] rfl ?_
      exact lg_X3_walksBy_49 d _ _ _ _ h
theorem cg_X3_walksBy {pr : Ct} {sc : Nat × (Nat → Int32)} (d : Nat) {r : Int32} {X2 : En} {σ2 : St} {x2 : Int32} {x3 : Int32} {X : En} {σ : St} (h : g_X3_walksBy x2 x3 X σ = some (r, X2, σ2)) : Cl MT pr sc (d + 3 + 1) 39 [.ref 19, .ref 5, .int x2, .int x3] (mk X) σ (some (.int r)) (mk X2) σ2 := by
  unfold g_X3_walksBy at h
  obtain ⟨p, hp, h⟩ := bind_sp h
  obtain ⟨hz, h⟩ := gd_some h
  cases h
  refine cl_of2 mr_X3_walksBy rfl rfl hz ?_
  have h := hp
  clear hp
  unfold g_X3_walksBy_b at h
  refine Ex.blk 3 rfl ?_
  show Ex mr_X3_walksBy sc (Cl MT pr sc (d + 3)) (rtE (some (.int r)) (mk X2) σ2) (6, [(4, .int (gI σ 5 7)), (0, .ref 19), (1, .ref 5), (2, .int x2), (3, .int x3)], [], mk X, σ)
  show Ex mr_X3_walksBy sc (Cl MT pr sc (d + 3)) (rtE (some (.int r)) (mk X2) σ2) (6, [(4, .int (gI σ 5 7)), (0, .ref 19), (1, .ref 5), (2, .int x2), (3, .int x3)], [], mk X, σ)
  refine Ex.pick (lv' := _) [1, 2, 3, 4, 0] rfl ?_
  exact lg_X3_walksBy_6 d _ _ _ _ _ h
theorem lg_X3_weigh_88 {pr : Ct} {sc : Nat × (Nat → Int32)} (d : Nat)  {X2 : En} {σ2 : St} (k47 : Int32 → En → St → Option (En × St)) (k57 : Int32 → Int32 → Int32 → En → St → Option (En × St)) (hk47 : ∀ (x2 : Int32) (X : En) (σ : St), k47 x2 X σ = some (X2, σ2) → Ex mr_X3_weigh sc (Cl MT pr sc (d + 4)) (rtE none (mk X2) σ2) (47, [(0, .ref 19), (1, .ref 5), (2, .int x2)], [], mk X, σ)) (hk57 : ∀ (x2 : Int32) (x3 : Int32) (x4 : Int32) (X : En) (σ : St), k57 x2 x3 x4 X σ = some (X2, σ2) → Ex mr_X3_weigh sc (Cl MT pr sc (d + 4)) (rtE none (mk X2) σ2) (57, [(0, .ref 19), (1, .ref 5), (2, .int x2), (3, .int x3), (4, .int x4)], [], mk X, σ)) (x2 : Int32) (x3 : Int32) (x4 : Int32) (X : En) (σ : St) (h : g_X3_weigh_88 k47 k57 x2 x3 x4 X σ = some (X2, σ2)) : Ex mr_X3_weigh sc (Cl MT pr sc (d + 4)) (rtE none (mk X2) σ2) (88, [(0, .ref 19), (1, .ref 5), (2, .int x2), (3, .int x3), (4, .int x4)], [], mk X, σ) := by
  unfold g_X3_weigh_88 at h
  refine Ex.blk 2 rfl ?_
  show Ex mr_X3_weigh sc (Cl MT pr sc (d + 4)) (rtE none (mk X2) σ2) (57, [(4, .int (x4 + 1)), (0, .ref 19), (1, .ref 5), (2, .int x2), (3, .int x3)], [], mk X, σ)
  show Ex mr_X3_weigh sc (Cl MT pr sc (d + 4)) (rtE none (mk X2) σ2) (57, [(4, .int (x4 + 1)), (0, .ref 19), (1, .ref 5), (2, .int x2), (3, .int x3)], [], mk X, σ)
  refine Ex.pick (lv' := _) [1, 2, 3, 4, 0] rfl ?_
  exact hk57 _ _ _ _ _ h
theorem lg_X3_weigh_57 {pr : Ct} {sc : Nat × (Nat → Int32)} (d : Nat)  {X2 : En} {σ2 : St} (k47 : Int32 → En → St → Option (En × St)) (hk47 : ∀ (x2 : Int32) (X : En) (σ : St), k47 x2 X σ = some (X2, σ2) → Ex mr_X3_weigh sc (Cl MT pr sc (d + 4)) (rtE none (mk X2) σ2) (47, [(0, .ref 19), (1, .ref 5), (2, .int x2)], [], mk X, σ)) : ∀ (n : Nat) (x2 : Int32) (x3 : Int32) (x4 : Int32) (X : En) (σ : St), g_X3_weigh_57 k47 n x2 x3 x4 X σ = some (X2, σ2) → Ex mr_X3_weigh sc (Cl MT pr sc (d + 4)) (rtE none (mk X2) σ2) (57, [(0, .ref 19), (1, .ref 5), (2, .int x2), (3, .int x3), (4, .int x4)], [], mk X, σ) := by
  intro n
  induction n with
  | zero =>
    intro x2 x3 x4 X σ h
    cases h
  | succ n ih =>
    intro x2 x3 x4 X σ h
    simp only [g_X3_weigh_57] at h
    refine Ex.blk 4 rfl ?_
    rcases ite_sp h with ⟨c14, h⟩ | ⟨c14, h⟩
    · refine And.intro (fun _ => ?_) (fun hn => absurd c14 hn)
      show Ex mr_X3_weigh sc (Cl MT pr sc (d + 4)) (rtE none (mk X2) σ2) (94, [(0, .ref 19), (1, .ref 5), (2, .int x2), (3, .int x3), (4, .int x4)], [], mk X, σ)
      refine Ex.blk 1 rfl ?_
      show Ex mr_X3_weigh sc (Cl MT pr sc (d + 4)) (rtE none (mk X2) σ2) (95, [(0, .ref 19), (1, .ref 5), (2, .int x2), (3, .int x3), (4, .int x4)], [.ref 19], mk X, σ)
      rcases mR_sp h with ⟨hb9, h⟩ | ⟨b8, hb9, h⟩
      · refine ex_get rfl (by rfl) (congrArg orv hb9) ?_
        show Ex mr_X3_weigh sc (Cl MT pr sc (d + 4)) (rtE none (mk X2) σ2) (98, [(0, .ref 19), (1, .ref 5), (2, .int x2), (3, .int x3), (4, .int x4)], [.null], mk X, σ)
        cases h
      · refine ex_get rfl (by rfl) (congrArg orv hb9) ?_
        show Ex mr_X3_weigh sc (Cl MT pr sc (d + 4)) (rtE none (mk X2) σ2) (98, [(0, .ref 19), (1, .ref 5), (2, .int x2), (3, .int x3), (4, .int x4)], [.ref b8], mk X, σ)
        obtain ⟨hk_b8_X, h⟩ := gd_some h
        refine Ex.blk 2 rfl ?_
        show Ex mr_X3_weigh sc (Cl MT pr sc (d + 4)) (rtE none (mk X2) σ2) (100, [(0, .ref 19), (1, .ref 5), (2, .int x2), (3, .int x3), (4, .int x4)], [.int x3, .int x2, .ref b8], mk X, σ)
        obtain ⟨g10, h⟩ := gd_some h
        refine ex_iast rfl hk_b8_X g10 ?_
        show Ex mr_X3_weigh sc (Cl MT pr sc (d + 4)) (rtE none (mk X2) σ2) (101, [(0, .ref 19), (1, .ref 5), (2, .int x2), (3, .int x3), (4, .int x4)], [], mk X, (sI σ b8 x2.toNatClampNeg x3))
        refine Ex.blk 2 rfl ?_
        show Ex mr_X3_weigh sc (Cl MT pr sc (d + 4)) (rtE none (mk X2) σ2) (47, [(2, .int (x2 + (-1))), (0, .ref 19), (1, .ref 5), (3, .int x3), (4, .int x4)], [], mk X, (sI σ b8 x2.toNatClampNeg x3))
        show Ex mr_X3_weigh sc (Cl MT pr sc (d + 4)) (rtE none (mk X2) σ2) (47, [(2, .int (x2 + (-1))), (0, .ref 19), (1, .ref 5), (3, .int x3), (4, .int x4)], [], mk X, (sI σ b8 x2.toNatClampNeg x3))
        refine Ex.pick (lv' := _) [1, 2, 0] rfl ?_
        exact hk47 _ _ _ h
    · refine And.intro (fun hp => absurd hp c14) (fun _ => ?_)
      show Ex mr_X3_weigh sc (Cl MT pr sc (d + 4)) (rtE none (mk X2) σ2) (66, [(0, .ref 19), (1, .ref 5), (2, .int x2), (3, .int x3), (4, .int x4)], [], mk X, σ)
      refine Ex.blk 2 rfl ?_
      show Ex mr_X3_weigh sc (Cl MT pr sc (d + 4)) (rtE none (mk X2) σ2) (69, [(0, .ref 19), (1, .ref 5), (2, .int x2), (3, .int x3), (4, .int x4)], [.int x4, .int x2], mk X, σ)
      obtain ⟨p11, hp11, h⟩ := bind_sp h
      refine Ex.blk 1 rfl ?_
      refine Exists.intro (some (.int p11.1)) (Exists.intro (mk X) (Exists.intro p11.2 (And.intro (cl_X9_hasBit (d + 3) hp11) ?_)))
      show Ex mr_X3_weigh sc (Cl MT pr sc (d + 4)) (rtE none (mk X2) σ2) (72, [(0, .ref 19), (1, .ref 5), (2, .int x2), (3, .int x3), (4, .int x4)], [.int p11.1], mk X, p11.2)
      refine Ex.blk 1 rfl ?_
      rcases ite_sp h with ⟨c13, h⟩ | ⟨c13, h⟩
      · refine And.intro (fun hp => absurd c13 hp) (fun _ => ?_)
        show Ex mr_X3_weigh sc (Cl MT pr sc (d + 4)) (rtE none (mk X2) σ2) (75, [(0, .ref 19), (1, .ref 5), (2, .int x2), (3, .int x3), (4, .int x4)], [], mk X, p11.2)
        refine Ex.blk 5 rfl ?_
        show Ex mr_X3_weigh sc (Cl MT pr sc (d + 4)) (rtE none (mk X2) σ2) (81, [(0, .ref 19), (1, .ref 5), (2, .int x2), (3, .int x3), (4, .int x4)], [.int x4, .int x2, .ref 5, .ref 19, .int x3], mk X, p11.2)
        obtain ⟨p12, hp12, h⟩ := bind_sp h
        refine Ex.blk 1 rfl ?_
        refine Exists.intro (some (.int p12.1)) (Exists.intro (mk p12.2.1) (Exists.intro p12.2.2 (And.intro (cg_X3_walksBy (d + 0) hp12) ?_)))
        show Ex mr_X3_weigh sc (Cl MT pr sc (d + 4)) (rtE none (mk X2) σ2) (84, [(0, .ref 19), (1, .ref 5), (2, .int x2), (3, .int x3), (4, .int x4)], [.int p12.1, .int x3], mk p12.2.1, p12.2.2)
        refine Ex.blk 2 rfl ?_
        show Ex mr_X3_weigh sc (Cl MT pr sc (d + 4)) (rtE none (mk X2) σ2) (88, [(3, .int (mnI x3 p12.1)), (0, .ref 19), (1, .ref 5), (2, .int x2), (4, .int x4)], [], mk p12.2.1, p12.2.2)
        show Ex mr_X3_weigh sc (Cl MT pr sc (d + 4)) (rtE none (mk X2) σ2) (88, [(3, .int (mnI x3 p12.1)), (0, .ref 19), (1, .ref 5), (2, .int x2), (4, .int x4)], [], mk p12.2.1, p12.2.2)
        refine Ex.pick (lv' := _) [1, 2, 3, 0, 4] rfl ?_
        exact lg_X3_weigh_88 d _ _ hk47 ih _ _ _ _ _ h
      · refine And.intro (fun _ => ?_) (fun hn => absurd c13 hn)
        show Ex mr_X3_weigh sc (Cl MT pr sc (d + 4)) (rtE none (mk X2) σ2) (88, [(0, .ref 19), (1, .ref 5), (2, .int x2), (3, .int x3), (4, .int x4)], [], mk X, p11.2)
        show Ex mr_X3_weigh sc (Cl MT pr sc (d + 4)) (rtE none (mk X2) σ2) (88, [(0, .ref 19), (1, .ref 5), (2, .int x2), (3, .int x3), (4, .int x4)], [], mk X, p11.2)
        exact lg_X3_weigh_88 d _ _ hk47 ih _ _ _ _ _ h
theorem lg_X3_weigh_47 {pr : Ct} {sc : Nat × (Nat → Int32)} (d : Nat)  {X2 : En} {σ2 : St} : ∀ (n : Nat) (x2 : Int32) (X : En) (σ : St), g_X3_weigh_47 n x2 X σ = some (X2, σ2) → Ex mr_X3_weigh sc (Cl MT pr sc (d + 4)) (rtE none (mk X2) σ2) (47, [(0, .ref 19), (1, .ref 5), (2, .int x2)], [], mk X, σ) := by
  intro n
  induction n with
  | zero =>
    intro x2 X σ h
    cases h
  | succ n ih =>
    intro x2 X σ h
    simp only [g_X3_weigh_47] at h
    refine Ex.blk 2 rfl ?_
    rcases ite_sp h with ⟨c15, h⟩ | ⟨c15, h⟩
    · refine And.intro (fun _ => ?_) (fun hn => absurd c15 hn)
      show Ex mr_X3_weigh sc (Cl MT pr sc (d + 4)) (rtE none (mk X2) σ2) (107, [(0, .ref 19), (1, .ref 5), (2, .int x2)], [], mk X, σ)
      refine Ex.blk 5 rfl ?_
      cases h
      exact And.intro trivial ⟨rfl, rfl, rfl⟩
    · refine And.intro (fun hp => absurd hp c15) (fun _ => ?_)
      show Ex mr_X3_weigh sc (Cl MT pr sc (d + 4)) (rtE none (mk X2) σ2) (51, [(0, .ref 19), (1, .ref 5), (2, .int x2)], [], mk X, σ)
      refine Ex.blk 4 rfl ?_
      show Ex mr_X3_weigh sc (Cl MT pr sc (d + 4)) (rtE none (mk X2) σ2) (57, [(4, .int 0), (3, .int 2147483647), (0, .ref 19), (1, .ref 5), (2, .int x2)], [], mk X, σ)
      show Ex mr_X3_weigh sc (Cl MT pr sc (d + 4)) (rtE none (mk X2) σ2) (57, [(4, .int 0), (3, .int 2147483647), (0, .ref 19), (1, .ref 5), (2, .int x2)], [], mk X, σ)
      refine Ex.pick (lv' := _) [2, 3, 4, 1, 0] rfl ?_
      exact lg_X3_weigh_57 d _ ih FU _ _ _ _ _ h
theorem lg_X3_weigh_28 {pr : Ct} {sc : Nat × (Nat → Int32)} (d : Nat)  {X2 : En} {σ2 : St} (X : En) (σ : St) (h : g_X3_weigh_28 X σ = some (X2, σ2)) : Ex mr_X3_weigh sc (Cl MT pr sc (d + 4)) (rtE none (mk X2) σ2) (28, [(0, .ref 19), (1, .ref 5)], [], mk X, σ) := by
  unfold g_X3_weigh_28 at h
  refine Ex.blk 1 rfl ?_
  show Ex mr_X3_weigh sc (Cl MT pr sc (d + 4)) (rtE none (mk X2) σ2) (29, [(0, .ref 19), (1, .ref 5)], [.ref 19], mk X, σ)
  rcases mR_sp h with ⟨hb4, h⟩ | ⟨b3, hb4, h⟩
  · refine ex_get rfl (by rfl) (congrArg orv hb4) ?_
    show Ex mr_X3_weigh sc (Cl MT pr sc (d + 4)) (rtE none (mk X2) σ2) (32, [(0, .ref 19), (1, .ref 5)], [.null], mk X, σ)
    cases h
  · refine ex_get rfl (by rfl) (congrArg orv hb4) ?_
    show Ex mr_X3_weigh sc (Cl MT pr sc (d + 4)) (rtE none (mk X2) σ2) (32, [(0, .ref 19), (1, .ref 5)], [.ref b3], mk X, σ)
    obtain ⟨hk_b3_X, h⟩ := gd_some h
    refine Ex.blk 1 rfl ?_
    show Ex mr_X3_weigh sc (Cl MT pr sc (d + 4)) (rtE none (mk X2) σ2) (33, [(0, .ref 19), (1, .ref 5)], [.ref 19, .ref b3], mk X, σ)
    obtain ⟨p5, hp5, h⟩ := bind_sp h
    refine Ex.blk 1 rfl ?_
    refine Exists.intro (some (.int p5.1)) (Exists.intro (mk X) (Exists.intro p5.2 (And.intro (cl_X3_sets (d + 3) hp5) ?_)))
    show Ex mr_X3_weigh sc (Cl MT pr sc (d + 4)) (rtE none (mk X2) σ2) (36, [(0, .ref 19), (1, .ref 5)], [.int p5.1, .ref b3], mk X, p5.2)
    refine Ex.blk 3 rfl ?_
    show Ex mr_X3_weigh sc (Cl MT pr sc (d + 4)) (rtE none (mk X2) σ2) (39, [(0, .ref 19), (1, .ref 5)], [.int 0, .int (p5.1 - 1), .ref b3], mk X, p5.2)
    obtain ⟨g6, h⟩ := gd_some h
    refine ex_iast rfl hk_b3_X g6 ?_
    show Ex mr_X3_weigh sc (Cl MT pr sc (d + 4)) (rtE none (mk X2) σ2) (40, [(0, .ref 19), (1, .ref 5)], [], mk X, (sI p5.2 b3 (p5.1 - 1).toNatClampNeg 0))
    refine Ex.blk 1 rfl ?_
    show Ex mr_X3_weigh sc (Cl MT pr sc (d + 4)) (rtE none (mk X2) σ2) (41, [(0, .ref 19), (1, .ref 5)], [.ref 19], mk X, (sI p5.2 b3 (p5.1 - 1).toNatClampNeg 0))
    obtain ⟨p7, hp7, h⟩ := bind_sp h
    refine Ex.blk 1 rfl ?_
    refine Exists.intro (some (.int p7.1)) (Exists.intro (mk X) (Exists.intro p7.2 (And.intro (cl_X3_sets (d + 3) hp7) ?_)))
    show Ex mr_X3_weigh sc (Cl MT pr sc (d + 4)) (rtE none (mk X2) σ2) (44, [(0, .ref 19), (1, .ref 5)], [.int p7.1], mk X, p7.2)
    refine Ex.blk 3 rfl ?_
    show Ex mr_X3_weigh sc (Cl MT pr sc (d + 4)) (rtE none (mk X2) σ2) (47, [(2, .int (p7.1 - 2)), (0, .ref 19), (1, .ref 5)], [], mk X, p7.2)
    show Ex mr_X3_weigh sc (Cl MT pr sc (d + 4)) (rtE none (mk X2) σ2) (47, [(2, .int (p7.1 - 2)), (0, .ref 19), (1, .ref 5)], [], mk X, p7.2)
    refine Ex.pick (lv' := _) [1, 2, 0] rfl ?_
    exact lg_X3_weigh_47 d FU _ _ _ h
theorem cg_X3_weigh {pr : Ct} {sc : Nat × (Nat → Int32)} (d : Nat)  {X2 : En} {σ2 : St} {X : En} {σ : St} (h : g_X3_weigh X σ = some (X2, σ2)) : Cl MT pr sc (d + 4 + 1) 40 [.ref 19, .ref 5] (mk X) σ none (mk X2) σ2 := by
  unfold g_X3_weigh at h
  obtain ⟨p, hp, h⟩ := bind_sp h
  obtain ⟨hz, h⟩ := gd_some h
  cases h
  refine cl_of2 mr_X3_weigh rfl rfl hz ?_
  have h := hp
  clear hp
  unfold g_X3_weigh_b at h
  refine Ex.blk 5 rfl ?_
  rcases ite_sp h with ⟨c23, h⟩ | ⟨c23, h⟩
  · refine And.intro (fun hp => absurd c23 hp) (fun _ => ?_)
    show Ex mr_X3_weigh sc (Cl MT pr sc (d + 4)) (rtE none (mk X2) σ2) (11, [(0, .ref 19), (1, .ref 5)], [], mk X, σ)
    refine Ex.blk 1 rfl ?_
    cases h
    exact And.intro trivial ⟨rfl, rfl, rfl⟩
  · refine And.intro (fun _ => ?_) (fun hn => absurd c23 hn)
    show Ex mr_X3_weigh sc (Cl MT pr sc (d + 4)) (rtE none (mk X2) σ2) (12, [(0, .ref 19), (1, .ref 5)], [], mk X, σ)
    refine Ex.blk 1 rfl ?_
    show Ex mr_X3_weigh sc (Cl MT pr sc (d + 4)) (rtE none (mk X2) σ2) (13, [(0, .ref 19), (1, .ref 5)], [.ref 19], mk X, σ)
    rcases mR_sp h with ⟨hb2, h⟩ | ⟨b1, hb2, h⟩
    · refine ex_get rfl (by rfl) (congrArg orv hb2) ?_
      show Ex mr_X3_weigh sc (Cl MT pr sc (d + 4)) (rtE none (mk X2) σ2) (16, [(0, .ref 19), (1, .ref 5)], [.null], mk X, σ)
      refine Ex.blk 1 rfl ?_
      show Ex mr_X3_weigh sc (Cl MT pr sc (d + 4)) (rtE none (mk X2) σ2) (19, [(0, .ref 19), (1, .ref 5)], [], mk X, σ)
      refine Ex.blk 2 rfl ?_
      show Ex mr_X3_weigh sc (Cl MT pr sc (d + 4)) (rtE none (mk X2) σ2) (23, [(0, .ref 19), (1, .ref 5)], [.int 256, .ref 19], mk X, σ)
      obtain ⟨g22, h⟩ := gd_some h
      obtain ⟨t17, Y18, τ19, he20, h⟩ := mkA_sp h
      refine ex_nwaX rfl (by decide) g22 he20 ?_
      show Ex mr_X3_weigh sc (Cl MT pr sc (d + 4)) (rtE none (mk X2) σ2) (25, [(0, .ref 19), (1, .ref 5)], [.ref t17, .ref 19], mk Y18, τ19)
      obtain ⟨hk_t17_Y18, h⟩ := gd_some h
      refine Ex.blk 1 rfl ?_
      show Ex mr_X3_weigh sc (Cl MT pr sc (d + 4)) (rtE none (mk X2) σ2) (28, [(0, .ref 19), (1, .ref 5)], [], mk Y18, (sR τ19 19 2 (some t17)))
      show Ex mr_X3_weigh sc (Cl MT pr sc (d + 4)) (rtE none (mk X2) σ2) (28, [(0, .ref 19), (1, .ref 5)], [], mk Y18, (sR τ19 19 2 (some t17)))
      exact lg_X3_weigh_28 d _ _ h
    · refine ex_get rfl (by rfl) (congrArg orv hb2) ?_
      show Ex mr_X3_weigh sc (Cl MT pr sc (d + 4)) (rtE none (mk X2) σ2) (16, [(0, .ref 19), (1, .ref 5)], [.ref b1], mk X, σ)
      obtain ⟨hk_b1_X, h⟩ := gd_some h
      refine Ex.blk 1 rfl ?_
      show Ex mr_X3_weigh sc (Cl MT pr sc (d + 4)) (rtE none (mk X2) σ2) (28, [(0, .ref 19), (1, .ref 5)], [], mk X, σ)
      show Ex mr_X3_weigh sc (Cl MT pr sc (d + 4)) (rtE none (mk X2) σ2) (28, [(0, .ref 19), (1, .ref 5)], [], mk X, σ)
      exact lg_X3_weigh_28 d _ _ h
theorem lg_X3_fewestWalks_17 {pr : Ct} {sc : Nat × (Nat → Int32)} (d : Nat) {r : Int32} {X2 : En} {σ2 : St} (y0 : Int32) (X : En) (σ : St) (h : g_X3_fewestWalks_17 y0 X σ = some (r, X2, σ2)) : Ex mr_X3_fewestWalks sc (Cl MT pr sc (d + 0)) (rtE (some (.int r)) (mk X2) σ2) (17, [], [.int y0], mk X, σ) := by
  unfold g_X3_fewestWalks_17 at h
  refine Ex.blk 1 rfl ?_
  cases h
  exact And.intro trivial ⟨rfl, rfl, rfl⟩
theorem cg_X3_fewestWalks {pr : Ct} {sc : Nat × (Nat → Int32)} (d : Nat) {r : Int32} {X2 : En} {σ2 : St} {X : En} {σ : St} (h : g_X3_fewestWalks X σ = some (r, X2, σ2)) : Cl MT pr sc (d + 0 + 1) 41 [.ref 19] (mk X) σ (some (.int r)) (mk X2) σ2 := by
  unfold g_X3_fewestWalks at h
  obtain ⟨p, hp, h⟩ := bind_sp h
  obtain ⟨hz, h⟩ := gd_some h
  cases h
  refine cl_of2 mr_X3_fewestWalks rfl rfl hz ?_
  have h := hp
  clear hp
  unfold g_X3_fewestWalks_b at h
  refine Ex.blk 1 rfl ?_
  show Ex mr_X3_fewestWalks sc (Cl MT pr sc (d + 0)) (rtE (some (.int r)) (mk X2) σ2) (1, [(0, .ref 19)], [.ref 19], mk X, σ)
  rcases mR_sp h with ⟨hb2, h⟩ | ⟨b1, hb2, h⟩
  · refine ex_get rfl (by rfl) (congrArg orv hb2) ?_
    show Ex mr_X3_fewestWalks sc (Cl MT pr sc (d + 0)) (rtE (some (.int r)) (mk X2) σ2) (4, [(0, .ref 19)], [.null], mk X, σ)
    refine Ex.blk 1 rfl ?_
    show Ex mr_X3_fewestWalks sc (Cl MT pr sc (d + 0)) (rtE (some (.int r)) (mk X2) σ2) (7, [(0, .ref 19)], [], mk X, σ)
    refine Ex.blk 2 rfl ?_
    show Ex mr_X3_fewestWalks sc (Cl MT pr sc (d + 0)) (rtE (some (.int r)) (mk X2) σ2) (17, [(0, .ref 19)], [.int 0], mk X, σ)
    show Ex mr_X3_fewestWalks sc (Cl MT pr sc (d + 0)) (rtE (some (.int r)) (mk X2) σ2) (17, [(0, .ref 19)], [.int 0], mk X, σ)
    refine Ex.pick (lv' := _) [] rfl ?_
    exact lg_X3_fewestWalks_17 d _ _ _ h
  · refine ex_get rfl (by rfl) (congrArg orv hb2) ?_
    show Ex mr_X3_fewestWalks sc (Cl MT pr sc (d + 0)) (rtE (some (.int r)) (mk X2) σ2) (4, [(0, .ref 19)], [.ref b1], mk X, σ)
    obtain ⟨hk_b1_X, h⟩ := gd_some h
    refine Ex.blk 1 rfl ?_
    show Ex mr_X3_fewestWalks sc (Cl MT pr sc (d + 0)) (rtE (some (.int r)) (mk X2) σ2) (11, [(0, .ref 19)], [], mk X, σ)
    refine Ex.blk 1 rfl ?_
    show Ex mr_X3_fewestWalks sc (Cl MT pr sc (d + 0)) (rtE (some (.int r)) (mk X2) σ2) (12, [(0, .ref 19)], [.ref 19], mk X, σ)
    rcases mR_sp h with ⟨hb4, h⟩ | ⟨b3, hb4, h⟩
    · refine ex_get rfl (by rfl) (congrArg orv hb4) ?_
      show Ex mr_X3_fewestWalks sc (Cl MT pr sc (d + 0)) (rtE (some (.int r)) (mk X2) σ2) (15, [(0, .ref 19)], [.null], mk X, σ)
      cases h
    · refine ex_get rfl (by rfl) (congrArg orv hb4) ?_
      show Ex mr_X3_fewestWalks sc (Cl MT pr sc (d + 0)) (rtE (some (.int r)) (mk X2) σ2) (15, [(0, .ref 19)], [.ref b3], mk X, σ)
      obtain ⟨hk_b3_X, h⟩ := gd_some h
      refine Ex.blk 1 rfl ?_
      show Ex mr_X3_fewestWalks sc (Cl MT pr sc (d + 0)) (rtE (some (.int r)) (mk X2) σ2) (16, [(0, .ref 19)], [.int 0, .ref b3], mk X, σ)
      obtain ⟨g5, h⟩ := gd_some h
      refine ex_iald rfl hk_b3_X g5 ?_
      show Ex mr_X3_fewestWalks sc (Cl MT pr sc (d + 0)) (rtE (some (.int r)) (mk X2) σ2) (17, [(0, .ref 19)], [.int (gI σ b3 (0 : Int32).toNatClampNeg)], mk X, σ)
      show Ex mr_X3_fewestWalks sc (Cl MT pr sc (d + 0)) (rtE (some (.int r)) (mk X2) σ2) (17, [(0, .ref 19)], [.int (gI σ b3 (0 : Int32).toNatClampNeg)], mk X, σ)
      refine Ex.pick (lv' := _) [] rfl ?_
      exact lg_X3_fewestWalks_17 d _ _ _ h
theorem lg_X3_firstBehind_43 {pr : Ct} {sc : Nat × (Nat → Int32)} (d : Nat) {r : Int32} {X2 : En} {σ2 : St} (k2 : Int32 → Int32 → En → St → Option (Int32 × En × St)) (hk2 : ∀ (x2 : Int32) (x3 : Int32) (X : En) (σ : St), k2 x2 x3 X σ = some (r, X2, σ2) → Ex mr_X3_firstBehind sc (Cl MT pr sc (d + 4)) (rtE (some (.int r)) (mk X2) σ2) (2, [(0, .ref 19), (1, .ref 5), (2, .int x2), (3, .int x3)], [], mk X, σ)) (x2 : Int32) (x3 : Int32) (X : En) (σ : St) (h : g_X3_firstBehind_43 k2 x2 x3 X σ = some (r, X2, σ2)) : Ex mr_X3_firstBehind sc (Cl MT pr sc (d + 4)) (rtE (some (.int r)) (mk X2) σ2) (43, [(0, .ref 19), (1, .ref 5), (2, .int x2), (3, .int x3)], [], mk X, σ) := by
  unfold g_X3_firstBehind_43 at h
  refine Ex.blk 2 rfl ?_
  show Ex mr_X3_firstBehind sc (Cl MT pr sc (d + 4)) (rtE (some (.int r)) (mk X2) σ2) (2, [(3, .int (x3 + 1)), (0, .ref 19), (1, .ref 5), (2, .int x2)], [], mk X, σ)
  show Ex mr_X3_firstBehind sc (Cl MT pr sc (d + 4)) (rtE (some (.int r)) (mk X2) σ2) (2, [(3, .int (x3 + 1)), (0, .ref 19), (1, .ref 5), (2, .int x2)], [], mk X, σ)
  refine Ex.pick (lv' := _) [1, 2, 3, 0] rfl ?_
  exact hk2 _ _ _ _ h
theorem lg_X3_firstBehind_2 {pr : Ct} {sc : Nat × (Nat → Int32)} (d : Nat) {r : Int32} {X2 : En} {σ2 : St} : ∀ (n : Nat) (x2 : Int32) (x3 : Int32) (X : En) (σ : St), g_X3_firstBehind_2 n x2 x3 X σ = some (r, X2, σ2) → Ex mr_X3_firstBehind sc (Cl MT pr sc (d + 4)) (rtE (some (.int r)) (mk X2) σ2) (2, [(0, .ref 19), (1, .ref 5), (2, .int x2), (3, .int x3)], [], mk X, σ) := by
  intro n
  induction n with
  | zero =>
    intro x2 x3 X σ h
    cases h
  | succ n ih =>
    intro x2 x3 X σ h
    simp only [g_X3_firstBehind_2] at h
    refine Ex.blk 4 rfl ?_
    rcases ite_sp h with ⟨c10, h⟩ | ⟨c10, h⟩
    · refine And.intro (fun _ => ?_) (fun hn => absurd c10 hn)
      show Ex mr_X3_firstBehind sc (Cl MT pr sc (d + 4)) (rtE (some (.int r)) (mk X2) σ2) (49, [(0, .ref 19), (1, .ref 5), (2, .int x2), (3, .int x3)], [], mk X, σ)
      refine Ex.blk 2 rfl ?_
      cases h
      exact And.intro trivial ⟨rfl, rfl, rfl⟩
    · refine And.intro (fun hp => absurd hp c10) (fun _ => ?_)
      show Ex mr_X3_firstBehind sc (Cl MT pr sc (d + 4)) (rtE (some (.int r)) (mk X2) σ2) (10, [(0, .ref 19), (1, .ref 5), (2, .int x2), (3, .int x3)], [], mk X, σ)
      refine Ex.blk 2 rfl ?_
      show Ex mr_X3_firstBehind sc (Cl MT pr sc (d + 4)) (rtE (some (.int r)) (mk X2) σ2) (12, [(0, .ref 19), (1, .ref 5), (2, .int x2), (3, .int x3)], [.int x3, .int x2], mk X, σ)
      obtain ⟨p1, hp1, h⟩ := bind_sp h
      refine Ex.blk 1 rfl ?_
      refine Exists.intro (some (.int p1.1)) (Exists.intro (mk X) (Exists.intro p1.2 (And.intro (cl_X9_hasBit (d + 3) hp1) ?_)))
      show Ex mr_X3_firstBehind sc (Cl MT pr sc (d + 4)) (rtE (some (.int r)) (mk X2) σ2) (15, [(0, .ref 19), (1, .ref 5), (2, .int x2), (3, .int x3)], [.int p1.1], mk X, p1.2)
      refine Ex.blk 1 rfl ?_
      rcases ite_sp h with ⟨c9, h⟩ | ⟨c9, h⟩
      · refine And.intro (fun hp => absurd c9 hp) (fun _ => ?_)
        show Ex mr_X3_firstBehind sc (Cl MT pr sc (d + 4)) (rtE (some (.int r)) (mk X2) σ2) (18, [(0, .ref 19), (1, .ref 5), (2, .int x2), (3, .int x3)], [], mk X, p1.2)
        refine Ex.blk 1 rfl ?_
        show Ex mr_X3_firstBehind sc (Cl MT pr sc (d + 4)) (rtE (some (.int r)) (mk X2) σ2) (19, [(0, .ref 19), (1, .ref 5), (2, .int x2), (3, .int x3)], [.ref 19], mk X, p1.2)
        rcases mR_sp h with ⟨hb3, h⟩ | ⟨b2, hb3, h⟩
        · refine ex_get rfl (by rfl) (congrArg orv hb3) ?_
          show Ex mr_X3_firstBehind sc (Cl MT pr sc (d + 4)) (rtE (some (.int r)) (mk X2) σ2) (22, [(0, .ref 19), (1, .ref 5), (2, .int x2), (3, .int x3)], [.null], mk X, p1.2)
          refine Ex.blk 1 rfl ?_
          show Ex mr_X3_firstBehind sc (Cl MT pr sc (d + 4)) (rtE (some (.int r)) (mk X2) σ2) (43, [(0, .ref 19), (1, .ref 5), (2, .int x2), (3, .int x3)], [], mk X, p1.2)
          show Ex mr_X3_firstBehind sc (Cl MT pr sc (d + 4)) (rtE (some (.int r)) (mk X2) σ2) (43, [(0, .ref 19), (1, .ref 5), (2, .int x2), (3, .int x3)], [], mk X, p1.2)
          exact lg_X3_firstBehind_43 d _ ih _ _ _ _ h
        · refine ex_get rfl (by rfl) (congrArg orv hb3) ?_
          show Ex mr_X3_firstBehind sc (Cl MT pr sc (d + 4)) (rtE (some (.int r)) (mk X2) σ2) (22, [(0, .ref 19), (1, .ref 5), (2, .int x2), (3, .int x3)], [.ref b2], mk X, p1.2)
          obtain ⟨hk_b2_X, h⟩ := gd_some h
          refine Ex.blk 1 rfl ?_
          show Ex mr_X3_firstBehind sc (Cl MT pr sc (d + 4)) (rtE (some (.int r)) (mk X2) σ2) (25, [(0, .ref 19), (1, .ref 5), (2, .int x2), (3, .int x3)], [], mk X, p1.2)
          refine Ex.blk 4 rfl ?_
          show Ex mr_X3_firstBehind sc (Cl MT pr sc (d + 4)) (rtE (some (.int r)) (mk X2) σ2) (29, [(0, .ref 19), (1, .ref 5), (2, .int x2), (3, .int x3)], [.int x3, .int x2, .ref 5, .ref 19], mk X, p1.2)
          obtain ⟨p4, hp4, h⟩ := bind_sp h
          refine Ex.blk 1 rfl ?_
          refine Exists.intro (some (.int p4.1)) (Exists.intro (mk p4.2.1) (Exists.intro p4.2.2 (And.intro (cg_X3_walksBy (d + 0) hp4) ?_)))
          show Ex mr_X3_firstBehind sc (Cl MT pr sc (d + 4)) (rtE (some (.int r)) (mk X2) σ2) (32, [(0, .ref 19), (1, .ref 5), (2, .int x2), (3, .int x3)], [.int p4.1], mk p4.2.1, p4.2.2)
          refine Ex.blk 1 rfl ?_
          show Ex mr_X3_firstBehind sc (Cl MT pr sc (d + 4)) (rtE (some (.int r)) (mk X2) σ2) (33, [(0, .ref 19), (1, .ref 5), (2, .int x2), (3, .int x3)], [.ref 19, .int p4.1], mk p4.2.1, p4.2.2)
          rcases mR_sp h with ⟨hb6, h⟩ | ⟨b5, hb6, h⟩
          · refine ex_get rfl (by rfl) (congrArg orv hb6) ?_
            show Ex mr_X3_firstBehind sc (Cl MT pr sc (d + 4)) (rtE (some (.int r)) (mk X2) σ2) (36, [(0, .ref 19), (1, .ref 5), (2, .int x2), (3, .int x3)], [.null, .int p4.1], mk p4.2.1, p4.2.2)
            cases h
          · refine ex_get rfl (by rfl) (congrArg orv hb6) ?_
            show Ex mr_X3_firstBehind sc (Cl MT pr sc (d + 4)) (rtE (some (.int r)) (mk X2) σ2) (36, [(0, .ref 19), (1, .ref 5), (2, .int x2), (3, .int x3)], [.ref b5, .int p4.1], mk p4.2.1, p4.2.2)
            obtain ⟨hk_b5_p4_2_1, h⟩ := gd_some h
            refine Ex.blk 1 rfl ?_
            show Ex mr_X3_firstBehind sc (Cl MT pr sc (d + 4)) (rtE (some (.int r)) (mk X2) σ2) (37, [(0, .ref 19), (1, .ref 5), (2, .int x2), (3, .int x3)], [.int x2, .ref b5, .int p4.1], mk p4.2.1, p4.2.2)
            obtain ⟨g7, h⟩ := gd_some h
            refine ex_iald rfl hk_b5_p4_2_1 g7 ?_
            show Ex mr_X3_firstBehind sc (Cl MT pr sc (d + 4)) (rtE (some (.int r)) (mk X2) σ2) (38, [(0, .ref 19), (1, .ref 5), (2, .int x2), (3, .int x3)], [.int (gI p4.2.2 b5 x2.toNatClampNeg), .int p4.1], mk p4.2.1, p4.2.2)
            refine Ex.blk 1 rfl ?_
            rcases ite_sp h with ⟨c8, h⟩ | ⟨c8, h⟩
            · refine And.intro (fun hp => absurd c8 hp) (fun _ => ?_)
              show Ex mr_X3_firstBehind sc (Cl MT pr sc (d + 4)) (rtE (some (.int r)) (mk X2) σ2) (41, [(0, .ref 19), (1, .ref 5), (2, .int x2), (3, .int x3)], [], mk p4.2.1, p4.2.2)
              refine Ex.blk 2 rfl ?_
              cases h
              exact And.intro trivial ⟨rfl, rfl, rfl⟩
            · refine And.intro (fun _ => ?_) (fun hn => absurd c8 hn)
              show Ex mr_X3_firstBehind sc (Cl MT pr sc (d + 4)) (rtE (some (.int r)) (mk X2) σ2) (43, [(0, .ref 19), (1, .ref 5), (2, .int x2), (3, .int x3)], [], mk p4.2.1, p4.2.2)
              show Ex mr_X3_firstBehind sc (Cl MT pr sc (d + 4)) (rtE (some (.int r)) (mk X2) σ2) (43, [(0, .ref 19), (1, .ref 5), (2, .int x2), (3, .int x3)], [], mk p4.2.1, p4.2.2)
              exact lg_X3_firstBehind_43 d _ ih _ _ _ _ h
      · refine And.intro (fun _ => ?_) (fun hn => absurd c9 hn)
        show Ex mr_X3_firstBehind sc (Cl MT pr sc (d + 4)) (rtE (some (.int r)) (mk X2) σ2) (43, [(0, .ref 19), (1, .ref 5), (2, .int x2), (3, .int x3)], [], mk X, p1.2)
        show Ex mr_X3_firstBehind sc (Cl MT pr sc (d + 4)) (rtE (some (.int r)) (mk X2) σ2) (43, [(0, .ref 19), (1, .ref 5), (2, .int x2), (3, .int x3)], [], mk X, p1.2)
        exact lg_X3_firstBehind_43 d _ ih _ _ _ _ h
theorem cg_X3_firstBehind {pr : Ct} {sc : Nat × (Nat → Int32)} (d : Nat) {r : Int32} {X2 : En} {σ2 : St} {x2 : Int32} {X : En} {σ : St} (h : g_X3_firstBehind x2 X σ = some (r, X2, σ2)) : Cl MT pr sc (d + 4 + 1) 42 [.ref 19, .ref 5, .int x2] (mk X) σ (some (.int r)) (mk X2) σ2 := by
  unfold g_X3_firstBehind at h
  obtain ⟨p, hp, h⟩ := bind_sp h
  obtain ⟨hz, h⟩ := gd_some h
  cases h
  refine cl_of2 mr_X3_firstBehind rfl rfl hz ?_
  have h := hp
  clear hp
  unfold g_X3_firstBehind_b at h
  refine Ex.blk 2 rfl ?_
  show Ex mr_X3_firstBehind sc (Cl MT pr sc (d + 4)) (rtE (some (.int r)) (mk X2) σ2) (2, [(3, .int 0), (0, .ref 19), (1, .ref 5), (2, .int x2)], [], mk X, σ)
  show Ex mr_X3_firstBehind sc (Cl MT pr sc (d + 4)) (rtE (some (.int r)) (mk X2) σ2) (2, [(3, .int 0), (0, .ref 19), (1, .ref 5), (2, .int x2)], [], mk X, σ)
  refine Ex.pick (lv' := _) [1, 2, 3, 0] rfl ?_
  exact lg_X3_firstBehind_2 d FU _ _ _ _ h
theorem lg_X3_comesAt_52 {pr : Ct} {sc : Nat × (Nat → Int32)} (d : Nat) {r : Int32} {X2 : En} {σ2 : St} (x4 : Int32) (X : En) (σ : St) (h : g_X3_comesAt_52 x4 X σ = some (r, X2, σ2)) : Ex mr_X3_comesAt sc (Cl MT pr sc (d + 5)) (rtE (some (.int r)) (mk X2) σ2) (52, [(4, .int x4)], [], mk X, σ) := by
  unfold g_X3_comesAt_52 at h
  refine Ex.blk 2 rfl ?_
  cases h
  exact And.intro trivial ⟨rfl, rfl, rfl⟩
theorem lg_X3_comesAt_46 {pr : Ct} {sc : Nat × (Nat → Int32)} (d : Nat) {r : Int32} {X2 : En} {σ2 : St} (k8 : Int32 → Int32 → Int32 → Int32 → En → St → Option (Int32 × En × St)) (hk8 : ∀ (x2 : Int32) (x3 : Int32) (x4 : Int32) (x5 : Int32) (X : En) (σ : St), k8 x2 x3 x4 x5 X σ = some (r, X2, σ2) → Ex mr_X3_comesAt sc (Cl MT pr sc (d + 5)) (rtE (some (.int r)) (mk X2) σ2) (8, [(0, .ref 19), (1, .ref 5), (2, .int x2), (3, .int x3), (4, .int x4), (5, .int x5)], [], mk X, σ)) (x2 : Int32) (x3 : Int32) (x4 : Int32) (x5 : Int32) (X : En) (σ : St) (h : g_X3_comesAt_46 k8 x2 x3 x4 x5 X σ = some (r, X2, σ2)) : Ex mr_X3_comesAt sc (Cl MT pr sc (d + 5)) (rtE (some (.int r)) (mk X2) σ2) (46, [(0, .ref 19), (1, .ref 5), (2, .int x2), (3, .int x3), (4, .int x4), (5, .int x5)], [], mk X, σ) := by
  unfold g_X3_comesAt_46 at h
  refine Ex.blk 2 rfl ?_
  show Ex mr_X3_comesAt sc (Cl MT pr sc (d + 5)) (rtE (some (.int r)) (mk X2) σ2) (8, [(5, .int (x5 + 1)), (0, .ref 19), (1, .ref 5), (2, .int x2), (3, .int x3), (4, .int x4)], [], mk X, σ)
  show Ex mr_X3_comesAt sc (Cl MT pr sc (d + 5)) (rtE (some (.int r)) (mk X2) σ2) (8, [(5, .int (x5 + 1)), (0, .ref 19), (1, .ref 5), (2, .int x2), (3, .int x3), (4, .int x4)], [], mk X, σ)
  refine Ex.pick (lv' := _) [1, 2, 3, 4, 5, 0] rfl ?_
  exact hk8 _ _ _ _ _ _ h
theorem lg_X3_comesAt_8 {pr : Ct} {sc : Nat × (Nat → Int32)} (d : Nat) {r : Int32} {X2 : En} {σ2 : St} : ∀ (n : Nat) (x2 : Int32) (x3 : Int32) (x4 : Int32) (x5 : Int32) (X : En) (σ : St), g_X3_comesAt_8 n x2 x3 x4 x5 X σ = some (r, X2, σ2) → Ex mr_X3_comesAt sc (Cl MT pr sc (d + 5)) (rtE (some (.int r)) (mk X2) σ2) (8, [(0, .ref 19), (1, .ref 5), (2, .int x2), (3, .int x3), (4, .int x4), (5, .int x5)], [], mk X, σ) := by
  intro n
  induction n with
  | zero =>
    intro x2 x3 x4 x5 X σ h
    cases h
  | succ n ih =>
    intro x2 x3 x4 x5 X σ h
    simp only [g_X3_comesAt_8] at h
    refine Ex.blk 3 rfl ?_
    rcases ite_sp h with ⟨c4, h⟩ | ⟨c4, h⟩
    · refine And.intro (fun _ => ?_) (fun hn => absurd c4 hn)
      show Ex mr_X3_comesAt sc (Cl MT pr sc (d + 5)) (rtE (some (.int r)) (mk X2) σ2) (52, [(0, .ref 19), (1, .ref 5), (2, .int x2), (3, .int x3), (4, .int x4), (5, .int x5)], [], mk X, σ)
      show Ex mr_X3_comesAt sc (Cl MT pr sc (d + 5)) (rtE (some (.int r)) (mk X2) σ2) (52, [(0, .ref 19), (1, .ref 5), (2, .int x2), (3, .int x3), (4, .int x4), (5, .int x5)], [], mk X, σ)
      refine Ex.pick (lv' := _) [4] rfl ?_
      exact lg_X3_comesAt_52 d _ _ _ h
    · refine And.intro (fun hp => absurd hp c4) (fun _ => ?_)
      show Ex mr_X3_comesAt sc (Cl MT pr sc (d + 5)) (rtE (some (.int r)) (mk X2) σ2) (14, [(0, .ref 19), (1, .ref 5), (2, .int x2), (3, .int x3), (4, .int x4), (5, .int x5)], [], mk X, σ)
      refine Ex.blk 4 rfl ?_
      rcases ite_sp h with ⟨c3, h⟩ | ⟨c3, h⟩
      · refine And.intro (fun _ => ?_) (fun hn => absurd c3 hn)
        show Ex mr_X3_comesAt sc (Cl MT pr sc (d + 5)) (rtE (some (.int r)) (mk X2) σ2) (52, [(0, .ref 19), (1, .ref 5), (2, .int x2), (3, .int x3), (4, .int x4), (5, .int x5)], [], mk X, σ)
        show Ex mr_X3_comesAt sc (Cl MT pr sc (d + 5)) (rtE (some (.int r)) (mk X2) σ2) (52, [(0, .ref 19), (1, .ref 5), (2, .int x2), (3, .int x3), (4, .int x4), (5, .int x5)], [], mk X, σ)
        refine Ex.pick (lv' := _) [4] rfl ?_
        exact lg_X3_comesAt_52 d _ _ _ h
      · refine And.intro (fun hp => absurd hp c3) (fun _ => ?_)
        show Ex mr_X3_comesAt sc (Cl MT pr sc (d + 5)) (rtE (some (.int r)) (mk X2) σ2) (23, [(0, .ref 19), (1, .ref 5), (2, .int x2), (3, .int x3), (4, .int x4), (5, .int x5)], [], mk X, σ)
        refine Ex.blk 3 rfl ?_
        show Ex mr_X3_comesAt sc (Cl MT pr sc (d + 5)) (rtE (some (.int r)) (mk X2) σ2) (26, [(0, .ref 19), (1, .ref 5), (2, .int x2), (3, .int x3), (4, .int x4), (5, .int x5)], [.int x3, .ref 5, .ref 19], mk X, σ)
        obtain ⟨p1, hp1, h⟩ := bind_sp h
        refine Ex.blk 1 rfl ?_
        refine Exists.intro (some (.int p1.1)) (Exists.intro (mk p1.2.1) (Exists.intro p1.2.2 (And.intro (cg_X3_firstBehind (d + 0) hp1) ?_)))
        show Ex mr_X3_comesAt sc (Cl MT pr sc (d + 5)) (rtE (some (.int r)) (mk X2) σ2) (29, [(0, .ref 19), (1, .ref 5), (2, .int x2), (3, .int x3), (4, .int x4), (5, .int x5)], [.int p1.1], mk p1.2.1, p1.2.2)
        refine Ex.blk 4 rfl ?_
        rcases ite_sp h with ⟨c2, h⟩ | ⟨c2, h⟩
        · refine And.intro (fun hp => absurd c2 hp) (fun _ => ?_)
          show Ex mr_X3_comesAt sc (Cl MT pr sc (d + 5)) (rtE (some (.int r)) (mk X2) σ2) (37, [(4, .int p1.1), (0, .ref 19), (1, .ref 5), (2, .int x2), (3, .int x3), (5, .int x5)], [], mk p1.2.1, p1.2.2)
          refine Ex.blk 2 rfl ?_
          cases h
          exact And.intro trivial ⟨rfl, rfl, rfl⟩
        · refine And.intro (fun _ => ?_) (fun hn => absurd c2 hn)
          show Ex mr_X3_comesAt sc (Cl MT pr sc (d + 5)) (rtE (some (.int r)) (mk X2) σ2) (39, [(4, .int p1.1), (0, .ref 19), (1, .ref 5), (2, .int x2), (3, .int x3), (5, .int x5)], [], mk p1.2.1, p1.2.2)
          refine Ex.blk 5 rfl ?_
          show Ex mr_X3_comesAt sc (Cl MT pr sc (d + 5)) (rtE (some (.int r)) (mk X2) σ2) (45, [(4, .int p1.1), (0, .ref 19), (1, .ref 5), (2, .int x2), (3, .int x3), (5, .int x5)], [.int (x3 ||| (shlI 1 p1.1))], mk p1.2.1, p1.2.2)
          refine Ex.blk 1 rfl ?_
          show Ex mr_X3_comesAt sc (Cl MT pr sc (d + 5)) (rtE (some (.int r)) (mk X2) σ2) (46, [(3, .int (x3 ||| (shlI 1 p1.1))), (4, .int p1.1), (0, .ref 19), (1, .ref 5), (2, .int x2), (5, .int x5)], [], mk p1.2.1, p1.2.2)
          show Ex mr_X3_comesAt sc (Cl MT pr sc (d + 5)) (rtE (some (.int r)) (mk X2) σ2) (46, [(3, .int (x3 ||| (shlI 1 p1.1))), (4, .int p1.1), (0, .ref 19), (1, .ref 5), (2, .int x2), (5, .int x5)], [], mk p1.2.1, p1.2.2)
          refine Ex.pick (lv' := _) [2, 3, 4, 0, 1, 5] rfl ?_
          exact lg_X3_comesAt_46 d _ ih _ _ _ _ _ _ h
theorem cg_X3_comesAt {pr : Ct} {sc : Nat × (Nat → Int32)} (d : Nat) {r : Int32} {X2 : En} {σ2 : St} {x2 : Int32} {X : En} {σ : St} (h : g_X3_comesAt x2 X σ = some (r, X2, σ2)) : Cl MT pr sc (d + 5 + 1) 43 [.ref 19, .ref 5, .int x2] (mk X) σ (some (.int r)) (mk X2) σ2 := by
  unfold g_X3_comesAt at h
  obtain ⟨p, hp, h⟩ := bind_sp h
  obtain ⟨hz, h⟩ := gd_some h
  cases h
  refine cl_of2 mr_X3_comesAt rfl rfl hz ?_
  have h := hp
  clear hp
  unfold g_X3_comesAt_b at h
  refine Ex.blk 5 rfl ?_
  show Ex mr_X3_comesAt sc (Cl MT pr sc (d + 5)) (rtE (some (.int r)) (mk X2) σ2) (6, [(4, .int (-1)), (3, .int 0), (0, .ref 19), (1, .ref 5), (2, .int x2)], [.int 0], mk X, σ)
  refine Ex.blk 1 rfl ?_
  show Ex mr_X3_comesAt sc (Cl MT pr sc (d + 5)) (rtE (some (.int r)) (mk X2) σ2) (8, [(5, .int 0), (4, .int (-1)), (3, .int 0), (0, .ref 19), (1, .ref 5), (2, .int x2)], [], mk X, σ)
  show Ex mr_X3_comesAt sc (Cl MT pr sc (d + 5)) (rtE (some (.int r)) (mk X2) σ2) (8, [(5, .int 0), (4, .int (-1)), (3, .int 0), (0, .ref 19), (1, .ref 5), (2, .int x2)], [], mk X, σ)
  refine Ex.pick (lv' := _) [3, 4, 5, 2, 1, 0] rfl ?_
  exact lg_X3_comesAt_8 d FU _ _ _ _ _ _ h
theorem lg_X9_fewest_26 {pr : Ct} {sc : Nat × (Nat → Int32)} (d : Nat) {r : Int32} {X2 : En} {σ2 : St} (X : En) (σ : St) (h : g_X9_fewest_26 X σ = some (r, X2, σ2)) : Ex mr_X9_fewest sc (Cl MT pr sc (d + 6)) (rtE (some (.int r)) (mk X2) σ2) (26, [], [], mk X, σ) := by
  unfold g_X9_fewest_26 at h
  refine Ex.blk 2 rfl ?_
  cases h
  exact And.intro trivial ⟨rfl, rfl, rfl⟩
theorem lg_X9_fewest_99 {pr : Ct} {sc : Nat × (Nat → Int32)} (d : Nat) {r : Int32} {X2 : En} {σ2 : St} (y0 : Int32) (X : En) (σ : St) (h : g_X9_fewest_99 y0 X σ = some (r, X2, σ2)) : Ex mr_X9_fewest sc (Cl MT pr sc (d + 6)) (rtE (some (.int r)) (mk X2) σ2) (99, [], [.int y0], mk X, σ) := by
  unfold g_X9_fewest_99 at h
  refine Ex.blk 1 rfl ?_
  cases h
  exact And.intro trivial ⟨rfl, rfl, rfl⟩
theorem cg_X9_fewest {pr : Ct} {sc : Nat × (Nat → Int32)} (d : Nat) {r : Int32} {X2 : En} {σ2 : St} {x1 : Int32} {X : En} {σ : St} (h : g_X9_fewest x1 X σ = some (r, X2, σ2)) : Cl MT pr sc (d + 6 + 1) 117 [.ref 0, .int x1] (mk X) σ (some (.int r)) (mk X2) σ2 := by
  unfold g_X9_fewest at h
  obtain ⟨p, hp, h⟩ := bind_sp h
  obtain ⟨hz, h⟩ := gd_some h
  cases h
  refine cl_of2 mr_X9_fewest rfl rfl hz ?_
  have h := hp
  clear hp
  unfold g_X9_fewest_b at h
  refine Ex.blk 4 rfl ?_
  rcases ite_sp h with ⟨c10, h⟩ | ⟨c10, h⟩
  · refine And.intro (fun _ => ?_) (fun hn => absurd c10 hn)
    show Ex mr_X9_fewest sc (Cl MT pr sc (d + 6)) (rtE (some (.int r)) (mk X2) σ2) (26, [(0, .ref 0), (1, .int x1)], [], mk X, σ)
    show Ex mr_X9_fewest sc (Cl MT pr sc (d + 6)) (rtE (some (.int r)) (mk X2) σ2) (26, [(0, .ref 0), (1, .int x1)], [], mk X, σ)
    refine Ex.pick (lv' := _) [] rfl ?_
    exact lg_X9_fewest_26 d _ _ h
  · refine And.intro (fun hp => absurd hp c10) (fun _ => ?_)
    show Ex mr_X9_fewest sc (Cl MT pr sc (d + 6)) (rtE (some (.int r)) (mk X2) σ2) (10, [(0, .ref 0), (1, .int x1)], [], mk X, σ)
    refine Ex.blk 3 rfl ?_
    rcases ite_sp h with ⟨c9, h⟩ | ⟨c9, h⟩
    · refine And.intro (fun _ => ?_) (fun hn => absurd c9 hn)
      show Ex mr_X9_fewest sc (Cl MT pr sc (d + 6)) (rtE (some (.int r)) (mk X2) σ2) (26, [(0, .ref 0), (1, .int x1)], [], mk X, σ)
      show Ex mr_X9_fewest sc (Cl MT pr sc (d + 6)) (rtE (some (.int r)) (mk X2) σ2) (26, [(0, .ref 0), (1, .int x1)], [], mk X, σ)
      refine Ex.pick (lv' := _) [] rfl ?_
      exact lg_X9_fewest_26 d _ _ h
    · refine And.intro (fun hp => absurd hp c9) (fun _ => ?_)
      show Ex mr_X9_fewest sc (Cl MT pr sc (d + 6)) (rtE (some (.int r)) (mk X2) σ2) (15, [(0, .ref 0), (1, .int x1)], [], mk X, σ)
      refine Ex.blk 5 rfl ?_
      rcases ite_sp h with ⟨c8, h⟩ | ⟨c8, h⟩
      · refine And.intro (fun _ => ?_) (fun hn => absurd c8 hn)
        show Ex mr_X9_fewest sc (Cl MT pr sc (d + 6)) (rtE (some (.int r)) (mk X2) σ2) (29, [(0, .ref 0), (1, .int x1)], [], mk X, σ)
        refine Ex.blk 5 rfl ?_
        show Ex mr_X9_fewest sc (Cl MT pr sc (d + 6)) (rtE (some (.int r)) (mk X2) σ2) (40, [(0, .ref 0), (1, .int x1)], [.int (gI σ 1 0), .ref 5], mk X, σ)
        obtain ⟨p1, hp1, h⟩ := bind_sp h
        refine Ex.blk 1 rfl ?_
        refine Exists.intro none (Exists.intro (mk X) (Exists.intro p1 (And.intro (cl_X7_clear_5 (d + 4) hp1) ?_)))
        show Ex mr_X9_fewest sc (Cl MT pr sc (d + 6)) (rtE (some (.int r)) (mk X2) σ2) (43, [(0, .ref 0), (1, .int x1)], [], mk X, p1)
        refine Ex.blk 3 rfl ?_
        rcases ite_sp h with ⟨c7, h⟩ | ⟨c7, h⟩
        · refine And.intro (fun hp => absurd c7 hp) (fun _ => ?_)
          show Ex mr_X9_fewest sc (Cl MT pr sc (d + 6)) (rtE (some (.int r)) (mk X2) σ2) (48, [(0, .ref 0), (1, .int x1)], [], mk X, p1)
          refine Ex.blk 4 rfl ?_
          show Ex mr_X9_fewest sc (Cl MT pr sc (d + 6)) (rtE (some (.int r)) (mk X2) σ2) (56, [(0, .ref 0), (1, .int x1)], [.ref 5, .ref 19], mk X, p1)
          obtain ⟨p6, hp6, h⟩ := bind_sp h
          refine Ex.blk 1 rfl ?_
          refine Exists.intro (some (.int p6.1)) (Exists.intro (mk X) (Exists.intro p6.2 (And.intro (cl_X3_walksAsTold_5 (d + 2) hp6) ?_)))
          show Ex mr_X9_fewest sc (Cl MT pr sc (d + 6)) (rtE (some (.int r)) (mk X2) σ2) (59, [(0, .ref 0), (1, .int x1)], [.int p6.1], mk X, p6.2)
          refine Ex.blk 1 rfl ?_
          cases h
          exact And.intro trivial ⟨rfl, rfl, rfl⟩
        · refine And.intro (fun _ => ?_) (fun hn => absurd c7 hn)
          show Ex mr_X9_fewest sc (Cl MT pr sc (d + 6)) (rtE (some (.int r)) (mk X2) σ2) (60, [(0, .ref 0), (1, .int x1)], [], mk X, p1)
          refine Ex.blk 4 rfl ?_
          show Ex mr_X9_fewest sc (Cl MT pr sc (d + 6)) (rtE (some (.int r)) (mk X2) σ2) (68, [(0, .ref 0), (1, .int x1)], [.ref 5, .ref 19], mk X, p1)
          obtain ⟨p2, hp2, h⟩ := bind_sp h
          refine Ex.blk 1 rfl ?_
          refine Exists.intro none (Exists.intro (mk p2.1) (Exists.intro p2.2 (And.intro (cg_X3_weigh (d + 1) hp2) ?_)))
          show Ex mr_X9_fewest sc (Cl MT pr sc (d + 6)) (rtE (some (.int r)) (mk X2) σ2) (71, [(0, .ref 0), (1, .int x1)], [], mk p2.1, p2.2)
          refine Ex.blk 2 rfl ?_
          rcases ite_sp h with ⟨c5, h⟩ | ⟨c5, h⟩
          · refine And.intro (fun hp => absurd c5 hp) (fun _ => ?_)
            show Ex mr_X9_fewest sc (Cl MT pr sc (d + 6)) (rtE (some (.int r)) (mk X2) σ2) (75, [(0, .ref 0), (1, .int x1)], [], mk p2.1, p2.2)
            refine Ex.blk 2 rfl ?_
            show Ex mr_X9_fewest sc (Cl MT pr sc (d + 6)) (rtE (some (.int r)) (mk X2) σ2) (79, [(0, .ref 0), (1, .int x1)], [.ref 19], mk p2.1, p2.2)
            obtain ⟨p4, hp4, h⟩ := bind_sp h
            refine Ex.blk 1 rfl ?_
            refine Exists.intro (some (.int p4.1)) (Exists.intro (mk p4.2.1) (Exists.intro p4.2.2 (And.intro (cg_X3_fewestWalks (d + 5) hp4) ?_)))
            show Ex mr_X9_fewest sc (Cl MT pr sc (d + 6)) (rtE (some (.int r)) (mk X2) σ2) (82, [(0, .ref 0), (1, .int x1)], [.int p4.1], mk p4.2.1, p4.2.2)
            refine Ex.blk 1 rfl ?_
            show Ex mr_X9_fewest sc (Cl MT pr sc (d + 6)) (rtE (some (.int r)) (mk X2) σ2) (99, [(0, .ref 0), (1, .int x1)], [.int p4.1], mk p4.2.1, p4.2.2)
            show Ex mr_X9_fewest sc (Cl MT pr sc (d + 6)) (rtE (some (.int r)) (mk X2) σ2) (99, [(0, .ref 0), (1, .int x1)], [.int p4.1], mk p4.2.1, p4.2.2)
            refine Ex.pick (lv' := _) [] rfl ?_
            exact lg_X9_fewest_99 d _ _ _ h
          · refine And.intro (fun _ => ?_) (fun hn => absurd c5 hn)
            show Ex mr_X9_fewest sc (Cl MT pr sc (d + 6)) (rtE (some (.int r)) (mk X2) σ2) (85, [(0, .ref 0), (1, .int x1)], [], mk p2.1, p2.2)
            refine Ex.blk 5 rfl ?_
            show Ex mr_X9_fewest sc (Cl MT pr sc (d + 6)) (rtE (some (.int r)) (mk X2) σ2) (94, [(0, .ref 0), (1, .int x1)], [.int x1, .ref 5, .ref 19], mk p2.1, p2.2)
            refine Ex.blk 2 rfl ?_
            show Ex mr_X9_fewest sc (Cl MT pr sc (d + 6)) (rtE (some (.int r)) (mk X2) σ2) (96, [(0, .ref 0), (1, .int x1)], [.int (x1 - 1), .ref 5, .ref 19], mk p2.1, p2.2)
            obtain ⟨p3, hp3, h⟩ := bind_sp h
            refine Ex.blk 1 rfl ?_
            refine Exists.intro (some (.int p3.1)) (Exists.intro (mk p3.2.1) (Exists.intro p3.2.2 (And.intro (cg_X3_comesAt (d + 0) hp3) ?_)))
            show Ex mr_X9_fewest sc (Cl MT pr sc (d + 6)) (rtE (some (.int r)) (mk X2) σ2) (99, [(0, .ref 0), (1, .int x1)], [.int p3.1], mk p3.2.1, p3.2.2)
            show Ex mr_X9_fewest sc (Cl MT pr sc (d + 6)) (rtE (some (.int r)) (mk X2) σ2) (99, [(0, .ref 0), (1, .int x1)], [.int p3.1], mk p3.2.1, p3.2.2)
            refine Ex.pick (lv' := _) [] rfl ?_
            exact lg_X9_fewest_99 d _ _ _ h
      · refine And.intro (fun hp => absurd hp c8) (fun _ => ?_)
        show Ex mr_X9_fewest sc (Cl MT pr sc (d + 6)) (rtE (some (.int r)) (mk X2) σ2) (26, [(0, .ref 0), (1, .int x1)], [], mk X, σ)
        show Ex mr_X9_fewest sc (Cl MT pr sc (d + 6)) (rtE (some (.int r)) (mk X2) σ2) (26, [(0, .ref 0), (1, .int x1)], [], mk X, σ)
        refine Ex.pick (lv' := _) [] rfl ?_
        exact lg_X9_fewest_26 d _ _ h
theorem cg_X8_init {pr : Ct} {sc : Nat × (Nat → Int32)} (d : Nat)  {X2 : En} {σ2 : St} {o : Nat} {X : En} {σ : St} (h : g_X8_init o X σ = some (X2, σ2)) : Cl MT pr sc (d + 0 + 1) 74 [.ref o] (mk X) σ none (mk X2) σ2 := by
  unfold g_X8_init at h
  obtain ⟨p, hp, h⟩ := bind_sp h
  obtain ⟨hz, h⟩ := gd_some h
  cases h
  refine cl_of2 mr_X8_init rfl rfl hz ?_
  have h := hp
  clear hp
  unfold g_X8_init_b at h
  obtain ⟨hk_o_X, h⟩ := gd_some h
  refine Ex.blk 4 rfl ?_
  show Ex mr_X8_init sc (Cl MT pr sc (d + 0)) (rtE none (mk X2) σ2) (6, [(0, .ref o)], [.int 5, .ref o], mk X, σ)
  obtain ⟨g18, h⟩ := gd_some h
  obtain ⟨t1, Y2, τ3, he4, h⟩ := mkA_sp h
  refine ex_nwaX rfl (by decide) g18 he4 ?_
  show Ex mr_X8_init sc (Cl MT pr sc (d + 0)) (rtE none (mk X2) σ2) (8, [(0, .ref o)], [.ref t1, .ref o], mk Y2, τ3)
  obtain ⟨hk_o_Y2, h⟩ := gd_some h
  obtain ⟨hk_t1_Y2, h⟩ := gd_some h
  obtain ⟨g16, h⟩ := gd_some h
  obtain ⟨Y5, he6, h⟩ := ptS_sp h
  refine ex_putSX rfl hk_o_Y2 rfl g16 he6 ?_
  show Ex mr_X8_init sc (Cl MT pr sc (d + 0)) (rtE none (mk X2) σ2) (11, [(0, .ref o)], [], mk Y5, τ3)
  obtain ⟨hk_o_Y5, h⟩ := gd_some h
  refine Ex.blk 2 rfl ?_
  show Ex mr_X8_init sc (Cl MT pr sc (d + 0)) (rtE none (mk X2) σ2) (15, [(0, .ref o)], [.int 594, .ref o], mk Y5, τ3)
  obtain ⟨g15, h⟩ := gd_some h
  obtain ⟨t7, Y8, τ9, he10, h⟩ := mkA_sp h
  refine ex_nwaX rfl (by decide) g15 he10 ?_
  show Ex mr_X8_init sc (Cl MT pr sc (d + 0)) (rtE none (mk X2) σ2) (17, [(0, .ref o)], [.ref t7, .ref o], mk Y8, τ9)
  obtain ⟨hk_o_Y8, h⟩ := gd_some h
  obtain ⟨hk_t7_Y8, h⟩ := gd_some h
  obtain ⟨g13, h⟩ := gd_some h
  obtain ⟨Y11, he12, h⟩ := ptS_sp h
  refine ex_putSX rfl hk_o_Y8 rfl g13 he12 ?_
  show Ex mr_X8_init sc (Cl MT pr sc (d + 0)) (rtE none (mk X2) σ2) (20, [(0, .ref o)], [], mk Y11, τ9)
  obtain ⟨hk_o_Y11, h⟩ := gd_some h
  refine Ex.blk 2 rfl ?_
  show Ex mr_X8_init sc (Cl MT pr sc (d + 0)) (rtE none (mk X2) σ2) (22, [(0, .ref o)], [.int 1, .ref o], mk Y11, τ9)
  refine ex_putI rfl hk_o_Y11 rfl ?_
  show Ex mr_X8_init sc (Cl MT pr sc (d + 0)) (rtE none (mk X2) σ2) (25, [(0, .ref o)], [], mk Y11, (sI τ9 o 3 1))
  refine Ex.blk 1 rfl ?_
  cases h
  exact And.intro trivial ⟨rfl, rfl, rfl⟩
theorem cg_X8_restOf {pr : Ct} {sc : Nat × (Nat → Int32)} (d : Nat) {r : Int32} {X2 : En} {σ2 : St} {o : Nat} {x1 : Int64} {X : En} {σ : St} (h : g_X8_restOf o x1 X σ = some (r, X2, σ2)) : Cl MT pr sc (d + 1 + 1) 76 [.ref o, .long x1] (mk X) σ (some (.int r)) (mk X2) σ2 := by
  unfold g_X8_restOf at h
  obtain ⟨p, hp, h⟩ := bind_sp h
  obtain ⟨hz, h⟩ := gd_some h
  cases h
  refine cl_of2 mr_X8_restOf rfl rfl hz ?_
  have h := hp
  clear hp
  unfold g_X8_restOf_b at h
  obtain ⟨hk_o_X, h⟩ := gd_some h
  refine Ex.blk 2 rfl ?_
  show Ex mr_X8_restOf sc (Cl MT pr sc (d + 1)) (rtE (some (.int r)) (mk X2) σ2) (2, [(0, .ref o), (1, .long x1)], [.ref o, .long x1], mk X, σ)
  refine ex_get rfl hk_o_X rfl ?_
  show Ex mr_X8_restOf sc (Cl MT pr sc (d + 1)) (rtE (some (.int r)) (mk X2) σ2) (5, [(0, .ref o), (1, .long x1)], [.int (gI σ o 3), .long x1], mk X, σ)
  refine Ex.blk 1 rfl ?_
  show Ex mr_X8_restOf sc (Cl MT pr sc (d + 1)) (rtE (some (.int r)) (mk X2) σ2) (6, [(0, .ref o), (1, .long x1)], [.long ((gI σ o 3).toInt64), .long x1], mk X, σ)
  obtain ⟨p1, hp1, h⟩ := bind_sp h
  refine Ex.blk 1 rfl ?_
  refine Exists.intro (some (.long p1.1)) (Exists.intro (mk X) (Exists.intro p1.2 (And.intro (cl_J9_floorMod_f86c9 (d + 0) hp1) ?_)))
  show Ex mr_X8_restOf sc (Cl MT pr sc (d + 1)) (rtE (some (.int r)) (mk X2) σ2) (9, [(0, .ref o), (1, .long x1)], [.long p1.1], mk X, p1.2)
  refine Ex.blk 2 rfl ?_
  cases h
  exact And.intro trivial ⟨rfl, rfl, rfl⟩
theorem lg_X8_countWays_121 {pr : Ct} {sc : Nat × (Nat → Int32)} (d : Nat) (o : Nat)  {X2 : En} {σ2 : St} (k17 : Int32 → En → St → Option (En × St)) (k27 : Int32 → Int32 → En → St → Option (En × St)) (k54 : Int32 → Int32 → Int32 → Int32 → En → St → Option (En × St)) (hk17 : ∀ (x1 : Int32) (X : En) (σ : St), k17 x1 X σ = some (X2, σ2) → Ex mr_X8_countWays sc (Cl MT pr sc (d + 2)) (rtE none (mk X2) σ2) (17, [(0, .ref o), (1, .int x1)], [], mk X, σ)) (hk27 : ∀ (x1 : Int32) (x2 : Int32) (X : En) (σ : St), k27 x1 x2 X σ = some (X2, σ2) → Ex mr_X8_countWays sc (Cl MT pr sc (d + 2)) (rtE none (mk X2) σ2) (27, [(0, .ref o), (1, .int x1), (2, .int x2)], [], mk X, σ)) (hk54 : ∀ (x1 : Int32) (x2 : Int32) (x3 : Int32) (x4 : Int32) (X : En) (σ : St), k54 x1 x2 x3 x4 X σ = some (X2, σ2) → Ex mr_X8_countWays sc (Cl MT pr sc (d + 2)) (rtE none (mk X2) σ2) (54, [(0, .ref o), (1, .int x1), (2, .int x2), (3, .int x3), (4, .int x4)], [], mk X, σ)) (x1 : Int32) (x2 : Int32) (x3 : Int32) (x4 : Int32) (X : En) (σ : St) (h : g_X8_countWays_121 o k17 k27 k54 x1 x2 x3 x4 X σ = some (X2, σ2)) : Ex mr_X8_countWays sc (Cl MT pr sc (d + 2)) (rtE none (mk X2) σ2) (121, [(0, .ref o), (1, .int x1), (2, .int x2), (3, .int x3), (4, .int x4)], [], mk X, σ) := by
  unfold g_X8_countWays_121 at h
  obtain ⟨hk_o_X, h⟩ := gd_some h
  refine Ex.blk 2 rfl ?_
  show Ex mr_X8_countWays sc (Cl MT pr sc (d + 2)) (rtE none (mk X2) σ2) (54, [(4, .int (x4 + 1)), (0, .ref o), (1, .int x1), (2, .int x2), (3, .int x3)], [], mk X, σ)
  show Ex mr_X8_countWays sc (Cl MT pr sc (d + 2)) (rtE none (mk X2) σ2) (54, [(4, .int (x4 + 1)), (0, .ref o), (1, .int x1), (2, .int x2), (3, .int x3)], [], mk X, σ)
  refine Ex.pick (lv' := _) [1, 2, 3, 4, 0] rfl ?_
  exact hk54 _ _ _ _ _ _ h
theorem lg_X8_countWays_90 {pr : Ct} {sc : Nat × (Nat → Int32)} (d : Nat) (o : Nat)  {X2 : En} {σ2 : St} (k17 : Int32 → En → St → Option (En × St)) (k27 : Int32 → Int32 → En → St → Option (En × St)) (k54 : Int32 → Int32 → Int32 → Int32 → En → St → Option (En × St)) (hk17 : ∀ (x1 : Int32) (X : En) (σ : St), k17 x1 X σ = some (X2, σ2) → Ex mr_X8_countWays sc (Cl MT pr sc (d + 2)) (rtE none (mk X2) σ2) (17, [(0, .ref o), (1, .int x1)], [], mk X, σ)) (hk27 : ∀ (x1 : Int32) (x2 : Int32) (X : En) (σ : St), k27 x1 x2 X σ = some (X2, σ2) → Ex mr_X8_countWays sc (Cl MT pr sc (d + 2)) (rtE none (mk X2) σ2) (27, [(0, .ref o), (1, .int x1), (2, .int x2)], [], mk X, σ)) (hk54 : ∀ (x1 : Int32) (x2 : Int32) (x3 : Int32) (x4 : Int32) (X : En) (σ : St), k54 x1 x2 x3 x4 X σ = some (X2, σ2) → Ex mr_X8_countWays sc (Cl MT pr sc (d + 2)) (rtE none (mk X2) σ2) (54, [(0, .ref o), (1, .int x1), (2, .int x2), (3, .int x3), (4, .int x4)], [], mk X, σ)) (x1 : Int32) (x2 : Int32) (x3 : Int32) (x4 : Int32) (y0 : Int32) (X : En) (σ : St) (h : g_X8_countWays_90 o k17 k27 k54 x1 x2 x3 x4 y0 X σ = some (X2, σ2)) : Ex mr_X8_countWays sc (Cl MT pr sc (d + 2)) (rtE none (mk X2) σ2) (90, [(0, .ref o), (1, .int x1), (2, .int x2), (3, .int x3), (4, .int x4)], [.int y0], mk X, σ) := by
  unfold g_X8_countWays_90 at h
  obtain ⟨hk_o_X, h⟩ := gd_some h
  refine Ex.blk 2 rfl ?_
  show Ex mr_X8_countWays sc (Cl MT pr sc (d + 2)) (rtE none (mk X2) σ2) (93, [(5, .int y0), (0, .ref o), (1, .int x1), (2, .int x2), (3, .int x3), (4, .int x4)], [.ref o], mk X, σ)
  obtain ⟨b12, hb13, h⟩ := bind_sp h
  refine ex_get rfl hk_o_X (congrArg orv hb13) ?_
  show Ex mr_X8_countWays sc (Cl MT pr sc (d + 2)) (rtE none (mk X2) σ2) (96, [(5, .int y0), (0, .ref o), (1, .int x1), (2, .int x2), (3, .int x3), (4, .int x4)], [.ref b12], mk X, σ)
  obtain ⟨hk_b12_X, h⟩ := gd_some h
  refine Ex.blk 5 rfl ?_
  show Ex mr_X8_countWays sc (Cl MT pr sc (d + 2)) (rtE none (mk X2) σ2) (102, [(5, .int y0), (0, .ref o), (1, .int x1), (2, .int x2), (3, .int x3), (4, .int x4)], [.int ((x1 + 1) * 99), .ref b12], mk X, σ)
  refine Ex.blk 3 rfl ?_
  show Ex mr_X8_countWays sc (Cl MT pr sc (d + 2)) (rtE none (mk X2) σ2) (106, [(5, .int y0), (0, .ref o), (1, .int x1), (2, .int x2), (3, .int x3), (4, .int x4)], [.int (((x1 + 1) * 99) + y0), .ref b12, .int (((x1 + 1) * 99) + y0), .ref b12], mk X, σ)
  obtain ⟨g14, h⟩ := gd_some h
  refine ex_iald rfl hk_b12_X g14 ?_
  show Ex mr_X8_countWays sc (Cl MT pr sc (d + 2)) (rtE none (mk X2) σ2) (107, [(5, .int y0), (0, .ref o), (1, .int x1), (2, .int x2), (3, .int x3), (4, .int x4)], [.int (gI σ b12 (((x1 + 1) * 99) + y0).toNatClampNeg), .int (((x1 + 1) * 99) + y0), .ref b12], mk X, σ)
  refine Ex.blk 1 rfl ?_
  show Ex mr_X8_countWays sc (Cl MT pr sc (d + 2)) (rtE none (mk X2) σ2) (108, [(5, .int y0), (0, .ref o), (1, .int x1), (2, .int x2), (3, .int x3), (4, .int x4)], [.ref o, .int (gI σ b12 (((x1 + 1) * 99) + y0).toNatClampNeg), .int (((x1 + 1) * 99) + y0), .ref b12], mk X, σ)
  obtain ⟨b15, hb16, h⟩ := bind_sp h
  refine ex_get rfl hk_o_X (congrArg orv hb16) ?_
  show Ex mr_X8_countWays sc (Cl MT pr sc (d + 2)) (rtE none (mk X2) σ2) (111, [(5, .int y0), (0, .ref o), (1, .int x1), (2, .int x2), (3, .int x3), (4, .int x4)], [.ref b15, .int (gI σ b12 (((x1 + 1) * 99) + y0).toNatClampNeg), .int (((x1 + 1) * 99) + y0), .ref b12], mk X, σ)
  obtain ⟨hk_b15_X, h⟩ := gd_some h
  refine Ex.blk 5 rfl ?_
  show Ex mr_X8_countWays sc (Cl MT pr sc (d + 2)) (rtE none (mk X2) σ2) (118, [(5, .int y0), (0, .ref o), (1, .int x1), (2, .int x2), (3, .int x3), (4, .int x4)], [.int ((x1 * 99) + x4), .ref b15, .int (gI σ b12 (((x1 + 1) * 99) + y0).toNatClampNeg), .int (((x1 + 1) * 99) + y0), .ref b12], mk X, σ)
  obtain ⟨g17, h⟩ := gd_some h
  refine ex_iald rfl hk_b15_X g17 ?_
  show Ex mr_X8_countWays sc (Cl MT pr sc (d + 2)) (rtE none (mk X2) σ2) (119, [(5, .int y0), (0, .ref o), (1, .int x1), (2, .int x2), (3, .int x3), (4, .int x4)], [.int (gI σ b15 ((x1 * 99) + x4).toNatClampNeg), .int (gI σ b12 (((x1 + 1) * 99) + y0).toNatClampNeg), .int (((x1 + 1) * 99) + y0), .ref b12], mk X, σ)
  refine Ex.blk 1 rfl ?_
  show Ex mr_X8_countWays sc (Cl MT pr sc (d + 2)) (rtE none (mk X2) σ2) (120, [(5, .int y0), (0, .ref o), (1, .int x1), (2, .int x2), (3, .int x3), (4, .int x4)], [.int ((gI σ b12 (((x1 + 1) * 99) + y0).toNatClampNeg) + (gI σ b15 ((x1 * 99) + x4).toNatClampNeg)), .int (((x1 + 1) * 99) + y0), .ref b12], mk X, σ)
  obtain ⟨g18, h⟩ := gd_some h
  refine ex_iast rfl hk_b12_X g18 ?_
  show Ex mr_X8_countWays sc (Cl MT pr sc (d + 2)) (rtE none (mk X2) σ2) (121, [(5, .int y0), (0, .ref o), (1, .int x1), (2, .int x2), (3, .int x3), (4, .int x4)], [], mk X, (sI σ b12 (((x1 + 1) * 99) + y0).toNatClampNeg ((gI σ b12 (((x1 + 1) * 99) + y0).toNatClampNeg) + (gI σ b15 ((x1 * 99) + x4).toNatClampNeg))))
  refine Ex.pick (lv' := _) [1, 2, 3, 4, 5] rfl ?_
  exact lg_X8_countWays_121 d o _ _ _ hk17 hk27 hk54 _ _ _ _ _ _ h
theorem lg_X8_countWays_54 {pr : Ct} {sc : Nat × (Nat → Int32)} (d : Nat) (o : Nat)  {X2 : En} {σ2 : St} (k17 : Int32 → En → St → Option (En × St)) (k27 : Int32 → Int32 → En → St → Option (En × St)) (hk17 : ∀ (x1 : Int32) (X : En) (σ : St), k17 x1 X σ = some (X2, σ2) → Ex mr_X8_countWays sc (Cl MT pr sc (d + 2)) (rtE none (mk X2) σ2) (17, [(0, .ref o), (1, .int x1)], [], mk X, σ)) (hk27 : ∀ (x1 : Int32) (x2 : Int32) (X : En) (σ : St), k27 x1 x2 X σ = some (X2, σ2) → Ex mr_X8_countWays sc (Cl MT pr sc (d + 2)) (rtE none (mk X2) σ2) (27, [(0, .ref o), (1, .int x1), (2, .int x2)], [], mk X, σ)) : ∀ (n : Nat) (x1 : Int32) (x2 : Int32) (x3 : Int32) (x4 : Int32) (X : En) (σ : St), g_X8_countWays_54 o k17 k27 n x1 x2 x3 x4 X σ = some (X2, σ2) → Ex mr_X8_countWays sc (Cl MT pr sc (d + 2)) (rtE none (mk X2) σ2) (54, [(0, .ref o), (1, .int x1), (2, .int x2), (3, .int x3), (4, .int x4)], [], mk X, σ) := by
  intro n
  induction n with
  | zero =>
    intro x1 x2 x3 x4 X σ h
    cases h
  | succ n ih =>
    intro x1 x2 x3 x4 X σ h
    simp only [g_X8_countWays_54] at h
    obtain ⟨hk_o_X, h⟩ := gd_some h
    refine Ex.blk 2 rfl ?_
    show Ex mr_X8_countWays sc (Cl MT pr sc (d + 2)) (rtE none (mk X2) σ2) (57, [(0, .ref o), (1, .int x1), (2, .int x2), (3, .int x3), (4, .int x4)], [.ref o, .int x4], mk X, σ)
    refine ex_get rfl hk_o_X rfl ?_
    show Ex mr_X8_countWays sc (Cl MT pr sc (d + 2)) (rtE none (mk X2) σ2) (60, [(0, .ref o), (1, .int x1), (2, .int x2), (3, .int x3), (4, .int x4)], [.int (gI σ o 3), .int x4], mk X, σ)
    refine Ex.blk 1 rfl ?_
    rcases ite_sp h with ⟨c20, h⟩ | ⟨c20, h⟩
    · refine And.intro (fun _ => ?_) (fun hn => absurd c20 hn)
      show Ex mr_X8_countWays sc (Cl MT pr sc (d + 2)) (rtE none (mk X2) σ2) (127, [(0, .ref o), (1, .int x1), (2, .int x2), (3, .int x3), (4, .int x4)], [], mk X, σ)
      refine Ex.blk 2 rfl ?_
      show Ex mr_X8_countWays sc (Cl MT pr sc (d + 2)) (rtE none (mk X2) σ2) (27, [(2, .int (x2 + 1)), (0, .ref o), (1, .int x1), (3, .int x3), (4, .int x4)], [], mk X, σ)
      show Ex mr_X8_countWays sc (Cl MT pr sc (d + 2)) (rtE none (mk X2) σ2) (27, [(2, .int (x2 + 1)), (0, .ref o), (1, .int x1), (3, .int x3), (4, .int x4)], [], mk X, σ)
      refine Ex.pick (lv' := _) [1, 2, 0] rfl ?_
      exact hk27 _ _ _ _ h
    · refine And.intro (fun hp => absurd hp c20) (fun _ => ?_)
      show Ex mr_X8_countWays sc (Cl MT pr sc (d + 2)) (rtE none (mk X2) σ2) (63, [(0, .ref o), (1, .int x1), (2, .int x2), (3, .int x3), (4, .int x4)], [], mk X, σ)
      refine Ex.blk 4 rfl ?_
      show Ex mr_X8_countWays sc (Cl MT pr sc (d + 2)) (rtE none (mk X2) σ2) (68, [(0, .ref o), (1, .int x1), (2, .int x2), (3, .int x3), (4, .int x4)], [.ref o, .int (x4 + x3)], mk X, σ)
      refine ex_get rfl hk_o_X rfl ?_
      show Ex mr_X8_countWays sc (Cl MT pr sc (d + 2)) (rtE none (mk X2) σ2) (71, [(0, .ref o), (1, .int x1), (2, .int x2), (3, .int x3), (4, .int x4)], [.int (gI σ o 3), .int (x4 + x3)], mk X, σ)
      refine Ex.blk 1 rfl ?_
      rcases ite_sp h with ⟨c19, h⟩ | ⟨c19, h⟩
      · refine And.intro (fun _ => ?_) (fun hn => absurd c19 hn)
        show Ex mr_X8_countWays sc (Cl MT pr sc (d + 2)) (rtE none (mk X2) σ2) (81, [(0, .ref o), (1, .int x1), (2, .int x2), (3, .int x3), (4, .int x4)], [], mk X, σ)
        refine Ex.blk 4 rfl ?_
        show Ex mr_X8_countWays sc (Cl MT pr sc (d + 2)) (rtE none (mk X2) σ2) (86, [(0, .ref o), (1, .int x1), (2, .int x2), (3, .int x3), (4, .int x4)], [.ref o, .int (x4 + x3)], mk X, σ)
        refine ex_get rfl hk_o_X rfl ?_
        show Ex mr_X8_countWays sc (Cl MT pr sc (d + 2)) (rtE none (mk X2) σ2) (89, [(0, .ref o), (1, .int x1), (2, .int x2), (3, .int x3), (4, .int x4)], [.int (gI σ o 3), .int (x4 + x3)], mk X, σ)
        refine Ex.blk 1 rfl ?_
        show Ex mr_X8_countWays sc (Cl MT pr sc (d + 2)) (rtE none (mk X2) σ2) (90, [(0, .ref o), (1, .int x1), (2, .int x2), (3, .int x3), (4, .int x4)], [.int ((x4 + x3) - (gI σ o 3))], mk X, σ)
        show Ex mr_X8_countWays sc (Cl MT pr sc (d + 2)) (rtE none (mk X2) σ2) (90, [(0, .ref o), (1, .int x1), (2, .int x2), (3, .int x3), (4, .int x4)], [.int ((x4 + x3) - (gI σ o 3))], mk X, σ)
        exact lg_X8_countWays_90 d o _ _ _ hk17 hk27 ih _ _ _ _ _ _ _ h
      · refine And.intro (fun hp => absurd hp c19) (fun _ => ?_)
        show Ex mr_X8_countWays sc (Cl MT pr sc (d + 2)) (rtE none (mk X2) σ2) (74, [(0, .ref o), (1, .int x1), (2, .int x2), (3, .int x3), (4, .int x4)], [], mk X, σ)
        refine Ex.blk 4 rfl ?_
        show Ex mr_X8_countWays sc (Cl MT pr sc (d + 2)) (rtE none (mk X2) σ2) (90, [(0, .ref o), (1, .int x1), (2, .int x2), (3, .int x3), (4, .int x4)], [.int (x4 + x3)], mk X, σ)
        show Ex mr_X8_countWays sc (Cl MT pr sc (d + 2)) (rtE none (mk X2) σ2) (90, [(0, .ref o), (1, .int x1), (2, .int x2), (3, .int x3), (4, .int x4)], [.int (x4 + x3)], mk X, σ)
        exact lg_X8_countWays_90 d o _ _ _ hk17 hk27 ih _ _ _ _ _ _ _ h
