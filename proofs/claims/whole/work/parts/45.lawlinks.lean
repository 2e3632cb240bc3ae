theorem lg_L_1652 {pr : Ct} (sc : Nat × (Nat → Int32)) (hsc : sc.1 ≤ 3073) (hpr : ∀ (c : Int32) (E : En) (σ : St) (d : Nat), Cl MT pr sc (d + 9) 51 [.ref LN, .int c] E σ (some (.int (ixo c))) E σ) {r : Int32} {X2 : En} {σ2 : St} (k33 : Int32 → En → St → Option (Int32 × En × St)) (hk33 : ∀ (x4 : Int32) (X : En) (σ : St), k33 x4 X σ = some (r, X2, σ2) → ExL pr sc (rtE (some (.int r)) (mk X2) σ2) (33, [(0, .ref SN), (1, .ref 0), (2, .ref 38), (3, .ref 71), (4, .int x4)], [], mk X, σ)) (x4 : Int32) (X : En) (σ : St) (h : g_L_1652 sc k33 x4 X σ = some (r, X2, σ2)) : ExL pr sc (rtE (some (.int r)) (mk X2) σ2) (1652, [(0, .ref SN), (1, .ref 0), (2, .ref 38), (3, .ref 71), (4, .int x4)], [], mk X, σ) := by
  unfold g_L_1652 at h
  refine ExL.blk 5 rfl ?_
  show ExL pr sc (rtE (some (.int r)) (mk X2) σ2) (1658, [(0, .ref SN), (1, .ref 0), (2, .ref 38), (3, .ref 71), (4, .int x4)], [.int (x4 + 1), .ref SN, .ref 0], mk X, σ)
  obtain ⟨g300, h⟩ := gd_some h
  refine ExL.blk 1 rfl ?_
  refine And.intro (inb_ok g300) ?_
  show ExL pr sc (rtE (some (.int r)) (mk X2) σ2) (1659, [(0, .ref SN), (1, .ref 0), (2, .ref 38), (3, .ref 71), (4, .int x4)], [.int (sc.2 (x4 + 1).toNatClampNeg), .ref 0], mk X, σ)
  obtain ⟨p301, hp301, h⟩ := bind_sp h
  refine ExL.blk 1 rfl ?_
  refine Exists.intro (some (.int p301.1)) (Exists.intro (mk p301.2.1) (Exists.intro p301.2.2 (And.intro (cg_X9_herd 54 hp301) ?_)))
  show ExL pr sc (rtE (some (.int r)) (mk X2) σ2) (1662, [(0, .ref SN), (1, .ref 0), (2, .ref 38), (3, .ref 71), (4, .int x4)], [.int p301.1], mk p301.2.1, p301.2.2)
  refine ExL.blk 5 rfl ?_
  show ExL pr sc (rtE (some (.int r)) (mk X2) σ2) (1668, [(0, .ref SN), (1, .ref 0), (2, .ref 38), (3, .ref 71), (4, .int x4)], [.int (x4 + 1), .ref SN, .ref 38, .int p301.1], mk p301.2.1, p301.2.2)
  obtain ⟨g302, h⟩ := gd_some h
  refine ExL.blk 1 rfl ?_
  refine And.intro (inb_ok g302) ?_
  show ExL pr sc (rtE (some (.int r)) (mk X2) σ2) (1669, [(0, .ref SN), (1, .ref 0), (2, .ref 38), (3, .ref 71), (4, .int x4)], [.int (sc.2 (x4 + 1).toNatClampNeg), .ref 38, .int p301.1], mk p301.2.1, p301.2.2)
  obtain ⟨p303, hp303, h⟩ := bind_sp h
  refine ExL.blk 1 rfl ?_
  refine Exists.intro (some (.int p303.1)) (Exists.intro (mk p301.2.1) (Exists.intro p303.2 (And.intro (cl_X10_herd 55 hp303) ?_)))
  show ExL pr sc (rtE (some (.int r)) (mk X2) σ2) (1672, [(0, .ref SN), (1, .ref 0), (2, .ref 38), (3, .ref 71), (4, .int x4)], [.int p303.1, .int p301.1], mk p301.2.1, p303.2)
  refine ExL.blk 1 rfl ?_
  rcases ite_sp h with ⟨c304, h⟩ | ⟨c304, h⟩
  · refine And.intro (fun _ => ?_) (fun hn => absurd c304 hn)
    show ExL pr sc (rtE (some (.int r)) (mk X2) σ2) (1876, [(0, .ref SN), (1, .ref 0), (2, .ref 38), (3, .ref 71), (4, .int x4)], [], mk p301.2.1, p303.2)
    show ExL pr sc (rtE (some (.int r)) (mk X2) σ2) (1876, [(0, .ref SN), (1, .ref 0), (2, .ref 38), (3, .ref 71), (4, .int x4)], [], mk p301.2.1, p303.2)
    exact lg_L_1876 sc hsc hpr _ hk33 _ _ _ h
  · refine And.intro (fun hp => absurd hp c304) (fun _ => ?_)
    show ExL pr sc (rtE (some (.int r)) (mk X2) σ2) (1675, [(0, .ref SN), (1, .ref 0), (2, .ref 38), (3, .ref 71), (4, .int x4)], [], mk p301.2.1, p303.2)
    refine ExL.blk 2 rfl ?_
    cases h
    exact And.intro isb_0 ⟨rfl, rfl, rfl⟩
theorem lg_L_1677 {pr : Ct} (sc : Nat × (Nat → Int32)) (hsc : sc.1 ≤ 3073) (hpr : ∀ (c : Int32) (E : En) (σ : St) (d : Nat), Cl MT pr sc (d + 9) 51 [.ref LN, .int c] E σ (some (.int (ixo c))) E σ) {r : Int32} {X2 : En} {σ2 : St} (k33 : Int32 → En → St → Option (Int32 × En × St)) (hk33 : ∀ (x4 : Int32) (X : En) (σ : St), k33 x4 X σ = some (r, X2, σ2) → ExL pr sc (rtE (some (.int r)) (mk X2) σ2) (33, [(0, .ref SN), (1, .ref 0), (2, .ref 38), (3, .ref 71), (4, .int x4)], [], mk X, σ)) (x4 : Int32) (X : En) (σ : St) (h : g_L_1677 sc k33 x4 X σ = some (r, X2, σ2)) : ExL pr sc (rtE (some (.int r)) (mk X2) σ2) (1677, [(0, .ref SN), (1, .ref 0), (2, .ref 38), (3, .ref 71), (4, .int x4)], [], mk X, σ) := by
  unfold g_L_1677 at h
  refine ExL.blk 5 rfl ?_
  show ExL pr sc (rtE (some (.int r)) (mk X2) σ2) (1683, [(0, .ref SN), (1, .ref 0), (2, .ref 38), (3, .ref 71), (4, .int x4)], [.int (x4 + 1), .ref SN, .ref 0], mk X, σ)
  obtain ⟨g306, h⟩ := gd_some h
  refine ExL.blk 1 rfl ?_
  refine And.intro (inb_ok g306) ?_
  show ExL pr sc (rtE (some (.int r)) (mk X2) σ2) (1684, [(0, .ref SN), (1, .ref 0), (2, .ref 38), (3, .ref 71), (4, .int x4)], [.int (sc.2 (x4 + 1).toNatClampNeg), .ref 0], mk X, σ)
  refine ExL.blk 4 rfl ?_
  show ExL pr sc (rtE (some (.int r)) (mk X2) σ2) (1689, [(0, .ref SN), (1, .ref 0), (2, .ref 38), (3, .ref 71), (4, .int x4)], [.int (x4 + 2), .ref SN, .int (sc.2 (x4 + 1).toNatClampNeg), .ref 0], mk X, σ)
  obtain ⟨g307, h⟩ := gd_some h
  refine ExL.blk 1 rfl ?_
  refine And.intro (inb_ok g307) ?_
  show ExL pr sc (rtE (some (.int r)) (mk X2) σ2) (1690, [(0, .ref SN), (1, .ref 0), (2, .ref 38), (3, .ref 71), (4, .int x4)], [.int (sc.2 (x4 + 2).toNatClampNeg), .int (sc.2 (x4 + 1).toNatClampNeg), .ref 0], mk X, σ)
  refine ExL.blk 4 rfl ?_
  show ExL pr sc (rtE (some (.int r)) (mk X2) σ2) (1695, [(0, .ref SN), (1, .ref 0), (2, .ref 38), (3, .ref 71), (4, .int x4)], [.int (x4 + 3), .ref SN, .int (sc.2 (x4 + 2).toNatClampNeg), .int (sc.2 (x4 + 1).toNatClampNeg), .ref 0], mk X, σ)
  obtain ⟨g308, h⟩ := gd_some h
  refine ExL.blk 1 rfl ?_
  refine And.intro (inb_ok g308) ?_
  show ExL pr sc (rtE (some (.int r)) (mk X2) σ2) (1696, [(0, .ref SN), (1, .ref 0), (2, .ref 38), (3, .ref 71), (4, .int x4)], [.int (sc.2 (x4 + 3).toNatClampNeg), .int (sc.2 (x4 + 2).toNatClampNeg), .int (sc.2 (x4 + 1).toNatClampNeg), .ref 0], mk X, σ)
  obtain ⟨p309, hp309, h⟩ := bind_sp h
  refine ExL.blk 1 rfl ?_
  refine Exists.intro (some (.int p309.1)) (Exists.intro (mk X) (Exists.intro p309.2 (And.intro (cl_X9_relay 54 hp309) ?_)))
  show ExL pr sc (rtE (some (.int r)) (mk X2) σ2) (1699, [(0, .ref SN), (1, .ref 0), (2, .ref 38), (3, .ref 71), (4, .int x4)], [.int p309.1], mk X, p309.2)
  refine ExL.blk 5 rfl ?_
  show ExL pr sc (rtE (some (.int r)) (mk X2) σ2) (1705, [(0, .ref SN), (1, .ref 0), (2, .ref 38), (3, .ref 71), (4, .int x4)], [.int (x4 + 1), .ref SN, .ref 38, .int p309.1], mk X, p309.2)
  obtain ⟨g310, h⟩ := gd_some h
  refine ExL.blk 1 rfl ?_
  refine And.intro (inb_ok g310) ?_
  show ExL pr sc (rtE (some (.int r)) (mk X2) σ2) (1706, [(0, .ref SN), (1, .ref 0), (2, .ref 38), (3, .ref 71), (4, .int x4)], [.int (sc.2 (x4 + 1).toNatClampNeg), .ref 38, .int p309.1], mk X, p309.2)
  refine ExL.blk 4 rfl ?_
  show ExL pr sc (rtE (some (.int r)) (mk X2) σ2) (1711, [(0, .ref SN), (1, .ref 0), (2, .ref 38), (3, .ref 71), (4, .int x4)], [.int (x4 + 2), .ref SN, .int (sc.2 (x4 + 1).toNatClampNeg), .ref 38, .int p309.1], mk X, p309.2)
  obtain ⟨g311, h⟩ := gd_some h
  refine ExL.blk 1 rfl ?_
  refine And.intro (inb_ok g311) ?_
  show ExL pr sc (rtE (some (.int r)) (mk X2) σ2) (1712, [(0, .ref SN), (1, .ref 0), (2, .ref 38), (3, .ref 71), (4, .int x4)], [.int (sc.2 (x4 + 2).toNatClampNeg), .int (sc.2 (x4 + 1).toNatClampNeg), .ref 38, .int p309.1], mk X, p309.2)
  refine ExL.blk 4 rfl ?_
  show ExL pr sc (rtE (some (.int r)) (mk X2) σ2) (1717, [(0, .ref SN), (1, .ref 0), (2, .ref 38), (3, .ref 71), (4, .int x4)], [.int (x4 + 3), .ref SN, .int (sc.2 (x4 + 2).toNatClampNeg), .int (sc.2 (x4 + 1).toNatClampNeg), .ref 38, .int p309.1], mk X, p309.2)
  obtain ⟨g312, h⟩ := gd_some h
  refine ExL.blk 1 rfl ?_
  refine And.intro (inb_ok g312) ?_
  show ExL pr sc (rtE (some (.int r)) (mk X2) σ2) (1718, [(0, .ref SN), (1, .ref 0), (2, .ref 38), (3, .ref 71), (4, .int x4)], [.int (sc.2 (x4 + 3).toNatClampNeg), .int (sc.2 (x4 + 2).toNatClampNeg), .int (sc.2 (x4 + 1).toNatClampNeg), .ref 38, .int p309.1], mk X, p309.2)
  obtain ⟨p313, hp313, h⟩ := bind_sp h
  refine ExL.blk 1 rfl ?_
  refine Exists.intro (some (.int p313.1)) (Exists.intro (mk X) (Exists.intro p313.2 (And.intro (cl_X10_relay 56 hp313) ?_)))
  show ExL pr sc (rtE (some (.int r)) (mk X2) σ2) (1721, [(0, .ref SN), (1, .ref 0), (2, .ref 38), (3, .ref 71), (4, .int x4)], [.int p313.1, .int p309.1], mk X, p313.2)
  refine ExL.blk 1 rfl ?_
  rcases ite_sp h with ⟨c314, h⟩ | ⟨c314, h⟩
  · refine And.intro (fun _ => ?_) (fun hn => absurd c314 hn)
    show ExL pr sc (rtE (some (.int r)) (mk X2) σ2) (1876, [(0, .ref SN), (1, .ref 0), (2, .ref 38), (3, .ref 71), (4, .int x4)], [], mk X, p313.2)
    show ExL pr sc (rtE (some (.int r)) (mk X2) σ2) (1876, [(0, .ref SN), (1, .ref 0), (2, .ref 38), (3, .ref 71), (4, .int x4)], [], mk X, p313.2)
    exact lg_L_1876 sc hsc hpr _ hk33 _ _ _ h
  · refine And.intro (fun hp => absurd hp c314) (fun _ => ?_)
    show ExL pr sc (rtE (some (.int r)) (mk X2) σ2) (1724, [(0, .ref SN), (1, .ref 0), (2, .ref 38), (3, .ref 71), (4, .int x4)], [], mk X, p313.2)
    refine ExL.blk 2 rfl ?_
    cases h
    exact And.intro isb_0 ⟨rfl, rfl, rfl⟩
theorem lg_L_1726 {pr : Ct} (sc : Nat × (Nat → Int32)) (hsc : sc.1 ≤ 3073) (hpr : ∀ (c : Int32) (E : En) (σ : St) (d : Nat), Cl MT pr sc (d + 9) 51 [.ref LN, .int c] E σ (some (.int (ixo c))) E σ) {r : Int32} {X2 : En} {σ2 : St} (k33 : Int32 → En → St → Option (Int32 × En × St)) (hk33 : ∀ (x4 : Int32) (X : En) (σ : St), k33 x4 X σ = some (r, X2, σ2) → ExL pr sc (rtE (some (.int r)) (mk X2) σ2) (33, [(0, .ref SN), (1, .ref 0), (2, .ref 38), (3, .ref 71), (4, .int x4)], [], mk X, σ)) (x4 : Int32) (X : En) (σ : St) (h : g_L_1726 sc k33 x4 X σ = some (r, X2, σ2)) : ExL pr sc (rtE (some (.int r)) (mk X2) σ2) (1726, [(0, .ref SN), (1, .ref 0), (2, .ref 38), (3, .ref 71), (4, .int x4)], [], mk X, σ) := by
  unfold g_L_1726 at h
  refine ExL.blk 5 rfl ?_
  show ExL pr sc (rtE (some (.int r)) (mk X2) σ2) (1732, [(0, .ref SN), (1, .ref 0), (2, .ref 38), (3, .ref 71), (4, .int x4)], [.int (x4 + 1), .ref SN, .ref 0], mk X, σ)
  obtain ⟨g316, h⟩ := gd_some h
  refine ExL.blk 1 rfl ?_
  refine And.intro (inb_ok g316) ?_
  show ExL pr sc (rtE (some (.int r)) (mk X2) σ2) (1733, [(0, .ref SN), (1, .ref 0), (2, .ref 38), (3, .ref 71), (4, .int x4)], [.int (sc.2 (x4 + 1).toNatClampNeg), .ref 0], mk X, σ)
  refine ExL.blk 4 rfl ?_
  show ExL pr sc (rtE (some (.int r)) (mk X2) σ2) (1738, [(0, .ref SN), (1, .ref 0), (2, .ref 38), (3, .ref 71), (4, .int x4)], [.int (x4 + 2), .ref SN, .int (sc.2 (x4 + 1).toNatClampNeg), .ref 0], mk X, σ)
  obtain ⟨g317, h⟩ := gd_some h
  refine ExL.blk 1 rfl ?_
  refine And.intro (inb_ok g317) ?_
  show ExL pr sc (rtE (some (.int r)) (mk X2) σ2) (1739, [(0, .ref SN), (1, .ref 0), (2, .ref 38), (3, .ref 71), (4, .int x4)], [.int (sc.2 (x4 + 2).toNatClampNeg), .int (sc.2 (x4 + 1).toNatClampNeg), .ref 0], mk X, σ)
  obtain ⟨p318, hp318, h⟩ := bind_sp h
  refine ExL.blk 1 rfl ?_
  refine Exists.intro (some (.int p318.1)) (Exists.intro (mk X) (Exists.intro p318.2 (And.intro (cl_X9_ranked 54 hp318) ?_)))
  show ExL pr sc (rtE (some (.int r)) (mk X2) σ2) (1742, [(0, .ref SN), (1, .ref 0), (2, .ref 38), (3, .ref 71), (4, .int x4)], [.int p318.1], mk X, p318.2)
  refine ExL.blk 5 rfl ?_
  show ExL pr sc (rtE (some (.int r)) (mk X2) σ2) (1748, [(0, .ref SN), (1, .ref 0), (2, .ref 38), (3, .ref 71), (4, .int x4)], [.int (x4 + 1), .ref SN, .ref 38, .int p318.1], mk X, p318.2)
  obtain ⟨g319, h⟩ := gd_some h
  refine ExL.blk 1 rfl ?_
  refine And.intro (inb_ok g319) ?_
  show ExL pr sc (rtE (some (.int r)) (mk X2) σ2) (1749, [(0, .ref SN), (1, .ref 0), (2, .ref 38), (3, .ref 71), (4, .int x4)], [.int (sc.2 (x4 + 1).toNatClampNeg), .ref 38, .int p318.1], mk X, p318.2)
  refine ExL.blk 4 rfl ?_
  show ExL pr sc (rtE (some (.int r)) (mk X2) σ2) (1754, [(0, .ref SN), (1, .ref 0), (2, .ref 38), (3, .ref 71), (4, .int x4)], [.int (x4 + 2), .ref SN, .int (sc.2 (x4 + 1).toNatClampNeg), .ref 38, .int p318.1], mk X, p318.2)
  obtain ⟨g320, h⟩ := gd_some h
  refine ExL.blk 1 rfl ?_
  refine And.intro (inb_ok g320) ?_
  show ExL pr sc (rtE (some (.int r)) (mk X2) σ2) (1755, [(0, .ref SN), (1, .ref 0), (2, .ref 38), (3, .ref 71), (4, .int x4)], [.int (sc.2 (x4 + 2).toNatClampNeg), .int (sc.2 (x4 + 1).toNatClampNeg), .ref 38, .int p318.1], mk X, p318.2)
  obtain ⟨p321, hp321, h⟩ := bind_sp h
  refine ExL.blk 1 rfl ?_
  refine Exists.intro (some (.int p321.1)) (Exists.intro (mk X) (Exists.intro p321.2 (And.intro (cl_X10_ranked 56 hp321) ?_)))
  show ExL pr sc (rtE (some (.int r)) (mk X2) σ2) (1758, [(0, .ref SN), (1, .ref 0), (2, .ref 38), (3, .ref 71), (4, .int x4)], [.int p321.1, .int p318.1], mk X, p321.2)
  refine ExL.blk 1 rfl ?_
  rcases ite_sp h with ⟨c322, h⟩ | ⟨c322, h⟩
  · refine And.intro (fun _ => ?_) (fun hn => absurd c322 hn)
    show ExL pr sc (rtE (some (.int r)) (mk X2) σ2) (1876, [(0, .ref SN), (1, .ref 0), (2, .ref 38), (3, .ref 71), (4, .int x4)], [], mk X, p321.2)
    show ExL pr sc (rtE (some (.int r)) (mk X2) σ2) (1876, [(0, .ref SN), (1, .ref 0), (2, .ref 38), (3, .ref 71), (4, .int x4)], [], mk X, p321.2)
    exact lg_L_1876 sc hsc hpr _ hk33 _ _ _ h
  · refine And.intro (fun hp => absurd hp c322) (fun _ => ?_)
    show ExL pr sc (rtE (some (.int r)) (mk X2) σ2) (1761, [(0, .ref SN), (1, .ref 0), (2, .ref 38), (3, .ref 71), (4, .int x4)], [], mk X, p321.2)
    refine ExL.blk 2 rfl ?_
    cases h
    exact And.intro isb_0 ⟨rfl, rfl, rfl⟩
theorem lg_L_1763 {pr : Ct} (sc : Nat × (Nat → Int32)) (hsc : sc.1 ≤ 3073) (hpr : ∀ (c : Int32) (E : En) (σ : St) (d : Nat), Cl MT pr sc (d + 9) 51 [.ref LN, .int c] E σ (some (.int (ixo c))) E σ) {r : Int32} {X2 : En} {σ2 : St} (k33 : Int32 → En → St → Option (Int32 × En × St)) (hk33 : ∀ (x4 : Int32) (X : En) (σ : St), k33 x4 X σ = some (r, X2, σ2) → ExL pr sc (rtE (some (.int r)) (mk X2) σ2) (33, [(0, .ref SN), (1, .ref 0), (2, .ref 38), (3, .ref 71), (4, .int x4)], [], mk X, σ)) (x4 : Int32) (X : En) (σ : St) (h : g_L_1763 sc k33 x4 X σ = some (r, X2, σ2)) : ExL pr sc (rtE (some (.int r)) (mk X2) σ2) (1763, [(0, .ref SN), (1, .ref 0), (2, .ref 38), (3, .ref 71), (4, .int x4)], [], mk X, σ) := by
  unfold g_L_1763 at h
  refine ExL.blk 5 rfl ?_
  show ExL pr sc (rtE (some (.int r)) (mk X2) σ2) (1769, [(0, .ref SN), (1, .ref 0), (2, .ref 38), (3, .ref 71), (4, .int x4)], [.int (x4 + 1), .ref SN, .ref 0], mk X, σ)
  obtain ⟨g324, h⟩ := gd_some h
  refine ExL.blk 1 rfl ?_
  refine And.intro (inb_ok g324) ?_
  show ExL pr sc (rtE (some (.int r)) (mk X2) σ2) (1770, [(0, .ref SN), (1, .ref 0), (2, .ref 38), (3, .ref 71), (4, .int x4)], [.int (sc.2 (x4 + 1).toNatClampNeg), .ref 0], mk X, σ)
  obtain ⟨p325, hp325, h⟩ := bind_sp h
  refine ExL.blk 1 rfl ?_
  refine Exists.intro (some (.int p325.1)) (Exists.intro (mk X) (Exists.intro p325.2 (And.intro (cl_X9_odds 56 hp325) ?_)))
  show ExL pr sc (rtE (some (.int r)) (mk X2) σ2) (1773, [(0, .ref SN), (1, .ref 0), (2, .ref 38), (3, .ref 71), (4, .int x4)], [.int p325.1], mk X, p325.2)
  refine ExL.blk 5 rfl ?_
  show ExL pr sc (rtE (some (.int r)) (mk X2) σ2) (1779, [(0, .ref SN), (1, .ref 0), (2, .ref 38), (3, .ref 71), (4, .int x4)], [.int (x4 + 1), .ref SN, .ref 38, .int p325.1], mk X, p325.2)
  obtain ⟨g326, h⟩ := gd_some h
  refine ExL.blk 1 rfl ?_
  refine And.intro (inb_ok g326) ?_
  show ExL pr sc (rtE (some (.int r)) (mk X2) σ2) (1780, [(0, .ref SN), (1, .ref 0), (2, .ref 38), (3, .ref 71), (4, .int x4)], [.int (sc.2 (x4 + 1).toNatClampNeg), .ref 38, .int p325.1], mk X, p325.2)
  obtain ⟨p327, hp327, h⟩ := bind_sp h
  refine ExL.blk 1 rfl ?_
  refine Exists.intro (some (.int p327.1)) (Exists.intro (mk X) (Exists.intro p327.2 (And.intro (cl_X10_odds 56 hp327) ?_)))
  show ExL pr sc (rtE (some (.int r)) (mk X2) σ2) (1783, [(0, .ref SN), (1, .ref 0), (2, .ref 38), (3, .ref 71), (4, .int x4)], [.int p327.1, .int p325.1], mk X, p327.2)
  refine ExL.blk 1 rfl ?_
  rcases ite_sp h with ⟨c328, h⟩ | ⟨c328, h⟩
  · refine And.intro (fun _ => ?_) (fun hn => absurd c328 hn)
    show ExL pr sc (rtE (some (.int r)) (mk X2) σ2) (1876, [(0, .ref SN), (1, .ref 0), (2, .ref 38), (3, .ref 71), (4, .int x4)], [], mk X, p327.2)
    show ExL pr sc (rtE (some (.int r)) (mk X2) σ2) (1876, [(0, .ref SN), (1, .ref 0), (2, .ref 38), (3, .ref 71), (4, .int x4)], [], mk X, p327.2)
    exact lg_L_1876 sc hsc hpr _ hk33 _ _ _ h
  · refine And.intro (fun hp => absurd hp c328) (fun _ => ?_)
    show ExL pr sc (rtE (some (.int r)) (mk X2) σ2) (1786, [(0, .ref SN), (1, .ref 0), (2, .ref 38), (3, .ref 71), (4, .int x4)], [], mk X, p327.2)
    refine ExL.blk 2 rfl ?_
    cases h
    exact And.intro isb_0 ⟨rfl, rfl, rfl⟩
theorem lg_L_1788 {pr : Ct} (sc : Nat × (Nat → Int32)) (hsc : sc.1 ≤ 3073) (hpr : ∀ (c : Int32) (E : En) (σ : St) (d : Nat), Cl MT pr sc (d + 9) 51 [.ref LN, .int c] E σ (some (.int (ixo c))) E σ) {r : Int32} {X2 : En} {σ2 : St} (k33 : Int32 → En → St → Option (Int32 × En × St)) (hk33 : ∀ (x4 : Int32) (X : En) (σ : St), k33 x4 X σ = some (r, X2, σ2) → ExL pr sc (rtE (some (.int r)) (mk X2) σ2) (33, [(0, .ref SN), (1, .ref 0), (2, .ref 38), (3, .ref 71), (4, .int x4)], [], mk X, σ)) (x4 : Int32) (X : En) (σ : St) (h : g_L_1788 sc k33 x4 X σ = some (r, X2, σ2)) : ExL pr sc (rtE (some (.int r)) (mk X2) σ2) (1788, [(0, .ref SN), (1, .ref 0), (2, .ref 38), (3, .ref 71), (4, .int x4)], [], mk X, σ) := by
  unfold g_L_1788 at h
  refine ExL.blk 5 rfl ?_
  show ExL pr sc (rtE (some (.int r)) (mk X2) σ2) (1794, [(0, .ref SN), (1, .ref 0), (2, .ref 38), (3, .ref 71), (4, .int x4)], [.int (x4 + 1), .ref SN, .ref 0], mk X, σ)
  obtain ⟨g330, h⟩ := gd_some h
  refine ExL.blk 1 rfl ?_
  refine And.intro (inb_ok g330) ?_
  show ExL pr sc (rtE (some (.int r)) (mk X2) σ2) (1795, [(0, .ref SN), (1, .ref 0), (2, .ref 38), (3, .ref 71), (4, .int x4)], [.int (sc.2 (x4 + 1).toNatClampNeg), .ref 0], mk X, σ)
  refine ExL.blk 4 rfl ?_
  show ExL pr sc (rtE (some (.int r)) (mk X2) σ2) (1800, [(0, .ref SN), (1, .ref 0), (2, .ref 38), (3, .ref 71), (4, .int x4)], [.int (x4 + 2), .ref SN, .int (sc.2 (x4 + 1).toNatClampNeg), .ref 0], mk X, σ)
  obtain ⟨g331, h⟩ := gd_some h
  refine ExL.blk 1 rfl ?_
  refine And.intro (inb_ok g331) ?_
  show ExL pr sc (rtE (some (.int r)) (mk X2) σ2) (1801, [(0, .ref SN), (1, .ref 0), (2, .ref 38), (3, .ref 71), (4, .int x4)], [.int (sc.2 (x4 + 2).toNatClampNeg), .int (sc.2 (x4 + 1).toNatClampNeg), .ref 0], mk X, σ)
  obtain ⟨p332, hp332, h⟩ := bind_sp h
  refine ExL.blk 1 rfl ?_
  refine Exists.intro (some (.int p332.1)) (Exists.intro (mk X) (Exists.intro p332.2 (And.intro (cl_X9_make 58 hp332) ?_)))
  show ExL pr sc (rtE (some (.int r)) (mk X2) σ2) (1804, [(0, .ref SN), (1, .ref 0), (2, .ref 38), (3, .ref 71), (4, .int x4)], [.int p332.1], mk X, p332.2)
  refine ExL.blk 5 rfl ?_
  show ExL pr sc (rtE (some (.int r)) (mk X2) σ2) (1810, [(0, .ref SN), (1, .ref 0), (2, .ref 38), (3, .ref 71), (4, .int x4)], [.int (x4 + 1), .ref SN, .ref 38, .int p332.1], mk X, p332.2)
  obtain ⟨g333, h⟩ := gd_some h
  refine ExL.blk 1 rfl ?_
  refine And.intro (inb_ok g333) ?_
  show ExL pr sc (rtE (some (.int r)) (mk X2) σ2) (1811, [(0, .ref SN), (1, .ref 0), (2, .ref 38), (3, .ref 71), (4, .int x4)], [.int (sc.2 (x4 + 1).toNatClampNeg), .ref 38, .int p332.1], mk X, p332.2)
  refine ExL.blk 4 rfl ?_
  show ExL pr sc (rtE (some (.int r)) (mk X2) σ2) (1816, [(0, .ref SN), (1, .ref 0), (2, .ref 38), (3, .ref 71), (4, .int x4)], [.int (x4 + 2), .ref SN, .int (sc.2 (x4 + 1).toNatClampNeg), .ref 38, .int p332.1], mk X, p332.2)
  obtain ⟨g334, h⟩ := gd_some h
  refine ExL.blk 1 rfl ?_
  refine And.intro (inb_ok g334) ?_
  show ExL pr sc (rtE (some (.int r)) (mk X2) σ2) (1817, [(0, .ref SN), (1, .ref 0), (2, .ref 38), (3, .ref 71), (4, .int x4)], [.int (sc.2 (x4 + 2).toNatClampNeg), .int (sc.2 (x4 + 1).toNatClampNeg), .ref 38, .int p332.1], mk X, p332.2)
  obtain ⟨p335, hp335, h⟩ := bind_sp h
  refine ExL.blk 1 rfl ?_
  refine Exists.intro (some (.int p335.1)) (Exists.intro (mk X) (Exists.intro p335.2 (And.intro (cl_X10_make 55 hp335) ?_)))
  show ExL pr sc (rtE (some (.int r)) (mk X2) σ2) (1820, [(0, .ref SN), (1, .ref 0), (2, .ref 38), (3, .ref 71), (4, .int x4)], [.int p335.1, .int p332.1], mk X, p335.2)
  refine ExL.blk 1 rfl ?_
  rcases ite_sp h with ⟨c336, h⟩ | ⟨c336, h⟩
  · refine And.intro (fun _ => ?_) (fun hn => absurd c336 hn)
    show ExL pr sc (rtE (some (.int r)) (mk X2) σ2) (1876, [(0, .ref SN), (1, .ref 0), (2, .ref 38), (3, .ref 71), (4, .int x4)], [], mk X, p335.2)
    show ExL pr sc (rtE (some (.int r)) (mk X2) σ2) (1876, [(0, .ref SN), (1, .ref 0), (2, .ref 38), (3, .ref 71), (4, .int x4)], [], mk X, p335.2)
    exact lg_L_1876 sc hsc hpr _ hk33 _ _ _ h
  · refine And.intro (fun hp => absurd hp c336) (fun _ => ?_)
    show ExL pr sc (rtE (some (.int r)) (mk X2) σ2) (1823, [(0, .ref SN), (1, .ref 0), (2, .ref 38), (3, .ref 71), (4, .int x4)], [], mk X, p335.2)
    refine ExL.blk 2 rfl ?_
    cases h
    exact And.intro isb_0 ⟨rfl, rfl, rfl⟩
theorem lg_L_1825 {pr : Ct} (sc : Nat × (Nat → Int32)) (hsc : sc.1 ≤ 3073) (hpr : ∀ (c : Int32) (E : En) (σ : St) (d : Nat), Cl MT pr sc (d + 9) 51 [.ref LN, .int c] E σ (some (.int (ixo c))) E σ) {r : Int32} {X2 : En} {σ2 : St} (k33 : Int32 → En → St → Option (Int32 × En × St)) (hk33 : ∀ (x4 : Int32) (X : En) (σ : St), k33 x4 X σ = some (r, X2, σ2) → ExL pr sc (rtE (some (.int r)) (mk X2) σ2) (33, [(0, .ref SN), (1, .ref 0), (2, .ref 38), (3, .ref 71), (4, .int x4)], [], mk X, σ)) (x4 : Int32) (X : En) (σ : St) (h : g_L_1825 sc k33 x4 X σ = some (r, X2, σ2)) : ExL pr sc (rtE (some (.int r)) (mk X2) σ2) (1825, [(0, .ref SN), (1, .ref 0), (2, .ref 38), (3, .ref 71), (4, .int x4)], [], mk X, σ) := by
  unfold g_L_1825 at h
  refine ExL.blk 1 rfl ?_
  show ExL pr sc (rtE (some (.int r)) (mk X2) σ2) (1826, [(0, .ref SN), (1, .ref 0), (2, .ref 38), (3, .ref 71), (4, .int x4)], [.ref 0], mk X, σ)
  obtain ⟨p338, hp338, h⟩ := bind_sp h
  refine ExL.blk 1 rfl ?_
  refine Exists.intro (some (.int p338.1)) (Exists.intro (mk p338.2.1) (Exists.intro p338.2.2 (And.intro (cg_X9_image 56 hp338) ?_)))
  show ExL pr sc (rtE (some (.int r)) (mk X2) σ2) (1829, [(0, .ref SN), (1, .ref 0), (2, .ref 38), (3, .ref 71), (4, .int x4)], [.int p338.1], mk p338.2.1, p338.2.2)
  refine ExL.blk 1 rfl ?_
  show ExL pr sc (rtE (some (.int r)) (mk X2) σ2) (1830, [(0, .ref SN), (1, .ref 0), (2, .ref 38), (3, .ref 71), (4, .int x4)], [.ref 38, .int p338.1], mk p338.2.1, p338.2.2)
  obtain ⟨p339, hp339, h⟩ := bind_sp h
  refine ExL.blk 1 rfl ?_
  refine Exists.intro (some (.int p339.1)) (Exists.intro (mk p338.2.1) (Exists.intro p339.2 (And.intro (cl_X10_image 59 hp339) ?_)))
  show ExL pr sc (rtE (some (.int r)) (mk X2) σ2) (1833, [(0, .ref SN), (1, .ref 0), (2, .ref 38), (3, .ref 71), (4, .int x4)], [.int p339.1, .int p338.1], mk p338.2.1, p339.2)
  refine ExL.blk 1 rfl ?_
  rcases ite_sp h with ⟨c340, h⟩ | ⟨c340, h⟩
  · refine And.intro (fun _ => ?_) (fun hn => absurd c340 hn)
    show ExL pr sc (rtE (some (.int r)) (mk X2) σ2) (1876, [(0, .ref SN), (1, .ref 0), (2, .ref 38), (3, .ref 71), (4, .int x4)], [], mk p338.2.1, p339.2)
    show ExL pr sc (rtE (some (.int r)) (mk X2) σ2) (1876, [(0, .ref SN), (1, .ref 0), (2, .ref 38), (3, .ref 71), (4, .int x4)], [], mk p338.2.1, p339.2)
    exact lg_L_1876 sc hsc hpr _ hk33 _ _ _ h
  · refine And.intro (fun hp => absurd hp c340) (fun _ => ?_)
    show ExL pr sc (rtE (some (.int r)) (mk X2) σ2) (1836, [(0, .ref SN), (1, .ref 0), (2, .ref 38), (3, .ref 71), (4, .int x4)], [], mk p338.2.1, p339.2)
    refine ExL.blk 2 rfl ?_
    cases h
    exact And.intro isb_0 ⟨rfl, rfl, rfl⟩
theorem lg_L_1838 {pr : Ct} (sc : Nat × (Nat → Int32)) (hsc : sc.1 ≤ 3073) (hpr : ∀ (c : Int32) (E : En) (σ : St) (d : Nat), Cl MT pr sc (d + 9) 51 [.ref LN, .int c] E σ (some (.int (ixo c))) E σ) {r : Int32} {X2 : En} {σ2 : St} (k33 : Int32 → En → St → Option (Int32 × En × St)) (hk33 : ∀ (x4 : Int32) (X : En) (σ : St), k33 x4 X σ = some (r, X2, σ2) → ExL pr sc (rtE (some (.int r)) (mk X2) σ2) (33, [(0, .ref SN), (1, .ref 0), (2, .ref 38), (3, .ref 71), (4, .int x4)], [], mk X, σ)) (x4 : Int32) (X : En) (σ : St) (h : g_L_1838 sc k33 x4 X σ = some (r, X2, σ2)) : ExL pr sc (rtE (some (.int r)) (mk X2) σ2) (1838, [(0, .ref SN), (1, .ref 0), (2, .ref 38), (3, .ref 71), (4, .int x4)], [], mk X, σ) := by
  unfold g_L_1838 at h
  refine ExL.blk 1 rfl ?_
  show ExL pr sc (rtE (some (.int r)) (mk X2) σ2) (1839, [(0, .ref SN), (1, .ref 0), (2, .ref 38), (3, .ref 71), (4, .int x4)], [.ref 0], mk X, σ)
  obtain ⟨p342, hp342, h⟩ := bind_sp h
  refine ExL.blk 1 rfl ?_
  refine Exists.intro (some (.int p342.1)) (Exists.intro (mk p342.2.1) (Exists.intro p342.2.2 (And.intro (cg_X9_back 56 hp342) ?_)))
  show ExL pr sc (rtE (some (.int r)) (mk X2) σ2) (1842, [(0, .ref SN), (1, .ref 0), (2, .ref 38), (3, .ref 71), (4, .int x4)], [.int p342.1], mk p342.2.1, p342.2.2)
  refine ExL.blk 1 rfl ?_
  show ExL pr sc (rtE (some (.int r)) (mk X2) σ2) (1843, [(0, .ref SN), (1, .ref 0), (2, .ref 38), (3, .ref 71), (4, .int x4)], [.ref 38, .int p342.1], mk p342.2.1, p342.2.2)
  obtain ⟨p343, hp343, h⟩ := bind_sp h
  refine ExL.blk 1 rfl ?_
  refine Exists.intro (some (.int p343.1)) (Exists.intro (mk p342.2.1) (Exists.intro p343.2 (And.intro (cl_X10_back 59 hp343) ?_)))
  show ExL pr sc (rtE (some (.int r)) (mk X2) σ2) (1846, [(0, .ref SN), (1, .ref 0), (2, .ref 38), (3, .ref 71), (4, .int x4)], [.int p343.1, .int p342.1], mk p342.2.1, p343.2)
  refine ExL.blk 1 rfl ?_
  rcases ite_sp h with ⟨c344, h⟩ | ⟨c344, h⟩
  · refine And.intro (fun _ => ?_) (fun hn => absurd c344 hn)
    show ExL pr sc (rtE (some (.int r)) (mk X2) σ2) (1876, [(0, .ref SN), (1, .ref 0), (2, .ref 38), (3, .ref 71), (4, .int x4)], [], mk p342.2.1, p343.2)
    show ExL pr sc (rtE (some (.int r)) (mk X2) σ2) (1876, [(0, .ref SN), (1, .ref 0), (2, .ref 38), (3, .ref 71), (4, .int x4)], [], mk p342.2.1, p343.2)
    exact lg_L_1876 sc hsc hpr _ hk33 _ _ _ h
  · refine And.intro (fun hp => absurd hp c344) (fun _ => ?_)
    show ExL pr sc (rtE (some (.int r)) (mk X2) σ2) (1849, [(0, .ref SN), (1, .ref 0), (2, .ref 38), (3, .ref 71), (4, .int x4)], [], mk p342.2.1, p343.2)
    refine ExL.blk 2 rfl ?_
    cases h
    exact And.intro isb_0 ⟨rfl, rfl, rfl⟩
theorem lg_L_1851 {pr : Ct} (sc : Nat × (Nat → Int32)) (hsc : sc.1 ≤ 3073) (hpr : ∀ (c : Int32) (E : En) (σ : St) (d : Nat), Cl MT pr sc (d + 9) 51 [.ref LN, .int c] E σ (some (.int (ixo c))) E σ) {r : Int32} {X2 : En} {σ2 : St} (k33 : Int32 → En → St → Option (Int32 × En × St)) (hk33 : ∀ (x4 : Int32) (X : En) (σ : St), k33 x4 X σ = some (r, X2, σ2) → ExL pr sc (rtE (some (.int r)) (mk X2) σ2) (33, [(0, .ref SN), (1, .ref 0), (2, .ref 38), (3, .ref 71), (4, .int x4)], [], mk X, σ)) (x4 : Int32) (X : En) (σ : St) (h : g_L_1851 sc k33 x4 X σ = some (r, X2, σ2)) : ExL pr sc (rtE (some (.int r)) (mk X2) σ2) (1851, [(0, .ref SN), (1, .ref 0), (2, .ref 38), (3, .ref 71), (4, .int x4)], [], mk X, σ) := by
  unfold g_L_1851 at h
  refine ExL.blk 5 rfl ?_
  show ExL pr sc (rtE (some (.int r)) (mk X2) σ2) (1857, [(0, .ref SN), (1, .ref 0), (2, .ref 38), (3, .ref 71), (4, .int x4)], [.int (x4 + 1), .ref SN, .ref 0], mk X, σ)
  obtain ⟨g346, h⟩ := gd_some h
  refine ExL.blk 1 rfl ?_
  refine And.intro (inb_ok g346) ?_
  show ExL pr sc (rtE (some (.int r)) (mk X2) σ2) (1858, [(0, .ref SN), (1, .ref 0), (2, .ref 38), (3, .ref 71), (4, .int x4)], [.int (sc.2 (x4 + 1).toNatClampNeg), .ref 0], mk X, σ)
  obtain ⟨p347, hp347, h⟩ := bind_sp h
  refine ExL.blk 1 rfl ?_
  refine Exists.intro (some (.int p347.1)) (Exists.intro (mk X) (Exists.intro p347.2 (And.intro (cl_X9_count 59 hp347) ?_)))
  show ExL pr sc (rtE (some (.int r)) (mk X2) σ2) (1861, [(0, .ref SN), (1, .ref 0), (2, .ref 38), (3, .ref 71), (4, .int x4)], [.int p347.1], mk X, p347.2)
  refine ExL.blk 5 rfl ?_
  show ExL pr sc (rtE (some (.int r)) (mk X2) σ2) (1867, [(0, .ref SN), (1, .ref 0), (2, .ref 38), (3, .ref 71), (4, .int x4)], [.int (x4 + 1), .ref SN, .ref 38, .int p347.1], mk X, p347.2)
  obtain ⟨g348, h⟩ := gd_some h
  refine ExL.blk 1 rfl ?_
  refine And.intro (inb_ok g348) ?_
  show ExL pr sc (rtE (some (.int r)) (mk X2) σ2) (1868, [(0, .ref SN), (1, .ref 0), (2, .ref 38), (3, .ref 71), (4, .int x4)], [.int (sc.2 (x4 + 1).toNatClampNeg), .ref 38, .int p347.1], mk X, p347.2)
  obtain ⟨p349, hp349, h⟩ := bind_sp h
  refine ExL.blk 1 rfl ?_
  refine Exists.intro (some (.int p349.1)) (Exists.intro (mk X) (Exists.intro p349.2 (And.intro (cl_X10_count 59 hp349) ?_)))
  show ExL pr sc (rtE (some (.int r)) (mk X2) σ2) (1871, [(0, .ref SN), (1, .ref 0), (2, .ref 38), (3, .ref 71), (4, .int x4)], [.int p349.1, .int p347.1], mk X, p349.2)
  refine ExL.blk 1 rfl ?_
  rcases ite_sp h with ⟨c350, h⟩ | ⟨c350, h⟩
  · refine And.intro (fun _ => ?_) (fun hn => absurd c350 hn)
    show ExL pr sc (rtE (some (.int r)) (mk X2) σ2) (1876, [(0, .ref SN), (1, .ref 0), (2, .ref 38), (3, .ref 71), (4, .int x4)], [], mk X, p349.2)
    show ExL pr sc (rtE (some (.int r)) (mk X2) σ2) (1876, [(0, .ref SN), (1, .ref 0), (2, .ref 38), (3, .ref 71), (4, .int x4)], [], mk X, p349.2)
    exact lg_L_1876 sc hsc hpr _ hk33 _ _ _ h
  · refine And.intro (fun hp => absurd hp c350) (fun _ => ?_)
    show ExL pr sc (rtE (some (.int r)) (mk X2) σ2) (1874, [(0, .ref SN), (1, .ref 0), (2, .ref 38), (3, .ref 71), (4, .int x4)], [], mk X, p349.2)
    refine ExL.blk 2 rfl ?_
    cases h
    exact And.intro isb_0 ⟨rfl, rfl, rfl⟩
theorem lg_L_33 {pr : Ct} (sc : Nat × (Nat → Int32)) (hsc : sc.1 ≤ 3073) (hpr : ∀ (c : Int32) (E : En) (σ : St) (d : Nat), Cl MT pr sc (d + 9) 51 [.ref LN, .int c] E σ (some (.int (ixo c))) E σ) {r : Int32} {X2 : En} {σ2 : St} : ∀ (n : Nat) (x4 : Int32) (X : En) (σ : St), g_L_33 sc n x4 X σ = some (r, X2, σ2) → ExL pr sc (rtE (some (.int r)) (mk X2) σ2) (33, [(0, .ref SN), (1, .ref 0), (2, .ref 38), (3, .ref 71), (4, .int x4)], [], mk X, σ) := by
  intro n
  induction n with
  | zero =>
    intro x4 X σ h
    cases h
  | succ n ih =>
    intro x4 X σ h
    simp only [g_L_33] at h
    refine ExL.blk 5 rfl ?_
    show ExL pr sc (rtE (some (.int r)) (mk X2) σ2) (40, [(0, .ref SN), (1, .ref 0), (2, .ref 38), (3, .ref 71), (4, .int x4)], [.int ((Int32.ofNat sc.1) - 6), .int x4], mk X, σ)
    refine ExL.blk 1 rfl ?_
    rcases ite_sp h with ⟨c351, h⟩ | ⟨c351, h⟩
    · refine And.intro (fun _ => ?_) (fun hn => absurd c351 hn)
      show ExL pr sc (rtE (some (.int r)) (mk X2) σ2) (1882, [(0, .ref SN), (1, .ref 0), (2, .ref 38), (3, .ref 71), (4, .int x4)], [], mk X, σ)
      refine ExL.blk 2 rfl ?_
      cases h
      exact And.intro isb_1 ⟨rfl, rfl, rfl⟩
    · refine And.intro (fun hp => absurd hp c351) (fun _ => ?_)
      show ExL pr sc (rtE (some (.int r)) (mk X2) σ2) (43, [(0, .ref SN), (1, .ref 0), (2, .ref 38), (3, .ref 71), (4, .int x4)], [], mk X, σ)
      refine ExL.blk 2 rfl ?_
      show ExL pr sc (rtE (some (.int r)) (mk X2) σ2) (46, [(0, .ref SN), (1, .ref 0), (2, .ref 38), (3, .ref 71), (4, .int x4)], [.int x4, .ref SN], mk X, σ)
      obtain ⟨g1, h⟩ := gd_some h
      refine ExL.blk 1 rfl ?_
      refine And.intro (inb_ok g1) ?_
      show ExL pr sc (rtE (some (.int r)) (mk X2) σ2) (47, [(0, .ref SN), (1, .ref 0), (2, .ref 38), (3, .ref 71), (4, .int x4)], [.int (sc.2 x4.toNatClampNeg)], mk X, σ)
      refine ExL.blk 2 rfl ?_
      show ExL pr sc (rtE (some (.int r)) (mk X2) σ2) (50, [(0, .ref SN), (1, .ref 0), (2, .ref 38), (3, .ref 71), (4, .int x4)], [.int ((sc.2 x4.toNatClampNeg) &&& 63)], mk X, σ)
      refine ExL.blk 1 rfl ?_
      rcases ite_sp h with ⟨c2, h⟩ | ⟨c2, h⟩
      · refine And.intro (fun _ => ?_) (fun hn => absurd (c2.trans (by decide)) hn)
        show ExL pr sc (rtE (some (.int r)) (mk X2) σ2) (252, [(0, .ref SN), (1, .ref 0), (2, .ref 38), (3, .ref 71), (4, .int x4)], [], mk X, σ)
        show ExL pr sc (rtE (some (.int r)) (mk X2) σ2) (252, [(0, .ref SN), (1, .ref 0), (2, .ref 38), (3, .ref 71), (4, .int x4)], [], mk X, σ)
        exact lg_L_252 sc hsc hpr _ ih _ _ _ h
      refine And.intro (fun hp => absurd (hp.trans (by decide)) c2) (fun _ => ?_)
      rcases ite_sp h with ⟨c16, h⟩ | ⟨c16, h⟩
      · refine And.intro (fun _ => ?_) (fun hn => absurd (c16.trans (by decide)) hn)
        show ExL pr sc (rtE (some (.int r)) (mk X2) σ2) (325, [(0, .ref SN), (1, .ref 0), (2, .ref 38), (3, .ref 71), (4, .int x4)], [], mk X, σ)
        show ExL pr sc (rtE (some (.int r)) (mk X2) σ2) (325, [(0, .ref SN), (1, .ref 0), (2, .ref 38), (3, .ref 71), (4, .int x4)], [], mk X, σ)
        exact lg_L_325 sc hsc hpr _ ih _ _ _ h
      refine And.intro (fun hp => absurd (hp.trans (by decide)) c16) (fun _ => ?_)
      rcases ite_sp h with ⟨c22, h⟩ | ⟨c22, h⟩
      · refine And.intro (fun _ => ?_) (fun hn => absurd (c22.trans (by decide)) hn)
        show ExL pr sc (rtE (some (.int r)) (mk X2) σ2) (350, [(0, .ref SN), (1, .ref 0), (2, .ref 38), (3, .ref 71), (4, .int x4)], [], mk X, σ)
        show ExL pr sc (rtE (some (.int r)) (mk X2) σ2) (350, [(0, .ref SN), (1, .ref 0), (2, .ref 38), (3, .ref 71), (4, .int x4)], [], mk X, σ)
        exact lg_L_350 sc hsc hpr _ ih _ _ _ h
      refine And.intro (fun hp => absurd (hp.trans (by decide)) c22) (fun _ => ?_)
      rcases ite_sp h with ⟨c26, h⟩ | ⟨c26, h⟩
      · refine And.intro (fun _ => ?_) (fun hn => absurd (c26.trans (by decide)) hn)
        show ExL pr sc (rtE (some (.int r)) (mk X2) σ2) (363, [(0, .ref SN), (1, .ref 0), (2, .ref 38), (3, .ref 71), (4, .int x4)], [], mk X, σ)
        show ExL pr sc (rtE (some (.int r)) (mk X2) σ2) (363, [(0, .ref SN), (1, .ref 0), (2, .ref 38), (3, .ref 71), (4, .int x4)], [], mk X, σ)
        exact lg_L_363 sc hsc hpr _ ih _ _ _ h
      refine And.intro (fun hp => absurd (hp.trans (by decide)) c26) (fun _ => ?_)
      rcases ite_sp h with ⟨c30, h⟩ | ⟨c30, h⟩
      · refine And.intro (fun _ => ?_) (fun hn => absurd (c30.trans (by decide)) hn)
        show ExL pr sc (rtE (some (.int r)) (mk X2) σ2) (376, [(0, .ref SN), (1, .ref 0), (2, .ref 38), (3, .ref 71), (4, .int x4)], [], mk X, σ)
        show ExL pr sc (rtE (some (.int r)) (mk X2) σ2) (376, [(0, .ref SN), (1, .ref 0), (2, .ref 38), (3, .ref 71), (4, .int x4)], [], mk X, σ)
        exact lg_L_376 sc hsc hpr _ ih _ _ _ h
      refine And.intro (fun hp => absurd (hp.trans (by decide)) c30) (fun _ => ?_)
      rcases ite_sp h with ⟨c44, h⟩ | ⟨c44, h⟩
      · refine And.intro (fun _ => ?_) (fun hn => absurd (c44.trans (by decide)) hn)
        show ExL pr sc (rtE (some (.int r)) (mk X2) σ2) (456, [(0, .ref SN), (1, .ref 0), (2, .ref 38), (3, .ref 71), (4, .int x4)], [], mk X, σ)
        show ExL pr sc (rtE (some (.int r)) (mk X2) σ2) (456, [(0, .ref SN), (1, .ref 0), (2, .ref 38), (3, .ref 71), (4, .int x4)], [], mk X, σ)
        exact lg_L_456 sc hsc hpr _ ih _ _ _ h
      refine And.intro (fun hp => absurd (hp.trans (by decide)) c44) (fun _ => ?_)
      rcases ite_sp h with ⟨c52, h⟩ | ⟨c52, h⟩
      · refine And.intro (fun _ => ?_) (fun hn => absurd (c52.trans (by decide)) hn)
        show ExL pr sc (rtE (some (.int r)) (mk X2) σ2) (493, [(0, .ref SN), (1, .ref 0), (2, .ref 38), (3, .ref 71), (4, .int x4)], [], mk X, σ)
        show ExL pr sc (rtE (some (.int r)) (mk X2) σ2) (493, [(0, .ref SN), (1, .ref 0), (2, .ref 38), (3, .ref 71), (4, .int x4)], [], mk X, σ)
        exact lg_L_493 sc hsc hpr _ ih _ _ _ h
      refine And.intro (fun hp => absurd (hp.trans (by decide)) c52) (fun _ => ?_)
      rcases ite_sp h with ⟨c60, h⟩ | ⟨c60, h⟩
      · refine And.intro (fun _ => ?_) (fun hn => absurd (c60.trans (by decide)) hn)
        show ExL pr sc (rtE (some (.int r)) (mk X2) σ2) (530, [(0, .ref SN), (1, .ref 0), (2, .ref 38), (3, .ref 71), (4, .int x4)], [], mk X, σ)
        show ExL pr sc (rtE (some (.int r)) (mk X2) σ2) (530, [(0, .ref SN), (1, .ref 0), (2, .ref 38), (3, .ref 71), (4, .int x4)], [], mk X, σ)
        exact lg_L_530 sc hsc hpr _ ih _ _ _ h
      refine And.intro (fun hp => absurd (hp.trans (by decide)) c60) (fun _ => ?_)
      rcases ite_sp h with ⟨c70, h⟩ | ⟨c70, h⟩
      · refine And.intro (fun _ => ?_) (fun hn => absurd (c70.trans (by decide)) hn)
        show ExL pr sc (rtE (some (.int r)) (mk X2) σ2) (579, [(0, .ref SN), (1, .ref 0), (2, .ref 38), (3, .ref 71), (4, .int x4)], [], mk X, σ)
        show ExL pr sc (rtE (some (.int r)) (mk X2) σ2) (579, [(0, .ref SN), (1, .ref 0), (2, .ref 38), (3, .ref 71), (4, .int x4)], [], mk X, σ)
        exact lg_L_579 sc hsc hpr _ ih _ _ _ h
      refine And.intro (fun hp => absurd (hp.trans (by decide)) c70) (fun _ => ?_)
      rcases ite_sp h with ⟨c77, h⟩ | ⟨c77, h⟩
      · refine And.intro (fun _ => ?_) (fun hn => absurd (c77.trans (by decide)) hn)
        show ExL pr sc (rtE (some (.int r)) (mk X2) σ2) (634, [(0, .ref SN), (1, .ref 0), (2, .ref 38), (3, .ref 71), (4, .int x4)], [], mk X, σ)
        show ExL pr sc (rtE (some (.int r)) (mk X2) σ2) (634, [(0, .ref SN), (1, .ref 0), (2, .ref 38), (3, .ref 71), (4, .int x4)], [], mk X, σ)
        exact lg_L_634 sc hsc hpr _ ih _ _ _ h
      refine And.intro (fun hp => absurd (hp.trans (by decide)) c77) (fun _ => ?_)
      rcases ite_sp h with ⟨c87, h⟩ | ⟨c87, h⟩
      · refine And.intro (fun _ => ?_) (fun hn => absurd (c87.trans (by decide)) hn)
        show ExL pr sc (rtE (some (.int r)) (mk X2) σ2) (687, [(0, .ref SN), (1, .ref 0), (2, .ref 38), (3, .ref 71), (4, .int x4)], [], mk X, σ)
        show ExL pr sc (rtE (some (.int r)) (mk X2) σ2) (687, [(0, .ref SN), (1, .ref 0), (2, .ref 38), (3, .ref 71), (4, .int x4)], [], mk X, σ)
        exact lg_L_687 sc hsc hpr _ ih _ _ _ h
      refine And.intro (fun hp => absurd (hp.trans (by decide)) c87) (fun _ => ?_)
      rcases ite_sp h with ⟨c93, h⟩ | ⟨c93, h⟩
      · refine And.intro (fun _ => ?_) (fun hn => absurd (c93.trans (by decide)) hn)
        show ExL pr sc (rtE (some (.int r)) (mk X2) σ2) (712, [(0, .ref SN), (1, .ref 0), (2, .ref 38), (3, .ref 71), (4, .int x4)], [], mk X, σ)
        show ExL pr sc (rtE (some (.int r)) (mk X2) σ2) (712, [(0, .ref SN), (1, .ref 0), (2, .ref 38), (3, .ref 71), (4, .int x4)], [], mk X, σ)
        exact lg_L_712 sc hsc hpr _ ih _ _ _ h
      refine And.intro (fun hp => absurd (hp.trans (by decide)) c93) (fun _ => ?_)
      rcases ite_sp h with ⟨c99, h⟩ | ⟨c99, h⟩
      · refine And.intro (fun _ => ?_) (fun hn => absurd (c99.trans (by decide)) hn)
        show ExL pr sc (rtE (some (.int r)) (mk X2) σ2) (737, [(0, .ref SN), (1, .ref 0), (2, .ref 38), (3, .ref 71), (4, .int x4)], [], mk X, σ)
        show ExL pr sc (rtE (some (.int r)) (mk X2) σ2) (737, [(0, .ref SN), (1, .ref 0), (2, .ref 38), (3, .ref 71), (4, .int x4)], [], mk X, σ)
        exact lg_L_737 sc hsc hpr _ ih _ _ _ h
      refine And.intro (fun hp => absurd (hp.trans (by decide)) c99) (fun _ => ?_)
      rcases ite_sp h with ⟨c103, h⟩ | ⟨c103, h⟩
      · refine And.intro (fun _ => ?_) (fun hn => absurd (c103.trans (by decide)) hn)
        show ExL pr sc (rtE (some (.int r)) (mk X2) σ2) (750, [(0, .ref SN), (1, .ref 0), (2, .ref 38), (3, .ref 71), (4, .int x4)], [], mk X, σ)
        show ExL pr sc (rtE (some (.int r)) (mk X2) σ2) (750, [(0, .ref SN), (1, .ref 0), (2, .ref 38), (3, .ref 71), (4, .int x4)], [], mk X, σ)
        exact lg_L_750 sc hsc hpr _ ih _ _ _ h
      refine And.intro (fun hp => absurd (hp.trans (by decide)) c103) (fun _ => ?_)
      rcases ite_sp h with ⟨c111, h⟩ | ⟨c111, h⟩
      · refine And.intro (fun _ => ?_) (fun hn => absurd (c111.trans (by decide)) hn)
        show ExL pr sc (rtE (some (.int r)) (mk X2) σ2) (787, [(0, .ref SN), (1, .ref 0), (2, .ref 38), (3, .ref 71), (4, .int x4)], [], mk X, σ)
        show ExL pr sc (rtE (some (.int r)) (mk X2) σ2) (787, [(0, .ref SN), (1, .ref 0), (2, .ref 38), (3, .ref 71), (4, .int x4)], [], mk X, σ)
        exact lg_L_787 sc hsc hpr _ ih _ _ _ h
      refine And.intro (fun hp => absurd (hp.trans (by decide)) c111) (fun _ => ?_)
      rcases ite_sp h with ⟨c115, h⟩ | ⟨c115, h⟩
      · refine And.intro (fun _ => ?_) (fun hn => absurd (c115.trans (by decide)) hn)
        show ExL pr sc (rtE (some (.int r)) (mk X2) σ2) (801, [(0, .ref SN), (1, .ref 0), (2, .ref 38), (3, .ref 71), (4, .int x4)], [], mk X, σ)
        show ExL pr sc (rtE (some (.int r)) (mk X2) σ2) (801, [(0, .ref SN), (1, .ref 0), (2, .ref 38), (3, .ref 71), (4, .int x4)], [], mk X, σ)
        exact lg_L_801 sc hsc hpr _ ih _ _ _ h
      refine And.intro (fun hp => absurd (hp.trans (by decide)) c115) (fun _ => ?_)
      rcases ite_sp h with ⟨c121, h⟩ | ⟨c121, h⟩
      · refine And.intro (fun _ => ?_) (fun hn => absurd (c121.trans (by decide)) hn)
        show ExL pr sc (rtE (some (.int r)) (mk X2) σ2) (826, [(0, .ref SN), (1, .ref 0), (2, .ref 38), (3, .ref 71), (4, .int x4)], [], mk X, σ)
        show ExL pr sc (rtE (some (.int r)) (mk X2) σ2) (826, [(0, .ref SN), (1, .ref 0), (2, .ref 38), (3, .ref 71), (4, .int x4)], [], mk X, σ)
        exact lg_L_826 sc hsc hpr _ ih _ _ _ h
      refine And.intro (fun hp => absurd (hp.trans (by decide)) c121) (fun _ => ?_)
      rcases ite_sp h with ⟨c129, h⟩ | ⟨c129, h⟩
      · refine And.intro (fun _ => ?_) (fun hn => absurd (c129.trans (by decide)) hn)
        show ExL pr sc (rtE (some (.int r)) (mk X2) σ2) (863, [(0, .ref SN), (1, .ref 0), (2, .ref 38), (3, .ref 71), (4, .int x4)], [], mk X, σ)
        show ExL pr sc (rtE (some (.int r)) (mk X2) σ2) (863, [(0, .ref SN), (1, .ref 0), (2, .ref 38), (3, .ref 71), (4, .int x4)], [], mk X, σ)
        exact lg_L_863 sc hsc hpr _ ih _ _ _ h
      refine And.intro (fun hp => absurd (hp.trans (by decide)) c129) (fun _ => ?_)
      rcases ite_sp h with ⟨c139, h⟩ | ⟨c139, h⟩
      · refine And.intro (fun _ => ?_) (fun hn => absurd (c139.trans (by decide)) hn)
        show ExL pr sc (rtE (some (.int r)) (mk X2) σ2) (916, [(0, .ref SN), (1, .ref 0), (2, .ref 38), (3, .ref 71), (4, .int x4)], [], mk X, σ)
        show ExL pr sc (rtE (some (.int r)) (mk X2) σ2) (916, [(0, .ref SN), (1, .ref 0), (2, .ref 38), (3, .ref 71), (4, .int x4)], [], mk X, σ)
        exact lg_L_916 sc hsc hpr _ ih _ _ _ h
      refine And.intro (fun hp => absurd (hp.trans (by decide)) c139) (fun _ => ?_)
      rcases ite_sp h with ⟨c149, h⟩ | ⟨c149, h⟩
      · refine And.intro (fun _ => ?_) (fun hn => absurd (c149.trans (by decide)) hn)
        show ExL pr sc (rtE (some (.int r)) (mk X2) σ2) (969, [(0, .ref SN), (1, .ref 0), (2, .ref 38), (3, .ref 71), (4, .int x4)], [], mk X, σ)
        show ExL pr sc (rtE (some (.int r)) (mk X2) σ2) (969, [(0, .ref SN), (1, .ref 0), (2, .ref 38), (3, .ref 71), (4, .int x4)], [], mk X, σ)
        exact lg_L_969 sc hsc hpr _ ih _ _ _ h
      refine And.intro (fun hp => absurd (hp.trans (by decide)) c149) (fun _ => ?_)
      rcases ite_sp h with ⟨c155, h⟩ | ⟨c155, h⟩
      · refine And.intro (fun _ => ?_) (fun hn => absurd (c155.trans (by decide)) hn)
        show ExL pr sc (rtE (some (.int r)) (mk X2) σ2) (994, [(0, .ref SN), (1, .ref 0), (2, .ref 38), (3, .ref 71), (4, .int x4)], [], mk X, σ)
        show ExL pr sc (rtE (some (.int r)) (mk X2) σ2) (994, [(0, .ref SN), (1, .ref 0), (2, .ref 38), (3, .ref 71), (4, .int x4)], [], mk X, σ)
        exact lg_L_994 sc hsc hpr _ ih _ _ _ h
      refine And.intro (fun hp => absurd (hp.trans (by decide)) c155) (fun _ => ?_)
      rcases ite_sp h with ⟨c163, h⟩ | ⟨c163, h⟩
      · refine And.intro (fun _ => ?_) (fun hn => absurd (c163.trans (by decide)) hn)
        show ExL pr sc (rtE (some (.int r)) (mk X2) σ2) (1031, [(0, .ref SN), (1, .ref 0), (2, .ref 38), (3, .ref 71), (4, .int x4)], [], mk X, σ)
        show ExL pr sc (rtE (some (.int r)) (mk X2) σ2) (1031, [(0, .ref SN), (1, .ref 0), (2, .ref 38), (3, .ref 71), (4, .int x4)], [], mk X, σ)
        exact lg_L_1031 sc hsc hpr _ ih _ _ _ h
      refine And.intro (fun hp => absurd (hp.trans (by decide)) c163) (fun _ => ?_)
      rcases ite_sp h with ⟨c173, h⟩ | ⟨c173, h⟩
      · refine And.intro (fun _ => ?_) (fun hn => absurd (c173.trans (by decide)) hn)
        show ExL pr sc (rtE (some (.int r)) (mk X2) σ2) (1081, [(0, .ref SN), (1, .ref 0), (2, .ref 38), (3, .ref 71), (4, .int x4)], [], mk X, σ)
        show ExL pr sc (rtE (some (.int r)) (mk X2) σ2) (1081, [(0, .ref SN), (1, .ref 0), (2, .ref 38), (3, .ref 71), (4, .int x4)], [], mk X, σ)
        exact lg_L_1081 sc hsc hpr _ ih _ _ _ h
      refine And.intro (fun hp => absurd (hp.trans (by decide)) c173) (fun _ => ?_)
      rcases ite_sp h with ⟨c183, h⟩ | ⟨c183, h⟩
      · refine And.intro (fun _ => ?_) (fun hn => absurd (c183.trans (by decide)) hn)
        show ExL pr sc (rtE (some (.int r)) (mk X2) σ2) (1130, [(0, .ref SN), (1, .ref 0), (2, .ref 38), (3, .ref 71), (4, .int x4)], [], mk X, σ)
        show ExL pr sc (rtE (some (.int r)) (mk X2) σ2) (1130, [(0, .ref SN), (1, .ref 0), (2, .ref 38), (3, .ref 71), (4, .int x4)], [], mk X, σ)
        exact lg_L_1130 sc hsc hpr _ ih _ _ _ h
      refine And.intro (fun hp => absurd (hp.trans (by decide)) c183) (fun _ => ?_)
      rcases ite_sp h with ⟨c189, h⟩ | ⟨c189, h⟩
      · refine And.intro (fun _ => ?_) (fun hn => absurd (c189.trans (by decide)) hn)
        show ExL pr sc (rtE (some (.int r)) (mk X2) σ2) (1155, [(0, .ref SN), (1, .ref 0), (2, .ref 38), (3, .ref 71), (4, .int x4)], [], mk X, σ)
        show ExL pr sc (rtE (some (.int r)) (mk X2) σ2) (1155, [(0, .ref SN), (1, .ref 0), (2, .ref 38), (3, .ref 71), (4, .int x4)], [], mk X, σ)
        exact lg_L_1155 sc hsc hpr _ ih _ _ _ h
      refine And.intro (fun hp => absurd (hp.trans (by decide)) c189) (fun _ => ?_)
      rcases ite_sp h with ⟨c195, h⟩ | ⟨c195, h⟩
      · refine And.intro (fun _ => ?_) (fun hn => absurd (c195.trans (by decide)) hn)
        show ExL pr sc (rtE (some (.int r)) (mk X2) σ2) (1180, [(0, .ref SN), (1, .ref 0), (2, .ref 38), (3, .ref 71), (4, .int x4)], [], mk X, σ)
        show ExL pr sc (rtE (some (.int r)) (mk X2) σ2) (1180, [(0, .ref SN), (1, .ref 0), (2, .ref 38), (3, .ref 71), (4, .int x4)], [], mk X, σ)
        exact lg_L_1180 sc hsc hpr _ ih _ _ _ h
      refine And.intro (fun hp => absurd (hp.trans (by decide)) c195) (fun _ => ?_)
      rcases ite_sp h with ⟨c201, h⟩ | ⟨c201, h⟩
      · refine And.intro (fun _ => ?_) (fun hn => absurd (c201.trans (by decide)) hn)
        show ExL pr sc (rtE (some (.int r)) (mk X2) σ2) (1205, [(0, .ref SN), (1, .ref 0), (2, .ref 38), (3, .ref 71), (4, .int x4)], [], mk X, σ)
        show ExL pr sc (rtE (some (.int r)) (mk X2) σ2) (1205, [(0, .ref SN), (1, .ref 0), (2, .ref 38), (3, .ref 71), (4, .int x4)], [], mk X, σ)
        exact lg_L_1205 sc hsc hpr _ ih _ _ _ h
      refine And.intro (fun hp => absurd (hp.trans (by decide)) c201) (fun _ => ?_)
      rcases ite_sp h with ⟨c205, h⟩ | ⟨c205, h⟩
      · refine And.intro (fun _ => ?_) (fun hn => absurd (c205.trans (by decide)) hn)
        show ExL pr sc (rtE (some (.int r)) (mk X2) σ2) (1218, [(0, .ref SN), (1, .ref 0), (2, .ref 38), (3, .ref 71), (4, .int x4)], [], mk X, σ)
        show ExL pr sc (rtE (some (.int r)) (mk X2) σ2) (1218, [(0, .ref SN), (1, .ref 0), (2, .ref 38), (3, .ref 71), (4, .int x4)], [], mk X, σ)
        exact lg_L_1218 sc hsc hpr _ ih _ _ _ h
      refine And.intro (fun hp => absurd (hp.trans (by decide)) c205) (fun _ => ?_)
      rcases ite_sp h with ⟨c217, h⟩ | ⟨c217, h⟩
      · refine And.intro (fun _ => ?_) (fun hn => absurd (c217.trans (by decide)) hn)
        show ExL pr sc (rtE (some (.int r)) (mk X2) σ2) (1280, [(0, .ref SN), (1, .ref 0), (2, .ref 38), (3, .ref 71), (4, .int x4)], [], mk X, σ)
        show ExL pr sc (rtE (some (.int r)) (mk X2) σ2) (1280, [(0, .ref SN), (1, .ref 0), (2, .ref 38), (3, .ref 71), (4, .int x4)], [], mk X, σ)
        exact lg_L_1280 sc hsc hpr _ ih _ _ _ h
      refine And.intro (fun hp => absurd (hp.trans (by decide)) c217) (fun _ => ?_)
      rcases ite_sp h with ⟨c225, h⟩ | ⟨c225, h⟩
      · refine And.intro (fun _ => ?_) (fun hn => absurd (c225.trans (by decide)) hn)
        show ExL pr sc (rtE (some (.int r)) (mk X2) σ2) (1317, [(0, .ref SN), (1, .ref 0), (2, .ref 38), (3, .ref 71), (4, .int x4)], [], mk X, σ)
        show ExL pr sc (rtE (some (.int r)) (mk X2) σ2) (1317, [(0, .ref SN), (1, .ref 0), (2, .ref 38), (3, .ref 71), (4, .int x4)], [], mk X, σ)
        exact lg_L_1317 sc hsc hpr _ ih _ _ _ h
      refine And.intro (fun hp => absurd (hp.trans (by decide)) c225) (fun _ => ?_)
      rcases ite_sp h with ⟨c235, h⟩ | ⟨c235, h⟩
      · refine And.intro (fun _ => ?_) (fun hn => absurd (c235.trans (by decide)) hn)
        show ExL pr sc (rtE (some (.int r)) (mk X2) σ2) (1366, [(0, .ref SN), (1, .ref 0), (2, .ref 38), (3, .ref 71), (4, .int x4)], [], mk X, σ)
        show ExL pr sc (rtE (some (.int r)) (mk X2) σ2) (1366, [(0, .ref SN), (1, .ref 0), (2, .ref 38), (3, .ref 71), (4, .int x4)], [], mk X, σ)
        exact lg_L_1366 sc hsc hpr _ ih _ _ _ h
      refine And.intro (fun hp => absurd (hp.trans (by decide)) c235) (fun _ => ?_)
      rcases ite_sp h with ⟨c243, h⟩ | ⟨c243, h⟩
      · refine And.intro (fun _ => ?_) (fun hn => absurd (c243.trans (by decide)) hn)
        show ExL pr sc (rtE (some (.int r)) (mk X2) σ2) (1404, [(0, .ref SN), (1, .ref 0), (2, .ref 38), (3, .ref 71), (4, .int x4)], [], mk X, σ)
        show ExL pr sc (rtE (some (.int r)) (mk X2) σ2) (1404, [(0, .ref SN), (1, .ref 0), (2, .ref 38), (3, .ref 71), (4, .int x4)], [], mk X, σ)
        exact lg_L_1404 sc hsc hpr _ ih _ _ _ h
      refine And.intro (fun hp => absurd (hp.trans (by decide)) c243) (fun _ => ?_)
      rcases ite_sp h with ⟨c251, h⟩ | ⟨c251, h⟩
      · refine And.intro (fun _ => ?_) (fun hn => absurd (c251.trans (by decide)) hn)
        show ExL pr sc (rtE (some (.int r)) (mk X2) σ2) (1441, [(0, .ref SN), (1, .ref 0), (2, .ref 38), (3, .ref 71), (4, .int x4)], [], mk X, σ)
        show ExL pr sc (rtE (some (.int r)) (mk X2) σ2) (1441, [(0, .ref SN), (1, .ref 0), (2, .ref 38), (3, .ref 71), (4, .int x4)], [], mk X, σ)
        exact lg_L_1441 sc hsc hpr _ ih _ _ _ h
      refine And.intro (fun hp => absurd (hp.trans (by decide)) c251) (fun _ => ?_)
      rcases ite_sp h with ⟨c257, h⟩ | ⟨c257, h⟩
      · refine And.intro (fun _ => ?_) (fun hn => absurd (c257.trans (by decide)) hn)
        show ExL pr sc (rtE (some (.int r)) (mk X2) σ2) (1466, [(0, .ref SN), (1, .ref 0), (2, .ref 38), (3, .ref 71), (4, .int x4)], [], mk X, σ)
        show ExL pr sc (rtE (some (.int r)) (mk X2) σ2) (1466, [(0, .ref SN), (1, .ref 0), (2, .ref 38), (3, .ref 71), (4, .int x4)], [], mk X, σ)
        exact lg_L_1466 sc hsc hpr _ ih _ _ _ h
      refine And.intro (fun hp => absurd (hp.trans (by decide)) c257) (fun _ => ?_)
      rcases ite_sp h with ⟨c267, h⟩ | ⟨c267, h⟩
      · refine And.intro (fun _ => ?_) (fun hn => absurd (c267.trans (by decide)) hn)
        show ExL pr sc (rtE (some (.int r)) (mk X2) σ2) (1515, [(0, .ref SN), (1, .ref 0), (2, .ref 38), (3, .ref 71), (4, .int x4)], [], mk X, σ)
        show ExL pr sc (rtE (some (.int r)) (mk X2) σ2) (1515, [(0, .ref SN), (1, .ref 0), (2, .ref 38), (3, .ref 71), (4, .int x4)], [], mk X, σ)
        exact lg_L_1515 sc hsc hpr _ ih _ _ _ h
      refine And.intro (fun hp => absurd (hp.trans (by decide)) c267) (fun _ => ?_)
      rcases ite_sp h with ⟨c275, h⟩ | ⟨c275, h⟩
      · refine And.intro (fun _ => ?_) (fun hn => absurd (c275.trans (by decide)) hn)
        show ExL pr sc (rtE (some (.int r)) (mk X2) σ2) (1552, [(0, .ref SN), (1, .ref 0), (2, .ref 38), (3, .ref 71), (4, .int x4)], [], mk X, σ)
        show ExL pr sc (rtE (some (.int r)) (mk X2) σ2) (1552, [(0, .ref SN), (1, .ref 0), (2, .ref 38), (3, .ref 71), (4, .int x4)], [], mk X, σ)
        exact lg_L_1552 sc hsc hpr _ ih _ _ _ h
      refine And.intro (fun hp => absurd (hp.trans (by decide)) c275) (fun _ => ?_)
      rcases ite_sp h with ⟨c281, h⟩ | ⟨c281, h⟩
      · refine And.intro (fun _ => ?_) (fun hn => absurd (c281.trans (by decide)) hn)
        show ExL pr sc (rtE (some (.int r)) (mk X2) σ2) (1577, [(0, .ref SN), (1, .ref 0), (2, .ref 38), (3, .ref 71), (4, .int x4)], [], mk X, σ)
        show ExL pr sc (rtE (some (.int r)) (mk X2) σ2) (1577, [(0, .ref SN), (1, .ref 0), (2, .ref 38), (3, .ref 71), (4, .int x4)], [], mk X, σ)
        exact lg_L_1577 sc hsc hpr _ ih _ _ _ h
      refine And.intro (fun hp => absurd (hp.trans (by decide)) c281) (fun _ => ?_)
      rcases ite_sp h with ⟨c289, h⟩ | ⟨c289, h⟩
      · refine And.intro (fun _ => ?_) (fun hn => absurd (c289.trans (by decide)) hn)
        show ExL pr sc (rtE (some (.int r)) (mk X2) σ2) (1614, [(0, .ref SN), (1, .ref 0), (2, .ref 38), (3, .ref 71), (4, .int x4)], [], mk X, σ)
        show ExL pr sc (rtE (some (.int r)) (mk X2) σ2) (1614, [(0, .ref SN), (1, .ref 0), (2, .ref 38), (3, .ref 71), (4, .int x4)], [], mk X, σ)
        exact lg_L_1614 sc hsc hpr _ ih _ _ _ h
      refine And.intro (fun hp => absurd (hp.trans (by decide)) c289) (fun _ => ?_)
      rcases ite_sp h with ⟨c293, h⟩ | ⟨c293, h⟩
      · refine And.intro (fun _ => ?_) (fun hn => absurd (c293.trans (by decide)) hn)
        show ExL pr sc (rtE (some (.int r)) (mk X2) σ2) (1627, [(0, .ref SN), (1, .ref 0), (2, .ref 38), (3, .ref 71), (4, .int x4)], [], mk X, σ)
        show ExL pr sc (rtE (some (.int r)) (mk X2) σ2) (1627, [(0, .ref SN), (1, .ref 0), (2, .ref 38), (3, .ref 71), (4, .int x4)], [], mk X, σ)
        exact lg_L_1627 sc hsc hpr _ ih _ _ _ h
      refine And.intro (fun hp => absurd (hp.trans (by decide)) c293) (fun _ => ?_)
      rcases ite_sp h with ⟨c299, h⟩ | ⟨c299, h⟩
      · refine And.intro (fun _ => ?_) (fun hn => absurd (c299.trans (by decide)) hn)
        show ExL pr sc (rtE (some (.int r)) (mk X2) σ2) (1652, [(0, .ref SN), (1, .ref 0), (2, .ref 38), (3, .ref 71), (4, .int x4)], [], mk X, σ)
        show ExL pr sc (rtE (some (.int r)) (mk X2) σ2) (1652, [(0, .ref SN), (1, .ref 0), (2, .ref 38), (3, .ref 71), (4, .int x4)], [], mk X, σ)
        exact lg_L_1652 sc hsc hpr _ ih _ _ _ h
      refine And.intro (fun hp => absurd (hp.trans (by decide)) c299) (fun _ => ?_)
      rcases ite_sp h with ⟨c305, h⟩ | ⟨c305, h⟩
      · refine And.intro (fun _ => ?_) (fun hn => absurd (c305.trans (by decide)) hn)
        show ExL pr sc (rtE (some (.int r)) (mk X2) σ2) (1677, [(0, .ref SN), (1, .ref 0), (2, .ref 38), (3, .ref 71), (4, .int x4)], [], mk X, σ)
        show ExL pr sc (rtE (some (.int r)) (mk X2) σ2) (1677, [(0, .ref SN), (1, .ref 0), (2, .ref 38), (3, .ref 71), (4, .int x4)], [], mk X, σ)
        exact lg_L_1677 sc hsc hpr _ ih _ _ _ h
      refine And.intro (fun hp => absurd (hp.trans (by decide)) c305) (fun _ => ?_)
      rcases ite_sp h with ⟨c315, h⟩ | ⟨c315, h⟩
      · refine And.intro (fun _ => ?_) (fun hn => absurd (c315.trans (by decide)) hn)
        show ExL pr sc (rtE (some (.int r)) (mk X2) σ2) (1726, [(0, .ref SN), (1, .ref 0), (2, .ref 38), (3, .ref 71), (4, .int x4)], [], mk X, σ)
        show ExL pr sc (rtE (some (.int r)) (mk X2) σ2) (1726, [(0, .ref SN), (1, .ref 0), (2, .ref 38), (3, .ref 71), (4, .int x4)], [], mk X, σ)
        exact lg_L_1726 sc hsc hpr _ ih _ _ _ h
      refine And.intro (fun hp => absurd (hp.trans (by decide)) c315) (fun _ => ?_)
      rcases ite_sp h with ⟨c323, h⟩ | ⟨c323, h⟩
      · refine And.intro (fun _ => ?_) (fun hn => absurd (c323.trans (by decide)) hn)
        show ExL pr sc (rtE (some (.int r)) (mk X2) σ2) (1763, [(0, .ref SN), (1, .ref 0), (2, .ref 38), (3, .ref 71), (4, .int x4)], [], mk X, σ)
        show ExL pr sc (rtE (some (.int r)) (mk X2) σ2) (1763, [(0, .ref SN), (1, .ref 0), (2, .ref 38), (3, .ref 71), (4, .int x4)], [], mk X, σ)
        exact lg_L_1763 sc hsc hpr _ ih _ _ _ h
      refine And.intro (fun hp => absurd (hp.trans (by decide)) c323) (fun _ => ?_)
      rcases ite_sp h with ⟨c329, h⟩ | ⟨c329, h⟩
      · refine And.intro (fun _ => ?_) (fun hn => absurd (c329.trans (by decide)) hn)
        show ExL pr sc (rtE (some (.int r)) (mk X2) σ2) (1788, [(0, .ref SN), (1, .ref 0), (2, .ref 38), (3, .ref 71), (4, .int x4)], [], mk X, σ)
        show ExL pr sc (rtE (some (.int r)) (mk X2) σ2) (1788, [(0, .ref SN), (1, .ref 0), (2, .ref 38), (3, .ref 71), (4, .int x4)], [], mk X, σ)
        exact lg_L_1788 sc hsc hpr _ ih _ _ _ h
      refine And.intro (fun hp => absurd (hp.trans (by decide)) c329) (fun _ => ?_)
      rcases ite_sp h with ⟨c337, h⟩ | ⟨c337, h⟩
      · refine And.intro (fun _ => ?_) (fun hn => absurd (c337.trans (by decide)) hn)
        show ExL pr sc (rtE (some (.int r)) (mk X2) σ2) (1825, [(0, .ref SN), (1, .ref 0), (2, .ref 38), (3, .ref 71), (4, .int x4)], [], mk X, σ)
        show ExL pr sc (rtE (some (.int r)) (mk X2) σ2) (1825, [(0, .ref SN), (1, .ref 0), (2, .ref 38), (3, .ref 71), (4, .int x4)], [], mk X, σ)
        exact lg_L_1825 sc hsc hpr _ ih _ _ _ h
      refine And.intro (fun hp => absurd (hp.trans (by decide)) c337) (fun _ => ?_)
      rcases ite_sp h with ⟨c341, h⟩ | ⟨c341, h⟩
      · refine And.intro (fun _ => ?_) (fun hn => absurd (c341.trans (by decide)) hn)
        show ExL pr sc (rtE (some (.int r)) (mk X2) σ2) (1838, [(0, .ref SN), (1, .ref 0), (2, .ref 38), (3, .ref 71), (4, .int x4)], [], mk X, σ)
        show ExL pr sc (rtE (some (.int r)) (mk X2) σ2) (1838, [(0, .ref SN), (1, .ref 0), (2, .ref 38), (3, .ref 71), (4, .int x4)], [], mk X, σ)
        exact lg_L_1838 sc hsc hpr _ ih _ _ _ h
      refine And.intro (fun hp => absurd (hp.trans (by decide)) c341) (fun _ => ?_)
      rcases ite_sp h with ⟨c345, h⟩ | ⟨c345, h⟩
      · refine And.intro (fun _ => ?_) (fun hn => absurd (c345.trans (by decide)) hn)
        show ExL pr sc (rtE (some (.int r)) (mk X2) σ2) (1851, [(0, .ref SN), (1, .ref 0), (2, .ref 38), (3, .ref 71), (4, .int x4)], [], mk X, σ)
        show ExL pr sc (rtE (some (.int r)) (mk X2) σ2) (1851, [(0, .ref SN), (1, .ref 0), (2, .ref 38), (3, .ref 71), (4, .int x4)], [], mk X, σ)
        exact lg_L_1851 sc hsc hpr _ ih _ _ _ h
      refine And.intro (fun hp => absurd (hp.trans (by decide)) c345) (fun _ => ?_)
      show ExL pr sc (rtE (some (.int r)) (mk X2) σ2) (1876, [(0, .ref SN), (1, .ref 0), (2, .ref 38), (3, .ref 71), (4, .int x4)], [], mk X, σ)
      show ExL pr sc (rtE (some (.int r)) (mk X2) σ2) (1876, [(0, .ref SN), (1, .ref 0), (2, .ref 38), (3, .ref 71), (4, .int x4)], [], mk X, σ)
      exact lg_L_1876 sc hsc hpr _ ih _ _ _ h
theorem le_L_pre {pr : Ct} (sc : Nat × (Nat → Int32)) (hsc : sc.1 ≤ 3073) (hpr : ∀ (c : Int32) (E : En) (σ : St) (d : Nat), Cl MT pr sc (d + 9) 51 [.ref LN, .int c] E σ (some (.int (ixo c))) E σ) {rt : Rt} {t1 t2 t3 : Nat} {X2 : En} {σ2 : St} (X : En) (σ : St) (h : e_L_pre sc X σ = some (t1, t2, t3, X2, σ2)) (hx : ExL pr sc rt (33, [(4, .int 1), (3, .ref t3), (2, .ref t2), (1, .ref t1), (0, .ref SN)], [], X2, σ2)) : ExL pr sc rt (0, [(0, .ref SN)], [], X, σ) := by
  unfold e_L_pre at h
  obtain ⟨t1, Y2, τ3, he4, h⟩ := mkO_sp h
  refine exL_new rfl he4 ?_
  show ExL pr sc rt (3, [(0, .ref SN)], [.ref t1], Y2, τ3)
  obtain ⟨hk_t1_Y2, h⟩ := gd_some h
  refine ExL.blk 3 rfl ?_
  show ExL pr sc rt (6, [(0, .ref SN)], [.int 0, .ref SN, .ref t1, .ref t1], Y2, τ3)
  refine ExL.blk 1 rfl ?_
  refine Exists.intro (some (.int (if 0 < sc.1 then sc.2 0 else 0))) (Exists.intro (Y2) (Exists.intro (τ3) (And.intro (cl_L_cell hsc 59) ?_)))
  show ExL pr sc rt (9, [(0, .ref SN)], [.int (if 0 < sc.1 then sc.2 0 else 0), .ref t1, .ref t1], Y2, τ3)
  obtain ⟨p5, hp5, h⟩ := bind_sp h
  refine ExL.blk 1 rfl ?_
  refine Exists.intro none (Exists.intro p5.1 (Exists.intro p5.2 (And.intro (ce_X9_init 57 hp5) ?_)))
  show ExL pr sc rt (12, [(0, .ref SN)], [.ref t1], p5.1, p5.2)
  obtain ⟨hk_t1_p5_1, h⟩ := gd_some h
  refine ExL.blk 1 rfl ?_
  show ExL pr sc rt (13, [(1, .ref t1), (0, .ref SN)], [], p5.1, p5.2)
  obtain ⟨t6, Y7, τ8, he9, h⟩ := mkO_sp h
  refine exL_new rfl he9 ?_
  show ExL pr sc rt (16, [(1, .ref t1), (0, .ref SN)], [.ref t6], Y7, τ8)
  obtain ⟨hk_t1_Y7, h⟩ := gd_some h
  obtain ⟨hk_t6_Y7, h⟩ := gd_some h
  refine ExL.blk 3 rfl ?_
  show ExL pr sc rt (19, [(1, .ref t1), (0, .ref SN)], [.int 0, .ref SN, .ref t6, .ref t6], Y7, τ8)
  refine ExL.blk 1 rfl ?_
  refine Exists.intro (some (.int (if 0 < sc.1 then sc.2 0 else 0))) (Exists.intro (Y7) (Exists.intro (τ8) (And.intro (cl_L_cell hsc 59) ?_)))
  show ExL pr sc rt (22, [(1, .ref t1), (0, .ref SN)], [.int (if 0 < sc.1 then sc.2 0 else 0), .ref t6, .ref t6], Y7, τ8)
  obtain ⟨p10, hp10, h⟩ := bind_sp h
  refine ExL.blk 1 rfl ?_
  refine Exists.intro none (Exists.intro p10.1 (Exists.intro p10.2 (And.intro (ce_X10_init 59 hp10) ?_)))
  show ExL pr sc rt (25, [(1, .ref t1), (0, .ref SN)], [.ref t6], p10.1, p10.2)
  obtain ⟨hk_t1_p10_1, h⟩ := gd_some h
  obtain ⟨hk_t6_p10_1, h⟩ := gd_some h
  refine ExL.blk 2 rfl ?_
  show ExL pr sc rt (27, [(2, .ref t6), (1, .ref t1), (0, .ref SN)], [.int 1], p10.1, p10.2)
  obtain ⟨t11, Y12, τ13, he14, h⟩ := mkA_sp h
  refine exL_nwa rfl (by decide) he14 ?_
  show ExL pr sc rt (29, [(2, .ref t6), (1, .ref t1), (0, .ref SN)], [.ref t11], Y12, τ13)
  obtain ⟨hk_t6_Y12, h⟩ := gd_some h
  obtain ⟨hk_t1_Y12, h⟩ := gd_some h
  obtain ⟨hk_t11_Y12, h⟩ := gd_some h
  refine ExL.blk 3 rfl ?_
  show ExL pr sc rt (33, [(4, .int 1), (3, .ref t11), (2, .ref t6), (1, .ref t1), (0, .ref SN)], [], Y12, τ13)
  show ExL pr sc rt (33, [(4, .int 1), (3, .ref t11), (2, .ref t6), (1, .ref t1), (0, .ref SN)], [], Y12, τ13)
  cases h
  exact hx
