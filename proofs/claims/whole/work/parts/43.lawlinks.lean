theorem lg_L_1876 {pr : Ct} (sc : Nat × (Nat → Int32)) (hsc : sc.1 ≤ 3073) (hpr : ∀ (c : Int32) (E : En) (σ : St) (d : Nat), Cl MT pr sc (d + 9) 51 [.ref LN, .int c] E σ (some (.int (ixo c))) E σ) {r : Int32} {X2 : En} {σ2 : St} (k33 : Int32 → En → St → Option (Int32 × En × St)) (hk33 : ∀ (x4 : Int32) (X : En) (σ : St), k33 x4 X σ = some (r, X2, σ2) → ExL pr sc (rtE (some (.int r)) (mk X2) σ2) (33, [(0, .ref SN), (1, .ref 0), (2, .ref 38), (3, .ref 71), (4, .int x4)], [], mk X, σ)) (x4 : Int32) (X : En) (σ : St) (h : g_L_1876 sc k33 x4 X σ = some (r, X2, σ2)) : ExL pr sc (rtE (some (.int r)) (mk X2) σ2) (1876, [(0, .ref SN), (1, .ref 0), (2, .ref 38), (3, .ref 71), (4, .int x4)], [], mk X, σ) := by
  unfold g_L_1876 at h
  refine ExL.blk 2 rfl ?_
  show ExL pr sc (rtE (some (.int r)) (mk X2) σ2) (33, [(4, .int (x4 + 6)), (0, .ref SN), (1, .ref 0), (2, .ref 38), (3, .ref 71)], [], mk X, σ)
  show ExL pr sc (rtE (some (.int r)) (mk X2) σ2) (33, [(4, .int (x4 + 6)), (0, .ref SN), (1, .ref 0), (2, .ref 38), (3, .ref 71)], [], mk X, σ)
  refine ExL.pick (lv' := _) [1, 2, 3, 4, 0] rfl ?_
  exact hk33 _ _ _ h
theorem lg_L_252 {pr : Ct} (sc : Nat × (Nat → Int32)) (hsc : sc.1 ≤ 3073) (hpr : ∀ (c : Int32) (E : En) (σ : St) (d : Nat), Cl MT pr sc (d + 9) 51 [.ref LN, .int c] E σ (some (.int (ixo c))) E σ) {r : Int32} {X2 : En} {σ2 : St} (k33 : Int32 → En → St → Option (Int32 × En × St)) (hk33 : ∀ (x4 : Int32) (X : En) (σ : St), k33 x4 X σ = some (r, X2, σ2) → ExL pr sc (rtE (some (.int r)) (mk X2) σ2) (33, [(0, .ref SN), (1, .ref 0), (2, .ref 38), (3, .ref 71), (4, .int x4)], [], mk X, σ)) (x4 : Int32) (X : En) (σ : St) (h : g_L_252 sc k33 x4 X σ = some (r, X2, σ2)) : ExL pr sc (rtE (some (.int r)) (mk X2) σ2) (252, [(0, .ref SN), (1, .ref 0), (2, .ref 38), (3, .ref 71), (4, .int x4)], [], mk X, σ) := by
  unfold g_L_252 at h
  refine ExL.blk 5 rfl ?_
  show ExL pr sc (rtE (some (.int r)) (mk X2) σ2) (258, [(0, .ref SN), (1, .ref 0), (2, .ref 38), (3, .ref 71), (4, .int x4)], [.int (x4 + 1), .ref SN, .ref 0], mk X, σ)
  obtain ⟨g3, h⟩ := gd_some h
  refine ExL.blk 1 rfl ?_
  refine And.intro (inb_ok g3) ?_
  show ExL pr sc (rtE (some (.int r)) (mk X2) σ2) (259, [(0, .ref SN), (1, .ref 0), (2, .ref 38), (3, .ref 71), (4, .int x4)], [.int (sc.2 (x4 + 1).toNatClampNeg), .ref 0], mk X, σ)
  refine ExL.blk 4 rfl ?_
  show ExL pr sc (rtE (some (.int r)) (mk X2) σ2) (264, [(0, .ref SN), (1, .ref 0), (2, .ref 38), (3, .ref 71), (4, .int x4)], [.int (x4 + 2), .ref SN, .int (sc.2 (x4 + 1).toNatClampNeg), .ref 0], mk X, σ)
  obtain ⟨g4, h⟩ := gd_some h
  refine ExL.blk 1 rfl ?_
  refine And.intro (inb_ok g4) ?_
  show ExL pr sc (rtE (some (.int r)) (mk X2) σ2) (265, [(0, .ref SN), (1, .ref 0), (2, .ref 38), (3, .ref 71), (4, .int x4)], [.int (sc.2 (x4 + 2).toNatClampNeg), .int (sc.2 (x4 + 1).toNatClampNeg), .ref 0], mk X, σ)
  refine ExL.blk 4 rfl ?_
  show ExL pr sc (rtE (some (.int r)) (mk X2) σ2) (270, [(0, .ref SN), (1, .ref 0), (2, .ref 38), (3, .ref 71), (4, .int x4)], [.int (x4 + 3), .ref SN, .int (sc.2 (x4 + 2).toNatClampNeg), .int (sc.2 (x4 + 1).toNatClampNeg), .ref 0], mk X, σ)
  obtain ⟨g5, h⟩ := gd_some h
  refine ExL.blk 1 rfl ?_
  refine And.intro (inb_ok g5) ?_
  show ExL pr sc (rtE (some (.int r)) (mk X2) σ2) (271, [(0, .ref SN), (1, .ref 0), (2, .ref 38), (3, .ref 71), (4, .int x4)], [.int (sc.2 (x4 + 3).toNatClampNeg), .int (sc.2 (x4 + 2).toNatClampNeg), .int (sc.2 (x4 + 1).toNatClampNeg), .ref 0], mk X, σ)
  refine ExL.blk 4 rfl ?_
  show ExL pr sc (rtE (some (.int r)) (mk X2) σ2) (276, [(0, .ref SN), (1, .ref 0), (2, .ref 38), (3, .ref 71), (4, .int x4)], [.int (x4 + 4), .ref SN, .int (sc.2 (x4 + 3).toNatClampNeg), .int (sc.2 (x4 + 2).toNatClampNeg), .int (sc.2 (x4 + 1).toNatClampNeg), .ref 0], mk X, σ)
  obtain ⟨g6, h⟩ := gd_some h
  refine ExL.blk 1 rfl ?_
  refine And.intro (inb_ok g6) ?_
  show ExL pr sc (rtE (some (.int r)) (mk X2) σ2) (277, [(0, .ref SN), (1, .ref 0), (2, .ref 38), (3, .ref 71), (4, .int x4)], [.int (sc.2 (x4 + 4).toNatClampNeg), .int (sc.2 (x4 + 3).toNatClampNeg), .int (sc.2 (x4 + 2).toNatClampNeg), .int (sc.2 (x4 + 1).toNatClampNeg), .ref 0], mk X, σ)
  refine ExL.blk 4 rfl ?_
  show ExL pr sc (rtE (some (.int r)) (mk X2) σ2) (282, [(0, .ref SN), (1, .ref 0), (2, .ref 38), (3, .ref 71), (4, .int x4)], [.int (x4 + 5), .ref SN, .int (sc.2 (x4 + 4).toNatClampNeg), .int (sc.2 (x4 + 3).toNatClampNeg), .int (sc.2 (x4 + 2).toNatClampNeg), .int (sc.2 (x4 + 1).toNatClampNeg), .ref 0], mk X, σ)
  obtain ⟨g7, h⟩ := gd_some h
  refine ExL.blk 1 rfl ?_
  refine And.intro (inb_ok g7) ?_
  show ExL pr sc (rtE (some (.int r)) (mk X2) σ2) (283, [(0, .ref SN), (1, .ref 0), (2, .ref 38), (3, .ref 71), (4, .int x4)], [.int (sc.2 (x4 + 5).toNatClampNeg), .int (sc.2 (x4 + 4).toNatClampNeg), .int (sc.2 (x4 + 3).toNatClampNeg), .int (sc.2 (x4 + 2).toNatClampNeg), .int (sc.2 (x4 + 1).toNatClampNeg), .ref 0], mk X, σ)
  obtain ⟨p8, hp8, h⟩ := bind_sp h
  refine ExL.blk 1 rfl ?_
  refine Exists.intro (some (.int p8.1)) (Exists.intro (mk X) (Exists.intro p8.2 (And.intro (cl_X9_feed 58 hp8) ?_)))
  show ExL pr sc (rtE (some (.int r)) (mk X2) σ2) (286, [(0, .ref SN), (1, .ref 0), (2, .ref 38), (3, .ref 71), (4, .int x4)], [.int p8.1], mk X, p8.2)
  refine ExL.blk 5 rfl ?_
  show ExL pr sc (rtE (some (.int r)) (mk X2) σ2) (292, [(0, .ref SN), (1, .ref 0), (2, .ref 38), (3, .ref 71), (4, .int x4)], [.int (x4 + 1), .ref SN, .ref 38, .int p8.1], mk X, p8.2)
  obtain ⟨g9, h⟩ := gd_some h
  refine ExL.blk 1 rfl ?_
  refine And.intro (inb_ok g9) ?_
  show ExL pr sc (rtE (some (.int r)) (mk X2) σ2) (293, [(0, .ref SN), (1, .ref 0), (2, .ref 38), (3, .ref 71), (4, .int x4)], [.int (sc.2 (x4 + 1).toNatClampNeg), .ref 38, .int p8.1], mk X, p8.2)
  refine ExL.blk 4 rfl ?_
  show ExL pr sc (rtE (some (.int r)) (mk X2) σ2) (298, [(0, .ref SN), (1, .ref 0), (2, .ref 38), (3, .ref 71), (4, .int x4)], [.int (x4 + 2), .ref SN, .int (sc.2 (x4 + 1).toNatClampNeg), .ref 38, .int p8.1], mk X, p8.2)
  obtain ⟨g10, h⟩ := gd_some h
  refine ExL.blk 1 rfl ?_
  refine And.intro (inb_ok g10) ?_
  show ExL pr sc (rtE (some (.int r)) (mk X2) σ2) (299, [(0, .ref SN), (1, .ref 0), (2, .ref 38), (3, .ref 71), (4, .int x4)], [.int (sc.2 (x4 + 2).toNatClampNeg), .int (sc.2 (x4 + 1).toNatClampNeg), .ref 38, .int p8.1], mk X, p8.2)
  refine ExL.blk 4 rfl ?_
  show ExL pr sc (rtE (some (.int r)) (mk X2) σ2) (304, [(0, .ref SN), (1, .ref 0), (2, .ref 38), (3, .ref 71), (4, .int x4)], [.int (x4 + 3), .ref SN, .int (sc.2 (x4 + 2).toNatClampNeg), .int (sc.2 (x4 + 1).toNatClampNeg), .ref 38, .int p8.1], mk X, p8.2)
  obtain ⟨g11, h⟩ := gd_some h
  refine ExL.blk 1 rfl ?_
  refine And.intro (inb_ok g11) ?_
  show ExL pr sc (rtE (some (.int r)) (mk X2) σ2) (305, [(0, .ref SN), (1, .ref 0), (2, .ref 38), (3, .ref 71), (4, .int x4)], [.int (sc.2 (x4 + 3).toNatClampNeg), .int (sc.2 (x4 + 2).toNatClampNeg), .int (sc.2 (x4 + 1).toNatClampNeg), .ref 38, .int p8.1], mk X, p8.2)
  refine ExL.blk 4 rfl ?_
  show ExL pr sc (rtE (some (.int r)) (mk X2) σ2) (310, [(0, .ref SN), (1, .ref 0), (2, .ref 38), (3, .ref 71), (4, .int x4)], [.int (x4 + 4), .ref SN, .int (sc.2 (x4 + 3).toNatClampNeg), .int (sc.2 (x4 + 2).toNatClampNeg), .int (sc.2 (x4 + 1).toNatClampNeg), .ref 38, .int p8.1], mk X, p8.2)
  obtain ⟨g12, h⟩ := gd_some h
  refine ExL.blk 1 rfl ?_
  refine And.intro (inb_ok g12) ?_
  show ExL pr sc (rtE (some (.int r)) (mk X2) σ2) (311, [(0, .ref SN), (1, .ref 0), (2, .ref 38), (3, .ref 71), (4, .int x4)], [.int (sc.2 (x4 + 4).toNatClampNeg), .int (sc.2 (x4 + 3).toNatClampNeg), .int (sc.2 (x4 + 2).toNatClampNeg), .int (sc.2 (x4 + 1).toNatClampNeg), .ref 38, .int p8.1], mk X, p8.2)
  refine ExL.blk 4 rfl ?_
  show ExL pr sc (rtE (some (.int r)) (mk X2) σ2) (316, [(0, .ref SN), (1, .ref 0), (2, .ref 38), (3, .ref 71), (4, .int x4)], [.int (x4 + 5), .ref SN, .int (sc.2 (x4 + 4).toNatClampNeg), .int (sc.2 (x4 + 3).toNatClampNeg), .int (sc.2 (x4 + 2).toNatClampNeg), .int (sc.2 (x4 + 1).toNatClampNeg), .ref 38, .int p8.1], mk X, p8.2)
  obtain ⟨g13, h⟩ := gd_some h
  refine ExL.blk 1 rfl ?_
  refine And.intro (inb_ok g13) ?_
  show ExL pr sc (rtE (some (.int r)) (mk X2) σ2) (317, [(0, .ref SN), (1, .ref 0), (2, .ref 38), (3, .ref 71), (4, .int x4)], [.int (sc.2 (x4 + 5).toNatClampNeg), .int (sc.2 (x4 + 4).toNatClampNeg), .int (sc.2 (x4 + 3).toNatClampNeg), .int (sc.2 (x4 + 2).toNatClampNeg), .int (sc.2 (x4 + 1).toNatClampNeg), .ref 38, .int p8.1], mk X, p8.2)
  obtain ⟨p14, hp14, h⟩ := bind_sp h
  refine ExL.blk 1 rfl ?_
  refine Exists.intro (some (.int p14.1)) (Exists.intro (mk X) (Exists.intro p14.2 (And.intro (cl_X10_feed 58 hp14) ?_)))
  show ExL pr sc (rtE (some (.int r)) (mk X2) σ2) (320, [(0, .ref SN), (1, .ref 0), (2, .ref 38), (3, .ref 71), (4, .int x4)], [.int p14.1, .int p8.1], mk X, p14.2)
  refine ExL.blk 1 rfl ?_
  rcases ite_sp h with ⟨c15, h⟩ | ⟨c15, h⟩
  · refine And.intro (fun _ => ?_) (fun hn => absurd c15 hn)
    show ExL pr sc (rtE (some (.int r)) (mk X2) σ2) (1876, [(0, .ref SN), (1, .ref 0), (2, .ref 38), (3, .ref 71), (4, .int x4)], [], mk X, p14.2)
    show ExL pr sc (rtE (some (.int r)) (mk X2) σ2) (1876, [(0, .ref SN), (1, .ref 0), (2, .ref 38), (3, .ref 71), (4, .int x4)], [], mk X, p14.2)
    exact lg_L_1876 sc hsc hpr _ hk33 _ _ _ h
  · refine And.intro (fun hp => absurd hp c15) (fun _ => ?_)
    show ExL pr sc (rtE (some (.int r)) (mk X2) σ2) (323, [(0, .ref SN), (1, .ref 0), (2, .ref 38), (3, .ref 71), (4, .int x4)], [], mk X, p14.2)
    refine ExL.blk 2 rfl ?_
    cases h
    exact And.intro isb_0 ⟨rfl, rfl, rfl⟩
theorem lg_L_325 {pr : Ct} (sc : Nat × (Nat → Int32)) (hsc : sc.1 ≤ 3073) (hpr : ∀ (c : Int32) (E : En) (σ : St) (d : Nat), Cl MT pr sc (d + 9) 51 [.ref LN, .int c] E σ (some (.int (ixo c))) E σ) {r : Int32} {X2 : En} {σ2 : St} (k33 : Int32 → En → St → Option (Int32 × En × St)) (hk33 : ∀ (x4 : Int32) (X : En) (σ : St), k33 x4 X σ = some (r, X2, σ2) → ExL pr sc (rtE (some (.int r)) (mk X2) σ2) (33, [(0, .ref SN), (1, .ref 0), (2, .ref 38), (3, .ref 71), (4, .int x4)], [], mk X, σ)) (x4 : Int32) (X : En) (σ : St) (h : g_L_325 sc k33 x4 X σ = some (r, X2, σ2)) : ExL pr sc (rtE (some (.int r)) (mk X2) σ2) (325, [(0, .ref SN), (1, .ref 0), (2, .ref 38), (3, .ref 71), (4, .int x4)], [], mk X, σ) := by
  unfold g_L_325 at h
  refine ExL.blk 5 rfl ?_
  show ExL pr sc (rtE (some (.int r)) (mk X2) σ2) (331, [(0, .ref SN), (1, .ref 0), (2, .ref 38), (3, .ref 71), (4, .int x4)], [.int (x4 + 1), .ref SN, .ref 0], mk X, σ)
  obtain ⟨g17, h⟩ := gd_some h
  refine ExL.blk 1 rfl ?_
  refine And.intro (inb_ok g17) ?_
  show ExL pr sc (rtE (some (.int r)) (mk X2) σ2) (332, [(0, .ref SN), (1, .ref 0), (2, .ref 38), (3, .ref 71), (4, .int x4)], [.int (sc.2 (x4 + 1).toNatClampNeg), .ref 0], mk X, σ)
  obtain ⟨p18, hp18, h⟩ := bind_sp h
  refine ExL.blk 1 rfl ?_
  refine Exists.intro (some (.int p18.1)) (Exists.intro (mk X) (Exists.intro p18.2 (And.intro (cl_X9_end 59 hp18) ?_)))
  show ExL pr sc (rtE (some (.int r)) (mk X2) σ2) (335, [(0, .ref SN), (1, .ref 0), (2, .ref 38), (3, .ref 71), (4, .int x4)], [.int p18.1], mk X, p18.2)
  refine ExL.blk 5 rfl ?_
  show ExL pr sc (rtE (some (.int r)) (mk X2) σ2) (341, [(0, .ref SN), (1, .ref 0), (2, .ref 38), (3, .ref 71), (4, .int x4)], [.int (x4 + 1), .ref SN, .ref 38, .int p18.1], mk X, p18.2)
  obtain ⟨g19, h⟩ := gd_some h
  refine ExL.blk 1 rfl ?_
  refine And.intro (inb_ok g19) ?_
  show ExL pr sc (rtE (some (.int r)) (mk X2) σ2) (342, [(0, .ref SN), (1, .ref 0), (2, .ref 38), (3, .ref 71), (4, .int x4)], [.int (sc.2 (x4 + 1).toNatClampNeg), .ref 38, .int p18.1], mk X, p18.2)
  obtain ⟨p20, hp20, h⟩ := bind_sp h
  refine ExL.blk 1 rfl ?_
  refine Exists.intro (some (.int p20.1)) (Exists.intro (mk X) (Exists.intro p20.2 (And.intro (cl_X10_end 59 hp20) ?_)))
  show ExL pr sc (rtE (some (.int r)) (mk X2) σ2) (345, [(0, .ref SN), (1, .ref 0), (2, .ref 38), (3, .ref 71), (4, .int x4)], [.int p20.1, .int p18.1], mk X, p20.2)
  refine ExL.blk 1 rfl ?_
  rcases ite_sp h with ⟨c21, h⟩ | ⟨c21, h⟩
  · refine And.intro (fun _ => ?_) (fun hn => absurd c21 hn)
    show ExL pr sc (rtE (some (.int r)) (mk X2) σ2) (1876, [(0, .ref SN), (1, .ref 0), (2, .ref 38), (3, .ref 71), (4, .int x4)], [], mk X, p20.2)
    show ExL pr sc (rtE (some (.int r)) (mk X2) σ2) (1876, [(0, .ref SN), (1, .ref 0), (2, .ref 38), (3, .ref 71), (4, .int x4)], [], mk X, p20.2)
    exact lg_L_1876 sc hsc hpr _ hk33 _ _ _ h
  · refine And.intro (fun hp => absurd hp c21) (fun _ => ?_)
    show ExL pr sc (rtE (some (.int r)) (mk X2) σ2) (348, [(0, .ref SN), (1, .ref 0), (2, .ref 38), (3, .ref 71), (4, .int x4)], [], mk X, p20.2)
    refine ExL.blk 2 rfl ?_
    cases h
    exact And.intro isb_0 ⟨rfl, rfl, rfl⟩
theorem lg_L_350 {pr : Ct} (sc : Nat × (Nat → Int32)) (hsc : sc.1 ≤ 3073) (hpr : ∀ (c : Int32) (E : En) (σ : St) (d : Nat), Cl MT pr sc (d + 9) 51 [.ref LN, .int c] E σ (some (.int (ixo c))) E σ) {r : Int32} {X2 : En} {σ2 : St} (k33 : Int32 → En → St → Option (Int32 × En × St)) (hk33 : ∀ (x4 : Int32) (X : En) (σ : St), k33 x4 X σ = some (r, X2, σ2) → ExL pr sc (rtE (some (.int r)) (mk X2) σ2) (33, [(0, .ref SN), (1, .ref 0), (2, .ref 38), (3, .ref 71), (4, .int x4)], [], mk X, σ)) (x4 : Int32) (X : En) (σ : St) (h : g_L_350 sc k33 x4 X σ = some (r, X2, σ2)) : ExL pr sc (rtE (some (.int r)) (mk X2) σ2) (350, [(0, .ref SN), (1, .ref 0), (2, .ref 38), (3, .ref 71), (4, .int x4)], [], mk X, σ) := by
  unfold g_L_350 at h
  refine ExL.blk 1 rfl ?_
  show ExL pr sc (rtE (some (.int r)) (mk X2) σ2) (351, [(0, .ref SN), (1, .ref 0), (2, .ref 38), (3, .ref 71), (4, .int x4)], [.ref 0], mk X, σ)
  obtain ⟨p23, hp23, h⟩ := bind_sp h
  refine ExL.blk 1 rfl ?_
  refine Exists.intro (some (.int p23.1)) (Exists.intro (mk p23.2.1) (Exists.intro p23.2.2 (And.intro (cg_X9_fault hpr 48 hp23) ?_)))
  show ExL pr sc (rtE (some (.int r)) (mk X2) σ2) (354, [(0, .ref SN), (1, .ref 0), (2, .ref 38), (3, .ref 71), (4, .int x4)], [.int p23.1], mk p23.2.1, p23.2.2)
  refine ExL.blk 1 rfl ?_
  show ExL pr sc (rtE (some (.int r)) (mk X2) σ2) (355, [(0, .ref SN), (1, .ref 0), (2, .ref 38), (3, .ref 71), (4, .int x4)], [.ref 38, .int p23.1], mk p23.2.1, p23.2.2)
  obtain ⟨p24, hp24, h⟩ := bind_sp h
  refine ExL.blk 1 rfl ?_
  refine Exists.intro (some (.int p24.1)) (Exists.intro (mk p23.2.1) (Exists.intro p24.2 (And.intro (cl_X10_fault 54 hp24) ?_)))
  show ExL pr sc (rtE (some (.int r)) (mk X2) σ2) (358, [(0, .ref SN), (1, .ref 0), (2, .ref 38), (3, .ref 71), (4, .int x4)], [.int p24.1, .int p23.1], mk p23.2.1, p24.2)
  refine ExL.blk 1 rfl ?_
  rcases ite_sp h with ⟨c25, h⟩ | ⟨c25, h⟩
  · refine And.intro (fun _ => ?_) (fun hn => absurd c25 hn)
    show ExL pr sc (rtE (some (.int r)) (mk X2) σ2) (1876, [(0, .ref SN), (1, .ref 0), (2, .ref 38), (3, .ref 71), (4, .int x4)], [], mk p23.2.1, p24.2)
    show ExL pr sc (rtE (some (.int r)) (mk X2) σ2) (1876, [(0, .ref SN), (1, .ref 0), (2, .ref 38), (3, .ref 71), (4, .int x4)], [], mk p23.2.1, p24.2)
    exact lg_L_1876 sc hsc hpr _ hk33 _ _ _ h
  · refine And.intro (fun hp => absurd hp c25) (fun _ => ?_)
    show ExL pr sc (rtE (some (.int r)) (mk X2) σ2) (361, [(0, .ref SN), (1, .ref 0), (2, .ref 38), (3, .ref 71), (4, .int x4)], [], mk p23.2.1, p24.2)
    refine ExL.blk 2 rfl ?_
    cases h
    exact And.intro isb_0 ⟨rfl, rfl, rfl⟩
theorem lg_L_363 {pr : Ct} (sc : Nat × (Nat → Int32)) (hsc : sc.1 ≤ 3073) (hpr : ∀ (c : Int32) (E : En) (σ : St) (d : Nat), Cl MT pr sc (d + 9) 51 [.ref LN, .int c] E σ (some (.int (ixo c))) E σ) {r : Int32} {X2 : En} {σ2 : St} (k33 : Int32 → En → St → Option (Int32 × En × St)) (hk33 : ∀ (x4 : Int32) (X : En) (σ : St), k33 x4 X σ = some (r, X2, σ2) → ExL pr sc (rtE (some (.int r)) (mk X2) σ2) (33, [(0, .ref SN), (1, .ref 0), (2, .ref 38), (3, .ref 71), (4, .int x4)], [], mk X, σ)) (x4 : Int32) (X : En) (σ : St) (h : g_L_363 sc k33 x4 X σ = some (r, X2, σ2)) : ExL pr sc (rtE (some (.int r)) (mk X2) σ2) (363, [(0, .ref SN), (1, .ref 0), (2, .ref 38), (3, .ref 71), (4, .int x4)], [], mk X, σ) := by
  unfold g_L_363 at h
  refine ExL.blk 1 rfl ?_
  show ExL pr sc (rtE (some (.int r)) (mk X2) σ2) (364, [(0, .ref SN), (1, .ref 0), (2, .ref 38), (3, .ref 71), (4, .int x4)], [.ref 0], mk X, σ)
  obtain ⟨p27, hp27, h⟩ := bind_sp h
  refine ExL.blk 1 rfl ?_
  refine Exists.intro (some (.int p27.1)) (Exists.intro (mk p27.2.1) (Exists.intro p27.2.2 (And.intro (cg_X9_text hpr 48 hp27) ?_)))
  show ExL pr sc (rtE (some (.int r)) (mk X2) σ2) (367, [(0, .ref SN), (1, .ref 0), (2, .ref 38), (3, .ref 71), (4, .int x4)], [.int p27.1], mk p27.2.1, p27.2.2)
  refine ExL.blk 1 rfl ?_
  show ExL pr sc (rtE (some (.int r)) (mk X2) σ2) (368, [(0, .ref SN), (1, .ref 0), (2, .ref 38), (3, .ref 71), (4, .int x4)], [.ref 38, .int p27.1], mk p27.2.1, p27.2.2)
  obtain ⟨p28, hp28, h⟩ := bind_sp h
  refine ExL.blk 1 rfl ?_
  refine Exists.intro (some (.int p28.1)) (Exists.intro (mk p27.2.1) (Exists.intro p28.2 (And.intro (cl_X10_text 54 hp28) ?_)))
  show ExL pr sc (rtE (some (.int r)) (mk X2) σ2) (371, [(0, .ref SN), (1, .ref 0), (2, .ref 38), (3, .ref 71), (4, .int x4)], [.int p28.1, .int p27.1], mk p27.2.1, p28.2)
  refine ExL.blk 1 rfl ?_
  rcases ite_sp h with ⟨c29, h⟩ | ⟨c29, h⟩
  · refine And.intro (fun _ => ?_) (fun hn => absurd c29 hn)
    show ExL pr sc (rtE (some (.int r)) (mk X2) σ2) (1876, [(0, .ref SN), (1, .ref 0), (2, .ref 38), (3, .ref 71), (4, .int x4)], [], mk p27.2.1, p28.2)
    show ExL pr sc (rtE (some (.int r)) (mk X2) σ2) (1876, [(0, .ref SN), (1, .ref 0), (2, .ref 38), (3, .ref 71), (4, .int x4)], [], mk p27.2.1, p28.2)
    exact lg_L_1876 sc hsc hpr _ hk33 _ _ _ h
  · refine And.intro (fun hp => absurd hp c29) (fun _ => ?_)
    show ExL pr sc (rtE (some (.int r)) (mk X2) σ2) (374, [(0, .ref SN), (1, .ref 0), (2, .ref 38), (3, .ref 71), (4, .int x4)], [], mk p27.2.1, p28.2)
    refine ExL.blk 2 rfl ?_
    cases h
    exact And.intro isb_0 ⟨rfl, rfl, rfl⟩
theorem lg_L_453 {pr : Ct} (sc : Nat × (Nat → Int32)) (hsc : sc.1 ≤ 3073) (hpr : ∀ (c : Int32) (E : En) (σ : St) (d : Nat), Cl MT pr sc (d + 9) 51 [.ref LN, .int c] E σ (some (.int (ixo c))) E σ) {r : Int32} {X2 : En} {σ2 : St} (k33 : Int32 → En → St → Option (Int32 × En × St)) (hk33 : ∀ (x4 : Int32) (X : En) (σ : St), k33 x4 X σ = some (r, X2, σ2) → ExL pr sc (rtE (some (.int r)) (mk X2) σ2) (33, [(0, .ref SN), (1, .ref 0), (2, .ref 38), (3, .ref 71), (4, .int x4)], [], mk X, σ)) (x4 : Int32) (X : En) (σ : St) (h : g_L_453 sc k33 x4 X σ = some (r, X2, σ2)) : ExL pr sc (rtE (some (.int r)) (mk X2) σ2) (453, [(0, .ref SN), (1, .ref 0), (2, .ref 38), (3, .ref 71), (4, .int x4)], [], mk X, σ) := by
  unfold g_L_453 at h
  refine ExL.blk 1 rfl ?_
  show ExL pr sc (rtE (some (.int r)) (mk X2) σ2) (1876, [(0, .ref SN), (1, .ref 0), (2, .ref 38), (3, .ref 71), (4, .int x4)], [], mk X, σ)
  show ExL pr sc (rtE (some (.int r)) (mk X2) σ2) (1876, [(0, .ref SN), (1, .ref 0), (2, .ref 38), (3, .ref 71), (4, .int x4)], [], mk X, σ)
  exact lg_L_1876 sc hsc hpr _ hk33 _ _ _ h
theorem lg_L_376 {pr : Ct} (sc : Nat × (Nat → Int32)) (hsc : sc.1 ≤ 3073) (hpr : ∀ (c : Int32) (E : En) (σ : St) (d : Nat), Cl MT pr sc (d + 9) 51 [.ref LN, .int c] E σ (some (.int (ixo c))) E σ) {r : Int32} {X2 : En} {σ2 : St} (k33 : Int32 → En → St → Option (Int32 × En × St)) (hk33 : ∀ (x4 : Int32) (X : En) (σ : St), k33 x4 X σ = some (r, X2, σ2) → ExL pr sc (rtE (some (.int r)) (mk X2) σ2) (33, [(0, .ref SN), (1, .ref 0), (2, .ref 38), (3, .ref 71), (4, .int x4)], [], mk X, σ)) (x4 : Int32) (X : En) (σ : St) (h : g_L_376 sc k33 x4 X σ = some (r, X2, σ2)) : ExL pr sc (rtE (some (.int r)) (mk X2) σ2) (376, [(0, .ref SN), (1, .ref 0), (2, .ref 38), (3, .ref 71), (4, .int x4)], [], mk X, σ) := by
  unfold g_L_376 at h
  refine ExL.blk 5 rfl ?_
  show ExL pr sc (rtE (some (.int r)) (mk X2) σ2) (382, [(0, .ref SN), (1, .ref 0), (2, .ref 38), (3, .ref 71), (4, .int x4)], [.int (x4 + 1), .ref SN, .ref 0], mk X, σ)
  obtain ⟨g31, h⟩ := gd_some h
  refine ExL.blk 1 rfl ?_
  refine And.intro (inb_ok g31) ?_
  show ExL pr sc (rtE (some (.int r)) (mk X2) σ2) (383, [(0, .ref SN), (1, .ref 0), (2, .ref 38), (3, .ref 71), (4, .int x4)], [.int (sc.2 (x4 + 1).toNatClampNeg), .ref 0], mk X, σ)
  refine ExL.blk 4 rfl ?_
  show ExL pr sc (rtE (some (.int r)) (mk X2) σ2) (388, [(0, .ref SN), (1, .ref 0), (2, .ref 38), (3, .ref 71), (4, .int x4)], [.int (x4 + 2), .ref SN, .int (sc.2 (x4 + 1).toNatClampNeg), .ref 0], mk X, σ)
  obtain ⟨g32, h⟩ := gd_some h
  refine ExL.blk 1 rfl ?_
  refine And.intro (inb_ok g32) ?_
  show ExL pr sc (rtE (some (.int r)) (mk X2) σ2) (389, [(0, .ref SN), (1, .ref 0), (2, .ref 38), (3, .ref 71), (4, .int x4)], [.int (sc.2 (x4 + 2).toNatClampNeg), .int (sc.2 (x4 + 1).toNatClampNeg), .ref 0], mk X, σ)
  refine ExL.blk 4 rfl ?_
  show ExL pr sc (rtE (some (.int r)) (mk X2) σ2) (394, [(0, .ref SN), (1, .ref 0), (2, .ref 38), (3, .ref 71), (4, .int x4)], [.int (x4 + 3), .ref SN, .int (sc.2 (x4 + 2).toNatClampNeg), .int (sc.2 (x4 + 1).toNatClampNeg), .ref 0], mk X, σ)
  obtain ⟨g33, h⟩ := gd_some h
  refine ExL.blk 1 rfl ?_
  refine And.intro (inb_ok g33) ?_
  show ExL pr sc (rtE (some (.int r)) (mk X2) σ2) (395, [(0, .ref SN), (1, .ref 0), (2, .ref 38), (3, .ref 71), (4, .int x4)], [.int (sc.2 (x4 + 3).toNatClampNeg), .int (sc.2 (x4 + 2).toNatClampNeg), .int (sc.2 (x4 + 1).toNatClampNeg), .ref 0], mk X, σ)
  refine ExL.blk 1 rfl ?_
  show ExL pr sc (rtE (some (.int r)) (mk X2) σ2) (396, [(0, .ref SN), (1, .ref 0), (2, .ref 38), (3, .ref 71), (4, .int x4)], [.ref 71, .int (sc.2 (x4 + 3).toNatClampNeg), .int (sc.2 (x4 + 2).toNatClampNeg), .int (sc.2 (x4 + 1).toNatClampNeg), .ref 0], mk X, σ)
  obtain ⟨p34, hp34, h⟩ := bind_sp h
  refine ExL.step (some (.int p34.1)) (mk p34.2.1) p34.2.2 (Nat.le_refl _) rfl ⟨_, _, _, _, _, _, rfl, rfl, hp34, rfl, rfl⟩ ?_
  show ExL pr sc (rtE (some (.int r)) (mk X2) σ2) (399, [(0, .ref SN), (1, .ref 0), (2, .ref 38), (3, .ref 71), (4, .int x4)], [.int p34.1], mk p34.2.1, p34.2.2)
  refine ExL.blk 5 rfl ?_
  show ExL pr sc (rtE (some (.int r)) (mk X2) σ2) (406, [(5, .int p34.1), (0, .ref SN), (1, .ref 0), (2, .ref 38), (3, .ref 71), (4, .int x4)], [.int 1, .int x4, .ref SN, .ref 38], mk p34.2.1, p34.2.2)
  refine ExL.blk 1 rfl ?_
  show ExL pr sc (rtE (some (.int r)) (mk X2) σ2) (407, [(5, .int p34.1), (0, .ref SN), (1, .ref 0), (2, .ref 38), (3, .ref 71), (4, .int x4)], [.int (x4 + 1), .ref SN, .ref 38], mk p34.2.1, p34.2.2)
  obtain ⟨g35, h⟩ := gd_some h
  refine ExL.blk 1 rfl ?_
  refine And.intro (inb_ok g35) ?_
  show ExL pr sc (rtE (some (.int r)) (mk X2) σ2) (408, [(5, .int p34.1), (0, .ref SN), (1, .ref 0), (2, .ref 38), (3, .ref 71), (4, .int x4)], [.int (sc.2 (x4 + 1).toNatClampNeg), .ref 38], mk p34.2.1, p34.2.2)
  refine ExL.blk 4 rfl ?_
  show ExL pr sc (rtE (some (.int r)) (mk X2) σ2) (413, [(5, .int p34.1), (0, .ref SN), (1, .ref 0), (2, .ref 38), (3, .ref 71), (4, .int x4)], [.int (x4 + 2), .ref SN, .int (sc.2 (x4 + 1).toNatClampNeg), .ref 38], mk p34.2.1, p34.2.2)
  obtain ⟨g36, h⟩ := gd_some h
  refine ExL.blk 1 rfl ?_
  refine And.intro (inb_ok g36) ?_
  show ExL pr sc (rtE (some (.int r)) (mk X2) σ2) (414, [(5, .int p34.1), (0, .ref SN), (1, .ref 0), (2, .ref 38), (3, .ref 71), (4, .int x4)], [.int (sc.2 (x4 + 2).toNatClampNeg), .int (sc.2 (x4 + 1).toNatClampNeg), .ref 38], mk p34.2.1, p34.2.2)
  refine ExL.blk 4 rfl ?_
  show ExL pr sc (rtE (some (.int r)) (mk X2) σ2) (419, [(5, .int p34.1), (0, .ref SN), (1, .ref 0), (2, .ref 38), (3, .ref 71), (4, .int x4)], [.int (x4 + 3), .ref SN, .int (sc.2 (x4 + 2).toNatClampNeg), .int (sc.2 (x4 + 1).toNatClampNeg), .ref 38], mk p34.2.1, p34.2.2)
  obtain ⟨g37, h⟩ := gd_some h
  refine ExL.blk 1 rfl ?_
  refine And.intro (inb_ok g37) ?_
  show ExL pr sc (rtE (some (.int r)) (mk X2) σ2) (420, [(5, .int p34.1), (0, .ref SN), (1, .ref 0), (2, .ref 38), (3, .ref 71), (4, .int x4)], [.int (sc.2 (x4 + 3).toNatClampNeg), .int (sc.2 (x4 + 2).toNatClampNeg), .int (sc.2 (x4 + 1).toNatClampNeg), .ref 38], mk p34.2.1, p34.2.2)
  obtain ⟨p38, hp38, h⟩ := bind_sp h
  refine ExL.blk 1 rfl ?_
  refine Exists.intro (some (.int p38.1)) (Exists.intro (mk p34.2.1) (Exists.intro p38.2 (And.intro (cl_X10_step 57 hp38) ?_)))
  show ExL pr sc (rtE (some (.int r)) (mk X2) σ2) (423, [(5, .int p34.1), (0, .ref SN), (1, .ref 0), (2, .ref 38), (3, .ref 71), (4, .int x4)], [.int p38.1], mk p34.2.1, p38.2)
  refine ExL.blk 2 rfl ?_
  show ExL pr sc (rtE (some (.int r)) (mk X2) σ2) (426, [(6, .int p38.1), (5, .int p34.1), (0, .ref SN), (1, .ref 0), (2, .ref 38), (3, .ref 71), (4, .int x4)], [.ref 38], mk p34.2.1, p38.2)
  obtain ⟨p39, hp39, h⟩ := bind_sp h
  refine ExL.blk 1 rfl ?_
  refine Exists.intro (some (.int p39.1)) (Exists.intro (mk p34.2.1) (Exists.intro p39.2 (And.intro (cl_X10_thrown 59 hp39) ?_)))
  show ExL pr sc (rtE (some (.int r)) (mk X2) σ2) (429, [(6, .int p38.1), (5, .int p34.1), (0, .ref SN), (1, .ref 0), (2, .ref 38), (3, .ref 71), (4, .int x4)], [.int p39.1], mk p34.2.1, p39.2)
  refine ExL.blk 2 rfl ?_
  rcases ite_sp h with ⟨c43, h⟩ | ⟨c43, h⟩
  · refine And.intro (fun _ => ?_) (fun hn => absurd c43 hn)
    show ExL pr sc (rtE (some (.int r)) (mk X2) σ2) (436, [(6, .int p38.1), (5, .int p34.1), (0, .ref SN), (1, .ref 0), (2, .ref 38), (3, .ref 71), (4, .int x4)], [], mk p34.2.1, p39.2)
    refine ExL.blk 2 rfl ?_
    rcases ite_sp h with ⟨c42, h⟩ | ⟨c42, h⟩
    · refine And.intro (fun hp => absurd c42 hp) (fun _ => ?_)
      show ExL pr sc (rtE (some (.int r)) (mk X2) σ2) (441, [(6, .int p38.1), (5, .int p34.1), (0, .ref SN), (1, .ref 0), (2, .ref 38), (3, .ref 71), (4, .int x4)], [], mk p34.2.1, p39.2)
      refine ExL.blk 2 rfl ?_
      show ExL pr sc (rtE (some (.int r)) (mk X2) σ2) (443, [(6, .int p38.1), (5, .int p34.1), (0, .ref SN), (1, .ref 0), (2, .ref 38), (3, .ref 71), (4, .int x4)], [.int 0, .ref 71], mk p34.2.1, p39.2)
      obtain ⟨g40, h⟩ := gd_some h
      refine ExL.blk 1 rfl ?_
      refine And.intro (inb_ok g40) ?_
      show ExL pr sc (rtE (some (.int r)) (mk X2) σ2) (444, [(6, .int p38.1), (5, .int p34.1), (0, .ref SN), (1, .ref 0), (2, .ref 38), (3, .ref 71), (4, .int x4)], [.long (gJ p39.2 71 (0 : Int32).toNatClampNeg)], mk p34.2.1, p39.2)
      refine ExL.blk 4 rfl ?_
      rcases ite_sp h with ⟨c41, h⟩ | ⟨c41, h⟩
      · refine And.intro (fun _ => ?_) (fun hn => absurd c41 hn)
        show ExL pr sc (rtE (some (.int r)) (mk X2) σ2) (453, [(6, .int p38.1), (5, .int p34.1), (0, .ref SN), (1, .ref 0), (2, .ref 38), (3, .ref 71), (4, .int x4)], [], mk p34.2.1, p39.2)
        show ExL pr sc (rtE (some (.int r)) (mk X2) σ2) (453, [(6, .int p38.1), (5, .int p34.1), (0, .ref SN), (1, .ref 0), (2, .ref 38), (3, .ref 71), (4, .int x4)], [], mk p34.2.1, p39.2)
        refine ExL.pick (lv' := _) [2, 3, 4, 5, 6] rfl ?_
        exact lg_L_453 sc hsc hpr _ hk33 _ _ _ h
      · refine And.intro (fun hp => absurd hp c41) (fun _ => ?_)
        show ExL pr sc (rtE (some (.int r)) (mk X2) σ2) (451, [(6, .int p38.1), (5, .int p34.1), (0, .ref SN), (1, .ref 0), (2, .ref 38), (3, .ref 71), (4, .int x4)], [], mk p34.2.1, p39.2)
        refine ExL.blk 2 rfl ?_
        cases h
        exact And.intro isb_0 ⟨rfl, rfl, rfl⟩
    · refine And.intro (fun _ => ?_) (fun hn => absurd c42 hn)
      show ExL pr sc (rtE (some (.int r)) (mk X2) σ2) (453, [(6, .int p38.1), (5, .int p34.1), (0, .ref SN), (1, .ref 0), (2, .ref 38), (3, .ref 71), (4, .int x4)], [], mk p34.2.1, p39.2)
      show ExL pr sc (rtE (some (.int r)) (mk X2) σ2) (453, [(6, .int p38.1), (5, .int p34.1), (0, .ref SN), (1, .ref 0), (2, .ref 38), (3, .ref 71), (4, .int x4)], [], mk p34.2.1, p39.2)
      refine ExL.pick (lv' := _) [2, 3, 4, 5, 6] rfl ?_
      exact lg_L_453 sc hsc hpr _ hk33 _ _ _ h
  · refine And.intro (fun hp => absurd hp c43) (fun _ => ?_)
    show ExL pr sc (rtE (some (.int r)) (mk X2) σ2) (434, [(6, .int p38.1), (5, .int p34.1), (0, .ref SN), (1, .ref 0), (2, .ref 38), (3, .ref 71), (4, .int x4)], [], mk p34.2.1, p39.2)
    refine ExL.blk 2 rfl ?_
    cases h
    exact And.intro isb_0 ⟨rfl, rfl, rfl⟩
theorem lg_L_456 {pr : Ct} (sc : Nat × (Nat → Int32)) (hsc : sc.1 ≤ 3073) (hpr : ∀ (c : Int32) (E : En) (σ : St) (d : Nat), Cl MT pr sc (d + 9) 51 [.ref LN, .int c] E σ (some (.int (ixo c))) E σ) {r : Int32} {X2 : En} {σ2 : St} (k33 : Int32 → En → St → Option (Int32 × En × St)) (hk33 : ∀ (x4 : Int32) (X : En) (σ : St), k33 x4 X σ = some (r, X2, σ2) → ExL pr sc (rtE (some (.int r)) (mk X2) σ2) (33, [(0, .ref SN), (1, .ref 0), (2, .ref 38), (3, .ref 71), (4, .int x4)], [], mk X, σ)) (x4 : Int32) (X : En) (σ : St) (h : g_L_456 sc k33 x4 X σ = some (r, X2, σ2)) : ExL pr sc (rtE (some (.int r)) (mk X2) σ2) (456, [(0, .ref SN), (1, .ref 0), (2, .ref 38), (3, .ref 71), (4, .int x4)], [], mk X, σ) := by
  unfold g_L_456 at h
  refine ExL.blk 5 rfl ?_
  show ExL pr sc (rtE (some (.int r)) (mk X2) σ2) (462, [(0, .ref SN), (1, .ref 0), (2, .ref 38), (3, .ref 71), (4, .int x4)], [.int (x4 + 1), .ref SN, .ref 0], mk X, σ)
  obtain ⟨g45, h⟩ := gd_some h
  refine ExL.blk 1 rfl ?_
  refine And.intro (inb_ok g45) ?_
  show ExL pr sc (rtE (some (.int r)) (mk X2) σ2) (463, [(0, .ref SN), (1, .ref 0), (2, .ref 38), (3, .ref 71), (4, .int x4)], [.int (sc.2 (x4 + 1).toNatClampNeg), .ref 0], mk X, σ)
  refine ExL.blk 4 rfl ?_
  show ExL pr sc (rtE (some (.int r)) (mk X2) σ2) (468, [(0, .ref SN), (1, .ref 0), (2, .ref 38), (3, .ref 71), (4, .int x4)], [.int (x4 + 2), .ref SN, .int (sc.2 (x4 + 1).toNatClampNeg), .ref 0], mk X, σ)
  obtain ⟨g46, h⟩ := gd_some h
  refine ExL.blk 1 rfl ?_
  refine And.intro (inb_ok g46) ?_
  show ExL pr sc (rtE (some (.int r)) (mk X2) σ2) (469, [(0, .ref SN), (1, .ref 0), (2, .ref 38), (3, .ref 71), (4, .int x4)], [.int (sc.2 (x4 + 2).toNatClampNeg), .int (sc.2 (x4 + 1).toNatClampNeg), .ref 0], mk X, σ)
  obtain ⟨p47, hp47, h⟩ := bind_sp h
  refine ExL.blk 1 rfl ?_
  refine Exists.intro (some (.int p47.1)) (Exists.intro (mk X) (Exists.intro p47.2 (And.intro (cl_X9_set 59 hp47) ?_)))
  show ExL pr sc (rtE (some (.int r)) (mk X2) σ2) (472, [(0, .ref SN), (1, .ref 0), (2, .ref 38), (3, .ref 71), (4, .int x4)], [.int p47.1], mk X, p47.2)
  refine ExL.blk 5 rfl ?_
  show ExL pr sc (rtE (some (.int r)) (mk X2) σ2) (478, [(0, .ref SN), (1, .ref 0), (2, .ref 38), (3, .ref 71), (4, .int x4)], [.int (x4 + 1), .ref SN, .ref 38, .int p47.1], mk X, p47.2)
  obtain ⟨g48, h⟩ := gd_some h
  refine ExL.blk 1 rfl ?_
  refine And.intro (inb_ok g48) ?_
  show ExL pr sc (rtE (some (.int r)) (mk X2) σ2) (479, [(0, .ref SN), (1, .ref 0), (2, .ref 38), (3, .ref 71), (4, .int x4)], [.int (sc.2 (x4 + 1).toNatClampNeg), .ref 38, .int p47.1], mk X, p47.2)
  refine ExL.blk 4 rfl ?_
  show ExL pr sc (rtE (some (.int r)) (mk X2) σ2) (484, [(0, .ref SN), (1, .ref 0), (2, .ref 38), (3, .ref 71), (4, .int x4)], [.int (x4 + 2), .ref SN, .int (sc.2 (x4 + 1).toNatClampNeg), .ref 38, .int p47.1], mk X, p47.2)
  obtain ⟨g49, h⟩ := gd_some h
  refine ExL.blk 1 rfl ?_
  refine And.intro (inb_ok g49) ?_
  show ExL pr sc (rtE (some (.int r)) (mk X2) σ2) (485, [(0, .ref SN), (1, .ref 0), (2, .ref 38), (3, .ref 71), (4, .int x4)], [.int (sc.2 (x4 + 2).toNatClampNeg), .int (sc.2 (x4 + 1).toNatClampNeg), .ref 38, .int p47.1], mk X, p47.2)
  obtain ⟨p50, hp50, h⟩ := bind_sp h
  refine ExL.blk 1 rfl ?_
  refine Exists.intro (some (.int p50.1)) (Exists.intro (mk X) (Exists.intro p50.2 (And.intro (cl_X10_set 58 hp50) ?_)))
  show ExL pr sc (rtE (some (.int r)) (mk X2) σ2) (488, [(0, .ref SN), (1, .ref 0), (2, .ref 38), (3, .ref 71), (4, .int x4)], [.int p50.1, .int p47.1], mk X, p50.2)
  refine ExL.blk 1 rfl ?_
  rcases ite_sp h with ⟨c51, h⟩ | ⟨c51, h⟩
  · refine And.intro (fun _ => ?_) (fun hn => absurd c51 hn)
    show ExL pr sc (rtE (some (.int r)) (mk X2) σ2) (1876, [(0, .ref SN), (1, .ref 0), (2, .ref 38), (3, .ref 71), (4, .int x4)], [], mk X, p50.2)
    show ExL pr sc (rtE (some (.int r)) (mk X2) σ2) (1876, [(0, .ref SN), (1, .ref 0), (2, .ref 38), (3, .ref 71), (4, .int x4)], [], mk X, p50.2)
    exact lg_L_1876 sc hsc hpr _ hk33 _ _ _ h
  · refine And.intro (fun hp => absurd hp c51) (fun _ => ?_)
    show ExL pr sc (rtE (some (.int r)) (mk X2) σ2) (491, [(0, .ref SN), (1, .ref 0), (2, .ref 38), (3, .ref 71), (4, .int x4)], [], mk X, p50.2)
    refine ExL.blk 2 rfl ?_
    cases h
    exact And.intro isb_0 ⟨rfl, rfl, rfl⟩
theorem lg_L_493 {pr : Ct} (sc : Nat × (Nat → Int32)) (hsc : sc.1 ≤ 3073) (hpr : ∀ (c : Int32) (E : En) (σ : St) (d : Nat), Cl MT pr sc (d + 9) 51 [.ref LN, .int c] E σ (some (.int (ixo c))) E σ) {r : Int32} {X2 : En} {σ2 : St} (k33 : Int32 → En → St → Option (Int32 × En × St)) (hk33 : ∀ (x4 : Int32) (X : En) (σ : St), k33 x4 X σ = some (r, X2, σ2) → ExL pr sc (rtE (some (.int r)) (mk X2) σ2) (33, [(0, .ref SN), (1, .ref 0), (2, .ref 38), (3, .ref 71), (4, .int x4)], [], mk X, σ)) (x4 : Int32) (X : En) (σ : St) (h : g_L_493 sc k33 x4 X σ = some (r, X2, σ2)) : ExL pr sc (rtE (some (.int r)) (mk X2) σ2) (493, [(0, .ref SN), (1, .ref 0), (2, .ref 38), (3, .ref 71), (4, .int x4)], [], mk X, σ) := by
  unfold g_L_493 at h
  refine ExL.blk 5 rfl ?_
  show ExL pr sc (rtE (some (.int r)) (mk X2) σ2) (499, [(0, .ref SN), (1, .ref 0), (2, .ref 38), (3, .ref 71), (4, .int x4)], [.int (x4 + 1), .ref SN, .ref 0], mk X, σ)
  obtain ⟨g53, h⟩ := gd_some h
  refine ExL.blk 1 rfl ?_
  refine And.intro (inb_ok g53) ?_
  show ExL pr sc (rtE (some (.int r)) (mk X2) σ2) (500, [(0, .ref SN), (1, .ref 0), (2, .ref 38), (3, .ref 71), (4, .int x4)], [.int (sc.2 (x4 + 1).toNatClampNeg), .ref 0], mk X, σ)
  refine ExL.blk 4 rfl ?_
  show ExL pr sc (rtE (some (.int r)) (mk X2) σ2) (505, [(0, .ref SN), (1, .ref 0), (2, .ref 38), (3, .ref 71), (4, .int x4)], [.int (x4 + 2), .ref SN, .int (sc.2 (x4 + 1).toNatClampNeg), .ref 0], mk X, σ)
  obtain ⟨g54, h⟩ := gd_some h
  refine ExL.blk 1 rfl ?_
  refine And.intro (inb_ok g54) ?_
  show ExL pr sc (rtE (some (.int r)) (mk X2) σ2) (506, [(0, .ref SN), (1, .ref 0), (2, .ref 38), (3, .ref 71), (4, .int x4)], [.int (sc.2 (x4 + 2).toNatClampNeg), .int (sc.2 (x4 + 1).toNatClampNeg), .ref 0], mk X, σ)
  obtain ⟨p55, hp55, h⟩ := bind_sp h
  refine ExL.blk 1 rfl ?_
  refine Exists.intro (some (.int p55.1)) (Exists.intro (mk X) (Exists.intro p55.2 (And.intro (cl_X9_goats 58 hp55) ?_)))
  show ExL pr sc (rtE (some (.int r)) (mk X2) σ2) (509, [(0, .ref SN), (1, .ref 0), (2, .ref 38), (3, .ref 71), (4, .int x4)], [.int p55.1], mk X, p55.2)
  refine ExL.blk 5 rfl ?_
  show ExL pr sc (rtE (some (.int r)) (mk X2) σ2) (515, [(0, .ref SN), (1, .ref 0), (2, .ref 38), (3, .ref 71), (4, .int x4)], [.int (x4 + 1), .ref SN, .ref 38, .int p55.1], mk X, p55.2)
  obtain ⟨g56, h⟩ := gd_some h
  refine ExL.blk 1 rfl ?_
  refine And.intro (inb_ok g56) ?_
  show ExL pr sc (rtE (some (.int r)) (mk X2) σ2) (516, [(0, .ref SN), (1, .ref 0), (2, .ref 38), (3, .ref 71), (4, .int x4)], [.int (sc.2 (x4 + 1).toNatClampNeg), .ref 38, .int p55.1], mk X, p55.2)
  refine ExL.blk 4 rfl ?_
  show ExL pr sc (rtE (some (.int r)) (mk X2) σ2) (521, [(0, .ref SN), (1, .ref 0), (2, .ref 38), (3, .ref 71), (4, .int x4)], [.int (x4 + 2), .ref SN, .int (sc.2 (x4 + 1).toNatClampNeg), .ref 38, .int p55.1], mk X, p55.2)
  obtain ⟨g57, h⟩ := gd_some h
  refine ExL.blk 1 rfl ?_
  refine And.intro (inb_ok g57) ?_
  show ExL pr sc (rtE (some (.int r)) (mk X2) σ2) (522, [(0, .ref SN), (1, .ref 0), (2, .ref 38), (3, .ref 71), (4, .int x4)], [.int (sc.2 (x4 + 2).toNatClampNeg), .int (sc.2 (x4 + 1).toNatClampNeg), .ref 38, .int p55.1], mk X, p55.2)
  obtain ⟨p58, hp58, h⟩ := bind_sp h
  refine ExL.blk 1 rfl ?_
  refine Exists.intro (some (.int p58.1)) (Exists.intro (mk X) (Exists.intro p58.2 (And.intro (cl_X10_goats 57 hp58) ?_)))
  show ExL pr sc (rtE (some (.int r)) (mk X2) σ2) (525, [(0, .ref SN), (1, .ref 0), (2, .ref 38), (3, .ref 71), (4, .int x4)], [.int p58.1, .int p55.1], mk X, p58.2)
  refine ExL.blk 1 rfl ?_
  rcases ite_sp h with ⟨c59, h⟩ | ⟨c59, h⟩
  · refine And.intro (fun _ => ?_) (fun hn => absurd c59 hn)
    show ExL pr sc (rtE (some (.int r)) (mk X2) σ2) (1876, [(0, .ref SN), (1, .ref 0), (2, .ref 38), (3, .ref 71), (4, .int x4)], [], mk X, p58.2)
    show ExL pr sc (rtE (some (.int r)) (mk X2) σ2) (1876, [(0, .ref SN), (1, .ref 0), (2, .ref 38), (3, .ref 71), (4, .int x4)], [], mk X, p58.2)
    exact lg_L_1876 sc hsc hpr _ hk33 _ _ _ h
  · refine And.intro (fun hp => absurd hp c59) (fun _ => ?_)
    show ExL pr sc (rtE (some (.int r)) (mk X2) σ2) (528, [(0, .ref SN), (1, .ref 0), (2, .ref 38), (3, .ref 71), (4, .int x4)], [], mk X, p58.2)
    refine ExL.blk 2 rfl ?_
    cases h
    exact And.intro isb_0 ⟨rfl, rfl, rfl⟩
theorem lg_L_530 {pr : Ct} (sc : Nat × (Nat → Int32)) (hsc : sc.1 ≤ 3073) (hpr : ∀ (c : Int32) (E : En) (σ : St) (d : Nat), Cl MT pr sc (d + 9) 51 [.ref LN, .int c] E σ (some (.int (ixo c))) E σ) {r : Int32} {X2 : En} {σ2 : St} (k33 : Int32 → En → St → Option (Int32 × En × St)) (hk33 : ∀ (x4 : Int32) (X : En) (σ : St), k33 x4 X σ = some (r, X2, σ2) → ExL pr sc (rtE (some (.int r)) (mk X2) σ2) (33, [(0, .ref SN), (1, .ref 0), (2, .ref 38), (3, .ref 71), (4, .int x4)], [], mk X, σ)) (x4 : Int32) (X : En) (σ : St) (h : g_L_530 sc k33 x4 X σ = some (r, X2, σ2)) : ExL pr sc (rtE (some (.int r)) (mk X2) σ2) (530, [(0, .ref SN), (1, .ref 0), (2, .ref 38), (3, .ref 71), (4, .int x4)], [], mk X, σ) := by
  unfold g_L_530 at h
  refine ExL.blk 5 rfl ?_
  show ExL pr sc (rtE (some (.int r)) (mk X2) σ2) (536, [(0, .ref SN), (1, .ref 0), (2, .ref 38), (3, .ref 71), (4, .int x4)], [.int (x4 + 1), .ref SN, .ref 0], mk X, σ)
  obtain ⟨g61, h⟩ := gd_some h
  refine ExL.blk 1 rfl ?_
  refine And.intro (inb_ok g61) ?_
  show ExL pr sc (rtE (some (.int r)) (mk X2) σ2) (537, [(0, .ref SN), (1, .ref 0), (2, .ref 38), (3, .ref 71), (4, .int x4)], [.int (sc.2 (x4 + 1).toNatClampNeg), .ref 0], mk X, σ)
  refine ExL.blk 4 rfl ?_
  show ExL pr sc (rtE (some (.int r)) (mk X2) σ2) (542, [(0, .ref SN), (1, .ref 0), (2, .ref 38), (3, .ref 71), (4, .int x4)], [.int (x4 + 2), .ref SN, .int (sc.2 (x4 + 1).toNatClampNeg), .ref 0], mk X, σ)
  obtain ⟨g62, h⟩ := gd_some h
  refine ExL.blk 1 rfl ?_
  refine And.intro (inb_ok g62) ?_
  show ExL pr sc (rtE (some (.int r)) (mk X2) σ2) (543, [(0, .ref SN), (1, .ref 0), (2, .ref 38), (3, .ref 71), (4, .int x4)], [.int (sc.2 (x4 + 2).toNatClampNeg), .int (sc.2 (x4 + 1).toNatClampNeg), .ref 0], mk X, σ)
  refine ExL.blk 4 rfl ?_
  show ExL pr sc (rtE (some (.int r)) (mk X2) σ2) (548, [(0, .ref SN), (1, .ref 0), (2, .ref 38), (3, .ref 71), (4, .int x4)], [.int (x4 + 3), .ref SN, .int (sc.2 (x4 + 2).toNatClampNeg), .int (sc.2 (x4 + 1).toNatClampNeg), .ref 0], mk X, σ)
  obtain ⟨g63, h⟩ := gd_some h
  refine ExL.blk 1 rfl ?_
  refine And.intro (inb_ok g63) ?_
  show ExL pr sc (rtE (some (.int r)) (mk X2) σ2) (549, [(0, .ref SN), (1, .ref 0), (2, .ref 38), (3, .ref 71), (4, .int x4)], [.int (sc.2 (x4 + 3).toNatClampNeg), .int (sc.2 (x4 + 2).toNatClampNeg), .int (sc.2 (x4 + 1).toNatClampNeg), .ref 0], mk X, σ)
  obtain ⟨p64, hp64, h⟩ := bind_sp h
  refine ExL.blk 1 rfl ?_
  refine Exists.intro (some (.int p64.1)) (Exists.intro (mk X) (Exists.intro p64.2 (And.intro (cl_X9_echo 58 hp64) ?_)))
  show ExL pr sc (rtE (some (.int r)) (mk X2) σ2) (552, [(0, .ref SN), (1, .ref 0), (2, .ref 38), (3, .ref 71), (4, .int x4)], [.int p64.1], mk X, p64.2)
  refine ExL.blk 5 rfl ?_
  show ExL pr sc (rtE (some (.int r)) (mk X2) σ2) (558, [(0, .ref SN), (1, .ref 0), (2, .ref 38), (3, .ref 71), (4, .int x4)], [.int (x4 + 1), .ref SN, .ref 38, .int p64.1], mk X, p64.2)
  obtain ⟨g65, h⟩ := gd_some h
  refine ExL.blk 1 rfl ?_
  refine And.intro (inb_ok g65) ?_
  show ExL pr sc (rtE (some (.int r)) (mk X2) σ2) (559, [(0, .ref SN), (1, .ref 0), (2, .ref 38), (3, .ref 71), (4, .int x4)], [.int (sc.2 (x4 + 1).toNatClampNeg), .ref 38, .int p64.1], mk X, p64.2)
  refine ExL.blk 4 rfl ?_
  show ExL pr sc (rtE (some (.int r)) (mk X2) σ2) (564, [(0, .ref SN), (1, .ref 0), (2, .ref 38), (3, .ref 71), (4, .int x4)], [.int (x4 + 2), .ref SN, .int (sc.2 (x4 + 1).toNatClampNeg), .ref 38, .int p64.1], mk X, p64.2)
  obtain ⟨g66, h⟩ := gd_some h
  refine ExL.blk 1 rfl ?_
  refine And.intro (inb_ok g66) ?_
  show ExL pr sc (rtE (some (.int r)) (mk X2) σ2) (565, [(0, .ref SN), (1, .ref 0), (2, .ref 38), (3, .ref 71), (4, .int x4)], [.int (sc.2 (x4 + 2).toNatClampNeg), .int (sc.2 (x4 + 1).toNatClampNeg), .ref 38, .int p64.1], mk X, p64.2)
  refine ExL.blk 4 rfl ?_
  show ExL pr sc (rtE (some (.int r)) (mk X2) σ2) (570, [(0, .ref SN), (1, .ref 0), (2, .ref 38), (3, .ref 71), (4, .int x4)], [.int (x4 + 3), .ref SN, .int (sc.2 (x4 + 2).toNatClampNeg), .int (sc.2 (x4 + 1).toNatClampNeg), .ref 38, .int p64.1], mk X, p64.2)
  obtain ⟨g67, h⟩ := gd_some h
  refine ExL.blk 1 rfl ?_
  refine And.intro (inb_ok g67) ?_
  show ExL pr sc (rtE (some (.int r)) (mk X2) σ2) (571, [(0, .ref SN), (1, .ref 0), (2, .ref 38), (3, .ref 71), (4, .int x4)], [.int (sc.2 (x4 + 3).toNatClampNeg), .int (sc.2 (x4 + 2).toNatClampNeg), .int (sc.2 (x4 + 1).toNatClampNeg), .ref 38, .int p64.1], mk X, p64.2)
  obtain ⟨p68, hp68, h⟩ := bind_sp h
  refine ExL.blk 1 rfl ?_
  refine Exists.intro (some (.int p68.1)) (Exists.intro (mk X) (Exists.intro p68.2 (And.intro (cl_X10_echo 58 hp68) ?_)))
  show ExL pr sc (rtE (some (.int r)) (mk X2) σ2) (574, [(0, .ref SN), (1, .ref 0), (2, .ref 38), (3, .ref 71), (4, .int x4)], [.int p68.1, .int p64.1], mk X, p68.2)
  refine ExL.blk 1 rfl ?_
  rcases ite_sp h with ⟨c69, h⟩ | ⟨c69, h⟩
  · refine And.intro (fun _ => ?_) (fun hn => absurd c69 hn)
    show ExL pr sc (rtE (some (.int r)) (mk X2) σ2) (1876, [(0, .ref SN), (1, .ref 0), (2, .ref 38), (3, .ref 71), (4, .int x4)], [], mk X, p68.2)
    show ExL pr sc (rtE (some (.int r)) (mk X2) σ2) (1876, [(0, .ref SN), (1, .ref 0), (2, .ref 38), (3, .ref 71), (4, .int x4)], [], mk X, p68.2)
    exact lg_L_1876 sc hsc hpr _ hk33 _ _ _ h
  · refine And.intro (fun hp => absurd hp c69) (fun _ => ?_)
    show ExL pr sc (rtE (some (.int r)) (mk X2) σ2) (577, [(0, .ref SN), (1, .ref 0), (2, .ref 38), (3, .ref 71), (4, .int x4)], [], mk X, p68.2)
    refine ExL.blk 2 rfl ?_
    cases h
    exact And.intro isb_0 ⟨rfl, rfl, rfl⟩
theorem lg_L_579 {pr : Ct} (sc : Nat × (Nat → Int32)) (hsc : sc.1 ≤ 3073) (hpr : ∀ (c : Int32) (E : En) (σ : St) (d : Nat), Cl MT pr sc (d + 9) 51 [.ref LN, .int c] E σ (some (.int (ixo c))) E σ) {r : Int32} {X2 : En} {σ2 : St} (k33 : Int32 → En → St → Option (Int32 × En × St)) (hk33 : ∀ (x4 : Int32) (X : En) (σ : St), k33 x4 X σ = some (r, X2, σ2) → ExL pr sc (rtE (some (.int r)) (mk X2) σ2) (33, [(0, .ref SN), (1, .ref 0), (2, .ref 38), (3, .ref 71), (4, .int x4)], [], mk X, σ)) (x4 : Int32) (X : En) (σ : St) (h : g_L_579 sc k33 x4 X σ = some (r, X2, σ2)) : ExL pr sc (rtE (some (.int r)) (mk X2) σ2) (579, [(0, .ref SN), (1, .ref 0), (2, .ref 38), (3, .ref 71), (4, .int x4)], [], mk X, σ) := by
  unfold g_L_579 at h
  refine ExL.blk 5 rfl ?_
  show ExL pr sc (rtE (some (.int r)) (mk X2) σ2) (585, [(0, .ref SN), (1, .ref 0), (2, .ref 38), (3, .ref 71), (4, .int x4)], [.int (x4 + 1), .ref SN, .ref 0], mk X, σ)
  obtain ⟨g71, h⟩ := gd_some h
  refine ExL.blk 1 rfl ?_
  refine And.intro (inb_ok g71) ?_
  show ExL pr sc (rtE (some (.int r)) (mk X2) σ2) (586, [(0, .ref SN), (1, .ref 0), (2, .ref 38), (3, .ref 71), (4, .int x4)], [.int (sc.2 (x4 + 1).toNatClampNeg), .ref 0], mk X, σ)
  refine ExL.blk 5 rfl ?_
  show ExL pr sc (rtE (some (.int r)) (mk X2) σ2) (593, [(0, .ref SN), (1, .ref 0), (2, .ref 38), (3, .ref 71), (4, .int x4)], [.int x4, .ref SN, .long (shlJ ((sc.2 (x4 + 1).toNatClampNeg).toInt64) 32), .ref 0], mk X, σ)
  refine ExL.blk 2 rfl ?_
  show ExL pr sc (rtE (some (.int r)) (mk X2) σ2) (595, [(0, .ref SN), (1, .ref 0), (2, .ref 38), (3, .ref 71), (4, .int x4)], [.int (x4 + 2), .ref SN, .long (shlJ ((sc.2 (x4 + 1).toNatClampNeg).toInt64) 32), .ref 0], mk X, σ)
  obtain ⟨g72, h⟩ := gd_some h
  refine ExL.blk 1 rfl ?_
  refine And.intro (inb_ok g72) ?_
  show ExL pr sc (rtE (some (.int r)) (mk X2) σ2) (596, [(0, .ref SN), (1, .ref 0), (2, .ref 38), (3, .ref 71), (4, .int x4)], [.int (sc.2 (x4 + 2).toNatClampNeg), .long (shlJ ((sc.2 (x4 + 1).toNatClampNeg).toInt64) 32), .ref 0], mk X, σ)
  refine ExL.blk 4 rfl ?_
  show ExL pr sc (rtE (some (.int r)) (mk X2) σ2) (602, [(0, .ref SN), (1, .ref 0), (2, .ref 38), (3, .ref 71), (4, .int x4)], [.long ((shlJ ((sc.2 (x4 + 1).toNatClampNeg).toInt64) 32) ||| (((sc.2 (x4 + 2).toNatClampNeg).toInt64) &&& 4294967295)), .ref 0], mk X, σ)
  obtain ⟨p73, hp73, h⟩ := bind_sp h
  refine ExL.blk 1 rfl ?_
  refine Exists.intro none (Exists.intro (mk X) (Exists.intro p73 (And.intro (cl_X9_wind 59 hp73) ?_)))
  show ExL pr sc (rtE (some (.int r)) (mk X2) σ2) (605, [(0, .ref SN), (1, .ref 0), (2, .ref 38), (3, .ref 71), (4, .int x4)], [], mk X, p73)
  refine ExL.blk 5 rfl ?_
  show ExL pr sc (rtE (some (.int r)) (mk X2) σ2) (611, [(0, .ref SN), (1, .ref 0), (2, .ref 38), (3, .ref 71), (4, .int x4)], [.int (x4 + 1), .ref SN, .ref 38], mk X, p73)
  obtain ⟨g74, h⟩ := gd_some h
  refine ExL.blk 1 rfl ?_
  refine And.intro (inb_ok g74) ?_
  show ExL pr sc (rtE (some (.int r)) (mk X2) σ2) (612, [(0, .ref SN), (1, .ref 0), (2, .ref 38), (3, .ref 71), (4, .int x4)], [.int (sc.2 (x4 + 1).toNatClampNeg), .ref 38], mk X, p73)
  refine ExL.blk 5 rfl ?_
  show ExL pr sc (rtE (some (.int r)) (mk X2) σ2) (619, [(0, .ref SN), (1, .ref 0), (2, .ref 38), (3, .ref 71), (4, .int x4)], [.int x4, .ref SN, .long (shlJ ((sc.2 (x4 + 1).toNatClampNeg).toInt64) 32), .ref 38], mk X, p73)
  refine ExL.blk 2 rfl ?_
  show ExL pr sc (rtE (some (.int r)) (mk X2) σ2) (621, [(0, .ref SN), (1, .ref 0), (2, .ref 38), (3, .ref 71), (4, .int x4)], [.int (x4 + 2), .ref SN, .long (shlJ ((sc.2 (x4 + 1).toNatClampNeg).toInt64) 32), .ref 38], mk X, p73)
  obtain ⟨g75, h⟩ := gd_some h
  refine ExL.blk 1 rfl ?_
  refine And.intro (inb_ok g75) ?_
  show ExL pr sc (rtE (some (.int r)) (mk X2) σ2) (622, [(0, .ref SN), (1, .ref 0), (2, .ref 38), (3, .ref 71), (4, .int x4)], [.int (sc.2 (x4 + 2).toNatClampNeg), .long (shlJ ((sc.2 (x4 + 1).toNatClampNeg).toInt64) 32), .ref 38], mk X, p73)
  refine ExL.blk 4 rfl ?_
  show ExL pr sc (rtE (some (.int r)) (mk X2) σ2) (628, [(0, .ref SN), (1, .ref 0), (2, .ref 38), (3, .ref 71), (4, .int x4)], [.long ((shlJ ((sc.2 (x4 + 1).toNatClampNeg).toInt64) 32) ||| (((sc.2 (x4 + 2).toNatClampNeg).toInt64) &&& 4294967295)), .ref 38], mk X, p73)
  obtain ⟨p76, hp76, h⟩ := bind_sp h
  refine ExL.blk 1 rfl ?_
  refine Exists.intro none (Exists.intro (mk X) (Exists.intro p76 (And.intro (cl_X10_wind 59 hp76) ?_)))
  show ExL pr sc (rtE (some (.int r)) (mk X2) σ2) (631, [(0, .ref SN), (1, .ref 0), (2, .ref 38), (3, .ref 71), (4, .int x4)], [], mk X, p76)
  refine ExL.blk 1 rfl ?_
  show ExL pr sc (rtE (some (.int r)) (mk X2) σ2) (1876, [(0, .ref SN), (1, .ref 0), (2, .ref 38), (3, .ref 71), (4, .int x4)], [], mk X, p76)
  show ExL pr sc (rtE (some (.int r)) (mk X2) σ2) (1876, [(0, .ref SN), (1, .ref 0), (2, .ref 38), (3, .ref 71), (4, .int x4)], [], mk X, p76)
  exact lg_L_1876 sc hsc hpr _ hk33 _ _ _ h
theorem lg_L_679 {pr : Ct} (sc : Nat × (Nat → Int32)) (hsc : sc.1 ≤ 3073) (hpr : ∀ (c : Int32) (E : En) (σ : St) (d : Nat), Cl MT pr sc (d + 9) 51 [.ref LN, .int c] E σ (some (.int (ixo c))) E σ) {r : Int32} {X2 : En} {σ2 : St} (k33 : Int32 → En → St → Option (Int32 × En × St)) (hk33 : ∀ (x4 : Int32) (X : En) (σ : St), k33 x4 X σ = some (r, X2, σ2) → ExL pr sc (rtE (some (.int r)) (mk X2) σ2) (33, [(0, .ref SN), (1, .ref 0), (2, .ref 38), (3, .ref 71), (4, .int x4)], [], mk X, σ)) (x4 : Int32) (y0 : Int32) (y1 : Int32) (y3 : Int32) (X : En) (σ : St) (h : g_L_679 sc k33 x4 y0 y1 y3 X σ = some (r, X2, σ2)) : ExL pr sc (rtE (some (.int r)) (mk X2) σ2) (679, [(0, .ref SN), (1, .ref 0), (2, .ref 38), (3, .ref 71), (4, .int x4)], [.int y0, .int y1, .ref 38, .int y3], mk X, σ) := by
  unfold g_L_679 at h
  obtain ⟨p83, hp83, h⟩ := bind_sp h
  refine ExL.blk 1 rfl ?_
  refine Exists.intro (some (.int p83.1)) (Exists.intro (mk X) (Exists.intro p83.2 (And.intro (cl_X10_add 56 hp83) ?_)))
  show ExL pr sc (rtE (some (.int r)) (mk X2) σ2) (682, [(0, .ref SN), (1, .ref 0), (2, .ref 38), (3, .ref 71), (4, .int x4)], [.int p83.1, .int y3], mk X, p83.2)
  refine ExL.blk 1 rfl ?_
  rcases ite_sp h with ⟨c84, h⟩ | ⟨c84, h⟩
  · refine And.intro (fun _ => ?_) (fun hn => absurd c84 hn)
    show ExL pr sc (rtE (some (.int r)) (mk X2) σ2) (1876, [(0, .ref SN), (1, .ref 0), (2, .ref 38), (3, .ref 71), (4, .int x4)], [], mk X, p83.2)
    show ExL pr sc (rtE (some (.int r)) (mk X2) σ2) (1876, [(0, .ref SN), (1, .ref 0), (2, .ref 38), (3, .ref 71), (4, .int x4)], [], mk X, p83.2)
    exact lg_L_1876 sc hsc hpr _ hk33 _ _ _ h
  · refine And.intro (fun hp => absurd hp c84) (fun _ => ?_)
    show ExL pr sc (rtE (some (.int r)) (mk X2) σ2) (685, [(0, .ref SN), (1, .ref 0), (2, .ref 38), (3, .ref 71), (4, .int x4)], [], mk X, p83.2)
    refine ExL.blk 2 rfl ?_
    cases h
    exact And.intro isb_0 ⟨rfl, rfl, rfl⟩
theorem lg_L_655 {pr : Ct} (sc : Nat × (Nat → Int32)) (hsc : sc.1 ≤ 3073) (hpr : ∀ (c : Int32) (E : En) (σ : St) (d : Nat), Cl MT pr sc (d + 9) 51 [.ref LN, .int c] E σ (some (.int (ixo c))) E σ) {r : Int32} {X2 : En} {σ2 : St} (k33 : Int32 → En → St → Option (Int32 × En × St)) (hk33 : ∀ (x4 : Int32) (X : En) (σ : St), k33 x4 X σ = some (r, X2, σ2) → ExL pr sc (rtE (some (.int r)) (mk X2) σ2) (33, [(0, .ref SN), (1, .ref 0), (2, .ref 38), (3, .ref 71), (4, .int x4)], [], mk X, σ)) (x4 : Int32) (y0 : Int32) (y1 : Int32) (X : En) (σ : St) (h : g_L_655 sc k33 x4 y0 y1 X σ = some (r, X2, σ2)) : ExL pr sc (rtE (some (.int r)) (mk X2) σ2) (655, [(0, .ref SN), (1, .ref 0), (2, .ref 38), (3, .ref 71), (4, .int x4)], [.int y0, .int y1, .ref 0], mk X, σ) := by
  unfold g_L_655 at h
  obtain ⟨p80, hp80, h⟩ := bind_sp h
  refine ExL.blk 1 rfl ?_
  refine Exists.intro (some (.int p80.1)) (Exists.intro (mk X) (Exists.intro p80.2 (And.intro (cl_X9_add 54 hp80) ?_)))
  show ExL pr sc (rtE (some (.int r)) (mk X2) σ2) (658, [(0, .ref SN), (1, .ref 0), (2, .ref 38), (3, .ref 71), (4, .int x4)], [.int p80.1], mk X, p80.2)
  refine ExL.blk 5 rfl ?_
  show ExL pr sc (rtE (some (.int r)) (mk X2) σ2) (664, [(0, .ref SN), (1, .ref 0), (2, .ref 38), (3, .ref 71), (4, .int x4)], [.int (x4 + 1), .ref SN, .ref 38, .int p80.1], mk X, p80.2)
  obtain ⟨g81, h⟩ := gd_some h
  refine ExL.blk 1 rfl ?_
  refine And.intro (inb_ok g81) ?_
  show ExL pr sc (rtE (some (.int r)) (mk X2) σ2) (665, [(0, .ref SN), (1, .ref 0), (2, .ref 38), (3, .ref 71), (4, .int x4)], [.int (sc.2 (x4 + 1).toNatClampNeg), .ref 38, .int p80.1], mk X, p80.2)
  refine ExL.blk 4 rfl ?_
  show ExL pr sc (rtE (some (.int r)) (mk X2) σ2) (670, [(0, .ref SN), (1, .ref 0), (2, .ref 38), (3, .ref 71), (4, .int x4)], [.int (x4 + 2), .ref SN, .int (sc.2 (x4 + 1).toNatClampNeg), .ref 38, .int p80.1], mk X, p80.2)
  obtain ⟨g82, h⟩ := gd_some h
  refine ExL.blk 1 rfl ?_
  refine And.intro (inb_ok g82) ?_
  show ExL pr sc (rtE (some (.int r)) (mk X2) σ2) (671, [(0, .ref SN), (1, .ref 0), (2, .ref 38), (3, .ref 71), (4, .int x4)], [.int (sc.2 (x4 + 2).toNatClampNeg), .int (sc.2 (x4 + 1).toNatClampNeg), .ref 38, .int p80.1], mk X, p80.2)
  refine ExL.blk 1 rfl ?_
  rcases ite_sp h with ⟨c85, h⟩ | ⟨c85, h⟩
  · refine And.intro (fun _ => ?_) (fun hn => absurd c85 hn)
    show ExL pr sc (rtE (some (.int r)) (mk X2) σ2) (678, [(0, .ref SN), (1, .ref 0), (2, .ref 38), (3, .ref 71), (4, .int x4)], [.int (sc.2 (x4 + 1).toNatClampNeg), .ref 38, .int p80.1], mk X, p80.2)
    refine ExL.blk 1 rfl ?_
    show ExL pr sc (rtE (some (.int r)) (mk X2) σ2) (679, [(0, .ref SN), (1, .ref 0), (2, .ref 38), (3, .ref 71), (4, .int x4)], [.int 0, .int (sc.2 (x4 + 1).toNatClampNeg), .ref 38, .int p80.1], mk X, p80.2)
    show ExL pr sc (rtE (some (.int r)) (mk X2) σ2) (679, [(0, .ref SN), (1, .ref 0), (2, .ref 38), (3, .ref 71), (4, .int x4)], [.int 0, .int (sc.2 (x4 + 1).toNatClampNeg), .ref 38, .int p80.1], mk X, p80.2)
    exact lg_L_679 sc hsc hpr _ hk33 _ _ _ _ _ _ h
  · refine And.intro (fun hp => absurd hp c85) (fun _ => ?_)
    show ExL pr sc (rtE (some (.int r)) (mk X2) σ2) (674, [(0, .ref SN), (1, .ref 0), (2, .ref 38), (3, .ref 71), (4, .int x4)], [.int (sc.2 (x4 + 1).toNatClampNeg), .ref 38, .int p80.1], mk X, p80.2)
    refine ExL.blk 2 rfl ?_
    show ExL pr sc (rtE (some (.int r)) (mk X2) σ2) (679, [(0, .ref SN), (1, .ref 0), (2, .ref 38), (3, .ref 71), (4, .int x4)], [.int 1, .int (sc.2 (x4 + 1).toNatClampNeg), .ref 38, .int p80.1], mk X, p80.2)
    show ExL pr sc (rtE (some (.int r)) (mk X2) σ2) (679, [(0, .ref SN), (1, .ref 0), (2, .ref 38), (3, .ref 71), (4, .int x4)], [.int 1, .int (sc.2 (x4 + 1).toNatClampNeg), .ref 38, .int p80.1], mk X, p80.2)
    exact lg_L_679 sc hsc hpr _ hk33 _ _ _ _ _ _ h
theorem lg_L_634 {pr : Ct} (sc : Nat × (Nat → Int32)) (hsc : sc.1 ≤ 3073) (hpr : ∀ (c : Int32) (E : En) (σ : St) (d : Nat), Cl MT pr sc (d + 9) 51 [.ref LN, .int c] E σ (some (.int (ixo c))) E σ) {r : Int32} {X2 : En} {σ2 : St} (k33 : Int32 → En → St → Option (Int32 × En × St)) (hk33 : ∀ (x4 : Int32) (X : En) (σ : St), k33 x4 X σ = some (r, X2, σ2) → ExL pr sc (rtE (some (.int r)) (mk X2) σ2) (33, [(0, .ref SN), (1, .ref 0), (2, .ref 38), (3, .ref 71), (4, .int x4)], [], mk X, σ)) (x4 : Int32) (X : En) (σ : St) (h : g_L_634 sc k33 x4 X σ = some (r, X2, σ2)) : ExL pr sc (rtE (some (.int r)) (mk X2) σ2) (634, [(0, .ref SN), (1, .ref 0), (2, .ref 38), (3, .ref 71), (4, .int x4)], [], mk X, σ) := by
  unfold g_L_634 at h
  refine ExL.blk 5 rfl ?_
  show ExL pr sc (rtE (some (.int r)) (mk X2) σ2) (640, [(0, .ref SN), (1, .ref 0), (2, .ref 38), (3, .ref 71), (4, .int x4)], [.int (x4 + 1), .ref SN, .ref 0], mk X, σ)
  obtain ⟨g78, h⟩ := gd_some h
  refine ExL.blk 1 rfl ?_
  refine And.intro (inb_ok g78) ?_
  show ExL pr sc (rtE (some (.int r)) (mk X2) σ2) (641, [(0, .ref SN), (1, .ref 0), (2, .ref 38), (3, .ref 71), (4, .int x4)], [.int (sc.2 (x4 + 1).toNatClampNeg), .ref 0], mk X, σ)
  refine ExL.blk 4 rfl ?_
  show ExL pr sc (rtE (some (.int r)) (mk X2) σ2) (646, [(0, .ref SN), (1, .ref 0), (2, .ref 38), (3, .ref 71), (4, .int x4)], [.int (x4 + 2), .ref SN, .int (sc.2 (x4 + 1).toNatClampNeg), .ref 0], mk X, σ)
  obtain ⟨g79, h⟩ := gd_some h
  refine ExL.blk 1 rfl ?_
  refine And.intro (inb_ok g79) ?_
  show ExL pr sc (rtE (some (.int r)) (mk X2) σ2) (647, [(0, .ref SN), (1, .ref 0), (2, .ref 38), (3, .ref 71), (4, .int x4)], [.int (sc.2 (x4 + 2).toNatClampNeg), .int (sc.2 (x4 + 1).toNatClampNeg), .ref 0], mk X, σ)
  refine ExL.blk 1 rfl ?_
  rcases ite_sp h with ⟨c86, h⟩ | ⟨c86, h⟩
  · refine And.intro (fun _ => ?_) (fun hn => absurd c86 hn)
    show ExL pr sc (rtE (some (.int r)) (mk X2) σ2) (654, [(0, .ref SN), (1, .ref 0), (2, .ref 38), (3, .ref 71), (4, .int x4)], [.int (sc.2 (x4 + 1).toNatClampNeg), .ref 0], mk X, σ)
    refine ExL.blk 1 rfl ?_
    show ExL pr sc (rtE (some (.int r)) (mk X2) σ2) (655, [(0, .ref SN), (1, .ref 0), (2, .ref 38), (3, .ref 71), (4, .int x4)], [.int 0, .int (sc.2 (x4 + 1).toNatClampNeg), .ref 0], mk X, σ)
    show ExL pr sc (rtE (some (.int r)) (mk X2) σ2) (655, [(0, .ref SN), (1, .ref 0), (2, .ref 38), (3, .ref 71), (4, .int x4)], [.int 0, .int (sc.2 (x4 + 1).toNatClampNeg), .ref 0], mk X, σ)
    exact lg_L_655 sc hsc hpr _ hk33 _ _ _ _ _ h
  · refine And.intro (fun hp => absurd hp c86) (fun _ => ?_)
    show ExL pr sc (rtE (some (.int r)) (mk X2) σ2) (650, [(0, .ref SN), (1, .ref 0), (2, .ref 38), (3, .ref 71), (4, .int x4)], [.int (sc.2 (x4 + 1).toNatClampNeg), .ref 0], mk X, σ)
    refine ExL.blk 2 rfl ?_
    show ExL pr sc (rtE (some (.int r)) (mk X2) σ2) (655, [(0, .ref SN), (1, .ref 0), (2, .ref 38), (3, .ref 71), (4, .int x4)], [.int 1, .int (sc.2 (x4 + 1).toNatClampNeg), .ref 0], mk X, σ)
    show ExL pr sc (rtE (some (.int r)) (mk X2) σ2) (655, [(0, .ref SN), (1, .ref 0), (2, .ref 38), (3, .ref 71), (4, .int x4)], [.int 1, .int (sc.2 (x4 + 1).toNatClampNeg), .ref 0], mk X, σ)
    exact lg_L_655 sc hsc hpr _ hk33 _ _ _ _ _ h
theorem lg_L_687 {pr : Ct} (sc : Nat × (Nat → Int32)) (hsc : sc.1 ≤ 3073) (hpr : ∀ (c : Int32) (E : En) (σ : St) (d : Nat), Cl MT pr sc (d + 9) 51 [.ref LN, .int c] E σ (some (.int (ixo c))) E σ) {r : Int32} {X2 : En} {σ2 : St} (k33 : Int32 → En → St → Option (Int32 × En × St)) (hk33 : ∀ (x4 : Int32) (X : En) (σ : St), k33 x4 X σ = some (r, X2, σ2) → ExL pr sc (rtE (some (.int r)) (mk X2) σ2) (33, [(0, .ref SN), (1, .ref 0), (2, .ref 38), (3, .ref 71), (4, .int x4)], [], mk X, σ)) (x4 : Int32) (X : En) (σ : St) (h : g_L_687 sc k33 x4 X σ = some (r, X2, σ2)) : ExL pr sc (rtE (some (.int r)) (mk X2) σ2) (687, [(0, .ref SN), (1, .ref 0), (2, .ref 38), (3, .ref 71), (4, .int x4)], [], mk X, σ) := by
  unfold g_L_687 at h
  refine ExL.blk 5 rfl ?_
  show ExL pr sc (rtE (some (.int r)) (mk X2) σ2) (693, [(0, .ref SN), (1, .ref 0), (2, .ref 38), (3, .ref 71), (4, .int x4)], [.int (x4 + 1), .ref SN, .ref 0], mk X, σ)
  obtain ⟨g88, h⟩ := gd_some h
  refine ExL.blk 1 rfl ?_
  refine And.intro (inb_ok g88) ?_
  show ExL pr sc (rtE (some (.int r)) (mk X2) σ2) (694, [(0, .ref SN), (1, .ref 0), (2, .ref 38), (3, .ref 71), (4, .int x4)], [.int (sc.2 (x4 + 1).toNatClampNeg), .ref 0], mk X, σ)
  obtain ⟨p89, hp89, h⟩ := bind_sp h
  refine ExL.blk 1 rfl ?_
  refine Exists.intro (some (.int p89.1)) (Exists.intro (mk X) (Exists.intro p89.2 (And.intro (cl_X9_act 54 hp89) ?_)))
  show ExL pr sc (rtE (some (.int r)) (mk X2) σ2) (697, [(0, .ref SN), (1, .ref 0), (2, .ref 38), (3, .ref 71), (4, .int x4)], [.int p89.1], mk X, p89.2)
  refine ExL.blk 5 rfl ?_
  show ExL pr sc (rtE (some (.int r)) (mk X2) σ2) (703, [(0, .ref SN), (1, .ref 0), (2, .ref 38), (3, .ref 71), (4, .int x4)], [.int (x4 + 1), .ref SN, .ref 38, .int p89.1], mk X, p89.2)
  obtain ⟨g90, h⟩ := gd_some h
  refine ExL.blk 1 rfl ?_
  refine And.intro (inb_ok g90) ?_
  show ExL pr sc (rtE (some (.int r)) (mk X2) σ2) (704, [(0, .ref SN), (1, .ref 0), (2, .ref 38), (3, .ref 71), (4, .int x4)], [.int (sc.2 (x4 + 1).toNatClampNeg), .ref 38, .int p89.1], mk X, p89.2)
  obtain ⟨p91, hp91, h⟩ := bind_sp h
  refine ExL.blk 1 rfl ?_
  refine Exists.intro (some (.int p91.1)) (Exists.intro (mk X) (Exists.intro p91.2 (And.intro (cl_X10_act 56 hp91) ?_)))
  show ExL pr sc (rtE (some (.int r)) (mk X2) σ2) (707, [(0, .ref SN), (1, .ref 0), (2, .ref 38), (3, .ref 71), (4, .int x4)], [.int p91.1, .int p89.1], mk X, p91.2)
  refine ExL.blk 1 rfl ?_
  rcases ite_sp h with ⟨c92, h⟩ | ⟨c92, h⟩
  · refine And.intro (fun _ => ?_) (fun hn => absurd c92 hn)
    show ExL pr sc (rtE (some (.int r)) (mk X2) σ2) (1876, [(0, .ref SN), (1, .ref 0), (2, .ref 38), (3, .ref 71), (4, .int x4)], [], mk X, p91.2)
    show ExL pr sc (rtE (some (.int r)) (mk X2) σ2) (1876, [(0, .ref SN), (1, .ref 0), (2, .ref 38), (3, .ref 71), (4, .int x4)], [], mk X, p91.2)
    exact lg_L_1876 sc hsc hpr _ hk33 _ _ _ h
  · refine And.intro (fun hp => absurd hp c92) (fun _ => ?_)
    show ExL pr sc (rtE (some (.int r)) (mk X2) σ2) (710, [(0, .ref SN), (1, .ref 0), (2, .ref 38), (3, .ref 71), (4, .int x4)], [], mk X, p91.2)
    refine ExL.blk 2 rfl ?_
    cases h
    exact And.intro isb_0 ⟨rfl, rfl, rfl⟩
theorem lg_L_712 {pr : Ct} (sc : Nat × (Nat → Int32)) (hsc : sc.1 ≤ 3073) (hpr : ∀ (c : Int32) (E : En) (σ : St) (d : Nat), Cl MT pr sc (d + 9) 51 [.ref LN, .int c] E σ (some (.int (ixo c))) E σ) {r : Int32} {X2 : En} {σ2 : St} (k33 : Int32 → En → St → Option (Int32 × En × St)) (hk33 : ∀ (x4 : Int32) (X : En) (σ : St), k33 x4 X σ = some (r, X2, σ2) → ExL pr sc (rtE (some (.int r)) (mk X2) σ2) (33, [(0, .ref SN), (1, .ref 0), (2, .ref 38), (3, .ref 71), (4, .int x4)], [], mk X, σ)) (x4 : Int32) (X : En) (σ : St) (h : g_L_712 sc k33 x4 X σ = some (r, X2, σ2)) : ExL pr sc (rtE (some (.int r)) (mk X2) σ2) (712, [(0, .ref SN), (1, .ref 0), (2, .ref 38), (3, .ref 71), (4, .int x4)], [], mk X, σ) := by
  unfold g_L_712 at h
  refine ExL.blk 5 rfl ?_
  show ExL pr sc (rtE (some (.int r)) (mk X2) σ2) (718, [(0, .ref SN), (1, .ref 0), (2, .ref 38), (3, .ref 71), (4, .int x4)], [.int (x4 + 1), .ref SN, .ref 0], mk X, σ)
  obtain ⟨g94, h⟩ := gd_some h
  refine ExL.blk 1 rfl ?_
  refine And.intro (inb_ok g94) ?_
  show ExL pr sc (rtE (some (.int r)) (mk X2) σ2) (719, [(0, .ref SN), (1, .ref 0), (2, .ref 38), (3, .ref 71), (4, .int x4)], [.int (sc.2 (x4 + 1).toNatClampNeg), .ref 0], mk X, σ)
  obtain ⟨p95, hp95, h⟩ := bind_sp h
  refine ExL.blk 1 rfl ?_
  refine Exists.intro (some (.int p95.1)) (Exists.intro (mk p95.2.1) (Exists.intro p95.2.2 (And.intro (cg_X9_run 54 hp95) ?_)))
  show ExL pr sc (rtE (some (.int r)) (mk X2) σ2) (722, [(0, .ref SN), (1, .ref 0), (2, .ref 38), (3, .ref 71), (4, .int x4)], [.int p95.1], mk p95.2.1, p95.2.2)
  refine ExL.blk 5 rfl ?_
  show ExL pr sc (rtE (some (.int r)) (mk X2) σ2) (728, [(0, .ref SN), (1, .ref 0), (2, .ref 38), (3, .ref 71), (4, .int x4)], [.int (x4 + 1), .ref SN, .ref 38, .int p95.1], mk p95.2.1, p95.2.2)
  obtain ⟨g96, h⟩ := gd_some h
  refine ExL.blk 1 rfl ?_
  refine And.intro (inb_ok g96) ?_
  show ExL pr sc (rtE (some (.int r)) (mk X2) σ2) (729, [(0, .ref SN), (1, .ref 0), (2, .ref 38), (3, .ref 71), (4, .int x4)], [.int (sc.2 (x4 + 1).toNatClampNeg), .ref 38, .int p95.1], mk p95.2.1, p95.2.2)
  obtain ⟨p97, hp97, h⟩ := bind_sp h
  refine ExL.blk 1 rfl ?_
  refine Exists.intro (some (.int p97.1)) (Exists.intro (mk p95.2.1) (Exists.intro p97.2 (And.intro (cl_X10_run 55 hp97) ?_)))
  show ExL pr sc (rtE (some (.int r)) (mk X2) σ2) (732, [(0, .ref SN), (1, .ref 0), (2, .ref 38), (3, .ref 71), (4, .int x4)], [.int p97.1, .int p95.1], mk p95.2.1, p97.2)
  refine ExL.blk 1 rfl ?_
  rcases ite_sp h with ⟨c98, h⟩ | ⟨c98, h⟩
  · refine And.intro (fun _ => ?_) (fun hn => absurd c98 hn)
    show ExL pr sc (rtE (some (.int r)) (mk X2) σ2) (1876, [(0, .ref SN), (1, .ref 0), (2, .ref 38), (3, .ref 71), (4, .int x4)], [], mk p95.2.1, p97.2)
    show ExL pr sc (rtE (some (.int r)) (mk X2) σ2) (1876, [(0, .ref SN), (1, .ref 0), (2, .ref 38), (3, .ref 71), (4, .int x4)], [], mk p95.2.1, p97.2)
    exact lg_L_1876 sc hsc hpr _ hk33 _ _ _ h
  · refine And.intro (fun hp => absurd hp c98) (fun _ => ?_)
    show ExL pr sc (rtE (some (.int r)) (mk X2) σ2) (735, [(0, .ref SN), (1, .ref 0), (2, .ref 38), (3, .ref 71), (4, .int x4)], [], mk p95.2.1, p97.2)
    refine ExL.blk 2 rfl ?_
    cases h
    exact And.intro isb_0 ⟨rfl, rfl, rfl⟩
theorem lg_L_737 {pr : Ct} (sc : Nat × (Nat → Int32)) (hsc : sc.1 ≤ 3073) (hpr : ∀ (c : Int32) (E : En) (σ : St) (d : Nat), Cl MT pr sc (d + 9) 51 [.ref LN, .int c] E σ (some (.int (ixo c))) E σ) {r : Int32} {X2 : En} {σ2 : St} (k33 : Int32 → En → St → Option (Int32 × En × St)) (hk33 : ∀ (x4 : Int32) (X : En) (σ : St), k33 x4 X σ = some (r, X2, σ2) → ExL pr sc (rtE (some (.int r)) (mk X2) σ2) (33, [(0, .ref SN), (1, .ref 0), (2, .ref 38), (3, .ref 71), (4, .int x4)], [], mk X, σ)) (x4 : Int32) (X : En) (σ : St) (h : g_L_737 sc k33 x4 X σ = some (r, X2, σ2)) : ExL pr sc (rtE (some (.int r)) (mk X2) σ2) (737, [(0, .ref SN), (1, .ref 0), (2, .ref 38), (3, .ref 71), (4, .int x4)], [], mk X, σ) := by
  unfold g_L_737 at h
  refine ExL.blk 1 rfl ?_
  show ExL pr sc (rtE (some (.int r)) (mk X2) σ2) (738, [(0, .ref SN), (1, .ref 0), (2, .ref 38), (3, .ref 71), (4, .int x4)], [.ref 0], mk X, σ)
  obtain ⟨p100, hp100, h⟩ := bind_sp h
  refine ExL.blk 1 rfl ?_
  refine Exists.intro (some (.int p100.1)) (Exists.intro (mk X) (Exists.intro p100.2 (And.intro (cl_X9_undo 56 hp100) ?_)))
  show ExL pr sc (rtE (some (.int r)) (mk X2) σ2) (741, [(0, .ref SN), (1, .ref 0), (2, .ref 38), (3, .ref 71), (4, .int x4)], [.int p100.1], mk X, p100.2)
  refine ExL.blk 1 rfl ?_
  show ExL pr sc (rtE (some (.int r)) (mk X2) σ2) (742, [(0, .ref SN), (1, .ref 0), (2, .ref 38), (3, .ref 71), (4, .int x4)], [.ref 38, .int p100.1], mk X, p100.2)
  obtain ⟨p101, hp101, h⟩ := bind_sp h
  refine ExL.blk 1 rfl ?_
  refine Exists.intro (some (.int p101.1)) (Exists.intro (mk X) (Exists.intro p101.2 (And.intro (cl_X10_undo 59 hp101) ?_)))
  show ExL pr sc (rtE (some (.int r)) (mk X2) σ2) (745, [(0, .ref SN), (1, .ref 0), (2, .ref 38), (3, .ref 71), (4, .int x4)], [.int p101.1, .int p100.1], mk X, p101.2)
  refine ExL.blk 1 rfl ?_
  rcases ite_sp h with ⟨c102, h⟩ | ⟨c102, h⟩
  · refine And.intro (fun _ => ?_) (fun hn => absurd c102 hn)
    show ExL pr sc (rtE (some (.int r)) (mk X2) σ2) (1876, [(0, .ref SN), (1, .ref 0), (2, .ref 38), (3, .ref 71), (4, .int x4)], [], mk X, p101.2)
    show ExL pr sc (rtE (some (.int r)) (mk X2) σ2) (1876, [(0, .ref SN), (1, .ref 0), (2, .ref 38), (3, .ref 71), (4, .int x4)], [], mk X, p101.2)
    exact lg_L_1876 sc hsc hpr _ hk33 _ _ _ h
  · refine And.intro (fun hp => absurd hp c102) (fun _ => ?_)
    show ExL pr sc (rtE (some (.int r)) (mk X2) σ2) (748, [(0, .ref SN), (1, .ref 0), (2, .ref 38), (3, .ref 71), (4, .int x4)], [], mk X, p101.2)
    refine ExL.blk 2 rfl ?_
    cases h
    exact And.intro isb_0 ⟨rfl, rfl, rfl⟩
theorem lg_L_750 {pr : Ct} (sc : Nat × (Nat → Int32)) (hsc : sc.1 ≤ 3073) (hpr : ∀ (c : Int32) (E : En) (σ : St) (d : Nat), Cl MT pr sc (d + 9) 51 [.ref LN, .int c] E σ (some (.int (ixo c))) E σ) {r : Int32} {X2 : En} {σ2 : St} (k33 : Int32 → En → St → Option (Int32 × En × St)) (hk33 : ∀ (x4 : Int32) (X : En) (σ : St), k33 x4 X σ = some (r, X2, σ2) → ExL pr sc (rtE (some (.int r)) (mk X2) σ2) (33, [(0, .ref SN), (1, .ref 0), (2, .ref 38), (3, .ref 71), (4, .int x4)], [], mk X, σ)) (x4 : Int32) (X : En) (σ : St) (h : g_L_750 sc k33 x4 X σ = some (r, X2, σ2)) : ExL pr sc (rtE (some (.int r)) (mk X2) σ2) (750, [(0, .ref SN), (1, .ref 0), (2, .ref 38), (3, .ref 71), (4, .int x4)], [], mk X, σ) := by
  unfold g_L_750 at h
  refine ExL.blk 5 rfl ?_
  show ExL pr sc (rtE (some (.int r)) (mk X2) σ2) (756, [(0, .ref SN), (1, .ref 0), (2, .ref 38), (3, .ref 71), (4, .int x4)], [.int (x4 + 1), .ref SN, .ref 0], mk X, σ)
  obtain ⟨g104, h⟩ := gd_some h
  refine ExL.blk 1 rfl ?_
  refine And.intro (inb_ok g104) ?_
  show ExL pr sc (rtE (some (.int r)) (mk X2) σ2) (757, [(0, .ref SN), (1, .ref 0), (2, .ref 38), (3, .ref 71), (4, .int x4)], [.int (sc.2 (x4 + 1).toNatClampNeg), .ref 0], mk X, σ)
  refine ExL.blk 4 rfl ?_
  show ExL pr sc (rtE (some (.int r)) (mk X2) σ2) (762, [(0, .ref SN), (1, .ref 0), (2, .ref 38), (3, .ref 71), (4, .int x4)], [.int (x4 + 2), .ref SN, .int (sc.2 (x4 + 1).toNatClampNeg), .ref 0], mk X, σ)
  obtain ⟨g105, h⟩ := gd_some h
  refine ExL.blk 1 rfl ?_
  refine And.intro (inb_ok g105) ?_
  show ExL pr sc (rtE (some (.int r)) (mk X2) σ2) (763, [(0, .ref SN), (1, .ref 0), (2, .ref 38), (3, .ref 71), (4, .int x4)], [.int (sc.2 (x4 + 2).toNatClampNeg), .int (sc.2 (x4 + 1).toNatClampNeg), .ref 0], mk X, σ)
  obtain ⟨p106, hp106, h⟩ := bind_sp h
  refine ExL.blk 1 rfl ?_
  refine Exists.intro (some (.int p106.1)) (Exists.intro (mk X) (Exists.intro p106.2 (And.intro (cl_X9_rope 57 hp106) ?_)))
  show ExL pr sc (rtE (some (.int r)) (mk X2) σ2) (766, [(0, .ref SN), (1, .ref 0), (2, .ref 38), (3, .ref 71), (4, .int x4)], [.int p106.1], mk X, p106.2)
  refine ExL.blk 5 rfl ?_
  show ExL pr sc (rtE (some (.int r)) (mk X2) σ2) (772, [(0, .ref SN), (1, .ref 0), (2, .ref 38), (3, .ref 71), (4, .int x4)], [.int (x4 + 1), .ref SN, .ref 38, .int p106.1], mk X, p106.2)
  obtain ⟨g107, h⟩ := gd_some h
  refine ExL.blk 1 rfl ?_
  refine And.intro (inb_ok g107) ?_
  show ExL pr sc (rtE (some (.int r)) (mk X2) σ2) (773, [(0, .ref SN), (1, .ref 0), (2, .ref 38), (3, .ref 71), (4, .int x4)], [.int (sc.2 (x4 + 1).toNatClampNeg), .ref 38, .int p106.1], mk X, p106.2)
  refine ExL.blk 4 rfl ?_
  show ExL pr sc (rtE (some (.int r)) (mk X2) σ2) (778, [(0, .ref SN), (1, .ref 0), (2, .ref 38), (3, .ref 71), (4, .int x4)], [.int (x4 + 2), .ref SN, .int (sc.2 (x4 + 1).toNatClampNeg), .ref 38, .int p106.1], mk X, p106.2)
  obtain ⟨g108, h⟩ := gd_some h
  refine ExL.blk 1 rfl ?_
  refine And.intro (inb_ok g108) ?_
  show ExL pr sc (rtE (some (.int r)) (mk X2) σ2) (779, [(0, .ref SN), (1, .ref 0), (2, .ref 38), (3, .ref 71), (4, .int x4)], [.int (sc.2 (x4 + 2).toNatClampNeg), .int (sc.2 (x4 + 1).toNatClampNeg), .ref 38, .int p106.1], mk X, p106.2)
  obtain ⟨p109, hp109, h⟩ := bind_sp h
  refine ExL.blk 1 rfl ?_
  refine Exists.intro (some (.int p109.1)) (Exists.intro (mk X) (Exists.intro p109.2 (And.intro (cl_X10_rope 57 hp109) ?_)))
  show ExL pr sc (rtE (some (.int r)) (mk X2) σ2) (782, [(0, .ref SN), (1, .ref 0), (2, .ref 38), (3, .ref 71), (4, .int x4)], [.int p109.1, .int p106.1], mk X, p109.2)
  refine ExL.blk 1 rfl ?_
  rcases ite_sp h with ⟨c110, h⟩ | ⟨c110, h⟩
  · refine And.intro (fun _ => ?_) (fun hn => absurd c110 hn)
    show ExL pr sc (rtE (some (.int r)) (mk X2) σ2) (1876, [(0, .ref SN), (1, .ref 0), (2, .ref 38), (3, .ref 71), (4, .int x4)], [], mk X, p109.2)
    show ExL pr sc (rtE (some (.int r)) (mk X2) σ2) (1876, [(0, .ref SN), (1, .ref 0), (2, .ref 38), (3, .ref 71), (4, .int x4)], [], mk X, p109.2)
    exact lg_L_1876 sc hsc hpr _ hk33 _ _ _ h
  · refine And.intro (fun hp => absurd hp c110) (fun _ => ?_)
    show ExL pr sc (rtE (some (.int r)) (mk X2) σ2) (785, [(0, .ref SN), (1, .ref 0), (2, .ref 38), (3, .ref 71), (4, .int x4)], [], mk X, p109.2)
    refine ExL.blk 2 rfl ?_
    cases h
    exact And.intro isb_0 ⟨rfl, rfl, rfl⟩
theorem lg_L_787 {pr : Ct} (sc : Nat × (Nat → Int32)) (hsc : sc.1 ≤ 3073) (hpr : ∀ (c : Int32) (E : En) (σ : St) (d : Nat), Cl MT pr sc (d + 9) 51 [.ref LN, .int c] E σ (some (.int (ixo c))) E σ) {r : Int32} {X2 : En} {σ2 : St} (k33 : Int32 → En → St → Option (Int32 × En × St)) (hk33 : ∀ (x4 : Int32) (X : En) (σ : St), k33 x4 X σ = some (r, X2, σ2) → ExL pr sc (rtE (some (.int r)) (mk X2) σ2) (33, [(0, .ref SN), (1, .ref 0), (2, .ref 38), (3, .ref 71), (4, .int x4)], [], mk X, σ)) (x4 : Int32) (X : En) (σ : St) (h : g_L_787 sc k33 x4 X σ = some (r, X2, σ2)) : ExL pr sc (rtE (some (.int r)) (mk X2) σ2) (787, [(0, .ref SN), (1, .ref 0), (2, .ref 38), (3, .ref 71), (4, .int x4)], [], mk X, σ) := by
  unfold g_L_787 at h
  refine ExL.blk 1 rfl ?_
  show ExL pr sc (rtE (some (.int r)) (mk X2) σ2) (788, [(0, .ref SN), (1, .ref 0), (2, .ref 38), (3, .ref 71), (4, .int x4)], [.ref 0], mk X, σ)
  obtain ⟨p112, hp112, h⟩ := bind_sp h
  refine ExL.blk 1 rfl ?_
  refine Exists.intro (some (.long p112.1)) (Exists.intro (mk X) (Exists.intro p112.2 (And.intro (cl_X9_number 58 hp112) ?_)))
  show ExL pr sc (rtE (some (.int r)) (mk X2) σ2) (791, [(0, .ref SN), (1, .ref 0), (2, .ref 38), (3, .ref 71), (4, .int x4)], [.long p112.1], mk X, p112.2)
  refine ExL.blk 1 rfl ?_
  show ExL pr sc (rtE (some (.int r)) (mk X2) σ2) (792, [(0, .ref SN), (1, .ref 0), (2, .ref 38), (3, .ref 71), (4, .int x4)], [.ref 38, .long p112.1], mk X, p112.2)
  obtain ⟨p113, hp113, h⟩ := bind_sp h
  refine ExL.blk 1 rfl ?_
  refine Exists.intro (some (.long p113.1)) (Exists.intro (mk X) (Exists.intro p113.2 (And.intro (cl_X10_number 59 hp113) ?_)))
  show ExL pr sc (rtE (some (.int r)) (mk X2) σ2) (795, [(0, .ref SN), (1, .ref 0), (2, .ref 38), (3, .ref 71), (4, .int x4)], [.long p113.1, .long p112.1], mk X, p113.2)
  refine ExL.blk 2 rfl ?_
  rcases ite_sp h with ⟨c114, h⟩ | ⟨c114, h⟩
  · refine And.intro (fun _ => ?_) (fun hn => absurd c114 hn)
    show ExL pr sc (rtE (some (.int r)) (mk X2) σ2) (1876, [(0, .ref SN), (1, .ref 0), (2, .ref 38), (3, .ref 71), (4, .int x4)], [], mk X, p113.2)
    show ExL pr sc (rtE (some (.int r)) (mk X2) σ2) (1876, [(0, .ref SN), (1, .ref 0), (2, .ref 38), (3, .ref 71), (4, .int x4)], [], mk X, p113.2)
    exact lg_L_1876 sc hsc hpr _ hk33 _ _ _ h
  · refine And.intro (fun hp => absurd hp c114) (fun _ => ?_)
    show ExL pr sc (rtE (some (.int r)) (mk X2) σ2) (799, [(0, .ref SN), (1, .ref 0), (2, .ref 38), (3, .ref 71), (4, .int x4)], [], mk X, p113.2)
    refine ExL.blk 2 rfl ?_
    cases h
    exact And.intro isb_0 ⟨rfl, rfl, rfl⟩
theorem lg_L_801 {pr : Ct} (sc : Nat × (Nat → Int32)) (hsc : sc.1 ≤ 3073) (hpr : ∀ (c : Int32) (E : En) (σ : St) (d : Nat), Cl MT pr sc (d + 9) 51 [.ref LN, .int c] E σ (some (.int (ixo c))) E σ) {r : Int32} {X2 : En} {σ2 : St} (k33 : Int32 → En → St → Option (Int32 × En × St)) (hk33 : ∀ (x4 : Int32) (X : En) (σ : St), k33 x4 X σ = some (r, X2, σ2) → ExL pr sc (rtE (some (.int r)) (mk X2) σ2) (33, [(0, .ref SN), (1, .ref 0), (2, .ref 38), (3, .ref 71), (4, .int x4)], [], mk X, σ)) (x4 : Int32) (X : En) (σ : St) (h : g_L_801 sc k33 x4 X σ = some (r, X2, σ2)) : ExL pr sc (rtE (some (.int r)) (mk X2) σ2) (801, [(0, .ref SN), (1, .ref 0), (2, .ref 38), (3, .ref 71), (4, .int x4)], [], mk X, σ) := by
  unfold g_L_801 at h
  refine ExL.blk 5 rfl ?_
  show ExL pr sc (rtE (some (.int r)) (mk X2) σ2) (807, [(0, .ref SN), (1, .ref 0), (2, .ref 38), (3, .ref 71), (4, .int x4)], [.int (x4 + 1), .ref SN, .ref 0], mk X, σ)
  obtain ⟨g116, h⟩ := gd_some h
  refine ExL.blk 1 rfl ?_
  refine And.intro (inb_ok g116) ?_
  show ExL pr sc (rtE (some (.int r)) (mk X2) σ2) (808, [(0, .ref SN), (1, .ref 0), (2, .ref 38), (3, .ref 71), (4, .int x4)], [.int (sc.2 (x4 + 1).toNatClampNeg), .ref 0], mk X, σ)
  obtain ⟨p117, hp117, h⟩ := bind_sp h
  refine ExL.blk 1 rfl ?_
  refine Exists.intro (some (.int p117.1)) (Exists.intro (mk X) (Exists.intro p117.2 (And.intro (cl_X9_told 59 hp117) ?_)))
  show ExL pr sc (rtE (some (.int r)) (mk X2) σ2) (811, [(0, .ref SN), (1, .ref 0), (2, .ref 38), (3, .ref 71), (4, .int x4)], [.int p117.1], mk X, p117.2)
  refine ExL.blk 5 rfl ?_
  show ExL pr sc (rtE (some (.int r)) (mk X2) σ2) (817, [(0, .ref SN), (1, .ref 0), (2, .ref 38), (3, .ref 71), (4, .int x4)], [.int (x4 + 1), .ref SN, .ref 38, .int p117.1], mk X, p117.2)
  obtain ⟨g118, h⟩ := gd_some h
  refine ExL.blk 1 rfl ?_
  refine And.intro (inb_ok g118) ?_
  show ExL pr sc (rtE (some (.int r)) (mk X2) σ2) (818, [(0, .ref SN), (1, .ref 0), (2, .ref 38), (3, .ref 71), (4, .int x4)], [.int (sc.2 (x4 + 1).toNatClampNeg), .ref 38, .int p117.1], mk X, p117.2)
  obtain ⟨p119, hp119, h⟩ := bind_sp h
  refine ExL.blk 1 rfl ?_
  refine Exists.intro (some (.int p119.1)) (Exists.intro (mk X) (Exists.intro p119.2 (And.intro (cl_X10_told 58 hp119) ?_)))
  show ExL pr sc (rtE (some (.int r)) (mk X2) σ2) (821, [(0, .ref SN), (1, .ref 0), (2, .ref 38), (3, .ref 71), (4, .int x4)], [.int p119.1, .int p117.1], mk X, p119.2)
  refine ExL.blk 1 rfl ?_
  rcases ite_sp h with ⟨c120, h⟩ | ⟨c120, h⟩
  · refine And.intro (fun _ => ?_) (fun hn => absurd c120 hn)
    show ExL pr sc (rtE (some (.int r)) (mk X2) σ2) (1876, [(0, .ref SN), (1, .ref 0), (2, .ref 38), (3, .ref 71), (4, .int x4)], [], mk X, p119.2)
    show ExL pr sc (rtE (some (.int r)) (mk X2) σ2) (1876, [(0, .ref SN), (1, .ref 0), (2, .ref 38), (3, .ref 71), (4, .int x4)], [], mk X, p119.2)
    exact lg_L_1876 sc hsc hpr _ hk33 _ _ _ h
  · refine And.intro (fun hp => absurd hp c120) (fun _ => ?_)
    show ExL pr sc (rtE (some (.int r)) (mk X2) σ2) (824, [(0, .ref SN), (1, .ref 0), (2, .ref 38), (3, .ref 71), (4, .int x4)], [], mk X, p119.2)
    refine ExL.blk 2 rfl ?_
    cases h
    exact And.intro isb_0 ⟨rfl, rfl, rfl⟩
theorem lg_L_826 {pr : Ct} (sc : Nat × (Nat → Int32)) (hsc : sc.1 ≤ 3073) (hpr : ∀ (c : Int32) (E : En) (σ : St) (d : Nat), Cl MT pr sc (d + 9) 51 [.ref LN, .int c] E σ (some (.int (ixo c))) E σ) {r : Int32} {X2 : En} {σ2 : St} (k33 : Int32 → En → St → Option (Int32 × En × St)) (hk33 : ∀ (x4 : Int32) (X : En) (σ : St), k33 x4 X σ = some (r, X2, σ2) → ExL pr sc (rtE (some (.int r)) (mk X2) σ2) (33, [(0, .ref SN), (1, .ref 0), (2, .ref 38), (3, .ref 71), (4, .int x4)], [], mk X, σ)) (x4 : Int32) (X : En) (σ : St) (h : g_L_826 sc k33 x4 X σ = some (r, X2, σ2)) : ExL pr sc (rtE (some (.int r)) (mk X2) σ2) (826, [(0, .ref SN), (1, .ref 0), (2, .ref 38), (3, .ref 71), (4, .int x4)], [], mk X, σ) := by
  unfold g_L_826 at h
  refine ExL.blk 5 rfl ?_
  show ExL pr sc (rtE (some (.int r)) (mk X2) σ2) (832, [(0, .ref SN), (1, .ref 0), (2, .ref 38), (3, .ref 71), (4, .int x4)], [.int (x4 + 1), .ref SN, .ref 0], mk X, σ)
  obtain ⟨g122, h⟩ := gd_some h
  refine ExL.blk 1 rfl ?_
  refine And.intro (inb_ok g122) ?_
  show ExL pr sc (rtE (some (.int r)) (mk X2) σ2) (833, [(0, .ref SN), (1, .ref 0), (2, .ref 38), (3, .ref 71), (4, .int x4)], [.int (sc.2 (x4 + 1).toNatClampNeg), .ref 0], mk X, σ)
  refine ExL.blk 4 rfl ?_
  show ExL pr sc (rtE (some (.int r)) (mk X2) σ2) (838, [(0, .ref SN), (1, .ref 0), (2, .ref 38), (3, .ref 71), (4, .int x4)], [.int (x4 + 2), .ref SN, .int (sc.2 (x4 + 1).toNatClampNeg), .ref 0], mk X, σ)
  obtain ⟨g123, h⟩ := gd_some h
  refine ExL.blk 1 rfl ?_
  refine And.intro (inb_ok g123) ?_
  show ExL pr sc (rtE (some (.int r)) (mk X2) σ2) (839, [(0, .ref SN), (1, .ref 0), (2, .ref 38), (3, .ref 71), (4, .int x4)], [.int (sc.2 (x4 + 2).toNatClampNeg), .int (sc.2 (x4 + 1).toNatClampNeg), .ref 0], mk X, σ)
  obtain ⟨p124, hp124, h⟩ := bind_sp h
  refine ExL.blk 1 rfl ?_
  refine Exists.intro (some (.int p124.1)) (Exists.intro (mk X) (Exists.intro p124.2 (And.intro (cl_X9_done 55 hp124) ?_)))
  show ExL pr sc (rtE (some (.int r)) (mk X2) σ2) (842, [(0, .ref SN), (1, .ref 0), (2, .ref 38), (3, .ref 71), (4, .int x4)], [.int p124.1], mk X, p124.2)
  refine ExL.blk 5 rfl ?_
  show ExL pr sc (rtE (some (.int r)) (mk X2) σ2) (848, [(0, .ref SN), (1, .ref 0), (2, .ref 38), (3, .ref 71), (4, .int x4)], [.int (x4 + 1), .ref SN, .ref 38, .int p124.1], mk X, p124.2)
  obtain ⟨g125, h⟩ := gd_some h
  refine ExL.blk 1 rfl ?_
  refine And.intro (inb_ok g125) ?_
  show ExL pr sc (rtE (some (.int r)) (mk X2) σ2) (849, [(0, .ref SN), (1, .ref 0), (2, .ref 38), (3, .ref 71), (4, .int x4)], [.int (sc.2 (x4 + 1).toNatClampNeg), .ref 38, .int p124.1], mk X, p124.2)
  refine ExL.blk 4 rfl ?_
  show ExL pr sc (rtE (some (.int r)) (mk X2) σ2) (854, [(0, .ref SN), (1, .ref 0), (2, .ref 38), (3, .ref 71), (4, .int x4)], [.int (x4 + 2), .ref SN, .int (sc.2 (x4 + 1).toNatClampNeg), .ref 38, .int p124.1], mk X, p124.2)
  obtain ⟨g126, h⟩ := gd_some h
  refine ExL.blk 1 rfl ?_
  refine And.intro (inb_ok g126) ?_
  show ExL pr sc (rtE (some (.int r)) (mk X2) σ2) (855, [(0, .ref SN), (1, .ref 0), (2, .ref 38), (3, .ref 71), (4, .int x4)], [.int (sc.2 (x4 + 2).toNatClampNeg), .int (sc.2 (x4 + 1).toNatClampNeg), .ref 38, .int p124.1], mk X, p124.2)
  obtain ⟨p127, hp127, h⟩ := bind_sp h
  refine ExL.blk 1 rfl ?_
  refine Exists.intro (some (.int p127.1)) (Exists.intro (mk X) (Exists.intro p127.2 (And.intro (cl_X10_done 56 hp127) ?_)))
  show ExL pr sc (rtE (some (.int r)) (mk X2) σ2) (858, [(0, .ref SN), (1, .ref 0), (2, .ref 38), (3, .ref 71), (4, .int x4)], [.int p127.1, .int p124.1], mk X, p127.2)
  refine ExL.blk 1 rfl ?_
  rcases ite_sp h with ⟨c128, h⟩ | ⟨c128, h⟩
  · refine And.intro (fun _ => ?_) (fun hn => absurd c128 hn)
    show ExL pr sc (rtE (some (.int r)) (mk X2) σ2) (1876, [(0, .ref SN), (1, .ref 0), (2, .ref 38), (3, .ref 71), (4, .int x4)], [], mk X, p127.2)
    show ExL pr sc (rtE (some (.int r)) (mk X2) σ2) (1876, [(0, .ref SN), (1, .ref 0), (2, .ref 38), (3, .ref 71), (4, .int x4)], [], mk X, p127.2)
    exact lg_L_1876 sc hsc hpr _ hk33 _ _ _ h
  · refine And.intro (fun hp => absurd hp c128) (fun _ => ?_)
    show ExL pr sc (rtE (some (.int r)) (mk X2) σ2) (861, [(0, .ref SN), (1, .ref 0), (2, .ref 38), (3, .ref 71), (4, .int x4)], [], mk X, p127.2)
    refine ExL.blk 2 rfl ?_
    cases h
    exact And.intro isb_0 ⟨rfl, rfl, rfl⟩
theorem lg_L_908 {pr : Ct} (sc : Nat × (Nat → Int32)) (hsc : sc.1 ≤ 3073) (hpr : ∀ (c : Int32) (E : En) (σ : St) (d : Nat), Cl MT pr sc (d + 9) 51 [.ref LN, .int c] E σ (some (.int (ixo c))) E σ) {r : Int32} {X2 : En} {σ2 : St} (k33 : Int32 → En → St → Option (Int32 × En × St)) (hk33 : ∀ (x4 : Int32) (X : En) (σ : St), k33 x4 X σ = some (r, X2, σ2) → ExL pr sc (rtE (some (.int r)) (mk X2) σ2) (33, [(0, .ref SN), (1, .ref 0), (2, .ref 38), (3, .ref 71), (4, .int x4)], [], mk X, σ)) (x4 : Int32) (y0 : Int32) (y1 : Int32) (y3 : Int32) (X : En) (σ : St) (h : g_L_908 sc k33 x4 y0 y1 y3 X σ = some (r, X2, σ2)) : ExL pr sc (rtE (some (.int r)) (mk X2) σ2) (908, [(0, .ref SN), (1, .ref 0), (2, .ref 38), (3, .ref 71), (4, .int x4)], [.int y0, .int y1, .ref 38, .int y3], mk X, σ) := by
  unfold g_L_908 at h
  obtain ⟨p135, hp135, h⟩ := bind_sp h
  refine ExL.blk 1 rfl ?_
  refine Exists.intro (some (.int p135.1)) (Exists.intro (mk X) (Exists.intro p135.2 (And.intro (cl_X10_two 57 hp135) ?_)))
  show ExL pr sc (rtE (some (.int r)) (mk X2) σ2) (911, [(0, .ref SN), (1, .ref 0), (2, .ref 38), (3, .ref 71), (4, .int x4)], [.int p135.1, .int y3], mk X, p135.2)
  refine ExL.blk 1 rfl ?_
  rcases ite_sp h with ⟨c136, h⟩ | ⟨c136, h⟩
  · refine And.intro (fun _ => ?_) (fun hn => absurd c136 hn)
    show ExL pr sc (rtE (some (.int r)) (mk X2) σ2) (1876, [(0, .ref SN), (1, .ref 0), (2, .ref 38), (3, .ref 71), (4, .int x4)], [], mk X, p135.2)
    show ExL pr sc (rtE (some (.int r)) (mk X2) σ2) (1876, [(0, .ref SN), (1, .ref 0), (2, .ref 38), (3, .ref 71), (4, .int x4)], [], mk X, p135.2)
    exact lg_L_1876 sc hsc hpr _ hk33 _ _ _ h
  · refine And.intro (fun hp => absurd hp c136) (fun _ => ?_)
    show ExL pr sc (rtE (some (.int r)) (mk X2) σ2) (914, [(0, .ref SN), (1, .ref 0), (2, .ref 38), (3, .ref 71), (4, .int x4)], [], mk X, p135.2)
    refine ExL.blk 2 rfl ?_
    cases h
    exact And.intro isb_0 ⟨rfl, rfl, rfl⟩
theorem lg_L_884 {pr : Ct} (sc : Nat × (Nat → Int32)) (hsc : sc.1 ≤ 3073) (hpr : ∀ (c : Int32) (E : En) (σ : St) (d : Nat), Cl MT pr sc (d + 9) 51 [.ref LN, .int c] E σ (some (.int (ixo c))) E σ) {r : Int32} {X2 : En} {σ2 : St} (k33 : Int32 → En → St → Option (Int32 × En × St)) (hk33 : ∀ (x4 : Int32) (X : En) (σ : St), k33 x4 X σ = some (r, X2, σ2) → ExL pr sc (rtE (some (.int r)) (mk X2) σ2) (33, [(0, .ref SN), (1, .ref 0), (2, .ref 38), (3, .ref 71), (4, .int x4)], [], mk X, σ)) (x4 : Int32) (y0 : Int32) (y1 : Int32) (X : En) (σ : St) (h : g_L_884 sc k33 x4 y0 y1 X σ = some (r, X2, σ2)) : ExL pr sc (rtE (some (.int r)) (mk X2) σ2) (884, [(0, .ref SN), (1, .ref 0), (2, .ref 38), (3, .ref 71), (4, .int x4)], [.int y0, .int y1, .ref 0], mk X, σ) := by
  unfold g_L_884 at h
  obtain ⟨p132, hp132, h⟩ := bind_sp h
  refine ExL.blk 1 rfl ?_
  refine Exists.intro (some (.int p132.1)) (Exists.intro (mk X) (Exists.intro p132.2 (And.intro (cl_X9_two 58 hp132) ?_)))
  show ExL pr sc (rtE (some (.int r)) (mk X2) σ2) (887, [(0, .ref SN), (1, .ref 0), (2, .ref 38), (3, .ref 71), (4, .int x4)], [.int p132.1], mk X, p132.2)
  refine ExL.blk 5 rfl ?_
  show ExL pr sc (rtE (some (.int r)) (mk X2) σ2) (893, [(0, .ref SN), (1, .ref 0), (2, .ref 38), (3, .ref 71), (4, .int x4)], [.int (x4 + 1), .ref SN, .ref 38, .int p132.1], mk X, p132.2)
  obtain ⟨g133, h⟩ := gd_some h
  refine ExL.blk 1 rfl ?_
  refine And.intro (inb_ok g133) ?_
  show ExL pr sc (rtE (some (.int r)) (mk X2) σ2) (894, [(0, .ref SN), (1, .ref 0), (2, .ref 38), (3, .ref 71), (4, .int x4)], [.int (sc.2 (x4 + 1).toNatClampNeg), .ref 38, .int p132.1], mk X, p132.2)
  refine ExL.blk 4 rfl ?_
  show ExL pr sc (rtE (some (.int r)) (mk X2) σ2) (899, [(0, .ref SN), (1, .ref 0), (2, .ref 38), (3, .ref 71), (4, .int x4)], [.int (x4 + 2), .ref SN, .int (sc.2 (x4 + 1).toNatClampNeg), .ref 38, .int p132.1], mk X, p132.2)
  obtain ⟨g134, h⟩ := gd_some h
  refine ExL.blk 1 rfl ?_
  refine And.intro (inb_ok g134) ?_
  show ExL pr sc (rtE (some (.int r)) (mk X2) σ2) (900, [(0, .ref SN), (1, .ref 0), (2, .ref 38), (3, .ref 71), (4, .int x4)], [.int (sc.2 (x4 + 2).toNatClampNeg), .int (sc.2 (x4 + 1).toNatClampNeg), .ref 38, .int p132.1], mk X, p132.2)
  refine ExL.blk 1 rfl ?_
  rcases ite_sp h with ⟨c137, h⟩ | ⟨c137, h⟩
  · refine And.intro (fun _ => ?_) (fun hn => absurd c137 hn)
    show ExL pr sc (rtE (some (.int r)) (mk X2) σ2) (907, [(0, .ref SN), (1, .ref 0), (2, .ref 38), (3, .ref 71), (4, .int x4)], [.int (sc.2 (x4 + 1).toNatClampNeg), .ref 38, .int p132.1], mk X, p132.2)
    refine ExL.blk 1 rfl ?_
    show ExL pr sc (rtE (some (.int r)) (mk X2) σ2) (908, [(0, .ref SN), (1, .ref 0), (2, .ref 38), (3, .ref 71), (4, .int x4)], [.int 0, .int (sc.2 (x4 + 1).toNatClampNeg), .ref 38, .int p132.1], mk X, p132.2)
    show ExL pr sc (rtE (some (.int r)) (mk X2) σ2) (908, [(0, .ref SN), (1, .ref 0), (2, .ref 38), (3, .ref 71), (4, .int x4)], [.int 0, .int (sc.2 (x4 + 1).toNatClampNeg), .ref 38, .int p132.1], mk X, p132.2)
    exact lg_L_908 sc hsc hpr _ hk33 _ _ _ _ _ _ h
  · refine And.intro (fun hp => absurd hp c137) (fun _ => ?_)
    show ExL pr sc (rtE (some (.int r)) (mk X2) σ2) (903, [(0, .ref SN), (1, .ref 0), (2, .ref 38), (3, .ref 71), (4, .int x4)], [.int (sc.2 (x4 + 1).toNatClampNeg), .ref 38, .int p132.1], mk X, p132.2)
    refine ExL.blk 2 rfl ?_
    show ExL pr sc (rtE (some (.int r)) (mk X2) σ2) (908, [(0, .ref SN), (1, .ref 0), (2, .ref 38), (3, .ref 71), (4, .int x4)], [.int 1, .int (sc.2 (x4 + 1).toNatClampNeg), .ref 38, .int p132.1], mk X, p132.2)
    show ExL pr sc (rtE (some (.int r)) (mk X2) σ2) (908, [(0, .ref SN), (1, .ref 0), (2, .ref 38), (3, .ref 71), (4, .int x4)], [.int 1, .int (sc.2 (x4 + 1).toNatClampNeg), .ref 38, .int p132.1], mk X, p132.2)
    exact lg_L_908 sc hsc hpr _ hk33 _ _ _ _ _ _ h
theorem lg_L_863 {pr : Ct} (sc : Nat × (Nat → Int32)) (hsc : sc.1 ≤ 3073) (hpr : ∀ (c : Int32) (E : En) (σ : St) (d : Nat), Cl MT pr sc (d + 9) 51 [.ref LN, .int c] E σ (some (.int (ixo c))) E σ) {r : Int32} {X2 : En} {σ2 : St} (k33 : Int32 → En → St → Option (Int32 × En × St)) (hk33 : ∀ (x4 : Int32) (X : En) (σ : St), k33 x4 X σ = some (r, X2, σ2) → ExL pr sc (rtE (some (.int r)) (mk X2) σ2) (33, [(0, .ref SN), (1, .ref 0), (2, .ref 38), (3, .ref 71), (4, .int x4)], [], mk X, σ)) (x4 : Int32) (X : En) (σ : St) (h : g_L_863 sc k33 x4 X σ = some (r, X2, σ2)) : ExL pr sc (rtE (some (.int r)) (mk X2) σ2) (863, [(0, .ref SN), (1, .ref 0), (2, .ref 38), (3, .ref 71), (4, .int x4)], [], mk X, σ) := by
  unfold g_L_863 at h
  refine ExL.blk 5 rfl ?_
  show ExL pr sc (rtE (some (.int r)) (mk X2) σ2) (869, [(0, .ref SN), (1, .ref 0), (2, .ref 38), (3, .ref 71), (4, .int x4)], [.int (x4 + 1), .ref SN, .ref 0], mk X, σ)
  obtain ⟨g130, h⟩ := gd_some h
  refine ExL.blk 1 rfl ?_
  refine And.intro (inb_ok g130) ?_
  show ExL pr sc (rtE (some (.int r)) (mk X2) σ2) (870, [(0, .ref SN), (1, .ref 0), (2, .ref 38), (3, .ref 71), (4, .int x4)], [.int (sc.2 (x4 + 1).toNatClampNeg), .ref 0], mk X, σ)
  refine ExL.blk 4 rfl ?_
  show ExL pr sc (rtE (some (.int r)) (mk X2) σ2) (875, [(0, .ref SN), (1, .ref 0), (2, .ref 38), (3, .ref 71), (4, .int x4)], [.int (x4 + 2), .ref SN, .int (sc.2 (x4 + 1).toNatClampNeg), .ref 0], mk X, σ)
  obtain ⟨g131, h⟩ := gd_some h
  refine ExL.blk 1 rfl ?_
  refine And.intro (inb_ok g131) ?_
  show ExL pr sc (rtE (some (.int r)) (mk X2) σ2) (876, [(0, .ref SN), (1, .ref 0), (2, .ref 38), (3, .ref 71), (4, .int x4)], [.int (sc.2 (x4 + 2).toNatClampNeg), .int (sc.2 (x4 + 1).toNatClampNeg), .ref 0], mk X, σ)
  refine ExL.blk 1 rfl ?_
  rcases ite_sp h with ⟨c138, h⟩ | ⟨c138, h⟩
  · refine And.intro (fun _ => ?_) (fun hn => absurd c138 hn)
    show ExL pr sc (rtE (some (.int r)) (mk X2) σ2) (883, [(0, .ref SN), (1, .ref 0), (2, .ref 38), (3, .ref 71), (4, .int x4)], [.int (sc.2 (x4 + 1).toNatClampNeg), .ref 0], mk X, σ)
    refine ExL.blk 1 rfl ?_
    show ExL pr sc (rtE (some (.int r)) (mk X2) σ2) (884, [(0, .ref SN), (1, .ref 0), (2, .ref 38), (3, .ref 71), (4, .int x4)], [.int 0, .int (sc.2 (x4 + 1).toNatClampNeg), .ref 0], mk X, σ)
    show ExL pr sc (rtE (some (.int r)) (mk X2) σ2) (884, [(0, .ref SN), (1, .ref 0), (2, .ref 38), (3, .ref 71), (4, .int x4)], [.int 0, .int (sc.2 (x4 + 1).toNatClampNeg), .ref 0], mk X, σ)
    exact lg_L_884 sc hsc hpr _ hk33 _ _ _ _ _ h
  · refine And.intro (fun hp => absurd hp c138) (fun _ => ?_)
    show ExL pr sc (rtE (some (.int r)) (mk X2) σ2) (879, [(0, .ref SN), (1, .ref 0), (2, .ref 38), (3, .ref 71), (4, .int x4)], [.int (sc.2 (x4 + 1).toNatClampNeg), .ref 0], mk X, σ)
    refine ExL.blk 2 rfl ?_
    show ExL pr sc (rtE (some (.int r)) (mk X2) σ2) (884, [(0, .ref SN), (1, .ref 0), (2, .ref 38), (3, .ref 71), (4, .int x4)], [.int 1, .int (sc.2 (x4 + 1).toNatClampNeg), .ref 0], mk X, σ)
    show ExL pr sc (rtE (some (.int r)) (mk X2) σ2) (884, [(0, .ref SN), (1, .ref 0), (2, .ref 38), (3, .ref 71), (4, .int x4)], [.int 1, .int (sc.2 (x4 + 1).toNatClampNeg), .ref 0], mk X, σ)
    exact lg_L_884 sc hsc hpr _ hk33 _ _ _ _ _ h
theorem lg_L_961 {pr : Ct} (sc : Nat × (Nat → Int32)) (hsc : sc.1 ≤ 3073) (hpr : ∀ (c : Int32) (E : En) (σ : St) (d : Nat), Cl MT pr sc (d + 9) 51 [.ref LN, .int c] E σ (some (.int (ixo c))) E σ) {r : Int32} {X2 : En} {σ2 : St} (k33 : Int32 → En → St → Option (Int32 × En × St)) (hk33 : ∀ (x4 : Int32) (X : En) (σ : St), k33 x4 X σ = some (r, X2, σ2) → ExL pr sc (rtE (some (.int r)) (mk X2) σ2) (33, [(0, .ref SN), (1, .ref 0), (2, .ref 38), (3, .ref 71), (4, .int x4)], [], mk X, σ)) (x4 : Int32) (y0 : Int32) (y1 : Int32) (y3 : Int32) (X : En) (σ : St) (h : g_L_961 sc k33 x4 y0 y1 y3 X σ = some (r, X2, σ2)) : ExL pr sc (rtE (some (.int r)) (mk X2) σ2) (961, [(0, .ref SN), (1, .ref 0), (2, .ref 38), (3, .ref 71), (4, .int x4)], [.int y0, .int y1, .ref 38, .int y3], mk X, σ) := by
  unfold g_L_961 at h
  obtain ⟨p145, hp145, h⟩ := bind_sp h
  refine ExL.blk 1 rfl ?_
  refine Exists.intro (some (.int p145.1)) (Exists.intro (mk X) (Exists.intro p145.2 (And.intro (cl_X10_fog 57 hp145) ?_)))
  show ExL pr sc (rtE (some (.int r)) (mk X2) σ2) (964, [(0, .ref SN), (1, .ref 0), (2, .ref 38), (3, .ref 71), (4, .int x4)], [.int p145.1, .int y3], mk X, p145.2)
  refine ExL.blk 1 rfl ?_
  rcases ite_sp h with ⟨c146, h⟩ | ⟨c146, h⟩
  · refine And.intro (fun _ => ?_) (fun hn => absurd c146 hn)
    show ExL pr sc (rtE (some (.int r)) (mk X2) σ2) (1876, [(0, .ref SN), (1, .ref 0), (2, .ref 38), (3, .ref 71), (4, .int x4)], [], mk X, p145.2)
    show ExL pr sc (rtE (some (.int r)) (mk X2) σ2) (1876, [(0, .ref SN), (1, .ref 0), (2, .ref 38), (3, .ref 71), (4, .int x4)], [], mk X, p145.2)
    exact lg_L_1876 sc hsc hpr _ hk33 _ _ _ h
  · refine And.intro (fun hp => absurd hp c146) (fun _ => ?_)
    show ExL pr sc (rtE (some (.int r)) (mk X2) σ2) (967, [(0, .ref SN), (1, .ref 0), (2, .ref 38), (3, .ref 71), (4, .int x4)], [], mk X, p145.2)
    refine ExL.blk 2 rfl ?_
    cases h
    exact And.intro isb_0 ⟨rfl, rfl, rfl⟩
