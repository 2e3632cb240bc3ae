theorem lg_L_937 {pr : Ct} (sc : Nat × (Nat → Int32)) (hsc : sc.1 ≤ 3073) (hpr : ∀ (c : Int32) (E : En) (σ : St) (d : Nat), Cl MT pr sc (d + 9) 51 [.ref LN, .int c] E σ (some (.int (ixo c))) E σ) {r : Int32} {X2 : En} {σ2 : St} (k33 : Int32 → En → St → Option (Int32 × En × St)) (hk33 : ∀ (x4 : Int32) (X : En) (σ : St), k33 x4 X σ = some (r, X2, σ2) → ExL pr sc (rtE (some (.int r)) (mk X2) σ2) (33, [(0, .ref SN), (1, .ref 0), (2, .ref 38), (3, .ref 71), (4, .int x4)], [], mk X, σ)) (x4 : Int32) (y0 : Int32) (y1 : Int32) (X : En) (σ : St) (h : g_L_937 sc k33 x4 y0 y1 X σ = some (r, X2, σ2)) : ExL pr sc (rtE (some (.int r)) (mk X2) σ2) (937, [(0, .ref SN), (1, .ref 0), (2, .ref 38), (3, .ref 71), (4, .int x4)], [.int y0, .int y1, .ref 0], mk X, σ) := by
  unfold g_L_937 at h
  obtain ⟨p142, hp142, h⟩ := bind_sp h
  refine ExL.blk 1 rfl ?_
  refine Exists.intro (some (.int p142.1)) (Exists.intro (mk X) (Exists.intro p142.2 (And.intro (cl_X9_fog 58 hp142) ?_)))
  show ExL pr sc (rtE (some (.int r)) (mk X2) σ2) (940, [(0, .ref SN), (1, .ref 0), (2, .ref 38), (3, .ref 71), (4, .int x4)], [.int p142.1], mk X, p142.2)
  refine ExL.blk 5 rfl ?_
  show ExL pr sc (rtE (some (.int r)) (mk X2) σ2) (946, [(0, .ref SN), (1, .ref 0), (2, .ref 38), (3, .ref 71), (4, .int x4)], [.int (x4 + 1), .ref SN, .ref 38, .int p142.1], mk X, p142.2)
  obtain ⟨g143, h⟩ := gd_some h
  refine ExL.blk 1 rfl ?_
  refine And.intro (inb_ok g143) ?_
  show ExL pr sc (rtE (some (.int r)) (mk X2) σ2) (947, [(0, .ref SN), (1, .ref 0), (2, .ref 38), (3, .ref 71), (4, .int x4)], [.int (sc.2 (x4 + 1).toNatClampNeg), .ref 38, .int p142.1], mk X, p142.2)
  refine ExL.blk 4 rfl ?_
  show ExL pr sc (rtE (some (.int r)) (mk X2) σ2) (952, [(0, .ref SN), (1, .ref 0), (2, .ref 38), (3, .ref 71), (4, .int x4)], [.int (x4 + 2), .ref SN, .int (sc.2 (x4 + 1).toNatClampNeg), .ref 38, .int p142.1], mk X, p142.2)
  obtain ⟨g144, h⟩ := gd_some h
  refine ExL.blk 1 rfl ?_
  refine And.intro (inb_ok g144) ?_
  show ExL pr sc (rtE (some (.int r)) (mk X2) σ2) (953, [(0, .ref SN), (1, .ref 0), (2, .ref 38), (3, .ref 71), (4, .int x4)], [.int (sc.2 (x4 + 2).toNatClampNeg), .int (sc.2 (x4 + 1).toNatClampNeg), .ref 38, .int p142.1], mk X, p142.2)
  refine ExL.blk 1 rfl ?_
  rcases ite_sp h with ⟨c147, h⟩ | ⟨c147, h⟩
  · refine And.intro (fun _ => ?_) (fun hn => absurd c147 hn)
    show ExL pr sc (rtE (some (.int r)) (mk X2) σ2) (960, [(0, .ref SN), (1, .ref 0), (2, .ref 38), (3, .ref 71), (4, .int x4)], [.int (sc.2 (x4 + 1).toNatClampNeg), .ref 38, .int p142.1], mk X, p142.2)
    refine ExL.blk 1 rfl ?_
    show ExL pr sc (rtE (some (.int r)) (mk X2) σ2) (961, [(0, .ref SN), (1, .ref 0), (2, .ref 38), (3, .ref 71), (4, .int x4)], [.int 0, .int (sc.2 (x4 + 1).toNatClampNeg), .ref 38, .int p142.1], mk X, p142.2)
    show ExL pr sc (rtE (some (.int r)) (mk X2) σ2) (961, [(0, .ref SN), (1, .ref 0), (2, .ref 38), (3, .ref 71), (4, .int x4)], [.int 0, .int (sc.2 (x4 + 1).toNatClampNeg), .ref 38, .int p142.1], mk X, p142.2)
    exact lg_L_961 sc hsc hpr _ hk33 _ _ _ _ _ _ h
  · refine And.intro (fun hp => absurd hp c147) (fun _ => ?_)
    show ExL pr sc (rtE (some (.int r)) (mk X2) σ2) (956, [(0, .ref SN), (1, .ref 0), (2, .ref 38), (3, .ref 71), (4, .int x4)], [.int (sc.2 (x4 + 1).toNatClampNeg), .ref 38, .int p142.1], mk X, p142.2)
    refine ExL.blk 2 rfl ?_
    show ExL pr sc (rtE (some (.int r)) (mk X2) σ2) (961, [(0, .ref SN), (1, .ref 0), (2, .ref 38), (3, .ref 71), (4, .int x4)], [.int 1, .int (sc.2 (x4 + 1).toNatClampNeg), .ref 38, .int p142.1], mk X, p142.2)
    show ExL pr sc (rtE (some (.int r)) (mk X2) σ2) (961, [(0, .ref SN), (1, .ref 0), (2, .ref 38), (3, .ref 71), (4, .int x4)], [.int 1, .int (sc.2 (x4 + 1).toNatClampNeg), .ref 38, .int p142.1], mk X, p142.2)
    exact lg_L_961 sc hsc hpr _ hk33 _ _ _ _ _ _ h
theorem lg_L_916 {pr : Ct} (sc : Nat × (Nat → Int32)) (hsc : sc.1 ≤ 3073) (hpr : ∀ (c : Int32) (E : En) (σ : St) (d : Nat), Cl MT pr sc (d + 9) 51 [.ref LN, .int c] E σ (some (.int (ixo c))) E σ) {r : Int32} {X2 : En} {σ2 : St} (k33 : Int32 → En → St → Option (Int32 × En × St)) (hk33 : ∀ (x4 : Int32) (X : En) (σ : St), k33 x4 X σ = some (r, X2, σ2) → ExL pr sc (rtE (some (.int r)) (mk X2) σ2) (33, [(0, .ref SN), (1, .ref 0), (2, .ref 38), (3, .ref 71), (4, .int x4)], [], mk X, σ)) (x4 : Int32) (X : En) (σ : St) (h : g_L_916 sc k33 x4 X σ = some (r, X2, σ2)) : ExL pr sc (rtE (some (.int r)) (mk X2) σ2) (916, [(0, .ref SN), (1, .ref 0), (2, .ref 38), (3, .ref 71), (4, .int x4)], [], mk X, σ) := by
  unfold g_L_916 at h
  refine ExL.blk 5 rfl ?_
  show ExL pr sc (rtE (some (.int r)) (mk X2) σ2) (922, [(0, .ref SN), (1, .ref 0), (2, .ref 38), (3, .ref 71), (4, .int x4)], [.int (x4 + 1), .ref SN, .ref 0], mk X, σ)
  obtain ⟨g140, h⟩ := gd_some h
  refine ExL.blk 1 rfl ?_
  refine And.intro (inb_ok g140) ?_
  show ExL pr sc (rtE (some (.int r)) (mk X2) σ2) (923, [(0, .ref SN), (1, .ref 0), (2, .ref 38), (3, .ref 71), (4, .int x4)], [.int (sc.2 (x4 + 1).toNatClampNeg), .ref 0], mk X, σ)
  refine ExL.blk 4 rfl ?_
  show ExL pr sc (rtE (some (.int r)) (mk X2) σ2) (928, [(0, .ref SN), (1, .ref 0), (2, .ref 38), (3, .ref 71), (4, .int x4)], [.int (x4 + 2), .ref SN, .int (sc.2 (x4 + 1).toNatClampNeg), .ref 0], mk X, σ)
  obtain ⟨g141, h⟩ := gd_some h
  refine ExL.blk 1 rfl ?_
  refine And.intro (inb_ok g141) ?_
  show ExL pr sc (rtE (some (.int r)) (mk X2) σ2) (929, [(0, .ref SN), (1, .ref 0), (2, .ref 38), (3, .ref 71), (4, .int x4)], [.int (sc.2 (x4 + 2).toNatClampNeg), .int (sc.2 (x4 + 1).toNatClampNeg), .ref 0], mk X, σ)
  refine ExL.blk 1 rfl ?_
  rcases ite_sp h with ⟨c148, h⟩ | ⟨c148, h⟩
  · refine And.intro (fun _ => ?_) (fun hn => absurd c148 hn)
    show ExL pr sc (rtE (some (.int r)) (mk X2) σ2) (936, [(0, .ref SN), (1, .ref 0), (2, .ref 38), (3, .ref 71), (4, .int x4)], [.int (sc.2 (x4 + 1).toNatClampNeg), .ref 0], mk X, σ)
    refine ExL.blk 1 rfl ?_
    show ExL pr sc (rtE (some (.int r)) (mk X2) σ2) (937, [(0, .ref SN), (1, .ref 0), (2, .ref 38), (3, .ref 71), (4, .int x4)], [.int 0, .int (sc.2 (x4 + 1).toNatClampNeg), .ref 0], mk X, σ)
    show ExL pr sc (rtE (some (.int r)) (mk X2) σ2) (937, [(0, .ref SN), (1, .ref 0), (2, .ref 38), (3, .ref 71), (4, .int x4)], [.int 0, .int (sc.2 (x4 + 1).toNatClampNeg), .ref 0], mk X, σ)
    exact lg_L_937 sc hsc hpr _ hk33 _ _ _ _ _ h
  · refine And.intro (fun hp => absurd hp c148) (fun _ => ?_)
    show ExL pr sc (rtE (some (.int r)) (mk X2) σ2) (932, [(0, .ref SN), (1, .ref 0), (2, .ref 38), (3, .ref 71), (4, .int x4)], [.int (sc.2 (x4 + 1).toNatClampNeg), .ref 0], mk X, σ)
    refine ExL.blk 2 rfl ?_
    show ExL pr sc (rtE (some (.int r)) (mk X2) σ2) (937, [(0, .ref SN), (1, .ref 0), (2, .ref 38), (3, .ref 71), (4, .int x4)], [.int 1, .int (sc.2 (x4 + 1).toNatClampNeg), .ref 0], mk X, σ)
    show ExL pr sc (rtE (some (.int r)) (mk X2) σ2) (937, [(0, .ref SN), (1, .ref 0), (2, .ref 38), (3, .ref 71), (4, .int x4)], [.int 1, .int (sc.2 (x4 + 1).toNatClampNeg), .ref 0], mk X, σ)
    exact lg_L_937 sc hsc hpr _ hk33 _ _ _ _ _ h
theorem lg_L_969 {pr : Ct} (sc : Nat × (Nat → Int32)) (hsc : sc.1 ≤ 3073) (hpr : ∀ (c : Int32) (E : En) (σ : St) (d : Nat), Cl MT pr sc (d + 9) 51 [.ref LN, .int c] E σ (some (.int (ixo c))) E σ) {r : Int32} {X2 : En} {σ2 : St} (k33 : Int32 → En → St → Option (Int32 × En × St)) (hk33 : ∀ (x4 : Int32) (X : En) (σ : St), k33 x4 X σ = some (r, X2, σ2) → ExL pr sc (rtE (some (.int r)) (mk X2) σ2) (33, [(0, .ref SN), (1, .ref 0), (2, .ref 38), (3, .ref 71), (4, .int x4)], [], mk X, σ)) (x4 : Int32) (X : En) (σ : St) (h : g_L_969 sc k33 x4 X σ = some (r, X2, σ2)) : ExL pr sc (rtE (some (.int r)) (mk X2) σ2) (969, [(0, .ref SN), (1, .ref 0), (2, .ref 38), (3, .ref 71), (4, .int x4)], [], mk X, σ) := by
  unfold g_L_969 at h
  refine ExL.blk 5 rfl ?_
  show ExL pr sc (rtE (some (.int r)) (mk X2) σ2) (975, [(0, .ref SN), (1, .ref 0), (2, .ref 38), (3, .ref 71), (4, .int x4)], [.int (x4 + 1), .ref SN, .ref 0], mk X, σ)
  obtain ⟨g150, h⟩ := gd_some h
  refine ExL.blk 1 rfl ?_
  refine And.intro (inb_ok g150) ?_
  show ExL pr sc (rtE (some (.int r)) (mk X2) σ2) (976, [(0, .ref SN), (1, .ref 0), (2, .ref 38), (3, .ref 71), (4, .int x4)], [.int (sc.2 (x4 + 1).toNatClampNeg), .ref 0], mk X, σ)
  obtain ⟨p151, hp151, h⟩ := bind_sp h
  refine ExL.blk 1 rfl ?_
  refine Exists.intro (some (.int p151.1)) (Exists.intro (mk X) (Exists.intro p151.2 (And.intro (cl_X9_bell 56 hp151) ?_)))
  show ExL pr sc (rtE (some (.int r)) (mk X2) σ2) (979, [(0, .ref SN), (1, .ref 0), (2, .ref 38), (3, .ref 71), (4, .int x4)], [.int p151.1], mk X, p151.2)
  refine ExL.blk 5 rfl ?_
  show ExL pr sc (rtE (some (.int r)) (mk X2) σ2) (985, [(0, .ref SN), (1, .ref 0), (2, .ref 38), (3, .ref 71), (4, .int x4)], [.int (x4 + 1), .ref SN, .ref 38, .int p151.1], mk X, p151.2)
  obtain ⟨g152, h⟩ := gd_some h
  refine ExL.blk 1 rfl ?_
  refine And.intro (inb_ok g152) ?_
  show ExL pr sc (rtE (some (.int r)) (mk X2) σ2) (986, [(0, .ref SN), (1, .ref 0), (2, .ref 38), (3, .ref 71), (4, .int x4)], [.int (sc.2 (x4 + 1).toNatClampNeg), .ref 38, .int p151.1], mk X, p151.2)
  obtain ⟨p153, hp153, h⟩ := bind_sp h
  refine ExL.blk 1 rfl ?_
  refine Exists.intro (some (.int p153.1)) (Exists.intro (mk X) (Exists.intro p153.2 (And.intro (cl_X10_bell 56 hp153) ?_)))
  show ExL pr sc (rtE (some (.int r)) (mk X2) σ2) (989, [(0, .ref SN), (1, .ref 0), (2, .ref 38), (3, .ref 71), (4, .int x4)], [.int p153.1, .int p151.1], mk X, p153.2)
  refine ExL.blk 1 rfl ?_
  rcases ite_sp h with ⟨c154, h⟩ | ⟨c154, h⟩
  · refine And.intro (fun _ => ?_) (fun hn => absurd c154 hn)
    show ExL pr sc (rtE (some (.int r)) (mk X2) σ2) (1876, [(0, .ref SN), (1, .ref 0), (2, .ref 38), (3, .ref 71), (4, .int x4)], [], mk X, p153.2)
    show ExL pr sc (rtE (some (.int r)) (mk X2) σ2) (1876, [(0, .ref SN), (1, .ref 0), (2, .ref 38), (3, .ref 71), (4, .int x4)], [], mk X, p153.2)
    exact lg_L_1876 sc hsc hpr _ hk33 _ _ _ h
  · refine And.intro (fun hp => absurd hp c154) (fun _ => ?_)
    show ExL pr sc (rtE (some (.int r)) (mk X2) σ2) (992, [(0, .ref SN), (1, .ref 0), (2, .ref 38), (3, .ref 71), (4, .int x4)], [], mk X, p153.2)
    refine ExL.blk 2 rfl ?_
    cases h
    exact And.intro isb_0 ⟨rfl, rfl, rfl⟩
theorem lg_L_994 {pr : Ct} (sc : Nat × (Nat → Int32)) (hsc : sc.1 ≤ 3073) (hpr : ∀ (c : Int32) (E : En) (σ : St) (d : Nat), Cl MT pr sc (d + 9) 51 [.ref LN, .int c] E σ (some (.int (ixo c))) E σ) {r : Int32} {X2 : En} {σ2 : St} (k33 : Int32 → En → St → Option (Int32 × En × St)) (hk33 : ∀ (x4 : Int32) (X : En) (σ : St), k33 x4 X σ = some (r, X2, σ2) → ExL pr sc (rtE (some (.int r)) (mk X2) σ2) (33, [(0, .ref SN), (1, .ref 0), (2, .ref 38), (3, .ref 71), (4, .int x4)], [], mk X, σ)) (x4 : Int32) (X : En) (σ : St) (h : g_L_994 sc k33 x4 X σ = some (r, X2, σ2)) : ExL pr sc (rtE (some (.int r)) (mk X2) σ2) (994, [(0, .ref SN), (1, .ref 0), (2, .ref 38), (3, .ref 71), (4, .int x4)], [], mk X, σ) := by
  unfold g_L_994 at h
  refine ExL.blk 5 rfl ?_
  show ExL pr sc (rtE (some (.int r)) (mk X2) σ2) (1000, [(0, .ref SN), (1, .ref 0), (2, .ref 38), (3, .ref 71), (4, .int x4)], [.int (x4 + 1), .ref SN, .ref 0], mk X, σ)
  obtain ⟨g156, h⟩ := gd_some h
  refine ExL.blk 1 rfl ?_
  refine And.intro (inb_ok g156) ?_
  show ExL pr sc (rtE (some (.int r)) (mk X2) σ2) (1001, [(0, .ref SN), (1, .ref 0), (2, .ref 38), (3, .ref 71), (4, .int x4)], [.int (sc.2 (x4 + 1).toNatClampNeg), .ref 0], mk X, σ)
  refine ExL.blk 4 rfl ?_
  show ExL pr sc (rtE (some (.int r)) (mk X2) σ2) (1006, [(0, .ref SN), (1, .ref 0), (2, .ref 38), (3, .ref 71), (4, .int x4)], [.int (x4 + 2), .ref SN, .int (sc.2 (x4 + 1).toNatClampNeg), .ref 0], mk X, σ)
  obtain ⟨g157, h⟩ := gd_some h
  refine ExL.blk 1 rfl ?_
  refine And.intro (inb_ok g157) ?_
  show ExL pr sc (rtE (some (.int r)) (mk X2) σ2) (1007, [(0, .ref SN), (1, .ref 0), (2, .ref 38), (3, .ref 71), (4, .int x4)], [.int (sc.2 (x4 + 2).toNatClampNeg), .int (sc.2 (x4 + 1).toNatClampNeg), .ref 0], mk X, σ)
  obtain ⟨p158, hp158, h⟩ := bind_sp h
  refine ExL.blk 1 rfl ?_
  refine Exists.intro (some (.int p158.1)) (Exists.intro (mk p158.2.1) (Exists.intro p158.2.2 (And.intro (cg_X9_miss 55 hp158) ?_)))
  show ExL pr sc (rtE (some (.int r)) (mk X2) σ2) (1010, [(0, .ref SN), (1, .ref 0), (2, .ref 38), (3, .ref 71), (4, .int x4)], [.int p158.1], mk p158.2.1, p158.2.2)
  refine ExL.blk 5 rfl ?_
  show ExL pr sc (rtE (some (.int r)) (mk X2) σ2) (1016, [(0, .ref SN), (1, .ref 0), (2, .ref 38), (3, .ref 71), (4, .int x4)], [.int (x4 + 1), .ref SN, .ref 38, .int p158.1], mk p158.2.1, p158.2.2)
  obtain ⟨g159, h⟩ := gd_some h
  refine ExL.blk 1 rfl ?_
  refine And.intro (inb_ok g159) ?_
  show ExL pr sc (rtE (some (.int r)) (mk X2) σ2) (1017, [(0, .ref SN), (1, .ref 0), (2, .ref 38), (3, .ref 71), (4, .int x4)], [.int (sc.2 (x4 + 1).toNatClampNeg), .ref 38, .int p158.1], mk p158.2.1, p158.2.2)
  refine ExL.blk 4 rfl ?_
  show ExL pr sc (rtE (some (.int r)) (mk X2) σ2) (1022, [(0, .ref SN), (1, .ref 0), (2, .ref 38), (3, .ref 71), (4, .int x4)], [.int (x4 + 2), .ref SN, .int (sc.2 (x4 + 1).toNatClampNeg), .ref 38, .int p158.1], mk p158.2.1, p158.2.2)
  obtain ⟨g160, h⟩ := gd_some h
  refine ExL.blk 1 rfl ?_
  refine And.intro (inb_ok g160) ?_
  show ExL pr sc (rtE (some (.int r)) (mk X2) σ2) (1023, [(0, .ref SN), (1, .ref 0), (2, .ref 38), (3, .ref 71), (4, .int x4)], [.int (sc.2 (x4 + 2).toNatClampNeg), .int (sc.2 (x4 + 1).toNatClampNeg), .ref 38, .int p158.1], mk p158.2.1, p158.2.2)
  obtain ⟨p161, hp161, h⟩ := bind_sp h
  refine ExL.blk 1 rfl ?_
  refine Exists.intro (some (.int p161.1)) (Exists.intro (mk p158.2.1) (Exists.intro p161.2 (And.intro (cl_X10_miss 57 hp161) ?_)))
  show ExL pr sc (rtE (some (.int r)) (mk X2) σ2) (1026, [(0, .ref SN), (1, .ref 0), (2, .ref 38), (3, .ref 71), (4, .int x4)], [.int p161.1, .int p158.1], mk p158.2.1, p161.2)
  refine ExL.blk 1 rfl ?_
  rcases ite_sp h with ⟨c162, h⟩ | ⟨c162, h⟩
  · refine And.intro (fun _ => ?_) (fun hn => absurd c162 hn)
    show ExL pr sc (rtE (some (.int r)) (mk X2) σ2) (1876, [(0, .ref SN), (1, .ref 0), (2, .ref 38), (3, .ref 71), (4, .int x4)], [], mk p158.2.1, p161.2)
    show ExL pr sc (rtE (some (.int r)) (mk X2) σ2) (1876, [(0, .ref SN), (1, .ref 0), (2, .ref 38), (3, .ref 71), (4, .int x4)], [], mk p158.2.1, p161.2)
    exact lg_L_1876 sc hsc hpr _ hk33 _ _ _ h
  · refine And.intro (fun hp => absurd hp c162) (fun _ => ?_)
    show ExL pr sc (rtE (some (.int r)) (mk X2) σ2) (1029, [(0, .ref SN), (1, .ref 0), (2, .ref 38), (3, .ref 71), (4, .int x4)], [], mk p158.2.1, p161.2)
    refine ExL.blk 2 rfl ?_
    cases h
    exact And.intro isb_0 ⟨rfl, rfl, rfl⟩
theorem lg_L_1031 {pr : Ct} (sc : Nat × (Nat → Int32)) (hsc : sc.1 ≤ 3073) (hpr : ∀ (c : Int32) (E : En) (σ : St) (d : Nat), Cl MT pr sc (d + 9) 51 [.ref LN, .int c] E σ (some (.int (ixo c))) E σ) {r : Int32} {X2 : En} {σ2 : St} (k33 : Int32 → En → St → Option (Int32 × En × St)) (hk33 : ∀ (x4 : Int32) (X : En) (σ : St), k33 x4 X σ = some (r, X2, σ2) → ExL pr sc (rtE (some (.int r)) (mk X2) σ2) (33, [(0, .ref SN), (1, .ref 0), (2, .ref 38), (3, .ref 71), (4, .int x4)], [], mk X, σ)) (x4 : Int32) (X : En) (σ : St) (h : g_L_1031 sc k33 x4 X σ = some (r, X2, σ2)) : ExL pr sc (rtE (some (.int r)) (mk X2) σ2) (1031, [(0, .ref SN), (1, .ref 0), (2, .ref 38), (3, .ref 71), (4, .int x4)], [], mk X, σ) := by
  unfold g_L_1031 at h
  refine ExL.blk 5 rfl ?_
  show ExL pr sc (rtE (some (.int r)) (mk X2) σ2) (1037, [(0, .ref SN), (1, .ref 0), (2, .ref 38), (3, .ref 71), (4, .int x4)], [.int (x4 + 1), .ref SN, .ref 0], mk X, σ)
  obtain ⟨g164, h⟩ := gd_some h
  refine ExL.blk 1 rfl ?_
  refine And.intro (inb_ok g164) ?_
  show ExL pr sc (rtE (some (.int r)) (mk X2) σ2) (1038, [(0, .ref SN), (1, .ref 0), (2, .ref 38), (3, .ref 71), (4, .int x4)], [.int (sc.2 (x4 + 1).toNatClampNeg), .ref 0], mk X, σ)
  refine ExL.blk 4 rfl ?_
  show ExL pr sc (rtE (some (.int r)) (mk X2) σ2) (1043, [(0, .ref SN), (1, .ref 0), (2, .ref 38), (3, .ref 71), (4, .int x4)], [.int (x4 + 2), .ref SN, .int (sc.2 (x4 + 1).toNatClampNeg), .ref 0], mk X, σ)
  obtain ⟨g165, h⟩ := gd_some h
  refine ExL.blk 1 rfl ?_
  refine And.intro (inb_ok g165) ?_
  show ExL pr sc (rtE (some (.int r)) (mk X2) σ2) (1044, [(0, .ref SN), (1, .ref 0), (2, .ref 38), (3, .ref 71), (4, .int x4)], [.int (sc.2 (x4 + 2).toNatClampNeg), .int (sc.2 (x4 + 1).toNatClampNeg), .ref 0], mk X, σ)
  refine ExL.blk 4 rfl ?_
  show ExL pr sc (rtE (some (.int r)) (mk X2) σ2) (1049, [(0, .ref SN), (1, .ref 0), (2, .ref 38), (3, .ref 71), (4, .int x4)], [.int (x4 + 3), .ref SN, .int (sc.2 (x4 + 2).toNatClampNeg), .int (sc.2 (x4 + 1).toNatClampNeg), .ref 0], mk X, σ)
  obtain ⟨g166, h⟩ := gd_some h
  refine ExL.blk 1 rfl ?_
  refine And.intro (inb_ok g166) ?_
  show ExL pr sc (rtE (some (.int r)) (mk X2) σ2) (1050, [(0, .ref SN), (1, .ref 0), (2, .ref 38), (3, .ref 71), (4, .int x4)], [.int (sc.2 (x4 + 3).toNatClampNeg), .int (sc.2 (x4 + 2).toNatClampNeg), .int (sc.2 (x4 + 1).toNatClampNeg), .ref 0], mk X, σ)
  obtain ⟨p167, hp167, h⟩ := bind_sp h
  refine ExL.blk 1 rfl ?_
  refine Exists.intro (some (.long p167.1)) (Exists.intro (mk p167.2.1) (Exists.intro p167.2.2 (And.intro (cg_X9_span 55 hp167) ?_)))
  show ExL pr sc (rtE (some (.int r)) (mk X2) σ2) (1053, [(0, .ref SN), (1, .ref 0), (2, .ref 38), (3, .ref 71), (4, .int x4)], [.long p167.1], mk p167.2.1, p167.2.2)
  refine ExL.blk 5 rfl ?_
  show ExL pr sc (rtE (some (.int r)) (mk X2) σ2) (1059, [(0, .ref SN), (1, .ref 0), (2, .ref 38), (3, .ref 71), (4, .int x4)], [.int (x4 + 1), .ref SN, .ref 38, .long p167.1], mk p167.2.1, p167.2.2)
  obtain ⟨g168, h⟩ := gd_some h
  refine ExL.blk 1 rfl ?_
  refine And.intro (inb_ok g168) ?_
  show ExL pr sc (rtE (some (.int r)) (mk X2) σ2) (1060, [(0, .ref SN), (1, .ref 0), (2, .ref 38), (3, .ref 71), (4, .int x4)], [.int (sc.2 (x4 + 1).toNatClampNeg), .ref 38, .long p167.1], mk p167.2.1, p167.2.2)
  refine ExL.blk 4 rfl ?_
  show ExL pr sc (rtE (some (.int r)) (mk X2) σ2) (1065, [(0, .ref SN), (1, .ref 0), (2, .ref 38), (3, .ref 71), (4, .int x4)], [.int (x4 + 2), .ref SN, .int (sc.2 (x4 + 1).toNatClampNeg), .ref 38, .long p167.1], mk p167.2.1, p167.2.2)
  obtain ⟨g169, h⟩ := gd_some h
  refine ExL.blk 1 rfl ?_
  refine And.intro (inb_ok g169) ?_
  show ExL pr sc (rtE (some (.int r)) (mk X2) σ2) (1066, [(0, .ref SN), (1, .ref 0), (2, .ref 38), (3, .ref 71), (4, .int x4)], [.int (sc.2 (x4 + 2).toNatClampNeg), .int (sc.2 (x4 + 1).toNatClampNeg), .ref 38, .long p167.1], mk p167.2.1, p167.2.2)
  refine ExL.blk 4 rfl ?_
  show ExL pr sc (rtE (some (.int r)) (mk X2) σ2) (1071, [(0, .ref SN), (1, .ref 0), (2, .ref 38), (3, .ref 71), (4, .int x4)], [.int (x4 + 3), .ref SN, .int (sc.2 (x4 + 2).toNatClampNeg), .int (sc.2 (x4 + 1).toNatClampNeg), .ref 38, .long p167.1], mk p167.2.1, p167.2.2)
  obtain ⟨g170, h⟩ := gd_some h
  refine ExL.blk 1 rfl ?_
  refine And.intro (inb_ok g170) ?_
  show ExL pr sc (rtE (some (.int r)) (mk X2) σ2) (1072, [(0, .ref SN), (1, .ref 0), (2, .ref 38), (3, .ref 71), (4, .int x4)], [.int (sc.2 (x4 + 3).toNatClampNeg), .int (sc.2 (x4 + 2).toNatClampNeg), .int (sc.2 (x4 + 1).toNatClampNeg), .ref 38, .long p167.1], mk p167.2.1, p167.2.2)
  obtain ⟨p171, hp171, h⟩ := bind_sp h
  refine ExL.blk 1 rfl ?_
  refine Exists.intro (some (.long p171.1)) (Exists.intro (mk p167.2.1) (Exists.intro p171.2 (And.intro (cl_X10_span 56 hp171) ?_)))
  show ExL pr sc (rtE (some (.int r)) (mk X2) σ2) (1075, [(0, .ref SN), (1, .ref 0), (2, .ref 38), (3, .ref 71), (4, .int x4)], [.long p171.1, .long p167.1], mk p167.2.1, p171.2)
  refine ExL.blk 2 rfl ?_
  rcases ite_sp h with ⟨c172, h⟩ | ⟨c172, h⟩
  · refine And.intro (fun _ => ?_) (fun hn => absurd c172 hn)
    show ExL pr sc (rtE (some (.int r)) (mk X2) σ2) (1876, [(0, .ref SN), (1, .ref 0), (2, .ref 38), (3, .ref 71), (4, .int x4)], [], mk p167.2.1, p171.2)
    show ExL pr sc (rtE (some (.int r)) (mk X2) σ2) (1876, [(0, .ref SN), (1, .ref 0), (2, .ref 38), (3, .ref 71), (4, .int x4)], [], mk p167.2.1, p171.2)
    exact lg_L_1876 sc hsc hpr _ hk33 _ _ _ h
  · refine And.intro (fun hp => absurd hp c172) (fun _ => ?_)
    show ExL pr sc (rtE (some (.int r)) (mk X2) σ2) (1079, [(0, .ref SN), (1, .ref 0), (2, .ref 38), (3, .ref 71), (4, .int x4)], [], mk p167.2.1, p171.2)
    refine ExL.blk 2 rfl ?_
    cases h
    exact And.intro isb_0 ⟨rfl, rfl, rfl⟩
theorem lg_L_1081 {pr : Ct} (sc : Nat × (Nat → Int32)) (hsc : sc.1 ≤ 3073) (hpr : ∀ (c : Int32) (E : En) (σ : St) (d : Nat), Cl MT pr sc (d + 9) 51 [.ref LN, .int c] E σ (some (.int (ixo c))) E σ) {r : Int32} {X2 : En} {σ2 : St} (k33 : Int32 → En → St → Option (Int32 × En × St)) (hk33 : ∀ (x4 : Int32) (X : En) (σ : St), k33 x4 X σ = some (r, X2, σ2) → ExL pr sc (rtE (some (.int r)) (mk X2) σ2) (33, [(0, .ref SN), (1, .ref 0), (2, .ref 38), (3, .ref 71), (4, .int x4)], [], mk X, σ)) (x4 : Int32) (X : En) (σ : St) (h : g_L_1081 sc k33 x4 X σ = some (r, X2, σ2)) : ExL pr sc (rtE (some (.int r)) (mk X2) σ2) (1081, [(0, .ref SN), (1, .ref 0), (2, .ref 38), (3, .ref 71), (4, .int x4)], [], mk X, σ) := by
  unfold g_L_1081 at h
  refine ExL.blk 5 rfl ?_
  show ExL pr sc (rtE (some (.int r)) (mk X2) σ2) (1087, [(0, .ref SN), (1, .ref 0), (2, .ref 38), (3, .ref 71), (4, .int x4)], [.int (x4 + 1), .ref SN, .ref 0], mk X, σ)
  obtain ⟨g174, h⟩ := gd_some h
  refine ExL.blk 1 rfl ?_
  refine And.intro (inb_ok g174) ?_
  show ExL pr sc (rtE (some (.int r)) (mk X2) σ2) (1088, [(0, .ref SN), (1, .ref 0), (2, .ref 38), (3, .ref 71), (4, .int x4)], [.int (sc.2 (x4 + 1).toNatClampNeg), .ref 0], mk X, σ)
  refine ExL.blk 4 rfl ?_
  show ExL pr sc (rtE (some (.int r)) (mk X2) σ2) (1093, [(0, .ref SN), (1, .ref 0), (2, .ref 38), (3, .ref 71), (4, .int x4)], [.int (x4 + 2), .ref SN, .int (sc.2 (x4 + 1).toNatClampNeg), .ref 0], mk X, σ)
  obtain ⟨g175, h⟩ := gd_some h
  refine ExL.blk 1 rfl ?_
  refine And.intro (inb_ok g175) ?_
  show ExL pr sc (rtE (some (.int r)) (mk X2) σ2) (1094, [(0, .ref SN), (1, .ref 0), (2, .ref 38), (3, .ref 71), (4, .int x4)], [.int (sc.2 (x4 + 2).toNatClampNeg), .int (sc.2 (x4 + 1).toNatClampNeg), .ref 0], mk X, σ)
  refine ExL.blk 4 rfl ?_
  show ExL pr sc (rtE (some (.int r)) (mk X2) σ2) (1099, [(0, .ref SN), (1, .ref 0), (2, .ref 38), (3, .ref 71), (4, .int x4)], [.int (x4 + 3), .ref SN, .int (sc.2 (x4 + 2).toNatClampNeg), .int (sc.2 (x4 + 1).toNatClampNeg), .ref 0], mk X, σ)
  obtain ⟨g176, h⟩ := gd_some h
  refine ExL.blk 1 rfl ?_
  refine And.intro (inb_ok g176) ?_
  show ExL pr sc (rtE (some (.int r)) (mk X2) σ2) (1100, [(0, .ref SN), (1, .ref 0), (2, .ref 38), (3, .ref 71), (4, .int x4)], [.int (sc.2 (x4 + 3).toNatClampNeg), .int (sc.2 (x4 + 2).toNatClampNeg), .int (sc.2 (x4 + 1).toNatClampNeg), .ref 0], mk X, σ)
  obtain ⟨p177, hp177, h⟩ := bind_sp h
  refine ExL.blk 1 rfl ?_
  refine Exists.intro (some (.int p177.1)) (Exists.intro (mk X) (Exists.intro p177.2 (And.intro (cl_X9_astray 56 hp177) ?_)))
  show ExL pr sc (rtE (some (.int r)) (mk X2) σ2) (1103, [(0, .ref SN), (1, .ref 0), (2, .ref 38), (3, .ref 71), (4, .int x4)], [.int p177.1], mk X, p177.2)
  refine ExL.blk 5 rfl ?_
  show ExL pr sc (rtE (some (.int r)) (mk X2) σ2) (1109, [(0, .ref SN), (1, .ref 0), (2, .ref 38), (3, .ref 71), (4, .int x4)], [.int (x4 + 1), .ref SN, .ref 38, .int p177.1], mk X, p177.2)
  obtain ⟨g178, h⟩ := gd_some h
  refine ExL.blk 1 rfl ?_
  refine And.intro (inb_ok g178) ?_
  show ExL pr sc (rtE (some (.int r)) (mk X2) σ2) (1110, [(0, .ref SN), (1, .ref 0), (2, .ref 38), (3, .ref 71), (4, .int x4)], [.int (sc.2 (x4 + 1).toNatClampNeg), .ref 38, .int p177.1], mk X, p177.2)
  refine ExL.blk 4 rfl ?_
  show ExL pr sc (rtE (some (.int r)) (mk X2) σ2) (1115, [(0, .ref SN), (1, .ref 0), (2, .ref 38), (3, .ref 71), (4, .int x4)], [.int (x4 + 2), .ref SN, .int (sc.2 (x4 + 1).toNatClampNeg), .ref 38, .int p177.1], mk X, p177.2)
  obtain ⟨g179, h⟩ := gd_some h
  refine ExL.blk 1 rfl ?_
  refine And.intro (inb_ok g179) ?_
  show ExL pr sc (rtE (some (.int r)) (mk X2) σ2) (1116, [(0, .ref SN), (1, .ref 0), (2, .ref 38), (3, .ref 71), (4, .int x4)], [.int (sc.2 (x4 + 2).toNatClampNeg), .int (sc.2 (x4 + 1).toNatClampNeg), .ref 38, .int p177.1], mk X, p177.2)
  refine ExL.blk 4 rfl ?_
  show ExL pr sc (rtE (some (.int r)) (mk X2) σ2) (1121, [(0, .ref SN), (1, .ref 0), (2, .ref 38), (3, .ref 71), (4, .int x4)], [.int (x4 + 3), .ref SN, .int (sc.2 (x4 + 2).toNatClampNeg), .int (sc.2 (x4 + 1).toNatClampNeg), .ref 38, .int p177.1], mk X, p177.2)
  obtain ⟨g180, h⟩ := gd_some h
  refine ExL.blk 1 rfl ?_
  refine And.intro (inb_ok g180) ?_
  show ExL pr sc (rtE (some (.int r)) (mk X2) σ2) (1122, [(0, .ref SN), (1, .ref 0), (2, .ref 38), (3, .ref 71), (4, .int x4)], [.int (sc.2 (x4 + 3).toNatClampNeg), .int (sc.2 (x4 + 2).toNatClampNeg), .int (sc.2 (x4 + 1).toNatClampNeg), .ref 38, .int p177.1], mk X, p177.2)
  obtain ⟨p181, hp181, h⟩ := bind_sp h
  refine ExL.blk 1 rfl ?_
  refine Exists.intro (some (.int p181.1)) (Exists.intro (mk X) (Exists.intro p181.2 (And.intro (cl_X10_astray 56 hp181) ?_)))
  show ExL pr sc (rtE (some (.int r)) (mk X2) σ2) (1125, [(0, .ref SN), (1, .ref 0), (2, .ref 38), (3, .ref 71), (4, .int x4)], [.int p181.1, .int p177.1], mk X, p181.2)
  refine ExL.blk 1 rfl ?_
  rcases ite_sp h with ⟨c182, h⟩ | ⟨c182, h⟩
  · refine And.intro (fun _ => ?_) (fun hn => absurd c182 hn)
    show ExL pr sc (rtE (some (.int r)) (mk X2) σ2) (1876, [(0, .ref SN), (1, .ref 0), (2, .ref 38), (3, .ref 71), (4, .int x4)], [], mk X, p181.2)
    show ExL pr sc (rtE (some (.int r)) (mk X2) σ2) (1876, [(0, .ref SN), (1, .ref 0), (2, .ref 38), (3, .ref 71), (4, .int x4)], [], mk X, p181.2)
    exact lg_L_1876 sc hsc hpr _ hk33 _ _ _ h
  · refine And.intro (fun hp => absurd hp c182) (fun _ => ?_)
    show ExL pr sc (rtE (some (.int r)) (mk X2) σ2) (1128, [(0, .ref SN), (1, .ref 0), (2, .ref 38), (3, .ref 71), (4, .int x4)], [], mk X, p181.2)
    refine ExL.blk 2 rfl ?_
    cases h
    exact And.intro isb_0 ⟨rfl, rfl, rfl⟩
theorem lg_L_1130 {pr : Ct} (sc : Nat × (Nat → Int32)) (hsc : sc.1 ≤ 3073) (hpr : ∀ (c : Int32) (E : En) (σ : St) (d : Nat), Cl MT pr sc (d + 9) 51 [.ref LN, .int c] E σ (some (.int (ixo c))) E σ) {r : Int32} {X2 : En} {σ2 : St} (k33 : Int32 → En → St → Option (Int32 × En × St)) (hk33 : ∀ (x4 : Int32) (X : En) (σ : St), k33 x4 X σ = some (r, X2, σ2) → ExL pr sc (rtE (some (.int r)) (mk X2) σ2) (33, [(0, .ref SN), (1, .ref 0), (2, .ref 38), (3, .ref 71), (4, .int x4)], [], mk X, σ)) (x4 : Int32) (X : En) (σ : St) (h : g_L_1130 sc k33 x4 X σ = some (r, X2, σ2)) : ExL pr sc (rtE (some (.int r)) (mk X2) σ2) (1130, [(0, .ref SN), (1, .ref 0), (2, .ref 38), (3, .ref 71), (4, .int x4)], [], mk X, σ) := by
  unfold g_L_1130 at h
  refine ExL.blk 5 rfl ?_
  show ExL pr sc (rtE (some (.int r)) (mk X2) σ2) (1136, [(0, .ref SN), (1, .ref 0), (2, .ref 38), (3, .ref 71), (4, .int x4)], [.int (x4 + 1), .ref SN, .ref 0], mk X, σ)
  obtain ⟨g184, h⟩ := gd_some h
  refine ExL.blk 1 rfl ?_
  refine And.intro (inb_ok g184) ?_
  show ExL pr sc (rtE (some (.int r)) (mk X2) σ2) (1137, [(0, .ref SN), (1, .ref 0), (2, .ref 38), (3, .ref 71), (4, .int x4)], [.int (sc.2 (x4 + 1).toNatClampNeg), .ref 0], mk X, σ)
  obtain ⟨p185, hp185, h⟩ := bind_sp h
  refine ExL.blk 1 rfl ?_
  refine Exists.intro (some (.int p185.1)) (Exists.intro (mk X) (Exists.intro p185.2 (And.intro (cl_X9_harvest 58 hp185) ?_)))
  show ExL pr sc (rtE (some (.int r)) (mk X2) σ2) (1140, [(0, .ref SN), (1, .ref 0), (2, .ref 38), (3, .ref 71), (4, .int x4)], [.int p185.1], mk X, p185.2)
  refine ExL.blk 5 rfl ?_
  show ExL pr sc (rtE (some (.int r)) (mk X2) σ2) (1146, [(0, .ref SN), (1, .ref 0), (2, .ref 38), (3, .ref 71), (4, .int x4)], [.int (x4 + 1), .ref SN, .ref 38, .int p185.1], mk X, p185.2)
  obtain ⟨g186, h⟩ := gd_some h
  refine ExL.blk 1 rfl ?_
  refine And.intro (inb_ok g186) ?_
  show ExL pr sc (rtE (some (.int r)) (mk X2) σ2) (1147, [(0, .ref SN), (1, .ref 0), (2, .ref 38), (3, .ref 71), (4, .int x4)], [.int (sc.2 (x4 + 1).toNatClampNeg), .ref 38, .int p185.1], mk X, p185.2)
  obtain ⟨p187, hp187, h⟩ := bind_sp h
  refine ExL.blk 1 rfl ?_
  refine Exists.intro (some (.int p187.1)) (Exists.intro (mk X) (Exists.intro p187.2 (And.intro (cl_X10_harvest 58 hp187) ?_)))
  show ExL pr sc (rtE (some (.int r)) (mk X2) σ2) (1150, [(0, .ref SN), (1, .ref 0), (2, .ref 38), (3, .ref 71), (4, .int x4)], [.int p187.1, .int p185.1], mk X, p187.2)
  refine ExL.blk 1 rfl ?_
  rcases ite_sp h with ⟨c188, h⟩ | ⟨c188, h⟩
  · refine And.intro (fun _ => ?_) (fun hn => absurd c188 hn)
    show ExL pr sc (rtE (some (.int r)) (mk X2) σ2) (1876, [(0, .ref SN), (1, .ref 0), (2, .ref 38), (3, .ref 71), (4, .int x4)], [], mk X, p187.2)
    show ExL pr sc (rtE (some (.int r)) (mk X2) σ2) (1876, [(0, .ref SN), (1, .ref 0), (2, .ref 38), (3, .ref 71), (4, .int x4)], [], mk X, p187.2)
    exact lg_L_1876 sc hsc hpr _ hk33 _ _ _ h
  · refine And.intro (fun hp => absurd hp c188) (fun _ => ?_)
    show ExL pr sc (rtE (some (.int r)) (mk X2) σ2) (1153, [(0, .ref SN), (1, .ref 0), (2, .ref 38), (3, .ref 71), (4, .int x4)], [], mk X, p187.2)
    refine ExL.blk 2 rfl ?_
    cases h
    exact And.intro isb_0 ⟨rfl, rfl, rfl⟩
theorem lg_L_1155 {pr : Ct} (sc : Nat × (Nat → Int32)) (hsc : sc.1 ≤ 3073) (hpr : ∀ (c : Int32) (E : En) (σ : St) (d : Nat), Cl MT pr sc (d + 9) 51 [.ref LN, .int c] E σ (some (.int (ixo c))) E σ) {r : Int32} {X2 : En} {σ2 : St} (k33 : Int32 → En → St → Option (Int32 × En × St)) (hk33 : ∀ (x4 : Int32) (X : En) (σ : St), k33 x4 X σ = some (r, X2, σ2) → ExL pr sc (rtE (some (.int r)) (mk X2) σ2) (33, [(0, .ref SN), (1, .ref 0), (2, .ref 38), (3, .ref 71), (4, .int x4)], [], mk X, σ)) (x4 : Int32) (X : En) (σ : St) (h : g_L_1155 sc k33 x4 X σ = some (r, X2, σ2)) : ExL pr sc (rtE (some (.int r)) (mk X2) σ2) (1155, [(0, .ref SN), (1, .ref 0), (2, .ref 38), (3, .ref 71), (4, .int x4)], [], mk X, σ) := by
  unfold g_L_1155 at h
  refine ExL.blk 5 rfl ?_
  show ExL pr sc (rtE (some (.int r)) (mk X2) σ2) (1161, [(0, .ref SN), (1, .ref 0), (2, .ref 38), (3, .ref 71), (4, .int x4)], [.int (x4 + 1), .ref SN, .ref 0], mk X, σ)
  obtain ⟨g190, h⟩ := gd_some h
  refine ExL.blk 1 rfl ?_
  refine And.intro (inb_ok g190) ?_
  show ExL pr sc (rtE (some (.int r)) (mk X2) σ2) (1162, [(0, .ref SN), (1, .ref 0), (2, .ref 38), (3, .ref 71), (4, .int x4)], [.int (sc.2 (x4 + 1).toNatClampNeg), .ref 0], mk X, σ)
  obtain ⟨p191, hp191, h⟩ := bind_sp h
  refine ExL.blk 1 rfl ?_
  refine Exists.intro (some (.int p191.1)) (Exists.intro (mk p191.2.1) (Exists.intro p191.2.2 (And.intro (cg_X9_fewest 53 hp191) ?_)))
  show ExL pr sc (rtE (some (.int r)) (mk X2) σ2) (1165, [(0, .ref SN), (1, .ref 0), (2, .ref 38), (3, .ref 71), (4, .int x4)], [.int p191.1], mk p191.2.1, p191.2.2)
  refine ExL.blk 5 rfl ?_
  show ExL pr sc (rtE (some (.int r)) (mk X2) σ2) (1171, [(0, .ref SN), (1, .ref 0), (2, .ref 38), (3, .ref 71), (4, .int x4)], [.int (x4 + 1), .ref SN, .ref 38, .int p191.1], mk p191.2.1, p191.2.2)
  obtain ⟨g192, h⟩ := gd_some h
  refine ExL.blk 1 rfl ?_
  refine And.intro (inb_ok g192) ?_
  show ExL pr sc (rtE (some (.int r)) (mk X2) σ2) (1172, [(0, .ref SN), (1, .ref 0), (2, .ref 38), (3, .ref 71), (4, .int x4)], [.int (sc.2 (x4 + 1).toNatClampNeg), .ref 38, .int p191.1], mk p191.2.1, p191.2.2)
  obtain ⟨p193, hp193, h⟩ := bind_sp h
  refine ExL.blk 1 rfl ?_
  refine Exists.intro (some (.int p193.1)) (Exists.intro (mk p191.2.1) (Exists.intro p193.2 (And.intro (cl_X10_fewest 56 hp193) ?_)))
  show ExL pr sc (rtE (some (.int r)) (mk X2) σ2) (1175, [(0, .ref SN), (1, .ref 0), (2, .ref 38), (3, .ref 71), (4, .int x4)], [.int p193.1, .int p191.1], mk p191.2.1, p193.2)
  refine ExL.blk 1 rfl ?_
  rcases ite_sp h with ⟨c194, h⟩ | ⟨c194, h⟩
  · refine And.intro (fun _ => ?_) (fun hn => absurd c194 hn)
    show ExL pr sc (rtE (some (.int r)) (mk X2) σ2) (1876, [(0, .ref SN), (1, .ref 0), (2, .ref 38), (3, .ref 71), (4, .int x4)], [], mk p191.2.1, p193.2)
    show ExL pr sc (rtE (some (.int r)) (mk X2) σ2) (1876, [(0, .ref SN), (1, .ref 0), (2, .ref 38), (3, .ref 71), (4, .int x4)], [], mk p191.2.1, p193.2)
    exact lg_L_1876 sc hsc hpr _ hk33 _ _ _ h
  · refine And.intro (fun hp => absurd hp c194) (fun _ => ?_)
    show ExL pr sc (rtE (some (.int r)) (mk X2) σ2) (1178, [(0, .ref SN), (1, .ref 0), (2, .ref 38), (3, .ref 71), (4, .int x4)], [], mk p191.2.1, p193.2)
    refine ExL.blk 2 rfl ?_
    cases h
    exact And.intro isb_0 ⟨rfl, rfl, rfl⟩
theorem lg_L_1180 {pr : Ct} (sc : Nat × (Nat → Int32)) (hsc : sc.1 ≤ 3073) (hpr : ∀ (c : Int32) (E : En) (σ : St) (d : Nat), Cl MT pr sc (d + 9) 51 [.ref LN, .int c] E σ (some (.int (ixo c))) E σ) {r : Int32} {X2 : En} {σ2 : St} (k33 : Int32 → En → St → Option (Int32 × En × St)) (hk33 : ∀ (x4 : Int32) (X : En) (σ : St), k33 x4 X σ = some (r, X2, σ2) → ExL pr sc (rtE (some (.int r)) (mk X2) σ2) (33, [(0, .ref SN), (1, .ref 0), (2, .ref 38), (3, .ref 71), (4, .int x4)], [], mk X, σ)) (x4 : Int32) (X : En) (σ : St) (h : g_L_1180 sc k33 x4 X σ = some (r, X2, σ2)) : ExL pr sc (rtE (some (.int r)) (mk X2) σ2) (1180, [(0, .ref SN), (1, .ref 0), (2, .ref 38), (3, .ref 71), (4, .int x4)], [], mk X, σ) := by
  unfold g_L_1180 at h
  refine ExL.blk 5 rfl ?_
  show ExL pr sc (rtE (some (.int r)) (mk X2) σ2) (1186, [(0, .ref SN), (1, .ref 0), (2, .ref 38), (3, .ref 71), (4, .int x4)], [.int (x4 + 1), .ref SN, .ref 0], mk X, σ)
  obtain ⟨g196, h⟩ := gd_some h
  refine ExL.blk 1 rfl ?_
  refine And.intro (inb_ok g196) ?_
  show ExL pr sc (rtE (some (.int r)) (mk X2) σ2) (1187, [(0, .ref SN), (1, .ref 0), (2, .ref 38), (3, .ref 71), (4, .int x4)], [.int (sc.2 (x4 + 1).toNatClampNeg), .ref 0], mk X, σ)
  obtain ⟨p197, hp197, h⟩ := bind_sp h
  refine ExL.blk 1 rfl ?_
  refine Exists.intro (some (.int p197.1)) (Exists.intro (mk X) (Exists.intro p197.2 (And.intro (cl_X9_added 56 hp197) ?_)))
  show ExL pr sc (rtE (some (.int r)) (mk X2) σ2) (1190, [(0, .ref SN), (1, .ref 0), (2, .ref 38), (3, .ref 71), (4, .int x4)], [.int p197.1], mk X, p197.2)
  refine ExL.blk 5 rfl ?_
  show ExL pr sc (rtE (some (.int r)) (mk X2) σ2) (1196, [(0, .ref SN), (1, .ref 0), (2, .ref 38), (3, .ref 71), (4, .int x4)], [.int (x4 + 1), .ref SN, .ref 38, .int p197.1], mk X, p197.2)
  obtain ⟨g198, h⟩ := gd_some h
  refine ExL.blk 1 rfl ?_
  refine And.intro (inb_ok g198) ?_
  show ExL pr sc (rtE (some (.int r)) (mk X2) σ2) (1197, [(0, .ref SN), (1, .ref 0), (2, .ref 38), (3, .ref 71), (4, .int x4)], [.int (sc.2 (x4 + 1).toNatClampNeg), .ref 38, .int p197.1], mk X, p197.2)
  obtain ⟨p199, hp199, h⟩ := bind_sp h
  refine ExL.blk 1 rfl ?_
  refine Exists.intro (some (.int p199.1)) (Exists.intro (mk X) (Exists.intro p199.2 (And.intro (cl_X10_added 56 hp199) ?_)))
  show ExL pr sc (rtE (some (.int r)) (mk X2) σ2) (1200, [(0, .ref SN), (1, .ref 0), (2, .ref 38), (3, .ref 71), (4, .int x4)], [.int p199.1, .int p197.1], mk X, p199.2)
  refine ExL.blk 1 rfl ?_
  rcases ite_sp h with ⟨c200, h⟩ | ⟨c200, h⟩
  · refine And.intro (fun _ => ?_) (fun hn => absurd c200 hn)
    show ExL pr sc (rtE (some (.int r)) (mk X2) σ2) (1876, [(0, .ref SN), (1, .ref 0), (2, .ref 38), (3, .ref 71), (4, .int x4)], [], mk X, p199.2)
    show ExL pr sc (rtE (some (.int r)) (mk X2) σ2) (1876, [(0, .ref SN), (1, .ref 0), (2, .ref 38), (3, .ref 71), (4, .int x4)], [], mk X, p199.2)
    exact lg_L_1876 sc hsc hpr _ hk33 _ _ _ h
  · refine And.intro (fun hp => absurd hp c200) (fun _ => ?_)
    show ExL pr sc (rtE (some (.int r)) (mk X2) σ2) (1203, [(0, .ref SN), (1, .ref 0), (2, .ref 38), (3, .ref 71), (4, .int x4)], [], mk X, p199.2)
    refine ExL.blk 2 rfl ?_
    cases h
    exact And.intro isb_0 ⟨rfl, rfl, rfl⟩
theorem lg_L_1205 {pr : Ct} (sc : Nat × (Nat → Int32)) (hsc : sc.1 ≤ 3073) (hpr : ∀ (c : Int32) (E : En) (σ : St) (d : Nat), Cl MT pr sc (d + 9) 51 [.ref LN, .int c] E σ (some (.int (ixo c))) E σ) {r : Int32} {X2 : En} {σ2 : St} (k33 : Int32 → En → St → Option (Int32 × En × St)) (hk33 : ∀ (x4 : Int32) (X : En) (σ : St), k33 x4 X σ = some (r, X2, σ2) → ExL pr sc (rtE (some (.int r)) (mk X2) σ2) (33, [(0, .ref SN), (1, .ref 0), (2, .ref 38), (3, .ref 71), (4, .int x4)], [], mk X, σ)) (x4 : Int32) (X : En) (σ : St) (h : g_L_1205 sc k33 x4 X σ = some (r, X2, σ2)) : ExL pr sc (rtE (some (.int r)) (mk X2) σ2) (1205, [(0, .ref SN), (1, .ref 0), (2, .ref 38), (3, .ref 71), (4, .int x4)], [], mk X, σ) := by
  unfold g_L_1205 at h
  refine ExL.blk 1 rfl ?_
  show ExL pr sc (rtE (some (.int r)) (mk X2) σ2) (1206, [(0, .ref SN), (1, .ref 0), (2, .ref 38), (3, .ref 71), (4, .int x4)], [.ref 0], mk X, σ)
  obtain ⟨p202, hp202, h⟩ := bind_sp h
  refine ExL.blk 1 rfl ?_
  refine Exists.intro (some (.int p202.1)) (Exists.intro (mk X) (Exists.intro p202.2 (And.intro (cl_X9_near 56 hp202) ?_)))
  show ExL pr sc (rtE (some (.int r)) (mk X2) σ2) (1209, [(0, .ref SN), (1, .ref 0), (2, .ref 38), (3, .ref 71), (4, .int x4)], [.int p202.1], mk X, p202.2)
  refine ExL.blk 1 rfl ?_
  show ExL pr sc (rtE (some (.int r)) (mk X2) σ2) (1210, [(0, .ref SN), (1, .ref 0), (2, .ref 38), (3, .ref 71), (4, .int x4)], [.ref 38, .int p202.1], mk X, p202.2)
  obtain ⟨p203, hp203, h⟩ := bind_sp h
  refine ExL.blk 1 rfl ?_
  refine Exists.intro (some (.int p203.1)) (Exists.intro (mk X) (Exists.intro p203.2 (And.intro (cl_X10_near 56 hp203) ?_)))
  show ExL pr sc (rtE (some (.int r)) (mk X2) σ2) (1213, [(0, .ref SN), (1, .ref 0), (2, .ref 38), (3, .ref 71), (4, .int x4)], [.int p203.1, .int p202.1], mk X, p203.2)
  refine ExL.blk 1 rfl ?_
  rcases ite_sp h with ⟨c204, h⟩ | ⟨c204, h⟩
  · refine And.intro (fun _ => ?_) (fun hn => absurd c204 hn)
    show ExL pr sc (rtE (some (.int r)) (mk X2) σ2) (1876, [(0, .ref SN), (1, .ref 0), (2, .ref 38), (3, .ref 71), (4, .int x4)], [], mk X, p203.2)
    show ExL pr sc (rtE (some (.int r)) (mk X2) σ2) (1876, [(0, .ref SN), (1, .ref 0), (2, .ref 38), (3, .ref 71), (4, .int x4)], [], mk X, p203.2)
    exact lg_L_1876 sc hsc hpr _ hk33 _ _ _ h
  · refine And.intro (fun hp => absurd hp c204) (fun _ => ?_)
    show ExL pr sc (rtE (some (.int r)) (mk X2) σ2) (1216, [(0, .ref SN), (1, .ref 0), (2, .ref 38), (3, .ref 71), (4, .int x4)], [], mk X, p203.2)
    refine ExL.blk 2 rfl ?_
    cases h
    exact And.intro isb_0 ⟨rfl, rfl, rfl⟩
theorem lg_L_1218 {pr : Ct} (sc : Nat × (Nat → Int32)) (hsc : sc.1 ≤ 3073) (hpr : ∀ (c : Int32) (E : En) (σ : St) (d : Nat), Cl MT pr sc (d + 9) 51 [.ref LN, .int c] E σ (some (.int (ixo c))) E σ) {r : Int32} {X2 : En} {σ2 : St} (k33 : Int32 → En → St → Option (Int32 × En × St)) (hk33 : ∀ (x4 : Int32) (X : En) (σ : St), k33 x4 X σ = some (r, X2, σ2) → ExL pr sc (rtE (some (.int r)) (mk X2) σ2) (33, [(0, .ref SN), (1, .ref 0), (2, .ref 38), (3, .ref 71), (4, .int x4)], [], mk X, σ)) (x4 : Int32) (X : En) (σ : St) (h : g_L_1218 sc k33 x4 X σ = some (r, X2, σ2)) : ExL pr sc (rtE (some (.int r)) (mk X2) σ2) (1218, [(0, .ref SN), (1, .ref 0), (2, .ref 38), (3, .ref 71), (4, .int x4)], [], mk X, σ) := by
  unfold g_L_1218 at h
  refine ExL.blk 5 rfl ?_
  show ExL pr sc (rtE (some (.int r)) (mk X2) σ2) (1224, [(0, .ref SN), (1, .ref 0), (2, .ref 38), (3, .ref 71), (4, .int x4)], [.int (x4 + 1), .ref SN, .ref 0], mk X, σ)
  obtain ⟨g206, h⟩ := gd_some h
  refine ExL.blk 1 rfl ?_
  refine And.intro (inb_ok g206) ?_
  show ExL pr sc (rtE (some (.int r)) (mk X2) σ2) (1225, [(0, .ref SN), (1, .ref 0), (2, .ref 38), (3, .ref 71), (4, .int x4)], [.int (sc.2 (x4 + 1).toNatClampNeg), .ref 0], mk X, σ)
  refine ExL.blk 4 rfl ?_
  show ExL pr sc (rtE (some (.int r)) (mk X2) σ2) (1230, [(0, .ref SN), (1, .ref 0), (2, .ref 38), (3, .ref 71), (4, .int x4)], [.int (x4 + 2), .ref SN, .int (sc.2 (x4 + 1).toNatClampNeg), .ref 0], mk X, σ)
  obtain ⟨g207, h⟩ := gd_some h
  refine ExL.blk 1 rfl ?_
  refine And.intro (inb_ok g207) ?_
  show ExL pr sc (rtE (some (.int r)) (mk X2) σ2) (1231, [(0, .ref SN), (1, .ref 0), (2, .ref 38), (3, .ref 71), (4, .int x4)], [.int (sc.2 (x4 + 2).toNatClampNeg), .int (sc.2 (x4 + 1).toNatClampNeg), .ref 0], mk X, σ)
  refine ExL.blk 4 rfl ?_
  show ExL pr sc (rtE (some (.int r)) (mk X2) σ2) (1236, [(0, .ref SN), (1, .ref 0), (2, .ref 38), (3, .ref 71), (4, .int x4)], [.int (x4 + 3), .ref SN, .int (sc.2 (x4 + 2).toNatClampNeg), .int (sc.2 (x4 + 1).toNatClampNeg), .ref 0], mk X, σ)
  obtain ⟨g208, h⟩ := gd_some h
  refine ExL.blk 1 rfl ?_
  refine And.intro (inb_ok g208) ?_
  show ExL pr sc (rtE (some (.int r)) (mk X2) σ2) (1237, [(0, .ref SN), (1, .ref 0), (2, .ref 38), (3, .ref 71), (4, .int x4)], [.int (sc.2 (x4 + 3).toNatClampNeg), .int (sc.2 (x4 + 2).toNatClampNeg), .int (sc.2 (x4 + 1).toNatClampNeg), .ref 0], mk X, σ)
  refine ExL.blk 4 rfl ?_
  show ExL pr sc (rtE (some (.int r)) (mk X2) σ2) (1242, [(0, .ref SN), (1, .ref 0), (2, .ref 38), (3, .ref 71), (4, .int x4)], [.int (x4 + 4), .ref SN, .int (sc.2 (x4 + 3).toNatClampNeg), .int (sc.2 (x4 + 2).toNatClampNeg), .int (sc.2 (x4 + 1).toNatClampNeg), .ref 0], mk X, σ)
  obtain ⟨g209, h⟩ := gd_some h
  refine ExL.blk 1 rfl ?_
  refine And.intro (inb_ok g209) ?_
  show ExL pr sc (rtE (some (.int r)) (mk X2) σ2) (1243, [(0, .ref SN), (1, .ref 0), (2, .ref 38), (3, .ref 71), (4, .int x4)], [.int (sc.2 (x4 + 4).toNatClampNeg), .int (sc.2 (x4 + 3).toNatClampNeg), .int (sc.2 (x4 + 2).toNatClampNeg), .int (sc.2 (x4 + 1).toNatClampNeg), .ref 0], mk X, σ)
  obtain ⟨p210, hp210, h⟩ := bind_sp h
  refine ExL.blk 1 rfl ?_
  refine Exists.intro (some (.long p210.1)) (Exists.intro (mk X) (Exists.intro p210.2 (And.intro (cl_X9_product 54 hp210) ?_)))
  show ExL pr sc (rtE (some (.int r)) (mk X2) σ2) (1246, [(0, .ref SN), (1, .ref 0), (2, .ref 38), (3, .ref 71), (4, .int x4)], [.long p210.1], mk X, p210.2)
  refine ExL.blk 5 rfl ?_
  show ExL pr sc (rtE (some (.int r)) (mk X2) σ2) (1252, [(0, .ref SN), (1, .ref 0), (2, .ref 38), (3, .ref 71), (4, .int x4)], [.int (x4 + 1), .ref SN, .ref 38, .long p210.1], mk X, p210.2)
  obtain ⟨g211, h⟩ := gd_some h
  refine ExL.blk 1 rfl ?_
  refine And.intro (inb_ok g211) ?_
  show ExL pr sc (rtE (some (.int r)) (mk X2) σ2) (1253, [(0, .ref SN), (1, .ref 0), (2, .ref 38), (3, .ref 71), (4, .int x4)], [.int (sc.2 (x4 + 1).toNatClampNeg), .ref 38, .long p210.1], mk X, p210.2)
  refine ExL.blk 4 rfl ?_
  show ExL pr sc (rtE (some (.int r)) (mk X2) σ2) (1258, [(0, .ref SN), (1, .ref 0), (2, .ref 38), (3, .ref 71), (4, .int x4)], [.int (x4 + 2), .ref SN, .int (sc.2 (x4 + 1).toNatClampNeg), .ref 38, .long p210.1], mk X, p210.2)
  obtain ⟨g212, h⟩ := gd_some h
  refine ExL.blk 1 rfl ?_
  refine And.intro (inb_ok g212) ?_
  show ExL pr sc (rtE (some (.int r)) (mk X2) σ2) (1259, [(0, .ref SN), (1, .ref 0), (2, .ref 38), (3, .ref 71), (4, .int x4)], [.int (sc.2 (x4 + 2).toNatClampNeg), .int (sc.2 (x4 + 1).toNatClampNeg), .ref 38, .long p210.1], mk X, p210.2)
  refine ExL.blk 4 rfl ?_
  show ExL pr sc (rtE (some (.int r)) (mk X2) σ2) (1264, [(0, .ref SN), (1, .ref 0), (2, .ref 38), (3, .ref 71), (4, .int x4)], [.int (x4 + 3), .ref SN, .int (sc.2 (x4 + 2).toNatClampNeg), .int (sc.2 (x4 + 1).toNatClampNeg), .ref 38, .long p210.1], mk X, p210.2)
  obtain ⟨g213, h⟩ := gd_some h
  refine ExL.blk 1 rfl ?_
  refine And.intro (inb_ok g213) ?_
  show ExL pr sc (rtE (some (.int r)) (mk X2) σ2) (1265, [(0, .ref SN), (1, .ref 0), (2, .ref 38), (3, .ref 71), (4, .int x4)], [.int (sc.2 (x4 + 3).toNatClampNeg), .int (sc.2 (x4 + 2).toNatClampNeg), .int (sc.2 (x4 + 1).toNatClampNeg), .ref 38, .long p210.1], mk X, p210.2)
  refine ExL.blk 4 rfl ?_
  show ExL pr sc (rtE (some (.int r)) (mk X2) σ2) (1270, [(0, .ref SN), (1, .ref 0), (2, .ref 38), (3, .ref 71), (4, .int x4)], [.int (x4 + 4), .ref SN, .int (sc.2 (x4 + 3).toNatClampNeg), .int (sc.2 (x4 + 2).toNatClampNeg), .int (sc.2 (x4 + 1).toNatClampNeg), .ref 38, .long p210.1], mk X, p210.2)
  obtain ⟨g214, h⟩ := gd_some h
  refine ExL.blk 1 rfl ?_
  refine And.intro (inb_ok g214) ?_
  show ExL pr sc (rtE (some (.int r)) (mk X2) σ2) (1271, [(0, .ref SN), (1, .ref 0), (2, .ref 38), (3, .ref 71), (4, .int x4)], [.int (sc.2 (x4 + 4).toNatClampNeg), .int (sc.2 (x4 + 3).toNatClampNeg), .int (sc.2 (x4 + 2).toNatClampNeg), .int (sc.2 (x4 + 1).toNatClampNeg), .ref 38, .long p210.1], mk X, p210.2)
  obtain ⟨p215, hp215, h⟩ := bind_sp h
  refine ExL.blk 1 rfl ?_
  refine Exists.intro (some (.long p215.1)) (Exists.intro (mk X) (Exists.intro p215.2 (And.intro (cl_X10_product 55 hp215) ?_)))
  show ExL pr sc (rtE (some (.int r)) (mk X2) σ2) (1274, [(0, .ref SN), (1, .ref 0), (2, .ref 38), (3, .ref 71), (4, .int x4)], [.long p215.1, .long p210.1], mk X, p215.2)
  refine ExL.blk 2 rfl ?_
  rcases ite_sp h with ⟨c216, h⟩ | ⟨c216, h⟩
  · refine And.intro (fun _ => ?_) (fun hn => absurd c216 hn)
    show ExL pr sc (rtE (some (.int r)) (mk X2) σ2) (1876, [(0, .ref SN), (1, .ref 0), (2, .ref 38), (3, .ref 71), (4, .int x4)], [], mk X, p215.2)
    show ExL pr sc (rtE (some (.int r)) (mk X2) σ2) (1876, [(0, .ref SN), (1, .ref 0), (2, .ref 38), (3, .ref 71), (4, .int x4)], [], mk X, p215.2)
    exact lg_L_1876 sc hsc hpr _ hk33 _ _ _ h
  · refine And.intro (fun hp => absurd hp c216) (fun _ => ?_)
    show ExL pr sc (rtE (some (.int r)) (mk X2) σ2) (1278, [(0, .ref SN), (1, .ref 0), (2, .ref 38), (3, .ref 71), (4, .int x4)], [], mk X, p215.2)
    refine ExL.blk 2 rfl ?_
    cases h
    exact And.intro isb_0 ⟨rfl, rfl, rfl⟩
theorem lg_L_1280 {pr : Ct} (sc : Nat × (Nat → Int32)) (hsc : sc.1 ≤ 3073) (hpr : ∀ (c : Int32) (E : En) (σ : St) (d : Nat), Cl MT pr sc (d + 9) 51 [.ref LN, .int c] E σ (some (.int (ixo c))) E σ) {r : Int32} {X2 : En} {σ2 : St} (k33 : Int32 → En → St → Option (Int32 × En × St)) (hk33 : ∀ (x4 : Int32) (X : En) (σ : St), k33 x4 X σ = some (r, X2, σ2) → ExL pr sc (rtE (some (.int r)) (mk X2) σ2) (33, [(0, .ref SN), (1, .ref 0), (2, .ref 38), (3, .ref 71), (4, .int x4)], [], mk X, σ)) (x4 : Int32) (X : En) (σ : St) (h : g_L_1280 sc k33 x4 X σ = some (r, X2, σ2)) : ExL pr sc (rtE (some (.int r)) (mk X2) σ2) (1280, [(0, .ref SN), (1, .ref 0), (2, .ref 38), (3, .ref 71), (4, .int x4)], [], mk X, σ) := by
  unfold g_L_1280 at h
  refine ExL.blk 5 rfl ?_
  show ExL pr sc (rtE (some (.int r)) (mk X2) σ2) (1286, [(0, .ref SN), (1, .ref 0), (2, .ref 38), (3, .ref 71), (4, .int x4)], [.int (x4 + 1), .ref SN, .ref 0], mk X, σ)
  obtain ⟨g218, h⟩ := gd_some h
  refine ExL.blk 1 rfl ?_
  refine And.intro (inb_ok g218) ?_
  show ExL pr sc (rtE (some (.int r)) (mk X2) σ2) (1287, [(0, .ref SN), (1, .ref 0), (2, .ref 38), (3, .ref 71), (4, .int x4)], [.int (sc.2 (x4 + 1).toNatClampNeg), .ref 0], mk X, σ)
  refine ExL.blk 4 rfl ?_
  show ExL pr sc (rtE (some (.int r)) (mk X2) σ2) (1292, [(0, .ref SN), (1, .ref 0), (2, .ref 38), (3, .ref 71), (4, .int x4)], [.int (x4 + 2), .ref SN, .int (sc.2 (x4 + 1).toNatClampNeg), .ref 0], mk X, σ)
  obtain ⟨g219, h⟩ := gd_some h
  refine ExL.blk 1 rfl ?_
  refine And.intro (inb_ok g219) ?_
  show ExL pr sc (rtE (some (.int r)) (mk X2) σ2) (1293, [(0, .ref SN), (1, .ref 0), (2, .ref 38), (3, .ref 71), (4, .int x4)], [.int (sc.2 (x4 + 2).toNatClampNeg), .int (sc.2 (x4 + 1).toNatClampNeg), .ref 0], mk X, σ)
  obtain ⟨p220, hp220, h⟩ := bind_sp h
  refine ExL.blk 1 rfl ?_
  refine Exists.intro (some (.int p220.1)) (Exists.intro (mk X) (Exists.intro p220.2 (And.intro (cl_X9_rival 54 hp220) ?_)))
  show ExL pr sc (rtE (some (.int r)) (mk X2) σ2) (1296, [(0, .ref SN), (1, .ref 0), (2, .ref 38), (3, .ref 71), (4, .int x4)], [.int p220.1], mk X, p220.2)
  refine ExL.blk 5 rfl ?_
  show ExL pr sc (rtE (some (.int r)) (mk X2) σ2) (1302, [(0, .ref SN), (1, .ref 0), (2, .ref 38), (3, .ref 71), (4, .int x4)], [.int (x4 + 1), .ref SN, .ref 38, .int p220.1], mk X, p220.2)
  obtain ⟨g221, h⟩ := gd_some h
  refine ExL.blk 1 rfl ?_
  refine And.intro (inb_ok g221) ?_
  show ExL pr sc (rtE (some (.int r)) (mk X2) σ2) (1303, [(0, .ref SN), (1, .ref 0), (2, .ref 38), (3, .ref 71), (4, .int x4)], [.int (sc.2 (x4 + 1).toNatClampNeg), .ref 38, .int p220.1], mk X, p220.2)
  refine ExL.blk 4 rfl ?_
  show ExL pr sc (rtE (some (.int r)) (mk X2) σ2) (1308, [(0, .ref SN), (1, .ref 0), (2, .ref 38), (3, .ref 71), (4, .int x4)], [.int (x4 + 2), .ref SN, .int (sc.2 (x4 + 1).toNatClampNeg), .ref 38, .int p220.1], mk X, p220.2)
  obtain ⟨g222, h⟩ := gd_some h
  refine ExL.blk 1 rfl ?_
  refine And.intro (inb_ok g222) ?_
  show ExL pr sc (rtE (some (.int r)) (mk X2) σ2) (1309, [(0, .ref SN), (1, .ref 0), (2, .ref 38), (3, .ref 71), (4, .int x4)], [.int (sc.2 (x4 + 2).toNatClampNeg), .int (sc.2 (x4 + 1).toNatClampNeg), .ref 38, .int p220.1], mk X, p220.2)
  obtain ⟨p223, hp223, h⟩ := bind_sp h
  refine ExL.blk 1 rfl ?_
  refine Exists.intro (some (.int p223.1)) (Exists.intro (mk X) (Exists.intro p223.2 (And.intro (cl_X10_rival 55 hp223) ?_)))
  show ExL pr sc (rtE (some (.int r)) (mk X2) σ2) (1312, [(0, .ref SN), (1, .ref 0), (2, .ref 38), (3, .ref 71), (4, .int x4)], [.int p223.1, .int p220.1], mk X, p223.2)
  refine ExL.blk 1 rfl ?_
  rcases ite_sp h with ⟨c224, h⟩ | ⟨c224, h⟩
  · refine And.intro (fun _ => ?_) (fun hn => absurd c224 hn)
    show ExL pr sc (rtE (some (.int r)) (mk X2) σ2) (1876, [(0, .ref SN), (1, .ref 0), (2, .ref 38), (3, .ref 71), (4, .int x4)], [], mk X, p223.2)
    show ExL pr sc (rtE (some (.int r)) (mk X2) σ2) (1876, [(0, .ref SN), (1, .ref 0), (2, .ref 38), (3, .ref 71), (4, .int x4)], [], mk X, p223.2)
    exact lg_L_1876 sc hsc hpr _ hk33 _ _ _ h
  · refine And.intro (fun hp => absurd hp c224) (fun _ => ?_)
    show ExL pr sc (rtE (some (.int r)) (mk X2) σ2) (1315, [(0, .ref SN), (1, .ref 0), (2, .ref 38), (3, .ref 71), (4, .int x4)], [], mk X, p223.2)
    refine ExL.blk 2 rfl ?_
    cases h
    exact And.intro isb_0 ⟨rfl, rfl, rfl⟩
theorem lg_L_1317 {pr : Ct} (sc : Nat × (Nat → Int32)) (hsc : sc.1 ≤ 3073) (hpr : ∀ (c : Int32) (E : En) (σ : St) (d : Nat), Cl MT pr sc (d + 9) 51 [.ref LN, .int c] E σ (some (.int (ixo c))) E σ) {r : Int32} {X2 : En} {σ2 : St} (k33 : Int32 → En → St → Option (Int32 × En × St)) (hk33 : ∀ (x4 : Int32) (X : En) (σ : St), k33 x4 X σ = some (r, X2, σ2) → ExL pr sc (rtE (some (.int r)) (mk X2) σ2) (33, [(0, .ref SN), (1, .ref 0), (2, .ref 38), (3, .ref 71), (4, .int x4)], [], mk X, σ)) (x4 : Int32) (X : En) (σ : St) (h : g_L_1317 sc k33 x4 X σ = some (r, X2, σ2)) : ExL pr sc (rtE (some (.int r)) (mk X2) σ2) (1317, [(0, .ref SN), (1, .ref 0), (2, .ref 38), (3, .ref 71), (4, .int x4)], [], mk X, σ) := by
  unfold g_L_1317 at h
  refine ExL.blk 5 rfl ?_
  show ExL pr sc (rtE (some (.int r)) (mk X2) σ2) (1323, [(0, .ref SN), (1, .ref 0), (2, .ref 38), (3, .ref 71), (4, .int x4)], [.int (x4 + 1), .ref SN, .ref 0], mk X, σ)
  obtain ⟨g226, h⟩ := gd_some h
  refine ExL.blk 1 rfl ?_
  refine And.intro (inb_ok g226) ?_
  show ExL pr sc (rtE (some (.int r)) (mk X2) σ2) (1324, [(0, .ref SN), (1, .ref 0), (2, .ref 38), (3, .ref 71), (4, .int x4)], [.int (sc.2 (x4 + 1).toNatClampNeg), .ref 0], mk X, σ)
  refine ExL.blk 4 rfl ?_
  show ExL pr sc (rtE (some (.int r)) (mk X2) σ2) (1329, [(0, .ref SN), (1, .ref 0), (2, .ref 38), (3, .ref 71), (4, .int x4)], [.int (x4 + 2), .ref SN, .int (sc.2 (x4 + 1).toNatClampNeg), .ref 0], mk X, σ)
  obtain ⟨g227, h⟩ := gd_some h
  refine ExL.blk 1 rfl ?_
  refine And.intro (inb_ok g227) ?_
  show ExL pr sc (rtE (some (.int r)) (mk X2) σ2) (1330, [(0, .ref SN), (1, .ref 0), (2, .ref 38), (3, .ref 71), (4, .int x4)], [.int (sc.2 (x4 + 2).toNatClampNeg), .int (sc.2 (x4 + 1).toNatClampNeg), .ref 0], mk X, σ)
  refine ExL.blk 4 rfl ?_
  show ExL pr sc (rtE (some (.int r)) (mk X2) σ2) (1335, [(0, .ref SN), (1, .ref 0), (2, .ref 38), (3, .ref 71), (4, .int x4)], [.int (x4 + 3), .ref SN, .int (sc.2 (x4 + 2).toNatClampNeg), .int (sc.2 (x4 + 1).toNatClampNeg), .ref 0], mk X, σ)
  obtain ⟨g228, h⟩ := gd_some h
  refine ExL.blk 1 rfl ?_
  refine And.intro (inb_ok g228) ?_
  show ExL pr sc (rtE (some (.int r)) (mk X2) σ2) (1336, [(0, .ref SN), (1, .ref 0), (2, .ref 38), (3, .ref 71), (4, .int x4)], [.int (sc.2 (x4 + 3).toNatClampNeg), .int (sc.2 (x4 + 2).toNatClampNeg), .int (sc.2 (x4 + 1).toNatClampNeg), .ref 0], mk X, σ)
  obtain ⟨p229, hp229, h⟩ := bind_sp h
  refine ExL.blk 1 rfl ?_
  refine Exists.intro (some (.int p229.1)) (Exists.intro (mk p229.2.1) (Exists.intro p229.2.2 (And.intro (cg_X9_all 47 hp229) ?_)))
  show ExL pr sc (rtE (some (.int r)) (mk X2) σ2) (1339, [(0, .ref SN), (1, .ref 0), (2, .ref 38), (3, .ref 71), (4, .int x4)], [.int p229.1], mk p229.2.1, p229.2.2)
  refine ExL.blk 5 rfl ?_
  show ExL pr sc (rtE (some (.int r)) (mk X2) σ2) (1345, [(0, .ref SN), (1, .ref 0), (2, .ref 38), (3, .ref 71), (4, .int x4)], [.int (x4 + 1), .ref SN, .ref 38, .int p229.1], mk p229.2.1, p229.2.2)
  obtain ⟨g230, h⟩ := gd_some h
  refine ExL.blk 1 rfl ?_
  refine And.intro (inb_ok g230) ?_
  show ExL pr sc (rtE (some (.int r)) (mk X2) σ2) (1346, [(0, .ref SN), (1, .ref 0), (2, .ref 38), (3, .ref 71), (4, .int x4)], [.int (sc.2 (x4 + 1).toNatClampNeg), .ref 38, .int p229.1], mk p229.2.1, p229.2.2)
  refine ExL.blk 4 rfl ?_
  show ExL pr sc (rtE (some (.int r)) (mk X2) σ2) (1351, [(0, .ref SN), (1, .ref 0), (2, .ref 38), (3, .ref 71), (4, .int x4)], [.int (x4 + 2), .ref SN, .int (sc.2 (x4 + 1).toNatClampNeg), .ref 38, .int p229.1], mk p229.2.1, p229.2.2)
  obtain ⟨g231, h⟩ := gd_some h
  refine ExL.blk 1 rfl ?_
  refine And.intro (inb_ok g231) ?_
  show ExL pr sc (rtE (some (.int r)) (mk X2) σ2) (1352, [(0, .ref SN), (1, .ref 0), (2, .ref 38), (3, .ref 71), (4, .int x4)], [.int (sc.2 (x4 + 2).toNatClampNeg), .int (sc.2 (x4 + 1).toNatClampNeg), .ref 38, .int p229.1], mk p229.2.1, p229.2.2)
  refine ExL.blk 4 rfl ?_
  show ExL pr sc (rtE (some (.int r)) (mk X2) σ2) (1357, [(0, .ref SN), (1, .ref 0), (2, .ref 38), (3, .ref 71), (4, .int x4)], [.int (x4 + 3), .ref SN, .int (sc.2 (x4 + 2).toNatClampNeg), .int (sc.2 (x4 + 1).toNatClampNeg), .ref 38, .int p229.1], mk p229.2.1, p229.2.2)
  obtain ⟨g232, h⟩ := gd_some h
  refine ExL.blk 1 rfl ?_
  refine And.intro (inb_ok g232) ?_
  show ExL pr sc (rtE (some (.int r)) (mk X2) σ2) (1358, [(0, .ref SN), (1, .ref 0), (2, .ref 38), (3, .ref 71), (4, .int x4)], [.int (sc.2 (x4 + 3).toNatClampNeg), .int (sc.2 (x4 + 2).toNatClampNeg), .int (sc.2 (x4 + 1).toNatClampNeg), .ref 38, .int p229.1], mk p229.2.1, p229.2.2)
  obtain ⟨p233, hp233, h⟩ := bind_sp h
  refine ExL.blk 1 rfl ?_
  refine Exists.intro (some (.int p233.1)) (Exists.intro (mk p229.2.1) (Exists.intro p233.2 (And.intro (cl_X10_all 57 hp233) ?_)))
  show ExL pr sc (rtE (some (.int r)) (mk X2) σ2) (1361, [(0, .ref SN), (1, .ref 0), (2, .ref 38), (3, .ref 71), (4, .int x4)], [.int p233.1, .int p229.1], mk p229.2.1, p233.2)
  refine ExL.blk 1 rfl ?_
  rcases ite_sp h with ⟨c234, h⟩ | ⟨c234, h⟩
  · refine And.intro (fun _ => ?_) (fun hn => absurd c234 hn)
    show ExL pr sc (rtE (some (.int r)) (mk X2) σ2) (1876, [(0, .ref SN), (1, .ref 0), (2, .ref 38), (3, .ref 71), (4, .int x4)], [], mk p229.2.1, p233.2)
    show ExL pr sc (rtE (some (.int r)) (mk X2) σ2) (1876, [(0, .ref SN), (1, .ref 0), (2, .ref 38), (3, .ref 71), (4, .int x4)], [], mk p229.2.1, p233.2)
    exact lg_L_1876 sc hsc hpr _ hk33 _ _ _ h
  · refine And.intro (fun hp => absurd hp c234) (fun _ => ?_)
    show ExL pr sc (rtE (some (.int r)) (mk X2) σ2) (1364, [(0, .ref SN), (1, .ref 0), (2, .ref 38), (3, .ref 71), (4, .int x4)], [], mk p229.2.1, p233.2)
    refine ExL.blk 2 rfl ?_
    cases h
    exact And.intro isb_0 ⟨rfl, rfl, rfl⟩
theorem lg_L_1366 {pr : Ct} (sc : Nat × (Nat → Int32)) (hsc : sc.1 ≤ 3073) (hpr : ∀ (c : Int32) (E : En) (σ : St) (d : Nat), Cl MT pr sc (d + 9) 51 [.ref LN, .int c] E σ (some (.int (ixo c))) E σ) {r : Int32} {X2 : En} {σ2 : St} (k33 : Int32 → En → St → Option (Int32 × En × St)) (hk33 : ∀ (x4 : Int32) (X : En) (σ : St), k33 x4 X σ = some (r, X2, σ2) → ExL pr sc (rtE (some (.int r)) (mk X2) σ2) (33, [(0, .ref SN), (1, .ref 0), (2, .ref 38), (3, .ref 71), (4, .int x4)], [], mk X, σ)) (x4 : Int32) (X : En) (σ : St) (h : g_L_1366 sc k33 x4 X σ = some (r, X2, σ2)) : ExL pr sc (rtE (some (.int r)) (mk X2) σ2) (1366, [(0, .ref SN), (1, .ref 0), (2, .ref 38), (3, .ref 71), (4, .int x4)], [], mk X, σ) := by
  unfold g_L_1366 at h
  refine ExL.blk 5 rfl ?_
  show ExL pr sc (rtE (some (.int r)) (mk X2) σ2) (1372, [(0, .ref SN), (1, .ref 0), (2, .ref 38), (3, .ref 71), (4, .int x4)], [.int (x4 + 1), .ref SN, .ref 0], mk X, σ)
  obtain ⟨g236, h⟩ := gd_some h
  refine ExL.blk 1 rfl ?_
  refine And.intro (inb_ok g236) ?_
  show ExL pr sc (rtE (some (.int r)) (mk X2) σ2) (1373, [(0, .ref SN), (1, .ref 0), (2, .ref 38), (3, .ref 71), (4, .int x4)], [.int (sc.2 (x4 + 1).toNatClampNeg), .ref 0], mk X, σ)
  refine ExL.blk 4 rfl ?_
  show ExL pr sc (rtE (some (.int r)) (mk X2) σ2) (1378, [(0, .ref SN), (1, .ref 0), (2, .ref 38), (3, .ref 71), (4, .int x4)], [.int (x4 + 2), .ref SN, .int (sc.2 (x4 + 1).toNatClampNeg), .ref 0], mk X, σ)
  obtain ⟨g237, h⟩ := gd_some h
  refine ExL.blk 1 rfl ?_
  refine And.intro (inb_ok g237) ?_
  show ExL pr sc (rtE (some (.int r)) (mk X2) σ2) (1379, [(0, .ref SN), (1, .ref 0), (2, .ref 38), (3, .ref 71), (4, .int x4)], [.int (sc.2 (x4 + 2).toNatClampNeg), .int (sc.2 (x4 + 1).toNatClampNeg), .ref 0], mk X, σ)
  obtain ⟨p238, hp238, h⟩ := bind_sp h
  refine ExL.blk 1 rfl ?_
  refine Exists.intro (some (.long p238.1)) (Exists.intro (mk p238.2.1) (Exists.intro p238.2.2 (And.intro (cg_X9_tried 54 hp238) ?_)))
  show ExL pr sc (rtE (some (.int r)) (mk X2) σ2) (1382, [(0, .ref SN), (1, .ref 0), (2, .ref 38), (3, .ref 71), (4, .int x4)], [.long p238.1], mk p238.2.1, p238.2.2)
  refine ExL.blk 5 rfl ?_
  show ExL pr sc (rtE (some (.int r)) (mk X2) σ2) (1388, [(0, .ref SN), (1, .ref 0), (2, .ref 38), (3, .ref 71), (4, .int x4)], [.int (x4 + 1), .ref SN, .ref 38, .long p238.1], mk p238.2.1, p238.2.2)
  obtain ⟨g239, h⟩ := gd_some h
  refine ExL.blk 1 rfl ?_
  refine And.intro (inb_ok g239) ?_
  show ExL pr sc (rtE (some (.int r)) (mk X2) σ2) (1389, [(0, .ref SN), (1, .ref 0), (2, .ref 38), (3, .ref 71), (4, .int x4)], [.int (sc.2 (x4 + 1).toNatClampNeg), .ref 38, .long p238.1], mk p238.2.1, p238.2.2)
  refine ExL.blk 4 rfl ?_
  show ExL pr sc (rtE (some (.int r)) (mk X2) σ2) (1394, [(0, .ref SN), (1, .ref 0), (2, .ref 38), (3, .ref 71), (4, .int x4)], [.int (x4 + 2), .ref SN, .int (sc.2 (x4 + 1).toNatClampNeg), .ref 38, .long p238.1], mk p238.2.1, p238.2.2)
  obtain ⟨g240, h⟩ := gd_some h
  refine ExL.blk 1 rfl ?_
  refine And.intro (inb_ok g240) ?_
  show ExL pr sc (rtE (some (.int r)) (mk X2) σ2) (1395, [(0, .ref SN), (1, .ref 0), (2, .ref 38), (3, .ref 71), (4, .int x4)], [.int (sc.2 (x4 + 2).toNatClampNeg), .int (sc.2 (x4 + 1).toNatClampNeg), .ref 38, .long p238.1], mk p238.2.1, p238.2.2)
  obtain ⟨p241, hp241, h⟩ := bind_sp h
  refine ExL.blk 1 rfl ?_
  refine Exists.intro (some (.long p241.1)) (Exists.intro (mk p238.2.1) (Exists.intro p241.2 (And.intro (cl_X10_tried 55 hp241) ?_)))
  show ExL pr sc (rtE (some (.int r)) (mk X2) σ2) (1398, [(0, .ref SN), (1, .ref 0), (2, .ref 38), (3, .ref 71), (4, .int x4)], [.long p241.1, .long p238.1], mk p238.2.1, p241.2)
  refine ExL.blk 2 rfl ?_
  rcases ite_sp h with ⟨c242, h⟩ | ⟨c242, h⟩
  · refine And.intro (fun _ => ?_) (fun hn => absurd c242 hn)
    show ExL pr sc (rtE (some (.int r)) (mk X2) σ2) (1876, [(0, .ref SN), (1, .ref 0), (2, .ref 38), (3, .ref 71), (4, .int x4)], [], mk p238.2.1, p241.2)
    show ExL pr sc (rtE (some (.int r)) (mk X2) σ2) (1876, [(0, .ref SN), (1, .ref 0), (2, .ref 38), (3, .ref 71), (4, .int x4)], [], mk p238.2.1, p241.2)
    exact lg_L_1876 sc hsc hpr _ hk33 _ _ _ h
  · refine And.intro (fun hp => absurd hp c242) (fun _ => ?_)
    show ExL pr sc (rtE (some (.int r)) (mk X2) σ2) (1402, [(0, .ref SN), (1, .ref 0), (2, .ref 38), (3, .ref 71), (4, .int x4)], [], mk p238.2.1, p241.2)
    refine ExL.blk 2 rfl ?_
    cases h
    exact And.intro isb_0 ⟨rfl, rfl, rfl⟩
theorem lg_L_1404 {pr : Ct} (sc : Nat × (Nat → Int32)) (hsc : sc.1 ≤ 3073) (hpr : ∀ (c : Int32) (E : En) (σ : St) (d : Nat), Cl MT pr sc (d + 9) 51 [.ref LN, .int c] E σ (some (.int (ixo c))) E σ) {r : Int32} {X2 : En} {σ2 : St} (k33 : Int32 → En → St → Option (Int32 × En × St)) (hk33 : ∀ (x4 : Int32) (X : En) (σ : St), k33 x4 X σ = some (r, X2, σ2) → ExL pr sc (rtE (some (.int r)) (mk X2) σ2) (33, [(0, .ref SN), (1, .ref 0), (2, .ref 38), (3, .ref 71), (4, .int x4)], [], mk X, σ)) (x4 : Int32) (X : En) (σ : St) (h : g_L_1404 sc k33 x4 X σ = some (r, X2, σ2)) : ExL pr sc (rtE (some (.int r)) (mk X2) σ2) (1404, [(0, .ref SN), (1, .ref 0), (2, .ref 38), (3, .ref 71), (4, .int x4)], [], mk X, σ) := by
  unfold g_L_1404 at h
  refine ExL.blk 5 rfl ?_
  show ExL pr sc (rtE (some (.int r)) (mk X2) σ2) (1410, [(0, .ref SN), (1, .ref 0), (2, .ref 38), (3, .ref 71), (4, .int x4)], [.int (x4 + 1), .ref SN, .ref 0], mk X, σ)
  obtain ⟨g244, h⟩ := gd_some h
  refine ExL.blk 1 rfl ?_
  refine And.intro (inb_ok g244) ?_
  show ExL pr sc (rtE (some (.int r)) (mk X2) σ2) (1411, [(0, .ref SN), (1, .ref 0), (2, .ref 38), (3, .ref 71), (4, .int x4)], [.int (sc.2 (x4 + 1).toNatClampNeg), .ref 0], mk X, σ)
  refine ExL.blk 4 rfl ?_
  show ExL pr sc (rtE (some (.int r)) (mk X2) σ2) (1416, [(0, .ref SN), (1, .ref 0), (2, .ref 38), (3, .ref 71), (4, .int x4)], [.int (x4 + 2), .ref SN, .int (sc.2 (x4 + 1).toNatClampNeg), .ref 0], mk X, σ)
  obtain ⟨g245, h⟩ := gd_some h
  refine ExL.blk 1 rfl ?_
  refine And.intro (inb_ok g245) ?_
  show ExL pr sc (rtE (some (.int r)) (mk X2) σ2) (1417, [(0, .ref SN), (1, .ref 0), (2, .ref 38), (3, .ref 71), (4, .int x4)], [.int (sc.2 (x4 + 2).toNatClampNeg), .int (sc.2 (x4 + 1).toNatClampNeg), .ref 0], mk X, σ)
  obtain ⟨p246, hp246, h⟩ := bind_sp h
  refine ExL.blk 1 rfl ?_
  refine Exists.intro (some (.int p246.1)) (Exists.intro (mk p246.2.1) (Exists.intro p246.2.2 (And.intro (cg_X9_needs 54 hp246) ?_)))
  show ExL pr sc (rtE (some (.int r)) (mk X2) σ2) (1420, [(0, .ref SN), (1, .ref 0), (2, .ref 38), (3, .ref 71), (4, .int x4)], [.int p246.1], mk p246.2.1, p246.2.2)
  refine ExL.blk 5 rfl ?_
  show ExL pr sc (rtE (some (.int r)) (mk X2) σ2) (1426, [(0, .ref SN), (1, .ref 0), (2, .ref 38), (3, .ref 71), (4, .int x4)], [.int (x4 + 1), .ref SN, .ref 38, .int p246.1], mk p246.2.1, p246.2.2)
  obtain ⟨g247, h⟩ := gd_some h
  refine ExL.blk 1 rfl ?_
  refine And.intro (inb_ok g247) ?_
  show ExL pr sc (rtE (some (.int r)) (mk X2) σ2) (1427, [(0, .ref SN), (1, .ref 0), (2, .ref 38), (3, .ref 71), (4, .int x4)], [.int (sc.2 (x4 + 1).toNatClampNeg), .ref 38, .int p246.1], mk p246.2.1, p246.2.2)
  refine ExL.blk 4 rfl ?_
  show ExL pr sc (rtE (some (.int r)) (mk X2) σ2) (1432, [(0, .ref SN), (1, .ref 0), (2, .ref 38), (3, .ref 71), (4, .int x4)], [.int (x4 + 2), .ref SN, .int (sc.2 (x4 + 1).toNatClampNeg), .ref 38, .int p246.1], mk p246.2.1, p246.2.2)
  obtain ⟨g248, h⟩ := gd_some h
  refine ExL.blk 1 rfl ?_
  refine And.intro (inb_ok g248) ?_
  show ExL pr sc (rtE (some (.int r)) (mk X2) σ2) (1433, [(0, .ref SN), (1, .ref 0), (2, .ref 38), (3, .ref 71), (4, .int x4)], [.int (sc.2 (x4 + 2).toNatClampNeg), .int (sc.2 (x4 + 1).toNatClampNeg), .ref 38, .int p246.1], mk p246.2.1, p246.2.2)
  obtain ⟨p249, hp249, h⟩ := bind_sp h
  refine ExL.blk 1 rfl ?_
  refine Exists.intro (some (.int p249.1)) (Exists.intro (mk p246.2.1) (Exists.intro p249.2 (And.intro (cl_X10_needs 55 hp249) ?_)))
  show ExL pr sc (rtE (some (.int r)) (mk X2) σ2) (1436, [(0, .ref SN), (1, .ref 0), (2, .ref 38), (3, .ref 71), (4, .int x4)], [.int p249.1, .int p246.1], mk p246.2.1, p249.2)
  refine ExL.blk 1 rfl ?_
  rcases ite_sp h with ⟨c250, h⟩ | ⟨c250, h⟩
  · refine And.intro (fun _ => ?_) (fun hn => absurd c250 hn)
    show ExL pr sc (rtE (some (.int r)) (mk X2) σ2) (1876, [(0, .ref SN), (1, .ref 0), (2, .ref 38), (3, .ref 71), (4, .int x4)], [], mk p246.2.1, p249.2)
    show ExL pr sc (rtE (some (.int r)) (mk X2) σ2) (1876, [(0, .ref SN), (1, .ref 0), (2, .ref 38), (3, .ref 71), (4, .int x4)], [], mk p246.2.1, p249.2)
    exact lg_L_1876 sc hsc hpr _ hk33 _ _ _ h
  · refine And.intro (fun hp => absurd hp c250) (fun _ => ?_)
    show ExL pr sc (rtE (some (.int r)) (mk X2) σ2) (1439, [(0, .ref SN), (1, .ref 0), (2, .ref 38), (3, .ref 71), (4, .int x4)], [], mk p246.2.1, p249.2)
    refine ExL.blk 2 rfl ?_
    cases h
    exact And.intro isb_0 ⟨rfl, rfl, rfl⟩
theorem lg_L_1441 {pr : Ct} (sc : Nat × (Nat → Int32)) (hsc : sc.1 ≤ 3073) (hpr : ∀ (c : Int32) (E : En) (σ : St) (d : Nat), Cl MT pr sc (d + 9) 51 [.ref LN, .int c] E σ (some (.int (ixo c))) E σ) {r : Int32} {X2 : En} {σ2 : St} (k33 : Int32 → En → St → Option (Int32 × En × St)) (hk33 : ∀ (x4 : Int32) (X : En) (σ : St), k33 x4 X σ = some (r, X2, σ2) → ExL pr sc (rtE (some (.int r)) (mk X2) σ2) (33, [(0, .ref SN), (1, .ref 0), (2, .ref 38), (3, .ref 71), (4, .int x4)], [], mk X, σ)) (x4 : Int32) (X : En) (σ : St) (h : g_L_1441 sc k33 x4 X σ = some (r, X2, σ2)) : ExL pr sc (rtE (some (.int r)) (mk X2) σ2) (1441, [(0, .ref SN), (1, .ref 0), (2, .ref 38), (3, .ref 71), (4, .int x4)], [], mk X, σ) := by
  unfold g_L_1441 at h
  refine ExL.blk 5 rfl ?_
  show ExL pr sc (rtE (some (.int r)) (mk X2) σ2) (1447, [(0, .ref SN), (1, .ref 0), (2, .ref 38), (3, .ref 71), (4, .int x4)], [.int (x4 + 1), .ref SN, .ref 0], mk X, σ)
  obtain ⟨g252, h⟩ := gd_some h
  refine ExL.blk 1 rfl ?_
  refine And.intro (inb_ok g252) ?_
  show ExL pr sc (rtE (some (.int r)) (mk X2) σ2) (1448, [(0, .ref SN), (1, .ref 0), (2, .ref 38), (3, .ref 71), (4, .int x4)], [.int (sc.2 (x4 + 1).toNatClampNeg), .ref 0], mk X, σ)
  obtain ⟨p253, hp253, h⟩ := bind_sp h
  refine ExL.blk 1 rfl ?_
  refine Exists.intro (some (.int p253.1)) (Exists.intro (mk X) (Exists.intro p253.2 (And.intro (cl_X9_cheaper 55 hp253) ?_)))
  show ExL pr sc (rtE (some (.int r)) (mk X2) σ2) (1451, [(0, .ref SN), (1, .ref 0), (2, .ref 38), (3, .ref 71), (4, .int x4)], [.int p253.1], mk X, p253.2)
  refine ExL.blk 5 rfl ?_
  show ExL pr sc (rtE (some (.int r)) (mk X2) σ2) (1457, [(0, .ref SN), (1, .ref 0), (2, .ref 38), (3, .ref 71), (4, .int x4)], [.int (x4 + 1), .ref SN, .ref 38, .int p253.1], mk X, p253.2)
  obtain ⟨g254, h⟩ := gd_some h
  refine ExL.blk 1 rfl ?_
  refine And.intro (inb_ok g254) ?_
  show ExL pr sc (rtE (some (.int r)) (mk X2) σ2) (1458, [(0, .ref SN), (1, .ref 0), (2, .ref 38), (3, .ref 71), (4, .int x4)], [.int (sc.2 (x4 + 1).toNatClampNeg), .ref 38, .int p253.1], mk X, p253.2)
  obtain ⟨p255, hp255, h⟩ := bind_sp h
  refine ExL.blk 1 rfl ?_
  refine Exists.intro (some (.int p255.1)) (Exists.intro (mk X) (Exists.intro p255.2 (And.intro (cl_X10_cheaper 56 hp255) ?_)))
  show ExL pr sc (rtE (some (.int r)) (mk X2) σ2) (1461, [(0, .ref SN), (1, .ref 0), (2, .ref 38), (3, .ref 71), (4, .int x4)], [.int p255.1, .int p253.1], mk X, p255.2)
  refine ExL.blk 1 rfl ?_
  rcases ite_sp h with ⟨c256, h⟩ | ⟨c256, h⟩
  · refine And.intro (fun _ => ?_) (fun hn => absurd c256 hn)
    show ExL pr sc (rtE (some (.int r)) (mk X2) σ2) (1876, [(0, .ref SN), (1, .ref 0), (2, .ref 38), (3, .ref 71), (4, .int x4)], [], mk X, p255.2)
    show ExL pr sc (rtE (some (.int r)) (mk X2) σ2) (1876, [(0, .ref SN), (1, .ref 0), (2, .ref 38), (3, .ref 71), (4, .int x4)], [], mk X, p255.2)
    exact lg_L_1876 sc hsc hpr _ hk33 _ _ _ h
  · refine And.intro (fun hp => absurd hp c256) (fun _ => ?_)
    show ExL pr sc (rtE (some (.int r)) (mk X2) σ2) (1464, [(0, .ref SN), (1, .ref 0), (2, .ref 38), (3, .ref 71), (4, .int x4)], [], mk X, p255.2)
    refine ExL.blk 2 rfl ?_
    cases h
    exact And.intro isb_0 ⟨rfl, rfl, rfl⟩
theorem lg_L_1466 {pr : Ct} (sc : Nat × (Nat → Int32)) (hsc : sc.1 ≤ 3073) (hpr : ∀ (c : Int32) (E : En) (σ : St) (d : Nat), Cl MT pr sc (d + 9) 51 [.ref LN, .int c] E σ (some (.int (ixo c))) E σ) {r : Int32} {X2 : En} {σ2 : St} (k33 : Int32 → En → St → Option (Int32 × En × St)) (hk33 : ∀ (x4 : Int32) (X : En) (σ : St), k33 x4 X σ = some (r, X2, σ2) → ExL pr sc (rtE (some (.int r)) (mk X2) σ2) (33, [(0, .ref SN), (1, .ref 0), (2, .ref 38), (3, .ref 71), (4, .int x4)], [], mk X, σ)) (x4 : Int32) (X : En) (σ : St) (h : g_L_1466 sc k33 x4 X σ = some (r, X2, σ2)) : ExL pr sc (rtE (some (.int r)) (mk X2) σ2) (1466, [(0, .ref SN), (1, .ref 0), (2, .ref 38), (3, .ref 71), (4, .int x4)], [], mk X, σ) := by
  unfold g_L_1466 at h
  refine ExL.blk 5 rfl ?_
  show ExL pr sc (rtE (some (.int r)) (mk X2) σ2) (1472, [(0, .ref SN), (1, .ref 0), (2, .ref 38), (3, .ref 71), (4, .int x4)], [.int (x4 + 1), .ref SN, .ref 0], mk X, σ)
  obtain ⟨g258, h⟩ := gd_some h
  refine ExL.blk 1 rfl ?_
  refine And.intro (inb_ok g258) ?_
  show ExL pr sc (rtE (some (.int r)) (mk X2) σ2) (1473, [(0, .ref SN), (1, .ref 0), (2, .ref 38), (3, .ref 71), (4, .int x4)], [.int (sc.2 (x4 + 1).toNatClampNeg), .ref 0], mk X, σ)
  refine ExL.blk 4 rfl ?_
  show ExL pr sc (rtE (some (.int r)) (mk X2) σ2) (1478, [(0, .ref SN), (1, .ref 0), (2, .ref 38), (3, .ref 71), (4, .int x4)], [.int (x4 + 2), .ref SN, .int (sc.2 (x4 + 1).toNatClampNeg), .ref 0], mk X, σ)
  obtain ⟨g259, h⟩ := gd_some h
  refine ExL.blk 1 rfl ?_
  refine And.intro (inb_ok g259) ?_
  show ExL pr sc (rtE (some (.int r)) (mk X2) σ2) (1479, [(0, .ref SN), (1, .ref 0), (2, .ref 38), (3, .ref 71), (4, .int x4)], [.int (sc.2 (x4 + 2).toNatClampNeg), .int (sc.2 (x4 + 1).toNatClampNeg), .ref 0], mk X, σ)
  refine ExL.blk 4 rfl ?_
  show ExL pr sc (rtE (some (.int r)) (mk X2) σ2) (1484, [(0, .ref SN), (1, .ref 0), (2, .ref 38), (3, .ref 71), (4, .int x4)], [.int (x4 + 3), .ref SN, .int (sc.2 (x4 + 2).toNatClampNeg), .int (sc.2 (x4 + 1).toNatClampNeg), .ref 0], mk X, σ)
  obtain ⟨g260, h⟩ := gd_some h
  refine ExL.blk 1 rfl ?_
  refine And.intro (inb_ok g260) ?_
  show ExL pr sc (rtE (some (.int r)) (mk X2) σ2) (1485, [(0, .ref SN), (1, .ref 0), (2, .ref 38), (3, .ref 71), (4, .int x4)], [.int (sc.2 (x4 + 3).toNatClampNeg), .int (sc.2 (x4 + 2).toNatClampNeg), .int (sc.2 (x4 + 1).toNatClampNeg), .ref 0], mk X, σ)
  obtain ⟨p261, hp261, h⟩ := bind_sp h
  refine ExL.blk 1 rfl ?_
  refine Exists.intro (some (.int p261.1)) (Exists.intro (mk X) (Exists.intro p261.2 (And.intro (cl_X9_standing 55 hp261) ?_)))
  show ExL pr sc (rtE (some (.int r)) (mk X2) σ2) (1488, [(0, .ref SN), (1, .ref 0), (2, .ref 38), (3, .ref 71), (4, .int x4)], [.int p261.1], mk X, p261.2)
  refine ExL.blk 5 rfl ?_
  show ExL pr sc (rtE (some (.int r)) (mk X2) σ2) (1494, [(0, .ref SN), (1, .ref 0), (2, .ref 38), (3, .ref 71), (4, .int x4)], [.int (x4 + 1), .ref SN, .ref 38, .int p261.1], mk X, p261.2)
  obtain ⟨g262, h⟩ := gd_some h
  refine ExL.blk 1 rfl ?_
  refine And.intro (inb_ok g262) ?_
  show ExL pr sc (rtE (some (.int r)) (mk X2) σ2) (1495, [(0, .ref SN), (1, .ref 0), (2, .ref 38), (3, .ref 71), (4, .int x4)], [.int (sc.2 (x4 + 1).toNatClampNeg), .ref 38, .int p261.1], mk X, p261.2)
  refine ExL.blk 4 rfl ?_
  show ExL pr sc (rtE (some (.int r)) (mk X2) σ2) (1500, [(0, .ref SN), (1, .ref 0), (2, .ref 38), (3, .ref 71), (4, .int x4)], [.int (x4 + 2), .ref SN, .int (sc.2 (x4 + 1).toNatClampNeg), .ref 38, .int p261.1], mk X, p261.2)
  obtain ⟨g263, h⟩ := gd_some h
  refine ExL.blk 1 rfl ?_
  refine And.intro (inb_ok g263) ?_
  show ExL pr sc (rtE (some (.int r)) (mk X2) σ2) (1501, [(0, .ref SN), (1, .ref 0), (2, .ref 38), (3, .ref 71), (4, .int x4)], [.int (sc.2 (x4 + 2).toNatClampNeg), .int (sc.2 (x4 + 1).toNatClampNeg), .ref 38, .int p261.1], mk X, p261.2)
  refine ExL.blk 4 rfl ?_
  show ExL pr sc (rtE (some (.int r)) (mk X2) σ2) (1506, [(0, .ref SN), (1, .ref 0), (2, .ref 38), (3, .ref 71), (4, .int x4)], [.int (x4 + 3), .ref SN, .int (sc.2 (x4 + 2).toNatClampNeg), .int (sc.2 (x4 + 1).toNatClampNeg), .ref 38, .int p261.1], mk X, p261.2)
  obtain ⟨g264, h⟩ := gd_some h
  refine ExL.blk 1 rfl ?_
  refine And.intro (inb_ok g264) ?_
  show ExL pr sc (rtE (some (.int r)) (mk X2) σ2) (1507, [(0, .ref SN), (1, .ref 0), (2, .ref 38), (3, .ref 71), (4, .int x4)], [.int (sc.2 (x4 + 3).toNatClampNeg), .int (sc.2 (x4 + 2).toNatClampNeg), .int (sc.2 (x4 + 1).toNatClampNeg), .ref 38, .int p261.1], mk X, p261.2)
  obtain ⟨p265, hp265, h⟩ := bind_sp h
  refine ExL.blk 1 rfl ?_
  refine Exists.intro (some (.int p265.1)) (Exists.intro (mk X) (Exists.intro p265.2 (And.intro (cl_X10_standing 56 hp265) ?_)))
  show ExL pr sc (rtE (some (.int r)) (mk X2) σ2) (1510, [(0, .ref SN), (1, .ref 0), (2, .ref 38), (3, .ref 71), (4, .int x4)], [.int p265.1, .int p261.1], mk X, p265.2)
  refine ExL.blk 1 rfl ?_
  rcases ite_sp h with ⟨c266, h⟩ | ⟨c266, h⟩
  · refine And.intro (fun _ => ?_) (fun hn => absurd c266 hn)
    show ExL pr sc (rtE (some (.int r)) (mk X2) σ2) (1876, [(0, .ref SN), (1, .ref 0), (2, .ref 38), (3, .ref 71), (4, .int x4)], [], mk X, p265.2)
    show ExL pr sc (rtE (some (.int r)) (mk X2) σ2) (1876, [(0, .ref SN), (1, .ref 0), (2, .ref 38), (3, .ref 71), (4, .int x4)], [], mk X, p265.2)
    exact lg_L_1876 sc hsc hpr _ hk33 _ _ _ h
  · refine And.intro (fun hp => absurd hp c266) (fun _ => ?_)
    show ExL pr sc (rtE (some (.int r)) (mk X2) σ2) (1513, [(0, .ref SN), (1, .ref 0), (2, .ref 38), (3, .ref 71), (4, .int x4)], [], mk X, p265.2)
    refine ExL.blk 2 rfl ?_
    cases h
    exact And.intro isb_0 ⟨rfl, rfl, rfl⟩
theorem lg_L_1515 {pr : Ct} (sc : Nat × (Nat → Int32)) (hsc : sc.1 ≤ 3073) (hpr : ∀ (c : Int32) (E : En) (σ : St) (d : Nat), Cl MT pr sc (d + 9) 51 [.ref LN, .int c] E σ (some (.int (ixo c))) E σ) {r : Int32} {X2 : En} {σ2 : St} (k33 : Int32 → En → St → Option (Int32 × En × St)) (hk33 : ∀ (x4 : Int32) (X : En) (σ : St), k33 x4 X σ = some (r, X2, σ2) → ExL pr sc (rtE (some (.int r)) (mk X2) σ2) (33, [(0, .ref SN), (1, .ref 0), (2, .ref 38), (3, .ref 71), (4, .int x4)], [], mk X, σ)) (x4 : Int32) (X : En) (σ : St) (h : g_L_1515 sc k33 x4 X σ = some (r, X2, σ2)) : ExL pr sc (rtE (some (.int r)) (mk X2) σ2) (1515, [(0, .ref SN), (1, .ref 0), (2, .ref 38), (3, .ref 71), (4, .int x4)], [], mk X, σ) := by
  unfold g_L_1515 at h
  refine ExL.blk 5 rfl ?_
  show ExL pr sc (rtE (some (.int r)) (mk X2) σ2) (1521, [(0, .ref SN), (1, .ref 0), (2, .ref 38), (3, .ref 71), (4, .int x4)], [.int (x4 + 1), .ref SN, .ref 0], mk X, σ)
  obtain ⟨g268, h⟩ := gd_some h
  refine ExL.blk 1 rfl ?_
  refine And.intro (inb_ok g268) ?_
  show ExL pr sc (rtE (some (.int r)) (mk X2) σ2) (1522, [(0, .ref SN), (1, .ref 0), (2, .ref 38), (3, .ref 71), (4, .int x4)], [.int (sc.2 (x4 + 1).toNatClampNeg), .ref 0], mk X, σ)
  refine ExL.blk 4 rfl ?_
  show ExL pr sc (rtE (some (.int r)) (mk X2) σ2) (1527, [(0, .ref SN), (1, .ref 0), (2, .ref 38), (3, .ref 71), (4, .int x4)], [.int (x4 + 2), .ref SN, .int (sc.2 (x4 + 1).toNatClampNeg), .ref 0], mk X, σ)
  obtain ⟨g269, h⟩ := gd_some h
  refine ExL.blk 1 rfl ?_
  refine And.intro (inb_ok g269) ?_
  show ExL pr sc (rtE (some (.int r)) (mk X2) σ2) (1528, [(0, .ref SN), (1, .ref 0), (2, .ref 38), (3, .ref 71), (4, .int x4)], [.int (sc.2 (x4 + 2).toNatClampNeg), .int (sc.2 (x4 + 1).toNatClampNeg), .ref 0], mk X, σ)
  obtain ⟨p270, hp270, h⟩ := bind_sp h
  refine ExL.blk 1 rfl ?_
  refine Exists.intro (some (.int p270.1)) (Exists.intro (mk X) (Exists.intro p270.2 (And.intro (cl_X9_as 57 hp270) ?_)))
  show ExL pr sc (rtE (some (.int r)) (mk X2) σ2) (1531, [(0, .ref SN), (1, .ref 0), (2, .ref 38), (3, .ref 71), (4, .int x4)], [.int p270.1], mk X, p270.2)
  refine ExL.blk 5 rfl ?_
  show ExL pr sc (rtE (some (.int r)) (mk X2) σ2) (1537, [(0, .ref SN), (1, .ref 0), (2, .ref 38), (3, .ref 71), (4, .int x4)], [.int (x4 + 1), .ref SN, .ref 38, .int p270.1], mk X, p270.2)
  obtain ⟨g271, h⟩ := gd_some h
  refine ExL.blk 1 rfl ?_
  refine And.intro (inb_ok g271) ?_
  show ExL pr sc (rtE (some (.int r)) (mk X2) σ2) (1538, [(0, .ref SN), (1, .ref 0), (2, .ref 38), (3, .ref 71), (4, .int x4)], [.int (sc.2 (x4 + 1).toNatClampNeg), .ref 38, .int p270.1], mk X, p270.2)
  refine ExL.blk 4 rfl ?_
  show ExL pr sc (rtE (some (.int r)) (mk X2) σ2) (1543, [(0, .ref SN), (1, .ref 0), (2, .ref 38), (3, .ref 71), (4, .int x4)], [.int (x4 + 2), .ref SN, .int (sc.2 (x4 + 1).toNatClampNeg), .ref 38, .int p270.1], mk X, p270.2)
  obtain ⟨g272, h⟩ := gd_some h
  refine ExL.blk 1 rfl ?_
  refine And.intro (inb_ok g272) ?_
  show ExL pr sc (rtE (some (.int r)) (mk X2) σ2) (1544, [(0, .ref SN), (1, .ref 0), (2, .ref 38), (3, .ref 71), (4, .int x4)], [.int (sc.2 (x4 + 2).toNatClampNeg), .int (sc.2 (x4 + 1).toNatClampNeg), .ref 38, .int p270.1], mk X, p270.2)
  obtain ⟨p273, hp273, h⟩ := bind_sp h
  refine ExL.blk 1 rfl ?_
  refine Exists.intro (some (.int p273.1)) (Exists.intro (mk X) (Exists.intro p273.2 (And.intro (cl_X10_as 57 hp273) ?_)))
  show ExL pr sc (rtE (some (.int r)) (mk X2) σ2) (1547, [(0, .ref SN), (1, .ref 0), (2, .ref 38), (3, .ref 71), (4, .int x4)], [.int p273.1, .int p270.1], mk X, p273.2)
  refine ExL.blk 1 rfl ?_
  rcases ite_sp h with ⟨c274, h⟩ | ⟨c274, h⟩
  · refine And.intro (fun _ => ?_) (fun hn => absurd c274 hn)
    show ExL pr sc (rtE (some (.int r)) (mk X2) σ2) (1876, [(0, .ref SN), (1, .ref 0), (2, .ref 38), (3, .ref 71), (4, .int x4)], [], mk X, p273.2)
    show ExL pr sc (rtE (some (.int r)) (mk X2) σ2) (1876, [(0, .ref SN), (1, .ref 0), (2, .ref 38), (3, .ref 71), (4, .int x4)], [], mk X, p273.2)
    exact lg_L_1876 sc hsc hpr _ hk33 _ _ _ h
  · refine And.intro (fun hp => absurd hp c274) (fun _ => ?_)
    show ExL pr sc (rtE (some (.int r)) (mk X2) σ2) (1550, [(0, .ref SN), (1, .ref 0), (2, .ref 38), (3, .ref 71), (4, .int x4)], [], mk X, p273.2)
    refine ExL.blk 2 rfl ?_
    cases h
    exact And.intro isb_0 ⟨rfl, rfl, rfl⟩
theorem lg_L_1552 {pr : Ct} (sc : Nat × (Nat → Int32)) (hsc : sc.1 ≤ 3073) (hpr : ∀ (c : Int32) (E : En) (σ : St) (d : Nat), Cl MT pr sc (d + 9) 51 [.ref LN, .int c] E σ (some (.int (ixo c))) E σ) {r : Int32} {X2 : En} {σ2 : St} (k33 : Int32 → En → St → Option (Int32 × En × St)) (hk33 : ∀ (x4 : Int32) (X : En) (σ : St), k33 x4 X σ = some (r, X2, σ2) → ExL pr sc (rtE (some (.int r)) (mk X2) σ2) (33, [(0, .ref SN), (1, .ref 0), (2, .ref 38), (3, .ref 71), (4, .int x4)], [], mk X, σ)) (x4 : Int32) (X : En) (σ : St) (h : g_L_1552 sc k33 x4 X σ = some (r, X2, σ2)) : ExL pr sc (rtE (some (.int r)) (mk X2) σ2) (1552, [(0, .ref SN), (1, .ref 0), (2, .ref 38), (3, .ref 71), (4, .int x4)], [], mk X, σ) := by
  unfold g_L_1552 at h
  refine ExL.blk 5 rfl ?_
  show ExL pr sc (rtE (some (.int r)) (mk X2) σ2) (1558, [(0, .ref SN), (1, .ref 0), (2, .ref 38), (3, .ref 71), (4, .int x4)], [.int (x4 + 1), .ref SN, .ref 0], mk X, σ)
  obtain ⟨g276, h⟩ := gd_some h
  refine ExL.blk 1 rfl ?_
  refine And.intro (inb_ok g276) ?_
  show ExL pr sc (rtE (some (.int r)) (mk X2) σ2) (1559, [(0, .ref SN), (1, .ref 0), (2, .ref 38), (3, .ref 71), (4, .int x4)], [.int (sc.2 (x4 + 1).toNatClampNeg), .ref 0], mk X, σ)
  obtain ⟨p277, hp277, h⟩ := bind_sp h
  refine ExL.blk 1 rfl ?_
  refine Exists.intro (some (.int p277.1)) (Exists.intro (mk X) (Exists.intro p277.2 (And.intro (cl_X9_guess 57 hp277) ?_)))
  show ExL pr sc (rtE (some (.int r)) (mk X2) σ2) (1562, [(0, .ref SN), (1, .ref 0), (2, .ref 38), (3, .ref 71), (4, .int x4)], [.int p277.1], mk X, p277.2)
  refine ExL.blk 5 rfl ?_
  show ExL pr sc (rtE (some (.int r)) (mk X2) σ2) (1568, [(0, .ref SN), (1, .ref 0), (2, .ref 38), (3, .ref 71), (4, .int x4)], [.int (x4 + 1), .ref SN, .ref 38, .int p277.1], mk X, p277.2)
  obtain ⟨g278, h⟩ := gd_some h
  refine ExL.blk 1 rfl ?_
  refine And.intro (inb_ok g278) ?_
  show ExL pr sc (rtE (some (.int r)) (mk X2) σ2) (1569, [(0, .ref SN), (1, .ref 0), (2, .ref 38), (3, .ref 71), (4, .int x4)], [.int (sc.2 (x4 + 1).toNatClampNeg), .ref 38, .int p277.1], mk X, p277.2)
  obtain ⟨p279, hp279, h⟩ := bind_sp h
  refine ExL.blk 1 rfl ?_
  refine Exists.intro (some (.int p279.1)) (Exists.intro (mk X) (Exists.intro p279.2 (And.intro (cl_X10_guess 57 hp279) ?_)))
  show ExL pr sc (rtE (some (.int r)) (mk X2) σ2) (1572, [(0, .ref SN), (1, .ref 0), (2, .ref 38), (3, .ref 71), (4, .int x4)], [.int p279.1, .int p277.1], mk X, p279.2)
  refine ExL.blk 1 rfl ?_
  rcases ite_sp h with ⟨c280, h⟩ | ⟨c280, h⟩
  · refine And.intro (fun _ => ?_) (fun hn => absurd c280 hn)
    show ExL pr sc (rtE (some (.int r)) (mk X2) σ2) (1876, [(0, .ref SN), (1, .ref 0), (2, .ref 38), (3, .ref 71), (4, .int x4)], [], mk X, p279.2)
    show ExL pr sc (rtE (some (.int r)) (mk X2) σ2) (1876, [(0, .ref SN), (1, .ref 0), (2, .ref 38), (3, .ref 71), (4, .int x4)], [], mk X, p279.2)
    exact lg_L_1876 sc hsc hpr _ hk33 _ _ _ h
  · refine And.intro (fun hp => absurd hp c280) (fun _ => ?_)
    show ExL pr sc (rtE (some (.int r)) (mk X2) σ2) (1575, [(0, .ref SN), (1, .ref 0), (2, .ref 38), (3, .ref 71), (4, .int x4)], [], mk X, p279.2)
    refine ExL.blk 2 rfl ?_
    cases h
    exact And.intro isb_0 ⟨rfl, rfl, rfl⟩
theorem lg_L_1577 {pr : Ct} (sc : Nat × (Nat → Int32)) (hsc : sc.1 ≤ 3073) (hpr : ∀ (c : Int32) (E : En) (σ : St) (d : Nat), Cl MT pr sc (d + 9) 51 [.ref LN, .int c] E σ (some (.int (ixo c))) E σ) {r : Int32} {X2 : En} {σ2 : St} (k33 : Int32 → En → St → Option (Int32 × En × St)) (hk33 : ∀ (x4 : Int32) (X : En) (σ : St), k33 x4 X σ = some (r, X2, σ2) → ExL pr sc (rtE (some (.int r)) (mk X2) σ2) (33, [(0, .ref SN), (1, .ref 0), (2, .ref 38), (3, .ref 71), (4, .int x4)], [], mk X, σ)) (x4 : Int32) (X : En) (σ : St) (h : g_L_1577 sc k33 x4 X σ = some (r, X2, σ2)) : ExL pr sc (rtE (some (.int r)) (mk X2) σ2) (1577, [(0, .ref SN), (1, .ref 0), (2, .ref 38), (3, .ref 71), (4, .int x4)], [], mk X, σ) := by
  unfold g_L_1577 at h
  refine ExL.blk 5 rfl ?_
  show ExL pr sc (rtE (some (.int r)) (mk X2) σ2) (1583, [(0, .ref SN), (1, .ref 0), (2, .ref 38), (3, .ref 71), (4, .int x4)], [.int (x4 + 1), .ref SN, .ref 0], mk X, σ)
  obtain ⟨g282, h⟩ := gd_some h
  refine ExL.blk 1 rfl ?_
  refine And.intro (inb_ok g282) ?_
  show ExL pr sc (rtE (some (.int r)) (mk X2) σ2) (1584, [(0, .ref SN), (1, .ref 0), (2, .ref 38), (3, .ref 71), (4, .int x4)], [.int (sc.2 (x4 + 1).toNatClampNeg), .ref 0], mk X, σ)
  refine ExL.blk 4 rfl ?_
  show ExL pr sc (rtE (some (.int r)) (mk X2) σ2) (1589, [(0, .ref SN), (1, .ref 0), (2, .ref 38), (3, .ref 71), (4, .int x4)], [.int (x4 + 2), .ref SN, .int (sc.2 (x4 + 1).toNatClampNeg), .ref 0], mk X, σ)
  obtain ⟨g283, h⟩ := gd_some h
  refine ExL.blk 1 rfl ?_
  refine And.intro (inb_ok g283) ?_
  show ExL pr sc (rtE (some (.int r)) (mk X2) σ2) (1590, [(0, .ref SN), (1, .ref 0), (2, .ref 38), (3, .ref 71), (4, .int x4)], [.int (sc.2 (x4 + 2).toNatClampNeg), .int (sc.2 (x4 + 1).toNatClampNeg), .ref 0], mk X, σ)
  obtain ⟨p284, hp284, h⟩ := bind_sp h
  refine ExL.blk 1 rfl ?_
  refine Exists.intro (some (.int p284.1)) (Exists.intro (mk p284.2.1) (Exists.intro p284.2.2 (And.intro (cg_X9_safest 55 hp284) ?_)))
  show ExL pr sc (rtE (some (.int r)) (mk X2) σ2) (1593, [(0, .ref SN), (1, .ref 0), (2, .ref 38), (3, .ref 71), (4, .int x4)], [.int p284.1], mk p284.2.1, p284.2.2)
  refine ExL.blk 5 rfl ?_
  show ExL pr sc (rtE (some (.int r)) (mk X2) σ2) (1599, [(0, .ref SN), (1, .ref 0), (2, .ref 38), (3, .ref 71), (4, .int x4)], [.int (x4 + 1), .ref SN, .ref 38, .int p284.1], mk p284.2.1, p284.2.2)
  obtain ⟨g285, h⟩ := gd_some h
  refine ExL.blk 1 rfl ?_
  refine And.intro (inb_ok g285) ?_
  show ExL pr sc (rtE (some (.int r)) (mk X2) σ2) (1600, [(0, .ref SN), (1, .ref 0), (2, .ref 38), (3, .ref 71), (4, .int x4)], [.int (sc.2 (x4 + 1).toNatClampNeg), .ref 38, .int p284.1], mk p284.2.1, p284.2.2)
  refine ExL.blk 4 rfl ?_
  show ExL pr sc (rtE (some (.int r)) (mk X2) σ2) (1605, [(0, .ref SN), (1, .ref 0), (2, .ref 38), (3, .ref 71), (4, .int x4)], [.int (x4 + 2), .ref SN, .int (sc.2 (x4 + 1).toNatClampNeg), .ref 38, .int p284.1], mk p284.2.1, p284.2.2)
  obtain ⟨g286, h⟩ := gd_some h
  refine ExL.blk 1 rfl ?_
  refine And.intro (inb_ok g286) ?_
  show ExL pr sc (rtE (some (.int r)) (mk X2) σ2) (1606, [(0, .ref SN), (1, .ref 0), (2, .ref 38), (3, .ref 71), (4, .int x4)], [.int (sc.2 (x4 + 2).toNatClampNeg), .int (sc.2 (x4 + 1).toNatClampNeg), .ref 38, .int p284.1], mk p284.2.1, p284.2.2)
  obtain ⟨p287, hp287, h⟩ := bind_sp h
  refine ExL.blk 1 rfl ?_
  refine Exists.intro (some (.int p287.1)) (Exists.intro (mk p284.2.1) (Exists.intro p287.2 (And.intro (cl_X10_safest 56 hp287) ?_)))
  show ExL pr sc (rtE (some (.int r)) (mk X2) σ2) (1609, [(0, .ref SN), (1, .ref 0), (2, .ref 38), (3, .ref 71), (4, .int x4)], [.int p287.1, .int p284.1], mk p284.2.1, p287.2)
  refine ExL.blk 1 rfl ?_
  rcases ite_sp h with ⟨c288, h⟩ | ⟨c288, h⟩
  · refine And.intro (fun _ => ?_) (fun hn => absurd c288 hn)
    show ExL pr sc (rtE (some (.int r)) (mk X2) σ2) (1876, [(0, .ref SN), (1, .ref 0), (2, .ref 38), (3, .ref 71), (4, .int x4)], [], mk p284.2.1, p287.2)
    show ExL pr sc (rtE (some (.int r)) (mk X2) σ2) (1876, [(0, .ref SN), (1, .ref 0), (2, .ref 38), (3, .ref 71), (4, .int x4)], [], mk p284.2.1, p287.2)
    exact lg_L_1876 sc hsc hpr _ hk33 _ _ _ h
  · refine And.intro (fun hp => absurd hp c288) (fun _ => ?_)
    show ExL pr sc (rtE (some (.int r)) (mk X2) σ2) (1612, [(0, .ref SN), (1, .ref 0), (2, .ref 38), (3, .ref 71), (4, .int x4)], [], mk p284.2.1, p287.2)
    refine ExL.blk 2 rfl ?_
    cases h
    exact And.intro isb_0 ⟨rfl, rfl, rfl⟩
theorem lg_L_1614 {pr : Ct} (sc : Nat × (Nat → Int32)) (hsc : sc.1 ≤ 3073) (hpr : ∀ (c : Int32) (E : En) (σ : St) (d : Nat), Cl MT pr sc (d + 9) 51 [.ref LN, .int c] E σ (some (.int (ixo c))) E σ) {r : Int32} {X2 : En} {σ2 : St} (k33 : Int32 → En → St → Option (Int32 × En × St)) (hk33 : ∀ (x4 : Int32) (X : En) (σ : St), k33 x4 X σ = some (r, X2, σ2) → ExL pr sc (rtE (some (.int r)) (mk X2) σ2) (33, [(0, .ref SN), (1, .ref 0), (2, .ref 38), (3, .ref 71), (4, .int x4)], [], mk X, σ)) (x4 : Int32) (X : En) (σ : St) (h : g_L_1614 sc k33 x4 X σ = some (r, X2, σ2)) : ExL pr sc (rtE (some (.int r)) (mk X2) σ2) (1614, [(0, .ref SN), (1, .ref 0), (2, .ref 38), (3, .ref 71), (4, .int x4)], [], mk X, σ) := by
  unfold g_L_1614 at h
  refine ExL.blk 1 rfl ?_
  show ExL pr sc (rtE (some (.int r)) (mk X2) σ2) (1615, [(0, .ref SN), (1, .ref 0), (2, .ref 38), (3, .ref 71), (4, .int x4)], [.ref 0], mk X, σ)
  obtain ⟨p290, hp290, h⟩ := bind_sp h
  refine ExL.blk 1 rfl ?_
  refine Exists.intro (some (.int p290.1)) (Exists.intro (mk X) (Exists.intro p290.2 (And.intro (cl_X9_confused 57 hp290) ?_)))
  show ExL pr sc (rtE (some (.int r)) (mk X2) σ2) (1618, [(0, .ref SN), (1, .ref 0), (2, .ref 38), (3, .ref 71), (4, .int x4)], [.int p290.1], mk X, p290.2)
  refine ExL.blk 1 rfl ?_
  show ExL pr sc (rtE (some (.int r)) (mk X2) σ2) (1619, [(0, .ref SN), (1, .ref 0), (2, .ref 38), (3, .ref 71), (4, .int x4)], [.ref 38, .int p290.1], mk X, p290.2)
  obtain ⟨p291, hp291, h⟩ := bind_sp h
  refine ExL.blk 1 rfl ?_
  refine Exists.intro (some (.int p291.1)) (Exists.intro (mk X) (Exists.intro p291.2 (And.intro (cl_X10_confused 57 hp291) ?_)))
  show ExL pr sc (rtE (some (.int r)) (mk X2) σ2) (1622, [(0, .ref SN), (1, .ref 0), (2, .ref 38), (3, .ref 71), (4, .int x4)], [.int p291.1, .int p290.1], mk X, p291.2)
  refine ExL.blk 1 rfl ?_
  rcases ite_sp h with ⟨c292, h⟩ | ⟨c292, h⟩
  · refine And.intro (fun _ => ?_) (fun hn => absurd c292 hn)
    show ExL pr sc (rtE (some (.int r)) (mk X2) σ2) (1876, [(0, .ref SN), (1, .ref 0), (2, .ref 38), (3, .ref 71), (4, .int x4)], [], mk X, p291.2)
    show ExL pr sc (rtE (some (.int r)) (mk X2) σ2) (1876, [(0, .ref SN), (1, .ref 0), (2, .ref 38), (3, .ref 71), (4, .int x4)], [], mk X, p291.2)
    exact lg_L_1876 sc hsc hpr _ hk33 _ _ _ h
  · refine And.intro (fun hp => absurd hp c292) (fun _ => ?_)
    show ExL pr sc (rtE (some (.int r)) (mk X2) σ2) (1625, [(0, .ref SN), (1, .ref 0), (2, .ref 38), (3, .ref 71), (4, .int x4)], [], mk X, p291.2)
    refine ExL.blk 2 rfl ?_
    cases h
    exact And.intro isb_0 ⟨rfl, rfl, rfl⟩
theorem lg_L_1627 {pr : Ct} (sc : Nat × (Nat → Int32)) (hsc : sc.1 ≤ 3073) (hpr : ∀ (c : Int32) (E : En) (σ : St) (d : Nat), Cl MT pr sc (d + 9) 51 [.ref LN, .int c] E σ (some (.int (ixo c))) E σ) {r : Int32} {X2 : En} {σ2 : St} (k33 : Int32 → En → St → Option (Int32 × En × St)) (hk33 : ∀ (x4 : Int32) (X : En) (σ : St), k33 x4 X σ = some (r, X2, σ2) → ExL pr sc (rtE (some (.int r)) (mk X2) σ2) (33, [(0, .ref SN), (1, .ref 0), (2, .ref 38), (3, .ref 71), (4, .int x4)], [], mk X, σ)) (x4 : Int32) (X : En) (σ : St) (h : g_L_1627 sc k33 x4 X σ = some (r, X2, σ2)) : ExL pr sc (rtE (some (.int r)) (mk X2) σ2) (1627, [(0, .ref SN), (1, .ref 0), (2, .ref 38), (3, .ref 71), (4, .int x4)], [], mk X, σ) := by
  unfold g_L_1627 at h
  refine ExL.blk 5 rfl ?_
  show ExL pr sc (rtE (some (.int r)) (mk X2) σ2) (1633, [(0, .ref SN), (1, .ref 0), (2, .ref 38), (3, .ref 71), (4, .int x4)], [.int (x4 + 1), .ref SN, .ref 0], mk X, σ)
  obtain ⟨g294, h⟩ := gd_some h
  refine ExL.blk 1 rfl ?_
  refine And.intro (inb_ok g294) ?_
  show ExL pr sc (rtE (some (.int r)) (mk X2) σ2) (1634, [(0, .ref SN), (1, .ref 0), (2, .ref 38), (3, .ref 71), (4, .int x4)], [.int (sc.2 (x4 + 1).toNatClampNeg), .ref 0], mk X, σ)
  obtain ⟨p295, hp295, h⟩ := bind_sp h
  refine ExL.blk 1 rfl ?_
  refine Exists.intro (some (.int p295.1)) (Exists.intro (mk X) (Exists.intro p295.2 (And.intro (cl_X9_kids 58 hp295) ?_)))
  show ExL pr sc (rtE (some (.int r)) (mk X2) σ2) (1637, [(0, .ref SN), (1, .ref 0), (2, .ref 38), (3, .ref 71), (4, .int x4)], [.int p295.1], mk X, p295.2)
  refine ExL.blk 5 rfl ?_
  show ExL pr sc (rtE (some (.int r)) (mk X2) σ2) (1643, [(0, .ref SN), (1, .ref 0), (2, .ref 38), (3, .ref 71), (4, .int x4)], [.int (x4 + 1), .ref SN, .ref 38, .int p295.1], mk X, p295.2)
  obtain ⟨g296, h⟩ := gd_some h
  refine ExL.blk 1 rfl ?_
  refine And.intro (inb_ok g296) ?_
  show ExL pr sc (rtE (some (.int r)) (mk X2) σ2) (1644, [(0, .ref SN), (1, .ref 0), (2, .ref 38), (3, .ref 71), (4, .int x4)], [.int (sc.2 (x4 + 1).toNatClampNeg), .ref 38, .int p295.1], mk X, p295.2)
  obtain ⟨p297, hp297, h⟩ := bind_sp h
  refine ExL.blk 1 rfl ?_
  refine Exists.intro (some (.int p297.1)) (Exists.intro (mk X) (Exists.intro p297.2 (And.intro (cl_X10_kids 58 hp297) ?_)))
  show ExL pr sc (rtE (some (.int r)) (mk X2) σ2) (1647, [(0, .ref SN), (1, .ref 0), (2, .ref 38), (3, .ref 71), (4, .int x4)], [.int p297.1, .int p295.1], mk X, p297.2)
  refine ExL.blk 1 rfl ?_
  rcases ite_sp h with ⟨c298, h⟩ | ⟨c298, h⟩
  · refine And.intro (fun _ => ?_) (fun hn => absurd c298 hn)
    show ExL pr sc (rtE (some (.int r)) (mk X2) σ2) (1876, [(0, .ref SN), (1, .ref 0), (2, .ref 38), (3, .ref 71), (4, .int x4)], [], mk X, p297.2)
    show ExL pr sc (rtE (some (.int r)) (mk X2) σ2) (1876, [(0, .ref SN), (1, .ref 0), (2, .ref 38), (3, .ref 71), (4, .int x4)], [], mk X, p297.2)
    exact lg_L_1876 sc hsc hpr _ hk33 _ _ _ h
  · refine And.intro (fun hp => absurd hp c298) (fun _ => ?_)
    show ExL pr sc (rtE (some (.int r)) (mk X2) σ2) (1650, [(0, .ref SN), (1, .ref 0), (2, .ref 38), (3, .ref 71), (4, .int x4)], [], mk X, p297.2)
    refine ExL.blk 2 rfl ?_
    cases h
    exact And.intro isb_0 ⟨rfl, rfl, rfl⟩
