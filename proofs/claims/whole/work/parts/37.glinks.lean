theorem lg_X9_leastHerd_10 {pr : Ct} {sc : Nat × (Nat → Int32)} (d : Nat) (self : Int32 → Int32 → Int32 → Int32 → Int32 → En → St → Option (Int32 × En × St)) (hs : ∀ (x0 : Int32) (x1 : Int32) (x2 : Int32) (x3 : Int32) (x4 : Int32) (X : En) (σ : St) (r : Int32) (X2 : En) (σ2 : St), self x0 x1 x2 x3 x4 X σ = some (r, X2, σ2) → Cl MT pr sc (d + 1) 131 [.int x0, .int x1, .int x2, .int x3, .int x4] (mk X) σ (some (.int r)) (mk X2) σ2) {r : Int32} {X2 : En} {σ2 : St} (x2 : Int32) (x3 : Int32) (x4 : Int32) (X : En) (σ : St) (h : g_X9_leastHerd_10 self x2 x3 x4 X σ = some (r, X2, σ2)) : Ex mr_X9_leastHerd sc (Cl MT pr sc (d + 1)) (rtE (some (.int r)) (mk X2) σ2) (10, [(2, .int x2), (3, .int x3), (4, .int x4)], [], mk X, σ) := by
  unfold g_X9_leastHerd_10 at h
  refine Ex.blk 5 rfl ?_
  show Ex mr_X9_leastHerd sc (Cl MT pr sc (d + 1)) (rtE (some (.int r)) (mk X2) σ2) (16, [(2, .int x2), (3, .int x3), (4, .int x4)], [.int (shlI 1 (x4 + 1))], mk X, σ)
  refine Ex.blk 3 rfl ?_
  show Ex mr_X9_leastHerd sc (Cl MT pr sc (d + 1)) (rtE (some (.int r)) (mk X2) σ2) (20, [(5, .int ((shlI 1 (x4 + 1)) - 1)), (2, .int x2), (3, .int x3), (4, .int x4)], [], mk X, σ)
  show Ex mr_X9_leastHerd sc (Cl MT pr sc (d + 1)) (rtE (some (.int r)) (mk X2) σ2) (20, [(5, .int ((shlI 1 (x4 + 1)) - 1)), (2, .int x2), (3, .int x3), (4, .int x4)], [], mk X, σ)
  refine Ex.pick (lv' := _) [1, 2, 0] rfl ?_
  exact lg_X9_leastHerd_20 d self hs _ _ _ _ _ h
theorem lg_X9_leastHerd_114 {pr : Ct} {sc : Nat × (Nat → Int32)} (d : Nat) (self : Int32 → Int32 → Int32 → Int32 → Int32 → En → St → Option (Int32 × En × St)) (hs : ∀ (x0 : Int32) (x1 : Int32) (x2 : Int32) (x3 : Int32) (x4 : Int32) (X : En) (σ : St) (r : Int32) (X2 : En) (σ2 : St), self x0 x1 x2 x3 x4 X σ = some (r, X2, σ2) → Cl MT pr sc (d + 1) 131 [.int x0, .int x1, .int x2, .int x3, .int x4] (mk X) σ (some (.int r)) (mk X2) σ2) {r : Int32} {X2 : En} {σ2 : St} (k62 : Int32 → Int32 → Int32 → Int32 → Int32 → Int32 → Int32 → En → St → Option (Int32 × En × St)) (hk62 : ∀ (x0 : Int32) (x1 : Int32) (x2 : Int32) (x4 : Int32) (x5 : Int32) (x6 : Int32) (x7 : Int32) (X : En) (σ : St), k62 x0 x1 x2 x4 x5 x6 x7 X σ = some (r, X2, σ2) → Ex mr_X9_leastHerd sc (Cl MT pr sc (d + 1)) (rtE (some (.int r)) (mk X2) σ2) (62, [(0, .int x0), (1, .int x1), (2, .int x2), (4, .int x4), (5, .int x5), (6, .int x6), (7, .int x7)], [], mk X, σ)) (x0 : Int32) (x1 : Int32) (x2 : Int32) (x4 : Int32) (x5 : Int32) (x6 : Int32) (x7 : Int32) (X : En) (σ : St) (h : g_X9_leastHerd_114 self k62 x0 x1 x2 x4 x5 x6 x7 X σ = some (r, X2, σ2)) : Ex mr_X9_leastHerd sc (Cl MT pr sc (d + 1)) (rtE (some (.int r)) (mk X2) σ2) (114, [(0, .int x0), (1, .int x1), (2, .int x2), (4, .int x4), (5, .int x5), (6, .int x6), (7, .int x7)], [], mk X, σ) := by
  unfold g_X9_leastHerd_114 at h
  refine Ex.blk 2 rfl ?_
  show Ex mr_X9_leastHerd sc (Cl MT pr sc (d + 1)) (rtE (some (.int r)) (mk X2) σ2) (62, [(7, .int (x7 + 1)), (0, .int x0), (1, .int x1), (2, .int x2), (4, .int x4), (5, .int x5), (6, .int x6)], [], mk X, σ)
  show Ex mr_X9_leastHerd sc (Cl MT pr sc (d + 1)) (rtE (some (.int r)) (mk X2) σ2) (62, [(7, .int (x7 + 1)), (0, .int x0), (1, .int x1), (2, .int x2), (4, .int x4), (5, .int x5), (6, .int x6)], [], mk X, σ)
  refine Ex.pick (lv' := _) [1, 2, 3, 4, 5, 6, 0] rfl ?_
  exact hk62 _ _ _ _ _ _ _ _ _ h
theorem lg_X9_leastHerd_62 {pr : Ct} {sc : Nat × (Nat → Int32)} (d : Nat) (self : Int32 → Int32 → Int32 → Int32 → Int32 → En → St → Option (Int32 × En × St)) (hs : ∀ (x0 : Int32) (x1 : Int32) (x2 : Int32) (x3 : Int32) (x4 : Int32) (X : En) (σ : St) (r : Int32) (X2 : En) (σ2 : St), self x0 x1 x2 x3 x4 X σ = some (r, X2, σ2) → Cl MT pr sc (d + 1) 131 [.int x0, .int x1, .int x2, .int x3, .int x4] (mk X) σ (some (.int r)) (mk X2) σ2) {r : Int32} {X2 : En} {σ2 : St} : ∀ (n : Nat) (x0 : Int32) (x1 : Int32) (x2 : Int32) (x4 : Int32) (x5 : Int32) (x6 : Int32) (x7 : Int32) (X : En) (σ : St), g_X9_leastHerd_62 self n x0 x1 x2 x4 x5 x6 x7 X σ = some (r, X2, σ2) → Ex mr_X9_leastHerd sc (Cl MT pr sc (d + 1)) (rtE (some (.int r)) (mk X2) σ2) (62, [(0, .int x0), (1, .int x1), (2, .int x2), (4, .int x4), (5, .int x5), (6, .int x6), (7, .int x7)], [], mk X, σ) := by
  intro n
  induction n with
  | zero =>
    intro x0 x1 x2 x4 x5 x6 x7 X σ h
    cases h
  | succ n ih =>
    intro x0 x1 x2 x4 x5 x6 x7 X σ h
    simp only [g_X9_leastHerd_62] at h
    refine Ex.blk 3 rfl ?_
    rcases ite_sp h with ⟨c6, h⟩ | ⟨c6, h⟩
    · refine And.intro (fun _ => ?_) (fun hn => absurd c6 hn)
      show Ex mr_X9_leastHerd sc (Cl MT pr sc (d + 1)) (rtE (some (.int r)) (mk X2) σ2) (120, [(0, .int x0), (1, .int x1), (2, .int x2), (4, .int x4), (5, .int x5), (6, .int x6), (7, .int x7)], [], mk X, σ)
      refine Ex.blk 2 rfl ?_
      cases h
      exact And.intro trivial ⟨rfl, rfl, rfl⟩
    · refine And.intro (fun hp => absurd hp c6) (fun _ => ?_)
      show Ex mr_X9_leastHerd sc (Cl MT pr sc (d + 1)) (rtE (some (.int r)) (mk X2) σ2) (69, [(0, .int x0), (1, .int x1), (2, .int x2), (4, .int x4), (5, .int x5), (6, .int x6), (7, .int x7)], [], mk X, σ)
      refine Ex.blk 5 rfl ?_
      show Ex mr_X9_leastHerd sc (Cl MT pr sc (d + 1)) (rtE (some (.int r)) (mk X2) σ2) (74, [(0, .int x0), (1, .int x1), (2, .int x2), (4, .int x4), (5, .int x5), (6, .int x6), (7, .int x7)], [.int x2, .int (x1 + 1), .int x0], mk X, σ)
      refine Ex.blk 4 rfl ?_
      show Ex mr_X9_leastHerd sc (Cl MT pr sc (d + 1)) (rtE (some (.int r)) (mk X2) σ2) (81, [(0, .int x0), (1, .int x1), (2, .int x2), (4, .int x4), (5, .int x5), (6, .int x6), (7, .int x7)], [.int x4, .int x6, .int (x2 - x7), .int (x1 + 1), .int x0], mk X, σ)
      obtain ⟨p4, hp4, h⟩ := bind_sp h
      refine Ex.blk 1 rfl ?_
      refine Exists.intro (some (.int p4.1)) (Exists.intro (mk p4.2.1) (Exists.intro p4.2.2 (And.intro (hs _ _ _ _ _ _ _ _ _ _ hp4) ?_)))
      show Ex mr_X9_leastHerd sc (Cl MT pr sc (d + 1)) (rtE (some (.int r)) (mk X2) σ2) (84, [(0, .int x0), (1, .int x1), (2, .int x2), (4, .int x4), (5, .int x5), (6, .int x6), (7, .int x7)], [.int p4.1], mk p4.2.1, p4.2.2)
      refine Ex.blk 4 rfl ?_
      rcases ite_sp h with ⟨c5, h⟩ | ⟨c5, h⟩
      · refine And.intro (fun _ => ?_) (fun hn => absurd c5 hn)
        show Ex mr_X9_leastHerd sc (Cl MT pr sc (d + 1)) (rtE (some (.int r)) (mk X2) σ2) (101, [(8, .int p4.1), (0, .int x0), (1, .int x1), (2, .int x2), (4, .int x4), (5, .int x5), (6, .int x6), (7, .int x7)], [], mk p4.2.1, p4.2.2)
        refine Ex.blk 5 rfl ?_
        show Ex mr_X9_leastHerd sc (Cl MT pr sc (d + 1)) (rtE (some (.int r)) (mk X2) σ2) (108, [(8, .int p4.1), (0, .int x0), (1, .int x1), (2, .int x2), (4, .int x4), (5, .int x5), (6, .int x6), (7, .int x7)], [.int (x6 ||| (shlI x6 x1))], mk p4.2.1, p4.2.2)
        refine Ex.blk 3 rfl ?_
        show Ex mr_X9_leastHerd sc (Cl MT pr sc (d + 1)) (rtE (some (.int r)) (mk X2) σ2) (114, [(6, .int ((x6 ||| (shlI x6 x1)) &&& 1023)), (8, .int p4.1), (0, .int x0), (1, .int x1), (2, .int x2), (4, .int x4), (5, .int x5), (7, .int x7)], [], mk p4.2.1, p4.2.2)
        show Ex mr_X9_leastHerd sc (Cl MT pr sc (d + 1)) (rtE (some (.int r)) (mk X2) σ2) (114, [(6, .int ((x6 ||| (shlI x6 x1)) &&& 1023)), (8, .int p4.1), (0, .int x0), (1, .int x1), (2, .int x2), (4, .int x4), (5, .int x5), (7, .int x7)], [], mk p4.2.1, p4.2.2)
        refine Ex.pick (lv' := _) [2, 3, 4, 5, 6, 0, 7] rfl ?_
        exact lg_X9_leastHerd_114 d self hs _ ih _ _ _ _ _ _ _ _ _ h
      · refine And.intro (fun hp => absurd hp c5) (fun _ => ?_)
        show Ex mr_X9_leastHerd sc (Cl MT pr sc (d + 1)) (rtE (some (.int r)) (mk X2) σ2) (92, [(8, .int p4.1), (0, .int x0), (1, .int x1), (2, .int x2), (4, .int x4), (5, .int x5), (6, .int x6), (7, .int x7)], [], mk p4.2.1, p4.2.2)
        refine Ex.blk 5 rfl ?_
        show Ex mr_X9_leastHerd sc (Cl MT pr sc (d + 1)) (rtE (some (.int r)) (mk X2) σ2) (100, [(8, .int p4.1), (0, .int x0), (1, .int x1), (2, .int x2), (4, .int x4), (5, .int x5), (6, .int x6), (7, .int x7)], [.int (x7 + (10 * p4.1))], mk p4.2.1, p4.2.2)
        refine Ex.blk 1 rfl ?_
        cases h
        exact And.intro trivial ⟨rfl, rfl, rfl⟩
theorem lg_X9_leastHerd_54 {pr : Ct} {sc : Nat × (Nat → Int32)} (d : Nat) (self : Int32 → Int32 → Int32 → Int32 → Int32 → En → St → Option (Int32 × En × St)) (hs : ∀ (x0 : Int32) (x1 : Int32) (x2 : Int32) (x3 : Int32) (x4 : Int32) (X : En) (σ : St) (r : Int32) (X2 : En) (σ2 : St), self x0 x1 x2 x3 x4 X σ = some (r, X2, σ2) → Cl MT pr sc (d + 1) 131 [.int x0, .int x1, .int x2, .int x3, .int x4] (mk X) σ (some (.int r)) (mk X2) σ2) {r : Int32} {X2 : En} {σ2 : St} (x0 : Int32) (x1 : Int32) (x2 : Int32) (x3 : Int32) (x4 : Int32) (y0 : Int32) (X : En) (σ : St) (h : g_X9_leastHerd_54 self x0 x1 x2 x3 x4 y0 X σ = some (r, X2, σ2)) : Ex mr_X9_leastHerd sc (Cl MT pr sc (d + 1)) (rtE (some (.int r)) (mk X2) σ2) (54, [(0, .int x0), (1, .int x1), (2, .int x2), (3, .int x3), (4, .int x4)], [.int y0], mk X, σ) := by
  unfold g_X9_leastHerd_54 at h
  refine Ex.blk 5 rfl ?_
  show Ex mr_X9_leastHerd sc (Cl MT pr sc (d + 1)) (rtE (some (.int r)) (mk X2) σ2) (62, [(7, .int 0), (6, .int x3), (5, .int y0), (0, .int x0), (1, .int x1), (2, .int x2), (3, .int x3), (4, .int x4)], [], mk X, σ)
  show Ex mr_X9_leastHerd sc (Cl MT pr sc (d + 1)) (rtE (some (.int r)) (mk X2) σ2) (62, [(7, .int 0), (6, .int x3), (5, .int y0), (0, .int x0), (1, .int x1), (2, .int x2), (3, .int x3), (4, .int x4)], [], mk X, σ)
  refine Ex.pick (lv' := _) [3, 4, 5, 7, 2, 1, 0] rfl ?_
  exact lg_X9_leastHerd_62 d self hs FU _ _ _ _ _ _ _ _ _ h
theorem lg_X9_leastHerd_b {pr : Ct} {sc : Nat × (Nat → Int32)} (d : Nat) (self : Int32 → Int32 → Int32 → Int32 → Int32 → En → St → Option (Int32 × En × St)) (hs : ∀ (x0 : Int32) (x1 : Int32) (x2 : Int32) (x3 : Int32) (x4 : Int32) (X : En) (σ : St) (r : Int32) (X2 : En) (σ2 : St), self x0 x1 x2 x3 x4 X σ = some (r, X2, σ2) → Cl MT pr sc (d + 1) 131 [.int x0, .int x1, .int x2, .int x3, .int x4] (mk X) σ (some (.int r)) (mk X2) σ2) {r : Int32} {X2 : En} {σ2 : St} (x0 : Int32) (x1 : Int32) (x2 : Int32) (x3 : Int32) (x4 : Int32) (X : En) (σ : St) (h : g_X9_leastHerd_b self x0 x1 x2 x3 x4 X σ = some (r, X2, σ2)) : Ex mr_X9_leastHerd sc (Cl MT pr sc (d + 1)) (rtE (some (.int r)) (mk X2) σ2) (0, [(0, .int x0), (1, .int x1), (2, .int x2), (3, .int x3), (4, .int x4)], [], mk X, σ) := by
  unfold g_X9_leastHerd_b at h
  refine Ex.blk 3 rfl ?_
  rcases ite_sp h with ⟨c9, h⟩ | ⟨c9, h⟩
  · refine And.intro (fun _ => ?_) (fun hn => absurd c9 hn)
    show Ex mr_X9_leastHerd sc (Cl MT pr sc (d + 1)) (rtE (some (.int r)) (mk X2) σ2) (10, [(0, .int x0), (1, .int x1), (2, .int x2), (3, .int x3), (4, .int x4)], [], mk X, σ)
    show Ex mr_X9_leastHerd sc (Cl MT pr sc (d + 1)) (rtE (some (.int r)) (mk X2) σ2) (10, [(0, .int x0), (1, .int x1), (2, .int x2), (3, .int x3), (4, .int x4)], [], mk X, σ)
    refine Ex.pick (lv' := _) [2, 3, 4] rfl ?_
    exact lg_X9_leastHerd_10 d self hs _ _ _ _ _ h
  · refine And.intro (fun hp => absurd hp c9) (fun _ => ?_)
    show Ex mr_X9_leastHerd sc (Cl MT pr sc (d + 1)) (rtE (some (.int r)) (mk X2) σ2) (6, [(0, .int x0), (1, .int x1), (2, .int x2), (3, .int x3), (4, .int x4)], [], mk X, σ)
    refine Ex.blk 2 rfl ?_
    rcases ite_sp h with ⟨c8, h⟩ | ⟨c8, h⟩
    · refine And.intro (fun hp => absurd c8 hp) (fun _ => ?_)
      show Ex mr_X9_leastHerd sc (Cl MT pr sc (d + 1)) (rtE (some (.int r)) (mk X2) σ2) (10, [(0, .int x0), (1, .int x1), (2, .int x2), (3, .int x3), (4, .int x4)], [], mk X, σ)
      show Ex mr_X9_leastHerd sc (Cl MT pr sc (d + 1)) (rtE (some (.int r)) (mk X2) σ2) (10, [(0, .int x0), (1, .int x1), (2, .int x2), (3, .int x3), (4, .int x4)], [], mk X, σ)
      refine Ex.pick (lv' := _) [2, 3, 4] rfl ?_
      exact lg_X9_leastHerd_10 d self hs _ _ _ _ _ h
    · refine And.intro (fun _ => ?_) (fun hn => absurd c8 hn)
      show Ex mr_X9_leastHerd sc (Cl MT pr sc (d + 1)) (rtE (some (.int r)) (mk X2) σ2) (39, [(0, .int x0), (1, .int x1), (2, .int x2), (3, .int x3), (4, .int x4)], [], mk X, σ)
      refine Ex.blk 4 rfl ?_
      show Ex mr_X9_leastHerd sc (Cl MT pr sc (d + 1)) (rtE (some (.int r)) (mk X2) σ2) (43, [(0, .int x0), (1, .int x1), (2, .int x2), (3, .int x3), (4, .int x4)], [.int (x1 - 1), .int x0], mk X, σ)
      obtain ⟨p3, hp3, h⟩ := bind_sp h
      refine Ex.blk 1 rfl ?_
      refine Exists.intro (some (.int p3.1)) (Exists.intro (mk X) (Exists.intro p3.2 (And.intro (cl_X9_hasBit (d + 0) hp3) ?_)))
      show Ex mr_X9_leastHerd sc (Cl MT pr sc (d + 1)) (rtE (some (.int r)) (mk X2) σ2) (46, [(0, .int x0), (1, .int x1), (2, .int x2), (3, .int x3), (4, .int x4)], [.int p3.1], mk X, p3.2)
      refine Ex.blk 1 rfl ?_
      rcases ite_sp h with ⟨c7, h⟩ | ⟨c7, h⟩
      · refine And.intro (fun _ => ?_) (fun hn => absurd c7 hn)
        show Ex mr_X9_leastHerd sc (Cl MT pr sc (d + 1)) (rtE (some (.int r)) (mk X2) σ2) (53, [(0, .int x0), (1, .int x1), (2, .int x2), (3, .int x3), (4, .int x4)], [], mk X, p3.2)
        refine Ex.blk 1 rfl ?_
        show Ex mr_X9_leastHerd sc (Cl MT pr sc (d + 1)) (rtE (some (.int r)) (mk X2) σ2) (54, [(0, .int x0), (1, .int x1), (2, .int x2), (3, .int x3), (4, .int x4)], [.int 0], mk X, p3.2)
        show Ex mr_X9_leastHerd sc (Cl MT pr sc (d + 1)) (rtE (some (.int r)) (mk X2) σ2) (54, [(0, .int x0), (1, .int x1), (2, .int x2), (3, .int x3), (4, .int x4)], [.int 0], mk X, p3.2)
        exact lg_X9_leastHerd_54 d self hs _ _ _ _ _ _ _ _ h
      · refine And.intro (fun hp => absurd hp c7) (fun _ => ?_)
        show Ex mr_X9_leastHerd sc (Cl MT pr sc (d + 1)) (rtE (some (.int r)) (mk X2) σ2) (49, [(0, .int x0), (1, .int x1), (2, .int x2), (3, .int x3), (4, .int x4)], [], mk X, p3.2)
        refine Ex.blk 2 rfl ?_
        show Ex mr_X9_leastHerd sc (Cl MT pr sc (d + 1)) (rtE (some (.int r)) (mk X2) σ2) (54, [(0, .int x0), (1, .int x1), (2, .int x2), (3, .int x3), (4, .int x4)], [.int x2], mk X, p3.2)
        show Ex mr_X9_leastHerd sc (Cl MT pr sc (d + 1)) (rtE (some (.int r)) (mk X2) σ2) (54, [(0, .int x0), (1, .int x1), (2, .int x2), (3, .int x3), (4, .int x4)], [.int x2], mk X, p3.2)
        exact lg_X9_leastHerd_54 d self hs _ _ _ _ _ _ _ _ h
theorem cg_X9_leastHerd {pr : Ct} {sc : Nat × (Nat → Int32)} (d : Nat) : ∀ (n : Nat) {r : Int32} {X2 : En} {σ2 : St} {x0 : Int32} {x1 : Int32} {x2 : Int32} {x3 : Int32} {x4 : Int32} {X : En} {σ : St} (h : g_X9_leastHerd n x0 x1 x2 x3 x4 X σ = some (r, X2, σ2)), Cl MT pr sc (d + n + 1) 131 [.int x0, .int x1, .int x2, .int x3, .int x4] (mk X) σ (some (.int r)) (mk X2) σ2 := by
  intro n
  induction n with
  | zero =>
    intro r X2 σ2 x0 x1 x2 x3 x4 X σ h
    cases h
  | succ n ih =>
    intro r X2 σ2 x0 x1 x2 x3 x4 X σ h
    simp only [g_X9_leastHerd] at h
    obtain ⟨p, hp, h⟩ := bind_sp h
    obtain ⟨hz, h⟩ := gd_some h
    cases h
    refine cl_of2 (d := d + n + 1) mr_X9_leastHerd rfl rfl hz ?_
    exact lg_X9_leastHerd_b (d + n) _ (fun _ _ _ _ _ _ _ _ _ _ q => ih q) _ _ _ _ _ _ _ hp
theorem lg_X9_all_32 {pr : Ct} {sc : Nat × (Nat → Int32)} (d : Nat) {r : Int32} {X2 : En} {σ2 : St} (X : En) (σ : St) (h : g_X9_all_32 X σ = some (r, X2, σ2)) : Ex mr_X9_all sc (Cl MT pr sc (d + 12)) (rtE (some (.int r)) (mk X2) σ2) (32, [], [], mk X, σ) := by
  unfold g_X9_all_32 at h
  refine Ex.blk 2 rfl ?_
  cases h
  exact And.intro trivial ⟨rfl, rfl, rfl⟩
theorem lg_X9_all_71 {pr : Ct} {sc : Nat × (Nat → Int32)} (d : Nat) {r : Int32} {X2 : En} {σ2 : St} (y0 : Int32) (X : En) (σ : St) (h : g_X9_all_71 y0 X σ = some (r, X2, σ2)) : Ex mr_X9_all sc (Cl MT pr sc (d + 12)) (rtE (some (.int r)) (mk X2) σ2) (71, [], [.int y0], mk X, σ) := by
  unfold g_X9_all_71 at h
  refine Ex.blk 1 rfl ?_
  cases h
  exact And.intro trivial ⟨rfl, rfl, rfl⟩
theorem lg_X9_all_37 {pr : Ct} {sc : Nat × (Nat → Int32)} (d : Nat) {r : Int32} {X2 : En} {σ2 : St} : ∀ (n : Nat) (x1 : Int32) (x2 : Int32) (x3 : Int32) (x4 : Int32) (X : En) (σ : St), g_X9_all_37 n x1 x2 x3 x4 X σ = some (r, X2, σ2) → Ex mr_X9_all sc (Cl MT pr sc (d + 12)) (rtE (some (.int r)) (mk X2) σ2) (37, [(1, .int x1), (2, .int x2), (3, .int x3), (4, .int x4)], [], mk X, σ) := by
  intro n
  induction n with
  | zero =>
    intro x1 x2 x3 x4 X σ h
    cases h
  | succ n ih =>
    intro x1 x2 x3 x4 X σ h
    simp only [g_X9_all_37] at h
    refine Ex.blk 3 rfl ?_
    rcases ite_sp h with ⟨c4, h⟩ | ⟨c4, h⟩
    · refine And.intro (fun _ => ?_) (fun hn => absurd c4 hn)
      show Ex mr_X9_all sc (Cl MT pr sc (d + 12)) (rtE (some (.int r)) (mk X2) σ2) (78, [(1, .int x1), (2, .int x2), (3, .int x3), (4, .int x4)], [], mk X, σ)
      refine Ex.blk 2 rfl ?_
      cases h
      exact And.intro trivial ⟨rfl, rfl, rfl⟩
    · refine And.intro (fun hp => absurd hp c4) (fun _ => ?_)
      show Ex mr_X9_all sc (Cl MT pr sc (d + 12)) (rtE (some (.int r)) (mk X2) σ2) (43, [(1, .int x1), (2, .int x2), (3, .int x3), (4, .int x4)], [], mk X, σ)
      refine Ex.blk 5 rfl ?_
      show Ex mr_X9_all sc (Cl MT pr sc (d + 12)) (rtE (some (.int r)) (mk X2) σ2) (49, [(1, .int x1), (2, .int x2), (3, .int x3), (4, .int x4)], [.int x2, .int 1, .int x4, .int 1, .int x1], mk X, σ)
      obtain ⟨p1, hp1, h⟩ := bind_sp h
      refine Ex.blk 1 rfl ?_
      refine Exists.intro (some (.int p1.1)) (Exists.intro (mk p1.2.1) (Exists.intro p1.2.2 (And.intro (cg_X9_leastHerd (d + 0) 11 hp1) ?_)))
      show Ex mr_X9_all sc (Cl MT pr sc (d + 12)) (rtE (some (.int r)) (mk X2) σ2) (52, [(1, .int x1), (2, .int x2), (3, .int x3), (4, .int x4)], [.int p1.1], mk p1.2.1, p1.2.2)
      refine Ex.blk 4 rfl ?_
      rcases ite_sp h with ⟨c3, h⟩ | ⟨c3, h⟩
      · refine And.intro (fun _ => ?_) (fun hn => absurd c3 hn)
        show Ex mr_X9_all sc (Cl MT pr sc (d + 12)) (rtE (some (.int r)) (mk X2) σ2) (72, [(5, .int p1.1), (1, .int x1), (2, .int x2), (3, .int x3), (4, .int x4)], [], mk p1.2.1, p1.2.2)
        refine Ex.blk 2 rfl ?_
        show Ex mr_X9_all sc (Cl MT pr sc (d + 12)) (rtE (some (.int r)) (mk X2) σ2) (37, [(4, .int (x4 + 1)), (5, .int p1.1), (1, .int x1), (2, .int x2), (3, .int x3)], [], mk p1.2.1, p1.2.2)
        show Ex mr_X9_all sc (Cl MT pr sc (d + 12)) (rtE (some (.int r)) (mk X2) σ2) (37, [(4, .int (x4 + 1)), (5, .int p1.1), (1, .int x1), (2, .int x2), (3, .int x3)], [], mk p1.2.1, p1.2.2)
        refine Ex.pick (lv' := _) [2, 3, 4, 0] rfl ?_
        exact ih _ _ _ _ _ _ h
      · refine And.intro (fun hp => absurd hp c3) (fun _ => ?_)
        show Ex mr_X9_all sc (Cl MT pr sc (d + 12)) (rtE (some (.int r)) (mk X2) σ2) (60, [(5, .int p1.1), (1, .int x1), (2, .int x2), (3, .int x3), (4, .int x4)], [], mk p1.2.1, p1.2.2)
        refine Ex.blk 2 rfl ?_
        rcases ite_sp h with ⟨c2, h⟩ | ⟨c2, h⟩
        · refine And.intro (fun hp => absurd c2 hp) (fun _ => ?_)
          show Ex mr_X9_all sc (Cl MT pr sc (d + 12)) (rtE (some (.int r)) (mk X2) σ2) (64, [(5, .int p1.1), (1, .int x1), (2, .int x2), (3, .int x3), (4, .int x4)], [], mk p1.2.1, p1.2.2)
          refine Ex.blk 2 rfl ?_
          show Ex mr_X9_all sc (Cl MT pr sc (d + 12)) (rtE (some (.int r)) (mk X2) σ2) (71, [(5, .int p1.1), (1, .int x1), (2, .int x2), (3, .int x3), (4, .int x4)], [.int x4], mk p1.2.1, p1.2.2)
          show Ex mr_X9_all sc (Cl MT pr sc (d + 12)) (rtE (some (.int r)) (mk X2) σ2) (71, [(5, .int p1.1), (1, .int x1), (2, .int x2), (3, .int x3), (4, .int x4)], [.int x4], mk p1.2.1, p1.2.2)
          refine Ex.pick (lv' := _) [] rfl ?_
          exact lg_X9_all_71 d _ _ _ h
        · refine And.intro (fun _ => ?_) (fun hn => absurd c2 hn)
          show Ex mr_X9_all sc (Cl MT pr sc (d + 12)) (rtE (some (.int r)) (mk X2) σ2) (69, [(5, .int p1.1), (1, .int x1), (2, .int x2), (3, .int x3), (4, .int x4)], [], mk p1.2.1, p1.2.2)
          refine Ex.blk 1 rfl ?_
          show Ex mr_X9_all sc (Cl MT pr sc (d + 12)) (rtE (some (.int r)) (mk X2) σ2) (71, [(5, .int p1.1), (1, .int x1), (2, .int x2), (3, .int x3), (4, .int x4)], [.int p1.1], mk p1.2.1, p1.2.2)
          show Ex mr_X9_all sc (Cl MT pr sc (d + 12)) (rtE (some (.int r)) (mk X2) σ2) (71, [(5, .int p1.1), (1, .int x1), (2, .int x2), (3, .int x3), (4, .int x4)], [.int p1.1], mk p1.2.1, p1.2.2)
          refine Ex.pick (lv' := _) [] rfl ?_
          exact lg_X9_all_71 d _ _ _ h
theorem cg_X9_all {pr : Ct} {sc : Nat × (Nat → Int32)} (d : Nat) {r : Int32} {X2 : En} {σ2 : St} {x1 : Int32} {x2 : Int32} {x3 : Int32} {X : En} {σ : St} (h : g_X9_all x1 x2 x3 X σ = some (r, X2, σ2)) : Cl MT pr sc (d + 12 + 1) 132 [.ref 0, .int x1, .int x2, .int x3] (mk X) σ (some (.int r)) (mk X2) σ2 := by
  unfold g_X9_all at h
  obtain ⟨p, hp, h⟩ := bind_sp h
  obtain ⟨hz, h⟩ := gd_some h
  cases h
  refine cl_of2 mr_X9_all rfl rfl hz ?_
  have h := hp
  clear hp
  unfold g_X9_all_b at h
  refine Ex.blk 3 rfl ?_
  rcases ite_sp h with ⟨c10, h⟩ | ⟨c10, h⟩
  · refine And.intro (fun _ => ?_) (fun hn => absurd c10 hn)
    show Ex mr_X9_all sc (Cl MT pr sc (d + 12)) (rtE (some (.int r)) (mk X2) σ2) (32, [(0, .ref 0), (1, .int x1), (2, .int x2), (3, .int x3)], [], mk X, σ)
    show Ex mr_X9_all sc (Cl MT pr sc (d + 12)) (rtE (some (.int r)) (mk X2) σ2) (32, [(0, .ref 0), (1, .int x1), (2, .int x2), (3, .int x3)], [], mk X, σ)
    refine Ex.pick (lv' := _) [] rfl ?_
    exact lg_X9_all_32 d _ _ h
  · refine And.intro (fun hp => absurd hp c10) (fun _ => ?_)
    show Ex mr_X9_all sc (Cl MT pr sc (d + 12)) (rtE (some (.int r)) (mk X2) σ2) (5, [(0, .ref 0), (1, .int x1), (2, .int x2), (3, .int x3)], [], mk X, σ)
    refine Ex.blk 3 rfl ?_
    rcases ite_sp h with ⟨c9, h⟩ | ⟨c9, h⟩
    · refine And.intro (fun _ => ?_) (fun hn => absurd c9 hn)
      show Ex mr_X9_all sc (Cl MT pr sc (d + 12)) (rtE (some (.int r)) (mk X2) σ2) (32, [(0, .ref 0), (1, .int x1), (2, .int x2), (3, .int x3)], [], mk X, σ)
      show Ex mr_X9_all sc (Cl MT pr sc (d + 12)) (rtE (some (.int r)) (mk X2) σ2) (32, [(0, .ref 0), (1, .int x1), (2, .int x2), (3, .int x3)], [], mk X, σ)
      refine Ex.pick (lv' := _) [] rfl ?_
      exact lg_X9_all_32 d _ _ h
    · refine And.intro (fun hp => absurd hp c9) (fun _ => ?_)
      show Ex mr_X9_all sc (Cl MT pr sc (d + 12)) (rtE (some (.int r)) (mk X2) σ2) (12, [(0, .ref 0), (1, .int x1), (2, .int x2), (3, .int x3)], [], mk X, σ)
      refine Ex.blk 3 rfl ?_
      rcases ite_sp h with ⟨c8, h⟩ | ⟨c8, h⟩
      · refine And.intro (fun _ => ?_) (fun hn => absurd c8 hn)
        show Ex mr_X9_all sc (Cl MT pr sc (d + 12)) (rtE (some (.int r)) (mk X2) σ2) (32, [(0, .ref 0), (1, .int x1), (2, .int x2), (3, .int x3)], [], mk X, σ)
        show Ex mr_X9_all sc (Cl MT pr sc (d + 12)) (rtE (some (.int r)) (mk X2) σ2) (32, [(0, .ref 0), (1, .int x1), (2, .int x2), (3, .int x3)], [], mk X, σ)
        refine Ex.pick (lv' := _) [] rfl ?_
        exact lg_X9_all_32 d _ _ h
      · refine And.intro (fun hp => absurd hp c8) (fun _ => ?_)
        show Ex mr_X9_all sc (Cl MT pr sc (d + 12)) (rtE (some (.int r)) (mk X2) σ2) (17, [(0, .ref 0), (1, .int x1), (2, .int x2), (3, .int x3)], [], mk X, σ)
        refine Ex.blk 3 rfl ?_
        rcases ite_sp h with ⟨c7, h⟩ | ⟨c7, h⟩
        · refine And.intro (fun _ => ?_) (fun hn => absurd c7 hn)
          show Ex mr_X9_all sc (Cl MT pr sc (d + 12)) (rtE (some (.int r)) (mk X2) σ2) (32, [(0, .ref 0), (1, .int x1), (2, .int x2), (3, .int x3)], [], mk X, σ)
          show Ex mr_X9_all sc (Cl MT pr sc (d + 12)) (rtE (some (.int r)) (mk X2) σ2) (32, [(0, .ref 0), (1, .int x1), (2, .int x2), (3, .int x3)], [], mk X, σ)
          refine Ex.pick (lv' := _) [] rfl ?_
          exact lg_X9_all_32 d _ _ h
        · refine And.intro (fun hp => absurd hp c7) (fun _ => ?_)
          show Ex mr_X9_all sc (Cl MT pr sc (d + 12)) (rtE (some (.int r)) (mk X2) σ2) (23, [(0, .ref 0), (1, .int x1), (2, .int x2), (3, .int x3)], [], mk X, σ)
          refine Ex.blk 2 rfl ?_
          rcases ite_sp h with ⟨c6, h⟩ | ⟨c6, h⟩
          · refine And.intro (fun _ => ?_) (fun hn => absurd c6 hn)
            show Ex mr_X9_all sc (Cl MT pr sc (d + 12)) (rtE (some (.int r)) (mk X2) σ2) (32, [(0, .ref 0), (1, .int x1), (2, .int x2), (3, .int x3)], [], mk X, σ)
            show Ex mr_X9_all sc (Cl MT pr sc (d + 12)) (rtE (some (.int r)) (mk X2) σ2) (32, [(0, .ref 0), (1, .int x1), (2, .int x2), (3, .int x3)], [], mk X, σ)
            refine Ex.pick (lv' := _) [] rfl ?_
            exact lg_X9_all_32 d _ _ h
          · refine And.intro (fun hp => absurd hp c6) (fun _ => ?_)
            show Ex mr_X9_all sc (Cl MT pr sc (d + 12)) (rtE (some (.int r)) (mk X2) σ2) (27, [(0, .ref 0), (1, .int x1), (2, .int x2), (3, .int x3)], [], mk X, σ)
            refine Ex.blk 3 rfl ?_
            rcases ite_sp h with ⟨c5, h⟩ | ⟨c5, h⟩
            · refine And.intro (fun _ => ?_) (fun hn => absurd c5 hn)
              show Ex mr_X9_all sc (Cl MT pr sc (d + 12)) (rtE (some (.int r)) (mk X2) σ2) (34, [(0, .ref 0), (1, .int x1), (2, .int x2), (3, .int x3)], [], mk X, σ)
              refine Ex.blk 2 rfl ?_
              show Ex mr_X9_all sc (Cl MT pr sc (d + 12)) (rtE (some (.int r)) (mk X2) σ2) (37, [(4, .int 1), (0, .ref 0), (1, .int x1), (2, .int x2), (3, .int x3)], [], mk X, σ)
              show Ex mr_X9_all sc (Cl MT pr sc (d + 12)) (rtE (some (.int r)) (mk X2) σ2) (37, [(4, .int 1), (0, .ref 0), (1, .int x1), (2, .int x2), (3, .int x3)], [], mk X, σ)
              refine Ex.pick (lv' := _) [2, 3, 4, 0] rfl ?_
              exact lg_X9_all_37 d FU _ _ _ _ _ _ h
            · refine And.intro (fun hp => absurd hp c5) (fun _ => ?_)
              show Ex mr_X9_all sc (Cl MT pr sc (d + 12)) (rtE (some (.int r)) (mk X2) σ2) (32, [(0, .ref 0), (1, .int x1), (2, .int x2), (3, .int x3)], [], mk X, σ)
              show Ex mr_X9_all sc (Cl MT pr sc (d + 12)) (rtE (some (.int r)) (mk X2) σ2) (32, [(0, .ref 0), (1, .int x1), (2, .int x2), (3, .int x3)], [], mk X, σ)
              refine Ex.pick (lv' := _) [] rfl ?_
              exact lg_X9_all_32 d _ _ h
theorem lg_X9_tried_19 {pr : Ct} {sc : Nat × (Nat → Int32)} (d : Nat) {r : Int64} {X2 : En} {σ2 : St} (X : En) (σ : St) (h : g_X9_tried_19 X σ = some (r, X2, σ2)) : Ex mr_X9_tried sc (Cl MT pr sc (d + 5)) (rtE (some (.long r)) (mk X2) σ2) (19, [], [], mk X, σ) := by
  unfold g_X9_tried_19 at h
  refine Ex.blk 2 rfl ?_
  cases h
  exact And.intro trivial ⟨rfl, rfl, rfl⟩
theorem cg_X9_tried {pr : Ct} {sc : Nat × (Nat → Int32)} (d : Nat) {r : Int64} {X2 : En} {σ2 : St} {x1 : Int32} {x2 : Int32} {X : En} {σ : St} (h : g_X9_tried x1 x2 X σ = some (r, X2, σ2)) : Cl MT pr sc (d + 5 + 1) 135 [.ref 0, .int x1, .int x2] (mk X) σ (some (.long r)) (mk X2) σ2 := by
  unfold g_X9_tried at h
  obtain ⟨p, hp, h⟩ := bind_sp h
  obtain ⟨hz, h⟩ := gd_some h
  cases h
  refine cl_of2 mr_X9_tried rfl rfl hz ?_
  have h := hp
  clear hp
  unfold g_X9_tried_b at h
  refine Ex.blk 2 rfl ?_
  show Ex mr_X9_tried sc (Cl MT pr sc (d + 5)) (rtE (some (.long r)) (mk X2) σ2) (2, [(0, .ref 0), (1, .int x1), (2, .int x2)], [.int x1, .ref 0], mk X, σ)
  obtain ⟨p1, hp1, h⟩ := bind_sp h
  refine Ex.blk 1 rfl ?_
  refine Exists.intro (some (orv p1.1)) (Exists.intro (mk p1.2.1) (Exists.intro p1.2.2 (And.intro (cg_X9_sumAt (d + 4) hp1) ?_)))
  show Ex mr_X9_tried sc (Cl MT pr sc (d + 5)) (rtE (some (.long r)) (mk X2) σ2) (5, [(0, .ref 0), (1, .int x1), (2, .int x2)], [orv p1.1], mk p1.2.1, p1.2.2)
  rcases mR_sp h with ⟨hb3, h⟩ | ⟨b2, hb3, h⟩
  · rw [hb3]
    show Ex mr_X9_tried sc (Cl MT pr sc (d + 5)) (rtE (some (.long r)) (mk X2) σ2) (5, [(0, .ref 0), (1, .int x1), (2, .int x2)], [.null], mk p1.2.1, p1.2.2)
    refine Ex.blk 3 rfl ?_
    show Ex mr_X9_tried sc (Cl MT pr sc (d + 5)) (rtE (some (.long r)) (mk X2) σ2) (19, [(3, .null), (0, .ref 0), (1, .int x1), (2, .int x2)], [], mk p1.2.1, p1.2.2)
    show Ex mr_X9_tried sc (Cl MT pr sc (d + 5)) (rtE (some (.long r)) (mk X2) σ2) (19, [(3, .null), (0, .ref 0), (1, .int x1), (2, .int x2)], [], mk p1.2.1, p1.2.2)
    refine Ex.pick (lv' := _) [] rfl ?_
    exact lg_X9_tried_19 d _ _ h
  · rw [hb3]
    show Ex mr_X9_tried sc (Cl MT pr sc (d + 5)) (rtE (some (.long r)) (mk X2) σ2) (5, [(0, .ref 0), (1, .int x1), (2, .int x2)], [.ref b2], mk p1.2.1, p1.2.2)
    obtain ⟨hk_b2_p1_2_1, h⟩ := gd_some h
    refine Ex.blk 3 rfl ?_
    show Ex mr_X9_tried sc (Cl MT pr sc (d + 5)) (rtE (some (.long r)) (mk X2) σ2) (10, [(3, .ref b2), (0, .ref 0), (1, .int x1), (2, .int x2)], [], mk p1.2.1, p1.2.2)
    refine Ex.blk 2 rfl ?_
    rcases ite_sp h with ⟨c13, h⟩ | ⟨c13, h⟩
    · refine And.intro (fun _ => ?_) (fun hn => absurd c13 hn)
      show Ex mr_X9_tried sc (Cl MT pr sc (d + 5)) (rtE (some (.long r)) (mk X2) σ2) (19, [(3, .ref b2), (0, .ref 0), (1, .int x1), (2, .int x2)], [], mk p1.2.1, p1.2.2)
      show Ex mr_X9_tried sc (Cl MT pr sc (d + 5)) (rtE (some (.long r)) (mk X2) σ2) (19, [(3, .ref b2), (0, .ref 0), (1, .int x1), (2, .int x2)], [], mk p1.2.1, p1.2.2)
      refine Ex.pick (lv' := _) [] rfl ?_
      exact lg_X9_tried_19 d _ _ h
    · refine And.intro (fun hp => absurd hp c13) (fun _ => ?_)
      show Ex mr_X9_tried sc (Cl MT pr sc (d + 5)) (rtE (some (.long r)) (mk X2) σ2) (14, [(3, .ref b2), (0, .ref 0), (1, .int x1), (2, .int x2)], [], mk p1.2.1, p1.2.2)
      refine Ex.blk 3 rfl ?_
      rcases ite_sp h with ⟨c12, h⟩ | ⟨c12, h⟩
      · refine And.intro (fun _ => ?_) (fun hn => absurd c12 hn)
        show Ex mr_X9_tried sc (Cl MT pr sc (d + 5)) (rtE (some (.long r)) (mk X2) σ2) (23, [(3, .ref b2), (0, .ref 0), (1, .int x1), (2, .int x2)], [], mk p1.2.1, p1.2.2)
        refine Ex.blk 4 rfl ?_
        show Ex mr_X9_tried sc (Cl MT pr sc (d + 5)) (rtE (some (.long r)) (mk X2) σ2) (31, [(3, .ref b2), (0, .ref 0), (1, .int x1), (2, .int x2)], [.ref 1, .ref 5], mk p1.2.1, p1.2.2)
        obtain ⟨p4, hp4, h⟩ := bind_sp h
        refine Ex.blk 1 rfl ?_
        refine Exists.intro none (Exists.intro (mk p1.2.1) (Exists.intro p4 (And.intro (cl_X7_beginAs_5_1 (d + 3) hp4) ?_)))
        show Ex mr_X9_tried sc (Cl MT pr sc (d + 5)) (rtE (some (.long r)) (mk X2) σ2) (34, [(3, .ref b2), (0, .ref 0), (1, .int x1), (2, .int x2)], [], mk p1.2.1, p4)
        refine Ex.blk 2 rfl ?_
        show Ex mr_X9_tried sc (Cl MT pr sc (d + 5)) (rtE (some (.long r)) (mk X2) σ2) (36, [(3, .ref b2), (0, .ref 0), (1, .int x1), (2, .int x2)], [.ref b2, .ref 0], mk p1.2.1, p4)
        obtain ⟨p5, hp5, h⟩ := bind_sp h
        refine Ex.blk 1 rfl ?_
        refine Exists.intro none (Exists.intro (mk p5.1) (Exists.intro p5.2 (And.intro (cg_X9_goThrough (d + 0) hp5) ?_)))
        show Ex mr_X9_tried sc (Cl MT pr sc (d + 5)) (rtE (some (.long r)) (mk X2) σ2) (39, [(3, .ref b2), (0, .ref 0), (1, .int x1), (2, .int x2)], [], mk p5.1, p5.2)
        obtain ⟨hk_b2_p5_1, h⟩ := gd_some h
        refine Ex.blk 1 rfl ?_
        show Ex mr_X9_tried sc (Cl MT pr sc (d + 5)) (rtE (some (.long r)) (mk X2) σ2) (40, [(3, .ref b2), (0, .ref 0), (1, .int x1), (2, .int x2)], [.int x2], mk p5.1, p5.2)
        refine Ex.blk 1 rfl ?_
        rcases ite_sp h with ⟨c6, h⟩ | ⟨c6, h⟩
        · refine And.intro (fun _ => ?_) (fun hn => absurd (c6.trans (by decide)) hn)
          show Ex mr_X9_tried sc (Cl MT pr sc (d + 5)) (rtE (some (.long r)) (mk X2) σ2) (76, [(3, .ref b2), (0, .ref 0), (1, .int x1), (2, .int x2)], [], mk p5.1, p5.2)
          refine Ex.blk 2 rfl ?_
          show Ex mr_X9_tried sc (Cl MT pr sc (d + 5)) (rtE (some (.long r)) (mk X2) σ2) (80, [(3, .ref b2), (0, .ref 0), (1, .int x1), (2, .int x2)], [.ref 5], mk p5.1, p5.2)
          obtain ⟨p7, hp7, h⟩ := bind_sp h
          refine Ex.blk 1 rfl ?_
          refine Exists.intro (some (.long p7.1)) (Exists.intro (mk p5.1) (Exists.intro p7.2 (And.intro (cl_X7_value_5 (d + 4) hp7) ?_)))
          show Ex mr_X9_tried sc (Cl MT pr sc (d + 5)) (rtE (some (.long r)) (mk X2) σ2) (83, [(3, .ref b2), (0, .ref 0), (1, .int x1), (2, .int x2)], [.long p7.1], mk p5.1, p7.2)
          refine Ex.blk 1 rfl ?_
          cases h
          exact And.intro trivial ⟨rfl, rfl, rfl⟩
        refine And.intro (fun hp => absurd (hp.trans (by decide)) c6) (fun _ => ?_)
        rcases ite_sp h with ⟨c8, h⟩ | ⟨c8, h⟩
        · refine And.intro (fun _ => ?_) (fun hn => absurd (c8.trans (by decide)) hn)
          show Ex mr_X9_tried sc (Cl MT pr sc (d + 5)) (rtE (some (.long r)) (mk X2) σ2) (84, [(3, .ref b2), (0, .ref 0), (1, .int x1), (2, .int x2)], [], mk p5.1, p5.2)
          refine Ex.blk 5 rfl ?_
          cases h
          exact And.intro trivial ⟨rfl, rfl, rfl⟩
        refine And.intro (fun hp => absurd (hp.trans (by decide)) c8) (fun _ => ?_)
        rcases ite_sp h with ⟨c9, h⟩ | ⟨c9, h⟩
        · refine And.intro (fun _ => ?_) (fun hn => absurd (c9.trans (by decide)) hn)
          show Ex mr_X9_tried sc (Cl MT pr sc (d + 5)) (rtE (some (.long r)) (mk X2) σ2) (93, [(3, .ref b2), (0, .ref 0), (1, .int x1), (2, .int x2)], [], mk p5.1, p5.2)
          refine Ex.blk 5 rfl ?_
          cases h
          exact And.intro trivial ⟨rfl, rfl, rfl⟩
        refine And.intro (fun hp => absurd (hp.trans (by decide)) c9) (fun _ => ?_)
        rcases ite_sp h with ⟨c10, h⟩ | ⟨c10, h⟩
        · refine And.intro (fun _ => ?_) (fun hn => absurd (c10.trans (by decide)) hn)
          show Ex mr_X9_tried sc (Cl MT pr sc (d + 5)) (rtE (some (.long r)) (mk X2) σ2) (102, [(3, .ref b2), (0, .ref 0), (1, .int x1), (2, .int x2)], [], mk p5.1, p5.2)
          refine Ex.blk 5 rfl ?_
          cases h
          exact And.intro trivial ⟨rfl, rfl, rfl⟩
        refine And.intro (fun hp => absurd (hp.trans (by decide)) c10) (fun _ => ?_)
        rcases ite_sp h with ⟨c11, h⟩ | ⟨c11, h⟩
        · refine And.intro (fun _ => ?_) (fun hn => absurd (c11.trans (by decide)) hn)
          show Ex mr_X9_tried sc (Cl MT pr sc (d + 5)) (rtE (some (.long r)) (mk X2) σ2) (111, [(3, .ref b2), (0, .ref 0), (1, .int x1), (2, .int x2)], [], mk p5.1, p5.2)
          refine Ex.blk 5 rfl ?_
          cases h
          exact And.intro trivial ⟨rfl, rfl, rfl⟩
        refine And.intro (fun hp => absurd (hp.trans (by decide)) c11) (fun _ => ?_)
        show Ex mr_X9_tried sc (Cl MT pr sc (d + 5)) (rtE (some (.long r)) (mk X2) σ2) (120, [(3, .ref b2), (0, .ref 0), (1, .int x1), (2, .int x2)], [], mk p5.1, p5.2)
        refine Ex.blk 5 rfl ?_
        cases h
        exact And.intro trivial ⟨rfl, rfl, rfl⟩
      · refine And.intro (fun hp => absurd hp c12) (fun _ => ?_)
        show Ex mr_X9_tried sc (Cl MT pr sc (d + 5)) (rtE (some (.long r)) (mk X2) σ2) (19, [(3, .ref b2), (0, .ref 0), (1, .int x1), (2, .int x2)], [], mk p1.2.1, p1.2.2)
        show Ex mr_X9_tried sc (Cl MT pr sc (d + 5)) (rtE (some (.long r)) (mk X2) σ2) (19, [(3, .ref b2), (0, .ref 0), (1, .int x1), (2, .int x2)], [], mk p1.2.1, p1.2.2)
        refine Ex.pick (lv' := _) [] rfl ?_
        exact lg_X9_tried_19 d _ _ h
theorem lg_X9_needs_18 {pr : Ct} {sc : Nat × (Nat → Int32)} (d : Nat) {r : Int32} {X2 : En} {σ2 : St} (X : En) (σ : St) (h : g_X9_needs_18 X σ = some (r, X2, σ2)) : Ex mr_X9_needs sc (Cl MT pr sc (d + 5)) (rtE (some (.int r)) (mk X2) σ2) (18, [], [], mk X, σ) := by
  unfold g_X9_needs_18 at h
  refine Ex.blk 2 rfl ?_
  cases h
  exact And.intro trivial ⟨rfl, rfl, rfl⟩
theorem cg_X9_needs {pr : Ct} {sc : Nat × (Nat → Int32)} (d : Nat) {r : Int32} {X2 : En} {σ2 : St} {x1 : Int32} {x2 : Int32} {X : En} {σ : St} (h : g_X9_needs x1 x2 X σ = some (r, X2, σ2)) : Cl MT pr sc (d + 5 + 1) 136 [.ref 0, .int x1, .int x2] (mk X) σ (some (.int r)) (mk X2) σ2 := by
  unfold g_X9_needs at h
  obtain ⟨p, hp, h⟩ := bind_sp h
  obtain ⟨hz, h⟩ := gd_some h
  cases h
  refine cl_of2 mr_X9_needs rfl rfl hz ?_
  have h := hp
  clear hp
  unfold g_X9_needs_b at h
  refine Ex.blk 2 rfl ?_
  show Ex mr_X9_needs sc (Cl MT pr sc (d + 5)) (rtE (some (.int r)) (mk X2) σ2) (2, [(0, .ref 0), (1, .int x1), (2, .int x2)], [.int x1, .ref 0], mk X, σ)
  obtain ⟨p1, hp1, h⟩ := bind_sp h
  refine Ex.blk 1 rfl ?_
  refine Exists.intro (some (orv p1.1)) (Exists.intro (mk p1.2.1) (Exists.intro p1.2.2 (And.intro (cg_X9_sumAt (d + 4) hp1) ?_)))
  show Ex mr_X9_needs sc (Cl MT pr sc (d + 5)) (rtE (some (.int r)) (mk X2) σ2) (5, [(0, .ref 0), (1, .int x1), (2, .int x2)], [orv p1.1], mk p1.2.1, p1.2.2)
  rcases mR_sp h with ⟨hb3, h⟩ | ⟨b2, hb3, h⟩
  · rw [hb3]
    show Ex mr_X9_needs sc (Cl MT pr sc (d + 5)) (rtE (some (.int r)) (mk X2) σ2) (5, [(0, .ref 0), (1, .int x1), (2, .int x2)], [.null], mk p1.2.1, p1.2.2)
    refine Ex.blk 3 rfl ?_
    show Ex mr_X9_needs sc (Cl MT pr sc (d + 5)) (rtE (some (.int r)) (mk X2) σ2) (18, [(3, .null), (0, .ref 0), (1, .int x1), (2, .int x2)], [], mk p1.2.1, p1.2.2)
    show Ex mr_X9_needs sc (Cl MT pr sc (d + 5)) (rtE (some (.int r)) (mk X2) σ2) (18, [(3, .null), (0, .ref 0), (1, .int x1), (2, .int x2)], [], mk p1.2.1, p1.2.2)
    refine Ex.pick (lv' := _) [] rfl ?_
    exact lg_X9_needs_18 d _ _ h
  · rw [hb3]
    show Ex mr_X9_needs sc (Cl MT pr sc (d + 5)) (rtE (some (.int r)) (mk X2) σ2) (5, [(0, .ref 0), (1, .int x1), (2, .int x2)], [.ref b2], mk p1.2.1, p1.2.2)
    obtain ⟨hk_b2_p1_2_1, h⟩ := gd_some h
    refine Ex.blk 3 rfl ?_
    show Ex mr_X9_needs sc (Cl MT pr sc (d + 5)) (rtE (some (.int r)) (mk X2) σ2) (10, [(3, .ref b2), (0, .ref 0), (1, .int x1), (2, .int x2)], [], mk p1.2.1, p1.2.2)
    refine Ex.blk 2 rfl ?_
    show Ex mr_X9_needs sc (Cl MT pr sc (d + 5)) (rtE (some (.int r)) (mk X2) σ2) (12, [(3, .ref b2), (0, .ref 0), (1, .int x1), (2, .int x2)], [.int x2, .ref 0], mk p1.2.1, p1.2.2)
    obtain ⟨p4, hp4, h⟩ := bind_sp h
    refine Ex.blk 1 rfl ?_
    refine Exists.intro (some (.int p4.1)) (Exists.intro (mk p1.2.1) (Exists.intro p4.2 (And.intro (cl_X9_isRope (d + 4) hp4) ?_)))
    show Ex mr_X9_needs sc (Cl MT pr sc (d + 5)) (rtE (some (.int r)) (mk X2) σ2) (15, [(3, .ref b2), (0, .ref 0), (1, .int x1), (2, .int x2)], [.int p4.1], mk p1.2.1, p4.2)
    refine Ex.blk 1 rfl ?_
    rcases ite_sp h with ⟨c8, h⟩ | ⟨c8, h⟩
    · refine And.intro (fun hp => absurd c8 hp) (fun _ => ?_)
      show Ex mr_X9_needs sc (Cl MT pr sc (d + 5)) (rtE (some (.int r)) (mk X2) σ2) (18, [(3, .ref b2), (0, .ref 0), (1, .int x1), (2, .int x2)], [], mk p1.2.1, p4.2)
      show Ex mr_X9_needs sc (Cl MT pr sc (d + 5)) (rtE (some (.int r)) (mk X2) σ2) (18, [(3, .ref b2), (0, .ref 0), (1, .int x1), (2, .int x2)], [], mk p1.2.1, p4.2)
      refine Ex.pick (lv' := _) [] rfl ?_
      exact lg_X9_needs_18 d _ _ h
    · refine And.intro (fun _ => ?_) (fun hn => absurd c8 hn)
      show Ex mr_X9_needs sc (Cl MT pr sc (d + 5)) (rtE (some (.int r)) (mk X2) σ2) (20, [(3, .ref b2), (0, .ref 0), (1, .int x1), (2, .int x2)], [], mk p1.2.1, p4.2)
      refine Ex.blk 4 rfl ?_
      show Ex mr_X9_needs sc (Cl MT pr sc (d + 5)) (rtE (some (.int r)) (mk X2) σ2) (28, [(3, .ref b2), (0, .ref 0), (1, .int x1), (2, .int x2)], [.ref 1, .ref 5], mk p1.2.1, p4.2)
      obtain ⟨p5, hp5, h⟩ := bind_sp h
      refine Ex.blk 1 rfl ?_
      refine Exists.intro none (Exists.intro (mk p1.2.1) (Exists.intro p5 (And.intro (cl_X7_beginAs_5_1 (d + 3) hp5) ?_)))
      show Ex mr_X9_needs sc (Cl MT pr sc (d + 5)) (rtE (some (.int r)) (mk X2) σ2) (31, [(3, .ref b2), (0, .ref 0), (1, .int x1), (2, .int x2)], [], mk p1.2.1, p5)
      refine Ex.blk 2 rfl ?_
      show Ex mr_X9_needs sc (Cl MT pr sc (d + 5)) (rtE (some (.int r)) (mk X2) σ2) (33, [(3, .ref b2), (0, .ref 0), (1, .int x1), (2, .int x2)], [.ref b2, .ref 0], mk p1.2.1, p5)
      obtain ⟨p6, hp6, h⟩ := bind_sp h
      refine Ex.blk 1 rfl ?_
      refine Exists.intro none (Exists.intro (mk p6.1) (Exists.intro p6.2 (And.intro (cg_X9_goThrough (d + 0) hp6) ?_)))
      show Ex mr_X9_needs sc (Cl MT pr sc (d + 5)) (rtE (some (.int r)) (mk X2) σ2) (36, [(3, .ref b2), (0, .ref 0), (1, .int x1), (2, .int x2)], [], mk p6.1, p6.2)
      obtain ⟨hk_b2_p6_1, h⟩ := gd_some h
      refine Ex.blk 4 rfl ?_
      show Ex mr_X9_needs sc (Cl MT pr sc (d + 5)) (rtE (some (.int r)) (mk X2) σ2) (44, [(3, .ref b2), (0, .ref 0), (1, .int x1), (2, .int x2)], [.int x2, .ref 8], mk p6.1, p6.2)
      obtain ⟨g7, h⟩ := gd_some h
      refine Ex.blk 1 rfl ?_
      refine And.intro (inb_ok g7) ?_
      show Ex mr_X9_needs sc (Cl MT pr sc (d + 5)) (rtE (some (.int r)) (mk X2) σ2) (45, [(3, .ref b2), (0, .ref 0), (1, .int x1), (2, .int x2)], [.int (gI p6.2 8 x2.toNatClampNeg)], mk p6.1, p6.2)
      refine Ex.blk 1 rfl ?_
      cases h
      exact And.intro trivial ⟨rfl, rfl, rfl⟩
theorem lg_X9_herd_61 {pr : Ct} {sc : Nat × (Nat → Int32)} (d : Nat) {r : Int32} {X2 : En} {σ2 : St} (k36 : Int32 → Int32 → En → St → Option (Int32 × En × St)) (hk36 : ∀ (x3 : Int32) (x4 : Int32) (X : En) (σ : St), k36 x3 x4 X σ = some (r, X2, σ2) → Ex mr_X9_herd sc (Cl MT pr sc (d + 5)) (rtE (some (.int r)) (mk X2) σ2) (36, [(0, .ref 0), (3, .int x3), (4, .int x4)], [], mk X, σ)) (x3 : Int32) (x4 : Int32) (X : En) (σ : St) (h : g_X9_herd_61 k36 x3 x4 X σ = some (r, X2, σ2)) : Ex mr_X9_herd sc (Cl MT pr sc (d + 5)) (rtE (some (.int r)) (mk X2) σ2) (61, [(0, .ref 0), (3, .int x3), (4, .int x4)], [], mk X, σ) := by
  unfold g_X9_herd_61 at h
  refine Ex.blk 2 rfl ?_
  show Ex mr_X9_herd sc (Cl MT pr sc (d + 5)) (rtE (some (.int r)) (mk X2) σ2) (36, [(4, .int (x4 + 1)), (0, .ref 0), (3, .int x3)], [], mk X, σ)
  show Ex mr_X9_herd sc (Cl MT pr sc (d + 5)) (rtE (some (.int r)) (mk X2) σ2) (36, [(4, .int (x4 + 1)), (0, .ref 0), (3, .int x3)], [], mk X, σ)
  refine Ex.pick (lv' := _) [1, 2, 0] rfl ?_
  exact hk36 _ _ _ _ h
theorem lg_X9_herd_36 {pr : Ct} {sc : Nat × (Nat → Int32)} (d : Nat) {r : Int32} {X2 : En} {σ2 : St} : ∀ (n : Nat) (x3 : Int32) (x4 : Int32) (X : En) (σ : St), g_X9_herd_36 n x3 x4 X σ = some (r, X2, σ2) → Ex mr_X9_herd sc (Cl MT pr sc (d + 5)) (rtE (some (.int r)) (mk X2) σ2) (36, [(0, .ref 0), (3, .int x3), (4, .int x4)], [], mk X, σ) := by
  intro n
  induction n with
  | zero =>
    intro x3 x4 X σ h
    cases h
  | succ n ih =>
    intro x3 x4 X σ h
    simp only [g_X9_herd_36] at h
    refine Ex.blk 5 rfl ?_
    rcases ite_sp h with ⟨c7, h⟩ | ⟨c7, h⟩
    · refine And.intro (fun _ => ?_) (fun hn => absurd c7 hn)
      show Ex mr_X9_herd sc (Cl MT pr sc (d + 5)) (rtE (some (.int r)) (mk X2) σ2) (67, [(0, .ref 0), (3, .int x3), (4, .int x4)], [], mk X, σ)
      refine Ex.blk 2 rfl ?_
      cases h
      exact And.intro trivial ⟨rfl, rfl, rfl⟩
    · refine And.intro (fun hp => absurd hp c7) (fun _ => ?_)
      show Ex mr_X9_herd sc (Cl MT pr sc (d + 5)) (rtE (some (.int r)) (mk X2) σ2) (48, [(0, .ref 0), (3, .int x3), (4, .int x4)], [], mk X, σ)
      refine Ex.blk 5 rfl ?_
      show Ex mr_X9_herd sc (Cl MT pr sc (d + 5)) (rtE (some (.int r)) (mk X2) σ2) (58, [(0, .ref 0), (3, .int x3), (4, .int x4)], [.int x4, .ref 8, .int x3], mk X, σ)
      obtain ⟨g6, h⟩ := gd_some h
      refine Ex.blk 1 rfl ?_
      refine And.intro (inb_ok g6) ?_
      show Ex mr_X9_herd sc (Cl MT pr sc (d + 5)) (rtE (some (.int r)) (mk X2) σ2) (59, [(0, .ref 0), (3, .int x3), (4, .int x4)], [.int (gI σ 8 x4.toNatClampNeg), .int x3], mk X, σ)
      refine Ex.blk 2 rfl ?_
      show Ex mr_X9_herd sc (Cl MT pr sc (d + 5)) (rtE (some (.int r)) (mk X2) σ2) (61, [(3, .int (x3 + (gI σ 8 x4.toNatClampNeg))), (0, .ref 0), (4, .int x4)], [], mk X, σ)
      show Ex mr_X9_herd sc (Cl MT pr sc (d + 5)) (rtE (some (.int r)) (mk X2) σ2) (61, [(3, .int (x3 + (gI σ 8 x4.toNatClampNeg))), (0, .ref 0), (4, .int x4)], [], mk X, σ)
      refine Ex.pick (lv' := _) [1, 0, 2] rfl ?_
      exact lg_X9_herd_61 d _ ih _ _ _ _ h
theorem cg_X9_herd {pr : Ct} {sc : Nat × (Nat → Int32)} (d : Nat) {r : Int32} {X2 : En} {σ2 : St} {x1 : Int32} {X : En} {σ : St} (h : g_X9_herd x1 X σ = some (r, X2, σ2)) : Cl MT pr sc (d + 5 + 1) 137 [.ref 0, .int x1] (mk X) σ (some (.int r)) (mk X2) σ2 := by
  unfold g_X9_herd at h
  obtain ⟨p, hp, h⟩ := bind_sp h
  obtain ⟨hz, h⟩ := gd_some h
  cases h
  refine cl_of2 mr_X9_herd rfl rfl hz ?_
  have h := hp
  clear hp
  unfold g_X9_herd_b at h
  refine Ex.blk 2 rfl ?_
  show Ex mr_X9_herd sc (Cl MT pr sc (d + 5)) (rtE (some (.int r)) (mk X2) σ2) (2, [(0, .ref 0), (1, .int x1)], [.int x1, .ref 0], mk X, σ)
  obtain ⟨p1, hp1, h⟩ := bind_sp h
  refine Ex.blk 1 rfl ?_
  refine Exists.intro (some (orv p1.1)) (Exists.intro (mk p1.2.1) (Exists.intro p1.2.2 (And.intro (cg_X9_sumAt (d + 4) hp1) ?_)))
  show Ex mr_X9_herd sc (Cl MT pr sc (d + 5)) (rtE (some (.int r)) (mk X2) σ2) (5, [(0, .ref 0), (1, .int x1)], [orv p1.1], mk p1.2.1, p1.2.2)
  rcases mR_sp h with ⟨hb3, h⟩ | ⟨b2, hb3, h⟩
  · rw [hb3]
    show Ex mr_X9_herd sc (Cl MT pr sc (d + 5)) (rtE (some (.int r)) (mk X2) σ2) (5, [(0, .ref 0), (1, .int x1)], [.null], mk p1.2.1, p1.2.2)
    refine Ex.blk 3 rfl ?_
    show Ex mr_X9_herd sc (Cl MT pr sc (d + 5)) (rtE (some (.int r)) (mk X2) σ2) (10, [(2, .null), (0, .ref 0), (1, .int x1)], [], mk p1.2.1, p1.2.2)
    refine Ex.blk 2 rfl ?_
    cases h
    exact And.intro trivial ⟨rfl, rfl, rfl⟩
  · rw [hb3]
    show Ex mr_X9_herd sc (Cl MT pr sc (d + 5)) (rtE (some (.int r)) (mk X2) σ2) (5, [(0, .ref 0), (1, .int x1)], [.ref b2], mk p1.2.1, p1.2.2)
    obtain ⟨hk_b2_p1_2_1, h⟩ := gd_some h
    refine Ex.blk 3 rfl ?_
    show Ex mr_X9_herd sc (Cl MT pr sc (d + 5)) (rtE (some (.int r)) (mk X2) σ2) (12, [(2, .ref b2), (0, .ref 0), (1, .int x1)], [], mk p1.2.1, p1.2.2)
    refine Ex.blk 5 rfl ?_
    show Ex mr_X9_herd sc (Cl MT pr sc (d + 5)) (rtE (some (.int r)) (mk X2) σ2) (23, [(2, .ref b2), (0, .ref 0), (1, .int x1)], [.int (gI p1.2.2 1 0), .ref 5], mk p1.2.1, p1.2.2)
    obtain ⟨p4, hp4, h⟩ := bind_sp h
    refine Ex.blk 1 rfl ?_
    refine Exists.intro none (Exists.intro (mk p1.2.1) (Exists.intro p4 (And.intro (cl_X7_clear_5 (d + 3) hp4) ?_)))
    show Ex mr_X9_herd sc (Cl MT pr sc (d + 5)) (rtE (some (.int r)) (mk X2) σ2) (26, [(2, .ref b2), (0, .ref 0), (1, .int x1)], [], mk p1.2.1, p4)
    refine Ex.blk 2 rfl ?_
    show Ex mr_X9_herd sc (Cl MT pr sc (d + 5)) (rtE (some (.int r)) (mk X2) σ2) (28, [(2, .ref b2), (0, .ref 0), (1, .int x1)], [.ref b2, .ref 0], mk p1.2.1, p4)
    obtain ⟨p5, hp5, h⟩ := bind_sp h
    refine Ex.blk 1 rfl ?_
    refine Exists.intro none (Exists.intro (mk p5.1) (Exists.intro p5.2 (And.intro (cg_X9_goThrough (d + 0) hp5) ?_)))
    show Ex mr_X9_herd sc (Cl MT pr sc (d + 5)) (rtE (some (.int r)) (mk X2) σ2) (31, [(2, .ref b2), (0, .ref 0), (1, .int x1)], [], mk p5.1, p5.2)
    obtain ⟨hk_b2_p5_1, h⟩ := gd_some h
    refine Ex.blk 4 rfl ?_
    show Ex mr_X9_herd sc (Cl MT pr sc (d + 5)) (rtE (some (.int r)) (mk X2) σ2) (36, [(4, .int 0), (3, .int 0), (2, .ref b2), (0, .ref 0), (1, .int x1)], [], mk p5.1, p5.2)
    show Ex mr_X9_herd sc (Cl MT pr sc (d + 5)) (rtE (some (.int r)) (mk X2) σ2) (36, [(4, .int 0), (3, .int 0), (2, .ref b2), (0, .ref 0), (1, .int x1)], [], mk p5.1, p5.2)
    refine Ex.pick (lv' := _) [3, 1, 0] rfl ?_
    exact lg_X9_herd_36 d FU _ _ _ _ h
