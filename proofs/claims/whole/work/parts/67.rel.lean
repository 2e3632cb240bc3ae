/-! THE RELATION BETWEEN THE CLASS'S CELLS AND THE MODEL'S -/
def apartB (W : List Nat) (F : List (Nat × Nat)) (C : List Nat) (G : List (Nat × Nat)) : Bool :=
  C.all (fun c => !(W.contains c) && F.all (fun p => !(Nat.beq p.1 c))) && G.all (fun g => !(W.contains g.1) && F.all (fun p => !(Nat.beq p.1 g.1 && Nat.beq p.2 g.2)))
def sameOn (C : List Nat) (G : List (Nat × Nat)) (σ σ' : St) : Prop := (∀ c ∈ C, ∀ b, gI σ' c b = gI σ c b ∧ gJ σ' c b = gJ σ c b ∧ gR σ' c b = gR σ c b) ∧ ∀ g ∈ G, gI σ' g.1 g.2 = gI σ g.1 g.2 ∧ gJ σ' g.1 g.2 = gJ σ g.1 g.2 ∧ gR σ' g.1 g.2 = gR σ g.1 g.2
theorem frm.same {W : List Nat} {F : List (Nat × Nat)} {C : List Nat} {G : List (Nat × Nat)} {σ σ' : St} (h : frm W F σ σ') (ha : apartB W F C G = true) : sameOn C G σ σ' := by
  simp only [apartB, Bool.and_eq_true, List.all_eq_true, Bool.not_eq_true'] at ha
  refine ⟨fun c hc b => ?_, fun g hg => ?_⟩
  · obtain ⟨h1, h2⟩ := ha.1 c hc
    refine h c b (fun q => ?_) (fun q => ?_)
    · rw [List.contains_iff_mem.mpr q] at h1; cases h1
    · have := h2 _ q; simp at this
  · obtain ⟨h1, h2⟩ := ha.2 g hg
    refine h g.1 g.2 (fun q => ?_) (fun q => ?_)
    · rw [List.contains_iff_mem.mpr q] at h1; cases h1
    · have := h2 _ q; simp at this
theorem sameOn.I {C : List Nat} {G : List (Nat × Nat)} {σ σ' : St} (h : sameOn C G σ σ') (a b : Nat) (hm : G.contains (a, b) = true := by rfl) : gI σ' a b = gI σ a b := (h.2 (a, b) (List.contains_iff_mem.mp hm)).1
theorem sameOn.J {C : List Nat} {G : List (Nat × Nat)} {σ σ' : St} (h : sameOn C G σ σ') (a b : Nat) (hm : G.contains (a, b) = true := by rfl) : gJ σ' a b = gJ σ a b := (h.2 (a, b) (List.contains_iff_mem.mp hm)).2.1
theorem sameOn.R {C : List Nat} {G : List (Nat × Nat)} {σ σ' : St} (h : sameOn C G σ σ') (a b : Nat) (hm : G.contains (a, b) = true := by rfl) : gR σ' a b = gR σ a b := (h.2 (a, b) (List.contains_iff_mem.mp hm)).2.2
theorem sameOn.cI {C : List Nat} {G : List (Nat × Nat)} {σ σ' : St} (h : sameOn C G σ σ') (a : Nat) (hm : C.contains a = true := by rfl) : gI σ' a = gI σ a := funext fun b => (h.1 a (List.contains_iff_mem.mp hm) b).1
theorem sameOn.cJ {C : List Nat} {G : List (Nat × Nat)} {σ σ' : St} (h : sameOn C G σ σ') (a : Nat) (hm : C.contains a = true := by rfl) : gJ σ' a = gJ σ a := funext fun b => (h.1 a (List.contains_iff_mem.mp hm) b).2.1
theorem sameOn.cR {C : List Nat} {G : List (Nat × Nat)} {σ σ' : St} (h : sameOn C G σ σ') (a : Nat) (hm : C.contains a = true := by rfl) : gR σ' a = gR σ a := funext fun b => (h.1 a (List.contains_iff_mem.mp hm) b).2.2
def rg (x : Int32) (lo hi : Int) : Prop := lo ≤ x.toInt ∧ x.toInt ≤ hi
/-- what is set -/
def Rset (σ : St) : Prop := gI σ 38 11 = gI σ 0 14 ∧ gI σ 38 12 = gI σ 0 15 ∧ gI σ 38 13 = gI σ 0 16 ∧ gI σ 38 14 = gI σ 0 17 ∧ rg (gI σ 0 14) 0 1 ∧ rg (gI σ 0 15) 1 9 ∧ rg (gI σ 0 16) 0 9 ∧ rg (gI σ 0 17) 0 9
abbrev Gset : List (Nat × Nat) := [(0, 14), (0, 15), (0, 16), (0, 17), (38, 11), (38, 12), (38, 13), (38, 14)]
theorem Rset.to {σ σ' : St} (h : Rset σ) (q : sameOn [] Gset σ σ') : Rset σ' := by
  unfold Rset at h ⊢
  rw [q.I 38 11, q.I 38 12, q.I 38 13, q.I 38 14, q.I 0 14, q.I 0 15, q.I 0 16, q.I 0 17]
  exact h
/-- the tape -/
def Rtape (σ : St) : Prop := gI σ 38 3 = gI σ 11 1 ∧ rg (gI σ 11 1) 0 160 ∧ gI σ 39 = gI σ 12 ∧ ∀ j, rg (gI σ 12 j) 0 255
abbrev Ctape : List Nat := [12, 39]
abbrev Gtape : List (Nat × Nat) := [(11, 1), (38, 3)]
theorem Rtape.to {σ σ' : St} (h : Rtape σ) (q : sameOn Ctape Gtape σ σ') : Rtape σ' := by
  unfold Rtape at h ⊢
  rw [q.I 38 3, q.I 11 1, q.cI 39, q.cI 12]
  exact h
/-- ropes -/
def Rrop (σ : St) : Prop := gI σ 38 1 = gI σ 1 0 ∧ rg (gI σ 1 0) 2 12
abbrev Grop : List (Nat × Nat) := [(1, 0), (38, 1)]
theorem Rrop.to {σ σ' : St} (h : Rrop σ) (q : sameOn [] Grop σ σ') : Rrop σ' := by
  unfold Rrop at h ⊢
  rw [q.I 38 1, q.I 1 0]
  exact h
/-- digits: 0 .. 9, and 0 above the last rope -/
def Rdig (σ : St) : Prop := (∀ j, j < 12 → gI σ 46 j = gI σ 2 j ∧ rg (gI σ 2 j) 0 9) ∧ ∀ j : Nat, j < 12 → (gI σ 1 0).toInt ≤ j → gI σ 2 j = 0
/-- goats, TWO, FOG, draws -/
def popc (w : Nat) : Nat → Nat
  | 0 => 0
  | n + 1 => popc w n + (if w.testBit n then 1 else 0)
def Rgoat (σ : St) : Prop := gI σ 44 = gI σ 3 ∧ (∀ j, j < 12 → rg (gI σ 3 j) 0 12) ∧ gI σ 38 19 = gI σ 1 4 ∧ gI σ 38 20 = gI σ 1 5 ∧ gJ σ 38 18 = gJ σ 1 6 ∧ ∃ w : Nat, gI σ 1 5 = nI w ∧ w < 2 ^ (gI σ 1 0).toInt.toNat ∧ popc w 12 ≤ 5
abbrev Cgoat : List Nat := [3, 44]
abbrev Ggoat : List (Nat × Nat) := [(1, 0), (1, 4), (1, 5), (1, 6), (38, 18), (38, 19), (38, 20)]
theorem Rgoat.to {σ σ' : St} (h : Rgoat σ) (q : sameOn Cgoat Ggoat σ σ') : Rgoat σ' := by
  unfold Rgoat at h ⊢
  rw [q.cI 44, q.cI 3, q.I 38 19, q.I 1 4, q.I 38 20, q.I 1 5, q.J 38 18, q.J 1 6, q.I 1 0]
  exact h
/-- what is counted -/
def Rcnt (σ : St) : Prop := gI σ 46 12 = gI σ 1 7 ∧ gI σ 46 13 = gI σ 1 8 ∧ gI σ 46 14 = gI σ 1 9 ∧ gI σ 46 15 = gI σ 1 10 ∧ gI σ 46 16 = gI σ 1 11 ∧ gI σ 46 17 = gI σ 1 12 ∧ gI σ 46 18 = gI σ 0 13
abbrev Gnow : List (Nat × Nat) := [(0, 13), (1, 0), (1, 7), (1, 8), (1, 9), (1, 10), (1, 11), (1, 12)]
theorem Rdig.to {σ σ' : St} (h : Rdig σ) (q : sameOn [2, 46] [(1, 0)] σ σ') : Rdig σ' := by
  unfold Rdig at h ⊢
  rw [q.cI 46, q.cI 2, q.I 1 0]
  exact h
theorem Rcnt.to {σ σ' : St} (h : Rcnt σ) (q : sameOn [46] Gnow σ σ') : Rcnt σ' := by
  unfold Rcnt at h ⊢
  rw [q.cI 46, q.I 1 7, q.I 1 8, q.I 1 9, q.I 1 10, q.I 1 11, q.I 1 12, q.I 0 13]
  exact h
/-- the number that digits stand for -/
def vsum (f : Nat → Int) : Nat → Int
  | 0 => 0
  | n + 1 => vsum f n + f n * 10 ^ n
/-- what can be undone -/
def Rpast (σ : St) : Prop := gI σ 38 27 = gI σ 9 2 ∧ gI σ 38 28 = gI σ 9 1 ∧ rg (gI σ 9 1) 0 39 ∧ rg (gI σ 9 2) 0 40 ∧
  (∀ i, i < 40 → (∀ j, j < 12 → rg (gI σ 49 (19 * i + j)) 0 9) ∧ (∀ j : Nat, j < 12 → (gI σ 1 0).toInt ≤ j → gI σ 49 (19 * i + j) = 0) ∧ gJ σ 10 (8 * i) = jZ (vsum (fun j => (gI σ 49 (19 * i + j)).toInt) 12) ∧ gJ σ 10 (8 * i + 1) = gJ σ 50 i ∧
    ∀ k, k < 6 → gJ σ 10 (8 * i + 2 + k) = (gI σ 49 (19 * i + 12 + k)).toInt64) ∧
  ∀ t, t < (gI σ 9 2).toInt.toNat → gI σ 49 (19 * (((gI σ 9 1).toInt.toNat + 39 - t) % 40) + 18) = gI σ 0 13 - 1 - nI t
abbrev Cpast : List Nat := [10, 49, 50]
abbrev Gpast : List (Nat × Nat) := [(9, 1), (9, 2), (38, 27), (38, 28), (0, 13), (1, 0)]
theorem Rpast.to {σ σ' : St} (h : Rpast σ) (q : sameOn Cpast Gpast σ σ') : Rpast σ' := by
  unfold Rpast at h ⊢
  rw [q.I 38 27, q.I 38 28, q.I 9 1, q.I 9 2, q.I 1 0, q.I 0 13, q.cJ 10, q.cI 49, q.cJ 50]
  exact h
/-- the echoes -/
def esum (f : Nat → Int) : Nat → Int
  | 0 => 0
  | n + 1 => esum f n + f n
def Rear (σ : St) : Prop := (∀ d, d < 10 → (∀ k, k < 10 → rg (gI σ 45 (10 * d + k)) 0 100) ∧ gI σ 45 (11 * d) = 0 ∧ (∀ k, k < 10 → k ≠ d → gI σ 16 (10 * d + k) = gI σ 45 (10 * d + k)) ∧ (gI σ 16 (11 * d)).toInt = 100 - esum (fun k => (gI σ 45 (10 * d + k)).toInt) 10 ∧ 0 ≤ (gI σ 16 (11 * d)).toInt) ∧
  ((gR σ 15 1 = some 17 ∧ gR σ 15 2 = some 18) ∨ (gR σ 15 1 = some 18 ∧ gR σ 15 2 = some 17))
abbrev Cear : List Nat := [16, 45]
abbrev Gear : List (Nat × Nat) := [(15, 1), (15, 2)]
theorem Rear.to {σ σ' : St} (h : Rear σ) (q : sameOn Cear Gear σ σ') : Rear σ' := by
  unfold Rear at h ⊢
  rw [q.cI 16, q.cI 45, q.R 15 1, q.R 15 2]
  exact h
/-- the harvest -/
def Rhar (σ : St) : Prop := gI σ 38 33 = gI σ 19 1 ∧ rg (gI σ 19 1) 0 8 ∧ gI σ 54 = gI σ 20 ∧ ∀ j, rg (gI σ 20 j) 0 999999999
abbrev Char : List Nat := [20, 54]
abbrev Ghar : List (Nat × Nat) := [(19, 1), (38, 33)]
theorem Rhar.to {σ σ' : St} (h : Rhar σ) (q : sameOn Char Ghar σ σ') : Rhar σ' := by
  unfold Rhar at h ⊢
  rw [q.I 38 33, q.I 19 1, q.cI 54, q.cI 20]
  exact h
/-- nothing is on the side -/
def Rmis (σ : St) : Prop := gI σ 38 21 = 0 ∧ gI σ 38 22 = 0
abbrev Gmis : List (Nat × Nat) := [(38, 21), (38, 22)]
theorem Rmis.to {σ σ' : St} (h : Rmis σ) (q : sameOn [] Gmis σ σ') : Rmis σ' := by
  unfold Rmis at h ⊢
  rw [q.I 38 21, q.I 38 22]
  exact h
