/-! THE RELATION, WHOLE -/
def Rel (X : En) (σ : St) : Prop := Rset σ ∧ Rtape σ ∧ Rrop σ ∧ Rdig σ ∧ Rgoat σ ∧ Rcnt σ ∧ Rpast σ ∧ Rear σ ∧ Rhar σ ∧ Rmis σ ∧ Rsum X σ ∧ Rkept X σ ∧ Rveil X σ ∧ Rrem X σ
abbrev Grem : List (Nat × Nat) := [(1, 0), (19, 1), (19, 2), (19, 3)]
theorem Rrem.ex1 {X Y : En} {σ σ' : St} {P : Nat → Prop} (h : Rrem X σ) (q : sameOn [20] [(19, 1), (19, 2), (19, 3)] σ σ') (e10 : gI σ' 1 0 = gI σ 1 0) (e : ext X Y) (q2 : hiB P X σ σ') (fr : ∀ b, isR X b → ¬ P b) : Rrem Y σ' := by
  obtain ⟨h1, h2⟩ := h
  refine ⟨by rw [q.I 19 3, q.I 19 1]; exact h1, ?_⟩
  rcases h2 with ⟨h2, h3⟩ | ⟨b, h2, h3, h4⟩
  · left; rw [q.R 19 2, q.I 19 3]; exact ⟨h2, h3⟩
  · right
    refine ⟨b, by rw [q.R 19 2]; exact h2, h3.ex e, ?_⟩
    have eb : gI σ' b = gI σ b := funext fun j => (q2 b j h3.1 h3.2.1 (fr b h3)).1
    rw [q.I 19 3, q.I 19 1, e10, q.cI 20, eb]
    exact h4
theorem sameOn.sub {C C' : List Nat} {G G' : List (Nat × Nat)} {σ σ' : St} (h : sameOn C G σ σ') (hc : ∀ c ∈ C', c ∈ C) (hg : ∀ g ∈ G', g ∈ G) : sameOn C' G' σ σ' := ⟨fun c hm => h.1 c (hc c hm), fun g hm => h.2 g (hg g hm)⟩
theorem Rkept.ex1 {X Y : En} {σ σ' : St} {P : Nat → Prop} (h : Rkept X σ) (q : sameOn Ckept [(0, 2), (0, 3), (38, 53), (38, 54), (38, 55), (38, 56)] σ σ') (e10 : gI σ' 1 0 = gI σ 1 0) (e : ext X Y) (q2 : hiB P X σ σ') (fr : ∀ t, isV X t → ¬ P t ∧ ¬ P (t + 1) ∧ ¬ P (t + 2)) : Rkept Y σ' := by
  rcases h with ⟨h1, h2⟩ | ⟨h1, t, h2, h3, h4, h5, h6, h7, h8, h9, h10, h11, h12⟩
  · left
    rw [q.R 0 2, q.I 38 56]; exact ⟨h1, h2⟩
  · right
    obtain ⟨p0, p1, p2⟩ := fr t h3
    have t1 := h3.1
    have t2 := h3.2.1
    have c0 : ∀ b, gI σ' t b = gI σ t b := fun b => (q2 t b t1 (by omega) p0).1
    have c1 : ∀ b, gI σ' (t + 1) b = gI σ (t + 1) b := fun b => (q2 (t + 1) b (by omega) (by omega) p1).1
    have c2 : ∀ b, gI σ' (t + 2) b = gI σ (t + 2) b := fun b => (q2 (t + 2) b (by omega) (by omega) p2).1
    have c3 : gJ σ' t 6 = gJ σ t 6 := (q2 t 6 t1 (by omega) p0).2.1
    refine ⟨by rw [q.I 38 56]; exact h1, t, by rw [q.R 0 2]; exact h2, h3.ex e, ?_, ?_, ?_, ?_, ?_, ?_, ?_, ?_, ?_⟩
    · rw [c0, e10]; exact h4
    · intro j hj
      rw [c1, c2, q.cI 69, q.cI 70]; exact h5 j hj
    · rw [e10, q.cI 69]; exact h6
    · rw [c0, q.I 38 53]; exact h7
    · rw [c0, q.I 38 54]; exact h8
    · rw [q.I 38 54, e10]; exact h9
    · rw [c3, q.J 38 55]; exact h10
    · intro k hk
      rw [c0, q.cI 69]; exact h11 k hk
    · rw [q.I 0 3, q.cI 69]; exact h12
theorem Rel.keep {X Y : En} {σ σ2 : St} {W : List Nat} {F : List (Nat × Nat)} {P : Nat → Prop} (h : Rel X σ) (q : low72 W F σ σ2) (e : ext X Y) (hb : hiB P X σ σ2) :
    (apartB W F [] Gset = true → Rset σ2) ∧ (apartB W F Ctape Gtape = true → Rtape σ2) ∧ (apartB W F [] Grop = true → Rrop σ2) ∧ (apartB W F [2, 46] [(1, 0)] = true → Rdig σ2) ∧ (apartB W F Cgoat Ggoat = true → Rgoat σ2) ∧ (apartB W F [46] Gnow = true → Rcnt σ2) ∧ (apartB W F Cpast Gpast = true → Rpast σ2) ∧ (apartB W F Cear Gear = true → Rear σ2) ∧ (apartB W F Char Ghar = true → Rhar σ2) ∧ (apartB W F [] Gmis = true → Rmis σ2) ∧ (apartB W F Csum Gsum = true → freeS X P → Rsum Y σ2) ∧ (apartB W F Ckept Gkept = true → (∀ t, isV X t → ¬ P t ∧ ¬ P (t + 1) ∧ ¬ P (t + 2)) → Rkept Y σ2) ∧ (apartB W F [] [(0, 12)] = true → Rveil Y σ2) ∧ (apartB W F [20] Grem = true → (∀ b, isR X b → ¬ P b) → Rrem Y σ2) := by
  obtain ⟨r1, r2, r3, r4, r5, r6, r7, r8, r9, r10, r11, r12, r13, r14⟩ := h
  exact ⟨fun a => r1.to (q.same a rfl rfl), fun a => r2.to (q.same a rfl rfl), fun a => r3.to (q.same a rfl rfl), fun a => r4.to (q.same a rfl rfl), fun a => r5.to (q.same a rfl rfl), fun a => r6.to (q.same a rfl rfl), fun a => r7.to (q.same a rfl rfl), fun a => r8.to (q.same a rfl rfl), fun a => r9.to (q.same a rfl rfl), fun a => r10.to (q.same a rfl rfl), fun a f => r11.ex (q.same a rfl rfl) e hb f, fun a f => r12.ex (q.same a rfl rfl) e hb f, fun a => r13.ex ((q.same a rfl rfl).R 0 12) e, fun a f => r14.ex (q.same a rfl rfl) e hb f⟩
theorem freeS_0 (X : En) : freeS X (fun _ => False) := fun _ _ _ _ _ _ _ _ => ⟨id, id⟩
theorem Rel.keepF {X Y : En} {σ σ2 : St} {W : List Nat} {F : List (Nat × Nat)} (h : Rel X σ) (q : low72 W F σ σ2) (e : ext X Y) (hb : hiB (fun _ => False) X σ σ2) :
    (apartB W F [] Gset = true → Rset σ2) ∧ (apartB W F Ctape Gtape = true → Rtape σ2) ∧ (apartB W F [] Grop = true → Rrop σ2) ∧ (apartB W F [2, 46] [(1, 0)] = true → Rdig σ2) ∧ (apartB W F Cgoat Ggoat = true → Rgoat σ2) ∧ (apartB W F [46] Gnow = true → Rcnt σ2) ∧ (apartB W F Cpast Gpast = true → Rpast σ2) ∧ (apartB W F Cear Gear = true → Rear σ2) ∧ (apartB W F Char Ghar = true → Rhar σ2) ∧ (apartB W F [] Gmis = true → Rmis σ2) ∧ (apartB W F Csum Gsum = true → Rsum Y σ2) ∧ (apartB W F Ckept Gkept = true → Rkept Y σ2) ∧ (apartB W F [] [(0, 12)] = true → Rveil Y σ2) ∧ (apartB W F [20] Grem = true → Rrem Y σ2) := by
  obtain ⟨r1, r2, r3, r4, r5, r6, r7, r8, r9, r10, r11, r12, r13, r14⟩ := h.keep q e hb
  exact ⟨r1, r2, r3, r4, r5, r6, r7, r8, r9, r10, fun a => r11 a (freeS_0 X), fun a => r12 a (fun _ _ => ⟨id, id, id⟩), r13, fun a => r14 a (fun _ _ => id)⟩
def Room (X Y : En) : Prop := eZ X ≤ eZ Y ∧ eZ Y ≤ eZ X + 4 ∧ eY X ≤ eY Y ∧ eY Y ≤ eY X + 604
theorem Room.rf (X : En) : Room X X := ⟨Nat.le_refl _, by omega, Nat.le_refl _, by omega⟩
theorem lowf {W1 W2 : List Nat} {F1 F2 : List (Nat × Nat)} {σ σ1 σ2 : St} (a : frm W1 F1 σ σ1) (b : frm W2 F2 σ1 σ2) (hw : (W1 ++ W2).all (fun a => Nat.blt a 72) = true) (hf : (F1 ++ F2).all (fun p => Nat.blt p.1 72) = true) : low72 (W1 ++ W2) (F1 ++ F2) σ σ2 ∧ hi72 σ σ2 := by
  have q : frm (W1 ++ W2) (F1 ++ F2) σ σ2 := a.two b (fun x h => List.mem_append_left _ h) (fun x h => List.mem_append_left _ h) (fun x h => List.mem_append_right _ h) (fun x h => List.mem_append_right _ h)
  exact ⟨q.low (fun _ h => h) (fun _ h => h), q.h72 hw hf⟩
/-- a case of the law goes on -/
def GoesOn (sc : Nat × (Nat → Int32)) (G : (Int32 → En → St → Option (Int32 × En × St)) → Int32 → En → St → Option (Int32 × En × St)) : Prop := ∀ (k : Int32 → En → St → Option (Int32 × En × St)) (x4 : Int32) (X : En) (σ : St), inb (x4 + 1) sc.1 = true → inb (x4 + 2) sc.1 = true → inb (x4 + 3) sc.1 = true → inb (x4 + 4) sc.1 = true → inb (x4 + 5) sc.1 = true → Rel X σ → 72 ≤ eZ X → eZ X < 900000 → ∃ Y σ2, G k x4 X σ = k (x4 + 6) Y σ2 ∧ Rel Y σ2 ∧ Room X Y
theorem Side.rel {X : En} {σ σ2 : St} (S : Side σ σ2) (h : Rel X σ) : Rel X σ2 := by
  obtain ⟨f, s46, s11, mis, s18⟩ := S
  have lo := f.low (W' := [6, 7, 8, 46, 47, 48, 57]) (F' := [(5, 0), (5, 7), (5, 8), (5, 9), (5, 10), (5, 11), (5, 12), (38, 11), (38, 18), (38, 21), (38, 22)]) (fun _ h => h) (fun _ h => h)
  obtain ⟨k1, k2, k3, k4, k5, k6, k7, k8, k9, k10, k11, k12, k13, k14⟩ := h.keepF lo (ext.rf X) ((f.h72 rfl rfl).hb _ X)
  obtain ⟨r1, r2, r3, r4, r5, r6, r7, r8, r9, r10, r11, r12, r13, r14⟩ := h
  have q := f.same (C := [2, 3, 44]) (G := [(0, 13), (0, 14), (0, 15), (0, 16), (0, 17), (1, 0), (1, 4), (1, 5), (1, 6), (1, 7), (1, 8), (1, 9), (1, 10), (1, 11), (1, 12), (38, 12), (38, 13), (38, 14), (38, 19), (38, 20)]) rfl
  refine ⟨?_, k2 rfl, k3 rfl, ?_, ?_, ?_, k7 rfl, k8 rfl, k9 rfl, ?_, k11 rfl, k12 rfl, k13 rfl, k14 rfl⟩
  · unfold Rset at r1 ⊢
    rw [s11, q.I 38 12, q.I 38 13, q.I 38 14, q.I 0 14, q.I 0 15, q.I 0 16, q.I 0 17]
    exact r1
  · refine ⟨fun j hj => ?_, fun j hj h2 => ?_⟩
    · rw [s46 j (by omega), q.cI 2]; exact r4.1 j hj
    · rw [q.I 1 0] at h2; rw [q.cI 2]; exact r4.2 j hj h2
  · unfold Rgoat at r5 ⊢
    rw [q.cI 44, q.cI 3, q.I 38 19, q.I 1 4, q.I 38 20, q.I 1 5, s18, q.J 1 6, q.I 1 0]
    exact r5
  · unfold Rcnt at r6 ⊢
    rw [s46 12 (by omega), s46 13 (by omega), s46 14 (by omega), s46 15 (by omega), s46 16 (by omega), s46 17 (by omega), s46 18 (by omega), q.I 1 7, q.I 1 8, q.I 1 9, q.I 1 10, q.I 1 11, q.I 1 12, q.I 0 13]
    exact r6
  · rcases mis with ⟨a, b⟩ | ⟨a, b⟩
    · exact ⟨by rw [a]; exact r10.1, by rw [b]; exact r10.2⟩
    · exact ⟨a, b⟩
