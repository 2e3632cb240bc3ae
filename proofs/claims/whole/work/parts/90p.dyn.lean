/-! NEW CELLS -/
theorem K_nO (E : En) (k n a : Nat) : eK (nO E k n) a = if a = eZ E then k else eK E a := rfl
theorem K_nA (E : En) (k n a : Nat) : eK (nA E k n) a = if a = eZ E then k else eK E a := rfl
theorem K_sS (E : En) (o k a : Nat) (v : Option Nat) : eK (sS E o k v) a = eK E a := rfl
theorem L_nO (E : En) (k n a : Nat) : eL (nO E k n) a = eL E a := rfl
theorem L_nA (E : En) (k n a : Nat) : eL (nA E k n) a = if a = eZ E then n else eL E a := rfl
theorem L_sS (E : En) (o k a : Nat) (v : Option Nat) : eL (sS E o k v) a = eL E a := rfl
theorem S_nO (E : En) (k n a f : Nat) : eS (nO E k n) a f = if a = eZ E then none else eS E a f := rfl
theorem S_nA (E : En) (k n a f : Nat) : eS (nA E k n) a f = eS E a f := rfl
theorem S_sS (E : En) (o k a f : Nat) (v : Option Nat) : eS (sS E o k v) a f = if a = o then (if f = k then v else eS E a f) else eS E a f := rfl
theorem Z_nO (E : En) (k n : Nat) : eZ (nO E k n) = eZ E + 1 := rfl
theorem Z_nA (E : En) (k n : Nat) : eZ (nA E k n) = eZ E + 1 := rfl
theorem Z_sS (E : En) (o k : Nat) (v : Option Nat) : eZ (sS E o k v) = eZ E := rfl
theorem Y_nO (E : En) (k n : Nat) : eY (nO E k n) = eY E + n := rfl
theorem Y_nA (E : En) (k n : Nat) : eY (nA E k n) = eY E + n := rfl
theorem Y_sS (E : En) (o k : Nat) (v : Option Nat) : eY (sS E o k v) = eY E := rfl
theorem I_clr (σ : St) (n a b : Nat) : gI (clr σ n) a b = if a = n then 0 else gI σ a b := rfl
theorem J_clr (σ : St) (n a b : Nat) : gJ (clr σ n) a b = if a = n then 0 else gJ σ a b := rfl
theorem R_clr (σ : St) (n a b : Nat) : gR (clr σ n) a b = if a = n then none else gR σ a b := rfl
theorem gJ_cpI (σ : St) (s sp d dp n a b : Nat) : gJ (cpI σ s sp d dp n) a b = gJ σ a b := rfl
theorem gR_cpI (σ : St) (s sp d dp n a b : Nat) : gR (cpI σ s sp d dp n) a b = gR σ a b := rfl
def ext (X Y : En) : Prop := eZ X ≤ eZ Y ∧ ∀ a, a < eZ X → eK Y a = eK X a ∧ eL Y a = eL X a ∧ ∀ k, eS Y a k = eS X a k
theorem ext.rf (X : En) : ext X X := ⟨Nat.le_refl _, fun _ _ => ⟨rfl, rfl, fun _ => rfl⟩⟩
/-- cells from name 72 on that are there, but those of P, stay -/
def hiB (P : Nat → Prop) (X : En) (σ σ' : St) : Prop := ∀ a b, 72 ≤ a → a < eZ X → ¬ P a → gI σ' a b = gI σ a b ∧ gJ σ' a b = gJ σ a b ∧ gR σ' a b = gR σ a b
theorem hi72.hb {σ σ' : St} (h : hi72 σ σ') (P : Nat → Prop) (X : En) : hiB P X σ σ' := fun a b h1 _ _ => h a b h1
theorem hiB.tr {P : Nat → Prop} {X : En} {σ σ1 σ2 : St} (h : hiB P X σ σ1) (h2 : hiB P X σ1 σ2) : hiB P X σ σ2 := fun a b ha hz hp => ⟨(h2 a b ha hz hp).1.trans (h a b ha hz hp).1, (h2 a b ha hz hp).2.1.trans (h a b ha hz hp).2.1, (h2 a b ha hz hp).2.2.trans (h a b ha hz hp).2.2⟩
def isV (X : En) (t : Nat) : Prop := 72 ≤ t ∧ t + 3 < eZ X ∧ eK X t = 8 ∧ eK X (t + 1) = 20 ∧ eK X (t + 2) = 20 ∧ eK X (t + 3) = 20 ∧ eL X (t + 1) = 12 ∧ eL X (t + 2) = 12 ∧ eL X (t + 3) = 12 ∧ eS X t 1 = some (t + 1) ∧ eS X t 2 = some (t + 2) ∧ eS X t 3 = some (t + 3)
def isW (X : En) (v : Nat) : Prop := 72 ≤ v ∧ v + 2 < eZ X ∧ eK X v = 9 ∧ eK X (v + 1) = 20 ∧ eK X (v + 2) = 20 ∧ eL X (v + 1) = 5 ∧ eL X (v + 2) = 594 ∧ eS X v 0 = some (v + 1) ∧ eS X v 1 = some (v + 2)
def isR (X : En) (m : Nat) : Prop := 72 ≤ m ∧ m < eZ X ∧ eK X m = 20 ∧ eL X m = 256
theorem isV.ex {X Y : En} {t : Nat} (h : isV X t) (e : ext X Y) : isV Y t := by
  obtain ⟨h1, h2, h3, h4, h5, h6, h7, h8, h9, h10, h11, h12⟩ := h
  obtain ⟨e1, e2⟩ := e
  obtain ⟨a1, a2, a3⟩ := e2 t (by omega)
  obtain ⟨b1, b2, b3⟩ := e2 (t + 1) (by omega)
  obtain ⟨c1, c2, c3⟩ := e2 (t + 2) (by omega)
  obtain ⟨d1, d2, d3⟩ := e2 (t + 3) (by omega)
  unfold isV
  rw [a1, b1, c1, d1, b2, c2, d2, a3, a3, a3]
  exact ⟨h1, by omega, h3, h4, h5, h6, h7, h8, h9, h10, h11, h12⟩
theorem isW.ex {X Y : En} {t : Nat} (h : isW X t) (e : ext X Y) : isW Y t := by
  obtain ⟨h1, h2, h3, h4, h5, h6, h7, h8, h9⟩ := h
  obtain ⟨e1, e2⟩ := e
  obtain ⟨a1, a2, a3⟩ := e2 t (by omega)
  obtain ⟨b1, b2, b3⟩ := e2 (t + 1) (by omega)
  obtain ⟨c1, c2, c3⟩ := e2 (t + 2) (by omega)
  unfold isW
  rw [a1, b1, c1, b2, c2, a3, a3]
  exact ⟨h1, by omega, h3, h4, h5, h6, h7, h8, h9⟩
theorem isR.ex {X Y : En} {t : Nat} (h : isR X t) (e : ext X Y) : isR Y t := by
  obtain ⟨h1, h2, h3, h4⟩ := h
  obtain ⟨e1, e2⟩ := e
  obtain ⟨a1, a2, a3⟩ := e2 t h2
  unfold isR
  rw [a1, a2]
  exact ⟨h1, by omega, h3, h4⟩
theorem isSm.ex {X Y : En} {σ σ' : St} {P : Nat → Prop} {s n : Nat} {lt : Nat → Int32} {vl f : Nat → Nat} (h : isSm X σ s n lt vl f) (hz : s + 1 < eZ X) (e : ext X Y) (q : hiB P X σ σ') (p0 : ¬ P s) (p1 : ¬ P (s + 1)) : isSm Y σ' s n lt vl f := by
  obtain ⟨h1, h2, h3, h4, h5, h6, h7, h8, h9⟩ := h
  obtain ⟨e1, e2⟩ := e
  obtain ⟨a1, a2, a3⟩ := e2 s (by omega)
  obtain ⟨b1, b2, b3⟩ := e2 (s + 1) hz
  refine ⟨h1, h2, by rw [a1]; exact h3, by rw [b1]; exact h4, by rw [a3]; exact h5, by rw [b2]; exact h6, h7, ?_, fun i hi => ?_⟩
  · rw [(q s 0 h1 (by omega) p0).1]; exact h8
  · rw [(q (s + 1) _ (by omega) hz p1).1, (q (s + 1) _ (by omega) hz p1).1, (q (s + 1) _ (by omega) hz p1).1]; exact h9 i hi
/-- what a sum's cells are told by -/
def freeS (X : En) (P : Nat → Prop) : Prop := ∀ s n : Nat, 72 ≤ s → s + 1 < eZ X → eK X s = 5 → eK X (s + 1) = 20 → eL X (s + 1) = 3 * n → n ≤ 12 → ¬ P s ∧ ¬ P (s + 1)
theorem Rsum.ex {X Y : En} {σ σ' : St} {P : Nat → Prop} (h : Rsum X σ) (q : sameOn Csum Gsum σ σ') (e : ext X Y) (q2 : hiB P X σ σ') (fr : freeS X P) : Rsum Y σ' := by
  obtain ⟨h1, h2, h3⟩ := h
  refine ⟨?_, ?_, ?_⟩
  · rw [q.I 38 10, q.I 0 7]; exact h1
  · rw [q.I 0 7]; exact h2
  · rw [q.I 0 7]
    intro k hk
    obtain ⟨s, n, lt, vl, f, a1, a2, a3, a4, a5⟩ := h3 k hk
    obtain ⟨p0, p1⟩ := fr s n a3.1 a2 a3.2.2.1 a3.2.2.2.1 a3.2.2.2.2.2.1 a3.2.2.2.2.2.2.1
    refine ⟨s, n, lt, vl, f, ?_, by have := e.1; omega, a3.ex a2 e q2 p0 p1, a4.to ⟨fun c hc => ?_, fun g hg => by cases hg⟩, a5⟩
    · rw [q.cR 14]; exact a1
    · refine q.1 c ?_
      simp only [List.mem_cons, List.not_mem_nil, or_false] at hc ⊢
      omega
theorem freeS_V {X : En} {t : Nat} (h : isV X t) : freeS X (fun a => t ≤ a ∧ a ≤ t + 3) := by
  intro s n h1 h2 h3 h4 h5 h6
  obtain ⟨a1, a2, a3, a4, a5, a6, a7, a8, a9, _⟩ := h
  have n0 : s ≠ t := fun c => by rw [c, a3] at h3; omega
  have n1 : s ≠ t + 1 := fun c => by rw [c, a4] at h3; omega
  have n2 : s ≠ t + 2 := fun c => by rw [c, a5] at h3; omega
  have n3 : s ≠ t + 3 := fun c => by rw [c, a6] at h3; omega
  have n4 : s + 1 ≠ t := fun c => by rw [c, a3] at h4; omega
  refine ⟨fun c => ?_, fun c => ?_⟩
  · omega
  · omega
theorem freeS_W {X : En} {t : Nat} (h : isW X t) : freeS X (fun a => t ≤ a ∧ a ≤ t + 2) := by
  intro s n h1 h2 h3 h4 h5 h6
  obtain ⟨a1, a2, a3, a4, a5, a6, a7, _⟩ := h
  have n0 : s ≠ t := fun c => by rw [c, a3] at h3; omega
  have n1 : s ≠ t + 1 := fun c => by rw [c, a4] at h3; omega
  have n2 : s ≠ t + 2 := fun c => by rw [c, a5] at h3; omega
  have n4 : s + 1 ≠ t := fun c => by rw [c, a3] at h4; omega
  refine ⟨fun c => ?_, fun c => ?_⟩
  · omega
  · omega
theorem freeS_R {X : En} {t : Nat} (h : isR X t) : freeS X (fun a => a = t) := by
  intro s n h1 h2 h3 h4 h5 h6
  obtain ⟨a1, a2, a3, a4⟩ := h
  refine ⟨fun c => ?_, fun c => ?_⟩
  · simp only at c; rw [c, a3] at h3; omega
  · simp only at c; rw [c, a4] at h5; omega
/-- the image -/
def Rkept (X : En) (σ : St) : Prop := (gR σ 0 2 = none ∧ gI σ 38 56 = 0) ∨ (gI σ 38 56 = 1 ∧ ∃ t, gR σ 0 2 = some t ∧ isV X t ∧ gI σ t 0 = gI σ 1 0 ∧ (∀ j, j < 12 → gI σ (t + 1) j = gI σ 69 j ∧ gI σ (t + 2) j = gI σ 70 j ∧ rg (gI σ 69 j) 0 9 ∧ rg (gI σ 70 j) 0 12) ∧ (∀ j : Nat, j < 12 → (gI σ 1 0).toInt ≤ j → gI σ 69 j = 0) ∧ gI σ t 4 = gI σ 38 53 ∧ gI σ t 5 = gI σ 38 54 ∧ (∃ w : Nat, gI σ 38 54 = nI w ∧ w < 2 ^ (gI σ 1 0).toInt.toNat ∧ popc w 12 ≤ 5) ∧ gJ σ t 6 = gJ σ 38 55 ∧ (∀ k, k < 6 → gI σ t (7 + k) = gI σ 69 (12 + k)) ∧ gI σ 0 3 = gI σ 69 18)
abbrev Ckept : List Nat := [69, 70]
abbrev Gkept : List (Nat × Nat) := [(0, 2), (0, 3), (1, 0), (38, 53), (38, 54), (38, 55), (38, 56)]
theorem Rkept.ex {X Y : En} {σ σ' : St} {P : Nat → Prop} (h : Rkept X σ) (q : sameOn Ckept Gkept σ σ') (e : ext X Y) (q2 : hiB P X σ σ') (fr : ∀ t, isV X t → ¬ P t ∧ ¬ P (t + 1) ∧ ¬ P (t + 2)) : Rkept Y σ' := by
  rcases h with ⟨h1, h2⟩ | ⟨h1, t, h2, h3, h4, h5, h6, h7, h8, h9, h10, h11, h12⟩
  · left
    rw [q.R 0 2, q.I 38 56]; exact ⟨h1, h2⟩
  · right
    obtain ⟨p0, p1, p2⟩ := fr t h3
    have t1 := h3.1
    have t2 := h3.2.1
    have c0 : ∀ b, gI σ' t b = gI σ t b := fun b => (q2 t b t1 (by omega) p0).1
    have c1 : ∀ b, gI σ' (t + 1) b = gI σ (t + 1) b := fun b => (q2 (t + 1) b (by omega) (by omega) p1).1
    have c2 : ∀ b, gI σ' (t + 2) b = gI σ (t + 2) b := fun b => (q2 (t + 2) b (by omega) (by omega) p2).1
    have c3 : gJ σ' t 6 = gJ σ t 6 := (q2 t 6 t1 (by omega) p0).2.1
    refine ⟨by rw [q.I 38 56]; exact h1, t, by rw [q.R 0 2]; exact h2, h3.ex e, ?_, ?_, ?_, ?_, ?_, ?_, ?_, ?_, ?_⟩
    · rw [c0, q.I 1 0]; exact h4
    · intro j hj
      rw [c1, c2, q.cI 69, q.cI 70]; exact h5 j hj
    · rw [q.I 1 0, q.cI 69]; exact h6
    · rw [c0, q.I 38 53]; exact h7
    · rw [c0, q.I 38 54]; exact h8
    · rw [q.I 38 54, q.I 1 0]; exact h9
    · rw [c3, q.J 38 55]; exact h10
    · intro k hk
      rw [c0, q.cI 69]; exact h11 k hk
    · rw [q.I 0 3, q.cI 69]; exact h12
def Rveil (X : En) (σ : St) : Prop := gR σ 0 12 = none ∨ ∃ v, gR σ 0 12 = some v ∧ isW X v
theorem Rveil.ex {X Y : En} {σ σ' : St} (h : Rveil X σ) (q : gR σ' 0 12 = gR σ 0 12) (e : ext X Y) : Rveil Y σ' := by
  rcases h with h | ⟨v, h1, h2⟩
  · left; rw [q]; exact h
  · right; exact ⟨v, by rw [q]; exact h1, h2.ex e⟩
