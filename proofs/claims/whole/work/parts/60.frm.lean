/-! WHAT A FUNCTION DOESN'T WRITE STAYS, by program (wip/gen_fr.py) -/
def frm (W : List Nat) (F : List (Nat × Nat)) (σ σ' : St) : Prop := ∀ a b, a ∉ W → (a, b) ∉ F → gI σ' a b = gI σ a b ∧ gJ σ' a b = gJ σ a b ∧ gR σ' a b = gR σ a b
theorem frm.rf {W : List Nat} {F : List (Nat × Nat)} (σ : St) : frm W F σ σ := fun _ _ _ _ => ⟨rfl, rfl, rfl⟩
theorem frm.tr {W : List Nat} {F : List (Nat × Nat)} {σ σ' σ'' : St} (h : frm W F σ σ') (h2 : frm W F σ' σ'') : frm W F σ σ'' := fun a b ha hb => ⟨(h2 a b ha hb).1.trans (h a b ha hb).1, (h2 a b ha hb).2.1.trans (h a b ha hb).2.1, (h2 a b ha hb).2.2.trans (h a b ha hb).2.2⟩
theorem frm.mo {W W' : List Nat} {F F' : List (Nat × Nat)} {σ σ' : St} (h : frm W F σ σ') (hs : ∀ a ∈ W, a ∈ W') (hf : ∀ a ∈ F, a ∈ F') : frm W' F' σ σ' := fun a b ha hb => h a b (fun q => ha (hs a q)) (fun q => hb (hf _ q))
theorem u2_ne {α : Type} {f : Nat → Nat → α} {o k a b : Nat} {v : α} (h : ¬ (a = o ∧ b = k)) : u2 f o k v a b = f a b := by
  unfold u2
  by_cases h1 : a = o
  · by_cases h2 : b = k
    · exact absurd ⟨h1, h2⟩ h
    · rw [if_pos h1, if_neg h2]
  · rw [if_neg h1]
theorem frm_sI {W : List Nat} {F : List (Nat × Nat)} {σ σ' : St} {a k : Nat} {v : Int32} (h : frm W F σ σ') (ha : a ∈ W) : frm W F σ (sI σ' a k v) := fun n b hn hb => by
  have e : u2 σ'.1 a k v n b = σ'.1 n b := u2_ne (fun q => hn (by rw [q.1]; exact ha))
  exact ⟨e.trans (h n b hn hb).1, (h n b hn hb).2⟩
theorem frm_sJ {W : List Nat} {F : List (Nat × Nat)} {σ σ' : St} {a k : Nat} {v : Int64} (h : frm W F σ σ') (ha : a ∈ W) : frm W F σ (sJ σ' a k v) := fun n b hn hb => by
  have e : u2 σ'.2.1 a k v n b = σ'.2.1 n b := u2_ne (fun q => hn (by rw [q.1]; exact ha))
  exact ⟨(h n b hn hb).1, e.trans (h n b hn hb).2.1, (h n b hn hb).2.2⟩
theorem frm_sR {W : List Nat} {F : List (Nat × Nat)} {σ σ' : St} {a k : Nat} {v : Option Nat} (h : frm W F σ σ') (ha : a ∈ W) : frm W F σ (sR σ' a k v) := fun n b hn hb => by
  have e : u2 σ'.2.2 a k v n b = σ'.2.2 n b := u2_ne (fun q => hn (by rw [q.1]; exact ha))
  exact ⟨(h n b hn hb).1, (h n b hn hb).2.1, e.trans (h n b hn hb).2.2⟩
theorem frm_sIf {W : List Nat} {F : List (Nat × Nat)} {σ σ' : St} {a k : Nat} {v : Int32} (h : frm W F σ σ') (ha : (a, k) ∈ F) : frm W F σ (sI σ' a k v) := fun n b hn hb => by
  have e : u2 σ'.1 a k v n b = σ'.1 n b := u2_ne (fun q => hb (by rw [q.1, q.2]; exact ha))
  exact ⟨e.trans (h n b hn hb).1, (h n b hn hb).2⟩
theorem frm_sJf {W : List Nat} {F : List (Nat × Nat)} {σ σ' : St} {a k : Nat} {v : Int64} (h : frm W F σ σ') (ha : (a, k) ∈ F) : frm W F σ (sJ σ' a k v) := fun n b hn hb => by
  have e : u2 σ'.2.1 a k v n b = σ'.2.1 n b := u2_ne (fun q => hb (by rw [q.1, q.2]; exact ha))
  exact ⟨(h n b hn hb).1, e.trans (h n b hn hb).2.1, (h n b hn hb).2.2⟩
theorem frm_sRf {W : List Nat} {F : List (Nat × Nat)} {σ σ' : St} {a k : Nat} {v : Option Nat} (h : frm W F σ σ') (ha : (a, k) ∈ F) : frm W F σ (sR σ' a k v) := fun n b hn hb => by
  have e : u2 σ'.2.2 a k v n b = σ'.2.2 n b := u2_ne (fun q => hb (by rw [q.1, q.2]; exact ha))
  exact ⟨(h n b hn hb).1, (h n b hn hb).2.1, e.trans (h n b hn hb).2.2⟩
theorem frm_cpI {W : List Nat} {F : List (Nat × Nat)} {σ σ' : St} {s sp d dp c : Nat} (h : frm W F σ σ') (ha : d ∈ W) : frm W F σ (cpI σ' s sp d dp c) := fun n b hn hb => by
  have hne : n ≠ d := fun e => hn (e ▸ ha)
  refine ⟨Eq.trans ?_ (h n b hn hb).1, (h n b hn hb).2.1, (h n b hn hb).2.2⟩
  show (if n = d then _ else σ'.1 n b) = σ'.1 n b
  rw [if_neg hne]
