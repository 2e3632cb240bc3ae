/-! CHAINS -/
def chX : List (Option Nat) → St → Option St
  | [], σ => some σ
  | none :: L, σ => (f_X7_twice 5 σ).bind fun p => chX L p
  | some n :: L, σ => (f_X7_bring_n 5 (iZ (n : Int)) 0 0 σ).bind fun p => chX L p
def chY : List (Option Nat) → St → Option St
  | [], σ => some σ
  | none :: L, σ => (f_X10_twice σ).bind fun p => chY L p
  | some n :: L, σ => (f_X10_addTo (jZ (n : Int)) σ).bind fun p => chY L p
def resP : List (Option Nat) → Nat → Nat
  | [], P => P
  | none :: L, P => resP L (P + P)
  | some n :: L, P => resP L (P + n)
def tw9 (P : Nat) : Int32 := tws P 9 P
def resW (tw : Nat → Int32) (ak : Nat → Nat → Int32) : List (Option Nat) → Nat → Int32 → Int32
  | [], _, w => w
  | none :: L, P, w => resW tw ak L (P + P) (w + tw P)
  | some n :: L, P, w => resW tw ak L (P + n) (w + ak P n)
def fits : List (Option Nat) → Nat → Prop
  | [], P => P < 10 ^ 9
  | none :: L, P => P + P < 10 ^ 9 ∧ fits L (P + P)
  | some n :: L, P => P + n < 10 ^ 9 ∧ fits L (P + n)
theorem chX_app : ∀ (L M : List (Option Nat)) (σ : St), chX (L ++ M) σ = (chX L σ).bind (chX M)
  | [], M, σ => rfl
  | none :: L, M, σ => by
    show (f_X7_twice 5 σ).bind (fun p => chX (L ++ M) p) = ((f_X7_twice 5 σ).bind fun p => chX L p).bind (chX M)
    cases f_X7_twice 5 σ with
    | none => rfl
    | some p => exact chX_app L M p
  | some n :: L, M, σ => by
    show (f_X7_bring_n 5 (iZ (n : Int)) 0 0 σ).bind (fun p => chX (L ++ M) p) = ((f_X7_bring_n 5 (iZ (n : Int)) 0 0 σ).bind fun p => chX L p).bind (chX M)
    cases f_X7_bring_n 5 (iZ (n : Int)) 0 0 σ with
    | none => rfl
    | some p => exact chX_app L M p
theorem chY_app : ∀ (L M : List (Option Nat)) (σ : St), chY (L ++ M) σ = (chY L σ).bind (chY M)
  | [], M, σ => rfl
  | none :: L, M, σ => by
    show (f_X10_twice σ).bind (fun p => chY (L ++ M) p) = ((f_X10_twice σ).bind fun p => chY L p).bind (chY M)
    cases f_X10_twice σ with
    | none => rfl
    | some p => exact chY_app L M p
  | some n :: L, M, σ => by
    show (f_X10_addTo (jZ (n : Int)) σ).bind (fun p => chY (L ++ M) p) = ((f_X10_addTo (jZ (n : Int)) σ).bind fun p => chY L p).bind (chY M)
    cases f_X10_addTo (jZ (n : Int)) σ with
    | none => rfl
    | some p => exact chY_app L M p
theorem resP_n (L : List (Option Nat)) (P : Nat) : resP (none :: L) P = resP L (P + P) := by rw [resP]
theorem resP_s (L : List (Option Nat)) (n P : Nat) : resP (some n :: L) P = resP L (P + n) := by rw [resP]
theorem resW_n (tw : Nat → Int32) (ak : Nat → Nat → Int32) (L : List (Option Nat)) (P : Nat) (w : Int32) : resW tw ak (none :: L) P w = resW tw ak L (P + P) (w + tw P) := by rw [resW]
theorem resW_s (tw : Nat → Int32) (ak : Nat → Nat → Int32) (L : List (Option Nat)) (n P : Nat) (w : Int32) : resW tw ak (some n :: L) P w = resW tw ak L (P + n) (w + ak P n) := by rw [resW]
theorem fits_n {L : List (Option Nat)} {P : Nat} (h : fits (none :: L) P) : P + P < 10 ^ 9 ∧ fits L (P + P) := by rw [fits] at h; exact h
theorem fits_s {L : List (Option Nat)} {n P : Nat} (h : fits (some n :: L) P) : P + n < 10 ^ 9 ∧ fits L (P + n) := by rw [fits] at h; exact h
