/-! WORDS OF THE PURE FUNCTIONS -/
def FU : Nat := 1000000
def gd {α : Type} (b : Bool) (x : Option α) : Option α := bif b then x else none
theorem gd_some {α : Type} {b : Bool} {x : Option α} {y : α} (h : gd b x = some y) : b = true ∧ x = some y := by
  cases b with
  | true => exact ⟨rfl, h⟩
  | false => cases h
theorem gd_true {α : Type} (x : Option α) : gd true x = x := rfl
def inb (i : Int32) (n : Nat) : Bool := decide (¬ (i < 0 ∨ n ≤ i.toNatClampNeg))
theorem inb_ok {i : Int32} {n : Nat} (h : inb i n = true) : vp_in i n := (of_decide_eq_true h : ¬ (i < 0 ∨ n ≤ i.toNatClampNeg))
def isbb (v : Int32) : Bool := decide (v = 0 ∨ v = 1)
theorem isbb_ok {v : Int32} (h : isbb v = true) : isb v := (of_decide_eq_true h : v = 0 ∨ v = 1)
theorem isb_0 : isb 0 := Or.inl rfl
theorem isb_1 : isb 1 := Or.inr rfl
theorem inbz_ok {i v : Int32} {n : Nat} (h : (inb i n && isbb v) = true) : vp_in i n ∧ isb v := by
  simp only [Bool.and_eq_true] at h
  exact ⟨inb_ok h.1, isbb_ok h.2⟩
def nzI (b : Int32) : Bool := decide (¬ b = 0)
theorem nzI_ok {b : Int32} (h : nzI b = true) : ¬ b = 0 := of_decide_eq_true h
def nzJ (b : Int64) : Bool := decide (¬ b = 0)
theorem nzJ_ok {b : Int64} (h : nzJ b = true) : ¬ b = 0 := of_decide_eq_true h
def rmI (a b : Int32) : Int32 := a - a / b * b
def rmJ (a b : Int64) : Int64 := a - a / b * b
def mxI (a b : Int32) : Int32 := if a < b then b else a
def mnI (a b : Int32) : Int32 := if b < a then b else a
def abI (a : Int32) : Int32 := if 0 ≤ a then a else 0 - a
def mxJ (a b : Int64) : Int64 := if b < a then a else b
def mnJ (a b : Int64) : Int64 := if b < a then b else a
def shlI (a b : Int32) : Int32 := a <<< (b &&& 31)
def shrI (a b : Int32) : Int32 := a >>> (b &&& 31)
def ushI (a b : Int32) : Int32 := (a.toUInt32 >>> (b.toUInt32 &&& Int32.toUInt32 31)).toInt32
def shlJ (a : Int64) (b : Int32) : Int64 := a <<< (b.toInt64 &&& 63)
def shrJ (a : Int64) (b : Int32) : Int64 := a >>> (b.toInt64 &&& 63)
def ushJ (a : Int64) (b : Int32) : Int64 := (a.toUInt64 >>> (b.toInt64.toUInt64 &&& Int64.toUInt64 63)).toInt64
def toC (a : Int32) : Int32 := (a.toUInt32 % 65536).toInt32
theorem ite_sp {α : Type} {c : Prop} [Decidable c] {a b : Option α} {y : α} (h : (if c then a else b) = some y) : (c ∧ a = some y) ∨ (¬ c ∧ b = some y) := by
  by_cases hc : c
  · rw [if_pos hc] at h; exact Or.inl ⟨hc, h⟩
  · rw [if_neg hc] at h; exact Or.inr ⟨hc, h⟩
theorem bind_sp {α β : Type} {x : Option α} {f : α → Option β} {y : β} (h : x.bind f = some y) : ∃ p, x = some p ∧ f p = some y := by
  cases x with
  | none => cases h
  | some p => exact ⟨p, rfl, h⟩
/-- what is there from the first: names 0 .. 71 -/
def K0 : List Nat := [10, 8, 20, 20, 20, 8, 20, 20, 20, 3, 21, 6, 20, 20, 23, 2, 20, 21, 21, 4, 20, 7, 20, 20, 20, 20, 20, 1, 20, 20, 20, 20, 22, 20, 20, 22, 22, 20,
  11, 20, 20, 20, 20, 20, 20, 20, 20, 20, 20, 20, 21, 20, 21, 21, 20, 20, 20, 20, 20, 20, 22, 22, 20, 20, 20, 20, 20, 20, 22, 20, 20, 21]
def L0 : List Nat := [0, 0, 12, 12, 12, 0, 12, 12, 12, 0, 320, 0, 160, 36, 6, 0, 100, 99, 99, 0, 8, 0, 24, 24, 24, 12, 12, 0, 12, 12, 12, 12, 12, 12, 12, 12, 12, 12,
  0, 160, 84, 84, 84, 7, 12, 100, 19, 12, 12, 760, 40, 12, 99, 99, 8, 256, 10, 19, 12, 12, 12, 12, 12, 12, 12, 9, 9, 1000, 1000, 19, 12, 1]
def S0 : Nat → Nat → Option Nat
  | 0, 0 => some 1
  | 0, 1 => some 5
  | 0, 4 => some 9
  | 0, 5 => some 11
  | 0, 6 => some 14
  | 0, 8 => some 15
  | 0, 9 => some 19
  | 0, 10 => some 21
  | 0, 11 => some 27
  | 1, 1 => some 2
  | 1, 2 => some 3
  | 1, 3 => some 4
  | 5, 1 => some 6
  | 5, 2 => some 7
  | 5, 3 => some 8
  | 9, 0 => some 10
  | 11, 0 => some 12
  | 11, 2 => some 13
  | 15, 0 => some 16
  | 19, 0 => some 20
  | 21, 0 => some 22
  | 21, 1 => some 23
  | 21, 2 => some 24
  | 21, 3 => some 25
  | 21, 4 => some 26
  | 27, 0 => some 28
  | 27, 1 => some 29
  | 27, 2 => some 30
  | 27, 3 => some 31
  | 27, 4 => some 32
  | 27, 5 => some 33
  | 27, 6 => some 34
  | 27, 7 => some 35
  | 27, 8 => some 36
  | 27, 9 => some 37
  | 38, 2 => some 39
  | 38, 6 => some 40
  | 38, 7 => some 41
  | 38, 8 => some 42
  | 38, 9 => some 43
  | 38, 15 => some 44
  | 38, 16 => some 45
  | 38, 17 => some 46
  | 38, 23 => some 47
  | 38, 24 => some 48
  | 38, 25 => some 49
  | 38, 26 => some 50
  | 38, 29 => some 51
  | 38, 30 => some 52
  | 38, 31 => some 53
  | 38, 32 => some 54
  | 38, 34 => some 55
  | 38, 38 => some 56
  | 38, 39 => some 57
  | 38, 40 => some 58
  | 38, 41 => some 59
  | 38, 42 => some 60
  | 38, 43 => some 61
  | 38, 44 => some 62
  | 38, 45 => some 63
  | 38, 46 => some 64
  | 38, 47 => some 65
  | 38, 48 => some 66
  | 38, 49 => some 67
  | 38, 50 => some 68
  | 38, 51 => some 69
  | 38, 52 => some 70
  | _, _ => none
def mk (X : En) : En := (fun n => bif Nat.blt n 72 then K0.getD n 0 else eK X n, fun n => bif Nat.blt n 72 then L0.getD n 0 else eL X n, fun n k => bif Nat.blt n 72 then S0 n k else eS X n k, eZ X, eY X)
def rtE (r : Option Value) (E : En) (σ : St) : Rt := fun r2 E2 σ2 => r2 = r ∧ E2 = E ∧ σ2 = σ
theorem cl_of {pr : Ct} {sc : Nat × (Nat → Int32)} {d mi : Nat} {as : List Value} {E : En} {σ σ2 : St} {r : Option Value} (w : Mrow) (hw : MT mi = some w) (hl : Nat.ble (lg_sl as).length w.2.2.1 = true) (h : Ex w sc (Cl MT pr sc d) (rtE r E σ2) (0, lv_args 0 as, [], E, σ)) : Cl MT pr sc (d + 1) mi as E σ r E σ2 := Or.inr ⟨w, hw, hl, ⟨Nat.le_refl _, Nat.le_refl _⟩, h⟩
theorem cp_ok (n : Int32) {a b : Nat} (h : (decide (¬ n < 0) && Nat.ble n.toNatClampNeg a && Nat.ble n.toNatClampNeg b) = true := by rfl) : ¬ (0 : Int32) < 0 ∧ ¬ (0 : Int32) < 0 ∧ ¬ n < 0 ∧ (0 : Int32).toNatClampNeg + n.toNatClampNeg ≤ a ∧ (0 : Int32).toNatClampNeg + n.toNatClampNeg ≤ b := by
  simp only [Bool.and_eq_true, decide_eq_true_eq] at h
  have h1 := Nat.le_of_ble_eq_true h.1.2
  have h2 := Nat.le_of_ble_eq_true h.2
  have h0 : (0 : Int32).toNatClampNeg = 0 := rfl
  exact ⟨by decide, by decide, h.1.1, by omega, by omega⟩
