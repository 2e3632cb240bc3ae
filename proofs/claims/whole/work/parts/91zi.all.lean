/-! ALL DIGITS: rows of goats, the model's small functions -/
def stI (w : Nat) (r : Int32) : Int32 := (r ||| shlI r (iZ (w : Int))) &&& 1023
def okR (r : Int32) : Prop := 0 ≤ r.toInt ∧ r.toInt < 1024 ∧ r.toInt % 2 = 1
def chS (w k : Nat) : Bool := decide ((iZ (k : Int) ||| (shlI (iZ (k : Int)) (iZ (w : Int)) &&& 1023)) = stI w (iZ (k : Int)) ∧ 0 ≤ (stI w (iZ (k : Int))).toInt ∧ (stI w (iZ (k : Int))).toInt < 1024 ∧ (stI w (iZ (k : Int))).toInt % 2 = 1)
theorem chS_tab : ((List.range 10).all fun w => (List.range 16).all fun a => (List.range 32).all fun b => chS w (64 * a + 2 * b + 1)) = true := by decide +kernel
def fullI (n : Nat) (r : Int32) : Bool := decide ((r &&& (shlI 1 (iZ (n : Int) + 1) - 1)) = shlI 1 (iZ (n : Int) + 1) - 1)
def chF (n k : Nat) : Bool := fullI n (iZ (k : Int)) == decide ((shrI (iZ (k : Int)) 1 &&& (shlI 1 (iZ (n : Int)) - 1)) = shlI 1 (iZ (n : Int)) - 1)
theorem chF_tab : ((List.range 10).all fun w => (List.range 16).all fun a => (List.range 32).all fun b => chF w (64 * a + 2 * b + 1)) = true := by decide +kernel
theorem okR_at {p : Nat → Nat → Bool} (h : ((List.range 10).all fun w => (List.range 16).all fun a => (List.range 32).all fun b => p w (64 * a + 2 * b + 1)) = true) {w : Nat} (hw : w < 10) {r : Int32} (hr : okR r) : p w r.toInt.toNat = true := by
  simp only [List.all_eq_true, List.mem_range] at h
  obtain ⟨h1, h2, h3⟩ := hr
  have := h w hw (r.toInt.toNat / 64) (by omega) (r.toInt.toNat % 64 / 2) (by omega)
  rw [show 64 * (r.toInt.toNat / 64) + 2 * (r.toInt.toNat % 64 / 2) + 1 = r.toInt.toNat by omega] at this
  exact this
theorem st_ok {w : Nat} (hw : w < 10) {r : Int32} (hr : okR r) : (r ||| (shlI r (iZ (w : Int)) &&& 1023)) = stI w r ∧ okR (stI w r) := by
  have h := of_decide_eq_true (okR_at chS_tab hw hr)
  rw [← iZof hr.1] at h
  exact ⟨h.1, h.2⟩
theorem full_ok {n : Nat} (hn : n < 10) {r : Int32} (hr : okR r) : fullI n r = decide ((shrI r 1 &&& (shlI 1 (iZ (n : Int)) - 1)) = shlI 1 (iZ (n : Int)) - 1) := by
  have h := eq_of_beq (okR_at chF_tab hn hr)
  rw [← iZof hr.1] at h
  exact h
def itr (w : Nat) : Nat → Int32 → Int32
  | 0, r => r
  | m + 1, r => stI w (itr w m r)
theorem itr_ok {w : Nat} (hw : w < 10) {r : Int32} (hr : okR r) : ∀ m, okR (itr w m r) := by
  intro m
  induction m with
  | zero => exact hr
  | succ m ih => exact (st_ok hw ih).2
def pfx (c : Nat → Nat) : Nat → Int32
  | 0 => 1
  | m + 1 => itr (m + 1) (c (m + 1)) (pfx c m)
theorem pfx_ok (c : Nat → Nat) : ∀ m, m ≤ 9 → okR (pfx c m) := by
  intro m
  induction m with
  | zero => intro _; show okR 1; unfold okR; rw [t_1]; omega
  | succ m ih => intro h; exact itr_ok (by omega) (ih (by omega)) _
theorem pfx_cg {c d : Nat → Nat} : ∀ m, (∀ j, 1 ≤ j → j ≤ m → c j = d j) → pfx c m = pfx d m := by
  intro m
  induction m with
  | zero => intro _; rfl
  | succ m ih =>
    intro h
    show itr (m + 1) (c (m + 1)) (pfx c m) = itr (m + 1) (d (m + 1)) (pfx d m)
    rw [ih (fun j a b => h j a (by omega)), h (m + 1) (by omega) (by omega)]
def Row (c : Nat → Nat) (σ : St) : Prop := ∀ j, 1 ≤ j → j ≤ 9 → gI σ 56 j = iZ (c j : Int) ∧ c j ≤ 9
abbrev okW (x : Int32) (c : Nat → Nat) (w : Nat) : Prop := ∀ j, w ≤ j → j ≤ 9 → c j = 0 ∨ bitI x (j - 1)
theorem s_isOf_go {x : Int32} {c : Nat → Nat} {σ : St} (h : Row c σ) : ∀ m n w : Nat, w + m = 10 → 1 ≤ w → m < n → ∃ b, f_X10_isOf_2 n x (iZ (w : Int)) σ = some (b, σ) ∧ (b = 0 ↔ ¬ okW x c w) := by
  have h9 : (9 : Int32).toInt = 9 := rfl
  intro m
  induction m with
  | zero =>
    intro n w e hw hn
    cases n with
    | zero => omega
    | succ n =>
      refine ⟨1, ?_, ?_⟩
      · rw [f_X10_isOf_2, if_pos (by rw [lI, h9, iZt (by omega)]; omega)]
      · constructor
        · intro q; rw [eI, t_0, t_1] at q; omega
        · intro q; exact absurd (fun j a b => by omega) q
  | succ m ih =>
    intro n w e hw hn
    cases n with
    | zero => omega
    | succ n =>
      obtain ⟨a1, a2⟩ := h w hw (by omega)
      obtain ⟨b, b1, b2⟩ := ih n (w + 1) (by omega) (by omega) (by omega)
      rw [f_X10_isOf_2, if_neg (by rw [lI, h9, iZt (by omega)]; omega), gd_t (iZb (by omega) (by omega)), iZc (by omega), a1]
      unfold f_X10_isOf_29
      have e1 : iZ (w : Int) - 1 = iZ ((w - 1 : Nat) : Int) := by
        show iZ (w : Int) - iZ 1 = _
        rw [iZ_sub]; congr 1; omega
      rw [e1, iZs]
      by_cases q : c w = 0
      · rw [if_pos (by rw [leI, t_0, iZt (by omega)]; omega)]
        refine ⟨b, b1, b2.trans (not_congr ⟨fun k j j1 j2 => ?_, fun k j j1 j2 => k j (by omega) j2⟩)⟩
        by_cases z : j = w
        · subst z; exact Or.inl q
        · exact k j (by omega) j2
      · rw [if_neg (by rw [leI, t_0, iZt (by omega)]; omega), bnd (s_has x (w - 1) (by omega) σ)]
        by_cases z : bitI x (w - 1)
        · rw [if_neg (by show ¬ bZ _ = 0; rw [bZ_0]; exact not_not_intro z)]
          refine ⟨b, b1, b2.trans (not_congr ⟨fun k j j1 j2 => ?_, fun k j j1 j2 => k j (by omega) j2⟩)⟩
          by_cases y : j = w
          · subst y; exact Or.inr z
          · exact k j (by omega) j2
        · rw [if_pos (by show bZ _ = 0; rw [bZ_0]; exact z)]
          refine ⟨0, rfl, fun _ k => ?_, fun _ => rfl⟩
          rcases k w (by omega) (by omega) with y | y
          · exact q y
          · exact z y
theorem s_isOf {x : Int32} {c : Nat → Nat} {σ : St} (h : Row c σ) : ∃ b, f_X10_isOf x σ = some (b, σ) ∧ (b = 0 ↔ ¬ okW x c 1) :=
  s_isOf_go h 9 FU 1 (by omega) (by omega) (by unfold FU; omega)
theorem s_makes_in {c : Nat → Nat} {σ : St} (h : Row c σ) (k4 : Int32 → Int32 → Int32 → St → Option (Int32 × St)) (x r : Int32) (w : Nat) (hw : 1 ≤ w) (hw2 : w ≤ 9) (hr : okR r) : ∀ m n j : Nat, j + m = c w → m < n → f_X10_makes_13 k4 n x (itr w j r) (iZ (w : Int)) (iZ (j : Int)) σ = k4 x (itr w (c w) r) (iZ ((w + 1 : Nat) : Int)) σ := by
  obtain ⟨a1, a2⟩ := h w hw hw2
  intro m
  induction m with
  | zero =>
    intro n j e hn
    cases n with
    | zero => omega
    | succ n =>
      rw [f_X10_makes_13, gd_t (iZb (by omega) (by omega)), iZc (by omega), a1, if_pos (by rw [leI, iZt (by omega), iZt (by omega)]; omega), iZs, show j = c w by omega]
  | succ m ih =>
    intro n j e hn
    cases n with
    | zero => omega
    | succ n =>
      rw [f_X10_makes_13, gd_t (iZb (by omega) (by omega)), iZc (by omega), a1, if_neg (by rw [leI, iZt (by omega), iZt (by omega)]; omega)]
      unfold f_X10_makes_34
      rw [(st_ok (by omega) (itr_ok (w := w) (by omega) hr j)).1, iZs]
      exact ih n (j + 1) (by omega) (by omega)
theorem s_makes_go {c : Nat → Nat} {σ : St} (h : Row c σ) (k : Nat) (hk : k < 10) : ∀ m n v : Nat, v + m = 9 → m < n → f_X10_makes_4 n (iZ (k : Int)) (pfx c v) (iZ ((v + 1 : Nat) : Int)) σ = some (bZ (fullI k (pfx c 9) = true), σ) := by
  have h9 : (9 : Int32).toInt = 9 := rfl
  intro m
  induction m with
  | zero =>
    intro n v e hn
    cases n with
    | zero => omega
    | succ n =>
      have ev : v = 9 := by omega
      subst ev
      rw [f_X10_makes_4, if_pos (by rw [lI, h9, iZt (by omega)]; omega), full_ok hk (pfx_ok c 9 (by omega))]
      unfold f_X10_makes_68
      by_cases q : (shrI (pfx c 9) 1 &&& (shlI 1 (iZ (k : Int)) - 1)) = shlI 1 (iZ (k : Int)) - 1
      · rw [if_pos q, bZ_t (decide_eq_true q)]; rfl
      · rw [if_neg q, bZ_f (by rw [decide_eq_true_eq]; exact q)]; rfl
  | succ m ih =>
    intro n v e hn
    cases n with
    | zero => omega
    | succ n =>
      obtain ⟨a1, a2⟩ := h (v + 1) (by omega) (by omega)
      rw [f_X10_makes_4, if_neg (by rw [lI, h9, iZt (by omega)]; omega)]
      have := s_makes_in h (f_X10_makes_4 n) (iZ (k : Int)) (pfx c v) (v + 1) (by omega) (by omega) (pfx_ok c v (by omega)) (c (v + 1)) FU 0 (by omega) (by unfold FU; omega)
      rw [show f_X10_makes_13 (f_X10_makes_4 n) FU (iZ (k : Int)) (pfx c v) (iZ ((v + 1 : Nat) : Int)) 0 σ = _ from this]
      exact ih n (v + 1) (by omega) (by omega)
theorem s_makes {c : Nat → Nat} {σ : St} (h : Row c σ) (k : Nat) (hk : k < 10) : f_X10_makes (iZ (k : Int)) σ = some (bZ (fullI k (pfx c 9) = true), σ) :=
  s_makes_go h k hk 9 FU 0 (by omega) (by unfold FU; omega)
def tl (c : Nat → Nat) : Nat → Nat → Nat
  | 0, _ => 0
  | m + 1, w => c w + tl c m (w + 1)
theorem s_tail_go {c : Nat → Nat} {σ : St} (h : Row c σ) : ∀ m n w a : Nat, w + m = 10 → 1 ≤ w → m < n → f_X10_tailFrom_4 n (iZ (a : Int)) (iZ (w : Int)) σ = some (iZ ((a + tl c m w : Nat) : Int), σ) := by
  have h9 : (9 : Int32).toInt = 9 := rfl
  intro m
  induction m with
  | zero =>
    intro n w a e hw hn
    cases n with
    | zero => omega
    | succ n => rw [f_X10_tailFrom_4, if_pos (by rw [lI, h9, iZt (by omega)]; omega)]; rfl
  | succ m ih =>
    intro n w a e hw hn
    cases n with
    | zero => omega
    | succ n =>
      obtain ⟨a1, a2⟩ := h w hw (by omega)
      rw [f_X10_tailFrom_4, if_neg (by rw [lI, h9, iZt (by omega)]; omega), gd_t (iZb (by omega) (by omega)), iZc (by omega), a1]
      unfold f_X10_tailFrom_19
      rw [iZa, iZs, ih n (w + 1) _ (by omega) (by omega) (by omega)]
      show _ = some (iZ ((a + (c w + tl c m (w + 1)) : Nat) : Int), σ)
      rw [Nat.add_assoc]
theorem s_tail {c : Nat → Nat} {σ : St} (h : Row c σ) {w : Nat} (hw : 1 ≤ w) (hw2 : w ≤ 9) : f_X10_tailFrom (iZ (w : Int)) σ = some (iZ (tl c (10 - w) w : Int), σ) := by
  have := s_tail_go h (10 - w) FU w 0 (by omega) hw (by unfold FU; omega)
  rw [Nat.zero_add] at this
  exact this
theorem tl_0 {c : Nat → Nat} : ∀ m w, (∀ j, w ≤ j → j < w + m → c j = 0) → tl c m w = 0 := by
  intro m
  induction m with
  | zero => intro w _; rfl
  | succ m ih =>
    intro w h
    show c w + tl c m (w + 1) = 0
    rw [h w (by omega) (by omega), ih (w + 1) (fun j a b => h j (by omega) (by omega))]
/-- how many ahead of a place -/
def hd (c : Nat → Nat) : Nat → Nat
  | 0 => 0
  | m + 1 => hd c m + c (m + 1)
theorem hd_cg {c d : Nat → Nat} : ∀ m, (∀ j, 1 ≤ j → j ≤ m → c j = d j) → hd c m = hd d m := by
  intro m
  induction m with
  | zero => intro _; rfl
  | succ m ih =>
    intro h
    show hd c m + c (m + 1) = hd d m + d (m + 1)
    rw [ih (fun j a b => h j a (by omega)), h (m + 1) (by omega) (by omega)]
def up (c : Nat → Nat) (w v : Nat) : Nat → Nat := fun j => if j = w then v else c j
/-- the first and the last row whose goats below w are c's -/
def frs (c : Nat → Nat) (w h : Nat) : Nat → Nat := fun j => if j < w then c j else if j = 9 then h else 0
def lst (c : Nat → Nat) (w h : Nat) : Nat → Nat := fun j => if j < w then c j else if j = w then h else 0
theorem s_n106 (v : Nat) : ∀ m n t : Nat, ∀ σ : St, t + m = 9 → 1 ≤ t → m < n → ∃ σ', f_X10_nextRow_106 n (iZ (v : Int)) (iZ (t : Int)) σ = some (1, σ') ∧ (∀ j, j < t → gI σ' 56 j = gI σ 56 j) ∧ (∀ j, t ≤ j → j < 9 → gI σ' 56 j = 0) ∧ gI σ' 56 9 = iZ (v : Int) := by
  have h8 : (8 : Int32).toInt = 8 := rfl
  intro m
  induction m with
  | zero =>
    intro n t σ e ht hn
    cases n with
    | zero => omega
    | succ n =>
      rw [f_X10_nextRow_106, if_pos (by rw [lI, h8, iZt (by omega)]; omega)]
      have e9 : (9 : Int32).toNatClampNeg = 9 := rfl
      rw [e9]
      exact ⟨_, rfl, fun j hj => g_sI_ne (by omega), fun j a b => by omega, g_sI_eq⟩
  | succ m ih =>
    intro n t σ e ht hn
    cases n with
    | zero => omega
    | succ n =>
      rw [f_X10_nextRow_106, if_neg (by rw [lI, h8, iZt (by omega)]; omega), gd_t (iZb (by omega) (by omega)), iZc (by omega), iZs]
      obtain ⟨σ', a1, a2, a3, a4⟩ := ih n (t + 1) (sI σ 56 t 0) (by omega) (by omega) (by omega)
      refine ⟨σ', a1, fun j hj => ?_, fun j b1 b2 => ?_, a4⟩
      · rw [a2 j (by omega), g_sI_ne (by omega)]
      · by_cases q : j = t
        · subst q; rw [a2 j (by omega), g_sI_eq]
        · exact a3 j (by omega) b2
theorem s_n52 {c : Nat → Nat} {t r : Nat} (ht : 1 ≤ t) (ht2 : t ≤ 8) : ∀ m n j : Nat, ∀ σ : St, Row c σ → j + 1 + m = t → m < n → ∃ σ', f_X10_nextRow_52 n (iZ (t : Int)) (iZ (hd c t + r + 1 : Int) - iZ (hd c j : Int)) (iZ ((j + 1 : Nat) : Int)) σ = some (1, σ') ∧ (∀ j, 1 ≤ j → j < t → gI σ' 56 j = iZ (c j : Int)) ∧ gI σ' 56 t = iZ ((c t + 1 : Nat) : Int) ∧ (∀ j, t < j → j < 9 → gI σ' 56 j = 0) ∧ gI σ' 56 9 = iZ (r : Int) := by
  intro m
  induction m with
  | zero =>
    intro n j σ h e hn
    cases n with
    | zero => omega
    | succ n =>
      have ej : t = j + 1 := by omega
      subst ej
      obtain ⟨a1, a2⟩ := h (j + 1) (by omega) (by omega)
      rw [f_X10_nextRow_52, if_pos (by rw [leI]; exact Int.le_refl _), gd_t (iZb (by omega) (by omega)), gd_t (iZb (by omega) (by omega)), gd_t (iZb (by omega) (by omega)), iZc (by omega), g_sI_eq, a1, iZs]
      unfold f_X10_nextRow_100
      have ev : iZ (hd c (j + 1) + r + 1 : Int) - iZ (hd c j : Int) - iZ ((c (j + 1) + 1 : Nat) : Int) = iZ (r : Int) := by
        rw [iZ_sub, iZ_sub]; congr 1
        show ((hd c j + c (j + 1) : Nat) : Int) + r + 1 - hd c j - ((c (j + 1) + 1 : Nat) : Int) = _
        omega
      rw [ev, iZs]
      obtain ⟨σ', b1, b2, b3, b4⟩ := s_n106 r (8 - (j + 1)) FU (j + 1 + 1) (sI σ 56 (j + 1) (iZ ((c (j + 1) + 1 : Nat) : Int))) (by omega) (by omega) (by unfold FU; omega)
      refine ⟨σ', b1, fun i i1 i2 => ?_, ?_, fun i i1 i2 => b3 i (by omega) i2, b4⟩
      · rw [b2 i (by omega), g_sI_ne (by omega)]; exact (h i i1 (by omega)).1
      · rw [b2 (j + 1) (by omega), g_sI_eq]
  | succ m ih =>
    intro n j σ h e hn
    cases n with
    | zero => omega
    | succ n =>
      obtain ⟨a1, a2⟩ := h (j + 1) (by omega) (by omega)
      rw [f_X10_nextRow_52, if_neg (by rw [leI, iZt (by omega), iZt (by omega)]; omega), gd_t (iZb (by omega) (by omega)), iZc (by omega), a1]
      unfold f_X10_nextRow_71
      have ev : iZ (hd c t + r + 1 : Int) - iZ (hd c j : Int) - iZ (c (j + 1) : Int) = iZ (hd c t + r + 1 : Int) - iZ (hd c (j + 1) : Int) := by
        rw [iZ_sub, iZ_sub, iZ_sub]; congr 1
        show (hd c t : Int) + r + 1 - hd c j - c (j + 1) = hd c t + r + 1 - ((hd c j + c (j + 1) : Nat) : Int)
        omega
      rw [ev, iZs]
      exact ih n (j + 1) σ h (by omega) (by omega)
