/-! MULTIPLY -/
theorem chX_go {tw : Nat → Int32} {ak : Nat → Nat → Int32} (hT : ∀ σ P w, CI σ P w → P + P < 10 ^ 9 → ∃ σ', f_X7_twice 5 σ = some σ' ∧ CI σ' (P + P) (w + tw P)) (hA : ∀ σ P n w, CI σ P w → P < 10 ^ 9 → n < 10 ^ 9 → P + n < 10 ^ 9 → ∃ σ', f_X7_bring_n 5 (iZ (n : Int)) 0 0 σ = some σ' ∧ CI σ' (P + n) (w + ak P n)) : ∀ (L : List (Option Nat)) {σ : St} {P : Nat} {w : Int32}, P < 10 ^ 9 → fits L P → CI σ P w → ∃ σ', chX L σ = some σ' ∧ CI σ' (resP L P) (resW tw ak L P w)
  | [], σ, P, w, _, _, h => ⟨σ, rfl, h⟩
  | none :: L, σ, P, w, hP, hf, h => by
    obtain ⟨f1, f2⟩ := fits_n hf
    obtain ⟨σ1, e1, h1⟩ := hT σ P w h f1
    obtain ⟨σ2, e2, h2⟩ := chX_go hT hA L f1 f2 h1
    rw [resP_n, resW_n]
    refine ⟨σ2, ?_, h2⟩
    show (f_X7_twice 5 σ).bind _ = _
    rw [bnd e1]; exact e2
  | some n :: L, σ, P, w, hP, hf, h => by
    obtain ⟨f1, f2⟩ := fits_s hf
    obtain ⟨σ1, e1, h1⟩ := hA σ P n w h hP (by omega) f1
    obtain ⟨σ2, e2, h2⟩ := chX_go hT hA L f1 f2 h1
    rw [resP_s, resW_s]
    refine ⟨σ2, ?_, h2⟩
    show (f_X7_bring_n 5 (iZ (n : Int)) 0 0 σ).bind _ = _
    rw [bnd e1]; exact e2
theorem len_s (c : Int32) (k : Nat) : c + iZ ((k + 1 : Nat) : Int) = c + 1 + iZ (k : Int) := by
  rw [← iZs, Int32.add_comm (iZ (k : Int)) 1, ← Int32.add_assoc]
theorem MI_c {σ : St} {P : Nat} {w c c' : Int32} (h : MI σ P w c) (e : c' = c) : MI σ P w c' := by rw [e]; exact h
theorem chY_go {tw : Nat → Int32} {ak : Nat → Nat → Int32} (hT : ∀ σ P w c, MI σ P w c → P + P < 10 ^ 9 → ∃ σ', f_X10_twice σ = some σ' ∧ MI σ' (P + P) (w + tw P) (c + 1)) (hA : ∀ (σ : St) (P n : Nat) (w c : Int32), MI σ P w c → P < 10 ^ 9 → n < 10 ^ 9 → ∃ σ', f_X10_addTo (jZ (n : Int)) σ = some σ' ∧ MI σ' (P + n) (w + ak P n) (c + 1)) : ∀ (L : List (Option Nat)) {σ : St} {P : Nat} {w c : Int32}, P < 10 ^ 9 → fits L P → MI σ P w c → ∃ σ', chY L σ = some σ' ∧ MI σ' (resP L P) (resW tw ak L P w) (c + iZ (L.length : Int))
  | [], σ, P, w, c, _, _, h => ⟨σ, rfl, MI_c h (Int32.add_zero c)⟩
  | none :: L, σ, P, w, c, hP, hf, h => by
    obtain ⟨f1, f2⟩ := fits_n hf
    obtain ⟨σ1, e1, h1⟩ := hT σ P w c h f1
    obtain ⟨σ2, e2, h2⟩ := chY_go hT hA L f1 f2 h1
    rw [resP_n, resW_n]
    refine ⟨σ2, ?_, MI_c h2 (len_s c L.length)⟩
    show (f_X10_twice σ).bind _ = _
    rw [bnd e1]; exact e2
  | some n :: L, σ, P, w, c, hP, hf, h => by
    obtain ⟨f1, f2⟩ := fits_s hf
    obtain ⟨σ1, e1, h1⟩ := hA σ P n w c h hP (by omega)
    obtain ⟨σ2, e2, h2⟩ := chY_go hT hA L f1 f2 h1
    rw [resP_s, resW_s]
    refine ⟨σ2, ?_, MI_c h2 (len_s c L.length)⟩
    show (f_X10_addTo (jZ (n : Int)) σ).bind _ = _
    rw [bnd e1]; exact e2
theorem chX_ok (L : List (Option Nat)) {σ : St} {P : Nat} {w : Int32} (hP : P < 10 ^ 9) (hf : fits L P) (h : CI σ P w) : ∃ σ', chX L σ = some σ' ∧ CI σ' (resP L P) (resW tw9 wk L P w) :=
  chX_go (tw := tw9) (ak := wk) (fun _ _ _ h1 h2 => c_twX h1 h2) (fun _ _ _ _ h1 h2 h3 h4 => c_addX h1 h2 h3 h4) L hP hf h
theorem chY_ok (L : List (Option Nat)) {σ : St} {P : Nat} {w c : Int32} (hP : P < 10 ^ 9) (hf : fits L P) (h : MI σ P w c) : ∃ σ', chY L σ = some σ' ∧ MI σ' (resP L P) (resW tw9 wk L P w) (c + iZ (L.length : Int)) :=
  chY_go (tw := tw9) (ak := wk) (fun _ _ _ _ h1 h2 => m_twX h1 h2) (fun _ _ _ _ _ h1 h2 h3 => m_addX h1 h2 h3) L hP hf h
theorem chX_fr : ∀ (L : List (Option Nat)) {σ σ' : St}, chX L σ = some σ' → frm [6, 8] [(5, 7), (5, 8), (5, 10), (5, 11)] σ σ'
  | [], σ, σ', h => by cases h; exact frm.rf _
  | none :: L, σ, σ', h => by
    obtain ⟨p, e1, e2⟩ := bind_sp (show (f_X7_twice 5 σ).bind (fun p => chX L p) = some σ' from h)
    exact (fr_X7_twice 5 e1).tr (chX_fr L e2)
  | some n :: L, σ, σ', h => by
    obtain ⟨p, e1, e2⟩ := bind_sp (show (f_X7_bring_n 5 (iZ (n : Int)) 0 0 σ).bind (fun p => chX L p) = some σ' from h)
    exact (fr_X7_bring_n 5 e1).tr (chX_fr L e2)
/-- by digits -/
def plc (w : Int32) (t : Nat) : Nat := if w = 0 then t else 3 - t
def mulL (a b : Nat) (w : Int32) : Nat → Nat → List (Option Nat)
  | 0, _ => []
  | m + 1, t => List.replicate (dgN b (plc w t)) (some (a * 10 ^ plc w t)) ++ mulL a b w m (t + 1)
theorem plc_lt {w : Int32} {t : Nat} (h : t < 4) : plc w t < 4 := by
  unfold plc; split <;> omega
theorem plc_iZ {w : Int32} {t : Nat} (h : t < 4) : (if w = 0 then iZ (t : Int) else 3 - iZ (t : Int)) = iZ (plc w t : Int) := by
  unfold plc
  by_cases c : w = 0
  · rw [if_pos c, if_pos c]
  · rw [if_neg c, if_neg c]
    have e : (3 : Int32) = iZ 3 := rfl
    rw [e, iZ_sub]; congr 1; omega
theorem p4 {k : Nat} (h : k < 4) : 10 ^ k ≤ 1000 := by
  have : 10 ^ k ≤ 10 ^ 3 := Nat.pow_le_pow_right (by omega) (by omega)
  have e : 10 ^ 3 = 1000 := by decide
  omega
theorem c_mul60 {a pl of : Nat} (ha : a ≤ 9999) (hp : pl < 4) (ho : of < 10) (x2 x3 x4 x5 : Int32) (K : Int32 → Int32 → Int32 → Int32 → Int32 → St → Option (Int32 × St)) : ∀ m n t : Nat, ∀ σ : St, t + m = of → m < n → f_X9_multiply_60 K n (iZ (a : Int)) x2 x3 x4 x5 (iZ (pl : Int)) (iZ (of : Int)) (iZ (t : Int)) σ = (chX (List.replicate m (some (a * 10 ^ pl))) σ).bind fun σ' => K (iZ (a : Int)) x2 x3 (x4 + iZ (of : Int)) (x5 + 1) σ' := by
  intro m
  induction m with
  | zero =>
    intro n t σ e hn
    cases n with
    | zero => omega
    | succ n =>
      rw [f_X9_multiply_60, if_pos (by rw [leI, iZt (by omega), iZt (by omega)]; omega)]
      rfl
  | succ m ih =>
    intro n t σ e hn
    cases n with
    | zero => omega
    | succ n =>
      have en : ((iZ (a : Int)).toInt64 * tens pl).toInt32 = iZ ((a * 10 ^ pl : Nat) : Int) := by
        rw [iZ_l (by omega) (by omega), tens_jZ (by omega), jpow, jZ_mul, jZ_i, Int.natCast_mul]
      rw [f_X9_multiply_60, if_neg (by rw [leI, iZt (by omega), iZt (by omega)]; omega), gd_t (iZb (show pl < 13 by omega) (by omega)), iZc (by omega), en, List.replicate_succ, iZs]
      show _ = ((f_X7_bring_n 5 (iZ ((a * 10 ^ pl : Nat) : Int)) 0 0 σ).bind fun p => chX (List.replicate m (some (a * 10 ^ pl))) p).bind _
      cases c : f_X7_bring_n 5 (iZ ((a * 10 ^ pl : Nat) : Int)) 0 0 σ with
      | none => rfl
      | some p => exact ih n (t + 1) p (by omega) (by omega)
theorem c_mul27 {a b : Nat} (ha : a ≤ 9999) (hb : b ≤ 9999) (w : Int32) : ∀ m n t : Nat, ∀ x4 : Int32, ∀ σ : St, t + m = 4 → m < n → f_X9_multiply_27 n (iZ (a : Int)) (iZ (b : Int)) w x4 (iZ (t : Int)) σ = (chX (mulL a b w m t) σ).bind fun σ' => some (x4 + iZ ((mulL a b w m t).length : Int), σ') := by
  have e18 : 10 ^ 18 = 1000000000000000000 := by decide
  have eb : (iZ (b : Int)).toInt64 = jZ (b : Int) := iZ_l (by omega) (by omega)
  intro m
  induction m with
  | zero =>
    intro n t x4 σ e hn
    cases n with
    | zero => omega
    | succ n =>
      rw [f_X9_multiply_27, if_pos (by rw [leI, iZt (by omega), t_4]; omega)]
      show _ = some (x4 + 0, σ)
      rw [Int32.add_zero]
  | succ m ih =>
    intro n t x4 σ e hn
    cases n with
    | zero => omega
    | succ n =>
      have hp := plc_iZ (w := w) (show t < 4 by omega)
      have hl := plc_lt (w := w) (show t < 4 by omega)
      have eq : (if w = 0 then f_X9_multiply_46 (f_X9_multiply_27 n) (iZ (a : Int)) (iZ (b : Int)) w x4 (iZ (t : Int)) (iZ (t : Int)) σ else f_X9_multiply_46 (f_X9_multiply_27 n) (iZ (a : Int)) (iZ (b : Int)) w x4 (iZ (t : Int)) (3 - iZ (t : Int)) σ) = f_X9_multiply_46 (f_X9_multiply_27 n) (iZ (a : Int)) (iZ (b : Int)) w x4 (iZ (t : Int)) (iZ (plc w t : Int)) σ := by
        rw [← hp]; split <;> rfl
      rw [f_X9_multiply_27, if_neg (by rw [leI, iZt (by omega), t_4]; omega), eq]
      unfold f_X9_multiply_46
      rw [eb, bnd (s_digitOf9 σ b (plc w t) (by omega) (by omega))]
      have hd : dgN b (plc w t) < 10 := Nat.mod_lt _ (by omega)
      have q := c_mul60 (pl := plc w t) (of := dgN b (plc w t)) ha hl hd (iZ (b : Int)) w x4 (iZ (t : Int)) (f_X9_multiply_27 n) (dgN b (plc w t)) FU 0 σ (by omega) (by unfold FU; omega)
      refine Eq.trans q ?_
      rw [mulL, chX_app, iZs]
      cases c : chX (List.replicate (dgN b (plc w t)) (some (a * 10 ^ plc w t))) σ with
      | none => rfl
      | some σ1 =>
        show f_X9_multiply_27 n (iZ (a : Int)) (iZ (b : Int)) w (x4 + iZ (dgN b (plc w t) : Int)) (iZ ((t + 1 : Nat) : Int)) σ1 = (chX (mulL a b w m (t + 1)) σ1).bind _
        rw [ih n (t + 1) _ σ1 (by omega) (by omega)]
        have el : x4 + iZ (dgN b (plc w t) : Int) + iZ ((mulL a b w m (t + 1)).length : Int) = x4 + iZ (((List.replicate (dgN b (plc w t)) (some (a * 10 ^ plc w t)) ++ mulL a b w m (t + 1)).length : Nat) : Int) := by
          rw [List.length_append, List.length_replicate, Int32.add_assoc, iZa]
        rw [el]
theorem m_mul96 {a pl : Nat} (ha : a ≤ 9999) (hp : pl < 4) (x2 x3 x4 : Int32) (K : Int32 → Int32 → Int32 → Int32 → St → Option St) : ∀ m n : Nat, ∀ σ : St, m < 10 → m < n → f_X10_multiply_96 K n (iZ (a : Int)) x2 x3 x4 (iZ (pl : Int)) (iZ (m : Int)) σ = (chY (List.replicate m (some (a * 10 ^ pl))) σ).bind fun σ' => K (iZ (a : Int)) x2 x3 (x4 + 1) σ' := by
  intro m
  induction m with
  | zero =>
    intro n σ _ hn
    cases n with
    | zero => omega
    | succ n =>
      rw [f_X10_multiply_96, if_pos (by rw [leI, iZt (by omega), t_0]; omega)]
      rfl
  | succ m ih =>
    intro n σ h10 hn
    cases n with
    | zero => omega
    | succ n =>
      have en : (iZ (a : Int)).toInt64 * jZ (10 ^ pl) = jZ ((a * 10 ^ pl : Nat) : Int) := by
        rw [iZ_l (by omega) (by omega), jpow, jZ_mul, Int.natCast_mul]
      rw [f_X10_multiply_96, if_neg (by rw [leI, iZt (by omega), t_0]; omega), bnd (s_ten σ pl (by omega))]
      show ((f_X10_addTo ((iZ (a : Int)).toInt64 * jZ (10 ^ pl)) σ).bind fun p3 => f_X10_multiply_96 K n (iZ (a : Int)) x2 x3 x4 (iZ (pl : Int)) (iZ ((m + 1 : Nat) : Int) + (-1)) p3) = _
      rw [en, List.replicate_succ, iZm1, iZq]
      show _ = ((f_X10_addTo (jZ ((a * 10 ^ pl : Nat) : Int)) σ).bind fun p => chY (List.replicate m (some (a * 10 ^ pl))) p).bind _
      cases c : f_X10_addTo (jZ ((a * 10 ^ pl : Nat) : Int)) σ with
      | none => rfl
      | some p => exact ih n p (by omega) (by omega)
theorem m_mul66 {a b : Nat} (ha : a ≤ 9999) (hb : b ≤ 9999) (w : Int32) : ∀ m n t : Nat, ∀ σ : St, t + m = 4 → m < n → f_X10_multiply_66 n (iZ (a : Int)) (iZ (b : Int)) w (iZ (t : Int)) σ = chY (mulL a b w m t) σ := by
  have e18 : 10 ^ 18 = 1000000000000000000 := by decide
  have eb : (iZ (b : Int)).toInt64 = jZ (b : Int) := iZ_l (by omega) (by omega)
  intro m
  induction m with
  | zero =>
    intro n t σ e hn
    cases n with
    | zero => omega
    | succ n =>
      rw [f_X10_multiply_66, if_pos (by rw [leI, iZt (by omega), t_4]; omega)]
      rfl
  | succ m ih =>
    intro n t σ e hn
    cases n with
    | zero => omega
    | succ n =>
      have hp := plc_iZ (w := w) (show t < 4 by omega)
      have hl := plc_lt (w := w) (show t < 4 by omega)
      have eq : (if w = 0 then f_X10_multiply_85 (f_X10_multiply_66 n) (iZ (a : Int)) (iZ (b : Int)) w (iZ (t : Int)) (iZ (t : Int)) σ else f_X10_multiply_85 (f_X10_multiply_66 n) (iZ (a : Int)) (iZ (b : Int)) w (iZ (t : Int)) (3 - iZ (t : Int)) σ) = f_X10_multiply_85 (f_X10_multiply_66 n) (iZ (a : Int)) (iZ (b : Int)) w (iZ (t : Int)) (iZ (plc w t : Int)) σ := by
        rw [← hp]; split <;> rfl
      rw [f_X10_multiply_66, if_neg (by rw [leI, iZt (by omega), t_4]; omega), eq]
      unfold f_X10_multiply_85
      rw [eb, bnd (s_digitOf10 σ b (plc w t) (by omega) (by omega))]
      have hd : dgN b (plc w t) < 10 := Nat.mod_lt _ (by omega)
      have q := m_mul96 (pl := plc w t) ha hl (iZ (b : Int)) w (iZ (t : Int)) (f_X10_multiply_66 n) (dgN b (plc w t)) FU σ hd (by unfold FU; omega)
      refine Eq.trans q ?_
      rw [mulL, chY_app, iZs]
      cases c : chY (List.replicate (dgN b (plc w t)) (some (a * 10 ^ plc w t))) σ with
      | none => rfl
      | some σ1 => exact ih n (t + 1) σ1 (by omega) (by omega)
