/-! SUMS: lists of acts -/
theorem mk_K {X : En} {n : Nat} (h : 72 ≤ n) : eK (mk X) n = eK X n := by
  show (bif Nat.blt n 72 then _ else eK X n) = _
  have e : Nat.blt n 72 = false := by
    cases c : Nat.blt n 72 with
    | false => rfl
    | true => have := Nat.blt_eq.mp c; omega
  rw [e]; rfl
theorem mk_L {X : En} {n : Nat} (h : 72 ≤ n) : eL (mk X) n = eL X n := by
  show (bif Nat.blt n 72 then _ else eL X n) = _
  have e : Nat.blt n 72 = false := by
    cases c : Nat.blt n 72 with
    | false => rfl
    | true => have := Nat.blt_eq.mp c; omega
  rw [e]; rfl
theorem mk_S {X : En} {n k : Nat} (h : 72 ≤ n) : eS (mk X) n k = eS X n k := by
  show (bif Nat.blt n 72 then _ else eS X n k) = _
  have e : Nat.blt n 72 = false := by
    cases c : Nat.blt n 72 with
    | false => rfl
    | true => have := Nat.blt_eq.mp c; omega
  rw [e]; rfl
theorem rk_t {X : En} {n k : Nat} (h : 72 ≤ n) (h2 : n < 1000000) (hk : eK X n = k) : rk (mk X) n k = true := by
  unfold rk
  rw [mk_K h, hk]
  simp [Nat.blt_eq.mpr h2]
theorem wrp {α : Type} {a b : Nat} {x : Option α} : gd (Nat.ble a a && Nat.ble b b) x = x := by
  rw [Nat.ble_eq_true_of_le (Nat.le_refl a), Nat.ble_eq_true_of_le (Nat.le_refl b)]; rfl
def isSm (X : En) (σ : St) (s n : Nat) (lt : Nat → Int32) (vl f : Nat → Nat) : Prop := 72 ≤ s ∧ s + 1 < 1000000 ∧ eK X s = 5 ∧ eK X (s + 1) = 20 ∧ eS X s 1 = some (s + 1) ∧ eL X (s + 1) = 3 * n ∧ n ≤ 12 ∧ gI σ s 0 = iZ (n : Int) ∧ ∀ i, i < n → gI σ (s + 1) (3 * i) = lt i ∧ gI σ (s + 1) (3 * i + 1) = iZ (vl i : Int) ∧ gI σ (s + 1) (3 * i + 2) = iZ (f i : Int)
def isMm (σ : St) (k n : Nat) (lt : Nat → Int32) (vl f : Nat → Nat) : Prop := n ≤ 12 ∧ gI σ 43 k = iZ (n : Int) ∧ ∀ i, i < n → gI σ 40 (12 * k + i) = lt i ∧ gI σ 41 (12 * k + i) = iZ (vl i : Int) ∧ gI σ 42 (12 * k + i) = iZ (f i : Int)
def okL (n : Nat) (lt : Nat → Int32) (vl f : Nat → Nat) : Prop := ∀ i, i < n → rg (lt i) 0 4 ∧ vl i < 10 ^ 9 ∧ 1 ≤ f i ∧ f i ≤ 9
def hi72 (σ σ' : St) : Prop := ∀ a b, 72 ≤ a → gI σ' a b = gI σ a b ∧ gJ σ' a b = gJ σ a b ∧ gR σ' a b = gR σ a b
theorem frm.h72 {W : List Nat} {F : List (Nat × Nat)} {σ σ' : St} (h : frm W F σ σ') (hw : W.all (fun a => Nat.blt a 72) = true) (hf : F.all (fun p => Nat.blt p.1 72) = true) : hi72 σ σ' := by
  intro a b ha
  rw [List.all_eq_true] at hw hf
  refine h a b (fun c => ?_) (fun c => ?_)
  · have := Nat.blt_eq.mp (hw a c); omega
  · have := Nat.blt_eq.mp (hf (a, b) c)
    simp only at this; omega
theorem hi72.tr {σ σ1 σ2 : St} (h : hi72 σ σ1) (h2 : hi72 σ1 σ2) : hi72 σ σ2 := fun a b ha => ⟨(h2 a b ha).1.trans (h a b ha).1, (h2 a b ha).2.1.trans (h a b ha).2.1, (h2 a b ha).2.2.trans (h a b ha).2.2⟩
theorem isSm.to {X : En} {σ σ' : St} {s n : Nat} {lt : Nat → Int32} {vl f : Nat → Nat} (h : isSm X σ s n lt vl f) (q : hi72 σ σ') : isSm X σ' s n lt vl f := by
  obtain ⟨h1, h2, h3, h4, h5, h6, h7, h8, h9⟩ := h
  refine ⟨h1, h2, h3, h4, h5, h6, h7, ?_, fun i hi => ?_⟩
  · rw [(q s 0 h1).1]; exact h8
  · rw [(q (s + 1) _ (by omega)).1, (q (s + 1) _ (by omega)).1, (q (s + 1) _ (by omega)).1]; exact h9 i hi
theorem isMm.to {σ σ' : St} {k n : Nat} {lt : Nat → Int32} {vl f : Nat → Nat} (h : isMm σ k n lt vl f) (q : sameOn [40, 41, 42, 43] [] σ σ') : isMm σ' k n lt vl f := by
  unfold isMm at *
  rw [q.cI 40, q.cI 41, q.cI 42, q.cI 43]
  exact h
theorem three_i (i c : Nat) (x : Int32) (hx : x = iZ (c : Int)) : iZ (i : Int) * 3 + x = iZ ((3 * i + c : Nat) : Int) := by
  have h : (3 : Int32) = iZ 3 := rfl
  rw [hx, h, iZ_mul, iZ_add]; congr 1; omega
theorem s_part {X : En} {σ : St} {s n : Nat} {lt : Nat → Int32} {vl f : Nat → Nat} (h : isSm X σ s n lt vl f) (i c : Nat) (hi : i < n) (hc : c < 3) (x : Int32) (hx : x = iZ (c : Int)) : g_X4_part s (iZ (i : Int)) x X σ = some (gI σ (s + 1) (3 * i + c), X, σ) := by
  obtain ⟨h1, h2, h3, h4, h5, h6, h7, h8, h9⟩ := h
  unfold g_X4_part g_X4_part_b
  rw [gd_t (rk_t h1 (by omega) h3), mk_S h1, h5]
  simp only [Option.bind_some]
  rw [gd_t (rk_t (by omega) h2 h4), three_i i c x hx, mk_L (by omega), h6, gd_t (iZb (show 3 * i + c < 3 * n by omega) (by omega)), iZc (by omega)]
  simp only [Option.bind_some]
  rw [wrp]
def chC : List (Int32 × Nat) → St → Option St
  | [], σ => some σ
  | a :: L, σ => (f_X9_actOnce a.1 (iZ (a.2 : Int)) σ).bind fun p => chC L p.2
def chP : List (Int32 × Nat) → St → Option St
  | [], σ => some σ
  | a :: L, σ => (f_X9_perform_n 5 a.1 (iZ (a.2 : Int)) σ).bind fun p => chP L p
def chM : List (Int32 × Nat) → St → Option St
  | [], σ => some σ
  | a :: L, σ => (mAct a.1 a.2 σ).bind fun p => chM L p
theorem chC_app : ∀ (L M : List (Int32 × Nat)) (σ : St), chC (L ++ M) σ = (chC L σ).bind (chC M)
  | [], M, σ => rfl
  | a :: L, M, σ => by
    show (f_X9_actOnce a.1 (iZ (a.2 : Int)) σ).bind (fun p => chC (L ++ M) p.2) = ((f_X9_actOnce a.1 (iZ (a.2 : Int)) σ).bind fun p => chC L p.2).bind (chC M)
    cases f_X9_actOnce a.1 (iZ (a.2 : Int)) σ with
    | none => rfl
    | some p => exact chC_app L M p.2
theorem chP_app : ∀ (L M : List (Int32 × Nat)) (σ : St), chP (L ++ M) σ = (chP L σ).bind (chP M)
  | [], M, σ => rfl
  | a :: L, M, σ => by
    show (f_X9_perform_n 5 a.1 (iZ (a.2 : Int)) σ).bind (fun p => chP (L ++ M) p) = ((f_X9_perform_n 5 a.1 (iZ (a.2 : Int)) σ).bind fun p => chP L p).bind (chP M)
    cases f_X9_perform_n 5 a.1 (iZ (a.2 : Int)) σ with
    | none => rfl
    | some p => exact chP_app L M p
theorem chM_app : ∀ (L M : List (Int32 × Nat)) (σ : St), chM (L ++ M) σ = (chM L σ).bind (chM M)
  | [], M, σ => rfl
  | a :: L, M, σ => by
    show (mAct a.1 a.2 σ).bind (fun p => chM (L ++ M) p) = ((mAct a.1 a.2 σ).bind fun p => chM L p).bind (chM M)
    cases mAct a.1 a.2 σ with
    | none => rfl
    | some p => exact chM_app L M p
theorem chC_fr : ∀ (L : List (Int32 × Nat)) {σ σ' : St}, chC L σ = some σ' → frm [2, 4, 10] [(0, 13), (1, 6), (1, 7), (1, 8), (1, 9), (1, 10), (1, 11), (1, 12), (9, 1), (9, 2)] σ σ'
  | [], σ, σ', h => by cases h; exact frm.rf _
  | a :: L, σ, σ', h => by
    obtain ⟨p, e1, e2⟩ := bind_sp h
    exact (fr_X9_actOnce e1).tr (chC_fr L e2)
theorem chP_fr : ∀ (L : List (Int32 × Nat)) {σ σ' : St}, chP L σ = some σ' → frm [6, 8] [(5, 7), (5, 8), (5, 9), (5, 10), (5, 11), (5, 12)] σ σ'
  | [], σ, σ', h => by cases h; exact frm.rf _
  | a :: L, σ, σ', h => by
    obtain ⟨p, e1, e2⟩ := bind_sp h
    exact (fr_X9_perform_n 5 e1).tr (chP_fr L e2)
theorem chM_fr : ∀ (L : List (Int32 × Nat)) {σ σ' : St}, chM L σ = some σ' → frm [46, 47, 48, 49, 50] [(38, 18), (38, 27), (38, 28)] σ σ'
  | [], σ, σ', h => by cases h; exact frm.rf _
  | a :: L, σ, σ', h => by
    obtain ⟨p, e1, e2⟩ := bind_sp h
    exact (mAct_fr e1).tr (chM_fr L e2)
def sumL (lt : Nat → Int32) (vl f : Nat → Nat) : Nat → Nat → List (Int32 × Nat)
  | 0, _ => []
  | m + 1, i => List.replicate (f i) (lt i, vl i) ++ sumL lt vl f m (i + 1)
theorem c_run25 {X : En} {s n : Nat} {lt : Nat → Int32} {vl f : Nat → Nat} (ok : okL n lt vl f) (i : Nat) (hi : i < n) (K : Nat → Int32 → En → St → Option (Int32 × En × St)) : ∀ m n' t : Nat, ∀ σ : St, t + m = f i → m < n' → isSm X σ s n lt vl f → g_X9_run_25 K n' s (iZ (i : Int)) (iZ (t : Int)) X σ = (chC (List.replicate m (lt i, vl i)) σ).bind fun σ' => K s (iZ (i : Int) + 1) X σ' := by
  obtain ⟨o1, o2, o3, o4⟩ := ok i hi
  intro m
  induction m with
  | zero =>
    intro n' t σ e hn h
    cases n' with
    | zero => omega
    | succ n' =>
      have hk := rk_t (X := X) h.1 (by have := h.2.1; omega) h.2.2.1
      rw [g_X9_run_25, gd_t hk, s_part h i 2 hi (by omega) 2 rfl]
      simp only [Option.bind_some, gd_t hk]
      rw [(h.2.2.2.2.2.2.2.2 i hi).2.2, if_pos (by rw [leI, iZt (by omega), iZt (by omega)]; omega)]
      rfl
  | succ m ih =>
    intro n' t σ e hn h
    cases n' with
    | zero => omega
    | succ n' =>
      have hk := rk_t (X := X) h.1 (by have := h.2.1; omega) h.2.2.1
      rw [g_X9_run_25, gd_t hk, s_part h i 2 hi (by omega) 2 rfl]
      simp only [Option.bind_some, gd_t hk]
      rw [(h.2.2.2.2.2.2.2.2 i hi).2.2, if_neg (by rw [leI, iZt (by omega), iZt (by omega)]; omega), s_part h i 0 hi (by omega) 0 rfl]
      simp only [Option.bind_some, gd_t hk]
      rw [s_part h i 1 hi (by omega) 1 rfl]
      simp only [Option.bind_some, gd_t hk]
      rw [Nat.add_zero (3 * i), (h.2.2.2.2.2.2.2.2 i hi).1, (h.2.2.2.2.2.2.2.2 i hi).2.1, List.replicate_succ, iZs t]
      show _ = ((f_X9_actOnce (lt i) (iZ (vl i : Int)) σ).bind fun p => chC (List.replicate m (lt i, vl i)) p.2).bind _
      cases c : f_X9_actOnce (lt i) (iZ (vl i : Int)) σ with
      | none => rfl
      | some p => exact ih n' (t + 1) p.2 (by omega) (by omega) (h.to ((fr_X9_actOnce c).h72 rfl rfl))
theorem c_run14 {X : En} {s n : Nat} {lt : Nat → Int32} {vl f : Nat → Nat} (ok : okL n lt vl f) : ∀ m n' i : Nat, ∀ σ : St, i + m = n → m < n' → isSm X σ s n lt vl f → g_X9_run_14 n' s (iZ (i : Int)) X σ = (chC (sumL lt vl f m i) σ).bind fun σ' => some (gI σ' 0 13, X, σ') := by
  intro m
  induction m with
  | zero =>
    intro n' i σ e hn h
    have h7 := h.2.2.2.2.2.2.1
    cases n' with
    | zero => omega
    | succ n' =>
      have hk := rk_t (X := X) h.1 (by have := h.2.1; omega) h.2.2.1
      rw [g_X9_run_14, gd_t hk, h.2.2.2.2.2.2.2.1, if_pos (by rw [leI, iZt (by omega), iZt (by omega)]; omega)]
      rfl
  | succ m ih =>
    intro n' i σ e hn h
    have h7 := h.2.2.2.2.2.2.1
    cases n' with
    | zero => omega
    | succ n' =>
      obtain ⟨o1, o2, o3, o4⟩ := ok i (by omega)
      have hk := rk_t (X := X) h.1 (by have := h.2.1; omega) h.2.2.1
      rw [g_X9_run_14, gd_t hk, h.2.2.2.2.2.2.2.1, if_neg (by rw [leI, iZt (by omega), iZt (by omega)]; omega)]
      have q := c_run25 ok i (by omega) (g_X9_run_14 n') (f i) FU 0 σ (by omega) (by unfold FU; omega) h
      refine Eq.trans q ?_
      rw [sumL, chC_app, iZs]
      cases c : chC (List.replicate (f i) (lt i, vl i)) σ with
      | none => rfl
      | some σ1 => exact ih n' (i + 1) σ1 (by omega) (by omega) (h.to ((chC_fr _ c).h72 rfl rfl))
theorem c_go12 {X : En} {s n : Nat} {lt : Nat → Int32} {vl f : Nat → Nat} (ok : okL n lt vl f) (i : Nat) (hi : i < n) (K : Int32 → En → St → Option (En × St)) : ∀ m n' t : Nat, ∀ σ : St, t + m = f i → m < n' → isSm X σ s n lt vl f → g_X9_goThrough_12 s K n' (iZ (i : Int)) (iZ (t : Int)) X σ = (chP (List.replicate m (lt i, vl i)) σ).bind fun σ' => K (iZ (i : Int) + 1) X σ' := by
  obtain ⟨o1, o2, o3, o4⟩ := ok i hi
  intro m
  induction m with
  | zero =>
    intro n' t σ e hn h
    cases n' with
    | zero => omega
    | succ n' =>
      have hk := rk_t (X := X) h.1 (by have := h.2.1; omega) h.2.2.1
      rw [g_X9_goThrough_12, gd_t hk, s_part h i 2 hi (by omega) 2 rfl]
      simp only [Option.bind_some, gd_t hk]
      rw [(h.2.2.2.2.2.2.2.2 i hi).2.2, if_pos (by rw [leI, iZt (by omega), iZt (by omega)]; omega)]
      rfl
  | succ m ih =>
    intro n' t σ e hn h
    cases n' with
    | zero => omega
    | succ n' =>
      have hk := rk_t (X := X) h.1 (by have := h.2.1; omega) h.2.2.1
      rw [g_X9_goThrough_12, gd_t hk, s_part h i 2 hi (by omega) 2 rfl]
      simp only [Option.bind_some, gd_t hk]
      rw [(h.2.2.2.2.2.2.2.2 i hi).2.2, if_neg (by rw [leI, iZt (by omega), iZt (by omega)]; omega), s_part h i 0 hi (by omega) 0 rfl]
      simp only [Option.bind_some, gd_t hk]
      rw [s_part h i 1 hi (by omega) 1 rfl]
      simp only [Option.bind_some, gd_t hk]
      rw [Nat.add_zero (3 * i), (h.2.2.2.2.2.2.2.2 i hi).1, (h.2.2.2.2.2.2.2.2 i hi).2.1, List.replicate_succ, iZs t]
      show _ = ((f_X9_perform_n 5 (lt i) (iZ (vl i : Int)) σ).bind fun p => chP (List.replicate m (lt i, vl i)) p).bind _
      cases c : f_X9_perform_n 5 (lt i) (iZ (vl i : Int)) σ with
      | none => rfl
      | some p => exact ih n' (t + 1) p (by omega) (by omega) (h.to ((fr_X9_perform_n 5 c).h72 rfl rfl))
theorem c_go2 {X : En} {s n : Nat} {lt : Nat → Int32} {vl f : Nat → Nat} (ok : okL n lt vl f) : ∀ m n' i : Nat, ∀ σ : St, i + m = n → m < n' → isSm X σ s n lt vl f → g_X9_goThrough_2 s n' (iZ (i : Int)) X σ = (chP (sumL lt vl f m i) σ).bind fun σ' => some (X, σ') := by
  intro m
  induction m with
  | zero =>
    intro n' i σ e hn h
    have h7 := h.2.2.2.2.2.2.1
    cases n' with
    | zero => omega
    | succ n' =>
      have hk := rk_t (X := X) h.1 (by have := h.2.1; omega) h.2.2.1
      rw [g_X9_goThrough_2, gd_t hk, h.2.2.2.2.2.2.2.1, if_pos (by rw [leI, iZt (by omega), iZt (by omega)]; omega)]
      rfl
  | succ m ih =>
    intro n' i σ e hn h
    have h7 := h.2.2.2.2.2.2.1
    cases n' with
    | zero => omega
    | succ n' =>
      obtain ⟨o1, o2, o3, o4⟩ := ok i (by omega)
      have hk := rk_t (X := X) h.1 (by have := h.2.1; omega) h.2.2.1
      rw [g_X9_goThrough_2, gd_t hk, h.2.2.2.2.2.2.2.1, if_neg (by rw [leI, iZt (by omega), iZt (by omega)]; omega)]
      have q := c_go12 ok i (by omega) (g_X9_goThrough_2 s n') (f i) FU 0 σ (by omega) (by unfold FU; omega) h
      refine Eq.trans q ?_
      rw [sumL, chP_app, iZs]
      cases c : chP (List.replicate (f i) (lt i, vl i)) σ with
      | none => rfl
      | some σ1 => exact ih n' (i + 1) σ1 (by omega) (by omega) (h.to ((chP_fr _ c).h72 rfl rfl))
theorem c_goThrough {X : En} {s n : Nat} {lt : Nat → Int32} {vl f : Nat → Nat} (ok : okL n lt vl f) {σ σ' : St} (h : isSm X σ s n lt vl f) (e : chP (sumL lt vl f n 0) σ = some σ') : g_X9_goThrough s X σ = some (X, σ') := by
  have h7 := h.2.2.2.2.2.2.1
  unfold g_X9_goThrough g_X9_goThrough_b
  have hk := rk_t (X := X) h.1 (by have := h.2.1; omega) h.2.2.1
  have q := c_go2 ok n FU 0 σ (by omega) (by unfold FU; omega) h
  rw [e] at q
  have q' : g_X9_goThrough_2 s FU 0 X σ = some (X, σ') := q
  rw [gd_t hk, q']
  simp only [Option.bind_some]
  rw [wrp]
theorem m_run22 {k n : Nat} (hk6 : k < 7) {lt : Nat → Int32} {vl f : Nat → Nat} (ok : okL n lt vl f) (i : Nat) (hi : i < n) (hn12 : n ≤ 12) (x1 : Int32) (K : Int32 → Int32 → St → Option St) : ∀ m n' t : Nat, ∀ σ : St, t + m = f i → m < n' → isMm σ k n lt vl f → f_X10_runOf_22 K n' x1 (iZ ((12 * k + i : Nat) : Int)) (iZ (t : Int)) σ = (chM (List.replicate m (lt i, vl i)) σ).bind fun σ' => K x1 (iZ ((12 * k + i : Nat) : Int) + 1) σ' := by
  obtain ⟨o1, o2, o3, o4⟩ := ok i hi
  have b := iZb (show 12 * k + i < 84 by omega) (show 84 < 2147483648 by omega)
  intro m
  induction m with
  | zero =>
    intro n' t σ e hn h
    cases n' with
    | zero => omega
    | succ n' =>
      rw [f_X10_runOf_22, gd_t b, iZc (by omega), (h.2.2 i hi).2.2, if_pos (by rw [leI, iZt (by omega), iZt (by omega)]; omega)]
      rfl
  | succ m ih =>
    intro n' t σ e hn h
    cases n' with
    | zero => omega
    | succ n' =>
      rw [f_X10_runOf_22]
      simp only [gd_t b, iZc (show 12 * k + i < 2147483648 by omega)]
      rw [(h.2.2 i hi).2.2, (h.2.2 i hi).1, (h.2.2 i hi).2.1, if_neg (by rw [leI, iZt (by omega), iZt (by omega)]; omega), List.replicate_succ]
      unfold f_X10_runOf_63 f_X10_runOf_79
      rw [iZs t]
      show _ = ((mAct (lt i) (vl i) σ).bind fun p => chM (List.replicate m (lt i, vl i)) p).bind _
      have hm : (if (2 : Int32) ≤ lt i then (f_X10_actOf (lt i) σ).bind (fun p1 => f_X10_runOf_22 K n' x1 (iZ ((12 * k + i : Nat) : Int)) (iZ ((t + 1 : Nat) : Int)) p1) else if lt i = 0 then (f_X10_addOf (iZ (vl i : Int)) 1 σ).bind (fun p2 => f_X10_runOf_22 K n' x1 (iZ ((12 * k + i : Nat) : Int)) (iZ ((t + 1 : Nat) : Int)) p2) else (f_X10_addOf (iZ (vl i : Int)) (-1) σ).bind (fun p2 => f_X10_runOf_22 K n' x1 (iZ ((12 * k + i : Nat) : Int)) (iZ ((t + 1 : Nat) : Int)) p2)) = (mAct (lt i) (vl i) σ).bind (fun p => f_X10_runOf_22 K n' x1 (iZ ((12 * k + i : Nat) : Int)) (iZ ((t + 1 : Nat) : Int)) p) := by
        unfold mAct rg at *
        by_cases c2 : (2 : Int32) ≤ lt i
        · rw [if_pos c2]
          rw [leI, t_2] at c2
          rw [if_neg (by rw [eI, t_0]; omega), if_neg (by rw [eI, t_1]; omega)]
        · rw [if_neg c2]
          by_cases c0 : lt i = 0
          · rw [if_pos c0, if_pos c0]
          · rw [if_neg c0, if_neg c0]
            rw [leI, t_2] at c2
            rw [eI, t_0] at c0
            rw [if_pos (by rw [eI, t_1]; omega)]
      refine Eq.trans hm ?_
      cases c : mAct (lt i) (vl i) σ with
      | none => rfl
      | some p => exact ih n' (t + 1) p (by omega) (by omega) (h.to ((mAct_fr c).same rfl))
theorem m_run5 {k n : Nat} (hk6 : k < 7) {lt : Nat → Int32} {vl f : Nat → Nat} (ok : okL n lt vl f) : ∀ m n' i : Nat, ∀ σ : St, i + m = n → m < n' → isMm σ k n lt vl f → f_X10_runOf_5 n' (iZ (k : Int)) (iZ ((12 * k + i : Nat) : Int)) σ = chM (sumL lt vl f m i) σ := by
  have tw : (12 : Int32) * iZ (k : Int) = iZ ((12 * k : Nat) : Int) := iZm 12 k
  intro m
  induction m with
  | zero =>
    intro n' i σ e hn h
    have h7 := h.1
    cases n' with
    | zero => omega
    | succ n' =>
      rw [f_X10_runOf_5, gd_t (iZb hk6 (by omega)), iZc (by omega), h.2.1, tw, iZa, if_pos (by rw [leI, iZt (by omega), iZt (by omega)]; omega)]
      rfl
  | succ m ih =>
    intro n' i σ e hn h
    have h7 := h.1
    cases n' with
    | zero => omega
    | succ n' =>
      obtain ⟨o1, o2, o3, o4⟩ := ok i (by omega)
      rw [f_X10_runOf_5, gd_t (iZb hk6 (by omega)), iZc (by omega), h.2.1, tw, iZa, if_neg (by rw [leI, iZt (by omega), iZt (by omega)]; omega)]
      have q := m_run22 hk6 ok i (by omega) h7 (iZ (k : Int)) (f_X10_runOf_5 n') (f i) FU 0 σ (by omega) (by unfold FU; omega) h
      refine Eq.trans q ?_
      rw [sumL, chM_app, iZs]
      cases c : chM (List.replicate (f i) (lt i, vl i)) σ with
      | none => rfl
      | some σ1 => exact ih n' (i + 1) σ1 (by omega) (by omega) (h.to ((chM_fr _ c).same rfl))
theorem m_runOf {k n : Nat} (hk6 : k < 7) {lt : Nat → Int32} {vl f : Nat → Nat} (ok : okL n lt vl f) {σ : St} (h : isMm σ k n lt vl f) : f_X10_runOf (iZ (k : Int)) σ = chM (sumL lt vl f n 0) σ := by
  unfold f_X10_runOf
  have h7 := h.1
  have tw : (12 : Int32) * iZ (k : Int) = iZ ((12 * k + 0 : Nat) : Int) := iZm 12 k
  rw [tw]
  exact m_run5 hk6 ok n FU 0 σ (by omega) (by unfold FU; omega) h
theorem sumL_ok {n : Nat} {lt : Nat → Int32} {vl f : Nat → Nat} (ok : okL n lt vl f) : ∀ m i : Nat, i + m ≤ n → ∀ a ∈ sumL lt vl f m i, a.2 < 10 ^ 9
  | 0, i, _, a, ha => by cases ha
  | m + 1, i, h, a, ha => by
    rw [sumL, List.mem_append] at ha
    rcases ha with ha | ha
    · rw [List.eq_of_mem_replicate ha]; exact (ok i (by omega)).2.1
    · exact sumL_ok ok m (i + 1) (by omega) a ha
theorem ch_pair : ∀ (L : List (Int32 × Nat)), (∀ a ∈ L, a.2 < 10 ^ 9) → ∀ {σ τ : St}, Act2 σ τ → ∃ σ' τ', chC L σ = some σ' ∧ chM L τ = some τ' ∧ Act2 σ' τ'
  | [], _, σ, τ, h => ⟨σ, τ, rfl, rfl, h⟩
  | a :: L, hl, σ, τ, h => by
    obtain ⟨σ1, τ1, e1, e2, h1⟩ := s_act2 h a.1 a.2 (hl a (List.mem_cons_self ..))
    obtain ⟨σ2, τ2, e3, e4, h2⟩ := ch_pair L (fun b hb => hl b (List.mem_cons_of_mem _ hb)) h1
    refine ⟨σ2, τ2, ?_, ?_, h2⟩
    · show (f_X9_actOnce a.1 (iZ (a.2 : Int)) σ).bind _ = _
      rw [e1]; exact e3
    · show (mAct a.1 a.2 τ).bind _ = _
      rw [e2]; exact e4
def Rsum (X : En) (σ : St) : Prop := gI σ 38 10 = gI σ 0 7 ∧ rg (gI σ 0 7) 0 6 ∧ ∀ k : Nat, (k : Int) < (gI σ 0 7).toInt → ∃ s n lt vl f, gR σ 14 k = some s ∧ s + 1 < eZ X ∧ isSm X σ s n lt vl f ∧ isMm σ k n lt vl f ∧ okL n lt vl f
abbrev Csum : List Nat := [14, 40, 41, 42, 43]
abbrev Gsum : List (Nat × Nat) := [(0, 7), (38, 10)]
theorem Rsum.to {X : En} {σ σ' : St} (h : Rsum X σ) (q : sameOn Csum Gsum σ σ') (q2 : hi72 σ σ') : Rsum X σ' := by
  obtain ⟨h1, h2, h3⟩ := h
  refine ⟨?_, ?_, ?_⟩
  · rw [q.I 38 10, q.I 0 7]; exact h1
  · rw [q.I 0 7]; exact h2
  · rw [q.I 0 7]
    intro k hk
    obtain ⟨s, n, lt, vl, f, a1, a2, a3, a4, a5⟩ := h3 k hk
    refine ⟨s, n, lt, vl, f, ?_, a2, a3.to q2, a4.to ⟨fun c hc => ?_, fun g hg => by cases hg⟩, a5⟩
    · rw [q.cR 14]; exact a1
    · refine q.1 c ?_
      simp only [List.mem_cons, List.not_mem_nil, or_false] at hc ⊢
      omega
theorem s_sumAt {X : En} {σ : St} (x : Int32) (h : Rsum X σ) : g_X9_sumAt x X σ = some (if 0 ≤ x.toInt ∧ x.toInt < (gI σ 0 7).toInt then gR σ 14 x.toInt.toNat else none, X, σ) := by
  obtain ⟨h1, ⟨h2, h3⟩, _⟩ := h
  unfold g_X9_sumAt g_X9_sumAt_b g_X9_sumAt_21 g_X9_sumAt_22
  simp only [lI, leI, t_0]
  by_cases c1 : x.toInt < 0
  · rw [if_pos c1, if_neg (by omega)]
    simp only [Option.bind_some]
    rw [wrp]
  · rw [if_neg c1]
    by_cases c2 : (gI σ 0 7).toInt ≤ x.toInt
    · rw [if_pos c2, if_neg (by omega)]
      simp only [Option.bind_some]
      rw [wrp]
    · rw [if_neg c2, if_pos (by omega), gd_t (inb_i (by omega) (by omega))]
      simp only [Option.bind_some]
      rw [wrp]
      rfl
theorem s_isSum {X : En} {σ : St} (x : Int32) (h1 : gI σ 38 10 = gI σ 0 7) (h2 : rg (gI σ 0 7) 0 6) : f_X10_isSum x σ = some (bZ (0 ≤ x.toInt ∧ x.toInt < (gI σ 0 7).toInt), σ) := by
  unfold f_X10_isSum
  obtain ⟨h2, h3⟩ := h2
  rw [s_in, h1, t64, t64, l_0, tsub (by rw [t_1]; omega) (by rw [t_1]; omega), t_1]
  simp only [Option.bind_some]
  have hb : ∀ p : Prop, ∀ [Decidable p], isbb (bZ p) = true := by
    intro p _
    unfold bZ
    by_cases hp : p <;> simp [hp, isbb]
  rw [gd_t (hb _)]
  congr 2
  unfold bZ
  congr 1
  exact propext (by omega)
theorem m_run {X : En} {σ : St} (x : Int32) (hs : Rsum X σ) (h : Act2 σ σ) : ∃ r σ1 σ2, g_X9_run x X σ = some (r, X, σ1) ∧ f_X10_run x σ1 = some (r, σ2) ∧ Act2 σ2 σ2 ∧ frm [2, 4, 10, 46, 47, 48, 49, 50] [(0, 13), (1, 6), (1, 7), (1, 8), (1, 9), (1, 10), (1, 11), (1, 12), (9, 1), (9, 2), (38, 18), (38, 27), (38, 28)] σ σ2 := by
  unfold g_X9_run g_X9_run_b f_X10_run
  rw [s_sumAt x hs]
  simp only [Option.bind_some, n_18]
  by_cases c : 0 ≤ x.toInt ∧ x.toInt < (gI σ 0 7).toInt
  · obtain ⟨h6a, h6b⟩ := hs.2.1
    obtain ⟨s, n, lt, vl, f, a1, a2, a3, a4, a5⟩ := hs.2.2 x.toInt.toNat (by omega)
    have ex := iZof c.1
    rw [if_pos c, a1]
    have hl := sumL_ok a5 n 0 (by omega)
    obtain ⟨σ1, _, e1, _, _⟩ := ch_pair _ hl h
    have f1 := chC_fr _ e1
    obtain ⟨σ1', σ2, e2, e3, h2⟩ := ch_pair _ hl (h.toR (f1.same (C := C2M) (G := G2M) rfl))
    have e4 : σ1' = σ1 := by
      have := e1.symm.trans e2
      injection this with this
      exact this.symm
    subst e4
    have f2 := chM_fr _ e3
    have q := c_run14 a5 n FU 0 σ (by omega) (by unfold FU; have := a3.2.2.2.2.2.2.1; omega) a3
    rw [e1] at q
    have q' : g_X9_run_14 FU s 0 X σ = some (gI σ1' 0 13, X, σ1') := q
    have hk := rk_t (X := X) a3.1 (by have := a3.2.1; omega) a3.2.2.1
    refine ⟨gI σ1' 0 13, σ1', σ2, ?_, ?_, h2.toL (f2.same (C := C2C) (G := G2C) rfl), (f1.mo (by decide) (by decide)).tr (f2.mo (by decide) (by decide))⟩
    · show ((gd _ (g_X9_run_14 FU s 0 X σ)).bind _) = _
      rw [gd_t hk, q']
      simp only [Option.bind_some]
      rw [wrp]
    · have q3 := f1.same (C := []) (G := [(38, 10), (0, 7)]) rfl
      rw [s_isSum (X := X) x (by rw [q3.I 38 10, q3.I 0 7]; exact hs.1) (by rw [q3.I 0 7]; exact hs.2.1), q3.I 0 7]
      simp only [Option.bind_some, bZ_0, if_neg (not_not_intro c)]
      have hM := a4.to (f1.same (C := [40, 41, 42, 43]) (G := []) rfl)
      have e5 : f_X10_runOf x σ1' = some σ2 := by
        rw [ex, m_runOf (by omega) a5 hM]; exact e3
      rw [e5]
      simp only [Option.bind_some]
      rw [h2.2.2.1.2]
  · rw [if_neg c]
    refine ⟨-1, σ, σ, ?_, ?_, h, frm.rf _⟩
    · show ((some (-1, X, σ)).bind _) = _
      simp only [Option.bind_some]
      rw [wrp]
    · rw [s_isSum (X := X) x hs.1 hs.2.1]
      simp only [Option.bind_some, bZ_0, if_pos c]
