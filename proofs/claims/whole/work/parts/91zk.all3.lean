/-! ALL DIGITS: the class's search, and ALL -/
abbrev okP (x : Int32) (c : Nat → Nat) (w : Nat) : Prop := ∀ j, 1 ≤ j → j ≤ w → c j = 0 ∨ bitI x (j - 1)
noncomputable def LF (x : Int32) (n : Nat) : Nat → (Nat → Nat) → Nat → Option (Nat → Nat)
  | 0, c, h => bif (decide (h = 0)) && Gx x n c then some c else none
  | k + 1, c, h => lo (LF x n k) (9 - k) c h 0
def ecd : Nat → (Nat → Nat) → Nat
  | 0, _ => 0
  | k + 1, d => d (9 - k) + 10 * ecd k d
def ansO (k : Nat) : Option (Nat → Nat) → Int32
  | none => -1
  | some d => iZ (ecd k d : Int)
theorem up_lt {c : Nat → Nat} {w v j : Nat} (h : j ≠ w) : up c w v j = c j := if_neg h
theorem up_eq {c : Nat → Nat} {w v : Nat} : up c w v w = v := if_pos rfl
theorem lo_some {F : (Nat → Nat) → Nat → Option (Nat → Nat)} {w : Nat} {c d : Nat → Nat} : ∀ r o, lo F w c r o = some d → ∃ o' r', o ≤ o' ∧ o' + r' = o + r ∧ F (up c w o') r' = some d := by
  intro r
  induction r with
  | zero => intro o h; exact ⟨o, 0, by omega, by omega, h⟩
  | succ r ih =>
    intro o h
    have h' : (match F (up c w o) (r + 1) with | some d => some d | none => lo F w c r (o + 1)) = some d := h
    cases e : F (up c w o) (r + 1) with
    | some d' => rw [e] at h'; exact ⟨o, r + 1, by omega, by omega, by rw [e]; exact h'⟩
    | none =>
      rw [e] at h'
      obtain ⟨o', r', a1, a2, a3⟩ := ih (o + 1) h'
      exact ⟨o', r', by omega, by omega, a3⟩
theorem lo_none {F : (Nat → Nat) → Nat → Option (Nat → Nat)} {w : Nat} {c : Nat → Nat} : ∀ r o, (∀ o' r', o ≤ o' → o' + r' = o + r → F (up c w o') r' = none) → lo F w c r o = none := by
  intro r
  induction r with
  | zero => intro o h; exact h o 0 (by omega) (by omega)
  | succ r ih =>
    intro o h
    show (match F (up c w o) (r + 1) with | some d => some d | none => lo F w c r (o + 1)) = none
    rw [h o (r + 1) (by omega) (by omega)]
    exact ih (o + 1) (fun o' r' a b => h o' r' (by omega) (by omega))
theorem LF_1 {x : Int32} {n k : Nat} (hk : k ≤ 9) : ∀ c h d, h ≤ 9 → LF x n k c h = some d → (∀ j, 1 ≤ j → j ≤ 9 - k → d j = c j) ∧ ecd k d < 10 ^ k := by
  induction k with
  | zero =>
    intro c h d hh e
    have e' : (bif (decide (h = 0)) && Gx x n c then some c else none) = some d := e
    cases q : (decide (h = 0)) && Gx x n c with
    | true =>
      rw [q] at e'
      have : c = d := Option.some.inj e'
      subst this
      exact ⟨fun j _ _ => rfl, by show (0 : Nat) < 1; omega⟩
    | false => rw [q] at e'; cases e'
  | succ k ih =>
    intro c h d hh e
    obtain ⟨o, r, a1, a2, a3⟩ := lo_some h 0 e
    obtain ⟨b1, b2⟩ := ih (by omega) _ r d (by omega) a3
    refine ⟨fun j j1 j2 => ?_, ?_⟩
    · rw [b1 j j1 (by omega), up_lt (by omega)]
    · show d (9 - k) + 10 * ecd k d < 10 ^ (k + 1)
      rw [b1 (9 - k) (by omega) (by omega), up_eq, Nat.pow_succ]
      omega
theorem pfx_up {c : Nat → Nat} {w o : Nat} : pfx (up c (w + 1) o) (w + 1) = itr (w + 1) o (pfx c w) := by
  show itr (w + 1) (up c (w + 1) o (w + 1)) (pfx (up c (w + 1) o) w) = _
  rw [up_eq, pfx_cg (d := c) w (fun j a b => up_lt (by omega))]
theorem LF_0 {x : Int32} {n k : Nat} (hk : k ≤ 9) : ∀ c, okP x c (9 - k) → (fullI n (pfx c (9 - k)) = true ∧ ∃ d, LF x n k c 0 = some d ∧ ecd k d = 0) ∨ (¬ fullI n (pfx c (9 - k)) = true ∧ LF x n k c 0 = none) := by
  induction k with
  | zero =>
    intro c hc
    show (_ ∧ ∃ d, (bif (decide ((0 : Nat) = 0)) && Gx x n c then some c else none) = some d ∧ _) ∨ (_ ∧ (bif (decide ((0 : Nat) = 0)) && Gx x n c then some c else none) = none)
    by_cases q : fullI n (pfx c 9) = true
    · left
      refine ⟨q, c, ?_, rfl⟩
      rw [Gx_t.mpr ⟨hc, q⟩]; rfl
    · right
      refine ⟨q, ?_⟩
      cases e : Gx x n c with
      | true => exact absurd (Gx_t.mp e).2 q
      | false => rfl
  | succ k ih =>
    intro c hc
    have e9 : 9 - k = 9 - (k + 1) + 1 := by omega
    have hp : pfx (up c (9 - k) 0) (9 - k) = pfx c (9 - (k + 1)) := by
      rw [e9, pfx_up]; rfl
    have hok : okP x (up c (9 - k) 0) (9 - k) := by
      intro j j1 j2
      by_cases q : j = 9 - k
      · subst q; left; exact up_eq
      · rw [up_lt q]; exact hc j j1 (by omega)
    have := ih (by omega) (up c (9 - k) 0) hok
    rw [hp] at this
    rcases this with ⟨a1, d, a2, a3⟩ | ⟨a1, a2⟩
    · left
      refine ⟨a1, d, a2, ?_⟩
      show d (9 - k) + 10 * ecd k d = 0
      rw [(LF_1 (by omega) _ 0 d (by omega) a2).1 (9 - k) (by omega) (by omega), up_eq, a3]
    · right; exact ⟨a1, a2⟩
theorem LF_N {x : Int32} {n k : Nat} (hk : k ≤ 9) : ∀ c h, ¬ okP x c (9 - k) → LF x n k c h = none := by
  induction k with
  | zero =>
    intro c h hc
    show (bif (decide (h = 0)) && Gx x n c then some c else none) = none
    cases e : Gx x n c with
    | true => exact absurd (Gx_t.mp e).1 hc
    | false => rw [Bool.and_false]; rfl
  | succ k ih =>
    intro c h hc
    refine lo_none h 0 (fun o r _ _ => ih (by omega) _ r (fun q => hc (fun j j1 j2 => ?_)))
    have := q j j1 (by omega)
    rw [up_lt (by omega)] at this
    exact this
theorem LF_lm {x : Int32} {n : Nat} : ∀ k, k ≤ 8 → LF x n (k + 1) = lm (Gx x n) k := by
  intro k
  induction k with
  | zero =>
    intro _
    funext c h
    have L : ∀ r o, lo (LF x n 0) 9 c r o = (bif Gx x n (up c 9 (o + r)) then some (up c 9 (o + r)) else none) := by
      intro r
      induction r with
      | zero =>
        intro o
        show (bif (decide ((0 : Nat) = 0)) && Gx x n (up c 9 o) then some (up c 9 o) else none) = _
        rw [Nat.add_zero]; rfl
      | succ r ih =>
        intro o
        show (match (bif (decide (r + 1 = 0)) && Gx x n (up c 9 o) then some (up c 9 o) else none) with | some d => some d | none => lo (LF x n 0) 9 c r (o + 1)) = _
        rw [decide_eq_false (by omega), Bool.false_and]
        show lo (LF x n 0) 9 c r (o + 1) = _
        rw [ih (o + 1), show o + 1 + r = o + (r + 1) by omega]
    have := L h 0
    rw [Nat.zero_add] at this
    exact this
  | succ k ih =>
    intro hk
    funext c h
    show lo (LF x n (k + 1)) (9 - (k + 1)) c h 0 = lo (lm (Gx x n) k) (8 - k) c h 0
    rw [ih (by omega), show 9 - (k + 1) = 8 - k by omega]
theorem leaf_ok {self : Int32 → Int32 → Int32 → Int32 → Int32 → En → St → Option (Int32 × En × St)} {X : En} {σ : St} {h n : Nat} (hh : h ≤ 9) (made : Int32) : g_X9_leastHerd_10 self (iZ (h : Int)) made (iZ (n : Int)) X σ = some (if h = 0 ∧ fullI n made = true then 0 else -1, X, σ) := by
  unfold g_X9_leastHerd_10 g_X9_leastHerd_20 g_X9_leastHerd_37 g_X9_leastHerd_38
  by_cases q : h = 0
  · rw [if_pos (by rw [eI, t_0, iZt (by omega)]; omega)]
    by_cases w : (made &&& (shlI 1 (iZ (n : Int) + 1) - 1)) = shlI 1 (iZ (n : Int) + 1) - 1
    · rw [if_pos w, if_pos ⟨q, decide_eq_true w⟩]
    · rw [if_neg w, if_neg (fun z => w (of_decide_eq_true z.2))]
  · rw [if_neg (by rw [eI, t_0, iZt (by omega)]; omega), if_neg (fun z => q z.1)]
theorem iZ_nm {v : Nat} (h : v < 2147483648) : ¬ iZ (v : Int) = -1 := by
  rw [eI, iZt h, t_m1]; omega
theorem lh_go {X : En} {σ : St} {x : Int32} {n k h mx : Nat} {c : Nat → Nat} {self : Int32 → Int32 → Int32 → Int32 → Int32 → En → St → Option (Int32 × En × St)} (hk : k ≤ 8) (hh : h ≤ 9)
    (hs : ∀ o r, o ≤ mx → o + r = h → self x (iZ ((9 - k : Nat) : Int) + 1) (iZ (r : Int)) (itr (9 - k) o (pfx c (8 - k))) (iZ (n : Int)) X σ = some (ansO k (LF x n k (up c (9 - k) o) r), X, σ))
    (hN : ∀ o r, mx < o → o + r = h → LF x n k (up c (9 - k) o) r = none) (hmx : mx ≤ h) : ∀ m f o r : Nat, o + m = mx → o + r = h → m + 1 < f → g_X9_leastHerd_62 self f x (iZ ((9 - k : Nat) : Int)) (iZ (h : Int)) (iZ (n : Int)) (iZ (mx : Int)) (itr (9 - k) o (pfx c (8 - k))) (iZ (o : Int)) X σ = some (ansO (k + 1) (lo (LF x n k) (9 - k) c r o), X, σ) := by
  have h10 : (10 : Int32) = iZ 10 := rfl
  -- what is found
  have fd : ∀ o r d, o + r = h → LF x n k (up c (9 - k) o) r = some d → ¬ iZ (ecd k d : Int) = -1 ∧ iZ (o : Int) + 10 * iZ (ecd k d : Int) = ansO (k + 1) (lo (LF x n k) (9 - k) c r o) := by
    intro o r d e ed
    obtain ⟨b1, b2⟩ := LF_1 (by omega) _ r d (by omega) ed
    have b3 : ecd k d < 10 ^ 8 := Nat.lt_of_lt_of_le b2 (Nat.pow_le_pow_right (by omega) hk)
    have el : lo (LF x n k) (9 - k) c r o = some d := by
      cases r with
      | zero => exact ed
      | succ r =>
        show (match LF x n k (up c (9 - k) o) (r + 1) with | some d => some d | none => lo (LF x n k) (9 - k) c r (o + 1)) = some d
        rw [ed]
    refine ⟨iZ_nm (by omega), ?_⟩
    rw [el]
    show _ = iZ ((d (9 - k) + 10 * ecd k d : Nat) : Int)
    rw [b1 (9 - k) (by omega) (by omega), up_eq, h10, iZ_mul, iZ_add]
    exact congrArg iZ (by omega)
  intro m
  induction m with
  | zero =>
    intro f o r e e2 hf
    cases f with
    | zero => omega
    | succ f =>
      rw [g_X9_leastHerd_62, if_neg (by rw [lI, iZt (by omega), iZt (by omega)]; omega)]
      have er : iZ (h : Int) - iZ (o : Int) = iZ (r : Int) := by rw [iZ_sub]; congr 1; omega
      rw [er, bnd (hs o r (by omega) e2)]
      cases ed : LF x n k (up c (9 - k) o) r with
      | some d =>
        obtain ⟨q1, q2⟩ := fd o r d e2 ed
        show (if iZ (ecd k d : Int) = -1 then _ else some (iZ (o : Int) + 10 * iZ (ecd k d : Int), X, σ)) = _
        rw [if_neg q1, q2]
      | none =>
        show (if (-1 : Int32) = -1 then g_X9_leastHerd_114 self (g_X9_leastHerd_62 self f) x _ _ _ _ _ _ X σ else _) = _
        rw [if_pos rfl]
        unfold g_X9_leastHerd_114
        rw [iZs]
        cases f with
        | zero => omega
        | succ f =>
          rw [g_X9_leastHerd_62, if_pos (by rw [lI, iZt (by omega), iZt (by omega)]; omega)]
          have el : lo (LF x n k) (9 - k) c r o = none := lo_none r o (fun o' r' a b => by
            by_cases q : o' = o
            · subst q
              rw [show r' = r by omega]; exact ed
            · exact hN o' r' (by omega) (by omega))
          rw [el]; rfl
  | succ m ih =>
    intro f o r e e2 hf
    cases f with
    | zero => omega
    | succ f =>
      rw [g_X9_leastHerd_62, if_neg (by rw [lI, iZt (by omega), iZt (by omega)]; omega)]
      have er : iZ (h : Int) - iZ (o : Int) = iZ (r : Int) := by rw [iZ_sub]; congr 1; omega
      rw [er, bnd (hs o r (by omega) e2)]
      cases ed : LF x n k (up c (9 - k) o) r with
      | some d =>
        obtain ⟨q1, q2⟩ := fd o r d e2 ed
        show (if iZ (ecd k d : Int) = -1 then _ else some (iZ (o : Int) + 10 * iZ (ecd k d : Int), X, σ)) = _
        rw [if_neg q1, q2]
      | none =>
        show (if (-1 : Int32) = -1 then g_X9_leastHerd_114 self (g_X9_leastHerd_62 self f) x _ _ _ _ _ _ X σ else _) = _
        rw [if_pos rfl]
        unfold g_X9_leastHerd_114
        rw [iZs]
        cases r with
        | zero => omega
        | succ r =>
          have el : lo (LF x n k) (9 - k) c (r + 1) o = lo (LF x n k) (9 - k) c r (o + 1) := by
            show (match LF x n k (up c (9 - k) o) (r + 1) with | some d => some d | none => lo (LF x n k) (9 - k) c r (o + 1)) = _
            rw [ed]
          rw [el]
          exact ih f (o + 1) r (by omega) (by omega) (by omega)
theorem lh_ok {X : En} {σ : St} {x : Int32} {n : Nat} : ∀ k, k ≤ 9 → ∀ (c : Nat → Nat) (h f : Nat), k < f → okP x c (9 - k) → h ≤ 9 → g_X9_leastHerd f x (iZ ((10 - k : Nat) : Int)) (iZ (h : Int)) (pfx c (9 - k)) (iZ (n : Int)) X σ = some (ansO k (LF x n k c h), X, σ) := by
  have h9 : (9 : Int32).toInt = 9 := rfl
  intro k
  induction k with
  | zero =>
    intro _ c h f hf hc hh
    cases f with
    | zero => omega
    | succ f =>
      rw [g_X9_leastHerd]
      unfold g_X9_leastHerd_b
      rw [if_pos (by rw [lI, h9, iZt (by omega)]; omega), leaf_ok hh]
      simp only [Option.bind_some]
      rw [wrp]
      congr 2
      show _ = ansO 0 (bif (decide (h = 0)) && Gx x n c then some c else none)
      by_cases q : h = 0 ∧ fullI n (pfx c 9) = true
      · rw [if_pos q, decide_eq_true q.1, Gx_t.mpr ⟨hc, q.2⟩]; rfl
      · rw [if_neg q]
        cases e : (decide (h = 0)) && Gx x n c with
        | false => rfl
        | true =>
          rw [Bool.and_eq_true] at e
          exact absurd ⟨of_decide_eq_true e.1, (Gx_t.mp e.2).2⟩ q
  | succ k ih =>
    intro hk c h f hf hc hh
    cases f with
    | zero => omega
    | succ f =>
      rw [g_X9_leastHerd]
      unfold g_X9_leastHerd_b
      rw [show 10 - (k + 1) = 9 - k by omega, if_neg (by rw [lI, h9, iZt (by omega)]; omega)]
      by_cases q : h = 0
      · rw [if_pos (by rw [eI, t_0, iZt (by omega)]; omega), leaf_ok hh]
        simp only [Option.bind_some]
        rw [wrp]
        congr 2
        subst q
        rcases LF_0 (n := n) hk c hc with ⟨a1, d, a2, a3⟩ | ⟨a1, a2⟩
        · rw [if_pos ⟨rfl, a1⟩, a2]
          show _ = iZ (ecd (k + 1) d : Int)
          rw [a3]; rfl
        · rw [if_neg (fun z => a1 z.2), a2]; rfl
      · rw [if_neg (by rw [eI, t_0, iZt (by omega)]; omega)]
        have e1 : iZ ((9 - k : Nat) : Int) - 1 = iZ ((8 - k : Nat) : Int) := by
          show iZ ((9 - k : Nat) : Int) - iZ 1 = _
          rw [iZ_sub]; congr 1; omega
        have es : 9 - (k + 1) = 8 - k := by omega
        have e9 : 9 - k = 8 - k + 1 := by omega
        rw [es] at hc ⊢
        rw [e1, bnd (s_hasBit x (8 - k) (by omega) σ)]
        unfold g_X9_leastHerd_54
        have hp : ∀ o, pfx (up c (9 - k) o) (9 - k) = itr (9 - k) o (pfx c (8 - k)) := by
          intro o; rw [e9, pfx_up]
        have hs : ∀ o r, (o = 0 ∨ bitI x (8 - k)) → o + r = h → g_X9_leastHerd f x (iZ ((9 - k : Nat) : Int) + 1) (iZ (r : Int)) (itr (9 - k) o (pfx c (8 - k))) (iZ (n : Int)) X σ = some (ansO k (LF x n k (up c (9 - k) o) r), X, σ) := by
          intro o r ho e
          rw [iZs, ← hp, show 9 - k + 1 = 10 - k by omega]
          refine ih (by omega) (up c (9 - k) o) r f (by omega) (fun j j1 j2 => ?_) (by omega)
          by_cases z : j = 9 - k
          · subst z
            rw [up_eq, show 9 - k - 1 = 8 - k by omega]; exact ho
          · rw [up_lt z]; exact hc j j1 (by omega)
        have z0 : ∀ z : Int32, itr (9 - k) 0 z = z := fun _ => rfl
        by_cases b : bitI x (8 - k)
        · rw [if_neg (by show ¬ bZ _ = 0; rw [bZ_0]; exact not_not_intro b)]
          have := lh_go (X := X) (σ := σ) (n := n) (mx := h) (self := g_X9_leastHerd f) (show k ≤ 8 by omega) hh (fun o r a e => hs o r (Or.inr b) e) (fun o r a e => by omega) (Nat.le_refl h) h FU 0 h (by omega) (by omega) (by unfold FU; omega)
          rw [z0] at this
          rw [show g_X9_leastHerd_62 (g_X9_leastHerd f) FU x (iZ ((9 - k : Nat) : Int)) (iZ (h : Int)) (iZ (n : Int)) (iZ (h : Int)) (pfx c (8 - k)) 0 X σ = _ from this]
          simp only [Option.bind_some]
          rw [wrp]; rfl
        · rw [if_pos (by show bZ _ = 0; rw [bZ_0]; exact b)]
          have := lh_go (X := X) (σ := σ) (n := n) (mx := 0) (self := g_X9_leastHerd f) (show k ≤ 8 by omega) hh (fun o r a e => hs o r (Or.inl (by omega)) e) (fun o r a e => LF_N (by omega) _ r (fun z => by
            have := z (9 - k) (by omega) (by omega)
            rw [up_eq, show 9 - k - 1 = 8 - k by omega] at this
            rcases this with y | y
            · omega
            · exact b y)) (by omega) 0 FU 0 h (by omega) (by omega) (by unfold FU; omega)
          rw [z0] at this
          rw [show g_X9_leastHerd_62 (g_X9_leastHerd f) FU x (iZ ((9 - k : Nat) : Int)) (iZ (h : Int)) (iZ (n : Int)) 0 (pfx c (8 - k)) 0 X σ = _ from this]
          simp only [Option.bind_some]
          rw [wrp]; rfl
theorem ct_tab : ∀ M : Fin 10, ct 8 M.1 ≤ 30000 := by decide +kernel
theorem m_128 {x3 x4 : Int32} {d : Nat → Nat} {σ : St} (h : Row d σ) : ∀ m n : Nat, m ≤ 9 → m < n → f_X10_all_128 n x3 x4 (iZ (ecd (9 - m) d : Int)) (iZ (m : Int)) σ = some (if x3 = 0 then x4 else iZ (ecd 9 d : Int), σ) := by
  have h10 : (10 : Int32) = iZ 10 := rfl
  intro m
  induction m with
  | zero =>
    intro n hm hn
    cases n with
    | zero => omega
    | succ n =>
      rw [f_X10_all_128, if_pos (by rw [lI, t_1, iZt (by omega)]; omega)]
      unfold f_X10_all_166
      by_cases q : x3 = 0
      · rw [if_pos q, if_pos q]
      · rw [if_neg q, if_neg q]
  | succ m ih =>
    intro n hm hn
    cases n with
    | zero => omega
    | succ n =>
      obtain ⟨a1, a2⟩ := h (m + 1) (by omega) hm
      rw [f_X10_all_128, if_neg (by rw [lI, t_1, iZt (by omega)]; omega), gd_t (iZb (by omega) (by omega)), iZc (by omega), a1]
      unfold f_X10_all_149
      have e1 : iZ ((m + 1 : Nat) : Int) + (-1) = iZ (m : Int) := by
        show iZ ((m + 1 : Nat) : Int) + iZ (-1) = _
        rw [iZ_add]; congr 1; omega
      have e2 : 10 * iZ (ecd (9 - (m + 1)) d : Int) + iZ (d (m + 1) : Int) = iZ (ecd (9 - m) d : Int) := by
        rw [h10, iZ_mul, iZ_add]; congr 1
        rw [show 9 - m = 9 - (m + 1) + 1 by omega]
        show _ = ((d (9 - (9 - (m + 1))) + 10 * ecd (9 - (m + 1)) d : Nat) : Int)
        rw [show 9 - (9 - (m + 1)) = m + 1 by omega]
        omega
      rw [e1, e2]
      exact ih n (by omega) (by omega)
theorem m_48 {k39 : Int32 → Int32 → Int32 → Int32 → St → Option (Int32 × St)} {x1 x2 x3 : Int32} {M : Nat} (hM : M ≤ 9) : ∀ m n w : Nat, ∀ σ : St, w + m = 10 → 1 ≤ w → m < n → (∀ j, 1 ≤ j → j < w → gI σ 56 j = iZ ((if j = 9 then M else 0 : Nat) : Int)) → ∃ σ', f_X10_all_48 k39 n x1 x2 x3 (iZ (M : Int)) (iZ (w : Int)) σ = f_X10_all_84 k39 FU x1 x2 x3 (iZ (M : Int)) 1 σ' ∧ Row (frs (fun _ => 0) 1 M) σ' := by
  have h9 : (9 : Int32).toInt = 9 := rfl
  intro m
  induction m with
  | zero =>
    intro n w σ e hw hn h
    cases n with
    | zero => omega
    | succ n =>
      refine ⟨σ, ?_, fun j j1 j2 => ?_⟩
      · rw [f_X10_all_48, if_pos (by rw [lI, h9, iZt (by omega)]; omega)]
      · rw [h j j1 (by omega)]
        have ef : frs (fun _ => 0) 1 M j = if j = 9 then M else 0 := by
          unfold frs
          exact if_neg (by omega)
        rw [ef]
        refine ⟨rfl, ?_⟩
        split <;> omega
  | succ m ih =>
    intro n w σ e hw hn h
    cases n with
    | zero => omega
    | succ n =>
      rw [f_X10_all_48, if_neg (by rw [lI, h9, iZt (by omega)]; omega)]
      unfold f_X10_all_74
      rw [gd_t (iZb (by omega) (by omega)), gd_t (iZb (by omega) (by omega)), iZc (by omega), iZs]
      by_cases q : w = 9
      · rw [if_pos (by rw [eI, h9, iZt (by omega)]; omega)]
        refine ih n (w + 1) _ (by omega) (by omega) (by omega) (fun j j1 j2 => ?_)
        by_cases z : j = w
        · subst z; rw [g_sI_eq, if_pos q]
        · rw [g_sI_ne (by omega)]; exact h j j1 (by omega)
      · rw [if_neg (by rw [eI, h9, iZt (by omega)]; omega)]
        refine ih n (w + 1) _ (by omega) (by omega) (by omega) (fun j j1 j2 => ?_)
        by_cases z : j = w
        · subst z; rw [g_sI_eq, if_neg q]; rfl
        · rw [g_sI_ne (by omega)]; exact h j j1 (by omega)
theorem all_go {X : En} {x x3 : Int32} {kk : Nat} (hkk : kk ≤ 9) (σ : St) : ∀ m n n' M : Nat, ∀ τ : St, M + m = kk + 1 → 1 ≤ M → m < n → m < n' → ∃ r τ', g_X9_all_37 n x (iZ (kk : Int)) x3 (iZ (M : Int)) X σ = some (r, X, σ) ∧ f_X10_all_39 n' x (iZ (kk : Int)) x3 (iZ (M : Int)) τ = some (r, τ') := by
  intro m
  induction m with
  | zero =>
    intro n n' M τ e hM hn hn'
    cases n with
    | zero => omega
    | succ n =>
      cases n' with
      | zero => omega
      | succ n' =>
        refine ⟨-1, τ, ?_, ?_⟩
        · rw [g_X9_all_37, if_pos (by rw [lI, iZt (by omega), iZt (by omega)]; omega)]
        · rw [f_X10_all_39, if_pos (by rw [lI, iZt (by omega), iZt (by omega)]; omega)]
  | succ m ih =>
    intro n n' M τ e hM hn hn'
    cases n with
    | zero => omega
    | succ n =>
      cases n' with
      | zero => omega
      | succ n' =>
        rw [g_X9_all_37, if_neg (by rw [lI, iZt (by omega), iZt (by omega)]; omega), f_X10_all_39, if_neg (by rw [lI, iZt (by omega), iZt (by omega)]; omega)]
        have cl := lh_ok (X := X) (σ := σ) (x := x) (n := kk) 9 (by omega) (fun _ => 0) M 11 (by omega) (fun j j1 j2 => by omega) (by omega)
        have cl' : g_X9_leastHerd 11 x 1 (iZ (M : Int)) 1 (iZ (kk : Int)) X σ = some (ansO 9 (LF x kk 9 (fun _ => 0) M), X, σ) := cl
        rw [bnd cl']
        obtain ⟨τ1, a1, a2⟩ := m_48 (k39 := f_X10_all_39 n') (x1 := x) (x2 := iZ (kk : Int)) (x3 := x3) (M := M) (by omega) 9 FU 1 τ (by omega) (by omega) (by unfold FU; omega) (fun j _ _ => by omega)
        rw [show f_X10_all_48 (f_X10_all_39 n') FU x (iZ (kk : Int)) x3 (iZ (M : Int)) 1 τ = _ from a1]
        have cb := ct_tab ⟨M, by omega⟩
        have cb' : ct 8 M ≤ 30000 := cb
        have ef : FU = (FU - ct 8 M) + ct 8 M := by unfold FU; omega
        obtain ⟨τ2, b1, b2⟩ := m_S (k39 := f_X10_all_39 n') (x := x) (x3 := x3) (kk := kk) (M := M) (by omega) (by omega) 8 (by omega) (fun _ => 0) M (FU - ct 8 M) τ1 (by show 0 + M = M; omega) a2
        rw [← ef, ← LF_lm 8 (by omega)] at b2
        rcases b2 with ⟨d, c1, c2, c3⟩ | ⟨c1, c2, c3⟩
        · rw [c3, c1]
          have bd := (LF_1 (x := x) (n := kk) (k := 9) (by omega) _ M d (by omega) c1).2
          refine ⟨if x3 = 0 then iZ (M : Int) else iZ (ecd 9 d : Int), τ2, ?_, ?_⟩
          · show (if iZ (ecd 9 d : Int) = -1 then _ else _) = _
            rw [if_neg (iZ_nm (by omega))]
            unfold g_X9_all_71
            by_cases q : x3 = 0
            · rw [if_pos q, if_pos q]
            · rw [if_neg q, if_neg q]; rfl
          · unfold f_X10_all_116
            rw [if_neg (by decide)]
            exact m_128 c2 9 FU (by omega) (by unfold FU; omega)
        · rw [c3, c1]
          unfold f_X10_all_105
          rw [bnd (s_next0 c2)]
          have e1 : FU - ct 8 M = (FU - ct 8 M - 1) + 1 := by unfold FU; omega
          show ∃ r τ', (if (-1 : Int32) = -1 then g_X9_all_37 n x (iZ (kk : Int)) x3 (iZ (M : Int) + 1) X σ else _) = _ ∧ f_X10_all_84 (f_X10_all_39 n') (FU - ct 8 M) x (iZ (kk : Int)) x3 (iZ (M : Int)) 0 τ2 = _
          rw [if_pos rfl, e1, f_X10_all_84, if_pos rfl]
          unfold f_X10_all_116
          rw [if_pos rfl, iZs]
          exact ih n n' (M + 1) τ2 (by omega) (by omega) (by omega) (by omega)
theorem m_all {X : En} {σ : St} (x1 x2 x3 : Int32) : ∃ r σ2, g_X9_all x1 x2 x3 X σ = some (r, X, σ) ∧ f_X10_all x1 x2 x3 σ = some (r, σ2) ∧ frm [56] [] σ σ2 := by
  have h9 : (9 : Int32).toInt = 9 := rfl
  have suf : (∃ r σ2, g_X9_all x1 x2 x3 X σ = some (r, X, σ) ∧ f_X10_all x1 x2 x3 σ = some (r, σ2)) → ∃ r σ2, g_X9_all x1 x2 x3 X σ = some (r, X, σ) ∧ f_X10_all x1 x2 x3 σ = some (r, σ2) ∧ frm [56] [] σ σ2 := by
    rintro ⟨r, σ2, a, b⟩
    exact ⟨r, σ2, a, b, fr_X10_all b⟩
  apply suf
  unfold g_X9_all g_X9_all_b g_X9_all_32 f_X10_all f_X10_all_34
  simp only [s_in, t64, l_1, l_511, l_9, l_0, lI, leI, t_1, t_511, h9, t_0]
  by_cases q1 : 1 ≤ x1.toInt ∧ x1.toInt ≤ 511
  · rw [if_neg (by omega), if_neg (by omega)]
    by_cases q2 : 1 ≤ x2.toInt ∧ x2.toInt ≤ 9
    · rw [if_neg (by omega), if_neg (by omega)]
      by_cases q3 : 0 ≤ x3.toInt ∧ x3.toInt ≤ 1
      · rw [if_neg (by omega), if_pos (by omega)]
        have e2 := iZof (x := x2) (by omega)
        obtain ⟨r, τ', a, b⟩ := all_go (X := X) (x := x1) (x3 := x3) (kk := x2.toInt.toNat) (by omega) σ x2.toInt.toNat FU FU 1 σ (by omega) (by omega) (by unfold FU; omega) (by unfold FU; omega)
        rw [← e2] at a b
        refine ⟨r, τ', ?_, ?_⟩
        · rw [show g_X9_all_37 FU x1 x2 x3 1 X σ = _ from a]
          simp only [Option.bind_some]
          rw [wrp]
        · simp only [Option.bind_some]
          rw [if_neg (by rw [bZ_0]; exact not_not_intro q1), if_neg (by rw [bZ_0]; exact not_not_intro q2), if_neg (by rw [bZ_0]; exact not_not_intro q3)]
          exact b
      · refine ⟨-1, σ, ?_, ?_⟩
        · by_cases z : x3.toInt < 0
          · rw [if_pos z]
            simp only [Option.bind_some]
            rw [wrp]
          · rw [if_neg z, if_neg (by omega)]
            simp only [Option.bind_some]
            rw [wrp]
        · simp only [Option.bind_some]
          rw [if_neg (by rw [bZ_0]; exact not_not_intro q1), if_neg (by rw [bZ_0]; exact not_not_intro q2), if_pos (by rw [bZ_0]; exact q3)]
    · refine ⟨-1, σ, ?_, ?_⟩
      · by_cases z : x2.toInt < 1
        · rw [if_pos z]
          simp only [Option.bind_some]
          rw [wrp]
        · rw [if_neg z, if_pos (by omega)]
          simp only [Option.bind_some]
          rw [wrp]
      · simp only [Option.bind_some]
        rw [if_neg (by rw [bZ_0]; exact not_not_intro q1), if_pos (by rw [bZ_0]; exact q2)]
  · refine ⟨-1, σ, ?_, ?_⟩
    · by_cases z : x1.toInt < 1
      · rw [if_pos z]
        simp only [Option.bind_some]
        rw [wrp]
      · rw [if_neg z, if_pos (by omega)]
        simp only [Option.bind_some]
        rw [wrp]
    · simp only [Option.bind_some]
      rw [if_pos (by rw [bZ_0]; exact q1)]
