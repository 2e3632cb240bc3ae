/-! ALL DIGITS: the next row, and the model's search -/
theorem Row.cg {c d : Nat → Nat} {σ : St} (h : Row c σ) (e : ∀ j, 1 ≤ j → j ≤ 9 → c j = d j) : Row d σ := by
  intro j a b
  rw [← e j a b]
  exact h j a b
theorem s_next5 {c : Nat → Nat} {t r : Nat} {x : Int32} {σ : St} (ht : 1 ≤ t) (ht2 : t ≤ 8) (hr : r + 1 ≤ 9) (h : Row (lst c (t + 1) (r + 1)) σ) : ∀ m n : Nat, t + 1 + m ≤ 9 → m + 1 < n → f_X10_nextRow_5 n x (iZ ((t + 1 + m : Nat) : Int)) 0 σ = f_X10_nextRow_52 FU (iZ (t : Int)) x 1 σ := by
  intro m
  induction m with
  | zero =>
    intro n e hn
    cases n with
    | zero => omega
    | succ n =>
      cases n with
      | zero => omega
      | succ n =>
        have et : tl (lst c (t + 1) (r + 1)) (10 - (t + 1 + 0)) (t + 1 + 0) = r + 1 := by
          rw [show 10 - (t + 1 + 0) = (8 - t) + 1 by omega]
          show lst c (t + 1) (r + 1) (t + 1) + tl (lst c (t + 1) (r + 1)) (8 - t) (t + 1 + 1) = r + 1
          rw [tl_0 (8 - t) (t + 1 + 1) (fun j a b => by unfold lst; rw [if_neg (by omega), if_neg (by omega)])]
          unfold lst
          rw [if_neg (by omega), if_pos rfl]
        rw [f_X10_nextRow_5, if_neg (by rw [leI, t_1, iZt (by omega)]; omega), if_pos rfl, bnd (s_tail h (by omega) (by omega)), et]
        have nz : ¬ iZ ((r + 1 : Nat) : Int) = 0 := by rw [eI, t_0, iZt (by omega)]; omega
        unfold f_X10_nextRow_31
        show (if iZ ((r + 1 : Nat) : Int) = 0 then _ else f_X10_nextRow_5 (n + 1) x (iZ ((t + 1 + 0 : Nat) : Int)) (iZ ((r + 1 : Nat) : Int)) σ) = _
        rw [if_neg nz, f_X10_nextRow_5, if_neg (by rw [leI, t_1, iZt (by omega)]; omega), if_neg nz]
        unfold f_X10_nextRow_35
        rw [if_neg nz]
        have e1 : iZ ((t + 1 + 0 : Nat) : Int) - 1 = iZ (t : Int) := by
          show iZ ((t + 1 + 0 : Nat) : Int) - iZ 1 = _
          rw [iZ_sub]; congr 1; omega
        rw [e1]
  | succ m ih =>
    intro n e hn
    cases n with
    | zero => omega
    | succ n =>
      have et : tl (lst c (t + 1) (r + 1)) (10 - (t + 1 + (m + 1))) (t + 1 + (m + 1)) = 0 := tl_0 _ _ (fun j a b => by unfold lst; rw [if_neg (by omega), if_neg (by omega)])
      rw [f_X10_nextRow_5, if_neg (by rw [leI, t_1, iZt (by omega)]; omega), if_pos rfl, bnd (s_tail h (by omega) (by omega)), et]
      unfold f_X10_nextRow_31
      have e1 : iZ ((t + 1 + (m + 1) : Nat) : Int) - 1 = iZ ((t + 1 + m : Nat) : Int) := by
        show iZ ((t + 1 + (m + 1) : Nat) : Int) - iZ 1 = _
        rw [iZ_sub]; congr 1; omega
      rw [e1, if_pos (by rfl)]
      exact ih n (by omega) (by omega)
theorem s_nextRow {c : Nat → Nat} {t r M : Nat} {σ : St} (ht : 1 ≤ t) (ht2 : t ≤ 8) (hr : r + 1 ≤ 9) (hc : c t + 1 ≤ 9) (hM : hd c t + (r + 1) = M) (h : Row (lst c (t + 1) (r + 1)) σ) : ∃ σ', f_X10_nextRow (iZ (M : Int)) σ = some (1, σ') ∧ Row (frs (up c t (c t + 1)) (t + 1) r) σ' := by
  unfold f_X10_nextRow
  have a := s_next5 (x := iZ (M : Int)) ht ht2 hr h (8 - t) FU (by omega) (by unfold FU; omega)
  rw [show t + 1 + (8 - t) = 9 by omega] at a
  rw [show f_X10_nextRow_5 FU (iZ (M : Int)) 9 0 σ = _ from a]
  have eh : hd (lst c (t + 1) (r + 1)) t = hd c t := hd_cg t (fun j a b => by unfold lst; rw [if_pos (by omega)])
  obtain ⟨σ', b1, b2, b3, b4, b5⟩ := s_n52 (c := lst c (t + 1) (r + 1)) (r := r) ht ht2 (t - 1) FU 0 σ h (by omega) (by unfold FU; omega)
  have ex : iZ (hd (lst c (t + 1) (r + 1)) t + r + 1 : Int) - iZ (hd (lst c (t + 1) (r + 1)) 0 : Int) = iZ (M : Int) := by
    rw [eh, iZ_sub]; congr 1
    show (hd c t : Int) + r + 1 - ((0 : Nat) : Int) = M
    omega
  rw [ex] at b1
  refine ⟨σ', b1, fun j j1 j2 => ?_⟩
  unfold frs up
  by_cases q1 : j < t + 1
  · rw [if_pos q1]
    by_cases q2 : j = t
    · subst q2
      rw [if_pos rfl, b3]
      refine ⟨?_, hc⟩
      congr 2
      show lst c (j + 1) (r + 1) j + 1 = c j + 1
      unfold lst
      rw [if_pos (by omega)]
    · rw [if_neg q2, b2 j j1 (by omega)]
      have := h j j1 j2
      unfold lst at this ⊢
      rw [if_pos q1] at this ⊢
      exact ⟨rfl, this.2⟩
  · rw [if_neg q1]
    by_cases q2 : j = 9
    · subst q2
      rw [if_pos rfl, b5]
      exact ⟨rfl, by omega⟩
    · rw [if_neg q2, b4 j (by omega) (by omega)]
      exact ⟨rfl, by omega⟩
theorem s_next0_go {c : Nat → Nat} {x : Int32} {h : Nat} {σ : St} (hr : Row (lst c 1 h) σ) : ∀ m n : Nat, 1 + m ≤ 9 → m < n → f_X10_nextRow_5 n x (iZ ((1 + m : Nat) : Int)) 0 σ = some (0, σ) := by
  intro m
  induction m with
  | zero =>
    intro n e hn
    cases n with
    | zero => omega
    | succ n =>
      rw [f_X10_nextRow_5, if_pos (by rw [leI, t_1, iZt (by omega)]; omega)]; rfl
  | succ m ih =>
    intro n e hn
    cases n with
    | zero => omega
    | succ n =>
      have et : tl (lst c 1 h) (10 - (1 + (m + 1))) (1 + (m + 1)) = 0 := tl_0 _ _ (fun j a b => by unfold lst; rw [if_neg (by omega), if_neg (by omega)])
      rw [f_X10_nextRow_5, if_neg (by rw [leI, t_1, iZt (by omega)]; omega), if_pos rfl, bnd (s_tail hr (by omega) (by omega)), et]
      unfold f_X10_nextRow_31
      have e1 : iZ ((1 + (m + 1) : Nat) : Int) - 1 = iZ ((1 + m : Nat) : Int) := by
        show iZ ((1 + (m + 1) : Nat) : Int) - iZ 1 = _
        rw [iZ_sub]; congr 1; omega
      rw [e1, if_pos (by rfl)]
      exact ih n (by omega) (by omega)
theorem s_next0 {c : Nat → Nat} {x : Int32} {h : Nat} {σ : St} (hr : Row (lst c 1 h) σ) : f_X10_nextRow x σ = some (0, σ) :=
  s_next0_go hr 8 FU (by omega) (by unfold FU; omega)
noncomputable def Gx (x : Int32) (k : Nat) (c : Nat → Nat) : Bool := (@decide (okW x c 1) (Classical.propDecidable _)) && fullI k (pfx c 9)
theorem Gx_t {x : Int32} {k : Nat} {c : Nat → Nat} : Gx x k c = true ↔ (okW x c 1 ∧ fullI k (pfx c 9) = true) := by
  unfold Gx
  rw [Bool.and_eq_true]
  exact and_congr_left' (@decide_eq_true_iff _ (Classical.propDecidable _))
theorem Gx_cg {x : Int32} {k : Nat} {c d : Nat → Nat} (h : ∀ j, 1 ≤ j → j ≤ 9 → c j = d j) : Gx x k c = Gx x k d := by
  have : Gx x k c = true ↔ Gx x k d = true := by
    rw [Gx_t, Gx_t, pfx_cg 9 h]
    refine and_congr_left' ⟨fun q j a b => ?_, fun q j a b => ?_⟩
    · rw [← h j a b]; exact q j a b
    · rw [h j a b]; exact q j a b
  cases e : Gx x k d with
  | true => exact this.mpr e
  | false =>
    cases e2 : Gx x k c with
    | false => rfl
    | true => rw [this.mp e2] at e; cases e
theorem m_row {k39 : Int32 → Int32 → Int32 → Int32 → St → Option (Int32 × St)} {x x3 : Int32} {k M n : Nat} {c : Nat → Nat} {σ : St} (hk : k < 10) (h : Row c σ) : f_X10_all_84 k39 (n + 1) x (iZ (k : Int)) x3 (iZ (M : Int)) 1 σ = if Gx x k c = true then f_X10_all_116 k39 x (iZ (k : Int)) x3 (iZ (M : Int)) 1 σ else f_X10_all_105 k39 (f_X10_all_84 k39 n) x (iZ (k : Int)) x3 (iZ (M : Int)) σ := by
  obtain ⟨b, b1, b2⟩ := s_isOf (x := x) h
  rw [f_X10_all_84, if_neg (by decide), bnd b1]
  by_cases q : okW x c 1
  · rw [if_neg (show ¬ b = 0 from fun z => (b2.mp z) q), bnd (s_makes h k hk)]
    by_cases w : fullI k (pfx c 9) = true
    · rw [if_neg (by show ¬ bZ _ = 0; rw [bZ_0]; exact not_not_intro w), if_pos (Gx_t.mpr ⟨q, w⟩)]
    · rw [if_pos (by show bZ _ = 0; rw [bZ_0]; exact w), if_neg (fun z => w (Gx_t.mp z).2)]
  · rw [if_pos (show b = 0 from b2.mpr q), if_neg (fun z => q (Gx_t.mp z).1)]
def lo (F : (Nat → Nat) → Nat → Option (Nat → Nat)) (w : Nat) (c : Nat → Nat) : Nat → Nat → Option (Nat → Nat)
  | 0, o => F (up c w o) 0
  | r + 1, o => match F (up c w o) (r + 1) with
    | some d => some d
    | none => lo F w c r (o + 1)
def lm (G : (Nat → Nat) → Bool) : Nat → (Nat → Nat) → Nat → Option (Nat → Nat)
  | 0, c, h => bif G (up c 9 h) then some (up c 9 h) else none
  | k + 1, c, h => lo (lm G k) (8 - k) c h 0
def cs (F : Nat → Nat) : Nat → Nat
  | 0 => F 0
  | r + 1 => cs F r + F (r + 1)
def ct : Nat → Nat → Nat
  | 0, _ => 1
  | k + 1, h => cs (ct k) h
theorem m_S {k39 : Int32 → Int32 → Int32 → Int32 → St → Option (Int32 × St)} {x x3 : Int32} {kk M : Nat} (hkk : kk < 10) (hM : M ≤ 9) : ∀ k, k ≤ 8 → ∀ c h n σ, hd c (8 - k) + h = M → Row (frs c (9 - k) h) σ → ∃ σ', frm [56] [] σ σ' ∧
    ((∃ d, lm (Gx x kk) k c h = some d ∧ Row d σ' ∧ f_X10_all_84 k39 (n + ct k h) x (iZ (kk : Int)) x3 (iZ (M : Int)) 1 σ = f_X10_all_116 k39 x (iZ (kk : Int)) x3 (iZ (M : Int)) 1 σ') ∨
     (lm (Gx x kk) k c h = none ∧ Row (lst c (9 - k) h) σ' ∧ f_X10_all_84 k39 (n + ct k h) x (iZ (kk : Int)) x3 (iZ (M : Int)) 1 σ = f_X10_all_105 k39 (f_X10_all_84 k39 n) x (iZ (kk : Int)) x3 (iZ (M : Int)) σ')) := by
  intro k
  induction k with
  | zero =>
    intro _ c h n σ e hr
    have ru : Row (up c 9 h) σ := hr.cg (fun j a b => by
      unfold frs up
      by_cases q : j = 9
      · rw [if_neg (by omega), if_pos q, if_pos q]
      · rw [if_pos (by omega), if_neg q])
    refine ⟨σ, frm.rf σ, ?_⟩
    show (∃ d, (bif Gx x kk (up c 9 h) then some (up c 9 h) else none) = some d ∧ _) ∨ ((bif Gx x kk (up c 9 h) then some (up c 9 h) else none) = none ∧ _)
    rw [show n + ct 0 h = n + 1 from rfl, m_row hkk ru]
    cases q : Gx x kk (up c 9 h) with
    | true => left; exact ⟨up c 9 h, rfl, ru, rfl⟩
    | false =>
      right
      refine ⟨rfl, ru.cg (fun j a b => ?_), rfl⟩
      simp only [lst, up]
      repeat' split
      all_goals first | rfl | omega
  | succ k ih =>
    intro hk8 c h n σ e hr
    have hw : 1 ≤ 8 - k := by omega
    -- all numbers of goats at this weight
    have L : ∀ r o : Nat, ∀ n, ∀ σ : St, hd c (7 - k) + o + r = M → Row (frs (up c (8 - k) o) (9 - k) r) σ → ∃ σ', frm [56] [] σ σ' ∧
        ((∃ d, lo (lm (Gx x kk) k) (8 - k) c r o = some d ∧ Row d σ' ∧ f_X10_all_84 k39 (n + cs (ct k) r) x (iZ (kk : Int)) x3 (iZ (M : Int)) 1 σ = f_X10_all_116 k39 x (iZ (kk : Int)) x3 (iZ (M : Int)) 1 σ') ∨
         (lo (lm (Gx x kk) k) (8 - k) c r o = none ∧ Row (lst c (8 - k) (o + r)) σ' ∧ f_X10_all_84 k39 (n + cs (ct k) r) x (iZ (kk : Int)) x3 (iZ (M : Int)) 1 σ = f_X10_all_105 k39 (f_X10_all_84 k39 n) x (iZ (kk : Int)) x3 (iZ (M : Int)) σ')) := by
      have hh : ∀ o, hd (up c (8 - k) o) (8 - k) = hd c (7 - k) + o := by
        intro o
        rw [show 8 - k = (7 - k) + 1 by omega]
        show hd (up c (7 - k + 1) o) (7 - k) + up c (7 - k + 1) o (7 - k + 1) = _
        rw [hd_cg (d := c) (7 - k) (fun j a b => by unfold up; rw [if_neg (by omega)])]
        unfold up
        rw [if_pos rfl]
      intro r
      induction r with
      | zero =>
        intro o n σ e hr
        obtain ⟨σ', f1, a⟩ := ih (by omega) (up c (8 - k) o) 0 n σ (by rw [hh]; omega) hr
        refine ⟨σ', f1, ?_⟩
        rcases a with ⟨d, a1, a2, a3⟩ | ⟨a1, a2, a3⟩
        · left; exact ⟨d, a1, a2, a3⟩
        · right
          refine ⟨a1, a2.cg (fun j b1 b2 => ?_), a3⟩
          unfold lst up
          by_cases q : j < 8 - k
          · rw [if_pos (by omega), if_neg (by omega), if_pos q]
          · by_cases q2 : j = 8 - k
            · rw [if_pos (by omega), if_pos q2, if_neg q, if_pos q2]; omega
            · rw [if_neg (by omega), if_neg q, if_neg q2]
              by_cases q3 : j = 9 - k
              · rw [if_pos q3]
              · rw [if_neg q3]
      | succ r ihr =>
        intro o n σ e hr
        obtain ⟨σ1, f1, a⟩ := ih (by omega) (up c (8 - k) o) (r + 1) (n + cs (ct k) r) σ (by rw [hh]; omega) hr
        rw [show n + cs (ct k) (r + 1) = n + cs (ct k) r + ct k (r + 1) from (Nat.add_assoc _ _ _).symm]
        rcases a with ⟨d, a1, a2, a3⟩ | ⟨a1, a2, a3⟩
        · refine ⟨σ1, f1, Or.inl ⟨d, ?_, a2, a3⟩⟩
          show (match lm (Gx x kk) k (up c (8 - k) o) (r + 1) with | some d => some d | none => lo (lm (Gx x kk) k) (8 - k) c r (o + 1)) = some d
          rw [a1]
        · have e9 : 9 - k = 8 - k + 1 := by omega
          rw [e9] at a2
          have eo : up c (8 - k) o (8 - k) = o := if_pos rfl
          obtain ⟨σ2, b1, b2⟩ := s_nextRow (M := M) hw (by omega) (by omega) (by rw [eo]; omega) (by rw [hh]; omega) a2
          obtain ⟨σ3, c1, c2⟩ := ihr (o + 1) n σ2 (by omega) (b2.cg (fun j d1 d2 => by
            unfold frs
            rw [e9]
            by_cases q : j < 8 - k + 1
            · rw [if_pos q, if_pos q]
              unfold up
              by_cases q2 : j = 8 - k
              · rw [if_pos q2, if_pos q2, if_pos rfl]
              · rw [if_neg q2, if_neg q2, if_neg q2]
            · rw [if_neg q, if_neg q]))
          have hl : lo (lm (Gx x kk) k) (8 - k) c (r + 1) o = lo (lm (Gx x kk) k) (8 - k) c r (o + 1) := by
            show (match lm (Gx x kk) k (up c (8 - k) o) (r + 1) with | some d => some d | none => lo (lm (Gx x kk) k) (8 - k) c r (o + 1)) = _
            rw [a1]
          have hx : f_X10_all_84 k39 (n + cs (ct k) r + ct k (r + 1)) x (iZ (kk : Int)) x3 (iZ (M : Int)) 1 σ = f_X10_all_84 k39 (n + cs (ct k) r) x (iZ (kk : Int)) x3 (iZ (M : Int)) 1 σ2 := by
            rw [a3]
            unfold f_X10_all_105
            rw [bnd b1]
          refine ⟨σ3, f1.tr ((fr_X10_nextRow b1).tr c1), ?_⟩
          rw [hl, hx, show o + (r + 1) = o + 1 + r by omega]
          exact c2
    have := L h 0 n σ (by rw [show 7 - k = 8 - (k + 1) by omega]; omega) (hr.cg (fun j a b => by
      simp only [frs, up]
      repeat' split
      all_goals first | rfl | omega))
    rw [Nat.zero_add] at this
    rw [show 9 - (k + 1) = 8 - k by omega]
    exact this
