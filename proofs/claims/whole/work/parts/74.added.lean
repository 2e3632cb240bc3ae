/-! SUMS OF THE HARVEST; THE N-TH HIT -/
abbrev hf (σ : St) (c : Nat) (x : Int32) : Nat → Int := fun j => if bitI x j then (gI σ c j).toInt else 0
theorem s_sum3_go (x : Int32) (σ : St) (H : Nat) (hH : H ≤ 8) (hh : (gI σ 19 1).toInt = H) : ∀ m n k : Nat, k + m = H → m < n → f_X3_sumOf_5 n x (jZ (esum (hf σ 20 x) k)) (iZ (k : Int)) σ = some (jZ (esum (hf σ 20 x) H), σ) := by
  intro m
  induction m with
  | zero =>
    intro n k e hn
    cases n with
    | zero => omega
    | succ n =>
      have : k = H := by omega
      subst this
      rw [f_X3_sumOf_5, if_pos (by rw [leI, hh, iZt (by omega)]; exact Int.le_refl _)]
  | succ m ih =>
    intro n k e hn
    cases n with
    | zero => omega
    | succ n =>
      rw [f_X3_sumOf_5, if_neg (by rw [leI, hh, iZt (by omega)]; omega), s_hasBit _ k (by omega)]
      have hs := ih n (k + 1) (by omega) (by omega)
      have hv : esum (hf σ 20 x) (k + 1) = esum (hf σ 20 x) k + hf σ 20 x k := rfl
      rw [hv] at hs
      unfold f_X3_sumOf_36 f_X3_sumOf_38
      simp only [Option.bind_some, bZ_0]
      rw [gd_t (iZb (by omega) (by omega)), iZs, iZc (by omega), x64, jZ_add]
      by_cases q : bitI x k
      · rw [if_neg (not_not_intro q)]
        have e2 : hf σ 20 x k = (gI σ 20 k).toInt := if_pos q
        rw [e2] at hs
        exact hs
      · rw [if_pos q]
        have h0 : (0 : Int64) = jZ 0 := rfl
        rw [h0, jZ_add]
        have e2 : hf σ 20 x k = 0 := if_neg q
        rw [e2] at hs
        exact hs
theorem s_sum3 (x : Int32) (σ : St) (H : Nat) (hH : H ≤ 8) (hh : (gI σ 19 1).toInt = H) : f_X3_sumOf x σ = some (jZ (esum (hf σ 20 x) H), σ) :=
  s_sum3_go x σ H hH hh H FU 0 (by omega) (by unfold FU; omega)
theorem s_sum10_go (x : Int32) (σ : St) (H : Nat) (hH : H ≤ 8) (hh : (gI σ 38 33).toInt = H) : ∀ m n k : Nat, k + m = H → m < n → f_X10_sumOf_5 n x (jZ (esum (hf σ 54 x) k)) (iZ (k : Int)) σ = some (jZ (esum (hf σ 54 x) H), σ) := by
  intro m
  induction m with
  | zero =>
    intro n k e hn
    cases n with
    | zero => omega
    | succ n =>
      have : k = H := by omega
      subst this
      rw [f_X10_sumOf_5, if_pos (by rw [leI, hh, iZt (by omega)]; exact Int.le_refl _)]
  | succ m ih =>
    intro n k e hn
    cases n with
    | zero => omega
    | succ n =>
      rw [f_X10_sumOf_5, if_neg (by rw [leI, hh, iZt (by omega)]; omega), s_has _ k (by omega)]
      have hs := ih n (k + 1) (by omega) (by omega)
      have hv : esum (hf σ 54 x) (k + 1) = esum (hf σ 54 x) k + hf σ 54 x k := rfl
      rw [hv] at hs
      unfold f_X10_sumOf_36 f_X10_sumOf_38
      simp only [Option.bind_some, bZ_0]
      rw [gd_t (iZb (by omega) (by omega)), iZs, iZc (by omega), x64, jZ_add]
      by_cases q : bitI x k
      · rw [if_neg (not_not_intro q)]
        have e2 : hf σ 54 x k = (gI σ 54 k).toInt := if_pos q
        rw [e2] at hs
        exact hs
      · rw [if_pos q]
        have h0 : (0 : Int64) = jZ 0 := rfl
        rw [h0, jZ_add]
        have e2 : hf σ 54 x k = 0 := if_neg q
        rw [e2] at hs
        exact hs
theorem s_sum10 (x : Int32) (σ : St) (H : Nat) (hH : H ≤ 8) (hh : (gI σ 38 33).toInt = H) : f_X10_sumOf x σ = some (jZ (esum (hf σ 54 x) H), σ) :=
  s_sum10_go x σ H hH hh H FU 0 (by omega) (by unfold FU; omega)
/-- the n-th hit: the class's way, the model's way -/
def nthC (hit : Nat → Bool) (x : Int32) : Nat → Nat → Int32 → Int32
  | 0, _, c => if x = -1 then c else -1
  | m + 1, s, c => if hit s then (if c = x then iZ (s : Int) else nthC hit x m (s + 1) (c + 1)) else nthC hit x m (s + 1) c
def nthM (hit : Nat → Bool) (x : Int32) : Nat → Nat → Int32 → Int32 → Int32
  | 0, _, c, f => if x = -1 then c else f
  | m + 1, s, c, f => if hit s then nthM hit x m (s + 1) (c + 1) (if c = x then iZ (s : Int) else f) else nthM hit x m (s + 1) c f
theorem nthM_found {hit : Nat → Bool} {x : Int32} (hx : 0 ≤ x.toInt) : ∀ m s : Nat, ∀ c f : Int32, x.toInt < c.toInt → c.toInt + m < 2147483648 → nthM hit x m s c f = f
  | 0, s, c, f, _, _ => by
    show (if x = -1 then c else f) = f
    rw [if_neg (by rw [eI, t_m1]; omega)]
  | m + 1, s, c, f, h1, h2 => by
    show (if hit s then nthM hit x m (s + 1) (c + 1) (if c = x then iZ (s : Int) else f) else nthM hit x m (s + 1) c f) = f
    have hc : (c + 1).toInt = c.toInt + 1 := tadd (by rw [t_1]; omega) (by rw [t_1]; omega)
    rw [if_neg (show ¬ c = x by rw [eI]; omega), nthM_found hx m (s + 1) (c + 1) f (by omega) (by omega), nthM_found hx m (s + 1) c f (by omega) (by omega)]
    split <;> rfl
theorem nthM_eq {hit : Nat → Bool} {x : Int32} : ∀ m s : Nat, ∀ c : Int32, 0 ≤ c.toInt → c.toInt + m < 2147483648 → (x = -1 ∨ c.toInt ≤ x.toInt) → nthM hit x m s c (-1) = nthC hit x m s c
  | 0, s, c, _, _, _ => rfl
  | m + 1, s, c, h0, h1, h2 => by
    show (if hit s then nthM hit x m (s + 1) (c + 1) (if c = x then iZ (s : Int) else -1) else nthM hit x m (s + 1) c (-1)) = (if hit s then (if c = x then iZ (s : Int) else nthC hit x m (s + 1) (c + 1)) else nthC hit x m (s + 1) c)
    have hc : (c + 1).toInt = c.toInt + 1 := tadd (by rw [t_1]; omega) (by rw [t_1]; omega)
    rw [nthM_eq m (s + 1) c h0 (by omega) h2]
    by_cases q : c = x
    · rw [if_pos q, if_pos q, nthM_found (by rw [← q]; exact h0) m (s + 1) (c + 1) _ (by rw [← q]; omega) (by omega)]
    · rw [if_neg q, if_neg q, nthM_eq m (s + 1) (c + 1) (by omega) (by omega) (by
        rcases h2 with e | e
        · exact Or.inl e
        · right; rw [eI] at q; omega)]
theorem sh_nI {x : Int32} {H : Nat} (hH : H < 12) (h : x.toInt = H) : shlI 1 x = iZ ((2 ^ H : Nat) : Int) := by
  have e : x = iZ (H : Int) := by rw [← h, iZ_self]
  rw [e, (sh_tab ⟨H, hH⟩).1]
  rfl
theorem pow8 {H : Nat} (h : H ≤ 8) : 2 ^ H ≤ 256 := Nat.pow_le_pow_right (by omega) h
theorem c_added_go (x : Int32) (v : Int64) (σ : St) (H : Nat) (hH : H ≤ 8) (hh : (gI σ 19 1).toInt = H) (hit : Nat → Bool) (hhit : ∀ s, hit s = decide (jZ (esum (hf σ 20 (iZ (s : Int))) H) = v)) : ∀ m n s : Nat, ∀ c : Int32, s + m = 2 ^ H → m < n → f_X9_added_34 n x v c (iZ (s : Int)) σ = some (nthC hit x m s c, σ) := by
  have hp := pow8 hH
  intro m
  induction m with
  | zero =>
    intro n s c e hn
    cases n with
    | zero => omega
    | succ n =>
      rw [f_X9_added_34]
      unfold f_X3_sets f_X9_added_89
      simp only [Option.bind_some]
      rw [sh_nI (by omega) hh, if_pos (by rw [leI, iZt (by omega), iZt (by omega)]; omega)]
      show _ = some ((if x = -1 then c else -1), σ)
      split <;> rfl
  | succ m ih =>
    intro n s c e hn
    cases n with
    | zero => omega
    | succ n =>
      rw [f_X9_added_34]
      unfold f_X3_sets f_X9_added_72
      simp only [Option.bind_some]
      rw [sh_nI (by omega) hh, if_neg (by rw [leI, iZt (by omega), iZt (by omega)]; omega), s_sum3 _ σ H hH hh]
      simp only [Option.bind_some, cmE]
      rw [iZs, ih n (s + 1) (c + 1) (by omega) (by omega), ih n (s + 1) c (by omega) (by omega)]
      show _ = some ((if hit s then (if c = x then iZ (s : Int) else nthC hit x m (s + 1) (c + 1)) else nthC hit x m (s + 1) c), σ)
      rw [hhit s]
      by_cases q : jZ (esum (hf σ 20 (iZ (s : Int))) H) = v
      · rw [if_pos q, if_pos (decide_eq_true q)]
        split <;> rfl
      · rw [if_neg q, if_neg (by rw [decide_eq_false q]; exact Bool.false_ne_true)]
theorem d_added_go (x : Int32) (v : Int64) (σ : St) (H : Nat) (hH : H ≤ 8) (hh : (gI σ 38 33).toInt = H) (hit : Nat → Bool) (hhit : ∀ s, hit s = decide (jZ (esum (hf σ 54 (iZ (s : Int))) H) = v)) : ∀ m n s : Nat, ∀ c f : Int32, s + m = 2 ^ H → m < n → f_X10_added_31 n x v c f (iZ (s : Int)) σ = some (nthM hit x m s c f, σ) := by
  have hp := pow8 hH
  intro m
  induction m with
  | zero =>
    intro n s c f e hn
    cases n with
    | zero => omega
    | succ n =>
      rw [f_X10_added_31]
      unfold f_X10_added_89
      rw [sh_nI (by omega) hh, if_pos (by rw [leI, iZt (by omega), iZt (by omega)]; omega)]
      show _ = some ((if x = -1 then c else f), σ)
      split <;> rfl
  | succ m ih =>
    intro n s c f e hn
    cases n with
    | zero => omega
    | succ n =>
      rw [f_X10_added_31]
      unfold f_X10_added_66 f_X10_added_71
      rw [sh_nI (by omega) hh, if_neg (by rw [leI, iZt (by omega), iZt (by omega)]; omega), s_sum10 _ σ H hH hh]
      simp only [Option.bind_some, cmE]
      rw [iZs, ih n (s + 1) (c + 1) _ (by omega) (by omega), ih n (s + 1) (c + 1) _ (by omega) (by omega), ih n (s + 1) c _ (by omega) (by omega)]
      show _ = some ((if hit s then nthM hit x m (s + 1) (c + 1) (if c = x then iZ (s : Int) else f) else nthM hit x m (s + 1) c f), σ)
      rw [hhit s]
      by_cases q : jZ (esum (hf σ 54 (iZ (s : Int))) H) = v
      · rw [if_pos q, if_pos (decide_eq_true q)]
        by_cases q2 : c = x
        · rw [if_pos q2, if_pos q2]
        · rw [if_neg q2, if_neg q2]
      · rw [if_neg q, if_neg (by rw [decide_eq_false q]; exact Bool.false_ne_true)]
theorem m_added {σ : St} (x : Int32) (h : Rrop σ) (d : Rdig σ) (g : Rgoat σ) (r : Rhar σ) : ∃ a, f_X9_added x σ = some (a, σ) ∧ f_X10_added x σ = some (a, σ) := by
  have g4 := g.2.2.2.1
  obtain ⟨r1, ⟨r2, r3⟩, r4, r5⟩ := r
  unfold f_X9_added f_X10_added
  by_cases q : -1 ≤ x
  · rw [if_pos q, if_pos q, g4]
    by_cases f : gI σ 1 5 = 0
    · rw [if_pos f, if_pos f]
      obtain ⟨v, e1, e2⟩ := m_seen h d g f
      rw [e1, e2]
      simp only [Option.bind_some]
      have hH : (gI σ 19 1).toInt = ((gI σ 19 1).toInt.toNat : Int) := by omega
      have hp := pow8 (H := (gI σ 19 1).toInt.toNat) (by omega)
      have c := c_added_go x v σ (gI σ 19 1).toInt.toNat (by omega) hH _ (fun s => rfl) (2 ^ (gI σ 19 1).toInt.toNat) FU 0 0 (by omega) (by unfold FU; omega)
      have m := d_added_go x v σ (gI σ 19 1).toInt.toNat (by omega) (by rw [r1]; exact hH) _ (fun s => rfl) (2 ^ (gI σ 19 1).toInt.toNat) FU 0 0 (-1) (by omega) (by unfold FU; omega)
      refine ⟨_, c, ?_⟩
      refine Eq.trans m ?_
      rw [leI, t_m1] at q
      rw [nthM_eq _ _ _ (by rw [t_0]; omega) (by rw [t_0]; omega) (by
        by_cases e : x = -1
        · exact Or.inl e
        · right; rw [eI, t_m1] at e; rw [t_0]; omega)]
      have eh : ∀ s : Nat, hf σ 54 (iZ (s : Int)) = hf σ 20 (iZ (s : Int)) := by
        intro s; funext j
        show (if bitI _ j then (gI σ 54 j).toInt else 0) = (if bitI _ j then (gI σ 20 j).toInt else 0)
        rw [r4]
      simp only [eh]
    · rw [if_neg f, if_neg f]
      exact ⟨_, rfl, rfl⟩
  · rw [if_neg q, if_neg q]
    exact ⟨_, rfl, rfl⟩
