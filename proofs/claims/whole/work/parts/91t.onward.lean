/-! FEWEST WALKS: what is best from a set on -/
def fmM (w : Nat → Int32) (s : Int32) : Nat → Int32
  | 0 => -1
  | k + 1 => if bitI s k then fmM w s k else (if fmM w s k = -1 then w k else mnI (fmM w s k) (w k))
def fmC (w : Nat → Int32) (s : Int32) : Nat → Int32
  | 0 => 2147483647
  | k + 1 => if bitI s k then fmC w s k else mnI (fmC w s k) (w k)
theorem mnI_mx (x : Int32) : mnI 2147483647 x = x := by
  unfold mnI
  by_cases c : x < 2147483647
  · rw [if_pos c]
  · have h1 := x.toInt_lt
    rw [if_neg c]
    rw [lI, t_2147483647] at c
    rw [eI, t_2147483647]; omega
theorem mn_ge {a b : Int32} (ha : 0 ≤ a.toInt) (hb : 0 ≤ b.toInt) : 0 ≤ (mnI a b).toInt ∧ ((mnI a b) = a ∨ (mnI a b) = b) := by
  unfold mnI
  split
  · exact ⟨hb, Or.inr rfl⟩
  · exact ⟨ha, Or.inl rfl⟩
theorem fm_eq {w : Nat → Int32} {s : Int32} : ∀ n : Nat, (∀ k, k < n → ¬ bitI s k → 0 ≤ (w k).toInt) → (fmM w s n = -1 ∧ fmC w s n = 2147483647 ∧ ∀ k, k < n → bitI s k) ∨ (fmM w s n = fmC w s n ∧ 0 ≤ (fmM w s n).toInt ∧ ∃ k, k < n ∧ ¬ bitI s k ∧ w k = fmM w s n)
  | 0, _ => Or.inl ⟨rfl, rfl, fun k hk => by omega⟩
  | n + 1, h => by
    have i := fm_eq n (fun k hk hb => h k (by omega) hb)
    rw [fmM, fmC]
    by_cases c : bitI s n
    · rw [if_pos c, if_pos c]
      rcases i with ⟨i1, i2, i3⟩ | ⟨i1, i2, k, i3, i4, i5⟩
      · refine Or.inl ⟨i1, i2, fun k hk => ?_⟩
        by_cases e : k = n
        · rw [e]; exact c
        · exact i3 k (by omega)
      · exact Or.inr ⟨i1, i2, k, by omega, i4, i5⟩
    · rw [if_neg c, if_neg c]
      have hn := h n (by omega) c
      right
      rcases i with ⟨i1, i2, i3⟩ | ⟨i1, i2, k, i3, i4, i5⟩
      · rw [if_pos i1, i2, mnI_mx]
        exact ⟨rfl, hn, n, by omega, c, rfl⟩
      · rw [if_neg (fun e => by rw [e, t_m1] at i2; omega), i1]
        rw [i1] at i2 i5
        obtain ⟨m1, m2⟩ := mn_ge i2 hn
        refine ⟨rfl, m1, ?_⟩
        rcases m2 with m2 | m2
        · exact ⟨k, by omega, i4, i5.trans m2.symm⟩
        · exact ⟨n, by omega, c, m2.symm⟩
theorem fm_congr {w v : Nat → Int32} {s : Int32} : ∀ n : Nat, (∀ k, k < n → ¬ bitI s k → w k = v k) → fmM w s n = fmM v s n
  | 0, _ => rfl
  | n + 1, h => by
    rw [fmM, fmM, fm_congr n (fun k hk hb => h k (by omega) hb)]
    by_cases c : bitI s n
    · rw [if_pos c, if_pos c]
    · rw [if_neg c, if_neg c, h n (by omega) c]
/-- bits of a small set -/
theorem bitZ8 {s k : Nat} (hs : s < 256) (hk : k < 8) : bitI (iZ (s : Int)) k ↔ s.testBit k = true := by
  have e : (iZ (s : Int)).toBitVec = BitVec.ofNat 32 s := by
    show BitVec.ofInt 32 (s : Int) = _
    rw [BitVec.ofInt_natCast]
  show (iZ (s : Int)).toBitVec.getLsbD k = true ↔ _
  rw [e, BitVec.getLsbD_ofNat]
  simp [show k < 32 by omega]
theorem or_iZ {s k : Nat} (hs : s < 256) (hk : k < 8) : iZ (s : Int) ||| shlI 1 (iZ (k : Int)) = iZ ((s ||| 2 ^ k : Nat) : Int) := by
  have a : ∀ n : Nat, iZ (n : Int) = nI n := fun n => by
    apply Int32.toBitVec_inj.mp
    show BitVec.ofInt 32 (n : Int) = BitVec.ofNat 32 n
    rw [BitVec.ofInt_natCast]
  rw [(sh_tab ⟨k, by omega⟩).1, a, a, nI_or]
theorem or_gt {s k H : Nat} (hs : s < 2 ^ H) (hk : k < H) (hb : ¬ s.testBit k = true) : s < s ||| 2 ^ k ∧ s ||| 2 ^ k < 2 ^ H := by
  refine ⟨?_, Nat.or_lt_two_pow hs (Nat.pow_lt_pow_right (by omega) hk)⟩
  have h1 : s ≤ s ||| 2 ^ k := Nat.left_le_or
  have h2 : s ≠ s ||| 2 ^ k := fun e => by
    have : (s ||| 2 ^ k).testBit k = true := by
      rw [Nat.testBit_or, Nat.testBit_two_pow_self, Bool.or_true]
    rw [← e] at this
    exact hb this
  omega
theorem ex_unset {s H : Nat} (hs : s + 1 < 2 ^ H) : ∃ k, k < H ∧ ¬ s.testBit k = true := by
  refine Classical.byContradiction fun c => ?_
  have h : ∀ k, k < H → s.testBit k = true := fun k hk => Classical.byContradiction fun q => c ⟨k, hk, q⟩
  have : s = 2 ^ H - 1 := by
    apply Nat.eq_of_testBit_eq
    intro i
    rw [Nat.testBit_two_pow_sub_one]
    by_cases q : i < H
    · rw [h i q, decide_eq_true q]
    · rw [decide_eq_false q]
      exact Nat.testBit_lt_two_pow (Nat.lt_of_lt_of_le (by omega) (Nat.pow_le_pow_right (n := 2) (by omega) (show H ≤ i by omega)))
  omega
/-- numbers and sums of the harvest -/
abbrev nu (a : Nat → Int32) (k : Nat) : Nat := (a k).toInt.toNat
abbrev hg (a : Nat → Int32) (x : Int32) : Nat → Int := fun j => if bitI x j then (a j).toInt else 0
def su (a : Nat → Int32) (H : Nat) (s : Nat) : Nat := (esum (hg a (iZ (s : Int))) H).toNat
abbrev okH (a : Nat → Int32) : Prop := ∀ j, rg (a j) 0 999999999
theorem esum_b {f : Nat → Int} (h : ∀ j, 0 ≤ f j ∧ f j ≤ 999999999) : ∀ n : Nat, 0 ≤ esum f n ∧ esum f n ≤ 999999999 * n
  | 0 => ⟨Int.le_refl _, Int.le_refl _⟩
  | n + 1 => by
    have i := esum_b h n
    have q := h n
    show 0 ≤ esum f n + f n ∧ esum f n + f n ≤ _
    omega
theorem hg_b {a : Nat → Int32} (ha : okH a) (x : Int32) (j : Nat) : 0 ≤ hg a x j ∧ hg a x j ≤ 999999999 := by
  have := ha j
  unfold rg at this
  show 0 ≤ (if bitI x j then (a j).toInt else 0) ∧ (if bitI x j then (a j).toInt else 0) ≤ _
  split <;> omega
theorem su_eq {a : Nat → Int32} (ha : okH a) {H : Nat} (hH : H ≤ 8) (s : Nat) : esum (hg a (iZ (s : Int))) H = (su a H s : Int) ∧ su a H s < 10 ^ 18 := by
  have b := esum_b (hg_b ha (iZ (s : Int))) H
  have e18 : 10 ^ 18 = 1000000000000000000 := by decide
  unfold su
  omega
theorem nu_b {a : Nat → Int32} (ha : okH a) (k : Nat) : a k = iZ (nu a k : Int) ∧ nu a k < 10 ^ 9 ∧ (a k).toInt64 = jZ (nu a k : Int) := by
  have := ha k
  unfold rg at this
  have e9 : 10 ^ 9 = 1000000000 := by decide
  refine ⟨iZof this.1, by unfold nu; omega, ?_⟩
  rw [x64]
  congr 1
  unfold nu
  omega
abbrev gWk (R : Nat) (a : Nat → Int32) (H s k : Nat) : Int32 := wkR R (su a H s) (nu a k)
abbrev wT (R : Nat) (a : Nat → Int32) (H : Nat) (T : Nat → Int32) (s : Nat) : Nat → Int32 := fun k => gWk R a H s k + T (s ||| 2 ^ k)
/-- from s on the table is right -/
def gdA (R : Nat) (a : Nat → Int32) (H : Nat) (T : Nat → Int32) (s : Nat) : Prop := T (2 ^ H - 1) = 0 ∧ ∀ t, s ≤ t → t + 1 < 2 ^ H → T t = fmM (wT R a H T t) (iZ (t : Int)) H
theorem gdA_bd {R : Nat} (hR : R ≤ 12) {a : Nat → Int32} {H : Nat} (hH : H ≤ 8) {T : Nat → Int32} {s : Nat} (h : gdA R a H T s) : ∀ m t : Nat, t + m + 1 = 2 ^ H → s ≤ t → 0 ≤ (T t).toInt ∧ (T t).toInt ≤ 1296 * m := by
  have hp := pow8 hH
  intro m
  induction m using Nat.strongRecOn with
  | ind m ih =>
    intro t e hs
    by_cases c : m = 0
    · have : t = 2 ^ H - 1 := by omega
      rw [this, h.1, t_0]; omega
    · have ht := h.2 t hs (by omega)
      have key : ∀ k, k < H → ¬ bitI (iZ (t : Int)) k → 0 ≤ (wT R a H T t k).toInt ∧ (wT R a H T t k).toInt ≤ 1296 * m := by
        intro k hk hb
        rw [bitZ8 (by omega) (by omega)] at hb
        obtain ⟨g1, g2⟩ := or_gt (show t < 2 ^ H by omega) hk hb
        have i := ih (2 ^ H - 1 - (t ||| 2 ^ k)) (by omega) (t ||| 2 ^ k) (by omega) (by omega)
        have w : 0 ≤ (gWk R a H t k).toInt ∧ (gWk R a H t k).toInt ≤ 1296 := wkR_b hR (su a H t) (nu a k)
        show 0 ≤ (gWk R a H t k + T (t ||| 2 ^ k)).toInt ∧ (gWk R a H t k + T (t ||| 2 ^ k)).toInt ≤ _
        rw [tadd (by omega) (by omega)]
        omega
      rcases fm_eq H (fun k hk hb => (key k hk hb).1) with ⟨_, _, f3⟩ | ⟨_, f2, k, f3, f4, f5⟩
      · obtain ⟨k, k1, k2⟩ := ex_unset (s := t) (H := H) (by omega)
        exact absurd ((bitZ8 (by omega) (by omega)).mp (f3 k k1)) k2
      · rw [ht, ← f5]
        exact key k f3 f4
theorem gdA_w {R : Nat} (hR : R ≤ 12) {a : Nat → Int32} {H : Nat} (hH : H ≤ 8) {T : Nat → Int32} {t : Nat} (h : gdA R a H T (t + 1)) (ht : t + 1 < 2 ^ H) : (∀ k, k < H → ¬ bitI (iZ (t : Int)) k → 0 ≤ (wT R a H T t k).toInt) ∧ fmM (wT R a H T t) (iZ (t : Int)) H = fmC (wT R a H T t) (iZ (t : Int)) H ∧ ∃ k, k < H ∧ ¬ bitI (iZ (t : Int)) k ∧ wT R a H T t k = fmM (wT R a H T t) (iZ (t : Int)) H := by
  have hp := pow8 hH
  have key : ∀ k, k < H → ¬ bitI (iZ (t : Int)) k → 0 ≤ (wT R a H T t k).toInt := by
    intro k hk hb
    rw [bitZ8 (by omega) (by omega)] at hb
    obtain ⟨g1, g2⟩ := or_gt (show t < 2 ^ H by omega) hk hb
    have i := gdA_bd hR hH h (2 ^ H - 1 - (t ||| 2 ^ k)) (t ||| 2 ^ k) (by omega) (by omega)
    have w : 0 ≤ (gWk R a H t k).toInt ∧ (gWk R a H t k).toInt ≤ 1296 := wkR_b hR (su a H t) (nu a k)
    show 0 ≤ (gWk R a H t k + T (t ||| 2 ^ k)).toInt
    rw [tadd (by omega) (by omega)]
    omega
  refine ⟨key, ?_⟩
  rcases fm_eq H key with ⟨_, _, f3⟩ | ⟨f1, f2, f3⟩
  · obtain ⟨k, k1, k2⟩ := ex_unset (s := t) (H := H) ht
    exact absurd ((bitZ8 (by omega) (by omega)).mp (f3 k k1)) k2
  · exact ⟨f1, f3⟩
theorem gdA_uniq {R : Nat} {a : Nat → Int32} {H : Nat} (hH : H ≤ 8) {T U : Nat → Int32} (h1 : gdA R a H T 0) (h2 : gdA R a H U 0) : ∀ m t : Nat, t + m + 1 = 2 ^ H → T t = U t := by
  have hp := pow8 hH
  intro m
  induction m using Nat.strongRecOn with
  | ind m ih =>
    intro t e
    by_cases c : m = 0
    · have : t = 2 ^ H - 1 := by omega
      rw [this, h1.1, h2.1]
    · rw [h1.2 t (by omega) (by omega), h2.2 t (by omega) (by omega)]
      refine fm_congr H (fun k hk hb => ?_)
      rw [bitZ8 (by omega) (by omega)] at hb
      obtain ⟨g1, g2⟩ := or_gt (show t < 2 ^ H by omega) hk hb
      show _ + T (t ||| 2 ^ k) = _ + U (t ||| 2 ^ k)
      rw [ih (2 ^ H - 1 - (t ||| 2 ^ k)) (by omega) (t ||| 2 ^ k) (by omega)]
/-- one more row, downwards -/
theorem gdA_step {R : Nat} {a : Nat → Int32} {H : Nat} (hH : H ≤ 8) {T U : Nat → Int32} {t : Nat} (h : gdA R a H T (t + 1)) (ht : t + 1 < 2 ^ H) (hu : ∀ j, j ≠ t → U j = T j) (hv : U t = fmM (wT R a H T t) (iZ (t : Int)) H) : gdA R a H U t := by
  have hp := pow8 hH
  have same : ∀ j k, t ≤ j → j < 2 ^ H → k < H → ¬ bitI (iZ (j : Int)) k → wT R a H U j k = wT R a H T j k := by
    intro j k h1 h2 h3 h4
    rw [bitZ8 (by omega) (by omega)] at h4
    obtain ⟨g1, g2⟩ := or_gt h2 h3 h4
    show _ + U (j ||| 2 ^ k) = _ + T (j ||| 2 ^ k)
    rw [hu _ (by omega)]
  refine ⟨by rw [hu _ (by omega)]; exact h.1, fun j h1 h2 => ?_⟩
  rw [fm_congr H (fun k hk hb => same j k h1 (by omega) hk hb)]
  by_cases c : j = t
  · rw [c]; exact hv
  · rw [hu j c]; exact h.2 j (by omega) h2
