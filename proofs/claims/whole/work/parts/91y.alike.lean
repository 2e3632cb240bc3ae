/-! WHAT A BELL MISSES: sums -/
theorem esum_add {f g : Nat → Int} : ∀ n : Nat, esum (fun j => f j + g j) n = esum f n + esum g n
  | 0 => rfl
  | n + 1 => by
    show esum (fun j => f j + g j) n + (f n + g n) = (esum f n + f n) + (esum g n + g n)
    rw [esum_add n]; omega
theorem esum_z : ∀ n : Nat, esum (fun _ => 0) n = 0
  | 0 => rfl
  | n + 1 => by
    show esum (fun _ => 0) n + 0 = 0
    rw [esum_z n]; rfl
theorem esum_cg {f g : Nat → Int} : ∀ n : Nat, (∀ j, j < n → f j = g j) → esum f n = esum g n
  | 0, _ => rfl
  | n + 1, h => by
    show esum f n + f n = esum g n + g n
    rw [esum_cg n (fun j hj => h j (by omega)), h n (by omega)]
theorem esum_swap {f : Nat → Nat → Int} (n : Nat) : ∀ m : Nat, esum (fun k => esum (fun d => f k d) n) m = esum (fun d => esum (fun k => f k d) m) n
  | 0 => (esum_z n).symm
  | m + 1 => by
    show esum (fun k => esum (fun d => f k d) n) m + esum (fun d => f m d) n = esum (fun d => esum (fun k => f k d) m + f m d) n
    rw [esum_swap n m, esum_add]
theorem esum_nn {f : Nat → Int} : ∀ n : Nat, (∀ j, j < n → 0 ≤ f j) → 0 ≤ esum f n
  | 0, _ => Int.le_refl _
  | n + 1, h => by
    show 0 ≤ esum f n + f n
    have := esum_nn n (fun j hj => h j (by omega))
    have := h n (by omega)
    omega
theorem esum_ge {f : Nat → Int} {j : Nat} : ∀ n : Nat, (∀ i, i < n → 0 ≤ f i) → j < n → f j ≤ esum f n
  | 0, _, hj => by omega
  | n + 1, h, hj => by
    show f j ≤ esum f n + f n
    have hn := h n (by omega)
    by_cases c : j = n
    · rw [c]
      have := esum_nn n (fun i hi => h i (by omega))
      omega
    · have := esum_ge n (fun i hi => h i (by omega)) (show j < n by omega)
      omega
theorem esum_le {f g : Nat → Int} : ∀ n : Nat, (∀ j, j < n → f j ≤ g j) → esum f n ≤ esum g n
  | 0, _ => Int.le_refl _
  | n + 1, h => by
    show esum f n + f n ≤ esum g n + g n
    have := esum_le n (fun j hj => h j (by omega))
    have := h n (by omega)
    omega
theorem esum_mul {f : Nat → Int} (c : Int) : ∀ n : Nat, esum (fun j => c * f j) n = c * esum f n
  | 0 => (Int.mul_zero c).symm
  | n + 1 => by
    show esum (fun j => c * f j) n + c * f n = c * (esum f n + f n)
    rw [esum_mul c n, Int.mul_add]
theorem esum_up {f g : Nat → Int} {b : Nat} {y : Int} (hb : g b = y) (hk : ∀ k, k ≠ b → g k = f k) : ∀ n : Nat, b < n → esum g n = esum f n + (y - f b)
  | 0, h => absurd h (Nat.not_lt_zero _)
  | n + 1, h => by
    show esum g n + g n = esum f n + f n + (y - f b)
    by_cases e : b = n
    · subst e
      rw [esum_cg b (fun j hj => hk j (by omega)), hb]; omega
    · rw [esum_up hb hk n (by omega), hk n (fun c => e c.symm)]; omega
/-- what one digit does to the shares -/
abbrev trm (m w : Nat) (P B : Nat → Int) (t k d : Nat) : Int := if (k + d * w) % m = t then P k * B d else 0
def S2 (m w : Nat) (P B : Nat → Int) (t : Nat) : Int := esum (fun k => esum (fun d => trm m w P B t k d) 10) m
def S3 (m w : Nat) (P B : Nat → Int) (t : Nat) (n : Nat) : Int := esum (fun d => esum (fun k => trm m w P B t k d) m) n
theorem S23 (m w : Nat) (P B : Nat → Int) (t : Nat) : S2 m w P B t = S3 m w P B t 10 := esum_swap (f := fun k d => trm m w P B t k d) 10 m
theorem S2_cg {m w : Nat} {P P' B B' : Nat → Int} (t : Nat) (hP : ∀ k, k < m → P k = P' k) (hB : ∀ d, d < 10 → B d = B' d) : S2 m w P B t = S2 m w P' B' t := by
  unfold S2
  refine esum_cg m (fun k hk => esum_cg 10 (fun d hd => ?_))
  show (if (k + d * w) % m = t then P k * B d else 0) = (if (k + d * w) % m = t then P' k * B' d else 0)
  rw [hP k hk, hB d hd]
theorem hit_inj {m c k j t : Nat} (hm : 0 < m) (hk : k < m) (hj : j < m) (h1 : (k + c) % m = t) (h2 : (j + c) % m = t) : k = j := by
  have e : (k + c) % m = (j + c) % m := by omega
  have a1 := Nat.div_add_mod (k + c) m
  have a2 := Nat.div_add_mod (j + c) m
  rw [e] at a1
  have hlt : k + c < j + c + m ∧ j + c < k + c + m := by omega
  have : (k + c) / m = (j + c) / m := by
    have l1 : ¬ (k + c) / m < (j + c) / m := fun q => by
      have : m * ((k + c) / m + 1) ≤ m * ((j + c) / m) := Nat.mul_le_mul_left m q
      rw [Nat.mul_add] at this
      omega
    have l2 : ¬ (j + c) / m < (k + c) / m := fun q => by
      have : m * ((j + c) / m + 1) ≤ m * ((k + c) / m) := Nat.mul_le_mul_left m q
      rw [Nat.mul_add] at this
      omega
    omega
  rw [this] at a1
  omega
theorem gath {m c t : Nat} (hm : 0 < m) {P : Nat → Int} {b : Int} : ∀ n : Nat, n ≤ m → ((∀ k, k < n → (k + c) % m ≠ t) ∧ esum (fun k => if (k + c) % m = t then P k * b else 0) n = 0) ∨ ∃ k, k < n ∧ (k + c) % m = t ∧ esum (fun k => if (k + c) % m = t then P k * b else 0) n = P k * b
  | 0, _ => Or.inl ⟨fun k hk => by omega, rfl⟩
  | n + 1, h => by
    have e : esum (fun k => if (k + c) % m = t then P k * b else 0) (n + 1) = esum (fun k => if (k + c) % m = t then P k * b else 0) n + (if (n + c) % m = t then P n * b else 0) := rfl
    rw [e]
    rcases gath hm n (by omega) (P := P) (b := b) with ⟨i1, i2⟩ | ⟨k, i1, i2, i3⟩
    · by_cases q : (n + c) % m = t
      · right
        exact ⟨n, by omega, q, by rw [i2, if_pos q]; omega⟩
      · left
        refine ⟨fun k hk => ?_, by rw [i2, if_neg q]; rfl⟩
        by_cases e : k = n
        · rw [e]; exact q
        · exact i1 k (by omega)
    · right
      have q : ¬ (n + c) % m = t := fun q => by
        have := hit_inj hm (show k < m by omega) (show n < m by omega) i2 q
        omega
      exact ⟨k, by omega, i2, by rw [i3, if_neg q]; omega⟩
theorem S2_b {m w : Nat} (hm : 0 < m) {P B : Nat → Int} {M : Int} (hP : ∀ k, k < m → 0 ≤ P k ∧ P k ≤ M) (hM : 0 ≤ M) (hB : ∀ d, d < 10 → 0 ≤ B d) (hS : esum B 10 = 100) (t : Nat) : 0 ≤ S2 m w P B t ∧ S2 m w P B t ≤ M * 100 := by
  rw [S23]
  unfold S3
  have key : ∀ d, d < 10 → 0 ≤ esum (fun k => trm m w P B t k d) m ∧ esum (fun k => trm m w P B t k d) m ≤ M * B d := by
    intro d hd
    rcases gath hm (c := d * w) (t := t) (P := P) (b := B d) m (Nat.le_refl m) with ⟨_, g2⟩ | ⟨k, g1, _, g2⟩
    · have e : esum (fun k => trm m w P B t k d) m = 0 := g2
      rw [e]
      exact ⟨Int.le_refl _, Int.mul_nonneg hM (hB d hd)⟩
    · have e : esum (fun k => trm m w P B t k d) m = P k * B d := g2
      rw [e]
      exact ⟨Int.mul_nonneg (hP k g1).1 (hB d hd), Int.mul_le_mul_of_nonneg_right (hP k g1).2 (hB d hd)⟩
  refine ⟨esum_nn 10 (fun d hd => (key d hd).1), ?_⟩
  have := esum_le 10 (fun d hd => (key d hd).2)
  rw [esum_mul, hS] at this
  exact this
theorem S2_ge {m w : Nat} {P B : Nat → Int} (hP : ∀ k, k < m → 0 ≤ P k) (hB : ∀ d, d < 10 → 0 ≤ B d) {k d : Nat} (hk : k < m) (hd : d < 10) : P k * B d ≤ S2 m w P B ((k + d * w) % m) := by
  unfold S2
  have tn : ∀ k', k' < m → ∀ d', d' < 10 → 0 ≤ trm m w P B ((k + d * w) % m) k' d' := fun k' hk' d' hd' => by
    show 0 ≤ (if (k' + d' * w) % m = (k + d * w) % m then P k' * B d' else 0)
    split
    · exact Int.mul_nonneg (hP k' hk') (hB d' hd')
    · exact Int.le_refl _
  have a := esum_ge (f := fun k' => esum (fun d' => trm m w P B ((k + d * w) % m) k' d') 10) (j := k) m (fun i hi => esum_nn 10 (tn i hi)) hk
  have b := esum_ge (f := fun d' => trm m w P B ((k + d * w) % m) k d') (j := d) 10 (tn k hk) hd
  have e : trm m w P B ((k + d * w) % m) k d = P k * B d := if_pos rfl
  rw [e] at b
  exact Int.le_trans b a
/-- the shares when r digits were heard -/
def vA (m v : Nat) (F : Nat → Nat → Int) : Nat → Nat → Int
  | 0, t => if t = 0 then 1 else 0
  | r + 1, t => S2 m (10 ^ r % m) (vA m v F r) (F (dgN v r)) t
abbrev okFe (F : Nat → Nat → Int) : Prop := ∀ a, a < 10 → (∀ d, d < 10 → 0 ≤ F a d) ∧ esum (F a) 10 = 100
theorem vA_b {m v : Nat} (hm : 0 < m) {F : Nat → Nat → Int} (hF : okFe F) : ∀ r t : Nat, 0 ≤ vA m v F r t ∧ vA m v F r t ≤ 100 ^ r
  | 0, t => by
    show 0 ≤ (if t = 0 then (1 : Int) else 0) ∧ (if t = 0 then (1 : Int) else 0) ≤ 100 ^ 0
    rw [Int.pow_zero]
    split <;> omega
  | r + 1, t => by
    obtain ⟨f1, f2⟩ := hF (dgN v r) (Nat.mod_lt _ (by omega))
    rw [Int.pow_succ]
    exact S2_b hm (fun k _ => vA_b hm hF r k) (Int.le_of_lt (Int.pow_pos (by omega))) f1 f2 t
theorem vA_ge {m v : Nat} (hm : 0 < m) {F : Nat → Nat → Int} (hF : okFe F) : ∀ r : Nat, prodF (fun k => F (dgN v k) (dgN v k)) r ≤ vA m v F r (v % 10 ^ r % m)
  | 0 => by
    show (1 : Int) ≤ (if v % 10 ^ 0 % m = 0 then 1 else 0)
    rw [Nat.pow_zero, Nat.mod_one, Nat.zero_mod, if_pos rfl]; omega
  | r + 1 => by
    obtain ⟨f1, f2⟩ := hF (dgN v r) (Nat.mod_lt _ (by omega))
    have hd : dgN v r < 10 := Nat.mod_lt _ (by omega)
    have g := S2_ge (m := m) (w := 10 ^ r % m) (P := vA m v F r) (B := F (dgN v r)) (fun k _ => (vA_b hm hF r k).1) f1 (k := v % 10 ^ r % m) (d := dgN v r) (Nat.mod_lt _ hm) hd
    have e : (v % 10 ^ r % m + dgN v r * (10 ^ r % m)) % m = v % 10 ^ (r + 1) % m := by
      rw [mod_succ v r, Nat.add_mod, Nat.mod_mod, Nat.mul_mod, Nat.mod_mod, ← Nat.mul_mod, ← Nat.add_mod, Nat.mul_comm (dgN v r)]
    rw [e] at g
    show prodF (fun k => F (dgN v k) (dgN v k)) r * F (dgN v r) (dgN v r) ≤ _
    exact Int.le_trans (Int.mul_le_mul_of_nonneg_right (vA_ge hm hF r) (f1 _ hd)) g
/-- the echoes as such a table -/
abbrev Fs (σ : St) (a d : Nat) : Int := (gI σ 16 (10 * a + d)).toInt
theorem okFs {σ : St} (h : Rear σ) : okFe (Fs σ) := by
  intro a ha
  refine ⟨fun d hd => (fac_rg h ha hd).1, ?_⟩
  obtain ⟨r1, r2, r3, r4, r5⟩ := h.1 a ha
  have e1 : esum (fun k => if k < 10 then Fs σ a k else (gI σ 45 (10 * a + k)).toInt) 10 = esum (fun k => (gI σ 45 (10 * a + k)).toInt) 10 + (Fs σ a a - (gI σ 45 (10 * a + a)).toInt) :=
    esum_up (f := fun k => (gI σ 45 (10 * a + k)).toInt) (b := a) (y := Fs σ a a) (if_pos ha) (fun k hk => by
      show (if k < 10 then Fs σ a k else _) = _
      split
      · show (gI σ 16 (10 * a + k)).toInt = _
        rw [r3 k (by assumption) hk]
      · rfl) 10 ha
  have e2 : esum (fun k => if k < 10 then Fs σ a k else (gI σ 45 (10 * a + k)).toInt) 10 = esum (Fs σ a) 10 := esum_cg 10 (fun k hk => if_pos hk)
  rw [← e2, e1]
  have e3 : 10 * a + a = 11 * a := by omega
  show _ + ((gI σ 16 (10 * a + a)).toInt - _) = _
  rw [e3, r2, r4, t_0]
  omega
