/-! HOW LIKELY A NUMBER IS HEARD -/
theorem s_itself_go (σ : St) (d : Nat) (hd : d < 10) (h : Rear σ) : ∀ m n j : Nat, ∀ x : Int32, j + m = 10 → m < n → x.toInt = 100 - esum (fun k => (gI σ 45 (10 * d + k)).toInt) j → f_X10_itself_5 n (iZ (d : Int)) x (iZ (j : Int)) σ = some (gI σ 16 (11 * d), σ) := by
  obtain ⟨r1, r2, r3, r4, r5⟩ := h.1 d hd
  intro m
  induction m with
  | zero =>
    intro n j x e hn hx
    cases n with
    | zero => omega
    | succ n =>
      have : j = 10 := by omega
      subst this
      rw [f_X10_itself_5, if_pos (by rw [leI, iZt (by omega), t_10]; omega)]
      have ex : x = gI σ 16 (11 * d) := by rw [eI, hx, r4]
      rw [ex]
  | succ m ih =>
    intro n j x e hn hx
    cases n with
    | zero => omega
    | succ n =>
      have hb := esum_bd (f := fun k => (gI σ 45 (10 * d + k)).toInt) j (fun k hk => r1 k (by omega))
      obtain ⟨b1, b2⟩ := r1 j (by omega)
      rw [f_X10_itself_5, if_neg (by rw [leI, iZt (by omega), t_10]; omega), ten_a, iZa, gd_t (iZb (show 10 * d + j < 100 by omega) (by omega)), iZc (show 10 * d + j < 2147483648 by omega)]
      unfold f_X10_itself_25
      rw [iZs]
      refine ih n (j + 1) _ (by omega) (by omega) ?_
      rw [tsub (by omega) (by omega), hx]
      show _ = 100 - (esum _ j + (gI σ 45 (10 * d + j)).toInt)
      omega
theorem s_itself (σ : St) (d : Nat) (hd : d < 10) (h : Rear σ) : f_X10_itself (iZ (d : Int)) σ = some (gI σ 16 (11 * d), σ) :=
  s_itself_go σ d hd h 10 FU 0 100 (by omega) (by unfold FU; omega) rfl
def prodF (F : Nat → Int) : Nat → Int
  | 0 => 1
  | n + 1 => prodF F n * F n
abbrev fac (σ : St) (v w : Nat) (k : Nat) : Int := (gI σ 16 (10 * (v / 10 ^ k % 10) + w / 10 ^ k % 10)).toInt
theorem nd_le {v j : Nat} (h : v < 10 ^ 18) : nd v ≤ j ↔ v < 10 ^ j := ndF_le 18 v j h
theorem s_heard_go (σ : St) (v w : Nat) (hv : v < 10 ^ 9) (hw : w < 10 ^ 13) (h : Rear σ) : ∀ m n k : Nat, k + m = nd v → m < n → f_X10_heardAs_22 n (iZ (v : Int)) (jZ (w : Int)) (jZ (prodF (fac σ v w) k)) (iZ (k : Int)) σ = some (jZ (prodF (fac σ v w) (nd v)), σ) := by
  have e9 : 10 ^ 9 = 1000000000 := by decide
  have e13 : 10 ^ 13 = 10000000000000 := by decide
  have e18 : 10 ^ 18 = 1000000000000000000 := by decide
  have hn9 : nd v ≤ 9 := (nd_le (by omega)).mpr hv
  have ev : (iZ (v : Int)).toInt64 = jZ (v : Int) := iZ_l (by omega) (by omega)
  intro m
  induction m with
  | zero =>
    intro n k e hn
    cases n with
    | zero => omega
    | succ n =>
      have : k = nd v := by omega
      subst this
      rw [f_X10_heardAs_22, ev, s_many σ v (by omega)]
      simp only [Option.bind_some]
      rw [if_pos (by rw [leI]; exact Int.le_refl _)]
  | succ m ih =>
    intro n k e hn
    cases n with
    | zero => omega
    | succ n =>
      rw [f_X10_heardAs_22, ev, s_many σ v (by omega)]
      simp only [Option.bind_some]
      rw [if_neg (by rw [leI, iZt (by omega), iZt (by omega)]; omega), s_digitOf10 σ v k (by omega) (by omega)]
      simp only [Option.bind_some]
      rw [s_digitOf10 σ w k (by omega) (by omega)]
      simp only [Option.bind_some]
      unfold f_X10_heardAs_83 f_X10_heardAs_86
      have hs := ih n (k + 1) (by omega) (by omega)
      have hp : prodF (fac σ v w) (k + 1) = prodF (fac σ v w) k * fac σ v w k := rfl
      rw [hp] at hs
      have la : v / 10 ^ k % 10 < 10 := Nat.mod_lt _ (by omega)
      have lb : w / 10 ^ k % 10 < 10 := Nat.mod_lt _ (by omega)
      have hf : fac σ v w k = (gI σ 16 (10 * (v / 10 ^ k % 10) + w / 10 ^ k % 10)).toInt := rfl
      rw [hf] at hs
      generalize v / 10 ^ k % 10 = a at la hs ⊢
      generalize w / 10 ^ k % 10 = b at lb hs ⊢
      rw [s_itself σ a la h]
      simp only [Option.bind_some]
      rw [ten_a, iZa, gd_t (iZb (show 10 * a + b < 100 by omega) (by omega)), iZc (show 10 * a + b < 2147483648 by omega), iZs, x64, x64, jZ_mul, jZ_mul]
      obtain ⟨r1, r2, r3, r4, r5⟩ := h.1 a la
      by_cases q : a = b
      · subst q
        rw [if_pos rfl]
        rw [show 10 * a + a = 11 * a by omega] at hs
        exact hs
      · rw [if_neg (by rw [eI, iZt (by omega), iZt (by omega)]; omega)]
        rw [r3 b lb (fun c => q c.symm)] at hs
        exact hs
theorem s_heard (σ : St) (v w : Nat) (hv : v < 10 ^ 9) (hw : w < 10 ^ 13) (h : Rear σ) : f_X10_heardAs (iZ (v : Int)) (jZ (w : Int)) σ = some (if nd w ≤ nd v then jZ (prodF (fac σ v w) (nd v)) else 0, σ) := by
  have e9 : 10 ^ 9 = 1000000000 := by decide
  have e13 : 10 ^ 13 = 10000000000000 := by decide
  have e18 : 10 ^ 18 = 1000000000000000000 := by decide
  have hn9 : nd v ≤ 9 := (nd_le (by omega)).mpr hv
  have hn13 : nd w ≤ 13 := (nd_le (by omega)).mpr hw
  have ev : (iZ (v : Int)).toInt64 = jZ (v : Int) := iZ_l (by omega) (by omega)
  unfold f_X10_heardAs
  rw [s_many σ w (by omega)]
  simp only [Option.bind_some]
  rw [ev, s_many σ v (by omega)]
  simp only [Option.bind_some, leI, iZt (show nd w < 2147483648 by omega), iZt (show nd v < 2147483648 by omega)]
  by_cases q : nd w ≤ nd v
  · rw [if_pos (by omega), if_pos q]
    exact s_heard_go σ v w hv hw h (nd v) FU 0 (by omega) (by unfold FU; omega)
  · rw [if_neg (by omega), if_neg q]
