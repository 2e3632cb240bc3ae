/-! MAKE: what a number costs -/
def phF (f : Nat → Int) : Nat → Int
  | 0 => 0
  | n + 1 => phF f n + (1000 * f n + min (f n) 1)
theorem phF_cg {f g : Nat → Int} : ∀ n : Nat, (∀ j, j < n → f j = g j) → phF f n = phF g n
  | 0, _ => rfl
  | n + 1, h => by
    show phF f n + (1000 * f n + min (f n) 1) = phF g n + (1000 * g n + min (g n) 1)
    rw [phF_cg n (fun j hj => h j (by omega)), h n (by omega)]
theorem phF_up {f g : Nat → Int} {b : Nat} (hk : ∀ k, k ≠ b → g k = f k) : ∀ n : Nat, b < n → phF g n = phF f n - (1000 * f b + min (f b) 1) + (1000 * g b + min (g b) 1)
  | 0, h => absurd h (Nat.not_lt_zero _)
  | n + 1, h => by
    show phF g n + (1000 * g n + min (g n) 1) = phF f n + (1000 * f n + min (f n) 1) - (1000 * f b + min (f b) 1) + (1000 * g b + min (g b) 1)
    by_cases e : b = n
    · subst e
      rw [phF_cg b (fun j hj => hk j (by omega))]; omega
    · rw [phF_up hk n (by omega), hk n (fun c => e c.symm)]; omega
/-- a stand changes walks and cost -/
theorem ph_stand {R k : Nat} {v : Int32} {V : Vl} (hk : k < R) (hk12 : k < 12) (hv : rg v 0 9) (ok : okD V) (W : Int) (hW : V.2.2.1.toInt = W) (hW2 : 0 ≤ W) (hW3 : W ≤ 1000000) : phF (vD (standV F9 k v V)) R = phF (vD V) R - (1000 * (V.1 k).toInt + min (V.1 k).toInt 1) + (1000 * v.toInt + min v.toInt 1) ∧ (standV F9 k v V).2.2.1.toInt = W + (v.toInt - (V.1 k).toInt).natAbs := by
  have od := ok k hk12
  obtain ⟨s1, s2⟩ := stand_9 (k := k) (V := V) hv
  have g0 : vD (standV F9 k v V) k = v.toInt := by
    show ((standV F9 k v V).1 k).toInt = _
    rw [s1]; unfold upF; rw [if_pos rfl]
  refine ⟨?_, ?_⟩
  · have := phF_up (f := vD V) (g := vD (standV F9 k v V)) (b := k) (fun j hj => by
      show ((standV F9 k v V).1 j).toInt = _
      rw [s1]; unfold upF; rw [if_neg hj]) R hk
    rw [this, g0]
  · have a := ab_t hv od
    unfold rg at hv od
    rw [s2, tadd (by rw [hW, a]; omega) (by rw [hW, a]; omega), hW, a]
theorem ph_drive {R : Nat} (hR : R ≤ 12) : ∀ m r : Nat, ∀ y : Int32, ∀ V : Vl, ∀ W : Int, r + m = R → rg y 0 9 → okD V → V.2.2.1.toInt = W → 0 ≤ W → W ≤ 100000 - 10 * m → ∃ W' : Int, (driveV F9 m r y V).2.2.1.toInt = W' ∧ W ≤ W' ∧ W' ≤ W + 10 * m ∧ phF (vD (driveV F9 m r y V)) R ≤ phF (vD V) R + 1000 * (W' - W) + 1 := by
  intro m
  induction m with
  | zero =>
    intro r y V W e hy ok hW h0 h1
    refine ⟨W, hW, Int.le_refl _, by omega, ?_⟩
    show phF (vD V) R ≤ _
    omega
  | succ m ih =>
    intro r y V W e hy ok hW h0 h1
    have od := ok r (by omega)
    have hy' := hy
    unfold rg at hy' od
    have hn : (V.1 r + y).toInt = (V.1 r).toInt + y.toInt := tadd (by omega) (by omega)
    rw [driveV]
    by_cases c : 0 ≤ (V.1 r + y).toInt ∧ (V.1 r + y).toInt ≤ 9
    · rw [if_pos c]
      obtain ⟨p1, p2⟩ := ph_stand (R := R) (k := r) (by omega) (by omega) c ok W hW h0 (by omega)
      refine ⟨_, p2, ?_, ?_, ?_⟩
      · omega
      · omega
      · rw [p1, hn]; omega
    · rw [if_neg c]
      have y0 : (0 : Int32) ≤ y := by rw [leI, t_0]; omega
      rw [if_pos y0, if_pos y0]
      have e10 : (V.1 r + y - 10).toInt = (V.1 r).toInt + y.toInt - 10 := by rw [tsub (by rw [t_10]; omega) (by rw [t_10]; omega), t_10, hn]
      have hv : rg (V.1 r + y - 10) 0 9 := by unfold rg; omega
      obtain ⟨p1, p2⟩ := ph_stand (R := R) (k := r) (by omega) (by omega) hv ok W hW h0 (by omega)
      obtain ⟨W', q1, q2, q3, q4⟩ := ih (r + 1) 1 (caV (standV F9 r (V.1 r + y - 10) V)) _ (by omega) rg1 (ok_stand okF9 ok r (by omega) hv) p2 (by omega) (by omega)
      have ev : phF (vD (caV (standV F9 r (V.1 r + y - 10) V))) R = phF (vD (standV F9 r (V.1 r + y - 10) V)) R := rfl
      rw [ev, p1, e10] at q4
      rw [e10] at q2 q3
      refine ⟨W', q1, by omega, by omega, by omega⟩
/-- a digit driven by itself -/
theorem ph_dbl {R : Nat} (hR : R ≤ 12) (m r : Nat) (V : Vl) (W : Int) (e : r + (m + 1) = R) (ok : okD V) (hW : V.2.2.1.toInt = W) (h0 : 0 ≤ W) (h1 : W ≤ 50000) : ∃ W' : Int, (driveV F9 (m + 1) r (V.1 r) V).2.2.1.toInt = W' ∧ W ≤ W' ∧ W' ≤ W + 200 ∧ phF (vD (driveV F9 (m + 1) r (V.1 r) V)) R ≤ phF (vD V) R + 1000 * (W' - W) := by
  have od := ok r (by omega)
  have od' := od
  unfold rg at od'
  have hn : (V.1 r + V.1 r).toInt = (V.1 r).toInt + (V.1 r).toInt := tadd (by omega) (by omega)
  rw [driveV]
  by_cases c : 0 ≤ (V.1 r + V.1 r).toInt ∧ (V.1 r + V.1 r).toInt ≤ 9
  · rw [if_pos c]
    obtain ⟨p1, p2⟩ := ph_stand (R := R) (k := r) (by omega) (by omega) c ok W hW h0 (by omega)
    refine ⟨_, p2, ?_, ?_, ?_⟩
    · omega
    · omega
    · rw [p1, hn]; omega
  · rw [if_neg c]
    have y0 : (0 : Int32) ≤ V.1 r := by rw [leI, t_0]; omega
    rw [if_pos y0, if_pos y0]
    have e10 : (V.1 r + V.1 r - 10).toInt = (V.1 r).toInt + (V.1 r).toInt - 10 := by rw [tsub (by rw [t_10]; omega) (by rw [t_10]; omega), t_10, hn]
    have hv : rg (V.1 r + V.1 r - 10) 0 9 := by unfold rg; omega
    obtain ⟨p1, p2⟩ := ph_stand (R := R) (k := r) (by omega) (by omega) hv ok W hW h0 (by omega)
    obtain ⟨W', q1, q2, q3, q4⟩ := ph_drive hR m (r + 1) 1 (caV (standV F9 r (V.1 r + V.1 r - 10) V)) _ (by omega) rg1 (ok_stand okF9 ok r (by omega) hv) p2 (by omega) (by omega)
    have ev : phF (vD (caV (standV F9 r (V.1 r + V.1 r - 10) V))) R = phF (vD (standV F9 r (V.1 r + V.1 r - 10) V)) R := rfl
    rw [ev, p1, e10] at q4
    rw [e10] at q2 q3
    refine ⟨W', q1, by omega, by omega, by omega⟩
def pC (v : Nat) : Int := phF (fun j => (dgN v j : Int)) 3
theorem pC_V {V : Vl} {v : Nat} (h : ∀ j, j < 3 → V.1 j = dgI v j) : phF (vD V) 3 = pC v := by
  unfold pC
  refine phF_cg 3 (fun j hj => ?_)
  show (V.1 j).toInt = _
  have b : dgN v j < 10 := Nat.mod_lt _ (by omega)
  rw [h j hj]
  unfold dgI
  rw [iZt (by omega)]
