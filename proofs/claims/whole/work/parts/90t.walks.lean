/-! WALKS OF A NUMBER THAT IS ADDED -/
abbrev F9 : Nat → Int32 := fun _ => 9
theorem okF9 : okF F9 := fun j _ => by unfold rg; rw [t_9]; omega
abbrev vD (V : Vl) : Nat → Int := fun j => (V.1 j).toInt
theorem vsum_up {f g : Nat → Int} {b : Nat} {y : Int} (hb : g b = y) (hk : ∀ k, k ≠ b → g k = f k) : ∀ n : Nat, b < n → vsum g n = vsum f n + (y - f b) * 10 ^ b
  | 0, h => absurd h (Nat.not_lt_zero _)
  | n + 1, h => by
    show vsum g n + g n * 10 ^ n = vsum f n + f n * 10 ^ n + (y - f b) * 10 ^ b
    by_cases e : b = n
    · subst e
      rw [vsum_congr b (fun j hj => hk j (by omega)), hb, Int.sub_mul]; omega
    · rw [vsum_up hb hk n (by omega), hk n (fun c => e c.symm)]; omega
theorem mn9 {v : Int32} (hv : rg v 0 9) : mnI v 9 = v := by
  unfold mnI rg at *
  rw [if_neg (by rw [lI, t_9]; omega)]
theorem stand_9 {k : Nat} {v : Int32} {V : Vl} (hv : rg v 0 9) : (standV F9 k v V).1 = upF V.1 k v ∧ (standV F9 k v V).2.2.1 = V.2.2.1 + abI (v - V.1 k) := by
  unfold standV
  simp only [mn9 hv]
  exact ⟨trivial, trivial⟩
theorem val_stand {R k : Nat} {v : Int32} {V : Vl} (hk : k < R) (hv : rg v 0 9) : vsum (vD (standV F9 k v V)) R = vsum (vD V) R + (v.toInt - (V.1 k).toInt) * 10 ^ k := by
  refine vsum_up (f := vD V) (g := vD (standV F9 k v V)) (b := k) (y := v.toInt) ?_ ?_ R hk
  · show ((standV F9 k v V).1 k).toInt = _
    rw [(stand_9 hv).1]; unfold upF; rw [if_pos rfl]
  · intro j hj
    show ((standV F9 k v V).1 j).toInt = _
    rw [(stand_9 hv).1]; unfold upF; rw [if_neg hj]
theorem ok_ca {V : Vl} (h : okD V) : okD (caV V) := h
theorem em_add {a b c P : Int} (h : a % P = b % P) : (a + c) % P = (b + c) % P := by
  rw [Int.add_emod, h, ← Int.add_emod]
theorem drive_9 {R : Nat} (hR : R ≤ 12) : ∀ m r : Nat, ∀ y : Int32, ∀ V : Vl, r + m = R → rg y 0 9 → okD V → okD (driveV F9 m r y V) ∧ vsum (vD (driveV F9 m r y V)) R % 10 ^ R = (vsum (vD V) R + y.toInt * 10 ^ r) % 10 ^ R
  | 0, r, y, V, e, hy, ok => by
    refine ⟨ok, ?_⟩
    have hr : r = R := by omega
    subst hr
    show vsum (vD V) r % 10 ^ r = _
    rw [Int.add_mul_emod_self_right]
  | m + 1, r, y, V, e, hy, ok => by
    have od := ok r (by omega)
    unfold rg at hy od
    have hn : (V.1 r + y).toInt = (V.1 r).toInt + y.toInt := tadd (by omega) (by omega)
    rw [driveV]
    by_cases c : 0 ≤ (V.1 r + y).toInt ∧ (V.1 r + y).toInt ≤ 9
    · rw [if_pos c]
      refine ⟨ok_stand okF9 ok r (by omega) c, ?_⟩
      rw [val_stand (by omega) c, hn]
      congr 2
      congr 1
      omega
    · rw [if_neg c]
      have y0 : (0 : Int32) ≤ y := by rw [leI, t_0]; omega
      rw [if_pos y0, if_pos y0]
      have e10 : (V.1 r + y - 10).toInt = (V.1 r).toInt + y.toInt - 10 := by rw [tsub (by rw [t_10]; omega) (by rw [t_10]; omega), t_10, hn]
      have hv : rg (V.1 r + y - 10) 0 9 := by unfold rg; omega
      obtain ⟨i1, i2⟩ := drive_9 hR m (r + 1) 1 (caV (standV F9 r (V.1 r + y - 10) V)) (by omega) (by unfold rg; rw [t_1]; omega) (ok_stand okF9 ok r (by omega) hv)
      refine ⟨i1, ?_⟩
      rw [i2]
      have ev : vsum (vD (caV (standV F9 r (V.1 r + y - 10) V))) R = vsum (vD (standV F9 r (V.1 r + y - 10) V)) R := rfl
      rw [ev, val_stand (by omega) hv, e10, t_1, Int.pow_succ]
      congr 1
      have : ((V.1 r).toInt + y.toInt - 10 - (V.1 r).toInt) * 10 ^ r = y.toInt * 10 ^ r - 10 * 10 ^ r := by
        rw [← Int.sub_mul]; congr 1; omega
      rw [this]
      omega
theorem vsum_rg {V : Vl} {R : Nat} (hR : R ≤ 12) (ok : okD V) : ∃ w : Nat, vsum (vD V) R = (w : Int) ∧ w < 10 ^ R ∧ ∀ j, j < R → dgI w j = V.1 j := by
  obtain ⟨w, h1, h2, h3⟩ := vsum_dig (f := vD V) R (fun j hj => ok j (by omega))
  refine ⟨w, h1, h2, fun j hj => ?_⟩
  have hd9 : dgN w j < 10 := Nat.mod_lt _ (by omega)
  rw [eI]
  unfold dgI
  rw [iZt (by omega)]; exact h3 j hj
/-- a digit of 0 changes nothing -/
theorem up_self (f : Nat → Int32) (k : Nat) : upF f k (f k) = f := by
  funext j
  unfold upF
  by_cases c : j = k
  · rw [if_pos c, c]
  · rw [if_neg c]
theorem ab_0 (x : Int32) : abI (x - x) = 0 := by
  rw [Int32.sub_self]
  unfold abI
  rw [if_pos (by rw [leI]; exact Int.le_refl _)]
theorem drive_0 {m r : Nat} {V : Vl} (hr : r < 12) (ok : okD V) : (driveV F9 (m + 1) r 0 V).1 = V.1 ∧ (driveV F9 (m + 1) r 0 V).2.2.1 = V.2.2.1 := by
  have od := ok r hr
  have e0 : V.1 r + 0 = V.1 r := Int32.add_zero _
  rw [driveV, e0, if_pos (show 0 ≤ (V.1 r).toInt ∧ (V.1 r).toInt ≤ 9 from od)]
  have s := stand_9 (k := r) (V := V) od
  refine ⟨?_, ?_⟩
  · rw [s.1, up_self]
  · rw [s.2, ab_0, Int32.add_zero]
def bringU (F : Nat → Int32) (R : Nat) (h : Nat → Int32) : Nat → Nat → Vl → Vl
  | 0, _, V => V
  | m + 1, r, V => bringU F R h m (r + 1) (driveV F (R - r) r (h r) V)
theorem bringVU {F : Nat → Int32} {R : Nat} {h : Nat → Int32} {N : Nat} : ∀ m : Nat, ∀ V : Vl, m ≤ N → bringV F R (fun _ r => h r) 0 N m V = bringU F R h m (N - m) V
  | 0, V, _ => rfl
  | m + 1, V, hm => by
    rw [bringV, bringVU m _ (by omega), bringU]
    have e : turnR 0 N (N - (m + 1)) = N - (m + 1) := if_pos rfl
    rw [e, show N - (m + 1) + 1 = N - m by omega]
theorem bringU_app {F : Nat → Int32} {R : Nat} {h : Nat → Int32} : ∀ a b r : Nat, ∀ V : Vl, bringU F R h (a + b) r V = bringU F R h b (r + a) (bringU F R h a r V)
  | 0, b, r, V => by rw [Nat.zero_add]; rfl
  | a + 1, b, r, V => by
    rw [show a + 1 + b = (a + b) + 1 by omega, bringU, bringU_app a b (r + 1), bringU, show r + (a + 1) = r + 1 + a by omega]
theorem bringU_9 {R : Nat} (hR : R ≤ 12) {h : Nat → Int32} (hh : ∀ r, rg (h r) 0 9) : ∀ m r : Nat, ∀ V : Vl, r + m ≤ R → okD V → okD (bringU F9 R h m r V) ∧ vsum (vD (bringU F9 R h m r V)) R % 10 ^ R = (vsum (vD V) R + (vsum (fun j => (h j).toInt) (r + m) - vsum (fun j => (h j).toInt) r)) % 10 ^ R
  | 0, r, V, e, ok => by
    refine ⟨ok, ?_⟩
    show vsum (vD V) R % 10 ^ R = _
    congr 1
    rw [Nat.add_zero]; omega
  | m + 1, r, V, e, ok => by
    obtain ⟨d1, d2⟩ := drive_9 hR (R - r) r (h r) V (by omega) (hh r) ok
    obtain ⟨i1, i2⟩ := bringU_9 hR hh m (r + 1) _ (by omega) d1
    refine ⟨i1, ?_⟩
    show vsum (vD (bringU F9 R h m (r + 1) (driveV F9 (R - r) r (h r) V))) R % 10 ^ R = _
    rw [i2, em_add d2]
    congr 1
    have e1 : vsum (fun j => (h j).toInt) (r + 1) = vsum (fun j => (h j).toInt) r + (h r).toInt * 10 ^ r := rfl
    rw [show r + (m + 1) = r + 1 + m by omega, e1]
    omega
theorem bringU_0 {R : Nat} (hR : R ≤ 12) {h : Nat → Int32} : ∀ m r : Nat, ∀ V : Vl, r + m ≤ R → okD V → (∀ j, r ≤ j → j < r + m → h j = 0) → (bringU F9 R h m r V).1 = V.1 ∧ (bringU F9 R h m r V).2.2.1 = V.2.2.1
  | 0, r, V, e, ok, hz => ⟨rfl, rfl⟩
  | m + 1, r, V, e, ok, hz => by
    rw [bringU, hz r (by omega) (by omega), show R - r = (R - r - 1) + 1 by omega]
    have d := drive_0 (m := R - r - 1) (V := V) (show r < 12 by omega) ok
    have ok1 : okD (driveV F9 (R - r - 1 + 1) r 0 V) := by
      intro j hj
      rw [d.1]; exact ok j hj
    obtain ⟨i1, i2⟩ := bringU_0 hR m (r + 1) _ (by omega) ok1 (fun j h1 h2 => hz j (by omega) (by omega))
    exact ⟨i1.trans d.1, i2.trans d.2⟩
theorem shR.bu {a b c d : Int32} {F : Nat → Int32} {R : Nat} {g : Nat → Int32} : ∀ m r : Nat, ∀ V W : Vl, shR a b c d V W → shR a b c d (bringU F R g m r V) (bringU F R g m r W)
  | 0, _, _, _, h => h
  | m + 1, r, V, W, h => shR.bu m (r + 1) _ _ (shR.drive _ _ _ _ _ h)
/-- the model's walks -/
theorem ov_dw (V : Vl) : (ovV V).1 = V.1 ∧ (ovV V).2.2.1 = V.2.2.1 := ⟨rfl, rfl⟩
theorem w_34 {R : Nat} (hR : R ≤ 12) (σ : St) (x2 : Int64) (x8 : Int32) (K : Int64 → Int32 → Int32 → Int64 → Int32 → St → Option (Int32 × St)) : ∀ m n p : Nat, ∀ y : Int32, ∀ V : Vl, p + m = R → m + 1 < n → rg y 0 9 → (m = 0 ∨ 0 < m) → okD V → f_X10_walksOf_34 K n x2 (iZ (R : Int)) V.2.2.1 (jZ (vsum (vD V) R)) x8 y (iZ (p : Int)) σ = K x2 (iZ (R : Int)) (driveV F9 m p y V).2.2.1 (jZ (vsum (vD (driveV F9 m p y V)) R)) (x8 + 1) σ := by
  intro m
  induction m with
  | zero =>
    intro n p y V e hn hy _ ok
    cases n with
    | zero => omega
    | succ n =>
      rw [f_X10_walksOf_34]
      unfold f_X10_walksOf_136
      have d : driveV F9 0 p y V = ovV V := rfl
      rw [d, (ov_dw V).2]
      have ev : vD (ovV V) = vD V := rfl
      rw [ev]
      by_cases c : y ≤ 0
      · rw [if_pos c]
      · rw [if_neg c, if_pos (by rw [leI, iZt (by omega), iZt (by omega)]; omega)]
  | succ m ih =>
    intro n p y V e hn hy _ ok
    cases n with
    | zero => omega
    | succ n =>
      have od := ok p (by omega)
      rw [f_X10_walksOf_34]
      unfold f_X10_walksOf_136
      by_cases c : y ≤ 0
      · have y0 : y = 0 := by
          unfold rg at hy
          rw [leI, t_0] at c
          rw [eI, t_0]; omega
        subst y0
        have d := drive_0 (m := m) (V := V) (show p < 12 by omega) ok
        have ev : vD (driveV F9 (m + 1) p 0 V) = vD V := by
          funext j
          show ((driveV F9 (m + 1) p 0 V).1 j).toInt = _
          rw [d.1]
        rw [if_pos c, d.2, ev]
      · rw [if_neg c, if_neg (by rw [leI, iZt (by omega), iZt (by omega)]; omega)]
        obtain ⟨w, w1, w2, w3⟩ := vsum_rg hR ok
        have hp := p12 hR
        have e18 : 10 ^ 18 = 1000000000000000000 := by decide
        rw [w1, s_digitOf10 σ w p (by omega) (by omega)]
        simp only [Option.bind_some]
        have ed : iZ ((w / 10 ^ p % 10 : Nat) : Int) = V.1 p := w3 p (by omega)
        rw [ed]
        unfold rg at hy od
        have hn0 : (V.1 p + y).toInt = (V.1 p).toInt + y.toInt := tadd (by omega) (by omega)
        unfold f_X10_walksOf_81 f_X10_walksOf_96 f_X10_walksOf_113 f_X10_walksOf_128
        rw [s_ten σ p (by omega)]
        simp only [Option.bind_some]
        rw [driveV]
        by_cases q : 0 ≤ (V.1 p + y).toInt ∧ (V.1 p + y).toInt ≤ 9
        · have q9 : V.1 p + y ≤ 9 := by rw [leI, t_9]; omega
          rw [if_pos q9, if_pos q9, if_pos q]
          have s := stand_9 (k := p) (V := V) q
          have sv := val_stand (R := R) (k := p) (V := V) (by omega) q
          have es : jZ (w : Int) + (V.1 p + y - V.1 p).toInt64 * jZ (10 ^ p) = jZ (vsum (vD (standV F9 p (V.1 p + y) V)) R) := by
            rw [sv, w1, x64, tsub (by omega) (by omega), jZ_mul, jZ_add]
          rw [es, ← s.2]
          have := ih n (p + 1) 0 (standV F9 p (V.1 p + y) V) (by omega) (by omega) (by unfold rg; rw [t_0]; omega) (by omega) (ok_stand okF9 ok p (by omega) q)
          rw [iZs, this]
          cases m with
          | zero =>
            have d : driveV F9 0 (p + 1) 0 (standV F9 p (V.1 p + y) V) = ovV (standV F9 p (V.1 p + y) V) := rfl
            rw [d]
            rfl
          | succ m =>
            have d := drive_0 (m := m) (r := p + 1) (V := standV F9 p (V.1 p + y) V) (by omega) (ok_stand okF9 ok p (by omega) q)
            have ev : vD (driveV F9 (m + 1) (p + 1) 0 (standV F9 p (V.1 p + y) V)) = vD (standV F9 p (V.1 p + y) V) := by
              funext j
              show ((driveV F9 (m + 1) (p + 1) 0 (standV F9 p (V.1 p + y) V)).1 j).toInt = _
              rw [d.1]
            rw [d.2, ev]
        · have q9 : ¬ V.1 p + y ≤ 9 := by rw [leI, t_9]; omega
          have y0 : (0 : Int32) ≤ y := by rw [leI, t_0]; omega
          rw [if_neg q9, if_neg q9, if_neg q, if_pos y0, if_pos y0]
          have e10 : (V.1 p + y - 10).toInt = (V.1 p).toInt + y.toInt - 10 := by rw [tsub (by rw [t_10]; omega) (by rw [t_10]; omega), t_10, hn0]
          have hv : rg (V.1 p + y - 10) 0 9 := by unfold rg; omega
          have s := stand_9 (k := p) (V := V) hv
          have sv := val_stand (R := R) (k := p) (V := V) (by omega) hv
          have es : jZ (w : Int) + (V.1 p + y - 10 - V.1 p).toInt64 * jZ (10 ^ p) = jZ (vsum (vD (standV F9 p (V.1 p + y - 10) V)) R) := by
            rw [sv, w1, x64, tsub (by omega) (by omega), jZ_mul, jZ_add]
          rw [es, ← s.2]
          have := ih n (p + 1) 1 (caV (standV F9 p (V.1 p + y - 10) V)) (by omega) (by omega) (by unfold rg; rw [t_1]; omega) (by omega) (ok_stand okF9 ok p (by omega) hv)
          rw [iZs]
          exact this
theorem w_15 {R : Nat} (hR : R ≤ 12) (σ : St) (v : Nat) (hv : v < 10 ^ 18) : ∀ m n r : Nat, ∀ V : Vl, r + m = R → m < n → okD V → f_X10_walksOf_15 n (jZ (v : Int)) (iZ (R : Int)) V.2.2.1 (jZ (vsum (vD V) R)) (iZ (r : Int)) σ = some ((bringU F9 R (dgI v) m r V).2.2.1, σ) := by
  intro m
  induction m with
  | zero =>
    intro n r V e hn ok
    cases n with
    | zero => omega
    | succ n =>
      rw [f_X10_walksOf_15, if_pos (by rw [leI, iZt (by omega), iZt (by omega)]; omega)]
      rfl
  | succ m ih =>
    intro n r V e hn ok
    cases n with
    | zero => omega
    | succ n =>
      rw [f_X10_walksOf_15, if_neg (by rw [leI, iZt (by omega), iZt (by omega)]; omega), bnd (s_digitOf10 σ v r hv (by omega))]
      have hm : R - r = m + 1 := by omega
      have w := w_34 hR σ (jZ (v : Int)) (iZ (r : Int)) (f_X10_walksOf_15 n) (m + 1) FU r (dgI v r) V (by omega) (by unfold FU; omega) (dg_rg v r) (by omega) ok
      refine Eq.trans w ?_
      rw [iZs, bringU, hm]
      have d := (drive_9 hR (m + 1) r (dgI v r) V (by omega) (dg_rg v r) ok).1
      exact ih n (r + 1) _ (by omega) (by omega) d
theorem dg_mod {u R j : Nat} (h : j < R) : dgN (u % 10 ^ R) j = dgN u j := by
  unfold dgN
  have e : 10 ^ R = 10 ^ j * (10 * 10 ^ (R - j - 1)) := by
    rw [← Nat.mul_assoc, ← Nat.pow_succ, ← Nat.pow_add]; congr 1; omega
  rw [e, Nat.mod_mul_right_div_self, Nat.mod_mul_right_mod]
theorem dig_inj : ∀ n a b : Nat, a < 10 ^ n → b < 10 ^ n → (∀ j, j < n → dgN a j = dgN b j) → a = b
  | 0, a, b, h1, h2, _ => by
    rw [Nat.pow_zero] at h1 h2; omega
  | n + 1, a, b, h1, h2, h => by
    have a1 := mod_succ a n
    have b1 := mod_succ b n
    rw [Nat.mod_eq_of_lt h1] at a1
    rw [Nat.mod_eq_of_lt h2] at b1
    have hp0 : 0 < 10 ^ n := Nat.pow_pos (by omega)
    have := dig_inj n (a % 10 ^ n) (b % 10 ^ n) (Nat.mod_lt _ hp0) (Nat.mod_lt _ hp0) (fun j hj => by
      rw [dg_mod hj, dg_mod hj]; exact h j (by omega))
    rw [a1, b1, this, h n (by omega)]
theorem s_walks {R : Nat} (hR : R ≤ 12) (σ : St) (u v : Nat) (hu : u < 10 ^ 18) (hv : v < 10 ^ 18) (V : Vl) (ok : okD V) (h0 : V.2.2.1 = 0) (hV : ∀ j, j < R → V.1 j = dgI u j) : f_X10_walksOf (jZ (u : Int)) (jZ (v : Int)) (iZ (R : Int)) σ = some ((bringU F9 R (dgI v) R 0 V).2.2.1, σ) := by
  have hp := p12 hR
  have hp0 : 0 < 10 ^ R := Nat.pow_pos (by omega)
  have e18 : 10 ^ 18 = 1000000000000000000 := by decide
  unfold f_X10_walksOf f_X10_walksOf_12
  rw [bnd (s_ten σ R (by omega)), jpow]
  have em : (u : Int) % ((10 ^ R : Nat) : Int) = ((u % 10 ^ R : Nat) : Int) := (Int.natCast_emod _ _).symm
  have hm : u % 10 ^ R < 10 ^ R := Nat.mod_lt _ hp0
  have ev : vsum (vD V) R = ((u % 10 ^ R : Nat) : Int) := by
    obtain ⟨w, w1, w2, w3⟩ := vsum_rg hR ok
    rw [w1]
    congr 1
    exact dig_inj R w (u % 10 ^ R) w2 hm (fun j hj => by
      have a := w3 j hj
      rw [hV j hj] at a
      have b1 : dgN w j < 10 := Nat.mod_lt _ (by omega)
      have b2 : dgN u j < 10 := Nat.mod_lt _ (by omega)
      have a2 := congrArg Int32.toInt a
      unfold dgI at a2
      rw [iZt (by omega), iZt (by omega)] at a2
      rw [dg_mod hj]
      omega)
  generalize 10 ^ R = P at hp hp0 em hm ev ⊢
  rw [gd_t (jZ_nz (by omega) (by omega) (by omega)), jZ_rm (by omega) (by omega) (by omega) (by omega), em, ← ev]
  have w := w_15 hR σ v hv R FU 0 V (by omega) (by unfold FU; omega) ok
  rw [h0] at w
  exact w
