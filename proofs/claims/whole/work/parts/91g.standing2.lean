/-! STANDING: bounds, the class's side -/
theorem mx_t (a b : Int32) : (mxI a b).toInt = max a.toInt b.toInt := by
  unfold mxI
  by_cases c : a < b
  · rw [if_pos c]; rw [lI] at c; omega
  · rw [if_neg c]; rw [lI] at c; omega
theorem dst_ok {p q G mi y : Int32} {T : T3} {X : Int} (hX : X ≤ 90000) (hG : rg G 0 12) (hp : rg p 1 9) (hq : rg q 0 9) (h1 : rg T.1 0 9) (h2 : rg T.2.1 0 X) (h3 : T.2.2 = -1 ∨ rg T.2.2 0 (X + 9)) (hm : rg mi 0 X) (hy : rg y 0 9) : rg (dst p q G T mi y).1 0 9 ∧ rg (dst p q G T mi y).2.1 0 (X + 81) ∧ ((dst p q G T mi y).2.2 = -1 ∨ rg (dst p q G T mi y).2.2 0 (X + 90)) ∧ okEn (ent p G T mi y) ∧ (dst p q G T mi y).2.1.toInt = (ent p G T mi y).1.toInt + (((ent p G T mi y).2.2.toInt - (ent p G T mi y).2.1.toInt).natAbs : Int) * p.toInt := by
  have v := dsv_rg hG h1 hy
  have a := ab_t v h1
  have mx := mx_t mi T.2.1
  unfold rg at *
  have m1 : ((dsv G T.1 y).toInt - T.1.toInt).natAbs ≤ 9 := by omega
  have m2 : 0 ≤ (((dsv G T.1 y).toInt - T.1.toInt).natAbs : Int) * p.toInt := Int.mul_nonneg (by omega) (by omega)
  have m3 : (((dsv G T.1 y).toInt - T.1.toInt).natAbs : Int) * p.toInt ≤ 9 * 9 := Int.mul_le_mul (by omega) (by omega) (by omega) (by omega)
  have em : (abI (dsv G T.1 y - T.1) * p).toInt = (((dsv G T.1 y).toInt - T.1.toInt).natAbs : Int) * p.toInt := by
    rw [tmul (by rw [a]; omega) (by rw [a]; omega), a]
  have ef : (dsf p G T mi y).toInt = max mi.toInt T.2.1.toInt + (((dsv G T.1 y).toInt - T.1.toInt).natAbs : Int) * p.toInt := by
    unfold dsf
    rw [tadd (by rw [mx, em]; omega) (by rw [mx, em]; omega), mx, em]
  refine ⟨v, ?_, ?_, ⟨?_, h1, v⟩, ?_⟩
  · show 0 ≤ (dsf p G T mi y).toInt ∧ (dsf p G T mi y).toInt ≤ X + 81
    omega
  · show (if T.1 + y ≤ 9 then T.2.2 else dsf p G T mi y + q) = -1 ∨ _ ≤ (if T.1 + y ≤ 9 then T.2.2 else dsf p G T mi y + q).toInt ∧ (if T.1 + y ≤ 9 then T.2.2 else dsf p G T mi y + q).toInt ≤ _
    by_cases c : T.1 + y ≤ 9
    · simp only [if_pos c]
      rcases h3 with h3 | h3
      · exact Or.inl h3
      · exact Or.inr ⟨h3.1, by omega⟩
    · simp only [if_neg c]
      right
      rw [tadd (by omega) (by omega)]
      omega
  · show 0 ≤ (mxI mi T.2.1).toInt ∧ (mxI mi T.2.1).toInt ≤ 100000
    rw [mx]; omega
  · show (dsf p G T mi y).toInt = (mxI mi T.2.1).toInt + _
    rw [ef, mx]
    rfl
theorem rp_ok {p q G h own cm d : Int32} {X : Int} (hX0 : 99 ≤ X) (hX : X ≤ 80000) (hG : rg G 0 12) (hp : rg p 1 9) (hq : rg q 0 9) (hd : rg d 0 9) (hh : rg h 0 X) (ho : own = -1 ∨ rg own 0 9) (hc : cm = -1 ∨ rg cm 0 X) : ((rpl p q G h own cm d).2.2 = -1 ∨ rg (rpl p q G h own cm d).2.2 0 (X + 171)) ∧ (0 < (rlg p q G h own cm d).1 → okEn (rlg p q G h own cm d).2.1 ∧ (rlg p q G h own cm d).2.1.2.1 = d) ∧ (1 < (rlg p q G h own cm d).1 → okEn (rlg p q G h own cm d).2.2 ∧ (rlg p q G h own cm d).2.2.2.1 = (rlg p q G h own cm d).2.1.2.2 ∧ (rlg p q G h own cm d).2.1.1.toInt + (((rlg p q G h own cm d).2.1.2.2.toInt - (rlg p q G h own cm d).2.1.2.1.toInt).natAbs : Int) * p.toInt ≤ (rlg p q G h own cm d).2.2.1.toInt) := by
  have t0 : rg ((d, 0, -1) : T3).2.1 0 X := by unfold rg; show 0 ≤ (0 : Int32).toInt ∧ (0 : Int32).toInt ≤ X; rw [t_0]; omega
  have wk1 : ∀ z : Int32, ∀ A B : Int, A ≤ B → (z = -1 ∨ rg z 0 A) → (z = -1 ∨ rg z 0 B) := fun z A B hab hz => by
    rcases hz with hz | hz
    · exact Or.inl hz
    · exact Or.inr ⟨hz.1, by have := hz.2; omega⟩
  unfold rpl rlg
  by_cases co : own = -1
  · simp only [if_pos co]
    by_cases cc : cm = -1
    · simp only [if_pos cc]
      exact ⟨Or.inl trivial, fun c => absurd c (by decide), fun c => absurd c (by decide)⟩
    · simp only [if_neg cc]
      have hcm : rg cm 0 X := by rcases hc with c | c; exact absurd c cc; exact c
      obtain ⟨a1, a2, a3, a4, a5⟩ := dst_ok (p := p) (q := q) (T := (d, 0, -1)) (by omega) hG hp hq hd t0 (Or.inl rfl) hcm rg1
      exact ⟨wk1 _ _ _ (by omega) a3, fun _ => ⟨a4, rfl⟩, fun c => absurd c (by decide)⟩
  · simp only [if_neg co]
    have hown : rg own 0 9 := by rcases ho with c | c; exact absurd c co; exact c
    by_cases cc : cm = -1
    · simp only [if_pos cc]
      obtain ⟨a1, a2, a3, a4, a5⟩ := dst_ok (p := p) (q := q) (T := (d, 0, -1)) (by omega) hG hp hq hd t0 (Or.inl rfl) hh hown
      exact ⟨wk1 _ _ _ (by omega) a3, fun _ => ⟨a4, rfl⟩, fun c => absurd c (by decide)⟩
    · simp only [if_neg cc]
      have hcm : rg cm 0 X := by rcases hc with c | c; exact absurd c cc; exact c
      have up : ∀ z : Int32, rg z 0 X → rg z 0 (X + 81) := fun z hz => ⟨hz.1, by have := hz.2; omega⟩
      by_cases ch : cm < h
      · simp only [if_pos ch]
        obtain ⟨a1, a2, a3, a4, a5⟩ := dst_ok (p := p) (q := q) (T := (d, 0, -1)) (by omega) hG hp hq hd t0 (Or.inl rfl) hcm rg1
        obtain ⟨b1, b2, b3, b4, b5⟩ := dst_ok (p := p) (q := q) (X := X + 81) (by omega) hG hp hq a1 a2 (wk1 _ _ _ (by omega) a3) (up h hh) hown
        refine ⟨wk1 _ _ _ (by omega) b3, fun _ => ⟨a4, rfl⟩, fun _ => ⟨b4, rfl, ?_⟩⟩
        rw [← a5]
        show _ ≤ (mxI h _).toInt
        rw [mx_t]; omega
      · simp only [if_neg ch]
        obtain ⟨a1, a2, a3, a4, a5⟩ := dst_ok (p := p) (q := q) (T := (d, 0, -1)) (by omega) hG hp hq hd t0 (Or.inl rfl) hh hown
        obtain ⟨b1, b2, b3, b4, b5⟩ := dst_ok (p := p) (q := q) (X := X + 81) (by omega) hG hp hq a1 a2 (wk1 _ _ _ (by omega) a3) (up cm hcm) rg1
        refine ⟨wk1 _ _ _ (by omega) b3, fun _ => ⟨a4, rfl⟩, fun _ => ⟨b4, rfl, ?_⟩⟩
        rw [← a5]
        show _ ≤ (mxI cm _).toInt
        rw [mx_t]; omega
theorem h_rg {sh : Int32} {r : Nat} (hs : rg sh 0 9) (hr : r < 12) : rg (sh * iZ (r : Int)) 0 99 := by
  unfold rg at *
  have hm1 : 0 ≤ sh.toInt * (r : Int) := Int.mul_nonneg (by omega) (by omega)
  have hm2 : sh.toInt * (r : Int) ≤ 9 * (r : Int) := Int.mul_le_mul_of_nonneg_right (by omega) (by omega)
  rw [tmul (by rw [iZt (by omega)]; omega) (by rw [iZt (by omega)]; omega), iZt (by omega)]
  omega
theorem cm_ok {p q sh : Int32} {F D : Nat → Int32} {v N : Nat} (hF : okF F) (hD : ∀ j, j < 12 → rg (D j) 0 9) (hp : rg p 1 9) (hq : rg q 0 9) (hs : rg sh 0 9) : ∀ r : Nat, r ≤ 12 → (cmS p q sh F D v N r = -1 ∨ rg (cmS p q sh F D v N r) 0 (100 + 180 * r))
  | 0, _ => Or.inl rfl
  | r + 1, h => by
    have ih := cm_ok hF hD hp hq hs (v := v) (N := N) r (by omega)
    have hh := h_rg hs (show r < 12 by omega)
    have := (rp_ok (X := 100 + 180 * r) (by omega) (by omega) (hF r (by omega)) hp hq (hD r (by omega)) (h := sh * iZ (r : Int)) ⟨hh.1, by have := hh.2; omega⟩ (own_rg v N r) ih).1
    rw [cmS]
    rcases this with c | c
    · exact Or.inl c
    · exact Or.inr ⟨c.1, by have := c.2; omega⟩
theorem lgs_st {p q sh mi : Int32} {F D : Nat → Int32} {v N r : Nat} (hr : r < 12) (hF : okF F) (hD : ∀ j, j < 12 → rg (D j) 0 9) (hp : rg p 1 9) (hq : rg q 0 9) (hs : rg sh 0 9) (hm : rg mi 0 9999) : stC mi p (D r) (lgS p q sh F D v N r) = stM mi p (D r) (lgS p q sh F D v N r) := by
  have hh := h_rg hs hr
  obtain ⟨_, k0, k1⟩ := rp_ok (X := 100 + 180 * r) (by omega) (by omega) (hF r hr) hp hq (hD r hr) (h := sh * iZ (r : Int)) ⟨hh.1, by have := hh.2; omega⟩ (own_rg v N r) (cm_ok hF hD hp hq hs (v := v) (N := N) r (by omega))
  exact st_eq hm hp k0 k1
/-- the class's digit -/
theorem c_dAstep {σ : St} {r k : Nat} {p mi s : Int32} {e : T3} {c : Nat} (hr : r < 12) (hk : k < 2) (hc : k < c) (hc2 : c ≤ 2) (e5 : gI σ 21 5 = p) (hp : rg p 1 9) (e25 : gI σ 25 r = iZ (c : Int)) (he : atE σ (2 * r + k) e) (n : Nat) : f_X6_digitAt_6 (n + 1) (iZ (r : Int)) mi s (iZ (k : Int)) σ = f_X6_digitAt_6 n (iZ (r : Int)) mi (upC mi p s e) (iZ ((k + 1 : Nat) : Int)) σ := by
  obtain ⟨h1, h2, h3⟩ := he
  have b12 := iZb hr (show 12 < 2147483648 by omega)
  have b24 := iZb (show 2 * r + k < 24 by omega) (show 24 < 2147483648 by omega)
  have hz : nzI (gI σ 21 5) = true := by
    unfold rg at hp
    rw [e5, ← iZ_self p]
    exact iZ_nz (by omega) (by omega) (by omega)
  rw [f_X6_digitAt_6, gd_t b12, iZc (show r < 2147483648 by omega), e25, if_neg (by rw [leI, iZt (by omega), iZt (by omega)]; omega), if_neg (by rw [leI, t_2, iZt (by omega)]; omega), two_r]
  unfold f_X6_digitAt_31 f_X6_digitAt_81 f_X6_digitAt_113 f_X6_digitAt_116
  rw [gd_t b24, iZc (show 2 * r + k < 2147483648 by omega), h1, iZs]
  unfold upC
  by_cases c1 : mi < e.1
  · rw [if_pos c1, if_pos c1]
  · rw [if_neg c1, if_neg c1, gd_t b24, gd_t hz, gd_t b24, gd_t b24, gd_t b24, gd_t b24, gd_t b24, h2, h3, e5]
    by_cases c2 : e.2.1 ≤ e.2.2
    · rw [if_pos c2, if_pos c2]; rfl
    · rw [if_neg c2, if_neg c2]; rfl
theorem c_dAend {σ : St} {r k : Nat} {mi s : Int32} (hr : r < 12) (hk : k ≤ 2) (e25 : gI σ 25 r = iZ (k : Int)) (n : Nat) : f_X6_digitAt_6 (n + 1) (iZ (r : Int)) mi s (iZ (k : Int)) σ = some (s, σ) := by
  have b12 := iZb hr (show 12 < 2147483648 by omega)
  rw [f_X6_digitAt_6, gd_t b12, iZc (show r < 2147483648 by omega), e25, if_pos (by rw [leI]; exact Int.le_refl _)]
  rfl
theorem c_digitAt {σ : St} {r : Nat} {p mi d : Int32} {L : Nat × T3 × T3} (hr : r < 12) (e5 : gI σ 21 5 = p) (hp : rg p 1 9) (hL : L.1 ≤ 2) (h : isLog σ r L) (n : Nat) : f_X6_digitAt_6 (n + 1 + 1 + 1) (iZ (r : Int)) mi d 0 σ = some (stC mi p d L, σ) := by
  obtain ⟨h1, h2, h3⟩ := h
  unfold stC
  have z : (0 : Int32) = iZ ((0 : Nat) : Int) := rfl
  by_cases n0 : L.1 = 0
  · rw [if_pos n0]
    rw [n0] at h1
    exact c_dAend hr (by omega) h1 _
  · rw [if_neg n0]
    have s0 := c_dAstep (k := 0) (c := L.1) (mi := mi) (s := d) hr (by omega) (by omega) hL e5 hp h1 (h2 (by omega)) (n + 1 + 1)
    refine Eq.trans s0 ?_
    by_cases n1 : L.1 = 1
    · rw [if_pos n1]
      rw [n1] at h1
      exact c_dAend hr (by omega) h1 _
    · rw [if_neg n1]
      have s1 := c_dAstep (k := 1) (c := L.1) (mi := mi) (s := upC mi p d L.2.1) hr (by omega) (by omega) hL e5 hp h1 (h3 (by omega)) (n + 1)
      refine Eq.trans s1 ?_
      have n2 : L.1 = 2 := by omega
      rw [n2] at h1
      exact c_dAend hr (by omega) h1 _
theorem rlg_le (p q G h own cm d : Int32) : (rlg p q G h own cm d).1 ≤ 2 := by
  unfold rlg
  repeat' split
  all_goals simp
