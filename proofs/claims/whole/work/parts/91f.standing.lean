/-! STANDING: what a drive has come to -/
def gnC (mi p : Int32) (e : T3) : Int32 := mnI ((mi - e.1 + 1) / p) (abI (e.2.2 - e.2.1))
def upC (mi p s : Int32) (e : T3) : Int32 := if mi < e.1 then s else e.2.1 + (if e.2.1 ≤ e.2.2 then gnC mi p e else -gnC mi p e)
def gnM (mi p : Int32) (e : T3) : Int32 := mxI 0 (mnI (abI (e.2.2 - e.2.1)) ((mi - e.1 + 1) / p))
def upM (mi p s : Int32) (e : T3) : Int32 := s + (if e.2.2 ≤ e.2.1 then -gnM mi p e else gnM mi p e)
def okEn (e : T3) : Prop := rg e.1 0 100000 ∧ rg e.2.1 0 9 ∧ rg e.2.2 0 9
theorem ab_t {a b : Int32} (ha : rg a 0 9) (hb : rg b 0 9) : (abI (a - b)).toInt = (a.toInt - b.toInt).natAbs := by
  unfold rg at *
  have e : (a - b).toInt = a.toInt - b.toInt := tsub (by omega) (by omega)
  unfold abI
  by_cases c : (0 : Int32) ≤ a - b
  · rw [if_pos c]
    rw [leI, t_0, e] at c
    rw [e]; omega
  · rw [if_neg c]
    rw [leI, t_0, e] at c
    rw [tsub (by rw [t_0, e]; omega) (by rw [t_0, e]; omega), t_0, e]; omega
theorem qu_pos {mi b p : Int32} (hm : rg mi 0 9999) (hb : rg b 0 100000) (hp : rg p 1 9) (c : ¬ mi < b) : ((mi - b + 1) / p).toInt = (mi.toInt - b.toInt + 1) / p.toInt := by
  unfold rg at *
  rw [lI] at c
  have e1 : (mi - b).toInt = mi.toInt - b.toInt := tsub (by omega) (by omega)
  have e2 : mi - b + 1 = iZ (mi.toInt - b.toInt + 1) := by
    rw [← iZ_self (mi - b + 1)]; congr 1
    rw [tadd (by rw [e1, t_1]; omega) (by rw [e1, t_1]; omega), e1, t_1]
  have e3 : p = iZ p.toInt := (iZ_self p).symm
  have q1 : 0 ≤ (mi.toInt - b.toInt + 1) / p.toInt := Int.ediv_nonneg (by omega) (by omega)
  have q2 : (mi.toInt - b.toInt + 1) / p.toInt ≤ mi.toInt - b.toInt + 1 := Int.ediv_le_self _ (by omega)
  rw [e2]
  have e4 : iZ (mi.toInt - b.toInt + 1) / p = iZ ((mi.toInt - b.toInt + 1) / p.toInt) := by
    refine Eq.trans (congrArg (fun z => iZ (mi.toInt - b.toInt + 1) / z) e3) ?_
    exact iZ_div (by omega) (by omega) (by omega) (by omega)
  rw [e4, iZ_toInt (by omega) (by omega)]
theorem qu_neg {mi b p : Int32} (hm : rg mi 0 9999) (hb : rg b 0 100000) (hp : rg p 1 9) (c : mi < b) : ((mi - b + 1) / p).toInt ≤ 0 := by
  unfold rg at *
  rw [lI] at c
  have e1 : (mi - b).toInt = mi.toInt - b.toInt := tsub (by omega) (by omega)
  have e2 : (mi - b + 1).toInt = mi.toInt - b.toInt + 1 := by
    rw [tadd (by rw [e1, t_1]; omega) (by rw [e1, t_1]; omega), e1, t_1]
  rw [Int32.toInt_div, e2]
  have e3 : mi.toInt - b.toInt + 1 = -(b.toInt - mi.toInt - 1) := by omega
  rw [e3, Int.neg_tdiv, Int.tdiv_eq_ediv_of_nonneg (by omega)]
  have q1 : 0 ≤ (b.toInt - mi.toInt - 1) / p.toInt := Int.ediv_nonneg (by omega) (by omega)
  have q2 : (b.toInt - mi.toInt - 1) / p.toInt ≤ b.toInt - mi.toInt - 1 := Int.ediv_le_self _ (by omega)
  generalize (b.toInt - mi.toInt - 1) / p.toInt = Q at q1 q2 ⊢
  unfold Int.bmod
  have e : ((2 ^ 32 : Nat) : Int) = 4294967296 := rfl
  simp only [e]
  omega
theorem gM_0 {mi p : Int32} {e : T3} (hm : rg mi 0 9999) (hp : rg p 1 9) (h : okEn e) (c : mi < e.1) : gnM mi p e = 0 := by
  have q := qu_neg hm h.1 hp c
  have a := ab_t h.2.2 h.2.1
  unfold gnM mxI mnI
  rw [eI, t_0]
  by_cases c1 : (mi - e.1 + 1) / p < abI (e.2.2 - e.2.1)
  · simp only [if_pos c1]
    by_cases c2 : (0 : Int32) < (mi - e.1 + 1) / p
    · rw [lI, t_0] at c2; omega
    · rw [if_neg c2, t_0]
  · simp only [if_neg c1]
    by_cases c2 : (0 : Int32) < abI (e.2.2 - e.2.1)
    · rw [lI] at c1
      rw [lI, t_0] at c2; omega
    · rw [if_neg c2, t_0]
theorem gM_C {mi p : Int32} {e : T3} (hm : rg mi 0 9999) (hp : rg p 1 9) (h : okEn e) (c : ¬ mi < e.1) : gnM mi p e = gnC mi p e ∧ 0 ≤ (gnC mi p e).toInt ∧ (gnC mi p e).toInt ≤ (e.2.2.toInt - e.2.1.toInt).natAbs ∧ (((e.2.2.toInt - e.2.1.toInt).natAbs : Int) * p.toInt ≤ mi.toInt - e.1.toInt → (gnC mi p e).toInt = (e.2.2.toInt - e.2.1.toInt).natAbs) := by
  have q := qu_pos hm h.1 hp c
  have a := ab_t h.2.2 h.2.1
  have hc := c
  rw [lI] at hc
  have hp' := hp
  unfold rg at hp'
  have q1 : 0 ≤ (mi.toInt - e.1.toInt + 1) / p.toInt := Int.ediv_nonneg (by omega) (by omega)
  have q3 : ((e.2.2.toInt - e.2.1.toInt).natAbs : Int) * p.toInt ≤ mi.toInt - e.1.toInt → ((e.2.2.toInt - e.2.1.toInt).natAbs : Int) ≤ (mi.toInt - e.1.toInt + 1) / p.toInt := by
    intro hh
    rw [Int.le_ediv_iff_mul_le (by omega)]; omega
  rw [← q] at q1 q3
  unfold gnM gnC mxI mnI
  by_cases c1 : (mi - e.1 + 1) / p < abI (e.2.2 - e.2.1)
  · have c1' : ¬ abI (e.2.2 - e.2.1) < (mi - e.1 + 1) / p := by rw [lI] at c1 ⊢; omega
    simp only [if_pos c1, if_neg c1']
    rw [lI, a] at c1
    refine ⟨?_, q1, by omega, fun hh => by have := q3 hh; omega⟩
    by_cases c2 : (0 : Int32) < (mi - e.1 + 1) / p
    · rw [if_pos c2]
    · rw [if_neg c2]
      rw [lI, t_0] at c2
      rw [eI, t_0]; omega
  · simp only [if_neg c1]
    rw [lI, a] at c1
    by_cases c3 : abI (e.2.2 - e.2.1) < (mi - e.1 + 1) / p
    · simp only [if_pos c3]
      refine ⟨?_, by rw [a]; omega, by rw [a]; omega, fun _ => by rw [a]⟩
      by_cases c2 : (0 : Int32) < abI (e.2.2 - e.2.1)
      · rw [if_pos c2]
      · rw [if_neg c2]
        rw [lI, t_0, a] at c2
        rw [eI, t_0, a]; omega
    · simp only [if_neg c3]
      rw [lI, a] at c3
      have eq : (mi - e.1 + 1) / p = abI (e.2.2 - e.2.1) := by rw [eI, a]; omega
      rw [eq]
      refine ⟨?_, by rw [a]; omega, by rw [a]; omega, fun _ => by rw [a]⟩
      by_cases c2 : (0 : Int32) < abI (e.2.2 - e.2.1)
      · rw [if_pos c2]
      · rw [if_neg c2]
        rw [lI, t_0, a] at c2
        rw [eI, t_0, a]; omega
theorem neg_0 : -(0 : Int32) = 0 := rfl
theorem upM_lt {mi p s : Int32} {e : T3} (hm : rg mi 0 9999) (hp : rg p 1 9) (h : okEn e) (c : mi < e.1) : upM mi p s e = s := by
  unfold upM
  rw [gM_0 hm hp h c, neg_0]
  split <;> exact Int32.add_zero s
theorem upM_ge {mi p s : Int32} {e : T3} (hm : rg mi 0 9999) (hp : rg p 1 9) (h : okEn e) (c : ¬ mi < e.1) : upM mi p s e = s + (if e.2.1 ≤ e.2.2 then gnC mi p e else -gnC mi p e) := by
  obtain ⟨g1, g2, g3, g4⟩ := gM_C hm hp h c
  unfold upM
  rw [g1]
  by_cases c1 : e.2.2 ≤ e.2.1
  · by_cases c2 : e.2.1 ≤ e.2.2
    · rw [if_pos c1, if_pos c2]
      rw [leI] at c1 c2
      have : gnC mi p e = 0 := by rw [eI, t_0]; omega
      rw [this, neg_0]
    · rw [if_pos c1, if_neg c2]
  · rw [if_neg c1, if_pos (by rw [leI] at c1 ⊢; omega)]
/-- a drive that has ended -/
theorem full_e {mi p : Int32} {e : T3} (hm : rg mi 0 9999) (hp : rg p 1 9) (h : okEn e) (c : ¬ mi < e.1) (hf : ((e.2.2.toInt - e.2.1.toInt).natAbs : Int) * p.toInt ≤ mi.toInt - e.1.toInt) : e.2.1 + (if e.2.1 ≤ e.2.2 then gnC mi p e else -gnC mi p e) = e.2.2 := by
  obtain ⟨g1, g2, g3, g4⟩ := gM_C hm hp h c
  have g := g4 hf
  have h2 := h.2
  unfold rg at h2
  by_cases c2 : e.2.1 ≤ e.2.2
  · rw [if_pos c2]
    rw [leI] at c2
    rw [eI, tadd (by omega) (by omega)]; omega
  · rw [if_neg c2]
    rw [leI] at c2
    have en : (-gnC mi p e).toInt = -(gnC mi p e).toInt := tneg (by omega)
    rw [eI, tadd (by rw [en]; omega) (by rw [en]; omega), en]; omega
def stC (mi p d : Int32) (L : Nat × T3 × T3) : Int32 := if L.1 = 0 then d else if L.1 = 1 then upC mi p d L.2.1 else upC mi p (upC mi p d L.2.1) L.2.2
def stM (mi p d : Int32) (L : Nat × T3 × T3) : Int32 := if L.1 = 0 then d else if L.1 = 1 then upM mi p d L.2.1 else upM mi p (upM mi p d L.2.1) L.2.2
theorem up_1 {mi p d : Int32} {e : T3} (hm : rg mi 0 9999) (hp : rg p 1 9) (h : okEn e) (hd : e.2.1 = d) : upC mi p d e = upM mi p d e := by
  unfold upC
  by_cases c : mi < e.1
  · rw [if_pos c, upM_lt hm hp h c]
  · rw [if_neg c, upM_ge hm hp h c, hd]
theorem st_eq {mi p d : Int32} {L : Nat × T3 × T3} (hm : rg mi 0 9999) (hp : rg p 1 9) (h0 : 0 < L.1 → okEn L.2.1 ∧ L.2.1.2.1 = d) (h1 : 1 < L.1 → okEn L.2.2 ∧ L.2.2.2.1 = L.2.1.2.2 ∧ L.2.1.1.toInt + ((L.2.1.2.2.toInt - L.2.1.2.1.toInt).natAbs : Int) * p.toInt ≤ L.2.2.1.toInt) : stC mi p d L = stM mi p d L := by
  unfold stC stM
  by_cases n0 : L.1 = 0
  · rw [if_pos n0, if_pos n0]
  · rw [if_neg n0, if_neg n0]
    obtain ⟨k0, k1⟩ := h0 (by omega)
    by_cases n1 : L.1 = 1
    · rw [if_pos n1, if_pos n1, up_1 hm hp k0 k1]
    · rw [if_neg n1, if_neg n1, up_1 hm hp k0 k1]
      obtain ⟨j0, j1, j2⟩ := h1 (by omega)
      by_cases c : mi < L.2.2.1
      · rw [upM_lt hm hp j0 c]
        unfold upC
        rw [if_pos c]
      · rw [upM_ge hm hp j0 c]
        have hpp := hp
        unfold rg at hpp
        have hnn : 0 ≤ ((L.2.1.2.2.toInt - L.2.1.2.1.toInt).natAbs : Int) * p.toInt := Int.mul_nonneg (by omega) (by omega)
        have hc2 := c
        rw [lI] at hc2
        have c0 : ¬ mi < L.2.1.1 := by rw [lI]; omega
        rw [upM_ge hm hp k0 c0, ← k1, full_e hm hp k0 c0 (by omega), ← j1]
        unfold upC
        rw [if_neg c]
