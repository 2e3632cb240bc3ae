/-! RELAY: a rope's work, the model's -/
theorem m_w24 {r gt mu pc sh tp N : Nat} (hr : r < 12) (lg : gt ≤ 12) (hN : N < 10 ^ 9) (p1 : 1 ≤ pc) (p9 : pc ≤ 9) (hsh : sh ≤ 9) (hmu : mu ≤ 200000) (htp : tp ≤ 12) :
    ∀ n f : Nat, ∀ a t, okA (dgN N r) tp r a → moL gt tp t r a → gI t 38 12 = iZ (pc : Int) → gI t 38 14 = iZ (sh : Int) → (a 3 = 1 → a 4 ≤ 300000) → a 1 + a 2 ≤ n → n + 1 < f → ∃ t', f_X10_work_24 f (iZ (r : Int)) (iZ (mu : Int)) (iZ (N : Int)) (iZ ((tp : Int) - 1)) 1 t = some t' ∧ moL gt tp t' r (wkA mu pc gt (dgN N r) (sh * r) n a) ∧ qF r t t' := by
  have i12 : inb (iZ (r : Int)) 12 = true := iZb hr (by omega)
  have dl : sh * r ≤ 9 * 11 := Nat.mul_le_mul hsh (by omega)
  have hd : dgN N r ≤ 9 := by have := Nat.mod_lt (N / 10 ^ r) (show 0 < 10 by omega); show N / 10 ^ r % 10 ≤ 9; omega
  have tst : ∀ f : Nat, ∀ a t, okA (dgN N r) tp r a → moL gt tp t r a → gI t 38 14 = iZ (sh : Int) → a 3 = 0 → f_X10_work_24 (f + 1) (iZ (r : Int)) (iZ (mu : Int)) (iZ (N : Int)) (iZ ((tp : Int) - 1)) 1 t = if a 1 = 1 ∧ sh * r ≤ mu then f_X10_work_69 (f_X10_work_24 f) (iZ (r : Int)) (iZ (mu : Int)) (iZ (N : Int)) (iZ ((tp : Int) - 1)) 1 t else f_X10_work_68 (f_X10_work_24 f) (iZ (r : Int)) (iZ (mu : Int)) (iZ (N : Int)) (iZ ((tp : Int) - 1)) t := by
    intro f a t ok h h14 c0
    obtain ⟨d0, d1, d2, d3, d4, d5, d6⟩ := h
    have o1 := ok.2.1
    have ort := ok.2.2.2.2.2.1
    have du : gI t 38 14 * iZ (r : Int) = iZ ((sh * r : Nat) : Int) := by rw [h14, iZ_mul]; rfl
    rw [f_X10_work_24, if_neg (by decide), gd_t i12, iZc (by omega), d4, if_neg (show ¬ a 3 = 1 by omega), if_pos rfl, gd_t i12, d2, du]
    by_cases c1 : a 1 = 1
    · have := ort c1
      rw [if_neg (show ¬ (r < tp ∧ a 1 = 0) by omega), if_pos rfl, if_neg (show ¬ iZ ((tp : Int) - 1) < iZ (r : Int) by rw [lI, iZ_toInt (by omega) (by omega), iZt (by omega)]; omega)]
      by_cases c2 : sh * r ≤ mu
      · rw [if_neg (by rw [lI, iZt (by omega), iZt (by omega)]; omega), if_pos ⟨c1, c2⟩]
      · rw [if_pos (by rw [lI, iZt (by omega), iZt (by omega)]; omega), if_neg (fun q => c2 q.2)]
    · rw [if_neg (show ¬ (a 1 = 1 ∧ sh * r ≤ mu) from fun q => c1 q.1)]
      by_cases c2 : r < tp
      · rw [if_pos (show r < tp ∧ a 1 = 0 from ⟨c2, by omega⟩), if_neg (by decide)]
      · rw [if_neg (show ¬ (r < tp ∧ a 1 = 0) from fun q => c2 q.1), if_pos rfl, if_pos (by rw [lI, iZ_toInt (by omega) (by omega), iZt (by omega)]; omega)]
  have bsy : ∀ f : Nat, ∀ a t, moL gt tp t r a → a 3 = 1 → a 4 ≤ 300000 → f_X10_work_24 (f + 1) (iZ (r : Int)) (iZ (mu : Int)) (iZ (N : Int)) (iZ ((tp : Int) - 1)) 1 t = some t := by
    intro f a t h c3 h4
    rw [f_X10_work_24, if_neg (by decide), gd_t i12, iZc (by omega), h.2.2.2.2.1, if_pos c3, if_neg (by rw [eI, iZt (by omega), t_m1]; omega)]
    rfl
  have idl : ∀ f : Nat, ∀ a t, moL gt tp t r a → a 2 = 0 → f_X10_work_68 (f_X10_work_24 (f + 1)) (iZ (r : Int)) (iZ (mu : Int)) (iZ (N : Int)) (iZ ((tp : Int) - 1)) t = some t := by
    intro f a t h c2
    unfold f_X10_work_68 f_X10_work_69 f_X10_work_90 f_X10_work_264
    rw [if_pos rfl, gd_t i12, iZc (by omega), h.2.2.2.1, if_pos (by rw [c2]; decide), if_pos rfl, f_X10_work_24, if_pos rfl]
    rfl
  have bod : ∀ ow : Nat, ∀ G : Nat, ∀ a t, ∀ k24 : Int32 → Int32 → Int32 → Int32 → Int32 → St → Option St, okA (dgN N r) tp r a → moL gt tp t r a → gI t 38 12 = iZ (pc : Int) → ow ≤ 1 → (ow = 1 → a 1 = 1) → (ow = 0 → a 2 = 1) → a 3 = 0 → ∃ t', f_X10_work_90 k24 (iZ (r : Int)) (iZ (mu : Int)) (iZ (N : Int)) (iZ ((tp : Int) - 1)) (iZ (ow : Int)) 1 t = k24 (iZ (r : Int)) (iZ (mu : Int)) (iZ (N : Int)) (iZ ((tp : Int) - 1)) 1 t' ∧ moL gt tp t' r (bgA mu pc gt (if ow = 0 then 1 else dgN N r) G (if ow = 0 then setA a 2 (a 2 - 1) else setA a 1 0)) ∧ qF r t t' := by
    intro ow G a t k24 ok h h12 ho h1 h2 c0
    obtain ⟨d0, d1, d2, d3, d4, d5, d6⟩ := h
    have o0 := ok.1
    have o1 := ok.2.1
    have ort := ok.2.2.2.2.2.1
    obtain ⟨t', e0, e1, e2, e3, e4, e5, e6, e7, e8⟩ := m_bodyD (k24 := k24) (mu := mu) (x4 := iZ ((tp : Int) - 1)) (by' := if ow = 0 then 1 else dgN N r) hr d0 d1 d6 d3 h12 (by rw [d2]; split <;> simp) o0 (by split <;> omega) lg hN rfl ho rfl (fun q => by have := h2 q; omega)
    refine ⟨t', e0, ?_, fun x b n => e8 x b (by omega)⟩
    by_cases q : ow = 0
    · subst q
      rw [if_pos rfl] at e1 e2 e3 e4 e5 e6 e7 ⊢
      rw [if_pos rfl]
      refine ⟨e1, ?_, ?_, e3, ?_, fun _ => ⟨e5, e6⟩, e7⟩
      · rw [e8 _ _ (by omega)]; exact d1
      · rw [e2]; exact d2
      · rw [e4]
        have e3' : bgA mu pc gt 1 G (setA a 2 (a 2 - 1)) 3 = if bgW gt (a 0) 1 = 0 then 0 else 1 := rfl
        by_cases w : bgW gt (a 0) 1 = 0
        · rw [if_pos w, if_neg (by rw [e3', if_pos w]; omega)]
        · rw [if_neg w, if_pos (by rw [e3', if_neg w])]; rfl
    · have o : ow = 1 := by omega
      subst o
      have a1 := h1 rfl
      rw [if_neg q] at e1 e2 e3 e4 e5 e6 e7 ⊢
      rw [if_neg q]
      refine ⟨e1, ?_, ?_, e3, ?_, fun _ => ⟨e5, e6⟩, e7⟩
      · rw [e8 _ _ (by omega)]; exact d1
      · rw [e2, if_pos (show r < tp ∧ bgA mu pc gt (dgN N r) G (setA a 1 0) 1 = 0 from ⟨ort a1, rfl⟩)]
      · rw [e4]
        have e3' : bgA mu pc gt (dgN N r) G (setA a 1 0) 3 = if bgW gt (a 0) (dgN N r) = 0 then 0 else 1 := rfl
        by_cases w : bgW gt (a 0) (dgN N r) = 0
        · rw [if_pos w, if_neg (by rw [e3', if_pos w]; omega)]
        · rw [if_neg w, if_pos (by rw [e3', if_neg w])]; rfl
  intro n
  induction n with
  | zero =>
    intro f a t ok h h12 h14 h4 hn hf
    have o3 := ok.2.2.1
    cases f with
    | zero => omega
    | succ f =>
      refine ⟨t, ?_, h, fun _ _ _ => rfl⟩
      by_cases c3 : a 3 = 1
      · exact bsy f a t h c3 (h4 c3)
      · rw [tst f a t ok h h14 (by omega), if_neg (fun q => by omega)]
        cases f with
        | zero => omega
        | succ f => exact idl f a t h (by omega)
  | succ n ih =>
    intro f a t ok h h12 h14 h4 hn hf
    have o3 := ok.2.2.1
    have oi := ok.2.2.2.2.2.2.1
    cases f with
    | zero => omega
    | succ f =>
      rw [wkA]
      by_cases c3 : a 3 = 1
      · rw [if_pos c3]
        exact ⟨t, bsy f a t h c3 (h4 c3), h, fun _ _ _ => rfl⟩
      · have c0 : a 3 = 0 := by omega
        rw [if_neg c3, tst f a t ok h h14 c0]
        by_cases c1 : a 1 = 1 ∧ sh * r ≤ mu
        · rw [if_pos c1, if_pos c1]
          obtain ⟨g, _⟩ := bg_own (mu := mu) (gt := gt) ok c0 c1.1 p1 p9 hd
          obtain ⟨n1, n2, n3, n4, n5, n6, n7⟩ := bg_nums (gt := gt) (by' := dgN N r) ok.1 hd p1 p9
          obtain ⟨t1, e0, e1, e2⟩ := bod 1 (a 10) a t (f_X10_work_24 f) ok h h12 (by omega) (fun _ => c1.1) (fun q => by omega) c0
          unfold f_X10_work_69 f_X10_work_85
          rw [if_neg (by decide)]
          rw [show f_X10_work_90 (f_X10_work_24 f) (iZ (r : Int)) (iZ (mu : Int)) (iZ (N : Int)) (iZ ((tp : Int) - 1)) 1 1 t = _ from e0]
          rw [if_neg (by omega), if_neg (by omega)] at e1
          obtain ⟨t2, f0, f1, f2⟩ := ih f _ t1 g.1 e1 (by rw [e2 _ _ (by omega)]; exact h12) (by rw [e2 _ _ (by omega)]; exact h14) (fun _ => by show mu + bgW gt (a 0) (dgN N r) * pc ≤ 300000; omega) (by show 0 + a 2 ≤ n; omega) (by omega)
          exact ⟨t2, f0, f1, e2.tr f2⟩
        · rw [if_neg c1, if_neg c1]
          by_cases c2 : a 2 = 0
          · rw [if_pos c2]
            cases f with
            | zero => omega
            | succ f => exact ⟨t, idl f a t h c2, h, fun _ _ _ => rfl⟩
          · rw [if_neg c2]
            obtain ⟨g, _⟩ := bg_car (mu := mu) (gt := gt) ok c0 c2 p1 p9 hd
            obtain ⟨n1, n2, n3, n4, n5, n6, n7⟩ := bg_nums (gt := gt) (by' := 1) ok.1 (by omega) p1 p9
            have a2 : a 2 = 1 := by omega
            obtain ⟨t1, e0, e1, e2⟩ := bod 0 (a 10 + 1) a t (f_X10_work_24 f) ok h h12 (by omega) (fun q => by omega) (fun _ => a2) c0
            unfold f_X10_work_68 f_X10_work_69 f_X10_work_85
            rw [if_pos rfl, gd_t i12, iZc (by omega), h.2.2.2.1, if_neg (by rw [a2]; decide)]
            rw [show f_X10_work_90 (f_X10_work_24 f) (iZ (r : Int)) (iZ (mu : Int)) (iZ (N : Int)) (iZ ((tp : Int) - 1)) 0 1 t = _ from e0]
            rw [if_pos rfl, if_pos rfl] at e1
            obtain ⟨t2, f0, f1, f2⟩ := ih f _ t1 g.1 e1 (by rw [e2 _ _ (by omega)]; exact h12) (by rw [e2 _ _ (by omega)]; exact h14) (fun _ => by show mu + bgW gt (a 0) 1 * pc ≤ 300000; omega) (by show a 1 + (a 2 - 1) ≤ n; omega) (by omega)
            exact ⟨t2, f0, f1, e2.tr f2⟩
theorem m_work {r gt mu pc sh tp N : Nat} {a : Nat → Nat} {t : St} (hr : r < 12) (lg : gt ≤ 12) (hN : N < 10 ^ 9) (p1 : 1 ≤ pc) (p9 : pc ≤ 9) (hsh : sh ≤ 9) (hmu : mu ≤ 200000) (htp : tp ≤ 12) (ok : okA (dgN N r) tp r a) (h : moL gt tp t r a) (h12 : gI t 38 12 = iZ (pc : Int)) (h14 : gI t 38 14 = iZ (sh : Int)) (h4 : a 3 = 1 → a 4 ≤ 300000) : ∃ t', f_X10_work (iZ (r : Int)) (iZ (mu : Int)) (iZ (N : Int)) (iZ ((tp : Int) - 1)) t = some t' ∧ moL gt tp t' r (wkF mu pc gt (dgN N r) (sh * r) a) ∧ qF r t t' := by
  have i12 : inb (iZ (r : Int)) 12 = true := iZb hr (by omega)
  have o3 := ok.2.2.1
  have o1 := ok.2.1
  have oi := ok.2.2.2.2.2.2.1
  unfold f_X10_work f_X10_work_21 wkF
  have h' := h
  obtain ⟨d0, d1, d2, d3, d4, d5, d6⟩ := h
  rw [gd_t i12, iZc (by omega), d4]
  by_cases c3 : a 3 = 1
  · obtain ⟨u1, u2⟩ := d5 c3
    have l4 := h4 c3
    rw [if_pos c3, if_pos c3]
    by_cases c4 : a 4 = mu
    · rw [if_pos (by rw [c4]), if_pos c4, gd_t i12]
      obtain ⟨x1, x2, x3, x4, x5, x6, x7, x8, x9, x10, x11⟩ := en_ok (mu := mu) ok c3
      obtain ⟨t1, e0, e1, e2, e3, e4⟩ := m_ends (x2 := gI t 60 r) hr u1 u2 d6 x11
      rw [bnd e0]
      have hm : moL gt tp t1 r (enA a) := by
        refine ⟨e1, ?_, ?_, ?_, ?_, fun q => by omega, ?_⟩
        · rw [e4 _ _ (by omega)]; exact d1
        · rw [e4 _ _ (by omega)]; exact d2
        · rw [e4 _ _ (by omega)]; exact d3
        · rw [e2, if_neg (by omega)]
        · exact e3
      obtain ⟨t2, f0, f1, f2⟩ := m_w24 (mu := mu) hr lg hN p1 p9 hsh hmu htp 2 FU (enA a) t1 x1 hm (by rw [e4 _ _ (by omega)]; exact h12) (by rw [e4 _ _ (by omega)]; exact h14) (fun q => by omega) (by omega) (by unfold FU; omega)
      exact ⟨t2, f0, f1, qF.tr (fun x b n => e4 x b (by omega)) f2⟩
    · rw [if_neg (by rw [eI, iZt (by omega), iZt (by omega)]; omega), if_neg c4]
      refine ⟨t, ?_, h', fun _ _ _ => rfl⟩
      obtain ⟨f, hf⟩ : ∃ f, FU = f + 1 := ⟨999999, rfl⟩
      rw [hf, f_X10_work_24, if_neg (by decide), gd_t i12, iZc (by omega), d4, if_pos c3, if_neg (by rw [eI, iZt (by omega), t_m1]; omega)]
      rfl
  · rw [if_neg c3, if_neg c3, if_neg (by rw [eI, iZt (by omega), t_m1]; omega)]
    exact m_w24 (mu := mu) hr lg hN p1 p9 hsh hmu htp 2 FU a t ok h' h12 h14 h4 (by omega) (by unfold FU; omega)
