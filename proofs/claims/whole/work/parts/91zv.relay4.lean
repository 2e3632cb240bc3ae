/-! RELAY: a rope's work, the class's and the model's -/
def clL (gt dg : Nat) (s : St) (r : Nat) (a : Nat → Nat) : Prop :=
  gI s 28 r = iZ (a 0 : Int) ∧ gI s 29 r = iZ (gt : Int) ∧ gI s 30 r = (if a 1 = 1 then iZ (dg : Int) else -1) ∧ gI s 31 r = iZ (a 2 : Int) ∧ gI s 32 r = iZ (a 3 : Int) ∧ (a 3 = 1 → gI s 33 r = iZ (a 4 : Int) ∧ gI s 34 r = iZ (a 5 : Int) ∧ gI s 35 r = iZ (a 6 : Int)) ∧ gI s 36 r = iZ (a 7 : Int) ∧ gI s 37 r = iZ ((a 8 : Int) - 1)
def moL (gt tp : Nat) (t : St) (r : Nat) (a : Nat → Nat) : Prop :=
  gI t 64 r = iZ (a 0 : Int) ∧ gI t 44 r = iZ (gt : Int) ∧ gI t 61 r = (if r < tp ∧ a 1 = 0 then 1 else 0) ∧ gI t 63 r = iZ (a 2 : Int) ∧ gI t 58 r = (if a 3 = 1 then iZ (a 4 : Int) else -1) ∧ (a 3 = 1 → gI t 59 r = iZ (a 5 : Int) ∧ gI t 60 r = iZ (a 6 : Int)) ∧ gI t 62 r = iZ (a 7 : Int)
def rF (r : Nat) (s s' : St) : Prop := ∀ a b, ¬ (28 ≤ a ∧ a ≤ 36 ∧ b = r) → gI s' a b = gI s a b
def qF (r : Nat) (s s' : St) : Prop := ∀ a b, ¬ (58 ≤ a ∧ a ≤ 64 ∧ b = r) → gI s' a b = gI s a b
theorem rF.tr {r : Nat} {s s1 s2 : St} (h : rF r s s1) (h2 : rF r s1 s2) : rF r s s2 := fun a b n => (h2 a b n).trans (h a b n)
theorem qF.tr {r : Nat} {s s1 s2 : St} (h : qF r s s1) (h2 : qF r s1 s2) : qF r s s2 := fun a b n => (h2 a b n).trans (h a b n)
theorem c_bgA {s s1 : St} {r gt dg by' mu pc G : Nat} {a : Nat → Nat} (hr : r < 12) (h : clL gt dg s r a) (h13 : gI s 27 13 = iZ (pc : Int)) (l0 : a 0 ≤ 9) (lb : by' ≤ 9) (lg : gt ≤ 12) (hw : bgC (a 0) by' = 1 → a 7 = 0) : ∃ s', f_X0_beginDrive (iZ (r : Int)) (iZ (by' : Int)) (iZ (mu : Int)) s = some s' ∧ clL gt dg s' r (bgA mu pc gt by' G a) ∧ rF r s s' := by
  obtain ⟨c0, c1, c2, c3, c4, c5, c6, c7⟩ := h
  obtain ⟨s', e0, e1, e2, e3, e4, e5, e6, e7⟩ := c_beginD (mu := mu) hr c0 c1 c6 h13 l0 lb lg hw
  refine ⟨s', e0, ⟨e1, ?_, ?_, ?_, e2, fun _ => ⟨e3, e4, e5⟩, e6, ?_⟩, fun x b n => e7 x b (by omega)⟩
  · rw [e7 _ _ (by omega)]; exact c1
  · rw [e7 _ _ (by omega)]; exact c2
  · rw [e7 _ _ (by omega)]; exact c3
  · rw [e7 _ _ (by omega)]; exact c7
theorem c_w27 {r gt dg mu pc sh tp : Nat} (hr : r < 12) (lg : gt ≤ 12) (hd : dg ≤ 9) (p1 : 1 ≤ pc) (p9 : pc ≤ 9) (hsh : sh ≤ 9) (hmu : mu ≤ 200000) :
    ∀ n f x : Nat, ∀ a s, okA dg tp r a → clL gt dg s r a → gI s 27 13 = iZ (pc : Int) → gI s 27 11 = iZ (sh : Int) → a 1 + a 2 ≤ n → x + n ≤ 2 → n < f → ∃ s', f_X0_work_27 f (iZ (r : Int)) (iZ (mu : Int)) (iZ (x : Int)) s = some s' ∧ clL gt dg s' r (wkA mu pc gt dg (sh * r) n a) ∧ rF r s s' := by
  have i12 : inb (iZ (r : Int)) 12 = true := iZb hr (by omega)
  have dl : sh * r ≤ 9 * 11 := Nat.mul_le_mul hsh (by omega)
  intro n
  induction n with
  | zero =>
    intro f x a s ok h h13 h11 hn hx hf
    cases f with
    | zero => omega
    | succ f =>
      have o3 := ok.2.2.1
      rw [f_X0_work_27, if_neg (by rw [leI, t_3, iZt (by omega)]; omega), gd_t i12, iZc (by omega), h.2.2.2.2.1]
      refine ⟨s, ?_, h, fun _ _ _ => rfl⟩
      by_cases c3 : a 3 = 1
      · rw [if_neg (by rw [c3]; decide)]; rfl
      · have c0 : a 3 = 0 := by omega
        rw [if_pos (by rw [c0]; rfl)]
        have nd : f_X0_nextDrive (iZ (r : Int)) (iZ (mu : Int)) s = some (-1, s) := by
          unfold f_X0_nextDrive f_X0_nextDrive_39 f_X0_nextDrive_60
          rw [gd_t i12, iZc (by omega), if_pos (by rw [h.2.2.1, if_neg (by omega)]), gd_t i12, if_pos (by rw [h.2.2.2.1, show a 2 = 0 by omega]; decide)]
        rw [bnd nd]
        rfl
  | succ n ih =>
    intro f x a s ok h h13 h11 hn hx hf
    cases f with
    | zero => omega
    | succ f =>
      have o0 := ok.1
      have o3 := ok.2.2.1
      have oi := ok.2.2.2.2.2.2.1
      rw [f_X0_work_27, if_neg (by rw [leI, t_3, iZt (by omega)]; omega), gd_t i12, iZc (by omega), h.2.2.2.2.1, wkA]
      by_cases c3 : a 3 = 1
      · rw [if_neg (by rw [c3]; decide), if_pos c3]
        exact ⟨s, rfl, h, fun _ _ _ => rfl⟩
      · have c0 : a 3 = 0 := by omega
        rw [if_pos (by rw [c0]; rfl), if_neg c3]
        have du : gI s 27 11 * iZ (r : Int) = iZ ((sh * r : Nat) : Int) := by rw [h11, iZ_mul]; rfl
        have n39 : ¬ (a 1 = 1 ∧ sh * r ≤ mu) → f_X0_nextDrive (iZ (r : Int)) (iZ (mu : Int)) s = f_X0_nextDrive_39 (iZ (r : Int)) (-1) s := by
          intro c1
          unfold f_X0_nextDrive
          rw [gd_t i12, iZc (by omega)]
          by_cases q : gI s 30 r = -1
          · rw [if_pos q]
          · have a1 : a 1 = 1 := by
              by_cases w : a 1 = 1
              · exact w
              · rw [h.2.2.1, if_neg w] at q; exact absurd rfl q
            rw [if_neg q, du, if_pos (by rw [lI, iZt (by omega), iZt (by omega)]; omega)]
        by_cases c1 : a 1 = 1 ∧ sh * r ≤ mu
        · rw [if_pos c1]
          obtain ⟨g, hw⟩ := bg_own (mu := mu) (gt := gt) ok c0 c1.1 p1 p9 hd
          have nd : f_X0_nextDrive (iZ (r : Int)) (iZ (mu : Int)) s = some (iZ (dg : Int), sI s 30 r (-1)) := by
            unfold f_X0_nextDrive f_X0_nextDrive_29 f_X0_nextDrive_60
            rw [gd_t i12, iZc (by omega), h.2.2.1, if_pos c1.1, if_neg (by rw [eI, iZt (by omega), t_m1]; omega), du, if_neg (by rw [lI, iZt (by omega), iZt (by omega)]; omega), gd_t i12, gd_t i12]
          rw [bnd nd]
          dsimp only
          rw [if_neg (by rw [eI, iZt (by omega), t_m1]; omega)]
          have h' : clL gt dg (sI s 30 r (-1)) r (setA a 1 0) := by
            obtain ⟨d0, d1, d2, d3, d4, d5, d6, d7⟩ := h
            refine ⟨?_, ?_, ?_, ?_, ?_, fun q => ?_, ?_, ?_⟩
            · rw [g_sI_ne (by omega)]; exact d0
            · rw [g_sI_ne (by omega)]; exact d1
            · rw [g_sI_eq]; rfl
            · rw [g_sI_ne (by omega)]; exact d3
            · rw [g_sI_ne (by omega)]; exact d4
            · exact absurd q (by show ¬ a 3 = 1; omega)
            · rw [g_sI_ne (by omega)]; exact d6
            · rw [g_sI_ne (by omega)]; exact d7
          obtain ⟨s1, e0, e1, e2⟩ := c_bgA (s1 := s) (mu := mu) (G := a 10) hr h' (by rw [g_sI_ne (by omega)]; exact h13) o0 hd lg hw
          rw [bnd e0, iZs]
          obtain ⟨s2, f0, f1, f2⟩ := ih f (x + 1) _ s1 g.1 e1 (by rw [e2 _ _ (by omega), g_sI_ne (by omega)]; exact h13) (by rw [e2 _ _ (by omega), g_sI_ne (by omega)]; exact h11) (by show 0 + a 2 ≤ n; omega) (by omega) (by omega)
          exact ⟨s2, f0, f1, rF.tr (fun x b n => by rw [e2 x b n, g_sI_ne (by omega)]) f2⟩
        · rw [if_neg c1, n39 c1]
          by_cases c2 : a 2 = 0
          · rw [if_pos c2]
            have nd : f_X0_nextDrive_39 (iZ (r : Int)) (-1) s = some (-1, s) := by
              unfold f_X0_nextDrive_39 f_X0_nextDrive_60
              rw [gd_t i12, iZc (by omega), if_pos (by rw [h.2.2.2.1, c2]; decide)]
            rw [bnd nd]
            exact ⟨s, rfl, h, fun _ _ _ => rfl⟩
          · rw [if_neg c2]
            obtain ⟨g, hw⟩ := bg_car (mu := mu) (gt := gt) ok c0 c2 p1 p9 hd
            have a2 : a 2 = 1 := by omega
            have nd : f_X0_nextDrive_39 (iZ (r : Int)) (-1) s = some (1, sI s 31 r (iZ ((a 2 - 1 : Nat) : Int))) := by
              unfold f_X0_nextDrive_39 f_X0_nextDrive_60
              rw [gd_t i12, iZc (by omega), h.2.2.2.1, if_neg (by rw [a2]; decide), gd_t i12, gd_t i12, a2]
              rfl
            rw [bnd nd]
            dsimp only
            rw [if_neg (by decide)]
            have h' : clL gt dg (sI s 31 r (iZ ((a 2 - 1 : Nat) : Int))) r (setA a 2 (a 2 - 1)) := by
              obtain ⟨d0, d1, d2, d3, d4, d5, d6, d7⟩ := h
              refine ⟨?_, ?_, ?_, ?_, ?_, fun q => ?_, ?_, ?_⟩
              · rw [g_sI_ne (by omega)]; exact d0
              · rw [g_sI_ne (by omega)]; exact d1
              · rw [g_sI_ne (by omega)]; exact d2
              · rw [g_sI_eq]; rfl
              · rw [g_sI_ne (by omega)]; exact d4
              · exact absurd q (by show ¬ a 3 = 1; omega)
              · rw [g_sI_ne (by omega)]; exact d6
              · rw [g_sI_ne (by omega)]; exact d7
            obtain ⟨s1, e0, e1, e2⟩ := c_bgA (s1 := s) (by' := 1) (mu := mu) (G := a 10 + 1) hr h' (by rw [g_sI_ne (by omega)]; exact h13) o0 (by omega) lg hw
            rw [show f_X0_beginDrive (iZ (r : Int)) 1 (iZ (mu : Int)) (sI s 31 r (iZ ((a 2 - 1 : Nat) : Int))) = some s1 from e0]
            rw [bnd rfl, iZs]
            obtain ⟨s2, f0, f1, f2⟩ := ih f (x + 1) _ s1 g.1 e1 (by rw [e2 _ _ (by omega), g_sI_ne (by omega)]; exact h13) (by rw [e2 _ _ (by omega), g_sI_ne (by omega)]; exact h11) (by show a 1 + (a 2 - 1) ≤ n; omega) (by omega) (by omega)
            exact ⟨s2, f0, f1, rF.tr (fun x b n => by rw [e2 x b n, g_sI_ne (by omega)]) f2⟩
theorem c_work {r gt dg mu pc sh tp : Nat} {a : Nat → Nat} {s : St} (hr : r < 12) (lg : gt ≤ 12) (hd : dg ≤ 9) (p1 : 1 ≤ pc) (p9 : pc ≤ 9) (hsh : sh ≤ 9) (hmu : mu ≤ 200000) (ok : okA dg tp r a) (h : clL gt dg s r a) (h13 : gI s 27 13 = iZ (pc : Int)) (h11 : gI s 27 11 = iZ (sh : Int)) (h4 : a 3 = 1 → a 4 ≤ 300000) : ∃ s', f_X0_work (iZ (r : Int)) (iZ (mu : Int)) s = some s' ∧ clL gt dg s' r (wkF mu pc gt dg (sh * r) a) ∧ rF r s s' := by
  have i12 : inb (iZ (r : Int)) 12 = true := iZb hr (by omega)
  have o3 := ok.2.2.1
  have o1 := ok.2.1
  have oi := ok.2.2.2.2.2.2.1
  unfold f_X0_work f_X0_work_25 wkF
  rw [gd_t i12, iZc (by omega), h.2.2.2.2.1]
  by_cases c3 : a 3 = 1
  · obtain ⟨d0, d1, d2, d3, d4, d5, d6, d7⟩ := h
    obtain ⟨u1, u2, u3⟩ := d5 c3
    rw [if_neg (by rw [c3]; decide), gd_t i12, if_pos c3, u1]
    by_cases c4 : a 4 = mu
    · rw [if_pos (by rw [c4]), if_pos c4]
      obtain ⟨x1, x2, x3, x4, x5, x6, x7, x8, x9, x10, x11⟩ := en_ok (mu := mu) ok c3
      obtain ⟨s1, e0, e1, e2, e3, e4⟩ := c_endD hr u2 u3 d6 x11 x10
      rw [bnd e0]
      have h' : clL gt dg s1 r (enA a) := by
        refine ⟨e1, ?_, ?_, ?_, ?_, fun q => by omega, ?_, ?_⟩
        · rw [e4 _ _ (by omega)]; exact d1
        · rw [e4 _ _ (by omega)]; exact d2
        · rw [e4 _ _ (by omega)]; exact d3
        · rw [e2]; rfl
        · exact e3
        · rw [e4 _ _ (by omega)]; exact d7
      obtain ⟨s2, f0, f1, f2⟩ := c_w27 (mu := mu) hr lg hd p1 p9 hsh hmu 2 FU 0 (enA a) s1 x1 h' (by rw [e4 _ _ (by omega)]; exact h13) (by rw [e4 _ _ (by omega)]; exact h11) (by omega) (by omega) (by unfold FU; omega)
      exact ⟨s2, f0, f1, rF.tr (fun x b n => e4 x b (by omega)) f2⟩
    · have := h4 c3
      rw [if_neg (by rw [eI, iZt (by omega), iZt (by omega)]; omega), if_neg c4]
      exact ⟨s, rfl, ⟨d0, d1, d2, d3, d4, d5, d6, d7⟩, fun _ _ _ => rfl⟩
  · have c0 : a 3 = 0 := by omega
    rw [if_pos (by rw [c0]; rfl), if_neg c3]
    exact c_w27 (mu := mu) hr lg hd p1 p9 hsh hmu 2 FU 0 a s ok h h13 h11 (by omega) (by omega) (by unfold FU; omega)
