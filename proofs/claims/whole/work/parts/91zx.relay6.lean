/-! RELAY: dogs come back -/
def clH (R : Nat) (gt dg : Nat → Nat) (s : St) (P : Nat → Nat → Nat) : Prop := ∀ r, r < R → clL (gt r) (dg r) s r (P r)
def moH (R : Nat) (gt : Nat → Nat) (tp : Nat) (t : St) (P : Nat → Nat → Nat) : Prop := ∀ r, r < R → moL (gt r) tp t r (P r)
def gcl (R sh hl pc : Nat) (fr : Int) (s : St) : Prop := gI s 27 10 = iZ (R : Int) ∧ gI s 27 11 = iZ (sh : Int) ∧ gI s 27 12 = iZ (hl : Int) ∧ gI s 27 13 = iZ (pc : Int) ∧ gI s 27 14 = iZ fr
def gmo (R pc dog sh : Nat) (t : St) : Prop := gI t 38 1 = iZ (R : Int) ∧ gI t 38 12 = iZ (pc : Int) ∧ gI t 38 13 = iZ (dog : Int) ∧ gI t 38 14 = iZ (sh : Int)
def dgH (K : Nat) (t : St) (tl fm : Nat → Nat) : Prop := ∀ d, d < K → gI t 65 d = iZ ((tl d : Int) - 1) ∧ (tl d ≠ 0 → gI t 66 d = iZ (fm d : Int))
def cbK (mu k : Nat) (P : Nat → Nat → Nat) : Nat → Nat → Nat := fun r i => if i = 2 then P r 2 + (if 1 ≤ r ∧ r ≤ k ∧ P (r - 1) 8 = mu + 1 then 1 else 0) else if i = 8 then (if r < k ∧ P r 8 = mu + 1 then 0 else P r 8) else P r i
theorem clL_upd {gt dg r : Nat} {s s' : St} {a a' : Nat → Nat} (h : clL gt dg s r a) (hx : ∀ x, 28 ≤ x → x ≤ 36 → x ≠ 31 → gI s' x r = gI s x r) (h2 : gI s' 31 r = iZ (a' 2 : Int)) (h8 : gI s' 37 r = iZ ((a' 8 : Int) - 1)) (ha : ∀ i, i ≠ 2 → i ≠ 8 → a' i = a i) : clL gt dg s' r a' := by
  obtain ⟨d0, d1, d2, d3, d4, d5, d6, d7⟩ := h
  unfold clL
  rw [hx 28 (by omega) (by omega) (by omega), hx 29 (by omega) (by omega) (by omega), hx 30 (by omega) (by omega) (by omega), hx 32 (by omega) (by omega) (by omega), hx 33 (by omega) (by omega) (by omega), hx 34 (by omega) (by omega) (by omega), hx 35 (by omega) (by omega) (by omega), hx 36 (by omega) (by omega) (by omega)]
  rw [ha 0 (by omega) (by omega), ha 1 (by omega) (by omega), ha 3 (by omega) (by omega), ha 4 (by omega) (by omega), ha 5 (by omega) (by omega), ha 6 (by omega) (by omega), ha 7 (by omega) (by omega)]
  exact ⟨d0, d1, d2, h2, d4, d5, d6, h8⟩
theorem c_come {R mu : Nat} {gt dg : Nat → Nat} {P : Nat → Nat → Nat} {fr : Int} (hR : R ≤ 12) (hmu : mu ≤ 200000) (h8 : ∀ r, r < R → P r 8 ≤ 300000) :
    ∀ m n k : Nat, ∀ s : St, k + m = R → m < n → clH R gt dg s (cbK mu k P) → gI s 27 10 = iZ (R : Int) → gI s 27 14 = iZ (fr + esum (fun r => if P r 8 = mu + 1 then 1 else 0) k) → ∃ s', f_X0_comeBack_2 n (iZ (mu : Int)) (iZ (k : Int)) s = some s' ∧ clH R gt dg s' (cbK mu R P) ∧ gI s' 27 14 = iZ (fr + esum (fun r => if P r 8 = mu + 1 then 1 else 0) R) ∧ ∀ b, b ≠ 14 → gI s' 27 b = gI s 27 b := by
  intro m
  induction m with
  | zero =>
    intro n k s e hn h h10 h14
    cases n with
    | zero => omega
    | succ n =>
      have ek : k = R := by omega
      subst ek
      rw [f_X0_comeBack_2, h10, if_pos (by rw [leI]; exact Int.le_refl _)]
      exact ⟨s, rfl, h, h14, fun _ _ => rfl⟩
  | succ m ih =>
    intro n k s e hn h h10 h14
    cases n with
    | zero => omega
    | succ n =>
      have i12 : inb (iZ (k : Int)) 12 = true := iZb (by omega) (by omega)
      have hk := h k (by omega)
      have p8 := h8 k (by omega)
      have e37 : gI s 37 k = iZ ((P k 8 : Int) - 1) := by
        have := hk.2.2.2.2.2.2.2
        have e : cbK mu k P k 8 = P k 8 := by
          show (if k < k ∧ P k 8 = mu + 1 then 0 else P k 8) = _
          rw [if_neg (by omega)]
        rw [e] at this
        exact this
      have es : esum (fun r => if P r 8 = mu + 1 then (1 : Int) else 0) (k + 1) = esum (fun r => if P r 8 = mu + 1 then 1 else 0) k + (if P k 8 = mu + 1 then 1 else 0) := rfl
      rw [f_X0_comeBack_2, h10, if_neg (by rw [leI, iZt (by omega), iZt (by omega)]; omega), gd_t i12, iZc (by omega), e37]
      unfold f_X0_comeBack_37 f_X0_comeBack_59
      rw [iZs]
      by_cases q : P k 8 = mu + 1
      · rw [if_pos (by congr 1; omega), gd_t i12]
        obtain ⟨s1, hs1⟩ : ∃ s1, s1 = sI (sI s 37 k (-1)) 27 14 (gI (sI s 37 k (-1)) 27 14 + 1) := ⟨_, rfl⟩
        have f14 : gI s1 27 14 = iZ (fr + esum (fun r => if P r 8 = mu + 1 then 1 else 0) (k + 1)) := by
          rw [hs1, g_sI_eq, g_sI_ne (by omega), h14, show (1 : Int32) = iZ 1 from rfl, iZ_add, es, if_pos q, Int.add_assoc]
        have f10 : gI s1 27 10 = iZ (R : Int) := by rw [hs1, g_sI_ne (by omega), g_sI_ne (by omega)]; exact h10
        have f37 : gI s1 37 k = -1 := by rw [hs1, g_sI_ne (by omega), g_sI_eq]
        have fo : ∀ a b, a ≠ 27 → ¬ (a = 37 ∧ b = k) → gI s1 a b = gI s a b := fun a b n1 n2 => by rw [hs1, g_sI_ne (by omega), g_sI_ne n2]
        have fo27 : ∀ b, b ≠ 14 → gI s1 27 b = gI s 27 b := fun b n1 => by rw [hs1, g_sI_ne (by omega), g_sI_ne (by omega)]
        rw [← hs1, f10]
        by_cases c : R ≤ k + 1
        · rw [if_pos (by rw [leI, iZt (by omega), iZt (by omega)]; omega)]
          obtain ⟨s2, g0, g1, g2, g3⟩ := ih n (k + 1) s1 (by omega) (by omega) (fun r hr => by
            refine clL_upd (h r hr) (fun x x1 x2 _ => fo x r (by omega) (by omega)) ?_ ?_ (fun i i1 i2 => ?_)
            · rw [fo 31 r (by omega) (by omega), (h r hr).2.2.2.1]
              show iZ ((P r 2 + (if 1 ≤ r ∧ r ≤ k ∧ P (r - 1) 8 = mu + 1 then 1 else 0) : Nat) : Int) = iZ ((P r 2 + (if 1 ≤ r ∧ r ≤ k + 1 ∧ P (r - 1) 8 = mu + 1 then 1 else 0) : Nat) : Int)
              by_cases w : 1 ≤ r ∧ r ≤ k ∧ P (r - 1) 8 = mu + 1
              · rw [if_pos w, if_pos ⟨w.1, by omega, w.2.2⟩]
              · rw [if_neg w, if_neg (fun z => w ⟨z.1, by omega, z.2.2⟩)]
            · show _ = iZ (((if r < k + 1 ∧ P r 8 = mu + 1 then 0 else P r 8 : Nat) : Int) - 1)
              by_cases w : r = k
              · subst w; rw [f37, if_pos ⟨by omega, q⟩]; rfl
              · rw [fo 37 r (by omega) (by omega), (h r hr).2.2.2.2.2.2.2]
                show iZ (((if r < k ∧ P r 8 = mu + 1 then 0 else P r 8 : Nat) : Int) - 1) = _
                by_cases v : r < k ∧ P r 8 = mu + 1
                · rw [if_pos v, if_pos ⟨by omega, v.2⟩]
                · rw [if_neg v, if_neg (fun z => v ⟨by omega, z.2⟩)]
            · show (if i = 2 then _ else if i = 8 then _ else P r i) = (if i = 2 then _ else if i = 8 then _ else P r i)
              rw [if_neg i1, if_neg i2, if_neg i1, if_neg i2]) f10 f14
          exact ⟨s2, g0, g1, g2, fun b n1 => by rw [g3 b n1, fo27 b n1]⟩
        · have j12 : inb (iZ ((k + 1 : Nat) : Int)) 12 = true := iZb (by omega) (by omega)
          have f31 : gI s1 31 (k + 1) = iZ (P (k + 1) 2 : Int) := by
            rw [fo 31 (k + 1) (by omega) (by omega), (h (k + 1) (by omega)).2.2.2.1]
            show iZ ((P (k + 1) 2 + (if 1 ≤ k + 1 ∧ k + 1 ≤ k ∧ P (k + 1 - 1) 8 = mu + 1 then 1 else 0) : Nat) : Int) = _
            rw [if_neg (by omega), Nat.add_zero]
          rw [if_neg (by rw [leI, iZt (by omega), iZt (by omega)]; omega), gd_t j12, gd_t j12, iZc (by omega), f31, iZs]
          obtain ⟨s2, g0, g1, g2, g3⟩ := ih n (k + 1) (sI s1 31 (k + 1) (iZ ((P (k + 1) 2 + 1 : Nat) : Int))) (by omega) (by omega) (fun r hr => by
            refine clL_upd (h r hr) (fun x x1 x2 x3 => by rw [g_sI_ne (by omega)]; exact fo x r (by omega) (by omega)) ?_ ?_ (fun i i1 i2 => ?_)
            · show _ = iZ ((P r 2 + (if 1 ≤ r ∧ r ≤ k + 1 ∧ P (r - 1) 8 = mu + 1 then 1 else 0) : Nat) : Int)
              by_cases w0 : r = k + 1
              · subst w0
                rw [g_sI_eq, if_pos ⟨by omega, by omega, q⟩]
              · rw [g_sI_ne (by omega), fo 31 r (by omega) (by omega), (h r hr).2.2.2.1]
                show iZ ((P r 2 + (if 1 ≤ r ∧ r ≤ k ∧ P (r - 1) 8 = mu + 1 then 1 else 0) : Nat) : Int) = _
                by_cases w : 1 ≤ r ∧ r ≤ k ∧ P (r - 1) 8 = mu + 1
                · rw [if_pos w, if_pos ⟨w.1, by omega, w.2.2⟩]
                · rw [if_neg w, if_neg (fun z => w ⟨z.1, by omega, z.2.2⟩)]
            · show _ = iZ (((if r < k + 1 ∧ P r 8 = mu + 1 then 0 else P r 8 : Nat) : Int) - 1)
              rw [g_sI_ne (by omega)]
              by_cases w : r = k
              · subst w; rw [f37, if_pos ⟨by omega, q⟩]; rfl
              · rw [fo 37 r (by omega) (by omega), (h r hr).2.2.2.2.2.2.2]
                show iZ (((if r < k ∧ P r 8 = mu + 1 then 0 else P r 8 : Nat) : Int) - 1) = _
                by_cases v : r < k ∧ P r 8 = mu + 1
                · rw [if_pos v, if_pos ⟨by omega, v.2⟩]
                · rw [if_neg v, if_neg (fun z => v ⟨by omega, z.2⟩)]
            · show (if i = 2 then _ else if i = 8 then _ else P r i) = (if i = 2 then _ else if i = 8 then _ else P r i)
              rw [if_neg i1, if_neg i2, if_neg i1, if_neg i2]) (by rw [g_sI_ne (by omega)]; exact f10) (by rw [g_sI_ne (by omega)]; exact f14)
          exact ⟨s2, g0, g1, g2, fun b n1 => by rw [g3 b n1, g_sI_ne (by omega), fo27 b n1]⟩
      · rw [if_neg (by rw [iZ_eq (by omega) (by omega) (by omega) (by omega)]; omega)]
        refine ih n (k + 1) s (by omega) (by omega) (fun r hr => ?_) h10 (by rw [h14, es, if_neg q, Int.add_zero])
        refine clL_upd (h r hr) (fun _ _ _ _ => rfl) ?_ ?_ (fun i i1 i2 => ?_)
        · rw [(h r hr).2.2.2.1]
          show iZ ((P r 2 + (if 1 ≤ r ∧ r ≤ k ∧ P (r - 1) 8 = mu + 1 then 1 else 0) : Nat) : Int) = iZ ((P r 2 + (if 1 ≤ r ∧ r ≤ k + 1 ∧ P (r - 1) 8 = mu + 1 then 1 else 0) : Nat) : Int)
          by_cases w : 1 ≤ r ∧ r ≤ k ∧ P (r - 1) 8 = mu + 1
          · rw [if_pos w, if_pos ⟨w.1, by omega, w.2.2⟩]
          · rw [if_neg w, if_neg (fun z => by
              by_cases v : r = k + 1
              · subst v; exact q z.2.2
              · exact w ⟨z.1, by omega, z.2.2⟩)]
        · rw [(h r hr).2.2.2.2.2.2.2]
          show iZ (((if r < k ∧ P r 8 = mu + 1 then 0 else P r 8 : Nat) : Int) - 1) = iZ (((if r < k + 1 ∧ P r 8 = mu + 1 then 0 else P r 8 : Nat) : Int) - 1)
          by_cases v : r < k ∧ P r 8 = mu + 1
          · rw [if_pos v, if_pos ⟨by omega, v.2⟩]
          · rw [if_neg v, if_neg (fun z => by
              by_cases v2 : r = k
              · subst v2; exact q z.2
              · exact v ⟨by omega, z.2⟩)]
        · show (if i = 2 then _ else if i = 8 then _ else P r i) = (if i = 2 then _ else if i = 8 then _ else P r i)
          rw [if_neg i1, if_neg i2, if_neg i1, if_neg i2]
/-- the model's -/
theorem m_come {R K mu : Nat} {P2 tl fm : Nat → Nat} {x1 x3 x4 : Int32} {k103 : Int32 → Int32 → Int32 → Int32 → Int32 → Int32 → St → Option (Int32 × St)} {t0 : St} (hR : R ≤ 12) (hK : K ≤ 9) (hmu : mu ≤ 200000) (h8 : ∀ d, d < K → tl d ≤ 300000) (hf : ∀ d, d < K → tl d ≠ 0 → fm d < R ∧ gI t0 66 d = iZ (fm d : Int)) (h1 : gI t0 38 1 = iZ (R : Int)) :
    ∀ m n k : Nat, ∀ t : St, k + m = K → m < n → (∀ a b, a ≠ 63 → a ≠ 65 → gI t a b = gI t0 a b) → (∀ r, r < R → gI t 63 r = iZ ((P2 r : Int) + esum (fun d => if tl d = mu + 1 ∧ fm d + 1 = r then 1 else 0) k)) → (∀ d, d < K → gI t 65 d = iZ (((if d < k ∧ tl d = mu + 1 then 0 else tl d : Nat) : Int) - 1)) →
    ∃ t', f_X10_relayOf_111 k103 n x1 (iZ (K : Int)) x3 x4 (iZ (mu : Int)) (iZ (k : Int)) t = f_X10_relayOf_180 k103 FU x1 (iZ (K : Int)) x3 x4 (iZ (mu : Int)) 0 t' ∧ (∀ a b, a ≠ 63 → a ≠ 65 → gI t' a b = gI t0 a b) ∧ (∀ r, r < R → gI t' 63 r = iZ ((P2 r : Int) + esum (fun d => if tl d = mu + 1 ∧ fm d + 1 = r then 1 else 0) K)) ∧ (∀ d, d < K → gI t' 65 d = iZ (((if tl d = mu + 1 then 0 else tl d : Nat) : Int) - 1)) := by
  intro m
  induction m with
  | zero =>
    intro n k t e hn ho h63 h65
    cases n with
    | zero => omega
    | succ n =>
      have ek : k = K := by omega
      subst ek
      rw [f_X10_relayOf_111, if_pos (by rw [leI]; exact Int.le_refl _)]
      refine ⟨t, rfl, ho, h63, fun d hd => ?_⟩
      rw [h65 d hd]
      by_cases w : tl d = mu + 1
      · rw [if_pos ⟨hd, w⟩, if_pos w]
      · rw [if_neg (fun z => w z.2), if_neg w]
  | succ m ih =>
    intro n k t e hn ho h63 h65
    cases n with
    | zero => omega
    | succ n =>
      have i9 : inb (iZ (k : Int)) 9 = true := iZb (by omega) (by omega)
      have l8 := h8 k (by omega)
      have e65 : gI t 65 k = iZ ((tl k : Int) - 1) := by
        rw [h65 k (by omega), if_neg (by omega)]
      have es : ∀ r, esum (fun d => if tl d = mu + 1 ∧ fm d + 1 = r then (1 : Int) else 0) (k + 1) = esum (fun d => if tl d = mu + 1 ∧ fm d + 1 = r then 1 else 0) k + (if tl k = mu + 1 ∧ fm k + 1 = r then 1 else 0) := fun r => rfl
      rw [f_X10_relayOf_111, if_neg (by rw [leI, iZt (by omega), iZt (by omega)]; omega), gd_t i9, iZc (by omega), e65]
      unfold f_X10_relayOf_171
      rw [iZs]
      by_cases q : tl k = mu + 1
      · obtain ⟨f1, f2⟩ := hf k (by omega) (by omega)
        have g66 : gI (sI t 65 k (-1)) 66 k + 1 = iZ ((fm k + 1 : Nat) : Int) := by rw [g_sI_ne (by omega), ho 66 k (by omega) (by omega), f2, iZs]
        have g1 : gI (sI t 65 k (-1)) 38 1 = iZ (R : Int) := by rw [g_sI_ne (by omega), ho 38 1 (by omega) (by omega), h1]
        rw [if_pos (by congr 1; omega), gd_t i9, gd_t i9, g66, g1]
        have n65 : ∀ t1 : St, (∀ d, gI t1 65 d = gI (sI t 65 k (-1)) 65 d) → ∀ d, d < K → gI t1 65 d = iZ (((if d < k + 1 ∧ tl d = mu + 1 then 0 else tl d : Nat) : Int) - 1) := by
          intro t1 ht1 d hd
          rw [ht1]
          by_cases w : d = k
          · subst w
            rw [g_sI_eq, if_pos ⟨by omega, q⟩]; rfl
          · rw [g_sI_ne (by omega), h65 d hd]
            by_cases v : d < k ∧ tl d = mu + 1
            · rw [if_pos v, if_pos ⟨by omega, v.2⟩]
            · rw [if_neg v, if_neg (fun z => v ⟨by omega, z.2⟩)]
        by_cases c : R ≤ fm k + 1
        · rw [if_pos (by rw [leI, iZt (by omega), iZt (by omega)]; omega)]
          refine ih n (k + 1) (sI t 65 k (-1)) (by omega) (by omega) (fun a b n1 n2 => by rw [g_sI_ne (by omega)]; exact ho a b n1 n2) (fun r hr => ?_) (n65 _ (fun _ => rfl))
          rw [g_sI_ne (by omega), h63 r hr, es, if_neg (by omega), Int.add_zero]
        · have j12 : inb (iZ ((fm k + 1 : Nat) : Int)) 12 = true := iZb (by omega) (by omega)
          have g63 : gI (sI t 65 k (-1)) 63 (fm k + 1) = iZ ((P2 (fm k + 1) : Int) + esum (fun d => if tl d = mu + 1 ∧ fm d + 1 = fm k + 1 then 1 else 0) k) := by rw [g_sI_ne (by omega), h63 _ (by omega)]
          rw [if_neg (by rw [leI, iZt (by omega), iZt (by omega)]; omega), gd_t i9, gd_t j12, gd_t j12, iZc (by omega), g63, show (1 : Int32) = iZ 1 from rfl, iZ_add]
          refine ih n (k + 1) _ (by omega) (by omega) (fun a b n1 n2 => by rw [g_sI_ne (by omega), g_sI_ne (by omega)]; exact ho a b n1 n2) (fun r hr => ?_) (n65 _ (fun d => by rw [g_sI_ne (by omega)]; rfl))
          by_cases w : r = fm k + 1
          · subst w
            rw [g_sI_eq, es, if_pos ⟨q, rfl⟩, Int.add_assoc]
          · rw [g_sI_ne (by omega), g_sI_ne (by omega), h63 r hr, es, if_neg (by omega), Int.add_zero]
      · rw [if_neg (by rw [iZ_eq (by omega) (by omega) (by omega) (by omega)]; omega)]
        refine ih n (k + 1) t (by omega) (by omega) ho (fun r hr => ?_) (fun d hd => ?_)
        · rw [h63 r hr, es, if_neg (fun z => q z.1), Int.add_zero]
        · rw [h65 d hd]
          by_cases v : d < k ∧ tl d = mu + 1
          · rw [if_pos v, if_pos ⟨by omega, v.2⟩]
          · rw [if_neg v, if_neg (fun z => by
              by_cases v2 : d = k
              · subst v2; exact q z.2
              · exact v ⟨by omega, z.2⟩)]
