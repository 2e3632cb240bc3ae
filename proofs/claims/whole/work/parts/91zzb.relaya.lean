/-! RELAY: the turns of the dogs -/
/-- what a rope keeps when dogs are sent -/
def sdK (mu aw : Nat) (a a' : Nat → Nat) : Prop := oA a' = oA a ∧ a' 9 = a 9 ∧ a' 2 = a 2 ∧ a' 10 = a 10 ∧ a' 3 = a 3 ∧ a' 4 = a 4 ∧ a' 1 = a 1 ∧ a' 7 ≤ a 7 ∧ phi mu a' ≤ phi mu a ∧ (a' 8 = a 8 ∨ a' 8 = mu + aw + 1)
theorem sdK.rf (mu aw : Nat) (a : Nat → Nat) : sdK mu aw a a := ⟨rfl, rfl, rfl, rfl, rfl, rfl, rfl, Nat.le_refl _, Nat.le_refl _, Or.inl rfl⟩
theorem sdK.tr {mu aw : Nat} {a b c : Nat → Nat} (h : sdK mu aw a b) (h2 : sdK mu aw b c) : sdK mu aw a c := by
  obtain ⟨x1, x2, x3, x4, x5, x6, x7, x8, x9, x10⟩ := h
  obtain ⟨y1, y2, y3, y4, y5, y6, y7, y8, y9, y10⟩ := h2
  exact ⟨by omega, by omega, by omega, by omega, by omega, by omega, by omega, by omega, by omega, by omega⟩
theorem sd_ok {dg tp r mu aw : Nat} {a : Nat → Nat} (h : okA dg tp r a) (h7 : a 7 = 1) (ha : aw ≤ 9) : a 8 = 0 ∧ okA dg tp r (setA (setA a 7 0) 8 (mu + aw + 1)) ∧ sdK mu aw a (setA (setA a 7 0) 8 (mu + aw + 1)) := by
  obtain ⟨o0, o1, o3, o9, o5, or, oi, oo, oj⟩ := h
  have h8 : a 8 = 0 := by
    unfold oA at oo
    by_cases q : a 8 = 0
    · exact q
    · rw [if_neg q] at oo; omega
  have oe : oA (setA (setA a 7 0) 8 (mu + aw + 1)) = oA a := by
    unfold oA
    show 0 + (if mu + aw + 1 = 0 then 0 else 1) + (if a 3 = 1 then a 6 else 0) = a 7 + (if a 8 = 0 then 0 else 1) + (if a 3 = 1 then a 6 else 0)
    rw [if_neg (by omega), if_pos h8, h7]
  refine ⟨h8, ⟨o0, o1, o3, o9, o5, or, oi, ?_, oj⟩, oe, rfl, rfl, rfl, rfl, rfl, rfl, by show 0 ≤ a 7; omega, ?_, Or.inr rfl⟩
  · rw [oe]; exact oo
  · unfold phi
    show 85 * a 1 + (if a 3 = 1 then (a 4 - mu) + 150 * a 6 else 0) + 200 * (1 - a 9) + 150 * 0 + (if mu + aw + 1 = 0 then 0 else (mu + aw + 1 - 1 - mu) + 100) + 90 * a 2 ≤ 85 * a 1 + (if a 3 = 1 then (a 4 - mu) + 150 * a 6 else 0) + 200 * (1 - a 9) + 150 * a 7 + (if a 8 = 0 then 0 else (a 8 - 1 - mu) + 100) + 90 * a 2
    rw [if_neg (show ¬ mu + aw + 1 = 0 by omega), if_pos h8, h7]
    omega
theorem send_go {R K mu aw dog pc sh hl tp x N : Nat} {gt dg : Nat → Nat} {x4 : Int32} (hR : R ≤ 12) (hK : K ≤ 9) (hx : x ≤ 1) (ha : aw = max 1 dog) (hdog : dog ≤ 9) (hmu : mu ≤ 200000) :
    ∀ m k : Nat, k + m = R → ∀ (P : Nat → Nat → Nat) (tl fm : Nat → Nat) (fr : Int), (∀ r, r < R → okA (dg r) tp r (P r)) → DG K R P tl fm fr → (∀ d, d < K → tl d ≤ 300000) →
    ∃ (P' : Nat → Nat → Nat) (tl' fm' : Nat → Nat) (fr' : Int), (∀ r, r < R → okA (dg r) tp r (P' r)) ∧ DG K R P' tl' fm' fr' ∧ (∀ r, r < R → sdK mu aw (P r) (P' r)) ∧ (fr' = 0 ∨ ∀ j, k ≤ j → j < R → P' (rpK R x j) 7 = 0) ∧
    (∀ (n : Nat) (s : St), m < n → clH R gt dg s P → gcl R sh hl pc fr s → ∃ s', f_X0_sendOut_2 n (iZ ((mu + aw : Nat) : Int)) (iZ (x : Int)) (iZ (k : Int)) s = some s' ∧ clH R gt dg s' P' ∧ gcl R sh hl pc fr' s') ∧
    (∀ (k103 : Int32 → Int32 → Int32 → Int32 → Int32 → Int32 → St → Option (Int32 × St)) (n : Nat) (t : St), m < n → moH R gt tp t P → gmo R pc dog sh t → dgH K t tl fm → ∃ t', f_X10_relayOf_209 k103 n (iZ (N : Int)) (iZ (K : Int)) (iZ (x : Int)) x4 (iZ (mu : Int)) (iZ (k : Int)) t = ((f_X10_areAtRest x4 (iZ (K : Int)) t').bind fun p2 => (k103 (iZ (N : Int)) (iZ (K : Int)) (iZ (x : Int)) x4 (iZ (mu : Int) + 1) p2.1 p2.2)) ∧ moH R gt tp t' P' ∧ gmo R pc dog sh t' ∧ dgH K t' tl' fm') := by
  have aw9 : aw ≤ 9 := by omega
  have awe : iZ (mu : Int) + mxI 1 (iZ (dog : Int)) = iZ ((mu + aw : Nat) : Int) := by
    rw [show (1 : Int32) = iZ 1 from rfl, iZ_mx (by omega) (by omega) (by omega) (by omega), iZ_add]
    congr 1
    omega
  intro m
  induction m with
  | zero =>
    intro k e P tl fm fr ok dd _
    have ek : k = R := by omega
    subst ek
    refine ⟨P, tl, fm, fr, ok, dd, fun r _ => sdK.rf mu aw _, Or.inr (fun j j1 j2 => by omega), fun n s hn h g => ?_, fun k103 n t hn h g d => ?_⟩
    · cases n with
      | zero => omega
      | succ n =>
        rw [f_X0_sendOut_2, g.1, if_pos (by rw [leI]; exact Int.le_refl _)]
        exact ⟨s, rfl, h, g⟩
    · cases n with
      | zero => omega
      | succ n =>
        rw [f_X10_relayOf_209, g.1, if_pos (by rw [leI]; exact Int.le_refl _)]
        exact ⟨t, rfl, h, g, d⟩
  | succ m ih =>
    intro k e P tl fm fr ok dd lt
    obtain ⟨fr0, frK, frz, frp⟩ := DG_fr dd
    by_cases cf : fr = 0
    ·
      have nz := frz cf
      refine ⟨P, tl, fm, fr, ok, dd, fun r _ => sdK.rf mu aw _, Or.inl cf, fun n s hn h g => ?_, fun k103 n t hn h g d => ?_⟩
      · cases n with
        | zero => omega
        | succ n =>
          rw [f_X0_sendOut_2, g.1, if_neg (by rw [leI, iZt (by omega), iZt (by omega)]; omega), g.2.2.2.2, if_pos (by rw [cf]; decide)]
          exact ⟨s, rfl, h, g⟩
      · refine ⟨t, m_209_idle hR hK g.1 hx (fun e he => ?_) (m + 1) n k e hn, h, g, d⟩
        have := lt e he
        have := nz e he
        rw [(d e he).1, show (-1 : Int32) = iZ (-1) from rfl, Ne, iZ_eq (by omega) (by omega) (by omega) (by omega)]
        omega
    ·
      obtain ⟨r, hrd⟩ : ∃ r, r = rpK R x k := ⟨_, rfl⟩
      have rR : r < R := by rw [hrd]; unfold rpK; split <;> omega
      have okr := ok r rR
      have i12 : inb (iZ (r : Int)) 12 = true := iZb (by omega) (by omega)
      have idx : (if iZ (x : Int) = 0 then iZ (k : Int) else (iZ (R : Int) - 1) - iZ (k : Int)) = iZ (r : Int) := by
        rw [hrd]
        unfold rpK
        by_cases q : x = 0
        · rw [if_pos q, if_pos (by rw [q]; rfl)]
        · rw [if_neg q, if_neg (by rw [eI, iZt (by omega), t_0]; omega), show (1 : Int32) = iZ 1 from rfl, iZ_sub, iZ_sub]
          congr 1
          omega
      have cstep : ∀ (n : Nat) (s : St), gcl R sh hl pc fr s → f_X0_sendOut_2 (n + 1) (iZ ((mu + aw : Nat) : Int)) (iZ (x : Int)) (iZ (k : Int)) s = f_X0_sendOut_33 (f_X0_sendOut_2 n) (iZ ((mu + aw : Nat) : Int)) (iZ (x : Int)) (iZ (k : Int)) (iZ (r : Int)) s := by
        intro n s g
        rw [f_X0_sendOut_2, g.1, if_neg (by rw [leI, iZt (by omega), iZt (by omega)]; omega), g.2.2.2.2, if_neg (by rw [leI, iZ_toInt (by omega) (by omega), t_0]; omega), ← idx]
        by_cases q : iZ (x : Int) = 0
        · rw [if_pos q, if_pos q]
        · rw [if_neg q, if_neg q]
      have mstep : ∀ (k103 : Int32 → Int32 → Int32 → Int32 → Int32 → Int32 → St → Option (Int32 × St)) (n : Nat) (t : St), gmo R pc dog sh t → f_X10_relayOf_209 k103 (n + 1) (iZ (N : Int)) (iZ (K : Int)) (iZ (x : Int)) x4 (iZ (mu : Int)) (iZ (k : Int)) t = f_X10_relayOf_241 k103 (f_X10_relayOf_209 k103 n) FU (iZ (N : Int)) (iZ (K : Int)) (iZ (x : Int)) x4 (iZ (mu : Int)) (iZ (k : Int)) (iZ (r : Int)) 0 t := by
        intro k103 n t g
        rw [f_X10_relayOf_209, g.1, if_neg (by rw [leI, iZt (by omega), iZt (by omega)]; omega), ← idx]
        unfold f_X10_relayOf_236
        by_cases q : iZ (x : Int) = 0
        · rw [if_pos q, if_pos q]
        · rw [if_neg q, if_neg q]
      by_cases c7 : P r 7 = 1
      · obtain ⟨h8, ok8, sd8⟩ := sd_ok (mu := mu) (aw := aw) okr c7 aw9
        obtain ⟨d0, dK, dz, dn⟩ := frp (by omega)
        have dd' := DG_send (mu := mu) (aw := aw) dd rR dK dz h8
        have eP : ∀ q, q ≠ r → sdP mu aw r P q = P q := fun q hq => if_neg hq
        have eR : sdP mu aw r P r = setA (setA (P r) 7 0) 8 (mu + aw + 1) := if_pos rfl
        obtain ⟨P', tl', fm', fr', a1, a2, a3, a4, a5, a6⟩ := ih (k + 1) (by omega) (sdP mu aw r P) _ _ _ (fun q hq => by
          by_cases w : q = r
          · subst w; rw [eR]; exact ok8
          · rw [eP q w]; exact ok q hq) dd' (fun d hd => by
            show (if d = d0 then mu + aw + 1 else tl d) ≤ 300000
            split
            · omega
            · exact lt d hd)
        refine ⟨P', tl', fm', fr', a1, a2, fun q hq => ?_, ?_, fun n s hn h g => ?_, fun k103 n t hn h g d => ?_⟩
        · have := a3 q hq
          by_cases w : q = r
          · subst w; rw [eR] at this; exact sd8.tr this
          · rw [eP q w] at this; exact this
        · rcases a4 with a4 | a4
          · exact Or.inl a4
          · refine Or.inr (fun j j1 j2 => ?_)
            by_cases w : j = k
            · subst w
              rw [← hrd]
              have := (a3 r rR).2.2.2.2.2.2.2.1
              rw [eR] at this
              have e0 : setA (setA (P r) 7 0) 8 (mu + aw + 1) 7 = 0 := rfl
              omega
            · exact a4 j (by omega) j2
        · cases n with
          | zero => omega
          | succ n =>
            rw [cstep n s g]
            unfold f_X0_sendOut_33 f_X0_sendOut_71
            have hk := h r rR
            rw [gd_t i12, iZc (by omega), hk.2.2.2.2.2.2.1, if_neg (by rw [c7]; decide), gd_t i12, gd_t i12, iZs]
            have e14 : gI (sI (sI s 36 r 0) 37 r (iZ ((mu + aw : Nat) : Int))) 27 14 - 1 = iZ (fr - 1) := by
              rw [g_sI_ne (by omega), g_sI_ne (by omega), g.2.2.2.2, show (1 : Int32) = iZ 1 from rfl, iZ_sub]
            rw [e14]
            obtain ⟨s1, hs1⟩ : ∃ s1, s1 = sI (sI (sI s 36 r 0) 37 r (iZ ((mu + aw : Nat) : Int))) 27 14 (iZ (fr - 1)) := ⟨_, rfl⟩
            have so : ∀ a b, ¬ (b = r ∧ (a = 36 ∨ a = 37)) → ¬ (a = 27 ∧ b = 14) → gI s1 a b = gI s a b := fun a b n1 n2 => by rw [hs1, g_sI_ne n2, g_sI_ne (by omega), g_sI_ne (by omega)]
            rw [← hs1]
            refine a5 n s1 (by omega) (fun q hq => ?_) ?_
            · by_cases w : q = r
              · subst w
                rw [eR]
                obtain ⟨d0, d1, d2, d3, d4, d5, d6, d7⟩ := hk
                refine ⟨?_, ?_, ?_, ?_, ?_, fun z => ?_, ?_, ?_⟩
                · rw [so _ _ (by omega) (by omega)]; exact d0
                · rw [so _ _ (by omega) (by omega)]; exact d1
                · rw [so _ _ (by omega) (by omega)]; exact d2
                · rw [so _ _ (by omega) (by omega)]; exact d3
                · rw [so _ _ (by omega) (by omega)]; exact d4
                · rw [so _ _ (by omega) (by omega), so _ _ (by omega) (by omega), so _ _ (by omega) (by omega)]; exact d5 z
                · rw [hs1, g_sI_ne (by omega), g_sI_ne (by omega), g_sI_eq]; rfl
                · rw [hs1, g_sI_ne (by omega), g_sI_eq]
                  show _ = iZ (((mu + aw + 1 : Nat) : Int) - 1)
                  congr 1
                  omega
              · rw [eP q w]
                have hq' := h q hq
                have same : ∀ y, y ≠ 27 → gI s1 y q = gI s y q := fun y hy => so y q (by omega) (by omega)
                unfold clL at hq' ⊢
                rw [same _ (by omega), same _ (by omega), same _ (by omega), same _ (by omega), same _ (by omega), same _ (by omega), same _ (by omega), same _ (by omega), same _ (by omega), same _ (by omega)]
                exact hq'
            · obtain ⟨g1, g2, g3, g4, g5⟩ := g
              refine ⟨?_, ?_, ?_, ?_, ?_⟩
              · rw [so _ _ (by omega) (by omega)]; exact g1
              · rw [so _ _ (by omega) (by omega)]; exact g2
              · rw [so _ _ (by omega) (by omega)]; exact g3
              · rw [so _ _ (by omega) (by omega)]; exact g4
              · rw [hs1, g_sI_eq]
        · cases n with
          | zero => omega
          | succ n =>
            have hk := h r rR
            have w62 : gI t 62 r = 1 := by rw [hk.2.2.2.2.2.2, c7]; rfl
            have w65 : gI t 65 d0 = -1 := by rw [(d d0 dK).1, dz]; rfl
            have tk := m_241_take (k103 := k103) (k209 := f_X10_relayOf_209 k103 n) (x1 := iZ (N : Int)) (x3 := iZ (x : Int)) (x4 := x4) (x5 := iZ (mu : Int)) (x7 := iZ (k : Int)) (t := t) hK (show r < 12 by omega) dK w62 w65 g.2.2.1 d0 FU 0 (by omega) (by unfold FU; omega) (fun e _ e2 => by
              have := lt e (by omega)
              have := dn e e2
              rw [(d e (by omega)).1, show (-1 : Int32) = iZ (-1) from rfl, Ne, iZ_eq (by omega) (by omega) (by omega) (by omega)]
              omega)
            rw [mstep k103 n t g]
            rw [show f_X10_relayOf_241 k103 (f_X10_relayOf_209 k103 n) FU (iZ (N : Int)) (iZ (K : Int)) (iZ (x : Int)) x4 (iZ (mu : Int)) (iZ (k : Int)) (iZ (r : Int)) 0 t = _ from tk]
            rw [iZs, awe]
            obtain ⟨t1, ht1⟩ : ∃ t1, t1 = sI (sI (sI t 62 r 0) 65 d0 (iZ ((mu + aw : Nat) : Int))) 66 d0 (iZ (r : Int)) := ⟨_, rfl⟩
            have so : ∀ a b, ¬ (a = 62 ∧ b = r) → ¬ (b = d0 ∧ (a = 65 ∨ a = 66)) → gI t1 a b = gI t a b := fun a b n1 n2 => by rw [ht1, g_sI_ne (by omega), g_sI_ne (by omega), g_sI_ne n1]
            rw [← ht1]
            refine a6 k103 n t1 (by omega) (fun q hq => ?_) ?_ (fun e he => ?_)
            · have hq' := h q hq
              have same : ∀ y, y ≠ 62 → y ≠ 65 → y ≠ 66 → gI t1 y q = gI t y q := fun y y1 y2 y3 => so y q (by omega) (by omega)
              by_cases w : q = r
              · subst w
                rw [eR]
                obtain ⟨d0, d1, d2, d3, d4, d5, d6⟩ := hq'
                refine ⟨?_, ?_, ?_, ?_, ?_, fun z => ?_, ?_⟩
                · rw [same _ (by omega) (by omega) (by omega)]; exact d0
                · rw [same _ (by omega) (by omega) (by omega)]; exact d1
                · rw [same _ (by omega) (by omega) (by omega)]; exact d2
                · rw [same _ (by omega) (by omega) (by omega)]; exact d3
                · rw [same _ (by omega) (by omega) (by omega)]; exact d4
                · rw [same _ (by omega) (by omega) (by omega), same _ (by omega) (by omega) (by omega)]; exact d5 z
                · rw [ht1, g_sI_ne (by omega), g_sI_ne (by omega), g_sI_eq]; rfl
              · rw [eP q w]
                have s62 : gI t1 62 q = gI t 62 q := so 62 q (by omega) (by omega)
                unfold moL at hq' ⊢
                rw [same _ (by omega) (by omega) (by omega), same _ (by omega) (by omega) (by omega), same _ (by omega) (by omega) (by omega), same _ (by omega) (by omega) (by omega), same _ (by omega) (by omega) (by omega), same _ (by omega) (by omega) (by omega), same _ (by omega) (by omega) (by omega), s62]
                exact hq'
            · obtain ⟨g1, g2, g3, g4⟩ := g
              refine ⟨?_, ?_, ?_, ?_⟩
              · rw [so _ _ (by omega) (by omega)]; exact g1
              · rw [so _ _ (by omega) (by omega)]; exact g2
              · rw [so _ _ (by omega) (by omega)]; exact g3
              · rw [so _ _ (by omega) (by omega)]; exact g4
            · by_cases w : e = d0
              · subst w
                refine ⟨?_, fun _ => ?_⟩
                · rw [ht1, g_sI_ne (by omega), g_sI_eq]
                  show _ = iZ (((if e = e then mu + aw + 1 else tl e : Nat) : Int) - 1)
                  rw [if_pos rfl]
                  congr 1
                  omega
                · rw [ht1, g_sI_eq]
                  show _ = iZ ((if e = e then r else fm e : Nat) : Int)
                  rw [if_pos rfl]
              · rw [so _ _ (by omega) (by omega), so _ _ (by omega) (by omega)]
                show gI t 65 e = iZ (((if e = d0 then mu + aw + 1 else tl e : Nat) : Int) - 1) ∧ ((if e = d0 then mu + aw + 1 else tl e) ≠ 0 → gI t 66 e = iZ ((if e = d0 then r else fm e : Nat) : Int))
                rw [if_neg w, if_neg w]
                exact d e he
      · have c0 : P r 7 = 0 := by
          have a := okr.2.2.2.1
          have b := okr.2.2.2.2.2.2.2.1
          unfold oA at b
          omega
        obtain ⟨P', tl', fm', fr', a1, a2, a3, a4, a5, a6⟩ := ih (k + 1) (by omega) P tl fm fr ok dd lt
        refine ⟨P', tl', fm', fr', a1, a2, a3, ?_, fun n s hn h g => ?_, fun k103 n t hn h g d => ?_⟩
        · rcases a4 with a4 | a4
          · exact Or.inl a4
          · refine Or.inr (fun j j1 j2 => ?_)
            by_cases w : j = k
            · subst w
              rw [← hrd]
              have := (a3 r rR).2.2.2.2.2.2.2.1
              omega
            · exact a4 j (by omega) j2
        · cases n with
          | zero => omega
          | succ n =>
            rw [cstep n s g]
            unfold f_X0_sendOut_33 f_X0_sendOut_71
            rw [gd_t i12, iZc (by omega), (h r rR).2.2.2.2.2.2.1, if_pos (by rw [c0]; rfl), iZs]
            exact a5 n s (by omega) h g
        · cases n with
          | zero => omega
          | succ n =>
            have w62 : gI t 62 r ≤ 0 := by rw [(h r rR).2.2.2.2.2.2, c0]; decide
            have tk := m_241_idle (k103 := k103) (k209 := f_X10_relayOf_209 k103 n) (x1 := iZ (N : Int)) (x3 := iZ (x : Int)) (x4 := x4) (x5 := iZ (mu : Int)) (x7 := iZ (k : Int)) (t := t) hK (show r < 12 by omega) K FU 0 (by omega) (by unfold FU; omega) (Or.inl w62)
            rw [mstep k103 n t g]
            rw [show f_X10_relayOf_241 k103 (f_X10_relayOf_209 k103 n) FU (iZ (N : Int)) (iZ (K : Int)) (iZ (x : Int)) x4 (iZ (mu : Int)) (iZ (k : Int)) (iZ (r : Int)) 0 t = _ from tk]
            rw [iZs]
            exact a6 k103 n t (by omega) h g d
