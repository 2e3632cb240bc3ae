/-! RELAY: a minute -/
def INV (R K mu sh tp : Nat) (dg : Nat → Nat) (P : Nat → Nat → Nat) (tl fm : Nat → Nat) (fr : Int) : Prop :=
  (∀ r, r < R → okA (dg r) tp r (P r)) ∧ CH R P ∧ DG K R P tl fm fr ∧ (∀ r, r < R → (P r 3 = 1 → mu ≤ P r 4) ∧ (P r 8 ≠ 0 → mu + 1 ≤ P r 8)) ∧ (∀ r, r < R → r < tp → P r 1 = 0 → sh * r ≤ mu)
theorem phi_hi (mu : Nat) (a : Nat → Nat) : (a 3 = 1 → a 4 ≤ mu + phi mu a) ∧ a 8 ≤ mu + 1 + phi mu a := by
  unfold phi
  constructor
  · intro h
    rw [if_pos h]
    omega
  · by_cases c : a 8 = 0
    · omega
    · rw [if_neg c]
      omega
theorem phi_next {mu : Nat} {a : Nat → Nat} (h3 : a 3 = 1 → mu < a 4) (h8 : a 8 ≠ 0 → mu + 1 < a 8) : phi (mu + 1) a + (if a 3 = 1 ∨ a 8 ≠ 0 then 1 else 0) ≤ phi mu a := by
  unfold phi
  by_cases c3 : a 3 = 1
  · have := h3 c3
    rw [if_pos c3, if_pos c3, if_pos (Or.inl c3)]
    by_cases c8 : a 8 = 0
    · rw [if_pos c8, if_pos c8]; omega
    · have := h8 c8
      rw [if_neg c8, if_neg c8]; omega
  · rw [if_neg c3, if_neg c3]
    by_cases c8 : a 8 = 0
    · rw [if_pos c8, if_pos c8, if_neg (fun q => by rcases q with q | q; exact c3 q; exact q c8)]; omega
    · have := h8 c8
      rw [if_neg c8, if_neg c8, if_pos (Or.inr c8)]; omega
theorem cbK_0 (mu : Nat) (P : Nat → Nat → Nat) : cbK mu 0 P = P := by
  funext r i
  unfold cbK
  by_cases c2 : i = 2
  · rw [if_pos c2, if_neg (by omega), c2]; rfl
  · rw [if_neg c2]
    by_cases c8 : i = 8
    · rw [if_pos c8, if_neg (by omega), c8]
    · rw [if_neg c8]
theorem rpK_inv {R x r : Nat} (hr : r < R) : rpK R x r < R ∧ rpK R x (rpK R x r) = r := by
  unfold rpK
  by_cases c : x = 0
  · rw [if_pos c, if_pos c]; exact ⟨hr, rfl⟩
  · rw [if_neg c, if_neg c]; omega
theorem minute {R K aw dog pc sh hl tp x N mu : Nat} {gt : Nat → Nat} {P : Nat → Nat → Nat} {tl fm : Nat → Nat} {fr : Int} (hR0 : 0 < R) (hR : R ≤ 12) (hK1 : 1 ≤ K) (hK : K ≤ 9) (hx : x ≤ 1) (ha : aw = max 1 dog) (hdog : dog ≤ 9) (p1 : 1 ≤ pc) (p9 : pc ≤ 9) (hsh : sh ≤ 9) (htp : tp ≤ R) (hhl : hl = sh * (tp - 1)) (hN : N < 10 ^ 9) (lg : ∀ r, r < R → gt r ≤ 12) (hmu : mu ≤ 50000) (inv : INV R K mu sh tp (dgN N) P tl fm fr) (hp : Phi R mu P ≤ 50000) :
    ∃ (P' : Nat → Nat → Nat) (tl' fm' : Nat → Nat) (fr' : Int) (q : Prop), INV R K (mu + 1) sh tp (dgN N) P' tl' fm' fr' ∧ (¬ q → Phi R (mu + 1) P' + ((hl - (mu + 1) : Nat) : Int) + 1 ≤ Phi R mu P + ((hl - mu : Nat) : Int)) ∧
    (∀ (n : Nat) (s : St), clH R gt (dgN N) s P → gcl R sh hl pc fr s → ∃ s', clH R gt (dgN N) s' P' ∧ gcl R sh hl pc fr' s' ∧ (q → f_X0_minuteOfRest_21 (n + 1) (iZ (x : Int)) (iZ (aw : Int)) (iZ (mu : Int)) s = some (iZ (mu : Int), s')) ∧ (¬ q → f_X0_minuteOfRest_21 (n + 1) (iZ (x : Int)) (iZ (aw : Int)) (iZ (mu : Int)) s = f_X0_minuteOfRest_21 n (iZ (x : Int)) (iZ (aw : Int)) (iZ ((mu + 1 : Nat) : Int)) s')) ∧
    (∀ (n : Nat) (t : St), moH R gt tp t P → gmo R pc dog sh t → dgH K t tl fm → ∃ t', moH R gt tp t' P' ∧ gmo R pc dog sh t' ∧ dgH K t' tl' fm' ∧ (q → f_X10_relayOf_103 (n + 2) (iZ (N : Int)) (iZ (K : Int)) (iZ (x : Int)) (iZ ((tp : Int) - 1)) (iZ (mu : Int)) 0 t = some (iZ (mu : Int), t')) ∧ (¬ q → f_X10_relayOf_103 (n + 1) (iZ (N : Int)) (iZ (K : Int)) (iZ (x : Int)) (iZ ((tp : Int) - 1)) (iZ (mu : Int)) 0 t = f_X10_relayOf_103 n (iZ (N : Int)) (iZ (K : Int)) (iZ (x : Int)) (iZ ((tp : Int) - 1)) (iZ ((mu + 1 : Nat) : Int)) 0 t')) := by
  obtain ⟨ok, ch, dd, ti, ow⟩ := inv
  have hd : ∀ r, dgN N r ≤ 9 := fun r => by have := Nat.mod_lt (N / 10 ^ r) (show 0 < 10 by omega); show N / 10 ^ r % 10 ≤ 9; omega
  have aw1 : 1 ≤ aw := by omega
  have aw9 : aw ≤ 9 := by omega
  have pr : ∀ (Q : Nat → Nat → Nat) (u : Nat) (r : Nat), r < R → (phi u (Q r) : Int) ≤ Phi R u Q := fun Q u r hr => esum_ge (f := fun r => (phi u (Q r) : Int)) (j := r) R (fun i _ => by omega) hr
  have b8 : ∀ r, r < R → P r 8 ≤ 300000 := fun r hr => by have := (phi_hi mu (P r)).2; have := pr P mu r hr; omega
  have bt : ∀ d, d < K → tl d ≤ 300000 := fun d hd' => by
    by_cases c : tl d = 0
    · omega
    · obtain ⟨c1, c2⟩ := dd.1 d hd' c
      have := b8 _ c1
      omega
  obtain ⟨P1, hP1⟩ : ∃ P1, P1 = cbK mu R P := ⟨_, rfl⟩
  obtain ⟨ok1, ch1⟩ := come_ok (mu := mu) ok ch
  have dd1 := DG_come (mu := mu) dd
  have ph1 := come_phi (R := R) (mu := mu) (P := P)
  rw [← hP1] at ok1 ch1 dd1 ph1
  have t13 : ∀ r, r < R → P1 r 3 = P r 3 ∧ P1 r 4 = P r 4 ∧ P1 r 1 = P r 1 := fun r hr => by rw [hP1]; exact ⟨rfl, rfl, rfl⟩
  have t18 : ∀ r, r < R → P1 r 8 ≠ 0 → mu + 1 < P1 r 8 := fun r hr h => by
    have e8 : P1 r 8 = if r < R ∧ P r 8 = mu + 1 then 0 else P r 8 := by rw [hP1]; rfl
    by_cases c : P r 8 = mu + 1
    · rw [e8, if_pos ⟨hr, c⟩] at h; exact absurd rfl h
    · rw [e8, if_neg (fun z => c z.2)] at h ⊢
      have := (ti r hr).2 h
      omega
  have h4 : ∀ r, r < R → P1 r 3 = 1 → P1 r 4 ≤ 300000 := fun r hr h => by have := (phi_hi mu (P1 r)).1 h; have := pr P1 mu r hr; omega
  obtain ⟨ok2, ch2, ph2, w2⟩ := work_ok (mu := mu) (pc := pc) (sh := sh) (tp := tp) (gt := gt) hR0 hd p1 p9 ok1 ch1 (fun r hr h => by rw [(t13 r hr).2.1]; exact (ti r hr).1 (by rw [← (t13 r hr).1]; exact h))
  obtain ⟨P2, hP2⟩ : ∃ P2, P2 = wkP mu pc sh gt (dgN N) P1 := ⟨_, rfl⟩
  have o2 : ∀ r, r < R → P2 r 1 = P1 r 1 ∨ (P2 r 1 = 0 ∧ sh * r ≤ mu) := fun r _ => by rw [hP2]; exact wkF_1 (P1 r)
  rw [← hP2] at ok2 ch2 ph2 w2
  have dd2 : DG K R P2 (fun d => if tl d = mu + 1 then 0 else tl d) fm (fr + esum (fun r => if P r 8 = mu + 1 then 1 else 0) R) := by
    obtain ⟨x1, x2, x3⟩ := dd1
    refine ⟨fun d hd' h => ?_, fun r hr => ?_, x3⟩
    · obtain ⟨y1, y2⟩ := x1 d hd' h
      exact ⟨y1, by rw [(w2 _ y1).1]; exact y2⟩
    · rw [x2 r hr, (w2 r hr).1]
  have bt1 : ∀ d, d < K → (fun d => if tl d = mu + 1 then 0 else tl d) d ≤ 300000 := fun d hd' => by
    show (if tl d = mu + 1 then 0 else tl d) ≤ 300000
    have := bt d hd'
    split <;> omega
  obtain ⟨P3, tl3, fm3, fr3, ok3, dd3, sd3, po3, c3, m3⟩ := send_go (R := R) (K := K) (mu := mu) (aw := aw) (dog := dog) (pc := pc) (sh := sh) (hl := hl) (tp := tp) (x := x) (N := N) (gt := gt) (dg := dgN N) (x4 := iZ ((tp : Int) - 1)) hR hK hx ha hdog (by omega) R 0 (by omega) P2 _ fm _ ok2 dd2 bt1
  have ph3 : Phi R mu P3 ≤ Phi R mu P2 := esum_le R (fun r hr => by have := (sd3 r hr).2.2.2.2.2.2.2.2.1; exact_mod_cast this)
  have ch3 : CH R P3 := by
    refine ⟨fun r hr => ?_, ?_⟩
    · have a := ch2.1 r hr
      obtain ⟨x1, x2, _⟩ := sd3 r (by omega)
      obtain ⟨_, _, y3, y4, _⟩ := sd3 (r + 1) hr
      omega
    · obtain ⟨_, _, y3, y4, _⟩ := sd3 0 hR0
      have := ch2.2
      omega
  have f3 : ∀ r, r < R → P3 r 3 = 1 → mu < P3 r 4 := fun r hr h => by
    obtain ⟨_, _, _, _, y5, y6, _⟩ := sd3 r hr
    have := (w2 r hr).2.1 (by omega)
    omega
  have f8 : ∀ r, r < R → P3 r 8 ≠ 0 → mu + 1 < P3 r 8 := fun r hr h => by
    obtain ⟨_, _, _, _, _, _, _, _, _, y10⟩ := sd3 r hr
    have := (w2 r hr).1
    have := t18 r hr
    omega
  have o3 : ∀ r, r < R → r < tp → P3 r 1 = 0 → sh * r ≤ mu := fun r hr h1 h2 => by
    obtain ⟨_, _, _, _, _, _, y7, _⟩ := sd3 r hr
    have a := (t13 r hr).2.2
    rcases o2 r hr with q | q
    · exact ow r hr h1 (by omega)
    · exact q.2
  have inv' : INV R K (mu + 1) sh tp (dgN N) P3 tl3 fm3 fr3 := ⟨ok3, ch3, dd3, fun r hr => ⟨fun h => by have := f3 r hr h; omega, fun h => by have := f8 r hr h; omega⟩, fun r hr h1 h2 => by have := o3 r hr h1 h2; omega⟩
  have e8 : ∀ r, r < R → P3 r 8 ≤ 300000 := fun r hr => by have := (phi_hi mu (P3 r)).2; have := pr P3 mu r hr; omega
  have e4 : ∀ r, r < R → P3 r 3 = 1 → P3 r 4 ≤ 300000 := fun r hr h => by have := (phi_hi mu (P3 r)).1 h; have := pr P3 mu r hr; omega
  have et : ∀ d, d < K → tl3 d ≤ 300000 := fun d hd' => by
    by_cases c : tl3 d = 0
    · omega
    · obtain ⟨c1, c2⟩ := dd3.1 d hd' c
      have := e8 _ c1
      omega
  have hl99 : hl ≤ 99 := by
    rw [hhl]
    exact Nat.mul_le_mul hsh (show tp - 1 ≤ 11 by omega)
  have same : ((∀ r, r < R → qm tp r (P3 r)) ∧ ∀ e, e < K → tl3 e = 0) ↔ (hl ≤ mu ∧ ∀ r, r < R → qt (P3 r)) := by
    constructor
    · rintro ⟨a, b⟩
      refine ⟨?_, fun r hr => ⟨(a r hr).1, (a r hr).2.1, ?_, (a r hr).2.2.1⟩⟩
      · by_cases c : tp = 0
        · rw [hhl, c]; omega
        · rw [hhl]
          exact o3 (tp - 1) (by omega) (by omega) ((a (tp - 1) (by omega)).2.2.2 (by omega))
      · have s := dd3.2.1 r hr
        have z : esum (fun d => if tl3 d ≠ 0 ∧ fm3 d = r then (1 : Int) else 0) K = 0 := Eq.trans (esum_cg K (g := fun _ => 0) (fun d hd' => if_neg (fun w => w.1 (b d hd')))) (esum_z K)
        rw [z] at s
        by_cases c : P3 r 8 = 0
        · exact c
        · rw [if_neg c] at s; omega
    · rintro ⟨a, b⟩
      refine ⟨fun r hr => ⟨(b r hr).1, (b r hr).2.1, (b r hr).2.2.2, fun h1 => ?_⟩, fun e he => ?_⟩
      · obtain ⟨_, _, _, _, y5, _, y7, _⟩ := sd3 r hr
        by_cases c : P3 r 1 = 0
        · exact c
        · have u1 := (ok3 r hr).2.1
          have := ((w2 r hr).2.2 (by have := (b r hr).1; omega)).2 (by omega)
          have : sh * r ≤ sh * (tp - 1) := Nat.mul_le_mul_left sh (by omega)
          omega
      · by_cases c : tl3 e = 0
        · exact c
        · obtain ⟨c1, c2⟩ := dd3.1 e he c
          have := (b _ c1).2.2.1
          omega
  refine ⟨P3, tl3, fm3, fr3, hl ≤ mu ∧ ∀ r, r < R → qt (P3 r), inv', fun nq => ?_, fun n s h g => ?_, fun n t h g d => ?_⟩
  · have key : Phi R (mu + 1) P3 + esum (fun r => if P3 r 3 = 1 ∨ P3 r 8 ≠ 0 then (1 : Int) else 0) R ≤ Phi R mu P3 := by
      unfold Phi
      rw [← esum_add]
      refine esum_le R (fun r hr => ?_)
      have := phi_next (f3 r hr) (f8 r hr)
      by_cases c : P3 r 3 = 1 ∨ P3 r 8 ≠ 0
      · rw [if_pos c] at this ⊢; omega
      · rw [if_neg c] at this ⊢; omega
    have nn := esum_nn (f := fun r => if P3 r 3 = 1 ∨ P3 r 8 ≠ 0 then (1 : Int) else 0) R (fun j _ => by show (0 : Int) ≤ if _ then 1 else 0; split <;> omega)
    by_cases c : mu < hl
    · omega
    · have ex : ∃ r, r < R ∧ (P3 r 3 = 1 ∨ P3 r 8 ≠ 0) := by
        have : ¬ ∀ r, r < R → qt (P3 r) := fun w => nq ⟨by omega, w⟩
        apply Classical.byContradiction
        intro no
        apply this
        intro r hr
        have n1 : ¬ (P3 r 3 = 1 ∨ P3 r 8 ≠ 0) := fun w => no ⟨r, hr, w⟩
        have z3 : P3 r 3 = 0 := by have := (ok3 r hr).2.2.1; omega
        have z8 : P3 r 8 = 0 := by omega
        obtain ⟨_, _, y3, _, y5, _, _, _⟩ := sd3 r hr
        have z2 : P3 r 2 = 0 := by rw [y3]; exact ((w2 r hr).2.2 (by omega)).1
        refine ⟨z3, ?_, z8, z2⟩
        rcases po3 with q | q
        · have := (DG_fr dd3).2.2.1 q 0 (by omega)
          obtain ⟨c1, c2⟩ := dd3.1 0 (by omega) this
          exact absurd ⟨fm3 0, c1, Or.inr (by omega)⟩ no
        · have i := rpK_inv (x := x) hr
          have := q (rpK R x r) (by omega) i.1
          rw [i.2] at this
          exact this
      obtain ⟨r, hr, h⟩ := ex
      have g1 := esum_ge (f := fun r => if P3 r 3 = 1 ∨ P3 r 8 ≠ 0 then (1 : Int) else 0) (j := r) R (fun j _ => by show (0 : Int) ≤ if _ then 1 else 0; split <;> omega) hr
      simp only [if_pos h] at g1
      omega
  · have g0 := g
    obtain ⟨s1, a1, a2, a3, a4⟩ := c_come (mu := mu) (fr := fr) (gt := gt) (dg := dgN N) (P := P) hR (by omega) b8 R FU 0 s (by omega) (by unfold FU; omega) (by rw [cbK_0]; exact h) g.1 (by rw [g.2.2.2.2]; show iZ fr = iZ (fr + 0); rw [Int.add_zero])
    rw [← hP1] at a2
    have g1 : gcl R sh hl pc (fr + esum (fun r => if P r 8 = mu + 1 then 1 else 0) R) s1 := ⟨by rw [a4 _ (by omega)]; exact g.1, by rw [a4 _ (by omega)]; exact g.2.1, by rw [a4 _ (by omega)]; exact g.2.2.1, by rw [a4 _ (by omega)]; exact g.2.2.2.1, a3⟩
    obtain ⟨s2, b1, b2, b3⟩ := c_w37 (mu := mu) (pc := pc) (sh := sh) (hl := hl) (tp := tp) (gt := gt) (dg := dgN N) (P := P1) (x2 := iZ (x : Int)) (x5 := iZ (aw : Int)) (k21 := f_X0_minuteOfRest_21 n) hR lg hd p1 p9 hsh (by omega) ok1 h4 R FU 0 s1 (by omega) (by unfold FU; omega) (fun r hr => by rw [if_neg (by omega)]; exact a2 r hr) g1
    rw [← hP2] at b2
    obtain ⟨s3, d1, d2, d3⟩ := c3 FU s2 (by unfold FU; omega) b2 b3
    obtain ⟨v, v1, v2⟩ := c_rest (tp := tp) hR ok3 e8 d2 d3.1 R FU 0 (by omega) (by unfold FU; omega) (fun r hr => by omega)
    have head : f_X0_minuteOfRest_21 (n + 1) (iZ (x : Int)) (iZ (aw : Int)) (iZ (mu : Int)) s = (if iZ (mu : Int) < (gI s3 27 12) then (f_X0_minuteOfRest_89 (f_X0_minuteOfRest_21 n) (iZ (x : Int)) (iZ (aw : Int)) (iZ (mu : Int)) s3) else (if v = 0 then (f_X0_minuteOfRest_89 (f_X0_minuteOfRest_21 n) (iZ (x : Int)) (iZ (aw : Int)) (iZ (mu : Int)) s3) else (some (iZ (mu : Int), s3)))) := by
      rw [f_X0_minuteOfRest_21, if_neg (by rw [leI, iZt (by omega), t_100000]; omega)]
      unfold f_X0_comeBack
      rw [show f_X0_comeBack_2 FU (iZ (mu : Int)) 0 s = some s1 from a1]
      rw [bnd rfl]
      rw [show f_X0_minuteOfRest_37 (f_X0_minuteOfRest_21 n) FU (iZ (x : Int)) (iZ (aw : Int)) (iZ (mu : Int)) 0 s1 = _ from b1]
      have es : iZ (mu : Int) + iZ (aw : Int) = iZ ((mu + aw : Nat) : Int) := by rw [iZ_add]; rfl
      unfold f_X0_sendOut f_X0_isAtRest
      rw [es]
      rw [show f_X0_sendOut_2 FU (iZ ((mu + aw : Nat) : Int)) (iZ (x : Int)) 0 s2 = some s3 from d1]
      rw [bnd rfl]
      rw [show f_X0_isAtRest_2 FU 0 s3 = some (v, s3) from v1]
      rw [bnd rfl]
    refine ⟨s3, d2, d3, fun q => ?_, fun q => ?_⟩
    · rw [head, d3.2.2.1, if_neg (by rw [lI, iZt (by omega), iZt (by omega)]; omega), if_neg (fun z => v2.mp z q.2)]
    · rw [head, d3.2.2.1]
      unfold f_X0_minuteOfRest_89
      rw [iZs]
      by_cases c : mu < hl
      · rw [if_pos (by rw [lI, iZt (by omega), iZt (by omega)]; omega)]
      · rw [if_neg (by rw [lI, iZt (by omega), iZt (by omega)]; omega), if_pos (v2.mpr (fun w => q ⟨by omega, w⟩))]
  · have H : ∀ n : Nat, ∃ (t3 : St) (v : Int32), moH R gt tp t3 P3 ∧ gmo R pc dog sh t3 ∧ dgH K t3 tl3 fm3 ∧ (v = 0 ↔ ¬ (hl ≤ mu ∧ ∀ r, r < R → qt (P3 r))) ∧ f_X10_relayOf_103 (n + 1) (iZ (N : Int)) (iZ (K : Int)) (iZ (x : Int)) (iZ ((tp : Int) - 1)) (iZ (mu : Int)) 0 t = f_X10_relayOf_103 n (iZ (N : Int)) (iZ (K : Int)) (iZ (x : Int)) (iZ ((tp : Int) - 1)) (iZ ((mu + 1 : Nat) : Int)) v t3 := by
      intro n
      obtain ⟨t1, a1, a2, a3, a4⟩ := m_come (R := R) (K := K) (mu := mu) (P2 := fun r => P r 2) (tl := tl) (fm := fm) (x1 := iZ (N : Int)) (x3 := iZ (x : Int)) (x4 := iZ ((tp : Int) - 1)) (k103 := f_X10_relayOf_103 n) (t0 := t) hR hK (by omega) bt (fun e he hz => ⟨(dd.1 e he hz).1, (d e he).2 hz⟩) g.1 K FU 0 t (by omega) (by unfold FU; omega) (fun _ _ _ _ => rfl) (fun r hr => by
          rw [(h r hr).2.2.2.1]
          show iZ (P r 2 : Int) = iZ ((P r 2 : Int) + 0)
          rw [Int.add_zero]) (fun e he => by rw [(d e he).1, if_neg (by omega)])
      have M1 : moH R gt tp t1 P1 := by
        intro r hr
        obtain ⟨d0, d1, d2, d3, d4, d5, d6⟩ := h r hr
        have so : ∀ y, y ≠ 63 → y ≠ 65 → gI t1 y r = gI t y r := fun y y1 y2 => a2 y r y1 y2
        have e2 : ((P r 2 : Int) + esum (fun d => if tl d = mu + 1 ∧ fm d + 1 = r then 1 else 0) K) = (P1 r 2 : Int) := by
          have p2 : P1 r 2 = P r 2 + (if 1 ≤ r ∧ r ≤ R ∧ P (r - 1) 8 = mu + 1 then 1 else 0) := by rw [hP1]; rfl
          rw [p2]
          by_cases c : 1 ≤ r
          · have s1 : esum (fun d => if tl d = mu + 1 ∧ fm d + 1 = r then (1 : Int) else 0) K = esum (fun d => if tl d = mu + 1 ∧ fm d = r - 1 then (1 : Int) else 0) K := by
              refine esum_cg K (fun d _ => ?_)
              by_cases w : tl d = mu + 1 ∧ fm d = r - 1
              · rw [if_pos w, if_pos ⟨w.1, by omega⟩]
              · rw [if_neg w, if_neg (fun z => w ⟨z.1, by omega⟩)]
            rw [s1, DG_mu dd (show r - 1 < R by omega)]
            by_cases w : P (r - 1) 8 = mu + 1
            · rw [if_pos w, if_pos ⟨c, by omega, w⟩]; rfl
            · rw [if_neg w, if_neg (fun z => w z.2.2)]; rfl
          · have s1 : esum (fun d => if tl d = mu + 1 ∧ fm d + 1 = r then (1 : Int) else 0) K = 0 := Eq.trans (esum_cg K (g := fun _ => 0) (fun d _ => if_neg (fun z => by omega))) (esum_z K)
            rw [s1, if_neg (fun z => c z.1)]; rfl
        have pe : ∀ i, i ≠ 2 → i ≠ 8 → P1 r i = P r i := fun i i1 i2 => by
          rw [hP1]
          show (if i = 2 then _ else if i = 8 then _ else P r i) = P r i
          rw [if_neg i1, if_neg i2]
        unfold moL
        rw [so 64 (by omega) (by omega), so 44 (by omega) (by omega), so 61 (by omega) (by omega), so 58 (by omega) (by omega), so 59 (by omega) (by omega), so 60 (by omega) (by omega), so 62 (by omega) (by omega), a3 r hr, e2, pe 0 (by omega) (by omega), pe 1 (by omega) (by omega), pe 3 (by omega) (by omega), pe 4 (by omega) (by omega), pe 5 (by omega) (by omega), pe 6 (by omega) (by omega), pe 7 (by omega) (by omega)]
        exact ⟨d0, d1, d2, rfl, d4, d5, d6⟩
      have G1 : gmo R pc dog sh t1 := ⟨by rw [a2 _ _ (by omega) (by omega)]; exact g.1, by rw [a2 _ _ (by omega) (by omega)]; exact g.2.1, by rw [a2 _ _ (by omega) (by omega)]; exact g.2.2.1, by rw [a2 _ _ (by omega) (by omega)]; exact g.2.2.2⟩
      have D1 : dgH K t1 (fun d => if tl d = mu + 1 then 0 else tl d) fm := by
        intro e he
        refine ⟨a4 e he, fun hz => ?_⟩
        rw [a2 66 e (by omega) (by omega)]
        refine (d e he).2 (fun z => hz ?_)
        show (if tl e = mu + 1 then 0 else tl e) = 0
        rw [z]
        split <;> rfl
      obtain ⟨t2, b1, b2, b3, b4⟩ := m_w180 (R := R) (K := K) (mu := mu) (pc := pc) (dog := dog) (sh := sh) (tp := tp) (N := N) (gt := gt) (P := P1) (x2 := iZ (K : Int)) (x3 := iZ (x : Int)) (k103 := f_X10_relayOf_103 n) hR lg hN p1 p9 hsh (by omega) (by omega) ok1 h4 R FU 0 t1 (by omega) (by unfold FU; omega) (fun r hr => by rw [if_neg (by omega)]; exact M1 r hr) G1 D1
      rw [← hP2] at b2
      obtain ⟨t3, c1, c2, c4, c5⟩ := m3 (f_X10_relayOf_103 n) FU t2 (by unfold FU; omega) b2 b3 b4
      obtain ⟨v, v1, v2⟩ := m_rest (dg := dgN N) hR hK (show tp ≤ 12 by omega) ok3 e4 et c2 c4.1 c5 R FU 0 (by omega) (by unfold FU; omega) (fun r hr => by omega)
      refine ⟨t3, v, c2, c4, c5, ?_, ?_⟩
      · rw [v2, same]
      · rw [f_X10_relayOf_103, if_pos rfl]
        rw [show f_X10_relayOf_111 (f_X10_relayOf_103 n) FU (iZ (N : Int)) (iZ (K : Int)) (iZ (x : Int)) (iZ ((tp : Int) - 1)) (iZ (mu : Int)) 0 t = _ from a1]
        rw [show f_X10_relayOf_180 (f_X10_relayOf_103 n) FU (iZ (N : Int)) (iZ (K : Int)) (iZ (x : Int)) (iZ ((tp : Int) - 1)) (iZ (mu : Int)) 0 t1 = _ from b1]
        rw [show f_X10_relayOf_209 (f_X10_relayOf_103 n) FU (iZ (N : Int)) (iZ (K : Int)) (iZ (x : Int)) (iZ ((tp : Int) - 1)) (iZ (mu : Int)) 0 t2 = _ from c1]
        unfold f_X10_areAtRest
        rw [show f_X10_areAtRest_2 FU (iZ ((tp : Int) - 1)) (iZ (K : Int)) 0 t3 = some (v, t3) from v1]
        rw [bnd rfl, iZs]
    by_cases q : hl ≤ mu ∧ ∀ r, r < R → qt (P3 r)
    · obtain ⟨t3, v, x1, x2, x3, x4, x5⟩ := H (n + 1)
      refine ⟨t3, x1, x2, x3, fun _ => ?_, fun nq => absurd q nq⟩
      rw [x5, f_X10_relayOf_103, if_neg (fun z => x4.mp z q)]
      have e1 : iZ ((mu + 1 : Nat) : Int) - 1 = iZ (mu : Int) := by
        rw [show (1 : Int32) = iZ 1 from rfl, iZ_sub]
        congr 1
        omega
      rw [e1]
    · obtain ⟨t3, v, x1, x2, x3, x4, x5⟩ := H n
      refine ⟨t3, x1, x2, x3, fun y => absurd y q, fun _ => ?_⟩
      rw [x5, x4.mpr q]
theorem relay_go {R K aw dog pc sh hl tp x N : Nat} {gt : Nat → Nat} (hR0 : 0 < R) (hR : R ≤ 12) (hK1 : 1 ≤ K) (hK : K ≤ 9) (hx : x ≤ 1) (ha : aw = max 1 dog) (hdog : dog ≤ 9) (p1 : 1 ≤ pc) (p9 : pc ≤ 9) (hsh : sh ≤ 9) (htp : tp ≤ R) (hhl : hl = sh * (tp - 1)) (hN : N < 10 ^ 9) (lg : ∀ r, r < R → gt r ≤ 12) :
    ∀ m mu : Nat, mu + m = 50000 → ∀ (P : Nat → Nat → Nat) (tl fm : Nat → Nat) (fr : Int), INV R K mu sh tp (dgN N) P tl fm fr → Phi R mu P + ((hl - mu : Nat) : Int) ≤ m →
    ∃ A, (∀ (n : Nat) (s : St), m < n → clH R gt (dgN N) s P → gcl R sh hl pc fr s → ∃ s', f_X0_minuteOfRest_21 n (iZ (x : Int)) (iZ (aw : Int)) (iZ (mu : Int)) s = some (A, s')) ∧ (∀ (n : Nat) (t : St), m + 1 < n → moH R gt tp t P → gmo R pc dog sh t → dgH K t tl fm → ∃ t', f_X10_relayOf_103 n (iZ (N : Int)) (iZ (K : Int)) (iZ (x : Int)) (iZ ((tp : Int) - 1)) (iZ (mu : Int)) 0 t = some (A, t')) := by
  intro m
  induction m with
  | zero =>
    intro mu e P tl fm fr inv hp
    obtain ⟨P', tl', fm', fr', q, i', dec, c, mo⟩ := minute (x := x) hR0 hR hK1 hK hx ha hdog p1 p9 hsh htp hhl hN lg (by omega) inv (by omega)
    have nn : 0 ≤ Phi R (mu + 1) P' := esum_nn R (fun r _ => by omega)
    have hq : q := Classical.byContradiction (fun nq => by have := dec nq; omega)
    refine ⟨iZ (mu : Int), fun n s hn h g => ?_, fun n t hn h g d => ?_⟩
    · cases n with
      | zero => omega
      | succ n =>
        obtain ⟨s', _, _, a, _⟩ := c n s h g
        exact ⟨s', a hq⟩
    · obtain ⟨n', rfl⟩ : ∃ n', n = n' + 2 := ⟨n - 2, by omega⟩
      obtain ⟨t', _, _, _, a, _⟩ := mo n' t h g d
      exact ⟨t', a hq⟩
  | succ m ih =>
    intro mu e P tl fm fr inv hp
    obtain ⟨P', tl', fm', fr', q, i', dec, c, mo⟩ := minute (x := x) hR0 hR hK1 hK hx ha hdog p1 p9 hsh htp hhl hN lg (by omega) inv (by omega)
    by_cases hq : q
    · refine ⟨iZ (mu : Int), fun n s hn h g => ?_, fun n t hn h g d => ?_⟩
      · cases n with
        | zero => omega
        | succ n =>
          obtain ⟨s', _, _, a, _⟩ := c n s h g
          exact ⟨s', a hq⟩
      · obtain ⟨n', rfl⟩ : ∃ n', n = n' + 2 := ⟨n - 2, by omega⟩
        obtain ⟨t', _, _, _, a, _⟩ := mo n' t h g d
        exact ⟨t', a hq⟩
    · obtain ⟨A, a1, a2⟩ := ih (mu + 1) (by omega) P' tl' fm' fr' i' (by have := dec hq; omega)
      refine ⟨A, fun n s hn h g => ?_, fun n t hn h g d => ?_⟩
      · cases n with
        | zero => omega
        | succ n =>
          obtain ⟨s', b1, b2, _, b4⟩ := c n s h g
          obtain ⟨s2, b5⟩ := a1 n s' (by omega) b1 b2
          exact ⟨s2, by rw [b4 hq]; exact b5⟩
      · obtain ⟨n', rfl⟩ : ∃ n', n = n' + 1 := ⟨n - 1, by omega⟩
        obtain ⟨t', b1, b2, b3, _, b5⟩ := mo n' t h g d
        obtain ⟨t2, b6⟩ := a2 n' t' (by omega) b1 b2 b3
        exact ⟨t2, by rw [b5 hq]; exact b6⟩
