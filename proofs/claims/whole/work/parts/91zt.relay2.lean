/-! RELAY: the model's drive -/
theorem m_bodyD {t : St} {r a0 by' gt mu pc w cm N : Nat} {ow : Nat} {x4 x6 : Int32} {k24 : Int32 → Int32 → Int32 → Int32 → Int32 → St → Option St} (hr : r < 12) (h64 : gI t 64 r = iZ (a0 : Int)) (h44 : gI t 44 r = iZ (gt : Int)) (h62 : gI t 62 r = iZ (w : Int)) (h63 : gI t 63 r = iZ (cm : Int)) (h12 : gI t 38 12 = iZ (pc : Int)) (h61 : gI t 61 r = 0 ∨ gI t 61 r = 1) (l0 : a0 ≤ 9) (lb : by' ≤ 9) (lg : gt ≤ 12) (hN : N < 10 ^ 9) (hx : x6 = iZ (ow : Int)) (ho : ow ≤ 1) (hb : by' = if ow = 0 then 1 else dgN N r) (hcm : ow = 0 → 1 ≤ cm) :
    ∃ t', f_X10_work_90 k24 (iZ (r : Int)) (iZ (mu : Int)) (iZ (N : Int)) x4 x6 1 t = k24 (iZ (r : Int)) (iZ (mu : Int)) (iZ (N : Int)) x4 1 t' ∧ gI t' 64 r = iZ ((if bgW gt a0 by' = 0 then bgT gt a0 by' else a0 : Nat) : Int) ∧ gI t' 61 r = (if ow = 0 then gI t 61 r else 1) ∧ gI t' 63 r = iZ ((if ow = 0 then cm - 1 else cm : Nat) : Int) ∧ gI t' 58 r = (if bgW gt a0 by' = 0 then -1 else iZ ((mu + bgW gt a0 by' * pc : Nat) : Int)) ∧ gI t' 59 r = iZ (bgT gt a0 by' : Int) ∧ gI t' 60 r = iZ (bgC a0 by' : Int) ∧ gI t' 62 r = iZ ((if bgW gt a0 by' = 0 then w + bgC a0 by' else w : Nat) : Int) ∧ ∀ a b, ¬ (b = r ∧ (58 ≤ a ∧ a ≤ 64)) → gI t' a b = gI t a b := by
  have i12 : inb (iZ (r : Int)) 12 = true := iZb hr (by omega)
  have c1 := bgC_1 a0 by'
  have t9 := bgT_9 (gt := gt) l0 lb
  have w9 : bgW gt a0 by' ≤ 9 := by unfold bgW; omega
  have g163 : ∀ σ1 : St, (∀ a b, ¬ (b = r ∧ (58 ≤ a ∧ a ≤ 64)) → gI σ1 a b = gI t a b) → gI σ1 64 r = iZ (a0 : Int) → gI σ1 62 r = iZ (w : Int) →
      ∃ t', f_X10_work_163 k24 (iZ (r : Int)) (iZ (mu : Int)) (iZ (N : Int)) x4 1 (iZ ((a0 + by' : Nat) : Int)) (iZ ((1 - ow : Nat) : Int)) (iZ (cm : Int)) (iZ (r : Int)) σ1 = k24 (iZ (r : Int)) (iZ (mu : Int)) (iZ (N : Int)) x4 1 t' ∧ gI t' 64 r = iZ ((if bgW gt a0 by' = 0 then bgT gt a0 by' else a0 : Nat) : Int) ∧ gI t' 61 r = gI σ1 61 r ∧ gI t' 63 r = iZ ((if ow = 0 then cm - 1 else cm : Nat) : Int) ∧ gI t' 58 r = (if bgW gt a0 by' = 0 then -1 else iZ ((mu + bgW gt a0 by' * pc : Nat) : Int)) ∧ gI t' 59 r = iZ (bgT gt a0 by' : Int) ∧ gI t' 60 r = iZ (bgC a0 by' : Int) ∧ gI t' 62 r = iZ ((if bgW gt a0 by' = 0 then w + bgC a0 by' else w : Nat) : Int) ∧ ∀ a b, ¬ (b = r ∧ (58 ≤ a ∧ a ≤ 64)) → gI t' a b = gI t a b := by
    intro σ1 s1 s64 s62
    have ecm : iZ (cm : Int) - iZ ((1 - ow : Nat) : Int) = iZ ((if ow = 0 then cm - 1 else cm : Nat) : Int) := by
      rw [iZ_sub]
      congr 1
      by_cases q : ow = 0
      · have := hcm q
        rw [if_pos q]; omega
      · rw [if_neg q]; omega
    obtain ⟨σ2, h2⟩ : ∃ σ2, σ2 = sI σ1 63 r (iZ ((if ow = 0 then cm - 1 else cm : Nat) : Int)) := ⟨_, rfl⟩
    have e44 : gI σ2 44 r = iZ (gt : Int) := by rw [h2, g_sI_ne (by omega), s1 _ _ (by omega)]; exact h44
    obtain ⟨σ3, h3⟩ : ∃ σ3, σ3 = sI (sI σ2 59 r (iZ (bgT gt a0 by' : Int))) 60 r (iZ (bgC a0 by' : Int)) := ⟨_, rfl⟩
    have f59 : gI σ3 59 r = iZ (bgT gt a0 by' : Int) := by rw [h3, g_sI_ne (by omega), g_sI_eq]
    have f64 : gI σ3 64 r = iZ (a0 : Int) := by rw [h3, g_sI_ne (by omega), g_sI_ne (by omega), h2, g_sI_ne (by omega)]; exact s64
    have f12 : gI σ3 38 12 = iZ (pc : Int) := by rw [h3, g_sI_ne (by omega), g_sI_ne (by omega), h2, g_sI_ne (by omega), s1 _ _ (by omega)]; exact h12
    obtain ⟨σ4, h4⟩ : ∃ σ4, σ4 = sI σ3 58 r (iZ ((mu + bgW gt a0 by' * pc : Nat) : Int)) := ⟨_, rfl⟩
    have p58 : gI σ4 58 r = iZ ((mu + bgW gt a0 by' * pc : Nat) : Int) := by rw [h4, g_sI_eq]
    have p59 : gI σ4 59 r = iZ (bgT gt a0 by' : Int) := by rw [h4, g_sI_ne (by omega)]; exact f59
    have p60 : gI σ4 60 r = iZ (bgC a0 by' : Int) := by rw [h4, g_sI_ne (by omega), h3, g_sI_eq]
    have p61 : gI σ4 61 r = gI σ1 61 r := by rw [h4, g_sI_ne (by omega), h3, g_sI_ne (by omega), g_sI_ne (by omega), h2, g_sI_ne (by omega)]
    have p62 : gI σ4 62 r = iZ (w : Int) := by rw [h4, g_sI_ne (by omega), h3, g_sI_ne (by omega), g_sI_ne (by omega), h2, g_sI_ne (by omega)]; exact s62
    have p63 : gI σ4 63 r = iZ ((if ow = 0 then cm - 1 else cm : Nat) : Int) := by rw [h4, g_sI_ne (by omega), h3, g_sI_ne (by omega), g_sI_ne (by omega), h2, g_sI_eq]
    have p64 : gI σ4 64 r = iZ (a0 : Int) := by rw [h4, g_sI_ne (by omega)]; exact f64
    have po : ∀ a b, ¬ (b = r ∧ (58 ≤ a ∧ a ≤ 64)) → gI σ4 a b = gI t a b := fun a b n => by rw [h4, g_sI_ne (by omega), h3, g_sI_ne (by omega), g_sI_ne (by omega), h2, g_sI_ne (by omega)]; exact s1 a b n
    have g233 : ∃ t', f_X10_work_233 k24 (iZ (r : Int)) (iZ (mu : Int)) (iZ (N : Int)) x4 1 (iZ (bgW gt a0 by' : Int)) σ3 = k24 (iZ (r : Int)) (iZ (mu : Int)) (iZ (N : Int)) x4 1 t' ∧ gI t' 64 r = iZ ((if bgW gt a0 by' = 0 then bgT gt a0 by' else a0 : Nat) : Int) ∧ gI t' 61 r = gI σ1 61 r ∧ gI t' 63 r = iZ ((if ow = 0 then cm - 1 else cm : Nat) : Int) ∧ gI t' 58 r = (if bgW gt a0 by' = 0 then -1 else iZ ((mu + bgW gt a0 by' * pc : Nat) : Int)) ∧ gI t' 59 r = iZ (bgT gt a0 by' : Int) ∧ gI t' 60 r = iZ (bgC a0 by' : Int) ∧ gI t' 62 r = iZ ((if bgW gt a0 by' = 0 then w + bgC a0 by' else w : Nat) : Int) ∧ ∀ a b, ¬ (b = r ∧ (58 ≤ a ∧ a ≤ 64)) → gI t' a b = gI t a b := by
      have ev : iZ (mu : Int) + iZ (bgW gt a0 by' : Int) * iZ (pc : Int) = iZ ((mu + bgW gt a0 by' * pc : Nat) : Int) := by
        rw [iZ_mul, iZ_add]
        congr 1
      unfold f_X10_work_233 f_X10_work_264
      rw [gd_t i12, iZc (by omega), f12, ev, ← h4]
      by_cases q : bgW gt a0 by' = 0
      · rw [if_pos (by rw [q]; rfl), gd_t i12]
        obtain ⟨t', e1, e2, e3, e4, e5⟩ := m_ends (x2 := gI σ4 60 r) hr p59 p60 p62 c1
        refine ⟨t', bnd e1, ?_, ?_, ?_, ?_, ?_, ?_, ?_, fun a b n => ?_⟩
        · rw [e2, if_pos q]
        · rw [e5 _ _ (by omega)]; exact p61
        · rw [e5 _ _ (by omega)]; exact p63
        · rw [e3, if_pos q]
        · rw [e5 _ _ (by omega)]; exact p59
        · rw [e5 _ _ (by omega)]; exact p60
        · rw [e4, if_pos q]
        · rw [e5 _ _ (by omega)]; exact po a b n
      · rw [if_neg (by rw [eI, iZt (by omega), t_0]; omega)]
        refine ⟨σ4, rfl, ?_, p61, p63, ?_, p59, p60, ?_, po⟩
        · rw [p64, if_neg q]
        · rw [p58, if_neg q]
        · rw [p62, if_neg q]
    unfold f_X10_work_163 f_X10_work_187 f_X10_work_197 f_X10_work_214
    rw [gd_t i12, iZc (by omega), ecm, ← h2]
    have q59 : ∀ c, gI (sI (sI σ2 59 r (iZ (bgT gt a0 by' : Int))) 60 r c) 59 r = iZ (bgT gt a0 by' : Int) := fun c => by rw [g_sI_ne (by omega), g_sI_eq]
    have q64 : ∀ c, gI (sI (sI σ2 59 r (iZ (bgT gt a0 by' : Int))) 60 r c) 64 r = iZ (a0 : Int) := fun c => by rw [g_sI_ne (by omega), g_sI_ne (by omega), h2, g_sI_ne (by omega)]; exact s64
    by_cases q : a0 + by' ≤ 9
    · have cc : bgC a0 by' = 0 := if_pos q
      have le : (iZ ((a0 + by' : Nat) : Int) ≤ 9) := by rw [leI, iZt (by omega), t_9]; omega
      rw [if_pos le, gd_t i12, gd_t i12, if_pos le, e44, bg_mn1 l0 lb lg q, gd_t (by rw [i12]; rfl), gd_t i12, gd_t i12, q59, q64, bg_ab l0 lb]
      rw [show sI (sI σ2 59 r (iZ (bgT gt a0 by' : Int))) 60 r 0 = σ3 by rw [h3, cc]; rfl]
      exact g233
    · have cc : bgC a0 by' = 1 := if_neg q
      have le : ¬ (iZ ((a0 + by' : Nat) : Int) ≤ 9) := by rw [leI, iZt (by omega), t_9]; omega
      rw [if_neg le, gd_t i12, gd_t i12, if_neg le, e44, bg_mn2 l0 lb lg q, gd_t (by rw [i12]; rfl), gd_t i12, gd_t i12, q59, q64, bg_ab l0 lb]
      rw [show sI (sI σ2 59 r (iZ (bgT gt a0 by' : Int))) 60 r 1 = σ3 by rw [h3, cc]; rfl]
      exact g233
  have ad : iZ (a0 : Int) + iZ (by' : Int) = iZ ((a0 + by' : Nat) : Int) := by rw [iZ_add]; rfl
  unfold f_X10_work_90
  rw [if_neg (by decide), gd_t i12, iZc (by omega), h64]
  unfold f_X10_work_118 f_X10_work_121 f_X10_work_140 f_X10_work_145
  have o63 : ∀ v, gI (sI t 61 r v) 63 r = iZ (cm : Int) := fun v => by rw [g_sI_ne (by omega)]; exact h63
  have oo : ∀ v, ∀ a b, ¬ (b = r ∧ (58 ≤ a ∧ a ≤ 64)) → gI (sI t 61 r v) a b = gI t a b := fun v a b n => g_sI_ne (by omega)
  by_cases q : ow = 0
  · subst q
    have x0 : x6 = 0 := hx
    have b1 : by' = 1 := by rw [hb, if_pos rfl]
    rw [if_pos x0]
    have a1 : iZ (a0 : Int) + 1 = iZ ((a0 + by' : Nat) : Int) := by rw [iZs, b1]
    rw [a1, gd_t i12, iZc (by omega)]
    rcases h61 with h61 | h61
    · rw [if_pos h61, if_pos x0, gd_t (by rw [i12]; rfl), gd_t i12, if_pos x0, o63]
      obtain ⟨t', e0, e1, e2, e3⟩ := g163 (sI t 61 r 0) (oo 0) (by rw [g_sI_ne (by omega)]; exact h64) (by rw [g_sI_ne (by omega)]; exact h62)
      refine ⟨t', e0, e1, ?_, e3⟩
      rw [e2, g_sI_eq, if_pos rfl, h61]
    · rw [if_neg (by rw [h61]; decide), gd_t (by rw [i12]; rfl), gd_t i12, if_pos x0, o63]
      obtain ⟨t', e0, e1, e2, e3⟩ := g163 (sI t 61 r 1) (oo 1) (by rw [g_sI_ne (by omega)]; exact h64) (by rw [g_sI_ne (by omega)]; exact h62)
      refine ⟨t', e0, e1, ?_, e3⟩
      rw [e2, g_sI_eq, if_pos rfl, h61]
  · have o1 : ow = 1 := by omega
    subst o1
    have x0 : ¬ x6 = 0 := by rw [hx]; decide
    have b1 : by' = dgN N r := by rw [hb, if_neg (by omega)]
    have N64 : (iZ (N : Int)).toInt64 = jZ (N : Int) := iZ_l (by omega) (by omega)
    rw [if_neg x0, N64, bnd (s_digitOf10 t N r (by omega) (by omega))]
    dsimp only
    have a1 : iZ (a0 : Int) + iZ ((N / 10 ^ r % 10 : Nat) : Int) = iZ ((a0 + by' : Nat) : Int) := by rw [← ad, b1]
    rw [a1, gd_t i12, if_neg x0]
    obtain ⟨t', e0, e1, e2, e3⟩ := g163 (sI t 61 r 1) (oo 1) (by rw [g_sI_ne (by omega)]; exact h64) (by rw [g_sI_ne (by omega)]; exact h62)
    have same : ∀ K : Option St, (if gI t 61 (iZ (r : Int)).toNatClampNeg = 0 then K else K) = K := fun K => by split <;> rfl
    rw [same, gd_t (by rw [i12]; rfl), gd_t i12, if_neg x0, iZc (by omega), o63]
    refine ⟨t', e0, e1, ?_, e3⟩
    rw [e2, g_sI_eq, if_neg (by omega)]
