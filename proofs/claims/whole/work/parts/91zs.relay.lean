/-! RELAY: one rope, one minute -/
def bgT (gt a0 by' : Nat) : Nat := min (if a0 + by' ≤ 9 then a0 + by' else a0 + by' - 10) gt
def bgW (gt a0 by' : Nat) : Nat := (bgT gt a0 by' - a0) + (a0 - bgT gt a0 by')
def bgC (a0 by' : Nat) : Nat := if a0 + by' ≤ 9 then 0 else 1
theorem bgC_1 (a0 by' : Nat) : bgC a0 by' ≤ 1 := by unfold bgC; split <;> omega
theorem bgT_9 {gt a0 by' : Nat} (h1 : a0 ≤ 9) (h2 : by' ≤ 9) : bgT gt a0 by' ≤ 9 := by
  unfold bgT
  split <;> omega
theorem c_endD {s : St} {r T c w : Nat} (hr : r < 12) (h34 : gI s 34 r = iZ (T : Int)) (h35 : gI s 35 r = iZ (c : Int)) (h36 : gI s 36 r = iZ (w : Int)) (hc : c ≤ 1) (hw : c = 1 → w = 0) :
    ∃ s', f_X0_endDrive (iZ (r : Int)) s = some s' ∧ gI s' 28 r = iZ (T : Int) ∧ gI s' 32 r = 0 ∧ gI s' 36 r = iZ ((w + c : Nat) : Int) ∧ ∀ a b, ¬ (b = r ∧ (a = 28 ∨ a = 32 ∨ a = 36)) → gI s' a b = gI s a b := by
  have i12 : inb (iZ (r : Int)) 12 = true := iZb hr (by omega)
  unfold f_X0_endDrive f_X0_endDrive_19 f_X0_endDrive_35
  rw [gd_t i12, gd_t i12, gd_t i12, gd_t i12, iZc (by omega)]
  have e34 : gI (sI s 32 r 0) 34 r = iZ (T : Int) := by rw [g_sI_ne (by omega)]; exact h34
  have e35 : gI (sI (sI s 32 r 0) 28 r (iZ (T : Int))) 35 r = iZ (c : Int) := by rw [g_sI_ne (by omega), g_sI_ne (by omega)]; exact h35
  rw [e34, e35]
  by_cases q : c = 0
  · subst q
    rw [if_pos (show iZ ((0 : Nat) : Int) = 0 from rfl)]
    refine ⟨_, rfl, ?_, ?_, ?_, fun a b n => ?_⟩
    · rw [g_sI_eq]
    · rw [g_sI_ne (by omega), g_sI_eq]
    · rw [g_sI_ne (by omega), g_sI_ne (by omega)]; exact h36
    · rw [g_sI_ne (by omega), g_sI_ne (by omega)]
  · have c1 : c = 1 := by omega
    have w0 := hw c1
    subst c1
    subst w0
    rw [if_neg (by decide), gd_t i12]
    refine ⟨_, rfl, ?_, ?_, ?_, fun a b n => ?_⟩
    · rw [g_sI_ne (by omega), g_sI_eq]
    · rw [g_sI_ne (by omega), g_sI_ne (by omega), g_sI_eq]
    · rw [g_sI_eq]; rfl
    · rw [g_sI_ne (by omega), g_sI_ne (by omega), g_sI_ne (by omega)]
theorem bg_ab {gt a0 by' : Nat} (h1 : a0 ≤ 9) (h2 : by' ≤ 9) : abI (iZ (bgT gt a0 by' : Int) - iZ (a0 : Int)) = iZ (bgW gt a0 by' : Int) := by
  have t9 := bgT_9 (gt := gt) h1 h2
  rw [iZ_sub, iZ_ab (by omega) (by omega)]
  congr 1
  unfold bgW
  omega
theorem bg_mn1 {gt a0 by' : Nat} (h1 : a0 ≤ 9) (h2 : by' ≤ 9) (hg : gt ≤ 12) (q : a0 + by' ≤ 9) : mnI (iZ ((a0 + by' : Nat) : Int)) (iZ (gt : Int)) = iZ (bgT gt a0 by' : Int) := by
  rw [iZ_mn (by omega) (by omega) (by omega) (by omega)]
  congr 1
  unfold bgT
  rw [if_pos q]
  omega
theorem bg_mn2 {gt a0 by' : Nat} (h1 : a0 ≤ 9) (h2 : by' ≤ 9) (hg : gt ≤ 12) (q : ¬ a0 + by' ≤ 9) : mnI (iZ ((a0 + by' : Nat) : Int) - 10) (iZ (gt : Int)) = iZ (bgT gt a0 by' : Int) := by
  rw [show (10 : Int32) = iZ 10 from rfl, iZ_sub, iZ_mn (by omega) (by omega) (by omega) (by omega)]
  congr 1
  unfold bgT
  rw [if_neg q]
  omega
theorem c_beginD {s : St} {r a0 by' gt mu pc w : Nat} (hr : r < 12) (h28 : gI s 28 r = iZ (a0 : Int)) (h29 : gI s 29 r = iZ (gt : Int)) (h36 : gI s 36 r = iZ (w : Int)) (h13 : gI s 27 13 = iZ (pc : Int)) (l0 : a0 ≤ 9) (lb : by' ≤ 9) (lg : gt ≤ 12) (hw : bgC a0 by' = 1 → w = 0) :
    ∃ s', f_X0_beginDrive (iZ (r : Int)) (iZ (by' : Int)) (iZ (mu : Int)) s = some s' ∧ gI s' 28 r = iZ ((if bgW gt a0 by' = 0 then bgT gt a0 by' else a0 : Nat) : Int) ∧ gI s' 32 r = iZ ((if bgW gt a0 by' = 0 then 0 else 1 : Nat) : Int) ∧ gI s' 33 r = iZ ((mu + bgW gt a0 by' * pc : Nat) : Int) ∧ gI s' 34 r = iZ (bgT gt a0 by' : Int) ∧ gI s' 35 r = iZ (bgC a0 by' : Int) ∧ gI s' 36 r = iZ ((if bgW gt a0 by' = 0 then w + bgC a0 by' else w : Nat) : Int) ∧ ∀ a b, ¬ (b = r ∧ (a = 28 ∨ (32 ≤ a ∧ a ≤ 36))) → gI s' a b = gI s a b := by
  have i12 : inb (iZ (r : Int)) 12 = true := iZb hr (by omega)
  have ad : iZ (a0 : Int) + iZ (by' : Int) = iZ ((a0 + by' : Nat) : Int) := by rw [iZ_add]; rfl
  have c1 := bgC_1 a0 by'
  have t9 := bgT_9 (gt := gt) l0 lb
  have w9 : bgW gt a0 by' ≤ 9 := by unfold bgW; omega

  have fin : ∀ σ1 : St, σ1 = sI (sI s 35 r (iZ (bgC a0 by' : Int))) 34 r (iZ (bgT gt a0 by' : Int)) → ∃ s', f_X0_beginDrive_63 (iZ (r : Int)) (iZ (mu : Int)) σ1 = some s' ∧ gI s' 28 r = iZ ((if bgW gt a0 by' = 0 then bgT gt a0 by' else a0 : Nat) : Int) ∧ gI s' 32 r = iZ ((if bgW gt a0 by' = 0 then 0 else 1 : Nat) : Int) ∧ gI s' 33 r = iZ ((mu + bgW gt a0 by' * pc : Nat) : Int) ∧ gI s' 34 r = iZ (bgT gt a0 by' : Int) ∧ gI s' 35 r = iZ (bgC a0 by' : Int) ∧ gI s' 36 r = iZ ((if bgW gt a0 by' = 0 then w + bgC a0 by' else w : Nat) : Int) ∧ ∀ a b, ¬ (b = r ∧ (a = 28 ∨ (32 ≤ a ∧ a ≤ 36))) → gI s' a b = gI s a b := by
    intro σ1 hσ
    have f34 : gI σ1 34 r = iZ (bgT gt a0 by' : Int) := by rw [hσ, g_sI_eq]
    have f28 : gI σ1 28 r = iZ (a0 : Int) := by rw [hσ, g_sI_ne (by omega), g_sI_ne (by omega)]; exact h28
    have f13 : gI (sI σ1 32 r 1) 27 13 = iZ (pc : Int) := by rw [g_sI_ne (by omega), hσ, g_sI_ne (by omega), g_sI_ne (by omega)]; exact h13
    unfold f_X0_beginDrive_63 f_X0_beginDrive_81
    rw [gd_t i12, gd_t i12, gd_t i12, gd_t i12, iZc (by omega), f34, f28, bg_ab l0 lb, f13, iZ_mul, iZ_add]
    obtain ⟨σ2, h2⟩ : ∃ σ2, σ2 = sI (sI σ1 32 r 1) 33 r (iZ ((mu : Int) + (bgW gt a0 by' : Int) * (pc : Int))) := ⟨_, rfl⟩
    have ev : iZ ((mu : Int) + (bgW gt a0 by' : Int) * (pc : Int)) = iZ ((mu + bgW gt a0 by' * pc : Nat) : Int) := by
      congr 1
    have r33 : gI σ2 33 r = iZ ((mu + bgW gt a0 by' * pc : Nat) : Int) := by rw [h2, g_sI_eq, ev]
    have r32 : gI σ2 32 r = 1 := by rw [h2, g_sI_ne (by omega), g_sI_eq]
    have r34 : gI σ2 34 r = iZ (bgT gt a0 by' : Int) := by rw [h2, g_sI_ne (by omega), g_sI_ne (by omega)]; exact f34
    have r35 : gI σ2 35 r = iZ (bgC a0 by' : Int) := by rw [h2, g_sI_ne (by omega), g_sI_ne (by omega), hσ, g_sI_ne (by omega), g_sI_eq]
    have r36 : gI σ2 36 r = iZ (w : Int) := by rw [h2, g_sI_ne (by omega), g_sI_ne (by omega), hσ, g_sI_ne (by omega), g_sI_ne (by omega)]; exact h36
    have r28 : gI σ2 28 r = iZ (a0 : Int) := by rw [h2, g_sI_ne (by omega), g_sI_ne (by omega)]; exact f28
    have ro : ∀ a b, ¬ (b = r ∧ (a = 28 ∨ (32 ≤ a ∧ a ≤ 36))) → gI σ2 a b = gI s a b := fun a b n => by
      rw [h2, g_sI_ne (by omega), g_sI_ne (by omega), hσ, g_sI_ne (by omega), g_sI_ne (by omega)]
    rw [← h2]
    unfold f_X0_beginDrive_103 f_X0_beginDrive_113
    by_cases q : bgW gt a0 by' = 0
    · rw [if_pos (by rw [q]; rfl)]
      obtain ⟨s', e1, e2, e3, e4, e5⟩ := c_endD hr r34 r35 r36 c1 hw
      refine ⟨s', bnd e1, ?_, ?_, ?_, ?_, ?_, ?_, fun a b n => ?_⟩
      · rw [e2, if_pos q]
      · rw [e3, if_pos q]; rfl
      · rw [e5 _ _ (by omega)]; exact r33
      · rw [e5 _ _ (by omega)]; exact r34
      · rw [e5 _ _ (by omega)]; exact r35
      · rw [e4, if_pos q]
      · rw [e5 _ _ (by omega)]; exact ro a b n
    · rw [if_neg (by rw [eI, iZt (by omega), t_0]; omega)]
      refine ⟨σ2, rfl, ?_, ?_, r33, r34, r35, ?_, ro⟩
      · rw [r28, if_neg q]
      · rw [r32, if_neg q]; rfl
      · rw [r36, if_neg q]
  unfold f_X0_beginDrive f_X0_beginDrive_10
  rw [gd_t i12, iZc (by omega), h28, ad, bnd (s_isDigit _ s)]
  dsimp only
  unfold f_X0_beginDrive_28 f_X0_beginDrive_53
  have g29 : ∀ v : Int32, gI (sI s 35 r v) 29 r = iZ (gt : Int) := fun v => by rw [g_sI_ne (by omega)]; exact h29
  by_cases q : a0 + by' ≤ 9
  · have cc : bgC a0 by' = 0 := if_pos q
    rw [if_neg (by rw [bZ_0, iZt (by omega)]; omega), gd_t (by rw [i12]; rfl), gd_t i12, iZc (by omega), if_pos g_sI_eq, gd_t i12, gd_t i12, g29, bg_mn1 l0 lb lg q]
    exact fin _ (by rw [cc]; rfl)
  · have cc : bgC a0 by' = 1 := if_neg q
    rw [if_pos (by rw [bZ_0, iZt (by omega)]; omega), gd_t (by rw [i12]; rfl), gd_t i12, iZc (by omega), if_neg (by rw [g_sI_eq]; decide), gd_t i12, gd_t i12, g29, bg_mn2 l0 lb lg q]
    exact fin _ (by rw [cc]; rfl)
theorem m_ends {t : St} {r T c w : Nat} {x2 : Int32} (hr : r < 12) (h59 : gI t 59 r = iZ (T : Int)) (hx : x2 = iZ (c : Int)) (h62 : gI t 62 r = iZ (w : Int)) (hc : c ≤ 1) :
    ∃ t', f_X10_ends (iZ (r : Int)) x2 t = some t' ∧ gI t' 64 r = iZ (T : Int) ∧ gI t' 58 r = -1 ∧ gI t' 62 r = iZ ((w + c : Nat) : Int) ∧ ∀ a b, ¬ (b = r ∧ (a = 58 ∨ a = 62 ∨ a = 64)) → gI t' a b = gI t a b := by
  have i12 : inb (iZ (r : Int)) 12 = true := iZb hr (by omega)
  unfold f_X10_ends f_X10_ends_19 f_X10_ends_35
  rw [gd_t i12, gd_t i12, gd_t i12, gd_t i12, iZc (by omega), h59]
  have e62 : gI (sI (sI t 64 r (iZ (T : Int))) 58 r (-1)) 62 r = iZ (w : Int) := by rw [g_sI_ne (by omega), g_sI_ne (by omega)]; exact h62
  rw [e62, gd_t i12, gd_t i12]
  by_cases q : c = 0
  · subst q
    rw [if_pos (by rw [hx]; rfl)]
    refine ⟨_, rfl, ?_, ?_, ?_, fun a b n => ?_⟩
    · rw [g_sI_ne (by omega), g_sI_ne (by omega), g_sI_eq]
    · rw [g_sI_ne (by omega), g_sI_eq]
    · rw [g_sI_eq, show (0 : Int32) = iZ 0 from rfl, iZ_add]; rfl
    · rw [g_sI_ne (by omega), g_sI_ne (by omega), g_sI_ne (by omega)]
  · have c1 : c = 1 := by omega
    subst c1
    rw [if_neg (by rw [hx]; decide)]
    refine ⟨_, rfl, ?_, ?_, ?_, fun a b n => ?_⟩
    · rw [g_sI_ne (by omega), g_sI_ne (by omega), g_sI_eq]
    · rw [g_sI_ne (by omega), g_sI_eq]
    · rw [g_sI_eq, show (1 : Int32) = iZ 1 from rfl, iZ_add]; rfl
    · rw [g_sI_ne (by omega), g_sI_ne (by omega), g_sI_ne (by omega)]
