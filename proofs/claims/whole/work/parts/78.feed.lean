/-! FEED -/
def nzN (v : Int32) : Nat := if v = 0 then 0 else 1
def cntN (b : Nat → Int32) : Nat → Nat → Nat
  | 0, _ => 0
  | m + 1, k => nzN (b k) + cntN b m (k + 1)
def putB (c d f : Nat) (τ : St) (v : Int32) : St := if v = 0 then τ else sI (sI τ c (gI τ d f).toNatClampNeg v) d f (gI τ d f + 1)
def wrB (c d f : Nat) (b : Nat → Int32) : Nat → Nat → St → St
  | 0, _, τ => τ
  | m + 1, k, τ => wrB c d f b m (k + 1) (putB c d f τ (b k))
theorem cntN_le {b : Nat → Int32} : ∀ m k : Nat, cntN b m k ≤ m
  | 0, _ => Nat.le_refl _
  | m + 1, k => by
    have := cntN_le (b := b) m (k + 1)
    show nzN (b k) + cntN b m (k + 1) ≤ m + 1
    unfold nzN
    split <;> omega
theorem cntN_add {b : Nat → Int32} : ∀ m l k : Nat, cntN b (m + l) k = cntN b m k + cntN b l (k + m)
  | 0, l, k => by rw [Nat.zero_add]; show _ = 0 + _; rw [Nat.zero_add, Nat.add_zero]
  | m + 1, l, k => by
    rw [show m + 1 + l = (m + l) + 1 by omega]
    show nzN (b k) + cntN b (m + l) (k + 1) = nzN (b k) + cntN b m (k + 1) + cntN b l (k + (m + 1))
    rw [cntN_add m l (k + 1), show k + 1 + m = k + (m + 1) by omega]; omega
theorem wrB_add {c d f : Nat} {b : Nat → Int32} : ∀ m l k : Nat, ∀ τ : St, wrB c d f b (m + l) k τ = wrB c d f b l (k + m) (wrB c d f b m k τ)
  | 0, l, k, τ => by rw [Nat.zero_add, Nat.add_zero]; rfl
  | m + 1, l, k, τ => by
    rw [show m + 1 + l = (m + l) + 1 by omega]
    show wrB c d f b (m + l) (k + 1) (putB c d f τ (b k)) = wrB c d f b l (k + (m + 1)) (wrB c d f b m (k + 1) (putB c d f τ (b k)))
    rw [wrB_add m l (k + 1), show k + 1 + m = k + (m + 1) by omega]
theorem cntN_sh {b e : Nat → Int32} (s : Nat) : ∀ m k : Nat, (∀ j, k ≤ j → j < k + m → e j = b (s + j)) → cntN e m k = cntN b m (s + k)
  | 0, _, _ => rfl
  | m + 1, k, h => by
    show nzN (e k) + cntN e m (k + 1) = nzN (b (s + k)) + cntN b m (s + k + 1)
    rw [h k (by omega) (by omega), cntN_sh s m (k + 1) (fun j h1 h2 => h j (by omega) (by omega)), show s + (k + 1) = s + k + 1 by omega]
theorem wrB_sh {c d f : Nat} {b e : Nat → Int32} (s : Nat) : ∀ m k : Nat, ∀ τ : St, (∀ j, k ≤ j → j < k + m → e j = b (s + j)) → wrB c d f e m k τ = wrB c d f b m (s + k) τ
  | 0, _, _, _ => rfl
  | m + 1, k, τ, h => by
    show wrB c d f e m (k + 1) (putB c d f τ (e k)) = wrB c d f b m (s + k + 1) (putB c d f τ (b (s + k)))
    rw [h k (by omega) (by omega), wrB_sh s m (k + 1) _ (fun j h1 h2 => h j (by omega) (by omega)), show s + (k + 1) = s + k + 1 by omega]
theorem putB_len {c d f : Nat} {τ : St} {v : Int32} (hcd : c ≠ d) : gI (putB c d f τ v) d f = gI τ d f + iZ (nzN v : Int) := by
  unfold putB nzN
  by_cases q : v = 0
  · rw [if_pos q, if_pos q]
    show _ = gI τ d f + 0
    rw [Int32.add_zero]
  · rw [if_neg q, if_neg q, g_sI_eq]
    rfl
theorem putB_o {c d f : Nat} {τ : St} {v : Int32} {a b : Nat} (h1 : a ≠ c) (h2 : a ≠ d) : gI (putB c d f τ v) a b = gI τ a b := by
  unfold putB
  by_cases q : v = 0
  · rw [if_pos q]
  · rw [if_neg q, g_sI_ne (by omega), g_sI_ne (by omega)]
theorem wrB_o {c d f : Nat} {b : Nat → Int32} {x y : Nat} (h1 : x ≠ c) (h2 : x ≠ d) : ∀ m k : Nat, ∀ τ : St, gI (wrB c d f b m k τ) x y = gI τ x y
  | 0, _, _ => rfl
  | m + 1, k, τ => by
    show gI (wrB c d f b m (k + 1) (putB c d f τ (b k))) x y = _
    rw [wrB_o h1 h2 m (k + 1), putB_o h1 h2]
theorem iZ_nz01 (v : Int32) : (iZ (nzN v : Int)).toInt = nzN v := iZt (by unfold nzN; split <;> omega)
theorem wrB_len {c d f : Nat} {b : Nat → Int32} (hcd : c ≠ d) : ∀ m k : Nat, ∀ τ : St, 0 ≤ (gI τ d f).toInt → (gI τ d f).toInt + m < 2147483648 → (gI (wrB c d f b m k τ) d f).toInt = (gI τ d f).toInt + cntN b m k
  | 0, _, τ, _, _ => by show _ = _ + 0; rw [Int.add_zero]; rfl
  | m + 1, k, τ, h1, h2 => by
    show (gI (wrB c d f b m (k + 1) (putB c d f τ (b k))) d f).toInt = _ + ((nzN (b k) + cntN b m (k + 1) : Nat) : Int)
    have hz : nzN (b k) ≤ 1 := by unfold nzN; split <;> omega
    have e : (gI (putB c d f τ (b k)) d f).toInt = (gI τ d f).toInt + nzN (b k) := by
      rw [putB_len hcd, tadd (by rw [iZ_nz01]; omega) (by rw [iZ_nz01]; omega), iZ_nz01]
    rw [wrB_len hcd m (k + 1) _ (by omega) (by omega), e]; omega
theorem wrB_two {c d f c' d' f' : Nat} {b : Nat → Int32} (hcd : c ≠ d) (hcd' : c' ≠ d') : ∀ m k : Nat, ∀ τ τ' : St, gI τ' d' f' = gI τ d f → gI τ' c' = gI τ c → gI (wrB c' d' f' b m k τ') d' f' = gI (wrB c d f b m k τ) d f ∧ gI (wrB c' d' f' b m k τ') c' = gI (wrB c d f b m k τ) c
  | 0, _, _, _, h1, h2 => ⟨h1, h2⟩
  | m + 1, k, τ, τ', h1, h2 => by
    refine wrB_two hcd hcd' m (k + 1) (putB c d f τ (b k)) (putB c' d' f' τ' (b k)) ?_ ?_
    · rw [putB_len hcd, putB_len hcd', h1]
    · unfold putB
      by_cases q : b k = 0
      · rw [if_pos q, if_pos q, h2]
      · rw [if_neg q, if_neg q, g_sI_c hcd', g_sI_c hcd, h1]
        funext j
        by_cases e : j = (gI τ d f).toNatClampNeg
        · rw [e, g_sI_eq, g_sI_eq]
        · rw [g_sI_ne (by omega), g_sI_ne (by omega), h2]
theorem wrB_rg {c d f : Nat} {b : Nat → Int32} (hcd : c ≠ d) (hb : ∀ j, rg (b j) 0 255) : ∀ m k : Nat, ∀ τ : St, (∀ j, rg (gI τ c j) 0 255) → ∀ j, rg (gI (wrB c d f b m k τ) c j) 0 255
  | 0, _, _, h => h
  | m + 1, k, τ, h => by
    refine wrB_rg hcd hb m (k + 1) (putB c d f τ (b k)) (fun j => ?_)
    unfold putB
    by_cases q : b k = 0
    · rw [if_pos q]; exact h j
    · rw [if_neg q, g_sI_c hcd]
      by_cases e : j = (gI τ d f).toNatClampNeg
      · rw [e, g_sI_eq]; exact hb k
      · rw [g_sI_ne (by omega)]; exact h j
/-- byte j of a word -/
abbrev byW (x : Int32) (j : Nat) : Int32 := (ushI x (iZ (24 - 8 * (j : Int)))) &&& 255
theorem sh8 (j : Nat) : iZ (24 - 8 * (j : Int)) + (-8) = iZ (24 - 8 * ((j + 1 : Nat) : Int)) := by
  have h : (-8 : Int32) = iZ (-8) := rfl
  rw [h, iZ_add]; congr 1; omega
theorem s_bytesIn_go (x : Int32) (σ : St) : ∀ m n j : Nat, ∀ a : Int32, j + m = 4 → m < n → f_X9_bytesIn_5 n x a (iZ (24 - 8 * (j : Int))) σ = some (a + iZ (cntN (byW x) m j : Int), σ) := by
  intro m
  induction m with
  | zero =>
    intro n j a e hn
    cases n with
    | zero => omega
    | succ n =>
      rw [f_X9_bytesIn_5, if_pos (by rw [lI, iZ_toInt (by omega) (by omega), t_0]; omega)]
      show _ = some (a + 0, σ)
      rw [Int32.add_zero]
  | succ m ih =>
    intro n j a e hn
    cases n with
    | zero => omega
    | succ n =>
      rw [f_X9_bytesIn_5, if_neg (by rw [lI, iZ_toInt (by omega) (by omega), t_0]; omega)]
      unfold f_X9_bytesIn_25 f_X9_bytesIn_27
      rw [sh8, ih n (j + 1) _ (by omega) (by omega), ih n (j + 1) _ (by omega) (by omega)]
      have e2 : ((cntN (byW x) (m + 1) j : Nat) : Int) = (nzN (byW x j) : Int) + (cntN (byW x) m (j + 1) : Int) := by
        show ((nzN (byW x j) + cntN (byW x) m (j + 1) : Nat) : Int) = _
        omega
      rw [e2, ← iZ_add, ← Int32.add_assoc]
      by_cases q : byW x j = 0
      · have e3 : nzN (byW x j) = 0 := if_pos q
        rw [if_pos q, e3]; rfl
      · have e3 : nzN (byW x j) = 1 := if_neg q
        rw [if_neg q, e3]; rfl
theorem s_bytesIn (x : Int32) (σ : St) : f_X9_bytesIn x σ = some (iZ (cntN (byW x) 4 0 : Int), σ) := by
  have := s_bytesIn_go x σ 4 FU 0 0 (by omega) (by unfold FU; omega)
  rw [Int32.zero_add] at this
  exact this
theorem s_write_go (x : Int32) : ∀ m n j : Nat, ∀ τ : St, j + m = 4 → m < n → 0 ≤ (gI τ 11 1).toInt → (gI τ 11 1).toInt + cntN (byW x) m j ≤ 160 → f_X5_write_3 n x (iZ (24 - 8 * (j : Int))) τ = some (wrB 12 11 1 (byW x) m j τ) := by
  intro m
  induction m with
  | zero =>
    intro n j τ e hn h1 h2
    cases n with
    | zero => omega
    | succ n =>
      rw [f_X5_write_3, if_pos (by rw [lI, iZ_toInt (by omega) (by omega), t_0]; omega)]
      rfl
  | succ m ih =>
    intro n j τ e hn h1 h2
    cases n with
    | zero => omega
    | succ n =>
      rw [f_X5_write_3, if_neg (by rw [lI, iZ_toInt (by omega) (by omega), t_0]; omega)]
      unfold f_X5_write_15 f_X5_write_49
      have h3 : (gI τ 11 1).toInt + ((nzN (byW x j) + cntN (byW x) m (j + 1) : Nat) : Int) ≤ 160 := h2
      rw [sh8]
      show _ = some (wrB 12 11 1 (byW x) m (j + 1) (putB 12 11 1 τ (byW x j)))
      have hl : (gI (putB 12 11 1 τ (byW x j)) 11 1).toInt = (gI τ 11 1).toInt + nzN (byW x j) := by
        have hz : nzN (byW x j) ≤ 1 := by unfold nzN; split <;> omega
        rw [putB_len (by omega), tadd (by rw [iZ_nz01]; omega) (by rw [iZ_nz01]; omega), iZ_nz01]
      rw [← ih n (j + 1) (putB 12 11 1 τ (byW x j)) (by omega) (by omega) (by rw [hl]; omega) (by rw [hl]; omega)]
      unfold putB
      by_cases q : byW x j = 0
      · rw [if_pos q, if_pos q]
      · have e3 : nzN (byW x j) = 1 := if_neg q
        rw [if_neg q, if_neg q, if_neg (by rw [leI, t_160]; omega), gd_t (inb_i h1 (by omega)), g_sI_c (by omega)]
theorem s_write (x : Int32) (τ : St) (h1 : 0 ≤ (gI τ 11 1).toInt) (h2 : (gI τ 11 1).toInt + cntN (byW x) 4 0 ≤ 160) : f_X5_write x τ = some (wrB 12 11 1 (byW x) 4 0 τ) :=
  s_write_go x 4 FU 0 τ (by omega) (by unfold FU; omega) h1 h2
