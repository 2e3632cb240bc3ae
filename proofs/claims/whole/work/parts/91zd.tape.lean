/-! THE TAPE IS READ -/
def skp (T : Nat → Int32) (N : Nat) : Nat → Nat → Nat
  | 0, a => a
  | m + 1, a => if a < N ∧ T a = 32 then skp T N m (a + 1) else a
def sk (T : Nat → Int32) (N a : Nat) : Nat := skp T N (N - a) a
theorem skp_le (T : Nat → Int32) (N : Nat) : ∀ m a, a ≤ N → skp T N m a ≤ N := by
  intro m
  induction m with
  | zero => intro a h; exact h
  | succ m ih =>
    intro a h
    show (if a < N ∧ T a = 32 then skp T N m (a + 1) else a) ≤ N
    by_cases q : a < N ∧ T a = 32
    · rw [if_pos q]; exact ih (a + 1) (by omega)
    · rw [if_neg q]; exact h
theorem skp_end (T : Nat → Int32) (N : Nat) : ∀ m a, N ≤ a + m → ¬ (skp T N m a < N ∧ T (skp T N m a) = 32) := by
  intro m
  induction m with
  | zero => intro a h q; have : a < N := q.1; omega
  | succ m ih =>
    intro a h
    show ¬ ((if a < N ∧ T a = 32 then skp T N m (a + 1) else a) < N ∧ T (if a < N ∧ T a = 32 then skp T N m (a + 1) else a) = 32)
    by_cases q : a < N ∧ T a = 32
    · rw [if_pos q]; exact ih (a + 1) (by omega)
    · rw [if_neg q]; exact q
theorem sk_le {T : Nat → Int32} {N a : Nat} (h : a ≤ N) : sk T N a ≤ N := skp_le T N _ a h
theorem sk_end {T : Nat → Int32} {N a : Nat} : ¬ (sk T N a < N ∧ T (sk T N a) = 32) := skp_end T N _ a (by omega)
theorem sk_id {T : Nat → Int32} {N a : Nat} (h : ¬ (a < N ∧ T a = 32)) : sk T N a = a := by
  unfold sk
  cases e : N - a with
  | zero => rfl
  | succ m => exact if_neg h
theorem sk_sk {T : Nat → Int32} {N a : Nat} : sk T N (sk T N a) = sk T N a := sk_id sk_end
def hr (T : Nat → Int32) (N a : Nat) : Int32 := if a < N then T a else -1
def okTp (T : Nat → Int32) (N : Nat) : Prop := N ≤ 160 ∧ ∀ j, rg (T j) 0 255
abbrev dgT (T : Nat → Int32) (N a : Nat) : Prop := a < N ∧ 48 ≤ (T a).toInt ∧ (T a).toInt ≤ 57
abbrev odT (T : Nat → Int32) (N a : Nat) : Prop := a < N ∧ 49 ≤ (T a).toInt ∧ (T a).toInt ≤ 57
def At9 (T : Nat → Int32) (N a : Nat) (σ : St) : Prop := gI σ 11 1 = iZ (N : Int) ∧ gI σ 12 = T ∧ gI σ 11 4 = iZ (a : Int)
def At10 (T : Nat → Int32) (N a : Nat) (w : Int32) (τ : St) : Prop := gI τ 38 3 = iZ (N : Int) ∧ gI τ 39 = T ∧ gI τ 38 4 = iZ (a : Int) ∧ gI τ 38 5 = w
theorem At9.go {T : Nat → Int32} {N a b : Nat} {σ : St} (h : At9 T N a σ) : At9 T N b (sI σ 11 4 (iZ (b : Int))) := by
  obtain ⟨h1, h2, h3⟩ := h
  exact ⟨by rw [g_sI_ne (by omega)]; exact h1, by rw [g_sI_c (by omega)]; exact h2, g_sI_eq⟩
theorem At9.row {T : Nat → Int32} {N a j : Nat} {v : Int32} {σ : St} (h : At9 T N a σ) : At9 T N a (sI σ 13 j v) := by
  obtain ⟨h1, h2, h3⟩ := h
  exact ⟨by rw [g_sI_ne (by omega)]; exact h1, by rw [g_sI_c (by omega)]; exact h2, by rw [g_sI_ne (by omega)]; exact h3⟩
theorem At10.go {T : Nat → Int32} {N a b : Nat} {w : Int32} {σ : St} (h : At10 T N a w σ) : At10 T N b w (sI σ 38 4 (iZ (b : Int))) := by
  obtain ⟨h1, h2, h3, h4⟩ := h
  exact ⟨by rw [g_sI_ne (by omega)]; exact h1, by rw [g_sI_c (by omega)]; exact h2, g_sI_eq, by rw [g_sI_ne (by omega)]; exact h4⟩
theorem At10.wr {T : Nat → Int32} {N a : Nat} {w v : Int32} {σ : St} (h : At10 T N a w σ) : At10 T N a v (sI σ 38 5 v) := by
  obtain ⟨h1, h2, h3, h4⟩ := h
  exact ⟨by rw [g_sI_ne (by omega)]; exact h1, by rw [g_sI_c (by omega)]; exact h2, by rw [g_sI_ne (by omega)]; exact h3, g_sI_eq⟩
theorem At10.row {T : Nat → Int32} {N a j c : Nat} {w v : Int32} {σ : St} (h : At10 T N a w σ) (hc : 40 ≤ c) : At10 T N a w (sI σ c j v) := by
  obtain ⟨h1, h2, h3, h4⟩ := h
  exact ⟨by rw [g_sI_ne (by omega)]; exact h1, by rw [g_sI_c (by omega)]; exact h2, by rw [g_sI_ne (by omega)]; exact h3, by rw [g_sI_ne (by omega)]; exact h4⟩
theorem c_skip_go {T : Nat → Int32} {N : Nat} (hT : okTp T N) : ∀ m n a : Nat, ∀ σ : St, a + m = N → m < n → At9 T N a σ → ∃ σ', f_X5_skipBlanks_0 n σ = some σ' ∧ At9 T N (skp T N m a) σ' := by
  intro m
  induction m with
  | zero =>
    intro n a σ e hn h
    have hT1 := hT.1
    cases n with
    | zero => omega
    | succ n =>
      refine ⟨σ, ?_, h⟩
      rw [f_X5_skipBlanks_0, h.1, h.2.2, if_pos (by rw [leI, iZt (by omega), iZt (by omega)]; omega)]
      rfl
  | succ m ih =>
    intro n a σ e hn h
    have hT1 := hT.1
    cases n with
    | zero => omega
    | succ n =>
      rw [f_X5_skipBlanks_0, h.1, h.2.2, if_neg (by rw [leI, iZt (by omega), iZt (by omega)]; omega), gd_t (iZb (by omega) (by omega)), iZc (by omega), h.2.1]
      show ∃ σ', _ ∧ At9 T N (if a < N ∧ T a = 32 then skp T N m (a + 1) else a) σ'
      by_cases q : T a = 32
      · rw [if_pos q, if_pos ⟨by omega, q⟩, iZs]
        exact ih n (a + 1) _ (by omega) (by omega) h.go
      · rw [if_neg q, if_neg (fun c => q c.2)]
        exact ⟨σ, rfl, h⟩
theorem c_skip {T : Nat → Int32} {N a : Nat} {σ : St} (hT : okTp T N) (ha : a ≤ N) (h : At9 T N a σ) : ∃ σ', f_X5_skipBlanks σ = some σ' ∧ At9 T N (sk T N a) σ' ∧ frm [] [(11, 4)] σ σ' := by
  have hT1 := hT.1
  obtain ⟨σ', h1, h2⟩ := c_skip_go hT (N - a) FU a σ (by omega) (by unfold FU; omega) h
  exact ⟨σ', h1, h2, fr_X5_skipBlanks h1⟩
theorem c_next {T : Nat → Int32} {N a : Nat} {σ : St} (x : Int32) (hT : okTp T N) (ha : a ≤ N) (h : At9 T N a σ) : f_X5_isNext x σ = some (bZ (a < N ∧ T a = x), σ) := by
  have hT1 := hT.1
  unfold f_X5_isNext f_X5_isNext_28 f_X5_isNext_29
  rw [h.1, h.2.2]
  by_cases q : a < N
  · rw [if_neg (by rw [leI, iZt (by omega), iZt (by omega)]; omega), gd_t (iZb (by omega) (by omega)), iZc (by omega), h.2.1]
    by_cases q2 : T a = x
    · rw [if_pos q2, bZ_t ⟨q, q2⟩]; rfl
    · rw [if_neg q2, bZ_f (fun c => q2 c.2)]; rfl
  · rw [if_pos (by rw [leI, iZt (by omega), iZt (by omega)]; omega), bZ_f (fun c => q c.1)]; rfl
def nuP (T : Nat → Int32) (N : Nat) : Nat → Nat → Nat
  | 0, a => a
  | m + 1, a => if dgT T N a then nuP T N m (a + 1) else a
def nuV (T : Nat → Int32) (N : Nat) : Nat → Nat → Nat → Nat
  | 0, _, v => v
  | m + 1, a, v => if dgT T N a then nuV T N m (a + 1) (10 * v + ((T a).toInt - 48).toNat) else v
theorem nuP_le {T : Nat → Int32} {N : Nat} : ∀ m a, a ≤ N → nuP T N m a ≤ N := by
  intro m
  induction m with
  | zero => intro a h; exact h
  | succ m ih =>
    intro a h
    show (if dgT T N a then nuP T N m (a + 1) else a) ≤ N
    by_cases q : dgT T N a
    · rw [if_pos q]; exact ih (a + 1) (by have := q.1; omega)
    · rw [if_neg q]; exact h
theorem nuP_ge {T : Nat → Int32} {N : Nat} : ∀ m a, a ≤ nuP T N m a := by
  intro m
  induction m with
  | zero => intro a; exact Nat.le_refl _
  | succ m ih =>
    intro a
    show a ≤ (if dgT T N a then nuP T N m (a + 1) else a)
    by_cases q : dgT T N a
    · rw [if_pos q]; have := ih (a + 1); omega
    · rw [if_neg q]; exact Nat.le_refl _
theorem nuV_lt {T : Nat → Int32} {N : Nat} : ∀ m j a v, v < 10 ^ j → nuV T N m a v < 10 ^ (j + m) := by
  intro m
  induction m with
  | zero => intro j a v h; exact h
  | succ m ih =>
    intro j a v h
    show (if dgT T N a then nuV T N m (a + 1) (10 * v + ((T a).toInt - 48).toNat) else v) < _
    by_cases q : dgT T N a
    · rw [if_pos q]
      have := ih (j + 1) (a + 1) (10 * v + ((T a).toInt - 48).toNat) (by have := q.2.2; rw [Nat.pow_succ]; omega)
      rw [show j + (m + 1) = j + 1 + m by omega]; exact this
    · rw [if_neg q]
      exact Nat.lt_of_lt_of_le h (Nat.pow_le_pow_right (by omega) (by omega))
theorem num_next (v : Nat) {x : Int32} (h : 48 ≤ x.toInt) : ((10 * iZ (v : Int)) + x) - 48 = iZ ((10 * v + (x.toInt - 48).toNat : Nat) : Int) := by
  have h10 : (10 : Int32) = iZ 10 := rfl
  have h48 : (48 : Int32) = iZ 48 := rfl
  rw [h10, h48, iZ_mul]
  conv => lhs; rw [← iZ_self x]
  rw [iZ_add, iZ_sub]
  congr 1; omega
theorem t48 {T : Nat → Int32} {N : Nat} (hT : okTp T N) (a : Nat) : (T a - 48).toInt = (T a).toInt - 48 := by
  obtain ⟨h1, h2⟩ := hT.2 a
  exact tsub (by rw [t_48]; omega) (by rw [t_48]; omega)
theorem c_num_go {T : Nat → Int32} {N : Nat} (hT : okTp T N) (x : Int32) (c : Nat) : ∀ m n j v : Nat, ∀ σ : St, j + m = 9 → m < n → c + j ≤ N → At9 T N (c + j) σ → ∃ σ', f_X5_readNumber_7 n x (iZ (c : Int)) (iZ (v : Int)) σ = f_X5_readNumber_78 x (iZ (c : Int)) (iZ (nuV T N m (c + j) v : Int)) σ' ∧ At9 T N (nuP T N m (c + j)) σ' ∧ frm [] [(11, 4)] σ σ' := by
  have hT1 := hT.1
  have e9 : ∀ c : Nat, iZ (c : Int) + 9 = iZ ((c + 9 : Nat) : Int) := fun c => iZa c 9
  intro m
  induction m with
  | zero =>
    intro n j v σ e hn hj h
    cases n with
    | zero => omega
    | succ n =>
      refine ⟨σ, ?_, h, frm.rf σ⟩
      rw [f_X5_readNumber_7, h.1, h.2.2, e9]
      by_cases q : N ≤ c + j
      · rw [if_pos (by rw [leI, iZt (by omega), iZt (by omega)]; omega)]; rfl
      · rw [if_neg (by rw [leI, iZt (by omega), iZt (by omega)]; omega), if_pos (by rw [leI, iZt (by omega), iZt (by omega)]; omega)]; rfl
  | succ m ih =>
    intro n j v σ e hn hj h
    cases n with
    | zero => omega
    | succ n =>
      rw [f_X5_readNumber_7, h.1, h.2.2, e9]
      show ∃ σ', _ = f_X5_readNumber_78 x (iZ (c : Int)) (iZ ((if dgT T N (c + j) then nuV T N m (c + j + 1) (10 * v + ((T (c + j)).toInt - 48).toNat) else v : Nat) : Int)) σ' ∧ At9 T N (if dgT T N (c + j) then nuP T N m (c + j + 1) else c + j) σ' ∧ _
      by_cases q : N ≤ c + j
      · have nd : ¬ dgT T N (c + j) := fun d => by have := d.1; omega
        rw [if_pos (by rw [leI, iZt (by omega), iZt (by omega)]; omega), if_neg nd, if_neg nd]
        exact ⟨σ, rfl, h, frm.rf σ⟩
      · rw [if_neg (by rw [leI, iZt (by omega), iZt (by omega)]; omega), if_neg (by rw [leI, iZt (by omega), iZt (by omega)]; omega), gd_t (iZb (by omega) (by omega)), iZc (by omega), h.2.1, bnd (s_isDigit _ _)]
        have ed : (0 ≤ (T (c + j) - 48).toInt ∧ (T (c + j) - 48).toInt ≤ 9) ↔ dgT T N (c + j) := by
          rw [t48 hT]
          constructor
          · intro d; exact ⟨by omega, by omega, by omega⟩
          · intro d; have := d.2; omega
        by_cases d : dgT T N (c + j)
        · rw [if_neg (by show ¬ bZ _ = 0; rw [bZ_0]; exact not_not_intro (ed.mpr d)), if_pos d, if_pos d]
          rw [h.2.2, gd_t (iZb (by omega) (by omega)), iZc (by omega), h.2.1, num_next v d.2.1]
          unfold f_X5_readNumber_65
          rw [h.2.2, iZs]
          obtain ⟨σ', h1, h2, h3⟩ := ih n (j + 1) (10 * v + ((T (c + j)).toInt - 48).toNat) (sI σ 11 4 (iZ ((c + (j + 1) : Nat) : Int))) (by omega) (by omega) (by have := d.1; omega) h.go
          exact ⟨σ', h1, h2, (frm_sIf (frm.rf σ) (by simp)).tr h3⟩
        · rw [if_pos (by show bZ _ = 0; rw [bZ_0]; exact fun k => d (ed.mp k)), if_neg d, if_neg d]
          exact ⟨σ, rfl, h, frm.rf σ⟩
theorem isbb_bZ {p : Prop} [Decidable p] : isbb (bZ p) = true := by
  unfold bZ
  by_cases hp : p <;> simp [hp, isbb]
theorem c_num {T : Nat → Int32} {N c i : Nat} {σ : St} (hT : okTp T N) (hi : i < 36) (hc : c ≤ N) (h : At9 T N c σ) : ∃ σ', f_X5_readNumber (iZ (i : Int)) σ = some (bZ (dgT T N c), σ') ∧ At9 T N (sk T N (nuP T N 9 c)) σ' ∧ gI σ' 13 i = iZ (nuV T N 9 c 0 : Int) ∧ frm [] [(11, 4), (13, i)] σ σ' := by
  have hT1 := hT.1
  unfold f_X5_readNumber f_X5_readNumber_5
  obtain ⟨σ1, h1, h2, h3⟩ := c_num_go hT (iZ (i : Int)) c 9 FU 0 0 σ (by omega) (by unfold FU; omega) hc h
  have z0 : (0 : Int32) = iZ ((0 : Nat) : Int) := rfl
  rw [h.2.2, z0, h1]
  unfold f_X5_readNumber_78
  rw [gd_t (iZb (by omega) (by omega)), iZc (by omega), g_sI_ne (by omega), h2.2.2]
  have hp := nuP_le (T := T) (N := N) 9 (c + 0) hc
  obtain ⟨σ2, k1, k2, k3⟩ := c_skip (a := nuP T N 9 (c + 0)) hT hp (h2.row (j := i) (v := iZ (nuV T N 9 (c + 0) 0 : Int)))
  refine ⟨σ2, ?_, k2, ?_, ?_⟩
  · unfold f_X5_readNumber_98
    by_cases d : dgT T N c
    · have g : c + 1 ≤ nuP T N 9 (c + 0) := by
        have : nuP T N 9 (c + 0) = nuP T N 8 (c + 1) := if_pos d
        rw [this]; exact nuP_ge 8 (c + 1)
      rw [if_neg (by rw [leI, iZt (by omega), iZt (by omega)]; omega), bnd k1, bZ_t d]; rfl
    · have g : nuP T N 9 (c + 0) = c := if_neg d
      rw [if_pos (by rw [g, leI]; exact Int.le_refl _), bnd k1, bZ_f d]; rfl
  · rw [(k3 13 i (by simp) (by simp)).1, g_sI_eq]; rfl
  · exact (h3.mo (by simp) (by simp)).tr ((frm_sIf (frm.rf σ1) (by simp)).tr (k3.mo (by simp) (by simp)))
theorem c_often {T : Nat → Int32} {N a i : Nat} {σ : St} (hT : okTp T N) (hi : i < 36) (ha : a < N) (h : At9 T N a σ) : ∃ σ', f_X5_readOften (iZ (i : Int)) σ = some (bZ (odT T N (sk T N (a + 1))), σ') ∧ At9 T N (if odT T N (sk T N (a + 1)) then sk T N (sk T N (a + 1) + 1) else sk T N (a + 1)) σ' ∧ (odT T N (sk T N (a + 1)) → gI σ' 13 i = T (sk T N (a + 1)) - 48) ∧ frm [] [(11, 4), (13, i)] σ σ' := by
  have hT1 := hT.1
  unfold f_X5_readOften
  rw [h.2.2, iZs]
  have hb := sk_le (T := T) (N := N) (a := a + 1) (by omega)
  obtain ⟨σ1, h1, h2, h3⟩ := c_skip (a := a + 1) hT (by omega) (h.go (b := a + 1))
  have f1 : frm [] [(11, 4), (13, i)] σ σ1 := (frm_sIf (frm.rf σ) (by simp)).tr (h3.mo (by simp) (by simp))
  rw [bnd h1, h2.1, h2.2.2]
  generalize sk T N (a + 1) = b at h2 hb ⊢
  unfold f_X5_readOften_41 f_X5_readOften_53
  have h9 : (9 : Int32).toInt = 9 := rfl
  by_cases q : b < N
  · rw [if_neg (by rw [leI, iZt (by omega), iZt (by omega)]; omega), gd_t (iZb (by omega) (by omega)), iZc (by omega), h2.2.1]
    have e := t48 hT b
    by_cases d : odT T N b
    · have d2 := d.2
      rw [if_neg (by rw [lI, e, t_1]; omega), if_pos (by rw [leI, e, h9]; omega), gd_t (iZb (by omega) (by omega)), iZc (by omega), g_sI_ne (by omega), h2.2.2, iZs]
      obtain ⟨σ2, k1, k2, k3⟩ := c_skip (a := b + 1) hT (by omega) ((h2.row (j := i) (v := T b - 48)).go (b := b + 1))
      unfold f_X5_readOften_72
      refine ⟨σ2, ?_, ?_, ?_, ?_⟩
      · rw [bnd k1, bZ_t d]
      · rw [if_pos d]; exact k2
      · intro _
        rw [(k3 13 i (by simp) (by simp)).1, g_sI_ne (by omega), g_sI_eq]
      · exact f1.tr ((frm_sIf (frm_sIf (frm.rf σ1) (by simp)) (by simp)).tr (k3.mo (by simp) (by simp)))
    · refine ⟨σ1, ?_, by rw [if_neg d]; exact h2, fun c => absurd c d, f1⟩
      rw [bZ_f d]
      by_cases w : (T b).toInt < 49
      · rw [if_pos (by rw [lI, e, t_1]; omega)]
      · have w2 : ¬ (T b).toInt ≤ 57 := fun c => d ⟨q, by omega, c⟩
        rw [if_neg (by rw [lI, e, t_1]; omega), if_neg (by rw [leI, e, h9]; omega)]
  · have d : ¬ odT T N b := fun c => q c.1
    refine ⟨σ1, ?_, by rw [if_neg d]; exact h2, fun c => absurd c d, f1⟩
    rw [if_pos (by rw [leI, iZt (by omega), iZt (by omega)]; omega), if_pos (by rw [lI, t_0, t_1]; omega), bZ_f d]
