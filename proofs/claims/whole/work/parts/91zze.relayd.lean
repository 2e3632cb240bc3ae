/-! RELAY: the start -/
def P00 (tp : Nat) (D : Nat → Nat) : Nat → Nat → Nat := fun r i => if i = 0 then D r else if i = 1 then (if r < tp then 1 else 0) else 0
theorem P00_z (tp : Nat) (D : Nat → Nat) (r : Nat) {i : Nat} (h : 2 ≤ i) : P00 tp D r i = 0 := by
  unfold P00
  rw [if_neg (by omega), if_neg (by omega)]
theorem c_set {R N tp : Nat} {gt D : Nat → Nat} (hR : R ≤ 12) (htp : tp ≤ R) (hN : N < 10 ^ 9) : ∀ m n k : Nat, ∀ s : St, k + m = R → m < n → (∀ r, r < k → clL (gt r) (dgN N r) s r (P00 tp D r)) → gI s 27 10 = iZ (R : Int) → (∀ r, r < R → gI s 2 r = iZ (D r : Int) ∧ gI s 3 r = iZ (gt r : Int)) →
    ∃ s', f_X0_setOut_49 1 n (iZ (N : Int)) (iZ ((tp : Int) - 1)) (iZ (k : Int)) s = some s' ∧ clH R gt (dgN N) s' (P00 tp D) ∧ (∀ a b, a < 28 → gI s' a b = gI s a b) := by
  intro m
  induction m with
  | zero =>
    intro n k s e hn h h10 hv
    cases n with
    | zero => omega
    | succ n =>
      have ek : k = R := by omega
      subst ek
      rw [f_X0_setOut_49, h10, if_pos (by rw [leI]; exact Int.le_refl _)]
      exact ⟨s, rfl, h, fun _ _ _ => rfl⟩
  | succ m ih =>
    intro n k s e hn h h10 hv
    cases n with
    | zero => omega
    | succ n =>
      have i12 : inb (iZ (k : Int)) 12 = true := iZb (by omega) (by omega)
      obtain ⟨v2, v3⟩ := hv k (by omega)
      rw [f_X0_setOut_49, h10, if_neg (by rw [leI, iZt (by omega), iZt (by omega)]; omega), gd_t i12, gd_t i12, gd_t i12, gd_t i12, iZc (by omega)]
      rw [show gI s (1 + 1) k = iZ (D k : Int) from v2]
      have w3 : gI (sI s 28 k (iZ (D k : Int))) (1 + 2) k = iZ (gt k : Int) := by rw [g_sI_ne (by omega)]; exact v3
      rw [w3]
      obtain ⟨s1, hs1⟩ : ∃ s1, s1 = sI (sI s 28 k (iZ (D k : Int))) 29 k (iZ (gt k : Int)) := ⟨_, rfl⟩
      rw [← hs1]
      have go : ∀ y0 : Int32, y0 = (if k < tp then iZ (dgN N k : Int) else -1) → ∃ s', f_X0_setOut_110 1 (f_X0_setOut_49 1 n) (iZ (N : Int)) (iZ ((tp : Int) - 1)) (iZ (k : Int)) y0 (iZ (k : Int)) s1 = some s' ∧ clH R gt (dgN N) s' (P00 tp D) ∧ (∀ a b, a < 28 → gI s' a b = gI s a b) := by
        intro y0 hy
        unfold f_X0_setOut_110 f_X0_setOut_127 f_X0_setOut_151
        rw [gd_t i12, gd_t i12, gd_t i12, gd_t i12, gd_t i12, gd_t i12, iZc (by omega), iZs]
        obtain ⟨s2, hs2⟩ : ∃ s2, s2 = sI (sI (sI (sI (sI (sI s1 30 k y0) 31 k 0) 32 k 0) 35 k 0) 36 k 0) 37 k (-1) := ⟨_, rfl⟩
        rw [← hs2]
        have so : ∀ a b, (a < 28 ∨ b ≠ k) → gI s2 a b = gI s a b := fun a b hab => by rw [hs2, g_sI_ne (by omega), g_sI_ne (by omega), g_sI_ne (by omega), g_sI_ne (by omega), g_sI_ne (by omega), g_sI_ne (by omega), hs1, g_sI_ne (by omega), g_sI_ne (by omega)]
        obtain ⟨s3, c1, c2, c3⟩ := ih n (k + 1) s2 (by omega) (by omega) (fun r hr => by
          by_cases w : r = k
          · subst w
            have z : ∀ i, 2 ≤ i → P00 tp D r i = 0 := fun i hi => P00_z tp D r hi
            refine ⟨?_, ?_, ?_, ?_, ?_, fun q => ?_, ?_, ?_⟩
            · rw [hs2, g_sI_ne (by omega), g_sI_ne (by omega), g_sI_ne (by omega), g_sI_ne (by omega), g_sI_ne (by omega), g_sI_ne (by omega), hs1, g_sI_ne (by omega), g_sI_eq]; rfl
            · rw [hs2, g_sI_ne (by omega), g_sI_ne (by omega), g_sI_ne (by omega), g_sI_ne (by omega), g_sI_ne (by omega), g_sI_ne (by omega), hs1, g_sI_eq]
            · rw [hs2, g_sI_ne (by omega), g_sI_ne (by omega), g_sI_ne (by omega), g_sI_ne (by omega), g_sI_ne (by omega), g_sI_eq, hy]
              have e1 : P00 tp D r 1 = if r < tp then 1 else 0 := rfl
              by_cases v : r < tp
              · rw [if_pos v, if_pos (by rw [e1, if_pos v])]
              · rw [if_neg v, if_neg (by rw [e1, if_neg v]; omega)]
            · rw [hs2, g_sI_ne (by omega), g_sI_ne (by omega), g_sI_ne (by omega), g_sI_ne (by omega), g_sI_eq, z 2 (by omega)]; rfl
            · rw [hs2, g_sI_ne (by omega), g_sI_ne (by omega), g_sI_ne (by omega), g_sI_eq, z 3 (by omega)]; rfl
            · rw [z 3 (by omega)] at q; omega
            · rw [hs2, g_sI_ne (by omega), g_sI_eq, z 7 (by omega)]; rfl
            · rw [hs2, g_sI_eq, z 8 (by omega)]; rfl
          · have hr' := h r (by omega)
            have same : ∀ y, gI s2 y r = gI s y r := fun y => so y r (Or.inr w)
            unfold clL at hr' ⊢
            rw [same, same, same, same, same, same, same, same, same, same]
            exact hr') (by rw [so _ _ (Or.inl (by omega))]; exact h10) (fun r hr => by rw [so _ _ (Or.inl (by omega)), so _ _ (Or.inl (by omega))]; exact hv r hr)
        exact ⟨s3, c1, c2, fun a b hab => by rw [c3 a b hab, so a b (Or.inl hab)]⟩
      unfold f_X0_setOut_86
      by_cases c : k < tp
      · have N64 : (iZ (N : Int)).toInt64 = jZ (N : Int) := iZ_l (by omega) (by omega)
        rw [if_neg (by rw [lI, iZ_toInt (by omega) (by omega), iZt (by omega)]; omega), N64, bnd (s_digitOf9 s1 N k (by omega) (by omega))]
        exact go _ (by rw [if_pos c])
      · rw [if_pos (by rw [lI, iZ_toInt (by omega) (by omega), iZt (by omega)]; omega)]
        exact go _ (by rw [if_neg c])
theorem m_set77 {K : Nat} {x1 x3 x4 : Int32} (hK : K ≤ 9) : ∀ m n k : Nat, ∀ t : St, k + m = K → m < n → (∀ d, d < k → gI t 65 d = -1) → ∃ t', f_X10_relayOf_77 n x1 (iZ (K : Int)) x3 x4 (iZ (k : Int)) t = f_X10_relayOf_103 FU x1 (iZ (K : Int)) x3 x4 0 0 t' ∧ (∀ d, d < K → gI t' 65 d = -1) ∧ (∀ a b, a ≠ 65 → gI t' a b = gI t a b) := by
  intro m
  induction m with
  | zero =>
    intro n k t e hn h
    cases n with
    | zero => omega
    | succ n =>
      have ek : k = K := by omega
      subst ek
      rw [f_X10_relayOf_77, if_pos (by rw [leI]; exact Int.le_refl _)]
      exact ⟨t, rfl, h, fun _ _ _ => rfl⟩
  | succ m ih =>
    intro n k t e hn h
    cases n with
    | zero => omega
    | succ n =>
      have i9 : inb (iZ (k : Int)) 9 = true := iZb (by omega) (by omega)
      rw [f_X10_relayOf_77, if_neg (by rw [leI, iZt (by omega), iZt (by omega)]; omega), gd_t i9, iZc (by omega), iZs]
      obtain ⟨t', a1, a2, a3⟩ := ih n (k + 1) (sI t 65 k (-1)) (by omega) (by omega) (fun d hd => by
        by_cases w : d = k
        · subst w; rw [g_sI_eq]
        · rw [g_sI_ne (by omega)]; exact h d (by omega))
      exact ⟨t', a1, a2, fun a b hab => by rw [a3 a b hab, g_sI_ne (by omega)]⟩
theorem m_set11 {R tp : Nat} {gt D : Nat → Nat} {x1 x2 x3 x4 : Int32} (hR : R ≤ 12) : ∀ m n k : Nat, ∀ t : St, k + m = R → m < n → (∀ r, r < k → moL (gt r) tp t r (P00 tp D r)) → gI t 38 1 = iZ (R : Int) → (∀ r, r < R → gI t 46 r = iZ (D r : Int) ∧ gI t 44 r = iZ (gt r : Int)) →
    ∃ t', f_X10_relayOf_11 n x1 x2 x3 x4 (iZ (k : Int)) t = f_X10_relayOf_77 FU x1 x2 x3 x4 0 t' ∧ moH R gt tp t' (P00 tp D) ∧ (∀ a b, a < 58 → gI t' a b = gI t a b) := by
  intro m
  induction m with
  | zero =>
    intro n k t e hn h h1 hv
    cases n with
    | zero => omega
    | succ n =>
      have ek : k = R := by omega
      subst ek
      rw [f_X10_relayOf_11, h1, if_pos (by rw [leI]; exact Int.le_refl _)]
      exact ⟨t, rfl, h, fun _ _ _ => rfl⟩
  | succ m ih =>
    intro n k t e hn h h1 hv
    cases n with
    | zero => omega
    | succ n =>
      have i12 : inb (iZ (k : Int)) 12 = true := iZb (by omega) (by omega)
      have i19 : inb (iZ (k : Int)) 19 = true := iZb (by omega) (by omega)
      obtain ⟨v2, v3⟩ := hv k (by omega)
      have z0 : (0 : Int32) + iZ (k : Int) = iZ (k : Int) := by rw [show (0 : Int32) = iZ 0 from rfl, iZ_add, Int.zero_add]
      rw [f_X10_relayOf_11, h1, if_neg (by rw [leI, iZt (by omega), iZt (by omega)]; omega), gd_t i12, gd_t i12, gd_t i12]
      unfold f_X10_relayOf_44 f_X10_relayOf_68
      rw [z0, gd_t i12, gd_t i19, gd_t i12, iZc (by omega), iZs]
      have w46 : gI (sI (sI (sI (sI t 58 k (-1)) 61 k 0) 62 k 0) 63 k 0) 46 k = iZ (D k : Int) := by rw [g_sI_ne (by omega), g_sI_ne (by omega), g_sI_ne (by omega), g_sI_ne (by omega)]; exact v2
      rw [w46]
      obtain ⟨t1, ht1⟩ : ∃ t1, t1 = sI (sI (sI (sI (sI t 58 k (-1)) 61 k 0) 62 k 0) 63 k 0) 64 k (iZ (D k : Int)) := ⟨_, rfl⟩
      rw [← ht1]
      have so : ∀ a b, (a < 58 ∨ b ≠ k) → gI t1 a b = gI t a b := fun a b hab => by rw [ht1, g_sI_ne (by omega), g_sI_ne (by omega), g_sI_ne (by omega), g_sI_ne (by omega), g_sI_ne (by omega)]
      obtain ⟨t2, c1, c2, c3⟩ := ih n (k + 1) t1 (by omega) (by omega) (fun r hr => by
        by_cases w : r = k
        · subst w
          have z : ∀ i, 2 ≤ i → P00 tp D r i = 0 := fun i hi => P00_z tp D r hi
          refine ⟨?_, ?_, ?_, ?_, ?_, fun q => ?_, ?_⟩
          · rw [ht1, g_sI_eq]; rfl
          · rw [so 44 r (Or.inl (by omega))]; exact v3
          · rw [ht1, g_sI_ne (by omega), g_sI_ne (by omega), g_sI_ne (by omega), g_sI_eq]
            have e1 : P00 tp D r 1 = if r < tp then 1 else 0 := rfl
            rw [if_neg (fun q => by have a := q.2; rw [e1, if_pos q.1] at a; omega)]
          · rw [ht1, g_sI_ne (by omega), g_sI_eq, z 2 (by omega)]; rfl
          · rw [ht1, g_sI_ne (by omega), g_sI_ne (by omega), g_sI_ne (by omega), g_sI_ne (by omega), g_sI_eq, if_neg (by rw [z 3 (by omega)]; omega)]
          · rw [z 3 (by omega)] at q; omega
          · rw [ht1, g_sI_ne (by omega), g_sI_ne (by omega), g_sI_eq, z 7 (by omega)]; rfl
        · have hr' := h r (by omega)
          have same : ∀ y, gI t1 y r = gI t y r := fun y => so y r (Or.inr w)
          unfold moL at hr' ⊢
          rw [same, same, same, same, same, same, same, same]
          exact hr') (by rw [so _ _ (Or.inl (by omega))]; exact h1) (fun r hr => by rw [so _ _ (Or.inl (by omega)), so _ _ (Or.inl (by omega))]; exact hv r hr)
      exact ⟨t2, c1, c2, fun a b hab => by rw [c3 a b hab, so a b (Or.inl hab)]⟩
theorem INV_0 {R K sh tp N : Nat} {D : Nat → Nat} (hD : ∀ r, r < R → D r ≤ 9) : INV R K 0 sh tp (dgN N) (P00 tp D) (fun _ => 0) (fun _ => 0) (K : Int) := by
  have z : ∀ r i, 2 ≤ i → P00 tp D r i = 0 := fun r i hi => P00_z tp D r hi
  have e1 : ∀ r, P00 tp D r 1 = if r < tp then 1 else 0 := fun r => rfl
  have oz : ∀ r, oA (P00 tp D r) = 0 := fun r => by
    unfold oA
    rw [z r 7 (by omega), z r 8 (by omega), z r 3 (by omega)]
    rfl
  refine ⟨fun r hr => ⟨hD r hr, ?_, ?_, ?_, fun q => ?_, fun q => ?_, ?_, ?_, fun q => ?_⟩, ⟨fun r hr => ?_, ?_⟩, ⟨fun d _ h => absurd rfl h, fun r hr => ?_, ?_⟩, fun r hr => ⟨fun q => ?_, fun q => ?_⟩, fun r hr h q => ?_⟩
  · rw [e1]; split <;> omega
  · rw [z r 3 (by omega)]; omega
  · rw [z r 9 (by omega)]; omega
  · rw [z r 3 (by omega)] at q; omega
  · rw [e1] at q
    by_cases c : r < tp
    · exact c
    · rw [if_neg c] at q; omega
  · rw [z r 2 (by omega), z r 10 (by omega)]; omega
  · rw [oz]; omega
  · rw [z r 9 (by omega)] at q; omega
  · rw [oz, z _ 2 (by omega), z _ 10 (by omega)]; omega
  · rw [z _ 2 (by omega), z _ 10 (by omega)]
  · rw [z r 8 (by omega), if_pos rfl]
    exact Eq.trans (esum_cg K (g := fun _ => 0) (fun d _ => if_neg (fun w => w.1 rfl))) (esum_z K)
  · have := esum_c 1 K
    rw [Int.mul_one] at this
    rw [← this]
    exact esum_cg K (fun d _ => (if_pos rfl).symm)
  · rw [z r 3 (by omega)] at q; omega
  · exact absurd (z r 8 (by omega)) q
  · rw [e1, if_pos h] at q; omega
theorem Phi_0 {R tp : Nat} {D : Nat → Nat} (hR : R ≤ 12) : Phi R 0 (P00 tp D) ≤ 4000 := by
  have a := esum_le (f := fun r => (phi 0 (P00 tp D r) : Int)) (g := fun _ => 285) R (fun r _ => by
    have z : ∀ i, 2 ≤ i → P00 tp D r i = 0 := fun i hi => P00_z tp D r hi
    have e1 : P00 tp D r 1 ≤ 1 := by show (if r < tp then 1 else 0) ≤ 1; split <;> omega
    show (phi 0 (P00 tp D r) : Int) ≤ 285
    unfold phi
    rw [z 3 (by omega), z 9 (by omega), z 7 (by omega), z 8 (by omega), z 2 (by omega), if_neg (by omega), if_pos rfl]
    omega)
  rw [esum_c] at a
  unfold Phi
  omega
